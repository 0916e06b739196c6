/-! gathered. -/
/-- s cells stand from f on, lengths that come to t together where they are lengths (b) -/
def gH (σb : sg_S) (f : Int) (b : Prop) (s t : Int) (σ' : sg_S) : Prop := (sg_g σ' 88 91 = f + s ∧ 0 ≤ s) ∧ (∀ x, 0 ≤ x → x < f → sg_g σ' 142 x = sg_g σb 142 x) ∧ (b → (∀ i, 0 ≤ i → i < s → 0 ≤ sg_g σ' 142 (f + i) ∧ sg_g σ' 142 (f + i) ≤ 200) ∧ cs σ' f s.toNat = t)
theorem gH_p {σb σ1 σ2 σ3 : sg_S} {f s t c : Int} {b : Prop} (h : gH σb f b s t σ1) (hf : 0 ≤ f) (h6 : sg_g σ1 88 91 < 60000) (hc : sg_R c) (hb : b → 0 ≤ c ∧ c ≤ 200) (e2 : σ2 = sg_w σ1 142 (sg_g σ1 88 91) c) (e3 : σ3 = sg_w σ2 88 91 (sg_g σ1 88 91 + 1)) : gH σb f b (s + 1) (t + c) σ3 := by
  obtain ⟨⟨h1, h2⟩, h3, h4⟩ := h
  have ce : sg_g σ3 142 (f + s) = c := by rw [e3, sg_gw_c _ _ _ _ _ _ (by decide), e2, h1, sg_gw_e _ _ _ _ hc]
  have co : ∀ x, ¬ x = f + s → sg_g σ3 142 x = sg_g σ1 142 x := fun x hx => by rw [e3, sg_gw_c _ _ _ _ _ _ (by decide), e2, h1, sg_gw_k _ _ _ _ _ _ hx]
  refine ⟨⟨by rw [e3, sg_gw_e _ _ _ _ ⟨by omega, by omega⟩]; omega, by omega⟩, fun x y z => by rw [co x (by omega)]; exact h3 x y z, fun B => ⟨fun i y z => ?_, ?_⟩⟩
  · by_cases e : i = s
    · rw [e, ce]; exact hb B
    · rw [co _ (by omega)]; exact (h4 B).1 i y (by omega)
  · rw [show (s + 1).toNat = s.toNat + 1 by omega]
    simp only [cs]
    rw [show ((s.toNat : Nat) : Int) = s by omega, ce, cs_e (σ := σ1) (fun j x => co _ (by omega)), (h4 B).2]
theorem gH_F {L : List Nat} {σb σ1 σ2 : sg_S} {f s t : Int} {b : Prop} (F : sg_F L σ1 σ2) (hL : (!sg_cv L 88 91 && sg_ca L 142) = true) (h : gH σb f b s t σ1) : gH σb f b s t σ2 := by
  simp only [Bool.and_eq_true, Bool.not_eq_true'] at hL
  obtain ⟨⟨h1, h2⟩, h3, h4⟩ := h
  have e : ∀ x, sg_g σ2 142 x = sg_g σ1 142 x := fun x => sg_F_ga F hL.2
  refine ⟨⟨by rw [sg_F_g F hL.1]; exact h1, h2⟩, fun x y z => by rw [e]; exact h3 x y z, fun B => ⟨fun i y z => by rw [e]; exact (h4 B).1 i y z, ?_⟩⟩
  rw [cs_e (σ := σ1) (fun j _ => e _)]
  exact (h4 B).2
theorem gH_0 (σ : sg_S) (b : Prop) : gH σ (sg_g σ 88 91) b 0 0 σ := ⟨⟨by omega, Int.le_refl _⟩, fun _ _ _ => rfl, fun _ => ⟨fun i y z => by omega, rfl⟩⟩
section FLG
variable {σ : sg_S} {M : Int} {R : List (Int × Int)}
/-- rows of the gathered value -/
def gR (σ : sg_S) (R : List (Int × Int)) : List (Int × Int) := (List.range R.length).map (fun l => (sg_g σ 88 91 + gT σ R (sg_g σ 88 93).toNat l, gsum σ R l (sg_g σ 88 93).toNat))
theorem gR_l (σ : sg_S) (R : List (Int × Int)) : (gR σ R).length = R.length := by simp [gR]
theorem gR_at {l : Nat} (h : l < R.length) : (gR σ R)[l]? = some (sg_g σ 88 91 + gT σ R (sg_g σ 88 93).toNat l, gsum σ R l (sg_g σ 88 93).toNat) := by
  unfold gR
  rw [List.getElem?_map, List.getElem?_range h]
  rfl
/-- rows before l are there -/
def gG (σ : sg_S) (R : List (Int × Int)) (w : Int) (l : Nat) (σ' : sg_S) : Prop := sg_g σ' 88 91 = sg_g σ 88 91 + gT σ R (sg_g σ 88 93).toNat l ∧ (∀ x, 0 ≤ x → x < sg_g σ 88 91 → sg_g σ' 142 x = sg_g σ 142 x) ∧ (∀ y, y < 4 * w → sg_g σ' 140 y = sg_g σ 140 y ∧ sg_g σ' 141 y = sg_g σ 141 y) ∧ (∀ i : Nat, i < l → sg_g σ' 140 (4 * w + i) = sg_g σ 88 91 + gT σ R (sg_g σ 88 93).toNat i ∧ sg_g σ' 141 (4 * w + i) = gsum σ R i (sg_g σ 88 93).toNat) ∧ ∀ i : Nat, i < l → i + 1 < R.length → fLn σ' (sg_g σ 88 91 + gT σ R (sg_g σ 88 93).toNat i, gsum σ R i (sg_g σ 88 93).toNat) ∧ cs σ' (sg_g σ 88 91 + gT σ R (sg_g σ 88 93).toNat i) (gsum σ R i (sg_g σ 88 93).toNat).toNat = gsum σ R (i + 1) (sg_g σ 88 93).toNat
theorem fCh_mk {σ' : sg_S} : ∀ {K : List (Int × Int)}, (∀ (l : Nat) (r : Int × Int), K[l]? = some r → fRw σ' M r) → (∀ (l : Nat) (r r' : Int × Int), K[l]? = some r → K[l + 1]? = some r' → fLn σ' r ∧ r'.2 = cs σ' r.1 r.2.toNat) → fCh σ' M K
  | [], _, _ => trivial
  | r :: K, h1, h2 => by
    refine ⟨h1 0 r rfl, ?_, fCh_mk (fun l x hx => h1 (l + 1) x (by rw [List.getElem?_cons_succ]; exact hx)) (fun l x y hx hy => h2 (l + 1) x y (by rw [List.getElem?_cons_succ]; exact hx) (by rw [List.getElem?_cons_succ]; exact hy))⟩
    cases K with
    | nil => trivial
    | cons r' K' => exact h2 0 r r' rfl rfl
theorem m_gath {v : Int} {Q : Int → sg_S → Prop} (hv : fV σ M v R) (hM : 1 ≤ M ∧ M ≤ 12000) (hc : 0 ≤ sg_g σ 88 91) (hfl : 0 ≤ sg_g σ 88 87 ∧ sg_g σ 88 87 < 30000) (hl : lnO σ R) (ht : sg_g σ 88 91 + gT σ R (sg_g σ 88 93).toNat R.length ≤ 60000) (k : ∀ q σ', q = sg_g σ 88 87 → fEx σ σ' → (∀ M', (∀ l : Nat, l < R.length → gsum σ R l (sg_g σ 88 93).toNat ≤ M') → fV σ' M' q (gR σ R)) → sg_g σ' 88 87 = sg_g σ 88 87 + 1 → sg_g σ' 88 91 = sg_g σ 88 91 + gT σ R (sg_g σ 88 93).toNat R.length → sg_F [139, 140, 141, 142, 144, 88088, 92088] σ σ' → Q q σ') : V_gathered σ v Q := by
  have hv' := hv
  obtain ⟨a1, a2, a3, a4, a5⟩ := hv
  have l1 := hl.1
  have L12 := fCh_L a5 a2.1
  obtain ⟨J, hJ⟩ : ∃ J : Nat, sg_g σ 88 93 = J := ⟨(sg_g σ 88 93).toNat, by omega⟩
  have tJ : (sg_g σ 88 93).toNat = J := by omega
  have gTb : ∀ l, l ≤ R.length → 0 ≤ gT σ R J l := fun l h => gT_b a5 hl hM.1 (by omega) h
  have gTl : ∀ l, l < R.length → gT σ R J l + gsum σ R l J ≤ gT σ R J R.length := fun l h => gT_l a5 hl hM.1 (by omega) h
  have gsb : ∀ l j : Nat, l < R.length → j ≤ J → 0 ≤ gsum σ R l j := fun l j h h' => gsum_b a5 hl h hM.1 (by omega)
  have gsm : ∀ l j : Nat, l < R.length → j ≤ J → gsum σ R l j ≤ gsum σ R l J := fun l j h h' => gsum_m a5 hl h hM.1 h' (by omega)
  unfold V_gathered
  refine m_findB hv' hM.2 ⟨by have := gTb R.length (Nat.le_refl _); rw [tJ] at ht; omega, by omega⟩ (fun σ2 f2 hb _ => ⟨⟨a1.1, by omega⟩, ?_⟩)
  have g87 : sg_g σ2 88 87 = sg_g σ 88 87 := sg_F_g f2 (by rfl)
  refine m_newF (by omega) (sg_Rg _ _ _) (fun σ9 f9 b1 b2 b3 _ _ => ?_)
  have w0 : sg_g σ2 88 87 = sg_g σ 88 87 := g87
  generalize hw : sg_g σ2 88 87 = w at *
  have F9 : sg_F [139, 144, 88088] σ σ9 := sg_F_t (sg_F_m f2 rfl) (sg_F_m f9 rfl)
  have d9 : sg_g σ9 139 v = R.length - 1 := by rw [b3 v (by omega), sg_F_ga f2 rfl]; exact a3
  rw [d9, hJ]
  rw [tJ] at ht
  have G0 : gG σ R w 0 σ9 := by
    refine ⟨?_, fun x _ _ => sg_F_ga F9 rfl, fun y _ => ⟨sg_F_ga F9 rfl, sg_F_ga F9 rfl⟩, fun i h => by omega, fun i h => by omega⟩
    rw [sg_F_g F9 (by rfl)]
    simp only [gT]
    omega
  refine ⟨fun n x σ15 => n = (R.length - x).toNat ∧ (0 ≤ x ∧ x ≤ R.length) ∧ gG σ R w x.toNat σ15, fun σ15 => gG σ R w R.length σ15, ⟨_, rfl, ⟨by omega, by omega⟩, G0⟩, ?_, ?_⟩
  · rintro n x σ15 rx f15 ⟨en, hx, hG⟩
    refine ⟨fun z => by rw [show R.length = x.toNat by omega]; exact hG, fun z => ?_⟩
    obtain ⟨X, rfl⟩ : ∃ X : Nat, x = X := ⟨x.toNat, by omega⟩
    rw [show ((X : Int)).toNat = X by omega] at hG
    obtain ⟨G1, G2, G3, G4, G5⟩ := hG
    rw [tJ] at G1 G4 G5
    have XR : X < R.length := by omega
    obtain ⟨q, hq⟩ : ∃ q, R[X]? = some q := ⟨_, List.getElem?_eq_getElem XR⟩
    have zq := a4 X q hq
    obtain ⟨w1, w2⟩ := fCh_at a5 hq
    have bX := gTb X (by omega)
    have bX2 := gTl X XR
    obtain ⟨f, hf⟩ : ∃ f, f = sg_g σ 88 91 + gT σ R J X := ⟨_, rfl⟩
    rw [← hf] at G1
    refine ⟨⟨by omega, by omega⟩, ⟨by omega, by omega⟩, ⟨by omega, by omega⟩, fun σ33 e33 => ?_⟩
    have f33 : sg_F [140] σ15 σ33 := by rw [e33]; exact sg_F_w (sg_F_r _ _) rfl _
    have fr33 : sg_g σ33 140 (4 * v + X) = q.1 := by
      rw [e33, sg_gw_k _ _ _ _ _ _ (by omega), (G3 _ (by omega)).1]; exact zq.1
    have own33 : sg_g σ33 140 (4 * w + X) = f := by rw [e33, sg_gw_e _ _ _ _ (sg_Rg _ _ _)]; exact G1
    rw [fr33, own33]
    have H0 : gH σ33 f (X + 1 < R.length) 0 0 σ33 := by
      have := gH_0 σ33 (X + 1 < R.length)
      rwa [show sg_g σ33 88 91 = f by rw [sg_F_g f33 (by rfl)]; exact G1] at this
    have same : ∀ σ' s t, gH σ33 f (X + 1 < R.length) s t σ' → ∀ x, 0 ≤ x → x < sg_g σ 88 91 → sg_g σ' 142 x = sg_g σ 142 x := fun σ' s t h x x0 x1 => by
      rw [h.2.1 x x0 (by omega), sg_F_ga f33 rfl]; exact G2 x x0 x1
    refine ⟨fun n j σ37 => n = (J - j).toNat ∧ (0 ≤ j ∧ j ≤ J) ∧ gH σ33 f (X + 1 < R.length) (gsum σ R X j.toNat) (gsum σ R (X + 1) j.toNat) σ37, fun σ37 => gH σ33 f (X + 1 < R.length) (gsum σ R X J) (gsum σ R (X + 1) J) σ37, ⟨_, rfl, ⟨by omega, by omega⟩, H0⟩, ?_, ?_⟩
    · rintro n' j σ37 rj f37 ⟨en', hj, hH⟩
      refine ⟨fun z' => by rw [show j.toNat = J by omega] at hH; exact hH, fun z' => ?_⟩
      obtain ⟨j, rfl⟩ : ∃ j' : Nat, j = j' := ⟨j.toNat, by omega⟩
      rw [show ((j : Int)).toNat = j by omega] at hH
      have s1 := gsm X (j + 1) XR (by omega)
      have s0 := gsb X j XR (by omega)
      have dd := gd_b a5 hl (l := X) (j := j) XR (by omega) hM.1
      have es : gsum σ R X (j + 1) = gsum σ R X j + gd σ R X j := rfl
      have et : gsum σ R (X + 1) (j + 1) = gsum σ R (X + 1) j + gd σ R (X + 1) j := rfl
      have fin : ∀ σ71, gH σ33 f (X + 1 < R.length) (gsum σ R X (j + 1)) (gsum σ R (X + 1) (j + 1)) σ71 → sg_R ((j : Int) + 1) ∧ ∃ m, m < n' ∧ (m = (J - ((j : Int) + 1)).toNat ∧ (0 ≤ (j : Int) + 1 ∧ (j : Int) + 1 ≤ J) ∧ gH σ33 f (X + 1 < R.length) (gsum σ R X ((j : Int) + 1).toNat) (gsum σ R (X + 1) ((j : Int) + 1).toNat) σ71) := fun σ71 h => ⟨⟨by omega, by omega⟩, _, by omega, rfl, ⟨by omega, by omega⟩, by rw [show ((j : Int) + 1).toNat = j + 1 by omega]; exact h⟩
      refine ⟨⟨by omega, by omega⟩, ?_⟩
      by_cases c : sg_g σ 143 j < 0
      · have ed : gd σ R (X + 1) j = 0 := by unfold gd; rw [if_pos c, if_neg (by omega)]
        refine ⟨fun σ62 => gH σ33 f (X + 1 < R.length) (gsum σ R X (j + 1)) (gsum σ R (X + 1) (j + 1)) σ62, ⟨fun y => by omega, fun _ => ⟨fun y => ?_, fun y => ?_⟩⟩, fun σ62 f62 h62 => ⟨⟨fun y => by omega, fun _ => trivial⟩, fun v67 e67 r67 => ⟨fun _ _ σ71 => σ71 = σ62, fun σ71 => σ71 = σ62, ⟨0, rfl⟩, fun n'' t σ71 rt f71 h71 => ⟨fun _ => h71, fun y => by omega⟩, fun σ71 f71 h71 => fin σ71 (by rw [h71]; exact h62)⟩⟩⟩
        · have ed0 : gd σ R X j = 0 := by unfold gd; rw [if_pos c, if_neg (by omega)]
          rw [es, et, ed, ed0, Int.add_zero, Int.add_zero]; exact hH
        · have ed0 : gd σ R X j = 1 := by unfold gd; rw [if_pos c, if_pos (by omega)]
          have h91 := hH.1.1
          refine ⟨⟨by omega, by omega⟩, fun σ113 e113 => ⟨⟨by omega, by omega⟩, fun σ117 e117 => ?_⟩⟩
          rw [es, et, ed, ed0]
          exact gH_p hH (by omega) (by omega) (by decide) (fun _ => by decide) e113 e117
      · have ll := hl.2 j (by omega) (by omega)
        have eg : gd σ R X j = bg σ R X (sg_g σ 143 j + 1) - bg σ R X (sg_g σ 143 j) := by unfold gd; rw [if_neg c]
        have eg1 : gd σ R (X + 1) j = bg σ R (X + 1) (sg_g σ 143 j + 1) - bg σ R (X + 1) (sg_g σ 143 j) := by unfold gd; rw [if_neg c]
        have bb1 := hb X (sg_g σ 143 j).toNat XR (by omega)
        have bb2 := hb X ((sg_g σ 143 j).toNat + 1) XR (by omega)
        rw [show 13000 * (X : Int) + (((sg_g σ 143 j).toNat : Nat) : Int) = 13000 * X + sg_g σ 143 j by omega, show (((sg_g σ 143 j).toNat : Nat) : Int) = sg_g σ 143 j by omega] at bb1
        rw [show 13000 * (X : Int) + (((sg_g σ 143 j).toNat + 1 : Nat) : Int) = 13000 * X + sg_g σ 143 j + 1 by omega, show ((((sg_g σ 143 j).toNat + 1 : Nat)) : Int) = sg_g σ 143 j + 1 by omega] at bb2
        have bm := bg_m a5 hq (sg_g σ 143 j) (sg_g σ 143 j + 1) (by omega) (by omega) (by omega)
        have bgS : ∀ i, bg σ R (X + 1) i = cs σ q.1 (bg σ R X i).toNat := fun i => by
          simp only [bg]
          rw [List.getD_eq_getElem?_getD, hq]
          rfl
        refine ⟨fun σ62 => gH σ33 f (X + 1 < R.length) (gsum σ R X j) (gsum σ R (X + 1) j) σ62, ⟨fun _ => hH, fun y => absurd y c⟩, fun σ62 f62 h62 => ⟨⟨fun _ => ⟨⟨by omega, by omega⟩, ⟨by omega, by omega⟩, ⟨by omega, by omega⟩, trivial⟩, fun y => absurd y c⟩, fun v67 e67 r67 => ?_⟩⟩
        rw [if_pos (by omega), bb1] at e67
        refine ⟨fun n t σ71 => n = (bg σ R X (sg_g σ 143 j + 1) - t).toNat ∧ (bg σ R X (sg_g σ 143 j) ≤ t ∧ t ≤ bg σ R X (sg_g σ 143 j + 1)) ∧ gH σ33 f (X + 1 < R.length) (gsum σ R X j + (t - bg σ R X (sg_g σ 143 j))) (gsum σ R (X + 1) j + (cs σ q.1 t.toNat - bg σ R (X + 1) (sg_g σ 143 j))) σ71, fun σ71 => gH σ33 f (X + 1 < R.length) (gsum σ R X (j + 1)) (gsum σ R (X + 1) (j + 1)) σ71, ⟨_, rfl, ⟨by omega, by omega⟩, ?_⟩, ?_, fun σ71 f71 h71 => fin σ71 h71⟩
        · rw [e67, bgS, show gsum σ R X j + (bg σ R X (sg_g σ 143 j) - bg σ R X (sg_g σ 143 j)) = gsum σ R X j by omega, show gsum σ R (X + 1) j + (cs σ q.1 (bg σ R X (sg_g σ 143 j)).toNat - cs σ q.1 (bg σ R X (sg_g σ 143 j)).toNat) = gsum σ R (X + 1) j by omega]
          exact h62
        · rintro n'' t σ71 rt f71 ⟨en'', ht', h71⟩
          refine ⟨fun y => absurd y c, fun _ => ⟨⟨by omega, by omega⟩, ⟨by omega, by omega⟩, ⟨by omega, by omega⟩, ⟨by omega, by omega⟩, fun y => ?_, fun y => ?_⟩⟩
          · rw [bb2] at y
            have te : t = bg σ R X (sg_g σ 143 j + 1) := by omega
            rw [te, ← bgS] at h71
            rw [es, et, eg, eg1]
            exact h71
          · rw [bb2] at y
            have h91 := h71.1.1
            obtain ⟨w3, w4, w5, w6⟩ := w1
            have cell : sg_g σ71 142 (q.1 + t) = sg_g σ 142 (q.1 + t) := same σ71 _ _ h71 _ (by omega) (by omega)
            refine ⟨⟨by omega, by omega⟩, ⟨by omega, by omega⟩, ⟨by omega, by omega⟩, ⟨by omega, by omega⟩, ⟨by omega, by omega⟩, ⟨by omega, by omega⟩, fun σ99 e99 => ⟨⟨by omega, by omega⟩, fun σ103 e103 => ⟨⟨by omega, by omega⟩, _, by omega, rfl, ⟨by omega, by omega⟩, ?_⟩⟩⟩
            have p := gH_p h71 (by omega) (by omega) (sg_Rg _ _ _) (fun B => ?_) e99 e103
            · have e1 : cs σ q.1 (t + 1).toNat = cs σ q.1 t.toNat + sg_g σ 142 (q.1 + t) := by
                rw [show (t + 1).toNat = t.toNat + 1 by omega]
                simp only [cs]
                rw [show ((t.toNat : Nat) : Int) = t by omega]
              rw [cell] at p
              rw [e1, show gsum σ R X j + (t + 1 - bg σ R X (sg_g σ 143 j)) = gsum σ R X j + (t - bg σ R X (sg_g σ 143 j)) + 1 by omega, show gsum σ R (X + 1) j + (cs σ q.1 t.toNat + sg_g σ 142 (q.1 + t) - bg σ R (X + 1) (sg_g σ 143 j)) = gsum σ R (X + 1) j + (cs σ q.1 t.toNat - bg σ R (X + 1) (sg_g σ 143 j)) + sg_g σ 142 (q.1 + t) by omega]
              exact p
            · obtain ⟨q', hq'⟩ : ∃ q, R[X + 1]? = some q := ⟨_, List.getElem?_eq_getElem B⟩
              rw [cell]
              exact (w2 q' hq').1 t (by omega) (by omega)
    · rintro σ37 f37 hH
      have h91 := hH.1.1
      have sb := gsb X J XR (Nat.le_refl _)
      refine ⟨⟨by omega, by omega⟩, fun σ52 e52 => ⟨⟨by omega, by omega⟩, _, by omega, rfl, ⟨by omega, by omega⟩, ?_⟩⟩
      rw [show sg_g σ37 88 91 - f = gsum σ R X J by omega] at e52
      rw [show ((X : Int) + 1).toNat = X + 1 by omega]
      have F52 : sg_F [141] σ37 σ52 := by rw [e52]; exact sg_F_w (sg_F_r _ _) rfl _
      have c52 : ∀ x, sg_g σ52 142 x = sg_g σ37 142 x := fun x => sg_F_ga F52 rfl
      have c15 : ∀ x, 0 ≤ x → x < f → sg_g σ52 142 x = sg_g σ15 142 x := fun x x0 x1 => by rw [c52, hH.2.1 x x0 x1, sg_F_ga f33 rfl]
      unfold gG
      rw [tJ]
      refine ⟨?_, fun x x0 x1 => by rw [c52]; exact same σ37 _ _ hH x x0 x1, fun y hy => ⟨?_, ?_⟩, fun i hi => ?_, fun i hi hR => ?_⟩
      · rw [sg_F_g F52 (by rfl), h91]
        simp only [gT]
        omega
      · rw [sg_F_ga F52 rfl, sg_F_ga f37 rfl, e33, sg_gw_k _ _ _ _ _ _ (by omega)]; exact (G3 y hy).1
      · rw [e52, sg_gw_k _ _ _ _ _ _ (by omega), sg_F_ga f37 rfl, sg_F_ga f33 rfl]; exact (G3 y hy).2
      · by_cases e : i = X
        · subst e
          refine ⟨?_, ?_⟩
          · rw [sg_F_ga F52 rfl, sg_F_ga f37 rfl, own33, hf]
          · rw [e52, sg_gw_e _ _ _ _ ⟨by omega, by omega⟩]
        · obtain ⟨d1, d2⟩ := G4 i (by omega)
          refine ⟨?_, ?_⟩
          · rw [sg_F_ga F52 rfl, sg_F_ga f37 rfl, e33, sg_gw_k _ _ _ _ _ _ (by omega)]; exact d1
          · rw [e52, sg_gw_k _ _ _ _ _ _ (by omega), sg_F_ga f37 rfl, sg_F_ga f33 rfl]; exact d2
      · by_cases e : i = X
        · subst e
          obtain ⟨d1, d2⟩ := hH.2.2 hR
          rw [← hf]
          refine ⟨fun t t0 t1 => ?_, ?_⟩
          · simp only at t1 ⊢
            rw [c52]; exact d1 t t0 t1
          · rw [cs_e (σ := σ37) (fun j _ => c52 _)]; exact d2
        · obtain ⟨d1, d2⟩ := G5 i (by omega) hR
          have m1 := gT_m a5 hl hM.1 (j := J) (by omega) (l := i + 1) (l' := X) (by omega) (by omega)
          have m2 := gTb i (by omega)
          have m3 := gsb i J (by omega) (Nat.le_refl _)
          simp only [gT] at m1
          refine ⟨fun t t0 t1 => ?_, ?_⟩
          · simp only at t1 ⊢
            rw [c15 _ (by omega) (by omega)]; exact d1 t t0 t1
          · rw [cs_e (σ := σ15) (fun j hj => c15 _ (by omega) (by omega))]; exact d2
  · rintro σ15 f15 ⟨G1, G2, G3, G4, G5⟩
    have F15 : sg_F [139, 140, 141, 142, 144, 88088, 92088] σ σ15 := sg_F_t (sg_F_m F9 rfl) (sg_F_m f15 rfl)
    have q87 : sg_g σ15 88 87 = w + 1 := by rw [sg_F_g f15 (by rfl)]; exact b1
    have d15 : ∀ u, ¬ u = w → sg_g σ15 139 u = sg_g σ 139 u := fun u hu => by rw [sg_F_ga f15 rfl, b3 u hu, sg_F_ga f2 rfl]
    have bK := gTb R.length (Nat.le_refl _)
    rw [tJ] at G1
    have ex : fEx σ σ15 := ⟨⟨by omega, by omega⟩, fun u x y => d15 u (by omega), fun y _ hy => G3 y (by omega), G2⟩
    refine k w σ15 w0 ex (fun M' hM' => ⟨⟨by omega, by omega⟩, by rw [gR_l]; exact a2, ?_, fun l r hr => ?_, fCh_mk (fun l r hr => ?_) (fun l r r' hr hr' => ?_)⟩) (by omega) (by rw [G1, tJ]) F15
    · rw [gR_l, sg_F_ga f15 rfl, b2]; exact a3
    · have hl' : l < R.length := by have := lt_of_get hr; rwa [gR_l] at this
      rw [gR_at hl'] at hr
      cases hr
      exact G4 l hl'
    · have hl' : l < R.length := by have := lt_of_get hr; rwa [gR_l] at this
      rw [gR_at hl'] at hr
      cases hr
      have z1 := hM' l hl'
      rw [tJ] at z1
      have z2 := gTb l (by omega)
      have z3 := gTl l hl'
      have z4 := gsb l J hl' (Nat.le_refl _)
      rw [tJ]
      exact ⟨by simp only; omega, z4, z1, by simp only; omega⟩
    · have hl' : l + 1 < R.length := by have := lt_of_get hr'; rwa [gR_l] at this
      rw [gR_at (by omega)] at hr
      rw [gR_at hl'] at hr'
      cases hr
      cases hr'
      obtain ⟨d1, d2⟩ := G5 l (by omega) hl'
      exact ⟨d1, d2.symm⟩
end FLG
