/-! gathered, exactly: what its cells hold. -/
/-- s cells stand from f on, and they are cl -/
def gHX (σb : sg_S) (f : Int) (b : Prop) (s t : Int) (cl : List Int) (σ' : sg_S) : Prop := gH σb f b s t σ' ∧ (cl.length : Int) = s ∧ ∀ (i : Nat) (x : Int), cl[i]? = some x → sg_g σ' 142 (f + i) = x
theorem gHX_p {σb σ1 σ2 σ3 : sg_S} {f s t c : Int} {b : Prop} {cl : List Int} (h : gHX σb f b s t cl σ1) (hf : 0 ≤ f) (h6 : sg_g σ1 88 91 < 60000) (hc : sg_R c) (hb : b → 0 ≤ c ∧ c ≤ 200) (e2 : σ2 = sg_w σ1 142 (sg_g σ1 88 91) c) (e3 : σ3 = sg_w σ2 88 91 (sg_g σ1 88 91 + 1)) : gHX σb f b (s + 1) (t + c) (cl ++ [c]) σ3 := by
  obtain ⟨h1, h2, h3⟩ := h
  have h91 := h1.1.1
  refine ⟨gH_p h1 hf h6 hc hb e2 e3, by rw [List.length_append, List.length_cons, List.length_nil]; omega, fun i x hx => ?_⟩
  have ce : sg_g σ3 142 (f + s) = c := by rw [e3, sg_gw_c _ _ _ _ _ _ (by decide), e2, h91, sg_gw_e _ _ _ _ hc]
  have co : ∀ x, ¬ x = f + s → sg_g σ3 142 x = sg_g σ1 142 x := fun x hx => by rw [e3, sg_gw_c _ _ _ _ _ _ (by decide), e2, h91, sg_gw_k _ _ _ _ _ _ hx]
  rcases Nat.lt_or_ge i cl.length with q | q
  · rw [List.getElem?_append_left q] at hx
    rw [co _ (by omega)]
    exact h3 i x hx
  · rw [List.getElem?_append_right q] at hx
    have hl := lt_of_get hx
    simp only [List.length_cons, List.length_nil] at hl
    have ei : i = cl.length := by omega
    rw [ei, Nat.sub_self] at hx
    cases hx
    rw [ei, h2, ce]
theorem gHX_F {L : List Nat} {σb σ1 σ2 : sg_S} {f s t : Int} {b : Prop} {cl : List Int} (F : sg_F L σ1 σ2) (hL : (!sg_cv L 88 91 && sg_ca L 142) = true) (h : gHX σb f b s t cl σ1) : gHX σb f b s t cl σ2 := by
  refine ⟨gH_F F hL h.1, h.2.1, fun i x hx => ?_⟩
  simp only [Bool.and_eq_true, Bool.not_eq_true'] at hL
  rw [sg_F_ga F hL.2]
  exact h.2.2 i x hx
theorem gHX_0 (σ : sg_S) (b : Prop) : gHX σ (sg_g σ 88 91) b 0 0 [] σ := ⟨gH_0 σ b, rfl, fun i x hx => by simp at hx⟩
section FLGX
variable {σ : sg_S} {M : Int} {R : List (Int × Int)}
/-- cells of row l, from lane k's first on -/
def gCt (σ : sg_S) (R : List (Int × Int)) (l : Nat) (k : Int) (n : Nat) : List Int := (List.range n).map (fun i : Nat => sg_g σ 142 ((R.getD l (0, 0)).1 + bg σ R l k + i))
/-- what the lane listed j-th gives to row l -/
def gC1 (σ : sg_S) (R : List (Int × Int)) (l j : Nat) : List Int := if sg_g σ 143 j < 0 then (if l = 0 then [0] else []) else gCt σ R l (sg_g σ 143 j) (gd σ R l j).toNat
/-- what the first j listed lanes give -/
def gCl (σ : sg_S) (R : List (Int × Int)) (l : Nat) : Nat → List Int
  | 0 => []
  | j + 1 => gCl σ R l j ++ gC1 σ R l j
theorem gCt_s (l : Nat) (k : Int) (n : Nat) : gCt σ R l k (n + 1) = gCt σ R l k n ++ [sg_g σ 142 ((R.getD l (0, 0)).1 + bg σ R l k + n)] := by
  unfold gCt
  rw [List.range_succ, List.map_append]
  rfl
/-- rows before l are there, with their cells -/
def gGX (σ : sg_S) (R : List (Int × Int)) (w : Int) (l : Nat) (σ' : sg_S) : Prop := gG σ R w l σ' ∧ ∀ (i a : Nat) (x : Int), i < l → (gCl σ R i (sg_g σ 88 93).toNat)[a]? = some x → sg_g σ' 142 (sg_g σ 88 91 + gT σ R (sg_g σ 88 93).toNat i + a) = x
theorem gCl_l (h : fCh σ M R) (hl : lnO σ R) {l : Nat} (lR : l < R.length) (hM : 1 ≤ M) : ∀ j : Nat, (j : Int) ≤ sg_g σ 88 93 → ((gCl σ R l j).length : Int) = gsum σ R l j
  | 0, _ => rfl
  | j + 1, hj => by
    have ih := gCl_l h hl lR hM j (by omega)
    have dd := gd_b h hl (l := l) (j := j) lR (by omega) hM
    simp only [gCl, gsum, List.length_append]
    have e : ((gC1 σ R l j).length : Int) = gd σ R l j := by
      unfold gC1
      by_cases c : sg_g σ 143 j < 0
      · rw [if_pos c]
        unfold gd
        rw [if_pos c]
        by_cases c0 : l = 0
        · rw [if_pos c0, if_pos c0]; rfl
        · rw [if_neg c0, if_neg c0]; rfl
      · rw [if_neg c]
        unfold gCt
        rw [List.length_map, List.length_range]
        omega
    omega
theorem m_gathX {v : Int} {Q : Int → sg_S → Prop} (hv : fV σ M v R) (hM : 1 ≤ M ∧ M ≤ 12000) (hc : 0 ≤ sg_g σ 88 91) (hfl : 0 ≤ sg_g σ 88 87 ∧ sg_g σ 88 87 < 30000) (hl : lnO σ R) (ht : sg_g σ 88 91 + gT σ R (sg_g σ 88 93).toNat R.length ≤ 60000) (k : ∀ q σ', q = sg_g σ 88 87 → fEx σ σ' → (∀ M', (∀ l : Nat, l < R.length → gsum σ R l (sg_g σ 88 93).toNat ≤ M') → fV σ' M' q (gR σ R)) → (∀ (l i : Nat) (x : Int), l < R.length → (gCl σ R l (sg_g σ 88 93).toNat)[i]? = some x → sg_g σ' 142 (sg_g σ 88 91 + gT σ R (sg_g σ 88 93).toNat l + i) = x) → sg_g σ' 88 87 = sg_g σ 88 87 + 1 → sg_g σ' 88 91 = sg_g σ 88 91 + gT σ R (sg_g σ 88 93).toNat R.length → sg_F [139, 140, 141, 142, 144, 88088, 92088] σ σ' → Q q σ') : V_gathered σ v Q := by
  have hv' := hv
  obtain ⟨a1, a2, a3, a4, a5⟩ := hv
  have l1 := hl.1
  have L12 := fCh_L a5 a2.1
  obtain ⟨J, hJ⟩ : ∃ J : Nat, sg_g σ 88 93 = J := ⟨(sg_g σ 88 93).toNat, by omega⟩
  have tJ : (sg_g σ 88 93).toNat = J := by omega
  have gTb : ∀ l, l ≤ R.length → 0 ≤ gT σ R J l := fun l h => gT_b a5 hl hM.1 (by omega) h
  have gTl : ∀ l, l < R.length → gT σ R J l + gsum σ R l J ≤ gT σ R J R.length := fun l h => gT_l a5 hl hM.1 (by omega) h
  have gsb : ∀ l j : Nat, l < R.length → j ≤ J → 0 ≤ gsum σ R l j := fun l j h h' => gsum_b a5 hl h hM.1 (by omega)
  have gsm : ∀ l j : Nat, l < R.length → j ≤ J → gsum σ R l j ≤ gsum σ R l J := fun l j h h' => gsum_m a5 hl h hM.1 h' (by omega)
  unfold V_gathered
  refine m_findB hv' hM.2 ⟨by have := gTb R.length (Nat.le_refl _); rw [tJ] at ht; omega, by omega⟩ (fun σ2 f2 hb _ => ⟨⟨a1.1, by omega⟩, ?_⟩)
  have g87 : sg_g σ2 88 87 = sg_g σ 88 87 := sg_F_g f2 (by rfl)
  refine m_newF (by omega) (sg_Rg _ _ _) (fun σ9 f9 b1 b2 b3 _ _ => ?_)
  have w0 : sg_g σ2 88 87 = sg_g σ 88 87 := g87
  generalize hw : sg_g σ2 88 87 = w at *
  have F9 : sg_F [139, 144, 88088] σ σ9 := sg_F_t (sg_F_m f2 rfl) (sg_F_m f9 rfl)
  have d9 : sg_g σ9 139 v = R.length - 1 := by rw [b3 v (by omega), sg_F_ga f2 rfl]; exact a3
  rw [d9, hJ]
  rw [tJ] at ht
  have G0 : gGX σ R w 0 σ9 := by
    refine ⟨⟨?_, fun x _ _ => sg_F_ga F9 rfl, fun y _ => ⟨sg_F_ga F9 rfl, sg_F_ga F9 rfl⟩, fun i h => by omega, fun i h => by omega⟩, fun i a x h => by omega⟩
    rw [sg_F_g F9 (by rfl)]
    simp only [gT]
    omega
  refine ⟨fun n x σ15 => n = (R.length - x).toNat ∧ (0 ≤ x ∧ x ≤ R.length) ∧ gGX σ R w x.toNat σ15, fun σ15 => gGX σ R w R.length σ15, ⟨_, rfl, ⟨by omega, by omega⟩, G0⟩, ?_, ?_⟩
  · rintro n x σ15 rx f15 ⟨en, hx, hG⟩
    refine ⟨fun z => by rw [show R.length = x.toNat by omega]; exact hG, fun z => ?_⟩
    obtain ⟨X, rfl⟩ : ∃ X : Nat, x = X := ⟨x.toNat, by omega⟩
    rw [show ((X : Int)).toNat = X by omega] at hG
    obtain ⟨⟨G1, G2, G3, G4, G5⟩, G6⟩ := hG
    rw [tJ] at G1 G4 G5 G6
    have XR : X < R.length := by omega
    obtain ⟨q, hq⟩ : ∃ q, R[X]? = some q := ⟨_, List.getElem?_eq_getElem XR⟩
    have zq := a4 X q hq
    obtain ⟨w1, w2⟩ := fCh_at a5 hq
    have bX := gTb X (by omega)
    have bX2 := gTl X XR
    obtain ⟨f, hf⟩ : ∃ f, f = sg_g σ 88 91 + gT σ R J X := ⟨_, rfl⟩
    rw [← hf] at G1
    refine ⟨⟨by omega, by omega⟩, ⟨by omega, by omega⟩, ⟨by omega, by omega⟩, fun σ33 e33 => ?_⟩
    have f33 : sg_F [140] σ15 σ33 := by rw [e33]; exact sg_F_w (sg_F_r _ _) rfl _
    have fr33 : sg_g σ33 140 (4 * v + X) = q.1 := by
      rw [e33, sg_gw_k _ _ _ _ _ _ (by omega), (G3 _ (by omega)).1]; exact zq.1
    have own33 : sg_g σ33 140 (4 * w + X) = f := by rw [e33, sg_gw_e _ _ _ _ (sg_Rg _ _ _)]; exact G1
    rw [fr33, own33]
    have H0 : gHX σ33 f (X + 1 < R.length) 0 0 [] σ33 := by
      have := gHX_0 σ33 (X + 1 < R.length)
      rwa [show sg_g σ33 88 91 = f by rw [sg_F_g f33 (by rfl)]; exact G1] at this
    have same : ∀ σ' s t cl, gHX σ33 f (X + 1 < R.length) s t cl σ' → ∀ x, 0 ≤ x → x < sg_g σ 88 91 → sg_g σ' 142 x = sg_g σ 142 x := fun σ' s t cl h x x0 x1 => by
      rw [h.1.2.1 x x0 (by omega), sg_F_ga f33 rfl]; exact G2 x x0 x1
    refine ⟨fun n j σ37 => n = (J - j).toNat ∧ (0 ≤ j ∧ j ≤ J) ∧ gHX σ33 f (X + 1 < R.length) (gsum σ R X j.toNat) (gsum σ R (X + 1) j.toNat) (gCl σ R X j.toNat) σ37, fun σ37 => gHX σ33 f (X + 1 < R.length) (gsum σ R X J) (gsum σ R (X + 1) J) (gCl σ R X J) σ37, ⟨_, rfl, ⟨by omega, by omega⟩, H0⟩, ?_, ?_⟩
    · rintro n' j σ37 rj f37 ⟨en', hj, hH⟩
      refine ⟨fun z' => by rw [show j.toNat = J by omega] at hH; exact hH, fun z' => ?_⟩
      obtain ⟨j, rfl⟩ : ∃ j' : Nat, j = j' := ⟨j.toNat, by omega⟩
      rw [show ((j : Int)).toNat = j by omega] at hH
      have s1 := gsm X (j + 1) XR (by omega)
      have s0 := gsb X j XR (by omega)
      have dd := gd_b a5 hl (l := X) (j := j) XR (by omega) hM.1
      have es : gsum σ R X (j + 1) = gsum σ R X j + gd σ R X j := rfl
      have et : gsum σ R (X + 1) (j + 1) = gsum σ R (X + 1) j + gd σ R (X + 1) j := rfl
      have fin : ∀ σ71, gHX σ33 f (X + 1 < R.length) (gsum σ R X (j + 1)) (gsum σ R (X + 1) (j + 1)) (gCl σ R X (j + 1)) σ71 → sg_R ((j : Int) + 1) ∧ ∃ m, m < n' ∧ (m = (J - ((j : Int) + 1)).toNat ∧ (0 ≤ (j : Int) + 1 ∧ (j : Int) + 1 ≤ J) ∧ gHX σ33 f (X + 1 < R.length) (gsum σ R X ((j : Int) + 1).toNat) (gsum σ R (X + 1) ((j : Int) + 1).toNat) (gCl σ R X ((j : Int) + 1).toNat) σ71) := fun σ71 h => ⟨⟨by omega, by omega⟩, _, by omega, rfl, ⟨by omega, by omega⟩, by rw [show ((j : Int) + 1).toNat = j + 1 by omega]; exact h⟩
      refine ⟨⟨by omega, by omega⟩, ?_⟩
      by_cases c : sg_g σ 143 j < 0
      · have ed : gd σ R (X + 1) j = 0 := by unfold gd; rw [if_pos c, if_neg (by omega)]
        refine ⟨fun σ62 => gHX σ33 f (X + 1 < R.length) (gsum σ R X (j + 1)) (gsum σ R (X + 1) (j + 1)) (gCl σ R X (j + 1)) σ62, ⟨fun y => by omega, fun _ => ⟨fun y => ?_, fun y => ?_⟩⟩, fun σ62 f62 h62 => ⟨⟨fun y => by omega, fun _ => trivial⟩, fun v67 e67 r67 => ⟨fun _ _ σ71 => σ71 = σ62, fun σ71 => σ71 = σ62, ⟨0, rfl⟩, fun n'' t σ71 rt f71 h71 => ⟨fun _ => h71, fun y => by omega⟩, fun σ71 f71 h71 => fin σ71 (by rw [h71]; exact h62)⟩⟩⟩
        · have ed0 : gd σ R X j = 0 := by unfold gd; rw [if_pos c, if_neg (by omega)]
          have ec : gCl σ R X (j + 1) = gCl σ R X j := by
            show gCl σ R X j ++ gC1 σ R X j = _
            unfold gC1
            rw [if_pos c, if_neg (by omega), List.append_nil]
          rw [es, et, ed, ed0, ec, Int.add_zero, Int.add_zero]; exact hH
        · have ed0 : gd σ R X j = 1 := by unfold gd; rw [if_pos c, if_pos (by omega)]
          have h91 := hH.1.1.1
          refine ⟨⟨by omega, by omega⟩, fun σ113 e113 => ⟨⟨by omega, by omega⟩, fun σ117 e117 => ?_⟩⟩
          have ec : gCl σ R X (j + 1) = gCl σ R X j ++ [0] := by
            show gCl σ R X j ++ gC1 σ R X j = _
            unfold gC1
            rw [if_pos c, if_pos (by omega)]
          rw [es, et, ed, ed0, ec]
          exact gHX_p hH (by omega) (by omega) (by decide) (fun _ => by decide) e113 e117
      · have ll := hl.2 j (by omega) (by omega)
        have eg : gd σ R X j = bg σ R X (sg_g σ 143 j + 1) - bg σ R X (sg_g σ 143 j) := by unfold gd; rw [if_neg c]
        have eg1 : gd σ R (X + 1) j = bg σ R (X + 1) (sg_g σ 143 j + 1) - bg σ R (X + 1) (sg_g σ 143 j) := by unfold gd; rw [if_neg c]
        have bb1 := hb X (sg_g σ 143 j).toNat XR (by omega)
        have bb2 := hb X ((sg_g σ 143 j).toNat + 1) XR (by omega)
        rw [show 13000 * (X : Int) + (((sg_g σ 143 j).toNat : Nat) : Int) = 13000 * X + sg_g σ 143 j by omega, show (((sg_g σ 143 j).toNat : Nat) : Int) = sg_g σ 143 j by omega] at bb1
        rw [show 13000 * (X : Int) + (((sg_g σ 143 j).toNat + 1 : Nat) : Int) = 13000 * X + sg_g σ 143 j + 1 by omega, show ((((sg_g σ 143 j).toNat + 1 : Nat)) : Int) = sg_g σ 143 j + 1 by omega] at bb2
        have bm := bg_m a5 hq (sg_g σ 143 j) (sg_g σ 143 j + 1) (by omega) (by omega) (by omega)
        have bgS : ∀ i, bg σ R (X + 1) i = cs σ q.1 (bg σ R X i).toNat := fun i => by
          simp only [bg]
          rw [List.getD_eq_getElem?_getD, hq]
          rfl
        refine ⟨fun σ62 => gHX σ33 f (X + 1 < R.length) (gsum σ R X j) (gsum σ R (X + 1) j) (gCl σ R X j) σ62, ⟨fun _ => hH, fun y => absurd y c⟩, fun σ62 f62 h62 => ⟨⟨fun _ => ⟨⟨by omega, by omega⟩, ⟨by omega, by omega⟩, ⟨by omega, by omega⟩, trivial⟩, fun y => absurd y c⟩, fun v67 e67 r67 => ?_⟩⟩
        rw [if_pos (by omega), bb1] at e67
        refine ⟨fun n t σ71 => n = (bg σ R X (sg_g σ 143 j + 1) - t).toNat ∧ (bg σ R X (sg_g σ 143 j) ≤ t ∧ t ≤ bg σ R X (sg_g σ 143 j + 1)) ∧ gHX σ33 f (X + 1 < R.length) (gsum σ R X j + (t - bg σ R X (sg_g σ 143 j))) (gsum σ R (X + 1) j + (cs σ q.1 t.toNat - bg σ R (X + 1) (sg_g σ 143 j))) (gCl σ R X j ++ gCt σ R X (sg_g σ 143 j) (t - bg σ R X (sg_g σ 143 j)).toNat) σ71, fun σ71 => gHX σ33 f (X + 1 < R.length) (gsum σ R X (j + 1)) (gsum σ R (X + 1) (j + 1)) (gCl σ R X (j + 1)) σ71, ⟨_, rfl, ⟨by omega, by omega⟩, ?_⟩, ?_, fun σ71 f71 h71 => fin σ71 h71⟩
        · rw [e67, bgS, show gsum σ R X j + (bg σ R X (sg_g σ 143 j) - bg σ R X (sg_g σ 143 j)) = gsum σ R X j by omega, show gsum σ R (X + 1) j + (cs σ q.1 (bg σ R X (sg_g σ 143 j)).toNat - cs σ q.1 (bg σ R X (sg_g σ 143 j)).toNat) = gsum σ R (X + 1) j by omega, show (bg σ R X (sg_g σ 143 j) - bg σ R X (sg_g σ 143 j)).toNat = 0 by omega, show gCt σ R X (sg_g σ 143 j) 0 = [] from rfl, List.append_nil]
          exact h62
        · rintro n'' t σ71 rt f71 ⟨en'', ht', h71⟩
          refine ⟨fun y => absurd y c, fun _ => ⟨⟨by omega, by omega⟩, ⟨by omega, by omega⟩, ⟨by omega, by omega⟩, ⟨by omega, by omega⟩, fun y => ?_, fun y => ?_⟩⟩
          · rw [bb2] at y
            have te : t = bg σ R X (sg_g σ 143 j + 1) := by omega
            rw [te, ← bgS] at h71
            have ec : gCl σ R X (j + 1) = gCl σ R X j ++ gCt σ R X (sg_g σ 143 j) (bg σ R X (sg_g σ 143 j + 1) - bg σ R X (sg_g σ 143 j)).toNat := by
              show gCl σ R X j ++ gC1 σ R X j = _
              unfold gC1
              rw [if_neg c, eg]
            rw [es, et, eg, eg1, ec]
            exact h71
          · rw [bb2] at y
            have h91 := h71.1.1.1
            obtain ⟨w3, w4, w5, w6⟩ := w1
            have cell : sg_g σ71 142 (q.1 + t) = sg_g σ 142 (q.1 + t) := same σ71 _ _ _ h71 _ (by omega) (by omega)
            refine ⟨⟨by omega, by omega⟩, ⟨by omega, by omega⟩, ⟨by omega, by omega⟩, ⟨by omega, by omega⟩, ⟨by omega, by omega⟩, ⟨by omega, by omega⟩, fun σ99 e99 => ⟨⟨by omega, by omega⟩, fun σ103 e103 => ⟨⟨by omega, by omega⟩, _, by omega, rfl, ⟨by omega, by omega⟩, ?_⟩⟩⟩
            have p := gHX_p h71 (by omega) (by omega) (sg_Rg _ _ _) (fun B => ?_) e99 e103
            · have e1 : cs σ q.1 (t + 1).toNat = cs σ q.1 t.toNat + sg_g σ 142 (q.1 + t) := by
                rw [show (t + 1).toNat = t.toNat + 1 by omega]
                simp only [cs]
                rw [show ((t.toNat : Nat) : Int) = t by omega]
              rw [cell] at p
              rw [e1, show gsum σ R X j + (t + 1 - bg σ R X (sg_g σ 143 j)) = gsum σ R X j + (t - bg σ R X (sg_g σ 143 j)) + 1 by omega, show gsum σ R (X + 1) j + (cs σ q.1 t.toNat + sg_g σ 142 (q.1 + t) - bg σ R (X + 1) (sg_g σ 143 j)) = gsum σ R (X + 1) j + (cs σ q.1 t.toNat - bg σ R (X + 1) (sg_g σ 143 j)) + sg_g σ 142 (q.1 + t) by omega, show (t + 1 - bg σ R X (sg_g σ 143 j)).toNat = (t - bg σ R X (sg_g σ 143 j)).toNat + 1 by omega, gCt_s, ← List.append_assoc, show (R.getD X (0, 0)).1 = q.1 by rw [List.getD_eq_getElem?_getD, hq]; rfl, show q.1 + bg σ R X (sg_g σ 143 j) + (((t - bg σ R X (sg_g σ 143 j)).toNat : Nat) : Int) = q.1 + t by omega]
              exact p
            · obtain ⟨q', hq'⟩ : ∃ q, R[X + 1]? = some q := ⟨_, List.getElem?_eq_getElem B⟩
              rw [cell]
              exact (w2 q' hq').1 t (by omega) (by omega)
    · rintro σ37 f37 hH
      have h91 := hH.1.1.1
      have sb := gsb X J XR (Nat.le_refl _)
      refine ⟨⟨by omega, by omega⟩, fun σ52 e52 => ⟨⟨by omega, by omega⟩, _, by omega, rfl, ⟨by omega, by omega⟩, ?_⟩⟩
      rw [show sg_g σ37 88 91 - f = gsum σ R X J by omega] at e52
      rw [show ((X : Int) + 1).toNat = X + 1 by omega]
      have F52 : sg_F [141] σ37 σ52 := by rw [e52]; exact sg_F_w (sg_F_r _ _) rfl _
      have c52 : ∀ x, sg_g σ52 142 x = sg_g σ37 142 x := fun x => sg_F_ga F52 rfl
      have c15 : ∀ x, 0 ≤ x → x < f → sg_g σ52 142 x = sg_g σ15 142 x := fun x x0 x1 => by rw [c52, hH.1.2.1 x x0 x1, sg_F_ga f33 rfl]
      unfold gGX gG
      rw [tJ]
      refine ⟨⟨?_, fun x x0 x1 => by rw [c52]; exact same σ37 _ _ _ hH x x0 x1, fun y hy => ⟨?_, ?_⟩, fun i hi => ?_, fun i hi hR => ?_⟩, fun i a x hi hxa => ?_⟩
      rotate_right
      · by_cases e : i = X
        · subst e
          rw [c52, ← hf]
          exact hH.2.2 a x hxa
        · have m1 := gT_m a5 hl hM.1 (j := J) (by omega) (l := i + 1) (l' := X) (by omega) (by omega)
          have m2 := gTb i (by omega)
          have ll := gCl_l a5 hl (l := i) (by omega) hM.1 J (by omega)
          have la := lt_of_get hxa
          simp only [gT] at m1
          rw [c15 _ (by omega) (by omega)]
          exact G6 i a x (by omega) hxa
      · rw [sg_F_g F52 (by rfl), h91]
        simp only [gT]
        omega
      · rw [sg_F_ga F52 rfl, sg_F_ga f37 rfl, e33, sg_gw_k _ _ _ _ _ _ (by omega)]; exact (G3 y hy).1
      · rw [e52, sg_gw_k _ _ _ _ _ _ (by omega), sg_F_ga f37 rfl, sg_F_ga f33 rfl]; exact (G3 y hy).2
      · by_cases e : i = X
        · subst e
          refine ⟨?_, ?_⟩
          · rw [sg_F_ga F52 rfl, sg_F_ga f37 rfl, own33, hf]
          · rw [e52, sg_gw_e _ _ _ _ ⟨by omega, by omega⟩]
        · obtain ⟨d1, d2⟩ := G4 i (by omega)
          refine ⟨?_, ?_⟩
          · rw [sg_F_ga F52 rfl, sg_F_ga f37 rfl, e33, sg_gw_k _ _ _ _ _ _ (by omega)]; exact d1
          · rw [e52, sg_gw_k _ _ _ _ _ _ (by omega), sg_F_ga f37 rfl, sg_F_ga f33 rfl]; exact d2
      · by_cases e : i = X
        · subst e
          obtain ⟨d1, d2⟩ := hH.1.2.2 hR
          rw [← hf]
          refine ⟨fun t t0 t1 => ?_, ?_⟩
          · simp only at t1 ⊢
            rw [c52]; exact d1 t t0 t1
          · rw [cs_e (σ := σ37) (fun j _ => c52 _)]; exact d2
        · obtain ⟨d1, d2⟩ := G5 i (by omega) hR
          have m1 := gT_m a5 hl hM.1 (j := J) (by omega) (l := i + 1) (l' := X) (by omega) (by omega)
          have m2 := gTb i (by omega)
          have m3 := gsb i J (by omega) (Nat.le_refl _)
          simp only [gT] at m1
          refine ⟨fun t t0 t1 => ?_, ?_⟩
          · simp only at t1 ⊢
            rw [c15 _ (by omega) (by omega)]; exact d1 t t0 t1
          · rw [cs_e (σ := σ15) (fun j hj => c15 _ (by omega) (by omega))]; exact d2
  · rintro σ15 f15 ⟨⟨G1, G2, G3, G4, G5⟩, G6⟩
    have F15 : sg_F [139, 140, 141, 142, 144, 88088, 92088] σ σ15 := sg_F_t (sg_F_m F9 rfl) (sg_F_m f15 rfl)
    have q87 : sg_g σ15 88 87 = w + 1 := by rw [sg_F_g f15 (by rfl)]; exact b1
    have d15 : ∀ u, ¬ u = w → sg_g σ15 139 u = sg_g σ 139 u := fun u hu => by rw [sg_F_ga f15 rfl, b3 u hu, sg_F_ga f2 rfl]
    have bK := gTb R.length (Nat.le_refl _)
    rw [tJ] at G1
    have ex : fEx σ σ15 := ⟨⟨by omega, by omega⟩, fun u x y => d15 u (by omega), fun y _ hy => G3 y (by omega), G2⟩
    refine k w σ15 w0 ex (fun M' hM' => ⟨⟨by omega, by omega⟩, by rw [gR_l]; exact a2, ?_, fun l r hr => ?_, fCh_mk (fun l r hr => ?_) (fun l r r' hr hr' => ?_)⟩) (fun l i x hl hx => G6 l i x hl hx) (by omega) (by rw [G1, tJ]) F15
    · rw [gR_l, sg_F_ga f15 rfl, b2]; exact a3
    · have hl' : l < R.length := by have := lt_of_get hr; rwa [gR_l] at this
      rw [gR_at hl'] at hr
      cases hr
      exact G4 l hl'
    · have hl' : l < R.length := by have := lt_of_get hr; rwa [gR_l] at this
      rw [gR_at hl'] at hr
      cases hr
      have z1 := hM' l hl'
      rw [tJ] at z1
      have z2 := gTb l (by omega)
      have z3 := gTl l hl'
      have z4 := gsb l J hl' (Nat.le_refl _)
      rw [tJ]
      exact ⟨by simp only; omega, z4, z1, by simp only; omega⟩
    · have hl' : l + 1 < R.length := by have := lt_of_get hr'; rwa [gR_l] at this
      rw [gR_at (by omega)] at hr
      rw [gR_at hl'] at hr'
      cases hr
      cases hr'
      obtain ⟨d1, d2⟩ := G5 l (by omega) hl'
      exact ⟨d1, d2.symm⟩
end FLGX
/-! Flat values of the reference stand for lists of values. -/
def fX (σ : sg_S) (M v : Int) (d : Nat) (l : List vaF) (R : List (Int × Int)) : Prop := fV σ M v R ∧ R.length = d + 1 ∧ okF d l ∧ ∀ j : Nat, j ≤ d → ((lvl j l).length : Int) = (R.getD j (0, 0)).2 ∧ ∀ (i : Nat) (x : Int), (lvl j l)[i]? = some x → sg_g σ 142 ((R.getD j (0, 0)).1 + i) = x
theorem sumF_t : ∀ (c : List Int) (i : Nat) (x : Int), c[i]? = some x → sumF (c.take (i + 1)) = sumF (c.take i) + x
  | [], i, x, h => by cases h
  | y :: r, 0, x, h => by
    cases h
    simp [sumF]
  | y :: r, i + 1, x, h => by
    rw [List.getElem?_cons_succ] at h
    simp only [List.take_succ_cons, sumF]
    rw [sumF_t r i x h]
    omega
theorem cs_sum {σ : sg_S} {p : Int} {c : List Int} (h : ∀ (i : Nat) (x : Int), c[i]? = some x → sg_g σ 142 (p + i) = x) : ∀ i : Nat, i ≤ c.length → cs σ p i = sumF (c.take i)
  | 0, _ => by simp [cs, sumF]
  | i + 1, hi => by
    obtain ⟨x, hx⟩ : ∃ x, c[i]? = some x := ⟨_, List.getElem?_eq_getElem (by omega)⟩
    simp only [cs]
    rw [cs_sum h i (by omega), h i x hx, sumF_t c i x hx]
theorem bgF_le (j : Nat) (l : List vaF) (i : Nat) : bgF j l i ≤ (lvl j l).length := by
  have e : lvl j l = lvl j (l.take i) ++ lvl j (l.drop i) := by rw [← lvl_a, List.take_append_drop]
  unfold bgF
  rw [e, List.length_append]
  omega
section FXS
variable {σ : sg_S} {M v : Int} {d : Nat} {l : List vaF} {R : List (Int × Int)}
theorem fX_n (h : fX σ M v d l R) : (R.getD 0 (0, 0)).2 = l.length := by
  have := (h.2.2.2 0 (Nat.zero_le _)).1
  simp only [lvl, List.length_map] at this
  exact this.symm
theorem bg_X (h : fX σ M v d l R) : ∀ j : Nat, j ≤ d → ∀ i : Nat, i ≤ l.length → bg σ R j i = bgF j l i
  | 0, _, i, hi => by rw [bgF_0 l i hi]; rfl
  | j + 1, hj, i, hi => by
    have ih := bg_X h j (by omega) i hi
    obtain ⟨-, -, hok, hr⟩ := h
    simp only [bg]
    rw [ih, Int.toNat_natCast, cs_sum (hr j (by omega)).2 _ (bgF_le j l i), bgF_s i (by omega) hok]
/-- the lanes that are listed -/
def sel (σ : sg_S) (l : List vaF) (j : Nat) : vaF := if sg_g σ 143 j < 0 then nmF 0 else l.getD (sg_g σ 143 j).toNat (nmF 0)
theorem lvl_z : ∀ j : Nat, lvl j [nmF 0] = if j = 0 then [0] else []
  | 0 => rfl
  | j + 1 => by
    have e : itF (nmF 0) = [] := by simp [itF, nmF]
    simp only [lvl, flF_1, e]
    rw [lvl_0, if_neg (by omega)]
theorem gC1_F (h : fX σ M v d l R) {lv j : Nat} (hlv : lv ≤ d) (hj : sg_g σ 143 j < l.length) : gC1 σ R lv j = lvl lv [sel σ l j] := by
  unfold gC1 sel
  by_cases c : sg_g σ 143 j < 0
  · rw [if_pos c, if_pos c, lvl_z]
  · rw [if_neg c, if_neg c]
    obtain ⟨k, ek⟩ : ∃ k : Nat, sg_g σ 143 j = k := ⟨(sg_g σ 143 j).toNat, by omega⟩
    have hk : k < l.length := by omega
    have hx : l[k]? = some l[k] := List.getElem?_eq_getElem hk
    rw [ek, Int.toNat_natCast, List.getD_eq_getElem?_getD, hx, Option.getD_some]
    obtain ⟨b1, b2⟩ := bgF_i lv l k l[k] hx
    have g1 := bg_X h lv hlv k (by omega)
    have g2 := bg_X h lv hlv (k + 1) (by omega)
    have e : (gd σ R lv j).toNat = (lvl lv [l[k]]).length := by
      unfold gd
      rw [if_neg c, ek, g1, show ((k : Int) + 1) = ((k + 1 : Nat) : Int) by omega, g2, b1]
      omega
    rw [e]
    have hr := (h.2.2.2 lv hlv).2
    apply List.ext_getElem?
    intro i
    unfold gCt
    rw [List.getElem?_map]
    rcases Nat.lt_or_ge i (lvl lv [l[k]]).length with q | q
    · rw [List.getElem?_range q, Option.map_some, g1]
      have y : (lvl lv l)[bgF lv l k + i]? = (lvl lv [l[k]])[i]? := by
        have := congrArg (fun c : List Int => c[i]?) b2
        rw [List.getElem?_take, if_pos q, List.getElem?_drop] at this
        exact this
      rw [List.getElem?_eq_getElem q] at y ⊢
      have z := hr _ _ y
      rw [← z, show (R.getD lv (0, 0)).1 + ((bgF lv l k : Nat) : Int) + (i : Int) = (R.getD lv (0, 0)).1 + ((bgF lv l k + i : Nat) : Int) by omega]
    · rw [List.getElem?_eq_none (by rw [List.length_range]; exact q), List.getElem?_eq_none q]
      rfl
theorem gCl_F (h : fX σ M v d l R) {lv : Nat} (hlv : lv ≤ d) : ∀ J : Nat, (∀ j : Nat, j < J → sg_g σ 143 j < l.length) → gCl σ R lv J = lvl lv ((List.range J).map (sel σ l))
  | 0, _ => (lvl_0 lv).symm
  | J + 1, hj => by
    simp only [gCl]
    rw [gCl_F h hlv J (fun j x => hj j (by omega)), gC1_F h hlv (hj J (by omega)), List.range_succ, List.map_append, lvl_a]
    rfl
end FXS
/-! THE FLAT RUN of a PROGRAM, told as a function: each part for all lanes at once. -/
/-- STEPS, CELLS, the most LANES -/
abbrev fSt : Type := Int × Int × Int
abbrev fEv : Type := Int → List vaF
abbrev fRs : Type := (Int × fSt) ⊕ (List vaF × fSt × fEv)
abbrev fRl : Type := (Int × fSt) ⊕ (List (List vaF) × fSt × fEv)
/-- a STEP of c CELLS -/
def fStp (c : Int) (s : fSt) : Option fSt := if s.1 = 2000 ∨ 6000 < s.2.1 + c then none else some (s.1 + 1, s.2.1 + c, s.2.2)
/-- what a lane comes to -/
def unw : Int ⊕ (vaF × Int) → Int ⊕ vaF
  | .inl e => .inl e
  | .inr p => .inr p.1
def fO1 (k ty x : Int) (vs : List (List vaF)) (i : Nat) : Int ⊕ vaF := unw (eO k ty x (vs.map (fun l => l.getD i (nmF 0))))
def fOl (k ty x : Int) (vs : List (List vaF)) (n : Nat) : List (Int ⊕ vaF) := (List.range n).map (fO1 k ty x vs)
def fOv : Int ⊕ vaF → vaF
  | .inl _ => nmF 0
  | .inr v => v
/-- the FINDING of the least lane, or 0 -/
def fOe : List (Int ⊕ vaF) → Int
  | [] => 0
  | .inl e :: r => if e = 0 then fOe r else e
  | .inr _ :: r => fOe r
/-- a STEP of a node behind its parts -/
def fWk (k ty x : Int) (vs : List (List vaF)) (n : Nat) (s : fSt) (ρ : fEv) : fRs := match fStp (exF ty.toNat ((fOl k ty x vs n).map fOv)) s with
  | none => .inl (8, s)
  | some s1 => if fOe (fOl k ty x vs n) = 0 then .inr ((fOl k ty x vs n).map fOv, s1, ρ) else .inl (fOe (fOl k ty x vs n), s1)
/-- lanes, picked -/
def fPk (l : List vaF) (ks : List Nat) : List vaF := ks.map (fun k => l.getD k (nmF 0))
/-- lanes where a row is not 0 (b), or is 0 -/
def fWh (b : Bool) (c : List vaF) : List Nat := (List.range c.length).filter (fun i : Nat => decide ((c.getD i (nmF 0)) [] = 0) != b)
/-- variables, carried along into other lanes -/
def fCa (ty : Int → Int) (ks : List Nat) : List Int → fSt → fEv → (Int × fSt) ⊕ (fSt × fEv)
  | [], s, ρ => .inr (s, ρ)
  | b :: r, s, ρ => match fStp (exF (ty b).toNat (fPk (ρ b) ks)) s with
    | none => .inl (8, s)
    | some s1 => fCa ty ks r s1 (fun x => if x = b then fPk (ρ b) ks else ρ x)
/-- what was carried is put back -/
def fBk (bs : List Int) (ρ ρ' : fEv) : fEv := fun b => if b ∈ bs then ρ b else ρ' b
/-- parts one after another -/
def fSq (go : Int → fEv → fSt → fRs) : List Int → fEv → fSt → fRl
  | [], ρ, s => .inr ([], s, ρ)
  | x :: r, ρ, s => match go x ρ s with
    | .inl e => .inl e
    | .inr (v, s1, ρ1) => match fSq go r ρ1 s1 with
      | .inl e => .inl e
      | .inr (vs, s2, ρ2) => .inr (v :: vs, s2, ρ2)
def fUs (ρ : fEv) (b : Int) : Nat → List (List vaF) → fEv
  | _, [] => ρ
  | j, v :: r => fUs (fun x => if x = b + j then v else ρ x) b (j + 1) r
/-- lanes put together: from the first where c is not 0, from the second where it is 0 -/
def fMg : List vaF → List vaF → List vaF → List vaF
  | [], _, _ => []
  | c :: r, a, b => if c [] = 0 then b.headD (nmF 0) :: fMg r a b.tail else a.headD (nmF 0) :: fMg r a.tail b
/-- values, cut into sequences of given lengths -/
def fCt : List Nat → List vaF → List vaF
  | [], _ => []
  | n :: r, l => mkF (l.take n) :: fCt r (l.drop n)
