/-! findBegins: where the part of a lane begins in each row. -/
theorem lt_of_get {α : Type} {R : List α} {l : Nat} {r : α} (h : R[l]? = some r) : l < R.length := by
  rcases Nat.lt_or_ge l R.length with q | q
  · exact q
  · rw [List.getElem?_eq_none q] at h; cases h
theorem fCh_at {σ : sg_S} {M : Int} : ∀ {R : List (Int × Int)} {l : Nat} {r : Int × Int}, fCh σ M R → R[l]? = some r → fRw σ M r ∧ ∀ r', R[l + 1]? = some r' → fLn σ r ∧ r'.2 = cs σ r.1 r.2.toNat
  | [], l, r, _, h => by cases h
  | x :: R, 0, r, ⟨a1, a2, a3⟩, h => by
    cases h
    refine ⟨a1, fun r' h' => ?_⟩
    cases R with
    | nil => cases h'
    | cons y R' =>
      cases h'
      exact a2
  | x :: R, l + 1, r, ⟨a1, a2, a3⟩, h => by
    rw [List.getElem?_cons_succ] at h
    obtain ⟨b1, b2⟩ := fCh_at a3 h
    exact ⟨b1, fun r' h' => b2 r' (by rw [List.getElem?_cons_succ] at h'; exact h')⟩
/-- where lane i begins in row l -/
def bg (σ : sg_S) (R : List (Int × Int)) : Nat → Int → Int
  | 0, i => i
  | l + 1, i => cs σ (R.getD l (0, 0)).1 (bg σ R l i).toNat
section FLB
variable {σ : sg_S} {M : Int} {R : List (Int × Int)}
theorem bg_m (h : fCh σ M R) : ∀ {l : Nat} {r : Int × Int}, R[l]? = some r → ∀ i j : Int, 0 ≤ i → i ≤ j → j ≤ (R.getD 0 (0, 0)).2 → 0 ≤ bg σ R l i ∧ bg σ R l i ≤ bg σ R l j ∧ bg σ R l j ≤ r.2
  | 0, r, hr, i, j, i0, ij, jl => by
    simp only [bg]
    rw [List.getD_eq_getElem?_getD, hr] at jl
    exact ⟨i0, ij, jl⟩
  | l + 1, r, hr, i, j, i0, ij, jl => by
    have hl := lt_of_get hr
    obtain ⟨q, hq⟩ : ∃ q, R[l]? = some q := ⟨_, List.getElem?_eq_getElem (by omega)⟩
    obtain ⟨a1, a2, a3⟩ := bg_m h hq i j i0 ij jl
    obtain ⟨b1, b2⟩ := fCh_at h hq
    obtain ⟨b3, b4⟩ := b2 r hr
    simp only [bg]
    rw [List.getD_eq_getElem?_getD, hq, Option.getD_some]
    have c1 := (cs_m b3 (i := (bg σ R l i).toNat) (j := (bg σ R l j).toNat) (by omega) (by omega)).1
    have c2 := (cs_m b3 (i := (bg σ R l j).toNat) (j := q.2.toNat) (by omega) (by have := b1.2.1; omega)).1
    have c3 := cs_0 b3 (j := (bg σ R l i).toNat) (by omega)
    rw [b4]
    exact ⟨c3, c1, c2⟩
theorem bg_L (h : fCh σ M R) : ∀ {l : Nat} {r : Int × Int}, R[l]? = some r → bg σ R l (R.getD 0 (0, 0)).2 = r.2
  | 0, r, hr => by
    simp only [bg]
    rw [List.getD_eq_getElem?_getD, hr]
    rfl
  | l + 1, r, hr => by
    have hl := lt_of_get hr
    obtain ⟨q, hq⟩ : ∃ q, R[l]? = some q := ⟨_, List.getElem?_eq_getElem (by omega)⟩
    obtain ⟨b1, b2⟩ := fCh_at h hq
    obtain ⟨b3, b4⟩ := b2 r hr
    simp only [bg]
    rw [bg_L h hq, b4, List.getD_eq_getElem?_getD, hq, Option.getD_some]
theorem m_findB {v : Int} {Q : sg_S → Prop} (hv : fV σ M v R) (hM : M ≤ 12000) (hc : sg_g σ 88 91 ≤ 60000 ∧ sg_g σ 88 87 ≤ 30000) (k : ∀ σ', sg_F [144] σ σ' → (∀ l j : Nat, l < R.length → (j : Int) ≤ (R.getD 0 (0, 0)).2 → sg_g σ' 144 (13000 * l + j) = bg σ R l j) → Q σ') : V_findBegins σ v Q := by
  obtain ⟨a1, a2, a3, a4, a5⟩ := hv
  obtain ⟨r0, hr0⟩ : ∃ q, R[0]? = some q := ⟨_, List.getElem?_eq_getElem (by omega)⟩
  have eL : (R.getD 0 (0, 0)).2 = r0.2 := by rw [List.getD_eq_getElem?_getD, hr0]; rfl
  obtain ⟨L, hL⟩ : ∃ L, L = r0.2 := ⟨_, rfl⟩
  have z0 := a4 0 r0 hr0
  rw [show 4 * v + ((0 : Nat) : Int) = 4 * v by omega] at z0
  have rw0 := (fCh_at a5 hr0).1
  have Lb : 0 ≤ L ∧ L ≤ 12000 := by
    obtain ⟨b1, b2, b3, b4⟩ := rw0
    omega
  have vl : v_lanesOf σ v = L := by unfold v_lanesOf; rw [z0.2, hL]
  have pl : p_lanesOf σ v := ⟨⟨by omega, by omega⟩, ⟨by omega, by omega⟩, trivial⟩
  rw [eL, ← hL] at k
  have bm : ∀ {l : Nat} {r : Int × Int}, R[l]? = some r → ∀ i j : Int, 0 ≤ i → i ≤ j → j ≤ L → 0 ≤ bg σ R l i ∧ bg σ R l i ≤ bg σ R l j ∧ bg σ R l j ≤ r.2 := fun hr i j x y z => bg_m a5 hr i j x y (by omega)
  unfold V_findBegins
  rw [vl]
  refine ⟨fun n x σ2 => n = (L + 1 - x).toNat ∧ (0 ≤ x ∧ x ≤ L + 1) ∧ ∀ j : Nat, (j : Int) < x → sg_g σ2 144 j = j, fun σ2 => ∀ j : Nat, (j : Int) ≤ L → sg_g σ2 144 j = j, ⟨_, rfl, ⟨by omega, by omega⟩, fun j hj => by omega⟩, ?_, ?_⟩
  · rintro n x σ2 rx f2 ⟨en, hx, i1⟩
    refine ⟨pl, fun z j hj => i1 j (by omega), fun z => ⟨⟨by omega, by omega⟩, fun σ99 e99 => ⟨⟨by omega, by omega⟩, _, by omega, rfl, ⟨by omega, by omega⟩, fun j hj => ?_⟩⟩⟩
    by_cases e : (j : Int) = x
    · rw [e99, e, sg_gw_e _ _ _ _ rx]
    · rw [e99, sg_gw_k _ _ _ _ _ _ e]; exact i1 j (by omega)
  · intro σ2 f2 h2
    refine ⟨fun n x σ17 => n = (R.length - 1 - x).toNat ∧ (0 ≤ x ∧ x ≤ R.length - 1) ∧ ∀ l j : Nat, (l : Int) ≤ x → (j : Int) ≤ L → sg_g σ17 144 (13000 * l + j) = bg σ R l j, fun σ17 => ∀ l j : Nat, l < R.length → (j : Int) ≤ L → sg_g σ17 144 (13000 * l + j) = bg σ R l j, ⟨_, rfl, ⟨by omega, by omega⟩, fun l j hl hj => ?_⟩, ?_, fun σ17 f17 h17 => k σ17 (sg_F_t f2 f17) h17⟩
    · rw [show l = 0 by omega, show 13000 * ((0 : Nat) : Int) + (j : Int) = j by omega]
      exact h2 j hj
    · rintro n x σ17 rx f17 ⟨en, hx, i1⟩
      refine ⟨⟨a1.1, by omega⟩, fun z l j hl hj => i1 l j (by omega) hj, fun z => ?_⟩
      rw [a3] at z
      obtain ⟨X, hX⟩ : ∃ X : Nat, x = X := ⟨x.toNat, by omega⟩
      subst hX
      obtain ⟨q, hq⟩ : ∃ q, R[X]? = some q := ⟨_, List.getElem?_eq_getElem (by omega)⟩
      obtain ⟨q', hq'⟩ : ∃ q, R[X + 1]? = some q := ⟨_, List.getElem?_eq_getElem (by omega)⟩
      obtain ⟨w1, w2⟩ := fCh_at a5 hq
      obtain ⟨w3, w4⟩ := w2 q' hq'
      obtain ⟨w5, -⟩ := fCh_at a5 hq'
      have zq := a4 X q hq
      have bgS : ∀ i, bg σ R (X + 1) i = cs σ q.1 (bg σ R X i).toNat := fun i => by
        simp only [bg]
        rw [List.getD_eq_getElem?_getD, hq]
        rfl
      obtain ⟨y1, y2, y3, y4⟩ := w1
      obtain ⟨y5, y6, y7, y8⟩ := w5
      refine ⟨fun n at_ sm i σ36 => n = (L + 1 - i).toNat ∧ (0 ≤ i ∧ i ≤ L + 1) ∧ (0 ≤ at_ ∧ at_ ≤ q.2 ∧ (i = 0 → at_ = 0) ∧ (1 ≤ i → at_ = bg σ R X (i - 1))) ∧ sm = cs σ q.1 at_.toNat ∧ (∀ l j : Nat, l ≤ X → (j : Int) ≤ L → sg_g σ36 144 (13000 * l + j) = bg σ R l j) ∧ ∀ j : Nat, (j : Int) < i → sg_g σ36 144 (13000 * (X + 1) + j) = bg σ R (X + 1) j, fun σ36 => (∀ l j : Nat, l ≤ X → (j : Int) ≤ L → sg_g σ36 144 (13000 * l + j) = bg σ R l j) ∧ ∀ j : Nat, (j : Int) ≤ L → sg_g σ36 144 (13000 * (X + 1) + j) = bg σ R (X + 1) j, ⟨_, rfl, ⟨by omega, by omega⟩, ⟨by omega, by omega, fun _ => rfl, fun z => by omega⟩, rfl, fun l j hl hj => i1 l j (by omega) hj, fun j hj => by omega⟩, ?_, ?_⟩
      · rintro n at_ sm i σ36 ra rs ri f36 ⟨en, hi, ⟨g1, g2, g3, g4⟩, g5, g6, g7⟩
        refine ⟨pl, fun z => ⟨g6, fun j hj => g7 j (by omega)⟩, fun z => ?_⟩
        have bi := g6 X i.toNat (Nat.le_refl _) (by omega)
        rw [show ((i.toNat : Nat) : Int) = i by omega] at bi
        have bb := bm hq i i (by omega) (by omega) (by omega)
        have at_le : at_ ≤ bg σ R X i := by
          by_cases c : i = 0
          · rw [g3 c]; exact bb.1
          · rw [g4 (by omega)]
            exact (bm hq (i - 1) i (by omega) (by omega) (by omega)).2.1
        refine ⟨fun n a s => n = (bg σ R X i - a).toNat ∧ (0 ≤ a ∧ a ≤ bg σ R X i) ∧ s = cs σ q.1 a.toNat, fun a s => a = bg σ R X i ∧ s = cs σ q.1 a.toNat, ⟨_, rfl, ⟨g1, at_le⟩, g5⟩, ?_, ?_⟩
        · rintro n a s ra' rs' ⟨en', ha, es⟩
          refine ⟨⟨by omega, by omega⟩, ⟨by omega, by omega⟩, ⟨by omega, by omega⟩, fun c => ⟨by omega, es⟩, fun c => ?_⟩
          rw [bi] at c
          have c1 := (cs_m w3 (i := a.toNat + 1) (j := q.2.toNat) (by omega) (by omega)).1
          have c2 := cs_0 w3 (j := a.toNat + 1) (by omega)
          rw [← w4] at c1
          have e1 : cs σ q.1 (a.toNat + 1) = cs σ q.1 a.toNat + sg_g σ 142 (q.1 + a) := by
            simp only [cs]
            rw [show ((a.toNat : Nat) : Int) = a by omega]
          rw [zq.1]
          refine ⟨⟨by omega, by omega⟩, ⟨by omega, by omega⟩, ⟨by omega, by omega⟩, ⟨by omega, by omega⟩, ⟨by omega, by omega⟩, ⟨by omega, by omega⟩, ⟨by omega, by omega⟩, _, by omega, rfl, ⟨by omega, by omega⟩, ?_⟩
          rw [show (a + 1).toNat = a.toNat + 1 by omega, e1, es]
        · rintro a s ra' rs' ⟨ea, es⟩
          refine ⟨⟨by omega, by omega⟩, ⟨by omega, by omega⟩, ⟨by omega, by omega⟩, ⟨by omega, by omega⟩, fun σ78 e78 => ⟨⟨by omega, by omega⟩, _, by omega, rfl, ⟨by omega, by omega⟩, ⟨by omega, by omega, fun c => by omega, fun _ => ?_⟩, es, fun l j hl hj => ?_, fun j hj => ?_⟩⟩
          · rw [show i + 1 - 1 = i by omega]; exact ea
          · rw [e78, sg_gw_k _ _ _ _ _ _ (by omega)]; exact g6 l j hl hj
          · by_cases c : (j : Int) = i
            · rw [e78, c, sg_gw_e _ _ _ _ rs', bgS, es, ea]
            · rw [e78, sg_gw_k _ _ _ _ _ _ (by omega)]; exact g7 j (by omega)
      · rintro σ36 f36 ⟨g6, g7⟩
        refine ⟨⟨by omega, by omega⟩, _, by omega, rfl, ⟨by omega, by omega⟩, fun l j hl hj => ?_⟩
        by_cases c : l = X + 1
        · rw [c]
          have := g7 j hj
          rwa [show (13000 : Int) * ((X + 1 : Nat) : Int) = 13000 * (X + 1) by omega]
        · exact g6 l j (by omega) hj
end FLB
/-! extentOfLanes, gathered: the parts of listed lanes. -/
section FLC
variable (σ : sg_S) (R : List (Int × Int))
/-- what the lane listed j-th has in row l -/
def gd (l j : Nat) : Int := if sg_g σ 143 j < 0 then (if l = 0 then 1 else 0) else bg σ R l (sg_g σ 143 j + 1) - bg σ R l (sg_g σ 143 j)
def gsum (l : Nat) : Nat → Int
  | 0 => 0
  | j + 1 => gsum l j + gd σ R l j
/-- of the lane listed j-th, rows before l -/
def eT (j : Nat) : Nat → Int
  | 0 => 0
  | l + 1 => eT j l + gd σ R l j
/-- of J listed lanes, rows before l -/
def gT (J : Nat) : Nat → Int
  | 0 => 0
  | l + 1 => gT J l + gsum σ R l J
def lnO : Prop := (0 ≤ sg_g σ 88 93 ∧ sg_g σ 88 93 ≤ 13000) ∧ ∀ j, 0 ≤ j → j < sg_g σ 88 93 → sg_g σ 143 j < (R.getD 0 (0, 0)).2
end FLC
section FLD
variable {σ : sg_S} {M : Int} {R : List (Int × Int)}
theorem fCh_L (h : fCh σ M R) (hR : 1 ≤ R.length) : 0 ≤ (R.getD 0 (0, 0)).2 ∧ (R.getD 0 (0, 0)).2 ≤ M := by
  obtain ⟨r, hr⟩ : ∃ q, R[0]? = some q := ⟨_, List.getElem?_eq_getElem hR⟩
  rw [List.getD_eq_getElem?_getD, hr]
  obtain ⟨b1, b2, b3, b4⟩ := (fCh_at h hr).1
  exact ⟨b2, b3⟩
theorem gT_s (j : Nat) : ∀ l, gT σ R (j + 1) l = gT σ R j l + eT σ R j l
  | 0 => rfl
  | l + 1 => by simp only [gT, eT, gsum]; rw [gT_s j l]; omega
theorem gT_z : ∀ l, gT σ R 0 l = 0
  | 0 => rfl
  | l + 1 => by simp only [gT, gsum]; rw [gT_z l]; rfl
theorem gd_b (h : fCh σ M R) (hl : lnO σ R) {l j : Nat} (lR : l < R.length) (hj : (j : Int) < sg_g σ 88 93) (hM : 1 ≤ M) : 0 ≤ gd σ R l j ∧ gd σ R l j ≤ M := by
  obtain ⟨r, hr⟩ : ∃ q, R[l]? = some q := ⟨_, List.getElem?_eq_getElem lR⟩
  unfold gd
  by_cases c : sg_g σ 143 j < 0
  · rw [if_pos c]
    split <;> omega
  · rw [if_neg c]
    have b := bg_m h hr (sg_g σ 143 j) (sg_g σ 143 j + 1) (by omega) (by omega) (by have := hl.2 j (by omega) hj; omega)
    have := (fCh_at h hr).1.2.2.1
    omega
theorem eT_b (h : fCh σ M R) (hl : lnO σ R) {j : Nat} (hj : (j : Int) < sg_g σ 88 93) (hM : 1 ≤ M) : ∀ {l : Nat}, l ≤ R.length → 0 ≤ eT σ R j l ∧ eT σ R j l ≤ M * l
  | 0, _ => ⟨Int.le_refl _, by simp [eT]⟩
  | l + 1, lR => by
    have a := eT_b h hl hj hM (l := l) (by omega)
    have b := gd_b h hl (l := l) (j := j) (by omega) hj hM
    simp only [eT]
    have : M * ((l + 1 : Nat) : Int) = M * l + M := by rw [show ((l + 1 : Nat) : Int) = (l : Int) + 1 by omega, Int.mul_add, Int.mul_one]
    omega
theorem gsum_b (h : fCh σ M R) (hl : lnO σ R) {l : Nat} (lR : l < R.length) (hM : 1 ≤ M) : ∀ {j : Nat}, (j : Int) ≤ sg_g σ 88 93 → 0 ≤ gsum σ R l j
  | 0, _ => Int.le_refl _
  | j + 1, hj => by
    have a := gsum_b h hl lR hM (j := j) (by omega)
    have b := gd_b h hl (l := l) (j := j) lR (by omega) hM
    simp only [gsum]
    omega
theorem gsum_m (h : fCh σ M R) (hl : lnO σ R) {l : Nat} (lR : l < R.length) (hM : 1 ≤ M) : ∀ {i j : Nat}, i ≤ j → (j : Int) ≤ sg_g σ 88 93 → gsum σ R l i ≤ gsum σ R l j
  | i, 0, a, _ => by
    have : i = 0 := by omega
    subst this
    exact Int.le_refl _
  | i, j + 1, a, hj => by
    by_cases e : i = j + 1
    · subst e; exact Int.le_refl _
    · have c := gsum_m h hl lR hM (i := i) (j := j) (by omega) (by omega)
      have b := gd_b h hl (l := l) (j := j) lR (by omega) hM
      simp only [gsum]
      omega
theorem gT_b (h : fCh σ M R) (hl : lnO σ R) (hM : 1 ≤ M) {j : Nat} (hj : (j : Int) ≤ sg_g σ 88 93) : ∀ {l : Nat}, l ≤ R.length → 0 ≤ gT σ R j l
  | 0, _ => Int.le_refl _
  | l + 1, lR => by
    have a := gT_b h hl hM hj (l := l) (by omega)
    have b := gsum_b h hl (l := l) (by omega) hM hj
    simp only [gT]
    omega
theorem gT_m (h : fCh σ M R) (hl : lnO σ R) (hM : 1 ≤ M) {j : Nat} (hj : (j : Int) ≤ sg_g σ 88 93) : ∀ {l l' : Nat}, l ≤ l' → l' ≤ R.length → gT σ R j l ≤ gT σ R j l'
  | l, 0, a, _ => by
    have : l = 0 := by omega
    subst this
    exact Int.le_refl _
  | l, l' + 1, a, b => by
    by_cases e : l = l' + 1
    · subst e; exact Int.le_refl _
    · have c := gT_m h hl hM hj (l := l) (l' := l') (by omega) (by omega)
      have d := gsum_b h hl (l := l') (by omega) hM hj
      simp only [gT]
      omega
theorem gT_l (h : fCh σ M R) (hl : lnO σ R) (hM : 1 ≤ M) {j : Nat} (hj : (j : Int) ≤ sg_g σ 88 93) {l : Nat} (lR : l < R.length) : gT σ R j l + gsum σ R l j ≤ gT σ R j R.length := gT_m h hl hM hj (l := l + 1) (l' := R.length) (by omega) (Nat.le_refl _)
/-- a listed lane counts one in the first row -/
theorem gsum_0 : ∀ j : Nat, gsum σ R 0 j = j
  | 0 => rfl
  | j + 1 => by
    simp only [gsum]
    rw [gsum_0 j]
    unfold gd
    split
    · simp
    · simp only [bg]; omega
theorem m_extL {v : Int} {Q : Int → sg_S → Prop} (hv : fV σ M v R) (hM : 1 ≤ M ∧ M ≤ 12000) (hc : sg_g σ 88 91 ≤ 60000 ∧ sg_g σ 88 87 ≤ 30000) (hl : lnO σ R) (k : ∀ q σ', q = gT σ R (sg_g σ 88 93).toNat R.length → sg_F [144] σ σ' → Q q σ') : V_extentOfLanes σ v Q := by
  have hv' := hv
  obtain ⟨a1, a2, a3, a4, a5⟩ := hv
  have l1 := hl.1
  unfold V_extentOfLanes
  refine m_findB hv' hM.2 hc (fun σ2 f2 hb _ => ?_)
  refine ⟨fun n s j => n = (sg_g σ 88 93 - j).toNat ∧ (0 ≤ j ∧ j ≤ sg_g σ 88 93) ∧ s = gT σ R j.toNat R.length ∧ 0 ≤ s ∧ s ≤ 48000 * j, fun s => s = gT σ R (sg_g σ 88 93).toNat R.length, ⟨_, rfl, ⟨by omega, by omega⟩, by rw [show (0 : Int).toNat = 0 by rfl, gT_z], by omega, by omega⟩, ?_, fun s rs hs => k s σ2 hs f2⟩
  rintro n s j rs rj ⟨en, hj, es, s0, s1⟩
  refine ⟨fun z => by rw [es, show j = sg_g σ 88 93 by omega], fun z => ⟨⟨by omega, by omega⟩, fun v28 e28 r28 => ?_⟩⟩
  obtain ⟨J, rfl⟩ : ∃ J : Nat, j = J := ⟨j.toNat, by omega⟩
  rw [show ((J : Int)).toNat = J by omega] at es
  have eb := eT_b a5 hl (j := J) (by omega) hM.1 (l := R.length) (Nat.le_refl _)
  have eb2 : M * (R.length : Int) ≤ 48000 := by
    have : M * (R.length : Int) ≤ 12000 * 4 := Int.mul_le_mul hM.2 (by omega) (by omega) (by decide)
    omega
  have fin : ∀ s', s' = s + eT σ R J R.length → sg_R ((J : Int) + 1) ∧ ∃ m, m < n ∧ (m = (sg_g σ 88 93 - ((J : Int) + 1)).toNat ∧ (0 ≤ (J : Int) + 1 ∧ (J : Int) + 1 ≤ sg_g σ 88 93) ∧ s' = gT σ R ((J : Int) + 1).toNat R.length ∧ 0 ≤ s' ∧ s' ≤ 48000 * ((J : Int) + 1)) := fun s' h' => ⟨⟨by omega, by omega⟩, _, by omega, rfl, ⟨by omega, by omega⟩, by rw [show ((J : Int) + 1).toNat = J + 1 by omega, gT_s, h', es], by omega, by omega⟩
  by_cases c : sg_g σ 143 J < 0
  · rw [if_neg (by omega)] at e28
    have e1 : ∀ l, eT σ R J (l + 1) = 1 := fun l => by
      induction l with
      | zero => simp only [eT]; unfold gd; rw [if_pos c]; simp
      | succ l ih => rw [eT, ih]; unfold gd; rw [if_pos c]; simp
    refine ⟨⟨by omega, by omega⟩, fun n s' l => s' = s + 1, fun s' => s' = s + 1, ⟨0, by omega⟩, ?_, fun s' r' h' => fin s' (by rw [h', show R.length = (R.length - 1) + 1 by omega, e1])⟩
    rintro n' s' l r' rl h'
    exact ⟨⟨a1.1, by omega⟩, fun _ => h', fun _ => ⟨fun _ => h', fun z => by omega⟩⟩
  · rw [if_pos (by omega)] at e28
    have ll := hl.2 J (by omega) z
    have L12 := fCh_L a5 a2.1
    refine ⟨⟨by omega, by omega⟩, fun n s' l => n = (R.length - l).toNat ∧ (0 ≤ l ∧ l ≤ R.length) ∧ s' = s + eT σ R J l.toNat, fun s' => s' = s + eT σ R J R.length, ⟨_, rfl, ⟨by omega, by omega⟩, by rw [show (0 : Int).toNat = 0 by rfl]; simp only [eT]; omega⟩, ?_, fun s' r' h' => fin s' h'⟩
    rintro n' s' l r' rl ⟨en', hl', es'⟩
    refine ⟨⟨a1.1, by omega⟩, fun z' => by rw [es', show l.toNat = R.length by omega], fun z' => ⟨fun z'' => absurd z'' c, fun _ => ?_⟩⟩
    rw [a3] at z'
    have b1 := hb l.toNat (sg_g σ 143 J).toNat (by omega) (by omega)
    have b2 := hb l.toNat ((sg_g σ 143 J).toNat + 1) (by omega) (by omega)
    rw [show 13000 * ((l.toNat : Nat) : Int) + ((sg_g σ 143 J).toNat : Int) = 13000 * l + sg_g σ 143 J by omega, show (((sg_g σ 143 J).toNat : Nat) : Int) = sg_g σ 143 J by omega] at b1
    rw [show 13000 * ((l.toNat : Nat) : Int) + (((sg_g σ 143 J).toNat + 1 : Nat) : Int) = 13000 * l + sg_g σ 143 J + 1 by omega, show ((((sg_g σ 143 J).toNat + 1 : Nat)) : Int) = sg_g σ 143 J + 1 by omega] at b2
    rw [b1, b2]
    have gb := gd_b a5 hl (l := l.toNat) (j := J) (by omega) z hM.1
    have eb3 := eT_b a5 hl (j := J) z hM.1 (l := l.toNat) (by omega)
    have eb4 : M * ((l.toNat : Nat) : Int) ≤ 48000 := by
      have : M * ((l.toNat : Nat) : Int) ≤ 12000 * 4 := Int.mul_le_mul hM.2 (by omega) (by omega) (by decide)
      omega
    have eg : gd σ R l.toNat J = bg σ R l.toNat (sg_g σ 143 J + 1) - bg σ R l.toNat (sg_g σ 143 J) := by unfold gd; rw [if_neg c]
    refine ⟨⟨by omega, by omega⟩, ⟨by omega, by omega⟩, ⟨by omega, by omega⟩, ⟨by omega, by omega⟩, ⟨by omega, by omega⟩, ⟨by omega, by omega⟩, ⟨by omega, by omega⟩, ⟨by omega, by omega⟩, _, by omega, rfl, ⟨by omega, by omega⟩, ?_⟩
    rw [show (l + 1).toNat = l.toNat + 1 by omega]
    simp only [eT]
    omega
end FLD
