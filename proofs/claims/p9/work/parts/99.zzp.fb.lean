/-! findBegins: where the part of a lane begins in each row. -/
theorem lt_of_get {α : Type} {R : List α} {l : Nat} {r : α} (h : R[l]? = some r) : l < R.length := by
  rcases Nat.lt_or_ge l R.length with q | q
  · exact q
  · rw [List.getElem?_eq_none q] at h; cases h
theorem fCh_at {σ : sg_S} {M : Int} : ∀ {R : List (Int × Int)} {l : Nat} {r : Int × Int}, fCh σ M R → R[l]? = some r → fRw σ M r ∧ ∀ r', R[l + 1]? = some r' → fLn σ r ∧ r'.2 = cs σ r.1 r.2.toNat
  | [], l, r, _, h => by cases h
  | x :: R, 0, r, ⟨a1, a2, a3⟩, h => by
    cases h
    refine ⟨a1, fun r' h' => ?_⟩
    cases R with
    | nil => cases h'
    | cons y R' =>
      cases h'
      exact a2
  | x :: R, l + 1, r, ⟨a1, a2, a3⟩, h => by
    rw [List.getElem?_cons_succ] at h
    obtain ⟨b1, b2⟩ := fCh_at a3 h
    exact ⟨b1, fun r' h' => b2 r' (by rw [List.getElem?_cons_succ] at h'; exact h')⟩
/-- where lane i begins in row l -/
def bg (σ : sg_S) (R : List (Int × Int)) : Nat → Int → Int
  | 0, i => i
  | l + 1, i => cs σ (R.getD l (0, 0)).1 (bg σ R l i).toNat
section FLB
variable {σ : sg_S} {M : Int} {R : List (Int × Int)}
theorem bg_m (h : fCh σ M R) : ∀ {l : Nat} {r : Int × Int}, R[l]? = some r → ∀ i j : Int, 0 ≤ i → i ≤ j → j ≤ (R.getD 0 (0, 0)).2 → 0 ≤ bg σ R l i ∧ bg σ R l i ≤ bg σ R l j ∧ bg σ R l j ≤ r.2
  | 0, r, hr, i, j, i0, ij, jl => by
    simp only [bg]
    rw [List.getD_eq_getElem?_getD, hr] at jl
    exact ⟨i0, ij, jl⟩
  | l + 1, r, hr, i, j, i0, ij, jl => by
    have hl := lt_of_get hr
    obtain ⟨q, hq⟩ : ∃ q, R[l]? = some q := ⟨_, List.getElem?_eq_getElem (by omega)⟩
    obtain ⟨a1, a2, a3⟩ := bg_m h hq i j i0 ij jl
    obtain ⟨b1, b2⟩ := fCh_at h hq
    obtain ⟨b3, b4⟩ := b2 r hr
    simp only [bg]
    rw [List.getD_eq_getElem?_getD, hq, Option.getD_some]
    have c1 := (cs_m b3 (i := (bg σ R l i).toNat) (j := (bg σ R l j).toNat) (by omega) (by omega)).1
    have c2 := (cs_m b3 (i := (bg σ R l j).toNat) (j := q.2.toNat) (by omega) (by have := b1.2.1; omega)).1
    have c3 := cs_0 b3 (j := (bg σ R l i).toNat) (by omega)
    rw [b4]
    exact ⟨c3, c1, c2⟩
theorem bg_L (h : fCh σ M R) : ∀ {l : Nat} {r : Int × Int}, R[l]? = some r → bg σ R l (R.getD 0 (0, 0)).2 = r.2
  | 0, r, hr => by
    simp only [bg]
    rw [List.getD_eq_getElem?_getD, hr]
    rfl
  | l + 1, r, hr => by
    have hl := lt_of_get hr
    obtain ⟨q, hq⟩ : ∃ q, R[l]? = some q := ⟨_, List.getElem?_eq_getElem (by omega)⟩
    obtain ⟨b1, b2⟩ := fCh_at h hq
    obtain ⟨b3, b4⟩ := b2 r hr
    simp only [bg]
    rw [bg_L h hq, b4, List.getD_eq_getElem?_getD, hq, Option.getD_some]
theorem m_findB {v : Int} {Q : sg_S → Prop} (hv : fV σ M v R) (hM : M ≤ 12000) (hc : sg_g σ 88 91 ≤ 60000 ∧ sg_g σ 88 87 ≤ 30000) (k : ∀ σ', sg_F [144] σ σ' → (∀ l j : Nat, l < R.length → (j : Int) ≤ (R.getD 0 (0, 0)).2 → sg_g σ' 144 (13000 * l + j) = bg σ R l j) → Q σ') : V_findBegins σ v Q := by
  obtain ⟨a1, a2, a3, a4, a5⟩ := hv
  obtain ⟨r0, hr0⟩ : ∃ q, R[0]? = some q := ⟨_, List.getElem?_eq_getElem (by omega)⟩
  have eL : (R.getD 0 (0, 0)).2 = r0.2 := by rw [List.getD_eq_getElem?_getD, hr0]; rfl
  obtain ⟨L, hL⟩ : ∃ L, L = r0.2 := ⟨_, rfl⟩
  have z0 := a4 0 r0 hr0
  rw [show 4 * v + ((0 : Nat) : Int) = 4 * v by omega] at z0
  have rw0 := (fCh_at a5 hr0).1
  have Lb : 0 ≤ L ∧ L ≤ 12000 := by
    obtain ⟨b1, b2, b3, b4⟩ := rw0
    omega
  have vl : v_lanesOf σ v = L := by unfold v_lanesOf; rw [z0.2, hL]
  have pl : p_lanesOf σ v := ⟨⟨by omega, by omega⟩, ⟨by omega, by omega⟩, trivial⟩
  rw [eL, ← hL] at k
  have bm : ∀ {l : Nat} {r : Int × Int}, R[l]? = some r → ∀ i j : Int, 0 ≤ i → i ≤ j → j ≤ L → 0 ≤ bg σ R l i ∧ bg σ R l i ≤ bg σ R l j ∧ bg σ R l j ≤ r.2 := fun hr i j x y z => bg_m a5 hr i j x y (by omega)
  unfold V_findBegins
  rw [vl]
  refine ⟨fun n x σ2 => n = (L + 1 - x).toNat ∧ (0 ≤ x ∧ x ≤ L + 1) ∧ ∀ j : Nat, (j : Int) < x → sg_g σ2 144 j = j, fun σ2 => ∀ j : Nat, (j : Int) ≤ L → sg_g σ2 144 j = j, ⟨_, rfl, ⟨by omega, by omega⟩, fun j hj => by omega⟩, ?_, ?_⟩
  · rintro n x σ2 rx f2 ⟨en, hx, i1⟩
    refine ⟨pl, fun z j hj => i1 j (by omega), fun z => ⟨⟨by omega, by omega⟩, fun σ99 e99 => ⟨⟨by omega, by omega⟩, _, by omega, rfl, ⟨by omega, by omega⟩, fun j hj => ?_⟩⟩⟩
    by_cases e : (j : Int) = x
    · rw [e99, e, sg_gw_e _ _ _ _ rx]
    · rw [e99, sg_gw_k _ _ _ _ _ _ e]; exact i1 j (by omega)
  · intro σ2 f2 h2
    refine ⟨fun n x σ17 => n = (R.length - 1 - x).toNat ∧ (0 ≤ x ∧ x ≤ R.length - 1) ∧ ∀ l j : Nat, (l : Int) ≤ x → (j : Int) ≤ L → sg_g σ17 144 (13000 * l + j) = bg σ R l j, fun σ17 => ∀ l j : Nat, l < R.length → (j : Int) ≤ L → sg_g σ17 144 (13000 * l + j) = bg σ R l j, ⟨_, rfl, ⟨by omega, by omega⟩, fun l j hl hj => ?_⟩, ?_, fun σ17 f17 h17 => k σ17 (sg_F_t f2 f17) h17⟩
    · rw [show l = 0 by omega, show 13000 * ((0 : Nat) : Int) + (j : Int) = j by omega]
      exact h2 j hj
    · rintro n x σ17 rx f17 ⟨en, hx, i1⟩
      refine ⟨⟨a1.1, by omega⟩, fun z l j hl hj => i1 l j (by omega) hj, fun z => ?_⟩
      rw [a3] at z
      obtain ⟨X, hX⟩ : ∃ X : Nat, x = X := ⟨x.toNat, by omega⟩
      subst hX
      obtain ⟨q, hq⟩ : ∃ q, R[X]? = some q := ⟨_, List.getElem?_eq_getElem (by omega)⟩
      obtain ⟨q', hq'⟩ : ∃ q, R[X + 1]? = some q := ⟨_, List.getElem?_eq_getElem (by omega)⟩
      obtain ⟨w1, w2⟩ := fCh_at a5 hq
      obtain ⟨w3, w4⟩ := w2 q' hq'
      obtain ⟨w5, -⟩ := fCh_at a5 hq'
      have zq := a4 X q hq
      have bgS : ∀ i, bg σ R (X + 1) i = cs σ q.1 (bg σ R X i).toNat := fun i => by
        simp only [bg]
        rw [List.getD_eq_getElem?_getD, hq]
        rfl
      obtain ⟨y1, y2, y3, y4⟩ := w1
      obtain ⟨y5, y6, y7, y8⟩ := w5
      refine ⟨fun n at_ sm i σ36 => n = (L + 1 - i).toNat ∧ (0 ≤ i ∧ i ≤ L + 1) ∧ (0 ≤ at_ ∧ at_ ≤ q.2 ∧ (i = 0 → at_ = 0) ∧ (1 ≤ i → at_ = bg σ R X (i - 1))) ∧ sm = cs σ q.1 at_.toNat ∧ (∀ l j : Nat, l ≤ X → (j : Int) ≤ L → sg_g σ36 144 (13000 * l + j) = bg σ R l j) ∧ ∀ j : Nat, (j : Int) < i → sg_g σ36 144 (13000 * (X + 1) + j) = bg σ R (X + 1) j, fun σ36 => (∀ l j : Nat, l ≤ X → (j : Int) ≤ L → sg_g σ36 144 (13000 * l + j) = bg σ R l j) ∧ ∀ j : Nat, (j : Int) ≤ L → sg_g σ36 144 (13000 * (X + 1) + j) = bg σ R (X + 1) j, ⟨_, rfl, ⟨by omega, by omega⟩, ⟨by omega, by omega, fun _ => rfl, fun z => by omega⟩, rfl, fun l j hl hj => i1 l j (by omega) hj, fun j hj => by omega⟩, ?_, ?_⟩
      · rintro n at_ sm i σ36 ra rs ri f36 ⟨en, hi, ⟨g1, g2, g3, g4⟩, g5, g6, g7⟩
        refine ⟨pl, fun z => ⟨g6, fun j hj => g7 j (by omega)⟩, fun z => ?_⟩
        have bi := g6 X i.toNat (Nat.le_refl _) (by omega)
        rw [show ((i.toNat : Nat) : Int) = i by omega] at bi
        have bb := bm hq i i (by omega) (by omega) (by omega)
        have at_le : at_ ≤ bg σ R X i := by
          by_cases c : i = 0
          · rw [g3 c]; exact bb.1
          · rw [g4 (by omega)]
            exact (bm hq (i - 1) i (by omega) (by omega) (by omega)).2.1
        refine ⟨fun n a s => n = (bg σ R X i - a).toNat ∧ (0 ≤ a ∧ a ≤ bg σ R X i) ∧ s = cs σ q.1 a.toNat, fun a s => a = bg σ R X i ∧ s = cs σ q.1 a.toNat, ⟨_, rfl, ⟨g1, at_le⟩, g5⟩, ?_, ?_⟩
        · rintro n a s ra' rs' ⟨en', ha, es⟩
          refine ⟨⟨by omega, by omega⟩, ⟨by omega, by omega⟩, ⟨by omega, by omega⟩, fun c => ⟨by omega, es⟩, fun c => ?_⟩
          rw [bi] at c
          have c1 := (cs_m w3 (i := a.toNat + 1) (j := q.2.toNat) (by omega) (by omega)).1
          have c2 := cs_0 w3 (j := a.toNat + 1) (by omega)
          rw [← w4] at c1
          have e1 : cs σ q.1 (a.toNat + 1) = cs σ q.1 a.toNat + sg_g σ 142 (q.1 + a) := by
            simp only [cs]
            rw [show ((a.toNat : Nat) : Int) = a by omega]
          rw [zq.1]
          refine ⟨⟨by omega, by omega⟩, ⟨by omega, by omega⟩, ⟨by omega, by omega⟩, ⟨by omega, by omega⟩, ⟨by omega, by omega⟩, ⟨by omega, by omega⟩, ⟨by omega, by omega⟩, _, by omega, rfl, ⟨by omega, by omega⟩, ?_⟩
          rw [show (a + 1).toNat = a.toNat + 1 by omega, e1, es]
        · rintro a s ra' rs' ⟨ea, es⟩
          refine ⟨⟨by omega, by omega⟩, ⟨by omega, by omega⟩, ⟨by omega, by omega⟩, ⟨by omega, by omega⟩, fun σ78 e78 => ⟨⟨by omega, by omega⟩, _, by omega, rfl, ⟨by omega, by omega⟩, ⟨by omega, by omega, fun c => by omega, fun _ => ?_⟩, es, fun l j hl hj => ?_, fun j hj => ?_⟩⟩
          · rw [show i + 1 - 1 = i by omega]; exact ea
          · rw [e78, sg_gw_k _ _ _ _ _ _ (by omega)]; exact g6 l j hl hj
          · by_cases c : (j : Int) = i
            · rw [e78, c, sg_gw_e _ _ _ _ rs', bgS, es, ea]
            · rw [e78, sg_gw_k _ _ _ _ _ _ (by omega)]; exact g7 j (by omega)
      · rintro σ36 f36 ⟨g6, g7⟩
        refine ⟨⟨by omega, by omega⟩, _, by omega, rfl, ⟨by omega, by omega⟩, fun l j hl hj => ?_⟩
        by_cases c : l = X + 1
        · rw [c]
          have := g7 j hj
          rwa [show (13000 : Int) * ((X + 1 : Nat) : Int) = 13000 * (X + 1) by omega]
        · exact g6 l j (by omega) hj
end FLB
