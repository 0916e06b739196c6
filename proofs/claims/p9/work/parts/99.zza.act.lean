/-! part, and all ACTS of nested runs. -/
/-- the first i numbers of b together -/
def sIt (σ : sg_S) (b : Int) : Nat → Int
  | 0 => 0
  | i + 1 => sIt σ b i + v_itemAt σ b i
section ACV
variable {σ : sg_S} {n a b : Int} {k : Nat} {Q : Int → sg_S → Prop}
theorem sIt_m : ∀ (j i : Nat), i ≤ j → (∀ l : Nat, l < j → 0 ≤ v_itemAt σ b l) → sIt σ b i ≤ sIt σ b j
  | 0, i, h, _ => by have : i = 0 := by omega
                     subst this; exact Int.le_refl _
  | j + 1, i, h, hl => by
    by_cases e : i = j + 1
    · subst e; exact Int.le_refl _
    · have ih := sIt_m j i (by omega) (fun l x => hl l (by omega))
      have := hl j (by omega)
      simp only [sIt]
      omega
theorem sIt_0 (j : Nat) (hl : ∀ l : Nat, l < j → 0 ≤ v_itemAt σ b l) : 0 ≤ sIt σ b j := sIt_m j 0 (by omega) hl
theorem m_part (hB : (0 ≤ sg_g σ 88 56 ∧ sg_g σ 88 56 ≤ 3000) ∧ 0 ≤ sg_g σ 88 60 ∧ sg_g σ 88 60 ≤ 3000) (hn : 0 ≤ n ∧ n < 210) (hk : k ≤ 1) (hT : sg_g σ 101 n = ((k + 2 : Nat) : Int)) (ha : vT σ (k + 1) a) (hb : vT σ 1 b) (h : aQ σ (k + 2) Q) : V_parted σ n a b Q := by
  have hB' : nB σ := by unfold nB; omega
  have h9 := vT_9 hB' ha
  have g9 := vT_9 hB' hb
  have ha2 := ha.2.1
  have hb2 := hb.2.1
  have hs : sg_g σ 88 56 ≤ 9000 := by omega
  have hi12 : sg_g σ 88 60 ≤ 12000 := by omega
  have fault : ∀ σ3 e q, sg_F [74088] σ σ3 → (sg_R e ∧ ¬ e = 0) → V_ends σ3 e (fun σ' => sg_F [74088] σ3 σ' → Q q σ') := fun σ3 e q f3 he => m_ends he (fun σ' x1 x2 _ => h.1 q σ' x1 (nEx_t (nEx_F f3 rfl) (nEx_F x2 rfl)) (sg_F_t (sg_F_m f3 rfl) (sg_F_m x2 rfl)))
  unfold V_parted
  refine ⟨fun m v1 v2 σ3 => ∃ i : Nat, v2 = i ∧ m = (sg_g σ 123 b - v2).toNat ∧ (i : Int) ≤ sg_g σ 123 b ∧ v1 = sIt σ b i ∧ (∀ l : Nat, l < i → 0 ≤ v_itemAt σ b l) ∧ v1 ≤ i * 2147483647 ∧ σ3 = σ, fun v1 σ3 => v1 = sIt σ b (sg_g σ 123 b).toNat ∧ (∀ l : Nat, (l : Int) < sg_g σ 123 b → 0 ≤ v_itemAt σ b l) ∧ σ3 = σ, ⟨_, 0, rfl, rfl, by omega, rfl, fun l x => by omega, by omega, rfl⟩, ?_, ?_⟩
  · rintro m v1 v2 σ3 r1 r2 f3 ⟨i, rfl, em, hi, e1, hl, hv, rfl⟩
    refine ⟨g9.1, fun c => ?_, fun c => ?_⟩
    · refine ⟨by rw [e1, show (sg_g σ3 123 b).toNat = i by omega], fun l x => hl l (by omega), rfl⟩
    · have t := vT_it hs hi12 hb (by omega) c
      have rr : sg_R (v_itemAt σ3 b i) := sg_Rg _ _ _
      have s0 := sIt_0 (σ := σ3) (b := b) i hl
      refine ⟨t.1, fun z => ⟨t.1, ⟨by omega, by omega⟩, ⟨by omega, by omega⟩, _, ?_, i + 1, by omega, rfl, by omega, by rw [e1]; rfl, fun l x => ?_, ?_, rfl⟩, fun z => fault σ3 5 0 f3 (by decide)⟩
      · omega
      · by_cases e : l = i
        · subst e; exact z
        · exact hl l (by omega)
      · have : ((i + 1 : Nat) : Int) * 2147483647 = (i : Int) * 2147483647 + 2147483647 := by omega
        omega
  · rintro v1 σ3 r1 f3 ⟨e1, hl, rfl⟩
    refine ⟨h9.1, fun c => ?_, fun _ => fault σ3 3 0 f3 (by decide)⟩
    have cn : ((sg_g σ3 123 b).toNat : Int) = sg_g σ3 123 b := by omega
    rw [c] at e1
    have itb : ∀ σ22, nEx σ3 σ22 → ∀ i : Nat, (i : Int) < sg_g σ3 123 b → v_itemAt σ22 b i = v_itemAt σ3 b i := fun σ22 x i y => by
      have e := nEx_s (k := 0) x hb
      unfold v_itemAt
      rw [e.2]
      exact x.2.2 _ (by omega) (by omega)
    refine ⟨fun m v20 v21 σ22 => ∃ i : Nat, v21 = i ∧ m = (sg_g σ3 123 b - v21).toNat ∧ (i : Int) ≤ sg_g σ3 123 b ∧ v20 = sg_g σ3 122 a + sIt σ3 b i ∧ nEx σ3 σ22 ∧ sg_g σ22 88 56 = sg_g σ3 88 56 + i ∧ sg_g σ22 88 60 = sg_g σ3 88 60 ∧ ∀ l, 0 ≤ l → l < (i : Int) → vT σ22 (k + 1) (sg_g σ3 88 56 + l), fun σ22 => nEx σ3 σ22 ∧ sg_g σ22 88 56 = sg_g σ3 88 56 + sg_g σ3 123 b ∧ sg_g σ22 88 60 = sg_g σ3 88 60 ∧ ∀ l, 0 ≤ l → l < sg_g σ3 123 b → vT σ22 (k + 1) (sg_g σ3 88 56 + l), ⟨_, 0, rfl, rfl, by omega, by simp [sIt], nEx_r _, by omega, rfl, fun l x y => by omega⟩, ?_, ?_⟩
    · rintro m v20 v21 σ22 r20 r21 f22 ⟨i, rfl, em, hi, e20, x1, x2, x3, x4⟩
      have eb := nEx_s (k := 0) x1 hb
      have ea := nEx_s x1 ha
      refine ⟨g9.1, fun z => ?_, fun z => ?_⟩
      · rw [eb.1] at z
        have : (i : Int) = sg_g σ3 123 b := by omega
        rw [this] at x2 x4
        exact ⟨x1, x2, x3, x4⟩
      · rw [eb.1] at z
        have ev := itb σ22 x1 i z
        have v0 := hl i z
        have m1 := sIt_m (σ := σ3) (b := b) (sg_g σ3 123 b).toNat (i + 1) (by omega) (fun l y => hl l (by omega))
        have s0 := sIt_0 (σ := σ3) (b := b) i (fun l y => hl l (by omega))
        have es : sIt σ3 b (i + 1) = sIt σ3 b i + v_itemAt σ3 b i := rfl
        have pt := vT_it (by omega) (by omega) (vT_up x1 hb) (i := (i : Int)) (by omega) (by rw [eb.1]; exact z)
        rw [ev]
        refine ⟨pt.1, hn, ⟨by omega, by omega⟩, m_seq (k := k) (by omega) (by omega) (by omega) ⟨v0, by omega⟩ (by omega) (by omega) (by omega) (fun l y1 y2 => ?_) (fun σ' y1 y2 y3 y4 y5 y6 y7 y8 _ _ => ?_)⟩
        · have t := ha.2.2.2 (sIt σ3 b i + l) (by omega) (by omega)
          rw [e20, show sg_g σ3 122 a + sIt σ3 b i + l = sg_g σ3 122 a + (sIt σ3 b i + l) by omega, x1.2.2 _ (by omega) (by omega)]
          exact vT_up x1 t
        · have x1' := nEx_t x1 y1
          have ev' := itb σ' x1' i z
          have eb' := nEx_s (k := 0) x1' hb
          have pt' := vT_it (by omega) (by omega) (vT_up x1' hb) (i := (i : Int)) (by omega) (by rw [eb'.1]; exact z)
          rw [ev']
          refine ⟨pt'.1, ⟨by omega, by omega⟩, ⟨by omega, by omega⟩, _, ?_, i + 1, by omega, rfl, by omega, by rw [es]; omega, x1', by omega, by omega, fun l w1 w2 => ?_⟩
          · omega
          · by_cases e : l = i
            · rw [e, ← x2]; exact y4
            · exact vT_up y1 (x4 l w1 (by omega))
    · rintro σ22 f22 ⟨x1, x2, x3, x4⟩
      have eb := nEx_s (k := 0) x1 hb
      have hB22 : nB σ22 := by unfold nB; omega
      refine ⟨fun m v37 σ38 => m = (sg_g σ3 123 b - v37).toNat ∧ (0 ≤ v37 ∧ v37 ≤ sg_g σ3 123 b) ∧ nAd σ22 σ38 (k + 1) v37, fun σ38 => nAd σ22 σ38 (k + 1) (sg_g σ3 123 b), ⟨_, rfl, ⟨by omega, by omega⟩, nAd_0 σ22 (k + 1)⟩, ?_, ?_⟩
      · rintro m v37 σ38 r37 f38 ⟨em, hv, hA⟩
        rw [eb.1]
        refine ⟨g9.1, fun z => ?_, fun z => ⟨⟨by omega, by omega⟩, m_addA hB22 (by omega) hA ⟨by omega, by omega⟩ (vT_up hA.1 (x4 v37 hv.1 z)) (fun σ' y1 _ y2 _ => ⟨⟨by omega, by omega⟩, _, ?_, rfl, ⟨by omega, by omega⟩, y1⟩)⟩⟩
        · rw [show sg_g σ3 123 b = v37 by omega]; exact hA
        · omega
      · intro σ38 f38 h38
        rw [eb.1, ← x3]
        refine ⟨g9.1, hn, m_seqE hB22 g9.2 h38 hT (by omega) (fun q σ' y1 y2 y3 y4 y5 y6 _ _ => h.2 q σ' ⟨nEx_t x1 y1, y2, fun _ => ⟨by omega, by omega⟩, fun z => by omega⟩ ?_ ?_)⟩
        · rw [sg_F_g y6 (by rfl), sg_F_g f38 (by rfl), sg_F_g f22 (by rfl)]
        · exact sg_F_t (sg_F_t (sg_F_m f22 rfl) (sg_F_m f38 rfl)) (sg_F_m y6 rfl)
end ACV
