/-! flatIf. -/
section GC
variable {A : aT} {D : List aDf} {T B : Int → Int} {lev : Int → Nat} {r : Int}
theorem fK_3 {σ : sg_S} {n st b l X s sv al : Int} {j : Nat} {L : List Int} {sc : List (Int × Int)} {tys : List (Int × Int × Int)} {W : Int → Prop} (h3 : A.2.1 n = 3) : fK A D T B lev σ n st b l X s sv al j L sc W tys = (∃ a c d, A.2.2.2.2.1 n = [a, c, d] ∧ ((st = 0 ∧ sv = s ∧ tys = [] ∧ scF σ s l X W sc) ∨ (st = 1 ∧ sv = s ∧ tys = [(T a, l, X)] ∧ scF σ s l X W sc) ∨ (st = 2 ∧ tys = [(T a, l, X), (T c, cwT σ b l, X)] ∧ scF σ s l X W sc) ∨ (st = 3 ∧ tys = [(T a, l, X), (T c, cwT σ b l, X), (T d, l - cwT σ b l, X)]))) := by
  unfold fK; rw [if_neg (by omega), if_pos h3]
theorem fL_K {σ : sg_S} {K : Nat} {l v : Int} (h : fL σ K l v) : K = (sg_g σ 139 v).toNat := by
  obtain ⟨R, h1, h2, -⟩ := h
  have := h1.2.2.1
  omega
/-- carried, by the scope -/
theorem m_car {σ : sg_S} {O : List Int} {S : List (Int × Int)} {Λ N : Int} {Q : Int → sg_S → Prop} (hI : fI σ) (hB : sB σ) (hO : oR σ O) (hl : O.length ≤ 200) (hS : ∀ p ∈ S, fL σ p.2.toNat Λ (sg_g σ 134 p.1)) (hOS : ∀ b ∈ O, ∃ p ∈ S, p.1 = b) (hln : lO σ N Λ) (hN : N ≤ 6000) (k0 : ∀ σ', ¬ sg_g σ' 88 73 = 0 → Q 0 σ') (k1 : ∀ σ', fI σ' → sB σ' → fEx σ σ' → (∀ p ∈ S, p.1 ∈ O → fLx σ' p.2.toNat N (sg_g σ' 88 85 - sg_g σ 88 85) (sg_g σ' 134 p.1)) → (∀ b, b ∉ O → sg_g σ' 134 b = sg_g σ 134 b) → (∀ s b, s ≤ sg_g σ 88 99 → und σ' s b = und σ s b) → sg_g σ 88 99 ≤ sg_g σ' 88 99 → sg_g σ 88 84 ≤ sg_g σ' 88 84 ∧ sg_g σ 88 85 ≤ sg_g σ' 88 85 → sg_g σ' 88 73 = sg_g σ 88 73 → sg_F [134, 139, 140, 141, 142, 144, 148, 149, 85088, 86088, 88088, 92088, 100088] σ σ' → Q 1 σ') : V_carried σ Q := by
  refine m_carried (ty := fun b => (sg_g σ 139 (sg_g σ 134 b)).toNat) hI hB hO hl (fun b hb => ?_) hln hN k0 (fun σ' a1 a2 a3 a4 a5 a6 a7 a8 a9 a10 => k1 σ' a1 a2 a3 (fun p hp hpO => ?_) a5 a6 a7 a8 a9 a10)
  · obtain ⟨p, hp, e⟩ := hOS b hb
    have := hS p hp
    have q := fL_K this
    rw [e] at this q
    rw [← q]; exact this
  · have := a4 p.1 hpO
    rw [← fL_K (hS p hp)] at this
    exact this
theorem fN_x {l : List Nat} {σ σ' : sg_S} (F : sg_F l σ σ') (hl : (!sg_cv l 88 62 && !sg_cv l 88 70) = true) (hI : fI σ') (hB : sB σ') (h84 : sg_g σ 88 84 ≤ sg_g σ' 88 84) (h : fN σ) : fN σ' := by
  simp only [Bool.and_eq_true, Bool.not_eq_true'] at hl
  obtain ⟨-, -, n1, n2, n3⟩ := h
  have e1 := sg_F_g F hl.1
  have e2 := sg_F_g F hl.2
  exact ⟨hI, hB, by omega, by omega, by omega⟩
theorem trT_X {l : List Nat} {σ σ' : sg_S} (F : sg_F l σ σ') (hl : okX l = true) (h : pgX σ A D T B) : trT σ' A ∧ ∀ n, sg_g σ' 102 n = B n := by
  have := pgX_F F hl h
  exact ⟨this.1, this.2.2.2.1⟩
/-- the names from outside a part, of its scope -/
theorem out_S {j f : Nat} {L : List Int} {sc : List (Int × Int)} {x but : Int} {O : List Int} (hA : A.1 ≤ 200) (h : stN A D T B lev j f L sc x) (hO : ∀ z, z ∈ O ↔ ∃ y, (0 ≤ y ∧ y < A.1) ∧ y ∈ L ∧ A.2.1 y = 1 ∧ B y = z ∧ ¬ insL L z ∧ ¬ isG but z) : (∀ z ∈ O, ∃ p ∈ sc, p.1 = z) ∧ (∀ y ∈ L, A.2.1 y = 1 → ∀ p ∈ sc, p.1 = B y → ¬ isG but p.1 → p.1 ∈ O) ∧ ∀ y ∈ L, A.2.1 y = 1 → rb A (B y) := by
  refine ⟨fun z hz => ?_, fun y hy ky p hp e hg => ?_, fun y hy ky => ?_⟩
  · obtain ⟨y, y1, y2, y3, y4, y5, y6⟩ := (hO z).mp hz
    rcases stN_v hA h y2 y3 with ⟨q, -⟩ | q
    · exact ⟨_, q, y4⟩
    · rw [y4] at q; exact absurd q y5
  · refine (hO p.1).mpr ⟨y, (h.2.2.2.1 y hy).1, hy, ky, e.symm, fun q => ?_, hg⟩
    exact (h.2.2.2.2 p hp).2 (Or.inl q)
  · rcases stN_v hA h hy ky with ⟨q, -⟩ | q
    · exact (h.2.2.2.2 _ q).1
    · rcases q with ⟨q1, q2⟩ | ⟨q1, q2, q3⟩
      · have := (h.2.2.2.1 _ q2).1
        exact ⟨⟨by omega, by omega⟩, fun _ => this.2, fun z => by omega⟩
      · have := (h.2.2.2.1 _ q3).1
        exact ⟨⟨by omega, by omega⟩, fun z => by omega, fun _ _ => this.2⟩
end GC
