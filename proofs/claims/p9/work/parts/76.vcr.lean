/-! Rows for conditions by program (vc.py): longs compared, ranges. -/
theorem sg_Rgl2 {x : Int} (h : sg_R x) : sg_RL x := ⟨by have := h.1; omega, by have := h.2; omega⟩
theorem sg_Rz {x : Int} (h : x = 0 ∨ x = 1) : sg_R x := by rcases h with h | h <;> subst h <;> decide
section VCR
variable {E : am_E} {T : List am_M} {Sh : List sg_Sh} {d j pc : Nat} {ls : bm_L} {st : List bm_V} {σ : sg_S} {Q : Option bm_V → sg_S → Prop} {M : am_M}
theorem wk_lcif {x y : Int} {c : ClassFile.Cond} {off num num1 : Int} {lk lk1 : am_K} {tgt : Nat} (hM : T[j]? = some M) (hq : am_find M.2.2.2.2 pc = some (pc, .lcmp, num, lk)) (hq1 : am_find M.2.2.2.2 (pc + 1) = some (pc + 1, .ifCond c off, num1, lk1)) (ht : ((pc + 1 : Nat) : Int) + off = (tgt : Int)) (hx : sg_RL x) (hy : sg_RL y) (k1 : sg_c c x y → wk E T Sh d j tgt ls st σ Q) (k2 : sg_nc c x y → wk E T Sh d j (pc + 4) ls st σ Q) : wk E T Sh d j pc ls (.inr (.inl y) :: .inr (.inl x) :: st) σ Q := by
  obtain ⟨h1, h2, h3, h4⟩ := bm_lc3 hx hy
  refine wk_b hM 1 (pc' := pc + 1) (ls' := ls) (st' := .inl (bm_lc x y) :: st) (σ' := σ) ?_ ?_
  · simp only [bm_run, hq, bm_step, bm_c2]
  refine wk_if hM hq1 ht ⟨by omega, by omega⟩ (fun h => k1 ?_) (fun h => k2 ?_)
  · cases c <;> simp only [sg_c] at h ⊢ <;> first | exact h1.mp h | exact fun q => h (h1.mpr q) | exact h2.mp h | omega
  · cases c <;> simp only [sg_nc] at h ⊢ <;> first | exact h1.mp h | exact fun q => h (h1.mpr q) | exact h2.mp h | omega
end VCR
theorem sw_st {x k : Int} (h : k ≤ x) (e : ¬ x = k) : k + 1 ≤ x := by omega
theorem sw_lo (x k : Int) : x < k ∨ k ≤ x := by omega
