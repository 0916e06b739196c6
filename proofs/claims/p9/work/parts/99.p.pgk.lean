/-! The class's parse over the reference's tokens. -/
theorem prs_ok (z : Value) (σ : sg_S) (b : Int) {c : tkC} {t : aK} {N : Nat} (hB : tkB c t N) (hb : tb σ = c.1) (hg : sg_gl σ 37 = c.2.2.1) (hn : b = c.2.1) (h7 : (sg_gl σ 36 7, sg_g σ 36 6) = c.2.2.2) : wx z 894 183 0 [(0, .inr (.inr (.ref 35))), (1, .inl b)] [] σ (fun v σ' => ∃ q, v = some (.inl q) ∧ sg_F pL2 σ σ' ∧ ((∃ τ' A D k Rs, aPg t N aE0 = some (A, D, k) ∧ q = -1 ∧ te σ' τ' ∧ sg_g σ' 35 4 = k ∧ cS τ' A 0 (k :: Rs) ∧ cD2 τ' D ∧ ∀ x ∈ D, x.2.2.2 ∈ Rs) ∨ ((aPg t N aE0 = none ∨ ∃ A D k, aPg t N aE0 = some (A, D, k) ∧ badD D) ∧ 0 ≤ q ∧ sg_R q))) := by
  have hE := (px_lv c hB.1 12 (Nat.le_refl _)).1
  refine wk_post (px_prs z σ b c hB.1 884 (pLv c 12).1 hE σ (fun _ _ _ => ⟨rfl, rfl⟩) hb hg hn h7) ?_
  rintro v σ' ⟨q, rfl, hF, hq⟩
  refine ⟨q, rfl, hF, ?_⟩
  rcases pg_ok hB σ with ⟨x1, x2⟩ | ⟨τ', A, D, k, Rs, x1, x2, x3, x4, x5⟩
  · rcases hq with ⟨τ', k, y1, -⟩ | ⟨-, y2⟩
    · rw [x1] at y1; cases y1
    · exact Or.inr ⟨x2, y2⟩
  · rcases hq with ⟨τ2, k2, y1, y2, y3, y4, y5⟩ | ⟨y1, -⟩
    · rw [x1] at y1; cases y1
      exact Or.inl ⟨τ', A, D, k, Rs, x2, y3, y4, y5, x3, x4, x5⟩
    · rw [x1] at y1; cases y1
