/-! A node is made, in both. -/
section CRT
variable {c : tkC} {t : aK} {N : Nat} {τ τ' : sg_S} {A A' : aT} {b n q : Int} {L R : List Int} {i : Nat}
theorem cr_ok (h : cS τ A b R) (hA : A.1 < 200) (hc : tkOK c) (kd pl w : Int) : ∃ τ1, pCreate c i τ = some (i + 1, τ1, A.1) ∧ bS τ1 (aNew A kd pl w) b A.1 [] R ∧ sN τ1 A.1 (tK c i) (tPl c i) (sg_nl (tW c i)) 0 (-1) ∧ fB τ τ1 A.1 := by
  obtain ⟨h1, h2, h3, h4, h5⟩ := h
  have hk : 0 ≤ A.1 ∧ A.1 < 200 := by omega
  have hK := tK_r hc i
  have hP := tPl_r hc i
  have hc2 := hc.2.1
  have hkr : sg_R (tK c i) := ⟨by omega, by omega⟩
  have hpr : sg_R (tPl c i) := ⟨by omega, by omega⟩
  refine ⟨_, by unfold pCreate; rw [h1, if_neg (by omega)], ?_, ?_, ?_⟩
  · unfold pAdd
    rw [h1]
    simp only [px_in hk, plx_in hk]
    refine ⟨?_, ⟨h2.1, h2.2.1, by simp only [aNew_1]; omega, by simp only [aNew_1]; omega⟩, ⟨?_, trivial, fun z hz => by simp at hz, by simp, fun x hx => by simp at hx⟩, fun k hk0 hk1 hkn => ?_, by simpa using h4, fun x hx => ?_⟩
    · simp only [rg_w, rg_wl', Nat.reduceEqDiff, if_false, if_true, reduceIte]
      rw [sg_id ⟨by omega, by omega⟩]
      rfl
    · simp only [rg_w, rg_wl', Nat.reduceEqDiff, if_false, if_true, reduceIte]
      rfl
    · simp only [aNew_1] at hk1 ⊢
      have hk' : k < A.1 := by omega
      obtain ⟨c1, c2⟩ := h3 k hk0 hk'
      refine ⟨cN_x c1 ((gr_n A _ _ _).2 k hk') (fun a ha => ?_) ?_ (fun x hx => ?_), ?_⟩
      · rw [sg_gwl']
        simp only [sg_gw, if_neg (show ¬ (_ ∧ k = A.1) from fun e => hkn e.2)]
        rw [if_neg (by omega)]
      · simp only [sg_gwl, sg_gw', if_neg (show ¬ (_ ∧ k = A.1) from fun e => hkn e.2)]
      · have hx2 : ¬ x = A.1 := by have := (c2 x hx).1; omega
        refine ⟨?_, ?_, ?_⟩
        · rw [sg_gwl']
          simp only [sg_gw, if_neg (show ¬ (_ ∧ x = A.1) from fun e => hx2 e.2)]
          rw [if_neg (by omega)]
        · rw [sg_gwl']
          simp only [sg_gw, if_neg (show ¬ (_ ∧ x = A.1) from fun e => hx2 e.2)]
          rw [if_neg (by omega)]
        · simp only [sg_gwl, sg_gw', if_neg (show ¬ (_ ∧ x = A.1) from fun e => hx2 e.2)]
      · rw [((gr_n A kd pl w).2 k hk').2.2.2.1]
        intro x hx
        have := c2 x hx
        refine ⟨by omega, by simpa using this.2, by omega⟩
    · have := h5 x (by simpa using hx)
      simp only [aNew_1]
      omega
  · unfold pAdd
    rw [h1]
    simp only [px_in hk, plx_in hk]
    refine ⟨?_, ?_, ?_, ?_, ?_⟩
    · simp only [rg_w, rg_wl', Nat.reduceEqDiff, if_false, if_true, reduceIte, sg_id hkr]
    · simp only [rg_w, rg_wl', Nat.reduceEqDiff, if_false, if_true, reduceIte, sg_id hpr]
    · simp only [rg_wl, Nat.reduceEqDiff, if_false, if_true, reduceIte]
    · simp only [rg_w, rg_wl', Nat.reduceEqDiff, if_false, if_true, reduceIte]; rfl
    · simp only [rg_w, rg_wl', Nat.reduceEqDiff, if_false, if_true, reduceIte]; rfl
  · unfold pAdd
    rw [h1]
    simp only [px_in hk, plx_in hk]
    refine fB_wl (fB_w (fB_w (fB_w (fB_w (fB_w (fB_w (fB_w (fB_w (fB_w (fB_w (fB_w (fB_2 (fB_r _ _)) ?_ ?_) ?_ ?_) ?_ ?_) ?_ ?_) ?_ ?_) ?_ ?_) ?_ ?_) ?_ ?_) ?_ ?_) ?_ ?_) ?_ ?_) ?_ ?_ <;> first | decide | exact Int.le_refl _
theorem cr_no (h : sg_g τ 2 16 = A.1) (hA : A.1 = 200) : pCreate c i τ = none := by
  unfold pCreate
  rw [h, if_pos (by omega)]
/-- the class's word of a token fits into 64 bits -/
theorem tW_r (h : tkB c t N) (hi : i < N) (hw : tK c i = 258 ∨ 261 ≤ tK c i) : sg_nl (tW c i) = tW c i := by
  obtain ⟨n, h1, h2, h3, h4, -⟩ := tok_w h.1 h.2.2.1 hi hw
  rw [h4]
  have h5 := lx_pk_7 (B := c.1) (q := tPl c i) n h2
  have h6 : (256 : Int) ^ n ≤ 18446744073709551616 := by
    rcases (show n = 0 ∨ n = 1 ∨ n = 2 ∨ n = 3 ∨ n = 4 ∨ n = 5 ∨ n = 6 ∨ n = 7 ∨ n = 8 by omega) with h | h | h | h | h | h | h | h | h <;> subst h <;> decide
  exact sg_idl ⟨by omega, by omega⟩
/-- a reading in both -/
def sF (c : tkC) (t : aK) (N : Nat) (P : pF) (F : aF) : Prop := ∀ (i : Nat) (τ : sg_S) (A : aT), i ≤ N → sg_g τ 2 16 = A.1 → 0 ≤ A.1 ∧ A.1 ≤ 200 → (P i τ = none ∧ F i A = none) ∨ ∃ i' τ' A' q, P i τ = some (i', τ', q) ∧ F i A = some (i', A', q) ∧ i' ≤ N ∧ cS τ' A' A.1 [q] ∧ fB τ τ' A.1
/-- with a left part that is there already -/
def sL (c : tkC) (t : aK) (N : Nat) (P : Int → pF) (F : Int → aF) : Prop := ∀ (l : Int) (i : Nat) (τ : sg_S) (A : aT) (b : Int), i ≤ N → cS τ A b [l] → (P l i τ = none ∧ F l i A = none) ∨ ∃ i' τ' A' q, P l i τ = some (i', τ', q) ∧ F l i A = some (i', A', q) ∧ i' ≤ N ∧ cS τ' A' b [q] ∧ fB τ τ' b
theorem cS_0 (h : sg_g τ 2 16 = A.1) (h0 : 0 ≤ A.1 ∧ A.1 ≤ 200) : cS τ A A.1 [] := ⟨h, ⟨h0.1, Int.le_refl _, h0.2⟩, fun k a b => by omega, by simp, fun x hx => by simp at hx⟩
theorem cl_c {k m : Int} (hk : 0 ≤ k ∧ k < 200) (h : bS τ A b k L R) {K P W G U : Int} (hs : sN τ k K P W G U) : bS (pClose τ k m) A b k L R ∧ sN (pClose τ k m) k K P W G U ∧ fB τ (pClose τ k m) b := by
  obtain ⟨h1, h2, h3, h4, h5, h6⟩ := h
  unfold pClose
  simp only [px_in hk]
  have e : ∀ (a : Nat) (j : Int), ¬ a = 11 → ¬ a = 12 → sg_g (sg_w (sg_w τ 11 k m) 12 k (sg_g τ 2 16 - 1)) a j = sg_g τ a j := fun a j q1 q2 => by rw [sg_gw, if_neg (fun x => q2 x.1), sg_gw, if_neg (fun x => q1 x.1)]
  refine ⟨⟨by rw [e 2 16 (by decide) (by decide)]; exact h1, h2, oN_e h3 (e 10 k (by decide) (by decide)) (e 7 k (by decide) (by decide)) (e 8 k (by decide) (by decide)) (fun x _ => e 9 x (by decide) (by decide)), fun k' a0 a1 a2 => ?_, h5, h6⟩, ?_, ?_⟩
  · obtain ⟨c1, c2⟩ := h4 k' a0 a1 a2
    exact ⟨cN_x c1 ⟨rfl, rfl, rfl, rfl, rfl⟩ (fun a ha => e a k' (by omega) (by omega)) rfl (fun x _ => ⟨e 9 x (by decide) (by decide), e 15 x (by decide) (by decide), rfl⟩), c2⟩
  · obtain ⟨a1, a2, a3, a4, a5⟩ := hs
    exact ⟨by rw [e 3 k (by decide) (by decide)]; exact a1, by rw [e 4 k (by decide) (by decide)]; exact a2, a3, by rw [e 13 k (by decide) (by decide)]; exact a4, by rw [e 14 k (by decide) (by decide)]; exact a5⟩
  · exact fB_w (fB_w (fB_r _ _) (by decide) h2.2.1) (by decide) h2.2.1
/-- a node that is no { }: its rows are told -/
theorem cN_o (h : bS τ A b n L R) {K P W G U : Int} (hs : sN τ n K P W G U) (hK : K = kmp (A.2.1 n)) (hP : P = A.2.2.1 n) (hW : (A.2.1 n = 1 ∨ A.2.1 n = 2 ∨ A.2.1 n = 13) → W = uv (A.2.2.2.1 n)) (h15 : ¬ A.2.1 n = 15) (hL : A.2.2.2.2.1 n = L) : cN τ A n := by
  obtain ⟨a1, a2, a3, a4, a5⟩ := hs
  refine ⟨a1.trans hK, a2.trans hP, fun q => a3.trans (hW q), ?_, fun q => absurd q h15⟩
  have : pts A n = L := by unfold pts; rw [if_neg h15, hL]
  rw [this]
  exact h.2.2.1
end CRT
