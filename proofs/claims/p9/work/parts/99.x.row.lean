/-! lookAt of the reference: rows, and each. -/
theorem q_row {σ : sg_S} {A : aT} {n va : Int} {Q : sg_S → Prop} (h : trT σ A) (hn : 0 ≤ n ∧ n < A.1) (hva : va = (kTs σ A n).getD 0 0) (h3 : 0 ≤ va ∧ va ≤ 3) (k1 : ∀ σ', kIs ((kTs σ A n).all (fun x => decide (x = va))) (va + 1) = none → ¬ sg_g σ' 88 29 = 0 → sg_F [101, 30088, 31088] σ σ' → Q σ') (k2 : kIs ((kTs σ A n).all (fun x => decide (x = va))) (va + 1) = some (va + 1) → Q (sg_w σ 101 n (va + 1))) : V_lookAt_14 σ n va Q := by
  have h200 := h.1.2.2.1
  obtain ⟨a1, a2, a3, a4, a5, a6, a7⟩ := h.1.2.2.2 n hn.1 hn.2
  have hlen : (kTs σ A n).length = (A.2.2.2.2.1 n).length := List.length_map _
  have hn2 : 0 ≤ n ∧ n < 210 := by omega
  have h0 : ∀ y, (kTs σ A n)[0]? = some y → y = va := fun y hy => by rw [hva, List.getD_eq_getElem?_getD, hy]; rfl
  unfold V_lookAt_14
  refine ⟨fun m is k => m = (200 - k).toNat ∧ (1 ≤ k ∧ (k ≤ 200 ∨ k ≤ 1)) ∧ ((is = 0 ∧ ¬ (kTs σ A n).all (fun x => decide (x = va)) = true) ∨ (is = 1 ∧ ∀ (j : Nat) (y : Int), j < k → (kTs σ A n)[j]? = some y → y = va)), fun is => is = 0 ↔ ¬ (kTs σ A n).all (fun x => decide (x = va)) = true, ⟨_, rfl, by omega, Or.inr ⟨rfl, fun j y hj hy => ?_⟩⟩, ?_, ?_⟩
  · have : j = 0 := by omega
    subst this
    exact h0 y hy
  · rintro m is k ris rk ⟨em, ek, ei⟩
    rw [a4]
    refine ⟨hn2, fun hk => ?_, fun hk => ⟨⟨fun _ => trivial, fun _ => ?_⟩, fun v29 e29 _ => ⟨⟨by omega, by omega⟩, _, ?_, rfl, by omega, ?_⟩⟩⟩
    · rcases ei with ⟨e1, e2⟩ | ⟨e1, e2⟩
      · exact ⟨fun _ => e2, fun _ => e1⟩
      · refine ⟨fun x => by omega, fun x => absurd ?_ x⟩
        rw [List.all_eq_true]
        intro y hy
        obtain ⟨j, hj⟩ := List.mem_iff_getElem?.mp hy
        have hl2 : j < (kTs σ A n).length := (List.getElem?_eq_some_iff.mp hj).1
        exact decide_eq_true (e2 j y (by omega) hj)
    · obtain ⟨k', rfl⟩ : ∃ k' : Nat, k = k' := ⟨k.toNat, by omega⟩
      exact ⟨(trT_kid h hn (by omega)).1, fun _ => trivial, fun _ => trivial⟩
    · omega
    · obtain ⟨k', rfl⟩ : ∃ k' : Nat, k = k' := ⟨k.toNat, by omega⟩
      have t2 := (trT_kid h hn (j := k') (by omega)).2
      rw [e29]
      rcases ei with ⟨e1, e2⟩ | ⟨e1, e2⟩
      · rw [if_pos e1]; exact Or.inl ⟨rfl, e2⟩
      · rw [if_neg (by omega)]
        by_cases c : v_kidType σ n k' = va
        · rw [if_neg (fun x => x c)]
          refine Or.inr ⟨rfl, fun j y hj hy => ?_⟩
          by_cases hj2 : j = k'
          · subst hj2; rw [t2] at hy; cases hy; exact c
          · exact e2 j y (by omega) hy
        · rw [if_pos c]
          refine Or.inl ⟨rfl, fun x => c ?_⟩
          exact of_decide_eq_true (List.all_eq_true.mp x _ (List.mem_of_getElem? t2))
  · rintro is ris hx
    exact ⟨⟨by omega, by omega⟩, q_ti hn2 hx k1 k2⟩
