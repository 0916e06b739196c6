/-! lookAt of the reference is kTy. -/
theorem q_each {σ : sg_S} {A : aT} {n va : Int} {Q : sg_S → Prop} (h : trT σ A) (hn : 0 ≤ n ∧ n < A.1) (h3 : 0 ≤ va ∧ va ≤ 3) (k1 : ∀ σ', kIs (decide ((kTs σ A n).length ≠ 2 + (A.2.2.2.2.2 n).length) || decide ((kTs σ A n).getD ((kTs σ A n).length - 1) 0 = 0)) (va + 1) = none → ¬ sg_g σ' 88 29 = 0 → sg_F [101, 30088, 31088] σ σ' → Q σ') (k2 : kIs (decide ((kTs σ A n).length ≠ 2 + (A.2.2.2.2.2 n).length) || decide ((kTs σ A n).getD ((kTs σ A n).length - 1) 0 = 0)) (va + 1) = some (va + 1) → Q (sg_w σ 101 n (va + 1))) : V_lookAt_15 σ n va Q := by
  have h200 := h.1.2.2.1
  obtain ⟨a1, a2, a3, a4, a5, a6, a7, a8, a9⟩ := h.1.2.2.2 n hn.1 hn.2
  have hlen : (kTs σ A n).length = (A.2.2.2.2.1 n).length := List.length_map _
  have hn2 : 0 ≤ n ∧ n < 210 := by omega
  have hv : v_hasTest σ n = if (kTs σ A n).length = 2 + (A.2.2.2.2.2 n).length then 1 else 0 := by
    unfold v_hasTest
    rw [a4, a7]
    by_cases c : (kTs σ A n).length = 2 + (A.2.2.2.2.2 n).length
    · rw [if_neg (fun x => x (by omega)), if_pos c]
    · rw [if_pos (by omega), if_neg c]
  have hk : (kTs σ A n).length = 2 + (A.2.2.2.2.2 n).length → p_kidType σ n (sg_g σ 96 n - 1) ∧ v_kidType σ n (sg_g σ 96 n - 1) = (kTs σ A n).getD ((kTs σ A n).length - 1) 0 := fun c => by
    have t := trT_kid h hn (j := (A.2.2.2.2.1 n).length - 1) (by omega)
    rw [show sg_g σ 96 n - 1 = (((A.2.2.2.2.1 n).length - 1 : Nat) : Int) by omega]
    refine ⟨t.1, ?_⟩
    rw [hlen, List.getD_eq_getElem?_getD, t.2]; rfl
  unfold V_lookAt_15
  refine ⟨⟨hn2, ⟨by omega, by omega⟩, fun _ => trivial, fun _ => trivial⟩, ⟨fun _ => trivial, fun c => ?_⟩, fun v4 e4 _ => ⟨⟨by omega, by omega⟩, q_ti hn2 ?_ k1 k2⟩⟩
  · rw [hv] at c
    have c2 : (kTs σ A n).length = 2 + (A.2.2.2.2.2 n).length := by
      refine Decidable.byContradiction (fun x => c ?_)
      rw [if_neg x]
    exact ⟨hn2, ⟨by omega, by omega⟩, (hk c2).1, fun _ => trivial, fun _ => trivial⟩
  · rw [e4, hv]
    by_cases c : (kTs σ A n).length = 2 + (A.2.2.2.2.2 n).length
    · rw [(hk c).2]; grind
    · grind
