/-! lookAct of the reference. -/
theorem trT_a {σ : sg_S} {A : aT} (h : trT σ A) {n : Int} (hn : 0 ≤ n ∧ n < A.1) (j : Nat) : (if sg_g σ 96 n ≤ (j : Int) then (0 : Int) else v_kidType σ n j) = (kTs σ A n).getD j 0 := by
  obtain ⟨a1, a2, a3, a4, a5, a6, a7⟩ := h.1.2.2.2 n hn.1 hn.2
  have hlen : (kTs σ A n).length = (A.2.2.2.2.1 n).length := List.length_map _
  rw [a4, List.getD_eq_getElem?_getD]
  by_cases c : ((A.2.2.2.2.1 n).length : Int) ≤ j
  · rw [if_pos c, List.getElem?_eq_none (by omega)]; rfl
  · rw [if_neg c, (trT_kid h hn (by omega)).2]; rfl
theorem q_ti {σ : sg_S} {n is ty : Int} {b : Bool} {Q : sg_S → Prop} (hn : 0 ≤ n ∧ n < 210) (e : is = 0 ↔ ¬ b = true) (k1 : ∀ σ', kIs b ty = none → ¬ sg_g σ' 88 29 = 0 → sg_F [101, 30088, 31088] σ σ' → Q σ') (k2 : kIs b ty = some ty → Q (sg_w σ 101 n ty)) : V_typed σ n is ty (fun σ' => sg_F [101, 30088, 31088] σ σ' → Q σ') := by
  refine q_typed hn (fun σ' x1 x2 x3 _ => k1 σ' ?_ x2 x3) (fun x1 x2 _ => k2 ?_)
  · unfold kIs
    rw [if_neg]
    rintro ⟨y1, y2⟩
    rcases x1 with x1 | x1
    · exact e.mp x1 y1
    · omega
  · unfold kIs
    rw [if_pos ⟨Decidable.byContradiction (fun y => x1 (e.mpr y)), x2⟩]
theorem q_lookAct {σ : sg_S} {A : aT} {n : Int} {Q : sg_S → Prop} (h : trT σ A) (hn : 0 ≤ n ∧ n < A.1) (ht : ∀ y ∈ kTs σ A n, 0 ≤ y ∧ y ≤ 3) (k1 : ∀ σ', kAct (A.2.1 n) (kTs σ A n) = none → ¬ sg_g σ' 88 29 = 0 → sg_F [101, 30088, 31088] σ σ' → Q σ') (k2 : ∀ ty, kAct (A.2.1 n) (kTs σ A n) = some ty → Q (sg_w σ 101 n ty)) : V_lookAct σ n Q := by
  have h200 := h.1.2.2.1
  obtain ⟨a1, a2, a3, a4, a5, a6, a7⟩ := h.1.2.2.2 n hn.1 hn.2
  have hlen : (kTs σ A n).length = (A.2.2.2.2.1 n).length := List.length_map _
  have hg : ∀ j, 0 ≤ (kTs σ A n).getD j 0 ∧ (kTs σ A n).getD j 0 ≤ 3 := fun j => by
    rw [List.getD_eq_getElem?_getD]
    cases e : (kTs σ A n)[j]? with
    | none => simp
    | some y => exact ht y (List.mem_of_getElem? e)
  have hn2 : 0 ≤ n ∧ n < 210 := by omega
  have key : ∀ (b : Bool) (is ty : Int), kAct (A.2.1 n) (kTs σ A n) = kIs b ty → (is = 0 ↔ ¬ b = true) → V_typed σ n is ty (fun σ' => sg_F [101, 30088, 31088] σ σ' → Q σ') := fun b is ty x1 x2 => q_ti hn2 x2 (fun σ' y1 y2 y3 => k1 σ' (x1.trans y1) y2 y3) (fun y => k2 ty (x1.trans y))
  have hp : ∀ m, p_has σ n m := fun m => ⟨hn2, fun _ => trivial, fun _ => trivial⟩
  unfold V_lookAct
  refine ⟨hn2, ⟨fun _ => trivial, fun x => ⟨(trT_kid h hn (j := 0) (by omega)).1, trivial⟩⟩, fun va ea _ => ⟨⟨fun _ => trivial, fun x => ⟨(trT_kid h hn (j := 1) (by omega)).1, trivial⟩⟩, fun vb eb _ => ?_⟩⟩
  have ea := ea.trans (trT_a h hn 0)
  have eb := eb.trans (trT_a h hn 1)
  have g0 := hg 0
  have g1 := hg 1
  rw [← ea] at g0
  rw [← eb] at g1
  rw [a1]
  have hv : ∀ m, v_has σ n m = if ((kTs σ A n).length : Int) = m then 1 else 0 := fun m => by
    unfold v_has
    rw [a4, hlen]
    by_cases c : ((A.2.2.2.2.1 n).length : Int) = m
    · rw [if_neg (fun x => x c), if_pos c]
    · rw [if_pos c, if_neg c]
  have hact : kAct (A.2.1 n) (kTs σ A n) = if A.2.1 n = 16 then kIs (decide ((kTs σ A n).length = 1) && decide (va = 0)) 1
    else if A.2.1 n = 17 then kIs (decide ((kTs σ A n).length = 2) && decide (vb = 0)) (va + 1)
    else if A.2.1 n = 18 ∨ A.2.1 n = 19 ∨ A.2.1 n = 20 then kIs (decide ((kTs σ A n).length = 1) && decide (va = 1)) 0
    else if A.2.1 n = 21 then kIs (decide ((kTs σ A n).length = 1) && decide (va = 1)) 1
    else if A.2.1 n = 22 then kIs (decide ((kTs σ A n).length = 1) && decide (0 < va)) va
    else if A.2.1 n = 23 then kIs (decide ((kTs σ A n).length = 2) && decide (0 < va) && decide (va = vb)) va
    else if A.2.1 n = 24 then kIs (decide ((kTs σ A n).length = 1) && decide (1 < va)) (va - 1)
    else if A.2.1 n = 25 ∨ A.2.1 n = 26 then kIs (decide ((kTs σ A n).length = 2) && decide (0 < va) && decide (vb = 1)) va
    else kIs (decide ((kTs σ A n).length = 2) && decide (0 < va) && decide (vb = 1)) (va + 1) := by
    rw [ea, eb]; rfl
  generalize kTs σ A n = ts at *
  unfold V_lookAct_16 V_lookAct_17 V_lookAct_18 V_lookAct_21 V_lookAct_22 V_lookAct_23 V_lookAct_24 V_lookAct_25 V_lookAct_d
  refine ⟨fun c => ⟨hp _, fun v e _ => key _ _ _ (by rw [hact]; simp only [c, if_true]; rfl) (by rw [e, hv]; grind)⟩, fun c16 => ?_⟩
  refine ⟨fun c => ⟨hp _, fun v e _ => ⟨⟨by omega, by omega⟩, key _ _ _ (by rw [hact, if_neg c16, if_pos c]) (by rw [e, hv]; grind)⟩⟩, fun c17 => ?_⟩
  refine ⟨fun c => ⟨hp _, fun v e _ => key _ _ _ (by rw [hact, if_neg c16, if_neg c17, if_pos (Or.inl c)]) (by rw [e, hv]; grind)⟩, fun c18 => ?_⟩
  refine ⟨fun c => ⟨hp _, fun v e _ => key _ _ _ (by rw [hact, if_neg c16, if_neg c17, if_pos (Or.inr (Or.inl c))]) (by rw [e, hv]; grind)⟩, fun c19 => ?_⟩
  refine ⟨fun c => ⟨hp _, fun v e _ => key _ _ _ (by rw [hact, if_neg c16, if_neg c17, if_pos (Or.inr (Or.inr c))]) (by rw [e, hv]; grind)⟩, fun c20 => ?_⟩
  have c1 : ¬ (A.2.1 n = 18 ∨ A.2.1 n = 19 ∨ A.2.1 n = 20) := by omega
  refine ⟨fun c => ⟨hp _, fun v e _ => key _ _ _ (by rw [hact, if_neg c16, if_neg c17, if_neg c1, if_pos c]) (by rw [e, hv]; grind)⟩, fun c21 => ?_⟩
  refine ⟨fun c => ⟨hp _, fun v e _ => key _ _ _ (by rw [hact, if_neg c16, if_neg c17, if_neg c1, if_neg c21, if_pos c]) (by rw [e, hv]; grind)⟩, fun c22 => ?_⟩
  refine ⟨fun c => ⟨hp _, fun v e _ => key _ _ _ (by rw [hact, if_neg c16, if_neg c17, if_neg c1, if_neg c21, if_neg c22, if_pos c]) (by rw [e, hv]; grind)⟩, fun c23 => ?_⟩
  refine ⟨fun c => ⟨hp _, fun v e _ => ⟨⟨by omega, by omega⟩, key _ _ _ (by rw [hact, if_neg c16, if_neg c17, if_neg c1, if_neg c21, if_neg c22, if_neg c23, if_pos c]) (by rw [e, hv]; grind)⟩⟩, fun c24 => ?_⟩
  refine ⟨fun c => ⟨hp _, fun v e _ => key _ _ _ (by rw [hact, if_neg c16, if_neg c17, if_neg c1, if_neg c21, if_neg c22, if_neg c23, if_neg c24, if_pos (Or.inl c)]) (by rw [e, hv]; grind)⟩, fun c25 => ?_⟩
  refine ⟨fun c => ⟨hp _, fun v e _ => key _ _ _ (by rw [hact, if_neg c16, if_neg c17, if_neg c1, if_neg c21, if_neg c22, if_neg c23, if_neg c24, if_pos (Or.inr c)]) (by rw [e, hv]; grind)⟩, fun c26 => ?_⟩
  exact ⟨hp _, fun v e _ => ⟨⟨by omega, by omega⟩, key _ _ _ (by rw [hact, if_neg c16, if_neg c17, if_neg c1, if_neg c21, if_neg c22, if_neg c23, if_neg c24, if_neg (by omega)]) (by rw [e, hv]; grind)⟩⟩
