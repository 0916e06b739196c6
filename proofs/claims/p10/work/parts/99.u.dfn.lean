/-! defNamed, lookCall of the reference. -/
theorem dsR_e {σ σ' : sg_S} (h1 : ∀ j, sg_gl σ' 103 j = sg_gl σ 103 j) (h2 : ∀ j, sg_g σ' 106 j = sg_g σ 106 j) (h3 : ∀ j, sg_g σ' 109 j = sg_g σ 109 j) (h4 : ∀ j, sg_g σ' 105 j = sg_g σ 105 j) : ∀ {n : Int} {l : kD}, dsR σ n l → dsR σ' n l
  | n, [], h => h
  | n, x :: r, h => by
    obtain ⟨a1, a2, a3, a4, a5, a6, a7⟩ := h
    exact ⟨a1, by rw [h1]; exact a2, by rw [h2]; exact a3, fun j y hy => by rw [h3]; exact a4 j y hy, by rw [h4]; exact a5, a6, dsR_e h1 h2 h3 h4 a7⟩
/-- what is told of the DEF at q -/
def dsQ (σ : sg_S) (q : Int) (x : List Int × Int) : Prop := sg_g σ 106 q = x.1.length ∧ (∀ j : Nat, ∀ y, x.1[j]? = some y → sg_g σ 109 (6 * q + j) = y) ∧ sg_g σ 105 q = x.2 ∧ x.1.length ≤ 6
theorem q_defNamed {σ : sg_S} {ds : kD} {w : Int} {Q : Int → sg_S → Prop} (h : dsR σ (sg_g σ 88 45) ds) (hl : ds.length ≤ 12) (k1 : kDef ds w = none → Q (-1) σ) (k2 : ∀ q x, kDef ds w = some x → kDx ds w = some q → 0 ≤ q → q < 12 → dsQ σ q x → Q q σ) : V_defNamed σ w Q := by
  have hn := dsR_n h
  unfold V_defNamed
  refine ⟨⟨by omega, by omega⟩, fun n v => n = (v + 1).toNat ∧ -1 ≤ v ∧ v < ds.length ∧ ∃ r, dsR σ (v + 1) r ∧ kDef r w = kDef ds w ∧ kDx r w = kDx ds w, fun v => (v = -1 ∧ kDef ds w = none) ∨ (0 ≤ v ∧ v < ds.length ∧ ∃ x, kDef ds w = some x ∧ kDx ds w = some v ∧ dsQ σ v x), ⟨_, rfl, by omega, by omega, ds, by rw [show sg_g σ 88 45 - 1 + 1 = sg_g σ 88 45 by omega]; exact h, rfl, rfl⟩, ?_, ?_⟩
  · rintro n v rv ⟨en, h0, h1, r, hp, hf, hfx⟩
    refine ⟨fun hv => ?_, fun hv => ⟨⟨hv, by omega⟩, fun hw => ?_, fun hw => ⟨⟨by omega, by omega⟩, _, ?_, rfl, by omega, by omega, ?_⟩⟩⟩
    · left
      refine ⟨by omega, ?_⟩
      have := dsR_n hp
      cases r with
      | nil => rw [← hf]; rfl
      | cons x r => simp only [List.length_cons] at this; omega
    · right
      refine ⟨hv, h1, ?_⟩
      cases r with
      | nil => have := dsR_n hp; simp at this; omega
      | cons x r =>
        obtain ⟨p1, p2, p3, p4, p5, p6, p7⟩ := hp
        rw [show v + 1 - 1 = v by omega] at p2 p3 p4 p5
        have hn7 := dsR_n p7
        exact ⟨x.2, by rw [← hf, kDef, if_pos (by rw [← p2]; exact hw)], by rw [← hfx, kDx, if_pos (by rw [← p2]; exact hw)]; congr 1; omega, p3, p4, p5, p6⟩
    · omega
    · cases r with
      | nil => have := dsR_n hp; simp at this; omega
      | cons x r =>
        obtain ⟨p1, p2, p3, p4, p5, p6, p7⟩ := hp
        rw [show v + 1 - 1 = v by omega] at p2
        refine ⟨r, by rw [show v + -1 + 1 = v + 1 - 1 by omega]; exact p7, ?_, ?_⟩
        · rw [← hf, kDef, if_neg (by rw [← p2]; exact hw)]
        · rw [← hfx, kDx, if_neg (by rw [← p2]; exact hw)]
  · rintro v rv (⟨rfl, x⟩ | ⟨x1, x2, x, x3, x5, x4⟩)
    · exact k1 x
    · exact k2 v x x3 x5 x1 (by omega) x4
/-! lookCall of the reference. -/
def trT (σ : sg_S) (A : aT) : Prop := trR A (sg_g σ 88 8) (sg_g σ 93) (sg_g σ 94) (sg_gl σ 95) (sg_g σ 96) (sg_g σ 97) (sg_g σ 98) (sg_gl σ 99) (sg_g σ 100) ∧ ∀ n, 0 ≤ n → n < A.1 → ∀ x ∈ A.2.2.2.2.1 n, 0 ≤ x ∧ x < A.1
/-- the types of n's parts -/
abbrev kTs (σ : sg_S) (A : aT) (n : Int) : List Int := (A.2.2.2.2.1 n).map (sg_g σ 101)
theorem trT_kid {σ : sg_S} {A : aT} (h : trT σ A) {n : Int} (hn : 0 ≤ n ∧ n < A.1) {j : Nat} (hj : j < (A.2.2.2.2.1 n).length) : p_kidType σ n j ∧ (kTs σ A n)[j]? = some (v_kidType σ n j) := by
  obtain ⟨⟨e1, e2, e3, e4⟩, e5⟩ := h
  obtain ⟨a1, a2, a3, a4, a5, a6, a7⟩ := e4 n hn.1 hn.2
  obtain ⟨x, hx⟩ : ∃ x, (A.2.2.2.2.1 n)[j]? = some x := ⟨_, List.getElem?_eq_getElem hj⟩
  have b1 := a6 j x hx
  have b2 := e5 n hn.1 hn.2 x (List.mem_of_getElem? hx)
  refine ⟨⟨⟨by omega, by omega⟩, ⟨by omega, by omega⟩, ⟨by omega, by omega⟩, ⟨by rw [b1]; omega, by rw [b1]; omega⟩, trivial⟩, ?_⟩
  rw [List.getElem?_map, hx]
  simp only [Option.map_some, v_kidType, b1]
theorem q_lookCall {σ : sg_S} {A : aT} {ds : kD} {n : Int} {Q : sg_S → Prop} (h : trT σ A) (hn : 0 ≤ n ∧ n < A.1) (hd : dsR σ (sg_g σ 88 45) ds) (hl : ds.length ≤ 12) (hr : ∀ d ∈ ds, 0 ≤ d.2.2 ∧ d.2.2 < A.1) (k1 : ∀ σ', (kDef ds (A.2.2.2.1 n) = none ∨ ∃ ps r, kDef ds (A.2.2.2.1 n) = some (ps, r) ∧ kIs (decide (kTs σ A n = ps)) (sg_g σ 101 r) = none) → ¬ sg_g σ' 88 29 = 0 → sg_F [101, 102, 30088, 31088] σ σ' → Q σ') (k2 : ∀ q ps r, kDef ds (A.2.2.2.1 n) = some (ps, r) → kDx ds (A.2.2.2.1 n) = some q → kIs (decide (kTs σ A n = ps)) (sg_g σ 101 r) = some (sg_g σ 101 r) → Q (sg_w (sg_w σ 102 n q) 101 n (sg_g σ 101 r))) : V_lookCall σ n Q := by
  have h200 := h.1.2.2.1
  obtain ⟨a1, a2, a3, a4, a5, a6, a7⟩ := h.1.2.2.2 n hn.1 hn.2
  unfold V_lookCall
  refine ⟨⟨by omega, by omega⟩, q_defNamed hd hl ?_ ?_⟩
  · intro hf _
    rw [a3] at hf
    refine ⟨fun x => absurd x (by decide), fun _ => q_wrong (by decide) (fun σ' x1 x2 _ => k1 σ' (Or.inl hf) x1 (sg_F_m x2 rfl))⟩
  · rintro q ⟨ps, r⟩ hf hfx h0 h12 ⟨p1, p2, p3, p4⟩ _
    rw [a3] at hf hfx
    simp only at p1 p2 p3 p4
    have hlen : (kTs σ A n).length = (A.2.2.2.2.1 n).length := List.length_map _
    refine ⟨fun _ => ⟨⟨h0, h12⟩, fun v12 e12 _ => ⟨fun m is k => m = ((A.2.2.2.2.1 n).length - k).toNat ∧ (0 ≤ k ∧ k ≤ (A.2.2.2.2.1 n).length) ∧ ((is = 0 ∧ ¬ kTs σ A n = ps) ∨ (is = 1 ∧ (kTs σ A n).length = ps.length ∧ ∀ j : Nat, j < k → (kTs σ A n)[j]? = ps[j]?)), fun is => (is = 0 ∧ ¬ kTs σ A n = ps) ∨ (is = 1 ∧ kTs σ A n = ps), ⟨_, rfl, ⟨by omega, by omega⟩, ?_⟩, ?_, ?_⟩⟩, fun x => absurd x (by omega)⟩
    · rw [e12, a4, p1]
      by_cases c : ((A.2.2.2.2.1 n).length : Int) = (ps.length : Int)
      · rw [if_neg (fun x => x c)]
        exact Or.inr ⟨rfl, by omega, fun j hj => by omega⟩
      · rw [if_pos c]
        exact Or.inl ⟨rfl, fun x => c (by rw [← x, hlen])⟩
    · rintro m is k ris rk ⟨em, ek, ei⟩
      rw [a4]
      refine ⟨fun hk => ?_, fun hk => ⟨fun h0 => ?_, fun h1 => ?_⟩⟩
      · rcases ei with ei | ⟨e1, e2, e3⟩
        · exact Or.inl ei
        · refine Or.inr ⟨e1, List.ext_getElem? (fun j => ?_)⟩
          by_cases hj : (j : Int) < k
          · exact e3 j hj
          · rw [List.getElem?_eq_none (by omega), List.getElem?_eq_none (by omega)]
      · rcases ei with ei | ⟨e1, e2, e3⟩
        · exact Or.inl ei
        · omega
      · rcases ei with ⟨e1, -⟩ | ⟨e1, e2, e3⟩
        · exact absurd e1 h1
        · obtain ⟨k', rfl⟩ : ∃ k' : Nat, k = k' := ⟨k.toNat, by omega⟩
          obtain ⟨t1, t2⟩ := trT_kid h hn (j := k') (by omega)
          obtain ⟨y, hy⟩ : ∃ y, ps[k']? = some y := ⟨_, List.getElem?_eq_getElem (by omega)⟩
          have t3 := p2 k' y hy
          refine ⟨t1, ⟨by omega, by omega⟩, ⟨by omega, by omega⟩, ⟨by omega, by omega⟩, fun v51 e51 _ => ⟨⟨by omega, by omega⟩, _, ?_, rfl, ⟨by omega, by omega⟩, ?_⟩⟩
          · omega
          · rw [e51, t3]
            by_cases c : v_kidType σ n k' = y
            · rw [if_neg (fun x => x c)]
              refine Or.inr ⟨rfl, e2, fun j hj => ?_⟩
              by_cases hj2 : j = k'
              · subst hj2; rw [t2, hy, c]
              · exact e3 j (by omega)
            · rw [if_pos c]
              refine Or.inl ⟨rfl, fun x => c ?_⟩
              rw [x, hy] at t2
              exact (Option.some.inj t2).symm
    · rintro is ris hx σ32 e32
      obtain ⟨d, d1, d2⟩ := kDef_in hf
      have hrr := hr d d1
      rw [d2] at hrr
      rw [p3]
      refine ⟨⟨by omega, by omega⟩, q_typed ⟨by omega, by omega⟩ ?_ ?_⟩
      · intro σ' x1 x2 x3 _
        refine k1 σ' (Or.inr ⟨ps, r, hf, ?_⟩) x2 (sg_F_t (sg_F_m (K := [102]) (by rw [e32]; exact sg_F_w (sg_F_r _ _) rfl _) rfl) (sg_F_m x3 rfl))
        unfold kIs
        rw [if_neg]
        rintro ⟨y1, y2⟩
        have y1 := of_decide_eq_true y1
        rcases hx with ⟨z1, z2⟩ | ⟨z1, z2⟩
        · exact z2 y1
        · omega
      · intro x1 x2 _
        rw [e32]
        refine k2 q ps r hf hfx ?_
        unfold kIs
        rcases hx with ⟨z1, z2⟩ | ⟨z1, z2⟩
        · exact absurd z1 x1
        · rw [if_pos ⟨decide_eq_true z2, x2⟩]
/-! lookAct of the reference. -/
theorem trT_a {σ : sg_S} {A : aT} (h : trT σ A) {n : Int} (hn : 0 ≤ n ∧ n < A.1) (j : Nat) : (if sg_g σ 96 n ≤ (j : Int) then (0 : Int) else v_kidType σ n j) = (kTs σ A n).getD j 0 := by
  obtain ⟨a1, a2, a3, a4, a5, a6, a7⟩ := h.1.2.2.2 n hn.1 hn.2
  have hlen : (kTs σ A n).length = (A.2.2.2.2.1 n).length := List.length_map _
  rw [a4, List.getD_eq_getElem?_getD]
  by_cases c : ((A.2.2.2.2.1 n).length : Int) ≤ j
  · rw [if_pos c, List.getElem?_eq_none (by omega)]; rfl
  · rw [if_neg c, (trT_kid h hn (by omega)).2]; rfl
theorem q_ti {σ : sg_S} {n is ty : Int} {b : Bool} {Q : sg_S → Prop} (hn : 0 ≤ n ∧ n < 210) (e : is = 0 ↔ ¬ b = true) (k1 : ∀ σ', kIs b ty = none → ¬ sg_g σ' 88 29 = 0 → sg_F [101, 30088, 31088] σ σ' → Q σ') (k2 : kIs b ty = some ty → Q (sg_w σ 101 n ty)) : V_typed σ n is ty (fun σ' => sg_F [101, 30088, 31088] σ σ' → Q σ') := by
  refine q_typed hn (fun σ' x1 x2 x3 _ => k1 σ' ?_ x2 x3) (fun x1 x2 _ => k2 ?_)
  · unfold kIs
    rw [if_neg]
    rintro ⟨y1, y2⟩
    rcases x1 with x1 | x1
    · exact e.mp x1 y1
    · omega
  · unfold kIs
    rw [if_pos ⟨Decidable.byContradiction (fun y => x1 (e.mpr y)), x2⟩]
theorem q_lookAct {σ : sg_S} {A : aT} {n : Int} {Q : sg_S → Prop} (h : trT σ A) (hn : 0 ≤ n ∧ n < A.1) (ht : ∀ y ∈ kTs σ A n, 0 ≤ y ∧ y ≤ 3) (k1 : ∀ σ', kAct (A.2.1 n) (kTs σ A n) = none → ¬ sg_g σ' 88 29 = 0 → sg_F [101, 30088, 31088] σ σ' → Q σ') (k2 : ∀ ty, kAct (A.2.1 n) (kTs σ A n) = some ty → Q (sg_w σ 101 n ty)) : V_lookAct σ n Q := by
  have h200 := h.1.2.2.1
  obtain ⟨a1, a2, a3, a4, a5, a6, a7⟩ := h.1.2.2.2 n hn.1 hn.2
  have hlen : (kTs σ A n).length = (A.2.2.2.2.1 n).length := List.length_map _
  have hg : ∀ j, 0 ≤ (kTs σ A n).getD j 0 ∧ (kTs σ A n).getD j 0 ≤ 3 := fun j => by
    rw [List.getD_eq_getElem?_getD]
    cases e : (kTs σ A n)[j]? with
    | none => simp
    | some y => exact ht y (List.mem_of_getElem? e)
  have hn2 : 0 ≤ n ∧ n < 210 := by omega
  have key : ∀ (b : Bool) (is ty : Int), kAct (A.2.1 n) (kTs σ A n) = kIs b ty → (is = 0 ↔ ¬ b = true) → V_typed σ n is ty (fun σ' => sg_F [101, 30088, 31088] σ σ' → Q σ') := fun b is ty x1 x2 => q_ti hn2 x2 (fun σ' y1 y2 y3 => k1 σ' (x1.trans y1) y2 y3) (fun y => k2 ty (x1.trans y))
  have hp : ∀ m, p_has σ n m := fun m => ⟨hn2, fun _ => trivial, fun _ => trivial⟩
  unfold V_lookAct
  refine ⟨hn2, ⟨fun _ => trivial, fun x => ⟨(trT_kid h hn (j := 0) (by omega)).1, trivial⟩⟩, fun va ea _ => ⟨⟨fun _ => trivial, fun x => ⟨(trT_kid h hn (j := 1) (by omega)).1, trivial⟩⟩, fun vb eb _ => ?_⟩⟩
  have ea := ea.trans (trT_a h hn 0)
  have eb := eb.trans (trT_a h hn 1)
  have g0 := hg 0
  have g1 := hg 1
  rw [← ea] at g0
  rw [← eb] at g1
  rw [a1]
  have hv : ∀ m, v_has σ n m = if ((kTs σ A n).length : Int) = m then 1 else 0 := fun m => by
    unfold v_has
    rw [a4, hlen]
    by_cases c : ((A.2.2.2.2.1 n).length : Int) = m
    · rw [if_neg (fun x => x c), if_pos c]
    · rw [if_pos c, if_neg c]
  have hact : kAct (A.2.1 n) (kTs σ A n) = if A.2.1 n = 16 then kIs (decide ((kTs σ A n).length = 1) && decide (va = 0)) 1
    else if A.2.1 n = 17 then kIs (decide ((kTs σ A n).length = 2) && decide (vb = 0)) (va + 1)
    else if A.2.1 n = 18 ∨ A.2.1 n = 19 ∨ A.2.1 n = 20 then kIs (decide ((kTs σ A n).length = 1) && decide (va = 1)) 0
    else if A.2.1 n = 21 then kIs (decide ((kTs σ A n).length = 1) && decide (va = 1)) 1
    else if A.2.1 n = 22 then kIs (decide ((kTs σ A n).length = 1) && decide (0 < va)) va
    else if A.2.1 n = 23 then kIs (decide ((kTs σ A n).length = 2) && decide (0 < va) && decide (va = vb)) va
    else if A.2.1 n = 24 then kIs (decide ((kTs σ A n).length = 1) && decide (1 < va)) (va - 1)
    else if A.2.1 n = 25 ∨ A.2.1 n = 26 then kIs (decide ((kTs σ A n).length = 2) && decide (0 < va) && decide (vb = 1)) va
    else kIs (decide ((kTs σ A n).length = 2) && decide (0 < va) && decide (vb = 1)) (va + 1) := by
    rw [ea, eb]; rfl
  generalize kTs σ A n = ts at *
  unfold V_lookAct_16 V_lookAct_17 V_lookAct_18 V_lookAct_21 V_lookAct_22 V_lookAct_23 V_lookAct_24 V_lookAct_25 V_lookAct_d
  refine ⟨fun c => ⟨hp _, fun v e _ => key _ _ _ (by rw [hact]; simp only [c, if_true]; rfl) (by rw [e, hv]; grind)⟩, fun c16 => ?_⟩
  refine ⟨fun c => ⟨hp _, fun v e _ => ⟨⟨by omega, by omega⟩, key _ _ _ (by rw [hact, if_neg c16, if_pos c]) (by rw [e, hv]; grind)⟩⟩, fun c17 => ?_⟩
  refine ⟨fun c => ⟨hp _, fun v e _ => key _ _ _ (by rw [hact, if_neg c16, if_neg c17, if_pos (Or.inl c)]) (by rw [e, hv]; grind)⟩, fun c18 => ?_⟩
  refine ⟨fun c => ⟨hp _, fun v e _ => key _ _ _ (by rw [hact, if_neg c16, if_neg c17, if_pos (Or.inr (Or.inl c))]) (by rw [e, hv]; grind)⟩, fun c19 => ?_⟩
  refine ⟨fun c => ⟨hp _, fun v e _ => key _ _ _ (by rw [hact, if_neg c16, if_neg c17, if_pos (Or.inr (Or.inr c))]) (by rw [e, hv]; grind)⟩, fun c20 => ?_⟩
  have c1 : ¬ (A.2.1 n = 18 ∨ A.2.1 n = 19 ∨ A.2.1 n = 20) := by omega
  refine ⟨fun c => ⟨hp _, fun v e _ => key _ _ _ (by rw [hact, if_neg c16, if_neg c17, if_neg c1, if_pos c]) (by rw [e, hv]; grind)⟩, fun c21 => ?_⟩
  refine ⟨fun c => ⟨hp _, fun v e _ => key _ _ _ (by rw [hact, if_neg c16, if_neg c17, if_neg c1, if_neg c21, if_pos c]) (by rw [e, hv]; grind)⟩, fun c22 => ?_⟩
  refine ⟨fun c => ⟨hp _, fun v e _ => key _ _ _ (by rw [hact, if_neg c16, if_neg c17, if_neg c1, if_neg c21, if_neg c22, if_pos c]) (by rw [e, hv]; grind)⟩, fun c23 => ?_⟩
  refine ⟨fun c => ⟨hp _, fun v e _ => ⟨⟨by omega, by omega⟩, key _ _ _ (by rw [hact, if_neg c16, if_neg c17, if_neg c1, if_neg c21, if_neg c22, if_neg c23, if_pos c]) (by rw [e, hv]; grind)⟩⟩, fun c24 => ?_⟩
  refine ⟨fun c => ⟨hp _, fun v e _ => key _ _ _ (by rw [hact, if_neg c16, if_neg c17, if_neg c1, if_neg c21, if_neg c22, if_neg c23, if_neg c24, if_pos (Or.inl c)]) (by rw [e, hv]; grind)⟩, fun c25 => ?_⟩
  refine ⟨fun c => ⟨hp _, fun v e _ => key _ _ _ (by rw [hact, if_neg c16, if_neg c17, if_neg c1, if_neg c21, if_neg c22, if_neg c23, if_neg c24, if_pos (Or.inr c)]) (by rw [e, hv]; grind)⟩, fun c26 => ?_⟩
  exact ⟨hp _, fun v e _ => ⟨⟨by omega, by omega⟩, key _ _ _ (by rw [hact, if_neg c16, if_neg c17, if_neg c1, if_neg c21, if_neg c22, if_neg c23, if_neg c24, if_neg (by omega)]) (by rw [e, hv]; grind)⟩⟩
/-! lookAt of the reference: rows, and each. -/
theorem q_row {σ : sg_S} {A : aT} {n va : Int} {Q : sg_S → Prop} (h : trT σ A) (hn : 0 ≤ n ∧ n < A.1) (hva : va = (kTs σ A n).getD 0 0) (h3 : 0 ≤ va ∧ va ≤ 3) (k1 : ∀ σ', kIs ((kTs σ A n).all (fun x => decide (x = va))) (va + 1) = none → ¬ sg_g σ' 88 29 = 0 → sg_F [101, 30088, 31088] σ σ' → Q σ') (k2 : kIs ((kTs σ A n).all (fun x => decide (x = va))) (va + 1) = some (va + 1) → Q (sg_w σ 101 n (va + 1))) : V_lookAt_14 σ n va Q := by
  have h200 := h.1.2.2.1
  obtain ⟨a1, a2, a3, a4, a5, a6, a7⟩ := h.1.2.2.2 n hn.1 hn.2
  have hlen : (kTs σ A n).length = (A.2.2.2.2.1 n).length := List.length_map _
  have hn2 : 0 ≤ n ∧ n < 210 := by omega
  have h0 : ∀ y, (kTs σ A n)[0]? = some y → y = va := fun y hy => by rw [hva, List.getD_eq_getElem?_getD, hy]; rfl
  unfold V_lookAt_14
  refine ⟨fun m is k => m = (200 - k).toNat ∧ (1 ≤ k ∧ (k ≤ 200 ∨ k ≤ 1)) ∧ ((is = 0 ∧ ¬ (kTs σ A n).all (fun x => decide (x = va)) = true) ∨ (is = 1 ∧ ∀ (j : Nat) (y : Int), j < k → (kTs σ A n)[j]? = some y → y = va)), fun is => is = 0 ↔ ¬ (kTs σ A n).all (fun x => decide (x = va)) = true, ⟨_, rfl, by omega, Or.inr ⟨rfl, fun j y hj hy => ?_⟩⟩, ?_, ?_⟩
  · have : j = 0 := by omega
    subst this
    exact h0 y hy
  · rintro m is k ris rk ⟨em, ek, ei⟩
    rw [a4]
    refine ⟨hn2, fun hk => ?_, fun hk => ⟨⟨fun _ => trivial, fun _ => ?_⟩, fun v29 e29 _ => ⟨⟨by omega, by omega⟩, _, ?_, rfl, by omega, ?_⟩⟩⟩
    · rcases ei with ⟨e1, e2⟩ | ⟨e1, e2⟩
      · exact ⟨fun _ => e2, fun _ => e1⟩
      · refine ⟨fun x => by omega, fun x => absurd ?_ x⟩
        rw [List.all_eq_true]
        intro y hy
        obtain ⟨j, hj⟩ := List.mem_iff_getElem?.mp hy
        have hl2 : j < (kTs σ A n).length := (List.getElem?_eq_some_iff.mp hj).1
        exact decide_eq_true (e2 j y (by omega) hj)
    · obtain ⟨k', rfl⟩ : ∃ k' : Nat, k = k' := ⟨k.toNat, by omega⟩
      exact ⟨(trT_kid h hn (by omega)).1, fun _ => trivial, fun _ => trivial⟩
    · omega
    · obtain ⟨k', rfl⟩ : ∃ k' : Nat, k = k' := ⟨k.toNat, by omega⟩
      have t2 := (trT_kid h hn (j := k') (by omega)).2
      rw [e29]
      rcases ei with ⟨e1, e2⟩ | ⟨e1, e2⟩
      · rw [if_pos e1]; exact Or.inl ⟨rfl, e2⟩
      · rw [if_neg (by omega)]
        by_cases c : v_kidType σ n k' = va
        · rw [if_neg (fun x => x c)]
          refine Or.inr ⟨rfl, fun j y hj hy => ?_⟩
          by_cases hj2 : j = k'
          · subst hj2; rw [t2] at hy; cases hy; exact c
          · exact e2 j y (by omega) hy
        · rw [if_pos c]
          refine Or.inl ⟨rfl, fun x => c ?_⟩
          exact of_decide_eq_true (List.all_eq_true.mp x _ (List.mem_of_getElem? t2))
  · rintro is ris hx
    exact ⟨⟨by omega, by omega⟩, q_ti hn2 hx k1 k2⟩
/-! lookAt of the reference is kTy. -/
theorem q_each {σ : sg_S} {A : aT} {n va : Int} {Q : sg_S → Prop} (h : trT σ A) (hn : 0 ≤ n ∧ n < A.1) (h3 : 0 ≤ va ∧ va ≤ 3) (k1 : ∀ σ', kIs (decide ((kTs σ A n).length ≠ 2 + (A.2.2.2.2.2 n).length) || decide ((kTs σ A n).getD ((kTs σ A n).length - 1) 0 = 0)) (va + 1) = none → ¬ sg_g σ' 88 29 = 0 → sg_F [101, 30088, 31088] σ σ' → Q σ') (k2 : kIs (decide ((kTs σ A n).length ≠ 2 + (A.2.2.2.2.2 n).length) || decide ((kTs σ A n).getD ((kTs σ A n).length - 1) 0 = 0)) (va + 1) = some (va + 1) → Q (sg_w σ 101 n (va + 1))) : V_lookAt_15 σ n va Q := by
  have h200 := h.1.2.2.1
  obtain ⟨a1, a2, a3, a4, a5, a6, a7, a8, a9⟩ := h.1.2.2.2 n hn.1 hn.2
  have hlen : (kTs σ A n).length = (A.2.2.2.2.1 n).length := List.length_map _
  have hn2 : 0 ≤ n ∧ n < 210 := by omega
  have hv : v_hasTest σ n = if (kTs σ A n).length = 2 + (A.2.2.2.2.2 n).length then 1 else 0 := by
    unfold v_hasTest
    rw [a4, a7]
    by_cases c : (kTs σ A n).length = 2 + (A.2.2.2.2.2 n).length
    · rw [if_neg (fun x => x (by omega)), if_pos c]
    · rw [if_pos (by omega), if_neg c]
  have hk : (kTs σ A n).length = 2 + (A.2.2.2.2.2 n).length → p_kidType σ n (sg_g σ 96 n - 1) ∧ v_kidType σ n (sg_g σ 96 n - 1) = (kTs σ A n).getD ((kTs σ A n).length - 1) 0 := fun c => by
    have t := trT_kid h hn (j := (A.2.2.2.2.1 n).length - 1) (by omega)
    rw [show sg_g σ 96 n - 1 = (((A.2.2.2.2.1 n).length - 1 : Nat) : Int) by omega]
    refine ⟨t.1, ?_⟩
    rw [hlen, List.getD_eq_getElem?_getD, t.2]; rfl
  unfold V_lookAt_15
  refine ⟨⟨hn2, ⟨by omega, by omega⟩, fun _ => trivial, fun _ => trivial⟩, ⟨fun _ => trivial, fun c => ?_⟩, fun v4 e4 _ => ⟨⟨by omega, by omega⟩, q_ti hn2 ?_ k1 k2⟩⟩
  · rw [hv] at c
    have c2 : (kTs σ A n).length = 2 + (A.2.2.2.2.2 n).length := by
      refine Decidable.byContradiction (fun x => c ?_)
      rw [if_neg x]
    exact ⟨hn2, ⟨by omega, by omega⟩, (hk c2).1, fun _ => trivial, fun _ => trivial⟩
  · rw [e4, hv]
    by_cases c : (kTs σ A n).length = 2 + (A.2.2.2.2.2 n).length
    · rw [(hk c).2]; grind
    · grind
