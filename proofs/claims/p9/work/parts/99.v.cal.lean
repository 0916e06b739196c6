/-! lookCall of the reference. -/
def trT (σ : sg_S) (A : aT) : Prop := trR A (sg_g σ 88 8) (sg_g σ 93) (sg_g σ 94) (sg_gl σ 95) (sg_g σ 96) (sg_g σ 97) (sg_g σ 98) (sg_gl σ 99) (sg_g σ 100) ∧ ∀ n, 0 ≤ n → n < A.1 → ∀ x ∈ A.2.2.2.2.1 n, 0 ≤ x ∧ x < A.1
/-- the types of n's parts -/
abbrev kTs (σ : sg_S) (A : aT) (n : Int) : List Int := (A.2.2.2.2.1 n).map (sg_g σ 101)
theorem trT_kid {σ : sg_S} {A : aT} (h : trT σ A) {n : Int} (hn : 0 ≤ n ∧ n < A.1) {j : Nat} (hj : j < (A.2.2.2.2.1 n).length) : p_kidType σ n j ∧ (kTs σ A n)[j]? = some (v_kidType σ n j) := by
  obtain ⟨⟨e1, e2, e3, e4⟩, e5⟩ := h
  obtain ⟨a1, a2, a3, a4, a5, a6, a7⟩ := e4 n hn.1 hn.2
  obtain ⟨x, hx⟩ : ∃ x, (A.2.2.2.2.1 n)[j]? = some x := ⟨_, List.getElem?_eq_getElem hj⟩
  have b1 := a6 j x hx
  have b2 := e5 n hn.1 hn.2 x (List.mem_of_getElem? hx)
  refine ⟨⟨⟨by omega, by omega⟩, ⟨by omega, by omega⟩, ⟨by omega, by omega⟩, ⟨by rw [b1]; omega, by rw [b1]; omega⟩, trivial⟩, ?_⟩
  rw [List.getElem?_map, hx]
  simp only [Option.map_some, v_kidType, b1]
theorem q_lookCall {σ : sg_S} {A : aT} {ds : kD} {n : Int} {Q : sg_S → Prop} (h : trT σ A) (hn : 0 ≤ n ∧ n < A.1) (hd : dsR σ (sg_g σ 88 45) ds) (hl : ds.length ≤ 12) (hr : ∀ d ∈ ds, 0 ≤ d.2.2 ∧ d.2.2 < A.1) (k1 : ∀ σ', (kDef ds (A.2.2.2.1 n) = none ∨ ∃ ps r, kDef ds (A.2.2.2.1 n) = some (ps, r) ∧ kIs (decide (kTs σ A n = ps)) (sg_g σ 101 r) = none) → ¬ sg_g σ' 88 29 = 0 → sg_F [101, 102, 30088, 31088] σ σ' → Q σ') (k2 : ∀ q ps r, kDef ds (A.2.2.2.1 n) = some (ps, r) → kDx ds (A.2.2.2.1 n) = some q → kIs (decide (kTs σ A n = ps)) (sg_g σ 101 r) = some (sg_g σ 101 r) → Q (sg_w (sg_w σ 102 n q) 101 n (sg_g σ 101 r))) : V_lookCall σ n Q := by
  have h200 := h.1.2.2.1
  obtain ⟨a1, a2, a3, a4, a5, a6, a7⟩ := h.1.2.2.2 n hn.1 hn.2
  unfold V_lookCall
  refine ⟨⟨by omega, by omega⟩, q_defNamed hd hl ?_ ?_⟩
  · intro hf _
    rw [a3] at hf
    refine ⟨fun x => absurd x (by decide), fun _ => q_wrong (by decide) (fun σ' x1 x2 _ => k1 σ' (Or.inl hf) x1 (sg_F_m x2 rfl))⟩
  · rintro q ⟨ps, r⟩ hf hfx h0 h12 ⟨p1, p2, p3, p4⟩ _
    rw [a3] at hf hfx
    simp only at p1 p2 p3 p4
    have hlen : (kTs σ A n).length = (A.2.2.2.2.1 n).length := List.length_map _
    refine ⟨fun _ => ⟨⟨h0, h12⟩, fun v12 e12 _ => ⟨fun m is k => m = ((A.2.2.2.2.1 n).length - k).toNat ∧ (0 ≤ k ∧ k ≤ (A.2.2.2.2.1 n).length) ∧ ((is = 0 ∧ ¬ kTs σ A n = ps) ∨ (is = 1 ∧ (kTs σ A n).length = ps.length ∧ ∀ j : Nat, j < k → (kTs σ A n)[j]? = ps[j]?)), fun is => (is = 0 ∧ ¬ kTs σ A n = ps) ∨ (is = 1 ∧ kTs σ A n = ps), ⟨_, rfl, ⟨by omega, by omega⟩, ?_⟩, ?_, ?_⟩⟩, fun x => absurd x (by omega)⟩
    · rw [e12, a4, p1]
      by_cases c : ((A.2.2.2.2.1 n).length : Int) = (ps.length : Int)
      · rw [if_neg (fun x => x c)]
        exact Or.inr ⟨rfl, by omega, fun j hj => by omega⟩
      · rw [if_pos c]
        exact Or.inl ⟨rfl, fun x => c (by rw [← x, hlen])⟩
    · rintro m is k ris rk ⟨em, ek, ei⟩
      rw [a4]
      refine ⟨fun hk => ?_, fun hk => ⟨fun h0 => ?_, fun h1 => ?_⟩⟩
      · rcases ei with ei | ⟨e1, e2, e3⟩
        · exact Or.inl ei
        · refine Or.inr ⟨e1, List.ext_getElem? (fun j => ?_)⟩
          by_cases hj : (j : Int) < k
          · exact e3 j hj
          · rw [List.getElem?_eq_none (by omega), List.getElem?_eq_none (by omega)]
      · rcases ei with ei | ⟨e1, e2, e3⟩
        · exact Or.inl ei
        · omega
      · rcases ei with ⟨e1, -⟩ | ⟨e1, e2, e3⟩
        · exact absurd e1 h1
        · obtain ⟨k', rfl⟩ : ∃ k' : Nat, k = k' := ⟨k.toNat, by omega⟩
          obtain ⟨t1, t2⟩ := trT_kid h hn (j := k') (by omega)
          obtain ⟨y, hy⟩ : ∃ y, ps[k']? = some y := ⟨_, List.getElem?_eq_getElem (by omega)⟩
          have t3 := p2 k' y hy
          refine ⟨t1, ⟨by omega, by omega⟩, ⟨by omega, by omega⟩, ⟨by omega, by omega⟩, fun v51 e51 _ => ⟨⟨by omega, by omega⟩, _, ?_, rfl, ⟨by omega, by omega⟩, ?_⟩⟩
          · omega
          · rw [e51, t3]
            by_cases c : v_kidType σ n k' = y
            · rw [if_neg (fun x => x c)]
              refine Or.inr ⟨rfl, e2, fun j hj => ?_⟩
              by_cases hj2 : j = k'
              · subst hj2; rw [t2, hy, c]
              · exact e3 j (by omega)
            · rw [if_pos c]
              refine Or.inl ⟨rfl, fun x => c ?_⟩
              rw [x, hy] at t2
              exact (Option.some.inj t2).symm
    · rintro is ris hx σ32 e32
      obtain ⟨d, d1, d2⟩ := kDef_in hf
      have hrr := hr d d1
      rw [d2] at hrr
      rw [p3]
      refine ⟨⟨by omega, by omega⟩, q_typed ⟨by omega, by omega⟩ ?_ ?_⟩
      · intro σ' x1 x2 x3 _
        refine k1 σ' (Or.inr ⟨ps, r, hf, ?_⟩) x2 (sg_F_t (sg_F_m (K := [102]) (by rw [e32]; exact sg_F_w (sg_F_r _ _) rfl _) rfl) (sg_F_m x3 rfl))
        unfold kIs
        rw [if_neg]
        rintro ⟨y1, y2⟩
        have y1 := of_decide_eq_true y1
        rcases hx with ⟨z1, z2⟩ | ⟨z1, z2⟩
        · exact z2 y1
        · omega
      · intro x1 x2 _
        rw [e32]
        refine k2 q ps r hf hfx ?_
        unfold kIs
        rcases hx with ⟨z1, z2⟩ | ⟨z1, z2⟩
        · exact absurd z1 x1
        · rw [if_pos ⟨decide_eq_true z2, x2⟩]
