/-! parts of a { } with their fuel; lanes of an if. -/
section AVS
variable {A : aT} {D : List aDf} {T B : Int → Int} {lev : Int → Nat}
theorem stN_e {j f : Nat} {L : List Int} {sc : List (Int × Int)} {x bd : Int} {tl : List Int} (hA : A.1 ≤ 200) (h : stN A D T B lev j (f + 1) L sc x) (k15 : A.2.1 x = 15) (ea : A.2.2.2.2.1 x = bd :: tl) : (∀ z ∈ tl.take (A.2.2.2.2.2 x).length, (∃ L', stN A D T B lev j f L' sc z ∧ ∀ y ∈ L', y ∈ L) ∧ 0 < T z) ∧ ∀ z ∈ tl.drop (A.2.2.2.2.2 x).length ++ [bd], ∃ L', stN A D T B lev j f L' (gsc x T 0 (tl.take (A.2.2.2.2.2 x).length) ++ sc) z ∧ (∀ y ∈ L', y ∈ L) ∧ x ∉ L' := by
  have h1 := h.1
  obtain ⟨b1, b2⟩ := h1.2.2.2.2.2.2.2.1 k15 bd tl ea
  have hx := h1.2.1
  have l7 := (h1.1.2.2.2.2.2.2.1 k15).2
  refine ⟨fun z hz => ⟨?_, (b1 z hz).2⟩, fun z hz => ?_⟩
  · obtain ⟨L', p1, p2, -⟩ := stN_sub h (z := z) (by rw [ea]; exact List.mem_cons_of_mem _ (List.mem_of_mem_take hz)) f (b1 z hz).1 (fun p hp => Or.inl hp)
    exact ⟨L', p1, p2⟩
  · obtain ⟨L', p1, p2, p3⟩ := stN_sub h (z := z) (sc' := gsc x T 0 (tl.take (A.2.2.2.2.2 x).length) ++ sc) (by
      rw [ea]
      rcases List.mem_append.mp hz with q | q
      · exact List.mem_cons_of_mem _ (List.mem_of_mem_drop q)
      · have : z = bd := by simpa using q
        simp [this]) f (b2 z hz) (fun p hp => by
      rcases List.mem_append.mp hp with q | q
      · obtain ⟨i, u, hu, ep⟩ := gsc_m _ _ _ q
        have hi := lt_of_get hu
        rw [List.length_take] at hi
        have e1 : p.1 = 210 + 4 * x + i := by rw [ep]; simp only; omega
        exact Or.inr ⟨⟨⟨by omega, by omega⟩, fun z => by omega, fun _ _ => by omega⟩, Or.inr ⟨by omega, by omega, by omega⟩⟩
      · exact Or.inl q)
    exact ⟨L', p1, p2, p3⟩
/-- the scope of a part of an if: what is carried along -/
theorem stN_p {O : Int → Nat → List Int} {j f : Nat} {L Lx : List Int} {sc : List (Int × Int)} {n x : Int} {st : Nat} (hA : A.1 ≤ 200) (hO : okO A B O) (k3 : A.2.1 n = 3) (hst : st = 1 ∨ st = 2) (hk : (A.2.2.2.2.1 n)[st]? = some x) (h : stN A D T B lev j f Lx sc x) : stN A D T B lev j f Lx (sc.filter (fun p => decide (p.1 ∈ O n st))) x ∧ ∀ z ∈ O n st, ∃ p ∈ sc, p.1 = z := by
  have ho := (hO n).2.1 k3 st x Lx hst hk h.2.1
  refine ⟨?_, fun z hz => ?_⟩
  · have r := stN_res (I := []) (sc := sc) (sc' := sc.filter (fun p => decide (p.1 ∈ O n st))) h (fun y hy ky p hp e => ?_) (fun p hp => (List.mem_filter.mp hp).1)
    · exact r
    · refine List.mem_filter.mpr ⟨hp, ?_⟩
      rw [decide_eq_true_eq]
      exact (ho p.1).mpr ⟨y, hy, ky, e.symm, fun q => (h.2.2.2.2 p hp).2 (Or.inl q)⟩
  · obtain ⟨y, y1, y2, y3, y4⟩ := (ho z).mp hz
    rcases stN_v hA h y1 y2 with ⟨q, -⟩ | q
    · exact ⟨_, q, y3⟩
    · rw [y3] at q; exact absurd q y4
end AVS
