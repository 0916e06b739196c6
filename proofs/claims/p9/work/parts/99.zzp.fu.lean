/-! parts of a node, with their trees and scopes. -/
section FU
variable {A : aT} {D : List aDf} {T B : Int → Int} {lev : Int → Nat}
theorem stN_w {j f : Nat} {L : List Int} {sc : List (Int × Int)} {x : Int} (h : stN A D T B lev j f L sc x) : nW A x ∧ (0 ≤ x ∧ x < A.1) ∧ kIn (T x) ∧ (A.2.1 x = 1 → (B x, T x) ∈ sc) ∧ (¬ A.2.1 x = 1 → kTy A (kDl (D.take j) []) T [] x ((A.2.2.2.2.1 x).map T) = some (T x)) ∧ (A.2.1 x = 13 → kDx (kDl (D.take j) []) (A.2.2.2.1 x) = some (B x)) := by
  obtain ⟨h1, -⟩ := h
  cases f with
  | zero => cases h1
  | succ f => exact ⟨h1.1, h1.2.1, h1.2.2.1, h1.2.2.2.1, h1.2.2.2.2.1, h1.2.2.2.2.2.1⟩
/-- a part of x, with its own tree -/
theorem stN_sub {j f : Nat} {L : List Int} {sc sc' : List (Int × Int)} {x z : Int} (h : stN A D T B lev j f L sc x) (hz : z ∈ A.2.2.2.2.1 x) (f' : Nat) (ht : tyN A (kDl (D.take j) []) T B f' sc' z) (hs : ∀ p ∈ sc', p ∈ sc ∨ (rb A p.1 ∧ ((p.1 = x ∧ p.1 < 210) ∨ (210 ≤ p.1 ∧ p.1 < 1100 ∧ (p.1 - 210) / 4 = x)))) : ∃ L', stN A D T B lev j f' L' sc' z ∧ (∀ y ∈ L', y ∈ L) ∧ x ∉ L' := by
  obtain ⟨h1, h2, h3, h4, h5⟩ := h
  obtain ⟨L1, L2, e1, w1, w2, w3⟩ := fT_inv h2
  have e2 := fT_nil w3
  subst e2
  rw [List.append_nil] at e1
  subst e1
  obtain ⟨L', g1, g2, g3⟩ := fT_mem hz w2
  have nx := (List.nodup_cons.mp h3).1
  have n1 := (List.nodup_cons.mp h3).2
  have lx := h4 x (by simp)
  have sub : ∀ y ∈ L', y ∈ x :: L1 := fun y hy => by simp [g2 y hy]
  have xn : x ∉ L' := fun z => nx (g2 x z)
  refine ⟨L', ⟨ht, g1, g3 n1, fun y hy => h4 y (sub y hy), fun p hp => ?_⟩, sub, xn⟩
  rcases hs p hp with q | ⟨q1, q2⟩
  · obtain ⟨a, b⟩ := h5 p q
    exact ⟨a, fun o => b (ow_s sub o)⟩
  · refine ⟨q1, fun o => ?_⟩
    rcases q2 with ⟨q2, q3⟩ | ⟨q2, q3, q4⟩
    · rcases o with o | o | o | o
      · rcases o with ⟨o1, o2⟩ | ⟨o1, o2, o3⟩
        · rw [q2] at o2; exact xn o2
        · omega
      · have := o.2; rw [q2, lx.2] at this; omega
      · omega
      · omega
    · rcases o with o | o | o | o
      · rcases o with ⟨o1, o2⟩ | ⟨o1, o2, o3⟩
        · omega
        · rw [q4] at o3; exact xn o3
      · omega
      · have := o.2.2; rw [q4, lx.2] at this; omega
      · omega
theorem stN_kid {j f : Nat} {L : List Int} {sc : List (Int × Int)} {x z : Int} (h : stN A D T B lev j f L sc x) (k2 : ¬ A.2.1 x = 2) (k15 : ¬ A.2.1 x = 15) (hz : z ∈ A.2.2.2.2.1 x) : ∃ f' L', stN A D T B lev j f' L' sc z ∧ ∀ y ∈ L', y ∈ L := by
  have h1 := h.1
  cases f with
  | zero => cases h1
  | succ f =>
    obtain ⟨L', a, b, -⟩ := stN_sub h hz f (h1.2.2.2.2.2.2.2.2 k2 k15 z hz) (fun p hp => Or.inl hp)
    exact ⟨f, L', a, b⟩
theorem stN_let {j f : Nat} {L : List Int} {sc : List (Int × Int)} {x a c : Int} (hA : A.1 ≤ 200) (h : stN A D T B lev j f L sc x) (k2 : A.2.1 x = 2) (ea : A.2.2.2.2.1 x = [a, c]) : (∃ f' L', stN A D T B lev j f' L' sc a ∧ ∀ y ∈ L', y ∈ L) ∧ ∃ f' L', stN A D T B lev j f' L' ((x, T a) :: sc) c ∧ ∀ y ∈ L', y ∈ L := by
  have h1 := h.1
  cases f with
  | zero => cases h1
  | succ f =>
    obtain ⟨b1, b2⟩ := h1.2.2.2.2.2.2.1 k2 a c ea
    have hx := h1.2.1
    obtain ⟨L', p1, p2, -⟩ := stN_sub h (z := a) (by rw [ea]; simp) f b1 (fun p hp => Or.inl hp)
    obtain ⟨L2, q1, q2, -⟩ := stN_sub h (z := c) (sc' := (x, T a) :: sc) (by rw [ea]; simp) f b2 (fun p hp => by
      rcases List.mem_cons.mp hp with e | e
      · rw [e]; exact Or.inr ⟨⟨⟨hx.1, by simp only; omega⟩, fun _ => hx.2, fun z => by simp only at z; omega⟩, Or.inl ⟨rfl, by simp only; omega⟩⟩
      · exact Or.inl e)
    exact ⟨⟨f, L', p1, p2⟩, f, L2, q1, q2⟩
theorem stN_each {j f : Nat} {L : List Int} {sc : List (Int × Int)} {x bd : Int} {tl : List Int} (hA : A.1 ≤ 200) (h : stN A D T B lev j f L sc x) (k15 : A.2.1 x = 15) (ea : A.2.2.2.2.1 x = bd :: tl) : (∀ z ∈ tl.take (A.2.2.2.2.2 x).length, (∃ f' L', stN A D T B lev j f' L' sc z ∧ ∀ y ∈ L', y ∈ L) ∧ 0 < T z) ∧ ∀ z ∈ tl.drop (A.2.2.2.2.2 x).length ++ [bd], ∃ f' L', stN A D T B lev j f' L' (gsc x T 0 (tl.take (A.2.2.2.2.2 x).length) ++ sc) z ∧ (∀ y ∈ L', y ∈ L) ∧ x ∉ L' := by
  have h1 := h.1
  cases f with
  | zero => cases h1
  | succ f =>
    obtain ⟨b1, b2⟩ := h1.2.2.2.2.2.2.2.1 k15 bd tl ea
    have hx := h1.2.1
    have l7 := (h1.1.2.2.2.2.2.2.1 k15).2
    refine ⟨fun z hz => ⟨?_, (b1 z hz).2⟩, fun z hz => ?_⟩
    · obtain ⟨L', p1, p2, -⟩ := stN_sub h (z := z) (by rw [ea]; exact List.mem_cons_of_mem _ (List.mem_of_mem_take hz)) f (b1 z hz).1 (fun p hp => Or.inl hp)
      exact ⟨f, L', p1, p2⟩
    · obtain ⟨L', p1, p2, p3⟩ := stN_sub h (z := z) (sc' := gsc x T 0 (tl.take (A.2.2.2.2.2 x).length) ++ sc) (by
        rw [ea]
        rcases List.mem_append.mp hz with q | q
        · exact List.mem_cons_of_mem _ (List.mem_of_mem_drop q)
        · have : z = bd := by simpa using q
          simp [this]) f (b2 z hz) (fun p hp => by
        rcases List.mem_append.mp hp with q | q
        · obtain ⟨i, u, hu, ep⟩ := gsc_m _ _ _ q
          have hi := lt_of_get hu
          rw [List.length_take] at hi
          have e1 : p.1 = 210 + 4 * x + i := by rw [ep]; simp only; omega
          exact Or.inr ⟨⟨⟨by omega, by omega⟩, fun z => by omega, fun _ _ => by omega⟩, Or.inr ⟨by omega, by omega, by omega⟩⟩
        · exact Or.inl q)
      exact ⟨f, L', p1, p2, p3⟩
/-- less may be in scope -/
theorem stN_res {j f : Nat} {L : List Int} {I sc sc' : List (Int × Int)} {x : Int} (h : stN A D T B lev j f L (I ++ sc) x) (hk : ∀ y ∈ L, A.2.1 y = 1 → ∀ p ∈ sc, p.1 = B y → p ∈ sc') (hs : ∀ p ∈ sc', p ∈ sc) : stN A D T B lev j f L (I ++ sc') x := by
  obtain ⟨h1, h2, h3, h4, h5⟩ := h
  refine ⟨tyN_res f I sc sc' x L h1 h2 hk, h2, h3, h4, fun p hp => h5 p ?_⟩
  rcases List.mem_append.mp hp with q | q
  · exact List.mem_append_left _ q
  · exact List.mem_append_right _ (hs p q)
theorem stN_v {j f : Nat} {L : List Int} {sc : List (Int × Int)} {x : Int} (hA : A.1 ≤ 200) (h : stN A D T B lev j f L sc x) {y : Int} (hy : y ∈ L) (ky : A.2.1 y = 1) : ((B y, T y) ∈ sc ∧ ¬ insL L (B y)) ∨ insL L (B y) := by
  rcases tyN_v hA f sc x L h.1 h.2.1 y hy ky with q | q
  · exact Or.inl ⟨q, fun z => (h.2.2.2.2 _ q).2 (Or.inl z)⟩
  · exact Or.inr q
/-- the tree of a DEF that is called -/
theorem stN_call {σ : sg_S} {j f : Nat} {L : List Int} {sc : List (Int × Int)} {x r : Int} (hX : pgX σ A D T B) (hlv : lvP A D lev 0 r) (h : stN A D T B lev j f L sc x) (k13 : A.2.1 x = 13) (h12 : D.length ≤ 12) (h6 : ∀ (d : Nat) (y : aDf), D[d]? = some y → y.2.2.1.length ≤ 6) : ∃ (d : Nat) (y : aDf) (L' : List Int), B x = d ∧ D[d]? = some y ∧ d < j ∧ stN A D T B lev d 201 L' (scZ (kPe y) (kPb d 0 y.2.2.1 [])) y.2.2.2 ∧ (∀ b, ow lev d L' b → ow lev j L b) ∧ (A.2.2.2.2.1 x).map T = y.2.2.1.map (·.2.2) ∧ T x = T y.2.2.2 ∧ ∀ p ∈ scZ (kPe y) (kPb d 0 y.2.2.1 []), ∃ (k : Nat) (u : Int × Int × Int), y.2.2.1[k]? = some u ∧ p = (1100 + 6 * (d : Int) + (k : Int), u.2.2) := by
  obtain ⟨w1, w2, w3, w4, w5, w6⟩ := stN_w h
  have g := w5 (by omega)
  have gx := w6 k13
  rw [kTy_c k13] at g
  cases hd : kDef (kDl (D.take j) []) (A.2.2.2.1 x) with
  | none => rw [hd] at g; cases g
  | some v =>
    obtain ⟨d0, y, hy, ev⟩ := kD_at gx hd
    have dj : B x < j := by
      obtain ⟨q1, c, q2, q3⟩ := kDx_at _ _ _ _ gx hd
      have q4 := lt_of_get q2
      rw [List.length_reverse] at q4
      have : (kDl (D.take j) []).length = (D.take j).length := by
        have := congrArg List.length (kDl_rev (D.take j) [])
        simpa using this
      rw [this, List.length_take] at q4
      omega
    rw [hd] at g
    simp only at g
    rw [ev] at g
    obtain ⟨g1, g2, g3⟩ := kIs_in g
    obtain ⟨L', l1, l2, l3⟩ := hlv.1 (B x).toNat y hy
    have bd : B x = ((B x).toNat : Int) := by omega
    have dl := lt_of_get hy
    have ty := hX.2.2.2.2.2 (B x).toNat y hy
    have pr : ∀ p ∈ scZ (kPe y) (kPb ((B x).toNat : Int) 0 y.2.2.1 []), ∃ (k : Nat) (u : Int × Int × Int), y.2.2.1[k]? = some u ∧ p = (1100 + 6 * ((B x).toNat : Int) + k, u.2.2) := fun p hp => by
      have hp' : p ∈ scZ (y.2.2.1.reverse.map (fun p => (p.1, p.2.2)) ++ []) (kPb ((B x).toNat : Int) 0 y.2.2.1 []) := by rw [List.append_nil]; exact hp
      rcases scZ_p y.2.2.1 0 [] [] p hp' with ⟨k, u, a, b⟩ | q
      · exact ⟨k, u, a, by rw [b]; simp⟩
      · cases q
    refine ⟨(B x).toNat, y, L', bd, hy, by omega, ⟨ty, l1, l2, fun z hz => ⟨(l3 z hz).1, by have := (l3 z hz).2; omega⟩, fun p hp => ?_⟩, fun b hb => ow_d (by omega) (fun z hz => by have := (l3 z hz).2; omega) hb, ?_, ?_, pr⟩
    · obtain ⟨k, u, a, b⟩ := pr p hp
      have k6 := lt_of_get a
      have l6 := h6 _ _ hy
      have e1 : p.1 = 1100 + 6 * ((B x).toNat : Int) + k := by rw [b]
      refine ⟨⟨⟨by omega, by omega⟩, fun z => by omega, fun _ z => by omega⟩, fun o => ?_⟩
      rcases o with o | o | o | o
      · rcases o with o | o <;> omega
      · omega
      · omega
      · omega
    · have := g3
      simpa using this
    · exact g1
end FU
