/-! parts of a node with their fuel; parts one after another: lanes, and what is bound outside stays. -/
section AUS
variable {A : aT} {D : List aDf} {T B : Int → Int} {lev : Int → Nat}
theorem stN_k {j f : Nat} {L : List Int} {sc : List (Int × Int)} {x z : Int} (h : stN A D T B lev j (f + 1) L sc x) (k2 : ¬ A.2.1 x = 2) (k15 : ¬ A.2.1 x = 15) (hz : z ∈ A.2.2.2.2.1 x) : ∃ L', stN A D T B lev j f L' sc z ∧ ∀ y ∈ L', y ∈ L := by
  obtain ⟨L', a, b, -⟩ := stN_sub h hz f (h.1.2.2.2.2.2.2.2.2 k2 k15 z hz) (fun p hp => Or.inl hp)
  exact ⟨L', a, b⟩
theorem stN_l {j f : Nat} {L : List Int} {sc : List (Int × Int)} {x a c : Int} (hA : A.1 ≤ 200) (h : stN A D T B lev j (f + 1) L sc x) (k2 : A.2.1 x = 2) (ea : A.2.2.2.2.1 x = [a, c]) : (∃ L', stN A D T B lev j f L' sc a ∧ ∀ y ∈ L', y ∈ L) ∧ ∃ L', stN A D T B lev j f L' ((x, T a) :: sc) c ∧ ∀ y ∈ L', y ∈ L := by
  have h1 := h.1
  obtain ⟨b1, b2⟩ := h1.2.2.2.2.2.2.1 k2 a c ea
  have hx := h1.2.1
  obtain ⟨L', p1, p2, -⟩ := stN_sub h (z := a) (by rw [ea]; simp) f b1 (fun p hp => Or.inl hp)
  obtain ⟨L2, q1, q2, -⟩ := stN_sub h (z := c) (sc' := (x, T a) :: sc) (by rw [ea]; simp) f b2 (fun p hp => by
    rcases List.mem_cons.mp hp with e | e
    · rw [e]; exact Or.inr ⟨⟨⟨hx.1, by simp only; omega⟩, fun _ => hx.2, fun z => by simp only at z; omega⟩, Or.inl ⟨rfl, by simp only; omega⟩⟩
    · exact Or.inl e)
  exact ⟨⟨L', p1, p2⟩, L2, q1, q2⟩
/-- which variables are carried along: those of a part that are bound outside of it -/
def okO (A : aT) (B : Int → Int) (O : Int → Nat → List Int) : Prop := ∀ n, (∀ st, (O n st).Nodup) ∧ (A.2.1 n = 3 → ∀ (st : Nat) (x : Int) (L : List Int), (st = 1 ∨ st = 2) → (A.2.2.2.2.1 n)[st]? = some x → fT A [x] L → ∀ z, z ∈ O n st ↔ ∃ y ∈ L, A.2.1 y = 1 ∧ B y = z ∧ ¬ insL L z) ∧ (A.2.1 n = 15 → ∀ (bd : Int) (tl Lb Lt : List Int), A.2.2.2.2.1 n = bd :: tl → fT A [bd] Lb → fT A (tl.drop (A.2.2.2.2.2 n).length) Lt → (∀ z, z ∈ O n 0 ↔ ∃ y ∈ Lb ++ Lt, A.2.1 y = 1 ∧ B y = z ∧ ¬ insL (Lb ++ Lt) z ∧ ¬ isG n z) ∧ ∀ z, z ∈ O n 1 ↔ ∃ y ∈ Lb, A.2.1 y = 1 ∧ B y = z ∧ ¬ insL Lb z)
theorem fx_sq {O : Int → Nat → List Int} {call : Int → Nat → fEv → fSt → fRs} {f j m : Nat} {L : List Int} {sc : List (Int × Int)} (ih : ∀ (x : Int) (L' : List Int), stN A D T B lev j f L' sc x → ∀ ρ s v s' ρ', (∀ p ∈ sc, (ρ p.1).length = m) → fxN A D T B O call f x m ρ s = .inr (v, s', ρ') → v.length = m ∧ ∀ b, ¬ ow lev j L' b → ρ' b = ρ b) : ∀ (R : List Int), (∀ x ∈ R, ∃ L', stN A D T B lev j f L' sc x ∧ ∀ y ∈ L', y ∈ L) → (∀ p ∈ sc, ¬ ow lev j L p.1) → ∀ ρ s vs s' ρ', (∀ p ∈ sc, (ρ p.1).length = m) → fSq (fun x => fxN A D T B O call f x m) R ρ s = .inr (vs, s', ρ') → vs.length = R.length ∧ (∀ l ∈ vs, l.length = m) ∧ ∀ b, ¬ ow lev j L b → ρ' b = ρ b
  | [], hR, hs, ρ, s, vs, s', ρ', hl, h => by
    simp only [fSq, Sum.inr.injEq, Prod.mk.injEq] at h
    obtain ⟨rfl, -, rfl⟩ := h
    exact ⟨rfl, fun l hl => (by cases hl), fun b _ => rfl⟩
  | x :: R, hR, hs, ρ, s, vs, s', ρ', hl, h => by
    simp only [fSq] at h
    cases e1 : fxN A D T B O call f x m ρ s with
    | inl e => rw [e1] at h; cases h
    | inr p =>
      obtain ⟨v, s1, ρ1⟩ := p
      rw [e1] at h
      simp only at h
      cases e2 : fSq (fun x => fxN A D T B O call f x m) R ρ1 s1 with
      | inl e => rw [e2] at h; cases h
      | inr p2 =>
        obtain ⟨vs1, s2, ρ2⟩ := p2
        rw [e2] at h
        simp only [Sum.inr.injEq, Prod.mk.injEq] at h
        obtain ⟨rfl, rfl, rfl⟩ := h
        obtain ⟨L', hx, sub⟩ := hR x (by simp)
        obtain ⟨lv, kv⟩ := ih x L' hx ρ s v s1 ρ1 hl e1
        have kp : ∀ b, ¬ ow lev j L b → ρ1 b = ρ b := fun b hb => kv b (fun w => hb (ow_s sub w))
        obtain ⟨a1, a2, a3⟩ := fx_sq ih R (fun y hy => hR y (by simp [hy])) hs ρ1 s1 _ _ _ (fun p hp => by rw [kp p.1 (hs p hp)]; exact hl p hp) e2
        refine ⟨by rw [List.length_cons, List.length_cons, a1], fun l hl' => ?_, fun b hb => (a3 b hb).trans (kp b hb)⟩
        rcases List.mem_cons.mp hl' with q | q
        · rw [q]; exact lv
        · exact a2 l q
end AUS
