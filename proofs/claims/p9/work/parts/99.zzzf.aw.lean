/-! lanes of what is worked out, and what is bound outside stays: an if. -/
section AWS
variable {A : aT} {D : List aDf} {T B : Int → Int} {lev : Int → Nat}
theorem fx_if {O : Int → Nat → List Int} {call : Int → Nat → fEv → fSt → fRs} {f j m : Nat} {L : List Int} {sc : List (Int × Int)} {n a c d : Int} (hA : A.1 ≤ 200) (hO : okO A B O) (ih : ∀ (x : Int) (L' : List Int) (sc' : List (Int × Int)), stN A D T B lev j f L' sc' x → ∀ (m : Nat) ρ s v s' ρ', (∀ p ∈ sc', (ρ p.1).length = m) → fxN A D T B O call f x m ρ s = .inr (v, s', ρ') → v.length = m ∧ ∀ b, ¬ ow lev j L' b → ρ' b = ρ b) (k3 : A.2.1 n = 3) (hk : A.2.2.2.2.1 n = [a, c, d]) (h : stN A D T B lev j (f + 1) L sc n) {ρ : fEv} {s s' : fSt} {v : List vaF} {ρ' : fEv} (hl : ∀ p ∈ sc, (ρ p.1).length = m) (e : fIfN (fxN A D T B O call f) (bTy A D T) (T n) (O n 1) (O n 2) a c d m ρ s = .inr (v, s', ρ')) : v.length = m ∧ ∀ b, ¬ ow lev j L b → ρ' b = ρ b := by
  have sw : ∀ p ∈ sc, ¬ ow lev j L p.1 := fun p hp => (h.2.2.2.2 p hp).2
  obtain ⟨La, ha, sa⟩ := stN_k h (by omega) (by omega) (z := a) (by rw [hk]; simp)
  obtain ⟨Lc, hc, sc1⟩ := stN_k h (by omega) (by omega) (z := c) (by rw [hk]; simp)
  obtain ⟨Ld, hd, sd⟩ := stN_k h (by omega) (by omega) (z := d) (by rw [hk]; simp)
  obtain ⟨pc, -⟩ := stN_p (L := L) (st := 1) hA hO k3 (Or.inl rfl) (by rw [hk]; rfl) hc
  obtain ⟨pd, -⟩ := stN_p (L := L) (st := 2) hA hO k3 (Or.inr rfl) (by rw [hk]; rfl) hd
  unfold fIfN at e
  cases e1 : fxN A D T B O call f a m ρ s with
  | inl w => rw [e1] at e; cases e
  | inr p =>
    obtain ⟨cv, s2, ρ2⟩ := p
    rw [e1] at e
    simp only at e
    obtain ⟨lc, kc⟩ := ih a La sc ha m ρ s cv s2 ρ2 hl e1
    have k2 : ∀ b, ¬ ow lev j L b → ρ2 b = ρ b := fun b hb => kc b (fun w => hb (ow_s sa w))
    cases e2 : fCa (bTy A D T) (fWh true cv) (O n 1) s2 ρ2 with
    | inl w => rw [e2] at e; cases e
    | inr p =>
      obtain ⟨s3, ρ3⟩ := p
      rw [e2] at e
      simp only at e
      have r3 := fCa_e ((hO n).1 1) e2
      cases e3 : fxN A D T B O call f c (fWh true cv).length ρ3 s3 with
      | inl w => rw [e3] at e; cases e
      | inr p =>
        obtain ⟨v1, s4, ρ4⟩ := p
        rw [e3] at e
        simp only at e
        obtain ⟨l1, k4⟩ := ih c Lc _ pc _ ρ3 s3 v1 s4 ρ4 (fun p hp => by
          have hm := (List.mem_filter.mp hp).2
          rw [decide_eq_true_eq] at hm
          rw [r3 p.1, if_pos hm, fPk_l]) e3
        have kb : ∀ b, ¬ ow lev j L b → fBk (O n 1) ρ2 ρ4 b = ρ b := fun b hb => by
          unfold fBk
          by_cases c1 : b ∈ O n 1
          · rw [if_pos c1]; exact k2 b hb
          · rw [if_neg c1, k4 b (fun w => hb (ow_s sc1 w)), r3 b, if_neg c1]; exact k2 b hb
        cases e4 : fCa (bTy A D T) (fWh false cv) (O n 2) s4 (fBk (O n 1) ρ2 ρ4) with
        | inl w => rw [e4] at e; cases e
        | inr p =>
          obtain ⟨s5, ρ5⟩ := p
          rw [e4] at e
          simp only at e
          have r5 := fCa_e ((hO n).1 2) e4
          cases e5 : fxN A D T B O call f d (fWh false cv).length ρ5 s5 with
          | inl w => rw [e5] at e; cases e
          | inr p =>
            obtain ⟨v2, s6, ρ6⟩ := p
            rw [e5] at e
            simp only at e
            obtain ⟨l2, k6⟩ := ih d Ld _ pd _ ρ5 s5 v2 s6 ρ6 (fun p hp => by
              have hm := (List.mem_filter.mp hp).2
              rw [decide_eq_true_eq] at hm
              rw [r5 p.1, if_pos hm, fPk_l]) e5
            cases e6 : fStp (exF (T n).toNat v1 + exF (T n).toNat v2) s6 with
            | none => rw [e6] at e; cases e
            | some s7 =>
              rw [e6] at e
              simp only [Sum.inr.injEq, Prod.mk.injEq] at e
              obtain ⟨rfl, -, rfl⟩ := e
              refine ⟨by rw [fMg_l]; exact lc, fun b hb => ?_⟩
              show (if b ∈ O n 2 then fBk (O n 1) ρ2 ρ4 b else ρ6 b) = ρ b
              by_cases c2 : b ∈ O n 2
              · rw [if_pos c2]; exact kb b hb
              · rw [if_neg c2, k6 b (fun w => hb (ow_s sd w)), r5 b, if_neg c2]; exact kb b hb
end AWS
