/-! lanes of what is worked out, and what is bound outside stays: a { }. -/
section AYS
variable {A : aT} {D : List aDf} {T B : Int → Int} {lev : Int → Nat}
theorem fx_each {O : Int → Nat → List Int} {call : Int → Nat → fEv → fSt → fRs} {f j m : Nat} {L : List Int} {sc : List (Int × Int)} {n bd : Int} {tl : List Int} (hA : A.1 ≤ 200) (hO : okO A B O) (ih : ∀ (x : Int) (L' : List Int) (sc' : List (Int × Int)), stN A D T B lev j f L' sc' x → ∀ (m : Nat) ρ s v s' ρ', (∀ p ∈ sc', (ρ p.1).length = m) → fxN A D T B O call f x m ρ s = .inr (v, s', ρ') → v.length = m ∧ ∀ b, ¬ ow lev j L' b → ρ' b = ρ b) (k15 : A.2.1 n = 15) (ea : A.2.2.2.2.1 n = bd :: tl) (h : stN A D T B lev j (f + 1) L sc n) {vs : List (List vaF)} {ρ2 : fEv} {s s' : fSt} {v : List vaF} {ρ' : fEv} (hv : vs.length = (A.2.2.2.2.2 n).length ∧ ∀ l ∈ vs, l.length = m) (e : fEbN (fxN A D T B O call f) (bTy A D T) n (O n 0) (O n 1) bd (tl.drop (A.2.2.2.2.2 n).length) m vs ρ2 s = .inr (v, s', ρ')) : v.length = m ∧ ∀ b, ¬ ow lev j L b → ρ' b = ρ2 b := by
  obtain ⟨g1, g2, g4, gt⟩ := ea_ts h.1.1 k15 ea
  have nL : n ∈ L := fT_sub h.2.1 _ (by simp)
  have n0 := (stN_w h).2.1
  have h0 : vs.getD 0 [] ∈ vs := by
    cases vs with
    | nil => simp at hv; omega
    | cons a r => simp
  have lnl : ((vs.getD 0 []).map (fun v => (itF v).length)).length = m := by rw [List.length_map]; exact hv.2 _ h0
  unfold fEbN at e
  by_cases c : (List.range m).any (fun i : Nat => vs.any (fun l => decide ((l.getD i (nmF 0)) [] ≠ ((vs.getD 0 []).getD i (nmF 0)) []))) = true
  · rw [if_pos c] at e; cases e
  rw [if_neg c] at e
  have hE := eaE_i.mp c
  clear c
  generalize hln : (vs.getD 0 []).map (fun v => (itF v).length) = ln at e lnl
  cases e2 : fCa (bTy A D T) (fRp m ln) (O n 0) s ρ2 with
  | inl w => rw [e2] at e; cases e
  | inr p =>
    obtain ⟨s3, ρ3⟩ := p
    rw [e2] at e
    simp only at e
    have r3 := fCa_e ((hO n).1 0) e2
    have ng : ∀ b, ¬ ow lev j L b → fUs ρ3 (210 + 4 * n) 0 (vs.map flF) b = ρ3 b := fun b hb => fUs_no (by
      rw [List.length_map, hv.1]
      by_cases q : b < 210 + 4 * n + (0 : Nat)
      · exact Or.inl q
      · right
        refine Decidable.byContradiction (fun q2 => hb (Or.inl (Or.inr ⟨by omega, by omega, ?_⟩)))
        rw [show (b - 210) / 4 = n by omega]; exact nL)
    have sc3 : ∀ p ∈ gsc n T 0 (tl.take (A.2.2.2.2.2 n).length) ++ sc.filter (fun p => decide (p.1 ∈ O n 0)), (fUs ρ3 (210 + 4 * n) 0 (vs.map flF) p.1).length = (fRp m ln).length := fun p hp => by
      rcases List.mem_append.mp hp with q | q
      · obtain ⟨i, u, hu, ep⟩ := gsc_m _ _ _ q
        have hi := lt_of_get hu
        rw [g2] at hi
        obtain ⟨w, hw⟩ : ∃ w, vs[i]? = some w := ⟨_, List.getElem?_eq_getElem (by omega)⟩
        have e1 : p.1 = 210 + 4 * n + ((0 : Nat) : Int) + (i : Int) := by rw [ep]; simp only; omega
        rw [e1, fUs_at (v := flF w) (by rw [List.getElem?_map, hw]; rfl), ← hln]
        exact eaE_l hE hv.2 (by omega) (List.mem_of_getElem? hw)
      · obtain ⟨q1, q2⟩ := List.mem_filter.mp q
        rw [decide_eq_true_eq] at q2
        rw [ng p.1 (h.2.2.2.2 p q1).2, r3 p.1, if_pos q2, fPk_l]
    have k3 : ∀ b, ¬ ow lev j L b → b ∉ O n 0 → fUs ρ3 (210 + 4 * n) 0 (vs.map flF) b = ρ2 b := fun b hb c => by rw [ng b hb, r3 b, if_neg c]
    rcases gt with et | ⟨t, et⟩
    · rw [et] at e
      simp only at e
      cases e3 : fxN A D T B O call f bd (fRp m ln).length (fUs ρ3 (210 + 4 * n) 0 (vs.map flF)) s3 with
      | inl w => rw [e3] at e; cases e
      | inr p =>
        obtain ⟨v1, s4, ρ5⟩ := p
        rw [e3] at e
        simp only [Sum.inr.injEq, Prod.mk.injEq] at e
        obtain ⟨rfl, -, rfl⟩ := e
        obtain ⟨Lb, hb, sb, -⟩ := stN_b0 hA hO h k15 ea (z := bd) (by simp)
        obtain ⟨l1, kb⟩ := ih bd Lb _ hb _ _ _ _ _ _ sc3 e3
        refine ⟨by rw [fCt_l]; exact lnl, fun b nb => ?_⟩
        show (if b ∈ O n 0 then ρ2 b else ρ5 b) = ρ2 b
        by_cases c : b ∈ O n 0
        · rw [if_pos c]
        · rw [if_neg c, kb b (fun w => nb (ow_s sb w)), k3 b nb c]
    · rw [et] at e
      simp only at e
      obtain ⟨Lt, ht, st, -⟩ := stN_b0 hA hO h k15 ea (z := t) (by rw [et]; simp)
      obtain ⟨Lb, hb, sb, -⟩ := stN_b0 hA hO h k15 ea (z := bd) (by simp)
      have hb1 := stN_b1 hO k15 ea (by rw [et]; exact ht.2.1) hb
      cases e3 : fxN A D T B O call f t (fRp m ln).length (fUs ρ3 (210 + 4 * n) 0 (vs.map flF)) s3 with
      | inl w => rw [e3] at e; cases e
      | inr p =>
        obtain ⟨c1, s4, ρ5⟩ := p
        rw [e3] at e
        simp only at e
        obtain ⟨l1, kt⟩ := ih t Lt _ ht _ _ _ _ _ _ sc3 e3
        cases e4 : fCa (bTy A D T) (fWh true c1) (O n 1) s4 ρ5 with
        | inl w => rw [e4] at e; cases e
        | inr p =>
          obtain ⟨s5, ρ6⟩ := p
          rw [e4] at e
          simp only at e
          have r6 := fCa_e ((hO n).1 1) e4
          cases e5 : fStp (m : Int) s5 with
          | none => rw [e5] at e; cases e
          | some s6 =>
            rw [e5] at e
            simp only at e
            cases e6 : fxN A D T B O call f bd (fWh true c1).length ρ6 s6 with
            | inl w => rw [e6] at e; cases e
            | inr p =>
              obtain ⟨v1, s7, ρ7⟩ := p
              rw [e6] at e
              simp only [Sum.inr.injEq, Prod.mk.injEq] at e
              obtain ⟨rfl, -, rfl⟩ := e
              obtain ⟨l2, k7⟩ := ih bd Lb _ hb1 _ _ _ _ _ _ (fun p hp => by
                have hm := (List.mem_filter.mp hp).2
                rw [decide_eq_true_eq] at hm
                rw [r6 p.1, if_pos hm, fPk_l]) e6
              refine ⟨by rw [fCt_l, List.length_map, fCt_l]; exact lnl, fun b nb => ?_⟩
              show (if b ∈ O n 0 then ρ2 b else if b ∈ O n 1 then ρ5 b else ρ7 b) = ρ2 b
              have k5 : ρ5 b = fUs ρ3 (210 + 4 * n) 0 (vs.map flF) b := kt b (fun w => nb (ow_s st w))
              by_cases c : b ∈ O n 0
              · rw [if_pos c]
              · rw [if_neg c]
                by_cases c2 : b ∈ O n 1
                · rw [if_pos c2, k5, k3 b nb c]
                · rw [if_neg c2, k7 b (fun w => nb (ow_s sb w)), r6 b, if_neg c2, k5, k3 b nb c]
end AYS
