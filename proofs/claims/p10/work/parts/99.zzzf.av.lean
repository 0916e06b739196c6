/-! parts of a { } with their fuel; lanes of an if. -/
section AVS
variable {A : aT} {D : List aDf} {T B : Int → Int} {lev : Int → Nat}
theorem stN_e {j f : Nat} {L : List Int} {sc : List (Int × Int)} {x bd : Int} {tl : List Int} (hA : A.1 ≤ 200) (h : stN A D T B lev j (f + 1) L sc x) (k15 : A.2.1 x = 15) (ea : A.2.2.2.2.1 x = bd :: tl) : (∀ z ∈ tl.take (A.2.2.2.2.2 x).length, (∃ L', stN A D T B lev j f L' sc z ∧ ∀ y ∈ L', y ∈ L) ∧ 0 < T z) ∧ ∀ z ∈ tl.drop (A.2.2.2.2.2 x).length ++ [bd], ∃ L', stN A D T B lev j f L' (gsc x T 0 (tl.take (A.2.2.2.2.2 x).length) ++ sc) z ∧ (∀ y ∈ L', y ∈ L) ∧ x ∉ L' := by
  have h1 := h.1
  obtain ⟨b1, b2⟩ := h1.2.2.2.2.2.2.2.1 k15 bd tl ea
  have hx := h1.2.1
  have l7 := (h1.1.2.2.2.2.2.2.1 k15).2
  refine ⟨fun z hz => ⟨?_, (b1 z hz).2⟩, fun z hz => ?_⟩
  · obtain ⟨L', p1, p2, -⟩ := stN_sub h (z := z) (by rw [ea]; exact List.mem_cons_of_mem _ (List.mem_of_mem_take hz)) f (b1 z hz).1 (fun p hp => Or.inl hp)
    exact ⟨L', p1, p2⟩
  · obtain ⟨L', p1, p2, p3⟩ := stN_sub h (z := z) (sc' := gsc x T 0 (tl.take (A.2.2.2.2.2 x).length) ++ sc) (by
      rw [ea]
      rcases List.mem_append.mp hz with q | q
      · exact List.mem_cons_of_mem _ (List.mem_of_mem_drop q)
      · have : z = bd := by simpa using q
        simp [this]) f (b2 z hz) (fun p hp => by
      rcases List.mem_append.mp hp with q | q
      · obtain ⟨i, u, hu, ep⟩ := gsc_m _ _ _ q
        have hi := lt_of_get hu
        rw [List.length_take] at hi
        have e1 : p.1 = 210 + 4 * x + i := by rw [ep]; simp only; omega
        exact Or.inr ⟨⟨⟨by omega, by omega⟩, fun z => by omega, fun _ _ => by omega⟩, Or.inr ⟨by omega, by omega, by omega⟩⟩
      · exact Or.inl q)
    exact ⟨L', p1, p2, p3⟩
/-- the scope of a part of an if: what is carried along -/
theorem stN_p {O : Int → Nat → List Int} {j f : Nat} {L Lx : List Int} {sc : List (Int × Int)} {n x : Int} {st : Nat} (hA : A.1 ≤ 200) (hO : okO A B O) (k3 : A.2.1 n = 3) (hst : st = 1 ∨ st = 2) (hk : (A.2.2.2.2.1 n)[st]? = some x) (h : stN A D T B lev j f Lx sc x) : stN A D T B lev j f Lx (sc.filter (fun p => decide (p.1 ∈ O n st))) x ∧ ∀ z ∈ O n st, ∃ p ∈ sc, p.1 = z := by
  have ho := (hO n).2.1 k3 st x Lx hst hk h.2.1
  refine ⟨?_, fun z hz => ?_⟩
  · have r := stN_res (I := []) (sc := sc) (sc' := sc.filter (fun p => decide (p.1 ∈ O n st))) h (fun y hy ky p hp e => ?_) (fun p hp => (List.mem_filter.mp hp).1)
    · exact r
    · refine List.mem_filter.mpr ⟨hp, ?_⟩
      rw [decide_eq_true_eq]
      exact (ho p.1).mpr ⟨y, hy, ky, e.symm, fun q => (h.2.2.2.2 p hp).2 (Or.inl q)⟩
  · obtain ⟨y, y1, y2, y3, y4⟩ := (ho z).mp hz
    rcases stN_v hA h y1 y2 with ⟨q, -⟩ | q
    · exact ⟨_, q, y3⟩
    · rw [y3] at q; exact absurd q y4
end AVS
/-! lanes of what is worked out, and what is bound outside stays: an if. -/
section AWS
variable {A : aT} {D : List aDf} {T B : Int → Int} {lev : Int → Nat}
theorem fx_if {O : Int → Nat → List Int} {call : Int → Nat → fEv → fSt → fRs} {f j m : Nat} {L : List Int} {sc : List (Int × Int)} {n a c d : Int} (hA : A.1 ≤ 200) (hO : okO A B O) (ih : ∀ (x : Int) (L' : List Int) (sc' : List (Int × Int)), stN A D T B lev j f L' sc' x → ∀ (m : Nat) ρ s v s' ρ', (∀ p ∈ sc', (ρ p.1).length = m) → fxN A D T B O call f x m ρ s = .inr (v, s', ρ') → v.length = m ∧ ∀ b, ¬ ow lev j L' b → ρ' b = ρ b) (k3 : A.2.1 n = 3) (hk : A.2.2.2.2.1 n = [a, c, d]) (h : stN A D T B lev j (f + 1) L sc n) {ρ : fEv} {s s' : fSt} {v : List vaF} {ρ' : fEv} (hl : ∀ p ∈ sc, (ρ p.1).length = m) (e : fIfN (fxN A D T B O call f) (bTy A D T) (T n) (O n 1) (O n 2) a c d m ρ s = .inr (v, s', ρ')) : v.length = m ∧ ∀ b, ¬ ow lev j L b → ρ' b = ρ b := by
  have sw : ∀ p ∈ sc, ¬ ow lev j L p.1 := fun p hp => (h.2.2.2.2 p hp).2
  obtain ⟨La, ha, sa⟩ := stN_k h (by omega) (by omega) (z := a) (by rw [hk]; simp)
  obtain ⟨Lc, hc, sc1⟩ := stN_k h (by omega) (by omega) (z := c) (by rw [hk]; simp)
  obtain ⟨Ld, hd, sd⟩ := stN_k h (by omega) (by omega) (z := d) (by rw [hk]; simp)
  obtain ⟨pc, -⟩ := stN_p (L := L) (st := 1) hA hO k3 (Or.inl rfl) (by rw [hk]; rfl) hc
  obtain ⟨pd, -⟩ := stN_p (L := L) (st := 2) hA hO k3 (Or.inr rfl) (by rw [hk]; rfl) hd
  unfold fIfN at e
  cases e1 : fxN A D T B O call f a m ρ s with
  | inl w => rw [e1] at e; cases e
  | inr p =>
    obtain ⟨cv, s2, ρ2⟩ := p
    rw [e1] at e
    simp only at e
    obtain ⟨lc, kc⟩ := ih a La sc ha m ρ s cv s2 ρ2 hl e1
    have k2 : ∀ b, ¬ ow lev j L b → ρ2 b = ρ b := fun b hb => kc b (fun w => hb (ow_s sa w))
    cases e2 : fCa (bTy A D T) (fWh true cv) (O n 1) s2 ρ2 with
    | inl w => rw [e2] at e; cases e
    | inr p =>
      obtain ⟨s3, ρ3⟩ := p
      rw [e2] at e
      simp only at e
      have r3 := fCa_e ((hO n).1 1) e2
      cases e3 : fxN A D T B O call f c (fWh true cv).length ρ3 s3 with
      | inl w => rw [e3] at e; cases e
      | inr p =>
        obtain ⟨v1, s4, ρ4⟩ := p
        rw [e3] at e
        simp only at e
        obtain ⟨l1, k4⟩ := ih c Lc _ pc _ ρ3 s3 v1 s4 ρ4 (fun p hp => by
          have hm := (List.mem_filter.mp hp).2
          rw [decide_eq_true_eq] at hm
          rw [r3 p.1, if_pos hm, fPk_l]) e3
        have kb : ∀ b, ¬ ow lev j L b → fBk (O n 1) ρ2 ρ4 b = ρ b := fun b hb => by
          unfold fBk
          by_cases c1 : b ∈ O n 1
          · rw [if_pos c1]; exact k2 b hb
          · rw [if_neg c1, k4 b (fun w => hb (ow_s sc1 w)), r3 b, if_neg c1]; exact k2 b hb
        cases e4 : fCa (bTy A D T) (fWh false cv) (O n 2) s4 (fBk (O n 1) ρ2 ρ4) with
        | inl w => rw [e4] at e; cases e
        | inr p =>
          obtain ⟨s5, ρ5⟩ := p
          rw [e4] at e
          simp only at e
          have r5 := fCa_e ((hO n).1 2) e4
          cases e5 : fxN A D T B O call f d (fWh false cv).length ρ5 s5 with
          | inl w => rw [e5] at e; cases e
          | inr p =>
            obtain ⟨v2, s6, ρ6⟩ := p
            rw [e5] at e
            simp only at e
            obtain ⟨l2, k6⟩ := ih d Ld _ pd _ ρ5 s5 v2 s6 ρ6 (fun p hp => by
              have hm := (List.mem_filter.mp hp).2
              rw [decide_eq_true_eq] at hm
              rw [r5 p.1, if_pos hm, fPk_l]) e5
            cases e6 : fStp (exF (T n).toNat v1 + exF (T n).toNat v2) s6 with
            | none => rw [e6] at e; cases e
            | some s7 =>
              rw [e6] at e
              simp only [Sum.inr.injEq, Prod.mk.injEq] at e
              obtain ⟨rfl, -, rfl⟩ := e
              refine ⟨by rw [fMg_l]; exact lc, fun b hb => ?_⟩
              show (if b ∈ O n 2 then fBk (O n 1) ρ2 ρ4 b else ρ6 b) = ρ b
              by_cases c2 : b ∈ O n 2
              · rw [if_pos c2]; exact kb b hb
              · rw [if_neg c2, k6 b (fun w => hb (ow_s sd w)), r5 b, if_neg c2]; exact kb b hb
end AWS
/-! parts of a { }: scopes, lanes, and what is bound outside stays. -/
section AXS
variable {A : aT} {D : List aDf} {T B : Int → Int} {lev : Int → Nat}
theorem ea_ts {n bd : Int} {tl : List Int} (nw : nW A n) (k15 : A.2.1 n = 15) (ea : A.2.2.2.2.1 n = bd :: tl) : 1 ≤ (A.2.2.2.2.2 n).length ∧ (tl.take (A.2.2.2.2.2 n).length).length = (A.2.2.2.2.2 n).length ∧ (A.2.2.2.2.2 n).length ≤ 4 ∧ (tl.drop (A.2.2.2.2.2 n).length = [] ∨ ∃ t, tl.drop (A.2.2.2.2.2 n).length = [t]) := by
  have g := nw.2.2.2.2.2.2.1 k15
  have g1 := nw.2.2.2.2.2.2.2.2 k15
  rw [ea, List.length_cons] at g
  have ld : (tl.drop (A.2.2.2.2.2 n).length).length = tl.length - (A.2.2.2.2.2 n).length := List.length_drop
  refine ⟨g1, by rw [List.length_take]; omega, g.2, ?_⟩
  match e : tl.drop (A.2.2.2.2.2 n).length with
  | [] => exact Or.inl rfl
  | [t] => exact Or.inr ⟨t, rfl⟩
  | a :: b :: r =>
    rw [e] at ld
    simp only [List.length_cons] at ld
    omega
/-- the scope of the parts of a { }: GENS, and what is carried along -/
theorem stN_b0 {O : Int → Nat → List Int} {j f : Nat} {L : List Int} {sc : List (Int × Int)} {n bd : Int} {tl : List Int} (hA : A.1 ≤ 200) (hO : okO A B O) (h : stN A D T B lev j (f + 1) L sc n) (k15 : A.2.1 n = 15) (ea : A.2.2.2.2.1 n = bd :: tl) {z : Int} (hz : z ∈ tl.drop (A.2.2.2.2.2 n).length ++ [bd]) : ∃ L', stN A D T B lev j f L' (gsc n T 0 (tl.take (A.2.2.2.2.2 n).length) ++ sc.filter (fun p => decide (p.1 ∈ O n 0))) z ∧ (∀ y ∈ L', y ∈ L) ∧ n ∉ L' := by
  have nL : n ∈ L := fT_sub h.2.1 _ (by simp)
  obtain ⟨-, g2⟩ := stN_e hA h k15 ea
  obtain ⟨Lb, hb, sb, -⟩ := g2 bd (by simp)
  obtain ⟨Lt, ht, st, hin⟩ : ∃ Lt, fT A (tl.drop (A.2.2.2.2.2 n).length) Lt ∧ (∀ y ∈ Lt, y ∈ L) ∧ ∀ t ∈ tl.drop (A.2.2.2.2.2 n).length, ∀ Lz, fT A [t] Lz → ∀ y ∈ Lz, y ∈ Lt := by
    rcases (ea_ts h.1.1 k15 ea).2.2.2 with e | ⟨t, e⟩
    · rw [e]; exact ⟨[], fT_z A, fun y hy => (by cases hy), fun t ht => (by cases ht)⟩
    · obtain ⟨Lt, ht, st, -⟩ := g2 t (by rw [e]; simp)
      rw [e]
      refine ⟨Lt, ht.2.1, st, fun t' ht' Lz hLz y hy => ?_⟩
      have : t' = t := by simpa using ht'
      rw [this] at hLz
      rw [← fT_det hLz ht.2.1]; exact hy
  obtain ⟨L', hz', sz, nz⟩ := g2 z hz
  have ho := ((hO n).2.2 k15 bd tl Lb Lt ea hb.2.1 ht).1
  refine ⟨L', stN_res (I := gsc n T 0 (tl.take (A.2.2.2.2.2 n).length)) (sc := sc) (sc' := sc.filter (fun p => decide (p.1 ∈ O n 0))) hz' (fun y hy ky p hp e => ?_) (fun p hp => (List.mem_filter.mp hp).1), sz, nz⟩
  refine List.mem_filter.mpr ⟨hp, ?_⟩
  rw [decide_eq_true_eq]
  have now := (h.2.2.2.2 p hp).2
  refine (ho p.1).mpr ⟨y, ?_, ky, e.symm, fun q => now (Or.inl ?_), fun q => now (Or.inl (Or.inr ⟨q.2.1, q.2.2.1, by rw [q.2.2.2]; exact nL⟩))⟩
  · rcases List.mem_append.mp hz with q | q
    · exact List.mem_append_right _ (hin z q L' hz'.2.1 y hy)
    · have ez : z = bd := by simpa using q
      rw [ez] at hz'
      rw [fT_det hz'.2.1 hb.2.1] at hy
      exact List.mem_append_left _ hy
  · have sub : ∀ y ∈ Lb ++ Lt, y ∈ L := fun y hy => (List.mem_append.mp hy).elim (sb y) (st y)
    rcases q with ⟨q1, q2⟩ | ⟨q1, q2, q3⟩
    · exact Or.inl ⟨q1, sub _ q2⟩
    · exact Or.inr ⟨q1, q2, sub _ q3⟩
/-- the scope of the body behind its test -/
theorem stN_b1 {O : Int → Nat → List Int} {j f : Nat} {L' : List Int} {sc : List (Int × Int)} {n bd : Int} {tl Lt : List Int} (hO : okO A B O) (k15 : A.2.1 n = 15) (ea : A.2.2.2.2.1 n = bd :: tl) (ht : fT A (tl.drop (A.2.2.2.2.2 n).length) Lt) (h : stN A D T B lev j f L' sc bd) : stN A D T B lev j f L' (sc.filter (fun p => decide (p.1 ∈ O n 1))) bd := by
  have ho := ((hO n).2.2 k15 bd tl L' Lt ea h.2.1 ht).2
  have r := stN_res (I := []) (sc := sc) (sc' := sc.filter (fun p => decide (p.1 ∈ O n 1))) h (fun y hy ky p hp e => ?_) (fun p hp => (List.mem_filter.mp hp).1)
  · exact r
  · refine List.mem_filter.mpr ⟨hp, ?_⟩
    rw [decide_eq_true_eq]
    exact (ho p.1).mpr ⟨y, hy, ky, e.symm, fun q => (h.2.2.2.2 p hp).2 (Or.inl q)⟩
end AXS
theorem rg_D (l : List Nat) : (List.range l.length).map (fun i => l.getD i 0) = l := by
  apply List.ext_getElem?
  intro i
  rw [List.getElem?_map]
  rcases Nat.lt_or_ge i l.length with q | q
  · rw [List.getElem?_range q, Option.map_some, List.getD_eq_getElem?_getD, List.getElem?_eq_getElem q]; rfl
  · rw [List.getElem?_eq_none (by rw [List.length_range]; exact q), List.getElem?_eq_none q]; rfl
theorem fRp_l {m : Nat} {ln : List Nat} (h : ln.length = m) : (fRp m ln).length = ln.sum := by
  unfold fRp
  rw [List.length_flatten, List.map_map, ← h]
  have e : (List.length ∘ fun i : Nat => List.replicate (ln.getD i 0) i) = fun i : Nat => ln.getD i 0 := by
    funext i
    simp only [Function.comp, List.length_replicate]
  rw [e, rg_D]
theorem flF_l (l : List vaF) : (flF l).length = (l.map (fun v => (itF v).length)).sum := by
  unfold flF
  rw [List.length_flatten, List.map_map]
  rfl
/-- GENS are as long in each lane -/
def eaE (m : Nat) (vs : List (List vaF)) : Prop := ∀ i : Nat, i < m → ∀ l ∈ vs, (l.getD i (nmF 0)) [] = ((vs.getD 0 []).getD i (nmF 0)) []
theorem eaE_i {m : Nat} {vs : List (List vaF)} : ¬ (List.range m).any (fun i : Nat => vs.any (fun l => decide ((l.getD i (nmF 0)) [] ≠ ((vs.getD 0 []).getD i (nmF 0)) []))) = true ↔ eaE m vs := by
  simp only [List.any_eq_true, List.mem_range, decide_eq_true_eq]
  refine ⟨fun h i hi l hl => Decidable.byContradiction (fun c => h ⟨i, hi, l, hl, c⟩), fun h ⟨i, hi, l, hl, c⟩ => c (h i hi l hl)⟩
theorem eaE_m {m : Nat} {vs : List (List vaF)} (h : eaE m vs) (hl : ∀ l ∈ vs, l.length = m) (h1 : 1 ≤ vs.length) {l : List vaF} (hm : l ∈ vs) : l.map (fun v => (itF v).length) = (vs.getD 0 []).map (fun v => (itF v).length) := by
  have h0 : vs.getD 0 [] ∈ vs := by
    cases vs with
    | nil => simp at h1
    | cons a r => simp
  have e1 := hl l hm
  have e0 := hl _ h0
  apply List.ext_getElem?
  intro i
  rw [List.getElem?_map, List.getElem?_map]
  rcases Nat.lt_or_ge i m with q | q
  · rw [gD_i (by omega : i < l.length), gD_i (by omega : i < (vs.getD 0 []).length)]
    simp only [Option.map_some, itF_l, h i q l hm]
  · rw [List.getElem?_eq_none (by omega), List.getElem?_eq_none (by omega)]
theorem eaE_l {m : Nat} {vs : List (List vaF)} (h : eaE m vs) (hl : ∀ l ∈ vs, l.length = m) (h1 : 1 ≤ vs.length) {l : List vaF} (hm : l ∈ vs) : (flF l).length = (fRp m ((vs.getD 0 []).map (fun v => (itF v).length))).length := by
  have h0 : vs.getD 0 [] ∈ vs := by
    cases vs with
    | nil => simp at h1
    | cons a r => simp
  rw [fRp_l (by rw [List.length_map]; exact hl _ h0), flF_l, eaE_m h hl h1 hm]
/-! lanes of what is worked out, and what is bound outside stays: a { }. -/
section AYS
variable {A : aT} {D : List aDf} {T B : Int → Int} {lev : Int → Nat}
theorem fx_each {O : Int → Nat → List Int} {call : Int → Nat → fEv → fSt → fRs} {f j m : Nat} {L : List Int} {sc : List (Int × Int)} {n bd : Int} {tl : List Int} (hA : A.1 ≤ 200) (hO : okO A B O) (ih : ∀ (x : Int) (L' : List Int) (sc' : List (Int × Int)), stN A D T B lev j f L' sc' x → ∀ (m : Nat) ρ s v s' ρ', (∀ p ∈ sc', (ρ p.1).length = m) → fxN A D T B O call f x m ρ s = .inr (v, s', ρ') → v.length = m ∧ ∀ b, ¬ ow lev j L' b → ρ' b = ρ b) (k15 : A.2.1 n = 15) (ea : A.2.2.2.2.1 n = bd :: tl) (h : stN A D T B lev j (f + 1) L sc n) {vs : List (List vaF)} {ρ2 : fEv} {s s' : fSt} {v : List vaF} {ρ' : fEv} (hv : vs.length = (A.2.2.2.2.2 n).length ∧ ∀ l ∈ vs, l.length = m) (e : fEbN (fxN A D T B O call f) (bTy A D T) n (O n 0) (O n 1) bd (tl.drop (A.2.2.2.2.2 n).length) m vs ρ2 s = .inr (v, s', ρ')) : v.length = m ∧ ∀ b, ¬ ow lev j L b → ρ' b = ρ2 b := by
  obtain ⟨g1, g2, g4, gt⟩ := ea_ts h.1.1 k15 ea
  have nL : n ∈ L := fT_sub h.2.1 _ (by simp)
  have n0 := (stN_w h).2.1
  have h0 : vs.getD 0 [] ∈ vs := by
    cases vs with
    | nil => simp at hv; omega
    | cons a r => simp
  have lnl : ((vs.getD 0 []).map (fun v => (itF v).length)).length = m := by rw [List.length_map]; exact hv.2 _ h0
  unfold fEbN at e
  by_cases c : (List.range m).any (fun i : Nat => vs.any (fun l => decide ((l.getD i (nmF 0)) [] ≠ ((vs.getD 0 []).getD i (nmF 0)) []))) = true
  · rw [if_pos c] at e; cases e
  rw [if_neg c] at e
  have hE := eaE_i.mp c
  clear c
  generalize hln : (vs.getD 0 []).map (fun v => (itF v).length) = ln at e lnl
  cases e2 : fCa (bTy A D T) (fRp m ln) (O n 0) s ρ2 with
  | inl w => rw [e2] at e; cases e
  | inr p =>
    obtain ⟨s3, ρ3⟩ := p
    rw [e2] at e
    simp only at e
    have r3 := fCa_e ((hO n).1 0) e2
    have ng : ∀ b, ¬ ow lev j L b → fUs ρ3 (210 + 4 * n) 0 (vs.map flF) b = ρ3 b := fun b hb => fUs_no (by
      rw [List.length_map, hv.1]
      by_cases q : b < 210 + 4 * n + (0 : Nat)
      · exact Or.inl q
      · right
        refine Decidable.byContradiction (fun q2 => hb (Or.inl (Or.inr ⟨by omega, by omega, ?_⟩)))
        rw [show (b - 210) / 4 = n by omega]; exact nL)
    have sc3 : ∀ p ∈ gsc n T 0 (tl.take (A.2.2.2.2.2 n).length) ++ sc.filter (fun p => decide (p.1 ∈ O n 0)), (fUs ρ3 (210 + 4 * n) 0 (vs.map flF) p.1).length = (fRp m ln).length := fun p hp => by
      rcases List.mem_append.mp hp with q | q
      · obtain ⟨i, u, hu, ep⟩ := gsc_m _ _ _ q
        have hi := lt_of_get hu
        rw [g2] at hi
        obtain ⟨w, hw⟩ : ∃ w, vs[i]? = some w := ⟨_, List.getElem?_eq_getElem (by omega)⟩
        have e1 : p.1 = 210 + 4 * n + ((0 : Nat) : Int) + (i : Int) := by rw [ep]; simp only; omega
        rw [e1, fUs_at (v := flF w) (by rw [List.getElem?_map, hw]; rfl), ← hln]
        exact eaE_l hE hv.2 (by omega) (List.mem_of_getElem? hw)
      · obtain ⟨q1, q2⟩ := List.mem_filter.mp q
        rw [decide_eq_true_eq] at q2
        rw [ng p.1 (h.2.2.2.2 p q1).2, r3 p.1, if_pos q2, fPk_l]
    have k3 : ∀ b, ¬ ow lev j L b → b ∉ O n 0 → fUs ρ3 (210 + 4 * n) 0 (vs.map flF) b = ρ2 b := fun b hb c => by rw [ng b hb, r3 b, if_neg c]
    rcases gt with et | ⟨t, et⟩
    · rw [et] at e
      simp only at e
      cases e3 : fxN A D T B O call f bd (fRp m ln).length (fUs ρ3 (210 + 4 * n) 0 (vs.map flF)) s3 with
      | inl w => rw [e3] at e; cases e
      | inr p =>
        obtain ⟨v1, s4, ρ5⟩ := p
        rw [e3] at e
        simp only [Sum.inr.injEq, Prod.mk.injEq] at e
        obtain ⟨rfl, -, rfl⟩ := e
        obtain ⟨Lb, hb, sb, -⟩ := stN_b0 hA hO h k15 ea (z := bd) (by simp)
        obtain ⟨l1, kb⟩ := ih bd Lb _ hb _ _ _ _ _ _ sc3 e3
        refine ⟨by rw [fCt_l]; exact lnl, fun b nb => ?_⟩
        show (if b ∈ O n 0 then ρ2 b else ρ5 b) = ρ2 b
        by_cases c : b ∈ O n 0
        · rw [if_pos c]
        · rw [if_neg c, kb b (fun w => nb (ow_s sb w)), k3 b nb c]
    · rw [et] at e
      simp only at e
      obtain ⟨Lt, ht, st, -⟩ := stN_b0 hA hO h k15 ea (z := t) (by rw [et]; simp)
      obtain ⟨Lb, hb, sb, -⟩ := stN_b0 hA hO h k15 ea (z := bd) (by simp)
      have hb1 := stN_b1 hO k15 ea (by rw [et]; exact ht.2.1) hb
      cases e3 : fxN A D T B O call f t (fRp m ln).length (fUs ρ3 (210 + 4 * n) 0 (vs.map flF)) s3 with
      | inl w => rw [e3] at e; cases e
      | inr p =>
        obtain ⟨c1, s4, ρ5⟩ := p
        rw [e3] at e
        simp only at e
        obtain ⟨l1, kt⟩ := ih t Lt _ ht _ _ _ _ _ _ sc3 e3
        cases e4 : fCa (bTy A D T) (fWh true c1) (O n 1) s4 ρ5 with
        | inl w => rw [e4] at e; cases e
        | inr p =>
          obtain ⟨s5, ρ6⟩ := p
          rw [e4] at e
          simp only at e
          have r6 := fCa_e ((hO n).1 1) e4
          cases e5 : fStp (m : Int) s5 with
          | none => rw [e5] at e; cases e
          | some s6 =>
            rw [e5] at e
            simp only at e
            cases e6 : fxN A D T B O call f bd (fWh true c1).length ρ6 s6 with
            | inl w => rw [e6] at e; cases e
            | inr p =>
              obtain ⟨v1, s7, ρ7⟩ := p
              rw [e6] at e
              simp only [Sum.inr.injEq, Prod.mk.injEq] at e
              obtain ⟨rfl, -, rfl⟩ := e
              obtain ⟨l2, k7⟩ := ih bd Lb _ hb1 _ _ _ _ _ _ (fun p hp => by
                have hm := (List.mem_filter.mp hp).2
                rw [decide_eq_true_eq] at hm
                rw [r6 p.1, if_pos hm, fPk_l]) e6
              refine ⟨by rw [fCt_l, List.length_map, fCt_l]; exact lnl, fun b nb => ?_⟩
              show (if b ∈ O n 0 then ρ2 b else if b ∈ O n 1 then ρ5 b else ρ7 b) = ρ2 b
              have k5 : ρ5 b = fUs ρ3 (210 + 4 * n) 0 (vs.map flF) b := kt b (fun w => nb (ow_s st w))
              by_cases c : b ∈ O n 0
              · rw [if_pos c]
              · rw [if_neg c]
                by_cases c2 : b ∈ O n 1
                · rw [if_pos c2, k5, k3 b nb c]
                · rw [if_neg c2, k7 b (fun w => nb (ow_s sb w)), r6 b, if_neg c2, k5, k3 b nb c]
end AYS
/-! lanes of what is worked out, and what is bound outside stays: all nodes. -/
section AZS
variable {A : aT} {D : List aDf} {T B : Int → Int} {lev : Int → Nat}
theorem fOl_l (k ty x : Int) (vs : List (List vaF)) (n : Nat) : ((fOl k ty x vs n).map fOv).length = n := by unfold fOl; rw [List.length_map, List.length_map, List.length_range]
/-- DEFS below j keep lanes -/
def cOk (A : aT) (D : List aDf) (T B : Int → Int) (lev : Int → Nat) (j : Nat) (call : Int → Nat → fEv → fSt → fRs) : Prop := ∀ (d : Nat) (y : aDf) (L' : List Int), D[d]? = some y → d < j → stN A D T B lev d 201 L' (scZ (kPe y) (kPb d 0 y.2.2.1 [])) y.2.2.2 → ∀ (m : Nat) ρ s v s' ρ', (∀ p ∈ scZ (kPe y) (kPb d 0 y.2.2.1 []), (ρ p.1).length = m) → call (d : Int) m ρ s = .inr (v, s', ρ') → v.length = m ∧ ∀ b, ¬ ow lev d L' b → ρ' b = ρ b
theorem fx_ok {σ : sg_S} {r : Int} {O : Int → Nat → List Int} {call : Int → Nat → fEv → fSt → fRs} {j : Nat} (hX : pgX σ A D T B) (hlv : lvP A D lev 0 r) (hO : okO A B O) (hc : cOk A D T B lev j call) : ∀ (f : Nat) (n : Int) (L : List Int) (sc : List (Int × Int)), stN A D T B lev j f L sc n → ∀ (m : Nat) ρ s v s' ρ', (∀ p ∈ sc, (ρ p.1).length = m) → fxN A D T B O call f n m ρ s = .inr (v, s', ρ') → v.length = m ∧ ∀ b, ¬ ow lev j L b → ρ' b = ρ b
  | 0, n, L, sc, h, m, ρ, s, v, s', ρ', hl, e => h.1.elim
  | f + 1, n, L, sc, h, m, ρ, s, v, s', ρ', hl, e => by
    have hA := hX.2.2.2.2.1
    have hD := hX.2.1
    have ih := fx_ok hX hlv hO hc f
    obtain ⟨w1, w2, w3, w4, w5, w6⟩ := stN_w h
    have sw : ∀ p ∈ sc, ¬ ow lev j L p.1 := fun p hp => (h.2.2.2.2 p hp).2
    have nL : n ∈ L := fT_sub h.2.1 _ (by simp)
    have sq : ∀ (R : List Int), (∀ x ∈ R, ∃ L', stN A D T B lev j f L' sc x ∧ ∀ y ∈ L', y ∈ L) → ∀ s1 vs s2 ρ2, fSq (fun x => fxN A D T B O call f x m) R ρ s1 = .inr (vs, s2, ρ2) → vs.length = R.length ∧ (∀ l ∈ vs, l.length = m) ∧ ∀ b, ¬ ow lev j L b → ρ2 b = ρ b := fun R hR s1 vs s2 ρ2 es => fx_sq (fun x L' hx ρ s v s' ρ' => ih x L' sc hx m ρ s v s' ρ') R hR sw ρ s1 vs s2 ρ2 hl es
    simp only [fxN] at e
    cases eb : fBg m s with
    | none => rw [eb] at e; cases e
    | some s1 =>
      rw [eb] at e
      simp only at e
      by_cases k1 : A.2.1 n = 1
      · rw [if_pos k1] at e
        simp only [Sum.inr.injEq, Prod.mk.injEq] at e
        obtain ⟨rfl, -, rfl⟩ := e
        exact ⟨hl _ (w4 k1), fun b _ => rfl⟩
      rw [if_neg k1] at e
      by_cases k2 : A.2.1 n = 2
      · rw [if_pos k2] at e
        obtain ⟨a, c, ea⟩ := kid2 (w1.2.2.1 (Or.inl k2))
        rw [ea] at e
        simp only [List.getD_cons_zero, List.getD_cons_succ] at e
        obtain ⟨⟨La, ha, sa⟩, Lc, hc', sc'⟩ := stN_l hA h k2 ea
        cases e1 : fxN A D T B O call f a m ρ s1 with
        | inl w => rw [e1] at e; cases e
        | inr p =>
          obtain ⟨v1, s2, ρ2⟩ := p
          rw [e1] at e
          simp only at e
          obtain ⟨l1, kp⟩ := ih a La sc ha m ρ s1 v1 s2 ρ2 hl e1
          have kp' : ∀ b, ¬ ow lev j L b → ρ2 b = ρ b := fun b hb => kp b (fun w => hb (ow_s sa w))
          have nb : ∀ b, ¬ ow lev j L b → ¬ b = n := fun b hb q => hb (Or.inl (Or.inl ⟨by omega, by rw [q]; exact nL⟩))
          obtain ⟨l2, kq⟩ := ih c Lc _ hc' m _ s2 v s' ρ' (fun p hp => by
            rcases List.mem_cons.mp hp with q | q
            · rw [q]; simp only [if_true]; exact l1
            · rw [if_neg (nb _ (sw p q)), kp' _ (sw p q)]; exact hl p q) e
          exact ⟨l2, fun b hb => by rw [kq b (fun w => hb (ow_s sc' w)), if_neg (nb b hb)]; exact kp' b hb⟩
      rw [if_neg k2] at e
      by_cases k3 : A.2.1 n = 3
      · rw [if_pos k3] at e
        have l3 := w1.2.2.2.1 k3
        obtain ⟨a, c, d, ea⟩ : ∃ a c d, A.2.2.2.2.1 n = [a, c, d] := by
          match e : A.2.2.2.2.1 n, l3 with
          | [a, c, d], _ => exact ⟨a, c, d, rfl⟩
        rw [ea] at e
        simp only [List.getD_cons_zero, List.getD_cons_succ] at e
        exact fx_if hA hO ih k3 ea h hl e
      rw [if_neg k3] at e
      by_cases k13 : A.2.1 n = 13
      · rw [if_pos k13] at e
        cases es : fSq (fun x => fxN A D T B O call f x m) (A.2.2.2.2.1 n) ρ s1 with
        | inl w => rw [es] at e; cases e
        | inr p =>
          obtain ⟨vs, s2, ρ2⟩ := p
          rw [es] at e
          simp only at e
          obtain ⟨q1, q2, q3⟩ := sq _ (fun x hx => stN_k h (by omega) (by omega) hx) s1 vs s2 ρ2 es
          have hD6 : ∀ (d : Nat) (y : aDf), D[d]? = some y → y.2.2.1.length ≤ 6 := fun d y hy => (hD.2.2 d y hy).2.2.2.2.1
          obtain ⟨d, y, L', ed, hy, dj, hst, how, hty, hTy, hsc⟩ := stN_call hX hlv h k13 hD.2.1 hD6
          have k6 := hD6 d y hy
          have klen : (A.2.2.2.2.1 n).length = y.2.2.1.length := by
            have := congrArg List.length hty
            simpa using this
          rw [ed] at e
          obtain ⟨l2, kq⟩ := hc d y L' hy dj hst m _ s2 v s' ρ' (fun p hp => by
            obtain ⟨i, u, hu, ep⟩ := hsc p hp
            have hi := lt_of_get hu
            obtain ⟨w, hw⟩ : ∃ w, vs[i]? = some w := ⟨_, List.getElem?_eq_getElem (by omega)⟩
            rw [ep]
            simp only
            rw [show (1100 : Int) + 6 * (d : Int) + (i : Int) = 1100 + 6 * (d : Int) + ((0 : Nat) : Int) + (i : Int) by omega, fUs_at hw]
            exact q2 w (List.mem_of_getElem? hw)) e
          refine ⟨l2, fun b hb => ?_⟩
          rw [kq b (fun w => hb (how b w)), fUs_no]
          · exact q3 b hb
          · by_cases q : b < 1100 + 6 * (d : Int) + ((0 : Nat) : Int)
            · exact Or.inl q
            · right
              refine Decidable.byContradiction (fun q2 => hb (Or.inr (Or.inr (Or.inr ⟨by omega, by omega⟩))))
      rw [if_neg k13] at e
      by_cases k15 : A.2.1 n = 15
      · rw [if_pos k15] at e
        cases es : fSq (fun x => fxN A D T B O call f x m) (kGs A n) ρ s1 with
        | inl w => rw [es] at e; cases e
        | inr p =>
          obtain ⟨vs, s2, ρ2⟩ := p
          rw [es] at e
          simp only at e
          have g := (w1.2.2.2.2.2.2.1 k15).1
          obtain ⟨bd, tl, ea⟩ : ∃ bd tl, A.2.2.2.2.1 n = bd :: tl := by
            cases e : A.2.2.2.2.1 n with
            | nil => rw [e] at g; simp at g; omega
            | cons bd tl => exact ⟨bd, tl, rfl⟩
          have eg : kGs A n = tl.take (A.2.2.2.2.2 n).length := by unfold kGs; rw [ea]; rfl
          have ed : (A.2.2.2.2.1 n).drop (1 + (A.2.2.2.2.2 n).length) = tl.drop (A.2.2.2.2.2 n).length := by rw [ea, Nat.add_comm]; rfl
          obtain ⟨q1, q2, q3⟩ := sq _ (fun x hx => ((stN_e hA h k15 ea).1 x (by rw [← eg]; exact hx)).1) s1 vs s2 ρ2 es
          rw [ed, ea] at e
          simp only [List.getD_cons_zero] at e
          obtain ⟨l2, kq⟩ := fx_each hA hO ih k15 ea h ⟨by rw [q1, eg]; exact (ea_ts w1 k15 ea).2.1, q2⟩ e
          exact ⟨l2, fun b hb => (kq b hb).trans (q3 b hb)⟩
      rw [if_neg k15] at e
      cases es : fSq (fun x => fxN A D T B O call f x m) (A.2.2.2.2.1 n) ρ s1 with
      | inl w => rw [es] at e; cases e
      | inr p =>
        obtain ⟨vs, s2, ρ2⟩ := p
        rw [es] at e
        simp only at e
        obtain ⟨q1, q2, q3⟩ := sq _ (fun x hx => stN_k h k2 k15 hx) s1 vs s2 ρ2 es
        unfold fWk at e
        cases ef : fStp (exF (T n).toNat ((fOl (A.2.1 n) (T n) (sg_n (A.2.2.2.1 n)) vs m).map fOv)) s2 with
        | none => rw [ef] at e; cases e
        | some s3 =>
          rw [ef] at e
          simp only at e
          by_cases c0 : fOe (fOl (A.2.1 n) (T n) (sg_n (A.2.2.2.1 n)) vs m) = 0
          · rw [if_pos c0] at e
            simp only [Sum.inr.injEq, Prod.mk.injEq] at e
            obtain ⟨rfl, -, rfl⟩ := e
            exact ⟨fOl_l _ _ _ _ _, q3⟩
          · rw [if_neg c0] at e; cases e
/-- DEFS -/
theorem fxC_ok {σ : sg_S} {r : Int} {O : Int → Nat → List Int} (hX : pgX σ A D T B) (hlv : lvP A D lev 0 r) (hO : okO A B O) : ∀ j : Nat, cOk A D T B lev j (fxC A D T B O j) := by
  have key : ∀ (k : Nat) (j : Nat), j ≤ k → cOk A D T B lev j (fxC A D T B O j) := by
    intro k
    induction k with
    | zero =>
      intro j hj d y L' hy dj
      omega
    | succ k ih =>
      intro j hj d y L' hy dj hst m ρ s v s' ρ' hl e
      rw [fxC_e A D T B O j d dj] at e
      have ey : (D.getD d (0, 0, [], 0)).2.2.2 = y.2.2.2 := by rw [List.getD_eq_getElem?_getD, hy]; rfl
      rw [ey] at e
      exact fx_ok hX hlv hO (ih d (by omega)) 201 y.2.2.2 L' _ hst m ρ s v s' ρ' hl e
  exact fun j => key j j (Nat.le_refl _)
end AZS
/-! which variables are carried along: outsider, gatherOutside of the reference, exactly. -/
/-- where a new one is put in: behind all that came before it -/
def poO (c : Int → Int) (b : Int) (O : List Int) : Nat → Nat
  | 0 => 0
  | n + 1 => if c b < c (O.getD n 0) then poO c b O n else n + 1
def insO (c : Int → Int) (b : Int) (O : List Int) : List Int := if b ∈ O then O else O.take (poO c b O O.length) ++ b :: O.drop (poO c b O O.length)
noncomputable def gaO (A : aT) (B c : Int → Int) (L : List Int) (but : Int) : Nat → List Int
  | 0 => []
  | v + 1 => @ite _ ((v : Int) ∈ L ∧ A.2.1 v = 1 ∧ ¬ insL L (B v) ∧ ¬ isG but (B v)) (Classical.propDecidable _) (insO c (B v) (gaO A B c L but v)) (gaO A B c L but v)
theorem poO_l (c : Int → Int) (b : Int) (O : List Int) : ∀ n : Nat, poO c b O n ≤ n
  | 0 => Nat.le_refl _
  | n + 1 => by
    simp only [poO]
    have := poO_l c b O n
    split <;> omega
theorem insO_m {c : Int → Int} {b : Int} {O : List Int} : ∀ z, z ∈ insO c b O ↔ z = b ∨ z ∈ O := by
  intro z
  unfold insO
  by_cases h : b ∈ O
  · rw [if_pos h]
    exact ⟨fun w => Or.inr w, fun w => w.elim (fun e => by rw [e]; exact h) id⟩
  · rw [if_neg h]
    have pm := List.perm_middle (l₁ := O.take (poO c b O O.length)) (a := b) (l₂ := O.drop (poO c b O O.length))
    rw [List.take_append_drop] at pm
    rw [pm.mem_iff, List.mem_cons]
theorem insO_n {c : Int → Int} {b : Int} {O : List Int} (h : O.Nodup) : (insO c b O).Nodup := by
  unfold insO
  by_cases hb : b ∈ O
  · rw [if_pos hb]; exact h
  · rw [if_neg hb]
    have pm := List.perm_middle (l₁ := O.take (poO c b O O.length)) (a := b) (l₂ := O.drop (poO c b O O.length))
    rw [List.take_append_drop] at pm
    exact pm.nodup_iff.mpr (List.nodup_cons.mpr ⟨hb, h⟩)
theorem insO_l {c : Int → Int} {b : Int} {O : List Int} : (insO c b O).length ≤ O.length + 1 := by
  unfold insO
  by_cases hb : b ∈ O
  · rw [if_pos hb]; omega
  · rw [if_neg hb]
    have pm := List.perm_middle (l₁ := O.take (poO c b O O.length)) (a := b) (l₂ := O.drop (poO c b O O.length))
    rw [List.take_append_drop] at pm
    rw [pm.length_eq, List.length_cons]
    omega
section GAO
variable {A : aT} {B c : Int → Int} {L : List Int} {but : Int}
theorem gaO_m : ∀ (v : Nat) (z : Int), z ∈ gaO A B c L but v ↔ ∃ y, (0 ≤ y ∧ y < (v : Int)) ∧ y ∈ L ∧ A.2.1 y = 1 ∧ B y = z ∧ ¬ insL L z ∧ ¬ isG but z
  | 0, z => ⟨fun h => (by cases h), fun ⟨y, hy, _⟩ => by omega⟩
  | v + 1, z => by
    have ih := gaO_m v z
    simp only [gaO]
    by_cases h : (v : Int) ∈ L ∧ A.2.1 v = 1 ∧ ¬ insL L (B v) ∧ ¬ isG but (B v)
    · rw [if_pos h, insO_m]
      refine ⟨fun w => ?_, fun ⟨y, y1, y2⟩ => ?_⟩
      · rcases w with w | w
        · exact ⟨v, ⟨by omega, by omega⟩, h.1, h.2.1, w.symm, by rw [w]; exact h.2.2.1, by rw [w]; exact h.2.2.2⟩
        · obtain ⟨y, y1, y2⟩ := ih.mp w
          exact ⟨y, ⟨y1.1, by omega⟩, y2⟩
      · by_cases e : y = (v : Int)
        · left; rw [← y2.2.2.1, e]
        · exact Or.inr (ih.mpr ⟨y, ⟨y1.1, by omega⟩, y2⟩)
    · rw [if_neg h]
      refine ⟨fun w => ?_, fun ⟨y, y1, y2⟩ => ?_⟩
      · obtain ⟨y, y1, y2⟩ := ih.mp w
        exact ⟨y, ⟨y1.1, by omega⟩, y2⟩
      · by_cases e : y = (v : Int)
        · rw [e] at y2
          exact absurd ⟨y2.1, y2.2.1, by rw [y2.2.2.1]; exact y2.2.2.2.1, by rw [y2.2.2.1]; exact y2.2.2.2.2⟩ h
        · exact ih.mpr ⟨y, ⟨y1.1, by omega⟩, y2⟩
theorem gaO_n : ∀ v : Nat, (gaO A B c L but v).Nodup
  | 0 => List.nodup_nil
  | v + 1 => by
    simp only [gaO]
    split
    · exact insO_n (gaO_n v)
    · exact gaO_n v
theorem gaO_l : ∀ v : Nat, (gaO A B c L but v).length ≤ v
  | 0 => Nat.le_refl _
  | v + 1 => by
    have := gaO_l v
    simp only [gaO]
    split
    · have := insO_l (c := c) (b := B v) (O := gaO A B c L but v)
      omega
    · omega
end GAO
section BAS
variable {A : aT} {σ : sg_S}
theorem m_outsiderX {b : Int} {O : List Int} {c : Int → Int} {Q : sg_S → Prop} (hc : ∀ x, sg_g σ 116 x = c x) (h : oR σ O) (hl : O.length ≤ 250) (hb : 0 ≤ b ∧ b < 1200) (k : ∀ σ', oR σ' (insO c b O) → Q σ') : V_outsider σ b Q := by
  obtain ⟨h1, h2, h3, h4⟩ := h
  unfold V_outsider
  rw [h1]
  refine ⟨fun n v => n = (O.length - v).toNat ∧ (0 ≤ v ∧ v ≤ O.length) ∧ ∀ (i : Nat) (x : Int), O[i]? = some x → (i : Int) < v → ¬ x = b, b ∉ O, ⟨_, rfl, ⟨by omega, by omega⟩, fun i x _ z => by omega⟩, ?_, fun nb => ?_⟩
  · rintro n v rv ⟨en, hv, hn⟩
    refine ⟨fun z w => ?_, fun z => ⟨⟨by omega, by omega⟩, fun c => ⟨⟨by omega, by omega⟩, _, by omega, rfl, ⟨by omega, by omega⟩, fun i x hx hi => ?_⟩, fun c => k σ ?_⟩⟩
    · obtain ⟨i, hi⟩ := List.mem_iff_getElem?.mp w
      exact hn i b hi (by have := lt_of_get hi; omega) rfl
    · by_cases e : (i : Int) = v
      · intro e2
        have := h2 i x hx
        rw [e] at this
        exact c (by rw [this]; exact e2)
      · exact hn i x hx (by omega)
    · have : b ∈ O := by
        obtain ⟨x, hx⟩ : ∃ q, O[v.toNat]? = some q := ⟨_, List.getElem?_eq_getElem (by omega)⟩
        have := h2 v.toNat x hx
        rw [show ((v.toNat : Nat) : Int) = v by omega, c] at this
        rw [this]
        exact List.mem_of_getElem? hx
      unfold insO
      rw [if_pos this]
      exact ⟨h1, h2, h3, h4⟩
  · have ox : ∀ i : Nat, i < O.length → ∃ x, O[i]? = some x ∧ sg_g σ 119 i = x ∧ 0 ≤ x ∧ x < 1200 := fun i hi => by
      obtain ⟨x, hx⟩ : ∃ q, O[i]? = some q := ⟨_, List.getElem?_eq_getElem hi⟩
      exact ⟨x, hx, h2 i x hx, h4 x (List.mem_of_getElem? hx)⟩
    let J : Int → sg_S → Prop := fun at_ σ' => (0 ≤ at_ ∧ at_ ≤ O.length) ∧ (∀ (i : Nat) (x : Int), O[i]? = some x → (i : Int) < at_ → sg_g σ' 119 i = x) ∧ (∀ (i : Nat) (x : Int), O[i]? = some x → at_ ≤ (i : Int) → sg_g σ' 119 (i + 1) = x) ∧ poO c b O O.length = poO c b O at_.toNat
    have shift : ∀ (at_ : Int) (σ1 σ2 : sg_S), J at_ σ1 → 0 < at_ → c b < c (O.getD (at_ - 1).toNat 0) → σ2 = sg_w σ1 119 at_ (sg_g σ1 119 (at_ - 1)) → J (at_ + -1) σ2 := fun at_ σ1 σ2 hJ h0 hc e => by
      obtain ⟨j1, j2, j3, j4⟩ := hJ
      refine ⟨⟨by omega, by omega⟩, fun i x hx hi => ?_, fun i x hx hi => ?_, ?_⟩
      · rw [e, sg_gw_k _ _ _ _ _ _ (by omega)]; exact j2 i x hx (by omega)
      · by_cases c : (i : Int) + 1 = at_
        · rw [c, e, sg_gw_e _ _ _ _ (sg_Rg _ _ _), show at_ - 1 = (i : Int) by omega]
          exact j2 i x hx (by omega)
        · rw [e, sg_gw_k _ _ _ _ _ _ c]; exact j3 i x hx (by omega)
      · rw [j4, show at_.toNat = (at_ - 1).toNat + 1 by omega]
        simp only [poO]
        rw [if_pos hc]
        rfl
    have J0 : J O.length σ := ⟨⟨by omega, by omega⟩, fun i x hx _ => h2 i x hx, fun i x hx hi => by have := lt_of_get hx; omega, by rw [Int.toNat_natCast]⟩
    have stop : ∀ (at_ : Int) (σ' : sg_S), J at_ σ' → (0 < at_ → ¬ c b < c (O.getD (at_ - 1).toNat 0)) → at_ = (poO c b O O.length : Nat) := fun at_ σ' hJ hs => by
      obtain ⟨j1, j2, j3, j4⟩ := hJ
      rw [j4]
      by_cases z : 0 < at_
      · rw [show at_.toNat = (at_ - 1).toNat + 1 by omega]
        simp only [poO]
        rw [if_neg (hs z)]
        omega
      · rw [show at_.toNat = 0 by omega]
        simp only [poO]
        omega
    refine ⟨fun at_ σ' => J at_ σ' ∧ at_ = (poO c b O O.length : Nat), ⟨fun z => ⟨J0, stop _ _ J0 (fun z2 => by omega)⟩, fun z => ?_⟩, fun at_ σ5 ra f5 ⟨hJ, hat⟩ => ?_⟩
    · obtain ⟨x, x1, x2, x3⟩ := ox (O.length - 1) (by omega)
      have lt : sg_g σ 119 ((O.length : Int) - 1) = x := by rw [← x2]; congr 1; omega
      have gx : O.getD ((O.length : Int) - 1).toNat 0 = x := by rw [List.getD_eq_getElem?_getD, show ((O.length : Int) - 1).toNat = O.length - 1 by omega, x1]; rfl
      refine ⟨⟨by omega, by omega⟩, ⟨by omega, by omega⟩, by rw [lt]; exact x3, hb, fun w => ⟨J0, stop _ _ J0 (fun _ => ?_)⟩, fun w => ⟨⟨by omega, by omega⟩, fun σ6 e6 => ⟨⟨by omega, by omega⟩, fun n at_ σ7 => n = at_.toNat ∧ J at_ σ7, ⟨_, rfl, shift _ _ _ J0 z ?_ e6⟩, ?_⟩⟩⟩
      · rw [lt, hc, hc] at w
        rw [gx]; omega
      · rw [lt, hc, hc] at w
        rw [gx]; exact w
      rintro n at_ σ7 ra f7 ⟨en, hJ⟩
      refine ⟨fun w => ⟨hJ, stop _ _ hJ (fun z2 => by omega)⟩, fun cz => ?_⟩
      have hJ1 := hJ.1
      obtain ⟨y, y1, y2, y3⟩ := ox (at_ - 1).toNat (by omega)
      have ly : sg_g σ7 119 (at_ - 1) = y := by
        have := hJ.2.1 _ y y1 (by omega)
        rwa [show (((at_ - 1).toNat : Nat) : Int) = at_ - 1 by omega] at this
      have gy : O.getD (at_ - 1).toNat 0 = y := by rw [List.getD_eq_getElem?_getD, y1]; rfl
      refine ⟨⟨by omega, by omega⟩, ⟨by omega, by omega⟩, by rw [ly]; exact y3, fun w => ⟨hJ, stop _ _ hJ (fun _ => ?_)⟩, fun w => ⟨⟨by omega, by omega⟩, fun σ8 e8 => ⟨⟨by omega, by omega⟩, _, by omega, rfl, shift _ _ _ hJ cz ?_ e8⟩⟩⟩
      · rw [ly, hc, hc] at w
        rw [gy]; omega
      · rw [ly, hc, hc] at w
        rw [gy]; exact w
    · obtain ⟨j1, j2, j3, j4⟩ := hJ
      refine ⟨⟨by omega, by omega⟩, fun σ6 e6 => ⟨⟨by omega, by omega⟩, fun σ7 e7 => ?_⟩⟩
      have ep : poO c b O O.length = at_.toNat := by omega
      have io : insO c b O = O.take at_.toNat ++ b :: O.drop at_.toNat := by unfold insO; rw [if_neg nb, ep]
      have pm : (O.take at_.toNat ++ b :: O.drop at_.toNat).Perm (b :: O) := by
        have := List.perm_middle (l₁ := O.take at_.toNat) (a := b) (l₂ := O.drop at_.toNat)
        rwa [List.take_append_drop] at this
      have lt : (O.take at_.toNat).length = at_.toNat := by rw [List.length_take]; omega
      refine k σ7 ?_
      rw [io]
      refine ⟨?_, fun i x hx => ?_, ?_, fun x hx => ?_⟩
      · rw [pm.length_eq, e7, sg_gw_e _ _ _ _ ⟨by omega, by omega⟩]; simp
      · have c7 : sg_g σ7 119 i = sg_g σ6 119 i := by rw [e7, sg_gw_c _ _ _ _ _ _ (by decide)]
        rw [c7]
        by_cases c : i < at_.toNat
        · rw [List.getElem?_append_left (by omega), List.getElem?_take_of_lt c] at hx
          rw [e6, sg_gw_k _ _ _ _ _ _ (by omega)]
          exact j2 i x hx (by omega)
        · rw [List.getElem?_append_right (by omega), lt] at hx
          by_cases c2 : i = at_.toNat
          · rw [show i - at_.toNat = 0 by omega] at hx
            cases hx
            rw [e6, show (i : Int) = at_ by omega, sg_gw_e _ _ _ _ ⟨by omega, by omega⟩]
          · rw [show i - at_.toNat = (i - at_.toNat - 1) + 1 by omega, List.getElem?_cons_succ, List.getElem?_drop, show at_.toNat + (i - at_.toNat - 1) = i - 1 by omega] at hx
            have := j3 (i - 1) x hx (by omega)
            rw [e6, sg_gw_k _ _ _ _ _ _ (by omega)]
            rwa [show (((i - 1 : Nat) : Int) + 1) = (i : Int) by omega] at this
      · exact pm.nodup_iff.mpr (List.nodup_cons.mpr ⟨nb, h3⟩)
      · have := pm.mem_iff.mp hx
        rcases List.mem_cons.mp this with e | e
        · rw [e]; exact hb
        · exact h4 x e
def gOx (A : aT) (L : List Int) (B c : Int → Int) (but v : Int) (σ : sg_S) : Prop := oR σ (gaO A B c L but v.toNat)
theorem m_gatherX {but : Int} {L : List Int} {B c : Int → Int} {Q : sg_S → Prop} (hP : trT σ A) (eB : ∀ n, sg_g σ 102 n = B n) (hc : ∀ x, sg_g σ 116 x = c x) (hA : A.1 ≤ 200) (h0 : sg_g σ 88 46 = 0) (hi : iM σ A L) (hL : ∀ y ∈ L, A.2.1 y = 1 → rb A (B y)) (k : ∀ σ', oR σ' (gaO A B c L but A.1.toNat) → sg_F [119, 47088] σ σ' → Q σ') : V_gatherOutside σ but Q := by
  have h8 : sg_g σ 88 8 = A.1 := hP.1.1
  unfold V_gatherOutside
  rw [h8]
  have a0 : 0 ≤ A.1 := hP.1.2.1
  refine ⟨fun n v σ2 => n = (A.1 - v).toNat ∧ (0 ≤ v ∧ v ≤ A.1) ∧ gOx A L B c but v σ2, fun σ2 => gOx A L B c but A.1 σ2, ⟨_, rfl, ⟨by omega, by omega⟩, h0, fun i x h => (by cases h), List.nodup_nil, fun x h => (by cases h)⟩, ?_, fun σ2 f2 o1 => k σ2 o1 f2⟩
  rintro n v σ2 rv f2 ⟨en, hv, o1⟩
  refine ⟨fun z => by rw [show A.1 = v by omega]; exact o1, fun z => ?_⟩
  obtain ⟨t1, -⟩ := tr_k hP (n := v) ⟨hv.1, z⟩
  rw [t1, eB]
  have hM := hi v hv.1 z
  have vn : (v + 1).toNat = v.toNat + 1 := by omega
  have ev : ((v.toNat : Nat) : Int) = v := by omega
  have same : (¬ (v ∈ L ∧ A.2.1 v = 1 ∧ ¬ insL L (B v) ∧ ¬ isG but (B v))) → gOx A L B c but (v + 1) σ2 := fun hn => by
    unfold gOx
    rw [vn]
    simp only [gaO]
    rw [ev, if_neg hn]
    exact o1
  refine ⟨⟨by omega, by omega⟩, fun σ3 => gOx A L B c but (v + 1) σ3, ⟨fun c0 => same (fun h => by rw [hM.1 h.1] at c0; omega), fun c0 => ⟨fun c2 => same (fun h => c2 h.2.1), fun c2 => ?_⟩⟩, fun σ3 f3 h3 => ⟨⟨by omega, by omega⟩, _, by omega, rfl, ⟨by omega, by omega⟩, h3⟩⟩
  have vL : v ∈ L := Decidable.byContradiction (fun w => c0 (hM.2 w))
  obtain ⟨b1, b2, b3⟩ := hL v vL c2
  obtain ⟨b, hb⟩ : ∃ b, b = B v := ⟨_, rfl⟩
  rw [← hb] at b1 b2 b3 ⊢
  have cell : ∀ j, sg_g σ2 120 j = sg_g σ 120 j := fun j => sg_F_ga f2 rfl
  have go : ∀ q27 : Int, (q27 = 0 ↔ ¬ insL L b) → ((¬ q27 = 0 → gOx A L B c but (v + 1) σ2) ∧ (q27 = 0 → ((but < 0 → True) ∧ (0 ≤ but → ((b < 210 → True) ∧ (210 ≤ b → ((1100 ≤ b → True) ∧ (b < 1100 → sg_R (b - 210) ∧ ((¬ (sg_i (b - 210) / sg_i 4).toInt = but → True) ∧ ((sg_i (b - 210) / sg_i 4).toInt = but → True)))))))) ∧ ∀ v36 : Int, v36 = (if but < 0 then (0 : Int) else (if b < 210 then (0 : Int) else (if 1100 ≤ b then (0 : Int) else (if ¬ (sg_i (b - 210) / sg_i 4).toInt = but then (0 : Int) else (1 : Int))))) → sg_R v36 → ((¬ v36 = 0 → gOx A L B c but (v + 1) σ2) ∧ (v36 = 0 → V_outsider σ2 b (fun σ41 => sg_F [119, 47088] σ2 σ41 → gOx A L B c but (v + 1) σ41))))) := fun q27 hq => by
    refine ⟨fun w => same (fun h => w (hq.mpr (by rw [hb]; exact h.2.2.1))), fun w => ⟨⟨fun _ => trivial, fun _ => ⟨fun _ => trivial, fun _ => ⟨fun _ => trivial, fun _ => ⟨⟨by omega, by omega⟩, fun _ => trivial, fun _ => trivial⟩⟩⟩⟩, fun v36 e36 r36 => ?_⟩⟩
    have nI := hq.mp w
    have g36 : v36 = 0 ↔ ¬ isG but b := by
      rw [e36]
      unfold isG
      by_cases d1 : but < 0
      · rw [if_pos d1]; exact ⟨fun _ h => by omega, fun _ => rfl⟩
      · rw [if_neg d1]
        by_cases d2 : b < 210
        · rw [if_pos d2]; exact ⟨fun _ h => by omega, fun _ => rfl⟩
        · rw [if_neg d2]
          by_cases d3 : 1100 ≤ b
          · rw [if_pos d3]; exact ⟨fun _ h => by omega, fun _ => rfl⟩
          · rw [if_neg d3, dvi ⟨by omega, by omega⟩]
            by_cases d4 : (b - 210) / 4 = but
            · rw [if_neg (fun h => h d4)]; exact ⟨fun h => by omega, fun h => absurd ⟨by omega, by omega, by omega, d4⟩ h⟩
            · rw [if_pos d4]; exact ⟨fun _ h => d4 h.2.2.2, fun _ => rfl⟩
    have gl := gaO_l (A := A) (B := B) (c := c) (L := L) (but := but) v.toNat
    refine ⟨fun c3 => same (fun h => c3 (g36.mpr (by rw [hb]; exact h.2.2.2))), fun c3 => m_outsiderX (c := c) (fun x => by rw [sg_F_ga f2 rfl]; exact hc x) o1 (by omega) b1 (fun σ4 p1 _ => ?_)⟩
    unfold gOx
    rw [vn]
    simp only [gaO]
    rw [ev, if_pos ⟨vL, c2, by rw [← hb]; exact nI, by rw [← hb]; exact g36.mp c3⟩, ← hb]
    exact p1
  unfold V_isBoundInside
  refine ⟨fun d1 => ⟨fun d2 _ => go 0 ⟨fun _ h => ?_, fun _ => rfl⟩, fun d2 => ?_⟩, fun d1 => ?_⟩
  · rcases h with h | h <;> omega
  · rw [dvi ⟨by omega, by omega⟩, cell]
    have e := hi ((b - 210) / 4) (by omega) (b3 d1 d2)
    have iff0 : insL L b ↔ (b - 210) / 4 ∈ L := ⟨fun h => by rcases h with h | h; omega; exact h.2.2, fun h => Or.inr ⟨d1, d2, h⟩⟩
    have q0 : insL L b → sg_g σ 120 ((b - 210) / 4) = 0 → False := fun h c3 => by rw [e.1 (iff0.mp h)] at c3; omega
    have q1 : ¬ insL L b → sg_g σ 120 ((b - 210) / 4) = 0 := fun h => e.2 (fun w => h (iff0.mpr w))
    refine ⟨⟨by omega, by omega⟩, ⟨by omega, by omega⟩, fun c3 _ => ?_, fun c3 _ => ?_⟩
    · have g := go 0 ⟨fun _ h => q0 h c3, fun _ => rfl⟩
      rw [dvi ⟨by omega, by omega⟩] at g
      exact g
    · have g := go 1 ⟨fun h => absurd h (by decide), fun h => absurd (q1 h) c3⟩
      rw [dvi ⟨by omega, by omega⟩] at g
      exact g
  · rw [cell]
    have e := hi b b1.1 (b2 d1)
    have iff0 : insL L b ↔ b ∈ L := ⟨fun h => by rcases h with h | h; exact h.2; omega, fun h => Or.inl ⟨d1, h⟩⟩
    by_cases c3 : b ∈ L
    · rw [e.1 c3]
      exact ⟨⟨by omega, by omega⟩, Or.inr rfl, fun _ => go 1 ⟨fun h => by omega, fun h => absurd (iff0.mpr c3) h⟩⟩
    · rw [e.2 c3]
      exact ⟨⟨by omega, by omega⟩, Or.inl rfl, fun _ => go 0 ⟨fun _ h => c3 (iff0.mp h), fun _ => rfl⟩⟩
end BAS
