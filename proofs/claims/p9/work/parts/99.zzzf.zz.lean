/-! parts of a { }: scopes, lanes, and what is bound outside stays. -/
section AXS
variable {A : aT} {D : List aDf} {T B : Int → Int} {lev : Int → Nat}
theorem ea_ts {n bd : Int} {tl : List Int} (nw : nW A n) (k15 : A.2.1 n = 15) (ea : A.2.2.2.2.1 n = bd :: tl) : 1 ≤ (A.2.2.2.2.2 n).length ∧ (tl.take (A.2.2.2.2.2 n).length).length = (A.2.2.2.2.2 n).length ∧ (A.2.2.2.2.2 n).length ≤ 4 ∧ (tl.drop (A.2.2.2.2.2 n).length = [] ∨ ∃ t, tl.drop (A.2.2.2.2.2 n).length = [t]) := by
  have g := nw.2.2.2.2.2.2.1 k15
  have g1 := nw.2.2.2.2.2.2.2.2 k15
  rw [ea, List.length_cons] at g
  have ld : (tl.drop (A.2.2.2.2.2 n).length).length = tl.length - (A.2.2.2.2.2 n).length := List.length_drop
  refine ⟨g1, by rw [List.length_take]; omega, g.2, ?_⟩
  match e : tl.drop (A.2.2.2.2.2 n).length with
  | [] => exact Or.inl rfl
  | [t] => exact Or.inr ⟨t, rfl⟩
  | a :: b :: r =>
    rw [e] at ld
    simp only [List.length_cons] at ld
    omega
/-- the scope of the parts of a { }: GENS, and what is carried along -/
theorem stN_b0 {O : Int → Nat → List Int} {j f : Nat} {L : List Int} {sc : List (Int × Int)} {n bd : Int} {tl : List Int} (hA : A.1 ≤ 200) (hO : okO A B O) (h : stN A D T B lev j (f + 1) L sc n) (k15 : A.2.1 n = 15) (ea : A.2.2.2.2.1 n = bd :: tl) {z : Int} (hz : z ∈ tl.drop (A.2.2.2.2.2 n).length ++ [bd]) : ∃ L', stN A D T B lev j f L' (gsc n T 0 (tl.take (A.2.2.2.2.2 n).length) ++ sc.filter (fun p => decide (p.1 ∈ O n 0))) z ∧ (∀ y ∈ L', y ∈ L) ∧ n ∉ L' := by
  have nL : n ∈ L := fT_sub h.2.1 _ (by simp)
  obtain ⟨-, g2⟩ := stN_e hA h k15 ea
  obtain ⟨Lb, hb, sb, -⟩ := g2 bd (by simp)
  obtain ⟨Lt, ht, st, hin⟩ : ∃ Lt, fT A (tl.drop (A.2.2.2.2.2 n).length) Lt ∧ (∀ y ∈ Lt, y ∈ L) ∧ ∀ t ∈ tl.drop (A.2.2.2.2.2 n).length, ∀ Lz, fT A [t] Lz → ∀ y ∈ Lz, y ∈ Lt := by
    rcases (ea_ts h.1.1 k15 ea).2.2.2 with e | ⟨t, e⟩
    · rw [e]; exact ⟨[], fT_z A, fun y hy => (by cases hy), fun t ht => (by cases ht)⟩
    · obtain ⟨Lt, ht, st, -⟩ := g2 t (by rw [e]; simp)
      rw [e]
      refine ⟨Lt, ht.2.1, st, fun t' ht' Lz hLz y hy => ?_⟩
      have : t' = t := by simpa using ht'
      rw [this] at hLz
      rw [← fT_det hLz ht.2.1]; exact hy
  obtain ⟨L', hz', sz, nz⟩ := g2 z hz
  have ho := ((hO n).2.2 k15 bd tl Lb Lt ea hb.2.1 ht).1
  refine ⟨L', stN_res (I := gsc n T 0 (tl.take (A.2.2.2.2.2 n).length)) (sc := sc) (sc' := sc.filter (fun p => decide (p.1 ∈ O n 0))) hz' (fun y hy ky p hp e => ?_) (fun p hp => (List.mem_filter.mp hp).1), sz, nz⟩
  refine List.mem_filter.mpr ⟨hp, ?_⟩
  rw [decide_eq_true_eq]
  have now := (h.2.2.2.2 p hp).2
  refine (ho p.1).mpr ⟨y, ?_, ky, e.symm, fun q => now (Or.inl ?_), fun q => now (Or.inl (Or.inr ⟨q.2.1, q.2.2.1, by rw [q.2.2.2]; exact nL⟩))⟩
  · rcases List.mem_append.mp hz with q | q
    · exact List.mem_append_right _ (hin z q L' hz'.2.1 y hy)
    · have ez : z = bd := by simpa using q
      rw [ez] at hz'
      rw [fT_det hz'.2.1 hb.2.1] at hy
      exact List.mem_append_left _ hy
  · have sub : ∀ y ∈ Lb ++ Lt, y ∈ L := fun y hy => (List.mem_append.mp hy).elim (sb y) (st y)
    rcases q with ⟨q1, q2⟩ | ⟨q1, q2, q3⟩
    · exact Or.inl ⟨q1, sub _ q2⟩
    · exact Or.inr ⟨q1, q2, sub _ q3⟩
/-- the scope of the body behind its test -/
theorem stN_b1 {O : Int → Nat → List Int} {j f : Nat} {L' : List Int} {sc : List (Int × Int)} {n bd : Int} {tl Lt : List Int} (hO : okO A B O) (k15 : A.2.1 n = 15) (ea : A.2.2.2.2.1 n = bd :: tl) (ht : fT A (tl.drop (A.2.2.2.2.2 n).length) Lt) (h : stN A D T B lev j f L' sc bd) : stN A D T B lev j f L' (sc.filter (fun p => decide (p.1 ∈ O n 1))) bd := by
  have ho := ((hO n).2.2 k15 bd tl L' Lt ea h.2.1 ht).2
  have r := stN_res (I := []) (sc := sc) (sc' := sc.filter (fun p => decide (p.1 ∈ O n 1))) h (fun y hy ky p hp e => ?_) (fun p hp => (List.mem_filter.mp hp).1)
  · exact r
  · refine List.mem_filter.mpr ⟨hp, ?_⟩
    rw [decide_eq_true_eq]
    exact (ho p.1).mpr ⟨y, hy, ky, e.symm, fun q => (h.2.2.2.2 p hp).2 (Or.inl q)⟩
end AXS
theorem rg_D (l : List Nat) : (List.range l.length).map (fun i => l.getD i 0) = l := by
  apply List.ext_getElem?
  intro i
  rw [List.getElem?_map]
  rcases Nat.lt_or_ge i l.length with q | q
  · rw [List.getElem?_range q, Option.map_some, List.getD_eq_getElem?_getD, List.getElem?_eq_getElem q]; rfl
  · rw [List.getElem?_eq_none (by rw [List.length_range]; exact q), List.getElem?_eq_none q]; rfl
theorem fRp_l {m : Nat} {ln : List Nat} (h : ln.length = m) : (fRp m ln).length = ln.sum := by
  unfold fRp
  rw [List.length_flatten, List.map_map, ← h]
  have e : (List.length ∘ fun i : Nat => List.replicate (ln.getD i 0) i) = fun i : Nat => ln.getD i 0 := by
    funext i
    simp only [Function.comp, List.length_replicate]
  rw [e, rg_D]
theorem flF_l (l : List vaF) : (flF l).length = (l.map (fun v => (itF v).length)).sum := by
  unfold flF
  rw [List.length_flatten, List.map_map]
  rfl
/-- GENS are as long in each lane -/
def eaE (m : Nat) (vs : List (List vaF)) : Prop := ∀ i : Nat, i < m → ∀ l ∈ vs, (l.getD i (nmF 0)) [] = ((vs.getD 0 []).getD i (nmF 0)) []
theorem eaE_i {m : Nat} {vs : List (List vaF)} : ¬ (List.range m).any (fun i : Nat => vs.any (fun l => decide ((l.getD i (nmF 0)) [] ≠ ((vs.getD 0 []).getD i (nmF 0)) []))) = true ↔ eaE m vs := by
  simp only [List.any_eq_true, List.mem_range, decide_eq_true_eq]
  refine ⟨fun h i hi l hl => Decidable.byContradiction (fun c => h ⟨i, hi, l, hl, c⟩), fun h ⟨i, hi, l, hl, c⟩ => c (h i hi l hl)⟩
theorem eaE_m {m : Nat} {vs : List (List vaF)} (h : eaE m vs) (hl : ∀ l ∈ vs, l.length = m) (h1 : 1 ≤ vs.length) {l : List vaF} (hm : l ∈ vs) : l.map (fun v => (itF v).length) = (vs.getD 0 []).map (fun v => (itF v).length) := by
  have h0 : vs.getD 0 [] ∈ vs := by
    cases vs with
    | nil => simp at h1
    | cons a r => simp
  have e1 := hl l hm
  have e0 := hl _ h0
  apply List.ext_getElem?
  intro i
  rw [List.getElem?_map, List.getElem?_map]
  rcases Nat.lt_or_ge i m with q | q
  · rw [gD_i (by omega : i < l.length), gD_i (by omega : i < (vs.getD 0 []).length)]
    simp only [Option.map_some, itF_l, h i q l hm]
  · rw [List.getElem?_eq_none (by omega), List.getElem?_eq_none (by omega)]
theorem eaE_l {m : Nat} {vs : List (List vaF)} (h : eaE m vs) (hl : ∀ l ∈ vs, l.length = m) (h1 : 1 ≤ vs.length) {l : List vaF} (hm : l ∈ vs) : (flF l).length = (fRp m ((vs.getD 0 []).map (fun v => (itF v).length))).length := by
  have h0 : vs.getD 0 [] ∈ vs := by
    cases vs with
    | nil => simp at h1
    | cons a r => simp
  rw [fRp_l (by rw [List.length_map]; exact hl _ h0), flF_l, eaE_m h hl h1 hm]
/-! lanes of what is worked out, and what is bound outside stays: a { }. -/
section AYS
variable {A : aT} {D : List aDf} {T B : Int → Int} {lev : Int → Nat}
theorem fx_each {O : Int → Nat → List Int} {call : Int → Nat → fEv → fSt → fRs} {f j m : Nat} {L : List Int} {sc : List (Int × Int)} {n bd : Int} {tl : List Int} (hA : A.1 ≤ 200) (hO : okO A B O) (ih : ∀ (x : Int) (L' : List Int) (sc' : List (Int × Int)), stN A D T B lev j f L' sc' x → ∀ (m : Nat) ρ s v s' ρ', (∀ p ∈ sc', (ρ p.1).length = m) → fxN A D T B O call f x m ρ s = .inr (v, s', ρ') → v.length = m ∧ ∀ b, ¬ ow lev j L' b → ρ' b = ρ b) (k15 : A.2.1 n = 15) (ea : A.2.2.2.2.1 n = bd :: tl) (h : stN A D T B lev j (f + 1) L sc n) {vs : List (List vaF)} {ρ2 : fEv} {s s' : fSt} {v : List vaF} {ρ' : fEv} (hv : vs.length = (A.2.2.2.2.2 n).length ∧ ∀ l ∈ vs, l.length = m) (e : fEbN (fxN A D T B O call f) (bTy A D T) n (O n 0) (O n 1) bd (tl.drop (A.2.2.2.2.2 n).length) m vs ρ2 s = .inr (v, s', ρ')) : v.length = m ∧ ∀ b, ¬ ow lev j L b → ρ' b = ρ2 b := by
  obtain ⟨g1, g2, g4, gt⟩ := ea_ts h.1.1 k15 ea
  have nL : n ∈ L := fT_sub h.2.1 _ (by simp)
  have n0 := (stN_w h).2.1
  have h0 : vs.getD 0 [] ∈ vs := by
    cases vs with
    | nil => simp at hv; omega
    | cons a r => simp
  have lnl : ((vs.getD 0 []).map (fun v => (itF v).length)).length = m := by rw [List.length_map]; exact hv.2 _ h0
  unfold fEbN at e
  by_cases c : (List.range m).any (fun i : Nat => vs.any (fun l => decide ((l.getD i (nmF 0)) [] ≠ ((vs.getD 0 []).getD i (nmF 0)) []))) = true
  · rw [if_pos c] at e; cases e
  rw [if_neg c] at e
  have hE := eaE_i.mp c
  clear c
  generalize hln : (vs.getD 0 []).map (fun v => (itF v).length) = ln at e lnl
  cases e2 : fCa (bTy A D T) (fRp m ln) (O n 0) s ρ2 with
  | inl w => rw [e2] at e; cases e
  | inr p =>
    obtain ⟨s3, ρ3⟩ := p
    rw [e2] at e
    simp only at e
    have r3 := fCa_e ((hO n).1 0) e2
    have ng : ∀ b, ¬ ow lev j L b → fUs ρ3 (210 + 4 * n) 0 (vs.map flF) b = ρ3 b := fun b hb => fUs_no (by
      rw [List.length_map, hv.1]
      by_cases q : b < 210 + 4 * n + (0 : Nat)
      · exact Or.inl q
      · right
        refine Decidable.byContradiction (fun q2 => hb (Or.inl (Or.inr ⟨by omega, by omega, ?_⟩)))
        rw [show (b - 210) / 4 = n by omega]; exact nL)
    have sc3 : ∀ p ∈ gsc n T 0 (tl.take (A.2.2.2.2.2 n).length) ++ sc.filter (fun p => decide (p.1 ∈ O n 0)), (fUs ρ3 (210 + 4 * n) 0 (vs.map flF) p.1).length = (fRp m ln).length := fun p hp => by
      rcases List.mem_append.mp hp with q | q
      · obtain ⟨i, u, hu, ep⟩ := gsc_m _ _ _ q
        have hi := lt_of_get hu
        rw [g2] at hi
        obtain ⟨w, hw⟩ : ∃ w, vs[i]? = some w := ⟨_, List.getElem?_eq_getElem (by omega)⟩
        have e1 : p.1 = 210 + 4 * n + ((0 : Nat) : Int) + (i : Int) := by rw [ep]; simp only; omega
        rw [e1, fUs_at (v := flF w) (by rw [List.getElem?_map, hw]; rfl), ← hln]
        exact eaE_l hE hv.2 (by omega) (List.mem_of_getElem? hw)
      · obtain ⟨q1, q2⟩ := List.mem_filter.mp q
        rw [decide_eq_true_eq] at q2
        rw [ng p.1 (h.2.2.2.2 p q1).2, r3 p.1, if_pos q2, fPk_l]
    have k3 : ∀ b, ¬ ow lev j L b → b ∉ O n 0 → fUs ρ3 (210 + 4 * n) 0 (vs.map flF) b = ρ2 b := fun b hb c => by rw [ng b hb, r3 b, if_neg c]
    rcases gt with et | ⟨t, et⟩
    · rw [et] at e
      simp only at e
      cases e3 : fxN A D T B O call f bd (fRp m ln).length (fUs ρ3 (210 + 4 * n) 0 (vs.map flF)) s3 with
      | inl w => rw [e3] at e; cases e
      | inr p =>
        obtain ⟨v1, s4, ρ5⟩ := p
        rw [e3] at e
        simp only [Sum.inr.injEq, Prod.mk.injEq] at e
        obtain ⟨rfl, -, rfl⟩ := e
        obtain ⟨Lb, hb, sb, -⟩ := stN_b0 hA hO h k15 ea (z := bd) (by simp)
        obtain ⟨l1, kb⟩ := ih bd Lb _ hb _ _ _ _ _ _ sc3 e3
        refine ⟨by rw [fCt_l]; exact lnl, fun b nb => ?_⟩
        show (if b ∈ O n 0 then ρ2 b else ρ5 b) = ρ2 b
        by_cases c : b ∈ O n 0
        · rw [if_pos c]
        · rw [if_neg c, kb b (fun w => nb (ow_s sb w)), k3 b nb c]
    · rw [et] at e
      simp only at e
      obtain ⟨Lt, ht, st, -⟩ := stN_b0 hA hO h k15 ea (z := t) (by rw [et]; simp)
      obtain ⟨Lb, hb, sb, -⟩ := stN_b0 hA hO h k15 ea (z := bd) (by simp)
      have hb1 := stN_b1 hO k15 ea (by rw [et]; exact ht.2.1) hb
      cases e3 : fxN A D T B O call f t (fRp m ln).length (fUs ρ3 (210 + 4 * n) 0 (vs.map flF)) s3 with
      | inl w => rw [e3] at e; cases e
      | inr p =>
        obtain ⟨c1, s4, ρ5⟩ := p
        rw [e3] at e
        simp only at e
        obtain ⟨l1, kt⟩ := ih t Lt _ ht _ _ _ _ _ _ sc3 e3
        cases e4 : fCa (bTy A D T) (fWh true c1) (O n 1) s4 ρ5 with
        | inl w => rw [e4] at e; cases e
        | inr p =>
          obtain ⟨s5, ρ6⟩ := p
          rw [e4] at e
          simp only at e
          have r6 := fCa_e ((hO n).1 1) e4
          cases e5 : fStp (m : Int) s5 with
          | none => rw [e5] at e; cases e
          | some s6 =>
            rw [e5] at e
            simp only at e
            cases e6 : fxN A D T B O call f bd (fWh true c1).length ρ6 s6 with
            | inl w => rw [e6] at e; cases e
            | inr p =>
              obtain ⟨v1, s7, ρ7⟩ := p
              rw [e6] at e
              simp only [Sum.inr.injEq, Prod.mk.injEq] at e
              obtain ⟨rfl, -, rfl⟩ := e
              obtain ⟨l2, k7⟩ := ih bd Lb _ hb1 _ _ _ _ _ _ (fun p hp => by
                have hm := (List.mem_filter.mp hp).2
                rw [decide_eq_true_eq] at hm
                rw [r6 p.1, if_pos hm, fPk_l]) e6
              refine ⟨by rw [fCt_l, List.length_map, fCt_l]; exact lnl, fun b nb => ?_⟩
              show (if b ∈ O n 0 then ρ2 b else if b ∈ O n 1 then ρ5 b else ρ7 b) = ρ2 b
              have k5 : ρ5 b = fUs ρ3 (210 + 4 * n) 0 (vs.map flF) b := kt b (fun w => nb (ow_s st w))
              by_cases c : b ∈ O n 0
              · rw [if_pos c]
              · rw [if_neg c]
                by_cases c2 : b ∈ O n 1
                · rw [if_pos c2, k5, k3 b nb c]
                · rw [if_neg c2, k7 b (fun w => nb (ow_s sb w)), r6 b, if_neg c2, k5, k3 b nb c]
end AYS
/-! lanes of what is worked out, and what is bound outside stays: all nodes. -/
section AZS
variable {A : aT} {D : List aDf} {T B : Int → Int} {lev : Int → Nat}
theorem fOl_l (k ty x : Int) (vs : List (List vaF)) (n : Nat) : ((fOl k ty x vs n).map fOv).length = n := by unfold fOl; rw [List.length_map, List.length_map, List.length_range]
/-- DEFS below j keep lanes -/
def cOk (A : aT) (D : List aDf) (T B : Int → Int) (lev : Int → Nat) (j : Nat) (call : Int → Nat → fEv → fSt → fRs) : Prop := ∀ (d : Nat) (y : aDf) (L' : List Int), D[d]? = some y → d < j → stN A D T B lev d 201 L' (scZ (kPe y) (kPb d 0 y.2.2.1 [])) y.2.2.2 → ∀ (m : Nat) ρ s v s' ρ', (∀ p ∈ scZ (kPe y) (kPb d 0 y.2.2.1 []), (ρ p.1).length = m) → call (d : Int) m ρ s = .inr (v, s', ρ') → v.length = m ∧ ∀ b, ¬ ow lev d L' b → ρ' b = ρ b
theorem fx_ok {σ : sg_S} {r : Int} {O : Int → Nat → List Int} {call : Int → Nat → fEv → fSt → fRs} {j : Nat} (hX : pgX σ A D T B) (hlv : lvP A D lev 0 r) (hO : okO A B O) (hc : cOk A D T B lev j call) : ∀ (f : Nat) (n : Int) (L : List Int) (sc : List (Int × Int)), stN A D T B lev j f L sc n → ∀ (m : Nat) ρ s v s' ρ', (∀ p ∈ sc, (ρ p.1).length = m) → fxN A D T B O call f n m ρ s = .inr (v, s', ρ') → v.length = m ∧ ∀ b, ¬ ow lev j L b → ρ' b = ρ b
  | 0, n, L, sc, h, m, ρ, s, v, s', ρ', hl, e => h.1.elim
  | f + 1, n, L, sc, h, m, ρ, s, v, s', ρ', hl, e => by
    have hA := hX.2.2.2.2.1
    have hD := hX.2.1
    have ih := fx_ok hX hlv hO hc f
    obtain ⟨w1, w2, w3, w4, w5, w6⟩ := stN_w h
    have sw : ∀ p ∈ sc, ¬ ow lev j L p.1 := fun p hp => (h.2.2.2.2 p hp).2
    have nL : n ∈ L := fT_sub h.2.1 _ (by simp)
    have sq : ∀ (R : List Int), (∀ x ∈ R, ∃ L', stN A D T B lev j f L' sc x ∧ ∀ y ∈ L', y ∈ L) → ∀ s1 vs s2 ρ2, fSq (fun x => fxN A D T B O call f x m) R ρ s1 = .inr (vs, s2, ρ2) → vs.length = R.length ∧ (∀ l ∈ vs, l.length = m) ∧ ∀ b, ¬ ow lev j L b → ρ2 b = ρ b := fun R hR s1 vs s2 ρ2 es => fx_sq (fun x L' hx ρ s v s' ρ' => ih x L' sc hx m ρ s v s' ρ') R hR sw ρ s1 vs s2 ρ2 hl es
    simp only [fxN] at e
    cases eb : fBg m s with
    | none => rw [eb] at e; cases e
    | some s1 =>
      rw [eb] at e
      simp only at e
      by_cases k1 : A.2.1 n = 1
      · rw [if_pos k1] at e
        simp only [Sum.inr.injEq, Prod.mk.injEq] at e
        obtain ⟨rfl, -, rfl⟩ := e
        exact ⟨hl _ (w4 k1), fun b _ => rfl⟩
      rw [if_neg k1] at e
      by_cases k2 : A.2.1 n = 2
      · rw [if_pos k2] at e
        obtain ⟨a, c, ea⟩ := kid2 (w1.2.2.1 (Or.inl k2))
        rw [ea] at e
        simp only [List.getD_cons_zero, List.getD_cons_succ] at e
        obtain ⟨⟨La, ha, sa⟩, Lc, hc', sc'⟩ := stN_l hA h k2 ea
        cases e1 : fxN A D T B O call f a m ρ s1 with
        | inl w => rw [e1] at e; cases e
        | inr p =>
          obtain ⟨v1, s2, ρ2⟩ := p
          rw [e1] at e
          simp only at e
          obtain ⟨l1, kp⟩ := ih a La sc ha m ρ s1 v1 s2 ρ2 hl e1
          have kp' : ∀ b, ¬ ow lev j L b → ρ2 b = ρ b := fun b hb => kp b (fun w => hb (ow_s sa w))
          have nb : ∀ b, ¬ ow lev j L b → ¬ b = n := fun b hb q => hb (Or.inl (Or.inl ⟨by omega, by rw [q]; exact nL⟩))
          obtain ⟨l2, kq⟩ := ih c Lc _ hc' m _ s2 v s' ρ' (fun p hp => by
            rcases List.mem_cons.mp hp with q | q
            · rw [q]; simp only [if_true]; exact l1
            · rw [if_neg (nb _ (sw p q)), kp' _ (sw p q)]; exact hl p q) e
          exact ⟨l2, fun b hb => by rw [kq b (fun w => hb (ow_s sc' w)), if_neg (nb b hb)]; exact kp' b hb⟩
      rw [if_neg k2] at e
      by_cases k3 : A.2.1 n = 3
      · rw [if_pos k3] at e
        have l3 := w1.2.2.2.1 k3
        obtain ⟨a, c, d, ea⟩ : ∃ a c d, A.2.2.2.2.1 n = [a, c, d] := by
          match e : A.2.2.2.2.1 n, l3 with
          | [a, c, d], _ => exact ⟨a, c, d, rfl⟩
        rw [ea] at e
        simp only [List.getD_cons_zero, List.getD_cons_succ] at e
        exact fx_if hA hO ih k3 ea h hl e
      rw [if_neg k3] at e
      by_cases k13 : A.2.1 n = 13
      · rw [if_pos k13] at e
        cases es : fSq (fun x => fxN A D T B O call f x m) (A.2.2.2.2.1 n) ρ s1 with
        | inl w => rw [es] at e; cases e
        | inr p =>
          obtain ⟨vs, s2, ρ2⟩ := p
          rw [es] at e
          simp only at e
          obtain ⟨q1, q2, q3⟩ := sq _ (fun x hx => stN_k h (by omega) (by omega) hx) s1 vs s2 ρ2 es
          have hD6 : ∀ (d : Nat) (y : aDf), D[d]? = some y → y.2.2.1.length ≤ 6 := fun d y hy => (hD.2.2 d y hy).2.2.2.2.1
          obtain ⟨d, y, L', ed, hy, dj, hst, how, hty, hTy, hsc⟩ := stN_call hX hlv h k13 hD.2.1 hD6
          have k6 := hD6 d y hy
          have klen : (A.2.2.2.2.1 n).length = y.2.2.1.length := by
            have := congrArg List.length hty
            simpa using this
          rw [ed] at e
          obtain ⟨l2, kq⟩ := hc d y L' hy dj hst m _ s2 v s' ρ' (fun p hp => by
            obtain ⟨i, u, hu, ep⟩ := hsc p hp
            have hi := lt_of_get hu
            obtain ⟨w, hw⟩ : ∃ w, vs[i]? = some w := ⟨_, List.getElem?_eq_getElem (by omega)⟩
            rw [ep]
            simp only
            rw [show (1100 : Int) + 6 * (d : Int) + (i : Int) = 1100 + 6 * (d : Int) + ((0 : Nat) : Int) + (i : Int) by omega, fUs_at hw]
            exact q2 w (List.mem_of_getElem? hw)) e
          refine ⟨l2, fun b hb => ?_⟩
          rw [kq b (fun w => hb (how b w)), fUs_no]
          · exact q3 b hb
          · by_cases q : b < 1100 + 6 * (d : Int) + ((0 : Nat) : Int)
            · exact Or.inl q
            · right
              refine Decidable.byContradiction (fun q2 => hb (Or.inr (Or.inr (Or.inr ⟨by omega, by omega⟩))))
      rw [if_neg k13] at e
      by_cases k15 : A.2.1 n = 15
      · rw [if_pos k15] at e
        cases es : fSq (fun x => fxN A D T B O call f x m) (kGs A n) ρ s1 with
        | inl w => rw [es] at e; cases e
        | inr p =>
          obtain ⟨vs, s2, ρ2⟩ := p
          rw [es] at e
          simp only at e
          have g := (w1.2.2.2.2.2.2.1 k15).1
          obtain ⟨bd, tl, ea⟩ : ∃ bd tl, A.2.2.2.2.1 n = bd :: tl := by
            cases e : A.2.2.2.2.1 n with
            | nil => rw [e] at g; simp at g; omega
            | cons bd tl => exact ⟨bd, tl, rfl⟩
          have eg : kGs A n = tl.take (A.2.2.2.2.2 n).length := by unfold kGs; rw [ea]; rfl
          have ed : (A.2.2.2.2.1 n).drop (1 + (A.2.2.2.2.2 n).length) = tl.drop (A.2.2.2.2.2 n).length := by rw [ea, Nat.add_comm]; rfl
          obtain ⟨q1, q2, q3⟩ := sq _ (fun x hx => ((stN_e hA h k15 ea).1 x (by rw [← eg]; exact hx)).1) s1 vs s2 ρ2 es
          rw [ed, ea] at e
          simp only [List.getD_cons_zero] at e
          obtain ⟨l2, kq⟩ := fx_each hA hO ih k15 ea h ⟨by rw [q1, eg]; exact (ea_ts w1 k15 ea).2.1, q2⟩ e
          exact ⟨l2, fun b hb => (kq b hb).trans (q3 b hb)⟩
      rw [if_neg k15] at e
      cases es : fSq (fun x => fxN A D T B O call f x m) (A.2.2.2.2.1 n) ρ s1 with
      | inl w => rw [es] at e; cases e
      | inr p =>
        obtain ⟨vs, s2, ρ2⟩ := p
        rw [es] at e
        simp only at e
        obtain ⟨q1, q2, q3⟩ := sq _ (fun x hx => stN_k h k2 k15 hx) s1 vs s2 ρ2 es
        unfold fWk at e
        cases ef : fStp (exF (T n).toNat ((fOl (A.2.1 n) (T n) (sg_n (A.2.2.2.1 n)) vs m).map fOv)) s2 with
        | none => rw [ef] at e; cases e
        | some s3 =>
          rw [ef] at e
          simp only at e
          by_cases c0 : fOe (fOl (A.2.1 n) (T n) (sg_n (A.2.2.2.1 n)) vs m) = 0
          · rw [if_pos c0] at e
            simp only [Sum.inr.injEq, Prod.mk.injEq] at e
            obtain ⟨rfl, -, rfl⟩ := e
            exact ⟨fOl_l _ _ _ _ _, q3⟩
          · rw [if_neg c0] at e; cases e
/-- DEFS -/
theorem fxC_ok {σ : sg_S} {r : Int} {O : Int → Nat → List Int} (hX : pgX σ A D T B) (hlv : lvP A D lev 0 r) (hO : okO A B O) : ∀ j : Nat, cOk A D T B lev j (fxC A D T B O j) := by
  have key : ∀ (k : Nat) (j : Nat), j ≤ k → cOk A D T B lev j (fxC A D T B O j) := by
    intro k
    induction k with
    | zero =>
      intro j hj d y L' hy dj
      omega
    | succ k ih =>
      intro j hj d y L' hy dj hst m ρ s v s' ρ' hl e
      rw [fxC_e A D T B O j d dj] at e
      have ey : (D.getD d (0, 0, [], 0)).2.2.2 = y.2.2.2 := by rw [List.getD_eq_getElem?_getD, hy]; rfl
      rw [ey] at e
      exact fx_ok hX hlv hO (ih d (by omega)) 201 y.2.2.2 L' _ hst m ρ s v s' ρ' hl e
  exact fun j => key j j (Nat.le_refl _)
end AZS
/-! which variables are carried along: outsider, gatherOutside of the reference, exactly. -/
/-- where a new one is put in: behind all that came before it -/
def poO (c : Int → Int) (b : Int) (O : List Int) : Nat → Nat
  | 0 => 0
  | n + 1 => if c b < c (O.getD n 0) then poO c b O n else n + 1
def insO (c : Int → Int) (b : Int) (O : List Int) : List Int := if b ∈ O then O else O.take (poO c b O O.length) ++ b :: O.drop (poO c b O O.length)
noncomputable def gaO (A : aT) (B c : Int → Int) (L : List Int) (but : Int) : Nat → List Int
  | 0 => []
  | v + 1 => @ite _ ((v : Int) ∈ L ∧ A.2.1 v = 1 ∧ ¬ insL L (B v) ∧ ¬ isG but (B v)) (Classical.propDecidable _) (insO c (B v) (gaO A B c L but v)) (gaO A B c L but v)
theorem poO_l (c : Int → Int) (b : Int) (O : List Int) : ∀ n : Nat, poO c b O n ≤ n
  | 0 => Nat.le_refl _
  | n + 1 => by
    simp only [poO]
    have := poO_l c b O n
    split <;> omega
theorem insO_m {c : Int → Int} {b : Int} {O : List Int} : ∀ z, z ∈ insO c b O ↔ z = b ∨ z ∈ O := by
  intro z
  unfold insO
  by_cases h : b ∈ O
  · rw [if_pos h]
    exact ⟨fun w => Or.inr w, fun w => w.elim (fun e => by rw [e]; exact h) id⟩
  · rw [if_neg h]
    have pm := List.perm_middle (l₁ := O.take (poO c b O O.length)) (a := b) (l₂ := O.drop (poO c b O O.length))
    rw [List.take_append_drop] at pm
    rw [pm.mem_iff, List.mem_cons]
theorem insO_n {c : Int → Int} {b : Int} {O : List Int} (h : O.Nodup) : (insO c b O).Nodup := by
  unfold insO
  by_cases hb : b ∈ O
  · rw [if_pos hb]; exact h
  · rw [if_neg hb]
    have pm := List.perm_middle (l₁ := O.take (poO c b O O.length)) (a := b) (l₂ := O.drop (poO c b O O.length))
    rw [List.take_append_drop] at pm
    exact pm.nodup_iff.mpr (List.nodup_cons.mpr ⟨hb, h⟩)
theorem insO_l {c : Int → Int} {b : Int} {O : List Int} : (insO c b O).length ≤ O.length + 1 := by
  unfold insO
  by_cases hb : b ∈ O
  · rw [if_pos hb]; omega
  · rw [if_neg hb]
    have pm := List.perm_middle (l₁ := O.take (poO c b O O.length)) (a := b) (l₂ := O.drop (poO c b O O.length))
    rw [List.take_append_drop] at pm
    rw [pm.length_eq, List.length_cons]
    omega
section GAO
variable {A : aT} {B c : Int → Int} {L : List Int} {but : Int}
theorem gaO_m : ∀ (v : Nat) (z : Int), z ∈ gaO A B c L but v ↔ ∃ y, (0 ≤ y ∧ y < (v : Int)) ∧ y ∈ L ∧ A.2.1 y = 1 ∧ B y = z ∧ ¬ insL L z ∧ ¬ isG but z
  | 0, z => ⟨fun h => (by cases h), fun ⟨y, hy, _⟩ => by omega⟩
  | v + 1, z => by
    have ih := gaO_m v z
    simp only [gaO]
    by_cases h : (v : Int) ∈ L ∧ A.2.1 v = 1 ∧ ¬ insL L (B v) ∧ ¬ isG but (B v)
    · rw [if_pos h, insO_m]
      refine ⟨fun w => ?_, fun ⟨y, y1, y2⟩ => ?_⟩
      · rcases w with w | w
        · exact ⟨v, ⟨by omega, by omega⟩, h.1, h.2.1, w.symm, by rw [w]; exact h.2.2.1, by rw [w]; exact h.2.2.2⟩
        · obtain ⟨y, y1, y2⟩ := ih.mp w
          exact ⟨y, ⟨y1.1, by omega⟩, y2⟩
      · by_cases e : y = (v : Int)
        · left; rw [← y2.2.2.1, e]
        · exact Or.inr (ih.mpr ⟨y, ⟨y1.1, by omega⟩, y2⟩)
    · rw [if_neg h]
      refine ⟨fun w => ?_, fun ⟨y, y1, y2⟩ => ?_⟩
      · obtain ⟨y, y1, y2⟩ := ih.mp w
        exact ⟨y, ⟨y1.1, by omega⟩, y2⟩
      · by_cases e : y = (v : Int)
        · rw [e] at y2
          exact absurd ⟨y2.1, y2.2.1, by rw [y2.2.2.1]; exact y2.2.2.2.1, by rw [y2.2.2.1]; exact y2.2.2.2.2⟩ h
        · exact ih.mpr ⟨y, ⟨y1.1, by omega⟩, y2⟩
theorem gaO_n : ∀ v : Nat, (gaO A B c L but v).Nodup
  | 0 => List.nodup_nil
  | v + 1 => by
    simp only [gaO]
    split
    · exact insO_n (gaO_n v)
    · exact gaO_n v
theorem gaO_l : ∀ v : Nat, (gaO A B c L but v).length ≤ v
  | 0 => Nat.le_refl _
  | v + 1 => by
    have := gaO_l v
    simp only [gaO]
    split
    · have := insO_l (c := c) (b := B v) (O := gaO A B c L but v)
      omega
    · omega
end GAO
section BAS
variable {A : aT} {σ : sg_S}
theorem m_outsiderX {b : Int} {O : List Int} {c : Int → Int} {Q : sg_S → Prop} (hc : ∀ x, sg_g σ 116 x = c x) (h : oR σ O) (hl : O.length ≤ 250) (hb : 0 ≤ b ∧ b < 1200) (k : ∀ σ', oR σ' (insO c b O) → Q σ') : V_outsider σ b Q := by
  obtain ⟨h1, h2, h3, h4⟩ := h
  unfold V_outsider
  rw [h1]
  refine ⟨fun n v => n = (O.length - v).toNat ∧ (0 ≤ v ∧ v ≤ O.length) ∧ ∀ (i : Nat) (x : Int), O[i]? = some x → (i : Int) < v → ¬ x = b, b ∉ O, ⟨_, rfl, ⟨by omega, by omega⟩, fun i x _ z => by omega⟩, ?_, fun nb => ?_⟩
  · rintro n v rv ⟨en, hv, hn⟩
    refine ⟨fun z w => ?_, fun z => ⟨⟨by omega, by omega⟩, fun c => ⟨⟨by omega, by omega⟩, _, by omega, rfl, ⟨by omega, by omega⟩, fun i x hx hi => ?_⟩, fun c => k σ ?_⟩⟩
    · obtain ⟨i, hi⟩ := List.mem_iff_getElem?.mp w
      exact hn i b hi (by have := lt_of_get hi; omega) rfl
    · by_cases e : (i : Int) = v
      · intro e2
        have := h2 i x hx
        rw [e] at this
        exact c (by rw [this]; exact e2)
      · exact hn i x hx (by omega)
    · have : b ∈ O := by
        obtain ⟨x, hx⟩ : ∃ q, O[v.toNat]? = some q := ⟨_, List.getElem?_eq_getElem (by omega)⟩
        have := h2 v.toNat x hx
        rw [show ((v.toNat : Nat) : Int) = v by omega, c] at this
        rw [this]
        exact List.mem_of_getElem? hx
      unfold insO
      rw [if_pos this]
      exact ⟨h1, h2, h3, h4⟩
  · have ox : ∀ i : Nat, i < O.length → ∃ x, O[i]? = some x ∧ sg_g σ 119 i = x ∧ 0 ≤ x ∧ x < 1200 := fun i hi => by
      obtain ⟨x, hx⟩ : ∃ q, O[i]? = some q := ⟨_, List.getElem?_eq_getElem hi⟩
      exact ⟨x, hx, h2 i x hx, h4 x (List.mem_of_getElem? hx)⟩
    let J : Int → sg_S → Prop := fun at_ σ' => (0 ≤ at_ ∧ at_ ≤ O.length) ∧ (∀ (i : Nat) (x : Int), O[i]? = some x → (i : Int) < at_ → sg_g σ' 119 i = x) ∧ (∀ (i : Nat) (x : Int), O[i]? = some x → at_ ≤ (i : Int) → sg_g σ' 119 (i + 1) = x) ∧ poO c b O O.length = poO c b O at_.toNat
    have shift : ∀ (at_ : Int) (σ1 σ2 : sg_S), J at_ σ1 → 0 < at_ → c b < c (O.getD (at_ - 1).toNat 0) → σ2 = sg_w σ1 119 at_ (sg_g σ1 119 (at_ - 1)) → J (at_ + -1) σ2 := fun at_ σ1 σ2 hJ h0 hc e => by
      obtain ⟨j1, j2, j3, j4⟩ := hJ
      refine ⟨⟨by omega, by omega⟩, fun i x hx hi => ?_, fun i x hx hi => ?_, ?_⟩
      · rw [e, sg_gw_k _ _ _ _ _ _ (by omega)]; exact j2 i x hx (by omega)
      · by_cases c : (i : Int) + 1 = at_
        · rw [c, e, sg_gw_e _ _ _ _ (sg_Rg _ _ _), show at_ - 1 = (i : Int) by omega]
          exact j2 i x hx (by omega)
        · rw [e, sg_gw_k _ _ _ _ _ _ c]; exact j3 i x hx (by omega)
      · rw [j4, show at_.toNat = (at_ - 1).toNat + 1 by omega]
        simp only [poO]
        rw [if_pos hc]
        rfl
    have J0 : J O.length σ := ⟨⟨by omega, by omega⟩, fun i x hx _ => h2 i x hx, fun i x hx hi => by have := lt_of_get hx; omega, by rw [Int.toNat_natCast]⟩
    have stop : ∀ (at_ : Int) (σ' : sg_S), J at_ σ' → (0 < at_ → ¬ c b < c (O.getD (at_ - 1).toNat 0)) → at_ = (poO c b O O.length : Nat) := fun at_ σ' hJ hs => by
      obtain ⟨j1, j2, j3, j4⟩ := hJ
      rw [j4]
      by_cases z : 0 < at_
      · rw [show at_.toNat = (at_ - 1).toNat + 1 by omega]
        simp only [poO]
        rw [if_neg (hs z)]
        omega
      · rw [show at_.toNat = 0 by omega]
        simp only [poO]
        omega
    refine ⟨fun at_ σ' => J at_ σ' ∧ at_ = (poO c b O O.length : Nat), ⟨fun z => ⟨J0, stop _ _ J0 (fun z2 => by omega)⟩, fun z => ?_⟩, fun at_ σ5 ra f5 ⟨hJ, hat⟩ => ?_⟩
    · obtain ⟨x, x1, x2, x3⟩ := ox (O.length - 1) (by omega)
      have lt : sg_g σ 119 ((O.length : Int) - 1) = x := by rw [← x2]; congr 1; omega
      have gx : O.getD ((O.length : Int) - 1).toNat 0 = x := by rw [List.getD_eq_getElem?_getD, show ((O.length : Int) - 1).toNat = O.length - 1 by omega, x1]; rfl
      refine ⟨⟨by omega, by omega⟩, ⟨by omega, by omega⟩, by rw [lt]; exact x3, hb, fun w => ⟨J0, stop _ _ J0 (fun _ => ?_)⟩, fun w => ⟨⟨by omega, by omega⟩, fun σ6 e6 => ⟨⟨by omega, by omega⟩, fun n at_ σ7 => n = at_.toNat ∧ J at_ σ7, ⟨_, rfl, shift _ _ _ J0 z ?_ e6⟩, ?_⟩⟩⟩
      · rw [lt, hc, hc] at w
        rw [gx]; omega
      · rw [lt, hc, hc] at w
        rw [gx]; exact w
      rintro n at_ σ7 ra f7 ⟨en, hJ⟩
      refine ⟨fun w => ⟨hJ, stop _ _ hJ (fun z2 => by omega)⟩, fun cz => ?_⟩
      have hJ1 := hJ.1
      obtain ⟨y, y1, y2, y3⟩ := ox (at_ - 1).toNat (by omega)
      have ly : sg_g σ7 119 (at_ - 1) = y := by
        have := hJ.2.1 _ y y1 (by omega)
        rwa [show (((at_ - 1).toNat : Nat) : Int) = at_ - 1 by omega] at this
      have gy : O.getD (at_ - 1).toNat 0 = y := by rw [List.getD_eq_getElem?_getD, y1]; rfl
      refine ⟨⟨by omega, by omega⟩, ⟨by omega, by omega⟩, by rw [ly]; exact y3, fun w => ⟨hJ, stop _ _ hJ (fun _ => ?_)⟩, fun w => ⟨⟨by omega, by omega⟩, fun σ8 e8 => ⟨⟨by omega, by omega⟩, _, by omega, rfl, shift _ _ _ hJ cz ?_ e8⟩⟩⟩
      · rw [ly, hc, hc] at w
        rw [gy]; omega
      · rw [ly, hc, hc] at w
        rw [gy]; exact w
    · obtain ⟨j1, j2, j3, j4⟩ := hJ
      refine ⟨⟨by omega, by omega⟩, fun σ6 e6 => ⟨⟨by omega, by omega⟩, fun σ7 e7 => ?_⟩⟩
      have ep : poO c b O O.length = at_.toNat := by omega
      have io : insO c b O = O.take at_.toNat ++ b :: O.drop at_.toNat := by unfold insO; rw [if_neg nb, ep]
      have pm : (O.take at_.toNat ++ b :: O.drop at_.toNat).Perm (b :: O) := by
        have := List.perm_middle (l₁ := O.take at_.toNat) (a := b) (l₂ := O.drop at_.toNat)
        rwa [List.take_append_drop] at this
      have lt : (O.take at_.toNat).length = at_.toNat := by rw [List.length_take]; omega
      refine k σ7 ?_
      rw [io]
      refine ⟨?_, fun i x hx => ?_, ?_, fun x hx => ?_⟩
      · rw [pm.length_eq, e7, sg_gw_e _ _ _ _ ⟨by omega, by omega⟩]; simp
      · have c7 : sg_g σ7 119 i = sg_g σ6 119 i := by rw [e7, sg_gw_c _ _ _ _ _ _ (by decide)]
        rw [c7]
        by_cases c : i < at_.toNat
        · rw [List.getElem?_append_left (by omega), List.getElem?_take_of_lt c] at hx
          rw [e6, sg_gw_k _ _ _ _ _ _ (by omega)]
          exact j2 i x hx (by omega)
        · rw [List.getElem?_append_right (by omega), lt] at hx
          by_cases c2 : i = at_.toNat
          · rw [show i - at_.toNat = 0 by omega] at hx
            cases hx
            rw [e6, show (i : Int) = at_ by omega, sg_gw_e _ _ _ _ ⟨by omega, by omega⟩]
          · rw [show i - at_.toNat = (i - at_.toNat - 1) + 1 by omega, List.getElem?_cons_succ, List.getElem?_drop, show at_.toNat + (i - at_.toNat - 1) = i - 1 by omega] at hx
            have := j3 (i - 1) x hx (by omega)
            rw [e6, sg_gw_k _ _ _ _ _ _ (by omega)]
            rwa [show (((i - 1 : Nat) : Int) + 1) = (i : Int) by omega] at this
      · exact pm.nodup_iff.mpr (List.nodup_cons.mpr ⟨nb, h3⟩)
      · have := pm.mem_iff.mp hx
        rcases List.mem_cons.mp this with e | e
        · rw [e]; exact hb
        · exact h4 x e
def gOx (A : aT) (L : List Int) (B c : Int → Int) (but v : Int) (σ : sg_S) : Prop := oR σ (gaO A B c L but v.toNat)
theorem m_gatherX {but : Int} {L : List Int} {B c : Int → Int} {Q : sg_S → Prop} (hP : trT σ A) (eB : ∀ n, sg_g σ 102 n = B n) (hc : ∀ x, sg_g σ 116 x = c x) (hA : A.1 ≤ 200) (h0 : sg_g σ 88 46 = 0) (hi : iM σ A L) (hL : ∀ y ∈ L, A.2.1 y = 1 → rb A (B y)) (k : ∀ σ', oR σ' (gaO A B c L but A.1.toNat) → sg_F [119, 47088] σ σ' → Q σ') : V_gatherOutside σ but Q := by
  have h8 : sg_g σ 88 8 = A.1 := hP.1.1
  unfold V_gatherOutside
  rw [h8]
  have a0 : 0 ≤ A.1 := hP.1.2.1
  refine ⟨fun n v σ2 => n = (A.1 - v).toNat ∧ (0 ≤ v ∧ v ≤ A.1) ∧ gOx A L B c but v σ2, fun σ2 => gOx A L B c but A.1 σ2, ⟨_, rfl, ⟨by omega, by omega⟩, h0, fun i x h => (by cases h), List.nodup_nil, fun x h => (by cases h)⟩, ?_, fun σ2 f2 o1 => k σ2 o1 f2⟩
  rintro n v σ2 rv f2 ⟨en, hv, o1⟩
  refine ⟨fun z => by rw [show A.1 = v by omega]; exact o1, fun z => ?_⟩
  obtain ⟨t1, -⟩ := tr_k hP (n := v) ⟨hv.1, z⟩
  rw [t1, eB]
  have hM := hi v hv.1 z
  have vn : (v + 1).toNat = v.toNat + 1 := by omega
  have ev : ((v.toNat : Nat) : Int) = v := by omega
  have same : (¬ (v ∈ L ∧ A.2.1 v = 1 ∧ ¬ insL L (B v) ∧ ¬ isG but (B v))) → gOx A L B c but (v + 1) σ2 := fun hn => by
    unfold gOx
    rw [vn]
    simp only [gaO]
    rw [ev, if_neg hn]
    exact o1
  refine ⟨⟨by omega, by omega⟩, fun σ3 => gOx A L B c but (v + 1) σ3, ⟨fun c0 => same (fun h => by rw [hM.1 h.1] at c0; omega), fun c0 => ⟨fun c2 => same (fun h => c2 h.2.1), fun c2 => ?_⟩⟩, fun σ3 f3 h3 => ⟨⟨by omega, by omega⟩, _, by omega, rfl, ⟨by omega, by omega⟩, h3⟩⟩
  have vL : v ∈ L := Decidable.byContradiction (fun w => c0 (hM.2 w))
  obtain ⟨b1, b2, b3⟩ := hL v vL c2
  obtain ⟨b, hb⟩ : ∃ b, b = B v := ⟨_, rfl⟩
  rw [← hb] at b1 b2 b3 ⊢
  have cell : ∀ j, sg_g σ2 120 j = sg_g σ 120 j := fun j => sg_F_ga f2 rfl
  have go : ∀ q27 : Int, (q27 = 0 ↔ ¬ insL L b) → ((¬ q27 = 0 → gOx A L B c but (v + 1) σ2) ∧ (q27 = 0 → ((but < 0 → True) ∧ (0 ≤ but → ((b < 210 → True) ∧ (210 ≤ b → ((1100 ≤ b → True) ∧ (b < 1100 → sg_R (b - 210) ∧ ((¬ (sg_i (b - 210) / sg_i 4).toInt = but → True) ∧ ((sg_i (b - 210) / sg_i 4).toInt = but → True)))))))) ∧ ∀ v36 : Int, v36 = (if but < 0 then (0 : Int) else (if b < 210 then (0 : Int) else (if 1100 ≤ b then (0 : Int) else (if ¬ (sg_i (b - 210) / sg_i 4).toInt = but then (0 : Int) else (1 : Int))))) → sg_R v36 → ((¬ v36 = 0 → gOx A L B c but (v + 1) σ2) ∧ (v36 = 0 → V_outsider σ2 b (fun σ41 => sg_F [119, 47088] σ2 σ41 → gOx A L B c but (v + 1) σ41))))) := fun q27 hq => by
    refine ⟨fun w => same (fun h => w (hq.mpr (by rw [hb]; exact h.2.2.1))), fun w => ⟨⟨fun _ => trivial, fun _ => ⟨fun _ => trivial, fun _ => ⟨fun _ => trivial, fun _ => ⟨⟨by omega, by omega⟩, fun _ => trivial, fun _ => trivial⟩⟩⟩⟩, fun v36 e36 r36 => ?_⟩⟩
    have nI := hq.mp w
    have g36 : v36 = 0 ↔ ¬ isG but b := by
      rw [e36]
      unfold isG
      by_cases d1 : but < 0
      · rw [if_pos d1]; exact ⟨fun _ h => by omega, fun _ => rfl⟩
      · rw [if_neg d1]
        by_cases d2 : b < 210
        · rw [if_pos d2]; exact ⟨fun _ h => by omega, fun _ => rfl⟩
        · rw [if_neg d2]
          by_cases d3 : 1100 ≤ b
          · rw [if_pos d3]; exact ⟨fun _ h => by omega, fun _ => rfl⟩
          · rw [if_neg d3, dvi ⟨by omega, by omega⟩]
            by_cases d4 : (b - 210) / 4 = but
            · rw [if_neg (fun h => h d4)]; exact ⟨fun h => by omega, fun h => absurd ⟨by omega, by omega, by omega, d4⟩ h⟩
            · rw [if_pos d4]; exact ⟨fun _ h => d4 h.2.2.2, fun _ => rfl⟩
    have gl := gaO_l (A := A) (B := B) (c := c) (L := L) (but := but) v.toNat
    refine ⟨fun c3 => same (fun h => c3 (g36.mpr (by rw [hb]; exact h.2.2.2))), fun c3 => m_outsiderX (c := c) (fun x => by rw [sg_F_ga f2 rfl]; exact hc x) o1 (by omega) b1 (fun σ4 p1 _ => ?_)⟩
    unfold gOx
    rw [vn]
    simp only [gaO]
    rw [ev, if_pos ⟨vL, c2, by rw [← hb]; exact nI, by rw [← hb]; exact g36.mp c3⟩, ← hb]
    exact p1
  unfold V_isBoundInside
  refine ⟨fun d1 => ⟨fun d2 _ => go 0 ⟨fun _ h => ?_, fun _ => rfl⟩, fun d2 => ?_⟩, fun d1 => ?_⟩
  · rcases h with h | h <;> omega
  · rw [dvi ⟨by omega, by omega⟩, cell]
    have e := hi ((b - 210) / 4) (by omega) (b3 d1 d2)
    have iff0 : insL L b ↔ (b - 210) / 4 ∈ L := ⟨fun h => by rcases h with h | h; omega; exact h.2.2, fun h => Or.inr ⟨d1, d2, h⟩⟩
    have q0 : insL L b → sg_g σ 120 ((b - 210) / 4) = 0 → False := fun h c3 => by rw [e.1 (iff0.mp h)] at c3; omega
    have q1 : ¬ insL L b → sg_g σ 120 ((b - 210) / 4) = 0 := fun h => e.2 (fun w => h (iff0.mpr w))
    refine ⟨⟨by omega, by omega⟩, ⟨by omega, by omega⟩, fun c3 _ => ?_, fun c3 _ => ?_⟩
    · have g := go 0 ⟨fun _ h => q0 h c3, fun _ => rfl⟩
      rw [dvi ⟨by omega, by omega⟩] at g
      exact g
    · have g := go 1 ⟨fun h => absurd h (by decide), fun h => absurd (q1 h) c3⟩
      rw [dvi ⟨by omega, by omega⟩] at g
      exact g
  · rw [cell]
    have e := hi b b1.1 (b2 d1)
    have iff0 : insL L b ↔ b ∈ L := ⟨fun h => by rcases h with h | h; exact h.2; omega, fun h => Or.inl ⟨d1, h⟩⟩
    by_cases c3 : b ∈ L
    · rw [e.1 c3]
      exact ⟨⟨by omega, by omega⟩, Or.inr rfl, fun _ => go 1 ⟨fun h => by omega, fun h => absurd (iff0.mpr c3) h⟩⟩
    · rw [e.2 c3]
      exact ⟨⟨by omega, by omega⟩, Or.inl rfl, fun _ => go 0 ⟨fun _ h => c3 (iff0.mp h), fun _ => rfl⟩⟩
end BAS
/-! THE FLAT RUN of the reference, turn by turn: begin, leave, the end of a turn. -/
abbrev flL : List Nat := [119, 120, 121, 126, 127, 128, 133, 134, 135, 139, 140, 141, 142, 143, 144, 145, 146, 147, 148, 149, 150, 47088, 50088, 63088, 71088, 74088, 85088, 86088, 87088, 88088, 92088, 94088, 100088, 103088, 104088]
/-- m turns are left -/
def Rf (X : sg_S → Prop) : Nat → sg_S → Prop
  | 0, σ => (sg_g σ 88 62 ≤ 0 → X σ) ∧ (¬ sg_g σ 88 73 = 0 → X σ) ∧ (0 < sg_g σ 88 62 → sg_g σ 88 73 = 0 → False)
  | m + 1, σ => (sg_g σ 88 62 ≤ 0 → X σ) ∧ (¬ sg_g σ 88 73 = 0 → X σ) ∧ (0 < sg_g σ 88 62 → sg_g σ 88 73 = 0 → ∀ Q : sg_S → Prop, (∀ σ', Rf X m σ' → Q σ') → V_goFlat σ (fun σ' => sg_F flL σ σ' → Q σ'))
theorem rf_s {X : sg_S → Prop} {m : Nat} {σ : sg_S} (h : ¬ sg_g σ 88 73 = 0) (hX : X σ) : Rf X m σ := by
  cases m with
  | zero => exact ⟨fun _ => hX, fun _ => hX, fun _ z => absurd z h⟩
  | succ m => exact ⟨fun _ => hX, fun _ => hX, fun _ z => absurd z h⟩
theorem rf_e {X : sg_S → Prop} {m : Nat} {σ : sg_S} (h : sg_g σ 88 62 ≤ 0) (hX : X σ) : Rf X m σ := by
  cases m with
  | zero => exact ⟨fun _ => hX, fun _ => hX, fun z _ => by omega⟩
  | succ m => exact ⟨fun _ => hX, fun _ => hX, fun z _ => by omega⟩
theorem rf_g {X : sg_S → Prop} {m : Nat} {σ : sg_S} (h1 : 0 < sg_g σ 88 62) (h2 : sg_g σ 88 73 = 0) (h : ∀ Q : sg_S → Prop, (∀ σ', Rf X m σ' → Q σ') → V_goFlat σ (fun σ' => sg_F flL σ σ' → Q σ')) : Rf X (m + 1) σ := ⟨fun z => by omega, fun z => absurd h2 z, fun _ _ => h⟩
/-- a frame: its node, stage, values, lanes, what was saved -/
def gfT (σ : sg_S) (f n s b l sv : Int) : Prop := sg_g σ 126 f = n ∧ sg_g σ 127 f = s ∧ sg_g σ 128 f = b ∧ sg_g σ 145 f = l ∧ sg_g σ 146 f = sv
abbrev fbL : List Nat := [126, 127, 128, 145, 146, 63088, 74088, 85088, 86088, 87088]
theorem m_fBeginX {σ : sg_S} {x : Int} {l : Nat} {s : fSt} {Q : sg_S → Prop} (hs : fcX σ s) (hf : 0 ≤ sg_g σ 88 62 ∧ sg_g σ 88 62 < 4000) (hx : sg_R x) (hl : l ≤ 6000) (k0 : fBg l s = none → ∀ σ', sg_g σ' 88 73 = 8 → fcX σ' s → sg_F fbL σ σ' → Q σ') (k1 : ∀ s1, fBg l s = some s1 → ∀ σ', fcX σ' s1 → sg_g σ' 88 62 = sg_g σ 88 62 + 1 → gfT σ' (sg_g σ 88 62) x 0 (sg_g σ 88 70) l (sg_g σ 88 99) → (∀ i, ¬ i = sg_g σ 88 62 → sg_g σ' 126 i = sg_g σ 126 i ∧ sg_g σ' 127 i = sg_g σ 127 i ∧ sg_g σ' 128 i = sg_g σ 128 i ∧ sg_g σ' 145 i = sg_g σ 145 i ∧ sg_g σ' 146 i = sg_g σ 146 i) → sg_F [126, 127, 128, 145, 146, 63088, 85088, 86088, 87088] σ σ' → Q σ') : V_flatBegin σ x (l : Int) Q := by
  have h86 := hs.2.2.1
  unfold V_flatBegin
  refine m_stepX hs ⟨by omega, by omega⟩ (fun e σ' y1 y2 y3 _ _ => ⟨fun z => absurd rfl z, fun _ => k0 (by unfold fBg; rw [e]) σ' y1 y2 (sg_F_m y3 rfl)⟩) (fun s0 e σ1 c1 f1 _ _ => ⟨fun _ v10 e10 r10 σ13 e13 => ⟨hf, fun σ17 e17 σ20 e20 σ23 e23 σ26 e26 σ29 e29 => ⟨⟨by omega, by omega⟩, fun σ33 e33 => ?_⟩⟩, fun z => by omega⟩)
  have F1 : sg_F [126, 127, 128, 145, 146, 63088, 87088] σ1 σ33 := by
    rw [e33, e29, e26, e23, e20, e17, e13]
    exact sg_F_w (sg_F_w (sg_F_w (sg_F_w (sg_F_w (sg_F_w (sg_F_w (sg_F_r _ _) rfl _) rfl _) rfl _) rfl _) rfl _) rfl _) rfl _
  obtain ⟨z1, z2, z3, z4, z5⟩ := fStp_s e
  obtain ⟨c84, c85, c86, c0⟩ := c1
  have w86 : sg_g σ33 88 86 = v10 := by rw [e33, sg_gw_k _ _ _ _ _ _ (by decide), e29, sg_gw_c _ _ _ _ _ _ (by decide), e26, sg_gw_c _ _ _ _ _ _ (by decide), e23, sg_gw_c _ _ _ _ _ _ (by decide), e20, sg_gw_c _ _ _ _ _ _ (by decide), e17, sg_gw_c _ _ _ _ _ _ (by decide), e13, sg_gw_e _ _ _ _ r10]
  have ev : v10 = if s0.2.2 < (l : Int) then (l : Int) else s0.2.2 := by
    rw [e10, h86, z3]
    by_cases q : (l : Int) ≤ s.2.2
    · rw [if_pos q, if_neg (by omega)]
    · rw [if_neg q, if_pos (by omega)]
  refine k1 (s0.1, s0.2.1, if s0.2.2 < (l : Int) then (l : Int) else s0.2.2) (by unfold fBg; rw [e]) σ33 ⟨by rw [sg_F_g F1 (by rfl)]; exact c84, by rw [sg_F_g F1 (by rfl)]; exact c85, by rw [w86]; exact ev, c0⟩ (by rw [e33, sg_gw_e _ _ _ _ ⟨by omega, by omega⟩]) ⟨?_, ?_, ?_, ?_, ?_⟩ (fun i hi => ⟨?_, ?_, ?_, ?_, ?_⟩) (sg_F_t (sg_F_m f1 rfl) (sg_F_m F1 rfl))
  · rw [e33, sg_gw_c _ _ _ _ _ _ (by decide), e29, sg_gw_c _ _ _ _ _ _ (by decide), e26, sg_gw_c _ _ _ _ _ _ (by decide), e23, sg_gw_c _ _ _ _ _ _ (by decide), e20, sg_gw_c _ _ _ _ _ _ (by decide), e17, sg_gw_e _ _ _ _ hx]
  · rw [e33, sg_gw_c _ _ _ _ _ _ (by decide), e29, sg_gw_c _ _ _ _ _ _ (by decide), e26, sg_gw_c _ _ _ _ _ _ (by decide), e23, sg_gw_c _ _ _ _ _ _ (by decide), e20, sg_gw_e _ _ _ _ ⟨by decide, by decide⟩]
  · rw [e33, sg_gw_c _ _ _ _ _ _ (by decide), e29, sg_gw_c _ _ _ _ _ _ (by decide), e26, sg_gw_c _ _ _ _ _ _ (by decide), e23, sg_gw_e _ _ _ _ (sg_Rg _ _ _)]
  · rw [e33, sg_gw_c _ _ _ _ _ _ (by decide), e29, sg_gw_c _ _ _ _ _ _ (by decide), e26, sg_gw_e _ _ _ _ ⟨by omega, by omega⟩]
  · rw [e33, sg_gw_c _ _ _ _ _ _ (by decide), e29, sg_gw_e _ _ _ _ (sg_Rg _ _ _)]
  · rw [e33, sg_gw_c _ _ _ _ _ _ (by decide), e29, sg_gw_c _ _ _ _ _ _ (by decide), e26, sg_gw_c _ _ _ _ _ _ (by decide), e23, sg_gw_c _ _ _ _ _ _ (by decide), e20, sg_gw_c _ _ _ _ _ _ (by decide), e17, sg_gw_k _ _ _ _ _ _ hi, e13, sg_gw_c _ _ _ _ _ _ (by decide), sg_F_ga f1 rfl]
  · rw [e33, sg_gw_c _ _ _ _ _ _ (by decide), e29, sg_gw_c _ _ _ _ _ _ (by decide), e26, sg_gw_c _ _ _ _ _ _ (by decide), e23, sg_gw_c _ _ _ _ _ _ (by decide), e20, sg_gw_k _ _ _ _ _ _ hi, e17, sg_gw_c _ _ _ _ _ _ (by decide), e13, sg_gw_c _ _ _ _ _ _ (by decide), sg_F_ga f1 rfl]
  · rw [e33, sg_gw_c _ _ _ _ _ _ (by decide), e29, sg_gw_c _ _ _ _ _ _ (by decide), e26, sg_gw_c _ _ _ _ _ _ (by decide), e23, sg_gw_k _ _ _ _ _ _ hi, e20, sg_gw_c _ _ _ _ _ _ (by decide), e17, sg_gw_c _ _ _ _ _ _ (by decide), e13, sg_gw_c _ _ _ _ _ _ (by decide), sg_F_ga f1 rfl]
  · rw [e33, sg_gw_c _ _ _ _ _ _ (by decide), e29, sg_gw_c _ _ _ _ _ _ (by decide), e26, sg_gw_k _ _ _ _ _ _ hi, e23, sg_gw_c _ _ _ _ _ _ (by decide), e20, sg_gw_c _ _ _ _ _ _ (by decide), e17, sg_gw_c _ _ _ _ _ _ (by decide), e13, sg_gw_c _ _ _ _ _ _ (by decide), sg_F_ga f1 rfl]
  · rw [e33, sg_gw_c _ _ _ _ _ _ (by decide), e29, sg_gw_k _ _ _ _ _ _ hi, e26, sg_gw_c _ _ _ _ _ _ (by decide), e23, sg_gw_c _ _ _ _ _ _ (by decide), e20, sg_gw_c _ _ _ _ _ _ (by decide), e17, sg_gw_c _ _ _ _ _ _ (by decide), e13, sg_gw_c _ _ _ _ _ _ (by decide), sg_F_ga f1 rfl]
theorem m_fLeaveX {σ : sg_S} {f b v : Int} {Q : sg_S → Prop} (h62 : sg_g σ 88 62 = f + 1) (f0 : 0 ≤ f ∧ f < 4000) (h128 : sg_g σ 128 f = b) (hb : 0 ≤ b ∧ b < 12000) (hv : sg_R v) (k : ∀ σ', sg_g σ' 88 62 = f → sg_g σ' 88 70 = b + 1 → sg_g σ' 133 b = v → (∀ x, ¬ x = b → sg_g σ' 133 x = sg_g σ 133 x) → sg_F [133, 63088, 71088] σ σ' → Q σ') : V_flatLeave σ v Q := by
  unfold V_flatLeave
  rw [h62, show f + 1 - 1 = f by omega, h128]
  refine ⟨⟨by omega, by omega⟩, fun σ2 e2 => ⟨f0, fun σ6 e6 => ⟨hb, fun σ10 e10 => ⟨⟨by omega, by omega⟩, fun σ14 e14 => k σ14 ?_ ?_ ?_ (fun x hx => ?_) ?_⟩⟩⟩⟩
  · rw [e14, sg_gw_k _ _ _ _ _ _ (by decide), e10, sg_gw_c _ _ _ _ _ _ (by decide), e6, sg_gw_k _ _ _ _ _ _ (by decide), e2, sg_gw_e _ _ _ _ ⟨by omega, by omega⟩]
  · rw [e14, sg_gw_e _ _ _ _ ⟨by omega, by omega⟩]
  · rw [e14, sg_gw_c _ _ _ _ _ _ (by decide), e10, sg_gw_e _ _ _ _ hv]
  · rw [e14, sg_gw_c _ _ _ _ _ _ (by decide), e10, sg_gw_k _ _ _ _ _ _ hx, e6, sg_gw_c _ _ _ _ _ _ (by decide), e2, sg_gw_c _ _ _ _ _ _ (by decide)]
  · rw [e14, e10, e6, e2]; exact sg_F_w (sg_F_w (sg_F_w (sg_F_w (sg_F_r _ _) rfl _) rfl _) rfl _) rfl _
/-- the end of a node's turn -/
def gfE (σ24 : sg_S) (v : Int) (Q : sg_S → Prop) : Prop := ∃ P31 : sg_S → Prop, ((¬ sg_g σ24 88 73 = 0 → P31 σ24) ∧ (sg_g σ24 88 73 = 0 → ((sg_g σ24 88 102 < 0 → P31 σ24) ∧ (0 ≤ sg_g σ24 88 102 → ∀ σ43, σ43 = sg_w σ24 88 73 (sg_g σ24 88 103) → P31 σ43)))) ∧ (∀ (σ32 : sg_S), sg_F [74088] σ24 σ32 → P31 σ32 → ((¬ sg_g σ32 88 73 = 0 → Q σ32) ∧ (sg_g σ32 88 73 = 0 → V_flatLeave σ32 v (fun σ37 => sg_F [133, 63088, 71088] σ32 σ37 → Q σ37))))
section GFE
variable {σ24 : sg_S} {v : Int} {Q : sg_S → Prop}
theorem gfE_a (h : ¬ sg_g σ24 88 73 = 0) (hQ : Q σ24) : gfE σ24 v Q := ⟨fun σ' => σ' = σ24, ⟨fun _ => rfl, fun z => absurd z h⟩, fun σ32 _ e => by subst e; exact ⟨fun _ => hQ, fun z => absurd z h⟩⟩
theorem gfE_b {e : Int} (h : sg_g σ24 88 73 = 0) (h2 : fqX σ24 e) (he : ¬ e = 0) (hQ : ∀ σ43, sg_g σ43 88 73 = e → sg_F [74088] σ24 σ43 → Q σ43) : gfE σ24 v Q := by
  rcases h2 with ⟨q, -⟩ | ⟨q1, q2, q3⟩
  · exact absurd q he
  · refine ⟨fun σ' => σ' = sg_w σ24 88 73 (sg_g σ24 88 103), ⟨fun z => absurd h z, fun _ => ⟨fun z => by omega, fun _ σ43 e43 => e43⟩⟩, fun σ32 f32 e32 => ?_⟩
    have c : sg_g σ32 88 73 = e := by rw [e32, sg_gw_e _ _ _ _ (sg_Rg _ _ _)]; exact q3
    exact ⟨fun _ => hQ σ32 c f32, fun z => absurd (c.symm.trans z) he⟩
theorem gfE_c (h : sg_g σ24 88 73 = 0) (h2 : sg_g σ24 88 102 < 0) (hL : V_flatLeave σ24 v (fun σ37 => sg_F [133, 63088, 71088] σ24 σ37 → Q σ37)) : gfE σ24 v Q := ⟨fun σ' => σ' = σ24, ⟨fun z => absurd h z, fun _ => ⟨fun _ => rfl, fun z => by omega⟩⟩, fun σ32 _ e => by subst e; exact ⟨fun z => absurd h z, fun _ => hL⟩⟩
end GFE
section GFT
variable {σ : sg_S} {A : aT} {D : List aDf} {T B : Int → Int} {f n s b l sv : Int} {Q : sg_S → Prop}
/-- a part is begun -/
theorem gf_part {x : Int} {j : Nat} (hX : pgX σ A D T B) (hn : 0 ≤ n ∧ n < A.1) (hf : sg_g σ 88 62 = f + 1) (f0 : 0 ≤ f ∧ f < 4000) (h : gfT σ f n (j : Int) b l sv) (k15 : ¬ A.2.1 n = 15) (k3 : ¬ A.2.1 n = 3) (k2 : ¬ (A.2.1 n = 2 ∧ j = 1)) (hx : (A.2.2.2.2.1 n)[j]? = some x) (k : ∀ σ13, σ13 = sg_w σ 127 f (j + 1) → ∀ Q' : sg_S → Prop, (∀ σ', Q σ' → Q' σ') → V_flatBegin σ13 x l Q') : V_goFlat σ Q := by
  obtain ⟨h1, h2, h3, h4, h5⟩ := h
  obtain ⟨t1, t2, t3, t4, t5⟩ := tr_k hX.1 hn
  have hA := hX.2.2.2.2.1
  have ef : sg_g σ 88 62 - 1 = f := by omega
  have hj := gE_l hx
  unfold V_goFlat
  rw [ef, h1, h2, h3, h4, t1, t2]
  refine ⟨⟨by omega, by omega⟩, f0, ⟨hn.1, by omega⟩, fun _ => ⟨fun _ => ⟨fun σ9 => σ9 = σ, ⟨fun _ => rfl, fun z => ⟨fun _ => rfl, fun y => absurd ⟨z, by omega⟩ k2⟩⟩, fun σ9 _ e9 => ?_⟩, fun z3 => absurd z3 k3⟩, fun z => absurd z k15⟩
  subst e9
  refine ⟨⟨by omega, by omega⟩, fun σ13 e13 => ⟨fun z => by omega, fun _ => ?_⟩⟩
  rw [t4 j x hx]
  exact ⟨⟨by omega, by omega⟩, ⟨by omega, by omega⟩, ⟨by omega, by omega⟩, k σ13 e13 _ (fun σ' hq _ => hq)⟩
theorem gf_let {x c : Int} (hX : pgX σ A D T B) (hn : 0 ≤ n ∧ n < A.1) (hf : sg_g σ 88 62 = f + 1) (f0 : 0 ≤ f ∧ f < 4000) (h : gfT σ f n 1 b l sv) (k2 : A.2.1 n = 2) (hc : (A.2.2.2.2.1 n)[1]? = some c) (hv : sg_g σ 88 70 = x + 1) (hx : 0 ≤ x ∧ x < 12000) (k : ∀ σ9 σ13, σ9 = sg_w (sg_w σ 88 70 x) 134 n (sg_g σ 133 x) → σ13 = sg_w σ9 127 f 2 → ∀ Q' : sg_S → Prop, (∀ σ', Q σ' → Q' σ') → V_flatBegin σ13 c l Q') : V_goFlat σ Q := by
  obtain ⟨h1, h2, h3, h4, h5⟩ := h
  obtain ⟨t1, t2, t3, t4, t5⟩ := tr_k hX.1 hn
  have hA := hX.2.2.2.2.1
  have ef : sg_g σ 88 62 - 1 = f := by omega
  have ex : sg_g σ 88 70 - 1 = x := by omega
  have hj := gE_l hc
  unfold V_goFlat
  rw [ef, h1, h2, h3, h4, t1, t2, ex]
  refine ⟨⟨by omega, by omega⟩, f0, ⟨hn.1, by omega⟩, fun _ => ⟨fun _ => ⟨fun σ9 => σ9 = sg_w (sg_w σ 88 70 x) 134 n (sg_g σ 133 x), ⟨fun z => absurd k2 z, fun _ => ⟨fun y => absurd rfl y, fun _ => ⟨⟨by omega, by omega⟩, fun σ75 e75 => ⟨hx, fun σ79 e79 => by rw [e79, e75]⟩⟩⟩⟩, fun σ9 _ e9 => ?_⟩, fun z3 => by omega⟩, fun z => by omega⟩
  refine ⟨⟨by omega, by omega⟩, fun σ13 e13 => ⟨fun z => by omega, fun _ => ?_⟩⟩
  have tc := t4 1 c hc
  rw [show (200 : Int) * n + ((1 : Nat) : Int) = 200 * n + 1 by omega] at tc
  rw [tc]
  exact ⟨⟨by omega, by omega⟩, ⟨by omega, by omega⟩, ⟨by omega, by omega⟩, k σ9 σ13 e9 e13 _ (fun σ' hq _ => hq)⟩
/-- a node behind its parts -/
theorem gf_op (hX : pgX σ A D T B) (hn : 0 ≤ n ∧ n < A.1) (hf : sg_g σ 88 62 = f + 1) (f0 : 0 ≤ f ∧ f < 4000) (h : gfT σ f n s b l sv) (hk : ¬ A.2.1 n = 1 ∧ ¬ A.2.1 n = 2 ∧ ¬ A.2.1 n = 3 ∧ ¬ A.2.1 n = 13 ∧ ¬ A.2.1 n = 15) (hs : s = (A.2.2.2.2.1 n).length) (k : ∀ σ18, σ18 = sg_w (sg_w σ 127 f (s + 1)) 88 102 (-1) → ∀ P : Int → sg_S → Prop, (∀ q σ', sg_R q → sg_F wkL σ18 σ' → gfE σ' q Q → P q σ') → V_flatWorked σ18 n b l (fun q σ' => sg_R q → sg_F wkL σ18 σ' → P q σ')) : V_goFlat σ Q := by
  obtain ⟨h1, h2, h3, h4, h5⟩ := h
  obtain ⟨t1, t2, t3, t4, t5⟩ := tr_k hX.1 hn
  have hA := hX.2.2.2.2.1
  obtain ⟨k1, k2, k3, k13, k15⟩ := hk
  have ef : sg_g σ 88 62 - 1 = f := by omega
  unfold V_goFlat
  rw [ef, h1, h2, h3, h4, t1, t2]
  refine ⟨⟨by omega, by omega⟩, f0, ⟨hn.1, by omega⟩, fun _ => ⟨fun _ => ⟨fun σ9 => σ9 = σ, ⟨fun _ => rfl, fun z => absurd z k2⟩, fun σ9 _ e9 => ?_⟩, fun z3 => absurd z3 k3⟩, fun z => absurd z k15⟩
  subst e9
  refine ⟨⟨by omega, by omega⟩, fun σ13 e13 => ⟨fun _ => ⟨fun _ σ18 e18 => ?_, fun z => absurd z k13⟩, fun z => by omega⟩⟩
  exact ⟨fun q σ' => gfE σ' q Q, ⟨fun _ => ⟨fun z => absurd z k2, fun _ => ⟨fun _ => k σ18 (by rw [e18, e13]) _ (fun q σ' _ _ g => g), fun z => absurd z k13⟩⟩, fun z => absurd z k1⟩, fun v26 σ24 _ _ g => g⟩
/-- a variable -/
theorem gf_var (hX : pgX σ A D T B) (hn : 0 ≤ n ∧ n < A.1) (hf : sg_g σ 88 62 = f + 1) (f0 : 0 ≤ f ∧ f < 4000) (h : gfT σ f n 0 b l sv) (k1 : A.2.1 n = 1) (hl : (A.2.2.2.2.1 n).length = 0) (hB : 0 ≤ B n ∧ B n < 1200) (k : ∀ σ18, σ18 = sg_w (sg_w σ 127 f 1) 88 102 (-1) → gfE σ18 (sg_g σ 134 (B n)) Q) : V_goFlat σ Q := by
  obtain ⟨h1, h2, h3, h4, h5⟩ := h
  obtain ⟨t1, t2, t3, t4, t5⟩ := tr_k hX.1 hn
  have hA := hX.2.2.2.2.1
  have ef : sg_g σ 88 62 - 1 = f := by omega
  have eB : sg_g σ 102 n = B n := by rw [hX.2.2.2.1]
  unfold V_goFlat
  rw [ef, h1, h2, h3, h4, t1, t2, eB, hl]
  refine ⟨⟨by omega, by omega⟩, f0, ⟨hn.1, by omega⟩, fun _ => ⟨fun _ => ⟨fun σ9 => σ9 = σ, ⟨fun _ => rfl, fun z => by omega⟩, fun σ9 _ e9 => ?_⟩, fun z3 => by omega⟩, fun z => by omega⟩
  subst e9
  refine ⟨⟨by omega, by omega⟩, fun σ13 e13 => ⟨fun _ => ⟨fun _ σ18 e18 => ?_, fun z => by omega⟩, fun z => by omega⟩⟩
  exact ⟨fun q σ' => gfE σ' q Q, ⟨fun z => absurd k1 z, fun _ => ⟨hB, k σ18 (by rw [e18, e13]; rfl)⟩⟩, fun v26 σ24 _ _ g => g⟩
/-- let, call: the value that is there -/
theorem gf_val (hX : pgX σ A D T B) (hn : 0 ≤ n ∧ n < A.1) (hf : sg_g σ 88 62 = f + 1) (f0 : 0 ≤ f ∧ f < 4000) (h : gfT σ f n s b l sv) (hk : (A.2.1 n = 2 ∧ s = (A.2.2.2.2.1 n).length ∧ ¬ s = 1) ∨ (A.2.1 n = 13 ∧ s = (A.2.2.2.2.1 n).length + 1)) (hb : 0 ≤ b ∧ b < 12000) (k : ∀ σ18, σ18 = sg_w (sg_w σ 127 f (s + 1)) 88 102 (-1) → gfE σ18 (sg_g σ 133 b) Q) : V_goFlat σ Q := by
  obtain ⟨h1, h2, h3, h4, h5⟩ := h
  obtain ⟨t1, t2, t3, t4, t5⟩ := tr_k hX.1 hn
  have hA := hX.2.2.2.2.1
  have ef : sg_g σ 88 62 - 1 = f := by omega
  unfold V_goFlat
  rw [ef, h1, h2, h3, h4, t1, t2]
  refine ⟨⟨by omega, by omega⟩, f0, ⟨hn.1, by omega⟩, fun _ => ⟨fun _ => ⟨fun σ9 => σ9 = σ, ⟨fun _ => rfl, fun z => ⟨fun _ => rfl, fun y => by omega⟩⟩, fun σ9 _ e9 => ?_⟩, fun z3 => by omega⟩, fun z => by omega⟩
  subst e9
  refine ⟨⟨by omega, by omega⟩, fun σ13 e13 => ⟨fun _ => ⟨fun c13 σ18 e18 => ?_, fun c13 => ⟨fun _ σ18 e18 => ?_, fun z => by omega⟩⟩, fun z => by omega⟩⟩
  · have e := k σ18 (by rw [e18, e13])
    exact ⟨fun q σ' => gfE σ' q Q, ⟨fun _ => ⟨fun _ => ⟨hb, e⟩, fun z => by omega⟩, fun z => by omega⟩, fun v26 σ24 _ _ g => g⟩
  · have e := k σ18 (by rw [e18, e13])
    exact ⟨fun q σ' => gfE σ' q Q, ⟨fun _ => ⟨fun z => by omega, fun _ => ⟨fun z => absurd c13 z, fun _ => ⟨hb, e⟩⟩⟩, fun z => by omega⟩, fun v26 σ24 _ _ g => g⟩
theorem gf_call {q : Int} (hX : pgX σ A D T B) (hn : 0 ≤ n ∧ n < A.1) (hf : sg_g σ 88 62 = f + 1) (f0 : 0 ≤ f ∧ f < 4000) (h : gfT σ f n s b l sv) (k13 : A.2.1 n = 13) (hs : s = (A.2.2.2.2.1 n).length) (hl : (A.2.2.2.2.1 n).length ≤ 6) (hq : B n = q) (q0 : 0 ≤ q ∧ q < 12) (hb : 0 ≤ b ∧ b + (A.2.2.2.2.1 n).length ≤ 12000) (k : ∀ σ46, sg_F [127, 134, 71088] σ σ46 → (∀ j : Nat, j < (A.2.2.2.2.1 n).length → sg_g σ46 134 (1100 + 6 * q + j) = sg_g σ 133 (b + j)) → (∀ x, ¬ (1100 + 6 * q ≤ x ∧ x < 1100 + 6 * q + (A.2.2.2.2.1 n).length) → sg_g σ46 134 x = sg_g σ 134 x) → sg_g σ46 127 f = s + 1 → (∀ i, ¬ i = f → sg_g σ46 127 i = sg_g σ 127 i) → sg_g σ46 88 70 = b → ∀ Q' : sg_S → Prop, (∀ σ', Q σ' → Q' σ') → V_flatBegin σ46 (sg_g σ 105 q) l Q') : V_goFlat σ Q := by
  obtain ⟨h1, h2, h3, h4, h5⟩ := h
  obtain ⟨t1, t2, t3, t4, t5⟩ := tr_k hX.1 hn
  have hA := hX.2.2.2.2.1
  have ef : sg_g σ 88 62 - 1 = f := by omega
  have eB : sg_g σ 102 n = q := by rw [hX.2.2.2.1]; exact hq
  unfold V_goFlat
  rw [ef, h1, h2, h3, h4, t1, t2, eB]
  refine ⟨⟨by omega, by omega⟩, f0, ⟨hn.1, by omega⟩, fun _ => ⟨fun _ => ⟨fun σ9 => σ9 = σ, ⟨fun _ => rfl, fun z => by omega⟩, fun σ9 _ e9 => ?_⟩, fun z3 => by omega⟩, fun z => by omega⟩
  subst e9
  refine ⟨⟨by omega, by omega⟩, fun σ13 e13 => ⟨fun _ => ⟨fun c => absurd k13 c, fun _ => ⟨fun z => absurd hs z, fun _ => ?_⟩⟩, fun z => by omega⟩⟩
  have f13 : sg_F [127] σ9 σ13 := by rw [e13]; exact sg_F_w (sg_F_r _ _) rfl _
  refine ⟨fun m v27 σ28 => ∃ j : Nat, v27 = j ∧ m = (A.2.2.2.2.1 n).length - j ∧ j ≤ (A.2.2.2.2.1 n).length ∧ (∀ j' : Nat, j' < j → sg_g σ28 134 (1100 + 6 * q + j') = sg_g σ9 133 (b + j')) ∧ ∀ x, ¬ (1100 + 6 * q ≤ x ∧ x < 1100 + 6 * q + j) → sg_g σ28 134 x = sg_g σ9 134 x, fun σ28 => (∀ j' : Nat, j' < (A.2.2.2.2.1 n).length → sg_g σ28 134 (1100 + 6 * q + j') = sg_g σ9 133 (b + j')) ∧ ∀ x, ¬ (1100 + 6 * q ≤ x ∧ x < 1100 + 6 * q + (A.2.2.2.2.1 n).length) → sg_g σ28 134 x = sg_g σ9 134 x, ⟨_, 0, rfl, rfl, Nat.zero_le _, fun j' hj => by omega, fun x _ => sg_F_ga f13 rfl⟩, ?_, ?_⟩
  · rintro m v27 σ28 r27 f28 ⟨j, rfl, em, hj, a1, a2⟩
    have ep : v_ofParam q (j : Int) = 1100 + 6 * q + j := rfl
    refine ⟨fun z => ⟨fun j' hj' => a1 j' (by omega), fun x hx => a2 x (by omega)⟩, fun z => ⟨⟨⟨by omega, by omega⟩, ⟨by omega, by omega⟩, ⟨by omega, by omega⟩, trivial⟩, ⟨by omega, by omega⟩, ⟨by omega, by omega⟩, by rw [ep]; exact ⟨by omega, by omega⟩, fun σ62 e62 => ⟨⟨by omega, by omega⟩, (A.2.2.2.2.1 n).length - (j + 1), by omega, j + 1, by omega, rfl, by omega, fun j' hj' => ?_, fun x hx => ?_⟩⟩⟩
    · rw [ep] at e62
      by_cases c : j' = j
      · subst c; rw [e62, sg_gw_e _ _ _ _ (sg_Rg _ _ _)]
      · rw [e62, sg_gw_k _ _ _ _ _ _ (by omega)]; exact a1 j' (by omega)
    · rw [ep] at e62
      rw [e62, sg_gw_k _ _ _ _ _ _ (by omega)]; exact a2 x (by omega)
  · rintro σ28 f28 ⟨a1, a2⟩ σ46 e46
    refine ⟨q0, k σ46 ?_ (fun j hj => ?_) (fun x hx => ?_) ?_ (fun i hi => ?_) ?_ _ (fun σ' hq _ => hq)⟩
    · rw [e46]; exact sg_F_w (sg_F_t (sg_F_m f13 rfl) (sg_F_m f28 rfl)) rfl _
    · rw [e46, sg_gw_c _ _ _ _ _ _ (by decide)]; exact a1 j hj
    · rw [e46, sg_gw_c _ _ _ _ _ _ (by decide)]; exact a2 x hx
    · rw [e46, sg_gw_c _ _ _ _ _ _ (by decide), sg_F_ga f28 rfl, e13, sg_gw_e _ _ _ _ ⟨by omega, by omega⟩]
    · rw [e46, sg_gw_c _ _ _ _ _ _ (by decide), sg_F_ga f28 rfl, e13, sg_gw_k _ _ _ _ _ _ hi]
    · rw [e46, sg_gw_e _ _ _ _ ⟨by omega, by omega⟩]
theorem gf_if (hX : pgX σ A D T B) (hn : 0 ≤ n ∧ n < A.1) (hf : sg_g σ 88 62 = f + 1) (f0 : 0 ≤ f ∧ f < 4000) (h1 : sg_g σ 126 f = n) (k3 : A.2.1 n = 3) (k : ∀ Q' : sg_S → Prop, (∀ σ', Q σ' → Q' σ') → V_flatIf σ f Q') : V_goFlat σ Q := by
  obtain ⟨t1, t2, t3, t4, t5⟩ := tr_k hX.1 hn
  have hA := hX.2.2.2.2.1
  have ef : sg_g σ 88 62 - 1 = f := by omega
  unfold V_goFlat
  rw [ef, h1, t1]
  exact ⟨⟨by omega, by omega⟩, f0, ⟨hn.1, by omega⟩, fun _ => ⟨fun z => absurd k3 z, fun _ => k _ (fun σ' hq _ => hq)⟩, fun z => by omega⟩
theorem gf_each (hX : pgX σ A D T B) (hn : 0 ≤ n ∧ n < A.1) (hf : sg_g σ 88 62 = f + 1) (f0 : 0 ≤ f ∧ f < 4000) (h1 : sg_g σ 126 f = n) (k15 : A.2.1 n = 15) (k : ∀ Q' : sg_S → Prop, (∀ σ', Q σ' → Q' σ') → V_flatEach σ f Q') : V_goFlat σ Q := by
  obtain ⟨t1, t2, t3, t4, t5⟩ := tr_k hX.1 hn
  have hA := hX.2.2.2.2.1
  have ef : sg_g σ 88 62 - 1 = f := by omega
  unfold V_goFlat
  rw [ef, h1, t1]
  exact ⟨⟨by omega, by omega⟩, f0, ⟨hn.1, by omega⟩, fun z => absurd k15 z, fun _ => k _ (fun σ' hq _ => hq)⟩
end GFT
/-! THE FLAT RUN of the reference in big steps: what is kept. -/
section BCD
variable (A : aT) (D : List aDf) (T : Int → Int)
/-- what y is bound to -/
def rlF (σ : sg_S) (ρ : fEv) (y : Int) : Prop := ∃ R, fX σ 6000 (sg_g σ 134 y) (bTy A D T y).toNat (ρ y) R
/-- a scope in m lanes -/
def scFX (σ : sg_S) (ρ : fEv) (m : Nat) (sc : List (Int × Int)) : Prop := ∀ p ∈ sc, (0 ≤ p.1 ∧ p.1 < 1200) ∧ p.2 = bTy A D T p.1 ∧ rlF A D T σ ρ p.1 ∧ (ρ p.1).length = m
/-- between turns -/
def fSs (σb σ : sg_S) (fr b sv : Int) (s : fSt) : Prop := sg_F flL σb σ ∧ sg_g σ 88 73 = 0 ∧ (sg_g σ 88 62 = fr ∧ sg_g σ 88 70 = b ∧ sg_g σ 88 99 = sv) ∧ fcX σ s ∧ fN σ
/-- the same, with room for a few values more -/
def fSw (σb σ : sg_S) (fr b sv : Int) (s : fSt) : Prop := sg_F flL σb σ ∧ sg_g σ 88 73 = 0 ∧ (sg_g σ 88 62 = fr ∧ sg_g σ 88 70 = b ∧ sg_g σ 88 99 = sv) ∧ fcX σ s ∧ fNw σ
def rw6 (σ σ' : sg_S) (i : Int) : Prop := sg_g σ' 126 i = sg_g σ 126 i ∧ sg_g σ' 127 i = sg_g σ 127 i ∧ sg_g σ' 128 i = sg_g σ 128 i ∧ sg_g σ' 145 i = sg_g σ 145 i ∧ sg_g σ' 146 i = sg_g σ 146 i ∧ sg_g σ' 147 i = sg_g σ 147 i
/-- what stays while a node is worked out -/
def fKp (σ σ' : sg_S) (ρ ρ' : fEv) (fr b sv : Int) : Prop := fEx σ σ' ∧ (∀ x, x < b → sg_g σ' 133 x = sg_g σ 133 x) ∧ (∀ y, rlF A D T σ ρ y → rlF A D T σ' ρ' y) ∧ (∀ i, i < fr → rw6 σ σ' i) ∧ ∀ i, i < sv → sg_g σ' 148 i = sg_g σ 148 i ∧ sg_g σ' 149 i = sg_g σ 149 i
variable (σb : sg_S) (X : sg_S → Prop)
/-- what a node is to be followed by -/
def kF (σ : sg_S) (ρ : fEv) (fr b sv : Int) (d : Nat) : fRs → Prop
  | .inl (e, s') => ∀ σ', sg_F flL σb σ' → sg_g σ' 88 73 = e → ¬ e = 0 → fcX σ' s' → X σ'
  | .inr (v, s', ρ') => ∀ σ' m', fSs σb σ' fr (b + 1) sv s' → fKp A D T σ σ' ρ ρ' fr b sv → (∃ R, fX σ' 6000 (sg_g σ' 133 b) d v R) → 2 * (2000 - s'.1) + fr ≤ ((m' : Nat) : Int) → Rf X m' σ'
/-- the big step of a node, from its begin on -/
def gfN (B : Int → Int) (lev : Int → Nat) (O : Int → Nat → List Int) (call : Int → Nat → fEv → fSt → fRs) (j f : Nat) : Prop := ∀ (n : Int) (L : List Int) (sc : List (Int × Int)), stN A D T B lev j f L sc n → ∀ (σ : sg_S) (m l : Nat) (ρ : fEv) (fr b sv : Int) (s : fSt), fSw σb σ fr b sv s → l ≤ 6000 → scFX A D T σ ρ l sc → 2 * (2000 - s.1) + fr ≤ (m : Int) + 1 → kF A D T σb X σ ρ fr b sv (T n).toNat (fxN A D T B O call f n l ρ s) → ∀ Q : sg_S → Prop, (∀ σ', Rf X m σ' → Q σ') → V_flatBegin σ n (l : Int) Q
end BCD
section BCL
variable {A : aT} {D : List aDf} {T B : Int → Int} {σb : sg_S} {X : sg_S → Prop}
theorem rw6_r (σ : sg_S) (i : Int) : rw6 σ σ i := ⟨rfl, rfl, rfl, rfl, rfl, rfl⟩
theorem rw6_t {σ σ1 σ2 : sg_S} {i : Int} (h : rw6 σ σ1 i) (g : rw6 σ1 σ2 i) : rw6 σ σ2 i := by
  obtain ⟨a1, a2, a3, a4, a5, a6⟩ := h
  obtain ⟨b1, b2, b3, b4, b5, b6⟩ := g
  exact ⟨b1.trans a1, b2.trans a2, b3.trans a3, b4.trans a4, b5.trans a5, b6.trans a6⟩
theorem rw6_F {L : List Nat} {σ σ' : sg_S} (f : sg_F L σ σ') (hL : (sg_ca L 126 && sg_ca L 127 && sg_ca L 128 && sg_ca L 145 && sg_ca L 146 && sg_ca L 147) = true) (i : Int) : rw6 σ σ' i := by
  simp only [Bool.and_eq_true] at hL
  obtain ⟨⟨⟨⟨⟨l1, l2⟩, l3⟩, l4⟩, l5⟩, l6⟩ := hL
  exact ⟨sg_F_ga f l1, sg_F_ga f l2, sg_F_ga f l3, sg_F_ga f l4, sg_F_ga f l5, sg_F_ga f l6⟩
theorem rlF_up {σ σ' : sg_S} {ρ ρ' : fEv} {y : Int} (h : rlF A D T σ ρ y) (x : fEx σ σ') (e : sg_g σ' 134 y = sg_g σ 134 y) (e2 : ρ' y = ρ y) : rlF A D T σ' ρ' y := by
  obtain ⟨R, h⟩ := h
  unfold rlF
  rw [e, e2]
  exact ⟨R, fX_up x h⟩
theorem fKp_r (σ : sg_S) (ρ : fEv) (fr b sv : Int) : fKp A D T σ σ ρ ρ fr b sv := ⟨fEx_r σ, fun _ _ => rfl, fun _ h => h, fun i _ => rw6_r σ i, fun _ _ => ⟨rfl, rfl⟩⟩
theorem fKp_t {σ σ1 σ2 : sg_S} {ρ ρ1 ρ2 : fEv} {fr b sv fr1 b1 sv1 fr2 b2 sv2 : Int} (h : fKp A D T σ σ1 ρ ρ1 fr1 b1 sv1) (g : fKp A D T σ1 σ2 ρ1 ρ2 fr2 b2 sv2) (hf : fr ≤ fr1 ∧ fr ≤ fr2) (hb : b ≤ b1 ∧ b ≤ b2) (hs : sv ≤ sv1 ∧ sv ≤ sv2) : fKp A D T σ σ2 ρ ρ2 fr b sv := by
  obtain ⟨a1, a2, a3, a4, a5⟩ := h
  obtain ⟨c1, c2, c3, c4, c5⟩ := g
  refine ⟨fEx_t a1 c1, fun x hx => by rw [c2 x (by omega), a2 x (by omega)], fun y hy => c3 y (a3 y hy), fun i hi => rw6_t (a4 i (by omega)) (c4 i (by omega)), fun i hi => ?_⟩
  obtain ⟨p1, p2⟩ := a5 i (by omega)
  obtain ⟨q1, q2⟩ := c5 i (by omega)
  exact ⟨q1.trans p1, q2.trans p2⟩
/-- a write elsewhere -/
theorem fKp_F {L : List Nat} {σ σ' : sg_S} {ρ : fEv} {fr b sv : Int} (f : sg_F L σ σ') (hL : (sg_ca L 133 && sg_ca L 134 && sg_ca L 148 && sg_ca L 149) = true) (ex : fEx σ σ') (hr : ∀ i, i < fr → rw6 σ σ' i) : fKp A D T σ σ' ρ ρ fr b sv := by
  simp only [Bool.and_eq_true] at hL
  obtain ⟨⟨⟨l1, l2⟩, l3⟩, l4⟩ := hL
  exact ⟨ex, fun x _ => sg_F_ga f l1, fun y hy => rlF_up hy ex (sg_F_ga f l2) rfl, hr, fun i _ => ⟨sg_F_ga f l3, sg_F_ga f l4⟩⟩
theorem scFX_u {σ σ' : sg_S} {ρ ρ' : fEv} {fr b sv : Int} {m : Nat} {sc : List (Int × Int)} (h : scFX A D T σ ρ m sc) (u : fKp A D T σ σ' ρ ρ' fr b sv) (hk : ∀ p ∈ sc, ρ' p.1 = ρ p.1) : scFX A D T σ' ρ' m sc := fun p hp => by
  obtain ⟨a1, a2, a3, a4⟩ := h p hp
  exact ⟨a1, a2, u.2.2.1 _ a3, by rw [hk p hp]; exact a4⟩
theorem gFX (hX : pgX σb A D T B) {σ : sg_S} (f : sg_F flL σb σ) : pgX σ A D T B := pgX_F f rfl hX
theorem fS_b {σ : sg_S} {fr b sv : Int} {s : fSt} (h : fSs σb σ fr b sv s) : (0 ≤ fr ∧ fr ≤ 2000) ∧ (0 ≤ b ∧ b + fr ≤ 2000) ∧ (0 ≤ sv ∧ sv ≤ 2000) ∧ (0 ≤ s.1 ∧ s.1 ≤ 2000) ∧ b + fr ≤ s.1 ∧ sv ≤ s.1 := by
  obtain ⟨-, -, ⟨a3, a4, a5⟩, ⟨c1, c2, c3, c4, c5⟩, ⟨⟨i1, i2, i3, i4, i5⟩, hB, n1, n2, n3⟩⟩ := h
  exact ⟨⟨by omega, by omega⟩, ⟨by omega, by omega⟩, ⟨by omega, by omega⟩, c4, by omega, by omega⟩
theorem fS_wk {σ : sg_S} {fr b sv : Int} {s : fSt} (h : fSs σb σ fr b sv s) : fSw σb σ fr b sv s := ⟨h.1, h.2.1, h.2.2.1, h.2.2.2.1, fN_w h.2.2.2.2⟩
theorem fS_bw {σ : sg_S} {fr b sv : Int} {s : fSt} (h : fSw σb σ fr b sv s) : (0 ≤ fr ∧ fr ≤ 2000) ∧ (0 ≤ b ∧ b + fr ≤ 2000) ∧ (0 ≤ sv ∧ sv ≤ 2000) ∧ (0 ≤ s.1 ∧ s.1 ≤ 2000) ∧ b + fr ≤ s.1 ∧ sv ≤ s.1 := by
  obtain ⟨-, -, ⟨a3, a4, a5⟩, ⟨c1, c2, c3, c4, c5⟩, ⟨⟨i1, i2, i3, i4, i5⟩, hB, n1, n2, n3⟩⟩ := h
  exact ⟨⟨by omega, by omega⟩, ⟨by omega, by omega⟩, ⟨by omega, by omega⟩, c4, by omega, by omega⟩
theorem fS_h {σ : sg_S} {fr b sv : Int} {s : fSt} (h : fSs σb σ fr b sv s) : sg_g σ 88 87 + sg_g σ 88 62 ≤ 8 * sg_g σ 88 84 + 1 := by
  obtain ⟨-, -, -, -, ⟨⟨i1, i2, i3, i4, i5⟩, -⟩⟩ := h
  omega
theorem fS_c {σ : sg_S} {fr b sv : Int} {s : fSt} (h : fSs σb σ fr b sv s) : fC σ := by
  obtain ⟨-, -, -, -, ⟨⟨i1, i2, i3, i4, i5⟩, -⟩⟩ := h
  exact ⟨i1, i2, i3, by omega, by omega⟩
/-- a write to a frame, to what is bound, or to where values end -/
theorem fS_w {σ σ' : sg_S} {fr b sv b' : Int} {s : fSt} {K : List Nat} (h : fSs σb σ fr b sv s) (f : sg_F K σ σ') (hK : (!sg_cv K 88 84 && !sg_cv K 88 85 && !sg_cv K 88 91 && !sg_cv K 88 87 && !sg_cv K 88 99 && !sg_cv K 88 62 && sg_ca K 148) = true) (hK2 : (!sg_cv K 88 73 && !sg_cv K 88 86) = true) (hg : sg_F flL σ σ') (hb : sg_g σ' 88 70 = b') (b0 : 0 ≤ b' ∧ b' ≤ b) : fSs σb σ' fr b' sv s := by
  obtain ⟨a1, a2, ⟨a3, a4, a5⟩, c, hN⟩ := h
  have N := fN_F f hK (by omega) hN
  simp only [Bool.and_eq_true, Bool.not_eq_true'] at hK hK2
  obtain ⟨⟨⟨⟨⟨⟨l1, l2⟩, l3⟩, l4⟩, l5⟩, l6⟩, l7⟩ := hK
  exact ⟨sg_F_t a1 hg, by rw [sg_F_g f hK2.1]; exact a2, ⟨by rw [sg_F_g f l6]; exact a3, hb, by rw [sg_F_g f l5]; exact a5⟩, fcX_F f (by rw [l1, l2, hK2.2]; rfl) c, N⟩
/-- BEGIN of a node: its frame -/
theorem gfb_begin {σ : sg_S} {n fr b sv : Int} {s : fSt} {ρ : fEv} {m l : Nat} {Q : sg_S → Prop} (hS : fSw σb σ fr b sv s) (hn : 0 ≤ n ∧ n < 210) (hl : l ≤ 6000) (hQ : ∀ σ', Rf X m σ' → Q σ') (kX : fBg l s = none → ∀ σ', sg_F flL σb σ' → sg_g σ' 88 73 = 8 → ¬ (8 : Int) = 0 → fcX σ' s → X σ') (kS : ∀ s1, fBg l s = some s1 → s1.1 = s.1 + 1 → s1.2.1 = s.2.1 → ∀ σ', fSs σb σ' (fr + 1) b sv s1 → gfT σ' fr n 0 b l sv → fKp A D T σ σ' ρ ρ fr b sv → (∀ x, sg_g σ' 133 x = sg_g σ 133 x) → Rf X m σ') : V_flatBegin σ n (l : Int) Q := by
  have bb := fS_bw hS
  obtain ⟨a1, a2, ⟨a3, a4, a5⟩, c, hN⟩ := id hS
  refine m_fBeginX c (by omega) ⟨by omega, by omega⟩ hl (fun z σ' y1 y2 y3 => hQ σ' ?_) (fun s1 z σ' y1 y2 y3 y4 y5 => hQ σ' ?_)
  · exact rf_s (by rw [y1]; decide) (kX z σ' (sg_F_t a1 (sg_F_m y3 rfl)) y1 (by decide) y2)
  · rw [a3] at y2 y3 y4
    rw [a4, a5] at y3
    have ex : fEx σ σ' := fEx_F y5 rfl
    have es : s1.1 = s.1 + 1 ∧ s1.2.1 = s.2.1 := by
      unfold fBg at z
      cases e : fStp 0 s with
      | none => rw [e] at z; cases z
      | some s0 =>
        rw [e] at z
        obtain ⟨z1, z2, -⟩ := fStp_s e
        cases z
        exact ⟨z1, by simp only; omega⟩
    obtain ⟨hI, hB, n1, n2, n3⟩ := hN
    obtain ⟨i1, i2, i3, i4, i5⟩ := hI
    have g84 := y1.1
    have g85 := y1.2.1
    have o84 := c.1
    have o85 := c.2.1
    have c4 := y1.2.2.2.1
    have c5 := y1.2.2.2.2
    have g70 : sg_g σ' 88 70 = sg_g σ 88 70 := sg_F_g y5 (by rfl)
    have g91 : sg_g σ' 88 91 = sg_g σ 88 91 := sg_F_g y5 (by rfl)
    have g87 : sg_g σ' 88 87 = sg_g σ 88 87 := sg_F_g y5 (by rfl)
    have g99 : sg_g σ' 88 99 = sg_g σ 88 99 := sg_F_g y5 (by rfl)
    refine kS s1 z es.1 es.2 σ' ⟨sg_F_t a1 (sg_F_m y5 rfl), by rw [sg_F_g y5 (by rfl)]; exact a2, ⟨y2, by omega, by omega⟩, y1, ⟨⟨by omega, by omega⟩, ⟨by omega, by omega⟩, ⟨by omega, by omega⟩, ⟨by omega, by omega, by omega⟩, by omega, by omega⟩, fun i x y => by rw [sg_F_ga y5 rfl]; exact hB i x (by omega), by omega, by omega, by omega⟩ y3 (fKp_F y5 rfl ex (fun i hi => ?_)) (fun x => sg_F_ga y5 rfl)
    obtain ⟨d1, d2, d3, d4, d5⟩ := y4 i (by omega)
    exact ⟨d1, d2, d3, d4, d5, sg_F_ga y5 rfl⟩
/-- the end of a node: its value leaves -/
theorem gfl_leave {σ σ2 : sg_S} {ρ ρ2 : fEv} {fr b b2 sv v : Int} {s : fSt} {d m : Nat} {vf : List vaF} {Q : sg_S → Prop} (hS : fSw σb σ2 (fr + 1) b2 sv s) (hw : sg_g σ2 88 87 + sg_g σ2 88 62 ≤ 8 * sg_g σ2 88 84 + 1) (hb : 0 ≤ b ∧ b ≤ b2) (h128 : sg_g σ2 128 fr = b) (f0 : 0 ≤ fr) (hV : fKp A D T σ σ2 ρ ρ2 fr b sv) (hv : sg_R v) (hr : ∃ R, fX σ2 6000 v d vf R) (hm : 2 * (2000 - s.1) + fr ≤ (m : Int)) (k : kF A D T σb X σ ρ fr b sv d (.inr (vf, s, ρ2))) (hQ : ∀ σ', Rf X m σ' → Q σ') : V_flatLeave σ2 v Q := by
  have bb := fS_bw hS
  obtain ⟨a1, a2, ⟨a3, a4, a5⟩, c, hN⟩ := id hS
  refine m_fLeaveX (f := fr) (b := b) a3 ⟨f0, by omega⟩ h128 ⟨by omega, by omega⟩ hv (fun σ' y1 y2 y3 y4 y5 => hQ σ' ?_)
  have ex : fEx σ2 σ' := fEx_F y5 rfl
  obtain ⟨hI, hB, n1, n2, n3⟩ := hN
  obtain ⟨i1, i2, i3, i4, i5⟩ := hI
  have g84 : sg_g σ' 88 84 = sg_g σ2 88 84 := sg_F_g y5 (by rfl)
  have g85 : sg_g σ' 88 85 = sg_g σ2 88 85 := sg_F_g y5 (by rfl)
  have g91 : sg_g σ' 88 91 = sg_g σ2 88 91 := sg_F_g y5 (by rfl)
  have g87 : sg_g σ' 88 87 = sg_g σ2 88 87 := sg_F_g y5 (by rfl)
  have g99 : sg_g σ' 88 99 = sg_g σ2 88 99 := sg_F_g y5 (by rfl)
  obtain ⟨R, hR⟩ := hr
  refine k σ' m ⟨sg_F_t a1 (sg_F_m y5 rfl), by rw [sg_F_g y5 (by rfl)]; exact a2, ⟨y1, y2, by omega⟩, fcX_F y5 rfl c, ⟨⟨by omega, by omega⟩, ⟨by omega, by omega⟩, ⟨by omega, by omega⟩, ⟨by omega, by omega, by omega⟩, by omega, by omega⟩, fun i x y => by rw [sg_F_ga y5 rfl]; exact hB i x (by omega), by omega, by omega, by omega⟩ ?_ ⟨R, by rw [y3]; exact fX_up ex hR⟩ hm
  refine ⟨fEx_t hV.1 ex, fun x hx => by rw [y4 x (by omega)]; exact hV.2.1 x hx, fun y hy => rlF_up (hV.2.2.1 y hy) ex (sg_F_ga y5 rfl) rfl, fun i hi => rw6_t (hV.2.2.2.1 i hi) (rw6_F y5 rfl i), fun i hi => ?_⟩
  obtain ⟨p1, p2⟩ := hV.2.2.2.2 i hi
  exact ⟨by rw [sg_F_ga y5 rfl]; exact p1, by rw [sg_F_ga y5 rfl]; exact p2⟩
end BCL
/-! THE FLAT RUN of the reference in big steps: parts one after another. -/
/-- lanes, and what is bound outside stays -/
def fPu (A : aT) (D : List aDf) (T B : Int → Int) (lev : Int → Nat) (O : Int → Nat → List Int) (call : Int → Nat → fEv → fSt → fRs) (j f : Nat) : Prop := ∀ (n : Int) (L : List Int) (sc : List (Int × Int)), stN A D T B lev j f L sc n → ∀ (m : Nat) ρ s v s' ρ', (∀ p ∈ sc, (ρ p.1).length = m) → fxN A D T B O call f n m ρ s = .inr (v, s', ρ') → v.length = m ∧ ∀ b, ¬ ow lev j L b → ρ' b = ρ b
section BDS
variable {A : aT} {D : List aDf} {T B : Int → Int} {lev : Int → Nat} {σb : sg_S} {X : sg_S → Prop} {O : Int → Nat → List Int} {call : Int → Nat → fEv → fSt → fRs} {j f : Nat}
theorem fKp_mk {L : List Nat} {σ σ' : sg_S} {ρ : fEv} {fr b sv : Int} (F : sg_F L σ σ') (hL : (sg_ca L 134 && sg_ca L 148 && sg_ca L 149 && sg_ca L 126 && sg_ca L 128 && sg_ca L 145 && sg_ca L 146 && sg_ca L 147) = true) (ex : fEx σ σ') (h133 : ∀ x, x < b → sg_g σ' 133 x = sg_g σ 133 x) (h127 : ∀ i, i < fr → sg_g σ' 127 i = sg_g σ 127 i) : fKp A D T σ σ' ρ ρ fr b sv := by
  simp only [Bool.and_eq_true] at hL
  obtain ⟨⟨⟨⟨⟨⟨⟨l1, l2⟩, l3⟩, l4⟩, l5⟩, l6⟩, l7⟩, l8⟩ := hL
  exact ⟨ex, h133, fun y hy => rlF_up hy ex (sg_F_ga F l1) rfl, fun i hi => ⟨sg_F_ga F l4, h127 i hi, sg_F_ga F l5, sg_F_ga F l6, sg_F_ga F l7, sg_F_ga F l8⟩, fun i _ => ⟨sg_F_ga F l2, sg_F_ga F l3⟩⟩
/-- what parts are to be followed by -/
def kFr (A : aT) (D : List aDf) (T : Int → Int) (σb : sg_S) (X : sg_S → Prop) (σ : sg_S) (ρ : fEv) (n fr b sv : Int) (l st : Nat) (R : List Int) : fRl → Prop
  | .inl (e, s') => ∀ σ', sg_F flL σb σ' → sg_g σ' 88 73 = e → ¬ e = 0 → fcX σ' s' → X σ'
  | .inr (vs, s', ρ') => ∀ σ' m', vs.length = R.length → fSs σb σ' (fr + 1) (b + st + R.length) sv s' → gfT σ' fr n (st + R.length : Nat) b l sv → fKp A D T σ σ' ρ ρ' fr (b + st) sv → (∀ (i : Nat) (x : Int) (v : List vaF), R[i]? = some x → vs[i]? = some v → ∃ R', fX σ' 6000 (sg_g σ' 133 (b + st + i)) (T x).toNat v R') → 2 * (2000 - s'.1) + (fr + 1) ≤ ((m' : Nat) : Int) → Rf X m' σ'
theorem gfRow (hX : pgX σb A D T B) (hP : fPu A D T B lev O call j f) (F : gfN A D T σb X B lev O call j f) {n sv : Int} {sc : List (Int × Int)} {l off : Nat} (hn : 0 ≤ n ∧ n < A.1) (hl : l ≤ 6000) (go : ∀ (σ : sg_S) (st : Nat) (b fr x : Int) (Q : sg_S → Prop), pgX σ A D T B → sg_g σ 88 62 = fr + 1 → 0 ≤ fr ∧ fr < 4000 → gfT σ fr n st b l sv → (A.2.1 n = 15 → st < (A.2.2.2.2.2 n).length) → (A.2.2.2.2.1 n)[off + st]? = some x → (∀ σ3, σ3 = sg_w σ 127 fr (st + 1) → ∀ Q' : sg_S → Prop, (∀ σ', Q σ' → Q' σ') → V_flatBegin σ3 x (l : Int) Q') → V_goFlat σ (fun σ' => sg_F flL σ σ' → Q σ')) : ∀ (R : List Int) (st : Nat), (∀ (i : Nat) (x : Int), R[i]? = some x → (A.2.2.2.2.1 n)[off + (st + i)]? = some x) → (A.2.1 n = 15 → st + R.length ≤ (A.2.2.2.2.2 n).length) → (∀ x ∈ R, ∃ L', stN A D T B lev j f L' sc x) → ∀ (σ : sg_S) (m : Nat) (ρ : fEv) (fr b : Int) (s : fSt), fSs σb σ (fr + 1) (b + st) sv s → 0 ≤ fr → 0 ≤ b → gfT σ fr n st b l sv → scFX A D T σ ρ l sc → 2 * (2000 - s.1) + (fr + 1) ≤ (m : Int) → kFr A D T σb X σ ρ n fr b sv l st R (fSq (fun x => fxN A D T B O call f x l) R ρ s) → Rf X m σ
  | [], st, hR, h15, hty, σ, m, ρ, fr, b, s, hS, f0, b0, hT, hs, hm, k => by
    simp only [fSq, kFr, List.length_nil, Int.ofNat_zero, Int.cast_ofNat_Int, Int.add_zero, Nat.add_zero] at k
    exact k σ m trivial hS hT (fKp_r σ ρ _ _ _) (fun i x v hx => by simp at hx) hm
  | x :: R, st, hR, h15, hty, σ, m, ρ, fr, b, s, hS, f0, b0, hT, hs, hm, k => by
    have bb := fS_b hS
    obtain ⟨a1, a2, ⟨a3, a4, a5⟩, c, hN⟩ := id hS
    have hXσ := gFX hX a1
    have hA := hX.2.2.2.2.1
    obtain ⟨m, rfl⟩ : ∃ m', m = m' + 1 := ⟨m - 1, by omega⟩
    obtain ⟨L', hx⟩ := hty x (by simp)
    refine rf_g (by omega) a2 (fun Qz hz => go σ st b fr x Qz hXσ a3 ⟨f0, by omega⟩ hT (fun c => by have := h15 c; simp only [List.length_cons] at this; omega) (by have := hR 0 x rfl; rw [Nat.add_zero] at this; exact this) (fun σ3 e3 Q' hQ' => ?_))
    have f3 : sg_F [127] σ σ3 := by rw [e3]; exact sg_F_w (sg_F_r _ _) rfl _
    have S3 : fSs σb σ3 (fr + 1) (b + st) sv s := fS_w hS f3 rfl rfl (sg_F_m f3 rfl) (by rw [sg_F_g f3 (by rfl)]; exact a4) ⟨by omega, Int.le_refl _⟩
    have o127 : ∀ i, ¬ i = fr → sg_g σ3 127 i = sg_g σ 127 i := fun i hi => by rw [e3, sg_gw_k _ _ _ _ _ _ hi]
    have stb : st ≤ 200 := by
      have := gE_l (hR 0 x rfl)
      have := (tr_k hX.1 hn).2.2.1
      omega
    obtain ⟨p1, p2, p3, p4, p5⟩ := hT
    have T3 : gfT σ3 fr n (st + 1 : Nat) b l sv := ⟨by rw [sg_F_ga f3 rfl]; exact p1, by rw [e3, sg_gw_e _ _ _ _ ⟨by omega, by omega⟩]; omega, by rw [sg_F_ga f3 rfl]; exact p3, by rw [sg_F_ga f3 rfl]; exact p4, by rw [sg_F_ga f3 rfl]; exact p5⟩
    have V3 : fKp A D T σ σ3 ρ ρ fr (b + st) sv := fKp_mk f3 rfl (fEx_F f3 rfl) (fun y _ => sg_F_ga f3 rfl) (fun i hi => o127 i (by omega))
    refine F x L' sc hx σ3 m l ρ (fr + 1) (b + st) sv s (fS_wk S3) hl (scFX_u hs V3 (fun p _ => rfl)) (by omega) ?_ Q' (fun σ' h => hQ' σ' (hz σ' h))
    have pu := hP x L' sc hx l ρ s
    simp only [fSq] at k
    generalize fxN A D T B O call f x l ρ s = r at k pu
    match r, k, pu with
    | .inl (e, w'), k, _ => exact k
    | .inr (v, s1, ρ1), k, pu =>
      intro σ4 m4 S4 U4 v4 hm4
      obtain ⟨pl, pk⟩ := pu v s1 ρ1 (fun p hp => (hs p hp).2.2.2) rfl
      simp only at k
      obtain ⟨w1, w2, w3, w4, w5, w6⟩ := U4.2.2.2.1 fr (by omega)
      have T4 : gfT σ4 fr n (st + 1 : Nat) b l sv := ⟨w1.trans T3.1, w2.trans T3.2.1, w3.trans T3.2.2.1, w4.trans T3.2.2.2.1, w5.trans T3.2.2.2.2⟩
      have V4 : fKp A D T σ σ4 ρ ρ1 fr (b + st) sv := fKp_t V3 U4 ⟨Int.le_refl _, by omega⟩ ⟨Int.le_refl _, Int.le_refl _⟩ ⟨Int.le_refl _, Int.le_refl _⟩
      refine gfRow hX hP F hn hl go R (st + 1) (fun i y hy => ?_) (fun c => by have := h15 c; simp only [List.length_cons] at this; omega) (fun y hy => hty y (by simp [hy])) σ4 m4 ρ1 fr b s1 (by rw [show b + ((st + 1 : Nat) : Int) = b + st + 1 by omega]; exact S4) f0 b0 T4 (scFX_u hs V4 (fun p hp => pk p.1 (hx.2.2.2.2 p hp).2)) hm4 ?_
      · have := hR (i + 1) y hy
        rw [show off + (st + (i + 1)) = off + (st + 1 + i) by omega] at this
        exact this
      · generalize fSq (fun x => fxN A D T B O call f x l) R ρ1 s1 = r2 at k
        match r2, k with
        | .inl (e, w'), k => exact k
        | .inr (vs, s2, ρ2), k =>
          intro σ5 m5 l5 S5 T5 V5 v5 hm5
          refine k σ5 m5 (by simp only [List.length_cons]; omega) ?_ ?_ (fKp_t V4 V5 ⟨Int.le_refl _, Int.le_refl _⟩ ⟨Int.le_refl _, by omega⟩ ⟨Int.le_refl _, Int.le_refl _⟩) (fun i y v' hy hv' => ?_) hm5
          · simp only [List.length_cons]
            rw [show b + (st : Int) + ((R.length + 1 : Nat) : Int) = b + ((st + 1 : Nat) : Int) + R.length by omega]
            exact S5
          · simp only [List.length_cons]
            rw [show st + (R.length + 1) = st + 1 + R.length by omega]
            exact T5
          · cases i with
            | zero =>
              simp only [List.getElem?_cons_zero, Option.some.injEq] at hy hv'
              subst hy hv'
              simp only [Int.ofNat_zero, Int.cast_ofNat_Int, Int.add_zero]
              rw [V5.2.1 _ (by omega)]
              obtain ⟨R', hR'⟩ := v4
              exact ⟨R', fX_up V5.1 hR'⟩
            | succ i =>
              simp only [List.getElem?_cons_succ] at hy hv'
              have := v5 i y v' hy hv'
              rw [show b + ((st + 1 : Nat) : Int) + (i : Int) = b + (st : Int) + ((i + 1 : Nat) : Int) by omega] at this
              exact this
theorem gof_op {n sv : Int} {l : Nat} (hn : 0 ≤ n ∧ n < A.1) (k15 : ¬ A.2.1 n = 15) (k3 : ¬ A.2.1 n = 3) (k2 : ¬ A.2.1 n = 2) (σ : sg_S) (st : Nat) (b fr x : Int) (Q : sg_S → Prop) (hX : pgX σ A D T B) (hf : sg_g σ 88 62 = fr + 1) (f0 : 0 ≤ fr ∧ fr < 4000) (hT : gfT σ fr n st b l sv) (_ : A.2.1 n = 15 → st < (A.2.2.2.2.2 n).length) (hx : (A.2.2.2.2.1 n)[0 + st]? = some x) (k : ∀ σ3, σ3 = sg_w σ 127 fr (st + 1) → ∀ Q' : sg_S → Prop, (∀ σ', Q σ' → Q' σ') → V_flatBegin σ3 x (l : Int) Q') : V_goFlat σ (fun σ' => sg_F flL σ σ' → Q σ') := by
  rw [Nat.zero_add] at hx
  exact gf_part hX hn hf f0 hT k15 k3 (fun z => k2 z.1) hx (fun σ3 e3 Q' hQ' => k σ3 e3 Q' (fun σ' hq => hQ' σ' (fun _ => hq)))
end BDS
/-! THE FLAT RUN of the reference in big steps: operations, variables. -/
section BES
variable {A : aT} {D : List aDf} {T B : Int → Int} {lev : Int → Nat} {σb : sg_S} {X : sg_S → Prop} {O : Int → Nat → List Int} {call : Int → Nat → fEv → fSt → fRs} {j f : Nat}
/-- a value that is there leaves -/
theorem gf_done {σ σ2 σ18 : sg_S} {ρ ρ2 : fEv} {n fr b b2 st sv v : Int} {s : fSt} {d m l : Nat} {vf : List vaF} {Q : sg_S → Prop} (hS : fSs σb σ2 (fr + 1) b2 sv s) (hT : gfT σ2 fr n st b l sv) (hst : 0 ≤ st ∧ st ≤ 300) (f0 : 0 ≤ fr) (hb : 0 ≤ b ∧ b ≤ b2) (hV : fKp A D T σ σ2 ρ ρ2 fr b sv) (hv : sg_R v) (hr : ∃ R, fX σ2 6000 v d vf R) (e18 : σ18 = sg_w (sg_w σ2 127 fr (st + 1)) 88 102 (-1)) (hm : 2 * (2000 - s.1) + fr ≤ (m : Int)) (k : kF A D T σb X σ ρ fr b sv d (.inr (vf, s, ρ2))) (hQ : ∀ σ', Rf X m σ' → Q σ') : gfE σ18 v Q := by
  have F : sg_F [127, 103088] σ2 σ18 := by rw [e18]; exact sg_F_w (sg_F_w (sg_F_r _ _) rfl _) rfl _
  have ex : fEx σ2 σ18 := fEx_F F rfl
  obtain ⟨a1, a2, ⟨a3, a4, a5⟩, c, hN⟩ := id hS
  have bb := fS_b hS
  have S18 : fSs σb σ18 (fr + 1) b2 sv s := fS_w hS F rfl rfl (sg_F_m F rfl) (by rw [sg_F_g F (by rfl)]; exact a4) ⟨by omega, Int.le_refl _⟩
  obtain ⟨R, hR⟩ := hr
  refine gfE_c S18.2.1 (by rw [e18, sg_gw_e _ _ _ _ ⟨by decide, by decide⟩]; decide) (gfl_leave (A := A) (D := D) (T := T) (X := X) (σ := σ) (ρ := ρ) (ρ2 := ρ2) (vf := vf) (d := d) (m := m) (fS_wk S18) (fS_h S18) hb (by rw [sg_F_ga F rfl]; exact hT.2.2.1) f0 (fKp_t hV (fKp_mk F rfl ex (fun x _ => sg_F_ga F rfl) (fun i hi => by rw [e18, sg_gw_c _ _ _ _ _ _ (by decide), sg_gw_k _ _ _ _ _ _ (by omega)])) ⟨Int.le_refl _, Int.le_refl _⟩ ⟨Int.le_refl _, Int.le_refl _⟩ ⟨Int.le_refl _, Int.le_refl _⟩) hv ⟨R, fX_up ex hR⟩ hm k (fun σ' h _ => hQ σ' h))
theorem gfN_var {n : Int} {L : List Int} {sc : List (Int × Int)} (hX : pgX σb A D T B) (h : stN A D T B lev j (f + 1) L sc n) (k1 : A.2.1 n = 1) {σ : sg_S} {m l : Nat} {ρ : fEv} {fr b sv : Int} {s : fSt} (hS : fSw σb σ fr b sv s) (hl : l ≤ 6000) (hs : scFX A D T σ ρ l sc) (hm : 2 * (2000 - s.1) + fr ≤ (m : Int) + 1) (k : kF A D T σb X σ ρ fr b sv (T n).toNat (fxN A D T B O call (f + 1) n l ρ s)) {Q : sg_S → Prop} (hQ : ∀ σ', Rf X m σ' → Q σ') : V_flatBegin σ n (l : Int) Q := by
  obtain ⟨w1, w2, w3, w4, w5, w6⟩ := stN_w h
  have hA := hX.2.2.2.2.1
  have bb := fS_bw hS
  simp only [fxN] at k
  refine gfb_begin (A := A) (D := D) (T := T) (ρ := ρ) hS ⟨w2.1, by omega⟩ hl hQ (fun z σ' y1 y2 y3 y4 => ?_) (fun s1 z es1 es2 σ1 S1 T1 V1 v1 => ?_)
  · rw [z] at k; exact k σ' y1 y2 y3 y4
  rw [z] at k
  simp only at k
  rw [if_pos k1] at k
  have b1 := fS_b S1
  have hl0 := w1.2.1 (by omega)
  obtain ⟨q1, q2, q3, q4⟩ := hs _ (w4 k1)
  obtain ⟨R, hR⟩ := V1.2.2.1 _ q3
  simp only at q1 q2
  obtain ⟨m, rfl⟩ : ∃ m', m = m' + 1 := ⟨m - 1, by omega⟩
  refine rf_g (by rw [S1.2.2.1.1]; omega) S1.2.1 (fun Qz hz => gf_var (gFX hX S1.1) w2 S1.2.2.1.1 ⟨by omega, by omega⟩ T1 k1 hl0 q1 (fun σ18 e18 => ?_))
  refine gf_done (A := A) (D := D) (T := T) (X := X) (σ := σ) (ρ := ρ) (ρ2 := ρ) (m := m) S1 T1 ⟨by decide, by decide⟩ (by omega) ⟨by omega, Int.le_refl _⟩ V1 (sg_Rg _ _ _) ⟨R, ?_⟩ (by rw [e18]; rfl) (by omega) k (fun σ' h _ => hz σ' h)
  rw [q2]
  exact hR
theorem gfN_op {n : Int} {L : List Int} {sc : List (Int × Int)} (hX : pgX σb A D T B) (hP : fPu A D T B lev O call j f) (F : gfN A D T σb X B lev O call j f) (h : stN A D T B lev j (f + 1) L sc n) (hk : ¬ A.2.1 n = 1 ∧ ¬ A.2.1 n = 2 ∧ ¬ A.2.1 n = 3 ∧ ¬ A.2.1 n = 13 ∧ ¬ A.2.1 n = 15) {σ : sg_S} {m l : Nat} {ρ : fEv} {fr b sv : Int} {s : fSt} (hS : fSw σb σ fr b sv s) (hl : l ≤ 6000) (hs : scFX A D T σ ρ l sc) (hm : 2 * (2000 - s.1) + fr ≤ (m : Int) + 1) (k : kF A D T σb X σ ρ fr b sv (T n).toNat (fxN A D T B O call (f + 1) n l ρ s)) {Q : sg_S → Prop} (hQ : ∀ σ', Rf X m σ' → Q σ') : V_flatBegin σ n (l : Int) Q := by
  obtain ⟨w1, w2, w3, w4, w5, w6⟩ := stN_w h
  have hA := hX.2.2.2.2.1
  have bb := fS_bw hS
  obtain ⟨k1, k2, k3, k13, k15⟩ := id hk
  have pu := fun (R : List Int) (hR : ∀ x ∈ R, ∃ L', stN A D T B lev j f L' sc x ∧ ∀ y ∈ L', y ∈ L) => fx_sq (O := O) (call := call) (m := l) (L := L) (fun x L' hx ρ s v s' ρ' => hP x L' sc hx l ρ s v s' ρ') R hR (fun p hp => (h.2.2.2.2 p hp).2)
  simp only [fxN] at k
  refine gfb_begin (A := A) (D := D) (T := T) (ρ := ρ) hS ⟨w2.1, by omega⟩ hl hQ (fun z σ' y1 y2 y3 y4 => ?_) (fun s1 z es1 es2 σ1 S1 T1 V1 v1 => ?_)
  · rw [z] at k; exact k σ' y1 y2 y3 y4
  rw [z] at k
  simp only at k
  rw [if_neg k1, if_neg k2, if_neg k3, if_neg k13, if_neg k15] at k
  have hs1 := scFX_u hs V1 (fun p _ => rfl)
  have pq := pu (A.2.2.2.2.1 n) (fun x hx => stN_k h k2 k15 hx) ρ s1
  refine gfRow hX hP F (sc := sc) (off := 0) w2 hl (gof_op w2 k15 k3 k2) (A.2.2.2.2.1 n) 0 (fun i x hx => by rw [Nat.zero_add, Nat.zero_add]; exact hx) (fun c => absurd c k15) (fun x hx => by obtain ⟨L', a, -⟩ := stN_k h k2 k15 hx; exact ⟨L', a⟩) σ1 m ρ fr b s1 (by simp only [Int.ofNat_zero, Int.cast_ofNat_Int, Int.add_zero]; exact S1) (by omega) (by omega) T1 hs1 (by omega) ?_
  generalize fSq (fun x => fxN A D T B O call f x l) (A.2.2.2.2.1 n) ρ s1 = r at k pq
  match r, k, pq with
  | .inl (e, w'), k, _ => exact k
  | .inr (vs, s2, ρ2), k, pq =>
    intro σ2 m2 l2 S2 T2 V2 v2 hm2
    obtain ⟨pl, pv, pk⟩ := pq vs s2 ρ2 (fun p hp => (hs1 p hp).2.2.2) rfl
    simp only [Int.ofNat_zero, Int.cast_ofNat_Int, Int.add_zero, Nat.zero_add] at S2 T2 V2 v2
    simp only at k
    have b2 := fS_b S2
    obtain ⟨a1, a2, ⟨a3, a4, a5⟩, c2, hN⟩ := id S2
    have hX2 := gFX hX a1
    obtain ⟨t1, t2, t3, t4, t5⟩ := tr_k hX2.1 w2
    obtain ⟨m2, rfl⟩ : ∃ m', m2 = m' + 1 := ⟨m2 - 1, by omega⟩
    refine rf_g (by omega) a2 (fun Qz hz => gf_op hX2 w2 a3 ⟨by omega, by omega⟩ T2 hk rfl (fun σ18 e18 P hP' => ?_))
    have F18 : sg_F [127, 103088] σ2 σ18 := by rw [e18]; exact sg_F_w (sg_F_w (sg_F_r _ _) rfl _) rfl _
    have ex18 : fEx σ2 σ18 := fEx_F F18 rfl
    have S18 : fSs σb σ18 (fr + 1) (b + (A.2.2.2.2.1 n).length) sv s2 := fS_w S2 F18 rfl rfl (sg_F_m F18 rfl) (by rw [sg_F_g F18 (by rfl)]; exact a4) ⟨by omega, Int.le_refl _⟩
    have hX18 := gFX hX S18.1
    have w95 : sg_gl σ18 95 n = A.2.2.2.1 n := (hX18.1.1.2.2.2 n w2.1 w2.2).2.2.1
    refine m_fWkX (A := A) (T := T) (ds := kDl (D.take j) []) (vs := vs) (s := s2) ⟨w2.1, by omega⟩ w1 (by rw [sg_F_ga F18 rfl]; exact t1) (by rw [sg_F_ga F18 rfl]; exact t2) t3 w95 (w5 k1) (fun x hx => by
      obtain ⟨L', a, -⟩ := stN_k h k2 k15 hx
      exact (stN_w a).2.2.1) hk ⟨by rw [List.length_map]; exact l2, fun i x hx => ?_⟩ (by omega) S18.2.2.1.2.1 (by rw [S18.2.2.1.2.1]; omega) (fS_c S18) S18.2.2.2.1 (Or.inl ⟨rfl, by rw [e18, sg_gw_e _ _ _ _ ⟨by decide, by decide⟩]; decide⟩) hl (fun q σ3 rq ho hx f3 => hP' q σ3 rq f3 ?_)
    · rw [List.getElem?_map] at hx
      cases e : (A.2.2.2.2.1 n)[i]? with
      | none => rw [e] at hx; cases hx
      | some y =>
        rw [e] at hx
        cases hx
        have hi := gE_l e
        obtain ⟨v, hv⟩ : ∃ v, vs[i]? = some v := ⟨_, List.getElem?_eq_getElem (by omega)⟩
        obtain ⟨R', hR'⟩ := v2 i y v e hv
        have ev : vs.getD i [] = v := by rw [List.getD_eq_getElem?_getD, hv]; rfl
        rw [ev, sg_F_ga (a := 133) F18 rfl]
        exact ⟨R', fX_up ex18 hR', pv v (List.mem_of_getElem? hv)⟩
    · have FF : sg_F [127, 133, 135, 139, 140, 141, 142, 143, 144, 150, 74088, 85088, 86088, 88088, 92088, 94088, 103088, 104088] σ2 σ3 := sg_F_t (sg_F_m F18 rfl) (sg_F_m f3 rfl)
      have FL : sg_F flL σb σ3 := sg_F_t a1 (sg_F_m FF rfl)
      have z18 := S18.2.1
      unfold fWk at k
      rcases ho with ⟨o1, o2, o3⟩ | ⟨s3, o1, ⟨o2, o3, o4⟩, ex3, o5, o6, o7⟩
      · rw [o1] at k
        exact gfE_a (by rw [o2]; decide) (fun _ => hz σ3 (rf_s (by rw [o2]; decide) (k σ3 FL o2 (by decide) o3)))
      · rw [o1] at k
        simp only at k
        have o2' := o2.trans z18
        by_cases c0 : fOe (fOl (A.2.1 n) (T n) (sg_n (A.2.2.2.1 n)) vs l) = 0
        · rw [if_pos c0] at k
          obtain ⟨y1, y2, y3, y4, y5⟩ := fStp_s o1
          have o5' := o5 c0
          rw [c0] at o4
          have z102 : sg_g σ3 88 102 < 0 := by
            rcases o4 with q | q
            · exact q.2
            · exact absurd rfl q.1
          obtain ⟨hI, hB, n1, n2, n3⟩ := S18.2.2.2.2
          obtain ⟨i1, i2, i3, i4, i5⟩ := hI
          have c18 := S18.2.2.2.1
          have g62 : sg_g σ3 88 62 = sg_g σ18 88 62 := sg_F_g f3 (by rfl)
          have g70 : sg_g σ3 88 70 = sg_g σ18 88 70 := sg_F_g f3 (by rfl)
          have g99 : sg_g σ3 88 99 = sg_g σ18 88 99 := sg_F_g f3 (by rfl)
          have ex1 := ex3.1
          have h84 := o3.1
          have h85 := o3.2.1
          have h4 := o3.2.2.2
          have p84 := c18.1
          have p85 := c18.2.1
          have S3 : fSs σb σ3 (fr + 1) (b + (A.2.2.2.2.1 n).length) sv s3 := ⟨FL, o2', ⟨by rw [g62]; exact S18.2.2.1.1, by rw [g70]; exact S18.2.2.1.2.1, by rw [g99]; exact S18.2.2.1.2.2⟩, o3, ⟨⟨by omega, by omega⟩, ⟨by omega, by omega⟩, ⟨by omega, by omega⟩, ⟨by omega, by omega, by omega⟩, by omega, by omega⟩, fun i x y => by rw [sg_F_ga f3 rfl]; exact hB i x (by omega), by omega, by omega, by omega⟩
          have V3 : fKp A D T σ2 σ3 ρ2 ρ2 fr b sv := fKp_mk FF rfl (fEx_t ex18 ex3) (fun x hx' => by rw [hx x (by rw [S18.2.2.1.2.1]; omega), sg_F_ga F18 rfl]) (fun i hi => by rw [sg_F_ga f3 rfl, e18, sg_gw_c _ _ _ _ _ _ (by decide), sg_gw_k _ _ _ _ _ _ (by omega)])
          exact gfE_c o2' z102 (gfl_leave (A := A) (D := D) (T := T) (X := X) (σ := σ) (ρ := ρ) (ρ2 := ρ2) (d := (T n).toNat) (m := m2) (fS_wk S3) (fS_h S3) ⟨by omega, by omega⟩ (by rw [sg_F_ga FF rfl]; exact T2.2.2.1) (by omega) (fKp_t V1 (fKp_t V2 V3 ⟨Int.le_refl _, Int.le_refl _⟩ ⟨Int.le_refl _, Int.le_refl _⟩ ⟨Int.le_refl _, Int.le_refl _⟩) ⟨Int.le_refl _, Int.le_refl _⟩ ⟨Int.le_refl _, Int.le_refl _⟩ ⟨Int.le_refl _, Int.le_refl _⟩) rq (o7 c0) (by omega) k (fun σ' h _ _ => hz σ' h))
        · rw [if_neg c0] at k
          exact gfE_b o2' o4 c0 (fun σ43 c43 f43 _ => hz σ43 (rf_s (by rw [c43]; exact c0) (k σ43 (sg_F_t FL (sg_F_m f43 rfl)) c43 c0 (fcX_F f43 rfl o3))))
end BES
/-! THE FLAT RUN of the reference in big steps: let, calls. -/
section BFS
variable {A : aT} {D : List aDf} {T B : Int → Int} {lev : Int → Nat} {σb : sg_S} {X : sg_S → Prop} {O : Int → Nat → List Int} {call : Int → Nat → fEv → fSt → fRs} {j f : Nat}
/-- a part of node n is begun, its frame at stage st -/
theorem gpf (F : gfN A D T σb X B lev O call j f) (hP : fPu A D T B lev O call j f) {x n : Int} {L' : List Int} {sc : List (Int × Int)} (h : stN A D T B lev j f L' sc x) {σ3 : sg_S} {m l0 : Nat} {ρ : fEv} {fr st b bv l sv sv1 : Int} {s : fSt} (S3 : fSw σb σ3 (fr + 1) bv sv1 s) (hl : l0 ≤ 6000) (T3 : gfT σ3 fr n st b l sv) (hs : scFX A D T σ3 ρ l0 sc) (hm : 2 * (2000 - s.1) + fr ≤ (m : Int)) (k : ∀ r, fxN A D T B O call f x l0 ρ s = r → (∀ v s' ρ', r = .inr (v, s', ρ') → v.length = l0 ∧ ∀ b, ¬ ow lev j L' b → ρ' b = ρ b) → match r with
  | .inl (e, s') => ∀ σ', sg_F flL σb σ' → sg_g σ' 88 73 = e → ¬ e = 0 → fcX σ' s' → X σ'
  | .inr (v, s', ρ') => ∀ σ' m', fSs σb σ' (fr + 1) (bv + 1) sv1 s' → gfT σ' fr n st b l sv → sg_g σ' 147 fr = sg_g σ3 147 fr → fKp A D T σ3 σ' ρ ρ' fr bv sv1 → (∃ R, fX σ' 6000 (sg_g σ' 133 bv) (T x).toNat v R) → 2 * (2000 - s'.1) + (fr + 1) ≤ ((m' : Nat) : Int) → Rf X m' σ') {Q : sg_S → Prop} (hQ : ∀ σ', Rf X m σ' → Q σ') : V_flatBegin σ3 x (l0 : Int) Q := by
  refine F x L' sc h σ3 m l0 ρ (fr + 1) bv sv1 s S3 hl hs (by omega) ?_ Q hQ
  have k' := k _ rfl (fun v s' ρ' e => hP x L' sc h l0 ρ s v s' ρ' (fun p hp => (hs p hp).2.2.2) e)
  generalize fxN A D T B O call f x l0 ρ s = r at k'
  match r, k' with
  | .inl (e, w'), k' => exact k'
  | .inr (v, s1, ρ1), k' =>
    intro σ4 m4 S4 U4 v4 hm4
    obtain ⟨w1, w2, w3, w4, w5, w6⟩ := U4.2.2.2.1 fr (by omega)
    exact k' σ4 m4 S4 ⟨w1.trans T3.1, w2.trans T3.2.1, w3.trans T3.2.2.1, w4.trans T3.2.2.2.1, w5.trans T3.2.2.2.2⟩ w6 (fKp_t (fKp_r σ3 ρ (fr + 1) bv sv1) U4 ⟨by omega, by omega⟩ ⟨Int.le_refl _, Int.le_refl _⟩ ⟨Int.le_refl _, Int.le_refl _⟩) v4 hm4
/-- a stage is told -/
theorem gsf_w {σ σ3 : sg_S} {fr bv n s' st b l sv sv1 : Int} {s : fSt} {ρ : fEv} {b' : Int} (S : fSs σb σ (fr + 1) bv sv1 s) (hT : gfT σ fr n st b l sv) (hs : sg_R s') (e3 : σ3 = sg_w σ 127 fr s') : fSs σb σ3 (fr + 1) bv sv1 s ∧ gfT σ3 fr n s' b l sv ∧ sg_F [127] σ σ3 ∧ fKp A D T σ σ3 ρ ρ fr b' sv1 := by
  have f3 : sg_F [127] σ σ3 := by rw [e3]; exact sg_F_w (sg_F_r _ _) rfl _
  have bb := fS_b S
  refine ⟨fS_w S f3 rfl rfl (sg_F_m f3 rfl) (by rw [sg_F_g f3 (by rfl)]; exact S.2.2.1.2.1) ⟨by omega, Int.le_refl _⟩, ⟨by rw [sg_F_ga f3 rfl]; exact hT.1, by rw [e3, sg_gw_e _ _ _ _ hs], by rw [sg_F_ga f3 rfl]; exact hT.2.2.1, by rw [sg_F_ga f3 rfl]; exact hT.2.2.2.1, by rw [sg_F_ga f3 rfl]; exact hT.2.2.2.2⟩, f3, fKp_mk f3 rfl (fEx_F f3 rfl) (fun y _ => sg_F_ga f3 rfl) (fun i hi => by rw [e3, sg_gw_k _ _ _ _ _ _ (by omega)])⟩
theorem gfN_let {n : Int} {L : List Int} {sc : List (Int × Int)} (hX : pgX σb A D T B) (hP : fPu A D T B lev O call j f) (F : gfN A D T σb X B lev O call j f) (h : stN A D T B lev j (f + 1) L sc n) (k2 : A.2.1 n = 2) {σ : sg_S} {m l : Nat} {ρ : fEv} {fr b sv : Int} {s : fSt} (hS : fSw σb σ fr b sv s) (hl : l ≤ 6000) (hs : scFX A D T σ ρ l sc) (hm : 2 * (2000 - s.1) + fr ≤ (m : Int) + 1) (k : kF A D T σb X σ ρ fr b sv (T n).toNat (fxN A D T B O call (f + 1) n l ρ s)) {Q : sg_S → Prop} (hQ : ∀ σ', Rf X m σ' → Q σ') : V_flatBegin σ n (l : Int) Q := by
  obtain ⟨w1, w2, w3, w4, w5, w6⟩ := stN_w h
  have hA := hX.2.2.2.2.1
  have bb := fS_bw hS
  obtain ⟨a, c, ea⟩ := kid2 (w1.2.2.1 (Or.inl k2))
  obtain ⟨⟨La, ha, sa⟩, Lc, hc, scs⟩ := stN_l hA h k2 ea
  have e6 : T c = T n := by
    have := w5 (by omega)
    rw [kTy_2 k2, ea] at this
    simpa using this
  have btn : bTy A D T n = T a := bTy_l ea (by omega)
  have nL : n ∈ L := fT_sub h.2.1 _ (by simp)
  have sn : ∀ p ∈ sc, ¬ p.1 = n := fun p hp q => (h.2.2.2.2 p hp).2 (Or.inl (Or.inl ⟨by omega, by rw [q]; exact nL⟩))
  simp only [fxN] at k
  refine gfb_begin (A := A) (D := D) (T := T) (ρ := ρ) hS ⟨w2.1, by omega⟩ hl hQ (fun z σ' y1 y2 y3 y4 => ?_) (fun s1 z es1 es2 σ1 S1 T1 V1 v1 => ?_)
  · rw [z] at k; exact k σ' y1 y2 y3 y4
  rw [z] at k
  simp only at k
  rw [if_neg (by omega), if_pos k2, ea] at k
  simp only [List.getD_cons_zero, List.getD_cons_succ] at k
  have b1 := fS_b S1
  obtain ⟨m, rfl⟩ : ∃ m', m = m' + 1 := ⟨m - 1, by omega⟩
  refine rf_g (by rw [S1.2.2.1.1]; omega) S1.2.1 (fun Qz hz => gf_part (j := 0) (gFX hX S1.1) w2 S1.2.2.1.1 ⟨by omega, by omega⟩ T1 (by omega) (by omega) (fun z => by omega) (by rw [ea]; rfl) (fun σ3 e3 Q' hQ' => ?_))
  obtain ⟨S3, T3, f3, V3⟩ := gsf_w (A := A) (D := D) (T := T) (ρ := ρ) (b' := b) S1 T1 (by decide) e3
  have V13 := fKp_t V1 V3 ⟨Int.le_refl _, Int.le_refl _⟩ ⟨Int.le_refl _, Int.le_refl _⟩ ⟨Int.le_refl _, Int.le_refl _⟩
  refine gpf (m := m) F hP ha (fS_wk S3) hl T3 (scFX_u hs V13 (fun p _ => rfl)) (by omega) (fun r er hr => ?_) (fun σ' h' => hQ' σ' (fun _ => hz σ' h'))
  rw [er] at k
  match r, k, hr with
  | .inl (e, w'), k, _ => exact k
  | .inr (v, s2, ρ2), k, hr =>
    intro σ4 m4 S4 T4 q4 U4 v4 hm4
    obtain ⟨pl, pk⟩ := hr v s2 ρ2 rfl
    simp only at k
    have b4 := fS_b S4
    have V4 := fKp_t V13 U4 ⟨Int.le_refl _, Int.le_refl _⟩ ⟨Int.le_refl _, Int.le_refl _⟩ ⟨Int.le_refl _, Int.le_refl _⟩
    obtain ⟨m4, rfl⟩ : ∃ m', m4 = m' + 1 := ⟨m4 - 1, by omega⟩
    refine rf_g (by rw [S4.2.2.1.1]; omega) S4.2.1 (fun Qz hz => gf_let (x := b) (gFX hX S4.1) w2 S4.2.2.1.1 ⟨by omega, by omega⟩ T4 k2 (by rw [ea]; rfl) S4.2.2.1.2.1 ⟨by omega, by omega⟩ (fun σ9 σ13 e9 e13 Q' hQ' => ?_))
    have f13 : sg_F [127, 134, 71088] σ4 σ13 := by rw [e13, e9]; exact sg_F_w (sg_F_w (sg_F_w (sg_F_r _ _) rfl _) rfl _) rfl _
    have ex13 : fEx σ4 σ13 := fEx_F f13 rfl
    have g70 : sg_g σ13 88 70 = b := by rw [e13, sg_gw_c _ _ _ _ _ _ (by decide), e9, sg_gw_c _ _ _ _ _ _ (by decide), sg_gw_e _ _ _ _ ⟨by omega, by omega⟩]
    have cn : sg_g σ13 134 n = sg_g σ4 133 b := by rw [e13, sg_gw_c _ _ _ _ _ _ (by decide), e9, sg_gw_e _ _ _ _ (sg_Rg _ _ _)]
    have co : ∀ u, ¬ u = n → sg_g σ13 134 u = sg_g σ4 134 u := fun u hu => by rw [e13, sg_gw_c _ _ _ _ _ _ (by decide), e9, sg_gw_k _ _ _ _ _ _ hu, sg_gw_c _ _ _ _ _ _ (by decide)]
    have S13 : fSs σb σ13 (fr + 1) b sv s2 := fS_w S4 f13 rfl rfl (sg_F_m f13 rfl) g70 ⟨by omega, by omega⟩
    obtain ⟨p1, p2, p3, p4, p5⟩ := T4
    have T13 : gfT σ13 fr n 2 b l sv := ⟨by rw [sg_F_ga f13 rfl]; exact p1, by rw [e13, sg_gw_e _ _ _ _ ⟨by decide, by decide⟩], by rw [sg_F_ga f13 rfl]; exact p3, by rw [sg_F_ga f13 rfl]; exact p4, by rw [sg_F_ga f13 rfl]; exact p5⟩
    have rn : rlF A D T σ13 (fun x => if x = n then v else ρ2 x) n := by
      obtain ⟨R, hR⟩ := v4
      refine ⟨R, ?_⟩
      rw [cn, btn]
      show fX σ13 6000 (sg_g σ4 133 b) (T a).toNat (if n = n then v else ρ2 n) R
      rw [if_pos rfl]
      exact fX_up ex13 hR
    have V13' : fKp A D T σ4 σ13 ρ2 (fun x => if x = n then v else ρ2 x) fr b sv := ⟨ex13, fun x _ => sg_F_ga f13 rfl, fun y hy => by
      by_cases q : y = n
      · rw [q]; exact rn
      · exact rlF_up hy ex13 (co y q) (by simp only [if_neg q]), fun i hi => ⟨sg_F_ga f13 rfl, by rw [e13, sg_gw_k _ _ _ _ _ _ (by omega), e9, sg_gw_c _ _ _ _ _ _ (by decide), sg_gw_c _ _ _ _ _ _ (by decide)], sg_F_ga f13 rfl, sg_F_ga f13 rfl, sg_F_ga f13 rfl, sg_F_ga f13 rfl⟩, fun i _ => ⟨sg_F_ga f13 rfl, sg_F_ga f13 rfl⟩⟩
    have V5 := fKp_t V4 V13' ⟨Int.le_refl _, Int.le_refl _⟩ ⟨Int.le_refl _, Int.le_refl _⟩ ⟨Int.le_refl _, Int.le_refl _⟩
    have sc13 : scFX A D T σ13 (fun x => if x = n then v else ρ2 x) l ((n, T a) :: sc) := fun p hp => by
      rcases List.mem_cons.mp hp with q | q
      · rw [q]
        exact ⟨⟨w2.1, by simp only; omega⟩, btn.symm, rn, by simp only [if_true]; exact pl⟩
      · obtain ⟨c1, c2, c3, c4⟩ := hs p q
        refine ⟨c1, c2, V5.2.2.1 _ c3, ?_⟩
        simp only [if_neg (sn p q)]
        rw [pk p.1 (ha.2.2.2.2 p q).2]
        exact c4
    refine gpf (m := m4) F hP hc (fS_wk S13) hl T13 sc13 (by omega) (fun r er hr => ?_) (fun σ' h' => hQ' σ' (fun _ => hz σ' h'))
    rw [er] at k
    match r, k, hr with
    | .inl (e, w'), k, _ => exact k
    | .inr (v', s3, ρ3), k, hr =>
      intro σ5 m5 S5 T5 q5 U5 v5 hm5
      rw [e6] at v5
      have b5 := fS_b S5
      obtain ⟨m5, rfl⟩ : ∃ m', m5 = m' + 1 := ⟨m5 - 1, by omega⟩
      refine rf_g (by rw [S5.2.2.1.1]; omega) S5.2.1 (fun Qz hz => gf_val (gFX hX S5.1) w2 S5.2.2.1.1 ⟨by omega, by omega⟩ T5 (Or.inl ⟨k2, by rw [ea]; rfl, by decide⟩) ⟨by omega, by omega⟩ (fun σ18 e18 => ?_))
      exact gf_done (A := A) (D := D) (T := T) (X := X) (σ := σ) (ρ := ρ) (ρ2 := ρ3) (m := m5) S5 T5 ⟨by decide, by decide⟩ (by omega) ⟨by omega, by omega⟩ (fKp_t V5 U5 ⟨Int.le_refl _, Int.le_refl _⟩ ⟨Int.le_refl _, Int.le_refl _⟩ ⟨Int.le_refl _, Int.le_refl _⟩) (sg_Rg _ _ _) v5 e18 (by omega) k (fun σ' h _ => hz σ' h)
/-- a call of a DEF, once its PARAMS are bound -/
def cFr (A : aT) (D : List aDf) (T B : Int → Int) (lev : Int → Nat) (σb : sg_S) (X : sg_S → Prop) (call : Int → Nat → fEv → fSt → fRs) (j : Nat) : Prop := ∀ (d : Nat) (y : aDf) (L' : List Int), D[d]? = some y → d < j → stN A D T B lev d 201 L' (scZ (kPe y) (kPb d 0 y.2.2.1 [])) y.2.2.2 → ∀ (σ : sg_S) (m l : Nat) (ρ : fEv) (fr b sv : Int) (s : fSt), fSw σb σ fr b sv s → l ≤ 6000 → scFX A D T σ ρ l (scZ (kPe y) (kPb d 0 y.2.2.1 [])) → 2 * (2000 - s.1) + fr ≤ (m : Int) + 1 → kF A D T σb X σ ρ fr b sv (T y.2.2.2).toNat (call (d : Int) l ρ s) → ∀ Q : sg_S → Prop, (∀ σ', Rf X m σ' → Q σ') → V_flatBegin σ y.2.2.2 (l : Int) Q
/-- what is bound at once, from binder b0 on -/
theorem rlF_us {σ σ1 : sg_S} {ρ : fEv} {b0 : Int} {vs : List (List vaF)} (ex : fEx σ σ1) (hi : ∀ (j : Nat) (v : List vaF), vs[j]? = some v → ∃ R, fX σ1 6000 (sg_g σ1 134 (b0 + j)) (bTy A D T (b0 + j)).toNat v R) (ho : ∀ x, ¬ (b0 ≤ x ∧ x < b0 + vs.length) → sg_g σ1 134 x = sg_g σ 134 x) : (∀ j : Nat, j < vs.length → rlF A D T σ1 (fUs ρ b0 0 vs) (b0 + j)) ∧ ∀ x, rlF A D T σ ρ x → rlF A D T σ1 (fUs ρ b0 0 vs) x := by
  have h1 : ∀ j : Nat, j < vs.length → rlF A D T σ1 (fUs ρ b0 0 vs) (b0 + j) := fun j hj => by
    obtain ⟨v, hv'⟩ : ∃ v, vs[j]? = some v := ⟨_, List.getElem?_eq_getElem hj⟩
    have := fUs_at (b := b0) (ρ := ρ) (i := 0) hv'
    simp only [Int.ofNat_zero, Int.cast_ofNat_Int, Int.add_zero] at this
    unfold rlF
    rw [this]
    exact hi j v hv'
  refine ⟨h1, fun x hr => ?_⟩
  by_cases c : b0 ≤ x ∧ x < b0 + vs.length
  · have := h1 (x - b0).toNat (by omega)
    rw [show b0 + (((x - b0).toNat : Nat) : Int) = x by omega] at this
    exact this
  · exact rlF_up hr ex (ho x c) (fUs_no (ρ := ρ) (i := 0) (by simp only [Int.ofNat_zero, Int.cast_ofNat_Int, Int.add_zero]; omega))
theorem gfN_call {n : Int} {L : List Int} {sc : List (Int × Int)} {r0 : Int} (hX : pgX σb A D T B) (hlv : lvP A D lev 0 r0) (hP : fPu A D T B lev O call j f) (F : gfN A D T σb X B lev O call j f) (hC : cFr A D T B lev σb X call j) (h : stN A D T B lev j (f + 1) L sc n) (k13 : A.2.1 n = 13) {σ : sg_S} {m l : Nat} {ρ : fEv} {fr b sv : Int} {s : fSt} (hS : fSw σb σ fr b sv s) (hl : l ≤ 6000) (hs : scFX A D T σ ρ l sc) (hm : 2 * (2000 - s.1) + fr ≤ (m : Int) + 1) (k : kF A D T σb X σ ρ fr b sv (T n).toNat (fxN A D T B O call (f + 1) n l ρ s)) {Q : sg_S → Prop} (hQ : ∀ σ', Rf X m σ' → Q σ') : V_flatBegin σ n (l : Int) Q := by
  obtain ⟨w1, w2, w3, w4, w5, w6⟩ := stN_w h
  have hA := hX.2.2.2.2.1
  have bb := fS_bw hS
  have pu := fun (R : List Int) (hR : ∀ x ∈ R, ∃ L', stN A D T B lev j f L' sc x ∧ ∀ y ∈ L', y ∈ L) => fx_sq (O := O) (call := call) (m := l) (L := L) (fun x L' hx ρ s v s' ρ' => hP x L' sc hx l ρ s v s' ρ') R hR (fun p hp => (h.2.2.2.2 p hp).2)
  have hD := hX.2.1
  have hD6 : ∀ (d : Nat) (y : aDf), D[d]? = some y → y.2.2.1.length ≤ 6 := fun d y hy => (hD.2.2 d y hy).2.2.2.2.1
  obtain ⟨d, y, L', ed, hy, dj, hst, how, hty, hTy, hsc⟩ := stN_call hX hlv h k13 hD.2.1 hD6
  have k6 := hD6 d y hy
  have klen : (A.2.2.2.2.1 n).length = y.2.2.1.length := by
    have := congrArg List.length hty
    simpa using this
  have dl := gE_l hy
  have dl12 := hD.2.1
  simp only [fxN] at k
  refine gfb_begin (A := A) (D := D) (T := T) (ρ := ρ) hS ⟨w2.1, by omega⟩ hl hQ (fun z σ' y1 y2 y3 y4 => ?_) (fun s1 z es1 es2 σ1 S1 T1 V1 v1 => ?_)
  · rw [z] at k; exact k σ' y1 y2 y3 y4
  rw [z] at k
  simp only at k
  rw [if_neg (by omega), if_neg (by omega), if_neg (by omega), if_pos k13] at k
  have hs1 := scFX_u hs V1 (fun p _ => rfl)
  have pq := pu (A.2.2.2.2.1 n) (fun x hx => stN_k h (by omega) (by omega) hx) ρ s1
  refine gfRow hX hP F (sc := sc) (off := 0) w2 hl (gof_op w2 (by omega) (by omega) (by omega)) (A.2.2.2.2.1 n) 0 (fun i x hx => by rw [Nat.zero_add, Nat.zero_add]; exact hx) (fun c => by omega) (fun x hx => by obtain ⟨L', a, -⟩ := stN_k h (by omega) (by omega) hx; exact ⟨L', a⟩) σ1 m ρ fr b s1 (by simp only [Int.ofNat_zero, Int.cast_ofNat_Int, Int.add_zero]; exact S1) (by omega) (by omega) T1 hs1 (by omega) ?_
  generalize fSq (fun x => fxN A D T B O call f x l) (A.2.2.2.2.1 n) ρ s1 = r at k pq
  match r, k, pq with
  | .inl (e, w'), k, _ => exact k
  | .inr (vs, s2, ρ2), k, pq =>
    intro σ2 m2 l2 S2 T2 V2 v2 hm2
    obtain ⟨pl, pv, pk⟩ := pq vs s2 ρ2 (fun p hp => (hs1 p hp).2.2.2) rfl
    simp only [Int.ofNat_zero, Int.cast_ofNat_Int, Int.add_zero, Nat.zero_add] at S2 T2 V2 v2
    simp only at k
    rw [ed] at k
    have b2 := fS_b S2
    obtain ⟨a1, a2, ⟨a3, a4, a5⟩, c2, hN⟩ := id S2
    have hX2 := gFX hX a1
    obtain ⟨m2, rfl⟩ : ∃ m', m2 = m' + 1 := ⟨m2 - 1, by omega⟩
    refine rf_g (by omega) a2 (fun Qz hz => gf_call (q := (d : Int)) hX2 w2 a3 ⟨by omega, by omega⟩ T2 k13 rfl (by omega) ed ⟨by omega, by omega⟩ ⟨by omega, by omega⟩ (fun σ46 f46 p1 p2 p3 p4 p5 Q' hQ' => ?_))
    have ex46 : fEx σ2 σ46 := fEx_F f46 rfl
    have e105 := (hX2.2.1.2.2 d y hy).2.2.1
    rw [e105]
    have S46 : fSs σb σ46 (fr + 1) b sv s2 := fS_w S2 f46 rfl rfl (sg_F_m f46 rfl) p5 ⟨by omega, by omega⟩
    obtain ⟨t1, t2, t3, t4, t5⟩ := id T2
    have T46 : gfT σ46 fr n ((A.2.2.2.2.1 n).length + 1) b l sv := ⟨by rw [sg_F_ga f46 rfl]; exact t1, p3, by rw [sg_F_ga f46 rfl]; exact t3, by rw [sg_F_ga f46 rfl]; exact t4, by rw [sg_F_ga f46 rfl]; exact t5⟩
    obtain ⟨us1, us2⟩ := rlF_us (A := A) (D := D) (T := T) (σ := σ2) (σ1 := σ46) (ρ := ρ2) (b0 := 1100 + 6 * (d : Int)) (vs := vs) ex46 (fun i v hv => by
      have hi := gE_l hv
      obtain ⟨u, hu⟩ : ∃ u, y.2.2.1[i]? = some u := ⟨_, List.getElem?_eq_getElem (by omega)⟩
      obtain ⟨x, hx⟩ : ∃ x, (A.2.2.2.2.1 n)[i]? = some x := ⟨_, List.getElem?_eq_getElem (by omega)⟩
      have e1 : T x = u.2.2 := by
        have q := congrArg (fun q => q[i]?) hty
        simp only [List.getElem?_map, hx, hu] at q
        simpa using q
      obtain ⟨R, hR⟩ := v2 i x v hx hv
      rw [p1 i (by omega), bTy_p hy hu (by omega), ← e1]
      exact ⟨R, fX_up ex46 hR⟩) (fun x hx => p2 x (by omega))
    have V46 : fKp A D T σ2 σ46 ρ2 (fUs ρ2 (1100 + 6 * (d : Int)) 0 vs) fr b sv := ⟨ex46, fun x _ => sg_F_ga f46 rfl, us2, fun i hi => ⟨sg_F_ga f46 rfl, p4 i (by omega), sg_F_ga f46 rfl, sg_F_ga f46 rfl, sg_F_ga f46 rfl, sg_F_ga f46 rfl⟩, fun i _ => ⟨sg_F_ga f46 rfl, sg_F_ga f46 rfl⟩⟩
    have V5 := fKp_t V1 (fKp_t V2 V46 ⟨Int.le_refl _, Int.le_refl _⟩ ⟨Int.le_refl _, Int.le_refl _⟩ ⟨Int.le_refl _, Int.le_refl _⟩) ⟨Int.le_refl _, Int.le_refl _⟩ ⟨Int.le_refl _, Int.le_refl _⟩ ⟨Int.le_refl _, Int.le_refl _⟩
    refine hC d y L' hy dj hst σ46 m2 l (fUs ρ2 (1100 + 6 * (d : Int)) 0 vs) (fr + 1) b sv s2 (fS_wk S46) hl (fun p hp => ?_) (by omega) ?_ Q' (fun σ' h' => hQ' σ' (fun _ => hz σ' h'))
    · obtain ⟨i, u, hu, ep⟩ := hsc p hp
      have hi := gE_l hu
      obtain ⟨v, hv⟩ : ∃ v, vs[i]? = some v := ⟨_, List.getElem?_eq_getElem (by omega)⟩
      rw [ep]
      simp only
      refine ⟨⟨by omega, by omega⟩, (bTy_p hy hu (by omega)).symm, us1 i (by omega), ?_⟩
      rw [show (1100 : Int) + 6 * (d : Int) + (i : Int) = 1100 + 6 * (d : Int) + ((0 : Nat) : Int) + (i : Int) by omega, fUs_at hv]
      exact pv v (List.mem_of_getElem? hv)
    · generalize call (d : Int) l (fUs ρ2 (1100 + 6 * (d : Int)) 0 vs) s2 = r at k
      match r, k with
      | .inl (e, w'), k => exact k
      | .inr (v', s3, ρ3), k =>
        intro σ5 m5 S5 U5 v5 hm5
        rw [← hTy] at v5
        have b5 := fS_b S5
        obtain ⟨x1, x2, x3, x4, x5, x6⟩ := U5.2.2.2.1 fr (by omega)
        have T5 : gfT σ5 fr n ((A.2.2.2.2.1 n).length + 1) b l sv := ⟨x1.trans T46.1, x2.trans T46.2.1, x3.trans T46.2.2.1, x4.trans T46.2.2.2.1, x5.trans T46.2.2.2.2⟩
        obtain ⟨m5, rfl⟩ : ∃ m', m5 = m' + 1 := ⟨m5 - 1, by omega⟩
        refine rf_g (by rw [S5.2.2.1.1]; omega) S5.2.1 (fun Qz hz => gf_val (gFX hX S5.1) w2 S5.2.2.1.1 ⟨by omega, by omega⟩ T5 (Or.inr ⟨k13, rfl⟩) ⟨by omega, by omega⟩ (fun σ18 e18 => ?_))
        exact gf_done (A := A) (D := D) (T := T) (X := X) (σ := σ) (ρ := ρ) (ρ2 := ρ3) (m := m5) S5 T5 ⟨by omega, by omega⟩ (by omega) ⟨by omega, by omega⟩ (fKp_t V5 U5 ⟨Int.le_refl _, by omega⟩ ⟨Int.le_refl _, Int.le_refl _⟩ ⟨Int.le_refl _, Int.le_refl _⟩) (sg_Rg _ _ _) v5 e18 (by omega) k (fun σ' h _ => hz σ' h)
end BFS
/-! lanes put together; which variables are carried along, told once for all. -/
theorem rg_F (l : List vaF) : (List.range l.length).map (fun i => l.getD i (nmF 0)) = l := by
  apply List.ext_getElem?
  intro i
  rw [List.getElem?_map]
  rcases Nat.lt_or_ge i l.length with q | q
  · rw [List.getElem?_range q, Option.map_some, gD_i q]
  · rw [List.getElem?_eq_none (by rw [List.length_range]; exact q), List.getElem?_eq_none q]; rfl
/-- how many lanes are so -/
def cwF (b : Bool) (c : List vaF) : Nat := c.countP (fun v => decide (v [] = 0) != b)
theorem fWh_l (b : Bool) (c : List vaF) : (fWh b c).length = cwF b c := by
  unfold fWh cwF
  rw [← List.countP_eq_length_filter]
  have e := List.countP_map (p := fun v : vaF => decide (v [] = 0) != b) (f := fun i => c.getD i (nmF 0)) (l := List.range c.length)
  rw [rg_F] at e
  rw [e]
  rfl
theorem cwF_c (b : Bool) (v : vaF) (r : List vaF) : cwF b (v :: r) = cwF b r + if (decide (v [] = 0) != b) = true then 1 else 0 := by
  unfold cwF
  rw [List.countP_cons]
theorem cwF_a (b : Bool) (l r : List vaF) : cwF b (l ++ r) = cwF b l + cwF b r := by
  unfold cwF
  rw [List.countP_append]
theorem cwF_1 {b : Bool} {v : vaF} : cwF b [v] = if (decide (v [] = 0) != b) = true then 1 else 0 := by
  rw [cwF_c]
  show 0 + _ = _
  rw [Nat.zero_add]
theorem cwF_t : ∀ c : List vaF, cwF true c + cwF false c = c.length
  | [] => rfl
  | v :: r => by
    have := cwF_t r
    rw [cwF_c, cwF_c, List.length_cons]
    by_cases h : v [] = 0
    · simp [h]; omega
    · simp [h]; omega
/-- which lane each one is taken from -/
def mgK : List vaF → Nat → Nat → List Int
  | [], _, _ => []
  | c :: r, t, o => if c [] = 0 then (o : Int) :: mgK r t (o + 1) else (t : Int) :: mgK r (t + 1) o
theorem mgK_a : ∀ (l : List vaF) (v : vaF) (t o : Nat), mgK (l ++ [v]) t o = mgK l t o ++ [if v [] = 0 then ((o + cwF false l : Nat) : Int) else ((t + cwF true l : Nat) : Int)]
  | [], v, t, o => by
    simp only [List.nil_append, mgK]
    by_cases h : v [] = 0
    · rw [if_pos h, if_pos h]; rfl
    · rw [if_neg h, if_neg h]; rfl
  | c :: r, v, t, o => by
    simp only [List.cons_append, mgK]
    rw [cwF_c, cwF_c]
    by_cases h : c [] = 0
    · rw [if_pos h, if_pos h, mgK_a r v t (o + 1)]
      simp only [h, decide_true, bne_self_eq_false, Bool.false_eq_true, if_false, List.cons_append, Nat.add_zero, Bool.true_bne, Bool.not_false, if_true]
      rw [show o + 1 + cwF false r = o + (cwF false r + 1) by omega]
    · rw [if_neg h, if_neg h, mgK_a r v (t + 1) o]
      simp only [h, decide_false, List.cons_append, Nat.add_zero, Bool.false_bne, Bool.false_eq_true, if_false, if_true]
      rw [show t + 1 + cwF true r = t + (cwF true r + 1) by omega]
theorem mgK_l : ∀ (l : List vaF) (t o : Nat), (mgK l t o).length = l.length
  | [], t, o => rfl
  | c :: r, t, o => by
    simp only [mgK]
    split
    · rw [List.length_cons, List.length_cons, mgK_l r]
    · rw [List.length_cons, List.length_cons, mgK_l r]
theorem hd_D (l : List vaF) (t : Nat) : (l.drop t).headD (nmF 0) = lnF l (t : Int) := by
  unfold lnF
  rw [if_neg (by omega), Int.toNat_natCast]
  rcases Nat.lt_or_ge t l.length with q | q
  · rw [dr_D q]; rfl
  · rw [List.drop_of_length_le q, List.getD_eq_getElem?_getD, List.getElem?_eq_none q]; rfl
theorem mgK_f (l : List vaF) : ∀ (c : List vaF) (t o : Nat), (mgK c t o).map (lnF l) = fMg c (l.drop t) (l.drop o)
  | [], t, o => rfl
  | c :: r, t, o => by
    simp only [mgK, fMg]
    have td : ∀ q : Nat, (l.drop q).tail = l.drop (q + 1) := fun q => by rw [List.tail_drop]
    by_cases h : c [] = 0
    · rw [if_pos h, if_pos h, List.map_cons, mgK_f l r t (o + 1), hd_D, td]
    · rw [if_neg h, if_neg h, List.map_cons, mgK_f l r (t + 1) o, hd_D, td]
theorem fMg_x : ∀ (c a z b : List vaF), cwF true c ≤ a.length → fMg c (a ++ z) b = fMg c a b
  | [], a, z, b, _ => rfl
  | c :: r, a, z, b, h => by
    rw [cwF_c] at h
    simp only [fMg]
    by_cases q : c [] = 0
    · rw [if_pos q, if_pos q, fMg_x r a z b.tail (by omega)]
    · rw [if_neg q, if_neg q]
      simp only [q, decide_false, Bool.false_bne, if_true] at h
      cases a with
      | nil => simp only [List.length_nil] at h; omega
      | cons x a =>
        simp only [List.length_cons] at h
        simp only [List.cons_append, List.headD_cons, List.tail_cons]
        rw [fMg_x r a z b (by omega)]
theorem mgK_b : ∀ (c : List vaF) (t o : Nat) (x : Int), x ∈ mgK c t o → x < ((t + cwF true c : Nat) : Int) ∨ x < ((o + cwF false c : Nat) : Int)
  | [], t, o, x, h => by cases h
  | c :: r, t, o, x, h => by
    simp only [mgK] at h
    rw [cwF_c, cwF_c]
    by_cases q : c [] = 0
    · rw [if_pos q] at h
      simp only [q, decide_true, bne_self_eq_false, Bool.false_eq_true, if_false, Nat.add_zero, Bool.true_bne, Bool.not_false, if_true]
      rcases List.mem_cons.mp h with e | e
      · right; omega
      · rcases mgK_b r t (o + 1) x e with w | w
        · left; omega
        · right; omega
    · rw [if_neg q] at h
      simp only [q, decide_false, Nat.add_zero, Bool.false_bne, Bool.false_eq_true, if_false, if_true]
      rcases List.mem_cons.mp h with e | e
      · left; omega
      · rcases mgK_b r (t + 1) o x e with w | w
        · left; omega
        · right; omega
theorem exF_0 : ∀ d : Nat, exF d [] = 0
  | 0 => rfl
  | d + 1 => by
    show ((0 : Nat) : Int) + exF d [] = 0
    rw [exF_0 d]
    rfl
theorem exF_c (d : Nat) (v : vaF) (l : List vaF) : exF d (v :: l) = exF d [v] + exF d l := exF_a d [v] l
theorem exF_Mg (d : Nat) : ∀ (c a b : List vaF), cwF true c = a.length → cwF false c = b.length → exF d (fMg c a b) = exF d a + exF d b
  | [], a, b, h1, h2 => by
    have ea : a = [] := List.eq_nil_of_length_eq_zero h1.symm
    have eb : b = [] := List.eq_nil_of_length_eq_zero h2.symm
    rw [ea, eb]
    show exF d [] = exF d [] + exF d []
    rw [exF_0]; omega
  | c :: r, a, b, h1, h2 => by
    rw [cwF_c] at h1 h2
    simp only [fMg]
    by_cases q : c [] = 0
    · simp only [q, decide_true, bne_self_eq_false, Bool.false_eq_true, if_false, Nat.add_zero, Bool.true_bne, Bool.not_false, if_true] at h1 h2
      rw [if_pos q]
      cases b with
      | nil => simp only [List.length_nil] at h2; omega
      | cons x b =>
        simp only [List.length_cons] at h2
        simp only [List.headD_cons, List.tail_cons]
        rw [exF_c d x (fMg r a b), exF_Mg d r a b h1 (by omega), exF_c d x b]
        omega
    · simp only [q, decide_false, Nat.add_zero, Bool.false_bne, Bool.false_eq_true, if_false, if_true] at h1 h2
      rw [if_neg q]
      cases a with
      | nil => simp only [List.length_nil] at h1; omega
      | cons x a =>
        simp only [List.length_cons] at h1
        simp only [List.headD_cons, List.tail_cons]
        rw [exF_c d x (fMg r a b), exF_Mg d r a b (by omega) h2, exF_c d x a]
        omega
/-- the reference's lists of variables that are carried along -/
def gaH (A : aT) (B c : Int → Int) (O : Int → Nat → List Int) : Prop := ∀ n, (A.2.1 n = 3 → ∀ (st : Nat) (x : Int) (L : List Int), (st = 1 ∨ st = 2) → (A.2.2.2.2.1 n)[st]? = some x → fT A [x] L → (∀ y ∈ L, 0 ≤ y ∧ y < A.1) → O n st = gaO A B c L (-1) A.1.toNat) ∧ (A.2.1 n = 15 → ∀ (bd : Int) (tl Lb Lt : List Int), A.2.2.2.2.1 n = bd :: tl → fT A [bd] Lb → fT A (tl.drop (A.2.2.2.2.2 n).length) Lt → (∀ y ∈ Lb ++ Lt, 0 ≤ y ∧ y < A.1) → O n 0 = gaO A B c (Lb ++ Lt) n A.1.toNat ∧ O n 1 = gaO A B c Lb (-1) A.1.toNat)
section BGS
variable {A : aT} {D : List aDf} {T B c : Int → Int} {lev : Int → Nat} {σ : sg_S}
theorem rbX_L {j f : Nat} {L' : List Int} {sc : List (Int × Int)} {x : Int} (hA : A.1 ≤ 200) (ha : stN A D T B lev j f L' sc x) : ∀ y ∈ L', A.2.1 y = 1 → rb A (B y) := fun y hy ky => by
  rcases stN_v hA ha hy ky with ⟨q, -⟩ | q
  · exact (ha.2.2.2.2 _ q).1
  · rcases q with ⟨q1, q2⟩ | ⟨q1, q2, q3⟩
    · have := (ha.2.2.2.1 _ q2).1
      exact ⟨⟨by omega, by omega⟩, fun _ => this.2, fun z => by omega⟩
    · have := (ha.2.2.2.1 _ q3).1
      exact ⟨⟨by omega, by omega⟩, fun z => by omega, fun _ _ => this.2⟩
/-- clearInside, markInside, gatherOutside of one part -/
theorem m_ch1 {x : Int} {L' : List Int} {Q : sg_S → Prop} (hX : pgX σ A D T B) (hc : ∀ y, sg_g σ 116 y = c y) (hf : fT A [x] L') (hn : L'.Nodup) (hr : ∀ y ∈ L', 0 ≤ y ∧ y < A.1) (hb : ∀ y ∈ L', A.2.1 y = 1 → rb A (B y)) (k : ∀ σ', oR σ' (gaO A B c L' (-1) A.1.toNat) → sg_F [119, 120, 121, 47088, 50088] σ σ' → Q σ') : V_clearInside σ (fun σ118 => sg_F [120, 47088] σ σ118 → V_markInside σ118 x (fun σ124 => sg_F [120, 121, 50088] σ118 σ124 → V_gatherOutside σ124 (-1) (fun σ130 => sg_F [119, 47088] σ124 σ130 → Q σ130))) := by
  have hA := hX.2.2.2.2.1
  have P7 := trT_X (sg_F_r [] σ) rfl hX
  refine m_clear P7.1.1.1 ⟨P7.1.1.2.1, hA⟩ (fun σ8 m8 o8 f8 _ => ?_)
  refine m_mark (trT_X f8 rfl hX).1 hA m8 hf hn hr (fun σ9 m9 f9 _ => ?_)
  rw [List.nil_append] at m9
  have F9 : sg_F [120, 121, 47088, 50088] σ σ9 := sg_F_t (sg_F_m f8 rfl) (sg_F_m f9 rfl)
  have P9 := trT_X F9 rfl hX
  exact m_gatherX P9.1 P9.2 (fun y => by rw [sg_F_ga F9 rfl]; exact hc y) hA (by rw [sg_F_g f9 (by rfl)]; exact o8) m9 hb (fun σ10 o1 f10 _ => k σ10 o1 (sg_F_t (sg_F_m F9 rfl) (sg_F_m f10 rfl)))
/-- restore, told by what lies saved -/
theorem m_restU {to : Int} {Q : sg_S → Prop} (h0 : 0 ≤ to ∧ to ≤ sg_g σ 88 99 ∧ sg_g σ 88 99 ≤ 12000) (hB : sB σ) (k : ∀ σ', sg_g σ' 88 99 = to → (∀ b, sg_g σ' 134 b = und σ to b) → sB σ' → sg_F [134, 100088] σ σ' → Q σ') : V_restore σ to Q := m_restore h0 hB (fun σ' e u hB' f => k σ' e (fun b => by
  have := u to b (Int.le_refl _)
  rw [← e, und_top] at this
  rw [this, e]) hB' f)
theorem undA_2 {b : Int} {w : Int → Int} (n : Nat) : ∀ (O : List Int) (s : Int), (∀ (i : Nat) (x : Int), O[i]? = some x → sg_g σ 148 (s + i) = x ∧ sg_g σ 149 (s + i) = w x) → undA σ b s (O.length + n) = if b ∈ O then w b else undA σ b (s + O.length) n
  | [], s, _ => by simp
  | x :: O, s, h => by
    obtain ⟨h1, h2⟩ := h 0 x rfl
    simp only [Int.ofNat_zero, Int.cast_ofNat_Int, Int.add_zero] at h1 h2
    have ih := undA_2 (b := b) n O (s + 1) (fun i y hy => by
      have := h (i + 1) y hy
      rwa [show s + ((i + 1 : Nat) : Int) = s + 1 + (i : Int) by omega] at this)
    rw [List.length_cons, show O.length + 1 + n = (O.length + n) + 1 by omega]
    simp only [undA]
    rw [h1, h2, ih, show s + 1 + (O.length : Int) = s + ((O.length + 1 : Nat) : Int) by omega]
    by_cases e : x = b
    · rw [if_pos e, if_pos (by rw [e]; simp), e]
    · rw [if_neg e]
      by_cases e2 : b ∈ O
      · rw [if_pos e2, if_pos (List.mem_cons_of_mem _ e2)]
      · rw [if_neg e2, if_neg (fun q => (List.mem_cons.mp q).elim (fun z => e z.symm) e2)]
end BGS
/-! THE FLAT RUN of the reference in big steps: parts of an if. -/
/-- node n at stage st: what it has, once all that it saved is put back -/
def ifS (A : aT) (D : List aDf) (T : Int → Int) (σb σ σ6 : sg_S) (ρ0 ρ : fEv) (n fr b sv sv6 : Int) (l : Nat) (st bv : Int) (s : fSt) : Prop := fSs σb σ6 (fr + 1) bv sv6 s ∧ gfT σ6 fr n st b l sv ∧ (0 ≤ sv ∧ sv ≤ sv6) ∧ (∀ σ7, sg_F [127, 134, 100088] σ6 σ7 → (∀ i, ¬ i = fr → sg_g σ7 127 i = sg_g σ6 127 i) → (∀ y, sg_g σ7 134 y = und σ6 sv y) → fKp A D T σ σ7 ρ0 ρ fr b sv)
theorem fCa_s {ty : Int → Int} {ks : List Nat} : ∀ {P : List Int} {s s' : fSt} {ρ ρ' : fEv}, fCa ty ks P s ρ = .inr (s', ρ') → s'.1 = s.1 + P.length ∧ s.2.1 ≤ s'.2.1 ∧ s'.2.2 = s.2.2
  | [], s, s', ρ, ρ', h => by
    simp only [fCa, Sum.inr.injEq, Prod.mk.injEq] at h
    rw [← h.1]
    exact ⟨by simp, Int.le_refl _, rfl⟩
  | y :: r, s, s', ρ, ρ', h => by
    simp only [fCa] at h
    cases hs : fStp (exF (ty y).toNat (fPk (ρ y) ks)) s with
    | none => rw [hs] at h; cases h
    | some s1 =>
      rw [hs] at h
      obtain ⟨z1, z2, z3, -⟩ := fStp_s hs
      obtain ⟨q1, q2, q3⟩ := fCa_s h
      have := exF_n (ty y).toNat (fPk (ρ y) ks)
      refine ⟨by rw [List.length_cons]; omega, by omega, by rw [q3, z3]⟩
section BHS
variable {A : aT} {D : List aDf} {T B : Int → Int} {lev : Int → Nat} {σb : sg_S} {X : sg_S → Prop} {O : Int → Nat → List Int} {call : Int → Nat → fEv → fSt → fRs} {j f : Nat}
/-- nothing is saved -/
theorem ifS_0 {σ σ6 : sg_S} {ρ0 ρ : fEv} {n fr b sv : Int} {l : Nat} {st bv : Int} {s : fSt} (S : fSs σb σ6 (fr + 1) bv sv s) (hT : gfT σ6 fr n st b l sv) (K : fKp A D T σ σ6 ρ0 ρ fr b sv) : ifS A D T σb σ σ6 ρ0 ρ n fr b sv sv l st bv s := by
  have bb := fS_b S
  refine ⟨S, hT, ⟨by omega, Int.le_refl _⟩, fun σ7 f7 h7 u7 => ?_⟩
  have ex : fEx σ6 σ7 := fEx_F f7 rfl
  have e : ∀ y, sg_g σ7 134 y = sg_g σ6 134 y := fun y => by
    rw [u7 y, ← S.2.2.1.2.2, und_top]
  exact fKp_t K ⟨ex, fun x _ => sg_F_ga f7 rfl, fun y hy => rlF_up hy ex (e y) rfl, fun i hi => ⟨sg_F_ga f7 rfl, h7 i (by omega), sg_F_ga f7 rfl, sg_F_ga f7 rfl, sg_F_ga f7 rfl, sg_F_ga f7 rfl⟩, fun i _ => ⟨sg_F_ga f7 rfl, sg_F_ga f7 rfl⟩⟩ ⟨Int.le_refl _, Int.le_refl _⟩ ⟨Int.le_refl _, Int.le_refl _⟩ ⟨Int.le_refl _, Int.le_refl _⟩
/-- all that was saved is put back -/
theorem ifS_r {σ σ6 σ3 : sg_S} {ρ0 ρ : fEv} {n fr b sv sv6 : Int} {l : Nat} {st bv : Int} {s : fSt} {Q : sg_S → Prop} (h : ifS A D T σb σ σ6 ρ0 ρ n fr b sv sv6 l st bv s) (hst : sg_R (st + 1)) (e3 : σ3 = sg_w σ6 127 fr (st + 1)) (k : ∀ σ7, fSs σb σ7 (fr + 1) bv sv s → gfT σ7 fr n (st + 1) b l sv → fKp A D T σ σ7 ρ0 ρ fr b sv → sg_F [127, 134, 100088] σ6 σ7 → Q σ7) : V_restore σ3 sv (fun σ7 => sg_F [134, 100088] σ3 σ7 → Q σ7) := by
  obtain ⟨S6, T6, hsv, h7⟩ := h
  obtain ⟨S3, T3, f3, V3⟩ := gsf_w (A := A) (D := D) (T := T) (ρ := ρ) (b' := b) S6 T6 hst e3
  have b3 := fS_b S3
  obtain ⟨a1, a2, ⟨a3, a4, a5⟩, c3, hN⟩ := id S3
  refine m_restU ⟨hsv.1, by omega, by omega⟩ hN.2.1 (fun σ7 e7 u7 B7 f7 _ => ?_)
  have F7 : sg_F [127, 134, 100088] σ6 σ7 := sg_F_t (sg_F_m f3 rfl) (sg_F_m f7 rfl)
  obtain ⟨hI, hB, n1, n2, n3⟩ := hN
  obtain ⟨i1, i2, i3, i4, i5⟩ := hI
  have g84 : sg_g σ7 88 84 = sg_g σ3 88 84 := sg_F_g f7 (by rfl)
  have g85 : sg_g σ7 88 85 = sg_g σ3 88 85 := sg_F_g f7 (by rfl)
  have g91 : sg_g σ7 88 91 = sg_g σ3 88 91 := sg_F_g f7 (by rfl)
  have g87 : sg_g σ7 88 87 = sg_g σ3 88 87 := sg_F_g f7 (by rfl)
  have g62 : sg_g σ7 88 62 = sg_g σ3 88 62 := sg_F_g f7 (by rfl)
  have g70 : sg_g σ7 88 70 = sg_g σ3 88 70 := sg_F_g f7 (by rfl)
  refine k σ7 ⟨sg_F_t a1 (sg_F_m f7 rfl), by rw [sg_F_g f7 (by rfl)]; exact a2, ⟨by omega, by omega, e7⟩, fcX_F f7 rfl c3, ⟨⟨by omega, by omega⟩, ⟨by omega, by omega⟩, ⟨by omega, by omega⟩, ⟨by omega, by omega, by omega⟩, by omega, by omega⟩, B7, by omega, by omega, by omega⟩ ⟨by rw [sg_F_ga f7 rfl]; exact T3.1, by rw [sg_F_ga f7 rfl]; exact T3.2.1, by rw [sg_F_ga f7 rfl]; exact T3.2.2.1, by rw [sg_F_ga f7 rfl]; exact T3.2.2.2.1, by rw [sg_F_ga f7 rfl]; exact T3.2.2.2.2⟩ (h7 σ7 F7 (fun i hi => by rw [sg_F_ga f7 rfl, e3, sg_gw_k _ _ _ _ _ _ hi]) (fun y => by rw [u7 y, und_F f3 rfl])) F7
abbrev caL2 : List Nat := [119, 120, 121, 134, 139, 140, 141, 142, 143, 144, 148, 149, 47088, 50088, 85088, 86088, 88088, 92088, 94088, 100088]
/-- variables were carried along, a part was worked out -/
theorem ifS_n {σ σ7 σ8 σ9 : sg_S} {ρ0 ρ ρ3 ρ4 : fEv} {P : List Int} {n fr b sv : Int} {l : Nat} {st bv : Int} {s4 : fSt} (K7 : fKp A D T σ σ7 ρ0 ρ fr b sv) (hb : b ≤ bv) (s0 : 0 ≤ sv) (F8 : sg_F caL2 σ7 σ8) (ex8 : fEx σ7 σ8) (x8 : ∀ y, y ∉ P → sg_g σ8 134 y = sg_g σ7 134 y) (e3 : ∀ y, y ∉ P → ρ3 y = ρ y) (r8 : ∀ (i : Nat) (x : Int), P[i]? = some x → sg_g σ8 148 (sv + i) = x ∧ sg_g σ8 149 (sv + i) = sg_g σ7 134 x) (l8 : ∀ i, i < sv → sg_g σ8 148 i = sg_g σ7 148 i ∧ sg_g σ8 149 i = sg_g σ7 149 i) (S9 : fSs σb σ9 (fr + 1) (bv + 1) (sv + P.length) s4) (T9 : gfT σ9 fr n st b l sv) (U9 : fKp A D T σ8 σ9 ρ3 ρ4 fr bv (sv + P.length)) : ifS A D T σb σ σ9 ρ0 (fBk P ρ ρ4) n fr b sv (sv + P.length) l st (bv + 1) s4 := by
  refine ⟨S9, T9, ⟨s0, by omega⟩, fun σ10 f10 h10 u10 => ?_⟩
  have ex10 : fEx σ9 σ10 := fEx_F f10 rfl
  have ex710 : fEx σ7 σ10 := fEx_t ex8 (fEx_t U9.1 ex10)
  have e134 : ∀ y, sg_g σ10 134 y = if y ∈ P then sg_g σ7 134 y else sg_g σ9 134 y := fun y => by
    have := undA_2 (σ := σ9) (b := y) (w := fun x => sg_g σ7 134 x) 0 P sv (fun i x hx => by
      obtain ⟨q1, q2⟩ := U9.2.2.2.2 (sv + i) (by have := gE_l hx; omega)
      obtain ⟨q3, q4⟩ := r8 i x hx
      exact ⟨q1.trans q3, q2.trans q4⟩)
    rw [u10 y]
    unfold und
    rw [S9.2.2.1.2.2, show (sv + (P.length : Int) - sv).toNat = P.length + 0 by omega, this]
    rfl
  refine ⟨fEx_t K7.1 ex710, fun x hx => ?_, fun y hy => ?_, fun i hi => ?_, fun i hi => ?_⟩
  · rw [sg_F_ga f10 rfl, U9.2.1 x (by omega), sg_F_ga F8 rfl]; exact K7.2.1 x hx
  · have r7 := K7.2.2.1 y hy
    by_cases c : y ∈ P
    · exact rlF_up r7 ex710 (by rw [e134 y, if_pos c]) (by unfold fBk; rw [if_pos c])
    · have r9 := U9.2.2.1 y (rlF_up r7 ex8 (x8 y c) (e3 y c))
      exact rlF_up r9 ex10 (by rw [e134 y, if_neg c]) (by unfold fBk; rw [if_neg c])
  · refine rw6_t (rw6_t (K7.2.2.2.1 i hi) (rw6_F F8 rfl i)) (rw6_t (U9.2.2.2.1 i hi) ⟨sg_F_ga f10 rfl, h10 i (by omega), sg_F_ga f10 rfl, sg_F_ga f10 rfl, sg_F_ga f10 rfl, sg_F_ga f10 rfl⟩)
  · obtain ⟨q1, q2⟩ := K7.2.2.2.2 i hi
    obtain ⟨q3, q4⟩ := l8 i hi
    obtain ⟨q5, q6⟩ := U9.2.2.2.2 i (by omega)
    exact ⟨by rw [sg_F_ga f10 rfl, q5, q3, q1], by rw [sg_F_ga f10 rfl, q6, q4, q2]⟩
/-- variables are carried along -/
theorem m_carS {σ7 σ11 : sg_S} {ρ : fEv} {P : List Int} {kn : List Nat} {l : Nat} {fr bv sv : Int} {s : fSt} {sc : List (Int × Int)} {Q : Int → sg_S → Prop} (S7 : fSs σb σ7 fr bv sv s) (F11 : sg_F [119, 120, 121, 143, 47088, 50088, 94088] σ7 σ11) (hs : scFX A D T σ7 ρ l sc) (hP : oR σ11 P) (hl2 : P.length ≤ 200) (hPs : ∀ z ∈ P, ∃ p ∈ sc, p.1 = z) (hk : lX σ11 (kn.map (fun n : Nat => (n : Int)))) (hkl : ∀ x ∈ kn, x < l) (hn : kn.length ≤ 6000) (k0 : ∀ s', fCa (bTy A D T) kn P s ρ = .inl (8, s') → ∀ σ', sg_F flL σb σ' → sg_g σ' 88 73 = 8 → fcX σ' s' → Q 0 σ') (k1 : ∀ s' ρ', fCa (bTy A D T) kn P s ρ = .inr (s', ρ') → ∀ σ8, fSs σb σ8 fr bv (sv + P.length) s' → sg_F caL2 σ7 σ8 → fEx σ7 σ8 → (∀ y, y ∉ P → sg_g σ8 134 y = sg_g σ7 134 y) → (∀ y, ρ' y = if y ∈ P then fPk (ρ y) kn else ρ y) → (∀ b ∈ P, ∃ R, fX σ8 6000 (sg_g σ8 134 b) (bTy A D T b).toNat (fPk (ρ b) kn) R) → (∀ (i : Nat) (x : Int), P[i]? = some x → sg_g σ8 148 (sv + i) = x ∧ sg_g σ8 149 (sv + i) = sg_g σ7 134 x) → (∀ i, i < sv → sg_g σ8 148 i = sg_g σ7 148 i ∧ sg_g σ8 149 i = sg_g σ7 149 i) → Q 1 σ8) : V_carried σ11 Q := by
  obtain ⟨a1, a2, ⟨a3, a4, a5⟩, c7, hN⟩ := id S7
  have ex11 : fEx σ7 σ11 := fEx_F F11 rfl
  have N11 : fN σ11 := fN_F F11 rfl (by rw [sg_F_g F11 (by rfl)]; exact ⟨hN.2.2.2.1, Int.le_refl _⟩) hN
  have s11 : sg_g σ11 88 99 = sv := by rw [sg_F_g F11 (by rfl)]; exact a5
  refine m_carriedX (ty := bTy A D T) (Λ := l) (ρ := ρ) (s := s) N11.1 (fcX_F F11 rfl c7) N11.2.1 hP hl2 (fun b hb => ?_) hk hkl hn (fun s' e σ' y1 y2 y3 => k0 s' e σ' (sg_F_t a1 (sg_F_t (sg_F_m F11 rfl) (sg_F_m y3 rfl))) y1 y2) (fun s' ρ' e er σ8 I8 c8 B8 ex8 v8 x8 s8 r8 l8 f8 => ?_)
  · obtain ⟨p, hp, e⟩ := hPs b hb
    obtain ⟨q1, q2, ⟨R, hR⟩, q4⟩ := hs p hp
    rw [e] at hR q4
    exact ⟨R, by rw [sg_F_ga F11 rfl]; exact fX_up ex11 hR, q4⟩
  · have F8 : sg_F caL2 σ7 σ8 := sg_F_t (sg_F_m F11 rfl) (sg_F_m f8 rfl)
    have g84 : sg_g σ7 88 84 ≤ sg_g σ8 88 84 := by
      have q1 := fCa_s e
      have := c8.1
      have := c7.1
      omega
    have N8 : fN σ8 := fN_x (σ := σ7) F8 rfl I8 B8 g84 hN
    refine k1 s' ρ' e σ8 ⟨sg_F_t a1 (sg_F_m F8 rfl), by rw [sg_F_g F8 (by rfl)]; exact a2, ⟨by rw [sg_F_g F8 (by rfl)]; exact a3, by rw [sg_F_g F8 (by rfl)]; exact a4, by rw [s8, s11]⟩, c8, N8⟩ F8 (fEx_t ex11 ex8) (fun y hy => by rw [x8 y hy, sg_F_ga F11 rfl]) er v8 (fun i x hx => ?_) (fun i hi => ?_)
    · rw [s11] at r8
      obtain ⟨q1, q2⟩ := r8 i x hx
      exact ⟨q1, by rw [q2, sg_F_ga F11 rfl]⟩
    · obtain ⟨q1, q2⟩ := l8 i (by omega)
      exact ⟨by rw [q1, sg_F_ga F11 rfl], by rw [q2, sg_F_ga F11 rfl]⟩
/-- the scope of a part in its own lanes -/
theorem scFX_c {σ8 : sg_S} {ρ ρ' : fEv} {P : List Int} {kn : List Nat} {l : Nat} {σ7 : sg_S} {sc : List (Int × Int)} (hs : scFX A D T σ7 ρ l sc) (er : ∀ y, ρ' y = if y ∈ P then fPk (ρ y) kn else ρ y) (v8 : ∀ b ∈ P, ∃ R, fX σ8 6000 (sg_g σ8 134 b) (bTy A D T b).toNat (fPk (ρ b) kn) R) : scFX A D T σ8 ρ' kn.length (sc.filter (fun p => decide (p.1 ∈ P))) := fun p hp => by
  obtain ⟨p1, p2⟩ := List.mem_filter.mp hp
  rw [decide_eq_true_eq] at p2
  obtain ⟨q1, q2, -, -⟩ := hs p p1
  obtain ⟨R, hR⟩ := v8 p.1 p2
  have e := er p.1
  rw [if_pos p2] at e
  exact ⟨q1, q2, ⟨R, by rw [e]; exact hR⟩, by rw [e, fPk_l]⟩
theorem fWh_b {b : Bool} {c : List vaF} : ∀ x ∈ fWh b c, x < c.length := fun x hx => List.mem_range.mp (List.mem_filter.mp hx).1
/-- the turn of an if at stage 1 or 2 -/
theorem gfi_go {c : Int → Int} {n : Int} {L : List Int} {sc : List (Int × Int)} (hX : pgX σb A D T B) (hP : fPu A D T B lev O call j f) (F : gfN A D T σb X B lev O call j f) (hO : okO A B O) (hG : gaH A B c O) (hcb : ∀ y, sg_g σb 116 y = c y) (h : stN A D T B lev j (f + 1) L sc n) (k3 : A.2.1 n = 3) {st : Nat} {bb : Bool} (hst : (st = 1 ∧ bb = true) ∨ (st = 2 ∧ bb = false)) {x : Int} (hx : (A.2.2.2.2.1 n)[st]? = some x) {σ σ6 : sg_S} {ρ0 ρ : fEv} {fr b sv sv6 : Int} {m l : Nat} {s : fSt} {cv : List vaF} (h6 : ifS A D T σb σ σ6 ρ0 ρ n fr b sv sv6 l st (b + st) s) (hcv : ∃ R, fX σ6 6000 (sg_g σ6 133 b) 0 cv R) (cvl : cv.length = l) (hl : l ≤ 6000) (hs : scFX A D T σ ρ0 l sc) (hsl : ∀ p ∈ sc, (ρ p.1).length = l) (f0 : 0 ≤ fr) (b0 : 0 ≤ b) (hm : 2 * (2000 - s.1) + (fr + 1) ≤ (m : Int)) (k : match fCa (bTy A D T) (fWh bb cv) (O n st) s ρ with
  | .inl (e, s') => ∀ σ', sg_F flL σb σ' → sg_g σ' 88 73 = e → ¬ e = 0 → fcX σ' s' → X σ'
  | .inr (s3, ρ3) => match fxN A D T B O call f x (fWh bb cv).length ρ3 s3 with
    | .inl (e, s') => ∀ σ', sg_F flL σb σ' → sg_g σ' 88 73 = e → ¬ e = 0 → fcX σ' s' → X σ'
    | .inr (v, s4, ρ4) => ∀ σ9 m9, ifS A D T σb σ σ9 ρ0 (fBk (O n st) ρ ρ4) n fr b sv (sv + (O n st).length) l (st + 1) (b + st + 1) s4 → (∃ R, fX σ9 6000 (sg_g σ9 133 (b + st)) (T x).toNat v R) → v.length = (fWh bb cv).length → (∀ p ∈ sc, (fBk (O n st) ρ ρ4 p.1).length = l) → fEx σ6 σ9 → (∀ y, y < b + st → sg_g σ9 133 y = sg_g σ6 133 y) → 2 * (2000 - s4.1) + (fr + 1) ≤ ((m9 : Nat) : Int) → Rf X m9 σ9) : Rf X m σ6 := by
  have hA := hX.2.2.2.2.1
  obtain ⟨w1, w2, w3, w4, w5, w6⟩ := stN_w h
  obtain ⟨S6, T6, sv0, h7⟩ := id h6
  have b6 := fS_b S6
  have hX6 := gFX hX S6.1
  obtain ⟨t1, t2, t3, t4, t5⟩ := tr_k hX6.1 w2
  have tx := t4 st x hx
  obtain ⟨Lx, hxs, sx⟩ := stN_k h (by omega) (by omega) (List.mem_of_getElem? hx)
  have st12 : st = 1 ∨ st = 2 := by omega
  obtain ⟨hxp, hPs⟩ := stN_p (L := L) hA hO k3 st12 hx hxs
  have eO := (hG n).1 k3 st x Lx st12 hx hxs.2.1 (fun y hy => (hxs.2.2.2.1 y hy).1)
  obtain ⟨m, rfl⟩ : ∃ m', m = m' + 1 := ⟨m - 1, by omega⟩
  refine rf_g (by rw [S6.2.2.1.1]; omega) S6.2.1 (fun Qz hz => gf_if hX6 w2 S6.2.2.1.1 ⟨f0, by omega⟩ T6.1 k3 (fun Q' hQ' => ?_))
  have hQ2 : ∀ σ', Rf X m σ' → Q' σ' := fun σ' hr => hQ' σ' (fun _ => hz σ' hr)
  obtain ⟨g1, g2, g3, g4, g5⟩ := id T6
  unfold V_flatIf
  rw [g1, g2, g3, g4, g5]
  refine ⟨⟨f0, by omega⟩, ⟨by omega, by omega⟩, fun σ3 e3 => ifS_r h6 ⟨by omega, by omega⟩ e3 (fun σ7 S7 T7 K7 F7 => ⟨fun c0 => ⟨fun cg => by omega, fun cg => ?_⟩, fun c0 => by omega⟩)⟩
  rw [tx]
  have ex7 : fEx σ6 σ7 := fEx_F F7 rfl
  have b7 := fS_b S7
  have hs7 : scFX A D T σ7 ρ l sc := fun p hp => by
    obtain ⟨q1, q2, q3, -⟩ := hs p hp
    exact ⟨q1, q2, K7.2.2.1 _ q3, hsl p hp⟩
  obtain ⟨Rc, hcv⟩ := hcv
  refine ⟨⟨by omega, by omega⟩, ⟨by omega, by omega⟩, ⟨by omega, by omega⟩, m_ch1 (c := c) (gFX hX S7.1) (fun y => by rw [sg_F_ga S7.1 rfl]; exact hcb y) hxs.2.1 hxs.2.2.1 (fun y hy => (hxs.2.2.2.1 y hy).1) (rbX_L hA hxs) (fun σ10 o10 f10 => ⟨⟨b0, by omega⟩, fun v138 e138 r138 => ?_⟩)⟩
  rw [← eO] at o10
  have hcv10 : fX σ10 6000 (sg_g σ6 133 b) 0 cv Rc := fX_up (fEx_t ex7 (fEx_F f10 rfl)) hcv
  obtain ⟨hI, -⟩ := S7.2.2.2.2
  obtain ⟨i1, i2, i3, i4, i5⟩ := hI
  have g91 : sg_g σ10 88 91 = sg_g σ7 88 91 := sg_F_g f10 (by rfl)
  have g87 : sg_g σ10 88 87 = sg_g σ7 88 87 := sg_F_g f10 (by rfl)
  refine m_whereX (b := bb) hcv10 ⟨by omega, by omega⟩ (by
    rw [e138]
    rcases hst with ⟨q1, q2⟩ | ⟨q1, q2⟩
    · rw [q1, q2]; first | rfl | simp
    · rw [q1, q2]; first | rfl | simp) (fun σ11 l11 f11 _ => ?_)
  have F11 : sg_F [119, 120, 121, 143, 47088, 50088, 94088] σ7 σ11 := sg_F_t (sg_F_m f10 rfl) (sg_F_m f11 rfl)
  have oR11 : oR σ11 (O n st) := ⟨by rw [sg_F_g f11 (by rfl)]; exact o10.1, fun i y hy => by rw [sg_F_ga f11 rfl]; exact o10.2.1 i y hy, o10.2.2⟩
  have ol : (O n st).length ≤ 200 := by
    rw [eO]
    have := gaO_l (A := A) (B := B) (c := c) (L := Lx) (but := -1) A.1.toNat
    omega
  have kl : (fWh bb cv).length ≤ l := by
    have := List.length_filter_le (fun i : Nat => decide ((cv.getD i (nmF 0)) [] = 0) != bb) (List.range cv.length)
    unfold fWh
    rw [List.length_range] at this
    omega
  have e93 : sg_g σ11 88 93 = ((fWh bb cv).length : Int) := by rw [l11.1, List.length_map]
  rw [e93]
  refine m_carS S7 F11 hs7 oR11 ol hPs l11 (fun y hy => by rw [← cvl]; exact fWh_b y hy) (by omega) (fun s' e σ' y1 y2 y3 _ _ => ⟨fun _ => ?_, fun z => absurd rfl z⟩) (fun s3 ρ3 e σ8 S8 F8 ex8 x8 er v8 r8 l8 _ _ => ⟨fun z => by omega, fun _ => ?_⟩)
  · rw [e] at k
    exact hQ2 σ' (rf_s (by rw [y2]; decide) (k σ' y1 y2 (by decide) y3))
  · rw [e] at k
    simp only at k
    have q8 := fCa_s e
    have T8 : gfT σ8 fr n (st + 1) b l sv := ⟨by rw [sg_F_ga F8 rfl]; exact T7.1, by rw [sg_F_ga F8 rfl]; exact T7.2.1, by rw [sg_F_ga F8 rfl]; exact T7.2.2.1, by rw [sg_F_ga F8 rfl]; exact T7.2.2.2.1, by rw [sg_F_ga F8 rfl]; exact T7.2.2.2.2⟩
    refine gpf (m := m) F hP hxp (fS_wk S8) (by omega) T8 (scFX_c hs7 er v8) (by omega) (fun r er' hr => ?_) (fun σ' hr _ => hQ2 σ' hr)
    rw [er'] at k
    match r, k, hr with
    | .inl (e, w'), k, _ => exact k
    | .inr (v, s4, ρ4), k, hr =>
      intro σ9 m9 S9 T9 q9 U9 v9 hm9
      obtain ⟨pl, pk⟩ := hr v s4 ρ4 rfl
      refine k σ9 m9 (ifS_n K7 (by omega) sv0.1 F8 ex8 x8 (fun y hy => by rw [er y, if_neg hy]) r8 l8 S9 T9 U9) v9 pl (fun p hp => ?_) (fEx_t ex7 (fEx_t ex8 U9.1)) (fun y hy => by rw [U9.2.1 y hy, sg_F_ga F8 rfl, sg_F_ga F7 rfl]) hm9
      unfold fBk
      by_cases q : p.1 ∈ O n st
      · rw [if_pos q]; exact hsl p hp
      · rw [if_neg q, pk p.1 (hxs.2.2.2.2 p hp).2, er p.1, if_neg q]; exact hsl p hp
end BHS
/-! THE FLAT RUN of the reference in big steps: an if. -/
section BIS
variable {A : aT} {D : List aDf} {T B : Int → Int} {lev : Int → Nat} {σb : sg_S} {X : sg_S → Prop} {O : Int → Nat → List Int} {call : Int → Nat → fEv → fSt → fRs} {j f : Nat}
theorem tk_D {l : List vaF} {x : Nat} (h : x < l.length) : l.take (x + 1) = l.take x ++ [l.getD x (nmF 0)] := by
  rw [List.take_add_one, gD_i h]; rfl
/-- the value of an if is made -/
theorem gfi_end {n : Int} {σ σ9 : sg_S} {ρ0 ρ : fEv} {fr b sv sv9 : Int} {m l : Nat} {s : fSt} {cv v1 v2 : List vaF} (hX : pgX σb A D T B) (hn : 0 ≤ n ∧ n < A.1) (k3 : A.2.1 n = 3) (h9 : ifS A D T σb σ σ9 ρ0 ρ n fr b sv sv9 l 3 (b + 3) s) (hcv : ∃ R, fX σ9 6000 (sg_g σ9 133 b) 0 cv R) (hv1 : ∃ R, fX σ9 6000 (sg_g σ9 133 (b + 1)) (T n).toNat v1 R) (hv2 : ∃ R, fX σ9 6000 (sg_g σ9 133 (b + 2)) (T n).toNat v2 R) (cvl : cv.length = l) (hl : l ≤ 6000) (l1 : v1.length = cwF true cv) (l2 : v2.length = cwF false cv) (f0 : 0 ≤ fr) (b0 : 0 ≤ b) (hm : 2 * (2000 - s.1) + (fr + 1) ≤ (m : Int)) (k : kF A D T σb X σ ρ0 fr b sv (T n).toNat (match fStp (exF (T n).toNat v1 + exF (T n).toNat v2) s with
  | none => .inl (8, s)
  | some s7 => .inr (fMg cv v1 v2, s7, ρ))) : Rf X m σ9 := by
  have hA := hX.2.2.2.2.1
  obtain ⟨S9, T9, sv0, h7⟩ := id h9
  have b9 := fS_b S9
  have hX9 := gFX hX S9.1
  obtain ⟨m, rfl⟩ : ∃ m', m = m' + 1 := ⟨m - 1, by omega⟩
  refine rf_g (by rw [S9.2.2.1.1]; omega) S9.2.1 (fun Qz hz => gf_if hX9 hn S9.2.2.1.1 ⟨f0, by omega⟩ T9.1 k3 (fun Q' hQ' => ?_))
  have hQ2 : ∀ σ', Rf X m σ' → Q' σ' := fun σ' hr => hQ' σ' (fun _ => hz σ' hr)
  obtain ⟨g1, g2, g3, g4, g5⟩ := id T9
  unfold V_flatIf
  rw [g1, g2, g3, g4, g5]
  refine ⟨⟨f0, by omega⟩, ⟨by decide, by decide⟩, fun σ3 e3 => ifS_r h9 ⟨by decide, by decide⟩ e3 (fun σ7 S7 T7 K7 F7 => ⟨fun c0 => ⟨fun cg => ?_, fun cg => by omega⟩, fun c0 => by omega⟩)⟩
  obtain ⟨Rc, hcv⟩ := hcv
  obtain ⟨R1, hv1⟩ := hv1
  obtain ⟨R2, hv2⟩ := hv2
  have ex7 : fEx σ9 σ7 := fEx_F F7 rfl
  have b7 := fS_b S7
  obtain ⟨a1, a2, ⟨a3, a4, a5⟩, c7, hN⟩ := id S7
  obtain ⟨hI, hB, n1, n2, n3⟩ := hN
  obtain ⟨i1, i2, i3, i4, i5⟩ := hI
  have h17 := fX_up ex7 hv1
  have h27 := fX_up ex7 hv2
  have e1 := eX_F h17
  have e2 := eX_F h27
  have x1 := eX_b h17.1.2.2.2.2
  have x2 := eX_b h27.1.2.2.2.2
  have q1 := h17.2.1
  have q2 := h27.2.1
  have q4 := h17.1.2.1
  have q5 := h27.1.2.1
  have z1 := exF_n (T n).toNat v1
  have z2 := exF_n (T n).toNat v2
  have ub : exF (T n).toNat v1 ≤ 24000 ∧ exF (T n).toNat v2 ≤ 24000 := by
    rw [← e1, ← e2]
    omega
  refine ⟨⟨by omega, by omega⟩, ⟨by omega, by omega⟩, m_extent h17.1 ⟨by decide, by decide⟩ (by omega) (fun _ => ⟨⟨by omega, by omega⟩, ⟨by omega, by omega⟩, m_extent h27.1 ⟨by decide, by decide⟩ (by omega) (fun _ => ?_)⟩)⟩
  rw [e1, e2]
  refine ⟨⟨by omega, by omega⟩, m_stepX c7 ⟨by omega, by omega⟩ (fun e σ' y1 y2 y3 _ _ => ⟨fun z => absurd rfl z, fun _ => ?_⟩) (fun s7 e σ8 c8 f8 _ _ => ⟨fun _ => ?_, fun z => by omega⟩)⟩
  · rw [e] at k
    exact hQ2 σ' (rf_s (by rw [y1]; decide) (k σ' (sg_F_t a1 (sg_F_m y3 rfl)) y1 (by decide) y2))
  rw [e] at k
  simp only at k
  obtain ⟨y1, y2, y3, y4, y5⟩ := fStp_s e
  have F98 : sg_F [127, 134, 85088, 86088, 100088] σ9 σ8 := sg_F_t (sg_F_m F7 rfl) (sg_F_m f8 rfl)
  have ex8 : fEx σ7 σ8 := fEx_F f8 rfl
  have h91 : sg_g σ8 88 91 = sg_g σ7 88 91 := sg_F_g f8 (by rfl)
  have h87 : sg_g σ8 88 87 = sg_g σ7 88 87 := sg_F_g f8 (by rfl)
  have g85 := c7.2.1
  have ap : apF (fun k : Nat => if k = 0 then v1 else v2) 2 = v1 ++ v2 := by simp [apF]
  have ea : exF (T n).toNat (v1 ++ v2) = exF (T n).toNat v1 + exF (T n).toNat v2 := exF_a _ _ _
  refine m_joinF (Ls := fun k : Nat => if k = 0 then v1 else v2) (RR := fun k : Nat => if k = 0 then R1 else R2) (d := (T n).toNat) (M := 6000) (m := 2) ⟨rfl, by decide⟩ ⟨by omega, by omega⟩ (fun k' hk' => ?_) (by omega) ⟨by omega, by omega⟩ (by decide) (by rw [ap, ea]; omega) (fun q σ10 eq ex10 fv10 e87 e91 f10 rq _ => ?_)
  · rw [sg_F_ga (a := 133) F98 rfl]
    rcases (show k' = 0 ∨ k' = 1 by omega) with e | e
    · rw [e, show b + 1 + ((0 : Nat) : Int) = b + 1 by omega]
      exact fX_up ex8 h17
    · rw [e, show b + 1 + ((1 : Nat) : Int) = b + 2 by omega]
      exact fX_up ex8 h27
  rw [ap] at fv10 e91
  have fv := fv10 6000 (fun j hj => by
    have := lvl_ex (T n).toNat j (v1 ++ v2) hj
    omega)
  have ex710 := fEx_t ex8 ex10
  have h110 := fX_up ex710 h17
  have hc10 := fX_up (fEx_t ex7 ex710) hcv
  obtain ⟨r, R', eR, lR, rl, -⟩ := fX_r h110
  have vl : v_lanesOf σ10 (sg_g σ9 133 (b + 1)) = v1.length := by
    unfold v_lanesOf
    have hh := h110.1
    rw [eR] at hh
    rw [(fV_0 hh).2]
    exact rl
  have vb := h110.1.1
  rw [vl]
  refine ⟨⟨⟨by omega, by omega⟩, ⟨by omega, by omega⟩, trivial⟩, fun σ11 e11 => ?_⟩
  have f11 : sg_F [94088] σ10 σ11 := by rw [e11]; exact sg_F_w (sg_F_r _ _) rfl _
  have ct := cwF_t cv
  refine ⟨fun p v49 v50 v51 σ12 => ∃ x : Nat, v51 = x ∧ p = l - x ∧ x ≤ l ∧ v49 = (cwF true (cv.take x) : Int) ∧ v50 = (v1.length : Int) + (cwF false (cv.take x) : Int) ∧ lX σ12 (mgK (cv.take x) 0 v1.length), fun σ12 => lX σ12 (mgK cv 0 v1.length), ⟨_, 0, rfl, rfl, Nat.zero_le _, by simp [cwF], by simp [cwF], by rw [List.take_zero]; exact lX_0 e11⟩, ?_, ?_⟩
  · rintro p v49 v50 v51 σ12 r49 r50 r51 f12 ⟨x, rfl, ep, hx, e49, e50, hd⟩
    refine ⟨fun z => ?_, fun z => ?_⟩
    · rw [List.take_of_length_le (by omega)] at hd
      exact hd
    · have xl : x < cv.length := by omega
      obtain ⟨pa, va⟩ := pRX hc10 ⟨by omega, by omega⟩ xl
      have tk := tk_D xl
      have c1 := cwF_a true (cv.take x) [cv.getD x (nmF 0)]
      have c2 := cwF_a false (cv.take x) [cv.getD x (nmF 0)]
      have cl := cwF_t (cv.take x)
      rw [List.length_take] at cl
      rw [← tk] at c1 c2
      rw [cwF_1] at c1 c2
      refine ⟨⟨b0, by omega⟩, pa, fun v86 e86 r86 v91 e91' r91 => ?_⟩
      rw [va] at e86
      refine m_listX hd (by rw [mgK_l, List.length_take]; omega) r91 (fun σ13 h13 f13 _ v102 e102 r102 => ?_)
      have mk : mgK (cv.take x) 0 v1.length ++ [v91] = mgK (cv.take (x + 1)) 0 v1.length := by
        rw [tk, mgK_a]
        congr 1
        rw [e91']
        by_cases c5 : (cv.getD x (nmF 0)) [] = 0
        · rw [if_pos c5] at e86
          rw [if_pos c5, e86, if_pos rfl, e50]
          rw [show ((v1.length + cwF false (cv.take x) : Nat) : Int) = (v1.length : Int) + (cwF false (cv.take x) : Int) by omega]
        · rw [if_neg c5] at e86
          rw [if_neg c5, e86, if_neg (by decide), e49, Nat.zero_add]
      rw [mk] at h13
      have r1 : sg_R (v49 + v102) := by
        rw [e102]
        split <;> exact ⟨by omega, by omega⟩
      refine ⟨r1, fun v108 e108 r108 => ⟨?_, ⟨by omega, by omega⟩, _, ?_, x + 1, by omega, rfl, by omega, ?_, ?_, h13⟩⟩
      · rw [e108]
        split <;> exact ⟨by omega, by omega⟩
      · omega
      · rw [c1, e102, e86]
        by_cases c5 : (cv.getD x (nmF 0)) [] = 0
        · simp [c5, e49]
        · have c6 := c5
          rw [List.getD_eq_getElem?_getD] at c6
          simp [c6, e49]
      · rw [c2, e108, e86]
        by_cases c5 : (cv.getD x (nmF 0)) [] = 0
        · simp [c5, e50]; omega
        · have c6 := c5
          rw [List.getD_eq_getElem?_getD] at c6
          simp [c6, e50]
  · intro σ12 f12 hd
    have F1012 : sg_F [143, 94088] σ10 σ12 := sg_F_t (sg_F_m f11 rfl) f12
    have fv12 := fX_up (fEx_F F1012 rfl) fv
    have k91 : sg_g σ12 88 91 = sg_g σ7 88 91 + (exF (T n).toNat v1 + exF (T n).toNat v2) := by rw [sg_F_g F1012 (by rfl), e91, h91, ea]
    have k87 : sg_g σ12 88 87 = sg_g σ7 88 87 + 1 := by rw [sg_F_g F1012 (by rfl)]; omega
    have mf : (mgK cv 0 v1.length).map (lnF (v1 ++ v2)) = fMg cv v1 v2 := by
      rw [mgK_f, List.drop_zero, List.drop_left]
      exact fMg_x cv v1 v2 v2 (by omega)
    have em : exF (T n).toNat (fMg cv v1 v2) = exF (T n).toNat v1 + exF (T n).toNat v2 := exF_Mg _ cv v1 v2 l1.symm l2.symm
    refine m_gathF (ks := mgK cv 0 v1.length) fv12 ⟨by decide, by decide⟩ (by omega) ⟨by omega, by omega⟩ hd (fun x hx => ?_) (by rw [mgK_l]; omega) (by rw [mf, em]; omega) (fun w σ13 ew ex13 fv13 e87' e91' f13 rw' _ => ?_)
    · rw [List.length_append]
      rcases mgK_b cv 0 v1.length x hx with q | q
      · omega
      · omega
    rw [mf] at fv13 e91'
    have F813 : sg_F [139, 140, 141, 142, 143, 144, 88088, 92088, 94088] σ8 σ13 := sg_F_t (sg_F_m f10 rfl) (sg_F_t (sg_F_m F1012 rfl) (sg_F_m f13 rfl))
    have F713 : sg_F [139, 140, 141, 142, 143, 144, 85088, 86088, 88088, 92088, 94088] σ7 σ13 := sg_F_t (sg_F_m f8 rfl) (sg_F_m F813 rfl)
    have ex713 : fEx σ7 σ13 := fEx_t ex710 (fEx_t (fEx_F F1012 rfl) ex13)
    have c13 := fcX_F F813 rfl c8
    have g84 := c13.1
    have g85' := c13.2.1
    have p84 := c7.1
    have c4 := c13.2.2.2
    have j62 : sg_g σ13 88 62 = sg_g σ7 88 62 := sg_F_g F713 (by rfl)
    have j70 : sg_g σ13 88 70 = sg_g σ7 88 70 := sg_F_g F713 (by rfl)
    have j99 : sg_g σ13 88 99 = sg_g σ7 88 99 := sg_F_g F713 (by rfl)
    have S13 : fSs σb σ13 (fr + 1) (b + 3) sv s7 := ⟨sg_F_t a1 (sg_F_m F713 rfl), by rw [sg_F_g F713 (by rfl)]; exact a2, ⟨by omega, by omega, by omega⟩, c13, ⟨⟨by omega, by omega⟩, ⟨by omega, by omega⟩, ⟨by omega, by omega⟩, ⟨by omega, by omega, by omega⟩, by omega, by omega⟩, fun i x y => by rw [sg_F_ga F713 rfl]; exact hB i x (by omega), by omega, by omega, by omega⟩
    refine gfl_leave (A := A) (D := D) (T := T) (X := X) (σ := σ) (ρ := ρ0) (ρ2 := ρ) (d := (T n).toNat) (m := m) (fS_wk S13) (fS_h S13) ⟨b0, by omega⟩ (by rw [sg_F_ga F713 rfl]; exact T7.2.2.1) f0 (fKp_t K7 (fKp_mk F713 rfl ex713 (fun x _ => sg_F_ga F713 rfl) (fun i _ => sg_F_ga F713 rfl)) ⟨Int.le_refl _, Int.le_refl _⟩ ⟨Int.le_refl _, Int.le_refl _⟩ ⟨Int.le_refl _, Int.le_refl _⟩) rw' ⟨_, fv13 6000 (fun j hj => by
      have := lvl_ex (T n).toNat j (fMg cv v1 v2) hj
      omega)⟩ (by omega) k (fun σ' h _ => hQ2 σ' h)
theorem gfN_if {c : Int → Int} {n : Int} {L : List Int} {sc : List (Int × Int)} (hX : pgX σb A D T B) (hP : fPu A D T B lev O call j f) (F : gfN A D T σb X B lev O call j f) (hO : okO A B O) (hG : gaH A B c O) (hcb : ∀ y, sg_g σb 116 y = c y) (h : stN A D T B lev j (f + 1) L sc n) (k3 : A.2.1 n = 3) {σ : sg_S} {m l : Nat} {ρ : fEv} {fr b sv : Int} {s : fSt} (hS : fSw σb σ fr b sv s) (hl : l ≤ 6000) (hs : scFX A D T σ ρ l sc) (hm : 2 * (2000 - s.1) + fr ≤ (m : Int) + 1) (k : kF A D T σb X σ ρ fr b sv (T n).toNat (fxN A D T B O call (f + 1) n l ρ s)) {Q : sg_S → Prop} (hQ : ∀ σ', Rf X m σ' → Q σ') : V_flatBegin σ n (l : Int) Q := by
  obtain ⟨w1, w2, w3, w4, w5, w6⟩ := stN_w h
  have hA := hX.2.2.2.2.1
  have bb := fS_bw hS
  have l3 := w1.2.2.2.1 k3
  obtain ⟨a, c', d, ea⟩ : ∃ a c' d, A.2.2.2.2.1 n = [a, c', d] := by
    match e : A.2.2.2.2.1 n, l3 with
    | [a, c', d], _ => exact ⟨a, c', d, rfl⟩
  have g := w5 (by omega)
  rw [kTy_3 k3, ea] at g
  obtain ⟨g1, g2, g3⟩ := kIs_in g
  simp only [List.map_cons, List.getD_cons_succ, List.getD_cons_zero, Bool.and_eq_true, decide_eq_true_eq] at g1 g3
  obtain ⟨La, ha, sa⟩ := stN_k h (by omega) (by omega) (z := a) (by rw [ea]; simp)
  simp only [fxN] at k
  refine gfb_begin (A := A) (D := D) (T := T) (ρ := ρ) hS ⟨w2.1, by omega⟩ hl hQ (fun z σ' y1 y2 y3 y4 => ?_) (fun s1 z es1 es2 σ1 S1 T1 V1 v1 => ?_)
  · rw [z] at k; exact k σ' y1 y2 y3 y4
  rw [z] at k
  simp only at k
  rw [if_neg (by omega), if_neg (by omega), if_pos k3, ea] at k
  simp only [List.getD_cons_zero, List.getD_cons_succ] at k
  unfold fIfN at k
  have b1 := fS_b S1
  have hX1 := gFX hX S1.1
  obtain ⟨t1, t2, t3, t4, t5⟩ := tr_k hX1.1 w2
  have ta := t4 0 a (by rw [ea]; rfl)
  rw [show 200 * n + ((0 : Nat) : Int) = 200 * n by omega] at ta
  obtain ⟨m, rfl⟩ : ∃ m', m = m' + 1 := ⟨m - 1, by omega⟩
  refine rf_g (by rw [S1.2.2.1.1]; omega) S1.2.1 (fun Qz hz => gf_if hX1 w2 S1.2.2.1.1 ⟨by omega, by omega⟩ T1.1 k3 (fun Q' hQ' => ?_))
  have hQ2 : ∀ σ', Rf X m σ' → Q' σ' := fun σ' hr => hQ' σ' (fun _ => hz σ' hr)
  obtain ⟨p1, p2, p3, p4, p5⟩ := id T1
  unfold V_flatIf
  rw [p1, p2, p3, p4, p5, ta]
  refine ⟨⟨by omega, by omega⟩, ⟨by decide, by decide⟩, fun σ3 e3 => ifS_r (ifS_0 S1 T1 V1) ⟨by decide, by decide⟩ e3 (fun σ7 S7 T7 K7 F7 => ⟨fun c0 => absurd rfl c0, fun _ => ⟨⟨by omega, by omega⟩, ⟨by omega, by omega⟩, ?_⟩⟩)⟩
  refine gpf (m := m) F hP ha (fS_wk S7) hl T7 (scFX_u hs K7 (fun p _ => rfl)) (by omega) (fun r er hr => ?_) (fun σ' h' _ => hQ2 σ' h')
  rw [er] at k
  match r, k, hr with
  | .inl (e, w'), k, _ => exact k
  | .inr (cv, s2, ρ2), k, hr =>
    intro σ4 m4 S4 T4 q4 U4 v4 hm4
    obtain ⟨pl, pk⟩ := hr cv s2 ρ2 rfl
    simp only at k
    rw [g3.1] at v4
    have V4 := fKp_t K7 U4 ⟨Int.le_refl _, Int.le_refl _⟩ ⟨Int.le_refl _, Int.le_refl _⟩ ⟨Int.le_refl _, Int.le_refl _⟩
    refine gfi_go (bb := true) (st := 1) (x := c') hX hP F hO hG hcb h k3 (Or.inl ⟨rfl, rfl⟩) (by rw [ea]; rfl) (ifS_0 S4 T4 V4) v4 pl hl hs (fun p hp => by rw [pk p.1 (ha.2.2.2.2 p hp).2]; exact (hs p hp).2.2.2) (by omega) (by omega) hm4 ?_
    cases e1 : fCa (bTy A D T) (fWh true cv) (O n 1) s2 ρ2 with
    | inl p => obtain ⟨e, s'⟩ := p; rw [e1] at k; exact k
    | inr p =>
      obtain ⟨s3, ρ3⟩ := p
      rw [e1] at k
      simp only at k ⊢
      cases e2 : fxN A D T B O call f c' (fWh true cv).length ρ3 s3 with
      | inl p => obtain ⟨e, s'⟩ := p; rw [e2] at k; exact k
      | inr p =>
        obtain ⟨x1, s4, ρ4⟩ := p
        rw [e2] at k
        simp only at k ⊢
        intro σ9 m9 h9 u9 l9 ls9 ex9 o9 hm9
        have v49 : ∃ R, fX σ9 6000 (sg_g σ9 133 b) 0 cv R := by
          obtain ⟨R, hR⟩ := v4
          rw [o9 b (by omega)]
          exact ⟨R, fX_up ex9 hR⟩
        have h9' : ifS A D T σb σ σ9 ρ (fBk (O n 1) ρ2 ρ4) n fr b sv (sv + (O n 1).length) l ((2 : Nat) : Int) (b + ((2 : Nat) : Int)) s4 := by
          rw [show b + ((2 : Nat) : Int) = b + ((1 : Nat) : Int) + 1 by omega]
          exact h9
        refine gfi_go (bb := false) (st := 2) (x := d) hX hP F hO hG hcb h k3 (Or.inr ⟨rfl, rfl⟩) (by rw [ea]; rfl) h9' v49 pl hl hs ls9 (by omega) (by omega) hm9 ?_
        cases e3 : fCa (bTy A D T) (fWh false cv) (O n 2) s4 (fBk (O n 1) ρ2 ρ4) with
        | inl p => obtain ⟨e, s'⟩ := p; rw [e3] at k; exact k
        | inr p =>
          obtain ⟨s5, ρ5⟩ := p
          rw [e3] at k
          simp only at k ⊢
          cases e4 : fxN A D T B O call f d (fWh false cv).length ρ5 s5 with
          | inl p => obtain ⟨e, s'⟩ := p; rw [e4] at k; exact k
          | inr p =>
            obtain ⟨x2, s6, ρ6⟩ := p
            rw [e4] at k
            simp only at k ⊢
            intro σ10 m10 h10 u10 l10 ls10 ex10 o10 hm10
            refine gfi_end (cv := cv) (v1 := x1) (v2 := x2) hX w2 k3 (by
              rw [show b + 3 = b + ((2 : Nat) : Int) + 1 by omega]
              exact h10) ?_ ?_ ?_ pl hl (by rw [l9, fWh_l]) (by rw [l10, fWh_l]) (by omega) (by omega) hm10 k
            · obtain ⟨R, hR⟩ := v49
              rw [o10 b (by omega)]
              exact ⟨R, fX_up ex10 hR⟩
            · obtain ⟨R, hR⟩ := u9
              rw [show b + ((1 : Nat) : Int) = b + 1 by omega] at hR
              rw [o10 (b + 1) (by omega), g1]
              exact ⟨R, fX_up ex10 hR⟩
            · rw [show b + 2 = b + ((2 : Nat) : Int) by omega, g1, g3.2]
              exact u10
end BIS
/-! THE FLAT RUN of the reference in big steps: a { }; lengths, GENS begun, names from outside. -/
theorem fRp_s (x : Nat) (ln : List Nat) : fRp (x + 1) ln = fRp x ln ++ List.replicate (ln.getD x 0) x := by
  unfold fRp
  rw [List.range_succ, List.map_append, List.flatten_append]
  simp
theorem fRp_le (ln : List Nat) {x : Nat} : ∀ {y : Nat}, x ≤ y → (fRp x ln).length ≤ (fRp y ln).length
  | 0, h => by rw [show x = 0 by omega]; exact Nat.le_refl _
  | y + 1, h => by
    by_cases e : x = y + 1
    · rw [e]; exact Nat.le_refl _
    · rw [fRp_s, List.length_append]
      have := fRp_le ln (x := x) (y := y) (by omega)
      omega
theorem fRp_m {m : Nat} {ln : List Nat} : ∀ x ∈ fRp m ln, x < m := fun x hx => by
  unfold fRp at hx
  obtain ⟨l, hl, hx⟩ := List.mem_flatten.mp hx
  obtain ⟨i, hi, e⟩ := List.mem_map.mp hl
  rw [← e] at hx
  rw [(List.mem_replicate.mp hx).2]
  exact List.mem_range.mp hi
theorem fCt_f : ∀ (ln : List Nat) (l : List vaF), ln.sum = l.length → flF (fCt ln l) = l
  | [], l, h => by
    have : l = [] := List.eq_nil_of_length_eq_zero h.symm
    rw [this]; rfl
  | n :: r, l, h => by
    rw [List.sum_cons] at h
    simp only [fCt]
    rw [flF_c, itF_mk, fCt_f r (l.drop n) (by rw [List.length_drop]; omega), List.take_append_drop]
theorem fCt_w : ∀ (ln : List Nat) (l : List vaF) (i : Nat) (u : vaF), ln.sum = l.length → (fCt ln l)[i]? = some u → i < ln.length ∧ u = mkF ((l.drop (ln.take i).sum).take (ln.getD i 0)) ∧ u [] = (ln.getD i 0 : Nat)
  | [], l, i, u, h, hu => by simp [fCt] at hu
  | n :: r, l, 0, u, h, hu => by
    rw [List.sum_cons] at h
    simp only [fCt, List.getElem?_cons_zero, Option.some.injEq] at hu
    refine ⟨by simp, by rw [← hu]; rfl, ?_⟩
    rw [← hu, mkF_0, List.length_take]
    simp only [List.getD_cons_zero]
    omega
  | n :: r, l, i + 1, u, h, hu => by
    rw [List.sum_cons] at h
    simp only [fCt, List.getElem?_cons_succ] at hu
    obtain ⟨a, b, c⟩ := fCt_w r (l.drop n) i u (by rw [List.length_drop]; omega) hu
    refine ⟨by rw [List.length_cons]; omega, ?_, ?_⟩
    · rw [b, List.drop_drop, List.take_succ_cons, List.sum_cons, List.getD_cons_succ]
    · rw [c, List.getD_cons_succ]
/-- how many of the items of each lane are chosen -/
def ctL (ln : List Nat) (c : List vaF) : List Nat := (fCt ln c).map (fun w => ((itF w).filter (fun u => decide (u [] ≠ 0))).length)
theorem fl_cw : ∀ l : List vaF, (l.filter (fun u => decide (u [] ≠ 0))).length = cwF true l
  | [] => rfl
  | v :: r => by
    rw [cwF_c, ← fl_cw r]
    by_cases h : v [] = 0
    · simp [h]
    · simp [h]
theorem cw_fl : ∀ L : List vaF, (L.map (fun w => cwF true (itF w))).sum = cwF true (flF L)
  | [] => rfl
  | v :: r => by rw [List.map_cons, List.sum_cons, cw_fl r, flF_c, cwF_a]
theorem ctL_s {ln : List Nat} {c : List vaF} (h : ln.sum = c.length) : (ctL ln c).sum = cwF true c := by
  unfold ctL
  have e : (fun w : vaF => ((itF w).filter (fun u => decide (u [] ≠ 0))).length) = fun w => cwF true (itF w) := by
    funext w; exact fl_cw _
  rw [e, cw_fl, fCt_f ln c h]
theorem ctL_i {ln : List Nat} {c : List vaF} (h : ln.sum = c.length) {i : Nat} (hi : i < ln.length) : (ctL ln c).getD i 0 = cwF true ((c.drop (ln.take i).sum).take (ln.getD i 0)) := by
  have l1 : (fCt ln c).length = ln.length := fCt_l ln c
  obtain ⟨u, hu⟩ : ∃ u, (fCt ln c)[i]? = some u := ⟨_, List.getElem?_eq_getElem (by omega)⟩
  obtain ⟨a, b, -⟩ := fCt_w ln c i u h hu
  unfold ctL
  rw [List.getD_eq_getElem?_getD, List.getElem?_map, hu, Option.map_some, Option.getD_some, b, itF_mk, fl_cw]
theorem ctL_l (ln : List Nat) (c : List vaF) : (ctL ln c).length = ln.length := by unfold ctL; rw [List.length_map, fCt_l]
theorem cwF_le (b : Bool) (l : List vaF) : cwF b l ≤ l.length := by unfold cwF; exact List.countP_le_length
theorem tk_sum : ∀ (ln : List Nat) (i : Nat), i < ln.length → (ln.take (i + 1)).sum = (ln.take i).sum + ln.getD i 0
  | [], i, h => by simp at h
  | n :: r, 0, h => by simp
  | n :: r, i + 1, h => by
    rw [List.length_cons] at h
    rw [List.take_succ_cons, List.take_succ_cons, List.sum_cons, List.sum_cons, tk_sum r i (by omega), List.getD_cons_succ]
    omega
theorem tk_sle : ∀ (ln : List Nat) (i : Nat), (ln.take i).sum ≤ ln.sum
  | [], i => by simp
  | n :: r, 0 => by simp
  | n :: r, i + 1 => by
    rw [List.take_succ_cons, List.sum_cons, List.sum_cons]
    have := tk_sle r i
    omega
section BJS
variable {A : aT} {D : List aDf} {T B c : Int → Int} {lev : Int → Nat}
theorem gof_each {n sv bd : Int} {tl : List Int} {l : Nat} (hn : 0 ≤ n ∧ n < A.1) (hl : l ≤ 6000) (k15 : A.2.1 n = 15) (ea : A.2.2.2.2.1 n = bd :: tl) (σ : sg_S) (st : Nat) (b fr x : Int) (Q : sg_S → Prop) (hX : pgX σ A D T B) (hf : sg_g σ 88 62 = fr + 1) (f0 : 0 ≤ fr ∧ fr < 4000) (hT : gfT σ fr n st b l sv) (h15 : A.2.1 n = 15 → st < (A.2.2.2.2.2 n).length) (hx : (A.2.2.2.2.1 n)[1 + st]? = some x) (k : ∀ σ3, σ3 = sg_w σ 127 fr (st + 1) → ∀ Q' : sg_S → Prop, (∀ σ', Q σ' → Q' σ') → V_flatBegin σ3 x (l : Int) Q') : V_goFlat σ (fun σ' => sg_F flL σ σ' → Q σ') := by
  obtain ⟨t1, t2, t3, t4, t5⟩ := tr_k hX.1 hn
  have hA := hX.2.2.2.2.1
  have hst := h15 k15
  have hj := gE_l hx
  obtain ⟨p1, p2, p3, p4, p5⟩ := hT
  refine gf_each hX hn hf f0 p1 k15 (fun Q' hQ' => ?_)
  unfold V_flatEach
  rw [p1, p2, p4, t5]
  refine ⟨f0, ⟨by omega, by omega⟩, ⟨by omega, by omega⟩, fun σ4 e4 => ⟨fun z => by omega, fun _ => ?_⟩⟩
  have tz := t4 (1 + st) x hx
  rw [show 200 * n + ((1 + st : Nat) : Int) = 200 * n + 1 + (st : Int) by omega] at tz
  rw [tz]
  exact ⟨⟨by omega, by omega⟩, ⟨by omega, by omega⟩, ⟨by omega, by omega⟩, ⟨by omega, by omega⟩, k σ4 e4 _ (fun σ' hq _ => hQ' σ' (fun _ => hq))⟩
/-- the names from outside of a { } are of its scope -/
theorem ea_out {O : Int → Nat → List Int} {j f : Nat} {L : List Int} {sc : List (Int × Int)} {n bd : Int} {tl : List Int} (hA : A.1 ≤ 200) (hO : okO A B O) (h : stN A D T B lev j (f + 1) L sc n) (k15 : A.2.1 n = 15) (ea : A.2.2.2.2.1 n = bd :: tl) : ∃ Lb Lt, fT A [bd] Lb ∧ fT A (tl.drop (A.2.2.2.2.2 n).length) Lt ∧ Lb.Nodup ∧ (∀ y ∈ Lb ++ Lt, 0 ≤ y ∧ y < A.1) ∧ (∀ y ∈ Lb ++ Lt, A.2.1 y = 1 → rb A (B y)) ∧ (∀ t, tl.drop (A.2.2.2.2.2 n).length = [t] → fT A [t] Lt ∧ Lt.Nodup) ∧ (tl.drop (A.2.2.2.2.2 n).length = [] → Lt = []) ∧ ∀ z ∈ O n 0, ∃ p ∈ sc, p.1 = z := by
  obtain ⟨-, g2⟩ := stN_e hA h k15 ea
  obtain ⟨g1, tk, g4, gt⟩ := ea_ts h.1.1 k15 ea
  have w2 := (stN_w h).2.1
  obtain ⟨Lb, hb, sb, -⟩ := g2 bd (by simp)
  have key : ∀ {x : Int} {Lx : List Int}, stN A D T B lev j f Lx (gsc n T 0 (tl.take (A.2.2.2.2.2 n).length) ++ sc) x → ∀ y ∈ Lx, A.2.1 y = 1 → ∀ z, B y = z → ¬ insL Lx z → ¬ isG n z → ∃ p ∈ sc, p.1 = z := fun {x Lx} hx y hy ky z e ni ng => by
    rcases stN_v hA hx hy ky with ⟨u, -⟩ | u
    · rcases List.mem_append.mp u with u | u
      · obtain ⟨i', w, hw, ep⟩ := gsc_m _ _ _ u
        have hi' := lt_of_get hw
        rw [tk] at hi'
        have : B y = 210 + 4 * n + i' := by
          have := congrArg (·.1) ep
          simp only at this
          omega
        exact absurd ⟨by omega, by omega, by omega, by omega⟩ ng
      · exact ⟨_, u, e⟩
    · rw [e] at u; exact absurd u ni
  rcases gt with et | ⟨t, et⟩
  · refine ⟨Lb, [], hb.2.1, by rw [et]; exact fT_z A, hb.2.2.1, fun y hy => ?_, fun y hy ky => ?_, fun t q => ?_, fun _ => rfl, fun z hz => ?_⟩
    · rw [List.append_nil] at hy
      exact (hb.2.2.2.1 y hy).1
    · rw [List.append_nil] at hy
      exact rbX_L hA hb y hy ky
    · rw [et] at q; cases q
    · obtain ⟨y, y1, y2, y3, y4, y5⟩ := (((hO n).2.2 k15 bd tl Lb [] ea hb.2.1 (by rw [et]; exact fT_z A)).1 z).mp hz
      rw [List.append_nil] at y1 y4
      exact key hb y y1 y2 z y3 y4 y5
  · obtain ⟨Lt, ht, st, -⟩ := g2 t (by rw [et]; simp)
    refine ⟨Lb, Lt, hb.2.1, by rw [et]; exact ht.2.1, hb.2.2.1, fun y hy => ?_, fun y hy ky => ?_, fun t' q => ?_, fun q => ?_, fun z hz => ?_⟩
    · rcases List.mem_append.mp hy with q | q
      · exact (hb.2.2.2.1 y q).1
      · exact (ht.2.2.2.1 y q).1
    · rcases List.mem_append.mp hy with q | q
      · exact rbX_L hA hb y q ky
      · exact rbX_L hA ht y q ky
    · rw [et] at q
      cases q
      exact ⟨ht.2.1, ht.2.2.1⟩
    · rw [et] at q; cases q
    · obtain ⟨y, y1, y2, y3, y4, y5⟩ := (((hO n).2.2 k15 bd tl Lb Lt ea hb.2.1 (by rw [et]; exact ht.2.1)).1 z).mp hz
      rcases List.mem_append.mp y1 with q | q
      · exact key hb y q y2 z y3 (fun w => y4 (insL_s (fun y hy => by simp [hy]) w)) y5
      · exact key ht y q y2 z y3 (fun w => y4 (insL_s (fun y hy => by simp [hy]) w)) y5
/-- clearInside, markInside, gatherOutside of the parts of a { } -/
theorem m_ch2 {σ : sg_S} {n bd t ht : Int} {Lb Lt : List Int} {pp : Prop} {Q : sg_S → Prop} (hX : pgX σ A D T B) (hc : ∀ y, sg_g σ 116 y = c y) (hb : fT A [bd] Lb) (nb : Lb.Nodup) (hr : ∀ y ∈ Lb ++ Lt, 0 ≤ y ∧ y < A.1) (hrb : ∀ y ∈ Lb ++ Lt, A.2.1 y = 1 → rb A (B y)) (hpp : pp) (hh : (ht = 0 ∧ Lt = []) ∨ (ht = 1 ∧ fT A [t] Lt ∧ Lt.Nodup)) (k : ∀ σ', oR σ' (gaO A B c (Lb ++ Lt) n A.1.toNat) → sg_F [119, 120, 121, 47088, 50088] σ σ' → Q σ') : V_clearInside σ (fun σ179 => sg_F [120, 47088] σ σ179 → V_markInside σ179 bd (fun σ185 => sg_F [120, 121, 50088] σ179 σ185 → pp ∧ (∃ P193 : sg_S → Prop, ((ht = 0 → P193 σ185) ∧ (¬ ht = 0 → V_markInside σ185 t (fun σ314 => sg_F [120, 121, 50088] σ185 σ314 → P193 σ314))) ∧ (∀ (σ194 : sg_S), sg_F [120, 121, 50088] σ185 σ194 → P193 σ194 → V_gatherOutside σ194 n (fun σ198 => sg_F [119, 47088] σ194 σ198 → Q σ198))))) := by
  have hA := hX.2.2.2.2.1
  have P7 := trT_X (sg_F_r [] σ) rfl hX
  refine m_clear P7.1.1.1 ⟨P7.1.1.2.1, hA⟩ (fun σ8 m8 o8 f8 _ => ?_)
  refine m_mark (trT_X f8 rfl hX).1 hA m8 hb nb (fun y hy => hr y (by simp [hy])) (fun σ9 m9 f9 _ => ⟨hpp, fun σ' => iM σ' A (Lb ++ Lt), ?_, fun σ10 f10 m10 => ?_⟩)
  · rw [List.nil_append] at m9
    have F9 : sg_F [120, 121, 47088, 50088] σ σ9 := sg_F_t (sg_F_m f8 rfl) (sg_F_m f9 rfl)
    rcases hh with ⟨e, eL⟩ | ⟨e, h1, h2⟩
    · refine ⟨fun _ => by rw [eL, List.append_nil]; exact m9, fun z => absurd e z⟩
    · refine ⟨fun z => by omega, fun _ => m_mark (trT_X F9 rfl hX).1 hA m9 h1 h2 (fun y hy => hr y (by simp [hy])) (fun σ10 m10 f10 _ => m10)⟩
  · have F10 : sg_F [120, 121, 47088, 50088] σ σ10 := sg_F_t (sg_F_m f8 rfl) (sg_F_t (sg_F_m f9 rfl) (sg_F_m f10 rfl))
    have P10 := trT_X F10 rfl hX
    exact m_gatherX P10.1 P10.2 (fun y => by rw [sg_F_ga F10 rfl]; exact hc y) hA (by rw [sg_F_g f10 (by rfl), sg_F_g f9 (by rfl)]; exact o8) m10 hrb (fun σ11 o1 f11 _ => k σ11 o1 (sg_F_t (sg_F_m F10 rfl) (sg_F_m f11 rfl)))
end BJS
/-! THE FLAT RUN of the reference in big steps: a { } behind its GENS. -/
section BKS
variable {A : aT} {D : List aDf} {T B c : Int → Int} {lev : Int → Nat} {σb : sg_S} {X : sg_S → Prop} {O : Int → Nat → List Int} {j f : Nat}
theorem hasT {σ : sg_S} {n bd : Int} {tl : List Int} (hX : pgX σ A D T B) (hn : 0 ≤ n ∧ n < A.1) (nw : nW A n) (k15 : A.2.1 n = 15) (ea : A.2.2.2.2.1 n = bd :: tl) : p_hasTest σ n ∧ ((v_hasTest σ n = 0 ∧ tl.drop (A.2.2.2.2.2 n).length = []) ∨ (v_hasTest σ n = 1 ∧ ∃ t, tl.drop (A.2.2.2.2.2 n).length = [t] ∧ sg_g σ 97 (200 * n + (tl.length + 1) - 1) = t)) := by
  obtain ⟨t1, t2, t3, t4, t5⟩ := tr_k hX.1 hn
  have hA := hX.2.2.2.2.1
  obtain ⟨g1, tk, g4, gt⟩ := ea_ts nw k15 ea
  rw [List.length_take] at tk
  have tlk : sg_g σ 96 n = tl.length + 1 := by rw [t2, ea]; rfl
  have ld : (tl.drop (A.2.2.2.2.2 n).length).length = tl.length - (A.2.2.2.2.2 n).length := List.length_drop
  have l200 : tl.length + 1 ≤ 200 := by
    have := t3
    rw [ea, List.length_cons] at this
    exact this
  refine ⟨?_, ?_⟩
  · unfold p_hasTest
    rw [tlk, t5]
    exact ⟨⟨by omega, by omega⟩, ⟨by omega, by omega⟩, fun _ => trivial, fun _ => trivial⟩
  · rcases gt with et | ⟨t, et⟩
    · left
      rw [et] at ld
      simp only [List.length_nil] at ld
      refine ⟨?_, et⟩
      unfold v_hasTest
      rw [tlk, t5]
      exact if_pos (by omega)
    · right
      rw [et] at ld
      simp only [List.length_cons, List.length_nil] at ld
      refine ⟨?_, t, et, ?_⟩
      · unfold v_hasTest
        rw [tlk, t5]
        exact if_neg (fun z => z (by omega))
      · have e1 : tl[(A.2.2.2.2.2 n).length]? = some t := by
          have := congrArg (fun q => q[0]?) et
          simp only [List.getElem?_drop, Nat.add_zero] at this
          exact this
        have := t4 ((A.2.2.2.2.2 n).length + 1) t (by rw [ea, List.getElem?_cons_succ]; exact e1)
        rw [← this]
        congr 1
        omega
theorem mpc_a (l : List Nat) (y x : Nat) : (l ++ List.replicate y x).map (fun n : Nat => (n : Int)) ++ [(x : Int)] = (l ++ List.replicate (y + 1) x).map (fun n : Nat => (n : Int)) := by
  rw [List.replicate_succ', List.map_append, List.map_append, List.map_append, List.append_assoc]
  rfl
theorem gfe_B {n bd : Int} {tl L : List Int} {sc : List (Int × Int)} (hX : pgX σb A D T B) (hO : okO A B O) (hG : gaH A B c O) (hcb : ∀ y, sg_g σb 116 y = c y) (h : stN A D T B lev j (f + 1) L sc n) (k15 : A.2.1 n = 15) (ea : A.2.2.2.2.1 n = bd :: tl) {σ2 : sg_S} {ρ2 : fEv} {fr b sv : Int} {m l : Nat} {s2 : fSt} {vs : List (List vaF)} (S2 : fSs σb σ2 (fr + 1) (b + (A.2.2.2.2.2 n).length) sv s2) (T2 : gfT σ2 fr n (A.2.2.2.2.2 n).length b l sv) (hs2 : scFX A D T σ2 ρ2 l sc) (hl : l ≤ 6000) (f0 : 0 ≤ fr) (b0 : 0 ≤ b) (hv2 : ∀ (i : Nat) (x : Int) (v : List vaF), (tl.take (A.2.2.2.2.2 n).length)[i]? = some x → vs[i]? = some v → ∃ R, fX σ2 6000 (sg_g σ2 133 (b + i)) (T x).toNat v R) (hvl : vs.length = (A.2.2.2.2.2 n).length ∧ ∀ u ∈ vs, u.length = l) (hm : 2 * (2000 - s2.1) + (fr + 1) ≤ (m : Int)) (kE : ¬ eaE l vs → ∀ σ', sg_F flL σb σ' → sg_g σ' 88 73 = 3 → fcX σ' s2 → X σ') (kC : eaE l vs → ∀ s', fCa (bTy A D T) (fRp l ((vs.getD 0 []).map (fun v => (itF v).length))) (O n 0) s2 ρ2 = .inl (8, s') → ∀ σ', sg_F flL σb σ' → sg_g σ' 88 73 = 8 → fcX σ' s' → X σ') (kG : eaE l vs → ∀ s3 ρ3, fCa (bTy A D T) (fRp l ((vs.getD 0 []).map (fun v => (itF v).length))) (O n 0) s2 ρ2 = .inr (s3, ρ3) → (∀ y, ρ3 y = if y ∈ O n 0 then fPk (ρ2 y) (fRp l ((vs.getD 0 []).map (fun v => (itF v).length))) else ρ2 y) → ∀ σ4 σ8 σ15 m15 z v246, ((tl.drop (A.2.2.2.2.2 n).length = [z] ∧ v246 = ((A.2.2.2.2.2 n).length : Int) + 1) ∨ (tl.drop (A.2.2.2.2.2 n).length = [] ∧ z = bd ∧ v246 = ((A.2.2.2.2.2 n).length : Int) + 2)) → fKp A D T σ2 σ4 ρ2 ρ2 fr b sv → (∀ x, sg_g σ4 133 x = sg_g σ2 133 x) → fEx σ2 σ4 → sg_F caL2 σ4 σ8 → fEx σ4 σ8 → (∀ y, y ∉ O n 0 → sg_g σ8 134 y = sg_g σ4 134 y) → (∀ (i : Nat) (x : Int), (O n 0)[i]? = some x → sg_g σ8 148 (sv + i) = x ∧ sg_g σ8 149 (sv + i) = sg_g σ4 134 x) → (∀ i, i < sv → sg_g σ8 148 i = sg_g σ4 148 i ∧ sg_g σ8 149 i = sg_g σ4 149 i) → fSw σb σ15 (fr + 1) (b + (A.2.2.2.2.2 n).length) (sv + (O n 0).length) s3 → gfT σ15 fr n v246 b l sv → fKp A D T σ8 σ15 ρ3 (fUs ρ3 (210 + 4 * n) 0 (vs.map flF)) fr (b + (A.2.2.2.2.2 n).length) (sv + (O n 0).length) → scFX A D T σ15 (fUs ρ3 (210 + 4 * n) 0 (vs.map flF)) (fRp l ((vs.getD 0 []).map (fun v => (itF v).length))).length (gsc n T 0 (tl.take (A.2.2.2.2.2 n).length) ++ sc.filter (fun p => decide (p.1 ∈ O n 0))) → 2 * (2000 - s3.1) + fr ≤ ((m15 : Nat) : Int) → (fRp l ((vs.getD 0 []).map (fun v => (itF v).length))).length ≤ 6000 → ∀ Q' : sg_S → Prop, (∀ σ', Rf X m15 σ' → Q' σ') → V_flatBegin σ15 z ((fRp l ((vs.getD 0 []).map (fun v => (itF v).length))).length : Int) Q') : Rf X m σ2 := by
  have hA := hX.2.2.2.2.1
  obtain ⟨w1, w2, w3, w4, w5, w6⟩ := stN_w h
  have hX2 := gFX hX S2.1
  obtain ⟨t1, t2, t3, t4, t5⟩ := tr_k hX2.1 w2
  obtain ⟨pt, hht⟩ := hasT hX2 w2 w1 k15 ea
  obtain ⟨g1, tk, g4, gt⟩ := ea_ts w1 k15 ea
  obtain ⟨Lb, Lt, hb, hLt, nb, hr, hrb, ht1, ht0, hPs⟩ := ea_out hA hO h k15 ea
  have eO := ((hG n).2 k15 bd tl Lb Lt ea hb hLt hr).1
  have bb := fS_b S2
  have b2 := fS_b S2
  obtain ⟨G, hGe⟩ : ∃ G, G = (A.2.2.2.2.2 n).length := ⟨_, rfl⟩
  rw [← hGe] at S2 T2 hv2 hvl kG hht g1 tk g4 gt ht1 ht0 t5 b2 hLt
  have sea := stN_e hA h k15 ea
  rw [← hGe] at sea
  have ltl : G ≤ tl.length := by rw [List.length_take] at tk; omega
  have gen : ∀ jj : Nat, jj < G → ∃ x R, tl[jj]? = some x ∧ 0 < T x ∧ fX σ2 6000 (sg_g σ2 133 (b + jj)) ((T x - 1).toNat + 1) (vs.getD jj []) R ∧ (vs.getD jj []).length = l ∧ vs[jj]? = some (vs.getD jj []) := fun jj hj => by
    obtain ⟨x, hx⟩ : ∃ x, tl[jj]? = some x := ⟨_, List.getElem?_eq_getElem (by omega)⟩
    have hx' : (tl.take G)[jj]? = some x := by rw [List.getElem?_take_of_lt hj]; exact hx
    obtain ⟨v, hv⟩ : ∃ v, vs[jj]? = some v := ⟨_, List.getElem?_eq_getElem (by omega)⟩
    have ev : vs.getD jj [] = v := by rw [List.getD_eq_getElem?_getD, hv]; rfl
    have Tx := (sea.1 x (List.mem_of_getElem? hx')).2
    obtain ⟨R, hR⟩ := hv2 jj x v hx' hv
    rw [ev]
    exact ⟨x, R, hx, Tx, by rw [show (T x - 1).toNat + 1 = (T x).toNat by omega]; exact hR, hvl.2 v (List.mem_of_getElem? hv), hv⟩
  obtain ⟨x0, R0, hx0, T0, fx0, l0, hv0⟩ := gen 0 (by omega)
  rw [show b + ((0 : Nat) : Int) = b by omega] at fx0
  obtain ⟨r0, r0', R0', eR0, lR0, rl0, rf0, cell0, -, rw0, rw0'⟩ := fX_s fx0
  generalize hv00 : vs.getD 0 [] = v0 at fx0 l0 hv0 rl0 rf0 cell0 kC kG
  have lnl : (v0.map (fun v => (itF v).length)).length = l := by rw [List.length_map]; exact l0
  have rpl : (fRp l (v0.map (fun v => (itF v).length))).length = (flF v0).length := by rw [fRp_l lnl, flF_l]
  have rp6 : (fRp l (v0.map (fun v => (itF v).length))).length ≤ 6000 := by
    rw [rpl]
    have := rw0'.2.2.1
    omega
  have tlk : sg_g σ2 96 n = tl.length + 1 := by rw [t2, ea]; rfl
  have l200 : tl.length + 1 ≤ 200 := by
    have := t3
    rw [ea, List.length_cons] at this
    exact this
  have tz := t4 0 bd (by rw [ea]; rfl)
  rw [show 200 * n + ((0 : Nat) : Int) = 200 * n by omega] at tz
  obtain ⟨a1, a2, ⟨a3, a4, a5⟩, c2, hN⟩ := id S2
  obtain ⟨hI, -⟩ := id hN
  obtain ⟨i1, i2, i3, i4, i5⟩ := hI
  obtain ⟨m, rfl⟩ : ∃ m', m = m' + 1 := ⟨m - 1, by omega⟩
  refine rf_g (by omega) a2 (fun Qz hz => gf_each hX2 w2 a3 ⟨f0, by omega⟩ T2.1 k15 (fun Q' hQ' => ?_))
  have hQ2 : ∀ σ', Rf X m σ' → Q' σ' := fun σ' hr => hQ' σ' (fun _ => hz σ' hr)
  obtain ⟨p1, p2, p3, p4, p5⟩ := id T2
  unfold V_flatEach
  rw [p1, p2, p3, p4, p5, t5, tz, tlk]
  refine ⟨⟨f0, by omega⟩, ⟨by omega, by omega⟩, ⟨by omega, by omega⟩, fun σ4 e4 => ⟨fun _ => ⟨⟨by omega, by omega⟩, ⟨by omega, by omega⟩, ⟨by omega, by omega⟩, ⟨by omega, by omega⟩, ⟨by omega, by omega⟩, fun z => absurd rfl z, fun _ => ?_⟩, fun z => by omega⟩⟩
  obtain ⟨S4, T4, f4, V4⟩ := gsf_w (A := A) (D := D) (T := T) (ρ := ρ2) (b' := b) S2 T2 (s' := (G : Int) + 1) ⟨by omega, by omega⟩ e4
  have q91 : sg_g σ2 88 91 ≤ 60000 ∧ sg_g σ2 88 87 ≤ 30000 := ⟨by omega, by omega⟩
  refine ⟨fun p v163 σ5 => ∃ x : Nat, v163 = x ∧ p = l - x ∧ x ≤ l ∧ σ5 = σ4 ∧ ∀ jj : Nat, jj < G → ∀ y, y < x → ((vs.getD jj []).getD y (nmF 0)) [] = (v0.getD y (nmF 0)) [], fun σ5 => σ5 = σ4 ∧ ∀ jj : Nat, jj < G → ∀ y, y < l → ((vs.getD jj []).getD y (nmF 0)) [] = (v0.getD y (nmF 0)) [], ⟨_, 0, rfl, rfl, Nat.zero_le _, rfl, fun jj _ y hy => by omega⟩, ?_, ?_⟩
  · rintro p v163 σ5 rx f5 ⟨x, rfl, ep, hx, e5, hE⟩
    refine ⟨fun z => ⟨e5, by rw [show l = x by omega]; exact hE⟩, fun z => ?_⟩
    refine ⟨fun p' v320 σ6 => ∃ v : Nat, v320 = v ∧ p' = G - v ∧ (1 ≤ v ∧ v ≤ G) ∧ σ6 = σ4 ∧ ∀ jj : Nat, jj < v → ∀ y, y < x + 1 → ((vs.getD jj []).getD y (nmF 0)) [] = (v0.getD y (nmF 0)) [], fun σ6 => σ6 = σ4 ∧ ∀ jj : Nat, jj < G → ∀ y, y < x + 1 → ((vs.getD jj []).getD y (nmF 0)) [] = (v0.getD y (nmF 0)) [], ⟨_, 1, rfl, rfl, ⟨Nat.le_refl _, g1⟩, e5, fun jj hj y hy => ?_⟩, ?_, ?_⟩
    · rw [show jj = 0 by omega, hv00]
    · rintro p' v320 σ6 rv f6 ⟨v, rfl, ep', hv, e6, hE6⟩
      refine ⟨fun c => ⟨e6, fun jj hj => hE6 jj (by omega)⟩, fun c => ?_⟩
      obtain ⟨xv, Rv, y1, y2, y3, y4, y5⟩ := gen v (by omega)
      obtain ⟨pa, va⟩ := pRX fx0 q91 (i := x) (by omega)
      obtain ⟨pb, vb⟩ := pRX y3 q91 (i := x) (by omega)
      rw [va, vb]
      refine ⟨⟨b0, by omega⟩, pa, ⟨by omega, by omega⟩, ⟨by omega, by omega⟩, pb, fun ce => ⟨⟨by omega, by omega⟩, _, ?_, v + 1, by omega, rfl, ⟨by omega, by omega⟩, e6, fun jj hj y hy => ?_⟩, fun ce => ?_⟩
      · omega
      · by_cases cj : jj = v
        · by_cases cy : y = x
          · rw [cj, cy]; exact ce.symm
          · exact hE jj (by omega) y (by omega)
        · exact hE6 jj (by omega) y hy
      · subst e6
        refine m_endsX S4.2.1 ⟨by decide, by decide⟩ (fun σ' u1 u2 _ => hQ2 σ' (rf_s (by rw [u1]; decide) (kE (fun he => ce ?_) σ' (sg_F_t S4.1 (sg_F_m u2 rfl)) u1 (fcX_F u2 rfl S4.2.2.2.1))))
        have := he x (by omega) _ (List.mem_of_getElem? y5)
        rw [hv00] at this
        exact this.symm
    · rintro σ6 f6 ⟨e6, hE6⟩
      exact ⟨⟨by omega, by omega⟩, _, by omega, x + 1, by omega, rfl, by omega, e6, hE6⟩
  · rintro σ5 f5 ⟨e5, hE⟩
    subst e5
    have hEa : eaE l vs := fun i hi u hu => by
      obtain ⟨jj, hjj⟩ := List.mem_iff_getElem?.mp hu
      have hj := gE_l hjj
      have := hE jj (by omega) i hi
      have ej : vs.getD jj [] = u := by rw [List.getD_eq_getElem?_getD, hjj]; rfl
      rw [ej] at this
      rw [hv00]
      exact this
    refine m_ch2 (c := c) (Lb := Lb) (Lt := Lt) (gFX hX S4.1) (fun y => by rw [sg_F_ga S4.1 rfl]; exact hcb y) hb nb hr hrb pt ?_ (fun σ10 o10 f10 σ11 e11 => ?_)
    · rcases hht with ⟨q1, q2⟩ | ⟨q1, t, q2, q3⟩
      · exact Or.inl ⟨q1, ht0 q2⟩
      · obtain ⟨y1, y2⟩ := ht1 t q2
        exact Or.inr ⟨q1, by rw [q3]; exact y1, y2⟩
    rw [← eO] at o10
    have f11 : sg_F [94088] σ10 σ11 := by rw [e11]; exact sg_F_w (sg_F_r _ _) rfl _
    refine ⟨fun p v206 σ12 => ∃ x : Nat, v206 = x ∧ p = l - x ∧ x ≤ l ∧ lX σ12 ((fRp x (v0.map (fun v => (itF v).length))).map (fun n : Nat => (n : Int))), fun σ12 => lX σ12 ((fRp l (v0.map (fun v => (itF v).length))).map (fun n : Nat => (n : Int))), ⟨_, 0, rfl, rfl, Nat.zero_le _, lX_0 e11⟩, ?_, ?_⟩
    · rintro p v206 σ12 rx f12 ⟨x, rfl, ep, hx, hlx⟩
      refine ⟨fun w => by rw [show l = x by omega]; exact hlx, fun w => ?_⟩
      obtain ⟨pa, va⟩ := pRX fx0 q91 (i := x) (by omega)
      rw [va]
      obtain ⟨-, cx1, cx2⟩ := cell0 x (by omega)
      have lnx : (v0.map (fun v => (itF v).length)).getD x 0 = ((v0.getD x (nmF 0)) []).toNat := by
        rw [List.getD_eq_getElem?_getD, List.getElem?_map, gD_i (by omega : x < v0.length), Option.map_some, Option.getD_some, itF_l]
      have rle := fRp_le (v0.map (fun v => (itF v).length)) (x := x + 1) (y := l) (by omega)
      rw [fRp_s, List.length_append, List.length_replicate, lnx] at rle
      refine ⟨fun p v284 σ13 => ∃ y : Nat, v284 = y ∧ p = ((v0.getD x (nmF 0)) []).toNat - y ∧ y ≤ ((v0.getD x (nmF 0)) []).toNat ∧ lX σ13 ((fRp x (v0.map (fun v => (itF v).length)) ++ List.replicate y x).map (fun n : Nat => (n : Int))), fun σ13 => lX σ13 ((fRp (x + 1) (v0.map (fun v => (itF v).length))).map (fun n : Nat => (n : Int))), ⟨_, 0, rfl, rfl, Nat.zero_le _, by rw [List.replicate_zero, List.append_nil]; exact hlx⟩, ?_, fun σ13 f13 h13 => ⟨⟨by omega, by omega⟩, _, by omega, x + 1, by omega, rfl, by omega, h13⟩⟩
      rintro p' v284 σ13 ry f13 ⟨y, rfl, ep', hy, hl13⟩
      refine ⟨⟨b0, by omega⟩, pa, fun cc => ?_, fun cc => m_listX hl13 (by rw [List.length_map, List.length_append, List.length_replicate]; omega) ⟨by omega, by omega⟩ (fun σ14 h14 f14 _ => ⟨⟨by omega, by omega⟩, _, by omega, y + 1, by omega, rfl, by omega, by rw [mpc_a] at h14; exact h14⟩)⟩
      rw [fRp_s, lnx, show ((v0.getD x (nmF 0)) []).toNat = y by omega]
      exact hl13
    · intro σ12 f12 l12
      have F12 : sg_F [119, 120, 121, 143, 47088, 50088, 94088] σ5 σ12 := sg_F_t (sg_F_m f10 rfl) (sg_F_t (sg_F_m f11 rfl) (sg_F_m f12 rfl))
      have oR12 : oR σ12 (O n 0) := ⟨by rw [sg_F_g f12 (by rfl), sg_F_g f11 (by rfl)]; exact o10.1, fun i x hx => by rw [sg_F_ga f12 rfl, sg_F_ga f11 rfl]; exact o10.2.1 i x hx, o10.2.2⟩
      have ol : (O n 0).length ≤ 200 := by
        rw [eO]
        have := gaO_l (A := A) (B := B) (c := c) (L := Lb ++ Lt) (but := n) A.1.toNat
        omega
      have e93 : sg_g σ12 88 93 = ((fRp l (v0.map (fun v => (itF v).length))).length : Int) := by rw [l12.1, List.length_map]
      rw [e93]
      have hs4 := scFX_u hs2 V4 (fun p _ => rfl)
      refine m_carS S4 F12 hs4 oR12 ol hPs l12 fRp_m rp6 (fun s' e σ' y1 y2 y3 _ _ => ⟨fun z => absurd rfl z, fun _ => hQ2 σ' (rf_s (by rw [y2]; decide) (kC hEa s' e σ' y1 y2 y3))⟩) (fun s3 ρ3 e σ8 S8 F8 ex8 x8 er v8 r8 l8 _ _ => ⟨fun _ => ?_, fun z => by omega⟩)
      have ex4 : fEx σ2 σ5 := fEx_F f4 rfl
      have ex28 : fEx σ2 σ8 := fEx_t ex4 ex8
      have e133 : ∀ x, sg_g σ8 133 x = sg_g σ2 133 x := fun x => by rw [sg_F_ga F8 rfl, sg_F_ga f4 rfl]
      have b8 := fS_b S8
      obtain ⟨d1, d2, ⟨d3, d4, d5⟩, d6, dN⟩ := id S8
      obtain ⟨⟨j1, j2, j3, j4, j5⟩, jB, jn1, jn2, jn3⟩ := id dN
      have vgen : ∀ jj : Nat, jj < G → (vs.map flF)[jj]? = some (flF (vs.getD jj [])) := fun jj hj => by
        obtain ⟨x, R, y1, y2, y3, y4, y5⟩ := gen jj hj
        rw [List.getElem?_map, y5]; rfl
      refine ⟨fun p v228 σ14 => ∃ v : Nat, v228 = v ∧ p = G - v ∧ v ≤ G ∧ fEx σ8 σ14 ∧ sg_g σ14 88 87 = sg_g σ8 88 87 + v ∧ (∀ (jj : Nat) (x : Int), jj < v → tl[jj]? = some x → ∃ R, fX σ14 6000 (sg_g σ14 134 (210 + 4 * n + jj)) (T x - 1).toNat (flF (vs.getD jj [])) R) ∧ ∀ u : Int, ¬ (210 + 4 * n ≤ u ∧ u < 210 + 4 * n + v) → sg_g σ14 134 u = sg_g σ8 134 u, fun σ14 => fEx σ8 σ14 ∧ sg_g σ14 88 87 = sg_g σ8 88 87 + G ∧ (∀ (jj : Nat) (x : Int), jj < G → tl[jj]? = some x → ∃ R, fX σ14 6000 (sg_g σ14 134 (210 + 4 * n + jj)) (T x - 1).toNat (flF (vs.getD jj [])) R) ∧ ∀ u : Int, ¬ (210 + 4 * n ≤ u ∧ u < 210 + 4 * n + G) → sg_g σ14 134 u = sg_g σ8 134 u, ⟨_, 0, rfl, rfl, Nat.zero_le _, fEx_r _, by omega, fun jj x hj _ => by omega, fun u _ => rfl⟩, ?_, ?_⟩
      · rintro p v228 σ14 rv f14 ⟨v, rfl, ep, hv, ex14, e87, hg14, ho14⟩
        refine ⟨fun w => by rw [show G = v by omega]; exact ⟨ex14, e87, hg14, ho14⟩, fun w => ?_⟩
        have vo : v_ofGen n (v : Int) = 210 + 4 * n + v := rfl
        obtain ⟨x, R, y1, y2, y3, y4, y5⟩ := gen v (by omega)
        obtain ⟨rr, rr', RR, eRR, lRR, -⟩ := fX_s y3
        rw [eRR] at y3
        refine ⟨⟨⟨by omega, by omega⟩, ⟨by omega, by omega⟩, ⟨by omega, by omega⟩, trivial⟩, ⟨by omega, by omega⟩, ⟨by omega, by omega⟩, m_innerX ⟨by omega, by omega⟩ (fX_up (fEx_t ex28 ex14) y3) (fun w' σ15 ew ex15 fv15 e87' f15 rw' _ => ⟨by rw [vo]; exact ⟨by omega, by omega⟩, fun σ16 e16 => ⟨⟨by omega, by omega⟩, _, ?_, v + 1, by omega, rfl, by omega, ?_, ?_, fun jj x' hj hx' => ?_, fun u hu => ?_⟩⟩)⟩
        all_goals rw [vo] at e16
        all_goals have f16 : sg_F [134] σ15 σ16 := by rw [e16]; exact sg_F_w (sg_F_r _ _) rfl _
        · omega
        · exact fEx_t ex14 (fEx_t ex15 (fEx_F f16 rfl))
        · rw [sg_F_g f16 (by rfl)]; omega
        · by_cases cj : jj = v
          · rw [cj, y1] at hx'
            cases hx'
            rw [cj, e16, sg_gw_e _ _ _ _ rw']
            exact ⟨_, fX_up (by rw [← e16]; exact fEx_F f16 rfl) fv15⟩
          · obtain ⟨R', hR'⟩ := hg14 jj x' (by omega) hx'
            rw [e16, sg_gw_k _ _ _ _ _ _ (by omega), sg_F_ga f15 rfl]
            exact ⟨R', fX_up (by rw [← e16]; exact fEx_t ex15 (fEx_F f16 rfl)) hR'⟩
        · rw [e16, sg_gw_k _ _ _ _ _ _ (by omega), sg_F_ga f15 rfl]; exact ho14 u (by omega)
      · rintro σ14 f14 ⟨ex14, e87, hg14, ho14⟩
        refine ⟨pt, ⟨fun _ => ⟨⟨by omega, by omega⟩, trivial⟩, fun _ => ⟨⟨by omega, by omega⟩, trivial⟩⟩, fun v246 e246 r246 σ15 e15 => ⟨pt, fun v255 e255 r255 => ?_⟩⟩
        have f15 : sg_F [127] σ14 σ15 := by rw [e15]; exact sg_F_w (sg_F_r _ _) rfl _
        have F815 : sg_F [127, 134, 139, 140, 141, 88088] σ8 σ15 := sg_F_t (sg_F_m f14 rfl) (sg_F_m f15 rfl)
        have ex815 : fEx σ8 σ15 := fEx_t ex14 (fEx_F f15 rfl)
        have c134 : ∀ u, sg_g σ15 134 u = sg_g σ14 134 u := fun u => sg_F_ga f15 rfl
        have k84 : sg_g σ15 88 84 = sg_g σ8 88 84 := sg_F_g F815 (by rfl)
        have k85 : sg_g σ15 88 85 = sg_g σ8 88 85 := sg_F_g F815 (by rfl)
        have k91 : sg_g σ15 88 91 = sg_g σ8 88 91 := sg_F_g F815 (by rfl)
        have k87 : sg_g σ15 88 87 = sg_g σ8 88 87 + G := by rw [sg_F_g f15 (by rfl)]; exact e87
        have k99 : sg_g σ15 88 99 = sg_g σ8 88 99 := sg_F_g F815 (by rfl)
        have k62 : sg_g σ15 88 62 = sg_g σ8 88 62 := sg_F_g F815 (by rfl)
        have k70 : sg_g σ15 88 70 = sg_g σ8 88 70 := sg_F_g F815 (by rfl)
        have N15 : fNw σ15 := ⟨⟨⟨by omega, by omega⟩, ⟨by omega, by omega⟩, ⟨by omega, by omega⟩, ⟨by omega, by omega, by omega⟩, by omega, by omega⟩, fun i x y => by rw [sg_F_ga F815 rfl]; exact jB i x (by omega), by omega, by omega, by omega⟩
        have S15 : fSw σb σ15 (fr + 1) (b + G) (sv + (O n 0).length) s3 := ⟨sg_F_t d1 (sg_F_m F815 rfl), by rw [sg_F_g F815 (by rfl)]; exact d2, ⟨by omega, by omega, by omega⟩, fcX_F F815 rfl d6, N15⟩
        have T15 : gfT σ15 fr n v246 b l sv := ⟨by rw [sg_F_ga F815 rfl, sg_F_ga F8 rfl]; exact T4.1, by rw [e15, sg_gw_e _ _ _ _ r246], by rw [sg_F_ga F815 rfl, sg_F_ga F8 rfl]; exact T4.2.2.1, by rw [sg_F_ga F815 rfl, sg_F_ga F8 rfl]; exact T4.2.2.2.1, by rw [sg_F_ga F815 rfl, sg_F_ga F8 rfl]; exact T4.2.2.2.2⟩
        obtain ⟨us1, us2⟩ := rlF_us (A := A) (D := D) (T := T) (σ := σ8) (σ1 := σ15) (ρ := ρ3) (b0 := 210 + 4 * n) (vs := vs.map flF) ex815 (fun i v hv => by
          have hi := gE_l hv
          rw [List.length_map, hvl.1] at hi
          rw [vgen i hi] at hv
          cases hv
          obtain ⟨x, R, y1, y2, y3, y4, y5⟩ := gen i hi
          obtain ⟨R', hR'⟩ := hg14 i x hi y1
          rw [c134, bTy_g ea y1 ⟨w2.1, by omega⟩ (by omega)]
          exact ⟨R', fX_up (fEx_F f15 rfl) hR'⟩) (fun u hu => by
          rw [List.length_map, hvl.1] at hu
          rw [c134]
          exact ho14 u hu)
        have U15 : fKp A D T σ8 σ15 ρ3 (fUs ρ3 (210 + 4 * n) 0 (vs.map flF)) fr (b + G) (sv + (O n 0).length) := ⟨ex815, fun x _ => sg_F_ga F815 rfl, us2, fun i hi => ⟨sg_F_ga F815 rfl, by rw [e15, sg_gw_k _ _ _ _ _ _ (by omega), sg_F_ga f14 rfl], sg_F_ga F815 rfl, sg_F_ga F815 rfl, sg_F_ga F815 rfl, sg_F_ga F815 rfl⟩, fun i _ => ⟨sg_F_ga F815 rfl, sg_F_ga F815 rfl⟩⟩
        have nL : n ∈ L := fT_sub h.2.1 _ (by simp)
        have sc15 : scFX A D T σ15 (fUs ρ3 (210 + 4 * n) 0 (vs.map flF)) (fRp l (v0.map (fun v => (itF v).length))).length (gsc n T 0 (tl.take G) ++ sc.filter (fun p => decide (p.1 ∈ O n 0))) := fun p hp => by
          rcases List.mem_append.mp hp with q | q
          · obtain ⟨i, u, hu, ep⟩ := gsc_m _ _ _ q
            have hi := gE_l hu
            rw [tk] at hi
            rw [List.getElem?_take_of_lt hi] at hu
            have e1 : p.1 = 210 + 4 * n + (i : Int) := by rw [ep]; simp only; omega
            have e2 : p.2 = T u - 1 := by rw [ep]
            have bt := bTy_g (D := D) (T := T) ea hu ⟨w2.1, by omega⟩ (by omega : i < 4)
            obtain ⟨x, R, y1, y2, y3, y4, y5⟩ := gen i hi
            rw [e1]
            refine ⟨⟨by omega, by omega⟩, by rw [e2, bt], us1 i (by rw [List.length_map]; omega), ?_⟩
            rw [show (210 : Int) + 4 * n + (i : Int) = 210 + 4 * n + ((0 : Nat) : Int) + (i : Int) by omega, fUs_at (vgen i hi)]
            have := eaE_l hEa hvl.2 (by omega) (List.mem_of_getElem? y5)
            rw [hv00] at this
            exact this
          · obtain ⟨z1, z2, z3, z4⟩ := scFX_c hs4 er v8 p q
            refine ⟨z1, z2, us2 _ z3, ?_⟩
            rw [fUs_no, z4]
            rw [List.length_map, hvl.1]
            by_cases q1 : p.1 < 210 + 4 * n + ((0 : Nat) : Int)
            · exact Or.inl q1
            · right
              refine Decidable.byContradiction (fun q2 => (h.2.2.2.2 p (List.mem_filter.mp q).1).2 (Or.inl (Or.inr ⟨by omega, by omega, ?_⟩)))
              rw [show (p.1 - 210) / 4 = n by omega]; exact nL
        have q8 := fCa_s e
        refine kG hEa s3 ρ3 e er σ5 σ8 σ15 m v255 v246 ?_ V4 (fun x => sg_F_ga f4 rfl) ex4 F8 ex8 x8 r8 l8 S15 T15 U15 sc15 (by omega) rp6 _ (fun σ' hr' _ => hQ2 σ' hr')
        rcases hht with ⟨y1, y2⟩ | ⟨y1, t, y2, y3⟩
        · rw [y1, if_pos rfl] at e246 e255
          exact Or.inr ⟨y2, e255, e246⟩
        · rw [y1, if_neg (by decide)] at e246 e255
          exact Or.inl ⟨by rw [e255, y3]; exact y2, e246⟩
end BKS
/-! THE FLAT RUN of the reference in big steps: a { } behind its test, and its end. -/
section BLS
variable {A : aT} {D : List aDf} {T B c : Int → Int} {lev : Int → Nat} {σb : sg_S} {X : sg_S → Prop} {O : Int → Nat → List Int} {j f : Nat}
/-- variables were carried along twice -/
theorem ifS_n2 {σ σ4 σ8 σ9 σ46 σ12 σ20 : sg_S} {ρ0 ρ2 ρ3 ρ5 ρ6 ρ7 : fEv} {P0 P1 : List Int} {n fr b sv : Int} {l : Nat} {st bv : Int} {s7 : fSt} (K4 : fKp A D T σ σ4 ρ0 ρ2 fr b sv) (hb : b ≤ bv) (s0 : 0 ≤ sv) (F8 : sg_F caL2 σ4 σ8) (ex8 : fEx σ4 σ8) (x8 : ∀ y, y ∉ P0 → sg_g σ8 134 y = sg_g σ4 134 y) (e3 : ∀ y, y ∉ P0 → ρ3 y = ρ2 y) (r8 : ∀ (i : Nat) (x : Int), P0[i]? = some x → sg_g σ8 148 (sv + i) = x ∧ sg_g σ8 149 (sv + i) = sg_g σ4 134 x) (l8 : ∀ i, i < sv → sg_g σ8 148 i = sg_g σ4 148 i ∧ sg_g σ8 149 i = sg_g σ4 149 i) (U9 : fKp A D T σ8 σ9 ρ3 ρ5 fr bv (sv + P0.length)) (K46 : fKp A D T σ9 σ46 ρ5 ρ5 fr bv (sv + P0.length)) (F12 : sg_F caL2 σ46 σ12) (ex12 : fEx σ46 σ12) (x12 : ∀ y, y ∉ P1 → sg_g σ12 134 y = sg_g σ46 134 y) (e6 : ∀ y, y ∉ P1 → ρ6 y = ρ5 y) (r12 : ∀ (i : Nat) (x : Int), P1[i]? = some x → sg_g σ12 148 (sv + P0.length + i) = x ∧ sg_g σ12 149 (sv + P0.length + i) = sg_g σ46 134 x) (l12 : ∀ i, i < sv + P0.length → sg_g σ12 148 i = sg_g σ46 148 i ∧ sg_g σ12 149 i = sg_g σ46 149 i) (U20 : fKp A D T σ12 σ20 ρ6 ρ7 fr bv (sv + P0.length + P1.length)) (S20 : fSs σb σ20 (fr + 1) (bv + 1) (sv + P0.length + P1.length) s7) (T20 : gfT σ20 fr n st b l sv) : ifS A D T σb σ σ20 ρ0 (fBk P0 ρ2 (fBk P1 ρ5 ρ7)) n fr b sv (sv + P0.length + P1.length) l st (bv + 1) s7 := by
  refine ⟨S20, T20, ⟨s0, by omega⟩, fun σ21 f21 h21 u21 => ?_⟩
  have ex21 : fEx σ20 σ21 := fEx_F f21 rfl
  have ex46 : fEx σ46 σ21 := fEx_t ex12 (fEx_t U20.1 ex21)
  have ex9 : fEx σ9 σ21 := fEx_t K46.1 ex46
  have ex4 : fEx σ4 σ21 := fEx_t ex8 (fEx_t U9.1 ex9)
  have e134 : ∀ y, sg_g σ21 134 y = if y ∈ P0 then sg_g σ4 134 y else if y ∈ P1 then sg_g σ46 134 y else sg_g σ20 134 y := fun y => by
    have a := undA_2 (σ := σ20) (b := y) (w := fun x => sg_g σ4 134 x) P1.length P0 sv (fun i x hx => by
      have hi := gE_l hx
      obtain ⟨q1, q2⟩ := U20.2.2.2.2 (sv + i) (by omega)
      obtain ⟨q3, q4⟩ := l12 (sv + i) (by omega)
      obtain ⟨q5, q6⟩ := K46.2.2.2.2 (sv + i) (by omega)
      obtain ⟨q7, q8⟩ := U9.2.2.2.2 (sv + i) (by omega)
      obtain ⟨q9, q10⟩ := r8 i x hx
      exact ⟨by rw [q1, q3, q5, q7, q9], by rw [q2, q4, q6, q8, q10]⟩)
    have a2 := undA_2 (σ := σ20) (b := y) (w := fun x => sg_g σ46 134 x) 0 P1 (sv + P0.length) (fun i x hx => by
      have hi := gE_l hx
      obtain ⟨q1, q2⟩ := U20.2.2.2.2 (sv + P0.length + i) (by omega)
      obtain ⟨q3, q4⟩ := r12 i x hx
      exact ⟨q1.trans q3, q2.trans q4⟩)
    rw [Nat.add_zero] at a2
    rw [u21 y]
    unfold und
    rw [S20.2.2.1.2.2, show (sv + (P0.length : Int) + (P1.length : Int) - sv).toNat = P0.length + P1.length by omega, a, a2]
    rfl
  refine ⟨fEx_t K4.1 ex4, fun x hx => ?_, fun y hy => ?_, fun i hi => ?_, fun i hi => ?_⟩
  · rw [sg_F_ga f21 rfl, U20.2.1 x (by omega), sg_F_ga F12 rfl, K46.2.1 x (by omega), U9.2.1 x (by omega), sg_F_ga F8 rfl]; exact K4.2.1 x hx
  · have r4 := K4.2.2.1 y hy
    by_cases c0 : y ∈ P0
    · exact rlF_up r4 ex4 (by rw [e134 y, if_pos c0]) (by unfold fBk; rw [if_pos c0])
    · have r46 := K46.2.2.1 y (U9.2.2.1 y (rlF_up r4 ex8 (x8 y c0) (e3 y c0)))
      by_cases c1 : y ∈ P1
      · exact rlF_up r46 ex46 (by rw [e134 y, if_neg c0, if_pos c1]) (by unfold fBk; rw [if_neg c0, if_pos c1])
      · have r20 := U20.2.2.1 y (rlF_up r46 ex12 (x12 y c1) (e6 y c1))
        exact rlF_up r20 ex21 (by rw [e134 y, if_neg c0, if_neg c1]) (by unfold fBk; rw [if_neg c0, if_neg c1])
  · refine rw6_t (rw6_t (rw6_t (K4.2.2.2.1 i hi) (rw6_F F8 rfl i)) (rw6_t (U9.2.2.2.1 i hi) (K46.2.2.2.1 i hi))) (rw6_t (rw6_t (rw6_F F12 rfl i) (U20.2.2.2.1 i hi)) ⟨sg_F_ga f21 rfl, h21 i (by omega), sg_F_ga f21 rfl, sg_F_ga f21 rfl, sg_F_ga f21 rfl, sg_F_ga f21 rfl⟩)
  · obtain ⟨q1, q2⟩ := K4.2.2.2.2 i hi
    obtain ⟨q3, q4⟩ := l8 i hi
    obtain ⟨q5, q6⟩ := U9.2.2.2.2 i (by omega)
    obtain ⟨q7, q8⟩ := K46.2.2.2.2 i (by omega)
    obtain ⟨q9, q10⟩ := l12 i (by omega)
    obtain ⟨q11, q12⟩ := U20.2.2.2.2 i (by omega)
    exact ⟨by rw [sg_F_ga f21 rfl, q11, q9, q7, q5, q3, q1], by rw [sg_F_ga f21 rfl, q12, q10, q8, q6, q4, q2]⟩
/-- the end of a { } -/
theorem gfe_D {n bd : Int} {tl : List Int} {σ σ9 : sg_S} {ρ0 ρ : fEv} {fr b sv sv9 f1 : Int} {m l : Nat} {s : fSt} {v : List vaF} {ln : List Nat} (hX : pgX σb A D T B) (hn : 0 ≤ n ∧ n < A.1) (nw : nW A n) (k15 : A.2.1 n = 15) (ea : A.2.2.2.2.1 n = bd :: tl) (hT : T n = T bd + 1) (hT3 : T n ≤ 3) (hTb : 0 ≤ T bd) (h9 : ifS A D T σb σ σ9 ρ0 ρ n fr b sv sv9 l ((A.2.2.2.2.2 n).length + 2) (b + (A.2.2.2.2.2 n).length + 1) s) (hv : ∃ R, fX σ9 6000 (sg_g σ9 133 (b + (A.2.2.2.2.2 n).length)) (T bd).toNat v R) (lnl : ln.length = l) (lns : ln.sum = v.length) (ln2 : ∀ i, i < l → ln.getD i 0 ≤ 200) (hrw : fRw σ9 6000 (f1, l)) (hc : ∀ i : Nat, i < l → sg_g σ9 142 (f1 + i) = (ln.getD i 0 : Nat)) (hf : (tl.drop (A.2.2.2.2.2 n).length = [] ∧ sg_g σ9 140 (4 * sg_g σ9 133 b) = f1 ∧ 0 ≤ sg_g σ9 133 b ∧ sg_g σ9 133 b < 30000) ∨ (¬ tl.drop (A.2.2.2.2.2 n).length = [] ∧ sg_g σ9 147 fr = f1)) (hl : l ≤ 6000) (f0 : 0 ≤ fr) (b0 : 0 ≤ b) (hm : 2 * (2000 - s.1) + (fr + 1) ≤ (m : Int)) (k : kF A D T σb X σ ρ0 fr b sv (T n).toNat (.inr (fCt ln v, s, ρ))) : Rf X m σ9 := by
  have hA := hX.2.2.2.2.1
  obtain ⟨S9, T9, sv0, h7⟩ := id h9
  have b9 := fS_b S9
  have hX9 := gFX hX S9.1
  obtain ⟨t1, t2, t3, t4, t5⟩ := tr_k hX9.1 hn
  obtain ⟨pt, hht⟩ := hasT hX9 hn nw k15 ea
  obtain ⟨g1, tk, g4, gt⟩ := ea_ts nw k15 ea
  have tlk : sg_g σ9 96 n = tl.length + 1 := by rw [t2, ea]; rfl
  have l200 : tl.length + 1 ≤ 200 := by
    have := t3
    rw [ea, List.length_cons] at this
    exact this
  have g70 := S9.2.2.1.2.1
  have gl : (A.2.2.2.2.2 n).length ≤ tl.length := by rw [List.length_take] at tk; omega
  obtain ⟨m, rfl⟩ : ∃ m', m = m' + 1 := ⟨m - 1, by omega⟩
  refine rf_g (by rw [S9.2.2.1.1]; omega) S9.2.1 (fun Qz hz => gf_each hX9 hn S9.2.2.1.1 ⟨f0, by omega⟩ T9.1 k15 (fun Q' hQ' => ?_))
  have hQ2 : ∀ σ', Rf X m σ' → Q' σ' := fun σ' hr => hQ' σ' (fun _ => hz σ' hr)
  obtain ⟨p1, p2, p3, p4, p5⟩ := id T9
  have e70 : b + ((A.2.2.2.2.2 n).length : Int) + 1 - 1 = b + (A.2.2.2.2.2 n).length := by omega
  unfold V_flatEach
  rw [p1, p2, p3, p4, p5, t5, tlk, g70, e70]
  refine ⟨⟨f0, by omega⟩, ⟨by omega, by omega⟩, ⟨by omega, by omega⟩, fun σ4 e4 => ⟨fun _ => ⟨⟨by omega, by omega⟩, ⟨by omega, by omega⟩, ⟨by omega, by omega⟩, ⟨by omega, by omega⟩, ⟨by omega, by omega⟩, fun _ => ⟨⟨by omega, by omega⟩, fun _ => ?_, fun z => by omega⟩, fun z => by omega⟩, fun z => by omega⟩⟩
  refine ifS_r h9 ⟨by omega, by omega⟩ e4 (fun σ7 S7 T7 K7 F7 => ⟨pt, ⟨fun z => ?_, fun _ => trivial⟩, fun v25 e25 r25 => ⟨⟨by omega, by omega⟩, ⟨by omega, by omega⟩, ?_⟩⟩)
  · rcases hf with ⟨q1, q2, q3, q4⟩ | ⟨q1, q2⟩
    · exact ⟨⟨b0, by omega⟩, ⟨by omega, by omega⟩, ⟨by omega, by omega⟩, trivial⟩
    · rcases hht with ⟨y1, y2⟩ | ⟨y1, -⟩
      · exact absurd y2 q1
      · omega
  have ev : v25 = f1 := by
    rcases hht with ⟨y1, y2⟩ | ⟨y1, t, y2, -⟩
    · rw [y1, if_pos rfl] at e25
      rcases hf with ⟨q1, q2, q3, q4⟩ | ⟨q1, q2⟩
      · rw [e25, q2]
      · exact absurd y2 q1
    · rw [y1, if_neg (by decide)] at e25
      rcases hf with ⟨q1, q2, q3, q4⟩ | ⟨q1, q2⟩
      · rw [y2] at q1; cases q1
      · rw [e25, q2]
  rw [ev]
  have ex7 : fEx σ9 σ7 := fEx_F F7 rfl
  obtain ⟨R, hR⟩ := hv
  have h77 := fX_up ex7 hR
  obtain ⟨r, R', eR, lR, rl, -⟩ := fX_r h77
  rw [eR] at h77
  have fl := fCt_f ln v lns
  rw [← fl] at h77
  obtain ⟨a1, a2, ⟨a3, a4, a5⟩, c7, hN⟩ := id S7
  obtain ⟨⟨i1, i2, i3, i4, i5⟩, hB, n1, n2, n3⟩ := id hN
  have b7 := fS_b S7
  have g91 : sg_g σ7 88 91 = sg_g σ9 88 91 := sg_F_g F7 (by rfl)
  obtain ⟨z1, z2, z3, z4⟩ := hrw
  simp only at z1 z2 z3 z4
  refine m_outerX (M := 6000) (L := fCt ln v) ⟨by omega, by omega⟩ h77 (by omega) ⟨⟨by omega, by omega⟩, ⟨by omega, by omega⟩⟩ ⟨z1, z2, z3, by simp only; omega⟩ (by rw [fCt_l, lnl]) (fun i u hu => ?_) (fun w σ10 ew ex10 fv10 e87 f10 rw' _ => ?_)
  · obtain ⟨q1, q2, q3⟩ := fCt_w ln v i u lns hu
    rw [q3, ex7.2.2.2 _ (by omega) (by omega)]
    have := ln2 i (by omega)
    exact ⟨hc i (by omega), by omega, by omega⟩
  · have F710 : sg_F [139, 140, 141, 88088] σ7 σ10 := f10
    have j84 : sg_g σ10 88 84 = sg_g σ7 88 84 := sg_F_g f10 (by rfl)
    have j85 : sg_g σ10 88 85 = sg_g σ7 88 85 := sg_F_g f10 (by rfl)
    have j91 : sg_g σ10 88 91 = sg_g σ7 88 91 := sg_F_g f10 (by rfl)
    have j62 : sg_g σ10 88 62 = sg_g σ7 88 62 := sg_F_g f10 (by rfl)
    have j70 : sg_g σ10 88 70 = sg_g σ7 88 70 := sg_F_g f10 (by rfl)
    have j99 : sg_g σ10 88 99 = sg_g σ7 88 99 := sg_F_g f10 (by rfl)
    have S10 : fSw σb σ10 (fr + 1) (b + (A.2.2.2.2.2 n).length + 1) sv s := ⟨sg_F_t a1 (sg_F_m f10 rfl), by rw [sg_F_g f10 (by rfl)]; exact a2, ⟨by omega, by omega, by omega⟩, fcX_F f10 rfl c7, ⟨⟨by omega, by omega⟩, ⟨by omega, by omega⟩, ⟨by omega, by omega⟩, ⟨by omega, by omega, by omega⟩, by omega, by omega⟩, fun i x y => by rw [sg_F_ga f10 rfl]; exact hB i x (by omega), by omega, by omega, by omega⟩
    refine gfl_leave (A := A) (D := D) (T := T) (X := X) (σ := σ) (ρ := ρ0) (ρ2 := ρ) (d := (T n).toNat) (m := m) S10 (by omega) ⟨b0, by omega⟩ (by rw [sg_F_ga f10 rfl]; exact T7.2.2.1) f0 (fKp_t K7 (fKp_mk f10 rfl ex10 (fun x _ => sg_F_ga f10 rfl) (fun i _ => sg_F_ga f10 rfl)) ⟨Int.le_refl _, Int.le_refl _⟩ ⟨Int.le_refl _, Int.le_refl _⟩ ⟨Int.le_refl _, Int.le_refl _⟩) rw' (by rw [hT, show (T bd + 1).toNat = (T bd).toNat + 1 by omega]; exact ⟨_, fv10⟩) (by omega) k (fun σ' h _ => hQ2 σ' h)
/-- a { } behind its test -/
theorem gfe_C {n bd t : Int} {tl : List Int} {Lb : List Int} {S1 : List (Int × Int)} (hX : pgX σb A D T B) (hO : okO A B O) (hG : gaH A B c O) (hcb : ∀ y, sg_g σb 116 y = c y) (hn : 0 ≤ n ∧ n < A.1) (nw : nW A n) (k15 : A.2.1 n = 15) (ea : A.2.2.2.2.1 n = bd :: tl) (et : tl.drop (A.2.2.2.2.2 n).length = [t]) (hbd : stN A D T B lev j f Lb S1 bd) {Lt : List Int} (hLt : fT A [t] Lt) (hrL : ∀ y ∈ Lb ++ Lt, 0 ≤ y ∧ y < A.1) {σ9 : sg_S} {ρ5 : fEv} {fr b sv sv9 : Int} {m l d0 : Nat} {s4 : fSt} {cv v0 : List vaF} (S9 : fSs σb σ9 (fr + 1) (b + (A.2.2.2.2.2 n).length + 1) sv9 s4) (T9 : gfT σ9 fr n ((A.2.2.2.2.2 n).length + 1) b l sv) (hs9 : scFX A D T σ9 ρ5 cv.length S1) (hcv : ∃ R, fX σ9 6000 (sg_g σ9 133 (b + (A.2.2.2.2.2 n).length)) 0 cv R) (hv0 : ∃ R, fX σ9 6000 (sg_g σ9 133 b) (d0 + 1) v0 R) (l0 : v0.length = l) (lcv : (v0.map (fun v => (itF v).length)).sum = cv.length) (hl : l ≤ 6000) (hcl : cv.length ≤ 6000) (f0 : 0 ≤ fr) (b0 : 0 ≤ b) (hm : 2 * (2000 - s4.1) + (fr + 1) ≤ (m : Int)) (kC : ∀ s', fCa (bTy A D T) (fWh true cv) (O n 1) s4 ρ5 = .inl (8, s') → ∀ σ', sg_F flL σb σ' → sg_g σ' 88 73 = 8 → fcX σ' s' → X σ') (kS : ∀ s5 ρ6, fCa (bTy A D T) (fWh true cv) (O n 1) s4 ρ5 = .inr (s5, ρ6) → fStp (l : Int) s5 = none → ∀ σ', sg_F flL σb σ' → sg_g σ' 88 73 = 8 → fcX σ' s5 → X σ') (kG : ∀ s5 ρ6, fCa (bTy A D T) (fWh true cv) (O n 1) s4 ρ5 = .inr (s5, ρ6) → (∀ y, ρ6 y = if y ∈ O n 1 then fPk (ρ5 y) (fWh true cv) else ρ5 y) → ∀ s6, fStp (l : Int) s5 = some s6 → ∀ σ46 σ12 σ16 m16 f1, fKp A D T σ9 σ46 ρ5 ρ5 fr (b + (A.2.2.2.2.2 n).length) sv9 → (∀ x, sg_g σ46 133 x = sg_g σ9 133 x) → fEx σ9 σ46 → sg_F caL2 σ46 σ12 → fEx σ46 σ12 → (∀ y, y ∉ O n 1 → sg_g σ12 134 y = sg_g σ46 134 y) → (∀ (i : Nat) (x : Int), (O n 1)[i]? = some x → sg_g σ12 148 (sv9 + i) = x ∧ sg_g σ12 149 (sv9 + i) = sg_g σ46 134 x) → (∀ i, i < sv9 → sg_g σ12 148 i = sg_g σ46 148 i ∧ sg_g σ12 149 i = sg_g σ46 149 i) → fSs σb σ16 (fr + 1) (b + (A.2.2.2.2.2 n).length) (sv9 + (O n 1).length) s6 → gfT σ16 fr n ((A.2.2.2.2.2 n).length + 2) b l sv → fKp A D T σ12 σ16 ρ6 ρ6 fr (b + (A.2.2.2.2.2 n).length) (sv9 + (O n 1).length) → scFX A D T σ16 ρ6 (fWh true cv).length (S1.filter (fun p => decide (p.1 ∈ O n 1))) → sg_g σ16 147 fr = f1 → fRw σ16 6000 (f1, l) → (∀ i : Nat, i < l → sg_g σ16 142 (f1 + i) = ((ctL (v0.map (fun v => (itF v).length)) cv).getD i 0 : Nat)) → 2 * (2000 - s6.1) + fr ≤ ((m16 : Nat) : Int) → ∀ Q' : sg_S → Prop, (∀ σ', Rf X m16 σ' → Q' σ') → V_flatBegin σ16 bd ((fWh true cv).length : Int) Q') : Rf X m σ9 := by
  have hA := hX.2.2.2.2.1
  have hX9 := gFX hX S9.1
  obtain ⟨t1, t2, t3, t4, t5⟩ := tr_k hX9.1 hn
  obtain ⟨g1, tk, g4, gt⟩ := ea_ts nw k15 ea
  have eO := ((hG n).2 k15 bd tl Lb Lt ea hbd.2.1 (by rw [et]; exact hLt) hrL).2
  have ho := ((hO n).2.2 k15 bd tl Lb Lt ea hbd.2.1 (by rw [et]; exact hLt)).2
  have hPs : ∀ z ∈ O n 1, ∃ p ∈ S1, p.1 = z := fun z hz => by
    obtain ⟨y, y1, y2, y3, y4⟩ := (ho z).mp hz
    rcases stN_v hA hbd y1 y2 with ⟨q, -⟩ | q
    · exact ⟨_, q, y3⟩
    · rw [y3] at q; exact absurd q y4
  obtain ⟨G, hGe⟩ : ∃ G, G = (A.2.2.2.2.2 n).length := ⟨_, rfl⟩
  rw [← hGe] at S9 T9 hcv kG g1 tk g4 gt t5 et
  have b9 := fS_b S9
  have ltl : G ≤ tl.length := by rw [List.length_take] at tk; omega
  have tlk : sg_g σ9 96 n = tl.length + 1 := by rw [t2, ea]; rfl
  have l200 : tl.length + 1 ≤ 200 := by
    have := t3
    rw [ea, List.length_cons] at this
    exact this
  have tz := t4 0 bd (by rw [ea]; rfl)
  rw [show 200 * n + ((0 : Nat) : Int) = 200 * n by omega] at tz
  obtain ⟨Rc, hcv⟩ := hcv
  obtain ⟨R0, hv0⟩ := hv0
  obtain ⟨r0, r0', R0', eR0, lR0, rl0, rf0, cell0, -, rw0, rw0'⟩ := fX_s hv0
  obtain ⟨a1, a2, ⟨a3, a4, a5⟩, c9, hN⟩ := id S9
  obtain ⟨⟨i1, i2, i3, i4, i5⟩, hB, n1, n2, n3⟩ := id hN
  obtain ⟨m, rfl⟩ : ∃ m', m = m' + 1 := ⟨m - 1, by omega⟩
  refine rf_g (by omega) a2 (fun Qz hz => gf_each hX9 hn a3 ⟨f0, by omega⟩ T9.1 k15 (fun Q' hQ' => ?_))
  have hQ2 : ∀ σ', Rf X m σ' → Q' σ' := fun σ' hr => hQ' σ' (fun _ => hz σ' hr)
  obtain ⟨p1, p2, p3, p4, p5⟩ := id T9
  have e70 : b + (G : Int) + 1 - 1 = b + G := by omega
  unfold V_flatEach
  rw [p1, p2, p3, p4, p5, t5, tz, tlk, a4, e70]
  refine ⟨⟨f0, by omega⟩, ⟨by omega, by omega⟩, ⟨by omega, by omega⟩, fun σ4 e4 => ⟨fun _ => ⟨⟨by omega, by omega⟩, ⟨by omega, by omega⟩, ⟨by omega, by omega⟩, ⟨by omega, by omega⟩, ⟨by omega, by omega⟩, fun _ => ⟨⟨by omega, by omega⟩, fun z => by omega, fun _ => ⟨⟨by omega, by omega⟩, fun σ46 e46 => ⟨⟨by omega, by omega⟩, ?_⟩⟩⟩, fun z => by omega⟩, fun z => by omega⟩⟩
  have F46 : sg_F [127, 71088] σ9 σ46 := by rw [e46, e4]; exact sg_F_w (sg_F_w (sg_F_r _ _) rfl _) rfl _
  have ex46 : fEx σ9 σ46 := fEx_F F46 rfl
  have g70 : sg_g σ46 88 70 = b + G := by rw [e46, sg_gw_e _ _ _ _ ⟨by omega, by omega⟩]
  have S46 : fSs σb σ46 (fr + 1) (b + G) sv9 s4 := fS_w S9 F46 rfl rfl (sg_F_m F46 rfl) g70 ⟨by omega, by omega⟩
  have K46 : fKp A D T σ9 σ46 ρ5 ρ5 fr (b + G) sv9 := fKp_mk F46 rfl ex46 (fun x _ => sg_F_ga F46 rfl) (fun i hi => by rw [e46, sg_gw_c _ _ _ _ _ _ (by decide), e4, sg_gw_k _ _ _ _ _ _ (by omega)])
  have hs46 := scFX_u hs9 K46 (fun p _ => rfl)
  refine m_ch1 (c := c) (gFX hX S46.1) (fun y => by rw [sg_F_ga S46.1 rfl]; exact hcb y) hbd.2.1 hbd.2.2.1 (fun y hy => (hbd.2.2.2.1 y hy).1) (rbX_L hA hbd) (fun σ10 o10 f10 => ?_)
  rw [← eO] at o10
  have hcv10 : fX σ10 6000 (sg_g σ9 133 (b + G)) 0 cv Rc := fX_up (fEx_t ex46 (fEx_F f10 rfl)) hcv
  have g91 : sg_g σ10 88 91 = sg_g σ9 88 91 := by rw [sg_F_g f10 (by rfl), sg_F_g F46 (by rfl)]
  have g87 : sg_g σ10 88 87 = sg_g σ9 88 87 := by rw [sg_F_g f10 (by rfl), sg_F_g F46 (by rfl)]
  refine m_whereX (b := true) hcv10 ⟨by omega, by omega⟩ rfl (fun σ11 l11 f11 _ => ?_)
  have F11 : sg_F [119, 120, 121, 143, 47088, 50088, 94088] σ46 σ11 := sg_F_t (sg_F_m f10 rfl) (sg_F_m f11 rfl)
  have oR11 : oR σ11 (O n 1) := ⟨by rw [sg_F_g f11 (by rfl)]; exact o10.1, fun i y hy => by rw [sg_F_ga f11 rfl]; exact o10.2.1 i y hy, o10.2.2⟩
  have ol : (O n 1).length ≤ 200 := by
    rw [eO]
    have := gaO_l (A := A) (B := B) (c := c) (L := Lb) (but := -1) A.1.toNat
    omega
  have kl : (fWh true cv).length ≤ cv.length := by rw [fWh_l]; exact cwF_le _ _
  have e93 : sg_g σ11 88 93 = ((fWh true cv).length : Int) := by rw [l11.1, List.length_map]
  rw [e93]
  refine m_carS S46 F11 hs46 oR11 ol hPs l11 fWh_b (by omega) (fun s' e σ' y1 y2 y3 _ _ => ⟨fun _ => hQ2 σ' (rf_s (by rw [y2]; decide) (kC s' e σ' y1 y2 y3)), fun z => absurd rfl z⟩) (fun s5 ρ6 e σ12 S12 F12 ex12 x12 er v12 r12 l12 _ _ => ⟨fun z => by omega, fun _ => ?_⟩)
  obtain ⟨d1, d2, ⟨d3, d4, d5⟩, d6, dN⟩ := id S12
  obtain ⟨⟨j1, j2, j3, j4, j5⟩, jB, jn1, jn2, jn3⟩ := id dN
  refine m_stepX d6 ⟨by omega, by omega⟩ (fun es σ' y1 y2 y3 _ _ => ⟨fun z => absurd rfl z, fun _ => hQ2 σ' (rf_s (by rw [y1]; decide) (kS s5 ρ6 e es σ' (sg_F_t d1 (sg_F_m y3 rfl)) y1 y2))⟩) (fun s6 es σ13 c13 f13 _ _ => ⟨fun _ σ14 e14 => ?_, fun z => by omega⟩)
  obtain ⟨y1, y2, y3, y4, y5⟩ := fStp_s es
  have f14 : sg_F [147] σ13 σ14 := by rw [e14]; exact sg_F_w (sg_F_r _ _) rfl _
  have F1214 : sg_F [147, 85088, 86088] σ12 σ14 := sg_F_t (sg_F_m f13 rfl) (sg_F_m f14 rfl)
  have ex14 : fEx σ9 σ14 := fEx_t ex46 (fEx_t ex12 (fEx_F F1214 rfl))
  have k91 : sg_g σ14 88 91 = sg_g σ12 88 91 := sg_F_g F1214 (by rfl)
  have k87 : sg_g σ14 88 87 = sg_g σ12 88 87 := sg_F_g F1214 (by rfl)
  have hc14 := fX_up ex14 hcv
  have h014 := fX_up ex14 hv0
  generalize hln : v0.map (fun v => (itF v).length) = ln at lcv kG
  have lnl : ln.length = l := by rw [← hln, List.length_map]; exact l0
  have lnx : ∀ x, x < l → ln.getD x 0 = ((v0.getD x (nmF 0)) []).toNat := fun x hx => by
    rw [← hln, List.getD_eq_getElem?_getD, List.getElem?_map, gD_i (by omega : x < v0.length), Option.map_some, Option.getD_some, itF_l]
  have c12 := d6.2.1
  refine ⟨fun p at_ v92 σ15 => ∃ x : Nat, v92 = x ∧ p = l - x ∧ x ≤ l ∧ at_ = ((ln.take x).sum : Int) ∧ ∃ tt, gHX σ14 (sg_g σ14 88 91) True (x : Int) tt ((List.range x).map (fun i : Nat => ((ctL ln cv).getD i 0 : Int))) σ15, fun σ15 => ∃ tt, gHX σ14 (sg_g σ14 88 91) True (l : Int) tt ((List.range l).map (fun i : Nat => ((ctL ln cv).getD i 0 : Int))) σ15, ⟨_, 0, rfl, rfl, Nat.zero_le _, by simp, 0, gHX_0 _ _⟩, ?_, ?_⟩
  · rintro p at_ v92 σ15 ra rx f15 ⟨x, rfl, ep, hx, eat, tt, hGx⟩
    refine ⟨fun z => ⟨tt, by rw [show l = x by omega]; exact hGx⟩, fun z => ?_⟩
    have xl : x < v0.length := by omega
    obtain ⟨-, cx1, cx2⟩ := cell0 x xl
    have ts := tk_sum ln x (by omega)
    have tsl := tk_sle ln (x + 1)
    have elx := lnx x (by omega)
    obtain ⟨pa, va⟩ := pRX_h h014 hGx f15 rfl ⟨by omega, by omega⟩ xl
    rw [va]
    refine ⟨fun p v119 v120 v121 => ∃ y : Nat, v121 = y ∧ p = ln.getD x 0 - y ∧ y ≤ ln.getD x 0 ∧ v119 = ((ln.take x).sum : Int) + y ∧ v120 = (cwF true ((cv.drop (ln.take x).sum).take y) : Int), fun v119 v120 => v119 = ((ln.take (x + 1)).sum : Int) ∧ v120 = ((ctL ln cv).getD x 0 : Int), ⟨_, 0, rfl, rfl, Nat.zero_le _, by omega, by simp [cwF]⟩, ?_, ?_⟩
    · rintro p' v119 v120 v121 r1 r2 r3 ⟨y, rfl, ep', hy, e119, e120⟩
      refine ⟨⟨b0, by omega⟩, pa, fun cc => ⟨by omega, ?_⟩, fun cc => ?_⟩
      · rw [e120, ctL_i lcv (by omega), show ln.getD x 0 = y by omega]
      · have ai : (ln.take x).sum + y < cv.length := by omega
        obtain ⟨pi, vi⟩ := pRX_h hc14 hGx f15 rfl ⟨by omega, by omega⟩ ai
        rw [show (((ln.take x).sum + y : Nat) : Int) = v119 by omega] at pi vi
        rw [vi]
        have yl : y < (cv.drop (ln.take x).sum).length := by rw [List.length_drop]; omega
        have tk2 := tk_D yl
        have gd : (cv.drop (ln.take x).sum).getD y (nmF 0) = cv.getD ((ln.take x).sum + y) (nmF 0) := by
          rw [List.getD_eq_getElem?_getD, List.getD_eq_getElem?_getD, List.getElem?_drop]
        have ca := cwF_a true ((cv.drop (ln.take x).sum).take y) [(cv.drop (ln.take x).sum).getD y (nmF 0)]
        rw [← tk2, cwF_1, gd] at ca
        have cb := cwF_le true ((cv.drop (ln.take x).sum).take y)
        rw [List.length_take] at cb
        refine ⟨pi, fun v156 e156 r156 => ⟨?_, ⟨by omega, by omega⟩, ⟨by omega, by omega⟩, _, ?_, y + 1, by omega, rfl, by omega, by omega, ?_⟩⟩
        · rw [e156]
          split <;> exact ⟨by omega, by omega⟩
        · omega
        · rw [ca, e156, e120]
          by_cases c5 : (cv.getD ((ln.take x).sum + y) (nmF 0)) [] = 0
          · simp [c5]
          · have c6 := c5
            rw [List.getD_eq_getElem?_getD] at c6
            simp [c6]
    · rintro v119 v120 r1 r2 ⟨e119, e120⟩
      have hc := hGx.1.1.1
      have cb := cwF_le true ((cv.drop (ln.take x).sum).take (ln.getD x 0))
      rw [← ctL_i lcv (by omega), List.length_take] at cb
      refine ⟨⟨by omega, by omega⟩, fun σ16 e16 => ⟨⟨by omega, by omega⟩, fun σ17 e17 => ⟨⟨by omega, by omega⟩, _, ?_, x + 1, by omega, rfl, by omega, e119, _, gHX_r (gHX_p hGx (by omega) (by omega) r2 (fun _ => ⟨by omega, by omega⟩) e16 e17) e120.symm⟩⟩⟩
      omega
  · rintro σ15 f15 ⟨tt, hGx⟩
    refine ⟨⟨by omega, by omega⟩, fun σ16 e16 => ?_⟩
    have ex15 := gH_ex hGx.1 f15
    have hc := hGx.1.1.1
    have f16 : sg_F [127] σ15 σ16 := by rw [e16]; exact sg_F_w (sg_F_r _ _) rfl _
    have F1416 : sg_F [127, 142, 92088] σ14 σ16 := sg_F_t (sg_F_m f15 rfl) (sg_F_m f16 rfl)
    have F1216 : sg_F [127, 142, 147, 85088, 86088, 92088] σ12 σ16 := sg_F_t (sg_F_m F1214 rfl) (sg_F_m F1416 rfl)
    have ex1216 : fEx σ12 σ16 := fEx_t (fEx_F F1214 rfl) (fEx_t ex15 (fEx_F f16 rfl))
    have c16 := fcX_F F1416 rfl (fcX_F f14 rfl c13)
    have q84 := c16.1
    have q85 := c16.2.1
    have q4 := c16.2.2.2
    have p84 := d6.1
    have q91 : sg_g σ16 88 91 = sg_g σ12 88 91 + l := by rw [sg_F_g f16 (by rfl)]; omega
    have q87 : sg_g σ16 88 87 = sg_g σ12 88 87 := sg_F_g F1216 (by rfl)
    have q99 : sg_g σ16 88 99 = sg_g σ12 88 99 := sg_F_g F1216 (by rfl)
    have q62 : sg_g σ16 88 62 = sg_g σ12 88 62 := sg_F_g F1216 (by rfl)
    have q70 : sg_g σ16 88 70 = sg_g σ12 88 70 := sg_F_g F1216 (by rfl)
    have S16 : fSs σb σ16 (fr + 1) (b + G) (sv9 + (O n 1).length) s6 := ⟨sg_F_t d1 (sg_F_m F1216 rfl), by rw [sg_F_g F1216 (by rfl)]; exact d2, ⟨by omega, by omega, by omega⟩, c16, ⟨⟨by omega, by omega⟩, ⟨by omega, by omega⟩, ⟨by omega, by omega⟩, ⟨by omega, by omega, by omega⟩, by omega, by omega⟩, fun i x y => by rw [sg_F_ga F1216 rfl]; exact jB i x (by omega), by omega, by omega, by omega⟩
    have T16 : gfT σ16 fr n ((G : Int) + 2) b l sv := ⟨by rw [sg_F_ga F1216 rfl, sg_F_ga F12 rfl, sg_F_ga F46 rfl]; exact p1, by rw [e16, sg_gw_e _ _ _ _ ⟨by omega, by omega⟩], by rw [sg_F_ga F1216 rfl, sg_F_ga F12 rfl, sg_F_ga F46 rfl]; exact p3, by rw [sg_F_ga F1216 rfl, sg_F_ga F12 rfl, sg_F_ga F46 rfl]; exact p4, by rw [sg_F_ga F1216 rfl, sg_F_ga F12 rfl, sg_F_ga F46 rfl]; exact p5⟩
    have i147 : ∀ i, ¬ i = fr → sg_g σ16 147 i = sg_g σ12 147 i := fun i hi => by rw [sg_F_ga F1416 rfl, e14, sg_gw_k _ _ _ _ _ _ hi, sg_F_ga f13 rfl]
    have i127 : ∀ i, ¬ i = fr → sg_g σ16 127 i = sg_g σ12 127 i := fun i hi => by rw [e16, sg_gw_k _ _ _ _ _ _ hi, sg_F_ga f15 rfl, sg_F_ga F1214 rfl]
    have U16 : fKp A D T σ12 σ16 ρ6 ρ6 fr (b + G) (sv9 + (O n 1).length) := ⟨ex1216, fun x _ => sg_F_ga F1216 rfl, fun y hy => rlF_up hy ex1216 (sg_F_ga F1216 rfl) rfl, fun i hi => ⟨sg_F_ga F1216 rfl, i127 i (by omega), sg_F_ga F1216 rfl, sg_F_ga F1216 rfl, sg_F_ga F1216 rfl, i147 i (by omega)⟩, fun i _ => ⟨sg_F_ga F1216 rfl, sg_F_ga F1216 rfl⟩⟩
    have e147 : sg_g σ16 147 fr = sg_g σ14 88 91 := by rw [k91, sg_F_ga F1416 rfl, e14, sg_gw_e _ _ _ _ (sg_Rg _ _ _)]
    have q5 := fCa_s e
    refine kG s5 ρ6 e er s6 es σ46 σ12 σ16 m (sg_g σ14 88 91) K46 (fun x => sg_F_ga F46 rfl) ex46 F12 ex12 x12 r12 l12 S16 T16 U16 (scFX_u (scFX_c hs46 er v12) U16 (fun p _ => rfl)) e147 ⟨by simp only; omega, by simp only; omega, by simp only; omega, by simp only; omega⟩ (fun i hi => ?_) (by omega) _ (fun σ' hr' _ => hQ2 σ' hr')
    rw [sg_F_ga f16 rfl]
    exact hGx.2.2 i _ (by rw [List.getElem?_map, List.getElem?_range hi]; rfl)
end BLS
/-! THE FLAT RUN of the reference in big steps: a { }; all nodes. -/
section BMS
variable {A : aT} {D : List aDf} {T B c : Int → Int} {lev : Int → Nat} {σb : sg_S} {X : sg_S → Prop} {O : Int → Nat → List Int} {call : Int → Nat → fEv → fSt → fRs} {j f : Nat}
theorem gfN_each {n : Int} {L : List Int} {sc : List (Int × Int)} (hX : pgX σb A D T B) (hP : fPu A D T B lev O call j f) (F : gfN A D T σb X B lev O call j f) (hO : okO A B O) (hG : gaH A B c O) (hcb : ∀ y, sg_g σb 116 y = c y) (h : stN A D T B lev j (f + 1) L sc n) (k15 : A.2.1 n = 15) {σ : sg_S} {m l : Nat} {ρ : fEv} {fr b sv : Int} {s : fSt} (hS : fSw σb σ fr b sv s) (hl : l ≤ 6000) (hs : scFX A D T σ ρ l sc) (hm : 2 * (2000 - s.1) + fr ≤ (m : Int) + 1) (k : kF A D T σb X σ ρ fr b sv (T n).toNat (fxN A D T B O call (f + 1) n l ρ s)) {Q : sg_S → Prop} (hQ : ∀ σ', Rf X m σ' → Q σ') : V_flatBegin σ n (l : Int) Q := by
  obtain ⟨w1, w2, w3, w4, w5, w6⟩ := stN_w h
  have hA := hX.2.2.2.2.1
  have bb := fS_bw hS
  have g := (w1.2.2.2.2.2.2.1 k15).1
  obtain ⟨bd, tl, ea⟩ : ∃ bd tl, A.2.2.2.2.1 n = bd :: tl := by
    cases e : A.2.2.2.2.1 n with
    | nil => rw [e] at g; simp at g; omega
    | cons bd tl => exact ⟨bd, tl, rfl⟩
  have eg : kGs A n = tl.take (A.2.2.2.2.2 n).length := by unfold kGs; rw [ea]; rfl
  have ed : (A.2.2.2.2.1 n).drop (1 + (A.2.2.2.2.2 n).length) = tl.drop (A.2.2.2.2.2 n).length := by rw [ea, Nat.add_comm]; rfl
  obtain ⟨g1, tk, g4, gt⟩ := ea_ts w1 k15 ea
  obtain ⟨Lb, hb, sb, -⟩ := stN_b0 hA hO h k15 ea (z := bd) (by simp)
  have gg := w5 (by omega)
  rw [kTy_15 k15, ea] at gg
  obtain ⟨y1, y2, y3⟩ := kIs_in gg
  simp only [List.map_cons, List.getD_cons_zero] at y1 y2
  have Tb := (stN_w hb).2.2.1.1
  have pu := fun (R : List Int) (hR : ∀ x ∈ R, ∃ L', stN A D T B lev j f L' sc x ∧ ∀ y ∈ L', y ∈ L) => fx_sq (O := O) (call := call) (m := l) (L := L) (fun x L' hx ρ s v s' ρ' => hP x L' sc hx l ρ s v s' ρ') R hR (fun p hp => (h.2.2.2.2 p hp).2)
  simp only [fxN] at k
  refine gfb_begin (A := A) (D := D) (T := T) (ρ := ρ) hS ⟨w2.1, by omega⟩ hl hQ (fun z σ' y1 y2 y3 y4 => ?_) (fun s1 z es1 es2 σ1 S1 T1 V1 v1 => ?_)
  · rw [z] at k; exact k σ' y1 y2 y3 y4
  rw [z] at k
  simp only at k
  rw [if_neg (by omega), if_neg (by omega), if_neg (by omega), if_neg (by omega), if_pos k15, ed, eg] at k
  have hs1 := scFX_u hs V1 (fun p _ => rfl)
  have sk := fun x hx => ((stN_e hA h k15 ea).1 x hx).1
  have pq := pu (tl.take (A.2.2.2.2.2 n).length) sk ρ s1
  refine gfRow hX hP F (sc := sc) (off := 1) w2 hl (gof_each w2 hl k15 ea) (tl.take (A.2.2.2.2.2 n).length) 0 (fun i x hx => by
    have hi := gE_l hx
    rw [tk] at hi
    rw [List.getElem?_take_of_lt hi] at hx
    rw [Nat.zero_add, Nat.add_comm, ea, List.getElem?_cons_succ]; exact hx) (fun _ => by omega) (fun x hx => by obtain ⟨L', a, -⟩ := sk x hx; exact ⟨L', a⟩) σ1 m ρ fr b s1 (by simp only [Int.ofNat_zero, Int.cast_ofNat_Int, Int.add_zero]; exact S1) (by omega) (by omega) T1 hs1 (by omega) ?_
  generalize fSq (fun x => fxN A D T B O call f x l) (tl.take (A.2.2.2.2.2 n).length) ρ s1 = r at k pq
  match r, k, pq with
  | .inl (e, w'), k, _ => exact k
  | .inr (vs, s2, ρ2), k, pq =>
    intro σ2 m2 l2 S2 T2 V2 v2 hm2
    obtain ⟨pl, pv, pk⟩ := pq vs s2 ρ2 (fun p hp => (hs1 p hp).2.2.2) rfl
    rw [tk] at pl
    rw [tk] at S2 T2
    simp only [Int.ofNat_zero, Int.cast_ofNat_Int, Int.add_zero, Nat.zero_add] at S2 T2 V2 v2
    simp only at k
    have V12 := fKp_t V1 V2 ⟨Int.le_refl _, Int.le_refl _⟩ ⟨Int.le_refl _, Int.le_refl _⟩ ⟨Int.le_refl _, Int.le_refl _⟩
    have hs2 : scFX A D T σ2 ρ2 l sc := scFX_u hs V12 (fun p hp => pk p.1 (h.2.2.2.2 p hp).2)
    have b2 := fS_b S2
    have ebd : (A.2.2.2.2.1 n).getD 0 0 = bd := by rw [ea]; rfl
    rw [ebd] at k
    unfold fEbN at k
    obtain ⟨x0, hx0⟩ : ∃ x, (tl.take (A.2.2.2.2.2 n).length)[0]? = some x := ⟨_, List.getElem?_eq_getElem (by omega)⟩
    obtain ⟨v0, hv0⟩ : ∃ v, vs[0]? = some v := ⟨_, List.getElem?_eq_getElem (by omega)⟩
    have e0 : vs.getD 0 [] = v0 := by rw [List.getD_eq_getElem?_getD, hv0]; rfl
    have T0 := ((stN_e hA h k15 ea).1 x0 (List.mem_of_getElem? hx0)).2
    obtain ⟨R0, hR0⟩ := v2 0 x0 v0 hx0 hv0
    simp only [Int.ofNat_zero, Int.cast_ofNat_Int, Int.add_zero] at hR0
    rw [show (T x0).toNat = ((T x0).toNat - 1) + 1 by omega] at hR0
    have l0 := pv v0 (List.mem_of_getElem? hv0)
    have lnl : ((vs.getD 0 []).map (fun v => (itF v).length)).length = l := by rw [List.length_map, e0]; exact l0
    refine gfe_B hX hO hG hcb h k15 ea S2 T2 hs2 hl (by omega) (by omega) v2 ⟨pl, pv⟩ hm2 (fun ne σ' z1 z2 z3 => ?_) (fun he s' es σ' z1 z2 z3 => ?_) (fun he s3 ρ3 es er σ4 σ8 σ15 m15 z v246 hzz K4 e4 ex4 F8 ex8 x8 r8 l8 S15 T15 U15 sc15 hm15 rp6 Q' hQ' => ?_)
    · rw [if_pos (Decidable.byContradiction (fun c => ne (eaE_i.mp c)))] at k
      exact k σ' z1 z2 (by decide) z3
    · rw [if_neg (eaE_i.mpr he), es] at k
      exact k σ' z1 z2 (by decide) z3
    rw [if_neg (eaE_i.mpr he), es] at k
    simp only at k
    have K24 := fKp_t V12 K4 ⟨Int.le_refl _, Int.le_refl _⟩ ⟨Int.le_refl _, Int.le_refl _⟩ ⟨Int.le_refl _, Int.le_refl _⟩
    rcases hzz with ⟨et, ev⟩ | ⟨et, ez, ev⟩
    · rw [et] at k
      simp only at k
      obtain ⟨Lt, ht, st, -⟩ := stN_b0 hA hO h k15 ea (z := z) (by rw [et]; simp)
      have Tt : T z = 0 := by
        have e1 : tl[(A.2.2.2.2.2 n).length]? = some z := by
          have := congrArg (fun q => q[0]?) et
          simp only [List.getElem?_drop, Nat.add_zero] at this
          exact this
        have ld : (tl.drop (A.2.2.2.2.2 n).length).length = tl.length - (A.2.2.2.2.2 n).length := List.length_drop
        rw [et] at ld
        simp only [List.length_cons, List.length_nil] at ld
        rw [Bool.or_eq_true, decide_eq_true_eq, decide_eq_true_eq] at y3
        simp only [List.map_cons, List.length_cons, List.length_map] at y3
        rcases y3 with y | y
        · omega
        · rw [show tl.length + 1 - 1 = (A.2.2.2.2.2 n).length + 1 by omega, List.getD_cons_succ, List.getD_eq_getElem?_getD, List.getElem?_map, e1] at y
          exact y
      refine gpf (m := m15) F hP ht S15 rp6 T15 sc15 hm15 (fun r er' hr => ?_) hQ'
      rw [er'] at k
      match r, k, hr with
      | .inl (e, w'), k, _ => exact k
      | .inr (cv, s4, ρ5), k, hr =>
        intro σ9 m9 S9 T9 q9 U9 v9 hm9
        obtain ⟨cl, ck⟩ := hr cv s4 ρ5 rfl
        simp only at k
        rw [Tt] at v9
        rw [ev] at T9
        have U89 := fKp_t U15 U9 ⟨Int.le_refl _, Int.le_refl _⟩ ⟨Int.le_refl _, Int.le_refl _⟩ ⟨Int.le_refl _, Int.le_refl _⟩
        have ex29 : fEx σ2 σ9 := fEx_t ex4 (fEx_t ex8 U89.1)
        have e9 : sg_g σ9 133 b = sg_g σ2 133 b := by rw [U89.2.1 b (by omega), sg_F_ga F8 rfl, e4]
        have hs9 : scFX A D T σ9 ρ5 cv.length (gsc n T 0 (tl.take (A.2.2.2.2.2 n).length) ++ sc.filter (fun p => decide (p.1 ∈ O n 0))) := by
          rw [cl]
          exact scFX_u sc15 U9 (fun p hp => ck p.1 (ht.2.2.2.2 p hp).2)
        refine gfe_C (t := z) (Lt := Lt) hX hO hG hcb w2 w1 k15 ea et hb ht.2.1 (fun y hy => ?_) S9 T9 hs9 v9 ⟨R0, by rw [e9]; exact fX_up ex29 hR0⟩ l0 (by rw [cl, ← e0, fRp_l lnl]) hl (by rw [cl]; exact rp6) (by omega) (by omega) hm9 (fun s' es' σ' z1 z2 z3 => ?_) (fun s5 ρ6 es' ef σ' z1 z2 z3 => ?_) (fun s5 ρ6 es' er6 s6 ef σ46 σ12 σ16 m16 f1 K46 e46 ex46 F12 ex12 x12 r12 l12 S16 T16 U16 sc16 e147 rw16 c16 hm16 Q' hQ' => ?_)
        · rcases List.mem_append.mp hy with q | q
          · exact (hb.2.2.2.1 y q).1
          · exact (ht.2.2.2.1 y q).1
        · rw [es'] at k
          exact k σ' z1 z2 (by decide) z3
        · rw [es'] at k
          simp only at k
          rw [ef] at k
          exact k σ' z1 z2 (by decide) z3
        · rw [es'] at k
          simp only at k
          rw [ef] at k
          simp only at k
          have hb1 := stN_b1 hO k15 ea (by rw [et]; exact ht.2.1) hb
          have cwl : (fWh true cv).length ≤ cv.length := by rw [fWh_l]; exact cwF_le _ _
          refine gpf (m := m16) F hP hb1 (fS_wk S16) (by rw [cl] at cwl; omega) T16 sc16 hm16 (fun r er' hr => ?_) hQ'
          rw [er'] at k
          match r, k, hr with
          | .inl (e, w'), k, _ => exact k
          | .inr (v, s7, ρ7), k, hr =>
            intro σ20 m20 S20 T20 q20 U20 v20 hm20
            obtain ⟨vl, -⟩ := hr v s7 ρ7 rfl
            simp only at k
            have U1220 := fKp_t U16 U20 ⟨Int.le_refl _, Int.le_refl _⟩ ⟨Int.le_refl _, Int.le_refl _⟩ ⟨Int.le_refl _, Int.le_refl _⟩
            have h20 := ifS_n2 K24 (by omega : b ≤ b + ((A.2.2.2.2.2 n).length : Int)) (by omega) F8 ex8 x8 (fun y hy => by rw [er y, if_neg hy]) r8 l8 U89 K46 F12 ex12 x12 (fun y hy => by rw [er6 y, if_neg hy]) r12 l12 U1220 S20 T20
            have ls : ((v0.map (fun v => (itF v).length))).sum = cv.length := by rw [cl, ← e0, fRp_l lnl]
            have lv0 : (v0.map (fun v => (itF v).length)).length = l := by rw [List.length_map]; exact l0
            obtain ⟨r0, r0', R0', eR0, lR0, rl0, rf0, cell0, -, rw0, rw0'⟩ := fX_s hR0
            refine gfe_D (ln := ctL (v0.map (fun v => (itF v).length)) cv) (v := v) (f1 := f1) hX w2 w1 k15 ea y1 w3.2 Tb h20 v20 (by rw [ctL_l]; exact lv0) (by rw [ctL_s ls, vl, fWh_l]) (fun i hi => ?_) ?_ (fun i hi => ?_) (Or.inr ⟨by rw [et]; simp, by rw [q20]; exact e147⟩) hl (by omega) (by omega) hm20 (by rw [e0] at k; exact k)
            · rw [ctL_i ls (by omega)]
              have q1 := cwF_le true ((cv.drop ((v0.map (fun v => (itF v).length)).take i).sum).take ((v0.map (fun v => (itF v).length)).getD i 0))
              rw [List.length_take] at q1
              have q2 : (v0.map (fun v => (itF v).length)).getD i 0 = ((v0.getD i (nmF 0)) []).toNat := by
                rw [List.getD_eq_getElem?_getD, List.getElem?_map, gD_i (by omega : i < v0.length), Option.map_some, Option.getD_some, itF_l]
              obtain ⟨-, q3, q4⟩ := cell0 i (by omega)
              omega
            · obtain ⟨q1, q2, q3, q4⟩ := rw16
              have := U20.1.1.2
              exact ⟨q1, q2, q3, by simp only at q4 ⊢; omega⟩
            · obtain ⟨q1, q2, q3, q4⟩ := rw16
              simp only at q1 q2 q3 q4
              rw [U20.1.2.2.2 _ (by omega) (by omega)]
              exact c16 i hi
    · rw [et] at k
      simp only at k
      subst ez
      refine gpf (m := m15) F hP hb S15 rp6 T15 sc15 hm15 (fun r er' hr => ?_) hQ'
      rw [er'] at k
      match r, k, hr with
      | .inl (e, w'), k, _ => exact k
      | .inr (v, s4, ρ5), k, hr =>
        intro σ9 m9 S9 T9 q9 U9 v9 hm9
        obtain ⟨cl, ck⟩ := hr v s4 ρ5 rfl
        simp only at k
        rw [ev] at T9
        have U89 := fKp_t U15 U9 ⟨Int.le_refl _, Int.le_refl _⟩ ⟨Int.le_refl _, Int.le_refl _⟩ ⟨Int.le_refl _, Int.le_refl _⟩
        have ex29 : fEx σ2 σ9 := fEx_t ex4 (fEx_t ex8 U89.1)
        have e9 : sg_g σ9 133 b = sg_g σ2 133 b := by rw [U89.2.1 b (by omega), sg_F_ga F8 rfl, e4]
        have h9 := ifS_n K24 (by omega : b ≤ b + ((A.2.2.2.2.2 n).length : Int)) (by omega) F8 ex8 x8 (fun y hy => by rw [er y, if_neg hy]) r8 l8 S9 T9 U89
        have hR9 := fX_up ex29 hR0
        rw [← e9] at hR9
        obtain ⟨r0, r0', R0', eR0, lR0, rl0, rf0, cell0, -, rw0, rw0'⟩ := fX_s hR9
        have vb := hR9.1.1
        have z0 := hR9.1
        rw [eR0] at z0
        have z1 := (fV_0 z0).1
        obtain ⟨⟨i1, i2, i3, i4, i5⟩, -⟩ := S9.2.2.2.2
        have lv0 : (v0.map (fun v => (itF v).length)).length = l := by rw [List.length_map]; exact l0
        have q2 : ∀ i, i < l → (v0.map (fun v => (itF v).length)).getD i 0 = ((v0.getD i (nmF 0)) []).toNat := fun i hi => by
          rw [List.getD_eq_getElem?_getD, List.getElem?_map, gD_i (by omega : i < v0.length), Option.map_some, Option.getD_some, itF_l]
        refine gfe_D (ln := v0.map (fun v => (itF v).length)) (v := v) (f1 := r0.1) hX w2 w1 k15 ea y1 w3.2 Tb h9 v9 lv0 (by rw [cl, ← e0, fRp_l lnl]) (fun i hi => ?_) ?_ (fun i hi => ?_) (Or.inl ⟨et, z1, by omega, by omega⟩) hl (by omega) (by omega) hm9 (by rw [e0] at k; exact k)
        · rw [q2 i hi]
          obtain ⟨-, q3, q4⟩ := cell0 i (by omega)
          omega
        · rw [← l0, ← rl0]; exact rw0
        · obtain ⟨q1, q3, q4⟩ := cell0 i (by omega)
          rw [q1, q2 i hi]
          omega
theorem gfN_all {r0 : Int} (hX : pgX σb A D T B) (hlv : lvP A D lev 0 r0) (hO : okO A B O) (hG : gaH A B c O) (hcb : ∀ y, sg_g σb 116 y = c y) (hC : cFr A D T B lev σb X call j) (hc : cOk A D T B lev j call) : ∀ f : Nat, gfN A D T σb X B lev O call j f
  | 0 => fun n L sc h => h.1.elim
  | f + 1 => fun n L sc h σ m l ρ fr b sv s hS hl hs hm k Q hQ => by
    have F := gfN_all hX hlv hO hG hcb hC hc f
    have hP : fPu A D T B lev O call j f := fun n L sc h => fx_ok hX hlv hO hc f n L sc h
    by_cases k1 : A.2.1 n = 1
    · exact gfN_var hX h k1 hS hl hs hm k hQ
    by_cases k2 : A.2.1 n = 2
    · exact gfN_let hX hP F h k2 hS hl hs hm k hQ
    by_cases k3 : A.2.1 n = 3
    · exact gfN_if hX hP F hO hG hcb h k3 hS hl hs hm k hQ
    by_cases k13 : A.2.1 n = 13
    · exact gfN_call hX hlv hP F hC h k13 hS hl hs hm k hQ
    by_cases k15 : A.2.1 n = 15
    · exact gfN_each hX hP F hO hG hcb h k15 hS hl hs hm k hQ
    · exact gfN_op hX hP F h ⟨k1, k2, k3, k13, k15⟩ hS hl hs hm k hQ
theorem cFr_all {r0 : Int} (hX : pgX σb A D T B) (hlv : lvP A D lev 0 r0) (hO : okO A B O) (hG : gaH A B c O) (hcb : ∀ y, sg_g σb 116 y = c y) : ∀ j : Nat, cFr A D T B lev σb X (fxC A D T B O j) j := by
  have key : ∀ (k : Nat) (j : Nat), j ≤ k → cFr A D T B lev σb X (fxC A D T B O j) j := by
    intro k
    induction k with
    | zero =>
      intro j hj d y L' hy dj
      omega
    | succ k ih =>
      intro j hj d y L' hy dj hst σ m l ρ fr b sv s hS hl hs hm kk Q hQ
      rw [fxC_e A D T B O j d dj] at kk
      have ey : (D.getD d (0, 0, [], 0)).2.2.2 = y.2.2.2 := by rw [List.getD_eq_getElem?_getD, hy]; rfl
      rw [ey] at kk
      exact gfN_all (call := fxC A D T B O d) (j := d) hX hlv hO hG hcb (ih d (by omega)) (fxC_ok hX hlv hO d) 201 y.2.2.2 L' _ hst σ m l ρ fr b sv s hS hl hs hm kk Q hQ
  exact fun j => key j j (Nat.le_refl _)
end BMS
/-! EXTENTS of what is worked out: no more than CELLS are told. -/
theorem exF_s (d : Nat) (l : List vaF) : exF (d + 1) l = (l.length : Int) + exF d (flF l) := rfl
theorem exF_p (d : Nat) (l : List vaF) : 0 ≤ exF d l := by
  have := exF_n d l
  omega
theorem fCa_x {ty : Int → Int} {ks : List Nat} : ∀ {P : List Int} {s s' : fSt} {ρ ρ' : fEv}, P.Nodup → fCa ty ks P s ρ = .inr (s', ρ') → ∀ b ∈ P, s.2.1 + exF (ty b).toNat (fPk (ρ b) ks) ≤ s'.2.1
  | [], s, s', ρ, ρ', _, h, b, hb => by cases hb
  | y :: r, s, s', ρ, ρ', hn, h, b, hb => by
    have nd := List.nodup_cons.mp hn
    simp only [fCa] at h
    cases hs : fStp (exF (ty y).toNat (fPk (ρ y) ks)) s with
    | none => rw [hs] at h; cases h
    | some s1 =>
      rw [hs] at h
      obtain ⟨z1, z2, z3, -⟩ := fStp_s hs
      have q := fCa_s h
      rcases List.mem_cons.mp hb with e | e
      · rw [e]; omega
      · have ih := fCa_x nd.2 h b e
        have ny : ¬ b = y := fun q => nd.1 (by rw [← q]; exact e)
        simp only [if_neg ny] at ih
        have := exF_p (ty y).toNat (fPk (ρ y) ks)
        omega
section BNS
variable (A : aT) (D : List aDf) (T : Int → Int)
def scE (ρ : fEv) (m : Nat) (c : Int) (sc : List (Int × Int)) : Prop := ∀ p ∈ sc, (ρ p.1).length = m ∧ p.2 = bTy A D T p.1 ∧ exF p.2.toNat (ρ p.1) ≤ c
variable (B : Int → Int) (lev : Int → Nat)
/-- DEFS below j keep to their CELLS -/
def cXk (j : Nat) (call : Int → Nat → fEv → fSt → fRs) : Prop := ∀ (d : Nat) (y : aDf) (L' : List Int), D[d]? = some y → d < j → stN A D T B lev d 201 L' (scZ (kPe y) (kPb d 0 y.2.2.1 [])) y.2.2.2 → ∀ (m : Nat) ρ s v s' ρ' (X : Int), scE A D T ρ m (s.2.1 + X) (scZ (kPe y) (kPb d 0 y.2.2.1 [])) → 0 ≤ s.2.1 + X → call (d : Int) m ρ s = .inr (v, s', ρ') → exF (T y.2.2.2).toNat v ≤ s'.2.1 + X ∧ s.2.1 ≤ s'.2.1
/-- a node keeps to its CELLS -/
def fPx (O : Int → Nat → List Int) (call : Int → Nat → fEv → fSt → fRs) (j f : Nat) : Prop := ∀ (n : Int) (L : List Int) (sc : List (Int × Int)), stN A D T B lev j f L sc n → ∀ (m : Nat) ρ s v s' ρ' (X : Int), scE A D T ρ m (s.2.1 + X) sc → 0 ≤ s.2.1 + X → fxN A D T B O call f n m ρ s = .inr (v, s', ρ') → exF (T n).toNat v ≤ s'.2.1 + X ∧ s.2.1 ≤ s'.2.1
end BNS
section BNT
variable {A : aT} {D : List aDf} {T B : Int → Int} {lev : Int → Nat} {O : Int → Nat → List Int} {call : Int → Nat → fEv → fSt → fRs} {j f : Nat}
theorem scE_u {ρ ρ' : fEv} {m : Nat} {c c' : Int} {sc : List (Int × Int)} (h : scE A D T ρ m c sc) (hc : c ≤ c') (hk : ∀ p ∈ sc, ρ' p.1 = ρ p.1) : scE A D T ρ' m c' sc := fun p hp => by
  obtain ⟨a, b, d⟩ := h p hp
  rw [hk p hp]
  exact ⟨a, b, by omega⟩
theorem scE_c {ρ ρ' : fEv} {m : Nat} {c : Int} {P : List Int} {kn : List Nat} {s s' : fSt} {sc : List (Int × Int)} (h : scE A D T ρ m c sc) (hn : P.Nodup) (e : fCa (bTy A D T) kn P s ρ = .inr (s', ρ')) {X : Int} (hX : 0 ≤ s.2.1 + X) : scE A D T ρ' kn.length (s'.2.1 + X) (sc.filter (fun p => decide (p.1 ∈ P))) := fun p hp => by
  obtain ⟨p1, p2⟩ := List.mem_filter.mp hp
  rw [decide_eq_true_eq] at p2
  obtain ⟨a, b, d⟩ := h p p1
  have er := fCa_e hn e p.1
  rw [if_pos p2] at er
  have q := fCa_x hn e p.1 p2
  rw [er, fPk_l]
  refine ⟨rfl, b, ?_⟩
  rw [b]; omega
theorem fe_sq {m : Nat} {L : List Int} {sc : List (Int × Int)} {X : Int} (hP : fPu A D T B lev O call j f) (hE : fPx A D T B lev O call j f) : ∀ (R : List Int), (∀ x ∈ R, ∃ L', stN A D T B lev j f L' sc x ∧ ∀ y ∈ L', y ∈ L) → (∀ p ∈ sc, ¬ ow lev j L p.1) → ∀ ρ s vs s' ρ', scE A D T ρ m (s.2.1 + X) sc → 0 ≤ s.2.1 + X → fSq (fun x => fxN A D T B O call f x m) R ρ s = .inr (vs, s', ρ') → s.2.1 ≤ s'.2.1 ∧ ∀ (i : Nat) (x : Int) (v : List vaF), R[i]? = some x → vs[i]? = some v → exF (T x).toNat v ≤ s'.2.1 + X
  | [], hR, hs, ρ, s, vs, s', ρ', hl, h0, h => by
    simp only [fSq, Sum.inr.injEq, Prod.mk.injEq] at h
    obtain ⟨-, rfl, -⟩ := h
    exact ⟨Int.le_refl _, fun i x v hx => by simp at hx⟩
  | x :: R, hR, hs, ρ, s, vs, s', ρ', hl, h0, h => by
    simp only [fSq] at h
    cases e1 : fxN A D T B O call f x m ρ s with
    | inl e => rw [e1] at h; cases h
    | inr p =>
      obtain ⟨v, s1, ρ1⟩ := p
      rw [e1] at h
      simp only at h
      cases e2 : fSq (fun x => fxN A D T B O call f x m) R ρ1 s1 with
      | inl e => rw [e2] at h; cases h
      | inr p2 =>
        obtain ⟨vs1, s2, ρ2⟩ := p2
        rw [e2] at h
        simp only [Sum.inr.injEq, Prod.mk.injEq] at h
        obtain ⟨rfl, rfl, rfl⟩ := h
        obtain ⟨L', hx, sub⟩ := hR x (by simp)
        obtain ⟨lv, kv⟩ := hP x L' sc hx m ρ s v s1 ρ1 (fun p hp => (hl p hp).1) e1
        obtain ⟨x1, x2⟩ := hE x L' sc hx m ρ s v s1 ρ1 X hl h0 e1
        obtain ⟨a1, a2⟩ := fe_sq hP hE R (fun y hy => hR y (by simp [hy])) hs ρ1 s1 _ _ _ (scE_u hl (by omega) (fun p hp => kv p.1 (hx.2.2.2.2 p hp).2)) (by omega) e2
        refine ⟨by omega, fun i y w hy hw => ?_⟩
        cases i with
        | zero =>
          simp only [List.getElem?_cons_zero, Option.some.injEq] at hy hw
          subst hy hw
          omega
        | succ i =>
          simp only [List.getElem?_cons_succ] at hy hw
          exact a2 i y w hy hw
theorem fe_if {L : List Int} {sc : List (Int × Int)} {n a c d : Int} {m : Nat} {X : Int} (hA : A.1 ≤ 200) (hO : okO A B O) (hP : fPu A D T B lev O call j f) (hE : fPx A D T B lev O call j f) (k3 : A.2.1 n = 3) (hk : A.2.2.2.2.1 n = [a, c, d]) (t1 : T n = T c) (t2 : T n = T d) (h : stN A D T B lev j (f + 1) L sc n) {ρ : fEv} {s s' : fSt} {v : List vaF} {ρ' : fEv} (hl : scE A D T ρ m (s.2.1 + X) sc) (h0 : 0 ≤ s.2.1 + X) (e : fIfN (fxN A D T B O call f) (bTy A D T) (T n) (O n 1) (O n 2) a c d m ρ s = .inr (v, s', ρ')) : exF (T n).toNat v ≤ s'.2.1 + X ∧ s.2.1 ≤ s'.2.1 := by
  obtain ⟨La, ha, sa⟩ := stN_k h (by omega) (by omega) (z := a) (by rw [hk]; simp)
  obtain ⟨Lc, hc, sc1⟩ := stN_k h (by omega) (by omega) (z := c) (by rw [hk]; simp)
  obtain ⟨Ld, hd, sd⟩ := stN_k h (by omega) (by omega) (z := d) (by rw [hk]; simp)
  obtain ⟨pc, -⟩ := stN_p (L := L) (st := 1) hA hO k3 (Or.inl rfl) (by rw [hk]; rfl) hc
  obtain ⟨pd, -⟩ := stN_p (L := L) (st := 2) hA hO k3 (Or.inr rfl) (by rw [hk]; rfl) hd
  unfold fIfN at e
  cases e1 : fxN A D T B O call f a m ρ s with
  | inl w => rw [e1] at e; cases e
  | inr p =>
    obtain ⟨cv, s2, ρ2⟩ := p
    rw [e1] at e
    simp only at e
    obtain ⟨lc, kc⟩ := hP a La sc ha m ρ s cv s2 ρ2 (fun p hp => (hl p hp).1) e1
    obtain ⟨-, m1⟩ := hE a La sc ha m ρ s cv s2 ρ2 X hl h0 e1
    have hl2 := scE_u (c' := s2.2.1 + X) hl (by omega) (fun p hp => kc p.1 (ha.2.2.2.2 p hp).2)
    cases e2 : fCa (bTy A D T) (fWh true cv) (O n 1) s2 ρ2 with
    | inl w => rw [e2] at e; cases e
    | inr p =>
      obtain ⟨s3, ρ3⟩ := p
      rw [e2] at e
      simp only at e
      have r3 := fCa_e ((hO n).1 1) e2
      have q3 := fCa_s e2
      have sc3 := scE_c hl2 ((hO n).1 1) e2 (by omega : 0 ≤ s2.2.1 + X)
      cases e3 : fxN A D T B O call f c (fWh true cv).length ρ3 s3 with
      | inl w => rw [e3] at e; cases e
      | inr p =>
        obtain ⟨v1, s4, ρ4⟩ := p
        rw [e3] at e
        simp only at e
        obtain ⟨l1, k4⟩ := hP c Lc _ pc _ ρ3 s3 v1 s4 ρ4 (fun p hp => (sc3 p hp).1) e3
        obtain ⟨-, m4⟩ := hE c Lc _ pc _ ρ3 s3 v1 s4 ρ4 X sc3 (by omega) e3
        have hl4 : scE A D T (fBk (O n 1) ρ2 ρ4) m (s4.2.1 + X) sc := fun p hp => by
          obtain ⟨a1, a2, a3⟩ := hl2 p hp
          have eb : fBk (O n 1) ρ2 ρ4 p.1 = ρ2 p.1 := by
            unfold fBk
            by_cases q : p.1 ∈ O n 1
            · rw [if_pos q]
            · rw [if_neg q, k4 p.1 (hc.2.2.2.2 p hp).2, r3 p.1, if_neg q]
          rw [eb]
          exact ⟨a1, a2, by omega⟩
        cases e4 : fCa (bTy A D T) (fWh false cv) (O n 2) s4 (fBk (O n 1) ρ2 ρ4) with
        | inl w => rw [e4] at e; cases e
        | inr p =>
          obtain ⟨s5, ρ5⟩ := p
          rw [e4] at e
          simp only at e
          have q5 := fCa_s e4
          have sc5 := scE_c hl4 ((hO n).1 2) e4 (by omega : 0 ≤ s4.2.1 + X)
          cases e5 : fxN A D T B O call f d (fWh false cv).length ρ5 s5 with
          | inl w => rw [e5] at e; cases e
          | inr p =>
            obtain ⟨v2, s6, ρ6⟩ := p
            rw [e5] at e
            simp only at e
            obtain ⟨l2, -⟩ := hP d Ld _ pd _ ρ5 s5 v2 s6 ρ6 (fun p hp => (sc5 p hp).1) e5
            obtain ⟨-, m6⟩ := hE d Ld _ pd _ ρ5 s5 v2 s6 ρ6 X sc5 (by omega) e5
            cases e6 : fStp (exF (T n).toNat v1 + exF (T n).toNat v2) s6 with
            | none => rw [e6] at e; cases e
            | some s7 =>
              rw [e6] at e
              simp only [Sum.inr.injEq, Prod.mk.injEq] at e
              obtain ⟨rfl, rfl, -⟩ := e
              obtain ⟨z1, z2, -⟩ := fStp_s e6
              have em := exF_Mg (T n).toNat cv v1 v2 (by rw [l1, fWh_l]) (by rw [l2, fWh_l])
              have p1 := exF_p (T n).toNat v1
              have p2 := exF_p (T n).toNat v2
              rw [em]
              exact ⟨by omega, by omega⟩
theorem fe_each {L : List Int} {sc : List (Int × Int)} {n bd : Int} {tl : List Int} {m : Nat} {X : Int} (hA : A.1 ≤ 200) (hO : okO A B O) (hP : fPu A D T B lev O call j f) (hE : fPx A D T B lev O call j f) (k15 : A.2.1 n = 15) (ea : A.2.2.2.2.1 n = bd :: tl) (hT : T n = T bd + 1) (h : stN A D T B lev j (f + 1) L sc n) {vs : List (List vaF)} {ρ2 : fEv} {s s' : fSt} {v : List vaF} {ρ' : fEv} (hl : scE A D T ρ2 m (s.2.1 + X) sc) (hv : vs.length = (A.2.2.2.2.2 n).length ∧ ∀ l ∈ vs, l.length = m) (hx : ∀ (i : Nat) (x : Int) (v : List vaF), (tl.take (A.2.2.2.2.2 n).length)[i]? = some x → vs[i]? = some v → exF (T x).toNat v ≤ s.2.1 + X) (e : fEbN (fxN A D T B O call f) (bTy A D T) n (O n 0) (O n 1) bd (tl.drop (A.2.2.2.2.2 n).length) m vs ρ2 s = .inr (v, s', ρ')) : exF (T n).toNat v ≤ s'.2.1 + X ∧ s.2.1 ≤ s'.2.1 := by
  obtain ⟨g1, g2, g4, gt⟩ := ea_ts h.1.1 k15 ea
  have nL : n ∈ L := fT_sub h.2.1 _ (by simp)
  have n0 := (stN_w h).2.1
  obtain ⟨v0, hv0⟩ : ∃ v, vs[0]? = some v := ⟨_, List.getElem?_eq_getElem (by omega)⟩
  obtain ⟨x0, hx0⟩ : ∃ x, (tl.take (A.2.2.2.2.2 n).length)[0]? = some x := ⟨_, List.getElem?_eq_getElem (by omega)⟩
  have e0 : vs.getD 0 [] = v0 := by rw [List.getD_eq_getElem?_getD, hv0]; rfl
  have l0 := hv.2 v0 (List.mem_of_getElem? hv0)
  have mX : (m : Int) ≤ s.2.1 + X := by
    have a1 := hx 0 x0 v0 hx0 hv0
    have a2 := exF_n (T x0).toNat v0
    omega
  have lnl : ((vs.getD 0 []).map (fun v => (itF v).length)).length = m := by rw [List.length_map, e0]; exact l0
  obtain ⟨Lb, hb, sb, -⟩ := stN_b0 hA hO h k15 ea (z := bd) (by simp)
  have Tb := (stN_w hb).2.2.1.1
  unfold fEbN at e
  by_cases c : (List.range m).any (fun i : Nat => vs.any (fun l => decide ((l.getD i (nmF 0)) [] ≠ ((vs.getD 0 []).getD i (nmF 0)) []))) = true
  · rw [if_pos c] at e; cases e
  rw [if_neg c] at e
  have hEa := eaE_i.mp c
  clear c
  have rpl := fRp_l lnl
  have egl : ∀ l' ∈ vs, (flF l').length = (fRp m ((vs.getD 0 []).map (fun v => (itF v).length))).length := fun l' hl' => eaE_l hEa hv.2 (by omega) hl'
  generalize hln : (vs.getD 0 []).map (fun v => (itF v).length) = ln at e lnl rpl egl
  have fin : ∀ (ln' : List Nat) (w : List vaF) (c : Int), ln'.length = m → ln'.sum = w.length → exF (T bd).toNat w ≤ c - m → exF (T n).toNat (fCt ln' w) ≤ c := fun ln' w c a1 a2 a3 => by
    rw [hT, show (T bd + 1).toNat = (T bd).toNat + 1 by omega, exF_s, fCt_f ln' w a2, fCt_l, a1]
    omega
  cases e2 : fCa (bTy A D T) (fRp m ln) (O n 0) s ρ2 with
  | inl w => rw [e2] at e; cases e
  | inr p =>
    obtain ⟨s3, ρ3⟩ := p
    rw [e2] at e
    simp only at e
    have q3 := fCa_s e2
    have hc3 := scE_c (X := X - m) hl ((hO n).1 0) e2 (by omega)
    have sc3 : scE A D T (fUs ρ3 (210 + 4 * n) 0 (vs.map flF)) (fRp m ln).length (s3.2.1 + (X - m)) (gsc n T 0 (tl.take (A.2.2.2.2.2 n).length) ++ sc.filter (fun p => decide (p.1 ∈ O n 0))) := fun p hp => by
      rcases List.mem_append.mp hp with q | q
      · obtain ⟨i, u, hu, ep⟩ := gsc_m _ _ _ q
        have hi := lt_of_get hu
        rw [g2] at hi
        obtain ⟨w, hw⟩ : ∃ w, vs[i]? = some w := ⟨_, List.getElem?_eq_getElem (by omega)⟩
        have e1 : p.1 = 210 + 4 * n + ((0 : Nat) : Int) + (i : Int) := by rw [ep]; simp only; omega
        have e2' : p.2 = T u - 1 := by rw [ep]
        have hu' : tl[i]? = some u := by rw [List.getElem?_take_of_lt hi] at hu; exact hu
        have bt := bTy_g (D := D) (T := T) ea hu' ⟨n0.1, by omega⟩ (by omega : i < 4)
        have Tu := ((stN_e hA h k15 ea).1 u (List.mem_of_getElem? hu)).2
        have xw := hx i u w hu hw
        have lw := hv.2 w (List.mem_of_getElem? hw)
        rw [show (T u).toNat = (T u - 1).toNat + 1 by omega, exF_s] at xw
        rw [e2', e1, fUs_at (v := flF w) (by rw [List.getElem?_map, hw]; rfl)]
        refine ⟨egl w (List.mem_of_getElem? hw), ?_, by omega⟩
        rw [← bt]
        congr 1
        omega
      · obtain ⟨a1, a2, a3⟩ := hc3 p q
        have nb := (h.2.2.2.2 p (List.mem_filter.mp q).1).2
        have ng : fUs ρ3 (210 + 4 * n) 0 (vs.map flF) p.1 = ρ3 p.1 := fUs_no (by
          rw [List.length_map, hv.1]
          by_cases q : p.1 < 210 + 4 * n + (0 : Nat)
          · exact Or.inl q
          · right
            refine Decidable.byContradiction (fun q2 => nb (Or.inl (Or.inr ⟨by omega, by omega, ?_⟩)))
            rw [show (p.1 - 210) / 4 = n by omega]; exact nL)
        rw [ng]
        exact ⟨a1, a2, a3⟩
    rcases gt with et | ⟨t, et⟩
    · rw [et] at e
      simp only at e
      cases e3 : fxN A D T B O call f bd (fRp m ln).length (fUs ρ3 (210 + 4 * n) 0 (vs.map flF)) s3 with
      | inl w => rw [e3] at e; cases e
      | inr p =>
        obtain ⟨v1, s4, ρ5⟩ := p
        rw [e3] at e
        simp only [Sum.inr.injEq, Prod.mk.injEq] at e
        obtain ⟨rfl, rfl, -⟩ := e
        obtain ⟨l1, -⟩ := hP bd Lb _ hb _ _ _ _ _ _ (fun p hp => (sc3 p hp).1) e3
        obtain ⟨x1, x2⟩ := hE bd Lb _ hb _ _ _ _ _ _ (X - m) sc3 (by omega) e3
        exact ⟨fin ln v1 _ lnl (by rw [l1, rpl]) (by omega), by omega⟩
    · rw [et] at e
      simp only at e
      obtain ⟨Lt, ht, st, -⟩ := stN_b0 hA hO h k15 ea (z := t) (by rw [et]; simp)
      have hb1 := stN_b1 hO k15 ea (by rw [et]; exact ht.2.1) hb
      cases e3 : fxN A D T B O call f t (fRp m ln).length (fUs ρ3 (210 + 4 * n) 0 (vs.map flF)) s3 with
      | inl w => rw [e3] at e; cases e
      | inr p =>
        obtain ⟨c1, s4, ρ5⟩ := p
        rw [e3] at e
        simp only at e
        obtain ⟨l1, kt⟩ := hP t Lt _ ht _ _ _ _ _ _ (fun p hp => (sc3 p hp).1) e3
        obtain ⟨-, x2⟩ := hE t Lt _ ht _ _ _ _ _ _ (X - m) sc3 (by omega) e3
        have sc4 := scE_u (c' := s4.2.1 + (X - m)) sc3 (by omega) (fun p hp => kt p.1 (ht.2.2.2.2 p hp).2)
        cases e4 : fCa (bTy A D T) (fWh true c1) (O n 1) s4 ρ5 with
        | inl w => rw [e4] at e; cases e
        | inr p =>
          obtain ⟨s5, ρ6⟩ := p
          rw [e4] at e
          simp only at e
          have q5 := fCa_s e4
          have sc5 := scE_c (X := X - m) sc4 ((hO n).1 1) e4 (by omega)
          cases e5 : fStp (m : Int) s5 with
          | none => rw [e5] at e; cases e
          | some s6 =>
            rw [e5] at e
            simp only at e
            obtain ⟨z1, z2, -⟩ := fStp_s e5
            cases e6 : fxN A D T B O call f bd (fWh true c1).length ρ6 s6 with
            | inl w => rw [e6] at e; cases e
            | inr p =>
              obtain ⟨v1, s7, ρ7⟩ := p
              rw [e6] at e
              simp only [Sum.inr.injEq, Prod.mk.injEq] at e
              obtain ⟨rfl, rfl, -⟩ := e
              have sc6 := scE_u (c' := s6.2.1 + (X - m)) sc5 (by omega) (fun p _ => rfl)
              obtain ⟨l2, -⟩ := hP bd Lb _ hb1 _ _ _ _ _ _ (fun p hp => (sc6 p hp).1) e6
              obtain ⟨x3, x4⟩ := hE bd Lb _ hb1 _ _ _ _ _ _ (X - m) sc6 (by omega) e6
              have ls : ln.sum = c1.length := by rw [l1, rpl]
              refine ⟨fin (ctL ln c1) v1 _ (by rw [ctL_l]; exact lnl) (by rw [ctL_s ls, l2, fWh_l]) (by omega), by omega⟩
theorem fe_ok {σ : sg_S} {r : Int} (hX : pgX σ A D T B) (hlv : lvP A D lev 0 r) (hO : okO A B O) (hc : cOk A D T B lev j call) (hcx : cXk A D T B lev j call) : ∀ f : Nat, fPx A D T B lev O call j f
  | 0 => fun n L sc h => h.1.elim
  | f + 1 => fun n L sc h m ρ s v s' ρ' X hl h0 e => by
    have hA := hX.2.2.2.2.1
    have hD := hX.2.1
    have hE := fe_ok hX hlv hO hc hcx f
    have hP : fPu A D T B lev O call j f := fun n L sc h => fx_ok hX hlv hO hc f n L sc h
    obtain ⟨w1, w2, w3, w4, w5, w6⟩ := stN_w h
    have sw : ∀ p ∈ sc, ¬ ow lev j L p.1 := fun p hp => (h.2.2.2.2 p hp).2
    have nL : n ∈ L := fT_sub h.2.1 _ (by simp)
    simp only [fxN] at e
    cases eb : fBg m s with
    | none => rw [eb] at e; cases e
    | some s1 =>
      rw [eb] at e
      simp only at e
      have es : s1.2.1 = s.2.1 := by
        unfold fBg at eb
        cases q : fStp 0 s with
        | none => rw [q] at eb; cases eb
        | some s0 =>
          rw [q] at eb
          obtain ⟨z1, z2, -⟩ := fStp_s q
          cases eb
          simp only; omega
      have hl1 : scE A D T ρ m (s1.2.1 + X) sc := by rw [es]; exact hl
      have sq : ∀ (R : List Int), (∀ x ∈ R, ∃ L', stN A D T B lev j f L' sc x ∧ ∀ y ∈ L', y ∈ L) → ∀ vs s2 ρ2, fSq (fun x => fxN A D T B O call f x m) R ρ s1 = .inr (vs, s2, ρ2) → (vs.length = R.length ∧ (∀ l ∈ vs, l.length = m) ∧ ∀ b, ¬ ow lev j L b → ρ2 b = ρ b) ∧ s1.2.1 ≤ s2.2.1 ∧ ∀ (i : Nat) (x : Int) (v : List vaF), R[i]? = some x → vs[i]? = some v → exF (T x).toNat v ≤ s2.2.1 + X := fun R hR vs s2 ρ2 es' => ⟨fx_sq (fun x L' hx ρ s v s' ρ' => hP x L' sc hx m ρ s v s' ρ') R hR sw ρ s1 vs s2 ρ2 (fun p hp => (hl p hp).1) es', fe_sq hP hE R hR sw ρ s1 vs s2 ρ2 hl1 (by omega) es'⟩
      by_cases k1 : A.2.1 n = 1
      · rw [if_pos k1] at e
        simp only [Sum.inr.injEq, Prod.mk.injEq] at e
        obtain ⟨rfl, rfl, -⟩ := e
        exact ⟨(hl1 _ (w4 k1)).2.2, by omega⟩
      rw [if_neg k1] at e
      by_cases k2 : A.2.1 n = 2
      · rw [if_pos k2] at e
        obtain ⟨a, c, ea⟩ := kid2 (w1.2.2.1 (Or.inl k2))
        rw [ea] at e
        simp only [List.getD_cons_zero, List.getD_cons_succ] at e
        obtain ⟨⟨La, ha, sa⟩, Lc, hc', scs⟩ := stN_l hA h k2 ea
        have e6 : T c = T n := by
          have := w5 (by omega)
          rw [kTy_2 k2, ea] at this
          simpa using this
        cases e1 : fxN A D T B O call f a m ρ s1 with
        | inl w => rw [e1] at e; cases e
        | inr p =>
          obtain ⟨v1, s2, ρ2⟩ := p
          rw [e1] at e
          simp only at e
          obtain ⟨l1, kp⟩ := hP a La sc ha m ρ s1 v1 s2 ρ2 (fun p hp => (hl p hp).1) e1
          obtain ⟨x1, x2⟩ := hE a La sc ha m ρ s1 v1 s2 ρ2 X hl1 (by omega) e1
          have nb : ∀ p ∈ sc, ¬ p.1 = n := fun p hp q => sw p hp (Or.inl (Or.inl ⟨by omega, by rw [q]; exact nL⟩))
          obtain ⟨x3, x4⟩ := hE c Lc _ hc' m _ s2 v s' ρ' X (fun p hp => by
            rcases List.mem_cons.mp hp with q | q
            · rw [q]; simp only [if_true]; exact ⟨l1, (bTy_l ea (by omega)).symm, x1⟩
            · obtain ⟨a1, a2, a3⟩ := hl1 p q
              rw [if_neg (nb p q), kp p.1 (ha.2.2.2.2 p q).2]
              exact ⟨a1, a2, by omega⟩) (by omega) e
          rw [e6] at x3
          exact ⟨x3, by omega⟩
      rw [if_neg k2] at e
      by_cases k3 : A.2.1 n = 3
      · rw [if_pos k3] at e
        have l3 := w1.2.2.2.1 k3
        obtain ⟨a, c, d, ea⟩ : ∃ a c d, A.2.2.2.2.1 n = [a, c, d] := by
          match e : A.2.2.2.2.1 n, l3 with
          | [a, c, d], _ => exact ⟨a, c, d, rfl⟩
        have g := w5 (by omega)
        rw [kTy_3 k3, ea] at g
        obtain ⟨g1, g2, g3⟩ := kIs_in g
        simp only [List.map_cons, List.getD_cons_succ, List.getD_cons_zero, Bool.and_eq_true, decide_eq_true_eq] at g1 g3
        rw [ea] at e
        simp only [List.getD_cons_zero, List.getD_cons_succ] at e
        obtain ⟨x1, x2⟩ := fe_if hA hO hP hE k3 ea g1 (by rw [g1]; exact g3.2) h hl1 (by omega) e
        exact ⟨x1, by omega⟩
      rw [if_neg k3] at e
      by_cases k13 : A.2.1 n = 13
      · rw [if_pos k13] at e
        cases es' : fSq (fun x => fxN A D T B O call f x m) (A.2.2.2.2.1 n) ρ s1 with
        | inl w => rw [es'] at e; cases e
        | inr p =>
          obtain ⟨vs, s2, ρ2⟩ := p
          rw [es'] at e
          simp only at e
          obtain ⟨⟨q1, q2, q3⟩, q4, q5⟩ := sq _ (fun x hx => stN_k h (by omega) (by omega) hx) vs s2 ρ2 es'
          have hD6 : ∀ (d : Nat) (y : aDf), D[d]? = some y → y.2.2.1.length ≤ 6 := fun d y hy => (hD.2.2 d y hy).2.2.2.2.1
          obtain ⟨d, y, L', ed, hy, dj, hst, how, hty, hTy, hsc⟩ := stN_call hX hlv h k13 hD.2.1 hD6
          have k6 := hD6 d y hy
          have klen : (A.2.2.2.2.1 n).length = y.2.2.1.length := by
            have := congrArg List.length hty
            simpa using this
          rw [ed] at e
          obtain ⟨x1, x2⟩ := hcx d y L' hy dj hst m _ s2 v s' ρ' X (fun p hp => by
            obtain ⟨i, u, hu, ep⟩ := hsc p hp
            have hi := lt_of_get hu
            obtain ⟨w, hw⟩ : ∃ w, vs[i]? = some w := ⟨_, List.getElem?_eq_getElem (by omega)⟩
            obtain ⟨x, hx⟩ : ∃ x, (A.2.2.2.2.1 n)[i]? = some x := ⟨_, List.getElem?_eq_getElem (by omega)⟩
            have e1 : T x = u.2.2 := by
              have q := congrArg (fun q => q[i]?) hty
              simp only [List.getElem?_map, hx, hu] at q
              simpa using q
            rw [ep]
            simp only
            rw [show (1100 : Int) + 6 * (d : Int) + (i : Int) = 1100 + 6 * (d : Int) + ((0 : Nat) : Int) + (i : Int) by omega, fUs_at hw]
            refine ⟨q2 w (List.mem_of_getElem? hw), ?_, ?_⟩
            · rw [show (1100 : Int) + 6 * (d : Int) + ((0 : Nat) : Int) + (i : Int) = 1100 + 6 * (d : Int) + (i : Int) by omega]
              exact (bTy_p hy hu (by omega)).symm
            · rw [← e1]; exact q5 i x w hx hw) (by omega) e
          rw [← hTy] at x1
          exact ⟨x1, by omega⟩
      rw [if_neg k13] at e
      by_cases k15 : A.2.1 n = 15
      · rw [if_pos k15] at e
        have g := (w1.2.2.2.2.2.2.1 k15).1
        obtain ⟨bd, tl, ea⟩ : ∃ bd tl, A.2.2.2.2.1 n = bd :: tl := by
          cases e : A.2.2.2.2.1 n with
          | nil => rw [e] at g; simp at g; omega
          | cons bd tl => exact ⟨bd, tl, rfl⟩
        have eg : kGs A n = tl.take (A.2.2.2.2.2 n).length := by unfold kGs; rw [ea]; rfl
        have ed : (A.2.2.2.2.1 n).drop (1 + (A.2.2.2.2.2 n).length) = tl.drop (A.2.2.2.2.2 n).length := by rw [ea, Nat.add_comm]; rfl
        have gg := w5 (by omega)
        rw [kTy_15 k15, ea] at gg
        obtain ⟨y1, y2, y3⟩ := kIs_in gg
        simp only [List.map_cons, List.getD_cons_zero] at y1 y2
        rw [eg, ed] at e
        have ebd : (A.2.2.2.2.1 n).getD 0 0 = bd := by rw [ea]; rfl
        rw [ebd] at e
        cases es' : fSq (fun x => fxN A D T B O call f x m) (tl.take (A.2.2.2.2.2 n).length) ρ s1 with
        | inl w => rw [es'] at e; cases e
        | inr p =>
          obtain ⟨vs, s2, ρ2⟩ := p
          rw [es'] at e
          simp only at e
          obtain ⟨⟨q1, q2, q3⟩, q4, q5⟩ := sq _ (fun x hx => ((stN_e hA h k15 ea).1 x hx).1) vs s2 ρ2 es'
          obtain ⟨x1, x2⟩ := fe_each hA hO hP hE k15 ea y1 h (scE_u (c' := s2.2.1 + X) hl1 (by omega) (fun p hp => q3 p.1 (sw p hp))) ⟨by rw [q1]; exact (ea_ts w1 k15 ea).2.1, q2⟩ q5 e
          exact ⟨x1, by omega⟩
      rw [if_neg k15] at e
      cases es' : fSq (fun x => fxN A D T B O call f x m) (A.2.2.2.2.1 n) ρ s1 with
      | inl w => rw [es'] at e; cases e
      | inr p =>
        obtain ⟨vs, s2, ρ2⟩ := p
        rw [es'] at e
        simp only at e
        obtain ⟨⟨q1, q2, q3⟩, q4, q5⟩ := sq _ (fun x hx => stN_k h k2 k15 hx) vs s2 ρ2 es'
        unfold fWk at e
        cases ef : fStp (exF (T n).toNat ((fOl (A.2.1 n) (T n) (sg_n (A.2.2.2.1 n)) vs m).map fOv)) s2 with
        | none => rw [ef] at e; cases e
        | some s3 =>
          rw [ef] at e
          simp only at e
          obtain ⟨z1, z2, -⟩ := fStp_s ef
          by_cases c0 : fOe (fOl (A.2.1 n) (T n) (sg_n (A.2.2.2.1 n)) vs m) = 0
          · rw [if_pos c0] at e
            simp only [Sum.inr.injEq, Prod.mk.injEq] at e
            obtain ⟨rfl, rfl, -⟩ := e
            have := exF_p (T n).toNat ((fOl (A.2.1 n) (T n) (sg_n (A.2.2.2.1 n)) vs m).map fOv)
            exact ⟨by omega, by omega⟩
          · rw [if_neg c0] at e; cases e
theorem cXk_all {σ : sg_S} {r : Int} (hX : pgX σ A D T B) (hlv : lvP A D lev 0 r) (hO : okO A B O) : ∀ j : Nat, cXk A D T B lev j (fxC A D T B O j) := by
  have key : ∀ (k : Nat) (j : Nat), j ≤ k → cXk A D T B lev j (fxC A D T B O j) := by
    intro k
    induction k with
    | zero =>
      intro j hj d y L' hy dj
      omega
    | succ k ih =>
      intro j hj d y L' hy dj hst m ρ s v s' ρ' X hl h0 e
      rw [fxC_e A D T B O j d dj] at e
      have ey : (D.getD d (0, 0, [], 0)).2.2.2 = y.2.2.2 := by rw [List.getD_eq_getElem?_getD, hy]; rfl
      rw [ey] at e
      exact fe_ok hX hlv hO (fxC_ok hX hlv hO d) (ih d (by omega)) 201 y.2.2.2 L' _ hst m ρ s v s' ρ' X hl h0 e
  exact fun j => key j j (Nat.le_refl _)
end BNT
/-! flat() of the reference, exactly. -/
noncomputable def gaL (A : aT) (B c : Int → Int) (L0 : List Int) (but : Int) : List Int → List Int
  | [] => []
  | y :: r => @ite _ (A.2.1 y = 1 ∧ ¬ insL L0 (B y) ∧ ¬ isG but (B y)) (Classical.propDecidable _) (insO c (B y) (gaL A B c L0 but r)) (gaL A B c L0 but r)
section BOS
variable {A : aT} {B c : Int → Int} {L0 : List Int} {but : Int}
theorem gaL_n : ∀ L : List Int, (gaL A B c L0 but L).Nodup
  | [] => List.nodup_nil
  | y :: r => by
    simp only [gaL]
    split
    · exact insO_n (gaL_n r)
    · exact gaL_n r
theorem gaL_m : ∀ (L : List Int) (z : Int), z ∈ gaL A B c L0 but L ↔ ∃ y ∈ L, A.2.1 y = 1 ∧ B y = z ∧ ¬ insL L0 z ∧ ¬ isG but z
  | [], z => ⟨fun h => (by cases h), fun ⟨y, hy, _⟩ => (by cases hy)⟩
  | y :: r, z => by
    have ih := gaL_m r z
    simp only [gaL]
    by_cases h : A.2.1 y = 1 ∧ ¬ insL L0 (B y) ∧ ¬ isG but (B y)
    · rw [if_pos h, insO_m]
      refine ⟨fun w => ?_, fun ⟨u, u1, u2⟩ => ?_⟩
      · rcases w with w | w
        · exact ⟨y, by simp, h.1, w.symm, by rw [w]; exact h.2.1, by rw [w]; exact h.2.2⟩
        · obtain ⟨u, u1, u2⟩ := ih.mp w
          exact ⟨u, by simp [u1], u2⟩
      · rcases List.mem_cons.mp u1 with e | e
        · left; rw [← u2.2.1, e]
        · exact Or.inr (ih.mpr ⟨u, e, u2⟩)
    · rw [if_neg h]
      refine ⟨fun w => ?_, fun ⟨u, u1, u2⟩ => ?_⟩
      · obtain ⟨u, u1, u2⟩ := ih.mp w
        exact ⟨u, by simp [u1], u2⟩
      · rcases List.mem_cons.mp u1 with e | e
        · rw [e] at u2
          exact absurd ⟨u2.1, by rw [u2.2.1]; exact u2.2.2.1, by rw [u2.2.1]; exact u2.2.2.2⟩ h
        · exact ih.mpr ⟨u, e, u2⟩
theorem O_ex (A : aT) (B c : Int → Int) : ∃ O, okO A B O ∧ gaH A B c O := by
  classical
  obtain ⟨lT, lT_e⟩ : ∃ lT : List Int → List Int, ∀ R L, fT A R L → lT R = L := ⟨fun R => if h : ∃ L, fT A R L then Classical.choose h else [], fun R L hL => by
    have ex : ∃ L, fT A R L := ⟨L, hL⟩
    simp only [dif_pos ex]
    exact fT_det (Classical.choose_spec ex) hL⟩
  obtain ⟨gX, gX_n, gX_m, gX_e⟩ : ∃ gX : List Int → Int → List Int, (∀ L but, (gX L but).Nodup) ∧ (∀ L but z, z ∈ gX L but ↔ ∃ y ∈ L, A.2.1 y = 1 ∧ B y = z ∧ ¬ insL L z ∧ ¬ isG but z) ∧ ∀ L but, (∀ y ∈ L, 0 ≤ y ∧ y < A.1) → gX L but = gaO A B c L but A.1.toNat := by
    refine ⟨fun L but => if (∀ y ∈ L, 0 ≤ y ∧ y < A.1) then gaO A B c L but A.1.toNat else gaL A B c L but L, fun L but => ?_, fun L but z => ?_, fun L but h => if_pos h⟩
    · simp only
      split
      · exact gaO_n _
      · exact gaL_n _
    · simp only
      split
      · rename_i hr
        rw [gaO_m]
        refine ⟨fun ⟨y, y1, y2, y3⟩ => ⟨y, y2, y3⟩, fun ⟨y, y1, y2⟩ => ⟨y, ⟨(hr y y1).1, by have := hr y y1; omega⟩, y1, y2⟩⟩
      · exact gaL_m L z
  have ng : ∀ z, ¬ isG (-1) z := fun z h => by have := h.1; omega
  refine ⟨fun n st => if A.2.1 n = 3 then gX (lT [(A.2.2.2.2.1 n).getD st 0]) (-1) else if st = 0 then gX (lT [(A.2.2.2.2.1 n).headD 0] ++ lT ((A.2.2.2.2.1 n).tail.drop (A.2.2.2.2.2 n).length)) n else gX (lT [(A.2.2.2.2.1 n).headD 0]) (-1), fun n => ⟨fun st => ?_, fun k3 st x L hst hx hL z => ?_, fun k15 bd tl Lb Lt ea hb ht => ⟨fun z => ?_, fun z => ?_⟩⟩, fun n => ⟨fun k3 st x L hst hx hL hr => ?_, fun k15 bd tl Lb Lt ea hb ht hr => ⟨?_, ?_⟩⟩⟩
  · simp only
    split
    · exact gX_n _ _
    · split
      · exact gX_n _ _
      · exact gX_n _ _
  · have e : (A.2.2.2.2.1 n).getD st 0 = x := by rw [List.getD_eq_getElem?_getD, hx]; rfl
    simp only
    rw [if_pos k3, e, lT_e _ L hL, gX_m]
    exact ⟨fun ⟨y, y1, y2, y3, y4, _⟩ => ⟨y, y1, y2, y3, y4⟩, fun ⟨y, y1, y2, y3, y4⟩ => ⟨y, y1, y2, y3, y4, ng z⟩⟩
  · simp only
    rw [if_neg (by omega), if_pos True.intro, ea]
    simp only [List.headD_cons, List.tail_cons]
    rw [lT_e _ Lb hb, lT_e _ Lt ht, gX_m]
  · simp only
    rw [if_neg (by omega), if_neg (by decide), ea]
    simp only [List.headD_cons]
    rw [lT_e _ Lb hb, gX_m]
    exact ⟨fun ⟨y, y1, y2, y3, y4, _⟩ => ⟨y, y1, y2, y3, y4⟩, fun ⟨y, y1, y2, y3, y4⟩ => ⟨y, y1, y2, y3, y4, ng z⟩⟩
  · have e : (A.2.2.2.2.1 n).getD st 0 = x := by rw [List.getD_eq_getElem?_getD, hx]; rfl
    simp only
    rw [if_pos k3, e, lT_e _ L hL, gX_e L (-1) hr]
  · simp only
    rw [if_neg (by omega), if_pos True.intro, ea]
    simp only [List.headD_cons, List.tail_cons]
    rw [lT_e _ Lb hb, lT_e _ Lt ht, gX_e _ n hr]
  · simp only
    rw [if_neg (by omega), if_neg (by decide), ea]
    simp only [List.headD_cons]
    rw [lT_e _ Lb hb, gX_e Lb (-1) (fun y hy => hr y (by simp [hy]))]
end BOS
/-- the FINDING of a flat run, or 0; what it told -/
def fRe : fRs → Int
  | .inl (e, _) => e
  | .inr _ => 0
def fRt : fRs → fSt
  | .inl (_, s) => s
  | .inr (_, s, _) => s
/-- a flat run of the whole PROGRAM -/
def fxA (A : aT) (D : List aDf) (T B : Int → Int) (O : Int → Nat → List Int) (r : Int) : fRs := fxN A D T B O (fxC A D T B O D.length) 201 r 1 (fun _ => []) (0, 0, 0)
section BOT
variable {A : aT} {D : List aDf} {T B c : Int → Int} {O : Int → Nat → List Int} {r : Int}
theorem xq_flat {σ : sg_S} {Q : Int → sg_S → Prop} (hX : pgX σ A D T B) (hr : sg_g σ 88 27 = r) (hty : tyN A (kDl D []) T B 201 [] r) (hfr : frA A (aRt D ++ [r])) (hO : okO A B O) (hG : gaH A B c O) (hcb : ∀ y, sg_g σ 116 y = c y) (h28 : ¬ sg_g σ 88 28 = 0) (h82 : 0 ≤ sg_g σ 88 82 ∧ sg_g σ 88 82 < 20) (k : ∀ σ', sg_F [119, 120, 121, 126, 127, 128, 133, 134, 135, 136, 137, 138, 139, 140, 141, 142, 143, 144, 145, 146, 147, 148, 149, 150, 151, 1088, 47088, 50088, 63088, 71088, 74088, 78088, 79088, 82088, 83088, 84088, 85088, 86088, 87088, 88088, 92088, 94088, 100088, 103088, 104088] σ σ' → sg_g σ' 88 82 = sg_g σ 88 82 + 1 → (0 ≤ sg_g σ' 88 77 ∧ sg_g σ' 88 77 ≤ 80000) → sg_g σ' 88 83 = fRe (fxA A D T B O r) → fcX σ' (fRt (fxA A D T B O r)) → Q (fRe (fxA A D T B O r)) σ') : V_flat σ Q := by
  unfold V_flat
  intro σ1 e1
  have f1 : sg_F [1088] σ σ1 := by rw [e1]; exact sg_F_w (sg_F_r _ _) rfl _
  refine ⟨fun c28 => ⟨fun c82 => ?_, fun z => by omega⟩, fun z => absurd z h28⟩
  obtain ⟨lev, hlv⟩ := lvP_ex hfr
  obtain ⟨hP, hD, eT, eB, hA, hdt⟩ := id hX
  obtain ⟨L0, g1, g2, g3⟩ := hlv.2
  have hst : stN A D T B lev D.length 201 L0 [] r := ⟨by rw [List.take_of_length_le (Nat.le_refl _)]; exact hty, g1, g2, fun y hy => ⟨(g3 y hy).1, by have := (g3 y hy).2; omega⟩, fun p hp => (by cases hp)⟩
  obtain ⟨w1, w2, w3, -⟩ := stN_w hst
  refine ⟨⟨by omega, by omega⟩, fun σ7 e7 σ10 e10 σ13 e13 σ16 e16 σ19 e19 σ22 e22 σ25 e25 σ28 e28 σ31 e31 σ34 e34 σ37 e37 => ?_⟩
  have F37 : sg_F [1088, 63088, 71088, 74088, 82088, 83088, 85088, 86088, 87088, 88088, 92088, 100088] σ σ37 := by
    rw [e37, e34, e31, e28, e25, e22, e19, e16, e13, e10, e7]
    exact sg_F_w (sg_F_w (sg_F_w (sg_F_w (sg_F_w (sg_F_w (sg_F_w (sg_F_w (sg_F_w (sg_F_w (sg_F_w (sg_F_m f1 rfl) rfl _) rfl _) rfl _) rfl _) rfl _) rfl _) rfl _) rfl _) rfl _) rfl _) rfl _
  have z : sg_R 0 := ⟨by decide, by decide⟩
  have c73 : sg_g σ37 88 73 = 0 := by rw [e37, sg_gw_e _ _ _ _ z]
  have c99 : sg_g σ37 88 99 = 0 := by rw [e37, sg_gw_k _ _ _ _ _ _ (by decide), e34, sg_gw_e _ _ _ _ z]
  have c70 : sg_g σ37 88 70 = 0 := by rw [e37, sg_gw_k _ _ _ _ _ _ (by decide), e34, sg_gw_k _ _ _ _ _ _ (by decide), e31, sg_gw_e _ _ _ _ z]
  have c62 : sg_g σ37 88 62 = 0 := by rw [e37, sg_gw_k _ _ _ _ _ _ (by decide), e34, sg_gw_k _ _ _ _ _ _ (by decide), e31, sg_gw_k _ _ _ _ _ _ (by decide), e28, sg_gw_e _ _ _ _ z]
  have c91 : sg_g σ37 88 91 = 0 := by rw [e37, sg_gw_k _ _ _ _ _ _ (by decide), e34, sg_gw_k _ _ _ _ _ _ (by decide), e31, sg_gw_k _ _ _ _ _ _ (by decide), e28, sg_gw_k _ _ _ _ _ _ (by decide), e25, sg_gw_e _ _ _ _ z]
  have c87 : sg_g σ37 88 87 = 0 := by rw [e37, sg_gw_k _ _ _ _ _ _ (by decide), e34, sg_gw_k _ _ _ _ _ _ (by decide), e31, sg_gw_k _ _ _ _ _ _ (by decide), e28, sg_gw_k _ _ _ _ _ _ (by decide), e25, sg_gw_k _ _ _ _ _ _ (by decide), e22, sg_gw_e _ _ _ _ z]
  have c86 : sg_g σ37 88 86 = 0 := by rw [e37, sg_gw_k _ _ _ _ _ _ (by decide), e34, sg_gw_k _ _ _ _ _ _ (by decide), e31, sg_gw_k _ _ _ _ _ _ (by decide), e28, sg_gw_k _ _ _ _ _ _ (by decide), e25, sg_gw_k _ _ _ _ _ _ (by decide), e22, sg_gw_k _ _ _ _ _ _ (by decide), e19, sg_gw_e _ _ _ _ z]
  have c85 : sg_g σ37 88 85 = 0 := by rw [e37, sg_gw_k _ _ _ _ _ _ (by decide), e34, sg_gw_k _ _ _ _ _ _ (by decide), e31, sg_gw_k _ _ _ _ _ _ (by decide), e28, sg_gw_k _ _ _ _ _ _ (by decide), e25, sg_gw_k _ _ _ _ _ _ (by decide), e22, sg_gw_k _ _ _ _ _ _ (by decide), e19, sg_gw_k _ _ _ _ _ _ (by decide), e16, sg_gw_e _ _ _ _ z]
  have c84 : sg_g σ37 88 84 = 0 := by rw [e37, sg_gw_k _ _ _ _ _ _ (by decide), e34, sg_gw_k _ _ _ _ _ _ (by decide), e31, sg_gw_k _ _ _ _ _ _ (by decide), e28, sg_gw_k _ _ _ _ _ _ (by decide), e25, sg_gw_k _ _ _ _ _ _ (by decide), e22, sg_gw_k _ _ _ _ _ _ (by decide), e19, sg_gw_k _ _ _ _ _ _ (by decide), e16, sg_gw_k _ _ _ _ _ _ (by decide), e13, sg_gw_e _ _ _ _ z]
  have c82' : sg_g σ37 88 82 = sg_g σ 88 82 + 1 := by rw [e37, sg_gw_k _ _ _ _ _ _ (by decide), e34, sg_gw_k _ _ _ _ _ _ (by decide), e31, sg_gw_k _ _ _ _ _ _ (by decide), e28, sg_gw_k _ _ _ _ _ _ (by decide), e25, sg_gw_k _ _ _ _ _ _ (by decide), e22, sg_gw_k _ _ _ _ _ _ (by decide), e19, sg_gw_k _ _ _ _ _ _ (by decide), e16, sg_gw_k _ _ _ _ _ _ (by decide), e13, sg_gw_k _ _ _ _ _ _ (by decide), e10, sg_gw_k _ _ _ _ _ _ (by decide), e7, sg_gw_e _ _ _ _ ⟨by omega, by omega⟩]
  have N37 : fNw σ37 := ⟨⟨⟨by omega, by omega⟩, ⟨by omega, by omega⟩, ⟨by omega, by omega⟩, ⟨by omega, by omega, by omega⟩, by omega, by omega⟩, fun i a b => by omega, by omega, by omega, by omega⟩
  have hX37 : pgX σ37 A D T B := pgX_F F37 rfl hX
  have S37 : fSw σ37 σ37 0 0 0 (0, 0, 0) := ⟨sg_F_r _ _, c73, ⟨c62, c70, c99⟩, ⟨c84, c85, c86, ⟨by decide, by decide⟩, by decide, by decide⟩, N37⟩
  have hcb37 : ∀ y, sg_g σ37 116 y = c y := fun y => by rw [sg_F_ga F37 rfl]; exact hcb y
  obtain ⟨X, hXd⟩ : ∃ X : sg_S → Prop, X = fun σ' => sg_F flL σ37 σ' ∧ sg_g σ' 88 73 = fRe (fxA A D T B O r) ∧ fcX σ' (fRt (fxA A D T B O r)) ∧ (sg_g σ' 88 73 = 0 → (sg_g σ' 88 91 ≤ 60000 ∧ sg_g σ' 88 87 ≤ 30000) ∧ fLx σ' (T r).toNat 1 6000 (sg_g σ' 133 0)) := ⟨_, rfl⟩
  have hC := cFr_all (X := X) hX37 hlv hO hG hcb37 D.length
  have hc := fxC_ok hX37 hlv hO D.length
  have hcx := cXk_all hX37 hlv hO D.length
  rw [hr]
  refine gfN_all (X := X) hX37 hlv hO hG hcb37 hC hc 201 r L0 [] hst σ37 4000 1 (fun _ => []) 0 0 0 (0, 0, 0) S37 (by decide) (fun p hp => (by cases hp)) (by decide) ?_ _ (fun σ41 R41 f41 => ?_)
  · have pk := fx_ok hX37 hlv hO hc 201 r L0 [] hst 1 (fun _ => []) (0, 0, 0)
    have pe := fe_ok hX37 hlv hO hc hcx 201 r L0 [] hst 1 (fun _ => []) (0, 0, 0)
    have hXd' := hXd
    unfold fxA at hXd'
    generalize fxN A D T B O (fxC A D T B O D.length) 201 r 1 (fun _ => []) (0, 0, 0) = res at hXd' pk pe
    match res, hXd', pk, pe with
    | .inl (e, s'), hXd', _, _ =>
      intro σ' y1 y2 y3 y4
      rw [hXd']
      exact ⟨y1, y2, y4, fun w => absurd (y2.symm.trans w) y3⟩
    | .inr (v, s', ρ'), hXd', pk, pe =>
      intro σ' m' S' K' hv hm'
      obtain ⟨a1, a2, ⟨a3, a4, a5⟩, c', ⟨⟨i1, i2, i3, i4, i5⟩, -⟩⟩ := S'
      refine rf_e (by omega) ?_
      rw [hXd']
      refine ⟨a1, a2, c', fun _ => ⟨⟨by omega, by omega⟩, ?_⟩⟩
      obtain ⟨R, hR⟩ := hv
      obtain ⟨pl, -⟩ := pk v s' ρ' (fun p hp => (by cases hp)) rfl
      obtain ⟨px, -⟩ := pe v s' ρ' 0 (fun p hp => (by cases hp)) (by decide) rfl
      have c5 := c'.2.2.2.2.2
      refine ⟨R, hR.1, hR.2.1, ?_, ?_⟩
      · rw [fX_n hR, pl]; rfl
      · rw [eX_F hR]; omega
  · refine ⟨fun n σ46 => Rf X n σ46, X, ⟨4000, R41⟩, fun n σ46 f46 R46 => ?_, fun σ46 f46 hX46 σ59 e59 => ?_⟩
    · cases n with
      | zero => exact ⟨fun z => R46.1 z, fun z => ⟨fun w => R46.2.1 w, fun w => (R46.2.2 z w).elim⟩⟩
      | succ n => exact ⟨fun z => R46.1 z, fun z => ⟨fun w => R46.2.1 w, fun w => R46.2.2 z w _ (fun σ' hr' => ⟨n, Nat.lt_succ_self n, hr'⟩)⟩⟩
    · rw [hXd] at hX46
      obtain ⟨x1, x2, x3, x4⟩ := hX46
      have F46 : sg_F [119, 120, 121, 126, 127, 128, 133, 134, 135, 139, 140, 141, 142, 143, 144, 145, 146, 147, 148, 149, 150, 1088, 47088, 50088, 63088, 71088, 74088, 82088, 83088, 85088, 86088, 87088, 88088, 92088, 94088, 100088, 103088, 104088] σ σ46 := sg_F_t (sg_F_m F37 rfl) (sg_F_m x1 rfl)
      have f59 : sg_F [84088] σ46 σ59 := by rw [e59]; exact sg_F_w (sg_F_r _ _) rfl _
      have F59 : sg_F [119, 120, 121, 126, 127, 128, 133, 134, 135, 139, 140, 141, 142, 143, 144, 145, 146, 147, 148, 149, 150, 1088, 47088, 50088, 63088, 71088, 74088, 82088, 83088, 84088, 85088, 86088, 87088, 88088, 92088, 94088, 100088, 103088, 104088] σ σ59 := sg_F_t (sg_F_m F46 rfl) (sg_F_m f59 rfl)
      have c83 : sg_g σ59 88 83 = sg_g σ46 88 73 := by rw [e59, sg_gw_e _ _ _ _ (sg_Rg _ _ _)]
      have b82 : sg_g σ59 88 82 = sg_g σ 88 82 + 1 := by rw [sg_F_g f59 (by rfl), sg_F_g x1 (by rfl)]; exact c82'
      have fin : ∀ σ63, (0 ≤ sg_g σ63 88 77 ∧ sg_g σ63 88 77 ≤ 80000) → sg_F [136, 137, 138, 151, 78088, 79088] σ59 σ63 → Q (sg_g σ46 88 73) σ63 := fun σ63 h f => by
        rw [x2]
        exact k σ63 (sg_F_t (sg_F_m F59 rfl) (sg_F_m f rfl)) (by rw [sg_F_g f (by rfl)]; exact b82) h (by rw [sg_F_g f (by rfl), c83]; exact x2) (fcX_F f rfl (fcX_F f59 rfl x3))
      by_cases h0 : sg_g σ46 88 73 = 0
      · obtain ⟨⟨q1, q2⟩, hv⟩ := x4 h0
        have e27 : sg_g σ59 88 27 = r := by rw [sg_F_g F59 (by rfl)]; exact hr
        have g91 : sg_g σ59 88 91 = sg_g σ46 88 91 := sg_F_g f59 (by rfl)
        have g87 : sg_g σ59 88 87 = sg_g σ46 88 87 := sg_F_g f59 (by rfl)
        have w31 := w3.1
        have w32 := w3.2
        refine m_showF (K := (T r).toNat) (by rw [c83]; exact h0) (by rw [e27]; omega) ?_ (by omega) ⟨by omega, by omega⟩ ?_ (fun σ63 a b _ => fin σ63 a b)
        · rw [e27, sg_F_ga (a := 101) F59 rfl, eT]; omega
        · rw [sg_F_ga (a := 133) f59 rfl]
          exact fLx_up (fEx_F f59 rfl) (by omega) hv
      · exact m_showE (by rw [c83]; exact h0) (fun σ63 a b _ => fin σ63 a b)
end BOT
