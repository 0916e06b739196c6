/-! EXTENTS of what is worked out: no more than CELLS are told. -/
theorem exF_s (d : Nat) (l : List vaF) : exF (d + 1) l = (l.length : Int) + exF d (flF l) := rfl
theorem exF_p (d : Nat) (l : List vaF) : 0 ≤ exF d l := by
  have := exF_n d l
  omega
theorem fCa_x {ty : Int → Int} {ks : List Nat} : ∀ {P : List Int} {s s' : fSt} {ρ ρ' : fEv}, P.Nodup → fCa ty ks P s ρ = .inr (s', ρ') → ∀ b ∈ P, s.2.1 + exF (ty b).toNat (fPk (ρ b) ks) ≤ s'.2.1
  | [], s, s', ρ, ρ', _, h, b, hb => by cases hb
  | y :: r, s, s', ρ, ρ', hn, h, b, hb => by
    have nd := List.nodup_cons.mp hn
    simp only [fCa] at h
    cases hs : fStp (exF (ty y).toNat (fPk (ρ y) ks)) s with
    | none => rw [hs] at h; cases h
    | some s1 =>
      rw [hs] at h
      obtain ⟨z1, z2, z3, -⟩ := fStp_s hs
      have q := fCa_s h
      rcases List.mem_cons.mp hb with e | e
      · rw [e]; omega
      · have ih := fCa_x nd.2 h b e
        have ny : ¬ b = y := fun q => nd.1 (by rw [← q]; exact e)
        simp only [if_neg ny] at ih
        have := exF_p (ty y).toNat (fPk (ρ y) ks)
        omega
section BNS
variable (A : aT) (D : List aDf) (T : Int → Int)
def scE (ρ : fEv) (m : Nat) (c : Int) (sc : List (Int × Int)) : Prop := ∀ p ∈ sc, (ρ p.1).length = m ∧ p.2 = bTy A D T p.1 ∧ exF p.2.toNat (ρ p.1) ≤ c
variable (B : Int → Int) (lev : Int → Nat)
/-- DEFS below j keep to their CELLS -/
def cXk (j : Nat) (call : Int → Nat → fEv → fSt → fRs) : Prop := ∀ (d : Nat) (y : aDf) (L' : List Int), D[d]? = some y → d < j → stN A D T B lev d 201 L' (scZ (kPe y) (kPb d 0 y.2.2.1 [])) y.2.2.2 → ∀ (m : Nat) ρ s v s' ρ' (X : Int), scE A D T ρ m (s.2.1 + X) (scZ (kPe y) (kPb d 0 y.2.2.1 [])) → 0 ≤ s.2.1 + X → call (d : Int) m ρ s = .inr (v, s', ρ') → exF (T y.2.2.2).toNat v ≤ s'.2.1 + X ∧ s.2.1 ≤ s'.2.1
/-- a node keeps to its CELLS -/
def fPx (O : Int → Nat → List Int) (call : Int → Nat → fEv → fSt → fRs) (j f : Nat) : Prop := ∀ (n : Int) (L : List Int) (sc : List (Int × Int)), stN A D T B lev j f L sc n → ∀ (m : Nat) ρ s v s' ρ' (X : Int), scE A D T ρ m (s.2.1 + X) sc → 0 ≤ s.2.1 + X → fxN A D T B O call f n m ρ s = .inr (v, s', ρ') → exF (T n).toNat v ≤ s'.2.1 + X ∧ s.2.1 ≤ s'.2.1
end BNS
section BNT
variable {A : aT} {D : List aDf} {T B : Int → Int} {lev : Int → Nat} {O : Int → Nat → List Int} {call : Int → Nat → fEv → fSt → fRs} {j f : Nat}
theorem scE_u {ρ ρ' : fEv} {m : Nat} {c c' : Int} {sc : List (Int × Int)} (h : scE A D T ρ m c sc) (hc : c ≤ c') (hk : ∀ p ∈ sc, ρ' p.1 = ρ p.1) : scE A D T ρ' m c' sc := fun p hp => by
  obtain ⟨a, b, d⟩ := h p hp
  rw [hk p hp]
  exact ⟨a, b, by omega⟩
theorem scE_c {ρ ρ' : fEv} {m : Nat} {c : Int} {P : List Int} {kn : List Nat} {s s' : fSt} {sc : List (Int × Int)} (h : scE A D T ρ m c sc) (hn : P.Nodup) (e : fCa (bTy A D T) kn P s ρ = .inr (s', ρ')) {X : Int} (hX : 0 ≤ s.2.1 + X) : scE A D T ρ' kn.length (s'.2.1 + X) (sc.filter (fun p => decide (p.1 ∈ P))) := fun p hp => by
  obtain ⟨p1, p2⟩ := List.mem_filter.mp hp
  rw [decide_eq_true_eq] at p2
  obtain ⟨a, b, d⟩ := h p p1
  have er := fCa_e hn e p.1
  rw [if_pos p2] at er
  have q := fCa_x hn e p.1 p2
  rw [er, fPk_l]
  refine ⟨rfl, b, ?_⟩
  rw [b]; omega
theorem fe_sq {m : Nat} {L : List Int} {sc : List (Int × Int)} {X : Int} (hP : fPu A D T B lev O call j f) (hE : fPx A D T B lev O call j f) : ∀ (R : List Int), (∀ x ∈ R, ∃ L', stN A D T B lev j f L' sc x ∧ ∀ y ∈ L', y ∈ L) → (∀ p ∈ sc, ¬ ow lev j L p.1) → ∀ ρ s vs s' ρ', scE A D T ρ m (s.2.1 + X) sc → 0 ≤ s.2.1 + X → fSq (fun x => fxN A D T B O call f x m) R ρ s = .inr (vs, s', ρ') → s.2.1 ≤ s'.2.1 ∧ ∀ (i : Nat) (x : Int) (v : List vaF), R[i]? = some x → vs[i]? = some v → exF (T x).toNat v ≤ s'.2.1 + X
  | [], hR, hs, ρ, s, vs, s', ρ', hl, h0, h => by
    simp only [fSq, Sum.inr.injEq, Prod.mk.injEq] at h
    obtain ⟨-, rfl, -⟩ := h
    exact ⟨Int.le_refl _, fun i x v hx => by simp at hx⟩
  | x :: R, hR, hs, ρ, s, vs, s', ρ', hl, h0, h => by
    simp only [fSq] at h
    cases e1 : fxN A D T B O call f x m ρ s with
    | inl e => rw [e1] at h; cases h
    | inr p =>
      obtain ⟨v, s1, ρ1⟩ := p
      rw [e1] at h
      simp only at h
      cases e2 : fSq (fun x => fxN A D T B O call f x m) R ρ1 s1 with
      | inl e => rw [e2] at h; cases h
      | inr p2 =>
        obtain ⟨vs1, s2, ρ2⟩ := p2
        rw [e2] at h
        simp only [Sum.inr.injEq, Prod.mk.injEq] at h
        obtain ⟨rfl, rfl, rfl⟩ := h
        obtain ⟨L', hx, sub⟩ := hR x (by simp)
        obtain ⟨lv, kv⟩ := hP x L' sc hx m ρ s v s1 ρ1 (fun p hp => (hl p hp).1) e1
        obtain ⟨x1, x2⟩ := hE x L' sc hx m ρ s v s1 ρ1 X hl h0 e1
        obtain ⟨a1, a2⟩ := fe_sq (X := X) hP hE R (fun y hy => hR y (by simp [hy])) hs ρ1 s1 _ _ _ (scE_u hl (by omega) (fun p hp => kv p.1 (hx.2.2.2.2 p hp).2)) (by omega) e2
        refine ⟨by omega, fun i y w hy hw => ?_⟩
        cases i with
        | zero =>
          simp only [List.getElem?_cons_zero, Option.some.injEq] at hy hw
          subst hy hw
          omega
        | succ i =>
          simp only [List.getElem?_cons_succ] at hy hw
          exact a2 i y w hy hw
theorem fe_if {L : List Int} {sc : List (Int × Int)} {n a c d : Int} {m : Nat} {X : Int} (hA : A.1 ≤ 200) (hO : okO A B O) (hP : fPu A D T B lev O call j f) (hE : fPx A D T B lev O call j f) (k3 : A.2.1 n = 3) (hk : A.2.2.2.2.1 n = [a, c, d]) (t1 : T n = T c) (t2 : T n = T d) (h : stN A D T B lev j (f + 1) L sc n) {ρ : fEv} {s s' : fSt} {v : List vaF} {ρ' : fEv} (hl : scE A D T ρ m (s.2.1 + X) sc) (h0 : 0 ≤ s.2.1 + X) (e : fIfN (fxN A D T B O call f) (bTy A D T) (T n) (O n 1) (O n 2) a c d m ρ s = .inr (v, s', ρ')) : exF (T n).toNat v ≤ s'.2.1 + X ∧ s.2.1 ≤ s'.2.1 := by
  obtain ⟨La, ha, sa⟩ := stN_k h (by omega) (by omega) (z := a) (by rw [hk]; simp)
  obtain ⟨Lc, hc, sc1⟩ := stN_k h (by omega) (by omega) (z := c) (by rw [hk]; simp)
  obtain ⟨Ld, hd, sd⟩ := stN_k h (by omega) (by omega) (z := d) (by rw [hk]; simp)
  obtain ⟨pc, -⟩ := stN_p (L := L) (st := 1) hA hO k3 (Or.inl rfl) (by rw [hk]; rfl) hc
  obtain ⟨pd, -⟩ := stN_p (L := L) (st := 2) hA hO k3 (Or.inr rfl) (by rw [hk]; rfl) hd
  unfold fIfN at e
  cases e1 : fxN A D T B O call f a m ρ s with
  | inl w => rw [e1] at e; cases e
  | inr p =>
    obtain ⟨cv, s2, ρ2⟩ := p
    rw [e1] at e
    simp only at e
    obtain ⟨lc, kc⟩ := hP a La sc ha m ρ s cv s2 ρ2 (fun p hp => (hl p hp).1) e1
    obtain ⟨-, m1⟩ := hE a La sc ha m ρ s cv s2 ρ2 X hl h0 e1
    have hl2 := scE_u (c' := s2.2.1 + X) hl (by omega) (fun p hp => kc p.1 (ha.2.2.2.2 p hp).2)
    cases e2 : fCa (bTy A D T) (fWh true cv) (O n 1) s2 ρ2 with
    | inl w => rw [e2] at e; cases e
    | inr p =>
      obtain ⟨s3, ρ3⟩ := p
      rw [e2] at e
      simp only at e
      have r3 := fCa_e ((hO n).1 1) e2
      have q3 := fCa_s e2
      have sc3 := scE_c hl2 ((hO n).1 1) e2 (by omega : 0 ≤ s2.2.1 + X)
      cases e3 : fxN A D T B O call f c (fWh true cv).length ρ3 s3 with
      | inl w => rw [e3] at e; cases e
      | inr p =>
        obtain ⟨v1, s4, ρ4⟩ := p
        rw [e3] at e
        simp only at e
        obtain ⟨l1, k4⟩ := hP c Lc _ pc _ ρ3 s3 v1 s4 ρ4 (fun p hp => (sc3 p hp).1) e3
        obtain ⟨-, m4⟩ := hE c Lc _ pc _ ρ3 s3 v1 s4 ρ4 X sc3 (by omega) e3
        have hl4 : scE A D T (fBk (O n 1) ρ2 ρ4) m (s4.2.1 + X) sc := fun p hp => by
          obtain ⟨a1, a2, a3⟩ := hl2 p hp
          have eb : fBk (O n 1) ρ2 ρ4 p.1 = ρ2 p.1 := by
            unfold fBk
            by_cases q : p.1 ∈ O n 1
            · rw [if_pos q]
            · rw [if_neg q, k4 p.1 (hc.2.2.2.2 p hp).2, r3 p.1, if_neg q]
          rw [eb]
          exact ⟨a1, a2, by omega⟩
        cases e4 : fCa (bTy A D T) (fWh false cv) (O n 2) s4 (fBk (O n 1) ρ2 ρ4) with
        | inl w => rw [e4] at e; cases e
        | inr p =>
          obtain ⟨s5, ρ5⟩ := p
          rw [e4] at e
          simp only at e
          have q5 := fCa_s e4
          have sc5 := scE_c hl4 ((hO n).1 2) e4 (by omega : 0 ≤ s4.2.1 + X)
          cases e5 : fxN A D T B O call f d (fWh false cv).length ρ5 s5 with
          | inl w => rw [e5] at e; cases e
          | inr p =>
            obtain ⟨v2, s6, ρ6⟩ := p
            rw [e5] at e
            simp only at e
            obtain ⟨l2, -⟩ := hP d Ld _ pd _ ρ5 s5 v2 s6 ρ6 (fun p hp => (sc5 p hp).1) e5
            obtain ⟨-, m6⟩ := hE d Ld _ pd _ ρ5 s5 v2 s6 ρ6 X sc5 (by omega) e5
            cases e6 : fStp (exF (T n).toNat v1 + exF (T n).toNat v2) s6 with
            | none => rw [e6] at e; cases e
            | some s7 =>
              rw [e6] at e
              simp only [Sum.inr.injEq, Prod.mk.injEq] at e
              obtain ⟨rfl, rfl, -⟩ := e
              obtain ⟨z1, z2, -⟩ := fStp_s e6
              have em := exF_Mg (T n).toNat cv v1 v2 (by rw [l1, fWh_l]) (by rw [l2, fWh_l])
              have p1 := exF_p (T n).toNat v1
              have p2 := exF_p (T n).toNat v2
              rw [em]
              exact ⟨by omega, by omega⟩
theorem fe_each {L : List Int} {sc : List (Int × Int)} {n bd : Int} {tl : List Int} {m : Nat} {X : Int} (hA : A.1 ≤ 200) (hO : okO A B O) (hP : fPu A D T B lev O call j f) (hE : fPx A D T B lev O call j f) (k15 : A.2.1 n = 15) (ea : A.2.2.2.2.1 n = bd :: tl) (hT : T n = T bd + 1) (h : stN A D T B lev j (f + 1) L sc n) {vs : List (List vaF)} {ρ2 : fEv} {s s' : fSt} {v : List vaF} {ρ' : fEv} (hl : scE A D T ρ2 m (s.2.1 + X) sc) (hv : vs.length = (A.2.2.2.2.2 n).length ∧ ∀ l ∈ vs, l.length = m) (hx : ∀ (i : Nat) (x : Int) (v : List vaF), (tl.take (A.2.2.2.2.2 n).length)[i]? = some x → vs[i]? = some v → exF (T x).toNat v ≤ s.2.1 + X) (e : fEbN (fxN A D T B O call f) (bTy A D T) n (O n 0) (O n 1) bd (tl.drop (A.2.2.2.2.2 n).length) m vs ρ2 s = .inr (v, s', ρ')) : exF (T n).toNat v ≤ s'.2.1 + X ∧ s.2.1 ≤ s'.2.1 := by
  obtain ⟨g1, g2, g4, gt⟩ := ea_ts h.1.1 k15 ea
  have nL : n ∈ L := fT_sub h.2.1 _ (by simp)
  have n0 := (stN_w h).2.1
  obtain ⟨v0, hv0⟩ : ∃ v, vs[0]? = some v := ⟨_, List.getElem?_eq_getElem (by omega)⟩
  obtain ⟨x0, hx0⟩ : ∃ x, (tl.take (A.2.2.2.2.2 n).length)[0]? = some x := ⟨_, List.getElem?_eq_getElem (by omega)⟩
  have e0 : vs.getD 0 [] = v0 := by rw [List.getD_eq_getElem?_getD, hv0]; rfl
  have l0 := hv.2 v0 (List.mem_of_getElem? hv0)
  have mX : (m : Int) ≤ s.2.1 + X := by
    have a1 := hx 0 x0 v0 hx0 hv0
    have a2 := exF_n (T x0).toNat v0
    omega
  have lnl : ((vs.getD 0 []).map (fun v => (itF v).length)).length = m := by rw [List.length_map, e0]; exact l0
  obtain ⟨Lb, hb, sb, -⟩ := stN_b0 hA hO h k15 ea (z := bd) (by simp)
  have Tb := (stN_w hb).2.2.1.1
  unfold fEbN at e
  by_cases c : (List.range m).any (fun i : Nat => vs.any (fun l => decide ((l.getD i (nmF 0)) [] ≠ ((vs.getD 0 []).getD i (nmF 0)) []))) = true
  · rw [if_pos c] at e; cases e
  rw [if_neg c] at e
  have hEa := eaE_i.mp c
  clear c
  have rpl := fRp_l lnl
  have egl : ∀ l' ∈ vs, (flF l').length = (fRp m ((vs.getD 0 []).map (fun v => (itF v).length))).length := fun l' hl' => eaE_l hEa hv.2 (by omega) hl'
  generalize hln : (vs.getD 0 []).map (fun v => (itF v).length) = ln at e lnl rpl egl
  have fin : ∀ (ln' : List Nat) (w : List vaF) (c : Int), ln'.length = m → ln'.sum = w.length → exF (T bd).toNat w ≤ c - m → exF (T n).toNat (fCt ln' w) ≤ c := fun ln' w c a1 a2 a3 => by
    rw [hT, show (T bd + 1).toNat = (T bd).toNat + 1 by omega, exF_s, fCt_f ln' w a2, fCt_l, a1]
    omega
  cases e2 : fCa (bTy A D T) (fRp m ln) (O n 0) s ρ2 with
  | inl w => rw [e2] at e; cases e
  | inr p =>
    obtain ⟨s3, ρ3⟩ := p
    rw [e2] at e
    simp only at e
    have q3 := fCa_s e2
    have hc3 := scE_c (X := X - m) hl ((hO n).1 0) e2 (by omega)
    have sc3 : scE A D T (fUs ρ3 (210 + 4 * n) 0 (vs.map flF)) (fRp m ln).length (s3.2.1 + (X - m)) (gsc n T 0 (tl.take (A.2.2.2.2.2 n).length) ++ sc.filter (fun p => decide (p.1 ∈ O n 0))) := fun p hp => by
      rcases List.mem_append.mp hp with q | q
      · obtain ⟨i, u, hu, ep⟩ := gsc_m _ _ _ q
        have hi := lt_of_get hu
        rw [g2] at hi
        obtain ⟨w, hw⟩ : ∃ w, vs[i]? = some w := ⟨_, List.getElem?_eq_getElem (by omega)⟩
        have e1 : p.1 = 210 + 4 * n + ((0 : Nat) : Int) + (i : Int) := by rw [ep]; simp only; omega
        have e2' : p.2 = T u - 1 := by rw [ep]
        have hu' : tl[i]? = some u := by rw [List.getElem?_take_of_lt hi] at hu; exact hu
        have bt := bTy_g (D := D) (T := T) ea hu' ⟨n0.1, by omega⟩ (by omega : i < 4)
        have Tu := ((stN_e hA h k15 ea).1 u (List.mem_of_getElem? hu)).2
        have xw := hx i u w hu hw
        have lw := hv.2 w (List.mem_of_getElem? hw)
        rw [show (T u).toNat = (T u - 1).toNat + 1 by omega, exF_s] at xw
        rw [e2', e1, fUs_at (v := flF w) (by rw [List.getElem?_map, hw]; rfl)]
        refine ⟨egl w (List.mem_of_getElem? hw), ?_, by omega⟩
        rw [← bt]
        congr 1
        omega
      · obtain ⟨a1, a2, a3⟩ := hc3 p q
        have nb := (h.2.2.2.2 p (List.mem_filter.mp q).1).2
        have ng : fUs ρ3 (210 + 4 * n) 0 (vs.map flF) p.1 = ρ3 p.1 := fUs_no (by
          rw [List.length_map, hv.1]
          by_cases q : p.1 < 210 + 4 * n + (0 : Nat)
          · exact Or.inl q
          · right
            refine Decidable.byContradiction (fun q2 => nb (Or.inl (Or.inr ⟨by omega, by omega, ?_⟩)))
            rw [show (p.1 - 210) / 4 = n by omega]; exact nL)
        rw [ng]
        exact ⟨a1, a2, a3⟩
    rcases gt with et | ⟨t, et⟩
    · rw [et] at e
      simp only at e
      cases e3 : fxN A D T B O call f bd (fRp m ln).length (fUs ρ3 (210 + 4 * n) 0 (vs.map flF)) s3 with
      | inl w => rw [e3] at e; cases e
      | inr p =>
        obtain ⟨v1, s4, ρ5⟩ := p
        rw [e3] at e
        simp only [Sum.inr.injEq, Prod.mk.injEq] at e
        obtain ⟨rfl, rfl, -⟩ := e
        obtain ⟨l1, -⟩ := hP bd Lb _ hb _ _ _ _ _ _ (fun p hp => (sc3 p hp).1) e3
        obtain ⟨x1, x2⟩ := hE bd Lb _ hb _ _ _ _ _ _ (X - m) sc3 (by omega) e3
        exact ⟨fin ln v1 _ lnl (by rw [l1, rpl]) (by omega), by omega⟩
    · rw [et] at e
      simp only at e
      obtain ⟨Lt, ht, st, -⟩ := stN_b0 hA hO h k15 ea (z := t) (by rw [et]; simp)
      have hb1 := stN_b1 hO k15 ea (by rw [et]; exact ht.2.1) hb
      cases e3 : fxN A D T B O call f t (fRp m ln).length (fUs ρ3 (210 + 4 * n) 0 (vs.map flF)) s3 with
      | inl w => rw [e3] at e; cases e
      | inr p =>
        obtain ⟨c1, s4, ρ5⟩ := p
        rw [e3] at e
        simp only at e
        obtain ⟨l1, kt⟩ := hP t Lt _ ht _ _ _ _ _ _ (fun p hp => (sc3 p hp).1) e3
        obtain ⟨-, x2⟩ := hE t Lt _ ht _ _ _ _ _ _ (X - m) sc3 (by omega) e3
        have sc4 := scE_u (c' := s4.2.1 + (X - m)) sc3 (by omega) (fun p hp => kt p.1 (ht.2.2.2.2 p hp).2)
        cases e4 : fCa (bTy A D T) (fWh true c1) (O n 1) s4 ρ5 with
        | inl w => rw [e4] at e; cases e
        | inr p =>
          obtain ⟨s5, ρ6⟩ := p
          rw [e4] at e
          simp only at e
          have q5 := fCa_s e4
          have sc5 := scE_c (X := X - m) sc4 ((hO n).1 1) e4 (by omega)
          cases e5 : fStp (m : Int) s5 with
          | none => rw [e5] at e; cases e
          | some s6 =>
            rw [e5] at e
            simp only at e
            obtain ⟨z1, z2, -⟩ := fStp_s e5
            cases e6 : fxN A D T B O call f bd (fWh true c1).length ρ6 s6 with
            | inl w => rw [e6] at e; cases e
            | inr p =>
              obtain ⟨v1, s7, ρ7⟩ := p
              rw [e6] at e
              simp only [Sum.inr.injEq, Prod.mk.injEq] at e
              obtain ⟨rfl, rfl, -⟩ := e
              have sc6 := scE_u (c' := s6.2.1 + (X - m)) sc5 (by omega) (fun p _ => rfl)
              obtain ⟨l2, -⟩ := hP bd Lb _ hb1 _ _ _ _ _ _ (fun p hp => (sc6 p hp).1) e6
              obtain ⟨x3, x4⟩ := hE bd Lb _ hb1 _ _ _ _ _ _ (X - m) sc6 (by omega) e6
              have ls : ln.sum = c1.length := by rw [l1, rpl]
              refine ⟨fin (ctL ln c1) v1 _ (by rw [ctL_l]; exact lnl) (by rw [ctL_s ls, l2, fWh_l]) (by omega), by omega⟩
theorem fe_ok {σ : sg_S} {r : Int} (hX : pgX σ A D T B) (hlv : lvP A D lev 0 r) (hO : okO A B O) (hc : cOk A D T B lev j call) (hcx : cXk A D T B lev j call) : ∀ f : Nat, fPx A D T B lev O call j f
  | 0 => fun n L sc h => h.1.elim
  | f + 1 => fun n L sc h m ρ s v s' ρ' X hl h0 e => by
    have hA := hX.2.2.2.2.1
    have hD := hX.2.1
    have hE := fe_ok hX hlv hO hc hcx f
    have hP : fPu A D T B lev O call j f := fun n L sc h => fx_ok hX hlv hO hc f n L sc h
    obtain ⟨w1, w2, w3, w4, w5, w6⟩ := stN_w h
    have sw : ∀ p ∈ sc, ¬ ow lev j L p.1 := fun p hp => (h.2.2.2.2 p hp).2
    have nL : n ∈ L := fT_sub h.2.1 _ (by simp)
    simp only [fxN] at e
    cases eb : fBg m s with
    | none => rw [eb] at e; cases e
    | some s1 =>
      rw [eb] at e
      simp only at e
      have es : s1.2.1 = s.2.1 := by
        unfold fBg at eb
        cases q : fStp 0 s with
        | none => rw [q] at eb; cases eb
        | some s0 =>
          rw [q] at eb
          obtain ⟨z1, z2, -⟩ := fStp_s q
          cases eb
          simp only; omega
      have hl1 : scE A D T ρ m (s1.2.1 + X) sc := by rw [es]; exact hl
      have sq : ∀ (R : List Int), (∀ x ∈ R, ∃ L', stN A D T B lev j f L' sc x ∧ ∀ y ∈ L', y ∈ L) → ∀ vs s2 ρ2, fSq (fun x => fxN A D T B O call f x m) R ρ s1 = .inr (vs, s2, ρ2) → (vs.length = R.length ∧ (∀ l ∈ vs, l.length = m) ∧ ∀ b, ¬ ow lev j L b → ρ2 b = ρ b) ∧ s1.2.1 ≤ s2.2.1 ∧ ∀ (i : Nat) (x : Int) (v : List vaF), R[i]? = some x → vs[i]? = some v → exF (T x).toNat v ≤ s2.2.1 + X := fun R hR vs s2 ρ2 es' => ⟨fx_sq (fun x L' hx ρ s v s' ρ' => hP x L' sc hx m ρ s v s' ρ') R hR sw ρ s1 vs s2 ρ2 (fun p hp => (hl p hp).1) es', fe_sq hP hE R hR sw ρ s1 vs s2 ρ2 hl1 (by omega) es'⟩
      by_cases k1 : A.2.1 n = 1
      · rw [if_pos k1] at e
        simp only [Sum.inr.injEq, Prod.mk.injEq] at e
        obtain ⟨rfl, rfl, -⟩ := e
        exact ⟨(hl1 _ (w4 k1)).2.2, by omega⟩
      rw [if_neg k1] at e
      by_cases k2 : A.2.1 n = 2
      · rw [if_pos k2] at e
        obtain ⟨a, c, ea⟩ := kid2 (w1.2.2.1 (Or.inl k2))
        rw [ea] at e
        simp only [List.getD_cons_zero, List.getD_cons_succ] at e
        obtain ⟨⟨La, ha, sa⟩, Lc, hc', scs⟩ := stN_l hA h k2 ea
        have e6 : T c = T n := by
          have := w5 (by omega)
          rw [kTy_2 k2, ea] at this
          simpa using this
        cases e1 : fxN A D T B O call f a m ρ s1 with
        | inl w => rw [e1] at e; cases e
        | inr p =>
          obtain ⟨v1, s2, ρ2⟩ := p
          rw [e1] at e
          simp only at e
          obtain ⟨l1, kp⟩ := hP a La sc ha m ρ s1 v1 s2 ρ2 (fun p hp => (hl p hp).1) e1
          obtain ⟨x1, x2⟩ := hE a La sc ha m ρ s1 v1 s2 ρ2 X hl1 (by omega) e1
          have nb : ∀ p ∈ sc, ¬ p.1 = n := fun p hp q => sw p hp (Or.inl (Or.inl ⟨by omega, by rw [q]; exact nL⟩))
          obtain ⟨x3, x4⟩ := hE c Lc _ hc' m _ s2 v s' ρ' X (fun p hp => by
            rcases List.mem_cons.mp hp with q | q
            · rw [q]; simp only [if_true]; exact ⟨l1, (bTy_l ea (by omega)).symm, x1⟩
            · obtain ⟨a1, a2, a3⟩ := hl1 p q
              rw [if_neg (nb p q), kp p.1 (ha.2.2.2.2 p q).2]
              exact ⟨a1, a2, by omega⟩) (by omega) e
          rw [e6] at x3
          exact ⟨x3, by omega⟩
      rw [if_neg k2] at e
      by_cases k3 : A.2.1 n = 3
      · rw [if_pos k3] at e
        have l3 := w1.2.2.2.1 k3
        obtain ⟨a, c, d, ea⟩ : ∃ a c d, A.2.2.2.2.1 n = [a, c, d] := by
          match e : A.2.2.2.2.1 n, l3 with
          | [a, c, d], _ => exact ⟨a, c, d, rfl⟩
        have g := w5 (by omega)
        rw [kTy_3 k3, ea] at g
        obtain ⟨g1, g2, g3⟩ := kIs_in g
        simp only [List.map_cons, List.getD_cons_succ, List.getD_cons_zero, Bool.and_eq_true, decide_eq_true_eq] at g1 g3
        rw [ea] at e
        simp only [List.getD_cons_zero, List.getD_cons_succ] at e
        obtain ⟨x1, x2⟩ := fe_if hA hO hP hE k3 ea g1 (by rw [g1]; exact g3.2) h hl1 (by omega) e
        exact ⟨x1, by omega⟩
      rw [if_neg k3] at e
      by_cases k13 : A.2.1 n = 13
      · rw [if_pos k13] at e
        cases es' : fSq (fun x => fxN A D T B O call f x m) (A.2.2.2.2.1 n) ρ s1 with
        | inl w => rw [es'] at e; cases e
        | inr p =>
          obtain ⟨vs, s2, ρ2⟩ := p
          rw [es'] at e
          simp only at e
          obtain ⟨⟨q1, q2, q3⟩, q4, q5⟩ := sq _ (fun x hx => stN_k h (by omega) (by omega) hx) vs s2 ρ2 es'
          have hD6 : ∀ (d : Nat) (y : aDf), D[d]? = some y → y.2.2.1.length ≤ 6 := fun d y hy => (hD.2.2 d y hy).2.2.2.2.1
          obtain ⟨d, y, L', ed, hy, dj, hst, how, hty, hTy, hsc⟩ := stN_call hX hlv h k13 hD.2.1 hD6
          have k6 := hD6 d y hy
          have klen : (A.2.2.2.2.1 n).length = y.2.2.1.length := by
            have := congrArg List.length hty
            simpa using this
          rw [ed] at e
          obtain ⟨x1, x2⟩ := hcx d y L' hy dj hst m _ s2 v s' ρ' X (fun p hp => by
            obtain ⟨i, u, hu, ep⟩ := hsc p hp
            have hi := lt_of_get hu
            obtain ⟨w, hw⟩ : ∃ w, vs[i]? = some w := ⟨_, List.getElem?_eq_getElem (by omega)⟩
            obtain ⟨x, hx⟩ : ∃ x, (A.2.2.2.2.1 n)[i]? = some x := ⟨_, List.getElem?_eq_getElem (by omega)⟩
            have e1 : T x = u.2.2 := by
              have q := congrArg (fun q => q[i]?) hty
              simp only [List.getElem?_map, hx, hu] at q
              simpa using q
            rw [ep]
            simp only
            rw [show (1100 : Int) + 6 * (d : Int) + (i : Int) = 1100 + 6 * (d : Int) + ((0 : Nat) : Int) + (i : Int) by omega, fUs_at hw]
            refine ⟨q2 w (List.mem_of_getElem? hw), ?_, ?_⟩
            · rw [show (1100 : Int) + 6 * (d : Int) + ((0 : Nat) : Int) + (i : Int) = 1100 + 6 * (d : Int) + (i : Int) by omega]
              exact (bTy_p hy hu (by omega)).symm
            · rw [← e1]; exact q5 i x w hx hw) (by omega) e
          rw [← hTy] at x1
          exact ⟨x1, by omega⟩
      rw [if_neg k13] at e
      by_cases k15 : A.2.1 n = 15
      · rw [if_pos k15] at e
        have g := (w1.2.2.2.2.2.2.1 k15).1
        obtain ⟨bd, tl, ea⟩ : ∃ bd tl, A.2.2.2.2.1 n = bd :: tl := by
          cases e : A.2.2.2.2.1 n with
          | nil => rw [e] at g; simp at g; omega
          | cons bd tl => exact ⟨bd, tl, rfl⟩
        have eg : kGs A n = tl.take (A.2.2.2.2.2 n).length := by unfold kGs; rw [ea]; rfl
        have ed : (A.2.2.2.2.1 n).drop (1 + (A.2.2.2.2.2 n).length) = tl.drop (A.2.2.2.2.2 n).length := by rw [ea, Nat.add_comm]; rfl
        have gg := w5 (by omega)
        rw [kTy_15 k15, ea] at gg
        obtain ⟨y1, y2, y3⟩ := kIs_in gg
        simp only [List.map_cons, List.getD_cons_zero] at y1 y2
        rw [eg, ed] at e
        have ebd : (A.2.2.2.2.1 n).getD 0 0 = bd := by rw [ea]; rfl
        rw [ebd] at e
        cases es' : fSq (fun x => fxN A D T B O call f x m) (tl.take (A.2.2.2.2.2 n).length) ρ s1 with
        | inl w => rw [es'] at e; cases e
        | inr p =>
          obtain ⟨vs, s2, ρ2⟩ := p
          rw [es'] at e
          simp only at e
          obtain ⟨⟨q1, q2, q3⟩, q4, q5⟩ := sq _ (fun x hx => ((stN_e hA h k15 ea).1 x hx).1) vs s2 ρ2 es'
          obtain ⟨x1, x2⟩ := fe_each hA hO hP hE k15 ea y1 h (scE_u (c' := s2.2.1 + X) hl1 (by omega) (fun p hp => q3 p.1 (sw p hp))) ⟨by rw [q1]; exact (ea_ts w1 k15 ea).2.1, q2⟩ q5 e
          exact ⟨x1, by omega⟩
      rw [if_neg k15] at e
      cases es' : fSq (fun x => fxN A D T B O call f x m) (A.2.2.2.2.1 n) ρ s1 with
      | inl w => rw [es'] at e; cases e
      | inr p =>
        obtain ⟨vs, s2, ρ2⟩ := p
        rw [es'] at e
        simp only at e
        obtain ⟨⟨q1, q2, q3⟩, q4, q5⟩ := sq _ (fun x hx => stN_k h k2 k15 hx) vs s2 ρ2 es'
        unfold fWk at e
        cases ef : fStp (exF (T n).toNat ((fOl (A.2.1 n) (T n) (sg_n (A.2.2.2.1 n)) vs m).map fOv)) s2 with
        | none => rw [ef] at e; cases e
        | some s3 =>
          rw [ef] at e
          simp only at e
          obtain ⟨z1, z2, -⟩ := fStp_s ef
          by_cases c0 : fOe (fOl (A.2.1 n) (T n) (sg_n (A.2.2.2.1 n)) vs m) = 0
          · rw [if_pos c0] at e
            simp only [Sum.inr.injEq, Prod.mk.injEq] at e
            obtain ⟨rfl, rfl, -⟩ := e
            have := exF_p (T n).toNat ((fOl (A.2.1 n) (T n) (sg_n (A.2.2.2.1 n)) vs m).map fOv)
            exact ⟨by omega, by omega⟩
          · rw [if_neg c0] at e; cases e
theorem cXk_all {σ : sg_S} {r : Int} (hX : pgX σ A D T B) (hlv : lvP A D lev 0 r) (hO : okO A B O) : ∀ j : Nat, cXk A D T B lev j (fxC A D T B O j) := by
  have key : ∀ (k : Nat) (j : Nat), j ≤ k → cXk A D T B lev j (fxC A D T B O j) := by
    intro k
    induction k with
    | zero =>
      intro j hj d y L' hy dj
      omega
    | succ k ih =>
      intro j hj d y L' hy dj hst m ρ s v s' ρ' X hl h0 e
      rw [fxC_e A D T B O j d dj] at e
      have ey : (D.getD d (0, 0, [], 0)).2.2.2 = y.2.2.2 := by rw [List.getD_eq_getElem?_getD, hy]; rfl
      rw [ey] at e
      exact fe_ok hX hlv hO (fxC_ok hX hlv hO d) (ih d (by omega)) 201 y.2.2.2 L' _ hst m ρ s v s' ρ' X hl h0 e
  exact fun j => key j j (Nat.le_refl _)
end BNT
/-! flat() of the reference, exactly. -/
noncomputable def gaL (A : aT) (B c : Int → Int) (L0 : List Int) (but : Int) : List Int → List Int
  | [] => []
  | y :: r => @ite _ (A.2.1 y = 1 ∧ ¬ insL L0 (B y) ∧ ¬ isG but (B y)) (Classical.propDecidable _) (insO c (B y) (gaL A B c L0 but r)) (gaL A B c L0 but r)
section BOS
variable {A : aT} {B c : Int → Int} {L0 : List Int} {but : Int}
theorem gaL_n : ∀ L : List Int, (gaL A B c L0 but L).Nodup
  | [] => List.nodup_nil
  | y :: r => by
    simp only [gaL]
    split
    · exact insO_n (gaL_n r)
    · exact gaL_n r
theorem gaL_m : ∀ (L : List Int) (z : Int), z ∈ gaL A B c L0 but L ↔ ∃ y ∈ L, A.2.1 y = 1 ∧ B y = z ∧ ¬ insL L0 z ∧ ¬ isG but z
  | [], z => ⟨fun h => (by cases h), fun ⟨y, hy, _⟩ => (by cases hy)⟩
  | y :: r, z => by
    have ih := gaL_m r z
    simp only [gaL]
    by_cases h : A.2.1 y = 1 ∧ ¬ insL L0 (B y) ∧ ¬ isG but (B y)
    · rw [if_pos h, insO_m]
      refine ⟨fun w => ?_, fun ⟨u, u1, u2⟩ => ?_⟩
      · rcases w with w | w
        · exact ⟨y, by simp, h.1, w.symm, by rw [w]; exact h.2.1, by rw [w]; exact h.2.2⟩
        · obtain ⟨u, u1, u2⟩ := ih.mp w
          exact ⟨u, by simp [u1], u2⟩
      · rcases List.mem_cons.mp u1 with e | e
        · left; rw [← u2.2.1, e]
        · exact Or.inr (ih.mpr ⟨u, e, u2⟩)
    · rw [if_neg h]
      refine ⟨fun w => ?_, fun ⟨u, u1, u2⟩ => ?_⟩
      · obtain ⟨u, u1, u2⟩ := ih.mp w
        exact ⟨u, by simp [u1], u2⟩
      · rcases List.mem_cons.mp u1 with e | e
        · rw [e] at u2
          exact absurd ⟨u2.1, by rw [u2.2.1]; exact u2.2.2.1, by rw [u2.2.1]; exact u2.2.2.2⟩ h
        · exact ih.mpr ⟨u, e, u2⟩
theorem O_ex (A : aT) (B c : Int → Int) : ∃ O, okO A B O ∧ gaH A B c O := by
  classical
  obtain ⟨lT, lT_e⟩ : ∃ lT : List Int → List Int, ∀ R L, fT A R L → lT R = L := ⟨fun R => if h : ∃ L, fT A R L then Classical.choose h else [], fun R L hL => by
    have ex : ∃ L, fT A R L := ⟨L, hL⟩
    simp only [dif_pos ex]
    exact fT_det (Classical.choose_spec ex) hL⟩
  obtain ⟨gX, gX_n, gX_m, gX_e⟩ : ∃ gX : List Int → Int → List Int, (∀ L but, (gX L but).Nodup) ∧ (∀ L but z, z ∈ gX L but ↔ ∃ y ∈ L, A.2.1 y = 1 ∧ B y = z ∧ ¬ insL L z ∧ ¬ isG but z) ∧ ∀ L but, (∀ y ∈ L, 0 ≤ y ∧ y < A.1) → gX L but = gaO A B c L but A.1.toNat := by
    refine ⟨fun L but => if (∀ y ∈ L, 0 ≤ y ∧ y < A.1) then gaO A B c L but A.1.toNat else gaL A B c L but L, fun L but => ?_, fun L but z => ?_, fun L but h => if_pos h⟩
    · simp only
      split
      · exact gaO_n _
      · exact gaL_n _
    · simp only
      split
      · rename_i hr
        rw [gaO_m]
        refine ⟨fun ⟨y, y1, y2, y3⟩ => ⟨y, y2, y3⟩, fun ⟨y, y1, y2⟩ => ⟨y, ⟨(hr y y1).1, by have := hr y y1; omega⟩, y1, y2⟩⟩
      · exact gaL_m L z
  have ng : ∀ z, ¬ isG (-1) z := fun z h => by have := h.1; omega
  refine ⟨fun n st => if A.2.1 n = 3 then gX (lT [(A.2.2.2.2.1 n).getD st 0]) (-1) else if st = 0 then gX (lT [(A.2.2.2.2.1 n).headD 0] ++ lT ((A.2.2.2.2.1 n).tail.drop (A.2.2.2.2.2 n).length)) n else gX (lT [(A.2.2.2.2.1 n).headD 0]) (-1), fun n => ⟨fun st => ?_, fun k3 st x L hst hx hL z => ?_, fun k15 bd tl Lb Lt ea hb ht => ⟨fun z => ?_, fun z => ?_⟩⟩, fun n => ⟨fun k3 st x L hst hx hL hr => ?_, fun k15 bd tl Lb Lt ea hb ht hr => ⟨?_, ?_⟩⟩⟩
  · simp only
    split
    · exact gX_n _ _
    · split
      · exact gX_n _ _
      · exact gX_n _ _
  · have e : (A.2.2.2.2.1 n).getD st 0 = x := by rw [List.getD_eq_getElem?_getD, hx]; rfl
    simp only
    rw [if_pos k3, e, lT_e _ L hL, gX_m]
    exact ⟨fun ⟨y, y1, y2, y3, y4, _⟩ => ⟨y, y1, y2, y3, y4⟩, fun ⟨y, y1, y2, y3, y4⟩ => ⟨y, y1, y2, y3, y4, ng z⟩⟩
  · simp only
    rw [if_neg (by omega), if_pos True.intro, ea]
    simp only [List.headD_cons, List.tail_cons]
    rw [lT_e _ Lb hb, lT_e _ Lt ht, gX_m]
  · simp only
    rw [if_neg (by omega), if_neg (by decide), ea]
    simp only [List.headD_cons]
    rw [lT_e _ Lb hb, gX_m]
    exact ⟨fun ⟨y, y1, y2, y3, y4, _⟩ => ⟨y, y1, y2, y3, y4⟩, fun ⟨y, y1, y2, y3, y4⟩ => ⟨y, y1, y2, y3, y4, ng z⟩⟩
  · have e : (A.2.2.2.2.1 n).getD st 0 = x := by rw [List.getD_eq_getElem?_getD, hx]; rfl
    simp only
    rw [if_pos k3, e, lT_e _ L hL, gX_e L (-1) hr]
  · simp only
    rw [if_neg (by omega), if_pos True.intro, ea]
    simp only [List.headD_cons, List.tail_cons]
    rw [lT_e _ Lb hb, lT_e _ Lt ht, gX_e _ n hr]
  · simp only
    rw [if_neg (by omega), if_neg (by decide), ea]
    simp only [List.headD_cons]
    rw [lT_e _ Lb hb, gX_e Lb (-1) (fun y hy => hr y (by simp [hy]))]
end BOS
/-- the FINDING of a flat run, or 0; what it told -/
def fRe : fRs → Int
  | .inl (e, _) => e
  | .inr _ => 0
def fRt : fRs → fSt
  | .inl (_, s) => s
  | .inr (_, s, _) => s
/-- a flat run of the whole PROGRAM -/
def fxA (A : aT) (D : List aDf) (T B : Int → Int) (O : Int → Nat → List Int) (r : Int) : fRs := fxN A D T B O (fxC A D T B O D.length) 201 r 1 (fun _ => []) (0, 0, 0)
section BOT
variable {A : aT} {D : List aDf} {T B c : Int → Int} {O : Int → Nat → List Int} {r : Int}
theorem xq_flat {σ : sg_S} {Q : Int → sg_S → Prop} (hX : pgX σ A D T B) (hr : sg_g σ 88 27 = r) (hty : tyN A (kDl D []) T B 201 [] r) (hfr : frA A (aRt D ++ [r])) (hO : okO A B O) (hG : gaH A B c O) (hcb : ∀ y, sg_g σ 116 y = c y) (h28 : ¬ sg_g σ 88 28 = 0) (h82 : 0 ≤ sg_g σ 88 82 ∧ sg_g σ 88 82 < 20) (k : ∀ σ', sg_F [119, 120, 121, 126, 127, 128, 133, 134, 135, 136, 137, 138, 139, 140, 141, 142, 143, 144, 145, 146, 147, 148, 149, 150, 151, 1088, 47088, 50088, 63088, 71088, 74088, 78088, 79088, 82088, 83088, 84088, 85088, 86088, 87088, 88088, 92088, 94088, 100088, 103088, 104088] σ σ' → sg_g σ' 88 82 = sg_g σ 88 82 + 1 → (0 ≤ sg_g σ' 88 77 ∧ sg_g σ' 88 77 ≤ 80000) → sg_g σ' 88 83 = fRe (fxA A D T B O r) → fcX σ' (fRt (fxA A D T B O r)) → Q (fRe (fxA A D T B O r)) σ') : V_flat σ Q := by
  unfold V_flat
  intro σ1 e1
  have f1 : sg_F [1088] σ σ1 := by rw [e1]; exact sg_F_w (sg_F_r _ _) rfl _
  refine ⟨fun c28 => ⟨fun c82 => ?_, fun z => by omega⟩, fun z => absurd z h28⟩
  obtain ⟨lev, hlv⟩ := lvP_ex hfr
  obtain ⟨hP, hD, eT, eB, hA, hdt⟩ := id hX
  obtain ⟨L0, g1, g2, g3⟩ := hlv.2
  have hst : stN A D T B lev D.length 201 L0 [] r := ⟨by rw [List.take_of_length_le (Nat.le_refl _)]; exact hty, g1, g2, fun y hy => ⟨(g3 y hy).1, by have := (g3 y hy).2; omega⟩, fun p hp => (by cases hp)⟩
  obtain ⟨w1, w2, w3, -⟩ := stN_w hst
  refine ⟨⟨by omega, by omega⟩, fun σ7 e7 σ10 e10 σ13 e13 σ16 e16 σ19 e19 σ22 e22 σ25 e25 σ28 e28 σ31 e31 σ34 e34 σ37 e37 => ?_⟩
  have F37 : sg_F [1088, 63088, 71088, 74088, 82088, 83088, 85088, 86088, 87088, 88088, 92088, 100088] σ σ37 := by
    rw [e37, e34, e31, e28, e25, e22, e19, e16, e13, e10, e7]
    exact sg_F_w (sg_F_w (sg_F_w (sg_F_w (sg_F_w (sg_F_w (sg_F_w (sg_F_w (sg_F_w (sg_F_w (sg_F_w (sg_F_m f1 rfl) rfl _) rfl _) rfl _) rfl _) rfl _) rfl _) rfl _) rfl _) rfl _) rfl _) rfl _
  have z : sg_R 0 := ⟨by decide, by decide⟩
  have c73 : sg_g σ37 88 73 = 0 := by rw [e37, sg_gw_e _ _ _ _ z]
  have c99 : sg_g σ37 88 99 = 0 := by rw [e37, sg_gw_k _ _ _ _ _ _ (by decide), e34, sg_gw_e _ _ _ _ z]
  have c70 : sg_g σ37 88 70 = 0 := by rw [e37, sg_gw_k _ _ _ _ _ _ (by decide), e34, sg_gw_k _ _ _ _ _ _ (by decide), e31, sg_gw_e _ _ _ _ z]
  have c62 : sg_g σ37 88 62 = 0 := by rw [e37, sg_gw_k _ _ _ _ _ _ (by decide), e34, sg_gw_k _ _ _ _ _ _ (by decide), e31, sg_gw_k _ _ _ _ _ _ (by decide), e28, sg_gw_e _ _ _ _ z]
  have c91 : sg_g σ37 88 91 = 0 := by rw [e37, sg_gw_k _ _ _ _ _ _ (by decide), e34, sg_gw_k _ _ _ _ _ _ (by decide), e31, sg_gw_k _ _ _ _ _ _ (by decide), e28, sg_gw_k _ _ _ _ _ _ (by decide), e25, sg_gw_e _ _ _ _ z]
  have c87 : sg_g σ37 88 87 = 0 := by rw [e37, sg_gw_k _ _ _ _ _ _ (by decide), e34, sg_gw_k _ _ _ _ _ _ (by decide), e31, sg_gw_k _ _ _ _ _ _ (by decide), e28, sg_gw_k _ _ _ _ _ _ (by decide), e25, sg_gw_k _ _ _ _ _ _ (by decide), e22, sg_gw_e _ _ _ _ z]
  have c86 : sg_g σ37 88 86 = 0 := by rw [e37, sg_gw_k _ _ _ _ _ _ (by decide), e34, sg_gw_k _ _ _ _ _ _ (by decide), e31, sg_gw_k _ _ _ _ _ _ (by decide), e28, sg_gw_k _ _ _ _ _ _ (by decide), e25, sg_gw_k _ _ _ _ _ _ (by decide), e22, sg_gw_k _ _ _ _ _ _ (by decide), e19, sg_gw_e _ _ _ _ z]
  have c85 : sg_g σ37 88 85 = 0 := by rw [e37, sg_gw_k _ _ _ _ _ _ (by decide), e34, sg_gw_k _ _ _ _ _ _ (by decide), e31, sg_gw_k _ _ _ _ _ _ (by decide), e28, sg_gw_k _ _ _ _ _ _ (by decide), e25, sg_gw_k _ _ _ _ _ _ (by decide), e22, sg_gw_k _ _ _ _ _ _ (by decide), e19, sg_gw_k _ _ _ _ _ _ (by decide), e16, sg_gw_e _ _ _ _ z]
  have c84 : sg_g σ37 88 84 = 0 := by rw [e37, sg_gw_k _ _ _ _ _ _ (by decide), e34, sg_gw_k _ _ _ _ _ _ (by decide), e31, sg_gw_k _ _ _ _ _ _ (by decide), e28, sg_gw_k _ _ _ _ _ _ (by decide), e25, sg_gw_k _ _ _ _ _ _ (by decide), e22, sg_gw_k _ _ _ _ _ _ (by decide), e19, sg_gw_k _ _ _ _ _ _ (by decide), e16, sg_gw_k _ _ _ _ _ _ (by decide), e13, sg_gw_e _ _ _ _ z]
  have c82' : sg_g σ37 88 82 = sg_g σ 88 82 + 1 := by rw [e37, sg_gw_k _ _ _ _ _ _ (by decide), e34, sg_gw_k _ _ _ _ _ _ (by decide), e31, sg_gw_k _ _ _ _ _ _ (by decide), e28, sg_gw_k _ _ _ _ _ _ (by decide), e25, sg_gw_k _ _ _ _ _ _ (by decide), e22, sg_gw_k _ _ _ _ _ _ (by decide), e19, sg_gw_k _ _ _ _ _ _ (by decide), e16, sg_gw_k _ _ _ _ _ _ (by decide), e13, sg_gw_k _ _ _ _ _ _ (by decide), e10, sg_gw_k _ _ _ _ _ _ (by decide), e7, sg_gw_e _ _ _ _ ⟨by omega, by omega⟩]
  have N37 : fNw σ37 := ⟨⟨⟨by omega, by omega⟩, ⟨by omega, by omega⟩, ⟨by omega, by omega⟩, ⟨by omega, by omega, by omega⟩, by omega, by omega⟩, fun i a b => by omega, by omega, by omega, by omega⟩
  have hX37 : pgX σ37 A D T B := pgX_F F37 rfl hX
  have S37 : fSw σ37 σ37 0 0 0 (0, 0, 0) := ⟨sg_F_r _ _, c73, ⟨c62, c70, c99⟩, ⟨c84, c85, c86, ⟨by decide, by decide⟩, by decide, by decide⟩, N37⟩
  have hcb37 : ∀ y, sg_g σ37 116 y = c y := fun y => by rw [sg_F_ga F37 rfl]; exact hcb y
  obtain ⟨X, hXd⟩ : ∃ X : sg_S → Prop, X = fun σ' => sg_F flL σ37 σ' ∧ sg_g σ' 88 73 = fRe (fxA A D T B O r) ∧ fcX σ' (fRt (fxA A D T B O r)) ∧ (sg_g σ' 88 73 = 0 → (sg_g σ' 88 91 ≤ 60000 ∧ sg_g σ' 88 87 ≤ 30000) ∧ fLx σ' (T r).toNat 1 6000 (sg_g σ' 133 0)) := ⟨_, rfl⟩
  have hC := cFr_all (X := X) hX37 hlv hO hG hcb37 D.length
  have hc := fxC_ok hX37 hlv hO D.length
  have hcx := cXk_all hX37 hlv hO D.length
  rw [hr]
  refine gfN_all (X := X) hX37 hlv hO hG hcb37 hC hc 201 r L0 [] hst σ37 4000 1 (fun _ => []) 0 0 0 (0, 0, 0) S37 (by decide) (fun p hp => (by cases hp)) (by decide) ?_ _ (fun σ41 R41 f41 => ?_)
  · have pk := fx_ok hX37 hlv hO hc 201 r L0 [] hst 1 (fun _ => []) (0, 0, 0)
    have pe := fe_ok hX37 hlv hO hc hcx 201 r L0 [] hst 1 (fun _ => []) (0, 0, 0)
    have hXd' := hXd
    unfold fxA at hXd'
    generalize fxN A D T B O (fxC A D T B O D.length) 201 r 1 (fun _ => []) (0, 0, 0) = res at hXd' pk pe
    match res, hXd', pk, pe with
    | .inl (e, s'), hXd', _, _ =>
      intro σ' y1 y2 y3 y4
      rw [hXd']
      exact ⟨y1, y2, y4, fun w => absurd (y2.symm.trans w) y3⟩
    | .inr (v, s', ρ'), hXd', pk, pe =>
      intro σ' m' S' K' hv hm'
      obtain ⟨a1, a2, ⟨a3, a4, a5⟩, c', ⟨⟨i1, i2, i3, i4, i5⟩, -⟩⟩ := S'
      refine rf_e (by omega) ?_
      rw [hXd']
      refine ⟨a1, a2, c', fun _ => ⟨⟨by omega, by omega⟩, ?_⟩⟩
      obtain ⟨R, hR⟩ := hv
      obtain ⟨pl, -⟩ := pk v s' ρ' (fun p hp => (by cases hp)) rfl
      obtain ⟨px, -⟩ := pe v s' ρ' 0 (fun p hp => (by cases hp)) (by decide) rfl
      have c5 := c'.2.2.2.2.2
      refine ⟨R, hR.1, hR.2.1, ?_, ?_⟩
      · rw [fX_n hR, pl]; rfl
      · rw [eX_F hR]; omega
  · refine ⟨fun n σ46 => Rf X n σ46, X, ⟨4000, R41⟩, fun n σ46 f46 R46 => ?_, fun σ46 f46 hX46 σ59 e59 => ?_⟩
    · cases n with
      | zero => exact ⟨fun z => R46.1 z, fun z => ⟨fun w => R46.2.1 w, fun w => (R46.2.2 z w).elim⟩⟩
      | succ n => exact ⟨fun z => R46.1 z, fun z => ⟨fun w => R46.2.1 w, fun w => R46.2.2 z w _ (fun σ' hr' => ⟨n, Nat.lt_succ_self n, hr'⟩)⟩⟩
    · rw [hXd] at hX46
      obtain ⟨x1, x2, x3, x4⟩ := hX46
      have F46 : sg_F [119, 120, 121, 126, 127, 128, 133, 134, 135, 139, 140, 141, 142, 143, 144, 145, 146, 147, 148, 149, 150, 1088, 47088, 50088, 63088, 71088, 74088, 82088, 83088, 85088, 86088, 87088, 88088, 92088, 94088, 100088, 103088, 104088] σ σ46 := sg_F_t (sg_F_m F37 rfl) (sg_F_m x1 rfl)
      have f59 : sg_F [84088] σ46 σ59 := by rw [e59]; exact sg_F_w (sg_F_r _ _) rfl _
      have F59 : sg_F [119, 120, 121, 126, 127, 128, 133, 134, 135, 139, 140, 141, 142, 143, 144, 145, 146, 147, 148, 149, 150, 1088, 47088, 50088, 63088, 71088, 74088, 82088, 83088, 84088, 85088, 86088, 87088, 88088, 92088, 94088, 100088, 103088, 104088] σ σ59 := sg_F_t (sg_F_m F46 rfl) (sg_F_m f59 rfl)
      have c83 : sg_g σ59 88 83 = sg_g σ46 88 73 := by rw [e59, sg_gw_e _ _ _ _ (sg_Rg _ _ _)]
      have b82 : sg_g σ59 88 82 = sg_g σ 88 82 + 1 := by rw [sg_F_g f59 (by rfl), sg_F_g x1 (by rfl)]; exact c82'
      have fin : ∀ σ63, (0 ≤ sg_g σ63 88 77 ∧ sg_g σ63 88 77 ≤ 80000) → sg_F [136, 137, 138, 151, 78088, 79088] σ59 σ63 → Q (sg_g σ46 88 73) σ63 := fun σ63 h f => by
        rw [x2]
        exact k σ63 (sg_F_t (sg_F_m F59 rfl) (sg_F_m f rfl)) (by rw [sg_F_g f (by rfl)]; exact b82) h (by rw [sg_F_g f (by rfl), c83]; exact x2) (fcX_F f rfl (fcX_F f59 rfl x3))
      by_cases h0 : sg_g σ46 88 73 = 0
      · obtain ⟨⟨q1, q2⟩, hv⟩ := x4 h0
        have e27 : sg_g σ59 88 27 = r := by rw [sg_F_g F59 (by rfl)]; exact hr
        have g91 : sg_g σ59 88 91 = sg_g σ46 88 91 := sg_F_g f59 (by rfl)
        have g87 : sg_g σ59 88 87 = sg_g σ46 88 87 := sg_F_g f59 (by rfl)
        have w31 := w3.1
        have w32 := w3.2
        refine m_showF (K := (T r).toNat) (by rw [c83]; exact h0) (by rw [e27]; omega) ?_ (by omega) ⟨by omega, by omega⟩ ?_ (fun σ63 a b _ => fin σ63 a b)
        · rw [e27, sg_F_ga (a := 101) F59 rfl, eT]; omega
        · rw [sg_F_ga (a := 133) f59 rfl]
          exact fLx_up (fEx_F f59 rfl) (by omega) hv
      · exact m_showE (by rw [c83]; exact h0) (fun σ63 a b _ => fin σ63 a b)
end BOT
/-! LANES of the class stand for lists of values; what is told of the next value, exactly. -/
/-- value v stands for l, lanes of depth d -/
def yX (σ : sg_S) : Nat → Int → List vaF → Prop
  | 0, v, l => yRw σ v l.length ∧ ∀ i : Nat, i < l.length → sg_g σ 78 (sg_g σ 80 v + i) = (l.getD i (nmF 0)) []
  | d + 1, v, l => yRw σ v l.length ∧ (∀ i : Nat, i < l.length → sg_g σ 78 (sg_g σ 80 v + i) = (l.getD i (nmF 0)) [] ∧ 0 ≤ (l.getD i (nmF 0)) [] ∧ (l.getD i (nmF 0)) [] ≤ 200) ∧ yLo σ v l.length ∧ yX σ d (sg_g σ 82 v) (flF l)
theorem yX_c {σ : sg_S} : ∀ {d : Nat} {v : Int} {l : List vaF}, yX σ d v l → yRw σ v l.length ∧ ∀ i : Nat, i < l.length → sg_g σ 78 (sg_g σ 80 v + i) = (l.getD i (nmF 0)) []
  | 0, v, l, h => h
  | d + 1, v, l, h => ⟨h.1, fun i hi => (h.2.1 i hi).1⟩
theorem su_ah {g : Int → Int} {p : Int} {l : List vaF} (h : ∀ i : Nat, i < l.length → g (p + i) = (l.getD i (nmF 0)) [] ∧ 0 ≤ (l.getD i (nmF 0)) []) : ∀ i : Nat, i ≤ l.length → su g p i = (ahF l i : Int)
  | 0, _ => by rw [ahF_0]; rfl
  | i + 1, hi => by
    obtain ⟨a, b⟩ := h i (by omega)
    simp only [su]
    rw [su_ah h i (by omega), a, ahF_s (by omega : i < l.length), itF_l]
    omega
theorem yX_s {σ : sg_S} {d : Nat} {v : Int} {l : List vaF} (h : yX σ (d + 1) v l) (i : Nat) (hi : i ≤ l.length) : su (sg_g σ 78) (sg_g σ 80 v) i = (ahF l i : Int) := su_ah (fun i hi => ⟨(h.2.1 i hi).1, (h.2.1 i hi).2.1⟩) i hi
theorem yX_V {σ : sg_S} : ∀ {d : Nat} {v : Int} {l : List vaF}, yX σ d v l → yV σ d v l.length
  | 0, v, l, h => h.1
  | d + 1, v, l, h => by
    refine ⟨h.1, fun i hi => ?_, h.2.2.1, ?_⟩
    · obtain ⟨a, b, c⟩ := h.2.1 i (by omega)
      rw [a]; exact ⟨b, c⟩
    · rw [Int.toNat_natCast, yX_s h l.length (Nat.le_refl _), ahF_n]
      exact yX_V h.2.2.2
theorem yX_up {σ σ' : sg_S} (x : yEx σ σ') : ∀ {d : Nat} {v : Int} {l : List vaF}, yX σ d v l → yX σ' d v l
  | 0, v, l, h => by
    have r := h.1
    refine ⟨yRw_up x r, fun i hi => ?_⟩
    obtain ⟨a1, a2, a3, a4, a5⟩ := r
    rw [(x.2.1 v a1.1 a1.2).1, x.2.2.1 _ (by omega) (by omega)]
    exact h.2 i hi
  | d + 1, v, l, h => by
    have r := h.1
    refine ⟨yRw_up x r, fun i hi => ?_, x.2.2.2 v _ r h.2.2.1, ?_⟩
    · obtain ⟨a1, a2, a3, a4, a5⟩ := r
      rw [(x.2.1 v a1.1 a1.2).1, x.2.2.1 _ (by omega) (by omega)]
      exact h.2.1 i hi
    · rw [(x.2.1 v r.1.1 r.1.2).2.2]
      exact yX_up x h.2.2.2
/-- cells, starts, ends of a lane -/
theorem yX_cell {σ : sg_S} (g : yG σ) {d : Nat} {v : Int} {l : List vaF} (h : yX σ d v l) {i : Nat} (hi : i < l.length) : v_lCell σ v i = (l.getD i (nmF 0)) [] ∧ p_lCell σ v i := by
  obtain ⟨r, c⟩ := yX_c h
  obtain ⟨a, b⟩ := y_cell g r (l := (i : Int)) ⟨by omega, by omega⟩
  exact ⟨by rw [a]; exact c i hi, b⟩
theorem yX_st {σ : sg_S} (g : yG σ) {d : Nat} {v : Int} {l : List vaF} (h : yX σ (d + 1) v l) {i : Nat} (hi : i < l.length) : v_lStart σ v i = (ahF l i : Int) ∧ p_lStart σ v i ∧ v_lEnd σ v i = (ahF l (i + 1) : Int) := by
  obtain ⟨a, b⟩ := y_start g h.1 (l := (i : Int)) ⟨by omega, by omega⟩
  have s : v_lStart σ v i = (ahF l i : Int) := by
    rw [a, h.2.2.1 i (by omega)]
    exact yX_s h i (by omega)
  refine ⟨s, b, ?_⟩
  show v_lStart σ v i + v_lCell σ v i = _
  rw [s, (yX_cell g h hi).1, ahF_s hi, itF_l]
  have := (h.2.1 i hi).2.1
  omega
/-- what was told: firsts, seconds, picks, a FINDING -/
def tlX (σ : sg_S) (F S : List Int) (P : List (Int × Int × Int)) (e : Int) : Prop := (sg_g σ 77 11 = F.length ∧ sg_g σ 77 12 = S.length ∧ sg_g σ 77 13 = P.length ∧ sg_g σ 77 14 = e) ∧ (sg_g σ 77 15 = if F.length ≤ 6000 ∧ S.length ≤ 6000 ∧ P.length ≤ 6000 then 0 else 1) ∧ (∀ (i : Nat) (x : Int), F[i]? = some x → i < 6000 → sg_g σ 83 i = x) ∧ (∀ (i : Nat) (x : Int), S[i]? = some x → i < 6000 → sg_g σ 84 i = x) ∧ ∀ (i : Nat) (x : Int × Int × Int), P[i]? = some x → i < 6000 → sg_g σ 85 i = x.1 ∧ sg_g σ 86 i = x.2.1 ∧ sg_g σ 87 i = x.2.2
theorem tlX_0 {σ : sg_S} (h : y0 σ) : tlX σ [] [] [] 0 := by
  obtain ⟨h1, h2, h3, h4, h5⟩ := h
  exact ⟨⟨h1, h2, h3, h4⟩, by rw [h5]; rfl, fun i x hx => by simp at hx, fun i x hx => by simp at hx, fun i x hx => by simp at hx⟩
theorem tlX_F {L : List Nat} {σ σ' : sg_S} {F S : List Int} {P : List (Int × Int × Int)} {e : Int} (h : tlX σ F S P e) (f : sg_F L σ σ') (hL : (!sg_cv L 77 11 && !sg_cv L 77 12 && !sg_cv L 77 13 && !sg_cv L 77 14 && !sg_cv L 77 15 && sg_ca L 83 && sg_ca L 84 && sg_ca L 85 && sg_ca L 86 && sg_ca L 87) = true) : tlX σ' F S P e := by
  simp only [Bool.and_eq_true, Bool.not_eq_true'] at hL
  obtain ⟨⟨⟨⟨⟨⟨⟨⟨⟨l1, l2⟩, l3⟩, l4⟩, l5⟩, l6⟩, l7⟩, l8⟩, l9⟩, l10⟩ := hL
  obtain ⟨⟨a1, a2, a3, a4⟩, a5, a6, a7, a8⟩ := h
  refine ⟨⟨by rw [sg_F_g f l1]; exact a1, by rw [sg_F_g f l2]; exact a2, by rw [sg_F_g f l3]; exact a3, by rw [sg_F_g f l4]; exact a4⟩, by rw [sg_F_g f l5]; exact a5, fun i x hx hi => by rw [sg_F_ga f l6]; exact a6 i x hx hi, fun i x hx hi => by rw [sg_F_ga f l7]; exact a7 i x hx hi, fun i x hx hi => ?_⟩
  rw [sg_F_ga f l8, sg_F_ga f l9, sg_F_ga f l10]
  exact a8 i x hx hi
theorem xp_out {σ : sg_S} {a : Nat} {n k v : Int} (h : ¬ (0 ≤ k ∧ k < n)) : sx_put σ a n k v = σ := by unfold sx_put; rw [if_neg h]
/-- a put at the end of a list -/
theorem put_l {σ σ' : sg_S} {a : Nat} {F : List Int} {x : Int} (hx : sg_R x) (e : σ' = sx_put σ a 6000 (F.length : Int) x) (h : ∀ (i : Nat) (y : Int), F[i]? = some y → i < 6000 → sg_g σ a i = y) (i : Nat) (y : Int) (hy : (F ++ [x])[i]? = some y) (hi : i < 6000) : sg_g σ' a i = y := by
  rcases Nat.lt_or_ge i F.length with q | q
  · rw [List.getElem?_append_left q] at hy
    have := h i y hy hi
    rw [e]
    by_cases c : (F.length : Int) < 6000
    · rw [xp_in ⟨by omega, c⟩, sg_gw_k _ _ _ _ _ _ (by omega)]; exact this
    · rw [xp_out (by omega)]; exact this
  · rw [List.getElem?_append_right q] at hy
    have ei : i = F.length := by
      rcases Nat.eq_zero_or_pos (i - F.length) with z | z
      · omega
      · rw [List.getElem?_eq_none (by simp; omega)] at hy; cases hy
    rw [ei, Nat.sub_self] at hy
    cases hy
    rw [e, ei, xp_in ⟨by omega, by omega⟩, sg_gw_e _ _ _ _ hx]
section CAS
variable {σ : sg_S} {F S : List Int} {P : List (Int × Int × Int)} {e x : Int} {Q : sg_S → Prop}
theorem x_miss (h : tlX σ F S P e) (hx : sg_R x) (k : ∀ σ', tlX σ' F S P (if e = 0 then x else e) → sg_F [15077] σ σ' → Q σ') : V_lMiss σ x Q := by
  obtain ⟨⟨a1, a2, a3, a4⟩, a5⟩ := id h
  unfold V_lMiss
  rw [a4]
  refine ⟨fun z => k σ (by rw [if_neg z]; exact h) (sg_F_r _ _), fun z σ2 e2 => ?_⟩
  have f : sg_F [15077] σ σ2 := by rw [e2]; exact sg_F_w (sg_F_r _ _) rfl _
  refine k σ2 ?_ f
  rw [if_pos z]
  refine ⟨⟨by rw [sg_F_g f (by rfl)]; exact a1, by rw [sg_F_g f (by rfl)]; exact a2, by rw [sg_F_g f (by rfl)]; exact a3, by rw [e2, sg_gw_e _ _ _ _ hx]⟩, by rw [sg_F_g f (by rfl)]; exact a5.1, fun i y hy hi => by rw [sg_F_ga f rfl]; exact a5.2.1 i y hy hi, fun i y hy hi => by rw [sg_F_ga f rfl]; exact a5.2.2.1 i y hy hi, fun i y hy hi => ?_⟩
  rw [sg_F_ga f rfl, sg_F_ga f rfl, sg_F_ga f rfl]
  exact a5.2.2.2 i y hy hi
theorem x_first (h : tlX σ F S P e) (hb : F.length ≤ 1000000000) (hx : sg_R x) (k : ∀ σ', tlX σ' (F ++ [x]) S P e → sg_F [83, 12077, 16077] σ σ' → Q σ') : V_lFirst σ x Q := by
  obtain ⟨⟨a1, a2, a3, a4⟩, a5, a6, a7, a8⟩ := id h
  unfold V_lFirst
  rw [a1]
  refine ⟨⟨fun _ => trivial, fun _ => ⟨fun _ => trivial, fun _ => trivial⟩⟩, fun v3 e3 r3 σ6 e6 σ9 e9 => ⟨⟨by omega, by omega⟩, fun σ13 e13 => ?_⟩⟩
  have f9 : sg_F [83, 12077, 16077] σ σ9 := by rw [e9, e6]; exact xF_p (sg_F_w (sg_F_r _ _) rfl _) rfl _ _ _
  have f13 : sg_F [83, 12077, 16077] σ σ13 := by rw [e13]; exact sg_F_w f9 rfl _
  have p9 : sg_F [83] σ6 σ9 := by rw [e9]; exact xF_p (sg_F_r _ _) rfl _ _ _
  have g15 : sg_g σ13 77 15 = v3 := by rw [e13, sg_gw_k _ _ _ _ _ _ (by decide), sg_F_g p9 (by rfl), e6, sg_gw_e _ _ _ _ r3]
  refine k σ13 ⟨⟨?_, by rw [sg_F_g f13 (by rfl)]; exact a2, by rw [sg_F_g f13 (by rfl)]; exact a3, by rw [sg_F_g f13 (by rfl)]; exact a4⟩, ?_, fun i y hy hi => ?_, fun i y hy hi => by rw [sg_F_ga f13 rfl]; exact a7 i y hy hi, fun i y hy hi => ?_⟩ f13
  · rw [e13, sg_gw_e _ _ _ _ ⟨by omega, by omega⟩, List.length_append, List.length_cons, List.length_nil]; omega
  · rw [g15, e3, a5, List.length_append, List.length_cons, List.length_nil]
    by_cases c : F.length ≤ 6000 ∧ S.length ≤ 6000 ∧ P.length ≤ 6000
    · rw [if_pos c, if_neg (fun z => z rfl)]
      by_cases c2 : (F.length : Int) < 6000
      · rw [if_pos c2, if_pos (by omega)]
      · rw [if_neg c2, if_neg (by omega)]
    · rw [if_neg c, if_pos (by decide), if_neg (by omega)]
  · rw [e13, sg_gw_c _ _ _ _ _ _ (by decide)]
    exact put_l hx e9 (fun i y hy hi => by rw [e6, sg_gw_c _ _ _ _ _ _ (by decide)]; exact a6 i y hy hi) i y hy hi
  · rw [sg_F_ga f13 rfl, sg_F_ga f13 rfl, sg_F_ga f13 rfl]
    exact a8 i y hy hi
theorem x_second (h : tlX σ F S P e) (hb : S.length ≤ 1000000000) (hx : sg_R x) (k : ∀ σ', tlX σ' F (S ++ [x]) P e → sg_F [84, 13077, 16077] σ σ' → Q σ') : V_lSecond σ x Q := by
  obtain ⟨⟨a1, a2, a3, a4⟩, a5, a6, a7, a8⟩ := id h
  unfold V_lSecond
  rw [a2]
  refine ⟨⟨fun _ => trivial, fun _ => ⟨fun _ => trivial, fun _ => trivial⟩⟩, fun v3 e3 r3 σ6 e6 σ9 e9 => ⟨⟨by omega, by omega⟩, fun σ13 e13 => ?_⟩⟩
  have f9 : sg_F [84, 13077, 16077] σ σ9 := by rw [e9, e6]; exact xF_p (sg_F_w (sg_F_r _ _) rfl _) rfl _ _ _
  have f13 : sg_F [84, 13077, 16077] σ σ13 := by rw [e13]; exact sg_F_w f9 rfl _
  have p9 : sg_F [84] σ6 σ9 := by rw [e9]; exact xF_p (sg_F_r _ _) rfl _ _ _
  have g15 : sg_g σ13 77 15 = v3 := by rw [e13, sg_gw_k _ _ _ _ _ _ (by decide), sg_F_g p9 (by rfl), e6, sg_gw_e _ _ _ _ r3]
  refine k σ13 ⟨⟨by rw [sg_F_g f13 (by rfl)]; exact a1, ?_, by rw [sg_F_g f13 (by rfl)]; exact a3, by rw [sg_F_g f13 (by rfl)]; exact a4⟩, ?_, fun i y hy hi => by rw [sg_F_ga f13 rfl]; exact a6 i y hy hi, fun i y hy hi => ?_, fun i y hy hi => ?_⟩ f13
  · rw [e13, sg_gw_e _ _ _ _ ⟨by omega, by omega⟩, List.length_append, List.length_cons, List.length_nil]; omega
  · rw [g15, e3, a5, List.length_append, List.length_cons, List.length_nil]
    by_cases c : F.length ≤ 6000 ∧ S.length ≤ 6000 ∧ P.length ≤ 6000
    · rw [if_pos c, if_neg (fun z => z rfl)]
      by_cases c2 : (S.length : Int) < 6000
      · rw [if_pos c2, if_pos (by omega)]
      · rw [if_neg c2, if_neg (by omega)]
    · rw [if_neg c, if_pos (by decide), if_neg (by omega)]
  · rw [e13, sg_gw_c _ _ _ _ _ _ (by decide)]
    exact put_l hx e9 (fun i y hy hi => by rw [e6, sg_gw_c _ _ _ _ _ _ (by decide)]; exact a7 i y hy hi) i y hy hi
  · rw [sg_F_ga f13 rfl, sg_F_ga f13 rfl, sg_F_ga f13 rfl]
    exact a8 i y hy hi
theorem x_pick {lo hi : Int} (h : tlX σ F S P e) (hb : P.length ≤ 1000000000) (hx : sg_R x) (hlo : sg_R lo) (hhi : sg_R hi) (k : ∀ σ', tlX σ' F S (if lo < hi then P ++ [(x, lo, hi)] else P) e → sg_F [85, 86, 87, 14077, 16077] σ σ' → Q σ') : V_lPick σ x lo hi Q := by
  obtain ⟨⟨a1, a2, a3, a4⟩, a5, a6, a7, a8⟩ := id h
  unfold V_lPick
  rw [a3]
  refine ⟨fun lt => ⟨⟨fun _ => trivial, fun _ => ⟨fun _ => trivial, fun _ => trivial⟩⟩, fun v4 e4 r4 σ7 e7 σ10 e10 σ13 e13 σ16 e16 => ⟨⟨by omega, by omega⟩, fun σ20 e20 => ?_⟩⟩, fun le => k σ (by rw [if_neg (by omega)]; exact h) (sg_F_r _ _)⟩
  have f16 : sg_F [85, 86, 87, 14077, 16077] σ σ16 := by rw [e16, e13, e10, e7]; exact xF_p (xF_p (xF_p (sg_F_w (sg_F_r _ _) rfl _) rfl _ _ _) rfl _ _ _) rfl _ _ _
  have f20 : sg_F [85, 86, 87, 14077, 16077] σ σ20 := by rw [e20]; exact sg_F_w f16 rfl _
  have f7 : sg_F [85, 86, 87] σ7 σ16 := by rw [e16, e13, e10]; exact xF_p (xF_p (xF_p (sg_F_r _ _) rfl _ _ _) rfl _ _ _) rfl _ _ _
  have g15 : sg_g σ20 77 15 = v4 := by rw [e20, sg_gw_k _ _ _ _ _ _ (by decide), sg_F_g f7 (by rfl), e7, sg_gw_e _ _ _ _ r4]
  rw [if_pos lt] at k
  have p10 : sg_F [85] σ7 σ10 := by rw [e10]; exact xF_p (sg_F_r _ _) rfl _ _ _
  have p13 : sg_F [86] σ10 σ13 := by rw [e13]; exact xF_p (sg_F_r _ _) rfl _ _ _
  have p16 : sg_F [87] σ13 σ16 := by rw [e16]; exact xF_p (sg_F_r _ _) rfl _ _ _
  have c7 : ∀ (a : Nat) (i : Int), a < 88 → ¬ a = 77 → sg_g σ7 a i = sg_g σ a i := fun a i _ ha => by rw [e7, sg_gw_c _ _ _ _ _ _ ha]
  refine k σ20 ⟨⟨by rw [sg_F_g f20 (by rfl)]; exact a1, by rw [sg_F_g f20 (by rfl)]; exact a2, ?_, by rw [sg_F_g f20 (by rfl)]; exact a4⟩, ?_, fun i y hy hi => by rw [sg_F_ga f20 rfl]; exact a6 i y hy hi, fun i y hy hi => by rw [sg_F_ga f20 rfl]; exact a7 i y hy hi, fun i y hy hi6 => ?_⟩ f20
  · rw [e20, sg_gw_e _ _ _ _ ⟨by omega, by omega⟩, List.length_append, List.length_cons, List.length_nil]; omega
  · rw [g15, e4, a5, List.length_append, List.length_cons, List.length_nil]
    by_cases c : F.length ≤ 6000 ∧ S.length ≤ 6000 ∧ P.length ≤ 6000
    · rw [if_pos c, if_neg (fun z => z rfl)]
      by_cases c2 : (P.length : Int) < 6000
      · rw [if_pos c2, if_pos (by omega)]
      · rw [if_neg c2, if_neg (by omega)]
    · rw [if_neg c, if_pos (by decide), if_neg (by omega)]
  · have pl : ∀ (σ1 σ2 : sg_S) (a : Nat) (w : Int) (pr : Int × Int × Int → Int), sg_R w → pr (x, lo, hi) = w → σ2 = sx_put σ1 a 6000 (P.length : Int) w → (∀ (i : Nat) (y : Int × Int × Int), P[i]? = some y → i < 6000 → sg_g σ1 a i = pr y) → sg_g σ2 a i = pr y := fun σ1 σ2 a w pr hw epr e2 h1 => by
      refine put_l (F := P.map pr) hw (by rw [List.length_map]; exact e2) (fun i' y' hy' hi' => ?_) i (pr y) ?_ hi6
      · rw [List.getElem?_map] at hy'
        cases q : P[i']? with
        | none => rw [q] at hy'; cases hy'
        | some u =>
          rw [q] at hy'
          cases hy'
          exact h1 i' u q hi'
      · rw [← epr, show (P.map pr ++ [pr (x, lo, hi)]) = (P ++ [(x, lo, hi)]).map pr by rw [List.map_append]; rfl, List.getElem?_map, hy]; rfl
    refine ⟨?_, ?_, ?_⟩
    · rw [e20, sg_gw_c _ _ _ _ _ _ (by decide), sg_F_ga p16 rfl, sg_F_ga p13 rfl]
      exact pl σ7 σ10 85 x (fun y => y.1) hx rfl e10 (fun i y hy hi => by rw [c7 85 i (by decide) (by decide)]; exact (a8 i y hy hi).1)
    · rw [e20, sg_gw_c _ _ _ _ _ _ (by decide), sg_F_ga p16 rfl]
      exact pl σ10 σ13 86 lo (fun y => y.2.1) hlo rfl e13 (fun i y hy hi => by rw [sg_F_ga p10 rfl, c7 86 i (by decide) (by decide)]; exact (a8 i y hy hi).2.1)
    · rw [e20, sg_gw_c _ _ _ _ _ _ (by decide)]
      exact pl σ13 σ16 87 hi (fun y => y.2.2) hhi rfl e16 (fun i y hy hi => by rw [sg_F_ga p13 rfl, sg_F_ga p10 rfl, c7 87 i (by decide) (by decide)]; exact (a8 i y hy hi).2.2)
end CAS
/-! store, copy, copyPicks of the class, exactly. -/
/-- xs is stored; or there is no room for it -/
def stX (σ σ' : sg_S) (xs : List Int) : Prop := (sg_g σ 77 16 ≤ sg_g σ' 77 16 ∧ sg_g σ' 77 16 ≤ 6000 ∧ sg_g σ' 77 16 ≤ sg_g σ 77 16 + xs.length) ∧ (∀ q, q < sg_g σ 77 16 → sg_g σ' 78 q = sg_g σ 78 q) ∧ (sg_g σ' 77 15 = if sg_g σ 77 16 + xs.length ≤ 6000 then 0 else 1) ∧ (sg_g σ 77 16 + xs.length ≤ 6000 → sg_g σ' 77 16 = sg_g σ 77 16 + xs.length) ∧ ∀ (i : Nat) (x : Int), xs[i]? = some x → sg_g σ 77 16 + i < sg_g σ' 77 16 → sg_g σ' 78 (sg_g σ 77 16 + i) = x
theorem stX_0 {σ : sg_S} (hu : sg_g σ 77 16 ≤ 6000) (ho : sg_g σ 77 15 = 0) : stX σ σ [] := by
  refine ⟨⟨Int.le_refl _, hu, by simp⟩, fun _ _ => rfl, ?_, fun _ => by simp, fun i x hx => by simp at hx⟩
  rw [if_pos (by simp; exact hu)]; exact ho
theorem stX_t {σ σ1 σ2 : sg_S} {xs ys : List Int} (a : stX σ σ1 xs) (h0 : sg_g σ1 77 15 = 0) (b : stX σ1 σ2 ys) : stX σ σ2 (xs ++ ys) := by
  obtain ⟨a1, a2, a3, a4, a6⟩ := a
  obtain ⟨b1, b2, b3, b4, b6⟩ := b
  have fit : sg_g σ 77 16 + xs.length ≤ 6000 := by
    refine Decidable.byContradiction (fun c => ?_)
    rw [if_neg c] at a3
    omega
  have a5 := a4 fit
  rw [a5] at b3 b4 b2 b1 b6
  refine ⟨⟨by omega, b1.2.1, by rw [List.length_append]; omega⟩, fun q hq => by rw [b2 q (by omega), a2 q hq], ?_, fun c => ?_, fun i x hx hi => ?_⟩
  · rw [b3, List.length_append]
    by_cases c : sg_g σ 77 16 + xs.length + ys.length ≤ 6000
    · rw [if_pos c, if_pos (by omega)]
    · rw [if_neg c, if_neg (by omega)]
  · rw [List.length_append] at c ⊢
    have b5 := b4 (by omega)
    rw [b5]; omega
  · rcases Nat.lt_or_ge i xs.length with q | q
    · rw [List.getElem?_append_left q] at hx
      rw [b2 _ (by omega)]
      exact a6 i x hx (by omega)
    · rw [List.getElem?_append_right q] at hx
      have := b6 (i - xs.length) x hx (by omega)
      rw [show sg_g σ 77 16 + (xs.length : Int) + ((i - xs.length : Nat) : Int) = sg_g σ 77 16 + i by omega] at this
      exact this
/-- once there is no room, there is none for more -/
theorem stX_o {σ σ1 : sg_S} {xs : List Int} (a : stX σ σ1 xs) (h1 : ¬ sg_g σ1 77 15 = 0) (ys : List Int) : stX σ σ1 (xs ++ ys) := by
  obtain ⟨a1, a2, a3, a4, a5⟩ := a
  have nf : ¬ sg_g σ 77 16 + xs.length ≤ 6000 := fun c => by rw [if_pos c] at a3; exact h1 a3
  have nf2 : ¬ sg_g σ 77 16 + ((xs ++ ys).length : Int) ≤ 6000 := by rw [List.length_append]; omega
  refine ⟨⟨a1.1, a1.2.1, by rw [List.length_append]; omega⟩, a2, ?_, fun c => absurd c nf2, fun i x hx hi => ?_⟩
  · rw [if_neg nf2, a3, if_neg nf]
  · rw [List.getElem?_append_left (by omega)] at hx
    exact a5 i x hx hi
theorem stX_F {L : List Nat} {σ σ1 σ2 : sg_S} {xs : List Int} (a : stX σ σ1 xs) (f : sg_F L σ1 σ2) (hL : (!sg_cv L 77 15 && !sg_cv L 77 16 && sg_ca L 78) = true) : stX σ σ2 xs := by
  simp only [Bool.and_eq_true, Bool.not_eq_true'] at hL
  obtain ⟨⟨l1, l2⟩, l3⟩ := hL
  obtain ⟨a1, a2, a3, a4, a5⟩ := a
  exact ⟨by rw [sg_F_g f l2]; exact a1, fun q hq => by rw [sg_F_ga f l3]; exact a2 q hq, by rw [sg_F_g f l1]; exact a3, fun c => by rw [sg_F_g f l2]; exact a4 c, fun i x hx hi => by rw [sg_F_g f l2] at hi; rw [sg_F_ga f l3]; exact a5 i x hx hi⟩
theorem stX_ex {L : List Nat} {σ σ1 : sg_S} {xs : List Int} (a : stX σ σ1 xs) (f : sg_F L σ σ1) (hL : (!sg_cv L 77 10 && sg_ca L 79 && sg_ca L 80 && sg_ca L 81 && sg_ca L 82) = true) : yEx σ σ1 := by
  simp only [Bool.and_eq_true, Bool.not_eq_true'] at hL
  obtain ⟨⟨⟨⟨l1, l4⟩, l5⟩, l6⟩, l7⟩ := hL
  refine ⟨⟨by rw [sg_F_g f l1]; exact Int.le_refl _, a.1.1⟩, fun v _ _ => ⟨sg_F_ga f l5, sg_F_ga f l6, sg_F_ga f l7⟩, fun x _ hx => a.2.1 x hx, fun v n w b i hi => ?_⟩
  rw [sg_F_ga f l5, sg_F_ga f l4, b i hi]
  have w5 := w.2.2.2.2
  exact (su_sh (fun j hj => a.2.1 _ (by omega))).symm
theorem stX_g {L : List Nat} {σ σ1 : sg_S} {xs : List Int} (g : yG σ) (a : stX σ σ1 xs) (f : sg_F L σ σ1) (hL : (!sg_cv L 77 10 && sg_ca L 80 && sg_ca L 81) = true) : yG σ1 := by
  simp only [Bool.and_eq_true, Bool.not_eq_true'] at hL
  obtain ⟨⟨l1, l5⟩, l6⟩ := hL
  have g2 := g.2.1
  have a1 := a.1
  refine ⟨by rw [sg_F_g f l1]; exact g.1, ⟨by omega, a.1.2.1⟩, fun v x y => ?_, fun v v' x y x' y' => ?_⟩
  · rw [sg_F_g f l1] at y
    have := g.2.2.1 v x y
    rw [sg_F_ga f l5, sg_F_ga f l6]; omega
  · rw [sg_F_g f l1] at y y'
    rw [sg_F_ga (a := 80) f l5, sg_F_ga (a := 81) f l6, sg_F_ga (a := 80) f l5, sg_F_ga (a := 81) f l6]
    exact g.2.2.2 v v' x y x' y'
section CBS
variable {σ : sg_S} {Q : sg_S → Prop}
theorem x_store {x : Int} (hu : 0 ≤ sg_g σ 77 16 ∧ sg_g σ 77 16 ≤ 6000) (ho : sg_g σ 77 15 = 0) (hx : sg_R x) (k : ∀ σ', sg_F [78, 16077, 17077] σ σ' → stX σ σ' [x] → Q σ') : V_lStore σ x Q := by
  unfold V_lStore
  refine ⟨fun z => by omega, fun _ => ⟨fun z σ6 e6 => ?_, fun z => ⟨⟨by omega, by omega⟩, fun σ10 e10 => ⟨⟨by omega, by omega⟩, fun σ14 e14 => ?_⟩⟩⟩⟩
  · have f : sg_F [78, 16077, 17077] σ σ6 := by rw [e6]; exact sg_F_w (sg_F_r _ _) rfl _
    have g16 : sg_g σ6 77 16 = sg_g σ 77 16 := by rw [e6, sg_gw_k _ _ _ _ _ _ (by decide)]
    refine k σ6 f ⟨⟨by omega, by omega, by simp; omega⟩, fun q _ => by rw [e6, sg_gw_c _ _ _ _ _ _ (by decide)], ?_, fun c => ?_, fun i y hy hi => by omega⟩
    · rw [if_neg (by simp; omega), e6, sg_gw_e _ _ _ _ (by decide)]
    · simp at c; omega
  · have f : sg_F [78, 16077, 17077] σ σ14 := by rw [e14, e10]; exact sg_F_w (sg_F_w (sg_F_r _ _) rfl _) rfl _
    have g16 : sg_g σ14 77 16 = sg_g σ 77 16 + 1 := by rw [e14, sg_gw_e _ _ _ _ ⟨by omega, by omega⟩]
    refine k σ14 f ⟨⟨by omega, by omega, by simp; omega⟩, fun q hq => by rw [e14, sg_gw_c _ _ _ _ _ _ (by decide), e10, sg_gw_k _ _ _ _ _ _ (by omega)], ?_, fun c => by rw [g16]; rfl, fun i y hy _ => ?_⟩
    · rw [if_pos (by simp; omega), e14, sg_gw_k _ _ _ _ _ _ (by decide), e10, sg_gw_c _ _ _ _ _ _ (by decide)]; exact ho
    · have hi := gE_l hy
      simp only [List.length_cons, List.length_nil] at hi
      have ei : i = 0 := by omega
      subst ei
      cases hy
      rw [e14, sg_gw_c _ _ _ _ _ _ (by decide), e10, show sg_g σ 77 16 + ((0 : Nat) : Int) = sg_g σ 77 16 by omega, sg_gw_e _ _ _ _ hx]
theorem tkA {α : Type} {F : List α} {j : Nat} {x : α} (h : F[j]? = some x) : F.take (j + 1) = F.take j ++ [x] := by
  rw [List.take_add_one, h]; rfl
theorem x_copy83 {a : Int} {F : List Int} (hu : 0 ≤ sg_g σ 77 16 ∧ sg_g σ 77 16 ≤ 6000) (ho : sg_g σ 77 15 = 0) (ha : a = F.length) (h6 : F.length ≤ 6000) (hF : ∀ (i : Nat) (x : Int), F[i]? = some x → sg_g σ 83 i = x) (k : ∀ σ', sg_F [78, 16077, 17077] σ σ' → stX σ σ' F → Q σ') : V_lCopy83 σ a Q := by
  unfold V_lCopy83
  rw [ha]
  refine ⟨fun m v σ2 => ∃ j : Nat, v = j ∧ j ≤ F.length ∧ m = F.length - j ∧ stX σ σ2 (F.take j), fun σ2 => stX σ σ2 F, ⟨_, 0, rfl, Nat.zero_le _, rfl, by rw [List.take_zero]; exact stX_0 hu.2 ho⟩, ?_, fun σ2 f2 h2 => k σ2 f2 h2⟩
  rintro m v σ2 rv f2 ⟨j, rfl, hj, hm, hs⟩
  refine ⟨fun z => by rw [List.take_of_length_le (by omega)] at hs; exact hs, fun z => ⟨fun y => ?_, fun y => ?_⟩⟩
  · have := stX_o hs y (F.drop j)
    rwa [List.take_append_drop] at this
  · obtain ⟨x, hx⟩ : ∃ x, F[j]? = some x := ⟨_, List.getElem?_eq_getElem (by omega)⟩
    rw [xa_in ⟨by omega, by omega⟩, hF j x hx]
    refine x_store ⟨by have := hs.1; omega, hs.1.2.1⟩ y (by rw [← hF j x hx]; exact sg_Rg _ _ _) (fun σ' f' s' _ => ⟨⟨by omega, by omega⟩, F.length - (j + 1), by omega, j + 1, by omega, by omega, rfl, by rw [tkA hx]; exact stX_t hs y s'⟩)
theorem x_copy84 {a : Int} {F : List Int} (hu : 0 ≤ sg_g σ 77 16 ∧ sg_g σ 77 16 ≤ 6000) (ho : sg_g σ 77 15 = 0) (ha : a = F.length) (h6 : F.length ≤ 6000) (hF : ∀ (i : Nat) (x : Int), F[i]? = some x → sg_g σ 84 i = x) (k : ∀ σ', sg_F [78, 16077, 17077] σ σ' → stX σ σ' F → Q σ') : V_lCopy84 σ a Q := by
  unfold V_lCopy84
  rw [ha]
  refine ⟨fun m v σ2 => ∃ j : Nat, v = j ∧ j ≤ F.length ∧ m = F.length - j ∧ stX σ σ2 (F.take j), fun σ2 => stX σ σ2 F, ⟨_, 0, rfl, Nat.zero_le _, rfl, by rw [List.take_zero]; exact stX_0 hu.2 ho⟩, ?_, fun σ2 f2 h2 => k σ2 f2 h2⟩
  rintro m v σ2 rv f2 ⟨j, rfl, hj, hm, hs⟩
  refine ⟨fun z => by rw [List.take_of_length_le (by omega)] at hs; exact hs, fun z => ⟨fun y => ?_, fun y => ?_⟩⟩
  · have := stX_o hs y (F.drop j)
    rwa [List.take_append_drop] at this
  · obtain ⟨x, hx⟩ : ∃ x, F[j]? = some x := ⟨_, List.getElem?_eq_getElem (by omega)⟩
    rw [xa_in ⟨by omega, by omega⟩, hF j x hx]
    refine x_store ⟨by have := hs.1; omega, hs.1.2.1⟩ y (by rw [← hF j x hx]; exact sg_Rg _ _ _) (fun σ' f' s' _ => ⟨⟨by omega, by omega⟩, F.length - (j + 1), by omega, j + 1, by omega, by omega, rfl, by rw [tkA hx]; exact stX_t hs y s'⟩)
end CBS
/-- lanes lo .. hi of value v, of depth d: q; of -1: a lane at fault -/
def pkX (σ : sg_S) (d : Nat) (v lo hi : Int) (q : List vaF) : Prop := (v = -1 ∧ lo = 0 ∧ ((hi = 1 ∧ q = [nmF 0]) ∨ (hi = 0 ∧ q = []))) ∨ ∃ l, yX σ d v l ∧ 0 ≤ lo ∧ lo ≤ hi ∧ hi ≤ l.length ∧ q = (l.drop lo.toNat).take (hi - lo).toNat
theorem pkX_up {σ σ' : sg_S} (x : yEx σ σ') {d : Nat} {v lo hi : Int} {q : List vaF} (h : pkX σ d v lo hi q) : pkX σ' d v lo hi q := by
  rcases h with h | ⟨l, h1, h2⟩
  · exact Or.inl h
  · exact Or.inr ⟨l, yX_up x h1, h2⟩
theorem pkX_l {σ : sg_S} {d : Nat} {v lo hi : Int} {q : List vaF} (h : pkX σ d v lo hi q) : 0 ≤ lo ∧ lo ≤ hi ∧ (q.length : Int) = hi - lo := by
  rcases h with ⟨-, e1, ⟨e2, e3⟩ | ⟨e2, e3⟩⟩ | ⟨l, h1, h2, h3, h4, e⟩
  · rw [e1, e2, e3]; exact ⟨by decide, by decide, rfl⟩
  · rw [e1, e2, e3]; exact ⟨by decide, by decide, rfl⟩
  · rw [e, List.length_take, List.length_drop]
    exact ⟨h2, h3, by omega⟩
theorem pkX_g {σ : sg_S} {d : Nat} {v lo hi : Int} {q : List vaF} (h : pkX σ d v lo hi q) : pkg σ d v lo hi := by
  have b := pkX_l h
  refine ⟨⟨b.1, b.2.1⟩, ?_⟩
  rcases h with ⟨e0, e1, ⟨e2, e3⟩ | ⟨e2, e3⟩⟩ | ⟨l, h1, h2, h3, h4, e⟩
  · exact Or.inl ⟨e0, by omega⟩
  · exact Or.inl ⟨e0, by omega⟩
  · exact Or.inr ⟨l.length, yX_V h1, h4⟩
theorem pkX_c {σ : sg_S} (g : yG σ) {d : Nat} {v lo hi : Int} {q : List vaF} (h : pkX σ d v lo hi q) {i : Nat} (hi' : i < q.length) : v_lCell σ v (lo + i) = (q.getD i (nmF 0)) [] := by
  have b := pkX_l h
  rcases h with ⟨e0, e1, ⟨e2, e3⟩ | ⟨e2, e3⟩⟩ | ⟨l, h1, h2, h3, h4, e⟩
  · rw [(y_cellN (σ := σ) (v := v) (l := lo + i) (by omega)).1, e3]
    rw [e3] at hi'
    simp only [List.length_cons, List.length_nil] at hi'
    rw [show i = 0 by omega]; rfl
  · rw [e3] at hi'; simp at hi'
  · have hl : lo.toNat + i < l.length := by omega
    have c := (yX_cell g h1 hl).1
    rw [show (((lo.toNat + i : Nat)) : Int) = lo + i by omega] at c
    rw [c, e, List.getD_eq_getElem?_getD, List.getD_eq_getElem?_getD, List.getElem?_take_of_lt (by omega), List.getElem?_drop]
theorem flF_dt {l : List vaF} {a k : Nat} (h : a + k ≤ l.length) : flF ((l.drop a).take k) = ((flF l).drop (ahF l a)).take (ahF l (a + k) - ahF l a) := by
  have e1 : l = l.take a ++ ((l.drop a).take k ++ (l.drop a).drop k) := by rw [List.take_append_drop, List.take_append_drop]
  have e2 : flF l = flF (l.take a) ++ (flF ((l.drop a).take k) ++ flF ((l.drop a).drop k)) := by
    have := congrArg flF e1
    rw [flF_a, flF_a] at this
    exact this
  have e3 : l.take (a + k) = l.take a ++ (l.drop a).take k := by rw [List.take_add]
  have e4 : ahF l (a + k) = ahF l a + (flF ((l.drop a).take k)).length := by
    unfold ahF
    rw [e3, flF_a, List.length_append]
  rw [e4, Nat.add_sub_cancel_left, e2]
  have e5 : ahF l a = (flF (l.take a)).length := rfl
  rw [e5, List.drop_left, List.take_left]
theorem pkX_n {σ : sg_S} (g : yG σ) {d : Nat} {v lo hi : Int} {q : List vaF} (h : pkX σ (d + 1) v lo hi q) {lo' hi' : Int} (e1 : lo' = if hi ≤ lo then 0 else v_lStart σ v lo) (e2 : hi' = if hi ≤ lo then 0 else v_lStart σ v (hi - 1) + v_lCell σ v (hi - 1)) : pkX σ d (v_lItems σ v) lo' hi' (flF q) := by
  have b := pkX_l h
  rcases h with ⟨e0, f1, ⟨f2, f3⟩ | ⟨f2, f3⟩⟩ | ⟨l, h1, h2, h3, h4, e⟩
  · rw [if_neg (by omega)] at e1 e2
    obtain ⟨c1, c2, c3, c4, c5⟩ := y_cellN (σ := σ) (v := v) (l := lo) (by omega)
    obtain ⟨d1, d2, d3, d4, d5⟩ := y_cellN (σ := σ) (v := v) (l := hi - 1) (by omega)
    rw [c3] at e1
    rw [d3, d1] at e2
    left
    refine ⟨c5, e1, Or.inr ⟨e2, ?_⟩⟩
    rw [f3, flF_1]
    simp [itF, nmF]
  · rw [if_pos (by omega)] at e1 e2
    left
    exact ⟨(y_cellN (σ := σ) (v := v) (l := lo) (by omega)).2.2.2.2, e1, Or.inr ⟨e2, by rw [f3]; rfl⟩⟩
  · right
    have r := h1.1
    have nx := h1.2.2.2
    rw [← y_items g r] at nx
    by_cases c : hi ≤ lo
    · rw [if_pos c] at e1 e2
      refine ⟨flF l, nx, by omega, by omega, by omega, ?_⟩
      rw [e, e1, e2, show (hi - lo).toNat = 0 by omega]
      simp [flF]
    · rw [if_neg c] at e1 e2
      have s1 := (yX_st g h1 (i := lo.toNat) (by omega)).1
      have s2 := (yX_st g h1 (i := (hi - 1).toNat) (by omega)).2.2
      have s3 : v_lEnd σ v ((hi - 1).toNat : Int) = v_lStart σ v ((hi - 1).toNat : Int) + v_lCell σ v ((hi - 1).toNat : Int) := rfl
      rw [s3, show (((hi - 1).toNat : Nat) : Int) = hi - 1 by omega] at s2
      rw [show ((lo.toNat : Nat) : Int) = lo by omega] at s1
      rw [show (hi - 1).toNat + 1 = hi.toNat by omega] at s2
      rw [s1] at e1
      rw [s2] at e2
      have hd := flF_dt (l := l) (a := lo.toNat) (k := (hi - lo).toNat) (by omega)
      rw [show lo.toNat + (hi - lo).toNat = hi.toNat by omega] at hd
      have mono : ahF l lo.toNat ≤ ahF l hi.toNat := by
        have e3 : l.take hi.toNat = l.take lo.toNat ++ (l.drop lo.toNat).take (hi.toNat - lo.toNat) := by
          rw [← List.take_add]
          congr 1
          omega
        unfold ahF
        rw [e3, flF_a, List.length_append]
        omega
      have top : ahF l hi.toNat ≤ (flF l).length := by
        have := flF_a (l.take hi.toNat) (l.drop hi.toNat)
        rw [List.take_append_drop] at this
        rw [this, List.length_append]
        unfold ahF
        omega
      refine ⟨flF l, nx, by omega, by omega, by omega, ?_⟩
      rw [e, hd, e1, e2]
      congr 1
      · omega
/-! copyPicks, seal of the class, exactly. -/
/-- picks of depth d stand for lists -/
def pkR (σ : sg_S) (d : Nat) (qs : List (List vaF)) : Prop := sg_g σ 77 13 = qs.length ∧ qs.length ≤ 6000 ∧ ∀ (i : Nat) (q : List vaF), qs[i]? = some q → pkX σ d (sg_g σ 85 i) (sg_g σ 86 i) (sg_g σ 87 i) q
theorem pkR_F {L : List Nat} {σ σ' : sg_S} {d : Nat} {qs : List (List vaF)} (h : pkR σ d qs) (f : sg_F L σ σ') (ex : yEx σ σ') (hL : (!sg_cv L 77 13 && sg_ca L 85 && sg_ca L 86 && sg_ca L 87) = true) : pkR σ' d qs := by
  simp only [Bool.and_eq_true, Bool.not_eq_true'] at hL
  obtain ⟨⟨⟨l1, l2⟩, l3⟩, l4⟩ := hL
  refine ⟨by rw [sg_F_g f l1]; exact h.1, h.2.1, fun i q hq => ?_⟩
  rw [sg_F_ga f l2, sg_F_ga f l3, sg_F_ga f l4]
  exact pkX_up ex (h.2.2 i q hq)
theorem fl_fl : ∀ qs : List (List vaF), (qs.map flF).flatten = flF qs.flatten
  | [] => rfl
  | q :: r => by rw [List.map_cons, List.flatten_cons, List.flatten_cons, flF_a, fl_fl r]
theorem fl_tk {qs : List (List vaF)} {j : Nat} {q : List vaF} (h : qs[j]? = some q) : (qs.take (j + 1)).flatten = (qs.take j).flatten ++ q := by
  rw [tkA h, List.flatten_append, List.flatten_cons, List.flatten_nil, List.append_nil]
section CCS
variable {σ : sg_S} {Q : sg_S → Prop}
theorem x_copyPicks {d : Nat} {qs : List (List vaF)} (g : yG σ) (ho : sg_g σ 77 15 = 0) (hp : pkR σ d qs) (k : ∀ σ', sg_F [78, 85, 86, 87, 16077, 17077] σ σ' → stX σ σ' (qs.flatten.map (fun v => v [])) → yG σ' → (sg_g σ' 77 15 = 0 → ∀ d', d = d' + 1 → pkR σ' d' (qs.map flF)) → Q σ') : V_lCopyPicks σ Q := by
  obtain ⟨p1, p2, p3⟩ := hp
  have hu := g.2.1
  unfold V_lCopyPicks
  rw [p1]
  have up : ∀ σ2 xs, sg_F [78, 85, 86, 87, 16077, 17077] σ σ2 → stX σ σ2 xs → yEx σ σ2 ∧ yG σ2 := fun σ2 xs f s => ⟨stX_ex s f rfl, stX_g g s f rfl⟩
  refine ⟨fun n v σ2 => ∃ j : Nat, v = j ∧ j ≤ qs.length ∧ n = qs.length - j ∧ stX σ σ2 ((qs.take j).flatten.map (fun v => v [])) ∧ (∀ i : Nat, j ≤ i → sg_g σ2 85 i = sg_g σ 85 i ∧ sg_g σ2 86 i = sg_g σ 86 i ∧ sg_g σ2 87 i = sg_g σ 87 i) ∧ (∀ d', d = d' + 1 → ∀ (i : Nat) (q : List vaF), i < j → qs[i]? = some q → pkX σ2 d' (sg_g σ2 85 i) (sg_g σ2 86 i) (sg_g σ2 87 i) (flF q)), fun σ2 => stX σ σ2 (qs.flatten.map (fun v => v [])) ∧ (sg_g σ2 77 15 = 0 → ∀ d', d = d' + 1 → ∀ (i : Nat) (q : List vaF), qs[i]? = some q → pkX σ2 d' (sg_g σ2 85 i) (sg_g σ2 86 i) (sg_g σ2 87 i) (flF q)), ⟨_, 0, rfl, Nat.zero_le _, rfl, stX_0 hu.2 ho, fun i _ => ⟨rfl, rfl, rfl⟩, fun d' _ i q hi => by omega⟩, ?_, ?_⟩
  · rintro n v σ2 rv f2 ⟨j, rfl, hj, hn, hs, hr, hz⟩
    obtain ⟨ex2, g2⟩ := up σ2 _ f2 hs
    refine ⟨fun z => ?_, fun z => ⟨fun y => ⟨?_, fun y2 => absurd y2 y⟩, fun y => ?_⟩⟩
    · rw [List.take_of_length_le (by omega)] at hs
      exact ⟨hs, fun _ d' hd i q hq => hz d' hd i q (by have := gE_l hq; omega) hq⟩
    · have := stX_o hs y ((qs.drop j).flatten.map (fun v => v []))
      rwa [← List.map_append, ← List.flatten_append, List.take_append_drop] at this
    · obtain ⟨q, hq⟩ : ∃ q, qs[j]? = some q := ⟨_, List.getElem?_eq_getElem (by omega)⟩
      obtain ⟨r1, r2, r3⟩ := hr j (Nat.le_refl _)
      have pj := p3 j q hq
      have j6 : 0 ≤ (j : Int) ∧ (j : Int) < 6000 := by omega
      rw [xa_in (a := 85) j6, xa_in (a := 86) j6, xa_in (a := 87) j6, r1, r2, r3]
      generalize hv : sg_g σ 85 j = v at *
      generalize hlo : sg_g σ 86 j = lo at *
      generalize hhi : sg_g σ 87 j = hi at *
      obtain ⟨b1, b2, b3⟩ := pkX_l pj
      have pg := pkX_g pj
      have rlo : sg_R lo := by rw [← hlo]; exact sg_Rg _ _ _
      have rhi : sg_R hi := by rw [← hhi]; exact sg_Rg _ _ _
      refine ⟨fun n' v18 σ19 => ∃ i : Nat, v18 = lo + i ∧ i ≤ q.length ∧ n' = q.length - i ∧ stX σ2 σ19 ((q.take i).map (fun v => v [])), fun σ19 => stX σ2 σ19 (q.map (fun v => v [])), ⟨_, 0, by omega, Nat.zero_le _, rfl, stX_0 g2.2.1.2 y⟩, ?_, ?_⟩
      · rintro n' v18 σ19 r18 f19 ⟨i, rfl, hi1, hn', hs'⟩
        refine ⟨fun c => ?_, fun c => ⟨fun c2 => ?_, fun c2 => ?_⟩⟩
        · rw [List.take_of_length_le (by omega)] at hs'; exact hs'
        · have := stX_o hs' c2 ((q.drop i).map (fun v => v []))
          rwa [← List.map_append, List.take_append_drop] at this
        · obtain ⟨ex19, g19⟩ := up σ19 _ (sg_F_t f2 (sg_F_m f19 rfl)) (stX_t hs y hs')
          have ce := pk_cell_up g g19 ex19 pg (l := lo + i) ⟨by omega, c⟩
          have cv := pkX_c g pj (i := i) (by omega)
          refine ⟨(pk_cell g19 (pkg_up ex19 pg) ⟨by omega, c⟩).1, ?_⟩
          have hrc : sg_R (v_lCell σ19 v (lo + i)) := by
            unfold v_lCell
            repeat' split
            all_goals first | exact sg_Rg _ _ _ | decide
          refine x_store g19.2.1 c2 hrc (fun σ' f' s' _ => ⟨⟨by omega, by omega⟩, q.length - (i + 1), by omega, i + 1, by omega, by omega, rfl, ?_⟩)
          rw [tk_D (by omega : i < q.length), List.map_append]
          have e : [v_lCell σ19 v (lo + i)] = [q.getD i (nmF 0)].map (fun v => v []) := by rw [ce, cv]; rfl
          rw [← e]
          exact stX_t hs' c2 s'
      · intro σ19 f19 hs'
        have f19' := sg_F_t f2 (sg_F_m f19 rfl)
        have st19 := stX_t hs y hs'
        obtain ⟨ex19, g19⟩ := up σ19 _ f19' st19
        have ps : lo < hi → p_lStart σ v lo ∧ p_lStart σ v (hi - 1) ∧ p_lCell σ19 v (hi - 1) ∧ v_lCell σ19 v (hi - 1) = v_lCell σ v (hi - 1) := fun c => by
          refine ⟨?_, ?_, (pk_cell g19 (pkg_up ex19 pg) ⟨by omega, by omega⟩).1, pk_cell_up g g19 ex19 pg ⟨by omega, by omega⟩⟩
          · rcases pg.2 with ⟨e, -⟩ | ⟨n0, a, b⟩
            · exact (y_cellN (by omega)).2.2.2.1
            · exact (y_start g (yV_r a) ⟨by omega, by omega⟩).2
          · rcases pg.2 with ⟨e, -⟩ | ⟨n0, a, b⟩
            · exact (y_cellN (by omega)).2.2.2.1
            · exact (y_start g (yV_r a) ⟨by omega, by omega⟩).2
        refine ⟨y_pitems _ _, fun σ35 e35 => ⟨⟨fun _ => trivial, fun c => ⟨(ps c).1, trivial⟩⟩, fun v40 e40 r40 σ43 e43 => ⟨⟨fun _ => trivial, fun c => ⟨⟨by omega, by omega⟩, (ps c).2.1, (ps c).2.2.1, trivial⟩⟩, fun v48 e48 r48 σ51 e51 => ⟨⟨by omega, by omega⟩, qs.length - (j + 1), by omega, j + 1, by omega, by omega, rfl, ?_, fun i hi2 => ?_, fun d' hd i q' hi2 hq' => ?_⟩⟩⟩⟩
        all_goals rw [xp_in j6] at e35 e43 e51
        all_goals have f51 : sg_F [85, 86, 87] σ19 σ51 := by rw [e51, e43, e35]; exact sg_F_w (sg_F_w (sg_F_w (sg_F_r _ _) rfl _) rfl _) rfl _
        · rw [fl_tk hq, List.map_append]
          exact stX_F st19 f51 rfl
        · have hij : ¬ (i : Int) = j := by omega
          obtain ⟨t1, t2, t3⟩ := hr i (by omega)
          refine ⟨?_, ?_, ?_⟩
          · rw [e51, sg_gw_c _ _ _ _ _ _ (by decide), e43, sg_gw_c _ _ _ _ _ _ (by decide), e35, sg_gw_k _ _ _ _ _ _ hij, sg_F_ga f19 rfl, t1]
          · rw [e51, sg_gw_c _ _ _ _ _ _ (by decide), e43, sg_gw_k _ _ _ _ _ _ hij, e35, sg_gw_c _ _ _ _ _ _ (by decide), sg_F_ga f19 rfl, t2]
          · rw [e51, sg_gw_k _ _ _ _ _ _ hij, e43, sg_gw_c _ _ _ _ _ _ (by decide), e35, sg_gw_c _ _ _ _ _ _ (by decide), sg_F_ga f19 rfl, t3]
        · have ex51 : yEx σ19 σ51 := yEx_F f51 rfl
          have ex2' : yEx σ2 σ51 := yEx_t (stX_ex hs' f19 rfl) ex51
          subst hd
          by_cases e : i = j
          · subst e
            rw [hq] at hq'
            cases hq'
            have rit : sg_R (v_lItems σ v) := by
              unfold v_lItems
              repeat' split
              all_goals first | exact sg_Rg _ _ _ | decide
            have i85 : sg_g σ51 85 i = v_lItems σ v := by
              rw [e51, sg_gw_c _ _ _ _ _ _ (by decide), e43, sg_gw_c _ _ _ _ _ _ (by decide), e35, sg_gw_e _ _ _ _ rit]
            have i86 : sg_g σ51 86 i = v40 := by rw [e51, sg_gw_c _ _ _ _ _ _ (by decide), e43, sg_gw_e _ _ _ _ r40]
            have i87 : sg_g σ51 87 i = v48 := by rw [e51, sg_gw_e _ _ _ _ r48]
            rw [i85, i86, i87]
            refine pkX_up (yEx_t ex19 ex51) (pkX_n g pj e40 ?_)
            by_cases c : lo < hi
            · rw [if_neg (by omega)] at e48 ⊢
              obtain ⟨n1, n2, n3, n4, n5, n6⟩ := pk_next g pg c
              rw [(ps c).2.2.2, sg_id ⟨by have := n1.1; omega, by omega⟩] at e48
              exact e48
            · rw [if_pos (by omega)] at e48 ⊢
              exact e48
          · have hij : ¬ (i : Int) = j := by omega
            have t1 : sg_g σ51 85 i = sg_g σ2 85 i := by rw [e51, sg_gw_c _ _ _ _ _ _ (by decide), e43, sg_gw_c _ _ _ _ _ _ (by decide), e35, sg_gw_k _ _ _ _ _ _ hij, sg_F_ga f19 rfl]
            have t2 : sg_g σ51 86 i = sg_g σ2 86 i := by rw [e51, sg_gw_c _ _ _ _ _ _ (by decide), e43, sg_gw_k _ _ _ _ _ _ hij, e35, sg_gw_c _ _ _ _ _ _ (by decide), sg_F_ga f19 rfl]
            have t3 : sg_g σ51 87 i = sg_g σ2 87 i := by rw [e51, sg_gw_k _ _ _ _ _ _ hij, e43, sg_gw_c _ _ _ _ _ _ (by decide), e35, sg_gw_c _ _ _ _ _ _ (by decide), sg_F_ga f19 rfl]
            rw [t1, t2, t3]
            exact pkX_up ex2' (hz d' rfl i q' (by omega) hq')
  · rintro σ2 f2 ⟨h1, h2⟩
    refine k σ2 f2 h1 (up σ2 _ f2 h1).2 (fun z d' hd => ⟨by rw [sg_F_g f2 (by rfl), List.length_map]; exact p1, by rw [List.length_map]; exact p2, fun i q hq => ?_⟩)
    rw [List.getElem?_map] at hq
    cases e : qs[i]? with
    | none => rw [e] at hq; cases hq
    | some q' =>
      rw [e] at hq
      cases hq
      exact h2 z d' hd i q' e
end CCS
/-! seal of the class, exactly. -/
def flN : Nat → List vaF → List vaF
  | 0, l => l
  | k + 1, l => flF (flN k l)
theorem flN_s (l : List vaF) : ∀ k : Nat, flN k (flF l) = flN (k + 1) l
  | 0 => rfl
  | k + 1 => by
    show flF (flN k (flF l)) = flF (flN (k + 1) l)
    rw [flN_s l k]
/-- cells of the first k levels -/
def sxL : Nat → List vaF → Int
  | 0, _ => 0
  | k + 1, l => sxL k l + ((flN k l).length : Int)
theorem sxL_s (l : List vaF) : ∀ k : Nat, sxL (k + 1) l = (l.length : Int) + sxL k (flF l)
  | 0 => by simp [sxL, flN]
  | k + 1 => by
    have ih := sxL_s l k
    show sxL (k + 1) l + ((flN (k + 1) l).length : Int) = (l.length : Int) + (sxL k (flF l) + ((flN k (flF l)).length : Int))
    rw [ih, flN_s]
    omega
theorem exF_sx : ∀ (d : Nat) (l : List vaF), exF d l = sxL (d + 1) l
  | 0, l => by simp [sxL, flN, exF]
  | d + 1, l => by rw [sxL_s, ← exF_sx d (flF l)]; rfl
theorem sxL_m (l : List vaF) {a : Nat} : ∀ {b : Nat}, a ≤ b → sxL a l ≤ sxL b l
  | 0, h => by rw [show a = 0 by omega]; exact Int.le_refl _
  | b + 1, h => by
    by_cases e : a = b + 1
    · rw [e]; exact Int.le_refl _
    · have := sxL_m l (a := a) (b := b) (by omega)
      simp only [sxL]
      omega
/-- what is to be stored, and what it stands for -/
def srP (σ : sg_S) (d : Nat) (L : List vaF) : Prop := ∃ qs, pkR σ d qs ∧ qs.flatten = L
def srS (σ : sg_S) (d : Nat) (L : List vaF) : Prop := (sg_g σ 77 12 = L.length ∧ L.length ≤ 6000 ∧ ∀ i : Nat, i < L.length → sg_g σ 84 i = (L.getD i (nmF 0)) []) ∧ ∀ d', d = d' + 1 → (∀ i : Nat, i < L.length → 0 ≤ (L.getD i (nmF 0)) [] ∧ (L.getD i (nmF 0)) [] ≤ 200) ∧ srP σ d' (flF L)
def srF (σ : sg_S) (f d : Nat) (L : List vaF) : Prop := (sg_g σ 77 11 = L.length ∧ L.length ≤ 6000 ∧ ∀ i : Nat, i < L.length → sg_g σ 83 i = (L.getD i (nmF 0)) []) ∧ ∀ d', d = d' + 1 → (∀ i : Nat, i < L.length → 0 ≤ (L.getD i (nmF 0)) [] ∧ (L.getD i (nmF 0)) [] ≤ 200) ∧ (if f = 1 then srP σ d' (flF L) else srS σ d' (flF L))
def srX (σ : sg_S) (f k d : Nat) (L : List vaF) : Prop := if f ≤ k then srP σ d L else if k = 0 then srF σ f d L else srS σ d L
theorem srP_F {L : List Nat} {σ σ' : sg_S} {d : Nat} {l : List vaF} (h : srP σ d l) (f : sg_F L σ σ') (ex : yEx σ σ') (hL : (!sg_cv L 77 13 && sg_ca L 85 && sg_ca L 86 && sg_ca L 87) = true) : srP σ' d l := by
  obtain ⟨qs, h1, h2⟩ := h
  exact ⟨qs, pkR_F h1 f ex hL, h2⟩
theorem srS_F {L : List Nat} {σ σ' : sg_S} {d : Nat} {l : List vaF} (h : srS σ d l) (f : sg_F L σ σ') (ex : yEx σ σ') (hL : (!sg_cv L 77 12 && !sg_cv L 77 13 && sg_ca L 84 && sg_ca L 85 && sg_ca L 86 && sg_ca L 87) = true) : srS σ' d l := by
  simp only [Bool.and_eq_true, Bool.not_eq_true'] at hL
  obtain ⟨⟨⟨⟨⟨l1, l2⟩, l3⟩, l4⟩, l5⟩, l6⟩ := hL
  refine ⟨⟨by rw [sg_F_g f l1]; exact h.1.1, h.1.2.1, fun i hi => by rw [sg_F_ga f l3]; exact h.1.2.2 i hi⟩, fun d' hd => ⟨(h.2 d' hd).1, srP_F (h.2 d' hd).2 f ex (by simp [l2, l4, l5, l6])⟩⟩
theorem srF_F {L : List Nat} {σ σ' : sg_S} {q d : Nat} {l : List vaF} (h : srF σ q d l) (f : sg_F L σ σ') (ex : yEx σ σ') (hL : (!sg_cv L 77 11 && !sg_cv L 77 12 && !sg_cv L 77 13 && sg_ca L 83 && sg_ca L 84 && sg_ca L 85 && sg_ca L 86 && sg_ca L 87) = true) : srF σ' q d l := by
  simp only [Bool.and_eq_true, Bool.not_eq_true'] at hL
  obtain ⟨⟨⟨⟨⟨⟨⟨l0, l1⟩, l2⟩, l2'⟩, l3⟩, l4⟩, l5⟩, l6⟩ := hL
  refine ⟨⟨by rw [sg_F_g f l0]; exact h.1.1, h.1.2.1, fun i hi => by rw [sg_F_ga f l2']; exact h.1.2.2 i hi⟩, fun d' hd => ⟨(h.2 d' hd).1, ?_⟩⟩
  have := (h.2 d' hd).2
  split
  · rename_i e
    rw [if_pos e] at this
    exact srP_F this f ex (by simp [l2, l4, l5, l6])
  · rename_i e
    rw [if_neg e] at this
    exact srS_F this f ex (by simp [l1, l2, l3, l4, l5, l6])
theorem srX_F {L : List Nat} {σ σ' : sg_S} {q k d : Nat} {l : List vaF} (h : srX σ q k d l) (f : sg_F L σ σ') (ex : yEx σ σ') (hL : (!sg_cv L 77 11 && !sg_cv L 77 12 && !sg_cv L 77 13 && sg_ca L 83 && sg_ca L 84 && sg_ca L 85 && sg_ca L 86 && sg_ca L 87) = true) : srX σ' q k d l := by
  unfold srX at h ⊢
  split
  · rename_i e
    rw [if_pos e] at h
    simp only [Bool.and_eq_true, Bool.not_eq_true'] at hL
    obtain ⟨⟨⟨⟨⟨⟨⟨l0, l1⟩, l2⟩, l2'⟩, l3⟩, l4⟩, l5⟩, l6⟩ := hL
    exact srP_F h f ex (by simp [l2, l4, l5, l6])
  · rename_i e
    rw [if_neg e] at h
    split
    · rename_i e2
      rw [if_pos e2] at h
      exact srF_F h f ex hL
    · rename_i e2
      rw [if_neg e2] at h
      simp only [Bool.and_eq_true, Bool.not_eq_true'] at hL
      obtain ⟨⟨⟨⟨⟨⟨⟨l0, l1⟩, l2⟩, l2'⟩, l3⟩, l4⟩, l5⟩, l6⟩ := hL
      exact srS_F h f ex (by simp [l1, l2, l3, l4, l5, l6])
/-- lengths that are picked -/
theorem pkR_b {σ : sg_S} {d : Nat} {qs : List (List vaF)} (h : pkR σ (d + 1) qs) : ∀ v ∈ qs.flatten, 0 ≤ v [] ∧ v [] ≤ 200 := fun v hv => by
  obtain ⟨q, hq, hv⟩ := List.mem_flatten.mp hv
  obtain ⟨i, hi⟩ := List.mem_iff_getElem?.mp hq
  rcases h.2.2 i q hi with ⟨-, -, ⟨-, e⟩ | ⟨-, e⟩⟩ | ⟨l, h1, -, -, -, e⟩
  · rw [e] at hv
    have : v = nmF 0 := by simpa using hv
    rw [this]
    exact ⟨by decide, by decide⟩
  · rw [e] at hv; cases hv
  · rw [e] at hv
    have m := List.mem_of_mem_drop (List.mem_of_mem_take hv)
    obtain ⟨t, ht⟩ := List.mem_iff_getElem?.mp m
    have tl := gE_l ht
    have := (h1.2.1 t tl).2
    rw [List.getD_eq_getElem?_getD, ht] at this
    exact this
def RX (σ : sg_S) (w : Int) (L : List vaF) (D l : Nat) : Prop := (yRw σ (w + l) (flN l L).length ∧ ∀ i : Nat, i < (flN l L).length → sg_g σ 78 (sg_g σ 80 (w + l) + i) = ((flN l L).getD i (nmF 0)) []) ∧ (l < D → sg_g σ 82 (w + l) = w + l + 1 ∧ (∀ i : Nat, i < (flN l L).length → 0 ≤ ((flN l L).getD i (nmF 0)) [] ∧ ((flN l L).getD i (nmF 0)) [] ≤ 200) ∧ yLo σ (w + l) (flN l L).length)
theorem RX_up {σ σ' : sg_S} {w : Int} {L : List vaF} {D l : Nat} (h : yEx σ σ') (a : RX σ w L D l) : RX σ' w L D l := by
  obtain ⟨⟨r1, r2⟩, r3⟩ := a
  have e := h.2.1 _ r1.1.1 r1.1.2
  have q := r1.2.2.2
  refine ⟨⟨yRw_up h r1, fun i hi => ?_⟩, fun hd => ⟨?_, (r3 hd).2.1, h.2.2.2 _ _ r1 (r3 hd).2.2⟩⟩
  · rw [e.1, h.2.2.1 _ (by omega) (by omega)]; exact r2 i hi
  · rw [e.2.2]; exact (r3 hd).1
theorem RX_X {σ : sg_S} {w : Int} {L : List vaF} {D : Nat} (a : ∀ k, k ≤ D → RX σ w L D k) : ∀ (k l : Nat), l + k = D → yX σ k (w + l) (flN l L)
  | 0, l, e => (a l (by omega)).1
  | k + 1, l, e => by
    obtain ⟨⟨r1, r2⟩, r3⟩ := a l (by omega)
    obtain ⟨s1, s2, s3⟩ := r3 (by omega)
    refine ⟨r1, fun i hi => ⟨r2 i hi, s2 i hi⟩, s3, ?_⟩
    have ih := RX_X a k (l + 1) (by omega)
    rw [s1, show w + (l : Int) + 1 = w + ((l + 1 : Nat) : Int) by omega]
    exact ih
/-- what seal comes to -/
def seR (σ σ' : sg_S) (D : Nat) (L : List vaF) (e : Int) : Prop := ((sg_g σ 77 17 = 2000 ∨ 6000 < sg_g σ 77 16 + exF D L) ∧ sg_g σ' 77 18 = 8 ∧ sg_g σ' 77 17 = sg_g σ 77 17 ∧ sg_g σ' 77 16 = sg_g σ 77 16) ∨ (¬ (sg_g σ 77 17 = 2000 ∨ 6000 < sg_g σ 77 16 + exF D L) ∧ sg_g σ' 77 18 = e ∧ sg_g σ' 77 17 = sg_g σ 77 17 + 1 ∧ sg_g σ' 77 16 = sg_g σ 77 16 + exF D L ∧ yEx σ σ' ∧ yG σ' ∧ yX σ' D (sg_g σ 77 10) L ∧ sg_g σ' 77 10 = sg_g σ 77 10 + D + 1)
abbrev seL : List Nat := [78, 79, 80, 81, 82, 85, 86, 87, 11077, 12077, 13077, 14077, 15077, 16077, 17077, 18077, 19077]
theorem getD_m {L : List vaF} {i : Nat} (h : i < L.length) : (L.map (fun v => v []))[i]? = some ((L.getD i (nmF 0)) []) := by
  rw [List.getElem?_map, gD_i h]; rfl
theorem x_reset {σ : sg_S} {Q : sg_S → Prop} (k : ∀ σ', y0 σ' → sg_F [12077, 13077, 14077, 15077, 16077] σ σ' → Q σ') : V_lReset σ Q := by
  unfold V_lReset
  intro σ1 e1 σ4 e4 σ7 e7 σ10 e10 σ13 e13
  refine k σ13 ⟨?_, ?_, ?_, ?_, ?_⟩ (by rw [e13, e10, e7, e4, e1]; exact sg_F_w (sg_F_w (sg_F_w (sg_F_w (sg_F_w (sg_F_r _ _) rfl _) rfl _) rfl _) rfl _) rfl _)
  · rw [e13, sg_gw_k _ _ _ _ _ _ (by decide), e10, sg_gw_k _ _ _ _ _ _ (by decide), e7, sg_gw_k _ _ _ _ _ _ (by decide), e4, sg_gw_k _ _ _ _ _ _ (by decide), e1, sg_gw_e _ _ _ _ (by decide)]
  · rw [e13, sg_gw_k _ _ _ _ _ _ (by decide), e10, sg_gw_k _ _ _ _ _ _ (by decide), e7, sg_gw_k _ _ _ _ _ _ (by decide), e4, sg_gw_e _ _ _ _ (by decide)]
  · rw [e13, sg_gw_k _ _ _ _ _ _ (by decide), e10, sg_gw_k _ _ _ _ _ _ (by decide), e7, sg_gw_e _ _ _ _ (by decide)]
  · rw [e13, sg_gw_k _ _ _ _ _ _ (by decide), e10, sg_gw_e _ _ _ _ (by decide)]
  · rw [e13, sg_gw_e _ _ _ _ (by decide)]
section CDS
variable {σ : sg_S} {Q : Int → sg_S → Prop}
theorem x_seal {D f : Nat} {L : List vaF} {e : Int} (g : yG σ) (hw : sg_g σ 77 10 + 4 ≤ 8000) (hst : 0 ≤ sg_g σ 77 17 ∧ sg_g σ 77 17 ≤ 2000) (hD : D ≤ 3) (he : sg_g σ 77 14 = e) (ho : sg_g σ 77 15 = 0 ∨ sg_g σ 77 15 = 1) (hf : sg_g σ 77 15 = 0 → srX σ f 0 D L) (ho1 : sg_g σ 77 15 = 1 → 6000 < exF D L) (hf2 : f ≤ 2) (k : ∀ σ', sg_F seL σ σ' → y0 σ' → seR σ σ' D L e → (∀ v, 0 ≤ v → v < sg_g σ 77 10 → sg_g σ' 80 v = sg_g σ 80 v) → Q (sg_g σ 77 10) σ') : V_lSeal σ (D : Int) (f : Int) Q := by
  have gw := g.1
  have gu := g.2.1
  have eX := exF_sx D L
  obtain ⟨w, hw0⟩ : ∃ w, sg_g σ 77 10 = w := ⟨_, rfl⟩
  obtain ⟨u, hu0⟩ : ∃ u, sg_g σ 77 16 = u := ⟨_, rfl⟩
  rw [hw0] at gw hw
  rw [hu0] at gu
  unfold V_lSeal
  rw [hw0, hu0]
  refine ⟨fun m v σ2 => ∃ K : Nat, v = K ∧ K ≤ D + 1 ∧ m = D + 1 - K ∧ (∀ v, 0 ≤ v → v < w → sg_g σ2 80 v = sg_g σ 80 v) ∧ ((sg_g σ2 77 15 = 1 ∧ 6000 < u + exF D L) ∨ (sg_g σ2 77 15 = 0 ∧ yEx σ σ2 ∧ yG σ2 ∧ sg_g σ2 77 10 = w + K ∧ sg_g σ2 77 16 = u + sxL K L ∧ (∀ l, l < K → RX σ2 w L D l) ∧ (K ≤ D → srX σ2 f K (D - K) (flN K L)))), fun σ2 => (∀ v, 0 ≤ v → v < w → sg_g σ2 80 v = sg_g σ 80 v) ∧ ((sg_g σ2 77 15 = 1 ∧ 6000 < u + exF D L) ∨ (sg_g σ2 77 15 = 0 ∧ yEx σ σ2 ∧ yG σ2 ∧ sg_g σ2 77 10 = w + (D + 1 : Nat) ∧ sg_g σ2 77 16 = u + exF D L ∧ (∀ l, l < D + 1 → RX σ2 w L D l))), ⟨_, 0, rfl, Nat.zero_le _, rfl, fun v _ _ => rfl, ?_⟩, ?_, ?_⟩
  · rcases ho with o | o
    · exact Or.inr ⟨o, yEx_r _, g, by omega, by simp only [sxL]; omega, fun l hl => by omega, fun _ => hf o⟩
    · exact Or.inl ⟨o, by have := ho1 o; omega⟩
  · rintro m v σ2 rv f2 ⟨K, rfl, hK, hm, h80, hI⟩
    refine ⟨fun z => ?_, fun z => ⟨fun y => ?_, fun y => ?_⟩⟩
    · have e : K = D + 1 := by omega
      subst e
      rcases hI with q | ⟨q1, q2, q3, q4, q5, q6, q7⟩
      · exact ⟨h80, Or.inl q⟩
      · exact ⟨h80, Or.inr ⟨q1, q2, q3, q4, by rw [eX]; exact q5, q6⟩⟩
    · rcases hI with q | q
      · exact ⟨h80, Or.inl q⟩
      · exact absurd q.1 y
    · rcases hI with q | ⟨q1, q2, q3, q4, q5, q6, q7⟩
      · omega
      have hKD : K ≤ D := by omega
      have q7 := q7 hKD
      have g2u := q3.2.1
      obtain ⟨u2, hu2⟩ : ∃ u2, sg_g σ2 77 16 = u2 := ⟨_, rfl⟩
      rw [hu2] at g2u q5
      have sm := sxL_m L (a := K + 1) (b := D + 1) (by omega)
      have sm1 : sxL (K + 1) L = sxL K L + ((flN K L).length : Int) := rfl
      rw [hu2]
      intro σ52 e52
      rw [q4] at e52
      rw [xp_in ⟨by omega, by omega⟩] at e52
      refine ⟨⟨fun _ => trivial, fun _ => ⟨⟨by omega, by omega⟩, trivial⟩⟩, fun v57 e57 r57 σ60 e60 => ?_⟩
      rw [q4, xp_in ⟨by omega, by omega⟩] at e60
      rw [q4]
      have f60 : sg_F [80, 82] σ2 σ60 := by rw [e60, e52]; exact sg_F_w (sg_F_w (sg_F_r _ _) rfl _) rfl _
      have ru2 : sg_R u2 := ⟨by omega, by omega⟩
      have i80 : sg_g σ60 80 (w + K) = u2 := by rw [e60, sg_gw_c _ _ _ _ _ _ (by decide), e52, sg_gw_e _ _ _ _ ru2]
      have i82 : sg_g σ60 82 (w + K) = v57 := by rw [e60, sg_gw_e _ _ _ _ r57]
      have n60 : ∀ v, 0 ≤ v → v < sg_g σ2 77 10 → sg_g σ60 80 v = sg_g σ2 80 v ∧ sg_g σ60 81 v = sg_g σ2 81 v ∧ sg_g σ60 82 v = sg_g σ2 82 v := fun v a b => by
        refine ⟨?_, sg_F_ga f60 rfl, ?_⟩
        · rw [e60, sg_gw_c _ _ _ _ _ _ (by decide), e52, sg_gw_k _ _ _ _ _ _ (by omega)]
        · rw [e60, sg_gw_k _ _ _ _ _ _ (by omega), e52, sg_gw_c _ _ _ _ _ _ (by decide)]
      have ex60 : yEx σ2 σ60 := yEx_x (sg_F_g f60 rfl) (sg_F_g f60 rfl) n60 (fun x _ => ⟨sg_F_ga f60 rfl, sg_F_ga f60 rfl⟩)
      have g60 : yG σ60 := yG_x q3 (sg_F_g f60 rfl) (sg_F_g f60 rfl) (fun v a b => ⟨(n60 v a b).1, (n60 v a b).2.1⟩)
      have o60 : sg_g σ60 77 15 = 0 := by rw [sg_F_g f60 (by rfl)]; exact q1
      have u60 : sg_g σ60 77 16 = u2 := by rw [sg_F_g f60 (by rfl)]; exact hu2
      have sr60 := srX_F q7 f60 ex60 rfl
      refine ⟨fun σ66 => yG σ66 ∧ stX σ60 σ66 ((flN K L).map (fun v => v [])) ∧ (K < D → ∀ i : Nat, i < (flN K L).length → 0 ≤ ((flN K L).getD i (nmF 0)) [] ∧ ((flN K L).getD i (nmF 0)) [] ≤ 200) ∧ (sg_g σ66 77 15 = 0 → ∀ d', D - K = d' + 1 → srX σ66 f (K + 1) d' (flN (K + 1) L)), ⟨fun hlf => ⟨fun hK0 v94 e94 r94 => ?_, fun hK0 v105 e105 r105 => ?_⟩, fun hlf => ?_⟩, ?_⟩
      · rw [if_pos hK0] at e94
        unfold srX at sr60
        rw [if_neg (by omega), if_neg (by omega)] at sr60
        obtain ⟨⟨t1, t2, t3⟩, t4⟩ := sr60
        have f20 : sg_g σ60 77 12 = sg_g σ 77 12 := by rw [sg_F_g f60 (by rfl), sg_F_g f2 (by rfl)]
        rw [f20] at t1
        refine x_copy84 (F := (flN K L).map (fun v => v [])) (by rw [u60]; omega) o60 (by rw [e94, t1, List.length_map]) (by rw [List.length_map]; exact t2) (fun i x hx => ?_) (fun σ' f' s' _ => ⟨stX_g g60 s' f' rfl, s', fun hd => (t4 (D - K - 1) (by omega)).1, fun z d' hd => ?_⟩)
        · have hi := gE_l hx
          rw [List.length_map] at hi
          rw [getD_m hi] at hx
          cases hx
          exact t3 i hi
        · unfold srX
          rw [if_pos (by omega)]
          exact srP_F (t4 d' hd).2 f' (stX_ex s' f' rfl) rfl
      · rw [if_neg (by omega)] at e105
        unfold srX at sr60
        rw [if_neg (by omega), if_pos (by omega)] at sr60
        obtain ⟨⟨t1, t2, t3⟩, t4⟩ := sr60
        have f20 : sg_g σ60 77 11 = sg_g σ 77 11 := by rw [sg_F_g f60 (by rfl), sg_F_g f2 (by rfl)]
        rw [f20] at t1
        refine x_copy83 (F := (flN K L).map (fun v => v [])) (by rw [u60]; omega) o60 (by rw [e105, t1, List.length_map]) (by rw [List.length_map]; exact t2) (fun i x hx => ?_) (fun σ' f' s' _ => ⟨stX_g g60 s' f' rfl, s', fun hd => (t4 (D - K - 1) (by omega)).1, fun z d' hd => ?_⟩)
        · have hi := gE_l hx
          rw [List.length_map] at hi
          rw [getD_m hi] at hx
          cases hx
          exact t3 i hi
        · have := (t4 d' hd).2
          have ex' := stX_ex s' f' rfl
          unfold srX
          by_cases e1 : f = 1
          · rw [if_pos e1] at this
            rw [if_pos (by omega)]
            exact srP_F this f' ex' rfl
          · rw [if_neg e1] at this
            rw [if_neg (by omega), if_neg (by omega)]
            exact srS_F this f' ex' rfl
      · unfold srX at sr60
        rw [if_pos (by omega)] at sr60
        obtain ⟨qs, hq, eq⟩ := sr60
        refine x_copyPicks g60 o60 hq (fun σ' f' s' g' o' _ => ⟨g', by rw [← eq]; exact s', fun hd i hi => ?_, fun z d' hd => ?_⟩)
        · rw [show D - K = (D - K - 1) + 1 by omega] at hq
          have := pkR_b hq _ (by rw [eq]; exact List.mem_of_getElem? (gD_i hi))
          exact this
        · unfold srX
          rw [if_pos (by omega)]
          exact ⟨qs.map flF, o' z d' hd, by rw [fl_fl, eq]; rfl⟩
      · rintro σ66 f66 ⟨g66, s66, hl66, hz66⟩
        have sle := s66.1
        rw [u60] at sle
        have at52 : sx_at σ52 80 8000 (w + K) = u2 := by rw [xa_in ⟨by omega, by omega⟩, e52, sg_gw_e _ _ _ _ ru2]
        rw [at52]
        refine ⟨⟨by omega, by omega⟩, fun σ70 e70 => ?_⟩
        rw [xp_in ⟨by omega, by omega⟩] at e70
        have f70 : sg_F [81] σ66 σ70 := by rw [e70]; exact sg_F_w (sg_F_r _ _) rfl _
        have i81 : sg_g σ70 81 (w + K) = sg_g σ66 77 16 - u2 := by rw [e70, sg_gw_e _ _ _ _ ⟨by omega, by omega⟩]
        have j80 : sg_g σ70 80 (w + K) = u2 := by rw [sg_F_ga f70 rfl, sg_F_ga f66 rfl]; exact i80
        obtain ⟨-, s3, s4, s5, s7⟩ := id s66
        rw [u60, List.length_map] at s4 s5
        rw [u60] at s7
        rw [List.length_map] at sle
        have kk : ∀ σ76, sg_F [79] σ70 σ76 → (sg_g σ66 77 15 = 0 → (K < D → ∀ i : Nat, i < (flN K L).length → sg_g σ76 79 (u2 + i) = su (sg_g σ70 78) u2 i) ∧ ∀ q, q < u2 → sg_g σ76 79 q = sg_g σ70 79 q) → sg_R (w + (K : Int) + 1) ∧ ∀ σ80, σ80 = sg_w σ76 77 10 (w + (K : Int) + 1) → sg_R ((K : Int) + 1) ∧ ∃ m', m' < m ∧ ∃ K' : Nat, (K : Int) + 1 = K' ∧ K' ≤ D + 1 ∧ m' = D + 1 - K' ∧ (∀ v, 0 ≤ v → v < w → sg_g σ80 80 v = sg_g σ 80 v) ∧ ((sg_g σ80 77 15 = 1 ∧ 6000 < u + exF D L) ∨ (sg_g σ80 77 15 = 0 ∧ yEx σ σ80 ∧ yG σ80 ∧ sg_g σ80 77 10 = w + K' ∧ sg_g σ80 77 16 = u + sxL K' L ∧ (∀ l, l < K' → RX σ80 w L D l) ∧ (K' ≤ D → srX σ80 f K' (D - K') (flN K' L)))) := by
          intro σ76 f76 hlo
          refine ⟨⟨by omega, by omega⟩, fun σ80 e80 => ⟨⟨by omega, by omega⟩, D + 1 - (K + 1), by omega, K + 1, by omega, by omega, rfl, fun v a b => ?_, ?_⟩⟩
          · have f80 : sg_F [11077] σ76 σ80 := by rw [e80]; exact sg_F_w (sg_F_r _ _) rfl _
            rw [sg_F_ga f80 rfl, sg_F_ga f76 rfl, sg_F_ga f70 rfl, sg_F_ga f66 rfl, (n60 v a (by omega)).1]
            exact h80 v a b
          have f80 : sg_F [11077] σ76 σ80 := by rw [e80]; exact sg_F_w (sg_F_r _ _) rfl _
          have f6680 : sg_F [79, 81, 11077] σ66 σ80 := sg_F_t (sg_F_t (sg_F_m f70 rfl) (sg_F_m f76 rfl)) (sg_F_m f80 rfl)
          have w80 : sg_g σ80 77 10 = w + K + 1 := by rw [e80, sg_gw_e _ _ _ _ ⟨by omega, by omega⟩]
          have o80 : sg_g σ80 77 15 = sg_g σ66 77 15 := sg_F_g f6680 rfl
          by_cases fit : u2 + ((flN K L).length : Int) ≤ 6000
          rotate_left
          · rw [if_neg fit] at s4
            exact Or.inl ⟨by rw [o80]; exact s4, by rw [eX]; omega⟩
          right
          rw [if_pos fit] at s4
          have s6 := s5 fit
          obtain ⟨hlo1, hlq⟩ := hlo s4
          have z2 := hz66 s4
          have u80 : sg_g σ80 77 16 = u2 + ((flN K L).length : Int) := by rw [sg_F_g f6680 (by rfl)]; exact s6
          rw [s6, show u2 + ((flN K L).length : Int) - u2 = ((flN K L).length : Int) by omega] at i81
          have c70 : ∀ i : Nat, i < (flN K L).length → sg_g σ70 78 (u2 + i) = ((flN K L).getD i (nmF 0)) [] := fun i hi => by
            rw [sg_F_ga f70 rfl]
            exact s7 i _ (getD_m hi) (by omega)
          have r80 : ∀ v, 0 ≤ v → v < sg_g σ2 77 10 → sg_g σ80 80 v = sg_g σ2 80 v ∧ sg_g σ80 81 v = sg_g σ2 81 v ∧ sg_g σ80 82 v = sg_g σ2 82 v := fun v a b => by
            obtain ⟨n1, n2, n3⟩ := n60 v a b
            refine ⟨?_, ?_, ?_⟩
            · rw [sg_F_ga f6680 rfl, sg_F_ga f66 rfl, n1]
            · rw [sg_F_ga f80 rfl, sg_F_ga f76 rfl, e70, sg_gw_k _ _ _ _ _ _ (by omega), sg_F_ga f66 rfl, n2]
            · rw [sg_F_ga f6680 rfl, sg_F_ga f66 rfl, n3]
          have c80 : ∀ x, sg_g σ80 78 x = sg_g σ66 78 x := fun x => sg_F_ga f6680 rfl
          have s80 : ∀ x, x < u2 → sg_g σ80 78 x = sg_g σ2 78 x ∧ sg_g σ80 79 x = sg_g σ2 79 x := fun x hx => by
            refine ⟨?_, ?_⟩
            · rw [c80, s3 x (by omega), sg_F_ga f60 rfl]
            · rw [sg_F_ga f80 rfl, hlq x hx, sg_F_ga f70 rfl, sg_F_ga f66 rfl, sg_F_ga f60 rfl]
          have ex2 : yEx σ2 σ80 := by
            refine ⟨⟨by omega, by omega⟩, r80, fun x _ b => (s80 x (by omega)).1, fun v n a b i hi => ?_⟩
            obtain ⟨a1, a2, a3, a4, a5⟩ := a
            rw [(r80 v a1.1 a1.2).1, (s80 _ (by omega)).2, b i hi]
            exact (su_sh (fun j hj => (s80 _ (by omega)).1)).symm
          have h80' : sg_g σ80 80 (w + K) = u2 := by rw [sg_F_ga f80 rfl, sg_F_ga f76 rfl]; exact j80
          have h81' : sg_g σ80 81 (w + K) = ((flN K L).length : Int) := by rw [sg_F_ga f80 rfl, sg_F_ga f76 rfl]; exact i81
          have g80 : yG σ80 := yG_new q3 (by omega) (by omega) (by omega) (fun v a b => ⟨(r80 v a b).1, (r80 v a b).2.1⟩) (by rw [q4, h80', h81', hu2]; omega)
          have rxK : RX σ80 w L D K := by
            refine ⟨⟨⟨by omega, h81', by omega, by omega, by omega⟩, fun i hi => ?_⟩, fun hd => ⟨?_, hl66 hd, fun i hi => ?_⟩⟩
            · rw [h80', sg_F_ga f80 rfl, sg_F_ga f76 rfl, c70 i hi]
            · rw [sg_F_ga f6680 rfl, sg_F_ga f66 rfl, i82, e57, if_neg (by omega), q4]
            · rw [h80', sg_F_ga f80 rfl, hlo1 hd i (by omega)]
              exact (su_sh (fun j hj => by rw [sg_F_ga f80 rfl, sg_F_ga f76 rfl])).symm
          refine ⟨by rw [o80]; exact s4, yEx_t q2 ex2, g80, by omega, by rw [u80, sm1]; omega, fun l hl => ?_, fun hle => ?_⟩
          · by_cases e : l = K
            · subst e; exact rxK
            · exact RX_up ex2 (q6 l (by omega))
          · refine srX_F (z2 _ (by omega)) f6680 ?_ rfl
            refine ⟨⟨by rw [w80, sg_F_g f66 (by rfl), sg_F_g f60 (by rfl)]; omega, by rw [u80]; omega⟩, fun v a b => ?_, fun x _ _ => c80 x, fun v n a b i hi => ?_⟩
            · rw [sg_F_g f66 (by rfl), sg_F_g f60 (by rfl), q4] at b
              refine ⟨sg_F_ga f6680 rfl, ?_, sg_F_ga f6680 rfl⟩
              rw [sg_F_ga f80 rfl, sg_F_ga f76 rfl, e70, sg_gw_k _ _ _ _ _ _ (by omega)]
            · obtain ⟨a1, a2, a3, a4, a5⟩ := a
              rw [sg_F_g f66 (by rfl), sg_F_g f60 (by rfl), q4] at a1
              have a6 : sg_g σ66 80 v = sg_g σ2 80 v := by rw [sg_F_ga f66 rfl]; exact (n60 v a1.1 (by omega)).1
              have a7 := q3.2.2.1 v a1.1 (by omega)
              have a8 : sg_g σ2 81 v = n := by rw [← a2, sg_F_ga f66 rfl]; exact (n60 v a1.1 (by omega)).2.1.symm
              rw [sg_F_ga (a := 80) f6680 rfl, sg_F_ga (a := 79) f80 rfl, hlq _ (by omega), sg_F_ga (a := 79) f70 rfl, b i hi]
              exact (su_sh (fun j hj => c80 _)).symm
        refine ⟨fun σ76 => sg_g σ66 77 15 = 0 → (K < D → ∀ i : Nat, i < (flN K L).length → sg_g σ76 79 (u2 + i) = su (sg_g σ70 78) u2 i) ∧ ∀ q, q < u2 → sg_g σ76 79 q = sg_g σ70 79 q, ⟨fun hd _ => ⟨fun z => by omega, fun _ _ => rfl⟩, fun hd => ?_⟩, fun σ76 f76 hx => kk σ76 f76 hx⟩
        have nn : 0 ≤ sg_g σ66 77 16 - u2 ∧ sg_g σ66 77 16 - u2 ≤ 6000 := ⟨by omega, by omega⟩
        refine y_lay (n := sg_g σ66 77 16 - u2) (by rw [xa_in ⟨by omega, by omega⟩]; exact i81) nn (fun _ => ⟨⟨by omega, by omega⟩, by rw [j80]; omega, by rw [j80]; omega⟩) (fun i hi => ?_) (fun σ' f' l1 l2 _ s4' => ⟨fun _ i hi => ?_, fun q hq => l2 q (fun i hi => by rw [j80]; omega)⟩)
        · rw [j80, sg_F_ga f70 rfl, s7 i _ (getD_m (by omega)) (by omega)]
          exact hl66 (by omega) i (by omega)
        · have fit : u2 + ((flN K L).length : Int) ≤ 6000 := by
            refine Decidable.byContradiction (fun c => ?_)
            rw [if_neg c] at s4
            omega
          have s6 := s5 fit
          have := l1 i (by omega)
          rw [j80] at this; exact this
  · rintro σ2 f2 ⟨h80, hX2⟩
    have t17 : sg_g σ2 77 17 = sg_g σ 77 17 := sg_F_g f2 rfl
    have kR : ∀ σ19, sg_F [17077, 18077, 19077] σ2 σ19 → ((sg_g σ 77 17 = 2000 ∨ 6000 < u + exF D L) ∧ sg_g σ19 77 18 = 8 ∧ sg_g σ19 77 17 = sg_g σ 77 17 ∧ sg_g σ19 77 16 = u) ∨ (¬ (sg_g σ 77 17 = 2000 ∨ 6000 < u + exF D L) ∧ sg_g σ19 77 18 = e ∧ sg_g σ19 77 17 = sg_g σ 77 17 + 1 ∧ sg_g σ19 77 16 = sg_g σ2 77 16) → V_lReset σ19 (fun σ23 => sg_F [12077, 13077, 14077, 15077, 16077] σ19 σ23 → Q w σ23) := fun σ19 f19 h19 => by
      refine x_reset (fun σ13 y013 f13 _ => ?_)
      have F : sg_F seL σ σ13 := sg_F_t (sg_F_t (sg_F_m f2 rfl) (sg_F_m f19 rfl)) (sg_F_m f13 rfl)
      rw [← hw0]
      refine k σ13 F y013 ?_ (fun v a b => by rw [sg_F_ga f13 rfl, sg_F_ga f19 rfl]; exact h80 v a (by omega))
      unfold seR
      rw [hu0, hw0]
      rcases h19 with ⟨z1, z2, z3, z4⟩ | ⟨z1, z2, z3, z4⟩
      · exact Or.inl ⟨z1, by rw [sg_F_g f13 (by rfl)]; exact z2, by rw [sg_F_g f13 (by rfl)]; exact z3, by rw [sg_F_g f13 (by rfl)]; exact z4⟩
      · right
        rcases hX2 with x | ⟨x1, x2, x3, x4, x5, x6⟩
        · exact absurd (Or.inr x.2) z1
        have fx : sg_F [12077, 13077, 14077, 15077, 16077, 17077, 18077, 19077] σ2 σ13 := sg_F_t (sg_F_m f19 rfl) (sg_F_m f13 rfl)
        have e16 : sg_g σ13 77 16 = sg_g σ2 77 16 := by rw [sg_F_g f13 (by rfl)]; exact z4
        have ex : yEx σ2 σ13 := yEx_x (sg_F_g fx rfl) e16 (fun v _ _ => ⟨sg_F_ga fx rfl, sg_F_ga fx rfl, sg_F_ga fx rfl⟩) (fun x _ => ⟨sg_F_ga fx rfl, sg_F_ga fx rfl⟩)
        refine ⟨z1, by rw [sg_F_g f13 (by rfl)]; exact z2, by rw [sg_F_g f13 (by rfl)]; exact z3, by rw [e16]; exact x5, yEx_t x2 ex, yG_x x3 (sg_F_g fx rfl) e16 (fun v _ _ => ⟨sg_F_ga fx rfl, sg_F_ga fx rfl⟩), yX_up ex ?_, by rw [sg_F_g fx (by rfl)]; omega⟩
        have := RX_X (σ := σ2) (w := w) (L := L) (D := D) (fun k hk => x6 k (by omega)) D 0 (by omega)
        rw [show w + ((0 : Nat) : Int) = w by omega] at this
        exact this
    refine ⟨fun σ19 => ((sg_g σ 77 17 = 2000 ∨ 6000 < u + exF D L) ∧ sg_g σ19 77 18 = 8 ∧ sg_g σ19 77 17 = sg_g σ 77 17 ∧ sg_g σ19 77 16 = u) ∨ (¬ (sg_g σ 77 17 = 2000 ∨ 6000 < u + exF D L) ∧ sg_g σ19 77 18 = e ∧ sg_g σ19 77 17 = sg_g σ 77 17 + 1 ∧ sg_g σ19 77 16 = sg_g σ2 77 16), ⟨fun z σ28 e28 σ31 e31 => ?_, fun z => ?_⟩, fun σ19 f19 h19 => kR σ19 f19 h19⟩
    · left
      rcases hX2 with x | x
      · refine ⟨Or.inr x.2, ?_, ?_, ?_⟩
        · rw [e31, sg_gw_k _ _ _ _ _ _ (by decide), e28, sg_gw_e _ _ _ _ (by decide)]
        · rw [e31, sg_gw_k _ _ _ _ _ _ (by decide), e28, sg_gw_k _ _ _ _ _ _ (by decide)]; exact t17
        · rw [e31, sg_gw_e _ _ _ _ ⟨by omega, by omega⟩]
      · exact absurd x.1 z
    · have fits : ¬ 6000 < u + exF D L := by
        rcases hX2 with x | ⟨x1, x2, x3, x4, x5, x6⟩
        · omega
        · have := x3.2.1.2
          omega
      unfold V_lStep
      refine ⟨fun q => ⟨⟨by omega, by omega⟩, fun σ3 e3 _ f3 => ⟨fun _ σ41 e41 => Or.inr ⟨fun c => by omega, ?_, ?_, ?_⟩, fun y => absurd y (by decide)⟩⟩, fun q σ6 e6 _ f6 => ⟨fun y => absurd rfl y, fun _ σ44 e44 σ47 e47 => Or.inl ⟨Or.inl (by omega), ?_, ?_, ?_⟩⟩⟩
      · rw [e41, sg_gw_e _ _ _ _ (sg_Rg _ _ _)]; exact he
      · rw [e41, sg_gw_k _ _ _ _ _ _ (by decide), e3, sg_gw_e _ _ _ _ ⟨by omega, by omega⟩, t17]
      · rw [e41, sg_gw_k _ _ _ _ _ _ (by decide), e3, sg_gw_k _ _ _ _ _ _ (by decide)]
      · rw [e47, sg_gw_k _ _ _ _ _ _ (by decide), e44, sg_gw_e _ _ _ _ (by decide)]
      · rw [e47, sg_gw_k _ _ _ _ _ _ (by decide), e44, sg_gw_k _ _ _ _ _ _ (by decide), e6, sg_gw_k _ _ _ _ _ _ (by decide)]; exact t17
      · rw [e47, sg_gw_e _ _ _ _ ⟨by omega, by omega⟩]
end CDS
/-! what was told, in one; give of the class, exactly. -/
def pX (σ : sg_S) (d : Nat) (P : List (Int × Int × Int)) (qs : List (List vaF)) : Prop := P.length = qs.length ∧ ∀ (i : Nat) (x : Int × Int × Int) (q : List vaF), P[i]? = some x → qs[i]? = some q → pkX σ d x.1 x.2.1 x.2.2 q ∧ 1 ≤ q.length
/-- firsts F, seconds S, lanes of depth d picked: fl, a FINDING e -/
def toX (σ : sg_S) (d : Nat) (F S : List Int) (fl : List vaF) (e : Int) : Prop := ∃ P qs, tlX σ F S P e ∧ pX σ d P qs ∧ qs.flatten = fl
theorem toX_0 {σ : sg_S} (h : y0 σ) (d : Nat) : toX σ d [] [] [] 0 := ⟨[], [], tlX_0 h, ⟨rfl, fun i x q hx => by simp at hx⟩, rfl⟩
theorem fl_len : ∀ {qs : List (List vaF)}, (∀ q ∈ qs, 1 ≤ q.length) → qs.length ≤ qs.flatten.length
  | [], _ => Nat.le_refl _
  | q :: r, h => by
    have a := h q (by simp)
    have b := fl_len (qs := r) (fun q hq => h q (by simp [hq]))
    rw [List.flatten_cons, List.length_append, List.length_cons]
    omega
theorem pX_l {σ : sg_S} {d : Nat} {P : List (Int × Int × Int)} {qs : List (List vaF)} (h : pX σ d P qs) : P.length ≤ qs.flatten.length := by
  rw [h.1]
  refine fl_len (fun q hq => ?_)
  obtain ⟨i, hi⟩ := List.mem_iff_getElem?.mp hq
  have := gE_l hi
  obtain ⟨x, hx⟩ : ∃ x, P[i]? = some x := ⟨_, List.getElem?_eq_getElem (by rw [h.1]; exact this)⟩
  exact (h.2 i x q hx hi).2
theorem pX_up {σ σ' : sg_S} (ex : yEx σ σ') {d : Nat} {P : List (Int × Int × Int)} {qs : List (List vaF)} (h : pX σ d P qs) : pX σ' d P qs := ⟨h.1, fun i x q hx hq => ⟨pkX_up ex (h.2 i x q hx hq).1, (h.2 i x q hx hq).2⟩⟩
theorem toX_F {L : List Nat} {σ σ' : sg_S} {d : Nat} {F S : List Int} {fl : List vaF} {e : Int} (h : toX σ d F S fl e) (f : sg_F L σ σ') (ex : yEx σ σ') (hL : (!sg_cv L 77 11 && !sg_cv L 77 12 && !sg_cv L 77 13 && !sg_cv L 77 14 && !sg_cv L 77 15 && sg_ca L 83 && sg_ca L 84 && sg_ca L 85 && sg_ca L 86 && sg_ca L 87) = true) : toX σ' d F S fl e := by
  obtain ⟨P, qs, h1, h2, h3⟩ := h
  exact ⟨P, qs, tlX_F h1 f hL, pX_up ex h2, h3⟩
section CES
variable {σ : sg_S} {d : Nat} {F S : List Int} {fl : List vaF} {e x : Int} {Q : sg_S → Prop}
theorem t_miss (h : toX σ d F S fl e) (hx : sg_R x) (k : ∀ σ', toX σ' d F S fl (if e = 0 then x else e) → sg_F [15077] σ σ' → Q σ') : V_lMiss σ x Q := by
  obtain ⟨P, qs, h1, h2, h3⟩ := h
  exact x_miss h1 hx (fun σ' t f => k σ' ⟨P, qs, t, pX_up (yEx_F f rfl) h2, h3⟩ f)
theorem t_first (h : toX σ d F S fl e) (hb : F.length ≤ 1000000000) (hx : sg_R x) (k : ∀ σ', toX σ' d (F ++ [x]) S fl e → sg_F [83, 12077, 16077] σ σ' → Q σ') : V_lFirst σ x Q := by
  obtain ⟨P, qs, h1, h2, h3⟩ := h
  exact x_first h1 hb hx (fun σ' t f => k σ' ⟨P, qs, t, pX_up (yEx_F f rfl) h2, h3⟩ f)
theorem t_second (h : toX σ d F S fl e) (hb : S.length ≤ 1000000000) (hx : sg_R x) (k : ∀ σ', toX σ' d F (S ++ [x]) fl e → sg_F [84, 13077, 16077] σ σ' → Q σ') : V_lSecond σ x Q := by
  obtain ⟨P, qs, h1, h2, h3⟩ := h
  exact x_second h1 hb hx (fun σ' t f => k σ' ⟨P, qs, t, pX_up (yEx_F f rfl) h2, h3⟩ f)
theorem t_pick {lo hi : Int} {q : List vaF} (h : toX σ d F S fl e) (hb : fl.length ≤ 1000000000) (hp : pkX σ d x lo hi q) (hx : sg_R x) (hhi : sg_R hi) (k : ∀ σ', toX σ' d F S (fl ++ q) e → sg_F [85, 86, 87, 14077, 16077] σ σ' → Q σ') : V_lPick σ x lo hi Q := by
  obtain ⟨P, qs, h1, h2, h3⟩ := h
  obtain ⟨b1, b2, b3⟩ := pkX_l hp
  have pl := pX_l h2
  rw [h3] at pl
  refine x_pick h1 (by omega) hx ⟨by omega, by have := hhi.2; omega⟩ hhi (fun σ' t f => ?_)
  have ex : yEx σ σ' := yEx_F f rfl
  by_cases c : lo < hi
  · rw [if_pos c] at t
    refine k σ' ⟨P ++ [(x, lo, hi)], qs ++ [q], t, ⟨by rw [List.length_append, List.length_append, h2.1]; rfl, fun i y w hy hw => ?_⟩, by rw [List.flatten_append, h3, List.flatten_cons, List.flatten_nil, List.append_nil]⟩ f
    rcases Nat.lt_or_ge i P.length with z | z
    · rw [List.getElem?_append_left z] at hy
      rw [List.getElem?_append_left (by rw [← h2.1]; exact z)] at hw
      exact ⟨pkX_up ex (h2.2 i y w hy hw).1, (h2.2 i y w hy hw).2⟩
    · rw [List.getElem?_append_right z] at hy
      rw [List.getElem?_append_right (by rw [← h2.1]; exact z), ← h2.1] at hw
      have ei : i - P.length = 0 := by
        rcases Nat.eq_zero_or_pos (i - P.length) with u | u
        · exact u
        · rw [List.getElem?_eq_none (by simp; omega)] at hy; cases hy
      rw [ei] at hy hw
      cases hy
      cases hw
      exact ⟨pkX_up ex hp, by omega⟩
  · rw [if_neg c] at t
    have eq : q = [] := List.eq_nil_of_length_eq_zero (by omega)
    refine k σ' ⟨P, qs, t, pX_up ex h2, by rw [h3, eq, List.append_nil]⟩ f
end CES
/-- STEPS and CELLS of the class -/
def ctX (σ : sg_S) (s : fSt) : Prop := sg_g σ 77 17 = s.1 ∧ sg_g σ 77 16 = s.2.1 ∧ sg_g σ 61 24 = s.2.2 ∧ (0 ≤ s.1 ∧ s.1 ≤ 2000) ∧ 0 ≤ s.2.1 ∧ s.2.1 ≤ 6000
theorem ctX_F {L : List Nat} {σ σ' : sg_S} {s : fSt} (f : sg_F L σ σ') (hL : (!sg_cv L 77 17 && !sg_cv L 77 16 && !sg_cv L 61 24) = true) (h : ctX σ s) : ctX σ' s := by
  simp only [Bool.and_eq_true, Bool.not_eq_true'] at hL
  exact ⟨by rw [sg_F_g f hL.1.1]; exact h.1, by rw [sg_F_g f hL.1.2]; exact h.2.1, by rw [sg_F_g f hL.2]; exact h.2.2.1, h.2.2.2⟩
/-- what an operation comes to -/
def gvX (σ σ' : sg_S) (D : Nat) (L : List vaF) (e t : Int) (s : fSt) : Prop := (fStp (exF D L) s = none ∧ sg_g σ' 61 10 = 8 ∧ ctX σ' s) ∨ ∃ s1, fStp (exF D L) s = some s1 ∧ sg_g σ' 61 10 = e ∧ ctX σ' s1 ∧ yEx σ σ' ∧ yG σ' ∧ y0 σ' ∧ yX σ' D (sg_g σ' 64 t) L ∧ sg_g σ' 61 7 = t + 1 ∧ (∀ i, ¬ i = t → sg_g σ' 64 i = sg_g σ 64 i) ∧ sg_g σ' 77 10 ≤ sg_g σ 77 10 + 4
/-- what was told stands for L -/
def tsF (f D : Nat) (F S : List Int) (fl L : List vaF) : Prop := (f = 0 ∧ F = [] ∧ S = [] ∧ fl = L) ∨ (f = 1 ∧ F = L.map (fun v => v []) ∧ S = [] ∧ ((D = 0 ∧ fl = []) ∨ (1 ≤ D ∧ fl = flF L ∧ ∀ v ∈ L, 0 ≤ v [] ∧ v [] ≤ 200))) ∨ (f = 2 ∧ 1 ≤ D ∧ F = L.map (fun v => v []) ∧ S = (flF L).map (fun v => v []) ∧ (∀ v ∈ L, 0 ≤ v [] ∧ v [] ≤ 200) ∧ ((D = 1 ∧ fl = []) ∨ (2 ≤ D ∧ fl = flF (flF L) ∧ ∀ v ∈ flF L, 0 ≤ v [] ∧ v [] ≤ 200)))
theorem mem_D {L : List vaF} {p : vaF → Prop} (h : ∀ v ∈ L, p v) (i : Nat) (hi : i < L.length) : p (L.getD i (nmF 0)) := h _ (List.mem_of_getElem? (gD_i hi))
theorem row_D {σ : sg_S} {a : Nat} {L : List vaF} (h6 : L.length ≤ 6000) (h : ∀ (i : Nat) (x : Int), (L.map (fun v => v []))[i]? = some x → i < 6000 → sg_g σ a i = x) : ∀ i : Nat, i < L.length → sg_g σ a i = (L.getD i (nmF 0)) [] := fun i hi => h i _ (getD_m hi) (by omega)
/-- what was told is what is to be stored; or there is no room for it -/
theorem toX_s {σ : sg_S} {f D d : Nat} {F S : List Int} {fl L : List vaF} {e : Int} (h : toX σ d F S fl e) (hs : tsF f D F S fl L) (hd : D = d + f ∨ (D < d + f ∧ fl = [])) : (sg_g σ 77 15 = 0 → srX σ f 0 D L) ∧ (sg_g σ 77 15 = 1 → 6000 < exF D L) ∧ (sg_g σ 77 15 = 0 ∨ sg_g σ 77 15 = 1) ∧ sg_g σ 77 14 = e := by
  obtain ⟨P, qs, ⟨⟨a1, a2, a3, a4⟩, a5, a6, a7, a8⟩, h2, h3⟩ := h
  have pl := pX_l h2
  rw [h3] at pl
  have xn := exF_n D L
  have pk : P.length ≤ 6000 → ∀ d', d' = d ∨ fl = [] → srP σ d' fl := fun p6 d' hd' => by
    refine ⟨qs, ⟨by rw [a3, h2.1], by rw [← h2.1]; exact p6, fun i q hq => ?_⟩, h3⟩
    have hi := gE_l hq
    obtain ⟨x, hx⟩ : ∃ x, P[i]? = some x := ⟨_, List.getElem?_eq_getElem (by rw [h2.1]; exact hi)⟩
    obtain ⟨r1, r2, r3⟩ := a8 i x hx (by have := h2.1; omega)
    obtain ⟨k1, k2⟩ := h2.2 i x q hx hq
    rcases hd' with z | z
    · rw [z, r1, r2, r3]; exact k1
    · rw [z] at pl
      simp only [List.length_nil] at pl
      have := h2.1
      omega
  refine ⟨fun z => ?_, fun z => ?_, ?_, a4⟩
  · rw [a5] at z
    have c : F.length ≤ 6000 ∧ S.length ≤ 6000 ∧ P.length ≤ 6000 := Decidable.byContradiction (fun c => by rw [if_neg c] at z; omega)
    unfold srX
    rcases hs with ⟨f0, e1, e2, e3⟩ | ⟨f1, e1, e2, e3⟩ | ⟨f2, D1, e1, e2, e3, e4⟩
    · rw [if_pos (by omega), ← e3]
      exact pk c.2.2 D (by rcases hd with w | w; left; omega; exact Or.inr w.2)
    · rw [if_neg (by omega), if_pos rfl]
      have l6 : L.length ≤ 6000 := by have := c.1; rw [e1, List.length_map] at this; exact this
      rw [e1] at a1 a6
      rw [List.length_map] at a1
      refine ⟨⟨a1, l6, row_D l6 a6⟩, fun d' hd' => ?_⟩
      rcases e3 with ⟨q, -⟩ | ⟨q1, q2, q3⟩
      · omega
      · rw [if_pos f1, ← q2]
        exact ⟨mem_D q3, pk c.2.2 d' (by rcases hd with w | w; left; omega; exact Or.inr w.2)⟩
    · rw [if_neg (by omega), if_pos rfl]
      have l6 : L.length ≤ 6000 := by have := c.1; rw [e1, List.length_map] at this; exact this
      have m6 : (flF L).length ≤ 6000 := by have := c.2.1; rw [e2, List.length_map] at this; exact this
      rw [e1] at a1 a6
      rw [e2] at a2 a7
      rw [List.length_map] at a1 a2
      refine ⟨⟨a1, l6, row_D l6 a6⟩, fun d' hd' => ?_⟩
      rw [if_neg (by omega)]
      refine ⟨mem_D e3, ⟨a2, m6, row_D m6 a7⟩, fun d2 hd2 => ?_⟩
      rcases e4 with ⟨q, -⟩ | ⟨q1, q2, q3⟩
      · omega
      · rw [← q2]
        exact ⟨mem_D q3, pk c.2.2 d2 (by rcases hd with w | w; left; omega; exact Or.inr w.2)⟩
  · rw [a5] at z
    have c : ¬ (F.length ≤ 6000 ∧ S.length ≤ 6000 ∧ P.length ≤ 6000) := fun c => by rw [if_pos c] at z; omega
    rcases hs with ⟨f0, e1, e2, e3⟩ | ⟨f1, e1, e2, e3⟩ | ⟨f2, D1, e1, e2, e3, e4⟩
    · rw [e1, e2] at c
      rw [e3] at pl
      simp only [List.length_nil] at c
      omega
    · rw [e1, e2, List.length_map] at c
      simp only [List.length_nil] at c
      rcases e3 with ⟨q, q2⟩ | ⟨q1, q2, q3⟩
      · rw [q2] at pl
        simp only [List.length_nil] at pl
        omega
      · obtain ⟨D', rfl⟩ : ∃ D', D = D' + 1 := ⟨D - 1, by omega⟩
        rw [q2] at pl
        rw [exF_s] at xn ⊢
        have := exF_n D' (flF L)
        omega
    · rw [e1, e2, List.length_map, List.length_map] at c
      obtain ⟨D', rfl⟩ : ∃ D', D = D' + 1 := ⟨D - 1, by omega⟩
      rw [exF_s] at xn ⊢
      have x2 := exF_n D' (flF L)
      rcases e4 with ⟨q, q2⟩ | ⟨q1, q2, q3⟩
      · rw [q2] at pl
        simp only [List.length_nil] at pl
        omega
      · obtain ⟨D2, rfl⟩ : ∃ D2, D' = D2 + 1 := ⟨D' - 1, by omega⟩
        rw [q2] at pl
        rw [exF_s] at x2 ⊢
        have := exF_n D2 (flF (flF L))
        omega
  · rw [a5]
    by_cases c : F.length ≤ 6000 ∧ S.length ≤ 6000 ∧ P.length ≤ 6000
    · rw [if_pos c]; exact Or.inl rfl
    · rw [if_neg c]; exact Or.inr rfl
theorem fStp_n {a : Int} {s : fSt} : fStp a s = none ↔ s.1 = 2000 ∨ 6000 < s.2.1 + a := by
  unfold fStp
  by_cases c : s.1 = 2000 ∨ 6000 < s.2.1 + a
  · rw [if_pos c]; exact ⟨fun _ => c, fun _ => rfl⟩
  · rw [if_neg c]; exact ⟨fun h => (by cases h), fun h => absurd h c⟩
theorem fStp_e {a : Int} {s : fSt} (h : ¬ (s.1 = 2000 ∨ 6000 < s.2.1 + a)) : fStp a s = some (s.1 + 1, s.2.1 + a, s.2.2) := by
  unfold fStp
  rw [if_neg h]
theorem x_sealO {σ : sg_S} {D f : Int} {Q : Int → sg_S → Prop} (oo : ¬ sg_g σ 77 15 = 0) (hD : 0 ≤ D) (k : ∀ σ', sg_F seL σ σ' → sg_g σ' 77 18 = 8 → sg_g σ' 77 17 = sg_g σ 77 17 → sg_g σ' 77 16 = sg_g σ 77 16 → Q (sg_g σ 77 10) σ') : V_lSeal σ D f Q := by
  unfold V_lSeal
  refine ⟨fun m v σ2 => σ2 = σ ∧ v = 0, fun σ2 => σ2 = σ, ⟨0, rfl, rfl⟩, ?_, ?_⟩
  · rintro m v σ2 rv f2 ⟨e, -⟩
    subst e
    exact ⟨fun _ => rfl, fun _ => ⟨fun _ => rfl, fun y => absurd y oo⟩⟩
  · rintro σ2 f2 e
    subst e
    refine ⟨fun σ19 => sg_g σ19 77 18 = 8 ∧ sg_g σ19 77 17 = sg_g σ2 77 17 ∧ sg_g σ19 77 16 = sg_g σ2 77 16, ⟨fun z σ28 e28 σ31 e31 => ⟨?_, ?_, ?_⟩, fun z => absurd z oo⟩, fun σ19 f19 h19 => ?_⟩
    · rw [e31, sg_gw_k _ _ _ _ _ _ (by decide), e28, sg_gw_e _ _ _ _ (by decide)]
    · rw [e31, sg_gw_k _ _ _ _ _ _ (by decide), e28, sg_gw_k _ _ _ _ _ _ (by decide)]
    · rw [e31, sg_gw_e _ _ _ _ (sg_Rg _ _ _)]
    · refine x_reset (fun σ13 _ f13 _ => k σ13 (sg_F_t (sg_F_m f19 rfl) (sg_F_m f13 rfl)) ?_ ?_ ?_)
      · rw [sg_F_g f13 (by rfl)]; exact h19.1
      · rw [sg_F_g f13 (by rfl)]; exact h19.2.1
      · rw [sg_F_g f13 (by rfl)]; exact h19.2.2
theorem f_giveG {σ σ2 : sg_S} {t : Int} {D f : Nat} {L : List vaF} {e : Int} {s : fSt} {Q : sg_S → Prop} (h : fP σ t) (hs : ctX σ s) (hD : D ≤ 3) (h9 : sg_g σ 61 9 = D) (hf2 : f ≤ 2) (f2 : sg_F acL σ σ2) (ht : (sg_g σ2 77 15 = 0 ∧ srX σ2 f 0 D L ∧ sg_g σ2 77 14 = e) ∨ (¬ sg_g σ2 77 15 = 0 ∧ 6000 < exF D L)) (k : ∀ σ', sg_F opL σ σ' → gvX σ σ' D L e t s → Q σ') : V_fGive σ2 (f : Int) Q := by
  obtain ⟨h1, h2, h3, h4, h5, h6, h7⟩ := h
  have ex2 : yEx σ σ2 := yEx_F f2 rfl
  have g2 : yG σ2 := yG_F h1 f2 rfl
  have w2 : sg_g σ2 77 10 = sg_g σ 77 10 := sg_F_g f2 rfl
  have s2 : sg_g σ2 77 17 = sg_g σ 77 17 := sg_F_g f2 rfl
  have t2 : sg_g σ2 61 7 = t := by rw [sg_F_g f2 (by rfl)]; exact h5
  have c2 : ctX σ2 s := ctX_F f2 rfl hs
  have fin : ∀ σ3 q1, sg_R q1 → q1 = sg_g σ2 77 10 → sg_F seL σ2 σ3 → (y0 σ3 ∧ seR σ2 σ3 D L e) ∨ (6000 < exF D L ∧ sg_g σ3 77 18 = 8 ∧ sg_g σ3 77 17 = sg_g σ2 77 17 ∧ sg_g σ3 77 16 = sg_g σ2 77 16) → V_mPush σ3 q1 (fun σ8 => sg_F [64, 8061] σ3 σ8 → ∀ σ13, σ13 = sg_w σ8 61 10 (sg_g σ3 77 18) → Q σ13) := fun σ3 q1 r1 eq f3 h3' => by
    have t3 : sg_g σ3 61 7 = t := by rw [sg_F_g f3 (by rfl)]; exact t2
    refine y_push t3 h6 r1 (fun σ8 f8 p1 p2 p3 _ σ13 e13 => ?_)
    have f13 : sg_F [11061] σ8 σ13 := by rw [e13]; exact sg_F_w (sg_F_r _ _) rfl _
    have FF : sg_F opL σ σ13 := sg_F_t (sg_F_t (sg_F_t (sg_F_m f2 rfl) (sg_F_m f3 rfl)) (sg_F_m f8 rfl)) (sg_F_m f13 rfl)
    have e10 : sg_g σ13 61 10 = sg_g σ3 77 18 := by rw [e13, sg_gw_e _ _ _ _ (sg_Rg _ _ _)]
    have f38 : sg_F [64, 8061, 11061] σ3 σ13 := sg_F_t (sg_F_m f8 rfl) (sg_F_m f13 rfl)
    have e24 : sg_g σ13 61 24 = s.2.2 := by rw [sg_F_g FF (by rfl)]; exact hs.2.2.1
    have room : (s.1 = 2000 ∨ 6000 < s.2.1 + exF D L) → sg_g σ3 77 18 = 8 → sg_g σ3 77 17 = s.1 → sg_g σ3 77 16 = s.2.1 → Q σ13 := fun z1 z2 z3 z4 => k σ13 FF (Or.inl ⟨fStp_n.mpr z1, by rw [e10]; exact z2, by rw [sg_F_g f38 (by rfl)]; exact z3, by rw [sg_F_g f38 (by rfl)]; exact z4, e24, hs.2.2.2⟩)
    have c4 := hs.2.2.2
    rcases h3' with ⟨y3, h3'⟩ | ⟨z1, z2, z3, z4⟩
    · unfold seR at h3'
      rw [c2.1, c2.2.1] at h3'
      rcases h3' with ⟨z1, z2, z3, z4⟩ | ⟨z1, z2, z3, z4, z5, z6, z7, z8⟩
      · exact room z1 z2 z3 z4
      · refine k σ13 FF (Or.inr ?_)
        have ex3 : yEx σ3 σ13 := yEx_F f38 rfl
        have xn := exF_n D L
        refine ⟨_, fStp_e z1, by rw [e10]; exact z2, ⟨by rw [sg_F_g f38 (by rfl)]; exact z3, by rw [sg_F_g f38 (by rfl)]; exact z4, e24, by simp only; omega, by simp only; omega⟩, yEx_t ex2 (yEx_t z5 ex3), yG_F z6 f38 rfl, y0_F y3 f38 rfl, ?_, ?_, fun i hi => ?_, ?_⟩
        · rw [sg_F_ga f13 rfl, p2, eq]; exact yX_up ex3 z7
        · rw [sg_F_g f13 (by rfl)]; exact p1
        · rw [sg_F_ga f13 rfl, p3 i hi, sg_F_ga f3 rfl, sg_F_ga f2 rfl]
        · rw [sg_F_g f38 (by rfl)]; omega
    · exact room (Or.inr (by omega)) z2 (z3.trans c2.1) (z4.trans c2.2.1)
  unfold V_fGive
  rw [show sg_g σ2 61 9 = (D : Int) from by rw [sg_F_g f2 (by rfl)]; exact h9]
  rcases ht with ⟨o, q1, q4⟩ | ⟨o, q2⟩
  · exact x_seal g2 (by omega) (by omega) hD q4 (Or.inl o) (fun _ => q1) (fun z => by omega) hf2 (fun σ3 f3 y3 h3' _ r3 _ => fin σ3 _ r3 rfl f3 (Or.inl ⟨y3, h3'⟩))
  · exact x_sealO o (by omega) (fun σ3 f3 z1 z2 z3 r3 _ => fin σ3 _ r3 rfl f3 (Or.inr ⟨q2, z1, z2, z3⟩))
theorem f_giveX {σ σ2 : sg_S} {t : Int} {D f d : Nat} {F S : List Int} {fl L : List vaF} {e : Int} {s : fSt} {Q : sg_S → Prop} (h : fP σ t) (hs : ctX σ s) (hD : D ≤ 3) (h9 : sg_g σ 61 9 = D) (hf2 : f ≤ 2) (f2 : sg_F acL σ σ2) (ht : toX σ2 d F S fl e) (hl : tsF f D F S fl L) (hd : D = d + f ∨ (D < d + f ∧ fl = [])) (k : ∀ σ', sg_F opL σ σ' → gvX σ σ' D L e t s → Q σ') : V_fGive σ2 (f : Int) Q := by
  obtain ⟨q1, q2, q3, q4⟩ := toX_s ht hl hd
  refine f_giveG h hs hD h9 hf2 f2 ?_ k
  rcases q3 with o | o
  · exact Or.inl ⟨o, q1 o, q4⟩
  · exact Or.inr ⟨by omega, q2 o⟩
/-! Operations of the class that give numbers, exactly. -/
/-- what an operation comes to, lane by lane -/
def gwX (σ σ' : sg_S) (D : Nat) (rs : List (Int ⊕ vaF)) (t : Int) (s : fSt) : Prop := ∃ L, exF D L = exF D (rs.map fOv) ∧ (fOe rs = 0 → L = rs.map fOv) ∧ gvX σ σ' D L (fOe rs) t s
theorem axr_b {σ : sg_S} {k a b : Int} (hk : 4 ≤ k ∧ k ≤ 10) {R : Int → sg_S → Prop} (kk : R (v_operated k a b) σ) : V_xCompute σ (kmp k) a b R := by
  have c : k = 4 ∨ k = 5 ∨ k = 6 ∨ k = 7 ∨ k = 8 ∨ k = 9 ∨ k = 10 := by omega
  unfold V_xCompute
  rcases c with e | e | e | e | e | e | e <;> subst e
  · refine ⟨fun z => absurd z (by decide), fun _ => ⟨fun z => absurd z (by decide), fun _ => ⟨fun z => absurd z (by decide), fun _ => ⟨fun z => absurd z (by decide), fun _ => ⟨fun z => absurd z (by decide), fun _ => ⟨fun _ => ?_, fun z => absurd rfl z⟩⟩⟩⟩⟩⟩
    unfold V_xCompute_60
    unfold v_operated at kk
    rw [if_pos rfl] at kk
    exact ⟨fun z => by rw [if_pos z] at kk; exact kk, fun z => by rw [if_neg (by omega)] at kk; exact kk⟩
  · refine ⟨fun z => absurd z (by decide), fun _ => ⟨fun z => absurd z (by decide), fun _ => ⟨fun z => absurd z (by decide), fun _ => ⟨fun z => absurd z (by decide), fun _ => ⟨fun z => absurd z (by decide), fun _ => ⟨fun z => absurd z (by decide), fun _ => ⟨fun _ => ?_, fun z => absurd rfl z⟩⟩⟩⟩⟩⟩⟩
    unfold V_xCompute_61
    unfold v_operated at kk
    rw [if_neg (by decide), if_pos rfl] at kk
    exact ⟨fun z => by rw [if_pos z] at kk; exact kk, fun z => by rw [if_neg (fun q => q z)] at kk; exact kk⟩
  · refine ⟨fun z => absurd z (by decide), fun _ => ⟨fun z => absurd z (by decide), fun _ => ⟨fun _ => ?_, fun z => absurd rfl z⟩⟩⟩
    exact kk
  · refine ⟨fun z => absurd z (by decide), fun _ => ⟨fun z => absurd z (by decide), fun _ => ⟨fun z => absurd z (by decide), fun _ => ⟨fun _ => ?_, fun z => absurd rfl z⟩⟩⟩⟩
    exact kk
  · refine ⟨fun z => absurd z (by decide), fun _ => ⟨fun _ => ?_, fun z => absurd rfl z⟩⟩
    exact kk
  · refine ⟨fun z => absurd z (by decide), fun _ => ⟨fun z => absurd z (by decide), fun _ => ⟨fun z => absurd z (by decide), fun _ => ⟨fun z => absurd z (by decide), fun _ => ⟨fun _ => ?_, fun z => absurd rfl z⟩⟩⟩⟩⟩
    unfold V_xCompute_47
    unfold v_operated at kk
    rw [if_neg (by decide), if_neg (by decide), if_neg (by decide), if_neg (by decide), if_neg (by decide)] at kk
    exact ⟨fun z => ⟨z, by rw [if_pos z, if_neg (fun q => q rfl)] at kk; exact kk⟩, fun z => by rw [if_neg (fun q => q z)] at kk; exact kk⟩
  · refine ⟨fun _ => ?_, fun z => absurd rfl z⟩
    unfold V_xCompute_37
    unfold v_operated at kk
    rw [if_neg (by decide), if_neg (by decide), if_neg (by decide), if_neg (by decide), if_neg (by decide)] at kk
    exact ⟨fun z => ⟨z, by rw [if_pos z, if_pos (by decide)] at kk; exact kk⟩, fun z => by rw [if_neg (fun q => q z)] at kk; exact kk⟩
theorem dxz_b {k b : Int} (hk : 4 ≤ k ∧ k ≤ 10) : v_xDividesByZero (kmp k) b = 0 ↔ ¬ ((k = 9 ∨ k = 10) ∧ b = 0) := by
  unfold v_xDividesByZero
  by_cases cb : b = 0
  · rw [if_neg (fun q => q cb)]
    have c : k = 4 ∨ k = 5 ∨ k = 6 ∨ k = 7 ∨ k = 8 ∨ k = 9 ∨ k = 10 := by omega
    rcases c with e | e | e | e | e | e | e <;> subst e <;> simp [kmp, cb]
  · rw [if_pos cb]; exact ⟨fun _ q => cb q.2, fun _ => rfl⟩
theorem fxo_b {σ : sg_S} {k a b : Int} (hk : k = 18 ∨ k = 19 ∨ k = 20) {R : Int → sg_S → Prop} (kk : ∀ q, q = (if k = 18 then sg_n (a + b) else if k = 19 then (if a < b then b else a) else if b < a then b else a) → R q σ) : V_xFold σ (kmp k) a b R := by
  unfold V_xFold
  rcases hk with e | e | e <;> subst e
  · exact ⟨fun z => absurd rfl z, fun _ => kk _ rfl⟩
  · refine ⟨fun _ => ⟨fun z => absurd rfl z, fun _ v6 e6 _ => kk v6 ?_⟩, fun z => absurd z (by decide)⟩
    rw [e6]; rfl
  · refine ⟨fun _ => ⟨fun _ v3 e3 _ => kk v3 ?_, fun z => absurd z (by decide)⟩, fun z => absurd z (by decide)⟩
    rw [e3]; rfl
/-- numbers of n lanes were told -/
theorem num_X {σ σ2 : sg_S} {t : Int} {n : Nat} {f : Nat → Int ⊕ vaF} {g : Nat → Int} {s : fSt} {Q : sg_S → Prop} (h : fP σ t) (hs : ctX σ s) (h9 : sg_g σ 61 9 = 0) (f2 : sg_F acL σ σ2) (ht : toX σ2 0 ((List.range n).map g) [] [] (fOe ((List.range n).map f))) (hf : ∀ i, i < n → fOe [f i] = 0 → f i = .inr (nmF (g i))) (k : ∀ σ', sg_F opL σ σ' → gwX σ σ' 0 ((List.range n).map f) t s → Q σ') : V_fGive σ2 1 Q := by
  refine f_giveX (D := 0) (f := 1) (L := (List.range n).map (fun i => nmF (g i))) h hs (by decide) h9 (by decide) f2 ht (Or.inr (Or.inl ⟨rfl, ?_, rfl, Or.inl ⟨rfl, rfl⟩⟩)) (Or.inr ⟨by decide, rfl⟩) (fun σ' f' r' => k σ' f' ⟨_, ?_, fun e0 => ?_, r'⟩)
  · rw [List.map_map]; rfl
  · show (((List.range n).map _).length : Int) = ((((List.range n).map f).map fOv).length : Int)
    rw [List.length_map, List.length_map, List.length_map]
  · rw [List.map_map]
    refine mp_e (fun i hi => ?_)
    have := hf i hi (fOe_0 e0 _ (List.mem_map.mpr ⟨i, List.mem_range.mpr hi, rfl⟩))
    show nmF (g i) = fOv (f i)
    rw [this]; rfl
theorem mrs {α : Type} (g : Nat → α) (j : Nat) : (List.range (j + 1)).map g = (List.range j).map g ++ [g j] := by rw [List.range_succ, List.map_append]; rfl
section CFS
variable {σ : sg_S} {t : Int} {n : Nat} {f : Nat → Int ⊕ vaF} {s : fSt} {Q : sg_S → Prop}
theorem o_constant {x : Int} (h : fP σ t) (hs : ctX σ s) (h9 : sg_g σ 61 9 = 0) (hn : sg_g σ 61 23 = n) (hx : sg_R x) (hf : ∀ i, i < n → f i = .inr (nmF x)) (k : ∀ σ', sg_F opL σ σ' → gwX σ σ' 0 ((List.range n).map f) t s → Q σ') : V_fConstant σ x Q := by
  have n6 := h.2.2.2.2.2.2
  rw [hn] at n6
  have e0 : ∀ j, j ≤ n → fOe ((List.range j).map f) = 0 := fun j hj => fOe_z j (fun i hi => by rw [hf i (by omega)]; rfl)
  unfold V_fConstant
  rw [hn]
  refine ⟨fun m v σ2 => ∃ j : Nat, v = j ∧ j ≤ n ∧ m = n - j ∧ toX σ2 0 ((List.range j).map (fun _ => x)) [] [] (fOe ((List.range j).map f)), fun σ2 => toX σ2 0 ((List.range n).map (fun _ => x)) [] [] (fOe ((List.range n).map f)), ⟨_, 0, rfl, Nat.zero_le _, rfl, toX_0 h.2.1 0⟩, ?_, fun σ2 f2 ht => num_X h hs h9 (sg_F_m f2 rfl) ht (fun i hi _ => hf i hi) (fun σ' f' r' _ => k σ' f' r')⟩
  rintro m v σ2 rv f2 ⟨j, rfl, hj, hm, ht⟩
  refine ⟨fun z => by rw [show n = j by omega]; exact ht, fun z => t_first ht (by rw [List.length_map, List.length_range]; omega) hx (fun σ' t' f' _ => ⟨⟨by omega, by omega⟩, n - (j + 1), by omega, j + 1, by omega, by omega, rfl, ?_⟩)⟩
  rw [mrs, e0 (j + 1) (by omega)]
  rw [e0 j hj] at t'
  exact t'
theorem o_measure {d : Nat} {v : Int} {la : List vaF} (h : fP σ t) (hs : ctX σ s) (h9 : sg_g σ 61 9 = 0) (hn : sg_g σ 61 23 = n) (hv : yX σ d v la) (hla : la.length = n) (hf : ∀ i, i < n → f i = .inr (nmF ((la.getD i (nmF 0)) []))) (k : ∀ σ', sg_F opL σ σ' → gwX σ σ' 0 ((List.range n).map f) t s → Q σ') : V_fMeasure σ v Q := by
  have n6 := h.2.2.2.2.2.2
  rw [hn] at n6
  have e0 : ∀ j, j ≤ n → fOe ((List.range j).map f) = 0 := fun j hj => fOe_z j (fun i hi => by rw [hf i (by omega)]; rfl)
  unfold V_fMeasure
  rw [hn]
  refine ⟨fun m v σ2 => ∃ j : Nat, v = j ∧ j ≤ n ∧ m = n - j ∧ toX σ2 0 ((List.range j).map (fun i => (la.getD i (nmF 0)) [])) [] [] (fOe ((List.range j).map f)), fun σ2 => toX σ2 0 ((List.range n).map (fun i => (la.getD i (nmF 0)) [])) [] [] (fOe ((List.range n).map f)), ⟨_, 0, rfl, Nat.zero_le _, rfl, toX_0 h.2.1 0⟩, ?_, fun σ2 f2 ht => num_X h hs h9 (sg_F_m f2 rfl) ht (fun i hi _ => hf i hi) (fun σ' f' r' _ => k σ' f' r')⟩
  rintro m v' σ2 rv f2 ⟨j, rfl, hj, hm, ht⟩
  refine ⟨fun z => by rw [show n = j by omega]; exact ht, fun z => ?_⟩
  obtain ⟨c1, c2⟩ := yX_cell h.1 hv (i := j) (by omega)
  have rc : sg_R (v_lCell σ v j) := by
    rw [(y_cell h.1 (yX_c hv).1 (l := (j : Int)) ⟨by omega, by omega⟩).1]; exact sg_Rg _ _ _
  rw [c1] at rc ⊢
  refine ⟨c2, t_first ht (by rw [List.length_map, List.length_range]; omega) rc (fun σ' t' f' _ => ⟨⟨by omega, by omega⟩, n - (j + 1), by omega, j + 1, by omega, by omega, rfl, ?_⟩)⟩
  rw [mrs, e0 (j + 1) (by omega)]
  rw [e0 j hj] at t'
  exact t'
theorem o_combine {kk a b : Int} {da db : Nat} {la lb : List vaF} (hk : 4 ≤ kk ∧ kk ≤ 10) (h : fP σ t) (hs : ctX σ s) (h9 : sg_g σ 61 9 = 0) (hn : sg_g σ 61 23 = n) (ha : yX σ da a la) (hb : yX σ db b lb) (hla : la.length = n) (hlb : lb.length = n) (hf : ∀ i, i < n → f i = if (kk = 9 ∨ kk = 10) ∧ (lb.getD i (nmF 0)) [] = 0 then .inl 1 else .inr (nmF (v_operated kk ((la.getD i (nmF 0)) []) ((lb.getD i (nmF 0)) [])))) (k : ∀ σ', sg_F opL σ σ' → gwX σ σ' 0 ((List.range n).map f) t s → Q σ') : V_fCombine σ (kmp kk) a b Q := by
  have n6 := h.2.2.2.2.2.2
  rw [hn] at n6
  unfold V_fCombine
  rw [hn]
  refine ⟨fun m v σ2 => ∃ j : Nat, v = j ∧ j ≤ n ∧ m = n - j ∧ toX σ2 0 ((List.range j).map (fun i => v_operated kk ((la.getD i (nmF 0)) []) ((lb.getD i (nmF 0)) []))) [] [] (fOe ((List.range j).map f)), fun σ2 => toX σ2 0 ((List.range n).map (fun i => v_operated kk ((la.getD i (nmF 0)) []) ((lb.getD i (nmF 0)) []))) [] [] (fOe ((List.range n).map f)), ⟨_, 0, rfl, Nat.zero_le _, rfl, toX_0 h.2.1 0⟩, ?_, fun σ2 f2 ht => num_X h hs h9 (sg_F_m f2 rfl) ht (fun i hi e => ?_) (fun σ' f' r' _ => k σ' f' r')⟩
  · rintro m v' σ2 rv f2 ⟨j, rfl, hj, hm, ht⟩
    refine ⟨fun z => by rw [show n = j by omega]; exact ht, fun z => ?_⟩
    obtain ⟨c1, c2⟩ := yX_cell h.1 ha (i := j) (by omega)
    obtain ⟨b1, b2⟩ := yX_cell h.1 hb (i := j) (by omega)
    have hfj := hf j (by omega)
    rw [c1, b1]
    refine ⟨b2, fun σ28 => toX σ28 0 ((List.range j).map (fun i => v_operated kk ((la.getD i (nmF 0)) []) ((lb.getD i (nmF 0)) []))) [] [] (fOe ((List.range (j + 1)).map f)), ⟨fun q => ?_, fun q => t_miss ht (by decide) (fun σ' t' f' _ => ?_)⟩, fun σ28 f28 h28 => ⟨c2, axr_b hk (fun rx => t_first h28 (by rw [List.length_map, List.length_range]; omega) rx (fun σ' t' f' _ => ⟨⟨by omega, by omega⟩, n - (j + 1), by omega, j + 1, by omega, by omega, rfl, by rw [mrs]; exact t'⟩))⟩⟩
    · rw [if_neg ((dxz_b hk).mp q)] at hfj
      rw [fOe_r, hfj]
      have : fOe [(.inr (nmF (v_operated kk ((la.getD j (nmF 0)) []) ((lb.getD j (nmF 0)) []))) : Int ⊕ vaF)] = 0 := rfl
      rw [this]
      by_cases c : fOe ((List.range j).map f) = 0
      · rw [if_pos c]; rw [c] at ht; exact ht
      · rw [if_neg c]; exact ht
    · have c : (kk = 9 ∨ kk = 10) ∧ (lb.getD j (nmF 0)) [] = 0 := Decidable.byContradiction (fun w => q ((dxz_b hk).mpr w))
      rw [if_pos c] at hfj
      rw [fOe_r, hfj, fOe_l]
      exact t'
  · have hfi := hf i hi
    by_cases c : (kk = 9 ∨ kk = 10) ∧ (lb.getD i (nmF 0)) [] = 0
    · rw [if_pos c] at hfi
      rw [hfi, fOe_l] at e
      exact absurd e (by decide)
    · rw [if_neg c] at hfi
      exact hfi
end CFS
/-! Operations of the class that pick, exactly. -/
section CGS
variable {w : Nat → vaF}
theorem flw_s (j : Nat) : flF ((List.range (j + 1)).map w) = flF ((List.range j).map w) ++ itF (w j) := by
  rw [mrs, flF_a, flF_1]
theorem flw_l : ∀ {j : Nat}, (∀ i, i < j → (w i) [] ≤ 200) → (flF ((List.range j).map w)).length ≤ 200 * j
  | 0, _ => by simp [flF]
  | j + 1, h => by
    have a := flw_l (j := j) (fun i hi => h i (by omega))
    have b := h j (by omega)
    rw [flw_s, List.length_append, itF_l]
    omega
theorem exF_pre (D : Nat) {j n : Nat} (h : j ≤ n) : exF D ((List.range j).map w) ≤ exF D ((List.range n).map w) := by
  obtain ⟨m, rfl⟩ : ∃ m, n = j + m := ⟨n - j, by omega⟩
  have e : (List.range (j + m)).map w = (List.range j).map w ++ (List.range m).map (fun i => w (j + i)) := by
    rw [List.range_add, List.map_append, List.map_map]; rfl
  rw [e, exF_a]
  have := exF_p D ((List.range m).map (fun i => w (j + i)))
  omega
end CGS
/-- items a .. b of lane j -/
theorem pkX_it {σ : sg_S} (g : yG σ) {d : Nat} {s : Int} {la : List vaF} (h : yX σ (d + 1) s la) {j a b : Nat} (hj : j < la.length) (ab : a ≤ b) (hb : b ≤ (itF (la.getD j (nmF 0))).length) : pkX σ d (v_lItems σ s) ((ahF la j + a : Nat) : Int) ((ahF la j + b : Nat) : Int) (((itF (la.getD j (nmF 0))).drop a).take (b - a)) := by
  right
  have nx := h.2.2.2
  rw [← y_items g h.1] at nx
  have le := ahF_b hj
  refine ⟨flF la, nx, by omega, by omega, by omega, ?_⟩
  rw [Int.toNat_natCast, show (((ahF la j + b : Nat) : Int) - ((ahF la j + a : Nat) : Int)).toNat = b - a by omega, flF_at hj]
  have e5 : ahF la j = (flF (la.take j)).length := rfl
  rw [e5, ← List.drop_drop, List.drop_left, List.drop_append_of_le_length (by omega), List.take_append_of_le_length (by rw [List.length_drop]; omega)]
theorem pkX_1 {σ : sg_S} (g : yG σ) {d : Nat} {s : Int} {la : List vaF} (h : yX σ (d + 1) s la) {j a : Nat} (hj : j < la.length) (ha : a < (itF (la.getD j (nmF 0))).length) : pkX σ d (v_lItems σ s) ((ahF la j + a : Nat) : Int) (((ahF la j + a : Nat) : Int) + 1) [(itF (la.getD j (nmF 0))).getD a (nmF 0)] := by
  have := pkX_it g h hj (a := a) (b := a + 1) (by omega) (by omega)
  rw [show ((ahF la j + (a + 1) : Nat) : Int) = ((ahF la j + a : Nat) : Int) + 1 by omega, show a + 1 - a = 1 by omega, dr_D ha] at this
  exact this
theorem itR {σ : sg_S} {v : Int} : sg_R (v_lItems σ v) := by
  unfold v_lItems
  repeat' split
  all_goals first | exact sg_Rg _ _ _ | decide
/-- cells, starts, ends of lane j of a sequence -/
theorem yX_ln {σ : sg_S} (g : yG σ) {d : Nat} {s : Int} {la : List vaF} (h : yX σ (d + 1) s la) {j : Nat} (hj : j < la.length) : v_lCell σ s j = ((itF (la.getD j (nmF 0))).length : Int) ∧ v_lStart σ s j = (ahF la j : Int) ∧ v_lEnd σ s j = ((ahF la j + (itF (la.getD j (nmF 0))).length : Nat) : Int) ∧ (itF (la.getD j (nmF 0))).length ≤ 200 ∧ ahF la j + (itF (la.getD j (nmF 0))).length ≤ 6000 ∧ p_lCell σ s j ∧ p_lStart σ s j ∧ p_lEnd σ s j := by
  obtain ⟨b1, b2, b3, b4, b5, b6, b7, b8, b9, b10⟩ := y_lane g (yX_V h) (l := (j : Int)) ⟨by omega, by omega⟩
  obtain ⟨c1, c2⟩ := yX_cell g h hj
  obtain ⟨s1, s2, s3⟩ := yX_st g h hj
  have q := (h.2.1 j hj).2
  rw [ahF_s hj] at s3
  have il := itF_l (la.getD j (nmF 0))
  refine ⟨by rw [c1]; omega, s1, s3, by omega, ?_, c2, s2, b10⟩
  rw [s3] at b7
  omega
/-- what was told of n lanes of sequences -/
theorem str_X {σ σ2 : sg_S} {t : Int} {n d : Nat} {f : Nat → Int ⊕ vaF} {s : fSt} {Q : sg_S → Prop} (h : fP σ t) (hs : ctX σ s) (hD : d + 1 ≤ 3) (h9 : sg_g σ 61 9 = (d + 1 : Nat)) (f2 : sg_F acL σ σ2) (ht : toX σ2 d ((List.range n).map (fun i => (fOv (f i)) [])) [] (flF ((List.range n).map (fun i => fOv (f i)))) (fOe ((List.range n).map f)) ∨ (¬ sg_g σ2 77 15 = 0 ∧ 6000 < exF (d + 1) ((List.range n).map (fun i => fOv (f i))))) (hf : ∀ i, i < n → 0 ≤ (fOv (f i)) [] ∧ (fOv (f i)) [] ≤ 200) (k : ∀ σ', sg_F opL σ σ' → gwX σ σ' (d + 1) ((List.range n).map f) t s → Q σ') : V_fGive σ2 1 Q := by
  have eL : ((List.range n).map f).map fOv = (List.range n).map (fun i => fOv (f i)) := by rw [List.map_map]; rfl
  have fin : ∀ σ', sg_F opL σ σ' → gvX σ σ' (d + 1) ((List.range n).map (fun i => fOv (f i))) (fOe ((List.range n).map f)) t s → Q σ' := fun σ' f' r' => k σ' f' ⟨_, by rw [eL], fun _ => eL.symm, r'⟩
  rcases ht with ht | ht
  · refine f_giveX (D := d + 1) (f := 1) (L := (List.range n).map (fun i => fOv (f i))) h hs hD h9 (by decide) f2 ht (Or.inr (Or.inl ⟨rfl, by rw [List.map_map]; rfl, rfl, Or.inr ⟨by omega, rfl, fun v hv => ?_⟩⟩)) (Or.inl (by omega)) fin
    obtain ⟨i, hi, e⟩ := List.mem_map.mp hv
    rw [← e]
    exact hf i (List.mem_range.mp hi)
  · exact f_giveG (D := d + 1) (f := 1) h hs hD h9 (by decide) f2 (Or.inr ht) fin
/-- there is no room in the first j lanes, so there is none in n -/
theorem str_O {σ2 : sg_S} {n d j : Nat} {f : Nat → Int ⊕ vaF} (ht : toX σ2 d ((List.range j).map (fun i => (fOv (f i)) [])) [] (flF ((List.range j).map (fun i => fOv (f i)))) (fOe ((List.range j).map f))) (hf : ∀ i, i < n → 0 ≤ (fOv (f i)) [] ∧ (fOv (f i)) [] ≤ 200) (hj : j ≤ n) (o : ¬ sg_g σ2 77 15 = 0) : 6000 < exF (d + 1) ((List.range n).map (fun i => fOv (f i))) := by
  obtain ⟨q1, q2, q3, q4⟩ := toX_s (f := 1) (D := d + 1) (L := (List.range j).map (fun i => fOv (f i))) ht (Or.inr (Or.inl ⟨rfl, by rw [List.map_map]; rfl, rfl, Or.inr ⟨by omega, rfl, fun v hv => by
    obtain ⟨i, hi, e⟩ := List.mem_map.mp hv
    rw [← e]
    exact hf i (by have := List.mem_range.mp hi; omega)⟩⟩)) (Or.inl (by omega))
  have a := q2 (by omega)
  have b := exF_pre (w := fun i => fOv (f i)) (d + 1) hj
  omega
/-- lanes were picked -/
theorem pic_X {σ σ2 : sg_S} {t : Int} {n d : Nat} {f : Nat → Int ⊕ vaF} {s : fSt} {Q : sg_S → Prop} (h : fP σ t) (hs : ctX σ s) (hD : d ≤ 3) (h9 : sg_g σ 61 9 = d) (f2 : sg_F acL σ σ2) (ht : toX σ2 d [] [] ((List.range n).map (fun i => fOv (f i))) (fOe ((List.range n).map f))) (k : ∀ σ', sg_F opL σ σ' → gwX σ σ' d ((List.range n).map f) t s → Q σ') : V_fGive σ2 0 Q := by
  have eL : ((List.range n).map f).map fOv = (List.range n).map (fun i => fOv (f i)) := by rw [List.map_map]; rfl
  exact f_giveX (D := d) (f := 0) (L := (List.range n).map (fun i => fOv (f i))) h hs hD h9 (by decide) f2 ht (Or.inl ⟨rfl, rfl, rfl, rfl⟩) (Or.inl (by omega)) (fun σ' f' r' => k σ' f' ⟨_, by rw [eL], fun _ => eL.symm, r'⟩)
theorem bad_x {x : Int} (h : 0 ≤ x ∧ x ≤ 200) : v_xBadSize x = 0 := by
  unfold v_xBadSize
  rw [if_neg (by omega), if_pos (by omega)]
theorem fOe_nx {f : Nat → Int ⊕ vaF} {j : Nat} {v : vaF} (h : f j = .inr v) : fOe ((List.range (j + 1)).map f) = fOe ((List.range j).map f) := by
  rw [fOe_r, h]
  by_cases c : fOe ((List.range j).map f) = 0
  · rw [if_pos c, c]; rfl
  · rw [if_neg c]
theorem fOe_f {f : Nat → Int ⊕ vaF} {j : Nat} {e : Int} (h : f j = .inl e) : fOe ((List.range (j + 1)).map f) = if fOe ((List.range j).map f) = 0 then e else fOe ((List.range j).map f) := by
  rw [fOe_r, h, fOe_l]
section CGT
variable {σ : sg_S} {t : Int} {n d : Nat} {f : Nat → Int ⊕ vaF} {s : fSt} {Q : sg_S → Prop}
theorem o_select {db : Nat} {a b : Int} {la lb : List vaF} (h : fP σ t) (hs : ctX σ s) (hD : d ≤ 3) (h9 : sg_g σ 61 9 = d) (hn : sg_g σ 61 23 = n) (ha : yX σ (d + 1) a la) (hb : yX σ db b lb) (hla : la.length = n) (hlb : lb.length = n) (hf : ∀ i, i < n → f i = if 0 ≤ (lb.getD i (nmF 0)) [] ∧ (lb.getD i (nmF 0)) [] < ((itF (la.getD i (nmF 0))).length : Int) then .inr ((itF (la.getD i (nmF 0))).getD ((lb.getD i (nmF 0)) []).toNat (nmF 0)) else .inl 2) (k : ∀ σ', sg_F opL σ σ' → gwX σ σ' d ((List.range n).map f) t s → Q σ') : V_fSelect σ a b Q := by
  have n6 := h.2.2.2.2.2.2
  rw [hn] at n6
  unfold V_fSelect
  rw [hn]
  refine ⟨fun m v σ2 => ∃ j : Nat, v = j ∧ j ≤ n ∧ m = n - j ∧ toX σ2 d [] [] ((List.range j).map (fun i => fOv (f i))) (fOe ((List.range j).map f)), fun σ2 => toX σ2 d [] [] ((List.range n).map (fun i => fOv (f i))) (fOe ((List.range n).map f)), ⟨_, 0, rfl, Nat.zero_le _, rfl, toX_0 h.2.1 d⟩, ?_, fun σ2 f2 ht => pic_X h hs hD h9 (sg_F_m f2 rfl) ht (fun σ' f' r' _ => k σ' f' r')⟩
  rintro m v' σ2 rv f2 ⟨j, rfl, hj, hm, ht⟩
  refine ⟨fun z => by rw [show n = j by omega]; exact ht, fun z => ?_⟩
  have jl : j < la.length := by omega
  obtain ⟨l1, l2, l3, l4, l5, l6, l7, l8⟩ := yX_ln h.1 ha jl
  obtain ⟨b1, b2⟩ := yX_cell h.1 hb (i := j) (by omega)
  have hfj := hf j (by omega)
  have ex2 : yEx σ σ2 := yEx_F f2 rfl
  have fl6 : ((List.range j).map (fun i => fOv (f i))).length ≤ 1000000000 := by rw [List.length_map, List.length_range]; omega
  rw [b1, l1, l2]
  generalize hy : (lb.getD j (nmF 0)) [] = y at hfj
  have fault : ¬ (0 ≤ y ∧ y < ((itF (la.getD j (nmF 0))).length : Int)) → V_lMiss σ2 2 (fun σ34 => sg_F [15077] σ2 σ34 → V_lPick σ34 (-1) 0 1 (fun σ40 => sg_F [85, 86, 87, 14077, 16077] σ34 σ40 → toX σ40 d [] [] ((List.range (j + 1)).map (fun i => fOv (f i))) (fOe ((List.range (j + 1)).map f)))) := fun c => by
    rw [if_neg c] at hfj
    refine t_miss ht (by decide) (fun σ' t' f' _ => t_pick t' fl6 (Or.inl ⟨rfl, rfl, Or.inl ⟨rfl, rfl⟩⟩) (by decide) (by decide) (fun σ3 t3 f3 _ => ?_))
    rw [mrs, fOe_f hfj, hfj]
    exact t3
  refine ⟨b2, fun σ28 => toX σ28 d [] [] ((List.range (j + 1)).map (fun i => fOv (f i))) (fOe ((List.range (j + 1)).map f)), ⟨fun c => fault (by omega), fun c => ⟨l6, fun c2 => ?_, fun c2 => fault (by omega)⟩⟩, fun σ28 f28 h28 => ⟨⟨by omega, by omega⟩, n - (j + 1), by omega, j + 1, by omega, by omega, rfl, h28⟩⟩
  rw [if_pos ⟨c, c2⟩] at hfj
  have pk := pkX_1 h.1 ha jl (a := y.toNat) (by omega)
  rw [show ((ahF la j + y.toNat : Nat) : Int) = (ahF la j : Int) + y by omega] at pk
  refine ⟨l7, ⟨by omega, by omega⟩, y_pitems _ _, ⟨by omega, by omega⟩, t_pick ht fl6 (pkX_up ex2 pk) itR ⟨by omega, by omega⟩ (fun σ3 t3 f3 _ => ?_)⟩
  rw [mrs, fOe_nx hfj, hfj]
  exact t3
theorem o_reverse {a : Int} {la : List vaF} (h : fP σ t) (hs : ctX σ s) (hD : d + 1 ≤ 3) (h9 : sg_g σ 61 9 = (d + 1 : Nat)) (hn : sg_g σ 61 23 = n) (ha : yX σ (d + 1) a la) (hla : la.length = n) (hf : ∀ i, i < n → f i = .inr (mkF (itF (la.getD i (nmF 0))).reverse)) (k : ∀ σ', sg_F opL σ σ' → gwX σ σ' (d + 1) ((List.range n).map f) t s → Q σ') : V_fReverse σ a Q := by
  have n6 := h.2.2.2.2.2.2
  rw [hn] at n6
  have hb : ∀ i, i < n → 0 ≤ (fOv (f i)) [] ∧ (fOv (f i)) [] ≤ 200 := fun i hi => by
    rw [hf i hi]
    show 0 ≤ mkF _ [] ∧ mkF _ [] ≤ 200
    rw [mkF_0, List.length_reverse]
    have := (yX_ln h.1 ha (j := i) (by omega)).2.2.2.1
    omega
  unfold V_fReverse
  rw [hn]
  refine ⟨fun m v σ2 => ∃ j : Nat, v = j ∧ j ≤ n ∧ m = n - j ∧ toX σ2 d ((List.range j).map (fun i => (fOv (f i)) [])) [] (flF ((List.range j).map (fun i => fOv (f i)))) (fOe ((List.range j).map f)), fun σ2 => toX σ2 d ((List.range n).map (fun i => (fOv (f i)) [])) [] (flF ((List.range n).map (fun i => fOv (f i)))) (fOe ((List.range n).map f)), ⟨_, 0, rfl, Nat.zero_le _, rfl, toX_0 h.2.1 d⟩, ?_, fun σ2 f2 ht => str_X h hs hD h9 (sg_F_m f2 rfl) (Or.inl ht) hb (fun σ' f' r' _ => k σ' f' r')⟩
  rintro m v' σ2 rv f2 ⟨j, rfl, hj, hm, ht⟩
  refine ⟨fun z => by rw [show n = j by omega]; exact ht, fun z => ?_⟩
  have jl : j < la.length := by omega
  obtain ⟨l1, l2, l3, l4, l5, l6, l7, l8⟩ := yX_ln h.1 ha jl
  have hfj := hf j (by omega)
  have fl6 := flw_l (w := fun i => fOv (f i)) (j := j) (fun i hi => (hb i (by omega)).2)
  rw [l1, l2, l3]
  generalize hI : itF (la.getD j (nmF 0)) = I at *
  refine ⟨l7, l6, t_first ht (by rw [List.length_map, List.length_range]; omega) ⟨by omega, by omega⟩ (fun σ28 t28 f28 _ => ⟨l8, ⟨by omega, by omega⟩, ?_⟩)⟩
  have f28' := sg_F_t (sg_F_m (L := [83, 85, 86, 87, 12077, 14077, 16077]) f2 rfl) (sg_F_m f28 rfl)
  have e1 : (List.range j).map (fun i => (fOv (f i)) []) ++ [((I.length : Nat) : Int)] = (List.range (j + 1)).map (fun i => (fOv (f i)) []) := by
    rw [mrs, hfj]
    show _ = _ ++ [mkF I.reverse []]
    rw [mkF_0, List.length_reverse]
  rw [e1] at t28
  refine ⟨fun m2 v36 σ37 => ∃ i : Nat, v36 = ((ahF la j + I.length : Nat) : Int) - 1 - i ∧ i ≤ I.length ∧ m2 = I.length - i ∧ toX σ37 d ((List.range (j + 1)).map (fun i => (fOv (f i)) [])) [] (flF ((List.range j).map (fun i => fOv (f i))) ++ I.reverse.take i) (fOe ((List.range j).map f)), fun σ37 => toX σ37 d ((List.range (j + 1)).map (fun i => (fOv (f i)) [])) [] (flF ((List.range (j + 1)).map (fun i => fOv (f i)))) (fOe ((List.range (j + 1)).map f)), ⟨_, 0, by omega, Nat.zero_le _, rfl, by rw [List.take_zero, List.append_nil]; exact t28⟩, ?_, fun σ37 f37 h37 => ⟨⟨by omega, by omega⟩, n - (j + 1), by omega, j + 1, by omega, by omega, rfl, h37⟩⟩
  rintro m2 v36 σ37 r36 f37 ⟨i, rfl, hi1, hm2, ht2⟩
  have ex37 : yEx σ σ37 := yEx_F (sg_F_t f28' (sg_F_m f37 rfl)) rfl
  refine ⟨fun y => ?_, fun y => ?_⟩
  · have ei : i = I.length := by omega
    rw [flw_s, fOe_nx hfj, hfj]
    show toX σ37 d _ [] (_ ++ itF (mkF I.reverse)) _
    rw [itF_mk]
    rw [ei, List.take_of_length_le (by rw [List.length_reverse]; exact Nat.le_refl _)] at ht2
    exact ht2
  · have il : i < I.length := by omega
    have pk := pkX_1 h.1 ha jl (a := I.length - 1 - i) (by rw [hI]; omega)
    rw [hI, show ((ahF la j + (I.length - 1 - i) : Nat) : Int) = ((ahF la j + I.length : Nat) : Int) - 1 - i by omega] at pk
    refine ⟨y_pitems _ _, ⟨by omega, by omega⟩, t_pick ht2 (by rw [List.length_append, List.length_take]; omega) (pkX_up ex37 pk) itR ⟨by omega, by omega⟩ (fun σ3 t3 f3 _ => ⟨⟨by omega, by omega⟩, I.length - (i + 1), by omega, i + 1, by omega, by omega, rfl, ?_⟩)⟩
    have e2 : I.reverse[i]? = some (I.getD (I.length - 1 - i) (nmF 0)) := by
      rw [List.getElem?_reverse il, gD_i (by omega)]
    rw [tkA e2, ← List.append_assoc]
    exact t3
theorem o_append {a b : Int} {la lb : List vaF} (h : fP σ t) (hs : ctX σ s) (hD : d + 1 ≤ 3) (h9 : sg_g σ 61 9 = (d + 1 : Nat)) (hn : sg_g σ 61 23 = n) (ha : yX σ (d + 1) a la) (hb : yX σ (d + 1) b lb) (hla : la.length = n) (hlb : lb.length = n) (hf : ∀ i, i < n → f i = if (itF (la.getD i (nmF 0))).length + (itF (lb.getD i (nmF 0))).length ≤ 200 then .inr (mkF (itF (la.getD i (nmF 0)) ++ itF (lb.getD i (nmF 0)))) else .inl 5) (k : ∀ σ', sg_F opL σ σ' → gwX σ σ' (d + 1) ((List.range n).map f) t s → Q σ') : V_fAppend σ a b Q := by
  have n6 := h.2.2.2.2.2.2
  rw [hn] at n6
  have hbd : ∀ i, i < n → 0 ≤ (fOv (f i)) [] ∧ (fOv (f i)) [] ≤ 200 := fun i hi => by
    rw [hf i hi]
    by_cases c : (itF (la.getD i (nmF 0))).length + (itF (lb.getD i (nmF 0))).length ≤ 200
    · rw [if_pos c]
      show 0 ≤ mkF _ [] ∧ mkF _ [] ≤ 200
      rw [mkF_0, List.length_append]
      omega
    · rw [if_neg c]
      exact ⟨by decide, by decide⟩
  unfold V_fAppend
  rw [hn]
  refine ⟨fun m v σ2 => ∃ j : Nat, v = j ∧ j ≤ n ∧ m = n - j ∧ toX σ2 d ((List.range j).map (fun i => (fOv (f i)) [])) [] (flF ((List.range j).map (fun i => fOv (f i)))) (fOe ((List.range j).map f)), fun σ2 => toX σ2 d ((List.range n).map (fun i => (fOv (f i)) [])) [] (flF ((List.range n).map (fun i => fOv (f i)))) (fOe ((List.range n).map f)), ⟨_, 0, rfl, Nat.zero_le _, rfl, toX_0 h.2.1 d⟩, ?_, fun σ2 f2 ht => str_X h hs hD h9 (sg_F_m f2 rfl) (Or.inl ht) hbd (fun σ' f' r' _ => k σ' f' r')⟩
  rintro m v' σ2 rv f2 ⟨j, rfl, hj, hm, ht⟩
  refine ⟨fun z => by rw [show n = j by omega]; exact ht, fun z => ?_⟩
  obtain ⟨l1, l2, l3, l4, l5, l6, l7, l8⟩ := yX_ln h.1 ha (j := j) (by omega)
  obtain ⟨k1, k2, k3, k4, k5, k6, k7, k8⟩ := yX_ln h.1 hb (j := j) (by omega)
  have hfj := hf j (by omega)
  have fl6 := flw_l (w := fun i => fOv (f i)) (j := j) (fun i hi => (hbd i (by omega)).2)
  have pa := pkX_it h.1 ha (j := j) (a := 0) (b := (itF (la.getD j (nmF 0))).length) (by omega) (by omega) (Nat.le_refl _)
  have pb := pkX_it h.1 hb (j := j) (a := 0) (b := (itF (lb.getD j (nmF 0))).length) (by omega) (by omega) (Nat.le_refl _)
  rw [Nat.add_zero, List.drop_zero, Nat.sub_zero, List.take_length] at pa pb
  rw [l1, l2, l3, k1, k2, k3]
  generalize itF (la.getD j (nmF 0)) = I at *
  generalize itF (lb.getD j (nmF 0)) = K at *
  refine ⟨l6, k6, ⟨by omega, by omega⟩, fun σ31 => toX σ31 d ((List.range (j + 1)).map (fun i => (fOv (f i)) [])) [] (flF ((List.range (j + 1)).map (fun i => fOv (f i)))) (fOe ((List.range (j + 1)).map f)), ⟨fun y => ?_, fun y => ?_⟩, fun σ31 f31 h31 => ⟨⟨by omega, by omega⟩, n - (j + 1), by omega, j + 1, by omega, by omega, rfl, h31⟩⟩
  · have bx := x_bad y
    rw [if_pos (by omega)] at hfj
    refine t_first ht (by rw [List.length_map, List.length_range]; omega) ⟨by omega, by omega⟩ (fun σ37 t37 f37 _ => ⟨y_pitems _ _, l7, l8, ?_⟩)
    have ex37 : yEx σ σ37 := yEx_F (sg_F_t f2 (sg_F_m f37 rfl)) rfl
    refine t_pick t37 (by omega) (pkX_up ex37 pa) itR ⟨by omega, by omega⟩ (fun σ49 t49 f49 _ => ⟨y_pitems _ _, k7, k8, ?_⟩)
    have ex49 : yEx σ σ49 := yEx_t ex37 (yEx_F f49 rfl)
    refine t_pick t49 (by rw [List.length_append]; omega) (pkX_up ex49 pb) itR ⟨by omega, by omega⟩ (fun σ61 t61 f61 _ => ?_)
    rw [mrs, flw_s, fOe_nx hfj, hfj]
    show toX σ61 d (_ ++ [mkF (I ++ K) []]) [] (_ ++ itF (mkF (I ++ K))) _
    rw [itF_mk, mkF_0, List.length_append, ← List.append_assoc]
    rw [show ((I.length + K.length : Nat) : Int) = (I.length : Int) + (K.length : Int) by omega]
    exact t61
  · have nb : ¬ I.length + K.length ≤ 200 := fun c => y (bad_x (by omega))
    rw [if_neg nb] at hfj
    refine t_miss ht (by decide) (fun σ67 t67 f67 _ => t_first t67 (by rw [List.length_map, List.length_range]; omega) (by decide) (fun σ73 t73 f73 _ => ?_))
    rw [mrs, flw_s, fOe_f hfj, hfj]
    show toX σ73 d (_ ++ [0]) [] (_ ++ itF (nmF 0)) _
    rw [show itF (nmF 0) = [] by simp [itF, nmF], List.append_nil]
    exact t73
end CGT
/-! More operations of the class, exactly: flatten, repeat, rows, counts. -/
/-- lanes of numbers in sequences were told: firsts and seconds -/
theorem sec_X {σ σ2 : sg_S} {t : Int} {n : Nat} {f : Nat → Int ⊕ vaF} {s : fSt} {Q : sg_S → Prop} (h : fP σ t) (hs : ctX σ s) (h9 : sg_g σ 61 9 = 1) (f2 : sg_F acL σ σ2) (ht : toX σ2 0 ((List.range n).map (fun i => (fOv (f i)) [])) ((flF ((List.range n).map (fun i => fOv (f i)))).map (fun v => v [])) [] (fOe ((List.range n).map f)) ∨ (¬ sg_g σ2 77 15 = 0 ∧ 6000 < exF 1 ((List.range n).map (fun i => fOv (f i))))) (hf : ∀ i, i < n → 0 ≤ (fOv (f i)) [] ∧ (fOv (f i)) [] ≤ 200) (k : ∀ σ', sg_F opL σ σ' → gwX σ σ' 1 ((List.range n).map f) t s → Q σ') : V_fGive σ2 2 Q := by
  have eL : ((List.range n).map f).map fOv = (List.range n).map (fun i => fOv (f i)) := by rw [List.map_map]; rfl
  have fin : ∀ σ', sg_F opL σ σ' → gvX σ σ' 1 ((List.range n).map (fun i => fOv (f i))) (fOe ((List.range n).map f)) t s → Q σ' := fun σ' f' r' => k σ' f' ⟨_, by rw [eL], fun _ => eL.symm, r'⟩
  have bd : ∀ v ∈ (List.range n).map (fun i => fOv (f i)), 0 ≤ v [] ∧ v [] ≤ 200 := fun v hv => by
    obtain ⟨i, hi, e⟩ := List.mem_map.mp hv
    rw [← e]
    exact hf i (List.mem_range.mp hi)
  rcases ht with ht | ht
  · exact f_giveX (D := 1) (f := 2) (L := (List.range n).map (fun i => fOv (f i))) h hs (by decide) h9 (by decide) f2 ht (Or.inr (Or.inr ⟨rfl, by decide, by rw [List.map_map]; rfl, rfl, bd, Or.inl ⟨rfl, rfl⟩⟩)) (Or.inr ⟨by decide, rfl⟩) fin
  · exact f_giveG (D := 1) (f := 2) h hs (by decide) h9 (by decide) f2 (Or.inr ht) fin
theorem sec_O {σ2 : sg_S} {n j : Nat} {f : Nat → Int ⊕ vaF} (ht : toX σ2 0 ((List.range j).map (fun i => (fOv (f i)) [])) ((flF ((List.range j).map (fun i => fOv (f i)))).map (fun v => v [])) [] (fOe ((List.range j).map f))) (hf : ∀ i, i < n → 0 ≤ (fOv (f i)) [] ∧ (fOv (f i)) [] ≤ 200) (hj : j ≤ n) (o : ¬ sg_g σ2 77 15 = 0) : 6000 < exF 1 ((List.range n).map (fun i => fOv (f i))) := by
  obtain ⟨q1, q2, q3, q4⟩ := toX_s (f := 2) (D := 1) (L := (List.range j).map (fun i => fOv (f i))) ht (Or.inr (Or.inr ⟨rfl, by decide, by rw [List.map_map]; rfl, rfl, fun v hv => by
    obtain ⟨i, hi, e⟩ := List.mem_map.mp hv
    rw [← e]
    exact hf i (by have := List.mem_range.mp hi; omega), Or.inl ⟨rfl, rfl⟩⟩)) (Or.inr ⟨by decide, rfl⟩)
  have a := q2 (by omega)
  have b := exF_pre (w := fun i => fOv (f i)) 1 hj
  omega
section CHT
variable {σ : sg_S} {t : Int} {n d : Nat} {f : Nat → Int ⊕ vaF} {s : fSt} {Q : sg_S → Prop}
/-- a size in a lane -/
theorem t_size {σ2 : sg_S} {b : Int} {j db : Nat} {lb : List vaF} {F S : List Int} {fl : List vaF} {e : Int} {Q : Int → sg_S → Prop} (g : yG σ2) (hb : yX σ2 db b lb) (hj : j < lb.length) (ht : toX σ2 d F S fl e) (k1 : 0 ≤ (lb.getD j (nmF 0)) [] ∧ (lb.getD j (nmF 0)) [] ≤ 200 → Q ((lb.getD j (nmF 0)) []) σ2) (k2 : ¬ (0 ≤ (lb.getD j (nmF 0)) [] ∧ (lb.getD j (nmF 0)) [] ≤ 200) → ∀ σ', toX σ' d F S fl (if e = 0 then 5 else e) → sg_F [15077] σ2 σ' → Q 0 σ') : V_fSizeIn σ2 b (j : Int) Q := by
  obtain ⟨b1, b2⟩ := yX_cell g hb hj
  unfold V_fSizeIn
  rw [b1]
  refine ⟨b2, fun y => k1 (x_bad y), fun y => t_miss ht (by decide) (fun σ' t' f' _ => k2 (fun c => y (bad_x c)) σ' t' f')⟩
theorem o_flatten {a : Int} {la : List vaF} (h : fP σ t) (hs : ctX σ s) (hD : d + 1 ≤ 3) (h9 : sg_g σ 61 9 = (d + 1 : Nat)) (hn : sg_g σ 61 23 = n) (ha : yX σ (d + 2) a la) (hla : la.length = n) (hf : ∀ i, i < n → f i = if ((flF (itF (la.getD i (nmF 0)))).length : Int) ≤ 200 then .inr (mkF (flF (itF (la.getD i (nmF 0))))) else .inl 5) (k : ∀ σ', sg_F opL σ σ' → gwX σ σ' (d + 1) ((List.range n).map f) t s → Q σ') : V_fFlatten σ a Q := by
  have n6 := h.2.2.2.2.2.2
  rw [hn] at n6
  have hbd : ∀ i, i < n → 0 ≤ (fOv (f i)) [] ∧ (fOv (f i)) [] ≤ 200 := fun i hi => by
    rw [hf i hi]
    by_cases c : ((flF (itF (la.getD i (nmF 0)))).length : Int) ≤ 200
    · rw [if_pos c]
      show 0 ≤ mkF _ [] ∧ mkF _ [] ≤ 200
      rw [mkF_0]
      omega
    · rw [if_neg c]
      exact ⟨by decide, by decide⟩
  have it : yX σ (d + 1) (v_lItems σ a) (flF la) := by rw [y_items h.1 ha.1]; exact ha.2.2.2
  unfold V_fFlatten
  rw [hn]
  refine ⟨y_pitems _ _, fun m v σ2 => ∃ j : Nat, v = j ∧ j ≤ n ∧ m = n - j ∧ toX σ2 d ((List.range j).map (fun i => (fOv (f i)) [])) [] (flF ((List.range j).map (fun i => fOv (f i)))) (fOe ((List.range j).map f)), fun σ2 => toX σ2 d ((List.range n).map (fun i => (fOv (f i)) [])) [] (flF ((List.range n).map (fun i => fOv (f i)))) (fOe ((List.range n).map f)), ⟨_, 0, rfl, Nat.zero_le _, rfl, toX_0 h.2.1 d⟩, ?_, fun σ2 f2 ht => str_X h hs hD h9 (sg_F_m f2 rfl) (Or.inl ht) hbd (fun σ' f' r' _ => k σ' f' r')⟩
  rintro m v' σ2 rv f2 ⟨j, rfl, hj, hm, ht⟩
  refine ⟨fun z => by rw [show n = j by omega]; exact ht, fun z => ?_⟩
  have jl : j < la.length := by omega
  obtain ⟨l1, l2, l3, l4, l5, l6, l7, l8⟩ := yX_ln h.1 ha jl
  have hfj := hf j (by omega)
  have fl6 := flw_l (w := fun i => fOv (f i)) (j := j) (fun i hi => (hbd i (by omega)).2)
  have lb := ahF_b jl
  have ex2 : yEx σ σ2 := yEx_F f2 rfl
  rw [l1, l2, l3]
  generalize hI : itF (la.getD j (nmF 0)) = I at *
  refine ⟨l6, fun v29 e29 r29 => ?_⟩
  have nn : v29 = 0 ↔ ¬ I.length = 0 := by
    rw [e29]
    by_cases c : (I.length : Int) = 0
    · rw [if_neg (fun q => q c)]; exact ⟨fun q => absurd q (by decide), fun q => absurd (by omega) q⟩
    · rw [if_pos c]; exact ⟨fun _ => by omega, fun _ => rfl⟩
  have two : v29 = 0 → (v_lStart σ (v_lItems σ a) (ahF la j : Int) = (ahF (flF la) (ahF la j) : Int) ∧ p_lStart σ (v_lItems σ a) (ahF la j : Int)) ∧ (v_lEnd σ (v_lItems σ a) (((ahF la j + I.length : Nat) : Int) - 1) = (ahF (flF la) (ahF la j + I.length) : Int) ∧ p_lEnd σ (v_lItems σ a) (((ahF la j + I.length : Nat) : Int) - 1)) := fun c => by
    have c' := nn.mp c
    obtain ⟨s1, s2, -⟩ := yX_st h.1 it (i := ahF la j) (by omega)
    obtain ⟨-, -, s3⟩ := yX_st h.1 it (i := ahF la j + I.length - 1) (by omega)
    obtain ⟨-, -, -, -, -, -, -, s4⟩ := yX_ln h.1 it (j := ahF la j + I.length - 1) (by omega)
    rw [show ((ahF la j + I.length - 1 : Nat) : Int) = ((ahF la j + I.length : Nat) : Int) - 1 by omega] at s3 s4
    rw [show ahF la j + I.length - 1 + 1 = ahF la j + I.length by omega] at s3
    exact ⟨⟨s1, s2⟩, s3, s4⟩
  refine ⟨⟨fun c => ⟨l7, (two c).1.2, trivial⟩, fun _ => trivial⟩, fun v34 e34 r34 => ⟨⟨fun c => ⟨l8, ⟨by omega, by omega⟩, (two c).2.2, trivial⟩, fun _ => trivial⟩, fun v39 e39 r39 => ?_⟩⟩
  -- the items of the items
  have fI : flF I = ((flF (flF la)).drop (ahF (flF la) (ahF la j))).take (ahF (flF la) (ahF la j + I.length) - ahF (flF la) (ahF la j)) := by
    have e1 : I = ((flF la).drop (ahF la j)).take I.length := by
      rw [flF_at jl, hI]
      have e5 : ahF la j = (flF (la.take j)).length := rfl
      rw [e5, List.drop_left, List.take_left]
    have := flF_dt (l := flF la) (a := ahF la j) (k := I.length) (by omega)
    rw [← e1] at this
    exact this
  have top : ahF (flF la) (ahF la j + I.length) ≤ (flF (flF la)).length := by
    have := flF_a ((flF la).take (ahF la j + I.length)) ((flF la).drop (ahF la j + I.length))
    rw [List.take_append_drop] at this
    rw [this, List.length_append]
    unfold ahF
    omega
  have mono : ahF (flF la) (ahF la j) ≤ ahF (flF la) (ahF la j + I.length) := by
    unfold ahF
    rw [List.take_add, flF_a, List.length_append]
    omega
  have lI : (flF I).length = ahF (flF la) (ahF la j + I.length) - ahF (flF la) (ahF la j) := by
    rw [fI, List.length_take, List.length_drop]
    omega
  have it2 : yX σ d (v_lItems σ (v_lItems σ a)) (flF (flF la)) := by rw [y_items h.1 it.1]; exact it.2.2.2
  have cap : (flF (flF la)).length ≤ 6000 := by
    have := (yX_c it2).1.2.2.2.2
    have := h.1.2.1.2
    have := (yX_c it2).1.2.2.2.1
    omega
  have pk : pkX σ d (v_lItems σ (v_lItems σ a)) v34 v39 (flF I) ∧ v39 - v34 = ((flF I).length : Int) ∧ (0 ≤ v34 ∧ v34 ≤ v39 ∧ v39 ≤ 6000) := by
    by_cases c : v29 = 0
    · rw [if_pos c] at e34 e39
      rw [(two c).1.1] at e34
      rw [(two c).2.1] at e39
      refine ⟨Or.inr ⟨flF (flF la), it2, by omega, by omega, by omega, ?_⟩, by omega, by omega⟩
      rw [fI, e34, e39]
      congr 1
      omega
    · rw [if_neg c] at e34 e39
      have i0 : I.length = 0 := Decidable.byContradiction (fun q => c (nn.mpr q))
      have iN : I = [] := List.eq_nil_of_length_eq_zero i0
      refine ⟨Or.inr ⟨flF (flF la), it2, by omega, by omega, by omega, ?_⟩, ?_, by omega⟩
      · rw [iN, e34, e39]; rfl
      · rw [iN, e34, e39]; rfl
  obtain ⟨pk1, pk2, pk3⟩ := pk
  refine ⟨⟨by omega, by omega⟩, fun σ31 => toX σ31 d ((List.range (j + 1)).map (fun i => (fOv (f i)) [])) [] (flF ((List.range (j + 1)).map (fun i => fOv (f i)))) (fOe ((List.range (j + 1)).map f)), ⟨fun y => ?_, fun y => ?_⟩, fun σ31 f31 h31 => ⟨⟨by omega, by omega⟩, n - (j + 1), by omega, j + 1, by omega, by omega, rfl, h31⟩⟩
  · have bx := x_bad y
    rw [if_pos (by omega)] at hfj
    refine t_first ht (by rw [List.length_map, List.length_range]; omega) ⟨by omega, by omega⟩ (fun σ37 t37 f37 _ => ⟨y_pitems _ _, ?_⟩)
    have ex37 : yEx σ σ37 := yEx_F (sg_F_t f2 (sg_F_m f37 rfl)) rfl
    refine t_pick t37 (by omega) (pkX_up ex37 pk1) itR ⟨by omega, by omega⟩ (fun σ49 t49 f49 _ => ?_)
    rw [mrs, flw_s, fOe_nx hfj, hfj]
    show toX σ49 d (_ ++ [mkF (flF I) []]) [] (_ ++ itF (mkF (flF I))) _
    rw [itF_mk, mkF_0, ← pk2]
    exact t49
  · have nb : ¬ ((flF I).length : Int) ≤ 200 := fun c => y (bad_x (by omega))
    rw [if_neg nb] at hfj
    refine t_miss ht (by decide) (fun σ67 t67 f67 _ => t_first t67 (by rw [List.length_map, List.length_range]; omega) (by decide) (fun σ73 t73 f73 _ => ?_))
    rw [mrs, flw_s, fOe_f hfj, hfj]
    show toX σ73 d (_ ++ [0]) [] (_ ++ itF (nmF 0)) _
    rw [show itF (nmF 0) = [] by simp [itF, nmF], List.append_nil]
    exact t73
theorem o_repeat {db : Nat} {a b : Int} {la lb : List vaF} (h : fP σ t) (hs : ctX σ s) (hD : d + 1 ≤ 3) (h9 : sg_g σ 61 9 = (d + 1 : Nat)) (hn : sg_g σ 61 23 = n) (ha : yX σ d a la) (hb : yX σ db b lb) (hla : la.length = n) (hlb : lb.length = n) (hf : ∀ i, i < n → f i = if 0 ≤ (lb.getD i (nmF 0)) [] ∧ (lb.getD i (nmF 0)) [] ≤ 200 then .inr (mkF (List.replicate ((lb.getD i (nmF 0)) []).toNat (la.getD i (nmF 0)))) else .inl 5) (k : ∀ σ', sg_F opL σ σ' → gwX σ σ' (d + 1) ((List.range n).map f) t s → Q σ') : V_fRepeat σ a b Q := by
  have n6 := h.2.2.2.2.2.2
  rw [hn] at n6
  have hbd : ∀ i, i < n → 0 ≤ (fOv (f i)) [] ∧ (fOv (f i)) [] ≤ 200 := fun i hi => by
    rw [hf i hi]
    by_cases c : 0 ≤ (lb.getD i (nmF 0)) [] ∧ (lb.getD i (nmF 0)) [] ≤ 200
    · rw [if_pos c]
      show 0 ≤ mkF _ [] ∧ mkF _ [] ≤ 200
      rw [mkF_0, List.length_replicate]
      omega
    · rw [if_neg c]
      exact ⟨by decide, by decide⟩
  have ar := (yX_c ha).1
  have g1 := h.1.1
  unfold V_fRepeat
  rw [hn]
  refine ⟨fun m v σ2 => ∃ j : Nat, v = j ∧ j ≤ n ∧ m = n - j ∧ toX σ2 d ((List.range j).map (fun i => (fOv (f i)) [])) [] (flF ((List.range j).map (fun i => fOv (f i)))) (fOe ((List.range j).map f)), fun σ2 => toX σ2 d ((List.range n).map (fun i => (fOv (f i)) [])) [] (flF ((List.range n).map (fun i => fOv (f i)))) (fOe ((List.range n).map f)) ∨ (¬ sg_g σ2 77 15 = 0 ∧ 6000 < exF (d + 1) ((List.range n).map (fun i => fOv (f i)))), ⟨_, 0, rfl, Nat.zero_le _, rfl, toX_0 h.2.1 d⟩, ?_, fun σ2 f2 ht => str_X h hs hD h9 (sg_F_m f2 rfl) ht hbd (fun σ' f' r' _ => k σ' f' r')⟩
  rintro m v' σ2 rv f2 ⟨j, rfl, hj, hm, ht⟩
  refine ⟨fun z => Or.inl (by rw [show n = j by omega]; exact ht), fun z => ⟨fun y => Or.inr ⟨y, str_O ht hbd hj y⟩, fun y => ?_⟩⟩
  have hfj := hf j (by omega)
  have fl6 := flw_l (w := fun i => fOv (f i)) (j := j) (fun i hi => (hbd i (by omega)).2)
  have ex2 : yEx σ σ2 := yEx_F f2 rfl
  -- a size q, then that many picks
  have go : ∀ (q : Int) (σ25 : sg_S) (e' : Int) (w : vaF), 0 ≤ q ∧ q ≤ 200 → sg_F [83, 85, 86, 87, 12077, 14077, 15077, 16077] σ σ25 → toX σ25 d ((List.range j).map (fun i => (fOv (f i)) [])) [] (flF ((List.range j).map (fun i => fOv (f i)))) e' → w = la.getD j (nmF 0) → (fOv (f j)) [] = q → itF (fOv (f j)) = List.replicate q.toNat w → e' = fOe ((List.range (j + 1)).map f) → V_lFirst σ25 q (fun σ31 => sg_F [83, 12077, 16077] σ25 σ31 → (∃ (I39 : Nat → Int → sg_S → Prop) (X41 : sg_S → Prop), (∃ n, I39 n (0) σ31) ∧ (∀ (n49 : Nat) (v36 : Int) (σ37 : sg_S), sg_R v36 → sg_F [85, 86, 87, 14077, 16077] σ31 σ37 → I39 n49 v36 σ37 → ((q ≤ v36 → X41 σ37) ∧ (v36 < q → sg_R ((j : Int) + 1) ∧ V_lPick σ37 (a) ((j : Int)) (((j : Int) + 1)) (fun σ56 => sg_F [85, 86, 87, 14077, 16077] σ37 σ56 → sg_R (v36 + 1) ∧ (∃ m, m < n49 ∧ I39 m ((v36 + 1)) σ56))))) ∧ (∀ (σ37 : sg_S), sg_F [85, 86, 87, 14077, 16077] σ31 σ37 → X41 σ37 → sg_R ((j : Int) + 1) ∧ ∃ m', m' < m ∧ ∃ j' : Nat, ((j : Int) + 1) = j' ∧ j' ≤ n ∧ m' = n - j' ∧ toX σ37 d ((List.range j').map (fun i => (fOv (f i)) [])) [] (flF ((List.range j').map (fun i => fOv (f i)))) (fOe ((List.range j').map f))))) := fun q σ25 e' w hq f25 t25 ew e1 e2 e3 => by
    refine t_first t25 (by rw [List.length_map, List.length_range]; omega) ⟨by omega, by omega⟩ (fun σ31 t31 f31 _ => ?_)
    rw [← e1, ← mrs, e3] at t31
    refine ⟨fun m2 v36 σ37 => ∃ i : Nat, v36 = i ∧ i ≤ q.toNat ∧ m2 = q.toNat - i ∧ toX σ37 d ((List.range (j + 1)).map (fun i => (fOv (f i)) [])) [] (flF ((List.range j).map (fun i => fOv (f i))) ++ List.replicate i w) (fOe ((List.range (j + 1)).map f)), fun σ37 => toX σ37 d ((List.range (j + 1)).map (fun i => (fOv (f i)) [])) [] (flF ((List.range (j + 1)).map (fun i => fOv (f i)))) (fOe ((List.range (j + 1)).map f)), ⟨_, 0, rfl, Nat.zero_le _, rfl, by rw [List.replicate_zero, List.append_nil]; exact t31⟩, ?_, fun σ37 f37 h37 => ⟨⟨by omega, by omega⟩, n - (j + 1), by omega, j + 1, by omega, by omega, rfl, h37⟩⟩
    rintro m2 v36 σ37 r36 f37 ⟨i, rfl, hi1, hm2, ht2⟩
    have ex37 : yEx σ σ37 := yEx_F (sg_F_t f25 (sg_F_t (sg_F_m f31 rfl) (sg_F_m f37 rfl))) rfl
    refine ⟨fun c => ?_, fun c => ⟨⟨by omega, by omega⟩, ?_⟩⟩
    · rw [flw_s, e2, show q.toNat = i by omega]; exact ht2
    · have pk : pkX σ d a (j : Int) ((j : Int) + 1) [w] := by
        refine Or.inr ⟨la, ha, by omega, by omega, by omega, ?_⟩
        rw [Int.toNat_natCast, show ((j : Int) + 1 - j).toNat = 1 by omega, dr_D (by omega : j < la.length), ew]
        rfl
      refine t_pick ht2 (by rw [List.length_append, List.length_replicate]; omega) (pkX_up ex37 pk) ⟨by omega, by omega⟩ ⟨by omega, by omega⟩ (fun σ3 t3 f3 _ => ⟨⟨by omega, by omega⟩, q.toNat - (i + 1), by omega, i + 1, by omega, by omega, rfl, ?_⟩)
      rw [List.replicate_succ', ← List.append_assoc]
      exact t3
  refine t_size (yG_F h.1 f2 rfl) (yX_up ex2 hb) (by omega) ht (fun c _ f25 => ?_) (fun c σ' t' f' _ f25 => ?_)
  · rw [if_pos c] at hfj
    refine go _ σ2 _ (la.getD j (nmF 0)) c f2 ht rfl ?_ ?_ (fOe_nx hfj).symm
    · rw [hfj]
      show mkF _ [] = _
      rw [mkF_0, List.length_replicate]; omega
    · rw [hfj]
      show itF (mkF _) = _
      rw [itF_mk]
  · rw [if_neg c] at hfj
    refine go 0 σ' _ (la.getD j (nmF 0)) ⟨by decide, by decide⟩ (sg_F_t f2 (sg_F_m f' rfl)) t' rfl ?_ ?_ (fOe_f hfj).symm
    · rw [hfj]; rfl
    · rw [hfj]
      show itF (nmF 0) = []
      simp [itF, nmF]
theorem o_countUp {db : Nat} {b : Int} {lb : List vaF} (h : fP σ t) (hs : ctX σ s) (h9 : sg_g σ 61 9 = 1) (hn : sg_g σ 61 23 = n) (hb : yX σ db b lb) (hlb : lb.length = n) (hf : ∀ i, i < n → f i = if 0 ≤ (lb.getD i (nmF 0)) [] ∧ (lb.getD i (nmF 0)) [] ≤ 200 then .inr (mkF ((List.range ((lb.getD i (nmF 0)) []).toNat).map (fun i : Nat => nmF (i : Int)))) else .inl 5) (k : ∀ σ', sg_F opL σ σ' → gwX σ σ' 1 ((List.range n).map f) t s → Q σ') : V_fCountUp σ b Q := by
  have n6 := h.2.2.2.2.2.2
  rw [hn] at n6
  have hbd : ∀ i, i < n → 0 ≤ (fOv (f i)) [] ∧ (fOv (f i)) [] ≤ 200 := fun i hi => by
    rw [hf i hi]
    by_cases c : 0 ≤ (lb.getD i (nmF 0)) [] ∧ (lb.getD i (nmF 0)) [] ≤ 200
    · rw [if_pos c]
      show 0 ≤ mkF _ [] ∧ mkF _ [] ≤ 200
      rw [mkF_0, List.length_map, List.length_range]
      omega
    · rw [if_neg c]
      exact ⟨by decide, by decide⟩
  unfold V_fCountUp
  rw [hn]
  refine ⟨fun m v σ2 => ∃ j : Nat, v = j ∧ j ≤ n ∧ m = n - j ∧ toX σ2 0 ((List.range j).map (fun i => (fOv (f i)) [])) ((flF ((List.range j).map (fun i => fOv (f i)))).map (fun v => v [])) [] (fOe ((List.range j).map f)), fun σ2 => toX σ2 0 ((List.range n).map (fun i => (fOv (f i)) [])) ((flF ((List.range n).map (fun i => fOv (f i)))).map (fun v => v [])) [] (fOe ((List.range n).map f)) ∨ (¬ sg_g σ2 77 15 = 0 ∧ 6000 < exF 1 ((List.range n).map (fun i => fOv (f i)))), ⟨_, 0, rfl, Nat.zero_le _, rfl, toX_0 h.2.1 0⟩, ?_, fun σ2 f2 ht => sec_X h hs h9 (sg_F_m f2 rfl) ht hbd (fun σ' f' r' _ => k σ' f' r')⟩
  rintro m v' σ2 rv f2 ⟨j, rfl, hj, hm, ht⟩
  refine ⟨fun z => Or.inl (by rw [show n = j by omega]; exact ht), fun z => ⟨fun y => Or.inr ⟨y, sec_O ht hbd hj y⟩, fun y => ?_⟩⟩
  have hfj := hf j (by omega)
  have fl6 := flw_l (w := fun i => fOv (f i)) (j := j) (fun i hi => (hbd i (by omega)).2)
  have ex2 : yEx σ σ2 := yEx_F f2 rfl
  have go : ∀ (q : Int) (σ25 : sg_S) (e' : Int), 0 ≤ q ∧ q ≤ 200 → toX σ25 0 ((List.range j).map (fun i => (fOv (f i)) [])) ((flF ((List.range j).map (fun i => fOv (f i)))).map (fun v => v [])) [] e' → (fOv (f j)) [] = q → itF (fOv (f j)) = (List.range q.toNat).map (fun i : Nat => nmF (i : Int)) → e' = fOe ((List.range (j + 1)).map f) → V_lFirst σ25 q (fun σ31 => sg_F [83, 12077, 16077] σ25 σ31 → (∃ (I39 : Nat → Int → sg_S → Prop) (X41 : sg_S → Prop), (∃ n, I39 n (0) σ31) ∧ (∀ (n49 : Nat) (v36 : Int) (σ37 : sg_S), sg_R v36 → sg_F [84, 13077, 16077] σ31 σ37 → I39 n49 v36 σ37 → ((q ≤ v36 → X41 σ37) ∧ (v36 < q → V_lSecond σ37 (v36) (fun σ55 => sg_F [84, 13077, 16077] σ37 σ55 → sg_R (v36 + 1) ∧ (∃ m, m < n49 ∧ I39 m ((v36 + 1)) σ55))))) ∧ (∀ (σ37 : sg_S), sg_F [84, 13077, 16077] σ31 σ37 → X41 σ37 → sg_R ((j : Int) + 1) ∧ ∃ m', m' < m ∧ ∃ j' : Nat, ((j : Int) + 1) = j' ∧ j' ≤ n ∧ m' = n - j' ∧ toX σ37 0 ((List.range j').map (fun i => (fOv (f i)) [])) ((flF ((List.range j').map (fun i => fOv (f i)))).map (fun v => v [])) [] (fOe ((List.range j').map f))))) := fun q σ25 e' hq t25 e1 e2 e3 => by
    refine t_first t25 (by rw [List.length_map, List.length_range]; omega) ⟨by omega, by omega⟩ (fun σ31 t31 f31 _ => ?_)
    rw [← e1, ← mrs, e3] at t31
    refine ⟨fun m2 v36 σ37 => ∃ i : Nat, v36 = i ∧ i ≤ q.toNat ∧ m2 = q.toNat - i ∧ toX σ37 0 ((List.range (j + 1)).map (fun i => (fOv (f i)) [])) ((flF ((List.range j).map (fun i => fOv (f i)))).map (fun v => v []) ++ (List.range i).map (fun i : Nat => (i : Int))) [] (fOe ((List.range (j + 1)).map f)), fun σ37 => toX σ37 0 ((List.range (j + 1)).map (fun i => (fOv (f i)) [])) ((flF ((List.range (j + 1)).map (fun i => fOv (f i)))).map (fun v => v [])) [] (fOe ((List.range (j + 1)).map f)), ⟨_, 0, rfl, Nat.zero_le _, rfl, by rw [List.range_zero, List.map_nil, List.append_nil]; exact t31⟩, ?_, fun σ37 f37 h37 => ⟨⟨by omega, by omega⟩, n - (j + 1), by omega, j + 1, by omega, by omega, rfl, h37⟩⟩
    rintro m2 v36 σ37 r36 f37 ⟨i, rfl, hi1, hm2, ht2⟩
    refine ⟨fun c => ?_, fun c => t_second ht2 (by rw [List.length_append, List.length_map, List.length_map, List.length_range]; omega) r36 (fun σ3 t3 f3 _ => ⟨⟨by omega, by omega⟩, q.toNat - (i + 1), by omega, i + 1, by omega, by omega, rfl, ?_⟩)⟩
    · rw [flw_s, e2, List.map_append, List.map_map, show q.toNat = i by omega]
      exact ht2
    · rw [mrs, ← List.append_assoc]
      exact t3
  refine t_size (yG_F h.1 f2 rfl) (yX_up ex2 hb) (by omega) ht (fun c _ f25 => ?_) (fun c σ' t' f' _ f25 => ?_)
  · rw [if_pos c] at hfj
    refine go _ σ2 _ c ht ?_ ?_ (fOe_nx hfj).symm
    · rw [hfj]
      show mkF _ [] = _
      rw [mkF_0, List.length_map, List.length_range]; omega
    · rw [hfj]
      show itF (mkF _) = _
      rw [itF_mk]
  · rw [if_neg c] at hfj
    refine go 0 σ' _ ⟨by decide, by decide⟩ t' ?_ ?_ (fOe_f hfj).symm
    · rw [hfj]; rfl
    · rw [hfj]
      show itF (nmF 0) = []
      simp [itF, nmF]
end CHT
/-! More operations of the class, exactly: rows, folds, sums, packs. -/
section CIT
variable {σ : sg_S} {t : Int} {n d : Nat} {f : Nat → Int ⊕ vaF} {s : fSt} {Q : sg_S → Prop}
/-- numbers of lane j of a sequence of numbers -/
theorem yX_nu (g : yG σ) {a : Int} {la : List vaF} (h : yX σ 1 a la) {j i : Nat} (hj : j < la.length) (hi : i < (itF (la.getD j (nmF 0))).length) : v_lCell σ (v_lItems σ a) ((ahF la j : Int) + i) = (nuF (la.getD j (nmF 0))).getD i 0 ∧ p_lCell σ (v_lItems σ a) ((ahF la j : Int) + i) ∧ (nuF (la.getD j (nmF 0)))[i]? = some ((nuF (la.getD j (nmF 0))).getD i 0) ∧ sg_R ((nuF (la.getD j (nmF 0))).getD i 0) := by
  have it : yX σ 0 (v_lItems σ a) (flF la) := by rw [y_items g h.1]; exact h.2.2.2
  have lb := ahF_b hj
  obtain ⟨c1, c2⟩ := yX_cell g it (i := ahF la j + i) (by omega)
  have e1 : (flF la).getD (ahF la j + i) (nmF 0) = (itF (la.getD j (nmF 0))).getD i (nmF 0) := by
    rw [List.getD_eq_getElem?_getD, fl_g hj hi, ← List.getD_eq_getElem?_getD]
  have e2 : (nuF (la.getD j (nmF 0))).getD i 0 = ((itF (la.getD j (nmF 0))).getD i (nmF 0)) [] := by
    unfold nuF
    rw [List.getD_eq_getElem?_getD, List.getElem?_map, gD_i hi]; rfl
  have e3 : ((ahF la j + i : Nat) : Int) = (ahF la j : Int) + i := by omega
  rw [e3] at c1 c2
  rw [c1, e1, ← e2]
  refine ⟨rfl, c2, ?_, ?_⟩
  · rw [List.getD_eq_getElem?_getD, List.getElem?_eq_getElem (by rw [nu_l]; exact hi)]; rfl
  · have r := (y_cell g (yX_c it).1 (l := (ahF la j : Int) + i) ⟨by omega, by omega⟩).1
    rw [e2, ← e1, ← c1, r]
    exact sg_Rg _ _ _
theorem o_row {vs : List (List vaF)} (h : fP0 σ) (hs : ctX σ s) (ht : sg_g σ 61 7 = t + vs.length) (h0 : 0 ≤ t ∧ t + vs.length ≤ 400) (ha : 1 ≤ vs.length ∧ vs.length ≤ 200) (hD : d + 1 ≤ 3) (h9 : sg_g σ 61 9 = (d + 1 : Nat)) (hn : sg_g σ 61 23 = n) (hv : ∀ i : Nat, i < vs.length → yX σ d (sg_g σ 64 (t + i)) (vs.getD i []) ∧ (vs.getD i []).length = n) (hf : ∀ i, i < n → f i = .inr (mkF (vs.map (fun l => l.getD i (nmF 0))))) (k : ∀ σ', sg_F opL σ σ' → gwX σ σ' (d + 1) ((List.range n).map f) t s → Q σ') : V_fRow σ vs.length Q := by
  have n6 := h.2.2.2.2
  rw [hn] at n6
  have g1 := h.1.1
  have hbd : ∀ i, i < n → 0 ≤ (fOv (f i)) [] ∧ (fOv (f i)) [] ≤ 200 := fun i hi => by
    rw [hf i hi]
    show 0 ≤ mkF _ [] ∧ mkF _ [] ≤ 200
    rw [mkF_0, List.length_map]
    omega
  unfold V_fRow
  rw [hn, ht, show t + (vs.length : Int) - vs.length = t by omega]
  refine ⟨⟨by omega, by omega⟩, fun σ2 e2 => ?_⟩
  have f2 : sg_F [8061] σ σ2 := by rw [e2]; exact sg_F_w (sg_F_r _ _) rfl _
  have t2 : sg_g σ2 61 7 = t := by rw [e2, sg_gw_e _ _ _ _ ⟨by omega, by omega⟩]
  have hP : fP σ2 t := fP_mk h f2 t2 (by omega) rfl
  have ex2 : yEx σ σ2 := yEx_F f2 rfl
  refine ⟨fun m v σ6 => ∃ j : Nat, v = j ∧ j ≤ n ∧ m = n - j ∧ toX σ6 d ((List.range j).map (fun i => (fOv (f i)) [])) [] (flF ((List.range j).map (fun i => fOv (f i)))) (fOe ((List.range j).map f)), fun σ6 => toX σ6 d ((List.range n).map (fun i => (fOv (f i)) [])) [] (flF ((List.range n).map (fun i => fOv (f i)))) (fOe ((List.range n).map f)) ∨ (¬ sg_g σ6 77 15 = 0 ∧ 6000 < exF (d + 1) ((List.range n).map (fun i => fOv (f i)))), ⟨_, 0, rfl, Nat.zero_le _, rfl, toX_0 hP.2.1 d⟩, ?_, fun σ6 f6 hT => str_X hP (ctX_F f2 rfl hs) hD (by rw [sg_F_g f2 (by rfl)]; exact h9) (sg_F_m f6 rfl) hT hbd (fun σ' f' r' _ => k σ' (sg_F_t (sg_F_m f2 rfl) f') ?_)⟩
  · rintro m v σ6 rv f6 ⟨j, rfl, hj, hm, hT⟩
    refine ⟨fun z => Or.inl (by rw [show n = j by omega]; exact hT), fun z => ⟨fun y => Or.inr ⟨y, str_O hT hbd hj y⟩, fun y => ?_⟩⟩
    have hfj := hf j (by omega)
    have fl6 := flw_l (w := fun i => fOv (f i)) (j := j) (fun i hi => (hbd i (by omega)).2)
    refine t_first hT (by rw [List.length_map, List.length_range]; omega) ⟨by omega, by omega⟩ (fun σ31 t31 f31 _ => ?_)
    have f31' := sg_F_t (sg_F_m (L := [83, 85, 86, 87, 12077, 14077, 16077]) f6 rfl) (sg_F_m f31 rfl)
    have e1 : (fOv (f j)) [] = ((vs.length : Nat) : Int) := by
      rw [hfj]
      show mkF _ [] = _
      rw [mkF_0, List.length_map]
    rw [← e1, ← mrs] at t31
    refine ⟨fun m2 v36 σ37 => ∃ i : Nat, v36 = i ∧ i ≤ vs.length ∧ m2 = vs.length - i ∧ toX σ37 d ((List.range (j + 1)).map (fun i => (fOv (f i)) [])) [] (flF ((List.range j).map (fun i => fOv (f i))) ++ (vs.take i).map (fun l => l.getD j (nmF 0))) (fOe ((List.range j).map f)), fun σ37 => toX σ37 d ((List.range (j + 1)).map (fun i => (fOv (f i)) [])) [] (flF ((List.range (j + 1)).map (fun i => fOv (f i)))) (fOe ((List.range (j + 1)).map f)), ⟨_, 0, rfl, Nat.zero_le _, rfl, by rw [List.take_zero, List.map_nil, List.append_nil]; exact t31⟩, ?_, fun σ37 f37 h37 => ⟨⟨by omega, by omega⟩, n - (j + 1), by omega, j + 1, by omega, by omega, rfl, h37⟩⟩
    rintro m2 v36 σ37 r36 f37 ⟨i, rfl, hi1, hm2, ht2⟩
    have ex37 : yEx σ σ37 := yEx_t ex2 (yEx_F (sg_F_t f31' (sg_F_m f37 rfl)) rfl)
    refine ⟨fun c => ?_, fun c => ?_⟩
    · rw [List.take_of_length_le (by omega)] at ht2
      rw [flw_s, fOe_nx hfj, hfj]
      show toX σ37 d _ [] (_ ++ itF (mkF _)) _
      rw [itF_mk]
      exact ht2
    · obtain ⟨vi, li⟩ := hv i (by omega)
      obtain ⟨l, hl⟩ : ∃ l, vs[i]? = some l := ⟨_, List.getElem?_eq_getElem (by omega)⟩
      have el : vs.getD i [] = l := by rw [List.getD_eq_getElem?_getD, hl]; rfl
      rw [el] at vi li
      rw [xa_in ⟨by omega, by omega⟩]
      have pk : pkX σ d (sg_g σ 64 (t + i)) (j : Int) ((j : Int) + 1) [l.getD j (nmF 0)] := by
        refine Or.inr ⟨l, vi, by omega, by omega, by omega, ?_⟩
        rw [Int.toNat_natCast, show ((j : Int) + 1 - j).toNat = 1 by omega, dr_D (by omega : j < l.length)]
        rfl
      refine ⟨⟨by omega, by omega⟩, ⟨by omega, by omega⟩, t_pick ht2 (by rw [List.length_append, List.length_map, List.length_take]; omega) (pkX_up ex37 pk) (sg_Rg _ _ _) ⟨by omega, by omega⟩ (fun σ3 t3 f3 _ => ⟨⟨by omega, by omega⟩, vs.length - (i + 1), by omega, i + 1, by omega, by omega, rfl, ?_⟩)⟩
      rw [tkA hl, List.map_append, ← List.append_assoc]
      exact t3
  · obtain ⟨L, q1, q2, q3⟩ := r'
    refine ⟨L, q1, q2, ?_⟩
    rcases q3 with z | ⟨s1, z1, z2, z3, z4, z5, z6, z7, z8, z9, z10⟩
    · exact Or.inl z
    · exact Or.inr ⟨s1, z1, z2, z3, yEx_t ex2 z4, z5, z6, z7, z8, fun i hi => by rw [z9 i hi, sg_F_ga f2 rfl], by rw [sg_F_ga f2 rfl] at z10; exact z10⟩
theorem gn_c {kk y : Int} {r : List Int} (hk : kk = 18 ∨ kk = 19 ∨ kk = 20) (ry : sg_R y) : gnF kk (y :: r) = foF kk y r := by
  unfold gnF
  by_cases c : kk = 19 ∨ kk = 20
  · rw [if_pos c]
  · rw [if_neg c]
    have : kk = 18 := by omega
    rw [this, fo_s, if_pos rfl, show sg_n (0 + y) = y by rw [Int.zero_add]; exact sg_id ry]
theorem o_reduce {kk a : Int} {la : List vaF} (hk : kk = 18 ∨ kk = 19 ∨ kk = 20) (h : fP σ t) (hs : ctX σ s) (h9 : sg_g σ 61 9 = 0) (hn : sg_g σ 61 23 = n) (ha : yX σ 1 a la) (hla : la.length = n) (hf : ∀ i, i < n → f i = if (kk = 19 ∨ kk = 20) ∧ (la.getD i (nmF 0)) [] = 0 then .inl 4 else .inr (nmF (gnF kk (nuF (la.getD i (nmF 0)))))) (k : ∀ σ', sg_F opL σ σ' → gwX σ σ' 0 ((List.range n).map f) t s → Q σ') : V_fReduce σ (kmp kk) a Q := by
  have n6 := h.2.2.2.2.2.2
  rw [hn] at n6
  have k269 : kmp kk = 269 ↔ kk = 18 := by
    rcases hk with e | e | e <;> subst e <;> simp [kmp]
  unfold V_fReduce
  rw [hn]
  refine ⟨y_pitems _ _, fun m v σ2 => ∃ j : Nat, v = j ∧ j ≤ n ∧ m = n - j ∧ toX σ2 0 ((List.range j).map (fun i => gnF kk (nuF (la.getD i (nmF 0))))) [] [] (fOe ((List.range j).map f)), fun σ2 => toX σ2 0 ((List.range n).map (fun i => gnF kk (nuF (la.getD i (nmF 0))))) [] [] (fOe ((List.range n).map f)), ⟨_, 0, rfl, Nat.zero_le _, rfl, toX_0 h.2.1 0⟩, ?_, fun σ2 f2 ht => num_X h hs h9 (sg_F_m f2 rfl) ht (fun i hi e => ?_) (fun σ' f' r' _ => k σ' f' r')⟩
  · rintro m v' σ2 rv f2 ⟨j, rfl, hj, hm, ht⟩
    refine ⟨fun z => by rw [show n = j by omega]; exact ht, fun z => ?_⟩
    have jl : j < la.length := by omega
    obtain ⟨l1, l2, l3, l4, l5, l6, l7, l8⟩ := yX_ln h.1 ha jl
    have hfj := hf j (by omega)
    have nu := fun i hi => yX_nu h.1 ha (j := j) (i := i) jl hi
    have nl := nu_l (la.getD j (nmF 0))
    have i0 := itF_l (la.getD j (nmF 0))
    have q0 := (ha.2.1 j jl).2.1
    rw [l2, l3]
    generalize hN : nuF (la.getD j (nmF 0)) = N at *
    rw [← nl] at l3 l4 l5 ⊢
    refine ⟨l7, l8, fun σ28 => toX σ28 0 ((List.range j).map (fun i => gnF kk (nuF (la.getD i (nmF 0))))) [] [] (fOe ((List.range (j + 1)).map f)), ⟨fun c => ?_, fun c => ⟨fun c2 => ?_, fun c2 => t_miss ht (by decide) (fun σ' t' f' _ => ?_)⟩⟩, fun σ28 f28 h28 => ⟨⟨fun c => ⟨?_, trivial⟩, fun _ => trivial⟩, fun v37 e37 r37 => ⟨⟨by omega, by omega⟩, fun m2 x y => ∃ i : Nat, y = (ahF la j : Int) + 1 + i ∧ m2 = N.length - (i + 1) ∧ (N = [] ∨ foF kk x (N.drop (i + 1)) = gnF kk N) ∧ (N = [] → x = 0), fun x => x = gnF kk N, ⟨_, 0, by omega, rfl, ?_, ?_⟩, ?_, ?_⟩⟩⟩
    · rw [if_neg (fun q => by omega)] at hfj
      rw [fOe_nx hfj]; exact ht
    · rw [if_neg (fun q => by have := k269.mp c2; omega)] at hfj
      rw [fOe_nx hfj]; exact ht
    · rw [if_pos ⟨by have : ¬ kk = 18 := fun q => c2 (k269.mpr q); omega, by omega⟩] at hfj
      rw [fOe_f hfj]; exact t'
    · have := (nu 0 (by omega)).2.1
      rw [show (ahF la j : Int) + ((0 : Nat) : Int) = (ahF la j : Int) by omega] at this
      exact this
    · by_cases c : N = []
      · exact Or.inl c
      · right
        have nz : 0 < N.length := List.length_pos_iff.mpr c
        obtain ⟨c1, c2, c3, c4⟩ := nu 0 (by omega)
        rw [show (ahF la j : Int) + ((0 : Nat) : Int) = (ahF la j : Int) by omega] at c1
        rw [if_pos (by omega), c1] at e37
        have ec : N = v37 :: N.drop 1 := by
          have := dr_c c3
          rw [List.drop_zero] at this
          rw [e37]; exact this
        rw [show gnF kk N = gnF kk (v37 :: N.drop 1) by rw [← ec], gn_c hk r37]
    · intro c
      rw [if_neg (fun q => q (by rw [c]; simp))] at e37
      exact e37
    · rintro m2 x y rx ry ⟨i, rfl, em2, hfo, hz⟩
      refine ⟨fun c => ?_, fun c => ?_⟩
      · rcases hfo with q | q
        · rw [hz q, q, gnF_0]
        · rw [List.drop_of_length_le (by omega)] at q
          exact q
      · obtain ⟨c1, c2, c3, c4⟩ := nu (i + 1) (by omega)
        rw [show (ahF la j : Int) + ((i + 1 : Nat) : Int) = (ahF la j : Int) + 1 + i by omega] at c1 c2
        rw [c1]
        refine ⟨c2, fxo_b hk (fun q eq rq => ⟨⟨by omega, by omega⟩, N.length - (i + 1 + 1), by omega, i + 1, by omega, rfl, ?_, fun w => ?_⟩)⟩
        · rcases hfo with w | w
          · exact Or.inl w
          · right
            rw [dr_c c3, fo_s] at w
            rw [eq]; exact w
        · rw [w] at c
          simp only [List.length_nil] at c
          omega
    · intro x rx ex
      refine t_first h28 (by rw [List.length_map, List.length_range]; omega) rx (fun σ' t' f' _ => ⟨⟨by omega, by omega⟩, n - (j + 1), by omega, j + 1, by omega, by omega, rfl, ?_⟩)
      rw [mrs, hN, ← ex]; exact t'
  · have hfi := hf i hi
    by_cases c : (kk = 19 ∨ kk = 20) ∧ (la.getD i (nmF 0)) [] = 0
    · rw [if_pos c] at hfi
      rw [hfi, fOe_l] at e
      exact absurd e (by decide)
    · rw [if_neg c] at hfi
      exact hfi
theorem scn_t {N : List Int} {i : Nat} (hi : i < N.length) : (scnF 0 N).take (i + 1) = (scnF 0 N).take i ++ [foF 18 0 (N.take i)] := by
  have e : (scnF 0 N)[i]? = some (foF 18 0 (N.take i)) := by
    rw [scn_r, List.getElem?_map, List.getElem?_range hi]; rfl
  exact tkA e
theorem scn_l (N : List Int) : (scnF 0 N).length = N.length := by rw [scn_r, List.length_map, List.length_range]
theorem o_sumUp {a : Int} {la : List vaF} (h : fP σ t) (hs : ctX σ s) (h9 : sg_g σ 61 9 = 1) (hn : sg_g σ 61 23 = n) (ha : yX σ 1 a la) (hla : la.length = n) (hf : ∀ i, i < n → f i = .inr (mkF ((scnF 0 (nuF (la.getD i (nmF 0)))).map nmF))) (k : ∀ σ', sg_F opL σ σ' → gwX σ σ' 1 ((List.range n).map f) t s → Q σ') : V_fSumUp σ a Q := by
  have n6 := h.2.2.2.2.2.2
  rw [hn] at n6
  have hbd : ∀ i, i < n → 0 ≤ (fOv (f i)) [] ∧ (fOv (f i)) [] ≤ 200 := fun i hi => by
    rw [hf i hi]
    show 0 ≤ mkF _ [] ∧ mkF _ [] ≤ 200
    rw [mkF_0, List.length_map, scn_l, nu_l]
    have := (yX_ln h.1 ha (j := i) (by omega)).2.2.2.1
    omega
  unfold V_fSumUp
  rw [hn]
  refine ⟨y_pitems _ _, fun m v σ2 => ∃ j : Nat, v = j ∧ j ≤ n ∧ m = n - j ∧ toX σ2 0 ((List.range j).map (fun i => (fOv (f i)) [])) ((flF ((List.range j).map (fun i => fOv (f i)))).map (fun v => v [])) [] (fOe ((List.range j).map f)), fun σ2 => toX σ2 0 ((List.range n).map (fun i => (fOv (f i)) [])) ((flF ((List.range n).map (fun i => fOv (f i)))).map (fun v => v [])) [] (fOe ((List.range n).map f)), ⟨_, 0, rfl, Nat.zero_le _, rfl, toX_0 h.2.1 0⟩, ?_, fun σ2 f2 ht => sec_X h hs h9 (sg_F_m f2 rfl) (Or.inl ht) hbd (fun σ' f' r' _ => k σ' f' r')⟩
  rintro m v' σ2 rv f2 ⟨j, rfl, hj, hm, ht⟩
  refine ⟨fun z => by rw [show n = j by omega]; exact ht, fun z => ?_⟩
  have jl : j < la.length := by omega
  obtain ⟨l1, l2, l3, l4, l5, l6, l7, l8⟩ := yX_ln h.1 ha jl
  have hfj := hf j (by omega)
  have fl6 := flw_l (w := fun i => fOv (f i)) (j := j) (fun i hi => (hbd i (by omega)).2)
  have nu := fun i hi => yX_nu h.1 ha (j := j) (i := i) jl hi
  have nl := nu_l (la.getD j (nmF 0))
  rw [l1, l2, l3]
  generalize hN : nuF (la.getD j (nmF 0)) = N at *
  rw [← nl] at l1 l3 l4 l5 ⊢
  have e1 : (fOv (f j)) [] = (N.length : Int) := by
    rw [hfj]
    show mkF _ [] = _
    rw [mkF_0, List.length_map, scn_l]
  refine ⟨l8, l6, t_first ht (by rw [List.length_map, List.length_range]; omega) ⟨by omega, by omega⟩ (fun σ31 t31 f31 _ => ⟨l7, ?_⟩)⟩
  rw [← e1, ← mrs] at t31
  refine ⟨fun m2 x v36 σ37 => ∃ i : Nat, v36 = (ahF la j : Int) + i ∧ i ≤ N.length ∧ m2 = N.length - i ∧ x = foF 18 0 (N.take i) ∧ toX σ37 0 ((List.range (j + 1)).map (fun i => (fOv (f i)) [])) ((flF ((List.range j).map (fun i => fOv (f i)))).map (fun v => v []) ++ (scnF 0 N).take i) [] (fOe ((List.range j).map f)), fun σ37 => toX σ37 0 ((List.range (j + 1)).map (fun i => (fOv (f i)) [])) ((flF ((List.range (j + 1)).map (fun i => fOv (f i)))).map (fun v => v [])) [] (fOe ((List.range (j + 1)).map f)), ⟨_, 0, by omega, Nat.zero_le _, rfl, rfl, by rw [List.take_zero, List.append_nil]; exact t31⟩, ?_, fun σ37 f37 h37 => ⟨⟨by omega, by omega⟩, n - (j + 1), by omega, j + 1, by omega, by omega, rfl, h37⟩⟩
  rintro m2 x v36 σ37 rx r36 f37 ⟨i, rfl, hi1, hm2, ex, ht2⟩
  refine ⟨fun c => ?_, fun c => ?_⟩
  · rw [List.take_of_length_le (by rw [scn_l]; omega)] at ht2
    rw [flw_s, fOe_nx hfj, List.map_append, hfj]
    show toX σ37 0 _ (_ ++ (itF (mkF ((scnF 0 N).map nmF))).map (fun v => v [])) [] _
    rw [itF_mk, List.map_map]
    have e9 : ((fun v : vaF => v []) ∘ nmF) = id := by funext y; rfl
    rw [e9, List.map_id]
    exact ht2
  · obtain ⟨c1, c2, c3, c4⟩ := nu i (by omega)
    refine t_second ht2 (by rw [List.length_append, List.length_map, List.length_take, scn_l]; omega) rx (fun σ3 t3 f3 _ => ⟨c2, ⟨by omega, by omega⟩, N.length - (i + 1), by omega, i + 1, by omega, by omega, rfl, ?_, ?_⟩)
    · rw [c1, ex, tkA c3, foF_a]
      unfold stF
      rw [if_pos rfl]
    · rw [scn_t (by omega), ← List.append_assoc, ← ex]
      exact t3
theorem o_pack {a b : Int} {la lb : List vaF} (h : fP σ t) (hs : ctX σ s) (hD : d + 1 ≤ 3) (h9 : sg_g σ 61 9 = (d + 1 : Nat)) (hn : sg_g σ 61 23 = n) (ha : yX σ (d + 1) a la) (hb : yX σ 1 b lb) (hla : la.length = n) (hlb : lb.length = n) (hf : ∀ i, i < n → f i = if (itF (la.getD i (nmF 0))).length = (itF (lb.getD i (nmF 0))).length then .inr (mkF (pkF (itF (la.getD i (nmF 0))) (nuF (lb.getD i (nmF 0))))) else .inl 3) (k : ∀ σ', sg_F opL σ σ' → gwX σ σ' (d + 1) ((List.range n).map f) t s → Q σ') : V_fPack σ a b Q := by
  have n6 := h.2.2.2.2.2.2
  rw [hn] at n6
  have hbd : ∀ i, i < n → 0 ≤ (fOv (f i)) [] ∧ (fOv (f i)) [] ≤ 200 := fun i hi => by
    rw [hf i hi]
    by_cases c : (itF (la.getD i (nmF 0))).length = (itF (lb.getD i (nmF 0))).length
    · rw [if_pos c]
      show 0 ≤ mkF _ [] ∧ mkF _ [] ≤ 200
      rw [mkF_0]
      have q1 := pk_l (itF (la.getD i (nmF 0))) (nuF (lb.getD i (nmF 0)))
      have q2 := (yX_ln h.1 ha (j := i) (by omega)).2.2.2.1
      omega
    · rw [if_neg c]
      exact ⟨by decide, by decide⟩
  unfold V_fPack
  rw [hn]
  refine ⟨fun m v σ2 => ∃ j : Nat, v = j ∧ j ≤ n ∧ m = n - j ∧ toX σ2 d ((List.range j).map (fun i => (fOv (f i)) [])) [] (flF ((List.range j).map (fun i => fOv (f i)))) (fOe ((List.range j).map f)), fun σ2 => toX σ2 d ((List.range n).map (fun i => (fOv (f i)) [])) [] (flF ((List.range n).map (fun i => fOv (f i)))) (fOe ((List.range n).map f)), ⟨_, 0, rfl, Nat.zero_le _, rfl, toX_0 h.2.1 d⟩, ?_, fun σ2 f2 ht => str_X h hs hD h9 (sg_F_m f2 rfl) (Or.inl ht) hbd (fun σ' f' r' _ => k σ' f' r')⟩
  rintro m v' σ2 rv f2 ⟨j, rfl, hj, hm, ht⟩
  refine ⟨fun z => by rw [show n = j by omega]; exact ht, fun z => ?_⟩
  have jl : j < la.length := by omega
  have jb : j < lb.length := by omega
  obtain ⟨l1, l2, l3, l4, l5, l6, l7, l8⟩ := yX_ln h.1 ha jl
  obtain ⟨k1, k2, k3, k4, k5, k6, k7, k8⟩ := yX_ln h.1 hb jb
  have hfj := hf j (by omega)
  have fl6 := flw_l (w := fun i => fOv (f i)) (j := j) (fun i hi => (hbd i (by omega)).2)
  have nu := fun i hi => yX_nu h.1 hb (j := j) (i := i) jb hi
  have nl := nu_l (lb.getD j (nmF 0))
  have pk1 := fun i hi => pkX_1 h.1 ha (j := j) (a := i) jl hi
  rw [l1, l2, k1, k2]
  generalize hN : nuF (lb.getD j (nmF 0)) = N at *
  generalize hI : itF (la.getD j (nmF 0)) = I at *
  rw [← nl] at k1 k4 k5 hfj ⊢
  refine ⟨l6, k6, fun v32 σ30 => ((v32 = I.length ∧ I.length = N.length ∧ toX σ30 d ((List.range j).map (fun i => (fOv (f i)) [])) [] (flF ((List.range j).map (fun i => fOv (f i)))) (fOe ((List.range j).map f))) ∨ (v32 = 0 ∧ ¬ I.length = N.length ∧ toX σ30 d ((List.range j).map (fun i => (fOv (f i)) [])) [] (flF ((List.range j).map (fun i => fOv (f i)))) (fOe ((List.range (j + 1)).map f)))), ⟨fun y => Or.inl ⟨rfl, by omega, ht⟩, fun y => t_miss ht (by decide) (fun σ' t' f' _ => Or.inr ⟨rfl, by omega, by
    rw [if_neg (by omega)] at hfj
    rw [fOe_f hfj]; exact t'⟩)⟩, ?_⟩
  intro q σ30 rq f30 hq
  have f30' := sg_F_t f2 (sg_F_m f30 rfl)
  have fin : ∀ (c : Int) (σ39 : sg_S), sg_R c → c = (fOv (f j)) [] → toX σ39 d ((List.range j).map (fun i => (fOv (f i)) [])) [] (flF ((List.range (j + 1)).map (fun i => fOv (f i)))) (fOe ((List.range (j + 1)).map f)) → V_lFirst σ39 c (fun σ55 => sg_F [83, 12077, 16077] σ39 σ55 → sg_R ((j : Int) + 1) ∧ ∃ m', m' < m ∧ ∃ j' : Nat, ((j : Int) + 1) = j' ∧ j' ≤ n ∧ m' = n - j' ∧ toX σ55 d ((List.range j').map (fun i => (fOv (f i)) [])) [] (flF ((List.range j').map (fun i => fOv (f i)))) (fOe ((List.range j').map f))) := fun c σ39 rc ec t39 => t_first t39 (by rw [List.length_map, List.length_range]; omega) rc (fun σ3 t3 f3 _ => ⟨⟨by omega, by omega⟩, n - (j + 1), by omega, j + 1, by omega, by omega, rfl, by rw [mrs, ← ec]; exact t3⟩)
  rcases hq with ⟨eq, elen, tq⟩ | ⟨eq, elen, tq⟩
  · rw [if_pos elen] at hfj
    refine ⟨l7, fun m2 c v38 σ39 => ∃ i : Nat, v38 = i ∧ i ≤ I.length ∧ m2 = I.length - i ∧ c = ((pkF (I.take i) (N.take i)).length : Int) ∧ toX σ39 d ((List.range j).map (fun i => (fOv (f i)) [])) [] (flF ((List.range j).map (fun i => fOv (f i))) ++ pkF (I.take i) (N.take i)) (fOe ((List.range j).map f)), fun c σ39 => c = (fOv (f j)) [] ∧ toX σ39 d ((List.range j).map (fun i => (fOv (f i)) [])) [] (flF ((List.range (j + 1)).map (fun i => fOv (f i)))) (fOe ((List.range (j + 1)).map f)), ⟨_, 0, rfl, Nat.zero_le _, rfl, by simp [pkF], by simp only [List.take_zero, pkF, List.append_nil]; exact tq⟩, ?_, fun c σ39 rc f39 h39 => fin c σ39 rc h39.1 h39.2⟩
    rintro m2 c v38 σ39 rc r38 f39 ⟨i, rfl, hi1, hm2, ec, ht2⟩
    have ex39 : yEx σ σ39 := yEx_F (sg_F_t f30' (sg_F_m f39 rfl)) rfl
    refine ⟨fun y => ?_, fun y => ?_⟩
    · rw [List.take_of_length_le (by omega), List.take_of_length_le (by omega)] at ht2 ec
      refine ⟨?_, ?_⟩
      · rw [ec, hfj]; rfl
      · rw [flw_s, fOe_nx hfj, hfj]
        show toX σ39 d _ [] (_ ++ itF (mkF _)) _
        rw [itF_mk]; exact ht2
    · have il : i < I.length := by omega
      obtain ⟨c1, c2, c3, c4⟩ := nu i (by omega)
      have ps := pk_s (gD_i il) c3
      rw [c1]
      refine ⟨y_pitems _ _, k7, ⟨by omega, by omega⟩, c2, fun c' σ73 => c' = ((pkF (I.take (i + 1)) (N.take (i + 1))).length : Int) ∧ toX σ73 d ((List.range j).map (fun i => (fOv (f i)) [])) [] (flF ((List.range j).map (fun i => fOv (f i))) ++ pkF (I.take (i + 1)) (N.take (i + 1))) (fOe ((List.range j).map f)), ⟨fun y0 => ?_, fun y0 => ?_⟩, fun c' σ73 rc' f73 h73 => ⟨⟨by omega, by omega⟩, I.length - (i + 1), by omega, i + 1, by omega, by omega, rfl, h73.1, h73.2⟩⟩
      · rw [if_pos y0] at ps
        rw [List.append_nil] at ps
        rw [ps]
        exact ⟨ec, ht2⟩
      · rw [if_neg y0] at ps
        have pl := pk_l (I.take i) (N.take i)
        rw [List.length_take] at pl
        have pk := pk1 i (by omega)
        rw [show ((ahF la j + i : Nat) : Int) = (ahF la j : Int) + i by omega] at pk
        refine ⟨⟨by omega, by omega⟩, y_pitems _ _, ⟨by omega, by omega⟩, ⟨by omega, by omega⟩, t_pick ht2 (by rw [List.length_append]; omega) (pkX_up ex39 pk) itR ⟨by omega, by omega⟩ (fun σ3 t3 f3 _ => ⟨?_, ?_⟩)⟩
        · rw [ps, List.length_append, ec]; simp
        · rw [ps, ← List.append_assoc]; exact t3
  · rw [if_neg elen] at hfj
    refine ⟨l7, fun m2 c v38 σ39 => m2 = 0 ∧ v38 = 0 ∧ c = 0 ∧ toX σ39 d ((List.range j).map (fun i => (fOv (f i)) [])) [] (flF ((List.range j).map (fun i => fOv (f i)))) (fOe ((List.range (j + 1)).map f)), fun c σ39 => c = (fOv (f j)) [] ∧ toX σ39 d ((List.range j).map (fun i => (fOv (f i)) [])) [] (flF ((List.range (j + 1)).map (fun i => fOv (f i)))) (fOe ((List.range (j + 1)).map f)), ⟨0, rfl, rfl, rfl, tq⟩, ?_, fun c σ39 rc f39 h39 => fin c σ39 rc h39.1 h39.2⟩
    rintro m2 c v38 σ39 rc r38 f39 ⟨-, e38, ec, ht2⟩
    refine ⟨fun _ => ⟨by rw [ec, hfj]; rfl, ?_⟩, fun y => by omega⟩
    rw [flw_s, hfj]
    show toX σ39 d _ [] (_ ++ itF (nmF 0)) _
    rw [show itF (nmF 0) = [] by simp [itF, nmF], List.append_nil]
    rw [hfj] at ht2
    exact ht2
end CIT
