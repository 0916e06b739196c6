/-! THE FLAT RUN of a PROGRAM, told as a function: nodes. -/
/-- a node is begun in m lanes -/
def fBg (m : Nat) (s : fSt) : Option fSt := match fStp 0 s with
  | none => none
  | some s0 => some (s0.1, s0.2.1, if s0.2.2 < (m : Int) then (m : Int) else s0.2.2)
section FEX
variable (go : Int → Nat → fEv → fSt → fRs) (bt : Int → Int)
/-- if -/
def fIfN (tn : Int) (O1 O2 : List Int) (a c d : Int) (m : Nat) (ρ : fEv) (s1 : fSt) : fRs := match go a m ρ s1 with
  | .inl e => .inl e
  | .inr (cv, s2, ρ2) => match fCa bt (fWh true cv) O1 s2 ρ2 with
    | .inl e => .inl e
    | .inr (s3, ρ3) => match go c (fWh true cv).length ρ3 s3 with
      | .inl e => .inl e
      | .inr (v1, s4, ρ4) => match fCa bt (fWh false cv) O2 s4 (fBk O1 ρ2 ρ4) with
        | .inl e => .inl e
        | .inr (s5, ρ5) => match go d (fWh false cv).length ρ5 s5 with
          | .inl e => .inl e
          | .inr (v2, s6, ρ6) => match fStp (exF tn.toNat v1 + exF tn.toNat v2) s6 with
            | none => .inl (8, s6)
            | some s7 => .inr (fMg cv v1 v2, s7, fBk O2 (fBk O1 ρ2 ρ4) ρ6)
/-- each lane as often as it has items -/
def fRp (m : Nat) (ln : List Nat) : List Nat := ((List.range m).map (fun i : Nat => List.replicate (ln.getD i 0) i)).flatten
/-- { } behind its GENS -/
def fEbN (n : Int) (O0 O1 : List Int) (bd : Int) (ts : List Int) (m : Nat) (vs : List (List vaF)) (ρ2 : fEv) (s2 : fSt) : fRs :=
  if (List.range m).any (fun i : Nat => vs.any (fun l => decide ((l.getD i (nmF 0)) [] ≠ ((vs.getD 0 []).getD i (nmF 0)) []))) = true then .inl (3, s2)
  else match fCa bt (fRp m ((vs.getD 0 []).map (fun v => (itF v).length))) O0 s2 ρ2 with
    | .inl e => .inl e
    | .inr (s3, ρ3) => match ts with
      | [] => (match go bd (fRp m ((vs.getD 0 []).map (fun v => (itF v).length))).length (fUs ρ3 (210 + 4 * n) 0 (vs.map flF)) s3 with
        | .inl e => .inl e
        | .inr (v, s4, ρ5) => .inr (fCt ((vs.getD 0 []).map (fun v => (itF v).length)) v, s4, fBk O0 ρ2 ρ5))
      | t :: _ => match go t (fRp m ((vs.getD 0 []).map (fun v => (itF v).length))).length (fUs ρ3 (210 + 4 * n) 0 (vs.map flF)) s3 with
        | .inl e => .inl e
        | .inr (c, s4, ρ5) => match fCa bt (fWh true c) O1 s4 ρ5 with
          | .inl e => .inl e
          | .inr (s5, ρ6) => match fStp (m : Int) s5 with
            | none => .inl (8, s5)
            | some s6 => match go bd (fWh true c).length ρ6 s6 with
              | .inl e => .inl e
              | .inr (v, s7, ρ7) => .inr (fCt ((fCt ((vs.getD 0 []).map (fun v => (itF v).length)) c).map (fun w => ((itF w).filter (fun u => decide (u [] ≠ 0))).length)) v, s7, fBk O0 ρ2 (fBk O1 ρ5 ρ7))
end FEX
section FEV
variable (A : aT) (D : List aDf) (T B : Int → Int) (O : Int → Nat → List Int) (call : Int → Nat → fEv → fSt → fRs)
/-- a node is worked out in m lanes; O tells which variables are carried along at a stage of a node -/
def fxN : Nat → Int → Nat → fEv → fSt → fRs
  | 0, _, _, _, s => .inl (8, s)
  | f + 1, n, m, ρ, s => match fBg m s with
    | none => .inl (8, s)
    | some s1 =>
      if A.2.1 n = 1 then .inr (ρ (B n), s1, ρ)
      else if A.2.1 n = 2 then (match fxN f ((A.2.2.2.2.1 n).getD 0 0) m ρ s1 with
        | .inl e => .inl e
        | .inr (v, s2, ρ2) => fxN f ((A.2.2.2.2.1 n).getD 1 0) m (fun x => if x = n then v else ρ2 x) s2)
      else if A.2.1 n = 3 then fIfN (fxN f) (bTy A D T) (T n) (O n 1) (O n 2) ((A.2.2.2.2.1 n).getD 0 0) ((A.2.2.2.2.1 n).getD 1 0) ((A.2.2.2.2.1 n).getD 2 0) m ρ s1
      else if A.2.1 n = 13 then (match fSq (fun x => fxN f x m) (A.2.2.2.2.1 n) ρ s1 with
        | .inl e => .inl e
        | .inr (vs, s2, ρ2) => call (B n) m (fUs ρ2 (1100 + 6 * B n) 0 vs) s2)
      else if A.2.1 n = 15 then (match fSq (fun x => fxN f x m) (kGs A n) ρ s1 with
        | .inl e => .inl e
        | .inr (vs, s2, ρ2) => fEbN (fxN f) (bTy A D T) n (O n 0) (O n 1) ((A.2.2.2.2.1 n).getD 0 0) ((A.2.2.2.2.1 n).drop (1 + (A.2.2.2.2.2 n).length)) m vs ρ2 s2)
      else match fSq (fun x => fxN f x m) (A.2.2.2.2.1 n) ρ s1 with
        | .inl e => .inl e
        | .inr (vs, s2, ρ2) => fWk (A.2.1 n) (T n) (sg_n (A.2.2.2.1 n)) vs m s2 ρ2
end FEV
/-- DEFS below k -/
def fxC (A : aT) (D : List aDf) (T B : Int → Int) (O : Int → Nat → List Int) : Nat → Int → Nat → fEv → fSt → fRs
  | 0, _, _, _, s => .inl (8, s)
  | k + 1, q, m, ρ, s => if q = (k : Int) then fxN A D T B O (fxC A D T B O k) 201 ((D.getD k (0, 0, [], 0)).2.2.2) m ρ s else fxC A D T B O k q m ρ s
theorem fxC_e (A : aT) (D : List aDf) (T B : Int → Int) (O : Int → Nat → List Int) : ∀ (k q : Nat), q < k → ∀ m ρ s, fxC A D T B O k (q : Int) m ρ s = fxN A D T B O (fxC A D T B O q) 201 ((D.getD q (0, 0, [], 0)).2.2.2) m ρ s
  | 0, q, h, m, ρ, s => by omega
  | k + 1, q, h, m, ρ, s => by
    simp only [fxC]
    by_cases e : q = k
    · subst e; rw [if_pos rfl]
    · rw [if_neg (by omega), fxC_e A D T B O k q (by omega)]
/-! lengths of what is worked out; what is bound outside stays. -/
theorem fUs_no {b : Int} : ∀ {vs : List (List vaF)} {ρ : fEv} {i : Nat} {x : Int}, (x < b + i ∨ b + i + vs.length ≤ x) → fUs ρ b i vs x = ρ x
  | [], ρ, i, x, _ => rfl
  | v :: r, ρ, i, x, h => by
    simp only [fUs]
    simp only [List.length_cons] at h
    rw [fUs_no (vs := r) (i := i + 1) (by omega), if_neg (by omega)]
theorem fUs_at {b : Int} : ∀ {vs : List (List vaF)} {ρ : fEv} {i j : Nat} {v : List vaF}, vs[j]? = some v → fUs ρ b i vs (b + i + j) = v
  | [], ρ, i, j, v, h => by cases h
  | u :: r, ρ, i, 0, v, h => by
    cases h
    simp only [fUs]
    rw [fUs_no (vs := r) (i := i + 1) (by omega), if_pos (by omega)]
  | u :: r, ρ, i, j + 1, v, h => by
    rw [List.getElem?_cons_succ] at h
    simp only [fUs]
    have := fUs_at (b := b) (ρ := fun x => if x = b + i then u else ρ x) (i := i + 1) (j := j) h
    rw [show b + ((i + 1 : Nat) : Int) + (j : Int) = b + (i : Int) + ((j + 1 : Nat) : Int) by omega] at this
    exact this
theorem fCa_e {bt : Int → Int} {ks : List Nat} : ∀ {Ob : List Int} {s s' : fSt} {ρ ρ' : fEv}, Ob.Nodup → fCa bt ks Ob s ρ = .inr (s', ρ') → ∀ b, ρ' b = if b ∈ Ob then fPk (ρ b) ks else ρ b
  | [], s, s', ρ, ρ', _, h, b => by
    simp only [fCa, Sum.inr.injEq, Prod.mk.injEq] at h
    rw [← h.2, if_neg (by simp)]
  | y :: r, s, s', ρ, ρ', hn, h, b => by
    simp only [fCa] at h
    cases hs : fStp (exF (bt y).toNat (fPk (ρ y) ks)) s with
    | none => rw [hs] at h; cases h
    | some s1 =>
      rw [hs] at h
      have nd := List.nodup_cons.mp hn
      have ih := fCa_e nd.2 h b
      rw [ih]
      by_cases c : b ∈ r
      · have cb : ¬ b = y := fun e => nd.1 (by rw [← e]; exact c)
        rw [if_pos c, if_neg cb, if_pos (List.mem_cons_of_mem _ c)]
      · rw [if_neg c]
        by_cases cb : b = y
        · rw [if_pos cb, if_pos (List.mem_cons.mpr (Or.inl cb)), cb]
        · rw [if_neg cb, if_neg (fun w => (List.mem_cons.mp w).elim cb c)]
theorem fMg_l : ∀ (c a b : List vaF), (fMg c a b).length = c.length
  | [], a, b => rfl
  | x :: r, a, b => by
    simp only [fMg]
    by_cases h : x [] = 0
    · rw [if_pos h, List.length_cons, List.length_cons, fMg_l r]
    · rw [if_neg h, List.length_cons, List.length_cons, fMg_l r]
theorem fCt_l : ∀ (ln : List Nat) (l : List vaF), (fCt ln l).length = ln.length
  | [], l => rfl
  | n :: r, l => by simp only [fCt, List.length_cons]; rw [fCt_l r]
theorem fPk_l (l : List vaF) (ks : List Nat) : (fPk l ks).length = ks.length := by unfold fPk; rw [List.length_map]
