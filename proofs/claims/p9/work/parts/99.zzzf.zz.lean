/-! the order in which variables are carried along does not matter: whole runs. -/
def r9 : fRs → fRs → Prop
  | .inl a, .inl b => a.1 = b.1
  | .inr a, .inr b => a = b
  | .inl _, .inr _ => False
  | .inr _, .inl _ => False
def r9l : fRl → fRl → Prop
  | .inl a, .inl b => a.1 = b.1
  | .inr a, .inr b => a = b
  | .inl _, .inr _ => False
  | .inr _, .inl _ => False
theorem r8_c {r r' : (Int × fSt) ⊕ (fSt × fEv)} (h : r8 r r') : (∃ e e', r = .inl e ∧ r' = .inl e' ∧ e.1 = e'.1) ∨ ∃ q, r = .inr q ∧ r' = .inr q := by
  cases r with
  | inl a => cases r' with
    | inl b => exact Or.inl ⟨a, b, rfl, rfl, h⟩
    | inr b => exact False.elim h
  | inr a => cases r' with
    | inl b => exact False.elim h
    | inr b => exact Or.inr ⟨a, rfl, by rw [show a = b from h]⟩
theorem r9_c {r r' : fRs} (h : r9 r r') : (∃ e e', r = .inl e ∧ r' = .inl e' ∧ e.1 = e'.1) ∨ ∃ q, r = .inr q ∧ r' = .inr q := by
  cases r with
  | inl a => cases r' with
    | inl b => exact Or.inl ⟨a, b, rfl, rfl, h⟩
    | inr b => exact False.elim h
  | inr a => cases r' with
    | inl b => exact False.elim h
    | inr b => exact Or.inr ⟨a, rfl, by rw [show a = b from h]⟩
theorem r9l_c {r r' : fRl} (h : r9l r r') : (∃ e e', r = .inl e ∧ r' = .inl e' ∧ e.1 = e'.1) ∨ ∃ q, r = .inr q ∧ r' = .inr q := by
  cases r with
  | inl a => cases r' with
    | inl b => exact Or.inl ⟨a, b, rfl, rfl, h⟩
    | inr b => exact False.elim h
  | inr a => cases r' with
    | inl b => exact False.elim h
    | inr b => exact Or.inr ⟨a, rfl, by rw [show a = b from h]⟩
theorem r9_r (r : fRs) : r9 r r := by
  cases r with
  | inl a => exact rfl
  | inr a => exact rfl
theorem fBk_p {l l' : List Int} (h : l.Perm l') (ρ ρ' : fEv) : fBk l ρ ρ' = fBk l' ρ ρ' := by
  funext b
  unfold fBk
  by_cases w : b ∈ l
  · rw [if_pos w, if_pos (h.mem_iff.mp w)]
  · rw [if_neg w, if_neg (fun q => w (h.mem_iff.mpr q))]
theorem fSq_pm {go go' : Int → fEv → fSt → fRs} (h : ∀ x ρ s, r9 (go x ρ s) (go' x ρ s)) : ∀ (R : List Int) ρ s, r9l (fSq go R ρ s) (fSq go' R ρ s)
  | [], ρ, s => rfl
  | x :: R, ρ, s => by
    simp only [fSq]
    rcases r9_c (h x ρ s) with ⟨e, e', h1, h2, h3⟩ | ⟨⟨v, s1, ρ1⟩, h1, h2⟩
    · rw [h1, h2]; exact h3
    rw [h1, h2]
    simp only
    rcases r9l_c (fSq_pm h R ρ1 s1) with ⟨e, e', h1, h2, h3⟩ | ⟨⟨vs, s2, ρ2⟩, h1, h2⟩
    · rw [h1, h2]; exact h3
    rw [h1, h2]
    exact rfl
section DES
variable {go go' : Int → Nat → fEv → fSt → fRs} {bt : Int → Int} {O1 O1' O2 O2' : List Int}
theorem fIfN_pm (hg : ∀ x m ρ s, r9 (go x m ρ s) (go' x m ρ s)) (p1 : O1.Perm O1') (p2 : O2.Perm O2') (n1 : O1.Nodup) (n2 : O2.Nodup) (tn a c d : Int) (m : Nat) (ρ : fEv) (s : fSt) : r9 (fIfN go bt tn O1 O2 a c d m ρ s) (fIfN go' bt tn O1' O2' a c d m ρ s) := by
  unfold fIfN
  rcases r9_c (hg a m ρ s) with ⟨e, e', h1, h2, h3⟩ | ⟨⟨cv, s2, ρ2⟩, h1, h2⟩
  · rw [h1, h2]; exact h3
  rw [h1, h2]
  simp only
  rcases r8_c (fCa_pm (ty := bt) (ks := fWh true cv) p1 n1 s2 ρ2) with ⟨e, e', h1, h2, h3⟩ | ⟨⟨s3, ρ3⟩, h1, h2⟩
  · rw [h1, h2]; exact h3
  rw [h1, h2]
  simp only
  rcases r9_c (hg c (fWh true cv).length ρ3 s3) with ⟨e, e', h1, h2, h3⟩ | ⟨⟨v1, s4, ρ4⟩, h1, h2⟩
  · rw [h1, h2]; exact h3
  rw [h1, h2]
  simp only
  rw [← fBk_p p1]
  rcases r8_c (fCa_pm (ty := bt) (ks := fWh false cv) p2 n2 s4 (fBk O1 ρ2 ρ4)) with ⟨e, e', h1, h2, h3⟩ | ⟨⟨s5, ρ5⟩, h1, h2⟩
  · rw [h1, h2]; exact h3
  rw [h1, h2]
  simp only
  rcases r9_c (hg d (fWh false cv).length ρ5 s5) with ⟨e, e', h1, h2, h3⟩ | ⟨⟨v2, s6, ρ6⟩, h1, h2⟩
  · rw [h1, h2]; exact h3
  rw [h1, h2]
  simp only
  rw [← fBk_p p2]
  exact r9_r _
theorem fEbN_pm (hg : ∀ x m ρ s, r9 (go x m ρ s) (go' x m ρ s)) (p1 : O1.Perm O1') (p2 : O2.Perm O2') (n1 : O1.Nodup) (n2 : O2.Nodup) (n bd : Int) (ts : List Int) (m : Nat) (vs : List (List vaF)) (ρ : fEv) (s : fSt) : r9 (fEbN go bt n O1 O2 bd ts m vs ρ s) (fEbN go' bt n O1' O2' bd ts m vs ρ s) := by
  unfold fEbN
  split
  · exact rfl
  rcases r8_c (fCa_pm (ty := bt) (ks := fRp m ((vs.getD 0 []).map (fun v => (itF v).length))) p1 n1 s ρ) with ⟨e, e', h1, h2, h3⟩ | ⟨⟨s3, ρ3⟩, h1, h2⟩
  · rw [h1, h2]; exact h3
  rw [h1, h2]
  simp only
  cases ts with
  | nil =>
    simp only
    rcases r9_c (hg bd (fRp m ((vs.getD 0 []).map (fun v => (itF v).length))).length (fUs ρ3 (210 + 4 * n) 0 (vs.map flF)) s3) with ⟨e, e', h1, h2, h3⟩ | ⟨⟨v, s4, ρ5⟩, h1, h2⟩
    · rw [h1, h2]; exact h3
    rw [h1, h2]
    simp only
    rw [← fBk_p p1]
    exact r9_r _
  | cons t ts =>
    simp only
    rcases r9_c (hg t (fRp m ((vs.getD 0 []).map (fun v => (itF v).length))).length (fUs ρ3 (210 + 4 * n) 0 (vs.map flF)) s3) with ⟨e, e', h1, h2, h3⟩ | ⟨⟨cv, s4, ρ5⟩, h1, h2⟩
    · rw [h1, h2]; exact h3
    rw [h1, h2]
    simp only
    rcases r8_c (fCa_pm (ty := bt) (ks := fWh true cv) p2 n2 s4 ρ5) with ⟨e, e', h1, h2, h3⟩ | ⟨⟨s5, ρ6⟩, h1, h2⟩
    · rw [h1, h2]; exact h3
    rw [h1, h2]
    simp only
    cases fStp (m : Int) s5 with
    | none => exact rfl
    | some s6 =>
      simp only
      rcases r9_c (hg bd (fWh true cv).length ρ6 s6) with ⟨e, e', h1, h2, h3⟩ | ⟨⟨v, s7, ρ7⟩, h1, h2⟩
      · rw [h1, h2]; exact h3
      rw [h1, h2]
      simp only
      rw [← fBk_p p1, ← fBk_p p2]
      exact r9_r _
end DES
theorem fxN_pm {A : aT} {D : List aDf} {T B : Int → Int} {O O' : Int → Nat → List Int} {call call' : Int → Nat → fEv → fSt → fRs} (hO : ∀ n st, (O n st).Perm (O' n st)) (hN : ∀ n st, (O n st).Nodup) (hc : ∀ q m ρ s, r9 (call q m ρ s) (call' q m ρ s)) : ∀ (f : Nat) (n : Int) (m : Nat) (ρ : fEv) (s : fSt), r9 (fxN A D T B O call f n m ρ s) (fxN A D T B O' call' f n m ρ s)
  | 0, n, m, ρ, s => rfl
  | f + 1, n, m, ρ, s => by
    have ih := fxN_pm (A := A) (D := D) (T := T) (B := B) hO hN hc f
    simp only [fxN]
    cases fBg m s with
    | none => exact rfl
    | some s1 =>
      simp only
      split
      · exact rfl
      split
      · rcases r9_c (ih ((A.2.2.2.2.1 n).getD 0 0) m ρ s1) with ⟨e, e', h1, h2, h3⟩ | ⟨⟨v, s2, ρ2⟩, h1, h2⟩
        · rw [h1, h2]; exact h3
        rw [h1, h2]
        exact ih _ _ _ _
      split
      · exact fIfN_pm ih (hO n 1) (hO n 2) (hN n 1) (hN n 2) _ _ _ _ _ _ _
      split
      · rcases r9l_c (fSq_pm (fun x ρ s => ih x m ρ s) (A.2.2.2.2.1 n) ρ s1) with ⟨e, e', h1, h2, h3⟩ | ⟨⟨vs, s2, ρ2⟩, h1, h2⟩
        · rw [h1, h2]; exact h3
        rw [h1, h2]
        exact hc _ _ _ _
      split
      · rcases r9l_c (fSq_pm (fun x ρ s => ih x m ρ s) (kGs A n) ρ s1) with ⟨e, e', h1, h2, h3⟩ | ⟨⟨vs, s2, ρ2⟩, h1, h2⟩
        · rw [h1, h2]; exact h3
        rw [h1, h2]
        exact fEbN_pm ih (hO n 0) (hO n 1) (hN n 0) (hN n 1) _ _ _ _ _ _ _
      · rcases r9l_c (fSq_pm (fun x ρ s => ih x m ρ s) (A.2.2.2.2.1 n) ρ s1) with ⟨e, e', h1, h2, h3⟩ | ⟨⟨vs, s2, ρ2⟩, h1, h2⟩
        · rw [h1, h2]; exact h3
        rw [h1, h2]
        exact r9_r _
