/-! the order in which variables are carried along does not matter: whole runs. -/
def r9 : fRs → fRs → Prop
  | .inl a, .inl b => a.1 = b.1
  | .inr a, .inr b => a = b
  | .inl _, .inr _ => False
  | .inr _, .inl _ => False
def r9l : fRl → fRl → Prop
  | .inl a, .inl b => a.1 = b.1
  | .inr a, .inr b => a = b
  | .inl _, .inr _ => False
  | .inr _, .inl _ => False
theorem r8_c {r r' : (Int × fSt) ⊕ (fSt × fEv)} (h : r8 r r') : (∃ e e', r = .inl e ∧ r' = .inl e' ∧ e.1 = e'.1) ∨ ∃ q, r = .inr q ∧ r' = .inr q := by
  cases r with
  | inl a => cases r' with
    | inl b => exact Or.inl ⟨a, b, rfl, rfl, h⟩
    | inr b => exact False.elim h
  | inr a => cases r' with
    | inl b => exact False.elim h
    | inr b => exact Or.inr ⟨a, rfl, by rw [show a = b from h]⟩
theorem r9_c {r r' : fRs} (h : r9 r r') : (∃ e e', r = .inl e ∧ r' = .inl e' ∧ e.1 = e'.1) ∨ ∃ q, r = .inr q ∧ r' = .inr q := by
  cases r with
  | inl a => cases r' with
    | inl b => exact Or.inl ⟨a, b, rfl, rfl, h⟩
    | inr b => exact False.elim h
  | inr a => cases r' with
    | inl b => exact False.elim h
    | inr b => exact Or.inr ⟨a, rfl, by rw [show a = b from h]⟩
theorem r9l_c {r r' : fRl} (h : r9l r r') : (∃ e e', r = .inl e ∧ r' = .inl e' ∧ e.1 = e'.1) ∨ ∃ q, r = .inr q ∧ r' = .inr q := by
  cases r with
  | inl a => cases r' with
    | inl b => exact Or.inl ⟨a, b, rfl, rfl, h⟩
    | inr b => exact False.elim h
  | inr a => cases r' with
    | inl b => exact False.elim h
    | inr b => exact Or.inr ⟨a, rfl, by rw [show a = b from h]⟩
theorem r9_r (r : fRs) : r9 r r := by
  cases r with
  | inl a => exact rfl
  | inr a => exact rfl
theorem fBk_p {l l' : List Int} (h : l.Perm l') (ρ ρ' : fEv) : fBk l ρ ρ' = fBk l' ρ ρ' := by
  funext b
  unfold fBk
  by_cases w : b ∈ l
  · rw [if_pos w, if_pos (h.mem_iff.mp w)]
  · rw [if_neg w, if_neg (fun q => w (h.mem_iff.mpr q))]
theorem fCa_ty {ty ty' : Int → Int} {ks : List Nat} : ∀ (l : List Int), (∀ z ∈ l, ty z = ty' z) → ∀ s ρ, fCa ty ks l s ρ = fCa ty' ks l s ρ
  | [], _, s, ρ => rfl
  | b :: r, h, s, ρ => by
    simp only [fCa]
    rw [h b (by simp)]
    cases fStp (exF (ty' b).toNat (fPk (ρ b) ks)) s with
    | none => rfl
    | some s1 => exact fCa_ty r (fun z hz => h z (by simp [hz])) _ _
/-- the same variables, in another order -/
def gPm (ty ty' : Int → Int) (l l' : List Int) : Prop := l.Perm l' ∧ l.Nodup ∧ ∀ z ∈ l, ty z = ty' z
theorem fCa_pg {ty ty' : Int → Int} {ks : List Nat} {l l' : List Int} (h : gPm ty ty' l l') (s : fSt) (ρ : fEv) : r8 (fCa ty ks l s ρ) (fCa ty' ks l' s ρ) := by
  rw [fCa_ty l h.2.2]
  exact fCa_pm h.1 h.2.1 s ρ
theorem fSq_pm {go go' : Int → fEv → fSt → fRs} : ∀ (R : List Int), (∀ x ∈ R, ∀ ρ s, r9 (go x ρ s) (go' x ρ s)) → ∀ ρ s, r9l (fSq go R ρ s) (fSq go' R ρ s)
  | [], _, ρ, s => rfl
  | x :: R, h, ρ, s => by
    simp only [fSq]
    rcases r9_c (h x (by simp) ρ s) with ⟨e, e', h1, h2, h3⟩ | ⟨⟨v, s1, ρ1⟩, h1, h2⟩
    · rw [h1, h2]; exact h3
    rw [h1, h2]
    simp only
    rcases r9l_c (fSq_pm R (fun y hy => h y (by simp [hy])) ρ1 s1) with ⟨e, e', h1, h2, h3⟩ | ⟨⟨vs, s2, ρ2⟩, h1, h2⟩
    · rw [h1, h2]; exact h3
    rw [h1, h2]
    exact rfl
section DES
variable {go go' : Int → Nat → fEv → fSt → fRs} {bt bt' : Int → Int} {O1 O1' O2 O2' : List Int}
theorem fIfN_pm {a c d : Int} (ha : ∀ m ρ s, r9 (go a m ρ s) (go' a m ρ s)) (hc : ∀ m ρ s, r9 (go c m ρ s) (go' c m ρ s)) (hd : ∀ m ρ s, r9 (go d m ρ s) (go' d m ρ s)) (p1 : gPm bt bt' O1 O1') (p2 : gPm bt bt' O2 O2') (tn : Int) (m : Nat) (ρ : fEv) (s : fSt) : r9 (fIfN go bt tn O1 O2 a c d m ρ s) (fIfN go' bt' tn O1' O2' a c d m ρ s) := by
  unfold fIfN
  rcases r9_c (ha m ρ s) with ⟨e, e', h1, h2, h3⟩ | ⟨⟨cv, s2, ρ2⟩, h1, h2⟩
  · rw [h1, h2]; exact h3
  rw [h1, h2]
  simp only
  rcases r8_c (fCa_pg (ks := fWh true cv) p1 s2 ρ2) with ⟨e, e', h1, h2, h3⟩ | ⟨⟨s3, ρ3⟩, h1, h2⟩
  · rw [h1, h2]; exact h3
  rw [h1, h2]
  simp only
  rcases r9_c (hc (fWh true cv).length ρ3 s3) with ⟨e, e', h1, h2, h3⟩ | ⟨⟨v1, s4, ρ4⟩, h1, h2⟩
  · rw [h1, h2]; exact h3
  rw [h1, h2]
  simp only
  rw [← fBk_p p1.1]
  rcases r8_c (fCa_pg (ks := fWh false cv) p2 s4 (fBk O1 ρ2 ρ4)) with ⟨e, e', h1, h2, h3⟩ | ⟨⟨s5, ρ5⟩, h1, h2⟩
  · rw [h1, h2]; exact h3
  rw [h1, h2]
  simp only
  rcases r9_c (hd (fWh false cv).length ρ5 s5) with ⟨e, e', h1, h2, h3⟩ | ⟨⟨v2, s6, ρ6⟩, h1, h2⟩
  · rw [h1, h2]; exact h3
  rw [h1, h2]
  simp only
  rw [← fBk_p p2.1]
  exact r9_r _
theorem fEbN_pm {bd : Int} {ts : List Int} (hb : ∀ m ρ s, r9 (go bd m ρ s) (go' bd m ρ s)) (ht : ∀ x ∈ ts, ∀ m ρ s, r9 (go x m ρ s) (go' x m ρ s)) (p1 : gPm bt bt' O1 O1') (p2 : gPm bt bt' O2 O2') (n : Int) (m : Nat) (vs : List (List vaF)) (ρ : fEv) (s : fSt) : r9 (fEbN go bt n O1 O2 bd ts m vs ρ s) (fEbN go' bt' n O1' O2' bd ts m vs ρ s) := by
  unfold fEbN
  split
  · exact rfl
  rcases r8_c (fCa_pg (ks := fRp m ((vs.getD 0 []).map (fun v => (itF v).length))) p1 s ρ) with ⟨e, e', h1, h2, h3⟩ | ⟨⟨s3, ρ3⟩, h1, h2⟩
  · rw [h1, h2]; exact h3
  rw [h1, h2]
  simp only
  cases ts with
  | nil =>
    simp only
    rcases r9_c (hb (fRp m ((vs.getD 0 []).map (fun v => (itF v).length))).length (fUs ρ3 (210 + 4 * n) 0 (vs.map flF)) s3) with ⟨e, e', h1, h2, h3⟩ | ⟨⟨v, s4, ρ5⟩, h1, h2⟩
    · rw [h1, h2]; exact h3
    rw [h1, h2]
    simp only
    rw [← fBk_p p1.1]
    exact r9_r _
  | cons t ts =>
    simp only
    rcases r9_c (ht t (by simp) (fRp m ((vs.getD 0 []).map (fun v => (itF v).length))).length (fUs ρ3 (210 + 4 * n) 0 (vs.map flF)) s3) with ⟨e, e', h1, h2, h3⟩ | ⟨⟨cv, s4, ρ5⟩, h1, h2⟩
    · rw [h1, h2]; exact h3
    rw [h1, h2]
    simp only
    rcases r8_c (fCa_pg (ks := fWh true cv) p2 s4 ρ5) with ⟨e, e', h1, h2, h3⟩ | ⟨⟨s5, ρ6⟩, h1, h2⟩
    · rw [h1, h2]; exact h3
    rw [h1, h2]
    simp only
    cases fStp (m : Int) s5 with
    | none => exact rfl
    | some s6 =>
      simp only
      rcases r9_c (hb (fWh true cv).length ρ6 s6) with ⟨e, e', h1, h2, h3⟩ | ⟨⟨v, s7, ρ7⟩, h1, h2⟩
      · rw [h1, h2]; exact h3
      rw [h1, h2]
      simp only
      rw [← fBk_p p1.1, ← fBk_p p2.1]
      exact r9_r _
end DES
/-- what is carried along at node x is the same -/
def oPm (A : aT) (D : List aDf) (T T' : Int → Int) (O O' : Int → Nat → List Int) (x : Int) : Prop := (A.2.1 x = 3 → gPm (bTy A D T) (bTy A D T') (O x 1) (O' x 1) ∧ gPm (bTy A D T) (bTy A D T') (O x 2) (O' x 2)) ∧ (A.2.1 x = 15 → gPm (bTy A D T) (bTy A D T') (O x 0) (O' x 0) ∧ gPm (bTy A D T) (bTy A D T') (O x 1) (O' x 1))
theorem fxN_pm {A : aT} {D : List aDf} {T T' B B' : Int → Int} {O O' : Int → Nat → List Int} {call call' : Int → Nat → fEv → fSt → fRs} (hc : ∀ q m ρ s, r9 (call q m ρ s) (call' q m ρ s)) : ∀ (f : Nat) (n : Int) (L : List Int), fT A [n] L → (∀ x ∈ L, T x = T' x ∧ B x = B' x ∧ oPm A D T T' O O' x) → ∀ (m : Nat) (ρ : fEv) (s : fSt), r9 (fxN A D T B O call f n m ρ s) (fxN A D T' B' O' call' f n m ρ s)
  | 0, n, L, hf, h, m, ρ, s => rfl
  | f + 1, n, L, hf, h, m, ρ, s => by
    obtain ⟨L1, L2, e1, w1, w2, w3⟩ := fT_inv hf
    obtain ⟨hT, hB, hO⟩ := h n (by rw [e1]; simp)
    have kd : ∀ x ∈ A.2.2.2.2.1 n, ∀ m ρ s, r9 (fxN A D T B O call f x m ρ s) (fxN A D T' B' O' call' f x m ρ s) := fun x hx => by
      obtain ⟨Lx, a1, a2⟩ := fT_kid w2 hx
      exact fxN_pm hc f x Lx a1 (fun y hy => h y (by rw [e1]; exact List.mem_cons_of_mem _ (List.mem_append_left _ (a2 y hy))))
    obtain ⟨n1, n2, n3, n4, n5, n6, n7, n8⟩ := w1
    simp only [fxN]
    cases fBg m s with
    | none => exact rfl
    | some s1 =>
      simp only
      rw [← hT, ← hB]
      by_cases c1 : A.2.1 n = 1
      · rw [if_pos c1, if_pos c1]; exact rfl
      rw [if_neg c1, if_neg c1]
      by_cases c2 : A.2.1 n = 2
      · have l := n3 (Or.inl c2)
        rw [if_pos c2, if_pos c2]
        rcases r9_c (kd _ (getD_in (i := 0) (by omega)) m ρ s1) with ⟨e, e', h1, h2, h3⟩ | ⟨⟨v, s2, ρ2⟩, h1, h2⟩
        · rw [h1, h2]; exact h3
        rw [h1, h2]
        exact kd _ (getD_in (i := 1) (by omega)) _ _ _
      rw [if_neg c2, if_neg c2]
      by_cases c3 : A.2.1 n = 3
      · have l := n4 c3
        rw [if_pos c3, if_pos c3]
        exact fIfN_pm (kd _ (getD_in (i := 0) (by omega))) (kd _ (getD_in (i := 1) (by omega))) (kd _ (getD_in (i := 2) (by omega))) (hO.1 c3).1 (hO.1 c3).2 _ _ _ _
      rw [if_neg c3, if_neg c3]
      by_cases c13 : A.2.1 n = 13
      · rw [if_pos c13, if_pos c13]
        rcases r9l_c (fSq_pm (go := fun x => fxN A D T B O call f x m) (go' := fun x => fxN A D T' B' O' call' f x m) (A.2.2.2.2.1 n) (fun x hx => kd x hx m) ρ s1) with ⟨e, e', h1, h2, h3⟩ | ⟨⟨vs, s2, ρ2⟩, h1, h2⟩
        · rw [h1, h2]; exact h3
        rw [h1, h2]
        exact hc _ _ _ _
      rw [if_neg c13, if_neg c13]
      by_cases c15 : A.2.1 n = 15
      · have l := n7 c15
        rw [if_pos c15, if_pos c15]
        rcases r9l_c (fSq_pm (go := fun x => fxN A D T B O call f x m) (go' := fun x => fxN A D T' B' O' call' f x m) (kGs A n) (fun x hx => kd x (by unfold kGs at hx; exact List.mem_of_mem_drop (List.mem_of_mem_take hx)) m) ρ s1) with ⟨e, e', h1, h2, h3⟩ | ⟨⟨vs, s2, ρ2⟩, h1, h2⟩
        · rw [h1, h2]; exact h3
        rw [h1, h2]
        exact fEbN_pm (kd _ (getD_in (i := 0) (by omega))) (fun x hx => kd x (List.mem_of_mem_drop hx)) (hO.2 c15).1 (hO.2 c15).2 _ _ _ _ _
      rw [if_neg c15, if_neg c15]
      rcases r9l_c (fSq_pm (go := fun x => fxN A D T B O call f x m) (go' := fun x => fxN A D T' B' O' call' f x m) (A.2.2.2.2.1 n) (fun x hx => kd x hx m) ρ s1) with ⟨e, e', h1, h2, h3⟩ | ⟨⟨vs, s2, ρ2⟩, h1, h2⟩
      · rw [h1, h2]; exact h3
      rw [h1, h2]
      exact r9_r _
/-- DEFS -/
theorem fxC_pm {A : aT} {D : List aDf} {T T' B B' : Int → Int} {O O' : Int → Nat → List Int} {q : Int} {LA : List Int} (hf : fT A (aRt D ++ [q]) LA) (h : ∀ x ∈ LA, T x = T' x ∧ B x = B' x ∧ oPm A D T T' O O' x) : ∀ k, k ≤ D.length → ∀ q' m ρ s, r9 (fxC A D T B O k q' m ρ s) (fxC A D T' B' O' k q' m ρ s)
  | 0, _, q', m, ρ, s => rfl
  | k + 1, hk, q', m, ρ, s => by
    simp only [fxC]
    by_cases c : q' = (k : Int)
    · rw [if_pos c, if_pos c]
      have hk' : k < D.length := by omega
      obtain ⟨Lr, a1, a2⟩ := fT_kid hf (r := D[k].2.2.2) (List.mem_append_left _ (by unfold aRt; exact List.mem_map.mpr ⟨D[k], List.getElem_mem _, rfl⟩))
      rw [List.getD_eq_getElem?_getD, List.getElem?_eq_getElem hk', Option.getD_some]
      exact fxN_pm (fxC_pm hf h k (by omega)) 201 _ Lr a1 (fun x hx => h x (a2 x hx)) m ρ s
    · rw [if_neg c, if_neg c]
      exact fxC_pm hf h k (by omega) q' m ρ s
theorem fRe_r {a b : fRs} (h : r9 a b) : fRe a = fRe b := by
  rcases r9_c h with ⟨e, e', h1, h2, h3⟩ | ⟨q, h1, h2⟩
  · rw [h1, h2]; exact h3
  · rw [h1, h2]
/-- the whole PROGRAM -/
theorem fxA_pm {A : aT} {D : List aDf} {T T' B B' : Int → Int} {O O' : Int → Nat → List Int} {q : Int} {LA : List Int} (hf : fT A (aRt D ++ [q]) LA) (h : ∀ x ∈ LA, T x = T' x ∧ B x = B' x ∧ oPm A D T T' O O' x) : r9 (fxA A D T B O q) (fxA A D T' B' O' q) := by
  obtain ⟨Lr, a1, a2⟩ := fT_kid hf (r := q) (List.mem_append_right _ (by simp))
  unfold fxA
  exact fxN_pm (fxC_pm hf h D.length (Nat.le_refl _)) 201 q Lr a1 (fun x hx => h x (a2 x hx)) _ _ _
