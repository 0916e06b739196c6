/-! parts of a { }: scopes, lanes, and what is bound outside stays. -/
section AXS
variable {A : aT} {D : List aDf} {T B : Int → Int} {lev : Int → Nat}
theorem ea_ts {n bd : Int} {tl : List Int} (nw : nW A n) (k15 : A.2.1 n = 15) (ea : A.2.2.2.2.1 n = bd :: tl) : 1 ≤ (A.2.2.2.2.2 n).length ∧ (tl.take (A.2.2.2.2.2 n).length).length = (A.2.2.2.2.2 n).length ∧ (A.2.2.2.2.2 n).length ≤ 4 ∧ (tl.drop (A.2.2.2.2.2 n).length = [] ∨ ∃ t, tl.drop (A.2.2.2.2.2 n).length = [t]) := by
  have g := nw.2.2.2.2.2.2.1 k15
  have g1 := nw.2.2.2.2.2.2.2.2 k15
  rw [ea, List.length_cons] at g
  have ld : (tl.drop (A.2.2.2.2.2 n).length).length = tl.length - (A.2.2.2.2.2 n).length := List.length_drop
  refine ⟨g1, by rw [List.length_take]; omega, g.2, ?_⟩
  match e : tl.drop (A.2.2.2.2.2 n).length with
  | [] => exact Or.inl rfl
  | [t] => exact Or.inr ⟨t, rfl⟩
  | a :: b :: r =>
    rw [e] at ld
    simp only [List.length_cons] at ld
    omega
/-- the scope of the parts of a { }: GENS, and what is carried along -/
theorem stN_b0 {O : Int → Nat → List Int} {j f : Nat} {L : List Int} {sc : List (Int × Int)} {n bd : Int} {tl : List Int} (hA : A.1 ≤ 200) (hO : okO A B O) (h : stN A D T B lev j (f + 1) L sc n) (k15 : A.2.1 n = 15) (ea : A.2.2.2.2.1 n = bd :: tl) {z : Int} (hz : z ∈ tl.drop (A.2.2.2.2.2 n).length ++ [bd]) : ∃ L', stN A D T B lev j f L' (gsc n T 0 (tl.take (A.2.2.2.2.2 n).length) ++ sc.filter (fun p => decide (p.1 ∈ O n 0))) z ∧ (∀ y ∈ L', y ∈ L) ∧ n ∉ L' := by
  have nL : n ∈ L := fT_sub h.2.1 _ (by simp)
  obtain ⟨-, g2⟩ := stN_e hA h k15 ea
  obtain ⟨Lb, hb, sb, -⟩ := g2 bd (by simp)
  obtain ⟨Lt, ht, st, hin⟩ : ∃ Lt, fT A (tl.drop (A.2.2.2.2.2 n).length) Lt ∧ (∀ y ∈ Lt, y ∈ L) ∧ ∀ t ∈ tl.drop (A.2.2.2.2.2 n).length, ∀ Lz, fT A [t] Lz → ∀ y ∈ Lz, y ∈ Lt := by
    rcases (ea_ts h.1.1 k15 ea).2.2.2 with e | ⟨t, e⟩
    · rw [e]; exact ⟨[], fT_z A, fun y hy => (by cases hy), fun t ht => (by cases ht)⟩
    · obtain ⟨Lt, ht, st, -⟩ := g2 t (by rw [e]; simp)
      rw [e]
      refine ⟨Lt, ht.2.1, st, fun t' ht' Lz hLz y hy => ?_⟩
      have : t' = t := by simpa using ht'
      rw [this] at hLz
      rw [← fT_det hLz ht.2.1]; exact hy
  obtain ⟨L', hz', sz, nz⟩ := g2 z hz
  have ho := ((hO n).2.2 k15 bd tl Lb Lt ea hb.2.1 ht).1
  refine ⟨L', stN_res (I := gsc n T 0 (tl.take (A.2.2.2.2.2 n).length)) (sc := sc) (sc' := sc.filter (fun p => decide (p.1 ∈ O n 0))) hz' (fun y hy ky p hp e => ?_) (fun p hp => (List.mem_filter.mp hp).1), sz, nz⟩
  refine List.mem_filter.mpr ⟨hp, ?_⟩
  rw [decide_eq_true_eq]
  have now := (h.2.2.2.2 p hp).2
  refine (ho p.1).mpr ⟨y, ?_, ky, e.symm, fun q => now (Or.inl ?_), fun q => now (Or.inl (Or.inr ⟨q.2.1, q.2.2.1, by rw [q.2.2.2]; exact nL⟩))⟩
  · rcases List.mem_append.mp hz with q | q
    · exact List.mem_append_right _ (hin z q L' hz'.2.1 y hy)
    · have ez : z = bd := by simpa using q
      rw [ez] at hz'
      rw [fT_det hz'.2.1 hb.2.1] at hy
      exact List.mem_append_left _ hy
  · have sub : ∀ y ∈ Lb ++ Lt, y ∈ L := fun y hy => (List.mem_append.mp hy).elim (sb y) (st y)
    rcases q with ⟨q1, q2⟩ | ⟨q1, q2, q3⟩
    · exact Or.inl ⟨q1, sub _ q2⟩
    · exact Or.inr ⟨q1, q2, sub _ q3⟩
/-- the scope of the body behind its test -/
theorem stN_b1 {O : Int → Nat → List Int} {j f : Nat} {L' : List Int} {sc : List (Int × Int)} {n bd : Int} {tl Lt : List Int} (hO : okO A B O) (k15 : A.2.1 n = 15) (ea : A.2.2.2.2.1 n = bd :: tl) (ht : fT A (tl.drop (A.2.2.2.2.2 n).length) Lt) (h : stN A D T B lev j f L' sc bd) : stN A D T B lev j f L' (sc.filter (fun p => decide (p.1 ∈ O n 1))) bd := by
  have ho := ((hO n).2.2 k15 bd tl L' Lt ea h.2.1 ht).2
  have r := stN_res (I := []) (sc := sc) (sc' := sc.filter (fun p => decide (p.1 ∈ O n 1))) h (fun y hy ky p hp e => ?_) (fun p hp => (List.mem_filter.mp hp).1)
  · exact r
  · refine List.mem_filter.mpr ⟨hp, ?_⟩
    rw [decide_eq_true_eq]
    exact (ho p.1).mpr ⟨y, hy, ky, e.symm, fun q => (h.2.2.2.2 p hp).2 (Or.inl q)⟩
end AXS
theorem rg_D (l : List Nat) : (List.range l.length).map (fun i => l.getD i 0) = l := by
  apply List.ext_getElem?
  intro i
  rw [List.getElem?_map]
  rcases Nat.lt_or_ge i l.length with q | q
  · rw [List.getElem?_range q, Option.map_some, List.getD_eq_getElem?_getD, List.getElem?_eq_getElem q]; rfl
  · rw [List.getElem?_eq_none (by rw [List.length_range]; exact q), List.getElem?_eq_none q]; rfl
theorem fRp_l {m : Nat} {ln : List Nat} (h : ln.length = m) : (fRp m ln).length = ln.sum := by
  unfold fRp
  rw [List.length_flatten, List.map_map, ← h]
  have e : (List.length ∘ fun i : Nat => List.replicate (ln.getD i 0) i) = fun i : Nat => ln.getD i 0 := by
    funext i
    simp only [Function.comp, List.length_replicate]
  rw [e, rg_D]
theorem flF_l (l : List vaF) : (flF l).length = (l.map (fun v => (itF v).length)).sum := by
  unfold flF
  rw [List.length_flatten, List.map_map]
  rfl
/-- GENS are as long in each lane -/
def eaE (m : Nat) (vs : List (List vaF)) : Prop := ∀ i : Nat, i < m → ∀ l ∈ vs, (l.getD i (nmF 0)) [] = ((vs.getD 0 []).getD i (nmF 0)) []
theorem eaE_i {m : Nat} {vs : List (List vaF)} : ¬ (List.range m).any (fun i : Nat => vs.any (fun l => decide ((l.getD i (nmF 0)) [] ≠ ((vs.getD 0 []).getD i (nmF 0)) []))) = true ↔ eaE m vs := by
  simp only [List.any_eq_true, List.mem_range, decide_eq_true_eq]
  refine ⟨fun h i hi l hl => Decidable.byContradiction (fun c => h ⟨i, hi, l, hl, c⟩), fun h ⟨i, hi, l, hl, c⟩ => c (h i hi l hl)⟩
theorem eaE_m {m : Nat} {vs : List (List vaF)} (h : eaE m vs) (hl : ∀ l ∈ vs, l.length = m) (h1 : 1 ≤ vs.length) {l : List vaF} (hm : l ∈ vs) : l.map (fun v => (itF v).length) = (vs.getD 0 []).map (fun v => (itF v).length) := by
  have h0 : vs.getD 0 [] ∈ vs := by
    cases vs with
    | nil => simp at h1
    | cons a r => simp
  have e1 := hl l hm
  have e0 := hl _ h0
  apply List.ext_getElem?
  intro i
  rw [List.getElem?_map, List.getElem?_map]
  rcases Nat.lt_or_ge i m with q | q
  · rw [gD_i (by omega : i < l.length), gD_i (by omega : i < (vs.getD 0 []).length)]
    simp only [Option.map_some, itF_l, h i q l hm]
  · rw [List.getElem?_eq_none (by omega), List.getElem?_eq_none (by omega)]
theorem eaE_l {m : Nat} {vs : List (List vaF)} (h : eaE m vs) (hl : ∀ l ∈ vs, l.length = m) (h1 : 1 ≤ vs.length) {l : List vaF} (hm : l ∈ vs) : (flF l).length = (fRp m ((vs.getD 0 []).map (fun v => (itF v).length))).length := by
  have h0 : vs.getD 0 [] ∈ vs := by
    cases vs with
    | nil => simp at h1
    | cons a r => simp
  rw [fRp_l (by rw [List.length_map]; exact hl _ h0), flF_l, eaE_m h hl h1 hm]
