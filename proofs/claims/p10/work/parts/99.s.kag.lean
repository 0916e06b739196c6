/-! What look says doesn't depend on types that were there before. -/
def kOk (go : kE → Int → (Int → Int) → Option (Int → Int)) (P : (Int → Int) → (Int → Int) → Prop) : Prop := ∀ e n T T', P T T' → (go e n T = none ∧ go e n T' = none) ∨ ∃ T1 T1', go e n T = some T1 ∧ go e n T' = some T1' ∧ T1 n = T1' n ∧ ∀ x, T x = T' x → T1 x = T1' x
def kAg (ds : kD) (T T' : Int → Int) : Prop := ∀ d ∈ ds, T d.2.2 = T' d.2.2
theorem kAg_s {ds : kD} {T T' T1 T1' : Int → Int} (h : kAg ds T T') (k : ∀ x, T x = T' x → T1 x = T1' x) : kAg ds T1 T1' := fun d hd => k _ (h d hd)
theorem kRow_ag {go : kE → Int → (Int → Int) → Option (Int → Int)} {ds : kD} (hg : kOk go (kAg ds)) (e : kE) : ∀ (l : List Int) (T T' : Int → Int), kAg ds T T' → (kRow go e l T = none ∧ kRow go e l T' = none) ∨ ∃ T1 T1', kRow go e l T = some T1 ∧ kRow go e l T' = some T1' ∧ (∀ x ∈ l, T1 x = T1' x) ∧ ∀ x, T x = T' x → T1 x = T1' x
  | [], T, T', _ => Or.inr ⟨T, T', rfl, rfl, by simp, fun _ h => h⟩
  | y :: r, T, T', h => by
    rcases hg e y T T' h with ⟨a, b⟩ | ⟨T1, T1', a, b, c, d⟩
    · left; simp only [kRow, a, b, and_self]
    · rcases kRow_ag hg e r T1 T1' (kAg_s h d) with ⟨a2, b2⟩ | ⟨T2, T2', a2, b2, c2, d2⟩
      · left; simp only [kRow, a, b, a2, b2, and_self]
      · right
        refine ⟨T2, T2', by simp only [kRow, a, a2], by simp only [kRow, b, b2], ?_, fun x hx => d2 x (d x hx)⟩
        intro x hx
        rcases List.mem_cons.mp hx with e | e
        · subst e; exact d2 _ c
        · exact c2 x e
theorem kBind_ag {T T' : Int → Int} : ∀ (gs : List (Int × Int)) (xs : List Int) (e : kE), (∀ x ∈ xs, T x = T' x) → kBind T gs xs e = kBind T' gs xs e
  | [], _, _, _ => by simp only [kBind]
  | _ :: _, [], _, _ => by simp only [kBind]
  | g :: gs, x :: xs, e, h => by
    simp only [kBind]
    rw [h x (by simp)]
    exact kBind_ag gs xs _ (fun y hy => h y (List.mem_cons_of_mem _ hy))
theorem kGens_ag {T T' : Int → Int} {gs : List (Int × Int)} {xs : List Int} (h : ∀ x ∈ xs, T x = T' x) : kGens T gs xs = kGens T' gs xs := by
  unfold kGens
  congr 1
  rw [Bool.eq_iff_iff, List.all_eq_true, List.all_eq_true]
  exact ⟨fun q x hx => by rw [← h x hx]; exact q x hx, fun q x hx => by rw [h x hx]; exact q x hx⟩
theorem kParts_ag {A : aT} {go : kE → Int → (Int → Int) → Option (Int → Int)} {ds : kD} (hg : kOk go (kAg ds)) (e : kE) (n : Int) (T T' : Int → Int) (h : kAg ds T T') : (kParts A go e n T = none ∧ kParts A go e n T' = none) ∨ ∃ T1 T1', kParts A go e n T = some T1 ∧ kParts A go e n T' = some T1' ∧ (∀ x ∈ A.2.2.2.2.1 n, T1 x = T1' x) ∧ ∀ x, T x = T' x → T1 x = T1' x := by
  unfold kParts
  simp only
  by_cases c1 : A.2.1 n = 2
  · rw [if_pos c1, if_pos c1]
    cases hk : A.2.2.2.2.1 n with
    | nil => exact Or.inr ⟨T, T', rfl, rfl, by simp, fun _ h => h⟩
    | cons a r =>
      simp only
      rcases hg e a T T' h with ⟨a1, b1⟩ | ⟨T1, T1', a1, b1, c1, d1⟩
      · left; rw [a1, b1]; exact ⟨rfl, rfl⟩
      · rw [a1, b1]
        simp only
        rw [c1]
        rcases kRow_ag hg ((A.2.2.2.1 n, T1' a) :: e) r T1 T1' (kAg_s h d1) with ⟨a2, b2⟩ | ⟨T2, T2', a2, b2, c2, d2⟩
        · exact Or.inl ⟨a2, b2⟩
        · refine Or.inr ⟨T2, T2', a2, b2, fun x hx => ?_, fun x hx => d2 x (d1 x hx)⟩
          rcases List.mem_cons.mp hx with e | e
          · subst e; exact d2 _ c1
          · exact c2 x e
  · rw [if_neg c1, if_neg c1]
    by_cases c2 : A.2.1 n = 15
    · rw [if_pos c2, if_pos c2]
      cases hk : A.2.2.2.2.1 n with
      | nil => exact Or.inr ⟨T, T', rfl, rfl, by simp, fun _ h => h⟩
      | cons a r =>
        simp only
        rcases kRow_ag hg e (r.take (A.2.2.2.2.2 n).length) T T' h with ⟨a1, b1⟩ | ⟨T1, T1', a1, b1, c1, d1⟩
        · left; rw [a1, b1]; exact ⟨rfl, rfl⟩
        · rw [a1, b1]
          simp only
          rw [kGens_ag c1, kBind_ag _ _ e c1]
          split
          · rcases kRow_ag hg (kBind T1' (A.2.2.2.2.2 n) (r.take (A.2.2.2.2.2 n).length) e) (r.drop (A.2.2.2.2.2 n).length ++ [a]) T1 T1' (kAg_s h d1) with ⟨a2, b2⟩ | ⟨T2, T2', a2, b2, c2, d2⟩
            · exact Or.inl ⟨a2, b2⟩
            · refine Or.inr ⟨T2, T2', a2, b2, fun x hx => ?_, fun x hx => d2 x (d1 x hx)⟩
              rcases List.mem_cons.mp hx with e | e
              · subst e; exact c2 _ (by simp)
              · rw [← List.take_append_drop (A.2.2.2.2.2 n).length r] at e
                rcases List.mem_append.mp e with e | e
                · exact d2 _ (c1 _ e)
                · exact c2 _ (List.mem_append_left _ e)
          · exact Or.inl ⟨rfl, rfl⟩
    · rw [if_neg c2, if_neg c2]
      exact kRow_ag hg e _ T T' h
theorem kDef_in {ds : kD} {w r : Int} {ps : List Int} (h : kDef ds w = some (ps, r)) : ∃ d ∈ ds, d.2.2 = r := by
  induction ds with
  | nil => cases h
  | cons x l ih =>
    unfold kDef at h
    split at h
    · cases h2 : x.2 with
      | mk p q =>
        rw [h2] at h; cases h
        exact ⟨x, by simp, by rw [h2]⟩
    · obtain ⟨d, a, b⟩ := ih h
      exact ⟨d, List.mem_cons_of_mem _ a, b⟩
theorem kTy_ag {A : aT} {ds : kD} {T T' : Int → Int} (h : kAg ds T T') (e : kE) (n : Int) (ts : List Int) : kTy A ds T e n ts = kTy A ds T' e n ts := by
  unfold kTy
  simp only
  cases hd : kDef ds (A.2.2.2.1 n) with
  | none => rfl
  | some x =>
    obtain ⟨ps, r⟩ := x
    obtain ⟨d, a, b⟩ := kDef_in hd
    have := h d a
    rw [b] at this
    simp only [this]
theorem kGo_ag (A : aT) (ds : kD) : ∀ f, kOk (kGo A ds f) (kAg ds)
  | 0 => fun _ _ _ _ _ => Or.inl ⟨rfl, rfl⟩
  | f + 1 => fun e n T T' h => by
    simp only [kGo]
    rcases kParts_ag (A := A) (kGo_ag A ds f) e n T T' h with ⟨a, b⟩ | ⟨T1, T1', a, b, c, d⟩
    · left; rw [a, b]; exact ⟨rfl, rfl⟩
    · rw [a, b]
      simp only
      rw [kTy_ag (kAg_s h d), show (A.2.2.2.2.1 n).map T1 = (A.2.2.2.2.1 n).map T1' from List.map_congr_left c]
      cases kTy A ds T1' e n ((A.2.2.2.2.1 n).map T1') with
      | none => exact Or.inl ⟨rfl, rfl⟩
      | some ty =>
        refine Or.inr ⟨_, _, rfl, rfl, by simp only [aU, if_true], fun x hx => ?_⟩
        by_cases e : x = n
        · simp only [aU, e, if_true]
        · simp only [aU, e, if_false]; exact d x hx
theorem kDf_ag {A : aT} {ds : kD} {T T' : Int → Int} (h : kAg ds T T') (x : aDf) : (kDf A ds x T = none ∧ kDf A ds x T' = none) ∨ ∃ T1 T1' ds1, kDf A ds x T = some (T1, ds1) ∧ kDf A ds x T' = some (T1', ds1) ∧ kAg ds1 T1 T1' ∧ ∀ x, T x = T' x → T1 x = T1' x := by
  unfold kDf
  split
  · rcases kGo_ag A ds 201 (x.2.2.1.reverse.map (fun p => (p.1, p.2.2))) x.2.2.2 T T' h with ⟨a, b⟩ | ⟨T1, T1', a, b, c, d⟩
    · left; rw [a, b]; exact ⟨rfl, rfl⟩
    · right
      rw [a, b]
      refine ⟨T1, T1', _, rfl, rfl, fun y hy => ?_, d⟩
      rcases List.mem_cons.mp hy with e | e
      · subst e; exact c
      · exact d _ (h y e)
  · exact Or.inl ⟨rfl, rfl⟩
theorem kDs_ag {A : aT} : ∀ (D : List aDf) (ds : kD) (T T' : Int → Int), kAg ds T T' → (kDs A D ds T = none ∧ kDs A D ds T' = none) ∨ ∃ T1 T1' ds1, kDs A D ds T = some (T1, ds1) ∧ kDs A D ds T' = some (T1', ds1) ∧ kAg ds1 T1 T1' ∧ ∀ x, T x = T' x → T1 x = T1' x
  | [], ds, T, T', h => Or.inr ⟨T, T', ds, rfl, rfl, h, fun _ q => q⟩
  | x :: r, ds, T, T', h => by
    simp only [kDs]
    rcases kDf_ag (A := A) h x with ⟨a, b⟩ | ⟨T1, T1', ds1, a, b, c, d⟩
    · left; rw [a, b]; exact ⟨rfl, rfl⟩
    · rw [a, b]
      simp only
      rcases kDs_ag r ds1 T1 T1' c with ⟨a2, b2⟩ | ⟨T2, T2', ds2, a2, b2, c2, d2⟩
      · exact Or.inl ⟨a2, b2⟩
      · exact Or.inr ⟨T2, T2', ds2, a2, b2, c2, fun x hx => d2 x (d x hx)⟩
/-- a PROGRAM is taken or not, whatever the rows of types held before -/
theorem kPg_ag (A : aT) (D : List aDf) (q : Int) (T T' : Int → Int) : kPg A D q T = none ↔ kPg A D q T' = none := by
  unfold kPg
  rcases kDs_ag (A := A) D [] T T' (fun d hd => by simp at hd) with ⟨a, b⟩ | ⟨T1, T1', ds, a, b, c, d⟩
  · rw [a, b]
  · rw [a, b]
    simp only
    rcases kGo_ag A ds 201 [] q T1 T1' c with ⟨a2, b2⟩ | ⟨T2, T2', a2, b2, -⟩
    · rw [a2, b2]
    · rw [a2, b2]; simp
