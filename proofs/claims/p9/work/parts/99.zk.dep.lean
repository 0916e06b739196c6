/-! depthOf of the class is kTy. -/
def vDP (K a b : Int) : Int := (if K = 35 then (if a ≤ 0 then ((-1) : Int) else (0 : Int)) else (if K = 91 then (if a ≤ 0 then ((-1) : Int) else (if ¬ b = 0 then ((-1) : Int) else (a - 1))) else (if K = 267 then (if ¬ a = 0 then ((-1) : Int) else (1 : Int)) else (if K = 268 then (if ¬ b = 0 then ((-1) : Int) else (a + 1)) else (if K = 269 then (if ¬ a = 1 then ((-1) : Int) else (0 : Int)) else (if K = 270 then (if ¬ a = 1 then ((-1) : Int) else (0 : Int)) else (if K = 271 then (if ¬ a = 1 then ((-1) : Int) else (0 : Int)) else (if K = 272 then (if ¬ a = 1 then ((-1) : Int) else (1 : Int)) else (if K = 273 then (if a ≤ 0 then ((-1) : Int) else a) else (if K = 274 then (if a ≤ 0 then ((-1) : Int) else (if ¬ a = b then ((-1) : Int) else a)) else (if K = 275 then (if a ≤ 1 then ((-1) : Int) else (a - 1)) else (if K = 276 then (if a ≤ 0 then ((-1) : Int) else (if ¬ b = 1 then ((-1) : Int) else a)) else (if K = 277 then (if a ≤ 0 then ((-1) : Int) else (if ¬ b = 1 then ((-1) : Int) else a)) else (if K = 278 then (if a ≤ 0 then ((-1) : Int) else (if ¬ b = 1 then ((-1) : Int) else (a + 1))) else (if ¬ a = 0 then ((-1) : Int) else (if ¬ b = 0 then ((-1) : Int) else (0 : Int)))))))))))))))))
def okP (r : Option Int) (q : Int) : Prop := (r = none ∧ (q < 0 ∨ 3 < q)) ∨ (r = some q ∧ 0 ≤ q ∧ q ≤ 3)
/-- kinds whose parts are told by their number alone -/
def kTp (k : Int) (ts : List Int) : Option Int :=
  if k < 11 then kIs (decide (ts.getD 0 0 = 0) && decide (ts.getD 1 0 = 0)) 0
  else if k = 11 then kIs (decide (0 < ts.getD 0 0)) 0
  else if k = 12 then kIs (decide (0 < ts.getD 0 0) && decide (ts.getD 1 0 = 0)) (ts.getD 0 0 - 1)
  else kAct k ts
theorem vDP_2 : ∀ k ∈ ([4, 5, 6, 7, 8, 9, 10, 12, 17, 23, 25, 26, 27] : List Int), v_kPartsOf (kmp k) = 2 ∧ ∀ a ∈ ([0, 1, 2, 3] : List Int), ∀ b ∈ ([0, 1, 2, 3] : List Int), (kTp k [a, b] = none ∧ (vDP (kmp k) a b < 0 ∨ 3 < vDP (kmp k) a b)) ∨ (kTp k [a, b] = some (vDP (kmp k) a b) ∧ 0 ≤ vDP (kmp k) a b ∧ vDP (kmp k) a b ≤ 3) := by decide
theorem vDP_1 : ∀ k ∈ ([11, 16, 18, 19, 20, 21, 22, 24] : List Int), v_kPartsOf (kmp k) = 1 ∧ ∀ a ∈ ([0, 1, 2, 3] : List Int), (kTp k [a] = none ∧ (vDP (kmp k) a a < 0 ∨ 3 < vDP (kmp k) a a)) ∨ (kTp k [a] = some (vDP (kmp k) a a) ∧ 0 ≤ vDP (kmp k) a a ∧ vDP (kmp k) a a ≤ 3) := by decide
theorem in4 {a : Int} (h : kIn a) : a ∈ ([0, 1, 2, 3] : List Int) := by
  have := h.1
  have := h.2
  have : a = 0 ∨ a = 1 ∨ a = 2 ∨ a = 3 := by omega
  rcases this with e | e | e | e <;> subst e <;> decide
theorem kAct_no {k : Int} {ts : List Int} (h : (k ∈ ([17, 23, 25, 26, 27] : List Int) ∧ ¬ ts.length = 2) ∨ (k ∈ ([16, 18, 19, 20, 21, 22, 24] : List Int) ∧ ¬ ts.length = 1)) : kAct k ts = none := by
  have nf : ∀ (x : Bool) (t : Int), kIs (false && x) t = none := fun x t => by cases x <;> rfl
  rcases h with ⟨h, hl⟩ | ⟨h, hl⟩
  · have h2 : decide (ts.length = 2) = false := decide_eq_false hl
    simp only [List.mem_cons, List.not_mem_nil, or_false] at h
    rcases h with e | e | e | e | e <;> subst e <;> simp [kAct, kIs, hl]
  · simp only [List.mem_cons, List.not_mem_nil, or_false] at h
    rcases h with e | e | e | e | e | e | e <;> subst e <;> simp [kAct, kIs, hl]
theorem lkc_0 {g : Int → Int} {L : List Int} {h x : Int} (q : lkc g L h) (hx : L[0]? = some x) : h = x := by
  cases L with
  | nil => cases hx
  | cons y r => cases hx; exact q.1
theorem lkc_s {g : Int → Int} : ∀ {L : List Int} {h : Int}, lkc g L h → ∀ (i : Nat) (x y : Int), L[i]? = some x → L[i + 1]? = some y → g x = y
  | [], _, _, i, x, y, hx, _ => by cases hx
  | z :: r, h, q, 0, x, y, hx, hy => by
    cases hx
    rcases q.2 with e | e
    · rw [e] at hy; cases hy
    · exact lkc_0 e hy
  | z :: r, h, q, i + 1, x, y, hx, hy => by
    rcases q.2 with e | e
    · rw [e] at hx; cases hx
    · exact lkc_s e i x y hx hy
theorem vDP_V {σ : sg_S} {n K a b : Int} {Q : Int → sg_S → Prop} (ha : sx_at σ 6 200 (sx_at σ 7 200 n) = a) (hb : sx_at σ 6 200 (sx_at σ 8 200 n) = b) (i1 : kIn a) (i2 : kIn b) (k : Q (vDP K a b) σ) : V_kDepthOfParts σ n K Q := by
  have j1 := i1.1
  have j2 := i1.2
  have j3 := i2.1
  have j4 := i2.2
  have key : ∀ q, vDP K a b = q → Q q σ := fun q h => by rw [← h]; exact k
  unfold V_kDepthOfParts
  rw [ha, hb]
  unfold V_kDepthOfParts_35 V_kDepthOfParts_91 V_kDepthOfParts_267 V_kDepthOfParts_268 V_kDepthOfParts_269 V_kDepthOfParts_272 V_kDepthOfParts_273 V_kDepthOfParts_274 V_kDepthOfParts_275 V_kDepthOfParts_276 V_kDepthOfParts_278 V_kDepthOfParts_d
  repeat' (first | (intro _) | constructor)
  all_goals first | omega | (refine key _ ?_; unfold vDP; grind)
section DPT
variable {σ : sg_S} {A : aT} {ds : kD} {e : kE} {n : Int} {Q : Int → sg_S → Prop}
/-- what the rows tell of n's parts -/
theorem ckW_p (h : ckW σ A) (hn : 0 ≤ n ∧ n < A.1) : pts A n = kOrd A n ∧ (∀ a : Nat, ∀ m : Int, m = 200 → sx_at σ a m n = sg_g σ a n) ∧ sg_g σ 10 n = (kOrd A n).length ∧ (∀ x, (kOrd A n)[0]? = some x → sg_g σ 7 n = x) ∧ (∀ x, (kOrd A n).getLast? = some x → sg_g σ 8 n = x) ∧ (∀ (i : Nat) (x y : Int), (kOrd A n)[i]? = some x → (kOrd A n)[i + 1]? = some y → sg_g σ 9 x = y) ∧ ∀ x ∈ kOrd A n, 0 ≤ x ∧ x < 200 := by
  obtain ⟨⟨c1, c2, c3, ⟨c4, c5, c6, c7, c8⟩, c9⟩, d⟩ := h.2.2 n hn.1 hn.2
  have e0 : pts A n = kOrd A n := by
    unfold pts kOrd
    split
    · rw [List.drop_one]
    · rfl
  rw [e0] at c4 c5 c6 c8
  refine ⟨e0, fun a m hm => ?_, c4, fun x hx => lkc_0 c5 hx, c6, fun i x y hx hy => lkc_s c5 i x y hx hy, c8⟩
  subst hm
  exact xa_in ⟨hn.1, by have := h.1.2; omega⟩
theorem c_dep_d (h : ckW σ A) (hn : 0 ≤ n ∧ n < A.1) (ht : ∀ x ∈ A.2.2.2.2.1 n, kIn (sg_g σ 6 x)) (hk : A.2.1 n ∈ ([4, 5, 6, 7, 8, 9, 10, 12, 17, 23, 25, 26, 27] : List Int) ∧ ((A.2.1 n ≤ 12) → (A.2.2.2.2.1 n).length = 2) ∨ A.2.1 n ∈ ([11, 16, 18, 19, 20, 21, 22, 24] : List Int) ∧ (A.2.1 n = 11 → (A.2.2.2.2.1 n).length = 1)) (k : ∀ q, okP (kTp (A.2.1 n) ((A.2.2.2.2.1 n).map (sg_g σ 6))) q → Q q σ) : V_kDepthOf_d σ n (kmp (A.2.1 n)) Q := by
  obtain ⟨p0, p1, p2, p3, p4, p5, p6⟩ := ckW_p h hn
  have n15 : ¬ A.2.1 n = 15 := by
    rcases hk with ⟨hk, -⟩ | ⟨hk, -⟩ <;> (intro z; rw [z] at hk; revert hk; decide)
  have ho : kOrd A n = A.2.2.2.2.1 n := by unfold kOrd; rw [if_neg n15]
  rw [ho] at p2 p3 p4 p6
  unfold V_kDepthOf_d
  rw [p1 10 200 rfl, p2]
  rcases hk with ⟨hk, hl⟩ | ⟨hk, hl⟩
  · obtain ⟨v1, v2⟩ := vDP_2 _ hk
    rw [v1]
    refine ⟨fun c => k _ (Or.inl ⟨?_, Or.inl (by decide)⟩), fun c => ?_⟩
    · have hlt : ¬ A.2.1 n ≤ 12 := fun z => by have := hl z; omega
      unfold kTp
      rw [if_neg (by omega), if_neg (by omega), if_neg (by omega)]
      refine kAct_no (Or.inl ⟨?_, by rw [List.length_map]; omega⟩)
      simp only [List.mem_cons, List.not_mem_nil, or_false] at hk ⊢
      omega
    · obtain ⟨x, y, hxy⟩ : ∃ x y, A.2.2.2.2.1 n = [x, y] := by
        match hh : A.2.2.2.2.1 n with
        | [x, y] => exact ⟨x, y, rfl⟩
        | [] => rw [hh] at c; simp at c
        | [_] => rw [hh] at c; simp at c
        | _ :: _ :: _ :: _ => rw [hh] at c; simp only [List.length_cons] at c; omega
      rw [hxy] at p3 p4 p6 ht
      have x7 := p3 x rfl
      have x8 := p4 y rfl
      have ax : sx_at σ 6 200 (sx_at σ 7 200 n) = sg_g σ 6 x := by rw [p1 7 200 rfl, x7, xa_in (p6 x (by simp))]
      have ay : sx_at σ 6 200 (sx_at σ 8 200 n) = sg_g σ 6 y := by rw [p1 8 200 rfl, x8, xa_in (p6 y (by simp))]
      have tx := ht x (by simp)
      have ty := ht y (by simp)
      refine vDP_V ax ay tx ty (fun _ => k _ ?_)
      rw [hxy]
      exact v2 _ (in4 tx) _ (in4 ty)
  · obtain ⟨v1, v2⟩ := vDP_1 _ hk
    rw [v1]
    refine ⟨fun c => k _ (Or.inl ⟨?_, Or.inl (by decide)⟩), fun c => ?_⟩
    · have hlt : ¬ A.2.1 n = 11 := fun z => by have := hl z; omega
      simp only [List.mem_cons, List.not_mem_nil, or_false] at hk
      unfold kTp
      rw [if_neg (by omega), if_neg (by omega), if_neg (by omega)]
      refine kAct_no (Or.inr ⟨?_, by rw [List.length_map]; omega⟩)
      simp only [List.mem_cons, List.not_mem_nil, or_false]
      omega
    · obtain ⟨x, hxy⟩ : ∃ x, A.2.2.2.2.1 n = [x] := by
        match hh : A.2.2.2.2.1 n with
        | [x] => exact ⟨x, rfl⟩
        | [] => rw [hh] at c; simp at c
        | _ :: _ :: _ => rw [hh] at c; simp only [List.length_cons] at c; omega
      rw [hxy] at p3 p4 p6 ht
      have x7 := p3 x rfl
      have x8 := p4 x rfl
      have ax : sx_at σ 6 200 (sx_at σ 7 200 n) = sg_g σ 6 x := by rw [p1 7 200 rfl, x7, xa_in (p6 x (by simp))]
      have ay : sx_at σ 6 200 (sx_at σ 8 200 n) = sg_g σ 6 x := by rw [p1 8 200 rfl, x8, xa_in (p6 x (by simp))]
      have tx := ht x (by simp)
      refine vDP_V ax ay tx tx (fun _ => k _ ?_)
      rw [hxy]
      exact v2 _ (in4 tx)
end DPT
