/-! BOTH CONSTRUCTORS, worked out: the cells are those of a state that keeps the law. -/
def so_c (h : am_H) (a : Nat) (k : Int) : Int32 := match h[a]? with
  | some (.inl (_, _, f)) => f k.toNat
  | some (.inr (.inr (_, fs))) => match fs[k.toNat]? with
    | some (.int x) => x
    | _ => 0
  | _ => 0
def so_l (h : am_H) (a : Nat) (k : Int) : Int64 := match h[a]? with
  | some (.inr (.inl (_, f))) => f k.toNat
  | some (.inr (.inr (_, fs))) => match fs[k.toNat]? with
    | some (.long x) => x
    | _ => 0
  | _ => 0
/-- the state that a heap is -/
def so_S (h : am_H) : sg_S := (so_c h, so_l h)
def so_v (v w : Value) : Bool := match w with
  | .int _ => (match v with
    | .int _ => true
    | _ => false)
  | .long _ => (match v with
    | .long _ => true
    | _ => false)
  | w => decide (v = w)
def so_vs : List Value → List Value → Bool
  | [], [] => true
  | v :: r, w :: q => so_v v w && so_vs r q
  | _, _ => false
def so_1 (c : am_C) (s : sg_Sh) : Bool := match c, s with
  | .inl (t, n, _), .inl (t', n') => decide (t = t') && decide (n = n') && !decide (t' = 2)
  | .inr (.inl (n, _)), .inl (t', n') => decide (t' = 2) && decide (n = n')
  | .inr (.inr (ci, fs)), .inr (ci', tp) => decide (ci = ci') && so_vs fs tp
  | _, _ => false
def so_all : am_H → List sg_Sh → Bool
  | [], [] => true
  | c :: r, s :: q => so_1 c s && so_all r q
  | _, _ => false
theorem so_vs_at : ∀ (fs tp : List Value), so_vs fs tp = true → fs.length = tp.length ∧ ∀ (k : Nat) v w, fs[k]? = some v → tp[k]? = some w → so_v v w = true
  | [], [], _ => ⟨rfl, fun k v w h => by cases h⟩
  | [], _ :: _, h => by cases h
  | _ :: _, [], h => by cases h
  | v :: r, w :: q, h => by
    unfold so_vs at h
    rw [Bool.and_eq_true] at h
    obtain ⟨e, ih⟩ := so_vs_at r q h.2
    refine ⟨by simp only [List.length_cons, e], fun k v' w' h1 h2 => ?_⟩
    cases k with
    | zero =>
      rw [List.getElem?_cons_zero] at h1 h2
      cases h1; cases h2
      exact h.1
    | succ k =>
      rw [List.getElem?_cons_succ] at h1 h2
      exact ih k v' w' h1 h2
theorem so_all_at : ∀ (h : am_H) (Sh : List sg_Sh), so_all h Sh = true → h.length = Sh.length ∧ ∀ (a : Nat) c s, h[a]? = some c → Sh[a]? = some s → so_1 c s = true
  | [], [], _ => ⟨rfl, fun k v w h => by cases h⟩
  | [], _ :: _, h => by cases h
  | _ :: _, [], h => by cases h
  | v :: r, w :: q, h => by
    unfold so_all at h
    rw [Bool.and_eq_true] at h
    obtain ⟨e, ih⟩ := so_all_at r q h.2
    refine ⟨by simp only [List.length_cons, e], fun k v' w' h1 h2 => ?_⟩
    cases k with
    | zero =>
      rw [List.getElem?_cons_zero] at h1 h2
      cases h1; cases h2
      exact h.1
    | succ k =>
      rw [List.getElem?_cons_succ] at h1 h2
      exact ih k v' w' h1 h2
theorem so_fld {h : am_H} {a ci : Nat} {fs : List Value} (ha : h[a]? = some (.inr (.inr (ci, fs)))) {k : Nat} {v w : Value} (hk : fs[k]? = some v) (hw : so_v v w = true) : v = sg_fd (so_S h) a k w := by
  unfold so_v at hw
  unfold sg_fd so_S
  cases w with
  | int x =>
    simp only at hw ⊢
    cases v with
    | int y => simp only [so_c, ha, Int.toNat_natCast, hk]
    | _ => cases hw
  | long x =>
    simp only at hw ⊢
    cases v with
    | long y => simp only [so_l, ha, Int.toNat_natCast, hk]
    | _ => cases hw
  | _ => exact of_decide_eq_true hw
theorem so_cell {h : am_H} {a : Nat} {c : am_C} {s : sg_Sh} (ha : h[a]? = some c) (hs : so_1 c s = true) : c = sg_cell (so_S h) a s := by
  unfold so_1 at hs
  rcases c with ⟨t, n, f⟩ | ⟨n, f⟩ | ⟨ci, fs⟩ <;> rcases s with ⟨t', n'⟩ | ⟨ci', tp⟩
  · simp only [Bool.and_eq_true, decide_eq_true_eq, Bool.not_eq_true', decide_eq_false_iff_not] at hs
    obtain ⟨⟨rfl, rfl⟩, h2⟩ := hs
    simp only [sg_cell, if_neg h2]
    have e : f = fun i : Nat => (so_S h).1 a (i : Int) := funext fun i => by simp only [so_S, so_c, ha, Int.toNat_natCast]
    rw [← e]
  · cases hs
  · simp only [Bool.and_eq_true, decide_eq_true_eq] at hs
    obtain ⟨rfl, rfl⟩ := hs
    simp only [sg_cell, if_true]
    have e : f = fun i : Nat => (so_S h).2 a (i : Int) := funext fun i => by simp only [so_S, so_l, ha, Int.toNat_natCast]
    rw [← e]
  · cases hs
  · cases hs
  · simp only [Bool.and_eq_true, decide_eq_true_eq] at hs
    obtain ⟨rfl, h2⟩ := hs
    obtain ⟨e1, e2⟩ := so_vs_at fs tp h2
    simp only [sg_cell]
    have e : fs = tp.mapIdx (fun k v => sg_fd (so_S h) a k v) := by
      apply List.ext_getElem?
      intro k
      rw [List.getElem?_mapIdx]
      rcases Nat.lt_or_ge k fs.length with q | q
      · have q2 : k < tp.length := by omega
        have g1 : fs[k]? = some fs[k] := List.getElem?_eq_getElem q
        have g2 : tp[k]? = some tp[k] := List.getElem?_eq_getElem q2
        rw [g1, g2, Option.map_some]
        exact congrArg some (so_fld ha g1 (e2 k _ _ g1 g2))
      · rw [List.getElem?_eq_none q, List.getElem?_eq_none (by omega)]
        rfl
    rw [← e]
theorem so_H {h : am_H} {Sh : List sg_Sh} (hs : so_all h Sh = true) : h = sg_H Sh (so_S h) := by
  obtain ⟨e1, e2⟩ := so_all_at h Sh hs
  apply List.ext_getElem?
  intro a
  unfold sg_H
  rw [List.getElem?_mapIdx]
  rcases Nat.lt_or_ge a h.length with q | q
  · have q2 : a < Sh.length := by omega
    have g1 : h[a]? = some h[a] := List.getElem?_eq_getElem q
    have g2 : Sh[a]? = some Sh[a] := List.getElem?_eq_getElem q2
    rw [g1, g2, Option.map_some]
    exact congrArg some (so_cell g1 (e2 a _ _ g1 g2))
  · rw [List.getElem?_eq_none q, List.getElem?_eq_none (by omega)]
    rfl
/-- the room of a state's cells -/
def so_z1 (s : sg_Sh) : Nat := match s with
  | .inl (_, n) => n
  | .inr (_, tp) => tp.length
theorem so_sz (Sh : List sg_Sh) (σ : sg_S) : am_sz (sg_H Sh σ) = (Sh.map so_z1).sum := by
  unfold am_sz sg_H
  congr 1
  apply List.ext_getElem?
  intro a
  rw [List.getElem?_map, List.getElem?_map, List.getElem?_mapIdx]
  cases Sh[a]? with
  | none => rfl
  | some s =>
    simp only [Option.map_some]
    congr 1
    rcases s with ⟨t, n⟩ | ⟨ci, tp⟩
    · simp only [sg_cell, so_z1]
      by_cases c : t = 2
      · rw [if_pos c]; rfl
      · rw [if_neg c]; rfl
    · simp only [sg_cell, so_z1, am_sz1, List.length_mapIdx]
theorem so_len0 : am_Sh0.length = 152 := by decide +kernel
theorem so_sz0 : (am_Sh0.map so_z1).sum = 855540 := by decide +kernel
def am_rA (z : Value) : Option (Option Value × am_H) := am_ex (am_E0 z none) am_T0 3000 40 1 0 (lv_args 0 [.ref 0]) [] [.inr (.inr (10, am_df0.getD 10 []))]
def am_hA (z : Value) : am_H := ((am_rA z).getD (none, [])).2
def am_rB (z : Value) : Option (Option Value × am_H) := am_ex (am_E0 z none) am_T0 3000 40 208 0 (lv_args 0 [.ref 88]) [] (am_hA z ++ [.inr (.inr (11, am_df0.getD 11 []))])
def am_hB (z : Value) : am_H := ((am_rB z).getD (none, [])).2
def so_rw : List (Nat × Int64) := [(0, 6579558), (1, 7103860), (2, 26990), (3, 26982), (4, 1952998766), (5, 1701606245), (6, 1768911969), (7, 1684632436), (8, 7566701), (9, 7168376), (10, 7170414), (11, 1935892846), (12, 7497078), (13, 6513012), (14, 1718378868), (15, 1885430635), (16, 1885696621), (17, 1885434484)]
def am_chk (z : Value) : Bool := decide ((am_rA z).map (fun r => r.1) = some none) && decide ((am_hA z).length = 88) && decide ((am_rB z).map (fun r => r.1) = some none) && so_all (am_hB z) am_Sh0 && decide (so_c (am_hB z) 0 8 = 0) && decide (so_c (am_hB z) 0 10 = 0) && decide (so_c (am_hB z) 88 2 = 0) && decide (so_c (am_hB z) 88 28 = 0) && decide (so_c (am_hB z) 88 52 = 0) && decide (so_c (am_hB z) 88 82 = 0) && decide (so_c (am_hB z) 88 76 = 0) && decide (so_c (am_hB z) 88 77 = 0) && decide (so_c (am_hB z) 0 11 = 0) && decide (so_c (am_hB z) 0 12 = 0) && decide (so_c (am_hB z) 45 11 = 0) && decide (so_c (am_hB z) 61 11 = 0) && decide (so_c (am_hB z) 88 51 = 0) && decide (so_c (am_hB z) 88 81 = 0) && so_rw.all (fun q => decide (so_l (am_hB z) 37 (q.1 : Int) = q.2))
theorem am_chk_n : am_chk .null = true := by decide +kernel
theorem am_chk_r : am_chk (.retAddr 5000) = true := by decide +kernel
/-- behind both constructors the law's state holds -/
theorem am_chk_of {z : Value} (h : am_chk z = true) : (∃ r, am_rA z = some r ∧ r.1 = none ∧ am_hA z = r.2) ∧ (am_hA z).length = 88 ∧ (∃ r, am_rB z = some r ∧ r.1 = none ∧ am_hB z = r.2) ∧ ∃ σ, am_hB z = sg_H am_Sh0 σ ∧ lwM σ := by
  simp only [am_chk, Bool.and_eq_true, decide_eq_true_eq] at h
  obtain ⟨⟨⟨⟨⟨⟨⟨⟨⟨⟨⟨⟨⟨⟨⟨⟨⟨⟨h1, h2⟩, h3⟩, h4⟩, c1⟩, c2⟩, c3⟩, c4⟩, c5⟩, c6⟩, c7⟩, c8⟩, c9⟩, c10⟩, c11⟩, c12⟩, c13⟩, c14⟩, h5⟩ := h
  refine ⟨?_, h2, ?_, so_S (am_hB z), so_H h4, ?_⟩
  · unfold am_hA
    cases hr : am_rA z with
    | none => rw [hr] at h1; cases h1
    | some r =>
      rw [hr] at h1
      exact ⟨r, rfl, Option.some.inj h1, rfl⟩
  · unfold am_hB
    cases hr : am_rB z with
    | none => rw [hr] at h3; cases h3
    | some r =>
      rw [hr] at h3
      exact ⟨r, rfl, Option.some.inj h3, rfl⟩
  · generalize am_hB z = hB at *
    have g : ∀ a k, so_c hB a k = 0 → sg_g (so_S hB) a k = 0 := fun a k e => by
      show (so_c hB a k).toInt = 0
      rw [e]
      rfl
    have w : ∀ (i : Nat) (k : Nat) (v : Int64), so_rw[i]? = some (k, v) → sg_gl (so_S hB) 37 (k : Int) = v.toInt := fun i k v e => by
      have := of_decide_eq_true (List.all_eq_true.mp h5 _ (List.mem_of_getElem? e))
      show (so_l hB 37 (k : Int)).toInt = v.toInt
      rw [this]
    have d1 := g 0 8 c1
    have d2 := g 0 10 c2
    have d3 := g 88 2 c3
    have d4 := g 88 28 c4
    have d5 := g 88 52 c5
    have d6 := g 88 82 c6
    have d7 := g 88 76 c7
    have d8 := g 88 77 c8
    have d9 := g 0 11 c9
    have d10 := g 0 12 c10
    have d11 := rm_0 (g 45 11 c11) (g 61 11 c12) (g 88 51 c13) (g 88 81 c14)
    refine ⟨?_, ⟨⟨by rw [d2, d4], Or.inl d4⟩, ⟨by rw [d9, d5], by rw [d10, d6]⟩, Or.inl d4⟩, d11⟩
    refine ⟨by omega, by omega, fun p p0 p1 => by omega, ⟨w 0 0 _ rfl, w 1 1 _ rfl, w 2 2 _ rfl, w 3 3 _ rfl, w 4 4 _ rfl, w 5 5 _ rfl, w 6 6 _ rfl, w 7 7 _ rfl, w 8 8 _ rfl, w 9 9 _ rfl, w 10 10 _ rfl, w 11 11 _ rfl, w 12 12 _ rfl, w 13 13 _ rfl, w 14 14 _ rfl, w 15 15 _ rfl, w 16 16 _ rfl, w 17 17 _ rfl⟩, Or.inl d2, Or.inl d4, by omega, by omega, by omega, by omega⟩
