/-! THE CONSTRUCTORS, and the calls without arguments, worked out. -/
def am_rA (z : Value) : Option (Option Value × am_H) := am_ex (am_E0 z none) am_T0 3000 40 1 0 (lv_args 0 [.ref 0]) [] [.inr (.inr (10, am_df0.getD 10 []))]
def am_hA (z : Value) : am_H := ((am_rA z).getD (none, [])).2
def am_rB (z : Value) : Option (Option Value × am_H) := am_ex (am_E0 z none) am_T0 3000 40 44 0 (lv_args 0 [.ref 88]) [] (am_hA z ++ [.inr (.inr (11, am_df0.getD 11 []))])
def am_hB (z : Value) : am_H := ((am_rB z).getD (none, [])).2
def am_obj (h : am_H) (a : Nat) : Option (Nat × List Value) := match h[a]? with
  | some (.inr (.inr q)) => some q
  | _ => none
def am_arr (h : am_H) (a : Nat) : Option (Nat × Nat) := match h[a]? with
  | some (.inl (t, n, _)) => some (t, n)
  | _ => none
theorem am_obj_eq {h : am_H} {a : Nat} {q : Nat × List Value} (e : am_obj h a = some q) : h[a]? = some (.inr (.inr q)) := by
  unfold am_obj at e
  split at e
  · rename_i q' hq
    cases e
    exact hq
  · cases e
theorem am_arr_eq {h : am_H} {a t n : Nat} (e : am_arr h a = some (t, n)) : ∃ f, h[a]? = some (.inl (t, n, f)) := by
  unfold am_arr at e
  split at e
  · rename_i t' n' f hq
    cases e
    exact ⟨f, hq⟩
  · cases e
def am_pair (z : Value) (q : Nat × List Value × Nat × List Value × Int32) : Bool := match am_ex (am_E0 z none) am_T0 3000 40 q.1 0 (lv_args 0 q.2.1) [] (am_hB z) with
  | none => false
  | some r => match am_ex (am_E0 z none) am_T0 3000 40 q.2.2.1 0 (lv_args 0 q.2.2.2.1) [] r.2 with
    | none => false
    | some s => decide (r.1 = some (.int q.2.2.2.2)) && decide (s.1 = some (.int q.2.2.2.2)) && decide (s.2.length = 152) && decide (am_sz s.2 = 855540) && decide ((am_obj r.2 88).map (fun q => q.1) = some 11)
def am_pairs : List (Nat × List Value × Nat × List Value × Int32) := [(15, [.ref 0], 62, [.ref 88], -100), (8, [.ref 0], 50, [.ref 88], 0), (12, [.ref 0], 59, [.ref 88], -4), (10, [.ref 0], 52, [.ref 88], -4), (16, [.ref 0, .int 1], 66, [.ref 88, .int 1], -4), (16, [.ref 0, .int 0], 66, [.ref 88, .int 0], -4), (3, [.ref 0], 46, [.ref 88], -4)]
def am_chk (z : Value) : Bool := decide ((am_rA z).map (fun r => r.1) = some none) && decide ((am_hA z).length = 88) && decide ((am_rB z).map (fun r => r.1) = some none) && decide (am_obj (am_hB z) 0 = some (10, fX0)) && decide (am_obj (am_hB z) 45 = some (5, fN0)) && decide (am_obj (am_hB z) 61 = some (2, fF0)) && decide (am_obj (am_hB z) 88 = some (11, fM0)) && decide (am_arr (am_hB z) 1 = some (1, 1200)) && decide (am_arr (am_hB z) 89 = some (0, 1200)) && decide ((am_hB z).length = 152) && decide (am_sz (am_hB z) = 855540) && am_pairs.all (am_pair z)
theorem am_chk_n : am_chk .null = true := by decide +kernel
theorem am_chk_r : am_chk (.retAddr 5000) = true := by decide +kernel
