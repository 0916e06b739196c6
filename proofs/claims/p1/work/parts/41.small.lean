/-! SINGLE METHODS on a new object: the class at the cell 0, the reference at the cell 88. -/
def fX0 : List Value := [.ref 1, .ref 2, .ref 19, .ref 28, .ref 35, .ref 38, .ref 45, .ref 61, .int 0, .int 0, .int 0, .int 0, .int 0]
def fN0 : List Value := [.ref 2, .ref 19, .ref 28, .ref 49, .ref 46, .ref 48, .ref 47, .int 0, .int 0, .int 0, .int 0, .int 0, .ref 53, .ref 54, .ref 55, .ref 56, .ref 57, .ref 58, .ref 59, .ref 60, .int 0, .int 0, .int 0, .int 0]
def fF0 : List Value := [.ref 2, .ref 19, .ref 28, .ref 65, .ref 62, .ref 64, .ref 63, .int 0, .int 0, .int 0, .int 0, .int 0, .ref 69, .ref 70, .ref 71, .ref 72, .ref 73, .ref 74, .ref 75, .ref 76, .ref 77, .int 0, .int 0, .int 0, .int 0]
def fM0 : List Value := [.int 0, .ref 89, .int 0, .int 0, .ref 90, .ref 91, .ref 92, .int 0, .int 0, .ref 93, .ref 94, .ref 95, .ref 96, .ref 97, .ref 98, .ref 99, .ref 100, .ref 101, .ref 102, .int 0, .ref 103, .ref 104, .ref 105, .ref 106, .ref 107, .ref 108, .ref 109, .int 0, .int 0, .int 0, .int 0, .int 0, .ref 110, .ref 111, .int 0, .ref 112, .int 0, .int 0, .ref 113, .ref 114, .ref 115, .ref 116, .int 0, .ref 117, .ref 118, .int 0, .int 0, .ref 119, .ref 120, .int 0, .ref 121, .int 0, .int 0, .int 0, .int 0, .int 0, .int 0, .ref 122, .ref 123, .ref 124, .int 0, .ref 125, .int 0, .ref 126, .ref 127, .ref 128, .ref 129, .ref 130, .ref 131, .ref 132, .int 0, .ref 133, .ref 134, .int 0, .ref 135, .ref 136, .int 0, .int 0, .int 0, .ref 137, .ref 138, .int 0, .int 0, .int 0, .int 0, .int 0, .int 0, .int 0, .ref 139, .ref 140, .ref 141, .int 0, .ref 142, .int 0, .ref 143, .ref 144, .ref 145, .ref 146, .ref 147, .int 0, .ref 148, .ref 149, .int 0, .int 0, .ref 150, .ref 151]
def am_new0 (h : am_H) : Prop := h[0]? = some (.inr (.inr (10, fX0))) ∧ h[45]? = some (.inr (.inr (5, fN0))) ∧ h[61]? = some (.inr (.inr (2, fF0))) ∧ h[88]? = some (.inr (.inr (11, fM0)))
theorem am_set_id {α : Type} {l : List α} {a : Nat} {x : α} (h : l[a]? = some x) : l.set a x = l := by
  induction l generalizing a with
  | nil => cases h
  | cons y r ih =>
    cases a with
    | zero => rw [List.getElem?_cons_zero] at h; cases h; rfl
    | succ a => rw [List.getElem?_cons_succ] at h; rw [List.set_cons_succ, ih h]
section PX
variable {E : am_E} {T : List am_M} {d j pc : Nat} {ls : am_L} {st : List Value} {h : am_H} {v : Option Value} {h' : am_H} {M : am_M} {q : am_Q}
theorem am_s0 {pc' : Nat} {ls' : am_L} {st' : List Value} (hM : T[j]? = some M) (hq : am_find M.2.2.2.2 pc = some q) (hso : am_sort q.2.1 = 0) (hs : am_step E pc q.2.1 q.2.2.1 q.2.2.2 ls st h = some (pc', ls', st')) (k : am_run E T d j pc' ls' st' h v h') : am_run E T d j pc ls st h v h' := am_r0 (S := (pc', ls', st')) hM hq hso hs k
/-- a field is written that holds that already -/
theorem am_rI {a ci k tag : Nat} {fs : List Value} {w : Value} {idx : Nat} {num : Int} {lk : am_K} {dat : List Nat} (hM : T[j]? = some M) (hq : am_find M.2.2.2.2 pc = some (pc, .putfield idx, num, lk)) (hh : h[a]? = some (.inr (.inr (ci, fs)))) (hk : am_key lk ci = some (k :: tag :: dat)) (ht : am_fit tag w = true) (hf : fs[k]? = some w) (kk : am_run E T d j (pc + 3) ls st h v h') : am_run E T d j pc ls (w :: .ref a :: st) h v h' := by
  refine am_rW hM hq hh hk ht (List.getElem?_eq_some_iff.mp hf).1 ?_
  rw [am_set_id hf, am_set_id hh]
  exact kk
end PX
theorem am_ct {p : Prop} [Decidable p] (h : p) : decide p = true := decide_eq_true h
theorem am_cf {p : Prop} [Decidable p] (h : ¬ p) : decide p = false := decide_eq_false h
section PM
variable {E : am_E} {d : Nat} {h : am_H}
theorem pm_in (a b c : Int64) : am_run E am_T0 d 55 0 [(0, .long a), (2, .long b), (4, .long c)] [] h (some (.int (if b ≤ a ∧ a ≤ c then 1 else 0))) h := by
  by_cases h1 : a < b
  · rw [if_neg (fun q => Int64.not_le.mpr h1 q.1)]
    refine am_s0 (M := tm_55) rfl rfl rfl rfl ?_
    refine am_s0 (M := tm_55) rfl rfl rfl rfl ?_
    refine am_s0 (M := tm_55) rfl rfl rfl rfl ?_
    refine am_rT (M := tm_55) (tgt := 17) rfl rfl (am_ct ((lg_cmp_lt a b).mpr h1)) rfl ?_
    refine am_s0 (M := tm_55) rfl rfl rfl rfl ?_
    exact am_r1 (M := tm_55) rfl rfl rfl (rfl)
  · by_cases h2 : c < a
    · rw [if_neg (fun q => Int64.not_le.mpr h2 q.2)]
      refine am_s0 (M := tm_55) rfl rfl rfl rfl ?_
      refine am_s0 (M := tm_55) rfl rfl rfl rfl ?_
      refine am_s0 (M := tm_55) rfl rfl rfl rfl ?_
      refine am_rF (M := tm_55) (tgt := 17) rfl rfl (am_cf (fun q => h1 ((lg_cmp_lt a b).mp q))) rfl ?_
      refine am_s0 (M := tm_55) rfl rfl rfl rfl ?_
      refine am_s0 (M := tm_55) rfl rfl rfl rfl ?_
      refine am_s0 (M := tm_55) rfl rfl rfl rfl ?_
      refine am_rT (M := tm_55) (tgt := 17) rfl rfl (am_ct ((lg_cmp_gt a c).mpr h2)) rfl ?_
      refine am_s0 (M := tm_55) rfl rfl rfl rfl ?_
      exact am_r1 (M := tm_55) rfl rfl rfl (rfl)
    · rw [if_pos ⟨Int64.not_lt.mp h1, Int64.not_lt.mp h2⟩]
      refine am_s0 (M := tm_55) rfl rfl rfl rfl ?_
      refine am_s0 (M := tm_55) rfl rfl rfl rfl ?_
      refine am_s0 (M := tm_55) rfl rfl rfl rfl ?_
      refine am_rF (M := tm_55) (tgt := 17) rfl rfl (am_cf (fun q => h1 ((lg_cmp_lt a b).mp q))) rfl ?_
      refine am_s0 (M := tm_55) rfl rfl rfl rfl ?_
      refine am_s0 (M := tm_55) rfl rfl rfl rfl ?_
      refine am_s0 (M := tm_55) rfl rfl rfl rfl ?_
      refine am_rF (M := tm_55) (tgt := 17) rfl rfl (am_cf (fun q => h2 ((lg_cmp_gt a c).mp q))) rfl ?_
      refine am_s0 (M := tm_55) rfl rfl rfl rfl ?_
      refine am_rJ (M := tm_55) (tgt := 18) rfl rfl rfl ?_
      exact am_r1 (M := tm_55) rfl rfl rfl (rfl)
theorem p_l0 (n : Int32) : (0 : Int64) ≤ n.toInt64 ↔ 0 ≤ n := by
  rw [Int64.le_iff_toInt_le, Int32.le_iff_toInt_le, Int32.toInt_toInt64]
  rfl
theorem p_lc (n : Int32) (c : Int64) (k : Int32) (hk : c.toInt = k.toInt) : n.toInt64 ≤ c ↔ n ≤ k := by
  rw [Int64.le_iff_toInt_le, Int32.le_iff_toInt_le, Int32.toInt_toInt64, hk]
theorem px_cut (F : am_new0 h) (n : Int32) : am_run E am_T0 d 7 0 [(0, .ref 0), (1, .int n)] [] h (some (.int (if n = 0 then 0 else -2))) h := by
  by_cases h1 : n < 0
  · rw [if_neg (fun q => by rw [q] at h1; exact absurd h1 (by decide))]
    refine am_s0 (M := tm_7) rfl rfl rfl rfl ?_
    refine am_rT (M := tm_7) (tgt := 12) rfl rfl (am_ct h1) rfl ?_
    refine am_s0 (M := tm_7) rfl rfl rfl rfl ?_
    exact am_r1 (M := tm_7) rfl rfl rfl (rfl)
  · by_cases h2 : n ≤ 0
    · have h3 : n = 0 := Int32.le_antisymm h2 (Int32.not_lt.mp h1)
      subst h3
      rw [if_pos rfl]
      refine am_s0 (M := tm_7) rfl rfl rfl rfl ?_
      refine am_rF (M := tm_7) (tgt := 12) rfl rfl (by decide) rfl ?_
      refine am_s0 (M := tm_7) rfl rfl rfl rfl ?_
      refine am_s0 (M := tm_7) rfl rfl rfl rfl ?_
      refine am_rG (M := tm_7) rfl rfl F.1 rfl rfl ?_
      refine am_rT2 (M := tm_7) (tgt := 15) rfl rfl (by decide) rfl ?_
      refine am_s0 (M := tm_7) rfl rfl rfl rfl ?_
      refine am_rG (M := tm_7) rfl rfl F.1 rfl rfl ?_
      refine am_s0 (M := tm_7) rfl rfl rfl rfl ?_
      refine am_s0 (M := tm_7) rfl rfl rfl rfl ?_
      refine am_s0 (M := tm_7) rfl rfl rfl rfl ?_
      refine am_s0 (M := tm_7) rfl rfl rfl rfl ?_
      refine am_s0 (M := tm_7) rfl rfl rfl rfl ?_
      refine am_rI (M := tm_7) rfl rfl F.1 rfl rfl rfl ?_
      refine am_s0 (M := tm_7) rfl rfl rfl rfl ?_
      exact am_r1 (M := tm_7) rfl rfl rfl (rfl)
    · rw [if_neg (fun q => h2 (by rw [q]; exact Int32.le_refl 0))]
      refine am_s0 (M := tm_7) rfl rfl rfl rfl ?_
      refine am_rF (M := tm_7) (tgt := 12) rfl rfl (am_cf h1) rfl ?_
      refine am_s0 (M := tm_7) rfl rfl rfl rfl ?_
      refine am_s0 (M := tm_7) rfl rfl rfl rfl ?_
      refine am_rG (M := tm_7) rfl rfl F.1 rfl rfl ?_
      refine am_rF2 (M := tm_7) (tgt := 15) rfl rfl (am_cf h2) rfl ?_
      refine am_s0 (M := tm_7) rfl rfl rfl rfl ?_
      exact am_r1 (M := tm_7) rfl rfl rfl (rfl)
theorem pm_cut (F : am_new0 h) (n : Int32) : am_run E am_T0 (d + 1) 48 0 [(0, .ref 88), (1, .int n)] [] h (some (.int (if n = 0 then 0 else -2))) h := by
  refine am_s0 (M := tm_48) rfl rfl rfl rfl ?_
  refine am_s0 (M := tm_48) rfl rfl rfl rfl ?_
  refine am_rI (M := tm_48) rfl rfl F.2.2.2 rfl rfl rfl ?_
  refine am_s0 (M := tm_48) rfl rfl rfl rfl ?_
  refine am_s0 (M := tm_48) rfl rfl rfl rfl ?_
  refine am_s0 (M := tm_48) rfl rfl rfl rfl ?_
  refine am_s0 (M := tm_48) rfl rfl rfl rfl ?_
  refine am_rG (M := tm_48) rfl rfl F.2.2.2 rfl rfl ?_
  refine am_s0 (M := tm_48) rfl rfl rfl rfl ?_
  refine am_rC (M := tm_48) rfl rfl rfl rfl rfl rfl rfl ⟨Nat.le_of_ble_eq_true rfl, Nat.le_of_ble_eq_true rfl, Nat.le_of_ble_eq_true rfl⟩ (pm_in n.toInt64 0 0) ?_
  by_cases h1 : n = 0
  · subst h1
    rw [if_pos rfl, if_pos ⟨by decide, by decide⟩]
    refine am_rT (M := tm_48) (tgt := 22) rfl rfl (by decide) rfl ?_
    refine am_s0 (M := tm_48) rfl rfl rfl rfl ?_
    refine am_rG (M := tm_48) rfl rfl F.2.2.2 rfl rfl ?_
    refine am_s0 (M := tm_48) rfl rfl rfl rfl ?_
    refine am_s0 (M := tm_48) rfl rfl rfl rfl ?_
    refine am_s0 (M := tm_48) rfl rfl rfl rfl ?_
    refine am_s0 (M := tm_48) rfl rfl rfl rfl ?_
    refine am_s0 (M := tm_48) rfl rfl rfl rfl ?_
    refine am_rI (M := tm_48) rfl rfl F.2.2.2 rfl rfl rfl ?_
    refine am_s0 (M := tm_48) rfl rfl rfl rfl ?_
    exact am_r1 (M := tm_48) rfl rfl rfl (rfl)
  · rw [if_neg h1, if_neg (fun q => h1 (Int32.le_antisymm ((p_lc n 0 0 rfl).mp q.2) ((p_l0 n).mp q.1)))]
    refine am_rF (M := tm_48) (tgt := 22) rfl rfl (by decide) rfl ?_
    refine am_s0 (M := tm_48) rfl rfl rfl rfl ?_
    exact am_r1 (M := tm_48) rfl rfl rfl (rfl)
def p_ab (n : Int32) : Int32 := if 0 ≤ n ∧ n ≤ 3 then (if n = 3 then 0 else -4) else -2
theorem px_about (F : am_new0 h) (n : Int32) : am_run E am_T0 d 2 0 [(0, .ref 0), (1, .int n)] [] h (some (.int (p_ab n))) h := by
  unfold p_ab
  by_cases h1 : n < 0
  · rw [if_neg (fun q => Int32.not_le.mpr h1 q.1)]
    refine am_s0 (M := tm_2) rfl rfl rfl rfl ?_
    refine am_rT (M := tm_2) (tgt := 9) rfl rfl (am_ct h1) rfl ?_
    refine am_s0 (M := tm_2) rfl rfl rfl rfl ?_
    exact am_r1 (M := tm_2) rfl rfl rfl (rfl)
  · by_cases h2 : n ≤ 3
    · rw [if_pos ⟨Int32.not_lt.mp h1, h2⟩]
      by_cases h3 : n = 3
      · rw [if_pos h3]
        refine am_s0 (M := tm_2) rfl rfl rfl rfl ?_
        refine am_rF (M := tm_2) (tgt := 9) rfl rfl (am_cf h1) rfl ?_
        refine am_s0 (M := tm_2) rfl rfl rfl rfl ?_
        refine am_s0 (M := tm_2) rfl rfl rfl rfl ?_
        refine am_rT2 (M := tm_2) (tgt := 12) rfl rfl (am_ct h2) rfl ?_
        refine am_s0 (M := tm_2) rfl rfl rfl rfl ?_
        refine am_s0 (M := tm_2) rfl rfl rfl rfl ?_
        refine am_rF2 (M := tm_2) (tgt := 22) rfl rfl (am_cf (fun q => q h3)) rfl ?_
        refine am_s0 (M := tm_2) rfl rfl rfl rfl ?_
        refine am_rG (M := tm_2) rfl rfl F.1 rfl rfl ?_
        exact am_r1 (M := tm_2) rfl rfl rfl (rfl)
      · rw [if_neg h3]
        refine am_s0 (M := tm_2) rfl rfl rfl rfl ?_
        refine am_rF (M := tm_2) (tgt := 9) rfl rfl (am_cf h1) rfl ?_
        refine am_s0 (M := tm_2) rfl rfl rfl rfl ?_
        refine am_s0 (M := tm_2) rfl rfl rfl rfl ?_
        refine am_rT2 (M := tm_2) (tgt := 12) rfl rfl (am_ct h2) rfl ?_
        refine am_s0 (M := tm_2) rfl rfl rfl rfl ?_
        refine am_s0 (M := tm_2) rfl rfl rfl rfl ?_
        refine am_rT2 (M := tm_2) (tgt := 22) rfl rfl (am_ct h3) rfl ?_
        refine am_s0 (M := tm_2) rfl rfl rfl rfl ?_
        refine am_rG (M := tm_2) rfl rfl F.1 rfl rfl ?_
        refine am_rF (M := tm_2) (tgt := 32) rfl rfl (by decide) rfl ?_
        refine am_s0 (M := tm_2) rfl rfl rfl rfl ?_
        exact am_r1 (M := tm_2) rfl rfl rfl (rfl)
    · rw [if_neg (fun q => h2 q.2)]
      refine am_s0 (M := tm_2) rfl rfl rfl rfl ?_
      refine am_rF (M := tm_2) (tgt := 9) rfl rfl (am_cf h1) rfl ?_
      refine am_s0 (M := tm_2) rfl rfl rfl rfl ?_
      refine am_s0 (M := tm_2) rfl rfl rfl rfl ?_
      refine am_rF2 (M := tm_2) (tgt := 12) rfl rfl (am_cf h2) rfl ?_
      refine am_s0 (M := tm_2) rfl rfl rfl rfl ?_
      exact am_r1 (M := tm_2) rfl rfl rfl (rfl)
theorem pm_about (F : am_new0 h) (n : Int32) : am_run E am_T0 (d + 1) 45 0 [(0, .ref 88), (1, .int n)] [] h (some (.int (p_ab n))) h := by
  unfold p_ab
  refine am_s0 (M := tm_45) rfl rfl rfl rfl ?_
  refine am_s0 (M := tm_45) rfl rfl rfl rfl ?_
  refine am_rI (M := tm_45) rfl rfl F.2.2.2 rfl rfl rfl ?_
  refine am_s0 (M := tm_45) rfl rfl rfl rfl ?_
  refine am_s0 (M := tm_45) rfl rfl rfl rfl ?_
  refine am_s0 (M := tm_45) rfl rfl rfl rfl ?_
  refine am_s0 (M := tm_45) rfl rfl rfl rfl ?_
  refine am_rC (M := tm_45) rfl rfl rfl rfl rfl rfl rfl ⟨Nat.le_of_ble_eq_true rfl, Nat.le_of_ble_eq_true rfl, Nat.le_of_ble_eq_true rfl⟩ (pm_in n.toInt64 0 3) ?_
  have hi : ((0 : Int64) ≤ n.toInt64 ∧ n.toInt64 ≤ 3) ↔ (0 ≤ n ∧ n ≤ 3) := and_congr (p_l0 n) (p_lc n 3 3 rfl)
  by_cases h1 : 0 ≤ n ∧ n ≤ 3
  · rw [if_pos (hi.mpr h1), if_pos h1]
    by_cases h3 : n = 3
    · rw [if_pos h3]
      refine am_rT (M := tm_45) (tgt := 20) rfl rfl (by decide) rfl ?_
      refine am_s0 (M := tm_45) rfl rfl rfl rfl ?_
      refine am_s0 (M := tm_45) rfl rfl rfl rfl ?_
      refine am_rF2 (M := tm_45) (tgt := 32) rfl rfl (am_cf (fun q => q h3)) rfl ?_
      refine am_s0 (M := tm_45) rfl rfl rfl rfl ?_
      refine am_rG (M := tm_45) rfl rfl F.2.2.2 rfl rfl ?_
      refine am_rJ (M := tm_45) (tgt := 76) rfl rfl rfl ?_
      exact am_r1 (M := tm_45) rfl rfl rfl (rfl)
    · rw [if_neg h3]
      refine am_rT (M := tm_45) (tgt := 20) rfl rfl (by decide) rfl ?_
      refine am_s0 (M := tm_45) rfl rfl rfl rfl ?_
      refine am_s0 (M := tm_45) rfl rfl rfl rfl ?_
      refine am_rT2 (M := tm_45) (tgt := 32) rfl rfl (am_ct h3) rfl ?_
      refine am_s0 (M := tm_45) rfl rfl rfl rfl ?_
      refine am_rG (M := tm_45) rfl rfl F.2.2.2 rfl rfl ?_
      refine am_rF (M := tm_45) (tgt := 44) rfl rfl (by decide) rfl ?_
      refine am_s0 (M := tm_45) rfl rfl rfl rfl ?_
      refine am_rJ (M := tm_45) (tgt := 76) rfl rfl rfl ?_
      exact am_r1 (M := tm_45) rfl rfl rfl (rfl)
  · rw [if_neg (fun q => h1 (hi.mp q)), if_neg h1]
    refine am_rF (M := tm_45) (tgt := 20) rfl rfl (by decide) rfl ?_
    refine am_s0 (M := tm_45) rfl rfl rfl rfl ?_
    exact am_r1 (M := tm_45) rfl rfl rfl (rfl)
theorem px_node (F : am_new0 h) (n m : Int32) : am_run E am_T0 d 13 0 [(0, .ref 0), (1, .int n), (2, .int m)] [] h (some (.int (-4))) h := by
  refine am_s0 (M := tm_13) rfl rfl rfl rfl ?_
  refine am_rG (M := tm_13) rfl rfl F.1 rfl rfl ?_
  refine am_rF (M := tm_13) (tgt := 10) rfl rfl (by decide) rfl ?_
  refine am_s0 (M := tm_13) rfl rfl rfl rfl ?_
  exact am_r1 (M := tm_13) rfl rfl rfl (rfl)
theorem pm_node (F : am_new0 h) (n m : Int32) : am_run E am_T0 d 60 0 [(0, .ref 88), (1, .int n), (2, .int m)] [] h (some (.int (-4))) h := by
  refine am_s0 (M := tm_60) rfl rfl rfl rfl ?_
  refine am_s0 (M := tm_60) rfl rfl rfl rfl ?_
  refine am_rI (M := tm_60) rfl rfl F.2.2.2 rfl rfl rfl ?_
  refine am_s0 (M := tm_60) rfl rfl rfl rfl ?_
  refine am_rG (M := tm_60) rfl rfl F.2.2.2 rfl rfl ?_
  refine am_rF (M := tm_60) (tgt := 15) rfl rfl (by decide) rfl ?_
  refine am_s0 (M := tm_60) rfl rfl rfl rfl ?_
  exact am_r1 (M := tm_60) rfl rfl rfl (rfl)
def p_me (n : Int32) : Int32 := if 0 ≤ n ∧ n ≤ 4 then -4 else -2
theorem px_meter (F : am_new0 h) (n : Int32) : am_run E am_T0 d 11 0 [(0, .ref 0), (1, .int n)] [] h (some (.int (p_me n))) h := by
  unfold p_me
  by_cases h1 : n < 0
  · rw [if_neg (fun q => Int32.not_le.mpr h1 q.1)]
    refine am_s0 (M := tm_11) rfl rfl rfl rfl ?_
    refine am_rT (M := tm_11) (tgt := 9) rfl rfl (am_ct h1) rfl ?_
    refine am_s0 (M := tm_11) rfl rfl rfl rfl ?_
    exact am_r1 (M := tm_11) rfl rfl rfl (rfl)
  · by_cases h2 : n ≤ 4
    · rw [if_pos ⟨Int32.not_lt.mp h1, h2⟩]
      by_cases h3 : 2 ≤ n
      · refine am_s0 (M := tm_11) rfl rfl rfl rfl ?_
        refine am_rF (M := tm_11) (tgt := 9) rfl rfl (am_cf h1) rfl ?_
        refine am_s0 (M := tm_11) rfl rfl rfl rfl ?_
        refine am_s0 (M := tm_11) rfl rfl rfl rfl ?_
        refine am_rT2 (M := tm_11) (tgt := 12) rfl rfl (am_ct h2) rfl ?_
        refine am_s0 (M := tm_11) rfl rfl rfl rfl ?_
        refine am_s0 (M := tm_11) rfl rfl rfl rfl ?_
        refine am_rT2 (M := tm_11) (tgt := 78) rfl rfl (am_ct h3) rfl ?_
        refine am_s0 (M := tm_11) rfl rfl rfl rfl ?_
        refine am_rG (M := tm_11) rfl rfl F.1 rfl rfl ?_
        refine am_rG (M := tm_11) rfl rfl F.2.2.1 rfl rfl ?_
        refine am_rF (M := tm_11) (tgt := 91) rfl rfl (by decide) rfl ?_
        refine am_s0 (M := tm_11) rfl rfl rfl rfl ?_
        exact am_r1 (M := tm_11) rfl rfl rfl (rfl)
      · refine am_s0 (M := tm_11) rfl rfl rfl rfl ?_
        refine am_rF (M := tm_11) (tgt := 9) rfl rfl (am_cf h1) rfl ?_
        refine am_s0 (M := tm_11) rfl rfl rfl rfl ?_
        refine am_s0 (M := tm_11) rfl rfl rfl rfl ?_
        refine am_rT2 (M := tm_11) (tgt := 12) rfl rfl (am_ct h2) rfl ?_
        refine am_s0 (M := tm_11) rfl rfl rfl rfl ?_
        refine am_s0 (M := tm_11) rfl rfl rfl rfl ?_
        refine am_rF2 (M := tm_11) (tgt := 78) rfl rfl (am_cf h3) rfl ?_
        refine am_s0 (M := tm_11) rfl rfl rfl rfl ?_
        refine am_rG (M := tm_11) rfl rfl F.1 rfl rfl ?_
        refine am_rG (M := tm_11) rfl rfl F.2.1 rfl rfl ?_
        refine am_rT (M := tm_11) (tgt := 45) rfl rfl (by decide) rfl ?_
        refine am_s0 (M := tm_11) rfl rfl rfl rfl ?_
        refine am_s0 (M := tm_11) rfl rfl rfl rfl ?_
        refine am_s0 (M := tm_11) rfl rfl rfl rfl ?_
        refine am_rF (M := tm_11) (tgt := 56) rfl rfl (by decide) rfl ?_
        refine am_s0 (M := tm_11) rfl rfl rfl rfl ?_
        refine am_rJ (M := tm_11) (tgt := 77) rfl rfl rfl ?_
        exact am_r1 (M := tm_11) rfl rfl rfl (rfl)
    · rw [if_neg (fun q => h2 q.2)]
      refine am_s0 (M := tm_11) rfl rfl rfl rfl ?_
      refine am_rF (M := tm_11) (tgt := 9) rfl rfl (am_cf h1) rfl ?_
      refine am_s0 (M := tm_11) rfl rfl rfl rfl ?_
      refine am_s0 (M := tm_11) rfl rfl rfl rfl ?_
      refine am_rF2 (M := tm_11) (tgt := 12) rfl rfl (am_cf h2) rfl ?_
      refine am_s0 (M := tm_11) rfl rfl rfl rfl ?_
      exact am_r1 (M := tm_11) rfl rfl rfl (rfl)
theorem pm_meter (F : am_new0 h) (n : Int32) : am_run E am_T0 (d + 1) 58 0 [(0, .ref 88), (1, .int n)] [] h (some (.int (p_me n))) h := by
  unfold p_me
  refine am_s0 (M := tm_58) rfl rfl rfl rfl ?_
  refine am_s0 (M := tm_58) rfl rfl rfl rfl ?_
  refine am_rI (M := tm_58) rfl rfl F.2.2.2 rfl rfl rfl ?_
  refine am_s0 (M := tm_58) rfl rfl rfl rfl ?_
  refine am_s0 (M := tm_58) rfl rfl rfl rfl ?_
  refine am_s0 (M := tm_58) rfl rfl rfl rfl ?_
  refine am_s0 (M := tm_58) rfl rfl rfl rfl ?_
  refine am_rC (M := tm_58) rfl rfl rfl rfl rfl rfl rfl ⟨Nat.le_of_ble_eq_true rfl, Nat.le_of_ble_eq_true rfl, Nat.le_of_ble_eq_true rfl⟩ (pm_in n.toInt64 0 4) ?_
  have hi : ((0 : Int64) ≤ n.toInt64 ∧ n.toInt64 ≤ 4) ↔ (0 ≤ n ∧ n ≤ 4) := and_congr (p_l0 n) (p_lc n 4 4 rfl)
  by_cases h1 : 0 ≤ n ∧ n ≤ 4
  · rw [if_pos (hi.mpr h1), if_pos h1]
    by_cases h3 : 2 ≤ n
    · refine am_rT (M := tm_58) (tgt := 20) rfl rfl (by decide) rfl ?_
      refine am_s0 (M := tm_58) rfl rfl rfl rfl ?_
      refine am_s0 (M := tm_58) rfl rfl rfl rfl ?_
      refine am_rT2 (M := tm_58) (tgt := 65) rfl rfl (am_ct h3) rfl ?_
      refine am_s0 (M := tm_58) rfl rfl rfl rfl ?_
      refine am_rG (M := tm_58) rfl rfl F.2.2.2 rfl rfl ?_
      refine am_rF (M := tm_58) (tgt := 77) rfl rfl (by decide) rfl ?_
      refine am_s0 (M := tm_58) rfl rfl rfl rfl ?_
      refine am_rJ (M := tm_58) (tgt := 105) rfl rfl rfl ?_
      exact am_r1 (M := tm_58) rfl rfl rfl (rfl)
    · refine am_rT (M := tm_58) (tgt := 20) rfl rfl (by decide) rfl ?_
      refine am_s0 (M := tm_58) rfl rfl rfl rfl ?_
      refine am_s0 (M := tm_58) rfl rfl rfl rfl ?_
      refine am_rF2 (M := tm_58) (tgt := 65) rfl rfl (am_cf h3) rfl ?_
      refine am_s0 (M := tm_58) rfl rfl rfl rfl ?_
      refine am_rG (M := tm_58) rfl rfl F.2.2.2 rfl rfl ?_
      refine am_rT (M := tm_58) (tgt := 44) rfl rfl (by decide) rfl ?_
      refine am_s0 (M := tm_58) rfl rfl rfl rfl ?_
      refine am_rJ (M := tm_58) (tgt := 64) rfl rfl rfl ?_
      exact am_r1 (M := tm_58) rfl rfl rfl (rfl)
  · rw [if_neg (fun q => h1 (hi.mp q)), if_neg h1]
    refine am_rF (M := tm_58) (tgt := 20) rfl rfl (by decide) rfl ?_
    refine am_s0 (M := tm_58) rfl rfl rfl rfl ?_
    exact am_r1 (M := tm_58) rfl rfl rfl (rfl)
theorem px_byteAt1 (F : am_new0 h) (n : Int32) : am_run E am_T0 d 5 0 [(0, .ref 0), (1, .int 1), (2, .int n)] [] h (some (.int (-4))) h := by
  refine am_s0 (M := tm_5) rfl rfl rfl rfl ?_
  refine am_rF (M := tm_5) (tgt := 11) rfl rfl (by decide) rfl ?_
  refine am_s0 (M := tm_5) rfl rfl rfl rfl ?_
  refine am_rG (M := tm_5) rfl rfl F.1 rfl rfl ?_
  refine am_rJ (M := tm_5) (tgt := 15) rfl rfl rfl ?_
  refine am_s0 (M := tm_5) rfl rfl rfl rfl ?_
  refine am_s0 (M := tm_5) rfl rfl rfl rfl ?_
  refine am_rG (M := tm_5) rfl rfl F.2.2.1 rfl rfl ?_
  refine am_rT (M := tm_5) (tgt := 30) rfl rfl (by decide) rfl ?_
  refine am_s0 (M := tm_5) rfl rfl rfl rfl ?_
  exact am_r1 (M := tm_5) rfl rfl rfl (rfl)
theorem px_byteAt0 (F : am_new0 h) (n : Int32) : am_run E am_T0 d 5 0 [(0, .ref 0), (1, .int 0), (2, .int n)] [] h (some (.int (-4))) h := by
  refine am_s0 (M := tm_5) rfl rfl rfl rfl ?_
  refine am_rT (M := tm_5) (tgt := 11) rfl rfl (by decide) rfl ?_
  refine am_s0 (M := tm_5) rfl rfl rfl rfl ?_
  refine am_rG (M := tm_5) rfl rfl F.1 rfl rfl ?_
  refine am_s0 (M := tm_5) rfl rfl rfl rfl ?_
  refine am_s0 (M := tm_5) rfl rfl rfl rfl ?_
  refine am_rG (M := tm_5) rfl rfl F.2.1 rfl rfl ?_
  refine am_rT (M := tm_5) (tgt := 30) rfl rfl (by decide) rfl ?_
  refine am_s0 (M := tm_5) rfl rfl rfl rfl ?_
  exact am_r1 (M := tm_5) rfl rfl rfl (rfl)
theorem pm_hasCome1 (F : am_new0 h) : am_run E am_T0 d 54 0 [(0, .ref 88), (1, .int 1)] [] h (some (.int 0)) h := by
  refine am_s0 (M := tm_54) rfl rfl rfl rfl ?_
  refine am_rF (M := tm_54) (tgt := 26) rfl rfl (by decide) rfl ?_
  refine am_s0 (M := tm_54) rfl rfl rfl rfl ?_
  refine am_rG (M := tm_54) rfl rfl F.2.2.2 rfl rfl ?_
  refine am_rT (M := tm_54) (tgt := 22) rfl rfl (by decide) rfl ?_
  refine am_s0 (M := tm_54) rfl rfl rfl rfl ?_
  refine am_rJ (M := tm_54) (tgt := 45) rfl rfl rfl ?_
  exact am_r1 (M := tm_54) rfl rfl rfl (rfl)
theorem pm_hasCome0 (F : am_new0 h) : am_run E am_T0 d 54 0 [(0, .ref 88), (1, .int 0)] [] h (some (.int 0)) h := by
  refine am_s0 (M := tm_54) rfl rfl rfl rfl ?_
  refine am_rT (M := tm_54) (tgt := 26) rfl rfl (by decide) rfl ?_
  refine am_s0 (M := tm_54) rfl rfl rfl rfl ?_
  refine am_rG (M := tm_54) rfl rfl F.2.2.2 rfl rfl ?_
  refine am_rT (M := tm_54) (tgt := 44) rfl rfl (by decide) rfl ?_
  refine am_s0 (M := tm_54) rfl rfl rfl rfl ?_
  exact am_r1 (M := tm_54) rfl rfl rfl (rfl)
theorem pm_byteAt1 (F : am_new0 h) (n : Int32) : am_run E am_T0 (d + 1) 47 0 [(0, .ref 88), (1, .int 1), (2, .int n)] [] h (some (.int (-4))) h := by
  refine am_s0 (M := tm_47) rfl rfl rfl rfl ?_
  refine am_s0 (M := tm_47) rfl rfl rfl rfl ?_
  refine am_rI (M := tm_47) rfl rfl F.2.2.2 rfl rfl rfl ?_
  refine am_s0 (M := tm_47) rfl rfl rfl rfl ?_
  refine am_s0 (M := tm_47) rfl rfl rfl rfl ?_
  refine am_rC (M := tm_47) rfl rfl rfl rfl rfl (by simp only [am_call, am_cls, F.2.2.2, List.drop]; rfl) rfl ⟨Nat.le_of_ble_eq_true rfl, Nat.le_of_ble_eq_true rfl, Nat.le_of_ble_eq_true rfl⟩ (pm_hasCome1 F) ?_
  refine am_rF (M := tm_47) (tgt := 16) rfl rfl (by decide) rfl ?_
  refine am_s0 (M := tm_47) rfl rfl rfl rfl ?_
  exact am_r1 (M := tm_47) rfl rfl rfl (rfl)
theorem pm_byteAt0 (F : am_new0 h) (n : Int32) : am_run E am_T0 (d + 1) 47 0 [(0, .ref 88), (1, .int 0), (2, .int n)] [] h (some (.int (-4))) h := by
  refine am_s0 (M := tm_47) rfl rfl rfl rfl ?_
  refine am_s0 (M := tm_47) rfl rfl rfl rfl ?_
  refine am_rI (M := tm_47) rfl rfl F.2.2.2 rfl rfl rfl ?_
  refine am_s0 (M := tm_47) rfl rfl rfl rfl ?_
  refine am_s0 (M := tm_47) rfl rfl rfl rfl ?_
  refine am_rC (M := tm_47) rfl rfl rfl rfl rfl (by simp only [am_call, am_cls, F.2.2.2, List.drop]; rfl) rfl ⟨Nat.le_of_ble_eq_true rfl, Nat.le_of_ble_eq_true rfl, Nat.le_of_ble_eq_true rfl⟩ (pm_hasCome0 F) ?_
  refine am_rF (M := tm_47) (tgt := 16) rfl rfl (by decide) rfl ?_
  refine am_s0 (M := tm_47) rfl rfl rfl rfl ?_
  exact am_r1 (M := tm_47) rfl rfl rfl (rfl)
end PM
