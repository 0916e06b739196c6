/-! STATES: the cells have a fixed shape; what they hold is a function of the cell and the place. -/
abbrev sg_S : Type := (Nat → Nat → Int32) × (Nat → Nat → Int64)
abbrev sg_Sh : Type := (Nat × Nat) ⊕ (Nat × List Value)
def sg_fd (σ : sg_S) (a k : Nat) (v : Value) : Value := match v with
  | .int _ => .int (σ.1 a k)
  | .long _ => .long (σ.2 a k)
  | v => v
def sg_cell (σ : sg_S) (a : Nat) (s : sg_Sh) : am_C := match s with
  | .inl (t, n) => if t = 2 then .inr (.inl (n, σ.2 a)) else .inl (t, n, σ.1 a)
  | .inr (ci, tp) => .inr (.inr (ci, tp.mapIdx (fun k v => sg_fd σ a k v)))
def sg_H (Sh : List sg_Sh) (σ : sg_S) : am_H := Sh.mapIdx (fun a s => sg_cell σ a s)
def sg_w (σ : sg_S) (a k : Nat) (x : Int32) : sg_S := (fun c j => if c = a ∧ j = k then x else σ.1 c j, σ.2)
def sg_wl (σ : sg_S) (a k : Nat) (x : Int64) : sg_S := (σ.1, fun c j => if c = a ∧ j = k then x else σ.2 c j)
theorem sg_w_at (σ : sg_S) (a k : Nat) (x : Int32) : (sg_w σ a k x).1 a k = x := by simp [sg_w]
theorem sg_w_ne (σ : sg_S) (a k c j : Nat) (x : Int32) (h : c ≠ a ∨ j ≠ k) : (sg_w σ a k x).1 c j = σ.1 c j := by
  simp only [sg_w]
  rw [if_neg]
  rintro ⟨rfl, rfl⟩
  rcases h with h | h <;> exact h rfl
theorem sg_w_l (σ : sg_S) (a k : Nat) (x : Int32) : (sg_w σ a k x).2 = σ.2 := rfl
theorem sg_wl_i (σ : sg_S) (a k : Nat) (x : Int64) : (sg_wl σ a k x).1 = σ.1 := rfl
theorem sg_wl_at (σ : sg_S) (a k : Nat) (x : Int64) : (sg_wl σ a k x).2 a k = x := by simp [sg_wl]
theorem sg_wl_ne (σ : sg_S) (a k c j : Nat) (x : Int64) (h : c ≠ a ∨ j ≠ k) : (sg_wl σ a k x).2 c j = σ.2 c j := by
  simp only [sg_wl]
  rw [if_neg]
  rintro ⟨rfl, rfl⟩
  rcases h with h | h <;> exact h rfl
theorem sg_at {Sh : List sg_Sh} {σ : sg_S} {a : Nat} {s : sg_Sh} (h : Sh[a]? = some s) : (sg_H Sh σ)[a]? = some (sg_cell σ a s) := by
  unfold sg_H
  rw [List.getElem?_mapIdx, h]
  rfl
theorem sg_len (Sh : List sg_Sh) (σ : sg_S) : (sg_H Sh σ).length = Sh.length := by
  unfold sg_H
  rw [List.length_mapIdx]
theorem sg_set {Sh : List sg_Sh} {σ σ' : sg_S} {a : Nat} {s : sg_Sh} {x : am_C} (h : Sh[a]? = some s) (hx : x = sg_cell σ' a s) (ho : ∀ c s', c ≠ a → sg_cell σ' c s' = sg_cell σ c s') : (sg_H Sh σ).set a x = sg_H Sh σ' := by
  apply List.ext_getElem?
  intro c
  have hl : a < (sg_H Sh σ).length := by rw [sg_len]; exact (List.getElem?_eq_some_iff.mp h).1
  by_cases e : c = a
  · subst e
    rw [List.getElem?_set_self hl, sg_at h, hx]
  · rw [List.getElem?_set_ne (Ne.symm e)]
    cases hs : Sh[c]? with
    | none =>
      have h1 : (sg_H Sh σ)[c]? = none := by rw [List.getElem?_eq_none_iff, sg_len]; exact List.getElem?_eq_none_iff.mp hs
      have h2 : (sg_H Sh σ')[c]? = none := by rw [List.getElem?_eq_none_iff, sg_len]; exact List.getElem?_eq_none_iff.mp hs
      rw [h1, h2]
    | some s' => rw [sg_at hs, sg_at hs, ho c s' e]
theorem sg_cell_w (σ : sg_S) (a k : Nat) (x : Int32) (c : Nat) (s : sg_Sh) (h : c ≠ a) : sg_cell (sg_w σ a k x) c s = sg_cell σ c s := by
  have e1 : (sg_w σ a k x).1 c = σ.1 c := by funext j; exact sg_w_ne σ a k c j x (Or.inl h)
  rcases s with ⟨t, n⟩ | ⟨ci, tp⟩
  · simp only [sg_cell, e1, sg_w_l]
  · simp only [sg_cell]
    congr 4
    funext j v
    cases v <;> simp only [sg_fd, e1, sg_w_l]
theorem sg_cell_wl (σ : sg_S) (a k : Nat) (x : Int64) (c : Nat) (s : sg_Sh) (h : c ≠ a) : sg_cell (sg_wl σ a k x) c s = sg_cell σ c s := by
  have e1 : (sg_wl σ a k x).2 c = σ.2 c := by funext j; exact sg_wl_ne σ a k c j x (Or.inl h)
  rcases s with ⟨t, n⟩ | ⟨ci, tp⟩
  · simp only [sg_cell, e1, sg_wl_i]
  · simp only [sg_cell]
    congr 4
    funext j v
    cases v <;> simp only [sg_fd, e1, sg_wl_i]
theorem sg_row (σ : sg_S) (a k : Nat) (x : Int32) : (sg_w σ a k x).1 a = upd (σ.1 a) k x := by
  funext j
  by_cases h : j = k
  · subst h
    rw [sg_w_at]
    simp [upd]
  · rw [sg_w_ne σ a k a j x (Or.inr h)]
    simp [upd, h]
theorem sg_rowl (σ : sg_S) (a k : Nat) (x : Int64) : (sg_wl σ a k x).2 a = vp_updL (σ.2 a) k x := by
  funext j
  by_cases h : j = k
  · subst h
    rw [sg_wl_at]
    simp [vp_updL]
  · rw [sg_wl_ne σ a k a j x (Or.inr h)]
    simp [vp_updL, h]
theorem sg_setI {Sh : List sg_Sh} {σ : sg_S} {a t n k : Nat} {x : Int32} (h : Sh[a]? = some (.inl (t, n))) (ht : ¬ t = 2) : (sg_H Sh σ).set a (.inl (t, n, upd (σ.1 a) k x)) = sg_H Sh (sg_w σ a k x) :=
  sg_set h (by simp only [sg_cell, if_neg ht, sg_row]) (fun c s' e => sg_cell_w σ a k x c s' e)
theorem sg_setL {Sh : List sg_Sh} {σ : sg_S} {a n k : Nat} {x : Int64} (h : Sh[a]? = some (.inl (2, n))) : (sg_H Sh σ).set a (.inr (.inl (n, vp_updL (σ.2 a) k x))) = sg_H Sh (sg_wl σ a k x) :=
  sg_set h (by simp only [sg_cell, if_true, sg_rowl]) (fun c s' e => sg_cell_wl σ a k x c s' e)
theorem sg_setF {Sh : List sg_Sh} {σ : sg_S} {a ci k : Nat} {tp : List Value} {x y : Int32} (h : Sh[a]? = some (.inr (ci, tp))) (hk : tp[k]? = some (.int y)) : (sg_H Sh σ).set a (.inr (.inr (ci, (tp.mapIdx (fun k v => sg_fd σ a k v)).set k (.int x)))) = sg_H Sh (sg_w σ a k x) := by
  refine sg_set h ?_ (fun c s' e => sg_cell_w σ a k x c s' e)
  simp only [sg_cell]
  congr 3
  apply List.ext_getElem?
  intro j
  have hl : k < tp.length := (List.getElem?_eq_some_iff.mp hk).1
  by_cases e : j = k
  · subst e
    rw [List.getElem?_set_self (by rw [List.length_mapIdx]; exact hl), List.getElem?_mapIdx, hk]
    simp only [Option.map_some, sg_fd, sg_w_at]
  · rw [List.getElem?_set_ne (Ne.symm e), List.getElem?_mapIdx, List.getElem?_mapIdx]
    cases tp[j]? with
    | none => rfl
    | some v => cases v <;> simp only [Option.map_some, sg_fd, sg_w_ne σ a k a j x (Or.inr e), sg_w_l]
theorem sg_setFl {Sh : List sg_Sh} {σ : sg_S} {a ci k : Nat} {tp : List Value} {x y : Int64} (h : Sh[a]? = some (.inr (ci, tp))) (hk : tp[k]? = some (.long y)) : (sg_H Sh σ).set a (.inr (.inr (ci, (tp.mapIdx (fun k v => sg_fd σ a k v)).set k (.long x)))) = sg_H Sh (sg_wl σ a k x) := by
  refine sg_set h ?_ (fun c s' e => sg_cell_wl σ a k x c s' e)
  simp only [sg_cell]
  congr 3
  apply List.ext_getElem?
  intro j
  have hl : k < tp.length := (List.getElem?_eq_some_iff.mp hk).1
  by_cases e : j = k
  · subst e
    rw [List.getElem?_set_self (by rw [List.length_mapIdx]; exact hl), List.getElem?_mapIdx, hk]
    simp only [Option.map_some, sg_fd, sg_wl_at]
  · rw [List.getElem?_set_ne (Ne.symm e), List.getElem?_mapIdx, List.getElem?_mapIdx]
    cases tp[j]? with
    | none => rfl
    | some v => cases v <;> simp only [Option.map_some, sg_fd, sg_wl_ne σ a k a j x (Or.inr e), sg_wl_i]
section SGR
variable {E : am_E} {T : List am_M} {d j pc : Nat} {ls : am_L} {st : List Value} {Sh : List sg_Sh} {σ : sg_S} {v : Option Value} {h' : am_H} {M : am_M} {q : am_Q}
theorem am_s0 {pc' : Nat} {ls' : am_L} {st' : List Value} {h : am_H} (hM : T[j]? = some M) (hq : am_find M.2.2.2.2 pc = some q) (hso : am_sort q.2.1 = 0) (hs : am_step E pc q.2.1 q.2.2.1 q.2.2.2 ls st h = some (pc', ls', st')) (k : am_run E T d j pc' ls' st' h v h') : am_run E T d j pc ls st h v h' := am_r0 (S := (pc', ls', st')) hM hq hso hs k
/-- a field is read: an int, a long, a reference -/
theorem sg_rG {a ci k : Nat} {tp : List Value} {w : Value} {idx : Nat} {num : Int} {lk : am_K} {dat : List Nat} (hM : T[j]? = some M) (hq : am_find M.2.2.2.2 pc = some (pc, .getfield idx, num, lk)) (hh : Sh[a]? = some (.inr (ci, tp))) (hk : am_key lk ci = some (k :: dat)) (hf : tp[k]? = some w) (kk : am_run E T d j (pc + 3) ls (sg_fd σ a k w :: st) (sg_H Sh σ) v h') : am_run E T d j pc ls (.ref a :: st) (sg_H Sh σ) v h' :=
  am_rG hM hq (sg_at hh) hk (by rw [List.getElem?_mapIdx, hf]; rfl) kk
/-- an int field is written -/
theorem sg_rW {a ci k tag : Nat} {tp : List Value} {x y : Int32} {idx : Nat} {num : Int} {lk : am_K} {dat : List Nat} (hM : T[j]? = some M) (hq : am_find M.2.2.2.2 pc = some (pc, .putfield idx, num, lk)) (hh : Sh[a]? = some (.inr (ci, tp))) (hk : am_key lk ci = some (k :: tag :: dat)) (hf : tp[k]? = some (.int y)) (ht : am_fit tag (.int x) = true) (kk : am_run E T d j (pc + 3) ls st (sg_H Sh (sg_w σ a k x)) v h') : am_run E T d j pc ls (.int x :: .ref a :: st) (sg_H Sh σ) v h' := by
  refine am_rW hM hq (sg_at hh) hk ht (by rw [List.length_mapIdx]; exact (List.getElem?_eq_some_iff.mp hf).1) ?_
  rw [sg_setF hh hf]
  exact kk
theorem sg_rWl {a ci k : Nat} {tp : List Value} {x y : Int64} {idx : Nat} {num : Int} {lk : am_K} {dat : List Nat} (hM : T[j]? = some M) (hq : am_find M.2.2.2.2 pc = some (pc, .putfield idx, num, lk)) (hh : Sh[a]? = some (.inr (ci, tp))) (hk : am_key lk ci = some (k :: 2 :: dat)) (hf : tp[k]? = some (.long y)) (kk : am_run E T d j (pc + 3) ls st (sg_H Sh (sg_wl σ a k x)) v h') : am_run E T d j pc ls (.long x :: .ref a :: st) (sg_H Sh σ) v h' := by
  refine am_rW hM hq (sg_at hh) hk rfl (by rw [List.length_mapIdx]; exact (List.getElem?_eq_some_iff.mp hf).1) ?_
  rw [sg_setFl hh hf]
  exact kk
/-- a row's length -/
theorem sg_rN {a t n : Nat} {num : Int} {lk : am_K} (hM : T[j]? = some M) (hq : am_find M.2.2.2.2 pc = some (pc, .arraylength, num, lk)) (hh : Sh[a]? = some (.inl (t, n))) (ht : t < 4) (kk : am_run E T d j (pc + 1) ls (.int (nI n) :: st) (sg_H Sh σ) v h') : am_run E T d j pc ls (.ref a :: st) (sg_H Sh σ) v h' := by
  refine am_r0 (S := (pc + 1, ls, .int (nI n) :: st)) hM hq rfl ?_ kk
  rcases (show t = 2 ∨ (t = 0 ∨ t = 1 ∨ t = 3) by omega) with h2 | h2
  · subst h2
    simp only [am_step, am_alen, am_len0, sg_at hh, sg_cell, if_true, nI]
  · simp only [am_step, am_alen, am_len0, sg_at hh, sg_cell, if_neg (show ¬ t = 2 by omega), h2, if_true, nI]
/-- a row is read -/
theorem sg_rA {a n : Nat} {i : Int32} {num : Int} {lk : am_K} (hM : T[j]? = some M) (hq : am_find M.2.2.2.2 pc = some (pc, .iaload, num, lk)) (hh : Sh[a]? = some (.inl (0, n))) (hi : ¬ (i < 0 ∨ n ≤ i.toNatClampNeg)) (kk : am_run E T d j (pc + 1) ls (.int (σ.1 a i.toNatClampNeg) :: st) (sg_H Sh σ) v h') : am_run E T d j pc ls (.int i :: .ref a :: st) (sg_H Sh σ) v h' :=
  am_r0 (S := (pc + 1, ls, .int (σ.1 a i.toNatClampNeg) :: st)) hM hq rfl (by simp only [am_step, am_rdI, am_rowI, sg_at hh, sg_cell, if_neg (show ¬ (0 : Nat) = 2 by decide), true_or, if_true, if_neg hi]) kk
theorem sg_rAb {a t n : Nat} {i : Int32} {num : Int} {lk : am_K} (ht : t = 1 ∨ t = 3) (hM : T[j]? = some M) (hq : am_find M.2.2.2.2 pc = some (pc, .baload, num, lk)) (hh : Sh[a]? = some (.inl (t, n))) (hi : ¬ (i < 0 ∨ n ≤ i.toNatClampNeg)) (kk : am_run E T d j (pc + 1) ls (.int (σ.1 a i.toNatClampNeg) :: st) (sg_H Sh σ) v h') : am_run E T d j pc ls (.int i :: .ref a :: st) (sg_H Sh σ) v h' := by
  refine am_r0 (S := (pc + 1, ls, .int (σ.1 a i.toNatClampNeg) :: st)) hM hq rfl ?_ kk
  have h1 : t = 1 ∨ (1 : Nat) = 1 ∧ t = 3 := by rcases ht with h | h; exact Or.inl h; exact Or.inr ⟨rfl, h⟩
  simp only [am_step, am_rdI, am_rowI, sg_at hh, sg_cell, if_neg (show ¬ t = 2 by omega), if_pos h1, if_neg hi]
theorem sg_rAl {a n : Nat} {i : Int32} {num : Int} {lk : am_K} (hM : T[j]? = some M) (hq : am_find M.2.2.2.2 pc = some (pc, .laload, num, lk)) (hh : Sh[a]? = some (.inl (2, n))) (hi : ¬ (i < 0 ∨ n ≤ i.toNatClampNeg)) (kk : am_run E T d j (pc + 1) ls (.long (σ.2 a i.toNatClampNeg) :: st) (sg_H Sh σ) v h') : am_run E T d j pc ls (.int i :: .ref a :: st) (sg_H Sh σ) v h' :=
  am_r0 (S := (pc + 1, ls, .long (σ.2 a i.toNatClampNeg) :: st)) hM hq rfl (by simp only [am_step, am_rdL, am_rowL, sg_at hh, sg_cell, if_true, if_neg hi]) kk
/-- a row is written -/
theorem sg_rS {a n : Nat} {x i : Int32} {num : Int} {lk : am_K} (hM : T[j]? = some M) (hq : am_find M.2.2.2.2 pc = some (pc, .iastore, num, lk)) (hh : Sh[a]? = some (.inl (0, n))) (hi : ¬ (i < 0 ∨ n ≤ i.toNatClampNeg)) (kk : am_run E T d j (pc + 1) ls st (sg_H Sh (sg_w σ a i.toNatClampNeg x)) v h') : am_run E T d j pc ls (.int x :: .int i :: .ref a :: st) (sg_H Sh σ) v h' := by
  refine am_r2 (S := (st, (sg_H Sh σ).set a (.inl (0, n, upd (σ.1 a) i.toNatClampNeg x)))) hM hq rfl (by simp only [am_hs, am_wrI, sg_at hh, sg_cell, if_neg (show ¬ (0 : Nat) = 2 by decide), true_or, if_true, if_neg hi, am_nb]) ?_
  rw [sg_setI hh (by decide)]
  exact kk
theorem sg_rSb {a t n : Nat} {x i : Int32} {num : Int} {lk : am_K} (ht : t = 1 ∨ t = 3) (hM : T[j]? = some M) (hq : am_find M.2.2.2.2 pc = some (pc, .bastore, num, lk)) (hh : Sh[a]? = some (.inl (t, n))) (hi : ¬ (i < 0 ∨ n ≤ i.toNatClampNeg)) (kk : am_run E T d j (pc + 1) ls st (sg_H Sh (sg_w σ a i.toNatClampNeg (am_nb t x))) v h') : am_run E T d j pc ls (.int x :: .int i :: .ref a :: st) (sg_H Sh σ) v h' := by
  have h1 : t = 1 ∨ (1 : Nat) = 1 ∧ t = 3 := by rcases ht with h | h; exact Or.inl h; exact Or.inr ⟨rfl, h⟩
  refine am_r2 (S := (st, (sg_H Sh σ).set a (.inl (t, n, upd (σ.1 a) i.toNatClampNeg (am_nb t x))))) hM hq rfl (by simp only [am_hs, am_wrI, sg_at hh, sg_cell, if_neg (show ¬ t = 2 by omega), if_pos h1, if_neg hi]) ?_
  rw [sg_setI hh (by omega)]
  exact kk
theorem sg_rSl {a n : Nat} {x : Int64} {i : Int32} {num : Int} {lk : am_K} (hM : T[j]? = some M) (hq : am_find M.2.2.2.2 pc = some (pc, .lastore, num, lk)) (hh : Sh[a]? = some (.inl (2, n))) (hi : ¬ (i < 0 ∨ n ≤ i.toNatClampNeg)) (kk : am_run E T d j (pc + 1) ls st (sg_H Sh (sg_wl σ a i.toNatClampNeg x)) v h') : am_run E T d j pc ls (.long x :: .int i :: .ref a :: st) (sg_H Sh σ) v h' := by
  refine am_r2 (S := (st, (sg_H Sh σ).set a (.inr (.inl (n, vp_updL (σ.2 a) i.toNatClampNeg x))))) hM hq rfl (by simp only [am_hs, am_wrL, sg_at hh, sg_cell, if_true, if_neg hi]) ?_
  rw [sg_setL hh]
  exact kk
/-- a call on an object -/
theorem sg_rV {a ci j0 j2 n n0 idx : Nat} {tp r : List Value} {num : Int} {d0 dat : List Nat} {k0 : Nat} {tl : am_K} {M2 : am_M} {v2 : Option Value} {h2 : am_H} (hM : T[j]? = some M) (hq : am_find M.2.2.2.2 pc = some (pc, .invokevirtual idx, num, (k0, j0 :: n :: d0) :: tl)) (hp : am_isP ((k0, j0 :: n :: d0) :: tl) = false) (hr : st.drop n = .ref a :: r) (hh : Sh[a]? = some (.inr (ci, tp))) (hk : am_key ((k0, j0 :: n :: d0) :: tl) ci = some (j2 :: n0 :: dat)) (hn : n0 = n) (hM2 : T[j2]? = some M2) (hcond : am_sum r ≤ 8 ∧ M2.2.2.1 ≤ 41 ∧ am_sum (.ref a :: (st.take n).reverse) ≤ M2.2.2.1) (k1 : am_run E T d j2 0 (lv_args 0 (.ref a :: (st.take n).reverse)) [] (sg_H Sh σ) v2 h2) (k2 : am_run E T (d + 1) j (pc + 3) ls (v2.toList ++ r) h2 v h') : am_run E T (d + 1) j pc ls st (sg_H Sh σ) v h' := by
  subst hn
  exact am_rC hM hq rfl rfl hp (by simp only [am_call, hr, am_cls, sg_at hh, sg_cell, hk, if_true]) hM2 hcond k1 k2
end SGR
