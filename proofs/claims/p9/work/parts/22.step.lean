/-! ITS STEPS ARE STEPS OF THE MACHINE. -/
def am_cv (b : Nat) (sa : Nat → Nat) (v : Value) : Value := match v with
  | .ref i => .ref (b + i)
  | .retAddr k => .ref (sa k)
  | v => v
def am_cl (b : Nat) (sa : Nat → Nat) (ls : am_L) : am_L := ls.map (fun q => (q.1, am_cv b sa q.2))
def am_ce (K : Nat → ClassId) (b : Nat) (sa : Nat → Nat) (x : am_C) : va_E := match x with
  | .inl (t, n, f) => .inl (K t, n, .inl f)
  | .inr (.inl (n, f)) => .inl (K 2, n, .inr (.inl f))
  | .inr (.inr (ci, fs)) => .inr (ci, fs.map (am_cv b sa))
def am_W (K : Nat → ClassId) (b : Nat) (sa : Nat → Nat) (h : am_H) : va_W := h.mapIdx (fun i x => (b + i, am_ce K b sa x))
def am_tys (K : Nat → ClassId) : List (ClassId × FieldType) := [(K 0, .int), (K 1, .byte), (K 2, .long), (K 3, .boolean)]
theorem am_cat (b : Nat) (sa : Nat → Nat) (v : Value) : (am_cv b sa v).category = v.category := by cases v <;> rfl
theorem am_get_mem {ls : am_L} {i : Nat} {v : Value} (h : am_get ls i = some v) : (i, v) ∈ ls := by
  induction ls with
  | nil => cases h
  | cons q r ih =>
    unfold am_get at h
    split at h
    · rename_i e
      cases h
      rw [← e]
      exact List.mem_cons_self
    · exact List.mem_cons_of_mem _ (ih h)
theorem am_get_at {b nL : Nat} {sa : Nat → Nat} {Ls : Array Slot} {ls : am_L} {i : Nat} {v : Value} (hl : lv_has Ls nL (am_cl b sa ls)) (h : am_get ls i = some v) : Ls[i]? = some (.val (am_cv b sa v)) :=
  hl.2.2 (i, am_cv b sa v) (List.mem_map.mpr ⟨(i, v), am_get_mem h, rfl⟩)
theorem am_put1_cl (b : Nat) (sa : Nat → Nat) (ls : am_L) (i : Nat) (v : Value) : (i, am_cv b sa v) :: (am_cl b sa ls).filter (fun q => !(q.1 == i) && !(q.1 + 1 == i && q.2.category == 2)) = am_cl b sa (am_put1 ls i v) := by
  unfold am_cl am_put1
  rw [List.map_cons, List.filter_map]
  congr 2
  apply List.filter_congr
  intro q _
  simp only [Function.comp, am_cat]
theorem am_put2_cl (b : Nat) (sa : Nat → Nat) (ls : am_L) (i : Nat) (v : Value) : (i, am_cv b sa v) :: (am_cl b sa ls).filter (fun q => !(q.1 == i) && (!(q.1 == i + 1) && !(q.1 + 1 == i && q.2.category == 2))) = am_cl b sa (am_put2 ls i v) := by
  unfold am_cl am_put2
  rw [List.map_cons, List.filter_map]
  congr 2
  apply List.filter_congr
  intro q _
  simp only [Function.comp, am_cat]
theorem am_W_at {K : Nat → ClassId} {b : Nat} {sa : Nat → Nat} {h : am_H} {a : Nat} {x : am_C} (hx : h[a]? = some x) : (am_W K b sa h)[a]? = some (b + a, am_ce K b sa x) := by
  unfold am_W
  rw [List.getElem?_mapIdx, hx]
  rfl
section AMG
variable {Wg : JFrame → Prop} {m : MethodId} {Ls : Array Slot} {b nL pc np : Nat} {sa : Nat → Nat} {ls : am_L} {st : List Value} {S : Nat × am_L × List Value}
/-- where the walk goes on -/
abbrev am_kk (Wg : JFrame → Prop) (m : MethodId) (b nL : Nat) (sa : Nat → Nat) (S : Nat × am_L × List Value) : Prop := ∀ Ls' : Array Slot, lv_has Ls' nL (am_cl b sa S.2.1) → Wg (F0 m S.1 Ls' (S.2.2.map (am_cv b sa)))
theorem am_cst {v : Value} (row : Wg (F0 m np Ls (am_cv b sa v :: st.map (am_cv b sa))) → Wg (F0 m pc Ls (st.map (am_cv b sa)))) (hs : some (np, ls, v :: st) = some S) (hl : lv_has Ls nL (am_cl b sa ls)) (kk : am_kk Wg m b nL sa S) : Wg (F0 m pc Ls (st.map (am_cv b sa))) := by
  cases hs
  exact row (kk Ls hl)
theorem am_ld_ok {t : Value → Bool} {i : Nat} (row : ∀ v : Value, t v = true → Ls[i]? = some (.val (am_cv b sa v)) → Wg (F0 m np Ls (am_cv b sa v :: st.map (am_cv b sa))) → Wg (F0 m pc Ls (st.map (am_cv b sa)))) (hs : am_ld np t ls i st = some S) (hl : lv_has Ls nL (am_cl b sa ls)) (kk : am_kk Wg m b nL sa S) : Wg (F0 m pc Ls (st.map (am_cv b sa))) := by
  unfold am_ld at hs
  split at hs
  · rename_i v hv
    split at hs
    · rename_i ht
      cases hs
      exact row v ht (am_get_at hl hv) (kk Ls hl)
    · cases hs
  · cases hs
theorem am_st1_ok {t : Value → Bool} {i : Nat} (row : ∀ (v : Value) (r : List Value), t v = true → (∀ ls' : Array Slot, lv_has ls' nL (am_cl b sa (am_put1 ls i v)) → Wg (F0 m np ls' r)) → Wg (F0 m pc Ls (am_cv b sa v :: r))) (hs : am_st1 np t ls i st = some S) (kk : am_kk Wg m b nL sa S) : Wg (F0 m pc Ls (st.map (am_cv b sa))) := by
  unfold am_st1 at hs
  split at hs
  · split at hs
    · rename_i ht
      cases hs
      exact row _ _ ht (fun ls' h' => kk ls' h')
    · cases hs
  · cases hs
theorem am_st2_ok {i : Nat} (row : ∀ (v : Value) (r : List Value), am_isL v = true → (∀ ls' : Array Slot, lv_has ls' nL (am_cl b sa (am_put2 ls i v)) → Wg (F0 m np ls' r)) → Wg (F0 m pc Ls (am_cv b sa v :: r))) (hs : am_st2 np ls i st = some S) (kk : am_kk Wg m b nL sa S) : Wg (F0 m pc Ls (st.map (am_cv b sa))) := by
  unfold am_st2 at hs
  split at hs
  · split at hs
    · rename_i ht
      cases hs
      exact row _ _ ht (fun ls' h' => kk ls' h')
    · cases hs
  · cases hs
theorem am_i2_ok {f : Int32 → Int32 → Int32} (row : ∀ (x y : Int32) (r : List Value), Wg (F0 m np Ls (.int (f x y) :: r)) → Wg (F0 m pc Ls (.int y :: .int x :: r))) (hs : am_i2 np ls f st = some S) (hl : lv_has Ls nL (am_cl b sa ls)) (kk : am_kk Wg m b nL sa S) : Wg (F0 m pc Ls (st.map (am_cv b sa))) := by
  unfold am_i2 at hs
  split at hs
  · cases hs
    exact row _ _ _ (kk Ls hl)
  · cases hs
theorem am_d2_ok {f : Int32 → Int32 → Int32} (row : ∀ (x y : Int32) (r : List Value), ¬ y = 0 → Wg (F0 m np Ls (.int (f x y) :: r)) → Wg (F0 m pc Ls (.int y :: .int x :: r))) (hs : am_d2 np ls f st = some S) (hl : lv_has Ls nL (am_cl b sa ls)) (kk : am_kk Wg m b nL sa S) : Wg (F0 m pc Ls (st.map (am_cv b sa))) := by
  unfold am_d2 at hs
  split at hs
  · split at hs
    · cases hs
    · rename_i h0
      cases hs
      exact row _ _ _ h0 (kk Ls hl)
  · cases hs
theorem am_l2_ok {f : Int64 → Int64 → Int64} (row : ∀ (x y : Int64) (r : List Value), Wg (F0 m np Ls (.long (f x y) :: r)) → Wg (F0 m pc Ls (.long y :: .long x :: r))) (hs : am_l2 np ls f st = some S) (hl : lv_has Ls nL (am_cl b sa ls)) (kk : am_kk Wg m b nL sa S) : Wg (F0 m pc Ls (st.map (am_cv b sa))) := by
  unfold am_l2 at hs
  split at hs
  · cases hs
    exact row _ _ _ (kk Ls hl)
  · cases hs
theorem am_dl2_ok {f : Int64 → Int64 → Int64} (row : ∀ (x y : Int64) (r : List Value), ¬ y = 0 → Wg (F0 m np Ls (.long (f x y) :: r)) → Wg (F0 m pc Ls (.long y :: .long x :: r))) (hs : am_dl2 np ls f st = some S) (hl : lv_has Ls nL (am_cl b sa ls)) (kk : am_kk Wg m b nL sa S) : Wg (F0 m pc Ls (st.map (am_cv b sa))) := by
  unfold am_dl2 at hs
  split at hs
  · split at hs
    · cases hs
    · rename_i h0
      cases hs
      exact row _ _ _ h0 (kk Ls hl)
  · cases hs
theorem am_l1_ok {f : Int64 → Int64} (row : ∀ (x : Int64) (r : List Value), Wg (F0 m np Ls (.long (f x) :: r)) → Wg (F0 m pc Ls (.long x :: r))) (hs : am_l1 np ls f st = some S) (hl : lv_has Ls nL (am_cl b sa ls)) (kk : am_kk Wg m b nL sa S) : Wg (F0 m pc Ls (st.map (am_cv b sa))) := by
  unfold am_l1 at hs
  split at hs
  · cases hs
    exact row _ _ (kk Ls hl)
  · cases hs
theorem am_s2_ok {f : Int64 → Int32 → Int64} (row : ∀ (x : Int64) (y : Int32) (r : List Value), Wg (F0 m np Ls (.long (f x y) :: r)) → Wg (F0 m pc Ls (.int y :: .long x :: r))) (hs : am_s2 np ls f st = some S) (hl : lv_has Ls nL (am_cl b sa ls)) (kk : am_kk Wg m b nL sa S) : Wg (F0 m pc Ls (st.map (am_cv b sa))) := by
  unfold am_s2 at hs
  split at hs
  · cases hs
    exact row _ _ _ (kk Ls hl)
  · cases hs
theorem am_c2_ok (row : ∀ (x y : Int64) (r : List Value), Wg (F0 m np Ls (.int (lg_cmp x y) :: r)) → Wg (F0 m pc Ls (.long y :: .long x :: r))) (hs : am_c2 np ls st = some S) (hl : lv_has Ls nL (am_cl b sa ls)) (kk : am_kk Wg m b nL sa S) : Wg (F0 m pc Ls (st.map (am_cv b sa))) := by
  unfold am_c2 at hs
  split at hs
  · cases hs
    exact row _ _ _ (kk Ls hl)
  · cases hs
theorem am_i1_ok {f : Int32 → Int32} (row : ∀ (x : Int32) (r : List Value), Wg (F0 m np Ls (.int (f x) :: r)) → Wg (F0 m pc Ls (.int x :: r))) (hs : am_i1 np ls f st = some S) (hl : lv_has Ls nL (am_cl b sa ls)) (kk : am_kk Wg m b nL sa S) : Wg (F0 m pc Ls (st.map (am_cv b sa))) := by
  unfold am_i1 at hs
  split at hs
  · cases hs
    exact row _ _ (kk Ls hl)
  · cases hs
theorem am_il_ok (row : ∀ (x : Int32) (r : List Value), Wg (F0 m np Ls (.long x.toInt64 :: r)) → Wg (F0 m pc Ls (.int x :: r))) (hs : am_il np ls st = some S) (hl : lv_has Ls nL (am_cl b sa ls)) (kk : am_kk Wg m b nL sa S) : Wg (F0 m pc Ls (st.map (am_cv b sa))) := by
  unfold am_il at hs
  split at hs
  · cases hs
    exact row _ _ (kk Ls hl)
  · cases hs
theorem am_li_ok (row : ∀ (x : Int64) (r : List Value), Wg (F0 m np Ls (.int x.toInt32 :: r)) → Wg (F0 m pc Ls (.long x :: r))) (hs : am_li np ls st = some S) (hl : lv_has Ls nL (am_cl b sa ls)) (kk : am_kk Wg m b nL sa S) : Wg (F0 m pc Ls (st.map (am_cv b sa))) := by
  unfold am_li at hs
  split at hs
  · cases hs
    exact row _ _ (kk Ls hl)
  · cases hs
theorem am_jp_ok {off : Int} {r : List Value} {G : Prop} (row : ∀ tgt : Nat, (pc : Int) + off = (tgt : Int) → Wg (F0 m tgt Ls (r.map (am_cv b sa))) → G) (hs : am_jp pc ls off r = some S) (hl : lv_has Ls nL (am_cl b sa ls)) (kk : am_kk Wg m b nL sa S) : G := by
  unfold am_jp at hs
  split at hs
  · rename_i h0
    cases hs
    exact row _ (Int.toNat_of_nonneg h0).symm (kk Ls hl)
  · cases hs
theorem am_br_ok {bb : Bool} {off : Int} {r : List Value} {G : Prop} (rt : ∀ tgt : Nat, (pc : Int) + off = (tgt : Int) → bb = true → Wg (F0 m tgt Ls (r.map (am_cv b sa))) → G) (rf : ∀ tgt : Nat, (pc : Int) + off = (tgt : Int) → ¬ bb = true → Wg (F0 m (pc + 3) Ls (r.map (am_cv b sa))) → G) (hs : am_br pc ls bb off r = some S) (hl : lv_has Ls nL (am_cl b sa ls)) (kk : am_kk Wg m b nL sa S) : G := by
  unfold am_br at hs
  split at hs
  · rename_i h0
    have ht := (Int.toNat_of_nonneg h0).symm
    split at hs
    · rename_i h1
      cases hs
      exact rt _ ht h1 (kk Ls hl)
    · rename_i h1
      cases hs
      exact rf _ ht h1 (kk Ls hl)
  · cases hs
theorem am_inc_ok {i : Nat} {n : Int} (row : ∀ (x : Int32) (k : Nat), (am_cl b sa ls)[k]? = some (i, .int x) → (∀ ls' : Array Slot, lv_has ls' nL (am_cl b sa (am_put1 ls i (.int (x + Int32.ofInt n)))) → Wg (F0 m np ls' (st.map (am_cv b sa)))) → Wg (F0 m pc Ls (st.map (am_cv b sa)))) (hs : am_inc np ls i n st = some S) (kk : am_kk Wg m b nL sa S) : Wg (F0 m pc Ls (st.map (am_cv b sa))) := by
  unfold am_inc at hs
  split at hs
  · rename_i x hx
    cases hs
    have hm : (i, Value.int x) ∈ am_cl b sa ls := List.mem_map.mpr ⟨(i, .int x), am_get_mem hx, rfl⟩
    obtain ⟨k, hk⟩ := List.getElem?_of_mem hm
    exact row x k hk kk
  · cases hs
theorem am_dup_ok (row : ∀ (v : Value) (r : List Value), v.category = 1 → Wg (F0 m np Ls (v :: v :: r)) → Wg (F0 m pc Ls (v :: r))) (hs : am_dup np ls st = some S) (hl : lv_has Ls nL (am_cl b sa ls)) (kk : am_kk Wg m b nL sa S) : Wg (F0 m pc Ls (st.map (am_cv b sa))) := by
  unfold am_dup at hs
  split at hs
  · split at hs
    · rename_i h0
      cases hs
      exact row _ _ (by rw [am_cat]; exact h0) (kk Ls hl)
    · cases hs
  · cases hs
theorem am_pop_ok (row : ∀ (v : Value) (r : List Value), v.category = 1 → Wg (F0 m np Ls r) → Wg (F0 m pc Ls (v :: r))) (hs : am_pop np ls st = some S) (hl : lv_has Ls nL (am_cl b sa ls)) (kk : am_kk Wg m b nL sa S) : Wg (F0 m pc Ls (st.map (am_cv b sa))) := by
  unfold am_pop at hs
  split at hs
  · split at hs
    · rename_i h0
      cases hs
      exact row _ _ (by rw [am_cat]; exact h0) (kk Ls hl)
    · cases hs
  · cases hs
theorem am_pop2_ok (row : ∀ (v : Value) (r : List Value), v.category = 2 → Wg (F0 m np Ls r) → Wg (F0 m pc Ls (v :: r))) (hs : am_pop2 np ls st = some S) (hl : lv_has Ls nL (am_cl b sa ls)) (kk : am_kk Wg m b nL sa S) : Wg (F0 m pc Ls (st.map (am_cv b sa))) := by
  unfold am_pop2 at hs
  split at hs
  · split at hs
    · rename_i h0
      cases hs
      exact row _ _ (by rw [am_cat]; exact h0) (kk Ls hl)
    · cases hs
  · cases hs
theorem am_dupx1_ok (row : ∀ (v w : Value) (r : List Value), v.category = 1 → w.category = 1 → Wg (F0 m np Ls (v :: w :: v :: r)) → Wg (F0 m pc Ls (v :: w :: r))) (hs : am_dupx1 np ls st = some S) (hl : lv_has Ls nL (am_cl b sa ls)) (kk : am_kk Wg m b nL sa S) : Wg (F0 m pc Ls (st.map (am_cv b sa))) := by
  unfold am_dupx1 at hs
  split at hs
  · split at hs
    · rename_i h0
      cases hs
      exact row _ _ _ (by rw [am_cat]; exact h0.1) (by rw [am_cat]; exact h0.2) (kk Ls hl)
    · cases hs
  · cases hs
theorem am_dupx2_ok (row : ∀ (v w z : Value) (r : List Value), v.category = 1 → w.category = 1 → z.category = 1 → Wg (F0 m np Ls (v :: w :: z :: v :: r)) → Wg (F0 m pc Ls (v :: w :: z :: r))) (hs : am_dupx2 np ls st = some S) (hl : lv_has Ls nL (am_cl b sa ls)) (kk : am_kk Wg m b nL sa S) : Wg (F0 m pc Ls (st.map (am_cv b sa))) := by
  unfold am_dupx2 at hs
  split at hs
  · split at hs
    · rename_i h0
      cases hs
      exact row _ _ _ _ (by rw [am_cat]; exact h0.1) (by rw [am_cat]; exact h0.2.1) (by rw [am_cat]; exact h0.2.2) (kk Ls hl)
    · cases hs
  · cases hs
theorem am_dup2_ok (row : ∀ (v w : Value) (r : List Value), v.category = 1 → w.category = 1 → Wg (F0 m np Ls (v :: w :: v :: w :: r)) → Wg (F0 m pc Ls (v :: w :: r))) (hs : am_dup2 np ls st = some S) (hl : lv_has Ls nL (am_cl b sa ls)) (kk : am_kk Wg m b nL sa S) : Wg (F0 m pc Ls (st.map (am_cv b sa))) := by
  unfold am_dup2 at hs
  split at hs
  · split at hs
    · rename_i h0
      cases hs
      exact row _ _ _ (by rw [am_cat]; exact h0.1) (by rw [am_cat]; exact h0.2) (kk Ls hl)
    · cases hs
  · cases hs
end AMG
