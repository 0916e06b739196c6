/-! CALLS, AND THE WHOLE RUN. -/
def am_nw (w : Cond) : Bool := match w with
  | .methodLinkNest _ _ _ _ => true
  | .fieldLinkNest _ _ _ _ _ _ => true
  | .declares _ => true
  | _ => false
/-- the state holds these cells -/
def am_Pre (D : va_G) (cl : List vw_C) (K : Nat → ClassId) (b : Nat) (sa : Nat → Nat) (Ns : List Cond) (Rs : am_Rs) (Zs : am_Zs) (E : am_E) (h : am_H) (U : State) : Prop := U.heap.size = b + h.length ∧ va_P D cl (am_W K b sa h) U.heap ∧ am_U D cl K b sa Ns Rs Zs E U
def am_Post (D : va_G) (cl : List vw_C) (K : Nat → ClassId) (b : Nat) (sa : Nat → Nat) (Ns : List Cond) (Rs : am_Rs) (Zs : am_Zs) (E : am_E) (v : Option Value) (h : am_H) : Array Value → State → Outcome → State → Prop := fun _ st oc t => oc = .returned (v.map (am_cv b sa)) ∧ va_P D cl (am_W K b sa h) t.heap ∧ va_F (fun q => b ≤ q) st t
def am_Cx (p : Program) (s : State) (m : MethodId) (meth : Method) (c : Code) (args : Array Value) (M : am_M) (G : List Cond) : Prop :=
  p.tables.exec = Jvm.exec ∧ c.code = M.2.1 ∧ c.maxLocals = M.2.2.1 ∧ s.vm.findClass M.1.cls = some m.cls ∧ (∀ w ∈ G, w.before args s = true) ∧ meth.name = M.1.name ∧ meth.sig.returnType = M.2.2.2.1 ∧ meth.locks = false
/-- all that the tables must say, once for all methods -/
def am_OK (E : am_E) (T : List am_M) (cl : List vw_C) (Tc : List (List Cond)) (G Ns : List Cond) (Rs : am_Rs) (Zs : am_Zs) : Prop :=
  (∀ w ∈ Tc.flatten, goodWord w = true → w ∈ G) ∧ (∀ w ∈ G, goodWord w = true) ∧ (∀ w ∈ Ns, am_nw w = true) ∧ am_CL G cl E.1 ∧ cl.length ≤ 1000 ∧ (Cond.instanceMethod objectInit ∈ G ∧ Cond.code objectInit ⟨#[0xb1]⟩ 1 none ∈ G) ∧
  (∀ (j : Nat) (M : am_M), 0 < j → T[j]? = some M → Cond.code M.1 M.2.1 M.2.2.1 M.2.2.2.1 ∈ G ∧ Cond.initialized M.1.cls ∈ G ∧ Jvm.plainName M.1.cls = true ∧ (M.1.cls ≠ "java/lang/invoke/MethodHandle" ∧ M.1.cls ≠ "java/lang/invoke/VarHandle")) ∧
  (∀ (j : Nat) (M : am_M), T[j]? = some M → ∀ q ∈ M.2.2.2.2, am_okQ Tc Ns Rs Zs cl T M q = true)
def am_rm (d mc ms : Nat) : Room := { frames := d, cells := mc, slots := ms, locals := 60 * d }
abbrev am_ws (M : am_M) (G : List Cond) : List Cond := Cond.code M.1 M.2.1 M.2.2.1 M.2.2.2.1 :: G
theorem am_find_mem {l : List am_Q} {pc : Nat} {q : am_Q} (h : am_find l pc = some q) : q ∈ l ∧ q.1 = pc := by
  induction l with
  | nil => cases h
  | cons z r ih =>
    unfold am_find at h
    split at h
    · rename_i e
      cases h
      exact ⟨List.mem_cons_self, e⟩
    · exact ⟨List.mem_cons_of_mem _ (ih h).1, (ih h).2⟩
theorem am_nw_on {w : Cond} (h : am_nw w = true) : w.onTables = true := by
  unfold am_nw at h
  split at h <;> first | rfl | cases h
theorem am_wid (vs : List Value) : (lg_sl vs).length = am_sum vs := by
  induction vs with
  | nil => rfl
  | cons v r ih =>
    have e : (lg_sl (v :: r)).length = (if v.category = 2 then 2 else 1) + (lg_sl r).length := by
      unfold lg_sl
      rw [List.flatMap_cons, List.length_append]
      congr 1
      split <;> rfl
    rw [e, ih]
    unfold am_sum
    rw [List.map_cons, List.sum_cons]
    congr 1
    cases v <;> rfl
theorem am_sum_cv (b : Nat) (sa : Nat → Nat) (vs : List Value) : am_sum (vs.map (am_cv b sa)) = am_sum vs := by
  unfold am_sum
  rw [List.map_map]
  congr 1
  apply List.map_congr_left
  intro v _
  exact am_cat b sa v
theorem am_args_cv (b : Nat) (sa : Nat → Nat) : ∀ (i : Nat) (vs : List Value), lv_args i (vs.map (am_cv b sa)) = am_cl b sa (lv_args i vs) := by
  intro i vs
  induction vs generalizing i with
  | nil => rfl
  | cons v r ih =>
    rw [List.map_cons, lv_args, lv_args, am_cat, ih]
    rfl
theorem am_ret_st {ret : Option FieldType} {i : Instr} {st : List Value} {v : Option Value} (h : am_ret ret i st = some v) : st = v.toList := by
  unfold am_ret at h
  split at h
  · split at h
    · cases h; rfl
    · cases h
  · split at h
    · cases h; rfl
    · split at h
      · cases h; rfl
      · cases h
    · split at h
      · cases h; rfl
      · cases h
    · split at h
      · cases h; rfl
      · cases h
    · cases h
  · split at h
    · cases h; rfl
    · cases h
  · cases h
section AMV
variable {p : Program} {l : Launch} {e : Env} {R : Room} {s : State} {m : MethodId} {args : Array Value} {below : List Frame} {meth : Method} {c : Code} {H : Heap} {locs : List Loc} {cells slots : Nat} {Q : State → Prop}
variable {cc : ByteArray} {pc nL n0 : Nat} {Ls : Array Slot} {D : va_G} {cl : List vw_C} {K : Nat → ClassId} {b : Nat} {sa : Nat → Nat} {Tc : List (List Cond)} {G Ns : List Cond} {Rs : am_Rs} {Zs : am_Zs} {E : am_E} {T : List am_M} {ls : am_L} {st : List Value} {h : am_H} {num : Int} {lk : am_K}
theorem am_U_move {t : State} (hNs : ∀ w ∈ Ns, am_nw w = true) (hU : am_U D cl K b sa Ns Rs Zs E s) (hS : va_S (fun q => b ≤ q) s.heap H locs) (ht : t.heap = H) (hW : s.WarmedH t.vm) : am_U D cl K b sa Ns Rs Zs E t := by
  subst ht
  obtain ⟨h1, h2, h3, h4, h5, h6, h7, h8⟩ := hU
  have hq : ∀ a : Nat, a < s.heap.size → ¬ (fun q => b ≤ q) a → t.heap[a]? = s.heap[a]? := hS.2.1
  refine ⟨va_K.moved hW.alike h1, fun w hw => ?_, (vk_S.moved hW.alike h3).kept hq, fun q hq => vk_R.warm hW (h4 q hq), fun i C n d v g1 g2 => (va_Z.moved hW.alike (h5 i C n d v g1 g2)).kept hq, fun L xs z => (va_X.moved hW.alike (h6 L xs z)).kept (hq _ h7 (Nat.not_le.mpr h8)), Nat.lt_of_lt_of_le h7 hS.1, h8⟩
  have hn := hNs w hw
  unfold am_nw at hn
  split at hn
  · exact va_Nw.warmM hW (h2 _ hw)
  · exact va_Nw.warmF hW (h2 _ hw)
  · exact va_Nw.warmD hW (h2 _ hw)
  · cases hn
theorem am_blind (hNs : ∀ w ∈ Ns, am_nw w = true) (av : List Value) : FrameBlind (va_Pc av (am_Pre D cl K b sa Ns Rs Zs E h)) := by
  intro a U g mk hq
  obtain ⟨e0, g1, g2, h1, h2, h3, h4, h5, h6, h7, h8⟩ := hq
  exact ⟨e0, g1, g2, va_K.moved (u := U) (U := U.calling g mk a) (Vm.Alike.refl U.vm) h1, fun w hw => va_Nw.same (u := U) (U := U.calling g mk a) (am_nw_on (hNs w hw)) rfl (h2 w hw), vk_S.moved (u := U) (U := U.calling g mk a) (Vm.Alike.refl U.vm) h3, fun q hq => vk_R.same (u := U) (U := U.calling g mk a) rfl (h4 q hq), fun i C n d v z1 z2 => va_Z.moved (u := U) (U := U.calling g mk a) (Vm.Alike.refl U.vm) (h5 i C n d v z1 z2), fun L xs z => va_X.moved (u := U) (U := U.calling g mk a) (Vm.Alike.refl U.vm) (h6 L xs z), h7, h8⟩
theorem am_pre (hNs : ∀ w ∈ Ns, am_nw w = true) (hU : am_U D cl K b sa Ns Rs Zs E s) (hP : va_P D cl (am_W K b sa h) H) (hS : va_S (fun q => b ≤ q) s.heap H locs) (hz : H.size = b + h.length) (av : List Value) : ∀ U : State, U.heap = H → s.WarmedH U.vm → va_Pc av (am_Pre D cl K b sa Ns Rs Zs E h) av.toArray U := fun U e1 hW => ⟨rfl, by rw [e1]; exact hz, by rw [e1]; exact hP, am_U_move hNs hU hS e1 hW⟩
/-- behind a call -/
theorem am_after {mc ms : Nat} {st0 rest : List Value} {v : Option Value} {h2 : am_H} {a : Array Value} (hr : va_Run p l e R s m args below meth c H locs cells slots mc ms (F0 m pc Ls st0) rest (am_Post D cl K b sa Ns Rs Zs E v h2 a) (fun q => b ≤ q)) (hS : va_S (fun q => b ≤ q) s.heap H locs)
    (kk : ∀ (H1 : Heap) (locs1 : List Loc), va_P D cl (am_W K b sa h2) H1 → va_S (fun q => b ≤ q) s.heap H1 locs1 → W p l e R s m args below meth c H1 locs1 (cells + mc) (slots + ms) Q (F0 m (pc + 3) Ls ((v.map (am_cv b sa)).toList ++ rest))) : W p l e R s m args below meth c H locs cells slots Q (F0 m pc Ls st0) := by
  intro T1 hT X
  obtain ⟨w, st₀, t, T', L, h0, X', hL, e1, e2, ⟨hv, hPost, hz, hk⟩, st⟩ := hr T1 hT X
  cases hv
  rw [h0] at hz hk
  obtain ⟨t2, a1, b1⟩ := kk T'.heap (locs ++ L) (by rw [e1]; exact hPost)
    ⟨Nat.le_trans hS.1 (by rw [e1]; exact hz), fun q h1 h2 => by rw [e1, hk q (Nat.lt_of_lt_of_le h1 hS.1) h2]; exact hS.2.1 q h1 h2, fun q hq => by
      rcases List.mem_append.mp hq with h | h
      · exact hS.2.2 q h
      · exact hL q h⟩ T' rfl X'
  exact ⟨t2, st t2 a1, b1⟩
end AMV
