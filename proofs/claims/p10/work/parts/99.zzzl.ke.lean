/-! THE CLAIM OUT OF ONE WALK OF THE LAW'S BODY. Your part is whole_start (and what it stands on); all else here is the same for every law, but numbers. -/
def R_law : String := "NestedVectorsLaw"
def lw_P (b : Addr) (xs : List Int32) (args : Array Value) (s : State) : Prop := args = #[.ref b] ∧ s.IntsAt b xs ∧ xs.length ≤ 1536 ∧ (Jvm.Cond.and given_1 narrow_1).before args s = true
def lw_Q (_ : Array Value) (s : State) (o : Outcome) (t : State) : Prop := o = .returned (some (.int 1)) ∧ Framed s o t [] 600000 7302250
def lw_Z (below : List Frame) (a : Array Value) (s : State) : State → Prop := fun t => ∃ o, t.status = .running ∧ Ended t below o ∧ lw_Q a s o t
/-- the law's own end, with 1 on the stack, nothing written that was there before, its room as the claim has it -/
theorem lw_ret {p : Program} {l : Launch} {e : Env} {s : State} {m : MethodId} {below : List Frame} {meth : Method} {c : Code} {b : Nat} (hx : p.tables.exec = Jvm.exec) (hb : c.code = code) (hr : meth.sig.returnType = ret) (hlocks : meth.locks = false) {pc : Nat} {H : Heap} {ls : Array Slot} (hdg : decode code pc = .ok (.ireturn, 1)) : W p l e room_1 s m #[Value.ref b] below meth c H [] 600000 7302250 (lw_Z below #[Value.ref b] s) (F0 m pc ls [.int 1]) := by
  intro T hT X
  obtain ⟨fs, hret, hrun, hended, hW, hframe⟩ := X.leave (v := some (.int 1)) (hlocks := hlocks) (fun h => by rw [hr] at h; cases h)
  have hmeth' : T.vm.method? m = some meth := X.method'
  refine ⟨T.setFrames fs, ?_, .returned (some (.int 1)), hrun, hended, rfl, ⟨_, rfl⟩, hW, hframe⟩
  jvm_step X.here [X.here.top, hx, hb, hdg, hmeth', hr, ret, narrow_b1]
  (try refine ⟨rfl, ?_⟩); (try refine ⟨rfl, ?_⟩)
  first | (intro acts; rw [hret _ acts rfl rfl rfl]) | rw [hret _ _ rfl rfl rfl]
  exact Steps.refl _
/-- what holds at the law's entry: the machine, the code, the tables' words (any of lw_tbl by 'hts w (by decide +kernel)'), the script of L ints xs at the cell b, what the Statement gives of the start (any of its parts by flat_of_before) -/
def lw_At (p : Program) (s : State) (m : MethodId) (meth : Method) (c : Code) (b L : Nat) (xs : Nat → Int32) : Prop :=
  p.tables.exec = Jvm.exec ∧ c.code = code ∧ meth.sig.returnType = ret ∧ c.maxLocals = 4 ∧ s.vm.findClass R_law = some m.cls ∧ (∀ w ∈ lw_tbl, w.before #[Value.ref b] s = true) ∧ va_X b L xs s s.heap ∧ b < s.heap.size ∧ meth.locks = false ∧ (Jvm.Cond.and given_1 narrow_1).before #[Value.ref b] s = true ∧ meth.name = x.name
/-- the answer of the small machine is the law's -/
theorem am_end {p : Program} {e : Env} {s : State} {m : MethodId} {below : List Frame} {meth : Method} {c : Code} (l : Launch) {b L : Nat} {xs : Nat → Int32} (C0 : lw_At p s m meth c b L xs) {z : Value} {h2 : am_H} {D : va_G} {K : Nat → ClassId} {sa : Nat → Nat} (hz : sa 9999 = b) (hU : am_U D am_cls0 K s.heap.size sa am_Ns0 am_Rs0 am_Zs0 (am_E0 z (some (L, xs))) s) (hf : h2.length ≤ 600000 ∧ am_sz h2 ≤ 7302250) (hr2 : am_run (am_E0 z (some (L, xs))) am_T0 (999 + 1) 0 0 [(0, .retAddr 9999)] [] [] (some (.int 1)) h2) :
    W p l e room_1 s m #[Value.ref b] below meth c s.heap [] 0 0 (lw_Z below #[Value.ref b] s) (entryFrame m ([Value.ref b] : List Value).toArray 4) := by
  obtain ⟨hx, hb, hr, hml, hown, hts, hX, hbl, hlocks, hgv, hnm⟩ := C0
  obtain ⟨n, hn⟩ := hr2
  have hl := lv_entry ([.ref b]) (n := 4) (Nat.le_of_ble_eq_true rfl)
  rw [lg_entry_eq]
  have hl2 : lv_has (lg_sl [Value.ref b] ++ List.replicate (4 - (lg_sl [Value.ref b]).length) Slot.unset).toArray 4 (am_cl s.heap.size sa [(0, .retAddr 9999)]) := by
    have e1 : am_cl s.heap.size sa [(0, .retAddr 9999)] = [(0, .ref b)] := by rw [← hz]; rfl
    rw [e1]
    exact hl
  refine am_body (l := l) (am_OK0 z (some (L, xs))) n (999 + 1) 0 0 tm_0 [(0, .retAddr 9999)] [] [] (some (.int 1)) h2 rfl hn p e room_1 s m _ below meth c s.heap [] 0 0 0 h2.length (am_sz h2) (lw_Z below #[Value.ref b] s) _ ⟨hx, hb, hml, hown, fun w hw => am_htsT hts w (List.mem_filter.mp hw).1, hnm, hr, hlocks⟩ hU rfl rfl (fun k q h => by simp [am_W] at h) va_S.rf hl2 (by decide) (by decide) (by simp) (by simp [am_sz]) hf.1 hf.2 ?_
  intro pc' i num H1 locs1 Ls1 hret hdg hP1 hS1
  have hi : i = .ireturn := by
    cases i <;> first | rfl | cases hret
  subst hi
  rw [hb] at hdg
  refine va_forget (fun q hq => hS1.2.2 q hq) ?_
  refine W.widen (k := 600000) (n := 7302250) hf.1 hf.2 ?_
  exact lw_ret hx hb hr hlocks hdg
theorem whole_start {p : Program} {e : Env} {s : State} {m : MethodId} {below : List Frame} {meth : Method} {c : Code} (l : Launch) {b L : Nat} {xs : Nat → Int32} (hL : L ≤ 1536) (C0 : lw_At p s m meth c b L xs) : W p l e room_1 s m #[Value.ref b] below meth c s.heap [] 0 0 (lw_Z below #[Value.ref b] s) (entryFrame m ([Value.ref b] : List Value).toArray 4) := by
  obtain ⟨hx, hb, hr, hml, hown, hts, hX, hbl, hlocks, hgv, hnm⟩ := id C0
  have hs := flat_of_before _ hgv
  obtain ⟨D, hD⟩ := am_classes hts
  obtain ⟨K, hK⟩ := am_arrays hts
  obtain ⟨adK, adV, hV, hE⟩ := am_texts hs
  have hA : ∀ a : Nat, a < s.heap.size → ¬ (fun q => s.heap.size ≤ q) a := fun a h => Nat.not_le.mpr h
  have hz0 := va_Zof (C := "java/lang/String") (n := "COMPACT_STRINGS") (d := "Z") (v := .int 1) (A := fun q => s.heap.size ≤ q) (hts _ (am_in_1 (List.mem_of_getElem? (i := 237) rfl))) (hts _ (am_in_1 (List.mem_of_getElem? (i := 7) rfl))) (va_eqt (hs (Cond.eq (.static "java/lang/String" "COMPACT_STRINGS" "Z") (.int 1)) (by decide +kernel))) hA
  have hz2 := va_Zof (C := "java/lang/StringUTF16") (n := "$assertionsDisabled") (d := "Z") (v := .int 1) (A := fun q => s.heap.size ≤ q) (hts _ (am_in_2 (List.mem_of_getElem? (i := 31) rfl))) (hts _ (am_in_1 (List.mem_of_getElem? (i := 10) rfl))) (va_eqt (hs (Cond.eq (.static "java/lang/StringUTF16" "$assertionsDisabled" "Z") (.int 1)) (by decide +kernel))) hA
  have hz3 := va_Zof (C := "java/lang/StringUTF16") (n := "HI_BYTE_SHIFT") (d := "I") (v := .int 0) (A := fun q => s.heap.size ≤ q) (hts _ (am_in_2 (List.mem_of_getElem? (i := 33) rfl))) (hts _ (am_in_1 (List.mem_of_getElem? (i := 10) rfl))) (va_eqt (hs (Cond.eq (.static "java/lang/StringUTF16" "HI_BYTE_SHIFT" "I") (.int 0)) (by decide +kernel))) hA
  have hz4 := va_Zof (C := "java/lang/StringUTF16") (n := "LO_BYTE_SHIFT") (d := "I") (v := .int 8) (A := fun q => s.heap.size ≤ q) (hts _ (am_in_2 (List.mem_of_getElem? (i := 35) rfl))) (hts _ (am_in_1 (List.mem_of_getElem? (i := 10) rfl))) (va_eqt (hs (Cond.eq (.static "java/lang/StringUTF16" "LO_BYTE_SHIFT" "I") (.int 8)) (by decide +kernel))) hA
  have hzq := va_Zqof (C := "jdk/internal/util/Preconditions") (n := "SIOOBE_FORMATTER") (d := "Ljava/util/function/BiFunction;") (A := fun q => s.heap.size ≤ q) (hts _ (am_in_2 (List.mem_of_getElem? (i := 13) rfl))) (hts _ (am_in_1 (List.mem_of_getElem? (i := 9) rfl))) (hs _ (by decide +kernel)) hA
  have hzr : ∃ (z : Value) (t : Nat), am_chk z = true ∧ ∀ sa : Nat → Nat, sa 5000 = t → va_Z "jdk/internal/util/Preconditions" "SIOOBE_FORMATTER" "Ljava/util/function/BiFunction;" (am_cv s.heap.size sa z) (fun q => s.heap.size ≤ q) s s.heap := by
    rcases hzq with h | ⟨t, h⟩
    · exact ⟨.null, 0, am_chk_n, fun sa _ => h⟩
    · exact ⟨.retAddr 5000, t, am_chk_r, fun sa e1 => by show va_Z _ _ _ (.ref (sa 5000)) _ _ _; rw [e1]; exact h⟩
  obtain ⟨z, t, hchk, hzz⟩ := hzr
  obtain ⟨h2, hf2, hr2⟩ := pl_law (xs := xs) hchk hL
  obtain ⟨sa, e9, e5, eK, eV⟩ : ∃ sa : Nat → Nat, sa 9999 = b ∧ sa 5000 = t ∧ (∀ i, i < 2 → sa i = adK i) ∧ (∀ i, i < 2 → sa (1000 + i) = adV i) := by
    refine ⟨fun k => if k = 9999 then b else if k = 5000 then t else if k < 1000 then adK k else adV (k - 1000), rfl, rfl, fun i hi => ?_, fun i hi => ?_⟩
    · simp only [show ¬ i = 9999 by omega, show ¬ i = 5000 by omega, show i < 1000 by omega, if_true, if_false]
    · simp only [show ¬ 1000 + i = 9999 by omega, show ¬ 1000 + i = 5000 by omega, show ¬ 1000 + i < 1000 by omega, if_false, show 1000 + i - 1000 = i by omega]
  have hU : am_U D am_cls0 K s.heap.size sa am_Ns0 am_Rs0 am_Zs0 (am_E0 z (some (L, xs))) s := by
    refine ⟨⟨hD, hK⟩, am_Ns_ok hts, ⟨fun i hi => ?_, fun i j hi hj e1 => ?_⟩, fun q hq => ?_, fun i C n d v h1 h3 => ?_, fun L9 xs9 e1 => ?_, by rw [e9]; exact hbl, by rw [e9]; exact hbl⟩
    · have hi2 : i < 2 := hi
      have h4 := hV.1 i hi
      rw [← eK i hi2, ← eV i hi2] at h4
      exact h4
    · have hi2 : i < 2 := hi
      have hj2 : j < 2 := hj
      rw [eK i hi2, eK j hj2] at e1
      exact hV.2 i j hi hj e1
    · simp only [am_Rs0, List.mem_cons, List.not_mem_nil, or_false] at hq
      rcases hq with rfl | rfl
      · show vk_R _ _ _ (sa 0) s
        rw [eK 0 (by decide)]
        exact vk_R.of (hts _ (am_in_1 (List.mem_of_getElem? (i := 227) rfl))) (hE 0 (by decide))
      · show vk_R _ _ _ (sa 1) s
        rw [eK 1 (by decide)]
        exact vk_R.of (hts _ (am_in_4 (List.mem_of_getElem? (i := 40) rfl))) (hE 1 (by decide))
    · match i, h1, h3 with
      | 0, h1, h3 => cases h1; cases h3; exact hz0
      | 1, h1, h3 => cases h1; cases h3; exact hzz sa e5
      | 2, h1, h3 => cases h1; cases h3; exact hz2
      | 3, h1, h3 => cases h1; cases h3; exact hz3
      | 4, h1, h3 => cases h1; cases h3; exact hz4
      | k + 5, h1, h3 => simp [am_Zs0] at h1
    · cases e1
      rw [e9]
      exact hX
  exact am_end l C0 e9 hU ⟨by rw [hf2.1]; decide, by rw [hf2.2]; decide⟩ hr2
set_option maxHeartbeats 4000000 in
theorem lw_walk (l : Launch) (b : Addr) (xs : List Int32) : MetFree l x (headSpec (Jvm.Cond.code x code maxLocals ret :: tables_1) room_1) (lw_P b xs) (fun _ _ _ _ _ => True) lw_Q := by
  refine MetFree.of_bodyS (code := code) (maxLocals := maxLocals) (ret := ret) (by decide) ?_ ?_
  · intro args s m h hn
    obtain ⟨meth, c, h1, h2, h3, h4, h5, h6, -, -⟩ := Cond.code_spec hn (atoms_spec (ws := Jvm.Cond.code x code maxLocals ret :: tables_1) h _ List.mem_cons_self)
    exact ⟨meth, c, h1, h2, h3, h4, h5, h6⟩
  · intro p e s m args below meth c s₁ B hml0 hP _
    obtain ⟨rfl, hx, hbd, hgv⟩ := hP
    obtain ⟨scr, harrAt, hlist, hof, hsmall⟩ := hx
    obtain ⟨hcb, hkn, -, -⟩ := State.arrayAt?_spec harrAt
    have hown : s.vm.findClass R_law = some m.cls := findClass_of_methodNamed B.named
    have hts0 : ∀ c ∈ (Jvm.Cond.code x code maxLocals ret :: tables_1), c.before #[Value.ref b] s = true := atoms_spec (ws := Jvm.Cond.code x code maxLocals ret :: tables_1) B.pre
    have hts : ∀ w ∈ lw_tbl, w.before #[Value.ref b] s = true := k2_hts_sels lw_privs (fun w hw => hts0 w (List.mem_cons_of_mem _ hw)) lw_privs_ok
    have hml : c.maxLocals = 4 := B.maxLocals_eq (hts0 _ List.mem_cons_self)
    have X₀ : Stand p l e room_1 s m #[Value.ref b] below meth c s₁ [] 0 0 := Stand.of_body B
    have hh0 : s₁.heap = s.heap := by rw [B.state]; rfl
    have hsz : scr.slots.size = xs.length := by rw [← Array.length_toList, hlist, List.length_map]
    have hval : ∀ j : Nat, j < xs.length → scr.slots[j]? = some (.int (xs.getD j 0)) := fun j hj => by
      rw [← Array.getElem?_toList, hlist]
      simp [hj]
    have hbl : b < s.heap.size := (Array.getElem?_eq_some_iff.mp hcb).1
    have hX : va_X b xs.length (fun j => xs.getD j 0) s s.heap := ⟨scr, hcb, hof, hkn, hsz, hval⟩
    have K : W p l e room_1 s m #[Value.ref b] below meth c s₁.heap [] 0 0 (lw_Z below #[Value.ref b] s) (entryFrame m ([Value.ref b] : List Value).toArray 4) := by
      rw [hh0]
      exact whole_start l hbd ⟨B.exec, B.bytes, B.returns, hml, hown, hts, hX, hbl, B.notSynchronized, hgv, (name_of_methodNamed B.named B.method).1⟩
    obtain ⟨t, a1, o, b1, b2, b3⟩ := K s₁ rfl X₀
    exact ⟨t, o, a1, b1, b2, b3⟩
theorem lw_pre_spec {args : Array Value} {s : State} (h : (Jvm.Cond.and given_1 narrow_1).before args s = true) (hr : rest_1_c.before args s = true) : ∃ (b : Addr) (xs : List Int32), lw_P b xs args s := by
  have hs := flat_of_before _ h
  have hq := flat_of_before _ hr
  have hc : (Cond.count 1).before args s = true := hs _ (by decide +kernel)
  have harr : (Cond.arrayOf (.arg 0) .int).before args s = true := hs _ (by decide +kernel)
  have hle : (Cond.le (.length (.arg 0)) (.int 1536)).before args s = true := hs _ (by decide +kernel)
  have hlen : (Cond.isInt (.length (.arg 0))).before args s = true := hq _ (by decide +kernel)
  have hall : (Cond.all (.arg 0) (.isInt (.elem (.arg 0) (.index 0)))).before args s = true := hq _ (by decide +kernel)
  obtain ⟨b, xs, hb, hx⟩ := State.ints_of_pre rfl harr hlen hall
  have hsm : xs.length < 2 ^ 31 := hx.choose_spec.2.2.2
  have hev : (Term.length (.arg 0)).eval args s none [] s = some (.int xs.length.toInt32) := hx.length_eval hb
  have hv := Cond.le_ints hev (show (Term.int 1536).eval args s none [] s = some (.int 1536) from rfl)
  have hd : xs.length.toInt32 ≤ 1536 := by
    simpa [Cond.before, Cond.holds, hv] using hle
  have hN : xs.length ≤ 1536 := (Int32.ofNat_le_ofNat hsm (by decide)).mp (show Int32.ofNat xs.length ≤ Int32.ofNat 1536 from hd)
  exact ⟨b, xs, Cond.one_arg hc (show args[0]? = some (.ref b) from hb), hx, hN, h⟩
theorem lw_comes (l : Launch) : Comes l x (Jvm.Cond.code x code maxLocals ret :: tables_1) room_1 (fun tb e args s => Calls_1 tb e args s ∧ rest_1 tb e args s ∧ Pre_1 tb e args s)
    (fun _ _ args s o t => lw_Q args s o t) := by
  intro p e ha hc hk s m args below hf hfit hheap happ hpre
  obtain ⟨b, xs, hP⟩ := lw_pre_spec hpre.2.2 hpre.2.1
  obtain ⟨k, o, h1, h2, h3, hQ⟩ := lw_walk l b xs p e ha hc hk s m args below hf ((Spec.applies_iff_loose hf).mp happ).1 hP trivial
  exact ⟨k, o, h1, h2, h3, hQ⟩
theorem lw_frame {s t : State} {o : Outcome} {args : Array Value} (h : Framed s o t [] 600000 7302250) :
    Framed s o t (fieldLocs frame_1_writes args s ++ arrayLocs frame_1_arrays args s ++ staticLocs frame_1_statics s) 600000 7302250 := h
theorem lw_limb (L : Cond) (hL : ∀ (args : Array Value) (s t : State), L.after args s (.returned (some (.int 1))) t = true) :
    ArmFor flags0 classFile x code maxLocals ret World_1 tables_1 room_1 Calls_1 rest_1 Pre_1
      (fun tb e a s o t => postC L tb e a s o t ∧ Framed s o t (fieldLocs frame_1_writes a s ++ arrayLocs frame_1_arrays a s ++ staticLocs frame_1_statics s) 600000 7302250) := by
  intro l _ _ _ p e ha hc hk s m args below hf hfit hheap happ hpre
  obtain ⟨k, o, h1, h2, h3, rfl, hF⟩ := lw_comes l p e ha hc hk s m args below hf hfit hheap happ hpre
  exact ⟨k, _, h1, h2, h3, hL args s _, lw_frame hF⟩
theorem i_vc : Claimed_1_1 ∧ Claimed_1_2 := ⟨lw_limb limb_1_1 (fun args s t => by simp [limb_1_1, Cond.after, Cond.holds, Cond.value]), lw_limb limb_1_2 (fun args s t => Cond.after_iff.mpr (by
  first | (rw [show limb_1_2 = Cond.eq .result (.int 1) from rfl, Cond.eq_ints (x := 1) (y := 1) rfl rfl]; simp; done) | (simp [limb_1_2, Cond.value, Term.eval]; done)))⟩

