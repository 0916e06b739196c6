section AMS
variable {p : Program} {l : Launch} {e : Env} {R : Room} {s : State} {m : MethodId} {args : Array Value} {below : List Frame} {meth : Method} {c : Code} {H : Heap} {locs : List Loc} {cells slots : Nat} {Q : State → Prop}
variable {cc : ByteArray} {pc nL : Nat} {Ls : Array Slot} {D : va_G} {cl : List vw_C} {K : Nat → ClassId} {b : Nat} {sa : Nat → Nat} {Tc : List (List Cond)} {G Ns : List Cond} {Rs : am_Rs} {Zs : am_Zs} {E : am_E} {T : List am_M} {ls : am_L} {st : List Value} {h : am_H} {S : Nat × am_L × List Value} {own nm : String} {num : Int} {lk : am_K}
theorem am_isI_eq {v : Value} (hv : am_isI v = true) : ∃ x, v = .int x := by cases v <;> first | exact ⟨_, rfl⟩ | cases hv
theorem am_isL_eq {v : Value} (hv : am_isL v = true) : ∃ x, v = .long x := by cases v <;> first | exact ⟨_, rfl⟩ | cases hv
theorem am_isA_eq {b : Nat} {sa : Nat → Nat} {v : Value} (hv : am_isA v = true) : (∃ a, am_cv b sa v = .ref a) ∨ am_cv b sa v = .null := by cases v <;> first | exact Or.inl ⟨_, rfl⟩ | exact Or.inr rfl | cases hv
theorem am_if_ok {cd : ClassFile.Cond} {off : Int} (hx : p.tables.exec = Jvm.exec) (hb : c.code = cc) (hdg : decode cc pc = .ok (.ifCond cd off, 3)) (hs : am_if pc ls cd off st = some S) (hl : lv_has Ls nL (am_cl b sa ls)) (kk : am_kk (W p l e R s m args below meth c H locs cells slots Q) m b nL sa S) : W p l e R s m args below meth c H locs cells slots Q (F0 m pc Ls (st.map (am_cv b sa))) := by
  unfold am_if at hs
  split at hs
  · rename_i x r
    refine am_br_ok (Wg := W p l e R s m args below meth c H locs cells slots Q) (fun tgt ht hc k => ?_) (fun tgt ht hc k => ?_) hs hl kk
    · cases cd <;> simp only [am_cmp, decide_eq_true_eq] at hc
      · exact lv_if_eq hx hb hdg ht (fun _ => k) (fun hn => absurd hc hn)
      · exact lv_if_ne hx hb hdg ht (fun _ => k) (fun hn => absurd hn hc)
      · exact lv_if_lt hx hb hdg ht (fun _ => k) (fun hn => absurd hc hn)
      · exact lv_if_ge hx hb hdg ht (fun _ => k) (fun hn => absurd hc hn)
      · exact lv_if_gt hx hb hdg ht (fun _ => k) (fun hn => absurd hc hn)
      · exact lv_if_le hx hb hdg ht (fun _ => k) (fun hn => absurd hc hn)
    · cases cd <;> simp only [am_cmp, decide_eq_true_eq] at hc
      · exact lv_if_eq hx hb hdg ht (fun hn => absurd hn hc) (fun _ => k)
      · exact lv_if_ne hx hb hdg ht (fun hn => absurd hn hc) (fun _ => k)
      · exact lv_if_lt hx hb hdg ht (fun hn => absurd hn hc) (fun _ => k)
      · exact lv_if_ge hx hb hdg ht (fun hn => absurd hn hc) (fun _ => k)
      · exact lv_if_gt hx hb hdg ht (fun hn => absurd hn hc) (fun _ => k)
      · exact lv_if_le hx hb hdg ht (fun hn => absurd hn hc) (fun _ => k)
  · cases hs
theorem am_if2_ok {cd : ClassFile.Cond} {off : Int} (hx : p.tables.exec = Jvm.exec) (hb : c.code = cc) (hdg : decode cc pc = .ok (.if_icmp cd off, 3)) (hs : am_if2 pc ls cd off st = some S) (hl : lv_has Ls nL (am_cl b sa ls)) (kk : am_kk (W p l e R s m args below meth c H locs cells slots Q) m b nL sa S) : W p l e R s m args below meth c H locs cells slots Q (F0 m pc Ls (st.map (am_cv b sa))) := by
  unfold am_if2 at hs
  split at hs
  · rename_i y x r
    refine am_br_ok (Wg := W p l e R s m args below meth c H locs cells slots Q) (fun tgt ht hc k => ?_) (fun tgt ht hc k => ?_) hs hl kk
    · cases cd <;> simp only [am_cmp, decide_eq_true_eq] at hc
      · exact lv_icmp_eq hx hb hdg ht (fun _ => k) (fun hn => absurd hc hn)
      · exact lv_icmp_ne hx hb hdg ht (fun _ => k) (fun hn => absurd hn hc)
      · exact lv_icmp_lt hx hb hdg ht (fun _ => k) (fun hn => absurd hc hn)
      · exact lv_icmp_ge hx hb hdg ht (fun _ => k) (fun hn => absurd hc hn)
      · exact lv_icmp_gt hx hb hdg ht (fun _ => k) (fun hn => absurd hc hn)
      · exact lv_icmp_le hx hb hdg ht (fun _ => k) (fun hn => absurd hc hn)
    · cases cd <;> simp only [am_cmp, decide_eq_true_eq] at hc
      · exact lv_icmp_eq hx hb hdg ht (fun hn => absurd hn hc) (fun _ => k)
      · exact lv_icmp_ne hx hb hdg ht (fun hn => absurd hn hc) (fun _ => k)
      · exact lv_icmp_lt hx hb hdg ht (fun hn => absurd hn hc) (fun _ => k)
      · exact lv_icmp_ge hx hb hdg ht (fun hn => absurd hn hc) (fun _ => k)
      · exact lv_icmp_gt hx hb hdg ht (fun hn => absurd hn hc) (fun _ => k)
      · exact lv_icmp_le hx hb hdg ht (fun hn => absurd hn hc) (fun _ => k)
  · cases hs
theorem am_nul_ok {want : Bool} {off : Int} {i : Instr} (hi : (want = true ∧ i = .ifnull off) ∨ (want = false ∧ i = .ifnonnull off)) (hx : p.tables.exec = Jvm.exec) (hb : c.code = cc) (hdg : decode cc pc = .ok (i, 3)) (hs : am_nul pc ls want off st = some S) (hl : lv_has Ls nL (am_cl b sa ls)) (kk : am_kk (W p l e R s m args below meth c H locs cells slots Q) m b nL sa S) : W p l e R s m args below meth c H locs cells slots Q (F0 m pc Ls (st.map (am_cv b sa))) := by
  unfold am_nul at hs
  rcases hi with ⟨rfl, rfl⟩ | ⟨rfl, rfl⟩
  · split at hs
    · rw [if_pos rfl] at hs
      exact am_jp_ok (Wg := W p l e R s m args below meth c H locs cells slots Q) (fun tgt ht k => lv_ifnullN hx hb hdg ht k) hs hl kk
    · rw [if_pos rfl] at hs
      cases hs
      exact lv_ifnull hx hb hdg (kk Ls hl)
    · cases hs
  · split at hs
    · rw [if_neg (by decide)] at hs
      cases hs
      exact lv_ifnonnullN hx hb hdg (kk Ls hl)
    · rw [if_neg (by decide)] at hs
      exact am_jp_ok (Wg := W p l e R s m args below meth c H locs cells slots Q) (fun tgt ht k => lv_ifnonnull hx hb hdg ht k) hs hl kk
    · cases hs
theorem am_sw_ok {dflt lo hi : Int} {offs : Array Int} {len : Nat} (hx : p.tables.exec = Jvm.exec) (hb : c.code = cc) (hdg : decode cc pc = .ok (.tableswitch dflt lo hi offs, len)) (hs : am_sw pc ls dflt lo hi offs st = some S) (hl : lv_has Ls nL (am_cl b sa ls)) (kk : am_kk (W p l e R s m args below meth c H locs cells slots Q) m b nL sa S) : W p l e R s m args below meth c H locs cells slots Q (F0 m pc Ls (st.map (am_cv b sa))) := by
  unfold am_sw at hs
  split at hs
  · rename_i x r
    split at hs
    · rename_i h0
      exact am_jp_ok (Wg := W p l e R s m args below meth c H locs cells slots Q) (fun tgt ht k => lv_tableOut hx hb hdg h0 ht k) hs hl kk
    · rename_i h0
      split at hs
      · rename_i off ho
        exact am_jp_ok (Wg := W p l e R s m args below meth c H locs cells slots Q) (fun tgt ht k => lv_tableIn hx hb hdg (fun q => h0 (Or.inl q)) (fun q => h0 (Or.inr q)) ho ht k) hs hl kk
      · cases hs
  · cases hs
theorem am_lsw_ok {dflt : Int} {ps : Array (Int × Int)} {len : Nat} (hx : p.tables.exec = Jvm.exec) (hb : c.code = cc) (hdg : decode cc pc = .ok (.lookupswitch dflt ps, len)) (hs : am_lsw pc ls dflt ps st = some S) (hl : lv_has Ls nL (am_cl b sa ls)) (kk : am_kk (W p l e R s m args below meth c H locs cells slots Q) m b nL sa S) : W p l e R s m args below meth c H locs cells slots Q (F0 m pc Ls (st.map (am_cv b sa))) := by
  unfold am_lsw at hs
  split at hs
  · rename_i x r
    split at hs
    · rename_i h0
      exact am_jp_ok (Wg := W p l e R s m args below meth c H locs cells slots Q) (fun tgt ht k => lv_lookup hx hb hdg h0 rfl ht k) hs hl kk
    · cases hs
  · cases hs
theorem am_ldc_ok {idx : Nat} (hx : p.tables.exec = Jvm.exec) (hb : c.code = cc) (hown : s.vm.findClass own = some m.cls) (hts : ∀ w ∈ G, w.before args s = true) (hTG : ∀ w ∈ Tc.flatten, goodWord w = true → w ∈ G) (hU : am_U D cl K b sa Ns Rs Zs E s) (hdg : decode cc pc = .ok (.ldc idx, 2)) (hok : am_okI Tc Ns Rs Zs cl T own nm nL (.ldc idx) num lk = true) (hs : am_ldc E pc num lk ls st = some S) (hl : lv_has Ls nL (am_cl b sa ls)) (kk : am_kk (W p l e R s m args below meth c H locs cells slots Q) m b nL sa S) : W p l e R s m args below meth c H locs cells slots Q (F0 m pc Ls (st.map (am_cv b sa))) := by
  unfold am_ldc at hs
  split at hs
  · cases hs
    simp only [am_okI] at hok
    split at hok
    · rw [decide_eq_true_eq] at hok
      exact lv_ldc hx hb hown (hts _ (hTG _ (am_at_mem hok) rfl)) hdg (kk Ls hl)
    · rename_i e1
      cases e1
    · cases hok
  · split at hs
    · cases hs
      simp only [am_okI] at hok
      split at hok
      · rename_i e1
        cases e1
      · split at hok
        · rename_i o ix tx k hq
          simp only [Bool.and_eq_true, decide_eq_true_eq] at hok
          obtain ⟨⟨rfl, rfl⟩, rfl⟩ := hok
          exact va_ldcS hx hb hown (hU.2.2.2.1 _ (List.mem_of_getElem? hq)) hdg (kk Ls hl)
        · cases hok
      · cases hok
    · cases hs
  · cases hs
set_option maxHeartbeats 4000000 in
/-- A STEP that leaves the cells alone -/
theorem am_step_ok {i : Instr} (hx : p.tables.exec = Jvm.exec) (hb : c.code = cc) (hown : s.vm.findClass own = some m.cls) (hts : ∀ w ∈ G, w.before args s = true) (hTG : ∀ w ∈ Tc.flatten, goodWord w = true → w ∈ G) (hCL : am_CL G cl E.1) (hcl : cl.length ≤ 1000) (hU : am_U D cl K b sa Ns Rs Zs E s) (hP : va_P D cl (am_W K b sa h) H) (hS : va_S (fun q => b ≤ q) s.heap H locs) (hdg : decode cc pc = .ok (i, am_len i num)) (hok : am_okI Tc Ns Rs Zs cl T own nm nL i num lk = true) (hs : am_step E pc i num lk ls st h = some S) (hl : lv_has Ls nL (am_cl b sa ls)) (kk : am_kk (W p l e R s m args below meth c H locs cells slots Q) m b nL sa S) : W p l e R s m args below meth c H locs cells slots Q (F0 m pc Ls (st.map (am_cv b sa))) := by
  unfold am_step at hs
  split at hs
  · exact am_cst (Wg := W p l e R s m args below meth c H locs cells slots Q) (fun k => lv_iconst hx hb hdg rfl k) hs hl kk
  · exact am_cst (Wg := W p l e R s m args below meth c H locs cells slots Q) (fun k => lv_bipush hx hb hdg rfl k) hs hl kk
  · exact am_cst (Wg := W p l e R s m args below meth c H locs cells slots Q) (fun k => lv_sipush hx hb hdg rfl k) hs hl kk
  · exact am_cst (Wg := W p l e R s m args below meth c H locs cells slots Q) (fun k => lv_lconst hx hb hdg rfl k) hs hl kk
  · exact am_cst (Wg := W p l e R s m args below meth c H locs cells slots Q) (fun k => lv_null hx hb hdg k) hs hl kk
  · exact am_ldc_ok hx hb hown hts hTG hU hdg hok hs hl kk
  · simp only [am_okI] at hok
    split at hok
    · rw [decide_eq_true_eq] at hok
      exact am_cst (Wg := W p l e R s m args below meth c H locs cells slots Q) (fun k => lv_ldcw hx hb hown (hts _ (hTG _ (am_at_mem hok) rfl)) hdg k) hs hl kk
    · cases hok
  · simp only [am_okI] at hok
    split at hok
    · rw [decide_eq_true_eq] at hok
      exact am_cst (Wg := W p l e R s m args below meth c H locs cells slots Q) (fun k => lv_ldc2 hx hb hown (hts _ (hTG _ (am_at_mem hok) rfl)) hdg k) hs hl kk
    · cases hok
  · refine am_ld_ok (Wg := W p l e R s m args below meth c H locs cells slots Q) (fun v hv ha k => ?_) hs hl kk
    obtain ⟨x, rfl⟩ := am_isI_eq hv
    exact lv_iload_n hx hb hdg rfl ha k
  · refine am_ld_ok (Wg := W p l e R s m args below meth c H locs cells slots Q) (fun v hv ha k => ?_) hs hl kk
    obtain ⟨x, rfl⟩ := am_isI_eq hv
    exact lv_iload hx hb hdg ha k
  · refine am_ld_ok (Wg := W p l e R s m args below meth c H locs cells slots Q) (fun v hv ha k => ?_) hs hl kk
    obtain ⟨x, rfl⟩ := am_isL_eq hv
    exact lv_lload_n hx hb hdg rfl ha k
  · refine am_ld_ok (Wg := W p l e R s m args below meth c H locs cells slots Q) (fun v hv ha k => ?_) hs hl kk
    obtain ⟨x, rfl⟩ := am_isL_eq hv
    exact lv_lload hx hb hdg ha k
  · refine am_ld_ok (Wg := W p l e R s m args below meth c H locs cells slots Q) (fun v hv ha k => ?_) hs hl kk
    rcases am_isA_eq (b := b) (sa := sa) hv with ⟨a, e1⟩ | e1
    · rw [e1] at ha k
      exact lv_aload_n hx hb hdg rfl ha k
    · rw [e1] at ha k
      exact lv_aload_nN hx hb hdg rfl ha k
  · refine am_ld_ok (Wg := W p l e R s m args below meth c H locs cells slots Q) (fun v hv ha k => ?_) hs hl kk
    rcases am_isA_eq (b := b) (sa := sa) hv with ⟨a, e1⟩ | e1
    · rw [e1] at ha k
      exact lv_aload hx hb hdg ha k
    · rw [e1] at ha k
      exact lv_aloadN hx hb hdg ha k
  · have hi := of_decide_eq_true (show decide _ = true from hok)
    refine am_st1_ok (Wg := W p l e R s m args below meth c H locs cells slots Q) (fun v r hv k => ?_) hs kk
    obtain ⟨x, rfl⟩ := am_isI_eq hv
    exact lv_istore_n hx hb hdg rfl hl hi (am_put1_cl b sa ls _ (.int x)) k
  · have hi := of_decide_eq_true (show decide _ = true from hok)
    refine am_st1_ok (Wg := W p l e R s m args below meth c H locs cells slots Q) (fun v r hv k => ?_) hs kk
    obtain ⟨x, rfl⟩ := am_isI_eq hv
    exact lv_istore hx hb hdg hl hi (am_put1_cl b sa ls _ (.int x)) k
  · have hi := of_decide_eq_true (show decide _ = true from hok)
    refine am_st2_ok (Wg := W p l e R s m args below meth c H locs cells slots Q) (fun v r hv k => ?_) hs kk
    obtain ⟨x, rfl⟩ := am_isL_eq hv
    exact lv_lstore_n hx hb hdg rfl hl hi (am_put2_cl b sa ls _ (.long x)) k
  · have hi := of_decide_eq_true (show decide _ = true from hok)
    refine am_st2_ok (Wg := W p l e R s m args below meth c H locs cells slots Q) (fun v r hv k => ?_) hs kk
    obtain ⟨x, rfl⟩ := am_isL_eq hv
    exact lv_lstore hx hb hdg hl hi (am_put2_cl b sa ls _ (.long x)) k
  · rename_i kz
    have hi := of_decide_eq_true (show decide _ = true from hok)
    refine am_st1_ok (Wg := W p l e R s m args below meth c H locs cells slots Q) (fun v r hv k => ?_) hs kk
    have ep := am_put1_cl b sa ls kz v
    rcases am_isA_eq (b := b) (sa := sa) hv with ⟨a, e1⟩ | e1
    · rw [e1] at ep ⊢
      exact lv_astore_n hx hb hdg rfl hl hi ep k
    · rw [e1] at ep ⊢
      exact lv_astore_nN hx hb hdg rfl hl hi ep k
  · rename_i kz
    have hi := of_decide_eq_true (show decide _ = true from hok)
    refine am_st1_ok (Wg := W p l e R s m args below meth c H locs cells slots Q) (fun v r hv k => ?_) hs kk
    have ep := am_put1_cl b sa ls kz v
    rcases am_isA_eq (b := b) (sa := sa) hv with ⟨a, e1⟩ | e1
    · rw [e1] at ep ⊢
      exact lv_astore hx hb hdg hl hi ep k
    · rw [e1] at ep ⊢
      exact lv_astoreN hx hb hdg hl hi ep k
  · have hi := of_decide_eq_true (show decide _ = true from hok)
    refine am_inc_ok (Wg := W p l e R s m args below meth c H locs cells slots Q) (fun x k hk kx => ?_) hs kk
    exact lv_iinc hx hb hdg hl hk rfl hi (am_put1_cl b sa ls _ (.int _)) kx
  · exact am_i2_ok (Wg := W p l e R s m args below meth c H locs cells slots Q) (fun x y r k => lv_iadd hx hb hdg k) hs hl kk
  · exact am_i2_ok (Wg := W p l e R s m args below meth c H locs cells slots Q) (fun x y r k => lv_isub hx hb hdg k) hs hl kk
  · exact am_i2_ok (Wg := W p l e R s m args below meth c H locs cells slots Q) (fun x y r k => lv_imul hx hb hdg k) hs hl kk
  · exact am_i2_ok (Wg := W p l e R s m args below meth c H locs cells slots Q) (fun x y r k => lv_iand hx hb hdg k) hs hl kk
  · exact am_i2_ok (Wg := W p l e R s m args below meth c H locs cells slots Q) (fun x y r k => lv_ior hx hb hdg k) hs hl kk
  · exact am_i2_ok (Wg := W p l e R s m args below meth c H locs cells slots Q) (fun x y r k => lv_ixor hx hb hdg k) hs hl kk
  · exact am_i2_ok (Wg := W p l e R s m args below meth c H locs cells slots Q) (fun x y r k => lv_ishl hx hb hdg k) hs hl kk
  · exact am_i2_ok (Wg := W p l e R s m args below meth c H locs cells slots Q) (fun x y r k => lv_ishr hx hb hdg k) hs hl kk
  · exact am_i2_ok (Wg := W p l e R s m args below meth c H locs cells slots Q) (fun x y r k => lv_iushr hx hb hdg rfl k) hs hl kk
  · exact am_d2_ok (Wg := W p l e R s m args below meth c H locs cells slots Q) (fun x y r h0 k => lv_idiv hx hb hdg h0 k) hs hl kk
  · exact am_d2_ok (Wg := W p l e R s m args below meth c H locs cells slots Q) (fun x y r h0 k => lv_irem hx hb hdg h0 k) hs hl kk
  · exact am_i1_ok (Wg := W p l e R s m args below meth c H locs cells slots Q) (fun x r k => lv_ineg hx hb hdg k) hs hl kk
  · exact am_i1_ok (Wg := W p l e R s m args below meth c H locs cells slots Q) (fun x r k => lv_i2b hx hb hdg rfl k) hs hl kk
  · exact am_i1_ok (Wg := W p l e R s m args below meth c H locs cells slots Q) (fun x r k => lv_i2c hx hb hdg rfl k) hs hl kk
  · exact am_il_ok (Wg := W p l e R s m args below meth c H locs cells slots Q) (fun x r k => lv_i2l hx hb hdg rfl k) hs hl kk
  · exact am_li_ok (Wg := W p l e R s m args below meth c H locs cells slots Q) (fun x r k => lv_l2i hx hb hdg rfl k) hs hl kk
  · exact am_l2_ok (Wg := W p l e R s m args below meth c H locs cells slots Q) (fun x y r k => lv_ladd hx hb hdg k) hs hl kk
  · exact am_l2_ok (Wg := W p l e R s m args below meth c H locs cells slots Q) (fun x y r k => lv_lsub hx hb hdg k) hs hl kk
  · exact am_l2_ok (Wg := W p l e R s m args below meth c H locs cells slots Q) (fun x y r k => lv_lmul hx hb hdg k) hs hl kk
  · exact am_l2_ok (Wg := W p l e R s m args below meth c H locs cells slots Q) (fun x y r k => lv_land hx hb hdg k) hs hl kk
  · exact am_l2_ok (Wg := W p l e R s m args below meth c H locs cells slots Q) (fun x y r k => lv_lor hx hb hdg k) hs hl kk
  · exact am_dl2_ok (Wg := W p l e R s m args below meth c H locs cells slots Q) (fun x y r h0 k => lv_ldiv hx hb hdg h0 k) hs hl kk
  · exact am_dl2_ok (Wg := W p l e R s m args below meth c H locs cells slots Q) (fun x y r h0 k => lv_lrem hx hb hdg h0 k) hs hl kk
  · exact am_l1_ok (Wg := W p l e R s m args below meth c H locs cells slots Q) (fun x r k => lv_lneg hx hb hdg k) hs hl kk
  · exact am_s2_ok (Wg := W p l e R s m args below meth c H locs cells slots Q) (fun x y r k => lv_lshl hx hb hdg rfl k) hs hl kk
  · exact am_s2_ok (Wg := W p l e R s m args below meth c H locs cells slots Q) (fun x y r k => lv_lshr hx hb hdg rfl k) hs hl kk
  · exact am_s2_ok (Wg := W p l e R s m args below meth c H locs cells slots Q) (fun x y r k => lv_lushr hx hb hdg rfl k) hs hl kk
  · exact am_c2_ok (Wg := W p l e R s m args below meth c H locs cells slots Q) (fun x y r k => W.lcmp hx hb hdg k) hs hl kk
  · exact am_dup_ok (Wg := W p l e R s m args below meth c H locs cells slots Q) (fun v r h1 k => lv_dup hx hb hdg h1 k) hs hl kk
  · exact am_pop_ok (Wg := W p l e R s m args below meth c H locs cells slots Q) (fun v r h1 k => lv_pop hx hb hdg h1 k) hs hl kk
  · exact am_pop2_ok (Wg := W p l e R s m args below meth c H locs cells slots Q) (fun v r h1 k => lv_pop2_2 hx hb hdg h1 k) hs hl kk
  · exact am_dupx1_ok (Wg := W p l e R s m args below meth c H locs cells slots Q) (fun v w r h1 h2 k => lv_dup_x1 hx hb hdg h1 h2 k) hs hl kk
  · exact am_dupx2_ok (Wg := W p l e R s m args below meth c H locs cells slots Q) (fun v w z r h1 h2 h3 k => lv_dup_x2 hx hb hdg h1 h2 h3 k) hs hl kk
  · exact am_dup2_ok (Wg := W p l e R s m args below meth c H locs cells slots Q) (fun v w r h1 h2 k => lv_dup2_11 hx hb hdg h1 h2 k) hs hl kk
  · exact am_if_ok hx hb hdg hs hl kk
  · exact am_if2_ok hx hb hdg hs hl kk
  · exact am_jp_ok (Wg := W p l e R s m args below meth c H locs cells slots Q) (fun tgt ht k => lv_goto hx hb hdg ht k) hs hl kk
  · exact am_nul_ok (Or.inl ⟨rfl, rfl⟩) hx hb hdg hs hl kk
  · exact am_nul_ok (Or.inr ⟨rfl, rfl⟩) hx hb hdg hs hl kk
  · exact am_sw_ok hx hb hdg hs hl kk
  · exact am_lsw_ok hx hb hdg hs hl kk
  · exact am_rdI_ok (Or.inl ⟨rfl, rfl⟩) hx hb hU hP hS hdg hs hl kk
  · exact am_rdI_ok (Or.inr ⟨rfl, rfl⟩) hx hb hU hP hS hdg hs hl kk
  · exact am_rdL_ok hx hb hU hP hdg hs hl kk
  · exact am_alen_ok hx hb hU hP hS hdg hs hl kk
  · exact am_gf_ok hx hb hown hts hTG hCL hU hP hS hdg hok hcl hs hl kk
  · unfold am_gs at hs
    split at hs
    · rename_i v hv
      simp only [am_okI] at hok
      split at hok
      · split at hok
        · rename_i C n d hz
          rw [decide_eq_true_eq] at hok
          exact am_cst (Wg := W p l e R s m args below meth c H locs cells slots Q) (fun k => va_gets hx hb (hU.2.2.2.2.1 _ _ _ _ _ hz hv) hS hown (hts _ (hTG _ (am_at_mem hok) rfl)) (fun x hx => hx) hdg k) hs hl kk
        · cases hok
      · cases hok
    · cases hs
  · cases hs
end AMS
