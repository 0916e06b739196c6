section AMC
variable {p : Program} {l : Launch} {e : Env} {R : Room} {s : State} {m : MethodId} {args : Array Value} {below : List Frame} {meth : Method} {c : Code} {H : Heap} {locs : List Loc} {cells slots : Nat} {Q : State → Prop}
variable {pc nL n0 : Nat} {Ls : Array Slot} {D : va_G} {cl : List vw_C} {K : Nat → ClassId} {b : Nat} {sa : Nat → Nat} {Tc : List (List Cond)} {G Ns : List Cond} {Rs : am_Rs} {Zs : am_Zs} {E : am_E} {T : List am_M} {ls : am_L} {st : List Value} {h : am_H} {num : Int} {lk : am_K} {M M2 : am_M} {d n mc ms : Nat} {v : Option Value} {h2 : am_H}
theorem am_goodIn (hO : am_OK E T cl Tc G Ns Rs Zs) {j : Nat} (hj : 0 < j) (hM : T[j]? = some M2) : GoodIn G (am_ws M2 G) := by
  intro w hw
  have hg : w ∈ G := by
    rcases List.mem_cons.mp hw with rfl | hw
    · exact (hO.2.2.2.2.2.2.1 j M2 hj hM).1
    · exact hw
  exact ⟨hg, good_of_word (hO.2.1 w hg)⟩
theorem am_room (hd : d + 1 ≤ R.frames) (hl : 60 * (d + 1) ≤ R.locals) (hm : M2.2.2.1 ≤ 41) : (am_rm d mc ms).frames + 1 ≤ R.frames ∧ 8 + (M2.2.2.1 + 11) + (am_rm d mc ms).locals ≤ R.locals := by
  refine ⟨hd, ?_⟩
  show 8 + (M2.2.2.1 + 11) + 60 * d ≤ R.locals
  omega
theorem am_hW {r : List Value} (hr : am_sum r ≤ 8) : 2 * (F0 m pc Ls (st.map (am_cv b sa))).monitorRoom + ((r.map (am_cv b sa)).map fun v => v.category).sum ≤ 8 := by
  have h1 := am_sum_cv b sa r
  unfold am_sum at h1 hr
  exact lv_room (by rw [h1]; exact hr)
theorem am_stack (r : List Value) (n : Nat) (hr : st.drop n = r) : st.map (am_cv b sa) = (((st.take n).reverse).map (am_cv b sa)).reverse ++ r.map (am_cv b sa) := by
  rw [List.map_reverse, List.reverse_reverse, ← List.map_append, ← hr, List.take_append_drop]
theorem am_nlen {z : Value} {r : List Value} (hr : st.drop n = z :: r) : (((st.take n).reverse).map (am_cv b sa)).length = n := by
  have h1 : n < st.length := by
    rcases Nat.lt_or_ge n st.length with q | q
    · exact q
    · rw [List.drop_eq_nil_iff.mpr q] at hr; cases hr
  simp
  omega
/-- what a call asks of the tables, for the callee number j -/
theorem am_callB (hO : am_OK E T cl Tc G Ns Rs Zs) (hts : ∀ w ∈ G, w.before args s = true) {j idx : Nat} (hj : 0 < j) (hM : T[j]? = some M2) (hn : (parseMethodDescriptor M2.1.desc).map (fun d => d.parameters.length) = some n) (hl : (Cond.methodLink M.1.cls idx M2.1).before args s = true) (hR : (am_rm d mc ms).frames + 1 ≤ R.frames ∧ 8 + (M2.2.2.1 + 11) + (am_rm d mc ms).locals ≤ R.locals) : CallB R s args M.1.cls idx M2.1 M2.2.1 M2.2.2.1 M2.2.2.2.1 (am_ws M2 G) (am_rm d mc ms) mc ms n := by
  obtain ⟨-, hini, -, hmh⟩ := hO.2.2.2.2.2.2.1 j M2 hj hM
  exact callB_of n hts (am_goodIn hO hj hM) rfl rfl rfl (hts _ hini) hl ⟨hmh.1, hmh.2, hn⟩ hR
theorem am_callN (hO : am_OK E T cl Tc G Ns Rs Zs) (hts : ∀ w ∈ G, w.before args s = true) {j idx : Nat} {ho : String} (hj : 0 < j) (hM : T[j]? = some M2) (hn : (parseMethodDescriptor M2.1.desc).map (fun d => d.parameters.length) = some n) (hl : va_Nw (.methodLinkNest M.1.cls idx M2.1 ho) s) (hR : (am_rm d mc ms).frames + 1 ≤ R.frames ∧ 8 + (M2.2.2.1 + 11) + (am_rm d mc ms).locals ≤ R.locals) : va_CN R s args M.1.cls idx M2.1 ho M2.2.1 M2.2.2.1 M2.2.2.2.1 (am_ws M2 G) (am_rm d mc ms) mc ms n := by
  obtain ⟨-, hini, -, hmh⟩ := hO.2.2.2.2.2.2.1 j M2 hj hM
  exact va_cnB n hts (am_goodIn hO hj hM) rfl rfl rfl hl (hts _ hini) ⟨hmh.1, hmh.2, hn⟩ hR
/-- a receiver's class -/
theorem am_recv {v : Value} {ci : Nat} {C : String} (hcl : cl.length ≤ 1000) (hU : am_U D cl K b sa Ns Rs Zs E s) (hP : va_P D cl (am_W K b sa h) H) (hS : va_S (fun q => b ≤ q) s.heap H locs) (hv : am_cls E h v = some ci) (hC : am_cn cl ci = some C) : ∃ a : Nat, am_cv b sa v = .ref a ∧ ∃ cellB : Cell, H[a]? = some cellB ∧ cellB.vm.isStatics = false ∧ s.vm.findClass C = some cellB.cls := by
  unfold am_cls at hv
  split at hv
  · rename_i a
    split at hv
    · rename_i ci' fs hc
      cases hv
      refine ⟨b + a, rfl, ?_⟩
      obtain ⟨r1, hr1, -⟩ := hP a _ (am_W_at hc)
      have hlt := (List.getElem?_eq_some_iff.mp hr1).1
      simp only at hlt
      unfold am_cn at hC
      rw [if_neg (by omega)] at hC
      cases hq : cl[ci]? with
      | none => rw [hq] at hC; cases hC
      | some q =>
        rw [hq] at hC
        cases hC
        exact va_recv hU.1 hP hq (am_W_at hc)
    · cases hv
  · rename_i k
    split at hv
    · rename_i hk
      cases hv
      cases hC
      exact ⟨sa k, rfl, vk_recv hU.2.2.1 hk.1 hS⟩
    · cases hv
  · cases hv
theorem am_run_ok (hO : am_OK E T cl Tc G Ns Rs Zs) (C : am_Cx p s m meth c args M G) (hU : am_U D cl K b sa Ns Rs Zs E s) (hz : H.size = b + h.length) (hP : va_P D cl (am_W K b sa h) H) (hS : va_S (fun q => b ≤ q) s.heap H locs) (hl : lv_has Ls M.2.2.1 (am_cl b sa ls)) {i : Instr} {j : Nat} {as r : List Value} (hdg : decode M.2.1 pc = .ok (i, 3)) (hok : am_okI Tc Ns Rs Zs cl T M.1.cls M.1.name M.2.2.1 i num lk = true) (hc : am_call E h i lk st = some (j, as, r)) (hne : lk ≠ []) (hnp : ¬ am_isP lk = true) (hM : T[j]? = some M2) (hr8 : am_sum r ≤ 8) (hm41 : M2.2.2.1 ≤ 41) (hd : d + 1 ≤ R.frames) (hlo : 60 * (d + 1) ≤ R.locals) (hf : cells + mc ≤ R.cells ∧ slots + ms ≤ R.slots)
    (hMet : Met l M2.1 (am_ws M2 G) (am_rm d mc ms) (va_Pc (as.map (am_cv b sa)) (am_Pre D cl K b sa Ns Rs Zs E h)) (am_Post D cl K b sa Ns Rs Zs E v h2) mc ms (fun q => b ≤ q)) :
    va_Run p l e R s m args below meth c H locs cells slots mc ms (F0 m pc Ls (st.map (am_cv b sa))) (r.map (am_cv b sa)) (am_Post D cl K b sa Ns Rs Zs E v h2 (as.map (am_cv b sa)).toArray) (fun q => b ≤ q) := by
  obtain ⟨hx, hb, hml, hown, hts, -, -, -⟩ := C
  obtain ⟨hTG, hGG, hNs, hCL, hcl, -, hTM, -⟩ := id hO
  have hR := am_room (mc := mc) (ms := ms) hd hlo hm41
  unfold am_call at hc
  split at hc
  · rename_i k0 j0 n dat tl
    split at hc
    · -- static
      rename_i idx
      split at hc
      · rename_i hn
        cases hc
        simp only [am_okI, if_neg hnp, Bool.and_eq_true] at hok
        have hq := List.all_eq_true.mp hok.2 _ (List.mem_cons_self)
        unfold am_okC at hq
        split at hq
        · rename_i j1 n1 kind p1 p2 p3 p4 p5 more hd1
          cases hd1
          rw [hM] at hq
          simp only [Bool.and_eq_true, decide_eq_true_eq] at hq
          obtain ⟨⟨hj, hnq⟩, hq⟩ := hq
          split at hq
          · rename_i idx' e1 e2
            cases e2
            simp only [Bool.and_eq_true, decide_eq_true_eq] at hq
            obtain ⟨h1, h3⟩ := hq
            exact va_runS (As := ((st.take n).reverse).map (am_cv b sa)) ⟨hx, hb, hml, hown, hts⟩ hMet ⟨am_callB hO hts hj hM hnq (hts _ (hTG _ (am_at_mem h1) rfl)) hR, hts _ (hTG _ (am_at_mem h3) rfl)⟩ ⟨am_blind hNs _, am_pre hNs hU hP hS hz _⟩ rfl (by simp; omega) hl.1 (am_stack _ n rfl) (am_hW hr8) hdg hf
          · rename_i idx' e1 e2
            cases e2
            split at hq
            · simp only [Bool.and_eq_true, decide_eq_true_eq] at hq
              obtain ⟨h1, h3⟩ := hq
              exact va_runSN (As := ((st.take n).reverse).map (am_cv b sa)) ⟨hx, hb, hml, hown, hts⟩ hMet ⟨am_callN hO hts hj hM hnq (hU.2.1 _ (List.mem_of_getElem? h1)) hR, hts _ (hTG _ (am_at_mem h3) rfl), trivial⟩ ⟨am_blind hNs _, am_pre hNs hU hP hS hz _⟩ rfl (by simp; omega) hl.1 (am_stack _ n rfl) (am_hW hr8) hdg hf
            · cases hq
          all_goals first | (rename_i e2; cases e2; done) | cases hq
        · cases hq
      · cases hc
    · -- special
      rename_i idx
      split at hc
      · rename_i a r1 hdr
        cases hc
        have hq0 : ((k0, j :: n :: dat) :: tl).all (fun q => am_okC Tc Ns cl T M.1.cls (.invokespecial idx) q.1 q.2) = true := (Bool.and_eq_true_iff.mp (show (!am_isP ((k0, j :: n :: dat) :: tl) && _) = true from hok)).2
        have hq := List.all_eq_true.mp hq0 _ (List.mem_cons_self)
        unfold am_okC at hq
        split at hq
        · rename_i j1 n1 kind p1 p2 p3 p4 p5 more hd1
          cases hd1
          rw [hM] at hq
          simp only [Bool.and_eq_true, decide_eq_true_eq] at hq
          obtain ⟨⟨hj, hnq⟩, hq⟩ := hq
          split at hq
          all_goals first | (rename_i e2; cases e2; done) | skip
          · rename_i idx' e1 e2
            cases e2
            simp only [Bool.and_eq_true, decide_eq_true_eq] at hq
            obtain ⟨⟨⟨h1, h3⟩, h4⟩, h5⟩ := hq
            have cb := am_callB (M := M) (d := d) (mc := mc) (ms := ms) hO hts hj hM hnq (hts _ (hTG _ (am_at_mem h1) rfl)) hR
            rw [h5] at cb
            exact va_runI (b := b + a) (As := ((st.take n).reverse).map (am_cv b sa)) ⟨hx, hb, hml, hown, hts⟩ hMet ⟨cb, h4, hts _ (hTG _ (am_at_mem h3) rfl)⟩ ⟨am_blind hNs _, am_pre hNs hU hP hS hz (.ref (b + a) :: ((st.take n).reverse).map (am_cv b sa))⟩ rfl (am_nlen hdr) hl.1 (am_stack _ n hdr) (am_hW hr8) hdg hf
          · rename_i idx' e1 e2
            cases e2
            split at hq
            · simp only [Bool.and_eq_true, decide_eq_true_eq] at hq
              obtain ⟨⟨⟨h1, h3⟩, h4⟩, h5⟩ := hq
              have cb := am_callN (M := M) (d := d) (mc := mc) (ms := ms) hO hts hj hM hnq (hU.2.1 _ (List.mem_of_getElem? h1)) hR
              rw [h5] at cb
              exact va_runIN (b := b + a) (As := ((st.take n).reverse).map (am_cv b sa)) ⟨hx, hb, hml, hown, hts⟩ hMet ⟨cb, h4, hts _ (hTG _ (am_at_mem h3) rfl)⟩ ⟨am_blind hNs _, am_pre hNs hU hP hS hz (.ref (b + a) :: ((st.take n).reverse).map (am_cv b sa))⟩ rfl (am_nlen hdr) hl.1 (am_stack _ n hdr) (am_hW hr8) hdg hf
            · cases hq
          · cases hq
        · cases hq
      · cases hc
    · -- virtual
      rename_i idx
      split at hc
      · rename_i w r1 hdr
        split at hc
        · rename_i ci hci
          split at hc
          · rename_i j' n' dat' hkey
            split at hc
            · rename_i en
              cases hc
              subst en
              simp only [am_okI, Bool.and_eq_true] at hok
              have hq := List.all_eq_true.mp hok.2 _ (am_key_mem hkey)
              unfold am_okC at hq
              split at hq
              · rename_i j1 n1 kind p1 p2 p3 p4 p5 more hd1
                cases hd1
                rw [hM] at hq
                simp only [Bool.and_eq_true, decide_eq_true_eq] at hq
                obtain ⟨⟨hj, hnq⟩, hq⟩ := hq
                obtain ⟨hcode, hini, -, hmh⟩ := hTM j M2 hj hM
                have hpre := am_pre hNs hU hP hS hz ((w :: (st.take n').reverse).map (am_cv b sa))
                split at hq
                all_goals first | (rename_i e2; cases e2; done) | skip
                · rename_i idx' e1 e2
                  cases e2
                  split at hq
                  · rename_i C hC
                    simp only [Bool.and_eq_true, decide_eq_true_eq] at hq
                    obtain ⟨⟨h1, h3⟩, h4⟩ := hq
                    obtain ⟨a, ea, hrecv⟩ := am_recv hcl hU hP hS hci hC
                    rw [List.map_cons, ea] at hMet hpre ⊢
                    exact va_runV (b := a) (C := C) (As := ((st.take n').reverse).map (am_cv b sa)) ⟨hx, hb, hml, hown, hts⟩ hMet ⟨am_callB hO hts hj hM hnq (hts _ (hTG _ (am_at_mem h1) rfl)) hR, hts _ (hTG _ (am_at_mem h3) rfl), hts _ (hTG _ (am_at_mem h4) rfl)⟩ ⟨am_blind hNs _, hrecv, hpre⟩ rfl (am_nlen hdr) hl.1 (by rw [am_stack _ n' hdr, List.map_cons, ea]) (am_hW hr8) hdg hf
                  · cases hq
                · rename_i idx' e1 e2
                  cases e2
                  split at hq
                  · rename_i C ho e5 e6 e7 hC hN
                    simp only [Bool.and_eq_true, decide_eq_true_eq] at hq
                    obtain ⟨⟨h1, h3⟩, h4⟩ := hq
                    obtain ⟨a, ea, hrecv⟩ := am_recv hcl hU hP hS hci hC
                    rw [List.map_cons, ea] at hMet hpre ⊢
                    exact va_runVN (b := a) (C := C) (As := ((st.take n').reverse).map (am_cv b sa)) ⟨hx, hb, hml, hown, hts⟩ hMet ⟨am_callN hO hts hj hM hnq (hU.2.1 _ (List.mem_of_getElem? h1)) hR, hts _ (hTG _ (am_at_mem h3) rfl), hts _ (hTG _ (am_at_mem h4) rfl)⟩ ⟨am_blind hNs _, hrecv, hpre⟩ rfl (am_nlen hdr) hl.1 (by rw [am_stack _ n' hdr, List.map_cons, ea]) (am_hW hr8) hdg hf
                  · cases hq
                · rename_i idx' e1 e2
                  cases e2
                  split at hq
                  · rename_i C w1 w2 x w3 o w4 w5 hC hX hY
                    simp only [Bool.and_eq_true, decide_eq_true_eq] at hq
                    obtain ⟨⟨⟨⟨h1, h3⟩, h4⟩, h5⟩, h6⟩ := hq
                    obtain ⟨a, ea, hrecv⟩ := am_recv hcl hU hP hS hci hC
                    rw [List.map_cons, ea] at hMet hpre ⊢
                    have hg : GoodIn G (va_wsU M.1.cls idx C o x M2.1 (am_ws M2 G)) := by
                      intro z hz
                      rcases List.mem_append.mp hz with hz | hz
                      · simp only [List.mem_cons, List.not_mem_nil, or_false] at hz
                        have hg : z ∈ G := by
                          rcases hz with rfl | rfl | rfl | rfl | rfl
                          · exact hTG _ (am_at_mem h1) rfl
                          · exact hTG _ (am_at_mem h5) rfl
                          · exact hTG _ (am_at_mem h4) rfl
                          · exact hTG _ (am_at_mem h3) rfl
                          · exact hini
                        exact ⟨hg, good_of_word (hGG z hg)⟩
                      · exact am_goodIn hO hj hM z hz
                    have ho : o = M2.1.cls := by rw [h6]
                    have hxd : M2.1.desc = x.desc := by rw [h6]
                    exact va_runU (b := a) (C := C) (owner := o) (As := ((st.take n').reverse).map (am_cv b sa)) ⟨hx, hb, hml, hown, hts⟩ hMet (va_cwU n' hts hg rfl rfl rfl h6 ⟨by rw [ho]; exact hmh.1, by rw [ho]; exact hmh.2, by rw [← hxd]; exact hnq⟩ hR) ⟨am_blind hNs _, hrecv, hpre⟩ rfl (am_nlen hdr) hl.1 (by rw [am_stack _ n' hdr, List.map_cons, ea]) (am_hW hr8) hdg hf
                  · cases hq
                · rename_i idx' e1 e2
                  cases e2
                  split at hq
                  · rename_i C w1 w2 x w3 o w4 w5 hC hX hY
                    simp only [Bool.and_eq_true, decide_eq_true_eq] at hq
                    obtain ⟨⟨⟨⟨⟨⟨⟨h1, h3⟩, h4⟩, h5⟩, h6⟩, h7⟩, h8⟩, h9⟩ := hq
                    obtain ⟨a, ea, hrecv⟩ := am_recv hcl hU hP hS hci hC
                    rw [List.map_cons, ea] at hMet hpre ⊢
                    have hg : GoodIn G (va_wsU M.1.cls idx C o x M2.1 (am_ws M2 G)) := by
                      intro z hz
                      rcases List.mem_append.mp hz with hz | hz
                      · simp only [List.mem_cons, List.not_mem_nil, or_false] at hz
                        have hg : z ∈ G := by
                          rcases hz with rfl | rfl | rfl | rfl | rfl
                          · exact hTG _ (am_at_mem h1) rfl
                          · exact hTG _ (am_at_mem h5) rfl
                          · exact hTG _ (am_at_mem h4) rfl
                          · exact hTG _ (am_at_mem h3) rfl
                          · exact hini
                        exact ⟨hg, good_of_word (hGG z hg)⟩
                      · exact am_goodIn hO hj hM z hz
                    exact va_runU (b := a) (C := C) (owner := o) (As := ((st.take n').reverse).map (am_cv b sa)) ⟨hx, hb, hml, hown, hts⟩ hMet (va_cwA n' hts hg rfl rfl rfl (hU.2.1 _ (List.mem_of_getElem? h6)) ⟨h7, h8, by rw [← h9]; exact hnq⟩ hR) ⟨am_blind hNs _, hrecv, hpre⟩ rfl (am_nlen hdr) hl.1 (by rw [am_stack _ n' hdr, List.map_cons, ea]) (am_hW hr8) hdg hf
                  · cases hq
                · cases hq
              · cases hq
            · cases hc
          · cases hc
        · cases hc
      · cases hc
    · cases hc
  · cases hc
end AMC
