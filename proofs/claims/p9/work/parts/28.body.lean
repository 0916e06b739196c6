theorem am_sort3 {i : Instr} (h0 : am_sort i = 0 → False) (h1 : am_sort i = 1 → False) (h2 : am_sort i = 2 → False) : (∃ k, i = .invokestatic k) ∨ (∃ k, i = .invokespecial k) ∨ ∃ k, i = .invokevirtual k := by
  cases i <;> first | exact absurd rfl h0 | exact absurd rfl h1 | exact absurd rfl h2 | exact Or.inl ⟨_, rfl⟩ | exact Or.inr (Or.inl ⟨_, rfl⟩) | exact Or.inr (Or.inr ⟨_, rfl⟩)
theorem am_okC_pos {Tc : List (List Cond)} {Ns : List Cond} {cl : List vw_C} {T : List am_M} {own : String} {i : Instr} {ci j : Nat} {dat : List Nat} (h : am_okC Tc Ns cl T own i ci (j :: dat) = true) : 0 < j := by
  unfold am_okC at h
  split at h
  · rename_i e1
    cases e1
    split at h
    · cases h
    · simp only [Bool.and_eq_true, decide_eq_true_eq] at h
      exact h.1.1
  · cases h
theorem am_call_pos {E : am_E} {Tc : List (List Cond)} {Ns : List Cond} {Rs : am_Rs} {Zs : am_Zs} {cl : List vw_C} {T : List am_M} {own nm : String} {nL : Nat} {num : Int} {h : am_H} {i : Instr} {lk : am_K} {st : List Value} {C : Nat × List Value × List Value} (hok : am_okI Tc Ns Rs Zs cl T own nm nL i num lk = true) (hnp : ¬ am_isP lk = true) (hc : am_call E h i lk st = some C) : 0 < C.1 := by
  unfold am_call at hc
  split at hc
  · rename_i k0 j0 n dat tl
    split at hc
    · split at hc
      · cases hc
        simp only [am_okI, if_neg hnp, Bool.and_eq_true] at hok
        exact am_okC_pos (List.all_eq_true.mp hok.2 _ (List.mem_cons_self))
      · cases hc
    · rename_i idx
      split at hc
      · cases hc
        have hq0 : ((k0, j0 :: n :: dat) :: tl).all (fun q => am_okC Tc Ns cl T own (.invokespecial idx) q.1 q.2) = true := (Bool.and_eq_true_iff.mp (show (!am_isP ((k0, j0 :: n :: dat) :: tl) && _) = true from hok)).2
        exact am_okC_pos (List.all_eq_true.mp hq0 _ (List.mem_cons_self))
      · cases hc
    · split at hc
      · split at hc
        · split at hc
          · rename_i j' n' dat' hkey
            split at hc
            · cases hc
              simp only [am_okI, Bool.and_eq_true] at hok
              exact am_okC_pos (List.all_eq_true.mp hok.2 _ (am_key_mem hkey))
            · cases hc
          · cases hc
        · cases hc
      · cases hc
    · cases hc
  · cases hc
/-- the run of a body is a walk of the machine -/
def am_B (l : Launch) (E : am_E) (T : List am_M) (cl : List vw_C) (G Ns : List Cond) (Rs : am_Rs) (Zs : am_Zs) (D : va_G) (K : Nat → ClassId) (b : Nat) (sa : Nat → Nat) (n : Nat) : Prop :=
  ∀ (d j pc : Nat) (M : am_M) (ls : am_L) (st : List Value) (h : am_H) (v : Option Value) (h' : am_H), T[j]? = some M → am_ex E T n d j pc ls st h = some (v, h') →
  ∀ (p : Program) (e : Env) (R : Room) (s : State) (m : MethodId) (args : Array Value) (below : List Frame) (meth : Method) (c : Code) (H : Heap) (locs : List Loc) (cells slots n0 tc ts : Nat) (Q : State → Prop) (Ls : Array Slot),
  am_Cx p s m meth c args M G → am_U D cl K b sa Ns Rs Zs E s → s.heap.size = b + n0 → cells + n0 = h.length → va_P D cl (am_W K b sa h) H → va_S (fun q => b ≤ q) s.heap H locs → lv_has Ls M.2.2.1 (am_cl b sa ls) →
  d ≤ R.frames → 60 * d ≤ R.locals → tc = cells + (h'.length - h.length) → ts = slots + (am_sz h' - am_sz h) → tc ≤ R.cells → ts ≤ R.slots →
  (∀ (pc' : Nat) (i : Instr) (num : Int) (H1 : Heap) (locs1 : List Loc) (Ls1 : Array Slot), am_ret M.2.2.2.1 i v.toList = some v → decode c.code pc' = .ok (i, am_len i num) → va_P D cl (am_W K b sa h') H1 → va_S (fun q => b ≤ q) s.heap H1 locs1 → W p l e R s m args below meth c H1 locs1 tc ts Q (F0 m pc' Ls1 (v.toList.map (am_cv b sa)))) →
  W p l e R s m args below meth c H locs cells slots Q (F0 m pc Ls (st.map (am_cv b sa)))
section AMB
variable {l : Launch} {E : am_E} {T : List am_M} {cl : List vw_C} {Tc : List (List Cond)} {G Ns : List Cond} {Rs : am_Rs} {Zs : am_Zs} {D : va_G} {K : Nat → ClassId} {b : Nat} {sa : Nat → Nat}
/-- A METHOD's CONTRACT out of its run -/
theorem am_met_of {n : Nat} (hO : am_OK E T cl Tc G Ns Rs Zs) (hB : am_B l E T cl G Ns Rs Zs D K b sa n) {d j : Nat} {M : am_M} {as : List Value} {h : am_H} {v : Option Value} {h' : am_H} (hj : 0 < j) (hM : T[j]? = some M) (ha : am_sum as ≤ M.2.2.1) (hex : am_ex E T n d j 0 (lv_args 0 as) [] h = some (v, h')) :
    Met l M.1 (am_ws M G) (am_rm d (h'.length - h.length) (am_sz h' - am_sz h)) (va_Pc (as.map (am_cv b sa)) (am_Pre D cl K b sa Ns Rs Zs E h)) (am_Post D cl K b sa Ns Rs Zs E v h') (h'.length - h.length) (am_sz h' - am_sz h) (fun q => b ≤ q) := by
  obtain ⟨-, -, hpl, -⟩ := hO.2.2.2.2.2.2.1 j M hj hM
  refine Met.ofW (cc := M.2.1) (maxL := M.2.2.1) (ret := M.2.2.2.1) hpl rfl ?_
  intro p e s m args below meth c s₁ B hml hv
  obtain ⟨rfl, hsz, hP, hU⟩ := hv
  have hts := atoms_spec (ws := am_ws M G) B.pre
  have hlocks := B.notSynchronized
  have hl := lv_entry (as.map (am_cv b sa)) (n := M.2.2.1) (by rw [am_wid, am_sum_cv]; exact ha)
  rw [am_args_cv] at hl
  rw [lg_entry_eq]
  refine hB d j 0 M (lv_args 0 as) [] h v h' hM hex p e _ s m _ below meth c s.heap [] 0 0 h.length (h'.length - h.length) (am_sz h' - am_sz h) _ _ ⟨B.exec, B.bytes, hml, findClass_of_methodNamed B.named, fun w hw => hts w (List.mem_cons_of_mem _ hw), (name_of_methodNamed B.named B.method).1, B.returns, hlocks⟩ hU hsz (by omega) hP va_S.rf hl (Nat.le_refl _) (Nat.le_refl _) (by omega) (by omega) (Nat.le_refl _) (Nat.le_refl _) ?_
  intro pc' i num H1 locs1 Ls1 hr hdg hP1 hS1
  have hb : c.code = M.2.1 := B.bytes
  rw [hb] at hdg
  have hret := B.returns
  have post : ∀ t : State, t.heap = H1 → s.WarmedH t.vm → am_Post D cl K b sa Ns Rs Zs E v h' (as.map (am_cv b sa)).toArray s (.returned (v.map (am_cv b sa))) t := fun t ht hW => ⟨rfl, by rw [ht]; exact hP1, hS1.F ht⟩
  unfold am_ret at hr
  split at hr
  · rename_i e1
    split at hr
    · rename_i e2
      cases hr
      exact W.vret B.exec hb (by rw [hret]; exact e2) post hS1.2.2 hdg
    · cases hr
  · rename_i x e1
    split at hr
    · rename_i e2
      cases hr
      exact W.iret B.exec hb (by rw [hret]; exact e2) post hS1.2.2 hdg
    · rename_i e2
      split at hr
      · rename_i hx
        cases hr
        exact W.zret (ty := .boolean) B.exec hb (by rw [hret]; exact e2) (by rcases hx with rfl | rfl <;> decide) post hS1.2.2 hdg
      · cases hr
    · rename_i e2
      split at hr
      · rename_i hx
        cases hr
        exact W.zret (ty := .char) B.exec hb (by rw [hret]; exact e2) hx post hS1.2.2 hdg
      · cases hr
    · rename_i e2
      split at hr
      · rename_i hx
        cases hr
        exact W.zret (ty := .byte) B.exec hb (by rw [hret]; exact e2) hx post hS1.2.2 hdg
      · cases hr
    · cases hr
  · rename_i x e1
    split at hr
    · rename_i e2
      cases hr
      exact W.lret B.exec hb (by rw [hret]; exact e2) post hS1.2.2 hdg
    · cases hr
  · cases hr
set_option maxHeartbeats 4000000 in
/-- THE RUN IS A WALK -/
theorem am_body (hO : am_OK E T cl Tc G Ns Rs Zs) : ∀ n, am_B l E T cl G Ns Rs Zs D K b sa n := by
  intro n
  induction n with
  | zero => intro d j pc M ls st h v h' _ hex; cases hex
  | succ n ih =>
    intro d j pc M ls st h v h' hM hex p e R s m args below meth c H locs cells slots n0 tc ts Q Ls C hU hz hn hP hS hl hd hlo htc hts' hRc hRs kr
    obtain ⟨hTG, hGG, hNs, hCL, hcl, hOI, hTM, hTQ⟩ := id hO
    obtain ⟨hx, hb, hml, hown, hts, hnm, hret, hlocks⟩ := id C
    unfold am_ex at hex
    rw [hM] at hex
    simp only at hex
    split at hex
    · cases hex
    · rename_i q hq
      obtain ⟨hq1, hq2⟩ := am_find_mem hq
      have hokq := hTQ j M hM q hq1
      unfold am_okQ at hokq
      rw [Bool.and_eq_true] at hokq
      obtain ⟨hdg0, hok⟩ := hokq
      have hdg := of_decide_eq_true hdg0
      rw [hq2] at hdg
      split at hex
      · split at hex
        · cases hex
        · rename_i S hst
          exact am_step_ok hx hb hown hts hTG hCL hcl hU hP hS hdg hok hst hl (fun Ls' hl' => ih d j S.1 M S.2.1 S.2.2 h v h' hM hex p e R s m args below meth c H locs cells slots n0 tc ts Q Ls' C hU hz hn hP hS hl' hd hlo htc hts' hRc hRs kr)
      · split at hex
        · cases hex
        · rename_i w hw
          cases hex
          have e1 := am_ret_st hw
          rw [e1] at hw ⊢
          have h1 := kr pc q.2.1 q.2.2.1 H locs Ls hw (by rw [hb]; exact hdg) hP hS
          rw [htc, hts', Nat.sub_self, Nat.sub_self, Nat.add_zero, Nat.add_zero] at h1
          exact h1
      · split at hex
        · cases hex
        · rename_i S hst
          have m1 := am_hs_mono hst
          have m2 := am_ex_mono _ _ _ _ _ _ _ _ _ hex
          exact am_hs_ok hx hb hown hnm hts hTG hCL hU hz hn hP hS hdg hok hst ⟨by omega, by omega⟩ (fun H1 locs1 hP1 hS1 => ih d j _ M ls S.1 S.2 v h' hM hex p e R s m args below meth c H1 locs1 _ _ n0 tc ts Q Ls C hU hz (by omega) hP1 hS1 hl hd hlo (by omega) (by omega) hRc hRs kr)
      · rename_i hs0 hs1 hs2
        have hi3 := am_sort3 hs0 hs1 hs2
        have hlen : am_len q.2.1 q.2.2.1 = 3 := by
          rcases hi3 with ⟨k, e⟩ | ⟨k, e⟩ | ⟨k, e⟩ <;> rw [e] <;> rfl
        rw [hlen] at hdg
        split at hex
        · cases hex
        · rename_i d'
          split at hex
          · rename_i hlk
            split at hex
            · rename_i a r
              split at hex
              · rename_i h8
                rw [hlk] at hok
                have hi : ∃ idx, q.2.1 = .invokespecial idx ∧ (Cond.methodLink M.1.cls idx objectInit).before args s = true := by
                  rcases hi3 with ⟨k, e⟩ | ⟨k, e⟩ | ⟨k, e⟩
                  · rw [e] at hok
                    cases hok
                  · rw [e] at hok
                    exact ⟨k, e, hts _ (hTG _ (am_at_mem (of_decide_eq_true (show decide _ = true from hok))) rfl)⟩
                  · rw [e] at hok
                    cases hok
                obtain ⟨idx, hi1, hi2⟩ := hi
                rw [hi1] at hdg
                have h8' := am_hW (m := m) (pc := pc) (Ls := Ls) (st := .ref a :: r) (b := b) (sa := sa) h8
                refine W.objInit hx hb hown hi2 (hts _ hOI.1) (hts _ hOI.2) rfl (by rw [hml]; exact hl.1) rfl hdg (by omega) (Nat.le_trans (Nat.add_le_add_right h8' 12) (by omega)) ?_
                exact ih (d' + 1) j (pc + 3) M ls r h v h' hM hex p e R s m args below meth c H locs cells slots n0 tc ts Q Ls C hU hz hn hP hS hl hd hlo htc hts' hRc hRs kr
              · cases hex
            · cases hex
          · rename_i hlk
            split at hex
            · rename_i hip
              split at hex
              · cases hex
              · rename_i P hmath
                split at hex
                · rename_i h8
                  have h13 : (P.2.map (am_cv b sa)).map (fun v => v.category) = P.2.map (fun v => v.category) := by
                    rw [List.map_map]
                    apply List.map_congr_left
                    intro z _
                    exact am_cat b sa z
                  have h8' : ((P.2.map (am_cv b sa)).map fun v => v.category).sum + 13 ≤ R.locals := by
                    rw [h13]
                    unfold am_sum at h8
                    omega
                  have hce := am_ex_mono _ _ _ _ _ _ _ _ _ hex
                  have go := ih (d' + 1) j (pc + 3) M ls P.1 h v h' hM hex p e R s m args below meth c H locs cells slots n0 tc ts Q Ls C hU hz hn hP hS hl hd hlo htc hts' hRc hRs kr
                  rcases hi3 with ⟨k, e1⟩ | ⟨k, e1⟩ | ⟨k, e1⟩
                  · rw [e1] at hok hdg
                    simp only [am_okI, if_pos hip] at hok
                    unfold am_math at hmath
                    split at hmath
                    · rename_i hq4
                      cases hmath
                      rw [hq4] at hok
                      unfold am_okM at hok
                      split at hok
                      · simp only [Bool.and_eq_true, decide_eq_true_eq] at hok
                        obtain ⟨⟨⟨g1, g2⟩, g3⟩, g4⟩ := hok
                        exact va_mmax hx hb (hml.trans hl.1.symm) hown (hts _ (hTG _ (am_at_mem g1) rfl)) (hts _ (hTG _ (am_at_mem g2) rfl)) (hts _ (hTG _ (am_at_mem g3) rfl)) (hts _ (hTG _ (am_at_mem g4) rfl)) (by omega) h8' (by omega) (by omega) hdg go
                      · rename_i e5
                        cases e5
                      · rename_i e5
                        cases e5
                      · cases hok
                    · rename_i hq4
                      cases hmath
                      rw [hq4] at hok
                      unfold am_okM at hok
                      split at hok
                      · rename_i e5
                        cases e5
                      · simp only [Bool.and_eq_true, decide_eq_true_eq] at hok
                        obtain ⟨⟨⟨g1, g2⟩, g3⟩, g4⟩ := hok
                        exact va_mmin hx hb (hml.trans hl.1.symm) hown (hts _ (hTG _ (am_at_mem g1) rfl)) (hts _ (hTG _ (am_at_mem g2) rfl)) (hts _ (hTG _ (am_at_mem g3) rfl)) (hts _ (hTG _ (am_at_mem g4) rfl)) (by omega) h8' (by omega) (by omega) hdg go
                      · rename_i e5
                        cases e5
                      · cases hok
                    · rename_i hq4
                      cases hmath
                      rw [hq4] at hok
                      unfold am_okM at hok
                      split at hok
                      · rename_i e5
                        cases e5
                      · rename_i e5
                        cases e5
                      · simp only [Bool.and_eq_true, decide_eq_true_eq] at hok
                        obtain ⟨⟨⟨g1, g2⟩, g3⟩, g4⟩ := hok
                        exact va_mabs_long hx hb (hml.trans hl.1.symm) hown (hts _ (hTG _ (am_at_mem g1) rfl)) (hts _ (hTG _ (am_at_mem g2) rfl)) (hts _ (hTG _ (am_at_mem g3) rfl)) (hts _ (hTG _ (am_at_mem g4) rfl)) (by omega) h8' (by omega) (by omega) hdg go
                      · cases hok
                    · cases hmath
                  · rw [e1] at hok
                    simp only [am_okI] at hok
                    rw [hip] at hok
                    cases hok
                  · rw [e1] at hok
                    simp only [am_okI, hip] at hok
                    cases hok
                · cases hex
            · rename_i hnp
              split at hex
              · cases hex
              · rename_i CC hcall
                split at hex
                · cases hex
                · rename_i M2 hM2
                  split at hex
                  · rename_i hcond
                    split at hex
                    · cases hex
                    · rename_i Z hZ
                      have m1 := am_ex_mono _ _ _ _ _ _ _ _ _ hZ
                      have m2 := am_ex_mono _ _ _ _ _ _ _ _ _ hex
                      have hj : 0 < CC.1 := am_call_pos hok hnp hcall
                      have hMet := am_met_of (l := l) (D := D) (K := K) (b := b) (sa := sa) hO ih (as := CC.2.1) hj hM2 hcond.2.2 hZ
                      refine am_szW hz hn hP hS (fun hHz => ?_)
                      refine am_after (am_run_ok hO C hU hHz hP hS hl hdg hok hcall (fun e => hlk e) hnp hM2 hcond.1 hcond.2.1 hd hlo ⟨by omega, by omega⟩ hMet) hS (fun H1 locs1 hP1 hS1 => ?_)
                      have hst : (Z.1.map (am_cv b sa)).toList ++ CC.2.2.map (am_cv b sa) = (Z.1.toList ++ CC.2.2).map (am_cv b sa) := by cases Z.1 <;> rfl
                      rw [hst]
                      exact ih (d' + 1) j (pc + 3) M ls _ Z.2 v h' hM hex p e R s m args below meth c H1 locs1 _ _ n0 tc ts Q Ls C hU hz (by omega) hP1 hS1 hl hd hlo (by omega) (by omega) hRc hRs kr
                  · cases hex
end AMB
