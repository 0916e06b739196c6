/-- what holds of a state whatever its cells hold: the tables, the private links, the texts, the statics, the script -/
def am_U (D : va_G) (cl : List vw_C) (K : Nat → ClassId) (b : Nat) (sa : Nat → Nat) (Ns : List Cond) (Rs : am_Rs) (Zs : am_Zs) (E : am_E) (U : State) : Prop :=
  va_K D cl (am_tys K) U ∧ (∀ w ∈ Ns, va_Nw w U) ∧ vk_S E.2.1.length (E.2.1.map List.length) E.2.1 sa (fun i => sa (1000 + i)) (fun q => b ≤ q) U U.heap ∧ (∀ q ∈ Rs, vk_R q.1 q.2.1 q.2.2.1 (sa q.2.2.2) U) ∧ (∀ (i : Nat) (C n d : String) (v : Value), Zs[i]? = some (C, n, d) → E.2.2.1[i]? = some v → va_Z C n d (am_cv b sa v) (fun q => b ≤ q) U U.heap) ∧ (∀ (L : Nat) (xs : Nat → Int32), E.2.2.2 = some (L, xs) → va_X (sa 9999) L xs U U.heap) ∧ sa 9999 < U.heap.size ∧ sa 9999 < b
/-- the classes, their words, their fields' types and default values -/
def am_CL (Tc : List Cond) (cl : List vw_C) (df : List (List Value)) : Prop := ∀ (ci : Nat) (C : String) (F : u_T) (N : Nat), cl[ci]? = some (C, F, N) → (∀ w ∈ u_ws C F N, w ∈ Tc) ∧ (∃ ty : Nat → FieldType, (∀ k, k < N → parseFieldDescriptor (F k).2.2.1 = some (ty k)) ∧ ∀ fs : List Value, df[ci]? = some fs → fs.length = N ∧ (∀ j, j < N → defaultValue (ty j) = vp_V fs j) ∧ ∀ (b : Nat) (sa : Nat → Nat), fs.map (am_cv b sa) = fs) ∧ ∀ x, x < N → ∀ y, y < N → x ≠ y → (F x).2.1 ≠ (F y).2.1
theorem am_key_mem {lk : am_K} {k : Nat} {d : List Nat} (h : am_key lk k = some d) : (k, d) ∈ lk := by
  induction lk with
  | nil => cases h
  | cons q r ih =>
    unfold am_key at h
    split at h
    · rename_i e
      cases h
      rw [← e]
      exact List.mem_cons_self
    · exact List.mem_cons_of_mem _ (ih h)
section AMR
variable {p : Program} {l : Launch} {e : Env} {R : Room} {s : State} {m : MethodId} {args : Array Value} {below : List Frame} {meth : Method} {c : Code} {H : Heap} {locs : List Loc} {cells slots : Nat} {Q : State → Prop}
variable {cc : ByteArray} {pc nL : Nat} {Ls : Array Slot} {D : va_G} {cl : List vw_C} {K : Nat → ClassId} {b : Nat} {sa : Nat → Nat} {Tc : List (List Cond)} {G Ns : List Cond} {Rs : am_Rs} {Zs : am_Zs} {E : am_E} {ls : am_L} {st : List Value} {h : am_H} {S : Nat × am_L × List Value} {own : String}
theorem am_rdI_ok {t : Nat} {i : Instr} (ht : (t = 0 ∧ i = .iaload) ∨ (t = 1 ∧ i = .baload)) (hx : p.tables.exec = Jvm.exec) (hb : c.code = cc) (hU : am_U D cl K b sa Ns Rs Zs E s) (hP : va_P D cl (am_W K b sa h) H) (hS : va_S (fun q => b ≤ q) s.heap H locs) (hdg : decode cc pc = .ok (i, 1)) (hs : am_rdI E (pc + 1) t ls h st = some S) (hl : lv_has Ls nL (am_cl b sa ls)) (kk : am_kk (W p l e R s m args below meth c H locs cells slots Q) m b nL sa S) : W p l e R s m args below meth c H locs cells slots Q (F0 m pc Ls (st.map (am_cv b sa))) := by
  unfold am_rdI at hs
  split at hs
  · rename_i ix v r
    split at hs
    · rename_i n f hr
      split at hs
      · cases hs
      · rename_i hin
        cases hs
        unfold am_rowI at hr
        split at hr
        · rename_i a
          split at hr
          · rename_i t' n' f' hc
            split at hr
            · rename_i et
              cases hr
              rcases ht with ⟨rfl, rfl⟩ | ⟨rfl, rfl⟩
              · rcases et with rfl | ⟨h1, -⟩
                · exact va_iald hx hb hU.1 hP a 0 (am_W_at hc) rfl hin hdg (kk Ls hl)
                · cases h1
              · rcases et with rfl | ⟨-, rfl⟩
                · exact va_bald hx hb hU.1 hP a 1 (am_W_at hc) rfl hin hdg (kk Ls hl)
                · exact va_zald hx hb hU.1 hP a 3 (am_W_at hc) rfl hin hdg (kk Ls hl)
            · cases hr
          · cases hr
        · rename_i k
          split at hr
          · rename_i ek
            subst ek
            split at hr
            · rename_i et
              subst et
              rcases ht with ⟨-, rfl⟩ | ⟨h1, -⟩
              · exact va_sld hx hb (hU.2.2.2.2.2.1 _ _ hr) hU.2.2.2.2.2.2.1 (Nat.not_le.mpr hU.2.2.2.2.2.2.2) hS hin hdg (kk Ls hl)
              · cases h1
            · cases hr
          · split at hr
            · cases hr
            · rename_i hk
              split at hr
              · rename_i bs hbs
                split at hr
                · rename_i et
                  subst et
                  cases hr
                  rcases ht with ⟨h1, -⟩ | ⟨-, rfl⟩
                  · cases h1
                  · obtain ⟨-, -, -, hT⟩ := hU.2.2.1.1 (k - 1000) (List.getElem?_eq_some_iff.mp hbs).1
                    have ek : 1000 + (k - 1000) = k := by omega
                    have e1 : (E.2.1.map List.length).getD (k - 1000) 0 = bs.length := by simp [List.getD, hbs]
                    have e2 : E.2.1.getD (k - 1000) [] = bs := by simp [List.getD, hbs]
                    rw [e1, e2] at hT
                    simp only [ek] at hT
                    exact va_tb hx hb hT hS hin rfl hdg (kk Ls hl)
                · cases hr
              · cases hr
        · cases hr
    · cases hs
  · cases hs
theorem am_rdL_ok (hx : p.tables.exec = Jvm.exec) (hb : c.code = cc) (hU : am_U D cl K b sa Ns Rs Zs E s) (hP : va_P D cl (am_W K b sa h) H) (hdg : decode cc pc = .ok (.laload, 1)) (hs : am_rdL (pc + 1) ls h st = some S) (hl : lv_has Ls nL (am_cl b sa ls)) (kk : am_kk (W p l e R s m args below meth c H locs cells slots Q) m b nL sa S) : W p l e R s m args below meth c H locs cells slots Q (F0 m pc Ls (st.map (am_cv b sa))) := by
  unfold am_rdL at hs
  split at hs
  · rename_i ix v r
    split at hs
    · rename_i n f hr
      split at hs
      · cases hs
      · rename_i hin
        cases hs
        unfold am_rowL at hr
        split at hr
        · rename_i a
          split at hr
          · rename_i n' f' hc
            cases hr
            exact va_lald hx hb hU.1 hP a 2 (am_W_at hc) rfl hin hdg (kk Ls hl)
          · cases hr
        · cases hr
    · cases hs
  · cases hs
theorem am_alen_ok (hx : p.tables.exec = Jvm.exec) (hb : c.code = cc) (hU : am_U D cl K b sa Ns Rs Zs E s) (hP : va_P D cl (am_W K b sa h) H) (hS : va_S (fun q => b ≤ q) s.heap H locs) (hdg : decode cc pc = .ok (.arraylength, 1)) (hs : am_alen E (pc + 1) ls h st = some S) (hl : lv_has Ls nL (am_cl b sa ls)) (kk : am_kk (W p l e R s m args below meth c H locs cells slots Q) m b nL sa S) : W p l e R s m args below meth c H locs cells slots Q (F0 m pc Ls (st.map (am_cv b sa))) := by
  unfold am_alen at hs
  split at hs
  · rename_i v r
    split at hs
    · rename_i n hr
      cases hs
      unfold am_len0 at hr
      split at hr
      · rename_i a
        split at hr
        · rename_i t n' f' hc
          split at hr
          · rename_i ht
            cases hr
            rcases ht with rfl | rfl | rfl
            · exact va_alen hx hb hU.1 hP a 0 (am_W_at hc) rfl rfl hdg (kk Ls hl)
            · exact va_alen hx hb hU.1 hP a 1 (am_W_at hc) rfl rfl hdg (kk Ls hl)
            · exact va_alen hx hb hU.1 hP a 3 (am_W_at hc) rfl rfl hdg (kk Ls hl)
          · cases hr
        · rename_i n' f' hc
          cases hr
          exact va_alen hx hb hU.1 hP a 2 (am_W_at hc) rfl rfl hdg (kk Ls hl)
        · cases hr
      · rename_i k
        split at hr
        · rename_i ek
          subst ek
          cases hq : E.2.2.2 with
          | none => rw [hq] at hr; cases hr
          | some q =>
            rw [hq] at hr
            cases hr
            exact va_slen hx hb (hU.2.2.2.2.2.1 _ _ hq) hU.2.2.2.2.2.2.1 (Nat.not_le.mpr hU.2.2.2.2.2.2.2) hS hdg (kk Ls hl)
        · split at hr
          · cases hr
          · split at hr
            · rename_i bs hbs
              cases hr
              obtain ⟨-, -, -, hT⟩ := hU.2.2.1.1 (k - 1000) (List.getElem?_eq_some_iff.mp hbs).1
              have ek : 1000 + (k - 1000) = k := by omega
              have e1 : (E.2.1.map List.length).getD (k - 1000) 0 = bs.length := by simp [List.getD, hbs]
              rw [e1] at hT
              simp only [ek] at hT
              exact va_tlen hx hb hT hS rfl hdg (kk Ls hl)
            · cases hr
      · cases hr
    · cases hs
  · cases hs
theorem am_gf_ok {idx : Nat} {lk : am_K} (hx : p.tables.exec = Jvm.exec) (hb : c.code = cc) (hown : s.vm.findClass own = some m.cls) (hts : ∀ w ∈ G, w.before args s = true) (hTG : ∀ w ∈ Tc.flatten, goodWord w = true → w ∈ G) (hCL : am_CL G cl E.1) (hU : am_U D cl K b sa Ns Rs Zs E s) (hP : va_P D cl (am_W K b sa h) H) (hS : va_S (fun q => b ≤ q) s.heap H locs) (hdg : decode cc pc = .ok (.getfield idx, 3)) (hok : lk.all (fun q => if q.1 = 1000 then am_okX Tc own idx q.2 else am_okF Tc Ns cl own idx q.1 q.2) = true) (hcl : cl.length ≤ 1000) (hs : am_gf E (pc + 3) lk ls h st = some S) (hl : lv_has Ls nL (am_cl b sa ls)) (kk : am_kk (W p l e R s m args below meth c H locs cells slots Q) m b nL sa S) : W p l e R s m args below meth c H locs cells slots Q (F0 m pc Ls (st.map (am_cv b sa))) := by
  unfold am_gf at hs
  split at hs
  · rename_i v r
    split at hs
    · rename_i w hw
      cases hs
      unfold am_fld at hw
      split at hw
      · rename_i a
        split at hw
        · rename_i ci fs hc
          split at hw
          · rename_i k dat hk
            have hq := List.all_eq_true.mp hok _ (am_key_mem hk)
            by_cases hc1 : ci = 1000
            · obtain ⟨r1, hr1, -⟩ := hP a _ (am_W_at hc)
              have := (List.getElem?_eq_some_iff.mp hr1).1
              simp only at this
              omega
            · simp only [hc1, if_false] at hq
              unfold am_okF at hq
              split at hq
              · rename_i k' tag kind p1 p2 rest C F N hd hC
                cases hd
                simp only [Bool.and_eq_true, decide_eq_true_eq] at hq
                obtain ⟨hkN, hq⟩ := hq
                have hfs : (fs.map (am_cv b sa))[k]? = some (am_cv b sa w) := by rw [List.getElem?_map, hw]; rfl
                split at hq
                · rw [decide_eq_true_eq] at hq
                  exact va_get hx hb hts (hCL ci C F N hC).1 hown hU.1 hP a (am_W_at hc) hC k hkN (hts _ (hTG _ (am_at_mem hq) rfl)) (fun x hx => hx) hfs hdg (kk Ls hl)
                · split at hq
                  · simp only [Bool.and_eq_true, decide_eq_true_eq] at hq
                    obtain ⟨h1, h2⟩ := hq
                    exact va_get hx hb hts (hCL ci C F N hC).1 hown hU.1 hP a (am_W_at hc) hC k hkN (hts _ (hTG _ (am_at_mem h1) rfl)) (fun x hx => u_same (hts _ (hTG _ (am_at_mem h2) rfl)) x hx) hfs hdg (kk Ls hl)
                  · cases hq
                · split at hq
                  · rw [decide_eq_true_eq] at hq
                    exact va_getN hx hb hts (hCL ci C F N hC).1 hown hU.1 hP a (am_W_at hc) hC k hkN (va_Nw.use rfl (hU.2.1 _ (List.mem_of_getElem? hq))) (fun x hx => hx) hfs hdg (kk Ls hl)
                  · cases hq
                · cases hq
              · cases hq
          · cases hw
        · cases hw
      · rename_i k
        split at hw
        · rename_i hk
          obtain ⟨-, hco, hva, -⟩ := hU.2.2.1.1 k hk.1
          split at hw
          · rename_i dat hd
            cases hw
            have hq := List.all_eq_true.mp hok _ (am_key_mem hd)
            simp only [if_true] at hq
            unfold am_okX at hq
            split at hq
            · rename_i p1 rest e1
              cases e1
              rw [decide_eq_true_eq] at hq
              exact vk_getf hx hb hco hS hown (hts _ (hTG _ (am_at_mem hq) rfl)) (fun x hx => hx) hdg (kk Ls hl)
            · rename_i e1
              cases e1
            · cases hq
          · rename_i dat hd
            cases hw
            have hq := List.all_eq_true.mp hok _ (am_key_mem hd)
            simp only [if_true] at hq
            unfold am_okX at hq
            split at hq
            · rename_i e1
              cases e1
            · rename_i p1 rest e1
              cases e1
              rw [decide_eq_true_eq] at hq
              exact vk_getf hx hb hva hS hown (hts _ (hTG _ (am_at_mem hq) rfl)) (fun x hx => hx) hdg (kk Ls hl)
            · cases hq
          · cases hw
        · cases hw
      · cases hw
    · cases hs
  · cases hs
end AMR
