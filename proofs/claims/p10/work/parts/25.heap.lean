/-! STEPS THAT WRITE OR MAKE CELLS. -/
def am_sz1 (x : am_C) : Nat := match x with
  | .inl (_, n, _) => n
  | .inr (.inl (n, _)) => n
  | .inr (.inr (_, fs)) => fs.length
def am_sz (h : am_H) : Nat := (h.map am_sz1).sum
theorem am_sz_set {h : am_H} {a : Nat} {x y : am_C} (hx : h[a]? = some x) (he : am_sz1 y = am_sz1 x) : am_sz (h.set a y) = am_sz h := by
  unfold am_sz
  induction h generalizing a with
  | nil => cases hx
  | cons z r ih =>
    cases a with
    | zero =>
      rw [List.getElem?_cons_zero] at hx
      cases hx
      simp [he]
    | succ a =>
      rw [List.getElem?_cons_succ] at hx
      have := ih hx
      simp only [List.set_cons_succ, List.map_cons, List.sum_cons]
      omega
theorem am_sz_push (h : am_H) (x : am_C) : am_sz (h ++ [x]) = am_sz h + am_sz1 x := by simp [am_sz]
theorem am_W_set {K : Nat → ClassId} {b : Nat} {sa : Nat → Nat} (h : am_H) (a : Nat) (x : am_C) : (am_W K b sa h).set a (b + a, am_ce K b sa x) = am_W K b sa (h.set a x) := by
  unfold am_W
  rw [List.mapIdx_set]
theorem am_W_push {K : Nat → ClassId} {b : Nat} {sa : Nat → Nat} (h : am_H) (x : am_C) : am_W K b sa (h ++ [x]) = am_W K b sa h ++ [(b + h.length, am_ce K b sa x)] := by
  unfold am_W
  rw [List.mapIdx_concat]
theorem am_W_len {K : Nat → ClassId} {b : Nat} {sa : Nat → Nat} (h : am_H) : (am_W K b sa h).length = h.length := by
  unfold am_W
  rw [List.length_mapIdx]
theorem am_W_of {K : Nat → ClassId} {b : Nat} {sa : Nat → Nat} {h : am_H} {a : Nat} {q : Nat × va_E} (hq : (am_W K b sa h)[a]? = some q) : q.1 = b + a := by
  unfold am_W at hq
  rw [List.getElem?_mapIdx] at hq
  cases hx : h[a]? with
  | none => rw [hx] at hq; cases hq
  | some x => rw [hx] at hq; cases hq; rfl
theorem am_D (K : Nat → ClassId) (b : Nat) (sa : Nat → Nat) (h : am_H) : va_D (fun q => b ≤ q) (am_W K b sa h) := by
  refine ⟨fun i j p q hi hj e => ?_, fun k q hk => ?_⟩
  · have h1 := am_W_of hi
    have h2 := am_W_of hj
    omega
  · show b ≤ q.1
    rw [am_W_of hk]
    omega
theorem am_hs_mono {E : am_E} {i : Instr} {lk : am_K} {st : List Value} {h : am_H} {S : List Value × am_H} (hs : am_hs E i lk st h = some S) : h.length ≤ S.2.length ∧ am_sz h ≤ am_sz S.2 := by
  unfold am_hs at hs
  split at hs
  · unfold am_pf at hs
    split at hs
    · split at hs
      · rename_i ci fs hc
        split at hs
        · split at hs
          · cases hs
            exact ⟨by rw [List.length_set]; exact Nat.le_refl _, Nat.le_of_eq (am_sz_set hc (by simp [am_sz1])).symm⟩
          · cases hs
        · cases hs
      · cases hs
    · cases hs
  · unfold am_wrI at hs
    split at hs
    · split at hs
      · rename_i t' n f hc
        split at hs
        · split at hs
          · cases hs
          · cases hs
            exact ⟨by rw [List.length_set]; exact Nat.le_refl _, Nat.le_of_eq (am_sz_set hc (by rfl)).symm⟩
        · cases hs
      · cases hs
    · cases hs
  · unfold am_wrI at hs
    split at hs
    · split at hs
      · rename_i t' n f hc
        split at hs
        · split at hs
          · cases hs
          · cases hs
            exact ⟨by rw [List.length_set]; exact Nat.le_refl _, Nat.le_of_eq (am_sz_set hc (by rfl)).symm⟩
        · cases hs
      · cases hs
    · cases hs
  · unfold am_wrL at hs
    split at hs
    · split at hs
      · rename_i n f hc
        split at hs
        · cases hs
        · cases hs
          exact ⟨by rw [List.length_set]; exact Nat.le_refl _, Nat.le_of_eq (am_sz_set hc (by rfl)).symm⟩
      · cases hs
    · cases hs
  · unfold am_new at hs
    split at hs
    · split at hs
      · cases hs
        rw [am_sz_push, List.length_append]
        exact ⟨by omega, by omega⟩
      · cases hs
    · cases hs
  · unfold am_na at hs
    split at hs
    · split at hs
      · cases hs
      · split at hs
        · cases hs
          rw [am_sz_push, List.length_append]
          exact ⟨by omega, by omega⟩
        · cases hs
    · cases hs
  · cases hs
theorem am_ex_mono {E : am_E} {T : List am_M} : ∀ (n d j pc : Nat) (ls : am_L) (st : List Value) (h : am_H) (v : Option Value) (h' : am_H), am_ex E T n d j pc ls st h = some (v, h') → h.length ≤ h'.length ∧ am_sz h ≤ am_sz h' := by
  intro n
  induction n with
  | zero => intro d j pc ls st h v h' hs; cases hs
  | succ n ih =>
    intro d j pc ls st h v h' hs
    unfold am_ex at hs
    split at hs
    · cases hs
    · split at hs
      · cases hs
      · split at hs
        · split at hs
          · cases hs
          · exact ih _ _ _ _ _ _ _ _ hs
        · split at hs
          · cases hs
          · cases hs
            exact ⟨Nat.le_refl _, Nat.le_refl _⟩
        · split at hs
          · cases hs
          · rename_i S hS
            have h1 := am_hs_mono hS
            have h2 := ih _ _ _ _ _ _ _ _ hs
            omega
        · split at hs
          · cases hs
          · split at hs
            · split at hs
              · split at hs
                · exact ih _ _ _ _ _ _ _ _ hs
                · cases hs
              · cases hs
            · split at hs
              · split at hs
                · cases hs
                · split at hs
                  · exact ih _ _ _ _ _ _ _ _ hs
                  · cases hs
              · split at hs
                · cases hs
                · split at hs
                  · cases hs
                  · split at hs
                    · split at hs
                      · cases hs
                      · rename_i Z hZ
                        have h1 := ih _ _ _ _ _ _ _ _ hZ
                        have h2 := ih _ _ _ _ _ _ _ _ hs
                        omega
                    · cases hs
section AMH
variable {p : Program} {l : Launch} {e : Env} {R : Room} {s : State} {m : MethodId} {args : Array Value} {below : List Frame} {meth : Method} {c : Code} {H : Heap} {locs : List Loc} {cells slots : Nat} {Q : State → Prop}
variable {cc : ByteArray} {pc nL n0 : Nat} {Ls : Array Slot} {D : va_G} {cl : List vw_C} {K : Nat → ClassId} {b : Nat} {sa : Nat → Nat} {Tc : List (List Cond)} {G Ns : List Cond} {Rs : am_Rs} {Zs : am_Zs} {E : am_E} {T : List am_M} {ls : am_L} {st : List Value} {h : am_H} {S : List Value × am_H} {own nm : String} {num : Int} {lk : am_K}
/-- the heap has the cells of before, and these: its size -/
theorem am_szW {g : JFrame} (hz : s.heap.size = b + n0) (hn : cells + n0 = h.length) (hP : va_P D cl (am_W K b sa h) H) (hS : va_S (fun q => b ≤ q) s.heap H locs) (kk : H.size = b + h.length → W p l e R s m args below meth c H locs cells slots Q g) : W p l e R s m args below meth c H locs cells slots Q g := by
  intro T hT X
  have h1 := X.heapSize
  rw [hT] at h1
  have h2 := hS.1
  refine kk ?_ T hT X
  cases hl : h.length with
  | zero => omega
  | succ k =>
    have hk : k < h.length := by omega
    have h3 := (hP k _ (am_W_at (List.getElem?_eq_getElem hk))).lt
    simp only at h3
    omega
/-- where the walk goes on behind a write -/
abbrev am_kh (p : Program) (l : Launch) (e : Env) (R : Room) (s : State) (m : MethodId) (args : Array Value) (below : List Frame) (meth : Method) (c : Code) (cells slots : Nat) (Q : State → Prop) (D : va_G) (cl : List vw_C) (K : Nat → ClassId) (b : Nat) (sa : Nat → Nat) (h : am_H) (np : Nat) (Ls : Array Slot) (S : List Value × am_H) : Prop :=
  ∀ (H1 : Heap) (locs1 : List Loc), va_P D cl (am_W K b sa S.2) H1 → va_S (fun q => b ≤ q) s.heap H1 locs1 → W p l e R s m args below meth c H1 locs1 (cells + (S.2.length - h.length)) (slots + (am_sz S.2 - am_sz h)) Q (F0 m np Ls (S.1.map (am_cv b sa)))
theorem am_fit_ok {tag : Nat} {v : Value} {d : String} (h1 : am_fit tag v = true) (h2 : am_okT d tag = true) : ∃ ty, parseFieldDescriptor d = some ty ∧ narrow ty (am_cv b sa v) = am_cv b sa v ∧ fits ty (am_cv b sa v) = true := by
  unfold am_okT at h2
  split at h2
  · rename_i e1
    cases v <;> first | exact ⟨_, e1, rfl, rfl⟩ | cases h1
  · rename_i e1
    cases v <;> first | (cases h1; done) | skip
    rename_i x
    have hx : x = 0 ∨ x = 1 := of_decide_eq_true h1
    refine ⟨_, e1, ?_⟩
    rcases hx with rfl | rfl
    · exact ⟨rfl, rfl⟩
    · exact ⟨rfl, rfl⟩
  · rename_i e1
    cases v <;> first | exact ⟨_, e1, rfl, rfl⟩ | cases h1
  · rename_i e1
    cases v <;> first | exact ⟨_, e1, rfl, rfl⟩ | cases h1
  · rename_i e1
    cases v <;> first | exact ⟨_, e1, rfl, rfl⟩ | cases h1
  · cases h2
theorem am_pf_ok {idx : Nat} (hx : p.tables.exec = Jvm.exec) (hb : c.code = cc) (hown : s.vm.findClass own = some m.cls) (hnm : meth.name = nm) (hts : ∀ w ∈ G, w.before args s = true) (hTG : ∀ w ∈ Tc.flatten, goodWord w = true → w ∈ G) (hCL : am_CL G cl E.1) (hU : am_U D cl K b sa Ns Rs Zs E s) (hP : va_P D cl (am_W K b sa h) H) (hS : va_S (fun q => b ≤ q) s.heap H locs) (hdg : decode cc pc = .ok (.putfield idx, 3)) (hok : lk.all (fun q => am_okF Tc Ns cl own idx q.1 q.2 && am_okP cl own nm q.1 q.2) = true) (hs : am_pf lk st h = some S) (kk : am_kh p l e R s m args below meth c cells slots Q D cl K b sa h (pc + 3) Ls S) : W p l e R s m args below meth c H locs cells slots Q (F0 m pc Ls (st.map (am_cv b sa))) := by
  unfold am_pf at hs
  split at hs
  · rename_i v a r
    split at hs
    · rename_i ci fs hc
      split at hs
      · rename_i k tag dat hk
        split at hs
        · rename_i hf
          cases hs
          have kk2 : ∀ (H1 : Heap) (locs1 : List Loc), va_P D cl ((am_W K b sa h).set a (b + a, .inr (ci, (fs.map (am_cv b sa)).set k (am_cv b sa v)))) H1 → va_D (fun q => b ≤ q) ((am_W K b sa h).set a (b + a, .inr (ci, (fs.map (am_cv b sa)).set k (am_cv b sa v)))) → va_S (fun q => b ≤ q) s.heap H1 locs1 → W p l e R s m args below meth c H1 locs1 cells slots Q (F0 m (pc + 3) Ls (r.map (am_cv b sa))) := by
            intro H1 locs1 q1 _ q3
            have q4 := kk H1 locs1 (by rw [← am_W_set]; simp only [am_ce, List.map_set]; exact q1) q3
            simp only [List.length_set, Nat.sub_self, Nat.add_zero, am_sz_set hc (show am_sz1 (.inr (.inr (ci, fs.set k v))) = am_sz1 (.inr (.inr (ci, fs))) by simp [am_sz1])] at q4
            exact q4
          have hq := List.all_eq_true.mp hok _ (am_key_mem hk)
          simp only [Bool.and_eq_true] at hq
          obtain ⟨hq1, hq2⟩ := hq
          unfold am_okP at hq2
          split at hq2
          · rename_i k2 tag2 kind2 rest2 C2 F N2 hd2 hC
            cases hd2
            simp only [Bool.and_eq_true] at hq2
            obtain ⟨hty, hfin⟩ := hq2
            obtain ⟨ty, ht1, ht2, ht3⟩ := am_fit_ok (b := b) (sa := sa) hf.1 hty
            unfold am_okF at hq1
            split at hq1
            · rename_i k3 tag3 kind3 p1 p2 rest3 C3 F3 N3 hd3 hC3
              cases hd3
              cases hC.symm.trans hC3
              obtain ⟨hin, ⟨ty0, hty0, -⟩, hnm2⟩ := hCL ci _ _ _ hC
              simp only [Bool.and_eq_true, decide_eq_true_eq] at hq1
              obtain ⟨hkN, hq1⟩ := hq1
              have hlen : k < (fs.map (am_cv b sa)).length := by rw [List.length_map]; exact hf.2
              by_cases hF : (F k).2.2.2 = true
              · rw [if_pos hF] at hfin
                simp only [Bool.and_eq_true, decide_eq_true_eq] at hfin
                obtain ⟨⟨hi1, hi2⟩, hi3⟩ := hfin
                subst hi3
                simp only [decide_eq_true_eq] at hq1
                exact va_putF hx hb hts hin ty0 hty0 hnm2 hown hU.1 hP (am_D K b sa h) hS a (am_W_at hc) hC k hkN (hts _ (hTG _ (am_at_mem hq1) rfl)) (fun x hx => hx) hF (by rw [hnm]; exact hi1) hi2 ht1 ht2 ht3 hlen hdg kk2
              · have hF0 : (F k).2.2.2 = false := by
                  cases hh : (F k).2.2.2 with
                  | true => exact absurd hh hF
                  | false => rfl
                split at hq1
                · rw [decide_eq_true_eq] at hq1
                  exact va_put hx hb hts hin ty0 hty0 hnm2 hown hU.1 hP (am_D K b sa h) hS a (am_W_at hc) hC k hkN (hts _ (hTG _ (am_at_mem hq1) rfl)) (fun x hx => hx) hF0 ht1 ht2 ht3 hlen hdg kk2
                · split at hq1
                  · simp only [Bool.and_eq_true, decide_eq_true_eq] at hq1
                    obtain ⟨h1, h2⟩ := hq1
                    exact va_put hx hb hts hin ty0 hty0 hnm2 hown hU.1 hP (am_D K b sa h) hS a (am_W_at hc) hC k hkN (hts _ (hTG _ (am_at_mem h1) rfl)) (fun x hx => u_same (hts _ (hTG _ (am_at_mem h2) rfl)) x hx) hF0 ht1 ht2 ht3 hlen hdg kk2
                  · cases hq1
                · split at hq1
                  · rw [decide_eq_true_eq] at hq1
                    exact va_putN hx hb hts hin ty0 hty0 hnm2 hown hU.1 hP (am_D K b sa h) hS a (am_W_at hc) hC k hkN (va_Nw.use rfl (hU.2.1 _ (List.mem_of_getElem? hq1))) (fun x hx => hx) hF0 ht1 ht2 ht3 hlen hdg kk2
                  · cases hq1
                · cases hq1
            · cases hq1
          · cases hq2
        · cases hs
      · cases hs
    · cases hs
  · cases hs
theorem am_wrI_ok {t : Nat} {i : Instr} (ht : (t = 0 ∧ i = .iastore) ∨ (t = 1 ∧ i = .bastore)) (hx : p.tables.exec = Jvm.exec) (hb : c.code = cc) (hU : am_U D cl K b sa Ns Rs Zs E s) (hP : va_P D cl (am_W K b sa h) H) (hS : va_S (fun q => b ≤ q) s.heap H locs) (hdg : decode cc pc = .ok (i, 1)) (hs : am_wrI t st h = some S) (kk : am_kh p l e R s m args below meth c cells slots Q D cl K b sa h (pc + 1) Ls S) : W p l e R s m args below meth c H locs cells slots Q (F0 m pc Ls (st.map (am_cv b sa))) := by
  unfold am_wrI at hs
  split at hs
  · rename_i x ix a r
    split at hs
    · rename_i t' n f hc
      split at hs
      · rename_i et
        split at hs
        · cases hs
        · rename_i hin
          cases hs
          have kk2 : ∀ (H1 : Heap) (locs1 : List Loc), va_P D cl ((am_W K b sa h).set a (b + a, .inl (K t', n, .inl (upd f ix.toNatClampNeg (am_nb t' x))))) H1 → va_D (fun q => b ≤ q) ((am_W K b sa h).set a (b + a, .inl (K t', n, .inl (upd f ix.toNatClampNeg (am_nb t' x))))) → va_S (fun q => b ≤ q) s.heap H1 locs1 → W p l e R s m args below meth c H1 locs1 cells slots Q (F0 m (pc + 1) Ls (r.map (am_cv b sa))) := by
            intro H1 locs1 q1 _ q3
            have q4 := kk H1 locs1 (by rw [← am_W_set]; exact q1) q3
            simp only [List.length_set, Nat.sub_self, Nat.add_zero, am_sz_set hc (show am_sz1 (.inl (t', n, upd f ix.toNatClampNeg (am_nb t' x))) = am_sz1 (.inl (t', n, f)) from rfl)] at q4
            exact q4
          rcases ht with ⟨rfl, rfl⟩ | ⟨rfl, rfl⟩
          · rcases et with rfl | ⟨h1, -⟩
            · exact va_iast hx hb hU.1 hP (am_D K b sa h) hS a 0 (am_W_at hc) rfl hin hdg kk2
            · cases h1
          · rcases et with rfl | ⟨-, rfl⟩
            · exact va_bast hx hb hU.1 hP (am_D K b sa h) hS a 1 (am_W_at hc) rfl hin hdg kk2
            · exact va_zast hx hb hU.1 hP (am_D K b sa h) hS a 3 (am_W_at hc) rfl hin hdg kk2
      · cases hs
    · cases hs
  · cases hs
theorem am_wrL_ok (hx : p.tables.exec = Jvm.exec) (hb : c.code = cc) (hU : am_U D cl K b sa Ns Rs Zs E s) (hP : va_P D cl (am_W K b sa h) H) (hS : va_S (fun q => b ≤ q) s.heap H locs) (hdg : decode cc pc = .ok (.lastore, 1)) (hs : am_wrL st h = some S) (kk : am_kh p l e R s m args below meth c cells slots Q D cl K b sa h (pc + 1) Ls S) : W p l e R s m args below meth c H locs cells slots Q (F0 m pc Ls (st.map (am_cv b sa))) := by
  unfold am_wrL at hs
  split at hs
  · rename_i x ix a r
    split at hs
    · rename_i n f hc
      split at hs
      · cases hs
      · rename_i hin
        cases hs
        have kk2 : ∀ (H1 : Heap) (locs1 : List Loc), va_P D cl ((am_W K b sa h).set a (b + a, .inl (K 2, n, .inr (.inl (vp_updL f ix.toNatClampNeg x))))) H1 → va_D (fun q => b ≤ q) ((am_W K b sa h).set a (b + a, .inl (K 2, n, .inr (.inl (vp_updL f ix.toNatClampNeg x))))) → va_S (fun q => b ≤ q) s.heap H1 locs1 → W p l e R s m args below meth c H1 locs1 cells slots Q (F0 m (pc + 1) Ls (r.map (am_cv b sa))) := by
          intro H1 locs1 q1 _ q3
          have q4 := kk H1 locs1 (by rw [← am_W_set]; exact q1) q3
          simp only [List.length_set, Nat.sub_self, Nat.add_zero, am_sz_set hc (show am_sz1 (.inr (.inl (n, vp_updL f ix.toNatClampNeg x))) = am_sz1 (.inr (.inl (n, f))) from rfl)] at q4
          exact q4
        exact va_last hx hb hU.1 hP (am_D K b sa h) hS a 2 (am_W_at hc) rfl hin hdg kk2
    · cases hs
  · cases hs
/-- a new cell lies at the end -/
theorem am_last {x : va_E} {q : Nat} {H1 : Heap} (h1 : H1.size ≤ b + h.length + 1) (hP : va_P D cl (am_W K b sa h ++ [(q, x)]) H1) (hD : va_D (fun q => b ≤ q) (am_W K b sa h ++ [(q, x)])) : q = b + h.length := by
  have hq : (am_W K b sa h ++ [(q, x)])[h.length]? = some (q, x) := by
    rw [List.getElem?_append_right (by rw [am_W_len]; exact Nat.le_refl _), am_W_len, Nat.sub_self]
    rfl
  have h2 := (hP h.length _ hq).lt
  have h3 : b ≤ q := hD.2 h.length _ hq
  simp only at h2
  rcases Nat.lt_or_ge q (b + h.length) with h4 | h4
  · exfalso
    have hk : q - b < h.length := by omega
    have h5 : (am_W K b sa h ++ [(q, x)])[q - b]? = some (b + (q - b), am_ce K b sa h[q - b]) := by
      rw [List.getElem?_append_left (by rw [am_W_len]; exact hk)]
      exact am_W_at (List.getElem?_eq_getElem hk)
    have h6 := hD.1 (q - b) h.length _ _ h5 hq (by simp only; omega)
    omega
  · omega
theorem am_new_ok {idx : Nat} (hx : p.tables.exec = Jvm.exec) (hb : c.code = cc) (hown : s.vm.findClass own = some m.cls) (hts : ∀ w ∈ G, w.before args s = true) (hTG : ∀ w ∈ Tc.flatten, goodWord w = true → w ∈ G) (hCL : am_CL G cl E.1) (hU : am_U D cl K b sa Ns Rs Zs E s) (hz : s.heap.size = b + n0) (hn : cells + n0 = h.length) (hP : va_P D cl (am_W K b sa h) H) (hS : va_S (fun q => b ≤ q) s.heap H locs) (hdg : decode cc pc = .ok (.new idx, 3)) (hok : am_okI Tc Ns Rs Zs cl T own nm nL (.new idx) num lk = true) (hs : am_new E lk st h = some S) (hR : cells + (S.2.length - h.length) ≤ R.cells ∧ slots + (am_sz S.2 - am_sz h) ≤ R.slots) (kk : am_kh p l e R s m args below meth c cells slots Q D cl K b sa h (pc + 3) Ls S) : W p l e R s m args below meth c H locs cells slots Q (F0 m pc Ls (st.map (am_cv b sa))) := by
  simp only [am_okI] at hok
  split at hok
  · rename_i ci p1 p2 p3 r1 r2
    split at hok
    · rename_i C F N hC
      simp only [Bool.and_eq_true, decide_eq_true_eq] at hok
      obtain ⟨⟨h1, h2⟩, h3⟩ := hok
      simp only [am_new] at hs
      split at hs
      · rename_i fs hfs
        cases hs
        obtain ⟨hin, ⟨ty, hty, hdf⟩, -⟩ := hCL ci _ _ _ hC
        obtain ⟨e1, e2, e3⟩ := hdf fs hfs
        have eL : (h ++ [(.inr (.inr (ci, fs)) : am_C)]).length - h.length = 1 := by simp
        have eZ : am_sz (h ++ [.inr (.inr (ci, fs))]) - am_sz h = N := by rw [am_sz_push, am_sz1, e1]; omega
        simp only [eL, eZ] at hR
        refine va_new (ci := ci) (fs := fs) hx hb hts hin ty hty hown (hts _ (hTG _ (am_at_mem h1) rfl)) (hts _ (hTG _ (am_at_mem h2) rfl)) (hts _ (hTG _ (am_at_mem h3) rfl)) hU.1 hP (am_D K b sa h) hS (fun q hq => by show b ≤ q; omega) hC e2 hR.1 hR.2 hdg (fun q H1 hP1 hD1 hS1 => ?_)
        intro T1 hT1 X1
        have hz1 := X1.heapSize
        rw [hT1] at hz1
        have eq1 := am_last (by omega) hP1 hD1
        subst eq1
        have hP2 : va_P D cl (am_W K b sa (h ++ [.inr (.inr (ci, fs))])) H1 := by rw [am_W_push, am_ce, e3]; exact hP1
        have kk2 := kk H1 locs hP2 hS1
        simp only [eL, eZ] at kk2
        exact kk2 T1 hT1 X1
      · cases hs
    · cases hok
  · cases hok
theorem am_na_ok {t : ArrayType} (hx : p.tables.exec = Jvm.exec) (hb : c.code = cc) (hts : ∀ w ∈ G, w.before args s = true) (hTG : ∀ w ∈ Tc.flatten, goodWord w = true → w ∈ G) (hU : am_U D cl K b sa Ns Rs Zs E s) (hz : s.heap.size = b + n0) (hn : cells + n0 = h.length) (hP : va_P D cl (am_W K b sa h) H) (hS : va_S (fun q => b ≤ q) s.heap H locs) (hdg : decode cc pc = .ok (.newarray t, 2)) (hok : am_okI Tc Ns Rs Zs cl T own nm nL (.newarray t) num lk = true) (hs : am_na t st h = some S) (hR : cells + (S.2.length - h.length) ≤ R.cells ∧ slots + (am_sz S.2 - am_sz h) ≤ R.slots) (kk : am_kh p l e R s m args below meth c cells slots Q D cl K b sa h (pc + 2) Ls S) : W p l e R s m args below meth c H locs cells slots Q (F0 m pc Ls (st.map (am_cv b sa))) := by
  simp only [am_okI] at hok
  split at hok
  · rename_i k1 p1 r1 r2
    rw [decide_eq_true_eq] at hok
    unfold am_na at hs
    split at hs
    · rename_i n r
      split at hs
      · cases hs
      · rename_i hn0
        have hneg : ¬ n < 0 := fun q => hn0 (Or.inl q)
        have hbig : n.toNatClampNeg ≤ 60000000 := by
          rcases Nat.lt_or_ge 60000000 n.toNatClampNeg with q | q
          · exact absurd (Or.inr q) hn0
          · exact q
        split at hs
        · rename_i x hbl
          cases hs
          have eL : (h ++ [x]).length - h.length = 1 := by simp
          have eZ : am_sz (h ++ [x]) - am_sz h = am_sz1 x := by rw [am_sz_push]; omega
          simp only [eL, eZ] at hR
          have go : ∀ (ty : FieldType) (q : Nat) (cA : ClassId) (a0 : vp_A) (H1 : Heap), (am_ce K b sa x = .inl (cA, a0)) → va_P D cl (am_W K b sa h ++ [(q, .inl (cA, a0))]) H1 → va_D (fun q => b ≤ q) (am_W K b sa h ++ [(q, .inl (cA, a0))]) → va_S (fun q => b ≤ q) s.heap H1 locs → W p l e R s m args below meth c H1 locs (cells + 1) (slots + am_sz1 x) Q (F0 m (pc + 2) Ls (.ref q :: r.map (am_cv b sa))) := by
            intro ty q cA a0 H1 ea hP1 hD1 hS1 T1 hT1 X1
            have hz1 := X1.heapSize
            rw [hT1] at hz1
            have eq1 := am_last (by omega) hP1 hD1
            subst eq1
            have hP2 : va_P D cl (am_W K b sa (h ++ [x])) H1 := by rw [am_W_push, ea]; exact hP1
            have kk2 := kk H1 locs hP2 hS1
            simp only [eL, eZ] at kk2
            exact kk2 T1 hT1 X1
          unfold am_blank at hbl
          split at hbl
          · cases hbl
            refine va_newa (ty := .int) (a0 := (n.toNatClampNeg, .inl (fun _ => 0))) hx hb (hts _ (hTG _ (am_at_mem hok) rfl)) rfl hU.1 hP (am_D K b sa h) hS (fun q hq => by show b ≤ q; omega) (fun cA => rfl) hneg rfl (by simp only [componentBytes]; omega) hR.1 hR.2 hdg (fun q cA H1 hK1 hP1 hD1 hS1 => ?_)
            have e1 := (hK1.2 4 (cA, .int) rfl).2
            have e2 := (hK1.2 0 (K 0, .int) rfl).2
            have e3 : cA = K 0 := Option.some.inj (Eq.trans (Eq.symm e1) e2)
            subst e3
            exact go .int q (K 0) _ H1 rfl hP1 hD1 hS1
          · cases hbl
            refine va_newa (ty := .byte) (a0 := (n.toNatClampNeg, .inl (fun _ => 0))) hx hb (hts _ (hTG _ (am_at_mem hok) rfl)) rfl hU.1 hP (am_D K b sa h) hS (fun q hq => by show b ≤ q; omega) (fun cA => rfl) hneg rfl (by simp only [componentBytes]; omega) hR.1 hR.2 hdg (fun q cA H1 hK1 hP1 hD1 hS1 => ?_)
            have e1 := (hK1.2 4 (cA, .byte) rfl).2
            have e2 := (hK1.2 1 (K 1, .byte) rfl).2
            have e3 : cA = K 1 := Option.some.inj (Eq.trans (Eq.symm e1) e2)
            subst e3
            exact go .byte q (K 1) _ H1 rfl hP1 hD1 hS1
          · cases hbl
            refine va_newa (ty := .boolean) (a0 := (n.toNatClampNeg, .inl (fun _ => 0))) hx hb (hts _ (hTG _ (am_at_mem hok) rfl)) rfl hU.1 hP (am_D K b sa h) hS (fun q hq => by show b ≤ q; omega) (fun cA => rfl) hneg rfl (by simp only [componentBytes]; omega) hR.1 hR.2 hdg (fun q cA H1 hK1 hP1 hD1 hS1 => ?_)
            have e1 := (hK1.2 4 (cA, .boolean) rfl).2
            have e2 := (hK1.2 3 (K 3, .boolean) rfl).2
            have e3 : cA = K 3 := Option.some.inj (Eq.trans (Eq.symm e1) e2)
            subst e3
            exact go .boolean q (K 3) _ H1 rfl hP1 hD1 hS1
          · cases hbl
            refine va_newa (ty := .long) (a0 := (n.toNatClampNeg, .inr (.inl (fun _ => 0)))) hx hb (hts _ (hTG _ (am_at_mem hok) rfl)) rfl hU.1 hP (am_D K b sa h) hS (fun q hq => by show b ≤ q; omega) (fun cA => rfl) hneg rfl (by simp only [componentBytes]; omega) hR.1 hR.2 hdg (fun q cA H1 hK1 hP1 hD1 hS1 => ?_)
            have e1 := (hK1.2 4 (cA, .long) rfl).2
            have e2 := (hK1.2 2 (K 2, .long) rfl).2
            have e3 : cA = K 2 := Option.some.inj (Eq.trans (Eq.symm e1) e2)
            subst e3
            exact go .long q (K 2) _ H1 rfl hP1 hD1 hS1
          · cases hbl
        · cases hs
    · cases hs
  · cases hok
/-- A STEP that writes or makes a cell -/
theorem am_hs_ok {i : Instr} (hx : p.tables.exec = Jvm.exec) (hb : c.code = cc) (hown : s.vm.findClass own = some m.cls) (hnm : meth.name = nm) (hts : ∀ w ∈ G, w.before args s = true) (hTG : ∀ w ∈ Tc.flatten, goodWord w = true → w ∈ G) (hCL : am_CL G cl E.1) (hU : am_U D cl K b sa Ns Rs Zs E s) (hz : s.heap.size = b + n0) (hn : cells + n0 = h.length) (hP : va_P D cl (am_W K b sa h) H) (hS : va_S (fun q => b ≤ q) s.heap H locs) (hdg : decode cc pc = .ok (i, am_len i num)) (hok : am_okI Tc Ns Rs Zs cl T own nm nL i num lk = true) (hs : am_hs E i lk st h = some S) (hR : cells + (S.2.length - h.length) ≤ R.cells ∧ slots + (am_sz S.2 - am_sz h) ≤ R.slots) (kk : am_kh p l e R s m args below meth c cells slots Q D cl K b sa h (pc + am_len i num) Ls S) : W p l e R s m args below meth c H locs cells slots Q (F0 m pc Ls (st.map (am_cv b sa))) := by
  unfold am_hs at hs
  split at hs
  · exact am_pf_ok hx hb hown hnm hts hTG hCL hU hP hS hdg hok hs kk
  · exact am_wrI_ok (Or.inl ⟨rfl, rfl⟩) hx hb hU hP hS hdg hs kk
  · exact am_wrI_ok (Or.inr ⟨rfl, rfl⟩) hx hb hU hP hS hdg hs kk
  · exact am_wrL_ok hx hb hU hP hS hdg hs kk
  · exact am_new_ok hx hb hown hts hTG hCL hU hz hn hP hS hdg hok hs hR kk
  · exact am_na_ok hx hb hts hTG hU hz hn hP hS hdg hok hs hR kk
  · cases hs
end AMH
/-! CALLS, AND THE WHOLE RUN. -/
def am_nw (w : Cond) : Bool := match w with
  | .methodLinkNest _ _ _ _ => true
  | .fieldLinkNest _ _ _ _ _ _ => true
  | .declares _ => true
  | _ => false
/-- the state holds these cells -/
def am_Pre (D : va_G) (cl : List vw_C) (K : Nat → ClassId) (b : Nat) (sa : Nat → Nat) (Ns : List Cond) (Rs : am_Rs) (Zs : am_Zs) (E : am_E) (h : am_H) (U : State) : Prop := U.heap.size = b + h.length ∧ va_P D cl (am_W K b sa h) U.heap ∧ am_U D cl K b sa Ns Rs Zs E U
def am_Post (D : va_G) (cl : List vw_C) (K : Nat → ClassId) (b : Nat) (sa : Nat → Nat) (Ns : List Cond) (Rs : am_Rs) (Zs : am_Zs) (E : am_E) (v : Option Value) (h : am_H) : Array Value → State → Outcome → State → Prop := fun _ st oc t => oc = .returned (v.map (am_cv b sa)) ∧ va_P D cl (am_W K b sa h) t.heap ∧ va_F (fun q => b ≤ q) st t
def am_Cx (p : Program) (s : State) (m : MethodId) (meth : Method) (c : Code) (args : Array Value) (M : am_M) (G : List Cond) : Prop :=
  p.tables.exec = Jvm.exec ∧ c.code = M.2.1 ∧ c.maxLocals = M.2.2.1 ∧ s.vm.findClass M.1.cls = some m.cls ∧ (∀ w ∈ G, w.before args s = true) ∧ meth.name = M.1.name ∧ meth.sig.returnType = M.2.2.2.1 ∧ meth.locks = false
/-- all that the tables must say, once for all methods -/
def am_OK (E : am_E) (T : List am_M) (cl : List vw_C) (Tc : List (List Cond)) (G Ns : List Cond) (Rs : am_Rs) (Zs : am_Zs) : Prop :=
  (∀ w ∈ Tc.flatten, goodWord w = true → w ∈ G) ∧ (∀ w ∈ G, goodWord w = true) ∧ (∀ w ∈ Ns, am_nw w = true) ∧ am_CL G cl E.1 ∧ cl.length ≤ 1000 ∧ (Cond.instanceMethod objectInit ∈ G ∧ Cond.code objectInit ⟨#[0xb1]⟩ 1 none ∈ G) ∧
  (∀ (j : Nat) (M : am_M), 0 < j → T[j]? = some M → Cond.code M.1 M.2.1 M.2.2.1 M.2.2.2.1 ∈ G ∧ Cond.initialized M.1.cls ∈ G ∧ Jvm.plainName M.1.cls = true ∧ (M.1.cls ≠ "java/lang/invoke/MethodHandle" ∧ M.1.cls ≠ "java/lang/invoke/VarHandle")) ∧
  (∀ (j : Nat) (M : am_M), T[j]? = some M → ∀ q ∈ M.2.2.2.2, am_okQ Tc Ns Rs Zs cl T M q = true)
def am_rm (d mc ms : Nat) : Room := { frames := d, cells := mc, slots := ms, locals := 60 * d }
abbrev am_ws (M : am_M) (G : List Cond) : List Cond := Cond.code M.1 M.2.1 M.2.2.1 M.2.2.2.1 :: G
theorem am_find_mem {l : List am_Q} {pc : Nat} {q : am_Q} (h : am_find l pc = some q) : q ∈ l ∧ q.1 = pc := by
  induction l with
  | nil => cases h
  | cons z r ih =>
    unfold am_find at h
    split at h
    · rename_i e
      cases h
      exact ⟨List.mem_cons_self, e⟩
    · exact ⟨List.mem_cons_of_mem _ (ih h).1, (ih h).2⟩
theorem am_nw_on {w : Cond} (h : am_nw w = true) : w.onTables = true := by
  unfold am_nw at h
  split at h <;> first | rfl | cases h
theorem am_wid (vs : List Value) : (lg_sl vs).length = am_sum vs := by
  induction vs with
  | nil => rfl
  | cons v r ih =>
    have e : (lg_sl (v :: r)).length = (if v.category = 2 then 2 else 1) + (lg_sl r).length := by
      unfold lg_sl
      rw [List.flatMap_cons, List.length_append]
      congr 1
      split <;> rfl
    rw [e, ih]
    unfold am_sum
    rw [List.map_cons, List.sum_cons]
    congr 1
    cases v <;> rfl
theorem am_sum_cv (b : Nat) (sa : Nat → Nat) (vs : List Value) : am_sum (vs.map (am_cv b sa)) = am_sum vs := by
  unfold am_sum
  rw [List.map_map]
  congr 1
  apply List.map_congr_left
  intro v _
  exact am_cat b sa v
theorem am_args_cv (b : Nat) (sa : Nat → Nat) : ∀ (i : Nat) (vs : List Value), lv_args i (vs.map (am_cv b sa)) = am_cl b sa (lv_args i vs) := by
  intro i vs
  induction vs generalizing i with
  | nil => rfl
  | cons v r ih =>
    rw [List.map_cons, lv_args, lv_args, am_cat, ih]
    rfl
theorem am_ret_st {ret : Option FieldType} {i : Instr} {st : List Value} {v : Option Value} (h : am_ret ret i st = some v) : st = v.toList := by
  unfold am_ret at h
  split at h
  · split at h
    · cases h; rfl
    · cases h
  · split at h
    · cases h; rfl
    · split at h
      · cases h; rfl
      · cases h
    · split at h
      · cases h; rfl
      · cases h
    · split at h
      · cases h; rfl
      · cases h
    · cases h
  · split at h
    · cases h; rfl
    · cases h
  · cases h
section AMV
variable {p : Program} {l : Launch} {e : Env} {R : Room} {s : State} {m : MethodId} {args : Array Value} {below : List Frame} {meth : Method} {c : Code} {H : Heap} {locs : List Loc} {cells slots : Nat} {Q : State → Prop}
variable {cc : ByteArray} {pc nL n0 : Nat} {Ls : Array Slot} {D : va_G} {cl : List vw_C} {K : Nat → ClassId} {b : Nat} {sa : Nat → Nat} {Tc : List (List Cond)} {G Ns : List Cond} {Rs : am_Rs} {Zs : am_Zs} {E : am_E} {T : List am_M} {ls : am_L} {st : List Value} {h : am_H} {num : Int} {lk : am_K}
theorem am_U_move {t : State} (hNs : ∀ w ∈ Ns, am_nw w = true) (hU : am_U D cl K b sa Ns Rs Zs E s) (hS : va_S (fun q => b ≤ q) s.heap H locs) (ht : t.heap = H) (hW : s.WarmedH t.vm) : am_U D cl K b sa Ns Rs Zs E t := by
  subst ht
  obtain ⟨h1, h2, h3, h4, h5, h6, h7, h8⟩ := hU
  have hq : ∀ a : Nat, a < s.heap.size → ¬ (fun q => b ≤ q) a → t.heap[a]? = s.heap[a]? := hS.2.1
  refine ⟨va_K.moved hW.alike h1, fun w hw => ?_, (vk_S.moved hW.alike h3).kept hq, fun q hq => vk_R.warm hW (h4 q hq), fun i C n d v g1 g2 => (va_Z.moved hW.alike (h5 i C n d v g1 g2)).kept hq, fun L xs z => (va_X.moved hW.alike (h6 L xs z)).kept (hq _ h7 (Nat.not_le.mpr h8)), Nat.lt_of_lt_of_le h7 hS.1, h8⟩
  have hn := hNs w hw
  unfold am_nw at hn
  split at hn
  · exact va_Nw.warmM hW (h2 _ hw)
  · exact va_Nw.warmF hW (h2 _ hw)
  · exact va_Nw.warmD hW (h2 _ hw)
  · cases hn
theorem am_blind (hNs : ∀ w ∈ Ns, am_nw w = true) (av : List Value) : FrameBlind (va_Pc av (am_Pre D cl K b sa Ns Rs Zs E h)) := by
  intro a U g mk hq
  obtain ⟨e0, g1, g2, h1, h2, h3, h4, h5, h6, h7, h8⟩ := hq
  exact ⟨e0, g1, g2, va_K.moved (u := U) (U := U.calling g mk a) (Vm.Alike.refl U.vm) h1, fun w hw => va_Nw.same (u := U) (U := U.calling g mk a) (am_nw_on (hNs w hw)) rfl (h2 w hw), vk_S.moved (u := U) (U := U.calling g mk a) (Vm.Alike.refl U.vm) h3, fun q hq => vk_R.same (u := U) (U := U.calling g mk a) rfl (h4 q hq), fun i C n d v z1 z2 => va_Z.moved (u := U) (U := U.calling g mk a) (Vm.Alike.refl U.vm) (h5 i C n d v z1 z2), fun L xs z => va_X.moved (u := U) (U := U.calling g mk a) (Vm.Alike.refl U.vm) (h6 L xs z), h7, h8⟩
theorem am_pre (hNs : ∀ w ∈ Ns, am_nw w = true) (hU : am_U D cl K b sa Ns Rs Zs E s) (hP : va_P D cl (am_W K b sa h) H) (hS : va_S (fun q => b ≤ q) s.heap H locs) (hz : H.size = b + h.length) (av : List Value) : ∀ U : State, U.heap = H → s.WarmedH U.vm → va_Pc av (am_Pre D cl K b sa Ns Rs Zs E h) av.toArray U := fun U e1 hW => ⟨rfl, by rw [e1]; exact hz, by rw [e1]; exact hP, am_U_move hNs hU hS e1 hW⟩
/-- behind a call -/
theorem am_after {mc ms : Nat} {st0 rest : List Value} {v : Option Value} {h2 : am_H} {a : Array Value} (hr : va_Run p l e R s m args below meth c H locs cells slots mc ms (F0 m pc Ls st0) rest (am_Post D cl K b sa Ns Rs Zs E v h2 a) (fun q => b ≤ q)) (hS : va_S (fun q => b ≤ q) s.heap H locs)
    (kk : ∀ (H1 : Heap) (locs1 : List Loc), va_P D cl (am_W K b sa h2) H1 → va_S (fun q => b ≤ q) s.heap H1 locs1 → W p l e R s m args below meth c H1 locs1 (cells + mc) (slots + ms) Q (F0 m (pc + 3) Ls ((v.map (am_cv b sa)).toList ++ rest))) : W p l e R s m args below meth c H locs cells slots Q (F0 m pc Ls st0) := by
  intro T1 hT X
  obtain ⟨w, st₀, t, T', L, h0, X', hL, e1, e2, ⟨hv, hPost, hz, hk⟩, st⟩ := hr T1 hT X
  cases hv
  rw [h0] at hz hk
  obtain ⟨t2, a1, b1⟩ := kk T'.heap (locs ++ L) (by rw [e1]; exact hPost)
    ⟨Nat.le_trans hS.1 (by rw [e1]; exact hz), fun q h1 h2 => by rw [e1, hk q (Nat.lt_of_lt_of_le h1 hS.1) h2]; exact hS.2.1 q h1 h2, fun q hq => by
      rcases List.mem_append.mp hq with h | h
      · exact hS.2.2 q h
      · exact hL q h⟩ T' rfl X'
  exact ⟨t2, st t2 a1, b1⟩
end AMV
section AMC
variable {p : Program} {l : Launch} {e : Env} {R : Room} {s : State} {m : MethodId} {args : Array Value} {below : List Frame} {meth : Method} {c : Code} {H : Heap} {locs : List Loc} {cells slots : Nat} {Q : State → Prop}
variable {pc nL n0 : Nat} {Ls : Array Slot} {D : va_G} {cl : List vw_C} {K : Nat → ClassId} {b : Nat} {sa : Nat → Nat} {Tc : List (List Cond)} {G Ns : List Cond} {Rs : am_Rs} {Zs : am_Zs} {E : am_E} {T : List am_M} {ls : am_L} {st : List Value} {h : am_H} {num : Int} {lk : am_K} {M M2 : am_M} {d n mc ms : Nat} {v : Option Value} {h2 : am_H}
theorem am_goodIn (hO : am_OK E T cl Tc G Ns Rs Zs) {j : Nat} (hj : 0 < j) (hM : T[j]? = some M2) : GoodIn G (am_ws M2 G) := by
  intro w hw
  have hg : w ∈ G := by
    rcases List.mem_cons.mp hw with rfl | hw
    · exact (hO.2.2.2.2.2.2.1 j M2 hj hM).1
    · exact hw
  exact ⟨hg, good_of_word (hO.2.1 w hg)⟩
theorem am_room (hd : d + 1 ≤ R.frames) (hl : 60 * (d + 1) ≤ R.locals) (hm : M2.2.2.1 ≤ 41) : (am_rm d mc ms).frames + 1 ≤ R.frames ∧ 8 + (M2.2.2.1 + 11) + (am_rm d mc ms).locals ≤ R.locals := by
  refine ⟨hd, ?_⟩
  show 8 + (M2.2.2.1 + 11) + 60 * d ≤ R.locals
  omega
theorem am_hW {r : List Value} (hr : am_sum r ≤ 8) : 2 * (F0 m pc Ls (st.map (am_cv b sa))).monitorRoom + ((r.map (am_cv b sa)).map fun v => v.category).sum ≤ 8 := by
  have h1 := am_sum_cv b sa r
  unfold am_sum at h1 hr
  exact lv_room (by rw [h1]; exact hr)
theorem am_stack (r : List Value) (n : Nat) (hr : st.drop n = r) : st.map (am_cv b sa) = (((st.take n).reverse).map (am_cv b sa)).reverse ++ r.map (am_cv b sa) := by
  rw [List.map_reverse, List.reverse_reverse, ← List.map_append, ← hr, List.take_append_drop]
theorem am_nlen {z : Value} {r : List Value} (hr : st.drop n = z :: r) : (((st.take n).reverse).map (am_cv b sa)).length = n := by
  have h1 : n < st.length := by
    rcases Nat.lt_or_ge n st.length with q | q
    · exact q
    · rw [List.drop_eq_nil_iff.mpr q] at hr; cases hr
  simp
  omega
/-- what a call asks of the tables, for the callee number j -/
theorem am_callB (hO : am_OK E T cl Tc G Ns Rs Zs) (hts : ∀ w ∈ G, w.before args s = true) {j idx : Nat} (hj : 0 < j) (hM : T[j]? = some M2) (hn : (parseMethodDescriptor M2.1.desc).map (fun d => d.parameters.length) = some n) (hl : (Cond.methodLink M.1.cls idx M2.1).before args s = true) (hR : (am_rm d mc ms).frames + 1 ≤ R.frames ∧ 8 + (M2.2.2.1 + 11) + (am_rm d mc ms).locals ≤ R.locals) : CallB R s args M.1.cls idx M2.1 M2.2.1 M2.2.2.1 M2.2.2.2.1 (am_ws M2 G) (am_rm d mc ms) mc ms n := by
  obtain ⟨-, hini, -, hmh⟩ := hO.2.2.2.2.2.2.1 j M2 hj hM
  exact callB_of n hts (am_goodIn hO hj hM) rfl rfl rfl (hts _ hini) hl ⟨hmh.1, hmh.2, hn⟩ hR
theorem am_callN (hO : am_OK E T cl Tc G Ns Rs Zs) (hts : ∀ w ∈ G, w.before args s = true) {j idx : Nat} {ho : String} (hj : 0 < j) (hM : T[j]? = some M2) (hn : (parseMethodDescriptor M2.1.desc).map (fun d => d.parameters.length) = some n) (hl : va_Nw (.methodLinkNest M.1.cls idx M2.1 ho) s) (hR : (am_rm d mc ms).frames + 1 ≤ R.frames ∧ 8 + (M2.2.2.1 + 11) + (am_rm d mc ms).locals ≤ R.locals) : va_CN R s args M.1.cls idx M2.1 ho M2.2.1 M2.2.2.1 M2.2.2.2.1 (am_ws M2 G) (am_rm d mc ms) mc ms n := by
  obtain ⟨-, hini, -, hmh⟩ := hO.2.2.2.2.2.2.1 j M2 hj hM
  exact va_cnB n hts (am_goodIn hO hj hM) rfl rfl rfl hl (hts _ hini) ⟨hmh.1, hmh.2, hn⟩ hR
/-- a receiver's class -/
theorem am_recv {v : Value} {ci : Nat} {C : String} (hcl : cl.length ≤ 1000) (hU : am_U D cl K b sa Ns Rs Zs E s) (hP : va_P D cl (am_W K b sa h) H) (hS : va_S (fun q => b ≤ q) s.heap H locs) (hv : am_cls E h v = some ci) (hC : am_cn cl ci = some C) : ∃ a : Nat, am_cv b sa v = .ref a ∧ ∃ cellB : Cell, H[a]? = some cellB ∧ cellB.vm.isStatics = false ∧ s.vm.findClass C = some cellB.cls := by
  unfold am_cls at hv
  split at hv
  · rename_i a
    split at hv
    · rename_i ci' fs hc
      cases hv
      refine ⟨b + a, rfl, ?_⟩
      obtain ⟨r1, hr1, -⟩ := hP a _ (am_W_at hc)
      have hlt := (List.getElem?_eq_some_iff.mp hr1).1
      simp only at hlt
      unfold am_cn at hC
      rw [if_neg (by omega)] at hC
      cases hq : cl[ci]? with
      | none => rw [hq] at hC; cases hC
      | some q =>
        rw [hq] at hC
        cases hC
        exact va_recv hU.1 hP hq (am_W_at hc)
    · cases hv
  · rename_i k
    split at hv
    · rename_i hk
      cases hv
      cases hC
      exact ⟨sa k, rfl, vk_recv hU.2.2.1 hk.1 hS⟩
    · cases hv
  · cases hv
theorem am_run_ok (hO : am_OK E T cl Tc G Ns Rs Zs) (C : am_Cx p s m meth c args M G) (hU : am_U D cl K b sa Ns Rs Zs E s) (hz : H.size = b + h.length) (hP : va_P D cl (am_W K b sa h) H) (hS : va_S (fun q => b ≤ q) s.heap H locs) (hl : lv_has Ls M.2.2.1 (am_cl b sa ls)) {i : Instr} {j : Nat} {as r : List Value} (hdg : decode M.2.1 pc = .ok (i, 3)) (hok : am_okI Tc Ns Rs Zs cl T M.1.cls M.1.name M.2.2.1 i num lk = true) (hc : am_call E h i lk st = some (j, as, r)) (hne : lk ≠ []) (hnp : ¬ am_isP lk = true) (hM : T[j]? = some M2) (hr8 : am_sum r ≤ 8) (hm41 : M2.2.2.1 ≤ 41) (hd : d + 1 ≤ R.frames) (hlo : 60 * (d + 1) ≤ R.locals) (hf : cells + mc ≤ R.cells ∧ slots + ms ≤ R.slots)
    (hMet : Met l M2.1 (am_ws M2 G) (am_rm d mc ms) (va_Pc (as.map (am_cv b sa)) (am_Pre D cl K b sa Ns Rs Zs E h)) (am_Post D cl K b sa Ns Rs Zs E v h2) mc ms (fun q => b ≤ q)) :
    va_Run p l e R s m args below meth c H locs cells slots mc ms (F0 m pc Ls (st.map (am_cv b sa))) (r.map (am_cv b sa)) (am_Post D cl K b sa Ns Rs Zs E v h2 (as.map (am_cv b sa)).toArray) (fun q => b ≤ q) := by
  obtain ⟨hx, hb, hml, hown, hts, -, -, -⟩ := C
  obtain ⟨hTG, hGG, hNs, hCL, hcl, -, hTM, -⟩ := id hO
  have hR := am_room (mc := mc) (ms := ms) hd hlo hm41
  unfold am_call at hc
  split at hc
  · rename_i k0 j0 n dat tl
    split at hc
    · -- static
      rename_i idx
      split at hc
      · rename_i hn
        cases hc
        simp only [am_okI, if_neg hnp, Bool.and_eq_true] at hok
        have hq := List.all_eq_true.mp hok.2 _ (List.mem_cons_self)
        unfold am_okC at hq
        split at hq
        · rename_i j1 n1 kind p1 p2 p3 p4 p5 more hd1
          cases hd1
          rw [hM] at hq
          simp only [Bool.and_eq_true, decide_eq_true_eq] at hq
          obtain ⟨⟨hj, hnq⟩, hq⟩ := hq
          split at hq
          · rename_i idx' e1 e2
            cases e2
            simp only [Bool.and_eq_true, decide_eq_true_eq] at hq
            obtain ⟨h1, h3⟩ := hq
            exact va_runS (As := ((st.take n).reverse).map (am_cv b sa)) ⟨hx, hb, hml, hown, hts⟩ hMet ⟨am_callB hO hts hj hM hnq (hts _ (hTG _ (am_at_mem h1) rfl)) hR, hts _ (hTG _ (am_at_mem h3) rfl)⟩ ⟨am_blind hNs _, am_pre hNs hU hP hS hz _⟩ rfl (by simp; omega) hl.1 (am_stack _ n rfl) (am_hW hr8) hdg hf
          · rename_i idx' e1 e2
            cases e2
            split at hq
            · simp only [Bool.and_eq_true, decide_eq_true_eq] at hq
              obtain ⟨h1, h3⟩ := hq
              exact va_runSN (As := ((st.take n).reverse).map (am_cv b sa)) ⟨hx, hb, hml, hown, hts⟩ hMet ⟨am_callN hO hts hj hM hnq (hU.2.1 _ (List.mem_of_getElem? h1)) hR, hts _ (hTG _ (am_at_mem h3) rfl), trivial⟩ ⟨am_blind hNs _, am_pre hNs hU hP hS hz _⟩ rfl (by simp; omega) hl.1 (am_stack _ n rfl) (am_hW hr8) hdg hf
            · cases hq
          all_goals first | (rename_i e2; cases e2; done) | cases hq
        · cases hq
      · cases hc
    · -- special
      rename_i idx
      split at hc
      · rename_i a r1 hdr
        cases hc
        have hq0 : ((k0, j :: n :: dat) :: tl).all (fun q => am_okC Tc Ns cl T M.1.cls (.invokespecial idx) q.1 q.2) = true := (Bool.and_eq_true_iff.mp (show (!am_isP ((k0, j :: n :: dat) :: tl) && _) = true from hok)).2
        have hq := List.all_eq_true.mp hq0 _ (List.mem_cons_self)
        unfold am_okC at hq
        split at hq
        · rename_i j1 n1 kind p1 p2 p3 p4 p5 more hd1
          cases hd1
          rw [hM] at hq
          simp only [Bool.and_eq_true, decide_eq_true_eq] at hq
          obtain ⟨⟨hj, hnq⟩, hq⟩ := hq
          split at hq
          all_goals first | (rename_i e2; cases e2; done) | skip
          · rename_i idx' e1 e2
            cases e2
            simp only [Bool.and_eq_true, decide_eq_true_eq] at hq
            obtain ⟨⟨⟨h1, h3⟩, h4⟩, h5⟩ := hq
            have cb := am_callB (M := M) (d := d) (mc := mc) (ms := ms) hO hts hj hM hnq (hts _ (hTG _ (am_at_mem h1) rfl)) hR
            rw [h5] at cb
            exact va_runI (b := b + a) (As := ((st.take n).reverse).map (am_cv b sa)) ⟨hx, hb, hml, hown, hts⟩ hMet ⟨cb, h4, hts _ (hTG _ (am_at_mem h3) rfl)⟩ ⟨am_blind hNs _, am_pre hNs hU hP hS hz (.ref (b + a) :: ((st.take n).reverse).map (am_cv b sa))⟩ rfl (am_nlen hdr) hl.1 (am_stack _ n hdr) (am_hW hr8) hdg hf
          · rename_i idx' e1 e2
            cases e2
            split at hq
            · simp only [Bool.and_eq_true, decide_eq_true_eq] at hq
              obtain ⟨⟨⟨h1, h3⟩, h4⟩, h5⟩ := hq
              have cb := am_callN (M := M) (d := d) (mc := mc) (ms := ms) hO hts hj hM hnq (hU.2.1 _ (List.mem_of_getElem? h1)) hR
              rw [h5] at cb
              exact va_runIN (b := b + a) (As := ((st.take n).reverse).map (am_cv b sa)) ⟨hx, hb, hml, hown, hts⟩ hMet ⟨cb, h4, hts _ (hTG _ (am_at_mem h3) rfl)⟩ ⟨am_blind hNs _, am_pre hNs hU hP hS hz (.ref (b + a) :: ((st.take n).reverse).map (am_cv b sa))⟩ rfl (am_nlen hdr) hl.1 (am_stack _ n hdr) (am_hW hr8) hdg hf
            · cases hq
          · cases hq
        · cases hq
      · cases hc
    · -- virtual
      rename_i idx
      split at hc
      · rename_i w r1 hdr
        split at hc
        · rename_i ci hci
          split at hc
          · rename_i j' n' dat' hkey
            split at hc
            · rename_i en
              cases hc
              subst en
              simp only [am_okI, Bool.and_eq_true] at hok
              have hq := List.all_eq_true.mp hok.2 _ (am_key_mem hkey)
              unfold am_okC at hq
              split at hq
              · rename_i j1 n1 kind p1 p2 p3 p4 p5 more hd1
                cases hd1
                rw [hM] at hq
                simp only [Bool.and_eq_true, decide_eq_true_eq] at hq
                obtain ⟨⟨hj, hnq⟩, hq⟩ := hq
                obtain ⟨hcode, hini, -, hmh⟩ := hTM j M2 hj hM
                have hpre := am_pre hNs hU hP hS hz ((w :: (st.take n').reverse).map (am_cv b sa))
                split at hq
                all_goals first | (rename_i e2; cases e2; done) | skip
                · rename_i idx' e1 e2
                  cases e2
                  split at hq
                  · rename_i C hC
                    simp only [Bool.and_eq_true, decide_eq_true_eq] at hq
                    obtain ⟨⟨h1, h3⟩, h4⟩ := hq
                    obtain ⟨a, ea, hrecv⟩ := am_recv hcl hU hP hS hci hC
                    rw [List.map_cons, ea] at hMet hpre ⊢
                    exact va_runV (b := a) (C := C) (As := ((st.take n').reverse).map (am_cv b sa)) ⟨hx, hb, hml, hown, hts⟩ hMet ⟨am_callB hO hts hj hM hnq (hts _ (hTG _ (am_at_mem h1) rfl)) hR, hts _ (hTG _ (am_at_mem h3) rfl), hts _ (hTG _ (am_at_mem h4) rfl)⟩ ⟨am_blind hNs _, hrecv, hpre⟩ rfl (am_nlen hdr) hl.1 (by rw [am_stack _ n' hdr, List.map_cons, ea]) (am_hW hr8) hdg hf
                  · cases hq
                · rename_i idx' e1 e2
                  cases e2
                  split at hq
                  · rename_i C ho e5 e6 e7 hC hN
                    simp only [Bool.and_eq_true, decide_eq_true_eq] at hq
                    obtain ⟨⟨h1, h3⟩, h4⟩ := hq
                    obtain ⟨a, ea, hrecv⟩ := am_recv hcl hU hP hS hci hC
                    rw [List.map_cons, ea] at hMet hpre ⊢
                    exact va_runVN (b := a) (C := C) (As := ((st.take n').reverse).map (am_cv b sa)) ⟨hx, hb, hml, hown, hts⟩ hMet ⟨am_callN hO hts hj hM hnq (hU.2.1 _ (List.mem_of_getElem? h1)) hR, hts _ (hTG _ (am_at_mem h3) rfl), hts _ (hTG _ (am_at_mem h4) rfl)⟩ ⟨am_blind hNs _, hrecv, hpre⟩ rfl (am_nlen hdr) hl.1 (by rw [am_stack _ n' hdr, List.map_cons, ea]) (am_hW hr8) hdg hf
                  · cases hq
                · rename_i idx' e1 e2
                  cases e2
                  split at hq
                  · rename_i C w1 w2 x w3 o w4 w5 hC hX hY
                    simp only [Bool.and_eq_true, decide_eq_true_eq] at hq
                    obtain ⟨⟨⟨⟨h1, h3⟩, h4⟩, h5⟩, h6⟩ := hq
                    obtain ⟨a, ea, hrecv⟩ := am_recv hcl hU hP hS hci hC
                    rw [List.map_cons, ea] at hMet hpre ⊢
                    have hg : GoodIn G (va_wsU M.1.cls idx C o x M2.1 (am_ws M2 G)) := by
                      intro z hz
                      rcases List.mem_append.mp hz with hz | hz
                      · simp only [List.mem_cons, List.not_mem_nil, or_false] at hz
                        have hg : z ∈ G := by
                          rcases hz with rfl | rfl | rfl | rfl | rfl
                          · exact hTG _ (am_at_mem h1) rfl
                          · exact hTG _ (am_at_mem h5) rfl
                          · exact hTG _ (am_at_mem h4) rfl
                          · exact hTG _ (am_at_mem h3) rfl
                          · exact hini
                        exact ⟨hg, good_of_word (hGG z hg)⟩
                      · exact am_goodIn hO hj hM z hz
                    have ho : o = M2.1.cls := by rw [h6]
                    have hxd : M2.1.desc = x.desc := by rw [h6]
                    exact va_runU (b := a) (C := C) (owner := o) (As := ((st.take n').reverse).map (am_cv b sa)) ⟨hx, hb, hml, hown, hts⟩ hMet (va_cwU n' hts hg rfl rfl rfl h6 ⟨by rw [ho]; exact hmh.1, by rw [ho]; exact hmh.2, by rw [← hxd]; exact hnq⟩ hR) ⟨am_blind hNs _, hrecv, hpre⟩ rfl (am_nlen hdr) hl.1 (by rw [am_stack _ n' hdr, List.map_cons, ea]) (am_hW hr8) hdg hf
                  · cases hq
                · rename_i idx' e1 e2
                  cases e2
                  split at hq
                  · rename_i C w1 w2 x w3 o w4 w5 hC hX hY
                    simp only [Bool.and_eq_true, decide_eq_true_eq] at hq
                    obtain ⟨⟨⟨⟨⟨⟨⟨h1, h3⟩, h4⟩, h5⟩, h6⟩, h7⟩, h8⟩, h9⟩ := hq
                    obtain ⟨a, ea, hrecv⟩ := am_recv hcl hU hP hS hci hC
                    rw [List.map_cons, ea] at hMet hpre ⊢
                    have hg : GoodIn G (va_wsU M.1.cls idx C o x M2.1 (am_ws M2 G)) := by
                      intro z hz
                      rcases List.mem_append.mp hz with hz | hz
                      · simp only [List.mem_cons, List.not_mem_nil, or_false] at hz
                        have hg : z ∈ G := by
                          rcases hz with rfl | rfl | rfl | rfl | rfl
                          · exact hTG _ (am_at_mem h1) rfl
                          · exact hTG _ (am_at_mem h5) rfl
                          · exact hTG _ (am_at_mem h4) rfl
                          · exact hTG _ (am_at_mem h3) rfl
                          · exact hini
                        exact ⟨hg, good_of_word (hGG z hg)⟩
                      · exact am_goodIn hO hj hM z hz
                    exact va_runU (b := a) (C := C) (owner := o) (As := ((st.take n').reverse).map (am_cv b sa)) ⟨hx, hb, hml, hown, hts⟩ hMet (va_cwA n' hts hg rfl rfl rfl (hU.2.1 _ (List.mem_of_getElem? h6)) ⟨h7, h8, by rw [← h9]; exact hnq⟩ hR) ⟨am_blind hNs _, hrecv, hpre⟩ rfl (am_nlen hdr) hl.1 (by rw [am_stack _ n' hdr, List.map_cons, ea]) (am_hW hr8) hdg hf
                  · cases hq
                · cases hq
              · cases hq
            · cases hc
          · cases hc
        · cases hc
      · cases hc
    · cases hc
  · cases hc
end AMC
theorem am_sort3 {i : Instr} (h0 : am_sort i = 0 → False) (h1 : am_sort i = 1 → False) (h2 : am_sort i = 2 → False) : (∃ k, i = .invokestatic k) ∨ (∃ k, i = .invokespecial k) ∨ ∃ k, i = .invokevirtual k := by
  cases i <;> first | exact absurd rfl h0 | exact absurd rfl h1 | exact absurd rfl h2 | exact Or.inl ⟨_, rfl⟩ | exact Or.inr (Or.inl ⟨_, rfl⟩) | exact Or.inr (Or.inr ⟨_, rfl⟩)
theorem am_okC_pos {Tc : List (List Cond)} {Ns : List Cond} {cl : List vw_C} {T : List am_M} {own : String} {i : Instr} {ci j : Nat} {dat : List Nat} (h : am_okC Tc Ns cl T own i ci (j :: dat) = true) : 0 < j := by
  unfold am_okC at h
  split at h
  · rename_i e1
    cases e1
    split at h
    · cases h
    · simp only [Bool.and_eq_true, decide_eq_true_eq] at h
      exact h.1.1
  · cases h
theorem am_call_pos {E : am_E} {Tc : List (List Cond)} {Ns : List Cond} {Rs : am_Rs} {Zs : am_Zs} {cl : List vw_C} {T : List am_M} {own nm : String} {nL : Nat} {num : Int} {h : am_H} {i : Instr} {lk : am_K} {st : List Value} {C : Nat × List Value × List Value} (hok : am_okI Tc Ns Rs Zs cl T own nm nL i num lk = true) (hnp : ¬ am_isP lk = true) (hc : am_call E h i lk st = some C) : 0 < C.1 := by
  unfold am_call at hc
  split at hc
  · rename_i k0 j0 n dat tl
    split at hc
    · split at hc
      · cases hc
        simp only [am_okI, if_neg hnp, Bool.and_eq_true] at hok
        exact am_okC_pos (List.all_eq_true.mp hok.2 _ (List.mem_cons_self))
      · cases hc
    · rename_i idx
      split at hc
      · cases hc
        have hq0 : ((k0, j0 :: n :: dat) :: tl).all (fun q => am_okC Tc Ns cl T own (.invokespecial idx) q.1 q.2) = true := (Bool.and_eq_true_iff.mp (show (!am_isP ((k0, j0 :: n :: dat) :: tl) && _) = true from hok)).2
        exact am_okC_pos (List.all_eq_true.mp hq0 _ (List.mem_cons_self))
      · cases hc
    · split at hc
      · split at hc
        · split at hc
          · rename_i j' n' dat' hkey
            split at hc
            · cases hc
              simp only [am_okI, Bool.and_eq_true] at hok
              exact am_okC_pos (List.all_eq_true.mp hok.2 _ (am_key_mem hkey))
            · cases hc
          · cases hc
        · cases hc
      · cases hc
    · cases hc
  · cases hc
/-- the run of a body is a walk of the machine -/
def am_B (l : Launch) (E : am_E) (T : List am_M) (cl : List vw_C) (G Ns : List Cond) (Rs : am_Rs) (Zs : am_Zs) (D : va_G) (K : Nat → ClassId) (b : Nat) (sa : Nat → Nat) (n : Nat) : Prop :=
  ∀ (d j pc : Nat) (M : am_M) (ls : am_L) (st : List Value) (h : am_H) (v : Option Value) (h' : am_H), T[j]? = some M → am_ex E T n d j pc ls st h = some (v, h') →
  ∀ (p : Program) (e : Env) (R : Room) (s : State) (m : MethodId) (args : Array Value) (below : List Frame) (meth : Method) (c : Code) (H : Heap) (locs : List Loc) (cells slots n0 tc ts : Nat) (Q : State → Prop) (Ls : Array Slot),
  am_Cx p s m meth c args M G → am_U D cl K b sa Ns Rs Zs E s → s.heap.size = b + n0 → cells + n0 = h.length → va_P D cl (am_W K b sa h) H → va_S (fun q => b ≤ q) s.heap H locs → lv_has Ls M.2.2.1 (am_cl b sa ls) →
  d ≤ R.frames → 60 * d ≤ R.locals → tc = cells + (h'.length - h.length) → ts = slots + (am_sz h' - am_sz h) → tc ≤ R.cells → ts ≤ R.slots →
  (∀ (pc' : Nat) (i : Instr) (num : Int) (H1 : Heap) (locs1 : List Loc) (Ls1 : Array Slot), am_ret M.2.2.2.1 i v.toList = some v → decode c.code pc' = .ok (i, am_len i num) → va_P D cl (am_W K b sa h') H1 → va_S (fun q => b ≤ q) s.heap H1 locs1 → W p l e R s m args below meth c H1 locs1 tc ts Q (F0 m pc' Ls1 (v.toList.map (am_cv b sa)))) →
  W p l e R s m args below meth c H locs cells slots Q (F0 m pc Ls (st.map (am_cv b sa)))
section AMB
variable {l : Launch} {E : am_E} {T : List am_M} {cl : List vw_C} {Tc : List (List Cond)} {G Ns : List Cond} {Rs : am_Rs} {Zs : am_Zs} {D : va_G} {K : Nat → ClassId} {b : Nat} {sa : Nat → Nat}
/-- A METHOD's CONTRACT out of its run -/
theorem am_met_of {n : Nat} (hO : am_OK E T cl Tc G Ns Rs Zs) (hB : am_B l E T cl G Ns Rs Zs D K b sa n) {d j : Nat} {M : am_M} {as : List Value} {h : am_H} {v : Option Value} {h' : am_H} (hj : 0 < j) (hM : T[j]? = some M) (ha : am_sum as ≤ M.2.2.1) (hex : am_ex E T n d j 0 (lv_args 0 as) [] h = some (v, h')) :
    Met l M.1 (am_ws M G) (am_rm d (h'.length - h.length) (am_sz h' - am_sz h)) (va_Pc (as.map (am_cv b sa)) (am_Pre D cl K b sa Ns Rs Zs E h)) (am_Post D cl K b sa Ns Rs Zs E v h') (h'.length - h.length) (am_sz h' - am_sz h) (fun q => b ≤ q) := by
  obtain ⟨-, -, hpl, -⟩ := hO.2.2.2.2.2.2.1 j M hj hM
  refine Met.ofW (cc := M.2.1) (maxL := M.2.2.1) (ret := M.2.2.2.1) hpl rfl ?_
  intro p e s m args below meth c s₁ B hml hv
  obtain ⟨rfl, hsz, hP, hU⟩ := hv
  have hts := atoms_spec (ws := am_ws M G) B.pre
  have hlocks := B.notSynchronized
  have hl := lv_entry (as.map (am_cv b sa)) (n := M.2.2.1) (by rw [am_wid, am_sum_cv]; exact ha)
  rw [am_args_cv] at hl
  rw [lg_entry_eq]
  refine hB d j 0 M (lv_args 0 as) [] h v h' hM hex p e _ s m _ below meth c s.heap [] 0 0 h.length (h'.length - h.length) (am_sz h' - am_sz h) _ _ ⟨B.exec, B.bytes, hml, findClass_of_methodNamed B.named, fun w hw => hts w (List.mem_cons_of_mem _ hw), (name_of_methodNamed B.named B.method).1, B.returns, hlocks⟩ hU hsz (by omega) hP va_S.rf hl (Nat.le_refl _) (Nat.le_refl _) (by omega) (by omega) (Nat.le_refl _) (Nat.le_refl _) ?_
  intro pc' i num H1 locs1 Ls1 hr hdg hP1 hS1
  have hb : c.code = M.2.1 := B.bytes
  rw [hb] at hdg
  have hret := B.returns
  have post : ∀ t : State, t.heap = H1 → s.WarmedH t.vm → am_Post D cl K b sa Ns Rs Zs E v h' (as.map (am_cv b sa)).toArray s (.returned (v.map (am_cv b sa))) t := fun t ht hW => ⟨rfl, by rw [ht]; exact hP1, hS1.F ht⟩
  unfold am_ret at hr
  split at hr
  · rename_i e1
    split at hr
    · rename_i e2
      cases hr
      exact W.vret B.exec hb (by rw [hret]; exact e2) post hS1.2.2 hdg
    · cases hr
  · rename_i x e1
    split at hr
    · rename_i e2
      cases hr
      exact W.iret B.exec hb (by rw [hret]; exact e2) post hS1.2.2 hdg
    · rename_i e2
      split at hr
      · rename_i hx
        cases hr
        exact W.zret (ty := .boolean) B.exec hb (by rw [hret]; exact e2) (by rcases hx with rfl | rfl <;> decide) post hS1.2.2 hdg
      · cases hr
    · rename_i e2
      split at hr
      · rename_i hx
        cases hr
        exact W.zret (ty := .char) B.exec hb (by rw [hret]; exact e2) hx post hS1.2.2 hdg
      · cases hr
    · rename_i e2
      split at hr
      · rename_i hx
        cases hr
        exact W.zret (ty := .byte) B.exec hb (by rw [hret]; exact e2) hx post hS1.2.2 hdg
      · cases hr
    · cases hr
  · rename_i x e1
    split at hr
    · rename_i e2
      cases hr
      exact W.lret B.exec hb (by rw [hret]; exact e2) post hS1.2.2 hdg
    · cases hr
  · cases hr
set_option maxHeartbeats 4000000 in
/-- THE RUN IS A WALK -/
theorem am_body (hO : am_OK E T cl Tc G Ns Rs Zs) : ∀ n, am_B l E T cl G Ns Rs Zs D K b sa n := by
  intro n
  induction n with
  | zero => intro d j pc M ls st h v h' _ hex; cases hex
  | succ n ih =>
    intro d j pc M ls st h v h' hM hex p e R s m args below meth c H locs cells slots n0 tc ts Q Ls C hU hz hn hP hS hl hd hlo htc hts' hRc hRs kr
    obtain ⟨hTG, hGG, hNs, hCL, hcl, hOI, hTM, hTQ⟩ := id hO
    obtain ⟨hx, hb, hml, hown, hts, hnm, hret, hlocks⟩ := id C
    unfold am_ex at hex
    rw [hM] at hex
    simp only at hex
    split at hex
    · cases hex
    · rename_i q hq
      obtain ⟨hq1, hq2⟩ := am_find_mem hq
      have hokq := hTQ j M hM q hq1
      unfold am_okQ at hokq
      rw [Bool.and_eq_true] at hokq
      obtain ⟨hdg0, hok⟩ := hokq
      have hdg := of_decide_eq_true hdg0
      rw [hq2] at hdg
      split at hex
      · split at hex
        · cases hex
        · rename_i S hst
          exact am_step_ok hx hb hown hts hTG hCL hcl hU hP hS hdg hok hst hl (fun Ls' hl' => ih d j S.1 M S.2.1 S.2.2 h v h' hM hex p e R s m args below meth c H locs cells slots n0 tc ts Q Ls' C hU hz hn hP hS hl' hd hlo htc hts' hRc hRs kr)
      · split at hex
        · cases hex
        · rename_i w hw
          cases hex
          have e1 := am_ret_st hw
          rw [e1] at hw ⊢
          have h1 := kr pc q.2.1 q.2.2.1 H locs Ls hw (by rw [hb]; exact hdg) hP hS
          rw [htc, hts', Nat.sub_self, Nat.sub_self, Nat.add_zero, Nat.add_zero] at h1
          exact h1
      · split at hex
        · cases hex
        · rename_i S hst
          have m1 := am_hs_mono hst
          have m2 := am_ex_mono _ _ _ _ _ _ _ _ _ hex
          exact am_hs_ok hx hb hown hnm hts hTG hCL hU hz hn hP hS hdg hok hst ⟨by omega, by omega⟩ (fun H1 locs1 hP1 hS1 => ih d j _ M ls S.1 S.2 v h' hM hex p e R s m args below meth c H1 locs1 _ _ n0 tc ts Q Ls C hU hz (by omega) hP1 hS1 hl hd hlo (by omega) (by omega) hRc hRs kr)
      · rename_i hs0 hs1 hs2
        have hi3 := am_sort3 hs0 hs1 hs2
        have hlen : am_len q.2.1 q.2.2.1 = 3 := by
          rcases hi3 with ⟨k, e⟩ | ⟨k, e⟩ | ⟨k, e⟩ <;> rw [e] <;> rfl
        rw [hlen] at hdg
        split at hex
        · cases hex
        · rename_i d'
          split at hex
          · rename_i hlk
            split at hex
            · rename_i a r
              split at hex
              · rename_i h8
                rw [hlk] at hok
                have hi : ∃ idx, q.2.1 = .invokespecial idx ∧ (Cond.methodLink M.1.cls idx objectInit).before args s = true := by
                  rcases hi3 with ⟨k, e⟩ | ⟨k, e⟩ | ⟨k, e⟩
                  · rw [e] at hok
                    cases hok
                  · rw [e] at hok
                    exact ⟨k, e, hts _ (hTG _ (am_at_mem (of_decide_eq_true (show decide _ = true from hok))) rfl)⟩
                  · rw [e] at hok
                    cases hok
                obtain ⟨idx, hi1, hi2⟩ := hi
                rw [hi1] at hdg
                have h8' := am_hW (m := m) (pc := pc) (Ls := Ls) (st := .ref a :: r) (b := b) (sa := sa) h8
                refine W.objInit hx hb hown hi2 (hts _ hOI.1) (hts _ hOI.2) rfl (by rw [hml]; exact hl.1) rfl hdg (by omega) (Nat.le_trans (Nat.add_le_add_right h8' 12) (by omega)) ?_
                exact ih (d' + 1) j (pc + 3) M ls r h v h' hM hex p e R s m args below meth c H locs cells slots n0 tc ts Q Ls C hU hz hn hP hS hl hd hlo htc hts' hRc hRs kr
              · cases hex
            · cases hex
          · rename_i hlk
            split at hex
            · rename_i hip
              split at hex
              · cases hex
              · rename_i P hmath
                split at hex
                · rename_i h8
                  have h13 : (P.2.map (am_cv b sa)).map (fun v => v.category) = P.2.map (fun v => v.category) := by
                    rw [List.map_map]
                    apply List.map_congr_left
                    intro z _
                    exact am_cat b sa z
                  have h8' : ((P.2.map (am_cv b sa)).map fun v => v.category).sum + 13 ≤ R.locals := by
                    rw [h13]
                    unfold am_sum at h8
                    omega
                  have hce := am_ex_mono _ _ _ _ _ _ _ _ _ hex
                  have go := ih (d' + 1) j (pc + 3) M ls P.1 h v h' hM hex p e R s m args below meth c H locs cells slots n0 tc ts Q Ls C hU hz hn hP hS hl hd hlo htc hts' hRc hRs kr
                  rcases hi3 with ⟨k, e1⟩ | ⟨k, e1⟩ | ⟨k, e1⟩
                  · rw [e1] at hok hdg
                    simp only [am_okI, if_pos hip] at hok
                    unfold am_math at hmath
                    split at hmath
                    · rename_i hq4
                      cases hmath
                      rw [hq4] at hok
                      unfold am_okM at hok
                      split at hok
                      · simp only [Bool.and_eq_true, decide_eq_true_eq] at hok
                        obtain ⟨⟨⟨g1, g2⟩, g3⟩, g4⟩ := hok
                        exact va_mmax hx hb (hml.trans hl.1.symm) hown (hts _ (hTG _ (am_at_mem g1) rfl)) (hts _ (hTG _ (am_at_mem g2) rfl)) (hts _ (hTG _ (am_at_mem g3) rfl)) (hts _ (hTG _ (am_at_mem g4) rfl)) (by omega) h8' (by omega) (by omega) hdg go
                      · rename_i e5
                        cases e5
                      · rename_i e5
                        cases e5
                      · cases hok
                    · rename_i hq4
                      cases hmath
                      rw [hq4] at hok
                      unfold am_okM at hok
                      split at hok
                      · rename_i e5
                        cases e5
                      · simp only [Bool.and_eq_true, decide_eq_true_eq] at hok
                        obtain ⟨⟨⟨g1, g2⟩, g3⟩, g4⟩ := hok
                        exact va_mmin hx hb (hml.trans hl.1.symm) hown (hts _ (hTG _ (am_at_mem g1) rfl)) (hts _ (hTG _ (am_at_mem g2) rfl)) (hts _ (hTG _ (am_at_mem g3) rfl)) (hts _ (hTG _ (am_at_mem g4) rfl)) (by omega) h8' (by omega) (by omega) hdg go
                      · rename_i e5
                        cases e5
                      · cases hok
                    · rename_i hq4
                      cases hmath
                      rw [hq4] at hok
                      unfold am_okM at hok
                      split at hok
                      · rename_i e5
                        cases e5
                      · rename_i e5
                        cases e5
                      · simp only [Bool.and_eq_true, decide_eq_true_eq] at hok
                        obtain ⟨⟨⟨g1, g2⟩, g3⟩, g4⟩ := hok
                        exact va_mabs_long hx hb (hml.trans hl.1.symm) hown (hts _ (hTG _ (am_at_mem g1) rfl)) (hts _ (hTG _ (am_at_mem g2) rfl)) (hts _ (hTG _ (am_at_mem g3) rfl)) (hts _ (hTG _ (am_at_mem g4) rfl)) (by omega) h8' (by omega) (by omega) hdg go
                      · cases hok
                    · cases hmath
                  · rw [e1] at hok
                    simp only [am_okI] at hok
                    rw [hip] at hok
                    cases hok
                  · rw [e1] at hok
                    simp only [am_okI, hip] at hok
                    cases hok
                · cases hex
            · rename_i hnp
              split at hex
              · cases hex
              · rename_i CC hcall
                split at hex
                · cases hex
                · rename_i M2 hM2
                  split at hex
                  · rename_i hcond
                    split at hex
                    · cases hex
                    · rename_i Z hZ
                      have m1 := am_ex_mono _ _ _ _ _ _ _ _ _ hZ
                      have m2 := am_ex_mono _ _ _ _ _ _ _ _ _ hex
                      have hj : 0 < CC.1 := am_call_pos hok hnp hcall
                      have hMet := am_met_of (l := l) (D := D) (K := K) (b := b) (sa := sa) hO ih (as := CC.2.1) hj hM2 hcond.2.2 hZ
                      refine am_szW hz hn hP hS (fun hHz => ?_)
                      refine am_after (am_run_ok hO C hU hHz hP hS hl hdg hok hcall (fun e => hlk e) hnp hM2 hcond.1 hcond.2.1 hd hlo ⟨by omega, by omega⟩ hMet) hS (fun H1 locs1 hP1 hS1 => ?_)
                      have hst : (Z.1.map (am_cv b sa)).toList ++ CC.2.2.map (am_cv b sa) = (Z.1.toList ++ CC.2.2).map (am_cv b sa) := by cases Z.1 <;> rfl
                      rw [hst]
                      exact ih (d' + 1) j (pc + 3) M ls _ Z.2 v h' hM hex p e R s m args below meth c H1 locs1 _ _ n0 tc ts Q Ls C hU hz (by omega) hP1 hS1 hl hd hlo (by omega) (by omega) hRc hRs kr
                  · cases hex
end AMB
/-! RUNS, by rows: a run from a state, out of a run from the next one. -/
theorem am_ex_up {E E' : am_E} {T : List am_M} (h1 : ∀ pc i num lk ls st h S, am_step E pc i num lk ls st h = some S → am_step E' pc i num lk ls st h = some S) (h2 : ∀ i lk st h S, am_hs E i lk st h = some S → am_hs E' i lk st h = some S) (h3 : ∀ h i lk st C, am_call E h i lk st = some C → am_call E' h i lk st = some C) :
    ∀ (n n' d d' j pc : Nat) (ls : am_L) (st : List Value) (h : am_H) (r : Option Value × am_H), n ≤ n' → d ≤ d' → am_ex E T n d j pc ls st h = some r → am_ex E' T n' d' j pc ls st h = some r := by
  intro n
  induction n with
  | zero => intro n' d d' j pc ls st h r _ _ hs; cases hs
  | succ n ih =>
    intro n' d d' j pc ls st h r hn hd hs
    obtain ⟨m, rfl⟩ : ∃ m, n' = m + 1 := ⟨n' - 1, by omega⟩
    have hn : n ≤ m := by omega
    unfold am_ex at hs ⊢
    split at hs
    · cases hs
    · rename_i M hM
      try simp only [hM]
      split at hs
      · cases hs
      · rename_i q hq
        try simp only [hq]
        split at hs
        · rename_i hso
          try simp only [hso]
          split at hs
          · cases hs
          · rename_i S hS
            try simp only [h1 _ _ _ _ _ _ _ _ hS]
            exact ih _ _ _ _ _ _ _ _ _ hn hd hs
        · rename_i hso
          try simp only [hso]
          exact hs
        · rename_i hso
          try simp only [hso]
          split at hs
          · cases hs
          · rename_i S hS
            try simp only [h2 _ _ _ _ _ hS]
            exact ih _ _ _ _ _ _ _ _ _ hn hd hs
        · rename_i s0 s1 s2
          split at hs
          · cases hs
          · rename_i d1
            obtain ⟨e', rfl⟩ : ∃ e', d' = e' + 1 := ⟨d' - 1, by omega⟩
            have hd1 : d1 ≤ e' := by omega
            try simp only
            split at hs
            · rename_i hlk
              try simp only [hlk]
              split at hs
              · split at hs
                · rename_i h8
                  try simp only [h8, if_true]
                  exact ih _ _ _ _ _ _ _ _ _ hn hd hs
                · cases hs
              · cases hs
            · rename_i hlk
              try simp only
              split at hs
              · rename_i hp
                try simp only [hp, if_true]
                split at hs
                · cases hs
                · rename_i P hP
                  try simp only [hP]
                  split at hs
                  · rename_i h8
                    try simp only [h8, if_true]
                    exact ih _ _ _ _ _ _ _ _ _ hn hd hs
                  · cases hs
              · rename_i hp
                try simp only [hp, if_false]
                split at hs
                · cases hs
                · rename_i C hC
                  try simp only [h3 _ _ _ _ _ hC]
                  split at hs
                  · cases hs
                  · rename_i M2 hM2
                    try simp only [hM2]
                    split at hs
                    · rename_i hc
                      try rw [if_pos hc]
                      split at hs
                      · cases hs
                      · rename_i Z hZ
                        try simp only [ih _ _ _ _ _ _ _ _ _ hn hd1 hZ]
                        exact ih _ _ _ _ _ _ _ _ _ hn hd hs
                    · cases hs
theorem am_ex_same {E : am_E} {T : List am_M} {n n' d d' j pc : Nat} {ls : am_L} {st : List Value} {h : am_H} {r : Option Value × am_H} (hn : n ≤ n') (hd : d ≤ d') (hs : am_ex E T n d j pc ls st h = some r) : am_ex E T n' d' j pc ls st h = some r :=
  am_ex_up (fun _ _ _ _ _ _ _ _ z => z) (fun _ _ _ _ _ z => z) (fun _ _ _ _ _ z => z) n n' d d' j pc ls st h r hn hd hs
theorem am_step_sc {a : List (List Value)} {t : List (List Int32)} {z : List Value} {sc : Option (Nat × (Nat → Int32))} {pc : Nat} {i : Instr} {num : Int} {lk : am_K} {ls : am_L} {st : List Value} {h : am_H} {S : Nat × am_L × List Value} (hs : am_step (a, t, z, none) pc i num lk ls st h = some S) : am_step (a, t, z, sc) pc i num lk ls st h = some S := by
  have hrow : ∀ (k : Nat) (v : Value) (r : Nat × (Nat → Int32)), am_rowI (a, t, z, none) h k v = some r → am_rowI (a, t, z, sc) h k v = some r := by
    intro k v r hr
    unfold am_rowI at hr ⊢
    split at hr
    · exact hr
    · split at hr
      · split at hr
        · cases hr
        · cases hr
      · rename_i h9
        simp only [h9, if_false]
        exact hr
    · cases hr
  have hrd : ∀ np k, am_rdI (a, t, z, none) np k ls h st = some S → am_rdI (a, t, z, sc) np k ls h st = some S := by
    intro np k hr
    unfold am_rdI at hr ⊢
    split at hr
    · split at hr
      · rename_i hq
        simp only [hrow _ _ _ hq]
        exact hr
      · cases hr
    · cases hr
  have hln : ∀ np, am_alen (a, t, z, none) np ls h st = some S → am_alen (a, t, z, sc) np ls h st = some S := by
    intro np hr
    unfold am_alen at hr ⊢
    split at hr
    · rename_i v0 r0
      split at hr
      · rename_i n hq
        have h2 : am_len0 (a, t, z, sc) h v0 = some n := by
          unfold am_len0 at hq ⊢
          split at hq
          · exact hq
          · split at hq
            · cases hq
            · rename_i h9
              simp only [h9, if_false]
              exact hq
          · cases hq
        simp only [h2]
        exact hr
      · cases hr
    · cases hr
  cases i <;> first | exact hs | exact hrd _ _ hs | exact hln _ hs
theorem am_ex_sc {a : List (List Value)} {t : List (List Int32)} {z : List Value} (sc : Option (Nat × (Nat → Int32))) {T : List am_M} {n n' d d' j pc : Nat} {ls : am_L} {st : List Value} {h : am_H} {r : Option Value × am_H} (hn : n ≤ n') (hd : d ≤ d') (hs : am_ex (a, t, z, none) T n d j pc ls st h = some r) : am_ex (a, t, z, sc) T n' d' j pc ls st h = some r :=
  am_ex_up (E := (a, t, z, none)) (E' := (a, t, z, sc)) (fun _ _ _ _ _ _ _ _ q => am_step_sc q) (fun _ _ _ _ _ q => q) (fun _ _ _ _ _ q => q) n n' d d' j pc ls st h r hn hd hs
def am_run (E : am_E) (T : List am_M) (d j pc : Nat) (ls : am_L) (st : List Value) (h : am_H) (v : Option Value) (h' : am_H) : Prop := ∃ n, am_ex E T n d j pc ls st h = some (v, h')
section AMR2
variable {E : am_E} {T : List am_M} {d j pc : Nat} {ls : am_L} {st : List Value} {h : am_H} {v : Option Value} {h' : am_H} {M : am_M} {q : am_Q}
theorem am_r0 {S : Nat × am_L × List Value} (hM : T[j]? = some M) (hq : am_find M.2.2.2.2 pc = some q) (hso : am_sort q.2.1 = 0) (hs : am_step E pc q.2.1 q.2.2.1 q.2.2.2 ls st h = some S) (k : am_run E T d j S.1 S.2.1 S.2.2 h v h') : am_run E T d j pc ls st h v h' := by
  obtain ⟨n, hn⟩ := k
  exact ⟨n + 1, by simp only [am_ex, hM, hq, hso, hs]; exact hn⟩
theorem am_r2 {S : List Value × am_H} (hM : T[j]? = some M) (hq : am_find M.2.2.2.2 pc = some q) (hso : am_sort q.2.1 = 2) (hs : am_hs E q.2.1 q.2.2.2 st h = some S) (k : am_run E T d j (pc + am_len q.2.1 q.2.2.1) ls S.1 S.2 v h') : am_run E T d j pc ls st h v h' := by
  obtain ⟨n, hn⟩ := k
  exact ⟨n + 1, by simp only [am_ex, hM, hq, hso, hs]; exact hn⟩
theorem am_r1 (hM : T[j]? = some M) (hq : am_find M.2.2.2.2 pc = some q) (hso : am_sort q.2.1 = 1) (hs : am_ret M.2.2.2.1 q.2.1 st = some v) : am_run E T d j pc ls st h v h :=
  ⟨1, by simp only [am_ex, hM, hq, hso, hs]⟩
/-- a call -/
theorem am_rC {j2 : Nat} {as r : List Value} {M2 : am_M} {v2 : Option Value} {h2 : am_H} (hM : T[j]? = some M) (hq : am_find M.2.2.2.2 pc = some q) (hso : am_sort q.2.1 = 3) (hlk : q.2.2.2.isEmpty = false) (hp : am_isP q.2.2.2 = false) (hc : am_call E h q.2.1 q.2.2.2 st = some (j2, as, r)) (hM2 : T[j2]? = some M2) (hcond : am_sum r ≤ 8 ∧ M2.2.2.1 ≤ 41 ∧ am_sum as ≤ M2.2.2.1) (k1 : am_run E T d j2 0 (lv_args 0 as) [] h v2 h2) (k2 : am_run E T (d + 1) j (pc + 3) ls (v2.toList ++ r) h2 v h') : am_run E T (d + 1) j pc ls st h v h' := by
  obtain ⟨n1, hn1⟩ := k1
  obtain ⟨n2, hn2⟩ := k2
  refine ⟨max n1 n2 + 1, ?_⟩
  have g1 := am_ex_same (Nat.le_max_left n1 n2) (Nat.le_refl d) hn1
  have g2 := am_ex_same (Nat.le_max_right n1 n2) (Nat.le_refl (d + 1)) hn2
  unfold am_ex
  simp only [hM, hq, hso]
  cases hl : q.2.2.2 with
  | nil => rw [hl] at hlk; cases hlk
  | cons x y =>
    rw [hl] at hc hp
    simp only [hp, hc, hM2, if_pos hcond, g1, g2]
    rfl
/-- a field is read -/
theorem am_rG {a ci k : Nat} {fs : List Value} {w : Value} {idx : Nat} {num : Int} {lk : am_K} {dat : List Nat} (hM : T[j]? = some M) (hq : am_find M.2.2.2.2 pc = some (pc, .getfield idx, num, lk)) (hh : h[a]? = some (.inr (.inr (ci, fs)))) (hk : am_key lk ci = some (k :: dat)) (hf : fs[k]? = some w) (kk : am_run E T d j (pc + 3) ls (w :: st) h v h') : am_run E T d j pc ls (.ref a :: st) h v h' :=
  am_r0 (S := (pc + 3, ls, w :: st)) hM hq rfl (by simp only [am_step, am_gf, am_fld, hh, hk, hf]) kk
/-- a field is written -/
theorem am_rW {a ci k tag : Nat} {fs : List Value} {w : Value} {idx : Nat} {num : Int} {lk : am_K} {dat : List Nat} (hM : T[j]? = some M) (hq : am_find M.2.2.2.2 pc = some (pc, .putfield idx, num, lk)) (hh : h[a]? = some (.inr (.inr (ci, fs)))) (hk : am_key lk ci = some (k :: tag :: dat)) (ht : am_fit tag w = true) (hf : k < fs.length) (kk : am_run E T d j (pc + 3) ls st (h.set a (.inr (.inr (ci, fs.set k w)))) v h') : am_run E T d j pc ls (w :: .ref a :: st) h v h' :=
  am_r2 (S := (st, h.set a (.inr (.inr (ci, fs.set k w))))) hM hq rfl (by simp only [am_hs, am_pf, hh, hk, ht, hf, and_self, if_true]) kk
/-- branches -/
theorem am_rT {x : Int32} {c : ClassFile.Cond} {off num : Int} {lk : am_K} {tgt : Nat} (hM : T[j]? = some M) (hq : am_find M.2.2.2.2 pc = some (pc, .ifCond c off, num, lk)) (hc : am_cmp c x 0 = true) (ht : (pc : Int) + off = (tgt : Int)) (kk : am_run E T d j tgt ls st h v h') : am_run E T d j pc ls (.int x :: st) h v h' :=
  am_r0 (S := (tgt, ls, st)) hM hq rfl (by simp only [am_step, am_if, am_br, hc, ht]; simp) kk
theorem am_rF {x : Int32} {c : ClassFile.Cond} {off num : Int} {lk : am_K} {tgt : Nat} (hM : T[j]? = some M) (hq : am_find M.2.2.2.2 pc = some (pc, .ifCond c off, num, lk)) (hc : am_cmp c x 0 = false) (ht : (pc : Int) + off = (tgt : Int)) (kk : am_run E T d j (pc + 3) ls st h v h') : am_run E T d j pc ls (.int x :: st) h v h' :=
  am_r0 (S := (pc + 3, ls, st)) hM hq rfl (by simp only [am_step, am_if, am_br, hc, ht]; simp) kk
theorem am_rT2 {x y : Int32} {c : ClassFile.Cond} {off num : Int} {lk : am_K} {tgt : Nat} (hM : T[j]? = some M) (hq : am_find M.2.2.2.2 pc = some (pc, .if_icmp c off, num, lk)) (hc : am_cmp c x y = true) (ht : (pc : Int) + off = (tgt : Int)) (kk : am_run E T d j tgt ls st h v h') : am_run E T d j pc ls (.int y :: .int x :: st) h v h' :=
  am_r0 (S := (tgt, ls, st)) hM hq rfl (by simp only [am_step, am_if2, am_br, hc, ht]; simp) kk
theorem am_rF2 {x y : Int32} {c : ClassFile.Cond} {off num : Int} {lk : am_K} {tgt : Nat} (hM : T[j]? = some M) (hq : am_find M.2.2.2.2 pc = some (pc, .if_icmp c off, num, lk)) (hc : am_cmp c x y = false) (ht : (pc : Int) + off = (tgt : Int)) (kk : am_run E T d j (pc + 3) ls st h v h') : am_run E T d j pc ls (.int y :: .int x :: st) h v h' :=
  am_r0 (S := (pc + 3, ls, st)) hM hq rfl (by simp only [am_step, am_if2, am_br, hc, ht]; simp) kk
theorem am_rJ {off num : Int} {lk : am_K} {tgt : Nat} (hM : T[j]? = some M) (hq : am_find M.2.2.2.2 pc = some (pc, .goto off, num, lk)) (ht : (pc : Int) + off = (tgt : Int)) (kk : am_run E T d j tgt ls st h v h') : am_run E T d j pc ls st h v h' :=
  am_r0 (S := (tgt, ls, st)) hM hq rfl (by simp only [am_step, am_jp, ht]; simp) kk
end AMR2
