/-! STEPS THAT WRITE OR MAKE CELLS. -/
def am_sz1 (x : am_C) : Nat := match x with
  | .inl (_, n, _) => n
  | .inr (.inl (n, _)) => n
  | .inr (.inr (_, fs)) => fs.length
def am_sz (h : am_H) : Nat := (h.map am_sz1).sum
theorem am_sz_set {h : am_H} {a : Nat} {x y : am_C} (hx : h[a]? = some x) (he : am_sz1 y = am_sz1 x) : am_sz (h.set a y) = am_sz h := by
  unfold am_sz
  induction h generalizing a with
  | nil => cases hx
  | cons z r ih =>
    cases a with
    | zero =>
      rw [List.getElem?_cons_zero] at hx
      cases hx
      simp [he]
    | succ a =>
      rw [List.getElem?_cons_succ] at hx
      have := ih hx
      simp only [List.set_cons_succ, List.map_cons, List.sum_cons]
      omega
theorem am_sz_push (h : am_H) (x : am_C) : am_sz (h ++ [x]) = am_sz h + am_sz1 x := by simp [am_sz]
theorem am_W_set {K : Nat → ClassId} {b : Nat} {sa : Nat → Nat} (h : am_H) (a : Nat) (x : am_C) : (am_W K b sa h).set a (b + a, am_ce K b sa x) = am_W K b sa (h.set a x) := by
  unfold am_W
  rw [List.mapIdx_set]
theorem am_W_push {K : Nat → ClassId} {b : Nat} {sa : Nat → Nat} (h : am_H) (x : am_C) : am_W K b sa (h ++ [x]) = am_W K b sa h ++ [(b + h.length, am_ce K b sa x)] := by
  unfold am_W
  rw [List.mapIdx_concat]
theorem am_W_len {K : Nat → ClassId} {b : Nat} {sa : Nat → Nat} (h : am_H) : (am_W K b sa h).length = h.length := by
  unfold am_W
  rw [List.length_mapIdx]
theorem am_W_of {K : Nat → ClassId} {b : Nat} {sa : Nat → Nat} {h : am_H} {a : Nat} {q : Nat × va_E} (hq : (am_W K b sa h)[a]? = some q) : q.1 = b + a := by
  unfold am_W at hq
  rw [List.getElem?_mapIdx] at hq
  cases hx : h[a]? with
  | none => rw [hx] at hq; cases hq
  | some x => rw [hx] at hq; cases hq; rfl
theorem am_D (K : Nat → ClassId) (b : Nat) (sa : Nat → Nat) (h : am_H) : va_D (fun q => b ≤ q) (am_W K b sa h) := by
  refine ⟨fun i j p q hi hj e => ?_, fun k q hk => ?_⟩
  · have h1 := am_W_of hi
    have h2 := am_W_of hj
    omega
  · show b ≤ q.1
    rw [am_W_of hk]
    omega
theorem am_hs_mono {E : am_E} {i : Instr} {lk : am_K} {st : List Value} {h : am_H} {S : List Value × am_H} (hs : am_hs E i lk st h = some S) : h.length ≤ S.2.length ∧ am_sz h ≤ am_sz S.2 := by
  unfold am_hs at hs
  split at hs
  · unfold am_pf at hs
    split at hs
    · split at hs
      · rename_i ci fs hc
        split at hs
        · split at hs
          · cases hs
            exact ⟨by rw [List.length_set]; exact Nat.le_refl _, Nat.le_of_eq (am_sz_set hc (by simp [am_sz1])).symm⟩
          · cases hs
        · cases hs
      · cases hs
    · cases hs
  · unfold am_wrI at hs
    split at hs
    · split at hs
      · rename_i t' n f hc
        split at hs
        · split at hs
          · cases hs
          · cases hs
            exact ⟨by rw [List.length_set]; exact Nat.le_refl _, Nat.le_of_eq (am_sz_set hc (by rfl)).symm⟩
        · cases hs
      · cases hs
    · cases hs
  · unfold am_wrI at hs
    split at hs
    · split at hs
      · rename_i t' n f hc
        split at hs
        · split at hs
          · cases hs
          · cases hs
            exact ⟨by rw [List.length_set]; exact Nat.le_refl _, Nat.le_of_eq (am_sz_set hc (by rfl)).symm⟩
        · cases hs
      · cases hs
    · cases hs
  · unfold am_wrL at hs
    split at hs
    · split at hs
      · rename_i n f hc
        split at hs
        · cases hs
        · cases hs
          exact ⟨by rw [List.length_set]; exact Nat.le_refl _, Nat.le_of_eq (am_sz_set hc (by rfl)).symm⟩
      · cases hs
    · cases hs
  · unfold am_new at hs
    split at hs
    · split at hs
      · cases hs
        rw [am_sz_push, List.length_append]
        exact ⟨by omega, by omega⟩
      · cases hs
    · cases hs
  · unfold am_na at hs
    split at hs
    · split at hs
      · cases hs
      · split at hs
        · cases hs
          rw [am_sz_push, List.length_append]
          exact ⟨by omega, by omega⟩
        · cases hs
    · cases hs
  · cases hs
theorem am_ex_mono {E : am_E} {T : List am_M} : ∀ (n d j pc : Nat) (ls : am_L) (st : List Value) (h : am_H) (v : Option Value) (h' : am_H), am_ex E T n d j pc ls st h = some (v, h') → h.length ≤ h'.length ∧ am_sz h ≤ am_sz h' := by
  intro n
  induction n with
  | zero => intro d j pc ls st h v h' hs; cases hs
  | succ n ih =>
    intro d j pc ls st h v h' hs
    unfold am_ex at hs
    split at hs
    · cases hs
    · split at hs
      · cases hs
      · split at hs
        · split at hs
          · cases hs
          · exact ih _ _ _ _ _ _ _ _ hs
        · split at hs
          · cases hs
          · cases hs
            exact ⟨Nat.le_refl _, Nat.le_refl _⟩
        · split at hs
          · cases hs
          · rename_i S hS
            have h1 := am_hs_mono hS
            have h2 := ih _ _ _ _ _ _ _ _ hs
            omega
        · split at hs
          · cases hs
          · split at hs
            · split at hs
              · split at hs
                · exact ih _ _ _ _ _ _ _ _ hs
                · cases hs
              · cases hs
            · split at hs
              · split at hs
                · cases hs
                · split at hs
                  · exact ih _ _ _ _ _ _ _ _ hs
                  · cases hs
              · split at hs
                · cases hs
                · split at hs
                  · cases hs
                  · split at hs
                    · split at hs
                      · cases hs
                      · rename_i Z hZ
                        have h1 := ih _ _ _ _ _ _ _ _ hZ
                        have h2 := ih _ _ _ _ _ _ _ _ hs
                        omega
                    · cases hs
section AMH
variable {p : Program} {l : Launch} {e : Env} {R : Room} {s : State} {m : MethodId} {args : Array Value} {below : List Frame} {meth : Method} {c : Code} {H : Heap} {locs : List Loc} {cells slots : Nat} {Q : State → Prop}
variable {cc : ByteArray} {pc nL n0 : Nat} {Ls : Array Slot} {D : va_G} {cl : List vw_C} {K : Nat → ClassId} {b : Nat} {sa : Nat → Nat} {Tc : List (List Cond)} {G Ns : List Cond} {Rs : am_Rs} {Zs : am_Zs} {E : am_E} {T : List am_M} {ls : am_L} {st : List Value} {h : am_H} {S : List Value × am_H} {own nm : String} {num : Int} {lk : am_K}
/-- the heap has the cells of before, and these: its size -/
theorem am_szW {g : JFrame} (hz : s.heap.size = b + n0) (hn : cells + n0 = h.length) (hP : va_P D cl (am_W K b sa h) H) (hS : va_S (fun q => b ≤ q) s.heap H locs) (kk : H.size = b + h.length → W p l e R s m args below meth c H locs cells slots Q g) : W p l e R s m args below meth c H locs cells slots Q g := by
  intro T hT X
  have h1 := X.heapSize
  rw [hT] at h1
  have h2 := hS.1
  refine kk ?_ T hT X
  cases hl : h.length with
  | zero => omega
  | succ k =>
    have hk : k < h.length := by omega
    have h3 := (hP k _ (am_W_at (List.getElem?_eq_getElem hk))).lt
    simp only at h3
    omega
/-- where the walk goes on behind a write -/
abbrev am_kh (p : Program) (l : Launch) (e : Env) (R : Room) (s : State) (m : MethodId) (args : Array Value) (below : List Frame) (meth : Method) (c : Code) (cells slots : Nat) (Q : State → Prop) (D : va_G) (cl : List vw_C) (K : Nat → ClassId) (b : Nat) (sa : Nat → Nat) (h : am_H) (np : Nat) (Ls : Array Slot) (S : List Value × am_H) : Prop :=
  ∀ (H1 : Heap) (locs1 : List Loc), va_P D cl (am_W K b sa S.2) H1 → va_S (fun q => b ≤ q) s.heap H1 locs1 → W p l e R s m args below meth c H1 locs1 (cells + (S.2.length - h.length)) (slots + (am_sz S.2 - am_sz h)) Q (F0 m np Ls (S.1.map (am_cv b sa)))
theorem am_fit_ok {tag : Nat} {v : Value} {d : String} (h1 : am_fit tag v = true) (h2 : am_okT d tag = true) : ∃ ty, parseFieldDescriptor d = some ty ∧ narrow ty (am_cv b sa v) = am_cv b sa v ∧ fits ty (am_cv b sa v) = true := by
  unfold am_okT at h2
  split at h2
  · rename_i e1
    cases v <;> first | exact ⟨_, e1, rfl, rfl⟩ | cases h1
  · rename_i e1
    cases v <;> first | (cases h1; done) | skip
    rename_i x
    have hx : x = 0 ∨ x = 1 := of_decide_eq_true h1
    refine ⟨_, e1, ?_⟩
    rcases hx with rfl | rfl
    · exact ⟨rfl, rfl⟩
    · exact ⟨rfl, rfl⟩
  · rename_i e1
    cases v <;> first | exact ⟨_, e1, rfl, rfl⟩ | cases h1
  · rename_i e1
    cases v <;> first | exact ⟨_, e1, rfl, rfl⟩ | cases h1
  · rename_i e1
    cases v <;> first | exact ⟨_, e1, rfl, rfl⟩ | cases h1
  · cases h2
theorem am_pf_ok {idx : Nat} (hx : p.tables.exec = Jvm.exec) (hb : c.code = cc) (hown : s.vm.findClass own = some m.cls) (hnm : meth.name = nm) (hts : ∀ w ∈ G, w.before args s = true) (hTG : ∀ w ∈ Tc.flatten, goodWord w = true → w ∈ G) (hCL : am_CL G cl E.1) (hU : am_U D cl K b sa Ns Rs Zs E s) (hP : va_P D cl (am_W K b sa h) H) (hS : va_S (fun q => b ≤ q) s.heap H locs) (hdg : decode cc pc = .ok (.putfield idx, 3)) (hok : lk.all (fun q => am_okF Tc Ns cl own idx q.1 q.2 && am_okP cl own nm q.1 q.2) = true) (hs : am_pf lk st h = some S) (kk : am_kh p l e R s m args below meth c cells slots Q D cl K b sa h (pc + 3) Ls S) : W p l e R s m args below meth c H locs cells slots Q (F0 m pc Ls (st.map (am_cv b sa))) := by
  unfold am_pf at hs
  split at hs
  · rename_i v a r
    split at hs
    · rename_i ci fs hc
      split at hs
      · rename_i k tag dat hk
        split at hs
        · rename_i hf
          cases hs
          have kk2 : ∀ (H1 : Heap) (locs1 : List Loc), va_P D cl ((am_W K b sa h).set a (b + a, .inr (ci, (fs.map (am_cv b sa)).set k (am_cv b sa v)))) H1 → va_D (fun q => b ≤ q) ((am_W K b sa h).set a (b + a, .inr (ci, (fs.map (am_cv b sa)).set k (am_cv b sa v)))) → va_S (fun q => b ≤ q) s.heap H1 locs1 → W p l e R s m args below meth c H1 locs1 cells slots Q (F0 m (pc + 3) Ls (r.map (am_cv b sa))) := by
            intro H1 locs1 q1 _ q3
            have q4 := kk H1 locs1 (by rw [← am_W_set]; simp only [am_ce, List.map_set]; exact q1) q3
            simp only [List.length_set, Nat.sub_self, Nat.add_zero, am_sz_set hc (show am_sz1 (.inr (.inr (ci, fs.set k v))) = am_sz1 (.inr (.inr (ci, fs))) by simp [am_sz1])] at q4
            exact q4
          have hq := List.all_eq_true.mp hok _ (am_key_mem hk)
          simp only [Bool.and_eq_true] at hq
          obtain ⟨hq1, hq2⟩ := hq
          unfold am_okP at hq2
          split at hq2
          · rename_i k2 tag2 kind2 rest2 C2 F N2 hd2 hC
            cases hd2
            simp only [Bool.and_eq_true] at hq2
            obtain ⟨hty, hfin⟩ := hq2
            obtain ⟨ty, ht1, ht2, ht3⟩ := am_fit_ok (b := b) (sa := sa) hf.1 hty
            unfold am_okF at hq1
            split at hq1
            · rename_i k3 tag3 kind3 p1 p2 rest3 C3 F3 N3 hd3 hC3
              cases hd3
              cases hC.symm.trans hC3
              obtain ⟨hin, ⟨ty0, hty0, -⟩, hnm2⟩ := hCL ci _ _ _ hC
              simp only [Bool.and_eq_true, decide_eq_true_eq] at hq1
              obtain ⟨hkN, hq1⟩ := hq1
              have hlen : k < (fs.map (am_cv b sa)).length := by rw [List.length_map]; exact hf.2
              by_cases hF : (F k).2.2.2 = true
              · rw [if_pos hF] at hfin
                simp only [Bool.and_eq_true, decide_eq_true_eq] at hfin
                obtain ⟨⟨hi1, hi2⟩, hi3⟩ := hfin
                subst hi3
                simp only [decide_eq_true_eq] at hq1
                exact va_putF hx hb hts hin ty0 hty0 hnm2 hown hU.1 hP (am_D K b sa h) hS a (am_W_at hc) hC k hkN (hts _ (hTG _ (am_at_mem hq1) rfl)) (fun x hx => hx) hF (by rw [hnm]; exact hi1) hi2 ht1 ht2 ht3 hlen hdg kk2
              · have hF0 : (F k).2.2.2 = false := by
                  cases hh : (F k).2.2.2 with
                  | true => exact absurd hh hF
                  | false => rfl
                split at hq1
                · rw [decide_eq_true_eq] at hq1
                  exact va_put hx hb hts hin ty0 hty0 hnm2 hown hU.1 hP (am_D K b sa h) hS a (am_W_at hc) hC k hkN (hts _ (hTG _ (am_at_mem hq1) rfl)) (fun x hx => hx) hF0 ht1 ht2 ht3 hlen hdg kk2
                · split at hq1
                  · simp only [Bool.and_eq_true, decide_eq_true_eq] at hq1
                    obtain ⟨h1, h2⟩ := hq1
                    exact va_put hx hb hts hin ty0 hty0 hnm2 hown hU.1 hP (am_D K b sa h) hS a (am_W_at hc) hC k hkN (hts _ (hTG _ (am_at_mem h1) rfl)) (fun x hx => u_same (hts _ (hTG _ (am_at_mem h2) rfl)) x hx) hF0 ht1 ht2 ht3 hlen hdg kk2
                  · cases hq1
                · split at hq1
                  · rw [decide_eq_true_eq] at hq1
                    exact va_putN hx hb hts hin ty0 hty0 hnm2 hown hU.1 hP (am_D K b sa h) hS a (am_W_at hc) hC k hkN (va_Nw.use rfl (hU.2.1 _ (List.mem_of_getElem? hq1))) (fun x hx => hx) hF0 ht1 ht2 ht3 hlen hdg kk2
                  · cases hq1
                · cases hq1
            · cases hq1
          · cases hq2
        · cases hs
      · cases hs
    · cases hs
  · cases hs
theorem am_wrI_ok {t : Nat} {i : Instr} (ht : (t = 0 ∧ i = .iastore) ∨ (t = 1 ∧ i = .bastore)) (hx : p.tables.exec = Jvm.exec) (hb : c.code = cc) (hU : am_U D cl K b sa Ns Rs Zs E s) (hP : va_P D cl (am_W K b sa h) H) (hS : va_S (fun q => b ≤ q) s.heap H locs) (hdg : decode cc pc = .ok (i, 1)) (hs : am_wrI t st h = some S) (kk : am_kh p l e R s m args below meth c cells slots Q D cl K b sa h (pc + 1) Ls S) : W p l e R s m args below meth c H locs cells slots Q (F0 m pc Ls (st.map (am_cv b sa))) := by
  unfold am_wrI at hs
  split at hs
  · rename_i x ix a r
    split at hs
    · rename_i t' n f hc
      split at hs
      · rename_i et
        split at hs
        · cases hs
        · rename_i hin
          cases hs
          have kk2 : ∀ (H1 : Heap) (locs1 : List Loc), va_P D cl ((am_W K b sa h).set a (b + a, .inl (K t', n, .inl (upd f ix.toNatClampNeg (am_nb t' x))))) H1 → va_D (fun q => b ≤ q) ((am_W K b sa h).set a (b + a, .inl (K t', n, .inl (upd f ix.toNatClampNeg (am_nb t' x))))) → va_S (fun q => b ≤ q) s.heap H1 locs1 → W p l e R s m args below meth c H1 locs1 cells slots Q (F0 m (pc + 1) Ls (r.map (am_cv b sa))) := by
            intro H1 locs1 q1 _ q3
            have q4 := kk H1 locs1 (by rw [← am_W_set]; exact q1) q3
            simp only [List.length_set, Nat.sub_self, Nat.add_zero, am_sz_set hc (show am_sz1 (.inl (t', n, upd f ix.toNatClampNeg (am_nb t' x))) = am_sz1 (.inl (t', n, f)) from rfl)] at q4
            exact q4
          rcases ht with ⟨rfl, rfl⟩ | ⟨rfl, rfl⟩
          · rcases et with rfl | ⟨h1, -⟩
            · exact va_iast hx hb hU.1 hP (am_D K b sa h) hS a 0 (am_W_at hc) rfl hin hdg kk2
            · cases h1
          · rcases et with rfl | ⟨-, rfl⟩
            · exact va_bast hx hb hU.1 hP (am_D K b sa h) hS a 1 (am_W_at hc) rfl hin hdg kk2
            · exact va_zast hx hb hU.1 hP (am_D K b sa h) hS a 3 (am_W_at hc) rfl hin hdg kk2
      · cases hs
    · cases hs
  · cases hs
theorem am_wrL_ok (hx : p.tables.exec = Jvm.exec) (hb : c.code = cc) (hU : am_U D cl K b sa Ns Rs Zs E s) (hP : va_P D cl (am_W K b sa h) H) (hS : va_S (fun q => b ≤ q) s.heap H locs) (hdg : decode cc pc = .ok (.lastore, 1)) (hs : am_wrL st h = some S) (kk : am_kh p l e R s m args below meth c cells slots Q D cl K b sa h (pc + 1) Ls S) : W p l e R s m args below meth c H locs cells slots Q (F0 m pc Ls (st.map (am_cv b sa))) := by
  unfold am_wrL at hs
  split at hs
  · rename_i x ix a r
    split at hs
    · rename_i n f hc
      split at hs
      · cases hs
      · rename_i hin
        cases hs
        have kk2 : ∀ (H1 : Heap) (locs1 : List Loc), va_P D cl ((am_W K b sa h).set a (b + a, .inl (K 2, n, .inr (.inl (vp_updL f ix.toNatClampNeg x))))) H1 → va_D (fun q => b ≤ q) ((am_W K b sa h).set a (b + a, .inl (K 2, n, .inr (.inl (vp_updL f ix.toNatClampNeg x))))) → va_S (fun q => b ≤ q) s.heap H1 locs1 → W p l e R s m args below meth c H1 locs1 cells slots Q (F0 m (pc + 1) Ls (r.map (am_cv b sa))) := by
          intro H1 locs1 q1 _ q3
          have q4 := kk H1 locs1 (by rw [← am_W_set]; exact q1) q3
          simp only [List.length_set, Nat.sub_self, Nat.add_zero, am_sz_set hc (show am_sz1 (.inr (.inl (n, vp_updL f ix.toNatClampNeg x))) = am_sz1 (.inr (.inl (n, f))) from rfl)] at q4
          exact q4
        exact va_last hx hb hU.1 hP (am_D K b sa h) hS a 2 (am_W_at hc) rfl hin hdg kk2
    · cases hs
  · cases hs
/-- a new cell lies at the end -/
theorem am_last {x : va_E} {q : Nat} {H1 : Heap} (h1 : H1.size ≤ b + h.length + 1) (hP : va_P D cl (am_W K b sa h ++ [(q, x)]) H1) (hD : va_D (fun q => b ≤ q) (am_W K b sa h ++ [(q, x)])) : q = b + h.length := by
  have hq : (am_W K b sa h ++ [(q, x)])[h.length]? = some (q, x) := by
    rw [List.getElem?_append_right (by rw [am_W_len]; exact Nat.le_refl _), am_W_len, Nat.sub_self]
    rfl
  have h2 := (hP h.length _ hq).lt
  have h3 : b ≤ q := hD.2 h.length _ hq
  simp only at h2
  rcases Nat.lt_or_ge q (b + h.length) with h4 | h4
  · exfalso
    have hk : q - b < h.length := by omega
    have h5 : (am_W K b sa h ++ [(q, x)])[q - b]? = some (b + (q - b), am_ce K b sa h[q - b]) := by
      rw [List.getElem?_append_left (by rw [am_W_len]; exact hk)]
      exact am_W_at (List.getElem?_eq_getElem hk)
    have h6 := hD.1 (q - b) h.length _ _ h5 hq (by simp only; omega)
    omega
  · omega
theorem am_new_ok {idx : Nat} (hx : p.tables.exec = Jvm.exec) (hb : c.code = cc) (hown : s.vm.findClass own = some m.cls) (hts : ∀ w ∈ G, w.before args s = true) (hTG : ∀ w ∈ Tc.flatten, goodWord w = true → w ∈ G) (hCL : am_CL G cl E.1) (hU : am_U D cl K b sa Ns Rs Zs E s) (hz : s.heap.size = b + n0) (hn : cells + n0 = h.length) (hP : va_P D cl (am_W K b sa h) H) (hS : va_S (fun q => b ≤ q) s.heap H locs) (hdg : decode cc pc = .ok (.new idx, 3)) (hok : am_okI Tc Ns Rs Zs cl T own nm nL (.new idx) num lk = true) (hs : am_new E lk st h = some S) (hR : cells + (S.2.length - h.length) ≤ R.cells ∧ slots + (am_sz S.2 - am_sz h) ≤ R.slots) (kk : am_kh p l e R s m args below meth c cells slots Q D cl K b sa h (pc + 3) Ls S) : W p l e R s m args below meth c H locs cells slots Q (F0 m pc Ls (st.map (am_cv b sa))) := by
  simp only [am_okI] at hok
  split at hok
  · rename_i ci p1 p2 p3 r1 r2
    split at hok
    · rename_i C F N hC
      simp only [Bool.and_eq_true, decide_eq_true_eq] at hok
      obtain ⟨⟨h1, h2⟩, h3⟩ := hok
      simp only [am_new] at hs
      split at hs
      · rename_i fs hfs
        cases hs
        obtain ⟨hin, ⟨ty, hty, hdf⟩, -⟩ := hCL ci _ _ _ hC
        obtain ⟨e1, e2, e3⟩ := hdf fs hfs
        have eL : (h ++ [(.inr (.inr (ci, fs)) : am_C)]).length - h.length = 1 := by simp
        have eZ : am_sz (h ++ [.inr (.inr (ci, fs))]) - am_sz h = N := by rw [am_sz_push, am_sz1, e1]; omega
        simp only [eL, eZ] at hR
        refine va_new (ci := ci) (fs := fs) hx hb hts hin ty hty hown (hts _ (hTG _ (am_at_mem h1) rfl)) (hts _ (hTG _ (am_at_mem h2) rfl)) (hts _ (hTG _ (am_at_mem h3) rfl)) hU.1 hP (am_D K b sa h) hS (fun q hq => by show b ≤ q; omega) hC e2 hR.1 hR.2 hdg (fun q H1 hP1 hD1 hS1 => ?_)
        intro T1 hT1 X1
        have hz1 := X1.heapSize
        rw [hT1] at hz1
        have eq1 := am_last (by omega) hP1 hD1
        subst eq1
        have hP2 : va_P D cl (am_W K b sa (h ++ [.inr (.inr (ci, fs))])) H1 := by rw [am_W_push, am_ce, e3]; exact hP1
        have kk2 := kk H1 locs hP2 hS1
        simp only [eL, eZ] at kk2
        exact kk2 T1 hT1 X1
      · cases hs
    · cases hok
  · cases hok
theorem am_na_ok {t : ArrayType} (hx : p.tables.exec = Jvm.exec) (hb : c.code = cc) (hts : ∀ w ∈ G, w.before args s = true) (hTG : ∀ w ∈ Tc.flatten, goodWord w = true → w ∈ G) (hU : am_U D cl K b sa Ns Rs Zs E s) (hz : s.heap.size = b + n0) (hn : cells + n0 = h.length) (hP : va_P D cl (am_W K b sa h) H) (hS : va_S (fun q => b ≤ q) s.heap H locs) (hdg : decode cc pc = .ok (.newarray t, 2)) (hok : am_okI Tc Ns Rs Zs cl T own nm nL (.newarray t) num lk = true) (hs : am_na t st h = some S) (hR : cells + (S.2.length - h.length) ≤ R.cells ∧ slots + (am_sz S.2 - am_sz h) ≤ R.slots) (kk : am_kh p l e R s m args below meth c cells slots Q D cl K b sa h (pc + 2) Ls S) : W p l e R s m args below meth c H locs cells slots Q (F0 m pc Ls (st.map (am_cv b sa))) := by
  simp only [am_okI] at hok
  split at hok
  · rename_i k1 p1 r1 r2
    rw [decide_eq_true_eq] at hok
    unfold am_na at hs
    split at hs
    · rename_i n r
      split at hs
      · cases hs
      · rename_i hn0
        have hneg : ¬ n < 0 := fun q => hn0 (Or.inl q)
        have hbig : n.toNatClampNeg ≤ 60000000 := by
          rcases Nat.lt_or_ge 60000000 n.toNatClampNeg with q | q
          · exact absurd (Or.inr q) hn0
          · exact q
        split at hs
        · rename_i x hbl
          cases hs
          have eL : (h ++ [x]).length - h.length = 1 := by simp
          have eZ : am_sz (h ++ [x]) - am_sz h = am_sz1 x := by rw [am_sz_push]; omega
          simp only [eL, eZ] at hR
          have go : ∀ (ty : FieldType) (q : Nat) (cA : ClassId) (a0 : vp_A) (H1 : Heap), (am_ce K b sa x = .inl (cA, a0)) → va_P D cl (am_W K b sa h ++ [(q, .inl (cA, a0))]) H1 → va_D (fun q => b ≤ q) (am_W K b sa h ++ [(q, .inl (cA, a0))]) → va_S (fun q => b ≤ q) s.heap H1 locs → W p l e R s m args below meth c H1 locs (cells + 1) (slots + am_sz1 x) Q (F0 m (pc + 2) Ls (.ref q :: r.map (am_cv b sa))) := by
            intro ty q cA a0 H1 ea hP1 hD1 hS1 T1 hT1 X1
            have hz1 := X1.heapSize
            rw [hT1] at hz1
            have eq1 := am_last (by omega) hP1 hD1
            subst eq1
            have hP2 : va_P D cl (am_W K b sa (h ++ [x])) H1 := by rw [am_W_push, ea]; exact hP1
            have kk2 := kk H1 locs hP2 hS1
            simp only [eL, eZ] at kk2
            exact kk2 T1 hT1 X1
          unfold am_blank at hbl
          split at hbl
          · cases hbl
            refine va_newa (ty := .int) (a0 := (n.toNatClampNeg, .inl (fun _ => 0))) hx hb (hts _ (hTG _ (am_at_mem hok) rfl)) rfl hU.1 hP (am_D K b sa h) hS (fun q hq => by show b ≤ q; omega) (fun cA => rfl) hneg rfl (by simp only [componentBytes]; omega) hR.1 hR.2 hdg (fun q cA H1 hK1 hP1 hD1 hS1 => ?_)
            have e1 := (hK1.2 4 (cA, .int) rfl).2
            have e2 := (hK1.2 0 (K 0, .int) rfl).2
            have e3 : cA = K 0 := Option.some.inj (Eq.trans (Eq.symm e1) e2)
            subst e3
            exact go .int q (K 0) _ H1 rfl hP1 hD1 hS1
          · cases hbl
            refine va_newa (ty := .byte) (a0 := (n.toNatClampNeg, .inl (fun _ => 0))) hx hb (hts _ (hTG _ (am_at_mem hok) rfl)) rfl hU.1 hP (am_D K b sa h) hS (fun q hq => by show b ≤ q; omega) (fun cA => rfl) hneg rfl (by simp only [componentBytes]; omega) hR.1 hR.2 hdg (fun q cA H1 hK1 hP1 hD1 hS1 => ?_)
            have e1 := (hK1.2 4 (cA, .byte) rfl).2
            have e2 := (hK1.2 1 (K 1, .byte) rfl).2
            have e3 : cA = K 1 := Option.some.inj (Eq.trans (Eq.symm e1) e2)
            subst e3
            exact go .byte q (K 1) _ H1 rfl hP1 hD1 hS1
          · cases hbl
            refine va_newa (ty := .boolean) (a0 := (n.toNatClampNeg, .inl (fun _ => 0))) hx hb (hts _ (hTG _ (am_at_mem hok) rfl)) rfl hU.1 hP (am_D K b sa h) hS (fun q hq => by show b ≤ q; omega) (fun cA => rfl) hneg rfl (by simp only [componentBytes]; omega) hR.1 hR.2 hdg (fun q cA H1 hK1 hP1 hD1 hS1 => ?_)
            have e1 := (hK1.2 4 (cA, .boolean) rfl).2
            have e2 := (hK1.2 3 (K 3, .boolean) rfl).2
            have e3 : cA = K 3 := Option.some.inj (Eq.trans (Eq.symm e1) e2)
            subst e3
            exact go .boolean q (K 3) _ H1 rfl hP1 hD1 hS1
          · cases hbl
            refine va_newa (ty := .long) (a0 := (n.toNatClampNeg, .inr (.inl (fun _ => 0)))) hx hb (hts _ (hTG _ (am_at_mem hok) rfl)) rfl hU.1 hP (am_D K b sa h) hS (fun q hq => by show b ≤ q; omega) (fun cA => rfl) hneg rfl (by simp only [componentBytes]; omega) hR.1 hR.2 hdg (fun q cA H1 hK1 hP1 hD1 hS1 => ?_)
            have e1 := (hK1.2 4 (cA, .long) rfl).2
            have e2 := (hK1.2 2 (K 2, .long) rfl).2
            have e3 : cA = K 2 := Option.some.inj (Eq.trans (Eq.symm e1) e2)
            subst e3
            exact go .long q (K 2) _ H1 rfl hP1 hD1 hS1
          · cases hbl
        · cases hs
    · cases hs
  · cases hok
/-- A STEP that writes or makes a cell -/
theorem am_hs_ok {i : Instr} (hx : p.tables.exec = Jvm.exec) (hb : c.code = cc) (hown : s.vm.findClass own = some m.cls) (hnm : meth.name = nm) (hts : ∀ w ∈ G, w.before args s = true) (hTG : ∀ w ∈ Tc.flatten, goodWord w = true → w ∈ G) (hCL : am_CL G cl E.1) (hU : am_U D cl K b sa Ns Rs Zs E s) (hz : s.heap.size = b + n0) (hn : cells + n0 = h.length) (hP : va_P D cl (am_W K b sa h) H) (hS : va_S (fun q => b ≤ q) s.heap H locs) (hdg : decode cc pc = .ok (i, am_len i num)) (hok : am_okI Tc Ns Rs Zs cl T own nm nL i num lk = true) (hs : am_hs E i lk st h = some S) (hR : cells + (S.2.length - h.length) ≤ R.cells ∧ slots + (am_sz S.2 - am_sz h) ≤ R.slots) (kk : am_kh p l e R s m args below meth c cells slots Q D cl K b sa h (pc + am_len i num) Ls S) : W p l e R s m args below meth c H locs cells slots Q (F0 m pc Ls (st.map (am_cv b sa))) := by
  unfold am_hs at hs
  split at hs
  · exact am_pf_ok hx hb hown hnm hts hTG hCL hU hP hS hdg hok hs kk
  · exact am_wrI_ok (Or.inl ⟨rfl, rfl⟩) hx hb hU hP hS hdg hs kk
  · exact am_wrI_ok (Or.inr ⟨rfl, rfl⟩) hx hb hU hP hS hdg hs kk
  · exact am_wrL_ok hx hb hU hP hS hdg hs kk
  · exact am_new_ok hx hb hown hts hTG hCL hU hz hn hP hS hdg hok hs hR kk
  · exact am_na_ok hx hb hts hTG hU hz hn hP hS hdg hok hs hR kk
  · cases hs
end AMH
