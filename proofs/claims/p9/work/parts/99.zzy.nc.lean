/-! The tree depends on the tokens alone: two ways of telling them give the same PROGRAM. -/
def tq (t t' : aK) : Prop := (∀ i, t.1 i = t'.1 i) ∧ ∀ i, 1 ≤ t.1 i → t.1 i ≤ 3 → t.2.1 i = t'.2.1 i ∧ t.2.2 i = t'.2.2 i
section TQ
variable {t t' : aK}
theorem tq_sg (h : tq t t') (i : Nat) (ch : Int) : aSg t i ch = aSg t' i ch := by
  unfold aSg
  by_cases c : t.1 i = 3
  · rw [← h.1 i, (h.2 i (by omega) (by omega)).1]
  · rw [decide_eq_false (fun z => c z.1), decide_eq_false (fun z => c ((h.1 i).trans z.1))]
theorem tq_wo (h : tq t t') (i : Nat) (w : Int) : aWo t i w = aWo t' i w := by
  unfold aWo
  by_cases c : t.1 i = 2
  · rw [← h.1 i, (h.2 i (by omega) (by omega)).1]
  · rw [decide_eq_false (fun z => c z.1), decide_eq_false (fun z => c ((h.1 i).trans z.1))]
theorem tq_nm (h : tq t t') (i : Nat) : aNm t i = aNm t' i := by
  unfold aNm
  by_cases c : t.1 i = 2
  · rw [← h.1 i, (h.2 i (by omega) (by omega)).1]
  · rw [decide_eq_false (fun z => c z.1), decide_eq_false (fun z => c ((h.1 i).trans z.1))]
abbrev tin (t : aK) (i : Nat) : Prop := 1 ≤ t.1 i ∧ t.1 i ≤ 3
theorem in_sg (h : tq t t') {i : Nat} {ch : Int} (c : aSg t' i ch = true) : tin t i := by
  unfold aSg at c
  have := (of_decide_eq_true c).1
  have e := h.1 i
  exact ⟨by omega, by omega⟩
theorem in_nm (h : tq t t') {i : Nat} (c : aNm t' i = true) : tin t i := by
  unfold aNm at c
  have := (of_decide_eq_true c).1
  have e := h.1 i
  exact ⟨by omega, by omega⟩
theorem in_wo (h : tq t t') {i : Nat} {w : Int} (c : aWo t' i w = true) : tin t i := by
  unfold aWo at c
  have := (of_decide_eq_true c).1
  have e := h.1 i
  exact ⟨by omega, by omega⟩
theorem tq_mk (h : tq t t') {i : Nat} (g : tin t i) (A : aT) (kd : Int) : aMk t i A kd = aMk t' i A kd := by
  unfold aMk
  rw [(h.2 i g.1 g.2).1, (h.2 i g.1 g.2).2]
theorem tq_let (h : tq t t') {E : aF} {i : Nat} {A : aT} (g : tin t i) : aLet t E i A = aLet t' E i A := by
  unfold aLet
  rw [tq_mk h g]
  simp only [tq_sg h, tq_wo h, tq_nm h]
  by_cases c : aNm t' (i + 1) = true
  · rw [(h.2 (i + 1) (in_nm h c).1 (in_nm h c).2).1]
  · simp only [if_neg c]
theorem tq_if (h : tq t t') {E : aF} {i : Nat} {A : aT} (g : tin t i) : aIf t E i A = aIf t' E i A := by
  unfold aIf
  rw [tq_mk h g]
  simp only [tq_wo h]
theorem tq_qC (h : tq t t') : aqC t = aqC t' := funext fun i => by unfold aqC; simp only [tq_sg h]
theorem tq_qS (h : tq t t') : aqS t = aqS t' := funext fun i => by unfold aqS; simp only [tq_sg h]
theorem tq_qP (h : tq t t') : aqP t = aqP t' := funext fun i => by unfold aqP; simp only [tq_sg h]
theorem in_qC (h : tq t t') {i : Nat} {kd : Int} (c : aqC t' i = some kd) : tin t i := by
  unfold aqC at c
  split at c
  · exact in_sg h (by assumption)
  · split at c
    · exact in_sg h (by assumption)
    · cases c
theorem in_qS (h : tq t t') {i : Nat} {kd : Int} (c : aqS t' i = some kd) : tin t i := by
  unfold aqS at c
  split at c
  · exact in_sg h (by assumption)
  · split at c
    · exact in_sg h (by assumption)
    · cases c
theorem in_qP (h : tq t t') {i : Nat} {kd : Int} (c : aqP t' i = some kd) : tin t i := by
  unfold aqP at c
  split at c
  · exact in_sg h (by assumption)
  · split at c
    · exact in_sg h (by assumption)
    · split at c
      · exact in_sg h (by assumption)
      · cases c
theorem tq_btw (h : tq t t') {kd : Int} {S : aF} {l : Int} {i : Nat} {A : aT} (g : tin t i) : aBtw t kd S l i A = aBtw t' kd S l i A := by
  unfold aBtw
  rw [tq_mk h g]
theorem tq_cmp (h : tq t t') {S : aF} : aCmp t S = aCmp t' S := funext fun i => funext fun A => by
  unfold aCmp
  cases S i A with
  | none => rfl
  | some x =>
    obtain ⟨i1, A1, l⟩ := x
    show aCmpR t S l i1 A1 = aCmpR t' S l i1 A1
    unfold aCmpR
    rw [tq_qC h]
    cases hq : aqC t' i1 with
    | none => rfl
    | some kd => exact tq_btw h (in_qC h hq)
theorem tq_rowL (h : tq t t') {q : Nat → Option Int} {P : aF} (hq : ∀ i kd, q i = some kd → tin t i) : ∀ (m : Nat) (l : Int) (i : Nat) (A : aT), aRowL t q P m l i A = aRowL t' q P m l i A
  | 0, l, i, A => rfl
  | m + 1, l, i, A => by
    unfold aRowL
    cases c : q i with
    | none => rfl
    | some kd =>
      dsimp only
      rw [tq_btw h (hq i kd c)]
      cases aBtw t' kd P l i A with
      | none => rfl
      | some x => exact tq_rowL h hq m _ _ _
theorem tq_row (h : tq t t') {q : Nat → Option Int} {P : aF} (hq : ∀ i kd, q i = some kd → tin t i) : aRow t q P = aRow t' q P := funext fun i => funext fun A => by
  unfold aRow
  cases P i A with
  | none => rfl
  | some x => exact tq_rowL h hq _ _ _ _
theorem tq_idx (h : tq t t') {E : aF} {l : Int} {i : Nat} {A : aT} (g : tin t i) : aIdx t E l i A = aIdx t' E l i A := by
  unfold aIdx
  rw [tq_mk h g]
  simp only [tq_sg h]
theorem tq_behL (h : tq t t') {w : Bool} {E : aF} : ∀ (m : Nat) (l : Int) (i : Nat) (A : aT), aBehL t w E m l i A = aBehL t' w E m l i A
  | 0, l, i, A => rfl
  | m + 1, l, i, A => by
    unfold aBehL
    rw [tq_sg h]
    by_cases c : aSg t' i 91 = true
    · rw [if_pos c, if_pos c]
      by_cases d : w = true
      · rw [if_pos d, if_pos d, tq_idx h (in_sg h c)]
        cases aIdx t' E l i A with
        | none => rfl
        | some x => exact tq_behL h m _ _ _
      · rw [if_neg d, if_neg d]
    · rw [if_neg c, if_neg c]
theorem tq_lstL (h : tq t t') {E : aF} {n ch : Int} : ∀ (m : Nat) (i : Nat) (A : aT), aLstL t E n ch m i A = aLstL t' E n ch m i A
  | 0, i, A => rfl
  | m + 1, i, A => by
    unfold aLstL
    cases E i A with
    | none => rfl
    | some x =>
      obtain ⟨i1, A1, r⟩ := x
      dsimp only
      rw [tq_sg h i1 44, tq_sg h i1 ch]
      by_cases c : aSg t' i1 44 = true
      · rw [if_pos c, if_pos c]
        exact tq_lstL h m _ _
      · rw [if_neg c, if_neg c]
theorem tq_lst (h : tq t t') (E : aF) (n ch : Int) (i : Nat) (A : aT) : aLst t E n ch i A = aLst t' E n ch i A := by
  unfold aLst
  rw [tq_lstL h]
theorem tq_args (h : tq t t') (E : aF) (n : Int) (i : Nat) (A : aT) : aArgs t E n i A = aArgs t' E n i A := by
  unfold aArgs
  rw [tq_sg h, tq_lst h]
theorem tq_wrd (h : tq t t') {w : Bool} {E : aF} {i : Nat} {A : aT} (g : tin t i) : aWrd t w E i A = aWrd t' w E i A := by
  unfold aWrd
  simp only [(h.2 i g.1 g.2).1, tq_nm h, tq_sg h, tq_mk h g, tq_args h]
theorem tq_genL (h : tq t t') {E : aF} {n : Int} : ∀ (m : Nat) (i : Nat) (A : aT), aGenL t E n m i A = aGenL t' E n m i A
  | 0, i, A => rfl
  | m + 1, i, A => by
    unfold aGenL
    rw [tq_nm h, tq_wo h]
    by_cases c : aNm t' i = true
    · have g := in_nm h c
      rw [if_pos c, if_pos c, (h.2 i g.1 g.2).1, (h.2 i g.1 g.2).2]
      by_cases d : aWo t' (i + 1) 374 = true
      · rw [if_pos d, if_pos d]
        cases E (i + 2) (aGn A n (t'.2.1 i) (t'.2.2 i)) with
        | none => rfl
        | some x =>
          obtain ⟨i1, A1, r⟩ := x
          dsimp only
          rw [tq_sg h i1 44]
          by_cases e : aSg t' i1 44 = true ∧ ((aKid A1 n r).2.2.2.2.1 n).length = 1 + ((aKid A1 n r).2.2.2.2.2 n).length
          · rw [if_pos e, if_pos e]
            exact tq_genL h m _ _
          · rw [if_neg e, if_neg e]
      · rw [if_neg d, if_neg d]
    · rw [if_neg c, if_neg c]
theorem tq_end (h : tq t t') (n : Int) (i : Nat) (A : aT) : aEnd t n i A = aEnd t' n i A := by
  unfold aEnd
  rw [tq_sg h]
theorem tq_grd (h : tq t t') (E : aF) (n : Int) (i : Nat) (A : aT) : aGrd t E n i A = aGrd t' E n i A := by
  unfold aGrd
  simp only [tq_sg h, tq_end h]
theorem tq_gens (h : tq t t') (E : aF) (n : Int) (i : Nat) (A : aT) : aGens t E n i A = aGens t' E n i A := by
  unfold aGens
  rw [tq_genL h]
  simp only [tq_grd h]
theorem tq_each (h : tq t t') {E : aF} {i : Nat} {A : aT} (g : tin t i) : aEach t E i A = aEach t' E i A := by
  unfold aEach
  rw [tq_mk h g]
  simp only [tq_sg h, tq_gens h]
theorem tq_par (h : tq t t') {E : aF} {i : Nat} {A : aT} : aPar t E i A = aPar t' E i A := by
  unfold aPar
  simp only [tq_sg h]
theorem tq_rw (h : tq t t') {E : aF} {i : Nat} {A : aT} (g : tin t i) : aRw t E i A = aRw t' E i A := by
  unfold aRw
  rw [tq_mk h g]
  simp only [tq_lst h]
theorem tq_atm (h : tq t t') (w : Bool) (E : aF) (i : Nat) (A : aT) : aAtm t w E i A = aAtm t' w E i A := by
  unfold aAtm
  rw [tq_sg h, tq_sg h, tq_sg h, tq_par h]
  have e := h.1 i
  by_cases c1 : t.1 i = 1
  · rw [if_pos c1, if_pos (e.symm.trans c1), tq_mk h ⟨by omega, by omega⟩]
  · rw [if_neg c1, if_neg (fun z => c1 (e.trans z))]
    by_cases c2 : t.1 i = 2
    · rw [if_pos c2, if_pos (e.symm.trans c2), tq_wrd h ⟨by omega, by omega⟩]
    · rw [if_neg c2, if_neg (fun z => c2 (e.trans z))]
      by_cases c3 : aSg t' i 40 = true
      · rw [if_pos c3, if_pos c3]
      · rw [if_neg c3, if_neg c3]
        by_cases c4 : aSg t' i 91 = true
        · rw [if_pos c4, if_pos c4, tq_rw h (in_sg h c4)]
        · rw [if_neg c4, if_neg c4]
          by_cases c5 : aSg t' i 123 = true
          · rw [if_pos c5, if_pos c5, tq_each h (in_sg h c5)]
          · rw [if_neg c5, if_neg c5]
theorem tq_itm (h : tq t t') (w : Bool) (E : aF) (i : Nat) (A : aT) : aItm t w E i A = aItm t' w E i A := by
  unfold aItm aBeh
  rw [tq_atm h]
  simp only [tq_behL h]
theorem tq_un (h : tq t t') {w : Bool} {E U : aF} : aUn t w E U = aUn t' w E U := funext fun i => funext fun A => by
  unfold aUn
  rw [tq_sg h, tq_itm h]
  by_cases c : aSg t' i 35 = true
  · rw [if_pos c, if_pos c, tq_mk h (in_sg h c)]
  · rw [if_neg c, if_neg c]
theorem tq_cm (h : tq t t') {w : Bool} {E U : aF} : aCm t w E U = aCm t' w E U := by
  unfold aCm aSm aPr
  rw [tq_cmp h, tq_qS h, tq_qP h, tq_un h, tq_row h (q := aqP t') (fun i kd c => in_qP h c), tq_row h (q := aqS t') (fun i kd c => in_qS h c)]
theorem tq_ex (h : tq t t') {w : Bool} {E U : aF} : aEx t w E U = aEx t' w E U := funext fun i => funext fun A => by
  unfold aEx
  rw [tq_wo h, tq_wo h, tq_cm h]
  by_cases c : aWo t' i 19420 = true
  · rw [if_pos c, if_pos c, tq_let h (in_wo h c)]
  · rw [if_neg c, if_neg c]
    by_cases d : aWo t' i 366 = true
    · rw [if_pos d, if_pos d, tq_if h (in_wo h d)]
    · rw [if_neg d, if_neg d]
theorem tq_lv (h : tq t t') : ∀ f, aLv t f = aLv t' f
  | 0 => by unfold aLv; rw [tq_ex h, tq_un h]
  | f + 1 => by unfold aLv; rw [tq_lv h f, tq_ex h, tq_un h]
theorem tq_tyL (h : tq t t') : ∀ (m : Nat) (n : Int) (i : Nat), aTyL t m n i = aTyL t' m n i
  | 0, n, i => rfl
  | m + 1, n, i => by
    unfold aTyL
    rw [tq_sg h, tq_tyL h m]
theorem tq_tyR (h : tq t t') : ∀ (m : Nat) (i : Nat), aTyR t m i = aTyR t' m i
  | 0, i => rfl
  | m + 1, i => by
    unfold aTyR
    rw [tq_sg h, tq_tyR h m]
theorem tq_ty (h : tq t t') (N i : Nat) : aTy t N i = aTy t' N i := by
  unfold aTy
  rw [tq_tyL h, tq_wo h, tq_tyR h]
theorem tq_paL (h : tq t t') (N : Nat) : ∀ (m : Nat) (ps : List (Int × Int × Int)) (i : Nat), aPaL t N m ps i = aPaL t' N m ps i
  | 0, ps, i => rfl
  | m + 1, ps, i => by
    unfold aPaL
    rw [tq_nm h, tq_sg h (i + 1), tq_ty h]
    by_cases c : aNm t' i = true
    · have g := in_nm h c
      rw [if_pos c, if_pos c, (h.2 i g.1 g.2).1, (h.2 i g.1 g.2).2]
      by_cases d : aSg t' (i + 1) 58 = true
      · rw [if_pos d, if_pos d]
        cases aTy t' N (i + 2) with
        | none => rfl
        | some x =>
          obtain ⟨i1, ty⟩ := x
          dsimp only
          rw [tq_sg h i1 44]
          by_cases e : aSg t' i1 44 = true
          · rw [if_pos e, if_pos e]
            exact tq_paL h N m _ _
          · rw [if_neg e, if_neg e]
      · rw [if_neg d, if_neg d]
    · rw [if_neg c, if_neg c]
theorem tq_df1 (h : tq t t') (N i : Nat) (A : aT) : aDf1 t N i A = aDf1 t' N i A := by
  unfold aDf1 aPas
  simp only [tq_nm h, tq_sg h, tq_paL h, tq_lv h]
  by_cases c : aNm t' (i + 1) = true
  · have g := in_nm h c
    rw [(h.2 (i + 1) g.1 g.2).1, (h.2 (i + 1) g.1 g.2).2]
  · rw [if_neg c, if_neg c]
theorem tq_dfs (h : tq t t') (N : Nat) : ∀ (m : Nat) (D : List aDf) (i : Nat) (A : aT), aDfs t N m D i A = aDfs t' N m D i A
  | 0, D, i, A => by unfold aDfs; rw [tq_wo h]
  | m + 1, D, i, A => by
    unfold aDfs
    rw [tq_wo h, tq_df1 h]
    by_cases c : aWo t' i 6606 = true
    · rw [if_pos c, if_pos c]
      cases aDf1 t' N i A with
      | none => rfl
      | some x => exact tq_dfs h N m _ _ _
    · rw [if_neg c, if_neg c]
theorem tq_pg (h : tq t t') (N : Nat) (A : aT) : aPg t N A = aPg t' N A := by
  unfold aPg
  rw [tq_dfs h, tq_lv h]
  cases aDfs t' N 12 [] 0 A with
  | none => rfl
  | some x =>
    obtain ⟨i, A1, D⟩ := x
    dsimp only
    cases (aLv t' 12).1 i A1 with
    | none => rfl
    | some y =>
      obtain ⟨i2, A2, q⟩ := y
      dsimp only
      rw [h.1 i2]
theorem tq_of {c : tkC} {N N' : Nat} (hB : tkB c t N) (hB' : tkB c t' N') : N = N' ∧ tq t t' := by
  obtain ⟨-, -, ⟨a1, a2⟩, a3, a4, a5⟩ := hB
  obtain ⟨-, -, ⟨b1, b2⟩, b3, b4, b5⟩ := hB'
  have eN : N = N' := by
    rcases Nat.lt_trichotomy N N' with q | q | q
    · have x := b3 N q
      rw [(b1 N (Nat.le_of_lt q)).1, ← (a1 N (Nat.le_refl _)).1] at x
      omega
    · exact q
    · have x := a3 N' q
      rw [(a1 N' (Nat.le_of_lt q)).1, ← (b1 N' (Nat.le_refl _)).1] at x
      omega
  subst eN
  refine ⟨rfl, fun i => ?_, fun i i1 i2 => ?_⟩
  · rcases Nat.lt_or_ge N i with q | q
    · rw [a5 i q, b5 i q]
    · rw [(a1 i q).1, (b1 i q).1]
  · have hi : i < N := by
      rcases Nat.lt_trichotomy i N with q | q | q
      · exact q
      · rw [q] at i1 i2; omega
      · rw [a5 i q] at i1; omega
    exact ⟨by rw [a2 i hi, b2 i hi], by rw [(a1 i (Nat.le_of_lt hi)).2, (b1 i (Nat.le_of_lt hi)).2]⟩
theorem pg_same {c : tkC} {N N' : Nat} (hB : tkB c t N) (hB' : tkB c t' N') (A : aT) : aPg t N A = aPg t' N' A := by
  obtain ⟨e, h⟩ := tq_of hB hB'
  rw [← e]
  exact tq_pg h N A
end TQ
