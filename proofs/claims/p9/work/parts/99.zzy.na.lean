/-! NUMBERS: what a NUMBER's node tells is what stands at its place, in the tree. -/
def zA (G : Int → Int) (A : aT) : Prop := 0 ≤ A.1 ∧ ∀ n, 0 ≤ n → n < A.1 → A.2.1 n = 0 → A.2.2.2.1 n = G (A.2.2.1 n)
def zT (G : Int → Int) (t : aK) : Prop := ∀ i, t.1 i = 1 → t.2.1 i = G (t.2.2 i)
def zF (G : Int → Int) (F : aF) : Prop := ∀ i A i' A' q, F i A = some (i', A', q) → zA G A → zA G A'
theorem zA_new {G : Int → Int} {A : aT} {kd p w : Int} (h : zA G A) (hk : kd = 0 → w = G p) : zA G (aNew A kd p w) := by
  obtain ⟨h0, h⟩ := h
  refine ⟨by simp only [aNew]; omega, fun n a b z => ?_⟩
  by_cases e : n = A.1
  · subst e
    simp only [aNew, aU, if_true] at z ⊢
    exact hk z
  · simp only [aNew] at b
    simp only [aNew, aU_n _ _ e] at z ⊢
    exact h n a (by omega) z
theorem zA_kid {G : Int → Int} {A : aT} {n q : Int} (h : zA G A) : zA G (aKid A n q) := h
theorem zA_gn {G : Int → Int} {A : aT} {n w p : Int} (h : zA G A) : zA G (aGn A n w p) := h
theorem zA_wd {G : Int → Int} {A : aT} {n w : Int} (h : zA G A) (hn : ¬ A.2.1 n = 0) : zA G (aWd A n w) := by
  refine ⟨h.1, fun k a b z => ?_⟩
  by_cases e : k = n
  · subst e
    exact absurd z hn
  · simp only [aWd, aU_n _ _ e]
    exact h.2 k a b z
section ZRF
variable {t : aK} {G : Int → Int}
theorem mk_k {i : Nat} {A : aT} {kd : Int} {A1 : aT} {n : Int} (hm : aMk t i A kd = some (A1, n)) : A1.2.1 n = kd := by
  obtain ⟨e, -⟩ := mk_s hm
  cases e
  simp [aNew, aU]
theorem mk_z (hV : zT G t) {i : Nat} {A : aT} {kd : Int} {A1 : aT} {n : Int} (hm : aMk t i A kd = some (A1, n)) (h : zA G A) (hk : kd = 0 → t.2.1 i = G (t.2.2 i)) : zA G A1 := by
  obtain ⟨e, -⟩ := mk_s hm
  cases e
  exact zA_new h hk
theorem zF_n : zF G (fun _ _ => none) := fun _ _ _ _ _ h _ => by cases h
theorem zF_btw (hV : zT G t) {kd : Int} {S : aF} (hT : zF G S) (hk : 4 ≤ kd ∧ kd ≤ 10) {l : Int} {i : Nat} {A : aT} {i' : Nat} {A' : aT} {q : Int} (h : aBtw t kd S l i A = some (i', A', q)) (h0 : zA G A) : zA G A' := by
  unfold aBtw at h
  split at h
  · cases h
  · rename_i A1 n hm
    have a1 := mk_z hV hm h0 (fun z => by omega)
    split at h
    · cases h
    · rename_i i2 A2 r he
      cases h
      exact zA_kid (hT _ _ _ _ _ he (zA_kid a1))
theorem zF_let (hV : zT G t) {E : aF} (hT : zF G E) {i : Nat} {A : aT} {i' : Nat} {A' : aT} {q : Int} (h : aLet t E i A = some (i', A', q)) (h0 : zA G A) : zA G A' := by
  unfold aLet at h
  split at h
  · cases h
  · rename_i A1 n hm
    have a1 := mk_z hV hm h0 (fun z => by omega)
    split at h
    · rename_i hnm
      split at h
      · split at h
        · cases h
        · rename_i i2 A2 a he
          have a2 := hT _ _ _ _ _ he (zA_wd a1 (by rw [mk_k hm]; decide))
          split at h
          · split at h
            · cases h
            · rename_i i3 A3 b hf
              cases h
              exact zA_kid (hT _ _ _ _ _ hf (zA_kid a2))
          · cases h
      · cases h
    · cases h
theorem zF_if (hV : zT G t) {E : aF} (hT : zF G E) : zF G (aIf t E) := by
  intro i A i' A' q h h0
  unfold aIf at h
  split at h
  · cases h
  · rename_i A1 n hm
    have a1 := mk_z hV hm h0 (fun z => by omega)
    split at h
    · cases h
    · rename_i i2 A2 a he
      have a2 := hT _ _ _ _ _ he a1
      split at h
      · split at h
        · cases h
        · rename_i i3 A3 b hf
          have a3 := hT _ _ _ _ _ hf (zA_kid a2)
          split at h
          · split at h
            · cases h
            · rename_i i4 A4 c hg
              cases h
              exact zA_kid (hT _ _ _ _ _ hg (zA_kid a3))
          · cases h
      · cases h
theorem zF_cmp (hV : zT G t) {S : aF} (hT : zF G S) : zF G (aCmp t S) := by
  intro i A i' A' q h h0
  unfold aCmp at h
  split at h
  · cases h
  · rename_i i1 A1 l he
    have a1 := hT _ _ _ _ _ he h0
    unfold aCmpR at h
    split at h
    · cases h; exact a1
    · rename_i kd hq
      exact zF_btw hV hT (qF_C _ _ hq) h a1
theorem zF_rowL (hV : zT G t) {q0 : Nat → Option Int} (hq0 : qF q0) {S : aF} (hT : zF G S) : ∀ (m : Nat) (l : Int) (i : Nat) (A : aT) (i' : Nat) (A' : aT) (q : Int), aRowL t q0 S m l i A = some (i', A', q) → zA G A → zA G A'
  | 0, l, i, A, i', A', q, h, h0 => by
    unfold aRowL at h
    cases h
    exact h0
  | m + 1, l, i, A, i', A', q, h, h0 => by
    unfold aRowL at h
    split at h
    · cases h
      exact h0
    · rename_i kd hq
      split at h
      · cases h
      · rename_i i2 A2 n hb2
        exact zF_rowL hV hq0 hT m _ _ _ _ _ _ h (zF_btw hV hT (hq0 _ _ hq) hb2 h0)
theorem zF_row (hV : zT G t) {q0 : Nat → Option Int} (hq : qF q0) {S : aF} (hT : zF G S) : zF G (aRow t q0 S) := by
  intro i A i' A' q h h0
  unfold aRow at h
  split at h
  · cases h
  · rename_i i1 A1 l he
    unfold aRowR at h
    exact zF_rowL hV hq hT _ _ _ _ _ _ _ h (hT _ _ _ _ _ he h0)
theorem zF_behL (hV : zT G t) {w : Bool} {E : aF} (hT : zF G E) : ∀ (m : Nat) (l : Int) (i : Nat) (A : aT) (i' : Nat) (A' : aT) (q : Int), aBehL t w E m l i A = some (i', A', q) → zA G A → zA G A'
  | 0, l, i, A, i', A', q, h, h0 => by
    unfold aBehL at h
    cases h
    exact h0
  | m + 1, l, i, A, i', A', q, h, h0 => by
    unfold aBehL at h
    split at h
    · split at h
      · split at h
        · cases h
        · rename_i i2 A2 n hb2
          refine zF_behL hV hT m _ _ _ _ _ _ h ?_
          unfold aIdx at hb2
          split at hb2
          · cases hb2
          · rename_i A1 n1 hm
            have a1 := mk_z hV hm h0 (fun z => by omega)
            split at hb2
            · cases hb2
            · rename_i i3 A3 r he
              split at hb2
              · cases hb2
                exact zA_kid (hT _ _ _ _ _ he (zA_kid a1))
              · cases hb2
      · cases h
    · cases h
      exact h0
theorem zF_lstL {E : aF} (hT : zF G E) {n ch : Int} : ∀ (m : Nat) (i : Nat) (A : aT) (i' : Nat) (A' : aT), aLstL t E n ch m i A = some (i', A') → zA G A → zA G A'
  | 0, i, A, i', A', h, _ => by unfold aLstL at h; cases h
  | m + 1, i, A, i', A', h, h0 => by
    unfold aLstL at h
    split at h
    · cases h
    · rename_i i1 A1 r he
      have a1 := hT _ _ _ _ _ he h0
      split at h
      · exact zF_lstL hT m _ _ _ _ h (zA_kid a1)
      · split at h
        · cases h
          exact zA_kid a1
        · cases h
theorem zF_lst {E : aF} (hT : zF G E) {n ch : Int} {i : Nat} {A : aT} {i' : Nat} {A' : aT} {q : Int} (h : aLst t E n ch i A = some (i', A', q)) (h0 : zA G A) : zA G A' := by
  unfold aLst at h
  split at h
  · cases h
  · rename_i i1 A1 he
    cases h
    exact zF_lstL hT _ _ _ _ _ he h0
theorem zF_args {E : aF} (hT : zF G E) {n : Int} {i : Nat} {A : aT} {i' : Nat} {A' : aT} {q : Int} (h : aArgs t E n i A = some (i', A', q)) (h0 : zA G A) : zA G A' := by
  unfold aArgs at h
  split at h
  · cases h
    exact h0
  · exact zF_lst hT h h0
theorem zF_wrd (hV : zT G t) {w : Bool} {E : aF} (hT : zF G E) : zF G (aWrd t w E) := by
  intro i A i' A' q h h0
  unfold aWrd at h
  split at h
  · split at h
    · rename_i hnm
      split at h
      · split at h
        · cases h
        · rename_i A1 n hm
          have a1 := mk_z hV hm h0 (fun z => by omega)
          split at h
          · exact zF_args hT h a1
          · cases h
      · split at h
        · cases h
        · rename_i A1 n hm
          have a1 := mk_z hV hm h0 (fun z => by omega)
          cases h
          exact a1
    · cases h
  · rename_i ha
    split at h
    · cases h
    · rename_i A1 n hm
      have k := act_k ha
      have a1 := mk_z hV hm h0 (fun z => by omega)
      split at h
      · split at h
        · exact zF_args hT h a1
        · cases h
      · cases h
theorem zF_genL (hV : zT G t) {E : aF} (hT : zF G E) {n : Int} : ∀ (m : Nat) (i : Nat) (A : aT) (i' : Nat) (A' : aT), aGenL t E n m i A = some (i', A') → zA G A → zA G A'
  | 0, i, A, i', A', h, _ => by unfold aGenL at h; cases h
  | m + 1, i, A, i', A', h, h0 => by
    unfold aGenL at h
    split at h
    · rename_i hnm
      split at h
      · split at h
        · cases h
        · rename_i i1 A1 r he
          have a1 := hT _ _ _ _ _ he (zA_gn h0)
          split at h
          · exact zF_genL hV hT m _ _ _ _ h (zA_kid a1)
          · cases h
            exact zA_kid a1
      · cases h
    · cases h
theorem zF_grd {E : aF} (hT : zF G E) {n : Int} {i : Nat} {A : aT} {i' : Nat} {A' : aT} {q : Int} (h : aGrd t E n i A = some (i', A', q)) (h0 : zA G A) : zA G A' := by
  unfold aGrd aEnd at h
  split at h
  · split at h
    · cases h
    · rename_i i1 A1 r he
      have a1 := hT _ _ _ _ _ he h0
      split at h
      · cases h
        exact zA_kid a1
      · cases h
  · split at h
    · cases h
      exact h0
    · cases h
theorem zF_each (hV : zT G t) {E : aF} (hT : zF G E) : zF G (aEach t E) := by
  intro i A i' A' q h h0
  unfold aEach at h
  split at h
  · cases h
  · rename_i A1 n hm
    have a1 := mk_z hV hm h0 (fun z => by omega)
    split at h
    · cases h
    · rename_i i2 A2 b he
      have a2 := hT _ _ _ _ _ he a1
      split at h
      · unfold aGens at h
        split at h
        · cases h
        · rename_i i3 A3 hg
          exact zF_grd hT h (zF_genL hV hT _ _ _ _ _ hg (zA_kid a2))
      · cases h
theorem zF_atm (hV : zT G t) {w : Bool} {E : aF} (hT : zF G E) : zF G (aAtm t w E) := by
  intro i A i' A' q h h0
  unfold aAtm at h
  split at h
  · rename_i h1
    split at h
    · cases h
    · rename_i A1 n hm
      have a1 := mk_z hV hm h0 (fun _ => hV _ h1)
      cases h
      exact a1
  · split at h
    · exact zF_wrd hV hT _ _ _ _ _ h h0
    · split at h
      · split at h
        · unfold aPar at h
          split at h
          · cases h
          · rename_i i1 A1 r he
            split at h
            · cases h
              exact hT _ _ _ _ _ he h0
            · cases h
        · cases h
      · split at h
        · split at h
          · unfold aRw at h
            split at h
            · cases h
            · rename_i A1 n hm
              exact zF_lst hT h (mk_z hV hm h0 (fun z => by omega))
          · cases h
        · split at h
          · split at h
            · exact zF_each hV hT _ _ _ _ _ h h0
            · cases h
          · cases h
theorem zF_un (hV : zT G t) {w : Bool} {E U : aF} (hT : zF G E) (hU : zF G U) : zF G (aUn t w E U) := by
  intro i A i' A' q h h0
  unfold aUn at h
  split at h
  · split at h
    · split at h
      · cases h
      · rename_i A1 n hm
        have a1 := mk_z hV hm h0 (fun z => by omega)
        split at h
        · cases h
        · rename_i i2 A2 r he
          cases h
          exact zA_kid (hU _ _ _ _ _ he a1)
    · cases h
  · unfold aItm at h
    split at h
    · cases h
    · rename_i i1 A1 l he
      unfold aBeh at h
      exact zF_behL hV hT _ _ _ _ _ _ _ h (zF_atm hV hT _ _ _ _ _ he h0)
theorem zF_ex (hV : zT G t) {w : Bool} {E U : aF} (hT : zF G E) (hU : zF G U) : zF G (aEx t w E U) := by
  intro i A i' A' q h h0
  unfold aEx at h
  split at h
  · rename_i hw
    split at h
    · exact zF_let hV hT h h0
    · cases h
  · split at h
    · split at h
      · exact zF_if hV hT _ _ _ _ _ h h0
      · cases h
    · exact zF_cmp hV (zF_row hV qF_S (zF_row hV qF_P (zF_un hV hT hU))) _ _ _ _ _ h h0
theorem zF_lv (hV : zT G t) : ∀ f, zF G (aLv t f).1 ∧ zF G (aLv t f).2
  | 0 => ⟨zF_ex hV zF_n zF_n, zF_un hV zF_n zF_n⟩
  | f + 1 => ⟨zF_ex hV (zF_lv hV f).1 (zF_lv hV f).2, zF_un hV (zF_lv hV f).1 (zF_lv hV f).2⟩
theorem z_df1 (hV : zT G t) {N i i' : Nat} {A A' : aT} {x : aDf} (h : aDf1 t N i A = some (i', A', x)) (h0 : zA G A) : zA G A' := by
  unfold aDf1 at h
  split at h
  · split at h
    · split at h
      · cases h
      · split at h
        · split at h
          · split at h
            · cases h
            · rename_i i2 A2 q he
              have a2 := (zF_lv hV 12).1 _ _ _ _ _ he h0
              split at h
              · cases h
                exact a2
              · cases h
          · cases h
        · cases h
    · cases h
  · cases h
theorem z_dfs (hV : zT G t) {N : Nat} : ∀ (m : Nat) (D : List aDf) (i : Nat) (A : aT) (i' : Nat) (A' : aT) (D' : List aDf), aDfs t N m D i A = some (i', A', D') → zA G A → zA G A'
  | 0, D, i, A, i', A', D', h, h0 => by
    unfold aDfs at h
    split at h
    · cases h
    · cases h
      exact h0
  | m + 1, D, i, A, i', A', D', h, h0 => by
    unfold aDfs at h
    split at h
    · split at h
      · cases h
      · rename_i i1 A1 x he
        exact z_dfs hV m _ _ _ _ _ _ h (z_df1 hV he h0)
    · cases h
      exact h0
theorem z_pg (hV : zT G t) {N : Nat} {A A' : aT} {D : List aDf} {q : Int} (h : aPg t N A = some (A', D, q)) (h0 : zA G A) : zA G A' := by
  unfold aPg at h
  split at h
  · cases h
  · rename_i i1 A1 D1 hd
    have c1 := z_dfs hV _ _ _ _ _ _ _ hd h0
    split at h
    · cases h
    · rename_i i2 A2 r he
      have a2 := (zF_lv hV 12).1 _ _ _ _ _ he c1
      split at h
      · cases h
        exact a2
      · cases h
end ZRF
