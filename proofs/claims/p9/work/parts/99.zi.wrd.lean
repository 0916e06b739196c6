/-! WORDS of a tree are words: uv tells them apart. -/
def wv (w : Int) : Prop := 0 ≤ w ∧ w < 262144000000000
theorem uvf_0 : ∀ (m : Nat) (w : Int), 0 ≤ w → 0 ≤ uvf m w
  | 0, _, _ => Int.le_refl _
  | m + 1, w, h => by
    unfold uvf
    have := uvf_0 m (w / 40) (by omega)
    split
    · exact Int.le_refl _
    · split <;> omega
theorem uvf_inj : ∀ (m : Nat) (w w' : Int), 0 ≤ w → w < 40 ^ m → 0 ≤ w' → w' < 40 ^ m → uvf m w = uvf m w' → w = w'
  | 0, w, w', a, b, c, d, _ => by simp at b d; omega
  | m + 1, w, w', a, b, c, d, h => by
    have b1 : w / 40 < 40 ^ m := by rw [Int.pow_succ] at b; omega
    have d1 : w' / 40 < 40 ^ m := by rw [Int.pow_succ] at d; omega
    have ih := uvf_inj m (w / 40) (w' / 40) (by omega) b1 (by omega) d1
    have p1 := uvf_0 m (w / 40) (by omega)
    have p2 := uvf_0 m (w' / 40) (by omega)
    unfold uvf at h
    generalize uvf m (w / 40) = x at *
    generalize uvf m (w' / 40) = y at *
    have key : x = y → w / 40 = w' / 40 := ih
    by_cases c1 : w = 0
    · rw [if_pos c1] at h
      by_cases c2 : w' = 0
      · omega
      · rw [if_neg c2] at h
        split at h <;> omega
    · rw [if_neg c1] at h
      by_cases c2 : w' = 0
      · rw [if_pos c2] at h
        split at h <;> omega
      · rw [if_neg c2] at h
        have hxy : x = y := by
          split at h <;> split at h <;> omega
        have := key hxy
        split at h <;> split at h <;> omega
theorem uv_inj {w w' : Int} (h : wv w) (h' : wv w') (e : uv w = uv w') : w = w' := by
  have e9 : (40 : Int) ^ 9 = 262144000000000 := by decide
  refine uvf_inj 9 w w' h.1 ?_ h'.1 ?_ e
  · rw [e9]; exact h.2
  · rw [e9]; exact h'.2
/-- words of nodes and GENS are words, places are places -/
def wA (A : aT) : Prop := ∀ n, (A.2.1 n = 1 ∨ A.2.1 n = 2 ∨ A.2.1 n = 13 → wv (A.2.2.2.1 n)) ∧ (∀ g ∈ A.2.2.2.2.2 n, wv g.1 ∧ 0 ≤ g.2) ∧ 0 ≤ A.2.2.1 n
theorem wA_new {A : aT} {kd p w : Int} (h : wA A) (hp : 0 ≤ p) (hk : kd = 1 ∨ kd = 2 ∨ kd = 13 → wv w) : wA (aNew A kd p w) := fun n => by
  by_cases e : n = A.1
  · subst e
    refine ⟨fun z => ?_, fun g hg => ?_, ?_⟩
    · simp only [aNew, aU, if_true] at z ⊢; exact hk z
    · simp [aNew, aU] at hg
    · simp only [aNew, aU, if_true]; exact hp
  · simp only [aNew, aU_n _ _ e]; exact h n
theorem wA_kid {A : aT} {n q : Int} (h : wA A) : wA (aKid A n q) := h
theorem wA_wd {A : aT} {n w : Int} (h : wA A) (hw : wv w) : wA (aWd A n w) := fun k => by
  by_cases e : k = n
  · subst e
    refine ⟨fun z => ?_, (h k).2⟩
    simp only [aWd, aU, if_true]; exact hw
  · refine ⟨fun z => ?_, (h k).2⟩
    simp only [aWd, aU_n _ _ e]; exact (h k).1 z
theorem wA_gn {A : aT} {n w p : Int} (h : wA A) (hw : wv w) (hp : 0 ≤ p) : wA (aGn A n w p) := fun k => by
  by_cases e : k = n
  · subst e
    refine ⟨(h k).1, fun g hg => ?_, (h k).2.2⟩
    simp only [aGn, aU, if_true] at hg
    rcases List.mem_append.mp hg with z | z
    · exact (h k).2.1 g z
    · rcases List.mem_singleton.mp z with rfl
      exact ⟨hw, hp⟩
  · refine ⟨(h k).1, fun g hg => ?_, (h k).2.2⟩
    simp only [aGn, aU_n _ _ e] at hg
    exact (h k).2.1 g hg
def wT (t : aK) : Prop := (∀ i, t.1 i = 2 → wv (t.2.1 i)) ∧ ∀ i, 0 ≤ t.2.2 i
def wF (F : aF) : Prop := ∀ i A i' A' q, F i A = some (i', A', q) → wA A → wA A'
section WRF
variable {t : aK}
theorem nm_2 {i : Nat} (h : aNm t i = true) : t.1 i = 2 := (of_decide_eq_true h).1
theorem wo_2 {i : Nat} {w : Int} (h : aWo t i w = true) : t.1 i = 2 := (of_decide_eq_true h).1
theorem mk_w (hV : wT t) {i : Nat} {A : aT} {kd : Int} {A1 : aT} {n : Int} (hm : aMk t i A kd = some (A1, n)) (h : wA A) (hk : kd = 1 ∨ kd = 2 ∨ kd = 13 → wv (t.2.1 i)) : wA A1 := by
  obtain ⟨e, -⟩ := mk_s hm
  cases e
  exact wA_new h (hV.2 i) hk
theorem wF_n : wF (fun _ _ => none) := fun _ _ _ _ _ h _ => by cases h
theorem wF_btw (hV : wT t) {kd : Int} {S : aF} (hT : wF S) (hk : 4 ≤ kd ∧ kd ≤ 10) {l : Int} {i : Nat} {A : aT} {i' : Nat} {A' : aT} {q : Int} (h : aBtw t kd S l i A = some (i', A', q)) (h0 : wA A) : wA A' := by
  unfold aBtw at h
  split at h
  · cases h
  · rename_i A1 n hm
    have a1 := mk_w hV hm h0 (fun z => by omega)
    split at h
    · cases h
    · rename_i i2 A2 r he
      cases h
      exact wA_kid (hT _ _ _ _ _ he (wA_kid a1))
theorem wF_let (hV : wT t) {E : aF} (hT : wF E) {i : Nat} (hi : t.1 i = 2) {A : aT} {i' : Nat} {A' : aT} {q : Int} (h : aLet t E i A = some (i', A', q)) (h0 : wA A) : wA A' := by
  unfold aLet at h
  split at h
  · cases h
  · rename_i A1 n hm
    have a1 := mk_w hV hm h0 (fun z => hV.1 i hi)
    split at h
    · rename_i hnm
      split at h
      · split at h
        · cases h
        · rename_i i2 A2 a he
          have a2 := hT _ _ _ _ _ he (wA_wd a1 (hV.1 _ (nm_2 hnm)))
          split at h
          · split at h
            · cases h
            · rename_i i3 A3 b hf
              cases h
              exact wA_kid (hT _ _ _ _ _ hf (wA_kid a2))
          · cases h
      · cases h
    · cases h
theorem wF_if (hV : wT t) {E : aF} (hT : wF E) : wF (aIf t E) := by
  intro i A i' A' q h h0
  unfold aIf at h
  split at h
  · cases h
  · rename_i A1 n hm
    have a1 := mk_w hV hm h0 (fun z => by omega)
    split at h
    · cases h
    · rename_i i2 A2 a he
      have a2 := hT _ _ _ _ _ he a1
      split at h
      · split at h
        · cases h
        · rename_i i3 A3 b hf
          have a3 := hT _ _ _ _ _ hf (wA_kid a2)
          split at h
          · split at h
            · cases h
            · rename_i i4 A4 c hg
              cases h
              exact wA_kid (hT _ _ _ _ _ hg (wA_kid a3))
          · cases h
      · cases h
theorem wF_cmp (hV : wT t) {S : aF} (hT : wF S) : wF (aCmp t S) := by
  intro i A i' A' q h h0
  unfold aCmp at h
  split at h
  · cases h
  · rename_i i1 A1 l he
    have a1 := hT _ _ _ _ _ he h0
    unfold aCmpR at h
    split at h
    · cases h; exact a1
    · rename_i kd hq
      exact wF_btw hV hT (qF_C _ _ hq) h a1
theorem wF_rowL (hV : wT t) {q0 : Nat → Option Int} (hq0 : qF q0) {S : aF} (hT : wF S) : ∀ (m : Nat) (l : Int) (i : Nat) (A : aT) (i' : Nat) (A' : aT) (q : Int), aRowL t q0 S m l i A = some (i', A', q) → wA A → wA A'
  | 0, l, i, A, i', A', q, h, h0 => by
    unfold aRowL at h
    cases h
    exact h0
  | m + 1, l, i, A, i', A', q, h, h0 => by
    unfold aRowL at h
    split at h
    · cases h
      exact h0
    · rename_i kd hq
      split at h
      · cases h
      · rename_i i2 A2 n hb2
        exact wF_rowL hV hq0 hT m _ _ _ _ _ _ h (wF_btw hV hT (hq0 _ _ hq) hb2 h0)
theorem wF_row (hV : wT t) {q0 : Nat → Option Int} (hq : qF q0) {S : aF} (hT : wF S) : wF (aRow t q0 S) := by
  intro i A i' A' q h h0
  unfold aRow at h
  split at h
  · cases h
  · rename_i i1 A1 l he
    unfold aRowR at h
    exact wF_rowL hV hq hT _ _ _ _ _ _ _ h (hT _ _ _ _ _ he h0)
theorem wF_behL (hV : wT t) {w : Bool} {E : aF} (hT : wF E) : ∀ (m : Nat) (l : Int) (i : Nat) (A : aT) (i' : Nat) (A' : aT) (q : Int), aBehL t w E m l i A = some (i', A', q) → wA A → wA A'
  | 0, l, i, A, i', A', q, h, h0 => by
    unfold aBehL at h
    cases h
    exact h0
  | m + 1, l, i, A, i', A', q, h, h0 => by
    unfold aBehL at h
    split at h
    · split at h
      · split at h
        · cases h
        · rename_i i2 A2 n hb2
          refine wF_behL hV hT m _ _ _ _ _ _ h ?_
          unfold aIdx at hb2
          split at hb2
          · cases hb2
          · rename_i A1 n1 hm
            have a1 := mk_w hV hm h0 (fun z => by omega)
            split at hb2
            · cases hb2
            · rename_i i3 A3 r he
              split at hb2
              · cases hb2
                exact wA_kid (hT _ _ _ _ _ he (wA_kid a1))
              · cases hb2
      · cases h
    · cases h
      exact h0
theorem wF_lstL {E : aF} (hT : wF E) {n ch : Int} : ∀ (m : Nat) (i : Nat) (A : aT) (i' : Nat) (A' : aT), aLstL t E n ch m i A = some (i', A') → wA A → wA A'
  | 0, i, A, i', A', h, _ => by unfold aLstL at h; cases h
  | m + 1, i, A, i', A', h, h0 => by
    unfold aLstL at h
    split at h
    · cases h
    · rename_i i1 A1 r he
      have a1 := hT _ _ _ _ _ he h0
      split at h
      · exact wF_lstL hT m _ _ _ _ h (wA_kid a1)
      · split at h
        · cases h
          exact wA_kid a1
        · cases h
theorem wF_lst {E : aF} (hT : wF E) {n ch : Int} {i : Nat} {A : aT} {i' : Nat} {A' : aT} {q : Int} (h : aLst t E n ch i A = some (i', A', q)) (h0 : wA A) : wA A' := by
  unfold aLst at h
  split at h
  · cases h
  · rename_i i1 A1 he
    cases h
    exact wF_lstL hT _ _ _ _ _ he h0
theorem wF_args {E : aF} (hT : wF E) {n : Int} {i : Nat} {A : aT} {i' : Nat} {A' : aT} {q : Int} (h : aArgs t E n i A = some (i', A', q)) (h0 : wA A) : wA A' := by
  unfold aArgs at h
  split at h
  · cases h
    exact h0
  · exact wF_lst hT h h0
theorem wF_wrd (hV : wT t) {w : Bool} {E : aF} (hT : wF E) : wF (aWrd t w E) := by
  intro i A i' A' q h h0
  unfold aWrd at h
  split at h
  · split at h
    · rename_i hnm
      have hw := hV.1 _ (nm_2 hnm)
      split at h
      · split at h
        · cases h
        · rename_i A1 n hm
          have a1 := mk_w hV hm h0 (fun _ => hw)
          split at h
          · exact wF_args hT h a1
          · cases h
      · split at h
        · cases h
        · rename_i A1 n hm
          have a1 := mk_w hV hm h0 (fun _ => hw)
          cases h
          exact a1
    · cases h
  · rename_i ha
    split at h
    · cases h
    · rename_i A1 n hm
      have k := act_k ha
      have a1 := mk_w hV hm h0 (fun z => by omega)
      split at h
      · split at h
        · exact wF_args hT h a1
        · cases h
      · cases h
theorem wF_genL (hV : wT t) {E : aF} (hT : wF E) {n : Int} : ∀ (m : Nat) (i : Nat) (A : aT) (i' : Nat) (A' : aT), aGenL t E n m i A = some (i', A') → wA A → wA A'
  | 0, i, A, i', A', h, _ => by unfold aGenL at h; cases h
  | m + 1, i, A, i', A', h, h0 => by
    unfold aGenL at h
    split at h
    · rename_i hnm
      split at h
      · split at h
        · cases h
        · rename_i i1 A1 r he
          have a1 := hT _ _ _ _ _ he (wA_gn h0 (hV.1 _ (nm_2 hnm)) (hV.2 _))
          split at h
          · exact wF_genL hV hT m _ _ _ _ h (wA_kid a1)
          · cases h
            exact wA_kid a1
      · cases h
    · cases h
theorem wF_grd {E : aF} (hT : wF E) {n : Int} {i : Nat} {A : aT} {i' : Nat} {A' : aT} {q : Int} (h : aGrd t E n i A = some (i', A', q)) (h0 : wA A) : wA A' := by
  unfold aGrd aEnd at h
  split at h
  · split at h
    · cases h
    · rename_i i1 A1 r he
      have a1 := hT _ _ _ _ _ he h0
      split at h
      · cases h
        exact wA_kid a1
      · cases h
  · split at h
    · cases h
      exact h0
    · cases h
theorem wF_each (hV : wT t) {E : aF} (hT : wF E) : wF (aEach t E) := by
  intro i A i' A' q h h0
  unfold aEach at h
  split at h
  · cases h
  · rename_i A1 n hm
    have a1 := mk_w hV hm h0 (fun z => by omega)
    split at h
    · cases h
    · rename_i i2 A2 b he
      have a2 := hT _ _ _ _ _ he a1
      split at h
      · unfold aGens at h
        split at h
        · cases h
        · rename_i i3 A3 hg
          exact wF_grd hT h (wF_genL hV hT _ _ _ _ _ hg (wA_kid a2))
      · cases h
theorem wF_atm (hV : wT t) {w : Bool} {E : aF} (hT : wF E) : wF (aAtm t w E) := by
  intro i A i' A' q h h0
  unfold aAtm at h
  split at h
  · split at h
    · cases h
    · rename_i A1 n hm
      have a1 := mk_w hV hm h0 (fun z => by omega)
      cases h
      exact a1
  · split at h
    · exact wF_wrd hV hT _ _ _ _ _ h h0
    · split at h
      · split at h
        · unfold aPar at h
          split at h
          · cases h
          · rename_i i1 A1 r he
            split at h
            · cases h
              exact hT _ _ _ _ _ he h0
            · cases h
        · cases h
      · split at h
        · split at h
          · unfold aRw at h
            split at h
            · cases h
            · rename_i A1 n hm
              exact wF_lst hT h (mk_w hV hm h0 (fun z => by omega))
          · cases h
        · split at h
          · split at h
            · exact wF_each hV hT _ _ _ _ _ h h0
            · cases h
          · cases h
theorem wF_un (hV : wT t) {w : Bool} {E U : aF} (hT : wF E) (hU : wF U) : wF (aUn t w E U) := by
  intro i A i' A' q h h0
  unfold aUn at h
  split at h
  · split at h
    · split at h
      · cases h
      · rename_i A1 n hm
        have a1 := mk_w hV hm h0 (fun z => by omega)
        split at h
        · cases h
        · rename_i i2 A2 r he
          cases h
          exact wA_kid (hU _ _ _ _ _ he a1)
    · cases h
  · unfold aItm at h
    split at h
    · cases h
    · rename_i i1 A1 l he
      unfold aBeh at h
      exact wF_behL hV hT _ _ _ _ _ _ _ h (wF_atm hV hT _ _ _ _ _ he h0)
theorem wF_ex (hV : wT t) {w : Bool} {E U : aF} (hT : wF E) (hU : wF U) : wF (aEx t w E U) := by
  intro i A i' A' q h h0
  unfold aEx at h
  split at h
  · rename_i hw
    split at h
    · exact wF_let hV hT (wo_2 hw) h h0
    · cases h
  · split at h
    · split at h
      · exact wF_if hV hT _ _ _ _ _ h h0
      · cases h
    · exact wF_cmp hV (wF_row hV qF_S (wF_row hV qF_P (wF_un hV hT hU))) _ _ _ _ _ h h0
theorem wF_lv (hV : wT t) : ∀ f, wF (aLv t f).1 ∧ wF (aLv t f).2
  | 0 => ⟨wF_ex hV wF_n wF_n, wF_un hV wF_n wF_n⟩
  | f + 1 => ⟨wF_ex hV (wF_lv hV f).1 (wF_lv hV f).2, wF_un hV (wF_lv hV f).1 (wF_lv hV f).2⟩
/-- words of a DEF -/
def wD (x : aDf) : Prop := (wv x.1 ∧ 0 ≤ x.2.1) ∧ ∀ p ∈ x.2.2.1, wv p.1 ∧ 0 ≤ p.2.1
theorem w_paL (hV : wT t) {N : Nat} : ∀ (m : Nat) (ps : List (Int × Int × Int)) (i i' : Nat) (ps' : List (Int × Int × Int)), aPaL t N m ps i = some (i', ps') → (∀ p ∈ ps, wv p.1 ∧ 0 ≤ p.2.1) → ∀ p ∈ ps', wv p.1 ∧ 0 ≤ p.2.1
  | 0, ps, i, i', ps', h, _ => by unfold aPaL at h; cases h
  | m + 1, ps, i, i', ps', h, hp => by
    unfold aPaL at h
    split at h
    · rename_i hnm
      split at h
      · split at h
        · cases h
        · rename_i i1 ty ht
          have h2 : ∀ p ∈ ps ++ [(t.2.1 i, t.2.2 i, ty)], wv p.1 ∧ 0 ≤ p.2.1 := by
            intro p hp2
            rcases List.mem_append.mp hp2 with e | e
            · exact hp p e
            · rcases List.mem_singleton.mp e with rfl
              exact ⟨hV.1 _ (nm_2 hnm), hV.2 _⟩
          split at h
          · exact w_paL hV m _ _ _ _ h h2
          · cases h
            exact h2
      · cases h
    · cases h
theorem w_df1 (hV : wT t) {N i i' : Nat} {A A' : aT} {x : aDf} (h : aDf1 t N i A = some (i', A', x)) (h0 : wA A) : wA A' ∧ wD x := by
  unfold aDf1 at h
  split at h
  · rename_i hnm
    split at h
    · split at h
      · cases h
      · rename_i i1 ps hp
        split at h
        · split at h
          · split at h
            · cases h
            · rename_i i2 A2 q he
              have a2 := (wF_lv hV 12).1 _ _ _ _ _ he h0
              split at h
              · cases h
                refine ⟨a2, ⟨hV.1 _ (nm_2 hnm), hV.2 _⟩, ?_⟩
                unfold aPas at hp
                split at hp
                · cases hp
                  simp
                · exact w_paL hV _ _ _ _ _ hp (by simp)
              · cases h
          · cases h
        · cases h
    · cases h
  · cases h
theorem w_dfs (hV : wT t) {N : Nat} : ∀ (m : Nat) (D : List aDf) (i : Nat) (A : aT) (i' : Nat) (A' : aT) (D' : List aDf), aDfs t N m D i A = some (i', A', D') → wA A → (∀ x ∈ D, wD x) → wA A' ∧ ∀ x ∈ D', wD x
  | 0, D, i, A, i', A', D', h, h0, hD => by
    unfold aDfs at h
    split at h
    · cases h
    · cases h
      exact ⟨h0, hD⟩
  | m + 1, D, i, A, i', A', D', h, h0, hD => by
    unfold aDfs at h
    split at h
    · split at h
      · cases h
      · rename_i i1 A1 x he
        obtain ⟨c1, c2⟩ := w_df1 hV he h0
        refine w_dfs hV m _ _ _ _ _ _ h c1 (fun y hy => ?_)
        rcases List.mem_append.mp hy with e | e
        · exact hD y e
        · rcases List.mem_singleton.mp e with rfl
          exact c2
    · cases h
      exact ⟨h0, hD⟩
theorem w_pg (hV : wT t) {N : Nat} {A A' : aT} {D : List aDf} {q : Int} (h : aPg t N A = some (A', D, q)) (h0 : wA A) : wA A' ∧ ∀ x ∈ D, wD x := by
  unfold aPg at h
  split at h
  · cases h
  · rename_i i1 A1 D1 hd
    obtain ⟨c1, c2⟩ := w_dfs hV _ _ _ _ _ _ _ hd h0 (by simp)
    split at h
    · cases h
    · rename_i i2 A2 r he
      have a2 := (wF_lv hV 12).1 _ _ _ _ _ he c1
      split at h
      · cases h
        exact ⟨a2, c2⟩
      · cases h
end WRF
