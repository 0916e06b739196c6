/-! THE TREE ONLY GROWS: what a reading leaves of the nodes that were there. -/
def gr (A B : aT) : Prop := A.1 ≤ B.1 ∧ ∀ k, k < A.1 → B.2.1 k = A.2.1 k ∧ B.2.2.1 k = A.2.2.1 k ∧ B.2.2.2.1 k = A.2.2.2.1 k ∧ B.2.2.2.2.1 k = A.2.2.2.2.1 k ∧ B.2.2.2.2.2 k = A.2.2.2.2.2 k
theorem gr_r (A : aT) : gr A A := ⟨Int.le_refl _, fun _ _ => ⟨rfl, rfl, rfl, rfl, rfl⟩⟩
theorem gr_t {A B C : aT} (h : gr A B) (g : gr B C) : gr A C := ⟨Int.le_trans h.1 g.1, fun k hk => by
  obtain ⟨a1, a2, a3, a4, a5⟩ := h.2 k hk
  obtain ⟨b1, b2, b3, b4, b5⟩ := g.2 k (by have := h.1; omega)
  exact ⟨b1.trans a1, b2.trans a2, b3.trans a3, b4.trans a4, b5.trans a5⟩⟩
theorem gr_n (A : aT) (a p w : Int) : gr A (aNew A a p w) := ⟨by simp only [aNew]; omega, fun k hk => by
  simp only [aNew, aU_n _ _ (show ¬ k = A.1 by omega), and_self]⟩
theorem gr_k {A B : aT} (h : gr A B) {n : Int} (hn : A.1 ≤ n) (q : Int) : gr A (aKid B n q) := ⟨h.1, fun k hk => by
  simp only [aKid, aU_n _ _ (show ¬ k = n by omega)]
  exact h.2 k hk⟩
theorem gr_w {A B : aT} (h : gr A B) {n : Int} (hn : A.1 ≤ n) (q : Int) : gr A (aWd B n q) := ⟨h.1, fun k hk => by
  simp only [aWd, aU_n _ _ (show ¬ k = n by omega)]
  exact h.2 k hk⟩
theorem gr_g {A B : aT} (h : gr A B) {n : Int} (hn : A.1 ≤ n) (q p : Int) : gr A (aGn B n q p) := ⟨h.1, fun k hk => by
  simp only [aGn, aU_n _ _ (show ¬ k = n by omega)]
  exact h.2 k hk⟩
def gF (F : aF) : Prop := ∀ i A i' A' q, F i A = some (i', A', q) → 0 ≤ A.1 ∧ A.1 ≤ 200 → gr A A' ∧ (A.1 ≤ q ∧ q < A'.1) ∧ i < i' ∧ A'.1 ≤ 200
def gL (G : Int → aF) : Prop := ∀ l i A i' A' q, G l i A = some (i', A', q) → 0 ≤ A.1 ∧ A.1 ≤ 200 → gr A A' ∧ (q = l ∨ A.1 ≤ q ∧ q < A'.1) ∧ i ≤ i' ∧ A'.1 ≤ 200
section GRW
variable {t : aK}
theorem mk_s {i : Nat} {A : aT} {kd : Int} {r : aT × Int} (h : aMk t i A kd = some r) : r = (aNew A kd (t.2.2 i) (t.2.1 i), A.1) ∧ ¬ A.1 = 200 := by
  unfold aMk at h
  split at h
  · cases h
  · rename_i e
    cases h
    exact ⟨rfl, e⟩
theorem aKid_1 (A : aT) (n q : Int) : (aKid A n q).1 = A.1 := rfl
theorem aWd_1 (A : aT) (n q : Int) : (aWd A n q).1 = A.1 := rfl
theorem aGn_1 (A : aT) (n q p : Int) : (aGn A n q p).1 = A.1 := rfl
theorem aNew_1 (A : aT) (a q p : Int) : (aNew A a q p).1 = A.1 + 1 := rfl
theorem gF_n : gF (fun _ _ => none) := fun _ _ _ _ _ h _ => by cases h
theorem gF_btw {kd : Int} {S : aF} (hS : gF S) {l : Int} {i : Nat} {A : aT} {i' : Nat} {A' : aT} {q : Int} (h : aBtw t kd S l i A = some (i', A', q)) (h0 : 0 ≤ A.1 ∧ A.1 ≤ 200) : gr A A' ∧ q = A.1 ∧ A.1 < A'.1 ∧ i < i' ∧ A'.1 ≤ 200 := by
  unfold aBtw at h
  split at h
  · cases h
  · rename_i A1 n hm
    obtain ⟨e, hn⟩ := mk_s hm
    cases e
    split at h
    · cases h
    · rename_i i2 A2 r he
      cases h
      obtain ⟨g1, g2, g3, g4⟩ := hS _ _ _ _ _ he (by simp only [aKid_1, aNew_1]; omega)
      have g5 := g1.1
      simp only [aKid_1, aNew_1] at g5
      refine ⟨gr_k (gr_t (gr_k (gr_n A _ _ _) (Int.le_refl _) _) g1) (Int.le_refl _) _, rfl, ?_, by omega, ?_⟩ <;> simp only [aKid_1] <;> omega
theorem gF_let {E : aF} (hE : gF E) : gF (aLet t E) := by
  intro i A i' A' q h h0
  unfold aLet at h
  split at h
  · cases h
  · rename_i A1 n hm
    obtain ⟨e, hn⟩ := mk_s hm
    cases e
    split at h
    · split at h
      · split at h
        · cases h
        · rename_i i2 A2 a he
          obtain ⟨g1, g2, g3, g4⟩ := hE _ _ _ _ _ he (by simp only [aWd_1, aNew_1]; omega)
          have g5 := g1.1
          simp only [aWd_1, aNew_1] at g5
          split at h
          · split at h
            · cases h
            · rename_i i3 A3 b hf
              cases h
              obtain ⟨k1, k2, k3, k4⟩ := hE _ _ _ _ _ hf (by simp only [aKid_1]; omega)
              have k5 := k1.1
              simp only [aKid_1] at k5
              refine ⟨gr_k (gr_t (gr_k (gr_t (gr_w (gr_n A _ _ _) (Int.le_refl _) _) g1) (Int.le_refl _) _) k1) (Int.le_refl _) _, ⟨Int.le_refl _, ?_⟩, by omega, ?_⟩ <;> simp only [aKid_1] <;> omega
          · cases h
      · cases h
    · cases h
theorem gF_if {E : aF} (hE : gF E) : gF (aIf t E) := by
  intro i A i' A' q h h0
  unfold aIf at h
  split at h
  · cases h
  · rename_i A1 n hm
    obtain ⟨e, hn⟩ := mk_s hm
    cases e
    split at h
    · cases h
    · rename_i i2 A2 a he
      obtain ⟨g1, g2, g3, g4⟩ := hE _ _ _ _ _ he (by simp only [aNew_1]; omega)
      have g5 := g1.1
      simp only [aNew_1] at g5
      split at h
      · split at h
        · cases h
        · rename_i i3 A3 b hf
          obtain ⟨k1, k2, k3, k4⟩ := hE _ _ _ _ _ hf (by simp only [aKid_1]; omega)
          have k5 := k1.1
          simp only [aKid_1] at k5
          split at h
          · split at h
            · cases h
            · rename_i i4 A4 c hg
              cases h
              obtain ⟨m1, m2, m3, m4⟩ := hE _ _ _ _ _ hg (by simp only [aKid_1]; omega)
              have m5 := m1.1
              simp only [aKid_1] at m5
              refine ⟨gr_k (gr_t (gr_k (gr_t (gr_k (gr_t (gr_n A _ _ _) g1) (Int.le_refl _) _) k1) (Int.le_refl _) _) m1) (Int.le_refl _) _, ⟨Int.le_refl _, ?_⟩, by omega, ?_⟩ <;> simp only [aKid_1] <;> omega
          · cases h
      · cases h
theorem gL_cmp {S : aF} (hS : gF S) : gL (aCmpR t S) := by
  intro l i A i' A' q h h0
  unfold aCmpR at h
  split at h
  · cases h
    exact ⟨gr_r _, Or.inl rfl, Nat.le_refl _, h0.2⟩
  · obtain ⟨g1, g2, g3, g4, g5⟩ := gF_btw hS h h0
    exact ⟨g1, Or.inr ⟨by omega, by omega⟩, by omega, g5⟩
theorem gL_rowL {q0 : Nat → Option Int} {S : aF} (hS : gF S) : ∀ m, gL (aRowL t q0 S m)
  | 0 => by
    intro l i A i' A' q h h0
    unfold aRowL at h
    cases h
    exact ⟨gr_r _, Or.inl rfl, Nat.le_refl _, h0.2⟩
  | m + 1 => by
    intro l i A i' A' q h h0
    unfold aRowL at h
    split at h
    · cases h
      exact ⟨gr_r _, Or.inl rfl, Nat.le_refl _, h0.2⟩
    · split at h
      · cases h
      · rename_i i2 A2 n hb
        obtain ⟨g1, g2, g3, g4, g5⟩ := gF_btw hS hb h0
        obtain ⟨k1, k2, k3, k4⟩ := gL_rowL hS m _ _ _ _ _ _ h (by omega)
        have k5 := k1.1
        exact ⟨gr_t g1 k1, Or.inr (by omega), by omega, k4⟩
theorem gF_after {S : aF} {G : Int → aF} (hS : gF S) (hG : gL G) {i : Nat} {A : aT} {i1 : Nat} {A1 : aT} {l : Int} (h1 : S i A = some (i1, A1, l)) {i' : Nat} {A' : aT} {q : Int} (h2 : G l i1 A1 = some (i', A', q)) (h0 : 0 ≤ A.1 ∧ A.1 ≤ 200) : gr A A' ∧ (A.1 ≤ q ∧ q < A'.1) ∧ i < i' ∧ A'.1 ≤ 200 := by
  obtain ⟨g1, g2, g3, g4⟩ := hS _ _ _ _ _ h1 h0
  have g5 := g1.1
  obtain ⟨k1, k2, k3, k4⟩ := hG _ _ _ _ _ _ h2 (by omega)
  have k5 := k1.1
  exact ⟨gr_t g1 k1, by omega, by omega, k4⟩
theorem gF_cmp {S : aF} (hS : gF S) : gF (aCmp t S) := by
  intro i A i' A' q h h0
  unfold aCmp at h
  split at h
  · cases h
  · rename_i i1 A1 l he
    exact gF_after hS (gL_cmp hS) he h h0
theorem gF_row {q0 : Nat → Option Int} {S : aF} (hS : gF S) : gF (aRow t q0 S) := by
  intro i A i' A' q h h0
  unfold aRow at h
  split at h
  · cases h
  · rename_i i1 A1 l he
    unfold aRowR at h
    exact gF_after hS (gL_rowL hS _) he h h0
theorem gF_idx {E : aF} (hE : gF E) {l : Int} {i : Nat} {A : aT} {i' : Nat} {A' : aT} {q : Int} (h : aIdx t E l i A = some (i', A', q)) (h0 : 0 ≤ A.1 ∧ A.1 ≤ 200) : gr A A' ∧ q = A.1 ∧ A.1 < A'.1 ∧ i < i' ∧ A'.1 ≤ 200 := by
  unfold aIdx at h
  split at h
  · cases h
  · rename_i A1 n hm
    obtain ⟨e, hn⟩ := mk_s hm
    cases e
    split at h
    · cases h
    · rename_i i2 A2 r he
      obtain ⟨g1, g2, g3, g4⟩ := hE _ _ _ _ _ he (by simp only [aKid_1, aNew_1]; omega)
      have g5 := g1.1
      simp only [aKid_1, aNew_1] at g5
      split at h
      · cases h
        refine ⟨gr_k (gr_t (gr_k (gr_n A _ _ _) (Int.le_refl _) _) g1) (Int.le_refl _) _, rfl, ?_, by omega, ?_⟩ <;> simp only [aKid_1] <;> omega
      · cases h
theorem gL_behL {w : Bool} {E : aF} (hE : gF E) : ∀ m, gL (aBehL t w E m)
  | 0 => by
    intro l i A i' A' q h h0
    unfold aBehL at h
    cases h
    exact ⟨gr_r _, Or.inl rfl, Nat.le_refl _, h0.2⟩
  | m + 1 => by
    intro l i A i' A' q h h0
    unfold aBehL at h
    split at h
    · split at h
      · split at h
        · cases h
        · rename_i i2 A2 n hb
          obtain ⟨g1, g2, g3, g4, g5⟩ := gF_idx hE hb h0
          obtain ⟨k1, k2, k3, k4⟩ := gL_behL hE m _ _ _ _ _ _ h (by omega)
          have k5 := k1.1
          exact ⟨gr_t g1 k1, Or.inr (by omega), by omega, k4⟩
      · cases h
    · cases h
      exact ⟨gr_r _, Or.inl rfl, Nat.le_refl _, h0.2⟩
/-- what has a node of its own, and the tree ahead of it -/
theorem g_lstL {E : aF} (hE : gF E) {n ch : Int} {A0 : aT} (hn : A0.1 ≤ n) : ∀ (m : Nat) (i : Nat) (A : aT) (i' : Nat) (A' : aT), aLstL t E n ch m i A = some (i', A') → gr A0 A → 0 ≤ A.1 ∧ A.1 ≤ 200 → gr A0 A' ∧ A.1 ≤ A'.1 ∧ i < i' ∧ A'.1 ≤ 200
  | 0, i, A, i', A', h, _, _ => by unfold aLstL at h; cases h
  | m + 1, i, A, i', A', h, hg, h0 => by
    unfold aLstL at h
    split at h
    · cases h
    · rename_i i1 A1 r he
      obtain ⟨g1, g2, g3, g4⟩ := hE _ _ _ _ _ he h0
      have g5 := g1.1
      split at h
      · obtain ⟨k1, k2, k3, k4⟩ := g_lstL hE hn m _ _ _ _ h (gr_k (gr_t hg g1) hn _) (by simp only [aKid_1]; omega)
        simp only [aKid_1] at k2
        exact ⟨k1, by omega, by omega, k4⟩
      · split at h
        · cases h
          refine ⟨gr_k (gr_t hg g1) hn _, ?_, by omega, ?_⟩ <;> simp only [aKid_1] <;> omega
        · cases h
theorem g_lst {E : aF} (hE : gF E) {n ch : Int} {A0 : aT} (hn : A0.1 ≤ n) {i : Nat} {A : aT} {i' : Nat} {A' : aT} {q : Int} (h : aLst t E n ch i A = some (i', A', q)) (hg : gr A0 A) (h0 : 0 ≤ A.1 ∧ A.1 ≤ 200) : gr A0 A' ∧ A.1 ≤ A'.1 ∧ i < i' ∧ A'.1 ≤ 200 ∧ q = n := by
  unfold aLst at h
  split at h
  · cases h
  · rename_i i1 A1 he
    cases h
    obtain ⟨k1, k2, k3, k4⟩ := g_lstL hE hn _ _ _ _ _ he hg h0
    exact ⟨k1, k2, k3, k4, rfl⟩
theorem g_args {E : aF} (hE : gF E) {n : Int} {A0 : aT} (hn : A0.1 ≤ n) {i : Nat} {A : aT} {i' : Nat} {A' : aT} {q : Int} (h : aArgs t E n i A = some (i', A', q)) (hg : gr A0 A) (h0 : 0 ≤ A.1 ∧ A.1 ≤ 200) : gr A0 A' ∧ A.1 ≤ A'.1 ∧ i < i' ∧ A'.1 ≤ 200 ∧ q = n := by
  unfold aArgs at h
  split at h
  · cases h
    exact ⟨hg, Int.le_refl _, by omega, h0.2, rfl⟩
  · exact g_lst hE hn h hg h0
theorem gF_wrd {w : Bool} {E : aF} (hE : gF E) : gF (aWrd t w E) := by
  intro i A i' A' q h h0
  unfold aWrd at h
  split at h
  · split at h
    · split at h
      · split at h
        · cases h
        · rename_i A1 n hm
          obtain ⟨e, hn⟩ := mk_s hm
          cases e
          split at h
          · obtain ⟨k1, k2, k3, k4, k5⟩ := g_args hE (Int.le_refl _) h (gr_n A _ _ _) (by simp only [aNew_1]; omega)
            simp only [aNew_1] at k2
            exact ⟨k1, by omega, by omega, k4⟩
          · cases h
      · split at h
        · cases h
        · rename_i A1 n hm
          obtain ⟨e, hn⟩ := mk_s hm
          cases e
          cases h
          refine ⟨gr_n A _ _ _, ⟨Int.le_refl _, ?_⟩, by omega, ?_⟩ <;> simp only [aNew_1] <;> omega
    · cases h
  · split at h
    · cases h
    · rename_i A1 n hm
      obtain ⟨e, hn⟩ := mk_s hm
      cases e
      split at h
      · split at h
        · obtain ⟨k1, k2, k3, k4, k5⟩ := g_args hE (Int.le_refl _) h (gr_n A _ _ _) (by simp only [aNew_1]; omega)
          simp only [aNew_1] at k2
          exact ⟨k1, by omega, by omega, k4⟩
        · cases h
      · cases h
theorem g_genL {E : aF} (hE : gF E) {n : Int} {A0 : aT} (hn : A0.1 ≤ n) : ∀ (m : Nat) (i : Nat) (A : aT) (i' : Nat) (A' : aT), aGenL t E n m i A = some (i', A') → gr A0 A → 0 ≤ A.1 ∧ A.1 ≤ 200 → gr A0 A' ∧ A.1 ≤ A'.1 ∧ i < i' ∧ A'.1 ≤ 200
  | 0, i, A, i', A', h, _, _ => by unfold aGenL at h; cases h
  | m + 1, i, A, i', A', h, hg, h0 => by
    unfold aGenL at h
    split at h
    · split at h
      · split at h
        · cases h
        · rename_i i1 A1 r he
          obtain ⟨g1, g2, g3, g4⟩ := hE _ _ _ _ _ he (by simp only [aGn_1]; omega)
          have g5 := g1.1
          simp only [aGn_1] at g5
          split at h
          · obtain ⟨k1, k2, k3, k4⟩ := g_genL hE hn m _ _ _ _ h (gr_k (gr_t (gr_g hg hn _ _) g1) hn _) (by simp only [aKid_1]; omega)
            simp only [aKid_1] at k2
            exact ⟨k1, by omega, by omega, k4⟩
          · cases h
            refine ⟨gr_k (gr_t (gr_g hg hn _ _) g1) hn _, ?_, by omega, ?_⟩ <;> simp only [aKid_1] <;> omega
      · cases h
    · cases h
theorem g_grd {E : aF} (hE : gF E) {n : Int} {A0 : aT} (hn : A0.1 ≤ n) {i : Nat} {A : aT} {i' : Nat} {A' : aT} {q : Int} (h : aGrd t E n i A = some (i', A', q)) (hg : gr A0 A) (h0 : 0 ≤ A.1 ∧ A.1 ≤ 200) : gr A0 A' ∧ A.1 ≤ A'.1 ∧ i < i' ∧ A'.1 ≤ 200 ∧ q = n := by
  unfold aGrd aEnd at h
  split at h
  · split at h
    · cases h
    · rename_i i1 A1 r he
      obtain ⟨g1, g2, g3, g4⟩ := hE _ _ _ _ _ he h0
      have g5 := g1.1
      split at h
      · cases h
        refine ⟨gr_k (gr_t hg g1) hn _, ?_, by omega, ?_, rfl⟩ <;> simp only [aKid_1] <;> omega
      · cases h
  · split at h
    · cases h
      exact ⟨hg, Int.le_refl _, by omega, h0.2, rfl⟩
    · cases h
theorem g_gens {E : aF} (hE : gF E) {n : Int} {A0 : aT} (hn : A0.1 ≤ n) {i : Nat} {A : aT} {i' : Nat} {A' : aT} {q : Int} (h : aGens t E n i A = some (i', A', q)) (hg : gr A0 A) (h0 : 0 ≤ A.1 ∧ A.1 ≤ 200) : gr A0 A' ∧ A.1 ≤ A'.1 ∧ i < i' ∧ A'.1 ≤ 200 ∧ q = n := by
  unfold aGens at h
  split at h
  · cases h
  · rename_i i1 A1 he
    obtain ⟨k1, k2, k3, k4⟩ := g_genL hE hn _ _ _ _ _ he hg h0
    obtain ⟨m1, m2, m3, m4, m5⟩ := g_grd hE hn h k1 (by omega)
    exact ⟨m1, by omega, by omega, m4, m5⟩
theorem gF_each {E : aF} (hE : gF E) : gF (aEach t E) := by
  intro i A i' A' q h h0
  unfold aEach at h
  split at h
  · cases h
  · rename_i A1 n hm
    obtain ⟨e, hn⟩ := mk_s hm
    cases e
    split at h
    · cases h
    · rename_i i2 A2 b he
      obtain ⟨g1, g2, g3, g4⟩ := hE _ _ _ _ _ he (by simp only [aNew_1]; omega)
      have g5 := g1.1
      simp only [aNew_1] at g5
      split at h
      · obtain ⟨m1, m2, m3, m4, m5⟩ := g_gens hE (Int.le_refl _) h (gr_k (gr_t (gr_n A _ _ _) g1) (Int.le_refl _) _) (by simp only [aKid_1]; omega)
        simp only [aKid_1] at m2
        exact ⟨m1, by omega, by omega, m4⟩
      · cases h
theorem gF_atm {w : Bool} {E : aF} (hE : gF E) : gF (aAtm t w E) := by
  intro i A i' A' q h h0
  unfold aAtm at h
  split at h
  · split at h
    · cases h
    · rename_i A1 n hm
      obtain ⟨e, hn⟩ := mk_s hm
      cases e
      cases h
      refine ⟨gr_n A _ _ _, ⟨Int.le_refl _, ?_⟩, by omega, ?_⟩ <;> simp only [aNew_1] <;> omega
  · split at h
    · exact gF_wrd hE _ _ _ _ _ h h0
    · split at h
      · split at h
        · unfold aPar at h
          split at h
          · cases h
          · rename_i i1 A1 r he
            obtain ⟨g1, g2, g3, g4⟩ := hE _ _ _ _ _ he h0
            split at h
            · cases h
              exact ⟨g1, g2, by omega, g4⟩
            · cases h
        · cases h
      · split at h
        · split at h
          · unfold aRw at h
            split at h
            · cases h
            · rename_i A1 n hm
              obtain ⟨e, hn⟩ := mk_s hm
              cases e
              obtain ⟨k1, k2, k3, k4, k5⟩ := g_lst hE (Int.le_refl _) h (gr_n A _ _ _) (by simp only [aNew_1]; omega)
              simp only [aNew_1] at k2
              exact ⟨k1, by omega, by omega, k4⟩
          · cases h
        · split at h
          · split at h
            · exact gF_each hE _ _ _ _ _ h h0
            · cases h
          · cases h
theorem gF_un {w : Bool} {E U : aF} (hE : gF E) (hU : gF U) : gF (aUn t w E U) := by
  intro i A i' A' q h h0
  unfold aUn at h
  split at h
  · split at h
    · split at h
      · cases h
      · rename_i A1 n hm
        obtain ⟨e, hn⟩ := mk_s hm
        cases e
        split at h
        · cases h
        · rename_i i2 A2 r he
          cases h
          obtain ⟨g1, g2, g3, g4⟩ := hU _ _ _ _ _ he (by simp only [aNew_1]; omega)
          have g5 := g1.1
          simp only [aNew_1] at g5
          refine ⟨gr_k (gr_t (gr_n A _ _ _) g1) (Int.le_refl _) _, ⟨Int.le_refl _, ?_⟩, by omega, ?_⟩ <;> simp only [aKid_1] <;> omega
    · cases h
  · unfold aItm at h
    split at h
    · cases h
    · rename_i i1 A1 l he
      unfold aBeh at h
      exact gF_after (gF_atm hE) (gL_behL hE _) he h h0
theorem gF_ex {w : Bool} {E U : aF} (hE : gF E) (hU : gF U) : gF (aEx t w E U) := by
  intro i A i' A' q h h0
  unfold aEx at h
  split at h
  · split at h
    · exact gF_let hE _ _ _ _ _ h h0
    · cases h
  · split at h
    · split at h
      · exact gF_if hE _ _ _ _ _ h h0
      · cases h
    · exact gF_cmp (gF_row (gF_row (gF_un hE hU))) _ _ _ _ _ h h0
theorem gF_lv : ∀ f, gF (aLv t f).1 ∧ gF (aLv t f).2
  | 0 => ⟨gF_ex gF_n gF_n, gF_un gF_n gF_n⟩
  | f + 1 => ⟨gF_ex (gF_lv f).1 (gF_lv f).2, gF_un (gF_lv f).1 (gF_lv f).2⟩
theorem gF_I (f : Nat) : gF (aI t f) ∧ gF (aJ t f) := by
  cases f with
  | zero => exact ⟨gF_n, gF_n⟩
  | succ f => exact ⟨(gF_lv f).1, (gF_lv f).2⟩
/-- enough is enough -/
theorem rowL_f {q0 : Nat → Option Int} {S : aF} (hS : gF S) : ∀ (m m' : Nat) (l : Int) (i : Nat) (A : aT), 0 ≤ A.1 ∧ A.1 ≤ 200 → (201 - A.1).toNat ≤ m → m ≤ m' → aRowL t q0 S m' l i A = aRowL t q0 S m l i A
  | 0, m', l, i, A, h0, h1, _ => by omega
  | m + 1, m', l, i, A, h0, h1, h2 => by
    obtain ⟨k, rfl⟩ : ∃ k, m' = k + 1 := ⟨m' - 1, by omega⟩
    unfold aRowL
    split
    · rfl
    · rename_i kd hq
      cases hb : aBtw t kd S l i A with
      | none => rfl
      | some r =>
        obtain ⟨i2, A2, n⟩ := r
        obtain ⟨g1, g2, g3, g4, g5⟩ := gF_btw hS hb h0
        exact rowL_f hS m k n i2 A2 (by omega) (by omega) (by omega)
theorem behL_f {w : Bool} {E : aF} (hE : gF E) : ∀ (m m' : Nat) (l : Int) (i : Nat) (A : aT), 0 ≤ A.1 ∧ A.1 ≤ 200 → (201 - A.1).toNat ≤ m → m ≤ m' → aBehL t w E m' l i A = aBehL t w E m l i A
  | 0, m', l, i, A, h0, h1, _ => by omega
  | m + 1, m', l, i, A, h0, h1, h2 => by
    obtain ⟨k, rfl⟩ : ∃ k, m' = k + 1 := ⟨m' - 1, by omega⟩
    unfold aBehL
    split
    · split
      · cases hb : aIdx t E l i A with
        | none => rfl
        | some r =>
          obtain ⟨i2, A2, n⟩ := r
          obtain ⟨g1, g2, g3, g4, g5⟩ := gF_idx hE hb h0
          exact behL_f hE m k n i2 A2 (by omega) (by omega) (by omega)
      · rfl
    · rfl
theorem lstL_f {E : aF} (hE : gF E) {n ch : Int} : ∀ (m m' : Nat) (i : Nat) (A : aT), 0 ≤ A.1 ∧ A.1 ≤ 200 → (201 - A.1).toNat ≤ m → m ≤ m' → aLstL t E n ch m' i A = aLstL t E n ch m i A
  | 0, m', i, A, h0, h1, _ => by omega
  | m + 1, m', i, A, h0, h1, h2 => by
    obtain ⟨k, rfl⟩ : ∃ k, m' = k + 1 := ⟨m' - 1, by omega⟩
    unfold aLstL
    cases hb : E i A with
    | none => rfl
    | some r =>
      obtain ⟨i2, A2, q⟩ := r
      obtain ⟨g1, g2, g3, g4⟩ := hE _ _ _ _ _ hb h0
      have g5 := g1.1
      simp only
      split
      · exact lstL_f hE m k _ _ (by simp only [aKid_1]; omega) (by simp only [aKid_1]; omega) (by omega)
      · rfl
end GRW
