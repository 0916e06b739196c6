/-! NUMBERS: what a NUMBER's node tells is what stands at its place, in the class's rows. -/
/-- the number at a place of the tape -/
def gNm (c : tkC) (p : Int) : Int := lx_dec c.1 p (lx_end c.1 c.2.1 lx_d p - p).toNat
theorem lx_dn {B : Int → Int} {q : Int} : ∀ n : Nat, n ≤ 9 → (∀ t, q ≤ t → t < q + n → lx_d (B t) = true) → lx_nv B q n = lx_dec B q n
  | 0, _, _ => rfl
  | n + 1, hn, h => by
    have ih := lx_dn n (by omega) (fun t a b => h t a (by omega))
    have b := lx_dec_b (n + 1) h
    have p : (10 : Int) ^ (n + 1) ≤ 1000000000 := by
      rcases (show n = 0 ∨ n = 1 ∨ n = 2 ∨ n = 3 ∨ n = 4 ∨ n = 5 ∨ n = 6 ∨ n = 7 ∨ n = 8 by omega) with h | h | h | h | h | h | h | h | h <;> subst h <;> decide
    simp only [lx_nv]
    rw [ih, show lx_dec B q n * 10 + (B (q + n) - 48) = lx_dec B q (n + 1) by simp only [lx_dec]; omega]
    exact sg_id ⟨by omega, by omega⟩
/-- a NUMBER's token -/
theorem tK_n {c : tkC} {i : Nat} (h : tK c i = 257) : (tPl c i < c.2.1 ∧ lx_d (c.1 (tPl c i)) = true) ∧ lx_end c.1 c.2.1 lx_d (tPl c i) - tPl c i ≤ 9 := by
  unfold tK lx_kind at h
  by_cases a : c.2.1 ≤ tPl c i
  · rw [if_pos a] at h; omega
  · rw [if_neg a] at h
    by_cases b : lx_d (c.1 (tPl c i)) = true
    · rw [if_pos b] at h
      by_cases e : lx_end c.1 c.2.1 lx_d (tPl c i) - tPl c i > 9
      · rw [if_pos e] at h; omega
      · exact ⟨⟨by omega, b⟩, by omega⟩
    · rw [if_neg b] at h
      by_cases d : lx_l (c.1 (tPl c i)) = true
      · rw [if_pos d] at h
        split at h
        · omega
        · have := lx_fi_r c.2.2.1 (lx_pk c.1 (tPl c i) (lx_end c.1 c.2.1 lx_a (tPl c i) - tPl c i).toNat) 18 0 (by omega) (by omega)
          omega
      · rw [if_neg d] at h
        split at h
        · rename_i e
          unfold lx_s at e
          have := of_decide_eq_true e
          omega
        · omega
theorem tN_g {c : tkC} {i : Nat} (h : tK c i = 257) : tN c i = gNm c (tPl c i) := by
  obtain ⟨h1, h2⟩ := tK_n h
  have e : ∀ w, lx_num c.1 c.2.1 (tPl c i) w = gNm c (tPl c i) := fun w => by
    unfold lx_num gNm
    rw [if_pos h1]
    have sp := lx_end_spec c.1 c.2.1 lx_d (tPl c i)
    refine lx_dn _ (by omega) (fun t a b => ?_)
    exact (sp.2.1 t a (by omega)).2
  cases i with
  | zero => exact e _
  | succ i => exact e _
/-- the rows of a NUMBER's node -/
def zQ (c : tkC) (τ : sg_S) : Prop := 0 ≤ sg_g τ 2 16 ∧ ∀ k, 0 ≤ k → k < sg_g τ 2 16 → sg_g τ 3 k = 257 → sg_g τ 5 k = gNm c (sg_g τ 4 k)
def r5 (τ τ' : sg_S) : Prop := sg_g τ' 2 16 = sg_g τ 2 16 ∧ ∀ k, (sg_g τ' 3 k = sg_g τ 3 k ∨ ¬ sg_g τ' 3 k = 257) ∧ sg_g τ' 4 k = sg_g τ 4 k ∧ sg_g τ' 5 k = sg_g τ 5 k
theorem r5_r (τ : sg_S) : r5 τ τ := ⟨rfl, fun _ => ⟨Or.inl rfl, rfl, rfl⟩⟩
theorem r5_t {τ τ1 τ2 : sg_S} (h : r5 τ τ1) (g : r5 τ1 τ2) : r5 τ τ2 := ⟨g.1.trans h.1, fun k => by
  obtain ⟨a1, a2, a3⟩ := h.2 k
  obtain ⟨b1, b2, b3⟩ := g.2 k
  refine ⟨?_, b2.trans a2, b3.trans a3⟩
  rcases b1 with b | b
  · rcases a1 with a | a
    · exact Or.inl (b.trans a)
    · exact Or.inr (by rw [b]; exact a)
  · exact Or.inr b⟩
theorem zQ_e {c : tkC} {τ τ' : sg_S} (h : zQ c τ) (g : r5 τ τ') : zQ c τ' := by
  refine ⟨by rw [g.1]; exact h.1, fun k a b z => ?_⟩
  obtain ⟨a1, a2, a3⟩ := g.2 k
  rw [g.1] at b
  rw [a2, a3]
  rcases a1 with q | q
  · exact h.2 k a b (by rw [← q]; exact z)
  · exact absurd z q
theorem r5_p (τ : sg_S) (a : Nat) (n i x : Int) (h : 2 ≠ a ∧ 3 ≠ a ∧ 4 ≠ a ∧ 5 ≠ a) : r5 τ (sx_put τ a n i x) := ⟨sx_put_c _ _ _ _ _ _ _ h.1, fun k => ⟨Or.inl (sx_put_c _ _ _ _ _ _ _ h.2.1), sx_put_c _ _ _ _ _ _ _ h.2.2.1, sx_put_c _ _ _ _ _ _ _ h.2.2.2⟩⟩
theorem r5_pl (τ : sg_S) (a : Nat) (n i x : Int) : r5 τ (sx_putl τ a n i x) := by
  have e : ∀ b j, sg_g (sx_putl τ a n i x) b j = sg_g τ b j := fun b j => by
    unfold sx_putl
    split
    · exact sg_gwl' _ _ _ _ _ _
    · rfl
  exact ⟨e _ _, fun k => ⟨Or.inl (e _ _), e _ _, e _ _⟩⟩
theorem r5_w (τ : sg_S) (a : Nat) (i x : Int) (h : 2 ≠ a ∧ 3 ≠ a ∧ 4 ≠ a ∧ 5 ≠ a) : r5 τ (sg_w τ a i x) := ⟨sg_gw_c _ _ _ _ _ _ h.1, fun k => ⟨Or.inl (sg_gw_c _ _ _ _ _ _ h.2.1), sg_gw_c _ _ _ _ _ _ h.2.2.1, sg_gw_c _ _ _ _ _ _ h.2.2.2⟩⟩
theorem r5_3 (τ : sg_S) (i x : Int) (hx : sg_R x ∧ ¬ x = 257) : r5 τ (sx_put τ 3 200 i x) := by
  refine ⟨sx_put_c _ _ _ _ _ _ _ (by decide), fun k => ⟨?_, sx_put_c _ _ _ _ _ _ _ (by decide), sx_put_c _ _ _ _ _ _ _ (by decide)⟩⟩
  unfold sx_put
  split
  · by_cases e : k = i
    · right
      rw [e, sg_gw_e _ _ _ _ hx.1]
      exact hx.2
    · left
      exact sg_gw_k _ _ _ _ _ _ e
  · exact Or.inl rfl
theorem r5_att (τ : sg_S) (k p : Int) : r5 τ (pAttach τ k p) := by
  unfold pAttach
  split
  · exact r5_r τ
  · unfold pAtt2 pAtt1
    split
    · exact r5_t (r5_p _ _ _ _ _ (by decide)) (r5_t (r5_p _ _ _ _ _ (by decide)) (r5_p _ _ _ _ _ (by decide)))
    · exact r5_t (r5_p _ _ _ _ _ (by decide)) (r5_t (r5_p _ _ _ _ _ (by decide)) (r5_p _ _ _ _ _ (by decide)))
theorem r5_cls (τ : sg_S) (k f : Int) : r5 τ (pClose τ k f) := by
  unfold pClose
  exact r5_t (r5_p _ _ _ _ _ (by decide)) (r5_p _ _ _ _ _ (by decide))
theorem r5_both (τ : sg_S) (k l r : Int) : r5 τ (pBoth τ k l r) := by
  unfold pBoth
  exact r5_t (r5_att _ _ _) (r5_t (r5_att _ _ _) (r5_cls _ _ _))
def zP (c : tkC) (P : pF) : Prop := ∀ i τ i' τ' q, P i τ = some (i', τ', q) → zQ c τ → zQ c τ'
section ZPF
variable {c : tkC}
theorem zP_cr (hc : tkOK c) : zP c (pCreate c) := by
  intro i τ i' τ' q h h0
  unfold pCreate at h
  split at h
  · cases h
  · rename_i hs
    cases h
    obtain ⟨h1, h2⟩ := h0
    have hk : 0 ≤ sg_g τ 2 16 ∧ sg_g τ 2 16 < 200 := ⟨h1, by omega⟩
    have hK := tK_r hc i
    have hP := tPl_r hc i
    have hc2 := hc.2.1
    have hkr : sg_R (tK c i) := ⟨by omega, by omega⟩
    have hpr : sg_R (tPl c i) := ⟨by omega, by omega⟩
    obtain ⟨s, es⟩ : ∃ s, s = sg_g τ 2 16 := ⟨_, rfl⟩
    rw [← es] at hk h1 h2 ⊢
    unfold pAdd
    rw [← es]
    simp only [xp_in hk]
    refine zQ_e (τ := sg_w (sg_w (sg_w (sg_w τ 2 16 (s + 1)) 3 s (tK c i)) 4 s (tPl c i)) 5 s (tN c i)) ⟨?_, fun k a b z => ?_⟩ ?_
    · rw [sg_gw_c _ _ _ _ _ _ (by decide), sg_gw_c _ _ _ _ _ _ (by decide), sg_gw_c _ _ _ _ _ _ (by decide), sg_gw_e _ _ _ _ ⟨by omega, by omega⟩]; omega
    · rw [sg_gw_c _ _ _ _ _ _ (by decide), sg_gw_c _ _ _ _ _ _ (by decide), sg_gw_c _ _ _ _ _ _ (by decide), sg_gw_e _ _ _ _ ⟨by omega, by omega⟩] at b
      by_cases e : k = s
      · rw [e, sg_gw_c _ _ _ _ _ _ (by decide), sg_gw_c _ _ _ _ _ _ (by decide), sg_gw_e _ _ _ _ hkr] at z
        have g := tN_g z
        have bn : sg_R (tN c i) := by
          rw [g]
          obtain ⟨t1, t2⟩ := tK_n z
          have sp := lx_end_spec c.1 c.2.1 lx_d (tPl c i)
          have bb := lx_dec_b (B := c.1) (q := tPl c i) (lx_end c.1 c.2.1 lx_d (tPl c i) - tPl c i).toNat (fun t a b => (sp.2.1 t a (by omega)).2)
          have p9 : (10 : Int) ^ (lx_end c.1 c.2.1 lx_d (tPl c i) - tPl c i).toNat ≤ 1000000000 := by
            have : (lx_end c.1 c.2.1 lx_d (tPl c i) - tPl c i).toNat ≤ 9 := by omega
            generalize (lx_end c.1 c.2.1 lx_d (tPl c i) - tPl c i).toNat = n at this
            rcases (show n = 0 ∨ n = 1 ∨ n = 2 ∨ n = 3 ∨ n = 4 ∨ n = 5 ∨ n = 6 ∨ n = 7 ∨ n = 8 ∨ n = 9 by omega) with h | h | h | h | h | h | h | h | h | h <;> subst h <;> decide
          unfold gNm
          exact ⟨by omega, by omega⟩
        rw [e, sg_gw_e _ _ _ _ bn, sg_gw_c _ _ _ _ _ _ (by decide), sg_gw_e _ _ _ _ hpr]
        exact g
      · rw [sg_gw_c _ _ _ _ _ _ (by decide), sg_gw_c _ _ _ _ _ _ (by decide), sg_gw_k _ _ _ _ _ _ e, sg_gw_c _ _ _ _ _ _ (by decide)] at z
        rw [sg_gw_k _ _ _ _ _ _ e, sg_gw_c _ _ _ _ _ _ (by decide), sg_gw_c _ _ _ _ _ _ (by decide), sg_gw_c _ _ _ _ _ _ (by decide), sg_gw_c _ _ _ _ _ _ (by decide), sg_gw_k _ _ _ _ _ _ e, sg_gw_c _ _ _ _ _ _ (by decide), sg_gw_c _ _ _ _ _ _ (by decide)]
        exact h2 k a (by omega) z
    · refine r5_t ?_ (r5_pl _ _ _ _ _)
      refine ⟨?_, fun k => ⟨Or.inl ?_, ?_, ?_⟩⟩ <;> simp [sg_gw]
theorem zP_n : zP c (fun _ _ => none) := fun _ _ _ _ _ h _ => by cases h
theorem zP_let (hc : tkOK c) {E : pF} (hE : zP c E) : zP c (pLet c E) := by
  intro i τ i' τ' q h h0
  unfold pLet at h
  split at h
  · cases h
  · rename_i i1 τ1 k hm
    have a1 := zP_cr hc _ _ _ _ _ hm h0
    split at h
    · split at h
      · split at h
        · cases h
        · rename_i i2 τ2 a he
          have a2 := hE _ _ _ _ _ he (zQ_e a1 (r5_pl _ _ _ _ _))
          split at h
          · split at h
            · cases h
            · rename_i i3 τ3 b hf
              cases h
              exact zQ_e (hE _ _ _ _ _ hf (zQ_e a2 (r5_att _ _ _))) (r5_t (r5_att _ _ _) (r5_cls _ _ _))
          · cases h
      · cases h
    · cases h
theorem zP_if (hc : tkOK c) {E : pF} (hE : zP c E) : zP c (pIf c E) := by
  intro i τ i' τ' q h h0
  unfold pIf at h
  split at h
  · cases h
  · rename_i i1 τ1 k hm
    have a1 := zP_cr hc _ _ _ _ _ hm h0
    split at h
    · cases h
    · rename_i i2 τ2 a he
      have a2 := hE _ _ _ _ _ he a1
      split at h
      · split at h
        · cases h
        · rename_i i3 τ3 b hf
          have a3 := hE _ _ _ _ _ hf (zQ_e a2 (r5_att _ _ _))
          split at h
          · split at h
            · cases h
            · rename_i i4 τ4 e hg
              cases h
              exact zQ_e (hE _ _ _ _ _ hg (zQ_e a3 (r5_att _ _ _))) (r5_t (r5_att _ _ _) (r5_cls _ _ _))
          · cases h
      · cases h
theorem zP_cmp (hc : tkOK c) {S : pF} (hS : zP c S) : zP c (pCmp c S) := by
  intro i τ i' τ' q h h0
  unfold pCmp at h
  split at h
  · cases h
  · rename_i i1 τ1 l he
    have a1 := hS _ _ _ _ _ he h0
    split at h
    · split at h
      · cases h
      · rename_i i2 τ2 k hm
        have a2 := zP_cr hc _ _ _ _ _ hm a1
        split at h
        · cases h
        · rename_i i3 τ3 r hf
          cases h
          exact zQ_e (hS _ _ _ _ _ hf a2) (r5_both _ _ _ _)
    · cases h
      exact a1
theorem zP_rowL (hc : tkOK c) {q0 : Int → Bool} {P : pF} (hP : zP c P) : ∀ (m : Nat) (l : Int) (i : Nat) (τ : sg_S) (i' : Nat) (τ' : sg_S) (q : Int), pRowL c q0 P m l i τ = some (i', τ', q) → zQ c τ → zQ c τ'
  | 0, l, i, τ, i', τ', q, h, h0 => by
    unfold pRowL at h
    cases h
    exact h0
  | m + 1, l, i, τ, i', τ', q, h, h0 => by
    unfold pRowL at h
    split at h
    · split at h
      · cases h
      · rename_i i1 τ1 k hm
        have a1 := zP_cr hc _ _ _ _ _ hm h0
        split at h
        · cases h
        · rename_i i2 τ2 r hf
          exact zP_rowL hc hP m _ _ _ _ _ _ h (zQ_e (hP _ _ _ _ _ hf a1) (r5_both _ _ _ _))
    · cases h
      exact h0
theorem zP_row (hc : tkOK c) {q0 : Int → Bool} {P : pF} (hP : zP c P) : zP c (pRow c q0 P) := by
  intro i τ i' τ' q h h0
  unfold pRow at h
  split at h
  · cases h
  · rename_i i1 τ1 l he
    exact zP_rowL hc hP _ _ _ _ _ _ _ h (hP _ _ _ _ _ he h0)
theorem zP_un (hc : tkOK c) {w : Bool} {U I : pF} (hU : zP c U) (hI : zP c I) : zP c (pUn c w U I) := by
  intro i τ i' τ' q h h0
  unfold pUn at h
  split at h
  · split at h
    · split at h
      · cases h
      · rename_i i1 τ1 k hm
        have a1 := zP_cr hc _ _ _ _ _ hm h0
        split at h
        · cases h
        · rename_i i2 τ2 r hf
          cases h
          exact zQ_e (hU _ _ _ _ _ hf a1) (r5_t (r5_att _ _ _) (r5_cls _ _ _))
    · cases h
  · exact hI _ _ _ _ _ h h0
theorem zP_itL (hc : tkOK c) {w : Bool} {E : pF} (hE : zP c E) : ∀ (m : Nat) (l : Int) (i : Nat) (τ : sg_S) (i' : Nat) (τ' : sg_S) (q : Int), pItL c w E m l i τ = some (i', τ', q) → zQ c τ → zQ c τ'
  | 0, l, i, τ, i', τ', q, h, h0 => by
    unfold pItL at h
    cases h
    exact h0
  | m + 1, l, i, τ, i', τ', q, h, h0 => by
    unfold pItL at h
    split at h
    · split at h
      · split at h
        · cases h
        · rename_i i1 τ1 k hm
          have a1 := zP_cr hc _ _ _ _ _ hm h0
          split at h
          · cases h
          · rename_i i2 τ2 r hf
            split at h
            · exact zP_itL hc hE m _ _ _ _ _ _ h (zQ_e (hE _ _ _ _ _ hf a1) (r5_both _ _ _ _))
            · cases h
      · cases h
    · cases h
      exact h0
theorem zP_item (hc : tkOK c) {w : Bool} {E A : pF} (hE : zP c E) (hA : zP c A) : zP c (pItem c w E A) := by
  intro i τ i' τ' q h h0
  unfold pItem at h
  split at h
  · cases h
  · rename_i i1 τ1 l he
    exact zP_itL hc hE _ _ _ _ _ _ _ h (hA _ _ _ _ _ he h0)
theorem zP_lstL {E : pF} (hE : zP c E) {k : Int} : ∀ (m : Nat) (i : Nat) (τ : sg_S) (i' : Nat) (τ' : sg_S), pListL c E k m i τ = some (i', τ') → zQ c τ → zQ c τ'
  | 0, i, τ, i', τ', h, h0 => by
    unfold pListL at h
    cases h
    exact h0
  | m + 1, i, τ, i', τ', h, h0 => by
    unfold pListL at h
    split at h
    · cases h
    · rename_i i1 τ1 r he
      have a1 := zQ_e (hE _ _ _ _ _ he h0) (r5_att τ1 k r)
      split at h
      · exact zP_lstL hE m _ _ _ _ h a1
      · cases h
        exact a1
theorem zP_genL {E : pF} (hE : zP c E) {k : Int} : ∀ (m : Nat) (i : Nat) (τ : sg_S) (i' : Nat) (τ' : sg_S), pGenL c E k m i τ = some (i', τ') → zQ c τ → zQ c τ'
  | 0, i, τ, i', τ', h, h0 => by
    unfold pGenL at h
    cases h
    exact h0
  | m + 1, i, τ, i', τ', h, h0 => by
    unfold pGenL at h
    split at h
    · split at h
      · split at h
        · cases h
        · rename_i i1 τ1 r he
          have a1 : zQ c (sx_put (pAttach (sx_put (sx_putl τ1 18 200 r (tW c i)) 15 200 r (tPl c i)) k r) 13 200 k (5 - m)) := zQ_e (hE _ _ _ _ _ he h0) (r5_t (r5_pl _ _ _ _ _) (r5_t (r5_p _ _ _ _ _ (by decide)) (r5_t (r5_att _ _ _) (r5_p _ _ _ _ _ (by decide)))))
          split at h
          · exact zP_genL hE m _ _ _ _ h a1
          · cases h
            exact a1
      · cases h
    · cases h
theorem zP_wordE {E : pF} (hE : zP c E) {k : Int} : zP c (pWordE c E k) := by
  intro i τ i' τ' q h h0
  unfold pWordE at h
  split at h
  · cases h
  · rename_i i1 τ1 he
    have a1 : zQ c τ1 := by
      split at he
      · cases he
        exact h0
      · exact zP_lstL hE _ _ _ _ _ he h0
    split at h
    · cases h
      exact zQ_e a1 (r5_cls _ _ _)
    · cases h
theorem zP_word (hc : tkOK c) {w : Bool} {E : pF} (hE : zP c E) : zP c (pWord c w E) := by
  intro i τ i' τ' q h h0
  unfold pWord at h
  split at h
  · cases h
  · rename_i i1 τ1 k hm
    have a1 := zP_cr hc _ _ _ _ _ hm h0
    split at h
    · cases h
      exact a1
    · split at h
      · split at h
        · refine zP_wordE hE _ _ _ _ _ h ?_
          split
          · exact zQ_e a1 (r5_3 _ _ _ (by decide))
          · exact a1
        · cases h
      · cases h
theorem zP_rw (hc : tkOK c) {E : pF} (hE : zP c E) : zP c (pRw c E) := by
  intro i τ i' τ' q h h0
  unfold pRw at h
  split at h
  · cases h
  · rename_i i1 τ1 k hm
    have a1 := zP_cr hc _ _ _ _ _ hm h0
    split at h
    · cases h
    · rename_i i2 τ2 he
      have a2 := zP_lstL hE _ _ _ _ _ he (zQ_e a1 (r5_3 _ _ _ (by decide)))
      split at h
      · cases h
        exact zQ_e a2 (r5_cls _ _ _)
      · cases h
theorem zP_eachE {k b : Int} : zP c (pEachE c k b) := by
  intro i τ i' τ' q h h0
  unfold pEachE at h
  split at h
  · cases h
    exact zQ_e h0 (r5_t (r5_att _ _ _) (r5_cls _ _ _))
  · cases h
theorem zP_each (hc : tkOK c) {E : pF} (hE : zP c E) : zP c (pEach c E) := by
  intro i τ i' τ' q h h0
  unfold pEach at h
  split at h
  · cases h
  · rename_i i1 τ1 k hm
    have a1 := zP_cr hc _ _ _ _ _ hm h0
    split at h
    · cases h
    · rename_i i2 τ2 b he
      have a2 := hE _ _ _ _ _ he a1
      split at h
      · split at h
        · cases h
        · rename_i i3 τ3 hg
          have a3 := zP_genL hE _ _ _ _ _ hg a2
          split at h
          · split at h
            · cases h
            · rename_i i4 τ4 g hf
              exact zP_eachE _ _ _ _ _ h (zQ_e (hE _ _ _ _ _ hf a3) (r5_t (r5_att _ _ _) (r5_p _ _ _ _ _ (by decide))))
          · exact zP_eachE _ _ _ _ _ h a3
      · cases h
theorem zP_par {E : pF} (hE : zP c E) : zP c (pPar c E) := by
  intro i τ i' τ' q h h0
  unfold pPar at h
  split at h
  · cases h
  · rename_i i1 τ1 r he
    split at h
    · cases h
      exact hE _ _ _ _ _ he h0
    · cases h
theorem zP_atom (hc : tkOK c) {w : Bool} {E : pF} (hE : zP c E) : zP c (pAtom c w E) := by
  intro i τ i' τ' q h h0
  unfold pAtom at h
  split at h
  · exact zP_cr hc _ _ _ _ _ h h0
  · split at h
    · exact zP_word hc hE _ _ _ _ _ h h0
    · split at h
      · split at h
        · exact zP_par hE _ _ _ _ _ h h0
        · split at h
          · exact zP_rw hc hE _ _ _ _ _ h h0
          · split at h
            · exact zP_each hc hE _ _ _ _ _ h h0
            · cases h
      · cases h
theorem zP_expr (hc : tkOK c) {w : Bool} {E C : pF} (hE : zP c E) (hC : zP c C) : zP c (pExpr c w E C) := by
  intro i τ i' τ' q h h0
  unfold pExpr at h
  split at h
  · split at h
    · exact zP_let hc hE _ _ _ _ _ h h0
    · cases h
  · split at h
    · split at h
      · exact zP_if hc hE _ _ _ _ _ h h0
      · cases h
    · exact hC _ _ _ _ _ h h0
theorem zP_unL (hc : tkOK c) {w : Bool} {E U : pF} (hE : zP c E) (hU : zP c U) : zP c (pUnL c w E U) := zP_un hc hU (zP_item hc hE (zP_atom hc hE))
theorem zP_cmL (hc : tkOK c) {w : Bool} {E U : pF} (hE : zP c E) (hU : zP c U) : zP c (pCmL c w E U) := zP_cmp hc (zP_row hc (zP_row hc (zP_unL hc hE hU)))
theorem zP_lv (hc : tkOK c) : ∀ f, zP c (pLv c f).1 ∧ zP c (pLv c f).2
  | 0 => ⟨zP_expr hc zP_n (zP_cmL hc zP_n zP_n), zP_unL hc zP_n zP_n⟩
  | f + 1 => ⟨zP_expr hc (zP_lv hc f).1 (zP_cmL hc (zP_lv hc f).1 (zP_lv hc f).2), zP_unL hc (zP_lv hc f).1 (zP_lv hc f).2⟩
theorem z_parL {d : Int} : ∀ (m : Nat) (i : Nat) (τ : sg_S) (i' : Nat) (τ' : sg_S), pParL c d m i τ = some (i', τ') → r5 τ τ'
  | 0, i, τ, i', τ', h => by
    unfold pParL at h
    cases h
    exact r5_r τ
  | m + 1, i, τ, i', τ', h => by
    unfold pParL at h
    split at h
    · split at h
      · split at h
        · cases h
        · rename_i i1 dp he
          have a1 : r5 τ (sx_put (pDPar τ d (tW c i) (tPl c i)) 27 72 (d * 6 + (6 - m)) dp) := by
            unfold pDPar
            exact r5_t (r5_pl _ _ _ _ _) (r5_t (r5_p _ _ _ _ _ (by decide)) (r5_t (r5_p _ _ _ _ _ (by decide)) (r5_p _ _ _ _ _ (by decide))))
          split at h
          · exact r5_t a1 (z_parL m _ _ _ _ h)
          · cases h
            exact a1
      · cases h
    · cases h
theorem z_pdefs {E : pF} (hE : zP c E) : ∀ (m : Nat) (i : Nat) (τ : sg_S) (i' : Nat) (τ' : sg_S), pDefs c E m i τ = some (i', τ') → zQ c τ → zQ c τ'
  | 0, i, τ, i', τ', h, h0 => by
    unfold pDefs at h
    cases h
    exact h0
  | m + 1, i, τ, i', τ', h, h0 => by
    unfold pDefs at h
    split at h
    · split at h
      · cases h
      · rename_i i1 τ1 h1
        have a1 : zQ c τ1 := by
          unfold pTitle at h1
          split at h1
          · cases h1
          · split at h1
            · split at h1
              · cases h1
                unfold pDAdd
                exact zQ_e h0 (r5_t (r5_pl _ _ _ _ _) (r5_t (r5_p _ _ _ _ _ (by decide)) (r5_t (r5_p _ _ _ _ _ (by decide)) (r5_w _ _ _ _ (by decide)))))
              · cases h1
            · cases h1
        split at h
        · cases h
        · rename_i i2 τ2 h2
          have a2 : zQ c τ2 := by
            unfold pPars pParE at h2
            split at h2
            · cases h2
            · rename_i i3 τ3 h3
              have a3 : zQ c τ3 := by
                split at h3
                · cases h3
                  exact a1
                · exact zQ_e a1 (z_parL _ _ _ _ _ h3)
              split at h2
              · cases h2
                exact a3
              · cases h2
          split at h
          · cases h
          · rename_i i3 τ3 h3
            have a3 : zQ c τ3 := by
              unfold pMean at h3
              split at h3
              · split at h3
                · cases h3
                · rename_i i4 τ4 r he
                  split at h3
                  · cases h3
                    exact zQ_e (hE _ _ _ _ _ he a2) (r5_p _ _ _ _ _ (by decide))
                  · cases h3
              · cases h3
            exact z_pdefs hE m _ _ _ _ h a3
    · cases h
      exact h0
theorem z_parse (hc : tkOK c) {τ τ' : sg_S} {q : Int} (h : pParse c (pLv c 12).1 τ = some (τ', q)) : zQ c τ' := by
  have hE := (zP_lv hc 12).1
  unfold pParse pRest at h
  split at h
  · cases h
  · rename_i i1 τ1 hd
    have e0 : sg_g (sg_w (sg_w τ 2 16 0) 19 8 0) 2 16 = 0 := by rw [sg_gw_c _ _ _ _ _ _ (by decide), sg_gw_e _ _ _ _ (by decide)]
    have a1 := z_pdefs hE _ _ _ _ _ hd ⟨by rw [e0]; decide, fun k a b => by rw [e0] at b; omega⟩
    split at h
    · cases h
    · rename_i i2 τ2 r he
      split at h
      · cases h
        exact hE _ _ _ _ _ he a1
      · cases h
end ZPF
/-- tokens tell their number -/
theorem zT_B {c : tkC} {t : aK} {N : Nat} (hB : tkB c t N) : zT (gNm c) t := fun i h1 => by
  have hN : i < N := by
    rcases Nat.lt_or_ge i N with q | q
    · exact q
    · by_cases e : i = N
      · rw [e] at h1
        rcases hB.2.2.2.2.1 with z | z <;> omega
      · have := hB.2.2.2.2.2 i (by omega)
        omega
  have k := (b_s hB (Nat.le_of_lt hN)).2.1.mp h1
  obtain ⟨t1, t2⟩ := tK_n k
  rw [hB.2.2.1.2 i hN, (hB.2.2.1.1 i (Nat.le_of_lt hN)).2]
  unfold rW gNm
  rw [if_neg (by omega), if_pos t1.2]
theorem nm_ok {c : tkC} {t : aK} {N : Nat} {τ τ' : sg_S} {A : aT} {D : List aDf} {q k : Int} {R : List Int} (hB : tkB c t N) (h1 : pParse c (pLv c 12).1 τ = some (τ', q)) (h2 : aPg t N aE0 = some (A, D, k)) (h3 : cS τ' A 0 R) : nmR τ' A := fun k a b z => by
  obtain ⟨z1, z2⟩ := z_parse hB.1 h1
  have zA' := z_pg (zT_B hB) h2 ⟨by decide, fun n a b => by simp only [aE0] at b; omega⟩
  obtain ⟨c1, c2, c3, c4⟩ := h3
  have n3 := (c3 k a b).1.1
  have n4 := (c3 k a b).1.2.1
  rw [z] at n3
  have e := z2 k a (by rw [c1]; exact b) n3
  rw [e, n4, zA'.2 k a b z, ← n4, ← e]
  exact (sg_id (sg_Rg _ _ _)).symm
