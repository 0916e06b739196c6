/-! VALUES of nested runs of the reference: numbers, sequences of items. -/
def cB : Nat → Int
  | 0 => 0
  | k + 1 => 200 + 200 * cB k
theorem cB_0 : ∀ k, 0 ≤ cB k
  | 0 => Int.le_refl _
  | k + 1 => by have := cB_0 k; simp only [cB]; omega
theorem cB_3 {k : Nat} (h : k ≤ 3) : cB k ≤ 8040200 := by
  have : k = 0 ∨ k = 1 ∨ k = 2 ∨ k = 3 := by omega
  rcases this with e | e | e | e <;> subst e <;> decide
/-- what i items from p on count -/
def sC (σ : sg_S) (p : Int) : Nat → Int
  | 0 => 0
  | i + 1 => sC σ p i + sg_gl σ 124 (sg_g σ 125 (p + i))
def sK (σ : sg_S) (p : Int) (i : Nat) : Nat → Int
  | 0 => 0
  | _ + 1 => sC σ p i
/-- v is a value of type k -/
def vT (σ : sg_S) : Nat → Int → Prop
  | 0, _ => True
  | k + 1, v => (0 ≤ v ∧ v < sg_g σ 88 56) ∧ (0 ≤ sg_g σ 122 v ∧ 0 ≤ sg_g σ 123 v ∧ sg_g σ 123 v ≤ 200 ∧ sg_g σ 122 v + sg_g σ 123 v ≤ sg_g σ 88 60) ∧ (sg_g σ 123 v ≤ sg_gl σ 124 v ∧ sg_gl σ 124 v ≤ cB (k + 1) ∧ sg_gl σ 124 v = sg_g σ 123 v + sK σ (sg_g σ 122 v) (sg_g σ 123 v).toNat k) ∧ ∀ i, 0 ≤ i → i < sg_g σ 123 v → vT σ k (sg_g σ 125 (sg_g σ 122 v + i))
/-- sequences and items only grow -/
def nEx (σ σ' : sg_S) : Prop := (sg_g σ 88 56 ≤ sg_g σ' 88 56 ∧ sg_g σ 88 60 ≤ sg_g σ' 88 60) ∧ (∀ j, 0 ≤ j → j < sg_g σ 88 56 → sg_g σ' 122 j = sg_g σ 122 j ∧ sg_g σ' 123 j = sg_g σ 123 j ∧ sg_gl σ' 124 j = sg_gl σ 124 j) ∧ ∀ j, 0 ≤ j → j < sg_g σ 88 60 → sg_g σ' 125 j = sg_g σ 125 j
theorem nEx_r (σ : sg_S) : nEx σ σ := ⟨⟨Int.le_refl _, Int.le_refl _⟩, fun _ _ _ => ⟨rfl, rfl, rfl⟩, fun _ _ _ => rfl⟩
theorem nEx_t {σ σ1 σ2 : sg_S} (h : nEx σ σ1) (g : nEx σ1 σ2) : nEx σ σ2 := by
  obtain ⟨⟨a1, a2⟩, a3, a4⟩ := h
  obtain ⟨⟨b1, b2⟩, b3, b4⟩ := g
  refine ⟨⟨by omega, by omega⟩, fun j x y => ?_, fun j x y => (b4 j x (by omega)).trans (a4 j x y)⟩
  obtain ⟨c1, c2, c3⟩ := a3 j x y
  obtain ⟨d1, d2, d3⟩ := b3 j x (by omega)
  exact ⟨d1.trans c1, d2.trans c2, d3.trans c3⟩
theorem nEx_F {L : List Nat} {σ σ' : sg_S} (f : sg_F L σ σ') (hL : (!sg_cv L 88 56 && !sg_cv L 88 60 && sg_ca L 122 && sg_ca L 123 && sg_ca L 124 && sg_ca L 125) = true) : nEx σ σ' := by
  simp only [Bool.and_eq_true, Bool.not_eq_true'] at hL
  obtain ⟨⟨⟨⟨⟨l1, l2⟩, l3⟩, l4⟩, l5⟩, l6⟩ := hL
  exact ⟨⟨by rw [sg_F_g f l1]; exact Int.le_refl _, by rw [sg_F_g f l2]; exact Int.le_refl _⟩, fun j _ _ => ⟨sg_F_ga f l3, sg_F_ga f l4, sg_F_gal f l5⟩, fun j _ _ => sg_F_ga f l6⟩
theorem sC_up {σ σ' : sg_S} (h : nEx σ σ') {p : Int} (hp : 0 ≤ p) : ∀ {i : Nat}, p + i ≤ sg_g σ 88 60 → (∀ l : Nat, l < i → 0 ≤ sg_g σ 125 (p + l) ∧ sg_g σ 125 (p + l) < sg_g σ 88 56) → sC σ' p i = sC σ p i
  | 0, _, _ => rfl
  | i + 1, a, b => by
    have c := b i (by omega)
    simp only [sC]
    rw [sC_up h hp (i := i) (by omega) (fun l x => b l (by omega)), h.2.2 (p + i) (by omega) (by omega), (h.2.1 _ c.1 c.2).2.2]
theorem sK_up {σ σ' : sg_S} (h : nEx σ σ') {p : Int} (hp : 0 ≤ p) {i k : Nat} (a : p + i ≤ sg_g σ 88 60) (b : ∀ l : Nat, l < i → vT σ k (sg_g σ 125 (p + l))) : sK σ' p i k = sK σ p i k := by
  cases k with
  | zero => rfl
  | succ k => exact sC_up h hp a (fun l x => (b l x).1)
theorem vT_up {σ σ' : sg_S} (h : nEx σ σ') : ∀ {k : Nat} {v : Int}, vT σ k v → vT σ' k v
  | 0, _, _ => trivial
  | k + 1, v, ⟨a1, a2, a3, a4⟩ => by
    obtain ⟨⟨b1, b2⟩, b3, b4⟩ := h
    obtain ⟨c1, c2, c3⟩ := b3 v a1.1 a1.2
    refine ⟨⟨a1.1, by omega⟩, by rw [c1, c2]; omega, by rw [c1, c2, c3, sK_up ⟨⟨b1, b2⟩, b3, b4⟩ a2.1 (by omega) (fun l x => a4 l (by omega) (by omega))]; exact a3, fun i x y => ?_⟩
    rw [c2] at y
    rw [c1, b4 _ (by omega) (by omega)]
    exact vT_up ⟨⟨b1, b2⟩, b3, b4⟩ (a4 i x y)
/-- an item of a sequence can be read -/
theorem vT_it {σ : sg_S} {k : Nat} {v i : Int} (hs : sg_g σ 88 56 ≤ 9000) (hi : sg_g σ 88 60 ≤ 12000) (h : vT σ (k + 1) v) (i0 : 0 ≤ i) (i1 : i < sg_g σ 123 v) : p_itemAt σ v i ∧ vT σ k (v_itemAt σ v i) := by
  obtain ⟨a1, a2, a3, a4⟩ := h
  exact ⟨⟨⟨a1.1, by omega⟩, ⟨by omega, by omega⟩, ⟨by omega, by omega⟩, trivial⟩, a4 i i0 i1⟩
theorem m_add {σ : sg_S} {v : Int} {Q : sg_S → Prop} (h : 0 ≤ sg_g σ 88 60 ∧ sg_g σ 88 60 < 12000) (hv : sg_R v) (k : ∀ σ', nEx σ σ' → sg_g σ' 88 60 = sg_g σ 88 60 + 1 → sg_g σ' 125 (sg_g σ 88 60) = v → sg_F [125, 61088] σ σ' → Q σ') : V_add σ v Q := by
  unfold V_add
  refine ⟨h, fun σ2 e2 => ⟨⟨by omega, by omega⟩, fun σ6 e6 => k σ6 ?_ ?_ ?_ ?_⟩⟩
  · refine ⟨⟨?_, ?_⟩, fun j x y => ⟨?_, ?_, ?_⟩, fun j x y => ?_⟩
    · rw [e6, sg_gw_k _ _ _ _ _ _ (by decide), e2, sg_gw_c _ _ _ _ _ _ (by decide)]; exact Int.le_refl _
    · rw [e6, sg_gw_e _ _ _ _ ⟨by omega, by omega⟩]; omega
    · rw [e6, sg_gw_c _ _ _ _ _ _ (by decide), e2, sg_gw_c _ _ _ _ _ _ (by decide)]
    · rw [e6, sg_gw_c _ _ _ _ _ _ (by decide), e2, sg_gw_c _ _ _ _ _ _ (by decide)]
    · rw [e6, sg_gw', e2, sg_gw']
    · rw [e6, sg_gw_c _ _ _ _ _ _ (by decide), e2, sg_gw_k _ _ _ _ _ _ (by omega)]
  · rw [e6, sg_gw_e _ _ _ _ ⟨by omega, by omega⟩]
  · rw [e6, sg_gw_c _ _ _ _ _ _ (by decide), e2, sg_gw_e _ _ _ _ hv]
  · rw [e6, e2]; exact sg_F_w (sg_F_w (sg_F_r _ _) rfl _) rfl _
/-- a new sequence over items that stand there -/
theorem m_seq {σ : sg_S} {fr mn ty : Int} {k : Nat} {Q : Int → sg_S → Prop} (hs : 0 ≤ sg_g σ 88 56 ∧ sg_g σ 88 56 < 9000) (hi : sg_g σ 88 60 ≤ 12000) (hf : 0 ≤ fr) (hm : 0 ≤ mn ∧ mn ≤ 200) (hfm : fr + mn ≤ sg_g σ 88 60) (hk : ty = ((k + 1 : Nat) : Int)) (hk3 : k ≤ 2) (ht : ∀ i, 0 ≤ i → i < mn → vT σ k (sg_g σ 125 (fr + i))) (kk : ∀ σ', nEx σ σ' → sg_g σ' 88 56 = sg_g σ 88 56 + 1 → sg_g σ' 88 60 = sg_g σ 88 60 → vT σ' (k + 1) (sg_g σ 88 56) → mn ≤ sg_gl σ' 124 (sg_g σ 88 56) → sg_g σ' 123 (sg_g σ 88 56) = mn → sg_g σ' 122 (sg_g σ 88 56) = fr → sg_F [122, 123, 124, 57088] σ σ' → Q (sg_g σ 88 56) σ') : V_seq σ fr mn ty Q := by
  have c0 := cB_0 k
  have c3 := cB_3 (k := k) (by omega)
  unfold V_seq
  refine ⟨hs, fun σ2 e2 σ5 e5 => ⟨fun m v8 v9 => ∃ i : Nat, v9 = fr + i ∧ m = mn.toNat - i ∧ (i : Int) ≤ mn ∧ (mn ≤ v8 ∧ v8 ≤ mn + i * cB k) ∧ v8 = mn + sK σ fr i k, fun v8 => mn ≤ v8 ∧ v8 ≤ cB (k + 1) ∧ v8 = mn + sK σ fr mn.toNat k, ⟨_, 0, by omega, rfl, hm.1, ⟨Int.le_refl _, by omega⟩, by cases k <;> simp [sK, sC]⟩, ?_, ?_⟩⟩
  · rintro m v8 v9 r8 r9 ⟨i, rfl, em, hi1, ⟨h1, h2⟩, h3⟩
    have step : v8 ≤ mn + mn * cB k := by
      have : (i : Int) * cB k ≤ mn * cB k := Int.mul_le_mul_of_nonneg_right hi1 c0
      omega
    have s200 : mn * cB k ≤ 200 * cB k := Int.mul_le_mul_of_nonneg_right hm.2 c0
    have f2 : v8 ≤ cB (k + 1) := by simp only [cB]; omega
    refine ⟨⟨by omega, by omega⟩, fun z => ⟨h1, f2, by rw [show mn.toNat = i by omega]; exact h3⟩, fun c => ⟨fun z => ⟨h1, f2, by rw [h3, show k = 0 by omega]; rfl⟩, fun c2 => ?_⟩⟩
    obtain ⟨k', rfl⟩ : ∃ k', k = k' + 1 := ⟨k - 1, by omega⟩
    have t := ht i (by omega) (by omega)
    obtain ⟨a1, a2, a3, a4⟩ := t
    refine ⟨⟨by omega, by omega⟩, ⟨a1.1, by omega⟩, ⟨by omega, by omega⟩, ⟨by omega, by omega⟩, mn.toNat - (i + 1), by omega, i + 1, by omega, rfl, by omega, ⟨by omega, ?_⟩, by rw [h3]; simp only [sK, sC]; omega⟩
    have e : ((i + 1 : Nat) : Int) * cB (k' + 1) = i * cB (k' + 1) + cB (k' + 1) := by
      rw [show ((i + 1 : Nat) : Int) = (i : Int) + 1 by omega, Int.add_mul, Int.one_mul]
    omega
  · rintro v8 r8 ⟨h1, h2, h3⟩ σ25 e25
    refine ⟨⟨by omega, by omega⟩, fun σ29 e29 => ⟨⟨by omega, by omega⟩, ?_⟩⟩
    rw [show sg_g σ 88 56 + 1 - 1 = sg_g σ 88 56 by omega]
    have s56 : sg_g σ29 88 56 = sg_g σ 88 56 + 1 := by rw [e29, sg_gw_e _ _ _ _ ⟨by omega, by omega⟩]
    have s60 : sg_g σ29 88 60 = sg_g σ 88 60 := by rw [e29, sg_gw_k _ _ _ _ _ _ (by decide), e25, sg_gwl', e5, sg_gw_c _ _ _ _ _ _ (by decide), e2, sg_gw_c _ _ _ _ _ _ (by decide)]
    have g125 : ∀ j, sg_g σ29 125 j = sg_g σ 125 j := fun j => by rw [e29, sg_gw_c _ _ _ _ _ _ (by decide), e25, sg_gwl', e5, sg_gw_c _ _ _ _ _ _ (by decide), e2, sg_gw_c _ _ _ _ _ _ (by decide)]
    have g122 : sg_g σ29 122 (sg_g σ 88 56) = fr := by rw [e29, sg_gw_c _ _ _ _ _ _ (by decide), e25, sg_gwl', e5, sg_gw_c _ _ _ _ _ _ (by decide), e2, sg_gw_e _ _ _ _ ⟨by omega, by omega⟩]
    have g123 : sg_g σ29 123 (sg_g σ 88 56) = mn := by rw [e29, sg_gw_c _ _ _ _ _ _ (by decide), e25, sg_gwl', e5, sg_gw_e _ _ _ _ ⟨by omega, by omega⟩]
    have g124 : sg_gl σ29 124 (sg_g σ 88 56) = v8 := by rw [e29, sg_gw', e25, sg_gwl_e _ _ _ _ r8]
    have ex : nEx σ σ29 := by
      refine ⟨⟨by omega, by omega⟩, fun j x y => ⟨?_, ?_, ?_⟩, fun j _ _ => g125 j⟩
      · rw [e29, sg_gw_c _ _ _ _ _ _ (by decide), e25, sg_gwl', e5, sg_gw_c _ _ _ _ _ _ (by decide), e2, sg_gw_k _ _ _ _ _ _ (by omega)]
      · rw [e29, sg_gw_c _ _ _ _ _ _ (by decide), e25, sg_gwl', e5, sg_gw_k _ _ _ _ _ _ (by omega), e2, sg_gw_c _ _ _ _ _ _ (by decide)]
      · rw [e29, sg_gw', e25, sg_gwl_k _ _ _ _ _ _ (by omega), e5, sg_gw', e2, sg_gw']
    refine kk σ29 ex s56 s60 ?_ (by rw [g124]; exact h1) g123 g122 ?_
    · refine ⟨⟨hs.1, by omega⟩, by rw [g122, g123]; omega, by rw [g122, g123, g124, sK_up ex hf (by omega) (fun l x => ht l (by omega) (by omega))]; exact ⟨h1, h2, h3⟩, fun i x y => ?_⟩
      rw [g123] at y
      rw [g122, g125]
      exact vT_up ex (ht i x y)
    · rw [e29, e25, e5, e2]
      exact sg_F_w (sg_F_wl (sg_F_w (sg_F_w (sg_F_r _ _) rfl _) rfl _) rfl _) rfl _
theorem m_works {σ : sg_S} {a : Int} {Q : sg_S → Prop} (hw : 0 ≤ sg_g σ 88 54 ∧ sg_g σ 88 54 ≤ 3000) (ha : 0 ≤ a ∧ a ≤ 8040200) (k : ∀ σ', (0 ≤ sg_g σ' 88 54 ∧ sg_g σ' 88 54 ≤ 3000) → (¬ sg_g σ' 88 73 = 0 ∨ (sg_g σ 88 73 = 0 ∧ sg_g σ' 88 73 = 0 ∧ sg_g σ' 88 54 = sg_g σ 88 54 + a)) → sg_F [55088, 74088] σ σ' → Q σ') : V_works σ a Q := by
  unfold V_works
  refine ⟨fun σ4 => ¬ sg_g σ4 88 73 = 0 ∨ (sg_g σ 88 73 = 0 ∧ sg_g σ4 88 73 = 0 ∧ sg_g σ 88 54 + a ≤ 3000), ⟨fun h => Or.inl h, fun h => ⟨⟨by omega, by omega⟩, fun h2 => Or.inr ⟨h, h, h2⟩, fun h2 σ19 e19 => Or.inl (by rw [e19, sg_gw_e _ _ _ _ (by decide)]; decide)⟩⟩, ?_⟩
  intro σ4 f4 h4
  have w4 : sg_g σ4 88 54 = sg_g σ 88 54 := sg_F_g f4 rfl
  refine ⟨fun h => ⟨⟨by omega, by omega⟩, fun σ9 e9 => k σ9 ?_ (Or.inl ?_) ?_⟩, fun h => ?_⟩
  · rw [e9, sg_gw_e _ _ _ _ ⟨by omega, by omega⟩]; omega
  · rw [e9, sg_gw_k _ _ _ _ _ _ (by decide)]; exact h
  · rw [e9]; exact sg_F_w (sg_F_m f4 rfl) rfl _
  · rcases h4 with h4 | ⟨h4, -, h5⟩
    · exact absurd h h4
    · refine ⟨⟨by omega, by omega⟩, ⟨by omega, by omega⟩, fun σ14 e14 => k σ14 ?_ (Or.inr ⟨h4, ?_, ?_⟩) ?_⟩
      · rw [e14, sg_gw_e _ _ _ _ ⟨by omega, by omega⟩]; omega
      · rw [e14, sg_gw_k _ _ _ _ _ _ (by decide)]; exact h
      · rw [e14, sg_gw_e _ _ _ _ ⟨by omega, by omega⟩]
      · rw [e14]; exact sg_F_w (sg_F_m f4 rfl) rfl _
theorem m_ends {σ : sg_S} {a : Int} {Q : sg_S → Prop} (ha : sg_R a ∧ ¬ a = 0) (k : ∀ σ', ¬ sg_g σ' 88 73 = 0 → sg_F [74088] σ σ' → Q σ') : V_ends σ a Q := by
  unfold V_ends
  refine ⟨fun h σ2 e2 => k σ2 ?_ ?_, fun h σ5 e5 => k σ5 ?_ ?_⟩
  · rw [e2, sg_gw_e _ _ _ _ (sg_Rg _ _ _)]; exact h
  · rw [e2]; exact sg_F_w (sg_F_r _ _) rfl _
  · rw [e5, sg_gw_e _ _ _ _ ha.1]; exact ha.2
  · rw [e5]; exact sg_F_w (sg_F_r _ _) rfl _
