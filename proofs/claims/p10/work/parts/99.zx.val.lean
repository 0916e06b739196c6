/-! VALUES of nested runs of the reference: numbers, sequences of items. -/
def cB : Nat → Int
  | 0 => 0
  | k + 1 => 200 + 200 * cB k
theorem cB_0 : ∀ k, 0 ≤ cB k
  | 0 => Int.le_refl _
  | k + 1 => by have := cB_0 k; simp only [cB]; omega
theorem cB_3 {k : Nat} (h : k ≤ 3) : cB k ≤ 8040200 := by
  have : k = 0 ∨ k = 1 ∨ k = 2 ∨ k = 3 := by omega
  rcases this with e | e | e | e <;> subst e <;> decide
/-- what i items from p on count -/
def sC (σ : sg_S) (p : Int) : Nat → Int
  | 0 => 0
  | i + 1 => sC σ p i + sg_gl σ 124 (sg_g σ 125 (p + i))
def sK (σ : sg_S) (p : Int) (i : Nat) : Nat → Int
  | 0 => 0
  | _ + 1 => sC σ p i
/-- v is a value of type k -/
def vT (σ : sg_S) : Nat → Int → Prop
  | 0, _ => True
  | k + 1, v => (0 ≤ v ∧ v < sg_g σ 88 56) ∧ (0 ≤ sg_g σ 122 v ∧ 0 ≤ sg_g σ 123 v ∧ sg_g σ 123 v ≤ 200 ∧ sg_g σ 122 v + sg_g σ 123 v ≤ sg_g σ 88 60) ∧ (sg_g σ 123 v ≤ sg_gl σ 124 v ∧ sg_gl σ 124 v ≤ cB (k + 1) ∧ sg_gl σ 124 v = sg_g σ 123 v + sK σ (sg_g σ 122 v) (sg_g σ 123 v).toNat k) ∧ ∀ i, 0 ≤ i → i < sg_g σ 123 v → vT σ k (sg_g σ 125 (sg_g σ 122 v + i))
/-- sequences and items only grow -/
def nEx (σ σ' : sg_S) : Prop := (sg_g σ 88 56 ≤ sg_g σ' 88 56 ∧ sg_g σ 88 60 ≤ sg_g σ' 88 60) ∧ (∀ j, 0 ≤ j → j < sg_g σ 88 56 → sg_g σ' 122 j = sg_g σ 122 j ∧ sg_g σ' 123 j = sg_g σ 123 j ∧ sg_gl σ' 124 j = sg_gl σ 124 j) ∧ ∀ j, 0 ≤ j → j < sg_g σ 88 60 → sg_g σ' 125 j = sg_g σ 125 j
theorem nEx_r (σ : sg_S) : nEx σ σ := ⟨⟨Int.le_refl _, Int.le_refl _⟩, fun _ _ _ => ⟨rfl, rfl, rfl⟩, fun _ _ _ => rfl⟩
theorem nEx_t {σ σ1 σ2 : sg_S} (h : nEx σ σ1) (g : nEx σ1 σ2) : nEx σ σ2 := by
  obtain ⟨⟨a1, a2⟩, a3, a4⟩ := h
  obtain ⟨⟨b1, b2⟩, b3, b4⟩ := g
  refine ⟨⟨by omega, by omega⟩, fun j x y => ?_, fun j x y => (b4 j x (by omega)).trans (a4 j x y)⟩
  obtain ⟨c1, c2, c3⟩ := a3 j x y
  obtain ⟨d1, d2, d3⟩ := b3 j x (by omega)
  exact ⟨d1.trans c1, d2.trans c2, d3.trans c3⟩
theorem nEx_F {L : List Nat} {σ σ' : sg_S} (f : sg_F L σ σ') (hL : (!sg_cv L 88 56 && !sg_cv L 88 60 && sg_ca L 122 && sg_ca L 123 && sg_ca L 124 && sg_ca L 125) = true) : nEx σ σ' := by
  simp only [Bool.and_eq_true, Bool.not_eq_true'] at hL
  obtain ⟨⟨⟨⟨⟨l1, l2⟩, l3⟩, l4⟩, l5⟩, l6⟩ := hL
  exact ⟨⟨by rw [sg_F_g f l1]; exact Int.le_refl _, by rw [sg_F_g f l2]; exact Int.le_refl _⟩, fun j _ _ => ⟨sg_F_ga f l3, sg_F_ga f l4, sg_F_gal f l5⟩, fun j _ _ => sg_F_ga f l6⟩
theorem sC_up {σ σ' : sg_S} (h : nEx σ σ') {p : Int} (hp : 0 ≤ p) : ∀ {i : Nat}, p + i ≤ sg_g σ 88 60 → (∀ l : Nat, l < i → 0 ≤ sg_g σ 125 (p + l) ∧ sg_g σ 125 (p + l) < sg_g σ 88 56) → sC σ' p i = sC σ p i
  | 0, _, _ => rfl
  | i + 1, a, b => by
    have c := b i (by omega)
    simp only [sC]
    rw [sC_up h hp (i := i) (by omega) (fun l x => b l (by omega)), h.2.2 (p + i) (by omega) (by omega), (h.2.1 _ c.1 c.2).2.2]
theorem sK_up {σ σ' : sg_S} (h : nEx σ σ') {p : Int} (hp : 0 ≤ p) {i k : Nat} (a : p + i ≤ sg_g σ 88 60) (b : ∀ l : Nat, l < i → vT σ k (sg_g σ 125 (p + l))) : sK σ' p i k = sK σ p i k := by
  cases k with
  | zero => rfl
  | succ k => exact sC_up h hp a (fun l x => (b l x).1)
theorem vT_up {σ σ' : sg_S} (h : nEx σ σ') : ∀ {k : Nat} {v : Int}, vT σ k v → vT σ' k v
  | 0, _, _ => trivial
  | k + 1, v, ⟨a1, a2, a3, a4⟩ => by
    obtain ⟨⟨b1, b2⟩, b3, b4⟩ := h
    obtain ⟨c1, c2, c3⟩ := b3 v a1.1 a1.2
    refine ⟨⟨a1.1, by omega⟩, by rw [c1, c2]; omega, by rw [c1, c2, c3, sK_up ⟨⟨b1, b2⟩, b3, b4⟩ a2.1 (by omega) (fun l x => a4 l (by omega) (by omega))]; exact a3, fun i x y => ?_⟩
    rw [c2] at y
    rw [c1, b4 _ (by omega) (by omega)]
    exact vT_up ⟨⟨b1, b2⟩, b3, b4⟩ (a4 i x y)
/-- an item of a sequence can be read -/
theorem vT_it {σ : sg_S} {k : Nat} {v i : Int} (hs : sg_g σ 88 56 ≤ 9000) (hi : sg_g σ 88 60 ≤ 12000) (h : vT σ (k + 1) v) (i0 : 0 ≤ i) (i1 : i < sg_g σ 123 v) : p_itemAt σ v i ∧ vT σ k (v_itemAt σ v i) := by
  obtain ⟨a1, a2, a3, a4⟩ := h
  exact ⟨⟨⟨a1.1, by omega⟩, ⟨by omega, by omega⟩, ⟨by omega, by omega⟩, trivial⟩, a4 i i0 i1⟩
theorem m_add {σ : sg_S} {v : Int} {Q : sg_S → Prop} (h : 0 ≤ sg_g σ 88 60 ∧ sg_g σ 88 60 < 12000) (hv : sg_R v) (k : ∀ σ', nEx σ σ' → sg_g σ' 88 60 = sg_g σ 88 60 + 1 → sg_g σ' 125 (sg_g σ 88 60) = v → sg_F [125, 61088] σ σ' → Q σ') : V_add σ v Q := by
  unfold V_add
  refine ⟨h, fun σ2 e2 => ⟨⟨by omega, by omega⟩, fun σ6 e6 => k σ6 ?_ ?_ ?_ ?_⟩⟩
  · refine ⟨⟨?_, ?_⟩, fun j x y => ⟨?_, ?_, ?_⟩, fun j x y => ?_⟩
    · rw [e6, sg_gw_k _ _ _ _ _ _ (by decide), e2, sg_gw_c _ _ _ _ _ _ (by decide)]; exact Int.le_refl _
    · rw [e6, sg_gw_e _ _ _ _ ⟨by omega, by omega⟩]; omega
    · rw [e6, sg_gw_c _ _ _ _ _ _ (by decide), e2, sg_gw_c _ _ _ _ _ _ (by decide)]
    · rw [e6, sg_gw_c _ _ _ _ _ _ (by decide), e2, sg_gw_c _ _ _ _ _ _ (by decide)]
    · rw [e6, sg_gw', e2, sg_gw']
    · rw [e6, sg_gw_c _ _ _ _ _ _ (by decide), e2, sg_gw_k _ _ _ _ _ _ (by omega)]
  · rw [e6, sg_gw_e _ _ _ _ ⟨by omega, by omega⟩]
  · rw [e6, sg_gw_c _ _ _ _ _ _ (by decide), e2, sg_gw_e _ _ _ _ hv]
  · rw [e6, e2]; exact sg_F_w (sg_F_w (sg_F_r _ _) rfl _) rfl _
/-- a new sequence over items that stand there -/
theorem m_seq {σ : sg_S} {fr mn ty : Int} {k : Nat} {Q : Int → sg_S → Prop} (hs : 0 ≤ sg_g σ 88 56 ∧ sg_g σ 88 56 < 9000) (hi : sg_g σ 88 60 ≤ 12000) (hf : 0 ≤ fr) (hm : 0 ≤ mn ∧ mn ≤ 200) (hfm : fr + mn ≤ sg_g σ 88 60) (hk : ty = ((k + 1 : Nat) : Int)) (hk3 : k ≤ 2) (ht : ∀ i, 0 ≤ i → i < mn → vT σ k (sg_g σ 125 (fr + i))) (kk : ∀ σ', nEx σ σ' → sg_g σ' 88 56 = sg_g σ 88 56 + 1 → sg_g σ' 88 60 = sg_g σ 88 60 → vT σ' (k + 1) (sg_g σ 88 56) → mn ≤ sg_gl σ' 124 (sg_g σ 88 56) → sg_g σ' 123 (sg_g σ 88 56) = mn → sg_g σ' 122 (sg_g σ 88 56) = fr → sg_F [122, 123, 124, 57088] σ σ' → Q (sg_g σ 88 56) σ') : V_seq σ fr mn ty Q := by
  have c0 := cB_0 k
  have c3 := cB_3 (k := k) (by omega)
  unfold V_seq
  refine ⟨hs, fun σ2 e2 σ5 e5 => ⟨fun m v8 v9 => ∃ i : Nat, v9 = fr + i ∧ m = mn.toNat - i ∧ (i : Int) ≤ mn ∧ (mn ≤ v8 ∧ v8 ≤ mn + i * cB k) ∧ v8 = mn + sK σ fr i k, fun v8 => mn ≤ v8 ∧ v8 ≤ cB (k + 1) ∧ v8 = mn + sK σ fr mn.toNat k, ⟨_, 0, by omega, rfl, hm.1, ⟨Int.le_refl _, by omega⟩, by cases k <;> simp [sK, sC]⟩, ?_, ?_⟩⟩
  · rintro m v8 v9 r8 r9 ⟨i, rfl, em, hi1, ⟨h1, h2⟩, h3⟩
    have step : v8 ≤ mn + mn * cB k := by
      have : (i : Int) * cB k ≤ mn * cB k := Int.mul_le_mul_of_nonneg_right hi1 c0
      omega
    have s200 : mn * cB k ≤ 200 * cB k := Int.mul_le_mul_of_nonneg_right hm.2 c0
    have f2 : v8 ≤ cB (k + 1) := by simp only [cB]; omega
    refine ⟨⟨by omega, by omega⟩, fun z => ⟨h1, f2, by rw [show mn.toNat = i by omega]; exact h3⟩, fun c => ⟨fun z => ⟨h1, f2, by rw [h3, show k = 0 by omega]; rfl⟩, fun c2 => ?_⟩⟩
    obtain ⟨k', rfl⟩ : ∃ k', k = k' + 1 := ⟨k - 1, by omega⟩
    have t := ht i (by omega) (by omega)
    obtain ⟨a1, a2, a3, a4⟩ := t
    refine ⟨⟨by omega, by omega⟩, ⟨a1.1, by omega⟩, ⟨by omega, by omega⟩, ⟨by omega, by omega⟩, mn.toNat - (i + 1), by omega, i + 1, by omega, rfl, by omega, ⟨by omega, ?_⟩, by rw [h3]; simp only [sK, sC]; omega⟩
    have e : ((i + 1 : Nat) : Int) * cB (k' + 1) = i * cB (k' + 1) + cB (k' + 1) := by
      rw [show ((i + 1 : Nat) : Int) = (i : Int) + 1 by omega, Int.add_mul, Int.one_mul]
    omega
  · rintro v8 r8 ⟨h1, h2, h3⟩ σ25 e25
    refine ⟨⟨by omega, by omega⟩, fun σ29 e29 => ⟨⟨by omega, by omega⟩, ?_⟩⟩
    rw [show sg_g σ 88 56 + 1 - 1 = sg_g σ 88 56 by omega]
    have s56 : sg_g σ29 88 56 = sg_g σ 88 56 + 1 := by rw [e29, sg_gw_e _ _ _ _ ⟨by omega, by omega⟩]
    have s60 : sg_g σ29 88 60 = sg_g σ 88 60 := by rw [e29, sg_gw_k _ _ _ _ _ _ (by decide), e25, sg_gwl', e5, sg_gw_c _ _ _ _ _ _ (by decide), e2, sg_gw_c _ _ _ _ _ _ (by decide)]
    have g125 : ∀ j, sg_g σ29 125 j = sg_g σ 125 j := fun j => by rw [e29, sg_gw_c _ _ _ _ _ _ (by decide), e25, sg_gwl', e5, sg_gw_c _ _ _ _ _ _ (by decide), e2, sg_gw_c _ _ _ _ _ _ (by decide)]
    have g122 : sg_g σ29 122 (sg_g σ 88 56) = fr := by rw [e29, sg_gw_c _ _ _ _ _ _ (by decide), e25, sg_gwl', e5, sg_gw_c _ _ _ _ _ _ (by decide), e2, sg_gw_e _ _ _ _ ⟨by omega, by omega⟩]
    have g123 : sg_g σ29 123 (sg_g σ 88 56) = mn := by rw [e29, sg_gw_c _ _ _ _ _ _ (by decide), e25, sg_gwl', e5, sg_gw_e _ _ _ _ ⟨by omega, by omega⟩]
    have g124 : sg_gl σ29 124 (sg_g σ 88 56) = v8 := by rw [e29, sg_gw', e25, sg_gwl_e _ _ _ _ r8]
    have ex : nEx σ σ29 := by
      refine ⟨⟨by omega, by omega⟩, fun j x y => ⟨?_, ?_, ?_⟩, fun j _ _ => g125 j⟩
      · rw [e29, sg_gw_c _ _ _ _ _ _ (by decide), e25, sg_gwl', e5, sg_gw_c _ _ _ _ _ _ (by decide), e2, sg_gw_k _ _ _ _ _ _ (by omega)]
      · rw [e29, sg_gw_c _ _ _ _ _ _ (by decide), e25, sg_gwl', e5, sg_gw_k _ _ _ _ _ _ (by omega), e2, sg_gw_c _ _ _ _ _ _ (by decide)]
      · rw [e29, sg_gw', e25, sg_gwl_k _ _ _ _ _ _ (by omega), e5, sg_gw', e2, sg_gw']
    refine kk σ29 ex s56 s60 ?_ (by rw [g124]; exact h1) g123 g122 ?_
    · refine ⟨⟨hs.1, by omega⟩, by rw [g122, g123]; omega, by rw [g122, g123, g124, sK_up ex hf (by omega) (fun l x => ht l (by omega) (by omega))]; exact ⟨h1, h2, h3⟩, fun i x y => ?_⟩
      rw [g123] at y
      rw [g122, g125]
      exact vT_up ex (ht i x y)
    · rw [e29, e25, e5, e2]
      exact sg_F_w (sg_F_wl (sg_F_w (sg_F_w (sg_F_r _ _) rfl _) rfl _) rfl _) rfl _
theorem m_works {σ : sg_S} {a : Int} {Q : sg_S → Prop} (hw : 0 ≤ sg_g σ 88 54 ∧ sg_g σ 88 54 ≤ 3000) (ha : 0 ≤ a ∧ a ≤ 8040200) (k : ∀ σ', (0 ≤ sg_g σ' 88 54 ∧ sg_g σ' 88 54 ≤ 3000) → (¬ sg_g σ' 88 73 = 0 ∨ (sg_g σ 88 73 = 0 ∧ sg_g σ' 88 73 = 0 ∧ sg_g σ' 88 54 = sg_g σ 88 54 + a)) → sg_F [55088, 74088] σ σ' → Q σ') : V_works σ a Q := by
  unfold V_works
  refine ⟨fun σ4 => ¬ sg_g σ4 88 73 = 0 ∨ (sg_g σ 88 73 = 0 ∧ sg_g σ4 88 73 = 0 ∧ sg_g σ 88 54 + a ≤ 3000), ⟨fun h => Or.inl h, fun h => ⟨⟨by omega, by omega⟩, fun h2 => Or.inr ⟨h, h, h2⟩, fun h2 σ19 e19 => Or.inl (by rw [e19, sg_gw_e _ _ _ _ (by decide)]; decide)⟩⟩, ?_⟩
  intro σ4 f4 h4
  have w4 : sg_g σ4 88 54 = sg_g σ 88 54 := sg_F_g f4 rfl
  refine ⟨fun h => ⟨⟨by omega, by omega⟩, fun σ9 e9 => k σ9 ?_ (Or.inl ?_) ?_⟩, fun h => ?_⟩
  · rw [e9, sg_gw_e _ _ _ _ ⟨by omega, by omega⟩]; omega
  · rw [e9, sg_gw_k _ _ _ _ _ _ (by decide)]; exact h
  · rw [e9]; exact sg_F_w (sg_F_m f4 rfl) rfl _
  · rcases h4 with h4 | ⟨h4, -, h5⟩
    · exact absurd h h4
    · refine ⟨⟨by omega, by omega⟩, ⟨by omega, by omega⟩, fun σ14 e14 => k σ14 ?_ (Or.inr ⟨h4, ?_, ?_⟩) ?_⟩
      · rw [e14, sg_gw_e _ _ _ _ ⟨by omega, by omega⟩]; omega
      · rw [e14, sg_gw_k _ _ _ _ _ _ (by decide)]; exact h
      · rw [e14, sg_gw_e _ _ _ _ ⟨by omega, by omega⟩]
      · rw [e14]; exact sg_F_w (sg_F_m f4 rfl) rfl _
theorem m_ends {σ : sg_S} {a : Int} {Q : sg_S → Prop} (ha : sg_R a ∧ ¬ a = 0) (k : ∀ σ', ¬ sg_g σ' 88 73 = 0 → sg_F [74088] σ σ' → Q σ') : V_ends σ a Q := by
  unfold V_ends
  refine ⟨fun h σ2 e2 => k σ2 ?_ ?_, fun h σ5 e5 => k σ5 ?_ ?_⟩
  · rw [e2, sg_gw_e _ _ _ _ (sg_Rg _ _ _)]; exact h
  · rw [e2]; exact sg_F_w (sg_F_r _ _) rfl _
  · rw [e5, sg_gw_e _ _ _ _ ha.1]; exact ha.2
  · rw [e5]; exact sg_F_w (sg_F_r _ _) rfl _
/-! ACTS of nested runs of the reference are safe, and come to values of their types. -/
def nB (σ : sg_S) : Prop := (0 ≤ sg_g σ 88 56 ∧ sg_g σ 88 56 ≤ 3300) ∧ 0 ≤ sg_g σ 88 60 ∧ sg_g σ 88 60 ≤ 3300
/-- j items of type k were added -/
def nAd (σ σ3 : sg_S) (k : Nat) (j : Int) : Prop := nEx σ σ3 ∧ sg_g σ3 88 56 = sg_g σ 88 56 ∧ sg_g σ3 88 60 = sg_g σ 88 60 + j ∧ ∀ i, 0 ≤ i → i < j → vT σ3 k (sg_g σ3 125 (sg_g σ 88 60 + i))
/-- v of type k came of σ: what it counts pays for what was made -/
def oK (σ σ' : sg_S) (k : Nat) (v : Int) : Prop := nEx σ σ' ∧ vT σ' k v ∧ (1 ≤ k → sg_g σ' 88 60 ≤ sg_g σ 88 60 + sg_gl σ' 124 v ∧ sg_g σ' 88 56 ≤ sg_g σ 88 56 + 1 + sg_gl σ' 124 v ∧ sg_g σ' 88 56 ≤ sg_g σ 88 56 + 300) ∧ (k = 0 → sg_g σ' 88 60 = sg_g σ 88 60 ∧ sg_g σ' 88 56 = sg_g σ 88 56)
theorem nAd_0 (σ : sg_S) (k : Nat) : nAd σ σ k 0 := ⟨nEx_r σ, rfl, by omega, fun i a b => by omega⟩
theorem m_addA {σ σ3 : sg_S} {k : Nat} {j v : Int} {Q : sg_S → Prop} (hB : nB σ) (hj : 0 ≤ j ∧ j < 400) (hA : nAd σ σ3 k j) (hv : sg_R v) (ht : vT σ3 k v) (kk : ∀ σ', nAd σ σ' k (j + 1) → nEx σ3 σ' → sg_F [125, 61088] σ3 σ' → Q σ') : V_add σ3 v Q := by
  obtain ⟨⟨b1, b2⟩, b3, b4⟩ := hB
  obtain ⟨a1, a2, a3, a4⟩ := hA
  refine m_add (by omega) hv (fun σ' x1 x2 x3 x4 => kk σ' ⟨nEx_t a1 x1, ?_, by omega, fun i c d => ?_⟩ x1 x4)
  · rw [sg_F_g x4 (by rfl)]; exact a2
  · by_cases e : i = j
    · rw [e, ← a3, x3]; exact vT_up x1 ht
    · have := x1.2.2 (sg_g σ 88 60 + i) (by omega) (by omega)
      rw [this]
      exact vT_up x1 (a4 i c (by omega))
theorem m_seqE {σ σ3 : sg_S} {k : Nat} {j ty : Int} {Q : Int → sg_S → Prop} (hB : nB σ) (hj : 0 ≤ j ∧ j ≤ 200) (hA : nAd σ σ3 k j) (hk : ty = ((k + 1 : Nat) : Int)) (hk2 : k ≤ 2) (kk : ∀ q σ', nEx σ σ' → vT σ' (k + 1) q → j ≤ sg_gl σ' 124 q → sg_g σ' 88 60 = sg_g σ 88 60 + j → sg_g σ' 88 56 = sg_g σ 88 56 + 1 → sg_F [122, 123, 124, 57088] σ3 σ' → Q q σ') : V_seq σ3 (sg_g σ 88 60) j ty Q := by
  obtain ⟨⟨b1, b2⟩, b3, b4⟩ := hB
  obtain ⟨a1, a2, a3, a4⟩ := hA
  refine m_seq (k := k) (by omega) (by omega) b3 hj (by omega) hk hk2 a4 (fun σ' x1 x2 x3 x4 x5 x6 x7 x8 => kk _ σ' (nEx_t a1 x1) x4 x5 (by omega) (by omega) x8)
theorem m_seqA {σ σ3 : sg_S} {k : Nat} {j ty : Int} {Q : Int → sg_S → Prop} (hB : nB σ) (hj : 0 ≤ j ∧ j ≤ 200) (hA : nAd σ σ3 k j) (hk : ty = ((k + 1 : Nat) : Int)) (hk2 : k ≤ 2) (kk : ∀ q σ', oK σ σ' (k + 1) q → sg_F [122, 123, 124, 57088] σ3 σ' → Q q σ') : V_seq σ3 (sg_g σ 88 60) j ty Q :=
  m_seqE hB hj hA hk hk2 (fun q σ' x1 x2 x3 x4 x5 x6 => kk q σ' ⟨x1, x2, fun _ => ⟨by omega, by omega, by omega⟩, fun z => by omega⟩ x6)
section ACT
variable {σ : sg_S} {n a b : Int} {k : Nat} {Q : Int → sg_S → Prop}
theorem v_in_n {x l h : Int} : (v_in x l h = 0 ↔ ¬ (l ≤ x ∧ x ≤ h)) := by
  unfold v_in
  by_cases c1 : x < l
  · rw [if_pos c1]; exact ⟨fun _ => by omega, fun _ => rfl⟩
  · rw [if_neg c1]
    by_cases c2 : h < x
    · rw [if_pos c2]; exact ⟨fun _ => by omega, fun _ => rfl⟩
    · rw [if_neg c2]; exact ⟨fun z => by omega, fun z => by omega⟩
/-- what an ACT asks of what follows: a fault, or a value -/
def aQ (σ : sg_S) (k : Nat) (Q : Int → sg_S → Prop) : Prop := (∀ q σ', ¬ sg_g σ' 88 73 = 0 → nEx σ σ' → sg_F [122, 123, 124, 125, 135, 57088, 61088, 74088] σ σ' → Q q σ') ∧ ∀ q σ', oK σ σ' k q → sg_g σ' 88 73 = sg_g σ 88 73 → sg_F [122, 123, 124, 125, 135, 57088, 61088, 74088] σ σ' → Q q σ'
theorem aQ_f (h : aQ σ k Q) {e : Int} (he : sg_R e ∧ ¬ e = 0) {q : Int} : V_ends σ e (fun σ' => sg_F [74088] σ σ' → Q q σ') := m_ends he (fun σ' x1 x2 _ => h.1 q σ' x1 (nEx_F x2 rfl) (sg_F_m x2 rfl))
theorem m_iota (hB : nB σ) (h : aQ σ 1 Q) : V_acted_16 σ a (sg_g σ 88 60) Q := by
  unfold V_acted_16
  refine ⟨fun c => ?_, fun _ => aQ_f h (by decide)⟩
  have ca : 0 ≤ a ∧ a ≤ 200 := Decidable.byContradiction (fun z => c (v_in_n.mpr z))
  refine ⟨fun m v σ3 => m = (a - v).toNat ∧ (0 ≤ v ∧ v ≤ a) ∧ nAd σ σ3 0 v, fun σ3 => nAd σ σ3 0 a, ⟨_, rfl, ⟨by omega, by omega⟩, nAd_0 σ 0⟩, ?_, fun σ3 f3 h3 => m_seqA hB ca h3 rfl (by decide) (fun q σ' x1 x2 _ _ => h.2 q σ' x1 ?_ ?_)⟩
  · rintro m v σ3 rv f3 ⟨em, hv, hA⟩
    refine ⟨fun z => ?_, fun z => m_addA hB (by omega) hA rv trivial (fun σ' x1 _ x2 _ => ⟨⟨by omega, by omega⟩, _, ?_, rfl, ⟨by omega, by omega⟩, x1⟩)⟩
    · rw [show a = v by omega]; exact hA
    · omega
  · rw [sg_F_g x2 (by rfl), sg_F_g f3 (by rfl)]
  · exact sg_F_t (sg_F_m f3 rfl) (sg_F_m x2 rfl)
theorem m_dist (hB : nB σ) (hn : 0 ≤ n ∧ n < 210) (hra : sg_R a) (hk : k ≤ 2) (hT : sg_g σ 101 n = ((k + 1 : Nat) : Int)) (ha : vT σ k a) (h : aQ σ (k + 1) Q) : V_acted_17 σ n a b (sg_g σ 88 60) Q := by
  unfold V_acted_17
  refine ⟨fun c => ?_, fun _ => aQ_f h (by decide)⟩
  have ca : 0 ≤ b ∧ b ≤ 200 := Decidable.byContradiction (fun z => c (v_in_n.mpr z))
  refine ⟨fun m v σ3 => m = (b - v).toNat ∧ (0 ≤ v ∧ v ≤ b) ∧ nAd σ σ3 k v, fun σ3 => nAd σ σ3 k b, ⟨_, rfl, ⟨by omega, by omega⟩, nAd_0 σ k⟩, ?_, fun σ3 f3 h3 => ⟨hn, m_seqA hB ca h3 hT hk (fun q σ' x1 x2 _ _ => h.2 q σ' x1 ?_ ?_)⟩⟩
  · rintro m v σ3 rv f3 ⟨em, hv, hA⟩
    refine ⟨fun z => ?_, fun z => m_addA hB (by omega) hA hra (vT_up hA.1 ha) (fun σ' x1 _ x2 _ => ⟨⟨by omega, by omega⟩, _, ?_, rfl, ⟨by omega, by omega⟩, x1⟩)⟩
    · rw [show b = v by omega]; exact hA
    · omega
  · rw [sg_F_g x2 (by rfl), sg_F_g f3 (by rfl)]
  · exact sg_F_t (sg_F_m f3 rfl) (sg_F_m x2 rfl)
/-- the rows of a sequence stay while items are added -/
theorem nEx_s {σ3 : sg_S} (h : nEx σ σ3) (ha : vT σ (k + 1) a) : sg_g σ3 123 a = sg_g σ 123 a ∧ sg_g σ3 122 a = sg_g σ 122 a := by
  obtain ⟨a1, -⟩ := ha
  exact ⟨(h.2.1 a a1.1 a1.2).2.1, (h.2.1 a a1.1 a1.2).1⟩
theorem m_it {σ3 : sg_S} {i j : Int} {k' : Nat} (hB : nB σ) (hj : 0 ≤ j ∧ j < 400) (hA : nAd σ σ3 k' j) (ha : vT σ (k + 1) a) (i0 : 0 ≤ i) (i1 : i < sg_g σ 123 a) : p_itemAt σ3 a i ∧ vT σ3 k (v_itemAt σ3 a i) := by
  obtain ⟨⟨b1, b2⟩, b3, b4⟩ := hB
  have e := nEx_s hA.1 ha
  exact vT_it (by rw [hA.2.1]; omega) (by rw [hA.2.2.1]; omega) (vT_up hA.1 ha) i0 (by rw [e.1]; exact i1)
theorem vT_9 (hB : nB σ) (ha : vT σ (k + 1) a) : (0 ≤ a ∧ a < 9000) ∧ 0 ≤ sg_g σ 123 a ∧ sg_g σ 123 a ≤ 200 := by
  obtain ⟨⟨b1, b2⟩, b3, b4⟩ := hB
  obtain ⟨a1, a2, a3, a4⟩ := ha
  exact ⟨⟨a1.1, by omega⟩, by omega, by omega⟩
theorem oK_0 (v : Int) : oK σ σ 0 v := ⟨nEx_r σ, trivial, fun z => by omega, fun _ => ⟨rfl, rfl⟩⟩
theorem m_sum (hB : nB σ) (ha : vT σ 1 a) (h : aQ σ 0 Q) : V_acted_18 σ a Q := by
  have h9 := vT_9 hB ha
  unfold V_acted_18
  refine ⟨fun m v1 v2 => m = (sg_g σ 123 a - v2).toNat ∧ 0 ≤ v2, fun _ => True, ⟨_, rfl, Int.le_refl _⟩, ?_, fun v1 r1 _ => h.2 v1 σ (oK_0 v1) rfl (sg_F_r _ _)⟩
  rintro m v1 v2 r1 r2 ⟨em, h0⟩
  exact ⟨h9.1, fun _ => trivial, fun c => ⟨(m_it (k' := 0) hB (by omega) (nAd_0 σ 0) ha h0 c).1, ⟨by omega, by omega⟩, _, by omega, rfl, by omega⟩⟩
theorem m_max (hB : nB σ) (hn : 0 ≤ n ∧ n < 210) (ha : vT σ 1 a) (h : aQ σ 0 Q) : V_acted_19 σ n a Q := by
  have h9 := vT_9 hB ha
  unfold V_acted_19
  refine ⟨h9.1, fun c => ⟨(m_it (k' := 0) hB (by omega) (nAd_0 σ 0) ha (Int.le_refl _) (by omega)).1, fun m v1 v2 => m = (sg_g σ 123 a - v2).toNat ∧ 0 ≤ v2, fun _ => True, ⟨_, rfl, by omega⟩, ?_, fun v1 r1 _ => h.2 v1 σ (oK_0 v1) rfl (sg_F_r _ _)⟩, fun _ => aQ_f h (by decide)⟩
  rintro m v1 v2 r1 r2 ⟨em, h0⟩
  exact ⟨fun _ => trivial, fun c => ⟨(m_it (k' := 0) hB (by omega) (nAd_0 σ 0) ha h0 c).1, hn, ⟨fun _ => ⟨fun _ => trivial, fun _ => trivial⟩, fun _ => ⟨fun _ => trivial, fun _ => trivial⟩⟩, fun v28 _ _ => ⟨⟨by omega, by omega⟩, _, by omega, rfl, by omega⟩⟩⟩
theorem m_scan (hB : nB σ) (ha : vT σ 1 a) (h : aQ σ 1 Q) : V_acted_21 σ a (sg_g σ 88 60) Q := by
  have h9 := vT_9 hB ha
  unfold V_acted_21
  refine ⟨fun m v1 v σ3 => m = (sg_g σ 123 a - v).toNat ∧ (0 ≤ v ∧ v ≤ sg_g σ 123 a) ∧ nAd σ σ3 0 v, fun σ3 => nAd σ σ3 0 (sg_g σ 123 a), ⟨_, rfl, ⟨by omega, by omega⟩, nAd_0 σ 0⟩, ?_, fun σ3 f3 h3 => ⟨h9.1, m_seqA hB h9.2 h3 rfl (by decide) (fun q σ' x1 x2 _ _ => h.2 q σ' x1 ?_ ?_)⟩⟩
  · rintro m v1 v σ3 r1 rv f3 ⟨em, hv, hA⟩
    refine ⟨h9.1, fun z => ?_, fun z => m_addA hB (by omega) hA r1 trivial (fun σ' x1 _ x2 _ => ⟨(m_it hB (by omega) x1 ha hv.1 z).1, ⟨by omega, by omega⟩, _, ?_, rfl, ⟨by omega, by omega⟩, x1⟩)⟩
    · rw [show sg_g σ 123 a = v by omega]; exact hA
    · omega
  · rw [sg_F_g x2 (by rfl), sg_F_g f3 (by rfl)]
  · exact sg_F_t (sg_F_m f3 rfl) (sg_F_m x2 rfl)
theorem m_rev (hB : nB σ) (hn : 0 ≤ n ∧ n < 210) (hk : k ≤ 2) (hT : sg_g σ 101 n = ((k + 1 : Nat) : Int)) (ha : vT σ (k + 1) a) (h : aQ σ (k + 1) Q) : V_acted_22 σ n a (sg_g σ 88 60) Q := by
  have h9 := vT_9 hB ha
  unfold V_acted_22
  refine ⟨h9.1, ⟨by omega, by omega⟩, fun m v σ3 => m = (v + 1).toNat ∧ (-1 ≤ v ∧ v < sg_g σ 123 a) ∧ nAd σ σ3 k (sg_g σ 123 a - 1 - v), fun σ3 => nAd σ σ3 k (sg_g σ 123 a), ⟨_, rfl, ⟨by omega, by omega⟩, ?_⟩, ?_, fun σ3 f3 h3 => ⟨hn, m_seqA hB h9.2 h3 hT hk (fun q σ' x1 x2 _ _ => h.2 q σ' x1 ?_ ?_)⟩⟩
  · rw [show sg_g σ 123 a - 1 - (sg_g σ 123 a - 1) = 0 by omega]; exact nAd_0 σ k
  · rintro m v σ3 rv f3 ⟨em, hv, hA⟩
    refine ⟨fun z => ?_, fun z => ?_⟩
    · rw [show sg_g σ 123 a - 1 - v = sg_g σ 123 a by omega] at hA; exact hA
    · have t := m_it hB (by omega) hA ha z hv.2
      refine ⟨t.1, m_addA hB (by omega) hA (sg_Rg _ _ _) t.2 (fun σ' x1 _ x2 _ => ⟨⟨by omega, by omega⟩, _, ?_, rfl, ⟨by omega, by omega⟩, ?_⟩)⟩
      · omega
      · rw [show sg_g σ 123 a - 1 - (v + -1) = sg_g σ 123 a - 1 - v + 1 by omega]; exact x1
  · rw [sg_F_g x2 (by rfl), sg_F_g f3 (by rfl)]
  · exact sg_F_t (sg_F_m f3 rfl) (sg_F_m x2 rfl)
theorem m_cat (hB : nB σ) (hn : 0 ≤ n ∧ n < 210) (hk : k ≤ 2) (hT : sg_g σ 101 n = ((k + 1 : Nat) : Int)) (ha : vT σ (k + 1) a) (hb : vT σ (k + 1) b) (h : aQ σ (k + 1) Q) : V_acted_23 σ n a b (sg_g σ 88 60) Q := by
  have h9 := vT_9 hB ha
  have g9 := vT_9 hB hb
  unfold V_acted_23
  refine ⟨h9.1, g9.1, ⟨by omega, by omega⟩, fun c => ?_, fun _ => aQ_f h (by decide)⟩
  refine ⟨fun m v σ3 => m = (sg_g σ 123 a + sg_g σ 123 b - v).toNat ∧ (0 ≤ v ∧ v ≤ sg_g σ 123 a + sg_g σ 123 b) ∧ nAd σ σ3 k v, fun σ3 => nAd σ σ3 k (sg_g σ 123 a + sg_g σ 123 b), ⟨_, rfl, ⟨by omega, by omega⟩, nAd_0 σ k⟩, ?_, fun σ3 f3 h3 => ⟨hn, m_seqA hB ⟨by omega, c⟩ h3 hT hk (fun q σ' x1 x2 _ _ => h.2 q σ' x1 ?_ ?_)⟩⟩
  · rintro m v σ3 rv f3 ⟨em, hv, hA⟩
    refine ⟨fun z => ?_, fun z => ⟨⟨fun y => ⟨⟨by omega, by omega⟩, (m_it hB (by omega) hA hb (by omega) (by omega)).1, trivial⟩, fun y => ⟨(m_it hB (by omega) hA ha hv.1 y).1, trivial⟩⟩, fun v30 e30 r30 => m_addA hB (by omega) hA r30 ?_ (fun σ' x1 _ x2 _ => ⟨⟨by omega, by omega⟩, _, ?_, rfl, ⟨by omega, by omega⟩, x1⟩)⟩⟩
    · rw [show sg_g σ 123 a + sg_g σ 123 b = v by omega]; exact hA
    · rw [e30]
      by_cases y : sg_g σ 123 a ≤ v
      · rw [if_pos y]; exact (m_it hB (by omega) hA hb (by omega) (by omega)).2
      · rw [if_neg y]; exact (m_it hB (by omega) hA ha hv.1 (by omega)).2
    · omega
  · rw [sg_F_g x2 (by rfl), sg_F_g f3 (by rfl)]
  · exact sg_F_t (sg_F_m f3 rfl) (sg_F_m x2 rfl)
theorem m_pack (hB : nB σ) (hn : 0 ≤ n ∧ n < 210) (hk : k ≤ 2) (hT : sg_g σ 101 n = ((k + 1 : Nat) : Int)) (ha : vT σ (k + 1) a) (hb : vT σ 1 b) (h : aQ σ (k + 1) Q) : V_acted_25 σ n a b (sg_g σ 88 60) Q := by
  have h9 := vT_9 hB ha
  have g9 := vT_9 hB hb
  have b3 := hB.2
  unfold V_acted_25
  refine ⟨h9.1, g9.1, fun c => ?_, fun _ => aQ_f h (by decide)⟩
  refine ⟨fun m v σ3 => m = (sg_g σ 123 a - v).toNat ∧ (0 ≤ v ∧ v ≤ sg_g σ 123 a) ∧ ∃ j, (0 ≤ j ∧ j ≤ v) ∧ nAd σ σ3 k j, fun σ3 => ∃ j, (0 ≤ j ∧ j ≤ 200) ∧ nAd σ σ3 k j, ⟨_, rfl, ⟨by omega, by omega⟩, 0, ⟨by omega, by omega⟩, nAd_0 σ k⟩, ?_, ?_⟩
  · rintro m v σ3 rv f3 ⟨em, hv, j, hj, hA⟩
    refine ⟨fun z => ⟨j, ⟨hj.1, by omega⟩, hA⟩, fun z => ⟨(m_it hB (by omega) hA hb hv.1 (by omega)).1, fun σ33 => ∃ j, (0 ≤ j ∧ j ≤ v + 1) ∧ nAd σ σ33 k j, ⟨fun _ => ⟨j, ⟨hj.1, by omega⟩, hA⟩, fun _ => ?_⟩, fun σ33 f33 h33 => ⟨⟨by omega, by omega⟩, _, ?_, rfl, ⟨by omega, by omega⟩, h33⟩⟩⟩
    · have t := m_it hB (by omega) hA ha hv.1 z
      exact ⟨t.1, m_addA hB (by omega) hA (sg_Rg _ _ _) t.2 (fun σ' x1 _ x2 _ => ⟨j + 1, ⟨by omega, by omega⟩, x1⟩)⟩
    · omega
  · rintro σ3 f3 ⟨j, hj, hA⟩
    have e := hA.2.2.1
    refine ⟨⟨by omega, by omega⟩, hn, ?_⟩
    rw [show sg_g σ3 88 60 - sg_g σ 88 60 = j by omega]
    refine m_seqA hB hj hA hT hk (fun q σ' x1 x2 _ _ => h.2 q σ' x1 ?_ ?_)
    · rw [sg_F_g x2 (by rfl), sg_F_g f3 (by rfl)]
    · exact sg_F_t (sg_F_m f3 rfl) (sg_F_m x2 rfl)
end ACT
/-! flat, perm, part of nested runs. -/
/-- how many items the first i sequences of a hold -/
def sMn (σ : sg_S) (a : Int) : Nat → Int
  | 0 => 0
  | i + 1 => sMn σ a i + sg_g σ 123 (v_itemAt σ a i)
section ACU
variable {σ : sg_S} {n a b : Int} {k : Nat} {Q : Int → sg_S → Prop}
theorem sMn_b (ha : vT σ (k + 2) a) : ∀ i : Nat, (i : Int) ≤ sg_g σ 123 a → 0 ≤ sMn σ a i ∧ sMn σ a i ≤ 200 * i
  | 0, _ => by simp [sMn]
  | i + 1, h => by
    have ih := sMn_b ha i (by omega)
    have t := ha.2.2.2 i (by omega) (by omega)
    have e : v_itemAt σ a i = sg_g σ 125 (sg_g σ 122 a + i) := rfl
    simp only [sMn]
    rw [e]
    have t2 := t.2.1
    omega
theorem sMn_m (ha : vT σ (k + 2) a) : ∀ (j i : Nat), i ≤ j → (j : Int) ≤ sg_g σ 123 a → sMn σ a i ≤ sMn σ a j
  | 0, i, h, _ => by have : i = 0 := by omega
                     subst this; exact Int.le_refl _
  | j + 1, i, h, hj => by
    by_cases e : i = j + 1
    · subst e; exact Int.le_refl _
    · have ih := sMn_m ha j i (by omega) (by omega)
      have t := (ha.2.2.2 j (by omega) (by omega)).2.1
      have e : v_itemAt σ a j = sg_g σ 125 (sg_g σ 122 a + j) := rfl
      simp only [sMn]
      rw [e]
      omega
theorem m_flat (hB : nB σ) (hn : 0 ≤ n ∧ n < 210) (hk : k ≤ 1) (hT : sg_g σ 101 n = ((k + 1 : Nat) : Int)) (ha : vT σ (k + 2) a) (h : aQ σ (k + 1) Q) : V_flattened σ n a Q := by
  have h9 := vT_9 hB ha
  have hs : sg_g σ 88 56 ≤ 9000 := by have := hB.1; omega
  have hi12 : sg_g σ 88 60 ≤ 12000 := by have := hB.2; omega
  unfold V_flattened
  refine ⟨fun m v1 v2 => ∃ i : Nat, v2 = i ∧ m = (sg_g σ 123 a - v2).toNat ∧ (i : Int) ≤ sg_g σ 123 a ∧ v1 = sMn σ a i, fun v1 => v1 = sMn σ a (sg_g σ 123 a).toNat, ⟨_, 0, rfl, rfl, by omega, rfl⟩, ?_, ?_⟩
  · rintro m v1 v2 r1 r2 ⟨i, rfl, em, hi, e1⟩
    have sb := sMn_b ha i hi
    refine ⟨h9.1, fun c => ?_, fun c => ?_⟩
    · rw [e1, show (sg_g σ 123 a).toNat = i by omega]
    · have t := vT_it hs hi12 ha (by omega) c
      have t2 := vT_9 hB t.2
      refine ⟨t.1, t2.1, ⟨by omega, by omega⟩, ⟨by omega, by omega⟩, _, ?_, i + 1, by omega, rfl, by omega, ?_⟩
      · omega
      · rw [e1]; rfl
  · rintro v1 r1 e1
    have cn : ((sg_g σ 123 a).toNat : Int) = sg_g σ 123 a := by omega
    have sb := sMn_b ha (sg_g σ 123 a).toNat (by omega)
    refine ⟨fun c => ?_, fun _ => aQ_f h (by decide)⟩
    refine ⟨fun m v19 σ20 => ∃ i : Nat, v19 = i ∧ m = (sg_g σ 123 a - v19).toNat ∧ (i : Int) ≤ sg_g σ 123 a ∧ nAd σ σ20 k (sMn σ a i), fun σ20 => nAd σ σ20 k v1, ⟨_, 0, rfl, rfl, by omega, nAd_0 σ k⟩, ?_, fun σ3 f3 h3 => ⟨hn, m_seqA hB ⟨by omega, c⟩ h3 hT (by omega) (fun q σ' x1 x2 _ _ => h.2 q σ' x1 ?_ ?_)⟩⟩
    · rintro m v19 σ20 r19 f20 ⟨i, rfl, em, hi, hA⟩
      have si := sMn_b ha i hi
      have sm := sMn_m ha (sg_g σ 123 a).toNat i (by omega) (by omega)
      refine ⟨h9.1, fun z => ?_, fun z => ?_⟩
      · rw [e1, show (sg_g σ 123 a).toNat = i by omega]; exact hA
      · have t := m_it hB (by omega) hA ha (by omega) z
        have t0 := vT_it hs hi12 ha (by omega) z
        have ev : v_itemAt σ20 a i = v_itemAt σ a i := by
          have e := nEx_s hA.1 ha
          unfold v_itemAt
          rw [e.2]
          have a2 := ha.2.1
          exact hA.1.2.2 _ (by omega) (by omega)
        have sm2 := sMn_m ha (sg_g σ 123 a).toNat (i + 1) (by omega) (by omega)
        have es : sMn σ a (i + 1) = sMn σ a i + sg_g σ 123 (v_itemAt σ a i) := rfl
        have t9 := vT_9 hB t0.2
        rw [ev]
        refine ⟨t.1, fun m2 v45 σ46 => m2 = (sg_g σ 123 (v_itemAt σ a i) - v45).toNat ∧ (0 ≤ v45 ∧ v45 ≤ sg_g σ 123 (v_itemAt σ a i)) ∧ nAd σ σ46 k (sMn σ a i + v45), fun σ46 => nAd σ σ46 k (sMn σ a (i + 1)), ⟨_, rfl, ⟨by omega, by omega⟩, by rw [show sMn σ a i + 0 = sMn σ a i by omega]; exact hA⟩, ?_, fun σ46 f46 h46 => ⟨⟨by omega, by omega⟩, _, ?_, i + 1, by omega, rfl, by omega, h46⟩⟩
        · rintro m2 v45 σ46 r45 f46 ⟨em2, hv, hA2⟩
          refine ⟨t9.1, fun y => ?_, fun y => ?_⟩
          · rw [es, show sg_g σ 123 (v_itemAt σ a i) = v45 by omega]; exact hA2
          · have u := m_it hB (by omega) hA2 t0.2 hv.1 y
            refine ⟨u.1, m_addA hB (by omega) hA2 (sg_Rg _ _ _) u.2 (fun σ' x1 _ x2 _ => ⟨⟨by omega, by omega⟩, _, ?_, rfl, ⟨by omega, by omega⟩, ?_⟩)⟩
            · omega
            · rw [show sMn σ a i + (v45 + 1) = sMn σ a i + v45 + 1 by omega]; exact x1
        · omega
    · rw [sg_F_g x2 (by rfl), sg_F_g f3 (by rfl)]
    · exact sg_F_t (sg_F_m f3 rfl) (sg_F_m x2 rfl)
/-- an order of many places: each is taken -/
theorem m_order {fr mn : Int} {Q : Int → sg_S → Prop} (hf : 0 ≤ fr) (hm : 0 ≤ mn ∧ mn ≤ 200) (hfm : fr + mn ≤ 12000) (k0 : ∀ σ', sg_F [135] σ σ' → Q 0 σ') (k1 : ∀ σ', (∀ p, 0 ≤ p → p < mn → 0 ≤ sg_g σ' 135 p ∧ sg_g σ' 135 p < mn) → sg_F [135] σ σ' → Q 1 σ') : V_isOrder σ fr mn 1 Q := by
  unfold V_isOrder
  refine ⟨fun m v σ2 => m = (mn - v).toNat ∧ 0 ≤ v ∧ ∀ p, 0 ≤ p → p < v → sg_g σ2 135 p = -1, fun σ2 => ∀ p, 0 ≤ p → p < mn → sg_g σ2 135 p = -1, ⟨_, rfl, Int.le_refl _, fun p a b => by omega⟩, ?_, ?_⟩
  · rintro m v σ2 rv f2 ⟨em, h0, hp⟩
    refine ⟨fun c p x y => hp p x (by omega), fun c => ⟨⟨h0, by omega⟩, fun σ66 e66 => ⟨⟨by omega, by omega⟩, _, ?_, rfl, by omega, fun p x y => ?_⟩⟩⟩
    · omega
    · by_cases e : p = v
      · rw [e, e66, sg_gw_e _ _ _ _ (by decide)]
      · rw [e66, sg_gw_k _ _ _ _ _ _ e]; exact hp p x (by omega)
  · intro σ2 f2 h2
    refine ⟨fun m is v σ18 => m = (mn - v).toNat ∧ (0 ≤ v ∧ v ≤ mn) ∧ (is = 0 ∨ (is = 1 ∧ ∃ ps : List Int, (ps.length : Int) = v ∧ ps.Nodup ∧ (∀ p ∈ ps, 0 ≤ p ∧ p < mn ∧ 0 ≤ sg_g σ18 135 p ∧ sg_g σ18 135 p < mn) ∧ ∀ p, 0 ≤ p → p < mn → p ∉ ps → sg_g σ18 135 p = -1)), fun is σ18 => is = 0 ∨ (is = 1 ∧ ∀ p, 0 ≤ p → p < mn → 0 ≤ sg_g σ18 135 p ∧ sg_g σ18 135 p < mn), ⟨_, rfl, ⟨by omega, by omega⟩, Or.inr ⟨rfl, [], rfl, List.nodup_nil, by simp, fun p x y _ => h2 p x y⟩⟩, ?_, ?_⟩
    · rintro m is v σ18 ris rv f18 ⟨em, hv, hi⟩
      have fin : mn ≤ v → is = 0 ∨ (is = 1 ∧ ∀ p, 0 ≤ p → p < mn → 0 ≤ sg_g σ18 135 p ∧ sg_g σ18 135 p < mn) := fun c => by
        rcases hi with z | ⟨z, ps, q1, q2, q3, q4⟩
        · exact Or.inl z
        · refine Or.inr ⟨z, fun p x y => ?_⟩
          by_cases e : p ∈ ps
          · exact (q3 p e).2.2
          · exfalso
            have := ndl mn.toNat (p :: ps) (List.nodup_cons.mpr ⟨e, q2⟩) (fun w hw => by
              rcases List.mem_cons.mp hw with u | u
              · rw [u]; omega
              · have := q3 w u; omega)
            simp only [List.length_cons] at this
            omega
      refine ⟨fin, fun c => ⟨fun z => Or.inl z, fun z => ⟨⟨fun w => absurd w (by decide), fun _ => ⟨⟨by omega, by omega⟩, ⟨by omega, by omega⟩, trivial⟩⟩, fun v37 e37 r37 => ⟨⟨by omega, by omega⟩, ⟨fun _ => trivial, fun w => ?_⟩, fun v43 e43 r43 => ?_⟩⟩⟩⟩
      · have w2 : 0 ≤ v37 ∧ v37 ≤ mn - 1 := Decidable.byContradiction (fun u => w (v_in_n.mpr u))
        exact ⟨⟨w2.1, by omega⟩, fun _ => trivial, fun _ => trivial⟩
      · rcases hi with y | ⟨y, ps, q1, q2, q3, q4⟩
        · exact absurd y z
        by_cases w : v_in v37 0 (mn - 1) = 0
        · rw [if_pos w] at e43
          refine ⟨fun _ => True, ⟨fun _ => trivial, fun u => absurd e43 u⟩, fun σ49 f49 _ => ⟨⟨by omega, by omega⟩, _, ?_, rfl, ⟨by omega, by omega⟩, Or.inl e43⟩⟩
          omega
        · have w2 : 0 ≤ v37 ∧ v37 ≤ mn - 1 := Decidable.byContradiction (fun u => w (v_in_n.mpr u))
          rw [if_neg w] at e43
          by_cases u : sg_g σ18 135 v37 = -1
          · rw [if_neg (fun t => t u)] at e43
            have np : v37 ∉ ps := fun t => by have := q3 v37 t; omega
            refine ⟨fun σ49 => ∃ ps : List Int, (ps.length : Int) = v + 1 ∧ ps.Nodup ∧ (∀ p ∈ ps, 0 ≤ p ∧ p < mn ∧ 0 ≤ sg_g σ49 135 p ∧ sg_g σ49 135 p < mn) ∧ ∀ p, 0 ≤ p → p < mn → p ∉ ps → sg_g σ49 135 p = -1, ⟨fun t => absurd t (by omega), fun _ => ⟨⟨w2.1, by omega⟩, fun σ55 e55 => ⟨v37 :: ps, by simp only [List.length_cons]; omega, List.nodup_cons.mpr ⟨np, q2⟩, fun p hp => ?_, fun p x1 x2 x3 => ?_⟩⟩⟩, fun σ49 f49 h49 => ⟨⟨by omega, by omega⟩, _, ?_, rfl, ⟨by omega, by omega⟩, Or.inr ⟨e43, h49⟩⟩⟩
            · rcases List.mem_cons.mp hp with t | t
              · rw [t, e55, sg_gw_e _ _ _ _ rv]; omega
              · rw [e55, sg_gw_k _ _ _ _ _ _ (fun s => np (by rw [← s]; exact t))]; exact q3 p t
            · rw [e55, sg_gw_k _ _ _ _ _ _ (fun s => x3 (by simp [s]))]
              exact q4 p x1 x2 (fun t => x3 (by simp [t]))
            · omega
          · rw [if_pos u] at e43
            refine ⟨fun _ => True, ⟨fun _ => trivial, fun t => absurd e43 t⟩, fun σ49 f49 _ => ⟨⟨by omega, by omega⟩, _, ?_, rfl, ⟨by omega, by omega⟩, Or.inl e43⟩⟩
            omega
    · rintro is σ18 ris f18 (z | ⟨z, hz⟩)
      · rw [z]; exact ⟨Or.inl rfl, k0 σ18 (sg_F_t f2 f18)⟩
      · rw [z]; exact ⟨Or.inr rfl, k1 σ18 hz (sg_F_t f2 f18)⟩
theorem m_perm (hB : nB σ) (hn : 0 ≤ n ∧ n < 210) (hk : k ≤ 2) (hT : sg_g σ 101 n = ((k + 1 : Nat) : Int)) (ha : vT σ (k + 1) a) (hb : vT σ 1 b) (h : aQ σ (k + 1) Q) : V_permuted σ n a b Q := by
  have h9 := vT_9 hB ha
  have g9 := vT_9 hB hb
  have hb2 := hb.2.1
  have hB2 := hB.2
  unfold V_permuted
  refine ⟨h9.1, g9.1, fun c => m_order hb2.1 g9.2 (by omega) (fun σ5 f5 _ _ => ⟨fun z => absurd rfl z, fun _ => m_ends (by decide) (fun σ' x1 x2 _ => h.1 0 σ' x1 (nEx_t (nEx_F f5 rfl) (nEx_F x2 rfl)) (sg_F_t (sg_F_m f5 rfl) (sg_F_m x2 rfl)))⟩) (fun σ5 hp f5 _ _ => ⟨fun _ => ?_, fun z => absurd z (by decide)⟩), fun _ => aQ_f h (by decide)⟩
  have n5 : nAd σ σ5 k 0 := ⟨nEx_F f5 rfl, sg_F_g f5 rfl, by rw [sg_F_g f5 (by rfl)]; omega, fun i a b => by omega⟩
  refine ⟨fun m v σ3 => m = (sg_g σ 123 a - v).toNat ∧ (0 ≤ v ∧ v ≤ sg_g σ 123 a) ∧ nAd σ σ3 k v, fun σ3 => nAd σ σ3 k (sg_g σ 123 a), ⟨_, rfl, ⟨by omega, by omega⟩, n5⟩, ?_, fun σ3 f3 h3 => ⟨hn, m_seqA hB h9.2 h3 hT hk (fun q σ' x1 x2 _ _ => h.2 q σ' x1 ?_ ?_)⟩⟩
  · rintro m v σ3 rv f3 ⟨em, hv, hA⟩
    refine ⟨fun z => ?_, fun z => ?_⟩
    · rw [show sg_g σ 123 a = v by omega]; exact hA
    · have hpv := hp v hv.1 (by omega)
      have t := m_it hB (by omega) hA ha hpv.1 (by omega)
      refine ⟨⟨hv.1, by omega⟩, t.1, m_addA hB (by omega) hA (sg_Rg _ _ _) t.2 (fun σ' x1 _ x2 _ => ⟨⟨by omega, by omega⟩, _, ?_, rfl, ⟨by omega, by omega⟩, x1⟩)⟩
      omega
  · rw [sg_F_g x2 (by rfl), sg_F_g f3 (by rfl), sg_F_g f5 (by rfl)]
  · exact sg_F_t (sg_F_t (sg_F_m f5 rfl) (sg_F_m f3 rfl)) (sg_F_m x2 rfl)
end ACU
/-! part, and all ACTS of nested runs. -/
/-- the first i numbers of b together -/
def sIt (σ : sg_S) (b : Int) : Nat → Int
  | 0 => 0
  | i + 1 => sIt σ b i + v_itemAt σ b i
section ACV
variable {σ : sg_S} {n a b : Int} {k : Nat} {Q : Int → sg_S → Prop}
theorem sIt_m : ∀ (j i : Nat), i ≤ j → (∀ l : Nat, l < j → 0 ≤ v_itemAt σ b l) → sIt σ b i ≤ sIt σ b j
  | 0, i, h, _ => by have : i = 0 := by omega
                     subst this; exact Int.le_refl _
  | j + 1, i, h, hl => by
    by_cases e : i = j + 1
    · subst e; exact Int.le_refl _
    · have ih := sIt_m j i (by omega) (fun l x => hl l (by omega))
      have := hl j (by omega)
      simp only [sIt]
      omega
theorem sIt_0 (j : Nat) (hl : ∀ l : Nat, l < j → 0 ≤ v_itemAt σ b l) : 0 ≤ sIt σ b j := sIt_m j 0 (by omega) hl
theorem m_part (hB : (0 ≤ sg_g σ 88 56 ∧ sg_g σ 88 56 ≤ 3000) ∧ 0 ≤ sg_g σ 88 60 ∧ sg_g σ 88 60 ≤ 3000) (hn : 0 ≤ n ∧ n < 210) (hk : k ≤ 1) (hT : sg_g σ 101 n = ((k + 2 : Nat) : Int)) (ha : vT σ (k + 1) a) (hb : vT σ 1 b) (h : aQ σ (k + 2) Q) : V_parted σ n a b Q := by
  have hB' : nB σ := by unfold nB; omega
  have h9 := vT_9 hB' ha
  have g9 := vT_9 hB' hb
  have ha2 := ha.2.1
  have hb2 := hb.2.1
  have hs : sg_g σ 88 56 ≤ 9000 := by omega
  have hi12 : sg_g σ 88 60 ≤ 12000 := by omega
  have fault : ∀ σ3 e q, sg_F [74088] σ σ3 → (sg_R e ∧ ¬ e = 0) → V_ends σ3 e (fun σ' => sg_F [74088] σ3 σ' → Q q σ') := fun σ3 e q f3 he => m_ends he (fun σ' x1 x2 _ => h.1 q σ' x1 (nEx_t (nEx_F f3 rfl) (nEx_F x2 rfl)) (sg_F_t (sg_F_m f3 rfl) (sg_F_m x2 rfl)))
  unfold V_parted
  refine ⟨fun m v1 v2 σ3 => ∃ i : Nat, v2 = i ∧ m = (sg_g σ 123 b - v2).toNat ∧ (i : Int) ≤ sg_g σ 123 b ∧ v1 = sIt σ b i ∧ (∀ l : Nat, l < i → 0 ≤ v_itemAt σ b l) ∧ v1 ≤ i * 2147483647 ∧ σ3 = σ, fun v1 σ3 => v1 = sIt σ b (sg_g σ 123 b).toNat ∧ (∀ l : Nat, (l : Int) < sg_g σ 123 b → 0 ≤ v_itemAt σ b l) ∧ σ3 = σ, ⟨_, 0, rfl, rfl, by omega, rfl, fun l x => by omega, by omega, rfl⟩, ?_, ?_⟩
  · rintro m v1 v2 σ3 r1 r2 f3 ⟨i, rfl, em, hi, e1, hl, hv, rfl⟩
    refine ⟨g9.1, fun c => ?_, fun c => ?_⟩
    · refine ⟨by rw [e1, show (sg_g σ3 123 b).toNat = i by omega], fun l x => hl l (by omega), rfl⟩
    · have t := vT_it hs hi12 hb (by omega) c
      have rr : sg_R (v_itemAt σ3 b i) := sg_Rg _ _ _
      have s0 := sIt_0 (σ := σ3) (b := b) i hl
      refine ⟨t.1, fun z => ⟨t.1, ⟨by omega, by omega⟩, ⟨by omega, by omega⟩, _, ?_, i + 1, by omega, rfl, by omega, by rw [e1]; rfl, fun l x => ?_, ?_, rfl⟩, fun z => fault σ3 5 0 f3 (by decide)⟩
      · omega
      · by_cases e : l = i
        · subst e; exact z
        · exact hl l (by omega)
      · have : ((i + 1 : Nat) : Int) * 2147483647 = (i : Int) * 2147483647 + 2147483647 := by omega
        omega
  · rintro v1 σ3 r1 f3 ⟨e1, hl, rfl⟩
    refine ⟨h9.1, fun c => ?_, fun _ => fault σ3 3 0 f3 (by decide)⟩
    have cn : ((sg_g σ3 123 b).toNat : Int) = sg_g σ3 123 b := by omega
    rw [c] at e1
    have itb : ∀ σ22, nEx σ3 σ22 → ∀ i : Nat, (i : Int) < sg_g σ3 123 b → v_itemAt σ22 b i = v_itemAt σ3 b i := fun σ22 x i y => by
      have e := nEx_s (k := 0) x hb
      unfold v_itemAt
      rw [e.2]
      exact x.2.2 _ (by omega) (by omega)
    refine ⟨fun m v20 v21 σ22 => ∃ i : Nat, v21 = i ∧ m = (sg_g σ3 123 b - v21).toNat ∧ (i : Int) ≤ sg_g σ3 123 b ∧ v20 = sg_g σ3 122 a + sIt σ3 b i ∧ nEx σ3 σ22 ∧ sg_g σ22 88 56 = sg_g σ3 88 56 + i ∧ sg_g σ22 88 60 = sg_g σ3 88 60 ∧ ∀ l, 0 ≤ l → l < (i : Int) → vT σ22 (k + 1) (sg_g σ3 88 56 + l), fun σ22 => nEx σ3 σ22 ∧ sg_g σ22 88 56 = sg_g σ3 88 56 + sg_g σ3 123 b ∧ sg_g σ22 88 60 = sg_g σ3 88 60 ∧ ∀ l, 0 ≤ l → l < sg_g σ3 123 b → vT σ22 (k + 1) (sg_g σ3 88 56 + l), ⟨_, 0, rfl, rfl, by omega, by simp [sIt], nEx_r _, by omega, rfl, fun l x y => by omega⟩, ?_, ?_⟩
    · rintro m v20 v21 σ22 r20 r21 f22 ⟨i, rfl, em, hi, e20, x1, x2, x3, x4⟩
      have eb := nEx_s (k := 0) x1 hb
      have ea := nEx_s x1 ha
      refine ⟨g9.1, fun z => ?_, fun z => ?_⟩
      · rw [eb.1] at z
        have : (i : Int) = sg_g σ3 123 b := by omega
        rw [this] at x2 x4
        exact ⟨x1, x2, x3, x4⟩
      · rw [eb.1] at z
        have ev := itb σ22 x1 i z
        have v0 := hl i z
        have m1 := sIt_m (σ := σ3) (b := b) (sg_g σ3 123 b).toNat (i + 1) (by omega) (fun l y => hl l (by omega))
        have s0 := sIt_0 (σ := σ3) (b := b) i (fun l y => hl l (by omega))
        have es : sIt σ3 b (i + 1) = sIt σ3 b i + v_itemAt σ3 b i := rfl
        have pt := vT_it (by omega) (by omega) (vT_up x1 hb) (i := (i : Int)) (by omega) (by rw [eb.1]; exact z)
        rw [ev]
        refine ⟨pt.1, hn, ⟨by omega, by omega⟩, m_seq (k := k) (by omega) (by omega) (by omega) ⟨v0, by omega⟩ (by omega) (by omega) (by omega) (fun l y1 y2 => ?_) (fun σ' y1 y2 y3 y4 y5 y6 y7 y8 _ _ => ?_)⟩
        · have t := ha.2.2.2 (sIt σ3 b i + l) (by omega) (by omega)
          rw [e20, show sg_g σ3 122 a + sIt σ3 b i + l = sg_g σ3 122 a + (sIt σ3 b i + l) by omega, x1.2.2 _ (by omega) (by omega)]
          exact vT_up x1 t
        · have x1' := nEx_t x1 y1
          have ev' := itb σ' x1' i z
          have eb' := nEx_s (k := 0) x1' hb
          have pt' := vT_it (by omega) (by omega) (vT_up x1' hb) (i := (i : Int)) (by omega) (by rw [eb'.1]; exact z)
          rw [ev']
          refine ⟨pt'.1, ⟨by omega, by omega⟩, ⟨by omega, by omega⟩, _, ?_, i + 1, by omega, rfl, by omega, by rw [es]; omega, x1', by omega, by omega, fun l w1 w2 => ?_⟩
          · omega
          · by_cases e : l = i
            · rw [e, ← x2]; exact y4
            · exact vT_up y1 (x4 l w1 (by omega))
    · rintro σ22 f22 ⟨x1, x2, x3, x4⟩
      have eb := nEx_s (k := 0) x1 hb
      have hB22 : nB σ22 := by unfold nB; omega
      refine ⟨fun m v37 σ38 => m = (sg_g σ3 123 b - v37).toNat ∧ (0 ≤ v37 ∧ v37 ≤ sg_g σ3 123 b) ∧ nAd σ22 σ38 (k + 1) v37, fun σ38 => nAd σ22 σ38 (k + 1) (sg_g σ3 123 b), ⟨_, rfl, ⟨by omega, by omega⟩, nAd_0 σ22 (k + 1)⟩, ?_, ?_⟩
      · rintro m v37 σ38 r37 f38 ⟨em, hv, hA⟩
        rw [eb.1]
        refine ⟨g9.1, fun z => ?_, fun z => ⟨⟨by omega, by omega⟩, m_addA hB22 (by omega) hA ⟨by omega, by omega⟩ (vT_up hA.1 (x4 v37 hv.1 z)) (fun σ' y1 _ y2 _ => ⟨⟨by omega, by omega⟩, _, ?_, rfl, ⟨by omega, by omega⟩, y1⟩)⟩⟩
        · rw [show sg_g σ3 123 b = v37 by omega]; exact hA
        · omega
      · intro σ38 f38 h38
        rw [eb.1, ← x3]
        refine ⟨g9.1, hn, m_seqE hB22 g9.2 h38 hT (by omega) (fun q σ' y1 y2 y3 y4 y5 y6 _ _ => h.2 q σ' ⟨nEx_t x1 y1, y2, fun _ => ⟨by omega, by omega⟩, fun z => by omega⟩ ?_ ?_)⟩
        · rw [sg_F_g y6 (by rfl), sg_F_g f38 (by rfl), sg_F_g f22 (by rfl)]
        · exact sg_F_t (sg_F_t (sg_F_m f22 rfl) (sg_F_m f38 rfl)) (sg_F_m y6 rfl)
end ACV
/-! all ACTS of nested runs; operated; leave, begin. -/
section ACW
variable {σ : sg_S} {n a b : Int} {Q : Int → sg_S → Prop}
theorem m_acted {ts : List Int} (hB : (0 ≤ sg_g σ 88 56 ∧ sg_g σ 88 56 ≤ 3000) ∧ 0 ≤ sg_g σ 88 60 ∧ sg_g σ 88 60 ≤ 3000) (hn : 0 ≤ n ∧ n < 210) (hK : 16 ≤ sg_g σ 93 n ∧ sg_g σ 93 n ≤ 27) (hra : sg_R a) (hts : ∀ x ∈ ts, kIn x) (hk : kAct (sg_g σ 93 n) ts = some (sg_g σ 101 n)) (ha : vT σ (ts.getD 0 0).toNat a) (hb : vT σ (ts.getD 1 0).toNat b) (h : aQ σ (sg_g σ 101 n).toNat Q) : V_acted σ n a b Q := by
  have hB' : nB σ := by unfold nB; omega
  have hg : ∀ j, 0 ≤ ts.getD j 0 ∧ ts.getD j 0 ≤ 3 := fun j => by
    rw [List.getD_eq_getElem?_getD]
    cases e : ts[j]? with
    | none => simp
    | some y => exact hts y (List.mem_of_getElem? e)
  have g0 := hg 0
  have g1 := hg 1
  generalize ta : ts.getD 0 0 = A0 at *
  generalize tb : ts.getD 1 0 = B0 at *
  have hk' := hk
  simp only [kAct, ta, tb] at hk'
  have cs : sg_g σ 93 n = 16 ∨ sg_g σ 93 n = 17 ∨ sg_g σ 93 n = 18 ∨ sg_g σ 93 n = 19 ∨ sg_g σ 93 n = 20 ∨ sg_g σ 93 n = 21 ∨ sg_g σ 93 n = 22 ∨ sg_g σ 93 n = 23 ∨ sg_g σ 93 n = 24 ∨ sg_g σ 93 n = 25 ∨ sg_g σ 93 n = 26 ∨ sg_g σ 93 n = 27 := by omega
  unfold V_acted
  rcases cs with c | c | c | c | c | c | c | c | c | c | c | c
  · simp only [c] at hk'
    obtain ⟨e1, e2, e3⟩ := kIs_in hk'
    rw [e1] at h
    refine ⟨hn, fun _ => m_iota hB' h, fun z => absurd c z⟩
  · simp only [c] at hk'
    obtain ⟨e1, e2, e3⟩ := kIs_in hk'
    refine ⟨hn, fun z => absurd z (by omega), fun _ => ⟨fun _ => m_dist (k := A0.toNat) hB' hn hra (by omega) (by omega) ha (by rw [e1, show (A0 + 1).toNat = A0.toNat + 1 by omega] at h; exact h), fun z => absurd c z⟩⟩
  · simp only [c] at hk'
    obtain ⟨e1, e2, e3⟩ := kIs_in hk'
    simp only [Bool.and_eq_true, decide_eq_true_eq] at e3
    rw [e1] at h
    rw [e3.2] at ha
    exact ⟨hn, fun z => absurd z (by omega), fun _ => ⟨fun z => absurd z (by omega), fun _ => ⟨fun _ => m_sum hB' ha h, fun z => absurd c z⟩⟩⟩
  · simp only [c] at hk'
    obtain ⟨e1, e2, e3⟩ := kIs_in hk'
    simp only [Bool.and_eq_true, decide_eq_true_eq] at e3
    rw [e1] at h
    rw [e3.2] at ha
    exact ⟨hn, fun z => absurd z (by omega), fun _ => ⟨fun z => absurd z (by omega), fun _ => ⟨fun z => absurd z (by omega), fun _ => ⟨fun _ => m_max hB' hn ha h, fun z => absurd c z⟩⟩⟩⟩
  · simp only [c] at hk'
    obtain ⟨e1, e2, e3⟩ := kIs_in hk'
    simp only [Bool.and_eq_true, decide_eq_true_eq] at e3
    rw [e1] at h
    rw [e3.2] at ha
    exact ⟨hn, fun z => absurd z (by omega), fun _ => ⟨fun z => absurd z (by omega), fun _ => ⟨fun z => absurd z (by omega), fun _ => ⟨fun z => absurd z (by omega), fun _ => ⟨fun _ => m_max hB' hn ha h, fun z => absurd c z⟩⟩⟩⟩⟩
  · simp only [c] at hk'
    obtain ⟨e1, e2, e3⟩ := kIs_in hk'
    simp only [Bool.and_eq_true, decide_eq_true_eq] at e3
    rw [e1] at h
    rw [e3.2] at ha
    exact ⟨hn, fun z => absurd z (by omega), fun _ => ⟨fun z => absurd z (by omega), fun _ => ⟨fun z => absurd z (by omega), fun _ => ⟨fun z => absurd z (by omega), fun _ => ⟨fun z => absurd z (by omega), fun _ => ⟨fun _ => m_scan hB' ha h, fun z => absurd c z⟩⟩⟩⟩⟩⟩
  · simp only [c] at hk'
    obtain ⟨e1, e2, e3⟩ := kIs_in hk'
    simp only [Bool.and_eq_true, decide_eq_true_eq] at e3
    obtain ⟨k, hk2⟩ : ∃ k : Nat, A0.toNat = k + 1 := ⟨A0.toNat - 1, by omega⟩
    rw [hk2] at ha
    rw [e1, hk2] at h
    exact ⟨hn, fun z => absurd z (by omega), fun _ => ⟨fun z => absurd z (by omega), fun _ => ⟨fun z => absurd z (by omega), fun _ => ⟨fun z => absurd z (by omega), fun _ => ⟨fun z => absurd z (by omega), fun _ => ⟨fun z => absurd z (by omega), fun _ => ⟨fun _ => m_rev hB' hn (by omega) (by omega) ha h, fun z => absurd c z⟩⟩⟩⟩⟩⟩⟩
  · simp only [c] at hk'
    obtain ⟨e1, e2, e3⟩ := kIs_in hk'
    simp only [Bool.and_eq_true, decide_eq_true_eq] at e3
    obtain ⟨k, hk2⟩ : ∃ k : Nat, A0.toNat = k + 1 := ⟨A0.toNat - 1, by omega⟩
    rw [hk2] at ha
    rw [← e3.2, hk2] at hb
    rw [e1, hk2] at h
    exact ⟨hn, fun z => absurd z (by omega), fun _ => ⟨fun z => absurd z (by omega), fun _ => ⟨fun z => absurd z (by omega), fun _ => ⟨fun z => absurd z (by omega), fun _ => ⟨fun z => absurd z (by omega), fun _ => ⟨fun z => absurd z (by omega), fun _ => ⟨fun z => absurd z (by omega), fun _ => ⟨fun _ => m_cat hB' hn (by omega) (by omega) ha hb h, fun z => absurd c z⟩⟩⟩⟩⟩⟩⟩⟩
  · simp only [c] at hk'
    obtain ⟨e1, e2, e3⟩ := kIs_in hk'
    simp only [Bool.and_eq_true, decide_eq_true_eq] at e3
    obtain ⟨k, hk2⟩ : ∃ k : Nat, A0.toNat = k + 2 := ⟨A0.toNat - 2, by omega⟩
    rw [hk2] at ha
    rw [e1, show (A0 - 1).toNat = k + 1 by omega] at h
    unfold V_acted_24
    exact ⟨hn, fun z => absurd z (by omega), fun _ => ⟨fun z => absurd z (by omega), fun _ => ⟨fun z => absurd z (by omega), fun _ => ⟨fun z => absurd z (by omega), fun _ => ⟨fun z => absurd z (by omega), fun _ => ⟨fun z => absurd z (by omega), fun _ => ⟨fun z => absurd z (by omega), fun _ => ⟨fun z => absurd z (by omega), fun _ => ⟨fun _ => m_flat hB' hn (by omega) (by omega) ha ⟨fun q σ' x1 x2 x3 _ _ => h.1 q σ' x1 x2 x3, fun q σ' x1 x2 x3 _ _ => h.2 q σ' x1 x2 x3⟩, fun z => absurd c z⟩⟩⟩⟩⟩⟩⟩⟩⟩
  · simp only [c] at hk'
    obtain ⟨e1, e2, e3⟩ := kIs_in hk'
    simp only [Bool.and_eq_true, decide_eq_true_eq] at e3
    obtain ⟨k, hk2⟩ : ∃ k : Nat, A0.toNat = k + 1 := ⟨A0.toNat - 1, by omega⟩
    rw [hk2] at ha
    rw [e3.2] at hb
    rw [e1, hk2] at h
    exact ⟨hn, fun z => absurd z (by omega), fun _ => ⟨fun z => absurd z (by omega), fun _ => ⟨fun z => absurd z (by omega), fun _ => ⟨fun z => absurd z (by omega), fun _ => ⟨fun z => absurd z (by omega), fun _ => ⟨fun z => absurd z (by omega), fun _ => ⟨fun z => absurd z (by omega), fun _ => ⟨fun z => absurd z (by omega), fun _ => ⟨fun z => absurd z (by omega), fun _ => ⟨fun _ => m_pack hB' hn (by omega) (by omega) ha hb h, fun z => absurd c z⟩⟩⟩⟩⟩⟩⟩⟩⟩⟩
  · simp only [c] at hk'
    obtain ⟨e1, e2, e3⟩ := kIs_in hk'
    simp only [Bool.and_eq_true, decide_eq_true_eq] at e3
    obtain ⟨k, hk2⟩ : ∃ k : Nat, A0.toNat = k + 1 := ⟨A0.toNat - 1, by omega⟩
    rw [hk2] at ha
    rw [e3.2] at hb
    rw [e1, hk2] at h
    unfold V_acted_26
    exact ⟨hn, fun z => absurd z (by omega), fun _ => ⟨fun z => absurd z (by omega), fun _ => ⟨fun z => absurd z (by omega), fun _ => ⟨fun z => absurd z (by omega), fun _ => ⟨fun z => absurd z (by omega), fun _ => ⟨fun z => absurd z (by omega), fun _ => ⟨fun z => absurd z (by omega), fun _ => ⟨fun z => absurd z (by omega), fun _ => ⟨fun z => absurd z (by omega), fun _ => ⟨fun z => absurd z (by omega), fun _ => ⟨fun _ => m_perm hB' hn (by omega) (by omega) ha hb ⟨fun q σ' x1 x2 x3 _ _ => h.1 q σ' x1 x2 x3, fun q σ' x1 x2 x3 _ _ => h.2 q σ' x1 x2 x3⟩, fun z => absurd c z⟩⟩⟩⟩⟩⟩⟩⟩⟩⟩⟩
  · simp only [c] at hk'
    obtain ⟨e1, e2, e3⟩ := kIs_in hk'
    simp only [Bool.and_eq_true, decide_eq_true_eq] at e3
    obtain ⟨k, hk2⟩ : ∃ k : Nat, A0.toNat = k + 1 := ⟨A0.toNat - 1, by omega⟩
    rw [hk2] at ha
    rw [e3.2] at hb
    rw [e1, show (A0 + 1).toNat = k + 2 by omega] at h
    unfold V_acted_d
    exact ⟨hn, fun z => absurd z (by omega), fun _ => ⟨fun z => absurd z (by omega), fun _ => ⟨fun z => absurd z (by omega), fun _ => ⟨fun z => absurd z (by omega), fun _ => ⟨fun z => absurd z (by omega), fun _ => ⟨fun z => absurd z (by omega), fun _ => ⟨fun z => absurd z (by omega), fun _ => ⟨fun z => absurd z (by omega), fun _ => ⟨fun z => absurd z (by omega), fun _ => ⟨fun z => absurd z (by omega), fun _ => ⟨fun z => absurd z (by omega), fun _ => m_part hB hn (by omega) (by omega) ha hb ⟨fun q σ' x1 x2 x3 _ _ => h.1 q σ' x1 x2 x3, fun q σ' x1 x2 x3 _ _ => h.2 q σ' x1 x2 x3⟩⟩⟩⟩⟩⟩⟩⟩⟩⟩⟩⟩
end ACW
/-! THE PILE of a nested run of the reference: frames with values of their types. -/
/-- a value of type k whose count was told -/
def vU (σ : sg_S) (k : Nat) (v : Int) : Prop := vT σ k v ∧ (1 ≤ k → sg_gl σ 124 v ≤ 3000)
theorem vU_up {σ σ' : sg_S} (h : nEx σ σ') {k : Nat} {v : Int} (a : vU σ k v) : vU σ' k v := by
  refine ⟨vT_up h a.1, fun z => ?_⟩
  cases k with
  | zero => omega
  | succ k =>
    rw [(h.2.1 v a.1.1.1 a.1.1.2).2.2]
    exact a.2 z
theorem sC_0 {σ : sg_S} {p : Int} : ∀ {i : Nat}, (∀ l : Nat, l < i → 0 ≤ sg_gl σ 124 (sg_g σ 125 (p + l))) → 0 ≤ sC σ p i ∧ ∀ l : Nat, l < i → sg_gl σ 124 (sg_g σ 125 (p + l)) ≤ sC σ p i
  | 0, _ => ⟨Int.le_refl _, fun l h => by omega⟩
  | i + 1, h => by
    obtain ⟨a, b⟩ := sC_0 (i := i) (fun l x => h l (by omega))
    have c := h i (by omega)
    simp only [sC]
    refine ⟨by omega, fun l x => ?_⟩
    by_cases e : l = i
    · subst e; omega
    · have := b l (by omega)
      omega
theorem vT_c0 {σ : sg_S} {k : Nat} {v : Int} (h : vT σ (k + 1) v) : 0 ≤ sg_gl σ 124 v := by
  have := h.2.2.1
  have := h.2.1
  omega
/-- an item counts no more than its sequence -/
theorem vU_it {σ : sg_S} {k : Nat} {v i : Int} (h : vU σ (k + 1) v) (i0 : 0 ≤ i) (i1 : i < sg_g σ 123 v) : vU σ k (v_itemAt σ v i) := by
  refine ⟨h.1.2.2.2 i i0 i1, fun z => ?_⟩
  obtain ⟨k, rfl⟩ : ∃ k', k = k' + 1 := ⟨k - 1, by omega⟩
  obtain ⟨a1, a2, a3, a4⟩ := h.1
  have s := sC_0 (σ := σ) (p := sg_g σ 122 v) (i := (sg_g σ 123 v).toNat) (fun l x => vT_c0 (a4 l (by omega) (by omega)))
  have s1 := s.2 i.toNat (by omega)
  have s2 := h.2 (by omega)
  have s3 := a3.2.2
  simp only [sK] at s3
  rw [show ((i.toNat : Nat) : Int) = i by omega] at s1
  unfold v_itemAt
  omega
section NST
variable (A : aT) (D : List aDf) (T B : Int → Int) (r : Int)
/-- the type of what binder b binds -/
def bTy (b : Int) : Int := if b < 210 then T ((A.2.2.2.2.1 b).getD 0 0) else if b < 1100 then T ((A.2.2.2.2.1 ((b - 210) / 4)).getD (1 + ((b - 210) % 4).toNat) 0) - 1 else ((D.getD ((b - 1100) / 6).toNat (0, 0, [], 0)).2.2.1.map (·.2.2)).getD ((b - 1100) % 6).toNat 0
def scO (σ : sg_S) (sc : List (Int × Int)) : Prop := ∀ p ∈ sc, (0 ≤ p.1 ∧ p.1 < 1200) ∧ p.2 = bTy A D T p.1 ∧ vU σ p.2.toNat (sg_g σ 134 p.1)
/-- node n, under binders that are bound -/
def fO (σ : sg_S) (n : Int) : Prop := ∃ (j f : Nat) (sc : List (Int × Int)), tyN A (kDl (D.take j) []) T B f sc n ∧ scO A D T σ sc
/-- all GENS are as long as the first, p places of it are done -/
def eM (σ : sg_S) (b p : Int) (g : Nat) : Prop := 1 ≤ g ∧ (0 ≤ p ∧ p ≤ sg_g σ 123 (sg_g σ 133 b)) ∧ ∀ j : Nat, j < g → (0 ≤ sg_g σ 133 (b + j) ∧ sg_g σ 133 (b + j) < sg_g σ 88 56) ∧ sg_g σ 123 (sg_g σ 133 (b + j)) = sg_g σ 123 (sg_g σ 133 b)
/-- node n at stage s has values of types ty from b on -/
def fS (σ : sg_S) (n s p b : Int) (ty : List Int) : Prop :=
  if A.2.1 n = 2 then ∃ a c, A.2.2.2.2.1 n = [a, c] ∧ ((s = 0 ∧ ty = []) ∨ (s = 1 ∧ ty = [T a]) ∨ (s = 2 ∧ ty = [T c]))
  else if A.2.1 n = 3 then ∃ a c d, A.2.2.2.2.1 n = [a, c, d] ∧ ((s = 0 ∧ ty = []) ∨ (s = 1 ∧ ty = [T a]) ∨ (s = 2 ∧ ty = [T n]))
  else if A.2.1 n = 15 then ∃ bd tl, A.2.2.2.2.1 n = bd :: tl ∧ ((∃ i : Nat, i ≤ (A.2.2.2.2.2 n).length ∧ s = i ∧ p = 0 ∧ ty = (tl.take i).map T) ∨ (eM σ b p (A.2.2.2.2.2 n).length ∧ ∃ i : Nat, (i : Int) ≤ p ∧ ((s = (A.2.2.2.2.2 n).length + 1 ∧ ty = (tl.take (A.2.2.2.2.2 n).length).map T ++ List.replicate i (T bd)) ∨ ((p < sg_g σ 123 (sg_g σ 133 b) ∧ ∀ i : Nat, i < (A.2.2.2.2.2 n).length → vU σ (bTy A D T (210 + 4 * n + i)).toNat (sg_g σ 134 (210 + 4 * n + i))) ∧ s = (A.2.2.2.2.2 n).length + 2 ∧ ty = (tl.take (A.2.2.2.2.2 n).length).map T ++ List.replicate i (T bd) ++ [0]) ∨ (p < sg_g σ 123 (sg_g σ 133 b) ∧ s = (A.2.2.2.2.2 n).length + 3 ∧ ty = (tl.take (A.2.2.2.2.2 n).length).map T ++ List.replicate (i + 1) (T bd)))))
  else (∃ i : Nat, i ≤ (A.2.2.2.2.1 n).length ∧ s = i ∧ ty = ((A.2.2.2.2.1 n).take i).map T) ∨ (A.2.1 n = 13 ∧ s = (A.2.2.2.2.1 n).length + 1 ∧ ty = [T n])
/-- values of types ty stand from b on -/
def vS (σ : sg_S) (b : Int) (ty : List Int) : Prop := ∀ (i : Nat) (x : Int), ty[i]? = some x → vU σ x.toNat (sg_g σ 133 (b + i))
/-- frames below: m of them, the value of type ty above them comes to place tp -/
def nStk (σ : sg_S) : Nat → Int → Int → Prop
  | 0, tp, ty => tp = 0 ∧ ty = T r
  | m + 1, tp, ty => ∃ tys : List Int, 0 ≤ sg_g σ 128 m ∧ tp = sg_g σ 128 m + tys.length ∧ vS σ (sg_g σ 128 m) tys ∧ fO A D T B σ (sg_g σ 126 m) ∧ fS A D T σ (sg_g σ 126 m) (sg_g σ 127 m) (sg_g σ 130 m) (sg_g σ 128 m) (tys ++ [ty]) ∧ (A.2.1 (sg_g σ 126 m) = 15 → ¬ sg_g σ 127 m = (A.2.2.2.2.2 (sg_g σ 126 m)).length + 1) ∧ nStk σ m (sg_g σ 128 m) (T (sg_g σ 126 m))
def nTop (σ : sg_S) (m : Nat) (ty : List Int) : Prop := sg_g σ 88 62 = m + 1 ∧ 0 ≤ sg_g σ 128 m ∧ sg_g σ 88 70 = sg_g σ 128 m + ty.length ∧ vS σ (sg_g σ 128 m) ty ∧ fO A D T B σ (sg_g σ 126 m) ∧ fS A D T σ (sg_g σ 126 m) (sg_g σ 127 m) (sg_g σ 130 m) (sg_g σ 128 m) ty ∧ nStk A D T B r σ m (sg_g σ 128 m) (T (sg_g σ 126 m))
def nC (σ : sg_S) : Prop := (0 ≤ sg_g σ 88 56 ∧ 0 ≤ sg_g σ 88 60 ∧ 0 ≤ sg_g σ 88 62 ∧ 0 ≤ sg_g σ 88 70) ∧ sg_g σ 88 56 + sg_g σ 88 62 ≤ sg_g σ 88 54 ∧ sg_g σ 88 60 ≤ sg_g σ 88 54 ∧ sg_g σ 88 70 + sg_g σ 88 62 ≤ sg_g σ 88 54 ∧ sg_g σ 88 54 ≤ 3000
/-- a nested run that goes on, or has come to its value -/
def nIv (σ : sg_S) : Prop := nC σ ∧ ((sg_g σ 88 62 = 0 ∧ vU σ (T r).toNat (sg_g σ 133 0)) ∨ ∃ m ty, nTop A D T B r σ m ty)
end NST
section NUP
variable {A : aT} {D : List aDf} {T B : Int → Int} {r : Int}
/-- what is bound stays of its type -/
def bOk (A : aT) (D : List aDf) (T : Int → Int) (σ σ' : sg_S) : Prop := ∀ b, sg_g σ' 134 b = sg_g σ 134 b ∨ vU σ' (bTy A D T b).toNat (sg_g σ' 134 b)
theorem scO_up {σ σ' : sg_S} {sc : List (Int × Int)} (h : nEx σ σ') (hb : bOk A D T σ σ') (a : scO A D T σ sc) : scO A D T σ' sc := fun p hp => by
  obtain ⟨a1, a2, a3⟩ := a p hp
  refine ⟨a1, a2, ?_⟩
  rcases hb p.1 with e | e
  · rw [e]; exact vU_up h a3
  · rw [a2]; exact e
theorem fO_up {σ σ' : sg_S} {n : Int} (h : nEx σ σ') (hb : bOk A D T σ σ') (a : fO A D T B σ n) : fO A D T B σ' n := by
  obtain ⟨j, f, sc, a1, a2⟩ := a
  exact ⟨j, f, sc, a1, scO_up h hb a2⟩
theorem vS_up {σ σ' : sg_S} {b : Int} {ty : List Int} (h : nEx σ σ') (hv : ∀ x, b ≤ x → x < b + ty.length → sg_g σ' 133 x = sg_g σ 133 x) (a : vS σ b ty) : vS σ' b ty := fun i x hx => by
  have hi : i < ty.length := by
    rcases Nat.lt_or_ge i ty.length with q | q
    · exact q
    · rw [List.getElem?_eq_none q] at hx; cases hx
  rw [hv _ (by omega) (by omega)]
  exact vU_up h (a i x hx)
theorem vS_x {σ : sg_S} {b v x : Int} {ty : List Int} (h : vS σ b ty) (hv : sg_g σ 133 (b + ty.length) = v) (hx : vU σ x.toNat v) : vS σ b (ty ++ [x]) := fun i y hy => by
  rcases Nat.lt_or_ge i ty.length with q | q
  · rw [List.getElem?_append_left q] at hy; exact h i y hy
  · rw [List.getElem?_append_right q] at hy
    have : i - ty.length = 0 := by
      rcases Nat.eq_zero_or_pos (i - ty.length) with z | z
      · exact z
      · rw [List.getElem?_eq_none (by simp; omega)] at hy; cases hy
    rw [this] at hy
    simp only [List.getElem?_cons_zero, Option.some.injEq] at hy
    rw [show i = ty.length by omega, hv, ← hy]; exact hx
theorem vS_l {σ : sg_S} {b : Int} {ty ty' : List Int} (h : vS σ b (ty ++ ty')) : vS σ b ty := fun i x hx => by
  refine h i x ?_
  have hi : i < ty.length := by
    rcases Nat.lt_or_ge i ty.length with q | q
    · exact q
    · rw [List.getElem?_eq_none q] at hx; cases hx
  rw [List.getElem?_append_left hi]; exact hx
end NUP
/-! The pile stays while values are made; begin and leave. -/
section NSU
variable {A : aT} {D : List aDf} {T B : Int → Int} {r : Int}
theorem eM_0 {σ : sg_S} {b p : Int} {g : Nat} (a : eM σ b p g) : 0 ≤ sg_g σ 133 b ∧ sg_g σ 133 b < sg_g σ 88 56 := by
  obtain ⟨a1, a2, a3⟩ := a
  have := (a3 0 (by omega)).1
  rwa [show b + ((0 : Nat) : Int) = b by omega] at this
theorem eM_up {σ σ' : sg_S} {b p : Int} {g : Nat} (h : nEx σ σ') (hv : ∀ x, b ≤ x → x < b + g → sg_g σ' 133 x = sg_g σ 133 x) (a : eM σ b p g) : eM σ' b p g ∧ sg_g σ' 123 (sg_g σ' 133 b) = sg_g σ 123 (sg_g σ 133 b) := by
  have a0 := eM_0 a
  obtain ⟨a1, a2, a3⟩ := a
  have e0 : sg_g σ' 123 (sg_g σ' 133 b) = sg_g σ 123 (sg_g σ 133 b) := by
    rw [hv b (by omega) (by omega)]
    exact (h.2.1 _ a0.1 a0.2).2.1
  refine ⟨⟨a1, by rw [e0]; exact a2, fun j hj => ?_⟩, e0⟩
  obtain ⟨b1, b2⟩ := a3 j hj
  rw [e0, hv (b + j) (by omega) (by omega), (h.2.1 _ b1.1 b1.2).2.1]
  have := h.1.1
  exact ⟨⟨b1.1, by omega⟩, b2⟩
theorem fS_up {σ σ' : sg_S} {n s p b : Int} {ty : List Int} (h : nEx σ σ') (hb : bOk A D T σ σ') (hv : A.2.1 n = 15 → ((A.2.2.2.2.2 n).length : Int) < s → ∀ x, b ≤ x → x < b + (A.2.2.2.2.2 n).length → sg_g σ' 133 x = sg_g σ 133 x) (a : fS A D T σ n s p b ty) : fS A D T σ' n s p b ty := by
  unfold fS at a ⊢
  by_cases c2 : A.2.1 n = 2
  · rw [if_pos c2] at a ⊢; exact a
  rw [if_neg c2] at a ⊢
  by_cases c3 : A.2.1 n = 3
  · rw [if_pos c3] at a ⊢; exact a
  rw [if_neg c3] at a ⊢
  by_cases c15 : A.2.1 n = 15
  · rw [if_pos c15] at a ⊢
    obtain ⟨bd, tl, e, a⟩ := a
    refine ⟨bd, tl, e, ?_⟩
    rcases a with a | ⟨a1, i, a2, a3⟩
    · exact Or.inl a
    · have hs : ((A.2.2.2.2.2 n).length : Int) < s := by rcases a3 with a3 | a3 | a3 <;> omega
      obtain ⟨b1, b2⟩ := eM_up h (hv c15 hs) a1
      refine Or.inr ⟨b1, i, a2, ?_⟩
      rw [b2]
      rcases a3 with a3 | ⟨⟨a3, a4⟩, a5⟩ | a3
      · exact Or.inl a3
      · refine Or.inr (Or.inl ⟨⟨a3, fun j hj => ?_⟩, a5⟩)
        rcases hb (210 + 4 * n + j) with z | z
        · rw [z]; exact vU_up h (a4 j hj)
        · exact z
      · exact Or.inr (Or.inr a3)
  · rw [if_neg c15] at a ⊢; exact a
theorem fO_w {σ : sg_S} {n : Int} (h : fO A D T B σ n) : nW A n ∧ (0 ≤ n ∧ n < A.1) ∧ kIn (T n) := by
  obtain ⟨j, f, sc, a1, a2⟩ := h
  cases f with
  | zero => cases a1
  | succ f => exact ⟨a1.1, a1.2.1, a1.2.2.1⟩
theorem nStk_up {σ σ' : sg_S} (h : nEx σ σ') (hb : bOk A D T σ σ') : ∀ (m : Nat) (tp ty : Int), (∀ i : Nat, i < m → sg_g σ' 126 i = sg_g σ 126 i ∧ sg_g σ' 127 i = sg_g σ 127 i ∧ sg_g σ' 128 i = sg_g σ 128 i ∧ sg_g σ' 130 i = sg_g σ 130 i) → (∀ x, 0 ≤ x → x < tp → sg_g σ' 133 x = sg_g σ 133 x) → nStk A D T B r σ m tp ty → nStk A D T B r σ' m tp ty
  | 0, tp, ty, _, _, a => a
  | m + 1, tp, ty, hr, hv, a => by
    obtain ⟨tys, a1, a2, a3, a4, a5, a6, a7⟩ := a
    obtain ⟨r1, r2, r3, r4⟩ := hr m (by omega)
    refine ⟨tys, by rw [r3]; exact a1, by rw [r3]; exact a2, ?_, by rw [r1]; exact fO_up h hb a4, ?_, by rw [r1, r2]; exact a6, ?_⟩
    · rw [r3]
      exact vS_up h (fun x y z => hv x (by omega) (by omega)) a3
    · rw [r1, r2, r3, r4]
      refine fS_up h hb (fun c hs x y z => hv x (by omega) ?_) a5
      obtain ⟨w, -, -⟩ := fO_w a4
      unfold fS at a5
      rw [if_neg (by omega), if_neg (by omega), if_pos c] at a5
      obtain ⟨bd, tl, e, a5⟩ := a5
      have wl := (w.2.2.2.2.2.2.1 c).1
      rw [e] at wl
      simp only [List.length_cons] at wl
      have tk : (tl.take (A.2.2.2.2.2 (sg_g σ 126 m)).length).length = (A.2.2.2.2.2 (sg_g σ 126 m)).length := by rw [List.length_take]; omega
      rcases a5 with ⟨i, b1, b2, -⟩ | ⟨-, i, -, b3⟩
      · omega
      · have hl : (tys ++ [ty]).length = tys.length + 1 := by simp
        rcases b3 with ⟨b3, b4⟩ | ⟨-, b3, b4⟩ | ⟨-, b3, b4⟩
        · exact absurd b3 (a6 c)
        · rw [b4] at hl
          simp only [List.length_append, List.length_map, tk, List.length_replicate, List.length_cons, List.length_nil] at hl
          omega
        · rw [b4] at hl
          simp only [List.length_append, List.length_map, tk, List.length_replicate] at hl
          omega
    · rw [r1, r3]
      exact nStk_up h hb m _ _ (fun i hi => hr i (by omega)) (fun x y z => hv x y (by omega)) a7
theorem m_begin {σ : sg_S} {n : Int} {Q : sg_S → Prop} (hw : 0 ≤ sg_g σ 88 54 ∧ sg_g σ 88 54 ≤ 3000) (hn : sg_R n) (hf : 0 ≤ sg_g σ 88 62 ∧ sg_g σ 88 62 < 4000) (k : ∀ σ', (¬ sg_g σ' 88 73 = 0 ∨ (sg_g σ' 88 73 = 0 ∧ sg_g σ' 88 54 = sg_g σ 88 54 + 1 ∧ sg_g σ' 88 54 ≤ 3000)) → sg_g σ' 88 62 = sg_g σ 88 62 + 1 → (sg_g σ' 126 (sg_g σ 88 62) = n ∧ sg_g σ' 127 (sg_g σ 88 62) = 0 ∧ sg_g σ' 128 (sg_g σ 88 62) = sg_g σ 88 70 ∧ sg_g σ' 130 (sg_g σ 88 62) = 0) → (∀ i, ¬ i = sg_g σ 88 62 → sg_g σ' 126 i = sg_g σ 126 i ∧ sg_g σ' 127 i = sg_g σ 127 i ∧ sg_g σ' 128 i = sg_g σ 128 i ∧ sg_g σ' 130 i = sg_g σ 130 i) → sg_F [126, 127, 128, 129, 130, 131, 132, 55088, 63088, 74088] σ σ' → Q σ') : V_begin σ n Q := by
  unfold V_begin
  refine m_works hw ⟨by decide, by decide⟩ (fun σ2 w1 w2 f2 _ => ⟨hf, ?_⟩)
  intro σ8 e8 σ11 e11 σ14 e14 σ17 e17 σ20 e20 σ23 e23 σ26 e26
  refine ⟨⟨by omega, by omega⟩, fun σ30 e30 => ?_⟩
  have F30 : sg_F [126, 127, 128, 129, 130, 131, 132, 55088, 63088, 74088] σ2 σ30 := by
    rw [e30, e26, e23, e20, e17, e14, e11, e8]
    exact sg_F_w (sg_F_w (sg_F_w (sg_F_w (sg_F_w (sg_F_w (sg_F_w (sg_F_w (sg_F_r _ _) rfl _) rfl _) rfl _) rfl _) rfl _) rfl _) rfl _) rfl _
  have G : ∀ a k, ¬ a = 88 → ¬ a = 126 → ¬ a = 127 → ¬ a = 128 → ¬ a = 129 → ¬ a = 130 → ¬ a = 131 → ¬ a = 132 → sg_g σ30 a k = sg_g σ2 a k := fun a k z0 z1 z2 z3 z4 z5 z6 z7 => by
    rw [e30, sg_gw_c _ _ _ _ _ _ z0, e26, sg_gw_c _ _ _ _ _ _ z7, e23, sg_gw_c _ _ _ _ _ _ z6, e20, sg_gw_c _ _ _ _ _ _ z5, e17, sg_gw_c _ _ _ _ _ _ z4, e14, sg_gw_c _ _ _ _ _ _ z3, e11, sg_gw_c _ _ _ _ _ _ z2, e8, sg_gw_c _ _ _ _ _ _ z1]
  have G88 : ∀ k, ¬ k = 62 → sg_g σ30 88 k = sg_g σ2 88 k := fun k z => by
    rw [e30, sg_gw_k _ _ _ _ _ _ z, e26, sg_gw_c _ _ _ _ _ _ (by decide), e23, sg_gw_c _ _ _ _ _ _ (by decide), e20, sg_gw_c _ _ _ _ _ _ (by decide), e17, sg_gw_c _ _ _ _ _ _ (by decide), e14, sg_gw_c _ _ _ _ _ _ (by decide), e11, sg_gw_c _ _ _ _ _ _ (by decide), e8, sg_gw_c _ _ _ _ _ _ (by decide)]
  refine k σ30 ?_ ?_ ?_ ?_ (sg_F_t (sg_F_m f2 rfl) F30)
  · rw [G88 73 (by decide), G88 54 (by decide)]
    rcases w2 with w2 | ⟨-, w3, w4⟩
    · exact Or.inl w2
    · exact Or.inr ⟨w3, w4, w1.2⟩
  · rw [e30, sg_gw_e _ _ _ _ ⟨by omega, by omega⟩]
  · refine ⟨?_, ?_, ?_, ?_⟩
    · rw [e30, sg_gw_c _ _ _ _ _ _ (by decide), e26, sg_gw_c _ _ _ _ _ _ (by decide), e23, sg_gw_c _ _ _ _ _ _ (by decide), e20, sg_gw_c _ _ _ _ _ _ (by decide), e17, sg_gw_c _ _ _ _ _ _ (by decide), e14, sg_gw_c _ _ _ _ _ _ (by decide), e11, sg_gw_c _ _ _ _ _ _ (by decide), e8, sg_gw_e _ _ _ _ hn]
    · rw [e30, sg_gw_c _ _ _ _ _ _ (by decide), e26, sg_gw_c _ _ _ _ _ _ (by decide), e23, sg_gw_c _ _ _ _ _ _ (by decide), e20, sg_gw_c _ _ _ _ _ _ (by decide), e17, sg_gw_c _ _ _ _ _ _ (by decide), e14, sg_gw_c _ _ _ _ _ _ (by decide), e11, sg_gw_e _ _ _ _ (by decide)]
    · rw [e30, sg_gw_c _ _ _ _ _ _ (by decide), e26, sg_gw_c _ _ _ _ _ _ (by decide), e23, sg_gw_c _ _ _ _ _ _ (by decide), e20, sg_gw_c _ _ _ _ _ _ (by decide), e17, sg_gw_c _ _ _ _ _ _ (by decide), e14, sg_gw_e _ _ _ _ (sg_Rg _ _ _)]
    · rw [e30, sg_gw_c _ _ _ _ _ _ (by decide), e26, sg_gw_c _ _ _ _ _ _ (by decide), e23, sg_gw_c _ _ _ _ _ _ (by decide), e20, sg_gw_e _ _ _ _ (by decide)]
  · intro i hi
    have K : ∀ a, sg_g σ26 a i = sg_g σ2 a i := fun a => by rw [e26, sg_gw_k _ _ _ _ _ _ hi, e23, sg_gw_k _ _ _ _ _ _ hi, e20, sg_gw_k _ _ _ _ _ _ hi, e17, sg_gw_k _ _ _ _ _ _ hi, e14, sg_gw_k _ _ _ _ _ _ hi, e11, sg_gw_k _ _ _ _ _ _ hi, e8, sg_gw_k _ _ _ _ _ _ hi]
    refine ⟨?_, ?_, ?_, ?_⟩
    · rw [e30, sg_gw_c _ _ _ _ _ _ (by decide), K, sg_F_ga f2 rfl]
    · rw [e30, sg_gw_c _ _ _ _ _ _ (by decide), K, sg_F_ga f2 rfl]
    · rw [e30, sg_gw_c _ _ _ _ _ _ (by decide), K, sg_F_ga f2 rfl]
    · rw [e30, sg_gw_c _ _ _ _ _ _ (by decide), K, sg_F_ga f2 rfl]
end NSU
/-! leave: a value goes down the pile. -/
theorem m_leave {σ : sg_S} {f n b v : Int} {Q : sg_S → Prop} (hw : 0 ≤ sg_g σ 88 54 ∧ sg_g σ 88 54 ≤ 3000) (ef : sg_g σ 88 62 - 1 = f) (hf : 0 ≤ f ∧ f < 4000) (en : sg_g σ 126 f = n) (hn : 0 ≤ n ∧ n < 210) (eb : sg_g σ 128 f = b) (hb : 0 ≤ b ∧ b < 12000) (hv : sg_R v) (h1 : ¬ v_tellsCount (sg_g σ 93 n) = 0 → (0 ≤ v ∧ v < 9000) ∧ 0 ≤ sg_gl σ 124 v ∧ sg_gl σ 124 v ≤ 8040200) (h2 : sg_g σ 93 n = 18 ∨ sg_g σ 93 n = 19 ∨ sg_g σ 93 n = 20 → (0 ≤ sg_g σ 133 b ∧ sg_g σ 133 b < 9000) ∧ 0 ≤ sg_g σ 123 (sg_g σ 133 b) ∧ sg_g σ 123 (sg_g σ 133 b) ≤ 200) (h3 : ¬ f = 0 → 0 ≤ sg_g σ 126 (f - 1) ∧ sg_g σ 126 (f - 1) < 210) (k : ∀ σ', (¬ sg_g σ' 88 73 = 0 ∨ (sg_g σ' 88 73 = 0 ∧ sg_g σ 88 54 ≤ sg_g σ' 88 54 ∧ sg_g σ' 88 54 ≤ 3000 ∧ (¬ v_tellsCount (sg_g σ 93 n) = 0 → sg_g σ 88 54 + sg_gl σ 124 v ≤ sg_g σ' 88 54))) → sg_g σ' 88 70 = b + 1 → sg_g σ' 133 b = v → (∀ x, ¬ x = b → sg_g σ' 133 x = sg_g σ 133 x) → sg_g σ' 88 62 = f → sg_F [129, 131, 133, 55088, 56088, 63088, 71088, 74088] σ σ' → Q σ') : V_leave σ v Q := by
  unfold V_leave
  rw [ef, en, eb]
  let P : sg_S → Prop := fun σ7 => (0 ≤ sg_g σ7 88 54 ∧ sg_g σ7 88 54 ≤ 3000) ∧ (¬ sg_g σ7 88 73 = 0 ∨ (sg_g σ7 88 73 = 0 ∧ sg_g σ 88 54 ≤ sg_g σ7 88 54 ∧ (¬ v_tellsCount (sg_g σ 93 n) = 0 → sg_g σ 88 54 + sg_gl σ 124 v ≤ sg_g σ7 88 54)))
  have hP : ∀ σ7, P σ7 = ((0 ≤ sg_g σ7 88 54 ∧ sg_g σ7 88 54 ≤ 3000) ∧ (¬ sg_g σ7 88 73 = 0 ∨ (sg_g σ7 88 73 = 0 ∧ sg_g σ 88 54 ≤ sg_g σ7 88 54 ∧ (¬ v_tellsCount (sg_g σ 93 n) = 0 → sg_g σ 88 54 + sg_gl σ 124 v ≤ sg_g σ7 88 54)))) := fun _ => rfl
  have up : ∀ σ7, P σ7 → ∀ a, (0 ≤ a ∧ a ≤ 200) → V_works σ7 a (fun σ48 => sg_F [55088, 74088] σ7 σ48 → P σ48) := fun σ7 p a ha => by
    rw [hP] at p
    refine m_works p.1 ⟨ha.1, by omega⟩ (fun σ' x1 x2 x3 _ => ?_)
    rw [hP]
    refine ⟨x1, ?_⟩
    rcases x2 with x2 | ⟨x2, x4, x5⟩
    · exact Or.inl x2
    · rcases p.2 with p2 | ⟨-, p3, p4⟩
      · exact absurd x2 p2
      · exact Or.inr ⟨x4, by omega, fun z => by have := p4 z; omega⟩
  refine ⟨⟨by omega, by omega⟩, hf, hn, P, ⟨fun z => ?_, fun z => ⟨(h1 z).1, m_works hw (h1 z).2 (fun σ' x1 x2 x3 _ => ?_)⟩⟩, fun σ7 f7 p7 => ⟨P, ⟨fun z => ⟨hb, (h2 (Or.inl z)).1, up σ7 p7 _ (h2 (Or.inl z)).2⟩, fun _ => ⟨fun z => ⟨hb, (h2 (Or.inr (Or.inl z))).1, up σ7 p7 _ (h2 (Or.inr (Or.inl z))).2⟩, fun _ => ⟨fun _ => p7, fun z => ⟨hb, (h2 (Or.inr (Or.inr z))).1, up σ7 p7 _ (h2 (Or.inr (Or.inr z))).2⟩⟩⟩⟩, ?_⟩⟩
  · rw [hP]
    refine ⟨hw, ?_⟩
    by_cases e : sg_g σ 88 73 = 0
    · exact Or.inr ⟨e, Int.le_refl _, fun y => absurd z y⟩
    · exact Or.inl e
  · rw [hP]
    refine ⟨x1, ?_⟩
    rcases x2 with x2 | ⟨x2, x4, x5⟩
    · exact Or.inl x2
    · have := (h1 z).2
      exact Or.inr ⟨x4, by omega, fun _ => by omega⟩
  · intro σ13 f13 p13 σ16 e16
    refine ⟨hb, fun σ20 e20 => ⟨⟨by omega, by omega⟩, fun σ24 e24 σ27 e27 => ?_⟩⟩
    rw [hP] at p13
    have F13 : sg_F [55088, 74088] σ σ13 := sg_F_t f7 f13
    have F27 : sg_F [129, 131, 133, 55088, 56088, 63088, 71088, 74088] σ σ27 := by
      rw [e27, e24, e20, e16]
      exact sg_F_w (sg_F_w (sg_F_w (sg_F_w (sg_F_m F13 rfl) rfl _) rfl _) rfl _) rfl _
    have v0 : sg_g σ27 88 70 = b + 1 := by rw [e27, sg_gw_k _ _ _ _ _ _ (by decide), e24, sg_gw_e _ _ _ _ ⟨by omega, by omega⟩]
    have v1 : sg_g σ27 133 b = v := by rw [e27, sg_gw_c _ _ _ _ _ _ (by decide), e24, sg_gw_c _ _ _ _ _ _ (by decide), e20, sg_gw_e _ _ _ _ hv]
    have v2 : ∀ x, ¬ x = b → sg_g σ27 133 x = sg_g σ 133 x := fun x hx => by rw [e27, sg_gw_c _ _ _ _ _ _ (by decide), e24, sg_gw_c _ _ _ _ _ _ (by decide), e20, sg_gw_k _ _ _ _ _ _ hx, e16, sg_gw_c _ _ _ _ _ _ (by decide), sg_F_ga F13 rfl]
    have v3 : sg_g σ27 88 62 = f := by rw [e27, sg_gw_e _ _ _ _ ⟨by omega, by omega⟩]
    have v4 : sg_g σ27 88 73 = sg_g σ13 88 73 ∧ sg_g σ27 88 54 = sg_g σ13 88 54 := by
      constructor
      · rw [e27, sg_gw_k _ _ _ _ _ _ (by decide), e24, sg_gw_k _ _ _ _ _ _ (by decide), e20, sg_gw_c _ _ _ _ _ _ (by decide), e16, sg_gw_k _ _ _ _ _ _ (by decide)]
      · rw [e27, sg_gw_k _ _ _ _ _ _ (by decide), e24, sg_gw_k _ _ _ _ _ _ (by decide), e20, sg_gw_c _ _ _ _ _ _ (by decide), e16, sg_gw_k _ _ _ _ _ _ (by decide)]
    have fin : ∀ a j z, (a = 129 ∨ a = 131 ∨ (a = 88 ∧ j = 55)) → Q (sg_w σ27 a j z) := fun a j z ha => by
      have c1 : ∀ q, ¬ q = 55 → sg_g (sg_w σ27 a j z) 88 q = sg_g σ27 88 q := fun q hq => by
        rcases ha with h | h | h
        · exact sg_gw_c _ _ _ _ _ _ (by omega)
        · exact sg_gw_c _ _ _ _ _ _ (by omega)
        · exact sg_gw_k _ _ _ _ _ _ (by omega)
      have c2 : ∀ q, sg_g (sg_w σ27 a j z) 133 q = sg_g σ27 133 q := fun q => sg_gw_c _ _ _ _ _ _ (by omega)
      refine k _ ?_ (by rw [c1 70 (by decide)]; exact v0) (by rw [c2]; exact v1) (fun x hx => by rw [c2]; exact v2 x hx) (by rw [c1 62 (by decide)]; exact v3) ?_
      · rw [c1 73 (by decide), c1 54 (by decide), v4.1, v4.2]
        rcases p13.2 with p | p
        · exact Or.inl p
        · exact Or.inr ⟨p.1, p.2.1, p13.1.2, p.2.2⟩
      · rcases ha with h | h | ⟨h, h'⟩
        · subst h; exact sg_F_w F27 rfl _
        · subst h; exact sg_F_w F27 rfl _
        · subst h h'; exact sg_F_w F27 rfl _
    refine ⟨fun z => ⟨⟨by omega, by omega⟩, ?_, fun _ => ⟨⟨by omega, by omega⟩, fun σ35 e35 => by rw [e35]; exact fin _ _ _ (Or.inl rfl)⟩, fun _ => ⟨⟨by omega, by omega⟩, fun σ39 e39 => by rw [e39]; exact fin _ _ _ (Or.inr (Or.inl rfl))⟩⟩, fun z σ42 e42 => by rw [e42]; exact fin _ _ _ (Or.inr (Or.inr ⟨rfl, rfl⟩))⟩
    exact ⟨⟨by omega, by omega⟩, h3 z, fun _ => trivial, fun _ => ⟨fun _ => trivial, fun _ => trivial⟩⟩
