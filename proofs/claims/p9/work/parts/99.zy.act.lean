/-! ACTS of nested runs of the reference are safe, and come to values of their types. -/
def nB (σ : sg_S) : Prop := (0 ≤ sg_g σ 88 56 ∧ sg_g σ 88 56 ≤ 3300) ∧ 0 ≤ sg_g σ 88 60 ∧ sg_g σ 88 60 ≤ 3300
/-- j items of type k were added -/
def nAd (σ σ3 : sg_S) (k : Nat) (j : Int) : Prop := nEx σ σ3 ∧ sg_g σ3 88 56 = sg_g σ 88 56 ∧ sg_g σ3 88 60 = sg_g σ 88 60 + j ∧ ∀ i, 0 ≤ i → i < j → vT σ3 k (sg_g σ3 125 (sg_g σ 88 60 + i))
/-- v of type k came of σ: what it counts pays for what was made -/
def oK (σ σ' : sg_S) (k : Nat) (v : Int) : Prop := nEx σ σ' ∧ vT σ' k v ∧ (1 ≤ k → sg_g σ' 88 60 ≤ sg_g σ 88 60 + sg_gl σ' 124 v ∧ sg_g σ' 88 56 ≤ sg_g σ 88 56 + 1 + sg_gl σ' 124 v ∧ sg_g σ' 88 56 ≤ sg_g σ 88 56 + 300) ∧ (k = 0 → sg_g σ' 88 60 = sg_g σ 88 60 ∧ sg_g σ' 88 56 = sg_g σ 88 56)
theorem nAd_0 (σ : sg_S) (k : Nat) : nAd σ σ k 0 := ⟨nEx_r σ, rfl, by omega, fun i a b => by omega⟩
theorem m_addA {σ σ3 : sg_S} {k : Nat} {j v : Int} {Q : sg_S → Prop} (hB : nB σ) (hj : 0 ≤ j ∧ j < 400) (hA : nAd σ σ3 k j) (hv : sg_R v) (ht : vT σ3 k v) (kk : ∀ σ', nAd σ σ' k (j + 1) → nEx σ3 σ' → sg_F [125, 61088] σ3 σ' → Q σ') : V_add σ3 v Q := by
  obtain ⟨⟨b1, b2⟩, b3, b4⟩ := hB
  obtain ⟨a1, a2, a3, a4⟩ := hA
  refine m_add (by omega) hv (fun σ' x1 x2 x3 x4 => kk σ' ⟨nEx_t a1 x1, ?_, by omega, fun i c d => ?_⟩ x1 x4)
  · rw [sg_F_g x4 (by rfl)]; exact a2
  · by_cases e : i = j
    · rw [e, ← a3, x3]; exact vT_up x1 ht
    · have := x1.2.2 (sg_g σ 88 60 + i) (by omega) (by omega)
      rw [this]
      exact vT_up x1 (a4 i c (by omega))
theorem m_seqE {σ σ3 : sg_S} {k : Nat} {j ty : Int} {Q : Int → sg_S → Prop} (hB : nB σ) (hj : 0 ≤ j ∧ j ≤ 200) (hA : nAd σ σ3 k j) (hk : ty = ((k + 1 : Nat) : Int)) (hk2 : k ≤ 2) (kk : ∀ q σ', nEx σ σ' → vT σ' (k + 1) q → j ≤ sg_gl σ' 124 q → sg_g σ' 88 60 = sg_g σ 88 60 + j → sg_g σ' 88 56 = sg_g σ 88 56 + 1 → sg_F [122, 123, 124, 57088] σ3 σ' → Q q σ') : V_seq σ3 (sg_g σ 88 60) j ty Q := by
  obtain ⟨⟨b1, b2⟩, b3, b4⟩ := hB
  obtain ⟨a1, a2, a3, a4⟩ := hA
  refine m_seq (k := k) (by omega) (by omega) b3 hj (by omega) hk hk2 a4 (fun σ' x1 x2 x3 x4 x5 x6 x7 x8 => kk _ σ' (nEx_t a1 x1) x4 x5 (by omega) (by omega) x8)
theorem m_seqA {σ σ3 : sg_S} {k : Nat} {j ty : Int} {Q : Int → sg_S → Prop} (hB : nB σ) (hj : 0 ≤ j ∧ j ≤ 200) (hA : nAd σ σ3 k j) (hk : ty = ((k + 1 : Nat) : Int)) (hk2 : k ≤ 2) (kk : ∀ q σ', oK σ σ' (k + 1) q → sg_F [122, 123, 124, 57088] σ3 σ' → Q q σ') : V_seq σ3 (sg_g σ 88 60) j ty Q :=
  m_seqE hB hj hA hk hk2 (fun q σ' x1 x2 x3 x4 x5 x6 => kk q σ' ⟨x1, x2, fun _ => ⟨by omega, by omega, by omega⟩, fun z => by omega⟩ x6)
section ACT
variable {σ : sg_S} {n a b : Int} {k : Nat} {Q : Int → sg_S → Prop}
theorem v_in_n {x l h : Int} : (v_in x l h = 0 ↔ ¬ (l ≤ x ∧ x ≤ h)) := by
  unfold v_in
  by_cases c1 : x < l
  · rw [if_pos c1]; exact ⟨fun _ => by omega, fun _ => rfl⟩
  · rw [if_neg c1]
    by_cases c2 : h < x
    · rw [if_pos c2]; exact ⟨fun _ => by omega, fun _ => rfl⟩
    · rw [if_neg c2]; exact ⟨fun z => by omega, fun z => by omega⟩
/-- what an ACT asks of what follows: a fault, or a value -/
def aQ (σ : sg_S) (k : Nat) (Q : Int → sg_S → Prop) : Prop := (∀ q σ', ¬ sg_g σ' 88 73 = 0 → nEx σ σ' → sg_F [122, 123, 124, 125, 135, 57088, 61088, 74088] σ σ' → Q q σ') ∧ ∀ q σ', oK σ σ' k q → sg_g σ' 88 73 = sg_g σ 88 73 → sg_F [122, 123, 124, 125, 135, 57088, 61088, 74088] σ σ' → Q q σ'
theorem aQ_f (h : aQ σ k Q) {e : Int} (he : sg_R e ∧ ¬ e = 0) {q : Int} : V_ends σ e (fun σ' => sg_F [74088] σ σ' → Q q σ') := m_ends he (fun σ' x1 x2 _ => h.1 q σ' x1 (nEx_F x2 rfl) (sg_F_m x2 rfl))
theorem m_iota (hB : nB σ) (h : aQ σ 1 Q) : V_acted_16 σ a (sg_g σ 88 60) Q := by
  unfold V_acted_16
  refine ⟨fun c => ?_, fun _ => aQ_f h (by decide)⟩
  have ca : 0 ≤ a ∧ a ≤ 200 := Decidable.byContradiction (fun z => c (v_in_n.mpr z))
  refine ⟨fun m v σ3 => m = (a - v).toNat ∧ (0 ≤ v ∧ v ≤ a) ∧ nAd σ σ3 0 v, fun σ3 => nAd σ σ3 0 a, ⟨_, rfl, ⟨by omega, by omega⟩, nAd_0 σ 0⟩, ?_, fun σ3 f3 h3 => m_seqA hB ca h3 rfl (by decide) (fun q σ' x1 x2 _ _ => h.2 q σ' x1 ?_ ?_)⟩
  · rintro m v σ3 rv f3 ⟨em, hv, hA⟩
    refine ⟨fun z => ?_, fun z => m_addA hB (by omega) hA rv trivial (fun σ' x1 _ x2 _ => ⟨⟨by omega, by omega⟩, _, ?_, rfl, ⟨by omega, by omega⟩, x1⟩)⟩
    · rw [show a = v by omega]; exact hA
    · omega
  · rw [sg_F_g x2 (by rfl), sg_F_g f3 (by rfl)]
  · exact sg_F_t (sg_F_m f3 rfl) (sg_F_m x2 rfl)
theorem m_dist (hB : nB σ) (hn : 0 ≤ n ∧ n < 210) (hra : sg_R a) (hk : k ≤ 2) (hT : sg_g σ 101 n = ((k + 1 : Nat) : Int)) (ha : vT σ k a) (h : aQ σ (k + 1) Q) : V_acted_17 σ n a b (sg_g σ 88 60) Q := by
  unfold V_acted_17
  refine ⟨fun c => ?_, fun _ => aQ_f h (by decide)⟩
  have ca : 0 ≤ b ∧ b ≤ 200 := Decidable.byContradiction (fun z => c (v_in_n.mpr z))
  refine ⟨fun m v σ3 => m = (b - v).toNat ∧ (0 ≤ v ∧ v ≤ b) ∧ nAd σ σ3 k v, fun σ3 => nAd σ σ3 k b, ⟨_, rfl, ⟨by omega, by omega⟩, nAd_0 σ k⟩, ?_, fun σ3 f3 h3 => ⟨hn, m_seqA hB ca h3 hT hk (fun q σ' x1 x2 _ _ => h.2 q σ' x1 ?_ ?_)⟩⟩
  · rintro m v σ3 rv f3 ⟨em, hv, hA⟩
    refine ⟨fun z => ?_, fun z => m_addA hB (by omega) hA hra (vT_up hA.1 ha) (fun σ' x1 _ x2 _ => ⟨⟨by omega, by omega⟩, _, ?_, rfl, ⟨by omega, by omega⟩, x1⟩)⟩
    · rw [show b = v by omega]; exact hA
    · omega
  · rw [sg_F_g x2 (by rfl), sg_F_g f3 (by rfl)]
  · exact sg_F_t (sg_F_m f3 rfl) (sg_F_m x2 rfl)
/-- the rows of a sequence stay while items are added -/
theorem nEx_s {σ3 : sg_S} (h : nEx σ σ3) (ha : vT σ (k + 1) a) : sg_g σ3 123 a = sg_g σ 123 a ∧ sg_g σ3 122 a = sg_g σ 122 a := by
  obtain ⟨a1, -⟩ := ha
  exact ⟨(h.2.1 a a1.1 a1.2).2.1, (h.2.1 a a1.1 a1.2).1⟩
theorem m_it {σ3 : sg_S} {i j : Int} {k' : Nat} (hB : nB σ) (hj : 0 ≤ j ∧ j < 400) (hA : nAd σ σ3 k' j) (ha : vT σ (k + 1) a) (i0 : 0 ≤ i) (i1 : i < sg_g σ 123 a) : p_itemAt σ3 a i ∧ vT σ3 k (v_itemAt σ3 a i) := by
  obtain ⟨⟨b1, b2⟩, b3, b4⟩ := hB
  have e := nEx_s hA.1 ha
  exact vT_it (by rw [hA.2.1]; omega) (by rw [hA.2.2.1]; omega) (vT_up hA.1 ha) i0 (by rw [e.1]; exact i1)
theorem vT_9 (hB : nB σ) (ha : vT σ (k + 1) a) : (0 ≤ a ∧ a < 9000) ∧ 0 ≤ sg_g σ 123 a ∧ sg_g σ 123 a ≤ 200 := by
  obtain ⟨⟨b1, b2⟩, b3, b4⟩ := hB
  obtain ⟨a1, a2, a3, a4⟩ := ha
  exact ⟨⟨a1.1, by omega⟩, by omega, by omega⟩
theorem oK_0 (v : Int) : oK σ σ 0 v := ⟨nEx_r σ, trivial, fun z => by omega, fun _ => ⟨rfl, rfl⟩⟩
theorem m_sum (hB : nB σ) (ha : vT σ 1 a) (h : aQ σ 0 Q) : V_acted_18 σ a Q := by
  have h9 := vT_9 hB ha
  unfold V_acted_18
  refine ⟨fun m v1 v2 => m = (sg_g σ 123 a - v2).toNat ∧ 0 ≤ v2, fun _ => True, ⟨_, rfl, Int.le_refl _⟩, ?_, fun v1 r1 _ => h.2 v1 σ (oK_0 v1) rfl (sg_F_r _ _)⟩
  rintro m v1 v2 r1 r2 ⟨em, h0⟩
  exact ⟨h9.1, fun _ => trivial, fun c => ⟨(m_it (k' := 0) hB (by omega) (nAd_0 σ 0) ha h0 c).1, ⟨by omega, by omega⟩, _, by omega, rfl, by omega⟩⟩
theorem m_max (hB : nB σ) (hn : 0 ≤ n ∧ n < 210) (ha : vT σ 1 a) (h : aQ σ 0 Q) : V_acted_19 σ n a Q := by
  have h9 := vT_9 hB ha
  unfold V_acted_19
  refine ⟨h9.1, fun c => ⟨(m_it (k' := 0) hB (by omega) (nAd_0 σ 0) ha (Int.le_refl _) (by omega)).1, fun m v1 v2 => m = (sg_g σ 123 a - v2).toNat ∧ 0 ≤ v2, fun _ => True, ⟨_, rfl, by omega⟩, ?_, fun v1 r1 _ => h.2 v1 σ (oK_0 v1) rfl (sg_F_r _ _)⟩, fun _ => aQ_f h (by decide)⟩
  rintro m v1 v2 r1 r2 ⟨em, h0⟩
  exact ⟨fun _ => trivial, fun c => ⟨(m_it (k' := 0) hB (by omega) (nAd_0 σ 0) ha h0 c).1, hn, ⟨fun _ => ⟨fun _ => trivial, fun _ => trivial⟩, fun _ => ⟨fun _ => trivial, fun _ => trivial⟩⟩, fun v28 _ _ => ⟨⟨by omega, by omega⟩, _, by omega, rfl, by omega⟩⟩⟩
theorem m_scan (hB : nB σ) (ha : vT σ 1 a) (h : aQ σ 1 Q) : V_acted_21 σ a (sg_g σ 88 60) Q := by
  have h9 := vT_9 hB ha
  unfold V_acted_21
  refine ⟨fun m v1 v σ3 => m = (sg_g σ 123 a - v).toNat ∧ (0 ≤ v ∧ v ≤ sg_g σ 123 a) ∧ nAd σ σ3 0 v, fun σ3 => nAd σ σ3 0 (sg_g σ 123 a), ⟨_, rfl, ⟨by omega, by omega⟩, nAd_0 σ 0⟩, ?_, fun σ3 f3 h3 => ⟨h9.1, m_seqA hB h9.2 h3 rfl (by decide) (fun q σ' x1 x2 _ _ => h.2 q σ' x1 ?_ ?_)⟩⟩
  · rintro m v1 v σ3 r1 rv f3 ⟨em, hv, hA⟩
    refine ⟨h9.1, fun z => ?_, fun z => m_addA hB (by omega) hA r1 trivial (fun σ' x1 _ x2 _ => ⟨(m_it hB (by omega) x1 ha hv.1 z).1, ⟨by omega, by omega⟩, _, ?_, rfl, ⟨by omega, by omega⟩, x1⟩)⟩
    · rw [show sg_g σ 123 a = v by omega]; exact hA
    · omega
  · rw [sg_F_g x2 (by rfl), sg_F_g f3 (by rfl)]
  · exact sg_F_t (sg_F_m f3 rfl) (sg_F_m x2 rfl)
theorem m_rev (hB : nB σ) (hn : 0 ≤ n ∧ n < 210) (hk : k ≤ 2) (hT : sg_g σ 101 n = ((k + 1 : Nat) : Int)) (ha : vT σ (k + 1) a) (h : aQ σ (k + 1) Q) : V_acted_22 σ n a (sg_g σ 88 60) Q := by
  have h9 := vT_9 hB ha
  unfold V_acted_22
  refine ⟨h9.1, ⟨by omega, by omega⟩, fun m v σ3 => m = (v + 1).toNat ∧ (-1 ≤ v ∧ v < sg_g σ 123 a) ∧ nAd σ σ3 k (sg_g σ 123 a - 1 - v), fun σ3 => nAd σ σ3 k (sg_g σ 123 a), ⟨_, rfl, ⟨by omega, by omega⟩, ?_⟩, ?_, fun σ3 f3 h3 => ⟨hn, m_seqA hB h9.2 h3 hT hk (fun q σ' x1 x2 _ _ => h.2 q σ' x1 ?_ ?_)⟩⟩
  · rw [show sg_g σ 123 a - 1 - (sg_g σ 123 a - 1) = 0 by omega]; exact nAd_0 σ k
  · rintro m v σ3 rv f3 ⟨em, hv, hA⟩
    refine ⟨fun z => ?_, fun z => ?_⟩
    · rw [show sg_g σ 123 a - 1 - v = sg_g σ 123 a by omega] at hA; exact hA
    · have t := m_it hB (by omega) hA ha z hv.2
      refine ⟨t.1, m_addA hB (by omega) hA (sg_Rg _ _ _) t.2 (fun σ' x1 _ x2 _ => ⟨⟨by omega, by omega⟩, _, ?_, rfl, ⟨by omega, by omega⟩, ?_⟩)⟩
      · omega
      · rw [show sg_g σ 123 a - 1 - (v + -1) = sg_g σ 123 a - 1 - v + 1 by omega]; exact x1
  · rw [sg_F_g x2 (by rfl), sg_F_g f3 (by rfl)]
  · exact sg_F_t (sg_F_m f3 rfl) (sg_F_m x2 rfl)
theorem m_cat (hB : nB σ) (hn : 0 ≤ n ∧ n < 210) (hk : k ≤ 2) (hT : sg_g σ 101 n = ((k + 1 : Nat) : Int)) (ha : vT σ (k + 1) a) (hb : vT σ (k + 1) b) (h : aQ σ (k + 1) Q) : V_acted_23 σ n a b (sg_g σ 88 60) Q := by
  have h9 := vT_9 hB ha
  have g9 := vT_9 hB hb
  unfold V_acted_23
  refine ⟨h9.1, g9.1, ⟨by omega, by omega⟩, fun c => ?_, fun _ => aQ_f h (by decide)⟩
  refine ⟨fun m v σ3 => m = (sg_g σ 123 a + sg_g σ 123 b - v).toNat ∧ (0 ≤ v ∧ v ≤ sg_g σ 123 a + sg_g σ 123 b) ∧ nAd σ σ3 k v, fun σ3 => nAd σ σ3 k (sg_g σ 123 a + sg_g σ 123 b), ⟨_, rfl, ⟨by omega, by omega⟩, nAd_0 σ k⟩, ?_, fun σ3 f3 h3 => ⟨hn, m_seqA hB ⟨by omega, c⟩ h3 hT hk (fun q σ' x1 x2 _ _ => h.2 q σ' x1 ?_ ?_)⟩⟩
  · rintro m v σ3 rv f3 ⟨em, hv, hA⟩
    refine ⟨fun z => ?_, fun z => ⟨⟨fun y => ⟨⟨by omega, by omega⟩, (m_it hB (by omega) hA hb (by omega) (by omega)).1, trivial⟩, fun y => ⟨(m_it hB (by omega) hA ha hv.1 y).1, trivial⟩⟩, fun v30 e30 r30 => m_addA hB (by omega) hA r30 ?_ (fun σ' x1 _ x2 _ => ⟨⟨by omega, by omega⟩, _, ?_, rfl, ⟨by omega, by omega⟩, x1⟩)⟩⟩
    · rw [show sg_g σ 123 a + sg_g σ 123 b = v by omega]; exact hA
    · rw [e30]
      by_cases y : sg_g σ 123 a ≤ v
      · rw [if_pos y]; exact (m_it hB (by omega) hA hb (by omega) (by omega)).2
      · rw [if_neg y]; exact (m_it hB (by omega) hA ha hv.1 (by omega)).2
    · omega
  · rw [sg_F_g x2 (by rfl), sg_F_g f3 (by rfl)]
  · exact sg_F_t (sg_F_m f3 rfl) (sg_F_m x2 rfl)
theorem m_pack (hB : nB σ) (hn : 0 ≤ n ∧ n < 210) (hk : k ≤ 2) (hT : sg_g σ 101 n = ((k + 1 : Nat) : Int)) (ha : vT σ (k + 1) a) (hb : vT σ 1 b) (h : aQ σ (k + 1) Q) : V_acted_25 σ n a b (sg_g σ 88 60) Q := by
  have h9 := vT_9 hB ha
  have g9 := vT_9 hB hb
  have b3 := hB.2
  unfold V_acted_25
  refine ⟨h9.1, g9.1, fun c => ?_, fun _ => aQ_f h (by decide)⟩
  refine ⟨fun m v σ3 => m = (sg_g σ 123 a - v).toNat ∧ (0 ≤ v ∧ v ≤ sg_g σ 123 a) ∧ ∃ j, (0 ≤ j ∧ j ≤ v) ∧ nAd σ σ3 k j, fun σ3 => ∃ j, (0 ≤ j ∧ j ≤ 200) ∧ nAd σ σ3 k j, ⟨_, rfl, ⟨by omega, by omega⟩, 0, ⟨by omega, by omega⟩, nAd_0 σ k⟩, ?_, ?_⟩
  · rintro m v σ3 rv f3 ⟨em, hv, j, hj, hA⟩
    refine ⟨fun z => ⟨j, ⟨hj.1, by omega⟩, hA⟩, fun z => ⟨(m_it hB (by omega) hA hb hv.1 (by omega)).1, fun σ33 => ∃ j, (0 ≤ j ∧ j ≤ v + 1) ∧ nAd σ σ33 k j, ⟨fun _ => ⟨j, ⟨hj.1, by omega⟩, hA⟩, fun _ => ?_⟩, fun σ33 f33 h33 => ⟨⟨by omega, by omega⟩, _, ?_, rfl, ⟨by omega, by omega⟩, h33⟩⟩⟩
    · have t := m_it hB (by omega) hA ha hv.1 z
      exact ⟨t.1, m_addA hB (by omega) hA (sg_Rg _ _ _) t.2 (fun σ' x1 _ x2 _ => ⟨j + 1, ⟨by omega, by omega⟩, x1⟩)⟩
    · omega
  · rintro σ3 f3 ⟨j, hj, hA⟩
    have e := hA.2.2.1
    refine ⟨⟨by omega, by omega⟩, hn, ?_⟩
    rw [show sg_g σ3 88 60 - sg_g σ 88 60 = j by omega]
    refine m_seqA hB hj hA hT hk (fun q σ' x1 x2 _ _ => h.2 q σ' x1 ?_ ?_)
    · rw [sg_F_g x2 (by rfl), sg_F_g f3 (by rfl)]
    · exact sg_F_t (sg_F_m f3 rfl) (sg_F_m x2 rfl)
end ACT
