/-! The value of a nested run is shown: no more than what it counts. -/
/-- what is left of sequence v (of type k + 1) from item i on -/
def rC (σ : sg_S) (k : Nat) (v i : Int) : Int := (sg_g σ 123 v - i) + (sK σ (sg_g σ 122 v) (sg_g σ 123 v).toNat k - sK σ (sg_g σ 122 v) i.toNat k)
theorem rC_0 {σ : sg_S} {k : Nat} {v : Int} (h : vT σ (k + 1) v) : rC σ k v 0 = sg_gl σ 124 v := by
  have e := h.2.2.1.2.2
  unfold rC
  rw [e]
  have : sK σ (sg_g σ 122 v) (0 : Int).toNat k = 0 := by cases k <;> rfl
  rw [this]
  omega
theorem rC_s0 {σ : sg_S} {v i : Int} : rC σ 0 v i = rC σ 0 v (i + 1) + 1 := by
  unfold rC
  simp only [sK]
  omega
theorem rC_s1 {σ : sg_S} {k : Nat} {v i : Int} (i0 : 0 ≤ i) : rC σ (k + 1) v i = rC σ (k + 1) v (i + 1) + 1 + sg_gl σ 124 (v_itemAt σ v i) := by
  unfold rC v_itemAt
  simp only [sK]
  rw [show (i + 1).toNat = i.toNat + 1 by omega]
  simp only [sC]
  rw [show ((i.toNat : Nat) : Int) = i by omega]
  omega
theorem sC_m {σ : sg_S} {p : Int} : ∀ {i j : Nat}, i ≤ j → (∀ l : Nat, l < j → 0 ≤ sg_gl σ 124 (sg_g σ 125 (p + l))) → sC σ p i ≤ sC σ p j
  | i, 0, h, _ => by
    have : i = 0 := by omega
    subst this
    exact Int.le_refl _
  | i, j + 1, h, g => by
    by_cases e : i = j + 1
    · subst e; exact Int.le_refl _
    · have a := sC_m (σ := σ) (p := p) (i := i) (j := j) (by omega) (fun l x => g l (by omega))
      have b := g j (by omega)
      simp only [sC]
      omega
theorem rC_n {σ : sg_S} {k : Nat} {v i : Int} (h : vT σ (k + 1) v) (i0 : 0 ≤ i) (i1 : i ≤ sg_g σ 123 v) : 0 ≤ rC σ k v i := by
  unfold rC
  cases k with
  | zero => simp only [sK]; omega
  | succ k =>
    simp only [sK]
    have := sC_m (σ := σ) (p := sg_g σ 122 v) (i := i.toNat) (j := (sg_g σ 123 v).toNat) (by omega) (fun l x => vT_c0 (h.2.2.2 l (by omega) (by omega)))
    omega
def ph (σ σ' : sg_S) (K : Nat) : Nat → Int
  | 0 => 0
  | d + 1 => ph σ σ' K d + (14 * rC σ (K - 1 - d) (sg_g σ' 137 d) (sg_g σ' 138 d) + 1)
def pt (σ σ' : sg_S) (K : Nat) : Nat → Prop
  | 0 => True
  | d + 1 => pt σ σ' K d ∧ vT σ (K - 1 - d + 1) (sg_g σ' 137 d) ∧ 0 ≤ sg_g σ' 138 d ∧ sg_g σ' 138 d ≤ sg_g σ 123 (sg_g σ' 137 d)
theorem ph_e {σ σ1 σ2 : sg_S} {K : Nat} : ∀ {d : Nat}, (∀ i : Nat, i < d → sg_g σ2 137 i = sg_g σ1 137 i ∧ sg_g σ2 138 i = sg_g σ1 138 i) → ph σ σ2 K d = ph σ σ1 K d ∧ (pt σ σ1 K d → pt σ σ2 K d)
  | 0, _ => ⟨rfl, fun h => h⟩
  | d + 1, h => by
    obtain ⟨a, b⟩ := ph_e (d := d) (fun i x => h i (by omega))
    obtain ⟨c1, c2⟩ := h d (by omega)
    refine ⟨by simp only [ph]; rw [a, c1, c2], fun p => ?_⟩
    obtain ⟨p1, p2⟩ := p
    refine ⟨b p1, ?_⟩
    rw [c1, c2]
    exact p2
theorem ph_n {σ σ' : sg_S} {K : Nat} : ∀ {d : Nat}, pt σ σ' K d → (d : Int) ≤ ph σ σ' K d
  | 0, _ => Int.le_refl _
  | d + 1, ⟨p1, p2, p3, p4⟩ => by
    have := ph_n p1
    have := rC_n p2 p3 p4
    simp only [ph]
    omega
section SHN
variable {σ : sg_S} {Q : sg_S → Prop}
/-- the state of showing at depth d -/
def shI (σ : sg_S) (K : Nat) (n : Nat) (v : Int) (σ' : sg_S) : Prop := ∃ d : Nat, v = d ∧ d ≤ K ∧ pt σ σ' K d ∧ 0 ≤ sg_g σ' 88 78 ∧ sg_g σ' 88 78 + ph σ σ' K d ≤ 50000 ∧ n = (ph σ σ' K d).toNat
theorem m_showV {K : Nat} (he : sg_g σ 88 53 = 0) (hr : 0 ≤ sg_g σ 88 27 ∧ sg_g σ 88 27 < 210) (hT : sg_g σ 101 (sg_g σ 88 27) = K) (hK : K ≤ 3) (hq : sg_g σ 88 56 ≤ 9000 ∧ sg_g σ 88 60 ≤ 12000) (hv : vU σ K (sg_g σ 133 0)) (k : ∀ σ', (0 ≤ sg_g σ' 88 76 ∧ sg_g σ' 88 76 ≤ 80000) → sg_F [136, 137, 138, 77088, 79088] σ σ' → Q σ') : V_showNested σ Q := by
  unfold V_showNested
  intro σ1 e1
  have F1 : sg_F [136, 137, 138, 77088, 79088] σ σ1 := by rw [e1]; exact sg_F_w (sg_F_r _ _) rfl _
  have a1 : sg_g σ1 88 78 = 0 := by rw [e1, sg_gw_e _ _ _ _ (by decide)]
  refine ⟨fun z => absurd he z, fun _ => ⟨hr, fun t0 => ⟨fun z => absurd he z, fun _ σ105 e105 σ108 e108 => ?_⟩, fun t0 => ?_⟩⟩
  rotate_left
  · refine m_showN (by omega) (sg_Rg _ _ _) (fun σ195 x1 x2 x3 _ σ200 e200 => k σ200 ?_ ?_)
    · rw [e200, sg_gw_e _ _ _ _ (sg_Rg _ _ _)]; omega
    · rw [e200]; exact sg_F_w (sg_F_t F1 (sg_F_m x3 rfl)) rfl _
  · rw [hT] at t0
    obtain ⟨K', rfl⟩ : ∃ K', K = K' + 1 := ⟨K - 1, by omega⟩
    have F108 : sg_F [136, 137, 138, 77088, 79088] σ σ108 := by rw [e108, e105]; exact sg_F_w (sg_F_w F1 rfl _) rfl _
    have a108 : sg_g σ108 88 78 = 0 := by rw [e108, sg_gw_c _ _ _ _ _ _ (by decide), e105, sg_gw_c _ _ _ _ _ _ (by decide)]; exact a1
    have b108 : sg_g σ108 137 0 = sg_g σ 133 0 := by rw [e108, sg_gw_c _ _ _ _ _ _ (by decide), e105, sg_gw_e _ _ _ _ (sg_Rg _ _ _)]
    have c108 : sg_g σ108 138 0 = 0 := by rw [e108, sg_gw_e _ _ _ _ (by decide)]
    refine m_show (by omega) (fun σ112 x1 x2 _ => ?_)
    have F112 : sg_F [136, 137, 138, 77088, 79088] σ σ112 := sg_F_t F108 (sg_F_m x2 rfl)
    have b112 : sg_g σ112 137 ((0 : Nat) : Int) = sg_g σ 133 0 := (sg_F_ga x2 rfl).trans b108
    have c112 : sg_g σ112 138 ((0 : Nat) : Int) = 0 := (sg_F_ga x2 rfl).trans c108
    have hcv := hv.2 (by omega)
    have hc0 := rC_0 hv.1
    have hm : 0 ≤ sg_g σ 123 (sg_g σ 133 0) := hv.1.2.1.2.1
    refine ⟨shI σ (K' + 1), fun σ22 => 0 ≤ sg_g σ22 88 78 ∧ sg_g σ22 88 78 ≤ 50000, ⟨_, 1, rfl, by omega, ⟨trivial, ?_⟩, by omega, ?_, rfl⟩, ?_, ?_⟩
    · rw [b112, c112]
      exact ⟨hv.1, by omega, hm⟩
    · simp only [ph]
      rw [b112, c112, show K' + 1 - 1 - 0 = K' by omega, hc0]
      omega
    · rintro n v σ22 rv f22 ⟨d, rfl, hd, hp, hs, hb, en⟩
      have hn := ph_n hp
      refine ⟨fun _ => ⟨hs, by omega⟩, fun d0 => ?_⟩
      obtain ⟨e, rfl⟩ : ∃ e, d = e + 1 := ⟨d - 1, by omega⟩
      obtain ⟨p1, p2, p3, p4⟩ := hp
      have hne := ph_n p1
      have hrc := rC_n p2 p3 p4
      have ee : ((e + 1 : Nat) : Int) - 1 = (e : Int) := by omega
      rw [ee]
      have eph : ph σ σ22 (K' + 1) (e + 1) = ph σ σ22 (K' + 1) e + (14 * rC σ (K' + 1 - 1 - e) (sg_g σ22 137 e) (sg_g σ22 138 e) + 1) := rfl
      have v9 := p2.1
      have m200 := p2.2.1
      refine ⟨⟨by omega, by omega⟩, ⟨by omega, by omega⟩, ⟨v9.1, by omega⟩, fun v48 σ46 => ∃ d' : Nat, v48 = d' ∧ d' ≤ K' + 1 ∧ pt σ σ46 (K' + 1) d' ∧ 0 ≤ sg_g σ46 88 78 ∧ sg_g σ46 88 78 + ph σ σ46 (K' + 1) d' ≤ 50000 ∧ ph σ σ46 (K' + 1) d' < ph σ σ22 (K' + 1) (e + 1), ⟨fun ne => ?_, fun eq => ?_⟩, ?_⟩
      · have il : sg_g σ22 138 e < sg_g σ 123 (sg_g σ22 137 e) := by omega
        have it := vT_it hq.1 hq.2 p2 p3 il
        refine ⟨fun σ55 => sg_g σ22 88 78 ≤ sg_g σ55 88 78 ∧ sg_g σ55 88 78 ≤ sg_g σ22 88 78 + 1, ⟨fun _ => ⟨by omega, by omega⟩, fun _ => m_show (by omega) (fun σ' y1 y2 _ => ⟨by omega, by omega⟩)⟩, fun σ55 f55 p55 => ⟨it.1, ⟨by omega, by omega⟩, fun σ61 e61 => ?_⟩⟩
        have g7 : ∀ j, sg_g σ61 137 j = sg_g σ22 137 j := fun j => by rw [e61, sg_gw_c _ _ _ _ _ _ (by decide), sg_F_ga f55 rfl]
        have g8 : ∀ j, ¬ j = (e : Int) → sg_g σ61 138 j = sg_g σ22 138 j := fun j hj => by rw [e61, sg_gw_k _ _ _ _ _ _ hj, sg_F_ga f55 rfl]
        have g8e : sg_g σ61 138 e = sg_g σ22 138 e + 1 := by rw [e61, sg_gw_e _ _ _ _ ⟨by omega, by omega⟩]
        have g78 : sg_g σ61 88 78 = sg_g σ55 88 78 := by rw [e61, sg_gw_c _ _ _ _ _ _ (by decide)]
        rw [hT]
        refine ⟨fun t => ?_, fun t => ?_⟩
        · refine ⟨⟨by omega, by omega⟩, fun σ162 e162 σ165 e165 => m_show ?_ (fun σ169 y1 y2 _ => ⟨⟨by omega, by omega⟩, e + 2, by omega, by omega, ?_⟩)⟩
          · rw [e165, sg_gw_c _ _ _ _ _ _ (by decide), e162, sg_gw_c _ _ _ _ _ _ (by decide)]; omega
          · have q78 : sg_g σ165 88 78 = sg_g σ61 88 78 := by rw [e165, sg_gw_c _ _ _ _ _ _ (by decide), e162, sg_gw_c _ _ _ _ _ _ (by decide)]
            have h7 : ∀ j, ¬ j = ((e + 1 : Nat) : Int) → sg_g σ169 137 j = sg_g σ22 137 j := fun j hj => by rw [sg_F_ga y2 rfl, e165, sg_gw_c _ _ _ _ _ _ (by decide), e162, sg_gw_k _ _ _ _ _ _ hj]; exact g7 j
            have h8 : ∀ j, ¬ j = ((e + 1 : Nat) : Int) → sg_g σ169 138 j = sg_g σ61 138 j := fun j hj => by rw [sg_F_ga y2 rfl, e165, sg_gw_k _ _ _ _ _ _ hj, e162, sg_gw_c _ _ _ _ _ _ (by decide)]
            have h7n : sg_g σ169 137 ((e + 1 : Nat) : Int) = v_itemAt σ (sg_g σ22 137 e) (sg_g σ22 138 e) := by rw [sg_F_ga y2 rfl, e165, sg_gw_c _ _ _ _ _ _ (by decide), e162, sg_gw_e _ _ _ _ (by unfold v_itemAt; exact sg_Rg _ _ _)]
            have h8n : sg_g σ169 138 ((e + 1 : Nat) : Int) = 0 := by rw [sg_F_ga y2 rfl, e165, sg_gw_e _ _ _ _ (by decide)]
            have h7e := h7 e (by omega)
            have h8e := (h8 e (by omega)).trans g8e
            obtain ⟨q1, q2⟩ := ph_e (σ := σ) (σ1 := σ22) (σ2 := σ169) (K := K' + 1) (d := e) (fun i hi => ⟨h7 i (by omega), by rw [h8 i (by omega)]; exact g8 i (by omega)⟩)
            have ke : K' + 1 - 1 - e = (K' + 1 - 1 - (e + 1)) + 1 := by omega
            have iv := it.2
            rw [ke] at iv
            rw [ke] at eph
            have s1 := rC_s1 (σ := σ) (k := K' + 1 - 1 - (e + 1)) (v := sg_g σ22 137 e) p3
            have r0 := rC_0 iv
            have im := iv.2.1.2.1
            refine ⟨⟨⟨q2 p1, ?_⟩, ?_⟩, by omega, ?_, ?_⟩
            · rw [h7e, h8e]; exact ⟨p2, by omega, by omega⟩
            · rw [h7n, h8n]; exact ⟨iv, by omega, im⟩
            · simp only [ph]
              rw [q1, h7e, h8e, h7n, h8n, r0, ke]
              omega
            · simp only [ph]
              simp only [ph] at eph
              rw [q1, h7e, h8e, h7n, h8n, r0, ke]
              omega
        · refine m_showN (by omega) (by unfold v_itemAt; exact sg_Rg _ _ _) (fun σ176 y1 y3 y2 _ => ⟨e + 1, rfl, by omega, ?_⟩)
          have h7e : sg_g σ176 137 e = sg_g σ22 137 e := (sg_F_ga y2 rfl).trans (g7 e)
          have h8e : sg_g σ176 138 e = sg_g σ22 138 e + 1 := (sg_F_ga y2 rfl).trans g8e
          obtain ⟨q1, q2⟩ := ph_e (σ := σ) (σ1 := σ22) (σ2 := σ176) (K := K' + 1) (d := e) (fun i hi => ⟨(sg_F_ga y2 rfl).trans (g7 i), (sg_F_ga y2 rfl).trans (g8 i (by omega))⟩)
          have ke : K' + 1 - 1 - e = 0 := by omega
          rw [ke] at eph
          have s1 := rC_s0 (σ := σ) (v := sg_g σ22 137 e) (i := sg_g σ22 138 e)
          refine ⟨⟨q2 p1, ?_⟩, by omega, ?_, ?_⟩
          · rw [h7e, h8e]; exact ⟨p2, by omega, by omega⟩
          · simp only [ph]
            rw [q1, h7e, h8e, ke]
            omega
          · simp only [ph]
            simp only [ph] at eph
            rw [q1, h7e, h8e, ke]
            omega
      · refine m_show (by omega) (fun σ188 y1 y2 _ => ⟨⟨by omega, by omega⟩, e, by omega, by omega, ?_⟩)
        obtain ⟨q1, q2⟩ := ph_e (σ := σ) (σ1 := σ22) (σ2 := σ188) (K := K' + 1) (d := e) (fun i hi => ⟨sg_F_ga y2 rfl, sg_F_ga y2 rfl⟩)
        exact ⟨q2 p1, by omega, by rw [q1]; omega, by rw [q1]; omega⟩
      · rintro v48 σ46 r48 f46 ⟨d', rfl, h1, h2, h3, h4, h5⟩
        exact ⟨_, by have := ph_n h2; omega, d', rfl, h1, h2, h3, h4, rfl⟩
    · rintro σ22 f22 ⟨q1, q2⟩ σ132 e132
      refine k σ132 ?_ ?_
      · rw [e132, sg_gw_e _ _ _ _ (sg_Rg _ _ _)]; omega
      · rw [e132]; exact sg_F_w (sg_F_t F112 (sg_F_m f22 rfl)) rfl _
/-- a run that came to no value shows nothing -/
theorem m_showZ (he : ¬ sg_g σ 88 53 = 0) (k : ∀ σ', (0 ≤ sg_g σ' 88 76 ∧ sg_g σ' 88 76 ≤ 80000) → sg_F [136, 137, 138, 77088, 79088] σ σ' → Q σ') : V_showNested σ Q := by
  unfold V_showNested
  intro σ1 e1
  refine ⟨fun _ => ⟨fun _ σ6 e6 => k σ6 ?_ ?_, fun z => absurd z he⟩, fun z => absurd z he⟩
  · rw [e6, sg_gw_e _ _ _ _ (by decide)]; decide
  · rw [e6, e1]; exact sg_F_w (sg_F_w (sg_F_r _ _) rfl _) rfl _
end SHN
