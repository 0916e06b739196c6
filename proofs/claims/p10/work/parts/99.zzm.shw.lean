/-! What is shown: numbers, and the value of a nested run. -/
theorem dvl {a b : Int} (ha : 0 ≤ a ∧ a ≤ 4611686018427387904) (hb : 0 < b ∧ b ≤ 4611686018427387904) : (sg_l a / sg_l b).toInt = a / b := by
  have e1 : (sg_l a).toInt = a := sg_idl (z := a) ⟨by omega, by omega⟩
  have e2 : (sg_l b).toInt = b := sg_idl (z := b) ⟨by omega, by omega⟩
  have q0 : 0 ≤ a / b := Int.ediv_nonneg ha.1 (by omega)
  have q1 : a / b ≤ a := Int.ediv_le_self _ ha.1
  rw [Int64.toInt_div, e1, e2, Int.tdiv_eq_ediv_of_nonneg ha.1, Int.bmod_eq_of_le (by omega) (by omega)]
theorem rml {a : Int} (ha : 0 ≤ a ∧ a ≤ 4611686018427387904) : (sg_l a - sg_l a / sg_l 10 * sg_l 10).toInt = a % 10 := by
  have e1 : (sg_l a).toInt = a := sg_idl (z := a) ⟨by omega, by omega⟩
  have e3 : (sg_l 10).toInt = 10 := by decide
  have d := dvl (b := 10) ha ⟨by decide, by decide⟩
  rw [Int64.toInt_sub, Int64.toInt_mul, d, e1, e3, Int.bmod_eq_of_le (n := a / 10 * 10) (by omega) (by omega), Int.bmod_eq_of_le (by omega) (by omega)]
  omega
theorem m_show {σ : sg_S} {c : Int} {Q : sg_S → Prop} (h : 0 ≤ sg_g σ 88 78 ∧ sg_g σ 88 78 < 160000) (k : ∀ σ', sg_g σ' 88 78 = sg_g σ 88 78 + 1 → sg_F [136, 79088] σ σ' → Q σ') : V_show σ c Q := by
  unfold V_show
  refine ⟨h, fun σ2 e2 => ⟨⟨by omega, by omega⟩, fun σ6 e6 => k σ6 ?_ ?_⟩⟩
  · rw [e6, sg_gw_e _ _ _ _ ⟨by omega, by omega⟩]
  · rw [e6, e2]; exact sg_F_w (sg_F_w (sg_F_r _ _) rfl _) rfl _
theorem pow10 {c : Nat} (h : (10 : Int) ^ c ≤ 2147483648) : c ≤ 9 := by
  rcases Nat.lt_or_ge 9 c with q | q
  · exfalso
    have h1 : (10 : Nat) ^ 10 ≤ 10 ^ c := Nat.pow_le_pow_right (by decide) q
    have h2 : ((10 ^ c : Nat) : Int) = (10 : Int) ^ c := by simp
    have h3 : (10 : Nat) ^ 10 = 10000000000 := by decide
    omega
  · exact q
theorem pow10_d {v : Int} {c : Nat} (h0 : 0 ≤ v) (h : v * 10 ^ c ≤ 2147483648) : v / 10 * 10 ^ (c + 1) ≤ 2147483648 := by
  have p0 : (0 : Int) ≤ 10 ^ c := Int.pow_nonneg (by decide)
  have e : v / 10 * 10 ^ (c + 1) = (v / 10 * 10) * 10 ^ c := by
    rw [Int.pow_succ, Int.mul_comm ((10 : Int) ^ c) 10, ← Int.mul_assoc]
  have : (v / 10 * 10) * (10 : Int) ^ c ≤ v * 10 ^ c := Int.mul_le_mul_of_nonneg_right (by omega) p0
  omega
theorem m_showN {σ : sg_S} {a : Int} {Q : sg_S → Prop} (h : 0 ≤ sg_g σ 88 78 ∧ sg_g σ 88 78 + 11 ≤ 160000) (ha : sg_R a) (k : ∀ σ', sg_g σ 88 78 ≤ sg_g σ' 88 78 → sg_g σ' 88 78 ≤ sg_g σ 88 78 + 11 → sg_F [136, 79088] σ σ' → Q σ') : V_showNumber σ a Q := by
  unfold V_showNumber
  refine ⟨⟨fun _ => trivial, fun _ => ⟨⟨by omega, by omega⟩, trivial⟩⟩, fun v3 e3 r3 => ⟨fun σ9 => sg_g σ 88 78 ≤ sg_g σ9 88 78 ∧ sg_g σ9 88 78 ≤ sg_g σ 88 78 + 1, ⟨fun _ => ⟨by omega, by omega⟩, fun _ => m_show (by omega) (fun σ' x1 x2 _ => ⟨by omega, by omega⟩)⟩, fun σ9 f9 p9 => ?_⟩⟩
  have v3b : 0 ≤ v3 ∧ v3 ≤ 2147483648 := by
    by_cases z : 0 ≤ a
    · rw [if_pos z] at e3; omega
    · rw [if_neg z] at e3; omega
  have dig : ∀ d, 0 < d → d ≤ 2147483648 → sg_RL (48 + ((sg_l (((sg_l v3 / sg_l d).toInt)) - sg_l (((sg_l v3 / sg_l d).toInt)) / sg_l 10 * sg_l 10).toInt)) ∧ sg_R ((48 + ((sg_l (((sg_l v3 / sg_l d).toInt)) - sg_l (((sg_l v3 / sg_l d).toInt)) / sg_l 10 * sg_l 10).toInt))) := fun d d0 d1 => by
    have q0 : 0 ≤ v3 / d := Int.ediv_nonneg v3b.1 (by omega)
    have q1 : v3 / d ≤ v3 := Int.ediv_le_self _ v3b.1
    rw [dvl ⟨v3b.1, by omega⟩ ⟨d0, by omega⟩, rml ⟨q0, by omega⟩]
    exact ⟨⟨by omega, by omega⟩, ⟨by omega, by omega⟩⟩
  refine ⟨fun n v => n = (2147483649 - v).toNat ∧ 1 ≤ v ∧ v ≤ 2147483648, fun v => 1 ≤ v ∧ v ≤ 2147483648, ⟨_, rfl, by decide, by decide⟩, ?_, ?_⟩
  · rintro n v rv ⟨en, hv1, hv2⟩
    exact ⟨⟨by omega, by omega⟩, fun _ => ⟨hv1, hv2⟩, fun z => ⟨_, by omega, rfl, by omega, by omega⟩⟩
  · rintro v rv ⟨hv1, hv2⟩
    refine ⟨fun z => by omega, fun z => ⟨by omega, (dig v z hv2).1, (dig v z hv2).2, m_show (by omega) (fun σ32 x1 x2 _ => ?_)⟩⟩
    rw [dvl (b := 10) ⟨by omega, by omega⟩ ⟨by decide, by decide⟩]
    refine ⟨fun n w σ38 => n = w.toNat ∧ 0 ≤ w ∧ ∃ c : Nat, w * 10 ^ c ≤ 2147483648 ∧ sg_g σ38 88 78 = sg_g σ9 88 78 + c ∧ c ≤ 10, fun σ38 => sg_g σ9 88 78 ≤ sg_g σ38 88 78 ∧ sg_g σ38 88 78 ≤ sg_g σ9 88 78 + 10, ⟨_, rfl, by omega, 1, by omega, by omega, by decide⟩, ?_, ?_⟩
    · rintro n w σ38 rw' f38 ⟨en, w0, c, c1, c2, c3⟩
      refine ⟨fun _ => ⟨by omega, by omega⟩, fun z => ?_⟩
      have p1 : (10 : Int) ^ c ≤ w * 10 ^ c := by
        have := Int.mul_le_mul_of_nonneg_right (show (1 : Int) ≤ w by omega) (Int.pow_nonneg (by decide) : (0 : Int) ≤ 10 ^ c)
        omega
      have c9 := pow10 (by omega : (10 : Int) ^ c ≤ 2147483648)
      have w1 : w ≤ 2147483648 := by
        have p2 : (1 : Int) ≤ 10 ^ c := Int.pow_pos (by decide)
        have := Int.mul_le_mul_of_nonneg_left p2 w0
        omega
      refine ⟨by omega, (dig w z w1).1, (dig w z w1).2, m_show (by omega) (fun σ57 y1 y2 _ => ?_)⟩
      rw [dvl (b := 10) ⟨by omega, by omega⟩ ⟨by decide, by decide⟩]
      exact ⟨_, by omega, rfl, by omega, c + 1, pow10_d w0 c1, by omega, by omega⟩
    · rintro σ38 f38 ⟨q1, q2⟩
      exact k σ38 (by omega) (by omega) (sg_F_t (sg_F_t f9 x2) f38)
/-! The value of a nested run is shown: no more than what it counts. -/
/-- what is left of sequence v (of type k + 1) from item i on -/
def rC (σ : sg_S) (k : Nat) (v i : Int) : Int := (sg_g σ 123 v - i) + (sK σ (sg_g σ 122 v) (sg_g σ 123 v).toNat k - sK σ (sg_g σ 122 v) i.toNat k)
theorem rC_0 {σ : sg_S} {k : Nat} {v : Int} (h : vT σ (k + 1) v) : rC σ k v 0 = sg_gl σ 124 v := by
  have e := h.2.2.1.2.2
  unfold rC
  rw [e]
  have : sK σ (sg_g σ 122 v) (0 : Int).toNat k = 0 := by cases k <;> rfl
  rw [this]
  omega
theorem rC_s0 {σ : sg_S} {v i : Int} : rC σ 0 v i = rC σ 0 v (i + 1) + 1 := by
  unfold rC
  simp only [sK]
  omega
theorem rC_s1 {σ : sg_S} {k : Nat} {v i : Int} (i0 : 0 ≤ i) : rC σ (k + 1) v i = rC σ (k + 1) v (i + 1) + 1 + sg_gl σ 124 (v_itemAt σ v i) := by
  unfold rC v_itemAt
  simp only [sK]
  rw [show (i + 1).toNat = i.toNat + 1 by omega]
  simp only [sC]
  rw [show ((i.toNat : Nat) : Int) = i by omega]
  omega
theorem sC_m {σ : sg_S} {p : Int} : ∀ {i j : Nat}, i ≤ j → (∀ l : Nat, l < j → 0 ≤ sg_gl σ 124 (sg_g σ 125 (p + l))) → sC σ p i ≤ sC σ p j
  | i, 0, h, _ => by
    have : i = 0 := by omega
    subst this
    exact Int.le_refl _
  | i, j + 1, h, g => by
    by_cases e : i = j + 1
    · subst e; exact Int.le_refl _
    · have a := sC_m (σ := σ) (p := p) (i := i) (j := j) (by omega) (fun l x => g l (by omega))
      have b := g j (by omega)
      simp only [sC]
      omega
theorem rC_n {σ : sg_S} {k : Nat} {v i : Int} (h : vT σ (k + 1) v) (i0 : 0 ≤ i) (i1 : i ≤ sg_g σ 123 v) : 0 ≤ rC σ k v i := by
  unfold rC
  cases k with
  | zero => simp only [sK]; omega
  | succ k =>
    simp only [sK]
    have := sC_m (σ := σ) (p := sg_g σ 122 v) (i := i.toNat) (j := (sg_g σ 123 v).toNat) (by omega) (fun l x => vT_c0 (h.2.2.2 l (by omega) (by omega)))
    omega
def ph (σ σ' : sg_S) (K : Nat) : Nat → Int
  | 0 => 0
  | d + 1 => ph σ σ' K d + (14 * rC σ (K - 1 - d) (sg_g σ' 137 d) (sg_g σ' 138 d) + 1)
def pt (σ σ' : sg_S) (K : Nat) : Nat → Prop
  | 0 => True
  | d + 1 => pt σ σ' K d ∧ vT σ (K - 1 - d + 1) (sg_g σ' 137 d) ∧ 0 ≤ sg_g σ' 138 d ∧ sg_g σ' 138 d ≤ sg_g σ 123 (sg_g σ' 137 d)
theorem ph_e {σ σ1 σ2 : sg_S} {K : Nat} : ∀ {d : Nat}, (∀ i : Nat, i < d → sg_g σ2 137 i = sg_g σ1 137 i ∧ sg_g σ2 138 i = sg_g σ1 138 i) → ph σ σ2 K d = ph σ σ1 K d ∧ (pt σ σ1 K d → pt σ σ2 K d)
  | 0, _ => ⟨rfl, fun h => h⟩
  | d + 1, h => by
    obtain ⟨a, b⟩ := ph_e (d := d) (fun i x => h i (by omega))
    obtain ⟨c1, c2⟩ := h d (by omega)
    refine ⟨by simp only [ph]; rw [a, c1, c2], fun p => ?_⟩
    obtain ⟨p1, p2⟩ := p
    refine ⟨b p1, ?_⟩
    rw [c1, c2]
    exact p2
theorem ph_n {σ σ' : sg_S} {K : Nat} : ∀ {d : Nat}, pt σ σ' K d → (d : Int) ≤ ph σ σ' K d
  | 0, _ => Int.le_refl _
  | d + 1, ⟨p1, p2, p3, p4⟩ => by
    have := ph_n p1
    have := rC_n p2 p3 p4
    simp only [ph]
    omega
section SHN
variable {σ : sg_S} {Q : sg_S → Prop}
/-- the state of showing at depth d -/
def shI (σ : sg_S) (K : Nat) (n : Nat) (v : Int) (σ' : sg_S) : Prop := ∃ d : Nat, v = d ∧ d ≤ K ∧ pt σ σ' K d ∧ 0 ≤ sg_g σ' 88 78 ∧ sg_g σ' 88 78 + ph σ σ' K d ≤ 50000 ∧ n = (ph σ σ' K d).toNat
theorem m_showV {K : Nat} (he : sg_g σ 88 53 = 0) (hr : 0 ≤ sg_g σ 88 27 ∧ sg_g σ 88 27 < 210) (hT : sg_g σ 101 (sg_g σ 88 27) = K) (hK : K ≤ 3) (hq : sg_g σ 88 56 ≤ 9000 ∧ sg_g σ 88 60 ≤ 12000) (hv : vU σ K (sg_g σ 133 0)) (k : ∀ σ', (0 ≤ sg_g σ' 88 76 ∧ sg_g σ' 88 76 ≤ 80000) → sg_F [136, 137, 138, 77088, 79088] σ σ' → Q σ') : V_showNested σ Q := by
  unfold V_showNested
  intro σ1 e1
  have F1 : sg_F [136, 137, 138, 77088, 79088] σ σ1 := by rw [e1]; exact sg_F_w (sg_F_r _ _) rfl _
  have a1 : sg_g σ1 88 78 = 0 := by rw [e1, sg_gw_e _ _ _ _ (by decide)]
  refine ⟨fun z => absurd he z, fun _ => ⟨hr, fun t0 => ⟨fun z => absurd he z, fun _ σ105 e105 σ108 e108 => ?_⟩, fun t0 => ?_⟩⟩
  rotate_left
  · refine m_showN (by omega) (sg_Rg _ _ _) (fun σ195 x1 x2 x3 _ σ200 e200 => k σ200 ?_ ?_)
    · rw [e200, sg_gw_e _ _ _ _ (sg_Rg _ _ _)]; omega
    · rw [e200]; exact sg_F_w (sg_F_t F1 (sg_F_m x3 rfl)) rfl _
  · rw [hT] at t0
    obtain ⟨K', rfl⟩ : ∃ K', K = K' + 1 := ⟨K - 1, by omega⟩
    have F108 : sg_F [136, 137, 138, 77088, 79088] σ σ108 := by rw [e108, e105]; exact sg_F_w (sg_F_w F1 rfl _) rfl _
    have a108 : sg_g σ108 88 78 = 0 := by rw [e108, sg_gw_c _ _ _ _ _ _ (by decide), e105, sg_gw_c _ _ _ _ _ _ (by decide)]; exact a1
    have b108 : sg_g σ108 137 0 = sg_g σ 133 0 := by rw [e108, sg_gw_c _ _ _ _ _ _ (by decide), e105, sg_gw_e _ _ _ _ (sg_Rg _ _ _)]
    have c108 : sg_g σ108 138 0 = 0 := by rw [e108, sg_gw_e _ _ _ _ (by decide)]
    refine m_show (by omega) (fun σ112 x1 x2 _ => ?_)
    have F112 : sg_F [136, 137, 138, 77088, 79088] σ σ112 := sg_F_t F108 (sg_F_m x2 rfl)
    have b112 : sg_g σ112 137 ((0 : Nat) : Int) = sg_g σ 133 0 := (sg_F_ga x2 rfl).trans b108
    have c112 : sg_g σ112 138 ((0 : Nat) : Int) = 0 := (sg_F_ga x2 rfl).trans c108
    have hcv := hv.2 (by omega)
    have hc0 := rC_0 hv.1
    have hm : 0 ≤ sg_g σ 123 (sg_g σ 133 0) := hv.1.2.1.2.1
    refine ⟨shI σ (K' + 1), fun σ22 => 0 ≤ sg_g σ22 88 78 ∧ sg_g σ22 88 78 ≤ 50000, ⟨_, 1, rfl, by omega, ⟨trivial, ?_⟩, by omega, ?_, rfl⟩, ?_, ?_⟩
    · rw [b112, c112]
      exact ⟨hv.1, by omega, hm⟩
    · simp only [ph]
      rw [b112, c112, show K' + 1 - 1 - 0 = K' by omega, hc0]
      omega
    · rintro n v σ22 rv f22 ⟨d, rfl, hd, hp, hs, hb, en⟩
      have hn := ph_n hp
      refine ⟨fun _ => ⟨hs, by omega⟩, fun d0 => ?_⟩
      obtain ⟨e, rfl⟩ : ∃ e, d = e + 1 := ⟨d - 1, by omega⟩
      obtain ⟨p1, p2, p3, p4⟩ := hp
      have hne := ph_n p1
      have hrc := rC_n p2 p3 p4
      have ee : ((e + 1 : Nat) : Int) - 1 = (e : Int) := by omega
      rw [ee]
      have eph : ph σ σ22 (K' + 1) (e + 1) = ph σ σ22 (K' + 1) e + (14 * rC σ (K' + 1 - 1 - e) (sg_g σ22 137 e) (sg_g σ22 138 e) + 1) := rfl
      have v9 := p2.1
      have m200 := p2.2.1
      refine ⟨⟨by omega, by omega⟩, ⟨by omega, by omega⟩, ⟨v9.1, by omega⟩, fun v48 σ46 => ∃ d' : Nat, v48 = d' ∧ d' ≤ K' + 1 ∧ pt σ σ46 (K' + 1) d' ∧ 0 ≤ sg_g σ46 88 78 ∧ sg_g σ46 88 78 + ph σ σ46 (K' + 1) d' ≤ 50000 ∧ ph σ σ46 (K' + 1) d' < ph σ σ22 (K' + 1) (e + 1), ⟨fun ne => ?_, fun eq => ?_⟩, ?_⟩
      · have il : sg_g σ22 138 e < sg_g σ 123 (sg_g σ22 137 e) := by omega
        have it := vT_it hq.1 hq.2 p2 p3 il
        refine ⟨fun σ55 => sg_g σ22 88 78 ≤ sg_g σ55 88 78 ∧ sg_g σ55 88 78 ≤ sg_g σ22 88 78 + 1, ⟨fun _ => ⟨by omega, by omega⟩, fun _ => m_show (by omega) (fun σ' y1 y2 _ => ⟨by omega, by omega⟩)⟩, fun σ55 f55 p55 => ⟨it.1, ⟨by omega, by omega⟩, fun σ61 e61 => ?_⟩⟩
        have g7 : ∀ j, sg_g σ61 137 j = sg_g σ22 137 j := fun j => by rw [e61, sg_gw_c _ _ _ _ _ _ (by decide), sg_F_ga f55 rfl]
        have g8 : ∀ j, ¬ j = (e : Int) → sg_g σ61 138 j = sg_g σ22 138 j := fun j hj => by rw [e61, sg_gw_k _ _ _ _ _ _ hj, sg_F_ga f55 rfl]
        have g8e : sg_g σ61 138 e = sg_g σ22 138 e + 1 := by rw [e61, sg_gw_e _ _ _ _ ⟨by omega, by omega⟩]
        have g78 : sg_g σ61 88 78 = sg_g σ55 88 78 := by rw [e61, sg_gw_c _ _ _ _ _ _ (by decide)]
        rw [hT]
        refine ⟨fun t => ?_, fun t => ?_⟩
        · refine ⟨⟨by omega, by omega⟩, fun σ162 e162 σ165 e165 => m_show ?_ (fun σ169 y1 y2 _ => ⟨⟨by omega, by omega⟩, e + 2, by omega, by omega, ?_⟩)⟩
          · rw [e165, sg_gw_c _ _ _ _ _ _ (by decide), e162, sg_gw_c _ _ _ _ _ _ (by decide)]; omega
          · have q78 : sg_g σ165 88 78 = sg_g σ61 88 78 := by rw [e165, sg_gw_c _ _ _ _ _ _ (by decide), e162, sg_gw_c _ _ _ _ _ _ (by decide)]
            have h7 : ∀ j, ¬ j = ((e + 1 : Nat) : Int) → sg_g σ169 137 j = sg_g σ22 137 j := fun j hj => by rw [sg_F_ga y2 rfl, e165, sg_gw_c _ _ _ _ _ _ (by decide), e162, sg_gw_k _ _ _ _ _ _ hj]; exact g7 j
            have h8 : ∀ j, ¬ j = ((e + 1 : Nat) : Int) → sg_g σ169 138 j = sg_g σ61 138 j := fun j hj => by rw [sg_F_ga y2 rfl, e165, sg_gw_k _ _ _ _ _ _ hj, e162, sg_gw_c _ _ _ _ _ _ (by decide)]
            have h7n : sg_g σ169 137 ((e + 1 : Nat) : Int) = v_itemAt σ (sg_g σ22 137 e) (sg_g σ22 138 e) := by rw [sg_F_ga y2 rfl, e165, sg_gw_c _ _ _ _ _ _ (by decide), e162, sg_gw_e _ _ _ _ (by unfold v_itemAt; exact sg_Rg _ _ _)]
            have h8n : sg_g σ169 138 ((e + 1 : Nat) : Int) = 0 := by rw [sg_F_ga y2 rfl, e165, sg_gw_e _ _ _ _ (by decide)]
            have h7e := h7 e (by omega)
            have h8e := (h8 e (by omega)).trans g8e
            obtain ⟨q1, q2⟩ := ph_e (σ := σ) (σ1 := σ22) (σ2 := σ169) (K := K' + 1) (d := e) (fun i hi => ⟨h7 i (by omega), by rw [h8 i (by omega)]; exact g8 i (by omega)⟩)
            have ke : K' + 1 - 1 - e = (K' + 1 - 1 - (e + 1)) + 1 := by omega
            have iv := it.2
            rw [ke] at iv
            rw [ke] at eph
            have s1 := rC_s1 (σ := σ) (k := K' + 1 - 1 - (e + 1)) (v := sg_g σ22 137 e) p3
            have r0 := rC_0 iv
            have im := iv.2.1.2.1
            refine ⟨⟨⟨q2 p1, ?_⟩, ?_⟩, by omega, ?_, ?_⟩
            · rw [h7e, h8e]; exact ⟨p2, by omega, by omega⟩
            · rw [h7n, h8n]; exact ⟨iv, by omega, im⟩
            · simp only [ph]
              rw [q1, h7e, h8e, h7n, h8n, r0, ke]
              omega
            · simp only [ph]
              simp only [ph] at eph
              rw [q1, h7e, h8e, h7n, h8n, r0, ke]
              omega
        · refine m_showN (by omega) (by unfold v_itemAt; exact sg_Rg _ _ _) (fun σ176 y1 y3 y2 _ => ⟨e + 1, rfl, by omega, ?_⟩)
          have h7e : sg_g σ176 137 e = sg_g σ22 137 e := (sg_F_ga y2 rfl).trans (g7 e)
          have h8e : sg_g σ176 138 e = sg_g σ22 138 e + 1 := (sg_F_ga y2 rfl).trans g8e
          obtain ⟨q1, q2⟩ := ph_e (σ := σ) (σ1 := σ22) (σ2 := σ176) (K := K' + 1) (d := e) (fun i hi => ⟨(sg_F_ga y2 rfl).trans (g7 i), (sg_F_ga y2 rfl).trans (g8 i (by omega))⟩)
          have ke : K' + 1 - 1 - e = 0 := by omega
          rw [ke] at eph
          have s1 := rC_s0 (σ := σ) (v := sg_g σ22 137 e) (i := sg_g σ22 138 e)
          refine ⟨⟨q2 p1, ?_⟩, by omega, ?_, ?_⟩
          · rw [h7e, h8e]; exact ⟨p2, by omega, by omega⟩
          · simp only [ph]
            rw [q1, h7e, h8e, ke]
            omega
          · simp only [ph]
            simp only [ph] at eph
            rw [q1, h7e, h8e, ke]
            omega
      · refine m_show (by omega) (fun σ188 y1 y2 _ => ⟨⟨by omega, by omega⟩, e, by omega, by omega, ?_⟩)
        obtain ⟨q1, q2⟩ := ph_e (σ := σ) (σ1 := σ22) (σ2 := σ188) (K := K' + 1) (d := e) (fun i hi => ⟨sg_F_ga y2 rfl, sg_F_ga y2 rfl⟩)
        exact ⟨q2 p1, by omega, by rw [q1]; omega, by rw [q1]; omega⟩
      · rintro v48 σ46 r48 f46 ⟨d', rfl, h1, h2, h3, h4, h5⟩
        exact ⟨_, by have := ph_n h2; omega, d', rfl, h1, h2, h3, h4, rfl⟩
    · rintro σ22 f22 ⟨q1, q2⟩ σ132 e132
      refine k σ132 ?_ ?_
      · rw [e132, sg_gw_e _ _ _ _ (sg_Rg _ _ _)]; omega
      · rw [e132]; exact sg_F_w (sg_F_t F112 (sg_F_m f22 rfl)) rfl _
/-- a run that came to no value shows nothing -/
theorem m_showZ (he : ¬ sg_g σ 88 53 = 0) (k : ∀ σ', (0 ≤ sg_g σ' 88 76 ∧ sg_g σ' 88 76 ≤ 80000) → sg_F [136, 137, 138, 77088, 79088] σ σ' → Q σ') : V_showNested σ Q := by
  unfold V_showNested
  intro σ1 e1
  refine ⟨fun _ => ⟨fun _ σ6 e6 => k σ6 ?_ ?_, fun z => absurd z he⟩, fun z => absurd z he⟩
  · rw [e6, sg_gw_e _ _ _ _ (by decide)]; decide
  · rw [e6, e1]; exact sg_F_w (sg_F_w (sg_F_r _ _) rfl _) rfl _
end SHN
/-! nested of the reference is safe. -/
def okX (L : List Nat) : Bool := okT L && !sg_cv L 88 19 && sg_ca L 101 && sg_ca L 102 && sg_ca L 103 && sg_ca L 104 && sg_ca L 105 && sg_ca L 106 && sg_ca L 107 && sg_ca L 108 && sg_ca L 109
theorem dfR_X {L : List Nat} {σ σ' : sg_S} {D : List aDf} (f : sg_F L σ σ') (hL : okX L = true) (h : dfR σ D) : dfR σ' D := by
  simp only [okX, Bool.and_eq_true, Bool.not_eq_true'] at hL
  obtain ⟨⟨⟨⟨⟨⟨⟨⟨⟨⟨l1, l2⟩, l3⟩, l4⟩, l5⟩, l6⟩, l7⟩, l8⟩, l9⟩, l10⟩, l11⟩ := hL
  obtain ⟨a1, a2, a3⟩ := h
  refine ⟨by rw [sg_F_g f l2]; exact a1, a2, fun d x hx => ?_⟩
  obtain ⟨b1, b2, b3, b4, b5, b6⟩ := a3 d x hx
  refine ⟨by rw [sg_F_gal f l5]; exact b1, by rw [sg_F_ga f l6]; exact b2, by rw [sg_F_ga f l7]; exact b3, by rw [sg_F_ga f l8]; exact b4, b5, fun j y hy => ?_⟩
  obtain ⟨c1, c2, c3⟩ := b6 j y hy
  exact ⟨by rw [sg_F_gal f l9]; exact c1, by rw [sg_F_ga f l10]; exact c2, by rw [sg_F_ga f l11]; exact c3⟩
theorem pgX_F {L : List Nat} {σ σ' : sg_S} {A : aT} {D : List aDf} {T B : Int → Int} (f : sg_F L σ σ') (hL : okX L = true) (h : pgX σ A D T B) : pgX σ' A D T B := by
  obtain ⟨a1, a2, a3, a4, a5, a6⟩ := h
  have hL' := hL
  simp only [okX, Bool.and_eq_true, Bool.not_eq_true'] at hL
  obtain ⟨⟨⟨⟨⟨⟨⟨⟨⟨⟨l1, l2⟩, l3⟩, l4⟩, l5⟩, l6⟩, l7⟩, l8⟩, l9⟩, l10⟩, l11⟩ := hL
  exact ⟨trT_F a1 f l1, dfR_X f hL' a2, fun n => by rw [sg_F_ga f l3]; exact a3 n, fun n => by rw [sg_F_ga f l4]; exact a4 n, a5, a6⟩
theorem fO_r {σ : sg_S} {A : aT} {D : List aDf} {T B : Int → Int} {r : Int} (h : tyN A (kDl D []) T B 201 [] r) : fO A D T B σ r := ⟨D.length, 201, [], by rw [List.take_of_length_le (Nat.le_refl _)]; exact h, fun p hp => by cases hp⟩
theorem q_nested {σ : sg_S} {A : aT} {D : List aDf} {T B : Int → Int} {r : Int} {Q : Int → sg_S → Prop} (hR : sg_g σ 88 28 = 0 ∨ (pgX σ A D T B ∧ sg_g σ 88 27 = r ∧ tyN A (kDl D []) T B 201 [] r)) (h52 : 0 ≤ sg_g σ 88 52 ∧ sg_g σ 88 52 ≤ 20) (h76 : 0 ≤ sg_g σ 88 76 ∧ sg_g σ 88 76 ≤ 80000) (k : ∀ q σ', sg_F [122, 123, 124, 125, 126, 127, 128, 129, 130, 131, 132, 133, 134, 135, 136, 137, 138, 1088, 52088, 53088, 54088, 55088, 56088, 57088, 61088, 63088, 71088, 74088, 77088, 79088] σ σ' → (0 ≤ sg_g σ' 88 52 ∧ sg_g σ' 88 52 ≤ 20) → (0 ≤ sg_g σ' 88 76 ∧ sg_g σ' 88 76 ≤ 80000) → Q q σ') : V_nested σ Q := by
  unfold V_nested
  intro σ1 e1
  have F1 : sg_F [1088] σ σ1 := by rw [e1]; exact sg_F_w (sg_F_r _ _) rfl _
  have s1 : ∀ q, Q q σ1 := fun q => k q σ1 (sg_F_m F1 rfl) (by rw [sg_F_g F1 (by rfl)]; exact h52) (by rw [sg_F_g F1 (by rfl)]; exact h76)
  refine ⟨fun th => ⟨fun n20 => ⟨⟨by omega, by omega⟩, ?_⟩, fun _ => s1 _⟩, fun _ => s1 _⟩
  obtain ⟨hX, e27, hr⟩ : pgX σ A D T B ∧ sg_g σ 88 27 = r ∧ tyN A (kDl D []) T B 201 [] r := by
    rcases hR with h | h
    · exact absurd h th
    · exact h
  intro σ7 e7 σ10 e10 σ13 e13 σ16 e16 σ19 e19 σ22 e22 σ25 e25 σ28 e28
  have F28 : sg_F [1088, 52088, 53088, 55088, 57088, 61088, 63088, 71088, 74088] σ σ28 := by
    rw [e28, e25, e22, e19, e16, e13, e10, e7, e1]
    exact sg_F_w (sg_F_w (sg_F_w (sg_F_w (sg_F_w (sg_F_w (sg_F_w (sg_F_w (sg_F_w (sg_F_r _ _) rfl _) rfl _) rfl _) rfl _) rfl _) rfl _) rfl _) rfl _) rfl _
  have w52 : sg_g σ28 88 52 = sg_g σ 88 52 + 1 := by
    rw [e28, sg_gw_k _ _ _ _ _ _ (by decide), e25, sg_gw_k _ _ _ _ _ _ (by decide), e22, sg_gw_k _ _ _ _ _ _ (by decide), e19, sg_gw_k _ _ _ _ _ _ (by decide), e16, sg_gw_k _ _ _ _ _ _ (by decide), e13, sg_gw_k _ _ _ _ _ _ (by decide), e10, sg_gw_k _ _ _ _ _ _ (by decide), e7, sg_gw_e _ _ _ _ ⟨by omega, by omega⟩]
  have w54 : sg_g σ28 88 54 = 0 := by
    rw [e28, sg_gw_k _ _ _ _ _ _ (by decide), e25, sg_gw_k _ _ _ _ _ _ (by decide), e22, sg_gw_k _ _ _ _ _ _ (by decide), e19, sg_gw_k _ _ _ _ _ _ (by decide), e16, sg_gw_k _ _ _ _ _ _ (by decide), e13, sg_gw_e _ _ _ _ (by decide)]
  have w56 : sg_g σ28 88 56 = 0 := by
    rw [e28, sg_gw_k _ _ _ _ _ _ (by decide), e25, sg_gw_k _ _ _ _ _ _ (by decide), e22, sg_gw_k _ _ _ _ _ _ (by decide), e19, sg_gw_k _ _ _ _ _ _ (by decide), e16, sg_gw_e _ _ _ _ (by decide)]
  have w60 : sg_g σ28 88 60 = 0 := by
    rw [e28, sg_gw_k _ _ _ _ _ _ (by decide), e25, sg_gw_k _ _ _ _ _ _ (by decide), e22, sg_gw_k _ _ _ _ _ _ (by decide), e19, sg_gw_e _ _ _ _ (by decide)]
  have w62 : sg_g σ28 88 62 = 0 := by
    rw [e28, sg_gw_k _ _ _ _ _ _ (by decide), e25, sg_gw_k _ _ _ _ _ _ (by decide), e22, sg_gw_e _ _ _ _ (by decide)]
  have w70 : sg_g σ28 88 70 = 0 := by
    rw [e28, sg_gw_k _ _ _ _ _ _ (by decide), e25, sg_gw_e _ _ _ _ (by decide)]
  have w73 : sg_g σ28 88 73 = 0 := by rw [e28, sg_gw_e _ _ _ _ (by decide)]
  have hA := hX.2.2.2.2.1
  rw [e27]
  have O28 : fO A D T B σ28 r := fO_r hr
  obtain ⟨u1, u2, u3⟩ := fO_w O28
  refine m_begin (by omega) ⟨by omega, by omega⟩ (by omega) (fun σ32 b1 b2 b3 b4 b5 _ => ?_)
  have X32 : pgX σ32 A D T B := pgX_F (sg_F_t (L := [126, 127, 128, 129, 130, 131, 132, 1088, 52088, 53088, 55088, 57088, 61088, 63088, 71088, 74088]) (sg_F_m F28 rfl) (sg_F_m b5 rfl)) rfl hX
  have i32 : ¬ sg_g σ32 88 73 = 0 ∨ (sg_g σ32 88 73 = 0 ∧ nIv A D T B r σ32) := by
    rcases b1 with b1 | ⟨b1, b6, b7⟩
    · exact Or.inl b1
    · right
      rw [w62] at b3
      obtain ⟨c1, c2, c3, c4⟩ := b3
      have g56 : sg_g σ32 88 56 = 0 := (sg_F_g b5 (by rfl)).trans w56
      have g60 : sg_g σ32 88 60 = 0 := (sg_F_g b5 (by rfl)).trans w60
      have g70 : sg_g σ32 88 70 = 0 := (sg_F_g b5 (by rfl)).trans w70
      refine ⟨b1, ⟨⟨by omega, by omega, by omega, by omega⟩, by omega, by omega, by omega, b7⟩, Or.inr ⟨0, [], ?_⟩⟩
      have z0 : ((0 : Nat) : Int) = 0 := rfl
      refine ⟨by omega, by rw [z0, c3, w70]; decide, by rw [z0, c3, w70, g70]; rfl, fun i y h => (by cases h), by rw [z0, c1]; exact fO_r hr, by rw [z0, c1, c2, c4]; exact fS_0 u1, ?_⟩
      rw [z0, c1, c3, w70]
      exact ⟨rfl, rfl⟩
  refine ⟨fun n σ37 => ¬ sg_g σ37 88 73 = 0 ∧ True ∨ (sg_g σ37 88 73 = 0 ∧ nIv A D T B r σ37 ∧ n = (nM A σ37).toNat + 1), fun σ37 => ¬ sg_g σ37 88 73 = 0 ∨ (sg_g σ37 88 73 = 0 ∧ nIv A D T B r σ37 ∧ sg_g σ37 88 62 = 0), ?_, ?_, ?_⟩
  · rcases i32 with h | ⟨h, h'⟩
    · exact ⟨0, Or.inl ⟨h, trivial⟩⟩
    · exact ⟨_, Or.inr ⟨h, h', rfl⟩⟩
  · rintro n σ37 f37 hI
    refine ⟨fun z => ?_, fun z => ⟨fun y => Or.inl y, fun y => ?_⟩⟩
    · rcases hI with ⟨h, -⟩ | ⟨h1, h2, h3⟩
      · exact Or.inl h
      · have := h2.1.1.2.2.1
        exact Or.inr ⟨h1, h2, by omega⟩
    · rcases hI with ⟨h, -⟩ | ⟨h1, h2, h3⟩
      · exact absurd y h
      · have X37 : pgX σ37 A D T B := pgX_F f37 rfl X32
        obtain ⟨hC, h | ⟨m, ty, hT⟩⟩ := h2
        · omega
        · have fin : ∀ σ', nQ A D T B r σ37 σ' → ∃ m, m < n ∧ (¬ sg_g σ' 88 73 = 0 ∧ True ∨ (sg_g σ' 88 73 = 0 ∧ nIv A D T B r σ' ∧ m = (nM A σ').toNat + 1)) := fun σ' hq => by
            rcases hq with q | ⟨q1, q2, q3⟩
            · exact ⟨0, by omega, Or.inl ⟨q, trivial⟩⟩
            · have q4 := q2.1
              obtain ⟨⟨d1, d2, d3, d4⟩, d5, d6, d7, d8⟩ := q4
              have := nM_le A σ'
              exact ⟨_, by omega, Or.inr ⟨q1, q2, rfl⟩⟩
          exact m_goN X37 hT hC y (fun k15 => m_goE X37 hT hC y k15 (fun σ' hq _ _ => fin σ' hq)) (fun σ' hq _ => fin σ' hq)
  · rintro σ37 f37 hx σ50 e50
    have F50 : sg_F [122, 123, 124, 125, 126, 127, 128, 129, 130, 131, 132, 133, 134, 135, 136, 137, 138, 1088, 52088, 53088, 54088, 55088, 56088, 57088, 61088, 63088, 71088, 74088, 77088, 79088] σ σ50 := by
      rw [e50]
      exact sg_F_w (sg_F_t (sg_F_t (sg_F_m F28 rfl) (sg_F_m b5 rfl)) (sg_F_m f37 rfl)) rfl _
    have g53 : sg_g σ50 88 53 = sg_g σ37 88 73 := by rw [e50, sg_gw_e _ _ _ _ (sg_Rg _ _ _)]
    have g52 : sg_g σ50 88 52 = sg_g σ 88 52 + 1 := by rw [e50, sg_gw_k _ _ _ _ _ _ (by decide), sg_F_g f37 (by rfl), sg_F_g b5 (by rfl)]; exact w52
    have fin : ∀ σ', (0 ≤ sg_g σ' 88 76 ∧ sg_g σ' 88 76 ≤ 80000) → sg_F [136, 137, 138, 77088, 79088] σ50 σ' → sg_F [136, 137, 138, 77088, 79088] σ50 σ' → Q (sg_g σ37 88 73) σ' := fun σ' x1 x2 _ => k _ σ' (sg_F_t F50 (sg_F_m x2 rfl)) (by rw [sg_F_g x2 (by rfl)]; omega) x1
    rcases hx with h | ⟨h1, h2, h3⟩
    · exact m_showZ (by rw [g53]; exact h) fin
    · have F37 : sg_F [54088] σ37 σ50 := by rw [e50]; exact sg_F_w (sg_F_r _ _) rfl _
      obtain ⟨hC, h | ⟨m, ty, hT⟩⟩ := h2
      · obtain ⟨⟨d1, d2, d3, d4⟩, d5, d6, d7, d8⟩ := hC
        have g27 : sg_g σ50 88 27 = r := (sg_F_g F50 (by rfl)).trans e27
        have g101 : sg_g σ50 101 r = T r := by rw [sg_F_ga F50 rfl]; exact hX.2.2.1 r
        have tr := u3.1
        have tr3 := u3.2
        refine m_showV (K := (T r).toNat) (by rw [g53]; exact h1) (by rw [g27]; omega) (by rw [g27, g101]; omega) (by omega) ⟨?_, ?_⟩ ?_ fin
        · rw [sg_F_g F37 (by rfl)]; omega
        · rw [sg_F_g F37 (by rfl)]; omega
        · rw [sg_F_ga F37 rfl]
          exact vU_up (nEx_F F37 rfl) h.2
      · have := hT.1
        omega
/-! FLAT VALUES of the reference: rows of cells, each but the last holding lengths. -/
/-- i cells from p on together -/
def cs (σ : sg_S) (p : Int) : Nat → Int
  | 0 => 0
  | i + 1 => cs σ p i + sg_g σ 142 (p + i)
def fRw (σ : sg_S) (M : Int) (r : Int × Int) : Prop := 0 ≤ r.1 ∧ 0 ≤ r.2 ∧ r.2 ≤ M ∧ r.1 + r.2 ≤ sg_g σ 88 91
def fLn (σ : sg_S) (r : Int × Int) : Prop := ∀ i, 0 ≤ i → i < r.2 → 0 ≤ sg_g σ 142 (r.1 + i) ∧ sg_g σ 142 (r.1 + i) ≤ 200
/-- rows one below the other -/
def fCh (σ : sg_S) (M : Int) : List (Int × Int) → Prop
  | [] => True
  | r :: R => fRw σ M r ∧ (match R with
    | [] => True
    | r' :: _ => fLn σ r ∧ r'.2 = cs σ r.1 r.2.toNat) ∧ fCh σ M R
/-- flat value v has rows R -/
def fV (σ : sg_S) (M : Int) (v : Int) (R : List (Int × Int)) : Prop := (0 ≤ v ∧ v < sg_g σ 88 87) ∧ (1 ≤ R.length ∧ R.length ≤ 4) ∧ sg_g σ 139 v = R.length - 1 ∧ (∀ (l : Nat) (r : Int × Int), R[l]? = some r → sg_g σ 140 (4 * v + l) = r.1 ∧ sg_g σ 141 (4 * v + l) = r.2) ∧ fCh σ M R
/-- flats and cells only grow -/
def fEx (σ σ' : sg_S) : Prop := (sg_g σ 88 87 ≤ sg_g σ' 88 87 ∧ sg_g σ 88 91 ≤ sg_g σ' 88 91) ∧ (∀ v, 0 ≤ v → v < sg_g σ 88 87 → sg_g σ' 139 v = sg_g σ 139 v) ∧ (∀ x, 0 ≤ x → x < 4 * sg_g σ 88 87 → sg_g σ' 140 x = sg_g σ 140 x ∧ sg_g σ' 141 x = sg_g σ 141 x) ∧ ∀ x, 0 ≤ x → x < sg_g σ 88 91 → sg_g σ' 142 x = sg_g σ 142 x
theorem fEx_r (σ : sg_S) : fEx σ σ := ⟨⟨Int.le_refl _, Int.le_refl _⟩, fun _ _ _ => rfl, fun _ _ _ => ⟨rfl, rfl⟩, fun _ _ _ => rfl⟩
theorem fEx_t {σ σ1 σ2 : sg_S} (h : fEx σ σ1) (g : fEx σ1 σ2) : fEx σ σ2 := by
  obtain ⟨⟨a1, a2⟩, a3, a4, a5⟩ := h
  obtain ⟨⟨b1, b2⟩, b3, b4, b5⟩ := g
  refine ⟨⟨by omega, by omega⟩, fun v x y => (b3 v x (by omega)).trans (a3 v x y), fun x y z => ?_, fun x y z => (b5 x y (by omega)).trans (a5 x y z)⟩
  obtain ⟨c1, c2⟩ := a4 x y z
  obtain ⟨d1, d2⟩ := b4 x y (by omega)
  exact ⟨d1.trans c1, d2.trans c2⟩
theorem fEx_F {L : List Nat} {σ σ' : sg_S} (f : sg_F L σ σ') (hL : (!sg_cv L 88 87 && !sg_cv L 88 91 && sg_ca L 139 && sg_ca L 140 && sg_ca L 141 && sg_ca L 142) = true) : fEx σ σ' := by
  simp only [Bool.and_eq_true, Bool.not_eq_true'] at hL
  obtain ⟨⟨⟨⟨⟨l1, l2⟩, l3⟩, l4⟩, l5⟩, l6⟩ := hL
  exact ⟨⟨by rw [sg_F_g f l1]; exact Int.le_refl _, by rw [sg_F_g f l2]; exact Int.le_refl _⟩, fun v _ _ => sg_F_ga f l3, fun x _ _ => ⟨sg_F_ga f l4, sg_F_ga f l5⟩, fun x _ _ => sg_F_ga f l6⟩
theorem cs_e {σ σ' : sg_S} {p : Int} : ∀ {i : Nat}, (∀ j : Nat, j < i → sg_g σ' 142 (p + j) = sg_g σ 142 (p + j)) → cs σ' p i = cs σ p i
  | 0, _ => rfl
  | i + 1, h => by
    simp only [cs]
    rw [cs_e (i := i) (fun j x => h j (by omega)), h i (by omega)]
theorem cs_up {σ σ' : sg_S} (h : fEx σ σ') {p : Int} {i : Nat} (hp : 0 ≤ p) (hi : p + i ≤ sg_g σ 88 91) : cs σ' p i = cs σ p i := cs_e (fun j x => h.2.2.2 _ (by omega) (by omega))
theorem cs_m {σ : sg_S} {r : Int × Int} (h : fLn σ r) : ∀ {i j : Nat}, i ≤ j → (j : Int) ≤ r.2 → cs σ r.1 i ≤ cs σ r.1 j ∧ cs σ r.1 j - cs σ r.1 i ≤ 200 * ((j : Int) - i)
  | i, 0, a, _ => by
    have : i = 0 := by omega
    subst this
    exact ⟨Int.le_refl _, by omega⟩
  | i, j + 1, a, b => by
    by_cases e : i = j + 1
    · subst e; exact ⟨Int.le_refl _, by omega⟩
    · have c := cs_m h (i := i) (j := j) (by omega) (by omega)
      have d := h j (by omega) (by omega)
      simp only [cs]
      omega
theorem cs_0 {σ : sg_S} {r : Int × Int} (h : fLn σ r) {j : Nat} (b : (j : Int) ≤ r.2) : 0 ≤ cs σ r.1 j := by
  have := (cs_m h (i := 0) (j := j) (Nat.zero_le _) b).1
  simpa [cs] using this
theorem fCh_up {σ σ' : sg_S} {M : Int} (h : fEx σ σ') : ∀ {R : List (Int × Int)}, fCh σ M R → fCh σ' M R
  | [], _ => trivial
  | r :: R, ⟨a1, a2, a3⟩ => by
    have e := h.1.2
    obtain ⟨b1, b2, b3, b4⟩ := a1
    refine ⟨⟨b1, b2, b3, by omega⟩, ?_, fCh_up h a3⟩
    cases R with
    | nil => trivial
    | cons r' R' =>
      obtain ⟨c1, c2⟩ := a2
      refine ⟨fun i x y => ?_, ?_⟩
      · rw [h.2.2.2 _ (by omega) (by omega)]; exact c1 i x y
      · rw [cs_up h b1 (by omega)]; exact c2
theorem fCh_M {σ : sg_S} {M M' : Int} (h : M ≤ M') : ∀ {R : List (Int × Int)}, fCh σ M R → fCh σ M' R
  | [], _ => trivial
  | r :: R, ⟨⟨b1, b2, b3, b4⟩, a2, a3⟩ => ⟨⟨b1, b2, by omega, b4⟩, a2, fCh_M h a3⟩
theorem fV_up {σ σ' : sg_S} {M v : Int} {R : List (Int × Int)} (h : fEx σ σ') (a : fV σ M v R) : fV σ' M v R := by
  obtain ⟨a1, a2, a3, a4, a5⟩ := a
  have e := h.1.1
  refine ⟨⟨a1.1, by omega⟩, a2, by rw [h.2.1 v a1.1 a1.2]; exact a3, fun l r hr => ?_, fCh_up h a5⟩
  have hl : l < R.length := by
    rcases Nat.lt_or_ge l R.length with q | q
    · exact q
    · rw [List.getElem?_eq_none q] at hr; cases hr
  obtain ⟨b1, b2⟩ := h.2.2.1 (4 * v + l) (by omega) (by omega)
  rw [b1, b2]
  exact a4 l r hr
theorem fV_M {σ : sg_S} {M M' v : Int} {R : List (Int × Int)} (h : M ≤ M') (a : fV σ M v R) : fV σ M' v R := ⟨a.1, a.2.1, a.2.2.1, a.2.2.2.1, fCh_M h a.2.2.2.2⟩
theorem fV_0 {σ : sg_S} {M v : Int} {r : Int × Int} {R : List (Int × Int)} (a : fV σ M v (r :: R)) : sg_g σ 140 (4 * v) = r.1 ∧ sg_g σ 141 (4 * v) = r.2 := by
  have := a.2.2.2.1 0 r rfl
  rwa [show 4 * v + ((0 : Nat) : Int) = 4 * v by omega] at this
theorem fV_1 {σ : sg_S} {M v : Int} {r r' : Int × Int} {R : List (Int × Int)} (a : fV σ M v (r :: r' :: R)) : sg_g σ 140 (4 * v + 1) = r'.1 ∧ sg_g σ 141 (4 * v + 1) = r'.2 := a.2.2.2.1 1 r' rfl
section FLA
variable {σ : sg_S} {M : Int}
theorem m_newF {d : Int} {Q : Int → sg_S → Prop} (h : 0 ≤ sg_g σ 88 87 ∧ sg_g σ 88 87 < 30000) (hd : sg_R d) (k : ∀ σ', sg_F [139, 88088] σ σ' → sg_g σ' 88 87 = sg_g σ 88 87 + 1 → sg_g σ' 139 (sg_g σ 88 87) = d → (∀ v, ¬ v = sg_g σ 88 87 → sg_g σ' 139 v = sg_g σ 139 v) → Q (sg_g σ 88 87) σ') : V_newFlat σ d Q := by
  unfold V_newFlat
  refine ⟨h, fun σ2 e2 => ⟨⟨by omega, by omega⟩, fun σ6 e6 => ⟨⟨by omega, by omega⟩, ?_⟩⟩⟩
  rw [show sg_g σ 88 87 + 1 - 1 = sg_g σ 88 87 by omega]
  refine k σ6 ?_ ?_ ?_ (fun v hv => ?_)
  · rw [e6, e2]; exact sg_F_w (sg_F_w (sg_F_r _ _) rfl _) rfl _
  · rw [e6, sg_gw_e _ _ _ _ ⟨by omega, by omega⟩]
  · rw [e6, sg_gw_c _ _ _ _ _ _ (by decide), e2, sg_gw_e _ _ _ _ hd]
  · rw [e6, sg_gw_c _ _ _ _ _ _ (by decide), e2, sg_gw_k _ _ _ _ _ _ hv]
theorem m_inner {v : Int} {r : Int × Int} {R : List (Int × Int)} {Q : Int → sg_S → Prop} (h : 0 ≤ sg_g σ 88 87 ∧ sg_g σ 88 87 < 30000) (hv : fV σ M v (r :: R)) (hR : 1 ≤ R.length) (k : ∀ q σ', q = sg_g σ 88 87 → fEx σ σ' → fV σ' M q R → sg_g σ' 88 87 = sg_g σ 88 87 + 1 → sg_F [139, 140, 141, 88088] σ σ' → Q q σ') : V_inner σ v Q := by
  have hv' := hv
  obtain ⟨a1, a2, a3, a4, a5⟩ := hv
  simp only [List.length_cons] at a2 a3
  unfold V_inner
  refine ⟨⟨a1.1, by omega⟩, ⟨by omega, by omega⟩, m_newF h ⟨by omega, by omega⟩ (fun σ4 f4 b1 b2 b3 _ _ => ?_)⟩
  have dq : sg_g σ4 139 (sg_g σ 88 87) = (R.length : Int) - 1 := by omega
  generalize hw : sg_g σ 88 87 = w at *
  refine ⟨fun n x σ10 => n = (R.length - x).toNat ∧ (0 ≤ x ∧ x ≤ R.length) ∧ (∀ (l : Nat) (r' : Int × Int), (l : Int) < x → R[l]? = some r' → sg_g σ10 140 (4 * w + l) = r'.1 ∧ sg_g σ10 141 (4 * w + l) = r'.2) ∧ ∀ y, y < 4 * w → sg_g σ10 140 y = sg_g σ 140 y ∧ sg_g σ10 141 y = sg_g σ 141 y, fun σ10 => (∀ (l : Nat) (r' : Int × Int), R[l]? = some r' → sg_g σ10 140 (4 * w + l) = r'.1 ∧ sg_g σ10 141 (4 * w + l) = r'.2) ∧ ∀ y, y < 4 * w → sg_g σ10 140 y = sg_g σ 140 y ∧ sg_g σ10 141 y = sg_g σ 141 y, ⟨_, rfl, ⟨by omega, by omega⟩, fun l r' hl => by omega, fun y _ => ⟨sg_F_ga f4 rfl, sg_F_ga f4 rfl⟩⟩, ?_, ?_⟩
  · rintro n x σ10 rx f10 ⟨en, hx, i1, i2⟩
    refine ⟨⟨by omega, by omega⟩, fun z => ⟨fun l r' hr => ?_, i2⟩, fun z => ?_⟩
    · have hl : l < R.length := by
        rcases Nat.lt_or_ge l R.length with q | q
        · exact q
        · rw [List.getElem?_eq_none q] at hr; cases hr
      exact i1 l r' (by omega) hr
    · have hx' : x.toNat < R.length := by omega
      obtain ⟨rr, hrr⟩ : ∃ rr, R[x.toNat]? = some rr := ⟨_, List.getElem?_eq_getElem hx'⟩
      obtain ⟨c1, c2⟩ := a4 (x.toNat + 1) rr (by rw [List.getElem?_cons_succ]; exact hrr)
      obtain ⟨d1, d2⟩ := i2 (4 * v + x + 1) (by omega)
      rw [show 4 * v + ((x.toNat + 1 : Nat) : Int) = 4 * v + x + 1 by omega] at c1 c2
      refine ⟨⟨by omega, by omega⟩, ⟨by omega, by omega⟩, ⟨by omega, by omega⟩, ⟨by omega, by omega⟩, ⟨by omega, by omega⟩, ⟨by omega, by omega⟩, ⟨by omega, by omega⟩, fun σ33 e33 σ36 e36 => ⟨⟨by omega, by omega⟩, _, by omega, rfl, ⟨by omega, by omega⟩, fun l r' hl hr => ?_, fun y hy => ?_⟩⟩
      · by_cases e : (l : Int) = x
        · have : r' = rr := by
            rw [show l = x.toNat by omega, hrr] at hr; cases hr; rfl
          subst this
          rw [e, e36, sg_gw_c _ _ _ _ _ _ (by decide), e33, sg_gw_e _ _ _ _ (sg_Rg _ _ _), sg_gw_e _ _ _ _ (sg_Rg _ _ _), d1, d2]
          exact ⟨c1, c2⟩
        · rw [e36, sg_gw_c _ _ _ _ _ _ (by decide), e33, sg_gw_k _ _ _ _ _ _ (by omega), sg_gw_k _ _ _ _ _ _ (by omega), sg_gw_c _ _ _ _ _ _ (by decide)]
          exact i1 l r' (by omega) hr
      · rw [e36, sg_gw_c _ _ _ _ _ _ (by decide), e33, sg_gw_k _ _ _ _ _ _ (by omega), sg_gw_k _ _ _ _ _ _ (by omega), sg_gw_c _ _ _ _ _ _ (by decide)]
        exact i2 y hy
  · rintro σ10 f10 ⟨i1, i2⟩
    have F10 : sg_F [139, 140, 141, 88088] σ σ10 := sg_F_t (sg_F_m f4 rfl) (sg_F_m f10 rfl)
    have g87 : sg_g σ10 88 87 = w + 1 := by rw [sg_F_g f10 (by rfl)]; exact b1
    have g91 : sg_g σ10 88 91 = sg_g σ 88 91 := sg_F_g F10 (by rfl)
    have ex : fEx σ σ10 := ⟨⟨by omega, by omega⟩, fun u x y => by rw [sg_F_ga f10 rfl]; exact b3 u (by omega), fun y _ z => i2 y (by omega), fun x _ _ => sg_F_ga F10 rfl⟩
    refine k w σ10 rfl ex ⟨⟨by omega, by omega⟩, ⟨hR, by omega⟩, by rw [sg_F_ga f10 rfl]; exact dq, i1, ?_⟩ g87 F10
    exact fCh_up ex a5.2.2
theorem m_outer {v f s : Int} {R : List (Int × Int)} {r : Int × Int} {Q : Int → sg_S → Prop} (h : 0 ≤ sg_g σ 88 87 ∧ sg_g σ 88 87 < 30000) (hv : fV σ M v (r :: R)) (hR : R.length ≤ 2) (hf : sg_R f ∧ sg_R s) (hw : fRw σ M (f, s)) (hl : fLn σ (f, s)) (hs : r.2 = cs σ f s.toNat) (k : ∀ q σ', q = sg_g σ 88 87 → fEx σ σ' → fV σ' M q ((f, s) :: r :: R) → sg_g σ' 88 87 = sg_g σ 88 87 + 1 → sg_F [139, 140, 141, 88088] σ σ' → Q q σ') : V_outer σ f s v Q := by
  obtain ⟨a1, a2, a3, a4, a5⟩ := hv
  obtain ⟨RR, eRR⟩ : ∃ RR, RR = r :: R := ⟨_, rfl⟩
  rw [← eRR] at a2 a3 a4 a5
  have lR : RR.length = R.length + 1 := by rw [eRR]; rfl
  unfold V_outer
  refine ⟨⟨a1.1, by omega⟩, ⟨by omega, by omega⟩, m_newF h ⟨by omega, by omega⟩ (fun σ4 f4 b1 b2 b3 _ _ => ⟨⟨by omega, by omega⟩, ⟨by omega, by omega⟩, fun σ11 e11 σ14 e14 => ?_⟩)⟩
  have dv : sg_g σ4 139 v = (RR.length : Int) - 1 := by rw [b3 v (by omega)]; exact a3
  rw [dv]
  generalize hw' : sg_g σ 88 87 = w at *
  have q0 : sg_g σ14 140 (4 * w) = f ∧ sg_g σ14 141 (4 * w) = s := by
    constructor
    · rw [e14, sg_gw_c _ _ _ _ _ _ (by decide), e11, sg_gw_e _ _ _ _ hf.1]
    · rw [e14, sg_gw_e _ _ _ _ hf.2]
  have q1 : ∀ y, y < 4 * w → sg_g σ14 140 y = sg_g σ 140 y ∧ sg_g σ14 141 y = sg_g σ 141 y := fun y hy => by
    rw [e14, sg_gw_c _ _ _ _ _ _ (by decide), e11, sg_gw_k _ _ _ _ _ _ (by omega), sg_gw_k _ _ _ _ _ _ (by omega), sg_gw_c _ _ _ _ _ _ (by decide)]
    exact ⟨sg_F_ga f4 rfl, sg_F_ga f4 rfl⟩
  refine ⟨fun n x σ10 => n = (RR.length - x).toNat ∧ (0 ≤ x ∧ x ≤ RR.length) ∧ (sg_g σ10 140 (4 * w) = f ∧ sg_g σ10 141 (4 * w) = s) ∧ (∀ (l : Nat) (r' : Int × Int), (l : Int) < x → RR[l]? = some r' → sg_g σ10 140 (4 * w + l + 1) = r'.1 ∧ sg_g σ10 141 (4 * w + l + 1) = r'.2) ∧ ∀ y, y < 4 * w → sg_g σ10 140 y = sg_g σ 140 y ∧ sg_g σ10 141 y = sg_g σ 141 y, fun σ10 => (sg_g σ10 140 (4 * w) = f ∧ sg_g σ10 141 (4 * w) = s) ∧ (∀ (l : Nat) (r' : Int × Int), RR[l]? = some r' → sg_g σ10 140 (4 * w + l + 1) = r'.1 ∧ sg_g σ10 141 (4 * w + l + 1) = r'.2) ∧ ∀ y, y < 4 * w → sg_g σ10 140 y = sg_g σ 140 y ∧ sg_g σ10 141 y = sg_g σ 141 y, ⟨_, rfl, ⟨by omega, by omega⟩, q0, fun l r' hl => by omega, q1⟩, ?_, ?_⟩
  · rintro n x σ10 rx f10 ⟨en, hx, i0, i1, i2⟩
    refine ⟨fun z => ⟨i0, fun l r' hr => ?_, i2⟩, fun z => ?_⟩
    · have hl : l < RR.length := by
        rcases Nat.lt_or_ge l RR.length with q | q
        · exact q
        · rw [List.getElem?_eq_none q] at hr; cases hr
      exact i1 l r' (by omega) hr
    · have hx' : x.toNat < RR.length := by omega
      obtain ⟨rr, hrr⟩ : ∃ rr, RR[x.toNat]? = some rr := ⟨_, List.getElem?_eq_getElem hx'⟩
      obtain ⟨c1, c2⟩ := a4 x.toNat rr hrr
      obtain ⟨d1, d2⟩ := i2 (4 * v + x) (by omega)
      rw [show 4 * v + ((x.toNat : Nat) : Int) = 4 * v + x by omega] at c1 c2
      refine ⟨⟨by omega, by omega⟩, ⟨by omega, by omega⟩, ⟨by omega, by omega⟩, ⟨by omega, by omega⟩, ⟨by omega, by omega⟩, ⟨by omega, by omega⟩, fun σ39 e39 σ42 e42 => ⟨⟨by omega, by omega⟩, _, by omega, rfl, ⟨by omega, by omega⟩, ?_, fun l r' hl hr => ?_, fun y hy => ?_⟩⟩
      · rw [e42, sg_gw_c _ _ _ _ _ _ (by decide), e39, sg_gw_k _ _ _ _ _ _ (by omega), sg_gw_k _ _ _ _ _ _ (by omega), sg_gw_c _ _ _ _ _ _ (by decide)]
        exact i0
      · by_cases e : (l : Int) = x
        · have : r' = rr := by
            rw [show l = x.toNat by omega, hrr] at hr; cases hr; rfl
          subst this
          rw [e, e42, sg_gw_c _ _ _ _ _ _ (by decide), e39, sg_gw_e _ _ _ _ (sg_Rg _ _ _), sg_gw_e _ _ _ _ (sg_Rg _ _ _), d1, d2]
          exact ⟨c1, c2⟩
        · rw [e42, sg_gw_c _ _ _ _ _ _ (by decide), e39, sg_gw_k _ _ _ _ _ _ (by omega), sg_gw_k _ _ _ _ _ _ (by omega), sg_gw_c _ _ _ _ _ _ (by decide)]
          exact i1 l r' (by omega) hr
      · rw [e42, sg_gw_c _ _ _ _ _ _ (by decide), e39, sg_gw_k _ _ _ _ _ _ (by omega), sg_gw_k _ _ _ _ _ _ (by omega), sg_gw_c _ _ _ _ _ _ (by decide)]
        exact i2 y hy
  · rintro σ10 f10 ⟨i0, i1, i2⟩
    have F14 : sg_F [140, 141] σ4 σ14 := by rw [e14, e11]; exact sg_F_w (sg_F_w (sg_F_r _ _) rfl _) rfl _
    have F10 : sg_F [139, 140, 141, 88088] σ σ10 := sg_F_t (sg_F_m f4 rfl) (sg_F_m (sg_F_t F14 f10) rfl)
    have g87 : sg_g σ10 88 87 = w + 1 := by rw [sg_F_g (sg_F_t F14 f10) (by rfl)]; exact b1
    have g91 : sg_g σ10 88 91 = sg_g σ 88 91 := sg_F_g F10 (by rfl)
    have ex : fEx σ σ10 := ⟨⟨by omega, by omega⟩, fun u x y => by rw [sg_F_ga (sg_F_t F14 f10) rfl]; exact b3 u (by omega), fun y _ z => i2 y (by omega), fun x _ _ => sg_F_ga F10 rfl⟩
    have ch : fCh σ M ((f, s) :: RR) := by
      rw [eRR] at a5 ⊢
      exact ⟨hw, ⟨hl, hs⟩, a5⟩
    refine k w σ10 rfl ex ⟨⟨by omega, by omega⟩, ⟨by simp, by simp only [List.length_cons]; omega⟩, ?_, fun l r' hr => ?_, by rw [← eRR]; exact fCh_up ex ch⟩ g87 F10
    · rw [sg_F_ga (sg_F_t F14 f10) rfl, b2]
      simp only [List.length_cons]
      omega
    · cases l with
      | zero =>
        cases hr
        rw [show 4 * w + ((0 : Nat) : Int) = 4 * w by omega]
        exact i0
      | succ l =>
        rw [List.getElem?_cons_succ, ← eRR] at hr
        have := i1 l r' hr
        rwa [show 4 * w + (l : Int) + 1 = 4 * w + ((l + 1 : Nat) : Int) by omega] at this
end FLA
