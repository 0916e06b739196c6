/-! first, second, pick, miss: what is told of the next value. -/
/-- counters are small -/
def yC (σ : sg_S) (b : Int) : Prop := (0 ≤ sg_g σ 77 11 ∧ sg_g σ 77 11 ≤ b) ∧ (0 ≤ sg_g σ 77 12 ∧ sg_g σ 77 12 ≤ b) ∧ (0 ≤ sg_g σ 77 13 ∧ sg_g σ 77 13 ≤ b) ∧ (sg_g σ 77 15 = 0 ∨ sg_g σ 77 15 = 1)
/-- nothing is told -/
def y0 (σ : sg_S) : Prop := sg_g σ 77 11 = 0 ∧ sg_g σ 77 12 = 0 ∧ sg_g σ 77 13 = 0 ∧ sg_g σ 77 14 = 0 ∧ sg_g σ 77 15 = 0
theorem yC_0 {σ : sg_S} (h : y0 σ) : yC σ 0 := by
  obtain ⟨h1, h2, h3, h4, h5⟩ := h
  exact ⟨by omega, by omega, by omega, Or.inl h5⟩
theorem yC_m {σ : sg_S} {b b' : Int} (h : yC σ b) (hb : b ≤ b') : yC σ b' := by
  obtain ⟨h1, h2, h3, h4⟩ := h
  exact ⟨by omega, by omega, by omega, h4⟩
theorem yC_F {L : List Nat} {σ σ' : sg_S} {b : Int} (h : yC σ b) (f : sg_F L σ σ') (hL : (!sg_cv L 77 11 && !sg_cv L 77 12 && !sg_cv L 77 13 && !sg_cv L 77 15) = true) : yC σ' b := by
  simp only [Bool.and_eq_true, Bool.not_eq_true'] at hL
  obtain ⟨⟨⟨l1, l2⟩, l3⟩, l4⟩ := hL
  unfold yC
  rw [sg_F_g f l1, sg_F_g f l2, sg_F_g f l3, sg_F_g f l4]
  exact h
theorem y0_F {L : List Nat} {σ σ' : sg_S} (h : y0 σ) (f : sg_F L σ σ') (hL : (!sg_cv L 77 11 && !sg_cv L 77 12 && !sg_cv L 77 13 && !sg_cv L 77 14 && !sg_cv L 77 15) = true) : y0 σ' := by
  simp only [Bool.and_eq_true, Bool.not_eq_true'] at hL
  obtain ⟨⟨⟨⟨l1, l2⟩, l3⟩, l5⟩, l4⟩ := hL
  unfold y0
  rw [sg_F_g f l1, sg_F_g f l2, sg_F_g f l3, sg_F_g f l4, sg_F_g f l5]
  exact h
section TEL
variable {σ : sg_S} {b x : Int} {Q : sg_S → Prop}
theorem y_miss (k : ∀ σ', sg_F [15077] σ σ' → Q σ') : V_lMiss σ x Q := by
  unfold V_lMiss
  exact ⟨fun _ => k σ (sg_F_r _ _), fun _ σ2 e2 => k σ2 (by rw [e2]; exact sg_F_w (sg_F_r _ _) rfl _)⟩
theorem y_first (hc : yC σ b) (hb : b ≤ 1000000000) (hx : sg_R x) (k : ∀ σ', sg_F [83, 12077, 16077] σ σ' → yC σ' (b + 1) → (sg_g σ' 77 15 = 0 → sg_g σ 77 15 = 0 ∧ sg_g σ 77 11 < 6000 ∧ sg_g σ' 77 11 = sg_g σ 77 11 + 1 ∧ sg_g σ' 83 (sg_g σ 77 11) = x ∧ ∀ i, ¬ i = sg_g σ 77 11 → sg_g σ' 83 i = sg_g σ 83 i) → Q σ') : V_lFirst σ x Q := by
  obtain ⟨c1, c2, c3, c4⟩ := hc
  unfold V_lFirst
  refine ⟨⟨fun _ => trivial, fun _ => ⟨fun _ => trivial, fun _ => trivial⟩⟩, fun v3 e3 r3 σ6 e6 σ9 e9 => ⟨⟨by omega, by omega⟩, fun σ13 e13 => ?_⟩⟩
  have f9 : sg_F [83, 12077, 16077] σ σ9 := by rw [e9, e6]; exact xF_p (sg_F_w (sg_F_r _ _) rfl _) rfl _ _ _
  have f13 : sg_F [83, 12077, 16077] σ σ13 := by rw [e13]; exact sg_F_w f9 rfl _
  have g11 : sg_g σ13 77 11 = sg_g σ 77 11 + 1 := by rw [e13, sg_gw_e _ _ _ _ ⟨by omega, by omega⟩]
  have g15 : sg_g σ13 77 15 = v3 := by
    rw [e13, sg_gw_k _ _ _ _ _ _ (by decide), e9]
    unfold sx_put
    split
    · rw [sg_gw_c _ _ _ _ _ _ (by decide), e6, sg_gw_e _ _ _ _ r3]
    · rw [e6, sg_gw_e _ _ _ _ r3]
  refine k σ13 f13 ⟨by omega, by rw [sg_F_g f13 (by rfl)]; omega, by rw [sg_F_g f13 (by rfl)]; omega, ?_⟩ (fun z => ?_)
  · rw [g15, e3]
    split
    · exact Or.inr rfl
    · split
      · exact Or.inl rfl
      · exact Or.inr rfl
  · rw [g15, e3] at z
    by_cases q : ¬ sg_g σ 77 15 = 0
    · rw [if_pos q] at z; omega
    · rw [if_neg q] at z
      by_cases q2 : sg_g σ 77 11 < 6000
      · refine ⟨by omega, q2, g11, ?_, fun i hi => ?_⟩
        · rw [e13, sg_gw_c _ _ _ _ _ _ (by decide), e9, xp_in ⟨by omega, q2⟩, sg_gw_e _ _ _ _ hx]
        · rw [e13, sg_gw_c _ _ _ _ _ _ (by decide), e9, xp_in ⟨by omega, q2⟩, sg_gw_k _ _ _ _ _ _ hi, e6, sg_gw_c _ _ _ _ _ _ (by decide)]
      · rw [if_neg q2] at z; omega
theorem y_second (hc : yC σ b) (hb : b ≤ 1000000000) (hx : sg_R x) (k : ∀ σ', sg_F [84, 13077, 16077] σ σ' → yC σ' (b + 1) → (sg_g σ' 77 15 = 0 → sg_g σ 77 15 = 0 ∧ sg_g σ 77 12 < 6000 ∧ sg_g σ' 77 12 = sg_g σ 77 12 + 1 ∧ sg_g σ' 84 (sg_g σ 77 12) = x ∧ ∀ i, ¬ i = sg_g σ 77 12 → sg_g σ' 84 i = sg_g σ 84 i) → Q σ') : V_lSecond σ x Q := by
  obtain ⟨c1, c2, c3, c4⟩ := hc
  unfold V_lSecond
  refine ⟨⟨fun _ => trivial, fun _ => ⟨fun _ => trivial, fun _ => trivial⟩⟩, fun v3 e3 r3 σ6 e6 σ9 e9 => ⟨⟨by omega, by omega⟩, fun σ13 e13 => ?_⟩⟩
  have f9 : sg_F [84, 13077, 16077] σ σ9 := by rw [e9, e6]; exact xF_p (sg_F_w (sg_F_r _ _) rfl _) rfl _ _ _
  have f13 : sg_F [84, 13077, 16077] σ σ13 := by rw [e13]; exact sg_F_w f9 rfl _
  have g11 : sg_g σ13 77 12 = sg_g σ 77 12 + 1 := by rw [e13, sg_gw_e _ _ _ _ ⟨by omega, by omega⟩]
  have g15 : sg_g σ13 77 15 = v3 := by
    rw [e13, sg_gw_k _ _ _ _ _ _ (by decide), e9]
    unfold sx_put
    split
    · rw [sg_gw_c _ _ _ _ _ _ (by decide), e6, sg_gw_e _ _ _ _ r3]
    · rw [e6, sg_gw_e _ _ _ _ r3]
  refine k σ13 f13 ⟨by rw [sg_F_g f13 (by rfl)]; omega, by omega, by rw [sg_F_g f13 (by rfl)]; omega, ?_⟩ (fun z => ?_)
  · rw [g15, e3]
    split
    · exact Or.inr rfl
    · split
      · exact Or.inl rfl
      · exact Or.inr rfl
  · rw [g15, e3] at z
    by_cases q : ¬ sg_g σ 77 15 = 0
    · rw [if_pos q] at z; omega
    · rw [if_neg q] at z
      by_cases q2 : sg_g σ 77 12 < 6000
      · refine ⟨by omega, q2, g11, ?_, fun i hi => ?_⟩
        · rw [e13, sg_gw_c _ _ _ _ _ _ (by decide), e9, xp_in ⟨by omega, q2⟩, sg_gw_e _ _ _ _ hx]
        · rw [e13, sg_gw_c _ _ _ _ _ _ (by decide), e9, xp_in ⟨by omega, q2⟩, sg_gw_k _ _ _ _ _ _ hi, e6, sg_gw_c _ _ _ _ _ _ (by decide)]
      · rw [if_neg q2] at z; omega
theorem y_pick {lo hi : Int} (hc : yC σ b) (hb : b ≤ 1000000000) (hx : sg_R x) (hl : sg_R lo) (hh : sg_R hi) (k : ∀ σ', sg_F [85, 86, 87, 14077, 16077] σ σ' → yC σ' (b + 1) → (hi ≤ lo → σ' = σ) → (lo < hi → sg_g σ' 77 15 = 0 → sg_g σ 77 15 = 0 ∧ sg_g σ 77 13 < 6000 ∧ sg_g σ' 77 13 = sg_g σ 77 13 + 1 ∧ (sg_g σ' 85 (sg_g σ 77 13) = x ∧ sg_g σ' 86 (sg_g σ 77 13) = lo ∧ sg_g σ' 87 (sg_g σ 77 13) = hi) ∧ ∀ i, ¬ i = sg_g σ 77 13 → sg_g σ' 85 i = sg_g σ 85 i ∧ sg_g σ' 86 i = sg_g σ 86 i ∧ sg_g σ' 87 i = sg_g σ 87 i) → Q σ') : V_lPick σ x lo hi Q := by
  have hc0 := hc
  obtain ⟨c1, c2, c3, c4⟩ := hc
  unfold V_lPick
  refine ⟨fun hlt => ⟨⟨fun _ => trivial, fun _ => ⟨fun _ => trivial, fun _ => trivial⟩⟩, fun v4 e4 r4 σ7 e7 σ10 e10 σ13 e13 σ16 e16 => ⟨⟨by omega, by omega⟩, fun σ20 e20 => ?_⟩⟩, fun hle => k σ (sg_F_r _ _) (yC_m hc0 (by omega)) (fun _ => rfl) (fun z => by omega)⟩
  have f16 : sg_F [85, 86, 87, 14077, 16077] σ σ16 := by rw [e16, e13, e10, e7]; exact xF_p (xF_p (xF_p (sg_F_w (sg_F_r _ _) rfl _) rfl _ _ _) rfl _ _ _) rfl _ _ _
  have f20 : sg_F [85, 86, 87, 14077, 16077] σ σ20 := by rw [e20]; exact sg_F_w f16 rfl _
  have g11 : sg_g σ20 77 13 = sg_g σ 77 13 + 1 := by rw [e20, sg_gw_e _ _ _ _ ⟨by omega, by omega⟩]
  have f7 : sg_F [85, 86, 87] σ7 σ16 := by rw [e16, e13, e10]; exact xF_p (xF_p (xF_p (sg_F_r _ _) rfl _ _ _) rfl _ _ _) rfl _ _ _
  have g15 : sg_g σ20 77 15 = v4 := by
    rw [e20, sg_gw_k _ _ _ _ _ _ (by decide), sg_F_g f7 (by rfl), e7, sg_gw_e _ _ _ _ r4]
  refine k σ20 f20 ⟨by rw [sg_F_g f20 (by rfl)]; omega, by rw [sg_F_g f20 (by rfl)]; omega, by omega, ?_⟩ (fun z => by omega) (fun _ z => ?_)
  · rw [g15, e4]
    split
    · exact Or.inr rfl
    · split
      · exact Or.inl rfl
      · exact Or.inr rfl
  · rw [g15, e4] at z
    by_cases q : ¬ sg_g σ 77 15 = 0
    · rw [if_pos q] at z; omega
    · rw [if_neg q] at z
      by_cases q2 : sg_g σ 77 13 < 6000
      · have i6 : 0 ≤ sg_g σ 77 13 ∧ sg_g σ 77 13 < 6000 := ⟨by omega, q2⟩
        rw [xp_in i6] at e10 e13 e16
        refine ⟨by omega, q2, g11, ⟨?_, ?_, ?_⟩, fun i hi => ⟨?_, ?_, ?_⟩⟩
        · rw [e20, sg_gw_c _ _ _ _ _ _ (by decide), e16, sg_gw_c _ _ _ _ _ _ (by decide), e13, sg_gw_c _ _ _ _ _ _ (by decide), e10, sg_gw_e _ _ _ _ hx]
        · rw [e20, sg_gw_c _ _ _ _ _ _ (by decide), e16, sg_gw_c _ _ _ _ _ _ (by decide), e13, sg_gw_e _ _ _ _ hl]
        · rw [e20, sg_gw_c _ _ _ _ _ _ (by decide), e16, sg_gw_e _ _ _ _ hh]
        · rw [e20, sg_gw_c _ _ _ _ _ _ (by decide), e16, sg_gw_c _ _ _ _ _ _ (by decide), e13, sg_gw_c _ _ _ _ _ _ (by decide), e10, sg_gw_k _ _ _ _ _ _ hi, e7, sg_gw_c _ _ _ _ _ _ (by decide)]
        · rw [e20, sg_gw_c _ _ _ _ _ _ (by decide), e16, sg_gw_c _ _ _ _ _ _ (by decide), e13, sg_gw_k _ _ _ _ _ _ hi, e10, sg_gw_c _ _ _ _ _ _ (by decide), e7, sg_gw_c _ _ _ _ _ _ (by decide)]
        · rw [e20, sg_gw_c _ _ _ _ _ _ (by decide), e16, sg_gw_k _ _ _ _ _ _ hi, e13, sg_gw_c _ _ _ _ _ _ (by decide), e10, sg_gw_c _ _ _ _ _ _ (by decide), e7, sg_gw_c _ _ _ _ _ _ (by decide)]
      · rw [if_neg q2] at z; omega
end TEL
/-- what is picked: of depth d -/
def pkg (σ : sg_S) (d : Nat) (v lo hi : Int) : Prop := (0 ≤ lo ∧ lo ≤ hi) ∧ ((v = -1 ∧ hi ≤ 1) ∨ ∃ n, yV σ d v n ∧ hi ≤ n)
def pks (σ : sg_S) (k : Nat) : Int := su (fun i => sg_g σ 87 i - sg_g σ 86 i) 0 k
def pkT (σ : sg_S) (d : Nat) (m : Int) : Prop := ∃ k : Nat, sg_g σ 77 13 = k ∧ k ≤ 6000 ∧ (∀ i : Nat, i < k → pkg σ d (sg_g σ 85 i) (sg_g σ 86 i) (sg_g σ 87 i)) ∧ pks σ k = m
theorem pkg_up {σ σ' : sg_S} (h : yEx σ σ') {d : Nat} {v lo hi : Int} (a : pkg σ d v lo hi) : pkg σ' d v lo hi := by
  refine ⟨a.1, ?_⟩
  rcases a.2 with b | ⟨n, b, c⟩
  · exact Or.inl b
  · exact Or.inr ⟨n, yV_up h b, c⟩
theorem pkT_F {L : List Nat} {σ σ' : sg_S} {d : Nat} {m : Int} (h : pkT σ d m) (f : sg_F L σ σ') (ex : yEx σ σ') (hL : (!sg_cv L 77 13 && sg_ca L 85 && sg_ca L 86 && sg_ca L 87) = true) : pkT σ' d m := by
  simp only [Bool.and_eq_true, Bool.not_eq_true'] at hL
  obtain ⟨⟨⟨l1, l2⟩, l3⟩, l4⟩ := hL
  obtain ⟨k, k1, k2, k3, k4⟩ := h
  refine ⟨k, by rw [sg_F_g f l1]; exact k1, k2, fun i hi => ?_, ?_⟩
  · rw [sg_F_ga f l2, sg_F_ga f l3, sg_F_ga f l4]; exact pkg_up ex (k3 i hi)
  · rw [← k4]
    exact su_sh (fun j hj => by rw [sg_F_ga f l3, sg_F_ga f l4])
/-- first: j lengths; picks of depth d; r items are still to be picked -/
def aC (σ : sg_S) (d j : Nat) (r : Int) : Prop := sg_g σ 77 15 = 0 → sg_g σ 77 11 = j ∧ (∀ i : Nat, i < j → 0 ≤ sg_g σ 83 i ∧ sg_g σ 83 i ≤ 200) ∧ ∃ m, pkT σ d m ∧ su (sg_g σ 83) 0 j = m + r
theorem pkT_0 {σ : sg_S} (h : y0 σ) (d : Nat) : pkT σ d 0 := ⟨0, h.2.2.1, Nat.zero_le _, fun i hi => by omega, rfl⟩
theorem aC_0 {σ : sg_S} (h : y0 σ) (d : Nat) : aC σ d 0 0 := fun _ => ⟨h.1, fun i hi => by omega, 0, pkT_0 h d, rfl⟩
theorem aC_F {L : List Nat} {σ σ' : sg_S} {d j : Nat} {r : Int} (h : aC σ d j r) (f : sg_F L σ σ') (ex : yEx σ σ') (hL : (!sg_cv L 77 11 && !sg_cv L 77 13 && !sg_cv L 77 15 && sg_ca L 83 && sg_ca L 85 && sg_ca L 86 && sg_ca L 87) = true) : aC σ' d j r := by
  simp only [Bool.and_eq_true, Bool.not_eq_true'] at hL
  obtain ⟨⟨⟨⟨⟨⟨l1, l2⟩, l3⟩, l4⟩, l5⟩, l6⟩, l7⟩ := hL
  intro z
  rw [sg_F_g f l3] at z
  obtain ⟨h1, h2, m, h3, h4⟩ := h z
  refine ⟨by rw [sg_F_g f l1]; exact h1, fun i hi => by rw [sg_F_ga f l4]; exact h2 i hi, m, pkT_F h3 f ex (by simp [l2, l5, l6, l7]), ?_⟩
  rw [← h4]
  exact su_sh (fun i hi => sg_F_ga f l4)
section ACC
variable {σ : sg_S} {b x : Int} {d j : Nat} {r : Int} {Q : sg_S → Prop}
theorem aC_first (ha : aC σ d j r) (hc : yC σ b) (hb : b ≤ 1000000000) (hx : 0 ≤ x ∧ x ≤ 200) (k : ∀ σ', sg_F [83, 12077, 16077] σ σ' → yC σ' (b + 1) → aC σ' d (j + 1) (r + x) → Q σ') : V_lFirst σ x Q := by
  refine y_first hc hb ⟨by omega, by omega⟩ (fun σ' f c h => k σ' f c (fun z => ?_))
  obtain ⟨h1, h2, h3, h4, h5⟩ := h z
  obtain ⟨a1, a2, m, a3, a4⟩ := ha h1
  rw [a1] at h3 h4 h5
  refine ⟨by rw [h3]; omega, fun i hi => ?_, m, pkT_F a3 f (yEx_F f rfl) rfl, ?_⟩
  · by_cases e : i = j
    · subst e; rw [h4]; exact hx
    · rw [h5 i (by omega)]; exact a2 i (by omega)
  · simp only [su]
    rw [show (0 : Int) + j = j by omega, h4, su_sh (g := sg_g σ 83) (p := 0) (fun i hi => h5 _ (by omega)), a4]
    omega
theorem aC_pick {lo hi : Int} (ha : aC σ d j r) (hc : yC σ b) (hb : b ≤ 1000000000) (hx : sg_R x) (hp : pkg σ d x lo hi) (hh : sg_R hi) (k : ∀ σ', sg_F [85, 86, 87, 14077, 16077] σ σ' → yC σ' (b + 1) → aC σ' d j (r - (hi - lo)) → Q σ') : V_lPick σ x lo hi Q := by
  have p1 := hp.1
  refine y_pick hc hb hx ⟨by omega, by have := hh.2; omega⟩ hh (fun σ' f c h1 h2 => k σ' f c ?_)
  by_cases e : lo < hi
  · intro z
    obtain ⟨g1, g2, g3, ⟨g4, g5, g6⟩, g7⟩ := h2 e z
    obtain ⟨a1, a2, m, ⟨q, q1, q2, q3, q4⟩, a4⟩ := ha g1
    have ex : yEx σ σ' := yEx_F f rfl
    rw [q1] at g2 g3 g4 g5 g6 g7
    refine ⟨by rw [sg_F_g f (by rfl)]; exact a1, fun i hi => by rw [sg_F_ga f rfl]; exact a2 i hi, m + (hi - lo), ⟨q + 1, by rw [g3]; omega, by omega, fun i hi2 => ?_, ?_⟩, ?_⟩
    · by_cases e2 : i = q
      · subst e2; rw [g4, g5, g6]; exact pkg_up ex hp
      · obtain ⟨t1, t2, t3⟩ := g7 i (by omega)
        rw [t1, t2, t3]; exact pkg_up ex (q3 i (by omega))
    · unfold pks at q4 ⊢
      simp only [su]
      rw [show (0 : Int) + q = q by omega, g5, g6, su_sh (g := fun i => sg_g σ 87 i - sg_g σ 86 i) (p := 0) (fun i hi => by
        obtain ⟨t1, t2, t3⟩ := g7 (0 + (i : Int)) (by omega)
        rw [t2, t3]), q4]
    · rw [su_sh (g := sg_g σ 83) (p := 0) (fun i hi => sg_F_ga f rfl), a4]; omega
  · have e2 : σ' = σ := h1 (by omega)
    subst e2
    rw [show r - (hi - lo) = r by omega]; exact ha
end ACC
