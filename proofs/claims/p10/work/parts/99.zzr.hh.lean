/-! More operations: rows, repeats, counts, packs, permutations, divisions. -/
def fP0 (σ : sg_S) : Prop := yG σ ∧ y0 σ ∧ sg_g σ 77 10 + 4 ≤ 4 * sg_g σ 77 17 ∧ (0 ≤ sg_g σ 77 17 ∧ sg_g σ 77 17 ≤ 2000) ∧ (0 ≤ sg_g σ 61 23 ∧ sg_g σ 61 23 ≤ 6000)
theorem fP_mk {L : List Nat} {σ σ2 : sg_S} {t : Int} (h : fP0 σ) (f : sg_F L σ σ2) (ht : sg_g σ2 61 7 = t) (h0 : 0 ≤ t ∧ t < 400) (hL : (sg_ca L 77 && sg_ca L 80 && sg_ca L 81 && !sg_cv L 61 23) = true) : fP σ2 t := by
  simp only [Bool.and_eq_true, Bool.not_eq_true'] at hL
  obtain ⟨⟨⟨l1, l2⟩, l3⟩, l4⟩ := hL
  obtain ⟨h1, h2, h3, h4, h5⟩ := h
  have q : ∀ k, sg_g σ2 77 k = sg_g σ 77 k := fun k => sg_F_ga f l1
  refine ⟨yG_x h1 (q _) (q _) (fun v _ _ => ⟨sg_F_ga f l2, sg_F_ga f l3⟩), ?_, by rw [q, q]; exact h3, by rw [q]; exact h4, ht, h0, by rw [sg_F_g f l4]; exact h5⟩
  unfold y0
  rw [q, q, q, q, q]; exact h2
/-- first: j lengths; second: as many as they are together, but r -/
def aD (σ : sg_S) (j : Nat) (r : Int) : Prop := sg_g σ 77 15 = 0 → sg_g σ 77 11 = j ∧ (∀ i : Nat, i < j → 0 ≤ sg_g σ 83 i ∧ sg_g σ 83 i ≤ 200) ∧ (0 ≤ sg_g σ 77 12 ∧ sg_g σ 77 12 ≤ 6000) ∧ su (sg_g σ 83) 0 j = sg_g σ 77 12 + r
theorem aD_0 {σ : sg_S} (h : y0 σ) : aD σ 0 0 := fun _ => ⟨h.1, fun i hi => by omega, by rw [h.2.1]; decide, by rw [h.2.1]; rfl⟩
/-- the same with lengths in second, whose items are picked, but r2 -/
def aE (σ : sg_S) (d j : Nat) (r r2 : Int) : Prop := sg_g σ 77 15 = 0 → (sg_g σ 77 11 = j ∧ (∀ i : Nat, i < j → 0 ≤ sg_g σ 83 i ∧ sg_g σ 83 i ≤ 200) ∧ (0 ≤ sg_g σ 77 12 ∧ sg_g σ 77 12 ≤ 6000) ∧ su (sg_g σ 83) 0 j = sg_g σ 77 12 + r) ∧ (∀ i : Nat, (i : Int) < sg_g σ 77 12 → 0 ≤ sg_g σ 84 i ∧ sg_g σ 84 i ≤ 200) ∧ ∃ m, pkT σ d m ∧ su (sg_g σ 84) 0 (sg_g σ 77 12).toNat = m + r2
theorem aE_0 {σ : sg_S} (h : y0 σ) (d : Nat) : aE σ d 0 0 0 := fun z => ⟨aD_0 h z, fun i hi => by rw [h.2.1] at hi; omega, 0, pkT_0 h d, by rw [h.2.1]; rfl⟩
theorem aE_F {σ σ' : sg_S} {d j : Nat} {r r2 : Int} (h : aE σ d j r r2) (f : sg_F [15077] σ σ') : aE σ' d j r r2 := by
  intro z
  rw [sg_F_g f (by rfl)] at z
  obtain ⟨⟨a1, a2, a3, a4⟩, b1, m, b2, b3⟩ := h z
  refine ⟨⟨by rw [sg_F_g f (by rfl)]; exact a1, fun i hi => by rw [sg_F_ga f rfl]; exact a2 i hi, by rw [sg_F_g f (by rfl)]; exact a3, ?_⟩, fun i hi => ?_, m, pkT_F b2 f (yEx_F f rfl) rfl, ?_⟩
  · rw [sg_F_g f (by rfl), ← a4]; exact su_sh (fun i hi => sg_F_ga f rfl)
  · rw [sg_F_g f (by rfl)] at hi
    rw [sg_F_ga f rfl]; exact b1 i hi
  · rw [sg_F_g f (by rfl), ← b3]; exact su_sh (fun i hi => sg_F_ga f rfl)
theorem aD_F {σ σ' : sg_S} {j : Nat} {r : Int} (h : aD σ j r) (f : sg_F [15077] σ σ') : aD σ' j r := by
  intro z
  rw [sg_F_g f (by rfl)] at z
  obtain ⟨a1, a2, a3, a4⟩ := h z
  refine ⟨by rw [sg_F_g f (by rfl)]; exact a1, fun i hi => by rw [sg_F_ga f rfl]; exact a2 i hi, by rw [sg_F_g f (by rfl)]; exact a3, ?_⟩
  rw [sg_F_g f (by rfl), ← a4]; exact su_sh (fun i hi => sg_F_ga f rfl)
theorem aD_fd {σ : sg_S} {n : Int} (h : aD σ n.toNat 0) (hn : 0 ≤ n ∧ n ≤ 6000) (z : sg_g σ 77 15 = 0) : fd σ 2 0 1 n := by
  obtain ⟨h1, h2, h3, h4⟩ := h z
  unfold fd
  rw [if_neg (by omega), if_pos rfl]
  refine ⟨hn, by omega, fun d' hd => ⟨fun i hi => h2 i (by omega), ?_⟩⟩
  rw [if_neg (by omega), h4]
  exact ⟨by omega, by omega, fun d2 hd2 => by omega⟩
theorem aE_fd {σ : sg_S} {d : Nat} {n : Int} (h : aE σ d n.toNat 0 0) (hn : 0 ≤ n ∧ n ≤ 6000) (z : sg_g σ 77 15 = 0) : fd σ 2 0 (d + 2) n := by
  obtain ⟨⟨h1, h2, h3, h4⟩, b1, m, b2, b3⟩ := h z
  unfold fd
  rw [if_neg (by omega), if_pos rfl]
  refine ⟨hn, by omega, fun d' hd => ⟨fun i hi => h2 i (by omega), ?_⟩⟩
  rw [if_neg (by omega), h4, show sg_g σ 77 12 + 0 = sg_g σ 77 12 by omega]
  refine ⟨h3, rfl, fun d2 hd2 => ⟨b1, ?_⟩⟩
  have : d2 = d := by omega
  subst this
  rw [b3, show m + 0 = m by omega]; exact b2
section ACD
variable {σ : sg_S} {b x : Int} {d j : Nat} {r r2 : Int} {Q : sg_S → Prop}
theorem aD_first (ha : aD σ j r) (hc : yC σ b) (hb : b ≤ 1000000000) (hx : 0 ≤ x ∧ x ≤ 200) (k : ∀ σ', sg_F [83, 12077, 16077] σ σ' → yC σ' (b + 1) → aD σ' (j + 1) (r + x) → Q σ') : V_lFirst σ x Q := by
  refine y_first hc hb ⟨by omega, by omega⟩ (fun σ' f c h => k σ' f c (fun z => ?_))
  obtain ⟨h1, h2, h3, h4, h5⟩ := h z
  obtain ⟨a1, a2, a3, a4⟩ := ha h1
  rw [a1] at h3 h4 h5
  refine ⟨by rw [h3]; omega, fun i hi => ?_, by rw [sg_F_g f (by rfl)]; exact a3, ?_⟩
  · by_cases e : i = j
    · subst e; rw [h4]; exact hx
    · rw [h5 i (by omega)]; exact a2 i (by omega)
  · simp only [su]
    rw [show (0 : Int) + j = j by omega, h4, su_sh (g := sg_g σ 83) (p := 0) (fun i hi => h5 _ (by omega)), a4, sg_F_g f (by rfl)]
    omega
theorem aD_second (ha : aD σ j r) (hc : yC σ b) (hb : b ≤ 1000000000) (hx : sg_R x) (k : ∀ σ', sg_F [84, 13077, 16077] σ σ' → yC σ' (b + 1) → aD σ' j (r - 1) → Q σ') : V_lSecond σ x Q := by
  refine y_second hc hb hx (fun σ' f c h => k σ' f c (fun z => ?_))
  obtain ⟨h1, h2, h3, h4, h5⟩ := h z
  obtain ⟨a1, a2, a3, a4⟩ := ha h1
  refine ⟨by rw [sg_F_g f (by rfl)]; exact a1, fun i hi => by rw [sg_F_ga f rfl]; exact a2 i hi, by omega, ?_⟩
  rw [su_sh (g := sg_g σ 83) (p := 0) (fun i hi => sg_F_ga f rfl), a4, h3]; omega
theorem aE_first (ha : aE σ d j r r2) (hc : yC σ b) (hb : b ≤ 1000000000) (hx : 0 ≤ x ∧ x ≤ 200) (k : ∀ σ', sg_F [83, 12077, 16077] σ σ' → yC σ' (b + 1) → aE σ' d (j + 1) (r + x) r2 → Q σ') : V_lFirst σ x Q := by
  refine y_first hc hb ⟨by omega, by omega⟩ (fun σ' f c h => k σ' f c (fun z => ?_))
  obtain ⟨h1, h2, h3, h4, h5⟩ := h z
  obtain ⟨⟨a1, a2, a3, a4⟩, b1, m, b2, b3⟩ := ha h1
  rw [a1] at h3 h4 h5
  refine ⟨⟨by rw [h3]; omega, fun i hi => ?_, by rw [sg_F_g f (by rfl)]; exact a3, ?_⟩, fun i hi => ?_, m, pkT_F b2 f (yEx_F f rfl) rfl, ?_⟩
  · by_cases e : i = j
    · subst e; rw [h4]; exact hx
    · rw [h5 i (by omega)]; exact a2 i (by omega)
  · simp only [su]
    rw [show (0 : Int) + j = j by omega, h4, su_sh (g := sg_g σ 83) (p := 0) (fun i hi => h5 _ (by omega)), a4, sg_F_g f (by rfl)]
    omega
  · rw [sg_F_g f (by rfl)] at hi
    rw [sg_F_ga f rfl]; exact b1 i hi
  · rw [sg_F_g f (by rfl), ← b3]; exact su_sh (fun i hi => sg_F_ga f rfl)
theorem aE_second (ha : aE σ d j r r2) (hc : yC σ b) (hb : b ≤ 1000000000) (hx : 0 ≤ x ∧ x ≤ 200) (k : ∀ σ', sg_F [84, 13077, 16077] σ σ' → yC σ' (b + 1) → aE σ' d j (r - 1) (r2 + x) → Q σ') : V_lSecond σ x Q := by
  refine y_second hc hb ⟨by omega, by omega⟩ (fun σ' f c h => k σ' f c (fun z => ?_))
  obtain ⟨h1, h2, h3, h4, h5⟩ := h z
  obtain ⟨⟨a1, a2, a3, a4⟩, b1, m, b2, b3⟩ := ha h1
  generalize hq : sg_g σ 77 12 = q at *
  refine ⟨⟨by rw [sg_F_g f (by rfl)]; exact a1, fun i hi => by rw [sg_F_ga f rfl]; exact a2 i hi, by omega, ?_⟩, fun i hi => ?_, m, pkT_F b2 f (yEx_F f rfl) rfl, ?_⟩
  · rw [su_sh (g := sg_g σ 83) (p := 0) (fun i hi => sg_F_ga f rfl), a4, h3]; omega
  · by_cases e : (i : Int) = q
    · rw [e, h4]; exact hx
    · rw [h5 i e]; exact b1 i (by omega)
  · rw [h3, show (q + 1).toNat = q.toNat + 1 by omega]
    simp only [su]
    rw [show (0 : Int) + q.toNat = q by omega, h4, su_sh (g := sg_g σ 84) (p := 0) (fun i hi => h5 _ (by omega)), b3]
    omega
theorem aE_pick {lo hi : Int} (ha : aE σ d j r r2) (hc : yC σ b) (hb : b ≤ 1000000000) (hx : sg_R x) (hp : pkg σ d x lo hi) (hh : sg_R hi) (k : ∀ σ', sg_F [85, 86, 87, 14077, 16077] σ σ' → yC σ' (b + 1) → aE σ' d j r (r2 - (hi - lo)) → Q σ') : V_lPick σ x lo hi Q := by
  have p1 := hp.1
  refine y_pick hc hb hx ⟨by omega, by have := hh.2; omega⟩ hh (fun σ' f c h1 h2 => k σ' f c ?_)
  by_cases e : lo < hi
  · intro z
    obtain ⟨g1, g2, g3, ⟨g4, g5, g6⟩, g7⟩ := h2 e z
    obtain ⟨⟨a1, a2, a3, a4⟩, b1, m, ⟨q, q1, q2, q3, q4⟩, b3⟩ := ha g1
    have ex : yEx σ σ' := yEx_F f rfl
    rw [q1] at g2 g3 g4 g5 g6 g7
    refine ⟨⟨by rw [sg_F_g f (by rfl)]; exact a1, fun i hi => by rw [sg_F_ga f rfl]; exact a2 i hi, by rw [sg_F_g f (by rfl)]; exact a3, ?_⟩, fun i hi => ?_, m + (hi - lo), ⟨q + 1, by rw [g3]; omega, by omega, fun i hi2 => ?_, ?_⟩, ?_⟩
    · rw [sg_F_g f (by rfl), ← a4]; exact su_sh (fun i hi => sg_F_ga f rfl)
    · rw [sg_F_g f (by rfl)] at hi
      rw [sg_F_ga f rfl]; exact b1 i hi
    · by_cases e2 : i = q
      · subst e2; rw [g4, g5, g6]; exact pkg_up ex hp
      · obtain ⟨t1, t2, t3⟩ := g7 i (by omega)
        rw [t1, t2, t3]; exact pkg_up ex (q3 i (by omega))
    · unfold pks at q4 ⊢
      simp only [su]
      rw [show (0 : Int) + q = q by omega, g5, g6, su_sh (g := fun i => sg_g σ 87 i - sg_g σ 86 i) (p := 0) (fun i hi => by
        obtain ⟨t1, t2, t3⟩ := g7 (0 + (i : Int)) (by omega)
        rw [t2, t3]), q4]
    · rw [sg_F_g f (by rfl), su_sh (g := sg_g σ 84) (p := 0) (fun i hi => sg_F_ga f rfl), b3]; omega
  · have e2 : σ' = σ := h1 (by omega)
    subst e2
    rw [show r2 - (hi - lo) = r2 by omega]; exact ha
end ACD
section OPB
variable {σ : sg_S} {t n : Int} {Q : sg_S → Prop}
theorem f_sizeIn {σ2 : sg_S} {a j : Int} {Q : Int → sg_S → Prop} (g : yG σ2) (ha : yRw σ2 a n) (hj : 0 ≤ j ∧ j < n) (k : ∀ q σ', sg_F [15077] σ2 σ' → 0 ≤ q ∧ q ≤ 200 → Q q σ') : V_fSizeIn σ2 a j Q := by
  unfold V_fSizeIn
  refine ⟨(y_cell g ha hj).2, fun z => k _ _ (sg_F_r _ _) (x_bad z), fun _ => y_miss (fun σ' f' _ => k _ _ f' (by omega))⟩
theorem f_countUp {a : Int} (h : fP σ t) (h9 : sg_g σ 61 9 = 1) (hn : sg_g σ 61 23 = n) (ha : yRw σ a n) (k : ∀ σ', sg_F opL σ σ' → gvR σ σ' 1 n t → Q σ') : V_fCountUp σ a Q := by
  have n6 := h.2.2.2.2.2.2
  rw [hn] at n6
  unfold V_fCountUp
  rw [hn]
  refine ⟨fun m v σ2 => ∃ j : Nat, v = j ∧ (j : Int) ≤ n ∧ m = n.toNat - j ∧ yC σ2 (201 * j) ∧ aD σ2 j 0, fun σ2 => yC σ2 (201 * n) ∧ aD σ2 n.toNat 0, ⟨_, 0, rfl, by omega, rfl, yC_0 h.2.1, aD_0 h.2.1⟩, ?_, ?_⟩
  · rintro m v σ2 rv f2 ⟨j, rfl, hj, hm, hc, hA⟩
    refine ⟨fun z => ⟨yC_m hc (by omega), by rw [show n.toNat = j by omega]; exact hA⟩, fun z => ⟨fun y => ⟨yC_m hc (by omega), fun y2 => absurd y2 y⟩, fun y => ?_⟩⟩
    have ex2 : yEx σ σ2 := yEx_F f2 rfl
    refine f_sizeIn (yG_F h.1 f2 rfl) (yRw_up ex2 ha) ⟨by omega, z⟩ (fun q σ25 f25 hq _ _ => aD_first (aD_F hA f25) (yC_F hc f25 rfl) (by omega) hq (fun σ31 f31 c31 a31 _ => ?_))
    refine ⟨fun m2 v36 σ37 => ∃ i : Nat, v36 = i ∧ i ≤ q ∧ m2 = (q - i).toNat ∧ yC σ37 (201 * j + 1 + i) ∧ aD σ37 (j + 1) (q - i), fun σ37 => yC σ37 (201 * (j + 1 : Nat)) ∧ aD σ37 (j + 1) 0, ⟨_, 0, rfl, by omega, rfl, by rw [show (201 : Int) * j + 1 + (0 : Nat) = 201 * j + 1 by omega]; exact c31, by rw [show (0 : Int) + q = q - (0 : Nat) by omega] at a31; exact a31⟩, ?_, ?_⟩
    · rintro m2 v36 σ37 r36 f37 ⟨i, rfl, hi1, hm2, hc2, hA2⟩
      refine ⟨fun y => ⟨yC_m hc2 (by omega), by rw [show q - (i : Int) = 0 by omega] at hA2; exact hA2⟩, fun y => aD_second hA2 hc2 (by omega) r36 (fun σ3 f3 c3 a3 _ => ⟨⟨by omega, by omega⟩, (q - (i + 1 : Nat)).toNat, by omega, i + 1, by omega, by omega, rfl, by rw [show (201 : Int) * j + 1 + (i + 1 : Nat) = 201 * j + 1 + i + 1 by omega]; exact c3, ?_⟩)⟩
      rw [show (q - (i : Int) - 1) = q - ((i + 1 : Nat) : Int) by omega] at a3
      exact a3
    · rintro σ37 f37 ⟨hc2, hA2⟩
      exact ⟨⟨by omega, by omega⟩, n.toNat - (j + 1), by omega, j + 1, by omega, by omega, rfl, hc2, hA2⟩
  · rintro σ2 f2 ⟨hc, ha⟩
    exact f_give (D := 1) (f := 2) h (by omega) h9 (by omega) (sg_F_m f2 rfl) hc (aD_fd ha n6) (fun σ' f' r' _ => k σ' f' r')
theorem f_repeat {d : Nat} {v a : Int} (h : fP σ t) (hd : d + 1 ≤ 3) (h9 : sg_g σ 61 9 = (d + 1 : Nat)) (hn : sg_g σ 61 23 = n) (hv : yV σ d v n) (ha : yRw σ a n) (k : ∀ σ', sg_F opL σ σ' → gvR σ σ' (d + 1) n t → Q σ') : V_fRepeat σ v a Q := by
  have n6 := h.2.2.2.2.2.2
  rw [hn] at n6
  have vr := (yV_r hv).1
  have g1 := h.1.1
  unfold V_fRepeat
  rw [hn]
  refine ⟨fun m v σ2 => ∃ j : Nat, v = j ∧ (j : Int) ≤ n ∧ m = n.toNat - j ∧ yC σ2 (201 * j) ∧ aC σ2 d j 0, fun σ2 => yC σ2 (201 * n) ∧ aC σ2 d n.toNat 0, ⟨_, 0, rfl, by omega, rfl, yC_0 h.2.1, aC_0 h.2.1 d⟩, ?_, ?_⟩
  · rintro m v σ2 rv f2 ⟨j, rfl, hj, hm, hc, hA⟩
    refine ⟨fun z => ⟨yC_m hc (by omega), by rw [show n.toNat = j by omega]; exact hA⟩, fun z => ⟨fun y => ⟨yC_m hc (by omega), fun y2 => absurd y2 y⟩, fun y => ?_⟩⟩
    have ex2 : yEx σ σ2 := yEx_F f2 rfl
    refine f_sizeIn (yG_F h.1 f2 rfl) (yRw_up ex2 ha) ⟨by omega, z⟩ (fun q σ25 f25 hq _ _ => aC_first (aC_F hA f25 (yEx_F f25 rfl) rfl) (yC_F hc f25 rfl) (by omega) hq (fun σ31 f31 c31 a31 _ => ?_))
    have f31' := sg_F_t f2 (sg_F_t (sg_F_m f25 rfl) (sg_F_m f31 rfl))
    refine ⟨fun m2 v36 σ37 => ∃ i : Nat, v36 = i ∧ i ≤ q ∧ m2 = (q - i).toNat ∧ yC σ37 (201 * j + 1 + i) ∧ aC σ37 d (j + 1) (q - i), fun σ37 => yC σ37 (201 * (j + 1 : Nat)) ∧ aC σ37 d (j + 1) 0, ⟨_, 0, rfl, by omega, rfl, by rw [show (201 : Int) * j + 1 + (0 : Nat) = 201 * j + 1 by omega]; exact c31, by rw [show (0 : Int) + q = q - (0 : Nat) by omega] at a31; exact a31⟩, ?_, ?_⟩
    · rintro m2 v36 σ37 r36 f37 ⟨i, rfl, hi1, hm2, hc2, hA2⟩
      have ex37 : yEx σ σ37 := yEx_F (sg_F_t f31' (sg_F_m f37 rfl)) rfl
      refine ⟨fun y => ⟨yC_m hc2 (by omega), by rw [show q - (i : Int) = 0 by omega] at hA2; exact hA2⟩, fun y => ⟨⟨by omega, by omega⟩, aC_pick hA2 hc2 (by omega) ⟨by omega, by omega⟩ ⟨by omega, Or.inr ⟨_, yV_up ex37 hv, by omega⟩⟩ ⟨by omega, by omega⟩ (fun σ3 f3 c3 a3 _ => ⟨⟨by omega, by omega⟩, (q - (i + 1 : Nat)).toNat, by omega, i + 1, by omega, by omega, rfl, by rw [show (201 : Int) * j + 1 + (i + 1 : Nat) = 201 * j + 1 + i + 1 by omega]; exact c3, ?_⟩)⟩⟩
      rw [show (q - (i : Int) - ((j : Int) + 1 - j)) = q - ((i + 1 : Nat) : Int) by omega] at a3
      exact a3
    · rintro σ37 f37 ⟨hc2, hA2⟩
      exact ⟨⟨by omega, by omega⟩, n.toNat - (j + 1), by omega, j + 1, by omega, by omega, rfl, hc2, hA2⟩
  · rintro σ2 f2 ⟨hc, ha⟩
    exact f_give (D := d + 1) (f := 1) h hd h9 (by omega) (sg_F_m f2 rfl) hc (aC_fd1 ha n6) (fun σ' f' r' _ => k σ' f' r')
theorem f_row {d : Nat} {a : Int} (h : fP0 σ) (ht : sg_g σ 61 7 = t + a) (h0 : 0 ≤ t ∧ t + a ≤ 400) (ha : 1 ≤ a ∧ a ≤ 200) (hd : d + 1 ≤ 3) (h9 : sg_g σ 61 9 = (d + 1 : Nat)) (hn : sg_g σ 61 23 = n) (hv : ∀ i : Nat, (i : Int) < a → yV σ d (sg_g σ 64 (t + i)) n) (k : ∀ σ', sg_F opL σ σ' → gvR σ σ' (d + 1) n t → Q σ') : V_fRow σ a Q := by
  have n6 := h.2.2.2.2
  rw [hn] at n6
  have g1 := h.1.1
  unfold V_fRow
  rw [hn, ht, show t + a - a = t by omega]
  refine ⟨⟨by omega, by omega⟩, fun σ2 e2 => ?_⟩
  have f2 : sg_F [8061] σ σ2 := by rw [e2]; exact sg_F_w (sg_F_r _ _) rfl _
  have t2 : sg_g σ2 61 7 = t := by rw [e2, sg_gw_e _ _ _ _ ⟨by omega, by omega⟩]
  have hP : fP σ2 t := fP_mk h f2 t2 (by omega) rfl
  have ex2 : yEx σ σ2 := yEx_F f2 rfl
  refine ⟨fun m v σ6 => ∃ j : Nat, v = j ∧ (j : Int) ≤ n ∧ m = n.toNat - j ∧ yC σ6 (201 * j) ∧ aC σ6 d j 0, fun σ6 => yC σ6 (201 * n) ∧ aC σ6 d n.toNat 0, ⟨_, 0, rfl, by omega, rfl, yC_0 hP.2.1, aC_0 hP.2.1 d⟩, ?_, ?_⟩
  · rintro m v σ6 rv f6 ⟨j, rfl, hj, hm, hc, hA⟩
    refine ⟨fun z => ⟨yC_m hc (by omega), by rw [show n.toNat = j by omega]; exact hA⟩, fun z => ⟨fun y => ⟨yC_m hc (by omega), fun y2 => absurd y2 y⟩, fun y => ?_⟩⟩
    refine aC_first hA hc (by omega) (by omega) (fun σ31 f31 c31 a31 _ => ?_)
    have f31' := sg_F_t (sg_F_m (L := [83, 85, 86, 87, 12077, 14077, 16077]) f6 rfl) (sg_F_m f31 rfl)
    refine ⟨fun m2 v36 σ37 => ∃ i : Nat, v36 = i ∧ i ≤ a ∧ m2 = (a - i).toNat ∧ yC σ37 (201 * j + 1 + i) ∧ aC σ37 d (j + 1) (a - i), fun σ37 => yC σ37 (201 * (j + 1 : Nat)) ∧ aC σ37 d (j + 1) 0, ⟨_, 0, rfl, by omega, rfl, by rw [show (201 : Int) * j + 1 + (0 : Nat) = 201 * j + 1 by omega]; exact c31, by rw [show (0 : Int) + a = a - (0 : Nat) by omega] at a31; exact a31⟩, ?_, ?_⟩
    · rintro m2 v36 σ37 r36 f37 ⟨i, rfl, hi1, hm2, hc2, hA2⟩
      have ex37 : yEx σ σ37 := yEx_t ex2 (yEx_F (sg_F_t f31' (sg_F_m f37 rfl)) rfl)
      refine ⟨fun y => ⟨yC_m hc2 (by omega), by rw [show a - (i : Int) = 0 by omega] at hA2; exact hA2⟩, fun y => ?_⟩
      have vi := hv i y
      have vr := (yV_r vi).1
      rw [xa_in ⟨by omega, by omega⟩]
      refine ⟨⟨by omega, by omega⟩, ⟨by omega, by omega⟩, aC_pick hA2 hc2 (by omega) (sg_Rg _ _ _) ⟨by omega, Or.inr ⟨_, yV_up ex37 vi, by omega⟩⟩ ⟨by omega, by omega⟩ (fun σ3 f3 c3 a3 _ => ⟨⟨by omega, by omega⟩, (a - (i + 1 : Nat)).toNat, by omega, i + 1, by omega, by omega, rfl, by rw [show (201 : Int) * j + 1 + (i + 1 : Nat) = 201 * j + 1 + i + 1 by omega]; exact c3, ?_⟩)⟩
      rw [show (a - (i : Int) - ((j : Int) + 1 - j)) = a - ((i + 1 : Nat) : Int) by omega] at a3
      exact a3
    · rintro σ37 f37 ⟨hc2, hA2⟩
      exact ⟨⟨by omega, by omega⟩, n.toNat - (j + 1), by omega, j + 1, by omega, by omega, rfl, hc2, hA2⟩
  · rintro σ6 f6 ⟨hc, ha⟩
    refine f_give (D := d + 1) (f := 1) hP hd (by rw [sg_F_g f2 (by rfl)]; exact h9) (by omega) (sg_F_m f6 rfl) hc (aC_fd1 ha n6) (fun σ' f' r' _ => k σ' (sg_F_t (sg_F_m f2 rfl) f') ?_)
    rcases r' with z | ⟨z1, z2, z3, z4, z5, z6, z7, z8, z9, z10⟩
    · exact Or.inl z
    · exact Or.inr ⟨z1, yEx_t ex2 z2, z3, z4, z5, z6, fun i hi => by rw [z7 i hi, sg_F_ga f2 rfl], by rw [sg_F_ga f2 rfl] at z8; exact z8, by rw [sg_F_ga f2 rfl] at z9; exact z9, z10⟩
theorem f_sumUp {s : Int} (h : fP σ t) (h9 : sg_g σ 61 9 = 1) (hn : sg_g σ 61 23 = n) (hs : yV σ 1 s n) (k : ∀ σ', sg_F opL σ σ' → gvR σ σ' 1 n t → Q σ') : V_fSumUp σ s Q := by
  have n6 := h.2.2.2.2.2.2
  rw [hn] at n6
  have it := y_it h.1 hs
  unfold V_fSumUp
  rw [hn]
  refine ⟨y_pitems _ _, fun m v σ2 => ∃ j : Nat, v = j ∧ (j : Int) ≤ n ∧ m = n.toNat - j ∧ yC σ2 (201 * j) ∧ aD σ2 j 0, fun σ2 => yC σ2 (201 * n) ∧ aD σ2 n.toNat 0, ⟨_, 0, rfl, by omega, rfl, yC_0 h.2.1, aD_0 h.2.1⟩, ?_, ?_⟩
  · rintro m v σ2 rv f2 ⟨j, rfl, hj, hm, hc, hA⟩
    refine ⟨fun z => ⟨yC_m hc (by omega), by rw [show n.toNat = j by omega]; exact hA⟩, fun z => ?_⟩
    obtain ⟨b1, b2, b3, b4, b5, b6, b7, b8, b9, b10⟩ := y_lane h.1 hs (l := j) ⟨by omega, z⟩
    refine ⟨b10, b8, aD_first hA hc (by omega) b1 (fun σ31 f31 c31 a31 _ => ⟨b9, ?_⟩)⟩
    have ic : ∀ x, v_lStart σ s j ≤ x → x < v_lEnd σ s j → p_lCell σ (v_lItems σ s) x := fun x x1 x2 => (y_cell h.1 it (l := x) ⟨by omega, by omega⟩).2
    generalize v_lStart σ s j = lo at *
    generalize v_lEnd σ s j = hi at *
    generalize v_lCell σ s j = q at *
    refine ⟨fun m2 x v36 σ37 => ∃ i : Nat, v36 = lo + i ∧ i ≤ q ∧ m2 = (q - i).toNat ∧ yC σ37 (201 * j + 1 + i) ∧ aD σ37 (j + 1) (q - i), fun σ37 => yC σ37 (201 * (j + 1 : Nat)) ∧ aD σ37 (j + 1) 0, ⟨_, 0, by omega, by omega, rfl, by rw [show (201 : Int) * j + 1 + (0 : Nat) = 201 * j + 1 by omega]; exact c31, by rw [show (0 : Int) + q = q - (0 : Nat) by omega] at a31; exact a31⟩, ?_, ?_⟩
    · rintro m2 x v36 σ37 rx r36 f37 ⟨i, rfl, hi1, hm2, hc2, hA2⟩
      refine ⟨fun y => ⟨yC_m hc2 (by omega), by rw [show q - (i : Int) = 0 by omega] at hA2; exact hA2⟩, fun y => aD_second hA2 hc2 (by omega) rx (fun σ3 f3 c3 a3 _ => ⟨ic _ (by omega) y, ⟨by omega, by omega⟩, (q - (i + 1 : Nat)).toNat, by omega, i + 1, by omega, by omega, rfl, by rw [show (201 : Int) * j + 1 + (i + 1 : Nat) = 201 * j + 1 + i + 1 by omega]; exact c3, ?_⟩)⟩
      rw [show (q - (i : Int) - 1) = q - ((i + 1 : Nat) : Int) by omega] at a3
      exact a3
    · rintro σ37 f37 ⟨hc2, hA2⟩
      exact ⟨⟨by omega, by omega⟩, n.toNat - (j + 1), by omega, j + 1, by omega, by omega, rfl, hc2, hA2⟩
  · rintro σ2 f2 ⟨hc, ha⟩
    exact f_give (D := 1) (f := 2) h (by omega) h9 (by omega) (sg_F_m f2 rfl) hc (aD_fd ha n6) (fun σ' f' r' _ => k σ' f' r')
theorem f_pack {d : Nat} {s p : Int} (h : fP σ t) (hd : d + 1 ≤ 3) (h9 : sg_g σ 61 9 = (d + 1 : Nat)) (hn : sg_g σ 61 23 = n) (hs : yV σ (d + 1) s n) (hp : yV σ 1 p n) (k : ∀ σ', sg_F opL σ σ' → gvR σ σ' (d + 1) n t → Q σ') : V_fPack σ s p Q := by
  have n6 := h.2.2.2.2.2.2
  rw [hn] at n6
  have it := y_it h.1 hs
  have ip := y_it h.1 hp
  have ir := (yV_r it).1
  have g1 := h.1.1
  unfold V_fPack
  rw [hn]
  refine ⟨fun m v σ2 => ∃ j : Nat, v = j ∧ (j : Int) ≤ n ∧ m = n.toNat - j ∧ yC σ2 (201 * j) ∧ aC σ2 d j 0, fun σ2 => yC σ2 (201 * n) ∧ aC σ2 d n.toNat 0, ⟨_, 0, rfl, by omega, rfl, yC_0 h.2.1, aC_0 h.2.1 d⟩, ?_, ?_⟩
  · rintro m v σ2 rv f2 ⟨j, rfl, hj, hm, hc, hA⟩
    refine ⟨fun z => ⟨yC_m hc (by omega), by rw [show n.toNat = j by omega]; exact hA⟩, fun z => ?_⟩
    obtain ⟨b1, b2, b3, b4, b5, b6, b7, b8, b9, b10⟩ := y_lane h.1 hs (l := j) ⟨by omega, z⟩
    obtain ⟨c1, c2, c3, c4, c5, c6, c7, c8, c9, c10⟩ := y_lane h.1 hp (l := j) ⟨by omega, z⟩
    have ic : ∀ x, 0 ≤ x → x < v_lCell σ p j → p_lCell σ (v_lItems σ p) (v_lStart σ p j + x) := fun x x1 x2 => (y_cell h.1 ip (l := v_lStart σ p j + x) ⟨by omega, by omega⟩).2
    refine ⟨b8, c8, fun v32 σ30 => (v32 = 0 ∨ (v32 = v_lCell σ s j ∧ v32 = v_lCell σ p j)) ∧ yC σ30 (201 * j) ∧ aC σ30 d j 0, ⟨fun y => ⟨Or.inr ⟨rfl, y⟩, hc, hA⟩, fun y => y_miss (fun σ' f' _ => ⟨Or.inl rfl, yC_F hc f' rfl, aC_F hA f' (yEx_F f' rfl) rfl⟩)⟩, ?_⟩
    rintro q σ30 rq f30 ⟨hq, hc30, hA30⟩
    have f30' := sg_F_t f2 (sg_F_m f30 rfl)
    have q0 : 0 ≤ q ∧ q ≤ 200 := by rcases hq with e | e <;> omega
    have qs : ∀ x, x < q → x < v_lCell σ s j ∧ x < v_lCell σ p j ∨ x < 0 := fun x hx => by rcases hq with e | e <;> omega
    refine ⟨b9, fun m2 c v38 σ39 => ∃ i : Nat, v38 = i ∧ i ≤ q ∧ m2 = (q - i).toNat ∧ (0 ≤ c ∧ c ≤ i) ∧ yC σ39 (201 * j + c) ∧ aC σ39 d j (-c), fun c σ39 => (0 ≤ c ∧ c ≤ 200) ∧ yC σ39 (201 * j + c) ∧ aC σ39 d j (-c), ⟨_, 0, rfl, by omega, rfl, by omega, by rw [show (201 : Int) * j + 0 = 201 * j by omega]; exact hc30, hA30⟩, ?_, ?_⟩
    · rintro m2 c v38 σ39 rc r38 f39 ⟨i, rfl, hi1, hm2, hc0, hc2, hA2⟩
      have ex39 : yEx σ σ39 := yEx_F (sg_F_t f30' (sg_F_m f39 rfl)) rfl
      refine ⟨fun y => ⟨by omega, hc2, hA2⟩, fun y => ?_⟩
      have qq := (qs i y).resolve_right (by omega)
      refine ⟨y_pitems _ _, c9, ⟨by omega, by omega⟩, ic _ (by omega) qq.2, fun c' σ73 => (0 ≤ c' ∧ c' ≤ i + 1) ∧ yC σ73 (201 * j + c') ∧ aC σ73 d j (-c'), ⟨fun _ => ⟨by omega, hc2, hA2⟩, fun _ => ⟨⟨by omega, by omega⟩, y_pitems _ _, ⟨by omega, by omega⟩, ⟨by omega, by omega⟩, aC_pick hA2 hc2 (by omega) ⟨by omega, by omega⟩ ⟨by omega, Or.inr ⟨_, yV_up ex39 it, by omega⟩⟩ ⟨by omega, by omega⟩ (fun σ3 f3 c3 a3 _ => ⟨by omega, by rw [show (201 : Int) * j + (c + 1) = 201 * j + c + 1 by omega]; exact c3, ?_⟩)⟩⟩, fun c' σ73 rc' f73 h73 => ⟨⟨by omega, by omega⟩, (q - (i + 1 : Nat)).toNat, by omega, i + 1, by omega, by omega, rfl, by omega, h73.2.1, h73.2.2⟩⟩
      rw [show (-c - (v_lStart σ s ↑j + ↑i + 1 - (v_lStart σ s ↑j + ↑i))) = -(c + 1) by omega] at a3
      exact a3
    · rintro c σ39 rc f39 ⟨hc0, hc2, hA2⟩
      refine aC_first hA2 hc2 (by omega) hc0 (fun σ3 f3 c3 a3 _ => ⟨⟨by omega, by omega⟩, n.toNat - (j + 1), by omega, j + 1, by omega, by omega, rfl, yC_m c3 (by omega), ?_⟩)
      rw [show -c + c = 0 by omega] at a3
      exact a3
  · rintro σ2 f2 ⟨hc, ha⟩
    exact f_give (D := d + 1) (f := 1) h hd h9 (by omega) (sg_F_m f2 rfl) hc (aC_fd1 ha n6) (fun σ' f' r' _ => k σ' f' r')
end OPB
/-! permute and divide. -/
section PRM
variable {σ : sg_S} {t n : Int} {Q : sg_S → Prop}
theorem x_invert {a : Nat} {Q : Int → sg_S → Prop} (ha : a ≤ 200) (k0 : ∀ σ', sg_F [76] σ σ' → Q 0 σ') (k1 : ∀ σ', sg_F [76] σ σ' → (∀ j : Nat, j < a → 0 ≤ sg_g σ' 76 j ∧ sg_g σ' 76 j < a) → Q 1 σ') : V_xInvert σ a Q := by
  unfold V_xInvert
  refine ⟨fun m v σ2 => ∃ j : Nat, v = j ∧ j ≤ a ∧ m = a - j ∧ ∀ i : Nat, i < j → sg_g σ2 76 i = -1, fun σ2 => ∀ i : Nat, i < a → sg_g σ2 76 i = -1, ⟨_, 0, rfl, by omega, rfl, fun i hi => by omega⟩, ?_, ?_⟩
  · rintro m v σ2 rv f2 ⟨j, rfl, hj, hm, h⟩
    refine ⟨fun z i hi => h i (by omega), fun z σ41 e41 => ⟨⟨by omega, by omega⟩, a - (j + 1), by omega, j + 1, by omega, by omega, rfl, fun i hi => ?_⟩⟩
    rw [e41, xp_in ⟨by omega, by omega⟩]
    by_cases e : i = j
    · subst e; rw [sg_gw_e _ _ _ _ (by decide)]
    · rw [sg_gw_k _ _ _ _ _ _ (by omega)]; exact h i (by omega)
  · intro σ2 f2 h
    refine ⟨fun m v σ17 => ∃ (j : Nat) (W : List Int), v = j ∧ j ≤ a ∧ m = a - j ∧ W.length = j ∧ W.Nodup ∧ (∀ x ∈ W, 0 ≤ x ∧ x < a) ∧ ∀ i : Nat, i < a → ((i : Int) ∈ W → 0 ≤ sg_g σ17 76 i ∧ sg_g σ17 76 i < a) ∧ ((i : Int) ∉ W → sg_g σ17 76 i = -1), fun σ17 => ∀ j : Nat, j < a → 0 ≤ sg_g σ17 76 j ∧ sg_g σ17 76 j < a, ⟨_, 0, [], rfl, by omega, rfl, rfl, List.nodup_nil, by simp, fun i hi => ⟨fun z => by simp at z, fun _ => h i hi⟩⟩, ?_, fun σ17 f17 h17 => k1 σ17 (sg_F_t f2 f17) h17⟩
    rintro m v σ17 rv f17 ⟨j, W, rfl, hj, hm, hl, hN, hW, hi⟩
    have f17' := sg_F_t f2 f17
    refine ⟨fun z i hi2 => ?_, fun z => ?_⟩
    · refine (hi i hi2).1 (Decidable.byContradiction fun hn => ?_)
      have := ndl a ((i : Int) :: W) (List.nodup_cons.mpr ⟨hn, hN⟩) (fun x hx => by
        rcases List.mem_cons.mp hx with e | e
        · rw [e]; omega
        · exact hW x e)
      simp only [List.length_cons] at this
      omega
    · rw [xa_in (a := 75) ⟨by omega, by omega⟩]
      generalize sg_g σ 75 j = w
      refine ⟨fun _ => k0 σ17 f17', fun w0 => ⟨fun _ => k0 σ17 f17', fun w1 => ?_⟩⟩
      rw [xa_in (a := 76) ⟨by omega, by omega⟩]
      refine ⟨fun y σ35 e35 => ⟨⟨by omega, by omega⟩, a - (j + 1), by omega, j + 1, w :: W, by omega, by omega, rfl, by simp [hl], ?_, ?_, ?_⟩, fun _ => k0 σ17 f17'⟩
      · refine List.nodup_cons.mpr ⟨fun hm => ?_, hN⟩
        have := (hi w.toNat (by omega)).1
        rw [show ((w.toNat : Nat) : Int) = w by omega] at this
        have := this hm
        omega
      · intro x hx
        rcases List.mem_cons.mp hx with e | e
        · rw [e]; omega
        · exact hW x e
      · intro i hi2
        rw [e35, xp_in ⟨by omega, by omega⟩]
        by_cases e : (i : Int) = w
        · rw [e, sg_gw_e _ _ _ _ ⟨by omega, by omega⟩]
          exact ⟨fun _ => by omega, fun hn => absurd (by simp) hn⟩
        · rw [sg_gw_k _ _ _ _ _ _ e]
          refine ⟨fun hm => (hi i hi2).1 ?_, fun hn => (hi i hi2).2 (fun q => hn (by simp [q]))⟩
          rcases List.mem_cons.mp hm with q | q
          · exact absurd q e
          · exact q
theorem f_ordered {s p j : Int} {Q : Int → sg_S → Prop} {d : Nat} (g : yG σ) (hs : yV σ (d + 1) s n) (hp : yV σ 1 p n) (hj : 0 ≤ j ∧ j < n) (k : ∀ q σ', sg_F [75, 76, 15077] σ σ' → (q = 0 ∨ (q = v_lCell σ s j ∧ ∀ i : Nat, (i : Int) < q → 0 ≤ sg_g σ' 76 i ∧ sg_g σ' 76 i < q)) → Q q σ') : V_fOrdered σ s p j Q := by
  obtain ⟨b1, b2, b3, b4, b5, b6, b7, b8, b9, b10⟩ := y_lane g hs hj
  obtain ⟨c1, c2, c3, c4, c5, c6, c7, c8, c9, c10⟩ := y_lane g hp hj
  have ip := y_it g hp
  have ic : ∀ x, 0 ≤ x → x < v_lCell σ p j → p_lCell σ (v_lItems σ p) (v_lStart σ p j + x) := fun x x1 x2 => (y_cell g ip (l := v_lStart σ p j + x) ⟨by omega, by omega⟩).2
  unfold V_fOrdered
  refine ⟨b8, c8, fun e => ?_, fun _ => y_miss (fun σ' f' _ => k 0 σ' (sg_F_m f' rfl) (Or.inl rfl))⟩
  obtain ⟨a, ea⟩ : ∃ a : Nat, v_lCell σ s j = a := ⟨(v_lCell σ s j).toNat, by omega⟩
  rw [ea] at k b1 e ⊢
  refine ⟨fun m v σ7 => ∃ i : Nat, v = i ∧ i ≤ a ∧ m = a - i, fun _ => True, ⟨_, 0, rfl, by omega, rfl⟩, ?_, ?_⟩
  · rintro m v σ7 rv f7 ⟨i, rfl, hi, hm⟩
    exact ⟨fun _ => trivial, fun z => ⟨y_pitems _ _, c9, ⟨by omega, by omega⟩, ic _ (by omega) (by omega), fun σ42 e42 => ⟨⟨by omega, by omega⟩, a - (i + 1), by omega, i + 1, by omega, by omega, rfl⟩⟩⟩
  · intro σ7 f7 _
    refine x_invert (by omega) (fun σ' f' _ f2 => ⟨fun z => absurd rfl z, fun _ => y_miss (fun σ29 f29 _ => k 0 σ29 (sg_F_t (sg_F_t (sg_F_m f7 rfl) (sg_F_m f' rfl)) (sg_F_m f29 rfl)) (Or.inl rfl))⟩) (fun σ' f' h' _ f2 => ⟨fun _ => k a σ' (sg_F_t (sg_F_m f7 rfl) (sg_F_m f' rfl)) (Or.inr ⟨rfl, fun i hi => h' i (by omega)⟩), fun z => absurd z (by decide)⟩)
theorem f_permute {d : Nat} {s p : Int} (h : fP σ t) (hd : d + 1 ≤ 3) (h9 : sg_g σ 61 9 = (d + 1 : Nat)) (hn : sg_g σ 61 23 = n) (hs : yV σ (d + 1) s n) (hp : yV σ 1 p n) (k : ∀ σ', sg_F opL σ σ' → gvR σ σ' (d + 1) n t → Q σ') : V_fPermute σ s p Q := by
  have n6 := h.2.2.2.2.2.2
  rw [hn] at n6
  have it := y_it h.1 hs
  have ir := (yV_r it).1
  have g1 := h.1.1
  unfold V_fPermute
  rw [hn]
  refine ⟨fun m v σ2 => ∃ j : Nat, v = j ∧ (j : Int) ≤ n ∧ m = n.toNat - j ∧ yC σ2 (201 * j) ∧ aC σ2 d j 0, fun σ2 => yC σ2 (201 * n) ∧ aC σ2 d n.toNat 0, ⟨_, 0, rfl, by omega, rfl, yC_0 h.2.1, aC_0 h.2.1 d⟩, ?_, ?_⟩
  · rintro m v σ2 rv f2 ⟨j, rfl, hj, hm, hc, hA⟩
    refine ⟨fun z => ⟨yC_m hc (by omega), by rw [show n.toNat = j by omega]; exact hA⟩, fun z => ?_⟩
    obtain ⟨b1, b2, b3, b4, b5, b6, b7, b8, b9, b10⟩ := y_lane h.1 hs (l := j) ⟨by omega, z⟩
    have ex2 : yEx σ σ2 := yEx_F f2 rfl
    have ce : v_lCell σ2 s j = v_lCell σ s j := by
      unfold v_lCell
      rw [sg_F_ga (a := 80) f2 rfl, sg_F_ga (a := 78) f2 rfl]
    refine f_ordered (yG_F h.1 f2 rfl) (yV_up ex2 hs) (yV_up ex2 hp) ⟨by omega, z⟩ (fun q σ24 f24 hq rq _ => ⟨b9, ?_⟩)
    rw [ce] at hq
    have q0 : 0 ≤ q ∧ q ≤ 200 := by rcases hq with e | ⟨e, -⟩ <;> omega
    refine aC_first (aC_F hA f24 (yEx_F f24 rfl) rfl) (yC_F hc f24 rfl) (by omega) q0 (fun σ32 f32 c32 a32 _ => ?_)
    have f32' := sg_F_t f2 (sg_F_t (sg_F_m f24 rfl) (sg_F_m f32 rfl))
    refine ⟨fun m2 v37 σ38 => ∃ i : Nat, v37 = i ∧ i ≤ q ∧ m2 = (q - i).toNat ∧ yC σ38 (201 * j + 1 + i) ∧ aC σ38 d (j + 1) (q - i), fun σ38 => yC σ38 (201 * (j + 1 : Nat)) ∧ aC σ38 d (j + 1) 0, ⟨_, 0, rfl, by omega, rfl, by rw [show (201 : Int) * j + 1 + (0 : Nat) = 201 * j + 1 by omega]; exact c32, by rw [show (0 : Int) + q = q - (0 : Nat) by omega] at a32; exact a32⟩, ?_, ?_⟩
    · rintro m2 v37 σ38 r37 f38 ⟨i, rfl, hi1, hm2, hc2, hA2⟩
      have ex38 : yEx σ σ38 := yEx_F (sg_F_t f32' (sg_F_m f38 rfl)) rfl
      refine ⟨fun y => ⟨yC_m hc2 (by omega), by rw [show q - (i : Int) = 0 by omega] at hA2; exact hA2⟩, fun y => ?_⟩
      have hq2 : q = v_lCell σ s j ∧ (0 ≤ sg_g σ24 76 i ∧ sg_g σ24 76 i < q) := by
        rcases hq with e | ⟨e, e2⟩
        · omega
        · exact ⟨e, e2 i y⟩
      rw [xa_in ⟨by omega, by omega⟩]
      generalize sg_g σ24 76 i = o at *
      refine ⟨y_pitems _ _, ⟨by omega, by omega⟩, ⟨by omega, by omega⟩, aC_pick hA2 hc2 (by omega) ⟨by omega, by omega⟩ ⟨by omega, Or.inr ⟨_, yV_up ex38 it, by omega⟩⟩ ⟨by omega, by omega⟩ (fun σ3 f3 c3 a3 _ => ⟨⟨by omega, by omega⟩, (q - (i + 1 : Nat)).toNat, by omega, i + 1, by omega, by omega, rfl, by rw [show (201 : Int) * j + 1 + (i + 1 : Nat) = 201 * j + 1 + i + 1 by omega]; exact c3, ?_⟩)⟩
      rw [show (q - (i : Int) - (v_lStart σ s ↑j + o + 1 - (v_lStart σ s ↑j + o))) = q - ((i + 1 : Nat) : Int) by omega] at a3
      exact a3
    · rintro σ38 f38 ⟨hc2, hA2⟩
      exact ⟨⟨by omega, by omega⟩, n.toNat - (j + 1), by omega, j + 1, by omega, by omega, rfl, hc2, hA2⟩
  · rintro σ2 f2 ⟨hc, ha⟩
    exact f_give (D := d + 1) (f := 1) h hd h9 (by omega) (sg_F_m f2 rfl) hc (aC_fd1 ha n6) (fun σ' f' r' _ => k σ' f' r')
theorem su_ge {g : Int → Int} {p : Int} : ∀ {i j : Nat}, (∀ k : Nat, k < i → 0 ≤ g (p + k)) → j < i → g (p + j) ≤ su g p i ∧ 0 ≤ su g p i
  | 0, j, _, hj => by omega
  | i + 1, j, h, hj => by
    simp only [su]
    have hi := h i (by omega)
    by_cases e : j = i
    · subst e
      cases j with
      | zero => simp only [su]; omega
      | succ q =>
        have := (su_ge (g := g) (p := p) (i := q + 1) (j := 0) (fun k hk => h k (by omega)) (by omega)).2
        omega
    · have := su_ge (g := g) (p := p) (i := i) (j := j) (fun k hk => h k (by omega)) (by omega)
      omega
theorem f_cannot {z it lo hi : Int} {Q : Int → sg_S → Prop} {m : Int} (g : yG σ) (hi' : yRw σ it m) (h0 : 0 ≤ lo ∧ lo ≤ hi ∧ hi ≤ m) (hl : hi - lo ≤ 200) (k0 : (∀ i : Nat, (i : Int) < hi - lo → 0 ≤ v_lCell σ it (lo + i)) → su (fun x => v_lCell σ it x) lo (hi - lo).toNat = z → Q 0 σ) (k1 : ∀ q, ¬ q = 0 → sg_R q → Q q σ) : V_fCannotDivide σ z it lo hi Q := by
  have m6 := hi'.2.2.2
  have g6 := g.2.1
  unfold V_fCannotDivide
  refine ⟨fun n' v1 v2 => ∃ i : Nat, v2 = lo + i ∧ lo + i ≤ hi ∧ n' = (hi - v2).toNat ∧ v1 = su (fun x => v_lCell σ it x) lo i ∧ (∀ i' : Nat, i' < i → 0 ≤ v_lCell σ it (lo + i')) ∧ (0 ≤ v1 ∧ v1 ≤ 2147483648 * i), fun v1 => v1 = su (fun x => v_lCell σ it x) lo (hi - lo).toNat ∧ ∀ i : Nat, (i : Int) < hi - lo → 0 ≤ v_lCell σ it (lo + i), ⟨_, 0, by omega, by omega, rfl, rfl, fun i hi => by omega, by omega⟩, ?_, ?_⟩
  · rintro n' v1 v2 r1 r2 ⟨i, rfl, hi1, hn', e1, e2, e3⟩
    refine ⟨fun y => ⟨by rw [show (hi - lo).toNat = i by omega]; exact e1, fun i' hi2 => e2 i' (by omega)⟩, fun y => ?_⟩
    obtain ⟨c1, c2⟩ := y_cell g hi' (l := lo + i) ⟨by omega, by omega⟩
    have rc : sg_R (v_lCell σ it (lo + i)) := by rw [c1]; exact sg_Rg _ _ _
    have rc2 := rc.2
    refine ⟨c2, fun y2 => ⟨⟨by omega, by omega⟩, ⟨by omega, by omega⟩, (hi - (lo + i + 1)).toNat, by omega, i + 1, by omega, by omega, rfl, by simp only [su]; rw [e1], fun i' hi2 => ?_, by omega⟩, fun _ => k1 5 (by decide) (by decide)⟩
    by_cases e : i' = i
    · rw [e]; exact y2
    · exact e2 i' (by omega)
  · rintro v1 r1 ⟨e1, e2⟩
    exact ⟨fun _ => k1 3 (by decide) (by decide), fun y => k0 e2 (by rw [← e1]; exact y)⟩
theorem f_divide {d : Nat} {s p : Int} (h : fP σ t) (hd : d + 2 ≤ 3) (h9 : sg_g σ 61 9 = (d + 2 : Nat)) (hn : sg_g σ 61 23 = n) (hs : yV σ (d + 1) s n) (hp : yV σ 1 p n) (k : ∀ σ', sg_F opL σ σ' → gvR σ σ' (d + 2) n t → Q σ') : V_fDivide σ s p Q := by
  have n6 := h.2.2.2.2.2.2
  rw [hn] at n6
  have it := y_it h.1 hs
  have ip := y_it h.1 hp
  have ir := (yV_r it).1
  have g1 := h.1.1
  unfold V_fDivide
  rw [hn]
  refine ⟨fun m v σ2 => ∃ j : Nat, v = j ∧ (j : Int) ≤ n ∧ m = n.toNat - j ∧ yC σ2 (203 * j) ∧ aE σ2 d j 0 0, fun σ2 => yC σ2 (203 * n) ∧ aE σ2 d n.toNat 0 0, ⟨_, 0, rfl, by omega, rfl, yC_0 h.2.1, aE_0 h.2.1 d⟩, ?_, ?_⟩
  · rintro m v σ2 rv f2 ⟨j, rfl, hj, hm, hc, hA⟩
    refine ⟨fun z => ⟨yC_m hc (by omega), by rw [show n.toNat = j by omega]; exact hA⟩, fun z => ?_⟩
    obtain ⟨b1, b2, b3, b4, b5, b6, b7, b8, b9, b10⟩ := y_lane h.1 hs (l := j) ⟨by omega, z⟩
    obtain ⟨c1, c2, c3, c4, c5, c6, c7, c8, c9, c10⟩ := y_lane h.1 hp (l := j) ⟨by omega, z⟩
    have ex2 : yEx σ σ2 := yEx_F f2 rfl
    have ce : ∀ v x, v_lCell σ2 v x = v_lCell σ v x := fun v x => by
      unfold v_lCell
      rw [sg_F_ga (a := 80) f2 rfl, sg_F_ga (a := 78) f2 rfl]
    have ic : ∀ x, v_lStart σ p j ≤ x → x < v_lEnd σ p j → p_lCell σ (v_lItems σ p) x := fun x x1 x2 => (y_cell h.1 ip (l := x) ⟨by omega, by omega⟩).2
    have fin : ∀ σ40, (yC σ40 (203 * (j + 1 : Nat)) ∧ aE σ40 d (j + 1) 0 0) → sg_R ((j : Int) + 1) ∧ ∃ m', m' < m ∧ ∃ j' : Nat, (j : Int) + 1 = j' ∧ (j' : Int) ≤ n ∧ m' = n.toNat - j' ∧ yC σ40 (203 * j') ∧ aE σ40 d j' 0 0 := fun σ40 h40 => ⟨⟨by omega, by omega⟩, n.toNat - (j + 1), by omega, j + 1, by omega, by omega, rfl, h40.1, h40.2⟩
    generalize v_lStart σ p j = lo at *
    generalize v_lEnd σ p j = hi at *
    generalize v_lItems σ p = itp at *
    refine ⟨c9, c10, b8, y_pitems _ _, f_cannot (yG_F h.1 f2 rfl) (yRw_up ex2 (yV_r ip)) ⟨by omega, by omega, by omega⟩ (by omega) (fun k1 k2 _ => ?_) (fun q hq rq _ => ?_)⟩
    · refine ⟨fun σ40 => yC σ40 (203 * (j + 1 : Nat)) ∧ aE σ40 d (j + 1) 0 0, ⟨fun _ => ⟨⟨by omega, by omega⟩, ?_⟩, fun y => absurd rfl y⟩, fun σ40 f40 h40 => fin σ40 h40⟩
      refine aE_first hA hc (by omega) (by omega) (fun σ47 f47 c47 a47 _ => ?_)
      have f47' := sg_F_t (sg_F_m (L := [83, 84, 85, 86, 87, 12077, 13077, 14077, 15077, 16077]) f2 rfl) (sg_F_m f47 rfl)
      refine ⟨fun m2 v52 σ53 => ∃ i : Nat, v52 = lo + i ∧ lo + i ≤ hi ∧ m2 = (hi - v52).toNat ∧ yC σ53 (203 * j + 1 + i) ∧ aE σ53 d (j + 1) (hi - lo - i) (su (fun x => v_lCell σ2 itp x) lo i), fun σ53 => yC σ53 (203 * j + 1 + 200) ∧ aE σ53 d (j + 1) 0 (v_lCell σ s j), ⟨_, 0, by omega, by omega, rfl, by rw [show (203 : Int) * j + 1 + (0 : Nat) = 203 * j + 1 by omega]; exact c47, by rw [show (0 : Int) + (hi - lo) = hi - lo - (0 : Nat) by omega] at a47; exact a47⟩, ?_, ?_⟩
      · rintro m2 v52 σ53 r52 f53 ⟨i, rfl, hi1, hm2, hc2, hA2⟩
        refine ⟨fun y => ⟨yC_m hc2 (by omega), ?_⟩, fun y => ?_⟩
        · rw [show hi - lo - (i : Int) = 0 by omega, show i = (hi - lo).toNat by omega, k2] at hA2
          exact hA2
        · have nn := k1 i (by omega)
          have gg := (su_ge (g := fun x => v_lCell σ2 itp x) (p := lo) (i := (hi - lo).toNat) (j := i) (fun k hk => k1 k (by omega)) (by omega)).1
          rw [k2] at gg
          rw [ce] at nn gg
          refine ⟨y_pitems _ _, ic _ (by omega) y, aE_second hA2 hc2 (by omega) ⟨nn, by omega⟩ (fun σ3 f3 c3 a3 _ => ⟨⟨by omega, by omega⟩, (hi - (lo + i + 1)).toNat, by omega, i + 1, by omega, by omega, rfl, by rw [show (203 : Int) * j + 1 + (i + 1 : Nat) = 203 * j + 1 + i + 1 by omega]; exact c3, ?_⟩)⟩
          simp only [su]
          rw [ce, show hi - lo - ((i + 1 : Nat) : Int) = hi - lo - i - 1 by omega]
          exact a3
      · rintro σ53 f53 ⟨hc2, hA2⟩
        have ex53 : yEx σ σ53 := yEx_F (sg_F_t f47' (sg_F_m f53 rfl)) rfl
        refine ⟨y_pitems _ _, b9, b10, aE_pick hA2 hc2 (by omega) ⟨by omega, by omega⟩ ⟨by omega, Or.inr ⟨_, yV_up ex53 it, by omega⟩⟩ ⟨by omega, by omega⟩ (fun σ3 f3 c3 a3 _ => ⟨yC_m c3 (by omega), ?_⟩)⟩
        rw [show v_lCell σ s j - (v_lEnd σ s j - v_lStart σ s j) = 0 by omega] at a3
        exact a3
    · refine ⟨fun σ40 => yC σ40 (203 * (j + 1 : Nat)) ∧ aE σ40 d (j + 1) 0 0, ⟨fun y => absurd y hq, fun _ => ?_⟩, fun σ40 f40 h40 => fin σ40 h40⟩
      exact y_miss (fun σ93 f93 _ => aE_first (aE_F hA f93) (yC_F hc f93 rfl) (by omega) (by omega) (fun σ99 f99 c99 a99 _ => ⟨yC_m c99 (by omega), a99⟩))
  · rintro σ2 f2 ⟨hc, ha⟩
    exact f_give (D := d + 2) (f := 2) h hd h9 (by omega) (sg_F_m f2 rfl) hc (aE_fd ha n6) (fun σ' f' r' _ => k σ' f' r')
end PRM
