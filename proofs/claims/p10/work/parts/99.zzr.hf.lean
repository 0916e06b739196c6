/-! bundle, push, pop, give. -/
section BND
variable {σ : sg_S}
theorem y_bundle {Q : Int → sg_S → Prop} {d : Nat} {a it n : Int} (g : yG σ) (hw : sg_g σ 77 10 + 1 ≤ 8000) (ha : yRw σ a n) (hl : yLn σ a n) (hi : yV σ d it (su (sg_g σ 78) (sg_g σ 80 a) n.toNat)) (k : ∀ σ', sg_F [79, 80, 81, 82, 11077] σ σ' → yEx σ σ' → yG σ' → yV σ' (d + 1) (sg_g σ 77 10) n → sg_g σ' 77 10 = sg_g σ 77 10 + 1 → Q (sg_g σ 77 10) σ') : V_lBundle σ a it Q := by
  have ha0 := ha
  obtain ⟨a1, a2, a3, a4, a5⟩ := ha
  obtain ⟨g1, g2, g3, g4⟩ := id g
  have hit := (yV_r hi).1
  generalize hw0 : sg_g σ 77 10 = w at *
  unfold V_lBundle
  rw [hw0, xa_in (a := 80) ⟨by omega, by omega⟩, xa_in (a := 81) ⟨by omega, by omega⟩]
  intro σ1 e1 σ4 e4 σ7 e7
  rw [xp_in ⟨by omega, by omega⟩] at e1 e4 e7
  have f7 : sg_F [80, 81, 82] σ σ7 := by rw [e7, e4, e1]; exact sg_F_w (sg_F_w (sg_F_w (sg_F_r _ _) rfl _) rfl _) rfl _
  have i80 : sg_g σ7 80 w = sg_g σ 80 a := by rw [e7, sg_gw_c _ _ _ _ _ _ (by decide), e4, sg_gw_c _ _ _ _ _ _ (by decide), e1, sg_gw_e _ _ _ _ (sg_Rg _ _ _)]
  have i81 : sg_g σ7 81 w = n := by rw [e7, sg_gw_c _ _ _ _ _ _ (by decide), e4, sg_gw_e _ _ _ _ (sg_Rg _ _ _)]; exact a2
  have i82 : sg_g σ7 82 w = it := by rw [e7, sg_gw_e _ _ _ _ ⟨by omega, by omega⟩]
  have r7 : ∀ v, 0 ≤ v → v < w → sg_g σ7 80 v = sg_g σ 80 v ∧ sg_g σ7 81 v = sg_g σ 81 v ∧ sg_g σ7 82 v = sg_g σ 82 v := fun v x y => by
    refine ⟨?_, ?_, ?_⟩
    · rw [e7, sg_gw_c _ _ _ _ _ _ (by decide), e4, sg_gw_c _ _ _ _ _ _ (by decide), e1, sg_gw_k _ _ _ _ _ _ (by omega)]
    · rw [e7, sg_gw_c _ _ _ _ _ _ (by decide), e4, sg_gw_k _ _ _ _ _ _ (by omega), e1, sg_gw_c _ _ _ _ _ _ (by decide)]
    · rw [e7, sg_gw_k _ _ _ _ _ _ (by omega), e4, sg_gw_c _ _ _ _ _ _ (by decide), e1, sg_gw_c _ _ _ _ _ _ (by decide)]
  refine y_lay (n := n) (by rw [xa_in ⟨by omega, by omega⟩]; exact i81) (by omega) (fun _ => ⟨by omega, by rw [i80]; omega, by rw [i80]; omega⟩) (fun i hi => by rw [i80, sg_F_ga f7 rfl]; exact hl i hi) (fun σ11 f11 l1 l2 _ => ⟨⟨by omega, by omega⟩, fun σ17 e17 => ⟨⟨by omega, by omega⟩, ?_⟩⟩)
  rw [i80] at l1 l2
  rw [show w + 1 - 1 = w by omega]
  have f17 : sg_F [11077] σ11 σ17 := by rw [e17]; exact sg_F_w (sg_F_r _ _) rfl _
  have F : sg_F [79, 80, 81, 82, 11077] σ σ17 := sg_F_t (sg_F_t (sg_F_m f7 rfl) (sg_F_m f11 rfl)) (sg_F_m f17 rfl)
  have f717 : sg_F [79, 11077] σ7 σ17 := sg_F_t (sg_F_m f11 rfl) (sg_F_m f17 rfl)
  have w17 : sg_g σ17 77 10 = w + 1 := by rw [e17, sg_gw_e _ _ _ _ ⟨by omega, by omega⟩]
  have u17 : sg_g σ17 77 16 = sg_g σ 77 16 := sg_F_g F rfl
  have c17 : ∀ x, sg_g σ17 78 x = sg_g σ 78 x := fun x => sg_F_ga F rfl
  have r17 : ∀ v, 0 ≤ v → v < w → sg_g σ17 80 v = sg_g σ 80 v ∧ sg_g σ17 81 v = sg_g σ 81 v ∧ sg_g σ17 82 v = sg_g σ 82 v := fun v x y => by
    obtain ⟨t1, t2, t3⟩ := r7 v x y
    exact ⟨by rw [sg_F_ga f717 rfl]; exact t1, by rw [sg_F_ga f717 rfl]; exact t2, by rw [sg_F_ga f717 rfl]; exact t3⟩
  have s17 : ∀ i : Nat, (i : Int) < n → sg_g σ17 79 (sg_g σ 80 a + i) = su (sg_g σ 78) (sg_g σ 80 a) i := fun i hi => by
    rw [sg_F_ga f17 rfl, l1 i hi]
    exact su_sh (fun j hj => sg_F_ga f7 rfl)
  have ex : yEx σ σ17 := by
    refine ⟨⟨by omega, by omega⟩, fun v x y => r17 v x (by omega), fun x _ _ => c17 x, fun v m r lo i hi => ?_⟩
    obtain ⟨v1, v2, v3, v4, v5⟩ := r
    rw [(r17 v v1.1 (by omega)).1]
    have sm : su (sg_g σ17 78) (sg_g σ 80 v) i = su (sg_g σ 78) (sg_g σ 80 v) i := su_sh (fun j hj => c17 _)
    rw [sm]
    rcases g4 v a v1.1 (by omega) a1.1 (by omega) with ⟨q1, q2⟩ | q
    · rw [q1]
      exact s17 i (by omega)
    · rw [sg_F_ga f17 rfl, l2 _ (fun i' hi' => by omega), sg_F_ga f7 rfl]
      exact lo i hi
  have h80 : sg_g σ17 80 w = sg_g σ 80 a := by rw [sg_F_ga f717 rfl]; exact i80
  have h81 : sg_g σ17 81 w = n := by rw [sg_F_ga f717 rfl]; exact i81
  have h82 : sg_g σ17 82 w = it := by rw [sg_F_ga f717 rfl]; exact i82
  refine k σ17 F ex ?_ ?_ w17
  · refine ⟨by omega, by rw [u17]; exact g2, fun v x y => ?_, fun v v' x y x' y' => ?_⟩
    · by_cases e : v = w
      · rw [e, h80, h81, u17]; omega
      · have := g3 v x (by omega)
        rw [(r17 v x (by omega)).1, (r17 v x (by omega)).2.1, u17]; omega
    · by_cases e : v = w
      · by_cases e' : v' = w
        · left; rw [e, e']; exact ⟨rfl, rfl⟩
        · rw [e, h80, h81, (r17 v' x' (by omega)).1, (r17 v' x' (by omega)).2.1, ← a2]
          exact g4 a v' a1.1 (by omega) x' (by omega)
      · by_cases e' : v' = w
        · rw [e', h80, h81, (r17 v x (by omega)).1, (r17 v x (by omega)).2.1, ← a2]
          exact g4 v a x (by omega) a1.1 (by omega)
        · rw [(r17 v x (by omega)).1, (r17 v x (by omega)).2.1, (r17 v' x' (by omega)).1, (r17 v' x' (by omega)).2.1]
          exact g4 v v' x (by omega) x' (by omega)
  · refine ⟨⟨by omega, h81, a3, by rw [h80]; exact a4, by rw [h80, u17]; exact a5⟩, fun i hi => ?_, fun i hi => ?_, ?_⟩
    · rw [h80, c17]; exact hl i hi
    · rw [h80, s17 i hi]
      exact (su_sh (fun j hj => c17 _)).symm
    · rw [h82, h80, su_sh (g := sg_g σ 78) (p := sg_g σ 80 a) (fun j hj => c17 _)]
      exact yV_up ex hi
theorem y_push {Q : sg_S → Prop} {t x : Int} (ht : sg_g σ 61 7 = t) (h0 : 0 ≤ t ∧ t < 400) (hx : sg_R x) (k : ∀ σ', sg_F [64, 8061] σ σ' → sg_g σ' 61 7 = t + 1 → sg_g σ' 64 t = x → (∀ i, ¬ i = t → sg_g σ' 64 i = sg_g σ 64 i) → Q σ') : V_mPush σ x Q := by
  unfold V_mPush
  rw [ht]
  intro σ1 e1
  rw [xp_in h0] at e1
  refine ⟨⟨by omega, by omega⟩, fun σ5 e5 => k σ5 ?_ ?_ ?_ (fun i hi => ?_)⟩
  · rw [e5, e1]; exact sg_F_w (sg_F_w (sg_F_r _ _) rfl _) rfl _
  · rw [e5, sg_gw_e _ _ _ _ ⟨by omega, by omega⟩]
  · rw [e5, sg_gw_c _ _ _ _ _ _ (by decide), e1, sg_gw_e _ _ _ _ hx]
  · rw [e5, sg_gw_c _ _ _ _ _ _ (by decide), e1, sg_gw_k _ _ _ _ _ _ hi]
theorem y_pop {Q : Int → sg_S → Prop} {t : Int} (ht : sg_g σ 61 7 = t + 1) (h0 : 0 ≤ t ∧ t < 400) (k : ∀ σ', sg_F [8061] σ σ' → sg_g σ' 61 7 = t → Q (sg_g σ 64 t) σ') : V_mPop σ Q := by
  unfold V_mPop
  rw [ht, show t + 1 - 1 = t by omega]
  refine ⟨⟨by omega, by omega⟩, fun σ2 e2 => ?_⟩
  rw [xa_in h0]
  refine k σ2 ?_ ?_
  · rw [e2]; exact sg_F_w (sg_F_r _ _) rfl _
  · rw [e2, sg_gw_e _ _ _ _ ⟨by omega, by omega⟩]
end BND
/-- before an operation: its parts are off the stack -/
def fP (σ : sg_S) (t : Int) : Prop := yG σ ∧ y0 σ ∧ sg_g σ 77 10 + 4 ≤ 4 * sg_g σ 77 17 ∧ (0 ≤ sg_g σ 77 17 ∧ sg_g σ 77 17 ≤ 2000) ∧ sg_g σ 61 7 = t ∧ (0 ≤ t ∧ t < 400) ∧ (0 ≤ sg_g σ 61 23 ∧ sg_g σ 61 23 ≤ 6000)
/-- what an operation leaves -/
def gvR (σ σ' : sg_S) (D : Nat) (n t : Int) : Prop := ¬ sg_g σ' 61 10 = 0 ∨ (sg_g σ' 61 10 = 0 ∧ yEx σ σ' ∧ yG σ' ∧ y0 σ' ∧ yV σ' D (sg_g σ' 64 t) n ∧ sg_g σ' 61 7 = t + 1 ∧ (∀ i, ¬ i = t → sg_g σ' 64 i = sg_g σ 64 i) ∧ sg_g σ' 77 10 ≤ sg_g σ 77 10 + 4 ∧ sg_g σ' 77 17 = sg_g σ 77 17 + 1 ∧ sg_g σ' 77 17 ≤ 2000)
abbrev opL : List Nat := [64, 75, 76, 78, 79, 80, 81, 82, 83, 84, 85, 86, 87, 8061, 11061, 11077, 12077, 13077, 14077, 15077, 16077, 17077, 18077, 19077]
abbrev acL : List Nat := [75, 76, 83, 84, 85, 86, 87, 12077, 13077, 14077, 15077, 16077]
theorem f_give {σ σ2 : sg_S} {t b : Int} {D f : Nat} {n : Int} {Q : sg_S → Prop} (h : fP σ t) (hD : D ≤ 3) (h9 : sg_g σ 61 9 = D) (hf2 : f ≤ 2) (f2 : sg_F acL σ σ2) (hc : yC σ2 b) (hf : sg_g σ2 77 15 = 0 → fd σ2 f 0 D n) (k : ∀ σ', sg_F opL σ σ' → gvR σ σ' D n t → Q σ') : V_fGive σ2 (f : Int) Q := by
  obtain ⟨h1, h2, h3, h4, h5, h6, h7⟩ := h
  have ex2 : yEx σ σ2 := yEx_F f2 rfl
  have g2 : yG σ2 := yG_F h1 f2 rfl
  have w2 : sg_g σ2 77 10 = sg_g σ 77 10 := sg_F_g f2 rfl
  have s2 : sg_g σ2 77 17 = sg_g σ 77 17 := sg_F_g f2 rfl
  have t2 : sg_g σ2 61 7 = t := by rw [sg_F_g f2 (by rfl)]; exact h5
  unfold V_fGive
  rw [show sg_g σ2 61 9 = (D : Int) from by rw [sg_F_g f2 (by rfl)]; exact h9]
  refine y_seal g2 (by omega) (by omega) hD hc.2.2.2 hf hf2 (fun σ3 f3 y3 h3' r3 _ => ?_)
  have t3 : sg_g σ3 61 7 = t := by rw [sg_F_g f3 (by rfl)]; exact t2
  refine y_push t3 h6 (sg_Rg _ _ _) (fun σ8 f8 p1 p2 p3 _ σ13 e13 => ?_)
  have f13 : sg_F [11061] σ8 σ13 := by rw [e13]; exact sg_F_w (sg_F_r _ _) rfl _
  have F : sg_F opL σ σ13 := sg_F_t (sg_F_t (sg_F_t (sg_F_m f2 rfl) (sg_F_m f3 rfl)) (sg_F_m f8 rfl)) (sg_F_m f13 rfl)
  have e10 : sg_g σ13 61 10 = sg_g σ3 77 18 := by rw [e13, sg_gw_e _ _ _ _ (sg_Rg _ _ _)]
  refine k σ13 F ?_
  rcases h3' with z | ⟨z1, z2, z3, z4, z5, z6, z7, z8, z9⟩
  · exact Or.inl (by rw [e10]; exact z.1)
  · right
    have f38 : sg_F [64, 8061, 11061] σ3 σ13 := sg_F_t (sg_F_m f8 rfl) (sg_F_m f13 rfl)
    have ex3 : yEx σ3 σ13 := yEx_F f38 rfl
    refine ⟨by rw [e10]; exact z1, yEx_t ex2 (yEx_t z2 ex3), yG_F z3 f38 rfl, y0_F y3 f38 rfl, ?_, ?_, fun i hi => ?_, ?_, ?_, ?_⟩
    · rw [sg_F_ga f13 rfl, p2]; exact yV_up ex3 z4
    · rw [sg_F_g f13 (by rfl)]; exact p1
    · rw [sg_F_ga f13 rfl, p3 i hi, sg_F_ga f3 rfl, sg_F_ga f2 rfl]
    · rw [sg_F_g f38 (by rfl)]; omega
    · rw [sg_F_g f38 (by rfl)]; omega
    · rw [sg_F_g f38 (by rfl)]; omega
/-! Operations that give numbers, or pick. -/
theorem aC_fd1 {σ : sg_S} {d : Nat} {n : Int} (h : aC σ d n.toNat 0) (hn : 0 ≤ n ∧ n ≤ 6000) (z : sg_g σ 77 15 = 0) : fd σ 1 0 (d + 1) n := by
  obtain ⟨h1, h2, m, h3, h4⟩ := h z
  unfold fd
  rw [if_neg (by omega), if_pos rfl]
  refine ⟨hn, by omega, fun d' hd => ⟨fun i hi => h2 i (by omega), ?_⟩⟩
  have : d' = d := by omega
  subst this
  rw [if_pos rfl, h4, show m + 0 = m by omega]; exact h3
theorem aC_fd0 {σ : sg_S} {d : Nat} {n : Int} (h : aC σ d 0 (-n)) (z : sg_g σ 77 15 = 0) : fd σ 0 0 d n := by
  obtain ⟨h1, h2, m, h3, h4⟩ := h z
  unfold fd
  rw [if_pos (Nat.le_refl _)]
  simp only [su] at h4
  rw [show n = m by omega]; exact h3
def aA (σ : sg_S) (j : Nat) : Prop := sg_g σ 77 15 = 0 → sg_g σ 77 11 = j
theorem aA_fd {σ : sg_S} {n : Int} (h : aA σ n.toNat) (hn : 0 ≤ n ∧ n ≤ 6000) (z : sg_g σ 77 15 = 0) : fd σ 1 0 0 n := by
  have := h z
  unfold fd
  rw [if_neg (by omega), if_pos rfl]
  exact ⟨hn, by omega, fun d' hd => by omega⟩
theorem y_it {σ : sg_S} {d : Nat} {s n : Int} (g : yG σ) (h : yV σ (d + 1) s n) : yV σ d (v_lItems σ s) (su (sg_g σ 78) (sg_g σ 80 s) n.toNat) := by
  rw [y_items g (yV_r h)]; exact h.2.2.2
section OPA
variable {σ : sg_S} {t n : Int} {Q : sg_S → Prop}
theorem f_constant {x : Int} (h : fP σ t) (h9 : sg_g σ 61 9 = 0) (hn : sg_g σ 61 23 = n) (hx : sg_R x) (k : ∀ σ', sg_F opL σ σ' → gvR σ σ' 0 n t → Q σ') : V_fConstant σ x Q := by
  have n6 := h.2.2.2.2.2.2
  rw [hn] at n6
  unfold V_fConstant
  rw [hn]
  refine ⟨fun m v σ2 => ∃ j : Nat, v = j ∧ (j : Int) ≤ n ∧ m = n.toNat - j ∧ yC σ2 j ∧ aA σ2 j, fun σ2 => yC σ2 n ∧ aA σ2 n.toNat, ⟨_, 0, rfl, by omega, rfl, yC_0 h.2.1, fun _ => h.2.1.1⟩, ?_, ?_⟩
  · rintro m v σ2 rv f2 ⟨j, rfl, hj, hm, hc, ha⟩
    refine ⟨fun z => ⟨yC_m hc (by omega), by rw [show n.toNat = j by omega]; exact ha⟩, fun z => y_first hc (by omega) hx (fun σ' f' c' h' _ => ⟨⟨by omega, by omega⟩, n.toNat - (j + 1), by omega, j + 1, by omega, by omega, rfl, c', fun y => ?_⟩)⟩
    obtain ⟨q1, q2, q3, -⟩ := h' y
    rw [q3, ha q1]; rfl
  · rintro σ2 f2 ⟨hc, ha⟩
    exact f_give (D := 0) (f := 1) h (by omega) h9 (by omega) (sg_F_m f2 rfl) hc (aA_fd ha n6) (fun σ' f' r' _ => k σ' f' r')
theorem f_measure {s : Int} (h : fP σ t) (h9 : sg_g σ 61 9 = 0) (hn : sg_g σ 61 23 = n) (hs : yRw σ s n) (k : ∀ σ', sg_F opL σ σ' → gvR σ σ' 0 n t → Q σ') : V_fMeasure σ s Q := by
  have n6 := h.2.2.2.2.2.2
  rw [hn] at n6
  unfold V_fMeasure
  rw [hn]
  refine ⟨fun m v σ2 => ∃ j : Nat, v = j ∧ (j : Int) ≤ n ∧ m = n.toNat - j ∧ yC σ2 j ∧ aA σ2 j, fun σ2 => yC σ2 n ∧ aA σ2 n.toNat, ⟨_, 0, rfl, by omega, rfl, yC_0 h.2.1, fun _ => h.2.1.1⟩, ?_, ?_⟩
  · rintro m v σ2 rv f2 ⟨j, rfl, hj, hm, hc, ha⟩
    refine ⟨fun z => ⟨yC_m hc (by omega), by rw [show n.toNat = j by omega]; exact ha⟩, fun z => ?_⟩
    obtain ⟨c1, c2⟩ := y_cell h.1 hs (l := j) ⟨by omega, z⟩
    rw [c1]
    refine ⟨c2, y_first hc (by omega) (sg_Rg _ _ _) (fun σ' f' c' h' _ => ⟨⟨by omega, by omega⟩, n.toNat - (j + 1), by omega, j + 1, by omega, by omega, rfl, c', fun y => ?_⟩)⟩
    obtain ⟨q1, q2, q3, -⟩ := h' y
    rw [q3, ha q1]; rfl
  · rintro σ2 f2 ⟨hc, ha⟩
    exact f_give (D := 0) (f := 1) h (by omega) h9 (by omega) (sg_F_m f2 rfl) hc (aA_fd ha n6) (fun σ' f' r' _ => k σ' f' r')
theorem x_compute {a0 a1 a2 : Int} {Q : Int → sg_S → Prop} (k : ∀ q, Q q σ) : V_xCompute σ a0 a1 a2 Q := by
  unfold V_xCompute
  refine ⟨fun _ => ?_, fun _ => ⟨fun _ => ?_, fun _ => ⟨fun _ => ?_, fun _ => ⟨fun _ => ?_, fun _ => ⟨fun _ => ?_, fun _ => ⟨fun _ => ?_, fun _ => ⟨fun _ => ?_, fun _ => ?_⟩⟩⟩⟩⟩⟩⟩
  · unfold V_xCompute_37; exact ⟨fun z => ⟨z, k _⟩, fun _ => k _⟩
  · unfold V_xCompute_42; exact k _
  · unfold V_xCompute_43; exact k _
  · unfold V_xCompute_45; exact k _
  · unfold V_xCompute_47; exact ⟨fun z => ⟨z, k _⟩, fun _ => k _⟩
  · unfold V_xCompute_60; exact ⟨fun _ => k _, fun _ => k _⟩
  · unfold V_xCompute_61; exact ⟨fun _ => k _, fun _ => k _⟩
  · unfold V_xCompute_d; exact k _
theorem f_combine {q a b : Int} (h : fP σ t) (h9 : sg_g σ 61 9 = 0) (hn : sg_g σ 61 23 = n) (ha : yRw σ a n) (hb : yRw σ b n) (k : ∀ σ', sg_F opL σ σ' → gvR σ σ' 0 n t → Q σ') : V_fCombine σ q a b Q := by
  have n6 := h.2.2.2.2.2.2
  rw [hn] at n6
  unfold V_fCombine
  rw [hn]
  refine ⟨fun m v σ2 => ∃ j : Nat, v = j ∧ (j : Int) ≤ n ∧ m = n.toNat - j ∧ yC σ2 j ∧ aA σ2 j, fun σ2 => yC σ2 n ∧ aA σ2 n.toNat, ⟨_, 0, rfl, by omega, rfl, yC_0 h.2.1, fun _ => h.2.1.1⟩, ?_, ?_⟩
  · rintro m v σ2 rv f2 ⟨j, rfl, hj, hm, hc, hA⟩
    refine ⟨fun z => ⟨yC_m hc (by omega), by rw [show n.toNat = j by omega]; exact hA⟩, fun z => ?_⟩
    refine ⟨(y_cell h.1 hb (l := j) ⟨by omega, z⟩).2, fun σ28 => yC σ28 j ∧ aA σ28 j, ⟨fun _ => ⟨hc, hA⟩, fun _ => y_miss (fun σ' f' _ => ⟨yC_F hc f' rfl, fun y => ?_⟩)⟩, fun σ28 f28 h28 => ⟨(y_cell h.1 ha (l := j) ⟨by omega, z⟩).2, x_compute (fun x rx => y_first h28.1 (by omega) rx (fun σ' f' c' h' _ => ⟨⟨by omega, by omega⟩, n.toNat - (j + 1), by omega, j + 1, by omega, by omega, rfl, c', fun y => ?_⟩))⟩⟩
    · rw [sg_F_g f' (by rfl)] at y
      rw [sg_F_g f' (by rfl)]; exact hA y
    · obtain ⟨q1, q2, q3, -⟩ := h' y
      rw [q3, h28.2 q1]; rfl
  · rintro σ2 f2 ⟨hc, ha⟩
    exact f_give (D := 0) (f := 1) h (by omega) h9 (by omega) (sg_F_m f2 rfl) hc (aA_fd ha n6) (fun σ' f' r' _ => k σ' f' r')
theorem f_reduce {q s : Int} (h : fP σ t) (h9 : sg_g σ 61 9 = 0) (hn : sg_g σ 61 23 = n) (hs : yV σ 1 s n) (k : ∀ σ', sg_F opL σ σ' → gvR σ σ' 0 n t → Q σ') : V_fReduce σ q s Q := by
  have n6 := h.2.2.2.2.2.2
  rw [hn] at n6
  have it := y_it h.1 hs
  unfold V_fReduce
  rw [hn]
  refine ⟨y_pitems _ _, fun m v σ2 => ∃ j : Nat, v = j ∧ (j : Int) ≤ n ∧ m = n.toNat - j ∧ yC σ2 j ∧ aA σ2 j, fun σ2 => yC σ2 n ∧ aA σ2 n.toNat, ⟨_, 0, rfl, by omega, rfl, yC_0 h.2.1, fun _ => h.2.1.1⟩, ?_, ?_⟩
  · rintro m v σ2 rv f2 ⟨j, rfl, hj, hm, hc, hA⟩
    refine ⟨fun z => ⟨yC_m hc (by omega), by rw [show n.toNat = j by omega]; exact hA⟩, fun z => ?_⟩
    obtain ⟨b1, b2, b3, b4, b5, b6, b7, b8, b9, b10⟩ := y_lane h.1 hs (l := j) ⟨by omega, z⟩
    have ic : ∀ x, v_lStart σ s j ≤ x → x < v_lEnd σ s j → p_lCell σ (v_lItems σ s) x := fun x x1 x2 => (y_cell h.1 it (l := x) ⟨by omega, by omega⟩).2
    generalize v_lStart σ s j = lo at *
    generalize v_lEnd σ s j = hi at *
    refine ⟨b9, b10, fun σ28 => yC σ28 j ∧ aA σ28 j, ⟨fun _ => ⟨hc, hA⟩, fun _ => ⟨fun _ => ⟨hc, hA⟩, fun _ => y_miss (fun σ' f' _ => ⟨yC_F hc f' rfl, fun y => ?_⟩)⟩⟩, fun σ28 f28 h28 => ⟨⟨fun y => ⟨ic _ (Int.le_refl _) (by omega), trivial⟩, fun _ => trivial⟩, fun v37 e37 r37 => ⟨⟨by omega, by omega⟩, fun m2 x y => m2 = (hi - y).toNat ∧ lo < y, fun x => True, ⟨_, rfl, by omega⟩, ?_, ?_⟩⟩⟩
    · rw [sg_F_g f' (by rfl)] at y
      rw [sg_F_g f' (by rfl)]; exact hA y
    · rintro m2 x y rx ry ⟨e2, hlo⟩
      refine ⟨fun _ => trivial, fun y1 => ⟨ic _ (by omega) y1, ?_⟩⟩
      have go : ∀ q', sg_R q' → sg_R (y + 1) ∧ ∃ m', m' < m2 ∧ m' = (hi - (y + 1)).toNat ∧ lo < y + 1 := fun q' _ => ⟨⟨by omega, by omega⟩, _, by omega, rfl, by omega⟩
      unfold V_xFold
      exact ⟨fun _ => ⟨fun _ v3 _ _ => go v3, fun _ v6 _ _ => go v6⟩, fun _ => go _⟩
    · intro x rx _
      refine y_first h28.1 (by omega) rx (fun σ' f' c' h' _ => ⟨⟨by omega, by omega⟩, n.toNat - (j + 1), by omega, j + 1, by omega, by omega, rfl, c', fun y => ?_⟩)
      obtain ⟨q1, q2, q3, -⟩ := h' y
      rw [q3, h28.2 q1]; rfl
  · rintro σ2 f2 ⟨hc, ha⟩
    exact f_give (D := 0) (f := 1) h (by omega) h9 (by omega) (sg_F_m f2 rfl) hc (aA_fd ha n6) (fun σ' f' r' _ => k σ' f' r')
theorem f_select {d : Nat} {s i : Int} (h : fP σ t) (hd : d ≤ 3) (h9 : sg_g σ 61 9 = d) (hn : sg_g σ 61 23 = n) (hs : yV σ (d + 1) s n) (hi : yRw σ i n) (k : ∀ σ', sg_F opL σ σ' → gvR σ σ' d n t → Q σ') : V_fSelect σ s i Q := by
  have n6 := h.2.2.2.2.2.2
  rw [hn] at n6
  unfold V_fSelect
  rw [hn]
  refine ⟨fun m v σ2 => ∃ j : Nat, v = j ∧ (j : Int) ≤ n ∧ m = n.toNat - j ∧ yC σ2 j ∧ aC σ2 d 0 (-j), fun σ2 => yC σ2 n ∧ aC σ2 d 0 (-n), ⟨_, 0, rfl, by omega, rfl, yC_0 h.2.1, aC_0 h.2.1 d⟩, ?_, ?_⟩
  · rintro m v σ2 rv f2 ⟨j, rfl, hj, hm, hc, hA⟩
    refine ⟨fun z => ⟨yC_m hc (by omega), by rw [show n = j by omega]; exact hA⟩, fun z => ?_⟩
    obtain ⟨b1, b2, b3, b4, b5, b6, b7, b8, b9, b10⟩ := y_lane h.1 hs (l := j) ⟨by omega, z⟩
    have ex2 : yEx σ σ2 := yEx_F f2 rfl
    have it := y_it h.1 hs
    have ir := (yV_r it).1
    have g1 := h.1.1
    have miss : ∀ w, V_lMiss σ2 w (fun σ34 => sg_F [15077] σ2 σ34 → V_lPick σ34 (-1) 0 1 (fun σ40 => sg_F [85, 86, 87, 14077, 16077] σ34 σ40 → yC σ40 (j + 1) ∧ aC σ40 d 0 (-(j + 1)))) := fun w => y_miss (fun σ' f' _ => aC_pick (aC_F hA f' (yEx_F f' rfl) rfl) (yC_F hc f' rfl) (by omega) (by decide) ⟨by omega, Or.inl ⟨rfl, by omega⟩⟩ (by decide) (fun σ3 f3 c3 a3 _ => ⟨c3, by rw [show (-(j : Int) - (1 - 0)) = -((j : Int) + 1) by omega] at a3; exact a3⟩))
    refine ⟨(y_cell h.1 hi (l := j) ⟨by omega, z⟩).2, fun σ28 => yC σ28 (j + 1) ∧ aC σ28 d 0 (-(j + 1)), ⟨fun _ => miss _, fun y => ⟨b8, fun y2 => ⟨b9, ⟨by omega, by omega⟩, y_pitems _ _, ⟨by omega, by omega⟩, aC_pick hA hc (by omega) ⟨by omega, by omega⟩ ⟨by omega, Or.inr ⟨_, yV_up ex2 it, by omega⟩⟩ ⟨by omega, by omega⟩ (fun σ3 f3 c3 a3 _ => ⟨c3, ?_⟩)⟩, fun _ => miss _⟩⟩, fun σ28 f28 h28 => ⟨⟨by omega, by omega⟩, n.toNat - (j + 1), by omega, j + 1, by omega, by omega, rfl, h28.1, h28.2⟩⟩
    rw [show (-(j : Int) - (v_lStart σ s ↑j + v_lCell σ i ↑j + 1 - (v_lStart σ s ↑j + v_lCell σ i ↑j))) = -((j : Int) + 1) by omega] at a3
    exact a3
  · rintro σ2 f2 ⟨hc, ha⟩
    exact f_give (D := d) (f := 0) h hd h9 (by omega) (sg_F_m f2 rfl) hc (aC_fd0 ha) (fun σ' f' r' _ => k σ' f' r')
theorem f_reverse {d : Nat} {s : Int} (h : fP σ t) (hd : d + 1 ≤ 3) (h9 : sg_g σ 61 9 = (d + 1 : Nat)) (hn : sg_g σ 61 23 = n) (hs : yV σ (d + 1) s n) (k : ∀ σ', sg_F opL σ σ' → gvR σ σ' (d + 1) n t → Q σ') : V_fReverse σ s Q := by
  have n6 := h.2.2.2.2.2.2
  rw [hn] at n6
  unfold V_fReverse
  rw [hn]
  refine ⟨fun m v σ2 => ∃ j : Nat, v = j ∧ (j : Int) ≤ n ∧ m = n.toNat - j ∧ yC σ2 (201 * j) ∧ aC σ2 d j 0, fun σ2 => yC σ2 (201 * n) ∧ aC σ2 d n.toNat 0, ⟨_, 0, rfl, by omega, rfl, yC_0 h.2.1, aC_0 h.2.1 d⟩, ?_, ?_⟩
  · rintro m v σ2 rv f2 ⟨j, rfl, hj, hm, hc, hA⟩
    refine ⟨fun z => ⟨yC_m hc (by omega), by rw [show n.toNat = j by omega]; exact hA⟩, fun z => ?_⟩
    obtain ⟨b1, b2, b3, b4, b5, b6, b7, b8, b9, b10⟩ := y_lane h.1 hs (l := j) ⟨by omega, z⟩
    have it := y_it h.1 hs
    have ir := (yV_r it).1
    have g1 := h.1.1
    refine ⟨b9, b8, aC_first hA hc (by omega) b1 (fun σ28 f28 c28 a28 _ => ⟨b10, ⟨by omega, by omega⟩, ?_⟩)⟩
    have f28' := sg_F_t (sg_F_m (L := [83, 85, 86, 87, 12077, 14077, 16077]) f2 rfl) (sg_F_m f28 rfl)
    generalize v_lStart σ s j = lo at *
    generalize v_lEnd σ s j = hi at *
    generalize v_lCell σ s j = ce at *
    refine ⟨fun m2 v36 σ37 => ∃ i : Nat, v36 = hi - 1 - i ∧ i ≤ ce ∧ m2 = (ce - i).toNat ∧ yC σ37 (201 * j + 1 + i) ∧ aC σ37 d (j + 1) (ce - i), fun σ37 => yC σ37 (201 * (j + 1 : Nat)) ∧ aC σ37 d (j + 1) 0, ⟨_, 0, by omega, by omega, rfl, by rw [show (201 : Int) * j + 1 + (0 : Nat) = 201 * j + 1 by omega]; exact c28, by rw [show (0 : Int) + ce = ce - (0 : Nat) by omega] at a28; exact a28⟩, ?_, ?_⟩
    · rintro m2 v36 σ37 r36 f37 ⟨i, rfl, hi1, hm2, hc2, hA2⟩
      have ex37 : yEx σ σ37 := yEx_F (sg_F_t f28' (sg_F_m f37 rfl)) rfl
      refine ⟨fun y => ⟨yC_m hc2 (by omega), by rw [show ce - (i : Int) = 0 by omega] at hA2; exact hA2⟩, fun y => ⟨y_pitems _ _, ⟨by omega, by omega⟩, aC_pick hA2 hc2 (by omega) ⟨by omega, by omega⟩ ⟨by omega, Or.inr ⟨_, yV_up ex37 it, by omega⟩⟩ ⟨by omega, by omega⟩ (fun σ3 f3 c3 a3 _ => ⟨⟨by omega, by omega⟩, (ce - (i + 1 : Nat)).toNat, by omega, i + 1, by omega, by omega, rfl, by rw [show (201 : Int) * j + 1 + (i + 1 : Nat) = 201 * j + 1 + i + 1 by omega]; exact c3, ?_⟩)⟩⟩
      rw [show (ce - (i : Int) - (hi - 1 - ↑i + 1 - (hi - 1 - ↑i))) = ce - ((i + 1 : Nat) : Int) by omega] at a3
      exact a3
    · rintro σ37 f37 ⟨hc2, hA2⟩
      exact ⟨⟨by omega, by omega⟩, n.toNat - (j + 1), by omega, j + 1, by omega, by omega, rfl, hc2, hA2⟩
  · rintro σ2 f2 ⟨hc, ha⟩
    exact f_give (D := d + 1) (f := 1) h hd h9 (by omega) (sg_F_m f2 rfl) hc (aC_fd1 ha n6) (fun σ' f' r' _ => k σ' f' r')
theorem x_bad {x : Int} : (v_xBadSize x = 0 → 0 ≤ x ∧ x ≤ 200) := by
  unfold v_xBadSize
  split
  · intro z; omega
  · split
    · intro _; omega
    · intro z; omega
theorem f_append {d : Nat} {a b : Int} (h : fP σ t) (hd : d + 1 ≤ 3) (h9 : sg_g σ 61 9 = (d + 1 : Nat)) (hn : sg_g σ 61 23 = n) (ha : yV σ (d + 1) a n) (hb : yV σ (d + 1) b n) (k : ∀ σ', sg_F opL σ σ' → gvR σ σ' (d + 1) n t → Q σ') : V_fAppend σ a b Q := by
  have n6 := h.2.2.2.2.2.2
  rw [hn] at n6
  unfold V_fAppend
  rw [hn]
  refine ⟨fun m v σ2 => ∃ j : Nat, v = j ∧ (j : Int) ≤ n ∧ m = n.toNat - j ∧ yC σ2 (3 * j) ∧ aC σ2 d j 0, fun σ2 => yC σ2 (3 * n) ∧ aC σ2 d n.toNat 0, ⟨_, 0, rfl, by omega, rfl, yC_0 h.2.1, aC_0 h.2.1 d⟩, ?_, ?_⟩
  · rintro m v σ2 rv f2 ⟨j, rfl, hj, hm, hc, hA⟩
    refine ⟨fun z => ⟨yC_m hc (by omega), by rw [show n.toNat = j by omega]; exact hA⟩, fun z => ?_⟩
    obtain ⟨b1, b2, b3, b4, b5, b6, b7, b8, b9, b10⟩ := y_lane h.1 ha (l := j) ⟨by omega, z⟩
    obtain ⟨c1, c2, c3, c4, c5, c6, c7, c8, c9, c10⟩ := y_lane h.1 hb (l := j) ⟨by omega, z⟩
    have ia := y_it h.1 ha
    have ib := y_it h.1 hb
    have ir := (yV_r ia).1
    have jr := (yV_r ib).1
    have g1 := h.1.1
    generalize v_lStart σ a j = lo at *
    generalize v_lEnd σ a j = hi at *
    generalize v_lCell σ a j = ce at *
    generalize v_lStart σ b j = lo' at *
    generalize v_lEnd σ b j = hi' at *
    generalize v_lCell σ b j = ce' at *
    refine ⟨b8, c8, ⟨by omega, by omega⟩, fun σ31 => yC σ31 (3 * (j + 1 : Nat)) ∧ aC σ31 d (j + 1) 0, ⟨fun y => ?_, fun y => ?_⟩, fun σ31 f31 h31 => ⟨⟨by omega, by omega⟩, n.toNat - (j + 1), by omega, j + 1, by omega, by omega, rfl, h31.1, h31.2⟩⟩
    · refine aC_first hA hc (by omega) (x_bad y) (fun σ37 f37 c37 a37 _ => ⟨y_pitems _ _, b9, b10, ?_⟩)
      have ex37 : yEx σ σ37 := yEx_F (sg_F_t f2 (sg_F_m f37 rfl)) rfl
      refine aC_pick a37 c37 (by omega) ⟨by omega, by omega⟩ ⟨by omega, Or.inr ⟨_, yV_up ex37 ia, by omega⟩⟩ ⟨by omega, by omega⟩ (fun σ49 f49 c49 a49 _ => ⟨y_pitems _ _, c9, c10, ?_⟩)
      have ex49 : yEx σ σ49 := yEx_t ex37 (yEx_F f49 rfl)
      refine aC_pick a49 c49 (by omega) ⟨by omega, by omega⟩ ⟨by omega, Or.inr ⟨_, yV_up ex49 ib, by omega⟩⟩ ⟨by omega, by omega⟩ (fun σ61 f61 c61 a61 _ => ⟨yC_m c61 (by omega), ?_⟩)
      rw [show (0 + (ce + ce') - (hi - lo) - (hi' - lo')) = 0 by omega] at a61
      exact a61
    · refine y_miss (fun σ67 f67 _ => aC_first (aC_F hA f67 (yEx_F f67 rfl) rfl) (yC_F hc f67 rfl) (by omega) (by omega) (fun σ73 f73 c73 a73 _ => ⟨yC_m c73 (by omega), a73⟩))
  · rintro σ2 f2 ⟨hc, ha⟩
    exact f_give (D := d + 1) (f := 1) h hd h9 (by omega) (sg_F_m f2 rfl) hc (aC_fd1 ha n6) (fun σ' f' r' _ => k σ' f' r')
theorem f_flatten {d : Nat} {s : Int} (h : fP σ t) (hd : d + 1 ≤ 3) (h9 : sg_g σ 61 9 = (d + 1 : Nat)) (hn : sg_g σ 61 23 = n) (hs : yV σ (d + 2) s n) (k : ∀ σ', sg_F opL σ σ' → gvR σ σ' (d + 1) n t → Q σ') : V_fFlatten σ s Q := by
  have n6 := h.2.2.2.2.2.2
  rw [hn] at n6
  have it := y_it h.1 hs
  unfold V_fFlatten
  rw [hn]
  refine ⟨y_pitems _ _, fun m v σ2 => ∃ j : Nat, v = j ∧ (j : Int) ≤ n ∧ m = n.toNat - j ∧ yC σ2 (3 * j) ∧ aC σ2 d j 0, fun σ2 => yC σ2 (3 * n) ∧ aC σ2 d n.toNat 0, ⟨_, 0, rfl, by omega, rfl, yC_0 h.2.1, aC_0 h.2.1 d⟩, ?_, ?_⟩
  · rintro m v σ2 rv f2 ⟨j, rfl, hj, hm, hc, hA⟩
    refine ⟨fun z => ⟨yC_m hc (by omega), by rw [show n.toNat = j by omega]; exact hA⟩, fun z => ?_⟩
    obtain ⟨b1, b2, b3, b4, b5, b6, b7, b8, b9, b10⟩ := y_lane h.1 hs (l := j) ⟨by omega, z⟩
    refine ⟨b8, fun v29 e29 r29 => ?_⟩
    have two : v29 = 0 → _ := fun y => (⟨y_lane h.1 it (l := v_lStart σ s j) ⟨by omega, by
      by_cases q : v_lCell σ s j = 0
      · rw [if_neg (by omega)] at e29; omega
      · omega⟩, y_lane h.1 it (l := v_lEnd σ s j - 1) ⟨by
      by_cases q : v_lCell σ s j = 0
      · rw [if_neg (by omega)] at e29; omega
      · omega, by omega⟩⟩ : _ ∧ _)
    refine ⟨⟨fun y => ⟨b9, (two y).1.2.2.2.2.2.2.2.2.1, trivial⟩, fun _ => trivial⟩, fun v34 e34 r34 => ⟨⟨fun y => ⟨b10, ⟨by omega, by omega⟩, (two y).2.2.2.2.2.2.2.2.2.2, trivial⟩, fun _ => trivial⟩, fun v39 e39 r39 => ?_⟩⟩
    have rg : (0 ≤ v34 ∧ v34 ≤ 6000) ∧ (0 ≤ v39 ∧ v39 ≤ 6000) ∧ ∃ n', yV σ d (v_lItems σ (v_lItems σ s)) n' ∧ (v29 = 0 → v39 ≤ n') := by
      have ii := y_it h.1 it
      by_cases y : v29 = 0
      · rw [if_pos y] at e34 e39
        obtain ⟨⟨p1, p2, p3, p4, p5, p6, p7, p8, p9, p10⟩, ⟨q1, q2, q3, q4, q5, q6, q7, q8, q9, q10⟩⟩ := two y
        exact ⟨by omega, by omega, _, ii, fun _ => by rw [e39]; exact q6⟩
      · rw [if_neg y] at e34 e39
        exact ⟨by omega, by omega, _, ii, fun q => absurd q y⟩
    obtain ⟨r1, r2, n', r3, r4⟩ := rg
    have ir := (yV_r r3).1
    have n0 := (yV_r r3).2.2.1
    have g1 := h.1.1
    refine ⟨⟨by omega, by omega⟩, fun σ31 => yC σ31 (3 * (j + 1 : Nat)) ∧ aC σ31 d (j + 1) 0, ⟨fun y => ?_, fun y => ?_⟩, fun σ31 f31 h31 => ⟨⟨by omega, by omega⟩, n.toNat - (j + 1), by omega, j + 1, by omega, by omega, rfl, h31.1, h31.2⟩⟩
    · have bx := x_bad y
      refine aC_first hA hc (by omega) bx (fun σ37 f37 c37 a37 _ => ⟨y_pitems _ _, ?_⟩)
      have ex37 : yEx σ σ37 := yEx_F (sg_F_t f2 (sg_F_m f37 rfl)) rfl
      refine aC_pick a37 c37 (by omega) ⟨by omega, by omega⟩ ⟨by omega, Or.inr ⟨_, yV_up ex37 r3, ?_⟩⟩ ⟨by omega, by omega⟩ (fun σ49 f49 c49 a49 _ => ⟨yC_m c49 (by omega), ?_⟩)
      · by_cases q : v29 = 0
        · exact r4 q
        · rw [if_neg q] at e39; omega
      · rw [show (0 + (v39 - v34) - (v39 - v34)) = 0 by omega] at a49
        exact a49
    · refine y_miss (fun σ67 f67 _ => aC_first (aC_F hA f67 (yEx_F f67 rfl) rfl) (yC_F hc f67 rfl) (by omega) (by omega) (fun σ73 f73 c73 a73 _ => ⟨yC_m c73 (by omega), a73⟩))
  · rintro σ2 f2 ⟨hc, ha⟩
    exact f_give (D := d + 1) (f := 1) h hd h9 (by omega) (sg_F_m f2 rfl) hc (aC_fd1 ha n6) (fun σ' f' r' _ => k σ' f' r')
end OPA
