/-! bundle, push, pop, give. -/
section BND
variable {σ : sg_S}
theorem y_bundle {Q : Int → sg_S → Prop} {d : Nat} {a it n : Int} (g : yG σ) (hw : sg_g σ 77 10 + 1 ≤ 8000) (ha : yRw σ a n) (hl : yLn σ a n) (hi : yV σ d it (su (sg_g σ 78) (sg_g σ 80 a) n.toNat)) (k : ∀ σ', sg_F [79, 80, 81, 82, 11077] σ σ' → yEx σ σ' → yG σ' → yV σ' (d + 1) (sg_g σ 77 10) n → sg_g σ' 77 10 = sg_g σ 77 10 + 1 → Q (sg_g σ 77 10) σ') : V_lBundle σ a it Q := by
  have ha0 := ha
  obtain ⟨a1, a2, a3, a4, a5⟩ := ha
  obtain ⟨g1, g2, g3, g4⟩ := id g
  have hit := (yV_r hi).1
  generalize hw0 : sg_g σ 77 10 = w at *
  unfold V_lBundle
  rw [hw0, xa_in (a := 80) ⟨by omega, by omega⟩, xa_in (a := 81) ⟨by omega, by omega⟩]
  intro σ1 e1 σ4 e4 σ7 e7
  rw [xp_in ⟨by omega, by omega⟩] at e1 e4 e7
  have f7 : sg_F [80, 81, 82] σ σ7 := by rw [e7, e4, e1]; exact sg_F_w (sg_F_w (sg_F_w (sg_F_r _ _) rfl _) rfl _) rfl _
  have i80 : sg_g σ7 80 w = sg_g σ 80 a := by rw [e7, sg_gw_c _ _ _ _ _ _ (by decide), e4, sg_gw_c _ _ _ _ _ _ (by decide), e1, sg_gw_e _ _ _ _ (sg_Rg _ _ _)]
  have i81 : sg_g σ7 81 w = n := by rw [e7, sg_gw_c _ _ _ _ _ _ (by decide), e4, sg_gw_e _ _ _ _ (sg_Rg _ _ _)]; exact a2
  have i82 : sg_g σ7 82 w = it := by rw [e7, sg_gw_e _ _ _ _ ⟨by omega, by omega⟩]
  have r7 : ∀ v, 0 ≤ v → v < w → sg_g σ7 80 v = sg_g σ 80 v ∧ sg_g σ7 81 v = sg_g σ 81 v ∧ sg_g σ7 82 v = sg_g σ 82 v := fun v x y => by
    refine ⟨?_, ?_, ?_⟩
    · rw [e7, sg_gw_c _ _ _ _ _ _ (by decide), e4, sg_gw_c _ _ _ _ _ _ (by decide), e1, sg_gw_k _ _ _ _ _ _ (by omega)]
    · rw [e7, sg_gw_c _ _ _ _ _ _ (by decide), e4, sg_gw_k _ _ _ _ _ _ (by omega), e1, sg_gw_c _ _ _ _ _ _ (by decide)]
    · rw [e7, sg_gw_k _ _ _ _ _ _ (by omega), e4, sg_gw_c _ _ _ _ _ _ (by decide), e1, sg_gw_c _ _ _ _ _ _ (by decide)]
  refine y_lay (n := n) (by rw [xa_in ⟨by omega, by omega⟩]; exact i81) (by omega) (fun _ => ⟨by omega, by rw [i80]; omega, by rw [i80]; omega⟩) (fun i hi => by rw [i80, sg_F_ga f7 rfl]; exact hl i hi) (fun σ11 f11 l1 l2 _ => ⟨⟨by omega, by omega⟩, fun σ17 e17 => ⟨⟨by omega, by omega⟩, ?_⟩⟩)
  rw [i80] at l1 l2
  rw [show w + 1 - 1 = w by omega]
  have f17 : sg_F [11077] σ11 σ17 := by rw [e17]; exact sg_F_w (sg_F_r _ _) rfl _
  have F : sg_F [79, 80, 81, 82, 11077] σ σ17 := sg_F_t (sg_F_t (sg_F_m f7 rfl) (sg_F_m f11 rfl)) (sg_F_m f17 rfl)
  have f717 : sg_F [79, 11077] σ7 σ17 := sg_F_t (sg_F_m f11 rfl) (sg_F_m f17 rfl)
  have w17 : sg_g σ17 77 10 = w + 1 := by rw [e17, sg_gw_e _ _ _ _ ⟨by omega, by omega⟩]
  have u17 : sg_g σ17 77 16 = sg_g σ 77 16 := sg_F_g F rfl
  have c17 : ∀ x, sg_g σ17 78 x = sg_g σ 78 x := fun x => sg_F_ga F rfl
  have r17 : ∀ v, 0 ≤ v → v < w → sg_g σ17 80 v = sg_g σ 80 v ∧ sg_g σ17 81 v = sg_g σ 81 v ∧ sg_g σ17 82 v = sg_g σ 82 v := fun v x y => by
    obtain ⟨t1, t2, t3⟩ := r7 v x y
    exact ⟨by rw [sg_F_ga f717 rfl]; exact t1, by rw [sg_F_ga f717 rfl]; exact t2, by rw [sg_F_ga f717 rfl]; exact t3⟩
  have s17 : ∀ i : Nat, (i : Int) < n → sg_g σ17 79 (sg_g σ 80 a + i) = su (sg_g σ 78) (sg_g σ 80 a) i := fun i hi => by
    rw [sg_F_ga f17 rfl, l1 i hi]
    exact su_sh (fun j hj => sg_F_ga f7 rfl)
  have ex : yEx σ σ17 := by
    refine ⟨⟨by omega, by omega⟩, fun v x y => r17 v x (by omega), fun x _ _ => c17 x, fun v m r lo i hi => ?_⟩
    obtain ⟨v1, v2, v3, v4, v5⟩ := r
    rw [(r17 v v1.1 (by omega)).1]
    have sm : su (sg_g σ17 78) (sg_g σ 80 v) i = su (sg_g σ 78) (sg_g σ 80 v) i := su_sh (fun j hj => c17 _)
    rw [sm]
    rcases g4 v a v1.1 (by omega) a1.1 (by omega) with ⟨q1, q2⟩ | q
    · rw [q1]
      exact s17 i (by omega)
    · rw [sg_F_ga f17 rfl, l2 _ (fun i' hi' => by omega), sg_F_ga f7 rfl]
      exact lo i hi
  have h80 : sg_g σ17 80 w = sg_g σ 80 a := by rw [sg_F_ga f717 rfl]; exact i80
  have h81 : sg_g σ17 81 w = n := by rw [sg_F_ga f717 rfl]; exact i81
  have h82 : sg_g σ17 82 w = it := by rw [sg_F_ga f717 rfl]; exact i82
  refine k σ17 F ex ?_ ?_ w17
  · refine ⟨by omega, by rw [u17]; exact g2, fun v x y => ?_, fun v v' x y x' y' => ?_⟩
    · by_cases e : v = w
      · rw [e, h80, h81, u17]; omega
      · have := g3 v x (by omega)
        rw [(r17 v x (by omega)).1, (r17 v x (by omega)).2.1, u17]; omega
    · by_cases e : v = w
      · by_cases e' : v' = w
        · left; rw [e, e']; exact ⟨rfl, rfl⟩
        · rw [e, h80, h81, (r17 v' x' (by omega)).1, (r17 v' x' (by omega)).2.1, ← a2]
          exact g4 a v' a1.1 (by omega) x' (by omega)
      · by_cases e' : v' = w
        · rw [e', h80, h81, (r17 v x (by omega)).1, (r17 v x (by omega)).2.1, ← a2]
          exact g4 v a x (by omega) a1.1 (by omega)
        · rw [(r17 v x (by omega)).1, (r17 v x (by omega)).2.1, (r17 v' x' (by omega)).1, (r17 v' x' (by omega)).2.1]
          exact g4 v v' x (by omega) x' (by omega)
  · refine ⟨⟨by omega, h81, a3, by rw [h80]; exact a4, by rw [h80, u17]; exact a5⟩, fun i hi => ?_, fun i hi => ?_, ?_⟩
    · rw [h80, c17]; exact hl i hi
    · rw [h80, s17 i hi]
      exact (su_sh (fun j hj => c17 _)).symm
    · rw [h82, h80, su_sh (g := sg_g σ 78) (p := sg_g σ 80 a) (fun j hj => c17 _)]
      exact yV_up ex hi
theorem y_push {Q : sg_S → Prop} {t x : Int} (ht : sg_g σ 61 7 = t) (h0 : 0 ≤ t ∧ t < 400) (hx : sg_R x) (k : ∀ σ', sg_F [64, 8061] σ σ' → sg_g σ' 61 7 = t + 1 → sg_g σ' 64 t = x → (∀ i, ¬ i = t → sg_g σ' 64 i = sg_g σ 64 i) → Q σ') : V_mPush σ x Q := by
  unfold V_mPush
  rw [ht]
  intro σ1 e1
  rw [xp_in h0] at e1
  refine ⟨⟨by omega, by omega⟩, fun σ5 e5 => k σ5 ?_ ?_ ?_ (fun i hi => ?_)⟩
  · rw [e5, e1]; exact sg_F_w (sg_F_w (sg_F_r _ _) rfl _) rfl _
  · rw [e5, sg_gw_e _ _ _ _ ⟨by omega, by omega⟩]
  · rw [e5, sg_gw_c _ _ _ _ _ _ (by decide), e1, sg_gw_e _ _ _ _ hx]
  · rw [e5, sg_gw_c _ _ _ _ _ _ (by decide), e1, sg_gw_k _ _ _ _ _ _ hi]
theorem y_pop {Q : Int → sg_S → Prop} {t : Int} (ht : sg_g σ 61 7 = t + 1) (h0 : 0 ≤ t ∧ t < 400) (k : ∀ σ', sg_F [8061] σ σ' → sg_g σ' 61 7 = t → Q (sg_g σ 64 t) σ') : V_mPop σ Q := by
  unfold V_mPop
  rw [ht, show t + 1 - 1 = t by omega]
  refine ⟨⟨by omega, by omega⟩, fun σ2 e2 => ?_⟩
  rw [xa_in h0]
  refine k σ2 ?_ ?_
  · rw [e2]; exact sg_F_w (sg_F_r _ _) rfl _
  · rw [e2, sg_gw_e _ _ _ _ ⟨by omega, by omega⟩]
end BND
/-- before an operation: its parts are off the stack -/
def fP (σ : sg_S) (t : Int) : Prop := yG σ ∧ y0 σ ∧ sg_g σ 77 10 + 4 ≤ 4 * sg_g σ 77 17 ∧ (0 ≤ sg_g σ 77 17 ∧ sg_g σ 77 17 ≤ 2000) ∧ sg_g σ 61 7 = t ∧ (0 ≤ t ∧ t < 400) ∧ (0 ≤ sg_g σ 61 23 ∧ sg_g σ 61 23 ≤ 6000)
/-- what an operation leaves -/
def gvR (σ σ' : sg_S) (D : Nat) (n t : Int) : Prop := ¬ sg_g σ' 61 10 = 0 ∨ (sg_g σ' 61 10 = 0 ∧ yEx σ σ' ∧ yG σ' ∧ y0 σ' ∧ yV σ' D (sg_g σ' 64 t) n ∧ sg_g σ' 61 7 = t + 1 ∧ (∀ i, ¬ i = t → sg_g σ' 64 i = sg_g σ 64 i) ∧ sg_g σ' 77 10 ≤ sg_g σ 77 10 + 4 ∧ sg_g σ' 77 17 = sg_g σ 77 17 + 1 ∧ sg_g σ' 77 17 ≤ 2000)
abbrev opL : List Nat := [64, 75, 76, 78, 79, 80, 81, 82, 83, 84, 85, 86, 87, 8061, 11061, 11077, 12077, 13077, 14077, 15077, 16077, 17077, 18077, 19077]
abbrev acL : List Nat := [75, 76, 83, 84, 85, 86, 87, 12077, 13077, 14077, 15077, 16077]
theorem f_give {σ σ2 : sg_S} {t b : Int} {D f : Nat} {n : Int} {Q : sg_S → Prop} (h : fP σ t) (hD : D ≤ 3) (h9 : sg_g σ 61 9 = D) (hf2 : f ≤ 2) (f2 : sg_F acL σ σ2) (hc : yC σ2 b) (hf : sg_g σ2 77 15 = 0 → fd σ2 f 0 D n) (k : ∀ σ', sg_F opL σ σ' → gvR σ σ' D n t → Q σ') : V_fGive σ2 (f : Int) Q := by
  obtain ⟨h1, h2, h3, h4, h5, h6, h7⟩ := h
  have ex2 : yEx σ σ2 := yEx_F f2 rfl
  have g2 : yG σ2 := yG_F h1 f2 rfl
  have w2 : sg_g σ2 77 10 = sg_g σ 77 10 := sg_F_g f2 rfl
  have s2 : sg_g σ2 77 17 = sg_g σ 77 17 := sg_F_g f2 rfl
  have t2 : sg_g σ2 61 7 = t := by rw [sg_F_g f2 (by rfl)]; exact h5
  unfold V_fGive
  rw [show sg_g σ2 61 9 = (D : Int) from by rw [sg_F_g f2 (by rfl)]; exact h9]
  refine y_seal g2 (by omega) (by omega) hD hc.2.2.2 hf hf2 (fun σ3 f3 y3 h3' r3 _ => ?_)
  have t3 : sg_g σ3 61 7 = t := by rw [sg_F_g f3 (by rfl)]; exact t2
  refine y_push t3 h6 (sg_Rg _ _ _) (fun σ8 f8 p1 p2 p3 _ σ13 e13 => ?_)
  have f13 : sg_F [11061] σ8 σ13 := by rw [e13]; exact sg_F_w (sg_F_r _ _) rfl _
  have F : sg_F opL σ σ13 := sg_F_t (sg_F_t (sg_F_t (sg_F_m f2 rfl) (sg_F_m f3 rfl)) (sg_F_m f8 rfl)) (sg_F_m f13 rfl)
  have e10 : sg_g σ13 61 10 = sg_g σ3 77 18 := by rw [e13, sg_gw_e _ _ _ _ (sg_Rg _ _ _)]
  refine k σ13 F ?_
  rcases h3' with z | ⟨z1, z2, z3, z4, z5, z6, z7, z8, z9⟩
  · exact Or.inl (by rw [e10]; exact z.1)
  · right
    have f38 : sg_F [64, 8061, 11061] σ3 σ13 := sg_F_t (sg_F_m f8 rfl) (sg_F_m f13 rfl)
    have ex3 : yEx σ3 σ13 := yEx_F f38 rfl
    refine ⟨by rw [e10]; exact z1, yEx_t ex2 (yEx_t z2 ex3), yG_F z3 f38 rfl, y0_F y3 f38 rfl, ?_, ?_, fun i hi => ?_, ?_, ?_, ?_⟩
    · rw [sg_F_ga f13 rfl, p2]; exact yV_up ex3 z4
    · rw [sg_F_g f13 (by rfl)]; exact p1
    · rw [sg_F_ga f13 rfl, p3 i hi, sg_F_ga f3 rfl, sg_F_ga f2 rfl]
    · rw [sg_F_g f38 (by rfl)]; omega
    · rw [sg_F_g f38 (by rfl)]; omega
    · rw [sg_F_g f38 (by rfl)]; omega
