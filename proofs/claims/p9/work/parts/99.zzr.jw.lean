/-! THE LAW'S STATE: what holds before and behind each call. -/
/-- the reference's PROGRAM -/
def rfR (σ : sg_S) : Prop := sg_g σ 88 28 = 0 ∨ (sg_g σ 88 28 = 1 ∧ ∃ A D r, pgX σ A D (sg_g σ 101) (sg_g σ 102) ∧ sg_g σ 88 27 = r ∧ tyN A (kDl D []) (sg_g σ 101) (sg_g σ 102) 201 [] r ∧ frA A (aRt D ++ [r]))
/-- both objects between calls -/
def lwI (σ : sg_S) : Prop := (0 ≤ sg_g σ 0 8 ∧ sg_g σ 0 8 ≤ 1200) ∧ sg_g σ 88 2 = sg_g σ 0 8 ∧ (∀ p, 0 ≤ p → p < sg_g σ 0 8 → sg_g σ 89 p = tb σ p) ∧ rsv (sg_gl σ 37) ∧ (sg_g σ 0 10 = 0 ∨ (sg_g σ 0 10 = 1 ∧ flR σ)) ∧ rfR σ ∧ (0 ≤ sg_g σ 88 52 ∧ sg_g σ 88 52 ≤ 20) ∧ (0 ≤ sg_g σ 88 82 ∧ sg_g σ 88 82 ≤ 20) ∧ (0 ≤ sg_g σ 88 76 ∧ sg_g σ 88 76 ≤ 80000) ∧ (0 ≤ sg_g σ 88 77 ∧ sg_g σ 88 77 ≤ 80000)
/-- rows that a PROGRAM of the class stands in -/
def okP2 (L : List Nat) : Bool := okC L && (!sg_cv L 19 8 && sg_ca L 20 && sg_ca L 21 && sg_ca L 22 && sg_ca L 23 && sg_ca L 25 && sg_ca L 26 && sg_ca L 27) && (sg_ca L 6 && sg_ca L 16 && sg_ca L 22 && sg_ca L 23 && sg_ca L 24 && sg_ca L 27 && sg_ca L 29 && sg_ca L 30 && sg_ca L 31 && sg_ca L 34) && (sg_ca L 11 && sg_ca L 12 && !sg_cv L 35 4)
theorem flR_F {L : List Nat} {σ σ' : sg_S} (h : flR σ) (f : sg_F L σ σ') (hL : okP2 L = true) : flR σ' := by
  unfold okP2 at hL
  simp only [Bool.and_eq_true, Bool.not_eq_true'] at hL
  obtain ⟨⟨⟨l1, l2⟩, l3⟩, ⟨l4, l5⟩, l6⟩ := hL
  obtain ⟨A, D, k, a1, a2, a3, a4, a5, a6, a7⟩ := h
  have e6 : sg_g σ' 6 = sg_g σ 6 := funext fun x => sg_F_ga f l3.1.1.1.1.1.1.1.1.1
  refine ⟨A, D, k, ckW_F a1 f l1, cD2_F a2 f (by simp only [Bool.and_eq_true, Bool.not_eq_true']; exact l2), a3, by rw [e6]; exact a4, ckA_F a5 f (by simp only [Bool.and_eq_true]; exact l3), jPg_e a6 (fun j => ⟨sg_F_ga f l4, sg_F_ga f l5⟩), by rw [sg_F_g f l6]; exact a7⟩
/-- the class's flat() -/
theorem c_flat {σ : sg_S} {Q : Int → sg_S → Prop} (h : sg_g σ 0 10 = 0 ∨ (sg_g σ 0 10 = 1 ∧ flR σ)) (k : ∀ q σ', sg_F [61, 62, 63, 64, 65, 66, 67, 68, 69, 70, 71, 72, 73, 74, 75, 76, 78, 79, 80, 81, 82, 83, 84, 85, 86, 87, 11077, 12077, 13077, 14077, 15077, 16077, 17077, 18077, 19077, 13000] σ σ' → Q q σ') : V_cFlat σ Q := by
  unfold V_cFlat
  refine ⟨fun z => ⟨fun z2 => ?_, fun _ => k _ σ (sg_F_r _ _)⟩, fun _ => k _ σ (sg_F_r _ _)⟩
  have r12 := sg_Rg σ 0 12
  refine ⟨⟨by have := r12.1; omega, by omega⟩, fun σ4 e4 => ?_⟩
  have f4 : sg_F [13000] σ σ4 := by rw [e4]; exact sg_F_w (sg_F_r _ _) rfl _
  rcases h with h | ⟨-, h⟩
  · exact absurd h z
  have h4 := flR_F h f4 rfl
  obtain ⟨A, D, r, a1, a2, a3, a4, a5, a6, a7⟩ := h4
  obtain ⟨H, fs, b1, b2, b3⟩ := asm a1 a2 a3 a4 a5 a6
  have rb := a6.2.2.1.2
  have w200 := a1.1
  have e35 : sg_g σ 35 4 = r := by rw [← sg_F_g f4 (a := 35) (k := 4) rfl]; exact a7
  have e6 : sx_at σ 6 200 (sg_g σ 35 4) = sg_g σ4 6 r := by rw [e35, xa_in ⟨rb.1, by omega⟩, sg_F_ga f4 rfl]
  rw [e6]
  have kin : kIn (sg_g σ4 6 r) := by
    obtain ⟨ds, B, sc, ty⟩ := a4.2
    exact ty.2.2.1
  refine f_run a1 b1 b2 b3 (fun σ8 f8 => ?_)
  unfold V_fConcl
  intro z'
  have kk := kin.2
  have k0 := kin.1
  refine wk_post (bw_18 z' σ8 (sg_g σ4 6 r) (by rw [sg_id ⟨by omega, by omega⟩]; exact kk)) ?_
  rintro v σ' ⟨rfl, g⟩
  refine ⟨rfl, g, fun _ rq f9 => k _ σ' (sg_F_t (sg_F_t (sg_F_m f4 rfl) (sg_F_m f8 rfl)) (sg_F_m g rfl))⟩
/-- a number that comes back is one of the machine's -/
theorem wk_rg {E : am_E} {T : List am_M} {Sh : List sg_Sh} {d j pc : Nat} {ls : bm_L} {st : List bm_V} {σ : sg_S} {R : sg_S → Prop} (h : wk E T Sh d j pc ls st σ (fun v σ' => (∃ q, v = some (.inl q)) ∧ R σ')) : wk E T Sh d j pc ls st σ (fun v σ' => ∃ q, v = some (.inl q) ∧ sg_R q ∧ R σ') := by
  obtain ⟨v, σ', r, ⟨q, rfl⟩, hR⟩ := h
  refine ⟨some (.inl (sg_n q)), σ', ?_, sg_n q, rfl, sg_Rn q, hR⟩
  have e : (some (Sum.inl (sg_n q)) : Option bm_V).map bm_v = (some (Sum.inl q) : Option bm_V).map bm_v := by
    simp only [Option.map_some, bm_v, sg_in]
  rw [e]
  exact r
/-- the class's nested() -/
theorem c_nested {σ : sg_S} {Q : Int → sg_S → Prop} (h : sg_g σ 0 10 = 0 ∨ (sg_g σ 0 10 = 1 ∧ flR σ)) (k : ∀ q σ', sg_F [45, 46, 47, 48, 49, 50, 51, 52, 53, 54, 55, 56, 57, 58, 59, 60, 12000] σ σ' → Q q σ') : V_cNested σ Q := by
  unfold V_cNested
  refine ⟨fun z => ⟨fun z2 => ?_, fun _ => k _ σ (sg_F_r _ _)⟩, fun _ => k _ σ (sg_F_r _ _)⟩
  have r11 := sg_Rg σ 0 11
  refine ⟨⟨by have := r11.1; omega, by omega⟩, fun σ4 e4 => ?_⟩
  have f4 : sg_F [12000] σ σ4 := by rw [e4]; exact sg_F_w (sg_F_r _ _) rfl _
  rcases h with h | ⟨-, h⟩
  · exact absurd h z
  obtain ⟨A, D, r, a1, a2, a3, a4, a5, a6, a7⟩ := h
  have rb := a6.2.2.1.2
  have w200 := a1.1
  rw [a7, xa_in ⟨rb.1, by omega⟩]
  obtain ⟨ds, B, sc, ty⟩ := a4.2
  have kin := ty.2.2.1
  have kk := kin.2
  have k0 := kin.1
  unfold V_nRun
  intro z'
  refine wk_post (wk_rg (bt_62 z' σ4 (sg_g σ 6 r) (by rw [sg_id ⟨by omega, by omega⟩]; exact kk))) ?_
  rintro v σ' ⟨q, rfl, rq, g⟩
  exact ⟨q, rfl, rq, g, fun _ _ => k _ σ' (sg_F_t (sg_F_m f4 rfl) (sg_F_m g rfl))⟩
