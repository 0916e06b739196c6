/-! flat of both sides, with its meters. -/
/-- what came first has the lower slot -/
theorem gG_ok {σ : sg_S} {A : aT} {D : List aDf} {k : Int} {C0 : Int → Int} {H : Int → Int} {fs : Int} {LA : List Int} (hA : A.1 ≤ 200) (hf : fT A (aRt D ++ [k]) LA) (hN : LA.Nodup) (hr : ∀ x ∈ LA, 0 ≤ x ∧ x < A.1) (hD : cD2 σ D) (hC : ∀ x, 0 ≤ x → sg_g σ 116 x = kPC A D k C0 x) (td : ∀ (j : Nat) (x : aDf), D[j]? = some x → tyN A (kDl (D.take j) []) (sg_g σ 101) (sg_g σ 102) 201 (scZ (kPe x) (kPb j 0 x.2.2.1 [])) x.2.2.2) (tk : tyN A (kDl D []) (sg_g σ 101) (sg_g σ 102) 201 [] k) (d1 : dA σ A H D.length) (d2 : dI σ A H D.length 12 k fs 0) : ∀ x ∈ LA, k4G A (sg_g σ 102) (sg_g σ 116) (slF σ) x := fun x hx => by
  have hr2 : ∀ x ∈ LA, 0 ≤ x ∧ x < 200 := fun x hx => ⟨(hr x hx).1, by have := (hr x hx).2; omega⟩
  obtain ⟨p1, p2⟩ := pC_ok (C := C0) hf hN hr2 (fun y hy => by
    obtain ⟨j, hj⟩ := List.getElem?_of_mem hy
    exact (hD.2.2 j y hj).2.2.2.2.1) hD.2.1
  obtain ⟨r, hrm, Lr, v1, v2, v3⟩ := fT_in hf x hx
  have rL : ∀ y ∈ Lr, 0 ≤ y ∧ y < 200 := fun y hy => hr2 y (v3 y hy)
  have ag : ∀ b, insL Lr b → sg_g σ 116 b = kPC A D k C0 b := fun b hb => hC b (by
    rcases hb with ⟨q1, q2⟩ | ⟨q1, -⟩
    · exact (rL b q2).1
    · omega)
  rcases List.mem_append.mp hrm with q | q
  · unfold aRt at q
    obtain ⟨y, hy, ey⟩ := List.mem_map.mp q
    obtain ⟨j, hj⟩ := List.getElem?_of_mem hy
    have hjl := gE_l hj
    obtain ⟨g1, g2⟩ := p2 j y hj
    obtain ⟨-, -, z3, z4, z5, -⟩ := hD.2.2 j y hj
    obtain ⟨L, ds, B, sc, -, -, -, -, -, s6, -⟩ := (d1.2 (j : Int) (by omega) (by omega)).1
    rw [z3, z4] at s6
    rw [← ey] at v1
    have k1 := k4N_F 201 _ _ Lr v1 rL ag g1
    refine k4_all hA 201 _ Lr _ _ _ _ _ (td j y hj) s6 k1 v1 rL ⟨fun p hp => ?_, fun p hp p' hp' => ?_⟩ x v2
    · obtain ⟨i, u, hu, ep⟩ := pr_sc p hp
      have hi := gE_l hu
      rw [ep]
      simp only
      rw [hC _ (by omega), g2 i hi, sl_par (by omega) (by omega)]
      exact ⟨by omega, by omega⟩
    · obtain ⟨i, u, hu, ep⟩ := pr_sc p hp
      obtain ⟨i', u', hu', ep'⟩ := pr_sc p' hp'
      have hi := gE_l hu
      have hi' := gE_l hu'
      rw [ep, ep']
      simp only
      rw [hC _ (by omega), hC _ (by omega), g2 i hi, g2 i' hi', sl_par (by omega) (by omega), sl_par (by omega) (by omega)]
      exact ⟨fun w => by omega, fun w => by omega⟩
  · have e : r = k := by simpa using q
    rw [e] at v1
    obtain ⟨L, ds, B, sc, -, -, -, -, -, s6, -⟩ := d2
    have k1 := k4N_F 201 _ _ Lr v1 rL ag p1
    exact k4_all hA 201 _ Lr _ _ _ _ _ tk s6 k1 v1 rL ⟨fun p hp => (by cases hp), fun p hp => (by cases hp)⟩ x v2
/-- the class's run -/
theorem cF10 {σ : sg_S} {A : aT} {D : List aDf} {k : Int} {B0 C0 : Int → Int} {O : Int → Nat → List Int} {Q : Int → sg_S → Prop} (h : clR σ A D k) (hX : pgX σ A D (sg_g σ 101) (sg_g σ 102)) (hK : tyN A (kDl D []) (sg_g σ 101) (sg_g σ 102) 201 [] k) (hB : ∀ x, 0 ≤ x → x < A.1 → sg_g σ 102 x = kPB A D k B0 x) (hT6 : ∀ n, 0 ≤ n → n < A.1 → sg_g σ 6 n = sg_g σ 101 n) (hC : ∀ x, 0 ≤ x → sg_g σ 116 x = kPC A D k C0 x) (hO : okO A (sg_g σ 102) O) (hG : gaH A (sg_g σ 102) (sg_g σ 116) O) (kk : ∀ σ', sg_g σ' 61 11 = 1 → ctX σ' (fRt (fxA A D (sg_g σ 101) (sg_g σ 102) O k)) → Q (fRe (fxA A D (sg_g σ 101) (sg_g σ 102) O k)) σ') : V_mRun σ (sg_g σ 6 k) Q := by
  obtain ⟨b2, b3, b4, b5, ⟨T, Tf, t1, t2⟩, b6, b7, b8, b9, b10⟩ := id h
  obtain ⟨LA, f1, f2, f3, f4⟩ := id b4
  obtain ⟨td, tk⟩ := ty8 h hB
  have vb := nm_vb td tk f1
  obtain ⟨-, -, -, a4⟩ := asm8 b2 b3 b4 b5 t1 t2 b6 b7 b8 b9 hB
  obtain ⟨y0, hi⟩ := hi_6 a4 (fun y z1 z2 ky => vb y (f4 y z1 z2) ky)
  have eB : ∀ x, 0 ≤ x → x < A.1 → sg_g (sT6 σ A.1 y0) 102 x = sg_g σ 102 x := fun x z1 z2 => by rw [sT6_b, if_pos ⟨z1, z2⟩]
  have hB' : ∀ x, 0 ≤ x → x < A.1 → sg_g (sT6 σ A.1 y0) 102 x = kPB A D k B0 x := fun x z1 z2 => (eB x z1 z2).trans (hB x z1 z2)
  obtain ⟨td', tk'⟩ := ty8 h hB'
  have hX' := pgX_6 (y0 := y0) hX td'
  obtain ⟨c1, c2, c3, -⟩ := asm8 b2 b3 b4 b5 t1 t2 b6 b7 b8 b9 hB'
  obtain ⟨H, fs, d1, d2, d3⟩ := asm b2 b3 b4 ⟨fun j x hx => ⟨_, _, _, td' j x hx⟩, _, _, _, tk'⟩ b6 b7
  obtain ⟨O', o1, o2⟩ := S_ex A (sg_g (sT6 σ A.1 y0) 102) (slF σ) hi
  have kin := tk.2.2.1
  have hA := hX.2.2.2.2.1
  have hk : ∀ n, 0 ≤ n → n < A.1 → nW A n ∧ ∀ y ∈ A.2.2.2.2.1 n, 0 ≤ y ∧ y < A.1 := fun n z1 z2 => by
    obtain ⟨Lx, u1, -⟩ := fT_nod LA.length _ LA (Nat.le_refl _) f1 (f4 n z1 z2)
    obtain ⟨L1, L2, e1, w1, w2, w3⟩ := fT_inv u1
    exact ⟨w1, (b2.2.2 n z1 z2).2⟩
  have gG := gG_ok hA f1 f2 f3 b3 hC hX.2.2.2.2.2 hK d1 d2
  have eqA : fxA A D (sg_g σ 6) (sg_g (sT6 σ A.1 y0) 102) O' k = fxA A D (sg_g σ 101) (sg_g σ 102) O k := by
    refine fxA_eq f1 (fun x hx => ⟨hT6 x (f3 x hx).1 (f3 x hx).2, eB x (f3 x hx).1 (f3 x hx).2, ?_⟩)
    obtain ⟨Lx, u1, u2⟩ := fT_nod LA.length _ LA (Nat.le_refl _) f1 hx
    exact oEq_ok u1 (fun y hy => f3 y (u2 y hy)) (gG x hx) hO o1 hG o2 (fun y hy => eB y (f3 y (u2 y hy)).1 (f3 y (u2 y hy)).2) (fun y hy ky => bTy_T hA hk hT6 (vb y (u2 y hy) ky))
  refine y_run (vb := vbF A D) b2 b3 a4 (fun b hb => hb) o1 o2 hX' b4 tk' d1 c1 d2 c2 c3 (fun σ8 f8 e10 ct ev en => ?_)
  rw [eqA] at e10 ct ev en
  rcases e9_c (rfl : fxA A D (sg_g σ 101) (sg_g σ 102) O k = fxA A D (sg_g σ 101) (sg_g σ 102) O k) with ⟨⟨e, es⟩, g1, -⟩ | ⟨⟨v, s', ρ'⟩, g1, -⟩
  · have z : ¬ sg_g σ8 61 10 = 0 := by
      have := en _ g1
      rw [e10, g1]
      exact this
    refine y_concE z (fun σ23 f23 g11 _ => ?_)
    rw [sg_F_g f23 (by rfl), e10]
    exact kk σ23 g11 (ctX_F f23 rfl ct)
  · obtain ⟨v1, v2, v3, v4, v5⟩ := ev v s' ρ' g1
    obtain ⟨w0, rfl⟩ : ∃ w0, v = [w0] := by
      match v, v2 with
      | [w0], _ => exact ⟨w0, rfl⟩
    have z0 : sg_g σ8 61 10 = 0 := by rw [e10, g1]; rfl
    have il := imF_e (sg_g σ 6 k).toNat w0
    have k1 := kin.1
    have k2 := kin.2
    refine y_concX (K := (sg_g σ 6 k).toNat) (w0 := w0) (by omega) (by omega) z0 v1 v3 v4 (by omega) (fun σ23 f23 g11 gs _ => ?_)
    rw [sg_F_g f23 (by rfl), e10]
    exact kk σ23 g11 (ctX_F f23 rfl ct)
theorem lm_flat (z : Value) {σ : sg_S} (h : lwM σ) : lwP6 z 9 15 [(0, .inr (.inr (.ref 0)))] 6 231 [(0, .inr (.inr (.ref 88)))] σ (fun q q' => q' = q) := by
  obtain ⟨hI, ⟨hR, ⟨hC11, hC⟩, hY⟩, hN, hF⟩ := id h
  have h82 := hI.2.2.2.2.2.2.2.1
  -- the reference's run, once the class has run
  have ref : ∀ (σ1 : sg_S) (a : Int), sg_F cfL σ σ1 → ((sg_g σ 88 28 = 0 ∧ a = -4 ∧ σ1 = σ) ∨ (¬ sg_g σ 88 28 = 0 ∧ sg_g σ 88 82 = 20 ∧ a = -3 ∧ σ1 = σ) ∨ (¬ sg_g σ 88 28 = 0 ∧ ¬ sg_g σ 88 82 = 20 ∧ sg_g σ1 0 12 = sg_g σ 0 12 + 1 ∧ ∃ A D k O, pgX σ A D (sg_g σ 101) (sg_g σ 102) ∧ sg_g σ 88 27 = k ∧ tyN A (kDl D []) (sg_g σ 101) (sg_g σ 102) 201 [] k ∧ frA A (aRt D ++ [k]) ∧ okO A (sg_g σ 102) O ∧ gaH A (sg_g σ 102) (sg_g σ 116) O ∧ a = fRe (fxA A D (sg_g σ 101) (sg_g σ 102) O k) ∧ sg_g σ1 61 11 = 1 ∧ ctX σ1 (fRt (fxA A D (sg_g σ 101) (sg_g σ 102) O k)))) → wx z 6 231 0 [(0, .inr (.inr (.ref 88)))] [] σ1 (lwA (fun q' σ2 => q' = a ∧ lwM σ2)) := fun σ1 a f1 hc => by
    have I1 : lwI σ1 := lwI_F hI f1 rfl
    have R1 : lkR σ1 := lkR_F hR f1 rfl
    have N1 : rmN σ1 := rmN_G hN f1 rfl
    have Y1 : sg_g σ1 88 28 = 0 ∨ lyX σ1 := by
      rw [sg_F_g f1 (by rfl)]
      exact hY.imp id (fun w => lyX_F w f1 rfl)
    have e82 : sg_g σ1 88 82 = sg_g σ 88 82 := sg_F_g f1 (by rfl)
    have e28 : sg_g σ1 88 28 = sg_g σ 88 28 := sg_F_g f1 (by rfl)
    have e27 : sg_g σ1 88 27 = sg_g σ 88 27 := sg_F_g f1 (by rfl)
    rcases hc with ⟨h28, rfl, es⟩ | ⟨h28, h20, rfl, es⟩ | ⟨h28, h20, h12, A, D, k, O, hX, hk, hr, hfr, hO, hG, rfl, g11, gct⟩
    · rw [es]
      refine wk_post (w_flat z σ (fun q' σ2 => q' = -4 ∧ lwM σ2) ?_) (by rintro v σ' ⟨q, e, r, -, w⟩; exact ⟨q, e, r, w⟩)
      unfold V_flat
      intro σ2 e2
      refine ⟨fun q => absurd h28 q, fun _ => ⟨rfl, ?_⟩⟩
      have f2 : sg_F [1088] σ σ2 := by rw [e2]; exact sg_F_w (sg_F_r _ _) rfl _
      exact ⟨lwI_F hI f2 rfl, lkM_F h.2 f2 rfl⟩
    · rw [es]
      refine wk_post (w_flat z σ (fun q' σ2 => q' = -3 ∧ lwM σ2) ?_) (by rintro v σ' ⟨q, e, r, -, w⟩; exact ⟨q, e, r, w⟩)
      unfold V_flat
      intro σ2 e2
      refine ⟨fun _ => ⟨fun q => absurd h20 q, fun _ => ⟨rfl, ?_⟩⟩, fun q => absurd q h28⟩
      have f2 : sg_F [1088] σ σ2 := by rw [e2]; exact sg_F_w (sg_F_r _ _) rfl _
      exact ⟨lwI_F hI f2 rfl, lkM_F h.2 f2 rfl⟩
    · have hX1 : pgX σ1 A D (sg_g σ 101) (sg_g σ 102) := pgX_F f1 rfl hX
      refine wk_post (w_flat z σ1 (fun q' σ2 => q' = fRe (fxA A D (sg_g σ 101) (sg_g σ 102) O k) ∧ lwM σ2) (xq_flatX (c := sg_g σ 116) hX1 (e27.trans hk) hr hfr hO hG (fun y => sg_F_ga f1 rfl) (fun q => h28 (e28.symm.trans q)) ⟨by rw [e82]; exact h82.1, by rw [e82]; have := h82.2; omega⟩ (fun σ2 f2 g82 g77 g83 gfc _ _ g81 => ⟨rfl, ?_⟩))) (by rintro v σ' ⟨q, e, r, -, w⟩; exact ⟨q, e, r, w⟩)
      have b1 : 0 ≤ sg_g σ2 88 82 ∧ sg_g σ2 88 82 ≤ 20 := by rw [g82, e82]; have := h82.1; have := h82.2; exact ⟨by omega, by omega⟩
      have f : sg_F rfL σ1 σ2 := sg_F_m f2 rfl
      have gF : rmF σ2 := by
        refine ⟨?_, Or.inr ⟨?_, ?_, ?_⟩⟩
        · rw [g81, sg_F_g f (by rfl)]; exact g11
        · rw [gfc.1, sg_F_g f (by rfl)]; exact gct.1
        · rw [gfc.2.1, sg_F_g f (by rfl)]; exact gct.2.1
        · rw [gfc.2.2.1, sg_F_g f (by rfl)]; exact gct.2.2.1
      obtain ⟨a1, c2, c3, c4, c5, c6, a7, a8, a9, a10⟩ := I1
      have e37 : sg_gl σ2 37 = sg_gl σ1 37 := funext fun x => sg_F_gal f rfl
      refine ⟨⟨by rw [sg_F_g f (by rfl)]; exact a1, by rw [sg_F_g f (by rfl), sg_F_g f (by rfl)]; exact c2, fun p z1 z2 => ?_, by rw [e37]; exact c4, ?_, rfR_F c6 f rfl rfl rfl rfl rfl, by rw [sg_F_g f (by rfl)]; exact a7, b1, by rw [sg_F_g f (by rfl)]; exact a9, g77⟩, ⟨lkR_F R1 f rfl, ⟨by rw [sg_F_g f (a := 0) (k := 11) (by rfl), sg_F_g f (a := 88) (k := 52) (by rfl), sg_F_g f1 (a := 0) (k := 11) (by rfl), sg_F_g f1 (a := 88) (k := 52) (by rfl)]; exact hC11, by rw [sg_F_g f (a := 0) (k := 12) (by rfl), h12, hC, g82, e82]⟩, ?_⟩, rmN_G N1 f rfl, gF⟩
      · rw [sg_F_g f (by rfl)] at z2
        rw [sg_F_ga f rfl, c3 p z1 z2]
        unfold tb
        rw [sg_F_ga f rfl]
      · rw [sg_F_g f (by rfl)]
        rcases c5 with q | ⟨q1, q2⟩
        · exact Or.inl q
        · exact Or.inr ⟨q1, flR_F q2 f rfl⟩
      · rw [sg_F_g f (by rfl)]
        exact Y1.imp id (fun w => lyX_F w f rfl)
  -- the class's run
  have rD : sg_R (sg_g σ 0 12) := sg_Rg _ _ _
  refine wk_post (w_cFlat z σ (fun q σ1 => sg_F cfL σ σ1 → wx z 6 231 0 [(0, .inr (.inr (.ref 88)))] [] σ1 (lwA (fun q' σ2 => q' = q ∧ lwM σ2))) ?_) (by rintro v σ' ⟨q, e, r, f9, w⟩; exact ⟨q, e, r, w f9⟩)
  unfold V_cFlat
  have e10 := hR.1
  refine ⟨fun h10 => ⟨fun h12 => ⟨⟨by have := rD.1; omega, by omega⟩, fun σ4 e4 => ?_⟩, fun h12 f1 => ?_⟩, fun h10 f1 => ?_⟩
  · have h28 : ¬ sg_g σ 88 28 = 0 := by rw [← e10]; exact h10
    obtain ⟨A, D, k, a1, a2, a3, a4, ⟨B0, a5⟩, a6, C0, a7⟩ := hY.resolve_left h28
    have f4 : sg_F [13000] σ σ4 := by rw [e4]; exact sg_F_w (sg_F_r _ _) rfl _
    have c4 := clR_F a1 f4 rfl
    have kr := a4.2.1
    have hA := a2.2.2.2.2.1
    have e35 : sg_g σ 35 4 = k := a1.2.2.2.2.2.2.2.2.2
    have e6 : sx_at σ 6 200 (sg_g σ 35 4) = sg_g σ4 6 k := by rw [e35, xa_in ⟨kr.1, by omega⟩, sg_F_ga f4 rfl]
    rw [e6]
    obtain ⟨O, o1, o2⟩ := O_ex A (sg_g σ 102) (sg_g σ 116)
    have e101 : sg_g σ4 101 = sg_g σ 101 := funext fun x => sg_F_ga f4 rfl
    have e102 : sg_g σ4 102 = sg_g σ 102 := funext fun x => sg_F_ga f4 rfl
    have e116 : sg_g σ4 116 = sg_g σ 116 := funext fun x => sg_F_ga f4 rfl
    have n12 : sg_g σ4 0 12 = sg_g σ 0 12 + 1 := by rw [e4, sg_gw_e _ _ _ _ ⟨by have := rD.1; omega, by omega⟩]
    refine cF10 (O := O) (B0 := B0) (C0 := C0) c4 (by rw [e101, e102]; exact pgX_F f4 rfl a2) (by rw [e101, e102]; exact a4) (fun x z1 z2 => by rw [e102]; exact a5 x z1 z2) (fun n z1 z2 => by rw [e101, sg_F_ga f4 rfl]; exact a6 n z1 z2) (fun x hx => by rw [e116]; exact a7 x hx) (by rw [e102]; exact o1) (by rw [e102, e116]; exact o2) (fun σ8 u1 u2 => ?_)
    rw [e101, e102] at u2 ⊢
    intro _ f9 f1
    exact ref σ8 _ f1 (Or.inr (Or.inr ⟨h28, by omega, by rw [sg_F_g f9 (by rfl)]; exact n12, A, D, k, O, a2, a3, a4, a1.2.2.1, o1, o2, rfl, u1, u2⟩))
  · have h28 : ¬ sg_g σ 88 28 = 0 := by rw [← e10]; exact h10
    exact ref σ (-3) f1 (Or.inr (Or.inl ⟨h28, by omega, rfl, rfl⟩))
  · have h28 : sg_g σ 88 28 = 0 := by rw [← e10]; exact h10
    exact ref σ (-4) f1 (Or.inl ⟨h28, rfl, rfl⟩)
/-! meter of both sides answers alike. -/
theorem lm_meter (z : Value) {σ : sg_S} {a : Int} (ra : sg_R a) (h : lwM σ) : lwP6 z 0 18 [(0, .inr (.inr (.ref 0))), (1, .inl (a))] 1 291 [(0, .inr (.inr (.ref 88))), (1, .inl a)] σ (fun q q' => q' = q) := by
  obtain ⟨hI, hZ, ⟨n1, n2⟩, ⟨g1, g2⟩⟩ := id h
  refine wk_post (w_cMeter z σ a ra) ?_
  rintro v σ1 ⟨rfl, rfl⟩
  have rs : sg_R (v_cMeter σ1 a) := by
    unfold v_cMeter
    repeat' split
    all_goals first | exact sg_Rg _ _ _ | decide
  refine ⟨_, rfl, rs, wk_post (w_meter z σ1 a (fun q' σ' => q' = v_cMeter σ1 a ∧ lwI σ') ra ?_) (by rintro v σ' ⟨q, e, r, f9, w⟩; exact ⟨q, e, r, w.1, w.2, lkM_F h.2 f9 rfl⟩)⟩
  have hL := fun (σ2 : sg_S) (e2 : σ2 = sg_w σ1 88 0 0) => lw_1088 hI e2
  have vi : ¬ v_in a 0 4 = 0 → 0 ≤ a ∧ a ≤ 4 := fun w => by
    unfold v_in at w
    split at w
    · exact absurd rfl w
    · split at w
      · exact absurd rfl w
      · omega
  have vo : v_in a 0 4 = 0 → a < 0 ∨ 4 < a := fun w => by
    unfold v_in at w
    split at w
    · exact Or.inl (by assumption)
    · split at w
      · exact Or.inr (by assumption)
      · exact absurd w (by decide)
  unfold V_meter
  intro σ2 e2
  have h1 := hL σ2 e2
  unfold v_cMeter
  rw [n1, g1]
  refine ⟨fun y => ?_, fun y => ?_⟩
  · obtain ⟨y0, y1⟩ := vi y
    rw [if_neg (show ¬ a < 0 by omega), if_pos y1]
    refine ⟨fun y2 => ⟨fun y3 => ?_, fun y3 => ?_⟩, fun y2 => ⟨fun y3 => ?_, fun y3 => ?_⟩⟩
    · obtain ⟨m1, m2, m3⟩ := g2.resolve_left y3
      rw [if_pos y2, if_pos y3]
      refine ⟨fun y4 => ⟨fun y5 => ?_, fun y5 => ?_⟩, fun y4 => ?_⟩
      · rw [if_neg (show ¬ ¬ a = 4 from fun w => w (by omega))]
        exact ⟨m3.symm, h1⟩
      · rw [if_pos (show ¬ a = 4 by omega), if_pos y4]
        exact ⟨m2.symm, h1⟩
      · rw [if_pos (show ¬ a = 4 by omega), if_neg (show ¬ ¬ a = 2 from fun w => w y4)]
        exact ⟨m1.symm, h1⟩
    · rw [if_pos y2, if_neg (show ¬ ¬ sg_g σ1 88 81 = 0 from fun w => w y3)]
      exact ⟨rfl, h1⟩
    · rw [if_neg (show ¬ 2 ≤ a by omega), if_pos y3]
      exact ⟨rfl, h1⟩
    · obtain ⟨m1, m2, m3⟩ := n2.resolve_left y3
      rw [if_neg (show ¬ 2 ≤ a by omega), if_neg y3]
      refine ⟨fun y4 => ⟨fun y5 => absurd (show a = 0 by omega) y5, fun y5 => ?_⟩, fun y4 => ⟨fun y5 => ⟨fun y6 => ?_, fun y6 => absurd y4 (by omega)⟩, fun y5 => ?_⟩⟩
      · rw [if_pos y5, if_neg (show ¬ ¬ a = 0 from fun w => w y5)]
        exact ⟨m2.symm, h1⟩
      · rw [if_neg y6, if_neg (show ¬ ¬ sg_g σ1 45 10 = 0 from fun w => w (m1.trans y5)), if_pos y6]
        exact ⟨(m3 y5).symm, h1⟩
      · rw [if_neg (show ¬ a = 0 by omega), if_pos (show ¬ sg_g σ1 45 10 = 0 from fun w => y5 (m1.symm.trans w))]
        exact ⟨rfl, h1⟩
  · rcases vo y with q | q
    · rw [if_pos q]
      exact ⟨rfl, h1⟩
    · rw [if_neg (show ¬ a < 0 by omega), if_neg (show ¬ a ≤ 4 by omega)]
      exact ⟨rfl, h1⟩
