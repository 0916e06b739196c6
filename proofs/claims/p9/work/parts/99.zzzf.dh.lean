/-! THE FLAT RUN of the class, whole, exactly. -/
-- NestedVectors$Machine.pop x.flatRun
set_option maxRecDepth 8000 in
theorem bx_1 (z : Value) (σ : sg_S) : wx z 1 124 0 [(0, .inr (.inr (.ref 61)))] [] σ (fun v σ' => (∃ q, v = some (.inl q)) ∧ sg_F [8061] σ σ') := by
  have hF0 := sg_F_r [8061] σ
  refine wk_b tt_124 10 (pc' := 18) (ls' := [(0, .inr (.inr (.ref 61)))]) (st' := [.inl ((sg_g (sg_w σ 61 7 (((sg_g σ 61 7) - 1))) 61 7)), .inr (.inr (.ref 64))]) (σ' := (sg_w σ 61 7 (((sg_g σ 61 7) - 1)))) rfl ?_
  have hF1 : sg_F [8061] σ (sg_w σ 61 7 (((sg_g σ 61 7) - 1))) := (sg_F_w hF0 rfl _)
  generalize (sg_w σ 61 7 (((sg_g σ 61 7) - 1))) = σ2 at hF1 ⊢
  refine wk_callp tt_124 rfl rfl rfl rfl rfl tt_5 rfl (by decide) (at_i z σ2 64 400 ((sg_g σ2 61 7)) rfl (by decide)) ?_
  generalize sx_at σ2 64 400 (sg_n ((sg_g σ2 61 7))) = q6
  exact wk_rI tt_124 rfl rfl ⟨⟨_, rfl⟩, hF1⟩
-- NestedVectors$Machine.conclude x.flatRun a1
set_option maxRecDepth 8000 in
theorem bx_18 (z : Value) (σ : sg_S) (a1 : Int) (hp : sg_n a1 ≤ 3) : wx z 7 118 0 [(0, .inr (.inr (.ref 61))), (1, .inl (a1))] [] σ (fun v σ' => v = none ∧ sg_F [8061, 12061, 65, 66, 67, 68] σ σ') := by
  have hF0 := sg_F_r [8061, 12061, 65, 66, 67, 68] σ
  refine wk_b tt_118 5 (pc' := 9) (ls' := [(0, .inr (.inr (.ref 61))), (1, .inl (a1))]) (st' := [.inr (.inr (.ref 65))]) (σ' := (sg_w σ 61 11 (1))) rfl ?_
  have hF1 : sg_F [8061, 12061, 65, 66, 67, 68] σ (sg_w σ 61 11 (1)) := (sg_F_w hF0 rfl _)
  generalize (sg_w σ 61 11 (1)) = σ2 at hF1 ⊢
  refine wk_call tt_118 rfl rfl rfl rfl rfl tt_92 rfl (by decide) (bw_0 z σ2) (fun w3 σ4 hq5 => ?_)
  obtain ⟨rfl, hF6⟩ := hq5
  have hF7 := sg_F_t hF1 (sg_F_m (L := [8061, 12061, 65, 66, 67, 68]) hF6 rfl)
  refine wk_b tt_118 2 (pc' := 16) (ls' := [(0, .inr (.inr (.ref 61))), (1, .inl (a1))]) (st' := [.inl ((sg_g σ4 61 10))]) (σ' := σ4) rfl ?_
  refine wk_ifb tt_118 (tgt := 36) rfl rfl ?_ ?_
  ·
    exact wk_rV tt_118 rfl rfl ⟨rfl, hF7⟩
  ·
    refine wk_b tt_118 2 (pc' := 21) (ls' := [(0, .inr (.inr (.ref 61))), (1, .inl (a1))]) (st' := [.inr (.inr (.ref 61)), .inr (.inr (.ref 61))]) (σ' := σ4) rfl ?_
    refine wk_call tt_118 rfl rfl rfl rfl rfl tt_124 rfl (by decide) (bx_1 z σ4) (fun w9 σ10 hq11 => ?_)
    obtain ⟨⟨q13, rfl⟩, hF12⟩ := hq11
    have hF14 := sg_F_t hF7 (sg_F_m (L := [8061, 12061, 65, 66, 67, 68]) hF12 rfl)
    refine wk_b tt_118 1 (pc' := 25) (ls' := [(0, .inr (.inr (.ref 61))), (1, .inl (a1))]) (st' := [.inl (a1), .inl (q13), .inr (.inr (.ref 61))]) (σ' := σ10) rfl ?_
    refine wk_call tt_118 rfl rfl rfl rfl rfl tt_61 rfl (by decide) (bw_10 z σ10 (q13) (a1) hp) (fun w15 σ16 hq17 => ?_)
    obtain ⟨rfl, hF18⟩ := hq17
    have hF19 := sg_F_t hF14 (sg_F_m (L := [8061, 12061, 65, 66, 67, 68]) hF18 rfl)
    refine wk_b tt_118 3 (pc' := 33) (ls' := [(0, .inr (.inr (.ref 61))), (1, .inl (a1))]) (st' := [.inl (a1), .inr (.inr (.ref 65))]) (σ' := σ16) rfl ?_
    refine wk_call tt_118 rfl rfl rfl rfl rfl tt_95 rfl (by decide) (bw_17 z σ16 (a1) hp) (fun w20 σ21 hq22 => ?_)
    obtain ⟨rfl, hF23⟩ := hq22
    have hF24 := sg_F_t hF19 (sg_F_m (L := [8061, 12061, 65, 66, 67, 68]) hF23 rfl)
    exact wk_rV tt_118 rfl rfl ⟨rfl, hF24⟩
theorem y_conc {σ : sg_S} {a1 : Int} {Q : sg_S → Prop} (ha : sg_n a1 ≤ 3) (k : ∀ σ', sg_F [8061, 12061, 65, 66, 67, 68] σ σ' → Q σ') : V_fConcl σ a1 Q := by
  unfold V_fConcl
  intro z
  refine wk_post (bx_18 z σ a1 ha) ?_
  rintro v σ' ⟨rfl, g⟩
  exact ⟨rfl, sg_F_m g rfl, k σ' g⟩
section DHS
variable {σ σx : sg_S} {A : aT} {D : List aDf} {vb : Int → Prop} {B : Int → Int} {O : Int → Nat → List Int}
theorem y_run {H : Int → Int} {r fs a1 : Int} {Q : Int → sg_S → Prop} (hW : ckW σ A) (hD2 : cD2 σ D) (hSl : slA σ vb) (hVb : ∀ b, vbF A D b → vb b) (hO : okO A B O) (hOs : ∀ n st, ((O n st).map (slF σ)).Pairwise (· < ·)) (hX : pgX σx A D (sg_g σ 6) B) (hfr : frA A (aRt D ++ [r])) (hty : tyN A (kDl D []) (sg_g σ 6) B 201 [] r) (h1 : dA σ A H D.length) (h2 : dAn σ A D B D.length) (hP1 : dI σ A H D.length 12 r fs 0) (hP2 : dIn σ A D B D.length 12 r 0) (hl : ∀ q, 0 ≤ q → q < (D.length : Int) → nxq σ q ≤ sg_g σ 11 r) (kc : ∀ σ8, sg_F bRL σ σ8 → sg_g σ8 61 10 = fRe (fxA A D (sg_g σ 6) B O r) → ctX σ8 (fRt (fxA A D (sg_g σ 6) B O r)) → (∀ v s' ρ', fxA A D (sg_g σ 6) B O r = .inr (v, s', ρ') → sg_g σ8 61 7 = 1 ∧ v.length = 1 ∧ yG σ8 ∧ yX σ8 (sg_g σ 6 r).toNat (sg_g σ8 64 0) v ∧ exF (sg_g σ 6 r).toNat v ≤ 6000) → (∀ e, fxA A D (sg_g σ 6) B O r = .inl e → ¬ e.1 = 0) → V_fConcl σ8 a1 (fun σ23 => sg_F [61, 65, 66, 67, 68] σ8 σ23 → Q (sg_g σ23 61 10) σ23)) : V_mRun σ a1 Q := by
  obtain ⟨lev, hlv⟩ := lvP_ex hfr
  obtain ⟨L0, g1, g2, g3⟩ := hlv.2
  have hst : stN A D (sg_g σ 6) B lev D.length 201 L0 [] r := ⟨by rw [List.take_of_length_le (Nat.le_refl _)]; exact hty, g1, g2, fun y hy => ⟨(g3 y hy).1, by have := (g3 y hy).2; omega⟩, fun p hp => (by cases hp)⟩
  have d12 := hD2.2.1
  have w200 := hW.1
  obtain ⟨X, hXd⟩ : ∃ X : sg_S → Prop, X = fun σ8 => V_fConcl σ8 a1 (fun σ23 => sg_F [61, 65, 66, 67, 68] σ8 σ23 → Q (sg_g σ23 61 10) σ23) := ⟨_, rfl⟩
  have kX : ∀ σ8, sg_F bRL σ σ8 → sg_g σ8 61 10 = fRe (fxA A D (sg_g σ 6) B O r) → ctX σ8 (fRt (fxA A D (sg_g σ 6) B O r)) → (∀ v s' ρ', fxA A D (sg_g σ 6) B O r = .inr (v, s', ρ') → sg_g σ8 61 7 = 1 ∧ v.length = 1 ∧ yG σ8 ∧ yX σ8 (sg_g σ 6 r).toNat (sg_g σ8 64 0) v ∧ exF (sg_g σ 6 r).toNat v ≤ 6000) → (∀ e, fxA A D (sg_g σ 6) B O r = .inl e → ¬ e.1 = 0) → X σ8 := fun σ8 x1 x2 x3 x4 x5 => by rw [hXd]; exact kc σ8 x1 x2 x3 x4 x5
  have hD : dDy σ A D vb lev X (fxC A D (sg_g σ 6) B O D.length) (sg_g σ 11 r) D.length := by
    have := dDy_all (X := X) hW hD2 hSl hVb hO hOs hX hlv h1 h2 hl
    rw [Int.toNat_natCast] at this
    exact this
  have u12 : sg_g σ 12 r < 200 := by
    obtain ⟨L, ds, B', sc', hr, f1, f2, f3, -⟩ := id hP1
    have rr := f3 r (fT_sub f1 r (by simp)) L f1
    have r0 := (rr r).mp (fT_sub f1 r (by simp))
    have up := (rr (sg_g σ 12 r)).mpr ⟨Int.le_trans r0.1 r0.2, Int.le_refl _⟩
    have inr := fT_inq (fun k a b => (hW.2.2 k a b).2) f1 (by intro y hy; simp at hy; rw [hy]; exact hr)
    have := (inr _ up).2
    omega
  unfold V_mRun V_mStart
  intro σ1 e1 σ4 e4
  unfold V_fPrepare V_lClear V_lReset
  intro s1 f1 s2 f2 s3 f3 s4 f4 s5 f5 s6 f6 s7 f7 s8 f8 s9 f9 _ _ s10 f10 s11 f11 s12 f12 _ s13 f13 s14 f14 FF
  rw [xp_in ⟨by decide, by decide⟩] at f13
  rw [xa_in (a := 31) (n := 13) (k := 12) ⟨by decide, by decide⟩] at f14
  have z0 : sg_n 0 = 0 := sg_id ⟨by decide, by decide⟩
  have z1 : sg_n 1 = 1 := sg_id ⟨by decide, by decide⟩
  have zm : sg_n (-1) = -1 := sg_id ⟨by decide, by decide⟩
  have zE : sg_n (sg_g σ 31 12) = sg_g σ 31 12 := sg_id (sg_Rg _ _ _)
  have a7 : sg_g s14 61 7 = 0 := by rw [f14, f13, f12, f11, f10, f9, f8, f7, f6, f5, f4, f3, f2, f1, e4, e1]; simp [sg_gw, z0]
  have a10 : sg_g s14 61 10 = 0 := by rw [f14, f13, f12, f11, f10, f9, f8, f7, f6, f5, f4, f3, f2, f1, e4]; simp [sg_gw, z0]
  have a22 : sg_g s14 61 22 = 0 := by rw [f14, f13, f12, f11, f10]; simp [sg_gw, z0]
  have a23 : sg_g s14 61 23 = 1 := by rw [f14, f13, f12, f11]; simp [sg_gw, z1]
  have a24 : sg_g s14 61 24 = 0 := by rw [f14, f13, f12]; simp [sg_gw, z0]
  have a8 : sg_g s14 61 8 = sg_g σ 31 12 := by rw [f14]; simp [sg_gw, zE]
  have a63 : sg_g s14 63 12 = -1 := by rw [f14, f13]; simp [sg_gw, zm]
  have b10 : sg_g s14 77 10 = 0 := by rw [f14, f13, f12, f11, f10, f9, f8, f7, f6, f5, f4, f3, f2, f1]; simp [sg_gw, z0]
  have b16 : sg_g s14 77 16 = 0 := by rw [f14, f13, f12, f11, f10, f9, f8, f7, f6, f5, f4, f3, f2]; simp [sg_gw, z0]
  have b17 : sg_g s14 77 17 = 0 := by rw [f14, f13, f12, f11, f10, f9, f8, f7, f6, f5, f4, f3]; simp [sg_gw, z0]
  have b11 : sg_g s14 77 11 = 0 := by rw [f14, f13, f12, f11, f10, f9, f8, f7, f6, f5]; simp [sg_gw, z0]
  have b12 : sg_g s14 77 12 = 0 := by rw [f14, f13, f12, f11, f10, f9, f8, f7, f6]; simp [sg_gw, z0]
  have b13 : sg_g s14 77 13 = 0 := by rw [f14, f13, f12, f11, f10, f9, f8, f7]; simp [sg_gw, z0]
  have b14 : sg_g s14 77 14 = 0 := by rw [f14, f13, f12, f11, f10, f9, f8]; simp [sg_gw, z0]
  have b15 : sg_g s14 77 15 = 0 := by rw [f14, f13, f12, f11, f10, f9]; simp [sg_gw, z0]
  have hB : bP σ s14 0 0 1 0 (sg_g σ 31 12) := ⟨sg_F_m FF rfl, ⟨⟨⟨by omega, by omega⟩, ⟨by omega, by omega⟩, fun v a b => by omega, fun v v' a b => by omega⟩, ⟨b11, b12, b13, b14, b15⟩, a10, by omega, by omega⟩, ⟨a7, a22, a23, a8⟩, ⟨by decide, by decide⟩, by decide, by decide, by decide⟩
  have hct : ctX s14 (0, 0, 0) := ⟨b17, b16, a24, ⟨by decide, by decide⟩, by decide, by decide⟩
  have hB' : bP σ s14 0 0 ((1 : Nat) : Int) 0 (sg_g σ 31 12) := hB
  have R : Ry σ X 100000 s14 := by
    refine y_body (j := D.length) (cl := (D.length : Int)) (q := 12) (r := r) (fs := fs) (kp := 0) (sc := []) (L0 := L0) (N := 1) (cr := 1) (ρ := fun _ => []) (s := (0, 0, 0)) (rt := -1) hW hSl hVb hO hOs (fun f => fx_ok hX hlv hO (fxC_ok hX hlv hO D.length) f) ⟨by decide, by decide⟩ (by omega) (Int.le_refl _) hP1 hP2 hst (fun q hq => (by cases hq)) hD hB' hct a63 (fun p hp => (by cases hp)) (by omega) (by omega) (by decide) (by decide) ?_
    have kX' := kX
    unfold fxA at kX'
    have pk := fx_ok hX hlv hO (fxC_ok hX hlv hO D.length) 201 r L0 [] hst 1 (fun _ => []) (0, 0, 0)
    have pe := fe_ok hX hlv hO (fxC_ok hX hlv hO D.length) (cXk_all hX hlv hO D.length) 201 r L0 [] hst 1 (fun _ => []) (0, 0, 0)
    generalize fxN A D (sg_g σ 6) B O (fxC A D (sg_g σ 6) B O D.length) 201 r 1 (fun _ => []) (0, 0, 0) = res at kX' pk pe
    match res, kX', pk, pe with
    | .inl (e, s'), kX', _, _ => exact fun σ' q1 q2 q3 q4 => kX' σ' q1 q2 q3 (fun v s1 ρ1 q5 => by cases q5) (fun e1 q5 => by cases q5; exact q4)
    | .inr (v, s', ρ'), kX', pk, pe =>
      intro σ' m' _ q1 q2 _ q4
      obtain ⟨pl, -⟩ := pk v s' ρ' (fun p hp => (by cases hp)) rfl
      obtain ⟨px, -⟩ := pe v s' ρ' 0 (fun p hp => (by cases hp)) (by decide) rfl
      have c5 := q2.2.2.2.2.2
      simp only at c5
      refine ry_z (by rw [q1.2.2.1.2.2.2]; decide) (kX' σ' q1.1 q1.2.1.2.2.1 q2 (fun v1 s1 ρ1 q5 => ?_) (fun e1 q5 => by cases q5))
      cases q5
      exact ⟨q1.2.2.1.1, pl, q1.2.1.1, q4, by omega⟩
  refine ⟨fun n v σ8 => v = 100000 - (n : Int) ∧ Ry σ X n σ8, X, ⟨100000, rfl, R⟩, ?_, fun σ8 _ h8 => by rw [hXd] at h8; exact h8⟩
  rintro n v σ8 rv f8' ⟨hv, hR⟩
  cases n with
  | zero => exact ⟨fun _ => hR, fun q => by omega⟩
  | succ n =>
    obtain ⟨y1, y2, y3⟩ := hR
    refine ⟨fun q => by omega, fun q => ⟨y1, fun q2 => ⟨y2, fun q3 => ?_⟩⟩⟩
    obtain ⟨y4, y5⟩ := y3 q2 q3
    exact ⟨y4, fun σ32 e32 => ⟨Ry σ X n, y5 σ32 e32, fun σ36 _ h36 => ⟨⟨by omega, by omega⟩, n, by omega, by omega, h36⟩⟩⟩
end DHS
