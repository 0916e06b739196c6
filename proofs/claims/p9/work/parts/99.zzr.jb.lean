/-! THE FLAT RUN of the class, whole. -/
theorem f_run {σ : sg_S} {A : aT} {H : Int → Int} {M r fs a1 : Int} {Q : Int → sg_S → Prop} (hW : ckW σ A) (h : dA σ A H M) (hP : dI σ A H M 12 r fs 0) (hl : ∀ q, 0 ≤ q → q < M → H q ≤ fs ∧ nxq σ q ≤ sg_g σ 11 r) (kc : ∀ σ8, sg_F bRL σ σ8 → V_fConcl σ8 a1 (fun σ23 => sg_F [61, 65, 66, 67, 68] σ8 σ23 → Q (sg_g σ23 61 10) σ23)) : V_mRun σ a1 Q := by
  unfold V_mRun V_mStart
  intro σ1 e1 σ4 e4
  unfold V_fPrepare V_lClear V_lReset
  intro s1 f1 s2 f2 s3 f3 s4 f4 s5 f5 s6 f6 s7 f7 s8 f8 s9 f9 _ _ s10 f10 s11 f11 s12 f12 _ s13 f13 s14 f14 FF
  rw [xp_in ⟨by decide, by decide⟩] at f13
  rw [xa_in (a := 31) (n := 13) (k := 12) ⟨by decide, by decide⟩] at f14
  have z0 : sg_n 0 = 0 := sg_id ⟨by decide, by decide⟩
  have z1 : sg_n 1 = 1 := sg_id ⟨by decide, by decide⟩
  have zm : sg_n (-1) = -1 := sg_id ⟨by decide, by decide⟩
  have zE : sg_n (sg_g σ 31 12) = sg_g σ 31 12 := sg_id (sg_Rg _ _ _)
  have a7 : sg_g s14 61 7 = 0 := by rw [f14, f13, f12, f11, f10, f9, f8, f7, f6, f5, f4, f3, f2, f1, e4, e1]; simp [sg_gw, z0]
  have a10 : sg_g s14 61 10 = 0 := by rw [f14, f13, f12, f11, f10, f9, f8, f7, f6, f5, f4, f3, f2, f1, e4]; simp [sg_gw, z0]
  have a22 : sg_g s14 61 22 = 0 := by rw [f14, f13, f12, f11, f10]; simp [sg_gw, z0]
  have a23 : sg_g s14 61 23 = 1 := by rw [f14, f13, f12, f11]; simp [sg_gw, z1]
  have a8 : sg_g s14 61 8 = sg_g σ 31 12 := by rw [f14]; simp [sg_gw, zE]
  have a63 : sg_g s14 63 12 = -1 := by rw [f14, f13]; simp [sg_gw, zm]
  have b10 : sg_g s14 77 10 = 0 := by rw [f14, f13, f12, f11, f10, f9, f8, f7, f6, f5, f4, f3, f2, f1]; simp [sg_gw, z0]
  have b16 : sg_g s14 77 16 = 0 := by rw [f14, f13, f12, f11, f10, f9, f8, f7, f6, f5, f4, f3, f2]; simp [sg_gw, z0]
  have b17 : sg_g s14 77 17 = 0 := by rw [f14, f13, f12, f11, f10, f9, f8, f7, f6, f5, f4, f3]; simp [sg_gw, z0]
  have b11 : sg_g s14 77 11 = 0 := by rw [f14, f13, f12, f11, f10, f9, f8, f7, f6, f5]; simp [sg_gw, z0]
  have b12 : sg_g s14 77 12 = 0 := by rw [f14, f13, f12, f11, f10, f9, f8, f7, f6]; simp [sg_gw, z0]
  have b13 : sg_g s14 77 13 = 0 := by rw [f14, f13, f12, f11, f10, f9, f8, f7]; simp [sg_gw, z0]
  have b14 : sg_g s14 77 14 = 0 := by rw [f14, f13, f12, f11, f10, f9, f8]; simp [sg_gw, z0]
  have b15 : sg_g s14 77 15 = 0 := by rw [f14, f13, f12, f11, f10, f9]; simp [sg_gw, z0]
  have hB : bP σ s14 0 0 1 0 (sg_g σ 31 12) := ⟨sg_F_m FF rfl, ⟨⟨⟨by omega, by omega⟩, ⟨by omega, by omega⟩, fun v a b => by omega, fun v v' a b => by omega⟩, ⟨b11, b12, b13, b14, b15⟩, a10, by omega, by omega⟩, ⟨a7, a22, a23, a8⟩, ⟨by decide, by decide⟩, by decide, by decide, by decide⟩
  have hM := h.1
  have hD : dD σ H fs (sg_g σ 11 r) M := dD_all hW h hl
  obtain ⟨L, ds, B, sc, hr, g1, g2, g3, g4, g5, g6, g7, g8, g9, g10, g11⟩ := id hP
  have rr := g3 r (fT_sub g1 r (by simp)) L g1
  have r0 := (rr r).mp (fT_sub g1 r (by simp))
  have up := (rr (sg_g σ 12 r)).mpr ⟨by omega, by omega⟩
  have inr := fT_inq (fun k a b => (hW.2.2 k a b).2) g1 (by intro y hy; simp at hy; rw [hy]; exact hr)
  have u0 := (inr _ up).2
  have w200 := hW.1
  have R : ∀ m, Rr σ m s14 := fun m => dI_run hW ⟨by decide, by decide⟩ hM hP hD hB a63 (fun i hi => by omega) (by omega) (by omega) (fun σ' m' _ h1 _ _ => by
    cases m' with
    | zero => exact True.intro
    | succ m' => intro z _; rw [h1.2.2.1.2.2.2] at z; omega)
  refine ⟨fun n v σ8 => v = 100000 - (n : Int) ∧ Rr σ n σ8, fun _ => True, ⟨100000, rfl, R 100000⟩, ?_, ?_⟩
  · rintro n v σ8 rv f8' ⟨hv, hR⟩
    refine ⟨fun _ => True.intro, fun q => ⟨fun _ => True.intro, fun q2 => ⟨fun _ => True.intro, fun q3 => ?_⟩⟩⟩
    cases n with
    | zero => omega
    | succ n =>
      obtain ⟨y1, y2⟩ := hR q2 q3
      refine ⟨y1, fun σ32 e32 => ⟨Rr σ n, y2 σ32 e32, fun σ36 _ h36 => ⟨⟨by omega, by omega⟩, n, by omega, by omega, h36⟩⟩⟩
  · intro σ8 f8' _
    exact kc σ8 (sg_F_t (sg_F_m FF rfl) (sg_F_m f8' rfl))
