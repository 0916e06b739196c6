/-! flat() of the reference, exactly. -/
noncomputable def gaL (A : aT) (B c : Int → Int) (L0 : List Int) (but : Int) : List Int → List Int
  | [] => []
  | y :: r => @ite _ (A.2.1 y = 1 ∧ ¬ insL L0 (B y) ∧ ¬ isG but (B y)) (Classical.propDecidable _) (insO c (B y) (gaL A B c L0 but r)) (gaL A B c L0 but r)
section BOS
variable {A : aT} {B c : Int → Int} {L0 : List Int} {but : Int}
theorem gaL_n : ∀ L : List Int, (gaL A B c L0 but L).Nodup
  | [] => List.nodup_nil
  | y :: r => by
    simp only [gaL]
    split
    · exact insO_n (gaL_n r)
    · exact gaL_n r
theorem gaL_m : ∀ (L : List Int) (z : Int), z ∈ gaL A B c L0 but L ↔ ∃ y ∈ L, A.2.1 y = 1 ∧ B y = z ∧ ¬ insL L0 z ∧ ¬ isG but z
  | [], z => ⟨fun h => (by cases h), fun ⟨y, hy, _⟩ => (by cases hy)⟩
  | y :: r, z => by
    have ih := gaL_m r z
    simp only [gaL]
    by_cases h : A.2.1 y = 1 ∧ ¬ insL L0 (B y) ∧ ¬ isG but (B y)
    · rw [if_pos h, insO_m]
      refine ⟨fun w => ?_, fun ⟨u, u1, u2⟩ => ?_⟩
      · rcases w with w | w
        · exact ⟨y, by simp, h.1, w.symm, by rw [w]; exact h.2.1, by rw [w]; exact h.2.2⟩
        · obtain ⟨u, u1, u2⟩ := ih.mp w
          exact ⟨u, by simp [u1], u2⟩
      · rcases List.mem_cons.mp u1 with e | e
        · left; rw [← u2.2.1, e]
        · exact Or.inr (ih.mpr ⟨u, e, u2⟩)
    · rw [if_neg h]
      refine ⟨fun w => ?_, fun ⟨u, u1, u2⟩ => ?_⟩
      · obtain ⟨u, u1, u2⟩ := ih.mp w
        exact ⟨u, by simp [u1], u2⟩
      · rcases List.mem_cons.mp u1 with e | e
        · rw [e] at u2
          exact absurd ⟨u2.1, by rw [u2.2.1]; exact u2.2.2.1, by rw [u2.2.1]; exact u2.2.2.2⟩ h
        · exact ih.mpr ⟨u, e, u2⟩
theorem O_ex (A : aT) (B c : Int → Int) : ∃ O, okO A B O ∧ gaH A B c O := by
  classical
  obtain ⟨lT, lT_e⟩ : ∃ lT : List Int → List Int, ∀ R L, fT A R L → lT R = L := ⟨fun R => if h : ∃ L, fT A R L then Classical.choose h else [], fun R L hL => by
    have ex : ∃ L, fT A R L := ⟨L, hL⟩
    simp only [dif_pos ex]
    exact fT_det (Classical.choose_spec ex) hL⟩
  obtain ⟨gX, gX_n, gX_m, gX_e⟩ : ∃ gX : List Int → Int → List Int, (∀ L but, (gX L but).Nodup) ∧ (∀ L but z, z ∈ gX L but ↔ ∃ y ∈ L, A.2.1 y = 1 ∧ B y = z ∧ ¬ insL L z ∧ ¬ isG but z) ∧ ∀ L but, (∀ y ∈ L, 0 ≤ y ∧ y < A.1) → gX L but = gaO A B c L but A.1.toNat := by
    refine ⟨fun L but => if (∀ y ∈ L, 0 ≤ y ∧ y < A.1) then gaO A B c L but A.1.toNat else gaL A B c L but L, fun L but => ?_, fun L but z => ?_, fun L but h => if_pos h⟩
    · simp only
      split
      · exact gaO_n _
      · exact gaL_n _
    · simp only
      split
      · rename_i hr
        rw [gaO_m]
        refine ⟨fun ⟨y, y1, y2, y3⟩ => ⟨y, y2, y3⟩, fun ⟨y, y1, y2⟩ => ⟨y, ⟨(hr y y1).1, by have := hr y y1; omega⟩, y1, y2⟩⟩
      · exact gaL_m L z
  have ng : ∀ z, ¬ isG (-1) z := fun z h => by have := h.1; omega
  refine ⟨fun n st => if A.2.1 n = 3 then gX (lT [(A.2.2.2.2.1 n).getD st 0]) (-1) else if st = 0 then gX (lT [(A.2.2.2.2.1 n).headD 0] ++ lT ((A.2.2.2.2.1 n).tail.drop (A.2.2.2.2.2 n).length)) n else gX (lT [(A.2.2.2.2.1 n).headD 0]) (-1), fun n => ⟨fun st => ?_, fun k3 st x L hst hx hL z => ?_, fun k15 bd tl Lb Lt ea hb ht => ⟨fun z => ?_, fun z => ?_⟩⟩, fun n => ⟨fun k3 st x L hst hx hL hr => ?_, fun k15 bd tl Lb Lt ea hb ht hr => ⟨?_, ?_⟩⟩⟩
  · simp only
    split
    · exact gX_n _ _
    · split
      · exact gX_n _ _
      · exact gX_n _ _
  · have e : (A.2.2.2.2.1 n).getD st 0 = x := by rw [List.getD_eq_getElem?_getD, hx]; rfl
    simp only
    rw [if_pos k3, e, lT_e _ L hL, gX_m]
    exact ⟨fun ⟨y, y1, y2, y3, y4, _⟩ => ⟨y, y1, y2, y3, y4⟩, fun ⟨y, y1, y2, y3, y4⟩ => ⟨y, y1, y2, y3, y4, ng z⟩⟩
  · simp only
    rw [if_neg (by omega), if_pos True.intro, ea]
    simp only [List.headD_cons, List.tail_cons]
    rw [lT_e _ Lb hb, lT_e _ Lt ht, gX_m]
  · simp only
    rw [if_neg (by omega), if_neg (by decide), ea]
    simp only [List.headD_cons]
    rw [lT_e _ Lb hb, gX_m]
    exact ⟨fun ⟨y, y1, y2, y3, y4, _⟩ => ⟨y, y1, y2, y3, y4⟩, fun ⟨y, y1, y2, y3, y4⟩ => ⟨y, y1, y2, y3, y4, ng z⟩⟩
  · have e : (A.2.2.2.2.1 n).getD st 0 = x := by rw [List.getD_eq_getElem?_getD, hx]; rfl
    simp only
    rw [if_pos k3, e, lT_e _ L hL, gX_e L (-1) hr]
  · simp only
    rw [if_neg (by omega), if_pos True.intro, ea]
    simp only [List.headD_cons, List.tail_cons]
    rw [lT_e _ Lb hb, lT_e _ Lt ht, gX_e _ n hr]
  · simp only
    rw [if_neg (by omega), if_neg (by decide), ea]
    simp only [List.headD_cons]
    rw [lT_e _ Lb hb, gX_e Lb (-1) (fun y hy => hr y (by simp [hy]))]
end BOS
/-- the FINDING of a flat run, or 0; what it told -/
def fRe : fRs → Int
  | .inl (e, _) => e
  | .inr _ => 0
def fRt : fRs → fSt
  | .inl (_, s) => s
  | .inr (_, s, _) => s
/-- a flat run of the whole PROGRAM -/
def fxA (A : aT) (D : List aDf) (T B : Int → Int) (O : Int → Nat → List Int) (r : Int) : fRs := fxN A D T B O (fxC A D T B O D.length) 201 r 1 (fun _ => []) (0, 0, 0)
section BOT
variable {A : aT} {D : List aDf} {T B c : Int → Int} {O : Int → Nat → List Int} {r : Int}
theorem xq_flat {σ : sg_S} {Q : Int → sg_S → Prop} (hX : pgX σ A D T B) (hr : sg_g σ 88 27 = r) (hty : tyN A (kDl D []) T B 201 [] r) (hfr : frA A (aRt D ++ [r])) (hO : okO A B O) (hG : gaH A B c O) (hcb : ∀ y, sg_g σ 116 y = c y) (h28 : ¬ sg_g σ 88 28 = 0) (h82 : 0 ≤ sg_g σ 88 82 ∧ sg_g σ 88 82 < 20) (k : ∀ σ', sg_F [119, 120, 121, 126, 127, 128, 133, 134, 135, 136, 137, 138, 139, 140, 141, 142, 143, 144, 145, 146, 147, 148, 149, 150, 151, 1088, 47088, 50088, 63088, 71088, 74088, 78088, 79088, 82088, 83088, 84088, 85088, 86088, 87088, 88088, 92088, 94088, 100088, 103088, 104088] σ σ' → sg_g σ' 88 82 = sg_g σ 88 82 + 1 → (0 ≤ sg_g σ' 88 77 ∧ sg_g σ' 88 77 ≤ 80000) → sg_g σ' 88 83 = fRe (fxA A D T B O r) → fcX σ' (fRt (fxA A D T B O r)) → Q (fRe (fxA A D T B O r)) σ') : V_flat σ Q := by
  unfold V_flat
  intro σ1 e1
  have f1 : sg_F [1088] σ σ1 := by rw [e1]; exact sg_F_w (sg_F_r _ _) rfl _
  refine ⟨fun c28 => ⟨fun c82 => ?_, fun z => by omega⟩, fun z => absurd z h28⟩
  obtain ⟨lev, hlv⟩ := lvP_ex hfr
  obtain ⟨hP, hD, eT, eB, hA, hdt⟩ := id hX
  obtain ⟨L0, g1, g2, g3⟩ := hlv.2
  have hst : stN A D T B lev D.length 201 L0 [] r := ⟨by rw [List.take_of_length_le (Nat.le_refl _)]; exact hty, g1, g2, fun y hy => ⟨(g3 y hy).1, by have := (g3 y hy).2; omega⟩, fun p hp => (by cases hp)⟩
  obtain ⟨w1, w2, w3, -⟩ := stN_w hst
  refine ⟨⟨by omega, by omega⟩, fun σ7 e7 σ10 e10 σ13 e13 σ16 e16 σ19 e19 σ22 e22 σ25 e25 σ28 e28 σ31 e31 σ34 e34 σ37 e37 => ?_⟩
  have F37 : sg_F [1088, 63088, 71088, 74088, 82088, 83088, 85088, 86088, 87088, 88088, 92088, 100088] σ σ37 := by
    rw [e37, e34, e31, e28, e25, e22, e19, e16, e13, e10, e7]
    exact sg_F_w (sg_F_w (sg_F_w (sg_F_w (sg_F_w (sg_F_w (sg_F_w (sg_F_w (sg_F_w (sg_F_w (sg_F_w (sg_F_m f1 rfl) rfl _) rfl _) rfl _) rfl _) rfl _) rfl _) rfl _) rfl _) rfl _) rfl _) rfl _
  have z : sg_R 0 := ⟨by decide, by decide⟩
  have c73 : sg_g σ37 88 73 = 0 := by rw [e37, sg_gw_e _ _ _ _ z]
  have c99 : sg_g σ37 88 99 = 0 := by rw [e37, sg_gw_k _ _ _ _ _ _ (by decide), e34, sg_gw_e _ _ _ _ z]
  have c70 : sg_g σ37 88 70 = 0 := by rw [e37, sg_gw_k _ _ _ _ _ _ (by decide), e34, sg_gw_k _ _ _ _ _ _ (by decide), e31, sg_gw_e _ _ _ _ z]
  have c62 : sg_g σ37 88 62 = 0 := by rw [e37, sg_gw_k _ _ _ _ _ _ (by decide), e34, sg_gw_k _ _ _ _ _ _ (by decide), e31, sg_gw_k _ _ _ _ _ _ (by decide), e28, sg_gw_e _ _ _ _ z]
  have c91 : sg_g σ37 88 91 = 0 := by rw [e37, sg_gw_k _ _ _ _ _ _ (by decide), e34, sg_gw_k _ _ _ _ _ _ (by decide), e31, sg_gw_k _ _ _ _ _ _ (by decide), e28, sg_gw_k _ _ _ _ _ _ (by decide), e25, sg_gw_e _ _ _ _ z]
  have c87 : sg_g σ37 88 87 = 0 := by rw [e37, sg_gw_k _ _ _ _ _ _ (by decide), e34, sg_gw_k _ _ _ _ _ _ (by decide), e31, sg_gw_k _ _ _ _ _ _ (by decide), e28, sg_gw_k _ _ _ _ _ _ (by decide), e25, sg_gw_k _ _ _ _ _ _ (by decide), e22, sg_gw_e _ _ _ _ z]
  have c86 : sg_g σ37 88 86 = 0 := by rw [e37, sg_gw_k _ _ _ _ _ _ (by decide), e34, sg_gw_k _ _ _ _ _ _ (by decide), e31, sg_gw_k _ _ _ _ _ _ (by decide), e28, sg_gw_k _ _ _ _ _ _ (by decide), e25, sg_gw_k _ _ _ _ _ _ (by decide), e22, sg_gw_k _ _ _ _ _ _ (by decide), e19, sg_gw_e _ _ _ _ z]
  have c85 : sg_g σ37 88 85 = 0 := by rw [e37, sg_gw_k _ _ _ _ _ _ (by decide), e34, sg_gw_k _ _ _ _ _ _ (by decide), e31, sg_gw_k _ _ _ _ _ _ (by decide), e28, sg_gw_k _ _ _ _ _ _ (by decide), e25, sg_gw_k _ _ _ _ _ _ (by decide), e22, sg_gw_k _ _ _ _ _ _ (by decide), e19, sg_gw_k _ _ _ _ _ _ (by decide), e16, sg_gw_e _ _ _ _ z]
  have c84 : sg_g σ37 88 84 = 0 := by rw [e37, sg_gw_k _ _ _ _ _ _ (by decide), e34, sg_gw_k _ _ _ _ _ _ (by decide), e31, sg_gw_k _ _ _ _ _ _ (by decide), e28, sg_gw_k _ _ _ _ _ _ (by decide), e25, sg_gw_k _ _ _ _ _ _ (by decide), e22, sg_gw_k _ _ _ _ _ _ (by decide), e19, sg_gw_k _ _ _ _ _ _ (by decide), e16, sg_gw_k _ _ _ _ _ _ (by decide), e13, sg_gw_e _ _ _ _ z]
  have c82' : sg_g σ37 88 82 = sg_g σ 88 82 + 1 := by rw [e37, sg_gw_k _ _ _ _ _ _ (by decide), e34, sg_gw_k _ _ _ _ _ _ (by decide), e31, sg_gw_k _ _ _ _ _ _ (by decide), e28, sg_gw_k _ _ _ _ _ _ (by decide), e25, sg_gw_k _ _ _ _ _ _ (by decide), e22, sg_gw_k _ _ _ _ _ _ (by decide), e19, sg_gw_k _ _ _ _ _ _ (by decide), e16, sg_gw_k _ _ _ _ _ _ (by decide), e13, sg_gw_k _ _ _ _ _ _ (by decide), e10, sg_gw_k _ _ _ _ _ _ (by decide), e7, sg_gw_e _ _ _ _ ⟨by omega, by omega⟩]
  have N37 : fNw σ37 := ⟨⟨⟨by omega, by omega⟩, ⟨by omega, by omega⟩, ⟨by omega, by omega⟩, ⟨by omega, by omega, by omega⟩, by omega, by omega⟩, fun i a b => by omega, by omega, by omega, by omega⟩
  have hX37 : pgX σ37 A D T B := pgX_F F37 rfl hX
  have S37 : fSw σ37 σ37 0 0 0 (0, 0, 0) := ⟨sg_F_r _ _, c73, ⟨c62, c70, c99⟩, ⟨c84, c85, c86, ⟨by decide, by decide⟩, by decide, by decide⟩, N37⟩
  have hcb37 : ∀ y, sg_g σ37 116 y = c y := fun y => by rw [sg_F_ga F37 rfl]; exact hcb y
  obtain ⟨X, hXd⟩ : ∃ X : sg_S → Prop, X = fun σ' => sg_F flL σ37 σ' ∧ sg_g σ' 88 73 = fRe (fxA A D T B O r) ∧ fcX σ' (fRt (fxA A D T B O r)) ∧ (sg_g σ' 88 73 = 0 → (sg_g σ' 88 91 ≤ 60000 ∧ sg_g σ' 88 87 ≤ 30000) ∧ fLx σ' (T r).toNat 1 6000 (sg_g σ' 133 0)) := ⟨_, rfl⟩
  have hC := cFr_all (X := X) hX37 hlv hO hG hcb37 D.length
  have hc := fxC_ok hX37 hlv hO D.length
  have hcx := cXk_all hX37 hlv hO D.length
  rw [hr]
  refine gfN_all (X := X) hX37 hlv hO hG hcb37 hC hc 201 r L0 [] hst σ37 4000 1 (fun _ => []) 0 0 0 (0, 0, 0) S37 (by decide) (fun p hp => (by cases hp)) (by decide) ?_ _ (fun σ41 R41 f41 => ?_)
  · have pk := fx_ok hX37 hlv hO hc 201 r L0 [] hst 1 (fun _ => []) (0, 0, 0)
    have pe := fe_ok hX37 hlv hO hc hcx 201 r L0 [] hst 1 (fun _ => []) (0, 0, 0)
    have hXd' := hXd
    unfold fxA at hXd'
    generalize fxN A D T B O (fxC A D T B O D.length) 201 r 1 (fun _ => []) (0, 0, 0) = res at hXd' pk pe
    match res, hXd', pk, pe with
    | .inl (e, s'), hXd', _, _ =>
      intro σ' y1 y2 y3 y4
      rw [hXd']
      exact ⟨y1, y2, y4, fun w => absurd (y2.symm.trans w) y3⟩
    | .inr (v, s', ρ'), hXd', pk, pe =>
      intro σ' m' S' K' hv hm'
      obtain ⟨a1, a2, ⟨a3, a4, a5⟩, c', ⟨⟨i1, i2, i3, i4, i5⟩, -⟩⟩ := S'
      refine rf_e (by omega) ?_
      rw [hXd']
      refine ⟨a1, a2, c', fun _ => ⟨⟨by omega, by omega⟩, ?_⟩⟩
      obtain ⟨R, hR⟩ := hv
      obtain ⟨pl, -⟩ := pk v s' ρ' (fun p hp => (by cases hp)) rfl
      obtain ⟨px, -⟩ := pe v s' ρ' 0 (fun p hp => (by cases hp)) (by decide) rfl
      have c5 := c'.2.2.2.2.2
      refine ⟨R, hR.1, hR.2.1, ?_, ?_⟩
      · rw [fX_n hR, pl]; rfl
      · rw [eX_F hR]; omega
  · refine ⟨fun n σ46 => Rf X n σ46, X, ⟨4000, R41⟩, fun n σ46 f46 R46 => ?_, fun σ46 f46 hX46 σ59 e59 => ?_⟩
    · cases n with
      | zero => exact ⟨fun z => R46.1 z, fun z => ⟨fun w => R46.2.1 w, fun w => (R46.2.2 z w).elim⟩⟩
      | succ n => exact ⟨fun z => R46.1 z, fun z => ⟨fun w => R46.2.1 w, fun w => R46.2.2 z w _ (fun σ' hr' => ⟨n, Nat.lt_succ_self n, hr'⟩)⟩⟩
    · rw [hXd] at hX46
      obtain ⟨x1, x2, x3, x4⟩ := hX46
      have F46 : sg_F [119, 120, 121, 126, 127, 128, 133, 134, 135, 139, 140, 141, 142, 143, 144, 145, 146, 147, 148, 149, 150, 1088, 47088, 50088, 63088, 71088, 74088, 82088, 83088, 85088, 86088, 87088, 88088, 92088, 94088, 100088, 103088, 104088] σ σ46 := sg_F_t (sg_F_m F37 rfl) (sg_F_m x1 rfl)
      have f59 : sg_F [84088] σ46 σ59 := by rw [e59]; exact sg_F_w (sg_F_r _ _) rfl _
      have F59 : sg_F [119, 120, 121, 126, 127, 128, 133, 134, 135, 139, 140, 141, 142, 143, 144, 145, 146, 147, 148, 149, 150, 1088, 47088, 50088, 63088, 71088, 74088, 82088, 83088, 84088, 85088, 86088, 87088, 88088, 92088, 94088, 100088, 103088, 104088] σ σ59 := sg_F_t (sg_F_m F46 rfl) (sg_F_m f59 rfl)
      have c83 : sg_g σ59 88 83 = sg_g σ46 88 73 := by rw [e59, sg_gw_e _ _ _ _ (sg_Rg _ _ _)]
      have b82 : sg_g σ59 88 82 = sg_g σ 88 82 + 1 := by rw [sg_F_g f59 (by rfl), sg_F_g x1 (by rfl)]; exact c82'
      have fin : ∀ σ63, (0 ≤ sg_g σ63 88 77 ∧ sg_g σ63 88 77 ≤ 80000) → sg_F [136, 137, 138, 151, 78088, 79088] σ59 σ63 → Q (sg_g σ46 88 73) σ63 := fun σ63 h f => by
        rw [x2]
        exact k σ63 (sg_F_t (sg_F_m F59 rfl) (sg_F_m f rfl)) (by rw [sg_F_g f (by rfl)]; exact b82) h (by rw [sg_F_g f (by rfl), c83]; exact x2) (fcX_F f rfl (fcX_F f59 rfl x3))
      by_cases h0 : sg_g σ46 88 73 = 0
      · obtain ⟨⟨q1, q2⟩, hv⟩ := x4 h0
        have e27 : sg_g σ59 88 27 = r := by rw [sg_F_g F59 (by rfl)]; exact hr
        have g91 : sg_g σ59 88 91 = sg_g σ46 88 91 := sg_F_g f59 (by rfl)
        have g87 : sg_g σ59 88 87 = sg_g σ46 88 87 := sg_F_g f59 (by rfl)
        have w31 := w3.1
        have w32 := w3.2
        refine m_showF (K := (T r).toNat) (by rw [c83]; exact h0) (by rw [e27]; omega) ?_ (by omega) ⟨by omega, by omega⟩ ?_ (fun σ63 a b _ => fin σ63 a b)
        · rw [e27, sg_F_ga (a := 101) F59 rfl, eT]; omega
        · rw [sg_F_ga (a := 133) f59 rfl]
          exact fLx_up (fEx_F f59 rfl) (by omega) hv
      · exact m_showE (by rw [c83]; exact h0) (fun σ63 a b _ => fin σ63 a b)
end BOT
