/-! flat() of the reference, exactly. -/
noncomputable def gaL (A : aT) (B c : Int → Int) (L0 : List Int) (but : Int) : List Int → List Int
  | [] => []
  | y :: r => @ite _ (A.2.1 y = 1 ∧ ¬ insL L0 (B y) ∧ ¬ isG but (B y)) (Classical.propDecidable _) (insO c (B y) (gaL A B c L0 but r)) (gaL A B c L0 but r)
section BOS
variable {A : aT} {B c : Int → Int} {L0 : List Int} {but : Int}
theorem gaL_n : ∀ L : List Int, (gaL A B c L0 but L).Nodup
  | [] => List.nodup_nil
  | y :: r => by
    simp only [gaL]
    split
    · exact insO_n (gaL_n r)
    · exact gaL_n r
theorem gaL_m : ∀ (L : List Int) (z : Int), z ∈ gaL A B c L0 but L ↔ ∃ y ∈ L, A.2.1 y = 1 ∧ B y = z ∧ ¬ insL L0 z ∧ ¬ isG but z
  | [], z => ⟨fun h => (by cases h), fun ⟨y, hy, _⟩ => (by cases hy)⟩
  | y :: r, z => by
    have ih := gaL_m r z
    simp only [gaL]
    by_cases h : A.2.1 y = 1 ∧ ¬ insL L0 (B y) ∧ ¬ isG but (B y)
    · rw [if_pos h, insO_m]
      refine ⟨fun w => ?_, fun ⟨u, u1, u2⟩ => ?_⟩
      · rcases w with w | w
        · exact ⟨y, by simp, h.1, w.symm, by rw [w]; exact h.2.1, by rw [w]; exact h.2.2⟩
        · obtain ⟨u, u1, u2⟩ := ih.mp w
          exact ⟨u, by simp [u1], u2⟩
      · rcases List.mem_cons.mp u1 with e | e
        · left; rw [← u2.2.1, e]
        · exact Or.inr (ih.mpr ⟨u, e, u2⟩)
    · rw [if_neg h]
      refine ⟨fun w => ?_, fun ⟨u, u1, u2⟩ => ?_⟩
      · obtain ⟨u, u1, u2⟩ := ih.mp w
        exact ⟨u, by simp [u1], u2⟩
      · rcases List.mem_cons.mp u1 with e | e
        · rw [e] at u2
          exact absurd ⟨u2.1, by rw [u2.2.1]; exact u2.2.2.1, by rw [u2.2.1]; exact u2.2.2.2⟩ h
        · exact ih.mpr ⟨u, e, u2⟩
theorem O_ex (A : aT) (B c : Int → Int) : ∃ O, okO A B O ∧ gaH A B c O := by
  classical
  obtain ⟨lT, lT_e⟩ : ∃ lT : List Int → List Int, ∀ R L, fT A R L → lT R = L := ⟨fun R => if h : ∃ L, fT A R L then Classical.choose h else [], fun R L hL => by
    have ex : ∃ L, fT A R L := ⟨L, hL⟩
    simp only [dif_pos ex]
    exact fT_det (Classical.choose_spec ex) hL⟩
  obtain ⟨gX, gX_n, gX_m, gX_e⟩ : ∃ gX : List Int → Int → List Int, (∀ L but, (gX L but).Nodup) ∧ (∀ L but z, z ∈ gX L but ↔ ∃ y ∈ L, A.2.1 y = 1 ∧ B y = z ∧ ¬ insL L z ∧ ¬ isG but z) ∧ ∀ L but, (∀ y ∈ L, 0 ≤ y ∧ y < A.1) → gX L but = gaO A B c L but A.1.toNat := by
    refine ⟨fun L but => if (∀ y ∈ L, 0 ≤ y ∧ y < A.1) then gaO A B c L but A.1.toNat else gaL A B c L but L, fun L but => ?_, fun L but z => ?_, fun L but h => if_pos h⟩
    · simp only
      split
      · exact gaO_n _
      · exact gaL_n _
    · simp only
      split
      · rename_i hr
        rw [gaO_m]
        refine ⟨fun ⟨y, y1, y2, y3⟩ => ⟨y, y2, y3⟩, fun ⟨y, y1, y2⟩ => ⟨y, ⟨(hr y y1).1, by have := hr y y1; omega⟩, y1, y2⟩⟩
      · exact gaL_m L z
  have ng : ∀ z, ¬ isG (-1) z := fun z h => by have := h.1; omega
  refine ⟨fun n st => if A.2.1 n = 3 then gX (lT [(A.2.2.2.2.1 n).getD st 0]) (-1) else if st = 0 then gX (lT [(A.2.2.2.2.1 n).headD 0] ++ lT ((A.2.2.2.2.1 n).tail.drop (A.2.2.2.2.2 n).length)) n else gX (lT [(A.2.2.2.2.1 n).headD 0]) (-1), fun n => ⟨fun st => ?_, fun k3 st x L hst hx hL z => ?_, fun k15 bd tl Lb Lt ea hb ht => ⟨fun z => ?_, fun z => ?_⟩⟩, fun n => ⟨fun k3 st x L hst hx hL hr => ?_, fun k15 bd tl Lb Lt ea hb ht hr => ⟨?_, ?_⟩⟩⟩
  · simp only
    split
    · exact gX_n _ _
    · split
      · exact gX_n _ _
      · exact gX_n _ _
  · have e : (A.2.2.2.2.1 n).getD st 0 = x := by rw [List.getD_eq_getElem?_getD, hx]; rfl
    simp only
    rw [if_pos k3, e, lT_e _ L hL, gX_m]
    exact ⟨fun ⟨y, y1, y2, y3, y4, _⟩ => ⟨y, y1, y2, y3, y4⟩, fun ⟨y, y1, y2, y3, y4⟩ => ⟨y, y1, y2, y3, y4, ng z⟩⟩
  · simp only
    rw [if_neg (by omega), if_pos True.intro, ea]
    simp only [List.headD_cons, List.tail_cons]
    rw [lT_e _ Lb hb, lT_e _ Lt ht, gX_m]
  · simp only
    rw [if_neg (by omega), if_neg (by decide), ea]
    simp only [List.headD_cons]
    rw [lT_e _ Lb hb, gX_m]
    exact ⟨fun ⟨y, y1, y2, y3, y4, _⟩ => ⟨y, y1, y2, y3, y4⟩, fun ⟨y, y1, y2, y3, y4⟩ => ⟨y, y1, y2, y3, y4, ng z⟩⟩
  · have e : (A.2.2.2.2.1 n).getD st 0 = x := by rw [List.getD_eq_getElem?_getD, hx]; rfl
    simp only
    rw [if_pos k3, e, lT_e _ L hL, gX_e L (-1) hr]
  · simp only
    rw [if_neg (by omega), if_pos True.intro, ea]
    simp only [List.headD_cons, List.tail_cons]
    rw [lT_e _ Lb hb, lT_e _ Lt ht, gX_e _ n hr]
  · simp only
    rw [if_neg (by omega), if_neg (by decide), ea]
    simp only [List.headD_cons]
    rw [lT_e _ Lb hb, gX_e Lb (-1) (fun y hy => hr y (by simp [hy]))]
end BOS
/-- the FINDING of a flat run, or 0; what it told -/
def fRe : fRs → Int
  | .inl (e, _) => e
  | .inr _ => 0
def fRt : fRs → fSt
  | .inl (_, s) => s
  | .inr (_, s, _) => s
/-- a flat run of the whole PROGRAM -/
def fxA (A : aT) (D : List aDf) (T B : Int → Int) (O : Int → Nat → List Int) (r : Int) : fRs := fxN A D T B O (fxC A D T B O D.length) 201 r 1 (fun _ => []) (0, 0, 0)
section BOT
variable {A : aT} {D : List aDf} {T B c : Int → Int} {O : Int → Nat → List Int} {r : Int}
theorem xq_flat {σ : sg_S} {Q : Int → sg_S → Prop} (hX : pgX σ A D T B) (hr : sg_g σ 88 27 = r) (hty : tyN A (kDl D []) T B 201 [] r) (hfr : frA A (aRt D ++ [r])) (hO : okO A B O) (hG : gaH A B c O) (hcb : ∀ y, sg_g σ 116 y = c y) (h28 : ¬ sg_g σ 88 28 = 0) (h82 : 0 ≤ sg_g σ 88 82 ∧ sg_g σ 88 82 < 20) (k : ∀ σ', sg_F [119, 120, 121, 126, 127, 128, 133, 134, 135, 136, 137, 138, 139, 140, 141, 142, 143, 144, 145, 146, 147, 148, 149, 150, 151, 1088, 47088, 50088, 63088, 71088, 74088, 78088, 79088, 82088, 83088, 84088, 85088, 86088, 87088, 88088, 92088, 94088, 100088, 103088, 104088] σ σ' → sg_g σ' 88 82 = sg_g σ 88 82 + 1 → (0 ≤ sg_g σ' 88 77 ∧ sg_g σ' 88 77 ≤ 80000) → sg_g σ' 88 83 = fRe (fxA A D T B O r) → fcX σ' (fRt (fxA A D T B O r)) → Q (fRe (fxA A D T B O r)) σ') : V_flat σ Q := by
  unfold V_flat
  intro σ1 e1
  have f1 : sg_F [1088] σ σ1 := by rw [e1]; exact sg_F_w (sg_F_r _ _) rfl _
  refine ⟨fun c28 => ⟨fun c82 => ?_, fun z => by omega⟩, fun z => absurd z h28⟩
  obtain ⟨lev, hlv⟩ := lvP_ex hfr
  obtain ⟨hP, hD, eT, eB, hA, hdt⟩ := id hX
  obtain ⟨L0, g1, g2, g3⟩ := hlv.2
  have hst : stN A D T B lev D.length 201 L0 [] r := ⟨by rw [List.take_of_length_le (Nat.le_refl _)]; exact hty, g1, g2, fun y hy => ⟨(g3 y hy).1, by have := (g3 y hy).2; omega⟩, fun p hp => (by cases hp)⟩
  obtain ⟨w1, w2, w3, -⟩ := stN_w hst
  refine ⟨⟨by omega, by omega⟩, fun σ7 e7 σ10 e10 σ13 e13 σ16 e16 σ19 e19 σ22 e22 σ25 e25 σ28 e28 σ31 e31 σ34 e34 σ37 e37 => ?_⟩
  have F37 : sg_F [1088, 63088, 71088, 74088, 82088, 83088, 85088, 86088, 87088, 88088, 92088, 100088] σ σ37 := by
    rw [e37, e34, e31, e28, e25, e22, e19, e16, e13, e10, e7]
    exact sg_F_w (sg_F_w (sg_F_w (sg_F_w (sg_F_w (sg_F_w (sg_F_w (sg_F_w (sg_F_w (sg_F_w (sg_F_w (sg_F_m f1 rfl) rfl _) rfl _) rfl _) rfl _) rfl _) rfl _) rfl _) rfl _) rfl _) rfl _) rfl _
  have z : sg_R 0 := ⟨by decide, by decide⟩
  have c73 : sg_g σ37 88 73 = 0 := by rw [e37, sg_gw_e _ _ _ _ z]
  have c99 : sg_g σ37 88 99 = 0 := by rw [e37, sg_gw_k _ _ _ _ _ _ (by decide), e34, sg_gw_e _ _ _ _ z]
  have c70 : sg_g σ37 88 70 = 0 := by rw [e37, sg_gw_k _ _ _ _ _ _ (by decide), e34, sg_gw_k _ _ _ _ _ _ (by decide), e31, sg_gw_e _ _ _ _ z]
  have c62 : sg_g σ37 88 62 = 0 := by rw [e37, sg_gw_k _ _ _ _ _ _ (by decide), e34, sg_gw_k _ _ _ _ _ _ (by decide), e31, sg_gw_k _ _ _ _ _ _ (by decide), e28, sg_gw_e _ _ _ _ z]
  have c91 : sg_g σ37 88 91 = 0 := by rw [e37, sg_gw_k _ _ _ _ _ _ (by decide), e34, sg_gw_k _ _ _ _ _ _ (by decide), e31, sg_gw_k _ _ _ _ _ _ (by decide), e28, sg_gw_k _ _ _ _ _ _ (by decide), e25, sg_gw_e _ _ _ _ z]
  have c87 : sg_g σ37 88 87 = 0 := by rw [e37, sg_gw_k _ _ _ _ _ _ (by decide), e34, sg_gw_k _ _ _ _ _ _ (by decide), e31, sg_gw_k _ _ _ _ _ _ (by decide), e28, sg_gw_k _ _ _ _ _ _ (by decide), e25, sg_gw_k _ _ _ _ _ _ (by decide), e22, sg_gw_e _ _ _ _ z]
  have c86 : sg_g σ37 88 86 = 0 := by rw [e37, sg_gw_k _ _ _ _ _ _ (by decide), e34, sg_gw_k _ _ _ _ _ _ (by decide), e31, sg_gw_k _ _ _ _ _ _ (by decide), e28, sg_gw_k _ _ _ _ _ _ (by decide), e25, sg_gw_k _ _ _ _ _ _ (by decide), e22, sg_gw_k _ _ _ _ _ _ (by decide), e19, sg_gw_e _ _ _ _ z]
  have c85 : sg_g σ37 88 85 = 0 := by rw [e37, sg_gw_k _ _ _ _ _ _ (by decide), e34, sg_gw_k _ _ _ _ _ _ (by decide), e31, sg_gw_k _ _ _ _ _ _ (by decide), e28, sg_gw_k _ _ _ _ _ _ (by decide), e25, sg_gw_k _ _ _ _ _ _ (by decide), e22, sg_gw_k _ _ _ _ _ _ (by decide), e19, sg_gw_k _ _ _ _ _ _ (by decide), e16, sg_gw_e _ _ _ _ z]
  have c84 : sg_g σ37 88 84 = 0 := by rw [e37, sg_gw_k _ _ _ _ _ _ (by decide), e34, sg_gw_k _ _ _ _ _ _ (by decide), e31, sg_gw_k _ _ _ _ _ _ (by decide), e28, sg_gw_k _ _ _ _ _ _ (by decide), e25, sg_gw_k _ _ _ _ _ _ (by decide), e22, sg_gw_k _ _ _ _ _ _ (by decide), e19, sg_gw_k _ _ _ _ _ _ (by decide), e16, sg_gw_k _ _ _ _ _ _ (by decide), e13, sg_gw_e _ _ _ _ z]
  have c82' : sg_g σ37 88 82 = sg_g σ 88 82 + 1 := by rw [e37, sg_gw_k _ _ _ _ _ _ (by decide), e34, sg_gw_k _ _ _ _ _ _ (by decide), e31, sg_gw_k _ _ _ _ _ _ (by decide), e28, sg_gw_k _ _ _ _ _ _ (by decide), e25, sg_gw_k _ _ _ _ _ _ (by decide), e22, sg_gw_k _ _ _ _ _ _ (by decide), e19, sg_gw_k _ _ _ _ _ _ (by decide), e16, sg_gw_k _ _ _ _ _ _ (by decide), e13, sg_gw_k _ _ _ _ _ _ (by decide), e10, sg_gw_k _ _ _ _ _ _ (by decide), e7, sg_gw_e _ _ _ _ ⟨by omega, by omega⟩]
  have N37 : fNw σ37 := ⟨⟨⟨by omega, by omega⟩, ⟨by omega, by omega⟩, ⟨by omega, by omega⟩, ⟨by omega, by omega, by omega⟩, by omega, by omega⟩, fun i a b => by omega, by omega, by omega, by omega⟩
  have hX37 : pgX σ37 A D T B := pgX_F F37 rfl hX
  have S37 : fSw σ37 σ37 0 0 0 (0, 0, 0) := ⟨sg_F_r _ _, c73, ⟨c62, c70, c99⟩, ⟨c84, c85, c86, ⟨by decide, by decide⟩, by decide, by decide⟩, N37⟩
  have hcb37 : ∀ y, sg_g σ37 116 y = c y := fun y => by rw [sg_F_ga F37 rfl]; exact hcb y
  obtain ⟨X, hXd⟩ : ∃ X : sg_S → Prop, X = fun σ' => sg_F flL σ37 σ' ∧ sg_g σ' 88 73 = fRe (fxA A D T B O r) ∧ fcX σ' (fRt (fxA A D T B O r)) ∧ (sg_g σ' 88 73 = 0 → (sg_g σ' 88 91 ≤ 60000 ∧ sg_g σ' 88 87 ≤ 30000) ∧ fLx σ' (T r).toNat 1 6000 (sg_g σ' 133 0)) := ⟨_, rfl⟩
  have hC := cFr_all (X := X) hX37 hlv hO hG hcb37 D.length
  have hc := fxC_ok hX37 hlv hO D.length
  have hcx := cXk_all hX37 hlv hO D.length
  rw [hr]
  refine gfN_all (X := X) hX37 hlv hO hG hcb37 hC hc 201 r L0 [] hst σ37 4000 1 (fun _ => []) 0 0 0 (0, 0, 0) S37 (by decide) (fun p hp => (by cases hp)) (by decide) ?_ _ (fun σ41 R41 f41 => ?_)
  · have pk := fx_ok hX37 hlv hO hc 201 r L0 [] hst 1 (fun _ => []) (0, 0, 0)
    have pe := fe_ok hX37 hlv hO hc hcx 201 r L0 [] hst 1 (fun _ => []) (0, 0, 0)
    have hXd' := hXd
    unfold fxA at hXd'
    generalize fxN A D T B O (fxC A D T B O D.length) 201 r 1 (fun _ => []) (0, 0, 0) = res at hXd' pk pe
    match res, hXd', pk, pe with
    | .inl (e, s'), hXd', _, _ =>
      intro σ' y1 y2 y3 y4
      rw [hXd']
      exact ⟨y1, y2, y4, fun w => absurd (y2.symm.trans w) y3⟩
    | .inr (v, s', ρ'), hXd', pk, pe =>
      intro σ' m' S' K' hv hm'
      obtain ⟨a1, a2, ⟨a3, a4, a5⟩, c', ⟨⟨i1, i2, i3, i4, i5⟩, -⟩⟩ := S'
      refine rf_e (by omega) ?_
      rw [hXd']
      refine ⟨a1, a2, c', fun _ => ⟨⟨by omega, by omega⟩, ?_⟩⟩
      obtain ⟨R, hR⟩ := hv
      obtain ⟨pl, -⟩ := pk v s' ρ' (fun p hp => (by cases hp)) rfl
      obtain ⟨px, -⟩ := pe v s' ρ' 0 (fun p hp => (by cases hp)) (by decide) rfl
      have c5 := c'.2.2.2.2.2
      refine ⟨R, hR.1, hR.2.1, ?_, ?_⟩
      · rw [fX_n hR, pl]; rfl
      · rw [eX_F hR]; omega
  · refine ⟨fun n σ46 => Rf X n σ46, X, ⟨4000, R41⟩, fun n σ46 f46 R46 => ?_, fun σ46 f46 hX46 σ59 e59 => ?_⟩
    · cases n with
      | zero => exact ⟨fun z => R46.1 z, fun z => ⟨fun w => R46.2.1 w, fun w => (R46.2.2 z w).elim⟩⟩
      | succ n => exact ⟨fun z => R46.1 z, fun z => ⟨fun w => R46.2.1 w, fun w => R46.2.2 z w _ (fun σ' hr' => ⟨n, Nat.lt_succ_self n, hr'⟩)⟩⟩
    · rw [hXd] at hX46
      obtain ⟨x1, x2, x3, x4⟩ := hX46
      have F46 : sg_F [119, 120, 121, 126, 127, 128, 133, 134, 135, 139, 140, 141, 142, 143, 144, 145, 146, 147, 148, 149, 150, 1088, 47088, 50088, 63088, 71088, 74088, 82088, 83088, 85088, 86088, 87088, 88088, 92088, 94088, 100088, 103088, 104088] σ σ46 := sg_F_t (sg_F_m F37 rfl) (sg_F_m x1 rfl)
      have f59 : sg_F [84088] σ46 σ59 := by rw [e59]; exact sg_F_w (sg_F_r _ _) rfl _
      have F59 : sg_F [119, 120, 121, 126, 127, 128, 133, 134, 135, 139, 140, 141, 142, 143, 144, 145, 146, 147, 148, 149, 150, 1088, 47088, 50088, 63088, 71088, 74088, 82088, 83088, 84088, 85088, 86088, 87088, 88088, 92088, 94088, 100088, 103088, 104088] σ σ59 := sg_F_t (sg_F_m F46 rfl) (sg_F_m f59 rfl)
      have c83 : sg_g σ59 88 83 = sg_g σ46 88 73 := by rw [e59, sg_gw_e _ _ _ _ (sg_Rg _ _ _)]
      have b82 : sg_g σ59 88 82 = sg_g σ 88 82 + 1 := by rw [sg_F_g f59 (by rfl), sg_F_g x1 (by rfl)]; exact c82'
      have fin : ∀ σ63, (0 ≤ sg_g σ63 88 77 ∧ sg_g σ63 88 77 ≤ 80000) → sg_F [136, 137, 138, 151, 78088, 79088] σ59 σ63 → Q (sg_g σ46 88 73) σ63 := fun σ63 h f => by
        rw [x2]
        exact k σ63 (sg_F_t (sg_F_m F59 rfl) (sg_F_m f rfl)) (by rw [sg_F_g f (by rfl)]; exact b82) h (by rw [sg_F_g f (by rfl), c83]; exact x2) (fcX_F f rfl (fcX_F f59 rfl x3))
      by_cases h0 : sg_g σ46 88 73 = 0
      · obtain ⟨⟨q1, q2⟩, hv⟩ := x4 h0
        have e27 : sg_g σ59 88 27 = r := by rw [sg_F_g F59 (by rfl)]; exact hr
        have g91 : sg_g σ59 88 91 = sg_g σ46 88 91 := sg_F_g f59 (by rfl)
        have g87 : sg_g σ59 88 87 = sg_g σ46 88 87 := sg_F_g f59 (by rfl)
        have w31 := w3.1
        have w32 := w3.2
        refine m_showF (K := (T r).toNat) (by rw [c83]; exact h0) (by rw [e27]; omega) ?_ (by omega) ⟨by omega, by omega⟩ ?_ (fun σ63 a b _ => fin σ63 a b)
        · rw [e27, sg_F_ga (a := 101) F59 rfl, eT]; omega
        · rw [sg_F_ga (a := 133) f59 rfl]
          exact fLx_up (fEx_F f59 rfl) (by omega) hv
      · exact m_showE (by rw [c83]; exact h0) (fun σ63 a b _ => fin σ63 a b)
end BOT
/-! LANES of the class stand for lists of values; what is told of the next value, exactly. -/
/-- value v stands for l, lanes of depth d -/
def yX (σ : sg_S) : Nat → Int → List vaF → Prop
  | 0, v, l => yRw σ v l.length ∧ ∀ i : Nat, i < l.length → sg_g σ 78 (sg_g σ 80 v + i) = (l.getD i (nmF 0)) []
  | d + 1, v, l => yRw σ v l.length ∧ (∀ i : Nat, i < l.length → sg_g σ 78 (sg_g σ 80 v + i) = (l.getD i (nmF 0)) [] ∧ 0 ≤ (l.getD i (nmF 0)) [] ∧ (l.getD i (nmF 0)) [] ≤ 200) ∧ yLo σ v l.length ∧ yX σ d (sg_g σ 82 v) (flF l)
theorem yX_c {σ : sg_S} : ∀ {d : Nat} {v : Int} {l : List vaF}, yX σ d v l → yRw σ v l.length ∧ ∀ i : Nat, i < l.length → sg_g σ 78 (sg_g σ 80 v + i) = (l.getD i (nmF 0)) []
  | 0, v, l, h => h
  | d + 1, v, l, h => ⟨h.1, fun i hi => (h.2.1 i hi).1⟩
theorem su_ah {g : Int → Int} {p : Int} {l : List vaF} (h : ∀ i : Nat, i < l.length → g (p + i) = (l.getD i (nmF 0)) [] ∧ 0 ≤ (l.getD i (nmF 0)) []) : ∀ i : Nat, i ≤ l.length → su g p i = (ahF l i : Int)
  | 0, _ => by rw [ahF_0]; rfl
  | i + 1, hi => by
    obtain ⟨a, b⟩ := h i (by omega)
    simp only [su]
    rw [su_ah h i (by omega), a, ahF_s (by omega : i < l.length), itF_l]
    omega
theorem yX_s {σ : sg_S} {d : Nat} {v : Int} {l : List vaF} (h : yX σ (d + 1) v l) (i : Nat) (hi : i ≤ l.length) : su (sg_g σ 78) (sg_g σ 80 v) i = (ahF l i : Int) := su_ah (fun i hi => ⟨(h.2.1 i hi).1, (h.2.1 i hi).2.1⟩) i hi
theorem yX_V {σ : sg_S} : ∀ {d : Nat} {v : Int} {l : List vaF}, yX σ d v l → yV σ d v l.length
  | 0, v, l, h => h.1
  | d + 1, v, l, h => by
    refine ⟨h.1, fun i hi => ?_, h.2.2.1, ?_⟩
    · obtain ⟨a, b, c⟩ := h.2.1 i (by omega)
      rw [a]; exact ⟨b, c⟩
    · rw [Int.toNat_natCast, yX_s h l.length (Nat.le_refl _), ahF_n]
      exact yX_V h.2.2.2
theorem yX_up {σ σ' : sg_S} (x : yEx σ σ') : ∀ {d : Nat} {v : Int} {l : List vaF}, yX σ d v l → yX σ' d v l
  | 0, v, l, h => by
    have r := h.1
    refine ⟨yRw_up x r, fun i hi => ?_⟩
    obtain ⟨a1, a2, a3, a4, a5⟩ := r
    rw [(x.2.1 v a1.1 a1.2).1, x.2.2.1 _ (by omega) (by omega)]
    exact h.2 i hi
  | d + 1, v, l, h => by
    have r := h.1
    refine ⟨yRw_up x r, fun i hi => ?_, x.2.2.2 v _ r h.2.2.1, ?_⟩
    · obtain ⟨a1, a2, a3, a4, a5⟩ := r
      rw [(x.2.1 v a1.1 a1.2).1, x.2.2.1 _ (by omega) (by omega)]
      exact h.2.1 i hi
    · rw [(x.2.1 v r.1.1 r.1.2).2.2]
      exact yX_up x h.2.2.2
/-- cells, starts, ends of a lane -/
theorem yX_cell {σ : sg_S} (g : yG σ) {d : Nat} {v : Int} {l : List vaF} (h : yX σ d v l) {i : Nat} (hi : i < l.length) : v_lCell σ v i = (l.getD i (nmF 0)) [] ∧ p_lCell σ v i := by
  obtain ⟨r, c⟩ := yX_c h
  obtain ⟨a, b⟩ := y_cell g r (l := (i : Int)) ⟨by omega, by omega⟩
  exact ⟨by rw [a]; exact c i hi, b⟩
theorem yX_st {σ : sg_S} (g : yG σ) {d : Nat} {v : Int} {l : List vaF} (h : yX σ (d + 1) v l) {i : Nat} (hi : i < l.length) : v_lStart σ v i = (ahF l i : Int) ∧ p_lStart σ v i ∧ v_lEnd σ v i = (ahF l (i + 1) : Int) := by
  obtain ⟨a, b⟩ := y_start g h.1 (l := (i : Int)) ⟨by omega, by omega⟩
  have s : v_lStart σ v i = (ahF l i : Int) := by
    rw [a, h.2.2.1 i (by omega)]
    exact yX_s h i (by omega)
  refine ⟨s, b, ?_⟩
  show v_lStart σ v i + v_lCell σ v i = _
  rw [s, (yX_cell g h hi).1, ahF_s hi, itF_l]
  have := (h.2.1 i hi).2.1
  omega
/-- what was told: firsts, seconds, picks, a FINDING -/
def tlX (σ : sg_S) (F S : List Int) (P : List (Int × Int × Int)) (e : Int) : Prop := (sg_g σ 77 11 = F.length ∧ sg_g σ 77 12 = S.length ∧ sg_g σ 77 13 = P.length ∧ sg_g σ 77 14 = e) ∧ (sg_g σ 77 15 = if F.length ≤ 6000 ∧ S.length ≤ 6000 ∧ P.length ≤ 6000 then 0 else 1) ∧ (∀ (i : Nat) (x : Int), F[i]? = some x → i < 6000 → sg_g σ 83 i = x) ∧ (∀ (i : Nat) (x : Int), S[i]? = some x → i < 6000 → sg_g σ 84 i = x) ∧ ∀ (i : Nat) (x : Int × Int × Int), P[i]? = some x → i < 6000 → sg_g σ 85 i = x.1 ∧ sg_g σ 86 i = x.2.1 ∧ sg_g σ 87 i = x.2.2
theorem tlX_0 {σ : sg_S} (h : y0 σ) : tlX σ [] [] [] 0 := by
  obtain ⟨h1, h2, h3, h4, h5⟩ := h
  exact ⟨⟨h1, h2, h3, h4⟩, by rw [h5]; rfl, fun i x hx => by simp at hx, fun i x hx => by simp at hx, fun i x hx => by simp at hx⟩
theorem tlX_F {L : List Nat} {σ σ' : sg_S} {F S : List Int} {P : List (Int × Int × Int)} {e : Int} (h : tlX σ F S P e) (f : sg_F L σ σ') (hL : (!sg_cv L 77 11 && !sg_cv L 77 12 && !sg_cv L 77 13 && !sg_cv L 77 14 && !sg_cv L 77 15 && sg_ca L 83 && sg_ca L 84 && sg_ca L 85 && sg_ca L 86 && sg_ca L 87) = true) : tlX σ' F S P e := by
  simp only [Bool.and_eq_true, Bool.not_eq_true'] at hL
  obtain ⟨⟨⟨⟨⟨⟨⟨⟨⟨l1, l2⟩, l3⟩, l4⟩, l5⟩, l6⟩, l7⟩, l8⟩, l9⟩, l10⟩ := hL
  obtain ⟨⟨a1, a2, a3, a4⟩, a5, a6, a7, a8⟩ := h
  refine ⟨⟨by rw [sg_F_g f l1]; exact a1, by rw [sg_F_g f l2]; exact a2, by rw [sg_F_g f l3]; exact a3, by rw [sg_F_g f l4]; exact a4⟩, by rw [sg_F_g f l5]; exact a5, fun i x hx hi => by rw [sg_F_ga f l6]; exact a6 i x hx hi, fun i x hx hi => by rw [sg_F_ga f l7]; exact a7 i x hx hi, fun i x hx hi => ?_⟩
  rw [sg_F_ga f l8, sg_F_ga f l9, sg_F_ga f l10]
  exact a8 i x hx hi
theorem xp_out {σ : sg_S} {a : Nat} {n k v : Int} (h : ¬ (0 ≤ k ∧ k < n)) : sx_put σ a n k v = σ := by unfold sx_put; rw [if_neg h]
/-- a put at the end of a list -/
theorem put_l {σ σ' : sg_S} {a : Nat} {F : List Int} {x : Int} (hx : sg_R x) (e : σ' = sx_put σ a 6000 (F.length : Int) x) (h : ∀ (i : Nat) (y : Int), F[i]? = some y → i < 6000 → sg_g σ a i = y) (i : Nat) (y : Int) (hy : (F ++ [x])[i]? = some y) (hi : i < 6000) : sg_g σ' a i = y := by
  rcases Nat.lt_or_ge i F.length with q | q
  · rw [List.getElem?_append_left q] at hy
    have := h i y hy hi
    rw [e]
    by_cases c : (F.length : Int) < 6000
    · rw [xp_in ⟨by omega, c⟩, sg_gw_k _ _ _ _ _ _ (by omega)]; exact this
    · rw [xp_out (by omega)]; exact this
  · rw [List.getElem?_append_right q] at hy
    have ei : i = F.length := by
      rcases Nat.eq_zero_or_pos (i - F.length) with z | z
      · omega
      · rw [List.getElem?_eq_none (by simp; omega)] at hy; cases hy
    rw [ei, Nat.sub_self] at hy
    cases hy
    rw [e, ei, xp_in ⟨by omega, by omega⟩, sg_gw_e _ _ _ _ hx]
section CAS
variable {σ : sg_S} {F S : List Int} {P : List (Int × Int × Int)} {e x : Int} {Q : sg_S → Prop}
theorem x_miss (h : tlX σ F S P e) (hx : sg_R x) (k : ∀ σ', tlX σ' F S P (if e = 0 then x else e) → sg_F [15077] σ σ' → Q σ') : V_lMiss σ x Q := by
  obtain ⟨⟨a1, a2, a3, a4⟩, a5⟩ := id h
  unfold V_lMiss
  rw [a4]
  refine ⟨fun z => k σ (by rw [if_neg z]; exact h) (sg_F_r _ _), fun z σ2 e2 => ?_⟩
  have f : sg_F [15077] σ σ2 := by rw [e2]; exact sg_F_w (sg_F_r _ _) rfl _
  refine k σ2 ?_ f
  rw [if_pos z]
  refine ⟨⟨by rw [sg_F_g f (by rfl)]; exact a1, by rw [sg_F_g f (by rfl)]; exact a2, by rw [sg_F_g f (by rfl)]; exact a3, by rw [e2, sg_gw_e _ _ _ _ hx]⟩, by rw [sg_F_g f (by rfl)]; exact a5.1, fun i y hy hi => by rw [sg_F_ga f rfl]; exact a5.2.1 i y hy hi, fun i y hy hi => by rw [sg_F_ga f rfl]; exact a5.2.2.1 i y hy hi, fun i y hy hi => ?_⟩
  rw [sg_F_ga f rfl, sg_F_ga f rfl, sg_F_ga f rfl]
  exact a5.2.2.2 i y hy hi
theorem x_first (h : tlX σ F S P e) (hb : F.length ≤ 1000000000) (hx : sg_R x) (k : ∀ σ', tlX σ' (F ++ [x]) S P e → sg_F [83, 12077, 16077] σ σ' → Q σ') : V_lFirst σ x Q := by
  obtain ⟨⟨a1, a2, a3, a4⟩, a5, a6, a7, a8⟩ := id h
  unfold V_lFirst
  rw [a1]
  refine ⟨⟨fun _ => trivial, fun _ => ⟨fun _ => trivial, fun _ => trivial⟩⟩, fun v3 e3 r3 σ6 e6 σ9 e9 => ⟨⟨by omega, by omega⟩, fun σ13 e13 => ?_⟩⟩
  have f9 : sg_F [83, 12077, 16077] σ σ9 := by rw [e9, e6]; exact xF_p (sg_F_w (sg_F_r _ _) rfl _) rfl _ _ _
  have f13 : sg_F [83, 12077, 16077] σ σ13 := by rw [e13]; exact sg_F_w f9 rfl _
  have p9 : sg_F [83] σ6 σ9 := by rw [e9]; exact xF_p (sg_F_r _ _) rfl _ _ _
  have g15 : sg_g σ13 77 15 = v3 := by rw [e13, sg_gw_k _ _ _ _ _ _ (by decide), sg_F_g p9 (by rfl), e6, sg_gw_e _ _ _ _ r3]
  refine k σ13 ⟨⟨?_, by rw [sg_F_g f13 (by rfl)]; exact a2, by rw [sg_F_g f13 (by rfl)]; exact a3, by rw [sg_F_g f13 (by rfl)]; exact a4⟩, ?_, fun i y hy hi => ?_, fun i y hy hi => by rw [sg_F_ga f13 rfl]; exact a7 i y hy hi, fun i y hy hi => ?_⟩ f13
  · rw [e13, sg_gw_e _ _ _ _ ⟨by omega, by omega⟩, List.length_append, List.length_cons, List.length_nil]; omega
  · rw [g15, e3, a5, List.length_append, List.length_cons, List.length_nil]
    by_cases c : F.length ≤ 6000 ∧ S.length ≤ 6000 ∧ P.length ≤ 6000
    · rw [if_pos c, if_neg (fun z => z rfl)]
      by_cases c2 : (F.length : Int) < 6000
      · rw [if_pos c2, if_pos (by omega)]
      · rw [if_neg c2, if_neg (by omega)]
    · rw [if_neg c, if_pos (by decide), if_neg (by omega)]
  · rw [e13, sg_gw_c _ _ _ _ _ _ (by decide)]
    exact put_l hx e9 (fun i y hy hi => by rw [e6, sg_gw_c _ _ _ _ _ _ (by decide)]; exact a6 i y hy hi) i y hy hi
  · rw [sg_F_ga f13 rfl, sg_F_ga f13 rfl, sg_F_ga f13 rfl]
    exact a8 i y hy hi
theorem x_second (h : tlX σ F S P e) (hb : S.length ≤ 1000000000) (hx : sg_R x) (k : ∀ σ', tlX σ' F (S ++ [x]) P e → sg_F [84, 13077, 16077] σ σ' → Q σ') : V_lSecond σ x Q := by
  obtain ⟨⟨a1, a2, a3, a4⟩, a5, a6, a7, a8⟩ := id h
  unfold V_lSecond
  rw [a2]
  refine ⟨⟨fun _ => trivial, fun _ => ⟨fun _ => trivial, fun _ => trivial⟩⟩, fun v3 e3 r3 σ6 e6 σ9 e9 => ⟨⟨by omega, by omega⟩, fun σ13 e13 => ?_⟩⟩
  have f9 : sg_F [84, 13077, 16077] σ σ9 := by rw [e9, e6]; exact xF_p (sg_F_w (sg_F_r _ _) rfl _) rfl _ _ _
  have f13 : sg_F [84, 13077, 16077] σ σ13 := by rw [e13]; exact sg_F_w f9 rfl _
  have p9 : sg_F [84] σ6 σ9 := by rw [e9]; exact xF_p (sg_F_r _ _) rfl _ _ _
  have g15 : sg_g σ13 77 15 = v3 := by rw [e13, sg_gw_k _ _ _ _ _ _ (by decide), sg_F_g p9 (by rfl), e6, sg_gw_e _ _ _ _ r3]
  refine k σ13 ⟨⟨by rw [sg_F_g f13 (by rfl)]; exact a1, ?_, by rw [sg_F_g f13 (by rfl)]; exact a3, by rw [sg_F_g f13 (by rfl)]; exact a4⟩, ?_, fun i y hy hi => by rw [sg_F_ga f13 rfl]; exact a6 i y hy hi, fun i y hy hi => ?_, fun i y hy hi => ?_⟩ f13
  · rw [e13, sg_gw_e _ _ _ _ ⟨by omega, by omega⟩, List.length_append, List.length_cons, List.length_nil]; omega
  · rw [g15, e3, a5, List.length_append, List.length_cons, List.length_nil]
    by_cases c : F.length ≤ 6000 ∧ S.length ≤ 6000 ∧ P.length ≤ 6000
    · rw [if_pos c, if_neg (fun z => z rfl)]
      by_cases c2 : (S.length : Int) < 6000
      · rw [if_pos c2, if_pos (by omega)]
      · rw [if_neg c2, if_neg (by omega)]
    · rw [if_neg c, if_pos (by decide), if_neg (by omega)]
  · rw [e13, sg_gw_c _ _ _ _ _ _ (by decide)]
    exact put_l hx e9 (fun i y hy hi => by rw [e6, sg_gw_c _ _ _ _ _ _ (by decide)]; exact a7 i y hy hi) i y hy hi
  · rw [sg_F_ga f13 rfl, sg_F_ga f13 rfl, sg_F_ga f13 rfl]
    exact a8 i y hy hi
theorem x_pick {lo hi : Int} (h : tlX σ F S P e) (hb : P.length ≤ 1000000000) (hx : sg_R x) (hlo : sg_R lo) (hhi : sg_R hi) (k : ∀ σ', tlX σ' F S (if lo < hi then P ++ [(x, lo, hi)] else P) e → sg_F [85, 86, 87, 14077, 16077] σ σ' → Q σ') : V_lPick σ x lo hi Q := by
  obtain ⟨⟨a1, a2, a3, a4⟩, a5, a6, a7, a8⟩ := id h
  unfold V_lPick
  rw [a3]
  refine ⟨fun lt => ⟨⟨fun _ => trivial, fun _ => ⟨fun _ => trivial, fun _ => trivial⟩⟩, fun v4 e4 r4 σ7 e7 σ10 e10 σ13 e13 σ16 e16 => ⟨⟨by omega, by omega⟩, fun σ20 e20 => ?_⟩⟩, fun le => k σ (by rw [if_neg (by omega)]; exact h) (sg_F_r _ _)⟩
  have f16 : sg_F [85, 86, 87, 14077, 16077] σ σ16 := by rw [e16, e13, e10, e7]; exact xF_p (xF_p (xF_p (sg_F_w (sg_F_r _ _) rfl _) rfl _ _ _) rfl _ _ _) rfl _ _ _
  have f20 : sg_F [85, 86, 87, 14077, 16077] σ σ20 := by rw [e20]; exact sg_F_w f16 rfl _
  have f7 : sg_F [85, 86, 87] σ7 σ16 := by rw [e16, e13, e10]; exact xF_p (xF_p (xF_p (sg_F_r _ _) rfl _ _ _) rfl _ _ _) rfl _ _ _
  have g15 : sg_g σ20 77 15 = v4 := by rw [e20, sg_gw_k _ _ _ _ _ _ (by decide), sg_F_g f7 (by rfl), e7, sg_gw_e _ _ _ _ r4]
  rw [if_pos lt] at k
  have p10 : sg_F [85] σ7 σ10 := by rw [e10]; exact xF_p (sg_F_r _ _) rfl _ _ _
  have p13 : sg_F [86] σ10 σ13 := by rw [e13]; exact xF_p (sg_F_r _ _) rfl _ _ _
  have p16 : sg_F [87] σ13 σ16 := by rw [e16]; exact xF_p (sg_F_r _ _) rfl _ _ _
  have c7 : ∀ (a : Nat) (i : Int), a < 88 → ¬ a = 77 → sg_g σ7 a i = sg_g σ a i := fun a i _ ha => by rw [e7, sg_gw_c _ _ _ _ _ _ ha]
  refine k σ20 ⟨⟨by rw [sg_F_g f20 (by rfl)]; exact a1, by rw [sg_F_g f20 (by rfl)]; exact a2, ?_, by rw [sg_F_g f20 (by rfl)]; exact a4⟩, ?_, fun i y hy hi => by rw [sg_F_ga f20 rfl]; exact a6 i y hy hi, fun i y hy hi => by rw [sg_F_ga f20 rfl]; exact a7 i y hy hi, fun i y hy hi6 => ?_⟩ f20
  · rw [e20, sg_gw_e _ _ _ _ ⟨by omega, by omega⟩, List.length_append, List.length_cons, List.length_nil]; omega
  · rw [g15, e4, a5, List.length_append, List.length_cons, List.length_nil]
    by_cases c : F.length ≤ 6000 ∧ S.length ≤ 6000 ∧ P.length ≤ 6000
    · rw [if_pos c, if_neg (fun z => z rfl)]
      by_cases c2 : (P.length : Int) < 6000
      · rw [if_pos c2, if_pos (by omega)]
      · rw [if_neg c2, if_neg (by omega)]
    · rw [if_neg c, if_pos (by decide), if_neg (by omega)]
  · have pl : ∀ (σ1 σ2 : sg_S) (a : Nat) (w : Int) (pr : Int × Int × Int → Int), sg_R w → pr (x, lo, hi) = w → σ2 = sx_put σ1 a 6000 (P.length : Int) w → (∀ (i : Nat) (y : Int × Int × Int), P[i]? = some y → i < 6000 → sg_g σ1 a i = pr y) → sg_g σ2 a i = pr y := fun σ1 σ2 a w pr hw epr e2 h1 => by
      refine put_l (F := P.map pr) hw (by rw [List.length_map]; exact e2) (fun i' y' hy' hi' => ?_) i (pr y) ?_ hi6
      · rw [List.getElem?_map] at hy'
        cases q : P[i']? with
        | none => rw [q] at hy'; cases hy'
        | some u =>
          rw [q] at hy'
          cases hy'
          exact h1 i' u q hi'
      · rw [← epr, show (P.map pr ++ [pr (x, lo, hi)]) = (P ++ [(x, lo, hi)]).map pr by rw [List.map_append]; rfl, List.getElem?_map, hy]; rfl
    refine ⟨?_, ?_, ?_⟩
    · rw [e20, sg_gw_c _ _ _ _ _ _ (by decide), sg_F_ga p16 rfl, sg_F_ga p13 rfl]
      exact pl σ7 σ10 85 x (fun y => y.1) hx rfl e10 (fun i y hy hi => by rw [c7 85 i (by decide) (by decide)]; exact (a8 i y hy hi).1)
    · rw [e20, sg_gw_c _ _ _ _ _ _ (by decide), sg_F_ga p16 rfl]
      exact pl σ10 σ13 86 lo (fun y => y.2.1) hlo rfl e13 (fun i y hy hi => by rw [sg_F_ga p10 rfl, c7 86 i (by decide) (by decide)]; exact (a8 i y hy hi).2.1)
    · rw [e20, sg_gw_c _ _ _ _ _ _ (by decide)]
      exact pl σ13 σ16 87 hi (fun y => y.2.2) hhi rfl e16 (fun i y hy hi => by rw [sg_F_ga p13 rfl, sg_F_ga p10 rfl, c7 87 i (by decide) (by decide)]; exact (a8 i y hy hi).2.2)
end CAS
/-! store, copy, copyPicks of the class, exactly. -/
/-- xs is stored; or there is no room for it -/
def stX (σ σ' : sg_S) (xs : List Int) : Prop := (sg_g σ 77 16 ≤ sg_g σ' 77 16 ∧ sg_g σ' 77 16 ≤ 6000 ∧ sg_g σ' 77 16 ≤ sg_g σ 77 16 + xs.length) ∧ (∀ q, q < sg_g σ 77 16 → sg_g σ' 78 q = sg_g σ 78 q) ∧ (sg_g σ' 77 15 = if sg_g σ 77 16 + xs.length ≤ 6000 then 0 else 1) ∧ (sg_g σ 77 16 + xs.length ≤ 6000 → sg_g σ' 77 16 = sg_g σ 77 16 + xs.length) ∧ ∀ (i : Nat) (x : Int), xs[i]? = some x → sg_g σ 77 16 + i < sg_g σ' 77 16 → sg_g σ' 78 (sg_g σ 77 16 + i) = x
theorem stX_0 {σ : sg_S} (hu : sg_g σ 77 16 ≤ 6000) (ho : sg_g σ 77 15 = 0) : stX σ σ [] := by
  refine ⟨⟨Int.le_refl _, hu, by simp⟩, fun _ _ => rfl, ?_, fun _ => by simp, fun i x hx => by simp at hx⟩
  rw [if_pos (by simp; exact hu)]; exact ho
theorem stX_t {σ σ1 σ2 : sg_S} {xs ys : List Int} (a : stX σ σ1 xs) (h0 : sg_g σ1 77 15 = 0) (b : stX σ1 σ2 ys) : stX σ σ2 (xs ++ ys) := by
  obtain ⟨a1, a2, a3, a4, a6⟩ := a
  obtain ⟨b1, b2, b3, b4, b6⟩ := b
  have fit : sg_g σ 77 16 + xs.length ≤ 6000 := by
    refine Decidable.byContradiction (fun c => ?_)
    rw [if_neg c] at a3
    omega
  have a5 := a4 fit
  rw [a5] at b3 b4 b2 b1 b6
  refine ⟨⟨by omega, b1.2.1, by rw [List.length_append]; omega⟩, fun q hq => by rw [b2 q (by omega), a2 q hq], ?_, fun c => ?_, fun i x hx hi => ?_⟩
  · rw [b3, List.length_append]
    by_cases c : sg_g σ 77 16 + xs.length + ys.length ≤ 6000
    · rw [if_pos c, if_pos (by omega)]
    · rw [if_neg c, if_neg (by omega)]
  · rw [List.length_append] at c ⊢
    have b5 := b4 (by omega)
    rw [b5]; omega
  · rcases Nat.lt_or_ge i xs.length with q | q
    · rw [List.getElem?_append_left q] at hx
      rw [b2 _ (by omega)]
      exact a6 i x hx (by omega)
    · rw [List.getElem?_append_right q] at hx
      have := b6 (i - xs.length) x hx (by omega)
      rw [show sg_g σ 77 16 + (xs.length : Int) + ((i - xs.length : Nat) : Int) = sg_g σ 77 16 + i by omega] at this
      exact this
/-- once there is no room, there is none for more -/
theorem stX_o {σ σ1 : sg_S} {xs : List Int} (a : stX σ σ1 xs) (h1 : ¬ sg_g σ1 77 15 = 0) (ys : List Int) : stX σ σ1 (xs ++ ys) := by
  obtain ⟨a1, a2, a3, a4, a5⟩ := a
  have nf : ¬ sg_g σ 77 16 + xs.length ≤ 6000 := fun c => by rw [if_pos c] at a3; exact h1 a3
  have nf2 : ¬ sg_g σ 77 16 + ((xs ++ ys).length : Int) ≤ 6000 := by rw [List.length_append]; omega
  refine ⟨⟨a1.1, a1.2.1, by rw [List.length_append]; omega⟩, a2, ?_, fun c => absurd c nf2, fun i x hx hi => ?_⟩
  · rw [if_neg nf2, a3, if_neg nf]
  · rw [List.getElem?_append_left (by omega)] at hx
    exact a5 i x hx hi
theorem stX_F {L : List Nat} {σ σ1 σ2 : sg_S} {xs : List Int} (a : stX σ σ1 xs) (f : sg_F L σ1 σ2) (hL : (!sg_cv L 77 15 && !sg_cv L 77 16 && sg_ca L 78) = true) : stX σ σ2 xs := by
  simp only [Bool.and_eq_true, Bool.not_eq_true'] at hL
  obtain ⟨⟨l1, l2⟩, l3⟩ := hL
  obtain ⟨a1, a2, a3, a4, a5⟩ := a
  exact ⟨by rw [sg_F_g f l2]; exact a1, fun q hq => by rw [sg_F_ga f l3]; exact a2 q hq, by rw [sg_F_g f l1]; exact a3, fun c => by rw [sg_F_g f l2]; exact a4 c, fun i x hx hi => by rw [sg_F_g f l2] at hi; rw [sg_F_ga f l3]; exact a5 i x hx hi⟩
theorem stX_ex {L : List Nat} {σ σ1 : sg_S} {xs : List Int} (a : stX σ σ1 xs) (f : sg_F L σ σ1) (hL : (!sg_cv L 77 10 && sg_ca L 79 && sg_ca L 80 && sg_ca L 81 && sg_ca L 82) = true) : yEx σ σ1 := by
  simp only [Bool.and_eq_true, Bool.not_eq_true'] at hL
  obtain ⟨⟨⟨⟨l1, l4⟩, l5⟩, l6⟩, l7⟩ := hL
  refine ⟨⟨by rw [sg_F_g f l1]; exact Int.le_refl _, a.1.1⟩, fun v _ _ => ⟨sg_F_ga f l5, sg_F_ga f l6, sg_F_ga f l7⟩, fun x _ hx => a.2.1 x hx, fun v n w b i hi => ?_⟩
  rw [sg_F_ga f l5, sg_F_ga f l4, b i hi]
  have w5 := w.2.2.2.2
  exact (su_sh (fun j hj => a.2.1 _ (by omega))).symm
theorem stX_g {L : List Nat} {σ σ1 : sg_S} {xs : List Int} (g : yG σ) (a : stX σ σ1 xs) (f : sg_F L σ σ1) (hL : (!sg_cv L 77 10 && sg_ca L 80 && sg_ca L 81) = true) : yG σ1 := by
  simp only [Bool.and_eq_true, Bool.not_eq_true'] at hL
  obtain ⟨⟨l1, l5⟩, l6⟩ := hL
  have g2 := g.2.1
  have a1 := a.1
  refine ⟨by rw [sg_F_g f l1]; exact g.1, ⟨by omega, a.1.2.1⟩, fun v x y => ?_, fun v v' x y x' y' => ?_⟩
  · rw [sg_F_g f l1] at y
    have := g.2.2.1 v x y
    rw [sg_F_ga f l5, sg_F_ga f l6]; omega
  · rw [sg_F_g f l1] at y y'
    rw [sg_F_ga (a := 80) f l5, sg_F_ga (a := 81) f l6, sg_F_ga (a := 80) f l5, sg_F_ga (a := 81) f l6]
    exact g.2.2.2 v v' x y x' y'
section CBS
variable {σ : sg_S} {Q : sg_S → Prop}
theorem x_store {x : Int} (hu : 0 ≤ sg_g σ 77 16 ∧ sg_g σ 77 16 ≤ 6000) (ho : sg_g σ 77 15 = 0) (hx : sg_R x) (k : ∀ σ', sg_F [78, 16077, 17077] σ σ' → stX σ σ' [x] → Q σ') : V_lStore σ x Q := by
  unfold V_lStore
  refine ⟨fun z => by omega, fun _ => ⟨fun z σ6 e6 => ?_, fun z => ⟨⟨by omega, by omega⟩, fun σ10 e10 => ⟨⟨by omega, by omega⟩, fun σ14 e14 => ?_⟩⟩⟩⟩
  · have f : sg_F [78, 16077, 17077] σ σ6 := by rw [e6]; exact sg_F_w (sg_F_r _ _) rfl _
    have g16 : sg_g σ6 77 16 = sg_g σ 77 16 := by rw [e6, sg_gw_k _ _ _ _ _ _ (by decide)]
    refine k σ6 f ⟨⟨by omega, by omega, by simp; omega⟩, fun q _ => by rw [e6, sg_gw_c _ _ _ _ _ _ (by decide)], ?_, fun c => ?_, fun i y hy hi => by omega⟩
    · rw [if_neg (by simp; omega), e6, sg_gw_e _ _ _ _ (by decide)]
    · simp at c; omega
  · have f : sg_F [78, 16077, 17077] σ σ14 := by rw [e14, e10]; exact sg_F_w (sg_F_w (sg_F_r _ _) rfl _) rfl _
    have g16 : sg_g σ14 77 16 = sg_g σ 77 16 + 1 := by rw [e14, sg_gw_e _ _ _ _ ⟨by omega, by omega⟩]
    refine k σ14 f ⟨⟨by omega, by omega, by simp; omega⟩, fun q hq => by rw [e14, sg_gw_c _ _ _ _ _ _ (by decide), e10, sg_gw_k _ _ _ _ _ _ (by omega)], ?_, fun c => by rw [g16]; rfl, fun i y hy _ => ?_⟩
    · rw [if_pos (by simp; omega), e14, sg_gw_k _ _ _ _ _ _ (by decide), e10, sg_gw_c _ _ _ _ _ _ (by decide)]; exact ho
    · have hi := gE_l hy
      simp only [List.length_cons, List.length_nil] at hi
      have ei : i = 0 := by omega
      subst ei
      cases hy
      rw [e14, sg_gw_c _ _ _ _ _ _ (by decide), e10, show sg_g σ 77 16 + ((0 : Nat) : Int) = sg_g σ 77 16 by omega, sg_gw_e _ _ _ _ hx]
theorem tkA {α : Type} {F : List α} {j : Nat} {x : α} (h : F[j]? = some x) : F.take (j + 1) = F.take j ++ [x] := by
  rw [List.take_add_one, h]; rfl
theorem x_copy83 {a : Int} {F : List Int} (hu : 0 ≤ sg_g σ 77 16 ∧ sg_g σ 77 16 ≤ 6000) (ho : sg_g σ 77 15 = 0) (ha : a = F.length) (h6 : F.length ≤ 6000) (hF : ∀ (i : Nat) (x : Int), F[i]? = some x → sg_g σ 83 i = x) (k : ∀ σ', sg_F [78, 16077, 17077] σ σ' → stX σ σ' F → Q σ') : V_lCopy83 σ a Q := by
  unfold V_lCopy83
  rw [ha]
  refine ⟨fun m v σ2 => ∃ j : Nat, v = j ∧ j ≤ F.length ∧ m = F.length - j ∧ stX σ σ2 (F.take j), fun σ2 => stX σ σ2 F, ⟨_, 0, rfl, Nat.zero_le _, rfl, by rw [List.take_zero]; exact stX_0 hu.2 ho⟩, ?_, fun σ2 f2 h2 => k σ2 f2 h2⟩
  rintro m v σ2 rv f2 ⟨j, rfl, hj, hm, hs⟩
  refine ⟨fun z => by rw [List.take_of_length_le (by omega)] at hs; exact hs, fun z => ⟨fun y => ?_, fun y => ?_⟩⟩
  · have := stX_o hs y (F.drop j)
    rwa [List.take_append_drop] at this
  · obtain ⟨x, hx⟩ : ∃ x, F[j]? = some x := ⟨_, List.getElem?_eq_getElem (by omega)⟩
    rw [xa_in ⟨by omega, by omega⟩, hF j x hx]
    refine x_store ⟨by have := hs.1; omega, hs.1.2.1⟩ y (by rw [← hF j x hx]; exact sg_Rg _ _ _) (fun σ' f' s' _ => ⟨⟨by omega, by omega⟩, F.length - (j + 1), by omega, j + 1, by omega, by omega, rfl, by rw [tkA hx]; exact stX_t hs y s'⟩)
theorem x_copy84 {a : Int} {F : List Int} (hu : 0 ≤ sg_g σ 77 16 ∧ sg_g σ 77 16 ≤ 6000) (ho : sg_g σ 77 15 = 0) (ha : a = F.length) (h6 : F.length ≤ 6000) (hF : ∀ (i : Nat) (x : Int), F[i]? = some x → sg_g σ 84 i = x) (k : ∀ σ', sg_F [78, 16077, 17077] σ σ' → stX σ σ' F → Q σ') : V_lCopy84 σ a Q := by
  unfold V_lCopy84
  rw [ha]
  refine ⟨fun m v σ2 => ∃ j : Nat, v = j ∧ j ≤ F.length ∧ m = F.length - j ∧ stX σ σ2 (F.take j), fun σ2 => stX σ σ2 F, ⟨_, 0, rfl, Nat.zero_le _, rfl, by rw [List.take_zero]; exact stX_0 hu.2 ho⟩, ?_, fun σ2 f2 h2 => k σ2 f2 h2⟩
  rintro m v σ2 rv f2 ⟨j, rfl, hj, hm, hs⟩
  refine ⟨fun z => by rw [List.take_of_length_le (by omega)] at hs; exact hs, fun z => ⟨fun y => ?_, fun y => ?_⟩⟩
  · have := stX_o hs y (F.drop j)
    rwa [List.take_append_drop] at this
  · obtain ⟨x, hx⟩ : ∃ x, F[j]? = some x := ⟨_, List.getElem?_eq_getElem (by omega)⟩
    rw [xa_in ⟨by omega, by omega⟩, hF j x hx]
    refine x_store ⟨by have := hs.1; omega, hs.1.2.1⟩ y (by rw [← hF j x hx]; exact sg_Rg _ _ _) (fun σ' f' s' _ => ⟨⟨by omega, by omega⟩, F.length - (j + 1), by omega, j + 1, by omega, by omega, rfl, by rw [tkA hx]; exact stX_t hs y s'⟩)
end CBS
/-- lanes lo .. hi of value v, of depth d: q; of -1: a lane at fault -/
def pkX (σ : sg_S) (d : Nat) (v lo hi : Int) (q : List vaF) : Prop := (v = -1 ∧ lo = 0 ∧ ((hi = 1 ∧ q = [nmF 0]) ∨ (hi = 0 ∧ q = []))) ∨ ∃ l, yX σ d v l ∧ 0 ≤ lo ∧ lo ≤ hi ∧ hi ≤ l.length ∧ q = (l.drop lo.toNat).take (hi - lo).toNat
theorem pkX_up {σ σ' : sg_S} (x : yEx σ σ') {d : Nat} {v lo hi : Int} {q : List vaF} (h : pkX σ d v lo hi q) : pkX σ' d v lo hi q := by
  rcases h with h | ⟨l, h1, h2⟩
  · exact Or.inl h
  · exact Or.inr ⟨l, yX_up x h1, h2⟩
theorem pkX_l {σ : sg_S} {d : Nat} {v lo hi : Int} {q : List vaF} (h : pkX σ d v lo hi q) : 0 ≤ lo ∧ lo ≤ hi ∧ (q.length : Int) = hi - lo := by
  rcases h with ⟨-, e1, ⟨e2, e3⟩ | ⟨e2, e3⟩⟩ | ⟨l, h1, h2, h3, h4, e⟩
  · rw [e1, e2, e3]; exact ⟨by decide, by decide, rfl⟩
  · rw [e1, e2, e3]; exact ⟨by decide, by decide, rfl⟩
  · rw [e, List.length_take, List.length_drop]
    exact ⟨h2, h3, by omega⟩
theorem pkX_g {σ : sg_S} {d : Nat} {v lo hi : Int} {q : List vaF} (h : pkX σ d v lo hi q) : pkg σ d v lo hi := by
  have b := pkX_l h
  refine ⟨⟨b.1, b.2.1⟩, ?_⟩
  rcases h with ⟨e0, e1, ⟨e2, e3⟩ | ⟨e2, e3⟩⟩ | ⟨l, h1, h2, h3, h4, e⟩
  · exact Or.inl ⟨e0, by omega⟩
  · exact Or.inl ⟨e0, by omega⟩
  · exact Or.inr ⟨l.length, yX_V h1, h4⟩
theorem pkX_c {σ : sg_S} (g : yG σ) {d : Nat} {v lo hi : Int} {q : List vaF} (h : pkX σ d v lo hi q) {i : Nat} (hi' : i < q.length) : v_lCell σ v (lo + i) = (q.getD i (nmF 0)) [] := by
  have b := pkX_l h
  rcases h with ⟨e0, e1, ⟨e2, e3⟩ | ⟨e2, e3⟩⟩ | ⟨l, h1, h2, h3, h4, e⟩
  · rw [(y_cellN (σ := σ) (v := v) (l := lo + i) (by omega)).1, e3]
    rw [e3] at hi'
    simp only [List.length_cons, List.length_nil] at hi'
    rw [show i = 0 by omega]; rfl
  · rw [e3] at hi'; simp at hi'
  · have hl : lo.toNat + i < l.length := by omega
    have c := (yX_cell g h1 hl).1
    rw [show (((lo.toNat + i : Nat)) : Int) = lo + i by omega] at c
    rw [c, e, List.getD_eq_getElem?_getD, List.getD_eq_getElem?_getD, List.getElem?_take_of_lt (by omega), List.getElem?_drop]
theorem flF_dt {l : List vaF} {a k : Nat} (h : a + k ≤ l.length) : flF ((l.drop a).take k) = ((flF l).drop (ahF l a)).take (ahF l (a + k) - ahF l a) := by
  have e1 : l = l.take a ++ ((l.drop a).take k ++ (l.drop a).drop k) := by rw [List.take_append_drop, List.take_append_drop]
  have e2 : flF l = flF (l.take a) ++ (flF ((l.drop a).take k) ++ flF ((l.drop a).drop k)) := by
    have := congrArg flF e1
    rw [flF_a, flF_a] at this
    exact this
  have e3 : l.take (a + k) = l.take a ++ (l.drop a).take k := by rw [List.take_add]
  have e4 : ahF l (a + k) = ahF l a + (flF ((l.drop a).take k)).length := by
    unfold ahF
    rw [e3, flF_a, List.length_append]
  rw [e4, Nat.add_sub_cancel_left, e2]
  have e5 : ahF l a = (flF (l.take a)).length := rfl
  rw [e5, List.drop_left, List.take_left]
theorem pkX_n {σ : sg_S} (g : yG σ) {d : Nat} {v lo hi : Int} {q : List vaF} (h : pkX σ (d + 1) v lo hi q) {lo' hi' : Int} (e1 : lo' = if hi ≤ lo then 0 else v_lStart σ v lo) (e2 : hi' = if hi ≤ lo then 0 else v_lStart σ v (hi - 1) + v_lCell σ v (hi - 1)) : pkX σ d (v_lItems σ v) lo' hi' (flF q) := by
  have b := pkX_l h
  rcases h with ⟨e0, f1, ⟨f2, f3⟩ | ⟨f2, f3⟩⟩ | ⟨l, h1, h2, h3, h4, e⟩
  · rw [if_neg (by omega)] at e1 e2
    obtain ⟨c1, c2, c3, c4, c5⟩ := y_cellN (σ := σ) (v := v) (l := lo) (by omega)
    obtain ⟨d1, d2, d3, d4, d5⟩ := y_cellN (σ := σ) (v := v) (l := hi - 1) (by omega)
    rw [c3] at e1
    rw [d3, d1] at e2
    left
    refine ⟨c5, e1, Or.inr ⟨e2, ?_⟩⟩
    rw [f3, flF_1]
    simp [itF, nmF]
  · rw [if_pos (by omega)] at e1 e2
    left
    exact ⟨(y_cellN (σ := σ) (v := v) (l := lo) (by omega)).2.2.2.2, e1, Or.inr ⟨e2, by rw [f3]; rfl⟩⟩
  · right
    have r := h1.1
    have nx := h1.2.2.2
    rw [← y_items g r] at nx
    by_cases c : hi ≤ lo
    · rw [if_pos c] at e1 e2
      refine ⟨flF l, nx, by omega, by omega, by omega, ?_⟩
      rw [e, e1, e2, show (hi - lo).toNat = 0 by omega]
      simp [flF]
    · rw [if_neg c] at e1 e2
      have s1 := (yX_st g h1 (i := lo.toNat) (by omega)).1
      have s2 := (yX_st g h1 (i := (hi - 1).toNat) (by omega)).2.2
      have s3 : v_lEnd σ v ((hi - 1).toNat : Int) = v_lStart σ v ((hi - 1).toNat : Int) + v_lCell σ v ((hi - 1).toNat : Int) := rfl
      rw [s3, show (((hi - 1).toNat : Nat) : Int) = hi - 1 by omega] at s2
      rw [show ((lo.toNat : Nat) : Int) = lo by omega] at s1
      rw [show (hi - 1).toNat + 1 = hi.toNat by omega] at s2
      rw [s1] at e1
      rw [s2] at e2
      have hd := flF_dt (l := l) (a := lo.toNat) (k := (hi - lo).toNat) (by omega)
      rw [show lo.toNat + (hi - lo).toNat = hi.toNat by omega] at hd
      have mono : ahF l lo.toNat ≤ ahF l hi.toNat := by
        have e3 : l.take hi.toNat = l.take lo.toNat ++ (l.drop lo.toNat).take (hi.toNat - lo.toNat) := by
          rw [← List.take_add]
          congr 1
          omega
        unfold ahF
        rw [e3, flF_a, List.length_append]
        omega
      have top : ahF l hi.toNat ≤ (flF l).length := by
        have := flF_a (l.take hi.toNat) (l.drop hi.toNat)
        rw [List.take_append_drop] at this
        rw [this, List.length_append]
        unfold ahF
        omega
      refine ⟨flF l, nx, by omega, by omega, by omega, ?_⟩
      rw [e, hd, e1, e2]
      congr 1
      · omega
/-! copyPicks, seal of the class, exactly. -/
/-- picks of depth d stand for lists -/
def pkR (σ : sg_S) (d : Nat) (qs : List (List vaF)) : Prop := sg_g σ 77 13 = qs.length ∧ qs.length ≤ 6000 ∧ ∀ (i : Nat) (q : List vaF), qs[i]? = some q → pkX σ d (sg_g σ 85 i) (sg_g σ 86 i) (sg_g σ 87 i) q
theorem pkR_F {L : List Nat} {σ σ' : sg_S} {d : Nat} {qs : List (List vaF)} (h : pkR σ d qs) (f : sg_F L σ σ') (ex : yEx σ σ') (hL : (!sg_cv L 77 13 && sg_ca L 85 && sg_ca L 86 && sg_ca L 87) = true) : pkR σ' d qs := by
  simp only [Bool.and_eq_true, Bool.not_eq_true'] at hL
  obtain ⟨⟨⟨l1, l2⟩, l3⟩, l4⟩ := hL
  refine ⟨by rw [sg_F_g f l1]; exact h.1, h.2.1, fun i q hq => ?_⟩
  rw [sg_F_ga f l2, sg_F_ga f l3, sg_F_ga f l4]
  exact pkX_up ex (h.2.2 i q hq)
theorem fl_fl : ∀ qs : List (List vaF), (qs.map flF).flatten = flF qs.flatten
  | [] => rfl
  | q :: r => by rw [List.map_cons, List.flatten_cons, List.flatten_cons, flF_a, fl_fl r]
theorem fl_tk {qs : List (List vaF)} {j : Nat} {q : List vaF} (h : qs[j]? = some q) : (qs.take (j + 1)).flatten = (qs.take j).flatten ++ q := by
  rw [tkA h, List.flatten_append, List.flatten_cons, List.flatten_nil, List.append_nil]
section CCS
variable {σ : sg_S} {Q : sg_S → Prop}
theorem x_copyPicks {d : Nat} {qs : List (List vaF)} (g : yG σ) (ho : sg_g σ 77 15 = 0) (hp : pkR σ d qs) (k : ∀ σ', sg_F [78, 85, 86, 87, 16077, 17077] σ σ' → stX σ σ' (qs.flatten.map (fun v => v [])) → yG σ' → (sg_g σ' 77 15 = 0 → ∀ d', d = d' + 1 → pkR σ' d' (qs.map flF)) → Q σ') : V_lCopyPicks σ Q := by
  obtain ⟨p1, p2, p3⟩ := hp
  have hu := g.2.1
  unfold V_lCopyPicks
  rw [p1]
  have up : ∀ σ2 xs, sg_F [78, 85, 86, 87, 16077, 17077] σ σ2 → stX σ σ2 xs → yEx σ σ2 ∧ yG σ2 := fun σ2 xs f s => ⟨stX_ex s f rfl, stX_g g s f rfl⟩
  refine ⟨fun n v σ2 => ∃ j : Nat, v = j ∧ j ≤ qs.length ∧ n = qs.length - j ∧ stX σ σ2 ((qs.take j).flatten.map (fun v => v [])) ∧ (∀ i : Nat, j ≤ i → sg_g σ2 85 i = sg_g σ 85 i ∧ sg_g σ2 86 i = sg_g σ 86 i ∧ sg_g σ2 87 i = sg_g σ 87 i) ∧ (∀ d', d = d' + 1 → ∀ (i : Nat) (q : List vaF), i < j → qs[i]? = some q → pkX σ2 d' (sg_g σ2 85 i) (sg_g σ2 86 i) (sg_g σ2 87 i) (flF q)), fun σ2 => stX σ σ2 (qs.flatten.map (fun v => v [])) ∧ (sg_g σ2 77 15 = 0 → ∀ d', d = d' + 1 → ∀ (i : Nat) (q : List vaF), qs[i]? = some q → pkX σ2 d' (sg_g σ2 85 i) (sg_g σ2 86 i) (sg_g σ2 87 i) (flF q)), ⟨_, 0, rfl, Nat.zero_le _, rfl, stX_0 hu.2 ho, fun i _ => ⟨rfl, rfl, rfl⟩, fun d' _ i q hi => by omega⟩, ?_, ?_⟩
  · rintro n v σ2 rv f2 ⟨j, rfl, hj, hn, hs, hr, hz⟩
    obtain ⟨ex2, g2⟩ := up σ2 _ f2 hs
    refine ⟨fun z => ?_, fun z => ⟨fun y => ⟨?_, fun y2 => absurd y2 y⟩, fun y => ?_⟩⟩
    · rw [List.take_of_length_le (by omega)] at hs
      exact ⟨hs, fun _ d' hd i q hq => hz d' hd i q (by have := gE_l hq; omega) hq⟩
    · have := stX_o hs y ((qs.drop j).flatten.map (fun v => v []))
      rwa [← List.map_append, ← List.flatten_append, List.take_append_drop] at this
    · obtain ⟨q, hq⟩ : ∃ q, qs[j]? = some q := ⟨_, List.getElem?_eq_getElem (by omega)⟩
      obtain ⟨r1, r2, r3⟩ := hr j (Nat.le_refl _)
      have pj := p3 j q hq
      have j6 : 0 ≤ (j : Int) ∧ (j : Int) < 6000 := by omega
      rw [xa_in (a := 85) j6, xa_in (a := 86) j6, xa_in (a := 87) j6, r1, r2, r3]
      generalize hv : sg_g σ 85 j = v at *
      generalize hlo : sg_g σ 86 j = lo at *
      generalize hhi : sg_g σ 87 j = hi at *
      obtain ⟨b1, b2, b3⟩ := pkX_l pj
      have pg := pkX_g pj
      have rlo : sg_R lo := by rw [← hlo]; exact sg_Rg _ _ _
      have rhi : sg_R hi := by rw [← hhi]; exact sg_Rg _ _ _
      refine ⟨fun n' v18 σ19 => ∃ i : Nat, v18 = lo + i ∧ i ≤ q.length ∧ n' = q.length - i ∧ stX σ2 σ19 ((q.take i).map (fun v => v [])), fun σ19 => stX σ2 σ19 (q.map (fun v => v [])), ⟨_, 0, by omega, Nat.zero_le _, rfl, stX_0 g2.2.1.2 y⟩, ?_, ?_⟩
      · rintro n' v18 σ19 r18 f19 ⟨i, rfl, hi1, hn', hs'⟩
        refine ⟨fun c => ?_, fun c => ⟨fun c2 => ?_, fun c2 => ?_⟩⟩
        · rw [List.take_of_length_le (by omega)] at hs'; exact hs'
        · have := stX_o hs' c2 ((q.drop i).map (fun v => v []))
          rwa [← List.map_append, List.take_append_drop] at this
        · obtain ⟨ex19, g19⟩ := up σ19 _ (sg_F_t f2 (sg_F_m f19 rfl)) (stX_t hs y hs')
          have ce := pk_cell_up g g19 ex19 pg (l := lo + i) ⟨by omega, c⟩
          have cv := pkX_c g pj (i := i) (by omega)
          refine ⟨(pk_cell g19 (pkg_up ex19 pg) ⟨by omega, c⟩).1, ?_⟩
          have hrc : sg_R (v_lCell σ19 v (lo + i)) := by
            unfold v_lCell
            repeat' split
            all_goals first | exact sg_Rg _ _ _ | decide
          refine x_store g19.2.1 c2 hrc (fun σ' f' s' _ => ⟨⟨by omega, by omega⟩, q.length - (i + 1), by omega, i + 1, by omega, by omega, rfl, ?_⟩)
          rw [tk_D (by omega : i < q.length), List.map_append]
          have e : [v_lCell σ19 v (lo + i)] = [q.getD i (nmF 0)].map (fun v => v []) := by rw [ce, cv]; rfl
          rw [← e]
          exact stX_t hs' c2 s'
      · intro σ19 f19 hs'
        have f19' := sg_F_t f2 (sg_F_m f19 rfl)
        have st19 := stX_t hs y hs'
        obtain ⟨ex19, g19⟩ := up σ19 _ f19' st19
        have ps : lo < hi → p_lStart σ v lo ∧ p_lStart σ v (hi - 1) ∧ p_lCell σ19 v (hi - 1) ∧ v_lCell σ19 v (hi - 1) = v_lCell σ v (hi - 1) := fun c => by
          refine ⟨?_, ?_, (pk_cell g19 (pkg_up ex19 pg) ⟨by omega, by omega⟩).1, pk_cell_up g g19 ex19 pg ⟨by omega, by omega⟩⟩
          · rcases pg.2 with ⟨e, -⟩ | ⟨n0, a, b⟩
            · exact (y_cellN (by omega)).2.2.2.1
            · exact (y_start g (yV_r a) ⟨by omega, by omega⟩).2
          · rcases pg.2 with ⟨e, -⟩ | ⟨n0, a, b⟩
            · exact (y_cellN (by omega)).2.2.2.1
            · exact (y_start g (yV_r a) ⟨by omega, by omega⟩).2
        refine ⟨y_pitems _ _, fun σ35 e35 => ⟨⟨fun _ => trivial, fun c => ⟨(ps c).1, trivial⟩⟩, fun v40 e40 r40 σ43 e43 => ⟨⟨fun _ => trivial, fun c => ⟨⟨by omega, by omega⟩, (ps c).2.1, (ps c).2.2.1, trivial⟩⟩, fun v48 e48 r48 σ51 e51 => ⟨⟨by omega, by omega⟩, qs.length - (j + 1), by omega, j + 1, by omega, by omega, rfl, ?_, fun i hi2 => ?_, fun d' hd i q' hi2 hq' => ?_⟩⟩⟩⟩
        all_goals rw [xp_in j6] at e35 e43 e51
        all_goals have f51 : sg_F [85, 86, 87] σ19 σ51 := by rw [e51, e43, e35]; exact sg_F_w (sg_F_w (sg_F_w (sg_F_r _ _) rfl _) rfl _) rfl _
        · rw [fl_tk hq, List.map_append]
          exact stX_F st19 f51 rfl
        · have hij : ¬ (i : Int) = j := by omega
          obtain ⟨t1, t2, t3⟩ := hr i (by omega)
          refine ⟨?_, ?_, ?_⟩
          · rw [e51, sg_gw_c _ _ _ _ _ _ (by decide), e43, sg_gw_c _ _ _ _ _ _ (by decide), e35, sg_gw_k _ _ _ _ _ _ hij, sg_F_ga f19 rfl, t1]
          · rw [e51, sg_gw_c _ _ _ _ _ _ (by decide), e43, sg_gw_k _ _ _ _ _ _ hij, e35, sg_gw_c _ _ _ _ _ _ (by decide), sg_F_ga f19 rfl, t2]
          · rw [e51, sg_gw_k _ _ _ _ _ _ hij, e43, sg_gw_c _ _ _ _ _ _ (by decide), e35, sg_gw_c _ _ _ _ _ _ (by decide), sg_F_ga f19 rfl, t3]
        · have ex51 : yEx σ19 σ51 := yEx_F f51 rfl
          have ex2' : yEx σ2 σ51 := yEx_t (stX_ex hs' f19 rfl) ex51
          subst hd
          by_cases e : i = j
          · subst e
            rw [hq] at hq'
            cases hq'
            have rit : sg_R (v_lItems σ v) := by
              unfold v_lItems
              repeat' split
              all_goals first | exact sg_Rg _ _ _ | decide
            have i85 : sg_g σ51 85 i = v_lItems σ v := by
              rw [e51, sg_gw_c _ _ _ _ _ _ (by decide), e43, sg_gw_c _ _ _ _ _ _ (by decide), e35, sg_gw_e _ _ _ _ rit]
            have i86 : sg_g σ51 86 i = v40 := by rw [e51, sg_gw_c _ _ _ _ _ _ (by decide), e43, sg_gw_e _ _ _ _ r40]
            have i87 : sg_g σ51 87 i = v48 := by rw [e51, sg_gw_e _ _ _ _ r48]
            rw [i85, i86, i87]
            refine pkX_up (yEx_t ex19 ex51) (pkX_n g pj e40 ?_)
            by_cases c : lo < hi
            · rw [if_neg (by omega)] at e48 ⊢
              obtain ⟨n1, n2, n3, n4, n5, n6⟩ := pk_next g pg c
              rw [(ps c).2.2.2, sg_id ⟨by have := n1.1; omega, by omega⟩] at e48
              exact e48
            · rw [if_pos (by omega)] at e48 ⊢
              exact e48
          · have hij : ¬ (i : Int) = j := by omega
            have t1 : sg_g σ51 85 i = sg_g σ2 85 i := by rw [e51, sg_gw_c _ _ _ _ _ _ (by decide), e43, sg_gw_c _ _ _ _ _ _ (by decide), e35, sg_gw_k _ _ _ _ _ _ hij, sg_F_ga f19 rfl]
            have t2 : sg_g σ51 86 i = sg_g σ2 86 i := by rw [e51, sg_gw_c _ _ _ _ _ _ (by decide), e43, sg_gw_k _ _ _ _ _ _ hij, e35, sg_gw_c _ _ _ _ _ _ (by decide), sg_F_ga f19 rfl]
            have t3 : sg_g σ51 87 i = sg_g σ2 87 i := by rw [e51, sg_gw_k _ _ _ _ _ _ hij, e43, sg_gw_c _ _ _ _ _ _ (by decide), e35, sg_gw_c _ _ _ _ _ _ (by decide), sg_F_ga f19 rfl]
            rw [t1, t2, t3]
            exact pkX_up ex2' (hz d' rfl i q' (by omega) hq')
  · rintro σ2 f2 ⟨h1, h2⟩
    refine k σ2 f2 h1 (up σ2 _ f2 h1).2 (fun z d' hd => ⟨by rw [sg_F_g f2 (by rfl), List.length_map]; exact p1, by rw [List.length_map]; exact p2, fun i q hq => ?_⟩)
    rw [List.getElem?_map] at hq
    cases e : qs[i]? with
    | none => rw [e] at hq; cases hq
    | some q' =>
      rw [e] at hq
      cases hq
      exact h2 z d' hd i q' e
end CCS
