/-! STEPS of the reader (3): EXPR, parts, GENS. -/
theorem act_r (w : Int) : 0 ≤ v_actOf w ∧ v_actOf w ≤ 27 := by
  unfold v_actOf
  repeat (first | (constructor <;> decide) | split)
section STC
variable {t : aK} {N : Nat} {σ : sg_S} {F : Int} {i : Nat} {A : aT} {vs : List Int} {d : Int} {P : aP} {f : Nat}
theorem bF {b : Bool} (h : ¬ b = true) : b = false := by cases b <;> simp_all
theorem Rp_n {q : Int} (h : Rp t N σ F i A vs d P) (hq : 0 ≤ q ∧ q < A.1) : sg_g σ 93 q = A.2.1 q ∧ sg_g σ 96 q = (A.2.2.2.2.1 q).length ∧ sg_g σ 98 q = (A.2.2.2.2.2 q).length ∧ (A.2.2.2.2.2 q).length ≤ 4 ∧ (A.2.2.2.2.1 q).length ≤ 200 := by
  obtain ⟨k1, k2, k3, k4, k5, k6, k7, k8, k9⟩ := h.2.2.2.2.1.2.2.2 q hq.1 hq.2
  exact ⟨k1, k4, k7, k8, k5⟩
theorem s_lst {Q : sg_S → Prop} {q : Int} (h : Rp t N σ F i A vs d P) (hq : 0 ≤ q ∧ q < A.1) (hP : P.length < 3990) (k1 : ¬ A.2.1 q = 14 → (A.2.2.2.2.1 q).length = 0 → aSg t i 41 = true → ∀ σ', Rp t N σ' F i A vs d ((15, q) :: P) → Q σ') (k2 : (A.2.1 q = 14 ∨ ¬ (A.2.2.2.2.1 q).length = 0 ∨ aSg t i 41 = false) → ∀ σ', Rp t N σ' F i A vs d ((0, 0) :: (10, q) :: (15, q) :: P) → Q σ') : V_readList σ q Q := by
  have hA := Rp_A h
  have hR : sg_R q := ⟨by omega, by omega⟩
  obtain ⟨n1, n2, -⟩ := Rp_n h hq
  have main : (A.2.1 q = 14 ∨ ¬ (A.2.2.2.2.1 q).length = 0 ∨ aSg t i 41 = false) → V_pile σ 15 q (fun σ4 => sg_F [110, 111, 32088] σ σ4 → V_pile σ4 10 q (fun σ10 => sg_F [110, 111, 32088] σ4 σ10 → V_pile σ10 0 0 (fun σ16 => sg_F [110, 111, 32088] σ10 σ16 → Q σ16))) := fun c =>
    s_pile h (by decide) hR (by omega) (fun σ1 h1 _ => s_pile h1 (by decide) hR (by simp only [List.length_cons]; omega) (fun σ2 h2 _ => s_pile h2 (by decide) (by decide) (by simp only [List.length_cons]; omega) (fun σ3 h3 _ => k2 c σ3 h3)))
  unfold V_readList
  rw [n1, n2, vs_sg h]
  refine ⟨⟨by omega, by omega⟩, fun c => main (Or.inl c), fun c => ⟨fun c2 => main (Or.inr (Or.inl (by omega))), fun c2 => ⟨p_sg h 41, fun c3 => main (Or.inr (Or.inr ((if01n _).mp c3))), fun c3 => ?_⟩⟩⟩
  exact s_pile h (by decide) hR (by omega) (fun σ1 h1 _ => k1 c (by omega) ((if01 _).mp c3) σ1 h1)
theorem st_0 (hR : Rp t N σ 0 i A vs d P) (hd : d = 12 - (f : Int)) (n : Int) (hI : aIn A vs f ((0, n) :: P)) {Q : sg_S → Prop} (hQ : ∀ σ', aPo t N (den t ((0, n) :: P) i A vs f) (40 * (N - i) + pwt ((0, n) :: P)) σ' → Q σ') : V_goOn_0 σ Q := by
  have hl := aIn_l hI
  have hA := Rp_A hR
  have hf := hI.1
  unfold V_goOn_0 V_readExpr
  rw [vs_wo hR 7103860 19420 (by decide), vs_wo hR 26982 366 (by decide)]
  refine ⟨p_wo hR (by unfold p_told; decide), fun h => ⟨p_wo hR (by unfold p_told; decide), fun h2 => ?_, fun h2 => ?_⟩, fun h => ?_⟩
  · rw [if01n] at h h2
    refine s_pile hR (by decide) (by decide) (by omega) (fun σ1 h1 _ _ => ?_)
    refine hQ _ ⟨0, i, A, vs, d, _, h1, fun h => absurd rfl h, fun _ => ⟨f, hd, ?_, ?_, ?_⟩⟩
    · obtain ⟨i1, i2, i3, i4, i5, i6, m, i7, i8, i9⟩ := hI
      simp [pwf, pcn, pok, pnd, pow, pht, pcl, pgr] at i2 i3 i4 i5 i9
      refine ⟨i1, ?_, ?_, ?_, ?_, i6, m, i7, i8, ?_⟩ <;> simp [pwf, pcn, pok, pnd, pow, pht, pcl, pgr, sg_R0] <;> grind
    · simp only [den, aDe, aLv_e, aEx, h, h2]
      simp
    · simp [pwt]
  · rw [if01n] at h
    rw [if01] at h2
    have hi := Rp_i hR (by have := wo_t h2; omega)
    refine s_enter hR (by omega) (fun σ1 F1 e1 h1 _ => ?_)
    refine s_newNode h1 (by decide) (fun σ2 F2 A2 q e2 e3 e4 e5 e6 h2' _ _ => ?_)
    have hA2 := Rp_A h2'
    have hq : sg_R q := ⟨by omega, by omega⟩
    refine s_want h2' (fun _ _ => hi) (fun σ3 F3 e7 h3 _ => ?_)
    refine s_pile h3 (by decide) hq (by omega) (fun σ4 h4 _ => ?_)
    refine s_pile h4 (by decide) (by decide) (by simp only [List.length_cons]; omega) (fun σ5 h5 _ => ?_)
    refine s_pile h5 (by decide) hq (by simp only [List.length_cons]; omega) (fun σ6 h6 _ => ?_)
    refine s_pile h6 (by decide) (by decide) (by simp only [List.length_cons]; omega) (fun σ7 h7 _ => ?_)
    refine s_pile h7 (by decide) (by decide) (by simp only [List.length_cons]; omega) (fun σ8 h8 _ => ?_)
    refine s_pile h8 (by decide) hq (by simp only [List.length_cons]; omega) (fun σ9 h9 _ => ?_)
    refine s_pile h9 (by decide) (by decide) (by simp only [List.length_cons]; omega) (fun σ10 h10 _ => ?_)
    refine s_pile h10 (by decide) (by decide) (by simp only [List.length_cons]; omega) (fun σ11 h11 _ => ?_)
    refine s_pile h11 (by decide) hq (by simp only [List.length_cons]; omega) (fun σ12 h12 _ => ?_)
    refine s_pile h12 (by decide) (by decide) (by simp only [List.length_cons]; omega) (fun σ13 h13 _ _ => ?_)
    refine hQ _ ⟨F3, _, _, _, _, _, h13, fun e => ?_, fun e => ?_⟩
    · cases f with
      | zero => simp [den, aDe, aLv_e, aEx, h, h2, aW, aPu]
      | succ g =>
        have e3 : A.1 = 200 := by omega
        simp [den, aDe, aLv_e, aEx, h, h2, aW, aIf, aMk, e3, aPu]
    · obtain ⟨c1, c2⟩ := e3 (by omega)
      subst c1 c2
      obtain ⟨g, rfl⟩ : ∃ g, f = g + 1 := ⟨f - 1, by omega⟩
      rw [if_pos e]
      refine ⟨g, by omega, ?_, ?_, ?_⟩
      · obtain ⟨i1, i2, i3, i4, i5, i6, m, i7, i8, i9⟩ := hI
        simp [pwf, pcn, pok, pnd, pow, pht, pcl, pgr] at i2 i3 i4 i5 i9
        have hp := pnd_m (S' := A.1 + 1) (by omega) i5.2
        refine ⟨by omega, ?_, ?_, ?_, ?_, ?_, m, i7, aB_n i8 i7 _ _ _, ?_⟩
        · simp [pwf, pht, pcl, pgr]; grind
        · simp [pcn, pcl]; grind
        · simp [pok]; grind
        · simp only [aNew_1]
          simp [pnd, sg_R0, hp, show sg_R 1 by decide, show sg_R 2 by decide]
          omega
        · intro v hv
          have := i6 v hv
          simp only [aNew_1]
          omega
        · simp [pow, aNew_1]; omega
      · simp only [den, aDe, aLv, aEx, h, h2]
        simp [aIf, aMk, show ¬ A.1 = 200 by omega, aPu]
        cases (aLv t g).1 (i + 1) (aNew A 3 (t.2.2 i) (t.2.1 i)) with
        | none => rfl
        | some r =>
          obtain ⟨i2, A2, r2⟩ := r
          simp [aCo]
          by_cases hs : aWo t i2 1293014 = true
          · simp only [hs, if_true]
            cases (aLv t g).1 (i2 + 1) (aKid A2 A.1 r2) with
            | none => rfl
            | some r =>
              obtain ⟨i3, A3, r3⟩ := r
              simp only
              by_cases hs2 : aWo t i3 339965 = true
              · simp only [hs2, if_true]
                cases (aLv t g).1 (i3 + 1) (aKid A3 A.1 r3) with
                | none => rfl
                | some r => rfl
              · simp [hs2]
          · simp [hs]
      · simp [pwt]; omega
  · rw [if01] at h
    have hi := Rp_i hR (by have := wo_t h; omega)
    refine s_enter hR (by omega) (fun σ1 F1 e1 h1 _ => ?_)
    refine s_newNode h1 (by decide) (fun σ2 F2 A2 q e2 e3 e4 e5 e6 h2' _ _ => ?_)
    have hA2 := Rp_A h2'
    have hq : sg_R q := ⟨by omega, by omega⟩
    refine s_want h2' (fun _ _ => hi) (fun σ3 F3 e7 h3 _ => ?_)
    have ht3 := Rp_t h3
    generalize hj : (if F3 = 0 then i + 1 else i) = j at h3 ht3
    have e92 : sg_gl σ 92 (sg_g σ3 88 7) = t.2.1 j := by rw [h3.2.2.1]; exact (hR.1.2.1 j ht3.2.2.2.2.2.1).2.2
    refine ⟨⟨ht3.2.2.2.1, ht3.2.2.2.2.1⟩, ⟨by omega, by omega⟩, ?_⟩
    rw [e92]
    rintro σ4 rfl
    have h4 := Rp_wd h3 (m := q) (w := t.2.1 j) (Rp_w h3).1
    refine ⟨p_nm h3, ?_⟩
    rw [vs_nm h3]
    refine s_want h4 (fun _ c => Rp_i h4 (by have := nm_t ((if01 _).mp c); omega)) (fun σ5 F5 e8 h5 _ => ?_)
    rw [if01] at e8
    generalize hj2 : (if F5 = 0 then j + 1 else j) = j2 at h5
    refine ⟨p_sg h5 61, ?_⟩
    rw [vs_sg h5]
    refine s_want h5 (fun _ c => Rp_i h5 (by have := sg_t ((if01 _).mp c); omega)) (fun σ6 F6 e9 h6 _ => ?_)
    rw [if01] at e9
    refine s_pile h6 (by decide) hq (by omega) (fun σ7 h7 _ => ?_)
    refine s_pile h7 (by decide) (by decide) (by simp only [List.length_cons]; omega) (fun σ8 h8 _ => ?_)
    refine s_pile h8 (by decide) hq (by simp only [List.length_cons]; omega) (fun σ9 h9 _ => ?_)
    refine s_pile h9 (by decide) (by decide) (by simp only [List.length_cons]; omega) (fun σ10 h10 _ => ?_)
    refine s_pile h10 (by decide) (by decide) (by simp only [List.length_cons]; omega) (fun σ11 h11 _ => ?_)
    refine s_pile h11 (by decide) hq (by simp only [List.length_cons]; omega) (fun σ12 h12 _ => ?_)
    refine s_pile h12 (by decide) (by decide) (by simp only [List.length_cons]; omega) (fun σ13 h13 _ _ => ?_)
    refine hQ _ ⟨F6, _, _, _, _, _, h13, fun e => ?_, fun e => ?_⟩
    · cases f with
      | zero => simp [den, aDe, aLv_e, aEx, h, aW, aPu]
      | succ g =>
        by_cases c1 : A.1 = 200
        · simp [den, aDe, aLv_e, aEx, h, aW, aLet, aMk, c1, aPu]
        · have k3 : F3 = 0 := by omega
          rw [if_pos k3] at hj
          subst hj
          by_cases c2 : aNm t (i + 1) = true
          · have k5 : F5 = 0 := e8.mpr ⟨k3, c2⟩
            rw [if_pos k5] at hj2
            subst hj2
            have c3 : aSg t (i + 1 + 1) 61 = false := bF (fun c => e (e9.mpr ⟨k5, c⟩))
            simp [den, aDe, aLv_e, aEx, h, aW, aLet, aMk, c1, c2, c3, aPu]
          · simp [den, aDe, aLv_e, aEx, h, aW, aLet, aMk, c1, c2, aPu]
    · have k5 := (e9.mp e).1
      have k3 := (e8.mp k5).1
      have c2 := (e8.mp k5).2
      have c3 := (e9.mp e).2
      rw [if_pos k3] at hj
      rw [if_pos k5] at hj2
      subst hj
      subst hj2
      obtain ⟨d1, d2⟩ := e3 (by omega)
      subst d1 d2
      obtain ⟨g, rfl⟩ : ∃ g, f = g + 1 := ⟨f - 1, by omega⟩
      rw [if_pos e]
      have hi3 : i + 1 + 1 < N := Rp_i h5 (by have := sg_t c3; omega)
      refine ⟨g, by omega, ?_, ?_, ?_⟩
      · obtain ⟨i1, i2, i3, i4, i5, i6, m, i7, i8, i9⟩ := hI
        simp [pwf, pcn, pok, pnd, pow, pht, pcl, pgr] at i2 i3 i4 i5 i9
        have hp := pnd_m (S' := A.1 + 1) (by omega) i5.2
        refine ⟨by omega, ?_, ?_, ?_, ?_, ?_, m, i7, aB_w (aB_n i8 i7 _ _ _) _ _, ?_⟩
        · simp [pwf, pht, pcl, pgr]; grind
        · simp [pcn, pcl]; grind
        · simp [pok]; grind
        · simp only [aWd_1, aNew_1]
          simp [pnd, sg_R0, hp]
          omega
        · intro v hv
          have := i6 v hv
          simp only [aWd_1, aNew_1]
          omega
        · simp [pow, aWd_1, aNew_1]; omega
      · simp only [den, aDe, aLv, aEx, h]
        simp [aLet, aMk, show ¬ A.1 = 200 by omega, aPu, c2, c3]
        cases (aLv t g).1 (i + 3) (aWd (aNew A 2 (t.2.2 i) (t.2.1 i)) A.1 (t.2.1 (i + 1))) with
        | none => rfl
        | some r =>
          obtain ⟨i2, A2, r2⟩ := r
          simp [aCo]
          by_cases hs : aWo t i2 374 = true
          · simp only [hs, if_true]
            cases (aLv t g).1 (i2 + 1) (aKid A2 A.1 r2) with
            | none => rfl
            | some r => rfl
          · simp [hs]
      · simp [pwt]; omega
end STC
