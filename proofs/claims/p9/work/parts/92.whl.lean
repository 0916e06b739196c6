/-! THE READER of the reference: a whole EXPR. -/
section WHL
variable {t : aK} {N : Nat} {σ : sg_S} {F : Int} {i : Nat} {A : aT} {vs : List Int} {d : Int} {P : aP} {f : Nat} {w n : Int}
theorem st_all (hR : Rp t N σ 0 i A vs d P) (hd : d = 12 - (f : Int)) (hI : aIn A vs f ((w, n) :: P)) {Q : sg_S → Prop} (hQ : ∀ σ', aPo t N (den t ((w, n) :: P) i A vs f) (40 * (N - i) + pwt ((w, n) :: P)) σ' → Q σ') : V_goOn σ w n Q := by
  have hw : 0 ≤ w ∧ w ≤ 17 := hI.2.2.2.2.1.1
  have hv : (w = 2 ∨ w = 4 ∨ w = 6 ∨ w = 8 ∨ w = 10) → ∃ l r, vs = l :: r := by
    intro c
    have h := hI.2.2.2.1
    cases vs with
    | nil => rcases c with c | c | c | c | c <;> subst c <;> simp [pok] at h
    | cons l r => exact ⟨l, r, rfl⟩
  unfold V_goOn
  refine ⟨fun e => ?_, fun e0 => ⟨fun e => ?_, fun e1 => ⟨fun e => ?_, fun e2 => ⟨fun e => ?_, fun e3 => ⟨fun e => ?_, fun e4 => ⟨fun e => ?_, fun e5 => ⟨fun e => ?_, fun e6 => ⟨fun e => ?_, fun e7 => ⟨fun e => ?_, fun e8 => ⟨fun e => ?_, fun e9 => ⟨fun e => ?_, fun e10 => ⟨fun e => ?_, fun e11 => ⟨fun e => ?_, fun e12 => ⟨fun e => ?_, fun e13 => ⟨fun e => ?_, fun e14 => ⟨fun e => ?_, fun e15 => ⟨fun e => ?_, fun e16 => ?_⟩⟩⟩⟩⟩⟩⟩⟩⟩⟩⟩⟩⟩⟩⟩⟩⟩
  · subst e; exact st_0 hR hd n hI hQ
  · subst e; exact st_1 hR hd n hI hQ
  · subst e; obtain ⟨l, r, rfl⟩ := hv (by omega); exact st_2 hR hd n hI hQ
  · subst e; exact st_3 hR hd n hI hQ
  · subst e; obtain ⟨l, r, rfl⟩ := hv (by omega); exact st_4 hR hd n hI hQ
  · subst e; exact st_5 hR hd n hI hQ
  · subst e; obtain ⟨l, r, rfl⟩ := hv (by omega); exact st_6 hR hd n hI hQ
  · subst e; exact st_7 hR hd n hI hQ
  · subst e; obtain ⟨l, r, rfl⟩ := hv (by omega); exact st_8 hR hd n hI hQ
  · subst e; exact st_9 hR hd n hI hQ
  · subst e; obtain ⟨l, r, rfl⟩ := hv (by omega); exact st_10 hR hd n hI hQ
  · subst e; exact st_11 hR hd n hI hQ
  · subst e; exact st_12 hR hd n hI hQ
  · subst e; exact st_13 hR hd n hI hQ
  · subst e; exact st_14 hR hd n hI hQ
  · subst e; exact st_15 hR hd n hI hQ
  · subst e; exact st_16 hR hd n hI hQ
  · have e : w = 17 := by omega
    subst e; exact st_17 hR hd n hI hQ
theorem Rp_pop {e : Int × Int} (h : Rp t N σ F i A vs d (e :: P)) : Rp t N (sg_w σ 88 31 (sg_g σ 88 31 - 1)) F i A vs d P ∧ sg_g σ 88 31 = P.length + 1 ∧ sg_g σ 110 (sg_g σ 88 31 - 1) = e.1 ∧ sg_g σ 111 (sg_g σ 88 31 - 1) = e.2 := by
  obtain ⟨h1, h2, h3, h4, h5, h6, h7, h8, h10⟩ := h
  have hp := pst_n h8
  simp only [List.length_cons] at hp
  have hr := sg_Rg σ 88 31
  refine ⟨⟨?_, ?_, ?_, ?_, ?_, ?_, ?_, ?_, ?_⟩, by omega, h8.2.1, h8.2.2.1⟩
  all_goals try simp only [fpl, rg_w, rg_w', rg_wl, rg_wl', Nat.reduceEqDiff, if_false, if_true, reduceIte, Int.reduceEq]
  · exact h1
  · exact h2
  · exact h3
  · exact h4
  · exact h5
  · exact h6
  · exact h7
  · rw [sg_id (z := sg_g σ 88 31 - 1) ⟨by omega, by omega⟩]
    exact h8.2.2.2
  · exact h10
/-- what the reader finds as it begins: tokens, no fault, the tree -/
def Rb (t : aK) (N : Nat) (σ : sg_S) (i : Nat) (A : aT) : Prop := tkR t N (sg_g σ 90) (sg_g σ 91) (sg_gl σ 92) ∧ sg_g σ 88 29 = 0 ∧ sg_g σ 88 7 = i ∧ i ≤ N ∧ trR A (sg_g σ 88 8) (sg_g σ 93) (sg_g σ 94) (sg_gl σ 95) (sg_g σ 96) (sg_g σ 97) (sg_g σ 98) (sg_gl σ 99) (sg_g σ 100) ∧ aB A A.1 ∧ fpl σ
theorem s_whole {Q : Int → sg_S → Prop} (h : Rb t N σ i A) (k1 : ∀ i' A' q, (aLv t 12).1 i A = some (i', A', q) → ∀ σ', Rb t N σ' i' A' → 0 ≤ q ∧ q < A'.1 → Q q σ') (k2 : (aLv t 12).1 i A = none → ∀ σ', ¬ sg_g σ' 88 29 = 0 → fpl σ' → Q 0 σ') : V_readWhole σ Q := by
  obtain ⟨h1, h2, h3, h4, h5, hB, h10⟩ := h
  unfold V_readWhole
  rintro σ1 rfl σ4 rfl σ7 rfl
  have h0 : Rp t N (sg_w (sg_w (sg_w σ 88 31 0) 88 34 0) 88 36 0) 0 i A [] 0 [] := by
    refine ⟨?_, ?_, ?_, ?_, ?_, ?_, ?_, ?_, ?_⟩
    all_goals try simp only [fpl, rg_w, rg_w', rg_wl, rg_wl', Nat.reduceEqDiff, if_false, if_true, reduceIte, Int.reduceEq]
    · exact h1
    · exact h2
    · exact h3
    · exact h4
    · exact h5
    · rw [sg_id (by decide)]; rfl
    · exact sg_id (by decide)
    · rw [sg_id (by decide)]; rfl
    · exact h10
  generalize sg_w (sg_w (sg_w σ 88 31 0) 88 34 0) 88 36 0 = τ at h0 ⊢
  have hR : den t [(0, 0)] i A [] 12 = aPu ((aLv t 12).1 i A) [] 12 := by
    simp [den, aDe]
    cases aPu ((aLv t 12).1 i A) [] 12 with
    | none => rfl
    | some r => rfl
  have hA := Rp_A h0
  refine s_pile h0 (by decide) (by decide) (by simp) (fun σ11 h11 _ => ?_)
  refine ⟨fun m s => aPo t N (den t [(0, 0)] i A [] 12) m s, fun s => ∃ F i' A' vs d P, Rp t N s F i' A' vs d P ∧ (¬ F = 0 → den t [(0, 0)] i A [] 12 = none) ∧ (F = 0 → P = [] ∧ ∃ f : Nat, d = 12 - f ∧ aIn A' vs f P ∧ den t P i' A' vs f = den t [(0, 0)] i A [] 12), ⟨40 * (N - i) + 11, ?_⟩, ?_, ?_⟩
  · refine ⟨0, i, A, [], 0, _, h11, fun e => absurd rfl e, fun _ => ⟨12, by omega, ?_, rfl, ?_⟩⟩
    · refine ⟨by omega, ?_, ?_, ?_, ?_, fun v hv => absurd hv (by simp), A.1, hA.1, hB, ?_⟩
      · simp [pwf, pht, pcl, pgr]
      · simp [pcn, pcl]
      · simp [pok]
      · simp [pnd, sg_R0]; decide
      · simp [pow]
    · simp [pwt]
  · rintro m s - ⟨F, i', A', vs, d, P, hP, e1, e2⟩
    have hp := pst_n hP.2.2.2.2.2.2.2.1
    refine ⟨fun c => ⟨F, i', A', vs, d, P, hP, e1, fun e => ?_⟩, fun c => ⟨fun c2 => ⟨F, i', A', vs, d, P, hP, e1, fun e => absurd (hP.2.1.trans e) c2⟩, fun c2 => ?_⟩⟩
    · obtain ⟨f, a1, a2, a3, -⟩ := e2 e
      refine ⟨?_, f, a1, a2, a3⟩
      cases P with
      | nil => rfl
      | cons x y => simp at hp; omega
    · have hF : F = 0 := hP.2.1.symm.trans c2
      obtain ⟨f, a1, a2, a3, a4⟩ := e2 hF
      subst hF
      cases P with
      | nil => simp at hp; omega
      | cons x y =>
        obtain ⟨b1, b2, b3, b4⟩ := Rp_pop hP
        have hl := aIn_l a2
        refine ⟨⟨by omega, by omega⟩, ?_⟩
        rintro σ39 rfl
        refine ⟨⟨by omega, by omega⟩, ?_⟩
        rw [b3, b4]
        refine st_all b1 a1 a2 (fun σ' hs _ => ⟨_, a4, ?_⟩)
        rw [← a3]
        exact hs
  · rintro s - ⟨F, i', A', vs, d, P, hP, e1, e2⟩
    rw [hP.2.1]
    refine ⟨fun c => k2 ?_ s (by rw [hP.2.1]; exact c) hP.2.2.2.2.2.2.2.2, fun c => ?_⟩
    · have := e1 c
      rw [hR] at this
      cases hE : (aLv t 12).1 i A with
      | none => rfl
      | some r => rw [hE] at this; simp [aPu] at this
    · subst c
      obtain ⟨rfl, f, a1, a2, a3⟩ := e2 rfl
      have hv := a2.2.2.2.1
      simp only [pok] at hv
      obtain ⟨q, rfl⟩ : ∃ q, vs = [q] := by
        cases vs with
        | nil => simp at hv
        | cons q r =>
          cases r with
          | nil => exact ⟨q, rfl⟩
          | cons _ _ => simp at hv
      rw [hR] at a3
      simp only [den] at a3
      cases hE : (aLv t 12).1 i A with
      | none => rw [hE] at a3; simp [aPu] at a3
      | some r =>
        obtain ⟨i2, A2, q2⟩ := r
        rw [hE] at a3
        simp only [aPu] at a3
        cases a3
        refine s_popped hP (by simp) (fun σ' h' _ _ => ?_)
        refine k1 _ _ _ hE σ' ⟨h'.1, h'.2.1, h'.2.2.1, h'.2.2.2.1, h'.2.2.2.2.1, ?_, h'.2.2.2.2.2.2.2.2⟩ (a2.2.2.2.2.2.1 q (by simp))
        obtain ⟨m, b1, b2, b3⟩ := a2.2.2.2.2.2.2
        intro k hk0 hk1
        have := b2 k hk0 hk1
        simp [pow] at b3
        omega
end WHL
