/-! STEPS of the reader (1): operators. -/
theorem sg_R0 : sg_R 0 := by decide
theorem if01 (b : Bool) : (¬ (if b = true then (1 : Int) else 0) = 0) ↔ b = true := by cases b <;> simp
theorem if01n (b : Bool) : ((if b = true then (1 : Int) else 0) = 0) ↔ b = false := by cases b <;> simp
section STA
variable {t : aK} {N : Nat} {σ : sg_S} {i : Nat} {A : aT} {vs : List Int} {d : Int} {P : aP} {f : Nat}
theorem aIn_l {w n : Int} (h : aIn A vs f ((w, n) :: P)) : P.length ≤ 300 ∧ vs.length ≤ 302 := by
  obtain ⟨h1, h2, h3, h4, h5, h6, h7⟩ := h
  have a := pcn_len h2
  have b := pok_len h4
  simp only [List.length_cons] at a b
  have : pcn ((w, n) :: P) ≤ 12 := by omega
  omega
theorem Rp_A {F : Int} (h : Rp t N σ F i A vs d P) : 0 ≤ A.1 ∧ A.1 ≤ 200 := ⟨h.2.2.2.2.1.2.1, h.2.2.2.2.1.2.2.1⟩
theorem aIn_k {F l : Int} {Q : aP} (hR : Rp t N σ F i A (l :: vs) d P) (h : aIn A (l :: vs) f Q) : ∀ k, 0 ≤ k → k < A.1 → (A.2.2.2.2.1 k).length < 200 := by
  obtain ⟨-, -, -, -, -, -, m, h7, h8, h9⟩ := h
  intro k hk0 hk1
  have := h8 k hk0 hk1
  have h2 := (Rp_A hR).2
  simp only [List.length_cons] at h9
  omega
theorem sg_t {ch : Int} (h : aSg t i ch = true) : t.1 i = 3 := (of_decide_eq_true h).1
theorem wo_t {ch : Int} (h : aWo t i ch = true) : t.1 i = 2 := (of_decide_eq_true h).1
theorem nm_t (h : aNm t i = true) : t.1 i = 2 := (of_decide_eq_true h).1
theorem s_btw {Q : sg_S → Prop} {kd ag sc l : Int} (h : Rp t N σ 0 i A (l :: vs) d P) (hs : t.1 i = 3) (hkd : sg_R kd) (hag : sg_R ag) (hsc : sg_R sc) (hl : sg_R l) (hv : vs.length < 400) (hP : P.length < 3990) (hk : ∀ k, 0 ≤ k → k < A.1 → (A.2.2.2.2.1 k).length < 200) (k : ∀ σ' F' A' n, (F' = 0 ↔ ¬ A.1 = 200) → (¬ A.1 = 200 → n = A.1 ∧ A' = aKid (aNew A kd (t.2.2 i) (t.2.1 i)) A.1 l) → Rp t N σ' F' (if F' = 0 then i + 1 else i) A' vs d ((sc, 0) :: (10, n) :: (11, n) :: (if ag < 0 then P else (ag, 0) :: P)) → Q σ') : V_readBetween σ kd ag sc Q := by
  unfold V_readBetween
  refine s_newNode h hkd (fun σ1 F1 A1 q e1 e2 e3 e4 e5 h1 _ _ => ?_)
  have hA1 := Rp_A h1
  have hq : sg_R q := ⟨by omega, by omega⟩
  refine s_popped h1 hv (fun σ2 h2 _ _ => ?_)
  refine s_kid h2 ⟨e4, e5⟩ hl ?_ (fun σ3 h3 _ => ?_)
  · by_cases c : A.1 = 200
    · obtain ⟨c1, c2⟩ := e3 c
      subst c2
      rw [c1]
      exact hk 0 (by omega) (by omega)
    · obtain ⟨c1, c2⟩ := e2 c
      subst c1 c2
      simp only [aNew, aU_e, List.length_nil]
      omega
  refine s_want h3 (fun _ _ => Rp_i h ⟨by omega, by omega⟩) (fun σ4 F4 e6 h4 _ => ?_)
  refine ⟨fun s => Rp t N s F4 (if F4 = 0 then i + 1 else i) (aKid A1 q l) vs d (if ag < 0 then P else (ag, 0) :: P), ⟨fun c => by rw [if_pos c]; exact h4, fun c => s_pile h4 hag (by decide) (by omega) (fun σ5 h5 _ => by rw [if_neg (show ¬ ag < 0 by omega)]; exact h5)⟩, ?_⟩
  intro σ5 _ h5
  have hl5 : (if ag < 0 then P else (ag, 0) :: P).length ≤ P.length + 1 := by split <;> simp
  refine s_pile h5 (by decide) hq (by omega) (fun σ6 h6 _ => ?_)
  refine s_pile h6 (by decide) hq (by simp only [List.length_cons]; omega) (fun σ7 h7 _ => ?_)
  refine s_pile h7 hsc (by decide) (by simp only [List.length_cons]; omega) (fun σ8 h8 _ => ?_)
  exact k σ8 F4 _ q (by omega) (fun c => by obtain ⟨c1, c2⟩ := e2 c; subst c1 c2; exact ⟨rfl, rfl⟩) h8
theorem st_1 (hR : Rp t N σ 0 i A vs d P) (hd : d = 12 - (f : Int)) (n : Int) (hI : aIn A vs f ((1, n) :: P)) {Q : sg_S → Prop} (hQ : ∀ σ', aPo t N (den t ((1, n) :: P) i A vs f) (40 * (N - i) + pwt ((1, n) :: P)) σ' → Q σ') : V_goOn_1 σ Q := by
  have hl := aIn_l hI
  unfold V_goOn_1
  refine s_pile hR (by decide) (by decide) (by omega) (fun σ1 h1 _ => ?_)
  refine s_pile h1 (by decide) (by decide) (by simp only [List.length_cons]; omega) (fun σ2 h2 _ => ?_)
  refine hQ _ ⟨0, i, A, vs, d, _, h2, fun h => absurd rfl h, fun _ => ⟨f, hd, ?_, ?_, ?_⟩⟩
  · obtain ⟨i1, i2, i3, i4, i5, i6, m, i7, i8, i9⟩ := hI
    simp [pwf, pcn, pok, pnd, pow, pht, pcl, pgr] at i2 i3 i4 i5 i9
    refine ⟨i1, ?_, ?_, ?_, ?_, i6, m, i7, i8, ?_⟩ <;> simp [pwf, pcn, pok, pnd, pow, pht, pcl, pgr, sg_R0] <;> grind
  · simp only [den, aDe, aCm, aCmp]
    simp [aPu, aTp]
    cases aSm t (aW f) (aI t f) (aJ t f) i A with
    | none => rfl
    | some r => rfl
  · simp [pwt]; omega
theorem st_3 (hR : Rp t N σ 0 i A vs d P) (hd : d = 12 - (f : Int)) (n : Int) (hI : aIn A vs f ((3, n) :: P)) {Q : sg_S → Prop} (hQ : ∀ σ', aPo t N (den t ((3, n) :: P) i A vs f) (40 * (N - i) + pwt ((3, n) :: P)) σ' → Q σ') : V_goOn_3 σ Q := by
  have hl := aIn_l hI
  unfold V_goOn_3
  refine s_pile hR (by decide) (by decide) (by omega) (fun σ1 h1 _ => ?_)
  refine s_pile h1 (by decide) (by decide) (by simp only [List.length_cons]; omega) (fun σ2 h2 _ => ?_)
  refine hQ _ ⟨0, i, A, vs, d, _, h2, fun h => absurd rfl h, fun _ => ⟨f, hd, ?_, ?_, ?_⟩⟩
  · obtain ⟨i1, i2, i3, i4, i5, i6, m, i7, i8, i9⟩ := hI
    simp [pwf, pcn, pok, pnd, pow, pht, pcl, pgr] at i2 i3 i4 i5 i9
    refine ⟨i1, ?_, ?_, ?_, ?_, i6, m, i7, i8, ?_⟩ <;> simp [pwf, pcn, pok, pnd, pow, pht, pcl, pgr, sg_R0] <;> grind
  · simp only [den, aDe, aSm, aRow]
    simp [aPu, aTp]
    cases aPr t (aW f) (aI t f) (aJ t f) i A with
    | none => rfl
    | some r => rfl
  · simp [pwt]; omega
theorem st_5 (hR : Rp t N σ 0 i A vs d P) (hd : d = 12 - (f : Int)) (n : Int) (hI : aIn A vs f ((5, n) :: P)) {Q : sg_S → Prop} (hQ : ∀ σ', aPo t N (den t ((5, n) :: P) i A vs f) (40 * (N - i) + pwt ((5, n) :: P)) σ' → Q σ') : V_goOn_5 σ Q := by
  have hl := aIn_l hI
  unfold V_goOn_5
  refine s_pile hR (by decide) (by decide) (by omega) (fun σ1 h1 _ => ?_)
  refine s_pile h1 (by decide) (by decide) (by simp only [List.length_cons]; omega) (fun σ2 h2 _ => ?_)
  refine hQ _ ⟨0, i, A, vs, d, _, h2, fun h => absurd rfl h, fun _ => ⟨f, hd, ?_, ?_, ?_⟩⟩
  · obtain ⟨i1, i2, i3, i4, i5, i6, m, i7, i8, i9⟩ := hI
    simp [pwf, pcn, pok, pnd, pow, pht, pcl, pgr] at i2 i3 i4 i5 i9
    refine ⟨i1, ?_, ?_, ?_, ?_, i6, m, i7, i8, ?_⟩ <;> simp [pwf, pcn, pok, pnd, pow, pht, pcl, pgr, sg_R0] <;> grind
  · simp only [den, aDe, aPr, aRow, aLv_e]
    simp [aPu, aTp]
    cases aUn t (aW f) (aI t f) (aJ t f) i A with
    | none => rfl
    | some r => rfl
  · simp [pwt]; omega
/-- no sign follows: nothing is done -/
theorem st_no {w n l : Int} (hR : Rp t N σ 0 i A (l :: vs) d P) (hd : d = 12 - (f : Int)) (hw : w = 2 ∨ w = 4 ∨ w = 6 ∨ w = 8) (hI : aIn A (l :: vs) f ((w, n) :: P)) (he : den t P i A (l :: vs) f = den t ((w, n) :: P) i A (l :: vs) f) : aPo t N (den t ((w, n) :: P) i A (l :: vs) f) (40 * (N - i) + pwt ((w, n) :: P)) σ := by
  refine ⟨0, i, A, l :: vs, d, P, hR, fun h => absurd rfl h, fun _ => ⟨f, hd, ?_, he, ?_⟩⟩
  · obtain ⟨i1, i2, i3, i4, i5, i6, m, i7, i8, i9⟩ := hI
    rcases hw with hw | hw | hw | hw <;> subst hw <;> (simp [pwf, pcn, pok, pnd, pow, pht, pcl, pgr] at i2 i3 i4 i5 i9; refine ⟨i1, ?_, ?_, ?_, ?_, i6, m, i7, i8, ?_⟩) <;> grind
  · rcases hw with hw | hw | hw | hw <;> subst hw <;> simp [pwt]
theorem st_2 {l : Int} (hR : Rp t N σ 0 i A (l :: vs) d P) (hd : d = 12 - (f : Int)) (n : Int) (hI : aIn A (l :: vs) f ((2, n) :: P)) {Q : sg_S → Prop} (hQ : ∀ σ', aPo t N (den t ((2, n) :: P) i A (l :: vs) f) (40 * (N - i) + pwt ((2, n) :: P)) σ' → Q σ') : V_goOn_2 σ Q := by
  have hl := aIn_l hI
  simp only [List.length_cons] at hl
  have hk := aIn_k hR hI
  have hA := Rp_A hR
  have hlr : 0 ≤ l ∧ l < A.1 := hI.2.2.2.2.2.1 l (List.mem_cons_self)
  have main : ∀ kd : Int, (kd = 4 ∨ kd = 5) → aqC t i = some kd → t.1 i = 3 → V_readBetween σ kd (-1) 3 (fun σ' => sg_F [93, 94, 95, 96, 97, 98, 110, 111, 8088, 9088, 30088, 31088, 32088, 35088] σ σ' → Q σ') := by
    intro kd hkd hq ht
    have hi := Rp_i hR (by omega)
    refine s_btw hR ht (by omega) (by decide) (by decide) ⟨by omega, by omega⟩ (by omega) (by omega) hk (fun σ' F' A' m e1 e2 h' _ => ?_)
    rw [if_pos (show ((-1) : Int) < 0 by decide)] at h'
    refine hQ _ ⟨F', _, _, _, _, _, h', fun e => ?_, fun e => ⟨f, hd, ?_, ?_, ?_⟩⟩
    · have e3 : A.1 = 200 := by omega
      simp [den, aDe, aTp, aCmpR, hq, aBtw, aMk, e3, aPu]
    · obtain ⟨c1, c2⟩ := e2 (by omega)
      subst c1 c2
      obtain ⟨i1, i2, i3, i4, i5, i6, m, i7, i8, i9⟩ := hI
      simp [pwf, pcn, pok, pnd, pow, pht, pcl, pgr] at i2 i3 i4 i5 i9
      have hp := pnd_m (S' := A.1 + 1) (by omega) i5.2
      refine ⟨i1, ?_, ?_, ?_, ?_, ?_, m + 1, by omega, ?_, ?_⟩
      · simp [pwf, pht, pcl, pgr]; grind
      · simp [pcn, pcl]; grind
      · simp [pok]; grind
      · simp only [aKid_1, aNew_1]
        simp [pnd, sg_R0, hp]
        omega
      · intro v hv
        have := i6 v (List.mem_cons_of_mem _ hv)
        simp only [aKid_1, aNew_1]
        omega
      · intro k hk0 hk1
        simp only [aKid_1, aNew_1] at hk1
        simp only [aKid, aNew]
        by_cases c : k = A.1
        · subst c
          simp [aU_e]; omega
        · simp only [aU_n _ _ c]
          have := i8 k hk0 (by omega)
          omega
      · simp [pow, aKid_1, aNew_1]; omega
    · obtain ⟨c1, c2⟩ := e2 (by omega)
      subst c1 c2
      simp only [e, if_true]
      simp [den, aDe, aTp, aCmpR, hq, aBtw, aMk, show ¬ A.1 = 200 by omega, aPu]
      cases aSm t (aW f) (aI t f) (aJ t f) (i + 1) (aKid (aNew A kd (t.2.2 i) (t.2.1 i)) A.1 l) with
      | none => rfl
      | some r => rfl
    · simp only [e, if_true]
      simp [pwt]; omega
  unfold V_goOn_2
  rw [vs_sg hR, vs_sg hR]
  refine ⟨p_sg hR 60, fun h => ⟨p_sg hR 60, ?_⟩, fun h => ⟨p_sg hR 61, fun h2 => ?_, fun h2 => ⟨p_sg hR 60, ?_⟩⟩⟩
  · rintro v rfl _
    rw [if_neg h]
    exact main 4 (Or.inl rfl) (by rw [if01] at h; simp [aqC, h]) (sg_t ((if01 _).mp h))
  · rw [if01n] at h h2
    refine hQ _ ?_; exact st_no hR hd (Or.inl rfl) hI (by simp [den, aDe, aTp, aCmpR, aqC, h, h2, aPu])
  · rintro v rfl _
    rw [if_pos h]
    rw [if01n] at h
    exact main 5 (Or.inr rfl) (by rw [if01] at h2; simp [aqC, h, h2]) (sg_t ((if01 _).mp h2))
theorem st_4 {l : Int} (hR : Rp t N σ 0 i A (l :: vs) d P) (hd : d = 12 - (f : Int)) (n : Int) (hI : aIn A (l :: vs) f ((4, n) :: P)) {Q : sg_S → Prop} (hQ : ∀ σ', aPo t N (den t ((4, n) :: P) i A (l :: vs) f) (40 * (N - i) + pwt ((4, n) :: P)) σ' → Q σ') : V_goOn_4 σ Q := by
  have hl := aIn_l hI
  simp only [List.length_cons] at hl
  have hk := aIn_k hR hI
  have hA := Rp_A hR
  have hlr : 0 ≤ l ∧ l < A.1 := hI.2.2.2.2.2.1 l (List.mem_cons_self)
  have main : ∀ kd : Int, (kd = 6 ∨ kd = 7) → aqS t i = some kd → t.1 i = 3 → V_readBetween σ kd (4) 5 (fun σ' => sg_F [93, 94, 95, 96, 97, 98, 110, 111, 8088, 9088, 30088, 31088, 32088, 35088] σ σ' → Q σ') := by
    intro kd hkd hq ht
    have hi := Rp_i hR (by omega)
    refine s_btw hR ht (by omega) (by decide) (by decide) ⟨by omega, by omega⟩ (by omega) (by omega) hk (fun σ' F' A' m e1 e2 h' _ => ?_)
    rw [if_neg (show ¬ ((4) : Int) < 0 by decide)] at h'
    refine hQ _ ⟨F', _, _, _, _, _, h', fun e => ?_, fun e => ⟨f, hd, ?_, ?_, ?_⟩⟩
    · have e3 : A.1 = 200 := by omega
      obtain ⟨g, hg⟩ : ∃ g, (201 - A.1).toNat = g + 1 := ⟨(201 - A.1).toNat - 1, by omega⟩
      simp [den, aDe, aTp, aRowR, hg, aRowL, hq, aBtw, aMk, e3, aPu]
    · obtain ⟨c1, c2⟩ := e2 (by omega)
      subst c1 c2
      obtain ⟨i1, i2, i3, i4, i5, i6, m, i7, i8, i9⟩ := hI
      simp [pwf, pcn, pok, pnd, pow, pht, pcl, pgr] at i2 i3 i4 i5 i9
      have hp := pnd_m (S' := A.1 + 1) (by omega) i5.2
      refine ⟨i1, ?_, ?_, ?_, ?_, ?_, m + 1, by omega, ?_, ?_⟩
      · simp [pwf, pht, pcl, pgr]; grind
      · simp [pcn, pcl]; grind
      · simp [pok]; grind
      · simp only [aKid_1, aNew_1]
        simp [pnd, sg_R0, hp]
        omega
      · intro v hv
        have := i6 v (List.mem_cons_of_mem _ hv)
        simp only [aKid_1, aNew_1]
        omega
      · intro k hk0 hk1
        simp only [aKid_1, aNew_1] at hk1
        simp only [aKid, aNew]
        by_cases c : k = A.1
        · subst c
          simp [aU_e]; omega
        · simp only [aU_n _ _ c]
          have := i8 k hk0 (by omega)
          omega
      · simp [pow, aKid_1, aNew_1]; omega
    · obtain ⟨c1, c2⟩ := e2 (by omega)
      subst c1 c2
      simp only [e, if_true]
      obtain ⟨g, hg⟩ : ∃ g, (201 - A.1).toNat = g + 1 := ⟨(201 - A.1).toNat - 1, by omega⟩
      simp [den, aDe, aTp, aRowR, hg, aRowL, hq, aBtw, aMk, show ¬ A.1 = 200 by omega, aPu]
      cases hp : aPr t (aW f) (aI t f) (aJ t f) (i + 1) (aKid (aNew A kd (t.2.2 i) (t.2.1 i)) A.1 l) with
      | none => rfl
      | some r =>
        obtain ⟨i2, A2, r2⟩ := r
        obtain ⟨g1, g2, g3, g4⟩ := (gF_row (gF_un (gF_I f).1 (gF_I f).2)) _ _ _ _ _ hp (by simp only [aKid_1, aNew_1]; omega)
        have g5 := g1.1
        simp only [aKid_1, aNew_1] at g5
        simp only
        rw [rowL_f (t := t) (q0 := aqS t) (S := aPr t (aW f) (aI t f) (aJ t f)) (gF_row (gF_un (gF_I f).1 (gF_I f).2)) (201 - (aKid A2 A.1 r2).1).toNat g A.1 i2 (aKid A2 A.1 r2) (by simp only [aKid_1]; omega) (Nat.le_refl _) (by simp only [aKid_1]; omega)]
    · simp only [e, if_true]
      simp [pwt]; omega
  unfold V_goOn_4
  rw [vs_sg hR, vs_sg hR]
  refine ⟨p_sg hR 43, fun h => ⟨p_sg hR 43, ?_⟩, fun h => ⟨p_sg hR 45, fun h2 => ?_, fun h2 => ⟨p_sg hR 43, ?_⟩⟩⟩
  · rintro v rfl _
    rw [if_neg h]
    exact main 6 (Or.inl rfl) (by rw [if01] at h; simp [aqS, h]) (sg_t ((if01 _).mp h))
  · rw [if01n] at h h2
    refine hQ _ ?_; exact st_no hR hd (Or.inr (Or.inl rfl)) hI (by obtain ⟨g, hg⟩ : ∃ g, (201 - A.1).toNat = g + 1 := ⟨(201 - A.1).toNat - 1, by omega⟩; simp [den, aDe, aTp, aRowR, hg, aRowL, aqS, h, h2, aPu])
  · rintro v rfl _
    rw [if_pos h]
    rw [if01n] at h
    exact main 7 (Or.inr rfl) (by rw [if01] at h2; simp [aqS, h, h2]) (sg_t ((if01 _).mp h2))
theorem st_6 {l : Int} (hR : Rp t N σ 0 i A (l :: vs) d P) (hd : d = 12 - (f : Int)) (n : Int) (hI : aIn A (l :: vs) f ((6, n) :: P)) {Q : sg_S → Prop} (hQ : ∀ σ', aPo t N (den t ((6, n) :: P) i A (l :: vs) f) (40 * (N - i) + pwt ((6, n) :: P)) σ' → Q σ') : V_goOn_6 σ Q := by
  have hl := aIn_l hI
  simp only [List.length_cons] at hl
  have hk := aIn_k hR hI
  have hA := Rp_A hR
  have hlr : 0 ≤ l ∧ l < A.1 := hI.2.2.2.2.2.1 l (List.mem_cons_self)
  have main : ∀ kd : Int, (kd = 8 ∨ kd = 9 ∨ kd = 10) → aqP t i = some kd → t.1 i = 3 → V_readBetween σ kd (6) 7 (fun σ' => sg_F [93, 94, 95, 96, 97, 98, 110, 111, 8088, 9088, 30088, 31088, 32088, 35088] σ σ' → Q σ') := by
    intro kd hkd hq ht
    have hi := Rp_i hR (by omega)
    refine s_btw hR ht (by omega) (by decide) (by decide) ⟨by omega, by omega⟩ (by omega) (by omega) hk (fun σ' F' A' m e1 e2 h' _ => ?_)
    rw [if_neg (show ¬ ((6) : Int) < 0 by decide)] at h'
    refine hQ _ ⟨F', _, _, _, _, _, h', fun e => ?_, fun e => ⟨f, hd, ?_, ?_, ?_⟩⟩
    · have e3 : A.1 = 200 := by omega
      obtain ⟨g, hg⟩ : ∃ g, (201 - A.1).toNat = g + 1 := ⟨(201 - A.1).toNat - 1, by omega⟩
      simp [den, aDe, aTp, aRowR, hg, aRowL, hq, aBtw, aMk, e3, aPu]
    · obtain ⟨c1, c2⟩ := e2 (by omega)
      subst c1 c2
      obtain ⟨i1, i2, i3, i4, i5, i6, m, i7, i8, i9⟩ := hI
      simp [pwf, pcn, pok, pnd, pow, pht, pcl, pgr] at i2 i3 i4 i5 i9
      have hp := pnd_m (S' := A.1 + 1) (by omega) i5.2
      refine ⟨i1, ?_, ?_, ?_, ?_, ?_, m + 1, by omega, ?_, ?_⟩
      · simp [pwf, pht, pcl, pgr]; grind
      · simp [pcn, pcl]; grind
      · simp [pok]; grind
      · simp only [aKid_1, aNew_1]
        simp [pnd, sg_R0, hp]
        omega
      · intro v hv
        have := i6 v (List.mem_cons_of_mem _ hv)
        simp only [aKid_1, aNew_1]
        omega
      · intro k hk0 hk1
        simp only [aKid_1, aNew_1] at hk1
        simp only [aKid, aNew]
        by_cases c : k = A.1
        · subst c
          simp [aU_e]; omega
        · simp only [aU_n _ _ c]
          have := i8 k hk0 (by omega)
          omega
      · simp [pow, aKid_1, aNew_1]; omega
    · obtain ⟨c1, c2⟩ := e2 (by omega)
      subst c1 c2
      simp only [e, if_true]
      obtain ⟨g, hg⟩ : ∃ g, (201 - A.1).toNat = g + 1 := ⟨(201 - A.1).toNat - 1, by omega⟩
      simp [den, aDe, aTp, aRowR, hg, aRowL, hq, aBtw, aMk, show ¬ A.1 = 200 by omega, aPu, aLv_e]
      cases hp : aUn t (aW f) (aI t f) (aJ t f) (i + 1) (aKid (aNew A kd (t.2.2 i) (t.2.1 i)) A.1 l) with
      | none => rfl
      | some r =>
        obtain ⟨i2, A2, r2⟩ := r
        obtain ⟨g1, g2, g3, g4⟩ := (gF_un (gF_I f).1 (gF_I f).2) _ _ _ _ _ hp (by simp only [aKid_1, aNew_1]; omega)
        have g5 := g1.1
        simp only [aKid_1, aNew_1] at g5
        simp only
        rw [rowL_f (t := t) (q0 := aqP t) (S := aUn t (aW f) (aI t f) (aJ t f)) (gF_un (gF_I f).1 (gF_I f).2) (201 - (aKid A2 A.1 r2).1).toNat g A.1 i2 (aKid A2 A.1 r2) (by simp only [aKid_1]; omega) (Nat.le_refl _) (by simp only [aKid_1]; omega)]
    · simp only [e, if_true]
      simp [pwt]; omega
  unfold V_goOn_6
  rw [vs_sg hR, vs_sg hR, vs_sg hR]
  have pp : p_isSignNow σ 42 ∧ (((if aSg t i 42 = true then (1 : Int) else 0) = 0 → p_isSignNow σ 47 ∧ (((if aSg t i 47 = true then (1 : Int) else 0) = 0 → True) ∧ (¬ (if aSg t i 47 = true then (1 : Int) else 0) = 0 → True))) ∧ (¬ (if aSg t i 42 = true then (1 : Int) else 0) = 0 → True)) := ⟨p_sg hR 42, fun _ => ⟨p_sg hR 47, fun _ => trivial, fun _ => trivial⟩, fun _ => trivial⟩
  refine ⟨p_sg hR 42, fun h => ⟨pp.1, pp.2, ?_⟩, fun h => ⟨p_sg hR 47, fun h2 => ⟨pp.1, pp.2, ?_⟩, fun h2 => ⟨p_sg hR 37, fun h3 => ?_, fun h3 => ⟨pp.1, pp.2, ?_⟩⟩⟩⟩
  · rintro v rfl _
    rw [if_neg h]
    exact main 8 (Or.inl rfl) (by rw [if01] at h; simp [aqP, h]) (sg_t ((if01 _).mp h))
  · rintro v rfl _
    rw [if_pos h, if_neg h2]
    rw [if01n] at h
    exact main 9 (Or.inr (Or.inl rfl)) (by rw [if01] at h2; simp [aqP, h, h2]) (sg_t ((if01 _).mp h2))
  · rw [if01n] at h h2 h3
    refine hQ _ ?_; exact st_no hR hd (Or.inr (Or.inr (Or.inl rfl))) hI (by obtain ⟨g, hg⟩ : ∃ g, (201 - A.1).toNat = g + 1 := ⟨(201 - A.1).toNat - 1, by omega⟩; simp [den, aDe, aTp, aRowR, hg, aRowL, aqP, h, h2, h3, aPu])
  · rintro v rfl _
    rw [if_pos h, if_pos h2]
    rw [if01n] at h h2
    exact main 10 (Or.inr (Or.inr rfl)) (by rw [if01] at h3; simp [aqP, h, h2, h3]) (sg_t ((if01 _).mp h3))
end STA
/-! STEPS of the reader (2): what opens and closes. -/
theorem aB_n {A : aT} {m : Int} (h : aB A m) (h0 : 0 ≤ m) (a p w : Int) : aB (aNew A a p w) m := by
  intro k hk0 hk1
  simp only [aNew] at hk1 ⊢
  by_cases c : k = A.1
  · subst c
    simp only [aU_e, List.length_nil]
    omega
  · simp only [aU_n _ _ c]
    exact h k hk0 (by omega)
theorem aB_k {A : aT} {m : Int} (h : aB A m) (n q : Int) : aB (aKid A n q) (m + 1) := by
  intro k hk0 hk1
  simp only [aKid] at hk1 ⊢
  by_cases c : k = n
  · subst c
    simp only [aU_e, List.length_append, List.length_cons, List.length_nil]
    have := h k hk0 hk1
    omega
  · simp only [aU_n _ _ c]
    have := h k hk0 hk1
    omega
theorem aB_w {A : aT} {m : Int} (h : aB A m) (n q : Int) : aB (aWd A n q) m := h
theorem aB_g {A : aT} {m : Int} (h : aB A m) (n q p : Int) : aB (aGn A n q p) m := h
section STB
variable {t : aK} {N : Nat} {σ : sg_S} {i : Nat} {A : aT} {vs : List Int} {d : Int} {P : aP} {f : Nat}
theorem st_7 (hR : Rp t N σ 0 i A vs d P) (hd : d = 12 - (f : Int)) (n : Int) (hI : aIn A vs f ((7, n) :: P)) {Q : sg_S → Prop} (hQ : ∀ σ', aPo t N (den t ((7, n) :: P) i A vs f) (40 * (N - i) + pwt ((7, n) :: P)) σ' → Q σ') : V_goOn_7 σ Q := by
  have hl := aIn_l hI
  have hA := Rp_A hR
  unfold V_goOn_7
  rw [vs_sg hR]
  refine ⟨p_sg hR 35, fun h => ?_, fun h => ?_⟩
  · rw [if01n] at h
    refine s_pile hR (by decide) (by decide) (by omega) (fun σ1 h1 _ => ?_)
    refine s_pile h1 (by decide) (by decide) (by simp only [List.length_cons]; omega) (fun σ2 h2 _ => ?_)
    refine hQ _ ⟨0, i, A, vs, d, _, h2, fun h => absurd rfl h, fun _ => ⟨f, hd, ?_, ?_, ?_⟩⟩
    · obtain ⟨i1, i2, i3, i4, i5, i6, m, i7, i8, i9⟩ := hI
      simp [pwf, pcn, pok, pnd, pow, pht, pcl, pgr] at i2 i3 i4 i5 i9
      refine ⟨i1, ?_, ?_, ?_, ?_, i6, m, i7, i8, ?_⟩ <;> simp [pwf, pcn, pok, pnd, pow, pht, pcl, pgr, sg_R0] <;> grind
    · simp only [den, aDe, aLv_e, aUn, h]
      simp [aPu, aTp, aItm]
      cases aAtm t (aW f) (aI t f) i A with
      | none => rfl
      | some r => rfl
    · simp [pwt]; omega
  · rw [if01] at h
    have hi := Rp_i hR (by have := sg_t h; omega)
    refine s_enter hR (by have := hI.1; omega) (fun σ1 F1 e1 h1 _ => ?_)
    refine s_newNode h1 (by decide) (fun σ2 F2 A2 q e2 e3 e4 e5 e6 h2 _ _ => ?_)
    have hA2 := Rp_A h2
    have hq : sg_R q := ⟨by omega, by omega⟩
    refine s_want h2 (fun _ _ => hi) (fun σ3 F3 e7 h3 _ => ?_)
    refine s_pile h3 (by decide) hq (by omega) (fun σ4 h4 _ => ?_)
    refine s_pile h4 (by decide) (by decide) (by simp only [List.length_cons]; omega) (fun σ5 h5 _ => ?_)
    refine s_pile h5 (by decide) hq (by simp only [List.length_cons]; omega) (fun σ6 h6 _ => ?_)
    refine s_pile h6 (by decide) (by decide) (by simp only [List.length_cons]; omega) (fun σ7 h7 _ => ?_)
    refine hQ _ ⟨F3, _, _, _, _, _, h7, fun e => ?_, fun e => ?_⟩
    · cases f with
      | zero => simp [den, aDe, aLv_e, aUn, h, aW, aPu]
      | succ g =>
        have e3 : A.1 = 200 := by omega
        simp [den, aDe, aLv_e, aUn, h, aW, aMk, e3, aPu]
    · obtain ⟨c1, c2⟩ := e3 (by omega)
      subst c1 c2
      obtain ⟨g, rfl⟩ : ∃ g, f = g + 1 := ⟨f - 1, by omega⟩
      rw [if_pos e]
      refine ⟨g, by omega, ?_, ?_, ?_⟩
      · obtain ⟨i1, i2, i3, i4, i5, i6, m, i7, i8, i9⟩ := hI
        simp [pwf, pcn, pok, pnd, pow, pht, pcl, pgr] at i2 i3 i4 i5 i9
        have hp := pnd_m (S' := A.1 + 1) (by omega) i5.2
        refine ⟨by omega, ?_, ?_, ?_, ?_, ?_, m, i7, aB_n i8 i7 _ _ _, ?_⟩
        · simp [pwf, pht, pcl, pgr]; grind
        · simp [pcn, pcl]; grind
        · simp [pok]; grind
        · simp only [aNew_1]
          simp [pnd, sg_R0, hp]
          omega
        · intro v hv
          have := i6 v hv
          simp only [aNew_1]
          omega
        · simp [pow, aNew_1]; omega
      · simp only [den, aDe, aLv, aUn, h]
        simp [aMk, show ¬ A.1 = 200 by omega, aPu]
        cases (aLv t g).2 (i + 1) (aNew A 11 (t.2.2 i) (t.2.1 i)) with
        | none => rfl
        | some r => rfl
      · simp [pwt]; omega
theorem st_8 {l : Int} (hR : Rp t N σ 0 i A (l :: vs) d P) (hd : d = 12 - (f : Int)) (n : Int) (hI : aIn A (l :: vs) f ((8, n) :: P)) {Q : sg_S → Prop} (hQ : ∀ σ', aPo t N (den t ((8, n) :: P) i A (l :: vs) f) (40 * (N - i) + pwt ((8, n) :: P)) σ' → Q σ') : V_goOn_8 σ Q := by
  have hl := aIn_l hI
  simp only [List.length_cons] at hl
  have hk := aIn_k hR hI
  have hA := Rp_A hR
  have hlr : 0 ≤ l ∧ l < A.1 := hI.2.2.2.2.2.1 l (List.mem_cons_self)
  obtain ⟨g0, hg0⟩ : ∃ g, (201 - A.1).toNat = g + 1 := ⟨(201 - A.1).toNat - 1, by omega⟩
  unfold V_goOn_8
  rw [vs_sg hR]
  refine ⟨p_sg hR 91, fun h => ?_, fun h => ?_⟩
  · rw [if01n] at h
    refine hQ _ ?_; exact st_no hR hd (Or.inr (Or.inr (Or.inr rfl))) hI (by simp [den, aDe, aTp, aBeh, hg0, aBehL, h, aPu])
  · rw [if01] at h
    have hi := Rp_i hR (by have := sg_t h; omega)
    refine s_enter hR (by have := hI.1; omega) (fun σ1 F1 e1 h1 _ => ?_)
    refine s_newNode h1 (by decide) (fun σ2 F2 A2 q e2 e3 e4 e5 e6 h2 _ _ => ?_)
    have hA2 := Rp_A h2
    have hq : sg_R q := ⟨by omega, by omega⟩
    refine s_popped h2 (by omega) (fun σ3 h3 _ _ => ?_)
    refine s_kid h3 ⟨e5, e6⟩ ⟨by omega, by omega⟩ ?_ (fun σ4 h4 _ => ?_)
    · by_cases c : A.1 = 200
      · obtain ⟨c1, c2⟩ := e4 c
        subst c2
        rw [c1]
        exact hk 0 (by omega) (by omega)
      · obtain ⟨c1, c2⟩ := e3 c
        subst c1 c2
        simp only [aNew, aU_e, List.length_nil]
        omega
    refine s_want h4 (fun _ _ => hi) (fun σ5 F3 e7 h5 _ => ?_)
    refine s_pile h5 (by decide) (by decide) (by omega) (fun σ6 h6 _ => ?_)
    refine s_pile h6 (by decide) hq (by simp only [List.length_cons]; omega) (fun σ7 h7 _ => ?_)
    refine s_pile h7 (by decide) (by decide) (by simp only [List.length_cons]; omega) (fun σ8 h8 _ => ?_)
    refine s_pile h8 (by decide) (by decide) (by simp only [List.length_cons]; omega) (fun σ9 h9 _ => ?_)
    refine s_pile h9 (by decide) hq (by simp only [List.length_cons]; omega) (fun σ10 h10 _ => ?_)
    refine s_pile h10 (by decide) (by decide) (by simp only [List.length_cons]; omega) (fun σ11 h11 _ => ?_)
    refine hQ _ ⟨F3, _, _, _, _, _, h11, fun e => ?_, fun e => ?_⟩
    · cases f with
      | zero => simp [den, aDe, aTp, aBeh, hg0, aBehL, h, aW, aPu]
      | succ g =>
        have e3 : A.1 = 200 := by omega
        simp [den, aDe, aTp, aBeh, hg0, aBehL, h, aW, aIdx, aMk, e3, aPu]
    · obtain ⟨c1, c2⟩ := e3 (by omega)
      subst c1 c2
      obtain ⟨g, rfl⟩ : ∃ g, f = g + 1 := ⟨f - 1, by omega⟩
      rw [if_pos e]
      refine ⟨g, by omega, ?_, ?_, ?_⟩
      · obtain ⟨i1, i2, i3, i4, i5, i6, m, i7, i8, i9⟩ := hI
        simp [pwf, pcn, pok, pnd, pow, pht, pcl, pgr] at i2 i3 i4 i5 i9
        have hp := pnd_m (S' := A.1 + 1) (by omega) i5.2
        refine ⟨by omega, ?_, ?_, ?_, ?_, ?_, m + 1, by omega, aB_k (aB_n i8 i7 _ _ _) _ _, ?_⟩
        · simp [pwf, pht, pcl, pgr]; grind
        · simp [pcn, pcl]; grind
        · simp [pok]; grind
        · simp only [aKid_1, aNew_1]
          simp [pnd, sg_R0, hp]
          omega
        · intro v hv
          have := i6 v (List.mem_cons_of_mem _ hv)
          simp only [aKid_1, aNew_1]
          omega
        · simp [pow, aKid_1, aNew_1]; omega
      · simp only [den, aDe, aTp, aBeh, hg0, aBehL, h, aW, aI]
        simp [aIdx, aMk, show ¬ A.1 = 200 by omega, aPu]
        cases hE : (aLv t g).1 (i + 1) (aKid (aNew A 12 (t.2.2 i) (t.2.1 i)) A.1 l) with
        | none => rfl
        | some r =>
          obtain ⟨i2, A2, r2⟩ := r
          obtain ⟨g1, g2, g3, g4⟩ := (gF_lv g).1 _ _ _ _ _ hE (by simp only [aKid_1, aNew_1]; omega)
          have g5 := g1.1
          simp only [aKid_1, aNew_1] at g5
          simp only
          by_cases hs : aSg t i2 93 = true
          · simp only [hs, if_true]
            rw [behL_f (t := t) (w := true) (E := (aLv t g).1) (gF_lv g).1 (201 - (aKid A2 A.1 r2).1).toNat g0 A.1 (i2 + 1) (aKid A2 A.1 r2) (by simp only [aKid_1]; omega) (Nat.le_refl _) (by simp only [aKid_1]; omega)]
          · simp [hs]
      · simp [pwt]; omega
theorem st_10 {q : Int} (hR : Rp t N σ 0 i A (q :: vs) d P) (hd : d = 12 - (f : Int)) (n : Int) (hI : aIn A (q :: vs) f ((10, n) :: P)) {Q : sg_S → Prop} (hQ : ∀ σ', aPo t N (den t ((10, n) :: P) i A (q :: vs) f) (40 * (N - i) + pwt ((10, n) :: P)) σ' → Q σ') : V_goOn_10 σ n Q := by
  have hl := aIn_l hI
  simp only [List.length_cons] at hl
  have hk := aIn_k hR hI
  have hA := Rp_A hR
  have hlr : 0 ≤ q ∧ q < A.1 := hI.2.2.2.2.2.1 q (List.mem_cons_self)
  have hn : 0 ≤ n ∧ n < A.1 := hI.2.2.2.2.1.2.1 (Or.inl rfl)
  unfold V_goOn_10
  refine s_popped hR (by omega) (fun σ1 h1 _ _ => ?_)
  refine s_kid h1 hn ⟨by omega, by omega⟩ (hk n hn.1 hn.2) (fun σ2 h2 _ => ?_)
  refine hQ _ ⟨0, _, _, _, _, _, h2, fun h => absurd rfl h, fun _ => ⟨f, hd, ?_, ?_, ?_⟩⟩
  · obtain ⟨i1, i2, i3, i4, i5, i6, m, i7, i8, i9⟩ := hI
    simp [pwf, pcn, pok, pnd, pow, pht, pcl, pgr] at i2 i3 i4 i5 i9
    refine ⟨i1, i2.2, i3, i4, i5.2.2, fun v hv => i6 v (List.mem_cons_of_mem _ hv), m + 1, by omega, aB_k i8 _ _, ?_⟩
    simp only [aKid_1]
    omega
  · simp [den, aDe]
  · simp [pwt]
theorem st_11 (hR : Rp t N σ 0 i A vs d P) (hd : d = 12 - (f : Int)) (n : Int) (hI : aIn A vs f ((11, n) :: P)) {Q : sg_S → Prop} (hQ : ∀ σ', aPo t N (den t ((11, n) :: P) i A vs f) (40 * (N - i) + pwt ((11, n) :: P)) σ' → Q σ') : V_goOn_11 σ n Q := by
  have hl := aIn_l hI
  have hA := Rp_A hR
  have hn : 0 ≤ n ∧ n < A.1 := hI.2.2.2.2.1.2.1 (Or.inr (Or.inl rfl))
  unfold V_goOn_11
  refine s_pushed hR ⟨by omega, by omega⟩ (by omega) (fun σ1 h1 _ => ?_)
  refine hQ _ ⟨0, _, _, _, _, _, h1, fun h => absurd rfl h, fun _ => ⟨f, hd, ?_, ?_, ?_⟩⟩
  · obtain ⟨i1, i2, i3, i4, i5, i6, m, i7, i8, i9⟩ := hI
    simp [pwf, pcn, pok, pnd, pow, pht, pcl, pgr] at i2 i3 i4 i5 i9
    refine ⟨i1, i2.2, i3, i4, i5.2.2, fun v hv => ?_, m, i7, i8, ?_⟩
    · rcases List.mem_cons.mp hv with e | e
      · subst e; exact hn
      · exact i6 v e
    · simp only [List.length_cons]; omega
  · simp [den, aDe]
  · simp [pwt]
theorem st_12 (hR : Rp t N σ 0 i A vs d P) (hd : d = 12 - (f : Int)) (n : Int) (hI : aIn A vs f ((12, n) :: P)) {Q : sg_S → Prop} (hQ : ∀ σ', aPo t N (den t ((12, n) :: P) i A vs f) (40 * (N - i) + pwt ((12, n) :: P)) σ' → Q σ') : V_goOn_12 σ Q := by
  have h36 : sg_g σ 88 36 = d := hR.2.2.2.2.2.2.1
  have hf := hI.1
  unfold V_goOn_12
  rw [h36]
  refine ⟨⟨by omega, by omega⟩, ?_⟩
  rintro σ2 rfl
  refine hQ _ ⟨0, _, _, _, _, _, Rp_d hR ⟨by omega, by omega⟩, fun h => absurd rfl h, fun _ => ⟨f + 1, by omega, ?_, ?_, ?_⟩⟩
  · obtain ⟨i1, i2, i3, i4, i5, i6, m, i7, i8, i9⟩ := hI
    simp [pwf, pcn, pok, pnd, pow, pht, pcl, pgr] at i2 i3 i4 i5 i9
    exact ⟨by omega, i2, by omega, i4, i5.2, i6, m, i7, i8, by omega⟩
  · simp [den, aDe]
  · simp [pwt]
theorem st_13 (hR : Rp t N σ 0 i A vs d P) (hd : d = 12 - (f : Int)) (n : Int) (hI : aIn A vs f ((13, n) :: P)) {Q : sg_S → Prop} (hQ : ∀ σ', aPo t N (den t ((13, n) :: P) i A vs f) (40 * (N - i) + pwt ((13, n) :: P)) σ' → Q σ') : V_goOn_13 σ n Q := by
  unfold V_goOn_13
  rw [vs_sg hR]
  refine ⟨p_sg hR n, s_want hR (fun _ h => Rp_i hR (by have := sg_t ((if01 _).mp h); omega)) (fun σ1 F1 e1 h1 _ => ?_)⟩
  rw [if01] at e1
  refine hQ _ ⟨F1, _, _, _, _, _, h1, fun e => ?_, fun e => ⟨f, hd, ?_, ?_, ?_⟩⟩
  · have hs : aSg t i n = false := by cases h : aSg t i n with
      | false => rfl
      | true => exact absurd (e1.mpr ⟨rfl, h⟩) e
    simp [den, aDe, hs]
  · obtain ⟨i1, i2, i3, i4, i5, i6, m, i7, i8, i9⟩ := hI
    simp [pwf, pcn, pok, pnd, pow, pht, pcl, pgr] at i2 i3 i4 i5 i9
    exact ⟨i1, i2.2, i3, i4, i5.2, i6, m, i7, i8, i9⟩
  · rw [if_pos e]
    simp [den, aDe, (e1.mp e).2]
  · rw [if_pos e]
    have hi := Rp_i hR (by have := sg_t (e1.mp e).2; omega)
    simp [pwt]; omega
theorem st_14 (hR : Rp t N σ 0 i A vs d P) (hd : d = 12 - (f : Int)) (n : Int) (hI : aIn A vs f ((14, n) :: P)) {Q : sg_S → Prop} (hQ : ∀ σ', aPo t N (den t ((14, n) :: P) i A vs f) (40 * (N - i) + pwt ((14, n) :: P)) σ' → Q σ') : V_goOn_14 σ n Q := by
  have hn : 0 ≤ n ∧ n ≤ 2 := hI.2.2.2.2.1.2.2.2.1 rfl
  unfold V_goOn_14
  rintro v rfl _
  have hw : v_told (if ¬ n = 0 then (if ¬ n = 1 then (1701606245 : Int) else (1952998766 : Int)) else (26990 : Int)) = aCo n ∧ p_told (if ¬ n = 0 then (if ¬ n = 1 then (1701606245 : Int) else (1952998766 : Int)) else (26990 : Int)) := by
    rcases (show n = 0 ∨ n = 1 ∨ n = 2 by omega) with h | h | h <;> subst h <;> exact ⟨by decide, by unfold p_told; decide⟩
  rw [vs_wo hR _ _ hw.1]
  refine ⟨p_wo hR hw.2, s_want hR (fun _ h => Rp_i hR (by have := wo_t ((if01 _).mp h); omega)) (fun σ1 F1 e1 h1 _ => ?_)⟩
  rw [if01] at e1
  refine hQ _ ⟨F1, _, _, _, _, _, h1, fun e => ?_, fun e => ⟨f, hd, ?_, ?_, ?_⟩⟩
  · have hs : aWo t i (aCo n) = false := by cases h : aWo t i (aCo n) with
      | false => rfl
      | true => exact absurd (e1.mpr ⟨rfl, h⟩) e
    simp [den, aDe, hs]
  · obtain ⟨i1, i2, i3, i4, i5, i6, m, i7, i8, i9⟩ := hI
    simp [pwf, pcn, pok, pnd, pow, pht, pcl, pgr] at i2 i3 i4 i5 i9
    exact ⟨i1, i2.2, i3, i4, i5.2.2, i6, m, i7, i8, i9⟩
  · rw [if_pos e]
    simp [den, aDe, (e1.mp e).2]
  · rw [if_pos e]
    have hi := Rp_i hR (by have := wo_t (e1.mp e).2; omega)
    simp [pwt]; omega
end STB
