/-! STEPS of the reader (5): ATOM. -/
section STE
variable {t : aK} {N : Nat} {σ : sg_S} {F : Int} {i : Nat} {A : aT} {vs : List Int} {d : Int} {P : aP} {f : Nat} {n : Int}
theorem at_num (hR : Rp t N σ 0 i A vs d P) (hd : d = 12 - (f : Int)) (hI : aIn A vs f ((9, n) :: P)) (h : t.1 i = 1) {Q : sg_S → Prop} (hQ : ∀ σ', aPo t N (den t ((9, n) :: P) i A vs f) (40 * (N - i) + pwt ((9, n) :: P)) σ' → Q σ') : V_newNode σ 0 (fun q291 σ292 => sg_R q291 → sg_F [93, 94, 95, 96, 98, 9088, 30088, 31088] σ σ292 → V_pushed σ292 (q291) (fun σ298 => sg_F [112, 35088] σ292 σ298 → V_want σ298 (1) (fun σ304 => sg_F [8088, 30088, 31088] σ298 σ304 → Q σ304))) := by
  have hl := aIn_l hI
  have hA := Rp_A hR
  have hi := Rp_i hR (by omega)
  refine s_newNode hR (by decide) (fun σ2 F2 A2 q e2 e3 e4 e5 e6 h2 _ _ => ?_)
  have hA2 := Rp_A h2
  refine s_pushed h2 ⟨by omega, by omega⟩ (by omega) (fun σ3 h3 _ => ?_)
  refine s_want h3 (fun _ _ => hi) (fun σ4 F4 e7 h4 _ => hQ _ ?_)
  refine ⟨F4, _, _, _, _, _, h4, fun e => ?_, fun e => ?_⟩
  · have e8 : A.1 = 200 := by omega
    simp [den, aDe, aAtm, h, aMk, e8, aPu]
  · obtain ⟨c1, c2⟩ := e3 (by omega)
    subst c1 c2
    rw [if_pos e]
    refine ⟨f, hd, ?_, ?_, ?_⟩
    · obtain ⟨i1, i2, i3, i4, i5, i6, m, i7, i8, i9⟩ := hI
      simp [pwf, pcn, pok, pnd, pow, pht, pcl, pgr] at i2 i3 i4 i5 i9
      refine ⟨i1, i2.2, i3, i4, pnd_m (by simp only [aNew_1]; omega) i5.2, fun v hv => ?_, m, i7, aB_n i8 i7 _ _ _, ?_⟩
      · simp only [aNew_1]
        rcases List.mem_cons.mp hv with c | c
        · subst c; omega
        · have := i6 v c; omega
      · simp only [aNew_1, List.length_cons]; omega
    · simp [den, aDe, aAtm, h, aMk, show ¬ A.1 = 200 by omega, aPu]
    · simp [pwt]; omega
theorem at_no (hR : Rp t N σ 0 i A vs d P) (hr : den t ((9, n) :: P) i A vs f = none) {Q : sg_S → Prop} (hQ : ∀ σ', aPo t N (den t ((9, n) :: P) i A vs f) (40 * (N - i) + pwt ((9, n) :: P)) σ' → Q σ') : V_want σ 0 (fun σ304 => sg_F [8088, 30088, 31088] σ σ304 → Q σ304) := by
  refine s_want hR (fun _ c => absurd rfl c) (fun σ4 F4 e7 h4 _ => hQ _ ?_)
  exact ⟨F4, _, _, _, _, _, h4, fun _ => hr, fun e => absurd rfl (e7.mp e).2⟩
theorem at_each (hR : Rp t N σ 0 i A vs d P) (hd : d = 12 - (f : Int)) (hI : aIn A vs f ((9, n) :: P)) (h : aSg t i 123 = true) {Q : sg_S → Prop} (hQ : ∀ σ', aPo t N (den t ((9, n) :: P) i A vs f) (40 * (N - i) + pwt ((9, n) :: P)) σ' → Q σ') : V_enter σ (fun σ17 => sg_F [30088, 31088, 37088] σ σ17 → V_newNode σ17 (15) (fun q22 σ23 => sg_R q22 → sg_F [93, 94, 95, 96, 98, 9088, 30088, 31088] σ17 σ23 → V_want σ23 (1) (fun σ29 => sg_F [8088, 30088, 31088] σ23 σ29 → V_pile σ29 (16) (q22) (fun σ35 => sg_F [110, 111, 32088] σ29 σ35 → V_pile σ35 (13) (58) (fun σ41 => sg_F [110, 111, 32088] σ35 σ41 → V_pile σ41 (10) (q22) (fun σ47 => sg_F [110, 111, 32088] σ41 σ47 → V_pile σ47 (0) (0) (fun σ53 => sg_F [110, 111, 32088] σ47 σ53 → Q σ53))))))) := by
  have hl := aIn_l hI
  have hA := Rp_A hR
  have hf := hI.1
  have ht := sg_t h
  have hi := Rp_i hR (by omega)
  have hs : aSg t i 40 = false ∧ aSg t i 91 = false := by
    have a1 := (of_decide_eq_true h).2
    exact ⟨bF (fun c => by have := (of_decide_eq_true c).2; omega), bF (fun c => by have := (of_decide_eq_true c).2; omega)⟩
  refine s_enter hR (by omega) (fun σ1 F1 e1 h1 _ => ?_)
  refine s_newNode h1 (by decide) (fun σ2 F2 A2 q e2 e3 e4 e5 e6 h2 _ _ => ?_)
  have hA2 := Rp_A h2
  have hq : sg_R q := ⟨by omega, by omega⟩
  refine s_want h2 (fun _ _ => hi) (fun σ3 F3 e7 h3 _ => ?_)
  refine s_pile h3 (by decide) hq (by omega) (fun σ4 h4 _ => ?_)
  refine s_pile h4 (by decide) (by decide) (by simp only [List.length_cons]; omega) (fun σ5 h5 _ => ?_)
  refine s_pile h5 (by decide) hq (by simp only [List.length_cons]; omega) (fun σ6 h6 _ => ?_)
  refine s_pile h6 (by decide) (by decide) (by simp only [List.length_cons]; omega) (fun σ7 h7 _ => hQ _ ?_)
  refine ⟨F3, _, _, _, _, _, h7, fun e => ?_, fun e => ?_⟩
  · cases f with
    | zero => simp [den, aDe, aAtm, ht, h, hs, aW, aPu]
    | succ g =>
      have e8 : A.1 = 200 := by omega
      simp [den, aDe, aAtm, ht, h, hs, aW, aEach, aMk, e8, aPu]
  · obtain ⟨c1, c2⟩ := e3 (by omega)
    subst c1 c2
    obtain ⟨g, rfl⟩ : ∃ g, f = g + 1 := ⟨f - 1, by omega⟩
    rw [if_pos e]
    refine ⟨g, by omega, ?_, ?_, ?_⟩
    · obtain ⟨i1, i2, i3, i4, i5, i6, m, i7, i8, i9⟩ := hI
      simp [pwf, pcn, pok, pnd, pow, pht, pcl, pgr] at i2 i3 i4 i5 i9
      have hp := pnd_m (S' := A.1 + 1) (by omega) i5.2
      refine ⟨by omega, ?_, ?_, ?_, ?_, ?_, m, i7, aB_n i8 i7 _ _ _, ?_⟩
      · simp [pwf, pht, pcl, pgr]; grind
      · simp [pcn, pcl]; grind
      · simp [pok]; grind
      · simp only [aNew_1]
        simp [pnd, sg_R0, hp, show sg_R 58 by decide]
        omega
      · intro v hv
        have := i6 v hv
        simp only [aNew_1]
        omega
      · simp [pow, aNew_1]; omega
    · simp only [den, aDe, aAtm, ht, h, hs, aW, aI]
      simp [aEach, aMk, show ¬ A.1 = 200 by omega, aPu]
      cases (aLv t g).1 (i + 1) (aNew A 15 (t.2.2 i) (t.2.1 i)) with
      | none => rfl
      | some r =>
        obtain ⟨i2, A2, r2⟩ := r
        simp only
        by_cases c : aSg t i2 58 = true
        · simp only [c, if_true]
        · simp [c]
    · simp [pwt]; omega
theorem at_par (hR : Rp t N σ 0 i A vs d P) (hd : d = 12 - (f : Int)) (hI : aIn A vs f ((9, n) :: P)) (h : aSg t i 40 = true) {Q : sg_S → Prop} (hQ : ∀ σ', aPo t N (den t ((9, n) :: P) i A vs f) (40 * (N - i) + pwt ((9, n) :: P)) σ' → Q σ') : V_enter σ (fun σ83 => sg_F [30088, 31088, 37088] σ σ83 → V_want σ83 (1) (fun σ89 => sg_F [8088, 30088, 31088] σ83 σ89 → V_pile σ89 (12) (0) (fun σ95 => sg_F [110, 111, 32088] σ89 σ95 → V_pile σ95 (13) (41) (fun σ101 => sg_F [110, 111, 32088] σ95 σ101 → V_pile σ101 (0) (0) (fun σ107 => sg_F [110, 111, 32088] σ101 σ107 → Q σ107))))) := by
  have hl := aIn_l hI
  have hA := Rp_A hR
  have hf := hI.1
  have ht := sg_t h
  have hi := Rp_i hR (by omega)
  refine s_enter hR (by omega) (fun σ1 F1 e1 h1 _ => ?_)
  refine s_want h1 (fun _ _ => hi) (fun σ3 F3 e7 h3 _ => ?_)
  refine s_pile h3 (by decide) (by decide) (by omega) (fun σ4 h4 _ => ?_)
  refine s_pile h4 (by decide) (by decide) (by simp only [List.length_cons]; omega) (fun σ5 h5 _ => ?_)
  refine s_pile h5 (by decide) (by decide) (by simp only [List.length_cons]; omega) (fun σ6 h6 _ => hQ _ ?_)
  refine ⟨F3, _, _, _, _, _, h6, fun e => ?_, fun e => ?_⟩
  · cases f with
    | zero => simp [den, aDe, aAtm, ht, h, aW, aPu]
    | succ g => omega
  · obtain ⟨g, rfl⟩ : ∃ g, f = g + 1 := ⟨f - 1, by omega⟩
    rw [if_pos e]
    refine ⟨g, by omega, ?_, ?_, ?_⟩
    · obtain ⟨i1, i2, i3, i4, i5, i6, m, i7, i8, i9⟩ := hI
      simp [pwf, pcn, pok, pnd, pow, pht, pcl, pgr] at i2 i3 i4 i5 i9
      refine ⟨by omega, ?_, ?_, ?_, ?_, i6, m, i7, i8, ?_⟩
      · simp [pwf, pht, pcl, pgr]; grind
      · simp [pcn, pcl]; grind
      · simp [pok]; grind
      · simp [pnd, sg_R0, i5.2, show sg_R 41 by decide]; omega
      · simp [pow]; omega
    · simp only [den, aDe, aAtm, ht, h, aW, aI]
      simp [aPar, aPu]
      cases (aLv t g).1 (i + 1) A with
      | none => rfl
      | some r =>
        obtain ⟨i2, A2, r2⟩ := r
        simp only
        by_cases c : aSg t i2 41 = true
        · simp [c]
        · simp [c]
    · simp [pwt]; omega
theorem at_row (hR : Rp t N σ 0 i A vs d P) (hd : d = 12 - (f : Int)) (hI : aIn A vs f ((9, n) :: P)) (h : aSg t i 91 = true) {Q : sg_S → Prop} (hQ : ∀ σ', aPo t N (den t ((9, n) :: P) i A vs f) (40 * (N - i) + pwt ((9, n) :: P)) σ' → Q σ') : V_enter σ (fun σ59 => sg_F [30088, 31088, 37088] σ σ59 → V_newNode σ59 (14) (fun q64 σ65 => sg_R q64 → sg_F [93, 94, 95, 96, 98, 9088, 30088, 31088] σ59 σ65 → V_want σ65 (1) (fun σ71 => sg_F [8088, 30088, 31088] σ65 σ71 → V_readList σ71 (q64) (fun σ77 => sg_F [110, 111, 32088] σ71 σ77 → Q σ77)))) := by
  have hl := aIn_l hI
  have hA := Rp_A hR
  have hf := hI.1
  have ht := sg_t h
  have hi := Rp_i hR (by omega)
  have hs : aSg t i 40 = false := by
    have a1 := (of_decide_eq_true h).2
    exact bF (fun c => by have := (of_decide_eq_true c).2; omega)
  refine s_enter hR (by omega) (fun σ1 F1 e1 h1 _ => ?_)
  refine s_newNode h1 (by decide) (fun σ2 F2 A2 q e2 e3 e4 e5 e6 h2 _ _ => ?_)
  have hA2 := Rp_A h2
  refine s_want h2 (fun _ _ => hi) (fun σ3 F3 e7 h3 _ => ?_)
  by_cases e : F3 = 0
  · obtain ⟨c1, c2⟩ := e3 (by omega)
    subst c1 c2
    obtain ⟨g, rfl⟩ : ∃ g, f = g + 1 := ⟨f - 1, by omega⟩
    rw [if_pos e] at h3
    have hkd : (aNew A 14 (t.2.2 i) (t.2.1 i)).2.1 A.1 = 14 := by simp only [aNew, aU_e]
    refine s_lst h3 ⟨hA.1, by simp only [aNew_1]; omega⟩ (by omega) (fun c => absurd hkd c) (fun _ σ4 h4 _ => hQ _ ?_)
    refine ⟨F3, _, _, _, _, _, h4, fun c => absurd e c, fun _ => ⟨g, by omega, ?_, ?_, ?_⟩⟩
    · obtain ⟨i1, i2, i3, i4, i5, i6, m, i7, i8, i9⟩ := hI
      simp [pwf, pcn, pok, pnd, pow, pht, pcl, pgr] at i2 i3 i4 i5 i9
      exact (aIn_15 (by omega) i2.2 (by omega) i4 (pnd_m (by simp only [aNew_1]; omega) i5.2) (fun v hv => by have := i6 v hv; simp only [aNew_1]; omega) ⟨hA.1, by simp only [aNew_1]; omega⟩ (by simp only [aNew_1]; omega) i7 (aB_n i8 i7 _ _ _) (by simp only [aNew_1]; omega)).2
    · rw [den_l ⟨hA.1, by simp only [aNew_1]; omega⟩ ⟨by simp only [aNew_1]; omega, by simp only [aNew_1]; omega⟩]
      have hcl : aCl (aNew A 14 (t.2.2 i) (t.2.1 i)) A.1 = 93 := by unfold aCl; rw [if_pos hkd]
      rw [hcl]
      simp only [den, aDe, aAtm, ht, h, hs, aW, aI]
      simp [aRw, aMk, show ¬ A.1 = 200 by omega, aPu]
      cases aLst t (aLv t g).1 A.1 93 (i + 1) (aNew A 14 (t.2.2 i) (t.2.1 i)) with
      | none => rfl
      | some r => rfl
    · simp [pwt]; omega
  · have hr : den t ((9, n) :: P) i A vs f = none := by
      cases f with
      | zero => simp [den, aDe, aAtm, ht, h, hs, aW, aPu]
      | succ g =>
        have e8 : A.1 = 200 := by omega
        simp [den, aDe, aAtm, ht, h, hs, aW, aRw, aMk, e8, aPu]
    refine s_lst h3 ⟨e5, e6⟩ (by omega) (fun _ _ _ σ4 h4 _ => hQ _ ?_) (fun _ σ4 h4 _ => hQ _ ?_)
    · exact ⟨F3, _, _, _, _, _, h4, fun _ => hr, fun c => absurd c e⟩
    · exact ⟨F3, _, _, _, _, _, h4, fun _ => hr, fun c => absurd c e⟩
end STE
