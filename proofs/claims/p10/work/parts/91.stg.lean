/-! STEPS of the reader (7): GENS; all steps together. -/
section STG
variable {t : aK} {N : Nat} {σ : sg_S} {F : Int} {i : Nat} {A : aT} {vs : List Int} {d : Int} {P : aP} {f : Nat} {n : Int}
theorem Rp_g1 (h : Rp t N σ F i A vs d P) (hn : 0 ≤ n ∧ n < A.1) (hl : (A.2.2.2.2.2 n).length < 4) (w p : Int) : Rp t N (sg_w (sg_wl σ 99 (4 * n + (A.2.2.2.2.2 n).length) w) 100 (4 * n + (A.2.2.2.2.2 n).length) p) F i A vs d P := by
  obtain ⟨h1, h2, h3, h4, h5, h6, h7, h8, h10⟩ := h
  refine ⟨?_, ?_, ?_, ?_, ?_, ?_, ?_, ?_, ?_⟩
  all_goals try simp only [fpl, rg_w, rg_w', rg_wl, rg_wl', Nat.reduceEqDiff, if_false, if_true, reduceIte, Int.reduceEq]
  · exact h1
  · exact h2
  · exact h3
  · exact h4
  · obtain ⟨g1, g2, g3, g4⟩ := h5
    refine ⟨g1, g2, g3, fun k hk0 hk1 => ?_⟩
    obtain ⟨k1, k2, k3, k4, k5, k6, k7, k8, k9⟩ := g4 k hk0 hk1
    refine ⟨k1, k2, k3, k4, k5, k6, k7, k8, fun j x hx => ?_⟩
    have hj := (List.getElem?_eq_some_iff.mp hx).1
    have hne : ¬ (4 * k + (j : Int) = 4 * n + ((A.2.2.2.2.2 n).length : Int)) := by
      intro e
      have : k = n := by omega
      subst this
      omega
    simp only [if_neg hne]
    exact k9 j x hx
  · exact h6
  · exact h7
  · exact h8
  · exact h10
theorem Rp_g2 (h : Rp t N σ F i A vs d P) (hn : 0 ≤ n ∧ n < A.1) (hl : (A.2.2.2.2.2 n).length < 4) {w p : Int} (hw : sg_gl σ 99 (4 * n + (A.2.2.2.2.2 n).length) = w) (hp : sg_g σ 100 (4 * n + (A.2.2.2.2.2 n).length) = p) : Rp t N (sg_w σ 98 n ((A.2.2.2.2.2 n).length + 1)) F i (aGn A n w p) vs d P := by
  obtain ⟨h1, h2, h3, h4, h5, h6, h7, h8, h10⟩ := h
  refine ⟨?_, ?_, ?_, ?_, ?_, ?_, ?_, ?_, ?_⟩
  all_goals try simp only [fpl, rg_w, rg_w', rg_wl, rg_wl', Nat.reduceEqDiff, if_false, if_true, reduceIte, Int.reduceEq]
  · exact h1
  · exact h2
  · exact h3
  · exact h4
  · obtain ⟨g1, g2, g3, g4⟩ := h5
    refine ⟨g1, g2, g3, fun k hk0 hk1 => ?_⟩
    obtain ⟨k1, k2, k3, k4, k5, k6, k7, k8, k9⟩ := g4 k hk0 hk1
    simp only [aGn]
    by_cases e : k = n
    · subst e
      simp only [aU_e, if_true, List.length_append, List.length_cons, List.length_nil]
      refine ⟨k1, k2, k3, k4, k5, k6, ?_, by omega, fun j x hx => ?_⟩
      · rw [sg_id ⟨by omega, by omega⟩]
        omega
      · by_cases e2 : j = (A.2.2.2.2.2 k).length
        · subst e2
          rw [List.getElem?_append_right (Nat.le_refl _)] at hx
          simp at hx
          rw [← hx]
          exact ⟨hw, hp⟩
        · have hj : j < (A.2.2.2.2.2 k).length := by
            have := (List.getElem?_eq_some_iff.mp hx).1
            simp at this
            omega
          rw [List.getElem?_append_left hj] at hx
          exact k9 j x hx
    · simp only [aU_n _ _ e, if_neg e]
      exact ⟨k1, k2, k3, k4, k5, k6, k7, k8, k9⟩
  · exact h6
  · exact h7
  · exact h8
  · exact h10
theorem aGn_g (A : aT) (n w p : Int) : ((aGn A n w p).2.2.2.2.2 n).length = (A.2.2.2.2.2 n).length + 1 := by
  simp [aGn, aU_e]
/-- EXPR, KID n, GENNED n behind a GEN's NAME and in -/
theorem den_g {m : Nat} (hn : n < A.1) (h0 : 0 ≤ A.1 ∧ A.1 ≤ 200) (hm : 4 - (A.2.2.2.2.2 n).length = m) : den t ((0, 0) :: (10, n) :: (17, n) :: P) i A vs f = match (match (aLv t f).1 i A with
    | none => none
    | some (i1, A1, r) => if aSg t i1 44 = true ∧ ((aKid A1 n r).2.2.2.2.1 n).length = 1 + ((aKid A1 n r).2.2.2.2.2 n).length then aGenL t (aLv t f).1 n m (i1 + 1) (aKid A1 n r) else some (i1, aKid A1 n r)) with
    | none => none
    | some (i2, A2) => match aGrd t (aLv t f).1 n i2 A2 with
      | none => none
      | some (i', A', r) => den t P i' A' (r :: vs) (f + 1) := by
  simp only [den, aDe]
  simp [aPu]
  cases he : (aLv t f).1 i A with
  | none => rfl
  | some r =>
    obtain ⟨i1, A1, r⟩ := r
    obtain ⟨g1, g2, g3, g4⟩ := (gF_lv f).1 _ _ _ _ _ he h0
    have hg : (aKid A1 n r).2.2.2.2.2 n = A.2.2.2.2.2 n := (g1.2 n hn).2.2.2.2
    simp only [aGd]
    by_cases c : aSg t i1 44 = true ∧ ((aKid A1 n r).2.2.2.2.1 n).length = 1 + ((aKid A1 n r).2.2.2.2.2 n).length
    · simp only [if_pos c]
      simp only [aGens, hg, hm]
      cases aGenL t (aLv t f).1 n m (i1 + 1) (aKid A1 n r) with
      | none => rfl
      | some r =>
        obtain ⟨i2, A2⟩ := r
        simp only
        cases aGrd t (aLv t f).1 n i2 A2 with
        | none => rfl
        | some r => rfl
    · simp only [if_neg c]
      cases aGrd t (aLv t f).1 n i1 (aKid A1 n r) with
      | none => rfl
      | some r => rfl
theorem st_16 (hR : Rp t N σ 0 i A vs d P) (hd : d = 12 - (f : Int)) (n : Int) (hI : aIn A vs f ((16, n) :: P)) {Q : sg_S → Prop} (hQ : ∀ σ', aPo t N (den t ((16, n) :: P) i A vs f) (40 * (N - i) + pwt ((16, n) :: P)) σ' → Q σ') : V_goOn_16 σ n Q := by
  have hl := aIn_l hI
  have hA := Rp_A hR
  have hf := hI.1
  have ht := Rp_t hR
  have hw0 := Rp_w hR
  have hn : 0 ≤ n ∧ n < A.1 := hI.2.2.2.2.1.2.1 (Or.inr (Or.inr (show (15 : Int) ≤ 16 by decide)))
  have hq : sg_R n := ⟨by omega, by omega⟩
  obtain ⟨n1, n2, n3, n4, -⟩ := Rp_n hR hn
  unfold V_goOn_16 V_readGen
  rw [n3, ht.2.1, ht.2.2.1, vs_nm hR]
  refine ⟨⟨by omega, by omega⟩, fun s => (¬ (A.2.2.2.2.2 n).length = 4 ∧ s = σ) ∨ ((A.2.2.2.2.2 n).length = 4 ∧ ∃ F', ¬ F' = 0 ∧ Rp t N s F' i A vs d P), ⟨fun c => Or.inl ⟨by omega, rfl⟩, fun c => ⟨⟨ht.2.2.2.1, ht.2.2.2.2.1⟩, s_wrong hR (by rw [← ht.2.1]; exact Rp_p hR) (fun σ' F' hF hR' _ => Or.inr ⟨by omega, F', hF, hR'⟩)⟩⟩, ?_⟩
  rintro σ5 - (⟨c4, rfl⟩ | ⟨c4, F', hF', hR'⟩)
  · refine ⟨fun _ => ⟨⟨by omega, by omega⟩, ⟨by omega, by omega⟩, ⟨ht.2.2.2.1, ht.2.2.2.2.1⟩, ⟨by omega, by omega⟩, ?_⟩, fun c => absurd hR.2.1 c⟩
    have h4 : (A.2.2.2.2.2 n).length < 4 := by omega
    rintro σ13 rfl σ16 rfl
    have h1 := Rp_g1 hR hn h4 (t.2.1 i) (t.2.2 i)
    have hgw : sg_gl (sg_w (sg_wl σ5 99 (4 * n + (A.2.2.2.2.2 n).length) (t.2.1 i)) 100 (4 * n + (A.2.2.2.2.2 n).length) (t.2.2 i)) 99 (4 * n + (A.2.2.2.2.2 n).length) = t.2.1 i := by
      rw [sg_gw', sg_gwl, if_pos ⟨rfl, rfl⟩, sg_idl hw0.1]
    have hgp : sg_g (sg_w (sg_wl σ5 99 (4 * n + (A.2.2.2.2.2 n).length) (t.2.1 i)) 100 (4 * n + (A.2.2.2.2.2 n).length) (t.2.2 i)) 100 (4 * n + (A.2.2.2.2.2 n).length) = t.2.2 i := by
      rw [sg_gw, if_pos ⟨rfl, rfl⟩, sg_id hw0.2]
    generalize sg_w (sg_wl σ5 99 (4 * n + (A.2.2.2.2.2 n).length) (t.2.1 i)) 100 (4 * n + (A.2.2.2.2.2 n).length) (t.2.2 i) = τ at h1 hgw hgp ⊢
    refine ⟨p_nm hR, s_want h1 (fun _ c => Rp_i hR (by have := nm_t ((if01 _).mp c); omega)) (fun σ21 F2 e2 h2 hFr2 => ?_)⟩
    rw [if01] at e2
    generalize hj : (if F2 = 0 then i + 1 else i) = j at h2
    rw [vs_wo h2 26990 374 (by decide)]
    refine ⟨p_wo h2 (by unfold p_told; decide), s_want h2 (fun _ c => Rp_i h2 (by have := wo_t ((if01 _).mp c); omega)) (fun σ28 F3 e3 h3 hFr3 => ?_)⟩
    rw [if01] at e3
    refine ⟨⟨by omega, by omega⟩, ?_⟩
    rintro σ34 rfl
    have h4' := Rp_g2 h3 hn h4 (w := t.2.1 i) (p := t.2.2 i) (by rw [sg_F_gal hFr3 rfl, sg_F_gal hFr2 rfl]; exact hgw) (by rw [sg_F_ga hFr3 rfl, sg_F_ga hFr2 rfl]; exact hgp)
    refine s_pile h4' (by decide) hq (by omega) (fun σ4 h4 _ => ?_)
    refine s_pile h4 (by decide) hq (by simp only [List.length_cons]; omega) (fun σ5 h5 _ => ?_)
    refine s_pile h5 (by decide) (by decide) (by simp only [List.length_cons]; omega) (fun σ6 h6 _ _ => ?_)
    obtain ⟨m, hm⟩ : ∃ m, 4 - (A.2.2.2.2.2 n).length = m + 1 := ⟨4 - (A.2.2.2.2.2 n).length - 1, by omega⟩
    refine hQ _ ⟨F3, _, _, _, _, _, h6, fun e => ?_, fun e => ?_⟩
    · by_cases c1 : aNm t i = true
      · have k2 := e2.mpr ⟨rfl, c1⟩
        rw [if_pos k2] at hj
        subst hj
        have c2 : aWo t (i + 1) 374 = false := bF (fun c => e (e3.mpr ⟨k2, c⟩))
        simp [den, aDe, aGens, hm, aGenL, c1, c2, aPu]
      · simp [den, aDe, aGens, hm, aGenL, c1, aPu]
    · have k2 := (e3.mp e).1
      have c1 := (e2.mp k2).2
      rw [if_pos k2] at hj
      subst hj
      have c2 := (e3.mp e).2
      rw [if_pos e]
      have hi := Rp_i h2 (by have := wo_t c2; omega)
      refine ⟨f, hd, ?_, ?_, ?_⟩
      · obtain ⟨i1, i2, i3, i4, i5, i6, m, i7, i8, i9⟩ := hI
        simp [pwf, pcn, pok, pnd, pow, pht, pcl, pgr] at i2 i3 i4 i5 i9
        refine ⟨i1, ?_, ?_, ?_, ?_, i6, m, i7, aB_g i8 _ _ _, ?_⟩
        · simp [pwf, pht, pcl, pgr]; grind
        · simp [pcn, pcl]; grind
        · simp [pok]; grind
        · simp only [aGn_1]
          simp [pnd, sg_R0, i5.2.2]
          omega
        · simp [pow, aGn_1]; omega
      · rw [den_g (m := m) (by simp only [aGn_1]; omega) (by simp only [aGn_1]; omega) (by rw [aGn_g]; omega)]
        simp only [den, aDe, aGens, hm, aGenL, c1, c2]
        simp [aPu]
        cases (aLv t f).1 (i + 2) (aGn A n (t.2.1 i) (t.2.2 i)) with
        | none => rfl
        | some r =>
          obtain ⟨i1, A1, r⟩ := r
          simp only
          by_cases c5 : aSg t i1 44 = true ∧ ((aKid A1 n r).2.2.2.2.1 n).length = 1 + ((aKid A1 n r).2.2.2.2.2 n).length
          · simp only [if_pos c5]
            cases aGenL t (aLv t f).1 n m (i1 + 1) (aKid A1 n r) with
            | none => rfl
            | some r =>
              obtain ⟨i2, A2⟩ := r
              simp only
              cases aGrd t (aLv t f).1 n i2 A2 with
              | none => rfl
              | some r => rfl
          · simp only [if_neg c5]
            cases aGrd t (aLv t f).1 n i1 (aKid A1 n r) with
            | none => rfl
            | some r => rfl
      · simp [pwt]; omega
  · rw [hR'.2.1]
    refine ⟨fun c => absurd c hF', fun _ _ => hQ _ ⟨F', _, _, _, _, _, hR', fun _ => ?_, fun c => absurd c hF'⟩⟩
    simp [den, aDe, aGens, c4, aGenL, aPu]
theorem st_17 (hR : Rp t N σ 0 i A vs d P) (hd : d = 12 - (f : Int)) (n : Int) (hI : aIn A vs f ((17, n) :: P)) {Q : sg_S → Prop} (hQ : ∀ σ', aPo t N (den t ((17, n) :: P) i A vs f) (40 * (N - i) + pwt ((17, n) :: P)) σ' → Q σ') : V_goOn_d σ n Q := by
  have hl := aIn_l hI
  have hA := Rp_A hR
  have hf := hI.1
  have hn : 0 ≤ n ∧ n < A.1 := hI.2.2.2.2.1.2.1 (Or.inr (Or.inr (show (15 : Int) ≤ 17 by decide)))
  have hq : sg_R n := ⟨by omega, by omega⟩
  obtain ⟨n1, n2, n3, n4, n5⟩ := Rp_n hR hn
  have hden : (aSg t i 44 = false ∨ ¬ (A.2.2.2.2.1 n).length = 1 + (A.2.2.2.2.2 n).length) → den t ((17, n) :: P) i A vs f = match aGrd t (aLv t f).1 n i A with
      | none => none
      | some (i', A', r) => den t P i' A' (r :: vs) (f + 1) := by
    intro c
    have : ¬ (aSg t i 44 = true ∧ (A.2.2.2.2.1 n).length = 1 + (A.2.2.2.2.2 n).length) := by
      rintro ⟨a, b⟩
      rcases c with c | c
      · rw [a] at c; cases c
      · exact c b
    simp only [den, aDe, aGd, if_neg this]
    simp [aPu]
    cases aGrd t (aLv t f).1 n i A with
    | none => rfl
    | some r => rfl
  have plain : (aSg t i 44 = false ∨ ¬ (A.2.2.2.2.1 n).length = 1 + (A.2.2.2.2.2 n).length) → aSg t i 124 = false → V_pile σ (11) n (fun σ6 => sg_F [110, 111, 32088] σ σ6 → V_pile σ6 (12) (0) (fun σ12 => sg_F [110, 111, 32088] σ6 σ12 → V_pile σ12 (13) (125) (fun σ18 => sg_F [110, 111, 32088] σ12 σ18 → sg_F [110, 111, 8088, 30088, 31088, 32088] σ σ18 → Q σ18))) := by
    intro c c2
    refine s_pile hR (by decide) hq (by omega) (fun σ4 h4 _ => ?_)
    refine s_pile h4 (by decide) (by decide) (by simp only [List.length_cons]; omega) (fun σ5 h5 _ => ?_)
    refine s_pile h5 (by decide) (by decide) (by simp only [List.length_cons]; omega) (fun σ6 h6 _ _ => ?_)
    refine hQ _ ⟨0, _, _, _, _, _, h6, fun e => absurd rfl e, fun _ => ⟨f, hd, ?_, ?_, ?_⟩⟩
    · obtain ⟨i1, i2, i3, i4, i5, i6, m, i7, i8, i9⟩ := hI
      simp [pwf, pcn, pok, pnd, pow, pht, pcl, pgr] at i2 i3 i4 i5 i9
      refine ⟨i1, ?_, ?_, ?_, ?_, i6, m, i7, i8, ?_⟩
      · simp [pwf, pht, pcl, pgr]; grind
      · simp [pcn, pcl]; grind
      · simp [pok]; grind
      · simp [pnd, sg_R0, i5.2.2]
        omega
      · simp [pow]; omega
    · rw [hden c]
      simp only [den, aDe, aGrd, c2, aEnd]
      by_cases c3 : aSg t i 125 = true
      · simp [c3]
      · simp [c3]
    · simp [pwt]; omega
  have guard : (aSg t i 44 = false ∨ ¬ (A.2.2.2.2.1 n).length = 1 + (A.2.2.2.2.2 n).length) → aSg t i 124 = true → V_want σ (1) (fun σ24 => sg_F [8088, 30088, 31088] σ σ24 → V_pile σ24 (11) n (fun σ30 => sg_F [110, 111, 32088] σ24 σ30 → V_pile σ30 (12) (0) (fun σ36 => sg_F [110, 111, 32088] σ30 σ36 → V_pile σ36 (13) (125) (fun σ42 => sg_F [110, 111, 32088] σ36 σ42 → V_pile σ42 (10) n (fun σ48 => sg_F [110, 111, 32088] σ42 σ48 → V_pile σ48 (0) (0) (fun σ54 => sg_F [110, 111, 32088] σ48 σ54 → sg_F [110, 111, 8088, 30088, 31088, 32088] σ σ54 → Q σ54)))))) := by
    intro c c2
    have hi := Rp_i hR (by have := sg_t c2; omega)
    refine s_want hR (fun _ _ => hi) (fun σ1 F1 e1 h1 _ => ?_)
    have e : F1 = 0 := by omega
    subst e
    rw [if_pos rfl] at h1
    refine s_pile h1 (by decide) hq (by omega) (fun σ4 h4 _ => ?_)
    refine s_pile h4 (by decide) (by decide) (by simp only [List.length_cons]; omega) (fun σ5 h5 _ => ?_)
    refine s_pile h5 (by decide) (by decide) (by simp only [List.length_cons]; omega) (fun σ6 h6 _ => ?_)
    refine s_pile h6 (by decide) hq (by simp only [List.length_cons]; omega) (fun σ7 h7 _ => ?_)
    refine s_pile h7 (by decide) (by decide) (by simp only [List.length_cons]; omega) (fun σ8 h8 _ _ => ?_)
    refine hQ _ ⟨0, _, _, _, _, _, h8, fun e => absurd rfl e, fun _ => ⟨f, hd, ?_, ?_, ?_⟩⟩
    · obtain ⟨i1, i2, i3, i4, i5, i6, m, i7, i8, i9⟩ := hI
      simp [pwf, pcn, pok, pnd, pow, pht, pcl, pgr] at i2 i3 i4 i5 i9
      refine ⟨i1, ?_, ?_, ?_, ?_, i6, m, i7, i8, ?_⟩
      · simp [pwf, pht, pcl, pgr]; grind
      · simp [pcn, pcl]; grind
      · simp [pok]; grind
      · simp [pnd, sg_R0, i5.2.2]
        omega
      · simp [pow]; omega
    · rw [hden c]
      simp only [den, aDe, aGrd, c2, aEnd]
      simp [aPu]
      cases (aLv t f).1 (i + 1) A with
      | none => rfl
      | some r =>
        obtain ⟨i1, A1, r⟩ := r
        simp only
        by_cases c3 : aSg t i1 125 = true
        · simp [c3]
        · simp [c3]
    · simp [pwt]; omega
  unfold V_goOn_d V_readGenned
  rw [vs_sg hR 44, vs_sg hR 124, n2, n3]
  refine ⟨p_sg hR 44, fun h => ⟨p_sg hR 124, fun h2 => ?_, fun h2 => ?_⟩, fun h => ⟨⟨by omega, by omega⟩, ⟨by omega, by omega⟩, fun h2 => ⟨p_sg hR 124, fun h3 => ?_, fun h3 => ?_⟩, fun h2 => ?_⟩⟩
  · exact plain (Or.inl ((if01n _).mp h)) ((if01n _).mp h2)
  · exact guard (Or.inl ((if01n _).mp h)) ((if01 _).mp h2)
  · exact plain (Or.inr (by omega)) ((if01n _).mp h3)
  · exact guard (Or.inr (by omega)) ((if01 _).mp h3)
  · rw [if01] at h
    have hi := Rp_i hR (by have := sg_t h; omega)
    refine s_want hR (fun _ _ => hi) (fun σ1 F1 e1 h1 _ => ?_)
    have e : F1 = 0 := by omega
    subst e
    rw [if_pos rfl] at h1
    refine s_pile h1 (by decide) hq (by omega) (fun σ4 h4 _ _ => ?_)
    refine hQ _ ⟨0, _, _, _, _, _, h4, fun e => absurd rfl e, fun _ => ⟨f, hd, ?_, ?_, ?_⟩⟩
    · obtain ⟨i1, i2, i3, i4, i5, i6, m, i7, i8, i9⟩ := hI
      simp [pwf, pcn, pok, pnd, pow, pht, pcl, pgr] at i2 i3 i4 i5 i9
      refine ⟨i1, ?_, ?_, ?_, ?_, i6, m, i7, i8, ?_⟩
      · simp [pwf, pht, pcl, pgr]; grind
      · simp [pcn, pcl]; grind
      · simp [pok]; grind
      · simp [pnd, i5.2.2]
        omega
      · simp [pow]; omega
    · have hc : aSg t i 44 = true ∧ (A.2.2.2.2.1 n).length = 1 + (A.2.2.2.2.2 n).length := ⟨h, by omega⟩
      simp only [den, aDe, aGd, if_pos hc]
      simp
    · simp [pwt]; omega
end STG
/-! THE READER of the reference: a whole EXPR. -/
section WHL
variable {t : aK} {N : Nat} {σ : sg_S} {F : Int} {i : Nat} {A : aT} {vs : List Int} {d : Int} {P : aP} {f : Nat} {w n : Int}
theorem st_all (hR : Rp t N σ 0 i A vs d P) (hd : d = 12 - (f : Int)) (hI : aIn A vs f ((w, n) :: P)) {Q : sg_S → Prop} (hQ : ∀ σ', aPo t N (den t ((w, n) :: P) i A vs f) (40 * (N - i) + pwt ((w, n) :: P)) σ' → Q σ') : V_goOn σ w n Q := by
  have hw : 0 ≤ w ∧ w ≤ 17 := hI.2.2.2.2.1.1
  have hv : (w = 2 ∨ w = 4 ∨ w = 6 ∨ w = 8 ∨ w = 10) → ∃ l r, vs = l :: r := by
    intro c
    have h := hI.2.2.2.1
    cases vs with
    | nil => rcases c with c | c | c | c | c <;> subst c <;> simp [pok] at h
    | cons l r => exact ⟨l, r, rfl⟩
  unfold V_goOn
  refine ⟨fun e => ?_, fun e0 => ⟨fun e => ?_, fun e1 => ⟨fun e => ?_, fun e2 => ⟨fun e => ?_, fun e3 => ⟨fun e => ?_, fun e4 => ⟨fun e => ?_, fun e5 => ⟨fun e => ?_, fun e6 => ⟨fun e => ?_, fun e7 => ⟨fun e => ?_, fun e8 => ⟨fun e => ?_, fun e9 => ⟨fun e => ?_, fun e10 => ⟨fun e => ?_, fun e11 => ⟨fun e => ?_, fun e12 => ⟨fun e => ?_, fun e13 => ⟨fun e => ?_, fun e14 => ⟨fun e => ?_, fun e15 => ⟨fun e => ?_, fun e16 => ?_⟩⟩⟩⟩⟩⟩⟩⟩⟩⟩⟩⟩⟩⟩⟩⟩⟩
  · subst e; exact st_0 hR hd n hI hQ
  · subst e; exact st_1 hR hd n hI hQ
  · subst e; obtain ⟨l, r, rfl⟩ := hv (by omega); exact st_2 hR hd n hI hQ
  · subst e; exact st_3 hR hd n hI hQ
  · subst e; obtain ⟨l, r, rfl⟩ := hv (by omega); exact st_4 hR hd n hI hQ
  · subst e; exact st_5 hR hd n hI hQ
  · subst e; obtain ⟨l, r, rfl⟩ := hv (by omega); exact st_6 hR hd n hI hQ
  · subst e; exact st_7 hR hd n hI hQ
  · subst e; obtain ⟨l, r, rfl⟩ := hv (by omega); exact st_8 hR hd n hI hQ
  · subst e; exact st_9 hR hd n hI hQ
  · subst e; obtain ⟨l, r, rfl⟩ := hv (by omega); exact st_10 hR hd n hI hQ
  · subst e; exact st_11 hR hd n hI hQ
  · subst e; exact st_12 hR hd n hI hQ
  · subst e; exact st_13 hR hd n hI hQ
  · subst e; exact st_14 hR hd n hI hQ
  · subst e; exact st_15 hR hd n hI hQ
  · subst e; exact st_16 hR hd n hI hQ
  · have e : w = 17 := by omega
    subst e; exact st_17 hR hd n hI hQ
theorem Rp_pop {e : Int × Int} (h : Rp t N σ F i A vs d (e :: P)) : Rp t N (sg_w σ 88 31 (sg_g σ 88 31 - 1)) F i A vs d P ∧ sg_g σ 88 31 = P.length + 1 ∧ sg_g σ 110 (sg_g σ 88 31 - 1) = e.1 ∧ sg_g σ 111 (sg_g σ 88 31 - 1) = e.2 := by
  obtain ⟨h1, h2, h3, h4, h5, h6, h7, h8, h10⟩ := h
  have hp := pst_n h8
  simp only [List.length_cons] at hp
  have hr := sg_Rg σ 88 31
  refine ⟨⟨?_, ?_, ?_, ?_, ?_, ?_, ?_, ?_, ?_⟩, by omega, h8.2.1, h8.2.2.1⟩
  all_goals try simp only [fpl, rg_w, rg_w', rg_wl, rg_wl', Nat.reduceEqDiff, if_false, if_true, reduceIte, Int.reduceEq]
  · exact h1
  · exact h2
  · exact h3
  · exact h4
  · exact h5
  · exact h6
  · exact h7
  · rw [sg_id (z := sg_g σ 88 31 - 1) ⟨by omega, by omega⟩]
    exact h8.2.2.2
  · exact h10
/-- what the reader finds as it begins: tokens, no fault, the tree -/
def Rb (t : aK) (N : Nat) (σ : sg_S) (i : Nat) (A : aT) : Prop := tkR t N (sg_g σ 90) (sg_g σ 91) (sg_gl σ 92) ∧ sg_g σ 88 29 = 0 ∧ sg_g σ 88 7 = i ∧ i ≤ N ∧ trR A (sg_g σ 88 8) (sg_g σ 93) (sg_g σ 94) (sg_gl σ 95) (sg_g σ 96) (sg_g σ 97) (sg_g σ 98) (sg_gl σ 99) (sg_g σ 100) ∧ aB A A.1 ∧ fpl σ
theorem s_whole {Q : Int → sg_S → Prop} (h : Rb t N σ i A) (k1 : ∀ i' A' q, (aLv t 12).1 i A = some (i', A', q) → ∀ σ', Rb t N σ' i' A' → 0 ≤ q ∧ q < A'.1 → Q q σ') (k2 : (aLv t 12).1 i A = none → ∀ σ', ¬ sg_g σ' 88 29 = 0 → fpl σ' → Q 0 σ') : V_readWhole σ Q := by
  obtain ⟨h1, h2, h3, h4, h5, hB, h10⟩ := h
  unfold V_readWhole
  rintro σ1 rfl σ4 rfl σ7 rfl
  have h0 : Rp t N (sg_w (sg_w (sg_w σ 88 31 0) 88 34 0) 88 36 0) 0 i A [] 0 [] := by
    refine ⟨?_, ?_, ?_, ?_, ?_, ?_, ?_, ?_, ?_⟩
    all_goals try simp only [fpl, rg_w, rg_w', rg_wl, rg_wl', Nat.reduceEqDiff, if_false, if_true, reduceIte, Int.reduceEq]
    · exact h1
    · exact h2
    · exact h3
    · exact h4
    · exact h5
    · rw [sg_id (by decide)]; rfl
    · exact sg_id (by decide)
    · rw [sg_id (by decide)]; rfl
    · exact h10
  generalize sg_w (sg_w (sg_w σ 88 31 0) 88 34 0) 88 36 0 = τ at h0 ⊢
  have hR : den t [(0, 0)] i A [] 12 = aPu ((aLv t 12).1 i A) [] 12 := by
    simp [den, aDe]
    cases aPu ((aLv t 12).1 i A) [] 12 with
    | none => rfl
    | some r => rfl
  have hA := Rp_A h0
  refine s_pile h0 (by decide) (by decide) (by simp) (fun σ11 h11 _ => ?_)
  refine ⟨fun m s => aPo t N (den t [(0, 0)] i A [] 12) m s, fun s => ∃ F i' A' vs d P, Rp t N s F i' A' vs d P ∧ (¬ F = 0 → den t [(0, 0)] i A [] 12 = none) ∧ (F = 0 → P = [] ∧ ∃ f : Nat, d = 12 - f ∧ aIn A' vs f P ∧ den t P i' A' vs f = den t [(0, 0)] i A [] 12), ⟨40 * (N - i) + 11, ?_⟩, ?_, ?_⟩
  · refine ⟨0, i, A, [], 0, _, h11, fun e => absurd rfl e, fun _ => ⟨12, by omega, ?_, rfl, ?_⟩⟩
    · refine ⟨by omega, ?_, ?_, ?_, ?_, fun v hv => absurd hv (by simp), A.1, hA.1, hB, ?_⟩
      · simp [pwf, pht, pcl, pgr]
      · simp [pcn, pcl]
      · simp [pok]
      · simp [pnd, sg_R0]; decide
      · simp [pow]
    · simp [pwt]
  · rintro m s - ⟨F, i', A', vs, d, P, hP, e1, e2⟩
    have hp := pst_n hP.2.2.2.2.2.2.2.1
    refine ⟨fun c => ⟨F, i', A', vs, d, P, hP, e1, fun e => ?_⟩, fun c => ⟨fun c2 => ⟨F, i', A', vs, d, P, hP, e1, fun e => absurd (hP.2.1.trans e) c2⟩, fun c2 => ?_⟩⟩
    · obtain ⟨f, a1, a2, a3, -⟩ := e2 e
      refine ⟨?_, f, a1, a2, a3⟩
      cases P with
      | nil => rfl
      | cons x y => simp at hp; omega
    · have hF : F = 0 := hP.2.1.symm.trans c2
      obtain ⟨f, a1, a2, a3, a4⟩ := e2 hF
      subst hF
      cases P with
      | nil => simp at hp; omega
      | cons x y =>
        obtain ⟨b1, b2, b3, b4⟩ := Rp_pop hP
        have hl := aIn_l a2
        refine ⟨⟨by omega, by omega⟩, ?_⟩
        rintro σ39 rfl
        refine ⟨⟨by omega, by omega⟩, ?_⟩
        rw [b3, b4]
        refine st_all b1 a1 a2 (fun σ' hs _ => ⟨_, a4, ?_⟩)
        rw [← a3]
        exact hs
  · rintro s - ⟨F, i', A', vs, d, P, hP, e1, e2⟩
    rw [hP.2.1]
    refine ⟨fun c => k2 ?_ s (by rw [hP.2.1]; exact c) hP.2.2.2.2.2.2.2.2, fun c => ?_⟩
    · have := e1 c
      rw [hR] at this
      cases hE : (aLv t 12).1 i A with
      | none => rfl
      | some r => rw [hE] at this; simp [aPu] at this
    · subst c
      obtain ⟨rfl, f, a1, a2, a3⟩ := e2 rfl
      have hv := a2.2.2.2.1
      simp only [pok] at hv
      obtain ⟨q, rfl⟩ : ∃ q, vs = [q] := by
        cases vs with
        | nil => simp at hv
        | cons q r =>
          cases r with
          | nil => exact ⟨q, rfl⟩
          | cons _ _ => simp at hv
      rw [hR] at a3
      simp only [den] at a3
      cases hE : (aLv t 12).1 i A with
      | none => rw [hE] at a3; simp [aPu] at a3
      | some r =>
        obtain ⟨i2, A2, q2⟩ := r
        rw [hE] at a3
        simp only [aPu] at a3
        cases a3
        refine s_popped hP (by simp) (fun σ' h' _ _ => ?_)
        refine k1 _ _ _ hE σ' ⟨h'.1, h'.2.1, h'.2.2.1, h'.2.2.2.1, h'.2.2.2.2.1, ?_, h'.2.2.2.2.2.2.2.2⟩ (a2.2.2.2.2.2.1 q (by simp))
        obtain ⟨m, b1, b2, b3⟩ := a2.2.2.2.2.2.2
        intro k hk0 hk1
        have := b2 k hk0 hk1
        simp [pow] at b3
        omega
end WHL
/-! THE READER of the reference: TYPES, PARAMS, DEFS. -/
abbrev aDf : Type := Int × Int × List (Int × Int × Int) × Int
section AD
variable (t : aK)
def aTyL : Nat → Int → Nat → Nat × Int
  | 0, n, i => (i, n)
  | m + 1, n, i => if aSg t i 91 = true then aTyL m (n + 1) (i + 1) else (i, n)
def aTyR : Nat → Nat → Option Nat
  | 0, i => some i
  | m + 1, i => if aSg t i 93 = true then aTyR m (i + 1) else none
def aTy (N i : Nat) : Option (Nat × Int) := if aWo t (aTyL t (N - i) 0 i).1 14980 = true then (match aTyR t (aTyL t (N - i) 0 i).2.toNat ((aTyL t (N - i) 0 i).1 + 1) with
  | none => none
  | some i2 => some (i2, (aTyL t (N - i) 0 i).2)) else none
def aPaL (N : Nat) : Nat → List (Int × Int × Int) → Nat → Option (Nat × List (Int × Int × Int))
  | 0, _, _ => none
  | m + 1, ps, i => if aNm t i = true then (if aSg t (i + 1) 58 = true then (match aTy t N (i + 2) with
    | none => none
    | some (i1, ty) => if aSg t i1 44 = true then aPaL N m (ps ++ [(t.2.1 i, t.2.2 i, ty)]) (i1 + 1) else some (i1, ps ++ [(t.2.1 i, t.2.2 i, ty)])) else none) else none
def aPas (N i : Nat) : Option (Nat × List (Int × Int × Int)) := if aSg t i 41 = true then some (i, []) else aPaL t N 6 [] i
/-- what stands behind the def of a DEF -/
def aDf1 (N i : Nat) (A : aT) : Option (Nat × aT × aDf) := if aNm t (i + 1) = true then (if aSg t (i + 2) 40 = true then (match aPas t N (i + 3) with
  | none => none
  | some (i1, ps) => if aSg t i1 41 = true then (if aSg t (i1 + 1) 61 = true then (match (aLv t 12).1 (i1 + 2) A with
    | none => none
    | some (i2, A2, q) => if aSg t i2 59 = true then some (i2 + 1, A2, (t.2.1 (i + 1), t.2.2 (i + 1), ps, q)) else none) else none) else none) else none) else none
def aDfs (N : Nat) : Nat → List aDf → Nat → aT → Option (Nat × aT × List aDf)
  | 0, D, i, A => if aWo t i 6606 = true then none else some (i, A, D)
  | m + 1, D, i, A => if aWo t i 6606 = true then (match aDf1 t N i A with
    | none => none
    | some (i1, A1, x) => aDfs N m (D ++ [x]) i1 A1) else some (i, A, D)
def aPg (N : Nat) (A : aT) : Option (aT × List aDf × Int) := match aDfs t N 12 [] 0 A with
  | none => none
  | some (i, A1, D) => match (aLv t 12).1 i A1 with
    | none => none
    | some (i2, A2, q) => if t.1 i2 = 0 then some (A2, D, q) else none
end AD
/-- tokens, fault, token, tree -/
def Rq (t : aK) (N : Nat) (σ : sg_S) (F : Int) (i : Nat) (A : aT) : Prop := tkR t N (sg_g σ 90) (sg_g σ 91) (sg_gl σ 92) ∧ sg_g σ 88 29 = F ∧ sg_g σ 88 7 = i ∧ i ≤ N ∧ trR A (sg_g σ 88 8) (sg_g σ 93) (sg_g σ 94) (sg_gl σ 95) (sg_g σ 96) (sg_g σ 97) (sg_g σ 98) (sg_gl σ 99) (sg_g σ 100) ∧ aB A A.1 ∧ fpl σ
section RQS
variable {t : aK} {N : Nat} {σ : sg_S} {F : Int} {i : Nat} {A : aT}
theorem Rq_t (h : Rq t N σ F i A) : sg_g σ 90 (sg_g σ 88 7) = t.1 i ∧ sg_g σ 91 (sg_g σ 88 7) = t.2.2 i ∧ sg_gl σ 92 (sg_g σ 88 7) = t.2.1 i ∧ 0 ≤ sg_g σ 88 7 ∧ sg_g σ 88 7 < 1210 ∧ i ≤ N ∧ N < 1210 := by
  obtain ⟨h1, h2, h3, h4, h5, h6, h10⟩ := h
  rw [h3]
  have h9 := h1.1
  obtain ⟨e1, e2, e3⟩ := h1.2.1 i h4
  exact ⟨e1, e2, e3, by omega, by omega, h4, h9⟩
theorem Rq_p (h : Rq t N σ F i A) : 0 ≤ sg_g σ 91 (sg_g σ 88 7) ∧ sg_g σ 91 (sg_g σ 88 7) ≤ 1200 := by
  rw [(Rq_t h).2.1]
  exact h.1.2.2.2.2 i h.2.2.2.1
theorem Rq_i (h : Rq t N σ F i A) (hs : 1 ≤ t.1 i ∧ t.1 i ≤ 3) : i < N := by
  obtain ⟨h1, h2, h3, h4, h5, h6, h10⟩ := h
  have := h1.2.2.2.1
  by_cases e : i = N
  · subst e; omega
  · omega
theorem pq_sg (h : Rq t N σ F i A) (ch : Int) : p_isSignNow σ ch := by
  have h1 := Rq_t h
  unfold p_isSignNow
  exact ⟨⟨h1.2.2.2.1, h1.2.2.2.2.1⟩, fun _ => trivial, fun _ => ⟨fun _ => trivial, fun _ => trivial⟩⟩
theorem vq_sg (h : Rq t N σ F i A) (ch : Int) : v_isSignNow σ ch = if aSg t i ch = true then 1 else 0 := by
  have h1 := Rq_t h
  unfold v_isSignNow aSg
  rw [h1.1, h1.2.2.1]
  by_cases a : t.1 i = 3 <;> by_cases b : t.2.1 i = ch <;> simp [a, b]
theorem pq_nm (h : Rq t N σ F i A) : p_isName σ := by
  have h1 := Rq_t h
  unfold p_isName
  exact ⟨⟨h1.2.2.2.1, h1.2.2.2.2.1⟩, fun _ => trivial, fun _ => ⟨fun _ => trivial, fun _ => trivial⟩⟩
theorem vq_nm (h : Rq t N σ F i A) : v_isName σ = if aNm t i = true then 1 else 0 := by
  have h1 := Rq_t h
  unfold v_isName aNm
  rw [h1.1, h1.2.2.1]
  by_cases a : t.1 i = 2 <;> by_cases b : v_isReserved (t.2.1 i) = 0 <;> simp [a, b]
theorem pq_wo (h : Rq t N σ F i A) {L : Int} (hL : p_told L) : p_isWord σ L := by
  have h1 := Rq_t h
  unfold p_isWord
  exact ⟨⟨h1.2.2.2.1, h1.2.2.2.2.1⟩, fun _ => trivial, fun _ => ⟨hL, fun _ => trivial, fun _ => trivial⟩⟩
theorem vq_wo (h : Rq t N σ F i A) (L w : Int) (hw : v_told L = w) : v_isWord σ L = if aWo t i w = true then 1 else 0 := by
  have h1 := Rq_t h
  unfold v_isWord aWo
  rw [h1.1, h1.2.2.1, hw]
  by_cases a : t.1 i = 2 <;> by_cases b : t.2.1 i = w <;> simp [a, b]
theorem sq_wrong {Q : sg_S → Prop} {p : Int} (h : Rq t N σ F i A) (hp : 0 ≤ p ∧ p ≤ 1200) (k : ∀ σ' F', ¬ F' = 0 → Rq t N σ' F' i A → Q σ') : V_wrong σ 1 p Q := by
  unfold V_wrong
  refine ⟨fun e => k σ F (by rw [← h.2.1]; exact e) h, fun _ => ?_⟩
  obtain ⟨h1, h2, h3, h4, h5, h6, h10⟩ := h
  rintro σ2 rfl σ5 rfl
  refine k _ 1 (by decide) ?_
  refine ⟨?_, ?_, ?_, ?_, ?_, h6, ?_⟩
  all_goals try simp only [fpl, rg_w, rg_w', Nat.reduceEqDiff, if_false, if_true, reduceIte, Int.reduceEq]
  · exact h1
  · exact sg_id (by decide)
  · exact h3
  · exact h4
  · exact h5
  · rw [sg_id (z := p) ⟨by omega, by omega⟩]; exact ⟨by omega, by omega⟩
theorem sq_want {Q : sg_S → Prop} {b : Int} (h : Rq t N σ F i A) (hi : F = 0 → ¬ b = 0 → i < N) (k : ∀ σ' F', (F' = 0 ↔ F = 0 ∧ ¬ b = 0) → Rq t N σ' F' (if F' = 0 then i + 1 else i) A → Q σ') : V_want σ b Q := by
  have ht := Rq_t h
  unfold V_want
  refine ⟨fun σ4 => ∃ F', (F' = 0 ↔ F = 0 ∧ ¬ b = 0) ∧ Rq t N σ4 F' i A, ⟨fun hb => ⟨F, by omega, h⟩, fun hb => ⟨⟨ht.2.2.2.1, ht.2.2.2.2.1⟩, sq_wrong h (Rq_p h) (fun σ' F' hF hR _ => ⟨F', by omega, hR⟩)⟩⟩, ?_⟩
  rintro σ4 - ⟨F', hF', hR⟩
  have e7 : sg_g σ 88 7 = i := h.2.2.1
  obtain ⟨h1, h2, h3, h4, h5, h6, h10⟩ := hR
  rw [h2]
  refine ⟨fun e => k σ4 F' hF' ?_, fun e => ⟨⟨by omega, by omega⟩, ?_⟩⟩
  · rw [if_neg e]
    exact ⟨h1, h2, h3, h4, h5, h6, h10⟩
  · rintro σ9 rfl
    refine k _ F' hF' ?_
    rw [if_pos e]
    have hi2 := hi (hF'.mp e).1 (hF'.mp e).2
    refine ⟨?_, ?_, ?_, ?_, ?_, h6, ?_⟩
    all_goals try simp only [fpl, rg_w, rg_w', Nat.reduceEqDiff, if_false, if_true, reduceIte, Int.reduceEq]
    · exact h1
    · exact h2
    · rw [sg_id (z := sg_g σ 88 7 + 1) ⟨by omega, by omega⟩, e7]
      omega
    · exact hi2
    · exact h5
    · exact h10
theorem Rq_F {L : List Nat} {σ' : sg_S} (h : Rq t N σ F i A) (hF : sg_F L σ σ') (h1 : sg_ca L 90 = true ∧ sg_ca L 91 = true ∧ sg_ca L 92 = true ∧ sg_ca L 93 = true ∧ sg_ca L 94 = true ∧ sg_ca L 95 = true ∧ sg_ca L 96 = true ∧ sg_ca L 97 = true ∧ sg_ca L 98 = true ∧ sg_ca L 99 = true ∧ sg_ca L 100 = true) (h2 : sg_cv L 88 29 = false ∧ sg_cv L 88 7 = false ∧ sg_cv L 88 8 = false ∧ sg_cv L 88 30 = false) : Rq t N σ' F i A := by
  obtain ⟨c1, c2, c3, c4, c5, c6, c7, c8, c9, c10, c11⟩ := h1
  have r : ∀ {a : Nat}, sg_ca L a = true → a < 1000 → sg_g σ' a = sg_g σ a := fun ha hc => funext (fun k => sg_F_ga hF ha hc)
  have rl : ∀ {a : Nat}, sg_ca L a = true → a < 1000 → sg_gl σ' a = sg_gl σ a := fun ha hc => funext (fun k => sg_F_gal hF ha hc)
  unfold Rq fpl
  rw [r c1 (by decide), r c2 (by decide), rl c3 (by decide), r c4 (by decide), r c5 (by decide), rl c6 (by decide), r c7 (by decide), r c8 (by decide), r c9 (by decide), rl c10 (by decide), r c11 (by decide), sg_F_g hF h2.1, sg_F_g hF h2.2.1, sg_F_g hF h2.2.2.1, sg_F_g hF h2.2.2.2]
  exact h
theorem s_type {Q : Int → sg_S → Prop} (h : Rq t N σ 0 i A) (k1 : ∀ i' ty, aTy t N i = some (i', ty) → 0 ≤ ty ∧ ty ≤ 1300 → ∀ σ', Rq t N σ' 0 i' A → Q ty σ') (k2 : aTy t N i = none → ∀ q σ' F' i', ¬ F' = 0 → Rq t N σ' F' i' A → Q q σ') : V_readType σ Q := by
  have hN := (Rq_t h).2.2.2.2.2
  unfold V_readType
  refine ⟨fun m n s => 0 ≤ n ∧ n ≤ 1300 ∧ ∃ j, Rq t N s 0 j A ∧ i ≤ j ∧ n + (N - j) ≤ N ∧ N - j = m ∧ aTyL t (N - i) 0 i = aTyL t m n j, fun n s => 0 ≤ n ∧ n ≤ 1300 ∧ ∃ j, Rq t N s 0 j A ∧ aTyL t (N - i) 0 i = (j, n), ⟨N - i, by omega, by omega, i, h, by omega, by omega, rfl, rfl⟩, ?_, ?_⟩
  · rintro m n s hn - ⟨n0, n1, j, hj, hij, hle, rfl, he⟩
    rw [vq_sg hj]
    refine ⟨pq_sg hj 91, fun c => ⟨n0, n1, j, hj, ?_⟩, fun c => ⟨fun c2 => absurd hj.2.1 c2, fun _ => ?_⟩⟩
    · rw [he]
      cases N - j with
      | zero => rfl
      | succ g => simp [aTyL, (if01n _).mp c]
    · have hlt := Rq_i hj (by have := sg_t ((if01 _).mp c); omega)
      refine sq_want hj (fun _ _ => hlt) (fun s' F' e' h' _ => ⟨⟨by omega, by omega⟩, N - (j + 1), by omega, by omega, by omega, j + 1, ?_, by omega, by omega, rfl, ?_⟩)
      · have e : F' = 0 := by omega
        subst e
        exact h'
      · rw [he, show N - j = (N - (j + 1)) + 1 by omega]
        simp [aTyL, (if01 _).mp c]
  · rintro n s hn - ⟨n0, n1, j, hj, he⟩
    rw [vq_wo hj 6909556 14980 (by decide)]
    refine ⟨pq_wo hj (by unfold p_told; decide), sq_want hj (fun _ c => Rq_i hj (by have := wo_t ((if01 _).mp c); omega)) (fun s2 F2 e2 h2 _ => ?_)⟩
    rw [if01] at e2
    refine ⟨fun m v s => 0 ≤ v ∧ v ≤ n ∧ (n - v).toNat = m ∧ ∃ F3 j3, Rq t N s F3 j3 A ∧ (¬ F3 = 0 → aTy t N i = none) ∧ (F3 = 0 → aTy t N i = (match aTyR t (n - v).toNat j3 with
      | none => none
      | some i2 => some (i2, n))), fun s => ∃ F3 j3, Rq t N s F3 j3 A ∧ (¬ F3 = 0 → aTy t N i = none) ∧ (F3 = 0 → aTy t N i = some (j3, n)), ⟨n.toNat, by omega, by omega, by omega, F2, _, h2, fun e => ?_, fun e => ?_⟩, ?_, ?_⟩
    · have c : aWo t j 14980 = false := bF (fun c => e (e2.mpr ⟨rfl, c⟩))
      simp [aTy, he, c]
    · rw [if_pos e]
      simp [aTy, he, (e2.mp e).2]
    · rintro m v s4 hv - ⟨v0, v1, v2, F3, j3, h3, b1, b2⟩
      refine ⟨fun c => ⟨F3, j3, h3, b1, fun e => ?_⟩, fun c => ⟨fun c2 => ⟨F3, j3, h3, b1, fun e => absurd (h3.2.1.trans e) c2⟩, fun c2 => ?_⟩⟩
      · rw [b2 e, show (n - v).toNat = 0 by omega]
        rfl
      · have e : F3 = 0 := h3.2.1.symm.trans c2
        have b3 := b2 e
        subst e
        rw [vq_sg h3]
        refine ⟨pq_sg h3 93, sq_want h3 (fun _ c => Rq_i h3 (by have := sg_t ((if01 _).mp c); omega)) (fun s5 F5 e5 h5 _ => ⟨⟨by omega, by omega⟩, (n - (v + 1)).toNat, by omega, by omega, by omega, rfl, F5, _, h5, fun e => ?_, fun e => ?_⟩)⟩
        · rw [if01] at e5
          have c : aSg t j3 93 = false := bF (fun c => e (e5.mpr ⟨rfl, c⟩))
          rw [b3, show (n - v).toNat = (n - (v + 1)).toNat + 1 by omega]
          simp [aTyR, c]
        · rw [if01] at e5
          rw [if_pos e, b3, show (n - v).toNat = (n - (v + 1)).toNat + 1 by omega]
          simp [aTyR, (e5.mp e).2]
    · rintro s4 - ⟨F3, j3, h3, b1, b2⟩
      by_cases e : F3 = 0
      · subst e
        exact k1 _ _ (b2 rfl) ⟨n0, n1⟩ s4 h3
      · exact k2 (b1 e) n s4 F3 j3 e h3
end RQS
