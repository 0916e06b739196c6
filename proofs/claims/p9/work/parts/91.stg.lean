/-! STEPS of the reader (7): GENS; all steps together. -/
section STG
variable {t : aK} {N : Nat} {σ : sg_S} {F : Int} {i : Nat} {A : aT} {vs : List Int} {d : Int} {P : aP} {f : Nat} {n : Int}
theorem Rp_g1 (h : Rp t N σ F i A vs d P) (hn : 0 ≤ n ∧ n < A.1) (hl : (A.2.2.2.2.2 n).length < 4) (w p : Int) : Rp t N (sg_w (sg_wl σ 99 (4 * n + (A.2.2.2.2.2 n).length) w) 100 (4 * n + (A.2.2.2.2.2 n).length) p) F i A vs d P := by
  obtain ⟨h1, h2, h3, h4, h5, h6, h7, h8, h10⟩ := h
  refine ⟨?_, ?_, ?_, ?_, ?_, ?_, ?_, ?_, ?_⟩
  all_goals try simp only [fpl, rg_w, rg_w', rg_wl, rg_wl', Nat.reduceEqDiff, if_false, if_true, reduceIte, Int.reduceEq]
  · exact h1
  · exact h2
  · exact h3
  · exact h4
  · obtain ⟨g1, g2, g3, g4⟩ := h5
    refine ⟨g1, g2, g3, fun k hk0 hk1 => ?_⟩
    obtain ⟨k1, k2, k3, k4, k5, k6, k7, k8, k9⟩ := g4 k hk0 hk1
    refine ⟨k1, k2, k3, k4, k5, k6, k7, k8, fun j x hx => ?_⟩
    have hj := (List.getElem?_eq_some_iff.mp hx).1
    have hne : ¬ (4 * k + (j : Int) = 4 * n + ((A.2.2.2.2.2 n).length : Int)) := by
      intro e
      have : k = n := by omega
      subst this
      omega
    simp only [if_neg hne]
    exact k9 j x hx
  · exact h6
  · exact h7
  · exact h8
  · exact h10
theorem Rp_g2 (h : Rp t N σ F i A vs d P) (hn : 0 ≤ n ∧ n < A.1) (hl : (A.2.2.2.2.2 n).length < 4) {w p : Int} (hw : sg_gl σ 99 (4 * n + (A.2.2.2.2.2 n).length) = w) (hp : sg_g σ 100 (4 * n + (A.2.2.2.2.2 n).length) = p) : Rp t N (sg_w σ 98 n ((A.2.2.2.2.2 n).length + 1)) F i (aGn A n w p) vs d P := by
  obtain ⟨h1, h2, h3, h4, h5, h6, h7, h8, h10⟩ := h
  refine ⟨?_, ?_, ?_, ?_, ?_, ?_, ?_, ?_, ?_⟩
  all_goals try simp only [fpl, rg_w, rg_w', rg_wl, rg_wl', Nat.reduceEqDiff, if_false, if_true, reduceIte, Int.reduceEq]
  · exact h1
  · exact h2
  · exact h3
  · exact h4
  · obtain ⟨g1, g2, g3, g4⟩ := h5
    refine ⟨g1, g2, g3, fun k hk0 hk1 => ?_⟩
    obtain ⟨k1, k2, k3, k4, k5, k6, k7, k8, k9⟩ := g4 k hk0 hk1
    simp only [aGn]
    by_cases e : k = n
    · subst e
      simp only [aU_e, if_true, List.length_append, List.length_cons, List.length_nil]
      refine ⟨k1, k2, k3, k4, k5, k6, ?_, by omega, fun j x hx => ?_⟩
      · rw [sg_id ⟨by omega, by omega⟩]
        omega
      · by_cases e2 : j = (A.2.2.2.2.2 k).length
        · subst e2
          rw [List.getElem?_append_right (Nat.le_refl _)] at hx
          simp at hx
          rw [← hx]
          exact ⟨hw, hp⟩
        · have hj : j < (A.2.2.2.2.2 k).length := by
            have := (List.getElem?_eq_some_iff.mp hx).1
            simp at this
            omega
          rw [List.getElem?_append_left hj] at hx
          exact k9 j x hx
    · simp only [aU_n _ _ e, if_neg e]
      exact ⟨k1, k2, k3, k4, k5, k6, k7, k8, k9⟩
  · exact h6
  · exact h7
  · exact h8
  · exact h10
theorem aGn_g (A : aT) (n w p : Int) : ((aGn A n w p).2.2.2.2.2 n).length = (A.2.2.2.2.2 n).length + 1 := by
  simp [aGn, aU_e]
/-- EXPR, KID n, GENNED n behind a GEN's NAME and in -/
theorem den_g {m : Nat} (hn : n < A.1) (h0 : 0 ≤ A.1 ∧ A.1 ≤ 200) (hm : 4 - (A.2.2.2.2.2 n).length = m) : den t ((0, 0) :: (10, n) :: (17, n) :: P) i A vs f = match (match (aLv t f).1 i A with
    | none => none
    | some (i1, A1, r) => if aSg t i1 44 = true ∧ ((aKid A1 n r).2.2.2.2.1 n).length = 1 + ((aKid A1 n r).2.2.2.2.2 n).length then aGenL t (aLv t f).1 n m (i1 + 1) (aKid A1 n r) else some (i1, aKid A1 n r)) with
    | none => none
    | some (i2, A2) => match aGrd t (aLv t f).1 n i2 A2 with
      | none => none
      | some (i', A', r) => den t P i' A' (r :: vs) (f + 1) := by
  simp only [den, aDe]
  simp [aPu]
  cases he : (aLv t f).1 i A with
  | none => rfl
  | some r =>
    obtain ⟨i1, A1, r⟩ := r
    obtain ⟨g1, g2, g3, g4⟩ := (gF_lv f).1 _ _ _ _ _ he h0
    have hg : (aKid A1 n r).2.2.2.2.2 n = A.2.2.2.2.2 n := (g1.2 n hn).2.2.2.2
    simp only [aGd]
    by_cases c : aSg t i1 44 = true ∧ ((aKid A1 n r).2.2.2.2.1 n).length = 1 + ((aKid A1 n r).2.2.2.2.2 n).length
    · simp only [if_pos c]
      simp only [aGens, hg, hm]
      cases aGenL t (aLv t f).1 n m (i1 + 1) (aKid A1 n r) with
      | none => rfl
      | some r =>
        obtain ⟨i2, A2⟩ := r
        simp only
        cases aGrd t (aLv t f).1 n i2 A2 with
        | none => rfl
        | some r => rfl
    · simp only [if_neg c]
      cases aGrd t (aLv t f).1 n i1 (aKid A1 n r) with
      | none => rfl
      | some r => rfl
theorem st_16 (hR : Rp t N σ 0 i A vs d P) (hd : d = 12 - (f : Int)) (n : Int) (hI : aIn A vs f ((16, n) :: P)) {Q : sg_S → Prop} (hQ : ∀ σ', aPo t N (den t ((16, n) :: P) i A vs f) (40 * (N - i) + pwt ((16, n) :: P)) σ' → Q σ') : V_goOn_16 σ n Q := by
  have hl := aIn_l hI
  have hA := Rp_A hR
  have hf := hI.1
  have ht := Rp_t hR
  have hw0 := Rp_w hR
  have hn : 0 ≤ n ∧ n < A.1 := hI.2.2.2.2.1.2.1 (Or.inr (Or.inr (show (15 : Int) ≤ 16 by decide)))
  have hq : sg_R n := ⟨by omega, by omega⟩
  obtain ⟨n1, n2, n3, n4, -⟩ := Rp_n hR hn
  unfold V_goOn_16 V_readGen
  rw [n3, ht.2.1, ht.2.2.1, vs_nm hR]
  refine ⟨⟨by omega, by omega⟩, fun s => (¬ (A.2.2.2.2.2 n).length = 4 ∧ s = σ) ∨ ((A.2.2.2.2.2 n).length = 4 ∧ ∃ F', ¬ F' = 0 ∧ Rp t N s F' i A vs d P), ⟨fun c => Or.inl ⟨by omega, rfl⟩, fun c => ⟨⟨ht.2.2.2.1, ht.2.2.2.2.1⟩, s_wrong hR (by rw [← ht.2.1]; exact Rp_p hR) (fun σ' F' hF hR' _ => Or.inr ⟨by omega, F', hF, hR'⟩)⟩⟩, ?_⟩
  rintro σ5 - (⟨c4, rfl⟩ | ⟨c4, F', hF', hR'⟩)
  · refine ⟨fun _ => ⟨⟨by omega, by omega⟩, ⟨by omega, by omega⟩, ⟨ht.2.2.2.1, ht.2.2.2.2.1⟩, ⟨by omega, by omega⟩, ?_⟩, fun c => absurd hR.2.1 c⟩
    have h4 : (A.2.2.2.2.2 n).length < 4 := by omega
    rintro σ13 rfl σ16 rfl
    have h1 := Rp_g1 hR hn h4 (t.2.1 i) (t.2.2 i)
    have hgw : sg_gl (sg_w (sg_wl σ5 99 (4 * n + (A.2.2.2.2.2 n).length) (t.2.1 i)) 100 (4 * n + (A.2.2.2.2.2 n).length) (t.2.2 i)) 99 (4 * n + (A.2.2.2.2.2 n).length) = t.2.1 i := by
      rw [sg_gw', sg_gwl, if_pos ⟨rfl, rfl⟩, sg_idl hw0.1]
    have hgp : sg_g (sg_w (sg_wl σ5 99 (4 * n + (A.2.2.2.2.2 n).length) (t.2.1 i)) 100 (4 * n + (A.2.2.2.2.2 n).length) (t.2.2 i)) 100 (4 * n + (A.2.2.2.2.2 n).length) = t.2.2 i := by
      rw [sg_gw, if_pos ⟨rfl, rfl⟩, sg_id hw0.2]
    generalize sg_w (sg_wl σ5 99 (4 * n + (A.2.2.2.2.2 n).length) (t.2.1 i)) 100 (4 * n + (A.2.2.2.2.2 n).length) (t.2.2 i) = τ at h1 hgw hgp ⊢
    refine ⟨p_nm hR, s_want h1 (fun _ c => Rp_i hR (by have := nm_t ((if01 _).mp c); omega)) (fun σ21 F2 e2 h2 hFr2 => ?_)⟩
    rw [if01] at e2
    generalize hj : (if F2 = 0 then i + 1 else i) = j at h2
    rw [vs_wo h2 26990 374 (by decide)]
    refine ⟨p_wo h2 (by unfold p_told; decide), s_want h2 (fun _ c => Rp_i h2 (by have := wo_t ((if01 _).mp c); omega)) (fun σ28 F3 e3 h3 hFr3 => ?_)⟩
    rw [if01] at e3
    refine ⟨⟨by omega, by omega⟩, ?_⟩
    rintro σ34 rfl
    have h4' := Rp_g2 h3 hn h4 (w := t.2.1 i) (p := t.2.2 i) (by rw [sg_F_gal hFr3 rfl, sg_F_gal hFr2 rfl]; exact hgw) (by rw [sg_F_ga hFr3 rfl, sg_F_ga hFr2 rfl]; exact hgp)
    refine s_pile h4' (by decide) hq (by omega) (fun σ4 h4 _ => ?_)
    refine s_pile h4 (by decide) hq (by simp only [List.length_cons]; omega) (fun σ5 h5 _ => ?_)
    refine s_pile h5 (by decide) (by decide) (by simp only [List.length_cons]; omega) (fun σ6 h6 _ _ => ?_)
    obtain ⟨m, hm⟩ : ∃ m, 4 - (A.2.2.2.2.2 n).length = m + 1 := ⟨4 - (A.2.2.2.2.2 n).length - 1, by omega⟩
    refine hQ _ ⟨F3, _, _, _, _, _, h6, fun e => ?_, fun e => ?_⟩
    · by_cases c1 : aNm t i = true
      · have k2 := e2.mpr ⟨rfl, c1⟩
        rw [if_pos k2] at hj
        subst hj
        have c2 : aWo t (i + 1) 374 = false := bF (fun c => e (e3.mpr ⟨k2, c⟩))
        simp [den, aDe, aGens, hm, aGenL, c1, c2, aPu]
      · simp [den, aDe, aGens, hm, aGenL, c1, aPu]
    · have k2 := (e3.mp e).1
      have c1 := (e2.mp k2).2
      rw [if_pos k2] at hj
      subst hj
      have c2 := (e3.mp e).2
      rw [if_pos e]
      have hi := Rp_i h2 (by have := wo_t c2; omega)
      refine ⟨f, hd, ?_, ?_, ?_⟩
      · obtain ⟨i1, i2, i3, i4, i5, i6, m, i7, i8, i9⟩ := hI
        simp [pwf, pcn, pok, pnd, pow, pht, pcl, pgr] at i2 i3 i4 i5 i9
        refine ⟨i1, ?_, ?_, ?_, ?_, i6, m, i7, aB_g i8 _ _ _, ?_⟩
        · simp [pwf, pht, pcl, pgr]; grind
        · simp [pcn, pcl]; grind
        · simp [pok]; grind
        · simp only [aGn_1]
          simp [pnd, sg_R0, i5.2.2]
          omega
        · simp [pow, aGn_1]; omega
      · rw [den_g (m := m) (by simp only [aGn_1]; omega) (by simp only [aGn_1]; omega) (by rw [aGn_g]; omega)]
        simp only [den, aDe, aGens, hm, aGenL, c1, c2]
        simp [aPu]
        cases (aLv t f).1 (i + 2) (aGn A n (t.2.1 i) (t.2.2 i)) with
        | none => rfl
        | some r =>
          obtain ⟨i1, A1, r⟩ := r
          simp only
          by_cases c5 : aSg t i1 44 = true ∧ ((aKid A1 n r).2.2.2.2.1 n).length = 1 + ((aKid A1 n r).2.2.2.2.2 n).length
          · simp only [if_pos c5]
            cases aGenL t (aLv t f).1 n m (i1 + 1) (aKid A1 n r) with
            | none => rfl
            | some r =>
              obtain ⟨i2, A2⟩ := r
              simp only
              cases aGrd t (aLv t f).1 n i2 A2 with
              | none => rfl
              | some r => rfl
          · simp only [if_neg c5]
            cases aGrd t (aLv t f).1 n i1 (aKid A1 n r) with
            | none => rfl
            | some r => rfl
      · simp [pwt]; omega
  · rw [hR'.2.1]
    refine ⟨fun c => absurd c hF', fun _ _ => hQ _ ⟨F', _, _, _, _, _, hR', fun _ => ?_, fun c => absurd c hF'⟩⟩
    simp [den, aDe, aGens, c4, aGenL, aPu]
theorem st_17 (hR : Rp t N σ 0 i A vs d P) (hd : d = 12 - (f : Int)) (n : Int) (hI : aIn A vs f ((17, n) :: P)) {Q : sg_S → Prop} (hQ : ∀ σ', aPo t N (den t ((17, n) :: P) i A vs f) (40 * (N - i) + pwt ((17, n) :: P)) σ' → Q σ') : V_goOn_d σ n Q := by
  have hl := aIn_l hI
  have hA := Rp_A hR
  have hf := hI.1
  have hn : 0 ≤ n ∧ n < A.1 := hI.2.2.2.2.1.2.1 (Or.inr (Or.inr (show (15 : Int) ≤ 17 by decide)))
  have hq : sg_R n := ⟨by omega, by omega⟩
  obtain ⟨n1, n2, n3, n4, n5⟩ := Rp_n hR hn
  have hden : (aSg t i 44 = false ∨ ¬ (A.2.2.2.2.1 n).length = 1 + (A.2.2.2.2.2 n).length) → den t ((17, n) :: P) i A vs f = match aGrd t (aLv t f).1 n i A with
      | none => none
      | some (i', A', r) => den t P i' A' (r :: vs) (f + 1) := by
    intro c
    have : ¬ (aSg t i 44 = true ∧ (A.2.2.2.2.1 n).length = 1 + (A.2.2.2.2.2 n).length) := by
      rintro ⟨a, b⟩
      rcases c with c | c
      · rw [a] at c; cases c
      · exact c b
    simp only [den, aDe, aGd, if_neg this]
    simp [aPu]
    cases aGrd t (aLv t f).1 n i A with
    | none => rfl
    | some r => rfl
  have plain : (aSg t i 44 = false ∨ ¬ (A.2.2.2.2.1 n).length = 1 + (A.2.2.2.2.2 n).length) → aSg t i 124 = false → V_pile σ (11) n (fun σ6 => sg_F [110, 111, 32088] σ σ6 → V_pile σ6 (12) (0) (fun σ12 => sg_F [110, 111, 32088] σ6 σ12 → V_pile σ12 (13) (125) (fun σ18 => sg_F [110, 111, 32088] σ12 σ18 → sg_F [110, 111, 8088, 30088, 31088, 32088] σ σ18 → Q σ18))) := by
    intro c c2
    refine s_pile hR (by decide) hq (by omega) (fun σ4 h4 _ => ?_)
    refine s_pile h4 (by decide) (by decide) (by simp only [List.length_cons]; omega) (fun σ5 h5 _ => ?_)
    refine s_pile h5 (by decide) (by decide) (by simp only [List.length_cons]; omega) (fun σ6 h6 _ _ => ?_)
    refine hQ _ ⟨0, _, _, _, _, _, h6, fun e => absurd rfl e, fun _ => ⟨f, hd, ?_, ?_, ?_⟩⟩
    · obtain ⟨i1, i2, i3, i4, i5, i6, m, i7, i8, i9⟩ := hI
      simp [pwf, pcn, pok, pnd, pow, pht, pcl, pgr] at i2 i3 i4 i5 i9
      refine ⟨i1, ?_, ?_, ?_, ?_, i6, m, i7, i8, ?_⟩
      · simp [pwf, pht, pcl, pgr]; grind
      · simp [pcn, pcl]; grind
      · simp [pok]; grind
      · simp [pnd, sg_R0, i5.2.2]
        omega
      · simp [pow]; omega
    · rw [hden c]
      simp only [den, aDe, aGrd, c2, aEnd]
      by_cases c3 : aSg t i 125 = true
      · simp [c3]
      · simp [c3]
    · simp [pwt]; omega
  have guard : (aSg t i 44 = false ∨ ¬ (A.2.2.2.2.1 n).length = 1 + (A.2.2.2.2.2 n).length) → aSg t i 124 = true → V_want σ (1) (fun σ24 => sg_F [8088, 30088, 31088] σ σ24 → V_pile σ24 (11) n (fun σ30 => sg_F [110, 111, 32088] σ24 σ30 → V_pile σ30 (12) (0) (fun σ36 => sg_F [110, 111, 32088] σ30 σ36 → V_pile σ36 (13) (125) (fun σ42 => sg_F [110, 111, 32088] σ36 σ42 → V_pile σ42 (10) n (fun σ48 => sg_F [110, 111, 32088] σ42 σ48 → V_pile σ48 (0) (0) (fun σ54 => sg_F [110, 111, 32088] σ48 σ54 → sg_F [110, 111, 8088, 30088, 31088, 32088] σ σ54 → Q σ54)))))) := by
    intro c c2
    have hi := Rp_i hR (by have := sg_t c2; omega)
    refine s_want hR (fun _ _ => hi) (fun σ1 F1 e1 h1 _ => ?_)
    have e : F1 = 0 := by omega
    subst e
    rw [if_pos rfl] at h1
    refine s_pile h1 (by decide) hq (by omega) (fun σ4 h4 _ => ?_)
    refine s_pile h4 (by decide) (by decide) (by simp only [List.length_cons]; omega) (fun σ5 h5 _ => ?_)
    refine s_pile h5 (by decide) (by decide) (by simp only [List.length_cons]; omega) (fun σ6 h6 _ => ?_)
    refine s_pile h6 (by decide) hq (by simp only [List.length_cons]; omega) (fun σ7 h7 _ => ?_)
    refine s_pile h7 (by decide) (by decide) (by simp only [List.length_cons]; omega) (fun σ8 h8 _ _ => ?_)
    refine hQ _ ⟨0, _, _, _, _, _, h8, fun e => absurd rfl e, fun _ => ⟨f, hd, ?_, ?_, ?_⟩⟩
    · obtain ⟨i1, i2, i3, i4, i5, i6, m, i7, i8, i9⟩ := hI
      simp [pwf, pcn, pok, pnd, pow, pht, pcl, pgr] at i2 i3 i4 i5 i9
      refine ⟨i1, ?_, ?_, ?_, ?_, i6, m, i7, i8, ?_⟩
      · simp [pwf, pht, pcl, pgr]; grind
      · simp [pcn, pcl]; grind
      · simp [pok]; grind
      · simp [pnd, sg_R0, i5.2.2]
        omega
      · simp [pow]; omega
    · rw [hden c]
      simp only [den, aDe, aGrd, c2, aEnd]
      simp [aPu]
      cases (aLv t f).1 (i + 1) A with
      | none => rfl
      | some r =>
        obtain ⟨i1, A1, r⟩ := r
        simp only
        by_cases c3 : aSg t i1 125 = true
        · simp [c3]
        · simp [c3]
    · simp [pwt]; omega
  unfold V_goOn_d V_readGenned
  rw [vs_sg hR 44, vs_sg hR 124, n2, n3]
  refine ⟨p_sg hR 44, fun h => ⟨p_sg hR 124, fun h2 => ?_, fun h2 => ?_⟩, fun h => ⟨⟨by omega, by omega⟩, ⟨by omega, by omega⟩, fun h2 => ⟨p_sg hR 124, fun h3 => ?_, fun h3 => ?_⟩, fun h2 => ?_⟩⟩
  · exact plain (Or.inl ((if01n _).mp h)) ((if01n _).mp h2)
  · exact guard (Or.inl ((if01n _).mp h)) ((if01 _).mp h2)
  · exact plain (Or.inr (by omega)) ((if01n _).mp h3)
  · exact guard (Or.inr (by omega)) ((if01 _).mp h3)
  · rw [if01] at h
    have hi := Rp_i hR (by have := sg_t h; omega)
    refine s_want hR (fun _ _ => hi) (fun σ1 F1 e1 h1 _ => ?_)
    have e : F1 = 0 := by omega
    subst e
    rw [if_pos rfl] at h1
    refine s_pile h1 (by decide) hq (by omega) (fun σ4 h4 _ _ => ?_)
    refine hQ _ ⟨0, _, _, _, _, _, h4, fun e => absurd rfl e, fun _ => ⟨f, hd, ?_, ?_, ?_⟩⟩
    · obtain ⟨i1, i2, i3, i4, i5, i6, m, i7, i8, i9⟩ := hI
      simp [pwf, pcn, pok, pnd, pow, pht, pcl, pgr] at i2 i3 i4 i5 i9
      refine ⟨i1, ?_, ?_, ?_, ?_, i6, m, i7, i8, ?_⟩
      · simp [pwf, pht, pcl, pgr]; grind
      · simp [pcn, pcl]; grind
      · simp [pok]; grind
      · simp [pnd, i5.2.2]
        omega
      · simp [pow]; omega
    · have hc : aSg t i 44 = true ∧ (A.2.2.2.2.1 n).length = 1 + (A.2.2.2.2.2 n).length := ⟨h, by omega⟩
      simp only [den, aDe, aGd, if_pos hc]
      simp
    · simp [pwt]; omega
end STG
