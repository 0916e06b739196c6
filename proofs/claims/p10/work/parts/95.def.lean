/-! THE READER of the reference: a DEF. -/
def dfR (σ : sg_S) (D : List aDf) : Prop := sg_g σ 88 19 = D.length ∧ D.length ≤ 12 ∧ ∀ (d : Nat) (x : aDf), D[d]? = some x → sg_gl σ 103 d = x.1 ∧ sg_g σ 104 d = x.2.1 ∧ sg_g σ 105 d = x.2.2.2 ∧ pmR σ d x.2.2.1
def dq (σ s : sg_S) (d w p : Int) : Prop := (∀ k, ¬ k = d → sg_gl s 103 k = sg_gl σ 103 k ∧ sg_g s 104 k = sg_g σ 104 k) ∧ (∀ k, sg_g s 105 k = sg_g σ 105 k) ∧ sg_gl s 103 d = w ∧ sg_g s 104 d = p ∧ sg_g s 88 19 = sg_g σ 88 19
theorem dq_F {σ s s' : sg_S} {L : List Nat} {d w p : Int} (h : dq σ s d w p) (hF : sg_F L s s') (hL : sg_ca L 103 = true ∧ sg_ca L 104 = true ∧ sg_ca L 105 = true ∧ sg_cv L 88 19 = false) : dq σ s' d w p := by
  obtain ⟨h1, h2, h3, h4, h5⟩ := h
  refine ⟨fun k hk => ?_, fun k => ?_, ?_, ?_, ?_⟩
  · rw [sg_F_gal hF hL.1, sg_F_ga hF hL.2.1]; exact h1 k hk
  · rw [sg_F_ga hF hL.2.2.1]; exact h2 k
  · rw [sg_F_gal hF hL.1]; exact h3
  · rw [sg_F_ga hF hL.2.1]; exact h4
  · rw [sg_F_g hF hL.2.2.2]; exact h5
section DEF
variable {t : aK} {N : Nat} {σ : sg_S} {F : Int} {i : Nat} {A : aT} {D : List aDf}
theorem s_def {Q : sg_S → Prop} (h : Rq t N σ 0 i A) (hD : dfR σ D) (hi : i < N) (k1 : ∀ i' A' x, D.length < 12 → aDf1 t N i A = some (i', A', x) → 0 ≤ x.2.2.2 ∧ x.2.2.2 < A'.1 → ∀ σ', Rq t N σ' 0 i' A' → dfR σ' (D ++ [x]) → Q σ') (k2 : (D.length = 12 ∨ aDf1 t N i A = none) → ∀ σ', ¬ sg_g σ' 88 29 = 0 → fpl σ' → Q σ') : V_readDef σ Q := by
  have ht0 := Rq_t h
  have hn := hD.1
  have hn12 := hD.2.1
  unfold V_readDef
  rw [hn]
  refine ⟨fun c => ?_, fun c => ⟨⟨ht0.2.2.2.1, ht0.2.2.2.2.1⟩, sq_wrong h (Rq_p h) (fun s F' hF' h' _ => k2 (Or.inl (by omega)) s (by rw [h'.2.1]; exact hF') h'.2.2.2.2.2.2)⟩⟩
  have hlt : D.length < 12 := by omega
  refine sq_want h (fun _ _ => hi) (fun σ3 F3 e3 h3 f3 => ?_)
  have k3 : F3 = 0 := by omega
  subst k3
  rw [if_pos rfl] at h3
  have ht3 := Rq_t h3
  have e91 : sg_g σ 91 (sg_g σ3 88 7) = t.2.2 (i + 1) := by rw [h3.2.2.1]; exact (h.1.2.1 (i + 1) ht3.2.2.2.2.2.1).2.1
  have e92 : sg_gl σ 92 (sg_g σ3 88 7) = t.2.1 (i + 1) := by rw [h3.2.2.1]; exact (h.1.2.1 (i + 1) ht3.2.2.2.2.2.1).2.2
  have hwr : sg_RL (t.2.1 (i + 1)) := by rw [← ht3.2.2.1]; exact sg_Rgl _ _ _
  have hpr : sg_R (t.2.2 (i + 1)) := by rw [← ht3.2.1]; exact sg_Rg _ _ _
  refine ⟨⟨by omega, by omega⟩, ?_⟩
  rintro σ9 e9
  refine ⟨⟨ht3.2.2.2.1, ht3.2.2.2.2.1⟩, ?_⟩
  rw [e91, e92]
  rintro σ13 e13 σ16 e16
  have h16 : Rq t N σ16 0 (i + 1) A := by rw [e16, e13, e9]; exact Rq_w (Rq_wl (Rq_w h3 (by decide) _ _) (by decide) _ _) (by decide) _ _
  have q16 : dq σ σ16 D.length (t.2.1 (i + 1)) (t.2.2 (i + 1)) := by
    rw [e16, e13, e9]
    refine ⟨fun k hk => ⟨?_, ?_⟩, fun k => ?_, ?_, ?_, ?_⟩
    · rw [sg_gw', sg_gwl_k _ _ _ _ _ _ hk, sg_gw', sg_F_gal f3 rfl]
    · rw [sg_gw_k _ _ _ _ _ _ hk, sg_gwl', sg_gw_c _ _ _ _ _ _ (by decide), sg_F_ga f3 rfl]
    · rw [sg_gw_c _ _ _ _ _ _ (by decide), sg_gwl', sg_gw_c _ _ _ _ _ _ (by decide), sg_F_ga f3 rfl]
    · rw [sg_gw', sg_gwl, if_pos ⟨rfl, rfl⟩, sg_idl hwr]
    · rw [sg_gw, if_pos ⟨rfl, rfl⟩, sg_id hpr]
    · rw [sg_gw_c _ _ _ _ _ _ (by decide), sg_gwl', sg_gw_c _ _ _ _ _ _ (by decide), sg_F_g f3 rfl]
  have p16 : pmF σ σ16 D.length ∧ sg_g σ16 106 D.length = 0 := by
    rw [e16, e13, e9]
    refine ⟨⟨fun k hk => ?_, fun k hk => ⟨?_, ?_, ?_⟩⟩, ?_⟩
    · rw [sg_gw_c _ _ _ _ _ _ (by decide), sg_gwl', sg_gw_k _ _ _ _ _ _ hk, sg_F_ga f3 rfl]
    · rw [sg_gw', sg_gwl_c _ _ _ _ _ _ (by decide), sg_gw', sg_F_gal f3 rfl]
    · rw [sg_gw_c _ _ _ _ _ _ (by decide), sg_gwl', sg_gw_c _ _ _ _ _ _ (by decide), sg_F_ga f3 rfl]
    · rw [sg_gw_c _ _ _ _ _ _ (by decide), sg_gwl', sg_gw_c _ _ _ _ _ _ (by decide), sg_F_ga f3 rfl]
    · rw [sg_gw_c _ _ _ _ _ _ (by decide), sg_gwl', sg_gw, if_pos ⟨rfl, rfl⟩]; rfl
  clear e9 e13 e16
  rw [vq_nm h3]
  refine ⟨pq_nm h3, sq_want h16 (fun _ c => Rq_i h3 (by have := nm_t ((if01 _).mp c); omega)) (fun σ21 F21 e21 h21 f21 => ?_)⟩
  rw [if01] at e21
  have q21 := dq_F q16 f21 ⟨rfl, rfl, rfl, rfl⟩
  have m21 := pmE_F f21 ⟨rfl, rfl, rfl, rfl⟩
  -- (
  refine ⟨fun s => ∃ F2 j2, Rq t N s F2 j2 A ∧ dq σ s D.length (t.2.1 (i + 1)) (t.2.2 (i + 1)) ∧ pmE σ16 s ∧ (¬ F2 = 0 → aDf1 t N i A = none) ∧ (F2 = 0 → j2 = i + 3 ∧ aNm t (i + 1) = true ∧ aSg t (i + 2) 40 = true), ⟨fun c => ⟨F21, _, h21, q21, m21, fun e => ?_, fun e => absurd (h21.2.1.trans e) c⟩, fun c => ?_⟩, ?_⟩
  · have : aNm t (i + 1) = false := bF (fun b => e (e21.mpr ⟨rfl, b⟩))
    simp [aDf1, this]
  · have k21 : F21 = 0 := h21.2.1.symm.trans c
    rw [if_pos k21] at h21
    subst k21
    rw [vq_sg h21]
    refine ⟨pq_sg h21 40, sq_want h21 (fun _ c => Rq_i h21 (by have := sg_t ((if01 _).mp c); omega)) (fun s F2 e2 h2 f2 => ⟨F2, _, h2, dq_F q21 f2 ⟨rfl, rfl, rfl, rfl⟩, pmE_t m21 (pmE_F f2 ⟨rfl, rfl, rfl, rfl⟩), fun e => ?_, fun e => ?_⟩)⟩
    · rw [if01] at e2
      have b : aSg t (i + 1 + 1) 40 = false := bF (fun b => e (e2.mpr ⟨rfl, b⟩))
      simp [aDf1, (e21.mp rfl).2, b]
    · rw [if01] at e2
      rw [if_pos e]
      exact ⟨rfl, (e21.mp rfl).2, (e2.mp e).2⟩
  rintro σ29 - ⟨F29, j29, h29, q29, m29, n29, g29⟩
  -- PARAMS
  refine ⟨fun s => ∃ F2 j2, Rq t N s F2 j2 A ∧ dq σ s D.length (t.2.1 (i + 1)) (t.2.2 (i + 1)) ∧ (F2 = 0 → pmF σ s D.length) ∧ (¬ F2 = 0 → aDf1 t N i A = none) ∧ (F2 = 0 → aNm t (i + 1) = true ∧ aSg t (i + 2) 40 = true ∧ ∃ ps, pmR s D.length ps ∧ aPas t N (i + 3) = some (j2, ps)), ⟨fun c => ⟨F29, j29, h29, q29, fun _ => pmF_t p16.1 (pmE_f m29 _), n29, fun e => absurd (h29.2.1.trans e) c⟩, fun c => ?_⟩, ?_⟩
  · have k29 : F29 = 0 := h29.2.1.symm.trans c
    obtain ⟨j29e, a1, a2⟩ := g29 k29
    subst k29
    subst j29e
    refine s_params (d := D.length) hlt h29 (by rw [(m29 _).1]; exact p16.2) (fun i' ps hps s hs pr pf f2 => ?_) (fun hps s F2 i' hF2 hs f2 => ?_)
    · exact ⟨0, i', hs, dq_F q29 f2 ⟨rfl, rfl, rfl, rfl⟩, fun _ => pmF_t (pmF_t p16.1 (pmE_f m29 _)) pf, fun e => absurd rfl e, fun _ => ⟨a1, a2, ps, pr, hps⟩⟩
    · exact ⟨F2, i', hs, dq_F q29 f2 ⟨rfl, rfl, rfl, rfl⟩, fun e => absurd e hF2, fun _ => by simp [aDf1, a1, a2, hps], fun e => absurd e hF2⟩
  rintro σ35 - ⟨F35, j35, h35, q35, m35, n35, g35⟩
  -- )
  refine ⟨fun s => ∃ F2 j2, Rq t N s F2 j2 A ∧ dq σ s D.length (t.2.1 (i + 1)) (t.2.2 (i + 1)) ∧ (F2 = 0 → pmF σ s D.length) ∧ (¬ F2 = 0 → aDf1 t N i A = none) ∧ (F2 = 0 → aNm t (i + 1) = true ∧ aSg t (i + 2) 40 = true ∧ ∃ ps j1, pmR s D.length ps ∧ aPas t N (i + 3) = some (j1, ps) ∧ aSg t j1 41 = true ∧ j2 = j1 + 1), ⟨fun c => ⟨F35, j35, h35, q35, m35, n35, fun e => absurd (h35.2.1.trans e) c⟩, fun c => ?_⟩, ?_⟩
  · have k35 : F35 = 0 := h35.2.1.symm.trans c
    obtain ⟨a1, a2, ps, pr, hps⟩ := g35 k35
    subst k35
    rw [vq_sg h35]
    refine ⟨pq_sg h35 41, sq_want h35 (fun _ c => Rq_i h35 (by have := sg_t ((if01 _).mp c); omega)) (fun s F2 e2 h2 f2 => ⟨F2, _, h2, dq_F q35 f2 ⟨rfl, rfl, rfl, rfl⟩, fun _ => pmF_t (m35 rfl) (pmE_f (pmE_F f2 ⟨rfl, rfl, rfl, rfl⟩) _), fun e => ?_, fun e => ?_⟩)⟩
    · rw [if01] at e2
      have b : aSg t j35 41 = false := bF (fun b => e (e2.mpr ⟨rfl, b⟩))
      simp [aDf1, a1, a2, hps, b]
    · rw [if01] at e2
      rw [if_pos e]
      exact ⟨a1, a2, ps, j35, pmE_R (pmE_F f2 ⟨rfl, rfl, rfl, rfl⟩) pr, hps, (e2.mp e).2, rfl⟩
  rintro σ41 - ⟨F41, j41, h41, q41, m41, n41, g41⟩
  -- =
  refine ⟨fun s => ∃ F2 j2, Rq t N s F2 j2 A ∧ dq σ s D.length (t.2.1 (i + 1)) (t.2.2 (i + 1)) ∧ (F2 = 0 → pmF σ s D.length) ∧ (¬ F2 = 0 → aDf1 t N i A = none) ∧ (F2 = 0 → aNm t (i + 1) = true ∧ aSg t (i + 2) 40 = true ∧ ∃ ps j1, pmR s D.length ps ∧ aPas t N (i + 3) = some (j1, ps) ∧ aSg t j1 41 = true ∧ aSg t (j1 + 1) 61 = true ∧ j2 = j1 + 2), ⟨fun c => ⟨F41, j41, h41, q41, m41, n41, fun e => absurd (h41.2.1.trans e) c⟩, fun c => ?_⟩, ?_⟩
  · have k41 : F41 = 0 := h41.2.1.symm.trans c
    obtain ⟨a1, a2, ps, j1, pr, hps, a3, a4⟩ := g41 k41
    subst k41
    subst a4
    rw [vq_sg h41]
    refine ⟨pq_sg h41 61, sq_want h41 (fun _ c => Rq_i h41 (by have := sg_t ((if01 _).mp c); omega)) (fun s F2 e2 h2 f2 => ⟨F2, _, h2, dq_F q41 f2 ⟨rfl, rfl, rfl, rfl⟩, fun _ => pmF_t (m41 rfl) (pmE_f (pmE_F f2 ⟨rfl, rfl, rfl, rfl⟩) _), fun e => ?_, fun e => ?_⟩)⟩
    · rw [if01] at e2
      have b : aSg t (j1 + 1) 61 = false := bF (fun b => e (e2.mpr ⟨rfl, b⟩))
      simp [aDf1, a1, a2, hps, a3, b]
    · rw [if01] at e2
      rw [if_pos e]
      exact ⟨a1, a2, ps, j1, pmE_R (pmE_F f2 ⟨rfl, rfl, rfl, rfl⟩) pr, hps, a3, (e2.mp e).2, rfl⟩
  rintro σ47 - ⟨F47, j47, h47, q47, m47, n47, g47⟩
  -- EXPR
  refine ⟨fun s => fpl s ∧ sg_g s 88 19 = D.length ∧ ((¬ sg_g s 88 29 = 0 ∧ aDf1 t N i A = none) ∨ ∃ j2 A2 q, Rq t N s 0 j2 A2 ∧ (0 ≤ q ∧ q < A2.1) ∧ aNm t (i + 1) = true ∧ aSg t (i + 2) 40 = true ∧ ∃ ps j1, aPas t N (i + 3) = some (j1, ps) ∧ aSg t j1 41 = true ∧ aSg t (j1 + 1) 61 = true ∧ (aLv t 12).1 (j1 + 2) A = some (j2, A2, q) ∧ dfR σ D ∧ (∀ (d : Nat) (x : aDf), (D ++ [(t.2.1 (i + 1), t.2.2 (i + 1), ps, q)])[d]? = some x → sg_gl s 103 d = x.1 ∧ sg_g s 104 d = x.2.1 ∧ sg_g s 105 d = x.2.2.2 ∧ pmR s d x.2.2.1)), ⟨fun c => ⟨h47.2.2.2.2.2.2, q47.2.2.2.2.trans hn, Or.inl ⟨c, n47 (fun e => c (h47.2.1.trans e))⟩⟩, fun c => ?_⟩, ?_⟩
  · have k47 : F47 = 0 := h47.2.1.symm.trans c
    obtain ⟨a1, a2, ps, j1, pr, hps, a3, a4, a5⟩ := g47 k47
    subst k47
    subst a5
    refine s_whole (h47 : Rb t N σ47 (j1 + 2) A) (fun i' A' q hE s hs hq _ f2 => ?_) (fun hE s hs hfp _ f2 => ?_)
    · rintro σ78 e78
      have h78 : Rq t N σ78 0 i' A' := by rw [e78]; exact Rq_w (hs : Rq t N s 0 i' A') (by decide) _ _
      refine ⟨h78.2.2.2.2.2.2, ?_, Or.inr ⟨i', A', q, h78, hq, a1, a2, ps, j1, hps, a3, a4, hE, hD, ?_⟩⟩
      · rw [e78, sg_gw_c _ _ _ _ _ _ (by decide), sg_F_g f2 rfl]
        exact q47.2.2.2.2.trans hn
      · have hA200 : A'.1 ≤ 200 := h78.2.2.2.2.1.2.2.1
        have qs := dq_F q47 f2 ⟨rfl, rfl, rfl, rfl⟩ |> fun z => z
        have ms := pmF_t (m47 rfl) (pmE_f (pmE_F f2 ⟨rfl, rfl, rfl, rfl⟩) _)
        have prs := pmE_R (pmE_F f2 ⟨rfl, rfl, rfl, rfl⟩) pr
        have me : pmE s σ78 := by
          intro k
          rw [e78]
          exact ⟨sg_gw_c _ _ _ _ _ _ (by decide), rfl, sg_gw_c _ _ _ _ _ _ (by decide), sg_gw_c _ _ _ _ _ _ (by decide)⟩
        intro dd x hx
        by_cases e2 : dd = D.length
        · subst e2
          rw [List.getElem?_append_right (Nat.le_refl _)] at hx
          simp at hx
          rw [← hx]
          refine ⟨?_, ?_, ?_, pmE_R me prs⟩
          · rw [e78, sg_gw']; exact qs.2.2.1
          · rw [e78, sg_gw_c _ _ _ _ _ _ (by decide)]; exact qs.2.2.2.1
          · rw [e78, sg_gw, if_pos ⟨rfl, rfl⟩, sg_id ⟨by omega, by omega⟩]
        · have hdl : dd < D.length := by
            have := (List.getElem?_eq_some_iff.mp hx).1
            simp at this
            omega
          rw [List.getElem?_append_left hdl] at hx
          obtain ⟨y1, y2, y3, y4⟩ := hD.2.2 dd x hx
          have hk : ¬ ((dd : Int) = (D.length : Int)) := by omega
          refine ⟨?_, ?_, ?_, ?_, y4.2.1, fun jj y hy => ?_⟩
          · rw [e78, sg_gw', (qs.1 _ hk).1]; exact y1
          · rw [e78, sg_gw_c _ _ _ _ _ _ (by decide), (qs.1 _ hk).2]; exact y2
          · rw [e78, sg_gw_k _ _ _ _ _ _ hk, qs.2.1]; exact y3
          · rw [(me _).1, ms.1 _ hk]; exact y4.1
          · have hjj := (List.getElem?_eq_some_iff.mp hy).1
            have h6 := y4.2.1
            have hb : 6 * (dd : Int) + jj < 6 * (D.length : Int) := by omega
            obtain ⟨z1, z2, z3⟩ := y4.2.2 jj y hy
            rw [(me _).2.1, (me _).2.2.1, (me _).2.2.2, (ms.2 _ hb).1, (ms.2 _ hb).2.1, (ms.2 _ hb).2.2]
            exact ⟨z1, z2, z3⟩
    · rintro σ78 e78
      refine ⟨?_, ?_, Or.inl ⟨?_, ?_⟩⟩
      · rw [e78]
        unfold fpl
        rw [sg_gw_c _ _ _ _ _ _ (by decide)]
        exact hfp
      · rw [e78, sg_gw_c _ _ _ _ _ _ (by decide), sg_F_g f2 rfl]
        exact q47.2.2.2.2.trans hn
      · rw [e78, sg_gw_c _ _ _ _ _ _ (by decide)]; exact hs
      · simp [aDf1, a1, a2, hps, a3, a4, hE]
  rintro σ53 - ⟨fp53, d53, g53⟩
  have fin : ∀ s, sg_g s 88 19 = D.length → sg_R ((D.length : Int) + 1) := fun _ _ => ⟨by omega, by omega⟩
  refine ⟨fun c => ⟨⟨by omega, by omega⟩, ?_⟩, fun c => ?_⟩
  · rintro σ58 rfl
    rcases g53 with ⟨-, g⟩ | ⟨j2, A2, q, hq, -⟩
    · refine k2 (Or.inr g) _ ?_ ?_
      · rw [sg_gw_k _ _ _ _ _ _ (by decide)]; exact c
      · unfold fpl
        rw [sg_gw_k _ _ _ _ _ _ (by decide)]
        exact fp53
    · exact absurd hq.2.1 c
  · rcases g53 with ⟨g, -⟩ | ⟨j2, A2, q, h53, hq, a1, a2, ps, j1, hps, a3, a4, hE, hD', rows⟩
    · exact absurd c g
    rw [vq_sg h53]
    refine ⟨pq_sg h53 59, sq_want h53 (fun _ c => Rq_i h53 (by have := sg_t ((if01 _).mp c); omega)) (fun s F2 e2 h2 f2 => ⟨⟨by omega, by omega⟩, ?_⟩)⟩
    rw [if01] at e2
    rintro σ69 e69
    by_cases e : F2 = 0
    · rw [if_pos e] at h2
      subst e
      have h69 : Rq t N σ69 0 (j2 + 1) A2 := by
        rw [e69]
        obtain ⟨h1, h2', h3', h4, h5, h6, h10⟩ := h2
        refine ⟨?_, ?_, ?_, ?_, ?_, h6, ?_⟩
        all_goals try simp only [fpl, rg_w, rg_w', Nat.reduceEqDiff, if_false, if_true, reduceIte, Int.reduceEq]
        · exact h1
        · exact h2'
        · exact h3'
        · exact h4
        · exact h5
        · exact h10
      refine k1 (j2 + 1) A2 (t.2.1 (i + 1), t.2.2 (i + 1), ps, q) hlt ?_ hq σ69 h69 ⟨?_, ?_, ?_⟩
      · simp [aDf1, a1, a2, hps, a3, a4, hE, (e2.mp rfl).2]
      · rw [e69, sg_gw, if_pos ⟨rfl, rfl⟩, sg_id ⟨by omega, by omega⟩]
        simp
      · simp; omega
      · intro dd x hx
        obtain ⟨y1, y2, y3, y4⟩ := rows dd x hx
        have me : pmE s σ69 := by
          intro k
          rw [e69]
          exact ⟨sg_gw_c _ _ _ _ _ _ (by decide), rfl, sg_gw_c _ _ _ _ _ _ (by decide), sg_gw_c _ _ _ _ _ _ (by decide)⟩
        refine ⟨?_, ?_, ?_, pmE_R (pmE_t (pmE_F f2 ⟨rfl, rfl, rfl, rfl⟩) me) y4⟩
        · rw [e69, sg_gw', sg_F_gal f2 rfl]; exact y1
        · rw [e69, sg_gw_c _ _ _ _ _ _ (by decide), sg_F_ga f2 rfl]; exact y2
        · rw [e69, sg_gw_c _ _ _ _ _ _ (by decide), sg_F_ga f2 rfl]; exact y3
    · have b : aSg t j2 59 = false := bF (fun b => e (e2.mpr ⟨rfl, b⟩))
      refine k2 (Or.inr (by simp [aDf1, a1, a2, hps, a3, a4, hE, b])) _ ?_ ?_
      · rw [e69, sg_gw_k _ _ _ _ _ _ (by decide), h2.2.1]; exact e
      · rw [e69]
        unfold fpl
        rw [sg_gw_k _ _ _ _ _ _ (by decide)]
        exact h2.2.2.2.2.2.2
end DEF
/-! THE REFERENCE'S TOKENS are the class's. -/
def lx_dec (B : Int → Int) (q : Int) : Nat → Int
  | 0 => 0
  | n + 1 => 10 * lx_dec B q n + B (q + n) - 48
def lx_dg (b : Int) : Int := if lx_l b = true then b - 96 else b - 21
def lx_cd (B : Int → Int) (q : Int) : Nat → Int
  | 0 => 0
  | n + 1 => 40 * lx_cd B q n + lx_dg (B (q + n))
theorem lx_dec_b {B : Int → Int} {q : Int} : ∀ (n : Nat), (∀ t, q ≤ t → t < q + n → lx_d (B t) = true) → 0 ≤ lx_dec B q n ∧ lx_dec B q n < 10 ^ n
  | 0, _ => by simp [lx_dec]
  | n + 1, h => by
    obtain ⟨h1, h2⟩ := lx_dec_b n (fun t a b => h t a (by omega))
    have h3 := of_decide_eq_true (h (q + n) (by omega) (by omega))
    simp only [lx_dec]
    rw [Int.pow_succ]
    omega
theorem lx_dg_b {b : Int} (h : lx_a b = true) : 1 ≤ lx_dg b ∧ lx_dg b ≤ 36 := by
  have h1 := of_decide_eq_true h
  unfold lx_dg lx_l
  split
  · rename_i h2
    have := of_decide_eq_true h2
    omega
  · rename_i h2
    have : ¬ (97 ≤ b ∧ b ≤ 122) := fun q => h2 (decide_eq_true q)
    omega
theorem lx_cd_b {B : Int → Int} {q : Int} : ∀ (n : Nat), (∀ t, q ≤ t → t < q + n → lx_a (B t) = true) → 0 ≤ lx_cd B q n ∧ lx_cd B q n < 40 ^ n
  | 0, _ => by simp [lx_cd]
  | n + 1, h => by
    obtain ⟨h1, h2⟩ := lx_cd_b n (fun t a b => h t a (by omega))
    have h3 := lx_dg_b (h (q + n) (by omega) (by omega))
    simp only [lx_cd]
    rw [Int.pow_succ]
    omega
theorem lx_p10 {n : Nat} (h : n ≤ 10) : (10 : Int) ^ n ≤ 10000000000 := by
  rcases (show n = 0 ∨ n = 1 ∨ n = 2 ∨ n = 3 ∨ n = 4 ∨ n = 5 ∨ n = 6 ∨ n = 7 ∨ n = 8 ∨ n = 9 ∨ n = 10 by omega) with h | h | h | h | h | h | h | h | h | h | h <;> subst h <;> decide
theorem lx_p40 {n : Nat} (h : n ≤ 8) : (40 : Int) ^ n ≤ 6553600000000 := by
  rcases (show n = 0 ∨ n = 1 ∨ n = 2 ∨ n = 3 ∨ n = 4 ∨ n = 5 ∨ n = 6 ∨ n = 7 ∨ n = 8 by omega) with h | h | h | h | h | h | h | h | h <;> subst h <;> decide
/-- the reference's sort and word of a token -/
def rS (c : tkC) (i : Nat) : Int := if tK c i = 256 then 0 else if tK c i = 257 then 1 else if tK c i = 259 then 4 else if tK c i = 258 ∨ 261 ≤ tK c i then 2 else 3
def rW (c : tkC) (i : Nat) : Int := if c.2.1 ≤ tPl c i then 0 else if lx_d (c.1 (tPl c i)) = true then lx_dec c.1 (tPl c i) (lx_end c.1 c.2.1 lx_d (tPl c i) - tPl c i).toNat else if lx_l (c.1 (tPl c i)) = true then lx_cd c.1 (tPl c i) (lx_end c.1 c.2.1 lx_a (tPl c i) - tPl c i).toNat else c.1 (tPl c i)
def tkT (c : tkC) (t : aK) (N : Nat) : Prop := (∀ i, i ≤ N → t.1 i = rS c i ∧ t.2.2 i = tPl c i) ∧ (∀ i, i < N → t.2.1 i = rW c i)
theorem lx_end_1 {B : Int → Int} {N q : Int} {p : Int → Bool} (h : q < N) (hp : p (B q) = true) : lx_end B N p (q + 1) = lx_end B N p q := by
  obtain ⟨h1, h2, h3⟩ := lx_end_spec B N p (q + 1)
  refine (lx_end_eq (by omega) (fun t a b => ?_) h3).symm
  by_cases e : t = q
  · subst e; exact ⟨h, hp⟩
  · exact h2 t (by omega) b
theorem lx_end_0 {B : Int → Int} {N q : Int} {p : Int → Bool} (h : N ≤ q ∨ p (B q) = false) : lx_end B N p q = q := lx_end_eq (Int.le_refl _) (fun t a b => by omega) h
theorem vd_l (x : Int) : v_isDigit x = if lx_d x = true then 1 else 0 := by
  unfold v_isDigit v_in lx_d
  by_cases a : x < 48
  · rw [if_pos a]; simp; omega
  · rw [if_neg a]
    by_cases b : 57 < x
    · rw [if_pos b]; simp; omega
    · rw [if_neg b]; simp; omega
theorem vl_l (x : Int) : v_isLetter x = if lx_l x = true then 1 else 0 := by
  unfold v_isLetter v_in lx_l
  by_cases a : x < 97
  · rw [if_pos a]; simp; omega
  · rw [if_neg a]
    by_cases b : 122 < x
    · rw [if_pos b]; simp; omega
    · rw [if_neg b]; simp; omega
theorem vs_l (x : Int) : v_isSign x = if lx_s x = true then 1 else 0 := by
  by_cases h : lx_s x = true
  · rw [if_pos h]
    have := of_decide_eq_true h
    rcases this with h | h | h | h | h | h | h | h | h | h | h | h | h | h | h | h | h | h <;> subst h <;> decide
  · rw [if_neg h]
    have h2 : ¬ (x = 40 ∨ x = 41 ∨ x = 123 ∨ x = 125 ∨ x = 91 ∨ x = 93 ∨ x = 44 ∨ x = 58 ∨ x = 59 ∨ x = 124 ∨ x = 61 ∨ x = 60 ∨ x = 43 ∨ x = 45 ∨ x = 42 ∨ x = 47 ∨ x = 37 ∨ x = 35) := fun q => h (decide_eq_true q)
    simp only [not_or] at h2
    obtain ⟨a1, a2, a3, a4, a5, a6, a7, a8, a9, a10, a11, a12, a13, a14, a15, a16, a17, a18⟩ := h2
    unfold v_isSign
    rw [if_neg a1, if_neg a2, if_neg a3, if_neg a4, if_neg a5, if_neg a6, if_neg a7, if_neg a8, if_neg a9, if_neg a10, if_neg a11, if_neg a12, if_neg a13, if_neg a14, if_neg a15, if_neg a16, if_neg a17, if_pos a18]
section TKN
variable {σ : sg_S} {c : tkC}
/-- the bytes that the reference sees -/
def bY (c : tkC) (σ : sg_S) : Prop := tkOK c ∧ sg_g σ 88 2 = c.2.1 ∧ ∀ p, 0 ≤ p → p < c.2.1 → sg_g σ 89 p = c.1 p
theorem pb_l (h : bY c σ) {p : Int} (hp : 0 ≤ p) : p_byteOf σ p := by
  have h1 := h.1.2.1
  unfold p_byteOf
  rw [h.2.1]
  exact ⟨fun _ => trivial, fun q => ⟨⟨hp, by omega⟩, trivial⟩⟩
theorem vb_l (h : bY c σ) {p : Int} (hp : 0 ≤ p) : v_byteOf σ p = if p < c.2.1 then c.1 p else 0 := by
  unfold v_byteOf
  rw [h.2.1]
  by_cases q : c.2.1 ≤ p
  · rw [if_pos q, if_neg (by omega)]
  · rw [if_neg q, if_pos (by omega), h.2.2 p hp (by omega)]
/-- the first k tokens in their rows -/
def tkP (c : tkC) (σ : sg_S) (k : Nat) : Prop := sg_g σ 88 3 = k ∧ ∀ i : Nat, i < k → sg_g σ 90 i = rS c i ∧ sg_g σ 91 i = tPl c i ∧ (¬ rS c i = 4 → sg_gl σ 92 i = rW c i)
theorem s_token {Q : sg_S → Prop} {k : Nat} {a p w : Int} (h : tkP c σ k) (hk : k < 1205) (ha : a = rS c k) (hp : p = tPl c k) (hpr : sg_R p) (hw : ¬ rS c k = 4 → w = rW c k) (hwr : sg_RL w) (kk : ∀ σ', tkP c σ' (k + 1) → sg_gl σ' 92 k = w → Q σ') : V_token σ a p w Q := by
  obtain ⟨h1, h2⟩ := h
  have har : sg_R a := by
    rw [ha]
    unfold rS
    repeat (first | (constructor <;> decide) | split)
  unfold V_token
  rw [h1]
  refine ⟨⟨by omega, by omega⟩, ?_⟩
  rintro σ2 rfl σ5 rfl σ8 rfl
  refine ⟨⟨by omega, by omega⟩, ?_⟩
  rintro σ12 rfl
  refine kk _ ⟨?_, fun i hi => ?_⟩ ?_
  · rw [sg_gw, if_pos ⟨rfl, rfl⟩, sg_id ⟨by omega, by omega⟩]
    omega
  · simp only [rg_w, rg_w', rg_wl, rg_wl', Nat.reduceEqDiff, if_false, if_true, reduceIte, Int.reduceEq]
    by_cases e : i = k
    · subst e
      simp only [if_true, sg_id har, sg_id hpr, sg_idl hwr]
      exact ⟨ha, hp, hw⟩
    · have e2 : ¬ ((i : Int) = (k : Int)) := by omega
      simp only [if_neg e2]
      exact h2 i (by omega)
  · rw [sg_gw', sg_gwl, if_pos ⟨rfl, rfl⟩, sg_idl hwr]
/-- where a token begins, there is its kind -/
theorem tk_at (hc : tkOK c) {k : Nat} {p : Int} (hp0 : 0 ≤ p) (he : lx_end c.1 c.2.1 lx_b p = tPl c k) (hp : p < c.2.1) (hb : lx_b (c.1 p) = false) : tPl c k = p := by
  rw [← he]
  exact lx_end_0 (Or.inr hb)
theorem tP_k (hc : tkOK c) : ∀ k : Nat, (∀ i, i < k → ¬ tK c i = 256 ∧ ¬ tK c i = 259) → (k : Int) ≤ tPos c k
  | 0, _ => by simp [tPos]
  | k + 1, h => by
    have ih := tP_k hc k (fun i hi => h i (by omega))
    have h1 := h k (by omega)
    have h2 := (lx_end_spec c.1 c.2.1 lx_b (tPos c k)).1
    have h3 := tPl_r hc k
    have : tPl c k + 1 ≤ tPos c (k + 1) := by
      show tPl c k + 1 ≤ lx_next c.1 c.2.1 (tPl c k)
      unfold lx_next
      have h4 := h1
      unfold tK lx_kind at h4
      by_cases a : c.2.1 ≤ tPl c k
      · rw [if_pos a] at h4
        exact absurd rfl h4.1
      · rw [if_neg a]
        rw [if_neg a] at h4
        have hlt : tPl c k < c.2.1 := by omega
        by_cases b : lx_d (c.1 (tPl c k)) = true
        · rw [if_pos b, ← lx_end_1 hlt b]
          exact (lx_end_spec c.1 c.2.1 lx_d (tPl c k + 1)).1
        · rw [if_neg b]
          rw [if_neg b] at h4
          by_cases d : lx_l (c.1 (tPl c k)) = true
          · have d2 : lx_a (c.1 (tPl c k)) = true := by
              have := of_decide_eq_true d
              unfold lx_a
              exact decide_eq_true (Or.inr this)
            rw [if_pos d, ← lx_end_1 hlt d2]
            exact (lx_end_spec c.1 c.2.1 lx_a (tPl c k + 1)).1
          · rw [if_neg d]
            rw [if_neg d] at h4
            by_cases e : lx_s (c.1 (tPl c k)) = true
            · rw [if_pos e]
              exact Int.le_refl _
            · rw [if_neg e] at h4
              exact absurd rfl h4.2
    have h5 : tPos c k ≤ tPl c k := h2
    omega
end TKN
/-! THE REFERENCE cuts the tape into the class's tokens. -/
section CUT
variable {σ : sg_S} {c : tkC}
def cI (c : tkC) (s : sg_S) (p v : Int) : Prop := 0 ≤ p ∧ p ≤ c.2.1 ∧ ∃ k : Nat, tkP c s k ∧ (v = 1 ∧ (∀ i, i < k → 1 ≤ rS c i ∧ rS c i ≤ 3) ∧ lx_end c.1 c.2.1 lx_b p = tPl c k ∨ v = 0 ∧ 1 ≤ k ∧ (∀ i, i + 1 < k → 1 ≤ rS c i ∧ rS c i ≤ 3) ∧ rS c (k - 1) = 4)
theorem rS_n {i : Nat} (h : 1 ≤ rS c i ∧ rS c i ≤ 3) : ¬ tK c i = 256 ∧ ¬ tK c i = 259 := by
  unfold rS at h
  refine ⟨fun e => ?_, fun e => ?_⟩
  · rw [if_pos e] at h; omega
  · rw [if_neg (by omega), if_neg (by omega), if_pos e] at h; omega
theorem cI_k (hc : tkOK c) {k : Nat} {p : Int} (hp : 0 ≤ p ∧ p ≤ c.2.1) (h1 : ∀ i, i < k → 1 ≤ rS c i ∧ rS c i ≤ 3) : (k : Int) ≤ 1200 := by
  have h2 := tP_k hc k (fun i hi => rS_n (h1 i hi))
  have h3 := (tPos_r hc k).2
  have h4 := hc.2.1
  omega
/-- one more token: the next stands behind it -/
theorem cI_s (hc : tkOK c) {k : Nat} {p : Int} {s : sg_S} (h1 : ∀ i, i < k → 1 ≤ rS c i ∧ rS c i ≤ 3) (hs : tkP c s (k + 1)) (hp : tPl c k = p) (hr : 1 ≤ rS c k ∧ rS c k ≤ 3) : cI c s (lx_next c.1 c.2.1 p) 1 := by
  have h2 := tPos_r hc (k + 1)
  have e : lx_next c.1 c.2.1 p = tPos c (k + 1) := by rw [← hp]; rfl
  rw [e]
  refine ⟨h2.1, h2.2, k + 1, hs, Or.inl ⟨rfl, fun i hi => ?_, rfl⟩⟩
  by_cases e2 : i = k
  · subst e2; exact hr
  · exact h1 i (by omega)
theorem cI_b {k : Nat} {p : Int} {s : sg_S} (h1 : ∀ i, i < k → 1 ≤ rS c i ∧ rS c i ≤ 3) (hs : tkP c s (k + 1)) (hp : 0 ≤ p ∧ p ≤ c.2.1) (hr : rS c k = 4) : cI c s p 0 := ⟨hp.1, hp.2, k + 1, hs, Or.inr ⟨rfl, by omega, fun i hi => h1 i (by omega), by simpa using hr⟩⟩
theorem rS_d (hc : tkOK c) {k : Nat} {p : Int} (hp : tPl c k = p) (hlt : p < c.2.1) (hd : lx_d (c.1 p) = true) : rS c k = (if lx_end c.1 c.2.1 lx_d p - p > 9 then 4 else 1) ∧ rW c k = lx_dec c.1 p (lx_end c.1 c.2.1 lx_d p - p).toNat := by
  unfold rS rW tK lx_kind
  rw [hp, if_neg (show ¬ c.2.1 ≤ p by omega), if_pos hd, if_neg (show ¬ c.2.1 ≤ p by omega), if_pos hd]
  refine ⟨?_, rfl⟩
  by_cases a : lx_end c.1 c.2.1 lx_d p - p > 9
  · simp only [if_pos a]; decide
  · simp only [if_neg a]; decide
theorem rS_w (hc : tkOK c) {k : Nat} {p : Int} (hp : tPl c k = p) (hlt : p < c.2.1) (hd : ¬ lx_d (c.1 p) = true) (hl : lx_l (c.1 p) = true) : rS c k = (if lx_end c.1 c.2.1 lx_a p - p > 8 then 4 else 2) ∧ rW c k = lx_cd c.1 p (lx_end c.1 c.2.1 lx_a p - p).toNat := by
  unfold rS rW tK lx_kind
  rw [hp, if_neg (show ¬ c.2.1 ≤ p by omega), if_neg hd, if_pos hl, if_neg (show ¬ c.2.1 ≤ p by omega), if_neg hd, if_pos hl]
  refine ⟨?_, rfl⟩
  by_cases a : lx_end c.1 c.2.1 lx_a p - p > 8
  · simp only [if_pos a]; decide
  · simp only [if_neg a]
    have := lx_fi_r c.2.2.1 (lx_pk c.1 p (lx_end c.1 c.2.1 lx_a p - p).toNat) 18 0 (by omega) (by omega)
    generalize lx_fi c.2.2.1 (lx_pk c.1 p (lx_end c.1 c.2.1 lx_a p - p).toNat) 18 0 = x at this
    rw [if_neg (by omega), if_neg (by omega), if_neg (by omega), if_pos (by omega)]
theorem rS_s (hc : tkOK c) {k : Nat} {p : Int} (hp : tPl c k = p) (hlt : p < c.2.1) (hd : ¬ lx_d (c.1 p) = true) (hl : ¬ lx_l (c.1 p) = true) : rS c k = (if lx_s (c.1 p) = true then 3 else 4) ∧ rW c k = c.1 p := by
  unfold rS rW tK lx_kind
  rw [hp, if_neg (show ¬ c.2.1 ≤ p by omega), if_neg hd, if_neg hl, if_neg (show ¬ c.2.1 ≤ p by omega), if_neg hd, if_neg hl]
  refine ⟨?_, rfl⟩
  by_cases a : lx_s (c.1 p) = true
  · simp only [if_pos a]
    have := of_decide_eq_true a
    rw [if_neg (by omega), if_neg (by omega), if_neg (by omega), if_neg (by omega)]
  · simp only [if_neg a]; decide
theorem s_cut {Q : sg_S → Prop} (hb : bY c σ) (k : ∀ t N σ', tkR t N (sg_g σ' 90) (sg_g σ' 91) (sg_gl σ' 92) → tkT c t N → Q σ') : V_cutTokens σ Q := by
  have hc := hb.1
  have hn0 := hc.1
  have hn1 := hc.2.1
  unfold V_cutTokens
  rintro σ1 e1
  rw [hb.2.1]
  refine ⟨fun m p v s => m = (c.2.1 - p).toNat ∧ cI c s p v, fun v s => ∃ p, cI c s p v ∧ (v = 1 → c.2.1 ≤ p), ⟨_, rfl, Int.le_refl 0, hn0, 0, ⟨?_, fun i hi => absurd hi (by omega)⟩, Or.inl ⟨rfl, fun i hi => absurd hi (by omega), rfl⟩⟩, ?_, ?_⟩
  · rw [e1, sg_gw, if_pos ⟨rfl, rfl⟩]; rfl
  · rintro m p v s - - - ⟨hm, hI⟩
    refine ⟨fun q => ⟨p, hI, fun _ => q⟩, fun q => ⟨fun q2 => ⟨p, hI, fun e => by omega⟩, fun q2 => ?_⟩⟩
    obtain ⟨p0, p1, kk, hk, hv⟩ := hI
    have hv1 : v = 1 ∧ (∀ i, i < kk → 1 ≤ rS c i ∧ rS c i ≤ 3) ∧ lx_end c.1 c.2.1 lx_b p = tPl c kk := by
      rcases hv with hv | hv
      · exact hv
      · exact absurd hv.1 q2
    obtain ⟨v1, hs, he⟩ := hv1
    have hk12 := cI_k hc ⟨p0, p1⟩ hs
    rw [hb.2.2 p p0 q]
    have hbr := hc.2.2 p
    have blank : lx_b (c.1 p) = true → sg_R (p + 1) ∧ (p < p + 1 ∧ cI c s (p + 1) v) := fun hbl => ⟨⟨by omega, by omega⟩, by omega, by omega, by omega, kk, hk, Or.inl ⟨v1, hs, by rw [lx_end_1 q hbl]; exact he⟩⟩
    refine ⟨⟨by omega, by omega⟩, fun p' v' s' => p < p' ∧ cI c s' p' v', ⟨fun h32 => blank (by unfold lx_b; exact decide_eq_true (Or.inl h32)), fun h32 => ⟨fun h10 => ?_, fun h10 => blank (by unfold lx_b; exact decide_eq_true (Or.inr h10))⟩⟩, ?_⟩
    · have hnb : lx_b (c.1 p) = false := by
        unfold lx_b
        exact decide_eq_false (fun h => by omega)
      have hp := tk_at hc p0 he q hnb
      rw [vd_l, vl_l, vs_l]
      refine ⟨fun hd => ⟨fun hl => ?_, fun hl => ?_⟩, fun hd => ?_⟩
      · -- a sign, or none
        rw [if01n] at hd hl
        have hd' : ¬ lx_d (c.1 p) = true := by rw [hd]; simp
        have hl' : ¬ lx_l (c.1 p) = true := by rw [hl]; simp
        obtain ⟨r1, r2⟩ := rS_s hc hp q hd' hl'
        refine ⟨⟨by omega, by omega⟩, ?_⟩
        rintro v49 e49 -
        refine s_token hk (by omega) ?_ hp.symm ⟨by omega, by omega⟩ (fun _ => r2.symm) ⟨by omega, by omega⟩ (fun s' h' _ _ => ⟨by omega, ?_⟩)
        · rw [e49, r1]
          cases lx_s (c.1 p) <;> simp
        · by_cases a : lx_s (c.1 p) = true
          · rw [if_pos a] at r1 ⊢
            have hnx : lx_next c.1 c.2.1 p = p + 1 := by
              unfold lx_next
              rw [if_neg (show ¬ c.2.1 ≤ p by omega), if_neg hd', if_neg hl', if_pos a]
            rw [← hnx]
            exact cI_s hc hs h' hp (by omega)
          · rw [if_neg a] at r1 ⊢
            exact cI_b hs h' ⟨by omega, by omega⟩ r1
      · -- a WORD
        rw [if01n] at hd
        rw [if01] at hl
        have hd' : ¬ lx_d (c.1 p) = true := by rw [hd]; simp
        obtain ⟨r1, r2⟩ := rS_w hc hp q hd' hl
        obtain ⟨s1, s2, s3⟩ := lx_end_spec c.1 c.2.1 lx_a p
        have s4 := lx_end_le (B := c.1) (p := lx_a) (q := p) (N := c.2.1) (by omega)
        have hla : lx_a (c.1 p) = true := by
          have := of_decide_eq_true hl
          unfold lx_a
          exact decide_eq_true (Or.inr this)
        have s5 : p + 1 ≤ lx_end c.1 c.2.1 lx_a p := by rw [← lx_end_1 q hla]; exact (lx_end_spec c.1 c.2.1 lx_a (p + 1)).1
        generalize hE : lx_end c.1 c.2.1 lx_a p = e at r1 r2 s1 s2 s3 s4 s5
        have step : ∀ (m1 : Nat) (a b : Int), p ≤ a → a ≤ e → (a < c.2.1 ∧ lx_a (c.1 a) = true) → (a - p ≤ 8 → b = lx_cd c.1 p (a - p).toNat) → sg_RL b → m1 = (e - a).toNat → ∀ v99 : Int, v99 = lx_dg (c.1 a) → sg_R (a - p) ∧ ((8 ≤ (a - p) → True) ∧ ((a - p) < 8 → sg_RL (40 * b) ∧ sg_RL ((40 * b) + v99) ∧ True)) ∧ ∀ v105 : Int, v105 = (if 8 ≤ (a - p) then b else ((40 * b) + v99)) → sg_RL v105 → sg_R (a + 1) ∧ (∃ m, m < m1 ∧ (m = (e - (a + 1)).toNat ∧ p ≤ a + 1 ∧ a + 1 ≤ e ∧ ((a + 1) - p ≤ 8 → v105 = lx_cd c.1 p ((a + 1) - p).toNat) ∧ sg_RL v105)) := by
          intro m1 a b a0 a1 a2 hbv hbr m1e v99 e99
          have hae : a < e := by
            by_cases x : a = e
            · subst x
              rcases s3 with s3 | s3
              · omega
              · rw [a2.2] at s3; cases s3
            · omega
          have hdg := lx_dg_b a2.2
          have cdb : a - p ≤ 8 → 0 ≤ b ∧ b < 40 ^ (a - p).toNat := fun x => by
            rw [hbv x]
            exact lx_cd_b _ (fun u u0 u1 => (s2 u u0 (by omega)).2)
          have rng : a - p < 8 → 0 ≤ b ∧ b ≤ 6553600000000 := fun x => by
            have y := cdb (by omega)
            have z := lx_p40 (n := (a - p).toNat) (by omega)
            omega
          refine ⟨⟨by omega, by omega⟩, ⟨fun _ => trivial, fun x => ⟨⟨by have := rng x; omega, by have := rng x; omega⟩, ⟨by have := rng x; omega, by have := rng x; omega⟩, trivial⟩⟩, ?_⟩
          rintro v105 e105 hr105
          refine ⟨⟨by omega, by omega⟩, (e - (a + 1)).toNat, by omega, rfl, by omega, by omega, fun x => ?_, hr105⟩
          rw [e105, if_neg (by omega), hbv (by omega), show ((a + 1) - p).toNat = (a - p).toNat + 1 by omega, e99]
          simp only [lx_cd]
          rw [show p + ((a - p).toNat : Int) = a by omega]
        refine ⟨fun m1 a b => m1 = (e - a).toNat ∧ p ≤ a ∧ a ≤ e ∧ (a - p ≤ 8 → b = lx_cd c.1 p (a - p).toNat) ∧ sg_RL b, fun a b => a = e ∧ (a - p ≤ 8 → b = lx_cd c.1 p (a - p).toNat), ⟨_, rfl, Int.le_refl _, by omega, fun _ => by rw [show (p - p).toNat = 0 by omega]; rfl, by decide⟩, ?_, ?_⟩
        · rintro m1 a b - hbr ⟨m1e, a0, a1, hbv, -⟩
          have pb := pb_l hb (p := a) (by omega)
          have vb := vb_l hb (p := a) (by omega)
          rw [vb]
          rw [vd_l, vl_l]
          by_cases hin : a < c.2.1
          · simp only [if_pos hin]
            have hba := hc.2.2 a
            have inner : lx_a (c.1 a) = true → (((if lx_l (c.1 a) = true then (1 : Int) else 0) = 0 → p_byteOf σ a ∧ sg_R (c.1 a - 21) ∧ True) ∧ (¬ (if lx_l (c.1 a) = true then (1 : Int) else 0) = 0 → p_byteOf σ a ∧ sg_R (c.1 a - 96) ∧ True)) := fun _ => ⟨fun _ => ⟨pb, ⟨by omega, by omega⟩, trivial⟩, fun _ => ⟨pb, ⟨by omega, by omega⟩, trivial⟩⟩
            have dg : (if (if lx_l (c.1 a) = true then (1 : Int) else 0) = 0 then c.1 a - 21 else c.1 a - 96) = lx_dg (c.1 a) := by
              unfold lx_dg
              cases lx_l (c.1 a) <;> simp
            refine ⟨pb, fun x => ⟨pb, inner ?_, ?_⟩, fun x => ⟨pb, fun y => ⟨?_, hbv⟩, fun y => ⟨pb, inner ?_, ?_⟩⟩⟩
            · have := of_decide_eq_true ((if01 _).mp x)
              unfold lx_a
              exact decide_eq_true (Or.inr this)
            · have hla2 : lx_a (c.1 a) = true := by
                have := of_decide_eq_true ((if01 _).mp x)
                unfold lx_a
                exact decide_eq_true (Or.inr this)
              rintro v99 e99 -
              rw [dg] at e99
              exact step m1 a b a0 a1 ⟨hin, hla2⟩ hbv hbr m1e v99 e99
            · by_cases z : a = e
              · exact z
              · have z2 := (s2 a a0 (by omega)).2
                have z3 := of_decide_eq_true z2
                have y1 : lx_d (c.1 a) = false := (if01n _).mp y
                have x1 : lx_l (c.1 a) = false := (if01n _).mp x
                have y2 := of_decide_eq_false y1
                have x2 := of_decide_eq_false x1
                omega
            · have := of_decide_eq_true ((if01 _).mp y)
              unfold lx_a
              exact decide_eq_true (Or.inl this)
            · have hla2 : lx_a (c.1 a) = true := by
                have := of_decide_eq_true ((if01 _).mp y)
                unfold lx_a
                exact decide_eq_true (Or.inl this)
              rintro v99 e99 -
              rw [dg] at e99
              exact step m1 a b a0 a1 ⟨hin, hla2⟩ hbv hbr m1e v99 e99
          · simp only [if_neg hin]
            refine ⟨pb, fun x => absurd x (by decide), fun x => ⟨pb, fun y => ⟨by omega, hbv⟩, fun y => absurd y (by decide)⟩⟩
        · rintro a b - hbr ⟨ae, hbv⟩
          subst ae
          refine ⟨⟨by omega, by omega⟩, ?_⟩
          rintro v78 e78 - v83 e83 -
          refine s_token hk (by omega) ?_ hp.symm ⟨by omega, by omega⟩ (fun x => ?_) hbr (fun s' h' _ _ => ⟨by omega, ?_⟩)
          · rw [e83, e78, r1]
            by_cases x : 9 ≤ a - p
            · rw [if_pos x, if_pos rfl, if_pos (by omega)]
            · rw [if_neg x, if_neg (by decide), if_neg (by omega)]
          · have x2 : a - p ≤ 8 := by
              rw [r1] at x
              by_cases y : a - p > 8
              · rw [if_pos y] at x; exact absurd rfl x
              · omega
            rw [r2, hbv x2]
          · by_cases x : 9 ≤ a - p
            · rw [e78, if_pos x]
              exact cI_b hs h' ⟨by omega, by omega⟩ (by rw [r1, if_pos (by omega)])
            · rw [e78, if_neg x]
              have hnx : lx_next c.1 c.2.1 p = a := by
                unfold lx_next
                rw [if_neg (show ¬ c.2.1 ≤ p by omega), if_neg hd', if_pos hl, hE]
              rw [← hnx]
              exact cI_s hc hs h' hp (by rw [r1, if_neg (by omega)]; decide)
      · -- a NUMBER
        rw [if01] at hd
        obtain ⟨r1, r2⟩ := rS_d hc hp q hd
        obtain ⟨s1, s2, s3⟩ := lx_end_spec c.1 c.2.1 lx_d p
        have s4 := lx_end_le (B := c.1) (p := lx_d) (q := p) (N := c.2.1) (by omega)
        have s5 : p + 1 ≤ lx_end c.1 c.2.1 lx_d p := by rw [← lx_end_1 q hd]; exact (lx_end_spec c.1 c.2.1 lx_d (p + 1)).1
        generalize hE : lx_end c.1 c.2.1 lx_d p = e at r1 r2 s1 s2 s3 s4 s5
        refine ⟨fun m1 a b => m1 = (e - a).toNat ∧ p ≤ a ∧ a ≤ e ∧ (a - p ≤ 10 → b = lx_dec c.1 p (a - p).toNat) ∧ sg_RL b, fun a b => a = e ∧ (a - p ≤ 10 → b = lx_dec c.1 p (a - p).toNat), ⟨_, rfl, Int.le_refl _, by omega, fun _ => by rw [show (p - p).toNat = 0 by omega]; rfl, by decide⟩, ?_, ?_⟩
        · rintro m1 a b - hbr ⟨m1e, a0, a1, hbv, -⟩
          have pb := pb_l hb (p := a) (by omega)
          have vb := vb_l hb (p := a) (by omega)
          rw [vb, vd_l]
          by_cases hin : a < c.2.1
          · simp only [if_pos hin]
            have hba := hc.2.2 a
            refine ⟨pb, fun y => ⟨?_, hbv⟩, fun y => ?_⟩
            · by_cases z : a = e
              · exact z
              · have z2 := (s2 a a0 (by omega)).2
                rw [(if01n _).mp y] at z2
                cases z2
            · have y := (if01 _).mp y
              have y2 := of_decide_eq_true y
              have hae : a < e := by
                by_cases x : a = e
                · subst x
                  rcases s3 with s3 | s3
                  · omega
                  · rw [y] at s3; cases s3
                · omega
              have rng : a - p < 10 → 0 ≤ b ∧ b ≤ 10000000000 := fun x => by
                have y := lx_dec_b (B := c.1) (q := p) (a - p).toNat (fun u u0 u1 => (s2 u u0 (by omega)).2)
                have z := lx_p10 (n := (a - p).toNat) (by omega)
                rw [hbv (by omega)]
                omega
              refine ⟨⟨by omega, by omega⟩, ⟨fun _ => trivial, fun x => ⟨⟨by have := rng x; omega, by have := rng x; omega⟩, pb, ⟨by have := rng x; omega, by have := rng x; omega⟩, ⟨by have := rng x; omega, by have := rng x; omega⟩, trivial⟩⟩, ?_⟩
              rintro v184 e184 hr184
              refine ⟨⟨by omega, by omega⟩, (e - (a + 1)).toNat, by omega, rfl, by omega, by omega, fun x => ?_, hr184⟩
              rw [e184, if_neg (by omega), hbv (by omega), show ((a + 1) - p).toNat = (a - p).toNat + 1 by omega]
              simp only [lx_dec]
              rw [show p + ((a - p).toNat : Int) = a by omega]
          · simp only [if_neg hin]
            exact ⟨pb, fun y => ⟨by omega, hbv⟩, fun y => absurd y (by decide)⟩
        · rintro a b - hbr ⟨ae, hbv⟩
          subst ae
          refine ⟨⟨by omega, by omega⟩, ?_⟩
          rintro v164 e164 - v169 e169 -
          refine s_token hk (by omega) ?_ hp.symm ⟨by omega, by omega⟩ (fun x => ?_) hbr (fun s' h' _ _ => ⟨by omega, ?_⟩)
          · rw [e169, e164, r1]
            by_cases x : 10 ≤ a - p
            · rw [if_pos x, if_pos rfl, if_pos (by omega)]
            · rw [if_neg x, if_neg (by decide), if_neg (by omega)]
          · have x2 : a - p ≤ 9 := by
              rw [r1] at x
              by_cases y : a - p > 9
              · rw [if_pos y] at x; exact absurd rfl x
              · omega
            rw [r2, hbv (by omega)]
          · by_cases x : 10 ≤ a - p
            · rw [e164, if_pos x]
              exact cI_b hs h' ⟨by omega, by omega⟩ (by rw [r1, if_pos (by omega)])
            · rw [e164, if_neg x]
              have hnx : lx_next c.1 c.2.1 p = a := by
                unfold lx_next
                rw [if_neg (show ¬ c.2.1 ≤ p by omega), if_pos hd, hE]
              rw [← hnx]
              exact cI_s hc hs h' hp (by rw [r1, if_neg (by omega)]; decide)
    · rintro p' v' s' - - - ⟨hlt, hI'⟩
      exact ⟨(c.2.1 - p').toNat, by have := hI'.2.1; omega, rfl, hI'⟩
  · rintro v s - - ⟨p, ⟨p0, p1, kk, hk, hv⟩, hpn⟩
    have fin : ∀ (N : Nat) (s' : sg_S), tkP c s' (N + 1) → (N : Int) ≤ 1200 → (∀ i, i < N → 1 ≤ rS c i ∧ rS c i ≤ 3) → (rS c N = 0 ∨ rS c N = 4) → Q s' := by
      intro N s' h1 h2 h3 h4
      refine k (rS c, fun i => if i = N then sg_gl s' 92 N else rW c i, tPl c) N s' ⟨by omega, fun i hi => ?_, h3, h4, fun i hi => ?_⟩ ⟨fun i hi => ⟨rfl, rfl⟩, fun i hi => ?_⟩
      · obtain ⟨a, b, d⟩ := h1.2 i (by omega)
        refine ⟨a, b, ?_⟩
        simp only
        by_cases e : i = N
        · subst e; rw [if_pos rfl]
        · rw [if_neg e]
          exact d (by have := h3 i (by omega); omega)
      · have := tPl_r hc i
        simp only
        omega
      · simp only [if_neg (show ¬ i = N by omega)]
    refine ⟨fun e => ?_, fun e => ?_⟩
    · rcases hv with hv | ⟨-, h1, h2, h3⟩
      · omega
      · have h4 := cI_k hc (k := kk - 1) ⟨p0, p1⟩ (fun i hi => h2 i (by omega))
        exact fin (kk - 1) s (by rw [show kk - 1 + 1 = kk by omega]; exact hk) h4 (fun i hi => h2 i (by omega)) (Or.inr h3)
    · rcases hv with ⟨v1, h1, h2⟩ | hv
      · have h4 := cI_k hc ⟨p0, p1⟩ h1
        have hpe : tPl c kk = c.2.1 := by
          rw [← h2, lx_end_0 (Or.inl (hpn v1))]
          have := hpn v1
          omega
        have hk0 : rS c kk = 0 := by
          unfold rS tK lx_kind
          rw [hpe, if_pos (Int.le_refl _)]
          rfl
        have hw0 : rW c kk = 0 := by
          unfold rW
          rw [hpe, if_pos (Int.le_refl _)]
        refine s_token hk (by omega) hk0.symm hpe.symm ⟨by omega, by omega⟩ (fun _ => hw0.symm) (by decide) (fun s' h' _ _ => fin kk s' h' h4 h1 (Or.inl hk0))
      · exact absurd hv.1 e
end CUT
/-! WORDS: packed by 256 (class) and by 40 (reference). -/
def uvf : Nat → Int → Int
  | 0, _ => 0
  | m + 1, w => if w = 0 then 0 else 256 * uvf m (w / 40) + (if w % 40 ≤ 26 then w % 40 + 96 else w % 40 + 21)
def uv (w : Int) : Int := uvf 9 w
theorem uvf_cd {B : Int → Int} {q : Int} : ∀ (n m : Nat), n < m → (∀ t, q ≤ t → t < q + n → lx_a (B t) = true) → uvf m (lx_cd B q n) = lx_pk B q n
  | 0, m + 1, _, _ => by simp [uvf, lx_cd, lx_pk]
  | n + 1, m + 1, hm, h => by
    have ih := uvf_cd n m (by omega) (fun t a b => h t a (by omega))
    have hb := lx_cd_b (B := B) (q := q) n (fun t a b => h t a (by omega))
    have ha := h (q + n) (by omega) (by omega)
    have hd := lx_dg_b ha
    have h1 := of_decide_eq_true ha
    have e1 : lx_cd B q (n + 1) = 40 * lx_cd B q n + lx_dg (B (q + n)) := rfl
    rw [e1]
    simp only [lx_pk, uvf]
    rw [if_neg (by omega), show (40 * lx_cd B q n + lx_dg (B (q + n))) / 40 = lx_cd B q n by omega, show (40 * lx_cd B q n + lx_dg (B (q + n))) % 40 = lx_dg (B (q + n)) by omega, ih]
    congr 1
    unfold lx_dg
    by_cases l : lx_l (B (q + n)) = true
    · have l2 := of_decide_eq_true l
      rw [if_pos l, if_pos (by omega)]
      omega
    · have l2 : ¬ (97 ≤ B (q + n) ∧ B (q + n) ≤ 122) := fun x => l (decide_eq_true x)
      rw [if_neg l, if_neg (by omega)]
      omega
/-- the RESERVED WORDS as the class keeps them -/
def rsv (R : Int → Int) : Prop := R 0 = 6579558 ∧ R 1 = 7103860 ∧ R 2 = 26990 ∧ R 3 = 26982 ∧ R 4 = 1952998766 ∧ R 5 = 1701606245 ∧ R 6 = 1768911969 ∧ R 7 = 1684632436 ∧ R 8 = 7566701 ∧ R 9 = 7168376 ∧ R 10 = 7170414 ∧ R 11 = 1935892846 ∧ R 12 = 7497078 ∧ R 13 = 6513012 ∧ R 14 = 1718378868 ∧ R 15 = 1885430635 ∧ R 16 = 1885696621 ∧ R 17 = 1885434484
theorem fi_e {R : Int → Int} (h : rsv R) (w : Int) : lx_fi R w 18 0 = (if w = 6579558 then 261 else (if w = 7103860 then 262 else (if w = 26990 then 263 else (if w = 26982 then 264 else (if w = 1952998766 then 265 else (if w = 1701606245 then 266 else (if w = 1768911969 then 267 else (if w = 1684632436 then 268 else (if w = 7566701 then 269 else (if w = 7168376 then 270 else (if w = 7170414 then 271 else (if w = 1935892846 then 272 else (if w = 7497078 then 273 else (if w = 6513012 then 274 else (if w = 1718378868 then 275 else (if w = 1885430635 then 276 else (if w = 1885696621 then 277 else (if w = 1885434484 then 278 else 258)))))))))))))))))) := by
  obtain ⟨h0, h1, h2, h3, h4, h5, h6, h7, h8, h9, h10, h11, h12, h13, h14, h15, h16, h17⟩ := h
  simp only [lx_fi_s, Int.reduceAdd, h0, h1, h2, h3, h4, h5, h6, h7, h8, h9, h10, h11, h12, h13, h14, h15, h16, h17]
  simp only [eq_comm (b := w)]
  rfl
section WRD
variable {c : tkC} {t : aK} {N : Nat}
/-- a token's word in both -/
theorem tok_w (hc : tkOK c) (hT : tkT c t N) {i : Nat} (hi : i < N) (h : tK c i = 258 ∨ 261 ≤ tK c i) : ∃ n : Nat, n ≤ 8 ∧ (∀ u, tPl c i ≤ u → u < tPl c i + n → lx_a (c.1 u) = true) ∧ t.2.1 i = lx_cd c.1 (tPl c i) n ∧ tW c i = lx_pk c.1 (tPl c i) n ∧ tK c i = lx_fi c.2.2.1 (tW c i) 18 0 := by
  rw [hT.2 i hi]
  have hk := h
  unfold tK lx_kind at hk
  by_cases a : c.2.1 ≤ tPl c i
  · rw [if_pos a] at hk; omega
  · rw [if_neg a] at hk
    by_cases b : lx_d (c.1 (tPl c i)) = true
    · rw [if_pos b] at hk
      by_cases e : lx_end c.1 c.2.1 lx_d (tPl c i) - tPl c i > 9
      · rw [if_pos e] at hk; omega
      · rw [if_neg e] at hk; omega
    · rw [if_neg b] at hk
      by_cases d : lx_l (c.1 (tPl c i)) = true
      · rw [if_pos d] at hk
        by_cases e : lx_end c.1 c.2.1 lx_a (tPl c i) - tPl c i > 8
        · rw [if_pos e] at hk; omega
        · rw [if_neg e] at hk
          obtain ⟨s1, s2, s3⟩ := lx_end_spec c.1 c.2.1 lx_a (tPl c i)
          have hW : tW c i = lx_pk c.1 (tPl c i) (lx_end c.1 c.2.1 lx_a (tPl c i) - tPl c i).toNat := by
            cases i with
            | zero => simp only [tW, tWd]; rw [if_pos ⟨by omega, d⟩]
            | succ j => simp only [tW, tWd]; rw [if_pos ⟨by omega, d⟩]
          refine ⟨(lx_end c.1 c.2.1 lx_a (tPl c i) - tPl c i).toNat, by omega, fun u u0 u1 => (s2 u u0 (by omega)).2, ?_, hW, ?_⟩
          · unfold rW
            rw [if_neg a, if_neg b, if_pos d]
          · rw [hW]
            unfold tK lx_kind
            rw [if_neg a, if_neg b, if_pos d, if_neg e]
      · rw [if_neg d] at hk
        by_cases e : lx_s (c.1 (tPl c i)) = true
        · rw [if_pos e] at hk
          have := hc.2.2 (tPl c i)
          omega
        · rw [if_neg e] at hk; omega
/-- the class's word out of the reference's -/
theorem tok_u (hc : tkOK c) (hT : tkT c t N) {i : Nat} (hi : i < N) (h : tK c i = 258 ∨ 261 ≤ tK c i) : uv (t.2.1 i) = tW c i := by
  obtain ⟨n, h1, h2, h3, h4, -⟩ := tok_w hc hT hi h
  rw [h3, h4]
  exact uvf_cd n 9 (by omega) h2
theorem cd_inj {B B' : Int → Int} {q q' : Int} : ∀ (n n' : Nat), (∀ t, q ≤ t → t < q + n → lx_a (B t) = true) → (∀ t, q' ≤ t → t < q' + n' → lx_a (B' t) = true) → lx_pk B q n = lx_pk B' q' n' → lx_cd B q n = lx_cd B' q' n'
  | 0, 0, _, _, _ => rfl
  | 0, n' + 1, h, h', e => by
    have h1 := of_decide_eq_true (h' (q' + n') (by omega) (by omega))
    have h2 := lx_pk_7 (B := B') (q := q') n' (fun t a b => h' t a (by omega))
    simp only [lx_pk] at e
    omega
  | n + 1, 0, h, h', e => by
    have h1 := of_decide_eq_true (h (q + n) (by omega) (by omega))
    have h2 := lx_pk_7 (B := B) (q := q) n (fun t a b => h t a (by omega))
    simp only [lx_pk] at e
    omega
  | n + 1, n' + 1, h, h', e => by
    have h1 := of_decide_eq_true (h (q + n) (by omega) (by omega))
    have h2 := of_decide_eq_true (h' (q' + n') (by omega) (by omega))
    simp only [lx_pk] at e
    have e1 : B (q + n) = B' (q' + n') := by omega
    have e2 : lx_pk B q n = lx_pk B' q' n' := by omega
    simp only [lx_cd]
    rw [e1, cd_inj n n' (fun t a b => h t a (by omega)) (fun t a b => h' t a (by omega)) e2]
/-- two words are the same in both -/
theorem tok_e (hc : tkOK c) (hT : tkT c t N) {i j : Nat} (hi : i < N) (hj : j < N) (h : tK c i = 258 ∨ 261 ≤ tK c i) (h' : tK c j = 258 ∨ 261 ≤ tK c j) : t.2.1 i = t.2.1 j ↔ tW c i = tW c j := by
  refine ⟨fun e => ?_, fun e => ?_⟩
  · rw [← tok_u hc hT hi h, ← tok_u hc hT hj h', e]
  · obtain ⟨n, h1, h2, h3, h4, -⟩ := tok_w hc hT hi h
    obtain ⟨n', h1', h2', h3', h4', -⟩ := tok_w hc hT hj h'
    rw [h3, h3']
    rw [h4, h4'] at e
    exact cd_inj n n' h2 h2' e
/-- a constant's letters -/
def ltr (w : Int) (n : Nat) (i : Int) : Int := (w / 256 ^ (n - 1 - i.toNat)) % 256
theorem tok_k (hc : tkOK c) (hT : tkT c t N) {i : Nat} (hi : i < N) (h : tK c i = 258 ∨ 261 ≤ tK c i) (w p : Int) (n : Nat) (hn : n ≤ 8) (hl : ∀ u, 0 ≤ u → u < 0 + (n : Int) → lx_a (ltr p n u) = true) (hp : lx_pk (ltr p n) 0 n = p) (hw : lx_cd (ltr p n) 0 n = w) : t.2.1 i = w ↔ tW c i = p := by
  obtain ⟨m, h1, h2, h3, h4, -⟩ := tok_w hc hT hi h
  refine ⟨fun e => ?_, fun e => ?_⟩
  · have h5 := uvf_cd m 9 (by omega) h2
    rw [← h3, e, ← hw, uvf_cd n 9 (by omega) hl, hp] at h5
    rw [h4]
    exact h5.symm
  · rw [h3]
    rw [h4] at e
    rw [← hw]
    exact cd_inj m n h2 hl (e.trans hp.symm)
theorem ltr_k (p : Int) (n : Nat) (hn : n ≤ 4) (h : (lx_a (ltr p n 0) = true ∨ n < 1) ∧ (lx_a (ltr p n 1) = true ∨ n < 2) ∧ (lx_a (ltr p n 2) = true ∨ n < 3) ∧ (lx_a (ltr p n 3) = true ∨ n < 4)) : ∀ u, 0 ≤ u → u < 0 + (n : Int) → lx_a (ltr p n u) = true := by
  intro u a b
  obtain ⟨h0, h1, h2, h3⟩ := h
  rcases (show u = 0 ∨ u = 1 ∨ u = 2 ∨ u = 3 by omega) with e | e | e | e <;> subst e
  · exact h0.resolve_right (by omega)
  · exact h1.resolve_right (by omega)
  · exact h2.resolve_right (by omega)
  · exact h3.resolve_right (by omega)
theorem tok_def (hc : tkOK c) (hT : tkT c t N) {i : Nat} (hi : i < N) (h : tK c i = 258 ∨ 261 ≤ tK c i) : t.2.1 i = 6606 ↔ tW c i = 6579558 := tok_k hc hT hi h 6606 6579558 3 (by decide) (ltr_k 6579558 3 (by decide) (by decide)) (by decide) (by decide)
theorem tok_let (hc : tkOK c) (hT : tkT c t N) {i : Nat} (hi : i < N) (h : tK c i = 258 ∨ 261 ≤ tK c i) : t.2.1 i = 19420 ↔ tW c i = 7103860 := tok_k hc hT hi h 19420 7103860 3 (by decide) (ltr_k 7103860 3 (by decide) (by decide)) (by decide) (by decide)
theorem tok_in (hc : tkOK c) (hT : tkT c t N) {i : Nat} (hi : i < N) (h : tK c i = 258 ∨ 261 ≤ tK c i) : t.2.1 i = 374 ↔ tW c i = 26990 := tok_k hc hT hi h 374 26990 2 (by decide) (ltr_k 26990 2 (by decide) (by decide)) (by decide) (by decide)
theorem tok_if (hc : tkOK c) (hT : tkT c t N) {i : Nat} (hi : i < N) (h : tK c i = 258 ∨ 261 ≤ tK c i) : t.2.1 i = 366 ↔ tW c i = 26982 := tok_k hc hT hi h 366 26982 2 (by decide) (ltr_k 26982 2 (by decide) (by decide)) (by decide) (by decide)
theorem tok_then (hc : tkOK c) (hT : tkT c t N) {i : Nat} (hi : i < N) (h : tK c i = 258 ∨ 261 ≤ tK c i) : t.2.1 i = 1293014 ↔ tW c i = 1952998766 := tok_k hc hT hi h 1293014 1952998766 4 (by decide) (ltr_k 1952998766 4 (by decide) (by decide)) (by decide) (by decide)
theorem tok_else (hc : tkOK c) (hT : tkT c t N) {i : Nat} (hi : i < N) (h : tK c i = 258 ∨ 261 ≤ tK c i) : t.2.1 i = 339965 ↔ tW c i = 1701606245 := tok_k hc hT hi h 339965 1701606245 4 (by decide) (ltr_k 1701606245 4 (by decide) (by decide)) (by decide) (by decide)
theorem tok_iota (hc : tkOK c) (hT : tkT c t N) {i : Nat} (hi : i < N) (h : tK c i = 258 ∨ 261 ≤ tK c i) : t.2.1 i = 600801 ↔ tW c i = 1768911969 := tok_k hc hT hi h 600801 1768911969 4 (by decide) (ltr_k 1768911969 4 (by decide) (by decide)) (by decide) (by decide)
theorem tok_dist (hc : tkOK c) (hT : tkT c t N) {i : Nat} (hi : i < N) (h : tK c i = 258 ∨ 261 ≤ tK c i) : t.2.1 i = 271180 ↔ tW c i = 1684632436 := tok_k hc hT hi h 271180 1684632436 4 (by decide) (ltr_k 1684632436 4 (by decide) (by decide)) (by decide) (by decide)
theorem tok_sum (hc : tkOK c) (hT : tkT c t N) {i : Nat} (hi : i < N) (h : tK c i = 258 ∨ 261 ≤ tK c i) : t.2.1 i = 31253 ↔ tW c i = 7566701 := tok_k hc hT hi h 31253 7566701 3 (by decide) (ltr_k 7566701 3 (by decide) (by decide)) (by decide) (by decide)
theorem tok_max (hc : tkOK c) (hT : tkT c t N) {i : Nat} (hi : i < N) (h : tK c i = 258 ∨ 261 ≤ tK c i) : t.2.1 i = 20864 ↔ tW c i = 7168376 := tok_k hc hT hi h 20864 7168376 3 (by decide) (ltr_k 7168376 3 (by decide) (by decide)) (by decide) (by decide)
theorem tok_min (hc : tkOK c) (hT : tkT c t N) {i : Nat} (hi : i < N) (h : tK c i = 258 ∨ 261 ≤ tK c i) : t.2.1 i = 21174 ↔ tW c i = 7170414 := tok_k hc hT hi h 21174 7170414 3 (by decide) (ltr_k 7170414 3 (by decide) (by decide)) (by decide) (by decide)
theorem tok_scan (hc : tkOK c) (hT : tkT c t N) {i : Nat} (hi : i < N) (h : tK c i = 258 ∨ 261 ≤ tK c i) : t.2.1 i = 1220854 ↔ tW c i = 1935892846 := tok_k hc hT hi h 1220854 1935892846 4 (by decide) (ltr_k 1935892846 4 (by decide) (by decide)) (by decide) (by decide)
theorem tok_rev (hc : tkOK c) (hT : tkT c t N) {i : Nat} (hi : i < N) (h : tK c i = 258 ∨ 261 ≤ tK c i) : t.2.1 i = 29022 ↔ tW c i = 7497078 := tok_k hc hT hi h 29022 7497078 3 (by decide) (ltr_k 7497078 3 (by decide) (by decide)) (by decide) (by decide)
theorem tok_cat (hc : tkOK c) (hT : tkT c t N) {i : Nat} (hi : i < N) (h : tK c i = 258 ∨ 261 ≤ tK c i) : t.2.1 i = 4860 ↔ tW c i = 6513012 := tok_k hc hT hi h 4860 6513012 3 (by decide) (ltr_k 6513012 3 (by decide) (by decide)) (by decide) (by decide)
theorem tok_flat (hc : tkOK c) (hT : tkT c t N) {i : Nat} (hi : i < N) (h : tK c i = 258 ∨ 261 ≤ tK c i) : t.2.1 i = 403260 ↔ tW c i = 1718378868 := tok_k hc hT hi h 403260 1718378868 4 (by decide) (ltr_k 1718378868 4 (by decide) (by decide)) (by decide) (by decide)
theorem tok_pack (hc : tkOK c) (hT : tkT c t N) {i : Nat} (hi : i < N) (h : tK c i = 258 ∨ 261 ≤ tK c i) : t.2.1 i = 1025731 ↔ tW c i = 1885430635 := tok_k hc hT hi h 1025731 1885430635 4 (by decide) (ltr_k 1885430635 4 (by decide) (by decide)) (by decide) (by decide)
theorem tok_perm (hc : tkOK c) (hT : tkT c t N) {i : Nat} (hi : i < N) (h : tK c i = 258 ∨ 261 ≤ tK c i) : t.2.1 i = 1032733 ↔ tW c i = 1885696621 := tok_k hc hT hi h 1032733 1885696621 4 (by decide) (ltr_k 1885696621 4 (by decide) (by decide)) (by decide) (by decide)
theorem tok_part (hc : tkOK c) (hT : tkT c t N) {i : Nat} (hi : i < N) (h : tK c i = 258 ∨ 261 ≤ tK c i) : t.2.1 i = 1026340 ↔ tW c i = 1885434484 := tok_k hc hT hi h 1026340 1885434484 4 (by decide) (ltr_k 1885434484 4 (by decide) (by decide)) (by decide) (by decide)
theorem tok_int (hc : tkOK c) (hT : tkT c t N) {i : Nat} (hi : i < N) (h : tK c i = 258 ∨ 261 ≤ tK c i) : t.2.1 i = 14980 ↔ tW c i = 6909556 := tok_k hc hT hi h 14980 6909556 3 (by decide) (ltr_k 6909556 3 (by decide) (by decide)) (by decide) (by decide)
end WRD
/-! TOKENS in both: the same questions have the same answers. -/
section TKQ
variable {c : tkC} {t : aK} {N : Nat}
theorem wd_c (hc : tkOK c) (hR : rsv c.2.2.1) (hT : tkT c t N) {i : Nat} (hi : i < N) (h : tK c i = 258 ∨ 261 ≤ tK c i) : (t.2.1 i = 6606 ∧ tK c i = 261) ∨ (t.2.1 i = 19420 ∧ tK c i = 262) ∨ (t.2.1 i = 374 ∧ tK c i = 263) ∨ (t.2.1 i = 366 ∧ tK c i = 264) ∨ (t.2.1 i = 1293014 ∧ tK c i = 265) ∨ (t.2.1 i = 339965 ∧ tK c i = 266) ∨ (t.2.1 i = 600801 ∧ tK c i = 267) ∨ (t.2.1 i = 271180 ∧ tK c i = 268) ∨ (t.2.1 i = 31253 ∧ tK c i = 269) ∨ (t.2.1 i = 20864 ∧ tK c i = 270) ∨ (t.2.1 i = 21174 ∧ tK c i = 271) ∨ (t.2.1 i = 1220854 ∧ tK c i = 272) ∨ (t.2.1 i = 29022 ∧ tK c i = 273) ∨ (t.2.1 i = 4860 ∧ tK c i = 274) ∨ (t.2.1 i = 403260 ∧ tK c i = 275) ∨ (t.2.1 i = 1025731 ∧ tK c i = 276) ∨ (t.2.1 i = 1032733 ∧ tK c i = 277) ∨ (t.2.1 i = 1026340 ∧ tK c i = 278) ∨ (tK c i = 258 ∧ ¬ t.2.1 i = 6606 ∧ ¬ t.2.1 i = 19420 ∧ ¬ t.2.1 i = 374 ∧ ¬ t.2.1 i = 366 ∧ ¬ t.2.1 i = 1293014 ∧ ¬ t.2.1 i = 339965 ∧ ¬ t.2.1 i = 600801 ∧ ¬ t.2.1 i = 271180 ∧ ¬ t.2.1 i = 31253 ∧ ¬ t.2.1 i = 20864 ∧ ¬ t.2.1 i = 21174 ∧ ¬ t.2.1 i = 1220854 ∧ ¬ t.2.1 i = 29022 ∧ ¬ t.2.1 i = 4860 ∧ ¬ t.2.1 i = 403260 ∧ ¬ t.2.1 i = 1025731 ∧ ¬ t.2.1 i = 1032733 ∧ ¬ t.2.1 i = 1026340) := by
  obtain ⟨n, -, -, -, -, hk⟩ := tok_w hc hT hi h
  rw [fi_e hR] at hk
  by_cases e0 : tW c i = 6579558
  · refine Or.inl ?_; exact ⟨(tok_def hc hT hi h).mpr e0, by rw [hk, if_pos e0]⟩
  by_cases e1 : tW c i = 7103860
  · refine Or.inr (Or.inl ?_); exact ⟨(tok_let hc hT hi h).mpr e1, by rw [hk, if_neg e0, if_pos e1]⟩
  by_cases e2 : tW c i = 26990
  · refine Or.inr (Or.inr (Or.inl ?_)); exact ⟨(tok_in hc hT hi h).mpr e2, by rw [hk, if_neg e0, if_neg e1, if_pos e2]⟩
  by_cases e3 : tW c i = 26982
  · refine Or.inr (Or.inr (Or.inr (Or.inl ?_))); exact ⟨(tok_if hc hT hi h).mpr e3, by rw [hk, if_neg e0, if_neg e1, if_neg e2, if_pos e3]⟩
  by_cases e4 : tW c i = 1952998766
  · refine Or.inr (Or.inr (Or.inr (Or.inr (Or.inl ?_)))); exact ⟨(tok_then hc hT hi h).mpr e4, by rw [hk, if_neg e0, if_neg e1, if_neg e2, if_neg e3, if_pos e4]⟩
  by_cases e5 : tW c i = 1701606245
  · refine Or.inr (Or.inr (Or.inr (Or.inr (Or.inr (Or.inl ?_))))); exact ⟨(tok_else hc hT hi h).mpr e5, by rw [hk, if_neg e0, if_neg e1, if_neg e2, if_neg e3, if_neg e4, if_pos e5]⟩
  by_cases e6 : tW c i = 1768911969
  · refine Or.inr (Or.inr (Or.inr (Or.inr (Or.inr (Or.inr (Or.inl ?_)))))); exact ⟨(tok_iota hc hT hi h).mpr e6, by rw [hk, if_neg e0, if_neg e1, if_neg e2, if_neg e3, if_neg e4, if_neg e5, if_pos e6]⟩
  by_cases e7 : tW c i = 1684632436
  · refine Or.inr (Or.inr (Or.inr (Or.inr (Or.inr (Or.inr (Or.inr (Or.inl ?_))))))); exact ⟨(tok_dist hc hT hi h).mpr e7, by rw [hk, if_neg e0, if_neg e1, if_neg e2, if_neg e3, if_neg e4, if_neg e5, if_neg e6, if_pos e7]⟩
  by_cases e8 : tW c i = 7566701
  · refine Or.inr (Or.inr (Or.inr (Or.inr (Or.inr (Or.inr (Or.inr (Or.inr (Or.inl ?_)))))))); exact ⟨(tok_sum hc hT hi h).mpr e8, by rw [hk, if_neg e0, if_neg e1, if_neg e2, if_neg e3, if_neg e4, if_neg e5, if_neg e6, if_neg e7, if_pos e8]⟩
  by_cases e9 : tW c i = 7168376
  · refine Or.inr (Or.inr (Or.inr (Or.inr (Or.inr (Or.inr (Or.inr (Or.inr (Or.inr (Or.inl ?_))))))))); exact ⟨(tok_max hc hT hi h).mpr e9, by rw [hk, if_neg e0, if_neg e1, if_neg e2, if_neg e3, if_neg e4, if_neg e5, if_neg e6, if_neg e7, if_neg e8, if_pos e9]⟩
  by_cases e10 : tW c i = 7170414
  · refine Or.inr (Or.inr (Or.inr (Or.inr (Or.inr (Or.inr (Or.inr (Or.inr (Or.inr (Or.inr (Or.inl ?_)))))))))); exact ⟨(tok_min hc hT hi h).mpr e10, by rw [hk, if_neg e0, if_neg e1, if_neg e2, if_neg e3, if_neg e4, if_neg e5, if_neg e6, if_neg e7, if_neg e8, if_neg e9, if_pos e10]⟩
  by_cases e11 : tW c i = 1935892846
  · refine Or.inr (Or.inr (Or.inr (Or.inr (Or.inr (Or.inr (Or.inr (Or.inr (Or.inr (Or.inr (Or.inr (Or.inl ?_))))))))))); exact ⟨(tok_scan hc hT hi h).mpr e11, by rw [hk, if_neg e0, if_neg e1, if_neg e2, if_neg e3, if_neg e4, if_neg e5, if_neg e6, if_neg e7, if_neg e8, if_neg e9, if_neg e10, if_pos e11]⟩
  by_cases e12 : tW c i = 7497078
  · refine Or.inr (Or.inr (Or.inr (Or.inr (Or.inr (Or.inr (Or.inr (Or.inr (Or.inr (Or.inr (Or.inr (Or.inr (Or.inl ?_)))))))))))); exact ⟨(tok_rev hc hT hi h).mpr e12, by rw [hk, if_neg e0, if_neg e1, if_neg e2, if_neg e3, if_neg e4, if_neg e5, if_neg e6, if_neg e7, if_neg e8, if_neg e9, if_neg e10, if_neg e11, if_pos e12]⟩
  by_cases e13 : tW c i = 6513012
  · refine Or.inr (Or.inr (Or.inr (Or.inr (Or.inr (Or.inr (Or.inr (Or.inr (Or.inr (Or.inr (Or.inr (Or.inr (Or.inr (Or.inl ?_))))))))))))); exact ⟨(tok_cat hc hT hi h).mpr e13, by rw [hk, if_neg e0, if_neg e1, if_neg e2, if_neg e3, if_neg e4, if_neg e5, if_neg e6, if_neg e7, if_neg e8, if_neg e9, if_neg e10, if_neg e11, if_neg e12, if_pos e13]⟩
  by_cases e14 : tW c i = 1718378868
  · refine Or.inr (Or.inr (Or.inr (Or.inr (Or.inr (Or.inr (Or.inr (Or.inr (Or.inr (Or.inr (Or.inr (Or.inr (Or.inr (Or.inr (Or.inl ?_)))))))))))))); exact ⟨(tok_flat hc hT hi h).mpr e14, by rw [hk, if_neg e0, if_neg e1, if_neg e2, if_neg e3, if_neg e4, if_neg e5, if_neg e6, if_neg e7, if_neg e8, if_neg e9, if_neg e10, if_neg e11, if_neg e12, if_neg e13, if_pos e14]⟩
  by_cases e15 : tW c i = 1885430635
  · refine Or.inr (Or.inr (Or.inr (Or.inr (Or.inr (Or.inr (Or.inr (Or.inr (Or.inr (Or.inr (Or.inr (Or.inr (Or.inr (Or.inr (Or.inr (Or.inl ?_))))))))))))))); exact ⟨(tok_pack hc hT hi h).mpr e15, by rw [hk, if_neg e0, if_neg e1, if_neg e2, if_neg e3, if_neg e4, if_neg e5, if_neg e6, if_neg e7, if_neg e8, if_neg e9, if_neg e10, if_neg e11, if_neg e12, if_neg e13, if_neg e14, if_pos e15]⟩
  by_cases e16 : tW c i = 1885696621
  · refine Or.inr (Or.inr (Or.inr (Or.inr (Or.inr (Or.inr (Or.inr (Or.inr (Or.inr (Or.inr (Or.inr (Or.inr (Or.inr (Or.inr (Or.inr (Or.inr (Or.inl ?_)))))))))))))))); exact ⟨(tok_perm hc hT hi h).mpr e16, by rw [hk, if_neg e0, if_neg e1, if_neg e2, if_neg e3, if_neg e4, if_neg e5, if_neg e6, if_neg e7, if_neg e8, if_neg e9, if_neg e10, if_neg e11, if_neg e12, if_neg e13, if_neg e14, if_neg e15, if_pos e16]⟩
  by_cases e17 : tW c i = 1885434484
  · refine Or.inr (Or.inr (Or.inr (Or.inr (Or.inr (Or.inr (Or.inr (Or.inr (Or.inr (Or.inr (Or.inr (Or.inr (Or.inr (Or.inr (Or.inr (Or.inr (Or.inr (Or.inl ?_))))))))))))))))); exact ⟨(tok_part hc hT hi h).mpr e17, by rw [hk, if_neg e0, if_neg e1, if_neg e2, if_neg e3, if_neg e4, if_neg e5, if_neg e6, if_neg e7, if_neg e8, if_neg e9, if_neg e10, if_neg e11, if_neg e12, if_neg e13, if_neg e14, if_neg e15, if_neg e16, if_pos e17]⟩
  · refine Or.inr (Or.inr (Or.inr (Or.inr (Or.inr (Or.inr (Or.inr (Or.inr (Or.inr (Or.inr (Or.inr (Or.inr (Or.inr (Or.inr (Or.inr (Or.inr (Or.inr (Or.inr ?_)))))))))))))))))
    refine ⟨by rw [hk, if_neg e0, if_neg e1, if_neg e2, if_neg e3, if_neg e4, if_neg e5, if_neg e6, if_neg e7, if_neg e8, if_neg e9, if_neg e10, if_neg e11, if_neg e12, if_neg e13, if_neg e14, if_neg e15, if_neg e16, if_neg e17], fun x => e0 ((tok_def hc hT hi h).mp x), fun x => e1 ((tok_let hc hT hi h).mp x), fun x => e2 ((tok_in hc hT hi h).mp x), fun x => e3 ((tok_if hc hT hi h).mp x), fun x => e4 ((tok_then hc hT hi h).mp x), fun x => e5 ((tok_else hc hT hi h).mp x), fun x => e6 ((tok_iota hc hT hi h).mp x), fun x => e7 ((tok_dist hc hT hi h).mp x), fun x => e8 ((tok_sum hc hT hi h).mp x), fun x => e9 ((tok_max hc hT hi h).mp x), fun x => e10 ((tok_min hc hT hi h).mp x), fun x => e11 ((tok_scan hc hT hi h).mp x), fun x => e12 ((tok_rev hc hT hi h).mp x), fun x => e13 ((tok_cat hc hT hi h).mp x), fun x => e14 ((tok_flat hc hT hi h).mp x), fun x => e15 ((tok_pack hc hT hi h).mp x), fun x => e16 ((tok_perm hc hT hi h).mp x), fun x => e17 ((tok_part hc hT hi h).mp x)⟩
theorem tK_v (hc : tkOK c) (i : Nat) : tK c i = 256 ∨ tK c i = 257 ∨ tK c i = 258 ∨ tK c i = 259 ∨ (261 ≤ tK c i ∧ tK c i ≤ 278) ∨ (lx_s (tK c i) = true ∧ tK c i ≤ 255 ∧ tK c i = c.1 (tPl c i) ∧ ¬ lx_d (c.1 (tPl c i)) = true ∧ ¬ lx_l (c.1 (tPl c i)) = true ∧ ¬ c.2.1 ≤ tPl c i) := by
  unfold tK lx_kind
  by_cases a : c.2.1 ≤ tPl c i
  · rw [if_pos a]; omega
  · rw [if_neg a]
    by_cases b : lx_d (c.1 (tPl c i)) = true
    · rw [if_pos b]
      split <;> omega
    · rw [if_neg b]
      by_cases d : lx_l (c.1 (tPl c i)) = true
      · rw [if_pos d]
        split
        · omega
        · have := lx_fi_r c.2.2.1 (lx_pk c.1 (tPl c i) (lx_end c.1 c.2.1 lx_a (tPl c i) - tPl c i).toNat) 18 0 (by omega) (by omega)
          omega
      · rw [if_neg d]
        by_cases e : lx_s (c.1 (tPl c i)) = true
        · rw [if_pos e]
          have := hc.2.2 (tPl c i)
          exact Or.inr (Or.inr (Or.inr (Or.inr (Or.inr ⟨e, by omega, rfl, b, d, a⟩))))
        · rw [if_neg e]; omega
/-- the tokens of one tape, in both -/
def tkB (c : tkC) (t : aK) (N : Nat) : Prop := tkOK c ∧ rsv c.2.2.1 ∧ tkT c t N ∧ (∀ i, i < N → 1 ≤ t.1 i ∧ t.1 i ≤ 3) ∧ ((t.1 N = 0 ∨ t.1 N = 4) ∧ ∀ i, N < i → t.1 i = 0)
theorem b_lt (h : tkB c t N) {i : Nat} (hi : i ≤ N) (hs : 1 ≤ t.1 i ∧ t.1 i ≤ 3) : i < N := by
  have := h.2.2.2.2.1
  by_cases e : i = N
  · subst e; omega
  · omega
theorem b_s (h : tkB c t N) {i : Nat} (hi : i ≤ N) : (t.1 i = 0 ↔ tK c i = 256) ∧ (t.1 i = 1 ↔ tK c i = 257) ∧ (t.1 i = 2 ↔ (tK c i = 258 ∨ 261 ≤ tK c i)) ∧ (t.1 i = 4 ↔ tK c i = 259) ∧ (t.1 i = 3 ↔ tK c i ≤ 255) := by
  have hv := tK_v h.1 i
  rw [(h.2.2.1.1 i hi).1]
  unfold rS
  rcases hv with e | e | e | e | e | e
  · rw [if_pos e]; omega
  · rw [if_neg (by omega), if_pos e]; omega
  · rw [if_neg (by omega), if_neg (by omega), if_neg (by omega), if_pos (by omega)]; omega
  · rw [if_neg (by omega), if_neg (by omega), if_pos e]; omega
  · rw [if_neg (by omega), if_neg (by omega), if_neg (by omega), if_pos (by omega)]; omega
  · rw [if_neg (by omega), if_neg (by omega), if_neg (by omega), if_neg (by omega)]; omega
theorem b_sg (h : tkB c t N) {i : Nat} (hi : i ≤ N) {ch : Int} (hch : ch ≤ 255) : aSg t i ch = true ↔ tK c i = ch := by
  have hs := (b_s h hi).2.2.2.2
  unfold aSg
  rw [decide_eq_true_iff]
  have key : tK c i ≤ 255 → t.2.1 i = tK c i := by
    intro q
    have h3 := hs.mpr q
    have hlt := b_lt h hi (by omega)
    rw [h.2.2.1.2 i hlt]
    rcases tK_v h.1 i with e | e | e | e | e | ⟨-, -, e1, e2, e3, e4⟩
    · omega
    · omega
    · omega
    · omega
    · omega
    · unfold rW
      rw [if_neg e4, if_neg e2, if_neg e3]
      exact e1.symm
  refine ⟨fun ⟨a, b⟩ => ?_, fun e => ?_⟩
  · rw [← key (hs.mp a)]; exact b
  · exact ⟨hs.mpr (by omega), by rw [key (by omega)]; exact e⟩
theorem b_def (h : tkB c t N) {i : Nat} (hi : i ≤ N) : aWo t i 6606 = true ↔ tK c i = 261 := by
  have hs := (b_s h hi).2.2.1
  unfold aWo
  rw [decide_eq_true_iff]
  refine ⟨fun ⟨a, b⟩ => ?_, fun e => ?_⟩
  · have hlt := b_lt h hi (by omega)
    have hd := wd_c h.1 h.2.1 h.2.2.1 hlt (hs.mp a)
    omega
  · have a := hs.mpr (by omega)
    have hlt := b_lt h hi (by omega)
    have hd := wd_c h.1 h.2.1 h.2.2.1 hlt (by omega)
    exact ⟨a, by omega⟩
theorem b_let (h : tkB c t N) {i : Nat} (hi : i ≤ N) : aWo t i 19420 = true ↔ tK c i = 262 := by
  have hs := (b_s h hi).2.2.1
  unfold aWo
  rw [decide_eq_true_iff]
  refine ⟨fun ⟨a, b⟩ => ?_, fun e => ?_⟩
  · have hlt := b_lt h hi (by omega)
    have hd := wd_c h.1 h.2.1 h.2.2.1 hlt (hs.mp a)
    omega
  · have a := hs.mpr (by omega)
    have hlt := b_lt h hi (by omega)
    have hd := wd_c h.1 h.2.1 h.2.2.1 hlt (by omega)
    exact ⟨a, by omega⟩
theorem b_in (h : tkB c t N) {i : Nat} (hi : i ≤ N) : aWo t i 374 = true ↔ tK c i = 263 := by
  have hs := (b_s h hi).2.2.1
  unfold aWo
  rw [decide_eq_true_iff]
  refine ⟨fun ⟨a, b⟩ => ?_, fun e => ?_⟩
  · have hlt := b_lt h hi (by omega)
    have hd := wd_c h.1 h.2.1 h.2.2.1 hlt (hs.mp a)
    omega
  · have a := hs.mpr (by omega)
    have hlt := b_lt h hi (by omega)
    have hd := wd_c h.1 h.2.1 h.2.2.1 hlt (by omega)
    exact ⟨a, by omega⟩
theorem b_if (h : tkB c t N) {i : Nat} (hi : i ≤ N) : aWo t i 366 = true ↔ tK c i = 264 := by
  have hs := (b_s h hi).2.2.1
  unfold aWo
  rw [decide_eq_true_iff]
  refine ⟨fun ⟨a, b⟩ => ?_, fun e => ?_⟩
  · have hlt := b_lt h hi (by omega)
    have hd := wd_c h.1 h.2.1 h.2.2.1 hlt (hs.mp a)
    omega
  · have a := hs.mpr (by omega)
    have hlt := b_lt h hi (by omega)
    have hd := wd_c h.1 h.2.1 h.2.2.1 hlt (by omega)
    exact ⟨a, by omega⟩
theorem b_then (h : tkB c t N) {i : Nat} (hi : i ≤ N) : aWo t i 1293014 = true ↔ tK c i = 265 := by
  have hs := (b_s h hi).2.2.1
  unfold aWo
  rw [decide_eq_true_iff]
  refine ⟨fun ⟨a, b⟩ => ?_, fun e => ?_⟩
  · have hlt := b_lt h hi (by omega)
    have hd := wd_c h.1 h.2.1 h.2.2.1 hlt (hs.mp a)
    omega
  · have a := hs.mpr (by omega)
    have hlt := b_lt h hi (by omega)
    have hd := wd_c h.1 h.2.1 h.2.2.1 hlt (by omega)
    exact ⟨a, by omega⟩
theorem b_else (h : tkB c t N) {i : Nat} (hi : i ≤ N) : aWo t i 339965 = true ↔ tK c i = 266 := by
  have hs := (b_s h hi).2.2.1
  unfold aWo
  rw [decide_eq_true_iff]
  refine ⟨fun ⟨a, b⟩ => ?_, fun e => ?_⟩
  · have hlt := b_lt h hi (by omega)
    have hd := wd_c h.1 h.2.1 h.2.2.1 hlt (hs.mp a)
    omega
  · have a := hs.mpr (by omega)
    have hlt := b_lt h hi (by omega)
    have hd := wd_c h.1 h.2.1 h.2.2.1 hlt (by omega)
    exact ⟨a, by omega⟩
theorem b_act (h : tkB c t N) {i : Nat} (hi : i ≤ N) (h2 : t.1 i = 2) : v_actOf (t.2.1 i) = (if 267 ≤ tK c i then tK c i - 251 else 0) ∧ (v_isReserved (t.2.1 i) = 0 ↔ tK c i = 258) := by
  have hs := (b_s h hi).2.2.1.mp h2
  have hlt := b_lt h hi (by omega)
  rcases wd_c h.1 h.2.1 h.2.2.1 hlt hs with ⟨a, b⟩ | ⟨a, b⟩ | ⟨a, b⟩ | ⟨a, b⟩ | ⟨a, b⟩ | ⟨a, b⟩ | ⟨a, b⟩ | ⟨a, b⟩ | ⟨a, b⟩ | ⟨a, b⟩ | ⟨a, b⟩ | ⟨a, b⟩ | ⟨a, b⟩ | ⟨a, b⟩ | ⟨a, b⟩ | ⟨a, b⟩ | ⟨a, b⟩ | ⟨a, b⟩ | ⟨b, a⟩
  · rw [a, b]; decide
  · rw [a, b]; decide
  · rw [a, b]; decide
  · rw [a, b]; decide
  · rw [a, b]; decide
  · rw [a, b]; decide
  · rw [a, b]; decide
  · rw [a, b]; decide
  · rw [a, b]; decide
  · rw [a, b]; decide
  · rw [a, b]; decide
  · rw [a, b]; decide
  · rw [a, b]; decide
  · rw [a, b]; decide
  · rw [a, b]; decide
  · rw [a, b]; decide
  · rw [a, b]; decide
  · rw [a, b]; decide
  · obtain ⟨a0, a1, a2, a3, a4, a5, a6, a7, a8, a9, a10, a11, a12, a13, a14, a15, a16, a17⟩ := a
    have e : v_actOf (t.2.1 i) = 0 := by
      unfold v_actOf
      rw [if_pos a6, if_pos a7, if_pos a8, if_pos a9, if_pos a10, if_pos a11, if_pos a12, if_pos a13, if_pos a14, if_pos a15, if_pos a16, if_pos a17]
    refine ⟨by rw [e, b]; decide, ?_⟩
    unfold v_isReserved
    rw [e, if_neg (by decide), if_neg a0, if_neg a1, if_neg a2, if_neg a3, if_neg a4, if_pos a5]
    simp [b]
theorem b_nm (h : tkB c t N) {i : Nat} (hi : i ≤ N) : aNm t i = true ↔ tK c i = 258 := by
  have hs := (b_s h hi).2.2.1
  unfold aNm
  rw [decide_eq_true_iff]
  refine ⟨fun ⟨a, b⟩ => (b_act h hi a).2.mp b, fun e => ?_⟩
  have a := hs.mpr (Or.inl e)
  exact ⟨a, (b_act h hi a).2.mpr e⟩
theorem b_int (h : tkB c t N) {i : Nat} (hi : i ≤ N) : aWo t i 14980 = true ↔ (tK c i = 258 ∧ tW c i = 6909556) := by
  have hs := (b_s h hi).2.2.1
  unfold aWo
  rw [decide_eq_true_iff]
  refine ⟨fun ⟨a, b⟩ => ?_, fun ⟨e, w⟩ => ?_⟩
  · have hlt := b_lt h hi (by omega)
    have hd := wd_c h.1 h.2.1 h.2.2.1 hlt (hs.mp a)
    refine ⟨by omega, (tok_int h.1 h.2.2.1 hlt (hs.mp a)).mp b⟩
  · have a := hs.mpr (Or.inl e)
    have hlt := b_lt h hi (by omega)
    exact ⟨a, (tok_int h.1 h.2.2.1 hlt (hs.mp a)).mpr w⟩
end TKQ
/-! THE CLASS'S TREE and the tree as lists. -/
def kmp (k : Int) : Int := if k = 0 then 257 else if k = 1 then 258 else if k = 2 then 262 else if k = 3 then 264 else if k = 4 then 60 else if k = 5 then 61 else if k = 6 then 43 else if k = 7 then 45 else if k = 8 then 42 else if k = 9 then 47 else if k = 10 then 37 else if k = 11 then 35 else if k = 12 then 91 else if k = 13 then 280 else if k = 14 then 279 else if k = 15 then 123 else k + 251
theorem px_in {τ : sg_S} {a : Nat} {k v : Int} (h : 0 ≤ k ∧ k < 200) : sx_put τ a 200 k v = sg_w τ a k v := by unfold sx_put; rw [if_pos h]
theorem plx_in {τ : sg_S} {a : Nat} {k v : Int} (h : 0 ≤ k ∧ k < 200) : sx_putl τ a 200 k v = sg_wl τ a k v := by unfold sx_putl; rw [if_pos h]
theorem ax_in {τ : sg_S} {a : Nat} {k : Int} (h : 0 ≤ k ∧ k < 200) : sx_at τ a 200 k = sg_g τ a k := by unfold sx_at; rw [if_pos h]
/-- what lies ahead of node b stays: the tree's rows, the DEFS' -/
def fB (τ τ' : sg_S) (b : Int) : Prop := (∀ (a : Nat) (k : Int), 3 ≤ a ∧ a ≤ 18 → k < b → sg_g τ' a k = sg_g τ a k ∧ sg_gl τ' a k = sg_gl τ a k) ∧ ∀ (a : Nat) (k : Int), 19 ≤ a ∧ a ≤ 27 → sg_g τ' a k = sg_g τ a k ∧ sg_gl τ' a k = sg_gl τ a k
theorem fB_r (τ : sg_S) (b : Int) : fB τ τ b := ⟨fun _ _ _ _ => ⟨rfl, rfl⟩, fun _ _ _ => ⟨rfl, rfl⟩⟩
theorem fB_t {τ τ1 τ2 : sg_S} {b : Int} (h : fB τ τ1 b) (g : fB τ1 τ2 b) : fB τ τ2 b := ⟨fun a k ha hk => ⟨(g.1 a k ha hk).1.trans (h.1 a k ha hk).1, (g.1 a k ha hk).2.trans (h.1 a k ha hk).2⟩, fun a k ha => ⟨(g.2 a k ha).1.trans (h.2 a k ha).1, (g.2 a k ha).2.trans (h.2 a k ha).2⟩⟩
theorem fB_m {τ τ1 : sg_S} {b b' : Int} (h : fB τ τ1 b) (hb : b' ≤ b) : fB τ τ1 b' := ⟨fun a k ha hk => h.1 a k ha (by omega), h.2⟩
theorem fB_w {τ τ1 : sg_S} {b : Int} (h : fB τ τ1 b) {a : Nat} (ha : a ≤ 18) {k v : Int} (hk : b ≤ k) : fB τ (sg_w τ1 a k v) b := by
  refine ⟨fun a' k' ha' hk' => ?_, fun a' k' ha' => ?_⟩
  · rw [sg_gw, if_neg (by omega), sg_gw']; exact h.1 a' k' ha' hk'
  · rw [sg_gw, if_neg (by omega), sg_gw']; exact h.2 a' k' ha'
theorem fB_wl {τ τ1 : sg_S} {b : Int} (h : fB τ τ1 b) {a : Nat} (ha : a ≤ 18) {k v : Int} (hk : b ≤ k) : fB τ (sg_wl τ1 a k v) b := by
  refine ⟨fun a' k' ha' hk' => ?_, fun a' k' ha' => ?_⟩
  · rw [sg_gwl, if_neg (by omega), sg_gwl']; exact h.1 a' k' ha' hk'
  · rw [sg_gwl, if_neg (by omega), sg_gwl']; exact h.2 a' k' ha'
theorem fB_2 {τ τ1 : sg_S} {b : Int} (h : fB τ τ1 b) {k v : Int} : fB τ (sg_w τ1 2 k v) b := by
  refine ⟨fun a' k' ha' hk' => ?_, fun a' k' ha' => ?_⟩
  · rw [sg_gw, if_neg (by omega), sg_gw']; exact h.1 a' k' ha' hk'
  · rw [sg_gw, if_neg (by omega), sg_gw']; exact h.2 a' k' ha'
/-- parts in a chain -/
def lkc (g : Int → Int) : List Int → Int → Prop
  | [], _ => True
  | x :: r, h => h = x ∧ (r = [] ∨ lkc g r (g x))
theorem lkc_e {g g' : Int → Int} : ∀ {L : List Int} {h : Int}, lkc g L h → (∀ x, x ∈ L.dropLast → g' x = g x) → lkc g' L h
  | [], _, _, _ => trivial
  | x :: r, h, hl, e => by
    refine ⟨hl.1, ?_⟩
    cases r with
    | nil => exact Or.inl rfl
    | cons y z =>
      refine Or.inr ?_
      rw [e x (by simp [List.dropLast])]
      exact lkc_e (hl.2.resolve_left (by simp)) (fun u hu => e u (by simp [List.dropLast]; exact Or.inr hu))
theorem lkc_a {g : Int → Int} {p z : Int} : ∀ {L : List Int} {h : Int}, lkc g L h → L.getLast? = some z → L.Nodup → lkc (fun j => if j = z then p else g j) (L ++ [p]) h
  | [], _, _, hn, _ => by simp at hn
  | [x], h, hl, hn, _ => by
    simp at hn
    subst hn
    exact ⟨hl.1, Or.inr ⟨by simp, Or.inl rfl⟩⟩
  | x :: y :: r, h, hl, hn, hd => by
    have h1 := hl.2.resolve_left (by simp)
    have hn2 : (y :: r).getLast? = some z := by
      rw [List.getLast?_cons_cons] at hn
      exact hn
    have ih := lkc_a (p := p) (z := z) h1 hn2 (List.nodup_cons.mp hd).2
    refine ⟨hl.1, Or.inr ?_⟩
    have hx : ¬ x = z := by
      intro e
      subst e
      exact (List.nodup_cons.mp hd).1 (List.mem_of_getLast? hn2)
    simp only [if_neg hx]
    exact ih
/-- the parts of a node that are there so far -/
def oN (τ : sg_S) (k : Int) (L : List Int) : Prop := sg_g τ 10 k = L.length ∧ lkc (sg_g τ 9) L (sg_g τ 7 k) ∧ (∀ z, L.getLast? = some z → sg_g τ 8 k = z) ∧ L.Nodup ∧ ∀ x ∈ L, 0 ≤ x ∧ x < 200
theorem oN_e {τ τ' : sg_S} {k : Int} {L : List Int} (h : oN τ k L) (h1 : sg_g τ' 10 k = sg_g τ 10 k) (h2 : sg_g τ' 7 k = sg_g τ 7 k) (h3 : sg_g τ' 8 k = sg_g τ 8 k) (h4 : ∀ x ∈ L, sg_g τ' 9 x = sg_g τ 9 x) : oN τ' k L := by
  obtain ⟨a, b, c, d, e⟩ := h
  refine ⟨by rw [h1]; exact a, ?_, fun z hz => by rw [h3]; exact c z hz, d, e⟩
  rw [h2]
  exact lkc_e b (fun x hx => h4 x (List.dropLast_subset _ hx))
/-- what attach changes -/
theorem at_e {τ : sg_S} {k p : Int} {L : List Int} (hk : 0 ≤ k ∧ k < 200) (hp : 0 ≤ p ∧ p < 200) (h : oN τ k L) (hpL : p ∉ L) (hl : L.length < 200) : oN (pAttach τ k p) k (L ++ [p]) ∧ (∀ (a : Nat) (j : Int), ¬ (j = k ∧ (a = 7 ∨ a = 8 ∨ a = 10)) → ¬ (a = 9 ∧ j ∈ L) → sg_g (pAttach τ k p) a j = sg_g τ a j) ∧ (∀ (a : Nat) (j : Int), sg_gl (pAttach τ k p) a j = sg_gl τ a j) := by
  obtain ⟨a1, a2, a3, a4, a5⟩ := h
  have hr : sg_R p := ⟨by omega, by omega⟩
  unfold pAttach pAtt2 pAtt1
  rw [if_neg (by omega), ax_in hk]
  simp only [px_in hk, ax_in hk]
  cases L with
  | nil =>
    have e0 : sg_g τ 10 k = 0 := by rw [a1]; rfl
    rw [if_pos e0]
    refine ⟨⟨?_, ?_, ?_, ?_, ?_⟩, fun a j hj1 hj2 => ?_, fun a j => rfl⟩
    · simp only [rg_w, Nat.reduceEqDiff, if_false, if_true, reduceIte, e0]
      rfl
    · simp only [rg_w, Nat.reduceEqDiff, if_false, if_true, reduceIte, sg_id hr]
      exact ⟨rfl, Or.inl rfl⟩
    · intro z hz
      simp at hz
      subst hz
      simp only [rg_w, Nat.reduceEqDiff, if_false, if_true, reduceIte, sg_id hr]
    · simp
    · intro x hx
      simp at hx
      subst hx
      exact hp
    · simp only [sg_gw]
      rw [if_neg (by omega), if_neg (by omega), if_neg (by omega)]
  | cons x r =>
    obtain ⟨z, hz⟩ : ∃ z, (x :: r).getLast? = some z := ⟨_, List.getLast?_eq_some_getLast (by simp)⟩
    have e0 : ¬ sg_g τ 10 k = 0 := by
      rw [a1]
      simp only [List.length_cons]
      omega
    rw [if_neg e0]
    have e8 := a3 z hz
    have hlast : z ∈ x :: r := List.mem_of_getLast? hz
    have h8 : 0 ≤ sg_g τ 8 k ∧ sg_g τ 8 k < 200 := by rw [e8]; exact a5 _ hlast
    simp only [px_in h8]
    refine ⟨⟨?_, ?_, ?_, ?_, ?_⟩, fun a j hj1 hj2 => ?_, fun a j => rfl⟩
    · simp only [rg_w, Nat.reduceEqDiff, if_false, if_true, reduceIte, a1]
      simp only [List.length_cons, List.length_append, List.length_nil] at hl ⊢
      rw [sg_id ⟨by omega, by omega⟩]
      omega
    · simp only [rg_w, Nat.reduceEqDiff, if_false, if_true, reduceIte, sg_id hr]
      rw [e8]
      exact lkc_a a2 hz a4
    · intro z2 hz2
      rw [List.getLast?_append] at hz2
      simp at hz2
      subst hz2
      simp only [rg_w, Nat.reduceEqDiff, if_false, if_true, reduceIte, sg_id hr]
    · rw [List.nodup_append]
      refine ⟨a4, by simp, ?_⟩
      intro u hu v hv
      simp at hv
      subst hv
      intro e
      subst e
      exact hpL hu
    · intro u hu
      rcases List.mem_append.mp hu with e | e
      · exact a5 u e
      · simp at e
        subst e
        exact hp
    · simp only [sg_gw]
      rw [if_neg (by omega), if_neg (by omega), if_neg]
      rintro ⟨q1, q2⟩
      exact hj2 ⟨q1, by rw [q2, e8]; exact hlast⟩
/-! BUILDING the class's tree beside the lists. -/
def pts (A : aT) (k : Int) : List Int := if A.2.1 k = 15 then (A.2.2.2.2.1 k).tail ++ (A.2.2.2.2.1 k).take 1 else A.2.2.2.2.1 k
theorem pts_m {A : aT} {k x : Int} (h : x ∈ pts A k) : x ∈ A.2.2.2.2.1 k := by
  unfold pts at h
  split at h
  · rcases List.mem_append.mp h with h | h
    · exact List.mem_of_mem_tail h
    · exact List.mem_of_mem_take h
  · exact h
/-- a { }'s own rows -/
def eN (τ : sg_S) (k : Int) (kids : List Int) (gens : List (Int × Int)) : Prop := sg_g τ 13 k = gens.length ∧ sg_g τ 14 k = (if kids.length = 2 + gens.length then kids.getLast?.getD (-1) else -1) ∧ ∀ (j : Nat) (x : Int × Int) (y : Int), gens[j]? = some x → kids[1 + j]? = some y → sg_gl τ 18 y = uv x.1 ∧ sg_g τ 15 y = x.2
def cN (τ : sg_S) (A : aT) (k : Int) : Prop := sg_g τ 3 k = kmp (A.2.1 k) ∧ sg_g τ 4 k = A.2.2.1 k ∧ ((A.2.1 k = 1 ∨ A.2.1 k = 2 ∨ A.2.1 k = 13) → sg_gl τ 17 k = uv (A.2.2.2.1 k)) ∧ oN τ k (pts A k) ∧ (A.2.1 k = 15 → eN τ k (A.2.2.2.2.1 k) (A.2.2.2.2.2 k))
theorem cN_x {τ τ' : sg_S} {A A' : aT} {k : Int} (h : cN τ A k) (hA : A'.2.1 k = A.2.1 k ∧ A'.2.2.1 k = A.2.2.1 k ∧ A'.2.2.2.1 k = A.2.2.2.1 k ∧ A'.2.2.2.2.1 k = A.2.2.2.2.1 k ∧ A'.2.2.2.2.2 k = A.2.2.2.2.2 k) (h1 : ∀ a : Nat, (a = 3 ∨ a = 4 ∨ a = 7 ∨ a = 8 ∨ a = 10 ∨ a = 13 ∨ a = 14) → sg_g τ' a k = sg_g τ a k) (h2 : sg_gl τ' 17 k = sg_gl τ 17 k) (h3 : ∀ x ∈ A.2.2.2.2.1 k, sg_g τ' 9 x = sg_g τ 9 x ∧ sg_g τ' 15 x = sg_g τ 15 x ∧ sg_gl τ' 18 x = sg_gl τ 18 x) : cN τ' A' k := by
  obtain ⟨a1, a2, a3, a4, a5⟩ := hA
  obtain ⟨c1, c2, c3, c4, c5⟩ := h
  have hp : pts A' k = pts A k := by unfold pts; rw [a1, a4]
  unfold cN
  rw [a1, a2, a3, a4, a5, hp]
  refine ⟨by rw [h1 3 (by omega)]; exact c1, by rw [h1 4 (by omega)]; exact c2, fun q => by rw [h2]; exact c3 q, oN_e c4 (h1 10 (by omega)) (h1 7 (by omega)) (h1 8 (by omega)) (fun x hx => (h3 x (pts_m hx)).1), fun q => ?_⟩
  obtain ⟨e1, e2, e3⟩ := c5 q
  refine ⟨by rw [h1 13 (by omega)]; exact e1, by rw [h1 14 (by omega)]; exact e2, fun j x y hx hy => ?_⟩
  have hm := List.mem_of_getElem? hy
  rw [(h3 y hm).2.2, (h3 y hm).2.1]
  exact e3 j x y hx hy
/-- all nodes from b on are told; R: those that hang on none yet -/
def cS (τ : sg_S) (A : aT) (b : Int) (R : List Int) : Prop := sg_g τ 2 16 = A.1 ∧ (0 ≤ b ∧ b ≤ A.1 ∧ A.1 ≤ 200) ∧ (∀ k, b ≤ k → k < A.1 → cN τ A k ∧ ∀ x ∈ A.2.2.2.2.1 k, (b ≤ x ∧ x < A.1) ∧ x ∉ R) ∧ R.Nodup ∧ ∀ x ∈ R, b ≤ x ∧ x < A.1
/-- the same with one node open: its parts so far are L -/
def bS (τ : sg_S) (A : aT) (b n : Int) (L R : List Int) : Prop := sg_g τ 2 16 = A.1 ∧ (0 ≤ b ∧ b ≤ n ∧ n < A.1 ∧ A.1 ≤ 200) ∧ oN τ n L ∧ (∀ k, b ≤ k → k < A.1 → ¬ k = n → cN τ A k ∧ ∀ x ∈ A.2.2.2.2.1 k, (b ≤ x ∧ x < A.1) ∧ x ∉ L ++ R ∧ ¬ x = n) ∧ (L ++ R).Nodup ∧ ∀ x ∈ L ++ R, (b ≤ x ∧ x < A.1) ∧ ¬ x = n
/-- the open node's own rows -/
def sN (τ : sg_S) (n K P W G U : Int) : Prop := sg_g τ 3 n = K ∧ sg_g τ 4 n = P ∧ sg_gl τ 17 n = W ∧ sg_g τ 13 n = G ∧ sg_g τ 14 n = U
theorem sN_f {τ τ' : sg_S} {n K P W G U b : Int} (h : sN τ n K P W G U) (hf : fB τ τ' b) (hn : n < b) : sN τ' n K P W G U := by
  obtain ⟨a1, a2, a3, a4, a5⟩ := h
  exact ⟨by rw [(hf.1 3 n (by omega) hn).1]; exact a1, by rw [(hf.1 4 n (by omega) hn).1]; exact a2, by rw [(hf.1 17 n (by omega) hn).2]; exact a3, by rw [(hf.1 13 n (by omega) hn).1]; exact a4, by rw [(hf.1 14 n (by omega) hn).1]; exact a5⟩
theorem ndl : ∀ (m : Nat) (L : List Int), L.Nodup → (∀ x ∈ L, 0 ≤ x ∧ x < m) → L.length ≤ m
  | 0, L, _, h => by
    cases L with
    | nil => simp
    | cons x r => have := h x (by simp); omega
  | m + 1, L, hn, h => by
    by_cases c : (m : Int) ∈ L
    · have := ndl m (L.erase m) (hn.erase _) (fun x hx => by
        obtain ⟨a, b⟩ := (List.Nodup.mem_erase_iff hn).mp hx
        have := h x b
        omega)
      rw [List.length_erase_of_mem c] at this
      omega
    · have := ndl m L hn (fun x hx => by
        have h1 := h x hx
        have h2 : ¬ x = (m : Int) := fun e => c (e ▸ hx)
        omega)
      omega
section BLD
variable {τ τ' : sg_S} {A A' : aT} {b n q : Int} {L R : List Int}
theorem lenR (hn : (L ++ R).Nodup) (hr : ∀ x ∈ L ++ R, (b ≤ x ∧ x < A.1) ∧ ¬ x = n) (h0 : 0 ≤ b) (hA : A.1 ≤ 200) (hN : b ≤ n ∧ n < A.1) : L.length < 200 := by
  have h1 : (n :: L).Nodup := List.nodup_cons.mpr ⟨fun h => (hr n (List.mem_append_left _ h)).2 rfl, (List.nodup_append.mp hn).1⟩
  have h2 : ∀ x ∈ n :: L, 0 ≤ x ∧ x < ((200 : Nat) : Int) := by
    intro x hx
    rcases List.mem_cons.mp hx with e | e
    · subst e; omega
    · have := (hr x (List.mem_append_left _ e)).1; omega
  have h3 := ndl 200 (n :: L) h1 h2
  simp only [List.length_cons] at h3
  omega
theorem bS_at (h : bS τ A b n L (q :: R)) (hA : A'.1 = A.1 ∧ ∀ k, ¬ k = n → A'.2.1 k = A.2.1 k ∧ A'.2.2.1 k = A.2.2.1 k ∧ A'.2.2.2.1 k = A.2.2.2.1 k ∧ A'.2.2.2.2.1 k = A.2.2.2.2.1 k ∧ A'.2.2.2.2.2 k = A.2.2.2.2.2 k) : bS (pAttach τ n q) A' b n (L ++ [q]) R ∧ fB τ (pAttach τ n q) b ∧ (∀ (a : Nat) (j : Int), (a = 3 ∨ a = 4 ∨ a = 13 ∨ a = 14 ∨ a = 15) → sg_g (pAttach τ n q) a j = sg_g τ a j) ∧ (∀ (a : Nat) (j : Int), sg_gl (pAttach τ n q) a j = sg_gl τ a j) := by
  obtain ⟨h1, h2, h3, h4, h5, h6⟩ := h
  have hq := h6 q (by simp)
  have hqL : q ∉ L := by
    intro hc
    exact (List.nodup_append.mp h5).2.2 q hc q (by simp) rfl
  have hl := lenR h5 h6 h2.1 h2.2.2.2 ⟨h2.2.1, h2.2.2.1⟩
  obtain ⟨e1, e2, e3⟩ := at_e (τ := τ) (k := n) (p := q) (L := L) ⟨by omega, by omega⟩ ⟨by omega, by omega⟩ h3 hqL hl
  have hperm : L ++ [q] ++ R = L ++ (q :: R) := by simp
  refine ⟨⟨?_, by rw [hA.1]; exact h2, e1, fun k hk0 hk1 hkn => ?_, by rw [hperm]; exact h5, fun x hx => by rw [hA.1]; exact h6 x (by rw [← hperm]; exact hx)⟩, ⟨fun a k ha hk => ?_, fun a k ha => ?_⟩, fun a j ha => ?_, e3⟩
  · rw [e2 2 16 (by omega) (by omega), h1, hA.1]
  · rw [hA.1] at hk1
    obtain ⟨c1, c2⟩ := h4 k hk0 hk1 hkn
    have ek := hA.2 k hkn
    refine ⟨cN_x c1 ek (fun a ha => e2 a k (by omega) (by omega)) (e3 17 k) (fun x hx => ⟨e2 9 x (by omega) (fun hc => (c2 x hx).2.1 (List.mem_append_left _ hc.2)), e2 15 x (by omega) (by omega), e3 18 x⟩), ?_⟩
    rw [ek.2.2.2.1, hA.1, hperm]
    exact c2
  · refine ⟨e2 a k (by omega) (fun hc => ?_), e3 a k⟩
    have := (h6 k (List.mem_append_left _ hc.2)).1
    omega
  · exact ⟨e2 a k (by omega) (by omega), e3 a k⟩
  · exact e2 a j (by omega) (by omega)
theorem sN_at {K P W G U : Int} (h : sN τ n K P W G U) (h1 : ∀ (a : Nat) (j : Int), (a = 3 ∨ a = 4 ∨ a = 13 ∨ a = 14 ∨ a = 15) → sg_g τ' a j = sg_g τ a j) (h2 : ∀ (a : Nat) (j : Int), sg_gl τ' a j = sg_gl τ a j) : sN τ' n K P W G U := by
  obtain ⟨a1, a2, a3, a4, a5⟩ := h
  exact ⟨by rw [h1 3 n (by omega)]; exact a1, by rw [h1 4 n (by omega)]; exact a2, by rw [h2]; exact a3, by rw [h1 13 n (by omega)]; exact a4, by rw [h1 14 n (by omega)]; exact a5⟩
/-- a reading behind: its root hangs on none yet -/
theorem bS_E (h : bS τ A b n L R) (hs : cS τ' A' A.1 [q]) (hf : fB τ τ' A.1) (hg : gr A A') : bS τ' A' b n L (q :: R) := by
  obtain ⟨h1, h2, h3, h4, h5, h6⟩ := h
  obtain ⟨s1, s2, s3, s4, s5⟩ := hs
  have hg1 := hg.1
  have hq := s5 q (by simp)
  have hqn : q ∉ L ++ R := fun hc => by have := (h6 q hc).1; omega
  refine ⟨s1, ⟨h2.1, h2.2.1, by omega, s2.2.2⟩, ?_, fun k hk0 hk1 hkn => ?_, ?_, fun x hx => ?_⟩
  · have hn : n < A.1 := h2.2.2.1
    exact oN_e h3 (hf.1 10 n (by omega) hn).1 (hf.1 7 n (by omega) hn).1 (hf.1 8 n (by omega) hn).1 (fun x hx => (hf.1 9 x (by omega) (h6 x (List.mem_append_left _ hx)).1.2).1)
  · by_cases c : k < A.1
    · obtain ⟨c1, c2⟩ := h4 k hk0 c hkn
      have ek := hg.2 k c
      refine ⟨cN_x c1 ek (fun a ha => (hf.1 a k (by omega) c).1) (hf.1 17 k (by omega) c).2 (fun x hx => ⟨(hf.1 9 x (by omega) (c2 x hx).1.2).1, (hf.1 15 x (by omega) (c2 x hx).1.2).1, (hf.1 18 x (by omega) (c2 x hx).1.2).2⟩), ?_⟩
      rw [ek.2.2.2.1]
      intro x hx
      have := c2 x hx
      refine ⟨by omega, ?_, this.2.2⟩
      intro hc
      rcases List.mem_append.mp hc with e | e
      · exact this.2.1 (List.mem_append_left _ e)
      · rcases List.mem_cons.mp e with e | e
        · omega
        · exact this.2.1 (List.mem_append_right _ e)
    · obtain ⟨c1, c2⟩ := s3 k (by omega) hk1
      refine ⟨c1, fun x hx => ?_⟩
      have := c2 x hx
      refine ⟨by omega, ?_, by omega⟩
      intro hc
      rcases List.mem_append.mp hc with e | e
      · have := (h6 x (List.mem_append_left _ e)).1; omega
      · rcases List.mem_cons.mp e with e | e
        · exact this.2 (by simp [e])
        · have := (h6 x (List.mem_append_right _ e)).1; omega
  · rw [List.nodup_append] at h5 ⊢
    refine ⟨h5.1, List.nodup_cons.mpr ⟨fun hc => hqn (List.mem_append_right _ hc), h5.2.1⟩, fun x hx y hy => ?_⟩
    rcases List.mem_cons.mp hy with e | e
    · subst e
      intro e2
      subst e2
      exact hqn (List.mem_append_left _ hx)
    · exact h5.2.2 x hx y e
  · rcases List.mem_append.mp hx with e | e
    · have := h6 x (List.mem_append_left _ e); omega
    · rcases List.mem_cons.mp e with e | e
      · subst e; omega
      · have := h6 x (List.mem_append_right _ e); omega
/-- the open node is done -/
theorem bS_c (h : bS τ A b n L R) (hn : cN τ A n) (hk : ∀ x ∈ A.2.2.2.2.1 n, x ∈ L) : cS τ A b (n :: R) := by
  obtain ⟨h1, h2, h3, h4, h5, h6⟩ := h
  refine ⟨h1, ⟨h2.1, by omega, h2.2.2.2⟩, fun k hk0 hk1 => ?_, List.nodup_cons.mpr ⟨fun hc => (h6 n (List.mem_append_right _ hc)).2 rfl, (List.nodup_append.mp h5).2.1⟩, fun x hx => ?_⟩
  · by_cases e : k = n
    · subst e
      refine ⟨hn, fun x hx => ?_⟩
      have hx2 := hk x hx
      have := h6 x (List.mem_append_left _ hx2)
      refine ⟨this.1, fun hc => ?_⟩
      rcases List.mem_cons.mp hc with e | e
      · exact this.2 e
      · exact (List.nodup_append.mp h5).2.2 x hx2 x e rfl
    · obtain ⟨c1, c2⟩ := h4 k hk0 hk1 e
      refine ⟨c1, fun x hx => ?_⟩
      have := c2 x hx
      refine ⟨this.1, fun hc => ?_⟩
      rcases List.mem_cons.mp hc with e | e
      · exact this.2.2 e
      · exact this.2.1 (List.mem_append_right _ e)
  · rcases List.mem_cons.mp hx with e | e
    · subst e; omega
    · exact (h6 x (List.mem_append_right _ e)).1
end BLD
/-! A node is made, in both. -/
section CRT
variable {c : tkC} {t : aK} {N : Nat} {τ τ' : sg_S} {A A' : aT} {b n q : Int} {L R : List Int} {i : Nat}
theorem cr_ok (h : cS τ A b R) (hA : A.1 < 200) (hc : tkOK c) (kd pl w : Int) : ∃ τ1, pCreate c i τ = some (i + 1, τ1, A.1) ∧ bS τ1 (aNew A kd pl w) b A.1 [] R ∧ sN τ1 A.1 (tK c i) (tPl c i) (sg_nl (tW c i)) 0 (-1) ∧ fB τ τ1 A.1 := by
  obtain ⟨h1, h2, h3, h4, h5⟩ := h
  have hk : 0 ≤ A.1 ∧ A.1 < 200 := by omega
  have hK := tK_r hc i
  have hP := tPl_r hc i
  have hc2 := hc.2.1
  have hkr : sg_R (tK c i) := ⟨by omega, by omega⟩
  have hpr : sg_R (tPl c i) := ⟨by omega, by omega⟩
  refine ⟨_, by unfold pCreate; rw [h1, if_neg (by omega)], ?_, ?_, ?_⟩
  · unfold pAdd
    rw [h1]
    simp only [px_in hk, plx_in hk]
    refine ⟨?_, ⟨h2.1, h2.2.1, by simp only [aNew_1]; omega, by simp only [aNew_1]; omega⟩, ⟨?_, trivial, fun z hz => by simp at hz, by simp, fun x hx => by simp at hx⟩, fun k hk0 hk1 hkn => ?_, by simpa using h4, fun x hx => ?_⟩
    · simp only [rg_w, rg_wl', Nat.reduceEqDiff, if_false, if_true, reduceIte]
      rw [sg_id ⟨by omega, by omega⟩]
      rfl
    · simp only [rg_w, rg_wl', Nat.reduceEqDiff, if_false, if_true, reduceIte]
      rfl
    · simp only [aNew_1] at hk1 ⊢
      have hk' : k < A.1 := by omega
      obtain ⟨c1, c2⟩ := h3 k hk0 hk'
      refine ⟨cN_x c1 ((gr_n A _ _ _).2 k hk') (fun a ha => ?_) ?_ (fun x hx => ?_), ?_⟩
      · rw [sg_gwl']
        simp only [sg_gw, if_neg (show ¬ (_ ∧ k = A.1) from fun e => hkn e.2)]
        rw [if_neg (by omega)]
      · simp only [sg_gwl, sg_gw', if_neg (show ¬ (_ ∧ k = A.1) from fun e => hkn e.2)]
      · have hx2 : ¬ x = A.1 := by have := (c2 x hx).1; omega
        refine ⟨?_, ?_, ?_⟩
        · rw [sg_gwl']
          simp only [sg_gw, if_neg (show ¬ (_ ∧ x = A.1) from fun e => hx2 e.2)]
          rw [if_neg (by omega)]
        · rw [sg_gwl']
          simp only [sg_gw, if_neg (show ¬ (_ ∧ x = A.1) from fun e => hx2 e.2)]
          rw [if_neg (by omega)]
        · simp only [sg_gwl, sg_gw', if_neg (show ¬ (_ ∧ x = A.1) from fun e => hx2 e.2)]
      · rw [((gr_n A kd pl w).2 k hk').2.2.2.1]
        intro x hx
        have := c2 x hx
        refine ⟨by omega, by simpa using this.2, by omega⟩
    · have := h5 x (by simpa using hx)
      simp only [aNew_1]
      omega
  · unfold pAdd
    rw [h1]
    simp only [px_in hk, plx_in hk]
    refine ⟨?_, ?_, ?_, ?_, ?_⟩
    · simp only [rg_w, rg_wl', Nat.reduceEqDiff, if_false, if_true, reduceIte, sg_id hkr]
    · simp only [rg_w, rg_wl', Nat.reduceEqDiff, if_false, if_true, reduceIte, sg_id hpr]
    · simp only [rg_wl, Nat.reduceEqDiff, if_false, if_true, reduceIte]
    · simp only [rg_w, rg_wl', Nat.reduceEqDiff, if_false, if_true, reduceIte]; rfl
    · simp only [rg_w, rg_wl', Nat.reduceEqDiff, if_false, if_true, reduceIte]; rfl
  · unfold pAdd
    rw [h1]
    simp only [px_in hk, plx_in hk]
    refine fB_wl (fB_w (fB_w (fB_w (fB_w (fB_w (fB_w (fB_w (fB_w (fB_w (fB_w (fB_w (fB_2 (fB_r _ _)) ?_ ?_) ?_ ?_) ?_ ?_) ?_ ?_) ?_ ?_) ?_ ?_) ?_ ?_) ?_ ?_) ?_ ?_) ?_ ?_) ?_ ?_) ?_ ?_ <;> first | decide | exact Int.le_refl _
theorem cr_no (h : sg_g τ 2 16 = A.1) (hA : A.1 = 200) : pCreate c i τ = none := by
  unfold pCreate
  rw [h, if_pos (by omega)]
/-- the class's word of a token fits into 64 bits -/
theorem tW_r (h : tkB c t N) (hi : i < N) (hw : tK c i = 258 ∨ 261 ≤ tK c i) : sg_nl (tW c i) = tW c i := by
  obtain ⟨n, h1, h2, h3, h4, -⟩ := tok_w h.1 h.2.2.1 hi hw
  rw [h4]
  have h5 := lx_pk_7 (B := c.1) (q := tPl c i) n h2
  have h6 : (256 : Int) ^ n ≤ 18446744073709551616 := by
    rcases (show n = 0 ∨ n = 1 ∨ n = 2 ∨ n = 3 ∨ n = 4 ∨ n = 5 ∨ n = 6 ∨ n = 7 ∨ n = 8 by omega) with h | h | h | h | h | h | h | h | h <;> subst h <;> decide
  exact sg_idl ⟨by omega, by omega⟩
/-- a reading in both -/
def sF (c : tkC) (t : aK) (N : Nat) (P : pF) (F : aF) : Prop := ∀ (i : Nat) (τ : sg_S) (A : aT), i ≤ N → sg_g τ 2 16 = A.1 → 0 ≤ A.1 ∧ A.1 ≤ 200 → (P i τ = none ∧ F i A = none) ∨ ∃ i' τ' A' q, P i τ = some (i', τ', q) ∧ F i A = some (i', A', q) ∧ i' ≤ N ∧ cS τ' A' A.1 [q] ∧ fB τ τ' A.1
/-- with a left part that is there already -/
def sL (c : tkC) (t : aK) (N : Nat) (P : Int → pF) (F : Int → aF) : Prop := ∀ (l : Int) (i : Nat) (τ : sg_S) (A : aT) (b : Int), i ≤ N → cS τ A b [l] → (P l i τ = none ∧ F l i A = none) ∨ ∃ i' τ' A' q, P l i τ = some (i', τ', q) ∧ F l i A = some (i', A', q) ∧ i' ≤ N ∧ cS τ' A' b [q] ∧ fB τ τ' b
theorem cS_0 (h : sg_g τ 2 16 = A.1) (h0 : 0 ≤ A.1 ∧ A.1 ≤ 200) : cS τ A A.1 [] := ⟨h, ⟨h0.1, Int.le_refl _, h0.2⟩, fun k a b => by omega, by simp, fun x hx => by simp at hx⟩
theorem cl_c {k m : Int} (hk : 0 ≤ k ∧ k < 200) (h : bS τ A b k L R) {K P W G U : Int} (hs : sN τ k K P W G U) : bS (pClose τ k m) A b k L R ∧ sN (pClose τ k m) k K P W G U ∧ fB τ (pClose τ k m) b := by
  obtain ⟨h1, h2, h3, h4, h5, h6⟩ := h
  unfold pClose
  simp only [px_in hk]
  have e : ∀ (a : Nat) (j : Int), ¬ a = 11 → ¬ a = 12 → sg_g (sg_w (sg_w τ 11 k m) 12 k (sg_g τ 2 16 - 1)) a j = sg_g τ a j := fun a j q1 q2 => by rw [sg_gw, if_neg (fun x => q2 x.1), sg_gw, if_neg (fun x => q1 x.1)]
  refine ⟨⟨by rw [e 2 16 (by decide) (by decide)]; exact h1, h2, oN_e h3 (e 10 k (by decide) (by decide)) (e 7 k (by decide) (by decide)) (e 8 k (by decide) (by decide)) (fun x _ => e 9 x (by decide) (by decide)), fun k' a0 a1 a2 => ?_, h5, h6⟩, ?_, ?_⟩
  · obtain ⟨c1, c2⟩ := h4 k' a0 a1 a2
    exact ⟨cN_x c1 ⟨rfl, rfl, rfl, rfl, rfl⟩ (fun a ha => e a k' (by omega) (by omega)) rfl (fun x _ => ⟨e 9 x (by decide) (by decide), e 15 x (by decide) (by decide), rfl⟩), c2⟩
  · obtain ⟨a1, a2, a3, a4, a5⟩ := hs
    exact ⟨by rw [e 3 k (by decide) (by decide)]; exact a1, by rw [e 4 k (by decide) (by decide)]; exact a2, a3, by rw [e 13 k (by decide) (by decide)]; exact a4, by rw [e 14 k (by decide) (by decide)]; exact a5⟩
  · exact fB_w (fB_w (fB_r _ _) (by decide) h2.2.1) (by decide) h2.2.1
/-- a node that is no { }: its rows are told -/
theorem cN_o (h : bS τ A b n L R) {K P W G U : Int} (hs : sN τ n K P W G U) (hK : K = kmp (A.2.1 n)) (hP : P = A.2.2.1 n) (hW : (A.2.1 n = 1 ∨ A.2.1 n = 2 ∨ A.2.1 n = 13) → W = uv (A.2.2.2.1 n)) (h15 : ¬ A.2.1 n = 15) (hL : A.2.2.2.2.1 n = L) : cN τ A n := by
  obtain ⟨a1, a2, a3, a4, a5⟩ := hs
  refine ⟨a1.trans hK, a2.trans hP, fun q => a3.trans (hW q), ?_, fun q => absurd q h15⟩
  have : pts A n = L := by unfold pts; rw [if_neg h15, hL]
  rw [this]
  exact h.2.2.1
end CRT
/-! OPERATORS are read alike. -/
section OPR
variable {c : tkC} {t : aK} {N : Nat} {τ τ' : sg_S} {A A' : aT} {b n q l r : Int} {L R : List Int} {i : Nat}
theorem kid_o (A : aT) (n q : Int) : (aKid A n q).1 = A.1 ∧ ∀ k, ¬ k = n → (aKid A n q).2.1 k = A.2.1 k ∧ (aKid A n q).2.2.1 k = A.2.2.1 k ∧ (aKid A n q).2.2.2.1 k = A.2.2.2.1 k ∧ (aKid A n q).2.2.2.2.1 k = A.2.2.2.2.1 k ∧ (aKid A n q).2.2.2.2.2 k = A.2.2.2.2.2 k := ⟨rfl, fun k hk => by simp only [aKid, aU_n _ _ hk, and_self]⟩
theorem bS_A (h : bS τ A b n L R) (hA : A'.1 = A.1 ∧ ∀ k, ¬ k = n → A'.2.1 k = A.2.1 k ∧ A'.2.2.1 k = A.2.2.1 k ∧ A'.2.2.2.1 k = A.2.2.2.1 k ∧ A'.2.2.2.2.1 k = A.2.2.2.2.1 k ∧ A'.2.2.2.2.2 k = A.2.2.2.2.2 k) : bS τ A' b n L R := by
  obtain ⟨h1, h2, h3, h4, h5, h6⟩ := h
  refine ⟨by rw [hA.1]; exact h1, by rw [hA.1]; exact h2, h3, fun k a0 a1 a2 => ?_, h5, by rw [hA.1]; exact h6⟩
  rw [hA.1] at a1
  obtain ⟨c1, c2⟩ := h4 k a0 a1 a2
  have ek := hA.2 k a2
  refine ⟨cN_x c1 ek (fun _ _ => rfl) rfl (fun _ _ => ⟨rfl, rfl, rfl⟩), ?_⟩
  rw [ek.2.2.2.1, hA.1]
  exact c2
theorem bS_R {R' : List Int} (h : bS τ A b n L R) (hp : R'.Perm R) : bS τ A b n L R' := by
  obtain ⟨h1, h2, h3, h4, h5, h6⟩ := h
  have hm : ∀ x, x ∈ L ++ R' ↔ x ∈ L ++ R := fun x => by simp only [List.mem_append, hp.mem_iff]
  refine ⟨h1, h2, h3, fun k a0 a1 a2 => ⟨(h4 k a0 a1 a2).1, fun x hx => ?_⟩, (List.Perm.nodup_iff (List.Perm.append_left L hp)).mpr h5, fun x hx => h6 x ((hm x).mp hx)⟩
  have := (h4 k a0 a1 a2).2 x hx
  exact ⟨this.1, fun hc => this.2.1 ((hm x).mp hc), this.2.2⟩
def pBtw (c : tkC) (S : pF) (l : Int) (i : Nat) (τ : sg_S) : pO := match pCreate c i τ with
  | none => none
  | some (i2, τ2, k) => match S i2 τ2 with
    | none => none
    | some (i3, τ3, r) => some (i3, pBoth τ3 k l r, k)
theorem btw_ok (hB : tkB c t N) {S : pF} {S' : aF} (hS : sF c t N S S') (gS : gF S') {kd : Int} (hkd : tK c i = kmp kd) (hk : 4 ≤ kd ∧ kd ≤ 10) (hi : i < N) (h : cS τ A b [l]) : (pBtw c S l i τ = none ∧ aBtw t kd S' l i A = none) ∨ ∃ i' τ' A' q, pBtw c S l i τ = some (i', τ', q) ∧ aBtw t kd S' l i A = some (i', A', q) ∧ i' ≤ N ∧ cS τ' A' b [q] ∧ fB τ τ' b := by
  have h2 := h.2.1
  by_cases c200 : A.1 = 200
  · left
    unfold pBtw aBtw aMk
    rw [cr_no h.1 c200, if_pos c200]
    exact ⟨rfl, rfl⟩
  · obtain ⟨τ1, e1, b1, s1, f1⟩ := cr_ok (i := i) h (by omega) hB.1 kd (t.2.2 i) (t.2.1 i)
    have b2 := bS_A b1 (kid_o (aNew A kd (t.2.2 i) (t.2.1 i)) A.1 l)
    unfold pBtw aBtw aMk
    rw [e1, if_neg c200]
    simp only
    rcases hS (i + 1) τ1 (aKid (aNew A kd (t.2.2 i) (t.2.1 i)) A.1 l) (by omega) b2.1 (by simp only [aKid_1, aNew_1]; omega) with ⟨x1, x2⟩ | ⟨i', τ2, A2, r, x1, x2, x3, x4, x5⟩
    · left
      rw [x1, x2]
      exact ⟨rfl, rfl⟩
    · right
      rw [x1, x2]
      have g2 := gS _ _ _ _ _ x2 (by simp only [aKid_1, aNew_1]; omega)
      have hn : A.1 < (aKid (aNew A kd (t.2.2 i) (t.2.1 i)) A.1 l).1 := by simp only [aKid_1, aNew_1]; omega
      have b3 := bS_R (R' := [l, r]) (bS_E b2 x4 x5 g2.1) (List.Perm.swap _ _ _)
      have s3 := sN_f s1 x5 hn
      obtain ⟨b4, f4, w4, v4⟩ := bS_at (A' := A2) b3 ⟨rfl, fun k _ => ⟨rfl, rfl, rfl, rfl, rfl⟩⟩
      obtain ⟨b5, f5, w5, v5⟩ := bS_at (A' := aKid A2 A.1 r) b4 (kid_o A2 A.1 r)
      have s5 := sN_at (sN_at s3 w4 v4) w5 v5
      obtain ⟨b6, s6, f6⟩ := cl_c (m := sx_at (pAttach (pAttach τ2 A.1 l) A.1 r) 11 200 l) ⟨by omega, by omega⟩ b5 s5
      have kn := (g2.1.2 A.1 hn)
      have ekd : (aKid A2 A.1 r).2.1 A.1 = kd := by simp only [aKid]; rw [kn.1]; simp only [aKid, aNew, aU_e]
      have epl : (aKid A2 A.1 r).2.2.1 A.1 = t.2.2 i := by simp only [aKid]; rw [kn.2.1]; simp only [aKid, aNew, aU_e]
      have eks : (aKid A2 A.1 r).2.2.2.2.1 A.1 = [l, r] := by simp only [aKid, aU_e]; rw [kn.2.2.2.1]; simp only [aKid, aNew, aU_e, List.nil_append, List.cons_append]
      have hcn : cN (pBoth τ2 A.1 l r) (aKid A2 A.1 r) A.1 := cN_o b6 s6 (by rw [ekd]; exact hkd) (by rw [epl]; exact ((hB.2.2.1.1 i (by omega)).2).symm) (fun q => by rw [ekd] at q; omega) (by rw [ekd]; omega) (by rw [eks]; rfl)
      refine ⟨i', _, _, _, rfl, rfl, x3, bS_c b6 hcn (fun x hx => by rw [eks] at hx; simpa using hx), ?_⟩
      exact fB_t (fB_t (fB_t (fB_t (fB_m f1 h2.2.1) (fB_m x5 (by simp only [aKid_1, aNew_1]; omega))) f4) f5) f6
theorem sL_cmp (hB : tkB c t N) {S : pF} {S' : aF} (hS : sF c t N S S') (gS : gF S') : sL c t N (fun l i1 τ1 => if tK c i1 = 60 ∨ tK c i1 = 61 then pBtw c S l i1 τ1 else some (i1, τ1, l)) (aCmpR t S') := by
  intro l i τ A b hi h
  unfold aCmpR aqC
  by_cases c1 : tK c i = 60
  · have a1 := (b_sg hB hi (ch := 60) (by decide)).mpr c1
    simp only [c1, true_or, if_true, a1]
    exact btw_ok hB hS gS (by rw [c1]; rfl) (by omega) (b_lt hB hi (by have := sg_t a1; omega)) h
  · have a1 : ¬ aSg t i 60 = true := fun x => c1 ((b_sg hB hi (by decide)).mp x)
    by_cases c2 : tK c i = 61
    · have a2 := (b_sg hB hi (ch := 61) (by decide)).mpr c2
      simp only [c2, or_true, if_true, if_neg a1, a2]
      exact btw_ok hB hS gS (by rw [c2]; rfl) (by omega) (b_lt hB hi (by have := sg_t a2; omega)) h
    · have a2 : ¬ aSg t i 61 = true := fun x => c2 ((b_sg hB hi (by decide)).mp x)
      right
      simp only [if_neg (show ¬ (tK c i = 60 ∨ tK c i = 61) by omega), if_neg a1, if_neg a2]
      exact ⟨i, τ, A, l, rfl, rfl, hi, h, fB_r _ _⟩
theorem sF_then {P : pF} {F : aF} {G : Int → pF} {G' : Int → aF} (hP : sF c t N P F) (hG : sL c t N G G') : sF c t N (fun i τ => match P i τ with
    | none => none
    | some (i1, τ1, l) => G l i1 τ1) (fun i A => match F i A with
    | none => none
    | some (i1, A1, l) => G' l i1 A1) := by
  intro i τ A hi h h0
  rcases hP i τ A hi h h0 with ⟨x1, x2⟩ | ⟨i1, τ1, A1, l, x1, x2, x3, x4, x5⟩
  · left
    simp only [x1, x2, and_self]
  · simp only [x1, x2]
    rcases hG l i1 τ1 A1 A.1 x3 x4 with y | ⟨i2, τ2, A2, q, y1, y2, y3, y4, y5⟩
    · exact Or.inl y
    · exact Or.inr ⟨i2, τ2, A2, q, y1, y2, y3, y4, fB_t x5 y5⟩
theorem sF_cmp (hB : tkB c t N) {S : pF} {S' : aF} (hS : sF c t N S S') (gS : gF S') : sF c t N (pCmp c S) (aCmp t S') := sF_then hS (sL_cmp hB hS gS)
/-- rows of operands -/
theorem sL_row (hB : tkB c t N) {S : pF} {S' : aF} (hS : sF c t N S S') (gS : gF S') {pq : Int → Bool} {aq : Nat → Option Int} (hq : ∀ i, i ≤ N → (pq (tK c i) = false ∧ aq i = none) ∨ (pq (tK c i) = true ∧ ∃ kd, aq i = some kd ∧ tK c i = kmp kd ∧ (4 ≤ kd ∧ kd ≤ 10) ∧ i < N)) : ∀ (m m' : Nat) (l : Int) (i : Nat) (τ : sg_S) (A : aT) (b : Int), i ≤ N → cS τ A b [l] → (201 - A.1).toNat ≤ m → (201 - A.1).toNat ≤ m' → (pRowL c pq S m l i τ = none ∧ aRowL t aq S' m' l i A = none) ∨ ∃ i' τ' A' q, pRowL c pq S m l i τ = some (i', τ', q) ∧ aRowL t aq S' m' l i A = some (i', A', q) ∧ i' ≤ N ∧ cS τ' A' b [q] ∧ fB τ τ' b
  | 0, m', l, i, τ, A, b, hi, h, h1, h2 => by
    have := h.2.1
    omega
  | m + 1, 0, l, i, τ, A, b, hi, h, h1, h2 => by
    have := h.2.1
    omega
  | m + 1, m' + 1, l, i, τ, A, b, hi, h, h1, h2 => by
    have hA := h.2.1
    rcases hq i hi with ⟨p1, p2⟩ | ⟨p1, kd, p2, p3, p4, p5⟩
    · right
      unfold pRowL aRowL
      rw [p1, p2]
      exact ⟨i, τ, A, l, rfl, rfl, hi, h, fB_r _ _⟩
    · have key : pRowL c pq S (m + 1) l i τ = match pBtw c S l i τ with
          | none => none
          | some (i2, τ2, k) => pRowL c pq S m k i2 τ2 := by
        unfold pBtw
        simp only [pRowL, p1, if_true]
        cases pCreate c i τ with
        | none => rfl
        | some x =>
          obtain ⟨i2, τ2, k⟩ := x
          simp only
          cases S i2 τ2 with
          | none => rfl
          | some y => rfl
      rw [key]
      simp only [aRowL, p2]
      rcases btw_ok hB hS gS p3 p4 p5 h with ⟨x1, x2⟩ | ⟨i2, τ2, A2, k, x1, x2, x3, x4, x5⟩
      · left
        rw [x1, x2]
        exact ⟨rfl, rfl⟩
      · rw [x1, x2]
        have g := gF_btw gS x2 (by omega)
        simp only
        rcases sL_row hB hS gS hq m m' k i2 τ2 A2 b x3 x4 (by omega) (by omega) with y | ⟨i3, τ3, A3, q, y1, y2, y3, y4, y5⟩
        · exact Or.inl y
        · exact Or.inr ⟨i3, τ3, A3, q, y1, y2, y3, y4, fB_t x5 y5⟩
theorem sF_row (hB : tkB c t N) {S : pF} {S' : aF} (hS : sF c t N S S') (gS : gF S') {pq : Int → Bool} {aq : Nat → Option Int} (hq : ∀ i, i ≤ N → (pq (tK c i) = false ∧ aq i = none) ∨ (pq (tK c i) = true ∧ ∃ kd, aq i = some kd ∧ tK c i = kmp kd ∧ (4 ≤ kd ∧ kd ≤ 10) ∧ i < N)) : sF c t N (pRow c pq S) (aRow t aq S') :=
  sF_then hS (fun l i τ A b hi h => by
    have := h.2.1
    exact sL_row hB hS gS hq 201 (201 - A.1).toNat l i τ A b hi h (by omega) (by omega))
theorem q_S (hB : tkB c t N) : ∀ i, i ≤ N → (pqS (tK c i) = false ∧ aqS t i = none) ∨ (pqS (tK c i) = true ∧ ∃ kd, aqS t i = some kd ∧ tK c i = kmp kd ∧ (4 ≤ kd ∧ kd ≤ 10) ∧ i < N) := by
  intro i hi
  unfold pqS aqS
  have b1 := b_sg hB hi (ch := 43) (by decide)
  have b2 := b_sg hB hi (ch := 45) (by decide)
  by_cases c1 : tK c i = 43
  · right
    rw [if_pos (b1.mpr c1)]
    exact ⟨by simp [c1], 6, rfl, by rw [c1]; rfl, by omega, b_lt hB hi (by have := sg_t (b1.mpr c1); omega)⟩
  · rw [if_neg (fun x => c1 (b1.mp x))]
    by_cases c2 : tK c i = 45
    · right
      rw [if_pos (b2.mpr c2)]
      exact ⟨by simp [c2], 7, rfl, by rw [c2]; rfl, by omega, b_lt hB hi (by have := sg_t (b2.mpr c2); omega)⟩
    · left
      rw [if_neg (fun x => c2 (b2.mp x))]
      exact ⟨by simp [c1, c2], rfl⟩
theorem q_P (hB : tkB c t N) : ∀ i, i ≤ N → (pqP (tK c i) = false ∧ aqP t i = none) ∨ (pqP (tK c i) = true ∧ ∃ kd, aqP t i = some kd ∧ tK c i = kmp kd ∧ (4 ≤ kd ∧ kd ≤ 10) ∧ i < N) := by
  intro i hi
  unfold pqP aqP
  have b1 := b_sg hB hi (ch := 42) (by decide)
  have b2 := b_sg hB hi (ch := 47) (by decide)
  have b3 := b_sg hB hi (ch := 37) (by decide)
  by_cases c1 : tK c i = 42
  · right
    rw [if_pos (b1.mpr c1)]
    exact ⟨by simp [c1], 8, rfl, by rw [c1]; rfl, by omega, b_lt hB hi (by have := sg_t (b1.mpr c1); omega)⟩
  · rw [if_neg (fun x => c1 (b1.mp x))]
    by_cases c2 : tK c i = 47
    · right
      rw [if_pos (b2.mpr c2)]
      exact ⟨by simp [c2], 9, rfl, by rw [c2]; rfl, by omega, b_lt hB hi (by have := sg_t (b2.mpr c2); omega)⟩
    · rw [if_neg (fun x => c2 (b2.mp x))]
      by_cases c3 : tK c i = 37
      · right
        rw [if_pos (b3.mpr c3)]
        exact ⟨by simp [c3], 10, rfl, by rw [c3]; rfl, by omega, b_lt hB hi (by have := sg_t (b3.mpr c3); omega)⟩
      · left
        rw [if_neg (fun x => c3 (b3.mp x))]
        exact ⟨by simp [c1, c2, c3], rfl⟩
end OPR
/-! LET, IF, #, [ ] are read alike. -/
section LTF
variable {c : tkC} {t : aK} {N : Nat} {τ τ' : sg_S} {A A' : aT} {b n q l r : Int} {L R : List Int} {i : Nat} {K Pl W G U : Int}
/-- a part is read, and hangs on the open node -/
theorem ea_ok {E : pF} {E' : aF} (hE : sF c t N E E') (gE : gF E') (hi : i ≤ N) (h : bS τ A b n L R) (hs : sN τ n K Pl W G U) : (E i τ = none ∧ E' i A = none) ∨ ∃ i' τ' A' q, E i τ = some (i', τ', q) ∧ E' i A = some (i', A', q) ∧ i' ≤ N ∧ bS τ' A' b n L (q :: R) ∧ bS (pAttach τ' n q) (aKid A' n q) b n (L ++ [q]) R ∧ sN τ' n K Pl W G U ∧ sN (pAttach τ' n q) n K Pl W G U ∧ fB τ τ' b ∧ fB τ (pAttach τ' n q) b ∧ gr A A' := by
  have h2 := h.2.1
  rcases hE i τ A hi h.1 (by omega) with x | ⟨i', τ', A', q, x1, x2, x3, x4, x5⟩
  · exact Or.inl x
  · right
    have g := gE _ _ _ _ _ x2 (by omega)
    have b1 := bS_E h x4 x5 g.1
    have s1 := sN_f hs x5 h2.2.2.1
    obtain ⟨b2, f2, w2, v2⟩ := bS_at (A' := aKid A' n q) b1 (kid_o A' n q)
    exact ⟨i', τ', A', q, x1, x2, x3, b1, b2, s1, sN_at s1 w2 v2, fB_m x5 (by omega), fB_t (fB_m x5 (by omega)) f2, g.1⟩
/-- a node without { } is closed -/
theorem fin_ok (h : bS τ A b n L R) (hs : sN τ n K Pl W G U) (hK : K = kmp (A.2.1 n)) (hP : Pl = A.2.2.1 n) (hW : (A.2.1 n = 1 ∨ A.2.1 n = 2 ∨ A.2.1 n = 13) → W = uv (A.2.2.2.1 n)) (h15 : ¬ A.2.1 n = 15) (hL : A.2.2.2.2.1 n = L) (m : Int) : cS (pClose τ n m) A b (n :: R) ∧ fB τ (pClose τ n m) b := by
  have h2 := h.2.1
  obtain ⟨b6, s6, f6⟩ := cl_c (m := m) ⟨by omega, by omega⟩ h hs
  exact ⟨bS_c b6 (cN_o b6 s6 hK hP hW h15 hL) (fun x hx => by rw [hL] at hx; exact hx), f6⟩
theorem kn_k (A : aT) (n q : Int) : (aKid A n q).2.2.2.2.1 n = A.2.2.2.2.1 n ++ [q] := by simp only [aKid, aU_e]
theorem sF_if (hB : tkB c t N) {E : pF} {E' : aF} (hE : sF c t N E E') (gE : gF E') (hi : i ≤ N) (hk : tK c i = 264) (h : sg_g τ 2 16 = A.1) (h0 : 0 ≤ A.1 ∧ A.1 ≤ 200) : (pIf c E i τ = none ∧ aIf t E' i A = none) ∨ ∃ i' τ' A' q, pIf c E i τ = some (i', τ', q) ∧ aIf t E' i A = some (i', A', q) ∧ i' ≤ N ∧ cS τ' A' A.1 [q] ∧ fB τ τ' A.1 := by
  have hlt := b_lt hB hi (by have := (b_s hB hi).2.2.1.mpr (by omega); omega)
  unfold pIf aIf aMk
  by_cases c200 : A.1 = 200
  · left
    rw [cr_no h c200, if_pos c200]
    exact ⟨rfl, rfl⟩
  obtain ⟨τ1, e1, b1, s1, f1⟩ := cr_ok (i := i) (cS_0 h h0) (by omega) hB.1 3 (t.2.2 i) (t.2.1 i)
  rw [e1, if_neg c200]
  simp only
  rcases ea_ok hE gE (i := i + 1) (by omega) b1 s1 with ⟨x1, x2⟩ | ⟨i2, τ2, A2, a, x1, x2, x3, -, b2, -, s2, -, f2, g2⟩
  · left; rw [x1, x2]; exact ⟨rfl, rfl⟩
  rw [x1, x2]
  simp only
  by_cases c2 : tK c i2 = 265
  · simp only [c2, if_true, (b_then hB x3).mpr c2]
    have hlt2 := b_lt hB x3 (by have := (b_s hB x3).2.2.1.mpr (by omega); omega)
    rcases ea_ok hE gE (i := i2 + 1) (by omega) b2 s2 with ⟨y1, y2⟩ | ⟨i3, τ3, A3, e, y1, y2, y3, -, b3, -, s3, -, f3, g3⟩
    · left; rw [y1, y2]; exact ⟨rfl, rfl⟩
    rw [y1, y2]
    simp only
    by_cases c3 : tK c i3 = 266
    · simp only [c3, if_true, (b_else hB y3).mpr c3]
      have hlt3 := b_lt hB y3 (by have := (b_s hB y3).2.2.1.mpr (by omega); omega)
      rcases ea_ok hE gE (i := i3 + 1) (by omega) b3 s3 with ⟨z1, z2⟩ | ⟨i4, τ4, A4, u, z1, z2, z3, -, b4, -, s4, -, f4, g4⟩
      · left; rw [z1, z2]; exact ⟨rfl, rfl⟩
      right
      rw [z1, z2]
      have k2 := g2.2 A.1 (by simp only [aNew_1]; omega)
      have k3 := g3.2 A.1 (by have := b2.2.1; omega)
      have k4 := g4.2 A.1 (by have := b3.2.1; omega)
      have ekd : (aKid A4 A.1 u).2.1 A.1 = 3 := by simp only [aKid]; rw [k4.1]; simp only [aKid]; rw [k3.1]; simp only [aKid]; rw [k2.1]; simp only [aNew, aU_e]
      have epl : (aKid A4 A.1 u).2.2.1 A.1 = t.2.2 i := by simp only [aKid]; rw [k4.2.1]; simp only [aKid]; rw [k3.2.1]; simp only [aKid]; rw [k2.2.1]; simp only [aNew, aU_e]
      have eks : (aKid A4 A.1 u).2.2.2.2.1 A.1 = [] ++ [a] ++ [e] ++ [u] := by rw [kn_k, k4.2.2.2.1, kn_k, k3.2.2.2.1, kn_k, k2.2.2.2.1]; simp only [aNew, aU_e]
      obtain ⟨cs, ff⟩ := fin_ok b4 s4 (by rw [ekd, hk]; rfl) (by rw [epl]; exact ((hB.2.2.1.1 i hi).2).symm) (fun q => by rw [ekd] at q; omega) (by rw [ekd]; omega) eks A.1
      exact ⟨i4, _, _, _, rfl, rfl, z3, cs, fB_t (fB_t (fB_t (fB_t f1 f2) f3) f4) ff⟩
    · left
      have c3' : ¬ aWo t i3 339965 = true := fun x => c3 ((b_else hB y3).mp x)
      simp only [if_neg c3, if_neg c3', and_self]
  · left
    have c2' : ¬ aWo t i2 1293014 = true := fun x => c2 ((b_then hB x3).mp x)
    simp only [if_neg c2, if_neg c2', and_self]
theorem sF_let (hB : tkB c t N) {E : pF} {E' : aF} (hE : sF c t N E E') (gE : gF E') (hi : i ≤ N) (hk : tK c i = 262) (h : sg_g τ 2 16 = A.1) (h0 : 0 ≤ A.1 ∧ A.1 ≤ 200) : (pLet c E i τ = none ∧ aLet t E' i A = none) ∨ ∃ i' τ' A' q, pLet c E i τ = some (i', τ', q) ∧ aLet t E' i A = some (i', A', q) ∧ i' ≤ N ∧ cS τ' A' A.1 [q] ∧ fB τ τ' A.1 := by
  have hlt := b_lt hB hi (by have := (b_s hB hi).2.2.1.mpr (by omega); omega)
  unfold pLet aLet aMk
  by_cases c200 : A.1 = 200
  · left
    rw [cr_no h c200, if_pos c200]
    exact ⟨rfl, rfl⟩
  obtain ⟨τ1, e1, b1, s1, f1⟩ := cr_ok (i := i) (cS_0 h h0) (by omega) hB.1 2 (t.2.2 i) (t.2.1 i)
  rw [e1, if_neg c200]
  simp only
  by_cases d1 : tK c (i + 1) = 258
  · simp only [d1, if_true, (b_nm hB (i := i + 1) (by omega)).mpr d1]
    have hlt1 := b_lt hB (i := i + 1) (by omega) (by have := (b_s hB (i := i + 1) (by omega)).2.2.1.mpr (by omega); omega)
    by_cases d2 : tK c (i + 1 + 1) = 61
    · have d2' := (b_sg hB (i := i + 1 + 1) (ch := 61) (by omega) (by decide)).mpr d2
      have hlt2 := b_lt hB (i := i + 1 + 1) (by omega) (by have := sg_t d2'; omega)
      simp only [d2, if_true, show aSg t (i + 2) 61 = true from d2']
      have hkk : 0 ≤ A.1 ∧ A.1 < 200 := by omega
      rw [plx_in hkk]
      have hA' : (aWd (aNew A 2 (t.2.2 i) (t.2.1 i)) A.1 (t.2.1 (i + 1))).1 = (aNew A 2 (t.2.2 i) (t.2.1 i)).1 ∧ ∀ k, ¬ k = A.1 → (aWd (aNew A 2 (t.2.2 i) (t.2.1 i)) A.1 (t.2.1 (i + 1))).2.1 k = (aNew A 2 (t.2.2 i) (t.2.1 i)).2.1 k ∧ (aWd (aNew A 2 (t.2.2 i) (t.2.1 i)) A.1 (t.2.1 (i + 1))).2.2.1 k = (aNew A 2 (t.2.2 i) (t.2.1 i)).2.2.1 k ∧ (aWd (aNew A 2 (t.2.2 i) (t.2.1 i)) A.1 (t.2.1 (i + 1))).2.2.2.1 k = (aNew A 2 (t.2.2 i) (t.2.1 i)).2.2.2.1 k ∧ (aWd (aNew A 2 (t.2.2 i) (t.2.1 i)) A.1 (t.2.1 (i + 1))).2.2.2.2.1 k = (aNew A 2 (t.2.2 i) (t.2.1 i)).2.2.2.2.1 k ∧ (aWd (aNew A 2 (t.2.2 i) (t.2.1 i)) A.1 (t.2.1 (i + 1))).2.2.2.2.2 k = (aNew A 2 (t.2.2 i) (t.2.1 i)).2.2.2.2.2 k := ⟨rfl, fun k hk => by simp only [aWd, aU_n _ _ hk, and_self]⟩
      have b1' : bS (sg_wl τ1 17 A.1 (tW c (i + 1))) (aWd (aNew A 2 (t.2.2 i) (t.2.1 i)) A.1 (t.2.1 (i + 1))) A.1 A.1 [] [] := by
        obtain ⟨q1, q2, q3, q4, q5, q6⟩ := bS_A b1 hA'
        refine ⟨q1, q2, q3, fun k a0 a1 a2 => ⟨cN_x (q4 k a0 a1 a2).1 ⟨rfl, rfl, rfl, rfl, rfl⟩ (fun _ _ => rfl) ?_ (fun x _ => ⟨rfl, rfl, ?_⟩), (q4 k a0 a1 a2).2⟩, q5, q6⟩
        · rw [sg_gwl, if_neg (fun e => a2 e.2)]
        · rw [sg_gwl, if_neg (fun e => absurd e.1 (by decide))]
      have s1' : sN (sg_wl τ1 17 A.1 (tW c (i + 1))) A.1 (tK c i) (tPl c i) (tW c (i + 1)) 0 (-1) := ⟨s1.1, s1.2.1, by rw [sg_gwl, if_pos ⟨rfl, rfl⟩]; exact tW_r hB hlt1 (Or.inl d1), s1.2.2.2.1, s1.2.2.2.2⟩
      have f1' : fB τ (sg_wl τ1 17 A.1 (tW c (i + 1))) A.1 := fB_wl f1 (by decide) (Int.le_refl _)
      rcases ea_ok hE gE (i := i + 1 + 1 + 1) (by omega) b1' s1' with ⟨x1, x2⟩ | ⟨i2, τ2, A2, a, x1, x2, x3, -, b2, -, s2, -, f2, g2⟩
      · left
        rw [show i + 1 + 1 + 1 = i + 3 by omega] at x1 x2
        rw [show i + 1 + 1 + 1 = i + 3 by omega, x1, x2]; exact ⟨rfl, rfl⟩
      rw [show i + 1 + 1 + 1 = i + 3 by omega] at x1 x2
      rw [show i + 1 + 1 + 1 = i + 3 by omega, x1, x2]
      simp only
      by_cases c2 : tK c i2 = 263
      · simp only [c2, if_true, (b_in hB x3).mpr c2]
        have hlt3 := b_lt hB x3 (by have := (b_s hB x3).2.2.1.mpr (by omega); omega)
        rcases ea_ok hE gE (i := i2 + 1) (by omega) b2 s2 with ⟨y1, y2⟩ | ⟨i3, τ3, A3, e, y1, y2, y3, -, b3, -, s3, -, f3, g3⟩
        · left; rw [y1, y2]; exact ⟨rfl, rfl⟩
        right
        rw [y1, y2]
        have k2 := g2.2 A.1 (by simp only [aWd_1, aNew_1]; omega)
        have k3 := g3.2 A.1 (by have := b2.2.1; omega)
        have ekd : (aKid A3 A.1 e).2.1 A.1 = 2 := by simp only [aKid]; rw [k3.1]; simp only [aKid]; rw [k2.1]; simp only [aWd, aNew, aU_e]
        have epl : (aKid A3 A.1 e).2.2.1 A.1 = t.2.2 i := by simp only [aKid]; rw [k3.2.1]; simp only [aKid]; rw [k2.2.1]; simp only [aWd, aNew, aU_e]
        have ewd : (aKid A3 A.1 e).2.2.2.1 A.1 = t.2.1 (i + 1) := by simp only [aKid]; rw [k3.2.2.1]; simp only [aKid]; rw [k2.2.2.1]; simp only [aWd, aU_e]
        have eks : (aKid A3 A.1 e).2.2.2.2.1 A.1 = [] ++ [a] ++ [e] := by rw [kn_k, k3.2.2.2.1, kn_k, k2.2.2.2.1]; simp only [aWd, aNew, aU_e]
        obtain ⟨cs, ff⟩ := fin_ok b3 s3 (by rw [ekd, hk]; rfl) (by rw [epl]; exact ((hB.2.2.1.1 i hi).2).symm) (fun q => by rw [ewd]; exact (tok_u hB.1 hB.2.2.1 hlt1 (Or.inl d1)).symm) (by rw [ekd]; omega) eks A.1
        exact ⟨i3, _, _, _, rfl, rfl, y3, cs, fB_t (fB_t (fB_t f1' f2) f3) ff⟩
      · left
        have c2' : ¬ aWo t i2 374 = true := fun x => c2 ((b_in hB x3).mp x)
        simp only [if_neg c2, if_neg c2', and_self]
    · left
      have d2' : ¬ aSg t (i + 2) 61 = true := fun x => d2 ((b_sg hB (i := i + 1 + 1) (by omega) (by decide)).mp x)
      simp only [if_neg d2, if_neg d2', and_self]
  · left
    have d1' : ¬ aNm t (i + 1) = true := fun x => d1 ((b_nm hB (by omega)).mp x)
    simp only [if_neg d1, if_neg d1', and_self]
/-- # UNARY -/
theorem sF_sharp (hB : tkB c t N) {E : pF} {E' : aF} (hE : sF c t N E E') (gE : gF E') (hi : i ≤ N) (hk : tK c i = 35) (h : sg_g τ 2 16 = A.1) (h0 : 0 ≤ A.1 ∧ A.1 ≤ 200) : ((match pCreate c i τ with
    | none => none
    | some (i1, τ1, k) => match E i1 τ1 with
      | none => none
      | some (i2, τ2, r) => some (i2, pClose (pAttach τ2 k r) k k, k)) = none ∧ (match aMk t i A 11 with
    | none => none
    | some (A1, n) => match E' (i + 1) A1 with
      | none => none
      | some (i2, A2, r) => some (i2, aKid A2 n r, n)) = none) ∨ ∃ i' τ' A' q, (match pCreate c i τ with
    | none => none
    | some (i1, τ1, k) => match E i1 τ1 with
      | none => none
      | some (i2, τ2, r) => some (i2, pClose (pAttach τ2 k r) k k, k)) = some (i', τ', q) ∧ (match aMk t i A 11 with
    | none => none
    | some (A1, n) => match E' (i + 1) A1 with
      | none => none
      | some (i2, A2, r) => some (i2, aKid A2 n r, n)) = some (i', A', q) ∧ i' ≤ N ∧ cS τ' A' A.1 [q] ∧ fB τ τ' A.1 := by
  have hlt := b_lt hB hi (by have := (b_s hB hi).2.2.2.2.mpr (by omega); omega)
  unfold aMk
  by_cases c200 : A.1 = 200
  · left
    rw [cr_no h c200, if_pos c200]
    exact ⟨rfl, rfl⟩
  obtain ⟨τ1, e1, b1, s1, f1⟩ := cr_ok (i := i) (cS_0 h h0) (by omega) hB.1 11 (t.2.2 i) (t.2.1 i)
  rw [e1, if_neg c200]
  simp only
  rcases ea_ok hE gE (i := i + 1) (by omega) b1 s1 with ⟨x1, x2⟩ | ⟨i2, τ2, A2, a, x1, x2, x3, -, b2, -, s2, -, f2, g2⟩
  · left; rw [x1, x2]; exact ⟨rfl, rfl⟩
  right
  rw [x1, x2]
  have k2 := g2.2 A.1 (by simp only [aNew_1]; omega)
  have ekd : (aKid A2 A.1 a).2.1 A.1 = 11 := by simp only [aKid]; rw [k2.1]; simp only [aNew, aU_e]
  have epl : (aKid A2 A.1 a).2.2.1 A.1 = t.2.2 i := by simp only [aKid]; rw [k2.2.1]; simp only [aNew, aU_e]
  have eks : (aKid A2 A.1 a).2.2.2.2.1 A.1 = [] ++ [a] := by rw [kn_k, k2.2.2.2.1]; simp only [aNew, aU_e]
  obtain ⟨cs, ff⟩ := fin_ok b2 s2 (by rw [ekd, hk]; rfl) (by rw [epl]; exact ((hB.2.2.1.1 i hi).2).symm) (fun q => by rw [ekd] at q; omega) (by rw [ekd]; omega) eks A.1
  exact ⟨i2, _, _, _, rfl, rfl, x3, cs, fB_t (fB_t f1 f2) ff⟩
end LTF
