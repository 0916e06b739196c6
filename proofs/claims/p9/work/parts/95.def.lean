/-! THE READER of the reference: a DEF. -/
def dfR (σ : sg_S) (D : List aDf) : Prop := sg_g σ 88 19 = D.length ∧ D.length ≤ 12 ∧ ∀ (d : Nat) (x : aDf), D[d]? = some x → sg_gl σ 103 d = x.1 ∧ sg_g σ 104 d = x.2.1 ∧ sg_g σ 105 d = x.2.2.2 ∧ pmR σ d x.2.2.1
def dq (σ s : sg_S) (d w p : Int) : Prop := (∀ k, ¬ k = d → sg_gl s 103 k = sg_gl σ 103 k ∧ sg_g s 104 k = sg_g σ 104 k) ∧ (∀ k, sg_g s 105 k = sg_g σ 105 k) ∧ sg_gl s 103 d = w ∧ sg_g s 104 d = p ∧ sg_g s 88 19 = sg_g σ 88 19
theorem dq_F {σ s s' : sg_S} {L : List Nat} {d w p : Int} (h : dq σ s d w p) (hF : sg_F L s s') (hL : sg_ca L 103 = true ∧ sg_ca L 104 = true ∧ sg_ca L 105 = true ∧ sg_cv L 88 19 = false) : dq σ s' d w p := by
  obtain ⟨h1, h2, h3, h4, h5⟩ := h
  refine ⟨fun k hk => ?_, fun k => ?_, ?_, ?_, ?_⟩
  · rw [sg_F_gal hF hL.1, sg_F_ga hF hL.2.1]; exact h1 k hk
  · rw [sg_F_ga hF hL.2.2.1]; exact h2 k
  · rw [sg_F_gal hF hL.1]; exact h3
  · rw [sg_F_ga hF hL.2.1]; exact h4
  · rw [sg_F_g hF hL.2.2.2]; exact h5
section DEF
variable {t : aK} {N : Nat} {σ : sg_S} {F : Int} {i : Nat} {A : aT} {D : List aDf}
theorem s_def {Q : sg_S → Prop} (h : Rq t N σ 0 i A) (hD : dfR σ D) (hi : i < N) (k1 : ∀ i' A' x, D.length < 12 → aDf1 t N i A = some (i', A', x) → 0 ≤ x.2.2.2 ∧ x.2.2.2 < A'.1 → ∀ σ', Rq t N σ' 0 i' A' → dfR σ' (D ++ [x]) → Q σ') (k2 : (D.length = 12 ∨ aDf1 t N i A = none) → ∀ σ', ¬ sg_g σ' 88 29 = 0 → fpl σ' → Q σ') : V_readDef σ Q := by
  have ht0 := Rq_t h
  have hn := hD.1
  have hn12 := hD.2.1
  unfold V_readDef
  rw [hn]
  refine ⟨fun c => ?_, fun c => ⟨⟨ht0.2.2.2.1, ht0.2.2.2.2.1⟩, sq_wrong h (Rq_p h) (fun s F' hF' h' _ => k2 (Or.inl (by omega)) s (by rw [h'.2.1]; exact hF') h'.2.2.2.2.2.2)⟩⟩
  have hlt : D.length < 12 := by omega
  refine sq_want h (fun _ _ => hi) (fun σ3 F3 e3 h3 f3 => ?_)
  have k3 : F3 = 0 := by omega
  subst k3
  rw [if_pos rfl] at h3
  have ht3 := Rq_t h3
  have e91 : sg_g σ 91 (sg_g σ3 88 7) = t.2.2 (i + 1) := by rw [h3.2.2.1]; exact (h.1.2.1 (i + 1) ht3.2.2.2.2.2.1).2.1
  have e92 : sg_gl σ 92 (sg_g σ3 88 7) = t.2.1 (i + 1) := by rw [h3.2.2.1]; exact (h.1.2.1 (i + 1) ht3.2.2.2.2.2.1).2.2
  have hwr : sg_RL (t.2.1 (i + 1)) := by rw [← ht3.2.2.1]; exact sg_Rgl _ _ _
  have hpr : sg_R (t.2.2 (i + 1)) := by rw [← ht3.2.1]; exact sg_Rg _ _ _
  refine ⟨⟨by omega, by omega⟩, ?_⟩
  rintro σ9 e9
  refine ⟨⟨ht3.2.2.2.1, ht3.2.2.2.2.1⟩, ?_⟩
  rw [e91, e92]
  rintro σ13 e13 σ16 e16
  have h16 : Rq t N σ16 0 (i + 1) A := by rw [e16, e13, e9]; exact Rq_w (Rq_wl (Rq_w h3 (by decide) _ _) (by decide) _ _) (by decide) _ _
  have q16 : dq σ σ16 D.length (t.2.1 (i + 1)) (t.2.2 (i + 1)) := by
    rw [e16, e13, e9]
    refine ⟨fun k hk => ⟨?_, ?_⟩, fun k => ?_, ?_, ?_, ?_⟩
    · rw [sg_gw', sg_gwl_k _ _ _ _ _ _ hk, sg_gw', sg_F_gal f3 rfl]
    · rw [sg_gw_k _ _ _ _ _ _ hk, sg_gwl', sg_gw_c _ _ _ _ _ _ (by decide), sg_F_ga f3 rfl]
    · rw [sg_gw_c _ _ _ _ _ _ (by decide), sg_gwl', sg_gw_c _ _ _ _ _ _ (by decide), sg_F_ga f3 rfl]
    · rw [sg_gw', sg_gwl, if_pos ⟨rfl, rfl⟩, sg_idl hwr]
    · rw [sg_gw, if_pos ⟨rfl, rfl⟩, sg_id hpr]
    · rw [sg_gw_c _ _ _ _ _ _ (by decide), sg_gwl', sg_gw_c _ _ _ _ _ _ (by decide), sg_F_g f3 rfl]
  have p16 : pmF σ σ16 D.length ∧ sg_g σ16 106 D.length = 0 := by
    rw [e16, e13, e9]
    refine ⟨⟨fun k hk => ?_, fun k hk => ⟨?_, ?_, ?_⟩⟩, ?_⟩
    · rw [sg_gw_c _ _ _ _ _ _ (by decide), sg_gwl', sg_gw_k _ _ _ _ _ _ hk, sg_F_ga f3 rfl]
    · rw [sg_gw', sg_gwl_c _ _ _ _ _ _ (by decide), sg_gw', sg_F_gal f3 rfl]
    · rw [sg_gw_c _ _ _ _ _ _ (by decide), sg_gwl', sg_gw_c _ _ _ _ _ _ (by decide), sg_F_ga f3 rfl]
    · rw [sg_gw_c _ _ _ _ _ _ (by decide), sg_gwl', sg_gw_c _ _ _ _ _ _ (by decide), sg_F_ga f3 rfl]
    · rw [sg_gw_c _ _ _ _ _ _ (by decide), sg_gwl', sg_gw, if_pos ⟨rfl, rfl⟩]; rfl
  clear e9 e13 e16
  rw [vq_nm h3]
  refine ⟨pq_nm h3, sq_want h16 (fun _ c => Rq_i h3 (by have := nm_t ((if01 _).mp c); omega)) (fun σ21 F21 e21 h21 f21 => ?_)⟩
  rw [if01] at e21
  have q21 := dq_F q16 f21 ⟨rfl, rfl, rfl, rfl⟩
  have m21 := pmE_F f21 ⟨rfl, rfl, rfl, rfl⟩
  -- (
  refine ⟨fun s => ∃ F2 j2, Rq t N s F2 j2 A ∧ dq σ s D.length (t.2.1 (i + 1)) (t.2.2 (i + 1)) ∧ pmE σ16 s ∧ (¬ F2 = 0 → aDf1 t N i A = none) ∧ (F2 = 0 → j2 = i + 3 ∧ aNm t (i + 1) = true ∧ aSg t (i + 2) 40 = true), ⟨fun c => ⟨F21, _, h21, q21, m21, fun e => ?_, fun e => absurd (h21.2.1.trans e) c⟩, fun c => ?_⟩, ?_⟩
  · have : aNm t (i + 1) = false := bF (fun b => e (e21.mpr ⟨rfl, b⟩))
    simp [aDf1, this]
  · have k21 : F21 = 0 := h21.2.1.symm.trans c
    rw [if_pos k21] at h21
    subst k21
    rw [vq_sg h21]
    refine ⟨pq_sg h21 40, sq_want h21 (fun _ c => Rq_i h21 (by have := sg_t ((if01 _).mp c); omega)) (fun s F2 e2 h2 f2 => ⟨F2, _, h2, dq_F q21 f2 ⟨rfl, rfl, rfl, rfl⟩, pmE_t m21 (pmE_F f2 ⟨rfl, rfl, rfl, rfl⟩), fun e => ?_, fun e => ?_⟩)⟩
    · rw [if01] at e2
      have b : aSg t (i + 1 + 1) 40 = false := bF (fun b => e (e2.mpr ⟨rfl, b⟩))
      simp [aDf1, (e21.mp rfl).2, b]
    · rw [if01] at e2
      rw [if_pos e]
      exact ⟨rfl, (e21.mp rfl).2, (e2.mp e).2⟩
  rintro σ29 - ⟨F29, j29, h29, q29, m29, n29, g29⟩
  -- PARAMS
  refine ⟨fun s => ∃ F2 j2, Rq t N s F2 j2 A ∧ dq σ s D.length (t.2.1 (i + 1)) (t.2.2 (i + 1)) ∧ (F2 = 0 → pmF σ s D.length) ∧ (¬ F2 = 0 → aDf1 t N i A = none) ∧ (F2 = 0 → aNm t (i + 1) = true ∧ aSg t (i + 2) 40 = true ∧ ∃ ps, pmR s D.length ps ∧ aPas t N (i + 3) = some (j2, ps)), ⟨fun c => ⟨F29, j29, h29, q29, fun _ => pmF_t p16.1 (pmE_f m29 _), n29, fun e => absurd (h29.2.1.trans e) c⟩, fun c => ?_⟩, ?_⟩
  · have k29 : F29 = 0 := h29.2.1.symm.trans c
    obtain ⟨j29e, a1, a2⟩ := g29 k29
    subst k29
    subst j29e
    refine s_params (d := D.length) hlt h29 (by rw [(m29 _).1]; exact p16.2) (fun i' ps hps s hs pr pf f2 => ?_) (fun hps s F2 i' hF2 hs f2 => ?_)
    · exact ⟨0, i', hs, dq_F q29 f2 ⟨rfl, rfl, rfl, rfl⟩, fun _ => pmF_t (pmF_t p16.1 (pmE_f m29 _)) pf, fun e => absurd rfl e, fun _ => ⟨a1, a2, ps, pr, hps⟩⟩
    · exact ⟨F2, i', hs, dq_F q29 f2 ⟨rfl, rfl, rfl, rfl⟩, fun e => absurd e hF2, fun _ => by simp [aDf1, a1, a2, hps], fun e => absurd e hF2⟩
  rintro σ35 - ⟨F35, j35, h35, q35, m35, n35, g35⟩
  -- )
  refine ⟨fun s => ∃ F2 j2, Rq t N s F2 j2 A ∧ dq σ s D.length (t.2.1 (i + 1)) (t.2.2 (i + 1)) ∧ (F2 = 0 → pmF σ s D.length) ∧ (¬ F2 = 0 → aDf1 t N i A = none) ∧ (F2 = 0 → aNm t (i + 1) = true ∧ aSg t (i + 2) 40 = true ∧ ∃ ps j1, pmR s D.length ps ∧ aPas t N (i + 3) = some (j1, ps) ∧ aSg t j1 41 = true ∧ j2 = j1 + 1), ⟨fun c => ⟨F35, j35, h35, q35, m35, n35, fun e => absurd (h35.2.1.trans e) c⟩, fun c => ?_⟩, ?_⟩
  · have k35 : F35 = 0 := h35.2.1.symm.trans c
    obtain ⟨a1, a2, ps, pr, hps⟩ := g35 k35
    subst k35
    rw [vq_sg h35]
    refine ⟨pq_sg h35 41, sq_want h35 (fun _ c => Rq_i h35 (by have := sg_t ((if01 _).mp c); omega)) (fun s F2 e2 h2 f2 => ⟨F2, _, h2, dq_F q35 f2 ⟨rfl, rfl, rfl, rfl⟩, fun _ => pmF_t (m35 rfl) (pmE_f (pmE_F f2 ⟨rfl, rfl, rfl, rfl⟩) _), fun e => ?_, fun e => ?_⟩)⟩
    · rw [if01] at e2
      have b : aSg t j35 41 = false := bF (fun b => e (e2.mpr ⟨rfl, b⟩))
      simp [aDf1, a1, a2, hps, b]
    · rw [if01] at e2
      rw [if_pos e]
      exact ⟨a1, a2, ps, j35, pmE_R (pmE_F f2 ⟨rfl, rfl, rfl, rfl⟩) pr, hps, (e2.mp e).2, rfl⟩
  rintro σ41 - ⟨F41, j41, h41, q41, m41, n41, g41⟩
  -- =
  refine ⟨fun s => ∃ F2 j2, Rq t N s F2 j2 A ∧ dq σ s D.length (t.2.1 (i + 1)) (t.2.2 (i + 1)) ∧ (F2 = 0 → pmF σ s D.length) ∧ (¬ F2 = 0 → aDf1 t N i A = none) ∧ (F2 = 0 → aNm t (i + 1) = true ∧ aSg t (i + 2) 40 = true ∧ ∃ ps j1, pmR s D.length ps ∧ aPas t N (i + 3) = some (j1, ps) ∧ aSg t j1 41 = true ∧ aSg t (j1 + 1) 61 = true ∧ j2 = j1 + 2), ⟨fun c => ⟨F41, j41, h41, q41, m41, n41, fun e => absurd (h41.2.1.trans e) c⟩, fun c => ?_⟩, ?_⟩
  · have k41 : F41 = 0 := h41.2.1.symm.trans c
    obtain ⟨a1, a2, ps, j1, pr, hps, a3, a4⟩ := g41 k41
    subst k41
    subst a4
    rw [vq_sg h41]
    refine ⟨pq_sg h41 61, sq_want h41 (fun _ c => Rq_i h41 (by have := sg_t ((if01 _).mp c); omega)) (fun s F2 e2 h2 f2 => ⟨F2, _, h2, dq_F q41 f2 ⟨rfl, rfl, rfl, rfl⟩, fun _ => pmF_t (m41 rfl) (pmE_f (pmE_F f2 ⟨rfl, rfl, rfl, rfl⟩) _), fun e => ?_, fun e => ?_⟩)⟩
    · rw [if01] at e2
      have b : aSg t (j1 + 1) 61 = false := bF (fun b => e (e2.mpr ⟨rfl, b⟩))
      simp [aDf1, a1, a2, hps, a3, b]
    · rw [if01] at e2
      rw [if_pos e]
      exact ⟨a1, a2, ps, j1, pmE_R (pmE_F f2 ⟨rfl, rfl, rfl, rfl⟩) pr, hps, a3, (e2.mp e).2, rfl⟩
  rintro σ47 - ⟨F47, j47, h47, q47, m47, n47, g47⟩
  -- EXPR
  refine ⟨fun s => fpl s ∧ sg_g s 88 19 = D.length ∧ ((¬ sg_g s 88 29 = 0 ∧ aDf1 t N i A = none) ∨ ∃ j2 A2 q, Rq t N s 0 j2 A2 ∧ (0 ≤ q ∧ q < A2.1) ∧ aNm t (i + 1) = true ∧ aSg t (i + 2) 40 = true ∧ ∃ ps j1, aPas t N (i + 3) = some (j1, ps) ∧ aSg t j1 41 = true ∧ aSg t (j1 + 1) 61 = true ∧ (aLv t 12).1 (j1 + 2) A = some (j2, A2, q) ∧ dfR σ D ∧ (∀ (d : Nat) (x : aDf), (D ++ [(t.2.1 (i + 1), t.2.2 (i + 1), ps, q)])[d]? = some x → sg_gl s 103 d = x.1 ∧ sg_g s 104 d = x.2.1 ∧ sg_g s 105 d = x.2.2.2 ∧ pmR s d x.2.2.1)), ⟨fun c => ⟨h47.2.2.2.2.2.2, q47.2.2.2.2.trans hn, Or.inl ⟨c, n47 (fun e => c (h47.2.1.trans e))⟩⟩, fun c => ?_⟩, ?_⟩
  · have k47 : F47 = 0 := h47.2.1.symm.trans c
    obtain ⟨a1, a2, ps, j1, pr, hps, a3, a4, a5⟩ := g47 k47
    subst k47
    subst a5
    refine s_whole (h47 : Rb t N σ47 (j1 + 2) A) (fun i' A' q hE s hs hq _ f2 => ?_) (fun hE s hs hfp _ f2 => ?_)
    · rintro σ78 e78
      have h78 : Rq t N σ78 0 i' A' := by rw [e78]; exact Rq_w (hs : Rq t N s 0 i' A') (by decide) _ _
      refine ⟨h78.2.2.2.2.2.2, ?_, Or.inr ⟨i', A', q, h78, hq, a1, a2, ps, j1, hps, a3, a4, hE, hD, ?_⟩⟩
      · rw [e78, sg_gw_c _ _ _ _ _ _ (by decide), sg_F_g f2 rfl]
        exact q47.2.2.2.2.trans hn
      · have hA200 : A'.1 ≤ 200 := h78.2.2.2.2.1.2.2.1
        have qs := dq_F q47 f2 ⟨rfl, rfl, rfl, rfl⟩ |> fun z => z
        have ms := pmF_t (m47 rfl) (pmE_f (pmE_F f2 ⟨rfl, rfl, rfl, rfl⟩) _)
        have prs := pmE_R (pmE_F f2 ⟨rfl, rfl, rfl, rfl⟩) pr
        have me : pmE s σ78 := by
          intro k
          rw [e78]
          exact ⟨sg_gw_c _ _ _ _ _ _ (by decide), rfl, sg_gw_c _ _ _ _ _ _ (by decide), sg_gw_c _ _ _ _ _ _ (by decide)⟩
        intro dd x hx
        by_cases e2 : dd = D.length
        · subst e2
          rw [List.getElem?_append_right (Nat.le_refl _)] at hx
          simp at hx
          rw [← hx]
          refine ⟨?_, ?_, ?_, pmE_R me prs⟩
          · rw [e78, sg_gw']; exact qs.2.2.1
          · rw [e78, sg_gw_c _ _ _ _ _ _ (by decide)]; exact qs.2.2.2.1
          · rw [e78, sg_gw, if_pos ⟨rfl, rfl⟩, sg_id ⟨by omega, by omega⟩]
        · have hdl : dd < D.length := by
            have := (List.getElem?_eq_some_iff.mp hx).1
            simp at this
            omega
          rw [List.getElem?_append_left hdl] at hx
          obtain ⟨y1, y2, y3, y4⟩ := hD.2.2 dd x hx
          have hk : ¬ ((dd : Int) = (D.length : Int)) := by omega
          refine ⟨?_, ?_, ?_, ?_, y4.2.1, fun jj y hy => ?_⟩
          · rw [e78, sg_gw', (qs.1 _ hk).1]; exact y1
          · rw [e78, sg_gw_c _ _ _ _ _ _ (by decide), (qs.1 _ hk).2]; exact y2
          · rw [e78, sg_gw_k _ _ _ _ _ _ hk, qs.2.1]; exact y3
          · rw [(me _).1, ms.1 _ hk]; exact y4.1
          · have hjj := (List.getElem?_eq_some_iff.mp hy).1
            have h6 := y4.2.1
            have hb : 6 * (dd : Int) + jj < 6 * (D.length : Int) := by omega
            obtain ⟨z1, z2, z3⟩ := y4.2.2 jj y hy
            rw [(me _).2.1, (me _).2.2.1, (me _).2.2.2, (ms.2 _ hb).1, (ms.2 _ hb).2.1, (ms.2 _ hb).2.2]
            exact ⟨z1, z2, z3⟩
    · rintro σ78 e78
      refine ⟨?_, ?_, Or.inl ⟨?_, ?_⟩⟩
      · rw [e78]
        unfold fpl
        rw [sg_gw_c _ _ _ _ _ _ (by decide)]
        exact hfp
      · rw [e78, sg_gw_c _ _ _ _ _ _ (by decide), sg_F_g f2 rfl]
        exact q47.2.2.2.2.trans hn
      · rw [e78, sg_gw_c _ _ _ _ _ _ (by decide)]; exact hs
      · simp [aDf1, a1, a2, hps, a3, a4, hE]
  rintro σ53 - ⟨fp53, d53, g53⟩
  have fin : ∀ s, sg_g s 88 19 = D.length → sg_R ((D.length : Int) + 1) := fun _ _ => ⟨by omega, by omega⟩
  refine ⟨fun c => ⟨⟨by omega, by omega⟩, ?_⟩, fun c => ?_⟩
  · rintro σ58 rfl
    rcases g53 with ⟨-, g⟩ | ⟨j2, A2, q, hq, -⟩
    · refine k2 (Or.inr g) _ ?_ ?_
      · rw [sg_gw_k _ _ _ _ _ _ (by decide)]; exact c
      · unfold fpl
        rw [sg_gw_k _ _ _ _ _ _ (by decide)]
        exact fp53
    · exact absurd hq.2.1 c
  · rcases g53 with ⟨g, -⟩ | ⟨j2, A2, q, h53, hq, a1, a2, ps, j1, hps, a3, a4, hE, hD', rows⟩
    · exact absurd c g
    rw [vq_sg h53]
    refine ⟨pq_sg h53 59, sq_want h53 (fun _ c => Rq_i h53 (by have := sg_t ((if01 _).mp c); omega)) (fun s F2 e2 h2 f2 => ⟨⟨by omega, by omega⟩, ?_⟩)⟩
    rw [if01] at e2
    rintro σ69 e69
    by_cases e : F2 = 0
    · rw [if_pos e] at h2
      subst e
      have h69 : Rq t N σ69 0 (j2 + 1) A2 := by
        rw [e69]
        obtain ⟨h1, h2', h3', h4, h5, h6, h10⟩ := h2
        refine ⟨?_, ?_, ?_, ?_, ?_, h6, ?_⟩
        all_goals try simp only [fpl, rg_w, rg_w', Nat.reduceEqDiff, if_false, if_true, reduceIte, Int.reduceEq]
        · exact h1
        · exact h2'
        · exact h3'
        · exact h4
        · exact h5
        · exact h10
      refine k1 (j2 + 1) A2 (t.2.1 (i + 1), t.2.2 (i + 1), ps, q) hlt ?_ hq σ69 h69 ⟨?_, ?_, ?_⟩
      · simp [aDf1, a1, a2, hps, a3, a4, hE, (e2.mp rfl).2]
      · rw [e69, sg_gw, if_pos ⟨rfl, rfl⟩, sg_id ⟨by omega, by omega⟩]
        simp
      · simp; omega
      · intro dd x hx
        obtain ⟨y1, y2, y3, y4⟩ := rows dd x hx
        have me : pmE s σ69 := by
          intro k
          rw [e69]
          exact ⟨sg_gw_c _ _ _ _ _ _ (by decide), rfl, sg_gw_c _ _ _ _ _ _ (by decide), sg_gw_c _ _ _ _ _ _ (by decide)⟩
        refine ⟨?_, ?_, ?_, pmE_R (pmE_t (pmE_F f2 ⟨rfl, rfl, rfl, rfl⟩) me) y4⟩
        · rw [e69, sg_gw', sg_F_gal f2 rfl]; exact y1
        · rw [e69, sg_gw_c _ _ _ _ _ _ (by decide), sg_F_ga f2 rfl]; exact y2
        · rw [e69, sg_gw_c _ _ _ _ _ _ (by decide), sg_F_ga f2 rfl]; exact y3
    · have b : aSg t j2 59 = false := bF (fun b => e (e2.mpr ⟨rfl, b⟩))
      refine k2 (Or.inr (by simp [aDf1, a1, a2, hps, a3, a4, hE, b])) _ ?_ ?_
      · rw [e69, sg_gw_k _ _ _ _ _ _ (by decide), h2.2.1]; exact e
      · rw [e69]
        unfold fpl
        rw [sg_gw_k _ _ _ _ _ _ (by decide)]
        exact h2.2.2.2.2.2.2
end DEF
