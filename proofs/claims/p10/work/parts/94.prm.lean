/-! THE READER of the reference: PARAMS. -/
/-- the PARAMS of the DEF d in their rows -/
def pmR (σ : sg_S) (d : Int) (ps : List (Int × Int × Int)) : Prop := sg_g σ 106 d = ps.length ∧ ps.length ≤ 6 ∧ ∀ (j : Nat) (y : Int × Int × Int), ps[j]? = some y → sg_gl σ 107 (6 * d + j) = y.1 ∧ sg_g σ 108 (6 * d + j) = y.2.1 ∧ sg_g σ 109 (6 * d + j) = y.2.2
/-- what stands ahead of the DEF d stays -/
def pmF (σ σ' : sg_S) (d : Int) : Prop := (∀ k, ¬ k = d → sg_g σ' 106 k = sg_g σ 106 k) ∧ ∀ k, k < 6 * d → sg_gl σ' 107 k = sg_gl σ 107 k ∧ sg_g σ' 108 k = sg_g σ 108 k ∧ sg_g σ' 109 k = sg_g σ 109 k
theorem pmF_r (σ : sg_S) (d : Int) : pmF σ σ d := ⟨fun _ _ => rfl, fun _ _ => ⟨rfl, rfl, rfl⟩⟩
theorem pmF_t {σ σ1 σ2 : sg_S} {d : Int} (h : pmF σ σ1 d) (g : pmF σ1 σ2 d) : pmF σ σ2 d := ⟨fun k hk => (g.1 k hk).trans (h.1 k hk), fun k hk => ⟨(g.2 k hk).1.trans (h.2 k hk).1, (g.2 k hk).2.1.trans (h.2 k hk).2.1, (g.2 k hk).2.2.trans (h.2 k hk).2.2⟩⟩
/-- the rows of PARAMS are the same -/
def pmE (σ σ' : sg_S) : Prop := ∀ k, sg_g σ' 106 k = sg_g σ 106 k ∧ sg_gl σ' 107 k = sg_gl σ 107 k ∧ sg_g σ' 108 k = sg_g σ 108 k ∧ sg_g σ' 109 k = sg_g σ 109 k
theorem pmE_F {σ σ' : sg_S} {L : List Nat} (hF : sg_F L σ σ') (h : sg_ca L 106 = true ∧ sg_ca L 107 = true ∧ sg_ca L 108 = true ∧ sg_ca L 109 = true) : pmE σ σ' := fun _ => ⟨sg_F_ga hF h.1, sg_F_gal hF h.2.1, sg_F_ga hF h.2.2.1, sg_F_ga hF h.2.2.2⟩
theorem pmE_t {σ σ1 σ2 : sg_S} (h : pmE σ σ1) (g : pmE σ1 σ2) : pmE σ σ2 := fun k => ⟨(g k).1.trans (h k).1, (g k).2.1.trans (h k).2.1, (g k).2.2.1.trans (h k).2.2.1, (g k).2.2.2.trans (h k).2.2.2⟩
theorem pmE_f {σ σ' : sg_S} (h : pmE σ σ') (d : Int) : pmF σ σ' d := ⟨fun k _ => (h k).1, fun k _ => ⟨(h k).2.1, (h k).2.2.1, (h k).2.2.2⟩⟩
theorem pmE_R {σ σ' : sg_S} (h : pmE σ σ') {d : Int} {ps : List (Int × Int × Int)} (hp : pmR σ d ps) : pmR σ' d ps := ⟨by rw [(h d).1]; exact hp.1, hp.2.1, fun j y hy => by
  have := hp.2.2 j y hy
  rw [(h _).2.1, (h _).2.2.1, (h _).2.2.2]
  exact this⟩
section PRM
variable {t : aK} {N : Nat} {σ : sg_S} {F : Int} {i : Nat} {A : aT}
theorem Rq_w (h : Rq t N σ F i A) {a : Nat} (ha : 101 ≤ a) (k z : Int) : Rq t N (sg_w σ a k z) F i A := by
  obtain ⟨h1, h2, h3, h4, h5, h6, h10⟩ := h
  have c : ∀ b : Nat, b ≤ 100 → sg_g (sg_w σ a k z) b = sg_g σ b := fun b hb => by rw [rg_w, if_neg (by omega)]
  unfold Rq fpl
  rw [c 90 (by omega), c 91 (by omega), c 93 (by omega), c 94 (by omega), c 96 (by omega), c 97 (by omega), c 98 (by omega), c 100 (by omega), c 88 (by omega)]
  exact ⟨h1, h2, h3, h4, h5, h6, h10⟩
theorem Rq_wl (h : Rq t N σ F i A) {a : Nat} (ha : 101 ≤ a) (k z : Int) : Rq t N (sg_wl σ a k z) F i A := by
  obtain ⟨h1, h2, h3, h4, h5, h6, h10⟩ := h
  have c : ∀ b : Nat, b ≤ 100 → sg_gl (sg_wl σ a k z) b = sg_gl σ b := fun b hb => by rw [rg_wl, if_neg (by omega)]
  unfold Rq fpl
  rw [c 92 (by omega), c 95 (by omega), c 99 (by omega)]
  exact ⟨h1, h2, h3, h4, h5, h6, h10⟩
theorem s_params {Q : sg_S → Prop} {d : Nat} (hd : d < 12) (h : Rq t N σ 0 i A) (h0 : sg_g σ 106 d = 0) (k1 : ∀ i' ps, aPas t N i = some (i', ps) → ∀ σ', Rq t N σ' 0 i' A → pmR σ' d ps → pmF σ σ' d → Q σ') (k2 : aPas t N i = none → ∀ σ' F' i', ¬ F' = 0 → Rq t N σ' F' i' A → Q σ') : V_readParams σ d Q := by
  unfold V_readParams
  rw [vq_sg h]
  refine ⟨pq_sg h 41, ?_⟩
  rintro v4 e4 -
  have e4' : v4 = if aSg t i 41 = true then 0 else 1 := by
    rw [e4]
    cases aSg t i 41 <;> simp
  refine ⟨fun m v s => ∃ F j, Rq t N s F j A ∧ (¬ F = 0 → aPas t N i = none) ∧ (F = 0 → ∃ ps, pmR s d ps ∧ pmF σ s d ∧ (v = 0 ∧ aPas t N i = some (j, ps) ∨ v = 1 ∧ aPas t N i = aPaL t N (6 - ps.length) ps j)) ∧ (F = 0 → ¬ v = 0 → ∃ ps, pmR s d ps ∧ m = 8 - ps.length), fun s => ∃ F j, Rq t N s F j A ∧ (¬ F = 0 → aPas t N i = none) ∧ (F = 0 → ∃ ps, pmR s d ps ∧ pmF σ s d ∧ aPas t N i = some (j, ps)), ⟨8, 0, i, h, fun e => absurd rfl e, fun _ => ⟨[], ⟨by simpa using h0, by simp, fun j y hy => by simp at hy⟩, pmF_r _ _, ?_⟩, fun _ _ => ⟨[], ⟨by simpa using h0, by simp, fun j y hy => by simp at hy⟩, rfl⟩⟩, ?_, ?_⟩
  · by_cases c : aSg t i 41 = true
    · exact Or.inl ⟨by rw [e4', if_pos c], by simp [aPas, c]⟩
    · exact Or.inr ⟨by rw [e4', if_neg c], by simp [aPas, c]⟩
  · rintro m v s hv - ⟨F, j, hj, b1, b2, b3⟩
    refine ⟨fun c => ⟨F, j, hj, b1, fun e => ?_⟩, fun c => ⟨fun c2 => ⟨F, j, hj, b1, fun e => absurd (hj.2.1.trans e) c2⟩, fun c2 => ?_⟩⟩
    · obtain ⟨ps, p1, p2, p3⟩ := b2 e
      rcases p3 with p3 | p3
      · exact ⟨ps, p1, p2, p3.2⟩
      · omega
    · have hF : F = 0 := hj.2.1.symm.trans c2
      subst hF
      obtain ⟨ps, p1, p2, p3⟩ := b2 rfl
      obtain ⟨ps', p1', hm⟩ := b3 rfl c
      have hps : ps'.length = ps.length := by
        have a1 := p1.1
        have a2 := p1'.1
        omega
      have hP : aPas t N i = aPaL t N (6 - ps.length) ps j := by
        rcases p3 with p3 | p3
        · exact absurd p3.1 c
        · exact p3.2
      have ht := Rq_t hj
      have hpl := p1.2.1
      have e91' : sg_g σ 91 (sg_g s 88 7) = t.2.2 j := by rw [hj.2.2.1]; exact (h.1.2.1 j ht.2.2.2.2.2.1).2.1
      rw [p1.1]
      refine ⟨⟨by omega, by omega⟩, fun c6 => ?_, fun c6 => ⟨⟨ht.2.2.2.1, ht.2.2.2.2.1⟩, sq_wrong hj (by rw [e91']; exact hj.1.2.2.2.2 j hj.2.2.2.1) (fun s' F' hF' h' _ => k2 ?_ s' F' j hF' h')⟩⟩
      · have hlt : ps.length < 6 := by omega
        have e91 : sg_g σ 91 (sg_g s 88 7) = t.2.2 j := by rw [hj.2.2.1]; exact (h.1.2.1 j ht.2.2.2.2.2.1).2.1
        have e92 : sg_gl σ 92 (sg_g s 88 7) = t.2.1 j := by rw [hj.2.2.1]; exact (h.1.2.1 j ht.2.2.2.2.2.1).2.2
        have hwr : sg_RL (t.2.1 j) := by rw [← ht.2.2.1]; exact sg_Rgl _ _ _
        have hpr : sg_R (t.2.2 j) := by rw [← ht.2.1]; exact sg_Rg _ _ _
        refine ⟨⟨by omega, by omega⟩, ⟨by omega, by omega⟩, ⟨ht.2.2.2.1, ht.2.2.2.2.1⟩, ⟨by omega, by omega⟩, ?_⟩
        rw [e91, e92]
        obtain ⟨g, hg⟩ : ∃ g, 6 - ps.length = g + 1 := ⟨6 - ps.length - 1, by omega⟩
        rintro σ30 e30 σ33 e33
        have h33 : Rq t N σ33 0 j A := by rw [e33, e30]; exact Rq_w (Rq_wl hj (by decide) _ _) (by decide) _ _
        -- the rows behind the two writings
        have r33 : (∀ k, sg_g σ33 106 k = sg_g s 106 k) ∧ (∀ k, ¬ k = 6 * (d : Int) + ps.length → sg_gl σ33 107 k = sg_gl s 107 k ∧ sg_g σ33 108 k = sg_g s 108 k) ∧ sg_gl σ33 107 (6 * (d : Int) + ps.length) = t.2.1 j ∧ sg_g σ33 108 (6 * (d : Int) + ps.length) = t.2.2 j ∧ ∀ k, sg_g σ33 109 k = sg_g s 109 k := by
          rw [e33, e30]
          refine ⟨fun k => ?_, fun k hk => ⟨?_, ?_⟩, ?_, ?_, fun k => ?_⟩
          · rw [sg_gw_c _ _ _ _ _ _ (by decide), sg_gwl']
          · rw [sg_gw', sg_gwl_k _ _ _ _ _ _ hk]
          · rw [sg_gw_k _ _ _ _ _ _ hk, sg_gwl']
          · rw [sg_gw', sg_gwl, if_pos ⟨rfl, rfl⟩, sg_idl hwr]
          · rw [sg_gw, if_pos ⟨rfl, rfl⟩, sg_id hpr]
          · rw [sg_gw_c _ _ _ _ _ _ (by decide), sg_gwl']
        clear e30 e33
        rw [vq_nm hj]
        refine ⟨pq_nm hj, sq_want h33 (fun _ c => Rq_i hj (by have := nm_t ((if01 _).mp c); omega)) (fun σ38 F38 e38 h38 f38 => ?_)⟩
        rw [if01] at e38
        have m38 := pmE_F f38 ⟨rfl, rfl, rfl, rfl⟩
        refine ⟨fun s2 => ∃ F2 j2, Rq t N s2 F2 j2 A ∧ pmE σ33 s2 ∧ (F2 = 0 ↔ aNm t j = true ∧ aSg t (j + 1) 58 = true) ∧ (F2 = 0 → j2 = j + 2), ⟨fun c => ⟨F38, _, h38, m38, ?_, fun e => absurd (h38.2.1.trans e) c⟩, fun c => ?_⟩, ?_⟩
        · refine ⟨fun e => absurd (h38.2.1.trans e) c, fun e => absurd ((h38.2.1).trans (e38.mpr ⟨rfl, e.1⟩)) c⟩
        · have k38 : F38 = 0 := h38.2.1.symm.trans c
          rw [if_pos k38] at h38
          subst k38
          rw [vq_sg h38]
          refine ⟨pq_sg h38 58, sq_want h38 (fun _ c => Rq_i h38 (by have := sg_t ((if01 _).mp c); omega)) (fun σ90 F90 e90 h90 f90 => ⟨F90, _, h90, pmE_t m38 (pmE_F f90 ⟨rfl, rfl, rfl, rfl⟩), ?_, fun e => by rw [if_pos e]⟩)⟩
          rw [if01] at e90
          exact ⟨fun e => ⟨(e38.mp rfl).2, (e90.mp e).2⟩, fun e => e90.mpr ⟨rfl, e.2⟩⟩
        · rintro σ46 - ⟨F46, j46, h46, m46, e46, g46⟩
          refine ⟨fun s2 => ∃ F2 j2, Rq t N s2 F2 j2 A ∧ (¬ F2 = 0 → aPas t N i = none) ∧ (F2 = 0 → ∃ ty, aNm t j = true ∧ aSg t (j + 1) 58 = true ∧ aTy t N (j + 2) = some (j2, ty) ∧ pmR s2 d (ps ++ [(t.2.1 j, t.2.2 j, ty)]) ∧ pmF s s2 d), ⟨fun c => ⟨F46, j46, h46, fun _ => ?_, fun e => absurd (h46.2.1.trans e) c⟩, fun c => ?_⟩, ?_⟩
          · rw [hP, hg]
            have : ¬ (aNm t j = true ∧ aSg t (j + 1) 58 = true) := fun e => c (h46.2.1.trans (e46.mpr e))
            by_cases a : aNm t j = true
            · have b : ¬ aSg t (j + 1) 58 = true := fun b => this ⟨a, b⟩
              simp [aPaL, a, b]
            · simp [aPaL, a]
          · have k46 : F46 = 0 := h46.2.1.symm.trans c
            have j46e := g46 k46
            subst k46
            subst j46e
            obtain ⟨a1, a2⟩ := e46.mp rfl
            refine s_type h46 (fun i' ty hty hr σ76 h76 _ f76 => ?_) (fun hty q σ76 F76 i' hF h76 _ f76 => ?_)
            · rintro σ81 e81
              refine ⟨⟨by omega, by omega⟩, ?_⟩
              rintro σ85 e85
              have h85 : Rq t N σ85 0 i' A := by rw [e85, e81]; exact Rq_w (Rq_w h76 (by decide) _ _) (by decide) _ _
              have m76 := pmE_t m46 (pmE_F f76 ⟨rfl, rfl, rfl, rfl⟩)
              refine ⟨0, i', h85, fun e => absurd rfl e, fun _ => ⟨ty, a1, a2, hty, ⟨?_, ?_, ?_⟩, ?_⟩⟩
              · rw [e85, sg_gw, if_pos ⟨rfl, rfl⟩, sg_id ⟨by omega, by omega⟩]
                simp
              · simp; omega
              · intro jj y hy
                rw [e85, e81]
                by_cases e2 : jj = ps.length
                · subst e2
                  rw [List.getElem?_append_right (Nat.le_refl _)] at hy
                  simp at hy
                  rw [← hy]
                  refine ⟨?_, ?_, ?_⟩
                  · rw [sg_gw', sg_gw', (m76 _).2.1]
                    exact r33.2.2.1
                  · rw [sg_gw_c _ _ _ _ _ _ (by decide), sg_gw_c _ _ _ _ _ _ (by decide), (m76 _).2.2.1]
                    exact r33.2.2.2.1
                  · rw [sg_gw_c _ _ _ _ _ _ (by decide), sg_gw, if_pos ⟨rfl, rfl⟩, sg_id ⟨by omega, by omega⟩]
                · have hj2 : jj < ps.length := by
                    have := (List.getElem?_eq_some_iff.mp hy).1
                    simp at this
                    omega
                  rw [List.getElem?_append_left hj2] at hy
                  have hk : ¬ (6 * (d : Int) + jj = 6 * (d : Int) + ps.length) := by omega
                  obtain ⟨y1, y2, y3⟩ := p1.2.2 jj y hy
                  refine ⟨?_, ?_, ?_⟩
                  · rw [sg_gw', sg_gw', (m76 _).2.1, (r33.2.1 _ hk).1]; exact y1
                  · rw [sg_gw_c _ _ _ _ _ _ (by decide), sg_gw_c _ _ _ _ _ _ (by decide), (m76 _).2.2.1, (r33.2.1 _ hk).2]; exact y2
                  · rw [sg_gw_c _ _ _ _ _ _ (by decide), sg_gw_k _ _ _ _ _ _ hk, (m76 _).2.2.2, r33.2.2.2.2]; exact y3
              · rw [e85, e81]
                refine ⟨fun k hk => ?_, fun k hk => ⟨?_, ?_, ?_⟩⟩
                · rw [sg_gw_k _ _ _ _ _ _ hk, sg_gw_c _ _ _ _ _ _ (by decide), (m76 _).1, r33.1]
                · rw [sg_gw', sg_gw', (m76 _).2.1, (r33.2.1 k (by omega)).1]
                · rw [sg_gw_c _ _ _ _ _ _ (by decide), sg_gw_c _ _ _ _ _ _ (by decide), (m76 _).2.2.1, (r33.2.1 k (by omega)).2]
                · rw [sg_gw_c _ _ _ _ _ _ (by decide), sg_gw_k _ _ _ _ _ _ (by omega), (m76 _).2.2.2, r33.2.2.2.2]
            · rintro σ81 e81
              refine ⟨⟨by omega, by omega⟩, ?_⟩
              rintro σ85 e85
              have h85 : Rq t N σ85 F76 i' A := by rw [e85, e81]; exact Rq_w (Rq_w h76 (by decide) _ _) (by decide) _ _
              refine ⟨F76, i', h85, fun _ => ?_, fun e => absurd e hF⟩
              rw [hP, hg]
              simp [aPaL, a1, a2, hty]
          · rintro σ52 - ⟨F52, j52, h52, b52, c52⟩
            rw [h52.2.1, vq_sg h52]
            refine ⟨⟨fun _ => trivial, fun _ => ⟨pq_sg h52 44, fun _ => trivial, fun _ => trivial⟩⟩, ?_⟩
            rintro v57 e57 -
            refine ⟨fun s2 => ∃ F2 j2, Rq t N s2 F2 j2 A ∧ (¬ F2 = 0 → aPas t N i = none) ∧ (F2 = 0 → ∃ ps2, ps2.length = ps.length + 1 ∧ pmR s2 d ps2 ∧ pmF s s2 d ∧ (v57 = 0 ∧ aPas t N i = some (j2, ps2) ∨ v57 = 1 ∧ aPas t N i = aPaL t N (6 - ps2.length) ps2 j2)), ⟨fun c => ⟨F52, j52, h52, b52, fun e => ?_⟩, fun c => ?_⟩, ?_⟩
            · obtain ⟨ty, a1, a2, a3, a4, a5⟩ := c52 e
              refine ⟨_, by simp, a4, a5, Or.inl ⟨c, ?_⟩⟩
              have c44 : aSg t j52 44 = false := by
                rw [e57, e] at c
                cases hh : aSg t j52 44 with
                | false => rfl
                | true => rw [hh] at c; simp at c
              rw [hP, hg]
              simp [aPaL, a1, a2, a3, c44]
            · have hv57 : F52 = 0 ∧ aSg t j52 44 = true ∧ v57 = 1 := by
                rw [e57] at c ⊢
                by_cases e : F52 = 0
                · rw [e] at c ⊢
                  cases hh : aSg t j52 44 with
                  | false => rw [hh] at c; simp at c
                  | true => simp
                · simp [e] at c
              obtain ⟨k52, c44, v1⟩ := hv57
              obtain ⟨ty, a1, a2, a3, a4, a5⟩ := c52 k52
              refine sq_want h52 (fun _ _ => Rq_i h52 (by have := sg_t c44; omega)) (fun s2 F2 e2 h2 f2 => ?_)
              have k2 : F2 = 0 := by omega
              rw [if_pos k2] at h2
              have m2 := pmE_F f2 ⟨rfl, rfl, rfl, rfl⟩
              refine ⟨F2, _, h2, fun e => absurd k2 e, fun _ => ⟨_, by simp, pmE_R m2 a4, pmF_t a5 (pmE_f m2 _), Or.inr ⟨v1, ?_⟩⟩⟩
              rw [hP, hg]
              simp [aPaL, a1, a2, a3, c44, show 6 - (ps.length + 1) = g by omega]
            · rintro σ63 - ⟨F63, j63, h63, b63, c63⟩
              refine ⟨m - 1, by omega, F63, j63, h63, b63, fun e => ?_, fun e c => ?_⟩
              · obtain ⟨ps2, q1, q2, q3, q4⟩ := c63 e
                exact ⟨ps2, q2, pmF_t p2 q3, q4⟩
              · obtain ⟨ps2, q1, q2, q3, q4⟩ := c63 e
                exact ⟨ps2, q2, by rw [hm, hps, q1, Nat.sub_sub]⟩
      · rw [hP, show 6 - ps.length = 0 by omega]
        rfl
  · rintro s - ⟨F, j, hj, b1, b2⟩
    by_cases e : F = 0
    · obtain ⟨ps, p1, p2, p3⟩ := b2 e
      subst e
      exact k1 j ps p3 s hj p1 p2
    · exact k2 (b1 e) s F j e hj
end PRM
