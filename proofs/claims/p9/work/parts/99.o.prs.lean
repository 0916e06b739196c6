/-! The class's parse is pParse. -/
theorem tk_st (z : Value) (σ : sg_S) (b : Int) (c : tkC) (hc : tkOK c) (hb : tb σ = c.1) (hg : sg_gl σ 37 = c.2.2.1) (hn : b = c.2.1) (h7 : (sg_gl σ 36 7, sg_g σ 36 6) = c.2.2.2) (h8 : sg_g σ 35 3 = -1) : wx z 5 199 0 [(0, .inr (.inr (.ref 36))), (1, .inl b)] [] σ (fun v σ' => v = none ∧ sg_F [3036, 4036, 5036, 6036, 7036, 8036] σ σ' ∧ tk c σ' 0) := by
  have hc1 := hc.1
  have hc2 := hc.2.1
  refine wk_b tt_199 10 (pc' := 18) (ls' := [(0, .inr (.inr (.ref 36))), (1, .inl b)]) (st' := [.inr (.inr (.ref 36))]) (σ' := sg_w (sg_w (sg_w σ 36 2 b) 36 3 0) 36 4 256) rfl ?_
  generalize hσ : sg_w (sg_w (sg_w σ 36 2 b) 36 3 0) 36 4 256 = σ1
  have hF1 : sg_F [3036, 4036, 5036] σ σ1 := by rw [← hσ]; exact sg_F_w (sg_F_w (sg_F_w (sg_F_r _ σ) rfl _) rfl _) rfl _
  have e2 : sg_g σ1 36 2 = b := by rw [← hσ, sg_gw_k _ _ _ _ _ _ (by decide), sg_gw_k _ _ _ _ _ _ (by decide), sg_gw_e _ _ _ _ ⟨by omega, by omega⟩]
  have e3 : sg_g σ1 36 3 = 0 := by rw [← hσ, sg_gw_k _ _ _ _ _ _ (by decide), sg_gw_e _ _ _ _ (by decide)]
  have e4 : sg_g σ1 36 4 = 256 := by rw [← hσ, sg_gw_e _ _ _ _ (by decide)]
  have hb1 : tb σ1 = c.1 := by rw [← hb]; exact tb_eq (fun q => sg_F_ga hF1 rfl)
  have hg1 : sg_gl σ1 37 = c.2.2.1 := by rw [← hg]; exact funext (fun q => sg_F_gal hF1 rfl)
  have h71 : sg_gl σ1 36 7 = c.2.2.2.1 := by rw [← h7]; exact sg_F_gl hF1 rfl
  have h72 : sg_g σ1 36 6 = c.2.2.2.2 := by rw [← h7]; exact sg_F_g hF1 rfl
  have h81 : sg_g σ1 35 3 = -1 := by rw [← h8]; exact sg_F_ga hF1 rfl
  refine wk_call tt_199 rfl rfl rfl rfl rfl tt_195 rfl (by decide) (tk_adv z σ1 (by omega) (by omega) (by omega) (by omega)) (fun w σ' hq => ?_)
  obtain ⟨rfl, hF, g1, g2, g3, g4, g5, g6⟩ := hq
  refine wk_rV tt_199 rfl rfl ?_
  rw [hb1, e2, hn, e3] at g1 g2 g3 g4 g5 g6
  rw [hg1] at g2
  refine ⟨rfl, sg_F_t (sg_F_m hF1 rfl) (sg_F_m hF rfl), ?_, ?_, ?_, g3, g2, g1, fun hn9 => ?_, ?_, ?_⟩
  · rw [← hb1]; exact tb_eq (fun q => sg_F_ga hF rfl)
  · rw [← hg1]; exact funext (fun q => sg_F_gal hF rfl)
  · rw [sg_F_g hF rfl, e2, hn]
  · show sg_gl σ' 36 7 = tWd c 0 c.2.2.2.1
    unfold tWd
    by_cases e : tPl c 0 < c.2.1 ∧ lx_l (c.1 (tPl c 0)) = true
    · rw [if_pos e]
      refine g4 e.1 e.2 ?_
      refine Decidable.byContradiction (fun h8 => hn9 ?_)
      have hd : ¬ lx_d (c.1 (tPl c 0)) = true := fun q => by
        have q1 := of_decide_eq_true q
        have q2 := of_decide_eq_true e.2
        omega
      unfold tK lx_kind
      rw [if_neg (by have := e.1; omega), if_neg hd, if_pos e.2, if_pos (show lx_end c.1 c.2.1 lx_a (tPl c 0) - tPl c 0 > 8 from by have h9 : ¬ (lx_end c.1 c.2.1 lx_a (tPl c 0) - tPl c 0 ≤ 8) := h8; omega)]
    · rw [if_neg e, g5 e, h71]
  · rw [sg_F_ga hF rfl, h81]
  · rw [g6, h72]; rfl
/-- expect END -/
theorem px_expE (z : Value) (σ : sg_S) (c : tkC) (hc : tkOK c) (i : Nat) (hk : tk c σ i) : wx z 5 173 0 [(0, .inr (.inr (.ref 35))), (1, .inl 256)] [] σ (fun v σ' => v = none ∧ sg_F [4035, 5036] σ σ' ∧ ((tK c i = 256 ∧ tk c σ' i) ∨ (¬ tK c i = 256 ∧ jm σ'))) := by
  refine wk_b tt_173 4 (pc' := 8) (ls' := [(0, .inr (.inr (.ref 35))), (1, .inl 256)]) (st' := [.inl 256, .inl ((sg_g σ 36 4))]) (σ' := σ) rfl ?_
  have r1 := tK_r hc (i)
  rw [show (sg_g σ 36 4) = (tK c (i)) from by rw [hk.2.2.2.2.1]]
  refine wk_if2 tt_173 (tgt := 18) rfl rfl (by omega) (by decide) (fun (h2 : (tK c (i)) = 256) => ?_) (fun (h2 : ¬ (tK c (i)) = 256) => ?_)
  ·
    refine wk_b tt_173 2 (pc' := 22) (ls' := [(0, .inr (.inr (.ref 35))), (1, .inl 256)]) (st' := [.inl (256), .inl 256]) (σ' := σ) rfl ?_
    refine wk_if2 tt_173 (tgt := 32) rfl rfl (by decide) (by decide) (fun _ => ?_) (fun (h3 : ¬ (256 : Int) = 256) => absurd rfl h3)
    refine wk_rV tt_173 rfl rfl ?_
    exact ⟨rfl, sg_F_r _ σ, Or.inl ⟨h2, hk⟩⟩
  ·
    refine wk_b tt_173 1 (pc' := 12) (ls' := [(0, .inr (.inr (.ref 35))), (1, .inl 256)]) (st' := [.inr (.inr (.ref 35))]) (σ' := σ) rfl ?_
    refine wk_call tt_173 rfl rfl rfl rfl rfl tt_175 rfl (by decide) (px_failR z σ c hc (i) hk) (fun w9 σ10 hq11 => ?_)
    obtain ⟨rfl, hF12, hj13⟩ := hq11
    refine wk_b tt_173 1 (pc' := 32) (ls' := [(0, .inr (.inr (.ref 35))), (1, .inl 256)]) (st' := []) (σ' := σ10) rfl ?_
    refine wk_rV tt_173 rfl rfl ?_
    exact ⟨rfl, sg_F_m hF12 rfl, Or.inr ⟨h2, hj13⟩⟩
abbrev pL2 : List Nat := [3, 4, 5, 6, 7, 8, 9, 10, 11, 12, 13, 14, 15, 16, 17, 18, 20, 21, 22, 23, 24, 25, 26, 27, 4035, 5035, 3036, 4036, 5036, 6036, 7036, 8036, 9019, 17002]
def prQ (c : tkC) (r : Option (sg_S × Int)) (σ : sg_S) (v : Option bm_V) (σ' : sg_S) : Prop := ∃ q, v = some (.inl q) ∧ sg_F pL2 σ σ' ∧ ((∃ τ' k, r = some (τ', k) ∧ sg_R k ∧ q = -1 ∧ te σ' τ' ∧ sg_g σ' 35 4 = k) ∨ (r = none ∧ 0 ≤ q ∧ sg_R q))
/-- parse from EXPR on, past a fault -/
theorem pr_J (z : Value) (σ σ5 : sg_S) (b v : Int) (c : tkC) (d : Nat) (hF : sg_F pL2 σ σ5) (hj : jm σ5) : wx z (d + 10) 183 71 [(0, .inr (.inr (.ref 35))), (1, .inl b), (2, .inl v)] [] σ5 (prQ c none σ) := by
  refine wk_b tt_183 3 (pc' := 74) (ls' := [(0, .inr (.inr (.ref 35))), (1, .inl b), (2, .inl v)]) (st' := [.inl 0, .inr (.inr (.ref 35)), .inr (.inr (.ref 35))]) (σ' := σ5) rfl ?_
  refine wk_call tt_183 rfl rfl rfl rfl rfl tt_174 rfl (by omega) (pj_expression z σ5 (0) hj) (fun w29 σ6 hq31 => ?_)
  obtain ⟨q, rfl, hF6, hj6⟩ := hq31
  refine wk_b tt_183 3 (pc' := 84) (ls' := [(0, .inr (.inr (.ref 35))), (1, .inl b), (2, .inl v)]) (st' := [.inl 256, .inr (.inr (.ref 35))]) (σ' := sg_w σ6 35 4 q) rfl ?_
  refine wk_call tt_183 rfl rfl rfl rfl rfl tt_173 rfl (by omega) (pj_exp z (sg_w σ6 35 4 q) 256 ⟨by rw [sg_gw_c _ _ _ _ _ _ (by decide)]; exact hj6.1, by rw [sg_gw_k _ _ _ _ _ _ (by decide)]; exact hj6.2⟩ (by decide)) (fun w σ7 hq => ?_)
  obtain ⟨rfl, hF7, hj7⟩ := hq
  refine wk_b tt_183 2 (pc' := 91) (ls' := [(0, .inr (.inr (.ref 35))), (1, .inl b), (2, .inl v)]) (st' := [.inl (sg_g σ7 35 3)]) (σ' := σ7) rfl ?_
  refine wk_rI tt_183 rfl rfl ?_
  exact ⟨_, rfl, sg_F_t (sg_F_w (sg_F_t hF (sg_F_m hF6 rfl)) rfl _) (sg_F_m hF7 rfl), Or.inr ⟨rfl, hj7.2, sg_Rg _ _ _⟩⟩
/-- parse from EXPR on -/
theorem pr_R (z : Value) (σ σ5 τ5 : sg_S) (b v : Int) (c : tkC) (hc : tkOK c) (i : Nat) (d : Nat) (E : pF) (hE : cE c d 174 0 (fun _ => True) E) (hF : sg_F pL2 σ σ5) (ht : te σ5 τ5) (hk : tk c σ5 i) : wx z (d + 10) 183 71 [(0, .inr (.inr (.ref 35))), (1, .inl b), (2, .inl v)] [] σ5 (prQ c (pRest c E (some (i, τ5))) σ) := by
  refine wk_b tt_183 3 (pc' := 74) (ls' := [(0, .inr (.inr (.ref 35))), (1, .inl b), (2, .inl v)]) (st' := [.inl 0, .inr (.inr (.ref 35)), .inr (.inr (.ref 35))]) (σ' := σ5) rfl ?_
  refine wk_call tt_183 rfl rfl rfl rfl rfl tt_174 rfl (by omega) (hE z σ5 i τ5 ht hk trivial) (fun w29 σ6 hq31 => ?_)
  obtain ⟨q, rfl, hF6, hq⟩ := hq31
  refine wk_b tt_183 3 (pc' := 84) (ls' := [(0, .inr (.inr (.ref 35))), (1, .inl b), (2, .inl v)]) (st' := [.inl 256, .inr (.inr (.ref 35))]) (σ' := sg_w σ6 35 4 q) rfl ?_
  have hFw : sg_F [5035] σ6 (sg_w σ6 35 4 q) := sg_F_w (sg_F_r _ _) rfl _
  have hF8 : sg_F pL2 σ (sg_w σ6 35 4 q) := sg_F_w (sg_F_t hF (sg_F_m hF6 rfl)) rfl _
  rcases hq with ⟨i1, τ1, he, rq, ht1, hk1⟩ | ⟨he, hj6⟩
  · have hk2 : tk c (sg_w σ6 35 4 q) i1 := by
      obtain ⟨k1, k2, k3, k4, k5, k6, k7, k8, k9⟩ := hk1
      exact ⟨(tb_eq (fun q => sg_F_ga hFw rfl)).trans k1, k2, by rw [sg_F_ga hFw rfl]; exact k3, by rw [sg_F_ga hFw rfl]; exact k4, by rw [sg_F_ga hFw rfl]; exact k5, by rw [sg_F_ga hFw rfl]; exact k6, fun h => by rw [sg_F_gal hFw rfl]; exact k7 h, by rw [sg_F_g hFw rfl]; exact k8, by rw [sg_F_ga hFw rfl]; exact k9⟩
    refine wk_call tt_183 rfl rfl rfl rfl rfl tt_173 rfl (by omega) (px_expE z (sg_w σ6 35 4 q) c hc i1 hk2) (fun w σ7 hq => ?_)
    obtain ⟨rfl, hF7, hq⟩ := hq
    refine wk_b tt_183 2 (pc' := 91) (ls' := [(0, .inr (.inr (.ref 35))), (1, .inl b), (2, .inl v)]) (st' := [.inl (sg_g σ7 35 3)]) (σ' := σ7) rfl ?_
    refine wk_rI tt_183 rfl rfl ?_
    refine ⟨_, rfl, sg_F_t hF8 (sg_F_m hF7 rfl), ?_⟩
    rcases hq with ⟨h256, hk7⟩ | ⟨h256, hj7⟩
    · left
      refine ⟨τ1, q, by simp only [pRest, he, h256, if_true], rq, hk7.2.2.2.2.2.2.2.1, te_F (te_F ht1 hFw rfl) hF7 rfl, ?_⟩
      rw [sg_F_g hF7 rfl, sg_gw_e _ _ _ _ rq]
    · right
      exact ⟨by simp only [pRest, he, h256, if_false], hj7.2, sg_Rg _ _ _⟩
  · refine wk_call tt_183 rfl rfl rfl rfl rfl tt_173 rfl (by omega) (pj_exp z (sg_w σ6 35 4 q) 256 ⟨by rw [sg_gw_c _ _ _ _ _ _ (by decide)]; exact hj6.1, by rw [sg_gw_k _ _ _ _ _ _ (by decide)]; exact hj6.2⟩ (by decide)) (fun w σ7 hq => ?_)
    obtain ⟨rfl, hF7, hj7⟩ := hq
    refine wk_b tt_183 2 (pc' := 91) (ls' := [(0, .inr (.inr (.ref 35))), (1, .inl b), (2, .inl v)]) (st' := [.inl (sg_g σ7 35 3)]) (σ' := σ7) rfl ?_
    refine wk_rI tt_183 rfl rfl ?_
    exact ⟨_, rfl, sg_F_t hF8 (sg_F_m hF7 rfl), Or.inr ⟨by simp only [pRest, he], hj7.2, sg_Rg _ _ _⟩⟩
/-- the loop's test past a fault -/
theorem pr_K (z : Value) (σ σ5 : sg_S) (b v : Int) (c : tkC) (d : Nat) (hv : 0 ≤ v ∧ v ≤ 13) (hF : sg_F pL2 σ σ5) (hj : jm σ5) : wx z (d + 10) 183 31 [(0, .inr (.inr (.ref 35))), (1, .inl b), (2, .inl v)] [] σ5 (prQ c none σ) := by
  refine wk_b tt_183 2 (pc' := 34) (ls' := [(0, .inr (.inr (.ref 35))), (1, .inl b), (2, .inl v)]) (st' := [.inl 12, .inl v]) (σ' := σ5) rfl ?_
  refine wk_if2 tt_183 (tgt := 71) rfl rfl (by omega) (by decide) (fun _ => pr_J z σ σ5 b v c d hF hj) (fun _ => ?_)
  refine wk_b tt_183 4 (pc' := 47) (ls' := [(0, .inr (.inr (.ref 35))), (1, .inl b), (2, .inl v)]) (st' := [.inl 261, .inl (sg_g σ5 36 4)]) (σ' := σ5) rfl ?_
  rw [hj.1]
  exact wk_if2 tt_183 (tgt := 71) rfl rfl (by decide) (by decide) (fun _ => pr_J z σ σ5 b v c d hF hj) (fun (h : (260 : Int) = 261) => absurd h (by decide))
/-- round again past a fault -/
theorem pr_L (z : Value) (σ σ5 : sg_S) (b v : Int) (c : tkC) (d : Nat) (hv : 0 ≤ v ∧ v ≤ 12) (hF : sg_F pL2 σ σ5) (hj : jm σ5) : wx z (d + 10) 183 65 [(0, .inr (.inr (.ref 35))), (1, .inl b), (2, .inl v)] [] σ5 (prQ c none σ) := by
  refine wk_b tt_183 2 (pc' := 31) (ls' := [(2, .inl (v + 1)), (0, .inr (.inr (.ref 35))), (1, .inl b)]) (st' := []) (σ' := σ5) rfl ?_
  exact wk_ls [(0, .inr (.inr (.ref 35))), (1, .inl b), (2, .inl (v + 1))] rfl ⟨rfl, rfl, rfl, trivial⟩ (pr_K z σ σ5 b (v + 1) c d (by omega) hF hj)
theorem pr_lp (z : Value) (σ : sg_S) (b : Int) (c : tkC) (hc : tkOK c) (d : Nat) (E : pF) (hE : cE c d 174 0 (fun _ => True) E) : ∀ (m : Nat) (σ5 : sg_S) (v : Int) (i : Nat) (τ5 : sg_S), sg_F pL2 σ σ5 → te σ5 τ5 → tk c σ5 i → v + m = 13 → 0 ≤ v → wx z (d + 10) 183 31 [(0, .inr (.inr (.ref 35))), (1, .inl b), (2, .inl v)] [] σ5 (prQ c (pRest c E (pDefs c E m i τ5)) σ)
  | 0, σ5, v, i, τ5, hF, ht, hk, hm, h0 => by
    refine wk_b tt_183 2 (pc' := 34) (ls' := [(0, .inr (.inr (.ref 35))), (1, .inl b), (2, .inl v)]) (st' := [.inl 12, .inl v]) (σ' := σ5) rfl ?_
    refine wk_if2 tt_183 (tgt := 71) rfl rfl (by omega) (by decide) (fun _ => ?_) (fun (h : v ≤ 12) => absurd h (by omega))
    exact pr_R z σ σ5 τ5 b v c hc i d E hE hF ht hk
  | m + 1, σ5, v, i, τ5, hF, ht, hk, hm, h0 => by
    have ev : v = 12 - (m : Int) := by omega
    refine wk_b tt_183 2 (pc' := 34) (ls' := [(0, .inr (.inr (.ref 35))), (1, .inl b), (2, .inl v)]) (st' := [.inl 12, .inl v]) (σ' := σ5) rfl ?_
    refine wk_if2 tt_183 (tgt := 71) rfl rfl (by omega) (by decide) (fun (h : 12 < v) => absurd h (by omega)) (fun (h : v ≤ 12) => ?_)
    refine wk_b tt_183 4 (pc' := 47) (ls' := [(0, .inr (.inr (.ref 35))), (1, .inl b), (2, .inl v)]) (st' := [.inl 261, .inl (sg_g σ5 36 4)]) (σ' := σ5) rfl ?_
    have r1 := tK_r hc i
    rw [show (sg_g σ5 36 4) = (tK c i) from by rw [hk.2.2.2.2.1]]
    refine wk_if2 tt_183 (tgt := 71) rfl rfl (by omega) (by decide) (fun (h1 : ¬ tK c i = 261) => ?_) (fun (h1 : tK c i = 261) => ?_)
    · rw [pDefs, if_neg h1]
      exact pr_R z σ σ5 τ5 b v c hc i d E hE hF ht hk
    · rw [pDefs, if_pos h1, ← ev]
      refine wk_b tt_183 2 (pc' := 52) (ls' := [(0, .inr (.inr (.ref 35))), (1, .inl b), (2, .inl v)]) (st' := [.inl v, .inr (.inr (.ref 35))]) (σ' := σ5) rfl ?_
      refine wk_call tt_183 rfl rfl rfl rfl rfl tt_187 rfl (by omega) (px_ttl c hc d v (by omega) z σ5 i τ5 ht hk h1) (fun w σ6 hq => ?_)
      obtain ⟨rfl, hF6, hq⟩ := hq
      have hG6 : sg_F pL2 σ σ6 := sg_F_t hF (sg_F_m hF6 rfl)
      refine wk_b tt_183 2 (pc' := 57) (ls' := [(0, .inr (.inr (.ref 35))), (1, .inl b), (2, .inl v)]) (st' := [.inl v, .inr (.inr (.ref 35))]) (σ' := σ6) rfl ?_
      rcases hq with ⟨i6, τ6, e6, ht6, hk6⟩ | ⟨e6, hj6⟩
      · rw [e6]
        simp only
        refine wk_call tt_183 rfl rfl rfl rfl rfl tt_182 rfl (by omega) (px_prm c hc d v (by omega) z σ6 i6 τ6 ht6 hk6 trivial) (fun w σ7 hq => ?_)
        obtain ⟨rfl, hF7, hq⟩ := hq
        have hG7 : sg_F pL2 σ σ7 := sg_F_t hG6 (sg_F_m hF7 rfl)
        refine wk_b tt_183 2 (pc' := 62) (ls' := [(0, .inr (.inr (.ref 35))), (1, .inl b), (2, .inl v)]) (st' := [.inl v, .inr (.inr (.ref 35))]) (σ' := σ7) rfl ?_
        rcases hq with ⟨i7, τ7, e7, ht7, hk7⟩ | ⟨e7, hj7⟩
        · rw [e7]
          simp only
          refine wk_call tt_183 rfl rfl rfl rfl rfl tt_181 rfl (by omega) (px_mea c hc d v (by omega) E hE z σ7 i7 τ7 ht7 hk7 trivial) (fun w σ8 hq => ?_)
          obtain ⟨rfl, hF8, hq⟩ := hq
          have hG8 : sg_F pL2 σ σ8 := sg_F_t hG7 (sg_F_m hF8 rfl)
          rcases hq with ⟨i8, τ8, e8, ht8, hk8⟩ | ⟨e8, hj8⟩
          · rw [e8]
            simp only
            refine wk_b tt_183 2 (pc' := 31) (ls' := [(2, .inl (v + 1)), (0, .inr (.inr (.ref 35))), (1, .inl b)]) (st' := []) (σ' := σ8) rfl ?_
            exact wk_ls [(0, .inr (.inr (.ref 35))), (1, .inl b), (2, .inl (v + 1))] rfl ⟨rfl, rfl, rfl, trivial⟩ (pr_lp z σ b c hc d E hE m σ8 (v + 1) i8 τ8 hG8 ht8 hk8 (by omega) (by omega))
          · rw [e8]
            exact pr_L z σ σ8 b v c d (by omega) hG8 hj8
        · rw [e7]
          refine wk_call tt_183 rfl rfl rfl rfl rfl tt_181 rfl (by omega) (pj_mea z σ7 v hj7) (fun w σ8 hq => ?_)
          obtain ⟨rfl, hF8, hj8⟩ := hq
          exact pr_L z σ σ8 b v c d (by omega) (sg_F_t hG7 (sg_F_m hF8 rfl)) hj8
      · rw [e6]
        refine wk_call tt_183 rfl rfl rfl rfl rfl tt_182 rfl (by omega) (pj_prm z σ6 v hj6) (fun w σ7 hq => ?_)
        obtain ⟨rfl, hF7, hj7⟩ := hq
        have hG7 : sg_F pL2 σ σ7 := sg_F_t hG6 (sg_F_m hF7 rfl)
        refine wk_b tt_183 2 (pc' := 62) (ls' := [(0, .inr (.inr (.ref 35))), (1, .inl b), (2, .inl v)]) (st' := [.inl v, .inr (.inr (.ref 35))]) (σ' := σ7) rfl ?_
        refine wk_call tt_183 rfl rfl rfl rfl rfl tt_181 rfl (by omega) (pj_mea z σ7 v hj7) (fun w σ8 hq => ?_)
        obtain ⟨rfl, hF8, hj8⟩ := hq
        exact pr_L z σ σ8 b v c d (by omega) (sg_F_t hG7 (sg_F_m hF8 rfl)) hj8
theorem px_prs (z : Value) (σ : sg_S) (b : Int) (c : tkC) (hc : tkOK c) (d : Nat) (E : pF) (hE : cE c d 174 0 (fun _ => True) E) (τ : sg_S) (ht : te σ τ) (hb : tb σ = c.1) (hg : sg_gl σ 37 = c.2.2.1) (hn : b = c.2.1) (h7 : (sg_gl σ 36 7, sg_g σ 36 6) = c.2.2.2) : wx z (d + 10) 183 0 [(0, .inr (.inr (.ref 35))), (1, .inl b)] [] σ (prQ c (pParse c E τ) σ) := by
  refine wk_b tt_183 14 (pc' := 26) (ls' := [(0, .inr (.inr (.ref 35))), (1, .inl b)]) (st' := [.inl b, .inr (.inr (.ref 36))]) (σ' := sg_w (sg_w (sg_w σ 2 16 0) 19 8 0) 35 3 (-1)) rfl ?_
  generalize hσ : sg_w (sg_w (sg_w σ 2 16 0) 19 8 0) 35 3 (-1) = σ1
  have hF1 : sg_F [17002, 9019, 4035] σ σ1 := by rw [← hσ]; exact sg_F_w (sg_F_w (sg_F_w (sg_F_r _ σ) rfl _) rfl _) rfl _
  have ht1 : te σ1 (sg_w (sg_w τ 2 16 0) 19 8 0) := by
    rw [← hσ]
    exact te_F (L := [4035]) (ag_w (ag_w ht _ _ _) _ _ _) (sg_F_w (sg_F_r _ _) rfl _) rfl
  have e3 : sg_g σ1 35 3 = -1 := by rw [← hσ, sg_gw_e _ _ _ _ (by decide)]
  refine wk_call tt_183 rfl rfl rfl rfl rfl tt_199 rfl (by omega) (tk_st z σ1 b c hc (by rw [← hb]; exact tb_eq (fun q => sg_F_ga hF1 rfl)) (by rw [← hg]; exact funext (fun q => sg_F_gal hF1 rfl)) hn (by rw [← h7]; exact Prod.ext (sg_F_gal hF1 rfl) (sg_F_ga hF1 rfl)) e3) (fun w σ2 hq => ?_)
  obtain ⟨rfl, hF2, hk2⟩ := hq
  refine wk_b tt_183 2 (pc' := 31) (ls' := [(2, .inl 0), (0, .inr (.inr (.ref 35))), (1, .inl b)]) (st' := []) (σ' := σ2) rfl ?_
  exact wk_ls [(0, .inr (.inr (.ref 35))), (1, .inl b), (2, .inl 0)] rfl ⟨rfl, rfl, rfl, trivial⟩ (pr_lp z σ b c hc d E hE 13 σ2 0 0 _ (sg_F_t (sg_F_m hF1 rfl) (sg_F_m hF2 rfl)) (te_F ht1 hF2 rfl) hk2 (by decide) (by decide))
