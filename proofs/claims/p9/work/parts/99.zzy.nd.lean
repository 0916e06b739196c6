/-! read of the class, once more: NAMES, jumps and numbers. -/
theorem prs_ok3 (z : Value) (σ : sg_S) (b : Int) {c : tkC} {t : aK} {N : Nat} (hB : tkB c t N) (hb : tb σ = c.1) (hg : sg_gl σ 37 = c.2.2.1) (hn : b = c.2.1) (h7 : (sg_gl σ 36 7, sg_g σ 36 6) = c.2.2.2) : wx z 894 183 0 [(0, .inr (.inr (.ref 35))), (1, .inl b)] [] σ (fun v σ' => ∃ q, v = some (.inl q) ∧ sg_F pL2 σ σ' ∧ ((∃ τ' A D k Rs, aPg t N aE0 = some (A, D, k) ∧ q = -1 ∧ te σ' τ' ∧ sg_g σ' 35 4 = k ∧ cS τ' A 0 (k :: Rs) ∧ cD2 τ' D ∧ nmR τ' A) ∨ (0 ≤ q ∧ sg_R q))) := by
  have hE := (px_lv c hB.1 12 (Nat.le_refl _)).1
  refine wk_post (px_prs z σ b c hB.1 884 (pLv c 12).1 hE σ (fun _ _ _ => ⟨rfl, rfl⟩) hb hg hn h7) ?_
  rintro v σ' ⟨q, rfl, hF, hq⟩
  refine ⟨q, rfl, hF, ?_⟩
  rcases pg_ok hB σ with ⟨x1, x2⟩ | ⟨τ', A, D, k, Rs, x1, x2, x3, x4, x5⟩
  · rcases hq with ⟨τ', k, y1, -⟩ | ⟨-, y2⟩
    · rw [x1] at y1; cases y1
    · exact Or.inr y2
  · rcases hq with ⟨τ2, k2, y1, y2, y3, y4, y5⟩ | ⟨y1, -⟩
    · rw [x1] at y1; cases y1
      exact Or.inl ⟨τ', A, D, k, Rs, x2, y3, y4, y5, x3, x4, nm_ok hB x1 x2 x3⟩
    · rw [x1] at y1; cases y1
theorem c_readV {σ : sg_S} {c : tkC} {t : aK} {N : Nat} {Q : Int → sg_S → Prop} (hB : tkB c t N) (hV : wT t) (hb : tb σ = c.1) (hg : sg_gl σ 37 = c.2.2.1) (hn : sg_g σ 0 8 = c.2.1) (h7 : (sg_gl σ 36 7, sg_g σ 36 6) = c.2.2.2) (k1 : ∀ q σ', sg_g σ' 0 10 = 0 → Q q σ') (k2 : ∀ q σ' A D k, aPg t N aE0 = some (A, D, k) → (ckA3 σ' A D k ∨ ¬ sg_g σ' 38 13 = 0) → nmR σ' A → sg_g σ' 0 10 = 1 → Q q σ') : V_cRead σ Q := by
  unfold V_cRead
  intro σ1 e1
  unfold V_cForget45
  intro σ5 e5 f5
  unfold V_cForget61
  intro σ11 e11 f11
  have F11 : sg_F [11000, 12045, 12061] σ σ11 := by rw [e11, e5, e1]; exact sg_F_w (sg_F_w (sg_F_w (sg_F_r _ _) rfl _) rfl _) rfl _
  have p11 : sg_g σ11 0 10 = 0 := by rw [e11, sg_gw_c _ _ _ _ _ _ (by decide), e5, sg_gw_c _ _ _ _ _ _ (by decide), e1, sg_gw_e _ _ _ _ (by decide)]
  unfold V_cParse
  intro z
  refine wk_post (prs_ok3 z σ11 (sg_g σ 0 8) hB (by rw [← hb]; exact tb_eq (fun q => sg_F_ga F11 rfl)) (by rw [← hg]; exact funext (fun q => sg_F_gal F11 rfl)) hn (by rw [← h7]; exact Prod.ext (sg_F_gal F11 rfl) (sg_F_ga F11 rfl))) ?_
  rintro v σ17 ⟨q, rfl, hF, hq⟩
  refine ⟨q, rfl, ?_, sg_F_m hF rfl, ?_⟩
  · rcases hq with ⟨-, -, -, -, -, -, h1, -⟩ | ⟨-, h1⟩
    · rw [h1]; decide
    · exact h1
  intro rq f17 v24 e24 r24 σ27 e27
  have s27 : ∀ σ33, sg_F [6, 16, 24, 29, 30, 31, 32, 33, 34, 39, 40, 41, 42, 43, 44, 7028, 10000, 10038, 11038, 12038, 13038, 14038] σ27 σ33 → sg_g σ33 0 10 = 0 := fun σ33 f33 => by
    rw [sg_F_g f33 (by rfl), e27, sg_gw_k _ _ _ _ _ _ (by decide), sg_F_g f17 (by rfl)]; exact p11
  rcases hq with ⟨τ', A, D, k, Rs, x1, x2, x3, x4, x5, x6, x7⟩ | ⟨x2, x3⟩
  · have hc := w_pg hV x1 wA_0
    have hp := t_pg x1 ⟨Int.le_refl _, by decide⟩
    have hp2 := t_pg2 x1 ⟨Int.le_refl _, by decide⟩ rfl
    have f27 : sg_F [10000] σ17 σ27 := by rw [e27]; exact sg_F_w (sg_F_r _ _) rfl _
    have W27 := ckW_F (te_W x3 x5 hc.1) f27 rfl
    have D27 := cD2_F (te_D x3 x6) f27 rfl
    have n27 : nmR σ27 A := fun j z0 z1 z => by
      have e5 : sg_g σ17 5 j = sg_g τ' 5 j := ag_g x3 rfl j
      rw [sg_F_ga f27 rfl, e5]
      exact x7 j z0 z1 z
    refine ⟨fun v σ33 => (ckA3 σ33 A D k ∨ ¬ sg_g σ33 38 13 = 0) ∧ sg_F [6, 16, 24, 29, 30, 31, 32, 33, 34, 39, 40, 41, 42, 43, 44, 7028, 10000, 10038, 11038, 12038, 13038, 14038] σ27 σ33, ⟨fun h => absurd h (by omega), fun _ => ?_⟩, ?_⟩
    · rw [x4]
      refine d3_check W27 D27 hp.1 hc.2 hp2 (fun p σ' y1 rp f' σ51 e51 => ?_) (fun p σ' y1 y2 y3 rp f' σ51 e51 => ?_)
      · have f51 : sg_F [10000] σ' σ51 := by rw [e51]; exact sg_F_w (sg_F_r _ _) rfl _
        exact ⟨Or.inr (by rw [sg_F_g f51 (by rfl)]; exact y1), sg_F_t (sg_F_m f' rfl) (sg_F_m f51 rfl)⟩
      · have f51 : sg_F [10000] σ' σ51 := by rw [e51]; exact sg_F_w (sg_F_r _ _) rfl _
        exact ⟨Or.inl (ckA3_F y2 f51 rfl), sg_F_t (sg_F_m f' rfl) (sg_F_m f51 rfl)⟩
    · intro v35 σ33 r35 f33 h33
      have u1 := s27 σ33 f33
      refine ⟨fun h => ?_, fun h => k1 _ σ33 u1⟩
      intro σ39 e39 σ42 e42
      have f42 : sg_F [9000, 11000] σ33 σ42 := by rw [e42, e39]; exact sg_F_w (sg_F_w (sg_F_r _ _) rfl _) rfl _
      have F42 : sg_F [6, 16, 24, 29, 30, 31, 32, 33, 34, 39, 40, 41, 42, 43, 44, 7028, 9000, 10000, 10038, 11000, 11038, 12038, 13038, 14038] σ27 σ42 := sg_F_t (sg_F_m f33 rfl) (sg_F_m f42 rfl)
      refine k2 _ σ42 A D k x1 ?_ (fun j z0 z1 z => by rw [sg_F_ga F42 rfl]; exact n27 j z0 z1 z) ?_
      · rcases h33.1 with y | y
        · exact Or.inl (ckA3_F y f42 rfl)
        · exact Or.inr (by rw [sg_F_g f42 (by rfl)]; exact y)
      · rw [e42, sg_gw_k _ _ _ _ _ _ (by decide), e39, sg_gw_e _ _ _ _ (by decide)]
  · refine ⟨fun v σ33 => 0 ≤ v, ⟨fun _ => x2, fun h => absurd h (by omega)⟩, ?_⟩
    intro v35 σ33 r35 f33 h33
    exact ⟨fun h => absurd h (by omega), fun _ => k1 _ σ33 (s27 σ33 f33)⟩
/-- what is laid out depends on what the rows hold -/
theorem ckA3_H {σ1 σ2 : sg_S} {A : aT} {D : List aDf} {r : Int} (h : ckA3 σ1 A D r) (hfr : frA A (aRt D ++ [r])) (e : sg_H am_Sh0 σ1 = sg_H am_Sh0 σ2) : ckA3 σ2 A D r := by
  obtain ⟨LA, f1, f2, f3, -⟩ := hfr
  have row : ∀ r' ∈ aRt D ++ [r], ∃ L, fT A [r'] L ∧ ∀ y ∈ L, 0 ≤ y := fun r' hr => by
    obtain ⟨Lr, a1, a2⟩ := fT_kid f1 hr
    exact ⟨Lr, a1, fun y hy => (f3 y (a2 y hy)).1⟩
  have go : ∀ (ds : kD) (es : kE) (r' p : Int), r' ∈ aRt D ++ [r] → rsN σ1 A ds 201 es r' → jpN σ1 A 201 r' p → rsN σ2 A ds 201 es r' ∧ jpN σ2 A 201 r' p := fun ds es r' p hr h1 h2 => by
    obtain ⟨L, g1, g2⟩ := row r' hr
    exact ⟨rsN_st 201 _ _ L g1 (fun y hy => (sgH_row (a := 16) rfl e y (g2 y hy)).symm) h1, jpN_st 201 _ _ L g1 (fun y hy => ⟨(sgH_row (a := 32) rfl e y (g2 y hy)).symm, (sgH_row (a := 33) rfl e y (g2 y hy)).symm⟩) h2⟩
  refine ⟨fun j x hx => ?_, ?_⟩
  · obtain ⟨r1, r2⟩ := h.1 j x hx
    have e24 : sg_g σ2 24 j = sg_g σ1 24 j := (sgH_row (a := 24) rfl e j (Int.natCast_nonneg _)).symm
    have e31 : sg_g σ2 31 j = sg_g σ1 31 j := (sgH_row (a := 31) rfl e j (Int.natCast_nonneg _)).symm
    unfold dR3
    rw [e24, e31]
    exact go _ _ _ _ (List.mem_append_left _ (by unfold aRt; exact List.mem_map.mpr ⟨x, List.mem_of_getElem? hx, rfl⟩)) r1 r2
  · have e31 : sg_g σ2 31 12 = sg_g σ1 31 12 := (sgH_row (a := 31) rfl e 12 (by decide)).symm
    rw [e31]
    exact go _ _ _ _ (List.mem_append_right _ (by simp)) h.2.1 h.2.2
/-- a PROGRAM of the class stands, ready for both runs -/
def clR (σ : sg_S) (A : aT) (D : List aDf) (k : Int) : Prop := ckW σ A ∧ cD2 σ D ∧ frA A (aRt D ++ [k]) ∧ (∀ x ∈ D, ∀ p ∈ x.2.2.1, 0 ≤ p.2.2) ∧ (∃ T Tf, kPg A D k T = some Tf ∧ ∀ x, 0 ≤ x → sg_g σ 6 x = Tf x) ∧ ckA σ A D.length k ∧ jPg σ A D k ∧ ckA3 σ A D k ∧ nmR σ A ∧ sg_g σ 35 4 = k
theorem clR_fl {σ : sg_S} {A : aT} {D : List aDf} {k : Int} (h : clR σ A D k) : flR σ := by
  obtain ⟨b2, b3, b4, b5, ⟨T, Tf, t1, t2⟩, b6, b7, b8, b9, b10⟩ := h
  refine ⟨A, D, k, b2, b3, b4, ?_, b6, b7, b10⟩
  obtain ⟨L, f1, f2, f3, -⟩ := id b4
  have h := tyP (T2 := sg_g σ 6) (B2 := kBo A (kDl D []) 201 [] k (kDB A D [] 0 (fun _ => 0))) D [] 0 T Tf (fun _ => 0) L f1 f2 f3 (fun d hd => by simp at hd) (fun c hc => by simp at hc) b5 t1 (fun x hx => t2 x (f3 x hx).1) (fun _ _ => rfl) (fun c hc => by simp at hc)
  exact ⟨fun j x hx => ⟨_, _, _, (h.1 j x hx).1⟩, _, _, _, h.2⟩
def okP8 (L : List Nat) : Bool := okP2 L && (sg_ca L 5 && sg_ca L 32 && sg_ca L 33)
theorem clR_F {L : List Nat} {σ σ' : sg_S} {A : aT} {D : List aDf} {k : Int} (h : clR σ A D k) (f : sg_F L σ σ') (hL : okP8 L = true) : clR σ' A D k := by
  unfold okP8 okP2 at hL
  simp only [Bool.and_eq_true, Bool.not_eq_true'] at hL
  obtain ⟨⟨⟨⟨l1, l2⟩, l3⟩, ⟨l4, l5⟩, l6⟩, ⟨l7, l8⟩, l9⟩ := hL
  obtain ⟨a1, a2, a3, a4, ⟨T, Tf, t1, t2⟩, a5, a6, a7, a8, a9⟩ := h
  obtain ⟨⟨⟨⟨⟨⟨⟨⟨⟨m1, m2⟩, m3⟩, m4⟩, m5⟩, m6⟩, m7⟩, m8⟩, m9⟩, m10⟩ := id l3
  refine ⟨ckW_F a1 f l1, cD2_F a2 f (by simp only [Bool.and_eq_true, Bool.not_eq_true']; exact l2), a3, a4, ⟨T, Tf, t1, fun x hx => by rw [sg_F_ga f m1]; exact t2 x hx⟩, ckA_F a5 f (by simp only [Bool.and_eq_true]; exact l3), jPg_e a6 (fun j => ⟨sg_F_ga f l4, sg_F_ga f l5⟩), ckA3_F a7 f (by simp only [Bool.and_eq_true]; exact ⟨⟨⟨⟨m2, m5⟩, m9⟩, l8⟩, l9⟩), fun j z0 z1 z => by rw [sg_F_ga f l7]; exact a8 j z0 z1 z, by rw [sg_F_g f l6]; exact a9⟩
/-- read of the class -/
def rd8 (t : aK) (N : Nat) (σ σ' : sg_S) : Prop := (¬ accP t N ∧ sg_g σ' 0 10 = 0 ∧ sg_g σ' 0 8 = sg_g σ 0 8) ∨ (accP t N ∧ sg_g σ' 0 10 = 1 ∧ sg_g σ' 0 8 = 0 ∧ ∃ A D k, aPg t N aE0 = some (A, D, k) ∧ clR σ' A D k)
theorem cr8 (z : Value) (σ : sg_S) {c : tkC} {t : aK} {N : Nat} (hB : tkB c t N) (hV : wT t) (hb : tb σ = c.1) (hg : sg_gl σ 37 = c.2.2.1) (hn : sg_g σ 0 8 = c.2.1) (h7 : (sg_gl σ 36 7, sg_g σ 36 6) = c.2.2.2) : wx z 895 23 0 [(0, .inr (.inr (.ref 0)))] [] σ (fun v σ' => (∃ q, v = some (.inl q) ∧ sg_R q ∧ sg_F [3, 4, 5, 6, 7, 8, 9, 10, 11, 12, 13, 14, 15, 16, 17, 18, 20, 21, 22, 23, 24, 25, 26, 27, 29, 30, 31, 32, 33, 34, 39, 40, 41, 42, 43, 44, 3036, 4035, 4036, 5035, 5036, 6036, 7028, 7036, 8036, 9000, 9019, 10000, 10038, 11000, 11038, 12038, 12045, 12061, 13038, 14038, 17002] σ σ' ∧ rd8 t N σ σ') ∧ ∀ t' N', tkB c t' N' → wT t' → (sg_g σ' 0 10 = 0 ∨ lnk t' N' σ')) := by
  have r1 := w_cRead z σ (fun _ σ' => (¬ accP t N ∧ sg_g σ' 0 10 = 0 ∧ sg_g σ' 0 8 = sg_g σ 0 8) ∨ (accP t N ∧ sg_g σ' 0 10 = 1 ∧ sg_g σ' 0 8 = 0 ∧ sg_g σ' 38 13 = 0 ∧ ∃ A D k T, aPg t N aE0 = some (A, D, k) ∧ kPg A D k T = some (sg_g σ' 6))) (c_readT hB hV hb hg hn h7 (fun q σ' a b d => Or.inl ⟨a, b, d⟩) (fun q σ' A D k T a b d e f g => Or.inr ⟨e, f, g, d, A, D, k, T, a, b⟩))
  have r2 := w_cRead z σ (fun _ σ' => sg_g σ' 0 10 = 0 ∨ (sg_g σ' 0 10 = 1 ∧ ∃ A D k, aPg t N aE0 = some (A, D, k) ∧ ckW σ' A ∧ cD2 σ' D ∧ frA A (aRt D ++ [k]) ∧ (∀ x ∈ D, ∀ p ∈ x.2.2.1, 0 ≤ p.2.2) ∧ (ckA σ' A D.length k ∨ ¬ sg_g σ' 38 13 = 0) ∧ jPg σ' A D k ∧ sg_g σ' 35 4 = k)) (c_readS hB hV hb hg hn h7 (fun q σ' a => Or.inl a) (fun q σ' A D k a b d e f g i j l => Or.inr ⟨l, A, D, k, a, b, d, e, f, g, i, j⟩))
  have r3 := w_cRead z σ (fun _ σ' => sg_g σ' 0 10 = 0 ∨ (sg_g σ' 0 10 = 1 ∧ ∃ A D k, aPg t N aE0 = some (A, D, k) ∧ (ckA3 σ' A D k ∨ ¬ sg_g σ' 38 13 = 0) ∧ nmR σ' A)) (c_readV hB hV hb hg hn h7 (fun q σ' a => Or.inl a) (fun q σ' A D k a b d l => Or.inr ⟨l, A, D, k, a, b, d⟩))
  refine wk_post (wk_and (cr_lnk z σ hB hV hb hg hn h7) (wk_and r1 (wk_and r3 r2))) ?_
  rintro v σ' ⟨⟨⟨⟨q, e1, e2, e3, q2⟩, v3, σ3, ⟨_, _, _, _, q3⟩, H3⟩, v1, σ1, ⟨_, _, _, _, q1⟩, H1⟩, v0, σ0, ⟨⟨_, _, _, _, -⟩, L0⟩, H0⟩
  have h10 : sg_g σ1 0 10 = sg_g σ' 0 10 := sgH_fd (a := 0) (k := 10) rfl rfl H1
  have h8 : sg_g σ1 0 8 = sg_g σ' 0 8 := sgH_fd (a := 0) (k := 8) rfl rfl H1
  have h38 : sg_g σ1 38 13 = sg_g σ' 38 13 := sgH_fd (a := 38) (k := 13) rfl rfl H1
  have h10b : sg_g σ3 0 10 = sg_g σ' 0 10 := sgH_fd (a := 0) (k := 10) rfl rfl H3
  have h38b : sg_g σ3 38 13 = sg_g σ' 38 13 := sgH_fd (a := 38) (k := 13) rfl rfl H3
  have h10c : sg_g σ0 0 10 = sg_g σ' 0 10 := sgH_fd (a := 0) (k := 10) rfl rfl H0
  refine ⟨⟨q, e1, e2, e3, ?_⟩, fun t' N' b1 b2 => ?_⟩
  · rcases q1 with ⟨a1, a2, a3⟩ | ⟨a1, a2, a3, a4, A, D, k, T, a5, a6⟩
    · exact Or.inl ⟨a1, by rw [← h10]; exact a2, by rw [← h8]; exact a3⟩
    · right
      rw [h10] at a2
      rw [h8] at a3
      rw [h38] at a4
      refine ⟨a1, a2, a3, A, D, k, a5, ?_⟩
      rcases q2 with y | ⟨-, A', D', k', b1, b2, b3, b4, b5, b6, b7, b8⟩
      · rw [y] at a2; cases a2
      · rw [a5] at b1
        cases b1
        rcases q3 with y | ⟨-, A', D', k', c1, c2, c3⟩
        · rw [h10b] at y
          rw [y] at a2; cases a2
        · rw [a5] at c1
          cases c1
          refine ⟨b2, b3, b4, b5, ⟨T, sg_g σ1 6, a6, fun x hx => (sgH_row (a := 6) rfl H1 x hx).symm⟩, b6.resolve_right (fun y => y a4), b7, ?_, fun n n0 n1 z => ?_, b8⟩
          · exact ckA3_H (c2.resolve_right (fun y => y (by rw [h38b]; exact a4))) b4 H3
          · rw [← sgH_row (a := 5) rfl H3 n n0]; exact c3 n n0 n1 z
  · rcases L0 t' N' b1 b2 with y | y
    · exact Or.inl (by rw [← h10c]; exact y)
    · exact Or.inr (lnk_H y H0)
