/-! read of the class: all that a flat run goes along. -/
theorem prs_ok2 (z : Value) (σ : sg_S) (b : Int) {c : tkC} {t : aK} {N : Nat} (hB : tkB c t N) (hb : tb σ = c.1) (hg : sg_gl σ 37 = c.2.2.1) (hn : b = c.2.1) (h7 : (sg_gl σ 36 7, sg_g σ 36 6) = c.2.2.2) : wx z 894 183 0 [(0, .inr (.inr (.ref 35))), (1, .inl b)] [] σ (fun v σ' => ∃ q, v = some (.inl q) ∧ sg_F pL2 σ σ' ∧ ((∃ τ' A D k Rs, aPg t N aE0 = some (A, D, k) ∧ q = -1 ∧ te σ' τ' ∧ sg_g σ' 35 4 = k ∧ cS τ' A 0 (k :: Rs) ∧ cD2 τ' D ∧ jPg τ' A D k) ∨ (0 ≤ q ∧ sg_R q))) := by
  have hE := (px_lv c hB.1 12 (Nat.le_refl _)).1
  refine wk_post (px_prs z σ b c hB.1 884 (pLv c 12).1 hE σ (fun _ _ _ => ⟨rfl, rfl⟩) hb hg hn h7) ?_
  rintro v σ' ⟨q, rfl, hF, hq⟩
  refine ⟨q, rfl, hF, ?_⟩
  rcases pg_ok hB σ with ⟨x1, x2⟩ | ⟨τ', A, D, k, Rs, x1, x2, x3, x4, x5⟩
  · rcases hq with ⟨τ', k, y1, -⟩ | ⟨-, y2⟩
    · rw [x1] at y1; cases y1
    · exact Or.inr y2
  · rcases hq with ⟨τ2, k2, y1, y2, y3, y4, y5⟩ | ⟨y1, -⟩
    · rw [x1] at y1; cases y1
      exact Or.inl ⟨τ', A, D, k, Rs, x2, y3, y4, y5, x3, x4, j_pg hB x1 x2⟩
    · rw [x1] at y1; cases y1
/-- two runs of one method from one state -/
theorem wk_and {E : am_E} {T : List am_M} {Sh : List sg_Sh} {d j pc : Nat} {ls : bm_L} {st : List bm_V} {σ : sg_S} {Q1 Q2 : Option bm_V → sg_S → Prop} (h1 : wk E T Sh d j pc ls st σ Q1) (h2 : wk E T Sh d j pc ls st σ Q2) : wk E T Sh d j pc ls st σ (fun v σ' => Q2 v σ' ∧ ∃ v1 σ1, Q1 v1 σ1 ∧ sg_H Sh σ1 = sg_H Sh σ') := by
  obtain ⟨v1, σ1, ⟨n1, r1⟩, q1⟩ := h1
  obtain ⟨v2, σ2, ⟨n2, r2⟩, q2⟩ := h2
  have a := am_ex_same (n' := max n1 n2) (d' := d) (Nat.le_max_left ..) (Nat.le_refl _) r1
  have b := am_ex_same (n' := max n1 n2) (d' := d) (Nat.le_max_right ..) (Nat.le_refl _) r2
  rw [a] at b
  have e := Option.some.inj b
  exact ⟨v2, σ2, ⟨n2, r2⟩, q2, v1, σ1, q1, (Prod.mk.inj e).2⟩
theorem sgH_6 {σ1 σ2 : sg_S} (h : sg_H am_Sh0 σ1 = sg_H am_Sh0 σ2) : ∀ x, 0 ≤ x → sg_g σ1 6 x = sg_g σ2 6 x := fun x hx => by
  have e : ∀ σ : sg_S, (sg_H am_Sh0 σ)[6]? = some (sg_cell σ 6 (.inl (0, 200))) := fun σ => sg_at rfl
  have q := (e σ1).symm.trans ((congrArg (fun (H : am_H) => H[6]?) h).trans (e σ2))
  have q2 := Option.some.inj q
  simp only [sg_cell] at q2
  rw [if_neg (by decide), if_neg (by decide)] at q2
  have q3 := Sum.inl.inj q2
  have q4 := (Prod.mk.inj (Prod.mk.inj q3).2).2
  have q5 := congrFun q4 x.toNat
  have q6 : σ1.1 6 x = σ2.1 6 x := by
    have : ((x.toNat : Nat) : Int) = x := by omega
    rw [this] at q5
    exact q5
  unfold sg_g
  rw [q6]
theorem sgH_fd {a k ci : Nat} {tp : List Value} {v : Int32} {σ1 σ2 : sg_S} (hs : sg_sh am_Sh0 a = some (.inr (ci, tp))) (hk : tp[k]? = some (.int v)) (h : sg_H am_Sh0 σ1 = sg_H am_Sh0 σ2) : sg_g σ1 a (k : Int) = sg_g σ2 a (k : Int) := by
  have e : ∀ σ : sg_S, (sg_H am_Sh0 σ)[a]? = some (sg_cell σ a (.inr (ci, tp))) := fun σ => sg_at hs
  have q := (e σ1).symm.trans ((congrArg (fun (H : am_H) => H[a]?) h).trans (e σ2))
  have q2 := Option.some.inj q
  simp only [sg_cell] at q2
  have q3 := Sum.inr.inj (Sum.inr.inj q2)
  have q4 := (Prod.mk.inj q3).2
  have q5 := congrArg (fun l : List Value => l[k]?) q4
  have f : ∀ σ : sg_S, (List.mapIdx (fun k v => sg_fd σ a k v) tp)[k]? = some (.int (σ.1 a (k : Int))) := fun σ => by
    rw [List.getElem?_mapIdx, hk]; rfl
  have q6 := (f σ1).symm.trans (q5.trans (f σ2))
  have q7 := Value.int.inj (Option.some.inj q6)
  unfold sg_g
  rw [q7]
/-- a PROGRAM stands, ready for flat runs -/
def flR (σ : sg_S) : Prop := ∃ A D k, ckW σ A ∧ cD2 σ D ∧ frA A (aRt D ++ [k]) ∧ ((∀ (j : Nat) (x : aDf), D[j]? = some x → ∃ ds B sc, tyN A ds (sg_g σ 6) B 201 sc x.2.2.2) ∧ ∃ ds B sc, tyN A ds (sg_g σ 6) B 201 sc k) ∧ ckA σ A D.length k ∧ jPg σ A D k ∧ sg_g σ 35 4 = k
/-- what read leaves: types -/
theorem c_readT {σ : sg_S} {c : tkC} {t : aK} {N : Nat} {Q : Int → sg_S → Prop} (hB : tkB c t N) (hV : wT t) (hb : tb σ = c.1) (hg : sg_gl σ 37 = c.2.2.1) (hn : sg_g σ 0 8 = c.2.1) (h7 : (sg_gl σ 36 7, sg_g σ 36 6) = c.2.2.2) (k1 : ∀ q σ', ¬ accP t N → sg_g σ' 0 10 = 0 → sg_g σ' 0 8 = sg_g σ 0 8 → Q q σ') (k2 : ∀ q σ' A D k T, aPg t N aE0 = some (A, D, k) → kPg A D k T = some (sg_g σ' 6) → sg_g σ' 38 13 = 0 → accP t N → sg_g σ' 0 10 = 1 → sg_g σ' 0 8 = 0 → Q q σ') : V_cRead σ Q := by
  unfold V_cRead
  intro σ1 e1
  unfold V_cForget45
  intro σ5 e5 f5
  unfold V_cForget61
  intro σ11 e11 f11
  have F11 : sg_F [11000, 12045, 12061] σ σ11 := by rw [e11, e5, e1]; exact sg_F_w (sg_F_w (sg_F_w (sg_F_r _ _) rfl _) rfl _) rfl _
  have p11 : sg_g σ11 0 10 = 0 := by rw [e11, sg_gw_c _ _ _ _ _ _ (by decide), e5, sg_gw_c _ _ _ _ _ _ (by decide), e1, sg_gw_e _ _ _ _ (by decide)]
  have s11 : sg_g σ11 0 8 = sg_g σ 0 8 := sg_F_g F11 rfl
  unfold V_cParse
  intro z
  refine wk_post (prs_ok z σ11 (sg_g σ 0 8) hB (by rw [← hb]; exact tb_eq (fun q => sg_F_ga F11 rfl)) (by rw [← hg]; exact funext (fun q => sg_F_gal F11 rfl)) hn (by rw [← h7]; exact Prod.ext (sg_F_gal F11 rfl) (sg_F_ga F11 rfl))) ?_
  rintro v σ17 ⟨q, rfl, hF, hq⟩
  refine ⟨q, rfl, ?_, sg_F_m hF rfl, ?_⟩
  · rcases hq with ⟨-, -, -, -, -, -, h1, -⟩ | ⟨-, -, h1⟩
    · rw [h1]; decide
    · exact h1
  intro rq f17 v24 e24 r24 σ27 e27
  have s27 : ∀ σ33, sg_F [6, 16, 24, 29, 30, 31, 32, 33, 34, 39, 40, 41, 42, 43, 44, 7028, 10000, 10038, 11038, 12038, 13038, 14038] σ27 σ33 → sg_g σ33 0 10 = 0 ∧ sg_g σ33 0 8 = sg_g σ 0 8 := fun σ33 f33 => by
    constructor
    · rw [sg_F_g f33 (by rfl), e27, sg_gw_k _ _ _ _ _ _ (by decide), sg_F_g f17 (by rfl)]; exact p11
    · rw [sg_F_g f33 (by rfl), e27, sg_gw_k _ _ _ _ _ _ (by decide), sg_F_g f17 (by rfl)]; exact s11
  rcases hq with ⟨τ', A, D, k, Rs, x1, x2, x3, x4, x5, x6, x7⟩ | ⟨x1, x2, x3⟩
  · have hc := w_pg hV x1 wA_0
    have hp := t_pg x1 ⟨Int.le_refl _, by decide⟩
    have hp2 := t_pg2 x1 ⟨Int.le_refl _, by decide⟩ rfl
    have f27 : sg_F [10000] σ17 σ27 := by rw [e27]; exact sg_F_w (sg_F_r _ _) rfl _
    refine ⟨fun v σ33 => (v < 0 ∧ sg_g σ33 38 13 = 0 ∧ kPg A D k (sg_g σ27 6) = some (sg_g σ33 6)) ∨ (0 ≤ v ∧ kPg A D k (fun _ => 0) = none), ⟨fun h => absurd h (by omega), fun _ => ?_⟩, ?_⟩
    · rw [x4]
      refine c_check (ckW_F (te_W x3 x5 hc.1) f27 rfl) (cD2_F (te_D x3 x6) f27 rfl) hp.1 hc.2 hp2 (fun p σ' y1 y2 y3 rp f' σ51 e51 => Or.inr ⟨y2, ?_⟩) (fun σ' y1 y2 rp f' σ51 e51 => Or.inl ⟨by decide, by rw [e51, sg_gw_c _ _ _ _ _ _ (by decide)]; exact y2.1, ?_⟩)
      · exact (kPg_ag A D k _ _).mp y1
      · have : sg_g σ51 6 = sg_g σ' 6 := funext fun x => by rw [e51, sg_gw_c _ _ _ _ _ _ (by decide)]
        rw [this]; exact y1
    · intro v35 σ33 r35 f33 h33
      obtain ⟨u1, u2⟩ := s27 σ33 f33
      refine ⟨fun h => ?_, fun h => ?_⟩
      · intro σ39 e39 σ42 e42
        rcases h33 with ⟨-, y0, y⟩ | ⟨y, -⟩
        · have n0 : ¬ kPg A D k (fun _ => 0) = none := fun h => by
            have := (kPg_ag A D k _ (sg_g σ27 6)).mp h
            rw [this] at y; cases y
          refine k2 _ σ42 A D k (sg_g σ27 6) x1 ?_ (by rw [e42, sg_gw_c _ _ _ _ _ _ (by decide), e39, sg_gw_c _ _ _ _ _ _ (by decide)]; exact y0) ⟨A, D, k, x1, n0⟩ ?_ ?_
          · have : sg_g σ42 6 = sg_g σ33 6 := funext fun x => by rw [e42, sg_gw_c _ _ _ _ _ _ (by decide), e39, sg_gw_c _ _ _ _ _ _ (by decide)]
            rw [this]; exact y
          · rw [e42, sg_gw_k _ _ _ _ _ _ (by decide), e39, sg_gw_e _ _ _ _ (by decide)]
          · rw [e42, sg_gw_e _ _ _ _ (by decide)]
        · omega
      · rcases h33 with ⟨y, -⟩ | ⟨-, y⟩
        · omega
        · refine k1 _ σ33 ?_ u1 u2
          rintro ⟨A', D', k', z1, z2⟩
          rw [x1] at z1
          cases z1
          exact z2 y
  · refine ⟨fun v σ33 => 0 ≤ v, ⟨fun _ => x2, fun h => absurd h (by omega)⟩, ?_⟩
    intro v35 σ33 r35 f33 h33
    obtain ⟨u1, u2⟩ := s27 σ33 f33
    refine ⟨fun h => absurd h (by omega), fun _ => k1 _ σ33 ?_ u1 u2⟩
    rintro ⟨A', D', k', z1, z2⟩
    rcases x1 with y | ⟨A, D, k, y1, y2⟩
    · rw [y] at z1; cases z1
    · rw [y1] at z1
      cases z1
      exact z2 (kPg_bad y2)
/-- what read leaves: slots, orders, ranges -/
theorem c_readS {σ : sg_S} {c : tkC} {t : aK} {N : Nat} {Q : Int → sg_S → Prop} (hB : tkB c t N) (hV : wT t) (hb : tb σ = c.1) (hg : sg_gl σ 37 = c.2.2.1) (hn : sg_g σ 0 8 = c.2.1) (h7 : (sg_gl σ 36 7, sg_g σ 36 6) = c.2.2.2) (k1 : ∀ q σ', sg_g σ' 0 10 = 0 → Q q σ') (k2 : ∀ q σ' A D k, aPg t N aE0 = some (A, D, k) → ckW σ' A → cD2 σ' D → frA A (aRt D ++ [k]) → (∀ x ∈ D, ∀ p ∈ x.2.2.1, 0 ≤ p.2.2) → (ckA σ' A D.length k ∨ ¬ sg_g σ' 38 13 = 0) → jPg σ' A D k → sg_g σ' 35 4 = k → sg_g σ' 0 10 = 1 → Q q σ') : V_cRead σ Q := by
  unfold V_cRead
  intro σ1 e1
  unfold V_cForget45
  intro σ5 e5 f5
  unfold V_cForget61
  intro σ11 e11 f11
  have F11 : sg_F [11000, 12045, 12061] σ σ11 := by rw [e11, e5, e1]; exact sg_F_w (sg_F_w (sg_F_w (sg_F_r _ _) rfl _) rfl _) rfl _
  have p11 : sg_g σ11 0 10 = 0 := by rw [e11, sg_gw_c _ _ _ _ _ _ (by decide), e5, sg_gw_c _ _ _ _ _ _ (by decide), e1, sg_gw_e _ _ _ _ (by decide)]
  unfold V_cParse
  intro z
  refine wk_post (prs_ok2 z σ11 (sg_g σ 0 8) hB (by rw [← hb]; exact tb_eq (fun q => sg_F_ga F11 rfl)) (by rw [← hg]; exact funext (fun q => sg_F_gal F11 rfl)) hn (by rw [← h7]; exact Prod.ext (sg_F_gal F11 rfl) (sg_F_ga F11 rfl))) ?_
  rintro v σ17 ⟨q, rfl, hF, hq⟩
  refine ⟨q, rfl, ?_, sg_F_m hF rfl, ?_⟩
  · rcases hq with ⟨-, -, -, -, -, -, h1, -⟩ | ⟨-, h1⟩
    · rw [h1]; decide
    · exact h1
  intro rq f17 v24 e24 r24 σ27 e27
  have s27 : ∀ σ33, sg_F [6, 16, 24, 29, 30, 31, 32, 33, 34, 39, 40, 41, 42, 43, 44, 7028, 10000, 10038, 11038, 12038, 13038, 14038] σ27 σ33 → sg_g σ33 0 10 = 0 := fun σ33 f33 => by
    rw [sg_F_g f33 (by rfl), e27, sg_gw_k _ _ _ _ _ _ (by decide), sg_F_g f17 (by rfl)]; exact p11
  rcases hq with ⟨τ', A, D, k, Rs, x1, x2, x3, x4, x5, x6, x7⟩ | ⟨x2, x3⟩
  · have hc := w_pg hV x1 wA_0
    have hp := t_pg x1 ⟨Int.le_refl _, by decide⟩
    have hp2 := t_pg2 x1 ⟨Int.le_refl _, by decide⟩ rfl
    have f27 : sg_F [10000] σ17 σ27 := by rw [e27]; exact sg_F_w (sg_F_r _ _) rfl _
    have W27 := ckW_F (te_W x3 x5 hc.1) f27 rfl
    have D27 := cD2_F (te_D x3 x6) f27 rfl
    have j27 : jPg σ27 A D k := jPg_e x7 (fun j => ⟨by rw [sg_F_ga f27 rfl]; exact ag_g x3 rfl j, by rw [sg_F_ga f27 rfl]; exact ag_g x3 rfl j⟩)
    refine ⟨fun v σ33 => (ckA σ33 A D.length k ∨ ¬ sg_g σ33 38 13 = 0) ∧ sg_F [6, 16, 24, 29, 30, 31, 32, 33, 34, 39, 40, 41, 42, 43, 44, 7028, 10000, 10038, 11038, 12038, 13038, 14038] σ27 σ33, ⟨fun h => absurd h (by omega), fun _ => ?_⟩, ?_⟩
    · rw [x4]
      refine d_check W27 D27 hp.1 hp2 (fun p σ' y1 rp f' σ51 e51 => ?_) (fun p σ' y1 y2 y3 rp f' σ51 e51 => ?_)
      · have f51 : sg_F [10000] σ' σ51 := by rw [e51]; exact sg_F_w (sg_F_r _ _) rfl _
        exact ⟨Or.inr (by rw [sg_F_g f51 (by rfl)]; exact y1), sg_F_t (sg_F_m f' rfl) (sg_F_m f51 rfl)⟩
      · have f51 : sg_F [10000] σ' σ51 := by rw [e51]; exact sg_F_w (sg_F_r _ _) rfl _
        exact ⟨Or.inl (ckA_F y2 f51 rfl), sg_F_t (sg_F_m f' rfl) (sg_F_m f51 rfl)⟩
    · intro v35 σ33 r35 f33 h33
      have u1 := s27 σ33 f33
      refine ⟨fun h => ?_, fun h => k1 _ σ33 u1⟩
      intro σ39 e39 σ42 e42
      have f42 : sg_F [9000, 11000] σ33 σ42 := by rw [e42, e39]; exact sg_F_w (sg_F_w (sg_F_r _ _) rfl _) rfl _
      have F42 : sg_F [6, 16, 24, 29, 30, 31, 32, 33, 34, 39, 40, 41, 42, 43, 44, 7028, 9000, 10000, 10038, 11000, 11038, 12038, 13038, 14038] σ27 σ42 := sg_F_t (sg_F_m f33 rfl) (sg_F_m f42 rfl)
      refine k2 _ σ42 A D k x1 (ckW_F W27 F42 rfl) (cD2_F D27 F42 rfl) hp2 (fun x hx => (hp.1 x hx).2.1) ?_ (jPg_e j27 (fun j => ⟨sg_F_ga F42 rfl, sg_F_ga F42 rfl⟩)) ?_ ?_
      · rcases h33.1 with y | y
        · exact Or.inl (ckA_F y f42 rfl)
        · exact Or.inr (by rw [sg_F_g f42 (by rfl)]; exact y)
      · rw [sg_F_g F42 (by rfl), sg_F_g f27 (by rfl)]; exact x4
      · rw [e42, sg_gw_k _ _ _ _ _ _ (by decide), e39, sg_gw_e _ _ _ _ (by decide)]
  · refine ⟨fun v σ33 => 0 ≤ v, ⟨fun _ => x2, fun h => absurd h (by omega)⟩, ?_⟩
    intro v35 σ33 r35 f33 h33
    exact ⟨fun h => absurd h (by omega), fun _ => k1 _ σ33 (s27 σ33 f33)⟩
/-- read of the class -/
def rdR (t : aK) (N : Nat) (σ σ' : sg_S) : Prop := (¬ accP t N ∧ sg_g σ' 0 10 = 0 ∧ sg_g σ' 0 8 = sg_g σ 0 8) ∨ (accP t N ∧ sg_g σ' 0 10 = 1 ∧ sg_g σ' 0 8 = 0 ∧ flR σ')
theorem cr_all (z : Value) (σ : sg_S) {c : tkC} {t : aK} {N : Nat} (hB : tkB c t N) (hV : wT t) (hb : tb σ = c.1) (hg : sg_gl σ 37 = c.2.2.1) (hn : sg_g σ 0 8 = c.2.1) (h7 : (sg_gl σ 36 7, sg_g σ 36 6) = c.2.2.2) : wx z 895 23 0 [(0, .inr (.inr (.ref 0)))] [] σ (fun v σ' => ∃ q, v = some (.inl q) ∧ sg_R q ∧ sg_F [3, 4, 5, 6, 7, 8, 9, 10, 11, 12, 13, 14, 15, 16, 17, 18, 20, 21, 22, 23, 24, 25, 26, 27, 29, 30, 31, 32, 33, 34, 39, 40, 41, 42, 43, 44, 3036, 4035, 4036, 5035, 5036, 6036, 7028, 7036, 8036, 9000, 9019, 10000, 10038, 11000, 11038, 12038, 12045, 12061, 13038, 14038, 17002] σ σ' ∧ rdR t N σ σ') := by
  have r1 := w_cRead z σ (fun _ σ' => (¬ accP t N ∧ sg_g σ' 0 10 = 0 ∧ sg_g σ' 0 8 = sg_g σ 0 8) ∨ (accP t N ∧ sg_g σ' 0 10 = 1 ∧ sg_g σ' 0 8 = 0 ∧ sg_g σ' 38 13 = 0 ∧ ∃ A D k T, aPg t N aE0 = some (A, D, k) ∧ kPg A D k T = some (sg_g σ' 6))) (c_readT hB hV hb hg hn h7 (fun q σ' a b d => Or.inl ⟨a, b, d⟩) (fun q σ' A D k T a b d e f g => Or.inr ⟨e, f, g, d, A, D, k, T, a, b⟩))
  have r2 := w_cRead z σ (fun _ σ' => sg_g σ' 0 10 = 0 ∨ (sg_g σ' 0 10 = 1 ∧ ∃ A D k, aPg t N aE0 = some (A, D, k) ∧ ckW σ' A ∧ cD2 σ' D ∧ frA A (aRt D ++ [k]) ∧ (∀ x ∈ D, ∀ p ∈ x.2.2.1, 0 ≤ p.2.2) ∧ (ckA σ' A D.length k ∨ ¬ sg_g σ' 38 13 = 0) ∧ jPg σ' A D k ∧ sg_g σ' 35 4 = k)) (c_readS hB hV hb hg hn h7 (fun q σ' a => Or.inl a) (fun q σ' A D k a b d e f g i j l => Or.inr ⟨l, A, D, k, a, b, d, e, f, g, i, j⟩))
  refine wk_post (wk_and r1 r2) ?_
  rintro v σ' ⟨⟨q, e1, e2, e3, q2⟩, v1, σ1, ⟨_, _, _, _, q1⟩, eH⟩
  have h10 : sg_g σ1 0 10 = sg_g σ' 0 10 := sgH_fd (a := 0) (k := 10) rfl rfl eH
  have h8 : sg_g σ1 0 8 = sg_g σ' 0 8 := sgH_fd (a := 0) (k := 8) rfl rfl eH
  have h38 : sg_g σ1 38 13 = sg_g σ' 38 13 := sgH_fd (a := 38) (k := 13) rfl rfl eH
  refine ⟨q, e1, e2, e3, ?_⟩
  rcases q1 with ⟨a1, a2, a3⟩ | ⟨a1, a2, a3, a4, A, D, k, T, a5, a6⟩
  · exact Or.inl ⟨a1, by rw [← h10]; exact a2, by rw [← h8]; exact a3⟩
  · right
    rw [h10] at a2
    rw [h8] at a3
    rw [h38] at a4
    refine ⟨a1, a2, a3, ?_⟩
    rcases q2 with y | ⟨-, A', D', k', b1, b2, b3, b4, b5, b6, b7, b8⟩
    · rw [y] at a2; cases a2
    · rw [a5] at b1
      cases b1
      have ty : (∀ (j : Nat) (x : aDf), D[j]? = some x → ∃ ds B sc, tyN A ds (sg_g σ' 6) B 201 sc x.2.2.2) ∧ ∃ ds B sc, tyN A ds (sg_g σ' 6) B 201 sc k := by
        obtain ⟨L, f1, f2, f3, -⟩ := id b4
        have h := tyP (T2 := sg_g σ' 6) (B2 := kBo A (kDl D []) 201 [] k (kDB A D [] 0 (fun _ => 0))) D [] 0 T (sg_g σ1 6) (fun _ => 0) L f1 f2 f3 (fun d hd => by simp at hd) (fun c hc => by simp at hc) b5 a6 (fun x hx => (sgH_6 eH x (f3 x hx).1).symm) (fun _ _ => rfl) (fun c hc => by simp at hc)
        exact ⟨fun j x hx => ⟨_, _, _, (h.1 j x hx).1⟩, _, _, _, h.2⟩
      refine ⟨A, D, k, b2, b3, b4, ty, ?_, b7, b8⟩
      rcases b6 with y | y
      · exact y
      · exact absurd a4 y
