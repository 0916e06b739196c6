/-! read of the class accepts just what is read and looked through without a fault. -/
def accP (t : aK) (N : Nat) : Prop := ∃ A D k, aPg t N aE0 = some (A, D, k) ∧ ¬ kPg A D k (fun _ => 0) = none
theorem wA_0 : wA aE0 := fun _ => ⟨fun h => absurd h (by simp only [aE0]; omega), fun g hg => absurd hg (by simp [aE0]), Int.le_refl _⟩
theorem te_W {σ τ : sg_S} {A : aT} {R : List Int} (h : te σ τ) (hc : cS τ A 0 R) (hw : wA A) : ckW σ A := by
  have g : ∀ a, tec a = true → sg_g σ a = sg_g τ a := fun a ha => funext fun k => ag_g h ha k
  have gl : ∀ a, tec a = true → sg_gl σ a = sg_gl τ a := fun a ha => funext fun k => ag_gl h ha k
  refine ⟨⟨hc.2.1.2.1, hc.2.1.2.2⟩, hw, fun k a b => ?_⟩
  obtain ⟨⟨c1, c2, c3, ⟨c4, c5, c6, c7, c8⟩, c9⟩, d⟩ := hc.2.2.1 k a b
  refine ⟨⟨by rw [g 3 rfl]; exact c1, by rw [g 4 rfl]; exact c2, fun z => by rw [gl 17 rfl]; exact c3 z, ⟨by rw [g 10 rfl]; exact c4, by rw [g 9 rfl, g 7 rfl]; exact c5, fun z hz => by rw [g 8 rfl]; exact c6 z hz, c7, c8⟩, fun z => ?_⟩, fun x hx => (d x hx).1⟩
  obtain ⟨e1, e2, e3⟩ := c9 z
  exact ⟨by rw [g 13 rfl]; exact e1, by rw [g 14 rfl]; exact e2, fun j x y h1 h2 => by rw [gl 18 rfl, g 15 rfl]; exact e3 j x y h1 h2⟩
theorem te_D {σ τ : sg_S} {D : List aDf} (h : te σ τ) (hc : cD2 τ D) : cD2 σ D := by
  have g : ∀ a, tec a = true → sg_g σ a = sg_g τ a := fun a ha => funext fun k => ag_g h ha k
  have gl : ∀ a, tec a = true → sg_gl σ a = sg_gl τ a := fun a ha => funext fun k => ag_gl h ha k
  refine ⟨by rw [g 19 rfl]; exact hc.1, hc.2.1, fun d x hx => ?_⟩
  obtain ⟨a1, a2, a3, a4, a5, a6⟩ := hc.2.2 d x hx
  refine ⟨by rw [gl 20 rfl]; exact a1, by rw [g 21 rfl]; exact a2, by rw [g 22 rfl]; exact a3, by rw [g 23 rfl]; exact a4, a5, fun j y hy => ?_⟩
  rw [gl 25 rfl, g 26 rfl, g 27 rfl]; exact a6 j y hy
theorem kPg_bad {A : aT} {D : List aDf} {k : Int} {T : Int → Int} (h : badD D) : kPg A D k T = none := by
  obtain ⟨x, hx, y, hy, h12⟩ := h
  unfold kPg
  rw [kDs_bad D [] T ⟨x, hx, y, hy, by omega⟩]
theorem c_read {σ : sg_S} {c : tkC} {t : aK} {N : Nat} {Q : Int → sg_S → Prop} (hB : tkB c t N) (hV : wT t) (hb : tb σ = c.1) (hg : sg_gl σ 37 = c.2.2.1) (hn : sg_g σ 0 8 = c.2.1) (h7 : (sg_gl σ 36 7, sg_g σ 36 6) = c.2.2.2) (k1 : ∀ q σ', ¬ accP t N → sg_g σ' 0 10 = 0 → sg_g σ' 0 8 = sg_g σ 0 8 → Q q σ') (k2 : ∀ q σ' A D k, aPg t N aE0 = some (A, D, k) → ¬ kPg A D k (fun _ => 0) = none → accP t N → sg_g σ' 0 10 = 1 → sg_g σ' 0 8 = 0 → Q q σ') : V_cRead σ Q := by
  unfold V_cRead
  intro σ1 e1
  unfold V_cForget45
  intro σ5 e5 f5
  unfold V_cForget61
  intro σ11 e11 f11
  have F11 : sg_F [11000, 12045, 12061] σ σ11 := by rw [e11, e5, e1]; exact sg_F_w (sg_F_w (sg_F_w (sg_F_r _ _) rfl _) rfl _) rfl _
  have p11 : sg_g σ11 0 10 = 0 := by rw [e11, sg_gw_c _ _ _ _ _ _ (by decide), e5, sg_gw_c _ _ _ _ _ _ (by decide), e1, sg_gw_e _ _ _ _ (by decide)]
  have s11 : sg_g σ11 0 8 = sg_g σ 0 8 := sg_F_g F11 rfl
  unfold V_cParse
  intro z
  refine wk_post (prs_ok z σ11 (sg_g σ 0 8) hB (by rw [← hb]; exact tb_eq (fun q => sg_F_ga F11 rfl)) (by rw [← hg]; exact funext (fun q => sg_F_gal F11 rfl)) hn (by rw [← h7]; exact Prod.ext (sg_F_gal F11 rfl) (sg_F_ga F11 rfl))) ?_
  rintro v σ17 ⟨q, rfl, hF, hq⟩
  refine ⟨q, rfl, ?_, sg_F_m hF rfl, ?_⟩
  · rcases hq with ⟨-, -, -, -, -, -, h1, -⟩ | ⟨-, -, h1⟩
    · rw [h1]; decide
    · exact h1
  intro rq f17 v24 e24 r24 σ27 e27
  have s27 : ∀ σ33, sg_F [6, 16, 24, 29, 30, 31, 32, 33, 34, 39, 40, 41, 42, 43, 44, 7028, 10000, 10038, 11038, 12038, 13038, 14038] σ27 σ33 → sg_g σ33 0 10 = 0 ∧ sg_g σ33 0 8 = sg_g σ 0 8 := fun σ33 f33 => by
    constructor
    · rw [sg_F_g f33 (by rfl), e27, sg_gw_k _ _ _ _ _ _ (by decide), sg_F_g f17 (by rfl)]; exact p11
    · rw [sg_F_g f33 (by rfl), e27, sg_gw_k _ _ _ _ _ _ (by decide), sg_F_g f17 (by rfl)]; exact s11
  rcases hq with ⟨τ', A, D, k, Rs, x1, x2, x3, x4, x5, x6, x7⟩ | ⟨x1, x2, x3⟩
  · have hc := w_pg hV x1 wA_0
    have hp := t_pg x1 ⟨Int.le_refl _, by decide⟩
    have hp2 := t_pg2 x1 ⟨Int.le_refl _, by decide⟩ rfl
    have f27 : sg_F [10000] σ17 σ27 := by rw [e27]; exact sg_F_w (sg_F_r _ _) rfl _
    refine ⟨fun v σ33 => (v < 0 ∧ ¬ kPg A D k (fun _ => 0) = none) ∨ (0 ≤ v ∧ kPg A D k (fun _ => 0) = none), ⟨fun h => absurd h (by omega), fun _ => ?_⟩, ?_⟩
    · rw [x4]
      refine c_check (ckW_F (te_W x3 x5 hc.1) f27 rfl) (cD2_F (te_D x3 x6) f27 rfl) hp.1 hc.2 hp2 (fun p σ' y1 y2 y3 rp f' σ51 e51 => Or.inr ⟨y2, ?_⟩) (fun σ' y1 y2 rp f' σ51 e51 => Or.inl ⟨by decide, ?_⟩)
      · exact (kPg_ag A D k _ _).mp y1
      · intro h
        have := (kPg_ag A D k _ (sg_g σ27 6)).mp h
        rw [this] at y1; cases y1
    · intro v35 σ33 r35 f33 h33
      obtain ⟨u1, u2⟩ := s27 σ33 f33
      refine ⟨fun h => ?_, fun h => ?_⟩
      · intro σ39 e39 σ42 e42
        rcases h33 with ⟨-, y⟩ | ⟨y, -⟩
        · refine k2 _ σ42 A D k x1 y ⟨A, D, k, x1, y⟩ ?_ ?_
          · rw [e42, sg_gw_k _ _ _ _ _ _ (by decide), e39, sg_gw_e _ _ _ _ (by decide)]
          · rw [e42, sg_gw_e _ _ _ _ (by decide)]
        · omega
      · rcases h33 with ⟨y, -⟩ | ⟨-, y⟩
        · omega
        · refine k1 _ σ33 ?_ u1 u2
          rintro ⟨A', D', k', z1, z2⟩
          rw [x1] at z1
          cases z1
          exact z2 y
  · refine ⟨fun v σ33 => 0 ≤ v, ⟨fun _ => x2, fun h => absurd h (by omega)⟩, ?_⟩
    intro v35 σ33 r35 f33 h33
    obtain ⟨u1, u2⟩ := s27 σ33 f33
    refine ⟨fun h => absurd h (by omega), fun _ => k1 _ σ33 ?_ u1 u2⟩
    rintro ⟨A', D', k', z1, z2⟩
    rcases x1 with y | ⟨A, D, k, y1, y2⟩
    · rw [y] at z1; cases z1
    · rw [y1] at z1
      cases z1
      exact z2 (kPg_bad y2)
