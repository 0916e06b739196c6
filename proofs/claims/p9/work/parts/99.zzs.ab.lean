/-! What read of the class leaves, told by what was read: for every way of telling the tokens. -/
theorem wk_fam {E : am_E} {T : List am_M} {Sh : List sg_Sh} {d j pc : Nat} {ls : bm_L} {st : List bm_V} {σ : sg_S} {ι : Type} {Q0 : Option bm_V → sg_S → Prop} {P : ι → Prop} {Q : ι → Option bm_V → sg_S → Prop} (h0 : wk E T Sh d j pc ls st σ Q0) (h : ∀ i, P i → wk E T Sh d j pc ls st σ (Q i)) : wk E T Sh d j pc ls st σ (fun v σ' => Q0 v σ' ∧ ∀ i, P i → ∃ v1 σ1, Q i v1 σ1 ∧ sg_H Sh σ1 = sg_H Sh σ') := by
  obtain ⟨v1, σ1, ⟨n1, r1⟩, q1⟩ := h0
  refine ⟨v1, σ1, ⟨n1, r1⟩, q1, fun i hi => ?_⟩
  obtain ⟨v2, σ2, ⟨n2, r2⟩, q2⟩ := h i hi
  have a := am_ex_same (n' := max n1 n2) (d' := d) (Nat.le_max_left ..) (Nat.le_refl _) r1
  have b := am_ex_same (n' := max n1 n2) (d' := d) (Nat.le_max_right ..) (Nat.le_refl _) r2
  rw [a] at b
  have e := Option.some.inj b
  exact ⟨v2, σ2, q2, (Prod.mk.inj e).2.symm⟩
theorem sgH_row {a n : Nat} {σ1 σ2 : sg_S} (hs : sg_sh am_Sh0 a = some (.inl (0, n))) (h : sg_H am_Sh0 σ1 = sg_H am_Sh0 σ2) : ∀ x, 0 ≤ x → sg_g σ1 a x = sg_g σ2 a x := fun x hx => by
  have e : ∀ σ : sg_S, (sg_H am_Sh0 σ)[a]? = some (sg_cell σ a (.inl (0, n))) := fun σ => sg_at hs
  have q := (e σ1).symm.trans ((congrArg (fun (H : am_H) => H[a]?) h).trans (e σ2))
  have q2 := Option.some.inj q
  simp only [sg_cell] at q2
  rw [if_neg (by decide), if_neg (by decide)] at q2
  have q3 := Sum.inl.inj q2
  have q4 := (Prod.mk.inj (Prod.mk.inj q3).2).2
  have q5 := congrFun q4 x.toNat
  have q6 : σ1.1 a x = σ2.1 a x := by
    have : ((x.toNat : Nat) : Int) = x := by omega
    rw [this] at q5
    exact q5
  unfold sg_g
  rw [q6]
theorem c_readU {σ : sg_S} {c : tkC} {t : aK} {N : Nat} {Q : Int → sg_S → Prop} (hB : tkB c t N) (hV : wT t) (hb : tb σ = c.1) (hg : sg_gl σ 37 = c.2.2.1) (hn : sg_g σ 0 8 = c.2.1) (h7 : (sg_gl σ 36 7, sg_g σ 36 6) = c.2.2.2) (k1 : ∀ q σ', sg_g σ' 0 10 = 0 → Q q σ') (k2 : ∀ q σ' A D k T, aPg t N aE0 = some (A, D, k) → kPg A D k T = some (sg_g σ' 6) → sg_g σ' 2 16 = A.1 → sg_g σ' 19 8 = D.length → sg_g σ' 35 4 = k → (∀ n, 0 ≤ n → n < A.1 → sg_g σ' 4 n = A.2.2.1 n) → Q q σ') : V_cRead σ Q := by
  unfold V_cRead
  intro σ1 e1
  unfold V_cForget45
  intro σ5 e5 f5
  unfold V_cForget61
  intro σ11 e11 f11
  have F11 : sg_F [11000, 12045, 12061] σ σ11 := by rw [e11, e5, e1]; exact sg_F_w (sg_F_w (sg_F_w (sg_F_r _ _) rfl _) rfl _) rfl _
  have p11 : sg_g σ11 0 10 = 0 := by rw [e11, sg_gw_c _ _ _ _ _ _ (by decide), e5, sg_gw_c _ _ _ _ _ _ (by decide), e1, sg_gw_e _ _ _ _ (by decide)]
  have s11 : sg_g σ11 0 8 = sg_g σ 0 8 := sg_F_g F11 rfl
  unfold V_cParse
  intro z
  refine wk_post (prs_ok z σ11 (sg_g σ 0 8) hB (by rw [← hb]; exact tb_eq (fun q => sg_F_ga F11 rfl)) (by rw [← hg]; exact funext (fun q => sg_F_gal F11 rfl)) hn (by rw [← h7]; exact Prod.ext (sg_F_gal F11 rfl) (sg_F_ga F11 rfl))) ?_
  rintro v σ17 ⟨q, rfl, hF, hq⟩
  refine ⟨q, rfl, ?_, sg_F_m hF rfl, ?_⟩
  · rcases hq with ⟨-, -, -, -, -, -, h1, -⟩ | ⟨-, -, h1⟩
    · rw [h1]; decide
    · exact h1
  intro rq f17 v24 e24 r24 σ27 e27
  have s27 : ∀ σ33, sg_F [6, 16, 24, 29, 30, 31, 32, 33, 34, 39, 40, 41, 42, 43, 44, 7028, 10000, 10038, 11038, 12038, 13038, 14038] σ27 σ33 → sg_g σ33 0 10 = 0 ∧ sg_g σ33 0 8 = sg_g σ 0 8 := fun σ33 f33 => by
    constructor
    · rw [sg_F_g f33 (by rfl), e27, sg_gw_k _ _ _ _ _ _ (by decide), sg_F_g f17 (by rfl)]; exact p11
    · rw [sg_F_g f33 (by rfl), e27, sg_gw_k _ _ _ _ _ _ (by decide), sg_F_g f17 (by rfl)]; exact s11
  rcases hq with ⟨τ', A, D, k, Rs, x1, x2, x3, x4, x5, x6, x7⟩ | ⟨x1, x2, x3⟩
  · have hc := w_pg hV x1 wA_0
    have hp := t_pg x1 ⟨Int.le_refl _, by decide⟩
    have hp2 := t_pg2 x1 ⟨Int.le_refl _, by decide⟩ rfl
    have f27 : sg_F [10000] σ17 σ27 := by rw [e27]; exact sg_F_w (sg_F_r _ _) rfl _
    refine ⟨fun v σ33 => (v < 0 ∧ sg_g σ33 38 13 = 0 ∧ kPg A D k (sg_g σ27 6) = some (sg_g σ33 6)) ∨ (0 ≤ v ∧ kPg A D k (fun _ => 0) = none), ⟨fun h => absurd h (by omega), fun _ => ?_⟩, ?_⟩
    · rw [x4]
      refine c_check (ckW_F (te_W x3 x5 hc.1) f27 rfl) (cD2_F (te_D x3 x6) f27 rfl) hp.1 hc.2 hp2 (fun p σ' y1 y2 y3 rp f' σ51 e51 => Or.inr ⟨y2, ?_⟩) (fun σ' y1 y2 rp f' σ51 e51 => Or.inl ⟨by decide, by rw [e51, sg_gw_c _ _ _ _ _ _ (by decide)]; exact y2.1, ?_⟩)
      · exact (kPg_ag A D k _ _).mp y1
      · have : sg_g σ51 6 = sg_g σ' 6 := funext fun x => by rw [e51, sg_gw_c _ _ _ _ _ _ (by decide)]
        rw [this]; exact y1
    · intro v35 σ33 r35 f33 h33
      obtain ⟨u1, u2⟩ := s27 σ33 f33
      refine ⟨fun h => ?_, fun h => ?_⟩
      · intro σ39 e39 σ42 e42
        rcases h33 with ⟨-, y0, y⟩ | ⟨y, -⟩
        · have f42 : sg_F [9000, 11000] σ33 σ42 := by rw [e42, e39]; exact sg_F_w (sg_F_w (sg_F_r _ _) rfl _) rfl _
          have F42 : sg_F [6, 16, 24, 29, 30, 31, 32, 33, 34, 39, 40, 41, 42, 43, 44, 7028, 9000, 10000, 10038, 11000, 11038, 12038, 13038, 14038] σ17 σ42 := sg_F_t (sg_F_t (sg_F_m f27 rfl) (sg_F_m f33 rfl)) (sg_F_m f42 rfl)
          refine k2 _ σ42 A D k (sg_g σ27 6) x1 ?_ ?_ ?_ ?_ ?_
          · have : sg_g σ42 6 = sg_g σ33 6 := funext fun x => by rw [e42, sg_gw_c _ _ _ _ _ _ (by decide), e39, sg_gw_c _ _ _ _ _ _ (by decide)]
            rw [this]; exact y
          · rw [sg_F_g F42 (by rfl), ag_g x3 rfl]; exact x5.1
          · rw [sg_F_g F42 (by rfl)]; exact (te_D x3 x6).1
          · rw [sg_F_g F42 (by rfl)]; exact x4
          · intro n n0 n1
            rw [sg_F_ga F42 rfl]
            exact ((te_W x3 x5 hc.1).2.2 n n0 n1).1.2.1
        · omega
      · exact k1 _ σ33 u1
  · refine ⟨fun v σ33 => 0 ≤ v, ⟨fun _ => x2, fun h => absurd h (by omega)⟩, ?_⟩
    intro v35 σ33 r35 f33 h33
    obtain ⟨u1, u2⟩ := s27 σ33 f33
    exact ⟨fun h => absurd h (by omega), fun _ => k1 _ σ33 u1⟩
/-- the class's PROGRAM is what was read -/
def lnk (t : aK) (N : Nat) (σ' : sg_S) : Prop := ∃ A D k T Tf, aPg t N aE0 = some (A, D, k) ∧ kPg A D k T = some Tf ∧ (∀ x, 0 ≤ x → sg_g σ' 6 x = Tf x) ∧ sg_g σ' 2 16 = A.1 ∧ sg_g σ' 19 8 = D.length ∧ sg_g σ' 35 4 = k ∧ ∀ n, 0 ≤ n → n < A.1 → sg_g σ' 4 n = A.2.2.1 n
theorem lnk_H {t : aK} {N : Nat} {σ1 σ2 : sg_S} (h : lnk t N σ1) (e : sg_H am_Sh0 σ1 = sg_H am_Sh0 σ2) : lnk t N σ2 := by
  obtain ⟨A, D, k, T, Tf, a1, a2, a3, a4, a5, a6, a7⟩ := h
  have g1 : sg_g σ1 2 16 = sg_g σ2 2 16 := sgH_fd (a := 2) (k := 16) rfl rfl e
  have g2 : sg_g σ1 19 8 = sg_g σ2 19 8 := sgH_fd (a := 19) (k := 8) rfl rfl e
  have g3 : sg_g σ1 35 4 = sg_g σ2 35 4 := sgH_fd (a := 35) (k := 4) rfl rfl e
  refine ⟨A, D, k, T, Tf, a1, a2, fun x hx => ?_, by rw [← g1]; exact a4, by rw [← g2]; exact a5, by rw [← g3]; exact a6, fun n n0 n1 => ?_⟩
  · rw [← sgH_row (a := 6) rfl e x hx]; exact a3 x hx
  · rw [← sgH_row (a := 4) rfl e n n0]; exact a7 n n0 n1
theorem cr_lnk (z : Value) (σ : sg_S) {c : tkC} {t : aK} {N : Nat} (hB : tkB c t N) (hV : wT t) (hb : tb σ = c.1) (hg : sg_gl σ 37 = c.2.2.1) (hn : sg_g σ 0 8 = c.2.1) (h7 : (sg_gl σ 36 7, sg_g σ 36 6) = c.2.2.2) : wx z 895 23 0 [(0, .inr (.inr (.ref 0)))] [] σ (fun v σ' => (∃ q, v = some (.inl q) ∧ sg_R q ∧ sg_F [3, 4, 5, 6, 7, 8, 9, 10, 11, 12, 13, 14, 15, 16, 17, 18, 20, 21, 22, 23, 24, 25, 26, 27, 29, 30, 31, 32, 33, 34, 39, 40, 41, 42, 43, 44, 3036, 4035, 4036, 5035, 5036, 6036, 7028, 7036, 8036, 9000, 9019, 10000, 10038, 11000, 11038, 12038, 12045, 12061, 13038, 14038, 17002] σ σ' ∧ rdR t N σ σ') ∧ ∀ t' N', tkB c t' N' → wT t' → (sg_g σ' 0 10 = 0 ∨ lnk t' N' σ')) := by
  refine wk_post (wk_fam (ι := aK × Nat) (P := fun i => tkB c i.1 i.2 ∧ wT i.1) (Q := fun i _ σ' => sg_g σ' 0 10 = 0 ∨ lnk i.1 i.2 σ') (cr_all z σ hB hV hb hg hn h7) (fun i hi => wk_post (w_cRead z σ (fun _ σ' => sg_g σ' 0 10 = 0 ∨ lnk i.1 i.2 σ') (c_readU hi.1 hi.2 hb hg hn h7 (fun q σ' a => Or.inl a) (fun q σ' A D k T a1 a2 a3 a4 a5 a6 => Or.inr ⟨A, D, k, T, _, a1, a2, fun _ _ => rfl, a3, a4, a5, a6⟩))) (by rintro v σ' ⟨_, _, _, _, q⟩; exact q))) ?_
  rintro v σ' ⟨h0, h1⟩
  refine ⟨h0, fun t' N' b1 b2 => ?_⟩
  obtain ⟨v1, σ1, q, eH⟩ := h1 (t', N') ⟨b1, b2⟩
  have h10 : sg_g σ1 0 10 = sg_g σ' 0 10 := sgH_fd (a := 0) (k := 10) rfl rfl eH
  rcases q with q | q
  · exact Or.inl (by rw [← h10]; exact q)
  · exact Or.inr (lnk_H q eH)
