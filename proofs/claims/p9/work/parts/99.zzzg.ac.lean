/-! feed, cut, read of both sides keep the fourth state. -/
abbrev lwP4 (z : Value) (d1 j1 : Nat) (l1 : bm_L) (d2 j2 : Nat) (l2 : bm_L) (σ : sg_S) (R : Int → Int → Prop) : Prop := wx z d1 j1 0 l1 [] σ (lwA (fun q σ1 => wx z d2 j2 0 l2 [] σ1 (lwA (fun q' σ2 => R q q' ∧ lwZ σ2))))
theorem lz_feed (z : Value) {σ : sg_S} {a : Int} (ra : sg_RL a) (h : lwZ σ) : lwP4 z 1 14 [(0, .inr (.inr (.ref 0))), (1, .inr (.inl a))] 0 229 [(0, .inr (.inr (.ref 88))), (1, .inr (.inl a))] σ (fun q q' => q' = q) := by
  have hK := h.2
  replace h := h.1
  obtain ⟨n, hn, h1, h2⟩ := bt_n a
  obtain ⟨a1, a2, a3, -⟩ := id h
  refine wk_post (w_cFeed z σ a (fun q σ1 => wx z 0 229 0 [(0, .inr (.inr (.ref 88))), (1, .inr (.inl a))] [] σ1 (lwA (fun q' σ2 => q' = q ∧ lwZ σ2))) ra (c_feed hn h1 h2 a1 (fun hb => ?_) (fun hb σ1 f1 e8 o1 o2 => ?_))) (by rintro v σ' ⟨q, e, r, -, w⟩; exact ⟨q, e, r, w⟩)
  · refine wk_post (w_feed z σ a (fun q' σ2 => q' = -3 ∧ lwI σ2) ra (q_feed hn h1 h2 (by rw [a2]; exact a1) (fun _ σ2 f => ⟨rfl, lwI_F h f rfl⟩) (fun hc => absurd hc (by rw [a2]; omega)))) (by rintro v σ' ⟨q, e, r, f9, w⟩; exact ⟨q, e, r, w.1, w.2, lkZ_F hK f9 rfl⟩)
  · have e2 : sg_g σ1 88 2 = sg_g σ 0 8 := by rw [sg_F_g f1 (by rfl)]; exact a2
    refine wk_post (w_feed z σ1 a (fun q' σ2 => q' = sg_g σ 0 8 + n ∧ lwI σ2) ra (q_feed hn h1 h2 (by rw [e2]; exact a1) (fun hc => absurd hc (by rw [e2]; omega)) (fun _ σ2 f2 g1 g2 g3 => ⟨by rw [e2], ?_⟩))) (by rintro v σ' ⟨q, e, r, f9, w⟩; exact ⟨q, e, r, w.1, w.2, lkZ_F (lkZ_F hK f1 rfl) f9 rfl⟩)
    have F : sg_F [1, 89, 9000, 1088, 3088] σ σ2 := sg_F_t (sg_F_m f1 rfl) (sg_F_m f2 rfl)
    have e8' : sg_g σ2 0 8 = sg_g σ 0 8 + n := by rw [sg_F_g f2 (by rfl)]; exact e8
    have tt : ∀ p, tb σ2 p = tb σ1 p := fun p => by unfold tb; rw [sg_F_ga f2 rfl]
    refine lw_tape h F rfl rfl rfl ⟨by omega, by omega⟩ (by rw [g1, e2, e8']) (fun p p0 p1 => ?_)
    rw [tt]
    by_cases c : p < sg_g σ 0 8
    · rw [g2 p (by rw [e2]; exact c), sg_F_ga f1 rfl, o1 p c]
      exact a3 p p0 c
    · obtain ⟨k, ek⟩ : ∃ k : Nat, p = sg_g σ 0 8 + k := ⟨(p - sg_g σ 0 8).toNat, by omega⟩
      have kn : k < n := by omega
      have u := g3 k kn
      rw [e2, ← ek] at u
      rw [u, ek, o2 k kn]
theorem lz_cut (z : Value) {σ : sg_S} {a : Int} (ra : sg_R a) (h : lwZ σ) : lwP4 z 0 11 [(0, .inr (.inr (.ref 0))), (1, .inl a)] 1 219 [(0, .inr (.inr (.ref 88))), (1, .inl a)] σ (fun q q' => q' = q) := by
  have hK := h.2
  replace h := h.1
  obtain ⟨a1, a2, a3, -⟩ := id h
  have no : v_in a 0 (sg_g σ 88 2) = 0 → wx z 1 219 0 [(0, .inr (.inr (.ref 88))), (1, .inl a)] [] σ (lwA (fun q' σ2 => q' = -2 ∧ lwZ σ2)) := fun hv => by
    refine wk_post (w_cut z σ a (fun q' σ2 => q' = -2 ∧ lwI σ2) ra ?_) (by rintro v σ' ⟨q, e, r, f9, w⟩; exact ⟨q, e, r, w.1, w.2, lkZ_F hK f9 rfl⟩)
    unfold V_cut
    intro σ1 e1
    exact ⟨fun y => absurd hv y, fun _ => ⟨rfl, lw_1088 h e1⟩⟩
  refine wk_post (w_cCut z σ a (fun q σ1 => wx z 1 219 0 [(0, .inr (.inr (.ref 88))), (1, .inl a)] [] σ1 (lwA (fun q' σ2 => q' = q ∧ lwZ σ2))) ra ?_) (by rintro v σ' ⟨q, e, r, -, w⟩; exact ⟨q, e, r, w⟩)
  unfold V_cCut
  refine ⟨fun y => no (by unfold v_in; rw [if_pos y]), fun y => ⟨fun y2 => ⟨⟨by omega, by omega⟩, fun σ4 e4 => ?_⟩, fun y2 => no (by unfold v_in; rw [if_neg (by omega), if_pos (by omega)])⟩⟩
  have f4 : sg_F [9000] σ σ4 := by rw [e4]; exact sg_F_w (sg_F_r _ _) rfl _
  have g2 : sg_g σ4 88 2 = sg_g σ 0 8 := by rw [sg_F_g f4 (by rfl)]; exact a2
  have g8 : sg_g σ4 0 8 = a := by rw [e4, sg_gw_e _ _ _ _ ra]
  refine wk_post (w_cut z σ4 a (fun q' σ2 => q' = sg_g σ 0 8 - a ∧ lwI σ2) ra ?_) (by rintro v σ' ⟨q, e, r, f9, w⟩; exact ⟨q, e, r, w.1, w.2, lkZ_F (lkZ_F hK f4 rfl) f9 rfl⟩)
  unfold V_cut
  rw [g2]
  refine fun σ1 e1 => ⟨fun _ => ⟨⟨by omega, by omega⟩, fun σ6 e6 => ⟨rfl, ?_⟩⟩, fun y3 => absurd y3 (by unfold v_in; rw [if_neg (by omega), if_neg (by omega)]; decide)⟩
  have f6 : sg_F [1088, 3088] σ4 σ6 := by rw [e6, e1]; exact sg_F_w (sg_F_w (sg_F_r _ _) rfl _) rfl _
  have F : sg_F [9000, 1088, 3088] σ σ6 := sg_F_t (sg_F_m f4 rfl) (sg_F_m f6 rfl)
  have k8 : sg_g σ6 0 8 = a := by rw [sg_F_g f6 (by rfl)]; exact g8
  refine lw_tape h F rfl rfl rfl ⟨by omega, by omega⟩ (by rw [e6, sg_gw_e _ _ _ _ ra, ← e6, k8]) (fun p p0 p1 => ?_)
  have t1 : tb σ6 p = tb σ p := by unfold tb; rw [sg_F_ga F rfl]
  rw [t1, sg_F_ga F rfl]
  exact a3 p p0 (by omega)
theorem lz_of (z : Value) {σ : sg_S} {d1 j1 d2 j2 : Nat} {l1 l2 : bm_L} (h1 : wx z d1 j1 0 l1 [] σ (lwA (fun _ σ' => lwZ σ'))) (h2 : ∀ σ1, lwZ σ1 → wx z d2 j2 0 l2 [] σ1 (lwA (fun _ σ' => lwZ σ'))) : lwP4 z d1 j1 l1 d2 j2 l2 σ (fun _ _ => True) :=
  wk_post h1 (by rintro v σ' ⟨q, e, r, w⟩; exact ⟨q, e, r, wk_post (h2 σ' w) (by rintro v2 σ2 ⟨q2, e2, r2, w2⟩; exact ⟨q2, e2, r2, trivial, w2⟩)⟩)
theorem lz_read (z : Value) {σ : sg_S} (h : lwZ σ) : lwP4 z 895 23 [(0, .inr (.inr (.ref 0)))] 10 310 [(0, .inr (.inr (.ref 88)))] σ (fun _ _ => True) := by
  obtain ⟨a1, a2, a3, a4, a5, a6, a7, a8, a9, a10⟩ := h.1
  have hC := h.2.2.1
  obtain ⟨c, ec⟩ : ∃ c : tkC, c = (tb σ, sg_g σ 0 8, sg_gl σ 37, (sg_gl σ 36 7, sg_g σ 36 6)) := ⟨_, rfl⟩
  have c1 : tb σ = c.1 := by rw [ec]
  have c2 : sg_g σ 0 8 = c.2.1 := by rw [ec]
  have c3 : sg_gl σ 37 = c.2.2.1 := by rw [ec]
  have c4 : (sg_gl σ 36 7, sg_g σ 36 6) = c.2.2.2 := by rw [ec]
  have hok : tkOK c := ⟨by rw [← c2]; exact a1.1, by rw [← c2]; exact a1.2, fun p => by rw [← c1]; exact tb_r σ p⟩
  have hb : bY c σ := ⟨hok, by rw [← c2]; exact a2, fun p p0 p1 => by rw [← c1]; exact a3 p p0 (by rw [c2]; exact p1)⟩
  have hr : rsv c.2.2.1 := by rw [← c3]; exact a4
  obtain ⟨t, N, hB, hV⟩ := tk_ex hb hr
  refine wk_post (cr8 z σ hB hV c1 c3 c2 c4) ?_
  rintro v σ1 ⟨⟨q, e, rq, f1, hR⟩, hLk⟩
  refine ⟨q, e, rq, ?_⟩
  have b1 : bY c σ1 := ⟨hok, by rw [sg_F_g f1 (by rfl)]; exact hb.2.1, fun p p0 p1 => by rw [sg_F_ga f1 rfl]; exact hb.2.2 p p0 p1⟩
  refine wk_post (w_readW z σ1 (fun _ σ2 => (¬ accP t N ∧ sg_g σ2 88 28 = 0 ∧ sg_g σ2 88 2 = sg_g σ1 88 2) ∨ (accP t N ∧ sg_g σ2 88 2 = 0 ∧ rfR σ2 ∧ lkS8 c σ2)) (q_read b1 hr ?_ ?_)) ?_
  · intro t' N' q' σ2 hB' hV' na g28 g2
    exact Or.inl ⟨fun y => na ((accP_eq hB hV hB' hV' c1 c3 c2 c4).mp y), g28, g2⟩
  · rintro t' N' A D r q' σ2 hB' hV' ya hp tr df g27 ⟨T, B, hk, hBo⟩ g28 g2
    have p1 := t_pg hp ⟨Int.le_refl _, by decide⟩
    have p2 := t_pg2 hp ⟨Int.le_refl _, by decide⟩ rfl
    obtain ⟨L, x1, x2, x3, -⟩ := id p2
    have ty := tyP (T2 := sg_g σ2 101) (B2 := sg_g σ2 102) D [] 0 T (sg_g σ2 101) B L x1 x2 x3 (fun d hd => by simp at hd) (fun c hc => by simp at hc) (fun x hx => (p1.1 x hx).2.1) hk (fun _ _ => rfl) (fun x _ => congrFun hBo x) (fun c hc => by simp at hc)
    have hX : pgX σ2 A D (sg_g σ2 101) (sg_g σ2 102) := ⟨tr, df, fun _ => rfl, fun _ => rfl, p1.2.2.2.2, fun j x hj => by
      have w := (ty.1 j x hj).1
      rw [Nat.zero_add] at w
      exact w⟩
    exact Or.inr ⟨(accP_eq hB hV hB' hV' c1 c3 c2 c4).mpr ya, g2, Or.inr ⟨g28, A, D, r, hX, g27, ty.2, p2⟩, t', N', A, D, r, T, B, hB', hV', hp, tr, df, g27, hk, g28, hBo, hX, ty.2⟩
  · rintro v' σ2 ⟨q', e', rq', f2, hQ⟩
    refine ⟨q', e', rq', trivial, ?_⟩
    have e37 : sg_gl σ2 37 = sg_gl σ 37 := funext fun x => by rw [sg_F_gal f2 rfl, sg_F_gal f1 rfl]
    have k8 : sg_g σ2 0 8 = sg_g σ1 0 8 := sg_F_g f2 (by rfl)
    have k10 : sg_g σ2 0 10 = sg_g σ1 0 10 := sg_F_g f2 (by rfl)
    have rest : ((0 ≤ sg_g σ2 88 52 ∧ sg_g σ2 88 52 ≤ 20) ∧ (0 ≤ sg_g σ2 88 82 ∧ sg_g σ2 88 82 ≤ 20) ∧ (0 ≤ sg_g σ2 88 76 ∧ sg_g σ2 88 76 ≤ 80000) ∧ (0 ≤ sg_g σ2 88 77 ∧ sg_g σ2 88 77 ≤ 80000)) := by
      rw [sg_F_g f2 (a := 88) (k := 52) (by rfl), sg_F_g f2 (a := 88) (k := 82) (by rfl), sg_F_g f2 (a := 88) (k := 76) (by rfl), sg_F_g f2 (a := 88) (k := 77) (by rfl), sg_F_g f1 (a := 88) (k := 52) (by rfl), sg_F_g f1 (a := 88) (k := 82) (by rfl), sg_F_g f1 (a := 88) (k := 76) (by rfl), sg_F_g f1 (a := 88) (k := 77) (by rfl)]
      exact ⟨a7, a8, a9, a10⟩
    have hC2 : sg_g σ2 0 11 = sg_g σ2 88 52 ∧ sg_g σ2 0 12 = sg_g σ2 88 82 := by
      rw [sg_F_g f2 (a := 0) (k := 11) (by rfl), sg_F_g f2 (a := 88) (k := 52) (by rfl), sg_F_g f1 (a := 0) (k := 11) (by rfl), sg_F_g f1 (a := 88) (k := 52) (by rfl), sg_F_g f2 (a := 0) (k := 12) (by rfl), sg_F_g f2 (a := 88) (k := 82) (by rfl), sg_F_g f1 (a := 0) (k := 12) (by rfl), sg_F_g f1 (a := 88) (k := 82) (by rfl)]
      exact hC
    rcases hR with ⟨n1, n2, n3⟩ | ⟨n1, n2, n3, A1, D1, q1, n4, n5⟩
    · rcases hQ with ⟨-, m2, m3⟩ | ⟨m1, -, -, -⟩
      · refine ⟨?_, ⟨by rw [k10, n2, m2], Or.inl m2⟩, hC2, Or.inl m2⟩
        refine ⟨by rw [k8, n3]; exact a1, by rw [m3, k8, n3, sg_F_g f1 (by rfl)]; exact a2, fun p p0 p1 => ?_, by rw [e37]; exact a4, Or.inl (by rw [k10]; exact n2), Or.inl m2, rest⟩
        rw [k8, n3] at p1
        have t1 : tb σ2 p = tb σ p := by unfold tb; rw [sg_F_ga f2 rfl, sg_F_ga f1 rfl]
        rw [t1, sg_F_ga f2 rfl, sg_F_ga f1 rfl]
        exact a3 p p0 p1
      · exact absurd m1 n1
    · rcases hQ with ⟨m1, -⟩ | ⟨-, m2, m3, m4⟩
      · exact absurd n1 m1
      · have n10 : ¬ sg_g σ1 0 10 = 0 := by rw [n2]; decide
        refine ⟨?_, lkS_of (lkS8_lk m4) f2 n2 (fun t' N' b1 b2 => (hLk t' N' b1 b2).resolve_left n10), hC2, Or.inr ?_⟩
        rotate_left
        · obtain ⟨t2, N2, A, D, r, T, B, s1, s2, s3, s4, s5, s6, s7, s8, s9, s10, s11⟩ := m4
          have e := pg_same hB s1 aE0
          rw [n4, s3] at e
          cases e
          have C2 := clR_F n5 f2 rfl
          refine ⟨_, _, _, C2, s10, s6, s11, ⟨B, fun x _ _ => congrFun s9 x⟩, fun n z1 z2 => ?_⟩
          obtain ⟨-, -, ⟨L, x1, x2, x3, x4⟩, -, ⟨T1, Tf, u1, u2⟩, -⟩ := C2
          rw [u2 n z1]
          exact kPg_e2 x1 u1 s7 n (x4 n z1 z2)
        refine ⟨by rw [k8, n3]; decide, by rw [m2, k8, n3], fun p p0 p1 => ?_, by rw [e37]; exact a4, Or.inr ⟨by rw [k10]; exact n2, flR_F (clR_fl n5) f2 rfl⟩, m3, rest⟩
        rw [k8, n3] at p1
        omega
