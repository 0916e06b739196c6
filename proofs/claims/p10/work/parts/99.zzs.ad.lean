/-! feed, cut, read, about, node of both sides: the same PROGRAM behind each. -/
abbrev lwP2 (z : Value) (d1 j1 : Nat) (l1 : bm_L) (d2 j2 : Nat) (l2 : bm_L) (σ : sg_S) (R : Int → Int → Prop) : Prop := wx z d1 j1 0 l1 [] σ (lwA (fun q σ1 => wx z d2 j2 0 l2 [] σ1 (lwA (fun q' σ2 => R q q' ∧ lwJ σ2))))
theorem lq_feed (z : Value) {σ : sg_S} {a : Int} (ra : sg_RL a) (h : lwJ σ) : lwP2 z 1 14 [(0, .inr (.inr (.ref 0))), (1, .inr (.inl a))] 0 229 [(0, .inr (.inr (.ref 88))), (1, .inr (.inl a))] σ (fun q q' => q' = q) := by
  have hK := h.2
  replace h := h.1
  obtain ⟨n, hn, h1, h2⟩ := bt_n a
  obtain ⟨a1, a2, a3, -⟩ := id h
  refine wk_post (w_cFeed z σ a (fun q σ1 => wx z 0 229 0 [(0, .inr (.inr (.ref 88))), (1, .inr (.inl a))] [] σ1 (lwA (fun q' σ2 => q' = q ∧ lwJ σ2))) ra (c_feed hn h1 h2 a1 (fun hb => ?_) (fun hb σ1 f1 e8 o1 o2 => ?_))) (by rintro v σ' ⟨q, e, r, -, w⟩; exact ⟨q, e, r, w⟩)
  · refine wk_post (w_feed z σ a (fun q' σ2 => q' = -3 ∧ lwI σ2) ra (q_feed hn h1 h2 (by rw [a2]; exact a1) (fun _ σ2 f => ⟨rfl, lwI_F h f rfl⟩) (fun hc => absurd hc (by rw [a2]; omega)))) (by rintro v σ' ⟨q, e, r, f9, w⟩; exact ⟨q, e, r, w.1, w.2, lkR_F hK f9 rfl⟩)
  · have e2 : sg_g σ1 88 2 = sg_g σ 0 8 := by rw [sg_F_g f1 (by rfl)]; exact a2
    refine wk_post (w_feed z σ1 a (fun q' σ2 => q' = sg_g σ 0 8 + n ∧ lwI σ2) ra (q_feed hn h1 h2 (by rw [e2]; exact a1) (fun hc => absurd hc (by rw [e2]; omega)) (fun _ σ2 f2 g1 g2 g3 => ⟨by rw [e2], ?_⟩))) (by rintro v σ' ⟨q, e, r, f9, w⟩; exact ⟨q, e, r, w.1, w.2, lkR_F (lkR_F hK f1 rfl) f9 rfl⟩)
    have F : sg_F [1, 89, 9000, 1088, 3088] σ σ2 := sg_F_t (sg_F_m f1 rfl) (sg_F_m f2 rfl)
    have e8' : sg_g σ2 0 8 = sg_g σ 0 8 + n := by rw [sg_F_g f2 (by rfl)]; exact e8
    have tt : ∀ p, tb σ2 p = tb σ1 p := fun p => by unfold tb; rw [sg_F_ga f2 rfl]
    refine lw_tape h F rfl rfl rfl ⟨by omega, by omega⟩ (by rw [g1, e2, e8']) (fun p p0 p1 => ?_)
    rw [tt]
    by_cases c : p < sg_g σ 0 8
    · rw [g2 p (by rw [e2]; exact c), sg_F_ga f1 rfl, o1 p c]
      exact a3 p p0 c
    · obtain ⟨k, ek⟩ : ∃ k : Nat, p = sg_g σ 0 8 + k := ⟨(p - sg_g σ 0 8).toNat, by omega⟩
      have kn : k < n := by omega
      have u := g3 k kn
      rw [e2, ← ek] at u
      rw [u, ek, o2 k kn]
theorem lq_cut (z : Value) {σ : sg_S} {a : Int} (ra : sg_R a) (h : lwJ σ) : lwP2 z 0 11 [(0, .inr (.inr (.ref 0))), (1, .inl a)] 1 219 [(0, .inr (.inr (.ref 88))), (1, .inl a)] σ (fun q q' => q' = q) := by
  have hK := h.2
  replace h := h.1
  obtain ⟨a1, a2, a3, -⟩ := id h
  have no : v_in a 0 (sg_g σ 88 2) = 0 → wx z 1 219 0 [(0, .inr (.inr (.ref 88))), (1, .inl a)] [] σ (lwA (fun q' σ2 => q' = -2 ∧ lwJ σ2)) := fun hv => by
    refine wk_post (w_cut z σ a (fun q' σ2 => q' = -2 ∧ lwI σ2) ra ?_) (by rintro v σ' ⟨q, e, r, f9, w⟩; exact ⟨q, e, r, w.1, w.2, lkR_F hK f9 rfl⟩)
    unfold V_cut
    intro σ1 e1
    exact ⟨fun y => absurd hv y, fun _ => ⟨rfl, lw_1088 h e1⟩⟩
  refine wk_post (w_cCut z σ a (fun q σ1 => wx z 1 219 0 [(0, .inr (.inr (.ref 88))), (1, .inl a)] [] σ1 (lwA (fun q' σ2 => q' = q ∧ lwJ σ2))) ra ?_) (by rintro v σ' ⟨q, e, r, -, w⟩; exact ⟨q, e, r, w⟩)
  unfold V_cCut
  refine ⟨fun y => no (by unfold v_in; rw [if_pos y]), fun y => ⟨fun y2 => ⟨⟨by omega, by omega⟩, fun σ4 e4 => ?_⟩, fun y2 => no (by unfold v_in; rw [if_neg (by omega), if_pos (by omega)])⟩⟩
  have f4 : sg_F [9000] σ σ4 := by rw [e4]; exact sg_F_w (sg_F_r _ _) rfl _
  have g2 : sg_g σ4 88 2 = sg_g σ 0 8 := by rw [sg_F_g f4 (by rfl)]; exact a2
  have g8 : sg_g σ4 0 8 = a := by rw [e4, sg_gw_e _ _ _ _ ra]
  refine wk_post (w_cut z σ4 a (fun q' σ2 => q' = sg_g σ 0 8 - a ∧ lwI σ2) ra ?_) (by rintro v σ' ⟨q, e, r, f9, w⟩; exact ⟨q, e, r, w.1, w.2, lkR_F (lkR_F hK f4 rfl) f9 rfl⟩)
  unfold V_cut
  rw [g2]
  refine fun σ1 e1 => ⟨fun _ => ⟨⟨by omega, by omega⟩, fun σ6 e6 => ⟨rfl, ?_⟩⟩, fun y3 => absurd y3 (by unfold v_in; rw [if_neg (by omega), if_neg (by omega)]; decide)⟩
  have f6 : sg_F [1088, 3088] σ4 σ6 := by rw [e6, e1]; exact sg_F_w (sg_F_w (sg_F_r _ _) rfl _) rfl _
  have F : sg_F [9000, 1088, 3088] σ σ6 := sg_F_t (sg_F_m f4 rfl) (sg_F_m f6 rfl)
  have k8 : sg_g σ6 0 8 = a := by rw [sg_F_g f6 (by rfl)]; exact g8
  refine lw_tape h F rfl rfl rfl ⟨by omega, by omega⟩ (by rw [e6, sg_gw_e _ _ _ _ ra, ← e6, k8]) (fun p p0 p1 => ?_)
  have t1 : tb σ6 p = tb σ p := by unfold tb; rw [sg_F_ga F rfl]
  rw [t1, sg_F_ga F rfl]
  exact a3 p p0 (by omega)
/-- the reference's PROGRAM is what was read -/
def lkS (c : tkC) (σ2 : sg_S) : Prop := ∃ t' N' A D r T, tkB c t' N' ∧ wT t' ∧ aPg t' N' aE0 = some (A, D, r) ∧ trT σ2 A ∧ dfR σ2 D ∧ sg_g σ2 88 27 = r ∧ kPg A D r T = some (sg_g σ2 101) ∧ sg_g σ2 88 28 = 1
theorem lkS_of {c : tkC} {σ1 σ2 : sg_S} (h : lkS c σ2) (f2 : sg_F [90, 91, 92, 93, 94, 95, 96, 97, 98, 99, 100, 101, 102, 103, 104, 105, 106, 107, 108, 109, 110, 111, 112, 113, 114, 115, 116, 117, 118, 1088, 3088, 4088, 8088, 9088, 20088, 28088, 29088, 30088, 31088, 32088, 35088, 37088, 38088, 43088, 46088, 52088, 82088] σ1 σ2) (n2 : sg_g σ1 0 10 = 1) (hl : ∀ t' N', tkB c t' N' → wT t' → lnk t' N' σ1) : lkR σ2 := by
  obtain ⟨t, N, A, D, r, T, b1, b2, b3, b4, b5, b6, b7, b8⟩ := h
  obtain ⟨A', D', r', T', Tf, d1, d2, d3, d4, d5, d6, d7⟩ := hl t N b1 b2
  rw [b3] at d1
  cases d1
  have p1 := t_pg b3 ⟨Int.le_refl _, by decide⟩
  have p2 := t_pg2 b3 ⟨Int.le_refl _, by decide⟩ rfl
  obtain ⟨L, x1, x2, x3, x4⟩ := p2
  have rr := x3 r (fT_sub x1 r (List.mem_append_right _ (by simp)))
  have e8 : sg_g σ2 88 8 = A.1 := b4.1.1
  have hA := p1.2.2.2.2
  refine ⟨by rw [sg_F_g f2 (by rfl), n2, b8], Or.inr ⟨by rw [sg_F_g f2 (by rfl), e8]; exact d4, by rw [sg_F_g f2 (by rfl), b5.1]; exact d5, by rw [sg_F_g f2 (by rfl), b6]; exact d6, ⟨by rw [b6]; exact rr.1, by rw [b6, e8]; exact rr.2, by rw [e8]; exact hA⟩, fun n n0 n1 => ⟨?_, ?_⟩⟩⟩
  · rw [e8] at n1
    rw [sg_F_ga f2 rfl, d3 n n0]
    exact kPg_e2 x1 d2 b7 n (x4 n n0 n1)
  · rw [e8] at n1
    rw [sg_F_ga f2 rfl, d7 n n0 n1]
    exact (b4.1.2.2.2 n n0 n1).2.1.symm
theorem lq_read (z : Value) {σ : sg_S} (h : lwJ σ) : lwP2 z 895 23 [(0, .inr (.inr (.ref 0)))] 10 310 [(0, .inr (.inr (.ref 88)))] σ (fun _ _ => True) := by
  obtain ⟨a1, a2, a3, a4, a5, a6, a7, a8, a9, a10⟩ := h.1
  obtain ⟨c, ec⟩ : ∃ c : tkC, c = (tb σ, sg_g σ 0 8, sg_gl σ 37, (sg_gl σ 36 7, sg_g σ 36 6)) := ⟨_, rfl⟩
  have c1 : tb σ = c.1 := by rw [ec]
  have c2 : sg_g σ 0 8 = c.2.1 := by rw [ec]
  have c3 : sg_gl σ 37 = c.2.2.1 := by rw [ec]
  have c4 : (sg_gl σ 36 7, sg_g σ 36 6) = c.2.2.2 := by rw [ec]
  have hok : tkOK c := ⟨by rw [← c2]; exact a1.1, by rw [← c2]; exact a1.2, fun p => by rw [← c1]; exact tb_r σ p⟩
  have hb : bY c σ := ⟨hok, by rw [← c2]; exact a2, fun p p0 p1 => by rw [← c1]; exact a3 p p0 (by rw [c2]; exact p1)⟩
  have hr : rsv c.2.2.1 := by rw [← c3]; exact a4
  obtain ⟨t, N, hB, hV⟩ := tk_ex hb hr
  refine wk_post (cr_lnk z σ hB hV c1 c3 c2 c4) ?_
  rintro v σ1 ⟨⟨q, e, rq, f1, hR⟩, hLk⟩
  refine ⟨q, e, rq, ?_⟩
  have b1 : bY c σ1 := ⟨hok, by rw [sg_F_g f1 (by rfl)]; exact hb.2.1, fun p p0 p1 => by rw [sg_F_ga f1 rfl]; exact hb.2.2 p p0 p1⟩
  refine wk_post (w_readW z σ1 (fun _ σ2 => (¬ accP t N ∧ sg_g σ2 88 28 = 0 ∧ sg_g σ2 88 2 = sg_g σ1 88 2) ∨ (accP t N ∧ sg_g σ2 88 2 = 0 ∧ rfR σ2 ∧ lkS c σ2)) (q_read b1 hr ?_ ?_)) ?_
  · intro t' N' q' σ2 hB' hV' na g28 g2
    exact Or.inl ⟨fun y => na ((accP_eq hB hV hB' hV' c1 c3 c2 c4).mp y), g28, g2⟩
  · rintro t' N' A D r q' σ2 hB' hV' ya hp tr df g27 ⟨T, B, hk, hBo⟩ g28 g2
    refine Or.inr ⟨(accP_eq hB hV hB' hV' c1 c3 c2 c4).mpr ya, g2, Or.inr ⟨g28, A, D, r, ?_⟩, t', N', A, D, r, T, hB', hV', hp, tr, df, g27, hk, g28⟩
    have p1 := t_pg hp ⟨Int.le_refl _, by decide⟩
    have p2 := t_pg2 hp ⟨Int.le_refl _, by decide⟩ rfl
    obtain ⟨L, x1, x2, x3, -⟩ := id p2
    have ty := tyP (T2 := sg_g σ2 101) (B2 := sg_g σ2 102) D [] 0 T (sg_g σ2 101) B L x1 x2 x3 (fun d hd => by simp at hd) (fun c hc => by simp at hc) (fun x hx => (p1.1 x hx).2.1) hk (fun _ _ => rfl) (fun x _ => congrFun hBo x) (fun c hc => by simp at hc)
    refine ⟨⟨tr, df, fun _ => rfl, fun _ => rfl, p1.2.2.2.2, fun j x hj => ?_⟩, g27, ty.2, p2⟩
    have w := (ty.1 j x hj).1
    rw [Nat.zero_add] at w
    exact w
  · rintro v' σ2 ⟨q', e', rq', f2, hQ⟩
    refine ⟨q', e', rq', trivial, ?_⟩
    have e37 : sg_gl σ2 37 = sg_gl σ 37 := funext fun x => by rw [sg_F_gal f2 rfl, sg_F_gal f1 rfl]
    have k8 : sg_g σ2 0 8 = sg_g σ1 0 8 := sg_F_g f2 (by rfl)
    have k10 : sg_g σ2 0 10 = sg_g σ1 0 10 := sg_F_g f2 (by rfl)
    have rest : ((0 ≤ sg_g σ2 88 52 ∧ sg_g σ2 88 52 ≤ 20) ∧ (0 ≤ sg_g σ2 88 82 ∧ sg_g σ2 88 82 ≤ 20) ∧ (0 ≤ sg_g σ2 88 76 ∧ sg_g σ2 88 76 ≤ 80000) ∧ (0 ≤ sg_g σ2 88 77 ∧ sg_g σ2 88 77 ≤ 80000)) := by
      rw [sg_F_g f2 (a := 88) (k := 52) (by rfl), sg_F_g f2 (a := 88) (k := 82) (by rfl), sg_F_g f2 (a := 88) (k := 76) (by rfl), sg_F_g f2 (a := 88) (k := 77) (by rfl), sg_F_g f1 (a := 88) (k := 52) (by rfl), sg_F_g f1 (a := 88) (k := 82) (by rfl), sg_F_g f1 (a := 88) (k := 76) (by rfl), sg_F_g f1 (a := 88) (k := 77) (by rfl)]
      exact ⟨a7, a8, a9, a10⟩
    rcases hR with ⟨n1, n2, n3⟩ | ⟨n1, n2, n3, n4⟩
    · rcases hQ with ⟨-, m2, m3⟩ | ⟨m1, -, -, -⟩
      · refine ⟨?_, by rw [k10, n2, m2], Or.inl m2⟩
        refine ⟨by rw [k8, n3]; exact a1, by rw [m3, k8, n3, sg_F_g f1 (by rfl)]; exact a2, fun p p0 p1 => ?_, by rw [e37]; exact a4, Or.inl (by rw [k10]; exact n2), Or.inl m2, rest⟩
        rw [k8, n3] at p1
        have t1 : tb σ2 p = tb σ p := by unfold tb; rw [sg_F_ga f2 rfl, sg_F_ga f1 rfl]
        rw [t1, sg_F_ga f2 rfl, sg_F_ga f1 rfl]
        exact a3 p p0 p1
      · exact absurd m1 n1
    · rcases hQ with ⟨m1, -⟩ | ⟨-, m2, m3, m4⟩
      · exact absurd n1 m1
      · have n10 : ¬ sg_g σ1 0 10 = 0 := by rw [n2]; decide
        refine ⟨?_, lkS_of m4 f2 n2 (fun t' N' b1 b2 => (hLk t' N' b1 b2).resolve_left n10)⟩
        refine ⟨by rw [k8, n3]; decide, by rw [m2, k8, n3], fun p p0 p1 => ?_, by rw [e37]; exact a4, Or.inr ⟨by rw [k10]; exact n2, flR_F n4 f2 rfl⟩, m3, rest⟩
        rw [k8, n3] at p1
        omega
theorem lq_of (z : Value) {σ : sg_S} {d1 j1 d2 j2 : Nat} {l1 l2 : bm_L} (h1 : wx z d1 j1 0 l1 [] σ (lwA (fun _ σ' => lwJ σ'))) (h2 : ∀ σ1, lwJ σ1 → wx z d2 j2 0 l2 [] σ1 (lwA (fun _ σ' => lwJ σ'))) : lwP2 z d1 j1 l1 d2 j2 l2 σ (fun _ _ => True) :=
  wk_post h1 (by rintro v σ' ⟨q, e, r, w⟩; exact ⟨q, e, r, wk_post (h2 σ' w) (by rintro v2 σ2 ⟨q2, e2, r2, w2⟩; exact ⟨q2, e2, r2, trivial, w2⟩)⟩)
theorem v_inT {a b c : Int} (h : ¬ v_in a b c = 0) : b ≤ a ∧ a ≤ c := by
  unfold v_in at h
  split at h
  · exact absurd rfl h
  · split at h
    · exact absurd rfl h
    · omega
theorem v_inF {a b c : Int} (h : v_in a b c = 0) : a < b ∨ c < a := by
  unfold v_in at h
  split at h
  · omega
  · split at h
    · omega
    · cases h
theorem lq_about (z : Value) {σ : sg_S} {a : Int} (ra : sg_R a) (h : lwJ σ) : lwP2 z 1 2 [(0, .inr (.inr (.ref 0))), (1, .inl a)] 1 209 [(0, .inr (.inr (.ref 88))), (1, .inl a)] σ (fun q q' => q' = q) := by
  have hK := h.2
  replace h := h.1
  have rv : sg_R (v_cAbout σ a) := by
    unfold v_cAbout
    repeat' split
    all_goals first | decide | exact sg_Rg _ _ _ | exact sx_R _ _ _ _
  refine wk_post (w_cAbout z σ a ra) ?_
  rintro v σ1 ⟨rfl, rfl⟩
  refine ⟨_, rfl, rv, ?_⟩
  refine wk_post (w_about z σ1 a (fun q' σ2 => q' = v_cAbout σ1 a ∧ lwI σ2) ra ?_) (by rintro v σ' ⟨q, e, r, f9, w⟩; exact ⟨q, e, r, w.1, w.2, lkR_F hK f9 rfl⟩)
  unfold V_about
  intro σ2 e2
  have h1 := lw_1088 h e2
  obtain ⟨k1, k2⟩ := hK
  refine ⟨fun y1 => ?_, fun y1 => ⟨?_, h1⟩⟩
  · have b := v_inT y1
    refine ⟨fun y2 => ⟨fun y3 => ?_, fun y3 => ⟨?_, h1⟩⟩, fun y2 => ⟨?_, h1⟩⟩
    · have k3 := k2.resolve_left y3
      have y4 : ¬ sg_g σ1 0 10 = 0 := by rw [k1]; exact y3
      obtain ⟨g1, g2, g3, g4, g5⟩ := k3
      refine ⟨fun y5 => ⟨fun y6 => ⟨⟨by omega, by omega⟩, ?_, h1⟩, fun y6 => ⟨?_, h1⟩⟩, fun y5 => ⟨?_, h1⟩⟩
      · have ea : a = 2 := by omega
        subst ea
        unfold v_cAbout
        rw [if_neg (by decide), if_pos (by decide), if_pos (by decide), if_pos y4, if_neg (by decide), g3, xa_in ⟨by omega, by omega⟩]
        exact (g5 _ (by omega) (by omega)).1.symm
      · subst y6
        unfold v_cAbout
        rw [if_neg (by decide), if_pos (by decide), if_pos (by decide), if_pos y4, if_pos (by decide), if_pos (by decide)]
        exact g2.symm
      · subst y5
        unfold v_cAbout
        rw [if_neg (by decide), if_pos (by decide), if_pos (by decide), if_pos y4, if_pos (by decide), if_neg (by decide)]
        exact g1.symm
    · unfold v_cAbout
      rw [if_neg (by omega), if_pos (by omega), if_pos y2, if_neg (by rw [k1]; exact fun w => w y3)]
    · unfold v_cAbout
      rw [if_neg (by omega), if_pos (by omega), if_neg (fun w => w y2)]
      exact h.2.1
  · unfold v_cAbout
    rcases v_inF y1 with w | w
    · rw [if_pos w]
    · rw [if_neg (by omega), if_neg (by omega)]
theorem lq_node (z : Value) {σ : sg_S} {a b : Int} (ra : sg_R a) (rb : sg_R b) (h : lwJ σ) : lwP2 z 1 20 [(0, .inr (.inr (.ref 0))), (1, .inl a), (2, .inl b)] 1 295 [(0, .inr (.inr (.ref 88))), (1, .inl a), (2, .inl b)] σ (fun q q' => q' = q) := by
  have hK := h.2
  replace h := h.1
  have rv : sg_R (v_cNode σ a b) := by
    unfold v_cNode
    repeat' split
    all_goals first | decide | exact sg_Rg _ _ _ | exact sx_R _ _ _ _
  refine wk_post (w_cNode z σ a b ra rb) ?_
  rintro v σ1 ⟨rfl, rfl⟩
  refine ⟨_, rfl, rv, ?_⟩
  refine wk_post (w_node z σ1 a b (fun q' σ2 => q' = v_cNode σ1 a b ∧ lwI σ2) ra rb ?_) (by rintro v σ' ⟨q, e, r, f9, w⟩; exact ⟨q, e, r, w.1, w.2, lkR_F hK f9 rfl⟩)
  unfold V_node
  intro σ2 e2
  have h1 := lw_1088 h e2
  obtain ⟨k1, k2⟩ := hK
  refine ⟨fun y3 => ?_, fun y3 => ⟨?_, h1⟩⟩
  · have k3 := k2.resolve_left y3
    have y4 : ¬ sg_g σ1 0 10 = 0 := by rw [k1]; exact y3
    obtain ⟨g1, g2, g3, g4, g5⟩ := k3
    refine ⟨⟨by omega, by omega⟩, fun y1 => ?_, fun y1 => ⟨?_, h1⟩⟩
    · have w := v_inT y1
      have w2 : a < sg_g σ1 2 16 := by rw [g1]; omega
      refine ⟨fun y5 => ⟨fun y6 => ⟨?_, h1⟩, fun y6 => ⟨⟨by omega, by omega⟩, ?_, h1⟩⟩, fun y5 => ⟨⟨by omega, by omega⟩, ?_, h1⟩⟩
      · unfold v_cNode
        rw [if_pos y4, if_neg (by omega), if_pos w2]
        by_cases c : b < 0
        · rw [if_pos c]
        · rw [if_neg c, if_neg (by omega)]
      · unfold v_cNode
        rw [if_pos y4, if_neg (by omega), if_pos w2, if_neg (by omega), if_pos (by omega), if_pos y5, xa_in ⟨by omega, by omega⟩]
        exact (g5 _ (by omega) (by omega)).1.symm
      · unfold v_cNode
        rw [if_pos y4, if_neg (by omega), if_pos w2, if_neg (by omega), if_pos (by omega), if_neg (fun w => w y5), xa_in ⟨by omega, by omega⟩]
        exact (g5 _ (by omega) (by omega)).2.symm
    · unfold v_cNode
      rw [if_pos y4]
      rcases v_inF y1 with w | w
      · rw [if_pos w]
      · rw [if_neg (by omega), if_neg (by rw [g1]; omega)]
  · unfold v_cNode
    rw [if_neg (by rw [k1]; exact fun w => w y3)]
/-! What the methods of the nested run of the class ask for. -/
def V_iClear49 (σ : sg_S) (Q : sg_S → Prop) : Prop := ∀ z, wx z 0 92 0 [(0, .inr (.inr (.ref 49)))] [] σ (fun v σ' => v = none ∧ sg_F [49] σ σ' ∧ Q σ')
theorem w_iClear49 (z : Value) (σ : sg_S) (Q : sg_S → Prop) (w : V_iClear49 σ Q) : wx z 0 92 0 [(0, .inr (.inr (.ref 49)))] [] σ (fun v σ' => v = none ∧ sg_F [49] σ σ' ∧ Q σ') := w z
def V_nDraw (σ : sg_S) (a1 : Int) (a2 : Int) (Q : sg_S → Prop) : Prop := ∀ z, wx z 6 139 0 [(0, .inr (.inr (.ref 45))), (1, .inl a1), (2, .inl a2)] [] σ (fun v σ' => v = none ∧ sg_F [49, 52] σ σ' ∧ Q σ')
theorem w_nDraw (z : Value) (σ : sg_S) (a1 : Int) (a2 : Int) (Q : sg_S → Prop) (_ : sg_R a1) (_ : sg_R a2) (w : V_nDraw σ a1 a2 Q) : wx z 6 139 0 [(0, .inr (.inr (.ref 45))), (1, .inl a1), (2, .inl a2)] [] σ (fun v σ' => v = none ∧ sg_F [49, 52] σ σ' ∧ Q σ') := w z
def V_iRender49 (σ : sg_S) (a1 : Int) (Q : sg_S → Prop) : Prop := ∀ z, wx z 6 95 0 [(0, .inr (.inr (.ref 49))), (1, .inl a1)] [] σ (fun v σ' => v = none ∧ sg_F [49, 50, 51] σ σ' ∧ Q σ')
theorem w_iRender49 (z : Value) (σ : sg_S) (a1 : Int) (Q : sg_S → Prop) (_ : sg_R a1) (w : V_iRender49 σ a1 Q) : wx z 6 95 0 [(0, .inr (.inr (.ref 49))), (1, .inl a1)] [] σ (fun v σ' => v = none ∧ sg_F [49, 50, 51] σ σ' ∧ Q σ') := w z
def V_nJoin (σ : sg_S) (a1 : Int) (Q : sg_S → Prop) : Prop := Q σ
theorem w_nJoin (z : Value) (σ : sg_S) (a1 : Int) (Q : sg_S → Prop) (_ : sg_R a1) (w : V_nJoin σ a1 Q) : wx z 0 146 0 [(0, .inr (.inr (.ref 45))), (1, .inl a1)] [] σ (fun v σ' => v = none ∧ sg_F [] σ σ' ∧ Q σ') := wk_rV tt_146 rfl rfl ⟨rfl, sg_F_r _ _, w⟩
-- NestedVectors$NestedRun.add
def V_nAdd (σ : sg_S) (a1 : Int) (Q : sg_S → Prop) : Prop := ∀ σ1, σ1 = (sx_put σ 54 200 ((sg_g σ 45 21)) (a1)) → sg_R ((sg_g σ 45 21) + 1) ∧ ∀ σ5, σ5 = (sg_w σ1 45 21 (((sg_g σ 45 21) + 1))) → Q σ5
set_option maxHeartbeats 4000000 in
set_option maxRecDepth 8000 in
theorem w_nAdd (z : Value) (σ : sg_S) (a1 : Int) (Q : sg_S → Prop) (ra1 : sg_R a1) (w : V_nAdd σ a1 Q) : wx z 1 129 0 [(0, .inr (.inr (.ref 45))), (1, .inl (a1))] [] σ (fun v σ' => v = none ∧ sg_F [54, 22045] σ σ' ∧ Q σ') := by
  unfold V_nAdd at w
  refine wk_b tt_129 5 (pc' := 9) (ls' := [(0, .inr (.inr (.ref 45))), (1, .inl (a1))]) (st' := [.inl (a1), .inl ((sg_g σ 45 21)), .inr (.inr (.ref 54))]) (σ' := σ) rfl ?_
  refine wk_callp tt_129 rfl rfl rfl rfl rfl tt_21 rfl (by decide) (pt_i0 z σ 54 200 ((sg_g σ 45 21)) (a1) rfl (by decide) (sg_Rg _ _ _)) ?_
  show wx z 1 129 12 [(0, .inr (.inr (.ref 45))), (1, .inl (a1))] [] (sx_put σ 54 200 ((sg_g σ 45 21)) (a1)) (fun v σ' => v = none ∧ sg_F [54, 22045] σ σ' ∧ Q σ')
  generalize hs2 : (sx_put σ 54 200 ((sg_g σ 45 21)) (a1)) = σ1
  have w := w σ1 hs2.symm
  have hF3 : sg_F [54] σ σ1 := by rw [← hs2]; exact sg_F_p (sg_F_r _ _) rfl _ _ _
  obtain ⟨c4, w⟩ := w
  refine wk_b tt_129 6 (pc' := 22) (ls' := [(0, .inr (.inr (.ref 45))), (1, .inl (a1))]) (st' := []) (σ' := (sg_w σ1 45 21 (((sg_g σ1 45 21) + 1)))) rfl ?_
  rw [show (sg_g σ1 45 21) = (sg_g σ 45 21) from by rw [sg_F_ga hF3 rfl]]
  generalize hs6 : (sg_w σ1 45 21 (((sg_g σ 45 21) + 1))) = σ5
  have w := w σ5 hs6.symm
  have hF7 : sg_F [22045] σ1 σ5 := by rw [← hs6]; exact sg_F_w (sg_F_r _ _) rfl _
  exact wk_rV tt_129 rfl rfl ⟨rfl, (sg_F_t (sg_F_t (sg_F_r [54, 22045] σ) (sg_F_m (L := [54, 22045]) hF3 rfl)) (sg_F_m (L := [54, 22045]) hF7 rfl)), w⟩
-- NestedVectors$NestedRun.lengthOf
def v_nLengthOf (σ : sg_S) (a1 : Int) : Int := (sx_at σ 53 9003 (a1))
set_option maxHeartbeats 4000000 in
set_option maxRecDepth 8000 in
theorem w_nLengthOf (z : Value) (σ : sg_S) (a1 : Int) (ra1 : sg_R a1) : wx z 1 149 0 [(0, .inr (.inr (.ref 45))), (1, .inl (a1))] [] σ (fun v σ' => v = some (.inl (v_nLengthOf σ a1)) ∧ σ' = σ) := by
  refine wk_b tt_149 3 (pc' := 5) (ls' := [(0, .inr (.inr (.ref 45))), (1, .inl (a1))]) (st' := [.inl (a1), .inr (.inr (.ref 53))]) (σ' := σ) rfl ?_
  refine wk_callp tt_149 rfl rfl rfl rfl rfl tt_5 rfl (by decide) (at_i0 z σ 53 9003 (a1) rfl (by decide) ra1) ?_
  show wx z 1 149 8 [(0, .inr (.inr (.ref 45))), (1, .inl (a1))] [.inl ((sx_at σ 53 9003 (a1)))] σ (fun v σ' => v = some (.inl (v_nLengthOf σ a1)) ∧ σ' = σ)
  exact wk_rI tt_149 rfl rfl ⟨by rw [v_nLengthOf], rfl⟩
theorem vF_nLengthOf {L : List Nat} {σ σ' : sg_S} {a1 : Int} (hF : sg_F L σ σ') (h0 : sg_ca L 53 = true) : v_nLengthOf σ' a1 = v_nLengthOf σ a1 := by
  unfold v_nLengthOf
  simp only [sg_F_ga (k := _) hF h0, sg_F_gal (k := _) hF h0, sx_F hF h0, sx_Fl hF h0]
theorem vr_nLengthOf (σ : sg_S) (a1 : Int) (ra1 : sg_R a1) : sg_R (v_nLengthOf σ a1) := by
  unfold v_nLengthOf
  first | exact sx_R .. | exact sx_Rl .. | exact w.1 | exact w.2.1 | exact w.2.2.1 | exact sg_Rg _ _ _ | exact sg_Rgl _ _ _ | exact sg_Rr _ | exact sg_RLr _ | assumption | omega | (constructor <;> omega)
-- NestedVectors$NestedRun.itemOf
def v_nItemOf (σ : sg_S) (a1 : Int) (a2 : Int) : Int := (sx_at σ 53 9003 (((a1 + 2) + a2)))
def p_nItemOf (σ : sg_S) (a1 : Int) (a2 : Int) : Prop := sg_R (a1 + 2) ∧ sg_R ((a1 + 2) + a2) ∧ True
set_option maxHeartbeats 4000000 in
set_option maxRecDepth 8000 in
theorem w_nItemOf (z : Value) (σ : sg_S) (a1 : Int) (a2 : Int) (ra1 : sg_R a1) (ra2 : sg_R a2) (w : p_nItemOf σ a1 a2) : wx z 1 145 0 [(0, .inr (.inr (.ref 45))), (1, .inl (a1)), (2, .inl (a2))] [] σ (fun v σ' => v = some (.inl (v_nItemOf σ a1 a2)) ∧ σ' = σ) := by
  unfold p_nItemOf at w
  obtain ⟨c1, w⟩ := w
  obtain ⟨c2, w⟩ := w
  refine wk_b tt_145 7 (pc' := 9) (ls' := [(0, .inr (.inr (.ref 45))), (1, .inl (a1)), (2, .inl (a2))]) (st' := [.inl (((a1 + 2) + a2)), .inr (.inr (.ref 53))]) (σ' := σ) rfl ?_
  refine wk_callp tt_145 rfl rfl rfl rfl rfl tt_5 rfl (by decide) (at_i0 z σ 53 9003 (((a1 + 2) + a2)) rfl (by decide) c2) ?_
  show wx z 1 145 12 [(0, .inr (.inr (.ref 45))), (1, .inl (a1)), (2, .inl (a2))] [.inl ((sx_at σ 53 9003 (((a1 + 2) + a2))))] σ (fun v σ' => v = some (.inl (v_nItemOf σ a1 a2)) ∧ σ' = σ)
  exact wk_rI tt_145 rfl rfl ⟨by rw [v_nItemOf], rfl⟩
theorem vF_nItemOf {L : List Nat} {σ σ' : sg_S} {a1 : Int} {a2 : Int} (hF : sg_F L σ σ') (h0 : sg_ca L 53 = true) : v_nItemOf σ' a1 a2 = v_nItemOf σ a1 a2 := by
  unfold v_nItemOf
  simp only [sg_F_ga (k := _) hF h0, sg_F_gal (k := _) hF h0, vF_nLengthOf hF h0, sx_F hF h0, sx_Fl hF h0]
theorem pF_nItemOf {L : List Nat} {σ σ' : sg_S} {a1 : Int} {a2 : Int} (hF : sg_F L σ σ') (h0 : sg_ca L 53 = true) : p_nItemOf σ' a1 a2 = p_nItemOf σ a1 a2 := by
  unfold p_nItemOf
  simp only [sg_F_ga (k := _) hF h0, sg_F_gal (k := _) hF h0, vF_nLengthOf hF h0, sx_F hF h0, sx_Fl hF h0]
theorem vr_nItemOf (σ : sg_S) (a1 : Int) (a2 : Int) (ra1 : sg_R a1) (ra2 : sg_R a2) (w : p_nItemOf σ a1 a2) : sg_R (v_nItemOf σ a1 a2) := by
  unfold v_nItemOf
  unfold p_nItemOf at w
  first | exact sx_R .. | exact sx_Rl .. | exact w.1 | exact w.2.1 | exact w.2.2.1 | exact sg_Rg _ _ _ | exact sg_Rgl _ _ _ | exact sg_Rr _ | exact sg_RLr _ | assumption | omega | (constructor <;> omega)
-- NestedVectors$NestedRun.addAll
def V_nAddAll (σ : sg_S) (a1 : Int) (Q : sg_S → Prop) : Prop := (∃ (I4 : Nat → Int → sg_S → Prop) (X6 : sg_S → Prop), (∃ n, I4 n (0) σ) ∧ (∀ (n14 : Nat) (v1 : Int) (σ2 : sg_S), sg_R v1 → sg_F [54, 22045] σ σ2 → I4 n14 v1 σ2 → (((v_nLengthOf σ (a1)) ≤ v1 → X6 σ2) ∧ (v1 < (v_nLengthOf σ (a1)) → p_nItemOf σ (a1) (v1) ∧ V_nAdd σ2 ((v_nItemOf σ (a1) (v1))) (fun σ21 => sg_F [54, 22045] σ2 σ21 → sg_R (v1 + 1) ∧ (∃ m, m < n14 ∧ I4 m ((v1 + 1)) σ21))))) ∧ (∀ (σ2 : sg_S), sg_F [54, 22045] σ σ2 → X6 σ2 → Q σ2))
set_option maxHeartbeats 4000000 in
set_option maxRecDepth 8000 in
theorem w_nAddAll (z : Value) (σ : sg_S) (a1 : Int) (Q : sg_S → Prop) (ra1 : sg_R a1) (w : V_nAddAll σ a1 Q) : wx z 2 130 0 [(0, .inr (.inr (.ref 45))), (1, .inl (a1))] [] σ (fun v σ' => v = none ∧ sg_F [54, 22045] σ σ' ∧ Q σ') := by
  unfold V_nAddAll at w
  refine wk_b tt_130 2 (pc' := 2) (ls' := [(2, .inl (0)), (0, .inr (.inr (.ref 45))), (1, .inl (a1))]) (st' := []) (σ' := σ) rfl ?_
  obtain ⟨I4, X6, ⟨μ5, w11⟩, w12, w13⟩ := w
  have ex15 : ∀ (σ2 : sg_S), sg_F [54, 22045] σ σ2 → X6 σ2 → wx z 2 130 27 [] [] σ2 (fun v σ' => v = none ∧ sg_F [54, 22045] σ σ' ∧ Q σ') := by
    intro σ2 hF3 w
    have w := w13 σ2 hF3 w
    exact wk_rV tt_130 rfl rfl ⟨rfl, (sg_F_t (sg_F_r [54, 22045] σ) (sg_F_m (L := [54, 22045]) hF3 rfl)), w⟩
  have lp10 : ∀ (n14 : Nat) (v1 : Int) (σ2 : sg_S), sg_R v1 → sg_F [54, 22045] σ σ2 → I4 n14 v1 σ2 → wx z 2 130 2 [(0, .inr (.inr (.ref 45))), (1, .inl (a1)), (2, .inl (v1))] [] σ2 (fun v σ' => v = none ∧ sg_F [54, 22045] σ σ' ∧ Q σ') := by
    intro n14
    induction n14 using Nat.strongRecOn with
    | _ n14 ih8 =>
      intro v1 σ2 r7 hF3 w
      have w := w12 n14 v1 σ2 r7 hF3 w
      refine wk_b tt_130 3 (pc' := 5) (ls' := [(0, .inr (.inr (.ref 45))), (1, .inl (a1)), (2, .inl (v1))]) (st' := [.inl (a1), .inr (.inr (.ref 45)), .inl (v1)]) (σ' := σ2) rfl ?_
      refine wk_callp tt_130 rfl rfl rfl rfl rfl tt_149 rfl (by decide) (w_nLengthOf z σ2 (a1) ra1 ) ?_
      rw [vF_nLengthOf hF3 rfl]
      have r16 := vr_nLengthOf σ  (a1) ra1 
      refine wk_if2 tt_130 (tgt := 27) rfl rfl r7 r16 (fun (h17 : (v_nLengthOf σ (a1)) ≤ v1) => ?_) (fun (h17 : v1 < (v_nLengthOf σ (a1))) => ?_)
      ·
        have w := w.1 h17
        exact wk_ls [] rfl trivial (ex15  σ2  (sg_F_t (sg_F_r [54, 22045] σ) (sg_F_m (L := [54, 22045]) hF3 rfl)) w)
      ·
        have w := w.2 h17
        refine wk_b tt_130 4 (pc' := 15) (ls' := [(0, .inr (.inr (.ref 45))), (1, .inl (a1)), (2, .inl (v1))]) (st' := [.inl (v1), .inl (a1), .inr (.inr (.ref 45)), .inr (.inr (.ref 45))]) (σ' := σ2) rfl ?_
        obtain ⟨c18, w⟩ := w
        have c18 : p_nItemOf σ2 (a1) (v1) := by
          rw [pF_nItemOf hF3 rfl]; exact c18
        refine wk_callp tt_130 rfl rfl rfl rfl rfl tt_145 rfl (by decide) (w_nItemOf z σ2 (a1) (v1) ra1 r7 c18) ?_
        rw [vF_nItemOf hF3 rfl]
        have r19 := vr_nItemOf σ  (a1) (v1) ra1 r7 (by have q := c18; rw [pF_nItemOf hF3 rfl] at q; exact q)
        refine wk_call tt_130 rfl rfl rfl rfl rfl tt_129 rfl (by decide) (w_nAdd z σ2 ((v_nItemOf σ (a1) (v1))) _ r19 w) (fun u25 σ21 hq23 => ?_)
        obtain ⟨rfl, hF22, w⟩ := hq23
        have w := w hF22
        obtain ⟨c26, w⟩ := w
        refine wk_b tt_130 2 (pc' := 2) (ls' := [(2, .inl ((v1 + 1))), (0, .inr (.inr (.ref 45))), (1, .inl (a1))]) (st' := []) (σ' := σ21) rfl ?_
        obtain ⟨m27, hm27, w⟩ := w
        exact wk_ls [(0, .inr (.inr (.ref 45))), (1, .inl (a1)), (2, .inl ((v1 + 1)))] rfl ⟨rfl, rfl, rfl, trivial⟩ (ih8 m27 hm27 ((v1 + 1)) σ21 c26 (sg_F_t (sg_F_t (sg_F_r [54, 22045] σ) (sg_F_m (L := [54, 22045]) hF3 rfl)) (sg_F_m (L := [54, 22045]) hF22 rfl)) w)
  exact wk_ls [(0, .inr (.inr (.ref 45))), (1, .inl (a1)), (2, .inl (0))] rfl ⟨rfl, rfl, rfl, trivial⟩ (lp10 μ5 (0) σ (by decide) (sg_F_r _ _) w11)
-- NestedVectors.badSize
def v_yBadSize  (a0 : Int) : Int := (if a0 < 0 then (1 : Int) else (if a0 ≤ 200 then (0 : Int) else (1 : Int)))
theorem vz_yBadSize  {a0 : Int} : v_yBadSize a0 = 0 ∨ v_yBadSize a0 = 1 := by
  unfold v_yBadSize
  by_cases h : a0 < 0
  · rw [if_pos h]
    exact Or.inr rfl
  · rw [if_neg h]
    by_cases h : a0 ≤ 200
    · rw [if_pos h]
      exact Or.inl rfl
    · rw [if_neg h]
      exact Or.inr rfl
set_option maxHeartbeats 4000000 in
set_option maxRecDepth 8000 in
theorem w_yBadSize (z : Value) (σ : sg_S) (a0 : Int) (ra0 : sg_R a0) : wx z 0 7 0 [(0, .inl (a0))] [] σ (fun v σ' => v = some (.inl (v_yBadSize a0)) ∧ σ' = σ) := by
  refine wk_b tt_7 1 (pc' := 1) (ls' := [(0, .inl (a0))]) (st' := [.inl (a0)]) (σ' := σ) rfl ?_
  refine wk_if tt_7 (tgt := 11) rfl rfl ra0 (fun (h1 : a0 < 0) => ?_) (fun (h1 : 0 ≤ a0) => ?_)
  ·
    refine wk_b tt_7 2 (pc' := 16) (ls' := [(0, .inl (a0))]) (st' := [.inl (1)]) (σ' := σ) rfl ?_
    exact wk_rZ tt_7 rfl rfl (by decide) ⟨by rw [v_yBadSize, if_pos h1], rfl⟩
  ·
    refine wk_b tt_7 2 (pc' := 8) (ls' := [(0, .inl (a0))]) (st' := [.inl (200), .inl (a0)]) (σ' := σ) rfl ?_
    refine wk_if2 tt_7 (tgt := 15) rfl rfl ra0 (by decide) (fun (h2 : a0 ≤ 200) => ?_) (fun (h2 : 200 < a0) => ?_)
    ·
      refine wk_b tt_7 1 (pc' := 16) (ls' := [(0, .inl (a0))]) (st' := [.inl (0)]) (σ' := σ) rfl ?_
      exact wk_rZ tt_7 rfl rfl (by decide) ⟨by rw [v_yBadSize, if_neg (show ¬ (a0 < 0) by omega), if_pos h2], rfl⟩
    ·
      refine wk_b tt_7 2 (pc' := 16) (ls' := [(0, .inl (a0))]) (st' := [.inl (1)]) (σ' := σ) rfl ?_
      exact wk_rZ tt_7 rfl rfl (by decide) ⟨by rw [v_yBadSize, if_neg (show ¬ (a0 < 0) by omega), if_neg (show ¬ (a0 ≤ 200) by omega)], rfl⟩
-- NestedVectors$NestedRun.countOf
def v_nCountOf (σ : sg_S) (a1 : Int) : Int := (sx_at σ 53 9003 ((a1 + 1)))
def p_nCountOf (σ : sg_S) (a1 : Int) : Prop := sg_R (a1 + 1) ∧ True
set_option maxHeartbeats 4000000 in
set_option maxRecDepth 8000 in
theorem w_nCountOf (z : Value) (σ : sg_S) (a1 : Int) (ra1 : sg_R a1) (w : p_nCountOf σ a1) : wx z 1 136 0 [(0, .inr (.inr (.ref 45))), (1, .inl (a1))] [] σ (fun v σ' => v = some (.inl (v_nCountOf σ a1)) ∧ σ' = σ) := by
  unfold p_nCountOf at w
  obtain ⟨c1, w⟩ := w
  refine wk_b tt_136 5 (pc' := 7) (ls' := [(0, .inr (.inr (.ref 45))), (1, .inl (a1))]) (st' := [.inl ((a1 + 1)), .inr (.inr (.ref 53))]) (σ' := σ) rfl ?_
  refine wk_callp tt_136 rfl rfl rfl rfl rfl tt_5 rfl (by decide) (at_i0 z σ 53 9003 ((a1 + 1)) rfl (by decide) c1) ?_
  show wx z 1 136 10 [(0, .inr (.inr (.ref 45))), (1, .inl (a1))] [.inl ((sx_at σ 53 9003 ((a1 + 1))))] σ (fun v σ' => v = some (.inl (v_nCountOf σ a1)) ∧ σ' = σ)
  exact wk_rI tt_136 rfl rfl ⟨by rw [v_nCountOf], rfl⟩
theorem vF_nCountOf {L : List Nat} {σ σ' : sg_S} {a1 : Int} (hF : sg_F L σ σ') (h0 : sg_ca L 53 = true) : v_nCountOf σ' a1 = v_nCountOf σ a1 := by
  unfold v_nCountOf
  simp only [sg_F_ga (k := _) hF h0, sg_F_gal (k := _) hF h0, vF_nLengthOf hF h0, vF_nItemOf hF h0, pF_nItemOf hF h0, sx_F hF h0, sx_Fl hF h0]
theorem pF_nCountOf {L : List Nat} {σ σ' : sg_S} {a1 : Int} (hF : sg_F L σ σ') (h0 : sg_ca L 53 = true) : p_nCountOf σ' a1 = p_nCountOf σ a1 := by
  unfold p_nCountOf
  simp only [sg_F_ga (k := _) hF h0, sg_F_gal (k := _) hF h0, vF_nLengthOf hF h0, vF_nItemOf hF h0, pF_nItemOf hF h0, sx_F hF h0, sx_Fl hF h0]
theorem vr_nCountOf (σ : sg_S) (a1 : Int) (ra1 : sg_R a1) (w : p_nCountOf σ a1) : sg_R (v_nCountOf σ a1) := by
  unfold v_nCountOf
  unfold p_nCountOf at w
  first | exact sx_R .. | exact sx_Rl .. | exact w.1 | exact w.2.1 | exact w.2.2.1 | exact sg_Rg _ _ _ | exact sg_Rgl _ _ _ | exact sg_Rr _ | exact sg_RLr _ | assumption | omega | (constructor <;> omega)
-- NestedVectors$NestedRun.spend
def V_nSpend (σ : sg_S) (a1 : Int) (Q : Int → sg_S → Prop) : Prop := sg_R ((sg_g σ 45 22) + a1) ∧ ((((sg_g σ 45 22) + a1) ≤ 3000 → ∀ σ3, σ3 = (sg_w σ 45 22 (((sg_g σ 45 22) + a1))) → Q (1) σ3) ∧ (3000 < ((sg_g σ 45 22) + a1) → ∀ σ6, σ6 = (sg_w σ 45 10 (7)) → Q (0) σ6))
set_option maxHeartbeats 4000000 in
set_option maxRecDepth 8000 in
theorem w_nSpend (z : Value) (σ : sg_S) (a1 : Int) (Q : Int → sg_S → Prop) (ra1 : sg_R a1) (w : V_nSpend σ a1 Q) : wx z 0 162 0 [(0, .inr (.inr (.ref 45))), (1, .inl (a1))] [] σ (fun v σ' => ∃ q, v = some (.inl q) ∧ (q = 0 ∨ q = 1) ∧ sg_F [11045, 23045] σ σ' ∧ Q q σ') := by
  unfold V_nSpend at w
  obtain ⟨c1, w⟩ := w
  refine wk_b tt_162 5 (pc' := 9) (ls' := [(0, .inr (.inr (.ref 45))), (1, .inl (a1))]) (st' := [.inl (3000), .inl (((sg_g σ 45 22) + a1))]) (σ' := σ) rfl ?_
  refine wk_if2 tt_162 (tgt := 20) rfl rfl c1 (by decide) (fun (h2 : ((sg_g σ 45 22) + a1) ≤ 3000) => ?_) (fun (h2 : 3000 < ((sg_g σ 45 22) + a1)) => ?_)
  ·
    have w := w.1 h2
    refine wk_b tt_162 6 (pc' := 30) (ls' := [(0, .inr (.inr (.ref 45))), (1, .inl (a1))]) (st' := []) (σ' := (sg_w σ 45 22 (((sg_g σ 45 22) + a1)))) rfl ?_
    generalize hs4 : (sg_w σ 45 22 (((sg_g σ 45 22) + a1))) = σ3
    have w := w σ3 hs4.symm
    have hF5 : sg_F [23045] σ σ3 := by rw [← hs4]; exact sg_F_w (sg_F_r _ _) rfl _
    refine wk_b tt_162 1 (pc' := 31) (ls' := [(0, .inr (.inr (.ref 45))), (1, .inl (a1))]) (st' := [.inl (1)]) (σ' := σ3) rfl ?_
    exact wk_rZ tt_162 rfl rfl (by decide) ⟨_, rfl, (by decide), (sg_F_t (sg_F_r [11045, 23045] σ) (sg_F_m (L := [11045, 23045]) hF5 rfl)), w⟩
  ·
    have w := w.2 h2
    refine wk_b tt_162 3 (pc' := 18) (ls' := [(0, .inr (.inr (.ref 45))), (1, .inl (a1))]) (st' := []) (σ' := (sg_w σ 45 10 (7))) rfl ?_
    generalize hs7 : (sg_w σ 45 10 (7)) = σ6
    have w := w σ6 hs7.symm
    have hF8 : sg_F [11045] σ σ6 := by rw [← hs7]; exact sg_F_w (sg_F_r _ _) rfl _
    refine wk_b tt_162 1 (pc' := 19) (ls' := [(0, .inr (.inr (.ref 45))), (1, .inl (a1))]) (st' := [.inl (0)]) (σ' := σ6) rfl ?_
    exact wk_rZ tt_162 rfl rfl (by decide) ⟨_, rfl, (by decide), (sg_F_t (sg_F_r [11045, 23045] σ) (sg_F_m (L := [11045, 23045]) hF8 rfl)), w⟩
-- NestedVectors$NestedRun.keep
def V_nKeep (σ : sg_S) (a1 : Int) (Q : sg_S → Prop) : Prop := ∀ σ1, σ1 = (sx_put σ 53 9003 ((sg_g σ 45 20)) ((sg_g σ 45 21))) → sg_R ((sg_g σ 45 20) + 1) ∧ ∀ σ5, σ5 = (sx_put σ1 53 9003 (((sg_g σ 45 20) + 1)) (a1)) → (∃ (I11 : Nat → Int → sg_S → Prop) (X13 : sg_S → Prop), (∃ n, I11 n (0) σ5) ∧ (∀ (n21 : Nat) (v8 : Int) (σ9 : sg_S), sg_R v8 → sg_F [53] σ5 σ9 → I11 n21 v8 σ9 → (((sg_g σ 45 21) ≤ v8 → X13 σ9) ∧ (v8 < (sg_g σ 45 21) → sg_R ((sg_g σ 45 20) + 2) ∧ sg_R (((sg_g σ 45 20) + 2) + v8) ∧ ∀ σ41, σ41 = (sx_put σ9 53 9003 ((((sg_g σ 45 20) + 2) + v8)) ((sx_at σ 54 200 (v8)))) → sg_R (v8 + 1) ∧ (∃ m, m < n21 ∧ I11 m ((v8 + 1)) σ41)))) ∧ (∀ (σ9 : sg_S), sg_F [53] σ5 σ9 → X13 σ9 → sg_R ((sg_g σ 45 20) + 2) ∧ sg_R (((sg_g σ 45 20) + 2) + (sg_g σ 45 21)) ∧ ∀ σ25, σ25 = (sg_w σ9 45 20 ((((sg_g σ 45 20) + 2) + (sg_g σ 45 21)))) → ∀ σ28, σ28 = (sg_w σ25 45 21 (0)) → ∀ σ31, σ31 = (sx_put σ28 48 3200 ((sg_g σ 45 7)) ((sg_g σ 45 20))) → sg_R ((sg_g σ 45 7) + 1) ∧ ∀ σ35, σ35 = (sg_w σ31 45 7 (((sg_g σ 45 7) + 1))) → Q σ35))
set_option maxHeartbeats 4000000 in
set_option maxRecDepth 8000 in
theorem w_nKeep (z : Value) (σ : sg_S) (a1 : Int) (Q : sg_S → Prop) (ra1 : sg_R a1) (w : V_nKeep σ a1 Q) : wx z 1 147 0 [(0, .inr (.inr (.ref 45))), (1, .inl (a1))] [] σ (fun v σ' => v = none ∧ sg_F [48, 53, 8045, 21045, 22045] σ σ' ∧ Q σ') := by
  unfold V_nKeep at w
  refine wk_b tt_147 8 (pc' := 14) (ls' := [(2, .inl ((sg_g σ 45 20))), (0, .inr (.inr (.ref 45))), (1, .inl (a1))]) (st' := [.inl ((sg_g σ 45 21)), .inl ((sg_g σ 45 20)), .inr (.inr (.ref 53))]) (σ' := σ) rfl ?_
  refine wk_callp tt_147 rfl rfl rfl rfl rfl tt_21 rfl (by decide) (pt_i0 z σ 53 9003 ((sg_g σ 45 20)) ((sg_g σ 45 21)) rfl (by decide) (sg_Rg _ _ _)) ?_
  show wx z 1 147 17 [(2, .inl ((sg_g σ 45 20))), (0, .inr (.inr (.ref 45))), (1, .inl (a1))] [] (sx_put σ 53 9003 ((sg_g σ 45 20)) ((sg_g σ 45 21))) (fun v σ' => v = none ∧ sg_F [48, 53, 8045, 21045, 22045] σ σ' ∧ Q σ')
  generalize hs2 : (sx_put σ 53 9003 ((sg_g σ 45 20)) ((sg_g σ 45 21))) = σ1
  have w := w σ1 hs2.symm
  have hF3 : sg_F [53] σ σ1 := by rw [← hs2]; exact sg_F_p (sg_F_r _ _) rfl _ _ _
  obtain ⟨c4, w⟩ := w
  refine wk_b tt_147 6 (pc' := 25) (ls' := [(2, .inl ((sg_g σ 45 20))), (0, .inr (.inr (.ref 45))), (1, .inl (a1))]) (st' := [.inl (a1), .inl (((sg_g σ 45 20) + 1)), .inr (.inr (.ref 53))]) (σ' := σ1) rfl ?_
  refine wk_callp tt_147 rfl rfl rfl rfl rfl tt_21 rfl (by decide) (pt_i0 z σ1 53 9003 (((sg_g σ 45 20) + 1)) (a1) rfl (by decide) c4) ?_
  show wx z 1 147 28 [(2, .inl ((sg_g σ 45 20))), (0, .inr (.inr (.ref 45))), (1, .inl (a1))] [] (sx_put σ1 53 9003 (((sg_g σ 45 20) + 1)) (a1)) (fun v σ' => v = none ∧ sg_F [48, 53, 8045, 21045, 22045] σ σ' ∧ Q σ')
  generalize hs6 : (sx_put σ1 53 9003 (((sg_g σ 45 20) + 1)) (a1)) = σ5
  have w := w σ5 hs6.symm
  have hF7 : sg_F [53] σ1 σ5 := by rw [← hs6]; exact sg_F_p (sg_F_r _ _) rfl _ _ _
  refine wk_b tt_147 2 (pc' := 30) (ls' := [(3, .inl (0)), (2, .inl ((sg_g σ 45 20))), (0, .inr (.inr (.ref 45))), (1, .inl (a1))]) (st' := []) (σ' := σ5) rfl ?_
  obtain ⟨I11, X13, ⟨μ12, w18⟩, w19, w20⟩ := w
  have ex22 : ∀ (σ9 : sg_S), sg_F [53] σ5 σ9 → X13 σ9 → wx z 1 147 64 [(0, .inr (.inr (.ref 45))), (2, .inl ((sg_g σ 45 20)))] [] σ9 (fun v σ' => v = none ∧ sg_F [48, 53, 8045, 21045, 22045] σ σ' ∧ Q σ') := by
    intro σ9 hF10 w
    have w := w20 σ9 hF10 w
    obtain ⟨c23, w⟩ := w
    obtain ⟨c24, w⟩ := w
    refine wk_b tt_147 8 (pc' := 76) (ls' := [(0, .inr (.inr (.ref 45))), (2, .inl ((sg_g σ 45 20)))]) (st' := []) (σ' := (sg_w σ9 45 20 ((((sg_g σ 45 20) + 2) + (sg_g σ9 45 21))))) rfl ?_
    rw [show (sg_g σ9 45 21) = (sg_g σ 45 21) from by rw [sg_F_ga hF10 rfl, sg_F_ga hF7 rfl, sg_F_ga hF3 rfl]]
    generalize hs26 : (sg_w σ9 45 20 ((((sg_g σ 45 20) + 2) + (sg_g σ 45 21)))) = σ25
    have w := w σ25 hs26.symm
    have hF27 : sg_F [21045] σ9 σ25 := by rw [← hs26]; exact sg_F_w (sg_F_r _ _) rfl _
    refine wk_b tt_147 3 (pc' := 81) (ls' := [(0, .inr (.inr (.ref 45))), (2, .inl ((sg_g σ 45 20)))]) (st' := []) (σ' := (sg_w σ25 45 21 (0))) rfl ?_
    generalize hs29 : (sg_w σ25 45 21 (0)) = σ28
    have w := w σ28 hs29.symm
    have hF30 : sg_F [22045] σ25 σ28 := by rw [← hs29]; exact sg_F_w (sg_F_r _ _) rfl _
    refine wk_b tt_147 5 (pc' := 90) (ls' := [(0, .inr (.inr (.ref 45))), (2, .inl ((sg_g σ 45 20)))]) (st' := [.inl ((sg_g σ 45 20)), .inl ((sg_g σ28 45 7)), .inr (.inr (.ref 48))]) (σ' := σ28) rfl ?_
    rw [show (sg_g σ28 45 7) = (sg_g σ 45 7) from by rw [sg_F_g hF30 rfl, sg_F_g hF27 rfl, sg_F_ga hF10 rfl, sg_F_ga hF7 rfl, sg_F_ga hF3 rfl]]
    refine wk_callp tt_147 rfl rfl rfl rfl rfl tt_21 rfl (by decide) (pt_i0 z σ28 48 3200 ((sg_g σ 45 7)) ((sg_g σ 45 20)) rfl (by decide) (sg_Rg _ _ _)) ?_
    show wx z 1 147 93 [(0, .inr (.inr (.ref 45))), (2, .inl ((sg_g σ 45 20)))] [] (sx_put σ28 48 3200 ((sg_g σ 45 7)) ((sg_g σ 45 20))) (fun v σ' => v = none ∧ sg_F [48, 53, 8045, 21045, 22045] σ σ' ∧ Q σ')
    generalize hs32 : (sx_put σ28 48 3200 ((sg_g σ 45 7)) ((sg_g σ 45 20))) = σ31
    have w := w σ31 hs32.symm
    have hF33 : sg_F [48] σ28 σ31 := by rw [← hs32]; exact sg_F_p (sg_F_r _ _) rfl _ _ _
    obtain ⟨c34, w⟩ := w
    refine wk_b tt_147 6 (pc' := 103) (ls' := [(0, .inr (.inr (.ref 45))), (2, .inl ((sg_g σ 45 20)))]) (st' := []) (σ' := (sg_w σ31 45 7 (((sg_g σ31 45 7) + 1)))) rfl ?_
    rw [show (sg_g σ31 45 7) = (sg_g σ 45 7) from by rw [sg_F_ga hF33 rfl, sg_F_g hF30 rfl, sg_F_g hF27 rfl, sg_F_ga hF10 rfl, sg_F_ga hF7 rfl, sg_F_ga hF3 rfl]]
    generalize hs36 : (sg_w σ31 45 7 (((sg_g σ 45 7) + 1))) = σ35
    have w := w σ35 hs36.symm
    have hF37 : sg_F [8045] σ31 σ35 := by rw [← hs36]; exact sg_F_w (sg_F_r _ _) rfl _
    exact wk_rV tt_147 rfl rfl ⟨rfl, (sg_F_t (sg_F_t (sg_F_t (sg_F_t (sg_F_t (sg_F_t (sg_F_t (sg_F_r [48, 53, 8045, 21045, 22045] σ) (sg_F_m (L := [48, 53, 8045, 21045, 22045]) hF3 rfl)) (sg_F_m (L := [48, 53, 8045, 21045, 22045]) hF7 rfl)) (sg_F_m (L := [48, 53, 8045, 21045, 22045]) hF10 rfl)) (sg_F_m (L := [48, 53, 8045, 21045, 22045]) hF27 rfl)) (sg_F_m (L := [48, 53, 8045, 21045, 22045]) hF30 rfl)) (sg_F_m (L := [48, 53, 8045, 21045, 22045]) hF33 rfl)) (sg_F_m (L := [48, 53, 8045, 21045, 22045]) hF37 rfl)), w⟩
  have lp17 : ∀ (n21 : Nat) (v8 : Int) (σ9 : sg_S), sg_R v8 → sg_F [53] σ5 σ9 → I11 n21 v8 σ9 → wx z 1 147 30 [(0, .inr (.inr (.ref 45))), (2, .inl ((sg_g σ 45 20))), (3, .inl (v8))] [] σ9 (fun v σ' => v = none ∧ sg_F [48, 53, 8045, 21045, 22045] σ σ' ∧ Q σ') := by
    intro n21
    induction n21 using Nat.strongRecOn with
    | _ n21 ih15 =>
      intro v8 σ9 r14 hF10 w
      have w := w19 n21 v8 σ9 r14 hF10 w
      refine wk_b tt_147 3 (pc' := 35) (ls' := [(0, .inr (.inr (.ref 45))), (2, .inl ((sg_g σ 45 20))), (3, .inl (v8))]) (st' := [.inl ((sg_g σ9 45 21)), .inl (v8)]) (σ' := σ9) rfl ?_
      rw [show (sg_g σ9 45 21) = (sg_g σ 45 21) from by rw [sg_F_ga hF10 rfl, sg_F_ga hF7 rfl, sg_F_ga hF3 rfl]]
      refine wk_if2 tt_147 (tgt := 64) rfl rfl r14 (sg_Rg _ _ _) (fun (h38 : (sg_g σ 45 21) ≤ v8) => ?_) (fun (h38 : v8 < (sg_g σ 45 21)) => ?_)
      ·
        have w := w.1 h38
        exact wk_ls [(0, .inr (.inr (.ref 45))), (2, .inl ((sg_g σ 45 20)))] rfl ⟨rfl, rfl, trivial⟩ (ex22  σ9  (sg_F_t (sg_F_r [53] σ5) (sg_F_m (L := [53]) hF10 rfl)) w)
      ·
        have w := w.2 h38
        obtain ⟨c39, w⟩ := w
        obtain ⟨c40, w⟩ := w
        refine wk_b tt_147 10 (pc' := 52) (ls' := [(0, .inr (.inr (.ref 45))), (2, .inl ((sg_g σ 45 20))), (3, .inl (v8))]) (st' := [.inl (v8), .inr (.inr (.ref 54)), .inl ((((sg_g σ 45 20) + 2) + v8)), .inr (.inr (.ref 53))]) (σ' := σ9) rfl ?_
        refine wk_callp tt_147 rfl rfl rfl rfl rfl tt_5 rfl (by decide) (at_i0 z σ9 54 200 (v8) rfl (by decide) r14) ?_
        show wx z 1 147 55 [(0, .inr (.inr (.ref 45))), (2, .inl ((sg_g σ 45 20))), (3, .inl (v8))] [.inl ((sx_at σ9 54 200 (v8))), .inl ((((sg_g σ 45 20) + 2) + v8)), .inr (.inr (.ref 53))] σ9 (fun v σ' => v = none ∧ sg_F [48, 53, 8045, 21045, 22045] σ σ' ∧ Q σ')
        rw [sx_F (a := 54) (n := 200) (i := (v8)) hF10 rfl, sx_F (a := 54) (n := 200) (i := (v8)) hF7 rfl, sx_F (a := 54) (n := 200) (i := (v8)) hF3 rfl]
        refine wk_callp tt_147 rfl rfl rfl rfl rfl tt_21 rfl (by decide) (pt_i0 z σ9 53 9003 ((((sg_g σ 45 20) + 2) + v8)) ((sx_at σ 54 200 (v8))) rfl (by decide) c40) ?_
        show wx z 1 147 58 [(0, .inr (.inr (.ref 45))), (2, .inl ((sg_g σ 45 20))), (3, .inl (v8))] [] (sx_put σ9 53 9003 ((((sg_g σ 45 20) + 2) + v8)) ((sx_at σ 54 200 (v8)))) (fun v σ' => v = none ∧ sg_F [48, 53, 8045, 21045, 22045] σ σ' ∧ Q σ')
        generalize hs42 : (sx_put σ9 53 9003 ((((sg_g σ 45 20) + 2) + v8)) ((sx_at σ 54 200 (v8)))) = σ41
        have w := w σ41 hs42.symm
        have hF43 : sg_F [53] σ9 σ41 := by rw [← hs42]; exact sg_F_p (sg_F_r _ _) rfl _ _ _
        obtain ⟨c44, w⟩ := w
        refine wk_b tt_147 2 (pc' := 30) (ls' := [(3, .inl ((v8 + 1))), (0, .inr (.inr (.ref 45))), (2, .inl ((sg_g σ 45 20)))]) (st' := []) (σ' := σ41) rfl ?_
        obtain ⟨m45, hm45, w⟩ := w
        exact wk_ls [(0, .inr (.inr (.ref 45))), (2, .inl ((sg_g σ 45 20))), (3, .inl ((v8 + 1)))] rfl ⟨rfl, rfl, rfl, trivial⟩ (ih15 m45 hm45 ((v8 + 1)) σ41 c44 (sg_F_t (sg_F_t (sg_F_r [53] σ5) (sg_F_m (L := [53]) hF10 rfl)) (sg_F_m (L := [53]) hF43 rfl)) w)
  exact wk_ls [(0, .inr (.inr (.ref 45))), (2, .inl ((sg_g σ 45 20))), (3, .inl (0))] rfl ⟨rfl, rfl, rfl, trivial⟩ (lp17 μ12 (0) σ5 (by decide) (sg_F_r _ _) w18)
-- NestedVectors$NestedRun.give
def V_nGive (σ : sg_S) (Q : sg_S → Prop) : Prop := (∃ (I5 : Nat → Int → Int → Prop) (X7 : Int → Prop), (∃ n, I5 n ((sg_g σ 45 21)) (0)) ∧ (∀ (n16 : Nat) (v1 : Int) (v2 : Int), sg_R v1 → sg_R v2 → I5 n16 v1 v2 → (((sg_g σ 45 21) ≤ v2 → X7 (v1)) ∧ (v2 < (sg_g σ 45 21) → (((sg_g σ 45 9) ≤ 1 → X7 (v1)) ∧ (1 < (sg_g σ 45 9) → p_nCountOf σ ((sx_at σ 54 200 (v2))) ∧ sg_R (v1 + (v_nCountOf σ ((sx_at σ 54 200 (v2))))) ∧ sg_R (v2 + 1) ∧ (∃ m, m < n16 ∧ I5 m ((v1 + (v_nCountOf σ ((sx_at σ 54 200 (v2)))))) ((v2 + 1)))))))) ∧ (∀ (v1 : Int), sg_R v1 → X7 v1 → V_nSpend σ (v1) (fun q18 σ19 => (q18 = 0 ∨ q18 = 1) → sg_F [11045, 23045] σ σ19 → ((q18 = 0 → Q σ19) ∧ (¬ q18 = 0 → V_nKeep σ19 (v1) (fun σ26 => sg_F [48, 53, 8045, 21045, 22045] σ19 σ26 → Q σ26))))))
set_option maxHeartbeats 4000000 in
set_option maxRecDepth 8000 in
theorem w_nGive (z : Value) (σ : sg_S) (Q : sg_S → Prop)  (w : V_nGive σ  Q) : wx z 2 144 0 [(0, .inr (.inr (.ref 45)))] [] σ (fun v σ' => v = none ∧ sg_F [48, 53, 8045, 11045, 21045, 22045, 23045] σ σ' ∧ Q σ') := by
  unfold V_nGive at w
  refine wk_b tt_144 5 (pc' := 7) (ls' := [(2, .inl (0)), (1, .inl ((sg_g σ 45 21))), (0, .inr (.inr (.ref 45)))]) (st' := []) (σ' := σ) rfl ?_
  obtain ⟨I5, X7, ⟨μ6, w13⟩, w14, w15⟩ := w
  have ex17 : ∀ (v1 : Int), sg_R v1 → X7 v1 → wx z 2 144 44 [(0, .inr (.inr (.ref 45))), (1, .inl (v1))] [] σ (fun v σ' => v = none ∧ sg_F [48, 53, 8045, 11045, 21045, 22045, 23045] σ σ' ∧ Q σ') := by
    intro v1 r8 w
    have w := w15 v1 r8 w
    refine wk_b tt_144 2 (pc' := 46) (ls' := [(0, .inr (.inr (.ref 45))), (1, .inl (v1))]) (st' := [.inl (v1), .inr (.inr (.ref 45))]) (σ' := σ) rfl ?_
    refine wk_call tt_144 rfl rfl rfl rfl rfl tt_162 rfl (by decide) (w_nSpend z σ (v1) _ r8 w) (fun u23 σ19 hq21 => ?_)
    obtain ⟨q18, rfl, r22, hF20, w⟩ := hq21
    have w := w r22 hF20
    refine wk_if tt_144 (tgt := 57) rfl rfl (sg_Rz r22) (fun (h24 : q18 = 0) => ?_) (fun (h24 : ¬ q18 = 0) => ?_)
    ·
      have w := w.1 h24
      exact wk_rV tt_144 rfl rfl ⟨rfl, (sg_F_t (sg_F_r [48, 53, 8045, 11045, 21045, 22045, 23045] σ) (sg_F_m (L := [48, 53, 8045, 11045, 21045, 22045, 23045]) hF20 rfl)), w⟩
    ·
      have w := w.2 h24
      refine wk_b tt_144 2 (pc' := 54) (ls' := [(0, .inr (.inr (.ref 45))), (1, .inl (v1))]) (st' := [.inl (v1), .inr (.inr (.ref 45))]) (σ' := σ19) rfl ?_
      refine wk_call tt_144 rfl rfl rfl rfl rfl tt_147 rfl (by decide) (w_nKeep z σ19 (v1) _ r8 w) (fun u30 σ26 hq28 => ?_)
      obtain ⟨rfl, hF27, w⟩ := hq28
      have w := w hF27
      exact wk_rV tt_144 rfl rfl ⟨rfl, (sg_F_t (sg_F_t (sg_F_r [48, 53, 8045, 11045, 21045, 22045, 23045] σ) (sg_F_m (L := [48, 53, 8045, 11045, 21045, 22045, 23045]) hF20 rfl)) (sg_F_m (L := [48, 53, 8045, 11045, 21045, 22045, 23045]) hF27 rfl)), w⟩
  have lp12 : ∀ (n16 : Nat) (v1 : Int) (v2 : Int), sg_R v1 → sg_R v2 → I5 n16 v1 v2 → wx z 2 144 7 [(0, .inr (.inr (.ref 45))), (1, .inl (v1)), (2, .inl (v2))] [] σ (fun v σ' => v = none ∧ sg_F [48, 53, 8045, 11045, 21045, 22045, 23045] σ σ' ∧ Q σ') := by
    intro n16
    induction n16 using Nat.strongRecOn with
    | _ n16 ih10 =>
      intro v1 v2 r8 r9 w
      have w := w14 n16 v1 v2 r8 r9 w
      refine wk_b tt_144 3 (pc' := 12) (ls' := [(0, .inr (.inr (.ref 45))), (1, .inl (v1)), (2, .inl (v2))]) (st' := [.inl ((sg_g σ 45 21)), .inl (v2)]) (σ' := σ) rfl ?_
      refine wk_if2 tt_144 (tgt := 44) rfl rfl r9 (sg_Rg _ _ _) (fun (h31 : (sg_g σ 45 21) ≤ v2) => ?_) (fun (h31 : v2 < (sg_g σ 45 21)) => ?_)
      ·
        have w := w.1 h31
        exact wk_ls [(0, .inr (.inr (.ref 45))), (1, .inl (v1))] rfl ⟨rfl, rfl, trivial⟩ (ex17 (v1)  r8  w)
      ·
        have w := w.2 h31
        refine wk_b tt_144 3 (pc' := 20) (ls' := [(0, .inr (.inr (.ref 45))), (1, .inl (v1)), (2, .inl (v2))]) (st' := [.inl (1), .inl ((sg_g σ 45 9))]) (σ' := σ) rfl ?_
        refine wk_if2 tt_144 (tgt := 44) rfl rfl (sg_Rg _ _ _) (by decide) (fun (h32 : (sg_g σ 45 9) ≤ 1) => ?_) (fun (h32 : 1 < (sg_g σ 45 9)) => ?_)
        ·
          have w := w.1 h32
          exact wk_ls [(0, .inr (.inr (.ref 45))), (1, .inl (v1))] rfl ⟨rfl, rfl, trivial⟩ (ex17 (v1)  r8  w)
        ·
          have w := w.2 h32
          refine wk_b tt_144 5 (pc' := 30) (ls' := [(0, .inr (.inr (.ref 45))), (1, .inl (v1)), (2, .inl (v2))]) (st' := [.inl (v2), .inr (.inr (.ref 54)), .inr (.inr (.ref 45)), .inl (v1)]) (σ' := σ) rfl ?_
          refine wk_callp tt_144 rfl rfl rfl rfl rfl tt_5 rfl (by decide) (at_i0 z σ 54 200 (v2) rfl (by decide) r9) ?_
          show wx z 2 144 33 [(0, .inr (.inr (.ref 45))), (1, .inl (v1)), (2, .inl (v2))] [.inl ((sx_at σ 54 200 (v2))), .inr (.inr (.ref 45)), .inl (v1)] σ (fun v σ' => v = none ∧ sg_F [48, 53, 8045, 11045, 21045, 22045, 23045] σ σ' ∧ Q σ')
          obtain ⟨c33, w⟩ := w
          refine wk_callp tt_144 rfl rfl rfl rfl rfl tt_136 rfl (by decide) (w_nCountOf z σ ((sx_at σ 54 200 (v2))) (sx_R ..) c33) ?_
          have r34 := vr_nCountOf σ  ((sx_at σ 54 200 (v2))) (sx_R ..) c33
          obtain ⟨c35, w⟩ := w
          obtain ⟨c36, w⟩ := w
          refine wk_b tt_144 4 (pc' := 7) (ls' := [(2, .inl ((v2 + 1))), (1, .inl ((v1 + (v_nCountOf σ ((sx_at σ 54 200 (v2))))))), (0, .inr (.inr (.ref 45)))]) (st' := []) (σ' := σ) rfl ?_
          obtain ⟨m37, hm37, w⟩ := w
          exact wk_ls [(0, .inr (.inr (.ref 45))), (1, .inl ((v1 + (v_nCountOf σ ((sx_at σ 54 200 (v2))))))), (2, .inl ((v2 + 1)))] rfl ⟨rfl, rfl, rfl, trivial⟩ (ih10 m37 hm37 ((v1 + (v_nCountOf σ ((sx_at σ 54 200 (v2)))))) ((v2 + 1))  c35 c36  w)
  exact wk_ls [(0, .inr (.inr (.ref 45))), (1, .inl ((sg_g σ 45 21))), (2, .inl (0))] rfl ⟨rfl, rfl, rfl, trivial⟩ (lp12 μ6 ((sg_g σ 45 21)) (0)  (sg_Rg _ _ _) (by decide)  w13)
-- NestedVectors$NestedRun.append
def V_nAppend (σ : sg_S) (a1 : Int) (a2 : Int) (Q : sg_S → Prop) : Prop := sg_R ((v_nLengthOf σ (a1)) + (v_nLengthOf σ (a2))) ∧ (((v_yBadSize (((v_nLengthOf σ (a1)) + (v_nLengthOf σ (a2))))) = 0 → V_nAddAll σ (a1) (fun σ6 => sg_F [54, 22045] σ σ6 → V_nAddAll σ6 (a2) (fun σ12 => sg_F [54, 22045] σ6 σ12 → V_nGive σ12  (fun σ18 => sg_F [48, 53, 8045, 11045, 21045, 22045, 23045] σ12 σ18 → Q σ18)))) ∧ (¬ (v_yBadSize (((v_nLengthOf σ (a1)) + (v_nLengthOf σ (a2))))) = 0 → ∀ σ23, σ23 = (sg_w σ 45 10 (5)) → Q σ23))
set_option maxHeartbeats 4000000 in
set_option maxRecDepth 8000 in
theorem w_nAppend (z : Value) (σ : sg_S) (a1 : Int) (a2 : Int) (Q : sg_S → Prop) (ra1 : sg_R a1) (ra2 : sg_R a2) (w : V_nAppend σ a1 a2 Q) : wx z 3 131 0 [(0, .inr (.inr (.ref 45))), (1, .inl (a1)), (2, .inl (a2))] [] σ (fun v σ' => v = none ∧ sg_F [48, 53, 54, 8045, 11045, 21045, 22045, 23045] σ σ' ∧ Q σ') := by
  unfold V_nAppend at w
  refine wk_b tt_131 2 (pc' := 2) (ls' := [(0, .inr (.inr (.ref 45))), (1, .inl (a1)), (2, .inl (a2))]) (st' := [.inl (a1), .inr (.inr (.ref 45))]) (σ' := σ) rfl ?_
  refine wk_callp tt_131 rfl rfl rfl rfl rfl tt_149 rfl (by decide) (w_nLengthOf z σ (a1) ra1 ) ?_
  have r1 := vr_nLengthOf σ  (a1) ra1 
  refine wk_b tt_131 2 (pc' := 7) (ls' := [(0, .inr (.inr (.ref 45))), (1, .inl (a1)), (2, .inl (a2))]) (st' := [.inl (a2), .inr (.inr (.ref 45)), .inl ((v_nLengthOf σ (a1)))]) (σ' := σ) rfl ?_
  refine wk_callp tt_131 rfl rfl rfl rfl rfl tt_149 rfl (by decide) (w_nLengthOf z σ (a2) ra2 ) ?_
  have r2 := vr_nLengthOf σ  (a2) ra2 
  obtain ⟨c3, w⟩ := w
  refine wk_b tt_131 1 (pc' := 11) (ls' := [(0, .inr (.inr (.ref 45))), (1, .inl (a1)), (2, .inl (a2))]) (st' := [.inl (((v_nLengthOf σ (a1)) + (v_nLengthOf σ (a2))))]) (σ' := σ) rfl ?_
  refine wk_callp tt_131 rfl rfl rfl rfl rfl tt_7 rfl (by decide) (w_yBadSize z σ (((v_nLengthOf σ (a1)) + (v_nLengthOf σ (a2)))) c3 ) ?_
  refine wk_if tt_131 (tgt := 23) rfl rfl (sg_Rz (vz_yBadSize ..)) (fun (h4 : (v_yBadSize (((v_nLengthOf σ (a1)) + (v_nLengthOf σ (a2))))) = 0) => ?_) (fun (h4 : ¬ (v_yBadSize (((v_nLengthOf σ (a1)) + (v_nLengthOf σ (a2))))) = 0) => ?_)
  ·
    have w := w.1 h4
    refine wk_b tt_131 2 (pc' := 25) (ls' := [(0, .inr (.inr (.ref 45))), (1, .inl (a1)), (2, .inl (a2))]) (st' := [.inl (a1), .inr (.inr (.ref 45))]) (σ' := σ) rfl ?_
    refine wk_call tt_131 rfl rfl rfl rfl rfl tt_130 rfl (by decide) (w_nAddAll z σ (a1) _ ra1 w) (fun u10 σ6 hq8 => ?_)
    obtain ⟨rfl, hF7, w⟩ := hq8
    have w := w hF7
    refine wk_b tt_131 2 (pc' := 30) (ls' := [(0, .inr (.inr (.ref 45))), (1, .inl (a1)), (2, .inl (a2))]) (st' := [.inl (a2), .inr (.inr (.ref 45))]) (σ' := σ6) rfl ?_
    refine wk_call tt_131 rfl rfl rfl rfl rfl tt_130 rfl (by decide) (w_nAddAll z σ6 (a2) _ ra2 w) (fun u16 σ12 hq14 => ?_)
    obtain ⟨rfl, hF13, w⟩ := hq14
    have w := w hF13
    refine wk_b tt_131 1 (pc' := 34) (ls' := [(0, .inr (.inr (.ref 45))), (1, .inl (a1)), (2, .inl (a2))]) (st' := [.inr (.inr (.ref 45))]) (σ' := σ12) rfl ?_
    refine wk_call tt_131 rfl rfl rfl rfl rfl tt_144 rfl (by decide) (w_nGive z σ12  _  w) (fun u22 σ18 hq20 => ?_)
    obtain ⟨rfl, hF19, w⟩ := hq20
    have w := w hF19
    exact wk_rV tt_131 rfl rfl ⟨rfl, (sg_F_t (sg_F_t (sg_F_t (sg_F_r [48, 53, 54, 8045, 11045, 21045, 22045, 23045] σ) (sg_F_m (L := [48, 53, 54, 8045, 11045, 21045, 22045, 23045]) hF7 rfl)) (sg_F_m (L := [48, 53, 54, 8045, 11045, 21045, 22045, 23045]) hF13 rfl)) (sg_F_m (L := [48, 53, 54, 8045, 11045, 21045, 22045, 23045]) hF19 rfl)), w⟩
  ·
    have w := w.2 h4
    refine wk_b tt_131 3 (pc' := 22) (ls' := [(0, .inr (.inr (.ref 45))), (1, .inl (a1)), (2, .inl (a2))]) (st' := []) (σ' := (sg_w σ 45 10 (5))) rfl ?_
    generalize hs24 : (sg_w σ 45 10 (5)) = σ23
    have w := w σ23 hs24.symm
    have hF25 : sg_F [11045] σ σ23 := by rw [← hs24]; exact sg_F_w (sg_F_r _ _) rfl _
    exact wk_rV tt_131 rfl rfl ⟨rfl, (sg_F_t (sg_F_r [48, 53, 54, 8045, 11045, 21045, 22045, 23045] σ) (sg_F_m (L := [48, 53, 54, 8045, 11045, 21045, 22045, 23045]) hF25 rfl)), w⟩
-- NestedVectors$NestedRun.begin
def V_nBegin (σ : sg_S) (a1 : Int) (Q : sg_S → Prop) : Prop := V_nSpend σ (1) (fun q1 σ2 => (q1 = 0 ∨ q1 = 1) → sg_F [11045, 23045] σ σ2 → ((q1 = 0 → Q σ2) ∧ (¬ q1 = 0 → sg_R ((sg_g σ 45 23) + 1) ∧ ∀ σ9, σ9 = (sg_w σ2 45 23 (((sg_g σ 45 23) + 1))) → Q σ9)))
set_option maxHeartbeats 4000000 in
set_option maxRecDepth 8000 in
theorem w_nBegin (z : Value) (σ : sg_S) (a1 : Int) (Q : sg_S → Prop) (ra1 : sg_R a1) (w : V_nBegin σ a1 Q) : wx z 1 132 0 [(0, .inr (.inr (.ref 45))), (1, .inl (a1))] [] σ (fun v σ' => v = none ∧ sg_F [11045, 23045, 24045] σ σ' ∧ Q σ') := by
  unfold V_nBegin at w
  refine wk_b tt_132 2 (pc' := 2) (ls' := [(0, .inr (.inr (.ref 45))), (1, .inl (a1))]) (st' := [.inl (1), .inr (.inr (.ref 45))]) (σ' := σ) rfl ?_
  refine wk_call tt_132 rfl rfl rfl rfl rfl tt_162 rfl (by decide) (w_nSpend z σ (1) _ (by decide) w) (fun u6 σ2 hq4 => ?_)
  obtain ⟨q1, rfl, r5, hF3, w⟩ := hq4
  have w := w r5 hF3
  refine wk_if tt_132 (tgt := 18) rfl rfl (sg_Rz r5) (fun (h7 : q1 = 0) => ?_) (fun (h7 : ¬ q1 = 0) => ?_)
  ·
    have w := w.1 h7
    exact wk_rV tt_132 rfl rfl ⟨rfl, (sg_F_t (sg_F_r [11045, 23045, 24045] σ) (sg_F_m (L := [11045, 23045, 24045]) hF3 rfl)), w⟩
  ·
    have w := w.2 h7
    obtain ⟨c8, w⟩ := w
    refine wk_b tt_132 6 (pc' := 18) (ls' := [(0, .inr (.inr (.ref 45))), (1, .inl (a1))]) (st' := []) (σ' := (sg_w σ2 45 23 (((sg_g σ2 45 23) + 1)))) rfl ?_
    rw [show (sg_g σ2 45 23) = (sg_g σ 45 23) from by rw [sg_F_g hF3 rfl]]
    generalize hs10 : (sg_w σ2 45 23 (((sg_g σ 45 23) + 1))) = σ9
    have w := w σ9 hs10.symm
    have hF11 : sg_F [24045] σ2 σ9 := by rw [← hs10]; exact sg_F_w (sg_F_r _ _) rfl _
    exact wk_rV tt_132 rfl rfl ⟨rfl, (sg_F_t (sg_F_t (sg_F_r [11045, 23045, 24045] σ) (sg_F_m (L := [11045, 23045, 24045]) hF3 rfl)) (sg_F_m (L := [11045, 23045, 24045]) hF11 rfl)), w⟩
-- NestedVectors$NestedRun.gather
def V_nGather (σ : sg_S) (a1 : Int) (Q : sg_S → Prop) : Prop := sg_R ((sg_g σ 45 7) - a1) ∧ ∀ σ2, σ2 = (sg_w σ 45 7 (((sg_g σ 45 7) - a1))) → (∃ (I8 : Nat → Int → sg_S → Prop) (X10 : sg_S → Prop), (∃ n, I8 n (0) σ2) ∧ (∀ (n18 : Nat) (v5 : Int) (σ6 : sg_S), sg_R v5 → sg_F [54, 22045] σ2 σ6 → I8 n18 v5 σ6 → ((a1 ≤ v5 → X10 σ6) ∧ (v5 < a1 → sg_R (((sg_g σ 45 7) - a1) + v5) ∧ ∀ σ22, σ22 = (sx_put σ6 54 200 ((sg_g σ6 45 21)) ((sx_at σ 48 3200 ((((sg_g σ 45 7) - a1) + v5))))) → sg_R ((sg_g σ6 45 21) + 1) ∧ ∀ σ26, σ26 = (sg_w σ22 45 21 (((sg_g σ6 45 21) + 1))) → sg_R (v5 + 1) ∧ (∃ m, m < n18 ∧ I8 m ((v5 + 1)) σ26)))) ∧ (∀ (σ6 : sg_S), sg_F [54, 22045] σ2 σ6 → X10 σ6 → Q σ6))
set_option maxHeartbeats 4000000 in
set_option maxRecDepth 8000 in
theorem w_nGather (z : Value) (σ : sg_S) (a1 : Int) (Q : sg_S → Prop) (ra1 : sg_R a1) (w : V_nGather σ a1 Q) : wx z 1 143 0 [(0, .inr (.inr (.ref 45))), (1, .inl (a1))] [] σ (fun v σ' => v = none ∧ sg_F [54, 8045, 22045] σ σ' ∧ Q σ') := by
  unfold V_nGather at w
  obtain ⟨c1, w⟩ := w
  refine wk_b tt_143 6 (pc' := 10) (ls' := [(0, .inr (.inr (.ref 45))), (1, .inl (a1))]) (st' := []) (σ' := (sg_w σ 45 7 (((sg_g σ 45 7) - a1)))) rfl ?_
  generalize hs3 : (sg_w σ 45 7 (((sg_g σ 45 7) - a1))) = σ2
  have w := w σ2 hs3.symm
  have hF4 : sg_F [8045] σ σ2 := by rw [← hs3]; exact sg_F_w (sg_F_r _ _) rfl _
  refine wk_b tt_143 2 (pc' := 12) (ls' := [(2, .inl (0)), (0, .inr (.inr (.ref 45))), (1, .inl (a1))]) (st' := []) (σ' := σ2) rfl ?_
  obtain ⟨I8, X10, ⟨μ9, w15⟩, w16, w17⟩ := w
  have ex19 : ∀ (σ6 : sg_S), sg_F [54, 22045] σ2 σ6 → X10 σ6 → wx z 1 143 57 [] [] σ6 (fun v σ' => v = none ∧ sg_F [54, 8045, 22045] σ σ' ∧ Q σ') := by
    intro σ6 hF7 w
    have w := w17 σ6 hF7 w
    exact wk_rV tt_143 rfl rfl ⟨rfl, (sg_F_t (sg_F_t (sg_F_r [54, 8045, 22045] σ) (sg_F_m (L := [54, 8045, 22045]) hF4 rfl)) (sg_F_m (L := [54, 8045, 22045]) hF7 rfl)), w⟩
  have lp14 : ∀ (n18 : Nat) (v5 : Int) (σ6 : sg_S), sg_R v5 → sg_F [54, 22045] σ2 σ6 → I8 n18 v5 σ6 → wx z 1 143 12 [(0, .inr (.inr (.ref 45))), (1, .inl (a1)), (2, .inl (v5))] [] σ6 (fun v σ' => v = none ∧ sg_F [54, 8045, 22045] σ σ' ∧ Q σ') := by
    intro n18
    induction n18 using Nat.strongRecOn with
    | _ n18 ih12 =>
      intro v5 σ6 r11 hF7 w
      have w := w16 n18 v5 σ6 r11 hF7 w
      refine wk_b tt_143 2 (pc' := 14) (ls' := [(0, .inr (.inr (.ref 45))), (1, .inl (a1)), (2, .inl (v5))]) (st' := [.inl (a1), .inl (v5)]) (σ' := σ6) rfl ?_
      refine wk_if2 tt_143 (tgt := 57) rfl rfl r11 ra1 (fun (h20 : a1 ≤ v5) => ?_) (fun (h20 : v5 < a1) => ?_)
      ·
        have w := w.1 h20
        exact wk_ls [] rfl trivial (ex19  σ6  (sg_F_t (sg_F_r [54, 22045] σ2) (sg_F_m (L := [54, 22045]) hF7 rfl)) w)
      ·
        have w := w.2 h20
        obtain ⟨c21, w⟩ := w
        refine wk_b tt_143 10 (pc' := 35) (ls' := [(0, .inr (.inr (.ref 45))), (1, .inl (a1)), (2, .inl (v5))]) (st' := [.inl (((sg_g σ6 45 7) + v5)), .inr (.inr (.ref 48)), .inl ((sg_g σ6 45 21)), .inr (.inr (.ref 54))]) (σ' := σ6) rfl ?_
        rw [show (sg_g σ6 45 7) = ((sg_g σ 45 7) - a1) from by rw [sg_F_g hF7 rfl, (show sg_g σ2 45 7 = ((sg_g σ 45 7) - a1) from by rw [← hs3]; exact sg_gw_e _ _ _ _ c1)]]
        refine wk_callp tt_143 rfl rfl rfl rfl rfl tt_5 rfl (by decide) (at_i0 z σ6 48 3200 ((((sg_g σ 45 7) - a1) + v5)) rfl (by decide) c21) ?_
        show wx z 1 143 38 [(0, .inr (.inr (.ref 45))), (1, .inl (a1)), (2, .inl (v5))] [.inl ((sx_at σ6 48 3200 ((((sg_g σ 45 7) - a1) + v5)))), .inl ((sg_g σ6 45 21)), .inr (.inr (.ref 54))] σ6 (fun v σ' => v = none ∧ sg_F [54, 8045, 22045] σ σ' ∧ Q σ')
        rw [sx_F (a := 48) (n := 3200) (i := ((((sg_g σ 45 7) - a1) + v5))) hF7 rfl, sx_F (a := 48) (n := 3200) (i := ((((sg_g σ 45 7) - a1) + v5))) hF4 rfl]
        refine wk_callp tt_143 rfl rfl rfl rfl rfl tt_21 rfl (by decide) (pt_i0 z σ6 54 200 ((sg_g σ6 45 21)) ((sx_at σ 48 3200 ((((sg_g σ 45 7) - a1) + v5)))) rfl (by decide) (sg_Rg _ _ _)) ?_
        show wx z 1 143 41 [(0, .inr (.inr (.ref 45))), (1, .inl (a1)), (2, .inl (v5))] [] (sx_put σ6 54 200 ((sg_g σ6 45 21)) ((sx_at σ 48 3200 ((((sg_g σ 45 7) - a1) + v5))))) (fun v σ' => v = none ∧ sg_F [54, 8045, 22045] σ σ' ∧ Q σ')
        generalize hs23 : (sx_put σ6 54 200 ((sg_g σ6 45 21)) ((sx_at σ 48 3200 ((((sg_g σ 45 7) - a1) + v5))))) = σ22
        have w := w σ22 hs23.symm
        have hF24 : sg_F [54] σ6 σ22 := by rw [← hs23]; exact sg_F_p (sg_F_r _ _) rfl _ _ _
        obtain ⟨c25, w⟩ := w
        refine wk_b tt_143 6 (pc' := 51) (ls' := [(0, .inr (.inr (.ref 45))), (1, .inl (a1)), (2, .inl (v5))]) (st' := []) (σ' := (sg_w σ22 45 21 (((sg_g σ22 45 21) + 1)))) rfl ?_
        rw [show (sg_g σ22 45 21) = (sg_g σ6 45 21) from by rw [sg_F_ga hF24 rfl]]
        generalize hs27 : (sg_w σ22 45 21 (((sg_g σ6 45 21) + 1))) = σ26
        have w := w σ26 hs27.symm
        have hF28 : sg_F [22045] σ22 σ26 := by rw [← hs27]; exact sg_F_w (sg_F_r _ _) rfl _
        obtain ⟨c29, w⟩ := w
        refine wk_b tt_143 2 (pc' := 12) (ls' := [(2, .inl ((v5 + 1))), (0, .inr (.inr (.ref 45))), (1, .inl (a1))]) (st' := []) (σ' := σ26) rfl ?_
        obtain ⟨m30, hm30, w⟩ := w
        exact wk_ls [(0, .inr (.inr (.ref 45))), (1, .inl (a1)), (2, .inl ((v5 + 1)))] rfl ⟨rfl, rfl, rfl, trivial⟩ (ih12 m30 hm30 ((v5 + 1)) σ26 c29 (sg_F_t (sg_F_t (sg_F_t (sg_F_r [54, 22045] σ2) (sg_F_m (L := [54, 22045]) hF7 rfl)) (sg_F_m (L := [54, 22045]) hF24 rfl)) (sg_F_m (L := [54, 22045]) hF28 rfl)) w)
  exact wk_ls [(0, .inr (.inr (.ref 45))), (1, .inl (a1)), (2, .inl (0))] rfl ⟨rfl, rfl, rfl, trivial⟩ (lp14 μ9 (0) σ2 (by decide) (sg_F_r _ _) w15)
-- NestedVectors$NestedRun.collect
def V_nCollect (σ : sg_S) (a1 : Int) (Q : sg_S → Prop) : Prop := sg_R ((sg_g σ 45 7) - (sx_at σ 56 200 (a1))) ∧ V_nGather σ (((sg_g σ 45 7) - (sx_at σ 56 200 (a1)))) (fun σ3 => sg_F [54, 8045, 22045] σ σ3 → sg_R ((sg_g σ3 45 7) - (sx_at σ 13 200 (a1))) ∧ ∀ σ9, σ9 = (sg_w σ3 45 7 (((sg_g σ3 45 7) - (sx_at σ 13 200 (a1))))) → V_nGive σ9  (fun σ13 => sg_F [48, 53, 8045, 11045, 21045, 22045, 23045] σ9 σ13 → Q σ13))
set_option maxHeartbeats 4000000 in
set_option maxRecDepth 8000 in
theorem w_nCollect (z : Value) (σ : sg_S) (a1 : Int) (Q : sg_S → Prop) (ra1 : sg_R a1) (w : V_nCollect σ a1 Q) : wx z 3 133 0 [(0, .inr (.inr (.ref 45))), (1, .inl (a1))] [] σ (fun v σ' => v = none ∧ sg_F [48, 53, 54, 8045, 11045, 21045, 22045, 23045] σ σ' ∧ Q σ') := by
  unfold V_nCollect at w
  refine wk_b tt_133 6 (pc' := 10) (ls' := [(0, .inr (.inr (.ref 45))), (1, .inl (a1))]) (st' := [.inl (a1), .inr (.inr (.ref 56)), .inl ((sg_g σ 45 7)), .inr (.inr (.ref 45))]) (σ' := σ) rfl ?_
  refine wk_callp tt_133 rfl rfl rfl rfl rfl tt_5 rfl (by decide) (at_i0 z σ 56 200 (a1) rfl (by decide) ra1) ?_
  show wx z 3 133 13 [(0, .inr (.inr (.ref 45))), (1, .inl (a1))] [.inl ((sx_at σ 56 200 (a1))), .inl ((sg_g σ 45 7)), .inr (.inr (.ref 45))] σ (fun v σ' => v = none ∧ sg_F [48, 53, 54, 8045, 11045, 21045, 22045, 23045] σ σ' ∧ Q σ')
  obtain ⟨c1, w⟩ := w
  refine wk_b tt_133 1 (pc' := 14) (ls' := [(0, .inr (.inr (.ref 45))), (1, .inl (a1))]) (st' := [.inl (((sg_g σ 45 7) - (sx_at σ 56 200 (a1)))), .inr (.inr (.ref 45))]) (σ' := σ) rfl ?_
  refine wk_call tt_133 rfl rfl rfl rfl rfl tt_143 rfl (by decide) (w_nGather z σ (((sg_g σ 45 7) - (sx_at σ 56 200 (a1)))) _ c1 w) (fun u7 σ3 hq5 => ?_)
  obtain ⟨rfl, hF4, w⟩ := hq5
  have w := w hF4
  refine wk_b tt_133 7 (pc' := 30) (ls' := [(0, .inr (.inr (.ref 45))), (1, .inl (a1))]) (st' := [.inl (a1), .inr (.inr (.ref 13)), .inl ((sg_g σ3 45 7)), .inr (.inr (.ref 45))]) (σ' := σ3) rfl ?_
  refine wk_callp tt_133 rfl rfl rfl rfl rfl tt_5 rfl (by decide) (at_i0 z σ3 13 200 (a1) rfl (by decide) ra1) ?_
  show wx z 3 133 33 [(0, .inr (.inr (.ref 45))), (1, .inl (a1))] [.inl ((sx_at σ3 13 200 (a1))), .inl ((sg_g σ3 45 7)), .inr (.inr (.ref 45))] σ3 (fun v σ' => v = none ∧ sg_F [48, 53, 54, 8045, 11045, 21045, 22045, 23045] σ σ' ∧ Q σ')
  rw [sx_F (a := 13) (n := 200) (i := (a1)) hF4 rfl]
  obtain ⟨c8, w⟩ := w
  refine wk_b tt_133 2 (pc' := 37) (ls' := [(0, .inr (.inr (.ref 45))), (1, .inl (a1))]) (st' := []) (σ' := (sg_w σ3 45 7 (((sg_g σ3 45 7) - (sx_at σ 13 200 (a1)))))) rfl ?_
  generalize hs10 : (sg_w σ3 45 7 (((sg_g σ3 45 7) - (sx_at σ 13 200 (a1))))) = σ9
  have w := w σ9 hs10.symm
  have hF11 : sg_F [8045] σ3 σ9 := by rw [← hs10]; exact sg_F_w (sg_F_r _ _) rfl _
  refine wk_b tt_133 1 (pc' := 38) (ls' := [(0, .inr (.inr (.ref 45))), (1, .inl (a1))]) (st' := [.inr (.inr (.ref 45))]) (σ' := σ9) rfl ?_
  refine wk_call tt_133 rfl rfl rfl rfl rfl tt_144 rfl (by decide) (w_nGive z σ9  _  w) (fun u17 σ13 hq15 => ?_)
  obtain ⟨rfl, hF14, w⟩ := hq15
  have w := w hF14
  exact wk_rV tt_133 rfl rfl ⟨rfl, (sg_F_t (sg_F_t (sg_F_t (sg_F_r [48, 53, 54, 8045, 11045, 21045, 22045, 23045] σ) (sg_F_m (L := [48, 53, 54, 8045, 11045, 21045, 22045, 23045]) hF4 rfl)) (sg_F_m (L := [48, 53, 54, 8045, 11045, 21045, 22045, 23045]) hF11 rfl)) (sg_F_m (L := [48, 53, 54, 8045, 11045, 21045, 22045, 23045]) hF14 rfl)), w⟩
-- NestedVectors.dividesByZero
def v_yDividesByZero  (a0 : Int) (a1 : Int) : Int := (if ¬ a1 = 0 then (0 : Int) else (if a0 = 47 then (1 : Int) else (if ¬ a0 = 37 then (0 : Int) else (1 : Int))))
theorem vz_yDividesByZero  {a0 : Int} {a1 : Int} : v_yDividesByZero a0 a1 = 0 ∨ v_yDividesByZero a0 a1 = 1 := by
  unfold v_yDividesByZero
  by_cases h : ¬ a1 = 0
  · rw [if_pos h]
    exact Or.inl rfl
  · rw [if_neg h]
    by_cases h : a0 = 47
    · rw [if_pos h]
      exact Or.inr rfl
    · rw [if_neg h]
      by_cases h : ¬ a0 = 37
      · rw [if_pos h]
        exact Or.inl rfl
      · rw [if_neg h]
        exact Or.inr rfl
set_option maxHeartbeats 4000000 in
set_option maxRecDepth 8000 in
theorem w_yDividesByZero (z : Value) (σ : sg_S) (a0 : Int) (a1 : Int) (ra0 : sg_R a0) (ra1 : sg_R a1) : wx z 0 12 0 [(0, .inl (a0)), (1, .inl (a1))] [] σ (fun v σ' => v = some (.inl (v_yDividesByZero a0 a1)) ∧ σ' = σ) := by
  refine wk_b tt_12 1 (pc' := 1) (ls' := [(0, .inl (a0)), (1, .inl (a1))]) (st' := [.inl (a1)]) (σ' := σ) rfl ?_
  refine wk_if tt_12 (tgt := 20) rfl rfl ra1 (fun (h1 : ¬ a1 = 0) => ?_) (fun (h1 : a1 = 0) => ?_)
  ·
    refine wk_b tt_12 1 (pc' := 21) (ls' := [(0, .inl (a0)), (1, .inl (a1))]) (st' := [.inl (0)]) (σ' := σ) rfl ?_
    exact wk_rZ tt_12 rfl rfl (by decide) ⟨by rw [v_yDividesByZero, if_pos h1], rfl⟩
  ·
    refine wk_b tt_12 2 (pc' := 7) (ls' := [(0, .inl (a0)), (1, .inl (a1))]) (st' := [.inl (47), .inl (a0)]) (σ' := σ) rfl ?_
    refine wk_if2 tt_12 (tgt := 16) rfl rfl ra0 (by decide) (fun (h2 : a0 = 47) => ?_) (fun (h2 : ¬ a0 = 47) => ?_)
    ·
      refine wk_b tt_12 2 (pc' := 21) (ls' := [(0, .inl (a0)), (1, .inl (a1))]) (st' := [.inl (1)]) (σ' := σ) rfl ?_
      exact wk_rZ tt_12 rfl rfl (by decide) ⟨by rw [v_yDividesByZero, if_neg (show ¬ (¬ a1 = 0) by omega), if_pos h2], rfl⟩
    ·
      refine wk_b tt_12 2 (pc' := 13) (ls' := [(0, .inl (a0)), (1, .inl (a1))]) (st' := [.inl (37), .inl (a0)]) (σ' := σ) rfl ?_
      refine wk_if2 tt_12 (tgt := 20) rfl rfl ra0 (by decide) (fun (h3 : ¬ a0 = 37) => ?_) (fun (h3 : a0 = 37) => ?_)
      ·
        refine wk_b tt_12 1 (pc' := 21) (ls' := [(0, .inl (a0)), (1, .inl (a1))]) (st' := [.inl (0)]) (σ' := σ) rfl ?_
        exact wk_rZ tt_12 rfl rfl (by decide) ⟨by rw [v_yDividesByZero, if_neg (show ¬ (¬ a1 = 0) by omega), if_neg (show ¬ (a0 = 47) by omega), if_pos h3], rfl⟩
      ·
        refine wk_b tt_12 2 (pc' := 21) (ls' := [(0, .inl (a0)), (1, .inl (a1))]) (st' := [.inl (1)]) (σ' := σ) rfl ?_
        exact wk_rZ tt_12 rfl rfl (by decide) ⟨by rw [v_yDividesByZero, if_neg (show ¬ (¬ a1 = 0) by omega), if_neg (show ¬ (a0 = 47) by omega), if_neg (show ¬ (¬ a0 = 37) by omega)], rfl⟩
-- NestedVectors.compute
