/-! enter, conclude, leave a third time. -/
section CK5T
variable {σ : sg_S} {A : aT} {n : Int} {Q : sg_S → Prop}
theorem d3_enter {es : kE} {e b p : Int} (hn : 0 ≤ n ∧ n < 200) (hS : kS3 σ es e b p) (hp : p < 1013) (k : ∀ σ', kS3 σ' es e b (p + 1) → sg_F enL σ σ' → kU3 σ σ' e b p [n] → (sg_g σ' 29 p = 0 ∧ sg_g σ' 30 p = n) → sg_g σ' 16 n = b → (sg_g σ' 43 n = sg_g σ 7 n ∧ sg_g σ' 44 n = 0 ∧ sg_g σ' 41 n = e) → Q σ') : V_kEnter σ n Q := by
  obtain ⟨s1, ⟨s2, s3, s4⟩, s5, s6, s7, s8⟩ := id hS
  unfold V_kEnter
  refine ⟨fun _ => ?_, fun z => absurd s1 z⟩
  refine d3_add (p := p) s4 ⟨s8, hp⟩ (by decide) ⟨by omega, by omega⟩ (fun _ => hn) (fun σ3 f3 d1 d2 d3 d4 d5 _ σ8 e8 σ11 e11 σ14 e14 σ17 e17 => ?_)
  rw [xp_in hn, xa_in hn] at e8
  rw [xp_in hn] at e11
  rw [xp_in hn, s2] at e14
  rw [xp_in hn, s3] at e17
  have r9 : sg_R e := by rw [← s2]; exact sg_Rg _ _ _
  have r10 : sg_R b := by rw [← s3]; exact sg_Rg _ _ _
  have f17 : sg_F [16, 41, 43, 44] σ3 σ17 := by rw [e17, e14, e11, e8]; exact sg_F_w (sg_F_w (sg_F_w (sg_F_w (sg_F_r _ _) rfl _) rfl _) rfl _) rfl _
  have FF : sg_F enL σ σ17 := sg_F_t (sg_F_m f3 rfl) (sg_F_m f17 rfl)
  have g16 : sg_g σ17 16 n = b := by rw [e17, sg_gw_e _ _ _ _ r10]
  have g41 : sg_g σ17 41 n = e := by rw [e17, sg_gw_c _ _ _ _ _ _ (by decide), e14, sg_gw_e _ _ _ _ r9]
  have g44 : sg_g σ17 44 n = 0 := by rw [e17, sg_gw_c _ _ _ _ _ _ (by decide), e14, sg_gw_c _ _ _ _ _ _ (by decide), e11, sg_gw_e _ _ _ _ (by decide)]
  have g43 : sg_g σ17 43 n = sg_g σ 7 n := by rw [e17, sg_gw_c _ _ _ _ _ _ (by decide), e14, sg_gw_c _ _ _ _ _ _ (by decide), e11, sg_gw_c _ _ _ _ _ _ (by decide), e8, sg_gw_e _ _ _ _ (sg_Rg _ _ _)]
  refine k σ17 ⟨by rw [sg_F_g FF (by rfl)]; exact s1, ⟨by rw [sg_F_g FF (by rfl)]; exact s2, by rw [sg_F_g FF (by rfl)]; exact s3, by rw [sg_F_g f17 (by rfl)]; exact d1⟩, kmE_F s5 FF rfl, s6, s7, by omega⟩ FF ⟨fun x hx => ?_, fun s _ => sg_F_ga FF rfl, fun i _ => ⟨sg_F_ga FF rfl, sg_F_gal FF rfl⟩, fun i hi => ?_⟩ ⟨by rw [sg_F_ga f17 rfl]; exact d2, by rw [sg_F_ga f17 rfl]; exact d3⟩ g16 ⟨g43, g44, g41⟩
  · have xn : ¬ x = n := by simpa using hx
    refine ⟨⟨sg_F_ga FF rfl, ?_, ?_, ?_⟩, ?_, sg_F_ga FF rfl, ?_, ?_⟩
    · rw [e17, sg_gw_k _ _ _ _ _ _ xn, e14, sg_gw_c _ _ _ _ _ _ (by decide), e11, sg_gw_c _ _ _ _ _ _ (by decide), e8, sg_gw_c _ _ _ _ _ _ (by decide), sg_F_ga f3 rfl]
    · rw [sg_F_ga f17 rfl]; exact (jQ_n d5 x xn).1
    · rw [sg_F_ga f17 rfl]; exact (jQ_n d5 x xn).2
    · rw [e17, sg_gw_c _ _ _ _ _ _ (by decide), e14, sg_gw_k _ _ _ _ _ _ xn, e11, sg_gw_c _ _ _ _ _ _ (by decide), e8, sg_gw_c _ _ _ _ _ _ (by decide), sg_F_ga f3 rfl]
    · rw [e17, sg_gw_c _ _ _ _ _ _ (by decide), e14, sg_gw_c _ _ _ _ _ _ (by decide), e11, sg_gw_c _ _ _ _ _ _ (by decide), e8, sg_gw_k _ _ _ _ _ _ xn, sg_F_ga f3 rfl]
    · rw [e17, sg_gw_c _ _ _ _ _ _ (by decide), e14, sg_gw_c _ _ _ _ _ _ (by decide), e11, sg_gw_k _ _ _ _ _ _ xn, e8, sg_gw_c _ _ _ _ _ _ (by decide), sg_F_ga f3 rfl]
  · rw [sg_F_ga f17 rfl, sg_F_ga f17 rfl]
    exact d4 i (by omega)
theorem d3_conclude {p : Int} (hw : nW A n) (hn : 0 ≤ n ∧ n < 200) (hp : sg_g σ 28 6 = p) (h0 : 0 ≤ p ∧ p + (cnc A n).length ≤ 1013) (k : ∀ σ', sg_F [29, 30, 32, 33, 7028] σ σ' → sg_g σ' 28 6 = p + (cnc A n).length → pC σ' p (cnc A n) → (∀ i, i < p → sg_g σ' 29 i = sg_g σ 29 i ∧ sg_g σ' 30 i = sg_g σ 30 i) → (∀ y, sg_g σ' 32 y = sg_g σ 32 y) → (∀ y, ¬ y = n → sg_g σ' 33 y = sg_g σ 33 y) → (A.2.1 n = 3 ∨ A.2.1 n = 15 → sg_g σ' 33 n = p + 1) → Q σ') : V_kConclude σ n (kmp (A.2.1 n)) Q := by
  have n1 := hw.1
  obtain ⟨q2, q3, q15, q1, q13⟩ := kmp_q n1
  have n200 : sg_R n := ⟨by omega, by omega⟩
  have one : ∀ o, sg_R o → (¬ o = 8 ∧ ¬ o = 10 ∧ ¬ o = 12) → (o = 9 ↔ A.2.1 n = 3) → ¬ A.2.1 n = 15 → cnc A n = [(o, n)] → V_kpAdd σ o n (fun σ2 => sg_F [29, 30, 32, 33, 7028] σ σ2 → Q σ2) := fun o ro o8 o9 o15 hc => by
    rw [hc, List.length_cons, List.length_nil] at h0
    refine d3_add (p := p) hp ⟨h0.1, by omega⟩ ro n200 (fun _ => hn) (fun σ' f d1 d2 d3 d4 d5 _ => k σ' f ?_ ?_ (fun i hi => d4 i (by omega)) (fun y => ?_) (fun y hy => (jQ_n d5 y hy).2) (fun z => ?_))
    · rw [hc, List.length_cons, List.length_nil, d1]; omega
    · rw [hc]; exact pC_1 d2 d3
    · rw [d5.1, if_neg]
      rintro ⟨z | z, -⟩
      · exact o8.1 z
      · exact o8.2.1 z
    · rcases z with z | z
      · rw [d5.2, if_pos ⟨Or.inl (o9.mpr z), rfl⟩]
      · exact absurd z o15
  unfold V_kConclude
  generalize hK : A.2.1 n = kd at *
  by_cases c15 : kd = 15
  · have hc : cnc A n = [(12, n), (1, n)] := by unfold cnc; rw [hK, if_neg (by omega), if_neg (by omega), if_neg (by omega), if_pos c15]
    rw [hc] at h0 k
    simp only [List.length_cons, List.length_nil] at h0 k
    refine ⟨fun _ => ?_, fun z => absurd (q15.mpr c15) z⟩
    unfold V_kConclude_123
    refine d3_add (p := p) hp ⟨h0.1, by omega⟩ (by decide) n200 (fun _ => hn) (fun σ2 f2 d1 d2 d3 d4 d5 _ => d3_add (p := p + 1) d1 ⟨by omega, by omega⟩ (by decide) n200 (fun _ => hn) (fun σ8 f8 g1 g2 g3 g4 g5 _ => ?_))
    have j32 : ∀ y, sg_g σ8 32 y = sg_g σ 32 y := fun y => by rw [g5.1, if_neg (fun z => by omega), d5.1, if_neg (fun z => by omega)]
    have j33 : ∀ y, sg_g σ8 33 y = sg_g σ2 33 y := fun y => by rw [g5.2, if_neg (fun z => by omega)]
    refine k σ8 (sg_F_t f2 f8) (by rw [g1]; omega) ?_ (fun i hi => ?_) j32 (fun y hy => by rw [j33]; exact (jQ_n d5 y hy).2) (fun _ => by rw [j33, d5.2, if_pos ⟨Or.inr rfl, rfl⟩])
    · refine pC_a (C := [(12, n)]) (C' := [(1, n)]) (pC_1 ?_ ?_) (pC_1 ?_ ?_)
      · rw [(g4 p (by omega)).1]; exact d2
      · rw [(g4 p (by omega)).2]; exact d3
      · exact g2
      · exact g3
    · obtain ⟨t1, t2⟩ := g4 i (by omega)
      rw [t1, t2]; exact d4 i (by omega)
  · refine ⟨fun z => absurd (q15.mp z) c15, fun _ => ?_⟩
    by_cases c0 : kd = 0
    · have hc : cnc A n = [(1, n)] := by unfold cnc; rw [hK, if_neg (by omega), if_neg (by omega), if_neg (by omega), if_neg (by omega), if_pos (Or.inl c0)]
      subst c0
      refine ⟨fun _ => ?_, fun z => absurd rfl z⟩
      unfold V_kConclude_257; exact one 1 (by decide) (by decide) (by decide) (by decide) hc
    by_cases c1 : kd = 1
    · have hc : cnc A n = [(1, n)] := by unfold cnc; rw [hK, if_neg (by omega), if_neg (by omega), if_neg (by omega), if_neg (by omega), if_pos (Or.inr (Or.inl c1))]
      subst c1
      refine ⟨fun z => absurd z (by decide), fun _ => ⟨fun _ => ?_, fun z => absurd rfl z⟩⟩
      unfold V_kConclude_257; exact one 1 (by decide) (by decide) (by decide) (by decide) hc
    by_cases c2 : kd = 2
    · have hc : cnc A n = [] := by unfold cnc; rw [hK, if_pos c2]
      subst c2
      refine ⟨fun z => absurd z (by decide), fun _ => ⟨fun z => absurd z (by decide), fun _ => ⟨fun _ => ?_, fun z => absurd rfl z⟩⟩⟩
      unfold V_kConclude_262
      refine k σ (sg_F_r _ _) ?_ (by rw [hc]; exact pC_0 _ _) (fun _ _ => ⟨rfl, rfl⟩) (fun _ => rfl) (fun _ _ => rfl) (fun z => by omega)
      rw [hc, List.length_nil, hp]; omega
    by_cases c3 : kd = 3
    · have hc : cnc A n = [(9, n)] := by unfold cnc; rw [hK, if_neg (by omega), if_pos c3]
      subst c3
      refine ⟨fun z => absurd z (by decide), fun _ => ⟨fun z => absurd z (by decide), fun _ => ⟨fun z => absurd z (by decide), fun _ => ⟨fun _ => ?_, fun z => absurd rfl z⟩⟩⟩⟩
      unfold V_kConclude_264; exact one 9 (by decide) (by decide) (by decide) (by decide) hc
    by_cases c14 : kd = 14
    · have hc : cnc A n = [(1, n)] := by unfold cnc; rw [hK, if_neg (by omega), if_neg (by omega), if_neg (by omega), if_neg (by omega), if_pos (Or.inr (Or.inr c14))]
      subst c14
      refine ⟨fun z => absurd z (by decide), fun _ => ⟨fun z => absurd z (by decide), fun _ => ⟨fun z => absurd z (by decide), fun _ => ⟨fun z => absurd z (by decide), fun _ => ⟨fun _ => ?_, fun z => absurd rfl z⟩⟩⟩⟩⟩
      unfold V_kConclude_257; exact one 1 (by decide) (by decide) (by decide) (by decide) hc
    by_cases c13 : kd = 13
    · have hc : cnc A n = [(5, n)] := by unfold cnc; rw [hK, if_neg (by omega), if_neg (by omega), if_pos c13]
      subst c13
      refine ⟨fun z => absurd z (by decide), fun _ => ⟨fun z => absurd z (by decide), fun _ => ⟨fun z => absurd z (by decide), fun _ => ⟨fun z => absurd z (by decide), fun _ => ⟨fun z => absurd z (by decide), fun _ => ⟨fun _ => ?_, fun z => absurd rfl z⟩⟩⟩⟩⟩⟩
      unfold V_kConclude_280; exact one 5 (by decide) (by decide) (by decide) (by decide) hc
    obtain ⟨k1, k257, k279⟩ := kmp_p (k := kd) (by omega)
    refine ⟨fun z => absurd z k257, fun _ => ⟨fun z => absurd (q1.mp z) c1, fun _ => ⟨fun z => absurd (q2.mp z) c2, fun _ => ⟨fun z => absurd (q3.mp z) c3, fun _ => ⟨fun z => absurd z k279, fun _ => ⟨fun z => absurd (q13.mp z) c13, fun _ => ?_⟩⟩⟩⟩⟩⟩
    unfold V_kConclude_d
    intro v4 e4 r4
    have e4' : v4 = 2 ∨ v4 = 3 := by
      rw [e4]; split
      · exact Or.inr rfl
      · exact Or.inl rfl
    refine one v4 r4 ⟨by omega, by omega, by omega⟩ ⟨fun z => by omega, fun z => absurd z c3⟩ c15 ?_
    unfold cnc
    rw [hK, if_neg c2, if_neg c3, if_neg c13, if_neg c15, if_neg (by omega), e4]
    by_cases o : kd = 11 ∨ kd = 16 ∨ (18 ≤ kd ∧ kd ≤ 22) ∨ kd = 24
    · rw [if_pos o, if_neg (fun z => z (k1.mpr o))]
    · rw [if_neg o, if_pos (fun z => o (k1.mp z))]
/-- what resolve leaves -/
def rS3 (σ σ7 : sg_S) (A : aT) (ds : kD) (es0 : kE) (cl n : Int) : Prop := (A.2.1 n = 1 → kFind es0 (A.2.2.2.1 n) = some (sg_g σ7 16 n)) ∧ (A.2.1 n = 13 → kDx ds (A.2.2.2.1 n) = some (sg_g σ7 16 n) ∧ (0 ≤ sg_g σ7 16 n ∧ sg_g σ7 16 n < cl)) ∧ (¬ A.2.1 n = 1 → ¬ A.2.1 n = 13 → sg_g σ7 16 n = sg_g σ 16 n) ∧ (∀ x, ¬ x = n → sg_g σ7 16 x = sg_g σ 16 x)
theorem d3_resolve {ds : kD} {es0 : kE} {e0 cl : Int} (h : ckW σ A) (hn : 0 ≤ n ∧ n < A.1) (hk : A.2.1 n = 1 ∨ A.2.1 n = 13) (h0 : sg_g σ 38 13 = 0) (hE : kmE σ e0 es0) (he : sg_g σ 38 9 = e0) (hb : 0 ≤ e0 ∧ e0 ≤ 272) (hcl : sg_g σ 38 11 = cl) (hd : dsC σ cl ds) (hl : ds.length ≤ 12) (k : ∀ σ', ¬ sg_g σ' 38 13 = 0 ∨ (sg_g σ' 38 13 = 0 ∧ rS3 σ σ' A ds es0 cl n) → sg_F [16, 13038, 14038] σ σ' → Q σ') : V_kResolve σ n (kmp (A.2.1 n)) Q := by
  have hA := h.1.2
  have n200 : 0 ≤ n ∧ n < 200 := by omega
  have nm : sx_atl σ 17 200 n = uv (A.2.2.2.1 n) := by
    rw [xl_in n200]
    exact (h.2.2 n hn.1 hn.2).1.2.2.1 (by omega)
  have wn := (h.2.1 n).1 (by omega)
  unfold V_kResolve
  rw [nm]
  refine ⟨fun v => v = -1 ∨ ((A.2.1 n = 1 → kFind es0 (A.2.2.2.1 n) = some v) ∧ (A.2.1 n = 13 → kDx ds (A.2.2.2.1 n) = some v ∧ (0 ≤ v ∧ v < cl))), ⟨fun z => ?_, fun z => ?_⟩, fun v rv hv => ?_⟩
  · have k13 : A.2.1 n = 13 := by
      rcases hk with y | y
      · rw [y] at z; exact absurd rfl z
      · exact y
    rw [hcl]
    exact d3_dfind hd hl wn (fun _ _ => Or.inl rfl) (fun q x _ q1 q2 q3 _ _ _ => Or.inr ⟨fun y => by omega, fun _ => ⟨q1, q2, q3⟩⟩)
  · have k1' : A.2.1 n = 1 := by
      rcases hk with y | y
      · exact y
      · rw [y] at z; exact absurd z (by decide)
    exact d3_find hE he hb wn (fun _ _ => Or.inl rfl) (fun s hs _ => Or.inr ⟨fun _ => hs, fun y => by omega⟩)
  · refine ⟨fun σ12 => ¬ sg_g σ12 38 13 = 0 ∨ (σ12 = σ ∧ 0 ≤ v), ⟨fun z => Or.inr ⟨rfl, z⟩, fun z => d_blame (by decide) (fun σ' t1 t2 _ => Or.inl t1)⟩, fun σ12 f12 h12 σ15 e15 => ?_⟩
    have f15 : sg_F [16] σ12 σ15 := by rw [e15]; exact xF_p (sg_F_r _ _) rfl _ _ _
    have FF : sg_F [16, 13038, 14038] σ σ15 := sg_F_t (sg_F_m f12 rfl) (sg_F_m f15 rfl)
    rcases h12 with z | ⟨z1, z2⟩
    · exact k σ15 (Or.inl (by rw [sg_F_g f15 (by rfl)]; exact z)) FF
    · subst z1
      rw [xp_in n200] at e15
      have g16 : sg_g σ15 16 n = v := by rw [e15, sg_gw_e _ _ _ _ rv]
      rcases hv with y | y
      · omega
      · exact k σ15 (Or.inr ⟨by rw [sg_F_g f15 (by rfl)]; exact h0, by rw [g16]; exact y.1, by rw [g16]; exact y.2, fun a c => by rcases hk with q | q; exact absurd q a; exact absurd q c, fun x hx => by rw [e15, sg_gw_k _ _ _ _ _ _ hx]⟩) FF
theorem kF_m {w v : Int} : ∀ {es : kE}, kFind es w = some v → ∃ p ∈ es, p.2 = v
  | [], h => by cases h
  | x :: r, h => by
    unfold kFind at h
    split at h
    · exact ⟨x, by simp, Option.some.inj h⟩
    · obtain ⟨p, a, b⟩ := kF_m h
      exact ⟨p, by simp [a], b⟩
theorem d3_leave {ds : kD} {es1 es0 : kE} {L : List Int} {e1 e0 b p cl : Int} (h : ckW σ A) (hn : 0 ≤ n ∧ n < A.1) (hw : nW A n) (ht : ∀ x ∈ A.2.2.2.2.1 n, kIn (sg_g σ 6 x) ∧ ¬ x = n) (hS : kS3 σ es1 e1 b p) (h41 : sg_g σ 41 n = e0) (hb : 0 ≤ e0 ∧ e0 ≤ e1 ∧ e1 ≤ 272) (hes : kmE σ e0 es0) (hE : ∀ s ∈ es0, (0 ≤ s.2 ∧ s.2 < 272) ∧ kIn (sg_g σ 34 s.2)) (hcl : sg_g σ 38 11 = cl) (hds : dsC σ cl ds) (hdl : ds.length ≤ 12) (hD : cDq σ A cl L) (hnL : n ∈ L) (hp : p + (cnc A n).length ≤ 1013) (k1 : ∀ σ', ¬ sg_g σ' 38 13 = 0 → Q σ') (k2 : ∀ σ', kS3 σ' es0 e0 b (p + (cnc A n).length) → sg_F lvL σ σ' → kU3 σ σ' e1 b p [n] → pC σ' p (cnc A n) → kIn (sg_g σ' 6 n) → (A.2.1 n = 1 → kFind es0 (A.2.2.2.1 n) = some (sg_g σ' 16 n)) → (A.2.1 n = 13 → kDx ds (A.2.2.2.1 n) = some (sg_g σ' 16 n)) → (¬ A.2.1 n = 1 → ¬ A.2.1 n = 13 → sg_g σ' 16 n = sg_g σ 16 n) → (sg_g σ' 32 n = sg_g σ 32 n ∧ (A.2.1 n = 3 ∨ A.2.1 n = 15 → sg_g σ' 33 n = p + 1)) → Q σ') : V_kLeave σ n Q := by
  obtain ⟨p0, p1, p2, p3, p4, p5, p6⟩ := ckW_p h hn
  obtain ⟨s1, ⟨s2, s3, s4⟩, s5, s6, s7, s8⟩ := id hS
  have hA := h.1.2
  have n200 : 0 ≤ n ∧ n < 200 := by omega
  obtain ⟨q2, q3, q15, q1, q13⟩ := kmp_q hw.1
  have hkd : sx_at σ 3 200 n = kmp (A.2.1 n) := by rw [p1 3 200 rfl]; exact (h.2.2 n hn.1 hn.2).1.1
  unfold V_kLeave
  intro σ1 x1
  rw [p1 41 200 rfl, h41] at x1
  have f1 : sg_F [10038] σ σ1 := by rw [x1]; exact sg_F_w (sg_F_r _ _) rfl _
  have g9 : sg_g σ1 38 9 = e0 := by rw [x1, sg_gw_e _ _ _ _ ⟨by omega, by omega⟩]
  have z1 : sg_g σ1 38 13 = 0 := by rw [sg_F_g f1 (by rfl)]; exact s1
  rw [hkd]
  have rs : (A.2.1 n = 1 ∨ A.2.1 n = 13) → V_kResolve σ1 n (kmp (A.2.1 n)) (fun σ46 => sg_F [16, 13038, 14038] σ1 σ46 → (¬ sg_g σ46 38 13 = 0 ∨ (sg_g σ46 38 13 = 0 ∧ rS3 σ1 σ46 A ds es0 cl n))) := fun hk => d3_resolve (ckW_F h f1 rfl) hn hk z1 (kmE_F hes f1 rfl) g9 ⟨hb.1, by omega⟩ (by rw [sg_F_g f1 (by rfl)]; exact hcl) (dsC_F f1 rfl hds) hdl (fun σ' y _ _ => y)
  refine ⟨fun σ7 => ¬ sg_g σ7 38 13 = 0 ∨ (sg_g σ7 38 13 = 0 ∧ rS3 σ1 σ7 A ds es0 cl n), ⟨fun z => rs (Or.inl (q1.mp z)), fun z => ⟨fun z2 => Or.inr ⟨z1, fun y => absurd (q1.mpr y) z, fun y => absurd (q13.mpr y) z2, fun _ _ => rfl, fun _ _ => rfl⟩, fun z2 => rs (Or.inr (q13.mp z2))⟩⟩, ?_⟩
  intro σ7 fr7 h7
  have f7 : sg_F [16, 10038, 13038, 14038] σ σ7 := sg_F_t (sg_F_m f1 rfl) (sg_F_m fr7 rfl)
  refine ⟨fun z => ?_, fun z => k1 σ7 z⟩
  rcases h7 with a | ⟨-, r1, r2, r3, r4⟩
  · exact absurd z a
  have T7 : sg_g σ7 6 = sg_g σ 6 := funext fun _ => sg_F_ga f7 rfl
  obtain ⟨ds', hds'⟩ : ∃ ds' : kD, A.2.1 n = 13 → ∃ ps r, kDef ds' (A.2.2.2.1 n) = some (ps, r) ∧ dcQ σ (sg_g σ7 16 n) (ps, r) ∧ (0 ≤ r ∧ r < A.1) ∧ kIn (sg_g σ 6 r) ∧ (r ∉ L ∧ sg_g σ7 16 n < 12) := by
    by_cases c : A.2.1 n = 13
    · obtain ⟨a, ps, r, y1, y2, y3, y4⟩ := hD _ (r2 c).2.1 (r2 c).2.2
      exact ⟨[(A.2.2.2.1 n, ps, r)], fun _ => ⟨ps, r, by simp [kDef], y1, y2, y3, y4, a⟩⟩
    · exact ⟨[], fun y => absurd y c⟩
  refine c_depth (ds := ds') (e := [(A.2.2.2.1 n, sg_g σ 34 (sg_g σ7 16 n))]) (ckW_F h f7 rfl) hn hw (by rw [T7]; exact fun x hx => (ht x hx).1) (fun y => ?_) (fun y => ?_) (fun q hq rq => ?_)
  · obtain ⟨pp, pm, pe⟩ := kF_m (r1 y)
    have m := hE pp pm
    rw [pe] at m
    refine ⟨_, rfl, m.1, ?_, ?_⟩
    · simp only [kFind, if_true]; rw [show sg_g σ7 34 (sg_g σ7 16 n) = sg_g σ 34 (sg_g σ7 16 n) from sg_F_ga f7 rfl]
    · rw [show sg_g σ7 34 (sg_g σ7 16 n) = sg_g σ 34 (sg_g σ7 16 n) from sg_F_ga f7 rfl]; exact m.2
  · obtain ⟨ps, r, y1, y2, y3, y4, y5, y6⟩ := hds' y
    exact ⟨_, ps, r, rfl, ⟨(r2 y).2.1, y6⟩, y1, dcQ_F y2 f7 rfl, by omega, by rw [T7]; exact y4⟩
  · rw [T7] at hq
    refine ⟨fun σ20 => ¬ sg_g σ20 38 13 = 0 ∨ (σ20 = σ7 ∧ 0 ≤ q ∧ q ≤ 3), ⟨fun _ => d_blame (by decide) (fun σ' y _ _ => Or.inl y), fun y => ⟨fun y2 => Or.inr ⟨rfl, y, y2⟩, fun _ => d_blame (by decide) (fun σ' y _ _ => Or.inl y)⟩⟩, fun σ20 f20 h20 σ23 e23 => ?_⟩
    rw [xp_in n200] at e23
    have f23 : sg_F [6] σ20 σ23 := by rw [e23]; exact sg_F_w (sg_F_r _ _) rfl _
    have q23 : sg_g σ23 28 6 = p := by rw [sg_F_g f23 (by rfl), sg_F_g f20 (by rfl), sg_F_g f7 (by rfl)]; exact s4
    refine d3_conclude hw n200 q23 ⟨s8, hp⟩ (fun σ27 f27 d1 d2 d3 d4 d5 d6 _ => ?_)
    rcases h20 with a | ⟨a, aq⟩
    · exact k1 σ27 (by rw [sg_F_g f27 (by rfl), sg_F_g f23 (by rfl)]; exact a)
    · subst a
      have f27' : sg_F [6, 29, 30, 32, 33, 7028] σ20 σ27 := sg_F_t (sg_F_m f23 rfl) (sg_F_m f27 rfl)
      have f23' : sg_F [6, 16, 10038, 13038, 14038] σ σ23 := sg_F_t (sg_F_m f7 rfl) (sg_F_m f23 rfl)
      have FF : sg_F lvL σ σ27 := sg_F_t (sg_F_m f7 rfl) (sg_F_m f27' rfl)
      have g6 : sg_g σ27 6 n = q := by rw [sg_F_ga f27 rfl, e23, sg_gw_e _ _ _ _ rq]
      have o6 : ∀ x, ¬ x = n → sg_g σ27 6 x = sg_g σ 6 x := fun x hx => by rw [sg_F_ga f27 rfl, e23, sg_gw_k _ _ _ _ _ _ hx, sg_F_ga f7 rfl]
      have g16 : ∀ x, sg_g σ27 16 x = sg_g σ20 16 x := fun x => sg_F_ga f27' rfl
      refine k2 σ27 ⟨by rw [sg_F_g f27' (by rfl)]; exact z, ⟨by rw [sg_F_g f27' (by rfl), sg_F_g fr7 (by rfl)]; exact g9, by rw [sg_F_g f27' (by rfl), sg_F_g f7 (by rfl)]; exact s3, d1⟩, kmE_F hes FF rfl, hb.1, s7, by omega⟩ FF ⟨fun x hx => ?_, fun s _ => sg_F_ga FF rfl, fun i _ => ⟨sg_F_ga FF rfl, sg_F_gal FF rfl⟩, fun i hi => ?_⟩ d2 (by rw [g6]; exact aq) (fun y => by rw [g16]; exact r1 y) (fun y => by rw [g16]; exact (r2 y).1) (fun y1 y2 => ?_) ⟨by rw [d4, sg_F_ga f23' rfl], d6⟩
      · have xn : ¬ x = n := by simpa using hx
        refine ⟨⟨o6 x xn, ?_, by rw [d4, sg_F_ga f23' rfl], by rw [d5 x xn, sg_F_ga f23' rfl]⟩, sg_F_ga FF rfl, sg_F_ga FF rfl, sg_F_ga FF rfl, sg_F_ga FF rfl⟩
        rw [g16, r4 x xn, sg_F_ga f1 rfl]
      · obtain ⟨t1, t2⟩ := d3 i hi
        rw [t1, t2, sg_F_ga f23 rfl, sg_F_ga f7 rfl, sg_F_ga f23 rfl, sg_F_ga f7 rfl]
        exact ⟨rfl, rfl⟩
      · rw [g16, r3 y1 y2, sg_F_ga f1 rfl]
end CK5T
