/-! enter, conclude once more. -/
section CK5
variable {σ : sg_S} {A : aT} {n : Int} {Q : sg_S → Prop}
abbrev enL : List Nat := [16, 29, 30, 32, 33, 41, 43, 44, 7028]
theorem d_enter {es : List Int} {e b p : Int} (hn : 0 ≤ n ∧ n < 200) (hS : kS σ es e b p) (hp : p < 1013) (k : ∀ σ', kS σ' es e b (p + 1) → sg_F enL σ σ' → kU σ σ' e b p [n] → (sg_g σ' 29 p = 0 ∧ sg_g σ' 30 p = n) → sg_g σ' 16 n = b → (sg_g σ' 43 n = sg_g σ 7 n ∧ sg_g σ' 44 n = 0 ∧ sg_g σ' 41 n = e) → Q σ') : V_kEnter σ n Q := by
  obtain ⟨s1, ⟨s2, s3, s4⟩, s5, s6, s7, s8⟩ := id hS
  unfold V_kEnter
  refine ⟨fun _ => ?_, fun z => absurd s1 z⟩
  refine d_add (p := p) s4 ⟨s8, hp⟩ (by decide) ⟨by omega, by omega⟩ (fun σ3 f3 d1 d2 d3 d4 _ σ8 e8 σ11 e11 σ14 e14 σ17 e17 => ?_)
  rw [xp_in hn, xa_in hn] at e8
  rw [xp_in hn] at e11
  rw [xp_in hn, s2] at e14
  rw [xp_in hn, s3] at e17
  have r9 : sg_R e := by rw [← s2]; exact sg_Rg _ _ _
  have r10 : sg_R b := by rw [← s3]; exact sg_Rg _ _ _
  have f17 : sg_F [16, 41, 43, 44] σ3 σ17 := by rw [e17, e14, e11, e8]; exact sg_F_w (sg_F_w (sg_F_w (sg_F_w (sg_F_r _ _) rfl _) rfl _) rfl _) rfl _
  have FF : sg_F enL σ σ17 := sg_F_t (sg_F_m f3 rfl) (sg_F_m f17 rfl)
  have g16 : sg_g σ17 16 n = b := by rw [e17, sg_gw_e _ _ _ _ r10]
  have g41 : sg_g σ17 41 n = e := by rw [e17, sg_gw_c _ _ _ _ _ _ (by decide), e14, sg_gw_e _ _ _ _ r9]
  have g44 : sg_g σ17 44 n = 0 := by rw [e17, sg_gw_c _ _ _ _ _ _ (by decide), e14, sg_gw_c _ _ _ _ _ _ (by decide), e11, sg_gw_e _ _ _ _ (by decide)]
  have g43 : sg_g σ17 43 n = sg_g σ 7 n := by rw [e17, sg_gw_c _ _ _ _ _ _ (by decide), e14, sg_gw_c _ _ _ _ _ _ (by decide), e11, sg_gw_c _ _ _ _ _ _ (by decide), e8, sg_gw_e _ _ _ _ (sg_Rg _ _ _)]
  refine k σ17 ⟨by rw [sg_F_g FF (by rfl)]; exact s1, ⟨by rw [sg_F_g FF (by rfl)]; exact s2, by rw [sg_F_g FF (by rfl)]; exact s3, by rw [sg_F_g f17 (by rfl)]; exact d1⟩, fun i a c => by rw [sg_F_ga FF rfl]; exact s5 i a c, s6, s7, by omega⟩ FF ⟨fun x hx => ?_, fun s _ => sg_F_ga FF rfl, fun i _ => sg_F_ga FF rfl, fun i hi => ?_⟩ ⟨by rw [sg_F_ga f17 rfl]; exact d2, by rw [sg_F_ga f17 rfl]; exact d3⟩ g16 ⟨g43, g44, g41⟩
  · have xn : ¬ x = n := by simpa using hx
    refine ⟨⟨sg_F_ga FF rfl, ?_⟩, ?_, sg_F_ga FF rfl, ?_, ?_⟩
    · rw [e17, sg_gw_k _ _ _ _ _ _ xn, e14, sg_gw_c _ _ _ _ _ _ (by decide), e11, sg_gw_c _ _ _ _ _ _ (by decide), e8, sg_gw_c _ _ _ _ _ _ (by decide), sg_F_ga f3 rfl]
    · rw [e17, sg_gw_c _ _ _ _ _ _ (by decide), e14, sg_gw_k _ _ _ _ _ _ xn, e11, sg_gw_c _ _ _ _ _ _ (by decide), e8, sg_gw_c _ _ _ _ _ _ (by decide), sg_F_ga f3 rfl]
    · rw [e17, sg_gw_c _ _ _ _ _ _ (by decide), e14, sg_gw_c _ _ _ _ _ _ (by decide), e11, sg_gw_c _ _ _ _ _ _ (by decide), e8, sg_gw_k _ _ _ _ _ _ xn, sg_F_ga f3 rfl]
    · rw [e17, sg_gw_c _ _ _ _ _ _ (by decide), e14, sg_gw_c _ _ _ _ _ _ (by decide), e11, sg_gw_k _ _ _ _ _ _ xn, e8, sg_gw_c _ _ _ _ _ _ (by decide), sg_F_ga f3 rfl]
  · rw [sg_F_ga f17 rfl, sg_F_ga f17 rfl]
    exact d4 i (by omega)
theorem kmp_p {k : Int} (h : (4 ≤ k ∧ k ≤ 12) ∨ (16 ≤ k ∧ k ≤ 27)) : (v_kPartsOf (kmp k) = 1 ↔ (k = 11 ∨ k = 16 ∨ (18 ≤ k ∧ k ≤ 22) ∨ k = 24)) ∧ ¬ kmp k = 257 ∧ ¬ kmp k = 279 := by
  have c : k = 4 ∨ k = 5 ∨ k = 6 ∨ k = 7 ∨ k = 8 ∨ k = 9 ∨ k = 10 ∨ k = 11 ∨ k = 12 ∨ k = 16 ∨ k = 17 ∨ k = 18 ∨ k = 19 ∨ k = 20 ∨ k = 21 ∨ k = 22 ∨ k = 23 ∨ k = 24 ∨ k = 25 ∨ k = 26 ∨ k = 27 := by omega
  rcases c with e | e | e | e | e | e | e | e | e | e | e | e | e | e | e | e | e | e | e | e | e <;> subst e <;> decide
theorem d_conclude {p : Int} (hw : nW A n) (hn : 0 ≤ n ∧ n < 200) (hp : sg_g σ 28 6 = p) (h0 : 0 ≤ p ∧ p + (cnc A n).length ≤ 1013) (k : ∀ σ', sg_F [29, 30, 32, 33, 7028] σ σ' → sg_g σ' 28 6 = p + (cnc A n).length → pC σ' p (cnc A n) → (∀ i, i < p → sg_g σ' 29 i = sg_g σ 29 i ∧ sg_g σ' 30 i = sg_g σ 30 i) → Q σ') : V_kConclude σ n (kmp (A.2.1 n)) Q := by
  have n1 := hw.1
  obtain ⟨q2, q3, q15, q1, q13⟩ := kmp_q n1
  have n200 : sg_R n := ⟨by omega, by omega⟩
  have one : ∀ o, sg_R o → cnc A n = [(o, n)] → V_kpAdd σ o n (fun σ2 => sg_F [29, 30, 32, 33, 7028] σ σ2 → Q σ2) := fun o ro hc => by
    rw [hc, List.length_cons, List.length_nil] at h0
    refine d_add (p := p) hp ⟨h0.1, by omega⟩ ro n200 (fun σ' f d1 d2 d3 d4 _ => k σ' f ?_ ?_ (fun i hi => d4 i (by omega)))
    · rw [hc, List.length_cons, List.length_nil, d1]; omega
    · rw [hc]; exact pC_1 d2 d3
  unfold V_kConclude
  generalize hK : A.2.1 n = kd at *
  by_cases c15 : kd = 15
  · have hc : cnc A n = [(12, n), (1, n)] := by unfold cnc; rw [hK, if_neg (by omega), if_neg (by omega), if_neg (by omega), if_pos c15]
    rw [hc] at h0 k
    simp only [List.length_cons, List.length_nil] at h0 k
    refine ⟨fun _ => ?_, fun z => absurd (q15.mpr c15) z⟩
    unfold V_kConclude_123
    refine d_add (p := p) hp ⟨h0.1, by omega⟩ (by decide) n200 (fun σ2 f2 d1 d2 d3 d4 _ => d_add (p := p + 1) d1 ⟨by omega, by omega⟩ (by decide) n200 (fun σ8 f8 g1 g2 g3 g4 _ => ?_))
    refine k σ8 (sg_F_t f2 f8) (by rw [g1]; omega) ?_ (fun i hi => ?_)
    · refine pC_a (C := [(12, n)]) (C' := [(1, n)]) (pC_1 ?_ ?_) (pC_1 ?_ ?_)
      · rw [(g4 p (by omega)).1]; exact d2
      · rw [(g4 p (by omega)).2]; exact d3
      · exact g2
      · exact g3
    · obtain ⟨t1, t2⟩ := g4 i (by omega)
      rw [t1, t2]; exact d4 i (by omega)
  · refine ⟨fun z => absurd (q15.mp z) c15, fun _ => ?_⟩
    by_cases c0 : kd = 0
    · have hc : cnc A n = [(1, n)] := by unfold cnc; rw [hK, if_neg (by omega), if_neg (by omega), if_neg (by omega), if_neg (by omega), if_pos (Or.inl c0)]
      subst c0
      refine ⟨fun _ => ?_, fun z => absurd rfl z⟩
      unfold V_kConclude_257; exact one 1 (by decide) hc
    by_cases c1 : kd = 1
    · have hc : cnc A n = [(1, n)] := by unfold cnc; rw [hK, if_neg (by omega), if_neg (by omega), if_neg (by omega), if_neg (by omega), if_pos (Or.inr (Or.inl c1))]
      subst c1
      refine ⟨fun z => absurd z (by decide), fun _ => ⟨fun _ => ?_, fun z => absurd rfl z⟩⟩
      unfold V_kConclude_257; exact one 1 (by decide) hc
    by_cases c2 : kd = 2
    · have hc : cnc A n = [] := by unfold cnc; rw [hK, if_pos c2]
      subst c2
      refine ⟨fun z => absurd z (by decide), fun _ => ⟨fun z => absurd z (by decide), fun _ => ⟨fun _ => ?_, fun z => absurd rfl z⟩⟩⟩
      unfold V_kConclude_262
      refine k σ (sg_F_r _ _) ?_ (by rw [hc]; exact pC_0 _ _) (fun _ _ => ⟨rfl, rfl⟩)
      rw [hc, List.length_nil, hp]; omega
    by_cases c3 : kd = 3
    · have hc : cnc A n = [(9, n)] := by unfold cnc; rw [hK, if_neg (by omega), if_pos c3]
      subst c3
      refine ⟨fun z => absurd z (by decide), fun _ => ⟨fun z => absurd z (by decide), fun _ => ⟨fun z => absurd z (by decide), fun _ => ⟨fun _ => ?_, fun z => absurd rfl z⟩⟩⟩⟩
      unfold V_kConclude_264; exact one 9 (by decide) hc
    by_cases c14 : kd = 14
    · have hc : cnc A n = [(1, n)] := by unfold cnc; rw [hK, if_neg (by omega), if_neg (by omega), if_neg (by omega), if_neg (by omega), if_pos (Or.inr (Or.inr c14))]
      subst c14
      refine ⟨fun z => absurd z (by decide), fun _ => ⟨fun z => absurd z (by decide), fun _ => ⟨fun z => absurd z (by decide), fun _ => ⟨fun z => absurd z (by decide), fun _ => ⟨fun _ => ?_, fun z => absurd rfl z⟩⟩⟩⟩⟩
      unfold V_kConclude_257; exact one 1 (by decide) hc
    by_cases c13 : kd = 13
    · have hc : cnc A n = [(5, n)] := by unfold cnc; rw [hK, if_neg (by omega), if_neg (by omega), if_pos c13]
      subst c13
      refine ⟨fun z => absurd z (by decide), fun _ => ⟨fun z => absurd z (by decide), fun _ => ⟨fun z => absurd z (by decide), fun _ => ⟨fun z => absurd z (by decide), fun _ => ⟨fun z => absurd z (by decide), fun _ => ⟨fun _ => ?_, fun z => absurd rfl z⟩⟩⟩⟩⟩⟩
      unfold V_kConclude_280; exact one 5 (by decide) hc
    obtain ⟨k1, k257, k279⟩ := kmp_p (k := kd) (by omega)
    refine ⟨fun z => absurd z k257, fun _ => ⟨fun z => absurd (q1.mp z) c1, fun _ => ⟨fun z => absurd (q2.mp z) c2, fun _ => ⟨fun z => absurd (q3.mp z) c3, fun _ => ⟨fun z => absurd z k279, fun _ => ⟨fun z => absurd (q13.mp z) c13, fun _ => ?_⟩⟩⟩⟩⟩⟩
    unfold V_kConclude_d
    intro v4 e4 r4
    refine one v4 r4 ?_
    unfold cnc
    rw [hK, if_neg c2, if_neg c3, if_neg c13, if_neg c15, if_neg (by omega), e4]
    by_cases o : kd = 11 ∨ kd = 16 ∨ (18 ≤ kd ∧ kd ≤ 22) ∨ kd = 24
    · rw [if_pos o, if_neg (fun z => z (k1.mpr o))]
    · rw [if_neg o, if_pos (fun z => o (k1.mp z))]
end CK5
