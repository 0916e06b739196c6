/-! ahead, enter, conclude once more. -/
section CK4
variable {σ : sg_S} {A : aT} {n : Int} {Q : sg_S → Prop}
abbrev ahL : List Nat := [16, 29, 30, 32, 33, 34, 39, 40, 7028, 10038, 11038, 13038, 14038]
theorem d_ahead {es : List Int} {e b p : Int} {s : Nat} (h : ckW σ A) (hn : 0 ≤ n ∧ n < A.1) (hw : nW A n) (hs : s < (kOrd A n).length) (hS : kS σ es e b p) (ht : ∀ x ∈ (kOrd A n).take s, kIn (sg_g σ 6 x)) (he : e + (bA A n s b - b) ≤ 272) (hb : bA A n s b ≤ 272) (hp : p + (ahd A n s).length ≤ 1013) (k1 : ∀ σ', ¬ sg_g σ' 38 13 = 0 → Q σ') (k2 : ∀ σ', kS σ' (esA A n s es b) (e + (bA A n s b - b)) (bA A n s b) (p + (ahd A n s).length) → sg_F ahL σ σ' → kU σ σ' e b p [n] → pC σ' p (ahd A n s) → cA σ' A n s b → (kNo A n s → sg_g σ' 16 n = sg_g σ 16 n) → (A.2.1 n = 15 → s = (A.2.2.2.2.2 n).length → ∀ x ∈ kGs A n, 0 < sg_g σ' 6 x) → Q σ') : V_kAhead σ n s Q := by
  obtain ⟨p0, p1, p2, p3, p4, p5, p6⟩ := ckW_p h hn
  obtain ⟨n1, n2, n3, n4, n5, n6, n7, n8⟩ := id hw
  have hkl := kOrd_len A n
  obtain ⟨q2, q3, q15, q1, q13⟩ := kmp_q n1
  obtain ⟨s1, ⟨s2, s3, s4⟩, s5, s6, s7, s8⟩ := id hS
  have hA := h.1
  have n200 : sg_R n := ⟨by omega, by omega⟩
  have hkd : sx_at σ 3 200 n = kmp (A.2.1 n) := by rw [p1 3 200 rfl]; exact (h.2.2 n hn.1 hn.2).1.1
  have cAno : ∀ σ', kNo A n s → cA σ' A n s b := fun σ' z => ⟨fun a c => absurd ⟨a, c⟩ z.1, fun a c => absurd ⟨a, c⟩ z.2⟩
  -- no order
  have stay0 : kNo A n s → ahd A n s = [] → Q σ := fun z ha => by
    obtain ⟨x1, x2⟩ := esA_no z es b
    refine k2 σ ?_ (sg_F_r _ _) (kU_r _ _ _ _ _) (by rw [ha]; exact pC_0 _ _) (cAno σ z) (fun _ => rfl) (fun a c => absurd ⟨a, c⟩ z.2)
    rw [x1, x2, ha, List.length_nil, show e + (b - b) = e by omega, show p + ((0 : Nat) : Int) = p by omega]
    exact hS
  -- one order
  have stay1 : ∀ o, sg_R o → kNo A n s → ahd A n s = [(o, n)] → V_kpAdd σ o n (fun σ7 => sg_F [29, 30, 32, 33, 7028] σ σ7 → Q σ7) := fun o ro z ha => by
    obtain ⟨x1, x2⟩ := esA_no z es b
    rw [ha] at hp
    simp only [List.length_cons, List.length_nil] at hp
    refine d_add (p := p) s4 ⟨s8, by omega⟩ ro n200 (fun σ' f d1 d2 d3 d4 _ => ?_)
    refine k2 σ' ?_ (sg_F_m f rfl) ⟨fun x _ => ⟨⟨sg_F_ga f rfl, sg_F_ga f rfl⟩, sg_F_ga f rfl, sg_F_ga f rfl, sg_F_ga f rfl, sg_F_ga f rfl⟩, fun x _ => sg_F_ga f rfl, fun i _ => sg_F_ga f rfl, fun i hi => d4 i (by omega)⟩ (by rw [ha]; exact pC_1 d2 d3) (cAno σ' z) (fun _ => sg_F_ga f rfl) (fun a c => absurd ⟨a, c⟩ z.2)
    rw [x1, x2, ha, List.length_cons, List.length_nil, show e + (b - b) = e by omega, show p + ((0 + 1 : Nat) : Int) = p + 1 by omega]
    exact ⟨by rw [sg_F_g f (by rfl)]; exact s1, ⟨by rw [sg_F_g f (by rfl)]; exact s2, by rw [sg_F_g f (by rfl)]; exact s3, d1⟩, fun i a c => by rw [sg_F_ga f rfl]; exact s5 i a c, s6, s7, by omega⟩
  unfold V_kAhead
  rw [hkd, p1 13 200 rfl]
  by_cases c2 : A.2.1 n = 2
  · have m2 := q2.mpr c2
    rw [m2]
    refine ⟨fun z => absurd rfl z, fun _ => ⟨fun z => ?_, fun z => ?_⟩⟩
    · have kn : kNo A n s := ⟨fun y => z (by omega), fun y => by omega⟩
      have ha : ahd A n s = [] := by unfold ahd; rw [if_neg (by omega), if_neg (by omega), if_neg (by omega), if_neg (by omega)]
      exact ⟨fun _ => ⟨fun _ => ⟨fun _ => stay0 kn ha, fun y => absurd y (by decide)⟩, fun y => absurd y (by decide)⟩, fun y => absurd y (by decide)⟩
    · have l2 := n3 (Or.inl c2)
      have s1' : s = 1 := by omega
      subst s1'
      have ha : ahd A n 1 = [(4, n)] := by unfold ahd; rw [if_pos ⟨c2, rfl⟩]
      have be : bA A n 1 b = b + 1 := by unfold bA; rw [if_pos ⟨c2, rfl⟩]
      have ee : esA A n 1 es b = b :: es := by unfold esA; rw [if_pos ⟨c2, rfl⟩]
      rw [ha, List.length_cons, List.length_nil] at hp
      rw [be] at he hb
      obtain ⟨x, hx⟩ : ∃ x, (kOrd A n)[0]? = some x := ⟨_, List.getElem?_eq_getElem (by omega)⟩
      have x7 := p3 x hx
      have xm : x ∈ (kOrd A n).take 1 := by
        rw [List.mem_take_iff_getElem]
        have h0 : 0 < (kOrd A n).length := by omega
        refine ⟨0, by omega, ?_⟩
        rw [List.getElem?_eq_getElem h0] at hx
        exact Option.some.inj hx
      have tx := ht x xm
      have hx2 : (A.2.2.2.2.1 n).getD 0 0 = x := by
        have : kOrd A n = A.2.2.2.2.1 n := by unfold kOrd; rw [if_neg (by omega)]
        rw [this] at hx
        rw [List.getD_eq_getElem?_getD, hx]; rfl
      rw [p1 7 200 rfl, x7, xa_in (p6 x (List.mem_of_getElem? hx))]
      have tx1 := tx.1
      have tx2 := tx.2
      refine d_bind (e := e) (b := b) s2 s3 ⟨⟨s6, by omega⟩, s7, by omega⟩ ⟨by omega, by omega⟩ (fun σ' f' b1 b2 b3 b4 b5 b6 rb _ σ131 e131 => ?_)
      rw [xp_in ⟨hn.1, by omega⟩] at e131
      have f131 : sg_F [16] σ' σ131 := by rw [e131]; exact sg_F_w (sg_F_r _ _) rfl _
      refine d_add (p := p) (by rw [sg_F_g f131 (by rfl), sg_F_g f' (by rfl)]; exact s4) ⟨s8, by omega⟩ (by decide) n200 (fun σ135 f135 d1 d2 d3 d4 _ => ?_)
      have ff : sg_F [16, 29, 30, 32, 33, 7028] σ' σ135 := sg_F_t (sg_F_m f131 rfl) (sg_F_m f135 rfl)
      have FF : sg_F ahL σ σ135 := sg_F_t (sg_F_m f' rfl) (sg_F_m ff rfl)
      have g16 : sg_g σ135 16 n = b := by rw [sg_F_ga f135 rfl, e131, sg_gw_e _ _ _ _ rb]
      refine k2 σ135 ?_ FF ⟨fun y hy => ⟨⟨sg_F_ga FF rfl, ?_⟩, sg_F_ga FF rfl, sg_F_ga FF rfl, sg_F_ga FF rfl, sg_F_ga FF rfl⟩, fun y hy => by rw [sg_F_ga ff rfl, b6 y (by omega)], fun i hi => by rw [sg_F_ga ff rfl, b4 i (by omega)], fun i hi => ?_⟩ (by rw [ha]; exact pC_1 d2 d3) ⟨fun _ _ => ⟨g16, ?_⟩, fun z => by omega⟩ (fun z => absurd ⟨c2, rfl⟩ z.1) (fun z => by omega)
      · rw [ee, be, ha, List.length_cons, List.length_nil, show e + (b + 1 - b) = e + 1 by omega, show p + ((0 + 1 : Nat) : Int) = p + 1 by omega]
        refine ⟨by rw [sg_F_g ff (by rfl), sg_F_g f' (by rfl)]; exact s1, ⟨by rw [sg_F_g ff (by rfl)]; exact b1, by rw [sg_F_g ff (by rfl)]; exact b2, d1⟩, fun i a c => ?_, by omega, by omega, by omega⟩
        rw [sg_F_ga ff rfl]
        by_cases ci : i = e
        · rw [ci, b3]; simp
        · rw [b4 i ci]; exact List.mem_cons_of_mem _ (s5 i a (by omega))
      · rw [sg_F_ga f135 rfl, e131, sg_gw_k _ _ _ _ _ _ (by simpa using hy), sg_F_ga f' rfl]
      · obtain ⟨t1, t2⟩ := d4 i (by omega)
        rw [t1, t2, sg_F_ga f131 rfl, sg_F_ga f' rfl, sg_F_ga f131 rfl, sg_F_ga f' rfl]
        exact ⟨rfl, rfl⟩
      · rw [sg_F_ga ff rfl, b5, hx2]
        exact (sg_F_ga FF rfl).symm
  · have m2 : ¬ kmp (A.2.1 n) = 262 := fun z => c2 (q2.mp z)
    refine ⟨fun _ => ?_, fun z => absurd z m2⟩
    by_cases c3 : A.2.1 n = 3
    · have m3 := q3.mpr c3
      rw [m3]
      have kn : kNo A n s := ⟨fun y => by omega, fun y => by omega⟩
      refine ⟨fun z => absurd rfl z, fun _ => ⟨fun z0 => ?_, fun z0 v54 e54 r54 => ?_⟩⟩
      · have ha : ahd A n s = [] := by unfold ahd; rw [if_neg (by omega), if_neg (by omega), if_neg (by omega), if_neg (by omega)]
        exact ⟨fun _ => ⟨fun _ => stay0 kn ha, fun y => absurd y (by decide)⟩, fun y => absurd y (by decide)⟩
      · refine stay1 v54 r54 kn ?_
        unfold ahd
        rw [if_neg (by omega), if_pos ⟨c3, by omega⟩, e54]
        by_cases c1 : s = 1
        · rw [if_pos c1, if_neg (by omega)]
        · rw [if_neg c1, if_pos (by omega)]
    · have m3 : ¬ kmp (A.2.1 n) = 264 := fun z => c3 (q3.mp z)
      refine ⟨fun _ => ?_, fun z => absurd z m3⟩
      by_cases c15 : A.2.1 n = 15
      · have m15 := q15.mpr c15
        obtain ⟨e1, e2, e3⟩ := (h.2.2 n hn.1 hn.2).1.2.2.2.2 c15
        have l7 := n7 c15
        rw [m15, e1]
        refine ⟨fun z => absurd rfl z, fun _ => ⟨fun z => ?_, fun z => ?_⟩⟩
        · have kn : kNo A n s := ⟨fun y => by omega, fun y => z (by omega)⟩
          refine ⟨fun y => absurd rfl y, fun _ => ⟨fun z1 => stay0 kn ?_, fun z1 => stay1 11 (by decide) kn ?_⟩⟩
          · unfold ahd; rw [if_neg (by omega), if_neg (by omega), if_neg (by omega), if_neg (by omega)]
          · unfold ahd; rw [if_neg (by omega), if_neg (by omega), if_neg (by omega), if_pos ⟨c15, by omega⟩]
        · have sg : s = (A.2.2.2.2.2 n).length := by omega
          have ha : ahd A n s = [(10, n)] := by unfold ahd; rw [if_neg (by omega), if_neg (by omega), if_pos ⟨c15, sg⟩]
          have be : bA A n s b = b + (A.2.2.2.2.2 n).length := by unfold bA; rw [if_neg (by omega), if_pos ⟨c15, sg⟩]
          have ee : esA A n s es b = gsl b (A.2.2.2.2.2 n).length ++ es := by unfold esA; rw [if_neg (by omega), if_pos ⟨c15, sg⟩]
          rw [ha, List.length_cons, List.length_nil] at hp
          rw [be] at he hb
          have hgx : ∀ x ∈ kGs A n, x ∈ (kOrd A n).take s := fun x hx => by
            unfold kGs at hx
            unfold kOrd
            rw [if_pos c15, List.take_append_of_le_length (by rw [List.length_drop]; omega), sg]
            exact hx
          refine d_open h hn hw c15 hS (fun x hx => ht x (hgx x hx)) (by omega) (by omega) (by omega) (fun σ' z _ => k1 σ' z) (fun σ' y1 y2 y3 y4 y5 y6 _ => k2 σ' ?_ y2 y3 (by rw [ha]; exact pC_1 y4.1 y4.2) ⟨fun z => by omega, fun _ _ => y5⟩ (fun z => absurd ⟨c15, sg⟩ z.2) (fun _ _ => y6))
          rw [ee, be, ha, List.length_cons, List.length_nil, show e + (b + ((A.2.2.2.2.2 n).length : Int) - b) = e + (A.2.2.2.2.2 n).length by omega, show p + ((0 + 1 : Nat) : Int) = p + 1 by omega]
          exact y1
      · have m15 : ¬ kmp (A.2.1 n) = 123 := fun z => c15 (q15.mp z)
        have kn : kNo A n s := ⟨fun y => c2 y.1, fun y => c15 y.1⟩
        have ha := (kQ_o (s := s) c2 c3 c15).1
        exact ⟨fun _ => ⟨fun _ => stay0 kn ha, fun y => absurd y m15⟩, fun y => absurd y m15⟩
end CK4
