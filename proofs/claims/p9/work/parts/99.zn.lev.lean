/-! ahead, enter, resolve, leave of the class. -/
section LEV
variable {σ : sg_S} {A : aT} {ds : kD} {e : kE} {n : Int} {c s : Nat} {Q : sg_S → Prop}
theorem c_ahead (h : ckW σ A) (hn : 0 ≤ n ∧ n < A.1) (hw : nW A n) (hs : s < (kOrd A n).length) (hF : cZ σ) (ht : ∀ x ∈ (kOrd A n).take s, kIn (sg_g σ 6 x)) (he : ckE σ (sg_g σ 38 9) e) (hel : e.length ≤ 250) (hc : sg_g σ 38 10 = c) (hc2 : (kBd A (sg_g σ 6) e n s).length + c ≤ 272 + e.length) (k1 : ∀ σ', (A.2.1 n = 15 ∧ s = (A.2.2.2.2.2 n).length ∧ kGens (sg_g σ 6) (A.2.2.2.2.2 n) (kGs A n) = false) → cF σ' → sg_F [16, 29, 30, 32, 33, 34, 39, 40, 7028, 10038, 11038, 13038, 14038] σ σ' → Q σ') (k2 : ∀ σ', ¬ (A.2.1 n = 15 ∧ s = (A.2.2.2.2.2 n).length ∧ kGens (sg_g σ 6) (A.2.2.2.2.2 n) (kGs A n) = false) → cZ σ' → ckE σ' (sg_g σ' 38 9) (kBd A (sg_g σ 6) e n s) → sg_g σ' 38 10 = (c + ((kBd A (sg_g σ 6) e n s).length - e.length) : Nat) → sg_F [16, 29, 30, 32, 33, 34, 39, 40, 7028, 10038, 11038, 13038, 14038] σ σ' → Q σ') : V_kAhead σ n s Q := by
  obtain ⟨p0, p1, p2, p3, p4, p5, p6⟩ := ckW_p h hn
  obtain ⟨n1, n2, n3, n4, n5, n6, n7, n8⟩ := id hw
  have hkl := kOrd_len A n
  obtain ⟨q2, q3, q15, q1, q13⟩ := kmp_q n1
  have hkd : sx_at σ 3 200 n = kmp (A.2.1 n) := by rw [p1 3 200 rfl]; exact (h.2.2 n hn.1 hn.2).1.1
  have no : kNo A n s → ¬ (A.2.1 n = 15 ∧ s = (A.2.2.2.2.2 n).length ∧ kGens (sg_g σ 6) (A.2.2.2.2.2 n) (kGs A n) = false) := fun z y => z.2 ⟨y.1, y.2.1⟩
  have stay : kNo A n s → ∀ σ', sg_F [29, 30, 32, 33, 7028] σ σ' → Q σ' := fun z σ' f => by
    have kb := kBd_no z (sg_g σ 6) e
    refine k2 σ' (no z) ?_ ?_ ?_ (sg_F_m f rfl)
    · exact cZ_F hF f rfl
    · rw [kb, sg_F_g f (by rfl)]; exact ckE_F he f rfl
    · rw [kb, sg_F_g f (by rfl), hc, Nat.sub_self]; rfl
  have stay0 : kNo A n s → Q σ := fun z => stay z σ (sg_F_r _ _)
  unfold V_kAhead
  rw [hkd, p1 13 200 rfl]
  by_cases c2 : A.2.1 n = 2
  · have m2 := q2.mpr c2
    rw [m2]
    refine ⟨fun z => absurd rfl z, fun _ => ⟨fun z => ?_, fun z => ?_⟩⟩
    · have kn : kNo A n s := ⟨fun y => z (by omega), fun y => by omega⟩
      exact ⟨fun _ => ⟨fun _ => ⟨fun _ => stay0 kn, fun y => absurd y (by decide)⟩, fun y => absurd y (by decide)⟩, fun y => absurd y (by decide)⟩
    · have l2 := n3 (Or.inl c2)
      have s1 : s = 1 := by omega
      obtain ⟨x, hx⟩ : ∃ x, (kOrd A n)[0]? = some x := ⟨_, List.getElem?_eq_getElem (by omega)⟩
      have x7 := p3 x hx
      have xm : x ∈ (kOrd A n).take s := by
        rw [s1, List.mem_take_iff_getElem]
        have h0 : 0 < (kOrd A n).length := by omega
        refine ⟨0, by omega, ?_⟩
        rw [List.getElem?_eq_getElem h0] at hx
        exact Option.some.inj hx
      have tx := ht x xm
      have hx2 : (A.2.2.2.2.1 n).getD 0 0 = x := by
        have : kOrd A n = A.2.2.2.2.1 n := by unfold kOrd; rw [if_neg (by omega)]
        rw [this] at hx
        rw [List.getD_eq_getElem?_getD, hx]; rfl
      have kb : kBd A (sg_g σ 6) e n s = (A.2.2.2.1 n, sg_g σ 6 x) :: e := by
        unfold kBd; rw [if_pos ⟨c2, s1⟩, hx2]
      have hnm : sg_gl σ 17 n = uv (A.2.2.2.1 n) := (h.2.2 n hn.1 hn.2).1.2.2.1 (Or.inr (Or.inl c2))
      have hA := h.1.2
      rw [xl_in ⟨hn.1, by omega⟩, hnm, p1 7 200 rfl, x7, xa_in (p6 x (List.mem_of_getElem? hx))]
      rw [kb] at hc2 k2
      simp only [List.length_cons] at hc2 k2
      have tx1 := tx.1
      have tx2 := tx.2
      refine c_bind he hc (by omega) (by omega) ((h.2.1 n).1 (Or.inr (Or.inl c2))) (by rw [← hnm]; exact sg_Rgl _ _ _) ⟨by omega, by omega⟩ (fun σ' b1 b2 b3 b4 _ _ σ131 e131 => c_add (fun σ135 f135 _ => ?_))
      have f131 : sg_F [16] σ' σ131 := by rw [e131]; exact xF_p (sg_F_r _ _) rfl _ _ _
      have ff : sg_F [16, 29, 30, 32, 33, 7028] σ' σ135 := sg_F_t (sg_F_m f131 rfl) (sg_F_m f135 rfl)
      refine k2 σ135 (fun y => by omega) ?_ ?_ ?_ (sg_F_t (sg_F_m b4 rfl) (sg_F_m ff rfl))
      · exact cZ_F (cZ_F hF b4 rfl) ff rfl
      · rw [sg_F_g ff (by rfl)]; exact ckE_F b1 ff rfl
      · rw [sg_F_g ff (by rfl), b2]; omega
  · have m2 : ¬ kmp (A.2.1 n) = 262 := fun z => c2 (q2.mp z)
    refine ⟨fun _ => ?_, fun z => absurd z m2⟩
    by_cases c3 : A.2.1 n = 3
    · have m3 := q3.mpr c3
      rw [m3]
      have kn : kNo A n s := ⟨fun y => by omega, fun y => by omega⟩
      refine ⟨fun z => absurd rfl z, fun _ => ⟨fun _ => ⟨fun _ => ⟨fun _ => stay0 kn, fun y => absurd y (by decide)⟩, fun y => absurd y (by decide)⟩, fun _ v54 _ _ => c_add (fun σ' f _ => stay kn σ' f)⟩⟩
    · have m3 : ¬ kmp (A.2.1 n) = 264 := fun z => c3 (q3.mp z)
      refine ⟨fun _ => ?_, fun z => absurd z m3⟩
      by_cases c15 : A.2.1 n = 15
      · have m15 := q15.mpr c15
        obtain ⟨e1, e2, e3⟩ := (h.2.2 n hn.1 hn.2).1.2.2.2.2 c15
        have l7 := n7 c15
        rw [m15, e1]
        refine ⟨fun z => absurd rfl z, fun _ => ⟨fun z => ?_, fun z => ?_⟩⟩
        · have kn : kNo A n s := ⟨fun y => by omega, fun y => z (by omega)⟩
          exact ⟨fun y => absurd rfl y, fun _ => ⟨fun _ => stay0 kn, fun _ => c_add (fun σ' f _ => stay kn σ' f)⟩⟩
        · have sg : s = (A.2.2.2.2.2 n).length := by omega
          have kb : kBd A (sg_g σ 6) e n s = kBind (sg_g σ 6) (A.2.2.2.2.2 n) (kGs A n) e := by
            unfold kBd; rw [if_neg (fun y => c2 y.1), if_pos ⟨c15, sg⟩]
          have hgl : (kGs A n).length = (A.2.2.2.2.2 n).length := by unfold kGs; rw [List.length_take, List.length_drop]; omega
          have bl := (kBind_len (T := sg_g σ 6) (A.2.2.2.2.2 n) (kGs A n) e hgl.symm).1
          rw [kb] at hc2 k2
          rw [bl] at hc2 k2
          have hgx : ∀ x ∈ kGs A n, x ∈ (kOrd A n).take s := fun x hx => by
            unfold kGs at hx
            unfold kOrd
            rw [if_pos c15, List.take_append_of_le_length (by rw [List.length_drop]; omega), sg]
            exact hx
          refine c_open h hn hw c15 hF (fun x hx => ht x (hgx x hx)) he hel hc (by omega) (fun σ' x1 x2 x3 _ => k1 σ' ⟨c15, sg, x1⟩ x2 x3) (fun σ' x1 x2 x3 x4 x5 _ => k2 σ' (fun y => by rw [x1] at y; cases y.2.2) x2 x3 ?_ x5)
          rw [x4]; omega
      · have m15 : ¬ kmp (A.2.1 n) = 123 := fun z => c15 (q15.mp z)
        have kn : kNo A n s := ⟨fun y => c2 y.1, fun y => c15 y.1⟩
        exact ⟨fun _ => ⟨fun _ => stay0 kn, fun y => absurd y m15⟩, fun y => absurd y m15⟩
/-- what enter writes -/
def enR (σ σ' : sg_S) (n : Int) : Prop := sg_g σ' 43 n = sg_g σ 7 n ∧ sg_g σ' 44 n = 0 ∧ sg_g σ' 41 n = sg_g σ 38 9 ∧ ∀ j, ¬ j = n → sg_g σ' 43 j = sg_g σ 43 j ∧ sg_g σ' 44 j = sg_g σ 44 j ∧ sg_g σ' 41 j = sg_g σ 41 j
theorem c_enter (hn : 0 ≤ n ∧ n < 200) (hF : cZ σ) (k : ∀ σ', enR σ σ' n → sg_F [16, 29, 30, 32, 33, 41, 43, 44, 7028] σ σ' → Q σ') : V_kEnter σ n Q := by
  unfold V_kEnter
  refine ⟨fun _ => c_add (fun σ3 f3 _ σ8 e8 σ11 e11 σ14 e14 σ17 e17 => ?_), fun z => absurd hF.1 z⟩
  rw [xp_in hn, xa_in hn] at e8
  rw [xp_in hn] at e11 e14 e17
  refine k σ17 ⟨?_, ?_, ?_, fun j hj => ⟨?_, ?_, ?_⟩⟩ ?_
  · rw [e17, sg_gw_c _ _ _ _ _ _ (by decide), e14, sg_gw_c _ _ _ _ _ _ (by decide), e11, sg_gw_c _ _ _ _ _ _ (by decide), e8, sg_gw_e _ _ _ _ (sg_Rg _ _ _)]
  · rw [e17, sg_gw_c _ _ _ _ _ _ (by decide), e14, sg_gw_c _ _ _ _ _ _ (by decide), e11, sg_gw_e _ _ _ _ (by decide)]
  · rw [e17, sg_gw_c _ _ _ _ _ _ (by decide), e14, sg_gw_e _ _ _ _ (sg_Rg _ _ _)]
  · rw [e17, sg_gw_c _ _ _ _ _ _ (by decide), e14, sg_gw_c _ _ _ _ _ _ (by decide), e11, sg_gw_c _ _ _ _ _ _ (by decide), e8, sg_gw_k _ _ _ _ _ _ hj, sg_F_ga f3 rfl]
  · rw [e17, sg_gw_c _ _ _ _ _ _ (by decide), e14, sg_gw_c _ _ _ _ _ _ (by decide), e11, sg_gw_k _ _ _ _ _ _ hj, e8, sg_gw_c _ _ _ _ _ _ (by decide), sg_F_ga f3 rfl]
  · rw [e17, sg_gw_c _ _ _ _ _ _ (by decide), e14, sg_gw_k _ _ _ _ _ _ hj, e11, sg_gw_c _ _ _ _ _ _ (by decide), e8, sg_gw_c _ _ _ _ _ _ (by decide), sg_F_ga f3 rfl]
  · rw [e17, e14, e11, e8]
    exact sg_F_w (sg_F_w (sg_F_w (sg_F_w (sg_F_m f3 rfl) rfl _) rfl _) rfl _) rfl _
/-- a NAME or a call's name is looked up -/
def rsC (σ : sg_S) (A : aT) (ds : kD) (e : kE) (n : Int) : Prop := (A.2.1 n = 1 → ∃ s, sg_g σ 16 n = s ∧ (0 ≤ s ∧ s < 272) ∧ kFind e (A.2.2.2.1 n) = some (sg_g σ 34 s)) ∧ (A.2.1 n = 13 → ∃ q ps r, sg_g σ 16 n = q ∧ (0 ≤ q ∧ q < 12) ∧ kDef ds (A.2.2.2.1 n) = some (ps, r) ∧ dcQ σ q (ps, r))
theorem dcQ_F {L : List Nat} {σ σ' : sg_S} {q : Int} {x : List Int × Int} (h : dcQ σ q x) (f : sg_F L σ σ') (hL : (sg_ca L 22 && sg_ca L 23 && sg_ca L 27) = true) : dcQ σ' q x := by
  simp only [Bool.and_eq_true] at hL
  obtain ⟨⟨l1, l2⟩, l3⟩ := hL
  exact ⟨by rw [sg_F_ga f l2]; exact h.1, fun j y hy => by rw [sg_F_ga f l3]; exact h.2.1 j y hy, by rw [sg_F_ga f l1]; exact h.2.2.1, h.2.2.2⟩
theorem c_resolve (h : ckW σ A) (hn : 0 ≤ n ∧ n < A.1) (hk : A.2.1 n = 1 ∨ A.2.1 n = 13) (hF : cZ σ) (he : ckE σ (sg_g σ 38 9) e) (hel : e.length ≤ 250) (hc : sg_g σ 38 10 ≤ 272) (hd : dsC σ (sg_g σ 38 11) ds) (hl : ds.length ≤ 12) (k1 : ∀ σ', ((A.2.1 n = 1 ∧ kFind e (A.2.2.2.1 n) = none) ∨ (A.2.1 n = 13 ∧ kDef ds (A.2.2.2.1 n) = none)) → cF σ' → sg_F [16, 13038, 14038] σ σ' → Q σ') (k2 : ∀ σ', rsC σ' A ds e n → cZ σ' → sg_F [16, 13038, 14038] σ σ' → Q σ') : V_kResolve σ n (kmp (A.2.1 n)) Q := by
  obtain ⟨p0, p1, p2, p3, p4, p5, p6⟩ := ckW_p h hn
  have hA := h.1.2
  have hnm : sg_gl σ 17 n = uv (A.2.2.2.1 n) := (h.2.2 n hn.1 hn.2).1.2.2.1 (by rcases hk with z | z; exact Or.inl z; exact Or.inr (Or.inr z))
  have hwv := (h.2.1 n).1 (by rcases hk with z | z; exact Or.inl z; exact Or.inr (Or.inr z))
  have hpl : sg_g σ 4 n = A.2.2.1 n := (h.2.2 n hn.1 hn.2).1.2.1
  have n200 : 0 ≤ n ∧ n < 200 := by omega
  unfold V_kResolve
  rw [xl_in n200, hnm]
  refine ⟨fun v => (v = -1 ∧ ((A.2.1 n = 1 ∧ kFind e (A.2.2.2.1 n) = none) ∨ (A.2.1 n = 13 ∧ kDef ds (A.2.2.2.1 n) = none))) ∨ (0 ≤ v ∧ (A.2.1 n = 1 → (0 ≤ v ∧ v < 272) ∧ kFind e (A.2.2.2.1 n) = some (sg_g σ 34 v)) ∧ (A.2.1 n = 13 → ∃ ps r, (0 ≤ v ∧ v < 12) ∧ kDef ds (A.2.2.2.1 n) = some (ps, r) ∧ dcQ σ v (ps, r))), ⟨fun z => ?_, fun z => ?_⟩, fun v rv hv => ?_⟩
  · have k13 : A.2.1 n = 13 := by
      rcases hk with y | y
      · rw [y] at z; exact absurd rfl z
      · exact y
    exact c_dfind hd hl hwv (fun y _ => Or.inl ⟨rfl, Or.inr ⟨k13, y⟩⟩) (fun q x y1 y2 y3 y4 _ => Or.inr ⟨y2, fun y => by omega, fun _ => ⟨x.1, x.2, ⟨y2, y3⟩, y1, y4⟩⟩)
  · have k1' : A.2.1 n = 1 := by
      rcases hk with y | y
      · exact y
      · rw [y] at z; exact absurd z (by decide)
    exact c_find he (by omega) hc hwv (fun y _ => Or.inl ⟨rfl, Or.inl ⟨k1', y⟩⟩) (fun q y1 y2 y3 _ => Or.inr ⟨y2, fun _ => ⟨⟨y2, y3⟩, y1⟩, fun y => by omega⟩)
  · have pl : 0 ≤ sx_at σ 4 200 n ∧ sg_R (sx_at σ 4 200 n) := by
      rw [p1 4 200 rfl]
      exact ⟨by rw [hpl]; exact (h.2.1 n).2.2, sg_Rg _ _ _⟩
    refine ⟨fun σ12 => (cF σ12 ∧ ((A.2.1 n = 1 ∧ kFind e (A.2.2.2.1 n) = none) ∨ (A.2.1 n = 13 ∧ kDef ds (A.2.2.2.1 n) = none))) ∨ (σ12 = σ ∧ 0 ≤ v), ⟨fun z => Or.inr ⟨rfl, z⟩, fun z => c_blame (fun y => absurd hF.1 y) (by decide) pl (fun σ' t1 t2 _ => Or.inl ⟨t1, ?_⟩)⟩, fun σ12 f12 h12 σ15 e15 => ?_⟩
    · rcases hv with ⟨-, y⟩ | ⟨y, -⟩
      · exact y
      · omega
    · have f15 : sg_F [16] σ12 σ15 := by rw [e15]; exact xF_p (sg_F_r _ _) rfl _ _ _
      rcases h12 with ⟨a, b⟩ | ⟨a, b⟩
      · refine k1 σ15 b ?_ (sg_F_t (sg_F_m f12 rfl) (sg_F_m f15 rfl))
        unfold cF at a ⊢
        rw [sg_F_g f15 (by rfl), sg_F_g f15 (by rfl)]; exact a
      · subst a
        rcases hv with ⟨y, -⟩ | ⟨y1, y2, y3⟩
        · omega
        · have g16 : sg_g σ15 16 n = v := by rw [e15, xp_in n200, sg_gw_e _ _ _ _ rv]
          have f15' : sg_F [16, 13038, 14038] σ12 σ15 := sg_F_m f15 rfl
          refine k2 σ15 ⟨fun z => ⟨v, g16, (y2 z).1, ?_⟩, fun z => ?_⟩ (cZ_F hF f15 rfl) f15'
          · rw [show sg_g σ15 34 v = sg_g σ12 34 v from sg_F_ga f15 rfl]; exact (y2 z).2
          · obtain ⟨ps, r, w1, w2, w3⟩ := y3 z
            exact ⟨v, ps, r, g16, w1, w2, dcQ_F w3 f15 rfl⟩
theorem c_conclude {a b : Int} (k : ∀ σ', sg_F [29, 30, 32, 33, 7028] σ σ' → Q σ') : V_kConclude σ a b Q := by
  have k0 : Q σ := k σ (sg_F_r _ _)
  have k1 : ∀ o, V_kpAdd σ o a (fun σ2 => sg_F [29, 30, 32, 33, 7028] σ σ2 → Q σ2) := fun o => c_add (fun σ' f _ => k σ' f)
  unfold V_kConclude
  refine ⟨fun _ => ?_, fun _ => ⟨fun _ => ?_, fun _ => ⟨fun _ => ?_, fun _ => ⟨fun _ => ?_, fun _ => ⟨fun _ => ?_, fun _ => ⟨fun _ => ?_, fun _ => ⟨fun _ => ?_, fun _ => ?_⟩⟩⟩⟩⟩⟩⟩
  · unfold V_kConclude_123
    exact c_add (fun σ' f _ => c_add (fun σ2 f2 _ => k σ2 (sg_F_t f f2)))
  · unfold V_kConclude_257; exact k1 _
  · unfold V_kConclude_257; exact k1 _
  · unfold V_kConclude_262; exact k0
  · unfold V_kConclude_264; exact k1 _
  · unfold V_kConclude_257; exact k1 _
  · unfold V_kConclude_280; exact k1 _
  · unfold V_kConclude_d
    exact fun v _ _ => c_add (fun σ' f _ => k σ' f)
end LEV
