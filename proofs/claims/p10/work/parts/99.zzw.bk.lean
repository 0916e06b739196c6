/-! THE NESTED RUN of the reference: turns of an EACH. -/
theorem x_done {σ : sg_S} {f g p : Int} {Q : sg_S → Prop} (f0 : 0 ≤ f ∧ f < 4000) (hg : 0 ≤ g ∧ g ≤ 4) (hp : sg_g σ 130 f = p) (p0 : 0 ≤ p ∧ p ≤ 300) (k : ∀ σ', sg_F [127, 130, 132] σ σ' → sg_g σ' 127 f = g + 1 → sg_g σ' 130 f = p + 1 → sg_g σ' 132 f = (if sg_g σ 132 f < sg_g σ 131 f then sg_g σ 131 f else sg_g σ 132 f) → (∀ i, ¬ i = f → sg_g σ' 127 i = sg_g σ 127 i ∧ sg_g σ' 130 i = sg_g σ 130 i ∧ sg_g σ' 132 i = sg_g σ 132 i) → Q σ') : V_donePlace σ f g Q := by
  unfold V_donePlace
  refine ⟨f0, fun v4 e4 r4 σ7 e7 => ⟨⟨by omega, by omega⟩, fun σ11 e11 => ⟨⟨by omega, by omega⟩, fun σ15 e15 => k σ15 ?_ ?_ ?_ ?_ (fun i hi => ⟨?_, ?_, ?_⟩)⟩⟩⟩
  · rw [e15, e11, e7]; exact sg_F_w (sg_F_w (sg_F_w (sg_F_r _ _) rfl _) rfl _) rfl _
  · rw [e15, sg_gw_e _ _ _ _ ⟨by omega, by omega⟩]
  · rw [e15, sg_gw_c _ _ _ _ _ _ (by decide), e11, sg_gw_e _ _ _ _ ⟨by omega, by omega⟩, hp]
  · rw [e15, sg_gw_c _ _ _ _ _ _ (by decide), e11, sg_gw_c _ _ _ _ _ _ (by decide), e7, sg_gw_e _ _ _ _ r4, e4]
    by_cases c : sg_g σ 132 f < sg_g σ 131 f
    · rw [if_pos c, if_neg (by omega)]
    · rw [if_neg c, if_pos (by omega)]
  · rw [e15, sg_gw_k _ _ _ _ _ _ hi, e11, sg_gw_c _ _ _ _ _ _ (by decide), e7, sg_gw_c _ _ _ _ _ _ (by decide)]
  · rw [e15, sg_gw_c _ _ _ _ _ _ (by decide), e11, sg_gw_k _ _ _ _ _ _ hi, e7, sg_gw_c _ _ _ _ _ _ (by decide)]
  · rw [e15, sg_gw_c _ _ _ _ _ _ (by decide), e11, sg_gw_c _ _ _ _ _ _ (by decide), e7, sg_gw_k _ _ _ _ _ _ hi]
section GEA
variable {σ : sg_S} {A : aT} {D : List aDf} {T B : Int → Int} {f n b sp : Int} {Q : sg_S → Prop}
/-- a GEN begins -/
theorem ge_gen {st : Nat} {x : Int} (hX : pgX σ A D T B) (hn : 0 ≤ n ∧ n < A.1) (f0 : 0 ≤ f ∧ f < 4000) (h : gxT σ f n st b sp) (hs : st < (A.2.2.2.2.2 n).length) (hx : (A.2.2.2.2.1 n)[1 + st]? = some x) (k : ∀ σ3, σ3 = sg_w σ 127 f (st + 1) → V_begin σ3 x (fun σ' => sg_F bgL σ3 σ' → sg_F bgL σ σ' → Q σ')) : V_goEach σ f Q := by
  obtain ⟨h1, h2, h3, h4⟩ := h
  obtain ⟨t1, t2, t3, t4, t5⟩ := tr_k hX.1 hn
  have hA := hX.2.2.2.2.1
  have hl := gE_l hx
  unfold V_goEach
  rw [h1, h2, t5]
  refine ⟨f0, ⟨hn.1, by omega⟩, fun z => by omega, fun _ => ⟨⟨by omega, by omega⟩, ?_⟩⟩
  rw [show (1 : Int) + (st : Int) = ((1 + st : Nat) : Int) by omega]
  exact gt_go (s := (st : Int)) hX hn f0 h1 h2 ⟨by omega, by omega⟩ hx k
/-- a place is done, with its body's value -/
theorem ge_done {g : Nat} {p : Int} (hX : pgX σ A D T B) (hn : 0 ≤ n ∧ n < A.1) (f0 : 0 ≤ f ∧ f < 4000) (hg : (A.2.2.2.2.2 n).length = g) (g4 : g ≤ 4) (h : gxT σ f n (g + 3) b sp) (hb : 0 ≤ b ∧ b < 12000) (hv : 0 ≤ sg_g σ 133 b ∧ sg_g σ 133 b < 9000) (hp : sg_g σ 130 f = p) (p0 : 0 ≤ p ∧ p ≤ 300) (k : ∀ σ', sg_F [127, 130, 132] σ σ' → sg_g σ' 127 f = g + 1 → sg_g σ' 130 f = p + 1 → sg_g σ' 132 f = (if sg_g σ 132 f < sg_g σ 131 f then sg_g σ 131 f else sg_g σ 132 f) → (∀ i, ¬ i = f → sg_g σ' 127 i = sg_g σ 127 i ∧ sg_g σ' 130 i = sg_g σ 130 i ∧ sg_g σ' 132 i = sg_g σ 132 i) → Q σ') : V_goEach σ f Q := by
  obtain ⟨h1, h2, h3, h4⟩ := h
  obtain ⟨t1, t2, t3, t4, t5⟩ := tr_k hX.1 hn
  have hA := hX.2.2.2.2.1
  unfold V_goEach
  rw [h1, h2, h3, t5, hg]
  refine ⟨f0, ⟨hn.1, by omega⟩, fun _ => ⟨hb, hv, fun _ => ⟨⟨by omega, by omega⟩, fun _ => ⟨⟨by omega, by omega⟩, fun z => absurd rfl z, fun _ => x_done f0 ⟨by omega, by omega⟩ hp p0 (fun σ' y1 y2 y3 y4 y5 _ => k σ' y1 y2 y3 y4 y5)⟩, fun z => by omega⟩, fun z => by omega⟩, fun z => by omega⟩
/-- the test of a place is worked out -/
theorem ge_test {g : Nat} {x bd : Int} (hX : pgX σ A D T B) (hn : 0 ≤ n ∧ n < A.1) (f0 : 0 ≤ f ∧ f < 4000) (hg : (A.2.2.2.2.2 n).length = g) (g4 : g ≤ 4) (h : gxT σ f n (g + 2) b sp) (hb : 0 ≤ b ∧ b < 12000) (hv : 0 ≤ sg_g σ 133 b ∧ sg_g σ 133 b < 9000) (hvx : sg_g σ 88 70 = x + 1) (hx0 : 0 ≤ x ∧ x < 12000) (hbd : (A.2.2.2.2.1 n)[0]? = some bd) (kT : ¬ sg_g σ 133 x = 0 → ∀ σ1, σ1 = sg_w (sg_w σ 88 70 x) 127 f (g + 3) → V_begin σ1 bd (fun σ' => sg_F bgL σ1 σ' → Q σ')) (kF : sg_g σ 133 x = 0 → ∀ σ1, σ1 = sg_w σ 88 70 x → V_donePlace σ1 f g (fun σ' => sg_F [127, 130, 132] σ1 σ' → Q σ')) : V_goEach σ f Q := by
  obtain ⟨h1, h2, h3, h4⟩ := h
  obtain ⟨t1, t2, t3, t4, t5⟩ := tr_k hX.1 hn
  have hA := hX.2.2.2.2.1
  have e97 := t4 0 bd hbd
  rw [show 200 * n + ((0 : Nat) : Int) = 200 * n by omega] at e97
  unfold V_goEach
  rw [h1, h2, h3, t5, hg, show sg_g σ 88 70 - 1 = x by omega, e97]
  refine ⟨f0, ⟨hn.1, by omega⟩, fun _ => ⟨hb, hv, fun _ => ⟨⟨by omega, by omega⟩, fun z => absurd rfl z, fun _ => ⟨⟨by omega, by omega⟩, fun σ117 e117 => ⟨hx0, fun z => ⟨⟨by omega, by omega⟩, fun σ123 e123 => ⟨⟨by omega, by omega⟩, ⟨by omega, by omega⟩, kT z σ123 (by rw [e123, e117])⟩⟩, fun z => kF z σ117 e117⟩⟩⟩, fun z => by omega⟩, fun z => by omega⟩
/-- the GENS are worked out: are they of one length -/
theorem ge_len {g : Nat} {N : Nat → Int} (hX : pgX σ A D T B) (hn : 0 ≤ n ∧ n < A.1) (f0 : 0 ≤ f ∧ f < 4000) (hg : (A.2.2.2.2.2 n).length = g) (g4 : 1 ≤ g ∧ g ≤ 4) (h : gxT σ f n g b sp) (h0 : sg_g σ 88 73 = 0) (hb : 0 ≤ b ∧ b + g ≤ 12000) (hv : ∀ j : Nat, j < g → 0 ≤ sg_g σ 133 (b + j) ∧ sg_g σ 133 (b + j) < 9000) (hN : ∀ j : Nat, j < g → sg_g σ 123 (sg_g σ 133 (b + j)) = N j) (kF : (∃ j : Nat, j < g ∧ ¬ N j = N 0) → ∀ σ', sg_g σ' 88 73 = 3 → sg_F [74088] σ σ' → Q σ') (kS : (∀ j : Nat, j < g → N j = N 0) → ∀ σ', σ' = sg_w σ 127 f (g + 1) → Q σ') : V_goEach σ f Q := by
  obtain ⟨h1, h2, h3, h4⟩ := h
  obtain ⟨t1, t2, t3, t4, t5⟩ := tr_k hX.1 hn
  have hA := hX.2.2.2.2.1
  have hv0 := hv 0 (by omega)
  have hN0 := hN 0 (by omega)
  rw [show b + ((0 : Nat) : Int) = b by omega] at hv0 hN0
  unfold V_goEach
  rw [h1, h2, h3, t5, hg]
  refine ⟨f0, ⟨hn.1, by omega⟩, fun _ => ⟨⟨hb.1, by omega⟩, hv0, fun z => absurd rfl z, fun _ => ⟨fun m v σ1 => ∃ j : Nat, v = j ∧ m = g - j ∧ 1 ≤ j ∧ j ≤ g ∧ σ1 = σ ∧ ∀ i : Nat, i < j → N i = N 0, fun σ1 => σ1 = σ ∧ ∀ i : Nat, i < g → N i = N 0, ⟨g - 1, 1, rfl, rfl, by omega, g4.1, rfl, fun i hi => by rw [show i = 0 by omega]⟩, ?_, ?_⟩⟩, fun z => by omega⟩
  · rintro m v σ1 rv f1 ⟨j, ev, em, j1, jg, eσ, hj⟩
    subst ev
    refine ⟨fun z => ⟨eσ, fun i hi => hj i (by omega)⟩, fun z => ⟨⟨by omega, by omega⟩, ⟨by omega, by omega⟩, hv j (by omega), fun e => ⟨⟨by omega, by omega⟩, g - (j + 1), by omega, j + 1, by omega, rfl, by omega, by omega, eσ, fun i hi => ?_⟩, fun e => ?_⟩⟩
    · by_cases c : i = j
      · subst c
        rw [hN i (by omega), hN0] at e
        exact e
      · exact hj i (by omega)
    · rw [eσ]
      refine m_endsX h0 (by decide) (fun σ' x1 x2 _ => kF ⟨j, by omega, fun q => e ?_⟩ σ' x1 x2)
      rw [hN j (by omega), hN0]
      exact q
  · rintro σ1 f1 ⟨eσ, hj⟩
    exact ⟨⟨by omega, by omega⟩, fun σ2 e2 => kS hj σ2 (by rw [e2, eσ])⟩
/-- a place begins: what is bound, then its test or its body -/
theorem ge_bind {g kk : Nat} {x st' p N : Int} (hX : pgX σ A D T B) (hn : 0 ≤ n ∧ n < A.1) (f0 : 0 ≤ f ∧ f < 4000) (hg : (A.2.2.2.2.2 n).length = g) (g4 : 1 ≤ g ∧ g ≤ 4) (h : gxT σ f n (g + 1) b sp) (hb : 0 ≤ b ∧ b + g ≤ 12000) (hv : 0 ≤ sg_g σ 133 b ∧ sg_g σ 133 b < 9000) (hp : sg_g σ 130 f = p) (hN : sg_g σ 123 (sg_g σ 133 b) = N) (hpN : ¬ p = N) (hit : ∀ j : Nat, j < g → p_itemAt σ (sg_g σ 133 (b + j)) p) (hl : ((A.2.2.2.2.1 n).length = 1 + g ∧ kk = 0 ∧ st' = g + 3) ∨ ((A.2.2.2.2.1 n).length = 2 + g ∧ kk = 1 + g ∧ st' = g + 2)) (hx : (A.2.2.2.2.1 n)[kk]? = some x) (k : ∀ σ13, sg_F [134] σ σ13 → (∀ j : Nat, j < g → sg_g σ13 134 (210 + 4 * n + j) = v_itemAt σ (sg_g σ 133 (b + j)) p) → (∀ y, ¬ (210 + 4 * n ≤ y ∧ y < 210 + 4 * n + g) → sg_g σ13 134 y = sg_g σ 134 y) → ∀ σ36, σ36 = sg_w (sg_w σ13 131 f 0) 127 f st' → V_begin σ36 x (fun σ' => sg_F bgL σ36 σ' → Q σ')) : V_goEach σ f Q := by
  obtain ⟨h1, h2, h3, h4⟩ := h
  obtain ⟨t1, t2, t3, t4, t5⟩ := tr_k hX.1 hn
  have hA := hX.2.2.2.2.1
  have pT : p_hasTest σ n := by
    unfold p_hasTest
    rw [t5]
    exact ⟨⟨hn.1, by omega⟩, ⟨by omega, by omega⟩, fun _ => trivial, fun _ => trivial⟩
  have e97 := t4 kk x hx
  have hk := gE_l hx
  have vT : (v_hasTest σ n = 0 ∧ kk = 0 ∧ st' = g + 3) ∨ (¬ v_hasTest σ n = 0 ∧ (kk : Int) = sg_g σ 96 n - 1 ∧ st' = g + 2) := by
    unfold v_hasTest
    rw [t2, t5]
    rcases hl with ⟨z1, z2, z3⟩ | ⟨z1, z2, z3⟩
    · left
      rw [if_pos (by omega)]
      exact ⟨rfl, z2, z3⟩
    · right
      rw [if_neg (by omega)]
      exact ⟨by decide, by omega, z3⟩
  unfold V_goEach
  rw [h1, h2, h3, t5, hg, hp, hN]
  refine ⟨f0, ⟨hn.1, by omega⟩, fun _ => ⟨⟨hb.1, by omega⟩, hv, fun _ => ⟨⟨by omega, by omega⟩, fun _ => ⟨⟨by omega, by omega⟩, fun _ => ⟨fun _ => ⟨fun m v σ1 => ∃ j : Nat, v = j ∧ m = g - j ∧ j ≤ g ∧ (∀ i : Nat, i < j → sg_g σ1 134 (210 + 4 * n + i) = v_itemAt σ (sg_g σ 133 (b + i)) p) ∧ ∀ y, ¬ (210 + 4 * n ≤ y ∧ y < 210 + 4 * n + j) → sg_g σ1 134 y = sg_g σ 134 y, fun σ1 => (∀ i : Nat, i < g → sg_g σ1 134 (210 + 4 * n + i) = v_itemAt σ (sg_g σ 133 (b + i)) p) ∧ ∀ y, ¬ (210 + 4 * n ≤ y ∧ y < 210 + 4 * n + g) → sg_g σ1 134 y = sg_g σ 134 y, ⟨_, 0, rfl, rfl, Nat.zero_le _, fun i hi => by omega, fun y _ => rfl⟩, ?_, ?_⟩, fun z => absurd z hpN⟩, fun z => by omega⟩, fun z => by omega⟩, fun z => by omega⟩, fun z => by omega⟩
  · rintro m v σ1 rv f1 ⟨j, ev, em, jg, hj, ho⟩
    subst ev
    have ep : v_ofGen n (j : Int) = 210 + 4 * n + j := rfl
    rw [ep]
    refine ⟨fun z => ⟨fun i hi => hj i (by omega), fun y hy => ho y (by omega)⟩, fun z => ⟨⟨⟨by omega, by omega⟩, ⟨by omega, by omega⟩, ⟨by omega, by omega⟩, trivial⟩, ⟨by omega, by omega⟩, ⟨by omega, by omega⟩, hit j (by omega), ⟨by omega, by omega⟩, fun σ63 e63 => ⟨⟨by omega, by omega⟩, g - (j + 1), by omega, j + 1, by omega, rfl, by omega, fun i hi => ?_, fun y hy => ?_⟩⟩⟩
    · by_cases c : i = j
      · subst c
        rw [e63, sg_gw_e _ _ _ _ (by unfold v_itemAt; exact sg_Rg _ _ _)]
      · rw [e63, sg_gw_k _ _ _ _ _ _ (by omega)]; exact hj i (by omega)
    · rw [e63, sg_gw_k _ _ _ _ _ _ (by omega)]; exact ho y (by omega)
  · rintro σ13 f13 ⟨j1, j2⟩ σ27 e27
    refine ⟨pT, fun v33 e33 r33 σ36 e36 => ⟨⟨by omega, by omega⟩, pT, ⟨fun _ => trivial, fun _ => ⟨⟨by omega, by omega⟩, trivial⟩⟩, fun v43 e43 r43 => ?_⟩⟩
    have e3 : v33 = st' ∧ v43 = kk := by
      rcases vT with ⟨z1, z2, z3⟩ | ⟨z1, z2, z3⟩
      · rw [if_pos z1] at e33 e43
        omega
      · rw [if_neg z1] at e33 e43
        omega
    rw [e3.2, e97]
    exact ⟨⟨by omega, by omega⟩, ⟨by omega, by omega⟩, k σ13 f13 j1 j2 σ36 (by rw [e36, e27, e3.1])⟩
/-- all places are done: the sequence, and the end -/
theorem ge_end {g d : Nat} {acc : List vaF} {p : Int} (hX : pgX σ A D T B) (hn : 0 ≤ n ∧ n < A.1) (f0 : 0 ≤ f ∧ f < 4000) (hg : (A.2.2.2.2.2 n).length = g) (g4 : g ≤ 4) (h : gxT σ f n (g + 1) b sp) (hB : nB σ) (hb : 0 ≤ b ∧ b + g + acc.length ≤ 12000) (hb1 : b < 12000) (hv : 0 ≤ sg_g σ 133 b ∧ sg_g σ 133 b < 9000) (hp : sg_g σ 130 f = p) (hN : sg_g σ 123 (sg_g σ 133 b) = p) (h70 : sg_g σ 88 70 = b + g + acc.length) (hl : acc.length ≤ 200) (hd : T n = ((d + 1 : Nat) : Int)) (hd2 : d ≤ 2) (ht : ∀ (i : Nat) (w : vaF), acc[i]? = some w → rvF σ d w (sg_g σ 133 (b + g + i))) (hm : (0 ≤ sp ∧ sp ≤ 3000) ∧ 0 ≤ sg_g σ 132 f ∧ sg_g σ 132 f ≤ 3000) (k : ∀ σ68 σ73 σ89, σ68 = sg_w σ 129 f (sp + sg_g σ 132 f) → nAX σ68 σ73 d acc → sg_F [125, 61088] σ68 σ73 → nEx σ73 σ89 → sg_g σ89 88 56 = sg_g σ73 88 56 + 1 → sg_g σ89 88 60 = sg_g σ73 88 60 → rvF σ89 (d + 1) (mkF acc) (sg_g σ73 88 56) → sg_F [122, 123, 124, 57088] σ73 σ89 → V_leave σ89 (sg_g σ73 88 56) (fun σ' => sg_F lvR σ89 σ' → Q σ')) : V_goEach σ f Q := by
  obtain ⟨h1, h2, h3, h4⟩ := h
  obtain ⟨t1, t2, t3, t4, t5⟩ := tr_k hX.1 hn
  have hA := hX.2.2.2.2.1
  unfold V_goEach
  rw [h1, h2, h3, t5, hg, hp, hN, h4, h70]
  refine ⟨f0, ⟨hn.1, by omega⟩, fun _ => ⟨⟨hb.1, hb1⟩, hv, fun _ => ⟨⟨by omega, by omega⟩, fun _ => ⟨⟨by omega, by omega⟩, fun _ => ⟨fun z => absurd rfl z, fun _ σ68 e68 => ?_⟩, fun z => by omega⟩, fun z => by omega⟩, fun z => by omega⟩, fun z => by omega⟩
  rw [sg_id (show sg_R (sp + sg_g σ 132 f) from ⟨by omega, by omega⟩)] at e68
  have F68 : sg_F [129] σ σ68 := by rw [e68]; exact sg_F_w (sg_F_r _ _) rfl _
  have ex68 : nEx σ σ68 := nEx_F F68 rfl
  have s56 : sg_g σ68 88 56 = sg_g σ 88 56 := sg_F_g F68 (by rfl)
  have s60 : sg_g σ68 88 60 = sg_g σ 88 60 := sg_F_g F68 (by rfl)
  have hB68 : nB σ68 := by unfold nB; rw [s56, s60]; exact hB
  obtain ⟨⟨b1, b2⟩, b3, b4⟩ := id hB68
  refine ⟨⟨by omega, by omega⟩, fun m v σ1 => ∃ i : Nat, v = b + g + i ∧ m = acc.length - i ∧ i ≤ acc.length ∧ nAX σ68 σ1 d (acc.take i), fun σ1 => nAX σ68 σ1 d acc, ⟨_, 0, by omega, rfl, Nat.zero_le _, by rw [List.take_zero]; exact nAX_0 _ _⟩, ?_, ?_⟩
  · rintro m v σ1 rv f1 ⟨i, ev, em, hi, hA'⟩
    refine ⟨fun z => ?_, fun z => ⟨⟨by omega, by omega⟩, ?_⟩⟩
    · have e : i = acc.length := by omega
      rw [e, List.take_length] at hA'
      exact hA'
    · obtain ⟨w, hw⟩ := gE_x (l := acc) (i := i) (by omega)
      rw [ev]
      refine m_addX (u := w) hB68 (by rw [List.length_take]; omega) hA' (sg_Rg _ _ _) (rvF_up hA'.1 (rvF_up ex68 (ht i w hw))) (fun σ' x1 _ x2 _ => ⟨⟨by omega, by omega⟩, acc.length - (i + 1), by omega, i + 1, by omega, rfl, by omega, ?_⟩)
      rw [tkF_1 hw]
      exact x1
  · intro σ73 f73 hA'
    obtain ⟨x1, x2, x3, x4⟩ := id hA'
    rw [show sg_g σ73 88 60 - sg_g σ 88 60 = acc.length by omega, hX.2.2.1 n]
    refine ⟨⟨by omega, by omega⟩, ?_⟩
    rw [← s60]
    exact m_seqX (k := d) (L := acc) ⟨by omega, by omega⟩ (by omega) (by omega) hl rfl (by omega) hd hd2 x4 (fun σ89 y1 y2 y3 y4 y5 _ _ => k σ68 σ73 σ89 e68 hA' f73 y1 y2 y3 y4 y5)
end GEA
