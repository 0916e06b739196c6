/-! store, copy, copyPicks, layOut. -/
section STO
variable {σ : sg_S} {x : Int} {Q : sg_S → Prop}
/-- c cells more from u on, told by h; or an overflow -/
def stR (σ σ' : sg_S) (c : Nat) (h : Nat → Int) : Prop := sg_g σ' 77 16 = sg_g σ 77 16 + c ∧ sg_g σ' 77 16 ≤ 6000 ∧ (∀ i : Nat, i < c → sg_g σ' 78 (sg_g σ 77 16 + i) = h i) ∧ (∀ q, q < sg_g σ 77 16 → sg_g σ' 78 q = sg_g σ 78 q) ∧ (sg_g σ' 77 15 = 0 ∨ sg_g σ' 77 15 = 1)
theorem stR_0 (hu : sg_g σ 77 16 ≤ 6000) (ho : sg_g σ 77 15 = 0) (h : Nat → Int) : stR σ σ 0 h := ⟨by omega, hu, fun i hi => by omega, fun _ _ => rfl, Or.inl ho⟩
theorem y_store (hu : 0 ≤ sg_g σ 77 16 ∧ sg_g σ 77 16 ≤ 6000) (ho : sg_g σ 77 15 = 0) (hx : sg_R x) (k : ∀ σ' (c : Nat), sg_F [78, 16077, 17077] σ σ' → c ≤ 1 → stR σ σ' c (fun _ => x) → (sg_g σ' 77 15 = 0 → c = 1) → Q σ') : V_lStore σ x Q := by
  unfold V_lStore
  refine ⟨fun z => by omega, fun _ => ⟨fun z σ6 e6 => ?_, fun z => ⟨⟨by omega, by omega⟩, fun σ10 e10 => ⟨⟨by omega, by omega⟩, fun σ14 e14 => ?_⟩⟩⟩⟩
  · have f : sg_F [78, 16077, 17077] σ σ6 := by rw [e6]; exact sg_F_w (sg_F_r _ _) rfl _
    have g15 : sg_g σ6 77 15 = 1 := by rw [e6, sg_gw_e _ _ _ _ (by decide)]
    have g16 : sg_g σ6 77 16 = sg_g σ 77 16 := by rw [e6, sg_gw_k _ _ _ _ _ _ (by decide)]
    refine k σ6 0 f (by omega) ⟨by omega, by omega, fun i hi => by omega, fun q _ => ?_, Or.inr g15⟩ (fun y => by omega)
    rw [e6, sg_gw_c _ _ _ _ _ _ (by decide)]
  · have f : sg_F [78, 16077, 17077] σ σ14 := by rw [e14, e10]; exact sg_F_w (sg_F_w (sg_F_r _ _) rfl _) rfl _
    have g16 : sg_g σ14 77 16 = sg_g σ 77 16 + 1 := by rw [e14, sg_gw_e _ _ _ _ ⟨by omega, by omega⟩]
    have g15 : sg_g σ14 77 15 = 0 := by rw [e14, sg_gw_k _ _ _ _ _ _ (by decide), e10, sg_gw_c _ _ _ _ _ _ (by decide)]; exact ho
    refine k σ14 1 f (by omega) ⟨by omega, by omega, fun i hi => ?_, fun q hq => ?_, Or.inl g15⟩ (fun _ => rfl)
    · have : i = 0 := by omega
      subst this
      rw [e14, sg_gw_c _ _ _ _ _ _ (by decide), e10, show sg_g σ 77 16 + ((0 : Nat) : Int) = sg_g σ 77 16 by omega, sg_gw_e _ _ _ _ hx]
    · rw [e14, sg_gw_c _ _ _ _ _ _ (by decide), e10, sg_gw_k _ _ _ _ _ _ (by omega)]
theorem stR_t {σ1 σ2 : sg_S} {c c' : Nat} {h h' : Nat → Int} (a : stR σ σ1 c h) (b : stR σ1 σ2 c' h') : stR σ σ2 (c + c') (fun i => if i < c then h i else h' (i - c)) := by
  obtain ⟨a1, a2, a3, a4, a5⟩ := a
  obtain ⟨b1, b2, b3, b4, b5⟩ := b
  refine ⟨by omega, b2, fun i hi => ?_, fun q hq => ?_, b5⟩
  · by_cases e : i < c
    · rw [b4 _ (by omega), a3 i e]; simp only [e, if_true]
    · have := b3 (i - c) (by omega)
      rw [show sg_g σ1 77 16 + ((i - c : Nat) : Int) = sg_g σ 77 16 + i by omega] at this
      rw [this]; simp only [e, if_false]
  · rw [b4 q (by omega), a4 q hq]
theorem stR_e {σ1 : sg_S} {c : Nat} {h h' : Nat → Int} (a : stR σ σ1 c h) (e : ∀ i : Nat, i < c → h' i = h i) : stR σ σ1 c h' := ⟨a.1, a.2.1, fun i hi => by rw [e i hi]; exact a.2.2.1 i hi, a.2.2.2⟩
theorem y_copy83 {a : Int} (hu : 0 ≤ sg_g σ 77 16 ∧ sg_g σ 77 16 ≤ 6000) (ho : sg_g σ 77 15 = 0) (ha : 0 ≤ a ∧ a ≤ 6000) (k : ∀ σ' (c : Nat), sg_F [78, 16077, 17077] σ σ' → (c : Int) ≤ a → stR σ σ' c (fun i => sg_g σ 83 i) → (sg_g σ' 77 15 = 0 → c = a) → Q σ') : V_lCopy83 σ a Q := by
  unfold V_lCopy83
  refine ⟨fun m v σ2 => ∃ (j c : Nat), v = j ∧ (j : Int) ≤ a ∧ m = a.toNat - j ∧ (c : Int) ≤ a ∧ stR σ σ2 c (fun i => sg_g σ 83 i) ∧ (sg_g σ2 77 15 = 0 → c = j), fun σ2 => ∃ c : Nat, (c : Int) ≤ a ∧ stR σ σ2 c (fun i => sg_g σ 83 i) ∧ (sg_g σ2 77 15 = 0 → c = a), ⟨_, 0, 0, rfl, by omega, rfl, by omega, stR_0 hu.2 ho _, fun _ => rfl⟩, ?_, ?_⟩
  · rintro m v σ2 rv f2 ⟨j, c, rfl, hj, hm, hc, hs, ho2⟩
    refine ⟨fun z => ⟨c, hc, hs, fun y => by have := ho2 y; omega⟩, fun z => ⟨fun y => ⟨c, hc, hs, fun y2 => absurd y2 y⟩, fun y => ?_⟩⟩
    have ec := ho2 y
    subst ec
    rw [xa_in ⟨by omega, by omega⟩]
    refine y_store ⟨by have := hs.1; omega, hs.2.1⟩ y (sg_Rg _ _ _) (fun σ' c' f' l' s' o' _ => ⟨⟨by omega, by omega⟩, a.toNat - (c + 1), by omega, c + 1, c + c', by omega, by omega, rfl, by omega, stR_e (stR_t hs s') (fun i hi => ?_), fun y2 => by rw [o' y2]⟩)
    by_cases e : i < c
    · simp only [e, if_true]
    · simp only [e, if_false]
      rw [show i = c by omega]
  · rintro σ2 f2 ⟨c, h1, h2, h3⟩
    exact k σ2 c f2 h1 h2 h3
theorem y_copy84 {a : Int} (hu : 0 ≤ sg_g σ 77 16 ∧ sg_g σ 77 16 ≤ 6000) (ho : sg_g σ 77 15 = 0) (ha : 0 ≤ a ∧ a ≤ 6000) (k : ∀ σ' (c : Nat), sg_F [78, 16077, 17077] σ σ' → (c : Int) ≤ a → stR σ σ' c (fun i => sg_g σ 84 i) → (sg_g σ' 77 15 = 0 → c = a) → Q σ') : V_lCopy84 σ a Q := by
  unfold V_lCopy84
  refine ⟨fun m v σ2 => ∃ (j c : Nat), v = j ∧ (j : Int) ≤ a ∧ m = a.toNat - j ∧ (c : Int) ≤ a ∧ stR σ σ2 c (fun i => sg_g σ 84 i) ∧ (sg_g σ2 77 15 = 0 → c = j), fun σ2 => ∃ c : Nat, (c : Int) ≤ a ∧ stR σ σ2 c (fun i => sg_g σ 84 i) ∧ (sg_g σ2 77 15 = 0 → c = a), ⟨_, 0, 0, rfl, by omega, rfl, by omega, stR_0 hu.2 ho _, fun _ => rfl⟩, ?_, ?_⟩
  · rintro m v σ2 rv f2 ⟨j, c, rfl, hj, hm, hc, hs, ho2⟩
    refine ⟨fun z => ⟨c, hc, hs, fun y => by have := ho2 y; omega⟩, fun z => ⟨fun y => ⟨c, hc, hs, fun y2 => absurd y2 y⟩, fun y => ?_⟩⟩
    have ec := ho2 y
    subst ec
    rw [xa_in ⟨by omega, by omega⟩]
    refine y_store ⟨by have := hs.1; omega, hs.2.1⟩ y (sg_Rg _ _ _) (fun σ' c' f' l' s' o' _ => ⟨⟨by omega, by omega⟩, a.toNat - (c + 1), by omega, c + 1, c + c', by omega, by omega, rfl, by omega, stR_e (stR_t hs s') (fun i hi => ?_), fun y2 => by rw [o' y2]⟩)
    by_cases e : i < c
    · simp only [e, if_true]
    · simp only [e, if_false]
      rw [show i = c by omega]
  · rintro σ2 f2 ⟨c, h1, h2, h3⟩
    exact k σ2 c f2 h1 h2 h3
/-- storing keeps what is there -/
theorem stR_ex {L : List Nat} {σ1 : sg_S} {c : Nat} {h : Nat → Int} (a : stR σ σ1 c h) (f : sg_F L σ σ1) (hL : (!sg_cv L 77 10 && sg_ca L 79 && sg_ca L 80 && sg_ca L 81 && sg_ca L 82) = true) : yEx σ σ1 := by
  simp only [Bool.and_eq_true, Bool.not_eq_true'] at hL
  obtain ⟨⟨⟨⟨l1, l4⟩, l5⟩, l6⟩, l7⟩ := hL
  refine ⟨⟨by rw [sg_F_g f l1]; exact Int.le_refl _, by have := a.1; omega⟩, fun v _ _ => ⟨sg_F_ga f l5, sg_F_ga f l6, sg_F_ga f l7⟩, fun x _ hx => a.2.2.2.1 x hx, fun v n w b i hi => ?_⟩
  rw [sg_F_ga f l5, sg_F_ga f l4, b i hi]
  have w5 := w.2.2.2.2
  exact (su_sh (fun j hj => a.2.2.2.1 _ (by omega))).symm
theorem y_lay {a n : Int} (h81 : sx_at σ 81 8000 a = n) (hn : 0 ≤ n ∧ n ≤ 6000) (hp : 0 < n → (0 ≤ a ∧ a < 8000) ∧ 0 ≤ sg_g σ 80 a ∧ sg_g σ 80 a + n ≤ 6000) (hl : ∀ i : Nat, (i : Int) < n → 0 ≤ sg_g σ 78 (sg_g σ 80 a + i) ∧ sg_g σ 78 (sg_g σ 80 a + i) ≤ 200) (k : ∀ σ', sg_F [79] σ σ' → (∀ i : Nat, (i : Int) < n → sg_g σ' 79 (sg_g σ 80 a + i) = su (sg_g σ 78) (sg_g σ 80 a) i) → (∀ q, (∀ i : Nat, (i : Int) < n → ¬ q = sg_g σ 80 a + i) → sg_g σ' 79 q = sg_g σ 79 q) → Q σ') : V_lLayOut σ a Q := by
  unfold V_lLayOut
  rw [h81]
  refine ⟨fun m t v σ3 => ∃ j : Nat, v = j ∧ (j : Int) ≤ n ∧ m = n.toNat - j ∧ t = su (sg_g σ 78) (sg_g σ 80 a) j ∧ (∀ i : Nat, i < j → sg_g σ3 79 (sg_g σ 80 a + i) = su (sg_g σ 78) (sg_g σ 80 a) i) ∧ (∀ q, (∀ i : Nat, i < j → ¬ q = sg_g σ 80 a + i) → sg_g σ3 79 q = sg_g σ 79 q), fun σ3 => (∀ i : Nat, (i : Int) < n → sg_g σ3 79 (sg_g σ 80 a + i) = su (sg_g σ 78) (sg_g σ 80 a) i) ∧ (∀ q, (∀ i : Nat, (i : Int) < n → ¬ q = sg_g σ 80 a + i) → sg_g σ3 79 q = sg_g σ 79 q), ⟨_, 0, rfl, by omega, rfl, rfl, fun i hi => by omega, fun q _ => rfl⟩, ?_, ?_⟩
  · rintro m t v σ3 rt rv f3 ⟨j, rfl, hj, hm, rfl, h1, h2⟩
    refine ⟨fun z => ⟨fun i hi => h1 i (by omega), fun q hq => h2 q (fun i hi => hq i (by omega))⟩, fun z => ?_⟩
    obtain ⟨a8, a0, an⟩ := hp (by omega)
    have bd := su_b (g := sg_g σ 78) (p := sg_g σ 80 a) (i := j) (fun i hi => hl i (by omega))
    have hj2 := hl j z
    have hc : v_lCell σ a j = sg_g σ 78 (sg_g σ 80 a + j) := by
      unfold v_lCell
      rw [if_neg (by omega), if_pos (by omega), if_neg (by omega), if_neg (by omega)]
    rw [xa_in a8, hc]
    refine ⟨⟨by omega, by omega⟩, fun σ20 e20 => ⟨?_, ⟨by omega, by omega⟩, ⟨by omega, by omega⟩, n.toNat - (j + 1), by omega, j + 1, by omega, by omega, rfl, rfl, fun i hi => ?_, fun q hq => ?_⟩⟩
    · unfold p_lCell
      refine ⟨fun _ => trivial, fun _ => ⟨fun _ => ⟨⟨by omega, by omega⟩, ⟨by omega, by omega⟩, fun _ => trivial, fun _ => ⟨fun _ => trivial, fun _ => ⟨⟨by omega, by omega⟩, trivial⟩⟩⟩, fun _ => trivial⟩⟩
    · rw [e20, xp_in ⟨by omega, by omega⟩]
      by_cases e : i = j
      · subst e; rw [sg_gw_e _ _ _ _ rt]
      · rw [sg_gw_k _ _ _ _ _ _ (by omega)]; exact h1 i (by omega)
    · rw [e20, xp_in ⟨by omega, by omega⟩, sg_gw_k _ _ _ _ _ _ (hq j (by omega))]
      exact h2 q (fun i hi => hq i (by omega))
  · rintro σ3 f3 ⟨h1, h2⟩
    exact k σ3 f3 h1 h2
end STO
/-! copyPicks. -/
/-- cell of a picked range; range of its items -/
theorem pk_cell {σ : sg_S} (g : yG σ) {d : Nat} {v lo hi l : Int} (h : pkg σ d v lo hi) (hl : lo ≤ l ∧ l < hi) : p_lCell σ v l ∧ (1 ≤ d → 0 ≤ v_lCell σ v l ∧ v_lCell σ v l ≤ 200) := by
  rcases h.2 with ⟨e, -⟩ | ⟨n, a, b⟩
  · obtain ⟨c1, c2, -⟩ := y_cellN (σ := σ) (v := v) (l := l) (by omega)
    exact ⟨c2, fun _ => by rw [c1]; decide⟩
  · have h1 := h.1
    refine ⟨(y_cell g (yV_r a) ⟨by omega, by omega⟩).2, fun hd => ?_⟩
    obtain ⟨d', rfl⟩ : ∃ d', d = d' + 1 := ⟨d - 1, by omega⟩
    exact (y_lane g a ⟨by omega, by omega⟩).1
/-- a cell does not change as cells are added -/
theorem pk_cell_up {σ σ' : sg_S} (g : yG σ) (g' : yG σ') (h : yEx σ σ') {d : Nat} {v lo hi l : Int} (p : pkg σ d v lo hi) (hl : lo ≤ l ∧ l < hi) : v_lCell σ' v l = v_lCell σ v l := by
  rcases p.2 with ⟨e, -⟩ | ⟨n, a, b⟩
  · rw [(y_cellN (σ := σ) (v := v) (l := l) (by omega)).1, (y_cellN (σ := σ') (v := v) (l := l) (by omega)).1]
  · have h1 := p.1
    have r := yV_r a
    rw [(y_cell g r ⟨by omega, by omega⟩).1, (y_cell g' (yRw_up h r) ⟨by omega, by omega⟩).1, (h.2.1 v r.1.1 r.1.2).1]
    have := r.2.2.2
    exact h.2.2.1 _ (by omega) (by omega)
/-- the items of a picked range -/
theorem pk_next {σ : sg_S} (g : yG σ) {d : Nat} {v lo hi : Int} (h : pkg σ (d + 1) v lo hi) (hlt : lo < hi) : pkg σ d (v_lItems σ v) (v_lStart σ v lo) (v_lStart σ v (hi - 1) + v_lCell σ v (hi - 1)) ∧ v_lStart σ v (hi - 1) + v_lCell σ v (hi - 1) - v_lStart σ v lo = su (fun i => v_lCell σ v i) lo (hi - lo).toNat ∧ v_lStart σ v (hi - 1) + v_lCell σ v (hi - 1) ≤ 6000 ∧ p_lStart σ v lo ∧ p_lStart σ v (hi - 1) ∧ p_lCell σ v (hi - 1) := by
  have h1 := h.1
  rcases h.2 with ⟨e, e1⟩ | ⟨n, a, b⟩
  · obtain ⟨c1, c2, c3, c4, c5⟩ := y_cellN (σ := σ) (v := v) (l := lo) (by omega)
    obtain ⟨d1, d2, d3, d4, d5⟩ := y_cellN (σ := σ) (v := v) (l := hi - 1) (by omega)
    rw [c3, c5, d1, d3]
    refine ⟨⟨by omega, Or.inl ⟨rfl, by omega⟩⟩, ?_, by omega, c4, d4, d2⟩
    rw [show (hi - lo).toNat = 1 by omega]
    simp only [su]
    rw [show lo + ((0 : Nat) : Int) = lo by omega, c1]; omega
  · obtain ⟨b1, b2, b3, b4, b5, b6, b7, b8, b9, b10⟩ := y_lane g a (l := lo) ⟨by omega, by omega⟩
    obtain ⟨e1, e2, e3, e4, e5, e6, e7, e8, e9, e10⟩ := y_lane g a (l := hi - 1) ⟨by omega, by omega⟩
    have r := yV_r a
    rw [← e5]
    have ap := su_app (sg_g σ 78) (sg_g σ 80 v) lo.toNat (hi - lo).toNat
    rw [show lo.toNat + (hi - lo).toNat = (hi - 1).toNat + 1 by omega] at ap
    have sh : su (fun i => v_lCell σ v i) lo (hi - lo).toNat = su (sg_g σ 78) (sg_g σ 80 v + lo.toNat) (hi - lo).toNat := su_sh (fun j hj => by
      rw [(y_cell g r (l := lo + j) ⟨by omega, by omega⟩).1, show sg_g σ 80 v + (lo + (j : Int)) = sg_g σ 80 v + lo.toNat + j by omega])
    have bb := su_b (g := sg_g σ 78) (p := sg_g σ 80 v + lo.toNat) (i := (hi - lo).toNat) (fun j hj => by
      have := a.2.1 (lo.toNat + j) (by omega)
      rw [show sg_g σ 80 v + ((lo.toNat + j : Nat) : Int) = sg_g σ 80 v + lo.toNat + j by omega] at this
      exact this)
    refine ⟨⟨⟨b2, by omega⟩, Or.inr ⟨_, ?_, e6⟩⟩, by omega, by omega, b9, e9, e8⟩
    rw [y_items g r]; exact a.2.2.2
section CPK
variable {σ : sg_S} {Q : sg_S → Prop}
theorem stR_F {L : List Nat} {σ1 σ2 : sg_S} {c : Nat} {h : Nat → Int} (a : stR σ σ1 c h) (f : sg_F L σ1 σ2) (hL : (!sg_cv L 77 15 && !sg_cv L 77 16 && sg_ca L 78) = true) : stR σ σ2 c h := by
  simp only [Bool.and_eq_true, Bool.not_eq_true'] at hL
  obtain ⟨⟨l1, l2⟩, l3⟩ := hL
  obtain ⟨a1, a2, a3, a4, a5⟩ := a
  exact ⟨by rw [sg_F_g f l2]; exact a1, by rw [sg_F_g f l2]; exact a2, fun i hi => by rw [sg_F_ga f l3]; exact a3 i hi, fun q hq => by rw [sg_F_ga f l3]; exact a4 q hq, by rw [sg_F_g f l1]; exact a5⟩
theorem y_copyPicks {d : Nat} {m : Int} (g : yG σ) (ho : sg_g σ 77 15 = 0) (hp : pkT σ d m) (k : ∀ σ' (c : Nat), sg_F [78, 85, 86, 87, 16077, 17077] σ σ' → (∃ h, stR σ σ' c h ∧ (1 ≤ d → ∀ i : Nat, i < c → 0 ≤ h i ∧ h i ≤ 200)) → yG σ' → (sg_g σ' 77 15 = 0 → c = m ∧ (∀ d', d = d' + 1 → pkT σ' d' (su (sg_g σ' 78) (sg_g σ 77 16) c))) → Q σ') : V_lCopyPicks σ Q := by
  obtain ⟨p, p1, p2, p3, p4⟩ := hp
  have hu := g.2.1
  unfold V_lCopyPicks
  rw [p1]
  have up : ∀ σ2, sg_F [78, 85, 86, 87, 16077, 17077] σ σ2 → (∃ c h, stR σ σ2 c h) → yEx σ σ2 ∧ yG σ2 := fun σ2 f ⟨c, h, s⟩ => by
    refine ⟨stR_ex s f rfl, ⟨by rw [sg_F_g f (by rfl)]; exact g.1, ⟨by have := s.1; omega, s.2.1⟩, fun v a b => ?_, fun v v' a b a' b' => ?_⟩⟩
    · rw [sg_F_g f (by rfl)] at b
      have := g.2.2.1 v a b
      have := s.1
      rw [sg_F_ga f rfl, sg_F_ga (a := 80) f rfl]; omega
    · rw [sg_F_g f (by rfl)] at b b'
      rw [sg_F_ga (a := 80) f rfl, sg_F_ga (a := 81) f rfl, sg_F_ga (a := 80) f rfl, sg_F_ga (a := 81) f rfl]
      exact g.2.2.2 v v' a b a' b'
  refine ⟨fun n v σ2 => ∃ (j c : Nat) (h : Nat → Int), v = j ∧ j ≤ p ∧ n = p - j ∧ stR σ σ2 c h ∧ (1 ≤ d → ∀ i : Nat, i < c → 0 ≤ h i ∧ h i ≤ 200) ∧ (∀ i : Nat, j ≤ i → sg_g σ2 85 i = sg_g σ 85 i ∧ sg_g σ2 86 i = sg_g σ 86 i ∧ sg_g σ2 87 i = sg_g σ 87 i) ∧ (sg_g σ2 77 15 = 0 → c = pks σ j ∧ ∀ d', d = d' + 1 → (∀ i : Nat, i < j → pkg σ2 d' (sg_g σ2 85 i) (sg_g σ2 86 i) (sg_g σ2 87 i)) ∧ pks σ2 j = su (sg_g σ2 78) (sg_g σ 77 16) c), fun σ2 => ∃ (c : Nat), (∃ h, stR σ σ2 c h ∧ (1 ≤ d → ∀ i : Nat, i < c → 0 ≤ h i ∧ h i ≤ 200)) ∧ (sg_g σ2 77 15 = 0 → c = m ∧ (∀ d', d = d' + 1 → pkT σ2 d' (su (sg_g σ2 78) (sg_g σ 77 16) c))), ⟨_, 0, 0, fun _ => 0, rfl, Nat.zero_le _, rfl, stR_0 hu.2 ho _, fun _ i hi => by omega, fun i _ => ⟨rfl, rfl, rfl⟩, fun _ => ⟨rfl, fun d' _ => ⟨fun i hi => by omega, rfl⟩⟩⟩, ?_, ?_⟩
  · rintro n v σ2 rv f2 ⟨j, c, h, rfl, hj, hn, hs, hl, hr, hz⟩
    obtain ⟨ex2, g2⟩ := up σ2 f2 ⟨c, h, hs⟩
    refine ⟨fun z => ?_, fun z => ⟨fun y => ⟨c, ⟨h, hs, hl⟩, fun y2 => absurd y2 y⟩, fun y => ?_⟩⟩
    · have ej : j = p := by omega
      subst ej
      refine ⟨c, ⟨h, hs, hl⟩, fun y => ⟨(hz y).1.trans p4, fun d' hd => ⟨j, by rw [sg_F_g f2 (by rfl)]; exact p1, p2, ((hz y).2 d' hd).1, ((hz y).2 d' hd).2⟩⟩⟩
    · have hjp : j < p := by omega
      obtain ⟨hz1, hz2⟩ := hz y
      obtain ⟨r1, r2, r3⟩ := hr j (Nat.le_refl _)
      have pj := p3 j hjp
      have j6 : 0 ≤ (j : Int) ∧ (j : Int) < 6000 := by omega
      rw [xa_in (a := 85) j6, xa_in (a := 86) j6, xa_in (a := 87) j6, r1, r2, r3]
      generalize hv : sg_g σ 85 j = v at *
      generalize hlo : sg_g σ 86 j = lo at *
      generalize hhi : sg_g σ 87 j = hi at *
      have pj1 := pj.1
      have rlo : sg_R lo := by rw [← hlo]; exact sg_Rg _ _ _
      have rhi : sg_R hi := by rw [← hhi]; exact sg_Rg _ _ _
      have pc := fun l (q : lo ≤ l ∧ l < hi) => (pk_cell g pj q).2
      -- inner
      refine ⟨fun n' v18 σ19 => ∃ (i c' : Nat), v18 = lo + i ∧ lo + i ≤ hi ∧ n' = (hi - lo).toNat - i ∧ stR σ2 σ19 c' (fun q => v_lCell σ v (lo + q)) ∧ (c' : Int) ≤ i ∧ (sg_g σ19 77 15 = 0 → c' = i), fun σ19 => ∃ c' : Nat, lo + c' ≤ hi ∧ stR σ2 σ19 c' (fun q => v_lCell σ v (lo + q)) ∧ (sg_g σ19 77 15 = 0 → lo + c' = hi), ⟨_, 0, 0, by omega, by omega, rfl, stR_0 g2.2.1.2 y _, by omega, fun _ => rfl⟩, ?_, ?_⟩
      · rintro n' v18 σ19 r18 f19 ⟨i, c', rfl, hi1, hn', hs', hc', ho'⟩
        refine ⟨fun q => ⟨c', by omega, hs', fun q2 => by have := ho' q2; omega⟩, fun q => ⟨fun q2 => ⟨c', by omega, hs', fun q3 => absurd q3 q2⟩, fun q2 => ?_⟩⟩
        have ei := ho' q2
        subst ei
        obtain ⟨ex19, g19⟩ := up σ19 (sg_F_t f2 (sg_F_m f19 rfl)) ⟨_, _, stR_t hs hs'⟩
        have ce := pk_cell_up g g19 ex19 pj (l := lo + c') ⟨by omega, q⟩
        refine ⟨(pk_cell g19 (pkg_up ex19 pj) ⟨by omega, q⟩).1, ?_⟩
        have hrc : sg_R (v_lCell σ19 v (lo + c')) := by
          unfold v_lCell
          repeat' split
          all_goals first | exact sg_Rg _ _ _ | decide
        refine y_store g19.2.1 q2 hrc (fun σ' c2 f' l' s' o' _ => ⟨⟨by omega, by omega⟩, (hi - lo).toNat - (c' + 1), by omega, c' + 1, c' + c2, by omega, by omega, rfl, stR_e (stR_t hs' s') (fun i hi => ?_), by omega, fun q3 => by rw [o' q3]⟩)
        by_cases e : i < c'
        · simp only [e, if_true]
        · simp only [e, if_false]
          rw [show i = c' by omega, ce]
      · rintro σ19 f19 ⟨c', hc', hs', ho'⟩
        have f19' := sg_F_t f2 (sg_F_m f19 rfl)
        have st19 := stR_t hs hs'
        obtain ⟨ex19, g19⟩ := up σ19 f19' ⟨_, _, st19⟩
        have ps : lo < hi → p_lStart σ v lo ∧ p_lStart σ v (hi - 1) ∧ p_lCell σ19 v (hi - 1) ∧ v_lCell σ19 v (hi - 1) = v_lCell σ v (hi - 1) := fun q => by
          refine ⟨?_, ?_, (pk_cell g19 (pkg_up ex19 pj) ⟨by omega, by omega⟩).1, pk_cell_up g g19 ex19 pj ⟨by omega, by omega⟩⟩
          · rcases pj.2 with ⟨e, -⟩ | ⟨n0, a, b⟩
            · exact (y_cellN (by omega)).2.2.2.1
            · exact (y_start g (yV_r a) ⟨by omega, by omega⟩).2
          · rcases pj.2 with ⟨e, -⟩ | ⟨n0, a, b⟩
            · exact (y_cellN (by omega)).2.2.2.1
            · exact (y_start g (yV_r a) ⟨by omega, by omega⟩).2
        refine ⟨y_pitems _ _, fun σ35 e35 => ⟨⟨fun _ => trivial, fun q => ⟨(ps q).1, trivial⟩⟩, fun v40 e40 r40 σ43 e43 => ⟨⟨fun _ => trivial, fun q => ⟨⟨by omega, by omega⟩, (ps q).2.1, (ps q).2.2.1, trivial⟩⟩, fun v48 e48 r48 σ51 e51 => ⟨⟨by omega, by omega⟩, p - (j + 1), by omega, j + 1, c + c', (fun i => if i < c then h i else v_lCell σ v (lo + ((i - c : Nat) : Int))), by omega, by omega, rfl, ?_, ?_, fun i hi2 => ?_, fun y2 => ?_⟩⟩⟩⟩
        all_goals rw [xp_in j6] at e35 e43 e51
        all_goals have f51 : sg_F [85, 86, 87] σ19 σ51 := by rw [e51, e43, e35]; exact sg_F_w (sg_F_w (sg_F_w (sg_F_r _ _) rfl _) rfl _) rfl _
        · exact stR_F st19 f51 rfl
        · intro hd i hi2
          by_cases e : i < c
          · simp only [e, if_true]; exact hl hd i e
          · simp only [e, if_false]
            exact pc _ ⟨by omega, by omega⟩ hd
        · have hij : ¬ (i : Int) = j := by omega
          obtain ⟨t1, t2, t3⟩ := hr i (by omega)
          refine ⟨?_, ?_, ?_⟩
          · rw [e51, sg_gw_c _ _ _ _ _ _ (by decide), e43, sg_gw_c _ _ _ _ _ _ (by decide), e35, sg_gw_k _ _ _ _ _ _ hij, sg_F_ga f19 rfl, t1]
          · rw [e51, sg_gw_c _ _ _ _ _ _ (by decide), e43, sg_gw_k _ _ _ _ _ _ hij, e35, sg_gw_c _ _ _ _ _ _ (by decide), sg_F_ga f19 rfl, t2]
          · rw [e51, sg_gw_k _ _ _ _ _ _ hij, e43, sg_gw_c _ _ _ _ _ _ (by decide), e35, sg_gw_c _ _ _ _ _ _ (by decide), sg_F_ga f19 rfl, t3]
        · rw [sg_F_g f51 (by rfl)] at y2
          have hc2 := ho' y2
          have ex51 : yEx σ19 σ51 := yEx_F f51 rfl
          have ex2' : yEx σ2 σ51 := yEx_t (stR_ex hs' f19 rfl) ex51
          refine ⟨?_, fun d' hd => ?_⟩
          · unfold pks
            simp only [su]
            rw [show (0 : Int) + j = j by omega, hhi, hlo, ← pks, ← hz1]
            omega
          · obtain ⟨z1, z2⟩ := hz2 d' hd
            subst hd
            have rit : sg_R (v_lItems σ v) := by
              unfold v_lItems
              repeat' split
              all_goals first | exact sg_Rg _ _ _ | decide
            have i85 : sg_g σ51 85 j = v_lItems σ v := by
              rw [e51, sg_gw_c _ _ _ _ _ _ (by decide), e43, sg_gw_c _ _ _ _ _ _ (by decide), e35, sg_gw_e _ _ _ _ rit]
            have i86 : sg_g σ51 86 j = v40 := by rw [e51, sg_gw_c _ _ _ _ _ _ (by decide), e43, sg_gw_e _ _ _ _ r40]
            have i87 : sg_g σ51 87 j = v48 := by rw [e51, sg_gw_e _ _ _ _ r48]
            have ot : ∀ i : Nat, i < j → sg_g σ51 85 i = sg_g σ2 85 i ∧ sg_g σ51 86 i = sg_g σ2 86 i ∧ sg_g σ51 87 i = sg_g σ2 87 i := fun i hi2 => by
              have hij : ¬ (i : Int) = j := by omega
              refine ⟨?_, ?_, ?_⟩
              · rw [e51, sg_gw_c _ _ _ _ _ _ (by decide), e43, sg_gw_c _ _ _ _ _ _ (by decide), e35, sg_gw_k _ _ _ _ _ _ hij, sg_F_ga f19 rfl]
              · rw [e51, sg_gw_c _ _ _ _ _ _ (by decide), e43, sg_gw_k _ _ _ _ _ _ hij, e35, sg_gw_c _ _ _ _ _ _ (by decide), sg_F_ga f19 rfl]
              · rw [e51, sg_gw_k _ _ _ _ _ _ hij, e43, sg_gw_c _ _ _ _ _ _ (by decide), e35, sg_gw_c _ _ _ _ _ _ (by decide), sg_F_ga f19 rfl]
            have key : pkg σ d' (v_lItems σ v) v40 v48 ∧ v48 - v40 = su (fun i => v_lCell σ v i) lo c' := by
              by_cases q : lo < hi
              · rw [if_neg (by omega)] at e40 e48
                obtain ⟨n1, n2, n3, n4, n5, n6⟩ := pk_next g pj q
                rw [(ps q).2.2.2, sg_id ⟨by have := n1.1; omega, by omega⟩] at e48
                rw [e40, e48, show c' = (hi - lo).toNat by omega]
                exact ⟨n1, n2⟩
              · rw [if_pos (by omega)] at e40 e48
                have : c' = 0 := by omega
                subst this
                rw [e40, e48]
                refine ⟨⟨by omega, ?_⟩, rfl⟩
                rcases pj.2 with ⟨e, -⟩ | ⟨n0, a, b⟩
                · exact Or.inl ⟨(y_cellN (l := 0) (by omega)).2.2.2.2, by omega⟩
                · refine Or.inr ⟨_, ?_, (yV_r a.2.2.2).2.2.1⟩
                  rw [y_items g (yV_r a)]; exact a.2.2.2
            refine ⟨fun i hi2 => ?_, ?_⟩
            · by_cases e : i = j
              · subst e; rw [i85, i86, i87]; exact pkg_up (yEx_t ex19 ex51) key.1
              · obtain ⟨t1, t2, t3⟩ := ot i (by omega)
                rw [t1, t2, t3]; exact pkg_up ex2' (z1 i (by omega))
            · unfold pks
              simp only [su]
              rw [show (0 : Int) + j = j by omega, i86, i87, su_sh (g := fun i => sg_g σ2 87 i - sg_g σ2 86 i) (p := 0) (fun i hi2 => by
                obtain ⟨t1, t2, t3⟩ := ot i hi2
                rw [show (0 : Int) + i = i by omega, t2, t3]), ← pks, z2, key.2, su_app]
              have u2 := hs.1
              congr 1
              · exact su_sh (fun i hi2 => by rw [ex2'.2.2.1 _ (by omega) (by omega)])
              · refine (su_sh (fun i hi2 => ?_)).symm
                rw [sg_F_ga f51 rfl, ← u2, hs'.2.2.1 i hi2]
  · rintro σ2 f2 ⟨c, ⟨h, h1, h2⟩, h3⟩
    exact k σ2 c f2 ⟨h, h1, h2⟩ (up σ2 f2 ⟨c, h, h1⟩).2 h3
end CPK
