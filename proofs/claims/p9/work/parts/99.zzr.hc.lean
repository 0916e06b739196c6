/-! store, copy, copyPicks, layOut. -/
section STO
variable {σ : sg_S} {x : Int} {Q : sg_S → Prop}
/-- c cells more from u on, told by h; or an overflow -/
def stR (σ σ' : sg_S) (c : Nat) (h : Nat → Int) : Prop := sg_g σ' 77 16 = sg_g σ 77 16 + c ∧ sg_g σ' 77 16 ≤ 6000 ∧ (∀ i : Nat, i < c → sg_g σ' 78 (sg_g σ 77 16 + i) = h i) ∧ (∀ q, q < sg_g σ 77 16 → sg_g σ' 78 q = sg_g σ 78 q) ∧ (sg_g σ' 77 15 = 0 ∨ sg_g σ' 77 15 = 1)
theorem stR_0 (hu : sg_g σ 77 16 ≤ 6000) (ho : sg_g σ 77 15 = 0) (h : Nat → Int) : stR σ σ 0 h := ⟨by omega, hu, fun i hi => by omega, fun _ _ => rfl, Or.inl ho⟩
theorem y_store (hu : 0 ≤ sg_g σ 77 16 ∧ sg_g σ 77 16 ≤ 6000) (ho : sg_g σ 77 15 = 0) (hx : sg_R x) (k : ∀ σ' (c : Nat), sg_F [78, 16077, 17077] σ σ' → c ≤ 1 → stR σ σ' c (fun _ => x) → (sg_g σ' 77 15 = 0 → c = 1) → Q σ') : V_lStore σ x Q := by
  unfold V_lStore
  refine ⟨fun z => by omega, fun _ => ⟨fun z σ6 e6 => ?_, fun z => ⟨⟨by omega, by omega⟩, fun σ10 e10 => ⟨⟨by omega, by omega⟩, fun σ14 e14 => ?_⟩⟩⟩⟩
  · have f : sg_F [78, 16077, 17077] σ σ6 := by rw [e6]; exact sg_F_w (sg_F_r _ _) rfl _
    have g15 : sg_g σ6 77 15 = 1 := by rw [e6, sg_gw_e _ _ _ _ (by decide)]
    have g16 : sg_g σ6 77 16 = sg_g σ 77 16 := by rw [e6, sg_gw_k _ _ _ _ _ _ (by decide)]
    refine k σ6 0 f (by omega) ⟨by omega, by omega, fun i hi => by omega, fun q _ => ?_, Or.inr g15⟩ (fun y => by omega)
    rw [e6, sg_gw_c _ _ _ _ _ _ (by decide)]
  · have f : sg_F [78, 16077, 17077] σ σ14 := by rw [e14, e10]; exact sg_F_w (sg_F_w (sg_F_r _ _) rfl _) rfl _
    have g16 : sg_g σ14 77 16 = sg_g σ 77 16 + 1 := by rw [e14, sg_gw_e _ _ _ _ ⟨by omega, by omega⟩]
    have g15 : sg_g σ14 77 15 = 0 := by rw [e14, sg_gw_k _ _ _ _ _ _ (by decide), e10, sg_gw_c _ _ _ _ _ _ (by decide)]; exact ho
    refine k σ14 1 f (by omega) ⟨by omega, by omega, fun i hi => ?_, fun q hq => ?_, Or.inl g15⟩ (fun _ => rfl)
    · have : i = 0 := by omega
      subst this
      rw [e14, sg_gw_c _ _ _ _ _ _ (by decide), e10, show sg_g σ 77 16 + ((0 : Nat) : Int) = sg_g σ 77 16 by omega, sg_gw_e _ _ _ _ hx]
    · rw [e14, sg_gw_c _ _ _ _ _ _ (by decide), e10, sg_gw_k _ _ _ _ _ _ (by omega)]
theorem stR_t {σ1 σ2 : sg_S} {c c' : Nat} {h h' : Nat → Int} (a : stR σ σ1 c h) (b : stR σ1 σ2 c' h') : stR σ σ2 (c + c') (fun i => if i < c then h i else h' (i - c)) := by
  obtain ⟨a1, a2, a3, a4, a5⟩ := a
  obtain ⟨b1, b2, b3, b4, b5⟩ := b
  refine ⟨by omega, b2, fun i hi => ?_, fun q hq => ?_, b5⟩
  · by_cases e : i < c
    · rw [b4 _ (by omega), a3 i e]; simp only [e, if_true]
    · have := b3 (i - c) (by omega)
      rw [show sg_g σ1 77 16 + ((i - c : Nat) : Int) = sg_g σ 77 16 + i by omega] at this
      rw [this]; simp only [e, if_false]
  · rw [b4 q (by omega), a4 q hq]
theorem stR_e {σ1 : sg_S} {c : Nat} {h h' : Nat → Int} (a : stR σ σ1 c h) (e : ∀ i : Nat, i < c → h' i = h i) : stR σ σ1 c h' := ⟨a.1, a.2.1, fun i hi => by rw [e i hi]; exact a.2.2.1 i hi, a.2.2.2⟩
theorem y_copy83 {a : Int} (hu : 0 ≤ sg_g σ 77 16 ∧ sg_g σ 77 16 ≤ 6000) (ho : sg_g σ 77 15 = 0) (ha : 0 ≤ a ∧ a ≤ 6000) (k : ∀ σ' (c : Nat), sg_F [78, 16077, 17077] σ σ' → (c : Int) ≤ a → stR σ σ' c (fun i => sg_g σ 83 i) → (sg_g σ' 77 15 = 0 → c = a) → Q σ') : V_lCopy83 σ a Q := by
  unfold V_lCopy83
  refine ⟨fun m v σ2 => ∃ (j c : Nat), v = j ∧ (j : Int) ≤ a ∧ m = a.toNat - j ∧ (c : Int) ≤ a ∧ stR σ σ2 c (fun i => sg_g σ 83 i) ∧ (sg_g σ2 77 15 = 0 → c = j), fun σ2 => ∃ c : Nat, (c : Int) ≤ a ∧ stR σ σ2 c (fun i => sg_g σ 83 i) ∧ (sg_g σ2 77 15 = 0 → c = a), ⟨_, 0, 0, rfl, by omega, rfl, by omega, stR_0 hu.2 ho _, fun _ => rfl⟩, ?_, ?_⟩
  · rintro m v σ2 rv f2 ⟨j, c, rfl, hj, hm, hc, hs, ho2⟩
    refine ⟨fun z => ⟨c, hc, hs, fun y => by have := ho2 y; omega⟩, fun z => ⟨fun y => ⟨c, hc, hs, fun y2 => absurd y2 y⟩, fun y => ?_⟩⟩
    have ec := ho2 y
    subst ec
    rw [xa_in ⟨by omega, by omega⟩]
    refine y_store ⟨by have := hs.1; omega, hs.2.1⟩ y (sg_Rg _ _ _) (fun σ' c' f' l' s' o' _ => ⟨⟨by omega, by omega⟩, a.toNat - (c + 1), by omega, c + 1, c + c', by omega, by omega, rfl, by omega, stR_e (stR_t hs s') (fun i hi => ?_), fun y2 => by rw [o' y2]⟩)
    by_cases e : i < c
    · simp only [e, if_true]
    · simp only [e, if_false]
      rw [show i = c by omega]
  · rintro σ2 f2 ⟨c, h1, h2, h3⟩
    exact k σ2 c f2 h1 h2 h3
theorem y_copy84 {a : Int} (hu : 0 ≤ sg_g σ 77 16 ∧ sg_g σ 77 16 ≤ 6000) (ho : sg_g σ 77 15 = 0) (ha : 0 ≤ a ∧ a ≤ 6000) (k : ∀ σ' (c : Nat), sg_F [78, 16077, 17077] σ σ' → (c : Int) ≤ a → stR σ σ' c (fun i => sg_g σ 84 i) → (sg_g σ' 77 15 = 0 → c = a) → Q σ') : V_lCopy84 σ a Q := by
  unfold V_lCopy84
  refine ⟨fun m v σ2 => ∃ (j c : Nat), v = j ∧ (j : Int) ≤ a ∧ m = a.toNat - j ∧ (c : Int) ≤ a ∧ stR σ σ2 c (fun i => sg_g σ 84 i) ∧ (sg_g σ2 77 15 = 0 → c = j), fun σ2 => ∃ c : Nat, (c : Int) ≤ a ∧ stR σ σ2 c (fun i => sg_g σ 84 i) ∧ (sg_g σ2 77 15 = 0 → c = a), ⟨_, 0, 0, rfl, by omega, rfl, by omega, stR_0 hu.2 ho _, fun _ => rfl⟩, ?_, ?_⟩
  · rintro m v σ2 rv f2 ⟨j, c, rfl, hj, hm, hc, hs, ho2⟩
    refine ⟨fun z => ⟨c, hc, hs, fun y => by have := ho2 y; omega⟩, fun z => ⟨fun y => ⟨c, hc, hs, fun y2 => absurd y2 y⟩, fun y => ?_⟩⟩
    have ec := ho2 y
    subst ec
    rw [xa_in ⟨by omega, by omega⟩]
    refine y_store ⟨by have := hs.1; omega, hs.2.1⟩ y (sg_Rg _ _ _) (fun σ' c' f' l' s' o' _ => ⟨⟨by omega, by omega⟩, a.toNat - (c + 1), by omega, c + 1, c + c', by omega, by omega, rfl, by omega, stR_e (stR_t hs s') (fun i hi => ?_), fun y2 => by rw [o' y2]⟩)
    by_cases e : i < c
    · simp only [e, if_true]
    · simp only [e, if_false]
      rw [show i = c by omega]
  · rintro σ2 f2 ⟨c, h1, h2, h3⟩
    exact k σ2 c f2 h1 h2 h3
/-- storing keeps what is there -/
theorem stR_ex {L : List Nat} {σ1 : sg_S} {c : Nat} {h : Nat → Int} (a : stR σ σ1 c h) (f : sg_F L σ σ1) (hL : (!sg_cv L 77 10 && sg_ca L 79 && sg_ca L 80 && sg_ca L 81 && sg_ca L 82) = true) : yEx σ σ1 := by
  simp only [Bool.and_eq_true, Bool.not_eq_true'] at hL
  obtain ⟨⟨⟨⟨l1, l4⟩, l5⟩, l6⟩, l7⟩ := hL
  refine ⟨⟨by rw [sg_F_g f l1]; exact Int.le_refl _, by have := a.1; omega⟩, fun v _ _ => ⟨sg_F_ga f l5, sg_F_ga f l6, sg_F_ga f l7⟩, fun x _ hx => a.2.2.2.1 x hx, fun v n w b i hi => ?_⟩
  rw [sg_F_ga f l5, sg_F_ga f l4, b i hi]
  have w5 := w.2.2.2.2
  exact (su_sh (fun j hj => a.2.2.2.1 _ (by omega))).symm
theorem y_lay {a n : Int} (h81 : sx_at σ 81 8000 a = n) (hn : 0 ≤ n ∧ n ≤ 6000) (hp : 0 < n → (0 ≤ a ∧ a < 8000) ∧ 0 ≤ sg_g σ 80 a ∧ sg_g σ 80 a + n ≤ 6000) (hl : ∀ i : Nat, (i : Int) < n → 0 ≤ sg_g σ 78 (sg_g σ 80 a + i) ∧ sg_g σ 78 (sg_g σ 80 a + i) ≤ 200) (k : ∀ σ', sg_F [79] σ σ' → (∀ i : Nat, (i : Int) < n → sg_g σ' 79 (sg_g σ 80 a + i) = su (sg_g σ 78) (sg_g σ 80 a) i) → (∀ q, (∀ i : Nat, (i : Int) < n → ¬ q = sg_g σ 80 a + i) → sg_g σ' 79 q = sg_g σ 79 q) → Q σ') : V_lLayOut σ a Q := by
  unfold V_lLayOut
  rw [h81]
  refine ⟨fun m t v σ3 => ∃ j : Nat, v = j ∧ (j : Int) ≤ n ∧ m = n.toNat - j ∧ t = su (sg_g σ 78) (sg_g σ 80 a) j ∧ (∀ i : Nat, i < j → sg_g σ3 79 (sg_g σ 80 a + i) = su (sg_g σ 78) (sg_g σ 80 a) i) ∧ (∀ q, (∀ i : Nat, i < j → ¬ q = sg_g σ 80 a + i) → sg_g σ3 79 q = sg_g σ 79 q), fun σ3 => (∀ i : Nat, (i : Int) < n → sg_g σ3 79 (sg_g σ 80 a + i) = su (sg_g σ 78) (sg_g σ 80 a) i) ∧ (∀ q, (∀ i : Nat, (i : Int) < n → ¬ q = sg_g σ 80 a + i) → sg_g σ3 79 q = sg_g σ 79 q), ⟨_, 0, rfl, by omega, rfl, rfl, fun i hi => by omega, fun q _ => rfl⟩, ?_, ?_⟩
  · rintro m t v σ3 rt rv f3 ⟨j, rfl, hj, hm, rfl, h1, h2⟩
    refine ⟨fun z => ⟨fun i hi => h1 i (by omega), fun q hq => h2 q (fun i hi => hq i (by omega))⟩, fun z => ?_⟩
    obtain ⟨a8, a0, an⟩ := hp (by omega)
    have bd := su_b (g := sg_g σ 78) (p := sg_g σ 80 a) (i := j) (fun i hi => hl i (by omega))
    have hj2 := hl j z
    have hc : v_lCell σ a j = sg_g σ 78 (sg_g σ 80 a + j) := by
      unfold v_lCell
      rw [if_neg (by omega), if_pos (by omega), if_neg (by omega), if_neg (by omega)]
    rw [xa_in a8, hc]
    refine ⟨⟨by omega, by omega⟩, fun σ20 e20 => ⟨?_, ⟨by omega, by omega⟩, ⟨by omega, by omega⟩, n.toNat - (j + 1), by omega, j + 1, by omega, by omega, rfl, rfl, fun i hi => ?_, fun q hq => ?_⟩⟩
    · unfold p_lCell
      refine ⟨fun _ => trivial, fun _ => ⟨fun _ => ⟨⟨by omega, by omega⟩, ⟨by omega, by omega⟩, fun _ => trivial, fun _ => ⟨fun _ => trivial, fun _ => ⟨⟨by omega, by omega⟩, trivial⟩⟩⟩, fun _ => trivial⟩⟩
    · rw [e20, xp_in ⟨by omega, by omega⟩]
      by_cases e : i = j
      · subst e; rw [sg_gw_e _ _ _ _ rt]
      · rw [sg_gw_k _ _ _ _ _ _ (by omega)]; exact h1 i (by omega)
    · rw [e20, xp_in ⟨by omega, by omega⟩, sg_gw_k _ _ _ _ _ _ (hq j (by omega))]
      exact h2 q (fun i hi => hq i (by omega))
  · rintro σ3 f3 ⟨h1, h2⟩
    exact k σ3 f3 h1 h2
end STO
