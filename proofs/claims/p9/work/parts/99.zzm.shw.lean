/-! What is shown: numbers, and the value of a nested run. -/
theorem dvl {a b : Int} (ha : 0 ≤ a ∧ a ≤ 4611686018427387904) (hb : 0 < b ∧ b ≤ 4611686018427387904) : (sg_l a / sg_l b).toInt = a / b := by
  have e1 : (sg_l a).toInt = a := sg_idl (z := a) ⟨by omega, by omega⟩
  have e2 : (sg_l b).toInt = b := sg_idl (z := b) ⟨by omega, by omega⟩
  have q0 : 0 ≤ a / b := Int.ediv_nonneg ha.1 (by omega)
  have q1 : a / b ≤ a := Int.ediv_le_self _ ha.1
  rw [Int64.toInt_div, e1, e2, Int.tdiv_eq_ediv_of_nonneg ha.1, Int.bmod_eq_of_le (by omega) (by omega)]
theorem rml {a : Int} (ha : 0 ≤ a ∧ a ≤ 4611686018427387904) : (sg_l a - sg_l a / sg_l 10 * sg_l 10).toInt = a % 10 := by
  have e1 : (sg_l a).toInt = a := sg_idl (z := a) ⟨by omega, by omega⟩
  have e3 : (sg_l 10).toInt = 10 := by decide
  have d := dvl (b := 10) ha ⟨by decide, by decide⟩
  rw [Int64.toInt_sub, Int64.toInt_mul, d, e1, e3, Int.bmod_eq_of_le (n := a / 10 * 10) (by omega) (by omega), Int.bmod_eq_of_le (by omega) (by omega)]
  omega
theorem m_show {σ : sg_S} {c : Int} {Q : sg_S → Prop} (h : 0 ≤ sg_g σ 88 78 ∧ sg_g σ 88 78 < 160000) (k : ∀ σ', sg_g σ' 88 78 = sg_g σ 88 78 + 1 → sg_F [136, 79088] σ σ' → Q σ') : V_show σ c Q := by
  unfold V_show
  refine ⟨h, fun σ2 e2 => ⟨⟨by omega, by omega⟩, fun σ6 e6 => k σ6 ?_ ?_⟩⟩
  · rw [e6, sg_gw_e _ _ _ _ ⟨by omega, by omega⟩]
  · rw [e6, e2]; exact sg_F_w (sg_F_w (sg_F_r _ _) rfl _) rfl _
theorem pow10 {c : Nat} (h : (10 : Int) ^ c ≤ 2147483648) : c ≤ 9 := by
  rcases Nat.lt_or_ge 9 c with q | q
  · exfalso
    have h1 : (10 : Nat) ^ 10 ≤ 10 ^ c := Nat.pow_le_pow_right (by decide) q
    have h2 : ((10 ^ c : Nat) : Int) = (10 : Int) ^ c := by simp
    have h3 : (10 : Nat) ^ 10 = 10000000000 := by decide
    omega
  · exact q
theorem pow10_d {v : Int} {c : Nat} (h0 : 0 ≤ v) (h : v * 10 ^ c ≤ 2147483648) : v / 10 * 10 ^ (c + 1) ≤ 2147483648 := by
  have p0 : (0 : Int) ≤ 10 ^ c := Int.pow_nonneg (by decide)
  have e : v / 10 * 10 ^ (c + 1) = (v / 10 * 10) * 10 ^ c := by
    rw [Int.pow_succ, Int.mul_comm ((10 : Int) ^ c) 10, ← Int.mul_assoc]
  have : (v / 10 * 10) * (10 : Int) ^ c ≤ v * 10 ^ c := Int.mul_le_mul_of_nonneg_right (by omega) p0
  omega
theorem m_showN {σ : sg_S} {a : Int} {Q : sg_S → Prop} (h : 0 ≤ sg_g σ 88 78 ∧ sg_g σ 88 78 + 11 ≤ 160000) (ha : sg_R a) (k : ∀ σ', sg_g σ 88 78 ≤ sg_g σ' 88 78 → sg_g σ' 88 78 ≤ sg_g σ 88 78 + 11 → sg_F [136, 79088] σ σ' → Q σ') : V_showNumber σ a Q := by
  unfold V_showNumber
  refine ⟨⟨fun _ => trivial, fun _ => ⟨⟨by omega, by omega⟩, trivial⟩⟩, fun v3 e3 r3 => ⟨fun σ9 => sg_g σ 88 78 ≤ sg_g σ9 88 78 ∧ sg_g σ9 88 78 ≤ sg_g σ 88 78 + 1, ⟨fun _ => ⟨by omega, by omega⟩, fun _ => m_show (by omega) (fun σ' x1 x2 _ => ⟨by omega, by omega⟩)⟩, fun σ9 f9 p9 => ?_⟩⟩
  have v3b : 0 ≤ v3 ∧ v3 ≤ 2147483648 := by
    by_cases z : 0 ≤ a
    · rw [if_pos z] at e3; omega
    · rw [if_neg z] at e3; omega
  have dig : ∀ d, 0 < d → d ≤ 2147483648 → sg_RL (48 + ((sg_l (((sg_l v3 / sg_l d).toInt)) - sg_l (((sg_l v3 / sg_l d).toInt)) / sg_l 10 * sg_l 10).toInt)) ∧ sg_R ((48 + ((sg_l (((sg_l v3 / sg_l d).toInt)) - sg_l (((sg_l v3 / sg_l d).toInt)) / sg_l 10 * sg_l 10).toInt))) := fun d d0 d1 => by
    have q0 : 0 ≤ v3 / d := Int.ediv_nonneg v3b.1 (by omega)
    have q1 : v3 / d ≤ v3 := Int.ediv_le_self _ v3b.1
    rw [dvl ⟨v3b.1, by omega⟩ ⟨d0, by omega⟩, rml ⟨q0, by omega⟩]
    exact ⟨⟨by omega, by omega⟩, ⟨by omega, by omega⟩⟩
  refine ⟨fun n v => n = (2147483649 - v).toNat ∧ 1 ≤ v ∧ v ≤ 2147483648, fun v => 1 ≤ v ∧ v ≤ 2147483648, ⟨_, rfl, by decide, by decide⟩, ?_, ?_⟩
  · rintro n v rv ⟨en, hv1, hv2⟩
    exact ⟨⟨by omega, by omega⟩, fun _ => ⟨hv1, hv2⟩, fun z => ⟨_, by omega, rfl, by omega, by omega⟩⟩
  · rintro v rv ⟨hv1, hv2⟩
    refine ⟨fun z => by omega, fun z => ⟨by omega, (dig v z hv2).1, (dig v z hv2).2, m_show (by omega) (fun σ32 x1 x2 _ => ?_)⟩⟩
    rw [dvl (b := 10) ⟨by omega, by omega⟩ ⟨by decide, by decide⟩]
    refine ⟨fun n w σ38 => n = w.toNat ∧ 0 ≤ w ∧ ∃ c : Nat, w * 10 ^ c ≤ 2147483648 ∧ sg_g σ38 88 78 = sg_g σ9 88 78 + c ∧ c ≤ 10, fun σ38 => sg_g σ9 88 78 ≤ sg_g σ38 88 78 ∧ sg_g σ38 88 78 ≤ sg_g σ9 88 78 + 10, ⟨_, rfl, by omega, 1, by omega, by omega, by decide⟩, ?_, ?_⟩
    · rintro n w σ38 rw' f38 ⟨en, w0, c, c1, c2, c3⟩
      refine ⟨fun _ => ⟨by omega, by omega⟩, fun z => ?_⟩
      have p1 : (10 : Int) ^ c ≤ w * 10 ^ c := by
        have := Int.mul_le_mul_of_nonneg_right (show (1 : Int) ≤ w by omega) (Int.pow_nonneg (by decide) : (0 : Int) ≤ 10 ^ c)
        omega
      have c9 := pow10 (by omega : (10 : Int) ^ c ≤ 2147483648)
      have w1 : w ≤ 2147483648 := by
        have p2 : (1 : Int) ≤ 10 ^ c := Int.pow_pos (by decide)
        have := Int.mul_le_mul_of_nonneg_left p2 w0
        omega
      refine ⟨by omega, (dig w z w1).1, (dig w z w1).2, m_show (by omega) (fun σ57 y1 y2 _ => ?_)⟩
      rw [dvl (b := 10) ⟨by omega, by omega⟩ ⟨by decide, by decide⟩]
      exact ⟨_, by omega, rfl, by omega, c + 1, pow10_d w0 c1, by omega, by omega⟩
    · rintro σ38 f38 ⟨q1, q2⟩
      exact k σ38 (by omega) (by omega) (sg_F_t (sg_F_t f9 x2) f38)
