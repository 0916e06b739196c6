/-! THE NESTED RUN of the reference, turn by turn. -/
abbrev goL : List Nat := [122, 123, 124, 125, 126, 127, 128, 129, 130, 131, 132, 133, 134, 135, 55088, 56088, 57088, 61088, 63088, 71088, 74088]
/-- m turns are left -/
def Rx (X : sg_S → Prop) : Nat → sg_S → Prop
  | 0, σ => (sg_g σ 88 62 ≤ 0 → X σ) ∧ (¬ sg_g σ 88 73 = 0 → X σ) ∧ (0 < sg_g σ 88 62 → sg_g σ 88 73 = 0 → False)
  | m + 1, σ => (sg_g σ 88 62 ≤ 0 → X σ) ∧ (¬ sg_g σ 88 73 = 0 → X σ) ∧ (0 < sg_g σ 88 62 → sg_g σ 88 73 = 0 → ∀ Q : sg_S → Prop, (∀ σ', Rx X m σ' → Q σ') → V_goNested σ (fun σ' => sg_F goL σ σ' → Q σ'))
theorem rx_s {X : sg_S → Prop} {m : Nat} {σ : sg_S} (h : ¬ sg_g σ 88 73 = 0) (hX : X σ) : Rx X m σ := by
  cases m with
  | zero => exact ⟨fun _ => hX, fun _ => hX, fun _ z => absurd z h⟩
  | succ m => exact ⟨fun _ => hX, fun _ => hX, fun _ z => absurd z h⟩
theorem rx_e {X : sg_S → Prop} {m : Nat} {σ : sg_S} (h : sg_g σ 88 62 ≤ 0) (hX : X σ) : Rx X m σ := by
  cases m with
  | zero => exact ⟨fun _ => hX, fun _ => hX, fun z _ => by omega⟩
  | succ m => exact ⟨fun _ => hX, fun _ => hX, fun z _ => by omega⟩
theorem rx_g {X : sg_S → Prop} {m : Nat} {σ : sg_S} (h1 : 0 < sg_g σ 88 62) (h2 : sg_g σ 88 73 = 0) (h : ∀ Q : sg_S → Prop, (∀ σ', Rx X m σ' → Q σ') → V_goNested σ (fun σ' => sg_F goL σ σ' → Q σ')) : Rx X (m + 1) σ := ⟨fun z => by omega, fun z => absurd h2 z, fun _ _ => h⟩
/-- a turn of node n, at stage s, its frame f, its values from b on -/
def gxT (σ : sg_S) (f n s b sp : Int) : Prop := sg_g σ 126 f = n ∧ sg_g σ 127 f = s ∧ sg_g σ 128 f = b ∧ sg_g σ 129 f = sp
section GTS
variable {σ : sg_S} {A : aT} {D : List aDf} {T B : Int → Int} {f n s b sp : Int} {Q : sg_S → Prop}
theorem gt_part (hX : pgX σ A D T B) (hn : 0 ≤ n ∧ n < A.1) (hf : sg_g σ 88 62 = f + 1) (f0 : 0 ≤ f ∧ f < 4000) (h : gxT σ f n s b sp) (k15 : ¬ A.2.1 n = 15) (k2 : ¬ (A.2.1 n = 2 ∧ s = 1)) (k3 : A.2.1 n = 3 → s ≤ 0) (hs : s < ((A.2.2.2.2.1 n).length : Int)) (k : V_goPart σ f s (fun σ' => sg_F bgL σ σ' → Q σ')) : V_goNested σ Q := by
  obtain ⟨h1, h2, h3, h4⟩ := h
  obtain ⟨t1, t2, t3, t4, t5⟩ := tr_k hX.1 hn
  have hA := hX.2.2.2.2.1
  have ef : sg_g σ 88 62 - 1 = f := by omega
  unfold V_goNested
  rw [ef, h1, h2, h3, t1, t2]
  refine ⟨⟨by omega, by omega⟩, f0, ⟨hn.1, by omega⟩, fun _ => ⟨fun _ => ⟨fun σ9 => σ9 = σ, ⟨fun _ => rfl, fun z => ⟨fun _ => rfl, fun y => absurd ⟨z, y⟩ k2⟩⟩, fun σ9 f9 e9 => ⟨fun z => by omega, fun _ => ?_⟩⟩, fun z3 => ⟨fun _ => ⟨fun σ9 => σ9 = σ, ⟨fun _ => rfl, fun z => ⟨fun _ => rfl, fun y => absurd ⟨z, y⟩ k2⟩⟩, fun σ9 f9 e9 => ⟨fun z => by omega, fun _ => ?_⟩⟩, fun z => absurd (k3 z3) (by omega)⟩⟩, fun z => absurd z k15⟩
  · subst e9; exact k
  · subst e9; exact k
theorem gt_end (hX : pgX σ A D T B) (hn : 0 ≤ n ∧ n < A.1) (hf : sg_g σ 88 62 = f + 1) (f0 : 0 ≤ f ∧ f < 4000) (h : gxT σ f n s b sp) (k15 : ¬ A.2.1 n = 15) (k3 : ¬ A.2.1 n = 3) (k2 : A.2.1 n = 2 → ¬ s = 1) (hs : ((A.2.2.2.2.1 n).length : Int) ≤ s) (k13 : A.2.1 n = 13 → ¬ s = (A.2.2.2.2.1 n).length) (k : V_endNested σ n b (fun σ' => sg_F [122, 123, 124, 125, 129, 131, 133, 135, 55088, 56088, 57088, 61088, 63088, 71088, 74088] σ σ' → Q σ')) : V_goNested σ Q := by
  obtain ⟨h1, h2, h3, h4⟩ := h
  obtain ⟨t1, t2, t3, t4, t5⟩ := tr_k hX.1 hn
  have hA := hX.2.2.2.2.1
  have ef : sg_g σ 88 62 - 1 = f := by omega
  unfold V_goNested
  rw [ef, h1, h2, h3, t1, t2]
  refine ⟨⟨by omega, by omega⟩, f0, ⟨hn.1, by omega⟩, fun _ => ⟨fun _ => ⟨fun σ9 => σ9 = σ, ⟨fun _ => rfl, fun z => ⟨fun _ => rfl, fun y => absurd y (k2 z)⟩⟩, fun σ9 f9 e9 => ⟨fun _ => ⟨fun _ => ?_, fun z => ⟨fun _ => ?_, fun y => absurd y (k13 z)⟩⟩, fun z => by omega⟩⟩, fun z3 => absurd z3 k3⟩, fun z => absurd z k15⟩
  · subst e9; exact k
  · subst e9; exact k
theorem gt_let {x : Int} (hX : pgX σ A D T B) (hn : 0 ≤ n ∧ n < A.1) (hf : sg_g σ 88 62 = f + 1) (f0 : 0 ≤ f ∧ f < 4000) (h : gxT σ f n 1 b sp) (k2 : A.2.1 n = 2) (hl : (A.2.2.2.2.1 n).length = 2) (hv : sg_g σ 88 70 = x + 1) (hx : 0 ≤ x ∧ x < 12000) (k : ∀ σ9, σ9 = sg_w (sg_w σ 88 70 x) 134 n (sg_g σ 133 x) → V_goPart σ9 f 1 (fun σ' => sg_F bgL σ9 σ' → Q σ')) : V_goNested σ Q := by
  obtain ⟨h1, h2, h3, h4⟩ := h
  obtain ⟨t1, t2, t3, t4, t5⟩ := tr_k hX.1 hn
  have hA := hX.2.2.2.2.1
  have ef : sg_g σ 88 62 - 1 = f := by omega
  have ex : sg_g σ 88 70 - 1 = x := by omega
  unfold V_goNested
  rw [ef, h1, h2, h3, t1, t2, hl, ex]
  refine ⟨⟨by omega, by omega⟩, f0, ⟨hn.1, by omega⟩, fun _ => ⟨fun _ => ⟨fun σ9 => σ9 = sg_w (sg_w σ 88 70 x) 134 n (sg_g σ 133 x), ⟨fun z => absurd k2 z, fun _ => ⟨fun y => absurd rfl y, fun _ => ⟨⟨by omega, by omega⟩, fun σ75 e75 => ⟨hx, fun σ79 e79 => by rw [e79, e75]⟩⟩⟩⟩, fun σ9 f9 e9 => ⟨fun z => by omega, fun _ => k σ9 e9⟩⟩, fun z => by omega⟩, fun z => by omega⟩
theorem gt_if1 {x : Int} (hX : pgX σ A D T B) (hn : 0 ≤ n ∧ n < A.1) (hf : sg_g σ 88 62 = f + 1) (f0 : 0 ≤ f ∧ f < 4000) (h : gxT σ f n 1 b sp) (k3 : A.2.1 n = 3) (hv : sg_g σ 88 70 = x + 1) (hx : 0 ≤ x ∧ x < 12000) (k : ∀ σ9, σ9 = sg_w σ 88 70 x → V_goPart σ9 f (if sg_g σ 133 x = 0 then 2 else 1) (fun σ' => sg_F bgL σ9 σ' → Q σ')) : V_goNested σ Q := by
  obtain ⟨h1, h2, h3, h4⟩ := h
  obtain ⟨t1, t2, t3, t4, t5⟩ := tr_k hX.1 hn
  have hA := hX.2.2.2.2.1
  have ef : sg_g σ 88 62 - 1 = f := by omega
  have ex : sg_g σ 88 70 - 1 = x := by omega
  unfold V_goNested
  rw [ef, h1, h2, h3, t1, t2, ex]
  refine ⟨⟨by omega, by omega⟩, f0, ⟨hn.1, by omega⟩, fun _ => ⟨fun z => absurd k3 z, fun _ => ⟨fun z => by omega, fun _ => ⟨fun z => absurd rfl z, fun _ => ⟨⟨by omega, by omega⟩, fun σ9 e9 => ⟨hx, fun v174 e174 _ => ?_⟩⟩⟩⟩⟩, fun z => by omega⟩
  rw [e174]; exact k σ9 e9
theorem gt_if2 (hX : pgX σ A D T B) (hn : 0 ≤ n ∧ n < A.1) (hf : sg_g σ 88 62 = f + 1) (f0 : 0 ≤ f ∧ f < 4000) (h : gxT σ f n 2 b sp) (k3 : A.2.1 n = 3) (hb : 0 ≤ b ∧ b < 12000) (k : V_leave σ (sg_g σ 133 b) (fun σ' => sg_F lvR σ σ' → Q σ')) : V_goNested σ Q := by
  obtain ⟨h1, h2, h3, h4⟩ := h
  obtain ⟨t1, t2, t3, t4, t5⟩ := tr_k hX.1 hn
  have hA := hX.2.2.2.2.1
  have ef : sg_g σ 88 62 - 1 = f := by omega
  unfold V_goNested
  rw [ef, h1, h2, h3, t1, t2]
  exact ⟨⟨by omega, by omega⟩, f0, ⟨hn.1, by omega⟩, fun _ => ⟨fun z => absurd k3 z, fun _ => ⟨fun z => by omega, fun _ => ⟨fun _ => ⟨hb, k⟩, fun z => absurd z (by decide)⟩⟩⟩, fun z => by omega⟩
theorem gt_each (hX : pgX σ A D T B) (hn : 0 ≤ n ∧ n < A.1) (hf : sg_g σ 88 62 = f + 1) (f0 : 0 ≤ f ∧ f < 4000) (h1 : sg_g σ 126 f = n) (k15 : A.2.1 n = 15) (k : V_goEach σ f (fun σ' => sg_F [122, 123, 124, 125, 126, 127, 128, 129, 130, 131, 132, 133, 134, 55088, 56088, 57088, 61088, 63088, 71088, 74088] σ σ' → Q σ')) : V_goNested σ Q := by
  obtain ⟨t1, t2, t3, t4, t5⟩ := tr_k hX.1 hn
  have hA := hX.2.2.2.2.1
  have ef : sg_g σ 88 62 - 1 = f := by omega
  unfold V_goNested
  rw [ef, h1, t1]
  exact ⟨⟨by omega, by omega⟩, f0, ⟨hn.1, by omega⟩, fun z => absurd k15 z, fun _ => k⟩
theorem gt_call {q : Int} (hX : pgX σ A D T B) (hn : 0 ≤ n ∧ n < A.1) (hf : sg_g σ 88 62 = f + 1) (f0 : 0 ≤ f ∧ f < 4000) (h : gxT σ f n s b sp) (k13 : A.2.1 n = 13) (hs : s = (A.2.2.2.2.1 n).length) (hl : (A.2.2.2.2.1 n).length ≤ 6) (hq : B n = q) (q0 : 0 ≤ q ∧ q < 12) (hb : 0 ≤ b ∧ b + (A.2.2.2.2.1 n).length ≤ 12000) (k : ∀ σ46, sg_F [127, 134, 71088] σ σ46 → (∀ j : Nat, j < (A.2.2.2.2.1 n).length → sg_g σ46 134 (1100 + 6 * q + j) = sg_g σ 133 (b + j)) → (∀ x, ¬ (1100 + 6 * q ≤ x ∧ x < 1100 + 6 * q + (A.2.2.2.2.1 n).length) → sg_g σ46 134 x = sg_g σ 134 x) → sg_g σ46 127 f = s + 1 → (∀ i, ¬ i = f → sg_g σ46 127 i = sg_g σ 127 i) → sg_g σ46 88 70 = b → V_begin σ46 (sg_g σ 105 q) (fun σ' => sg_F bgL σ46 σ' → Q σ')) : V_goNested σ Q := by
  obtain ⟨h1, h2, h3, h4⟩ := h
  obtain ⟨t1, t2, t3, t4, t5⟩ := tr_k hX.1 hn
  have hA := hX.2.2.2.2.1
  have ef : sg_g σ 88 62 - 1 = f := by omega
  have eB : sg_g σ 102 n = q := by rw [hX.2.2.2.1]; exact hq
  unfold V_goNested
  rw [ef, h1, h2, h3, t1, t2, eB]
  refine ⟨⟨by omega, by omega⟩, f0, ⟨hn.1, by omega⟩, fun _ => ⟨fun _ => ⟨fun σ9 => σ9 = σ, ⟨fun _ => rfl, fun z => by omega⟩, fun σ9 f9 e9 => ⟨fun _ => ⟨fun z => absurd k13 z, fun _ => ⟨fun z => absurd hs z, fun _ => ?_⟩⟩, fun z => by omega⟩⟩, fun z => by omega⟩, fun z => by omega⟩
  subst e9
  refine ⟨fun m v27 σ28 => ∃ j : Nat, v27 = j ∧ m = (A.2.2.2.2.1 n).length - j ∧ j ≤ (A.2.2.2.2.1 n).length ∧ (∀ j' : Nat, j' < j → sg_g σ28 134 (1100 + 6 * q + j') = sg_g σ9 133 (b + j')) ∧ ∀ x, ¬ (1100 + 6 * q ≤ x ∧ x < 1100 + 6 * q + j) → sg_g σ28 134 x = sg_g σ9 134 x, fun σ28 => (∀ j' : Nat, j' < (A.2.2.2.2.1 n).length → sg_g σ28 134 (1100 + 6 * q + j') = sg_g σ9 133 (b + j')) ∧ ∀ x, ¬ (1100 + 6 * q ≤ x ∧ x < 1100 + 6 * q + (A.2.2.2.2.1 n).length) → sg_g σ28 134 x = sg_g σ9 134 x, ⟨_, 0, rfl, rfl, Nat.zero_le _, fun j' hj => by omega, fun x _ => rfl⟩, ?_, ?_⟩
  · rintro m v27 σ28 r27 f28 ⟨j, rfl, em, hj, a1, a2⟩
    have ep : v_ofParam q (j : Int) = 1100 + 6 * q + j := rfl
    rw [ep]
    refine ⟨fun z => ⟨fun j' hj' => a1 j' (by omega), fun x hx => a2 x (by omega)⟩, fun z => ⟨⟨⟨by omega, by omega⟩, ⟨by omega, by omega⟩, ⟨by omega, by omega⟩, trivial⟩, ⟨by omega, by omega⟩, ⟨by omega, by omega⟩, ⟨by omega, by omega⟩, fun σ62 e62 => ⟨⟨by omega, by omega⟩, (A.2.2.2.2.1 n).length - (j + 1), by omega, j + 1, by omega, rfl, by omega, fun j' hj' => ?_, fun x hx => ?_⟩⟩⟩
    · by_cases c : j' = j
      · subst c; rw [e62, sg_gw_e _ _ _ _ (sg_Rg _ _ _)]
      · rw [e62, sg_gw_k _ _ _ _ _ _ (by omega)]; exact a1 j' (by omega)
    · rw [e62, sg_gw_k _ _ _ _ _ _ (by omega)]; exact a2 x (by omega)
  · rintro σ28 f28 ⟨a1, a2⟩
    refine ⟨⟨by omega, by omega⟩, fun σ43 e43 σ46 e46 => ⟨q0, k σ46 ?_ (fun j hj => ?_) (fun x hx => ?_) ?_ (fun i hi => ?_) ?_⟩⟩
    · rw [e46, e43]; exact sg_F_w (sg_F_w (sg_F_m f28 rfl) rfl _) rfl _
    · rw [e46, sg_gw_c _ _ _ _ _ _ (by decide), e43, sg_gw_c _ _ _ _ _ _ (by decide)]; exact a1 j hj
    · rw [e46, sg_gw_c _ _ _ _ _ _ (by decide), e43, sg_gw_c _ _ _ _ _ _ (by decide)]; exact a2 x hx
    · rw [e46, sg_gw_c _ _ _ _ _ _ (by decide), e43, sg_gw_e _ _ _ _ ⟨by omega, by omega⟩]
    · rw [e46, sg_gw_c _ _ _ _ _ _ (by decide), e43, sg_gw_k _ _ _ _ _ _ hi, sg_F_ga f28 rfl]
    · rw [e46, sg_gw_e _ _ _ _ ⟨by omega, by omega⟩]
theorem gt_go {x : Int} {j : Nat} (hX : pgX σ A D T B) (hn : 0 ≤ n ∧ n < A.1) (f0 : 0 ≤ f ∧ f < 4000) (h1 : sg_g σ 126 f = n) (h2 : sg_g σ 127 f = s) (s0 : 0 ≤ s ∧ s ≤ 300) (hx : (A.2.2.2.2.1 n)[j]? = some x) (k : ∀ σ3, σ3 = sg_w σ 127 f (s + 1) → V_begin σ3 x (fun σ' => sg_F bgL σ3 σ' → Q σ')) : V_goPart σ f (j : Int) Q := by
  obtain ⟨t1, t2, t3, t4, t5⟩ := tr_k hX.1 hn
  have hA := hX.2.2.2.2.1
  have hj := gE_l hx
  unfold V_goPart
  rw [h1, h2, t4 j x hx]
  exact ⟨f0, ⟨by omega, by omega⟩, fun σ3 e3 => ⟨⟨by omega, by omega⟩, ⟨by omega, by omega⟩, ⟨by omega, by omega⟩, k σ3 e3⟩⟩
end GTS
