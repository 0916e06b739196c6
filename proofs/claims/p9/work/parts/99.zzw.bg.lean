/-! THE NESTED RUN of the reference in big steps: parts, operations. -/
section GNR
variable {A : aT} {D : List aDf} {T B : Int → Int} {σb : sg_S} {X : sg_S → Prop} {call : Int → eV → Int → eR} {ds : kD} {f : Nat}
/-- BEGIN of a node: its frame -/
theorem gb_begin {σ : sg_S} {n fr b w : Int} {ρ : eV} {m : Nat} {Q : sg_S → Prop} (hS : gS σb σ fr b w) (hn : 0 ≤ n ∧ n < 210) (hQ : ∀ σ', Rx X m σ' → Q σ') (kF : ¬ w + 1 ≤ 3000 → ∀ σ', sg_F goL σb σ' → sg_g σ' 88 73 = 7 → ¬ (7 : Int) = 0 → sg_g σ' 88 54 = w → X σ') (kS : w + 1 ≤ 3000 → ∀ σ', gS σb σ' (fr + 1) b (w + 1) → gxT σ' fr n 0 b 1 → (sg_g σ' 130 fr = 0 ∧ sg_g σ' 131 fr = 0 ∧ sg_g σ' 132 fr = 0) → gV A D T σ σ' ρ ρ fr b → Rx X m σ') : V_begin σ n Q := by
  obtain ⟨a1, a2, ⟨a3, a4, a5⟩, a6, a7, a8, a9, a10⟩ := id hS
  refine x_begin a2 a5 a7 ⟨by omega, by omega⟩ (by rw [a3]; exact ⟨a6.1, by omega⟩) (fun z σ' y1 y2 y3 => hQ σ' ?_) (fun z σ' y1 y2 y3 y4 y5 y6 => hQ σ' ?_)
  · exact rx_s (by rw [y1]; decide) (kF z σ' (sg_F_t a1 (sg_F_m y3 rfl)) y1 (by decide) y2)
  · rw [a3] at y3 y4 y5
    rw [a4] at y4
    have ex : nEx σ σ' := nEx_F y6 rfl
    have g56 : sg_g σ' 88 56 = sg_g σ 88 56 := sg_F_g y6 (by rfl)
    have g60 : sg_g σ' 88 60 = sg_g σ 88 60 := sg_F_g y6 (by rfl)
    obtain ⟨q1, q2, q3, q4, q5, q6, q7⟩ := y4
    exact kS z σ' ⟨sg_F_t a1 (sg_F_m y6 rfl), y1, ⟨y3, by rw [sg_F_g y6 (by rfl)]; exact a4, y2⟩, ⟨by omega, a6.2.1, by rw [g56]; exact a6.2.2.1, by rw [g60]; exact a6.2.2.2⟩, ⟨by omega, z⟩, by omega, by omega, by omega⟩ ⟨q1, q2, q3, q4⟩ ⟨q5, q6, q7⟩ ⟨ex, fun x _ => sg_F_ga y6 rfl, fun y hy => rlR_up hy ex (sg_F_ga y6 rfl), fun i hi => y5 i (by omega)⟩
/-- what parts are to be followed by -/
def kGr (A : aT) (D : List aDf) (T : Int → Int) (σb : sg_S) (X : sg_S → Prop) (σ : sg_S) (ρ : eV) (n fr b sp cr : Int) (st : Nat) (ks R : List Int) : eRs → Prop
  | .inl (e, w') => ∀ σ', sg_F goL σb σ' → sg_g σ' 88 73 = e → ¬ e = 0 → sg_g σ' 88 54 = w' → X σ'
  | .inr (vs, w', s', ρ') => ∀ σ' m', vs.length = R.length → gS σb σ' (fr + 1) (b + st + R.length) w' → gxT σ' fr n (st + R.length : Nat) b (sp + s') → (0 ≤ sp + s' ∧ sp + s' ≤ w') → (sg_g σ' 130 fr = sg_g σ 130 fr ∧ sg_g σ' 131 fr = sg_g σ 131 fr ∧ sg_g σ' 132 fr = sg_g σ 132 fr) → gV A D T σ σ' ρ ρ' fr (b + st) → (∀ (i : Nat) (x : Int) (v : vaF), R[i]? = some x → vs[i]? = some v → rvF σ' (T x).toNat v (sg_g σ' 133 (b + st + i))) → 8 * (3001 - w') + cr ≤ ((m' : Nat) : Int) → Rx X m' σ'
theorem ip_0 {σ : sg_S} {n : Int} {i s b sp : Int} (hX : pgX σ A D T B) (hn : 0 ≤ n ∧ n < A.1) (h : gxT σ i n s b sp) (hk : ¬ A.2.1 n = 15 ∨ s ≤ (A.2.2.2.2.2 n).length) : v_isInPlaces σ i = 0 := by
  obtain ⟨h1, h2, h3, h4⟩ := h
  obtain ⟨t1, t2, t3, t4, t5⟩ := tr_k hX.1 hn
  unfold v_isInPlaces
  rw [h1, h2, t1, t5]
  by_cases c : A.2.1 n = 15
  · rw [if_neg (fun z => z c)]
    rcases hk with z | z
    · exact absurd c z
    · rw [if_pos z]
  · rw [if_pos c]
/-- parts st .. of node n, in order; part number off + st of its kids -/
theorem gRow (hX : pgX σb A D T B) (hcB : gB (evN A T B call f)) (F : gxN A D T σb X B call ds f) {n : Int} {sc : List (Int × Int)} {off : Nat} (hn : 0 ≤ n ∧ n < A.1) (go : ∀ (σ : sg_S) (st : Nat) (b sp fr x : Int) (Q : sg_S → Prop), pgX σ A D T B → sg_g σ 88 62 = fr + 1 → 0 ≤ fr ∧ fr < 4000 → gxT σ fr n st b sp → (A.2.1 n = 15 → st < (A.2.2.2.2.2 n).length) → (A.2.2.2.2.1 n)[off + st]? = some x → (∀ σ3, σ3 = sg_w σ 127 fr (st + 1) → ∀ Q' : sg_S → Prop, (∀ σ', Q σ' → Q' σ') → V_begin σ3 x Q') → V_goNested σ (fun σ' => sg_F goL σ σ' → Q σ')) : ∀ (R : List Int) (st : Nat), (∀ (i : Nat) (x : Int), R[i]? = some x → (A.2.2.2.2.1 n)[off + (st + i)]? = some x) → (A.2.1 n = 15 → st + R.length ≤ (A.2.2.2.2.2 n).length) → (∀ x ∈ R, tyN A ds T B f sc x) → ∀ (σ : sg_S) (m : Nat) (ρ : eV) (fr b w sp cr : Int), gS σb σ (fr + 1) (b + st) w → 0 ≤ fr → 0 ≤ b → gxT σ fr n st b sp → (0 ≤ sp ∧ sp ≤ w) → (0 ≤ sg_g σ 131 fr ∧ sg_g σ 131 fr ≤ w) → scR A D T σ ρ sc → 8 * (3001 - w) + cr ≤ (m : Int) → 1 ≤ cr → kGr A D T σb X σ ρ n fr b sp cr st (A.2.2.2.2.1 n) R (eS (evN A T B call f) R ρ w) → Rx X m σ
  | [], st, hR, h15, hty, σ, m, ρ, fr, b, w, sp, cr, hS, f0, b0, hT, hsp, h131, hs, hm, hcr, k => by
    simp only [eS, kGr, List.length_nil, Int.ofNat_zero, Int.cast_ofNat_Int, Int.add_zero, Nat.add_zero] at k
    exact k σ m trivial hS hT hsp ⟨rfl, rfl, rfl⟩ (gV_r σ ρ _ _) (fun i x v hx => by simp at hx) hm
  | x :: R, st, hR, h15, hty, σ, m, ρ, fr, b, w, sp, cr, hS, f0, b0, hT, hsp, h131, hs, hm, hcr, k => by
    obtain ⟨a1, a2, ⟨a3, a4, a5⟩, a6, a7, a8, a9, a10⟩ := id hS
    have hXσ := gX hX a1
    have hA := hX.2.2.2.2.1
    obtain ⟨m, rfl⟩ : ∃ m', m = m' + 1 := ⟨m - 1, by omega⟩
    refine rx_g (by omega) a2 (fun Qz hz => go σ st b sp fr x Qz hXσ a3 ⟨f0, by omega⟩ hT (fun c => by have := h15 c; simp only [List.length_cons] at this; omega) (by have := hR 0 x rfl; rw [Nat.add_zero] at this; exact this) (fun σ3 e3 Q' hQ' => ?_))
    have f3 : sg_F [127] σ σ3 := by rw [e3]; exact sg_F_w (sg_F_r _ _) rfl _
    have S3 : gS σb σ3 (fr + 1) (b + st) w := gS_w hS f3 rfl (sg_F_m f3 rfl) (by rw [sg_F_g f3 (by rfl)]; exact a4) ⟨by omega, Int.le_refl _⟩
    have o127 : ∀ i, ¬ i = fr → sg_g σ3 127 i = sg_g σ 127 i := fun i hi => by rw [e3, sg_gw_k _ _ _ _ _ _ hi]
    have stb : st ≤ 200 := by
      have := gE_l (hR 0 x rfl)
      have := (tr_k hX.1 hn).2.2.1
      omega
    have T3 : gxT σ3 fr n (st + 1 : Nat) b sp := ⟨by rw [sg_F_ga f3 rfl]; exact hT.1, by rw [e3, sg_gw_e _ _ _ _ ⟨by omega, by omega⟩]; omega, by rw [sg_F_ga f3 rfl]; exact hT.2.2.1, by rw [sg_F_ga f3 rfl]; exact hT.2.2.2⟩
    have V3 : gV A D T σ σ3 ρ ρ fr (b + st) := ⟨nEx_F f3 rfl, fun y _ => sg_F_ga f3 rfl, fun y hy => rlR_up hy (nEx_F f3 rfl) (sg_F_ga f3 rfl), fun i hi => ⟨sg_F_ga f3 rfl, o127 i (by omega), sg_F_ga f3 rfl, sg_F_ga f3 rfl, sg_F_ga f3 rfl, sg_F_ga f3 rfl, sg_F_ga f3 rfl⟩⟩
    have X3 := gX hX S3.1
    refine F x sc (hty x (by simp)) σ3 m ρ (fr + 1) (b + st) w (cr - 1) S3 (fun _ => ?_) (scR_u hs V3) (by omega) (by omega) ?_ Q' (fun σ' h => hQ' σ' (hz σ' h))
    · rw [show fr + 1 - 1 = fr by omega, T3.1, T3.2.2.2, sg_F_ga f3 rfl]
      exact ⟨⟨hn.1, by omega⟩, hsp, h131⟩
    · have bnd := hcB x ρ w
      simp only [eS] at k
      generalize evN A T B call f x ρ w = r at k bnd
      match r, k, bnd with
      | .inl (e, w'), k, _ => exact k
      | .inr (v, w1, s1, ρ1), k, bnd =>
        intro σ4 m4 S4 U4 v4 hm4
        have bb := bnd v w1 s1 ρ1 a7.2 rfl
        simp only at k
        have ip := ip_0 X3 hn T3 (by
          by_cases c : A.2.1 n = 15
          · right
            have := h15 c
            simp only [List.length_cons] at this
            omega
          · exact Or.inl c)
        obtain ⟨u1, u2, u3, u4, u5, u6⟩ := id U4
        rw [show fr + 1 - 1 = fr by omega] at u5
        obtain ⟨⟨w1', w2', w3', w4', w5'⟩, w6, w7⟩ := u5 (by omega)
        obtain ⟨w8, w9⟩ := w6 ip
        have T4 : gxT σ4 fr n (st + 1 : Nat) b (sp + s1) := ⟨by rw [w1']; exact T3.1, by rw [w2']; exact T3.2.1, by rw [w3']; exact T3.2.2.1, by rw [w8, T3.2.2.2]⟩
        have V4 : gV A D T σ σ4 ρ ρ1 fr (b + st) := gV_t V3 (gU_V (b' := b + st) U4 (Int.le_refl _)) ⟨Int.le_refl _, Int.le_refl _⟩ ⟨Int.le_refl _, Int.le_refl _⟩
        have r131 : sg_g σ4 131 fr = sg_g σ 131 fr := by rw [w9, sg_F_ga f3 rfl]
        refine gRow hX hcB F hn go R (st + 1) (fun i y hy => ?_) (fun c => by have := h15 c; simp only [List.length_cons] at this; omega) (fun y hy => hty y (by simp [hy])) σ4 m4 ρ1 fr b w1 (sp + s1) cr (by rw [show b + ((st + 1 : Nat) : Int) = b + st + 1 by omega]; exact S4) f0 b0 T4 ⟨by omega, by omega⟩ (by rw [r131]; exact ⟨h131.1, by omega⟩) (scR_u hs V4) (by omega) hcr ?_
        · have := hR (i + 1) y hy
          rw [show off + (st + (i + 1)) = off + (st + 1 + i) by omega] at this
          exact this
        · generalize eS (evN A T B call f) R ρ1 w1 = r2 at k
          match r2, k with
          | .inl (e, w'), k => exact k
          | .inr (vs, w2, s2, ρ2), k =>
            intro σ5 m5 l5 S5 T5 sp5 r5 V5 v5 hm5
            refine k σ5 m5 (by simp only [List.length_cons]; omega) ?_ ?_ ⟨by omega, by omega⟩ ⟨by rw [r5.1, w4', sg_F_ga f3 rfl], by rw [r5.2.1, r131], by rw [r5.2.2, w5', sg_F_ga f3 rfl]⟩ (gV_t V4 V5 ⟨Int.le_refl _, Int.le_refl _⟩ ⟨Int.le_refl _, by omega⟩) (fun i y v' hy hv' => ?_) hm5
            · simp only [List.length_cons]
              rw [show b + (st : Int) + ((R.length + 1 : Nat) : Int) = b + ((st + 1 : Nat) : Int) + R.length by omega]
              exact S5
            · simp only [List.length_cons]
              rw [show st + (R.length + 1) = st + 1 + R.length by omega, show sp + (s1 + s2) = sp + s1 + s2 by omega]
              exact T5
            · cases i with
              | zero =>
                simp only [List.getElem?_cons_zero, Option.some.injEq] at hy hv'
                subst hy hv'
                simp only [Int.ofNat_zero, Int.cast_ofNat_Int, Int.add_zero]
                rw [V5.2.1 _ (by omega)]
                exact rvF_up V5.1 v4
              | succ i =>
                simp only [List.getElem?_cons_succ] at hy hv'
                have := v5 i y v' hy hv'
                rw [show b + ((st + 1 : Nat) : Int) + (i : Int) = b + (st : Int) + ((i + 1 : Nat) : Int) by omega] at this
                exact this
theorem go_op {n : Int} (hn : 0 ≤ n ∧ n < A.1) (k15 : ¬ A.2.1 n = 15) (k3 : ¬ A.2.1 n = 3) (k2 : ¬ A.2.1 n = 2) (σ : sg_S) (st : Nat) (b sp fr x : Int) (Q : sg_S → Prop) (hX : pgX σ A D T B) (hf : sg_g σ 88 62 = fr + 1) (f0 : 0 ≤ fr ∧ fr < 4000) (hT : gxT σ fr n st b sp) (_ : A.2.1 n = 15 → st < (A.2.2.2.2.2 n).length) (hx : (A.2.2.2.2.1 n)[0 + st]? = some x) (k : ∀ σ3, σ3 = sg_w σ 127 fr (st + 1) → ∀ Q' : sg_S → Prop, (∀ σ', Q σ' → Q' σ') → V_begin σ3 x Q') : V_goNested σ (fun σ' => sg_F goL σ σ' → Q σ') := by
  rw [Nat.zero_add] at hx
  have hl := gE_l hx
  have h200 := (tr_k hX.1 hn).2.2.1
  exact gt_part hX hn hf f0 hT k15 (fun z => k2 z.1) (fun z => absurd z k3) (by omega) (gt_go hX hn f0 hT.1 hT.2.1 ⟨by omega, by omega⟩ hx (fun σ3 e3 => k σ3 e3 _ (fun σ' hq _ _ _ => hq)))
end GNR
