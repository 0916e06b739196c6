/-! THE NESTED RUN of the reference in big steps: what is kept. -/
section GDF
variable (A : aT) (D : List aDf) (T : Int → Int)
def rlR (σ : sg_S) (ρ : eV) (y : Int) : Prop := rvF σ (bTy A D T y).toNat (ρ y) (sg_g σ 134 y)
def scR (σ : sg_S) (ρ : eV) (sc : List (Int × Int)) : Prop := ∀ p ∈ sc, (0 ≤ p.1 ∧ p.1 < 1200) ∧ p.2 = bTy A D T p.1 ∧ rlR A D T σ ρ p.1
/-- between turns: frames, values, work -/
def gS (σb σ : sg_S) (fr b w : Int) : Prop := sg_F goL σb σ ∧ sg_g σ 88 73 = 0 ∧ (sg_g σ 88 62 = fr ∧ sg_g σ 88 70 = b ∧ sg_g σ 88 54 = w) ∧ (0 ≤ fr ∧ 0 ≤ b ∧ 0 ≤ sg_g σ 88 56 ∧ 0 ≤ sg_g σ 88 60) ∧ (0 ≤ w ∧ w ≤ 3000) ∧ sg_g σ 88 56 + fr ≤ w ∧ sg_g σ 88 60 ≤ w ∧ b + fr ≤ w
/-- the frame below -/
def gPa (σ : sg_S) (fr w : Int) : Prop := ¬ fr = 0 → (0 ≤ sg_g σ 126 (fr - 1) ∧ sg_g σ 126 (fr - 1) < 210) ∧ (0 ≤ sg_g σ 129 (fr - 1) ∧ sg_g σ 129 (fr - 1) ≤ w) ∧ (0 ≤ sg_g σ 131 (fr - 1) ∧ sg_g σ 131 (fr - 1) ≤ w)
def rw7 (σ σ' : sg_S) (i : Int) : Prop := sg_g σ' 126 i = sg_g σ 126 i ∧ sg_g σ' 127 i = sg_g σ 127 i ∧ sg_g σ' 128 i = sg_g σ 128 i ∧ sg_g σ' 129 i = sg_g σ 129 i ∧ sg_g σ' 130 i = sg_g σ 130 i ∧ sg_g σ' 131 i = sg_g σ 131 i ∧ sg_g σ' 132 i = sg_g σ 132 i
/-- what stays while a node is worked out -/
def gV (σ σ' : sg_S) (ρ ρ' : eV) (fr b : Int) : Prop := nEx σ σ' ∧ (∀ x, x < b → sg_g σ' 133 x = sg_g σ 133 x) ∧ (∀ y, rlR A D T σ ρ y → rlR A D T σ' ρ' y) ∧ ∀ i, i < fr → rw7 σ σ' i
/-- what a node leaves: its span goes to the frame below -/
def gU (σ σ' : sg_S) (ρ ρ' : eV) (fr b s : Int) : Prop := nEx σ σ' ∧ (∀ x, x < b → sg_g σ' 133 x = sg_g σ 133 x) ∧ (∀ y, rlR A D T σ ρ y → rlR A D T σ' ρ' y) ∧ (∀ i, i < fr - 1 → rw7 σ σ' i) ∧ (¬ fr = 0 → (sg_g σ' 126 (fr - 1) = sg_g σ 126 (fr - 1) ∧ sg_g σ' 127 (fr - 1) = sg_g σ 127 (fr - 1) ∧ sg_g σ' 128 (fr - 1) = sg_g σ 128 (fr - 1) ∧ sg_g σ' 130 (fr - 1) = sg_g σ 130 (fr - 1) ∧ sg_g σ' 132 (fr - 1) = sg_g σ 132 (fr - 1)) ∧ (v_isInPlaces σ (fr - 1) = 0 → sg_g σ' 129 (fr - 1) = sg_g σ 129 (fr - 1) + s ∧ sg_g σ' 131 (fr - 1) = sg_g σ 131 (fr - 1)) ∧ (¬ v_isInPlaces σ (fr - 1) = 0 → sg_g σ' 129 (fr - 1) = sg_g σ 129 (fr - 1) ∧ sg_g σ' 131 (fr - 1) = sg_g σ 131 (fr - 1) + s)) ∧ (fr = 0 → sg_g σ' 88 55 = s)
variable (σb : sg_S) (X : sg_S → Prop)
/-- what a node is to be followed by -/
def kG (σ : sg_S) (ρ : eV) (fr b cr : Int) (d : Nat) : eR → Prop
  | .inl (e, w') => ∀ σ', sg_F goL σb σ' → sg_g σ' 88 73 = e → ¬ e = 0 → sg_g σ' 88 54 = w' → X σ'
  | .inr (v, w', s', ρ') => ∀ σ' m', gS σb σ' fr (b + 1) w' → gU A D T σ σ' ρ ρ' fr b s' → rvF σ' d v (sg_g σ' 133 b) → 8 * (3001 - w') + cr + 3 ≤ ((m' : Nat) : Int) → Rx X m' σ'
/-- the big step of a node, from its begin on -/
def gxN (B : Int → Int) (call : Int → eV → Int → eR) (ds : kD) (f : Nat) : Prop := ∀ (n : Int) (sc : List (Int × Int)), tyN A ds T B f sc n → ∀ (σ : sg_S) (m : Nat) (ρ : eV) (fr b w cr : Int), gS σb σ fr b w → gPa σ fr w → scR A D T σ ρ sc → 8 * (3001 - w) + cr ≤ (m : Int) → 0 ≤ cr → kG A D T σb X σ ρ fr b cr (T n).toNat (evN A T B call f n ρ w) → ∀ Q : sg_S → Prop, (∀ σ', Rx X m σ' → Q σ') → V_begin σ n Q
end GDF
section GLM
variable {A : aT} {D : List aDf} {T B : Int → Int} {σb : sg_S} {X : sg_S → Prop}
theorem rw7_r (σ : sg_S) (i : Int) : rw7 σ σ i := ⟨rfl, rfl, rfl, rfl, rfl, rfl, rfl⟩
theorem rw7_t {σ σ1 σ2 : sg_S} {i : Int} (h : rw7 σ σ1 i) (g : rw7 σ1 σ2 i) : rw7 σ σ2 i := by
  obtain ⟨a1, a2, a3, a4, a5, a6, a7⟩ := h
  obtain ⟨b1, b2, b3, b4, b5, b6, b7⟩ := g
  exact ⟨b1.trans a1, b2.trans a2, b3.trans a3, b4.trans a4, b5.trans a5, b6.trans a6, b7.trans a7⟩
theorem gV_r (σ : sg_S) (ρ : eV) (fr b : Int) : gV A D T σ σ ρ ρ fr b := ⟨nEx_r σ, fun _ _ => rfl, fun _ h => h, fun i _ => rw7_r σ i⟩
theorem gV_t {σ σ1 σ2 : sg_S} {ρ ρ1 ρ2 : eV} {fr b fr1 b1 fr2 b2 : Int} (h : gV A D T σ σ1 ρ ρ1 fr1 b1) (g : gV A D T σ1 σ2 ρ1 ρ2 fr2 b2) (hf : fr ≤ fr1 ∧ fr ≤ fr2) (hb : b ≤ b1 ∧ b ≤ b2) : gV A D T σ σ2 ρ ρ2 fr b := by
  obtain ⟨a1, a2, a3, a4⟩ := h
  obtain ⟨c1, c2, c3, c4⟩ := g
  exact ⟨nEx_t a1 c1, fun x hx => by rw [c2 x (by omega), a2 x (by omega)], fun y hy => c3 y (a3 y hy), fun i hi => rw7_t (a4 i (by omega)) (c4 i (by omega))⟩
theorem rlR_up {σ σ' : sg_S} {ρ : eV} {y : Int} (h : rlR A D T σ ρ y) (x : nEx σ σ') (e : sg_g σ' 134 y = sg_g σ 134 y) : rlR A D T σ' ρ y := by
  unfold rlR
  rw [e]
  exact rvF_up x h
theorem gV_F {K : List Nat} {σ σ' : sg_S} {ρ : eV} {fr b : Int} (f : sg_F K σ σ') (hx : nEx σ σ') (hK : (sg_ca K 133 && sg_ca K 134 && sg_ca K 126 && sg_ca K 127 && sg_ca K 128 && sg_ca K 129 && sg_ca K 130 && sg_ca K 131 && sg_ca K 132) = true) : gV A D T σ σ' ρ ρ fr b := by
  simp only [Bool.and_eq_true] at hK
  obtain ⟨⟨⟨⟨⟨⟨⟨⟨k1, k2⟩, k3⟩, k4⟩, k5⟩, k6⟩, k7⟩, k8⟩, k9⟩ := hK
  exact ⟨hx, fun x _ => sg_F_ga f k1, fun y hy => rlR_up hy hx (sg_F_ga f k2), fun i _ => ⟨sg_F_ga f k3, sg_F_ga f k4, sg_F_ga f k5, sg_F_ga f k6, sg_F_ga f k7, sg_F_ga f k8, sg_F_ga f k9⟩⟩
theorem gU_V {σ σ' : sg_S} {ρ ρ' : eV} {fr b b' s : Int} (h : gU A D T σ σ' ρ ρ' (fr + 1) b s) (hb : b' ≤ b) : gV A D T σ σ' ρ ρ' fr b' := by
  obtain ⟨a1, a2, a3, a4, a5, a6⟩ := h
  exact ⟨a1, fun x hx => a2 x (by omega), a3, fun i hi => a4 i (by omega)⟩
theorem scR_u {σ σ' : sg_S} {ρ ρ' : eV} {fr b : Int} {sc : List (Int × Int)} (h : scR A D T σ ρ sc) (u : gV A D T σ σ' ρ ρ' fr b) : scR A D T σ' ρ' sc := fun p hp => by
  obtain ⟨a1, a2, a3⟩ := h p hp
  exact ⟨a1, a2, u.2.2.1 _ a3⟩
theorem gX (hX : pgX σb A D T B) {σ : sg_S} (f : sg_F goL σb σ) : pgX σ A D T B := pgX_F f rfl hX
/-- a write to a frame, or to what is bound -/
theorem gS_w {σ σ' : sg_S} {fr b w b' : Int} {K : List Nat} (h : gS σb σ fr b w) (f : sg_F K σ σ') (hK : (!sg_cv K 88 73 && !sg_cv K 88 62 && !sg_cv K 88 54 && !sg_cv K 88 56 && !sg_cv K 88 60) = true) (hg : sg_F goL σ σ') (hb : sg_g σ' 88 70 = b') (b0 : 0 ≤ b' ∧ b' ≤ b) : gS σb σ' fr b' w := by
  simp only [Bool.and_eq_true, Bool.not_eq_true'] at hK
  obtain ⟨⟨⟨⟨k1, k2⟩, k3⟩, k4⟩, k5⟩ := hK
  obtain ⟨a1, a2, ⟨a3, a4, a5⟩, a6, a7, a8, a9, a10⟩ := h
  refine ⟨sg_F_t a1 hg, by rw [sg_F_g f k1]; exact a2, ⟨by rw [sg_F_g f k2]; exact a3, hb, by rw [sg_F_g f k3]; exact a5⟩, ⟨a6.1, b0.1, by rw [sg_F_g f k4]; exact a6.2.2.1, by rw [sg_F_g f k5]; exact a6.2.2.2⟩, a7, by rw [sg_F_g f k4]; exact a8, by rw [sg_F_g f k5]; exact a9, by omega⟩
theorem gl_ip {σ σ2 : sg_S} {i : Int} (h : rw7 σ σ2 i) (f : sg_F goL σb σ) (f2 : sg_F goL σb σ2) : v_isInPlaces σ2 i = v_isInPlaces σ i := by
  obtain ⟨r1, r2, r3, r4, r5, r6, r7⟩ := h
  have e93 : ∀ x, sg_g σ2 93 x = sg_g σ 93 x := fun x => (sg_F_ga f2 rfl).trans (sg_F_ga f rfl).symm
  have e98 : ∀ x, sg_g σ2 98 x = sg_g σ 98 x := fun x => (sg_F_ga f2 rfl).trans (sg_F_ga f rfl).symm
  unfold v_isInPlaces
  rw [r1, r2, e93, e98]
/-- the end of a node: its value leaves -/
theorem gl_leave {σ σ2 : sg_S} {ρ ρ2 : eV} {fr b w n s sp v c cr K : Int} {d m : Nat} {vf : vaF} {Q : sg_S → Prop} (hX : pgX σb A D T B) (hσ : sg_F goL σb σ) (hn : 0 ≤ n ∧ n < A.1) (a1 : sg_F goL σb σ2) (a2 : sg_g σ2 88 73 = 0) (a3 : sg_g σ2 88 62 = fr + 1) (a5 : sg_g σ2 88 54 = w) (a6 : 0 ≤ fr ∧ 0 ≤ sg_g σ2 88 56 ∧ 0 ≤ sg_g σ2 88 60) (a7 : 0 ≤ w ∧ w ≤ 3000) (hb : 0 ≤ b) (hb2 : b + (fr + 1) ≤ w) (hT : gxT σ2 fr n s b sp) (hsp : 0 ≤ sp ∧ sp ≤ w) (hP : gPa σ fr w) (hV : gV A D T σ σ2 ρ ρ2 fr b) (hv : sg_R v) (hr : rvF σ2 d vf v) (hK : A.2.1 n = K) (hcs : cstF σ2 K v b c) (hc : 0 ≤ c ∧ c ≤ 8040200) (hsq : sg_g σ2 88 56 + fr ≤ w + c) (hit : sg_g σ2 88 60 ≤ w + c) (hm : 8 * (3001 - w) + cr + 3 ≤ (m : Int)) (k : kG A D T σb X σ ρ fr b cr d (if w + c ≤ 3000 then .inr (vf, w + c, sp, ρ2) else .inl (7, w))) (hQ : ∀ σ', Rx X m σ' → Q σ') : V_leave σ2 v Q := by
  have hX2 := gX hX a1
  have hA := hX.2.2.2.2.1
  obtain ⟨t1, t2, t3, t4⟩ := hT
  have k1 := (tr_k hX2.1 hn).1
  have frows : ∀ i, i < fr → rw7 σ σ2 i := hV.2.2.2
  refine x_leave (f := fr) (n := n) (b := b) (c := c) (w := w) (sp := sp) (K := K) a2 a5 a7 (by omega) ⟨by omega, by omega⟩ t1 ⟨hn.1, by omega⟩ t3 ⟨hb, by omega⟩ hv t4 ⟨hsp.1, by omega⟩ (by rw [k1]; exact hK) hcs hc (fun z => ?_) (fun z σ' y1 y2 y3 => hQ σ' ?_) (fun z σ' y1 y2 y3 y4 y5 y6 y7 y8 y9 y10 => hQ σ' ?_)
  · obtain ⟨q1, q2, q3⟩ := hP z
    obtain ⟨r1, r2, r3, r4, r5, r6, r7⟩ := frows (fr - 1) (by omega)
    rw [r1, r4, r6]
    exact ⟨q1, ⟨q2.1, by omega⟩, ⟨q3.1, by omega⟩⟩
  · rw [if_neg z] at k
    exact rx_s (by rw [y1]; decide) (k σ' (sg_F_t a1 (sg_F_m y3 rfl)) y1 (by decide) y2)
  · rw [if_pos z] at k
    have ex : nEx σ2 σ' := nEx_F y10 rfl
    have g56 : sg_g σ' 88 56 = sg_g σ2 88 56 := sg_F_g y10 (by rfl)
    have g60 : sg_g σ' 88 60 = sg_g σ2 88 60 := sg_F_g y10 (by rfl)
    refine k σ' m ⟨sg_F_t a1 (sg_F_m y10 rfl), y1, ⟨y6, y3, y2⟩, ⟨a6.1, by omega, by rw [g56]; exact a6.2.1, by rw [g60]; exact a6.2.2⟩, ⟨by omega, z⟩, by omega, by omega, by omega⟩ ⟨nEx_t hV.1 ex, fun x hx => by rw [y5 x (by omega)]; exact hV.2.1 x hx, fun y hy => rlR_up (hV.2.2.1 y hy) ex (sg_F_ga y10 rfl), fun i hi => ?_, fun z0 => ?_, y7⟩ (by rw [y4]; exact rvF_up ex hr) (by omega)
    · have q := frows i (by omega)
      obtain ⟨r4, r6⟩ := y8 i (by omega)
      exact rw7_t q ⟨sg_F_ga y10 rfl, sg_F_ga y10 rfl, sg_F_ga y10 rfl, r4, sg_F_ga y10 rfl, r6, sg_F_ga y10 rfl⟩
    · obtain ⟨r1, r2, r3, r4, r5, r6, r7⟩ := frows (fr - 1) (by omega)
      obtain ⟨q1, q2⟩ := y9 z0
      refine ⟨⟨by rw [sg_F_ga y10 rfl, r1], by rw [sg_F_ga y10 rfl, r2], by rw [sg_F_ga y10 rfl, r3], by rw [sg_F_ga y10 rfl, r5], by rw [sg_F_ga y10 rfl, r7]⟩, fun q => ?_, fun q => ?_⟩
      · obtain ⟨q3, q4⟩ := q1 (by rw [gl_ip (frows (fr - 1) (by omega)) hσ a1]; exact q)
        exact ⟨by rw [q3, r4], by rw [q4, r6]⟩
      · obtain ⟨q3, q4⟩ := q2 (by rw [gl_ip (frows (fr - 1) (by omega)) hσ a1]; exact q)
        exact ⟨by rw [q3, r4], by rw [q4, r6]⟩
end GLM
