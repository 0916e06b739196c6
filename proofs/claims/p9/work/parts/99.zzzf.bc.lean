/-! THE FLAT RUN of the reference in big steps: what is kept. -/
section BCD
variable (A : aT) (D : List aDf) (T : Int → Int)
/-- what y is bound to -/
def rlF (σ : sg_S) (ρ : fEv) (y : Int) : Prop := ∃ R, fX σ 6000 (sg_g σ 134 y) (bTy A D T y).toNat (ρ y) R
/-- a scope in m lanes -/
def scFX (σ : sg_S) (ρ : fEv) (m : Nat) (sc : List (Int × Int)) : Prop := ∀ p ∈ sc, (0 ≤ p.1 ∧ p.1 < 1200) ∧ p.2 = bTy A D T p.1 ∧ rlF A D T σ ρ p.1 ∧ (ρ p.1).length = m
/-- between turns -/
def fSs (σb σ : sg_S) (fr b sv : Int) (s : fSt) : Prop := sg_F flL σb σ ∧ sg_g σ 88 73 = 0 ∧ (sg_g σ 88 62 = fr ∧ sg_g σ 88 70 = b ∧ sg_g σ 88 99 = sv) ∧ fcX σ s ∧ fN σ
/-- the same, with room for a few values more -/
def fSw (σb σ : sg_S) (fr b sv : Int) (s : fSt) : Prop := sg_F flL σb σ ∧ sg_g σ 88 73 = 0 ∧ (sg_g σ 88 62 = fr ∧ sg_g σ 88 70 = b ∧ sg_g σ 88 99 = sv) ∧ fcX σ s ∧ fNw σ
def rw6 (σ σ' : sg_S) (i : Int) : Prop := sg_g σ' 126 i = sg_g σ 126 i ∧ sg_g σ' 127 i = sg_g σ 127 i ∧ sg_g σ' 128 i = sg_g σ 128 i ∧ sg_g σ' 145 i = sg_g σ 145 i ∧ sg_g σ' 146 i = sg_g σ 146 i ∧ sg_g σ' 147 i = sg_g σ 147 i
/-- what stays while a node is worked out -/
def fKp (σ σ' : sg_S) (ρ ρ' : fEv) (fr b sv : Int) : Prop := fEx σ σ' ∧ (∀ x, x < b → sg_g σ' 133 x = sg_g σ 133 x) ∧ (∀ y, rlF A D T σ ρ y → rlF A D T σ' ρ' y) ∧ (∀ i, i < fr → rw6 σ σ' i) ∧ ∀ i, i < sv → sg_g σ' 148 i = sg_g σ 148 i ∧ sg_g σ' 149 i = sg_g σ 149 i
variable (σb : sg_S) (X : sg_S → Prop)
/-- what a node is to be followed by -/
def kF (σ : sg_S) (ρ : fEv) (fr b sv : Int) (d : Nat) : fRs → Prop
  | .inl (e, s') => ∀ σ', sg_F flL σb σ' → sg_g σ' 88 73 = e → ¬ e = 0 → fcX σ' s' → X σ'
  | .inr (v, s', ρ') => ∀ σ' m', fSs σb σ' fr (b + 1) sv s' → fKp A D T σ σ' ρ ρ' fr b sv → (∃ R, fX σ' 6000 (sg_g σ' 133 b) d v R) → 2 * (2000 - s'.1) + fr ≤ ((m' : Nat) : Int) → Rf X m' σ'
/-- the big step of a node, from its begin on -/
def gfN (B : Int → Int) (lev : Int → Nat) (O : Int → Nat → List Int) (call : Int → Nat → fEv → fSt → fRs) (j f : Nat) : Prop := ∀ (n : Int) (L : List Int) (sc : List (Int × Int)), stN A D T B lev j f L sc n → ∀ (σ : sg_S) (m l : Nat) (ρ : fEv) (fr b sv : Int) (s : fSt), fSw σb σ fr b sv s → l ≤ 6000 → scFX A D T σ ρ l sc → 2 * (2000 - s.1) + fr ≤ (m : Int) + 1 → kF A D T σb X σ ρ fr b sv (T n).toNat (fxN A D T B O call f n l ρ s) → ∀ Q : sg_S → Prop, (∀ σ', Rf X m σ' → Q σ') → V_flatBegin σ n (l : Int) Q
end BCD
section BCL
variable {A : aT} {D : List aDf} {T B : Int → Int} {σb : sg_S} {X : sg_S → Prop}
theorem rw6_r (σ : sg_S) (i : Int) : rw6 σ σ i := ⟨rfl, rfl, rfl, rfl, rfl, rfl⟩
theorem rw6_t {σ σ1 σ2 : sg_S} {i : Int} (h : rw6 σ σ1 i) (g : rw6 σ1 σ2 i) : rw6 σ σ2 i := by
  obtain ⟨a1, a2, a3, a4, a5, a6⟩ := h
  obtain ⟨b1, b2, b3, b4, b5, b6⟩ := g
  exact ⟨b1.trans a1, b2.trans a2, b3.trans a3, b4.trans a4, b5.trans a5, b6.trans a6⟩
theorem rw6_F {L : List Nat} {σ σ' : sg_S} (f : sg_F L σ σ') (hL : (sg_ca L 126 && sg_ca L 127 && sg_ca L 128 && sg_ca L 145 && sg_ca L 146 && sg_ca L 147) = true) (i : Int) : rw6 σ σ' i := by
  simp only [Bool.and_eq_true] at hL
  obtain ⟨⟨⟨⟨⟨l1, l2⟩, l3⟩, l4⟩, l5⟩, l6⟩ := hL
  exact ⟨sg_F_ga f l1, sg_F_ga f l2, sg_F_ga f l3, sg_F_ga f l4, sg_F_ga f l5, sg_F_ga f l6⟩
theorem rlF_up {σ σ' : sg_S} {ρ ρ' : fEv} {y : Int} (h : rlF A D T σ ρ y) (x : fEx σ σ') (e : sg_g σ' 134 y = sg_g σ 134 y) (e2 : ρ' y = ρ y) : rlF A D T σ' ρ' y := by
  obtain ⟨R, h⟩ := h
  unfold rlF
  rw [e, e2]
  exact ⟨R, fX_up x h⟩
theorem fKp_r (σ : sg_S) (ρ : fEv) (fr b sv : Int) : fKp A D T σ σ ρ ρ fr b sv := ⟨fEx_r σ, fun _ _ => rfl, fun _ h => h, fun i _ => rw6_r σ i, fun _ _ => ⟨rfl, rfl⟩⟩
theorem fKp_t {σ σ1 σ2 : sg_S} {ρ ρ1 ρ2 : fEv} {fr b sv fr1 b1 sv1 fr2 b2 sv2 : Int} (h : fKp A D T σ σ1 ρ ρ1 fr1 b1 sv1) (g : fKp A D T σ1 σ2 ρ1 ρ2 fr2 b2 sv2) (hf : fr ≤ fr1 ∧ fr ≤ fr2) (hb : b ≤ b1 ∧ b ≤ b2) (hs : sv ≤ sv1 ∧ sv ≤ sv2) : fKp A D T σ σ2 ρ ρ2 fr b sv := by
  obtain ⟨a1, a2, a3, a4, a5⟩ := h
  obtain ⟨c1, c2, c3, c4, c5⟩ := g
  refine ⟨fEx_t a1 c1, fun x hx => by rw [c2 x (by omega), a2 x (by omega)], fun y hy => c3 y (a3 y hy), fun i hi => rw6_t (a4 i (by omega)) (c4 i (by omega)), fun i hi => ?_⟩
  obtain ⟨p1, p2⟩ := a5 i (by omega)
  obtain ⟨q1, q2⟩ := c5 i (by omega)
  exact ⟨q1.trans p1, q2.trans p2⟩
/-- a write elsewhere -/
theorem fKp_F {L : List Nat} {σ σ' : sg_S} {ρ : fEv} {fr b sv : Int} (f : sg_F L σ σ') (hL : (sg_ca L 133 && sg_ca L 134 && sg_ca L 148 && sg_ca L 149) = true) (ex : fEx σ σ') (hr : ∀ i, i < fr → rw6 σ σ' i) : fKp A D T σ σ' ρ ρ fr b sv := by
  simp only [Bool.and_eq_true] at hL
  obtain ⟨⟨⟨l1, l2⟩, l3⟩, l4⟩ := hL
  exact ⟨ex, fun x _ => sg_F_ga f l1, fun y hy => rlF_up hy ex (sg_F_ga f l2) rfl, hr, fun i _ => ⟨sg_F_ga f l3, sg_F_ga f l4⟩⟩
theorem scFX_u {σ σ' : sg_S} {ρ ρ' : fEv} {fr b sv : Int} {m : Nat} {sc : List (Int × Int)} (h : scFX A D T σ ρ m sc) (u : fKp A D T σ σ' ρ ρ' fr b sv) (hk : ∀ p ∈ sc, ρ' p.1 = ρ p.1) : scFX A D T σ' ρ' m sc := fun p hp => by
  obtain ⟨a1, a2, a3, a4⟩ := h p hp
  exact ⟨a1, a2, u.2.2.1 _ a3, by rw [hk p hp]; exact a4⟩
theorem gFX (hX : pgX σb A D T B) {σ : sg_S} (f : sg_F flL σb σ) : pgX σ A D T B := pgX_F f rfl hX
theorem fS_b {σ : sg_S} {fr b sv : Int} {s : fSt} (h : fSs σb σ fr b sv s) : (0 ≤ fr ∧ fr ≤ 2000) ∧ (0 ≤ b ∧ b + fr ≤ 2000) ∧ (0 ≤ sv ∧ sv ≤ 2000) ∧ (0 ≤ s.1 ∧ s.1 ≤ 2000) ∧ b + fr ≤ s.1 ∧ sv ≤ s.1 := by
  obtain ⟨-, -, ⟨a3, a4, a5⟩, ⟨c1, c2, c3, c4, c5⟩, ⟨⟨i1, i2, i3, i4, i5⟩, hB, n1, n2, n3⟩⟩ := h
  exact ⟨⟨by omega, by omega⟩, ⟨by omega, by omega⟩, ⟨by omega, by omega⟩, c4, by omega, by omega⟩
theorem fS_wk {σ : sg_S} {fr b sv : Int} {s : fSt} (h : fSs σb σ fr b sv s) : fSw σb σ fr b sv s := ⟨h.1, h.2.1, h.2.2.1, h.2.2.2.1, fN_w h.2.2.2.2⟩
theorem fS_bw {σ : sg_S} {fr b sv : Int} {s : fSt} (h : fSw σb σ fr b sv s) : (0 ≤ fr ∧ fr ≤ 2000) ∧ (0 ≤ b ∧ b + fr ≤ 2000) ∧ (0 ≤ sv ∧ sv ≤ 2000) ∧ (0 ≤ s.1 ∧ s.1 ≤ 2000) ∧ b + fr ≤ s.1 ∧ sv ≤ s.1 := by
  obtain ⟨-, -, ⟨a3, a4, a5⟩, ⟨c1, c2, c3, c4, c5⟩, ⟨⟨i1, i2, i3, i4, i5⟩, hB, n1, n2, n3⟩⟩ := h
  exact ⟨⟨by omega, by omega⟩, ⟨by omega, by omega⟩, ⟨by omega, by omega⟩, c4, by omega, by omega⟩
theorem fS_h {σ : sg_S} {fr b sv : Int} {s : fSt} (h : fSs σb σ fr b sv s) : sg_g σ 88 87 + sg_g σ 88 62 ≤ 8 * sg_g σ 88 84 + 1 := by
  obtain ⟨-, -, -, -, ⟨⟨i1, i2, i3, i4, i5⟩, -⟩⟩ := h
  omega
theorem fS_c {σ : sg_S} {fr b sv : Int} {s : fSt} (h : fSs σb σ fr b sv s) : fC σ := by
  obtain ⟨-, -, -, -, ⟨⟨i1, i2, i3, i4, i5⟩, -⟩⟩ := h
  exact ⟨i1, i2, i3, by omega, by omega⟩
/-- a write to a frame, to what is bound, or to where values end -/
theorem fS_w {σ σ' : sg_S} {fr b sv b' : Int} {s : fSt} {K : List Nat} (h : fSs σb σ fr b sv s) (f : sg_F K σ σ') (hK : (!sg_cv K 88 84 && !sg_cv K 88 85 && !sg_cv K 88 91 && !sg_cv K 88 87 && !sg_cv K 88 99 && !sg_cv K 88 62 && sg_ca K 148) = true) (hK2 : (!sg_cv K 88 73 && !sg_cv K 88 86) = true) (hg : sg_F flL σ σ') (hb : sg_g σ' 88 70 = b') (b0 : 0 ≤ b' ∧ b' ≤ b) : fSs σb σ' fr b' sv s := by
  obtain ⟨a1, a2, ⟨a3, a4, a5⟩, c, hN⟩ := h
  have N := fN_F f hK (by omega) hN
  simp only [Bool.and_eq_true, Bool.not_eq_true'] at hK hK2
  obtain ⟨⟨⟨⟨⟨⟨l1, l2⟩, l3⟩, l4⟩, l5⟩, l6⟩, l7⟩ := hK
  exact ⟨sg_F_t a1 hg, by rw [sg_F_g f hK2.1]; exact a2, ⟨by rw [sg_F_g f l6]; exact a3, hb, by rw [sg_F_g f l5]; exact a5⟩, fcX_F f (by rw [l1, l2, hK2.2]; rfl) c, N⟩
/-- BEGIN of a node: its frame -/
theorem gfb_begin {σ : sg_S} {n fr b sv : Int} {s : fSt} {ρ : fEv} {m l : Nat} {Q : sg_S → Prop} (hS : fSw σb σ fr b sv s) (hn : 0 ≤ n ∧ n < 210) (hl : l ≤ 6000) (hQ : ∀ σ', Rf X m σ' → Q σ') (kX : fBg l s = none → ∀ σ', sg_F flL σb σ' → sg_g σ' 88 73 = 8 → ¬ (8 : Int) = 0 → fcX σ' s → X σ') (kS : ∀ s1, fBg l s = some s1 → s1.1 = s.1 + 1 → s1.2.1 = s.2.1 → ∀ σ', fSs σb σ' (fr + 1) b sv s1 → gfT σ' fr n 0 b l sv → fKp A D T σ σ' ρ ρ fr b sv → (∀ x, sg_g σ' 133 x = sg_g σ 133 x) → Rf X m σ') : V_flatBegin σ n (l : Int) Q := by
  have bb := fS_bw hS
  obtain ⟨a1, a2, ⟨a3, a4, a5⟩, c, hN⟩ := id hS
  refine m_fBeginX c (by omega) ⟨by omega, by omega⟩ hl (fun z σ' y1 y2 y3 => hQ σ' ?_) (fun s1 z σ' y1 y2 y3 y4 y5 => hQ σ' ?_)
  · exact rf_s (by rw [y1]; decide) (kX z σ' (sg_F_t a1 (sg_F_m y3 rfl)) y1 (by decide) y2)
  · rw [a3] at y2 y3 y4
    rw [a4, a5] at y3
    have ex : fEx σ σ' := fEx_F y5 rfl
    have es : s1.1 = s.1 + 1 ∧ s1.2.1 = s.2.1 := by
      unfold fBg at z
      cases e : fStp 0 s with
      | none => rw [e] at z; cases z
      | some s0 =>
        rw [e] at z
        obtain ⟨z1, z2, -⟩ := fStp_s e
        cases z
        exact ⟨z1, by simp only; omega⟩
    obtain ⟨hI, hB, n1, n2, n3⟩ := hN
    obtain ⟨i1, i2, i3, i4, i5⟩ := hI
    have g84 := y1.1
    have g85 := y1.2.1
    have o84 := c.1
    have o85 := c.2.1
    have c4 := y1.2.2.2.1
    have c5 := y1.2.2.2.2
    have g70 : sg_g σ' 88 70 = sg_g σ 88 70 := sg_F_g y5 (by rfl)
    have g91 : sg_g σ' 88 91 = sg_g σ 88 91 := sg_F_g y5 (by rfl)
    have g87 : sg_g σ' 88 87 = sg_g σ 88 87 := sg_F_g y5 (by rfl)
    have g99 : sg_g σ' 88 99 = sg_g σ 88 99 := sg_F_g y5 (by rfl)
    refine kS s1 z es.1 es.2 σ' ⟨sg_F_t a1 (sg_F_m y5 rfl), by rw [sg_F_g y5 (by rfl)]; exact a2, ⟨y2, by omega, by omega⟩, y1, ⟨⟨by omega, by omega⟩, ⟨by omega, by omega⟩, ⟨by omega, by omega⟩, ⟨by omega, by omega, by omega⟩, by omega, by omega⟩, fun i x y => by rw [sg_F_ga y5 rfl]; exact hB i x (by omega), by omega, by omega, by omega⟩ y3 (fKp_F y5 rfl ex (fun i hi => ?_)) (fun x => sg_F_ga y5 rfl)
    obtain ⟨d1, d2, d3, d4, d5⟩ := y4 i (by omega)
    exact ⟨d1, d2, d3, d4, d5, sg_F_ga y5 rfl⟩
/-- the end of a node: its value leaves -/
theorem gfl_leave {σ σ2 : sg_S} {ρ ρ2 : fEv} {fr b b2 sv v : Int} {s : fSt} {d m : Nat} {vf : List vaF} {Q : sg_S → Prop} (hS : fSw σb σ2 (fr + 1) b2 sv s) (hw : sg_g σ2 88 87 + sg_g σ2 88 62 ≤ 8 * sg_g σ2 88 84 + 1) (hb : 0 ≤ b ∧ b ≤ b2) (h128 : sg_g σ2 128 fr = b) (f0 : 0 ≤ fr) (hV : fKp A D T σ σ2 ρ ρ2 fr b sv) (hv : sg_R v) (hr : ∃ R, fX σ2 6000 v d vf R) (hm : 2 * (2000 - s.1) + fr ≤ (m : Int)) (k : kF A D T σb X σ ρ fr b sv d (.inr (vf, s, ρ2))) (hQ : ∀ σ', Rf X m σ' → Q σ') : V_flatLeave σ2 v Q := by
  have bb := fS_bw hS
  obtain ⟨a1, a2, ⟨a3, a4, a5⟩, c, hN⟩ := id hS
  refine m_fLeaveX (f := fr) (b := b) a3 ⟨f0, by omega⟩ h128 ⟨by omega, by omega⟩ hv (fun σ' y1 y2 y3 y4 y5 => hQ σ' ?_)
  have ex : fEx σ2 σ' := fEx_F y5 rfl
  obtain ⟨hI, hB, n1, n2, n3⟩ := hN
  obtain ⟨i1, i2, i3, i4, i5⟩ := hI
  have g84 : sg_g σ' 88 84 = sg_g σ2 88 84 := sg_F_g y5 (by rfl)
  have g85 : sg_g σ' 88 85 = sg_g σ2 88 85 := sg_F_g y5 (by rfl)
  have g91 : sg_g σ' 88 91 = sg_g σ2 88 91 := sg_F_g y5 (by rfl)
  have g87 : sg_g σ' 88 87 = sg_g σ2 88 87 := sg_F_g y5 (by rfl)
  have g99 : sg_g σ' 88 99 = sg_g σ2 88 99 := sg_F_g y5 (by rfl)
  obtain ⟨R, hR⟩ := hr
  refine k σ' m ⟨sg_F_t a1 (sg_F_m y5 rfl), by rw [sg_F_g y5 (by rfl)]; exact a2, ⟨y1, y2, by omega⟩, fcX_F y5 rfl c, ⟨⟨by omega, by omega⟩, ⟨by omega, by omega⟩, ⟨by omega, by omega⟩, ⟨by omega, by omega, by omega⟩, by omega, by omega⟩, fun i x y => by rw [sg_F_ga y5 rfl]; exact hB i x (by omega), by omega, by omega, by omega⟩ ?_ ⟨R, by rw [y3]; exact fX_up ex hR⟩ hm
  refine ⟨fEx_t hV.1 ex, fun x hx => by rw [y4 x (by omega)]; exact hV.2.1 x hx, fun y hy => rlF_up (hV.2.2.1 y hy) ex (sg_F_ga y5 rfl) rfl, fun i hi => rw6_t (hV.2.2.2.1 i hi) (rw6_F y5 rfl i), fun i hi => ?_⟩
  obtain ⟨p1, p2⟩ := hV.2.2.2.2 i hi
  exact ⟨by rw [sg_F_ga y5 rfl]; exact p1, by rw [sg_F_ga y5 rfl]; exact p2⟩
end BCL
