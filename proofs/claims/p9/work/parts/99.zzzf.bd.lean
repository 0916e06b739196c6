/-! THE FLAT RUN of the reference in big steps: parts one after another. -/
/-- lanes, and what is bound outside stays -/
def fPu (A : aT) (D : List aDf) (T B : Int → Int) (lev : Int → Nat) (O : Int → Nat → List Int) (call : Int → Nat → fEv → fSt → fRs) (j f : Nat) : Prop := ∀ (n : Int) (L : List Int) (sc : List (Int × Int)), stN A D T B lev j f L sc n → ∀ (m : Nat) ρ s v s' ρ', (∀ p ∈ sc, (ρ p.1).length = m) → fxN A D T B O call f n m ρ s = .inr (v, s', ρ') → v.length = m ∧ ∀ b, ¬ ow lev j L b → ρ' b = ρ b
section BDS
variable {A : aT} {D : List aDf} {T B : Int → Int} {lev : Int → Nat} {σb : sg_S} {X : sg_S → Prop} {O : Int → Nat → List Int} {call : Int → Nat → fEv → fSt → fRs} {j f : Nat}
theorem fKp_mk {L : List Nat} {σ σ' : sg_S} {ρ : fEv} {fr b sv : Int} (F : sg_F L σ σ') (hL : (sg_ca L 134 && sg_ca L 148 && sg_ca L 149 && sg_ca L 126 && sg_ca L 128 && sg_ca L 145 && sg_ca L 146 && sg_ca L 147) = true) (ex : fEx σ σ') (h133 : ∀ x, x < b → sg_g σ' 133 x = sg_g σ 133 x) (h127 : ∀ i, i < fr → sg_g σ' 127 i = sg_g σ 127 i) : fKp A D T σ σ' ρ ρ fr b sv := by
  simp only [Bool.and_eq_true] at hL
  obtain ⟨⟨⟨⟨⟨⟨⟨l1, l2⟩, l3⟩, l4⟩, l5⟩, l6⟩, l7⟩, l8⟩ := hL
  exact ⟨ex, h133, fun y hy => rlF_up hy ex (sg_F_ga F l1) rfl, fun i hi => ⟨sg_F_ga F l4, h127 i hi, sg_F_ga F l5, sg_F_ga F l6, sg_F_ga F l7, sg_F_ga F l8⟩, fun i _ => ⟨sg_F_ga F l2, sg_F_ga F l3⟩⟩
/-- what parts are to be followed by -/
def kFr (A : aT) (D : List aDf) (T : Int → Int) (σb : sg_S) (X : sg_S → Prop) (σ : sg_S) (ρ : fEv) (n fr b sv : Int) (l st : Nat) (R : List Int) : fRl → Prop
  | .inl (e, s') => ∀ σ', sg_F flL σb σ' → sg_g σ' 88 73 = e → ¬ e = 0 → fcX σ' s' → X σ'
  | .inr (vs, s', ρ') => ∀ σ' m', vs.length = R.length → fSs σb σ' (fr + 1) (b + st + R.length) sv s' → gfT σ' fr n (st + R.length : Nat) b l sv → fKp A D T σ σ' ρ ρ' fr (b + st) sv → (∀ (i : Nat) (x : Int) (v : List vaF), R[i]? = some x → vs[i]? = some v → ∃ R', fX σ' 6000 (sg_g σ' 133 (b + st + i)) (T x).toNat v R') → 2 * (2000 - s'.1) + (fr + 1) ≤ ((m' : Nat) : Int) → Rf X m' σ'
theorem gfRow (hX : pgX σb A D T B) (hP : fPu A D T B lev O call j f) (F : gfN A D T σb X B lev O call j f) {n sv : Int} {sc : List (Int × Int)} {l off : Nat} (hn : 0 ≤ n ∧ n < A.1) (hl : l ≤ 6000) (go : ∀ (σ : sg_S) (st : Nat) (b fr x : Int) (Q : sg_S → Prop), pgX σ A D T B → sg_g σ 88 62 = fr + 1 → 0 ≤ fr ∧ fr < 4000 → gfT σ fr n st b l sv → (A.2.1 n = 15 → st < (A.2.2.2.2.2 n).length) → (A.2.2.2.2.1 n)[off + st]? = some x → (∀ σ3, σ3 = sg_w σ 127 fr (st + 1) → ∀ Q' : sg_S → Prop, (∀ σ', Q σ' → Q' σ') → V_flatBegin σ3 x (l : Int) Q') → V_goFlat σ (fun σ' => sg_F flL σ σ' → Q σ')) : ∀ (R : List Int) (st : Nat), (∀ (i : Nat) (x : Int), R[i]? = some x → (A.2.2.2.2.1 n)[off + (st + i)]? = some x) → (A.2.1 n = 15 → st + R.length ≤ (A.2.2.2.2.2 n).length) → (∀ x ∈ R, ∃ L', stN A D T B lev j f L' sc x) → ∀ (σ : sg_S) (m : Nat) (ρ : fEv) (fr b : Int) (s : fSt), fSs σb σ (fr + 1) (b + st) sv s → 0 ≤ fr → 0 ≤ b → gfT σ fr n st b l sv → scFX A D T σ ρ l sc → 2 * (2000 - s.1) + (fr + 1) ≤ (m : Int) → kFr A D T σb X σ ρ n fr b sv l st R (fSq (fun x => fxN A D T B O call f x l) R ρ s) → Rf X m σ
  | [], st, hR, h15, hty, σ, m, ρ, fr, b, s, hS, f0, b0, hT, hs, hm, k => by
    simp only [fSq, kFr, List.length_nil, Int.ofNat_zero, Int.cast_ofNat_Int, Int.add_zero, Nat.add_zero] at k
    exact k σ m trivial hS hT (fKp_r σ ρ _ _ _) (fun i x v hx => by simp at hx) hm
  | x :: R, st, hR, h15, hty, σ, m, ρ, fr, b, s, hS, f0, b0, hT, hs, hm, k => by
    have bb := fS_b hS
    obtain ⟨a1, a2, ⟨a3, a4, a5⟩, c, hN⟩ := id hS
    have hXσ := gFX hX a1
    have hA := hX.2.2.2.2.1
    obtain ⟨m, rfl⟩ : ∃ m', m = m' + 1 := ⟨m - 1, by omega⟩
    obtain ⟨L', hx⟩ := hty x (by simp)
    refine rf_g (by omega) a2 (fun Qz hz => go σ st b fr x Qz hXσ a3 ⟨f0, by omega⟩ hT (fun c => by have := h15 c; simp only [List.length_cons] at this; omega) (by have := hR 0 x rfl; rw [Nat.add_zero] at this; exact this) (fun σ3 e3 Q' hQ' => ?_))
    have f3 : sg_F [127] σ σ3 := by rw [e3]; exact sg_F_w (sg_F_r _ _) rfl _
    have S3 : fSs σb σ3 (fr + 1) (b + st) sv s := fS_w hS f3 rfl rfl (sg_F_m f3 rfl) (by rw [sg_F_g f3 (by rfl)]; exact a4) ⟨by omega, Int.le_refl _⟩
    have o127 : ∀ i, ¬ i = fr → sg_g σ3 127 i = sg_g σ 127 i := fun i hi => by rw [e3, sg_gw_k _ _ _ _ _ _ hi]
    have stb : st ≤ 200 := by
      have := gE_l (hR 0 x rfl)
      have := (tr_k hX.1 hn).2.2.1
      omega
    obtain ⟨p1, p2, p3, p4, p5⟩ := hT
    have T3 : gfT σ3 fr n (st + 1 : Nat) b l sv := ⟨by rw [sg_F_ga f3 rfl]; exact p1, by rw [e3, sg_gw_e _ _ _ _ ⟨by omega, by omega⟩]; omega, by rw [sg_F_ga f3 rfl]; exact p3, by rw [sg_F_ga f3 rfl]; exact p4, by rw [sg_F_ga f3 rfl]; exact p5⟩
    have V3 : fKp A D T σ σ3 ρ ρ fr (b + st) sv := fKp_mk f3 rfl (fEx_F f3 rfl) (fun y _ => sg_F_ga f3 rfl) (fun i hi => o127 i (by omega))
    refine F x L' sc hx σ3 m l ρ (fr + 1) (b + st) sv s (fS_wk S3) hl (scFX_u hs V3 (fun p _ => rfl)) (by omega) ?_ Q' (fun σ' h => hQ' σ' (hz σ' h))
    have pu := hP x L' sc hx l ρ s
    simp only [fSq] at k
    generalize fxN A D T B O call f x l ρ s = r at k pu
    match r, k, pu with
    | .inl (e, w'), k, _ => exact k
    | .inr (v, s1, ρ1), k, pu =>
      intro σ4 m4 S4 U4 v4 hm4
      obtain ⟨pl, pk⟩ := pu v s1 ρ1 (fun p hp => (hs p hp).2.2.2) rfl
      simp only at k
      obtain ⟨w1, w2, w3, w4, w5, w6⟩ := U4.2.2.2.1 fr (by omega)
      have T4 : gfT σ4 fr n (st + 1 : Nat) b l sv := ⟨w1.trans T3.1, w2.trans T3.2.1, w3.trans T3.2.2.1, w4.trans T3.2.2.2.1, w5.trans T3.2.2.2.2⟩
      have V4 : fKp A D T σ σ4 ρ ρ1 fr (b + st) sv := fKp_t V3 U4 ⟨Int.le_refl _, by omega⟩ ⟨Int.le_refl _, Int.le_refl _⟩ ⟨Int.le_refl _, Int.le_refl _⟩
      refine gfRow hX hP F hn hl go R (st + 1) (fun i y hy => ?_) (fun c => by have := h15 c; simp only [List.length_cons] at this; omega) (fun y hy => hty y (by simp [hy])) σ4 m4 ρ1 fr b s1 (by rw [show b + ((st + 1 : Nat) : Int) = b + st + 1 by omega]; exact S4) f0 b0 T4 (scFX_u hs V4 (fun p hp => pk p.1 (hx.2.2.2.2 p hp).2)) hm4 ?_
      · have := hR (i + 1) y hy
        rw [show off + (st + (i + 1)) = off + (st + 1 + i) by omega] at this
        exact this
      · generalize fSq (fun x => fxN A D T B O call f x l) R ρ1 s1 = r2 at k
        match r2, k with
        | .inl (e, w'), k => exact k
        | .inr (vs, s2, ρ2), k =>
          intro σ5 m5 l5 S5 T5 V5 v5 hm5
          refine k σ5 m5 (by simp only [List.length_cons]; omega) ?_ ?_ (fKp_t V4 V5 ⟨Int.le_refl _, Int.le_refl _⟩ ⟨Int.le_refl _, by omega⟩ ⟨Int.le_refl _, Int.le_refl _⟩) (fun i y v' hy hv' => ?_) hm5
          · simp only [List.length_cons]
            rw [show b + (st : Int) + ((R.length + 1 : Nat) : Int) = b + ((st + 1 : Nat) : Int) + R.length by omega]
            exact S5
          · simp only [List.length_cons]
            rw [show st + (R.length + 1) = st + 1 + R.length by omega]
            exact T5
          · cases i with
            | zero =>
              simp only [List.getElem?_cons_zero, Option.some.injEq] at hy hv'
              subst hy hv'
              simp only [Int.ofNat_zero, Int.cast_ofNat_Int, Int.add_zero]
              rw [V5.2.1 _ (by omega)]
              obtain ⟨R', hR'⟩ := v4
              exact ⟨R', fX_up V5.1 hR'⟩
            | succ i =>
              simp only [List.getElem?_cons_succ] at hy hv'
              have := v5 i y v' hy hv'
              rw [show b + ((st + 1 : Nat) : Int) + (i : Int) = b + (st : Int) + ((i + 1 : Nat) : Int) by omega] at this
              exact this
theorem gof_op {n sv : Int} {l : Nat} (hn : 0 ≤ n ∧ n < A.1) (k15 : ¬ A.2.1 n = 15) (k3 : ¬ A.2.1 n = 3) (k2 : ¬ A.2.1 n = 2) (σ : sg_S) (st : Nat) (b fr x : Int) (Q : sg_S → Prop) (hX : pgX σ A D T B) (hf : sg_g σ 88 62 = fr + 1) (f0 : 0 ≤ fr ∧ fr < 4000) (hT : gfT σ fr n st b l sv) (_ : A.2.1 n = 15 → st < (A.2.2.2.2.2 n).length) (hx : (A.2.2.2.2.1 n)[0 + st]? = some x) (k : ∀ σ3, σ3 = sg_w σ 127 fr (st + 1) → ∀ Q' : sg_S → Prop, (∀ σ', Q σ' → Q' σ') → V_flatBegin σ3 x (l : Int) Q') : V_goFlat σ (fun σ' => sg_F flL σ σ' → Q σ') := by
  rw [Nat.zero_add] at hx
  exact gf_part hX hn hf f0 hT k15 k3 (fun z => k2 z.1) hx (fun σ3 e3 Q' hQ' => k σ3 e3 Q' (fun σ' hq => hQ' σ' (fun _ => hq)))
end BDS
