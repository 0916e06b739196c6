/-! THE FLAT RUN of the reference in big steps: a { } behind its test, and its end. -/
section BLS
variable {A : aT} {D : List aDf} {T B c : Int → Int} {lev : Int → Nat} {σb : sg_S} {X : sg_S → Prop} {O : Int → Nat → List Int} {j f : Nat}
/-- variables were carried along twice -/
theorem ifS_n2 {σ σ4 σ8 σ9 σ46 σ12 σ20 : sg_S} {ρ0 ρ2 ρ3 ρ5 ρ6 ρ7 : fEv} {P0 P1 : List Int} {n fr b sv : Int} {l : Nat} {st bv : Int} {s7 : fSt} (K4 : fKp A D T σ σ4 ρ0 ρ2 fr b sv) (hb : b ≤ bv) (s0 : 0 ≤ sv) (F8 : sg_F caL2 σ4 σ8) (ex8 : fEx σ4 σ8) (x8 : ∀ y, y ∉ P0 → sg_g σ8 134 y = sg_g σ4 134 y) (e3 : ∀ y, y ∉ P0 → ρ3 y = ρ2 y) (r8 : ∀ (i : Nat) (x : Int), P0[i]? = some x → sg_g σ8 148 (sv + i) = x ∧ sg_g σ8 149 (sv + i) = sg_g σ4 134 x) (l8 : ∀ i, i < sv → sg_g σ8 148 i = sg_g σ4 148 i ∧ sg_g σ8 149 i = sg_g σ4 149 i) (U9 : fKp A D T σ8 σ9 ρ3 ρ5 fr bv (sv + P0.length)) (K46 : fKp A D T σ9 σ46 ρ5 ρ5 fr bv (sv + P0.length)) (F12 : sg_F caL2 σ46 σ12) (ex12 : fEx σ46 σ12) (x12 : ∀ y, y ∉ P1 → sg_g σ12 134 y = sg_g σ46 134 y) (e6 : ∀ y, y ∉ P1 → ρ6 y = ρ5 y) (r12 : ∀ (i : Nat) (x : Int), P1[i]? = some x → sg_g σ12 148 (sv + P0.length + i) = x ∧ sg_g σ12 149 (sv + P0.length + i) = sg_g σ46 134 x) (l12 : ∀ i, i < sv + P0.length → sg_g σ12 148 i = sg_g σ46 148 i ∧ sg_g σ12 149 i = sg_g σ46 149 i) (U20 : fKp A D T σ12 σ20 ρ6 ρ7 fr bv (sv + P0.length + P1.length)) (S20 : fSs σb σ20 (fr + 1) (bv + 1) (sv + P0.length + P1.length) s7) (T20 : gfT σ20 fr n st b l sv) : ifS A D T σb σ σ20 ρ0 (fBk P0 ρ2 (fBk P1 ρ5 ρ7)) n fr b sv (sv + P0.length + P1.length) l st (bv + 1) s7 := by
  refine ⟨S20, T20, ⟨s0, by omega⟩, fun σ21 f21 h21 u21 => ?_⟩
  have ex21 : fEx σ20 σ21 := fEx_F f21 rfl
  have ex46 : fEx σ46 σ21 := fEx_t ex12 (fEx_t U20.1 ex21)
  have ex9 : fEx σ9 σ21 := fEx_t K46.1 ex46
  have ex4 : fEx σ4 σ21 := fEx_t ex8 (fEx_t U9.1 ex9)
  have e134 : ∀ y, sg_g σ21 134 y = if y ∈ P0 then sg_g σ4 134 y else if y ∈ P1 then sg_g σ46 134 y else sg_g σ20 134 y := fun y => by
    have a := undA_2 (σ := σ20) (b := y) (w := fun x => sg_g σ4 134 x) P1.length P0 sv (fun i x hx => by
      have hi := gE_l hx
      obtain ⟨q1, q2⟩ := U20.2.2.2.2 (sv + i) (by omega)
      obtain ⟨q3, q4⟩ := l12 (sv + i) (by omega)
      obtain ⟨q5, q6⟩ := K46.2.2.2.2 (sv + i) (by omega)
      obtain ⟨q7, q8⟩ := U9.2.2.2.2 (sv + i) (by omega)
      obtain ⟨q9, q10⟩ := r8 i x hx
      exact ⟨by rw [q1, q3, q5, q7, q9], by rw [q2, q4, q6, q8, q10]⟩)
    have a2 := undA_2 (σ := σ20) (b := y) (w := fun x => sg_g σ46 134 x) 0 P1 (sv + P0.length) (fun i x hx => by
      have hi := gE_l hx
      obtain ⟨q1, q2⟩ := U20.2.2.2.2 (sv + P0.length + i) (by omega)
      obtain ⟨q3, q4⟩ := r12 i x hx
      exact ⟨q1.trans q3, q2.trans q4⟩)
    rw [Nat.add_zero] at a2
    rw [u21 y]
    unfold und
    rw [S20.2.2.1.2.2, show (sv + (P0.length : Int) + (P1.length : Int) - sv).toNat = P0.length + P1.length by omega, a, a2]
    rfl
  refine ⟨fEx_t K4.1 ex4, fun x hx => ?_, fun y hy => ?_, fun i hi => ?_, fun i hi => ?_⟩
  · rw [sg_F_ga f21 rfl, U20.2.1 x (by omega), sg_F_ga F12 rfl, K46.2.1 x (by omega), U9.2.1 x (by omega), sg_F_ga F8 rfl]; exact K4.2.1 x hx
  · have r4 := K4.2.2.1 y hy
    by_cases c0 : y ∈ P0
    · exact rlF_up r4 ex4 (by rw [e134 y, if_pos c0]) (by unfold fBk; rw [if_pos c0])
    · have r46 := K46.2.2.1 y (U9.2.2.1 y (rlF_up r4 ex8 (x8 y c0) (e3 y c0)))
      by_cases c1 : y ∈ P1
      · exact rlF_up r46 ex46 (by rw [e134 y, if_neg c0, if_pos c1]) (by unfold fBk; rw [if_neg c0, if_pos c1])
      · have r20 := U20.2.2.1 y (rlF_up r46 ex12 (x12 y c1) (e6 y c1))
        exact rlF_up r20 ex21 (by rw [e134 y, if_neg c0, if_neg c1]) (by unfold fBk; rw [if_neg c0, if_neg c1])
  · refine rw6_t (rw6_t (rw6_t (K4.2.2.2.1 i hi) (rw6_F F8 rfl i)) (rw6_t (U9.2.2.2.1 i hi) (K46.2.2.2.1 i hi))) (rw6_t (rw6_t (rw6_F F12 rfl i) (U20.2.2.2.1 i hi)) ⟨sg_F_ga f21 rfl, h21 i (by omega), sg_F_ga f21 rfl, sg_F_ga f21 rfl, sg_F_ga f21 rfl, sg_F_ga f21 rfl⟩)
  · obtain ⟨q1, q2⟩ := K4.2.2.2.2 i hi
    obtain ⟨q3, q4⟩ := l8 i hi
    obtain ⟨q5, q6⟩ := U9.2.2.2.2 i (by omega)
    obtain ⟨q7, q8⟩ := K46.2.2.2.2 i (by omega)
    obtain ⟨q9, q10⟩ := l12 i (by omega)
    obtain ⟨q11, q12⟩ := U20.2.2.2.2 i (by omega)
    exact ⟨by rw [sg_F_ga f21 rfl, q11, q9, q7, q5, q3, q1], by rw [sg_F_ga f21 rfl, q12, q10, q8, q6, q4, q2]⟩
/-- the end of a { } -/
theorem gfe_D {n bd : Int} {tl : List Int} {σ σ9 : sg_S} {ρ0 ρ : fEv} {fr b sv sv9 f1 : Int} {m l : Nat} {s : fSt} {v : List vaF} {ln : List Nat} (hX : pgX σb A D T B) (hn : 0 ≤ n ∧ n < A.1) (nw : nW A n) (k15 : A.2.1 n = 15) (ea : A.2.2.2.2.1 n = bd :: tl) (hT : T n = T bd + 1) (hT3 : T n ≤ 3) (hTb : 0 ≤ T bd) (h9 : ifS A D T σb σ σ9 ρ0 ρ n fr b sv sv9 l ((A.2.2.2.2.2 n).length + 2) (b + (A.2.2.2.2.2 n).length + 1) s) (hv : ∃ R, fX σ9 6000 (sg_g σ9 133 (b + (A.2.2.2.2.2 n).length)) (T bd).toNat v R) (lnl : ln.length = l) (lns : ln.sum = v.length) (ln2 : ∀ i, i < l → ln.getD i 0 ≤ 200) (hrw : fRw σ9 6000 (f1, l)) (hc : ∀ i : Nat, i < l → sg_g σ9 142 (f1 + i) = (ln.getD i 0 : Nat)) (hf : (tl.drop (A.2.2.2.2.2 n).length = [] ∧ sg_g σ9 140 (4 * sg_g σ9 133 b) = f1 ∧ 0 ≤ sg_g σ9 133 b ∧ sg_g σ9 133 b < 30000) ∨ (¬ tl.drop (A.2.2.2.2.2 n).length = [] ∧ sg_g σ9 147 fr = f1)) (hl : l ≤ 6000) (f0 : 0 ≤ fr) (b0 : 0 ≤ b) (hm : 2 * (2000 - s.1) + (fr + 1) ≤ (m : Int)) (k : kF A D T σb X σ ρ0 fr b sv (T n).toNat (.inr (fCt ln v, s, ρ))) : Rf X m σ9 := by
  have hA := hX.2.2.2.2.1
  obtain ⟨S9, T9, sv0, h7⟩ := id h9
  have b9 := fS_b S9
  have hX9 := gFX hX S9.1
  obtain ⟨t1, t2, t3, t4, t5⟩ := tr_k hX9.1 hn
  obtain ⟨pt, hht⟩ := hasT hX9 hn nw k15 ea
  obtain ⟨g1, tk, g4, gt⟩ := ea_ts nw k15 ea
  have tlk : sg_g σ9 96 n = tl.length + 1 := by rw [t2, ea]; rfl
  have l200 : tl.length + 1 ≤ 200 := by
    have := t3
    rw [ea, List.length_cons] at this
    exact this
  have g70 := S9.2.2.1.2.1
  have gl : (A.2.2.2.2.2 n).length ≤ tl.length := by rw [List.length_take] at tk; omega
  obtain ⟨m, rfl⟩ : ∃ m', m = m' + 1 := ⟨m - 1, by omega⟩
  refine rf_g (by rw [S9.2.2.1.1]; omega) S9.2.1 (fun Qz hz => gf_each hX9 hn S9.2.2.1.1 ⟨f0, by omega⟩ T9.1 k15 (fun Q' hQ' => ?_))
  have hQ2 : ∀ σ', Rf X m σ' → Q' σ' := fun σ' hr => hQ' σ' (fun _ => hz σ' hr)
  obtain ⟨p1, p2, p3, p4, p5⟩ := id T9
  have e70 : b + ((A.2.2.2.2.2 n).length : Int) + 1 - 1 = b + (A.2.2.2.2.2 n).length := by omega
  unfold V_flatEach
  rw [p1, p2, p3, p4, p5, t5, tlk, g70, e70]
  refine ⟨⟨f0, by omega⟩, ⟨by omega, by omega⟩, ⟨by omega, by omega⟩, fun σ4 e4 => ⟨fun _ => ⟨⟨by omega, by omega⟩, ⟨by omega, by omega⟩, ⟨by omega, by omega⟩, ⟨by omega, by omega⟩, ⟨by omega, by omega⟩, fun _ => ⟨⟨by omega, by omega⟩, fun _ => ?_, fun z => by omega⟩, fun z => by omega⟩, fun z => by omega⟩⟩
  refine ifS_r h9 ⟨by omega, by omega⟩ e4 (fun σ7 S7 T7 K7 F7 => ⟨pt, ⟨fun z => ?_, fun _ => trivial⟩, fun v25 e25 r25 => ⟨⟨by omega, by omega⟩, ⟨by omega, by omega⟩, ?_⟩⟩)
  · rcases hf with ⟨q1, q2, q3, q4⟩ | ⟨q1, q2⟩
    · exact ⟨⟨b0, by omega⟩, ⟨by omega, by omega⟩, ⟨by omega, by omega⟩, trivial⟩
    · rcases hht with ⟨y1, y2⟩ | ⟨y1, -⟩
      · exact absurd y2 q1
      · omega
  have ev : v25 = f1 := by
    rcases hht with ⟨y1, y2⟩ | ⟨y1, t, y2, -⟩
    · rw [y1, if_pos rfl] at e25
      rcases hf with ⟨q1, q2, q3, q4⟩ | ⟨q1, q2⟩
      · rw [e25, q2]
      · exact absurd y2 q1
    · rw [y1, if_neg (by decide)] at e25
      rcases hf with ⟨q1, q2, q3, q4⟩ | ⟨q1, q2⟩
      · rw [y2] at q1; cases q1
      · rw [e25, q2]
  rw [ev]
  have ex7 : fEx σ9 σ7 := fEx_F F7 rfl
  obtain ⟨R, hR⟩ := hv
  have h77 := fX_up ex7 hR
  obtain ⟨r, R', eR, lR, rl, -⟩ := fX_r h77
  rw [eR] at h77
  have fl := fCt_f ln v lns
  rw [← fl] at h77
  obtain ⟨a1, a2, ⟨a3, a4, a5⟩, c7, hN⟩ := id S7
  obtain ⟨⟨i1, i2, i3, i4, i5⟩, hB, n1, n2, n3⟩ := id hN
  have b7 := fS_b S7
  have g91 : sg_g σ7 88 91 = sg_g σ9 88 91 := sg_F_g F7 (by rfl)
  obtain ⟨z1, z2, z3, z4⟩ := hrw
  simp only at z1 z2 z3 z4
  refine m_outerX (M := 6000) (L := fCt ln v) ⟨by omega, by omega⟩ h77 (by omega) ⟨⟨by omega, by omega⟩, ⟨by omega, by omega⟩⟩ ⟨z1, z2, z3, by simp only; omega⟩ (by rw [fCt_l, lnl]) (fun i u hu => ?_) (fun w σ10 ew ex10 fv10 e87 f10 rw' _ => ?_)
  · obtain ⟨q1, q2, q3⟩ := fCt_w ln v i u lns hu
    rw [q3, ex7.2.2.2 _ (by omega) (by omega)]
    have := ln2 i (by omega)
    exact ⟨hc i (by omega), by omega, by omega⟩
  · have F710 : sg_F [139, 140, 141, 88088] σ7 σ10 := f10
    have j84 : sg_g σ10 88 84 = sg_g σ7 88 84 := sg_F_g f10 (by rfl)
    have j85 : sg_g σ10 88 85 = sg_g σ7 88 85 := sg_F_g f10 (by rfl)
    have j91 : sg_g σ10 88 91 = sg_g σ7 88 91 := sg_F_g f10 (by rfl)
    have j62 : sg_g σ10 88 62 = sg_g σ7 88 62 := sg_F_g f10 (by rfl)
    have j70 : sg_g σ10 88 70 = sg_g σ7 88 70 := sg_F_g f10 (by rfl)
    have j99 : sg_g σ10 88 99 = sg_g σ7 88 99 := sg_F_g f10 (by rfl)
    have S10 : fSw σb σ10 (fr + 1) (b + (A.2.2.2.2.2 n).length + 1) sv s := ⟨sg_F_t a1 (sg_F_m f10 rfl), by rw [sg_F_g f10 (by rfl)]; exact a2, ⟨by omega, by omega, by omega⟩, fcX_F f10 rfl c7, ⟨⟨by omega, by omega⟩, ⟨by omega, by omega⟩, ⟨by omega, by omega⟩, ⟨by omega, by omega, by omega⟩, by omega, by omega⟩, fun i x y => by rw [sg_F_ga f10 rfl]; exact hB i x (by omega), by omega, by omega, by omega⟩
    refine gfl_leave (A := A) (D := D) (T := T) (X := X) (σ := σ) (ρ := ρ0) (ρ2 := ρ) (d := (T n).toNat) (m := m) S10 (by omega) ⟨b0, by omega⟩ (by rw [sg_F_ga f10 rfl]; exact T7.2.2.1) f0 (fKp_t K7 (fKp_mk f10 rfl ex10 (fun x _ => sg_F_ga f10 rfl) (fun i _ => sg_F_ga f10 rfl)) ⟨Int.le_refl _, Int.le_refl _⟩ ⟨Int.le_refl _, Int.le_refl _⟩ ⟨Int.le_refl _, Int.le_refl _⟩) rw' (by rw [hT, show (T bd + 1).toNat = (T bd).toNat + 1 by omega]; exact ⟨_, fv10⟩) (by omega) k (fun σ' h _ => hQ2 σ' h)
/-- a { } behind its test -/
theorem gfe_C {n bd t : Int} {tl : List Int} {Lb : List Int} {S1 : List (Int × Int)} (hX : pgX σb A D T B) (hO : okO A B O) (hG : gaH A B c O) (hcb : ∀ y, sg_g σb 116 y = c y) (hn : 0 ≤ n ∧ n < A.1) (nw : nW A n) (k15 : A.2.1 n = 15) (ea : A.2.2.2.2.1 n = bd :: tl) (et : tl.drop (A.2.2.2.2.2 n).length = [t]) (hbd : stN A D T B lev j f Lb S1 bd) {Lt : List Int} (hLt : fT A [t] Lt) (hrL : ∀ y ∈ Lb ++ Lt, 0 ≤ y ∧ y < A.1) {σ9 : sg_S} {ρ5 : fEv} {fr b sv sv9 : Int} {m l d0 : Nat} {s4 : fSt} {cv v0 : List vaF} (S9 : fSs σb σ9 (fr + 1) (b + (A.2.2.2.2.2 n).length + 1) sv9 s4) (T9 : gfT σ9 fr n ((A.2.2.2.2.2 n).length + 1) b l sv) (hs9 : scFX A D T σ9 ρ5 cv.length S1) (hcv : ∃ R, fX σ9 6000 (sg_g σ9 133 (b + (A.2.2.2.2.2 n).length)) 0 cv R) (hv0 : ∃ R, fX σ9 6000 (sg_g σ9 133 b) (d0 + 1) v0 R) (l0 : v0.length = l) (lcv : (v0.map (fun v => (itF v).length)).sum = cv.length) (hl : l ≤ 6000) (hcl : cv.length ≤ 6000) (f0 : 0 ≤ fr) (b0 : 0 ≤ b) (hm : 2 * (2000 - s4.1) + (fr + 1) ≤ (m : Int)) (kC : ∀ s', fCa (bTy A D T) (fWh true cv) (O n 1) s4 ρ5 = .inl (8, s') → ∀ σ', sg_F flL σb σ' → sg_g σ' 88 73 = 8 → fcX σ' s' → X σ') (kS : ∀ s5 ρ6, fCa (bTy A D T) (fWh true cv) (O n 1) s4 ρ5 = .inr (s5, ρ6) → fStp (l : Int) s5 = none → ∀ σ', sg_F flL σb σ' → sg_g σ' 88 73 = 8 → fcX σ' s5 → X σ') (kG : ∀ s5 ρ6, fCa (bTy A D T) (fWh true cv) (O n 1) s4 ρ5 = .inr (s5, ρ6) → (∀ y, ρ6 y = if y ∈ O n 1 then fPk (ρ5 y) (fWh true cv) else ρ5 y) → ∀ s6, fStp (l : Int) s5 = some s6 → ∀ σ46 σ12 σ16 m16 f1, fKp A D T σ9 σ46 ρ5 ρ5 fr (b + (A.2.2.2.2.2 n).length) sv9 → (∀ x, sg_g σ46 133 x = sg_g σ9 133 x) → fEx σ9 σ46 → sg_F caL2 σ46 σ12 → fEx σ46 σ12 → (∀ y, y ∉ O n 1 → sg_g σ12 134 y = sg_g σ46 134 y) → (∀ (i : Nat) (x : Int), (O n 1)[i]? = some x → sg_g σ12 148 (sv9 + i) = x ∧ sg_g σ12 149 (sv9 + i) = sg_g σ46 134 x) → (∀ i, i < sv9 → sg_g σ12 148 i = sg_g σ46 148 i ∧ sg_g σ12 149 i = sg_g σ46 149 i) → fSs σb σ16 (fr + 1) (b + (A.2.2.2.2.2 n).length) (sv9 + (O n 1).length) s6 → gfT σ16 fr n ((A.2.2.2.2.2 n).length + 2) b l sv → fKp A D T σ12 σ16 ρ6 ρ6 fr (b + (A.2.2.2.2.2 n).length) (sv9 + (O n 1).length) → scFX A D T σ16 ρ6 (fWh true cv).length (S1.filter (fun p => decide (p.1 ∈ O n 1))) → sg_g σ16 147 fr = f1 → fRw σ16 6000 (f1, l) → (∀ i : Nat, i < l → sg_g σ16 142 (f1 + i) = ((ctL (v0.map (fun v => (itF v).length)) cv).getD i 0 : Nat)) → 2 * (2000 - s6.1) + fr ≤ ((m16 : Nat) : Int) → ∀ Q' : sg_S → Prop, (∀ σ', Rf X m16 σ' → Q' σ') → V_flatBegin σ16 bd ((fWh true cv).length : Int) Q') : Rf X m σ9 := by
  have hA := hX.2.2.2.2.1
  have hX9 := gFX hX S9.1
  obtain ⟨t1, t2, t3, t4, t5⟩ := tr_k hX9.1 hn
  obtain ⟨g1, tk, g4, gt⟩ := ea_ts nw k15 ea
  have eO := ((hG n).2 k15 bd tl Lb Lt ea hbd.2.1 (by rw [et]; exact hLt) hrL).2
  have ho := ((hO n).2.2 k15 bd tl Lb Lt ea hbd.2.1 (by rw [et]; exact hLt)).2
  have hPs : ∀ z ∈ O n 1, ∃ p ∈ S1, p.1 = z := fun z hz => by
    obtain ⟨y, y1, y2, y3, y4⟩ := (ho z).mp hz
    rcases stN_v hA hbd y1 y2 with ⟨q, -⟩ | q
    · exact ⟨_, q, y3⟩
    · rw [y3] at q; exact absurd q y4
  obtain ⟨G, hGe⟩ : ∃ G, G = (A.2.2.2.2.2 n).length := ⟨_, rfl⟩
  rw [← hGe] at S9 T9 hcv kG g1 tk g4 gt t5 et
  have b9 := fS_b S9
  have ltl : G ≤ tl.length := by rw [List.length_take] at tk; omega
  have tlk : sg_g σ9 96 n = tl.length + 1 := by rw [t2, ea]; rfl
  have l200 : tl.length + 1 ≤ 200 := by
    have := t3
    rw [ea, List.length_cons] at this
    exact this
  have tz := t4 0 bd (by rw [ea]; rfl)
  rw [show 200 * n + ((0 : Nat) : Int) = 200 * n by omega] at tz
  obtain ⟨Rc, hcv⟩ := hcv
  obtain ⟨R0, hv0⟩ := hv0
  obtain ⟨r0, r0', R0', eR0, lR0, rl0, rf0, cell0, -, rw0, rw0'⟩ := fX_s hv0
  obtain ⟨a1, a2, ⟨a3, a4, a5⟩, c9, hN⟩ := id S9
  obtain ⟨⟨i1, i2, i3, i4, i5⟩, hB, n1, n2, n3⟩ := id hN
  obtain ⟨m, rfl⟩ : ∃ m', m = m' + 1 := ⟨m - 1, by omega⟩
  refine rf_g (by omega) a2 (fun Qz hz => gf_each hX9 hn a3 ⟨f0, by omega⟩ T9.1 k15 (fun Q' hQ' => ?_))
  have hQ2 : ∀ σ', Rf X m σ' → Q' σ' := fun σ' hr => hQ' σ' (fun _ => hz σ' hr)
  obtain ⟨p1, p2, p3, p4, p5⟩ := id T9
  have e70 : b + (G : Int) + 1 - 1 = b + G := by omega
  unfold V_flatEach
  rw [p1, p2, p3, p4, p5, t5, tz, tlk, a4, e70]
  refine ⟨⟨f0, by omega⟩, ⟨by omega, by omega⟩, ⟨by omega, by omega⟩, fun σ4 e4 => ⟨fun _ => ⟨⟨by omega, by omega⟩, ⟨by omega, by omega⟩, ⟨by omega, by omega⟩, ⟨by omega, by omega⟩, ⟨by omega, by omega⟩, fun _ => ⟨⟨by omega, by omega⟩, fun z => by omega, fun _ => ⟨⟨by omega, by omega⟩, fun σ46 e46 => ⟨⟨by omega, by omega⟩, ?_⟩⟩⟩, fun z => by omega⟩, fun z => by omega⟩⟩
  have F46 : sg_F [127, 71088] σ9 σ46 := by rw [e46, e4]; exact sg_F_w (sg_F_w (sg_F_r _ _) rfl _) rfl _
  have ex46 : fEx σ9 σ46 := fEx_F F46 rfl
  have g70 : sg_g σ46 88 70 = b + G := by rw [e46, sg_gw_e _ _ _ _ ⟨by omega, by omega⟩]
  have S46 : fSs σb σ46 (fr + 1) (b + G) sv9 s4 := fS_w S9 F46 rfl rfl (sg_F_m F46 rfl) g70 ⟨by omega, by omega⟩
  have K46 : fKp A D T σ9 σ46 ρ5 ρ5 fr (b + G) sv9 := fKp_mk F46 rfl ex46 (fun x _ => sg_F_ga F46 rfl) (fun i hi => by rw [e46, sg_gw_c _ _ _ _ _ _ (by decide), e4, sg_gw_k _ _ _ _ _ _ (by omega)])
  have hs46 := scFX_u hs9 K46 (fun p _ => rfl)
  refine m_ch1 (c := c) (gFX hX S46.1) (fun y => by rw [sg_F_ga S46.1 rfl]; exact hcb y) hbd.2.1 hbd.2.2.1 (fun y hy => (hbd.2.2.2.1 y hy).1) (rbX_L hA hbd) (fun σ10 o10 f10 => ?_)
  rw [← eO] at o10
  have hcv10 : fX σ10 6000 (sg_g σ9 133 (b + G)) 0 cv Rc := fX_up (fEx_t ex46 (fEx_F f10 rfl)) hcv
  have g91 : sg_g σ10 88 91 = sg_g σ9 88 91 := by rw [sg_F_g f10 (by rfl), sg_F_g F46 (by rfl)]
  have g87 : sg_g σ10 88 87 = sg_g σ9 88 87 := by rw [sg_F_g f10 (by rfl), sg_F_g F46 (by rfl)]
  refine m_whereX (b := true) hcv10 ⟨by omega, by omega⟩ rfl (fun σ11 l11 f11 _ => ?_)
  have F11 : sg_F [119, 120, 121, 143, 47088, 50088, 94088] σ46 σ11 := sg_F_t (sg_F_m f10 rfl) (sg_F_m f11 rfl)
  have oR11 : oR σ11 (O n 1) := ⟨by rw [sg_F_g f11 (by rfl)]; exact o10.1, fun i y hy => by rw [sg_F_ga f11 rfl]; exact o10.2.1 i y hy, o10.2.2⟩
  have ol : (O n 1).length ≤ 200 := by
    rw [eO]
    have := gaO_l (A := A) (B := B) (c := c) (L := Lb) (but := -1) A.1.toNat
    omega
  have kl : (fWh true cv).length ≤ cv.length := by rw [fWh_l]; exact cwF_le _ _
  have e93 : sg_g σ11 88 93 = ((fWh true cv).length : Int) := by rw [l11.1, List.length_map]
  rw [e93]
  refine m_carS S46 F11 hs46 oR11 ol hPs l11 fWh_b (by omega) (fun s' e σ' y1 y2 y3 _ _ => ⟨fun _ => hQ2 σ' (rf_s (by rw [y2]; decide) (kC s' e σ' y1 y2 y3)), fun z => absurd rfl z⟩) (fun s5 ρ6 e σ12 S12 F12 ex12 x12 er v12 r12 l12 _ _ => ⟨fun z => by omega, fun _ => ?_⟩)
  obtain ⟨d1, d2, ⟨d3, d4, d5⟩, d6, dN⟩ := id S12
  obtain ⟨⟨j1, j2, j3, j4, j5⟩, jB, jn1, jn2, jn3⟩ := id dN
  refine m_stepX d6 ⟨by omega, by omega⟩ (fun es σ' y1 y2 y3 _ _ => ⟨fun z => absurd rfl z, fun _ => hQ2 σ' (rf_s (by rw [y1]; decide) (kS s5 ρ6 e es σ' (sg_F_t d1 (sg_F_m y3 rfl)) y1 y2))⟩) (fun s6 es σ13 c13 f13 _ _ => ⟨fun _ σ14 e14 => ?_, fun z => by omega⟩)
  obtain ⟨y1, y2, y3, y4, y5⟩ := fStp_s es
  have f14 : sg_F [147] σ13 σ14 := by rw [e14]; exact sg_F_w (sg_F_r _ _) rfl _
  have F1214 : sg_F [147, 85088, 86088] σ12 σ14 := sg_F_t (sg_F_m f13 rfl) (sg_F_m f14 rfl)
  have ex14 : fEx σ9 σ14 := fEx_t ex46 (fEx_t ex12 (fEx_F F1214 rfl))
  have k91 : sg_g σ14 88 91 = sg_g σ12 88 91 := sg_F_g F1214 (by rfl)
  have k87 : sg_g σ14 88 87 = sg_g σ12 88 87 := sg_F_g F1214 (by rfl)
  have hc14 := fX_up ex14 hcv
  have h014 := fX_up ex14 hv0
  generalize hln : v0.map (fun v => (itF v).length) = ln at lcv kG
  have lnl : ln.length = l := by rw [← hln, List.length_map]; exact l0
  have lnx : ∀ x, x < l → ln.getD x 0 = ((v0.getD x (nmF 0)) []).toNat := fun x hx => by
    rw [← hln, List.getD_eq_getElem?_getD, List.getElem?_map, gD_i (by omega : x < v0.length), Option.map_some, Option.getD_some, itF_l]
  have c12 := d6.2.1
  refine ⟨fun p at_ v92 σ15 => ∃ x : Nat, v92 = x ∧ p = l - x ∧ x ≤ l ∧ at_ = ((ln.take x).sum : Int) ∧ ∃ tt, gHX σ14 (sg_g σ14 88 91) True (x : Int) tt ((List.range x).map (fun i : Nat => ((ctL ln cv).getD i 0 : Int))) σ15, fun σ15 => ∃ tt, gHX σ14 (sg_g σ14 88 91) True (l : Int) tt ((List.range l).map (fun i : Nat => ((ctL ln cv).getD i 0 : Int))) σ15, ⟨_, 0, rfl, rfl, Nat.zero_le _, by simp, 0, gHX_0 _ _⟩, ?_, ?_⟩
  · rintro p at_ v92 σ15 ra rx f15 ⟨x, rfl, ep, hx, eat, tt, hGx⟩
    refine ⟨fun z => ⟨tt, by rw [show l = x by omega]; exact hGx⟩, fun z => ?_⟩
    have xl : x < v0.length := by omega
    obtain ⟨-, cx1, cx2⟩ := cell0 x xl
    have ts := tk_sum ln x (by omega)
    have tsl := tk_sle ln (x + 1)
    have elx := lnx x (by omega)
    obtain ⟨pa, va⟩ := pRX_h h014 hGx f15 rfl ⟨by omega, by omega⟩ xl
    rw [va]
    refine ⟨fun p v119 v120 v121 => ∃ y : Nat, v121 = y ∧ p = ln.getD x 0 - y ∧ y ≤ ln.getD x 0 ∧ v119 = ((ln.take x).sum : Int) + y ∧ v120 = (cwF true ((cv.drop (ln.take x).sum).take y) : Int), fun v119 v120 => v119 = ((ln.take (x + 1)).sum : Int) ∧ v120 = ((ctL ln cv).getD x 0 : Int), ⟨_, 0, rfl, rfl, Nat.zero_le _, by omega, by simp [cwF]⟩, ?_, ?_⟩
    · rintro p' v119 v120 v121 r1 r2 r3 ⟨y, rfl, ep', hy, e119, e120⟩
      refine ⟨⟨b0, by omega⟩, pa, fun cc => ⟨by omega, ?_⟩, fun cc => ?_⟩
      · rw [e120, ctL_i lcv (by omega), show ln.getD x 0 = y by omega]
      · have ai : (ln.take x).sum + y < cv.length := by omega
        obtain ⟨pi, vi⟩ := pRX_h hc14 hGx f15 rfl ⟨by omega, by omega⟩ ai
        rw [show (((ln.take x).sum + y : Nat) : Int) = v119 by omega] at pi vi
        rw [vi]
        have yl : y < (cv.drop (ln.take x).sum).length := by rw [List.length_drop]; omega
        have tk2 := tk_D yl
        have gd : (cv.drop (ln.take x).sum).getD y (nmF 0) = cv.getD ((ln.take x).sum + y) (nmF 0) := by
          rw [List.getD_eq_getElem?_getD, List.getD_eq_getElem?_getD, List.getElem?_drop]
        have ca := cwF_a true ((cv.drop (ln.take x).sum).take y) [(cv.drop (ln.take x).sum).getD y (nmF 0)]
        rw [← tk2, cwF_1, gd] at ca
        have cb := cwF_le true ((cv.drop (ln.take x).sum).take y)
        rw [List.length_take] at cb
        refine ⟨pi, fun v156 e156 r156 => ⟨?_, ⟨by omega, by omega⟩, ⟨by omega, by omega⟩, _, ?_, y + 1, by omega, rfl, by omega, by omega, ?_⟩⟩
        · rw [e156]
          split <;> exact ⟨by omega, by omega⟩
        · omega
        · rw [ca, e156, e120]
          by_cases c5 : (cv.getD ((ln.take x).sum + y) (nmF 0)) [] = 0
          · simp [c5]
          · have c6 := c5
            rw [List.getD_eq_getElem?_getD] at c6
            simp [c6]
    · rintro v119 v120 r1 r2 ⟨e119, e120⟩
      have hc := hGx.1.1.1
      have cb := cwF_le true ((cv.drop (ln.take x).sum).take (ln.getD x 0))
      rw [← ctL_i lcv (by omega), List.length_take] at cb
      refine ⟨⟨by omega, by omega⟩, fun σ16 e16 => ⟨⟨by omega, by omega⟩, fun σ17 e17 => ⟨⟨by omega, by omega⟩, _, ?_, x + 1, by omega, rfl, by omega, e119, _, gHX_r (gHX_p hGx (by omega) (by omega) r2 (fun _ => ⟨by omega, by omega⟩) e16 e17) e120.symm⟩⟩⟩
      omega
  · rintro σ15 f15 ⟨tt, hGx⟩
    refine ⟨⟨by omega, by omega⟩, fun σ16 e16 => ?_⟩
    have ex15 := gH_ex hGx.1 f15
    have hc := hGx.1.1.1
    have f16 : sg_F [127] σ15 σ16 := by rw [e16]; exact sg_F_w (sg_F_r _ _) rfl _
    have F1416 : sg_F [127, 142, 92088] σ14 σ16 := sg_F_t (sg_F_m f15 rfl) (sg_F_m f16 rfl)
    have F1216 : sg_F [127, 142, 147, 85088, 86088, 92088] σ12 σ16 := sg_F_t (sg_F_m F1214 rfl) (sg_F_m F1416 rfl)
    have ex1216 : fEx σ12 σ16 := fEx_t (fEx_F F1214 rfl) (fEx_t ex15 (fEx_F f16 rfl))
    have c16 := fcX_F F1416 rfl (fcX_F f14 rfl c13)
    have q84 := c16.1
    have q85 := c16.2.1
    have q4 := c16.2.2.2
    have p84 := d6.1
    have q91 : sg_g σ16 88 91 = sg_g σ12 88 91 + l := by rw [sg_F_g f16 (by rfl)]; omega
    have q87 : sg_g σ16 88 87 = sg_g σ12 88 87 := sg_F_g F1216 (by rfl)
    have q99 : sg_g σ16 88 99 = sg_g σ12 88 99 := sg_F_g F1216 (by rfl)
    have q62 : sg_g σ16 88 62 = sg_g σ12 88 62 := sg_F_g F1216 (by rfl)
    have q70 : sg_g σ16 88 70 = sg_g σ12 88 70 := sg_F_g F1216 (by rfl)
    have S16 : fSs σb σ16 (fr + 1) (b + G) (sv9 + (O n 1).length) s6 := ⟨sg_F_t d1 (sg_F_m F1216 rfl), by rw [sg_F_g F1216 (by rfl)]; exact d2, ⟨by omega, by omega, by omega⟩, c16, ⟨⟨by omega, by omega⟩, ⟨by omega, by omega⟩, ⟨by omega, by omega⟩, ⟨by omega, by omega, by omega⟩, by omega, by omega⟩, fun i x y => by rw [sg_F_ga F1216 rfl]; exact jB i x (by omega), by omega, by omega, by omega⟩
    have T16 : gfT σ16 fr n ((G : Int) + 2) b l sv := ⟨by rw [sg_F_ga F1216 rfl, sg_F_ga F12 rfl, sg_F_ga F46 rfl]; exact p1, by rw [e16, sg_gw_e _ _ _ _ ⟨by omega, by omega⟩], by rw [sg_F_ga F1216 rfl, sg_F_ga F12 rfl, sg_F_ga F46 rfl]; exact p3, by rw [sg_F_ga F1216 rfl, sg_F_ga F12 rfl, sg_F_ga F46 rfl]; exact p4, by rw [sg_F_ga F1216 rfl, sg_F_ga F12 rfl, sg_F_ga F46 rfl]; exact p5⟩
    have i147 : ∀ i, ¬ i = fr → sg_g σ16 147 i = sg_g σ12 147 i := fun i hi => by rw [sg_F_ga F1416 rfl, e14, sg_gw_k _ _ _ _ _ _ hi, sg_F_ga f13 rfl]
    have i127 : ∀ i, ¬ i = fr → sg_g σ16 127 i = sg_g σ12 127 i := fun i hi => by rw [e16, sg_gw_k _ _ _ _ _ _ hi, sg_F_ga f15 rfl, sg_F_ga F1214 rfl]
    have U16 : fKp A D T σ12 σ16 ρ6 ρ6 fr (b + G) (sv9 + (O n 1).length) := ⟨ex1216, fun x _ => sg_F_ga F1216 rfl, fun y hy => rlF_up hy ex1216 (sg_F_ga F1216 rfl) rfl, fun i hi => ⟨sg_F_ga F1216 rfl, i127 i (by omega), sg_F_ga F1216 rfl, sg_F_ga F1216 rfl, sg_F_ga F1216 rfl, i147 i (by omega)⟩, fun i _ => ⟨sg_F_ga F1216 rfl, sg_F_ga F1216 rfl⟩⟩
    have e147 : sg_g σ16 147 fr = sg_g σ14 88 91 := by rw [k91, sg_F_ga F1416 rfl, e14, sg_gw_e _ _ _ _ (sg_Rg _ _ _)]
    have q5 := fCa_s e
    refine kG s5 ρ6 e er s6 es σ46 σ12 σ16 m (sg_g σ14 88 91) K46 (fun x => sg_F_ga F46 rfl) ex46 F12 ex12 x12 r12 l12 S16 T16 U16 (scFX_u (scFX_c hs46 er v12) U16 (fun p _ => rfl)) e147 ⟨by simp only; omega, by simp only; omega, by simp only; omega, by simp only; omega⟩ (fun i hi => ?_) (by omega) _ (fun σ' hr' _ => hQ2 σ' hr')
    rw [sg_F_ga f16 rfl]
    exact hGx.2.2 i _ (by rw [List.getElem?_map, List.getElem?_range hi]; rfl)
end BLS
