/-! THE FLAT RUN of the reference in big steps: parts of an if. -/
/-- node n at stage st: what it has, once all that it saved is put back -/
def ifS (A : aT) (D : List aDf) (T : Int → Int) (σb σ σ6 : sg_S) (ρ0 ρ : fEv) (n fr b sv sv6 : Int) (l : Nat) (st bv : Int) (s : fSt) : Prop := fSs σb σ6 (fr + 1) bv sv6 s ∧ gfT σ6 fr n st b l sv ∧ (0 ≤ sv ∧ sv ≤ sv6) ∧ (∀ σ7, sg_F [127, 134, 100088] σ6 σ7 → (∀ i, ¬ i = fr → sg_g σ7 127 i = sg_g σ6 127 i) → (∀ y, sg_g σ7 134 y = und σ6 sv y) → fKp A D T σ σ7 ρ0 ρ fr b sv)
theorem fCa_s {ty : Int → Int} {ks : List Nat} : ∀ {P : List Int} {s s' : fSt} {ρ ρ' : fEv}, fCa ty ks P s ρ = .inr (s', ρ') → s'.1 = s.1 + P.length ∧ s.2.1 ≤ s'.2.1 ∧ s'.2.2 = s.2.2
  | [], s, s', ρ, ρ', h => by
    simp only [fCa, Sum.inr.injEq, Prod.mk.injEq] at h
    rw [← h.1]
    exact ⟨by simp, Int.le_refl _, rfl⟩
  | y :: r, s, s', ρ, ρ', h => by
    simp only [fCa] at h
    cases hs : fStp (exF (ty y).toNat (fPk (ρ y) ks)) s with
    | none => rw [hs] at h; cases h
    | some s1 =>
      rw [hs] at h
      obtain ⟨z1, z2, z3, -⟩ := fStp_s hs
      obtain ⟨q1, q2, q3⟩ := fCa_s h
      have := exF_n (ty y).toNat (fPk (ρ y) ks)
      refine ⟨by rw [List.length_cons]; omega, by omega, by rw [q3, z3]⟩
section BHS
variable {A : aT} {D : List aDf} {T B : Int → Int} {lev : Int → Nat} {σb : sg_S} {X : sg_S → Prop} {O : Int → Nat → List Int} {call : Int → Nat → fEv → fSt → fRs} {j f : Nat}
/-- nothing is saved -/
theorem ifS_0 {σ σ6 : sg_S} {ρ0 ρ : fEv} {n fr b sv : Int} {l : Nat} {st bv : Int} {s : fSt} (S : fSs σb σ6 (fr + 1) bv sv s) (hT : gfT σ6 fr n st b l sv) (K : fKp A D T σ σ6 ρ0 ρ fr b sv) : ifS A D T σb σ σ6 ρ0 ρ n fr b sv sv l st bv s := by
  have bb := fS_b S
  refine ⟨S, hT, ⟨by omega, Int.le_refl _⟩, fun σ7 f7 h7 u7 => ?_⟩
  have ex : fEx σ6 σ7 := fEx_F f7 rfl
  have e : ∀ y, sg_g σ7 134 y = sg_g σ6 134 y := fun y => by
    rw [u7 y, ← S.2.2.1.2.2, und_top]
  exact fKp_t K ⟨ex, fun x _ => sg_F_ga f7 rfl, fun y hy => rlF_up hy ex (e y) rfl, fun i hi => ⟨sg_F_ga f7 rfl, h7 i (by omega), sg_F_ga f7 rfl, sg_F_ga f7 rfl, sg_F_ga f7 rfl, sg_F_ga f7 rfl⟩, fun i _ => ⟨sg_F_ga f7 rfl, sg_F_ga f7 rfl⟩⟩ ⟨Int.le_refl _, Int.le_refl _⟩ ⟨Int.le_refl _, Int.le_refl _⟩ ⟨Int.le_refl _, Int.le_refl _⟩
/-- all that was saved is put back -/
theorem ifS_r {σ σ6 σ3 : sg_S} {ρ0 ρ : fEv} {n fr b sv sv6 : Int} {l : Nat} {st bv : Int} {s : fSt} {Q : sg_S → Prop} (h : ifS A D T σb σ σ6 ρ0 ρ n fr b sv sv6 l st bv s) (hst : sg_R (st + 1)) (e3 : σ3 = sg_w σ6 127 fr (st + 1)) (k : ∀ σ7, fSs σb σ7 (fr + 1) bv sv s → gfT σ7 fr n (st + 1) b l sv → fKp A D T σ σ7 ρ0 ρ fr b sv → sg_F [127, 134, 100088] σ6 σ7 → Q σ7) : V_restore σ3 sv (fun σ7 => sg_F [134, 100088] σ3 σ7 → Q σ7) := by
  obtain ⟨S6, T6, hsv, h7⟩ := h
  obtain ⟨S3, T3, f3, V3⟩ := gsf_w (A := A) (D := D) (T := T) (ρ := ρ) (b' := b) S6 T6 hst e3
  have b3 := fS_b S3
  obtain ⟨a1, a2, ⟨a3, a4, a5⟩, c3, hN⟩ := id S3
  refine m_restU ⟨hsv.1, by omega, by omega⟩ hN.2.1 (fun σ7 e7 u7 B7 f7 _ => ?_)
  have F7 : sg_F [127, 134, 100088] σ6 σ7 := sg_F_t (sg_F_m f3 rfl) (sg_F_m f7 rfl)
  obtain ⟨hI, hB, n1, n2, n3⟩ := hN
  obtain ⟨i1, i2, i3, i4, i5⟩ := hI
  have g84 : sg_g σ7 88 84 = sg_g σ3 88 84 := sg_F_g f7 (by rfl)
  have g85 : sg_g σ7 88 85 = sg_g σ3 88 85 := sg_F_g f7 (by rfl)
  have g91 : sg_g σ7 88 91 = sg_g σ3 88 91 := sg_F_g f7 (by rfl)
  have g87 : sg_g σ7 88 87 = sg_g σ3 88 87 := sg_F_g f7 (by rfl)
  have g62 : sg_g σ7 88 62 = sg_g σ3 88 62 := sg_F_g f7 (by rfl)
  have g70 : sg_g σ7 88 70 = sg_g σ3 88 70 := sg_F_g f7 (by rfl)
  refine k σ7 ⟨sg_F_t a1 (sg_F_m f7 rfl), by rw [sg_F_g f7 (by rfl)]; exact a2, ⟨by omega, by omega, e7⟩, fcX_F f7 rfl c3, ⟨⟨by omega, by omega⟩, ⟨by omega, by omega⟩, ⟨by omega, by omega⟩, ⟨by omega, by omega, by omega⟩, by omega, by omega⟩, B7, by omega, by omega, by omega⟩ ⟨by rw [sg_F_ga f7 rfl]; exact T3.1, by rw [sg_F_ga f7 rfl]; exact T3.2.1, by rw [sg_F_ga f7 rfl]; exact T3.2.2.1, by rw [sg_F_ga f7 rfl]; exact T3.2.2.2.1, by rw [sg_F_ga f7 rfl]; exact T3.2.2.2.2⟩ (h7 σ7 F7 (fun i hi => by rw [sg_F_ga f7 rfl, e3, sg_gw_k _ _ _ _ _ _ hi]) (fun y => by rw [u7 y, und_F f3 rfl])) F7
abbrev caL2 : List Nat := [119, 120, 121, 134, 139, 140, 141, 142, 143, 144, 148, 149, 47088, 50088, 85088, 86088, 88088, 92088, 94088, 100088]
/-- variables were carried along, a part was worked out -/
theorem ifS_n {σ σ7 σ8 σ9 : sg_S} {ρ0 ρ ρ3 ρ4 : fEv} {P : List Int} {n fr b sv : Int} {l : Nat} {st bv : Int} {s4 : fSt} (K7 : fKp A D T σ σ7 ρ0 ρ fr b sv) (hb : b ≤ bv) (s0 : 0 ≤ sv) (F8 : sg_F caL2 σ7 σ8) (ex8 : fEx σ7 σ8) (x8 : ∀ y, y ∉ P → sg_g σ8 134 y = sg_g σ7 134 y) (e3 : ∀ y, y ∉ P → ρ3 y = ρ y) (r8 : ∀ (i : Nat) (x : Int), P[i]? = some x → sg_g σ8 148 (sv + i) = x ∧ sg_g σ8 149 (sv + i) = sg_g σ7 134 x) (l8 : ∀ i, i < sv → sg_g σ8 148 i = sg_g σ7 148 i ∧ sg_g σ8 149 i = sg_g σ7 149 i) (S9 : fSs σb σ9 (fr + 1) (bv + 1) (sv + P.length) s4) (T9 : gfT σ9 fr n st b l sv) (U9 : fKp A D T σ8 σ9 ρ3 ρ4 fr bv (sv + P.length)) : ifS A D T σb σ σ9 ρ0 (fBk P ρ ρ4) n fr b sv (sv + P.length) l st (bv + 1) s4 := by
  refine ⟨S9, T9, ⟨s0, by omega⟩, fun σ10 f10 h10 u10 => ?_⟩
  have ex10 : fEx σ9 σ10 := fEx_F f10 rfl
  have ex710 : fEx σ7 σ10 := fEx_t ex8 (fEx_t U9.1 ex10)
  have e134 : ∀ y, sg_g σ10 134 y = if y ∈ P then sg_g σ7 134 y else sg_g σ9 134 y := fun y => by
    have := undA_2 (σ := σ9) (b := y) (w := fun x => sg_g σ7 134 x) 0 P sv (fun i x hx => by
      obtain ⟨q1, q2⟩ := U9.2.2.2.2 (sv + i) (by have := gE_l hx; omega)
      obtain ⟨q3, q4⟩ := r8 i x hx
      exact ⟨q1.trans q3, q2.trans q4⟩)
    rw [u10 y]
    unfold und
    rw [S9.2.2.1.2.2, show (sv + (P.length : Int) - sv).toNat = P.length + 0 by omega, this]
    rfl
  refine ⟨fEx_t K7.1 ex710, fun x hx => ?_, fun y hy => ?_, fun i hi => ?_, fun i hi => ?_⟩
  · rw [sg_F_ga f10 rfl, U9.2.1 x (by omega), sg_F_ga F8 rfl]; exact K7.2.1 x hx
  · have r7 := K7.2.2.1 y hy
    by_cases c : y ∈ P
    · exact rlF_up r7 ex710 (by rw [e134 y, if_pos c]) (by unfold fBk; rw [if_pos c])
    · have r9 := U9.2.2.1 y (rlF_up r7 ex8 (x8 y c) (e3 y c))
      exact rlF_up r9 ex10 (by rw [e134 y, if_neg c]) (by unfold fBk; rw [if_neg c])
  · refine rw6_t (rw6_t (K7.2.2.2.1 i hi) (rw6_F F8 rfl i)) (rw6_t (U9.2.2.2.1 i hi) ⟨sg_F_ga f10 rfl, h10 i (by omega), sg_F_ga f10 rfl, sg_F_ga f10 rfl, sg_F_ga f10 rfl, sg_F_ga f10 rfl⟩)
  · obtain ⟨q1, q2⟩ := K7.2.2.2.2 i hi
    obtain ⟨q3, q4⟩ := l8 i hi
    obtain ⟨q5, q6⟩ := U9.2.2.2.2 i (by omega)
    exact ⟨by rw [sg_F_ga f10 rfl, q5, q3, q1], by rw [sg_F_ga f10 rfl, q6, q4, q2]⟩
/-- variables are carried along -/
theorem m_carS {σ7 σ11 : sg_S} {ρ : fEv} {P : List Int} {kn : List Nat} {l : Nat} {fr bv sv : Int} {s : fSt} {sc : List (Int × Int)} {Q : Int → sg_S → Prop} (S7 : fSs σb σ7 fr bv sv s) (F11 : sg_F [119, 120, 121, 143, 47088, 50088, 94088] σ7 σ11) (hs : scFX A D T σ7 ρ l sc) (hP : oR σ11 P) (hl2 : P.length ≤ 200) (hPs : ∀ z ∈ P, ∃ p ∈ sc, p.1 = z) (hk : lX σ11 (kn.map (fun n : Nat => (n : Int)))) (hkl : ∀ x ∈ kn, x < l) (hn : kn.length ≤ 6000) (k0 : ∀ s', fCa (bTy A D T) kn P s ρ = .inl (8, s') → ∀ σ', sg_F flL σb σ' → sg_g σ' 88 73 = 8 → fcX σ' s' → Q 0 σ') (k1 : ∀ s' ρ', fCa (bTy A D T) kn P s ρ = .inr (s', ρ') → ∀ σ8, fSs σb σ8 fr bv (sv + P.length) s' → sg_F caL2 σ7 σ8 → fEx σ7 σ8 → (∀ y, y ∉ P → sg_g σ8 134 y = sg_g σ7 134 y) → (∀ y, ρ' y = if y ∈ P then fPk (ρ y) kn else ρ y) → (∀ b ∈ P, ∃ R, fX σ8 6000 (sg_g σ8 134 b) (bTy A D T b).toNat (fPk (ρ b) kn) R) → (∀ (i : Nat) (x : Int), P[i]? = some x → sg_g σ8 148 (sv + i) = x ∧ sg_g σ8 149 (sv + i) = sg_g σ7 134 x) → (∀ i, i < sv → sg_g σ8 148 i = sg_g σ7 148 i ∧ sg_g σ8 149 i = sg_g σ7 149 i) → Q 1 σ8) : V_carried σ11 Q := by
  obtain ⟨a1, a2, ⟨a3, a4, a5⟩, c7, hN⟩ := id S7
  have ex11 : fEx σ7 σ11 := fEx_F F11 rfl
  have N11 : fN σ11 := fN_F F11 rfl (by rw [sg_F_g F11 (by rfl)]; exact ⟨hN.2.2.2.1, Int.le_refl _⟩) hN
  have s11 : sg_g σ11 88 99 = sv := by rw [sg_F_g F11 (by rfl)]; exact a5
  refine m_carriedX (ty := bTy A D T) (Λ := l) (ρ := ρ) (s := s) N11.1 (fcX_F F11 rfl c7) N11.2.1 hP hl2 (fun b hb => ?_) hk hkl hn (fun s' e σ' y1 y2 y3 => k0 s' e σ' (sg_F_t a1 (sg_F_t (sg_F_m F11 rfl) (sg_F_m y3 rfl))) y1 y2) (fun s' ρ' e er σ8 I8 c8 B8 ex8 v8 x8 s8 r8 l8 f8 => ?_)
  · obtain ⟨p, hp, e⟩ := hPs b hb
    obtain ⟨q1, q2, ⟨R, hR⟩, q4⟩ := hs p hp
    rw [e] at hR q4
    exact ⟨R, by rw [sg_F_ga F11 rfl]; exact fX_up ex11 hR, q4⟩
  · have F8 : sg_F caL2 σ7 σ8 := sg_F_t (sg_F_m F11 rfl) (sg_F_m f8 rfl)
    have g84 : sg_g σ7 88 84 ≤ sg_g σ8 88 84 := by
      have q1 := fCa_s e
      have := c8.1
      have := c7.1
      omega
    have N8 : fN σ8 := fN_x (σ := σ7) F8 rfl I8 B8 g84 hN
    refine k1 s' ρ' e σ8 ⟨sg_F_t a1 (sg_F_m F8 rfl), by rw [sg_F_g F8 (by rfl)]; exact a2, ⟨by rw [sg_F_g F8 (by rfl)]; exact a3, by rw [sg_F_g F8 (by rfl)]; exact a4, by rw [s8, s11]⟩, c8, N8⟩ F8 (fEx_t ex11 ex8) (fun y hy => by rw [x8 y hy, sg_F_ga F11 rfl]) er v8 (fun i x hx => ?_) (fun i hi => ?_)
    · rw [s11] at r8
      obtain ⟨q1, q2⟩ := r8 i x hx
      exact ⟨q1, by rw [q2, sg_F_ga F11 rfl]⟩
    · obtain ⟨q1, q2⟩ := l8 i (by omega)
      exact ⟨by rw [q1, sg_F_ga F11 rfl], by rw [q2, sg_F_ga F11 rfl]⟩
/-- the scope of a part in its own lanes -/
theorem scFX_c {σ8 : sg_S} {ρ ρ' : fEv} {P : List Int} {kn : List Nat} {l : Nat} {σ7 : sg_S} {sc : List (Int × Int)} (hs : scFX A D T σ7 ρ l sc) (er : ∀ y, ρ' y = if y ∈ P then fPk (ρ y) kn else ρ y) (v8 : ∀ b ∈ P, ∃ R, fX σ8 6000 (sg_g σ8 134 b) (bTy A D T b).toNat (fPk (ρ b) kn) R) : scFX A D T σ8 ρ' kn.length (sc.filter (fun p => decide (p.1 ∈ P))) := fun p hp => by
  obtain ⟨p1, p2⟩ := List.mem_filter.mp hp
  rw [decide_eq_true_eq] at p2
  obtain ⟨q1, q2, -, -⟩ := hs p p1
  obtain ⟨R, hR⟩ := v8 p.1 p2
  have e := er p.1
  rw [if_pos p2] at e
  exact ⟨q1, q2, ⟨R, by rw [e]; exact hR⟩, by rw [e, fPk_l]⟩
theorem fWh_b {b : Bool} {c : List vaF} : ∀ x ∈ fWh b c, x < c.length := fun x hx => List.mem_range.mp (List.mem_filter.mp hx).1
/-- the turn of an if at stage 1 or 2 -/
theorem gfi_go {c : Int → Int} {n : Int} {L : List Int} {sc : List (Int × Int)} (hX : pgX σb A D T B) (hP : fPu A D T B lev O call j f) (F : gfN A D T σb X B lev O call j f) (hO : okO A B O) (hG : gaH A B c O) (hcb : ∀ y, sg_g σb 116 y = c y) (h : stN A D T B lev j (f + 1) L sc n) (k3 : A.2.1 n = 3) {st : Nat} {bb : Bool} (hst : (st = 1 ∧ bb = true) ∨ (st = 2 ∧ bb = false)) {x : Int} (hx : (A.2.2.2.2.1 n)[st]? = some x) {σ σ6 : sg_S} {ρ0 ρ : fEv} {fr b sv sv6 : Int} {m l : Nat} {s : fSt} {cv : List vaF} (h6 : ifS A D T σb σ σ6 ρ0 ρ n fr b sv sv6 l st (b + st) s) (hcv : ∃ R, fX σ6 6000 (sg_g σ6 133 b) 0 cv R) (cvl : cv.length = l) (hl : l ≤ 6000) (hs : scFX A D T σ ρ0 l sc) (hsl : ∀ p ∈ sc, (ρ p.1).length = l) (f0 : 0 ≤ fr) (b0 : 0 ≤ b) (hm : 2 * (2000 - s.1) + (fr + 1) ≤ (m : Int)) (k : match fCa (bTy A D T) (fWh bb cv) (O n st) s ρ with
  | .inl (e, s') => ∀ σ', sg_F flL σb σ' → sg_g σ' 88 73 = e → ¬ e = 0 → fcX σ' s' → X σ'
  | .inr (s3, ρ3) => match fxN A D T B O call f x (fWh bb cv).length ρ3 s3 with
    | .inl (e, s') => ∀ σ', sg_F flL σb σ' → sg_g σ' 88 73 = e → ¬ e = 0 → fcX σ' s' → X σ'
    | .inr (v, s4, ρ4) => ∀ σ9 m9, ifS A D T σb σ σ9 ρ0 (fBk (O n st) ρ ρ4) n fr b sv (sv + (O n st).length) l (st + 1) (b + st + 1) s4 → (∃ R, fX σ9 6000 (sg_g σ9 133 (b + st)) (T x).toNat v R) → v.length = (fWh bb cv).length → (∀ p ∈ sc, (fBk (O n st) ρ ρ4 p.1).length = l) → fEx σ6 σ9 → (∀ y, y < b + st → sg_g σ9 133 y = sg_g σ6 133 y) → 2 * (2000 - s4.1) + (fr + 1) ≤ ((m9 : Nat) : Int) → Rf X m9 σ9) : Rf X m σ6 := by
  have hA := hX.2.2.2.2.1
  obtain ⟨w1, w2, w3, w4, w5, w6⟩ := stN_w h
  obtain ⟨S6, T6, sv0, h7⟩ := id h6
  have b6 := fS_b S6
  have hX6 := gFX hX S6.1
  obtain ⟨t1, t2, t3, t4, t5⟩ := tr_k hX6.1 w2
  have tx := t4 st x hx
  obtain ⟨Lx, hxs, sx⟩ := stN_k h (by omega) (by omega) (List.mem_of_getElem? hx)
  have st12 : st = 1 ∨ st = 2 := by omega
  obtain ⟨hxp, hPs⟩ := stN_p (L := L) hA hO k3 st12 hx hxs
  have eO := (hG n).1 k3 st x Lx st12 hx hxs.2.1 (fun y hy => (hxs.2.2.2.1 y hy).1)
  obtain ⟨m, rfl⟩ : ∃ m', m = m' + 1 := ⟨m - 1, by omega⟩
  refine rf_g (by rw [S6.2.2.1.1]; omega) S6.2.1 (fun Qz hz => gf_if hX6 w2 S6.2.2.1.1 ⟨f0, by omega⟩ T6.1 k3 (fun Q' hQ' => ?_))
  have hQ2 : ∀ σ', Rf X m σ' → Q' σ' := fun σ' hr => hQ' σ' (fun _ => hz σ' hr)
  obtain ⟨g1, g2, g3, g4, g5⟩ := id T6
  unfold V_flatIf
  rw [g1, g2, g3, g4, g5]
  refine ⟨⟨f0, by omega⟩, ⟨by omega, by omega⟩, fun σ3 e3 => ifS_r h6 ⟨by omega, by omega⟩ e3 (fun σ7 S7 T7 K7 F7 => ⟨fun c0 => ⟨fun cg => by omega, fun cg => ?_⟩, fun c0 => by omega⟩)⟩
  rw [tx]
  have ex7 : fEx σ6 σ7 := fEx_F F7 rfl
  have b7 := fS_b S7
  have hs7 : scFX A D T σ7 ρ l sc := fun p hp => by
    obtain ⟨q1, q2, q3, -⟩ := hs p hp
    exact ⟨q1, q2, K7.2.2.1 _ q3, hsl p hp⟩
  obtain ⟨Rc, hcv⟩ := hcv
  refine ⟨⟨by omega, by omega⟩, ⟨by omega, by omega⟩, ⟨by omega, by omega⟩, m_ch1 (c := c) (gFX hX S7.1) (fun y => by rw [sg_F_ga S7.1 rfl]; exact hcb y) hxs.2.1 hxs.2.2.1 (fun y hy => (hxs.2.2.2.1 y hy).1) (rbX_L hA hxs) (fun σ10 o10 f10 => ⟨⟨b0, by omega⟩, fun v138 e138 r138 => ?_⟩)⟩
  rw [← eO] at o10
  have hcv10 : fX σ10 6000 (sg_g σ6 133 b) 0 cv Rc := fX_up (fEx_t ex7 (fEx_F f10 rfl)) hcv
  obtain ⟨hI, -⟩ := S7.2.2.2.2
  obtain ⟨i1, i2, i3, i4, i5⟩ := hI
  have g91 : sg_g σ10 88 91 = sg_g σ7 88 91 := sg_F_g f10 (by rfl)
  have g87 : sg_g σ10 88 87 = sg_g σ7 88 87 := sg_F_g f10 (by rfl)
  refine m_whereX (b := bb) hcv10 ⟨by omega, by omega⟩ (by
    rw [e138]
    rcases hst with ⟨q1, q2⟩ | ⟨q1, q2⟩
    · rw [q1, q2]; first | rfl | simp
    · rw [q1, q2]; first | rfl | simp) (fun σ11 l11 f11 _ => ?_)
  have F11 : sg_F [119, 120, 121, 143, 47088, 50088, 94088] σ7 σ11 := sg_F_t (sg_F_m f10 rfl) (sg_F_m f11 rfl)
  have oR11 : oR σ11 (O n st) := ⟨by rw [sg_F_g f11 (by rfl)]; exact o10.1, fun i y hy => by rw [sg_F_ga f11 rfl]; exact o10.2.1 i y hy, o10.2.2⟩
  have ol : (O n st).length ≤ 200 := by
    rw [eO]
    have := gaO_l (A := A) (B := B) (c := c) (L := Lx) (but := -1) A.1.toNat
    omega
  have kl : (fWh bb cv).length ≤ l := by
    have := List.length_filter_le (fun i : Nat => decide ((cv.getD i (nmF 0)) [] = 0) != bb) (List.range cv.length)
    unfold fWh
    rw [List.length_range] at this
    omega
  have e93 : sg_g σ11 88 93 = ((fWh bb cv).length : Int) := by rw [l11.1, List.length_map]
  rw [e93]
  refine m_carS S7 F11 hs7 oR11 ol hPs l11 (fun y hy => by rw [← cvl]; exact fWh_b y hy) (by omega) (fun s' e σ' y1 y2 y3 _ _ => ⟨fun _ => ?_, fun z => absurd rfl z⟩) (fun s3 ρ3 e σ8 S8 F8 ex8 x8 er v8 r8 l8 _ _ => ⟨fun z => by omega, fun _ => ?_⟩)
  · rw [e] at k
    exact hQ2 σ' (rf_s (by rw [y2]; decide) (k σ' y1 y2 (by decide) y3))
  · rw [e] at k
    simp only at k
    have q8 := fCa_s e
    have T8 : gfT σ8 fr n (st + 1) b l sv := ⟨by rw [sg_F_ga F8 rfl]; exact T7.1, by rw [sg_F_ga F8 rfl]; exact T7.2.1, by rw [sg_F_ga F8 rfl]; exact T7.2.2.1, by rw [sg_F_ga F8 rfl]; exact T7.2.2.2.1, by rw [sg_F_ga F8 rfl]; exact T7.2.2.2.2⟩
    refine gpf (m := m) F hP hxp (fS_wk S8) (by omega) T8 (scFX_c hs7 er v8) (by omega) (fun r er' hr => ?_) (fun σ' hr _ => hQ2 σ' hr)
    rw [er'] at k
    match r, k, hr with
    | .inl (e, w'), k, _ => exact k
    | .inr (v, s4, ρ4), k, hr =>
      intro σ9 m9 S9 T9 q9 U9 v9 hm9
      obtain ⟨pl, pk⟩ := hr v s4 ρ4 rfl
      refine k σ9 m9 (ifS_n K7 (by omega) sv0.1 F8 ex8 x8 (fun y hy => by rw [er y, if_neg hy]) r8 l8 S9 T9 U9) v9 pl (fun p hp => ?_) (fEx_t ex7 (fEx_t ex8 U9.1)) (fun y hy => by rw [U9.2.1 y hy, sg_F_ga F8 rfl, sg_F_ga F7 rfl]) hm9
      unfold fBk
      by_cases q : p.1 ∈ O n st
      · rw [if_pos q]; exact hsl p hp
      · rw [if_neg q, pk p.1 (hxs.2.2.2.2 p hp).2, er p.1, if_neg q]; exact hsl p hp
end BHS
