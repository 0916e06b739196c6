/-! THE FLAT RUN of the reference in big steps: an if. -/
section BIS
variable {A : aT} {D : List aDf} {T B : Int → Int} {lev : Int → Nat} {σb : sg_S} {X : sg_S → Prop} {O : Int → Nat → List Int} {call : Int → Nat → fEv → fSt → fRs} {j f : Nat}
theorem tk_D {l : List vaF} {x : Nat} (h : x < l.length) : l.take (x + 1) = l.take x ++ [l.getD x (nmF 0)] := by
  rw [List.take_add_one, gD_i h]; rfl
/-- the value of an if is made -/
theorem gfi_end {n : Int} {σ σ9 : sg_S} {ρ0 ρ : fEv} {fr b sv sv9 : Int} {m l : Nat} {s : fSt} {cv v1 v2 : List vaF} (hX : pgX σb A D T B) (hn : 0 ≤ n ∧ n < A.1) (k3 : A.2.1 n = 3) (h9 : ifS A D T σb σ σ9 ρ0 ρ n fr b sv sv9 l 3 (b + 3) s) (hcv : ∃ R, fX σ9 6000 (sg_g σ9 133 b) 0 cv R) (hv1 : ∃ R, fX σ9 6000 (sg_g σ9 133 (b + 1)) (T n).toNat v1 R) (hv2 : ∃ R, fX σ9 6000 (sg_g σ9 133 (b + 2)) (T n).toNat v2 R) (cvl : cv.length = l) (hl : l ≤ 6000) (l1 : v1.length = cwF true cv) (l2 : v2.length = cwF false cv) (f0 : 0 ≤ fr) (b0 : 0 ≤ b) (hm : 2 * (2000 - s.1) + (fr + 1) ≤ (m : Int)) (k : kF A D T σb X σ ρ0 fr b sv (T n).toNat (match fStp (exF (T n).toNat v1 + exF (T n).toNat v2) s with
  | none => .inl (8, s)
  | some s7 => .inr (fMg cv v1 v2, s7, ρ))) : Rf X m σ9 := by
  have hA := hX.2.2.2.2.1
  obtain ⟨S9, T9, sv0, h7⟩ := id h9
  have b9 := fS_b S9
  have hX9 := gFX hX S9.1
  obtain ⟨m, rfl⟩ : ∃ m', m = m' + 1 := ⟨m - 1, by omega⟩
  refine rf_g (by rw [S9.2.2.1.1]; omega) S9.2.1 (fun Qz hz => gf_if hX9 hn S9.2.2.1.1 ⟨f0, by omega⟩ T9.1 k3 (fun Q' hQ' => ?_))
  have hQ2 : ∀ σ', Rf X m σ' → Q' σ' := fun σ' hr => hQ' σ' (fun _ => hz σ' hr)
  obtain ⟨g1, g2, g3, g4, g5⟩ := id T9
  unfold V_flatIf
  rw [g1, g2, g3, g4, g5]
  refine ⟨⟨f0, by omega⟩, ⟨by decide, by decide⟩, fun σ3 e3 => ifS_r h9 ⟨by decide, by decide⟩ e3 (fun σ7 S7 T7 K7 F7 => ⟨fun c0 => ⟨fun cg => ?_, fun cg => by omega⟩, fun c0 => by omega⟩)⟩
  obtain ⟨Rc, hcv⟩ := hcv
  obtain ⟨R1, hv1⟩ := hv1
  obtain ⟨R2, hv2⟩ := hv2
  have ex7 : fEx σ9 σ7 := fEx_F F7 rfl
  have b7 := fS_b S7
  obtain ⟨a1, a2, ⟨a3, a4, a5⟩, c7, hN⟩ := id S7
  obtain ⟨hI, hB, n1, n2, n3⟩ := hN
  obtain ⟨i1, i2, i3, i4, i5⟩ := hI
  have h17 := fX_up ex7 hv1
  have h27 := fX_up ex7 hv2
  have e1 := eX_F h17
  have e2 := eX_F h27
  have x1 := eX_b h17.1.2.2.2.2
  have x2 := eX_b h27.1.2.2.2.2
  have q1 := h17.2.1
  have q2 := h27.2.1
  have q4 := h17.1.2.1
  have q5 := h27.1.2.1
  have z1 := exF_n (T n).toNat v1
  have z2 := exF_n (T n).toNat v2
  have ub : exF (T n).toNat v1 ≤ 24000 ∧ exF (T n).toNat v2 ≤ 24000 := by
    rw [← e1, ← e2]
    omega
  refine ⟨⟨by omega, by omega⟩, ⟨by omega, by omega⟩, m_extent h17.1 ⟨by decide, by decide⟩ (by omega) (fun _ => ⟨⟨by omega, by omega⟩, ⟨by omega, by omega⟩, m_extent h27.1 ⟨by decide, by decide⟩ (by omega) (fun _ => ?_)⟩)⟩
  rw [e1, e2]
  refine ⟨⟨by omega, by omega⟩, m_stepX c7 ⟨by omega, by omega⟩ (fun e σ' y1 y2 y3 _ _ => ⟨fun z => absurd rfl z, fun _ => ?_⟩) (fun s7 e σ8 c8 f8 _ _ => ⟨fun _ => ?_, fun z => by omega⟩)⟩
  · rw [e] at k
    exact hQ2 σ' (rf_s (by rw [y1]; decide) (k σ' (sg_F_t a1 (sg_F_m y3 rfl)) y1 (by decide) y2))
  rw [e] at k
  simp only at k
  obtain ⟨y1, y2, y3, y4, y5⟩ := fStp_s e
  have F98 : sg_F [127, 134, 85088, 86088, 100088] σ9 σ8 := sg_F_t (sg_F_m F7 rfl) (sg_F_m f8 rfl)
  have ex8 : fEx σ7 σ8 := fEx_F f8 rfl
  have h91 : sg_g σ8 88 91 = sg_g σ7 88 91 := sg_F_g f8 (by rfl)
  have h87 : sg_g σ8 88 87 = sg_g σ7 88 87 := sg_F_g f8 (by rfl)
  have g85 := c7.2.1
  have ap : apF (fun k : Nat => if k = 0 then v1 else v2) 2 = v1 ++ v2 := by simp [apF]
  have ea : exF (T n).toNat (v1 ++ v2) = exF (T n).toNat v1 + exF (T n).toNat v2 := exF_a _ _ _
  refine m_joinF (Ls := fun k : Nat => if k = 0 then v1 else v2) (RR := fun k : Nat => if k = 0 then R1 else R2) (d := (T n).toNat) (M := 6000) (m := 2) ⟨rfl, by decide⟩ ⟨by omega, by omega⟩ (fun k' hk' => ?_) (by omega) ⟨by omega, by omega⟩ (by decide) (by rw [ap, ea]; omega) (fun q σ10 eq ex10 fv10 e87 e91 f10 rq _ => ?_)
  · rw [sg_F_ga (a := 133) F98 rfl]
    rcases (show k' = 0 ∨ k' = 1 by omega) with e | e
    · rw [e, show b + 1 + ((0 : Nat) : Int) = b + 1 by omega]
      exact fX_up ex8 h17
    · rw [e, show b + 1 + ((1 : Nat) : Int) = b + 2 by omega]
      exact fX_up ex8 h27
  rw [ap] at fv10 e91
  have fv := fv10 6000 (fun j hj => by
    have := lvl_ex (T n).toNat j (v1 ++ v2) hj
    omega)
  have ex710 := fEx_t ex8 ex10
  have h110 := fX_up ex710 h17
  have hc10 := fX_up (fEx_t ex7 ex710) hcv
  obtain ⟨r, R', eR, lR, rl, -⟩ := fX_r h110
  have vl : v_lanesOf σ10 (sg_g σ9 133 (b + 1)) = v1.length := by
    unfold v_lanesOf
    have hh := h110.1
    rw [eR] at hh
    rw [(fV_0 hh).2]
    exact rl
  have vb := h110.1.1
  rw [vl]
  refine ⟨⟨⟨by omega, by omega⟩, ⟨by omega, by omega⟩, trivial⟩, fun σ11 e11 => ?_⟩
  have f11 : sg_F [94088] σ10 σ11 := by rw [e11]; exact sg_F_w (sg_F_r _ _) rfl _
  have ct := cwF_t cv
  refine ⟨fun p v49 v50 v51 σ12 => ∃ x : Nat, v51 = x ∧ p = l - x ∧ x ≤ l ∧ v49 = (cwF true (cv.take x) : Int) ∧ v50 = (v1.length : Int) + (cwF false (cv.take x) : Int) ∧ lX σ12 (mgK (cv.take x) 0 v1.length), fun σ12 => lX σ12 (mgK cv 0 v1.length), ⟨_, 0, rfl, rfl, Nat.zero_le _, by simp [cwF], by simp [cwF], by rw [List.take_zero]; exact lX_0 e11⟩, ?_, ?_⟩
  · rintro p v49 v50 v51 σ12 r49 r50 r51 f12 ⟨x, rfl, ep, hx, e49, e50, hd⟩
    refine ⟨fun z => ?_, fun z => ?_⟩
    · rw [List.take_of_length_le (by omega)] at hd
      exact hd
    · have xl : x < cv.length := by omega
      obtain ⟨pa, va⟩ := pRX hc10 ⟨by omega, by omega⟩ xl
      have tk := tk_D xl
      have c1 := cwF_a true (cv.take x) [cv.getD x (nmF 0)]
      have c2 := cwF_a false (cv.take x) [cv.getD x (nmF 0)]
      have cl := cwF_t (cv.take x)
      rw [List.length_take] at cl
      rw [← tk] at c1 c2
      rw [cwF_1] at c1 c2
      refine ⟨⟨b0, by omega⟩, pa, fun v86 e86 r86 v91 e91' r91 => ?_⟩
      rw [va] at e86
      refine m_listX hd (by rw [mgK_l, List.length_take]; omega) r91 (fun σ13 h13 f13 _ v102 e102 r102 => ?_)
      have mk : mgK (cv.take x) 0 v1.length ++ [v91] = mgK (cv.take (x + 1)) 0 v1.length := by
        rw [tk, mgK_a]
        congr 1
        rw [e91']
        by_cases c5 : (cv.getD x (nmF 0)) [] = 0
        · rw [if_pos c5] at e86
          rw [if_pos c5, e86, if_pos rfl, e50]
          rw [show ((v1.length + cwF false (cv.take x) : Nat) : Int) = (v1.length : Int) + (cwF false (cv.take x) : Int) by omega]
        · rw [if_neg c5] at e86
          rw [if_neg c5, e86, if_neg (by decide), e49, Nat.zero_add]
      rw [mk] at h13
      have r1 : sg_R (v49 + v102) := by
        rw [e102]
        split <;> exact ⟨by omega, by omega⟩
      refine ⟨r1, fun v108 e108 r108 => ⟨?_, ⟨by omega, by omega⟩, _, ?_, x + 1, by omega, rfl, by omega, ?_, ?_, h13⟩⟩
      · rw [e108]
        split <;> exact ⟨by omega, by omega⟩
      · omega
      · rw [c1, e102, e86]
        by_cases c5 : (cv.getD x (nmF 0)) [] = 0
        · simp [c5, e49]
        · have c6 := c5
          rw [List.getD_eq_getElem?_getD] at c6
          simp [c6, e49]
      · rw [c2, e108, e86]
        by_cases c5 : (cv.getD x (nmF 0)) [] = 0
        · simp [c5, e50]; omega
        · have c6 := c5
          rw [List.getD_eq_getElem?_getD] at c6
          simp [c6, e50]
  · intro σ12 f12 hd
    have F1012 : sg_F [143, 94088] σ10 σ12 := sg_F_t (sg_F_m f11 rfl) f12
    have fv12 := fX_up (fEx_F F1012 rfl) fv
    have k91 : sg_g σ12 88 91 = sg_g σ7 88 91 + (exF (T n).toNat v1 + exF (T n).toNat v2) := by rw [sg_F_g F1012 (by rfl), e91, h91, ea]
    have k87 : sg_g σ12 88 87 = sg_g σ7 88 87 + 1 := by rw [sg_F_g F1012 (by rfl)]; omega
    have mf : (mgK cv 0 v1.length).map (lnF (v1 ++ v2)) = fMg cv v1 v2 := by
      rw [mgK_f, List.drop_zero, List.drop_left]
      exact fMg_x cv v1 v2 v2 (by omega)
    have em : exF (T n).toNat (fMg cv v1 v2) = exF (T n).toNat v1 + exF (T n).toNat v2 := exF_Mg _ cv v1 v2 l1.symm l2.symm
    refine m_gathF (ks := mgK cv 0 v1.length) fv12 ⟨by decide, by decide⟩ (by omega) ⟨by omega, by omega⟩ hd (fun x hx => ?_) (by rw [mgK_l]; omega) (by rw [mf, em]; omega) (fun w σ13 ew ex13 fv13 e87' e91' f13 rw' _ => ?_)
    · rw [List.length_append]
      rcases mgK_b cv 0 v1.length x hx with q | q
      · omega
      · omega
    rw [mf] at fv13 e91'
    have F813 : sg_F [139, 140, 141, 142, 143, 144, 88088, 92088, 94088] σ8 σ13 := sg_F_t (sg_F_m f10 rfl) (sg_F_t (sg_F_m F1012 rfl) (sg_F_m f13 rfl))
    have F713 : sg_F [139, 140, 141, 142, 143, 144, 85088, 86088, 88088, 92088, 94088] σ7 σ13 := sg_F_t (sg_F_m f8 rfl) (sg_F_m F813 rfl)
    have ex713 : fEx σ7 σ13 := fEx_t ex710 (fEx_t (fEx_F F1012 rfl) ex13)
    have c13 := fcX_F F813 rfl c8
    have g84 := c13.1
    have g85' := c13.2.1
    have p84 := c7.1
    have c4 := c13.2.2.2
    have j62 : sg_g σ13 88 62 = sg_g σ7 88 62 := sg_F_g F713 (by rfl)
    have j70 : sg_g σ13 88 70 = sg_g σ7 88 70 := sg_F_g F713 (by rfl)
    have j99 : sg_g σ13 88 99 = sg_g σ7 88 99 := sg_F_g F713 (by rfl)
    have S13 : fSs σb σ13 (fr + 1) (b + 3) sv s7 := ⟨sg_F_t a1 (sg_F_m F713 rfl), by rw [sg_F_g F713 (by rfl)]; exact a2, ⟨by omega, by omega, by omega⟩, c13, ⟨⟨by omega, by omega⟩, ⟨by omega, by omega⟩, ⟨by omega, by omega⟩, ⟨by omega, by omega, by omega⟩, by omega, by omega⟩, fun i x y => by rw [sg_F_ga F713 rfl]; exact hB i x (by omega), by omega, by omega, by omega⟩
    refine gfl_leave (A := A) (D := D) (T := T) (X := X) (σ := σ) (ρ := ρ0) (ρ2 := ρ) (d := (T n).toNat) (m := m) (fS_wk S13) (fS_h S13) ⟨b0, by omega⟩ (by rw [sg_F_ga F713 rfl]; exact T7.2.2.1) f0 (fKp_t K7 (fKp_mk F713 rfl ex713 (fun x _ => sg_F_ga F713 rfl) (fun i _ => sg_F_ga F713 rfl)) ⟨Int.le_refl _, Int.le_refl _⟩ ⟨Int.le_refl _, Int.le_refl _⟩ ⟨Int.le_refl _, Int.le_refl _⟩) rw' ⟨_, fv13 6000 (fun j hj => by
      have := lvl_ex (T n).toNat j (fMg cv v1 v2) hj
      omega)⟩ (by omega) k (fun σ' h _ => hQ2 σ' h)
theorem gfN_if {c : Int → Int} {n : Int} {L : List Int} {sc : List (Int × Int)} (hX : pgX σb A D T B) (hP : fPu A D T B lev O call j f) (F : gfN A D T σb X B lev O call j f) (hO : okO A B O) (hG : gaH A B c O) (hcb : ∀ y, sg_g σb 116 y = c y) (h : stN A D T B lev j (f + 1) L sc n) (k3 : A.2.1 n = 3) {σ : sg_S} {m l : Nat} {ρ : fEv} {fr b sv : Int} {s : fSt} (hS : fSw σb σ fr b sv s) (hl : l ≤ 6000) (hs : scFX A D T σ ρ l sc) (hm : 2 * (2000 - s.1) + fr ≤ (m : Int) + 1) (k : kF A D T σb X σ ρ fr b sv (T n).toNat (fxN A D T B O call (f + 1) n l ρ s)) {Q : sg_S → Prop} (hQ : ∀ σ', Rf X m σ' → Q σ') : V_flatBegin σ n (l : Int) Q := by
  obtain ⟨w1, w2, w3, w4, w5, w6⟩ := stN_w h
  have hA := hX.2.2.2.2.1
  have bb := fS_bw hS
  have l3 := w1.2.2.2.1 k3
  obtain ⟨a, c', d, ea⟩ : ∃ a c' d, A.2.2.2.2.1 n = [a, c', d] := by
    match e : A.2.2.2.2.1 n, l3 with
    | [a, c', d], _ => exact ⟨a, c', d, rfl⟩
  have g := w5 (by omega)
  rw [kTy_3 k3, ea] at g
  obtain ⟨g1, g2, g3⟩ := kIs_in g
  simp only [List.map_cons, List.getD_cons_succ, List.getD_cons_zero, Bool.and_eq_true, decide_eq_true_eq] at g1 g3
  obtain ⟨La, ha, sa⟩ := stN_k h (by omega) (by omega) (z := a) (by rw [ea]; simp)
  simp only [fxN] at k
  refine gfb_begin (A := A) (D := D) (T := T) (ρ := ρ) hS ⟨w2.1, by omega⟩ hl hQ (fun z σ' y1 y2 y3 y4 => ?_) (fun s1 z es1 es2 σ1 S1 T1 V1 v1 => ?_)
  · rw [z] at k; exact k σ' y1 y2 y3 y4
  rw [z] at k
  simp only at k
  rw [if_neg (by omega), if_neg (by omega), if_pos k3, ea] at k
  simp only [List.getD_cons_zero, List.getD_cons_succ] at k
  unfold fIfN at k
  have b1 := fS_b S1
  have hX1 := gFX hX S1.1
  obtain ⟨t1, t2, t3, t4, t5⟩ := tr_k hX1.1 w2
  have ta := t4 0 a (by rw [ea]; rfl)
  rw [show 200 * n + ((0 : Nat) : Int) = 200 * n by omega] at ta
  obtain ⟨m, rfl⟩ : ∃ m', m = m' + 1 := ⟨m - 1, by omega⟩
  refine rf_g (by rw [S1.2.2.1.1]; omega) S1.2.1 (fun Qz hz => gf_if hX1 w2 S1.2.2.1.1 ⟨by omega, by omega⟩ T1.1 k3 (fun Q' hQ' => ?_))
  have hQ2 : ∀ σ', Rf X m σ' → Q' σ' := fun σ' hr => hQ' σ' (fun _ => hz σ' hr)
  obtain ⟨p1, p2, p3, p4, p5⟩ := id T1
  unfold V_flatIf
  rw [p1, p2, p3, p4, p5, ta]
  refine ⟨⟨by omega, by omega⟩, ⟨by decide, by decide⟩, fun σ3 e3 => ifS_r (ifS_0 S1 T1 V1) ⟨by decide, by decide⟩ e3 (fun σ7 S7 T7 K7 F7 => ⟨fun c0 => absurd rfl c0, fun _ => ⟨⟨by omega, by omega⟩, ⟨by omega, by omega⟩, ?_⟩⟩)⟩
  refine gpf (m := m) F hP ha (fS_wk S7) hl T7 (scFX_u hs K7 (fun p _ => rfl)) (by omega) (fun r er hr => ?_) (fun σ' h' _ => hQ2 σ' h')
  rw [er] at k
  match r, k, hr with
  | .inl (e, w'), k, _ => exact k
  | .inr (cv, s2, ρ2), k, hr =>
    intro σ4 m4 S4 T4 q4 U4 v4 hm4
    obtain ⟨pl, pk⟩ := hr cv s2 ρ2 rfl
    simp only at k
    rw [g3.1] at v4
    have V4 := fKp_t K7 U4 ⟨Int.le_refl _, Int.le_refl _⟩ ⟨Int.le_refl _, Int.le_refl _⟩ ⟨Int.le_refl _, Int.le_refl _⟩
    refine gfi_go (bb := true) (st := 1) (x := c') hX hP F hO hG hcb h k3 (Or.inl ⟨rfl, rfl⟩) (by rw [ea]; rfl) (ifS_0 S4 T4 V4) v4 pl hl hs (fun p hp => by rw [pk p.1 (ha.2.2.2.2 p hp).2]; exact (hs p hp).2.2.2) (by omega) (by omega) hm4 ?_
    cases e1 : fCa (bTy A D T) (fWh true cv) (O n 1) s2 ρ2 with
    | inl p => obtain ⟨e, s'⟩ := p; rw [e1] at k; exact k
    | inr p =>
      obtain ⟨s3, ρ3⟩ := p
      rw [e1] at k
      simp only at k ⊢
      cases e2 : fxN A D T B O call f c' (fWh true cv).length ρ3 s3 with
      | inl p => obtain ⟨e, s'⟩ := p; rw [e2] at k; exact k
      | inr p =>
        obtain ⟨x1, s4, ρ4⟩ := p
        rw [e2] at k
        simp only at k ⊢
        intro σ9 m9 h9 u9 l9 ls9 ex9 o9 hm9
        have v49 : ∃ R, fX σ9 6000 (sg_g σ9 133 b) 0 cv R := by
          obtain ⟨R, hR⟩ := v4
          rw [o9 b (by omega)]
          exact ⟨R, fX_up ex9 hR⟩
        have h9' : ifS A D T σb σ σ9 ρ (fBk (O n 1) ρ2 ρ4) n fr b sv (sv + (O n 1).length) l ((2 : Nat) : Int) (b + ((2 : Nat) : Int)) s4 := by
          rw [show b + ((2 : Nat) : Int) = b + ((1 : Nat) : Int) + 1 by omega]
          exact h9
        refine gfi_go (bb := false) (st := 2) (x := d) hX hP F hO hG hcb h k3 (Or.inr ⟨rfl, rfl⟩) (by rw [ea]; rfl) h9' v49 pl hl hs ls9 (by omega) (by omega) hm9 ?_
        cases e3 : fCa (bTy A D T) (fWh false cv) (O n 2) s4 (fBk (O n 1) ρ2 ρ4) with
        | inl p => obtain ⟨e, s'⟩ := p; rw [e3] at k; exact k
        | inr p =>
          obtain ⟨s5, ρ5⟩ := p
          rw [e3] at k
          simp only at k ⊢
          cases e4 : fxN A D T B O call f d (fWh false cv).length ρ5 s5 with
          | inl p => obtain ⟨e, s'⟩ := p; rw [e4] at k; exact k
          | inr p =>
            obtain ⟨x2, s6, ρ6⟩ := p
            rw [e4] at k
            simp only at k ⊢
            intro σ10 m10 h10 u10 l10 ls10 ex10 o10 hm10
            refine gfi_end (cv := cv) (v1 := x1) (v2 := x2) hX w2 k3 (by
              rw [show b + 3 = b + ((2 : Nat) : Int) + 1 by omega]
              exact h10) ?_ ?_ ?_ pl hl (by rw [l9, fWh_l]) (by rw [l10, fWh_l]) (by omega) (by omega) hm10 k
            · obtain ⟨R, hR⟩ := v49
              rw [o10 b (by omega)]
              exact ⟨R, fX_up ex10 hR⟩
            · obtain ⟨R, hR⟩ := u9
              rw [show b + ((1 : Nat) : Int) = b + 1 by omega] at hR
              rw [o10 (b + 1) (by omega), g1]
              exact ⟨R, fX_up ex10 hR⟩
            · rw [show b + 2 = b + ((2 : Nat) : Int) by omega, g1, g3.2]
              exact u10
end BIS
