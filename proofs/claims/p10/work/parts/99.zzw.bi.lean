/-! THE NESTED RUN of the reference in big steps: let, if, calls. -/
/-- what one part is to be followed by -/
def kG1 (A : aT) (D : List aDf) (T : Int → Int) (σb : sg_S) (X : sg_S → Prop) (σ3 : sg_S) (ρ : eV) (n fr st b bv sp ow cr : Int) (ip : Bool) (d : Nat) : eR → Prop
  | .inl (e, w') => ∀ σ', sg_F goL σb σ' → sg_g σ' 88 73 = e → ¬ e = 0 → sg_g σ' 88 54 = w' → X σ'
  | .inr (v, w', s', ρ') => ∀ σ' m', gS σb σ' (fr + 1) (bv + 1) w' → gxT σ' fr n st b (if ip then sp else sp + s') → sg_g σ' 131 fr = (if ip then ow + s' else ow) → (sg_g σ' 130 fr = sg_g σ3 130 fr ∧ sg_g σ' 132 fr = sg_g σ3 132 fr) → gV A D T σ3 σ' ρ ρ' fr bv → rvF σ' d v (sg_g σ' 133 bv) → 8 * (3001 - w') + cr + 3 ≤ ((m' : Nat) : Int) → Rx X m' σ'
section GNL
variable {A : aT} {D : List aDf} {T B : Int → Int} {σb : sg_S} {X : sg_S → Prop} {call : Int → eV → Int → eR} {ds : kD} {f : Nat}
theorem gp_F (F : gxN A D T σb X B call ds f) (hA : A.1 ≤ 200) {x n : Int} {sc : List (Int × Int)} (hn : 0 ≤ n ∧ n < A.1) (hty : tyN A ds T B f sc x) {σ3 : sg_S} {m : Nat} {ρ : eV} {fr st b bv w sp ow cr : Int} {ip : Bool} (S3 : gS σb σ3 (fr + 1) bv w) (f0 : 0 ≤ fr) (T3 : gxT σ3 fr n st b sp) (hsp : 0 ≤ sp ∧ sp ≤ w) (h131 : sg_g σ3 131 fr = ow) (how : 0 ≤ ow ∧ ow ≤ w) (hs : scR A D T σ3 ρ sc) (hip : if ip then ¬ v_isInPlaces σ3 fr = 0 else v_isInPlaces σ3 fr = 0) (hm : 8 * (3001 - w) + cr ≤ (m : Int)) (hcr : 0 ≤ cr) (k : kG1 A D T σb X σ3 ρ n fr st b bv sp ow cr ip (T x).toNat (evN A T B call f x ρ w)) (Q' : sg_S → Prop) (hQ : ∀ σ', Rx X m σ' → Q' σ') : V_begin σ3 x Q' := by
  refine F x sc hty σ3 m ρ (fr + 1) bv w cr S3 (fun _ => ?_) hs hm hcr ?_ Q' hQ
  · rw [show fr + 1 - 1 = fr by omega, T3.1, T3.2.2.2, h131]
    exact ⟨⟨hn.1, by omega⟩, hsp, how⟩
  · generalize evN A T B call f x ρ w = r at k
    match r, k with
    | .inl (e, w'), k => exact k
    | .inr (v, w1, s1, ρ1), k =>
      intro σ4 m4 S4 U4 v4 hm4
      obtain ⟨u1, u2, u3, u4, u5, u6⟩ := id U4
      rw [show fr + 1 - 1 = fr by omega] at u5
      obtain ⟨⟨w1', w2', w3', w4', w5'⟩, w6, w7⟩ := u5 (by omega)
      cases ip with
      | false =>
        obtain ⟨w8, w9⟩ := w6 (by simpa using hip)
        exact k σ4 m4 S4 ⟨by rw [w1']; exact T3.1, by rw [w2']; exact T3.2.1, by rw [w3']; exact T3.2.2.1, by simp only [Bool.false_eq_true, if_false]; rw [w8, T3.2.2.2]⟩ (by simp only [Bool.false_eq_true, if_false]; rw [w9]; exact h131) ⟨w4', w5'⟩ (gU_V U4 (Int.le_refl _)) v4 hm4
      | true =>
        obtain ⟨w8, w9⟩ := w7 (by simpa using hip)
        exact k σ4 m4 S4 ⟨by rw [w1']; exact T3.1, by rw [w2']; exact T3.2.1, by rw [w3']; exact T3.2.2.1, by simp only [if_true]; rw [w8, T3.2.2.2]⟩ (by simp only [if_true]; rw [w9, h131]) ⟨w4', w5'⟩ (gU_V U4 (Int.le_refl _)) v4 hm4
/-- a stage is told -/
theorem gs_w {σ σ3 : sg_S} {fr bv w n s s' b sp : Int} {ρ : eV} {b' : Int} (S : gS σb σ (fr + 1) bv w) (hT : gxT σ fr n s b sp) (hs : sg_R s') (e3 : σ3 = sg_w σ 127 fr s') : gS σb σ3 (fr + 1) bv w ∧ gxT σ3 fr n s' b sp ∧ sg_F [127] σ σ3 ∧ gV A D T σ σ3 ρ ρ fr b' := by
  have f3 : sg_F [127] σ σ3 := by rw [e3]; exact sg_F_w (sg_F_r _ _) rfl _
  refine ⟨gS_w S f3 rfl (sg_F_m f3 rfl) (by rw [sg_F_g f3 (by rfl)]; exact S.2.2.1.2.1) ⟨S.2.2.2.1.2.1, Int.le_refl _⟩, ⟨by rw [sg_F_ga f3 rfl]; exact hT.1, by rw [e3, sg_gw_e _ _ _ _ hs], by rw [sg_F_ga f3 rfl]; exact hT.2.2.1, by rw [sg_F_ga f3 rfl]; exact hT.2.2.2⟩, f3, nEx_F f3 rfl, fun y _ => sg_F_ga f3 rfl, fun y hy => rlR_up hy (nEx_F f3 rfl) (sg_F_ga f3 rfl), fun i hi => ⟨sg_F_ga f3 rfl, by rw [e3, sg_gw_k _ _ _ _ _ _ (by omega)], sg_F_ga f3 rfl, sg_F_ga f3 rfl, sg_F_ga f3 rfl, sg_F_ga f3 rfl, sg_F_ga f3 rfl⟩⟩
theorem P_up {σ : sg_S} {fr w w' : Int} (h : gPa σ fr w) (hw : w ≤ w') : gPa σ fr w' := fun z => by
  have := h z
  exact ⟨this.1, ⟨this.2.1.1, by omega⟩, ⟨this.2.2.1, by omega⟩⟩
theorem gN_let (hX : pgX σb A D T B) (hcB : gB (evN A T B call f)) (F : gxN A D T σb X B call ds f) {n : Int} {sc : List (Int × Int)} (hk : A.2.1 n = 2) (hty : tyN A ds T B (f + 1) sc n) {σ : sg_S} {m : Nat} {ρ : eV} {fr b w cr : Int} (hS : gS σb σ fr b w) (hP : gPa σ fr w) (hs : scR A D T σ ρ sc) (hm : 8 * (3001 - w) + cr ≤ (m : Int)) (hcr : 0 ≤ cr) (k : kG A D T σb X σ ρ fr b cr (T n).toNat (evN A T B call (f + 1) n ρ w)) (Q : sg_S → Prop) (hQ : ∀ σ', Rx X m σ' → Q σ') : V_begin σ n Q := by
  obtain ⟨t1, t2, t3, t4, t5, t6, t7, t8, t9⟩ := hty
  have hA := hX.2.2.2.2.1
  obtain ⟨a1, a2, ⟨a3, a4, a5⟩, a6, a7, a8, a9, a10⟩ := id hS
  obtain ⟨w1, w2, w3, w4, w5, w6, w7, w8⟩ := id t1
  have hl2 := w3 (Or.inl hk)
  obtain ⟨a, d, hk2⟩ := kid2 hl2
  obtain ⟨ta, td⟩ := t7 hk a d hk2
  have e6 : T d = T n := by
    have := t5 (by omega)
    rw [kTy_2 hk, hk2] at this
    simpa using this
  have btn : bTy A D T n = T a := by rw [bTw_l (by omega), hk2]; rfl
  rw [eN_2 hk, hk2] at k
  simp only [List.getD_cons_zero, List.getD_cons_succ] at k
  refine gb_begin (A := A) (D := D) (T := T) (ρ := ρ) hS ⟨t2.1, by omega⟩ hQ (fun z σ' f' e' h' w' => ?_) (fun z σ1 S1 T1 r1 V1 => ?_)
  · rw [if_neg z] at k; exact k σ' f' e' h' w'
  rw [if_pos z] at k
  have X1 := gX hX S1.1
  obtain ⟨m, rfl⟩ : ∃ m', m = m' + 1 := ⟨m - 1, by omega⟩
  refine rx_g (by rw [S1.2.2.1.1]; omega) S1.2.1 (fun Qz hz => gt_part X1 t2 S1.2.2.1.1 ⟨a6.1, by omega⟩ T1 (by omega) (by omega) (fun z => by omega) (by rw [hk2]; simp) (gt_go (j := 0) X1 t2 ⟨a6.1, by omega⟩ T1.1 T1.2.1 ⟨by omega, by omega⟩ (by rw [hk2]; rfl) (fun σ3 e3 => ?_)))
  obtain ⟨S3, T3, f3, V3⟩ := gs_w (A := A) (D := D) (T := T) (ρ := ρ) (b' := b) S1 T1 (by decide) e3
  have V13 := gV_t V1 V3 ⟨Int.le_refl _, Int.le_refl _⟩ ⟨Int.le_refl _, Int.le_refl _⟩
  have X3 := gX hX S3.1
  refine gp_F F hA t2 ta (ip := false) (ow := 0) (cr := cr + 7) S3 a6.1 T3 ⟨by omega, by omega⟩ (by rw [sg_F_ga f3 rfl]; exact r1.2.1) ⟨by omega, by omega⟩ (scR_u hs V13) (ip_0 X3 t2 T3 (Or.inl (by omega))) (by omega) (by omega) ?_ _ (fun σ' hR _ _ _ => hz σ' hR)
  have bnd := hcB a ρ (w + 1)
  generalize evN A T B call f a ρ (w + 1) = r at k bnd
  match r, k, bnd with
  | .inl (e, w'), k, _ => exact k
  | .inr (v, w1', s1, ρ1), k, bnd =>
    intro σ4 m4 S4 T4 h131 r4 V4 v4 hm4
    have bb := bnd v w1' s1 ρ1 z rfl
    simp only [Bool.false_eq_true, if_false] at T4 h131
    simp only at k
    have X4 := gX hX S4.1
    obtain ⟨c1, c2, ⟨c3, c4, c5⟩, c6, c7, c8, c9, c10⟩ := id S4
    have V14 := gV_t V13 V4 ⟨Int.le_refl _, Int.le_refl _⟩ ⟨Int.le_refl _, Int.le_refl _⟩
    obtain ⟨m4, rfl⟩ : ∃ m', m4 = m' + 1 := ⟨m4 - 1, by omega⟩
    refine rx_g (by omega) c2 (fun Qz hz => gt_let (x := b) X4 t2 c3 ⟨a6.1, by omega⟩ T4 hk hl2 c4 ⟨a6.2.1, by omega⟩ (fun σ9 e9 => ?_))
    have f9 : sg_F [134, 71088] σ4 σ9 := by rw [e9]; exact sg_F_w (sg_F_w (sg_F_r _ _) rfl _) rfl _
    have S9 : gS σb σ9 (fr + 1) b w1' := gS_w S4 f9 rfl (sg_F_m f9 rfl) (by rw [e9, sg_gw_c _ _ _ _ _ _ (by decide), sg_gw_e _ _ _ _ ⟨by omega, by omega⟩]) ⟨a6.2.1, by omega⟩
    have T9 : gxT σ9 fr n 1 b (1 + s1) := ⟨by rw [sg_F_ga f9 rfl]; exact T4.1, by rw [sg_F_ga f9 rfl]; exact T4.2.1, by rw [sg_F_ga f9 rfl]; exact T4.2.2.1, by rw [sg_F_ga f9 rfl]; exact T4.2.2.2⟩
    have x9 : nEx σ4 σ9 := nEx_F f9 rfl
    have b9 : sg_g σ9 134 n = sg_g σ4 133 b := by rw [e9, sg_gw_e _ _ _ _ (sg_Rg _ _ _)]
    have o9 : ∀ y, ¬ y = n → sg_g σ9 134 y = sg_g σ4 134 y := fun y hy => by rw [e9, sg_gw_k _ _ _ _ _ _ hy, sg_gw_c _ _ _ _ _ _ (by decide)]
    have rn : rlR A D T σ9 (eUp ρ1 n v) n := by
      unfold rlR
      rw [b9, btn]
      unfold eUp
      rw [if_pos rfl]
      exact rvF_up x9 v4
    have V9 : gV A D T σ4 σ9 ρ1 (eUp ρ1 n v) fr b := ⟨x9, fun y _ => sg_F_ga f9 rfl, fun y hy => by
      by_cases cy : y = n
      · subst cy; exact rn
      · have e : eUp ρ1 n v y = ρ1 y := by unfold eUp; rw [if_neg cy]
        unfold rlR
        rw [e, o9 y cy]
        exact rvF_up x9 hy, fun i _ => ⟨sg_F_ga f9 rfl, sg_F_ga f9 rfl, sg_F_ga f9 rfl, sg_F_ga f9 rfl, sg_F_ga f9 rfl, sg_F_ga f9 rfl, sg_F_ga f9 rfl⟩⟩
    have V19 := gV_t V14 V9 ⟨Int.le_refl _, Int.le_refl _⟩ ⟨Int.le_refl _, Int.le_refl _⟩
    have X9 := gX hX S9.1
    refine gt_go (j := 1) X9 t2 ⟨a6.1, by omega⟩ T9.1 T9.2.1 ⟨by omega, by omega⟩ (by rw [hk2]; rfl) (fun σ5 e5 => ?_)
    obtain ⟨S5, T5, f5, V5⟩ := gs_w (A := A) (D := D) (T := T) (ρ := eUp ρ1 n v) (b' := b) S9 T9 (by decide) e5
    have V15 := gV_t V19 V5 ⟨Int.le_refl _, Int.le_refl _⟩ ⟨Int.le_refl _, Int.le_refl _⟩
    have X5 := gX hX S5.1
    have r131 : sg_g σ5 131 fr = 0 := by rw [sg_F_ga f5 rfl, sg_F_ga f9 rfl]; exact h131
    refine gp_F F hA t2 td (ip := false) (ρ := eUp ρ1 n v) (cr := cr + 9) S5 a6.1 T5 ⟨by omega, by omega⟩ r131 ⟨by omega, by omega⟩ (fun p hp => ?_) (ip_0 X5 t2 T5 (Or.inl (by omega))) (by omega) (by omega) ?_ _ (fun σ' hR _ _ _ => hz σ' hR)
    · rcases List.mem_cons.mp hp with e | e
      · subst e
        exact ⟨⟨t2.1, by omega⟩, btn.symm, V5.2.2.1 _ rn⟩
      · exact scR_u hs V15 p e
    · have bnd2 := hcB d (eUp ρ1 n v) w1'
      generalize evN A T B call f d (eUp ρ1 n v) w1' = r2 at k bnd2
      match r2, k, bnd2 with
      | .inl (e, w'), k, _ => exact k
      | .inr (v2, w2', s2, ρ2), k, bnd2 =>
        intro σ6 m6 S6 T6 h131' r6 V6 v6 hm6
        have bb2 := bnd2 v2 w2' s2 ρ2 c7.2 rfl
        simp only [Bool.false_eq_true, if_false] at T6 h131'
        simp only at k
        have X6 := gX hX S6.1
        obtain ⟨d1, d2, ⟨d3, d4, d5⟩, d6, d7, d8, d9, d10⟩ := id S6
        have V16 := gV_t V15 V6 ⟨Int.le_refl _, Int.le_refl _⟩ ⟨Int.le_refl _, Int.le_refl _⟩
        obtain ⟨tr1, tr2, tr3, tr4, tr5⟩ := tr_k X6.1 t2
        obtain ⟨m6, rfl⟩ : ∃ m', m6 = m' + 1 := ⟨m6 - 1, by omega⟩
        refine rx_g (by omega) d2 (fun Qz hz => gt_end X6 t2 d3 ⟨a6.1, by omega⟩ T6 (by omega) (by omega) (fun _ => by decide) (by rw [hl2]; decide) (fun z => by omega) ?_)
        unfold V_endNested V_endNested_2
        rw [tr1, hk]
        refine ⟨⟨t2.1, by omega⟩, fun z => absurd z (by decide), fun _ => ⟨fun z => absurd z (by decide), fun _ => ⟨fun _ => ⟨⟨a6.2.1, by omega⟩, fun y => absurd d2 y, fun _ => ?_⟩, fun z => absurd rfl z⟩⟩⟩
        rw [e6] at v6
        refine gl_leave (σ := σ) (K := 2) (c := 0) (w := w2') (sp := 1 + s1 + s2) (cr := cr) (m := m6) (ρ2 := ρ2) hX a1 t2 d1 d2 d3 d5 ⟨a6.1, d6.2.2.1, d6.2.2.2⟩ d7 a6.2.1 (by omega) T6 ⟨by omega, by omega⟩ (P_up hP (by omega)) V16 (sg_Rg _ _ _) v6 hk (Or.inl ⟨rfl, by decide, rfl⟩) ⟨by decide, by decide⟩ (by omega) (by omega) (by omega) (by rw [Int.add_zero, if_pos d7.2]; exact k) (fun σ' hR _ _ _ => hz σ' hR)
theorem gN_if (hX : pgX σb A D T B) (hcB : gB (evN A T B call f)) (F : gxN A D T σb X B call ds f) {n : Int} {sc : List (Int × Int)} (hk : A.2.1 n = 3) (hty : tyN A ds T B (f + 1) sc n) {σ : sg_S} {m : Nat} {ρ : eV} {fr b w cr : Int} (hS : gS σb σ fr b w) (hP : gPa σ fr w) (hs : scR A D T σ ρ sc) (hm : 8 * (3001 - w) + cr ≤ (m : Int)) (hcr : 0 ≤ cr) (k : kG A D T σb X σ ρ fr b cr (T n).toNat (evN A T B call (f + 1) n ρ w)) (Q : sg_S → Prop) (hQ : ∀ σ', Rx X m σ' → Q σ') : V_begin σ n Q := by
  obtain ⟨t1, t2, t3, t4, t5, t6, t7, t8, t9⟩ := hty
  have hA := hX.2.2.2.2.1
  obtain ⟨a1, a2, ⟨a3, a4, a5⟩, a6, a7, a8, a9, a10⟩ := id hS
  obtain ⟨w1, w2, w3, w4, w5, w6, w7, w8⟩ := id t1
  have hl3 := w4 hk
  obtain ⟨a, c, d, hk2⟩ : ∃ a c d, A.2.2.2.2.1 n = [a, c, d] := by
    match hh : A.2.2.2.2.1 n, hl3 with
    | [a, c, d], _ => exact ⟨a, c, d, rfl⟩
  have tk := t9 (by omega) (by omega)
  rw [hk2] at tk
  have e6 := t5 (by omega)
  rw [kTy_3 hk, hk2] at e6
  obtain ⟨i1, i2, i3⟩ := kIs_in e6
  simp only [List.map_cons, List.map_nil, List.getD_cons_zero, List.getD_cons_succ, Bool.and_eq_true, decide_eq_true_eq] at i1 i3
  rw [eN_3 hk, hk2] at k
  simp only [List.getD_cons_zero] at k
  refine gb_begin (A := A) (D := D) (T := T) (ρ := ρ) hS ⟨t2.1, by omega⟩ hQ (fun z σ' f' e' h' w' => ?_) (fun z σ1 S1 T1 r1 V1 => ?_)
  · rw [if_neg z] at k; exact k σ' f' e' h' w'
  rw [if_pos z] at k
  have X1 := gX hX S1.1
  obtain ⟨m, rfl⟩ : ∃ m', m = m' + 1 := ⟨m - 1, by omega⟩
  refine rx_g (by rw [S1.2.2.1.1]; omega) S1.2.1 (fun Qz hz => gt_part X1 t2 S1.2.2.1.1 ⟨a6.1, by omega⟩ T1 (by omega) (by omega) (fun _ => Int.le_refl _) (by rw [hk2]; simp) (gt_go (j := 0) X1 t2 ⟨a6.1, by omega⟩ T1.1 T1.2.1 ⟨by omega, by omega⟩ (by rw [hk2]; rfl) (fun σ3 e3 => ?_)))
  obtain ⟨S3, T3, f3, V3⟩ := gs_w (A := A) (D := D) (T := T) (ρ := ρ) (b' := b) S1 T1 (by decide) e3
  have V13 := gV_t V1 V3 ⟨Int.le_refl _, Int.le_refl _⟩ ⟨Int.le_refl _, Int.le_refl _⟩
  have X3 := gX hX S3.1
  refine gp_F F hA t2 (tk a (by simp)) (ip := false) (ow := 0) (cr := cr + 7) S3 a6.1 T3 ⟨by omega, by omega⟩ (by rw [sg_F_ga f3 rfl]; exact r1.2.1) ⟨by omega, by omega⟩ (scR_u hs V13) (ip_0 X3 t2 T3 (Or.inl (by omega))) (by omega) (by omega) ?_ _ (fun σ' hR _ _ _ => hz σ' hR)
  have bnd := hcB a ρ (w + 1)
  generalize evN A T B call f a ρ (w + 1) = r at k bnd
  match r, k, bnd with
  | .inl (e, w'), k, _ => exact k
  | .inr (v, w1', s1, ρ1), k, bnd =>
    intro σ4 m4 S4 T4 h131 r4 V4 v4 hm4
    have bb := bnd v w1' s1 ρ1 z rfl
    simp only [Bool.false_eq_true, if_false] at T4 h131
    simp only at k
    have X4 := gX hX S4.1
    obtain ⟨c1, c2, ⟨c3, c4, c5⟩, c6, c7, c8, c9, c10⟩ := id S4
    have V14 := gV_t V13 V4 ⟨Int.le_refl _, Int.le_refl _⟩ ⟨Int.le_refl _, Int.le_refl _⟩
    rw [i3.1] at v4
    have ev : sg_g σ4 133 b = v [] := v4.symm
    obtain ⟨m4, rfl⟩ : ∃ m', m4 = m' + 1 := ⟨m4 - 1, by omega⟩
    refine rx_g (by omega) c2 (fun Qz hz => gt_if1 (x := b) X4 t2 c3 ⟨a6.1, by omega⟩ T4 hk c4 ⟨a6.2.1, by omega⟩ (fun σ9 e9 => ?_))
    have f9 : sg_F [71088] σ4 σ9 := by rw [e9]; exact sg_F_w (sg_F_r _ _) rfl _
    have S9 : gS σb σ9 (fr + 1) b w1' := gS_w S4 f9 rfl (sg_F_m f9 rfl) (by rw [e9, sg_gw_e _ _ _ _ ⟨by omega, by omega⟩]) ⟨a6.2.1, by omega⟩
    have T9 : gxT σ9 fr n 1 b (1 + s1) := ⟨by rw [sg_F_ga f9 rfl]; exact T4.1, by rw [sg_F_ga f9 rfl]; exact T4.2.1, by rw [sg_F_ga f9 rfl]; exact T4.2.2.1, by rw [sg_F_ga f9 rfl]; exact T4.2.2.2⟩
    have V9 : gV A D T σ4 σ9 ρ1 ρ1 fr b := gV_F f9 (nEx_F f9 rfl) rfl
    have V19 := gV_t V14 V9 ⟨Int.le_refl _, Int.le_refl _⟩ ⟨Int.le_refl _, Int.le_refl _⟩
    have X9 := gX hX S9.1
    rw [ev]
    -- the part that is chosen
    have ch : ∀ (j : Nat) (x : Int), (A.2.2.2.2.1 n)[j]? = some x → x ∈ [a, c, d] → T x = T n → (if v [] = 0 then (2 : Int) else 1) = (j : Int) → [a, c, d].getD (if v [] = 0 then 2 else 1) 0 = x → V_goPart σ9 fr (if v [] = 0 then (2 : Int) else 1) (fun σ' => sg_F bgL σ9 σ' → sg_F goL σ4 σ' → Qz σ') := fun j x hx hm' hT' hj hg => by
      rw [hj]
      rw [hg] at k
      refine gt_go (j := j) X9 t2 ⟨a6.1, by omega⟩ T9.1 T9.2.1 ⟨by omega, by omega⟩ hx (fun σ5 e5 => ?_)
      obtain ⟨S5, T5, f5, V5⟩ := gs_w (A := A) (D := D) (T := T) (ρ := ρ1) (b' := b) S9 T9 (by decide) e5
      have V15 := gV_t V19 V5 ⟨Int.le_refl _, Int.le_refl _⟩ ⟨Int.le_refl _, Int.le_refl _⟩
      have X5 := gX hX S5.1
      have r131 : sg_g σ5 131 fr = 0 := by rw [sg_F_ga f5 rfl, sg_F_ga f9 rfl]; exact h131
      refine gp_F F hA t2 (tk x hm') (ip := false) (ρ := ρ1) (cr := cr + 9) S5 a6.1 T5 ⟨by omega, by omega⟩ r131 ⟨by omega, by omega⟩ (scR_u hs V15) (ip_0 X5 t2 T5 (Or.inl (by omega))) (by omega) (by omega) ?_ _ (fun σ' hR _ _ _ => hz σ' hR)
      have bnd2 := hcB x ρ1 w1'
      generalize evN A T B call f x ρ1 w1' = r2 at k bnd2
      match r2, k, bnd2 with
      | .inl (e, w'), k, _ => exact k
      | .inr (v2, w2', s2, ρ2), k, bnd2 =>
        intro σ6 m6 S6 T6 h131' r6 V6 v6 hm6
        have bb2 := bnd2 v2 w2' s2 ρ2 c7.2 rfl
        simp only [Bool.false_eq_true, if_false] at T6 h131'
        simp only at k
        have X6 := gX hX S6.1
        obtain ⟨d1, d2, ⟨d3, d4, d5⟩, d6, d7, d8, d9, d10⟩ := id S6
        have V16 := gV_t V15 V6 ⟨Int.le_refl _, Int.le_refl _⟩ ⟨Int.le_refl _, Int.le_refl _⟩
        obtain ⟨m6, rfl⟩ : ∃ m', m6 = m' + 1 := ⟨m6 - 1, by omega⟩
        rw [hT'] at v6
        refine rx_g (by omega) d2 (fun Qz hz => gt_if2 X6 t2 d3 ⟨a6.1, by omega⟩ T6 hk ⟨a6.2.1, by omega⟩ (gl_leave (σ := σ) (K := 3) (c := 0) (w := w2') (sp := 1 + s1 + s2) (cr := cr) (m := m6) (ρ2 := ρ2) hX a1 t2 d1 d2 d3 d5 ⟨a6.1, d6.2.2.1, d6.2.2.2⟩ d7 a6.2.1 (by omega) T6 ⟨by omega, by omega⟩ (P_up hP (by omega)) V16 (sg_Rg _ _ _) v6 hk (Or.inl ⟨rfl, by decide, rfl⟩) ⟨by decide, by decide⟩ (by omega) (by omega) (by omega) (by rw [Int.add_zero, if_pos d7.2]; exact k) (fun σ' hR _ _ => hz σ' hR)))
    by_cases c0 : v [] = 0
    · exact ch 2 d (by rw [hk2]; rfl) (by simp) (by omega) (by rw [if_pos c0]; rfl) (by rw [if_pos c0]; rfl)
    · exact ch 1 c (by rw [hk2]; rfl) (by simp) (by omega) (by rw [if_neg c0]; rfl) (by rw [if_neg c0]; rfl)
end GNL
/-! THE NESTED RUN of the reference in big steps: calls. -/
/-- a call of DEF q, once its PARAMS are bound -/
def cLr (A : aT) (D : List aDf) (T : Int → Int) (σb : sg_S) (X : sg_S → Prop) (call : Int → eV → Int → eR) (q : Nat) : Prop := ∀ (x : aDf), D[q]? = some x → ∀ (σ : sg_S) (m : Nat) (ρ : eV) (fr b w cr : Int), gS σb σ fr b w → gPa σ fr w → (∀ j : Nat, j < x.2.2.1.length → rlR A D T σ ρ (1100 + 6 * (q : Int) + j)) → 8 * (3001 - w) + cr ≤ (m : Int) → 0 ≤ cr → kG A D T σb X σ ρ fr b cr (T x.2.2.2).toNat (call (q : Int) ρ w) → ∀ Q : sg_S → Prop, (∀ σ', Rx X m σ' → Q σ') → V_begin σ x.2.2.2 Q
theorem kDl_len (D : List aDf) (j : Nat) : (kDl (D.take j) []).length ≤ j := by
  have h := congrArg List.length (kDl_rev (D.take j) [])
  simp only [List.length_reverse, List.length_append, List.reverse_nil, List.length_nil, List.length_map, List.length_take] at h
  omega
section GNC
variable {A : aT} {D : List aDf} {T B : Int → Int} {σb : sg_S} {X : sg_S → Prop} {call : Int → eV → Int → eR} {f : Nat}
theorem gp_K {n : Int} {σ3 : sg_S} {ρ : eV} {fr st b bv sp ow cr : Int} {d : Nat} {r : eR} (f0 : 0 ≤ fr) (T3 : gxT σ3 fr n st b sp) (h131 : sg_g σ3 131 fr = ow) (hip : v_isInPlaces σ3 fr = 0) (k : kG1 A D T σb X σ3 ρ n fr st b bv sp ow cr false d r) : kG A D T σb X σ3 ρ (fr + 1) bv cr d r := by
  match r, k with
  | .inl (e, w'), k => exact k
  | .inr (v, w1, s1, ρ1), k =>
    intro σ4 m4 S4 U4 v4 hm4
    obtain ⟨u1, u2, u3, u4, u5, u6⟩ := id U4
    rw [show fr + 1 - 1 = fr by omega] at u5
    obtain ⟨⟨w1', w2', w3', w4', w5'⟩, w6, w7⟩ := u5 (by omega)
    obtain ⟨w8, w9⟩ := w6 hip
    exact k σ4 m4 S4 ⟨by rw [w1']; exact T3.1, by rw [w2']; exact T3.2.1, by rw [w3']; exact T3.2.2.1, by simp only [Bool.false_eq_true, if_false]; rw [w8, T3.2.2.2]⟩ (by simp only [Bool.false_eq_true, if_false]; rw [w9]; exact h131) ⟨w4', w5'⟩ (gU_V U4 (Int.le_refl _)) v4 hm4
/-- what is bound at once, from binder b0 on -/
theorem rlR_us {σ σ1 : sg_S} {ρ : eV} {b0 : Int} {vs : List vaF} (ex : nEx σ σ1) (hi : ∀ (j : Nat) (v : vaF), vs[j]? = some v → rvF σ1 (bTy A D T (b0 + j)).toNat v (sg_g σ1 134 (b0 + j))) (ho : ∀ x, ¬ (b0 ≤ x ∧ x < b0 + vs.length) → sg_g σ1 134 x = sg_g σ 134 x) : (∀ j : Nat, j < vs.length → rlR A D T σ1 (eUs ρ b0 0 vs) (b0 + j)) ∧ ∀ x, rlR A D T σ ρ x → rlR A D T σ1 (eUs ρ b0 0 vs) x := by
  have h1 : ∀ j : Nat, j < vs.length → rlR A D T σ1 (eUs ρ b0 0 vs) (b0 + j) := fun j hj => by
    obtain ⟨v, hv'⟩ := gE_x hj
    have := eUs_at (b := b0) (ρ := ρ) (i := 0) hv'
    simp only [Int.ofNat_zero, Int.cast_ofNat_Int, Int.add_zero] at this
    unfold rlR
    rw [this]
    exact hi j v hv'
  refine ⟨h1, fun x hr => ?_⟩
  by_cases c : b0 ≤ x ∧ x < b0 + vs.length
  · have := h1 (x - b0).toNat (by omega)
    rw [show b0 + (((x - b0).toNat : Nat) : Int) = x by omega] at this
    exact this
  · have e : eUs ρ b0 0 vs x = ρ x := eUs_no (ρ := ρ) (i := 0) (by simp only [Int.ofNat_zero, Int.cast_ofNat_Int, Int.add_zero]; omega)
    unfold rlR
    rw [e, ho x c]
    exact rvF_up ex hr
theorem gN_call {jd : Nat} (hX : pgX σb A D T B) (hcB : gB (evN A T B call f)) (hgC : gB call) (hC : ∀ q : Nat, q < jd → cLr A D T σb X call q) (F : gxN A D T σb X B call (kDl (D.take jd) []) f) {n : Int} {sc : List (Int × Int)} (hk : A.2.1 n = 13) (hty : tyN A (kDl (D.take jd) []) T B (f + 1) sc n) {σ : sg_S} {m : Nat} {ρ : eV} {fr b w cr : Int} (hS : gS σb σ fr b w) (hP : gPa σ fr w) (hs : scR A D T σ ρ sc) (hm : 8 * (3001 - w) + cr ≤ (m : Int)) (hcr : 0 ≤ cr) (k : kG A D T σb X σ ρ fr b cr (T n).toNat (evN A T B call (f + 1) n ρ w)) (Q : sg_S → Prop) (hQ : ∀ σ', Rx X m σ' → Q σ') : V_begin σ n Q := by
  obtain ⟨t1, t2, t3, t4, t5, t6, t7, t8, t9⟩ := hty
  have hA := hX.2.2.2.2.1
  obtain ⟨a1, a2, ⟨a3, a4, a5⟩, a6, a7, a8, a9, a10⟩ := id hS
  have n2 : ¬ A.2.1 n = 2 := by omega
  have n3 : ¬ A.2.1 n = 3 := by omega
  have n15 : ¬ A.2.1 n = 15 := by omega
  have gx := t6 hk
  have g := t5 (by omega)
  rw [kTy_c hk] at g
  obtain ⟨y, ed⟩ : ∃ y, kDef (kDl (D.take jd) []) (A.2.2.2.1 n) = some y := by
    cases ed : kDef (kDl (D.take jd) []) (A.2.2.2.1 n) with
    | none => rw [ed] at g; cases g
    | some y => exact ⟨y, rfl⟩
  obtain ⟨d0, x, dx, ey⟩ := kD_at gx ed
  rw [ed, ey] at g
  simp only at g
  obtain ⟨g1, g2, g3⟩ := kIs_in g
  simp only [decide_eq_true_eq] at g3
  obtain ⟨hd1, hd2, hd3⟩ := id hX.2.1
  obtain ⟨hx1, hx2, hx3, hx4⟩ := hd3 _ x dx
  have d12 : (B n).toNat < D.length := gE_l dx
  have ebd : ((B n).toNat : Int) = B n := by omega
  have l6 := hx4.2.1
  have lk : (A.2.2.2.2.1 n).length = x.2.2.1.length := by
    have := congrArg List.length g3
    simpa using this
  have qj : (B n).toNat < jd := by
    have h1 := kDx_r gx
    have h2 := kDl_len D jd
    omega
  have cl := hC (B n).toNat qj x dx
  rw [ebd] at cl
  rw [eN_13 hk] at k
  refine gb_begin (A := A) (D := D) (T := T) (ρ := ρ) hS ⟨t2.1, by omega⟩ hQ (fun z σ' f' e' h' w' => ?_) (fun z σ1 S1 T1 r1 V1 => ?_)
  · rw [if_neg z] at k; exact k σ' f' e' h' w'
  rw [if_pos z] at k
  refine gRow hX hcB F (sc := sc) (off := 0) t2 (go_op t2 n15 n3 n2) (A.2.2.2.2.1 n) 0 (fun i y hy => by rw [Nat.zero_add, Nat.zero_add]; exact hy) (fun c => absurd c n15) (t9 n2 n15) σ1 m ρ fr b (w + 1) 1 (cr + 7) (by simp only [Int.ofNat_zero, Int.cast_ofNat_Int, Int.add_zero]; exact S1) a6.1 a6.2.1 T1 ⟨by omega, by omega⟩ (by rw [r1.2.1]; exact ⟨by omega, by omega⟩) (scR_u hs V1) (by omega) (by omega) ?_
  have bnd := eS_b hcB (A.2.2.2.2.1 n) ρ (w + 1)
  generalize eS (evN A T B call f) (A.2.2.2.2.1 n) ρ (w + 1) = r at k bnd
  match r, k, bnd with
  | .inl (e, w'), k, _ => exact k
  | .inr (vs, w1', s1, ρ1), k, bnd =>
    intro σ2 m2 lv S2 T2 sp2 r2 V2 v2 hm2
    have bb := bnd vs w1' s1 ρ1 z rfl
    simp only at k
    simp only [Int.ofNat_zero, Int.cast_ofNat_Int, Int.add_zero, Nat.zero_add] at S2 T2 V2 v2
    have X2 := gX hX S2.1
    obtain ⟨c1, c2, ⟨c3, c4, c5⟩, c6, c7, c8, c9, c10⟩ := id S2
    have V12 := gV_t V1 V2 ⟨Int.le_refl _, Int.le_refl _⟩ ⟨Int.le_refl _, Int.le_refl _⟩
    obtain ⟨m2, rfl⟩ : ∃ m', m2 = m' + 1 := ⟨m2 - 1, by omega⟩
    refine rx_g (by omega) c2 (fun Qz hz => gt_call (q := B n) X2 t2 c3 ⟨a6.1, by omega⟩ T2 hk rfl (by omega) rfl ⟨d0, by omega⟩ ⟨a6.2.1, by omega⟩ (fun σ3 f3 y1 y2 y3 y4 y5 => ?_))
    have e105 : sg_g σ2 105 (B n) = x.2.2.2 := by
      rw [← hx3, ebd]
      exact sg_F_ga c1 rfl
    rw [e105]
    have ex : nEx σ2 σ3 := nEx_F f3 rfl
    have S3 : gS σb σ3 (fr + 1) b w1' := gS_w S2 f3 rfl (sg_F_m f3 rfl) y5 ⟨a6.2.1, by omega⟩
    have T3 : gxT σ3 fr n ((A.2.2.2.2.1 n).length + 1) b (1 + s1) := ⟨by rw [sg_F_ga f3 rfl]; exact T2.1, y3, by rw [sg_F_ga f3 rfl]; exact T2.2.2.1, by rw [sg_F_ga f3 rfl]; exact T2.2.2.2⟩
    have bt : ∀ (j : Nat) (y : Int), (A.2.2.2.2.1 n)[j]? = some y → bTy A D T (1100 + 6 * B n + j) = T y := fun j y hy => by
      have hj := gE_l hy
      obtain ⟨p, hp⟩ := gE_x (l := x.2.2.1) (i := j) (by omega)
      rw [← ebd, bTy_p dx hp (by omega)]
      have h1 : ((A.2.2.2.2.1 n).map T)[j]? = (x.2.2.1.map (·.2.2))[j]? := by rw [g3]
      rw [List.getElem?_map, List.getElem?_map, hy, hp] at h1
      simpa using h1.symm
    obtain ⟨r3, r4⟩ := rlR_us (A := A) (D := D) (T := T) (ρ := ρ1) (b0 := 1100 + 6 * B n) (vs := vs) ex (fun j v hv => by
      have hj := gE_l hv
      obtain ⟨y, hy⟩ := gE_x (l := A.2.2.2.2.1 n) (i := j) (by omega)
      rw [bt j y hy, y1 j (by omega)]
      exact rvF_up ex (v2 j y v hy hv)) (fun y hy => y2 y (by rw [← lv]; exact hy))
    have V23 : gV A D T σ2 σ3 ρ1 (eUs ρ1 (1100 + 6 * B n) 0 vs) fr b := ⟨ex, fun y _ => sg_F_ga f3 rfl, r4, fun i hi => ⟨sg_F_ga f3 rfl, y4 i (by omega), sg_F_ga f3 rfl, sg_F_ga f3 rfl, sg_F_ga f3 rfl, sg_F_ga f3 rfl, sg_F_ga f3 rfl⟩⟩
    have V13 := gV_t V12 V23 ⟨Int.le_refl _, Int.le_refl _⟩ ⟨Int.le_refl _, Int.le_refl _⟩
    have X3 := gX hX S3.1
    have r131 : sg_g σ3 131 fr = 0 := by rw [sg_F_ga f3 rfl, r2.2.1, r1.2.1]
    refine cl σ3 m2 (eUs ρ1 (1100 + 6 * B n) 0 vs) (fr + 1) b w1' (cr + 6) S3 (fun _ => ?_) (fun j hj => r3 j (by omega)) (by omega) (by omega) ?_ _ (fun σ' hR _ _ => hz σ' hR)
    · rw [show fr + 1 - 1 = fr by omega, T3.1, T3.2.2.2, r131]
      exact ⟨⟨t2.1, by omega⟩, sp2, by omega, by omega⟩
    · refine gp_K (st := (A.2.2.2.2.1 n).length + 1) (ow := 0) a6.1 T3 r131 (ip_0 X3 t2 T3 (Or.inl n15)) ?_
      have bnd2 := hgC (B n) (eUs ρ1 (1100 + 6 * B n) 0 vs) w1'
      generalize call (B n) (eUs ρ1 (1100 + 6 * B n) 0 vs) w1' = r5 at k bnd2
      match r5, k, bnd2 with
      | .inl (e, w'), k, _ => exact k
      | .inr (v3, w2', s2, ρ2), k, bnd2 =>
        intro σ6 m6 S6 T6 h131' r6 V6 v6 hm6
        have bb2 := bnd2 v3 w2' s2 ρ2 c7.2 rfl
        simp only [Bool.false_eq_true, if_false] at T6 h131'
        simp only at k
        have X6 := gX hX S6.1
        obtain ⟨d1, d2, ⟨d3, d4, d5⟩, d6, d7, d8, d9, d10⟩ := id S6
        have V16 := gV_t V13 V6 ⟨Int.le_refl _, Int.le_refl _⟩ ⟨Int.le_refl _, Int.le_refl _⟩
        obtain ⟨tr1, tr2, tr3, tr4, tr5⟩ := tr_k X6.1 t2
        obtain ⟨m6, rfl⟩ : ∃ m', m6 = m' + 1 := ⟨m6 - 1, by omega⟩
        refine rx_g (by omega) d2 (fun Qz hz => gt_end X6 t2 d3 ⟨a6.1, by omega⟩ T6 n15 n3 (fun z => absurd z n2) (by omega) (fun _ => by omega) ?_)
        unfold V_endNested V_endNested_2
        rw [tr1, hk]
        refine ⟨⟨t2.1, by omega⟩, fun z => absurd z (by decide), fun _ => ⟨fun z => absurd z (by decide), fun _ => ⟨fun z => absurd z (by decide), fun _ => ⟨fun z => absurd z (by decide), fun _ => ⟨fun z => absurd z (by decide), fun _ => ⟨fun _ => ⟨⟨a6.2.1, by omega⟩, fun y => absurd d2 y, fun _ => ?_⟩, fun z => absurd rfl z⟩⟩⟩⟩⟩⟩
        rw [← g1] at v6
        refine gl_leave (σ := σ) (K := 13) (c := 0) (w := w2') (sp := 1 + s1 + s2) (cr := cr) (m := m6) (ρ2 := ρ2) hX a1 t2 d1 d2 d3 d5 ⟨a6.1, d6.2.2.1, d6.2.2.2⟩ d7 a6.2.1 (by omega) T6 ⟨by omega, by omega⟩ (P_up hP (by omega)) V16 (sg_Rg _ _ _) v6 hk (Or.inl ⟨rfl, by decide, rfl⟩) ⟨by decide, by decide⟩ (by omega) (by omega) (by omega) (by rw [Int.add_zero, if_pos d7.2]; exact k) (fun σ' hR _ _ _ => hz σ' hR)
end GNC
