/-! THE NESTED RUN of the reference in big steps: calls. -/
/-- a call of DEF q, once its PARAMS are bound -/
def cLr (A : aT) (D : List aDf) (T : Int → Int) (σb : sg_S) (X : sg_S → Prop) (call : Int → eV → Int → eR) (q : Nat) : Prop := ∀ (x : aDf), D[q]? = some x → ∀ (σ : sg_S) (m : Nat) (ρ : eV) (fr b w cr : Int), gS σb σ fr b w → gPa σ fr w → (∀ j : Nat, j < x.2.2.1.length → rlR A D T σ ρ (1100 + 6 * (q : Int) + j)) → 8 * (3001 - w) + cr ≤ (m : Int) → 0 ≤ cr → kG A D T σb X σ ρ fr b cr (T x.2.2.2).toNat (call (q : Int) ρ w) → ∀ Q : sg_S → Prop, (∀ σ', Rx X m σ' → Q σ') → V_begin σ x.2.2.2 Q
theorem kDl_len (D : List aDf) (j : Nat) : (kDl (D.take j) []).length ≤ j := by
  have h := congrArg List.length (kDl_rev (D.take j) [])
  simp only [List.length_reverse, List.length_append, List.reverse_nil, List.length_nil, List.length_map, List.length_take] at h
  omega
section GNC
variable {A : aT} {D : List aDf} {T B : Int → Int} {σb : sg_S} {X : sg_S → Prop} {call : Int → eV → Int → eR} {f : Nat}
theorem gp_K {n : Int} {σ3 : sg_S} {ρ : eV} {fr st b bv sp ow cr : Int} {d : Nat} {r : eR} (f0 : 0 ≤ fr) (T3 : gxT σ3 fr n st b sp) (h131 : sg_g σ3 131 fr = ow) (hip : v_isInPlaces σ3 fr = 0) (k : kG1 A D T σb X σ3 ρ n fr st b bv sp ow cr false d r) : kG A D T σb X σ3 ρ (fr + 1) bv cr d r := by
  match r, k with
  | .inl (e, w'), k => exact k
  | .inr (v, w1, s1, ρ1), k =>
    intro σ4 m4 S4 U4 v4 hm4
    obtain ⟨u1, u2, u3, u4, u5, u6⟩ := id U4
    rw [show fr + 1 - 1 = fr by omega] at u5
    obtain ⟨⟨w1', w2', w3', w4', w5'⟩, w6, w7⟩ := u5 (by omega)
    obtain ⟨w8, w9⟩ := w6 hip
    exact k σ4 m4 S4 ⟨by rw [w1']; exact T3.1, by rw [w2']; exact T3.2.1, by rw [w3']; exact T3.2.2.1, by simp only [Bool.false_eq_true, if_false]; rw [w8, T3.2.2.2]⟩ (by simp only [Bool.false_eq_true, if_false]; rw [w9]; exact h131) ⟨w4', w5'⟩ (gU_V U4 (Int.le_refl _)) v4 hm4
/-- what is bound at once, from binder b0 on -/
theorem rlR_us {σ σ1 : sg_S} {ρ : eV} {b0 : Int} {vs : List vaF} (ex : nEx σ σ1) (hi : ∀ (j : Nat) (v : vaF), vs[j]? = some v → rvF σ1 (bTy A D T (b0 + j)).toNat v (sg_g σ1 134 (b0 + j))) (ho : ∀ x, ¬ (b0 ≤ x ∧ x < b0 + vs.length) → sg_g σ1 134 x = sg_g σ 134 x) : (∀ j : Nat, j < vs.length → rlR A D T σ1 (eUs ρ b0 0 vs) (b0 + j)) ∧ ∀ x, rlR A D T σ ρ x → rlR A D T σ1 (eUs ρ b0 0 vs) x := by
  have h1 : ∀ j : Nat, j < vs.length → rlR A D T σ1 (eUs ρ b0 0 vs) (b0 + j) := fun j hj => by
    obtain ⟨v, hv'⟩ := gE_x hj
    have := eUs_at (b := b0) (ρ := ρ) (i := 0) hv'
    simp only [Int.ofNat_zero, Int.cast_ofNat_Int, Int.add_zero] at this
    unfold rlR
    rw [this]
    exact hi j v hv'
  refine ⟨h1, fun x hr => ?_⟩
  by_cases c : b0 ≤ x ∧ x < b0 + vs.length
  · have := h1 (x - b0).toNat (by omega)
    rw [show b0 + (((x - b0).toNat : Nat) : Int) = x by omega] at this
    exact this
  · have e : eUs ρ b0 0 vs x = ρ x := eUs_no (ρ := ρ) (i := 0) (by simp only [Int.ofNat_zero, Int.cast_ofNat_Int, Int.add_zero]; omega)
    unfold rlR
    rw [e, ho x c]
    exact rvF_up ex hr
theorem gN_call {jd : Nat} (hX : pgX σb A D T B) (hcB : gB (evN A T B call f)) (hgC : gB call) (hC : ∀ q : Nat, q < jd → cLr A D T σb X call q) (F : gxN A D T σb X B call (kDl (D.take jd) []) f) {n : Int} {sc : List (Int × Int)} (hk : A.2.1 n = 13) (hty : tyN A (kDl (D.take jd) []) T B (f + 1) sc n) {σ : sg_S} {m : Nat} {ρ : eV} {fr b w cr : Int} (hS : gS σb σ fr b w) (hP : gPa σ fr w) (hs : scR A D T σ ρ sc) (hm : 8 * (3001 - w) + cr ≤ (m : Int)) (hcr : 0 ≤ cr) (k : kG A D T σb X σ ρ fr b cr (T n).toNat (evN A T B call (f + 1) n ρ w)) (Q : sg_S → Prop) (hQ : ∀ σ', Rx X m σ' → Q σ') : V_begin σ n Q := by
  obtain ⟨t1, t2, t3, t4, t5, t6, t7, t8, t9⟩ := hty
  have hA := hX.2.2.2.2.1
  obtain ⟨a1, a2, ⟨a3, a4, a5⟩, a6, a7, a8, a9, a10⟩ := id hS
  have n2 : ¬ A.2.1 n = 2 := by omega
  have n3 : ¬ A.2.1 n = 3 := by omega
  have n15 : ¬ A.2.1 n = 15 := by omega
  have gx := t6 hk
  have g := t5 (by omega)
  rw [kTy_c hk] at g
  obtain ⟨y, ed⟩ : ∃ y, kDef (kDl (D.take jd) []) (A.2.2.2.1 n) = some y := by
    cases ed : kDef (kDl (D.take jd) []) (A.2.2.2.1 n) with
    | none => rw [ed] at g; cases g
    | some y => exact ⟨y, rfl⟩
  obtain ⟨d0, x, dx, ey⟩ := kD_at gx ed
  rw [ed, ey] at g
  simp only at g
  obtain ⟨g1, g2, g3⟩ := kIs_in g
  simp only [decide_eq_true_eq] at g3
  obtain ⟨hd1, hd2, hd3⟩ := id hX.2.1
  obtain ⟨hx1, hx2, hx3, hx4⟩ := hd3 _ x dx
  have d12 : (B n).toNat < D.length := gE_l dx
  have ebd : ((B n).toNat : Int) = B n := by omega
  have l6 := hx4.2.1
  have lk : (A.2.2.2.2.1 n).length = x.2.2.1.length := by
    have := congrArg List.length g3
    simpa using this
  have qj : (B n).toNat < jd := by
    have h1 := kDx_r gx
    have h2 := kDl_len D jd
    omega
  have cl := hC (B n).toNat qj x dx
  rw [ebd] at cl
  rw [eN_13 hk] at k
  refine gb_begin (A := A) (D := D) (T := T) (ρ := ρ) hS ⟨t2.1, by omega⟩ hQ (fun z σ' f' e' h' w' => ?_) (fun z σ1 S1 T1 r1 V1 => ?_)
  · rw [if_neg z] at k; exact k σ' f' e' h' w'
  rw [if_pos z] at k
  refine gRow hX hcB F (sc := sc) (off := 0) t2 (go_op t2 n15 n3 n2) (A.2.2.2.2.1 n) 0 (fun i y hy => by rw [Nat.zero_add, Nat.zero_add]; exact hy) (fun c => absurd c n15) (t9 n2 n15) σ1 m ρ fr b (w + 1) 1 (cr + 7) (by simp only [Int.ofNat_zero, Int.cast_ofNat_Int, Int.add_zero]; exact S1) a6.1 a6.2.1 T1 ⟨by omega, by omega⟩ (by rw [r1.2.1]; exact ⟨by omega, by omega⟩) (scR_u hs V1) (by omega) (by omega) ?_
  have bnd := eS_b hcB (A.2.2.2.2.1 n) ρ (w + 1)
  generalize eS (evN A T B call f) (A.2.2.2.2.1 n) ρ (w + 1) = r at k bnd
  match r, k, bnd with
  | .inl (e, w'), k, _ => exact k
  | .inr (vs, w1', s1, ρ1), k, bnd =>
    intro σ2 m2 lv S2 T2 sp2 r2 V2 v2 hm2
    have bb := bnd vs w1' s1 ρ1 z rfl
    simp only at k
    simp only [Int.ofNat_zero, Int.cast_ofNat_Int, Int.add_zero, Nat.zero_add] at S2 T2 V2 v2
    have X2 := gX hX S2.1
    obtain ⟨c1, c2, ⟨c3, c4, c5⟩, c6, c7, c8, c9, c10⟩ := id S2
    have V12 := gV_t V1 V2 ⟨Int.le_refl _, Int.le_refl _⟩ ⟨Int.le_refl _, Int.le_refl _⟩
    obtain ⟨m2, rfl⟩ : ∃ m', m2 = m' + 1 := ⟨m2 - 1, by omega⟩
    refine rx_g (by omega) c2 (fun Qz hz => gt_call (q := B n) X2 t2 c3 ⟨a6.1, by omega⟩ T2 hk rfl (by omega) rfl ⟨d0, by omega⟩ ⟨a6.2.1, by omega⟩ (fun σ3 f3 y1 y2 y3 y4 y5 => ?_))
    have e105 : sg_g σ2 105 (B n) = x.2.2.2 := by
      rw [← hx3, ebd]
      exact sg_F_ga c1 rfl
    rw [e105]
    have ex : nEx σ2 σ3 := nEx_F f3 rfl
    have S3 : gS σb σ3 (fr + 1) b w1' := gS_w S2 f3 rfl (sg_F_m f3 rfl) y5 ⟨a6.2.1, by omega⟩
    have T3 : gxT σ3 fr n ((A.2.2.2.2.1 n).length + 1) b (1 + s1) := ⟨by rw [sg_F_ga f3 rfl]; exact T2.1, y3, by rw [sg_F_ga f3 rfl]; exact T2.2.2.1, by rw [sg_F_ga f3 rfl]; exact T2.2.2.2⟩
    have bt : ∀ (j : Nat) (y : Int), (A.2.2.2.2.1 n)[j]? = some y → bTy A D T (1100 + 6 * B n + j) = T y := fun j y hy => by
      have hj := gE_l hy
      obtain ⟨p, hp⟩ := gE_x (l := x.2.2.1) (i := j) (by omega)
      rw [← ebd, bTy_p dx hp (by omega)]
      have h1 : ((A.2.2.2.2.1 n).map T)[j]? = (x.2.2.1.map (·.2.2))[j]? := by rw [g3]
      rw [List.getElem?_map, List.getElem?_map, hy, hp] at h1
      simpa using h1.symm
    obtain ⟨r3, r4⟩ := rlR_us (A := A) (D := D) (T := T) (ρ := ρ1) (b0 := 1100 + 6 * B n) (vs := vs) ex (fun j v hv => by
      have hj := gE_l hv
      obtain ⟨y, hy⟩ := gE_x (l := A.2.2.2.2.1 n) (i := j) (by omega)
      rw [bt j y hy, y1 j (by omega)]
      exact rvF_up ex (v2 j y v hy hv)) (fun y hy => y2 y (by rw [← lv]; exact hy))
    have V23 : gV A D T σ2 σ3 ρ1 (eUs ρ1 (1100 + 6 * B n) 0 vs) fr b := ⟨ex, fun y _ => sg_F_ga f3 rfl, r4, fun i hi => ⟨sg_F_ga f3 rfl, y4 i (by omega), sg_F_ga f3 rfl, sg_F_ga f3 rfl, sg_F_ga f3 rfl, sg_F_ga f3 rfl, sg_F_ga f3 rfl⟩⟩
    have V13 := gV_t V12 V23 ⟨Int.le_refl _, Int.le_refl _⟩ ⟨Int.le_refl _, Int.le_refl _⟩
    have X3 := gX hX S3.1
    have r131 : sg_g σ3 131 fr = 0 := by rw [sg_F_ga f3 rfl, r2.2.1, r1.2.1]
    refine cl σ3 m2 (eUs ρ1 (1100 + 6 * B n) 0 vs) (fr + 1) b w1' (cr + 6) S3 (fun _ => ?_) (fun j hj => r3 j (by omega)) (by omega) (by omega) ?_ _ (fun σ' hR _ _ => hz σ' hR)
    · rw [show fr + 1 - 1 = fr by omega, T3.1, T3.2.2.2, r131]
      exact ⟨⟨t2.1, by omega⟩, sp2, by omega, by omega⟩
    · refine gp_K (st := (A.2.2.2.2.1 n).length + 1) (ow := 0) a6.1 T3 r131 (ip_0 X3 t2 T3 (Or.inl n15)) ?_
      have bnd2 := hgC (B n) (eUs ρ1 (1100 + 6 * B n) 0 vs) w1'
      generalize call (B n) (eUs ρ1 (1100 + 6 * B n) 0 vs) w1' = r5 at k bnd2
      match r5, k, bnd2 with
      | .inl (e, w'), k, _ => exact k
      | .inr (v3, w2', s2, ρ2), k, bnd2 =>
        intro σ6 m6 S6 T6 h131' r6 V6 v6 hm6
        have bb2 := bnd2 v3 w2' s2 ρ2 c7.2 rfl
        simp only [Bool.false_eq_true, if_false] at T6 h131'
        simp only at k
        have X6 := gX hX S6.1
        obtain ⟨d1, d2, ⟨d3, d4, d5⟩, d6, d7, d8, d9, d10⟩ := id S6
        have V16 := gV_t V13 V6 ⟨Int.le_refl _, Int.le_refl _⟩ ⟨Int.le_refl _, Int.le_refl _⟩
        obtain ⟨tr1, tr2, tr3, tr4, tr5⟩ := tr_k X6.1 t2
        obtain ⟨m6, rfl⟩ : ∃ m', m6 = m' + 1 := ⟨m6 - 1, by omega⟩
        refine rx_g (by omega) d2 (fun Qz hz => gt_end X6 t2 d3 ⟨a6.1, by omega⟩ T6 n15 n3 (fun z => absurd z n2) (by omega) (fun _ => by omega) ?_)
        unfold V_endNested V_endNested_2
        rw [tr1, hk]
        refine ⟨⟨t2.1, by omega⟩, fun z => absurd z (by decide), fun _ => ⟨fun z => absurd z (by decide), fun _ => ⟨fun z => absurd z (by decide), fun _ => ⟨fun z => absurd z (by decide), fun _ => ⟨fun z => absurd z (by decide), fun _ => ⟨fun _ => ⟨⟨a6.2.1, by omega⟩, fun y => absurd d2 y, fun _ => ?_⟩, fun z => absurd rfl z⟩⟩⟩⟩⟩⟩
        rw [← g1] at v6
        refine gl_leave (σ := σ) (K := 13) (c := 0) (w := w2') (sp := 1 + s1 + s2) (cr := cr) (m := m6) (ρ2 := ρ2) hX a1 t2 d1 d2 d3 d5 ⟨a6.1, d6.2.2.1, d6.2.2.2⟩ d7 a6.2.1 (by omega) T6 ⟨by omega, by omega⟩ (P_up hP (by omega)) V16 (sg_Rg _ _ _) v6 hk (Or.inl ⟨rfl, by decide, rfl⟩) ⟨by decide, by decide⟩ (by omega) (by omega) (by omega) (by rw [Int.add_zero, if_pos d7.2]; exact k) (fun σ' hR _ _ _ => hz σ' hR)
end GNC
