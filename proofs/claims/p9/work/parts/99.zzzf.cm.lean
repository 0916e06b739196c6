/-! finish, finishOne, finishTwo of the class, exactly. -/
def fnX (σ σ' : sg_S) (D : Nat) (rs : List (Int ⊕ vaF)) (t c : Int) (s : fSt) : Prop := (fStp (exF D (rs.map fOv)) s = none ∧ sg_g σ' 61 10 = 8 ∧ ctX σ' s) ∨ ∃ s1, fStp (exF D (rs.map fOv)) s = some s1 ∧ ctX σ' s1 ∧ sg_g σ' 61 10 = fOe rs ∧ (fOe rs = 0 → mC σ' c ∧ yEx σ σ' ∧ yX σ' D (sg_g σ' 64 t) (rs.map fOv) ∧ sg_g σ' 61 7 = t + 1 ∧ ∀ i, i < t → sg_g σ' 64 i = sg_g σ 64 i)
theorem gw_fn {L : List Nat} {σ σ7 σ' : sg_S} {D : Nat} {rs : List (Int ⊕ vaF)} {t c : Int} {s : fSt} (hm : mC σ c) (hs : ctX σ s) (f7 : sg_F L σ σ7) (hL : (sg_ca L 77 && sg_ca L 78 && sg_ca L 79 && sg_ca L 80 && sg_ca L 81 && sg_ca L 82 && sg_ca L 64) = true) (r : gwX σ7 σ' D rs t s) : fnX σ σ' D rs t c s := by
  simp only [Bool.and_eq_true] at hL
  obtain ⟨⟨⟨⟨⟨⟨l1, l2⟩, l3⟩, l4⟩, l5⟩, l6⟩, l7⟩ := hL
  obtain ⟨L', x1, x2, r⟩ := r
  rcases r with ⟨z1, z2, z3⟩ | ⟨s1, z1, z2, z3, z4, z5, z6, z7, z8, z9, z10⟩
  · exact Or.inl ⟨by rw [← x1]; exact z1, z2, z3⟩
  · refine Or.inr ⟨s1, by rw [← x1]; exact z1, z3, z2, fun e0 => ?_⟩
    obtain ⟨m1, m2, m3, m4, m5⟩ := hm
    have q : ∀ k, sg_g σ7 77 k = sg_g σ 77 k := fun k => sg_F_ga f7 l1
    rw [q] at z10
    have ex : yEx σ σ7 := yEx_x (q _) (q _) (fun v _ _ => ⟨sg_F_ga f7 l4, sg_F_ga f7 l5, sg_F_ga f7 l6⟩) (fun x _ => ⟨sg_F_ga f7 l2, sg_F_ga f7 l3⟩)
    have st := (fStp_s z1).1
    obtain ⟨c1, c2, c3, c4, c5⟩ := id z3
    obtain ⟨d1, d2, d3, d4, d5⟩ := id hs
    rw [x2 e0] at z7
    exact ⟨⟨z5, z6, z2.trans e0, by omega, by omega⟩, yEx_t ex z4, z7, z8, fun i hi => by rw [z9 i (by omega), sg_F_ga f7 l7]⟩
section FNX
variable {σ : sg_S} {Q : sg_S → Prop}
theorem fin1X {a k ta ty t c x : Int} {n : Nat} {la : List vaF} {s : fSt} (ha : 0 ≤ a ∧ a < 200) (hm : mC σ c) (hs : ctX σ s) (hc : 4 ≤ c) (ht : sg_g σ 61 7 = t + 1) (h0 : 0 ≤ t ∧ t < 400) (h23 : sg_g σ 61 23 = n) (hn : n ≤ 6000) (h3 : sg_g σ 3 a = kmp k) (h6 : sg_g σ 6 a = ty) (hty : ty ≤ 3) (hta : 0 ≤ ta ∧ ta ≤ 3) (hv : yX σ ta.toNat (sg_g σ 64 t) la) (hla : la.length = n) (ho : op1 k ta ty) (kk : ∀ σ', sg_F fnL σ σ' → fnX σ σ' ty.toNat (fOl k ty x [la] n) t c s → Q σ') : V_mFinishOne σ a Q := by
  unfold V_mFinishOne
  rw [xa_in (a := 6) ha, xa_in (a := 3) ha, h6, h3]
  refine y_pop ht h0 (fun σ2 f2 t2 _ _ σ7 e7 => ?_)
  have f7 : sg_F [10061] σ2 σ7 := by rw [e7]; exact sg_F_w (sg_F_r _ _) rfl _
  have F7 : sg_F [8061, 10061] σ σ7 := sg_F_t (sg_F_m f2 rfl) (sg_F_m f7 rfl)
  have ex7 : yEx σ σ7 := yEx_F F7 rfl
  obtain ⟨m1, m2, m3, m4, m5⟩ := id hm
  have hP : fP σ7 t := fP_mk ⟨m1, m2, by omega, m5, by omega⟩ F7 (by rw [sg_F_g f7 (by rfl)]; exact t2) h0 rfl
  have hs7 : ctX σ7 s := ctX_F F7 rfl hs
  have d9 : ∀ d : Nat, ty = d → sg_g σ7 61 9 = d := fun d hd => by rw [e7, sg_gw_e _ _ _ _ ⟨by omega, by omega⟩]; exact hd
  have n7 : sg_g σ7 61 23 = n := by rw [sg_F_g F7 (by rfl)]; exact h23
  have fin : ∀ (d : Nat) (σ' : sg_S), ty = d → sg_F opL σ7 σ' → gwX σ7 σ' d ((List.range n).map (fO1 k ty x [la])) t s → Q σ' := fun d σ' hd f' r' => by
    refine kk σ' (sg_F_t (sg_F_m F7 rfl) (sg_F_m f' rfl)) ?_
    rw [show ty.toNat = d by omega]
    exact gw_fn hm hs F7 rfl r'
  have vv : ∀ d : Nat, ta = d → yX σ7 d (sg_g σ 64 t) la := fun d hd => by
    rw [show ta.toNat = d by omega] at hv
    exact yX_up ex7 hv
  have nn : ∀ d : Nat, ta = (d + 1 : Nat) → ∀ i, i < n → ((itF (la.getD i (nmF 0))).length : Int) = (la.getD i (nmF 0)) [] := fun d hd i hi => by
    have v := vv (d + 1) hd
    rw [← (yX_ln hP.1 v (j := i) (by omega)).1]
    exact (yX_cell hP.1 v (i := i) (by omega)).1
  rcases ho with ⟨e, q1, q2⟩ | ⟨e, q1, q2⟩ | ⟨e, q1, q2⟩ | ⟨e, q1, q2⟩ | ⟨e, q1, q2⟩ | ⟨e, q1, q2⟩
  · subst e
    refine ⟨fun _ => ?_, fun z => absurd rfl z⟩
    unfold V_mFinishOne_35
    obtain ⟨d, hd⟩ : ∃ d : Nat, ta = (d + 1 : Nat) := ⟨(ta - 1).toNat, by omega⟩
    refine o_measure (f := fO1 11 ty x [la]) hP hs7 (d9 0 q2) n7 (vv (d + 1) hd) hla (fun i hi => ?_) (fun σ' f' r' _ => fin 0 σ' q2 f' r')
    rw [fO_11, ← nn d hd i hi]
    exact rfl
  · subst e
    refine ⟨fun z => absurd z (by decide), fun _ => ⟨fun _ => ?_, fun z => absurd rfl z⟩⟩
    unfold V_mFinishOne_267
    exact o_countUp (f := fO1 16 ty x [la]) hP hs7 (d9 1 q2) n7 (vv 0 q1) hla (fun i hi => fO_16 (vs := [la])) (fun σ' f' r' _ => fin 1 σ' q2 f' r')
  · have kd : V_mFinishOne_d σ7 (kmp k) (sg_g σ 64 t) Q := by
      unfold V_mFinishOne_d
      exact o_reduce (f := fO1 k ty x [la]) e hP hs7 (d9 0 q2) n7 (vv 1 q1) hla (fun i hi => Eq.trans (fO_gn (vs := [la]) (by omega) (show 0 ≤ (la.getD i (nmF 0)) [] by rw [← nn 0 (by omega) i hi]; omega)) (if_neg (by omega))) (fun σ' f' r' _ => fin 0 σ' q2 f' r')
    rcases e with e | e | e <;> subst e <;> exact ⟨fun z => absurd z (by decide), fun _ => ⟨fun z => absurd z (by decide), fun _ => ⟨fun z => absurd z (by decide), fun _ => ⟨fun z => absurd z (by decide), fun _ => ⟨fun z => absurd z (by decide), fun _ => kd⟩⟩⟩⟩⟩
  · subst e
    refine ⟨fun z => absurd z (by decide), fun _ => ⟨fun z => absurd z (by decide), fun _ => ⟨fun _ => ?_, fun z => absurd rfl z⟩⟩⟩
    unfold V_mFinishOne_272
    exact o_sumUp (f := fO1 21 ty x [la]) hP hs7 (d9 1 q2) n7 (vv 1 q1) hla (fun i hi => Eq.trans (fO_gn (vs := [la]) (by omega) (show 0 ≤ (la.getD i (nmF 0)) [] by rw [← nn 0 (by omega) i hi]; omega)) (if_pos rfl)) (fun σ' f' r' _ => fin 1 σ' q2 f' r')
  · subst e
    refine ⟨fun z => absurd z (by decide), fun _ => ⟨fun z => absurd z (by decide), fun _ => ⟨fun z => absurd z (by decide), fun _ => ⟨fun _ => ?_, fun z => absurd rfl z⟩⟩⟩⟩
    unfold V_mFinishOne_273
    obtain ⟨d, hd⟩ : ∃ d : Nat, ta = (d + 1 : Nat) := ⟨(ta - 1).toNat, by omega⟩
    exact o_reverse (d := d) (f := fO1 22 ty x [la]) hP hs7 (by omega) (d9 (d + 1) (by omega)) n7 (vv (d + 1) hd) hla (fun i hi => fO_22 (vs := [la])) (fun σ' f' r' _ => fin (d + 1) σ' (by omega) f' r')
  · subst e
    refine ⟨fun z => absurd z (by decide), fun _ => ⟨fun z => absurd z (by decide), fun _ => ⟨fun z => absurd z (by decide), fun _ => ⟨fun z => absurd z (by decide), fun _ => ⟨fun _ => ?_, fun z => absurd rfl z⟩⟩⟩⟩⟩
    unfold V_mFinishOne_275
    obtain ⟨d, hd⟩ : ∃ d : Nat, ta = (d + 2 : Nat) := ⟨(ta - 2).toNat, by omega⟩
    exact o_flatten (d := d) (f := fO1 24 ty x [la]) hP hs7 (by omega) (d9 (d + 1) (by omega)) n7 (vv (d + 2) hd) hla (fun i hi => fO_24 (vs := [la])) (fun σ' f' r' _ => fin (d + 1) σ' (by omega) f' r')
theorem fin2X {a k ta tb ty t c x : Int} {n : Nat} {la lb : List vaF} {s : fSt} (ha : 0 ≤ a ∧ a < 200) (hm : mC σ c) (hs : ctX σ s) (hc : 4 ≤ c) (ht : sg_g σ 61 7 = t + 2) (h0 : 0 ≤ t ∧ t + 2 ≤ 400) (h23 : sg_g σ 61 23 = n) (hn : n ≤ 6000) (h3 : sg_g σ 3 a = kmp k) (h6 : sg_g σ 6 a = ty) (hty : ty ≤ 3) (hta : 0 ≤ ta ∧ ta ≤ 3) (hv : yX σ ta.toNat (sg_g σ 64 t) la) (hw : yX σ tb.toNat (sg_g σ 64 (t + 1)) lb) (hla : la.length = n) (hlb : lb.length = n) (ho : op2 k ta tb ty) (kk : ∀ σ', sg_F fnL σ σ' → fnX σ σ' ty.toNat (fOl k ty x [la, lb] n) t c s → Q σ') : V_mFinishTwo σ a Q := by
  unfold V_mFinishTwo
  rw [xa_in (a := 6) ha, xa_in (a := 3) ha, h6, h3]
  refine y_pop (t := t + 1) (by omega) (by omega) (fun σ2 f2 t2 _ _ => y_pop (t := t) t2 (by omega) (fun σ8 f8 t8 _ _ σ7 e7 => ?_))
  rw [show sg_g σ2 64 t = sg_g σ 64 t from sg_F_ga f2 rfl]
  have f7 : sg_F [10061] σ8 σ7 := by rw [e7]; exact sg_F_w (sg_F_r _ _) rfl _
  have F7 : sg_F [8061, 10061] σ σ7 := sg_F_t (sg_F_t (sg_F_m f2 rfl) (sg_F_m f8 rfl)) (sg_F_m f7 rfl)
  have ex7 : yEx σ σ7 := yEx_F F7 rfl
  obtain ⟨m1, m2, m3, m4, m5⟩ := id hm
  have hP : fP σ7 t := fP_mk ⟨m1, m2, by omega, m5, by omega⟩ F7 (by rw [sg_F_g f7 (by rfl)]; exact t8) (by omega) rfl
  have hs7 : ctX σ7 s := ctX_F F7 rfl hs
  have ty0 : 0 ≤ ty := by
    unfold op2 at ho; omega
  have d9 : ∀ d : Nat, ty = d → sg_g σ7 61 9 = d := fun d hd => by rw [e7, sg_gw_e _ _ _ _ ⟨by omega, by omega⟩]; exact hd
  have n7 : sg_g σ7 61 23 = n := by rw [sg_F_g F7 (by rfl)]; exact h23
  have fin : ∀ (d : Nat) (σ' : sg_S), ty = d → sg_F opL σ7 σ' → gwX σ7 σ' d ((List.range n).map (fO1 k ty x [la, lb])) t s → Q σ' := fun d σ' hd f' r' => by
    refine kk σ' (sg_F_t (sg_F_m F7 rfl) (sg_F_m f' rfl)) ?_
    rw [show ty.toNat = d by omega]
    exact gw_fn hm hs F7 rfl r'
  have vv : ∀ d : Nat, ta = d → yX σ7 d (sg_g σ 64 t) la := fun d hd => by
    rw [show ta.toNat = d by omega] at hv
    exact yX_up ex7 hv
  have ww : ∀ d : Nat, tb = d → yX σ7 d (sg_g σ 64 (t + 1)) lb := fun d hd => by
    rw [show tb.toNat = d by omega] at hw
    exact yX_up ex7 hw
  rcases ho with ⟨e, q1, q2, q3⟩ | ⟨e, q1, q2, q3⟩ | ⟨e, q2, q3⟩ | ⟨e, q1, q2, q3⟩ | ⟨e, q1, q2, q3⟩ | ⟨e, q1, q2, q3⟩
  · have kd : V_mFinishTwo_d σ7 (kmp k) (sg_g σ 64 (t + 1)) (sg_g σ 64 t) Q := by
      unfold V_mFinishTwo_d
      exact o_combine (f := fO1 k ty x [la, lb]) e hP hs7 (d9 0 q3) n7 (vv 0 q1) (ww 0 q2) hla hlb (fun i hi => fO_op (vs := [la, lb]) (by omega)) (fun σ' f' r' _ => fin 0 σ' q3 f' r')
    have c : k = 4 ∨ k = 5 ∨ k = 6 ∨ k = 7 ∨ k = 8 ∨ k = 9 ∨ k = 10 := by omega
    rcases c with e | e | e | e | e | e | e <;> subst e <;> exact ⟨fun z => absurd z (by decide), fun _ => ⟨fun z => absurd z (by decide), fun _ => ⟨fun z => absurd z (by decide), fun _ => ⟨fun z => absurd z (by decide), fun _ => ⟨fun z => absurd z (by decide), fun _ => ⟨fun z => absurd z (by decide), fun _ => kd⟩⟩⟩⟩⟩⟩
  · subst e
    refine ⟨fun _ => ?_, fun z => absurd rfl z⟩
    unfold V_mFinishTwo_91
    obtain ⟨d, hd⟩ : ∃ d : Nat, ta = (d + 1 : Nat) := ⟨(ta - 1).toNat, by omega⟩
    exact o_select (d := d) (f := fO1 12 ty x [la, lb]) hP hs7 (by omega) (d9 d (by omega)) n7 (vv (d + 1) hd) (ww 0 q2) hla hlb (fun i hi => fO_12 (vs := [la, lb])) (fun σ' f' r' _ => fin d σ' (by omega) f' r')
  · subst e
    refine ⟨fun z => absurd z (by decide), fun _ => ⟨fun _ => ?_, fun z => absurd rfl z⟩⟩
    unfold V_mFinishTwo_268
    obtain ⟨d, hd⟩ : ∃ d : Nat, ta = (d : Nat) := ⟨ta.toNat, by omega⟩
    exact o_repeat (d := d) (f := fO1 17 ty x [la, lb]) hP hs7 (by omega) (d9 (d + 1) (by omega)) n7 (vv d hd) (ww 0 q2) hla hlb (fun i hi => fO_17 (vs := [la, lb])) (fun σ' f' r' _ => fin (d + 1) σ' (by omega) f' r')
  · subst e
    refine ⟨fun z => absurd z (by decide), fun _ => ⟨fun z => absurd z (by decide), fun _ => ⟨fun _ => ?_, fun z => absurd rfl z⟩⟩⟩
    unfold V_mFinishTwo_274
    obtain ⟨d, hd⟩ : ∃ d : Nat, ta = (d + 1 : Nat) := ⟨(ta - 1).toNat, by omega⟩
    exact o_append (d := d) (f := fO1 23 ty x [la, lb]) hP hs7 (by omega) (d9 (d + 1) (by omega)) n7 (vv (d + 1) hd) (ww (d + 1) (by omega)) hla hlb (fun i hi => fO_23 (vs := [la, lb])) (fun σ' f' r' _ => fin (d + 1) σ' (by omega) f' r')
  · obtain ⟨d, hd⟩ : ∃ d : Nat, ta = (d + 1 : Nat) := ⟨(ta - 1).toNat, by omega⟩
    rcases e with e | e
    · subst e
      refine ⟨fun z => absurd z (by decide), fun _ => ⟨fun z => absurd z (by decide), fun _ => ⟨fun z => absurd z (by decide), fun _ => ⟨fun _ => ?_, fun z => absurd rfl z⟩⟩⟩⟩
      unfold V_mFinishTwo_276
      exact o_pack (d := d) (f := fO1 25 ty x [la, lb]) hP hs7 (by omega) (d9 (d + 1) (by omega)) n7 (vv (d + 1) hd) (ww 1 q2) hla hlb (fun i hi => fO_25 (vs := [la, lb])) (fun σ' f' r' _ => fin (d + 1) σ' (by omega) f' r')
    · subst e
      refine ⟨fun z => absurd z (by decide), fun _ => ⟨fun z => absurd z (by decide), fun _ => ⟨fun z => absurd z (by decide), fun _ => ⟨fun z => absurd z (by decide), fun _ => ⟨fun _ => ?_, fun z => absurd rfl z⟩⟩⟩⟩⟩
      unfold V_mFinishTwo_277
      exact o_permute (d := d) (f := fO1 26 ty x [la, lb]) hP hs7 (by omega) (d9 (d + 1) (by omega)) n7 (vv (d + 1) hd) (ww 1 q2) hla hlb (fun i hi => fO_26 (vs := [la, lb])) (fun σ' f' r' _ => fin (d + 1) σ' (by omega) f' r')
  · subst e
    obtain ⟨d, hd⟩ : ∃ d : Nat, ta = (d + 1 : Nat) := ⟨(ta - 1).toNat, by omega⟩
    refine ⟨fun z => absurd z (by decide), fun _ => ⟨fun z => absurd z (by decide), fun _ => ⟨fun z => absurd z (by decide), fun _ => ⟨fun z => absurd z (by decide), fun _ => ⟨fun z => absurd z (by decide), fun _ => ⟨fun _ => ?_, fun z => absurd rfl z⟩⟩⟩⟩⟩⟩
    unfold V_mFinishTwo_278
    exact o_divide (d := d) (f := fO1 27 ty x [la, lb]) hP hs7 (by omega) (d9 (d + 2) (by omega)) n7 (vv (d + 1) hd) (ww 1 q2) hla hlb (fun i hi => fO_27 (vs := [la, lb])) (fun σ' f' r' _ => fin (d + 2) σ' (by omega) f' r')
/-- a node is begun in n lanes, exactly -/
theorem f_beginX {a : Int} {n : Nat} {s : fSt} (ha : 0 ≤ a ∧ a < 200) (hn : sg_g σ 61 23 = n) (h10 : sg_g σ 61 10 = 0) (hs : ctX σ s) (k1 : fBg n s = none → ∀ σ', sg_F [69, 11061, 18077, 19077, 25061] σ σ' → sg_g σ' 61 10 = 8 → ctX σ' s → Q σ') (k2 : ∀ s1, fBg n s = some s1 → ∀ σ', sg_F [69, 18077, 19077, 25061] σ σ' → sg_g σ' 61 10 = 0 → ctX σ' s1 → sg_g σ' 69 a = n → (∀ i, ¬ i = a → sg_g σ' 69 i = sg_g σ 69 i) → Q σ') : V_fBegin σ a Q := by
  obtain ⟨c1, c2, c3, c4, c5⟩ := id hs
  have rn := sg_Rg σ 61 23
  rw [hn] at rn
  unfold V_fBegin
  intro σ1 e1
  rw [xp_in ha, hn] at e1
  have f1 : sg_F [69] σ σ1 := by rw [e1]; exact sg_F_w (sg_F_r _ _) rfl _
  have s1 : sg_g σ1 77 17 = s.1 := by rw [sg_F_g f1 (by rfl)]; exact c1
  unfold V_lStep
  refine ⟨fun z => ⟨⟨by omega, by omega⟩, fun σ3 e3 _ f3 => ⟨fun y => absurd y (by decide), fun _ v14 e14 r14 σ17 e17 => ?_⟩⟩, fun z σ6 e6 _ f6 => ⟨fun _ σ11 e11 => ?_, fun y => absurd rfl y⟩⟩
  · have f17 : sg_F [25061] σ3 σ17 := by rw [e17]; exact sg_F_w (sg_F_r _ _) rfl _
    have F : sg_F [69, 18077, 19077, 25061] σ σ17 := sg_F_t (sg_F_t (sg_F_m f1 rfl) (sg_F_m f3 rfl)) (sg_F_m f17 rfl)
    have e0 : fStp 0 s = some (s.1 + 1, s.2.1 + 0, s.2.2) := fStp_e (by omega)
    have g17 : sg_g σ17 77 17 = s.1 + 1 := by rw [sg_F_g f17 (by rfl), e3, sg_gw_e _ _ _ _ ⟨by omega, by omega⟩, s1]
    have g16 : sg_g σ17 77 16 = s.2.1 := by rw [sg_F_g F (by rfl)]; exact c2
    have g24 : sg_g σ17 61 24 = if s.2.2 < (n : Int) then (n : Int) else s.2.2 := by
      rw [e17, sg_gw_e _ _ _ _ r14, e14, c3, hn]
    refine k2 (s.1 + 1, s.2.1 + 0, if s.2.2 < (n : Int) then (n : Int) else s.2.2) (by unfold fBg; rw [e0]) σ17 F (by rw [sg_F_g F (by rfl)]; exact h10) ⟨g17, by rw [g16]; show s.2.1 = s.2.1 + 0; omega, g24, ⟨by show 0 ≤ s.1 + 1; omega, by show s.1 + 1 ≤ 2000; omega⟩, by show 0 ≤ s.2.1 + 0; omega, by show s.2.1 + 0 ≤ 6000; omega⟩ ?_ (fun i hi => ?_)
    · rw [sg_F_ga f17 rfl, sg_F_ga f3 rfl, e1, sg_gw_e _ _ _ _ rn]
    · rw [sg_F_ga f17 rfl, sg_F_ga f3 rfl, e1, sg_gw_k _ _ _ _ _ _ hi]
  · have f11 : sg_F [11061] σ6 σ11 := by rw [e11]; exact sg_F_w (sg_F_r _ _) rfl _
    have F : sg_F [69, 11061, 18077, 19077, 25061] σ σ11 := sg_F_t (sg_F_t (sg_F_m f1 rfl) (sg_F_m f6 rfl)) (sg_F_m f11 rfl)
    refine k1 ?_ σ11 F ?_ (ctX_F (L := [69, 11061, 19077]) ?_ rfl hs)
    · unfold fBg
      rw [fStp_n.mpr (Or.inl (by omega))]
    · rw [e11, sg_gw_e _ _ _ _ (by decide)]
    · have f6' : sg_F [19077] σ1 σ6 := by rw [e6]; exact sg_F_w (sg_F_r _ _) rfl _
      exact sg_F_t (sg_F_t (sg_F_m f1 rfl) (sg_F_m f6' rfl)) (sg_F_m f11 rfl)
end FNX
