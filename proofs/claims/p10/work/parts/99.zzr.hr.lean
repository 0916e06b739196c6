/-! finish, finishOne, finishTwo. -/
abbrev fnL : List Nat := 10061 :: opL
def fnR (σ σ' : sg_S) (D : Nat) (n t c : Int) : Prop := ¬ sg_g σ' 61 10 = 0 ∨ (mC σ' c ∧ yEx σ σ' ∧ yV σ' D (sg_g σ' 64 t) n ∧ sg_g σ' 61 7 = t + 1 ∧ ∀ i, i < t → sg_g σ' 64 i = sg_g σ 64 i)
theorem gv_fn {L : List Nat} {σ σ7 σ' : sg_S} {D : Nat} {n t c : Int} (hm : mC σ c) (f7 : sg_F L σ σ7) (hL : (sg_ca L 77 && sg_ca L 78 && sg_ca L 79 && sg_ca L 80 && sg_ca L 81 && sg_ca L 82 && sg_ca L 64) = true) (r : gvR σ7 σ' D n t) : fnR σ σ' D n t c := by
  simp only [Bool.and_eq_true] at hL
  obtain ⟨⟨⟨⟨⟨⟨l1, l2⟩, l3⟩, l4⟩, l5⟩, l6⟩, l7⟩ := hL
  rcases r with z | ⟨z1, z2, z3, z4, z5, z6, z7, z8, z9, z10⟩
  · exact Or.inl z
  · right
    obtain ⟨m1, m2, m3, m4, m5⟩ := hm
    have q : ∀ k, sg_g σ7 77 k = sg_g σ 77 k := fun k => sg_F_ga f7 l1
    rw [q] at z8 z9
    have ex : yEx σ σ7 := yEx_x (q _) (q _) (fun v _ _ => ⟨sg_F_ga f7 l4, sg_F_ga f7 l5, sg_F_ga f7 l6⟩) (fun x _ => ⟨sg_F_ga f7 l2, sg_F_ga f7 l3⟩)
    exact ⟨⟨z3, z4, z1, by omega, by omega⟩, yEx_t ex z2, z5, z6, fun i hi => by rw [z7 i (by omega), sg_F_ga f7 l7]⟩
def op1 (k a ty : Int) : Prop := (k = 11 ∧ 0 < a ∧ ty = 0) ∨ (k = 16 ∧ a = 0 ∧ ty = 1) ∨ ((k = 18 ∨ k = 19 ∨ k = 20) ∧ a = 1 ∧ ty = 0) ∨ (k = 21 ∧ a = 1 ∧ ty = 1) ∨ (k = 22 ∧ 0 < a ∧ ty = a) ∨ (k = 24 ∧ 1 < a ∧ ty = a - 1)
def op2 (k a b ty : Int) : Prop := ((4 ≤ k ∧ k ≤ 10) ∧ a = 0 ∧ b = 0 ∧ ty = 0) ∨ (k = 12 ∧ 0 < a ∧ b = 0 ∧ ty = a - 1) ∨ (k = 17 ∧ b = 0 ∧ ty = a + 1) ∨ (k = 23 ∧ 0 < a ∧ a = b ∧ ty = a) ∨ ((k = 25 ∨ k = 26) ∧ 0 < a ∧ b = 1 ∧ ty = a) ∨ (k = 27 ∧ 0 < a ∧ b = 1 ∧ ty = a + 1)
section FIN
variable {σ : sg_S} {Q : sg_S → Prop}
theorem yV_s {d : Nat} {v n : Int} {k : Int} (h : yV σ k.toNat v n) (hd : k = d) : yV σ d v n := by subst hd; exact h
theorem fin1 {a k ta ty n t c : Int} (ha : 0 ≤ a ∧ a < 200) (hm : mC σ c) (hc : 4 ≤ c) (ht : sg_g σ 61 7 = t + 1) (h0 : 0 ≤ t ∧ t < 400) (h23 : sg_g σ 61 23 = n) (hn : 0 ≤ n ∧ n ≤ 6000) (h3 : sg_g σ 3 a = kmp k) (h6 : sg_g σ 6 a = ty) (hty : ty ≤ 3) (hta : 0 ≤ ta ∧ ta ≤ 3) (hv : yV σ ta.toNat (sg_g σ 64 t) n) (ho : op1 k ta ty) (kk : ∀ σ', sg_F fnL σ σ' → fnR σ σ' ty.toNat n t c → Q σ') : V_mFinishOne σ a Q := by
  unfold V_mFinishOne
  rw [xa_in (a := 6) ha, xa_in (a := 3) ha, h6, h3]
  refine y_pop ht h0 (fun σ2 f2 t2 _ _ σ7 e7 => ?_)
  have f7 : sg_F [10061] σ2 σ7 := by rw [e7]; exact sg_F_w (sg_F_r _ _) rfl _
  have F7 : sg_F [8061, 10061] σ σ7 := sg_F_t (sg_F_m f2 rfl) (sg_F_m f7 rfl)
  have ex7 : yEx σ σ7 := yEx_F F7 rfl
  obtain ⟨m1, m2, m3, m4, m5⟩ := id hm
  have hP : fP σ7 t := fP_mk ⟨m1, m2, by omega, m5, by omega⟩ F7 (by rw [sg_F_g f7 (by rfl)]; exact t2) h0 rfl
  have d9 : ∀ d : Nat, ty = d → sg_g σ7 61 9 = d := fun d hd => by rw [e7, sg_gw_e _ _ _ _ ⟨by omega, by omega⟩]; exact hd
  have n7 : sg_g σ7 61 23 = n := by rw [sg_F_g F7 (by rfl)]; exact h23
  have fin : ∀ (d : Nat) (σ' : sg_S), ty = d → sg_F opL σ7 σ' → gvR σ7 σ' d n t → Q σ' := fun d σ' hd f' r' => by
    refine kk σ' (sg_F_t (sg_F_m F7 rfl) (sg_F_m f' rfl)) ?_
    rw [hd, Int.toNat_natCast]
    exact gv_fn hm F7 rfl r'
  have vv : ∀ d : Nat, ta = d → yV σ7 d (sg_g σ 64 t) n := fun d hd => yV_up ex7 (yV_s hv hd)
  have vr : yRw σ7 (sg_g σ 64 t) n := yRw_up ex7 (yV_r hv)
  rcases ho with ⟨e, q1, q2⟩ | ⟨e, q1, q2⟩ | ⟨e, q1, q2⟩ | ⟨e, q1, q2⟩ | ⟨e, q1, q2⟩ | ⟨e, q1, q2⟩
  · subst e
    refine ⟨fun _ => ?_, fun z => absurd rfl z⟩
    unfold V_mFinishOne_35
    exact f_measure hP (d9 0 q2) n7 vr (fun σ' f' r' _ => fin 0 σ' q2 f' r')
  · subst e
    refine ⟨fun z => absurd z (by decide), fun _ => ⟨fun _ => ?_, fun z => absurd rfl z⟩⟩
    unfold V_mFinishOne_267
    exact f_countUp hP (d9 1 q2) n7 vr (fun σ' f' r' _ => fin 1 σ' q2 f' r')
  · have kd : V_mFinishOne_d σ7 (kmp k) (sg_g σ 64 t) Q := by
      unfold V_mFinishOne_d
      exact f_reduce hP (d9 0 q2) n7 (vv 1 q1) (fun σ' f' r' _ => fin 0 σ' q2 f' r')
    rcases e with e | e | e <;> subst e <;> exact ⟨fun z => absurd z (by decide), fun _ => ⟨fun z => absurd z (by decide), fun _ => ⟨fun z => absurd z (by decide), fun _ => ⟨fun z => absurd z (by decide), fun _ => ⟨fun z => absurd z (by decide), fun _ => kd⟩⟩⟩⟩⟩
  · subst e
    refine ⟨fun z => absurd z (by decide), fun _ => ⟨fun z => absurd z (by decide), fun _ => ⟨fun _ => ?_, fun z => absurd rfl z⟩⟩⟩
    unfold V_mFinishOne_272
    exact f_sumUp hP (d9 1 q2) n7 (vv 1 q1) (fun σ' f' r' _ => fin 1 σ' q2 f' r')
  · subst e
    refine ⟨fun z => absurd z (by decide), fun _ => ⟨fun z => absurd z (by decide), fun _ => ⟨fun z => absurd z (by decide), fun _ => ⟨fun _ => ?_, fun z => absurd rfl z⟩⟩⟩⟩
    unfold V_mFinishOne_273
    obtain ⟨d, hd⟩ : ∃ d : Nat, ta = (d + 1 : Nat) := ⟨(ta - 1).toNat, by omega⟩
    exact f_reverse (d := d) hP (by omega) (d9 (d + 1) (by omega)) n7 (vv (d + 1) hd) (fun σ' f' r' _ => fin (d + 1) σ' (by omega) f' r')
  · subst e
    refine ⟨fun z => absurd z (by decide), fun _ => ⟨fun z => absurd z (by decide), fun _ => ⟨fun z => absurd z (by decide), fun _ => ⟨fun z => absurd z (by decide), fun _ => ⟨fun _ => ?_, fun z => absurd rfl z⟩⟩⟩⟩⟩
    unfold V_mFinishOne_275
    obtain ⟨d, hd⟩ : ∃ d : Nat, ta = (d + 2 : Nat) := ⟨(ta - 2).toNat, by omega⟩
    exact f_flatten (d := d) hP (by omega) (d9 (d + 1) (by omega)) n7 (vv (d + 2) hd) (fun σ' f' r' _ => fin (d + 1) σ' (by omega) f' r')
theorem fin2 {a k ta tb ty n t c : Int} (ha : 0 ≤ a ∧ a < 200) (hm : mC σ c) (hc : 4 ≤ c) (ht : sg_g σ 61 7 = t + 2) (h0 : 0 ≤ t ∧ t + 2 ≤ 400) (h23 : sg_g σ 61 23 = n) (hn : 0 ≤ n ∧ n ≤ 6000) (h3 : sg_g σ 3 a = kmp k) (h6 : sg_g σ 6 a = ty) (hty : ty ≤ 3) (hta : 0 ≤ ta ∧ ta ≤ 3) (hv : yV σ ta.toNat (sg_g σ 64 t) n) (hw : yV σ tb.toNat (sg_g σ 64 (t + 1)) n) (ho : op2 k ta tb ty) (kk : ∀ σ', sg_F fnL σ σ' → fnR σ σ' ty.toNat n t c → Q σ') : V_mFinishTwo σ a Q := by
  unfold V_mFinishTwo
  rw [xa_in (a := 6) ha, xa_in (a := 3) ha, h6, h3]
  refine y_pop (t := t + 1) (by omega) (by omega) (fun σ2 f2 t2 _ _ => y_pop (t := t) t2 (by omega) (fun σ8 f8 t8 _ _ σ7 e7 => ?_))
  rw [show sg_g σ2 64 t = sg_g σ 64 t from sg_F_ga f2 rfl]
  have f7 : sg_F [10061] σ8 σ7 := by rw [e7]; exact sg_F_w (sg_F_r _ _) rfl _
  have F7 : sg_F [8061, 10061] σ σ7 := sg_F_t (sg_F_t (sg_F_m f2 rfl) (sg_F_m f8 rfl)) (sg_F_m f7 rfl)
  have ex7 : yEx σ σ7 := yEx_F F7 rfl
  obtain ⟨m1, m2, m3, m4, m5⟩ := id hm
  have hP : fP σ7 t := fP_mk ⟨m1, m2, by omega, m5, by omega⟩ F7 (by rw [sg_F_g f7 (by rfl)]; exact t8) (by omega) rfl
  have ty0 : 0 ≤ ty := by
    unfold op2 at ho; omega
  have d9 : ∀ d : Nat, ty = d → sg_g σ7 61 9 = d := fun d hd => by rw [e7, sg_gw_e _ _ _ _ ⟨by omega, by omega⟩]; exact hd
  have n7 : sg_g σ7 61 23 = n := by rw [sg_F_g F7 (by rfl)]; exact h23
  have fin : ∀ (d : Nat) (σ' : sg_S), ty = d → sg_F opL σ7 σ' → gvR σ7 σ' d n t → Q σ' := fun d σ' hd f' r' => by
    refine kk σ' (sg_F_t (sg_F_m F7 rfl) (sg_F_m f' rfl)) ?_
    rw [hd, Int.toNat_natCast]
    exact gv_fn hm F7 rfl r'
  have vv : ∀ d : Nat, ta = d → yV σ7 d (sg_g σ 64 t) n := fun d hd => yV_up ex7 (yV_s hv hd)
  have ww : ∀ d : Nat, tb = d → yV σ7 d (sg_g σ 64 (t + 1)) n := fun d hd => yV_up ex7 (yV_s hw hd)
  have vr : yRw σ7 (sg_g σ 64 t) n := yRw_up ex7 (yV_r hv)
  have wr : yRw σ7 (sg_g σ 64 (t + 1)) n := yRw_up ex7 (yV_r hw)
  rcases ho with ⟨e, q1, q2, q3⟩ | ⟨e, q1, q2, q3⟩ | ⟨e, q2, q3⟩ | ⟨e, q1, q2, q3⟩ | ⟨e, q1, q2, q3⟩ | ⟨e, q1, q2, q3⟩
  · have kd : V_mFinishTwo_d σ7 (kmp k) (sg_g σ 64 (t + 1)) (sg_g σ 64 t) Q := by
      unfold V_mFinishTwo_d
      exact f_combine hP (d9 0 q3) n7 vr wr (fun σ' f' r' _ => fin 0 σ' q3 f' r')
    have c : k = 4 ∨ k = 5 ∨ k = 6 ∨ k = 7 ∨ k = 8 ∨ k = 9 ∨ k = 10 := by omega
    rcases c with e | e | e | e | e | e | e <;> subst e <;> exact ⟨fun z => absurd z (by decide), fun _ => ⟨fun z => absurd z (by decide), fun _ => ⟨fun z => absurd z (by decide), fun _ => ⟨fun z => absurd z (by decide), fun _ => ⟨fun z => absurd z (by decide), fun _ => ⟨fun z => absurd z (by decide), fun _ => kd⟩⟩⟩⟩⟩⟩
  · subst e
    refine ⟨fun _ => ?_, fun z => absurd rfl z⟩
    unfold V_mFinishTwo_91
    obtain ⟨d, hd⟩ : ∃ d : Nat, ta = (d + 1 : Nat) := ⟨(ta - 1).toNat, by omega⟩
    exact f_select (d := d) hP (by omega) (d9 d (by omega)) n7 (vv (d + 1) hd) wr (fun σ' f' r' _ => fin d σ' (by omega) f' r')
  · subst e
    refine ⟨fun z => absurd z (by decide), fun _ => ⟨fun _ => ?_, fun z => absurd rfl z⟩⟩
    unfold V_mFinishTwo_268
    obtain ⟨d, hd⟩ : ∃ d : Nat, ta = (d : Nat) := ⟨ta.toNat, by omega⟩
    exact f_repeat (d := d) hP (by omega) (d9 (d + 1) (by omega)) n7 (vv d hd) wr (fun σ' f' r' _ => fin (d + 1) σ' (by omega) f' r')
  · subst e
    refine ⟨fun z => absurd z (by decide), fun _ => ⟨fun z => absurd z (by decide), fun _ => ⟨fun _ => ?_, fun z => absurd rfl z⟩⟩⟩
    unfold V_mFinishTwo_274
    obtain ⟨d, hd⟩ : ∃ d : Nat, ta = (d + 1 : Nat) := ⟨(ta - 1).toNat, by omega⟩
    exact f_append (d := d) hP (by omega) (d9 (d + 1) (by omega)) n7 (vv (d + 1) hd) (ww (d + 1) (by omega)) (fun σ' f' r' _ => fin (d + 1) σ' (by omega) f' r')
  · obtain ⟨d, hd⟩ : ∃ d : Nat, ta = (d + 1 : Nat) := ⟨(ta - 1).toNat, by omega⟩
    rcases e with e | e
    · subst e
      refine ⟨fun z => absurd z (by decide), fun _ => ⟨fun z => absurd z (by decide), fun _ => ⟨fun z => absurd z (by decide), fun _ => ⟨fun _ => ?_, fun z => absurd rfl z⟩⟩⟩⟩
      unfold V_mFinishTwo_276
      exact f_pack (d := d) hP (by omega) (d9 (d + 1) (by omega)) n7 (vv (d + 1) hd) (ww 1 q2) (fun σ' f' r' _ => fin (d + 1) σ' (by omega) f' r')
    · subst e
      refine ⟨fun z => absurd z (by decide), fun _ => ⟨fun z => absurd z (by decide), fun _ => ⟨fun z => absurd z (by decide), fun _ => ⟨fun z => absurd z (by decide), fun _ => ⟨fun _ => ?_, fun z => absurd rfl z⟩⟩⟩⟩⟩
      unfold V_mFinishTwo_277
      exact f_permute (d := d) hP (by omega) (d9 (d + 1) (by omega)) n7 (vv (d + 1) hd) (ww 1 q2) (fun σ' f' r' _ => fin (d + 1) σ' (by omega) f' r')
  · subst e
    obtain ⟨d, hd⟩ : ∃ d : Nat, ta = (d + 1 : Nat) := ⟨(ta - 1).toNat, by omega⟩
    refine ⟨fun z => absurd z (by decide), fun _ => ⟨fun z => absurd z (by decide), fun _ => ⟨fun z => absurd z (by decide), fun _ => ⟨fun z => absurd z (by decide), fun _ => ⟨fun z => absurd z (by decide), fun _ => ⟨fun _ => ?_, fun z => absurd rfl z⟩⟩⟩⟩⟩⟩
    unfold V_mFinishTwo_278
    exact f_divide (d := d) hP (by omega) (d9 (d + 2) (by omega)) n7 (vv (d + 1) hd) (ww 1 q2) (fun σ' f' r' _ => fin (d + 2) σ' (by omega) f' r')
theorem kAct_o {k ty : Int} {ts : List Int} (hk : 16 ≤ k ∧ k ≤ 27) (h : kAct k ts = some ty) : (ts.length = 1 ∧ op1 k (ts.getD 0 0) ty) ∨ (ts.length = 2 ∧ op2 k (ts.getD 0 0) (ts.getD 1 0) ty) := by
  unfold kAct at h
  simp only at h
  generalize ts.getD 0 0 = a at *
  generalize ts.getD 1 0 = b at *
  split at h
  · rename_i e
    obtain ⟨i1, i2, i3⟩ := kIs_in h
    simp only [Bool.and_eq_true, decide_eq_true_eq] at i3
    exact Or.inl ⟨i3.1, Or.inr (Or.inl ⟨e, i3.2, i1⟩)⟩
  · split at h
    · rename_i e
      obtain ⟨i1, i2, i3⟩ := kIs_in h
      simp only [Bool.and_eq_true, decide_eq_true_eq] at i3
      exact Or.inr ⟨i3.1, Or.inr (Or.inr (Or.inl ⟨e, i3.2, i1⟩))⟩
    · split at h
      · rename_i e
        obtain ⟨i1, i2, i3⟩ := kIs_in h
        simp only [Bool.and_eq_true, decide_eq_true_eq] at i3
        exact Or.inl ⟨i3.1, Or.inr (Or.inr (Or.inl ⟨e, i3.2, i1⟩))⟩
      · split at h
        · rename_i e
          obtain ⟨i1, i2, i3⟩ := kIs_in h
          simp only [Bool.and_eq_true, decide_eq_true_eq] at i3
          exact Or.inl ⟨i3.1, Or.inr (Or.inr (Or.inr (Or.inl ⟨e, i3.2, i1⟩)))⟩
        · split at h
          · rename_i e
            obtain ⟨i1, i2, i3⟩ := kIs_in h
            simp only [Bool.and_eq_true, decide_eq_true_eq] at i3
            exact Or.inl ⟨i3.1, Or.inr (Or.inr (Or.inr (Or.inr (Or.inl ⟨e, i3.2, i1⟩))))⟩
          · split at h
            · rename_i e
              obtain ⟨i1, i2, i3⟩ := kIs_in h
              simp only [Bool.and_eq_true, decide_eq_true_eq] at i3
              exact Or.inr ⟨i3.1.1, Or.inr (Or.inr (Or.inr (Or.inl ⟨e, i3.1.2, i3.2, i1⟩)))⟩
            · split at h
              · rename_i e
                obtain ⟨i1, i2, i3⟩ := kIs_in h
                simp only [Bool.and_eq_true, decide_eq_true_eq] at i3
                exact Or.inl ⟨i3.1, Or.inr (Or.inr (Or.inr (Or.inr (Or.inr ⟨e, i3.2, i1⟩))))⟩
              · split at h
                · rename_i e
                  obtain ⟨i1, i2, i3⟩ := kIs_in h
                  simp only [Bool.and_eq_true, decide_eq_true_eq] at i3
                  exact Or.inr ⟨i3.1.1, Or.inr (Or.inr (Or.inr (Or.inr (Or.inl ⟨e, i3.1.2, i3.2, i1⟩))))⟩
                · obtain ⟨i1, i2, i3⟩ := kIs_in h
                  simp only [Bool.and_eq_true, decide_eq_true_eq] at i3
                  exact Or.inr ⟨i3.1.1, Or.inr (Or.inr (Or.inr (Or.inr (Or.inr ⟨by omega, i3.1.2, i3.2, i1⟩))))⟩
/-- types of a node with one part, with two -/
theorem kTy_o {A : aT} {ds : kD} {T : Int → Int} {n ty : Int} {ts : List Int} (hw : nWk (A.2.1 n) ts.length (A.2.2.2.2.2 n).length) (h : kTy A ds T [] n ts = some ty) (hk : 4 ≤ A.2.1 n) (h13 : ¬ A.2.1 n = 13) (h14 : ¬ A.2.1 n = 14) (h15 : ¬ A.2.1 n = 15) (h0 : ∀ x ∈ ts, 0 ≤ x) : (ts.length = 1 ∧ op1 (A.2.1 n) (ts.getD 0 0) ty) ∨ (ts.length = 2 ∧ op2 (A.2.1 n) (ts.getD 0 0) (ts.getD 1 0) ty) := by
  obtain ⟨w1, w2, w3, w4, w5, w6, w7, w8⟩ := hw
  generalize hK : A.2.1 n = k at *
  by_cases c16 : 16 ≤ k
  · refine kAct_o ⟨c16, w1.2⟩ ?_
    rw [← h]
    unfold kTy
    simp only [hK]
    rw [if_neg (by omega), if_neg (by omega), if_neg (by omega), if_neg (by omega), if_neg (by omega), if_neg (by omega), if_neg (by omega), if_neg h13, if_neg h14, if_neg h15]
  unfold kTy at h
  simp only [hK] at h
  rw [if_neg (by omega), if_neg (by omega), if_neg (by omega), if_neg (by omega)] at h
  generalize ts.getD 0 0 = a at *
  generalize ts.getD 1 0 = b at *
  by_cases c11 : k < 11
  · rw [if_pos c11] at h
    obtain ⟨i1, i2, i3⟩ := kIs_in h
    simp only [Bool.and_eq_true, decide_eq_true_eq] at i3
    exact Or.inr ⟨w3 (by omega), Or.inl ⟨by omega, i3.1, i3.2, i1⟩⟩
  · rw [if_neg c11] at h
    by_cases e11 : k = 11
    · rw [if_pos e11] at h
      obtain ⟨i1, i2, i3⟩ := kIs_in h
      simp only [decide_eq_true_eq] at i3
      exact Or.inl ⟨w5 e11, Or.inl ⟨e11, i3, i1⟩⟩
    · rw [if_neg e11] at h
      by_cases e12 : k = 12
      · rw [if_pos e12] at h
        obtain ⟨i1, i2, i3⟩ := kIs_in h
        simp only [Bool.and_eq_true, decide_eq_true_eq] at i3
        exact Or.inr ⟨w3 (by omega), Or.inr (Or.inl ⟨e12, i3.1, i3.2, i1⟩)⟩
      · omega
end FIN
/-! WHAT A FLAT RUN GOES ALONG: slots, orders, heights of a tree. -/
abbrev bRL : List Nat := [62, 63, 64, 69, 70, 71, 72, 73, 74, 75, 76, 78, 79, 80, 81, 82, 83, 84, 85, 86, 87, 8061, 9061, 10061, 11061, 22061, 23061, 24061, 25061, 11077, 12077, 13077, 14077, 15077, 16077, 17077, 18077, 19077]
/-- orders ahead of the part with index s -/
def ahd (A : aT) (n : Int) (s : Nat) : List (Int × Int) := if A.2.1 n = 2 ∧ s = 1 then [(4, n)] else if A.2.1 n = 3 ∧ 0 < s then [(if s = 1 then 7 else 8, n)] else if A.2.1 n = 15 ∧ s = (A.2.2.2.2.2 n).length then [(10, n)] else if A.2.1 n = 15 ∧ (A.2.2.2.2.2 n).length < s then [(11, n)] else []
def cdS (A : aT) (go : Int → List (Int × Int)) (n : Int) : Nat → List Int → List (Int × Int)
  | _, [] => []
  | s, x :: r => ahd A n s ++ (go x ++ cdS A go n (s + 1) r)
/-- orders behind the parts -/
def cnc (A : aT) (n : Int) : List (Int × Int) := if A.2.1 n = 2 then [] else if A.2.1 n = 3 then [(9, n)] else if A.2.1 n = 13 then [(5, n)] else if A.2.1 n = 15 then [(12, n), (1, n)] else if A.2.1 n = 0 ∨ A.2.1 n = 1 ∨ A.2.1 n = 14 then [(1, n)] else if A.2.1 n = 11 ∨ A.2.1 n = 16 ∨ (18 ≤ A.2.1 n ∧ A.2.1 n ≤ 22) ∨ A.2.1 n = 24 then [(2, n)] else [(3, n)]
/-- the orders of a node -/
def cd (A : aT) : Nat → Int → List (Int × Int)
  | 0, _ => []
  | f + 1, n => (0, n) :: (cdS A (cd A f) n 0 (kOrd A n) ++ cnc A n)
def gsl (b : Int) (g : Nat) : List Int := (List.range g).map (fun (i : Nat) => b + (i : Int))
theorem gsl_m {b : Int} {g : Nat} {s : Int} : s ∈ gsl b g ↔ b ≤ s ∧ s < b + g := by
  unfold gsl
  simp only [List.mem_map, List.mem_range]
  constructor
  · rintro ⟨i, h, e⟩; omega
  · intro h; exact ⟨(s - b).toNat, by omega, by omega⟩
/-- slots known from stage s on -/
def esA (A : aT) (n : Int) (s : Nat) (es : List Int) (b : Int) : List Int := if A.2.1 n = 2 ∧ s = 1 then b :: es else if A.2.1 n = 15 ∧ s = (A.2.2.2.2.2 n).length then gsl b (A.2.2.2.2.2 n).length ++ es else es
def bA (A : aT) (n : Int) (s : Nat) (b : Int) : Int := if A.2.1 n = 2 ∧ s = 1 then b + 1 else if A.2.1 n = 15 ∧ s = (A.2.2.2.2.2 n).length then b + (A.2.2.2.2.2 n).length else b
def cA (σ : sg_S) (A : aT) (n : Int) (s : Nat) (b : Int) : Prop := (A.2.1 n = 2 → s = 1 → sg_g σ 16 n = b ∧ sg_g σ 34 b = sg_g σ 6 ((A.2.2.2.2.1 n).getD 0 0)) ∧ (A.2.1 n = 15 → s = (A.2.2.2.2.2 n).length → sg_g σ 16 n = b ∧ ∀ (i : Nat) (x : Int), (kGs A n)[i]? = some x → sg_g σ 34 (b + i) = sg_g σ 6 x - 1)
def scS (σ : sg_S) (A : aT) (go : List Int → Int → Int → Int → Prop) (n : Int) : Nat → List Int → Int → List Int → Int → Prop
  | _, _, b, [], b' => b' = b
  | s, es, b, x :: r, b' => cA σ A n s b ∧ ∃ b2, go (esA A n s es b) x (bA A n s b) b2 ∧ scS σ A go n (s + 1) (esA A n s es b) b2 r b'
/-- a call of DEF q -/
def clF (σ : sg_S) (A : aT) (dix n : Int) : Prop := (0 ≤ sg_g σ 16 n ∧ sg_g σ 16 n < dix) ∧ ((A.2.2.2.2.1 n).length : Int) = sg_g σ 23 (sg_g σ 16 n) ∧ (∀ (i : Nat) (x : Int), (A.2.2.2.2.1 n)[i]? = some x → sg_g σ 6 x = sg_g σ 27 (6 * sg_g σ 16 n + i)) ∧ sg_g σ 6 n = sg_g σ 6 (sg_g σ 22 (sg_g σ 16 n))
/-- slots of a node and of all below it: known es, given out b .. b' -/
def scN (σ : sg_S) (A : aT) (dix : Int) : Nat → List Int → Int → Int → Int → Prop
  | 0, _, _, _, _ => False
  | f + 1, es, n, b, b' => (A.2.1 n = 3 → sg_g σ 16 n = b) ∧ (A.2.1 n = 1 → sg_g σ 16 n ∈ es ∧ sg_g σ 34 (sg_g σ 16 n) = sg_g σ 6 n) ∧ (A.2.1 n = 13 → clF σ A dix n) ∧ scS σ A (scN σ A dix f) n 0 es b (kOrd A n) b'
def htN (A : aT) : Nat → Int → Nat
  | 0, _ => 0
  | f + 1, n => (if A.2.1 n = 3 ∨ A.2.1 n = 15 then 1 else 0) + ((A.2.2.2.2.1 n).map (htN A f)).foldr max 0
theorem fm_le {l : List Nat} {x : Nat} (h : x ∈ l) : x ≤ l.foldr max 0 := by
  induction l with
  | nil => simp at h
  | cons y r ih =>
    simp only [List.foldr_cons]
    rcases List.mem_cons.mp h with e | e
    · rw [e]; exact Nat.le_max_left _ _
    · exact Nat.le_trans (ih e) (Nat.le_max_right _ _)
theorem ht_k {A : aT} {f : Nat} {n x : Int} {h : Nat} (hh : htN A (f + 1) n ≤ h) (hx : x ∈ A.2.2.2.2.1 n) : htN A f x ≤ h := by
  have := fm_le (List.mem_map_of_mem (f := htN A f) hx)
  simp only [htN] at hh
  omega
theorem ht_k1 {A : aT} {f : Nat} {n x : Int} {h : Nat} (hh : htN A (f + 1) n ≤ h) (hk : A.2.1 n = 3 ∨ A.2.1 n = 15) (hx : x ∈ A.2.2.2.2.1 n) : 1 ≤ h ∧ htN A f x ≤ h - 1 := by
  have := fm_le (List.mem_map_of_mem (f := htN A f) hx)
  simp only [htN] at hh
  rw [if_pos hk] at hh
  omega
/-- the plan from p on -/
def pl (σ : sg_S) (p : Int) (C : List (Int × Int)) : Prop := (0 ≤ p ∧ p + C.length ≤ 1013) ∧ ∀ (i : Nat) (z : Int × Int), C[i]? = some z → sg_g σ 29 (p + i) = z.1 ∧ sg_g σ 30 (p + i) = z.2
theorem pl_c {σ : sg_S} {p : Int} {z : Int × Int} {C : List (Int × Int)} (h : pl σ p (z :: C)) : (0 ≤ p ∧ p < 1013) ∧ sg_g σ 29 p = z.1 ∧ sg_g σ 30 p = z.2 ∧ pl σ (p + 1) C := by
  obtain ⟨⟨h1, h2⟩, h3⟩ := h
  simp only [List.length_cons] at h2
  have := h3 0 z rfl
  simp only [Int.ofNat_zero, Int.add_zero, Int.cast_ofNat_Int] at this
  refine ⟨⟨h1, by omega⟩, this.1, this.2, ⟨by omega, by omega⟩, fun i w hw => ?_⟩
  have := h3 (i + 1) w hw
  rw [show p + 1 + (i : Int) = p + ((i + 1 : Nat) : Int) by omega]
  exact this
theorem pl_a {σ : sg_S} {p : Int} {C C' : List (Int × Int)} (h : pl σ p (C ++ C')) : pl σ p C ∧ pl σ (p + C.length) C' := by
  obtain ⟨⟨h1, h2⟩, h3⟩ := h
  simp only [List.length_append] at h2
  refine ⟨⟨⟨h1, by omega⟩, fun i z hz => h3 i z ?_⟩, ⟨by omega, by omega⟩, fun i z hz => ?_⟩
  · have : i < C.length := by
      rcases Nat.lt_or_ge i C.length with q | q
      · exact q
      · rw [List.getElem?_eq_none q] at hz; cases hz
    rw [List.getElem?_append_left this]; exact hz
  · have := h3 (C.length + i) z (by rw [List.getElem?_append_right (by omega), Nat.add_sub_cancel_left]; exact hz)
    rw [show p + (C.length : Int) + (i : Int) = p + ((C.length + i : Nat) : Int) by omega]
    exact this
theorem cdS_app {A : aT} {go : Int → List (Int × Int)} {n : Int} : ∀ (R R' : List Int) (s : Nat), cdS A go n s (R ++ R') = cdS A go n s R ++ cdS A go n (s + R.length) R'
  | [], R', s => by simp [cdS]
  | x :: R, R', s => by
    simp only [List.cons_append, cdS, List.length_cons, List.append_assoc]
    rw [cdS_app R R' (s + 1), show s + 1 + R.length = s + (R.length + 1) by omega]
/-- no order and no name at that stage -/
def kQ (A : aT) (n : Int) (s : Nat) : Prop := ahd A n s = [] ∧ kNo A n s
theorem kQ_o {A : aT} {n : Int} {s : Nat} (h2 : ¬ A.2.1 n = 2) (h3 : ¬ A.2.1 n = 3) (h15 : ¬ A.2.1 n = 15) : kQ A n s := by
  refine ⟨?_, fun z => h2 z.1, fun z => h15 z.1⟩
  unfold ahd
  rw [if_neg (fun z => h2 z.1), if_neg (fun z => h3 z.1), if_neg (fun z => h15 z.1), if_neg (fun z => h15 z.1)]
theorem esA_no {A : aT} {n : Int} {s : Nat} (h : kNo A n s) (es : List Int) (b : Int) : esA A n s es b = es ∧ bA A n s b = b := by
  unfold esA bA
  rw [if_neg h.1, if_neg h.2, if_neg h.1, if_neg h.2]
  exact ⟨rfl, rfl⟩
theorem scS_app {σ : sg_S} {A : aT} {go : List Int → Int → Int → Int → Prop} {n : Int} {es : List Int} : ∀ (R R' : List Int) (s : Nat) (b b' : Int), (∀ j, s ≤ j → j < s + R.length → kNo A n j) → scS σ A go n s es b (R ++ R') b' → ∃ b1, scS σ A go n s es b R b1 ∧ scS σ A go n (s + R.length) es b1 R' b'
  | [], R', s, b, b', _, h => ⟨b, rfl, h⟩
  | x :: R, R', s, b, b', hn, h => by
    simp only [List.cons_append, scS] at h
    obtain ⟨h1, b2, h2, h3⟩ := h
    obtain ⟨e1, e2⟩ := esA_no (hn s (Nat.le_refl _) (by simp)) es b
    rw [e1, e2] at h2
    rw [e1] at h3
    obtain ⟨b1, k1, k2⟩ := scS_app R R' (s + 1) b2 b' (fun j x y => hn j (by omega) (by simp only [List.length_cons]; omega)) h3
    refine ⟨b1, ⟨h1, b2, by rw [e1, e2]; exact h2, by rw [e1]; exact k1⟩, ?_⟩
    rw [List.length_cons, show s + (R.length + 1) = s + 1 + R.length by omega]
    exact k2
theorem bA_le (A : aT) (n : Int) (s : Nat) (b : Int) : b ≤ bA A n s b := by
  unfold bA
  split
  · omega
  · split <;> omega
theorem scS_le {σ : sg_S} {A : aT} {go : List Int → Int → Int → Int → Prop} {n : Int} (hg : ∀ es x b b', go es x b b' → b ≤ b') : ∀ (R : List Int) (s : Nat) (es : List Int) (b b' : Int), scS σ A go n s es b R b' → b ≤ b'
  | [], s, es, b, b', h => by simp only [scS] at h; omega
  | x :: R, s, es, b, b', h => by
    simp only [scS] at h
    obtain ⟨h1, b2, h2, h3⟩ := h
    have := hg _ _ _ _ h2
    have := scS_le hg R _ _ _ _ h3
    have := bA_le A n s b
    omega
theorem scN_le {σ : sg_S} {A : aT} {dix : Int} : ∀ (f : Nat) (es : List Int) (n b b' : Int), scN σ A dix f es n b b' → b ≤ b'
  | 0, _, _, _, _, h => h.elim
  | f + 1, es, n, b, b', h => scS_le (fun es x b b' => scN_le f es x b b') _ _ _ _ _ h.2.2.2
/-- variables are bound outside, or within -/
def scV (σ : sg_S) (A : aT) (es L : List Int) (b b' : Int) : Prop := ∀ j ∈ L, A.2.1 j = 1 → sg_g σ 16 j ∈ es ∨ (b ≤ sg_g σ 16 j ∧ sg_g σ 16 j < b')
theorem scS_v {σ : sg_S} {A : aT} {go : List Int → Int → Int → Int → Prop} {n : Int} (hl : ∀ es x b b', go es x b b' → b ≤ b') (hg : ∀ es x b b' L, fT A [x] L → go es x b b' → scV σ A es L b b') : ∀ (R : List Int) (s : Nat) (es : List Int) (b b' : Int) (L : List Int), fT A R L → scS σ A go n s es b R b' → scV σ A es L b b'
  | [], s, es, b, b', L, hf, h => by
    have := fT_nil hf
    subst this
    intro j hj; simp at hj
  | x :: R, s, es, b, b', L, hf, h => by
    obtain ⟨L1, L2, e1, w1, w2, w3⟩ := fT_inv hf
    subst e1
    simp only [scS] at h
    obtain ⟨h1, b2, h2, h3⟩ := h
    have l1 := hl _ _ _ _ h2
    have l2 := scS_le hl R _ _ _ _ h3
    have l0 := bA_le A n s b
    have esx : ∀ y, y ∈ esA A n s es b → y ∈ es ∨ (b ≤ y ∧ y < bA A n s b) := by
      intro y hy
      unfold esA at hy
      unfold bA
      split at hy
      · rename_i c
        rw [if_pos c]
        rcases List.mem_cons.mp hy with e | e
        · right; omega
        · exact Or.inl e
      · rename_i c
        rw [if_neg c]
        split at hy
        · rename_i c2
          rw [if_pos c2]
          rcases List.mem_append.mp hy with e | e
          · exact Or.inr (gsl_m.mp e)
          · exact Or.inl e
        · exact Or.inl hy
    have k1 := hg _ _ _ _ _ (fT_one w1 w2) h2
    have k2 := scS_v hl hg R _ _ _ _ L2 w3 h3
    intro j hj hk
    rw [← List.cons_append] at hj
    rcases List.mem_append.mp hj with z | z
    · rcases k1 j z hk with q | q
      · rcases esx _ q with q | q
        · exact Or.inl q
        · right; omega
      · right; omega
    · rcases k2 j z hk with q | q
      · rcases esx _ q with q | q
        · exact Or.inl q
        · right; omega
      · right; omega
theorem fT_perm {A : aT} {R R' : List Int} (h : R.Perm R') : ∀ {L : List Int}, fT A R L → ∃ L', fT A R' L' ∧ L.Perm L' := by
  induction h with
  | nil => exact fun hf => ⟨_, hf, List.Perm.refl _⟩
  | cons x h ih =>
    intro L hf
    obtain ⟨L1, L2, e1, w1, w2, w3⟩ := fT_inv hf
    obtain ⟨L', k1, k2⟩ := ih w3
    subst e1
    exact ⟨_, fT_c w1 w2 k1, List.Perm.cons _ (List.Perm.append_left _ k2)⟩
  | swap x y l =>
    intro L hf
    obtain ⟨L1, L2, e1, w1, w2, w3⟩ := fT_inv hf
    obtain ⟨L3, L4, e2, v1, v2, v3⟩ := fT_inv w3
    subst e1 e2
    refine ⟨_, fT_c v1 v2 (fT_c w1 w2 v3), ?_⟩
    have : ((y :: L1) ++ ((x :: L3) ++ L4)).Perm ((x :: L3) ++ ((y :: L1) ++ L4)) := by
      rw [← List.append_assoc, ← List.append_assoc]
      exact List.Perm.append_right _ List.perm_append_comm
    simpa using this
  | trans _ _ ih1 ih2 =>
    intro L hf
    obtain ⟨L', a, b⟩ := ih1 hf
    obtain ⟨L'', c, d⟩ := ih2 a
    exact ⟨L'', c, b.trans d⟩
theorem kOrd_p (A : aT) (n : Int) : (A.2.2.2.2.1 n).Perm (kOrd A n) := by
  unfold kOrd
  split
  · have := List.perm_append_comm (l₁ := (A.2.2.2.2.1 n).take 1) (l₂ := (A.2.2.2.2.1 n).drop 1)
    rw [List.take_append_drop] at this
    exact this
  · exact List.Perm.refl _
theorem scN_v {σ : sg_S} {A : aT} {dix : Int} : ∀ (f : Nat) (es : List Int) (n b b' : Int) (L : List Int), fT A [n] L → scN σ A dix f es n b b' → scV σ A es L b b'
  | 0, _, _, _, _, _, _, h => h.elim
  | f + 1, es, n, b, b', L, hf, h => by
    obtain ⟨L1, L2, e1, w1, w2, w3⟩ := fT_inv hf
    have e2 := fT_nil w3
    subst e2
    rw [List.append_nil] at e1
    subst e1
    obtain ⟨L', k1, k2⟩ := fT_perm (kOrd_p A n) w2
    have := scS_v (σ := σ) (n := n) (fun es x b b' => scN_le f es x b b') (fun es x b b' L => scN_v f es x b b' L) _ _ _ _ _ L' k1 h.2.2.2
    intro j hj hk
    rcases List.mem_cons.mp hj with e | e
    · subst e; exact Or.inl (h.2.1 hk).1
    · exact this j (k2.mem_iff.mp e) hk
/-! A FLAT RUN in big steps: what is kept. -/
/-- before a node's orders -/
def bP (σ σ8 : sg_S) (t sv N c p : Int) : Prop := sg_F bRL σ σ8 ∧ mC σ8 c ∧ (sg_g σ8 61 7 = t ∧ sg_g σ8 61 22 = sv ∧ sg_g σ8 61 23 = N ∧ sg_g σ8 61 8 = p) ∧ (0 ≤ N ∧ N ≤ 6000) ∧ 0 ≤ t ∧ 0 ≤ sv ∧ 0 ≤ c
/-- what stays -/
def bU (σ8 σ' : sg_S) (lo b e nl dix t sv : Int) (L : List Int) : Prop := yEx σ8 σ' ∧ (∀ i, i < t → sg_g σ' 64 i = sg_g σ8 64 i) ∧ (∀ s, lo ≤ s → ¬ (b ≤ s ∧ s < e) → sg_g σ' 62 s = sg_g σ8 62 s) ∧ (∀ i, i < sv → sg_g σ' 72 i = sg_g σ8 72 i ∧ sg_g σ' 73 i = sg_g σ8 73 i) ∧ (∀ x, nl ≤ x → x ∉ L → sg_g σ' 69 x = sg_g σ8 69 x ∧ sg_g σ' 70 x = sg_g σ8 70 x ∧ sg_g σ' 71 x = sg_g σ8 71 x) ∧ ∀ q, dix ≤ q → sg_g σ' 63 q = sg_g σ8 63 q
theorem bU_r {σ8 : sg_S} {lo b e nl dix t sv : Int} {L : List Int} : bU σ8 σ8 lo b e nl dix t sv L := ⟨yEx_r _, fun _ _ => rfl, fun _ _ _ => rfl, fun _ _ => ⟨rfl, rfl⟩, fun _ _ _ => ⟨rfl, rfl, rfl⟩, fun _ _ => rfl⟩
theorem bU_t {σ8 σ1 σ2 : sg_S} {lo b e b1 e1 b2 e2 nl dix t t1 t2 sv sv1 sv2 : Int} {L L1 L2 : List Int} (h : bU σ8 σ1 lo b1 e1 nl dix t1 sv1 L1) (g : bU σ1 σ2 lo b2 e2 nl dix t2 sv2 L2) (hb : b ≤ b1 ∧ e1 ≤ e ∧ b ≤ b2 ∧ e2 ≤ e) (ht : t ≤ t1 ∧ t ≤ t2) (hs : sv ≤ sv1 ∧ sv ≤ sv2) (h1 : ∀ x ∈ L1, x ∈ L) (h2 : ∀ x ∈ L2, x ∈ L) : bU σ8 σ2 lo b e nl dix t sv L := by
  obtain ⟨a1, a2, a3, a4, a5, a6⟩ := h
  obtain ⟨c1, c2, c3, c4, c5, c6⟩ := g
  refine ⟨yEx_t a1 c1, fun i hi => by rw [c2 i (by omega), a2 i (by omega)], fun s x y => by rw [c3 s x (by omega), a3 s x (by omega)], fun i hi => ?_, fun x q r => ?_, fun q hq => by rw [c6 q hq, a6 q hq]⟩
  · obtain ⟨e1, e2⟩ := c4 i (by omega)
    obtain ⟨e3, e4⟩ := a4 i (by omega)
    exact ⟨e1.trans e3, e2.trans e4⟩
  · obtain ⟨e1, e2, e3⟩ := c5 x q (fun z => r (h2 x z))
    obtain ⟨e4, e5, e6⟩ := a5 x q (fun z => r (h1 x z))
    exact ⟨e1.trans e4, e2.trans e5, e3.trans e6⟩
theorem bU_w {σ8 σ1 : sg_S} {lo lo1 b e b1 e1 nl nl1 dix dix1 t t1 sv sv1 : Int} {L L1 : List Int} (h : bU σ8 σ1 lo1 b1 e1 nl1 dix1 t1 sv1 L1) (hl : lo1 ≤ lo ∧ nl1 ≤ nl ∧ dix1 ≤ dix) (hb : ∀ s, lo ≤ s → b1 ≤ s → s < e1 → b ≤ s ∧ s < e) (ht : t ≤ t1) (hs : sv ≤ sv1) (h1 : ∀ x ∈ L1, nl ≤ x → x ∈ L) : bU σ8 σ1 lo b e nl dix t sv L := by
  obtain ⟨c1, c2, c3, c4, c5, c6⟩ := h
  exact ⟨c1, fun i hi => c2 i (by omega), fun s x y => c3 s (by omega) (fun z => y (hb s x z.1 z.2)), fun i hi => c4 i (by omega), fun x q r => c5 x (by omega) (fun z => r (h1 x z q)), fun q hq => c6 q (by omega)⟩
/-- what a frame leaves -/
theorem bU_F {K : List Nat} {σ8 σ1 : sg_S} {lo b e nl dix t sv : Int} (f : sg_F K σ8 σ1) (hK : (!sg_cv K 77 10 && !sg_cv K 77 16 && sg_ca K 78 && sg_ca K 79 && sg_ca K 80 && sg_ca K 81 && sg_ca K 82 && sg_ca K 62 && sg_ca K 63 && sg_ca K 64 && sg_ca K 69 && sg_ca K 70 && sg_ca K 71 && sg_ca K 72 && sg_ca K 73) = true) : bU σ8 σ1 lo b e nl dix t sv [] := by
  simp only [Bool.and_eq_true] at hK
  obtain ⟨⟨⟨⟨⟨⟨⟨⟨hY, k62⟩, k63⟩, k64⟩, k69⟩, k70⟩, k71⟩, k72⟩, k73⟩ := hK
  exact ⟨yEx_F f (by simp only [Bool.and_eq_true]; exact hY), fun i _ => sg_F_ga f k64, fun s _ _ => sg_F_ga f k62, fun i _ => ⟨sg_F_ga f k72, sg_F_ga f k73⟩, fun x _ _ => ⟨sg_F_ga f k69, sg_F_ga f k70, sg_F_ga f k71⟩, fun q _ => sg_F_ga f k63⟩
theorem rr_s {σ σ8 : sg_S} {m : Nat} (h : ¬ sg_g σ8 61 10 = 0) : Rr σ m σ8 := by
  cases m with
  | zero => exact True.intro
  | succ m => intro _ z; exact absurd z h
/-- a step forward -/
theorem bP_32 {σ σ8 σ32 : sg_S} {t sv N c p : Int} (h : bP σ σ8 t sv N c p) (hp : p < 1013 ∧ 0 ≤ p) (e : σ32 = sg_w σ8 61 8 (p + 1)) : bP σ σ32 t sv N c (p + 1) ∧ sg_F [9061] σ8 σ32 := by
  have f : sg_F [9061] σ8 σ32 := by rw [e]; exact sg_F_w (sg_F_r _ _) rfl _
  obtain ⟨a1, a2, ⟨a3, a4, a5, a6⟩, a7⟩ := h
  refine ⟨⟨sg_F_t a1 (sg_F_m f rfl), mC_F a2 f rfl, ⟨by rw [sg_F_g f (by rfl)]; exact a3, by rw [sg_F_g f (by rfl)]; exact a4, by rw [sg_F_g f (by rfl)]; exact a5, ?_⟩, a7⟩, f⟩
  rw [e, sg_gw_e _ _ _ _ ⟨by omega, by omega⟩]
theorem mC_m {σ : sg_S} {c c' : Int} (h : mC σ c) (hc : c' ≤ c) : mC σ c' := by
  obtain ⟨a1, a2, a3, a4, a5⟩ := h
  exact ⟨a1, a2, a3, by omega, a5⟩
theorem bP_m {σ σ8 : sg_S} {t sv N c c' p : Int} (h : bP σ σ8 t sv N c p) (hc : 0 ≤ c' ∧ c' ≤ c) : bP σ σ8 t sv N c' p := by
  obtain ⟨a1, a2, a3, a4, a5, a6, a7⟩ := h
  exact ⟨a1, mC_m a2 hc.2, a3, a4, a5, a6, hc.1⟩
section BST
variable {σ σ8 : sg_S} {m : Nat} {t sv N c p n : Int} {C : List (Int × Int)} {lo b e nl dix : Int}
/-- BEGIN -/
theorem zs_begin (h : bP σ σ8 t sv N c p) (hp : pl σ p ((0, n) :: C)) (hn : 0 ≤ n ∧ n < 200) (k : ∀ σ' m', m' ≤ m → bP σ σ' t sv N (c + 4) (p + 1) → sg_F [69, 9061, 18077, 19077, 25061] σ8 σ' → bU σ8 σ' lo b e nl dix t sv [n] → sg_g σ' 69 n = N → Rr σ m' σ') : Rr σ m σ8 := by
  cases m with
  | zero => exact True.intro
  | succ m =>
    obtain ⟨p0, p1, p2, p3⟩ := pl_c hp
    refine rr_0 (p := p) (k := n) h.2.2.1.2.2.2 p0 p1 p2 (fun σ32 e32 => ?_)
    obtain ⟨h32, f32⟩ := bP_32 h ⟨p0.2, p0.1⟩ e32
    obtain ⟨a1, a2, ⟨a3, a4, a5, a6⟩, a7, a8, a9, a10⟩ := h32
    obtain ⟨m1, m2, m3, m4, m5⟩ := a2
    refine f_begin hn a5 m3 m5 (fun σ' _ z _ => rr_s z) (fun σ' f' z1 z2 z3 z4 z5 _ => k σ' m (by omega) ⟨sg_F_t a1 (sg_F_m f' rfl), ⟨yG_F m1 f' rfl, y0_F m2 f' rfl, z1, by rw [z2, sg_F_g f' (by rfl)]; omega, by rw [z2]; omega⟩, ⟨by rw [sg_F_g f' (by rfl)]; exact a3, by rw [sg_F_g f' (by rfl)]; exact a4, by rw [sg_F_g f' (by rfl)]; exact a5, by rw [sg_F_g f' (by rfl)]; exact a6⟩, a7, a8, a9, by omega⟩ (sg_F_t (sg_F_m f32 rfl) (sg_F_m f' rfl)) ?_ z4)
    have g : sg_F [69, 9061, 18077, 19077, 25061] σ8 σ' := sg_F_t (sg_F_m f32 rfl) (sg_F_m f' rfl)
    refine ⟨yEx_F g rfl, fun i _ => sg_F_ga g rfl, fun s _ _ => sg_F_ga g rfl, fun i _ => ⟨sg_F_ga g rfl, sg_F_ga g rfl⟩, fun x _ hx => ⟨?_, sg_F_ga g rfl, sg_F_ga g rfl⟩, fun q _ => sg_F_ga g rfl⟩
    rw [z5 x (by simpa using hx), sg_F_ga f32 rfl]
/-- what an operation leaves, seen from before its order -/
theorem zs_fn {σ32 σ' : sg_S} {D : Nat} {a : Int} (h : bP σ σ8 (t + a) sv N c p) (h0 : 0 ≤ t ∧ 0 ≤ a) (h32 : bP σ σ32 (t + a) sv N c (p + 1)) (f32 : sg_F [9061] σ8 σ32) (f' : sg_F fnL σ32 σ') (r : fnR σ32 σ' D N t c) (k : bP σ σ' (t + 1) sv N c (p + 1) → bU σ8 σ' lo b e nl dix t sv [] → yV σ' D (sg_g σ' 64 t) N → Rr σ m σ') : Rr σ m σ' := by
  rcases r with z | ⟨z1, z2, z3, z4, z5⟩
  · exact rr_s z
  · obtain ⟨a1, a2, ⟨a3, a4, a5, a6⟩, a7, a8, a9, a10⟩ := h32
    refine k ⟨sg_F_t a1 (sg_F_m f' rfl), z1, ⟨z4, by rw [sg_F_g f' (by rfl)]; exact a4, by rw [sg_F_g f' (by rfl)]; exact a5, by rw [sg_F_g f' (by rfl)]; exact a6⟩, a7, by omega, a9, a10⟩ ?_ z3
    exact ⟨yEx_t (yEx_F f32 rfl) z2, fun i hi => by rw [z5 i hi, sg_F_ga f32 rfl], fun s _ _ => by rw [sg_F_ga f' rfl, sg_F_ga f32 rfl], fun i _ => ⟨by rw [sg_F_ga f' rfl, sg_F_ga f32 rfl], by rw [sg_F_ga f' rfl, sg_F_ga f32 rfl]⟩, fun x _ _ => ⟨by rw [sg_F_ga f' rfl, sg_F_ga f32 rfl], by rw [sg_F_ga f' rfl, sg_F_ga f32 rfl], by rw [sg_F_ga f' rfl, sg_F_ga f32 rfl]⟩, fun q _ => by rw [sg_F_ga f' rfl, sg_F_ga f32 rfl]⟩
/-- a node with one part -/
theorem zs_one {k ta : Int} (h : bP σ σ8 (t + 1) sv N c p) (hc : 4 ≤ c) (ht : t < 400 ∧ 0 ≤ t) (hp : pl σ p ((2, n) :: C)) (hn : 0 ≤ n ∧ n < 200) (h3 : sg_g σ 3 n = kmp k) (h6 : sg_g σ 6 n ≤ 3) (hta : 0 ≤ ta ∧ ta ≤ 3) (hv : yV σ8 ta.toNat (sg_g σ8 64 t) N) (ho : op1 k ta (sg_g σ 6 n)) (kk : ∀ σ' m', m' ≤ m → bP σ σ' (t + 1) sv N c (p + 1) → bU σ8 σ' lo b e nl dix t sv [] → yV σ' (sg_g σ 6 n).toNat (sg_g σ' 64 t) N → Rr σ m' σ') : Rr σ m σ8 := by
  cases m with
  | zero => exact True.intro
  | succ m =>
    obtain ⟨p0, p1, p2, p3⟩ := pl_c hp
    refine rr_2 (p := p) (k := n) h.2.2.1.2.2.2 p0 p1 p2 (fun σ32 e32 => ?_)
    obtain ⟨h32, f32⟩ := bP_32 h ⟨p0.2, p0.1⟩ e32
    obtain ⟨a1, a2, ⟨a3, a4, a5, a6⟩, a7, a8, a9, a10⟩ := id h32
    refine fin1 (k := k) (ta := ta) (ty := sg_g σ 6 n) hn a2 hc a3 ⟨by omega, by omega⟩ a5 a7 (by rw [sg_F_ga a1 rfl]; exact h3) (sg_F_ga a1 rfl) h6 hta (by rw [sg_F_ga f32 rfl]; exact yV_up (yEx_F f32 rfl) hv) ho (fun σ' f' r' _ => ?_)
    exact zs_fn (a := 1) h ⟨ht.2, by omega⟩ h32 f32 f' r' (fun q1 q2 q3 => kk σ' m (by omega) q1 q2 q3)
theorem zs_two {k ta tb : Int} (h : bP σ σ8 (t + 2) sv N c p) (hc : 4 ≤ c) (ht : t + 2 ≤ 400 ∧ 0 ≤ t) (hp : pl σ p ((3, n) :: C)) (hn : 0 ≤ n ∧ n < 200) (h3 : sg_g σ 3 n = kmp k) (h6 : sg_g σ 6 n ≤ 3) (hta : 0 ≤ ta ∧ ta ≤ 3) (hv : yV σ8 ta.toNat (sg_g σ8 64 t) N) (hw : yV σ8 tb.toNat (sg_g σ8 64 (t + 1)) N) (ho : op2 k ta tb (sg_g σ 6 n)) (kk : ∀ σ' m', m' ≤ m → bP σ σ' (t + 1) sv N c (p + 1) → bU σ8 σ' lo b e nl dix t sv [] → yV σ' (sg_g σ 6 n).toNat (sg_g σ' 64 t) N → Rr σ m' σ') : Rr σ m σ8 := by
  cases m with
  | zero => exact True.intro
  | succ m =>
    obtain ⟨p0, p1, p2, p3⟩ := pl_c hp
    refine rr_3 (p := p) (k := n) h.2.2.1.2.2.2 p0 p1 p2 (fun σ32 e32 => ?_)
    obtain ⟨h32, f32⟩ := bP_32 h ⟨p0.2, p0.1⟩ e32
    obtain ⟨a1, a2, ⟨a3, a4, a5, a6⟩, a7, a8, a9, a10⟩ := id h32
    refine fin2 (k := k) (ta := ta) (tb := tb) (ty := sg_g σ 6 n) hn a2 hc a3 ⟨by omega, by omega⟩ a5 a7 (by rw [sg_F_ga a1 rfl]; exact h3) (sg_F_ga a1 rfl) h6 hta (by rw [sg_F_ga f32 rfl]; exact yV_up (yEx_F f32 rfl) hv) (by rw [sg_F_ga f32 rfl]; exact yV_up (yEx_F f32 rfl) hw) ho (fun σ' f' r' _ => ?_)
    exact zs_fn (a := 2) h ⟨ht.2, by omega⟩ h32 f32 f' r' (fun q1 q2 q3 => kk σ' m (by omega) q1 q2 q3)
/-- a NUMBER -/
theorem zs_num (h : bP σ σ8 t sv N c p) (hc : 4 ≤ c) (ht : t < 400 ∧ 0 ≤ t) (hp : pl σ p ((1, n) :: C)) (hn : 0 ≤ n ∧ n < 200) (h3 : sg_g σ 3 n = 257) (h6 : sg_g σ 6 n = 0) (kk : ∀ σ' m', m' ≤ m → bP σ σ' (t + 1) sv N c (p + 1) → bU σ8 σ' lo b e nl dix t sv [] → yV σ' (sg_g σ 6 n).toNat (sg_g σ' 64 t) N → Rr σ m' σ') : Rr σ m σ8 := by
  cases m with
  | zero => exact True.intro
  | succ m =>
    obtain ⟨p0, p1, p2, p3⟩ := pl_c hp
    refine rr_1 (p := p) (k := n) h.2.2.1.2.2.2 p0 p1 p2 (fun σ32 e32 => ?_)
    obtain ⟨h32, f32⟩ := bP_32 h ⟨p0.2, p0.1⟩ e32
    obtain ⟨a1, a2, ⟨a3, a4, a5, a6⟩, a7, a8, a9, a10⟩ := id h32
    obtain ⟨m1, m2, m3, m4, m5⟩ := id a2
    unfold V_mFinish
    rw [xa_in (a := 6) hn, xa_in (a := 3) hn, show sg_g σ32 6 n = 0 by rw [sg_F_ga a1 rfl]; exact h6, show sg_g σ32 3 n = 257 by rw [sg_F_ga a1 rfl]; exact h3]
    intro σ1 e1
    have f1 : sg_F [10061] σ32 σ1 := by rw [e1]; exact sg_F_w (sg_F_r _ _) rfl _
    refine ⟨fun _ => ?_, fun z => absurd rfl z⟩
    refine f_constant (t := t) (n := N) (fP_mk (t := t) ⟨m1, m2, by omega, m5, by omega⟩ f1 (by rw [sg_F_g f1 (by rfl)]; exact a3) ⟨by omega, by omega⟩ rfl) (by rw [e1, sg_gw_e _ _ _ _ (by decide)]) (by rw [sg_F_g f1 (by rfl)]; exact a5) (sx_R _ _ _ _) (fun σ' f' r' _ _ => ?_)
    exact zs_fn (a := 0) (D := 0) (t := t) (by rw [Int.add_zero]; exact h) ⟨ht.2, by omega⟩ (by rw [Int.add_zero]; exact h32) f32 (sg_F_t (sg_F_m f1 rfl) (sg_F_m f' rfl)) (gv_fn a2 f1 rfl r') (fun q1 q2 q3 => kk σ' m (by omega) q1 q2 (by rw [h6]; exact q3))
/-- a ROW -/
theorem zs_row {a : Int} {d : Nat} (h : bP σ σ8 (t + a) sv N c p) (hc : 4 ≤ c) (ht : t + a ≤ 400 ∧ 0 ≤ t) (ha : 1 ≤ a ∧ a ≤ 200) (hp : pl σ p ((1, n) :: C)) (hn : 0 ≤ n ∧ n < 200) (h3 : sg_g σ 3 n = 279) (h10 : sg_g σ 10 n = a) (h6 : sg_g σ 6 n = (d + 1 : Nat)) (hd : d + 1 ≤ 3) (hv : ∀ i : Nat, (i : Int) < a → yV σ8 d (sg_g σ8 64 (t + i)) N) (kk : ∀ σ' m', m' ≤ m → bP σ σ' (t + 1) sv N c (p + 1) → bU σ8 σ' lo b e nl dix t sv [] → yV σ' (sg_g σ 6 n).toNat (sg_g σ' 64 t) N → Rr σ m' σ') : Rr σ m σ8 := by
  cases m with
  | zero => exact True.intro
  | succ m =>
    obtain ⟨p0, p1, p2, p3⟩ := pl_c hp
    refine rr_1 (p := p) (k := n) h.2.2.1.2.2.2 p0 p1 p2 (fun σ32 e32 => ?_)
    obtain ⟨h32, f32⟩ := bP_32 h ⟨p0.2, p0.1⟩ e32
    obtain ⟨a1, a2, ⟨a3, a4, a5, a6⟩, a7, a8, a9, a10⟩ := id h32
    obtain ⟨m1, m2, m3, m4, m5⟩ := id a2
    unfold V_mFinish
    rw [xa_in (a := 6) hn, xa_in (a := 3) hn, xa_in (a := 10) hn, show sg_g σ32 6 n = (d + 1 : Nat) by rw [sg_F_ga a1 rfl]; exact h6, show sg_g σ32 3 n = 279 by rw [sg_F_ga a1 rfl]; exact h3, show sg_g σ32 10 n = a by rw [sg_F_ga a1 rfl]; exact h10]
    intro σ1 e1
    have f1 : sg_F [10061] σ32 σ1 := by rw [e1]; exact sg_F_w (sg_F_r _ _) rfl _
    refine ⟨fun z => absurd z (by decide), fun _ => ⟨fun z => absurd z (by decide), fun _ => ⟨fun _ => ?_, fun z => absurd rfl z⟩⟩⟩
    refine f_row (t := t) (n := N) (d := d) ⟨yG_F m1 f1 rfl, y0_F m2 f1 rfl, by rw [sg_F_g f1 (by rfl), sg_F_g f1 (by rfl)]; omega, by rw [sg_F_g f1 (by rfl)]; exact m5, by rw [sg_F_g f1 (by rfl)]; omega⟩ (by rw [sg_F_g f1 (by rfl)]; exact a3) ⟨by omega, by omega⟩ ha hd (by rw [e1, sg_gw_e _ _ _ _ ⟨by omega, by omega⟩]) (by rw [sg_F_g f1 (by rfl)]; exact a5) (fun i hi => by rw [sg_F_ga f1 rfl, sg_F_ga f32 rfl]; exact yV_up (yEx_F f1 rfl) (yV_up (yEx_F f32 rfl) (hv i hi))) (fun σ' f' r' _ _ => ?_)
    exact zs_fn (a := a) (D := d + 1) (t := t) h ⟨ht.2, by omega⟩ h32 f32 (sg_F_t (sg_F_m f1 rfl) (sg_F_m f' rfl)) (gv_fn a2 f1 rfl r') (fun q1 q2 q3 => kk σ' m (by omega) q1 q2 (by rw [h6, Int.toNat_natCast]; exact q3))
/-- a NAME -/
theorem zs_name {s : Int} (h : bP σ σ8 t sv N c p) (ht : t < 400 ∧ 0 ≤ t) (hp : pl σ p ((1, n) :: C)) (hn : 0 ≤ n ∧ n < 200) (h3 : sg_g σ 3 n = 258) (h16 : sg_g σ 16 n = s) (hs : 0 ≤ s ∧ s < 272) (h6 : sg_g σ 34 s = sg_g σ 6 n) (hv : yV σ8 (sg_g σ 34 s).toNat (sg_g σ8 62 s) N) (kk : ∀ σ' m', m' ≤ m → bP σ σ' (t + 1) sv N c (p + 1) → bU σ8 σ' lo b e nl dix t sv [] → yV σ' (sg_g σ 6 n).toNat (sg_g σ' 64 t) N → Rr σ m' σ') : Rr σ m σ8 := by
  cases m with
  | zero => exact True.intro
  | succ m =>
    obtain ⟨p0, p1, p2, p3⟩ := pl_c hp
    refine rr_1 (p := p) (k := n) h.2.2.1.2.2.2 p0 p1 p2 (fun σ32 e32 => ?_)
    obtain ⟨h32, f32⟩ := bP_32 h ⟨p0.2, p0.1⟩ e32
    obtain ⟨a1, a2, ⟨a3, a4, a5, a6⟩, a7, a8, a9, a10⟩ := id h32
    unfold V_mFinish
    rw [xa_in (a := 16) hn, xa_in (a := 3) hn, show sg_g σ32 16 n = s by rw [sg_F_ga a1 rfl]; exact h16, show sg_g σ32 3 n = 258 by rw [sg_F_ga a1 rfl]; exact h3, xa_in (a := 62) hs]
    intro σ1 e1
    have f1 : sg_F [10061] σ32 σ1 := by rw [e1]; exact sg_F_w (sg_F_r _ _) rfl _
    refine ⟨fun z => absurd z (by decide), fun _ => ⟨fun _ => ?_, fun z => absurd rfl z⟩⟩
    refine y_push (t := t) (by rw [sg_F_g f1 (by rfl)]; exact a3) ⟨ht.2, ht.1⟩ (sg_Rg _ _ _) (fun σ' f' z1 z2 z3 _ _ => ?_)
    have F : sg_F [64, 8061, 9061, 10061] σ8 σ' := sg_F_t (sg_F_t (sg_F_m f32 rfl) (sg_F_m f1 rfl)) (sg_F_m f' rfl)
    have F2 : sg_F [64, 8061, 10061] σ32 σ' := sg_F_t (sg_F_m f1 rfl) (sg_F_m f' rfl)
    refine kk σ' m (by omega) ⟨sg_F_t h.1 (sg_F_m F rfl), mC_F h.2.1 F rfl, ⟨z1, by rw [sg_F_g F2 (by rfl)]; exact a4, by rw [sg_F_g F2 (by rfl)]; exact a5, by rw [sg_F_g F2 (by rfl)]; exact a6⟩, a7, by omega, a9, a10⟩ ?_ ?_
    · exact ⟨yEx_F F rfl, fun i hi => by rw [z3 i (by omega), sg_F_ga f1 rfl, sg_F_ga f32 rfl], fun s _ _ => sg_F_ga F rfl, fun i _ => ⟨sg_F_ga F rfl, sg_F_ga F rfl⟩, fun x _ _ => ⟨sg_F_ga F rfl, sg_F_ga F rfl, sg_F_ga F rfl⟩, fun q _ => sg_F_ga F rfl⟩
    · rw [z2, ← h6, sg_F_ga f32 rfl]
      exact yV_up (yEx_F F rfl) hv
end BST
/-! BIG STEPS: a node, parts one after another, operations. -/
/-- values of the variables that are bound outside -/
def bE (σ σ8 : sg_S) (A : aT) (L es : List Int) (N : Int) : Prop := ∀ j ∈ L, A.2.1 j = 1 → sg_g σ 16 j ∈ es → yV σ8 (sg_g σ 34 (sg_g σ 16 j)).toNat (sg_g σ8 62 (sg_g σ 16 j)) N
/-- slots known -/
def bSq (σ : sg_S) (es : List Int) (lo b : Int) : Prop := 0 ≤ lo ∧ lo ≤ b ∧ ∀ s ∈ es, (lo ≤ s ∧ s < b) ∧ kIn (sg_g σ 34 s)
/-- each node's range -/
def gRq (σ : sg_S) (A : aT) (L : List Int) : Prop := ∀ x ∈ L, ∀ Lx, fT A [x] Lx → ∀ y, y ∈ Lx ↔ (sg_g σ 11 x ≤ y ∧ y ≤ sg_g σ 12 x)
theorem bE_s {σ σ8 : sg_S} {A : aT} {L L' es : List Int} {N : Int} (h : bE σ σ8 A L es N) (hL : ∀ x ∈ L', x ∈ L) : bE σ σ8 A L' es N := fun j hj => h j (hL j hj)
theorem bE_u {σ σ8 σ1 : sg_S} {A : aT} {L L1 es : List Int} {N lo b e nl dix t sv : Int} (h : bE σ σ8 A L es N) (hs : bSq σ es lo b) (u : bU σ8 σ1 lo b e nl dix t sv L1) : bE σ σ1 A L es N := fun j hj hk hm => by
  have := (hs.2.2 _ hm).1
  rw [u.2.2.1 _ this.1 (by omega)]
  exact yV_up u.1 (h j hj hk hm)
theorem bS_m {σ : sg_S} {es : List Int} {lo b b2 : Int} (h : bSq σ es lo b) (hb : b ≤ b2) : bSq σ es lo b2 := ⟨h.1, by have := h.2.1; omega, fun s hs => ⟨by have := (h.2.2 s hs).1; omega, (h.2.2 s hs).2⟩⟩
theorem gR_s {σ : sg_S} {A : aT} {L L' : List Int} (h : gRq σ A L) (hL : ∀ x ∈ L', x ∈ L) : gRq σ A L' := fun x hx => h x (hL x hx)
/-- the big step of a node -/
def bN (σ : sg_S) (A : aT) (ds : kD) (B : Int → Int) (lo nl dix : Int) (f : Nat) : Prop := ∀ (n : Int) (L es : List Int) (sc : List (Int × Int)) (b b' p : Int) (h : Nat), fT A [n] L → L.Nodup → (∀ x ∈ L, nl ≤ x) → gRq σ A L → tyN A ds (sg_g σ 6) B f sc n → scN σ A dix f es n b b' → htN A f n ≤ h → pl σ p (cd A f n) → bSq σ es lo b → b' ≤ 272 → ∀ (σ8 : sg_S) (m : Nat) (t sv N c : Int), bP σ σ8 t sv N c p → bE σ σ8 A L es N → t + L.length + nl ≤ 400 → sv + ((h * L.length : Nat) : Int) + 12 * nl ≤ 2400 → (∀ σ' m', m' ≤ m → bP σ σ' (t + 1) sv N c (p + (cd A f n).length) → bU σ8 σ' lo b b' nl dix t sv L → yV σ' (sg_g σ 6 n).toNat (sg_g σ' 64 t) N → Rr σ m' σ') → Rr σ m σ8
theorem mul_le {h a b : Nat} {x : Int} (hx : x + ((h * b : Nat) : Int) ≤ 2400) (hab : a ≤ b) : x + ((h * a : Nat) : Int) ≤ 2400 := by
  have := Nat.mul_le_mul_left h hab
  omega
section BNR
variable {σ : sg_S} {A : aT} {ds : kD} {B : Int → Int} {lo nl dix : Int} {f : Nat}
theorem bRow (hnl : 0 ≤ nl) (F : bN σ A ds B lo nl dix f) {n0 : Int} {es : List Int} {sc : List (Int × Int)} {h : Nat} : ∀ (R L : List Int) (s : Nat) (b b' p : Int), fT A R L → L.Nodup → (∀ x ∈ L, nl ≤ x) → gRq σ A L → (∀ x ∈ R, tyN A ds (sg_g σ 6) B f sc x) → scS σ A (scN σ A dix f) n0 s es b R b' → (∀ j, s ≤ j → j < s + R.length → kQ A n0 j) → (∀ x ∈ R, htN A f x ≤ h) → pl σ p (cdS A (cd A f) n0 s R) → bSq σ es lo b → b' ≤ 272 → ∀ (σ8 : sg_S) (m : Nat) (t sv N c : Int), bP σ σ8 t sv N c p → bE σ σ8 A L es N → t + L.length + nl ≤ 400 → sv + ((h * L.length : Nat) : Int) + 12 * nl ≤ 2400 → (∀ σ' m', m' ≤ m → bP σ σ' (t + R.length) sv N c (p + (cdS A (cd A f) n0 s R).length) → bU σ8 σ' lo b b' nl dix t sv L → (∀ (i : Nat) (x : Int), R[i]? = some x → yV σ' (sg_g σ 6 x).toNat (sg_g σ' 64 (t + i)) N) → Rr σ m' σ') → Rr σ m σ8
  | [], L, s, b, b', p, hf, hN, hL, hg, hty, hsc, hq, hh, hp, hS, hb, σ8, m, t, sv, N, c, h8, hE, ht, hv, k => by
    refine k σ8 m (Nat.le_refl _) ?_ bU_r (fun i x hx => by simp at hx)
    simp only [cdS, List.length_nil, Int.ofNat_zero, Int.cast_ofNat_Int, Int.add_zero]
    exact h8
  | x :: R, L, s, b, b', p, hf, hN, hL, hg, hty, hsc, hq, hh, hp, hS, hb, σ8, m, t, sv, N, c, h8, hE, ht, hv, k => by
    obtain ⟨L1, L2, e1, w1, w2, w3⟩ := fT_inv hf
    subst e1
    obtain ⟨q1, q2⟩ := hq s (Nat.le_refl _) (by simp)
    simp only [scS] at hsc
    obtain ⟨-, b2, s2, s3⟩ := hsc
    obtain ⟨e1, e2⟩ := esA_no q2 es b
    rw [e1, e2] at s2
    rw [e1] at s3
    simp only [cdS] at hp k
    rw [q1, List.nil_append] at hp k
    obtain ⟨p1, p2⟩ := pl_a hp
    have l1 := scN_le _ _ _ _ _ s2
    have l2 := scS_le (fun es x b b' => scN_le f es x b b') _ _ _ _ _ s3
    have i1 : ∀ y, y ∈ x :: L1 → y ∈ x :: (L1 ++ L2) := fun y hy => by rw [← List.cons_append]; exact List.mem_append_left _ hy
    have i2 : ∀ y, y ∈ L2 → y ∈ x :: (L1 ++ L2) := fun y hy => by rw [← List.cons_append]; exact List.mem_append_right _ hy
    have hN1 : (x :: L1).Nodup := List.Nodup.sublist (by rw [← List.cons_append]; exact List.sublist_append_left _ _) hN
    have hN2 : L2.Nodup := List.Nodup.sublist (by rw [← List.cons_append]; exact List.sublist_append_right _ _) hN
    have hl : (x :: (L1 ++ L2)).length = (x :: L1).length + L2.length := by rw [← List.cons_append, List.length_append]
    have hl1 : 1 ≤ (x :: L1).length := by simp
    refine F x (x :: L1) es sc b b2 p h (fT_one w1 w2) hN1 (fun y hy => hL y (i1 y hy)) (gR_s hg i1) (hty x (by simp)) s2 (hh x (by simp)) p1 hS (by omega) σ8 m t sv N c h8 (bE_s hE i1) (by omega) ?_ (fun σ1 m1 hm1 h1 u1 v1 => ?_)
    · have := Nat.mul_le_mul_left h (show (x :: L1).length ≤ (x :: (L1 ++ L2)).length by omega)
      omega
    · have hE1 := bE_u (bE_s hE i2) hS u1
      refine bRow hnl F R L2 (s + 1) b2 b' (p + (cd A f x).length) w3 hN2 (fun y hy => hL y (i2 y hy)) (gR_s hg i2) (fun y hy => hty y (by simp [hy])) s3 (fun j a b => hq j (by omega) (by simp only [List.length_cons]; omega)) (fun y hy => hh y (by simp [hy])) p2 (bS_m hS l1) hb σ1 m1 (t + 1) sv N c h1 hE1 (by omega) ?_ (fun σ2 m2 hm2 h2 u2 v2 => ?_)
      · have := Nat.mul_le_mul_left h (show L2.length ≤ (x :: (L1 ++ L2)).length by omega)
        omega
      · refine k σ2 m2 (by omega) ?_ (bU_t u1 u2 ⟨by omega, by omega, by omega, by omega⟩ ⟨by omega, by omega⟩ ⟨by omega, by omega⟩ i1 i2) (fun i y hy => ?_)
        · simp only [List.length_cons, List.length_append]
          rw [show t + ((R.length + 1 : Nat) : Int) = t + 1 + R.length by omega, show p + (((cd A f x).length + (cdS A (cd A f) n0 (s + 1) R).length : Nat) : Int) = p + (cd A f x).length + (cdS A (cd A f) n0 (s + 1) R).length by omega]
          exact h2
        · cases i with
          | zero =>
            simp only [List.getElem?_cons_zero, Option.some.injEq] at hy
            subst hy
            simp only [Int.ofNat_zero, Int.cast_ofNat_Int, Int.add_zero]
            rw [u2.2.1 t (by omega)]
            exact yV_up u2.1 v1
          | succ i =>
            have := v2 i y hy
            rw [show t + 1 + (i : Int) = t + ((i + 1 : Nat) : Int) by omega] at this
            exact this
/-- what is known of a node's row 3 -/
theorem ck3 {n : Int} (hW : ckW σ A) (hn : 0 ≤ n ∧ n < A.1) : sg_g σ 3 n = kmp (A.2.1 n) ∧ n < 200 := by
  have := (hW.2.2 n hn.1 hn.2).1.1
  have := hW.1
  omega
/-- operations -/
theorem bN_op (hW : ckW σ A) (hnl : 0 ≤ nl) (F : bN σ A ds B lo nl dix f) {n : Int} {L1 es : List Int} {sc : List (Int × Int)} {b b' p : Int} {h : Nat} (hk : A.2.1 n = 0 ∨ A.2.1 n = 1 ∨ A.2.1 n = 14 ∨ (4 ≤ A.2.1 n ∧ A.2.1 n ≤ 12) ∨ 16 ≤ A.2.1 n) (hf : fT A (A.2.2.2.2.1 n) L1) (hN : L1.Nodup) (hL : ∀ x ∈ n :: L1, nl ≤ x) (hg : gRq σ A (n :: L1)) (hty : tyN A ds (sg_g σ 6) B (f + 1) sc n) (hsc : scN σ A dix (f + 1) es n b b') (hh : htN A (f + 1) n ≤ h) (hp : pl σ p (cd A (f + 1) n)) (hS : bSq σ es lo b) (hb : b' ≤ 272) {σ8 : sg_S} {m : Nat} {t sv N c : Int} (h8 : bP σ σ8 t sv N c p) (hE : bE σ σ8 A (n :: L1) es N) (ht : t + (n :: L1).length + nl ≤ 400) (hv : sv + ((h * (n :: L1).length : Nat) : Int) + 12 * nl ≤ 2400) (k : ∀ σ' m', m' ≤ m → bP σ σ' (t + 1) sv N c (p + (cd A (f + 1) n).length) → bU σ8 σ' lo b b' nl dix t sv (n :: L1) → yV σ' (sg_g σ 6 n).toNat (sg_g σ' 64 t) N → Rr σ m' σ') : Rr σ m σ8 := by
  obtain ⟨t1, t2, t3, t4, t5, t6, t7, t8, t9⟩ := hty
  obtain ⟨c1, c2⟩ := ck3 hW t2
  have n2 : ¬ A.2.1 n = 2 := by omega
  have n3 : ¬ A.2.1 n = 3 := by omega
  have n15 : ¬ A.2.1 n = 15 := by omega
  have n13 : ¬ A.2.1 n = 13 := by omega
  have ho : kOrd A n = A.2.2.2.2.1 n := by unfold kOrd; rw [if_neg n15]
  obtain ⟨-, s1, -, s2⟩ := hsc
  rw [ho] at s2
  simp only [cd] at hp k
  rw [ho] at hp k
  have p0 := pl_c hp
  obtain ⟨p1, p2⟩ := pl_a p0.2.2.2
  obtain ⟨g1, g2⟩ := t3
  have ll := fT_len hf
  simp only [List.length_cons] at ht hv
  have hmul : sv + ((h * L1.length : Nat) : Int) + 12 * nl ≤ 2400 := by
    have := Nat.mul_le_mul_left h (show L1.length ≤ L1.length + 1 by omega)
    omega
  refine zs_begin (lo := lo) (b := b) (e := b') (nl := nl) (dix := dix) h8 hp ⟨t2.1, c2⟩ (fun σ1 m1 hm1 h1 f1 u1 _ => ?_)
  have hE1 : bE σ σ1 A L1 es N := bE_u (bE_s hE (fun x hx => by simp [hx])) hS u1
  refine bRow hnl F (A.2.2.2.2.1 n) L1 0 b b' (p + 1) hf hN (fun x hx => hL x (by simp [hx])) (gR_s hg (fun x hx => by simp [hx])) (t9 n2 n15) s2 (fun j _ _ => kQ_o n2 n3 n15) (fun x hx => ht_k hh hx) p1 hS hb σ1 m1 t sv N (c + 4) h1 hE1 (by omega) hmul (fun σ2 m2 hm2 h2 u2 v2 => ?_)
  have u12 : bU σ8 σ2 lo b b' nl dix t sv (n :: L1) := bU_t u1 u2 ⟨Int.le_refl _, Int.le_refl _, Int.le_refl _, Int.le_refl _⟩ ⟨Int.le_refl _, Int.le_refl _⟩ ⟨Int.le_refl _, Int.le_refl _⟩ (fun x hx => by simp at hx; simp [hx]) (fun x hx => by simp [hx])
  have c0 := h8.2.2.2.2.2.2
  have fin : ∀ σ' m', m' ≤ m2 → (cnc A n).length = 1 → bP σ σ' (t + 1) sv N (c + 4) (p + 1 + (cdS A (cd A f) n 0 (A.2.2.2.2.1 n)).length + 1) → bU σ2 σ' lo b b' nl dix t sv [] → yV σ' (sg_g σ 6 n).toNat (sg_g σ' 64 t) N → Rr σ m' σ' := fun σ' m' hm' hc hP hU hV => by
    refine k σ' m' (by omega) ?_ (bU_t u12 hU ⟨Int.le_refl _, Int.le_refl _, Int.le_refl _, Int.le_refl _⟩ ⟨Int.le_refl _, Int.le_refl _⟩ ⟨Int.le_refl _, Int.le_refl _⟩ (fun _ hx => hx) (by simp)) hV
    simp only [List.length_cons, List.length_append]
    rw [hc]
    rw [show p + ((((cdS A (cd A f) n 0 (A.2.2.2.2.1 n)).length + 1 + 1 : Nat)) : Int) = p + 1 + (cdS A (cd A f) n 0 (A.2.2.2.2.1 n)).length + 1 by omega]
    exact bP_m hP ⟨c0, by omega⟩
  obtain ⟨w1, w2, w3, w4, w5, w6, w7, w8⟩ := id t1
  have hty0 : ¬ A.2.1 n = 1 → kTy A ds (sg_g σ 6) [] n ((A.2.2.2.2.1 n).map (sg_g σ 6)) = some (sg_g σ 6 n) := t5
  have kin : ∀ x ∈ A.2.2.2.2.1 n, kIn (sg_g σ 6 x) := fun x hx => by
    have := t9 n2 n15 x hx
    cases f with
    | zero => exact this.elim
    | succ f => exact this.2.2.1
  by_cases k0 : A.2.1 n = 0
  · -- NUMBER
    have hl := w2 (by omega)
    have hcn : cnc A n = [(1, n)] := by unfold cnc; rw [if_neg n2, if_neg n3, if_neg n13, if_neg n15, if_pos (Or.inl k0)]
    rw [hcn] at p2 fin
    rw [hl, show t + ((0 : Nat) : Int) = t by omega] at h2
    have t6' : sg_g σ 6 n = 0 := by
      have := hty0 (by omega)
      unfold kTy at this
      simp only [k0, if_true] at this
      exact (Option.some.inj this).symm
    refine zs_num h2 (by omega) ⟨by omega, h8.2.2.2.2.1⟩ p2 ⟨t2.1, c2⟩ (by rw [c1, k0]; rfl) t6' (fun σ' m' hm' hP hU hV => fin σ' m' hm' rfl hP hU hV)
  · by_cases k1 : A.2.1 n = 1
    · -- NAME
      have hl := w2 (by omega)
      have hcn : cnc A n = [(1, n)] := by unfold cnc; rw [if_neg n2, if_neg n3, if_neg n13, if_neg n15, if_pos (Or.inr (Or.inl k1))]
      rw [hcn] at p2 fin
      rw [hl, show t + ((0 : Nat) : Int) = t by omega] at h2
      obtain ⟨q1, q2⟩ := s1 k1
      have q3 := (hS.2.2 _ q1).1
      have q4 := hS.1
      have lb := scS_le (fun es x b b' => scN_le f es x b b') _ _ _ _ _ s2
      have v0 := bE_u hE hS u12 n (by simp) k1 q1
      refine zs_name (s := sg_g σ 16 n) h2 ⟨by omega, h8.2.2.2.2.1⟩ p2 ⟨t2.1, c2⟩ (by rw [c1, k1]; rfl) rfl ⟨by omega, by omega⟩ q2 v0 (fun σ' m' hm' hP hU hV => fin σ' m' hm' rfl hP hU hV)
    · by_cases k14 : A.2.1 n = 14
      · -- ROW
        have hl := w6 k14
        have hcn : cnc A n = [(1, n)] := by unfold cnc; rw [if_neg n2, if_neg n3, if_neg n13, if_neg n15, if_pos (Or.inr (Or.inr k14))]
        rw [hcn] at p2 fin
        have tt := hty0 k1
        have t6' : kIs (((A.2.2.2.2.1 n).map (sg_g σ 6)).all (fun x => decide (x = ((A.2.2.2.2.1 n).map (sg_g σ 6)).getD 0 0))) (((A.2.2.2.2.1 n).map (sg_g σ 6)).getD 0 0 + 1) = some (sg_g σ 6 n) := by
          rw [← tt]
          unfold kTy
          simp only [k14]
          rfl
        obtain ⟨i1, i2, i3⟩ := kIs_in t6'
        generalize hA0 : ((A.2.2.2.2.1 n).map (sg_g σ 6)).getD 0 0 = a0 at i1 i2 i3
        have all0 : ∀ x ∈ A.2.2.2.2.1 n, sg_g σ 6 x = a0 := fun x hx => by
          have := List.all_eq_true.mp i3 (sg_g σ 6 x) (List.mem_map_of_mem hx)
          simpa using this
        have a00 : 0 ≤ a0 := by
          obtain ⟨y, r, hy⟩ : ∃ y r, A.2.2.2.2.1 n = y :: r := by
            match hh : A.2.2.2.2.1 n with
            | [] => rw [hh] at hl; simp at hl
            | y :: r => exact ⟨y, r, rfl⟩
          have m0 : y ∈ A.2.2.2.2.1 n := by rw [hy]; simp
          rw [← all0 y m0]
          exact (kin y m0).1
        have c10 : sg_g σ 10 n = (A.2.2.2.2.1 n).length := by
          have := (hW.2.2 n t2.1 t2.2).1.2.2.2.1.1
          unfold pts at this
          rw [if_neg n15] at this
          exact this
        have l200 : (A.2.2.2.2.1 n).length ≤ 200 := by
          have q := (hW.2.2 n t2.1 t2.2).1.2.2.2.1.2.2.2
          unfold pts at q
          rw [if_neg n15] at q
          rcases wit_len (f := id) (a := 0) (b := 199) q.1 (fun x hx => ⟨x, (q.2 x hx).1, by have := (q.2 x hx).2; omega, rfl⟩) with z | z
          · omega
          · rw [z]; exact Nat.zero_le _
        refine zs_row (a := (A.2.2.2.2.1 n).length) (d := a0.toNat) h2 (by omega) ⟨by omega, h8.2.2.2.2.1⟩ ⟨by omega, by omega⟩ p2 ⟨t2.1, c2⟩ (by rw [c1, k14]; rfl) c10 (by omega) (by omega) (fun i hi => ?_) (fun σ' m' hm' hP hU hV => fin σ' m' hm' rfl hP hU hV)
        have hx : (A.2.2.2.2.1 n)[i]? = some ((A.2.2.2.2.1 n)[i]'(by omega)) := List.getElem?_eq_getElem _
        have := v2 i _ hx
        rw [all0 _ (List.mem_of_getElem? hx)] at this
        exact this
      · -- ACTS
        have hw := t1
        unfold nW at hw
        have tt := kTy_o (A := A) (ds := ds) (T := sg_g σ 6) (n := n) (ty := sg_g σ 6 n) (ts := (A.2.2.2.2.1 n).map (sg_g σ 6)) (by rw [List.length_map]; exact hw) (hty0 k1) (by omega) n13 k14 n15 (fun x hx => by
          obtain ⟨y, hy, rfl⟩ := List.mem_map.mp hx
          exact (kin y hy).1)
        rw [List.length_map] at tt
        have gd : ∀ i : Nat, (hi : i < (A.2.2.2.2.1 n).length) → ((A.2.2.2.2.1 n).map (sg_g σ 6)).getD i 0 = sg_g σ 6 ((A.2.2.2.2.1 n)[i]) := fun i hi => by
          rw [List.getD_eq_getElem?_getD, List.getElem?_map, List.getElem?_eq_getElem hi]; rfl
        rcases tt with ⟨l1, o1⟩ | ⟨l2, o2⟩
        · have hcn : cnc A n = [(2, n)] := by
            unfold cnc
            rw [if_neg n2, if_neg n3, if_neg n13, if_neg n15, if_neg (by omega), if_pos]
            unfold op1 at o1
            omega
          rw [hcn] at p2 fin
          rw [l1] at h2
          rw [gd 0 (by omega)] at o1
          have kx := kin _ (List.getElem_mem (h := show 0 < (A.2.2.2.2.1 n).length by omega))
          have v0 := v2 0 _ (List.getElem?_eq_getElem (by omega))
          simp only [Int.ofNat_zero, Int.cast_ofNat_Int, Int.add_zero] at v0
          exact zs_one (k := A.2.1 n) h2 (by omega) ⟨by omega, h8.2.2.2.2.1⟩ p2 ⟨t2.1, c2⟩ c1 g2 kx v0 o1 (fun σ' m' hm' hP hU hV => fin σ' m' hm' rfl hP hU hV)
        · have hcn : cnc A n = [(3, n)] := by
            unfold cnc
            rw [if_neg n2, if_neg n3, if_neg n13, if_neg n15, if_neg (by omega), if_neg]
            unfold op2 at o2
            omega
          rw [hcn] at p2 fin
          rw [l2] at h2
          rw [gd 0 (by omega), gd 1 (by omega)] at o2
          have kx := kin _ (List.getElem_mem (h := show 0 < (A.2.2.2.2.1 n).length by omega))
          have v0 := v2 0 _ (List.getElem?_eq_getElem (by omega))
          have v1 := v2 1 _ (List.getElem?_eq_getElem (by omega))
          simp only [Int.ofNat_zero, Int.cast_ofNat_Int, Int.add_zero] at v0
          exact zs_two (k := A.2.1 n) h2 (by omega) ⟨by omega, h8.2.2.2.2.1⟩ p2 ⟨t2.1, c2⟩ c1 g2 kx v0 v1 o2 (fun σ' m' hm' hP hU hV => fin σ' m' hm' rfl hP hU hV)
end BNR
