/-! finish, finishOne, finishTwo. -/
abbrev fnL : List Nat := 10061 :: opL
def fnR (σ σ' : sg_S) (D : Nat) (n t c : Int) : Prop := ¬ sg_g σ' 61 10 = 0 ∨ (mC σ' c ∧ yEx σ σ' ∧ yV σ' D (sg_g σ' 64 t) n ∧ sg_g σ' 61 7 = t + 1 ∧ ∀ i, i < t → sg_g σ' 64 i = sg_g σ 64 i)
theorem gv_fn {L : List Nat} {σ σ7 σ' : sg_S} {D : Nat} {n t c : Int} (hm : mC σ c) (f7 : sg_F L σ σ7) (hL : (sg_ca L 77 && sg_ca L 78 && sg_ca L 79 && sg_ca L 80 && sg_ca L 81 && sg_ca L 82 && sg_ca L 64) = true) (r : gvR σ7 σ' D n t) : fnR σ σ' D n t c := by
  simp only [Bool.and_eq_true] at hL
  obtain ⟨⟨⟨⟨⟨⟨l1, l2⟩, l3⟩, l4⟩, l5⟩, l6⟩, l7⟩ := hL
  rcases r with z | ⟨z1, z2, z3, z4, z5, z6, z7, z8, z9, z10⟩
  · exact Or.inl z
  · right
    obtain ⟨m1, m2, m3, m4, m5⟩ := hm
    have q : ∀ k, sg_g σ7 77 k = sg_g σ 77 k := fun k => sg_F_ga f7 l1
    rw [q] at z8 z9
    have ex : yEx σ σ7 := yEx_x (q _) (q _) (fun v _ _ => ⟨sg_F_ga f7 l4, sg_F_ga f7 l5, sg_F_ga f7 l6⟩) (fun x _ => ⟨sg_F_ga f7 l2, sg_F_ga f7 l3⟩)
    exact ⟨⟨z3, z4, z1, by omega, by omega⟩, yEx_t ex z2, z5, z6, fun i hi => by rw [z7 i (by omega), sg_F_ga f7 l7]⟩
def op1 (k a ty : Int) : Prop := (k = 11 ∧ 0 < a ∧ ty = 0) ∨ (k = 16 ∧ a = 0 ∧ ty = 1) ∨ ((k = 18 ∨ k = 19 ∨ k = 20) ∧ a = 1 ∧ ty = 0) ∨ (k = 21 ∧ a = 1 ∧ ty = 1) ∨ (k = 22 ∧ 0 < a ∧ ty = a) ∨ (k = 24 ∧ 1 < a ∧ ty = a - 1)
def op2 (k a b ty : Int) : Prop := ((4 ≤ k ∧ k ≤ 10) ∧ a = 0 ∧ b = 0 ∧ ty = 0) ∨ (k = 12 ∧ 0 < a ∧ b = 0 ∧ ty = a - 1) ∨ (k = 17 ∧ b = 0 ∧ ty = a + 1) ∨ (k = 23 ∧ 0 < a ∧ a = b ∧ ty = a) ∨ ((k = 25 ∨ k = 26) ∧ 0 < a ∧ b = 1 ∧ ty = a) ∨ (k = 27 ∧ 0 < a ∧ b = 1 ∧ ty = a + 1)
section FIN
variable {σ : sg_S} {Q : sg_S → Prop}
theorem yV_s {d : Nat} {v n : Int} {k : Int} (h : yV σ k.toNat v n) (hd : k = d) : yV σ d v n := by subst hd; exact h
theorem fin1 {a k ta ty n t c : Int} (ha : 0 ≤ a ∧ a < 200) (hm : mC σ c) (hc : 4 ≤ c) (ht : sg_g σ 61 7 = t + 1) (h0 : 0 ≤ t ∧ t < 400) (h23 : sg_g σ 61 23 = n) (hn : 0 ≤ n ∧ n ≤ 6000) (h3 : sg_g σ 3 a = kmp k) (h6 : sg_g σ 6 a = ty) (hty : ty ≤ 3) (hta : 0 ≤ ta ∧ ta ≤ 3) (hv : yV σ ta.toNat (sg_g σ 64 t) n) (ho : op1 k ta ty) (kk : ∀ σ', sg_F fnL σ σ' → fnR σ σ' ty.toNat n t c → Q σ') : V_mFinishOne σ a Q := by
  unfold V_mFinishOne
  rw [xa_in (a := 6) ha, xa_in (a := 3) ha, h6, h3]
  refine y_pop ht h0 (fun σ2 f2 t2 _ _ σ7 e7 => ?_)
  have f7 : sg_F [10061] σ2 σ7 := by rw [e7]; exact sg_F_w (sg_F_r _ _) rfl _
  have F7 : sg_F [8061, 10061] σ σ7 := sg_F_t (sg_F_m f2 rfl) (sg_F_m f7 rfl)
  have ex7 : yEx σ σ7 := yEx_F F7 rfl
  obtain ⟨m1, m2, m3, m4, m5⟩ := id hm
  have hP : fP σ7 t := fP_mk ⟨m1, m2, by omega, m5, by omega⟩ F7 (by rw [sg_F_g f7 (by rfl)]; exact t2) h0 rfl
  have d9 : ∀ d : Nat, ty = d → sg_g σ7 61 9 = d := fun d hd => by rw [e7, sg_gw_e _ _ _ _ ⟨by omega, by omega⟩]; exact hd
  have n7 : sg_g σ7 61 23 = n := by rw [sg_F_g F7 (by rfl)]; exact h23
  have fin : ∀ (d : Nat) (σ' : sg_S), ty = d → sg_F opL σ7 σ' → gvR σ7 σ' d n t → Q σ' := fun d σ' hd f' r' => by
    refine kk σ' (sg_F_t (sg_F_m F7 rfl) (sg_F_m f' rfl)) ?_
    rw [hd, Int.toNat_natCast]
    exact gv_fn hm F7 rfl r'
  have vv : ∀ d : Nat, ta = d → yV σ7 d (sg_g σ 64 t) n := fun d hd => yV_up ex7 (yV_s hv hd)
  have vr : yRw σ7 (sg_g σ 64 t) n := yRw_up ex7 (yV_r hv)
  rcases ho with ⟨e, q1, q2⟩ | ⟨e, q1, q2⟩ | ⟨e, q1, q2⟩ | ⟨e, q1, q2⟩ | ⟨e, q1, q2⟩ | ⟨e, q1, q2⟩
  · subst e
    refine ⟨fun _ => ?_, fun z => absurd rfl z⟩
    unfold V_mFinishOne_35
    exact f_measure hP (d9 0 q2) n7 vr (fun σ' f' r' _ => fin 0 σ' q2 f' r')
  · subst e
    refine ⟨fun z => absurd z (by decide), fun _ => ⟨fun _ => ?_, fun z => absurd rfl z⟩⟩
    unfold V_mFinishOne_267
    exact f_countUp hP (d9 1 q2) n7 vr (fun σ' f' r' _ => fin 1 σ' q2 f' r')
  · have kd : V_mFinishOne_d σ7 (kmp k) (sg_g σ 64 t) Q := by
      unfold V_mFinishOne_d
      exact f_reduce hP (d9 0 q2) n7 (vv 1 q1) (fun σ' f' r' _ => fin 0 σ' q2 f' r')
    rcases e with e | e | e <;> subst e <;> exact ⟨fun z => absurd z (by decide), fun _ => ⟨fun z => absurd z (by decide), fun _ => ⟨fun z => absurd z (by decide), fun _ => ⟨fun z => absurd z (by decide), fun _ => ⟨fun z => absurd z (by decide), fun _ => kd⟩⟩⟩⟩⟩
  · subst e
    refine ⟨fun z => absurd z (by decide), fun _ => ⟨fun z => absurd z (by decide), fun _ => ⟨fun _ => ?_, fun z => absurd rfl z⟩⟩⟩
    unfold V_mFinishOne_272
    exact f_sumUp hP (d9 1 q2) n7 (vv 1 q1) (fun σ' f' r' _ => fin 1 σ' q2 f' r')
  · subst e
    refine ⟨fun z => absurd z (by decide), fun _ => ⟨fun z => absurd z (by decide), fun _ => ⟨fun z => absurd z (by decide), fun _ => ⟨fun _ => ?_, fun z => absurd rfl z⟩⟩⟩⟩
    unfold V_mFinishOne_273
    obtain ⟨d, hd⟩ : ∃ d : Nat, ta = (d + 1 : Nat) := ⟨(ta - 1).toNat, by omega⟩
    exact f_reverse (d := d) hP (by omega) (d9 (d + 1) (by omega)) n7 (vv (d + 1) hd) (fun σ' f' r' _ => fin (d + 1) σ' (by omega) f' r')
  · subst e
    refine ⟨fun z => absurd z (by decide), fun _ => ⟨fun z => absurd z (by decide), fun _ => ⟨fun z => absurd z (by decide), fun _ => ⟨fun z => absurd z (by decide), fun _ => ⟨fun _ => ?_, fun z => absurd rfl z⟩⟩⟩⟩⟩
    unfold V_mFinishOne_275
    obtain ⟨d, hd⟩ : ∃ d : Nat, ta = (d + 2 : Nat) := ⟨(ta - 2).toNat, by omega⟩
    exact f_flatten (d := d) hP (by omega) (d9 (d + 1) (by omega)) n7 (vv (d + 2) hd) (fun σ' f' r' _ => fin (d + 1) σ' (by omega) f' r')
theorem fin2 {a k ta tb ty n t c : Int} (ha : 0 ≤ a ∧ a < 200) (hm : mC σ c) (hc : 4 ≤ c) (ht : sg_g σ 61 7 = t + 2) (h0 : 0 ≤ t ∧ t + 2 ≤ 400) (h23 : sg_g σ 61 23 = n) (hn : 0 ≤ n ∧ n ≤ 6000) (h3 : sg_g σ 3 a = kmp k) (h6 : sg_g σ 6 a = ty) (hty : ty ≤ 3) (hta : 0 ≤ ta ∧ ta ≤ 3) (hv : yV σ ta.toNat (sg_g σ 64 t) n) (hw : yV σ tb.toNat (sg_g σ 64 (t + 1)) n) (ho : op2 k ta tb ty) (kk : ∀ σ', sg_F fnL σ σ' → fnR σ σ' ty.toNat n t c → Q σ') : V_mFinishTwo σ a Q := by
  unfold V_mFinishTwo
  rw [xa_in (a := 6) ha, xa_in (a := 3) ha, h6, h3]
  refine y_pop (t := t + 1) (by omega) (by omega) (fun σ2 f2 t2 _ _ => y_pop (t := t) t2 (by omega) (fun σ8 f8 t8 _ _ σ7 e7 => ?_))
  rw [show sg_g σ2 64 t = sg_g σ 64 t from sg_F_ga f2 rfl]
  have f7 : sg_F [10061] σ8 σ7 := by rw [e7]; exact sg_F_w (sg_F_r _ _) rfl _
  have F7 : sg_F [8061, 10061] σ σ7 := sg_F_t (sg_F_t (sg_F_m f2 rfl) (sg_F_m f8 rfl)) (sg_F_m f7 rfl)
  have ex7 : yEx σ σ7 := yEx_F F7 rfl
  obtain ⟨m1, m2, m3, m4, m5⟩ := id hm
  have hP : fP σ7 t := fP_mk ⟨m1, m2, by omega, m5, by omega⟩ F7 (by rw [sg_F_g f7 (by rfl)]; exact t8) (by omega) rfl
  have ty0 : 0 ≤ ty := by
    unfold op2 at ho; omega
  have d9 : ∀ d : Nat, ty = d → sg_g σ7 61 9 = d := fun d hd => by rw [e7, sg_gw_e _ _ _ _ ⟨by omega, by omega⟩]; exact hd
  have n7 : sg_g σ7 61 23 = n := by rw [sg_F_g F7 (by rfl)]; exact h23
  have fin : ∀ (d : Nat) (σ' : sg_S), ty = d → sg_F opL σ7 σ' → gvR σ7 σ' d n t → Q σ' := fun d σ' hd f' r' => by
    refine kk σ' (sg_F_t (sg_F_m F7 rfl) (sg_F_m f' rfl)) ?_
    rw [hd, Int.toNat_natCast]
    exact gv_fn hm F7 rfl r'
  have vv : ∀ d : Nat, ta = d → yV σ7 d (sg_g σ 64 t) n := fun d hd => yV_up ex7 (yV_s hv hd)
  have ww : ∀ d : Nat, tb = d → yV σ7 d (sg_g σ 64 (t + 1)) n := fun d hd => yV_up ex7 (yV_s hw hd)
  have vr : yRw σ7 (sg_g σ 64 t) n := yRw_up ex7 (yV_r hv)
  have wr : yRw σ7 (sg_g σ 64 (t + 1)) n := yRw_up ex7 (yV_r hw)
  rcases ho with ⟨e, q1, q2, q3⟩ | ⟨e, q1, q2, q3⟩ | ⟨e, q2, q3⟩ | ⟨e, q1, q2, q3⟩ | ⟨e, q1, q2, q3⟩ | ⟨e, q1, q2, q3⟩
  · have kd : V_mFinishTwo_d σ7 (kmp k) (sg_g σ 64 (t + 1)) (sg_g σ 64 t) Q := by
      unfold V_mFinishTwo_d
      exact f_combine hP (d9 0 q3) n7 vr wr (fun σ' f' r' _ => fin 0 σ' q3 f' r')
    have c : k = 4 ∨ k = 5 ∨ k = 6 ∨ k = 7 ∨ k = 8 ∨ k = 9 ∨ k = 10 := by omega
    rcases c with e | e | e | e | e | e | e <;> subst e <;> exact ⟨fun z => absurd z (by decide), fun _ => ⟨fun z => absurd z (by decide), fun _ => ⟨fun z => absurd z (by decide), fun _ => ⟨fun z => absurd z (by decide), fun _ => ⟨fun z => absurd z (by decide), fun _ => ⟨fun z => absurd z (by decide), fun _ => kd⟩⟩⟩⟩⟩⟩
  · subst e
    refine ⟨fun _ => ?_, fun z => absurd rfl z⟩
    unfold V_mFinishTwo_91
    obtain ⟨d, hd⟩ : ∃ d : Nat, ta = (d + 1 : Nat) := ⟨(ta - 1).toNat, by omega⟩
    exact f_select (d := d) hP (by omega) (d9 d (by omega)) n7 (vv (d + 1) hd) wr (fun σ' f' r' _ => fin d σ' (by omega) f' r')
  · subst e
    refine ⟨fun z => absurd z (by decide), fun _ => ⟨fun _ => ?_, fun z => absurd rfl z⟩⟩
    unfold V_mFinishTwo_268
    obtain ⟨d, hd⟩ : ∃ d : Nat, ta = (d : Nat) := ⟨ta.toNat, by omega⟩
    exact f_repeat (d := d) hP (by omega) (d9 (d + 1) (by omega)) n7 (vv d hd) wr (fun σ' f' r' _ => fin (d + 1) σ' (by omega) f' r')
  · subst e
    refine ⟨fun z => absurd z (by decide), fun _ => ⟨fun z => absurd z (by decide), fun _ => ⟨fun _ => ?_, fun z => absurd rfl z⟩⟩⟩
    unfold V_mFinishTwo_274
    obtain ⟨d, hd⟩ : ∃ d : Nat, ta = (d + 1 : Nat) := ⟨(ta - 1).toNat, by omega⟩
    exact f_append (d := d) hP (by omega) (d9 (d + 1) (by omega)) n7 (vv (d + 1) hd) (ww (d + 1) (by omega)) (fun σ' f' r' _ => fin (d + 1) σ' (by omega) f' r')
  · obtain ⟨d, hd⟩ : ∃ d : Nat, ta = (d + 1 : Nat) := ⟨(ta - 1).toNat, by omega⟩
    rcases e with e | e
    · subst e
      refine ⟨fun z => absurd z (by decide), fun _ => ⟨fun z => absurd z (by decide), fun _ => ⟨fun z => absurd z (by decide), fun _ => ⟨fun _ => ?_, fun z => absurd rfl z⟩⟩⟩⟩
      unfold V_mFinishTwo_276
      exact f_pack (d := d) hP (by omega) (d9 (d + 1) (by omega)) n7 (vv (d + 1) hd) (ww 1 q2) (fun σ' f' r' _ => fin (d + 1) σ' (by omega) f' r')
    · subst e
      refine ⟨fun z => absurd z (by decide), fun _ => ⟨fun z => absurd z (by decide), fun _ => ⟨fun z => absurd z (by decide), fun _ => ⟨fun z => absurd z (by decide), fun _ => ⟨fun _ => ?_, fun z => absurd rfl z⟩⟩⟩⟩⟩
      unfold V_mFinishTwo_277
      exact f_permute (d := d) hP (by omega) (d9 (d + 1) (by omega)) n7 (vv (d + 1) hd) (ww 1 q2) (fun σ' f' r' _ => fin (d + 1) σ' (by omega) f' r')
  · subst e
    obtain ⟨d, hd⟩ : ∃ d : Nat, ta = (d + 1 : Nat) := ⟨(ta - 1).toNat, by omega⟩
    refine ⟨fun z => absurd z (by decide), fun _ => ⟨fun z => absurd z (by decide), fun _ => ⟨fun z => absurd z (by decide), fun _ => ⟨fun z => absurd z (by decide), fun _ => ⟨fun z => absurd z (by decide), fun _ => ⟨fun _ => ?_, fun z => absurd rfl z⟩⟩⟩⟩⟩⟩
    unfold V_mFinishTwo_278
    exact f_divide (d := d) hP (by omega) (d9 (d + 2) (by omega)) n7 (vv (d + 1) hd) (ww 1 q2) (fun σ' f' r' _ => fin (d + 2) σ' (by omega) f' r')
theorem kAct_o {k ty : Int} {ts : List Int} (hk : 16 ≤ k ∧ k ≤ 27) (h : kAct k ts = some ty) : (ts.length = 1 ∧ op1 k (ts.getD 0 0) ty) ∨ (ts.length = 2 ∧ op2 k (ts.getD 0 0) (ts.getD 1 0) ty) := by
  unfold kAct at h
  simp only at h
  generalize ts.getD 0 0 = a at *
  generalize ts.getD 1 0 = b at *
  split at h
  · rename_i e
    obtain ⟨i1, i2, i3⟩ := kIs_in h
    simp only [Bool.and_eq_true, decide_eq_true_eq] at i3
    exact Or.inl ⟨i3.1, Or.inr (Or.inl ⟨e, i3.2, i1⟩)⟩
  · split at h
    · rename_i e
      obtain ⟨i1, i2, i3⟩ := kIs_in h
      simp only [Bool.and_eq_true, decide_eq_true_eq] at i3
      exact Or.inr ⟨i3.1, Or.inr (Or.inr (Or.inl ⟨e, i3.2, i1⟩))⟩
    · split at h
      · rename_i e
        obtain ⟨i1, i2, i3⟩ := kIs_in h
        simp only [Bool.and_eq_true, decide_eq_true_eq] at i3
        exact Or.inl ⟨i3.1, Or.inr (Or.inr (Or.inl ⟨e, i3.2, i1⟩))⟩
      · split at h
        · rename_i e
          obtain ⟨i1, i2, i3⟩ := kIs_in h
          simp only [Bool.and_eq_true, decide_eq_true_eq] at i3
          exact Or.inl ⟨i3.1, Or.inr (Or.inr (Or.inr (Or.inl ⟨e, i3.2, i1⟩)))⟩
        · split at h
          · rename_i e
            obtain ⟨i1, i2, i3⟩ := kIs_in h
            simp only [Bool.and_eq_true, decide_eq_true_eq] at i3
            exact Or.inl ⟨i3.1, Or.inr (Or.inr (Or.inr (Or.inr (Or.inl ⟨e, i3.2, i1⟩))))⟩
          · split at h
            · rename_i e
              obtain ⟨i1, i2, i3⟩ := kIs_in h
              simp only [Bool.and_eq_true, decide_eq_true_eq] at i3
              exact Or.inr ⟨i3.1.1, Or.inr (Or.inr (Or.inr (Or.inl ⟨e, i3.1.2, i3.2, i1⟩)))⟩
            · split at h
              · rename_i e
                obtain ⟨i1, i2, i3⟩ := kIs_in h
                simp only [Bool.and_eq_true, decide_eq_true_eq] at i3
                exact Or.inl ⟨i3.1, Or.inr (Or.inr (Or.inr (Or.inr (Or.inr ⟨e, i3.2, i1⟩))))⟩
              · split at h
                · rename_i e
                  obtain ⟨i1, i2, i3⟩ := kIs_in h
                  simp only [Bool.and_eq_true, decide_eq_true_eq] at i3
                  exact Or.inr ⟨i3.1.1, Or.inr (Or.inr (Or.inr (Or.inr (Or.inl ⟨e, i3.1.2, i3.2, i1⟩))))⟩
                · obtain ⟨i1, i2, i3⟩ := kIs_in h
                  simp only [Bool.and_eq_true, decide_eq_true_eq] at i3
                  exact Or.inr ⟨i3.1.1, Or.inr (Or.inr (Or.inr (Or.inr (Or.inr ⟨by omega, i3.1.2, i3.2, i1⟩))))⟩
/-- types of a node with one part, with two -/
theorem kTy_o {A : aT} {ds : kD} {T : Int → Int} {n ty : Int} {ts : List Int} (hw : nWk (A.2.1 n) ts.length (A.2.2.2.2.2 n).length) (h : kTy A ds T [] n ts = some ty) (hk : 4 ≤ A.2.1 n) (h13 : ¬ A.2.1 n = 13) (h14 : ¬ A.2.1 n = 14) (h15 : ¬ A.2.1 n = 15) (h0 : ∀ x ∈ ts, 0 ≤ x) : (ts.length = 1 ∧ op1 (A.2.1 n) (ts.getD 0 0) ty) ∨ (ts.length = 2 ∧ op2 (A.2.1 n) (ts.getD 0 0) (ts.getD 1 0) ty) := by
  obtain ⟨w1, w2, w3, w4, w5, w6, w7, w8⟩ := hw
  generalize hK : A.2.1 n = k at *
  by_cases c16 : 16 ≤ k
  · refine kAct_o ⟨c16, w1.2⟩ ?_
    rw [← h]
    unfold kTy
    simp only [hK]
    rw [if_neg (by omega), if_neg (by omega), if_neg (by omega), if_neg (by omega), if_neg (by omega), if_neg (by omega), if_neg (by omega), if_neg h13, if_neg h14, if_neg h15]
  unfold kTy at h
  simp only [hK] at h
  rw [if_neg (by omega), if_neg (by omega), if_neg (by omega), if_neg (by omega)] at h
  generalize ts.getD 0 0 = a at *
  generalize ts.getD 1 0 = b at *
  by_cases c11 : k < 11
  · rw [if_pos c11] at h
    obtain ⟨i1, i2, i3⟩ := kIs_in h
    simp only [Bool.and_eq_true, decide_eq_true_eq] at i3
    exact Or.inr ⟨w3 (by omega), Or.inl ⟨by omega, i3.1, i3.2, i1⟩⟩
  · rw [if_neg c11] at h
    by_cases e11 : k = 11
    · rw [if_pos e11] at h
      obtain ⟨i1, i2, i3⟩ := kIs_in h
      simp only [decide_eq_true_eq] at i3
      exact Or.inl ⟨w5 e11, Or.inl ⟨e11, i3, i1⟩⟩
    · rw [if_neg e11] at h
      by_cases e12 : k = 12
      · rw [if_pos e12] at h
        obtain ⟨i1, i2, i3⟩ := kIs_in h
        simp only [Bool.and_eq_true, decide_eq_true_eq] at i3
        exact Or.inr ⟨w3 (by omega), Or.inr (Or.inl ⟨e12, i3.1, i3.2, i1⟩)⟩
      · omega
end FIN
