/-! finish, finishOne, finishTwo of the nested run. -/
abbrev nfL : List Nat := 10045 :: ngL
section NFN
variable {σ : sg_S} {Q : sg_S → Prop} {n k ta tb ty t w x : Int} {u v : vaF}
theorem cv_s {d : Nat} {k : Int} {y : Int} (h : cvF σ k.toNat v y) (hd : k = d) : cvF σ d v y := by subst hd; exact h
theorem nO_d {σ2 σ7 : sg_S} {t' d : Int} (h : nO σ t' w) (f2 : sg_F [8045] σ σ2) (t2 : sg_g σ2 45 7 = t) (ht : 0 ≤ t ∧ t ≤ t') (e7 : σ7 = sg_w σ2 45 9 d) : nO σ7 t w ∧ sg_F [8045, 10045] σ σ7 := by
  have f7 : sg_F [10045] σ2 σ7 := by rw [e7]; exact sg_F_w (sg_F_r _ _) rfl _
  have F7 : sg_F [8045, 10045] σ σ7 := sg_F_t (sg_F_m f2 rfl) (sg_F_m f7 rfl)
  obtain ⟨o1, o2, o3, o4, o5, o6, o7⟩ := h
  refine ⟨⟨by rw [sg_F_g F7 (by rfl)]; exact o1, by rw [sg_F_g f7 (by rfl)]; exact t2, by rw [sg_F_g F7 (by rfl)]; exact o3, ⟨ht.1, by omega⟩, o5, by rw [sg_F_g F7 (by rfl)]; exact o6, by rw [sg_F_g F7 (by rfl)]; exact o7⟩, F7⟩
theorem nf_one (hn : 0 ≤ n ∧ n < 200) (hO : nO σ (t + 1) w) (t0 : 0 ≤ t) (h21 : sg_g σ 45 21 = 0) (h3 : sg_g σ 3 n = kmp k) (h6 : sg_g σ 6 n = ty) (hty : ty ≤ 3) (hta : 0 ≤ ta ∧ ta ≤ 3) (hv : cvF σ ta.toNat v (sg_g σ 48 t)) (ho : op1 k ta ty) (kk : ∀ σ', sg_F nfL σ σ' → cR σ σ' ty.toNat t w (pyF (eO k ty x [v]) w) → Q σ') : V_mnFinishOne σ n Q := by
  have o4 := hO.2.2.2.1
  unfold V_mnFinishOne
  rw [xa_in (a := 6) hn, xa_in (a := 3) hn, h6, h3]
  refine n_pop (t := t) hO.2.1 ⟨t0, by omega⟩ (fun σ2 f2 t2 rx _ _ σ7 e7 => ?_)
  obtain ⟨O7, F7⟩ := nO_d (t := t) hO f2 t2 ⟨t0, by omega⟩ e7
  have z21 : sg_g σ7 45 21 = 0 := by rw [sg_F_g F7 (by rfl)]; exact h21
  have d9 : ∀ d : Nat, ty = d → sg_g σ7 45 9 = d := fun d hd => by rw [e7, sg_gw_e _ _ _ _ ⟨by omega, by omega⟩]; exact hd
  have vv : ∀ d : Nat, ta = d → cvF σ7 d v (sg_g σ 48 t) := fun d hd => cvF_F (cv_s hv hd) F7 rfl
  have fin : ∀ (d : Nat) (r : Int ⊕ (vaF × Int)) (σ' : sg_S), ty = d → eO k ty x [v] = r → sg_F ngL σ7 σ' → cR σ7 σ' d t w (pyF r w) → Q σ' := fun d r σ' hd he f' r' => by
    refine kk σ' (sg_F_t (sg_F_m F7 rfl) (sg_F_m f' rfl)) ?_
    rw [he, hd, Int.toNat_natCast]
    exact cR_F F7 rfl r'
  rcases ho with ⟨e, q1, q2⟩ | ⟨e, q1, q2⟩ | ⟨e, q1, q2⟩ | ⟨e, q1, q2⟩ | ⟨e, q1, q2⟩ | ⟨e, q1, q2⟩
  · subst e
    refine ⟨fun _ => ?_, fun z => absurd rfl z⟩
    unfold V_mnFinishOne_35
    obtain ⟨d, hd⟩ : ∃ d : Nat, ta = (d + 1 : Nat) := ⟨(ta - 1).toNat, by omega⟩
    exact n_measure (d := d) O7 z21 (vv (d + 1) hd) (fun σ' f' r' _ => fin 0 _ σ' q2 rfl f' r')
  · subst e
    refine ⟨fun z => absurd z (by decide), fun _ => ⟨fun _ => ?_, fun z => absurd rfl z⟩⟩
    unfold V_mnFinishOne_267
    have e0 : sg_g σ 48 t = v [] := (vv 0 q1).symm
    rw [e0]
    exact n_countUp O7 z21 (d9 1 q2) (fun σ' f' r' _ => fin 1 _ σ' q2 rfl f' r')
  · have kd : V_mnFinishOne_d σ7 (kmp k) (sg_g σ 48 t) Q := by
      unfold V_mnFinishOne_d
      refine n_reduce e O7 z21 (vv 1 q1) (fun σ' f' r' _ => fin 0 _ σ' q2 ?_ f' r')
      rcases e with e | e | e <;> subst e <;> rfl
    rcases e with e | e | e <;> subst e <;> exact ⟨fun z => absurd z (by decide), fun _ => ⟨fun z => absurd z (by decide), fun _ => ⟨fun z => absurd z (by decide), fun _ => ⟨fun z => absurd z (by decide), fun _ => ⟨fun z => absurd z (by decide), fun _ => kd⟩⟩⟩⟩⟩
  · subst e
    refine ⟨fun z => absurd z (by decide), fun _ => ⟨fun z => absurd z (by decide), fun _ => ⟨fun _ => ?_, fun z => absurd rfl z⟩⟩⟩
    unfold V_mnFinishOne_272
    exact n_sumUp O7 z21 (d9 1 q2) (vv 1 q1) (fun σ' f' r' _ => fin 1 _ σ' q2 rfl f' r')
  · subst e
    refine ⟨fun z => absurd z (by decide), fun _ => ⟨fun z => absurd z (by decide), fun _ => ⟨fun z => absurd z (by decide), fun _ => ⟨fun _ => ?_, fun z => absurd rfl z⟩⟩⟩⟩
    unfold V_mnFinishOne_273
    obtain ⟨d, hd⟩ : ∃ d : Nat, ta = (d + 1 : Nat) := ⟨(ta - 1).toNat, by omega⟩
    refine n_reverse (d := d) O7 z21 (d9 (d + 1) (by omega)) (vv (d + 1) hd) (fun σ' f' r' _ => fin (d + 1) _ σ' (by omega) ?_ f' r')
    rw [show d = (ty - 1).toNat by omega]; rfl
  · subst e
    refine ⟨fun z => absurd z (by decide), fun _ => ⟨fun z => absurd z (by decide), fun _ => ⟨fun z => absurd z (by decide), fun _ => ⟨fun z => absurd z (by decide), fun _ => ⟨fun _ => ?_, fun z => absurd rfl z⟩⟩⟩⟩⟩
    unfold V_mnFinishOne_275
    obtain ⟨d, hd⟩ : ∃ d : Nat, ta = (d + 2 : Nat) := ⟨(ta - 2).toNat, by omega⟩
    refine n_flatten (d := d) O7 z21 (d9 (d + 1) (by omega)) (vv (d + 2) hd) (fun σ' f' r' _ => fin (d + 1) _ σ' (by omega) ?_ f' r')
    rw [show d = (ty - 1).toNat by omega]; rfl
theorem nf_two (hn : 0 ≤ n ∧ n < 200) (hO : nO σ (t + 2) w) (t0 : 0 ≤ t) (h21 : sg_g σ 45 21 = 0) (h3 : sg_g σ 3 n = kmp k) (h6 : sg_g σ 6 n = ty) (hty : ty ≤ 3) (hta : 0 ≤ ta ∧ ta ≤ 3) (hv : cvF σ ta.toNat v (sg_g σ 48 t)) (hu : cvF σ tb.toNat u (sg_g σ 48 (t + 1))) (ho : op2 k ta tb ty) (kk : ∀ σ', sg_F nfL σ σ' → cR σ σ' ty.toNat t w (pyF (eO k ty x [v, u]) w) → Q σ') : V_mnFinishTwo σ n Q := by
  have o4 := hO.2.2.2.1
  unfold V_mnFinishTwo
  rw [xa_in (a := 6) hn, xa_in (a := 3) hn, h6, h3]
  refine n_pop (t := t + 1) (by rw [hO.2.1]; omega) ⟨by omega, by omega⟩ (fun σ2 f2 t2 rb _ _ => ?_)
  refine n_pop (t := t) t2 ⟨t0, by omega⟩ (fun σ8 f8 t8 ra _ _ σ13 e13 => ?_)
  rw [sg_F_ga f2 rfl] at ra ⊢
  obtain ⟨O7, F7⟩ := nO_d (t := t) hO (sg_F_t f2 f8) t8 ⟨t0, by omega⟩ e13
  have z21 : sg_g σ13 45 21 = 0 := by rw [sg_F_g F7 (by rfl)]; exact h21
  have d9 : ∀ d : Nat, ty = d → sg_g σ13 45 9 = d := fun d hd => by rw [e13, sg_gw_e _ _ _ _ ⟨by omega, by omega⟩]; exact hd
  have vv : ∀ d : Nat, ta = d → cvF σ13 d v (sg_g σ 48 t) := fun d hd => cvF_F (cv_s hv hd) F7 rfl
  have uu : ∀ d : Nat, tb = d → cvF σ13 d u (sg_g σ 48 (t + 1)) := fun d hd => cvF_F (cv_s hu hd) F7 rfl
  have fin : ∀ (d : Nat) (r : Int ⊕ (vaF × Int)) (σ' : sg_S), ty = d → eO k ty x [v, u] = r → sg_F ngL σ13 σ' → cR σ13 σ' d t w (pyF r w) → Q σ' := fun d r σ' hd he f' r' => by
    refine kk σ' (sg_F_t (sg_F_m F7 rfl) (sg_F_m f' rfl)) ?_
    rw [he, hd, Int.toNat_natCast]
    exact cR_F F7 rfl r'
  rcases ho with ⟨e, q1, q2, q3⟩ | ⟨e, q1, q2, q3⟩ | ⟨e, q1, q2⟩ | ⟨e, q1, q2, q3⟩ | ⟨e, q1, q2, q3⟩ | ⟨e, q1, q2, q3⟩
  · have kd : V_mnFinishTwo_d σ13 (kmp k) (sg_g σ 48 (t + 1)) (sg_g σ 48 t) Q := by
      unfold V_mnFinishTwo_d
      have e1 : sg_g σ 48 t = v [] := (vv 0 q1).symm
      have e2 : sg_g σ 48 (t + 1) = u [] := (uu 0 q2).symm
      rw [e1, e2]
      refine n_combine e O7 z21 (fun σ' f' r' _ => fin 0 _ σ' q3 ?_ f' r')
      have c : k = 4 ∨ k = 5 ∨ k = 6 ∨ k = 7 ∨ k = 8 ∨ k = 9 ∨ k = 10 := by omega
      rcases c with e | e | e | e | e | e | e <;> subst e <;> rfl
    have c : k = 4 ∨ k = 5 ∨ k = 6 ∨ k = 7 ∨ k = 8 ∨ k = 9 ∨ k = 10 := by omega
    rcases c with e | e | e | e | e | e | e <;> subst e <;> exact ⟨fun z => absurd z (by decide), fun _ => ⟨fun z => absurd z (by decide), fun _ => ⟨fun z => absurd z (by decide), fun _ => ⟨fun z => absurd z (by decide), fun _ => ⟨fun z => absurd z (by decide), fun _ => ⟨fun z => absurd z (by decide), fun _ => kd⟩⟩⟩⟩⟩⟩
  · subst e
    refine ⟨fun _ => ?_, fun z => absurd rfl z⟩
    unfold V_mnFinishTwo_91
    obtain ⟨d, hd⟩ : ∃ d : Nat, ta = (d + 1 : Nat) := ⟨(ta - 1).toNat, by omega⟩
    have e2 : sg_g σ 48 (t + 1) = u [] := (uu 0 q2).symm
    rw [e2]
    exact n_select (d := d) O7 z21 (vv (d + 1) hd) (fun σ' f' r' _ => fin d _ σ' (by omega) rfl f' r')
  · subst e
    refine ⟨fun z => absurd z (by decide), fun _ => ⟨fun _ => ?_, fun z => absurd rfl z⟩⟩
    unfold V_mnFinishTwo_268
    have e2 : sg_g σ 48 (t + 1) = u [] := (uu 0 q1).symm
    rw [e2]
    refine n_repeat (d := ta.toNat) O7 z21 (d9 (ta.toNat + 1) (by omega)) (vv ta.toNat (by omega)) (sg_Rg _ _ _) (fun σ' f' r' _ => fin (ta.toNat + 1) _ σ' (by omega) ?_ f' r')
    rw [show ta.toNat = (ty - 1).toNat by omega]; rfl
  · subst e
    refine ⟨fun z => absurd z (by decide), fun _ => ⟨fun z => absurd z (by decide), fun _ => ⟨fun _ => ?_, fun z => absurd rfl z⟩⟩⟩
    unfold V_mnFinishTwo_274
    obtain ⟨d, hd⟩ : ∃ d : Nat, ta = (d + 1 : Nat) := ⟨(ta - 1).toNat, by omega⟩
    refine n_append (d := d) O7 z21 (d9 (d + 1) (by omega)) (vv (d + 1) hd) (uu (d + 1) (by omega)) (fun σ' f' r' _ => fin (d + 1) _ σ' (by omega) ?_ f' r')
    rw [show d = (ty - 1).toNat by omega]; rfl
  · obtain ⟨d, hd⟩ : ∃ d : Nat, ta = (d + 1 : Nat) := ⟨(ta - 1).toNat, by omega⟩
    rcases e with e | e
    · subst e
      refine ⟨fun z => absurd z (by decide), fun _ => ⟨fun z => absurd z (by decide), fun _ => ⟨fun z => absurd z (by decide), fun _ => ⟨fun _ => ?_, fun z => absurd rfl z⟩⟩⟩⟩
      unfold V_mnFinishTwo_276
      refine n_pack (d := d) O7 z21 (d9 (d + 1) (by omega)) (vv (d + 1) hd) (uu 1 q2) (fun σ' f' r' _ => fin (d + 1) _ σ' (by omega) ?_ f' r')
      rw [show d = (ty - 1).toNat by omega]; rfl
    · subst e
      refine ⟨fun z => absurd z (by decide), fun _ => ⟨fun z => absurd z (by decide), fun _ => ⟨fun z => absurd z (by decide), fun _ => ⟨fun z => absurd z (by decide), fun _ => ⟨fun _ => ?_, fun z => absurd rfl z⟩⟩⟩⟩⟩
      unfold V_mnFinishTwo_277
      refine n_permute (d := d) O7 z21 (d9 (d + 1) (by omega)) (vv (d + 1) hd) (uu 1 q2) (fun σ' f' r' _ => fin (d + 1) _ σ' (by omega) ?_ f' r')
      rw [show d = (ty - 1).toNat by omega]; rfl
  · subst e
    refine ⟨fun z => absurd z (by decide), fun _ => ⟨fun z => absurd z (by decide), fun _ => ⟨fun z => absurd z (by decide), fun _ => ⟨fun z => absurd z (by decide), fun _ => ⟨fun z => absurd z (by decide), fun _ => ⟨fun _ => ?_, fun z => absurd rfl z⟩⟩⟩⟩⟩⟩
    unfold V_mnFinishTwo_278
    obtain ⟨d, hd⟩ : ∃ d : Nat, ta = (d + 1 : Nat) := ⟨(ta - 1).toNat, by omega⟩
    refine n_divide (d := d) O7 z21 (d9 (d + 2) (by omega)) (vv (d + 1) hd) (uu 1 q2) (fun σ' f' r' _ => fin (d + 2) _ σ' (by omega) ?_ f' r')
    rw [show d + 1 = (ty - 1).toNat by omega]; rfl
/-- NUMBER, NAME, ROW, { } -/
theorem nf_num (hn : 0 ≤ n ∧ n < 200) (hO : nO σ t w) (h21 : sg_g σ 45 21 = 0) (h3 : sg_g σ 3 n = 257) (h5 : sg_g σ 5 n = x) (kk : ∀ σ', sg_F nfL σ σ' → cR σ σ' 0 t w (pyF (.inr (nmF x, 0)) w) → Q σ') : V_mnFinish σ n Q := by
  unfold V_mnFinish
  rw [xa_in (a := 6) hn, xa_in (a := 3) hn, xa_in (a := 5) hn, h3, h5]
  intro σ1 e1
  have f1 : sg_F [10045] σ σ1 := by rw [e1]; exact sg_F_w (sg_F_r _ _) rfl _
  have O1 := nO_F hO f1 rfl
  refine ⟨fun _ => ?_, fun z => absurd rfl z⟩
  unfold V_nConstant
  exact n_val (d := 0) (v := nmF x) O1 (by rw [sg_F_g f1 (by rfl)]; exact h21) rfl (by rw [← h5]; exact sg_Rg _ _ _) (fun σ' f' r' _ => kk σ' (sg_F_t (sg_F_m f1 rfl) (sg_F_m f' rfl)) (cR_F f1 rfl r'))
theorem nf_name {s : Int} {d : Nat} (hn : 0 ≤ n ∧ n < 200) (hO : nO σ t w) (h21 : sg_g σ 45 21 = 0) (h3 : sg_g σ 3 n = 258) (h16 : sg_g σ 16 n = s) (hs : 0 ≤ s ∧ s < 272) (hv : cvF σ d v (sg_g σ 46 s)) (kk : ∀ σ', sg_F nfL σ σ' → cR σ σ' d t w (pyF (.inr (v, 0)) w) → Q σ') : V_mnFinish σ n Q := by
  unfold V_mnFinish
  rw [xa_in (a := 6) hn, xa_in (a := 3) hn, xa_in (a := 16) hn, h3, h16, xa_in (a := 46) hs]
  intro σ1 e1
  have f1 : sg_F [10045] σ σ1 := by rw [e1]; exact sg_F_w (sg_F_r _ _) rfl _
  have O1 := nO_F hO f1 rfl
  refine ⟨fun z => absurd z (by decide), fun _ => ⟨fun _ => ?_, fun z => absurd rfl z⟩⟩
  exact n_val (d := d) (v := v) O1 (by rw [sg_F_g f1 (by rfl)]; exact h21) (cvF_F hv f1 rfl) (sg_Rg _ _ _) (fun σ' f' r' => kk σ' (sg_F_t (sg_F_m f1 rfl) (sg_F_m f' rfl)) (cR_F f1 rfl r'))
theorem nf_row {a : Int} {d : Nat} {M : List vaF} (hn : 0 ≤ n ∧ n < 200) (hO : nO σ (t + a) w) (t0 : 0 ≤ t) (h21 : sg_g σ 45 21 = 0) (h3 : sg_g σ 3 n = 279) (h10 : sg_g σ 10 n = a) (h6 : sg_g σ 6 n = (d + 1 : Nat)) (hd : d ≤ 2) (hM : (M.length : Int) = a) (hl : M.length ≤ 200) (hv : ∀ (i : Nat) (z : vaF), M[i]? = some z → cvF σ d z (sg_g σ 48 (t + i))) (kk : ∀ σ', sg_F nfL σ σ' → cR σ σ' (d + 1) t w (pyF (.inr (mkF M, cnL d M)) w) → Q σ') : V_mnFinish σ n Q := by
  unfold V_mnFinish
  rw [xa_in (a := 6) hn, xa_in (a := 3) hn, xa_in (a := 10) hn, h3, h10, h6]
  intro σ1 e1
  have f1 : sg_F [10045] σ σ1 := by rw [e1]; exact sg_F_w (sg_F_r _ _) rfl _
  have O1 := nO_F hO f1 rfl
  refine ⟨fun z => absurd z (by decide), fun _ => ⟨fun z => absurd z (by decide), fun _ => ⟨fun _ => ?_, fun z => absurd rfl z⟩⟩⟩
  exact n_row (M := M) (d := d) (t := t) O1 (by rw [sg_F_g f1 (by rfl)]; exact h21) (by rw [e1, sg_gw_e _ _ _ _ ⟨by omega, by omega⟩]) hM hl t0 (fun i z hz => by rw [sg_F_ga f1 rfl]; exact cvF_F (hv i z hz) f1 rfl) (fun σ' f' r' _ => kk σ' (sg_F_t (sg_F_m f1 rfl) (sg_F_m f' rfl)) (cR_F f1 rfl r'))
theorem nf_each {g : Int} {d : Nat} {M : List vaF} (hn : 0 ≤ n ∧ n < 200) (hO : nO σ (t + g + M.length) w) (t0 : 0 ≤ t) (hg : 0 ≤ g ∧ g ≤ 4) (h21 : sg_g σ 45 21 = 0) (h3 : sg_g σ 3 n = 123) (h13 : sg_g σ 13 n = g) (h56 : sg_g σ 56 n = t + g) (h6 : sg_g σ 6 n = (d + 1 : Nat)) (hd : d ≤ 2) (hl : M.length ≤ 200) (hv : ∀ (i : Nat) (z : vaF), M[i]? = some z → cvF σ d z (sg_g σ 48 (t + g + i))) (kk : ∀ σ', sg_F nfL σ σ' → cR σ σ' (d + 1) t w (pyF (.inr (mkF M, cnL d M)) w) → Q σ') : V_mnFinish σ n Q := by
  unfold V_mnFinish
  rw [xa_in (a := 6) hn, xa_in (a := 3) hn, h3, h6]
  intro σ1 e1
  have f1 : sg_F [10045] σ σ1 := by rw [e1]; exact sg_F_w (sg_F_r _ _) rfl _
  have O1 := nO_F hO f1 rfl
  obtain ⟨o1, o2, o3, o4, o5, o6, o7⟩ := id O1
  refine ⟨fun z => absurd z (by decide), fun _ => ⟨fun z => absurd z (by decide), fun _ => ⟨fun z => absurd z (by decide), fun _ => ?_⟩⟩⟩
  unfold V_nCollect
  rw [xa_in (a := 56) hn, xa_in (a := 13) hn, sg_F_ga f1 (a := 56) rfl, h56, o2, sg_F_ga f1 (a := 13) rfl, h13, show t + g + (M.length : Int) - (t + g) = M.length by omega]
  refine ⟨⟨by omega, by omega⟩, ?_⟩
  refine n_gather (L := []) (M := M) (d := d) (t := t + g) (cO_0 (by rw [sg_F_g f1 (by rfl)]; exact h21)) rfl (by simp only [List.length_nil]; omega) o2 ⟨by omega, by omega⟩ (fun i z hz => by rw [sg_F_ga f1 rfl]; exact cvF_F (hv i z hz) f1 rfl) (fun σ3 h3' t3 f3 _ => ?_)
  rw [t3, show t + g - g = t by omega]
  refine ⟨⟨by omega, by omega⟩, fun σ9 e9 => ?_⟩
  rw [List.nil_append] at h3'
  have f9 : sg_F [8045] σ3 σ9 := by rw [e9]; exact sg_F_w (sg_F_r _ _) rfl _
  have F9 : sg_F [54, 8045, 22045] σ1 σ9 := sg_F_t f3 (sg_F_m f9 rfl)
  have O9 : nO σ9 t w := ⟨by rw [sg_F_g F9 (by rfl)]; exact o1, by rw [e9, sg_gw_e _ _ _ _ ⟨by omega, by omega⟩], by rw [sg_F_g F9 (by rfl)]; exact o3, ⟨t0, by omega⟩, o5, by rw [sg_F_g F9 (by rfl)]; exact o6, by rw [sg_F_g F9 (by rfl)]; exact o7⟩
  refine n_give (d := d) (L := M) (t := t) (w := w) O9 (by rw [sg_F_g F9 (by rfl), e1, sg_gw_e _ _ _ _ ⟨by omega, by omega⟩]) (cO_F h3' f9 rfl) (fun σ' f' r' _ _ => ?_)
  exact kk σ' (sg_F_t (sg_F_t (sg_F_m f1 rfl) (sg_F_m F9 rfl)) (sg_F_m f' rfl)) (cR_F f1 rfl (cR_F F9 rfl r'))
end NFN
