/-! OPERATIONS of the nested run, one by one. -/
theorem bad_0 {a : Int} : v_yBadSize a = 0 ↔ (0 ≤ a ∧ a ≤ 200) := by
  unfold v_yBadSize
  by_cases c : a < 0
  · rw [if_pos c]; constructor
    · intro z; cases z
    · intro z; omega
  · rw [if_neg c]
    by_cases c2 : a ≤ 200
    · rw [if_pos c2]; exact ⟨fun _ => ⟨by omega, c2⟩, fun _ => rfl⟩
    · rw [if_neg c2]; constructor
      · intro z; cases z
      · intro z; omega
theorem nO_F {K : List Nat} {σ σ3 : sg_S} {t w : Int} (h : nO σ t w) (f : sg_F K σ σ3) (hK : (!sg_cv K 45 10 && !sg_cv K 45 7 && !sg_cv K 45 22 && !sg_cv K 45 20) = true) : nO σ3 t w := by
  simp only [Bool.and_eq_true, Bool.not_eq_true'] at hK
  obtain ⟨⟨⟨k1, k2⟩, k3⟩, k4⟩ := hK
  unfold nO at h ⊢
  rw [sg_F_g f k1, sg_F_g f k2, sg_F_g f k3, sg_F_g f k4]
  exact h
theorem cR_F {K : List Nat} {σ σ3 σ' : sg_S} {d : Nat} {t w : Int} {r : (Int × Int) ⊕ (vaF × Int)} (f : sg_F K σ σ3) (hK : (!sg_cv K 45 20 && sg_ca K 53 && sg_ca K 48) = true) (h : cR σ3 σ' d t w r) : cR σ σ' d t w r := by
  simp only [Bool.and_eq_true, Bool.not_eq_true'] at hK
  obtain ⟨⟨k1, k2⟩, k3⟩ := hK
  match r, h with
  | .inl (e, w'), h => exact h
  | .inr (v, w'), h =>
    obtain ⟨a1, a2, a3, a4, a5, a6, a7, a8, a9⟩ := h
    refine ⟨a1, a2, a3, a4, a5, cEx_t (cEx_F f (by rw [k1, k2]; rfl)) a6, by rw [← sg_F_g f k1]; exact a7, a8, fun i hi => by rw [a9 i hi, sg_F_ga f k3]⟩
section NOP
variable {σ : sg_S} {d : Nat} {t w x y : Int} {u v : vaF} {Q : sg_S → Prop}
theorem n_flt {σ1 σ' : sg_S} {e : Int} (hO : nO σ t w) (f : sg_F [54, 55, 22045] σ σ1) (he : sg_R e ∧ ¬ e = 0) (e' : σ' = sg_w σ1 45 10 e) : sg_F ngL σ σ' ∧ cR σ σ' d t w (pyF (.inl e) w) := by
  have f2 : sg_F [11045] σ1 σ' := by rw [e']; exact sg_F_w (sg_F_r _ _) rfl _
  refine ⟨sg_F_t (sg_F_m f rfl) (sg_F_m f2 rfl), ?_⟩
  refine ⟨by rw [e', sg_gw_e _ _ _ _ he.1], he.2, ?_⟩
  rw [sg_F_g f2 (by rfl), sg_F_g f (by rfl)]
  exact hO.2.2.1
theorem n_push (ht : sg_g σ 45 7 = t) (t0 : 0 ≤ t ∧ t < 3200) (hx : sg_R x) (k : ∀ σ', sg_F [48, 8045] σ σ' → sg_g σ' 45 7 = t + 1 → sg_g σ' 48 t = x → (∀ i, ¬ i = t → sg_g σ' 48 i = sg_g σ 48 i) → Q σ') : V_mnPush σ x Q := by
  unfold V_mnPush
  rw [ht]
  intro σ1 e1
  rw [xp_in t0] at e1
  refine ⟨⟨by omega, by omega⟩, fun σ5 e5 => k σ5 ?_ ?_ ?_ (fun i hi => ?_)⟩
  · rw [e5, e1]; exact sg_F_w (sg_F_w (sg_F_r _ _) rfl _) rfl _
  · rw [e5, sg_gw_e _ _ _ _ ⟨by omega, by omega⟩]
  · rw [e5, sg_gw_c _ _ _ _ _ _ (by decide), e1, sg_gw_e _ _ _ _ hx]
  · rw [e5, sg_gw_c _ _ _ _ _ _ (by decide), e1, sg_gw_k _ _ _ _ _ _ hi]
theorem n_pop {Q : Int → sg_S → Prop} (ht : sg_g σ 45 7 = t + 1) (t0 : 0 ≤ t ∧ t < 3200) (k : ∀ σ', sg_F [8045] σ σ' → sg_g σ' 45 7 = t → sg_R (sg_g σ 48 t) → Q (sg_g σ 48 t) σ') : V_mnPop σ Q := by
  unfold V_mnPop
  rw [ht, show t + 1 - 1 = t by omega, xa_in t0]
  refine ⟨⟨by omega, by omega⟩, fun σ2 e2 => k σ2 ?_ ?_ (sg_Rg _ _ _)⟩
  · rw [e2]; exact sg_F_w (sg_F_r _ _) rfl _
  · rw [e2, sg_gw_e _ _ _ _ ⟨by omega, by omega⟩]
/-- a value that costs nothing, or n -/
theorem n_valC {c : Int} {σ1 : sg_S} (hO : nO σ t w) (h21 : sg_g σ 45 21 = 0) (hv : cvF σ d v x) (hx : sg_R x) (hc : 0 ≤ c ∧ w + c ≤ 3000) (f1 : sg_F [23045] σ σ1) (h22 : sg_g σ1 45 22 = w + c) (k : ∀ σ', sg_F ngL σ σ' → cR σ σ' d t w (pyF (.inr (v, c)) w) → Q σ') : V_mnPush σ1 x (fun σ' => sg_F [48, 8045] σ1 σ' → Q σ') := by
  obtain ⟨o1, o2, o3, o4, o5, o6, o7⟩ := id hO
  refine n_push (t := t) (by rw [sg_F_g f1 (by rfl)]; exact o2) ⟨by omega, by omega⟩ hx (fun σ' f' k1 k2 k3 _ => ?_)
  have F : sg_F [48, 8045, 23045] σ σ' := sg_F_t (sg_F_m f1 rfl) (sg_F_m f' rfl)
  refine k σ' (sg_F_m F rfl) ?_
  unfold pyF
  simp only
  rw [if_pos hc.2]
  refine ⟨by rw [sg_F_g F (by rfl)]; exact o1, by rw [sg_F_g f' (by rfl)]; exact h22, ⟨by omega, hc.2⟩, k1, by rw [sg_F_g F (by rfl)]; exact h21, cEx_F F rfl, by rw [sg_F_g F (by rfl)]; omega, ?_, fun i hi => by rw [k3 i (by omega), sg_F_ga f1 rfl]⟩
  rw [k2]
  exact cvF_F hv F rfl
theorem n_val (hO : nO σ t w) (h21 : sg_g σ 45 21 = 0) (hv : cvF σ d v x) (hx : sg_R x) (k : ∀ σ', sg_F ngL σ σ' → cR σ σ' d t w (pyF (.inr (v, 0)) w) → Q σ') : V_mnPush σ x (fun σ' => sg_F [48, 8045] σ σ' → Q σ') := n_valC (c := 0) hO h21 hv hx ⟨Int.le_refl _, by have := hO.2.2.2.2.1; omega⟩ (sg_F_r _ _) (by rw [hO.2.2.1]; omega) k
theorem n_giveA {L : List vaF} {σ3 : sg_S} (hO : nO σ t w) (h9 : sg_g σ 45 9 = (d + 1 : Nat)) (f3 : sg_F [54, 55, 22045] σ σ3) (h : cO σ3 d L) (k : ∀ σ', sg_F ngL σ σ' → cR σ σ' (d + 1) t w (pyF (.inr (mkF L, cnL d L)) w) → Q σ') : V_nGive σ3 (fun σ' => sg_F [48, 53, 8045, 11045, 21045, 22045, 23045] σ3 σ' → Q σ') :=
  n_give (nO_F hO f3 rfl) (by rw [sg_F_g f3 (by rfl)]; exact h9) h (fun σ' f' r' _ => k σ' (sg_F_t (sg_F_m f3 rfl) (sg_F_m f' rfl)) (cR_F f3 rfl r'))
theorem n_measure (hO : nO σ t w) (h21 : sg_g σ 45 21 = 0) (hv : cvF σ (d + 1) v x) (k : ∀ σ', sg_F ngL σ σ' → cR σ σ' 0 t w (pyF (.inr (nmF (itF v).length, 0)) w) → Q σ') : V_nMeasure σ x Q := by
  have hB : sg_g σ 45 20 ≤ 9003 := by have := hO.2.2.2.2; omega
  have l := (cv_x hv hB).2.2.1
  unfold V_nMeasure
  rw [cv_len hB hv]
  exact n_val (d := 0) (v := nmF (itF v).length) hO h21 rfl ⟨by omega, by omega⟩ k
theorem n_select (hO : nO σ t w) (h21 : sg_g σ 45 21 = 0) (hv : cvF σ (d + 1) v x) (k : ∀ σ', sg_F ngL σ σ' → cR σ σ' d t w (pyF (if 0 ≤ y ∧ y < (itF v).length then .inr ((itF v).getD y.toNat (nmF 0), 0) else .inl 2) w) → Q σ') : V_nSelect σ x y Q := by
  have hB : sg_g σ 45 20 ≤ 9003 := by have := hO.2.2.2.2; omega
  unfold V_nSelect
  rw [cv_len hB hv]
  refine ⟨fun z σ2 e2 => ?_, fun z => ⟨fun z2 => ?_, fun z2 σ2 e2 => ?_⟩⟩
  · rw [if_neg (by omega)] at k
    obtain ⟨a, b⟩ := n_flt (d := d) hO (sg_F_r _ _) (by decide) e2
    exact k σ2 a b
  · obtain ⟨u, hu⟩ := gE_x (l := itF v) (i := y.toNat) (by omega)
    obtain ⟨q1, q2, q3⟩ := cv_item hB hv hu
    rw [show ((y.toNat : Nat) : Int) = y by omega] at q1 q2 q3
    rw [if_pos ⟨z, z2⟩, List.getD_eq_getElem?_getD, hu, Option.getD_some] at k
    exact ⟨q1, n_val hO h21 q3 q2 k⟩
  · rw [if_neg (by omega)] at k
    obtain ⟨a, b⟩ := n_flt (d := d) hO (sg_F_r _ _) (by decide) e2
    exact k σ2 a b
theorem ar_b {k a b : Int} (hk : 4 ≤ k ∧ k ≤ 10) {R : Int → sg_S → Prop} (kk : R (v_operated k a b) σ) : V_yCompute σ (kmp k) a b R := by
  have c : k = 4 ∨ k = 5 ∨ k = 6 ∨ k = 7 ∨ k = 8 ∨ k = 9 ∨ k = 10 := by omega
  unfold V_yCompute
  rcases c with e | e | e | e | e | e | e <;> subst e
  · refine ⟨fun z => absurd z (by decide), fun _ => ⟨fun z => absurd z (by decide), fun _ => ⟨fun z => absurd z (by decide), fun _ => ⟨fun z => absurd z (by decide), fun _ => ⟨fun z => absurd z (by decide), fun _ => ⟨fun _ => ?_, fun z => absurd rfl z⟩⟩⟩⟩⟩⟩
    unfold V_yCompute_60
    unfold v_operated at kk
    rw [if_pos rfl] at kk
    exact ⟨fun z => by rw [if_pos z] at kk; exact kk, fun z => by rw [if_neg (by omega)] at kk; exact kk⟩
  · refine ⟨fun z => absurd z (by decide), fun _ => ⟨fun z => absurd z (by decide), fun _ => ⟨fun z => absurd z (by decide), fun _ => ⟨fun z => absurd z (by decide), fun _ => ⟨fun z => absurd z (by decide), fun _ => ⟨fun z => absurd z (by decide), fun _ => ⟨fun _ => ?_, fun z => absurd rfl z⟩⟩⟩⟩⟩⟩⟩
    unfold V_yCompute_61
    unfold v_operated at kk
    rw [if_neg (by decide), if_pos rfl] at kk
    exact ⟨fun z => by rw [if_pos z] at kk; exact kk, fun z => by rw [if_neg (fun q => q z)] at kk; exact kk⟩
  · refine ⟨fun z => absurd z (by decide), fun _ => ⟨fun z => absurd z (by decide), fun _ => ⟨fun _ => ?_, fun z => absurd rfl z⟩⟩⟩
    exact kk
  · refine ⟨fun z => absurd z (by decide), fun _ => ⟨fun z => absurd z (by decide), fun _ => ⟨fun z => absurd z (by decide), fun _ => ⟨fun _ => ?_, fun z => absurd rfl z⟩⟩⟩⟩
    exact kk
  · refine ⟨fun z => absurd z (by decide), fun _ => ⟨fun _ => ?_, fun z => absurd rfl z⟩⟩
    exact kk
  · refine ⟨fun z => absurd z (by decide), fun _ => ⟨fun z => absurd z (by decide), fun _ => ⟨fun z => absurd z (by decide), fun _ => ⟨fun z => absurd z (by decide), fun _ => ⟨fun _ => ?_, fun z => absurd rfl z⟩⟩⟩⟩⟩
    unfold V_yCompute_47
    unfold v_operated at kk
    rw [if_neg (by decide), if_neg (by decide), if_neg (by decide), if_neg (by decide), if_neg (by decide)] at kk
    exact ⟨fun z => ⟨z, by rw [if_pos z, if_neg (fun q => q rfl)] at kk; exact kk⟩, fun z => by rw [if_neg (fun q => q z)] at kk; exact kk⟩
  · refine ⟨fun _ => ?_, fun z => absurd rfl z⟩
    unfold V_yCompute_37
    unfold v_operated at kk
    rw [if_neg (by decide), if_neg (by decide), if_neg (by decide), if_neg (by decide), if_neg (by decide)] at kk
    exact ⟨fun z => ⟨z, by rw [if_pos z, if_pos (by decide)] at kk; exact kk⟩, fun z => by rw [if_neg (fun q => q z)] at kk; exact kk⟩
theorem dz_b {k b : Int} (hk : 4 ≤ k ∧ k ≤ 10) : v_yDividesByZero (kmp k) b = 0 ↔ ¬ ((k = 9 ∨ k = 10) ∧ b = 0) := by
  unfold v_yDividesByZero
  by_cases cb : b = 0
  · rw [if_neg (fun q => q cb)]
    have c : k = 4 ∨ k = 5 ∨ k = 6 ∨ k = 7 ∨ k = 8 ∨ k = 9 ∨ k = 10 := by omega
    rcases c with e | e | e | e | e | e | e <;> subst e <;> simp [kmp, cb]
  · rw [if_pos cb]; exact ⟨fun _ q => cb q.2, fun _ => rfl⟩
theorem n_combine {k : Int} (hk : 4 ≤ k ∧ k ≤ 10) (hO : nO σ t w) (h21 : sg_g σ 45 21 = 0) (kk : ∀ σ', sg_F ngL σ σ' → cR σ σ' 0 t w (pyF (if (k = 9 ∨ k = 10) ∧ y = 0 then .inl 1 else .inr (nmF (arF k x y), 0)) w) → Q σ') : V_nCombine σ (kmp k) x y Q := by
  unfold V_nCombine
  refine ⟨fun z => ar_b hk (fun r => ?_), fun z σ2 e2 => ?_⟩
  · rw [if_neg (dz_b hk |>.mp z)] at kk
    exact n_val (d := 0) (v := nmF (arF k x y)) hO h21 rfl r kk
  · have : (k = 9 ∨ k = 10) ∧ y = 0 := Decidable.byContradiction (fun q => z (dz_b hk |>.mpr q))
    rw [if_pos this] at kk
    obtain ⟨a, b⟩ := n_flt (d := 0) hO (sg_F_r _ _) (by decide) e2
    exact kk σ2 a b
theorem n_countUp (hO : nO σ t w) (h21 : sg_g σ 45 21 = 0) (h9 : sg_g σ 45 9 = 1) (k : ∀ σ', sg_F ngL σ σ' → cR σ σ' 1 t w (pyF (if 0 ≤ x ∧ x ≤ 200 then .inr (mkF ((List.range x.toNat).map (fun i : Nat => nmF (i : Int))), cnL 0 ((List.range x.toNat).map (fun i : Nat => nmF (i : Int)))) else .inl 5) w) → Q σ') : V_nCountUp σ x Q := by
  unfold V_nCountUp
  refine ⟨fun z => ?_, fun z σ2 e2 => ?_⟩
  · have hx := bad_0.mp z
    rw [if_pos hx] at k
    refine ⟨fun n v2 σ3 => ∃ i : Nat, v2 = i ∧ n = x.toNat - i ∧ i ≤ x.toNat ∧ cO σ3 0 ((List.range i).map (fun i : Nat => nmF (i : Int))), fun σ3 => cO σ3 0 ((List.range x.toNat).map (fun i : Nat => nmF (i : Int))), ⟨_, 0, rfl, rfl, Nat.zero_le _, cO_0 h21⟩, ?_, fun σ3 f3 h3 => n_giveA hO h9 (sg_F_m f3 rfl) h3 k⟩
    rintro n v2 σ3 r2 f3 ⟨i, rfl, en, hi, hc⟩
    refine ⟨fun q => ?_, fun q => n_add (v := nmF (i : Int)) hc (by rw [List.length_map, List.length_range]; omega) rfl r2 (fun σ' h' f' _ => ⟨⟨by omega, by omega⟩, x.toNat - (i + 1), by omega, i + 1, by omega, rfl, by omega, ?_⟩)⟩
    · rw [show x.toNat = i by omega]; exact hc
    · rw [List.range_succ, List.map_append]; exact h'
  · rw [if_neg (fun q => z (bad_0.mpr q))] at k
    obtain ⟨a, b⟩ := n_flt (d := 1) hO (sg_F_r _ _) (by decide) e2
    exact k σ2 a b
theorem n_repeat (hO : nO σ t w) (h21 : sg_g σ 45 21 = 0) (h9 : sg_g σ 45 9 = (d + 1 : Nat)) (hv : cvF σ d v x) (hx : sg_R x) (k : ∀ σ', sg_F ngL σ σ' → cR σ σ' (d + 1) t w (pyF (if 0 ≤ y ∧ y ≤ 200 then .inr (mkF (List.replicate y.toNat v), cnL d (List.replicate y.toNat v)) else .inl 5) w) → Q σ') : V_nRepeat σ x y Q := by
  unfold V_nRepeat
  refine ⟨fun z => ?_, fun z σ2 e2 => ?_⟩
  · have hy := bad_0.mp z
    rw [if_pos hy] at k
    refine ⟨fun n v2 σ3 => ∃ i : Nat, v2 = i ∧ n = y.toNat - i ∧ i ≤ y.toNat ∧ cO σ3 d (List.replicate i v), fun σ3 => cO σ3 d (List.replicate y.toNat v), ⟨_, 0, rfl, rfl, Nat.zero_le _, cO_0 h21⟩, ?_, fun σ3 f3 h3 => n_giveA hO h9 (sg_F_m f3 rfl) h3 k⟩
    rintro n v2 σ3 r2 f3 ⟨i, rfl, en, hi, hc⟩
    refine ⟨fun q => ?_, fun q => n_add hc (by rw [List.length_replicate]; omega) (cvF_F hv f3 rfl) hx (fun σ' h' f' _ => ⟨⟨by omega, by omega⟩, y.toNat - (i + 1), by omega, i + 1, by omega, rfl, by omega, ?_⟩)⟩
    · rw [show y.toNat = i by omega]; exact hc
    · rw [List.replicate_succ']; exact h'
  · rw [if_neg (fun q => z (bad_0.mpr q))] at k
    obtain ⟨a, b⟩ := n_flt (d := d + 1) hO (sg_F_r _ _) (by decide) e2
    exact k σ2 a b
/-- the numbers of a sequence -/
theorem nu_at {i : Nat} (hB : sg_g σ 45 20 ≤ 9003) (hv : cvF σ 1 v x) (hi : i < (itF v).length) : (nuF v)[i]? = some (v_nItemOf σ x (i : Int)) ∧ p_nItemOf σ x (i : Int) ∧ sg_R (v_nItemOf σ x (i : Int)) := by
  obtain ⟨u, hu⟩ := gE_x hi
  obtain ⟨q1, q2, q3⟩ := cv_item hB hv hu
  refine ⟨?_, q1, q2⟩
  unfold nuF
  rw [List.getElem?_map, hu]
  show some (u []) = _
  rw [q3]
theorem nu_l (v : vaF) : (nuF v).length = (itF v).length := by simp [nuF]
theorem fo_b {k a b : Int} (hk : k = 18 ∨ k = 19 ∨ k = 20) {R : Int → sg_S → Prop} (kk : ∀ q, q = (if k = 18 then sg_n (a + b) else if k = 19 then (if a < b then b else a) else if b < a then b else a) → R q σ) : V_yFold σ (kmp k) a b R := by
  unfold V_yFold
  rcases hk with e | e | e <;> subst e
  · exact ⟨fun z => absurd rfl z, fun _ => kk _ rfl⟩
  · refine ⟨fun _ => ⟨fun z => absurd rfl z, fun _ v6 e6 _ => kk v6 ?_⟩, fun z => absurd z (by decide)⟩
    rw [e6]; rfl
  · refine ⟨fun _ => ⟨fun _ v3 e3 _ => kk v3 ?_, fun z => absurd z (by decide)⟩, fun z => absurd z (by decide)⟩
    rw [e3]; rfl
theorem fo_s {k m z : Int} {l : List Int} : foF k m (z :: l) = foF k (if k = 18 then sg_n (m + z) else if k = 19 then (if m < z then z else m) else if z < m then z else m) l := rfl
theorem dr_c {α : Type} {l : List α} {i : Nat} {z : α} (h : l[i]? = some z) : l.drop i = z :: l.drop (i + 1) := by
  have hi := gE_l h
  rw [List.drop_eq_getElem_cons hi]
  rw [List.getElem?_eq_getElem hi] at h
  rw [Option.some.inj h]
/-- fold from place 1 on, then pay -/
theorem n_red {k : Int} {a0 : Int} (hk : k = 18 ∨ k = 19 ∨ k = 20) (hO : nO σ t w) (h21 : sg_g σ 45 21 = 0) (hv : cvF σ 1 v x) (ra : sg_R a0) (kk : ∀ σ', sg_F ngL σ σ' → cR σ σ' 0 t w (pyF (.inr (nmF (foF k a0 ((nuF v).drop 1)), (itF v).length)) w) → Q σ') : (∃ (I12 : Nat → Int → Int → Prop) (X14 : Int → Prop), (∃ n, I12 n (a0) (1)) ∧ (∀ (n23 : Nat) (v8 : Int) (v9 : Int), sg_R v8 → sg_R v9 → I12 n23 v8 v9 → (((v_nLengthOf σ (x)) ≤ v9 → X14 (v8)) ∧ (v9 < (v_nLengthOf σ (x)) → p_nItemOf σ (x) (v9) ∧ V_yFold σ (kmp k) (v8) ((v_nItemOf σ (x) (v9))) (fun q41 _ => sg_R q41 → sg_R (v9 + 1) ∧ (∃ m, m < n23 ∧ I12 m (q41) ((v9 + 1))))))) ∧ (∀ (v8 : Int), sg_R v8 → X14 v8 → V_nSpend σ ((v_nLengthOf σ (x))) (fun q25 σ26 => (q25 = 0 ∨ q25 = 1) → sg_F [11045, 23045] σ σ26 → ((q25 = 0 → Q σ26) ∧ (¬ q25 = 0 → V_mnPush σ26 (v8) (fun σ33 => sg_F [48, 8045] σ26 σ33 → Q σ33)))))) := by
  have hB : sg_g σ 45 20 ≤ 9003 := by have := hO.2.2.2.2; omega
  have l2 := (cv_x hv hB).2.2.1
  rw [cv_len hB hv]
  refine ⟨fun n v8 v9 => ∃ i : Nat, v9 = (i + 1 : Nat) ∧ n = (itF v).length - (i + 1) ∧ foF k v8 ((nuF v).drop (i + 1)) = foF k a0 ((nuF v).drop 1), fun v8 => v8 = foF k a0 ((nuF v).drop 1), ⟨_, 0, rfl, rfl, rfl⟩, ?_, ?_⟩
  · rintro n v8 v9 r8 r9 ⟨i, rfl, en, ef⟩
    refine ⟨fun z => ?_, fun z => ?_⟩
    · rw [List.drop_of_length_le (by rw [nu_l]; omega)] at ef
      exact ef
    · obtain ⟨q1, q2, q3⟩ := nu_at hB hv (i := i + 1) (by omega)
      refine ⟨q2, fo_b hk (fun q eq rq => ⟨⟨by omega, by omega⟩, (itF v).length - (i + 1 + 1), by omega, i + 1, by omega, rfl, ?_⟩)⟩
      rw [dr_c q1, fo_s] at ef
      rw [eq]; exact ef
  · rintro v8 r8 e8
    obtain ⟨o1, o2, o3, o4, o5, o6, o7⟩ := id hO
    unfold V_nSpend
    rw [o3]
    refine ⟨⟨by omega, by omega⟩, fun z σ3 e3 _ f3 => ⟨fun q => absurd q (by decide), fun _ => ?_⟩, fun z σ6 e6 _ f6 => ⟨fun _ => ?_, fun q => absurd rfl q⟩⟩
    · have f3' : sg_F [23045] σ σ3 := by rw [e3]; exact sg_F_w (sg_F_r _ _) rfl _
      exact n_valC (d := 0) (v := nmF (foF k a0 ((nuF v).drop 1))) hO h21 e8.symm r8 ⟨by omega, z⟩ f3' (by rw [e3, sg_gw_e _ _ _ _ ⟨by omega, by omega⟩]) kk
    · have f6' : sg_F [11045] σ σ6 := by rw [e6]; exact sg_F_w (sg_F_r _ _) rfl _
      refine kk σ6 (sg_F_m f6' rfl) ?_
      unfold pyF
      simp only
      rw [if_neg (by omega)]
      exact ⟨by rw [e6, sg_gw_e _ _ _ _ (by decide)], by decide, by rw [sg_F_g f6' (by rfl)]; exact o3⟩
theorem nu_c {i : Nat} {z : Int} {l : List Int} (h : l[0]? = some z) (hi : i = 1) : l = z :: l.drop i := by
  subst hi
  have := dr_c h
  rw [List.drop_zero] at this
  exact this
theorem n_reduce {k : Int} (hk : k = 18 ∨ k = 19 ∨ k = 20) (hO : nO σ t w) (h21 : sg_g σ 45 21 = 0) (hv : cvF σ 1 v x) (kk : ∀ σ', sg_F ngL σ σ' → cR σ σ' 0 t w (pyF (if k = 18 then .inr (nmF (foF 18 0 (nuF v)), (itF v).length) else (match nuF v with
    | [] => .inl 4
    | y :: r => .inr (nmF (foF k y r), (itF v).length))) w) → Q σ') : V_nReduce σ (kmp k) x Q := by
  have hB : sg_g σ 45 20 ≤ 9003 := by have := hO.2.2.2.2; omega
  have l2 := (cv_x hv hB).2.2.1
  have hlen := cv_len hB hv
  unfold V_nReduce
  refine ⟨fun z => ⟨⟨fun _ => ⟨(nu_at hB hv (i := 0) (by omega)).2.1, trivial⟩, fun _ => trivial⟩, fun v5 e5 r5 => ?_⟩, fun z => ⟨fun z2 => ⟨⟨fun q => absurd z q, fun _ => trivial⟩, fun v5 e5 r5 => ?_⟩, fun z2 σ2 e2 => ?_⟩⟩
  · rw [if_pos z] at e5
    rw [hlen] at z
    obtain ⟨q1, q2, q3⟩ := nu_at hB hv (i := 0) (by omega)
    have e5' : v5 = v_nItemOf σ x ((0 : Nat) : Int) := e5
    rw [← e5'] at q1
    refine n_red hk hO h21 hv r5 (fun σ' f' r' => kk σ' f' ?_)
    have nc := nu_c (i := 1) q1 rfl
    by_cases c : k = 18
    · rw [if_pos c]
      subst c
      rw [nc, fo_s, if_pos rfl, show sg_n (0 + v5) = v5 by rw [Int.zero_add]; exact sg_id r5]
      rw [nc] at r'
      simp only [List.drop_succ_cons, List.drop_zero] at r'
      exact r'
    · rw [if_neg c, nc]
      rw [nc] at r'
      simp only [List.drop_succ_cons, List.drop_zero] at r'
      exact r'
  · rw [if_neg (fun q => q z)] at e5
    subst e5
    refine n_red hk hO h21 hv r5 (fun σ' f' r' => kk σ' f' ?_)
    have k18 : k = 18 := by
      rcases hk with e | e | e
      · exact e
      · subst e; exact absurd z2 (by decide)
      · subst e; exact absurd z2 (by decide)
    rw [if_pos k18]
    have n0 : nuF v = [] := List.eq_nil_of_length_eq_zero (by rw [nu_l]; omega)
    rw [n0] at r' ⊢
    subst k18
    exact r'
  · have k18 : ¬ k = 18 := fun e => z2 (by subst e; rfl)
    rw [if_neg k18] at kk
    have n0 : nuF v = [] := List.eq_nil_of_length_eq_zero (by rw [nu_l]; omega)
    rw [n0] at kk
    obtain ⟨a, b⟩ := n_flt (d := 0) hO (sg_F_r _ _) (by decide) e2
    exact kk σ2 a b
theorem sc_l : ∀ (m : Int) (l : List Int), (scnF m l).length = l.length
  | _, [] => rfl
  | m, z :: l => by simp only [scnF, List.length_cons, sc_l]
theorem n_sumUp (hO : nO σ t w) (h21 : sg_g σ 45 21 = 0) (h9 : sg_g σ 45 9 = 1) (hv : cvF σ 1 v x) (k : ∀ σ', sg_F ngL σ σ' → cR σ σ' 1 t w (pyF (.inr (mkF ((scnF 0 (nuF v)).map nmF), cnL 0 ((scnF 0 (nuF v)).map nmF))) w) → Q σ') : V_nSumUp σ x Q := by
  have hB : sg_g σ 45 20 ≤ 9003 := by have := hO.2.2.2.2; omega
  have l2 := (cv_x hv hB).2.2.1
  have hlen := cv_len hB hv
  have sl : (scnF 0 (nuF v)).length = (itF v).length := by rw [sc_l, nu_l]
  unfold V_nSumUp
  rw [hlen]
  refine ⟨fun n v1 v2 σ3 => ∃ i : Nat, v2 = i ∧ n = (itF v).length - i ∧ i ≤ (itF v).length ∧ (scnF 0 (nuF v)).drop i = scnF v1 ((nuF v).drop i) ∧ cO σ3 0 (((scnF 0 (nuF v)).take i).map nmF), fun σ3 => cO σ3 0 ((scnF 0 (nuF v)).map nmF), ⟨_, 0, rfl, rfl, Nat.zero_le _, rfl, cO_0 h21⟩, ?_, fun σ3 f3 h3 => n_giveA hO h9 (sg_F_m f3 rfl) h3 k⟩
  rintro n v1 v2 σ3 r1 r2 f3 ⟨i, rfl, en, hi, ed, hc⟩
  refine ⟨fun z => ?_, fun z => ?_⟩
  · have : (scnF 0 (nuF v)).take i = scnF 0 (nuF v) := List.take_of_length_le (by omega)
    rw [this] at hc; exact hc
  · obtain ⟨q1, q2, q3⟩ := nu_at hB hv (i := i) (by omega)
    rw [dr_c q1] at ed
    simp only [scnF] at ed
    have g1 : (scnF 0 (nuF v))[i]? = some v1 := by rw [← List.head?_drop, ed]; rfl
    refine n_add (v := nmF v1) hc (by rw [List.length_map, List.length_take]; omega) rfl r1 (fun σ' h' f' _ => ⟨q2, ⟨by omega, by omega⟩, (itF v).length - (i + 1), by omega, i + 1, by omega, rfl, by omega, ?_, ?_⟩)
    · have := dr_c g1
      rw [ed] at this
      injection this with _ this
      exact this.symm
    · rw [tkF_1 g1, List.map_append]; exact h'
theorem n_reverse (hO : nO σ t w) (h21 : sg_g σ 45 21 = 0) (h9 : sg_g σ 45 9 = (d + 1 : Nat)) (hv : cvF σ (d + 1) v x) (k : ∀ σ', sg_F ngL σ σ' → cR σ σ' (d + 1) t w (pyF (.inr (mkF (itF v).reverse, cnL d (itF v).reverse)) w) → Q σ') : V_nReverse σ x Q := by
  have hB : sg_g σ 45 20 ≤ 9003 := by have := hO.2.2.2.2; omega
  have l2 := (cv_x hv hB).2.2.1
  unfold V_nReverse
  rw [cv_len hB hv]
  refine ⟨⟨by omega, by omega⟩, fun n v3 σ4 => ∃ j : Nat, v3 = (itF v).length - 1 - j ∧ n = (itF v).length - j ∧ j ≤ (itF v).length ∧ cO σ4 d ((itF v).reverse.take j), fun σ4 => cO σ4 d (itF v).reverse, ⟨_, 0, by omega, rfl, Nat.zero_le _, cO_0 h21⟩, ?_, fun σ3 f3 h3 => n_giveA hO h9 (sg_F_m f3 rfl) h3 k⟩
  rintro n v3 σ4 r3 f4 ⟨j, e3, en, hj, hc⟩
  refine ⟨fun z => ?_, fun z => ?_⟩
  · have : (itF v).reverse.take j = (itF v).reverse := List.take_of_length_le (by rw [List.length_reverse]; omega)
    rw [this] at hc; exact hc
  · obtain ⟨u, hu⟩ := gE_x (l := itF v) (i := (itF v).length - 1 - j) (by omega)
    obtain ⟨q1, q2, q3⟩ := cv_item hB hv hu
    rw [show (((itF v).length - 1 - j : Nat) : Int) = v3 by omega] at q1 q2 q3
    have hr : (itF v).reverse[j]? = some u := by rw [List.getElem?_reverse (by omega)]; exact hu
    refine ⟨q1, n_add hc (by rw [List.length_take, List.length_reverse]; omega) (cvF_F q3 f4 rfl) q2 (fun σ' h' f' _ => ⟨⟨by omega, by omega⟩, (itF v).length - (j + 1), by omega, j + 1, by omega, rfl, by omega, ?_⟩)⟩
    rw [tkF_1 hr]; exact h'
theorem n_append (hO : nO σ t w) (h21 : sg_g σ 45 21 = 0) (h9 : sg_g σ 45 9 = (d + 1 : Nat)) (hv : cvF σ (d + 1) v x) (hu : cvF σ (d + 1) u y) (k : ∀ σ', sg_F ngL σ σ' → cR σ σ' (d + 1) t w (pyF (if (itF v).length + (itF u).length ≤ 200 then .inr (mkF (itF v ++ itF u), cnL d (itF v ++ itF u)) else .inl 5) w) → Q σ') : V_nAppend σ x y Q := by
  have hB : sg_g σ 45 20 ≤ 9003 := by have := hO.2.2.2.2; omega
  have l2 := (cv_x hv hB).2.2.1
  have l3 := (cv_x hu hB).2.2.1
  unfold V_nAppend
  rw [cv_len hB hv, cv_len hB hu]
  refine ⟨⟨by omega, by omega⟩, fun z => ?_, fun z σ2 e2 => ?_⟩
  · have := bad_0.mp z
    rw [if_pos (by omega)] at k
    refine n_addAll (L := []) hB (cO_0 h21) hv (by simp only [List.length_nil]; omega) (fun σ6 h6 f6 _ => ?_)
    rw [List.nil_append] at h6
    refine n_addAll (by rw [sg_F_g f6 (by rfl)]; exact hB) h6 (cvF_F hu f6 rfl) (by omega) (fun σ12 h12 f12 _ => ?_)
    exact n_giveA hO h9 (sg_F_t (sg_F_m f6 rfl) (sg_F_m f12 rfl)) h12 k
  · rw [if_neg (fun q => z (bad_0.mpr ⟨by omega, by omega⟩))] at k
    obtain ⟨a, b⟩ := n_flt (d := d + 1) hO (sg_F_r _ _) (by decide) e2
    exact k σ2 a b
theorem fl_l (l : List vaF) : (((l.map itF).flatten.length : Nat) : Int) = sumF (l.map (fun v => ((itF v).length : Int))) := by
  induction l with
  | nil => rfl
  | cons z r ih =>
    simp only [List.map_cons, List.flatten_cons, List.length_append, sumF]
    omega
theorem n_flatten (hO : nO σ t w) (h21 : sg_g σ 45 21 = 0) (h9 : sg_g σ 45 9 = (d + 1 : Nat)) (hv : cvF σ (d + 2) v x) (k : ∀ σ', sg_F ngL σ σ' → cR σ σ' (d + 1) t w (pyF (if sumF ((itF v).map (fun v => ((itF v).length : Int))) ≤ 200 then .inr (mkF ((itF v).map itF).flatten, cnL d ((itF v).map itF).flatten) else .inl 5) w) → Q σ') : V_nFlatten σ x Q := by
  have hB : sg_g σ 45 20 ≤ 9003 := by have := hO.2.2.2.2; omega
  have l2 := (cv_x hv hB).2.2.1
  unfold V_nFlatten
  rw [cv_len hB hv]
  have it : ∀ (i : Nat) (z : vaF), (itF v)[i]? = some z → (itF z).length ≤ 200 := fun i z hz => (cv_x (cv_item hB hv hz).2.2 hB).2.2.1
  have sm : ∀ i : Nat, i ≤ (itF v).length → 0 ≤ sumF (((itF v).take i).map (fun v => ((itF v).length : Int))) ∧ sumF (((itF v).take i).map (fun v => ((itF v).length : Int))) ≤ 200 * i := fun i => by
    induction i with
    | zero => intro _; simp [sumF]
    | succ i ih =>
      intro hi
      obtain ⟨z, hz⟩ := gE_x (l := itF v) (i := i) (by omega)
      have a := ih (by omega)
      have b := it i z hz
      rw [tkF_1 hz, List.map_append, sumF_a]
      simp only [List.map_cons, List.map_nil, sumF]
      omega
  refine ⟨fun n v1 v2 => ∃ i : Nat, v2 = i ∧ n = (itF v).length - i ∧ i ≤ (itF v).length ∧ v1 = sumF (((itF v).take i).map (fun v => ((itF v).length : Int))), fun v1 => v1 = sumF ((itF v).map (fun v => ((itF v).length : Int))), ⟨_, 0, rfl, rfl, Nat.zero_le _, rfl⟩, ?_, ?_⟩
  · rintro n v1 v2 r1 r2 ⟨i, rfl, en, hi, ev⟩
    have s1 := sm i hi
    refine ⟨fun z => ?_, fun z => ?_⟩
    · have : (itF v).take i = itF v := List.take_of_length_le (by omega)
      rw [this] at ev; exact ev
    · obtain ⟨u, hu⟩ := gE_x (l := itF v) (i := i) (by omega)
      obtain ⟨q1, q2, q3⟩ := cv_item hB hv hu
      have b := it i u hu
      rw [cv_len hB q3]
      refine ⟨q1, ⟨by omega, by omega⟩, ⟨by omega, by omega⟩, (itF v).length - (i + 1), by omega, i + 1, by omega, rfl, by omega, ?_⟩
      rw [tkF_1 hu, List.map_append, sumF_a, ev]
      simp only [List.map_cons, List.map_nil, sumF]
      omega
  · rintro v1 r1 rfl
    have s1 := sm (itF v).length (Nat.le_refl _)
    rw [List.take_length] at s1
    refine ⟨fun z => ?_, fun z σ2 e2 => ?_⟩
    · have bz := bad_0.mp z
      rw [if_pos bz.2] at k
      refine ⟨fun n v19 σ20 => ∃ i : Nat, v19 = i ∧ n = (itF v).length - i ∧ i ≤ (itF v).length ∧ cO σ20 d (((itF v).take i).map itF).flatten, fun σ20 => cO σ20 d ((itF v).map itF).flatten, ⟨_, 0, rfl, rfl, Nat.zero_le _, cO_0 h21⟩, ?_, fun σ3 f3 h3 => n_giveA hO h9 (sg_F_m f3 rfl) h3 k⟩
      rintro n v19 σ20 r19 f20 ⟨i, rfl, en, hi, hc⟩
      refine ⟨fun z => ?_, fun z => ?_⟩
      · have : (itF v).take i = itF v := List.take_of_length_le (by omega)
        rw [this] at hc; exact hc
      · obtain ⟨u, hu⟩ := gE_x (l := itF v) (i := i) (by omega)
        obtain ⟨q1, q2, q3⟩ := cv_item hB hv hu
        have hl : (((itF v).take (i + 1)).map itF).flatten = (((itF v).take i).map itF).flatten ++ itF u := by
          rw [tkF_1 hu, List.map_append, List.flatten_append]; simp
        have hle : ((((itF v).take (i + 1)).map itF).flatten.length : Int) ≤ 200 := by
          have e1 := fl_l (itF v)
          have e2 := List.take_append_drop (i + 1) (itF v)
          have e3 : ((itF v).map itF).flatten.length = (((itF v).take (i + 1)).map itF).flatten.length + (((itF v).drop (i + 1)).map itF).flatten.length := by
            rw [← List.length_append, ← List.flatten_append, ← List.map_append, e2]
          omega
        rw [hl, List.length_append] at hle
        refine ⟨q1, n_addAll (by rw [sg_F_g f20 (by rfl)]; exact hB) hc (cvF_F q3 f20 rfl) (by omega) (fun σ' h' f' _ => ⟨⟨by omega, by omega⟩, (itF v).length - (i + 1), by omega, i + 1, by omega, rfl, by omega, ?_⟩)⟩
        rw [hl]; exact h'
    · rw [if_neg (fun q => z (bad_0.mpr ⟨s1.1, q⟩))] at k
      obtain ⟨a, b⟩ := n_flt (d := d + 1) hO (sg_F_r _ _) (by decide) e2
      exact k σ2 a b
theorem pk_s : ∀ {i : Nat} {l : List vaF} {m : List Int} {z : vaF} {y : Int}, l[i]? = some z → m[i]? = some y → pkF (l.take (i + 1)) (m.take (i + 1)) = pkF (l.take i) (m.take i) ++ (if y = 0 then [] else [z])
  | 0, z0 :: l, y0 :: m, z, y, h1, h2 => by
    simp only [List.getElem?_cons_zero, Option.some.injEq] at h1 h2
    subst h1 h2
    simp only [Nat.zero_add, List.take_succ_cons, List.take_zero, pkF]
    split <;> simp
  | i + 1, z0 :: l, y0 :: m, z, y, h1, h2 => by
    simp only [List.getElem?_cons_succ] at h1 h2
    have := pk_s h1 h2
    simp only [List.take_succ_cons, pkF]
    rw [this]
    split <;> simp
  | _, [], _, z, y, h1, h2 => by simp at h1
  | _, _ :: _, [], z, y, h1, h2 => by simp at h2
theorem pk_l : ∀ (l : List vaF) (m : List Int), (pkF l m).length ≤ l.length
  | [], _ => by simp [pkF]
  | z :: l, [] => by simp [pkF]
  | z :: l, y :: m => by
    have := pk_l l m
    simp only [pkF, List.length_cons]
    split
    · omega
    · simp only [List.length_cons]; omega
theorem n_pack (hO : nO σ t w) (h21 : sg_g σ 45 21 = 0) (h9 : sg_g σ 45 9 = (d + 1 : Nat)) (hv : cvF σ (d + 1) v x) (hu : cvF σ 1 u y) (k : ∀ σ', sg_F ngL σ σ' → cR σ σ' (d + 1) t w (pyF (if (itF v).length = (itF u).length then .inr (mkF (pkF (itF v) (nuF u)), cnL d (pkF (itF v) (nuF u))) else .inl 3) w) → Q σ') : V_nPack σ x y Q := by
  have hB : sg_g σ 45 20 ≤ 9003 := by have := hO.2.2.2.2; omega
  have l2 := (cv_x hv hB).2.2.1
  unfold V_nPack
  rw [cv_len hB hv, cv_len hB hu]
  refine ⟨fun z => ?_, fun z σ2 e2 => ?_⟩
  · rw [if_pos (by omega)] at k
    have lu := nu_l u
    refine ⟨fun n v4 σ5 => ∃ i : Nat, v4 = i ∧ n = (itF v).length - i ∧ i ≤ (itF v).length ∧ cO σ5 d (pkF ((itF v).take i) ((nuF u).take i)), fun σ5 => cO σ5 d (pkF (itF v) (nuF u)), ⟨_, 0, rfl, rfl, Nat.zero_le _, cO_0 h21⟩, ?_, fun σ3 f3 h3 => n_giveA hO h9 (sg_F_m f3 rfl) h3 k⟩
    rintro n v4 σ5 r4 f5 ⟨i, rfl, en, hi, hc⟩
    refine ⟨fun z => ?_, fun z => ?_⟩
    · have e1 : (itF v).take i = itF v := List.take_of_length_le (by omega)
      have e2 : (nuF u).take i = nuF u := List.take_of_length_le (by omega)
      rw [e1, e2] at hc; exact hc
    · obtain ⟨c, hcc⟩ := gE_x (l := itF v) (i := i) (by omega)
      obtain ⟨q1, q2, q3⟩ := cv_item hB hv hcc
      obtain ⟨p1, p2, p3⟩ := nu_at hB hu (i := i) (by omega)
      have st := pk_s hcc p1
      refine ⟨p2, fun σ32 => cO σ32 d (pkF ((itF v).take (i + 1)) ((nuF u).take (i + 1))), ⟨fun z => ?_, fun z => ⟨q1, n_add hc ?_ (cvF_F q3 f5 rfl) q2 (fun σ' h' f' _ => ?_)⟩⟩, fun σ32 f32 h32 => ⟨⟨by omega, by omega⟩, (itF v).length - (i + 1), by omega, i + 1, by omega, rfl, by omega, h32⟩⟩
      · rw [st, if_pos z, List.append_nil]; exact hc
      · have := pk_l ((itF v).take i) ((nuF u).take i)
        rw [List.length_take] at this
        omega
      · rw [st, if_neg z]; exact h'
  · rw [if_neg (by omega)] at k
    obtain ⟨a, b⟩ := n_flt (d := d + 1) hO (sg_F_r _ _) (by decide) e2
    exact k σ2 a b
end NOP
