/-! WHAT THE REFERENCE SHOWS of a flat run, exactly. -/
/-- what is open -/
def shG (σ' : sg_S) (K : Nat) : List (vaF × Nat) → Prop
  | [] => True
  | (v, i) :: fs => shG σ' K fs ∧ fs.length < K ∧ okF (K - fs.length) [v] ∧ sg_g σ' 137 fs.length = (itF v).length ∧ sg_g σ' 138 fs.length = i ∧ i ≤ (itF v).length
theorem shG_e {σ1 σ2 : sg_S} {K : Nat} : ∀ {fs : List (vaF × Nat)}, (∀ j : Nat, j < fs.length → sg_g σ2 137 j = sg_g σ1 137 j ∧ sg_g σ2 138 j = sg_g σ1 138 j) → shG σ1 K fs → shG σ2 K fs
  | [], _, h => h
  | (v, i) :: fs, e, ⟨h1, h2, h3, h4, h5, h6⟩ => by
    obtain ⟨e1, e2⟩ := e fs.length (by simp)
    exact ⟨shG_e (fun j hj => e j (by simp only [List.length_cons]; omega)) h1, h2, h3, by rw [e1]; exact h4, by rw [e2]; exact h5, h6⟩
/-- the cells of level j that are still to be read -/
def rcL (j : Nat) : List (vaF × Nat) → List Int
  | [] => []
  | (v, i) :: fs => (if fs.length < j then lvl (j - 1 - fs.length) ((itF v).drop i) else []) ++ rcL j fs
theorem dr_i {v w : vaF} {i : Nat} (h : (itF v)[i]? = some w) : (itF v).drop i = w :: (itF v).drop (i + 1) := by
  have hi := gE_l h
  rw [List.drop_eq_getElem_cons hi]
  rw [List.getElem?_eq_getElem hi] at h
  rw [Option.some.inj h]
theorem rcL_n {j : Nat} {v : vaF} {i : Nat} {fs : List (vaF × Nat)} (h : i = (itF v).length) : rcL j ((v, i) :: fs) = rcL j fs := by
  simp only [rcL]
  rw [h, List.drop_length, lvl_0]
  split <;> rfl
theorem rcL_s {v w : vaF} {i : Nat} {fs : List (vaF × Nat)} (h : (itF v)[i]? = some w) : rcL (fs.length + 1) ((v, i) :: fs) = w [] :: rcL (fs.length + 1) ((v, i + 1) :: fs) := by
  simp only [rcL]
  rw [if_pos (Nat.lt_succ_self _), show fs.length + 1 - 1 - fs.length = 0 by omega, dr_i h]
  simp only [lvl, List.map_cons, List.cons_append]
  rw [if_pos (Nat.lt_succ_self _)]
theorem rcL_o {j : Nat} {v : vaF} {i : Nat} {fs : List (vaF × Nat)} (h : j ≤ fs.length) : rcL j ((v, i) :: fs) = rcL j fs := by
  simp only [rcL]
  rw [if_neg (by omega)]; rfl
theorem rcL_d {j : Nat} {v w : vaF} {i : Nat} {fs : List (vaF × Nat)} (h : (itF v)[i]? = some w) (hj : fs.length + 1 < j) : rcL j ((v, i) :: fs) = rcL j ((w, 0) :: (v, i + 1) :: fs) := by
  simp only [rcL, List.length_cons, List.drop_zero]
  rw [if_pos (show fs.length < j by omega), if_pos hj, dr_i h, show j - 1 - fs.length = (j - 1 - (fs.length + 1)) + 1 by omega]
  simp only [lvl]
  rw [flF_c, lvl_a, List.append_assoc, if_pos (show fs.length < j by omega)]
section SHG
variable {σ : sg_S} {Q : sg_S → Prop}
theorem m_showFX {K : Nat} {w0 : vaF} {R : List (Int × Int)} (he : sg_g σ 88 83 = 0) (hr : 0 ≤ sg_g σ 88 27 ∧ sg_g σ 88 27 < 210) (hT : sg_g σ 101 (sg_g σ 88 27) = K) (hK : K ≤ 3) (hq : sg_g σ 88 91 ≤ 60000 ∧ sg_g σ 88 87 ≤ 30000) (hx : fX σ 6000 (sg_g σ 133 0) K [w0] R) (hb : (txF K w0).length ≤ 79000) (k : ∀ σ', sg_g σ' 88 77 = (txF K w0).length → (∀ (i : Nat) (x : Int), (txF K w0)[i]? = some x → sg_g σ' 136 (80000 + i) = x) → (∀ i, i < 80000 → sg_g σ' 136 i = sg_g σ 136 i) → sg_F [136, 137, 138, 151, 78088, 79088] σ σ' → Q σ') : V_showFlat σ Q := by
  have hv1 := hx.1
  have vb := hv1.1
  have ch := hv1.2.2.2.2
  have hl := hx.2.1
  obtain ⟨p0, v0⟩ := pRX (i := 0) hx hq (by simp)
  simp only [Int.ofNat_zero, Int.cast_ofNat_Int, List.getD_cons_zero] at p0 v0
  have row : ∀ t, t ≤ K → ∃ q, fRw σ 6000 q ∧ sg_g σ 140 (4 * sg_g σ 133 0 + t) = q.1 ∧ ((lvl t [w0]).length : Int) = q.2 ∧ ∀ (i : Nat) (x : Int), (lvl t [w0])[i]? = some x → sg_g σ 142 (q.1 + i) = x := fun t ht => by
    obtain ⟨q, hq'⟩ : ∃ q, R[t]? = some q := ⟨_, List.getElem?_eq_getElem (by omega)⟩
    obtain ⟨a1, a2⟩ := fCh_at ch hq'
    have c := hx.2.2.2 t ht
    rw [List.getD_eq_getElem?_getD, hq'] at c
    exact ⟨q, a1, (hv1.2.2.2.1 t q hq').1, c⟩
  unfold V_showFlat
  intro σ1 e1
  have F1 : sg_F [136, 137, 138, 151, 78088, 79088] σ σ1 := by rw [e1]; exact sg_F_w (sg_F_r _ _) rfl _
  have a1 : sg_g σ1 88 78 = 80000 := by rw [e1, sg_gw_e _ _ _ _ ⟨by decide, by decide⟩]
  refine ⟨fun z => absurd he z, fun _ => ⟨hr, fun t0 => ⟨fun z => absurd he z, fun _ => ?_⟩, fun t0 => ?_⟩⟩
  rotate_left
  · rw [hT] at t0
    have K0 : K = 0 := by omega
    subst K0
    have et : txF 0 w0 = txN (v_rowAt σ (sg_g σ 133 0) 0) := by simp only [txF]; rw [v0]
    refine ⟨p0, m_shNX ⟨by omega, by omega⟩ (by unfold v_rowAt; exact sg_Rg _ _ _) (fun σ2 x1 x2 _ => ?_)⟩
    have l2 := x1.1
    rw [← et, a1] at l2
    refine ⟨⟨by omega, by omega⟩, fun σ3 e3 => k σ3 ?_ (fun i x hx' => ?_) (fun i hi => ?_) ?_⟩
    · rw [e3, sg_gw_e _ _ _ _ ⟨by omega, by omega⟩]; omega
    · rw [et] at hx'
      have := x1.2.2 i x hx'
      rw [a1] at this
      rw [e3, sg_gw_c _ _ _ _ _ _ (by decide)]
      exact this
    · rw [e3, sg_gw_c _ _ _ _ _ _ (by decide), x1.2.1 i (Or.inl (by rw [a1]; exact hi)), e1, sg_gw_c _ _ _ _ _ _ (by decide)]
    · rw [e3]; exact sg_F_w (sg_F_t F1 (sg_F_m x2 rfl)) rfl _
  rw [hT] at t0
  rw [hT]
  refine ⟨fun n x σ2 => n = (5 - x).toNat ∧ (0 ≤ x ∧ x ≤ 5) ∧ ∀ j, 0 ≤ j → j < x → sg_g σ2 151 j = 0, fun σ2 => ∀ j, 0 ≤ j → j < 5 → sg_g σ2 151 j = 0, ⟨_, rfl, ⟨by omega, by omega⟩, fun j a b => by omega⟩, ?_, ?_⟩
  · rintro n x σ2 rx f2 ⟨en, hx', h2⟩
    refine ⟨fun z j a b => h2 j a (by omega), fun z => ⟨⟨by omega, by omega⟩, fun σ3 e3 => ⟨⟨by omega, by omega⟩, _, by omega, rfl, ⟨by omega, by omega⟩, fun j a b => ?_⟩⟩⟩
    by_cases c : j = x
    · rw [c, e3, sg_gw_e _ _ _ _ ⟨by decide, by decide⟩]
    · rw [e3, sg_gw_k _ _ _ _ _ _ c]; exact h2 j a (by omega)
  intro σ2 f2 h2
  have F2 : sg_F [136, 137, 138, 151, 78088, 79088] σ σ2 := sg_F_t F1 (sg_F_m f2 rfl)
  obtain ⟨K', rfl⟩ : ∃ K', K = K' + 1 := ⟨K - 1, by omega⟩
  have w00 : 0 ≤ w0 [] := hx.2.2.1.1 w0 (by simp)
  have iw : ((itF w0).length : Int) = w0 [] := by rw [itF_l]; omega
  refine ⟨p0, fun σ3 e3 σ4 e4 => ?_⟩
  have F4 : sg_F [136, 137, 138, 151, 78088, 79088] σ σ4 := by rw [e4, e3]; exact sg_F_w (sg_F_w F2 rfl _) rfl _
  have a4 : sg_g σ4 88 78 = 80000 := by rw [e4, sg_gw_c _ _ _ _ _ _ (by decide), e3, sg_gw_c _ _ _ _ _ _ (by decide), sg_F_g f2 (by rfl)]; exact a1
  have r4 : ∀ i, sg_g σ4 136 i = sg_g σ 136 i := fun i => by rw [e4, sg_gw_c _ _ _ _ _ _ (by decide), e3, sg_gw_c _ _ _ _ _ _ (by decide), sg_F_ga f2 rfl, e1, sg_gw_c _ _ _ _ _ _ (by decide)]
  refine m_shX ⟨by omega, by omega⟩ (by decide) (fun σ5 x1 x2 _ => ?_)
  have F5 : sg_F [136, 137, 138, 151, 78088, 79088] σ σ5 := sg_F_t F4 (sg_F_m x2 rfl)
  have z5 : ∀ j : Nat, j < 5 → sg_g σ5 151 j = 0 := fun j hj => by
    rw [sg_F_ga x2 rfl, e4, sg_gw_c _ _ _ _ _ _ (by decide), e3, sg_gw_c _ _ _ _ _ _ (by decide)]
    exact h2 j (by omega) (by omega)
  have s5 : sg_g σ5 137 ((0 : Nat) : Int) = (itF w0).length := by
    rw [sg_F_ga x2 rfl, e4, sg_gw_c _ _ _ _ _ _ (by decide), e3]
    rw [show ((0 : Nat) : Int) = 0 by rfl, sg_gw_e _ _ _ _ (by unfold v_rowAt; exact sg_Rg _ _ _), v0, iw]
  have i5 : sg_g σ5 138 ((0 : Nat) : Int) = 0 := by
    rw [sg_F_ga x2 rfl, e4, show ((0 : Nat) : Int) = 0 by rfl, sg_gw_e _ _ _ _ ⟨by decide, by decide⟩]
  refine ⟨fun n v' σ6 => ∃ (fs : List (vaF × Nat)) (t : List Int), v' = fs.length ∧ shG σ6 (K' + 1) fs ∧ (∀ j : Nat, 1 ≤ j → j ≤ K' + 1 → 0 ≤ sg_g σ6 151 j ∧ (lvl j [w0]).drop (sg_g σ6 151 j).toNat = rcL j fs) ∧ rTx σ4 σ6 t ∧ t ++ rsT (K' + 1) fs = txF (K' + 1) w0 ∧ n = (rsT (K' + 1) fs).length, fun σ6 => rTx σ4 σ6 (txF (K' + 1) w0), ⟨_, [(w0, 0)], [91], rfl, ⟨trivial, by simp, ?_, ?_, ?_, Nat.zero_le _⟩, fun j j1 j2 => ?_, x1, ?_, rfl⟩, ?_, ?_⟩
  · simp only [List.length_nil, Nat.sub_zero]
    exact hx.2.2.1
  · simp only [List.length_nil]
    exact s5
  · simp only [List.length_nil]
    rw [i5]; rfl
  · rw [z5 j (by omega)]
    refine ⟨Int.le_refl _, ?_⟩
    obtain ⟨j', rfl⟩ : ∃ j', j = j' + 1 := ⟨j - 1, by omega⟩
    simp only [rcL, lvl, flF_1, List.length_nil, List.drop_zero, List.append_nil, Int.toNat_zero]
    rw [if_pos (by omega), show j' + 1 - 1 - 0 = j' by omega]
  · have := rsT_p (K := K' + 1) (w := w0) (fs := []) (by simp)
    simp only [List.length_nil, Nat.sub_zero] at this
    have e0 : rsT (K' + 1) [] = [] := rfl
    rw [e0, List.append_nil] at this
    rw [this]; rfl
  · rintro n v' σ6 rv f6 ⟨fs, t, rfl, hs, hp, ht, et, en⟩
    have l78 : sg_g σ6 88 78 = 80000 + t.length := by rw [ht.1, a4]
    have lt : t.length + (rsT (K' + 1) fs).length = (txF (K' + 1) w0).length := by rw [← et, List.length_append]
    refine ⟨fun z => ?_, fun z => ?_⟩
    · cases fs with
      | nil =>
        have e0 : rsT (K' + 1) [] = [] := rfl
        rw [e0, List.append_nil] at et
        rw [← et]
        exact ht
      | cons f fs => simp only [List.length_cons] at z; omega
    · cases fs with
      | nil => simp only [List.length_nil] at z; omega
      | cons f fs =>
        obtain ⟨v1, i⟩ := f
        obtain ⟨s1, s2, s3, s4, s4', s6⟩ := hs
        obtain ⟨d, hd⟩ : ∃ d, K' + 1 - fs.length = d + 1 := ⟨K' - fs.length, by omega⟩
        have hd' : K' + 1 - 1 - fs.length = d := by omega
        rw [hd] at s3
        have ee : ((((v1, i) :: fs).length : Nat) : Int) - 1 = (fs.length : Int) := by simp only [List.length_cons]; omega
        have el : ((((v1, i) :: fs).length : Nat) : Int) = ((fs.length + 1 : Nat) : Int) := by simp only [List.length_cons]
        rw [ee]
        refine ⟨⟨by omega, by omega⟩, ⟨by omega, by omega⟩, fun v65 σ7 => ∃ (fs' : List (vaF × Nat)) (t' : List Int), v65 = fs'.length ∧ shG σ7 (K' + 1) fs' ∧ (∀ j : Nat, 1 ≤ j → j ≤ K' + 1 → 0 ≤ sg_g σ7 151 j ∧ (lvl j [w0]).drop (sg_g σ7 151 j).toNat = rcL j fs') ∧ rTx σ4 σ7 t' ∧ t' ++ rsT (K' + 1) fs' = txF (K' + 1) w0 ∧ (rsT (K' + 1) fs').length < n, ⟨fun ne => ?_, fun eq => ?_⟩, ?_⟩
        · rw [s4', s4] at ne
          have il : i < (itF v1).length := by omega
          have rl : ((itF v1).length : Int) ≤ 2147483647 := by
            have r0 := sg_Rg σ6 137 (fs.length : Int)
            rw [s4] at r0
            have := r0.2
            omega
          obtain ⟨w, hw⟩ : ∃ w, (itF v1)[i]? = some w := ⟨_, List.getElem?_eq_getElem il⟩
          have hwm : w ∈ itF v1 := List.mem_of_getElem? hw
          rw [s4']
          have rc := rsT_c (K := K' + 1) (fs := fs) hw
          rw [hd'] at rc
          have ln := congrArg List.length rc
          rw [List.length_append, List.length_append] at ln
          have lc : (if i = 0 then ([] : List Int) else [44]).length ≤ 1 := by split <;> simp
          -- the next cell of its level
          obtain ⟨P, hP⟩ : ∃ P : Nat, sg_g σ6 151 ((fs.length + 1 : Nat) : Int) = P := ⟨(sg_g σ6 151 ((fs.length + 1 : Nat) : Int)).toNat, by have := (hp (fs.length + 1) (by omega) (by omega)).1; omega⟩
          have hpD := (hp (fs.length + 1) (by omega) (by omega)).2
          rw [hP, Int.toNat_natCast, rcL_s hw] at hpD
          have gP : (lvl (fs.length + 1) [w0])[P]? = some (w []) := by
            have := congrArg (fun l => l[0]?) hpD
            simp only [List.getElem?_drop, List.getElem?_cons_zero, Nat.add_zero] at this
            exact this
          have lP := gE_l gP
          have hpS : (lvl (fs.length + 1) [w0]).drop (P + 1) = rcL (fs.length + 1) ((v1, i + 1) :: fs) := by
            have := congrArg (fun l => l.drop 1) hpD
            simp only [List.drop_drop, List.drop_succ_cons, List.drop_zero] at this
            exact this
          obtain ⟨q, ⟨z1, z2, z3, z4⟩, q2, q3, q4⟩ := row (fs.length + 1) (by omega)
          have hc := q4 P (w []) gP
          have e140 : sg_g σ 140 (4 * sg_g σ 133 0 + ((((v1, i) :: fs).length : Nat) : Int)) = q.1 := by rw [el]; exact q2
          refine ⟨fun σ7 => rTx σ6 σ7 (if i = 0 then [] else [44]), ⟨fun q => ?_, fun q => ?_⟩, fun σ7 f7 p7 => ⟨⟨by omega, by omega⟩, fun σ8 e8 => ?_⟩⟩
          · rw [if_pos (by omega)]; exact rTx_0 σ6
          · rw [if_neg (by omega)]
            exact m_shX ⟨by omega, by omega⟩ (by decide) (fun σ' x _ _ => x)
          rw [e140, el, hP]
          refine ⟨⟨by omega, by omega⟩, ⟨by omega, by omega⟩, ⟨by omega, by omega⟩, ⟨by omega, by omega⟩, ⟨by omega, by omega⟩, ⟨by omega, by omega⟩, ⟨by omega, by omega⟩, fun σ9 e9 => ?_⟩
          rw [hc]
          have p1 := p7.1
          have g151 : ∀ t : Nat, ¬ t = fs.length + 1 → sg_g σ9 151 t = sg_g σ6 151 t := fun t ht => by rw [e9, sg_gw_k _ _ _ _ _ _ (by omega), e8, sg_gw_c _ _ _ _ _ _ (by decide), sg_F_ga f7 rfl]
          have g151e : sg_g σ9 151 ((fs.length + 1 : Nat) : Int) = (P : Int) + 1 := by rw [e9, sg_gw_e _ _ _ _ ⟨by omega, by omega⟩]
          have g137 : ∀ t : Int, sg_g σ9 137 t = sg_g σ6 137 t := fun t => by rw [e9, sg_gw_c _ _ _ _ _ _ (by decide), e8, sg_gw_c _ _ _ _ _ _ (by decide), sg_F_ga f7 rfl]
          have g138 : ∀ t : Int, ¬ t = (fs.length : Int) → sg_g σ9 138 t = sg_g σ6 138 t := fun t ht => by rw [e9, sg_gw_c _ _ _ _ _ _ (by decide), e8, sg_gw_k _ _ _ _ _ _ ht, sg_F_ga f7 rfl]
          have g138e : sg_g σ9 138 fs.length = (i : Int) + 1 := by rw [e9, sg_gw_c _ _ _ _ _ _ (by decide), e8, sg_gw_e _ _ _ _ ⟨by omega, by omega⟩]
          have t9 : rTx σ4 σ9 (t ++ (if i = 0 then [] else [44])) := rTx_F (rTx_t ht p7) (K := [138, 151]) (by rw [e9, e8]; exact sg_F_w (sg_F_w (sg_F_r _ _) rfl _) rfl _) rfl rfl
          have l9 := t9.1
          rw [a4, List.length_append] at l9
          have fr1 : ∀ σ', (∀ j : Nat, j < fs.length + 1 → sg_g σ' 137 j = sg_g σ9 137 j ∧ sg_g σ' 138 j = sg_g σ9 138 j) → shG σ' (K' + 1) ((v1, i + 1) :: fs) := fun σ' hσ => by
            obtain ⟨u1, u2⟩ := hσ fs.length (by omega)
            refine ⟨shG_e (fun j hj => ?_) s1, s2, by rw [hd]; exact s3, ?_, ?_, by omega⟩
            · obtain ⟨u3, u4⟩ := hσ j (by omega)
              exact ⟨by rw [u3]; exact g137 j, by rw [u4]; exact g138 j (by omega)⟩
            · rw [u1, g137]; exact s4
            · rw [u2, g138e]; omega
          refine ⟨fun tK => ⟨⟨by omega, by omega⟩, fun σ10 e10 σ11 e11 => m_shX ?_ (by decide) (fun σ12 y1 y2 _ => ⟨⟨by omega, by omega⟩, (w, 0) :: (v1, i + 1) :: fs, (t ++ (if i = 0 then [] else [44])) ++ [91], ?_, ?_, ?_, ?_, ?_, ?_⟩)⟩, fun tK => m_shNX ?_ ?_ (fun σ12 y1 y2 _ => ⟨(v1, i + 1) :: fs, (t ++ (if i = 0 then [] else [44])) ++ txN (w []), ?_, ?_, ?_, ?_, ?_, ?_⟩)⟩
          · have : sg_g σ11 88 78 = sg_g σ9 88 78 := by rw [e11, sg_gw_c _ _ _ _ _ _ (by decide), e10, sg_gw_c _ _ _ _ _ _ (by decide)]
            rw [this]
            exact ⟨by omega, by omega⟩
          · simp only [List.length_cons]; omega
          · have okw : okF d [w] ∧ (1 ≤ d → 0 ≤ w []) := by
              have h3 := s3.2
              rw [flF_1] at h3
              obtain ⟨la, lb, eab⟩ := List.append_of_mem hwm
              rw [eab] at h3
              have h4 := ((okF_a d la (w :: lb)).mp h3).2
              have h5 : okF d ([w] ++ lb) := h4
              have h6 := ((okF_a d [w] lb).mp h5).1
              refine ⟨h6, fun h7 => ?_⟩
              obtain ⟨d', rfl⟩ : ∃ d', d = d' + 1 := ⟨d - 1, by omega⟩
              exact h6.1 w (by simp)
            have w0' := okw.2 (by omega)
            have iw' : ((itF w).length : Int) = w [] := by rw [itF_l]; omega
            have h7 : ∀ j, ¬ j = ((fs.length + 1 : Nat) : Int) → sg_g σ12 137 j = sg_g σ9 137 j := fun j hj => by rw [sg_F_ga y2 rfl, e11, sg_gw_c _ _ _ _ _ _ (by decide), e10, sg_gw_k _ _ _ _ _ _ hj]
            have h8 : ∀ j, ¬ j = ((fs.length + 1 : Nat) : Int) → sg_g σ12 138 j = sg_g σ9 138 j := fun j hj => by rw [sg_F_ga y2 rfl, e11, sg_gw_k _ _ _ _ _ _ hj, e10, sg_gw_c _ _ _ _ _ _ (by decide)]
            have rw0 : sg_R (w []) := by rw [← hc]; exact sg_Rg _ _ _
            have h7n : sg_g σ12 137 ((fs.length + 1 : Nat) : Int) = w [] := by rw [sg_F_ga y2 rfl, e11, sg_gw_c _ _ _ _ _ _ (by decide), e10, sg_gw_e _ _ _ _ rw0]
            have h8n : sg_g σ12 138 ((fs.length + 1 : Nat) : Int) = 0 := by rw [sg_F_ga y2 rfl, e11, sg_gw_e _ _ _ _ (by decide)]
            have dd : K' + 1 - (fs.length + 1) = d := by omega
            refine ⟨fr1 σ12 (fun j hj => ⟨h7 j (by omega), h8 j (by omega)⟩), ?_, ?_, ?_, ?_, Nat.zero_le _⟩
            · simp only [List.length_cons]; omega
            · simp only [List.length_cons]
              rw [dd]; exact okw.1
            · simp only [List.length_cons]
              rw [h7n, iw']
            · simp only [List.length_cons]
              rw [h8n]; rfl
          · intro j j1 j2
            have e151 : ∀ t : Int, sg_g σ12 151 t = sg_g σ9 151 t := fun t => by rw [sg_F_ga y2 rfl, e11, sg_gw_c _ _ _ _ _ _ (by decide), e10, sg_gw_c _ _ _ _ _ _ (by decide)]
            rw [e151]
            by_cases c1 : j = fs.length + 1
            · rw [c1, g151e]
              refine ⟨by omega, ?_⟩
              rw [show ((P : Int) + 1).toNat = P + 1 by omega, hpS, rcL_o (v := w) (i := 0) (fs := (v1, i + 1) :: fs) (by simp only [List.length_cons]; omega)]
            · rw [g151 j c1]
              refine ⟨(hp j j1 j2).1, ?_⟩
              rw [(hp j j1 j2).2]
              by_cases c2 : j ≤ fs.length
              · rw [rcL_o c2, rcL_o (v := w) (i := 0) (fs := (v1, i + 1) :: fs) (by simp only [List.length_cons]; omega), rcL_o c2]
              · exact rcL_d hw (by omega)
          · exact rTx_t (rTx_F t9 (K := [137, 138]) (by rw [e11, e10]; exact sg_F_w (sg_F_w (sg_F_r _ _) rfl _) rfl _) rfl rfl) y1
          · have rp := rsT_p (K := K' + 1) (w := w) (fs := (v1, i + 1) :: fs) (by simp only [List.length_cons]; omega)
            simp only [List.length_cons] at rp
            rw [show K' + 1 - (fs.length + 1) = d by omega] at rp
            rw [← et, rc, rp]
            simp only [List.append_assoc, List.cons_append, List.nil_append]
          · have rp := congrArg List.length (rsT_p (K := K' + 1) (w := w) (fs := (v1, i + 1) :: fs) (by simp only [List.length_cons]; omega))
            simp only [List.length_cons, List.length_append] at rp
            rw [show K' + 1 - (fs.length + 1) = d by omega] at rp
            omega
          · exact ⟨by omega, by omega⟩
          · rw [← hc]; exact sg_Rg _ _ _
          · simp only [List.length_cons]
          · exact fr1 σ12 (fun j _ => ⟨sg_F_ga y2 rfl, sg_F_ga y2 rfl⟩)
          · intro j j1 j2
            rw [sg_F_ga (a := 151) y2 rfl]
            by_cases c1 : j = fs.length + 1
            · rw [c1, g151e]
              refine ⟨by omega, ?_⟩
              rw [show ((P : Int) + 1).toNat = P + 1 by omega, hpS]
            · rw [g151 j c1]
              refine ⟨(hp j j1 j2).1, ?_⟩
              rw [(hp j j1 j2).2, rcL_o (by omega), rcL_o (by omega)]
          · exact rTx_t t9 y1
          · have d0 : d = 0 := by omega
            subst d0
            rw [← et, rc]
            simp only [txF, List.append_assoc]
          · have d0 : d = 0 := by omega
            subst d0
            have := txN_l (w [])
            simp only [txF] at ln
            omega
        · rw [s4', s4] at eq
          have il : i = (itF v1).length := by omega
          have rn := rsT_n (K := K' + 1) (fs := fs) il
          have ln := congrArg List.length rn
          rw [List.length_cons] at ln
          refine m_shX ⟨by omega, by omega⟩ (by decide) (fun σ7 y1 y2 _ => ⟨⟨by omega, by omega⟩, fs, t ++ [93], by omega, shG_e (fun j _ => ⟨sg_F_ga y2 rfl, sg_F_ga y2 rfl⟩) s1, fun j j1 j2 => ?_, rTx_t ht y1, ?_, by omega⟩)
          · rw [sg_F_ga (a := 151) y2 rfl, (hp j j1 j2).2, rcL_n il]
            exact ⟨(hp j j1 j2).1, rfl⟩
          · rw [← et, rn]
            simp only [List.append_assoc, List.cons_append, List.nil_append]
        · rintro v65 σ7 r7 f7 ⟨fs', t', g1, g2, g3, g4, g5, g6⟩
          exact ⟨_, g6, fs', t', g1, g2, g3, g4, g5, rfl⟩
  · intro σ6 f6 ht
    have l6 := ht.1
    rw [a4] at l6
    refine ⟨⟨by omega, by omega⟩, fun σ7 e7 => k σ7 ?_ (fun i x hx' => ?_) (fun i hi => ?_) ?_⟩
    · rw [e7, sg_gw_e _ _ _ _ ⟨by omega, by omega⟩]; omega
    · have := ht.2.2 i x hx'
      rw [a4] at this
      rw [e7, sg_gw_c _ _ _ _ _ _ (by decide)]
      exact this
    · rw [e7, sg_gw_c _ _ _ _ _ _ (by decide), ht.2.1 i (Or.inl (by rw [a4]; exact hi)), r4]
    · rw [e7]; exact sg_F_w (sg_F_t F5 (sg_F_m f6 rfl)) rfl _
end SHG
