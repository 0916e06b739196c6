/-! WHAT THE REFERENCE SHOWS of a nested run, exactly. -/
/-- what is open: sequences and how far they are shown, the innermost first -/
def shF (σ σ' : sg_S) (K : Nat) : List (vaF × Nat) → Prop
  | [] => True
  | (v, i) :: fs => shF σ σ' K fs ∧ fs.length < K ∧ rvF σ (K - fs.length) v (sg_g σ' 137 fs.length) ∧ sg_g σ' 138 fs.length = i ∧ i ≤ (itF v).length
theorem shF_e {σ σ1 σ2 : sg_S} {K : Nat} : ∀ {fs : List (vaF × Nat)}, (∀ j : Nat, j < fs.length → sg_g σ2 137 j = sg_g σ1 137 j ∧ sg_g σ2 138 j = sg_g σ1 138 j) → shF σ σ1 K fs → shF σ σ2 K fs
  | [], _, h => h
  | (v, i) :: fs, e, ⟨h1, h2, h3, h4, h5⟩ => by
    obtain ⟨e1, e2⟩ := e fs.length (by simp)
    exact ⟨shF_e (fun j hj => e j (by simp only [List.length_cons]; omega)) h1, h2, by rw [e1]; exact h3, by rw [e2]; exact h4, h5⟩
section SHX
variable {σ : sg_S} {Q : sg_S → Prop}
theorem m_showVX {K : Nat} {v : vaF} (he : sg_g σ 88 53 = 0) (hr : 0 ≤ sg_g σ 88 27 ∧ sg_g σ 88 27 < 210) (hT : sg_g σ 101 (sg_g σ 88 27) = K) (hK : K ≤ 3) (hq : sg_g σ 88 56 ≤ 9000 ∧ sg_g σ 88 60 ≤ 12000) (hv : rvF σ K v (sg_g σ 133 0)) (hb : (txF K v).length ≤ 79000) (k : ∀ σ', sg_g σ' 88 76 = (txF K v).length → (∀ (i : Nat) (x : Int), (txF K v)[i]? = some x → sg_g σ' 136 i = x) → (∀ i, 80000 ≤ i → sg_g σ' 136 i = sg_g σ 136 i) → sg_F [136, 137, 138, 77088, 79088] σ σ' → Q σ') : V_showNested σ Q := by
  unfold V_showNested
  intro σ1 e1
  have F1 : sg_F [136, 137, 138, 77088, 79088] σ σ1 := by rw [e1]; exact sg_F_w (sg_F_r _ _) rfl _
  have a1 : sg_g σ1 88 78 = 0 := by rw [e1, sg_gw_e _ _ _ _ (by decide)]
  refine ⟨fun z => absurd he z, fun _ => ⟨hr, fun t0 => ⟨fun z => absurd he z, fun _ σ105 e105 σ108 e108 => ?_⟩, fun t0 => ?_⟩⟩
  rotate_left
  · rw [hT] at t0
    have K0 : K = 0 := by omega
    subst K0
    have ev : v [] = sg_g σ 133 0 := hv
    have et : txF 0 v = txN (sg_g σ 133 0) := by simp only [txF]; rw [ev]
    refine m_shNX ⟨by omega, by omega⟩ (sg_Rg _ _ _) (fun σ195 x1 x2 _ σ200 e200 => k σ200 ?_ ?_ (fun i hi => ?_) ?_)
    · rw [e200, sg_gw_e _ _ _ _ (sg_Rg _ _ _), x1.1, a1, et, Int.zero_add]
    · intro i x hx
      rw [et] at hx
      have := x1.2.2 i x hx
      rw [a1, Int.zero_add] at this
      rw [e200, sg_gw_c _ _ _ _ _ _ (by decide)]
      exact this
    · rw [e200, sg_gw_c _ _ _ _ _ _ (by decide), x1.2.1 i (Or.inr (by rw [a1, ← et]; omega)), e1, sg_gw_c _ _ _ _ _ _ (by decide)]
    · rw [e200]; exact sg_F_w (sg_F_t F1 (sg_F_m x2 rfl)) rfl _
  · rw [hT] at t0
    obtain ⟨K', rfl⟩ : ∃ K', K = K' + 1 := ⟨K - 1, by omega⟩
    have F108 : sg_F [136, 137, 138, 77088, 79088] σ σ108 := by rw [e108, e105]; exact sg_F_w (sg_F_w F1 rfl _) rfl _
    have a108 : sg_g σ108 88 78 = 0 := by rw [e108, sg_gw_c _ _ _ _ _ _ (by decide), e105, sg_gw_c _ _ _ _ _ _ (by decide)]; exact a1
    have b108 : sg_g σ108 137 0 = sg_g σ 133 0 := by rw [e108, sg_gw_c _ _ _ _ _ _ (by decide), e105, sg_gw_e _ _ _ _ (sg_Rg _ _ _)]
    have c108 : sg_g σ108 138 0 = 0 := by rw [e108, sg_gw_e _ _ _ _ (by decide)]
    refine m_shX ⟨by omega, by omega⟩ (by decide) (fun σ112 x1 x2 _ => ?_)
    have F112 : sg_F [136, 137, 138, 77088, 79088] σ σ112 := sg_F_t F108 (sg_F_m x2 rfl)
    have b112 : sg_g σ112 137 ((0 : Nat) : Int) = sg_g σ 133 0 := (sg_F_ga x2 rfl).trans b108
    have c112 : sg_g σ112 138 ((0 : Nat) : Int) = 0 := (sg_F_ga x2 rfl).trans c108
    refine ⟨fun n v' σ22 => ∃ (fs : List (vaF × Nat)) (t : List Int), v' = fs.length ∧ shF σ σ22 (K' + 1) fs ∧ rTx σ108 σ22 t ∧ t ++ rsT (K' + 1) fs = txF (K' + 1) v ∧ n = (rsT (K' + 1) fs).length, fun σ22 => rTx σ108 σ22 (txF (K' + 1) v), ⟨_, [(v, 0)], [91], rfl, ⟨trivial, by simp, ?_, ?_, Nat.zero_le _⟩, x1, ?_, rfl⟩, ?_, ?_⟩
    · simp only [List.length_nil]
      rw [b112]
      exact hv
    · simp only [List.length_nil]
      rw [c112]; rfl
    · have := rsT_p (K := K' + 1) (w := v) (fs := []) (by simp)
      simp only [List.length_nil, Nat.sub_zero] at this
      have e0 : rsT (K' + 1) [] = [] := rfl
      rw [e0, List.append_nil] at this
      rw [this]; rfl
    · rintro n v' σ22 rv f22 ⟨fs, t, rfl, hs, ht, et, en⟩
      have l78 : sg_g σ22 88 78 = t.length := by rw [ht.1, a108, Int.zero_add]
      have lt : t.length + (rsT (K' + 1) fs).length = (txF (K' + 1) v).length := by rw [← et, List.length_append]
      refine ⟨fun z => ?_, fun z => ?_⟩
      · cases fs with
        | nil =>
          have e0 : rsT (K' + 1) [] = [] := rfl
          rw [e0, List.append_nil] at et
          rw [← et]
          exact ht
        | cons f fs => simp only [List.length_cons] at z; omega
      · cases fs with
        | nil => simp only [List.length_nil] at z; omega
        | cons f fs =>
          obtain ⟨w0, i⟩ := f
          obtain ⟨s1, s2, s3, s4, s5⟩ := hs
          obtain ⟨d, hd⟩ : ∃ d, K' + 1 - fs.length = d + 1 := ⟨K' - fs.length, by omega⟩
          have hd' : K' + 1 - 1 - fs.length = d := by omega
          rw [hd] at s3
          have ee : ((((w0, i) :: fs).length : Nat) : Int) - 1 = (fs.length : Int) := by simp only [List.length_cons]; omega
          have el : ((((w0, i) :: fs).length : Nat) : Int) = (fs.length : Int) + 1 := by simp only [List.length_cons]; omega
          rw [ee]
          have x9 := s3.1
          have m123 := s3.2.2.2.1.1
          have m200 := s3.2.1
          refine ⟨⟨by omega, by omega⟩, ⟨by omega, by omega⟩, ⟨x9.1, by omega⟩, fun v48 σ46 => ∃ (fs' : List (vaF × Nat)) (t' : List Int), v48 = fs'.length ∧ shF σ σ46 (K' + 1) fs' ∧ rTx σ108 σ46 t' ∧ t' ++ rsT (K' + 1) fs' = txF (K' + 1) v ∧ (rsT (K' + 1) fs').length < n, ⟨fun ne => ?_, fun eq => ?_⟩, ?_⟩
          · rw [s4, m123] at ne
            have il : i < (itF w0).length := by omega
            obtain ⟨w, hw⟩ : ∃ w, (itF w0)[i]? = some w := ⟨_, List.getElem?_eq_getElem il⟩
            obtain ⟨pi, ri⟩ := rv_it hq.1 hq.2 s3 hw
            rw [s4]
            have rc := rsT_c (K := K' + 1) (fs := fs) hw
            rw [hd'] at rc
            have ln := congrArg List.length rc
            rw [List.length_append, List.length_append] at ln
            have lc : (if i = 0 then ([] : List Int) else [44]).length ≤ 1 := by split <;> simp
            refine ⟨fun σ55 => rTx σ22 σ55 (if i = 0 then [] else [44]), ⟨fun q => ?_, fun q => ?_⟩, fun σ55 f55 p55 => ⟨pi, ⟨by omega, by omega⟩, fun σ61 e61 => ?_⟩⟩
            · rw [if_pos (by omega)]; exact rTx_0 σ22
            · rw [if_neg (by omega)]
              exact m_shX ⟨by omega, by omega⟩ (by decide) (fun σ' x _ _ => x)
            · have p1 := p55.1
              have g7 : ∀ j, sg_g σ61 137 j = sg_g σ22 137 j := fun j => by rw [e61, sg_gw_c _ _ _ _ _ _ (by decide), sg_F_ga f55 rfl]
              have g8 : ∀ j, ¬ j = (fs.length : Int) → sg_g σ61 138 j = sg_g σ22 138 j := fun j hj => by rw [e61, sg_gw_k _ _ _ _ _ _ hj, sg_F_ga f55 rfl]
              have g8e : sg_g σ61 138 fs.length = (i : Int) + 1 := by rw [e61, sg_gw_e _ _ _ _ ⟨by omega, by omega⟩]
              have t61 : rTx σ108 σ61 (t ++ (if i = 0 then [] else [44])) := rTx_F (rTx_t ht p55) (K := [138]) (by rw [e61]; exact sg_F_w (sg_F_r _ _) rfl _) rfl rfl
              have l61 := t61.1
              rw [a108, Int.zero_add, List.length_append] at l61
              have fr1 : ∀ σ', (∀ j : Nat, j < fs.length + 1 → sg_g σ' 137 j = sg_g σ61 137 j ∧ sg_g σ' 138 j = sg_g σ61 138 j) → shF σ σ' (K' + 1) ((w0, i + 1) :: fs) := fun σ' hσ => by
                obtain ⟨u1, u2⟩ := hσ fs.length (by omega)
                refine ⟨shF_e (fun j hj => ?_) s1, s2, ?_, ?_, by omega⟩
                · obtain ⟨u3, u4⟩ := hσ j (by omega)
                  exact ⟨by rw [u3]; exact g7 j, by rw [u4]; exact g8 j (by omega)⟩
                · rw [hd, u1, g7]; exact s3
                · rw [u2, g8e]; omega
              rw [hT]
              refine ⟨fun tK => ⟨⟨by omega, by omega⟩, fun σ162 e162 σ165 e165 => m_shX ?_ (by decide) (fun σ169 y1 y2 _ => ⟨⟨by omega, by omega⟩, (w, 0) :: (w0, i + 1) :: fs, (t ++ (if i = 0 then [] else [44])) ++ [91], ?_, ?_, ?_, ?_, ?_⟩)⟩, fun tK => m_shNX ?_ (by unfold v_itemAt; exact sg_Rg _ _ _) (fun σ176 y1 y2 _ => ⟨(w0, i + 1) :: fs, (t ++ (if i = 0 then [] else [44])) ++ txN (v_itemAt σ (sg_g σ22 137 fs.length) i), ?_, ?_, ?_, ?_, ?_⟩)⟩
              · have : sg_g σ165 88 78 = sg_g σ61 88 78 := by rw [e165, sg_gw_c _ _ _ _ _ _ (by decide), e162, sg_gw_c _ _ _ _ _ _ (by decide)]
                rw [this]
                exact ⟨by omega, by omega⟩
              · simp only [List.length_cons]; omega
              · have h7 : ∀ j, ¬ j = ((fs.length + 1 : Nat) : Int) → sg_g σ169 137 j = sg_g σ61 137 j := fun j hj => by rw [sg_F_ga y2 rfl, e165, sg_gw_c _ _ _ _ _ _ (by decide), e162, sg_gw_k _ _ _ _ _ _ (by omega)]
                have h8 : ∀ j, ¬ j = ((fs.length + 1 : Nat) : Int) → sg_g σ169 138 j = sg_g σ61 138 j := fun j hj => by rw [sg_F_ga y2 rfl, e165, sg_gw_k _ _ _ _ _ _ (by omega), e162, sg_gw_c _ _ _ _ _ _ (by decide)]
                have h7n : sg_g σ169 137 ((fs.length + 1 : Nat) : Int) = v_itemAt σ (sg_g σ22 137 fs.length) i := by
                  rw [sg_F_ga y2 rfl, e165, sg_gw_c _ _ _ _ _ _ (by decide), e162, show ((fs.length + 1 : Nat) : Int) = ((((w0, i) :: fs).length : Nat) : Int) by simp only [List.length_cons], sg_gw_e _ _ _ _ (by unfold v_itemAt; exact sg_Rg _ _ _)]
                have h8n : sg_g σ169 138 ((fs.length + 1 : Nat) : Int) = 0 := by
                  rw [sg_F_ga y2 rfl, e165, show ((fs.length + 1 : Nat) : Int) = ((((w0, i) :: fs).length : Nat) : Int) by simp only [List.length_cons], sg_gw_e _ _ _ _ (by decide)]
                have dd : K' + 1 - (fs.length + 1) = d := by omega
                refine ⟨fr1 σ169 (fun j hj => ⟨h7 j (by omega), h8 j (by omega)⟩), ?_, ?_, ?_, Nat.zero_le _⟩
                · simp only [List.length_cons]; omega
                · simp only [List.length_cons]
                  rw [h7n, dd]; exact ri
                · simp only [List.length_cons]
                  rw [h8n]; rfl
              · exact rTx_t (rTx_F t61 (K := [137, 138]) (by rw [e165, e162]; exact sg_F_w (sg_F_w (sg_F_r _ _) rfl _) rfl _) rfl rfl) y1
              · have rp := rsT_p (K := K' + 1) (w := w) (fs := (w0, i + 1) :: fs) (by simp only [List.length_cons]; omega)
                simp only [List.length_cons] at rp
                rw [show K' + 1 - (fs.length + 1) = d by omega] at rp
                rw [← et, rc, rp]
                simp only [List.append_assoc, List.cons_append, List.nil_append]
              · have rp := congrArg List.length (rsT_p (K := K' + 1) (w := w) (fs := (w0, i + 1) :: fs) (by simp only [List.length_cons]; omega))
                simp only [List.length_cons, List.length_append] at rp
                rw [show K' + 1 - (fs.length + 1) = d by omega] at rp
                omega
              · exact ⟨by omega, by omega⟩
              · simp only [List.length_cons]
              · exact fr1 σ176 (fun j _ => ⟨sg_F_ga y2 rfl, sg_F_ga y2 rfl⟩)
              · exact rTx_t t61 y1
              · have d0 : d = 0 := by omega
                subst d0
                have ev : w [] = v_itemAt σ (sg_g σ22 137 fs.length) i := ri
                rw [← et, rc]
                simp only [txF, List.append_assoc]
                rw [ev]
              · have d0 : d = 0 := by omega
                subst d0
                have := txN_l (w [])
                simp only [txF] at ln
                omega
          · rw [s4, m123] at eq
            have il : i = (itF w0).length := by omega
            have rn := rsT_n (K := K' + 1) (fs := fs) il
            have ln := congrArg List.length rn
            rw [List.length_cons] at ln
            refine m_shX ⟨by omega, by omega⟩ (by decide) (fun σ188 y1 y2 _ => ⟨⟨by omega, by omega⟩, fs, t ++ [93], by omega, shF_e (fun j _ => ⟨sg_F_ga y2 rfl, sg_F_ga y2 rfl⟩) s1, rTx_t ht y1, ?_, by omega⟩)
            rw [← et, rn]
            simp only [List.append_assoc, List.cons_append, List.nil_append]
          · rintro v48 σ46 r48 f46 ⟨fs', t', g1, g2, g3, g4, g5⟩
            exact ⟨_, g5, fs', t', g1, g2, g3, g4, rfl⟩
    · intro σ22 f22 ht σ132 e132
      refine k σ132 ?_ (fun i x hx => ?_) (fun i hi => ?_) ?_
      · rw [e132, sg_gw_e _ _ _ _ (sg_Rg _ _ _), ht.1, a108, Int.zero_add]
      · have := ht.2.2 i x hx
        rw [a108, Int.zero_add] at this
        rw [e132, sg_gw_c _ _ _ _ _ _ (by decide)]
        exact this
      · rw [e132, sg_gw_c _ _ _ _ _ _ (by decide), ht.2.1 i (Or.inr (by rw [a108]; omega)), e108, sg_gw_c _ _ _ _ _ _ (by decide), e105, sg_gw_c _ _ _ _ _ _ (by decide), e1, sg_gw_c _ _ _ _ _ _ (by decide)]
      · rw [e132]; exact sg_F_w (sg_F_t F112 (sg_F_m f22 rfl)) rfl _
end SHX
