/-! seal of the class, exactly. -/
def flN : Nat → List vaF → List vaF
  | 0, l => l
  | k + 1, l => flF (flN k l)
theorem flN_s (l : List vaF) : ∀ k : Nat, flN k (flF l) = flN (k + 1) l
  | 0 => rfl
  | k + 1 => by
    show flF (flN k (flF l)) = flF (flN (k + 1) l)
    rw [flN_s l k]
/-- cells of the first k levels -/
def sxL : Nat → List vaF → Int
  | 0, _ => 0
  | k + 1, l => sxL k l + ((flN k l).length : Int)
theorem sxL_s (l : List vaF) : ∀ k : Nat, sxL (k + 1) l = (l.length : Int) + sxL k (flF l)
  | 0 => by simp [sxL, flN]
  | k + 1 => by
    have ih := sxL_s l k
    show sxL (k + 1) l + ((flN (k + 1) l).length : Int) = (l.length : Int) + (sxL k (flF l) + ((flN k (flF l)).length : Int))
    rw [ih, flN_s]
    omega
theorem exF_sx : ∀ (d : Nat) (l : List vaF), exF d l = sxL (d + 1) l
  | 0, l => by simp [sxL, flN, exF]
  | d + 1, l => by rw [sxL_s, ← exF_sx d (flF l)]; rfl
theorem sxL_m (l : List vaF) {a : Nat} : ∀ {b : Nat}, a ≤ b → sxL a l ≤ sxL b l
  | 0, h => by rw [show a = 0 by omega]; exact Int.le_refl _
  | b + 1, h => by
    by_cases e : a = b + 1
    · rw [e]; exact Int.le_refl _
    · have := sxL_m l (a := a) (b := b) (by omega)
      simp only [sxL]
      omega
/-- what is to be stored, and what it stands for -/
def srP (σ : sg_S) (d : Nat) (L : List vaF) : Prop := ∃ qs, pkR σ d qs ∧ qs.flatten = L
def srS (σ : sg_S) (d : Nat) (L : List vaF) : Prop := (sg_g σ 77 12 = L.length ∧ L.length ≤ 6000 ∧ ∀ i : Nat, i < L.length → sg_g σ 84 i = (L.getD i (nmF 0)) []) ∧ ∀ d', d = d' + 1 → (∀ i : Nat, i < L.length → 0 ≤ (L.getD i (nmF 0)) [] ∧ (L.getD i (nmF 0)) [] ≤ 200) ∧ srP σ d' (flF L)
def srF (σ : sg_S) (f d : Nat) (L : List vaF) : Prop := (sg_g σ 77 11 = L.length ∧ L.length ≤ 6000 ∧ ∀ i : Nat, i < L.length → sg_g σ 83 i = (L.getD i (nmF 0)) []) ∧ ∀ d', d = d' + 1 → (∀ i : Nat, i < L.length → 0 ≤ (L.getD i (nmF 0)) [] ∧ (L.getD i (nmF 0)) [] ≤ 200) ∧ (if f = 1 then srP σ d' (flF L) else srS σ d' (flF L))
def srX (σ : sg_S) (f k d : Nat) (L : List vaF) : Prop := if f ≤ k then srP σ d L else if k = 0 then srF σ f d L else srS σ d L
theorem srP_F {L : List Nat} {σ σ' : sg_S} {d : Nat} {l : List vaF} (h : srP σ d l) (f : sg_F L σ σ') (ex : yEx σ σ') (hL : (!sg_cv L 77 13 && sg_ca L 85 && sg_ca L 86 && sg_ca L 87) = true) : srP σ' d l := by
  obtain ⟨qs, h1, h2⟩ := h
  exact ⟨qs, pkR_F h1 f ex hL, h2⟩
theorem srS_F {L : List Nat} {σ σ' : sg_S} {d : Nat} {l : List vaF} (h : srS σ d l) (f : sg_F L σ σ') (ex : yEx σ σ') (hL : (!sg_cv L 77 12 && !sg_cv L 77 13 && sg_ca L 84 && sg_ca L 85 && sg_ca L 86 && sg_ca L 87) = true) : srS σ' d l := by
  simp only [Bool.and_eq_true, Bool.not_eq_true'] at hL
  obtain ⟨⟨⟨⟨⟨l1, l2⟩, l3⟩, l4⟩, l5⟩, l6⟩ := hL
  refine ⟨⟨by rw [sg_F_g f l1]; exact h.1.1, h.1.2.1, fun i hi => by rw [sg_F_ga f l3]; exact h.1.2.2 i hi⟩, fun d' hd => ⟨(h.2 d' hd).1, srP_F (h.2 d' hd).2 f ex (by simp [l2, l4, l5, l6])⟩⟩
theorem srF_F {L : List Nat} {σ σ' : sg_S} {q d : Nat} {l : List vaF} (h : srF σ q d l) (f : sg_F L σ σ') (ex : yEx σ σ') (hL : (!sg_cv L 77 11 && !sg_cv L 77 12 && !sg_cv L 77 13 && sg_ca L 83 && sg_ca L 84 && sg_ca L 85 && sg_ca L 86 && sg_ca L 87) = true) : srF σ' q d l := by
  simp only [Bool.and_eq_true, Bool.not_eq_true'] at hL
  obtain ⟨⟨⟨⟨⟨⟨⟨l0, l1⟩, l2⟩, l2'⟩, l3⟩, l4⟩, l5⟩, l6⟩ := hL
  refine ⟨⟨by rw [sg_F_g f l0]; exact h.1.1, h.1.2.1, fun i hi => by rw [sg_F_ga f l2']; exact h.1.2.2 i hi⟩, fun d' hd => ⟨(h.2 d' hd).1, ?_⟩⟩
  have := (h.2 d' hd).2
  split
  · rename_i e
    rw [if_pos e] at this
    exact srP_F this f ex (by simp [l2, l4, l5, l6])
  · rename_i e
    rw [if_neg e] at this
    exact srS_F this f ex (by simp [l1, l2, l3, l4, l5, l6])
theorem srX_F {L : List Nat} {σ σ' : sg_S} {q k d : Nat} {l : List vaF} (h : srX σ q k d l) (f : sg_F L σ σ') (ex : yEx σ σ') (hL : (!sg_cv L 77 11 && !sg_cv L 77 12 && !sg_cv L 77 13 && sg_ca L 83 && sg_ca L 84 && sg_ca L 85 && sg_ca L 86 && sg_ca L 87) = true) : srX σ' q k d l := by
  unfold srX at h ⊢
  split
  · rename_i e
    rw [if_pos e] at h
    simp only [Bool.and_eq_true, Bool.not_eq_true'] at hL
    obtain ⟨⟨⟨⟨⟨⟨⟨l0, l1⟩, l2⟩, l2'⟩, l3⟩, l4⟩, l5⟩, l6⟩ := hL
    exact srP_F h f ex (by simp [l2, l4, l5, l6])
  · rename_i e
    rw [if_neg e] at h
    split
    · rename_i e2
      rw [if_pos e2] at h
      exact srF_F h f ex hL
    · rename_i e2
      rw [if_neg e2] at h
      simp only [Bool.and_eq_true, Bool.not_eq_true'] at hL
      obtain ⟨⟨⟨⟨⟨⟨⟨l0, l1⟩, l2⟩, l2'⟩, l3⟩, l4⟩, l5⟩, l6⟩ := hL
      exact srS_F h f ex (by simp [l1, l2, l3, l4, l5, l6])
/-- lengths that are picked -/
theorem pkR_b {σ : sg_S} {d : Nat} {qs : List (List vaF)} (h : pkR σ (d + 1) qs) : ∀ v ∈ qs.flatten, 0 ≤ v [] ∧ v [] ≤ 200 := fun v hv => by
  obtain ⟨q, hq, hv⟩ := List.mem_flatten.mp hv
  obtain ⟨i, hi⟩ := List.mem_iff_getElem?.mp hq
  rcases h.2.2 i q hi with ⟨-, -, ⟨-, e⟩ | ⟨-, e⟩⟩ | ⟨l, h1, -, -, -, e⟩
  · rw [e] at hv
    have : v = nmF 0 := by simpa using hv
    rw [this]
    exact ⟨by decide, by decide⟩
  · rw [e] at hv; cases hv
  · rw [e] at hv
    have m := List.mem_of_mem_drop (List.mem_of_mem_take hv)
    obtain ⟨t, ht⟩ := List.mem_iff_getElem?.mp m
    have tl := gE_l ht
    have := (h1.2.1 t tl).2
    rw [List.getD_eq_getElem?_getD, ht] at this
    exact this
def RX (σ : sg_S) (w : Int) (L : List vaF) (D l : Nat) : Prop := (yRw σ (w + l) (flN l L).length ∧ ∀ i : Nat, i < (flN l L).length → sg_g σ 78 (sg_g σ 80 (w + l) + i) = ((flN l L).getD i (nmF 0)) []) ∧ (l < D → sg_g σ 82 (w + l) = w + l + 1 ∧ (∀ i : Nat, i < (flN l L).length → 0 ≤ ((flN l L).getD i (nmF 0)) [] ∧ ((flN l L).getD i (nmF 0)) [] ≤ 200) ∧ yLo σ (w + l) (flN l L).length)
theorem RX_up {σ σ' : sg_S} {w : Int} {L : List vaF} {D l : Nat} (h : yEx σ σ') (a : RX σ w L D l) : RX σ' w L D l := by
  obtain ⟨⟨r1, r2⟩, r3⟩ := a
  have e := h.2.1 _ r1.1.1 r1.1.2
  have q := r1.2.2.2
  refine ⟨⟨yRw_up h r1, fun i hi => ?_⟩, fun hd => ⟨?_, (r3 hd).2.1, h.2.2.2 _ _ r1 (r3 hd).2.2⟩⟩
  · rw [e.1, h.2.2.1 _ (by omega) (by omega)]; exact r2 i hi
  · rw [e.2.2]; exact (r3 hd).1
theorem RX_X {σ : sg_S} {w : Int} {L : List vaF} {D : Nat} (a : ∀ k, k ≤ D → RX σ w L D k) : ∀ (k l : Nat), l + k = D → yX σ k (w + l) (flN l L)
  | 0, l, e => (a l (by omega)).1
  | k + 1, l, e => by
    obtain ⟨⟨r1, r2⟩, r3⟩ := a l (by omega)
    obtain ⟨s1, s2, s3⟩ := r3 (by omega)
    refine ⟨r1, fun i hi => ⟨r2 i hi, s2 i hi⟩, s3, ?_⟩
    have ih := RX_X a k (l + 1) (by omega)
    rw [s1, show w + (l : Int) + 1 = w + ((l + 1 : Nat) : Int) by omega]
    exact ih
/-- what seal comes to -/
def seR (σ σ' : sg_S) (D : Nat) (L : List vaF) (e : Int) : Prop := ((sg_g σ 77 17 = 2000 ∨ 6000 < sg_g σ 77 16 + exF D L) ∧ sg_g σ' 77 18 = 8 ∧ sg_g σ' 77 17 = sg_g σ 77 17 ∧ sg_g σ' 77 16 = sg_g σ 77 16) ∨ (¬ (sg_g σ 77 17 = 2000 ∨ 6000 < sg_g σ 77 16 + exF D L) ∧ sg_g σ' 77 18 = e ∧ sg_g σ' 77 17 = sg_g σ 77 17 + 1 ∧ sg_g σ' 77 16 = sg_g σ 77 16 + exF D L ∧ yEx σ σ' ∧ yG σ' ∧ yX σ' D (sg_g σ 77 10) L ∧ sg_g σ' 77 10 = sg_g σ 77 10 + D + 1)
abbrev seL : List Nat := [78, 79, 80, 81, 82, 85, 86, 87, 11077, 12077, 13077, 14077, 15077, 16077, 17077, 18077, 19077]
theorem getD_m {L : List vaF} {i : Nat} (h : i < L.length) : (L.map (fun v => v []))[i]? = some ((L.getD i (nmF 0)) []) := by
  rw [List.getElem?_map, gD_i h]; rfl
theorem x_reset {σ : sg_S} {Q : sg_S → Prop} (k : ∀ σ', y0 σ' → sg_F [12077, 13077, 14077, 15077, 16077] σ σ' → Q σ') : V_lReset σ Q := by
  unfold V_lReset
  intro σ1 e1 σ4 e4 σ7 e7 σ10 e10 σ13 e13
  refine k σ13 ⟨?_, ?_, ?_, ?_, ?_⟩ (by rw [e13, e10, e7, e4, e1]; exact sg_F_w (sg_F_w (sg_F_w (sg_F_w (sg_F_w (sg_F_r _ _) rfl _) rfl _) rfl _) rfl _) rfl _)
  · rw [e13, sg_gw_k _ _ _ _ _ _ (by decide), e10, sg_gw_k _ _ _ _ _ _ (by decide), e7, sg_gw_k _ _ _ _ _ _ (by decide), e4, sg_gw_k _ _ _ _ _ _ (by decide), e1, sg_gw_e _ _ _ _ (by decide)]
  · rw [e13, sg_gw_k _ _ _ _ _ _ (by decide), e10, sg_gw_k _ _ _ _ _ _ (by decide), e7, sg_gw_k _ _ _ _ _ _ (by decide), e4, sg_gw_e _ _ _ _ (by decide)]
  · rw [e13, sg_gw_k _ _ _ _ _ _ (by decide), e10, sg_gw_k _ _ _ _ _ _ (by decide), e7, sg_gw_e _ _ _ _ (by decide)]
  · rw [e13, sg_gw_k _ _ _ _ _ _ (by decide), e10, sg_gw_e _ _ _ _ (by decide)]
  · rw [e13, sg_gw_e _ _ _ _ (by decide)]
section CDS
variable {σ : sg_S} {Q : Int → sg_S → Prop}
theorem x_seal {D f : Nat} {L : List vaF} {e : Int} (g : yG σ) (hw : sg_g σ 77 10 + 4 ≤ 8000) (hst : 0 ≤ sg_g σ 77 17 ∧ sg_g σ 77 17 ≤ 2000) (hD : D ≤ 3) (he : sg_g σ 77 14 = e) (ho : sg_g σ 77 15 = 0 ∨ sg_g σ 77 15 = 1) (hf : sg_g σ 77 15 = 0 → srX σ f 0 D L) (ho1 : sg_g σ 77 15 = 1 → 6000 < exF D L) (hf2 : f ≤ 2) (k : ∀ σ', sg_F seL σ σ' → y0 σ' → seR σ σ' D L e → (∀ v, 0 ≤ v → v < sg_g σ 77 10 → sg_g σ' 80 v = sg_g σ 80 v) → Q (sg_g σ 77 10) σ') : V_lSeal σ (D : Int) (f : Int) Q := by
  have gw := g.1
  have gu := g.2.1
  have eX := exF_sx D L
  obtain ⟨w, hw0⟩ : ∃ w, sg_g σ 77 10 = w := ⟨_, rfl⟩
  obtain ⟨u, hu0⟩ : ∃ u, sg_g σ 77 16 = u := ⟨_, rfl⟩
  rw [hw0] at gw hw
  rw [hu0] at gu
  unfold V_lSeal
  rw [hw0, hu0]
  refine ⟨fun m v σ2 => ∃ K : Nat, v = K ∧ K ≤ D + 1 ∧ m = D + 1 - K ∧ (∀ v, 0 ≤ v → v < w → sg_g σ2 80 v = sg_g σ 80 v) ∧ ((sg_g σ2 77 15 = 1 ∧ 6000 < u + exF D L) ∨ (sg_g σ2 77 15 = 0 ∧ yEx σ σ2 ∧ yG σ2 ∧ sg_g σ2 77 10 = w + K ∧ sg_g σ2 77 16 = u + sxL K L ∧ (∀ l, l < K → RX σ2 w L D l) ∧ (K ≤ D → srX σ2 f K (D - K) (flN K L)))), fun σ2 => (∀ v, 0 ≤ v → v < w → sg_g σ2 80 v = sg_g σ 80 v) ∧ ((sg_g σ2 77 15 = 1 ∧ 6000 < u + exF D L) ∨ (sg_g σ2 77 15 = 0 ∧ yEx σ σ2 ∧ yG σ2 ∧ sg_g σ2 77 10 = w + (D + 1 : Nat) ∧ sg_g σ2 77 16 = u + exF D L ∧ (∀ l, l < D + 1 → RX σ2 w L D l))), ⟨_, 0, rfl, Nat.zero_le _, rfl, fun v _ _ => rfl, ?_⟩, ?_, ?_⟩
  · rcases ho with o | o
    · exact Or.inr ⟨o, yEx_r _, g, by omega, by simp only [sxL]; omega, fun l hl => by omega, fun _ => hf o⟩
    · exact Or.inl ⟨o, by have := ho1 o; omega⟩
  · rintro m v σ2 rv f2 ⟨K, rfl, hK, hm, h80, hI⟩
    refine ⟨fun z => ?_, fun z => ⟨fun y => ?_, fun y => ?_⟩⟩
    · have e : K = D + 1 := by omega
      subst e
      rcases hI with q | ⟨q1, q2, q3, q4, q5, q6, q7⟩
      · exact ⟨h80, Or.inl q⟩
      · exact ⟨h80, Or.inr ⟨q1, q2, q3, q4, by rw [eX]; exact q5, q6⟩⟩
    · rcases hI with q | q
      · exact ⟨h80, Or.inl q⟩
      · exact absurd q.1 y
    · rcases hI with q | ⟨q1, q2, q3, q4, q5, q6, q7⟩
      · omega
      have hKD : K ≤ D := by omega
      have q7 := q7 hKD
      have g2u := q3.2.1
      obtain ⟨u2, hu2⟩ : ∃ u2, sg_g σ2 77 16 = u2 := ⟨_, rfl⟩
      rw [hu2] at g2u q5
      have sm := sxL_m L (a := K + 1) (b := D + 1) (by omega)
      have sm1 : sxL (K + 1) L = sxL K L + ((flN K L).length : Int) := rfl
      rw [hu2]
      intro σ52 e52
      rw [q4] at e52
      rw [xp_in ⟨by omega, by omega⟩] at e52
      refine ⟨⟨fun _ => trivial, fun _ => ⟨⟨by omega, by omega⟩, trivial⟩⟩, fun v57 e57 r57 σ60 e60 => ?_⟩
      rw [q4, xp_in ⟨by omega, by omega⟩] at e60
      rw [q4]
      have f60 : sg_F [80, 82] σ2 σ60 := by rw [e60, e52]; exact sg_F_w (sg_F_w (sg_F_r _ _) rfl _) rfl _
      have ru2 : sg_R u2 := ⟨by omega, by omega⟩
      have i80 : sg_g σ60 80 (w + K) = u2 := by rw [e60, sg_gw_c _ _ _ _ _ _ (by decide), e52, sg_gw_e _ _ _ _ ru2]
      have i82 : sg_g σ60 82 (w + K) = v57 := by rw [e60, sg_gw_e _ _ _ _ r57]
      have n60 : ∀ v, 0 ≤ v → v < sg_g σ2 77 10 → sg_g σ60 80 v = sg_g σ2 80 v ∧ sg_g σ60 81 v = sg_g σ2 81 v ∧ sg_g σ60 82 v = sg_g σ2 82 v := fun v a b => by
        refine ⟨?_, sg_F_ga f60 rfl, ?_⟩
        · rw [e60, sg_gw_c _ _ _ _ _ _ (by decide), e52, sg_gw_k _ _ _ _ _ _ (by omega)]
        · rw [e60, sg_gw_k _ _ _ _ _ _ (by omega), e52, sg_gw_c _ _ _ _ _ _ (by decide)]
      have ex60 : yEx σ2 σ60 := yEx_x (sg_F_g f60 rfl) (sg_F_g f60 rfl) n60 (fun x _ => ⟨sg_F_ga f60 rfl, sg_F_ga f60 rfl⟩)
      have g60 : yG σ60 := yG_x q3 (sg_F_g f60 rfl) (sg_F_g f60 rfl) (fun v a b => ⟨(n60 v a b).1, (n60 v a b).2.1⟩)
      have o60 : sg_g σ60 77 15 = 0 := by rw [sg_F_g f60 (by rfl)]; exact q1
      have u60 : sg_g σ60 77 16 = u2 := by rw [sg_F_g f60 (by rfl)]; exact hu2
      have sr60 := srX_F q7 f60 ex60 rfl
      refine ⟨fun σ66 => yG σ66 ∧ stX σ60 σ66 ((flN K L).map (fun v => v [])) ∧ (K < D → ∀ i : Nat, i < (flN K L).length → 0 ≤ ((flN K L).getD i (nmF 0)) [] ∧ ((flN K L).getD i (nmF 0)) [] ≤ 200) ∧ (sg_g σ66 77 15 = 0 → ∀ d', D - K = d' + 1 → srX σ66 f (K + 1) d' (flN (K + 1) L)), ⟨fun hlf => ⟨fun hK0 v94 e94 r94 => ?_, fun hK0 v105 e105 r105 => ?_⟩, fun hlf => ?_⟩, ?_⟩
      · rw [if_pos hK0] at e94
        unfold srX at sr60
        rw [if_neg (by omega), if_neg (by omega)] at sr60
        obtain ⟨⟨t1, t2, t3⟩, t4⟩ := sr60
        have f20 : sg_g σ60 77 12 = sg_g σ 77 12 := by rw [sg_F_g f60 (by rfl), sg_F_g f2 (by rfl)]
        rw [f20] at t1
        refine x_copy84 (F := (flN K L).map (fun v => v [])) (by rw [u60]; omega) o60 (by rw [e94, t1, List.length_map]) (by rw [List.length_map]; exact t2) (fun i x hx => ?_) (fun σ' f' s' _ => ⟨stX_g g60 s' f' rfl, s', fun hd => (t4 (D - K - 1) (by omega)).1, fun z d' hd => ?_⟩)
        · have hi := gE_l hx
          rw [List.length_map] at hi
          rw [getD_m hi] at hx
          cases hx
          exact t3 i hi
        · unfold srX
          rw [if_pos (by omega)]
          exact srP_F (t4 d' hd).2 f' (stX_ex s' f' rfl) rfl
      · rw [if_neg (by omega)] at e105
        unfold srX at sr60
        rw [if_neg (by omega), if_pos (by omega)] at sr60
        obtain ⟨⟨t1, t2, t3⟩, t4⟩ := sr60
        have f20 : sg_g σ60 77 11 = sg_g σ 77 11 := by rw [sg_F_g f60 (by rfl), sg_F_g f2 (by rfl)]
        rw [f20] at t1
        refine x_copy83 (F := (flN K L).map (fun v => v [])) (by rw [u60]; omega) o60 (by rw [e105, t1, List.length_map]) (by rw [List.length_map]; exact t2) (fun i x hx => ?_) (fun σ' f' s' _ => ⟨stX_g g60 s' f' rfl, s', fun hd => (t4 (D - K - 1) (by omega)).1, fun z d' hd => ?_⟩)
        · have hi := gE_l hx
          rw [List.length_map] at hi
          rw [getD_m hi] at hx
          cases hx
          exact t3 i hi
        · have := (t4 d' hd).2
          have ex' := stX_ex s' f' rfl
          unfold srX
          by_cases e1 : f = 1
          · rw [if_pos e1] at this
            rw [if_pos (by omega)]
            exact srP_F this f' ex' rfl
          · rw [if_neg e1] at this
            rw [if_neg (by omega), if_neg (by omega)]
            exact srS_F this f' ex' rfl
      · unfold srX at sr60
        rw [if_pos (by omega)] at sr60
        obtain ⟨qs, hq, eq⟩ := sr60
        refine x_copyPicks g60 o60 hq (fun σ' f' s' g' o' _ => ⟨g', by rw [← eq]; exact s', fun hd i hi => ?_, fun z d' hd => ?_⟩)
        · rw [show D - K = (D - K - 1) + 1 by omega] at hq
          have := pkR_b hq _ (by rw [eq]; exact List.mem_of_getElem? (gD_i hi))
          exact this
        · unfold srX
          rw [if_pos (by omega)]
          exact ⟨qs.map flF, o' z d' hd, by rw [fl_fl, eq]; rfl⟩
      · rintro σ66 f66 ⟨g66, s66, hl66, hz66⟩
        have sle := s66.1
        rw [u60] at sle
        have at52 : sx_at σ52 80 8000 (w + K) = u2 := by rw [xa_in ⟨by omega, by omega⟩, e52, sg_gw_e _ _ _ _ ru2]
        rw [at52]
        refine ⟨⟨by omega, by omega⟩, fun σ70 e70 => ?_⟩
        rw [xp_in ⟨by omega, by omega⟩] at e70
        have f70 : sg_F [81] σ66 σ70 := by rw [e70]; exact sg_F_w (sg_F_r _ _) rfl _
        have i81 : sg_g σ70 81 (w + K) = sg_g σ66 77 16 - u2 := by rw [e70, sg_gw_e _ _ _ _ ⟨by omega, by omega⟩]
        have j80 : sg_g σ70 80 (w + K) = u2 := by rw [sg_F_ga f70 rfl, sg_F_ga f66 rfl]; exact i80
        obtain ⟨-, s3, s4, s5, s7⟩ := id s66
        rw [u60, List.length_map] at s4 s5
        rw [u60] at s7
        rw [List.length_map] at sle
        have kk : ∀ σ76, sg_F [79] σ70 σ76 → (sg_g σ66 77 15 = 0 → (K < D → ∀ i : Nat, i < (flN K L).length → sg_g σ76 79 (u2 + i) = su (sg_g σ70 78) u2 i) ∧ ∀ q, q < u2 → sg_g σ76 79 q = sg_g σ70 79 q) → sg_R (w + (K : Int) + 1) ∧ ∀ σ80, σ80 = sg_w σ76 77 10 (w + (K : Int) + 1) → sg_R ((K : Int) + 1) ∧ ∃ m', m' < m ∧ ∃ K' : Nat, (K : Int) + 1 = K' ∧ K' ≤ D + 1 ∧ m' = D + 1 - K' ∧ (∀ v, 0 ≤ v → v < w → sg_g σ80 80 v = sg_g σ 80 v) ∧ ((sg_g σ80 77 15 = 1 ∧ 6000 < u + exF D L) ∨ (sg_g σ80 77 15 = 0 ∧ yEx σ σ80 ∧ yG σ80 ∧ sg_g σ80 77 10 = w + K' ∧ sg_g σ80 77 16 = u + sxL K' L ∧ (∀ l, l < K' → RX σ80 w L D l) ∧ (K' ≤ D → srX σ80 f K' (D - K') (flN K' L)))) := by
          intro σ76 f76 hlo
          refine ⟨⟨by omega, by omega⟩, fun σ80 e80 => ⟨⟨by omega, by omega⟩, D + 1 - (K + 1), by omega, K + 1, by omega, by omega, rfl, fun v a b => ?_, ?_⟩⟩
          · have f80 : sg_F [11077] σ76 σ80 := by rw [e80]; exact sg_F_w (sg_F_r _ _) rfl _
            rw [sg_F_ga f80 rfl, sg_F_ga f76 rfl, sg_F_ga f70 rfl, sg_F_ga f66 rfl, (n60 v a (by omega)).1]
            exact h80 v a b
          have f80 : sg_F [11077] σ76 σ80 := by rw [e80]; exact sg_F_w (sg_F_r _ _) rfl _
          have f6680 : sg_F [79, 81, 11077] σ66 σ80 := sg_F_t (sg_F_t (sg_F_m f70 rfl) (sg_F_m f76 rfl)) (sg_F_m f80 rfl)
          have w80 : sg_g σ80 77 10 = w + K + 1 := by rw [e80, sg_gw_e _ _ _ _ ⟨by omega, by omega⟩]
          have o80 : sg_g σ80 77 15 = sg_g σ66 77 15 := sg_F_g f6680 rfl
          by_cases fit : u2 + ((flN K L).length : Int) ≤ 6000
          rotate_left
          · rw [if_neg fit] at s4
            exact Or.inl ⟨by rw [o80]; exact s4, by rw [eX]; omega⟩
          right
          rw [if_pos fit] at s4
          have s6 := s5 fit
          obtain ⟨hlo1, hlq⟩ := hlo s4
          have z2 := hz66 s4
          have u80 : sg_g σ80 77 16 = u2 + ((flN K L).length : Int) := by rw [sg_F_g f6680 (by rfl)]; exact s6
          rw [s6, show u2 + ((flN K L).length : Int) - u2 = ((flN K L).length : Int) by omega] at i81
          have c70 : ∀ i : Nat, i < (flN K L).length → sg_g σ70 78 (u2 + i) = ((flN K L).getD i (nmF 0)) [] := fun i hi => by
            rw [sg_F_ga f70 rfl]
            exact s7 i _ (getD_m hi) (by omega)
          have r80 : ∀ v, 0 ≤ v → v < sg_g σ2 77 10 → sg_g σ80 80 v = sg_g σ2 80 v ∧ sg_g σ80 81 v = sg_g σ2 81 v ∧ sg_g σ80 82 v = sg_g σ2 82 v := fun v a b => by
            obtain ⟨n1, n2, n3⟩ := n60 v a b
            refine ⟨?_, ?_, ?_⟩
            · rw [sg_F_ga f6680 rfl, sg_F_ga f66 rfl, n1]
            · rw [sg_F_ga f80 rfl, sg_F_ga f76 rfl, e70, sg_gw_k _ _ _ _ _ _ (by omega), sg_F_ga f66 rfl, n2]
            · rw [sg_F_ga f6680 rfl, sg_F_ga f66 rfl, n3]
          have c80 : ∀ x, sg_g σ80 78 x = sg_g σ66 78 x := fun x => sg_F_ga f6680 rfl
          have s80 : ∀ x, x < u2 → sg_g σ80 78 x = sg_g σ2 78 x ∧ sg_g σ80 79 x = sg_g σ2 79 x := fun x hx => by
            refine ⟨?_, ?_⟩
            · rw [c80, s3 x (by omega), sg_F_ga f60 rfl]
            · rw [sg_F_ga f80 rfl, hlq x hx, sg_F_ga f70 rfl, sg_F_ga f66 rfl, sg_F_ga f60 rfl]
          have ex2 : yEx σ2 σ80 := by
            refine ⟨⟨by omega, by omega⟩, r80, fun x _ b => (s80 x (by omega)).1, fun v n a b i hi => ?_⟩
            obtain ⟨a1, a2, a3, a4, a5⟩ := a
            rw [(r80 v a1.1 a1.2).1, (s80 _ (by omega)).2, b i hi]
            exact (su_sh (fun j hj => (s80 _ (by omega)).1)).symm
          have h80' : sg_g σ80 80 (w + K) = u2 := by rw [sg_F_ga f80 rfl, sg_F_ga f76 rfl]; exact j80
          have h81' : sg_g σ80 81 (w + K) = ((flN K L).length : Int) := by rw [sg_F_ga f80 rfl, sg_F_ga f76 rfl]; exact i81
          have g80 : yG σ80 := yG_new q3 (by omega) (by omega) (by omega) (fun v a b => ⟨(r80 v a b).1, (r80 v a b).2.1⟩) (by rw [q4, h80', h81', hu2]; omega)
          have rxK : RX σ80 w L D K := by
            refine ⟨⟨⟨by omega, h81', by omega, by omega, by omega⟩, fun i hi => ?_⟩, fun hd => ⟨?_, hl66 hd, fun i hi => ?_⟩⟩
            · rw [h80', sg_F_ga f80 rfl, sg_F_ga f76 rfl, c70 i hi]
            · rw [sg_F_ga f6680 rfl, sg_F_ga f66 rfl, i82, e57, if_neg (by omega), q4]
            · rw [h80', sg_F_ga f80 rfl, hlo1 hd i (by omega)]
              exact (su_sh (fun j hj => by rw [sg_F_ga f80 rfl, sg_F_ga f76 rfl])).symm
          refine ⟨by rw [o80]; exact s4, yEx_t q2 ex2, g80, by omega, by rw [u80, sm1]; omega, fun l hl => ?_, fun hle => ?_⟩
          · by_cases e : l = K
            · subst e; exact rxK
            · exact RX_up ex2 (q6 l (by omega))
          · refine srX_F (z2 _ (by omega)) f6680 ?_ rfl
            refine ⟨⟨by rw [w80, sg_F_g f66 (by rfl), sg_F_g f60 (by rfl)]; omega, by rw [u80]; omega⟩, fun v a b => ?_, fun x _ _ => c80 x, fun v n a b i hi => ?_⟩
            · rw [sg_F_g f66 (by rfl), sg_F_g f60 (by rfl), q4] at b
              refine ⟨sg_F_ga f6680 rfl, ?_, sg_F_ga f6680 rfl⟩
              rw [sg_F_ga f80 rfl, sg_F_ga f76 rfl, e70, sg_gw_k _ _ _ _ _ _ (by omega)]
            · obtain ⟨a1, a2, a3, a4, a5⟩ := a
              rw [sg_F_g f66 (by rfl), sg_F_g f60 (by rfl), q4] at a1
              have a6 : sg_g σ66 80 v = sg_g σ2 80 v := by rw [sg_F_ga f66 rfl]; exact (n60 v a1.1 (by omega)).1
              have a7 := q3.2.2.1 v a1.1 (by omega)
              have a8 : sg_g σ2 81 v = n := by rw [← a2, sg_F_ga f66 rfl]; exact (n60 v a1.1 (by omega)).2.1.symm
              rw [sg_F_ga (a := 80) f6680 rfl, sg_F_ga (a := 79) f80 rfl, hlq _ (by omega), sg_F_ga (a := 79) f70 rfl, b i hi]
              exact (su_sh (fun j hj => c80 _)).symm
        refine ⟨fun σ76 => sg_g σ66 77 15 = 0 → (K < D → ∀ i : Nat, i < (flN K L).length → sg_g σ76 79 (u2 + i) = su (sg_g σ70 78) u2 i) ∧ ∀ q, q < u2 → sg_g σ76 79 q = sg_g σ70 79 q, ⟨fun hd _ => ⟨fun z => by omega, fun _ _ => rfl⟩, fun hd => ?_⟩, fun σ76 f76 hx => kk σ76 f76 hx⟩
        have nn : 0 ≤ sg_g σ66 77 16 - u2 ∧ sg_g σ66 77 16 - u2 ≤ 6000 := ⟨by omega, by omega⟩
        refine y_lay (n := sg_g σ66 77 16 - u2) (by rw [xa_in ⟨by omega, by omega⟩]; exact i81) nn (fun _ => ⟨⟨by omega, by omega⟩, by rw [j80]; omega, by rw [j80]; omega⟩) (fun i hi => ?_) (fun σ' f' l1 l2 _ s4' => ⟨fun _ i hi => ?_, fun q hq => l2 q (fun i hi => by rw [j80]; omega)⟩)
        · rw [j80, sg_F_ga f70 rfl, s7 i _ (getD_m (by omega)) (by omega)]
          exact hl66 (by omega) i (by omega)
        · have fit : u2 + ((flN K L).length : Int) ≤ 6000 := by
            refine Decidable.byContradiction (fun c => ?_)
            rw [if_neg c] at s4
            omega
          have s6 := s5 fit
          have := l1 i (by omega)
          rw [j80] at this; exact this
  · rintro σ2 f2 ⟨h80, hX2⟩
    have t17 : sg_g σ2 77 17 = sg_g σ 77 17 := sg_F_g f2 rfl
    have kR : ∀ σ19, sg_F [17077, 18077, 19077] σ2 σ19 → ((sg_g σ 77 17 = 2000 ∨ 6000 < u + exF D L) ∧ sg_g σ19 77 18 = 8 ∧ sg_g σ19 77 17 = sg_g σ 77 17 ∧ sg_g σ19 77 16 = u) ∨ (¬ (sg_g σ 77 17 = 2000 ∨ 6000 < u + exF D L) ∧ sg_g σ19 77 18 = e ∧ sg_g σ19 77 17 = sg_g σ 77 17 + 1 ∧ sg_g σ19 77 16 = sg_g σ2 77 16) → V_lReset σ19 (fun σ23 => sg_F [12077, 13077, 14077, 15077, 16077] σ19 σ23 → Q w σ23) := fun σ19 f19 h19 => by
      refine x_reset (fun σ13 y013 f13 _ => ?_)
      have F : sg_F seL σ σ13 := sg_F_t (sg_F_t (sg_F_m f2 rfl) (sg_F_m f19 rfl)) (sg_F_m f13 rfl)
      rw [← hw0]
      refine k σ13 F y013 ?_ (fun v a b => by rw [sg_F_ga f13 rfl, sg_F_ga f19 rfl]; exact h80 v a (by omega))
      unfold seR
      rw [hu0, hw0]
      rcases h19 with ⟨z1, z2, z3, z4⟩ | ⟨z1, z2, z3, z4⟩
      · exact Or.inl ⟨z1, by rw [sg_F_g f13 (by rfl)]; exact z2, by rw [sg_F_g f13 (by rfl)]; exact z3, by rw [sg_F_g f13 (by rfl)]; exact z4⟩
      · right
        rcases hX2 with x | ⟨x1, x2, x3, x4, x5, x6⟩
        · exact absurd (Or.inr x.2) z1
        have fx : sg_F [12077, 13077, 14077, 15077, 16077, 17077, 18077, 19077] σ2 σ13 := sg_F_t (sg_F_m f19 rfl) (sg_F_m f13 rfl)
        have e16 : sg_g σ13 77 16 = sg_g σ2 77 16 := by rw [sg_F_g f13 (by rfl)]; exact z4
        have ex : yEx σ2 σ13 := yEx_x (sg_F_g fx rfl) e16 (fun v _ _ => ⟨sg_F_ga fx rfl, sg_F_ga fx rfl, sg_F_ga fx rfl⟩) (fun x _ => ⟨sg_F_ga fx rfl, sg_F_ga fx rfl⟩)
        refine ⟨z1, by rw [sg_F_g f13 (by rfl)]; exact z2, by rw [sg_F_g f13 (by rfl)]; exact z3, by rw [e16]; exact x5, yEx_t x2 ex, yG_x x3 (sg_F_g fx rfl) e16 (fun v _ _ => ⟨sg_F_ga fx rfl, sg_F_ga fx rfl⟩), yX_up ex ?_, by rw [sg_F_g fx (by rfl)]; omega⟩
        have := RX_X (σ := σ2) (w := w) (L := L) (D := D) (fun k hk => x6 k (by omega)) D 0 (by omega)
        rw [show w + ((0 : Nat) : Int) = w by omega] at this
        exact this
    refine ⟨fun σ19 => ((sg_g σ 77 17 = 2000 ∨ 6000 < u + exF D L) ∧ sg_g σ19 77 18 = 8 ∧ sg_g σ19 77 17 = sg_g σ 77 17 ∧ sg_g σ19 77 16 = u) ∨ (¬ (sg_g σ 77 17 = 2000 ∨ 6000 < u + exF D L) ∧ sg_g σ19 77 18 = e ∧ sg_g σ19 77 17 = sg_g σ 77 17 + 1 ∧ sg_g σ19 77 16 = sg_g σ2 77 16), ⟨fun z σ28 e28 σ31 e31 => ?_, fun z => ?_⟩, fun σ19 f19 h19 => kR σ19 f19 h19⟩
    · left
      rcases hX2 with x | x
      · refine ⟨Or.inr x.2, ?_, ?_, ?_⟩
        · rw [e31, sg_gw_k _ _ _ _ _ _ (by decide), e28, sg_gw_e _ _ _ _ (by decide)]
        · rw [e31, sg_gw_k _ _ _ _ _ _ (by decide), e28, sg_gw_k _ _ _ _ _ _ (by decide)]; exact t17
        · rw [e31, sg_gw_e _ _ _ _ ⟨by omega, by omega⟩]
      · exact absurd x.1 z
    · have fits : ¬ 6000 < u + exF D L := by
        rcases hX2 with x | ⟨x1, x2, x3, x4, x5, x6⟩
        · omega
        · have := x3.2.1.2
          omega
      unfold V_lStep
      refine ⟨fun q => ⟨⟨by omega, by omega⟩, fun σ3 e3 _ f3 => ⟨fun _ σ41 e41 => Or.inr ⟨fun c => by omega, ?_, ?_, ?_⟩, fun y => absurd y (by decide)⟩⟩, fun q σ6 e6 _ f6 => ⟨fun y => absurd rfl y, fun _ σ44 e44 σ47 e47 => Or.inl ⟨Or.inl (by omega), ?_, ?_, ?_⟩⟩⟩
      · rw [e41, sg_gw_e _ _ _ _ (sg_Rg _ _ _)]; exact he
      · rw [e41, sg_gw_k _ _ _ _ _ _ (by decide), e3, sg_gw_e _ _ _ _ ⟨by omega, by omega⟩, t17]
      · rw [e41, sg_gw_k _ _ _ _ _ _ (by decide), e3, sg_gw_k _ _ _ _ _ _ (by decide)]
      · rw [e47, sg_gw_k _ _ _ _ _ _ (by decide), e44, sg_gw_e _ _ _ _ (by decide)]
      · rw [e47, sg_gw_k _ _ _ _ _ _ (by decide), e44, sg_gw_k _ _ _ _ _ _ (by decide), e6, sg_gw_k _ _ _ _ _ _ (by decide)]; exact t17
      · rw [e47, sg_gw_e _ _ _ _ ⟨by omega, by omega⟩]
end CDS
