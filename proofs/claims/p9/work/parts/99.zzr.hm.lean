/-! branch, fork, turn, join. -/
theorem su_mono {g : Int → Int} {p : Int} (h : ∀ x, 0 ≤ g x) : ∀ {i j : Nat}, i ≤ j → su g p i ≤ su g p j
  | i, 0, hij => by
    have : i = 0 := by omega
    subst this; exact Int.le_refl _
  | i, j + 1, hij => by
    by_cases e : i = j + 1
    · subst e; exact Int.le_refl _
    · have a := su_mono (p := p) h (i := i) (j := j) (by omega)
      have b := h (p + j)
      simp only [su]
      omega
theorem cn_mono (σ : sg_S) (ch w : Int) {i j : Nat} (h : i ≤ j) : cnF σ ch w i ≤ cnF σ ch w j := by
  unfold cnF
  exact su_mono (fun x => by split <;> omega) h
theorem cn_s (σ : sg_S) (ch w : Int) (j : Nat) : cnF σ ch w (j + 1) = cnF σ ch w j + (if v_fChosen σ ch j w = 0 then 0 else 1) := by
  unfold cnF
  simp only [su]
  rw [show (0 : Int) + j = j by omega]
theorem ch_01 (σ : sg_S) (ch l : Int) : v_fChosen σ ch l 1 = 0 ↔ ¬ v_fChosen σ ch l 0 = 0 := by
  unfold v_fChosen
  split <;> simp
theorem cn_01 (σ : sg_S) (ch : Int) : ∀ j : Nat, cnF σ ch 0 j = j - cnF σ ch 1 j
  | 0 => rfl
  | j + 1 => by
    rw [cn_s, cn_s, cn_01 σ ch j]
    by_cases e : v_fChosen σ ch j 1 = 0
    · rw [if_pos e, if_neg ((ch_01 σ ch j).mp e)]; omega
    · rw [if_neg e, if_pos (Decidable.byContradiction fun q => e ((ch_01 σ ch j).mpr q))]; omega
/-- what a part's variables outside are saved as -/
def svd (σ σ' : sg_S) (sv : Int) (W : List Int) : Prop := (∀ (i : Nat) (x : Int), W[i]? = some x → sg_g σ' 72 (sv + i) = x ∧ sg_g σ' 73 (sv + i) = sg_g σ 62 x)
abbrev brL : List Nat := [62, 71, 72, 73, 74, 78, 79, 80, 81, 82, 85, 86, 87, 11061, 11077, 12077, 13077, 14077, 15077, 16077, 17077, 18077, 19077, 22061, 23061, 24061]
/-- after the branch -/
def brR (σ σ' : sg_S) (a sv c m : Int) (W : List Int) : Prop := nrR σ σ' W c m ∧ sg_g σ' 61 23 = m ∧ sg_g σ' 61 22 = sv + W.length ∧ sg_g σ' 71 a = sv ∧ (∀ i, ¬ i = a → sg_g σ' 71 i = sg_g σ 71 i) ∧ svd σ σ' sv W ∧ (∀ i, i < sv → sg_g σ' 72 i = sg_g σ 72 i ∧ sg_g σ' 73 i = sg_g σ 73 i)
theorem sg_F_y {L : List Nat} {σ σ' : sg_S} (f : sg_F L σ σ') (a : Nat) (k z : Int) : sg_F L (sg_w σ a k z) (sg_w σ' a k z) := fun c j hc hk => by
  have := f c j hc hk
  simp only [sg_w]
  exact ⟨by rw [this.1], this.2⟩
section BRN
variable {σ : sg_S} {Q : sg_S → Prop}
theorem mC_F {L : List Nat} {σ' : sg_S} {c : Int} (h : mC σ c) (f : sg_F L σ σ') (hL : (sg_ca L 77 && sg_ca L 80 && sg_ca L 81 && !sg_cv L 61 10) = true) : mC σ' c := by
  simp only [Bool.and_eq_true, Bool.not_eq_true'] at hL
  obtain ⟨⟨⟨l1, l2⟩, l3⟩, l4⟩ := hL
  obtain ⟨h1, h2, h3, h4, h5⟩ := h
  have q : ∀ k, sg_g σ' 77 k = sg_g σ 77 k := fun k => sg_F_ga f l1
  refine ⟨yG_x h1 (q _) (q _) (fun v _ _ => ⟨sg_F_ga f l2, sg_F_ga f l3⟩), ?_, by rw [sg_F_g f l4]; exact h3, by rw [q, q]; exact h4, by rw [q]; exact h5⟩
  unfold y0
  rw [q, q, q, q, q]; exact h2
theorem wnt_F {L : List Nat} {σ' : sg_S} {lo hi bd x : Int} (f : sg_F L σ σ') (hL : (sg_ca L 3 && sg_ca L 16) = true) : wnt σ' lo hi bd x ↔ wnt σ lo hi bd x := by
  simp only [Bool.and_eq_true] at hL
  unfold wnt
  refine ⟨fun ⟨j, a, b, c, d, e⟩ => ⟨j, a, b, ?_, ?_, e⟩, fun ⟨j, a, b, c, d, e⟩ => ⟨j, a, b, ?_, ?_, e⟩⟩
  · rw [sg_F_ga f hL.1] at c; exact c
  · rw [sg_F_ga f hL.2] at d; exact d
  · rw [sg_F_ga f hL.1]; exact c
  · rw [sg_F_ga f hL.2]; exact d
theorem f_branch {a x w lo hi bd n sv c ch : Int} (ha : 0 ≤ a ∧ a < 200) (hx : 0 ≤ x ∧ x < 200) (hm : mC σ c) (hc : 4 ≤ c) (h11 : sg_g σ 11 x = lo) (h12 : sg_g σ 12 x = hi) (hl : 0 ≤ lo ∧ hi < 200) (h16 : sg_g σ 16 a = bd) (h69 : sg_g σ 69 a = n) (hn : 0 ≤ n ∧ n ≤ 6000) (h70 : sg_g σ 70 a = ch) (hch : yRw σ ch n) (hsv : sg_g σ 61 22 = sv) (h0 : 0 ≤ sv ∧ sv ≤ 2400 ∧ sv + (hi - lo + 1) ≤ 2400) (hT : ∀ s, wnt σ lo hi bd s → (0 ≤ s ∧ s < 272) ∧ ∃ d : Nat, d ≤ 3 ∧ sg_g σ 34 s = d ∧ yV σ d (sg_g σ 62 s) n) (k1 : ∀ σ', sg_F brL σ σ' → ¬ sg_g σ' 61 10 = 0 → Q σ') (k2 : ∀ σ' W, sg_F brL σ σ' → W.Nodup → (∀ s, s ∈ W ↔ wnt σ lo hi bd s) → (W.length : Int) ≤ hi - lo + 1 ∨ W = [] → brR σ σ' a sv c (cnF σ ch w n.toNat) W → Q σ') : V_fBranch σ a x w Q := by
  unfold V_fBranch
  rw [xa_in ha, xa_in ha, xa_in ha, h16, h69, h70]
  intro σ1 e1
  have f1 : sg_F [22061] σ σ1 := by rw [e1]; exact sg_F_w (sg_F_r _ _) rfl _
  refine f_want (W0 := []) hx (by rw [sg_F_ga f1 rfl]; exact h11) (by rw [sg_F_ga f1 rfl]; exact h12) hl ⟨by rw [e1, sg_gw_e _ _ _ _ (by decide)]; rfl, fun i y hy => by simp at hy, List.Pairwise.nil⟩ (by simp) (fun σ5 W f5 w5 m5 _ => ?_)
  have f5' : sg_F [74, 22061] σ σ5 := sg_F_t (sg_F_m f1 rfl) f5
  have m5' : ∀ s, s ∈ W ↔ wnt σ lo hi bd s := fun s => by
    rw [m5 s, wnt_F f1 rfl]
    exact ⟨fun q => q.resolve_left (by simp), Or.inr⟩
  have wN := wl_nd w5.2.2
  have wl1 := wit_len (f := sg_g σ 16) (a := lo) (b := hi) wN (fun s hs => by
    obtain ⟨j, q1, q2, q3, q4, q5⟩ := (m5' s).mp hs
    exact ⟨j, q1, q2, q4⟩)
  have wl2 : (W.length : Int) ≤ 200 ∧ sv + W.length ≤ 2400 := by
    rcases wl1 with q | q
    · omega
    · rw [q]; simp only [List.length_nil]; omega
  refine f_save ha w5 (by omega) (fun s hs => (hT s ((m5' s).mp hs)).1) (sv := sv) (by rw [sg_F_g f5' (by rfl)]; exact hsv) (by omega) (fun σ11 f11 s1 s2 s3 s4 s5 _ => ?_)
  have f11' : sg_F [71, 72, 73, 74, 22061, 23061] σ σ11 := sg_F_t (sg_F_m f5' rfl) (sg_F_m f11 rfl)
  have ex11 : yEx σ σ11 := yEx_F f11' rfl
  have w11 : wl σ11 W := ⟨by rw [sg_F_g f11 (by rfl)]; exact w5.1, fun i y hy => by rw [sg_F_ga f11 rfl]; exact w5.2.1 i y hy, w5.2.2⟩
  have cn : cnF σ11 ch w n.toNat = cnF σ ch w n.toNat := cn_up hm.1 (yG_F hm.1 f11' rfl) ex11 hch (by omega)
  refine f_narrow (mC_F hm f11' rfl) hc hn (yRw_up ex11 hch) w11 (by omega) (fun s hs => (hT s ((m5' s).mp hs)).1) (fun s hs => ?_) (fun σ' f' z _ => k1 σ' (sg_F_t (sg_F_m f11' rfl) (sg_F_m f' rfl)) z) (fun σ' f' r' l' _ => ?_)
  · obtain ⟨d, d1, d2, d3⟩ := (hT s ((m5' s).mp hs)).2
    exact ⟨d, d1, by rw [sg_F_ga f11' rfl]; exact d2, by rw [sg_F_ga f11' rfl]; exact yV_up ex11 d3⟩
  · obtain ⟨r1, r2, r3, r4⟩ := r'
    rw [cn] at r3 l'
    refine k2 σ' W (sg_F_t (sg_F_m f11' rfl) (sg_F_m f' rfl)) wN m5' wl1 ⟨⟨r1, yEx_t ex11 r2, fun s hs d hd => r3 s hs d (by rw [sg_F_ga f11' rfl]; exact hd), fun s hs => by rw [r4 s hs, sg_F_ga f11' rfl]⟩, l', by rw [sg_F_g f' (by rfl)]; exact s1, by rw [sg_F_ga f' rfl]; exact s2, fun i hi => by rw [sg_F_ga f' rfl, s3 i hi, sg_F_ga f5' rfl], fun i y hy => ?_, fun i hi => ?_⟩
    · obtain ⟨t1, t2⟩ := s4 i y hy
      exact ⟨by rw [sg_F_ga f' rfl]; exact t1, by rw [sg_F_ga f' rfl, t2, sg_F_ga f5' rfl]⟩
    · obtain ⟨t1, t2⟩ := s5 i hi
      exact ⟨by rw [sg_F_ga f' rfl, t1, sg_F_ga f5' rfl], by rw [sg_F_ga f' rfl, t2, sg_F_ga f5' rfl]⟩
/-- a join of n lanes -/
theorem f_join {W : List Int} {a sb n t c ch : Int} {D : Nat} (ha : 0 ≤ a ∧ a < 200) (hm : mC σ c) (hc : 4 ≤ c) (hD : D ≤ 3) (h6 : sg_g σ 6 a = D) (h69 : sg_g σ 69 a = n) (hn : 0 ≤ n ∧ n ≤ 6000) (h70 : sg_g σ 70 a = ch) (hch : yRw σ ch n) (ht : sg_g σ 61 7 = t + 2) (h0 : 0 ≤ t ∧ t + 2 ≤ 400) (hA : yV σ D (sg_g σ 64 t) (cnF σ ch 1 n.toNat)) (hB : yV σ D (sg_g σ 64 (t + 1)) (cnF σ ch 0 n.toNat)) (h71 : sg_g σ 71 a = sb) (hs : sg_g σ 61 22 = sb + W.length) (hs0 : 0 ≤ sb ∧ sb + W.length ≤ 2400) (hN : W.Nodup) (hW : ∀ x ∈ W, 0 ≤ x ∧ x < 272) (h72 : ∀ (i : Nat) (x : Int), W[i]? = some x → sg_g σ 72 (sb + i) = x) (k : ∀ σ', sg_F [62, 64, 78, 79, 80, 81, 82, 85, 86, 87, 8061, 10061, 11061, 11077, 12077, 13077, 14077, 15077, 16077, 17077, 18077, 19077, 23061, 24061] σ σ' → (¬ sg_g σ' 61 10 = 0 ∨ (mC σ' c ∧ yEx σ σ' ∧ sg_g σ' 61 23 = n ∧ sg_g σ' 61 22 = sb ∧ sg_g σ' 61 7 = t + 1 ∧ yV σ' D (sg_g σ' 64 t) n ∧ (∀ i, i < t → sg_g σ' 64 i = sg_g σ 64 i) ∧ (∀ (i : Nat) (x : Int), W[i]? = some x → sg_g σ' 62 x = sg_g σ 73 (sb + i)) ∧ (∀ x, x ∉ W → sg_g σ' 62 x = sg_g σ 62 x))) → Q σ') : V_fJoin σ a Q := by
  have gg := hm.1
  unfold V_fJoin
  rw [xa_in ha, xa_in ha, xa_in ha, h69, h70, h6]
  refine f_restore ha h71 hs hs0 hN hW h72 (fun σ2 f2 s1 s2 s3 _ σ7 e7 => ?_)
  have f7 : sg_F [24061] σ2 σ7 := by rw [e7]; exact sg_F_w (sg_F_r _ _) rfl _
  have f7' : sg_F [62, 23061, 24061] σ σ7 := sg_F_t (sg_F_m f2 rfl) (sg_F_m f7 rfl)
  refine y_pop (t := t + 1) (by rw [sg_F_g f7' (by rfl)]; omega) (by omega) (fun σ11 f11 t11 _ _ => y_pop (t := t) t11 (by omega) (fun σ17 f17 t17 _ _ => ?_))
  have f17' : sg_F [62, 8061, 23061, 24061] σ σ17 := sg_F_t (sg_F_t (sg_F_m f7' rfl) (sg_F_m f11 rfl)) (sg_F_m f17 rfl)
  rw [show sg_g σ7 64 (t + 1) = sg_g σ 64 (t + 1) from sg_F_ga f7' rfl, show sg_g σ11 64 t = sg_g σ 64 t from by rw [sg_F_ga f11 rfl, sg_F_ga f7' rfl]]
  have ex17 : yEx σ σ17 := yEx_F f17' rfl
  have m17 : mC σ17 c := mC_F hm f17' rfl
  have ar := (yV_r hA).1
  have br := (yV_r hB).1
  have g10 := gg.1
  have n17 : sg_g σ17 61 23 = n := by rw [sg_F_g f17 (by rfl), sg_F_g f11 (by rfl), e7, sg_gw_e _ _ _ _ ⟨by omega, by omega⟩]
  refine ⟨fun m v22 v23 σ24 => ∃ j : Nat, v23 = j ∧ (j : Int) ≤ n ∧ m = n.toNat - j ∧ v22 = cnF σ ch 1 j ∧ yC σ24 j ∧ aC σ24 D 0 (-j), fun σ24 => yC σ24 n ∧ aC σ24 D 0 (-n), ⟨_, 0, rfl, by omega, rfl, rfl, yC_0 m17.2.1, aC_0 m17.2.1 D⟩, ?_, ?_⟩
  · rintro m v22 v23 σ24 r22 r23 f24 ⟨j, rfl, hj, hm', rfl, hC, hAc⟩
    refine ⟨fun z => ⟨yC_m hC (by omega), by rw [show n = j by omega]; exact hAc⟩, fun z => ?_⟩
    have ex24 : yEx σ σ24 := yEx_t ex17 (yEx_F f24 rfl)
    have b1 := cnF_b σ ch 1 j
    have b0 := cnF_b σ ch 0 j
    have e01 := cn_01 σ ch j
    have s1 := cn_s σ ch 1 j
    have s0 := cn_s σ ch 0 j
    have mo1 := cn_mono σ ch 1 (i := j + 1) (j := n.toNat) (by omega)
    have mo0 := cn_mono σ ch 0 (i := j + 1) (j := n.toNat) (by omega)
    refine ⟨ch_p (y_cell gg hch ⟨by omega, z⟩).2, fun v55 σ53 => v55 = cnF σ ch 1 (j + 1) ∧ yC σ53 (j + 1) ∧ aC σ53 D 0 (-(j + 1)), ⟨fun y => ?_, fun y => ?_⟩, fun v55 σ53 r55 f53 h53 => ⟨⟨by omega, by omega⟩, n.toNat - (j + 1), by omega, j + 1, by omega, by omega, rfl, h53.1, h53.2.1, h53.2.2⟩⟩
    · rw [if_pos y] at s1
      rw [if_neg ((ch_01 σ ch j).mp y)] at s0
      refine ⟨⟨by omega, by omega⟩, ⟨by omega, by omega⟩, aC_pick hAc hC (by omega) ⟨by omega, by omega⟩ ⟨by omega, Or.inr ⟨_, yV_up ex24 hB, by omega⟩⟩ ⟨by omega, by omega⟩ (fun σ3 f3 c3 a3 _ => ⟨by omega, c3, ?_⟩)⟩
      rw [show (-(j : Int) - (↑j - cnF σ ch 1 j + 1 - (↑j - cnF σ ch 1 j))) = -((j : Int) + 1) by omega] at a3
      exact a3
    · rw [if_neg y] at s1
      refine ⟨⟨by omega, by omega⟩, aC_pick hAc hC (by omega) ⟨by omega, by omega⟩ ⟨by omega, Or.inr ⟨_, yV_up ex24 hA, by omega⟩⟩ ⟨by omega, by omega⟩ (fun σ3 f3 c3 a3 _ => ⟨by omega, c3, ?_⟩)⟩
      rw [show (-(j : Int) - (cnF σ ch 1 j + 1 - cnF σ ch 1 j)) = -((j : Int) + 1) by omega] at a3
      exact a3
  · rintro σ24 f24 ⟨hC, hAc⟩ σ39 e39
    have f39 : sg_F [10061] σ24 σ39 := by rw [e39]; exact sg_F_w (sg_F_r _ _) rfl _
    obtain ⟨τ, eτ⟩ : ∃ τ, τ = sg_w σ17 61 9 D := ⟨_, rfl⟩
    have fτ : sg_F [10061] σ17 τ := by rw [eτ]; exact sg_F_w (sg_F_r _ _) rfl _
    have d9 : sg_g τ 61 9 = D := by rw [eτ, sg_gw_e _ _ _ _ ⟨by omega, by omega⟩]
    have fx : sg_F acL τ σ39 := by rw [eτ, e39]; exact sg_F_y (sg_F_m f24 rfl) _ _ _
    have hP : fP τ t := by
      obtain ⟨q1, q2, q3, q4, q5⟩ := m17
      exact fP_mk ⟨q1, q2, by omega, q5, by omega⟩ fτ (by rw [sg_F_g fτ (by rfl)]; exact t17) (by omega) rfl
    have fστ : sg_F [62, 8061, 10061, 23061, 24061] σ τ := sg_F_t (sg_F_m f17' rfl) (sg_F_m fτ rfl)
    refine f_give (D := D) (f := 0) (n := n) hP hD d9 (by omega) fx (yC_F hC f39 rfl) (fun z => aC_fd0 (aC_F hAc f39 (yEx_F f39 rfl) rfl) z) (fun σ' f' r' fr => ?_)
    have F2 : sg_F [64, 78, 79, 80, 81, 82, 85, 86, 87, 8061, 10061, 11061, 11077, 12077, 13077, 14077, 15077, 16077, 17077, 18077, 19077] σ17 σ' := sg_F_t (sg_F_t (sg_F_m f24 rfl) (sg_F_m f39 rfl)) (sg_F_m fr rfl)
    refine k σ' (sg_F_t (sg_F_m f17' rfl) (sg_F_m F2 rfl)) ?_
    rcases r' with z | ⟨z1, z2, z3, z4, z5, z6, z7, z8, z9, z10⟩
    · exact Or.inl z
    · right
      have w17 : ∀ q, sg_g τ 77 q = sg_g σ 77 q := fun q => sg_F_ga fστ rfl
      obtain ⟨q1, q2, q3, q4, q5⟩ := hm
      rw [w17] at z8 z9
      refine ⟨⟨z3, z4, z1, by omega, by omega⟩, yEx_t (yEx_F fστ rfl) z2, ?_, ?_, z6, z5, fun i hi => ?_, fun i x hx => ?_, fun x hx => ?_⟩
      · rw [sg_F_g F2 (by rfl)]; exact n17
      · rw [sg_F_g F2 (by rfl), sg_F_g f17 (by rfl), sg_F_g f11 (by rfl), sg_F_g f7 (by rfl)]; exact s1
      · rw [z7 i (by omega), sg_F_ga fστ rfl]
      · rw [sg_F_ga F2 rfl, sg_F_ga f17 rfl, sg_F_ga f11 rfl, sg_F_ga f7 rfl]; exact s2 i x hx
      · rw [sg_F_ga F2 rfl, sg_F_ga f17 rfl, sg_F_ga f11 rfl, sg_F_ga f7 rfl]; exact s3 x hx
end BRN
