/-! branch, fork, turn, join. -/
theorem su_mono {g : Int → Int} {p : Int} (h : ∀ x, 0 ≤ g x) : ∀ {i j : Nat}, i ≤ j → su g p i ≤ su g p j
  | i, 0, hij => by
    have : i = 0 := by omega
    subst this; exact Int.le_refl _
  | i, j + 1, hij => by
    by_cases e : i = j + 1
    · subst e; exact Int.le_refl _
    · have a := su_mono (p := p) h (i := i) (j := j) (by omega)
      have b := h (p + j)
      simp only [su]
      omega
theorem cn_mono (σ : sg_S) (ch w : Int) {i j : Nat} (h : i ≤ j) : cnF σ ch w i ≤ cnF σ ch w j := by
  unfold cnF
  exact su_mono (fun x => by split <;> omega) h
theorem cn_s (σ : sg_S) (ch w : Int) (j : Nat) : cnF σ ch w (j + 1) = cnF σ ch w j + (if v_fChosen σ ch j w = 0 then 0 else 1) := by
  unfold cnF
  simp only [su]
  rw [show (0 : Int) + j = j by omega]
theorem ch_01 (σ : sg_S) (ch l : Int) : v_fChosen σ ch l 1 = 0 ↔ ¬ v_fChosen σ ch l 0 = 0 := by
  unfold v_fChosen
  split <;> simp
theorem cn_01 (σ : sg_S) (ch : Int) : ∀ j : Nat, cnF σ ch 0 j = j - cnF σ ch 1 j
  | 0 => rfl
  | j + 1 => by
    rw [cn_s, cn_s, cn_01 σ ch j]
    by_cases e : v_fChosen σ ch j 1 = 0
    · rw [if_pos e, if_neg ((ch_01 σ ch j).mp e)]; omega
    · rw [if_neg e, if_pos (Decidable.byContradiction fun q => e ((ch_01 σ ch j).mpr q))]; omega
/-- what a part's variables outside are saved as -/
def svd (σ σ' : sg_S) (sv : Int) (W : List Int) : Prop := (∀ (i : Nat) (x : Int), W[i]? = some x → sg_g σ' 72 (sv + i) = x ∧ sg_g σ' 73 (sv + i) = sg_g σ 62 x)
abbrev brL : List Nat := [62, 71, 72, 73, 74, 78, 79, 80, 81, 82, 85, 86, 87, 11061, 11077, 12077, 13077, 14077, 15077, 16077, 17077, 18077, 19077, 22061, 23061, 24061]
/-- after the branch -/
def brR (σ σ' : sg_S) (a sv c m : Int) (W : List Int) : Prop := nrR σ σ' W c m ∧ sg_g σ' 61 23 = m ∧ sg_g σ' 61 22 = sv + W.length ∧ sg_g σ' 71 a = sv ∧ (∀ i, ¬ i = a → sg_g σ' 71 i = sg_g σ 71 i) ∧ svd σ σ' sv W ∧ (∀ i, i < sv → sg_g σ' 72 i = sg_g σ 72 i ∧ sg_g σ' 73 i = sg_g σ 73 i)
theorem sg_F_y {L : List Nat} {σ σ' : sg_S} (f : sg_F L σ σ') (a : Nat) (k z : Int) : sg_F L (sg_w σ a k z) (sg_w σ' a k z) := fun c j hc hk => by
  have := f c j hc hk
  simp only [sg_w]
  exact ⟨by rw [this.1], this.2⟩
section BRN
variable {σ : sg_S} {Q : sg_S → Prop}
theorem mC_F {L : List Nat} {σ' : sg_S} {c : Int} (h : mC σ c) (f : sg_F L σ σ') (hL : (sg_ca L 77 && sg_ca L 80 && sg_ca L 81 && !sg_cv L 61 10) = true) : mC σ' c := by
  simp only [Bool.and_eq_true, Bool.not_eq_true'] at hL
  obtain ⟨⟨⟨l1, l2⟩, l3⟩, l4⟩ := hL
  obtain ⟨h1, h2, h3, h4, h5⟩ := h
  have q : ∀ k, sg_g σ' 77 k = sg_g σ 77 k := fun k => sg_F_ga f l1
  refine ⟨yG_x h1 (q _) (q _) (fun v _ _ => ⟨sg_F_ga f l2, sg_F_ga f l3⟩), ?_, by rw [sg_F_g f l4]; exact h3, by rw [q, q]; exact h4, by rw [q]; exact h5⟩
  unfold y0
  rw [q, q, q, q, q]; exact h2
theorem wnt_F {L : List Nat} {σ' : sg_S} {lo hi bd x : Int} (f : sg_F L σ σ') (hL : (sg_ca L 3 && sg_ca L 16) = true) : wnt σ' lo hi bd x ↔ wnt σ lo hi bd x := by
  simp only [Bool.and_eq_true] at hL
  unfold wnt
  refine ⟨fun ⟨j, a, b, c, d, e⟩ => ⟨j, a, b, ?_, ?_, e⟩, fun ⟨j, a, b, c, d, e⟩ => ⟨j, a, b, ?_, ?_, e⟩⟩
  · rw [sg_F_ga f hL.1] at c; exact c
  · rw [sg_F_ga f hL.2] at d; exact d
  · rw [sg_F_ga f hL.1]; exact c
  · rw [sg_F_ga f hL.2]; exact d
theorem f_branch {a x w lo hi bd n sv c ch : Int} (ha : 0 ≤ a ∧ a < 200) (hx : 0 ≤ x ∧ x < 200) (hm : mC σ c) (hc : 4 ≤ c) (h11 : sg_g σ 11 x = lo) (h12 : sg_g σ 12 x = hi) (hl : 0 ≤ lo ∧ hi < 200) (h16 : sg_g σ 16 a = bd) (h69 : sg_g σ 69 a = n) (hn : 0 ≤ n ∧ n ≤ 6000) (h70 : sg_g σ 70 a = ch) (hch : yRw σ ch n) (hsv : sg_g σ 61 22 = sv) (h0 : 0 ≤ sv ∧ sv ≤ 2400 ∧ sv + (hi - lo + 1) ≤ 2400) (hT : ∀ s, wnt σ lo hi bd s → (0 ≤ s ∧ s < 272) ∧ ∃ d : Nat, d ≤ 3 ∧ sg_g σ 34 s = d ∧ yV σ d (sg_g σ 62 s) n) (k1 : ∀ σ', sg_F brL σ σ' → ¬ sg_g σ' 61 10 = 0 → Q σ') (k2 : ∀ σ' W, sg_F brL σ σ' → W.Nodup → (∀ s, s ∈ W ↔ wnt σ lo hi bd s) → (W.length : Int) ≤ hi - lo + 1 ∨ W = [] → brR σ σ' a sv c (cnF σ ch w n.toNat) W → Q σ') : V_fBranch σ a x w Q := by
  unfold V_fBranch
  rw [xa_in ha, xa_in ha, xa_in ha, h16, h69, h70]
  intro σ1 e1
  have f1 : sg_F [22061] σ σ1 := by rw [e1]; exact sg_F_w (sg_F_r _ _) rfl _
  refine f_want (W0 := []) hx (by rw [sg_F_ga f1 rfl]; exact h11) (by rw [sg_F_ga f1 rfl]; exact h12) hl ⟨by rw [e1, sg_gw_e _ _ _ _ (by decide)]; rfl, fun i y hy => by simp at hy, List.Pairwise.nil⟩ (by simp) (fun σ5 W f5 w5 m5 _ => ?_)
  have f5' : sg_F [74, 22061] σ σ5 := sg_F_t (sg_F_m f1 rfl) f5
  have m5' : ∀ s, s ∈ W ↔ wnt σ lo hi bd s := fun s => by
    rw [m5 s, wnt_F f1 rfl]
    exact ⟨fun q => q.resolve_left (by simp), Or.inr⟩
  have wN := wl_nd w5.2.2
  have wl1 := wit_len (f := sg_g σ 16) (a := lo) (b := hi) wN (fun s hs => by
    obtain ⟨j, q1, q2, q3, q4, q5⟩ := (m5' s).mp hs
    exact ⟨j, q1, q2, q4⟩)
  have wl2 : (W.length : Int) ≤ 200 ∧ sv + W.length ≤ 2400 := by
    rcases wl1 with q | q
    · omega
    · rw [q]; simp only [List.length_nil]; omega
  refine f_save ha w5 (by omega) (fun s hs => (hT s ((m5' s).mp hs)).1) (sv := sv) (by rw [sg_F_g f5' (by rfl)]; exact hsv) (by omega) (fun σ11 f11 s1 s2 s3 s4 s5 _ => ?_)
  have f11' : sg_F [71, 72, 73, 74, 22061, 23061] σ σ11 := sg_F_t (sg_F_m f5' rfl) (sg_F_m f11 rfl)
  have ex11 : yEx σ σ11 := yEx_F f11' rfl
  have w11 : wl σ11 W := ⟨by rw [sg_F_g f11 (by rfl)]; exact w5.1, fun i y hy => by rw [sg_F_ga f11 rfl]; exact w5.2.1 i y hy, w5.2.2⟩
  have cn : cnF σ11 ch w n.toNat = cnF σ ch w n.toNat := cn_up hm.1 (yG_F hm.1 f11' rfl) ex11 hch (by omega)
  refine f_narrow (mC_F hm f11' rfl) hc hn (yRw_up ex11 hch) w11 (by omega) (fun s hs => (hT s ((m5' s).mp hs)).1) (fun s hs => ?_) (fun σ' f' z _ => k1 σ' (sg_F_t (sg_F_m f11' rfl) (sg_F_m f' rfl)) z) (fun σ' f' r' l' _ => ?_)
  · obtain ⟨d, d1, d2, d3⟩ := (hT s ((m5' s).mp hs)).2
    exact ⟨d, d1, by rw [sg_F_ga f11' rfl]; exact d2, by rw [sg_F_ga f11' rfl]; exact yV_up ex11 d3⟩
  · obtain ⟨r1, r2, r3, r4⟩ := r'
    rw [cn] at r3 l'
    refine k2 σ' W (sg_F_t (sg_F_m f11' rfl) (sg_F_m f' rfl)) wN m5' wl1 ⟨⟨r1, yEx_t ex11 r2, fun s hs d hd => r3 s hs d (by rw [sg_F_ga f11' rfl]; exact hd), fun s hs => by rw [r4 s hs, sg_F_ga f11' rfl]⟩, l', by rw [sg_F_g f' (by rfl)]; exact s1, by rw [sg_F_ga f' rfl]; exact s2, fun i hi => by rw [sg_F_ga f' rfl, s3 i hi, sg_F_ga f5' rfl], fun i y hy => ?_, fun i hi => ?_⟩
    · obtain ⟨t1, t2⟩ := s4 i y hy
      exact ⟨by rw [sg_F_ga f' rfl]; exact t1, by rw [sg_F_ga f' rfl, t2, sg_F_ga f5' rfl]⟩
    · obtain ⟨t1, t2⟩ := s5 i hi
      exact ⟨by rw [sg_F_ga f' rfl, t1, sg_F_ga f5' rfl], by rw [sg_F_ga f' rfl, t2, sg_F_ga f5' rfl]⟩
/-- a join of n lanes -/
theorem f_join {W : List Int} {a sb n t c ch : Int} {D : Nat} (ha : 0 ≤ a ∧ a < 200) (hm : mC σ c) (hc : 4 ≤ c) (hD : D ≤ 3) (h6 : sg_g σ 6 a = D) (h69 : sg_g σ 69 a = n) (hn : 0 ≤ n ∧ n ≤ 6000) (h70 : sg_g σ 70 a = ch) (hch : yRw σ ch n) (ht : sg_g σ 61 7 = t + 2) (h0 : 0 ≤ t ∧ t + 2 ≤ 400) (hA : yV σ D (sg_g σ 64 t) (cnF σ ch 1 n.toNat)) (hB : yV σ D (sg_g σ 64 (t + 1)) (cnF σ ch 0 n.toNat)) (h71 : sg_g σ 71 a = sb) (hs : sg_g σ 61 22 = sb + W.length) (hs0 : 0 ≤ sb ∧ sb + W.length ≤ 2400) (hN : W.Nodup) (hW : ∀ x ∈ W, 0 ≤ x ∧ x < 272) (h72 : ∀ (i : Nat) (x : Int), W[i]? = some x → sg_g σ 72 (sb + i) = x) (k : ∀ σ', sg_F [62, 64, 78, 79, 80, 81, 82, 85, 86, 87, 8061, 10061, 11061, 11077, 12077, 13077, 14077, 15077, 16077, 17077, 18077, 19077, 23061, 24061] σ σ' → (¬ sg_g σ' 61 10 = 0 ∨ (mC σ' c ∧ yEx σ σ' ∧ sg_g σ' 61 23 = n ∧ sg_g σ' 61 22 = sb ∧ sg_g σ' 61 7 = t + 1 ∧ yV σ' D (sg_g σ' 64 t) n ∧ (∀ i, i < t → sg_g σ' 64 i = sg_g σ 64 i) ∧ (∀ (i : Nat) (x : Int), W[i]? = some x → sg_g σ' 62 x = sg_g σ 73 (sb + i)) ∧ (∀ x, x ∉ W → sg_g σ' 62 x = sg_g σ 62 x))) → Q σ') : V_fJoin σ a Q := by
  have gg := hm.1
  unfold V_fJoin
  rw [xa_in ha, xa_in ha, xa_in ha, h69, h70, h6]
  refine f_restore ha h71 hs hs0 hN hW h72 (fun σ2 f2 s1 s2 s3 _ σ7 e7 => ?_)
  have f7 : sg_F [24061] σ2 σ7 := by rw [e7]; exact sg_F_w (sg_F_r _ _) rfl _
  have f7' : sg_F [62, 23061, 24061] σ σ7 := sg_F_t (sg_F_m f2 rfl) (sg_F_m f7 rfl)
  refine y_pop (t := t + 1) (by rw [sg_F_g f7' (by rfl)]; omega) (by omega) (fun σ11 f11 t11 _ _ => y_pop (t := t) t11 (by omega) (fun σ17 f17 t17 _ _ => ?_))
  have f17' : sg_F [62, 8061, 23061, 24061] σ σ17 := sg_F_t (sg_F_t (sg_F_m f7' rfl) (sg_F_m f11 rfl)) (sg_F_m f17 rfl)
  rw [show sg_g σ7 64 (t + 1) = sg_g σ 64 (t + 1) from sg_F_ga f7' rfl, show sg_g σ11 64 t = sg_g σ 64 t from by rw [sg_F_ga f11 rfl, sg_F_ga f7' rfl]]
  have ex17 : yEx σ σ17 := yEx_F f17' rfl
  have m17 : mC σ17 c := mC_F hm f17' rfl
  have ar := (yV_r hA).1
  have br := (yV_r hB).1
  have g10 := gg.1
  have n17 : sg_g σ17 61 23 = n := by rw [sg_F_g f17 (by rfl), sg_F_g f11 (by rfl), e7, sg_gw_e _ _ _ _ ⟨by omega, by omega⟩]
  refine ⟨fun m v22 v23 σ24 => ∃ j : Nat, v23 = j ∧ (j : Int) ≤ n ∧ m = n.toNat - j ∧ v22 = cnF σ ch 1 j ∧ yC σ24 j ∧ aC σ24 D 0 (-j), fun σ24 => yC σ24 n ∧ aC σ24 D 0 (-n), ⟨_, 0, rfl, by omega, rfl, rfl, yC_0 m17.2.1, aC_0 m17.2.1 D⟩, ?_, ?_⟩
  · rintro m v22 v23 σ24 r22 r23 f24 ⟨j, rfl, hj, hm', rfl, hC, hAc⟩
    refine ⟨fun z => ⟨yC_m hC (by omega), by rw [show n = j by omega]; exact hAc⟩, fun z => ?_⟩
    have ex24 : yEx σ σ24 := yEx_t ex17 (yEx_F f24 rfl)
    have b1 := cnF_b σ ch 1 j
    have b0 := cnF_b σ ch 0 j
    have e01 := cn_01 σ ch j
    have s1 := cn_s σ ch 1 j
    have s0 := cn_s σ ch 0 j
    have mo1 := cn_mono σ ch 1 (i := j + 1) (j := n.toNat) (by omega)
    have mo0 := cn_mono σ ch 0 (i := j + 1) (j := n.toNat) (by omega)
    refine ⟨ch_p (y_cell gg hch ⟨by omega, z⟩).2, fun v55 σ53 => v55 = cnF σ ch 1 (j + 1) ∧ yC σ53 (j + 1) ∧ aC σ53 D 0 (-(j + 1)), ⟨fun y => ?_, fun y => ?_⟩, fun v55 σ53 r55 f53 h53 => ⟨⟨by omega, by omega⟩, n.toNat - (j + 1), by omega, j + 1, by omega, by omega, rfl, h53.1, h53.2.1, h53.2.2⟩⟩
    · rw [if_pos y] at s1
      rw [if_neg ((ch_01 σ ch j).mp y)] at s0
      refine ⟨⟨by omega, by omega⟩, ⟨by omega, by omega⟩, aC_pick hAc hC (by omega) ⟨by omega, by omega⟩ ⟨by omega, Or.inr ⟨_, yV_up ex24 hB, by omega⟩⟩ ⟨by omega, by omega⟩ (fun σ3 f3 c3 a3 _ => ⟨by omega, c3, ?_⟩)⟩
      rw [show (-(j : Int) - (↑j - cnF σ ch 1 j + 1 - (↑j - cnF σ ch 1 j))) = -((j : Int) + 1) by omega] at a3
      exact a3
    · rw [if_neg y] at s1
      refine ⟨⟨by omega, by omega⟩, aC_pick hAc hC (by omega) ⟨by omega, by omega⟩ ⟨by omega, Or.inr ⟨_, yV_up ex24 hA, by omega⟩⟩ ⟨by omega, by omega⟩ (fun σ3 f3 c3 a3 _ => ⟨by omega, c3, ?_⟩)⟩
      rw [show (-(j : Int) - (cnF σ ch 1 j + 1 - cnF σ ch 1 j)) = -((j : Int) + 1) by omega] at a3
      exact a3
  · rintro σ24 f24 ⟨hC, hAc⟩ σ39 e39
    have f39 : sg_F [10061] σ24 σ39 := by rw [e39]; exact sg_F_w (sg_F_r _ _) rfl _
    obtain ⟨τ, eτ⟩ : ∃ τ, τ = sg_w σ17 61 9 D := ⟨_, rfl⟩
    have fτ : sg_F [10061] σ17 τ := by rw [eτ]; exact sg_F_w (sg_F_r _ _) rfl _
    have d9 : sg_g τ 61 9 = D := by rw [eτ, sg_gw_e _ _ _ _ ⟨by omega, by omega⟩]
    have fx : sg_F acL τ σ39 := by rw [eτ, e39]; exact sg_F_y (sg_F_m f24 rfl) _ _ _
    have hP : fP τ t := by
      obtain ⟨q1, q2, q3, q4, q5⟩ := m17
      exact fP_mk ⟨q1, q2, by omega, q5, by omega⟩ fτ (by rw [sg_F_g fτ (by rfl)]; exact t17) (by omega) rfl
    have fστ : sg_F [62, 8061, 10061, 23061, 24061] σ τ := sg_F_t (sg_F_m f17' rfl) (sg_F_m fτ rfl)
    refine f_give (D := D) (f := 0) (n := n) hP hD d9 (by omega) fx (yC_F hC f39 rfl) (fun z => aC_fd0 (aC_F hAc f39 (yEx_F f39 rfl) rfl) z) (fun σ' f' r' fr => ?_)
    have F2 : sg_F [64, 78, 79, 80, 81, 82, 85, 86, 87, 8061, 10061, 11061, 11077, 12077, 13077, 14077, 15077, 16077, 17077, 18077, 19077] σ17 σ' := sg_F_t (sg_F_t (sg_F_m f24 rfl) (sg_F_m f39 rfl)) (sg_F_m fr rfl)
    refine k σ' (sg_F_t (sg_F_m f17' rfl) (sg_F_m F2 rfl)) ?_
    rcases r' with z | ⟨z1, z2, z3, z4, z5, z6, z7, z8, z9, z10⟩
    · exact Or.inl z
    · right
      have w17 : ∀ q, sg_g τ 77 q = sg_g σ 77 q := fun q => sg_F_ga fστ rfl
      obtain ⟨q1, q2, q3, q4, q5⟩ := hm
      rw [w17] at z8 z9
      refine ⟨⟨z3, z4, z1, by omega, by omega⟩, yEx_t (yEx_F fστ rfl) z2, ?_, ?_, z6, z5, fun i hi => ?_, fun i x hx => ?_, fun x hx => ?_⟩
      · rw [sg_F_g F2 (by rfl)]; exact n17
      · rw [sg_F_g F2 (by rfl), sg_F_g f17 (by rfl), sg_F_g f11 (by rfl), sg_F_g f7 (by rfl)]; exact s1
      · rw [z7 i (by omega), sg_F_ga fστ rfl]
      · rw [sg_F_ga F2 rfl, sg_F_ga f17 rfl, sg_F_ga f11 rfl, sg_F_ga f7 rfl]; exact s2 i x hx
      · rw [sg_F_ga F2 rfl, sg_F_ga f17 rfl, sg_F_ga f11 rfl, sg_F_ga f7 rfl]; exact s3 x hx
end BRN
/-! fork, turn, open. -/
section FRK
variable {σ : sg_S} {Q : sg_S → Prop}
theorem cn_F {L : List Nat} {σ' : sg_S} (f : sg_F L σ σ') (hL : (sg_ca L 78 && sg_ca L 80) = true) (ch w : Int) (n : Nat) : cnF σ' ch w n = cnF σ ch w n := by
  simp only [Bool.and_eq_true] at hL
  have e : ∀ l, v_fChosen σ' ch l w = v_fChosen σ ch l w := fun l => by
    unfold v_fChosen v_lCell
    rw [sg_F_ga f hL.2, sg_F_ga f hL.1]
  unfold cnF
  exact su_sh (fun j hj => by rw [e])
theorem f_fork {a x lo hi bd n sv c t : Int} (ha : 0 ≤ a ∧ a < 200) (hx : 0 ≤ x ∧ x < 200) (h2 : v_tSecond σ a = x) (hm : mC σ c) (hc : 4 ≤ c) (ht : sg_g σ 61 7 = t + 1) (h0 : 0 ≤ t ∧ t < 400) (h11 : sg_g σ 11 x = lo) (h12 : sg_g σ 12 x = hi) (hl : 0 ≤ lo ∧ hi < 200) (h16 : sg_g σ 16 a = bd) (h69 : sg_g σ 69 a = n) (hn : 0 ≤ n ∧ n ≤ 6000) (hch : yRw σ (sg_g σ 64 t) n) (hsv : sg_g σ 61 22 = sv) (hs0 : 0 ≤ sv ∧ sv ≤ 2400 ∧ sv + (hi - lo + 1) ≤ 2400) (hT : ∀ s, wnt σ lo hi bd s → (0 ≤ s ∧ s < 272) ∧ ∃ d : Nat, d ≤ 3 ∧ sg_g σ 34 s = d ∧ yV σ d (sg_g σ 62 s) n) (k1 : ∀ σ', sg_F (70 :: 8061 :: brL) σ σ' → ¬ sg_g σ' 61 10 = 0 → Q σ') (k2 : ∀ σ' W, sg_F (70 :: 8061 :: brL) σ σ' → W.Nodup → (∀ s, s ∈ W ↔ wnt σ lo hi bd s) → (W.length : Int) ≤ hi - lo + 1 ∨ W = [] → brR σ σ' a sv c (cnF σ (sg_g σ 64 t) 1 n.toNat) W → sg_g σ' 61 7 = t → sg_g σ' 70 a = sg_g σ 64 t → (∀ i, ¬ i = a → sg_g σ' 70 i = sg_g σ 70 i) → Q σ') : V_fFork σ a Q := by
  unfold V_fFork
  rw [h2]
  refine y_pop ht h0 (fun σ2 f2 t2 _ _ σ7 e7 => ?_)
  rw [xp_in ha] at e7
  have f7 : sg_F [70] σ2 σ7 := by rw [e7]; exact sg_F_w (sg_F_r _ _) rfl _
  have F7 : sg_F [70, 8061] σ σ7 := sg_F_t (sg_F_m f2 rfl) (sg_F_m f7 rfl)
  have g70 : sg_g σ7 70 a = sg_g σ 64 t := by rw [e7, sg_gw_e _ _ _ _ (sg_Rg _ _ _)]
  have ex7 : yEx σ σ7 := yEx_F F7 rfl
  refine f_branch (lo := lo) (hi := hi) (bd := bd) (n := n) (sv := sv) ha hx (mC_F hm F7 rfl) hc (by rw [sg_F_ga F7 rfl]; exact h11) (by rw [sg_F_ga F7 rfl]; exact h12) hl (by rw [sg_F_ga F7 rfl]; exact h16) (by rw [sg_F_ga F7 rfl]; exact h69) hn g70 (yRw_up ex7 hch) (by rw [sg_F_g F7 (by rfl)]; exact hsv) hs0 (fun s hs => ?_) (fun σ' f' z _ => k1 σ' (sg_F_t (sg_F_m F7 rfl) (sg_F_m f' rfl)) z) (fun σ' W f' wN wm wl r' _ => ?_)
  · obtain ⟨q1, d, q2, q3, q4⟩ := hT s ((wnt_F F7 rfl).mp hs)
    exact ⟨q1, d, q2, by rw [sg_F_ga F7 rfl]; exact q3, by rw [sg_F_ga F7 rfl]; exact yV_up ex7 q4⟩
  · obtain ⟨⟨r1, r2, r3, r4⟩, r5, r6, r7, r8, r9, r10⟩ := r'
    rw [cn_F F7 rfl] at r3 r5
    refine k2 σ' W (sg_F_t (sg_F_m F7 rfl) (sg_F_m f' rfl)) wN (fun s => by rw [wm s, wnt_F F7 rfl]) wl ⟨⟨r1, yEx_t ex7 r2, fun s hs d hd => r3 s hs d (by rw [sg_F_ga F7 rfl]; exact hd), fun s hs => by rw [r4 s hs, sg_F_ga F7 rfl]⟩, r5, r6, r7, fun i hi => by rw [r8 i hi, sg_F_ga F7 rfl], fun i y hy => ?_, fun i hi => ?_⟩ ?_ ?_ (fun i hi => ?_)
    · obtain ⟨u1, u2⟩ := r9 i y hy
      exact ⟨u1, by rw [u2, sg_F_ga F7 rfl]⟩
    · obtain ⟨u1, u2⟩ := r10 i hi
      exact ⟨by rw [u1, sg_F_ga F7 rfl], by rw [u2, sg_F_ga F7 rfl]⟩
    · rw [sg_F_g f' (by rfl), sg_F_g f7 (by rfl)]; exact t2
    · rw [sg_F_ga f' rfl]; exact g70
    · rw [sg_F_ga f' rfl, e7, sg_gw_k _ _ _ _ _ _ hi, sg_F_ga f2 rfl]
theorem f_turn {W1 : List Int} {a x lo hi bd n sv c ch : Int} (ha : 0 ≤ a ∧ a < 200) (hx : 0 ≤ x ∧ x < 200) (h8 : sg_g σ 8 a = x) (hm : mC σ c) (hc : 4 ≤ c) (h11 : sg_g σ 11 x = lo) (h12 : sg_g σ 12 x = hi) (hl : 0 ≤ lo ∧ hi < 200) (h16 : sg_g σ 16 a = bd) (h69 : sg_g σ 69 a = n) (hn : 0 ≤ n ∧ n ≤ 6000) (h70 : sg_g σ 70 a = ch) (hch : yRw σ ch n) (h71 : sg_g σ 71 a = sv) (hsv : sg_g σ 61 22 = sv + W1.length) (hs0 : 0 ≤ sv ∧ sv ≤ 2400 ∧ sv + (hi - lo + 1) ≤ 2400 ∧ sv + W1.length ≤ 2400) (hN : W1.Nodup) (hW : ∀ x ∈ W1, 0 ≤ x ∧ x < 272) (h72 : ∀ (i : Nat) (x : Int), W1[i]? = some x → sg_g σ 72 (sv + i) = x) (hT : ∀ σ2, sg_F [62, 23061] σ σ2 → (∀ (i : Nat) (x : Int), W1[i]? = some x → sg_g σ2 62 x = sg_g σ 73 (sv + i)) → (∀ x, x ∉ W1 → sg_g σ2 62 x = sg_g σ 62 x) → ∀ s, wnt σ lo hi bd s → (0 ≤ s ∧ s < 272) ∧ ∃ d : Nat, d ≤ 3 ∧ sg_g σ 34 s = d ∧ yV σ d (sg_g σ2 62 s) n) (k1 : ∀ σ', sg_F brL σ σ' → ¬ sg_g σ' 61 10 = 0 → Q σ') (k2 : ∀ σ2 σ' W, sg_F brL σ σ' → sg_F [62, 23061] σ σ2 → (∀ (i : Nat) (x : Int), W1[i]? = some x → sg_g σ2 62 x = sg_g σ 73 (sv + i)) → (∀ x, x ∉ W1 → sg_g σ2 62 x = sg_g σ 62 x) → W.Nodup → (∀ s, s ∈ W ↔ wnt σ lo hi bd s) → (W.length : Int) ≤ hi - lo + 1 ∨ W = [] → brR σ2 σ' a sv c (cnF σ ch 0 n.toNat) W → Q σ') : V_fTurn σ a Q := by
  unfold V_fTurn
  rw [xa_in ha, h8]
  refine f_restore ha h71 hsv (by omega) hN hW h72 (fun σ2 f2 s1 s2 s3 _ => ?_)
  have ex2 : yEx σ σ2 := yEx_F f2 rfl
  refine f_branch (lo := lo) (hi := hi) (bd := bd) (n := n) (sv := sv) ha hx (mC_F hm f2 rfl) hc (by rw [sg_F_ga f2 rfl]; exact h11) (by rw [sg_F_ga f2 rfl]; exact h12) hl (by rw [sg_F_ga f2 rfl]; exact h16) (by rw [sg_F_ga f2 rfl]; exact h69) hn (by rw [sg_F_ga f2 rfl]; exact h70) (yRw_up ex2 hch) s1 (by omega) (fun s hs => ?_) (fun σ' f' z _ => k1 σ' (sg_F_t (sg_F_m f2 rfl) (sg_F_m f' rfl)) z) (fun σ' W f' wN wm wl r' _ => k2 σ2 σ' W (sg_F_t (sg_F_m f2 rfl) (sg_F_m f' rfl)) f2 s2 s3 wN (fun s => by rw [wm s, wnt_F f2 rfl]) wl (by rw [cn_F f2 rfl] at r'; exact r'))
  obtain ⟨q1, d, q2, q3, q4⟩ := hT σ2 f2 s2 s3 s ((wnt_F f2 rfl).mp hs)
  exact ⟨q1, d, q2, by rw [sg_F_ga f2 rfl]; exact q3, yV_up ex2 q4⟩
theorem f_asLong {Q : Int → sg_S → Prop} {g n t : Int} (gg : yG σ) (hg : 1 ≤ g ∧ g ≤ 4) (hn : 0 ≤ n) (h23 : sg_g σ 61 23 = n) (ht : sg_g σ 61 7 = t) (h0 : 0 ≤ t ∧ t + g ≤ 400) (hv : ∀ i : Nat, (i : Int) < g → yRw σ (sg_g σ 64 (t + i)) n) (k0 : Q 0 σ) (k1 : (∀ (i j : Nat), (i : Int) < g → (j : Int) < n → v_lCell σ (sg_g σ 64 (t + i)) j = v_lCell σ (sg_g σ 64 t) j) → Q 1 σ) : V_fAsLong σ g Q := by
  unfold V_fAsLong
  rw [h23, ht, xa_in (a := 64) ⟨by omega, by omega⟩]
  have v0 := hv 0 (by omega)
  rw [show t + ((0 : Nat) : Int) = t by omega] at v0
  refine ⟨fun m v => ∃ j : Nat, v = j ∧ (j : Int) ≤ n ∧ m = n.toNat - j ∧ ∀ (i j' : Nat), (i : Int) < g → j' < j → v_lCell σ (sg_g σ 64 (t + i)) j' = v_lCell σ (sg_g σ 64 t) j', ∀ (i j : Nat), (i : Int) < g → (j : Int) < n → v_lCell σ (sg_g σ 64 (t + i)) j = v_lCell σ (sg_g σ 64 t) j, ⟨_, 0, rfl, by omega, rfl, fun i j' _ h => by omega⟩, ?_, k1⟩
  rintro m v rv ⟨j, rfl, hj, hm, hI⟩
  refine ⟨fun z i j' hi hj' => hI i j' hi (by omega), fun z => ⟨(y_cell gg v0 ⟨by omega, z⟩).2, fun m2 v19 => ∃ i : Nat, v19 = i ∧ 1 ≤ i ∧ (i : Int) ≤ g ∧ m2 = 4 - i ∧ ∀ i' : Nat, i' < i → v_lCell σ (sg_g σ 64 (t + i')) j = v_lCell σ (sg_g σ 64 t) j, ∀ i : Nat, (i : Int) < g → v_lCell σ (sg_g σ 64 (t + i)) j = v_lCell σ (sg_g σ 64 t) j, ⟨_, 1, rfl, by omega, by omega, rfl, fun i' hi' => by rw [show i' = 0 by omega, show t + ((0 : Nat) : Int) = t by omega]⟩, ?_, fun hX => ⟨⟨by omega, by have := rv.2; have := gg.2.1; have := v0.2.2.2; omega⟩, n.toNat - (j + 1), by omega, j + 1, by omega, by omega, rfl, fun i j' hi hj' => ?_⟩⟩⟩
  · rintro m2 v19 r19 ⟨i, rfl, i1, i2, hm2, hI2⟩
    refine ⟨fun y i' hi' => hI2 i' (by omega), fun y => ⟨fun y2 i' hi' => hI2 i' (by omega), fun y2 => ?_⟩⟩
    rw [xa_in (a := 64) ⟨by omega, by omega⟩]
    refine ⟨⟨by omega, by omega⟩, (y_cell gg (hv i y) ⟨by omega, z⟩).2, fun e => ⟨⟨by omega, by omega⟩, 4 - (i + 1), by omega, i + 1, by omega, by omega, by omega, rfl, fun i' hi' => ?_⟩, fun _ => k0⟩
    by_cases q : i' = i
    · rw [q]; exact e
    · exact hI2 i' (by omega)
  · by_cases q : j' = j
    · rw [q]; exact hX i hi
    · exact hI i j' hi (by omega)
end FRK
/-! open. -/
abbrev onL : List Nat := [62, 70, 71, 72, 73, 74, 78, 79, 80, 81, 82, 85, 86, 87, 8061, 11061, 11077, 12077, 13077, 14077, 15077, 16077, 17077, 18077, 19077, 22061, 23061, 24061]
def opU (σ : sg_S) (lo hi gd glo ghi bd s : Int) : Prop := wnt σ lo hi bd s ∨ (0 ≤ gd ∧ wnt σ glo ghi bd s)
theorem opU_F {L : List Nat} {σ σ' : sg_S} {lo hi gd glo ghi bd s : Int} (f : sg_F L σ σ') (hL : (sg_ca L 3 && sg_ca L 16) = true) : opU σ' lo hi gd glo ghi bd s ↔ opU σ lo hi gd glo ghi bd s := by
  unfold opU
  rw [wnt_F f hL, wnt_F f hL]
/-- after open -/
def opR2 (σ σ' : sg_S) (a g n t sv c bd : Int) (dg : Nat → Nat) (W : List Int) (m : Int) : Prop := mC σ' c ∧ yEx σ σ' ∧ (∀ s ∈ W, ∀ d : Nat, sg_g σ 34 s = d → yV σ' d (sg_g σ' 62 s) m) ∧ (∀ i : Nat, (i : Int) < g → yV σ' (dg i) (sg_g σ' 62 (bd + i)) m) ∧ (∀ s, s ∉ W → ¬ (bd ≤ s ∧ s < bd + g) → sg_g σ' 62 s = sg_g σ 62 s) ∧ sg_g σ' 61 23 = m ∧ sg_g σ' 61 7 = t ∧ sg_g σ' 70 a = sg_g σ 64 t ∧ (∀ i, ¬ i = a → sg_g σ' 70 i = sg_g σ 70 i) ∧ sg_g σ' 61 22 = sv + W.length ∧ sg_g σ' 71 a = sv ∧ (∀ i, ¬ i = a → sg_g σ' 71 i = sg_g σ 71 i) ∧ svd σ σ' sv W ∧ (∀ i, i < sv → sg_g σ' 72 i = sg_g σ 72 i ∧ sg_g σ' 73 i = sg_g σ 73 i)
section OPN2
variable {σ : sg_S} {Q : sg_S → Prop}
theorem f_open {a g n t sv c bd lo hi gd glo ghi plo phi x : Int} {dg : Nat → Nat} (ha : 0 ≤ a ∧ a < 200) (hx : 0 ≤ x ∧ x < 200) (h13 : sg_g σ 13 a = g) (hg : 1 ≤ g ∧ g ≤ 4) (h8 : sg_g σ 8 a = x) (h11 : sg_g σ 11 x = lo) (h12 : sg_g σ 12 x = hi) (h14 : sg_g σ 14 a = gd) (hgd : 0 ≤ gd → gd < 200 ∧ sg_g σ 11 gd = glo ∧ sg_g σ 12 gd = ghi ∧ plo ≤ glo ∧ ghi ≤ phi) (hpp : plo ≤ lo ∧ hi ≤ phi ∧ 0 ≤ plo ∧ phi < 200) (h16 : sg_g σ 16 a = bd) (hbd : 0 ≤ bd ∧ bd + g ≤ 272) (hm : mC σ c) (hc : 4 ≤ c) (ht : sg_g σ 61 7 = t + g) (h0 : 0 ≤ t ∧ t + g ≤ 400) (h23 : sg_g σ 61 23 = n) (hn : 0 ≤ n ∧ n ≤ 6000) (hv : ∀ i : Nat, (i : Int) < g → yV σ (dg i + 1) (sg_g σ 64 (t + i)) n) (hsv : sg_g σ 61 22 = sv) (hs0 : 0 ≤ sv ∧ sv ≤ 2400 ∧ sv + (phi - plo + 1) ≤ 2400) (hT : ∀ s, opU σ lo hi gd glo ghi bd s → (0 ≤ s ∧ s < 272) ∧ ∃ d : Nat, d ≤ 3 ∧ sg_g σ 34 s = d ∧ yV σ d (sg_g σ 62 s) n) (k1 : ∀ σ', sg_F onL σ σ' → ¬ sg_g σ' 61 10 = 0 → Q σ') (k2 : ∀ σ' W, sg_F onL σ σ' → W.Nodup → (∀ s, s ∈ W ↔ opU σ lo hi gd glo ghi bd s) → (W.length : Int) ≤ phi - plo + 1 ∨ W = [] → opR2 σ σ' a g n t sv c bd dg W (su (sg_g σ 78) (sg_g σ 80 (sg_g σ 64 t)) n.toNat) → Q σ') : V_fOpen σ a Q := by
  have v0 := hv 0 (by omega)
  rw [show t + ((0 : Nat) : Int) = t by omega] at v0
  generalize hM : su (sg_g σ 78) (sg_g σ 80 (sg_g σ 64 t)) n.toNat = M at *
  unfold V_fOpen
  rw [xa_in (a := 13) ha, xa_in (a := 8) ha, xa_in (a := 14) ha, xa_in (a := 16) ha, h13, h8, h14, h16, ht, show t + g - g = t by omega, xa_in (a := 64) ⟨by omega, by omega⟩]
  refine ⟨⟨by omega, by omega⟩, fun σ2 e2 => ?_⟩
  have f2 : sg_F [8061] σ σ2 := by rw [e2]; exact sg_F_w (sg_F_r _ _) rfl _
  have t2 : sg_g σ2 61 7 = t := by rw [e2, sg_gw_e _ _ _ _ ⟨by omega, by omega⟩]
  have ex2 : yEx σ σ2 := yEx_F f2 rfl
  have g2 : yG σ2 := yG_F hm.1 f2 rfl
  refine f_asLong g2 hg hn.1 (by rw [sg_F_g f2 (by rfl)]; exact h23) t2 h0 (fun i hi => by rw [sg_F_ga f2 rfl]; exact yRw_up ex2 (yV_r (hv i hi))) (fun _ => ⟨fun z => absurd rfl z, fun _ σ80 e80 => ?_⟩) (fun hsame _ => ⟨fun _ σ12 e12 σ15 e15 => ?_, fun z => absurd z (by decide)⟩)
  · refine k1 σ80 (sg_F_t (sg_F_m f2 rfl) (by rw [e80]; exact sg_F_w (sg_F_r _ _) rfl _)) ?_
    rw [e80, sg_gw_e _ _ _ _ (by decide)]; decide
  · rw [xp_in ha] at e12
    have f12 : sg_F [70] σ2 σ12 := by rw [e12]; exact sg_F_w (sg_F_r _ _) rfl _
    have g70 : sg_g σ12 70 a = sg_g σ 64 t := by rw [e12, sg_gw_e _ _ _ _ (sg_Rg _ _ _)]
    have f15 : sg_F [22061] σ12 σ15 := by rw [e15]; exact sg_F_w (sg_F_r _ _) rfl _
    have F15 : sg_F [70, 8061, 22061] σ σ15 := sg_F_t (sg_F_t (sg_F_m f2 rfl) (sg_F_m f12 rfl)) (sg_F_m f15 rfl)
    rw [xa_in (a := 70) ha, g70]
    refine f_want (W0 := []) (lo := lo) (hi := hi) hx (by rw [sg_F_ga F15 rfl]; exact h11) (by rw [sg_F_ga F15 rfl]; exact h12) (by omega) ⟨by rw [e15, sg_gw_e _ _ _ _ (by decide)]; rfl, fun i y hy => by simp at hy, List.Pairwise.nil⟩ (by simp) (fun σ19 W1 f19 w19 m19 _ => ?_)
    have F19 : sg_F [70, 74, 8061, 22061] σ σ19 := sg_F_t (sg_F_m F15 rfl) (sg_F_m f19 rfl)
    have m19' : ∀ s, s ∈ W1 ↔ wnt σ lo hi bd s := fun s => by
      rw [m19 s, wnt_F F15 rfl]
      exact ⟨fun q => q.resolve_left (by simp), Or.inr⟩
    refine ⟨fun σ27 => ∃ W, wl σ27 W ∧ ∀ s, s ∈ W ↔ opU σ lo hi gd glo ghi bd s, ⟨fun z => ⟨W1, w19, fun s => by rw [m19' s]; unfold opU; exact ⟨Or.inl, fun q => q.resolve_right (fun r => by omega)⟩⟩, fun z => ?_⟩, ?_⟩
    · obtain ⟨z1, z2, z3, z4, z5⟩ := hgd z
      refine f_want (W0 := W1) (lo := glo) (hi := ghi) ⟨z, z1⟩ (by rw [sg_F_ga F19 rfl]; exact z2) (by rw [sg_F_ga F19 rfl]; exact z3) (by omega) w19 (fun s hs => ?_) (fun σ75 W f75 w75 m75 _ => ⟨W, w75, fun s => ?_⟩)
      · obtain ⟨j, q1, q2, q3, q4, q5⟩ := (m19' s).mp hs
        exact ⟨j, by omega, by omega, by rw [sg_F_ga F19 rfl]; exact q4⟩
      · rw [m75 s, m19' s, wnt_F F19 rfl]
        unfold opU
        exact ⟨fun q => q.imp id (fun r => ⟨z, r⟩), fun q => q.imp id (fun r => r.2)⟩
    · rintro σ27 f27 ⟨W, w27, m27⟩
      have F27 : sg_F [70, 74, 8061, 22061] σ σ27 := sg_F_t F19 (sg_F_m f27 rfl)
      have wN := wl_nd w27.2.2
      have wl1 := wit_len (f := sg_g σ 16) (a := plo) (b := phi) wN (fun s hs => by
        rcases (m27 s).mp hs with ⟨j, q1, q2, q3, q4, q5⟩ | ⟨z, j, q1, q2, q3, q4, q5⟩
        · exact ⟨j, by omega, by omega, q4⟩
        · have := hgd z
          exact ⟨j, by omega, by omega, q4⟩)
      have wl2 : (W.length : Int) ≤ 200 ∧ sv + W.length ≤ 2400 := by
        rcases wl1 with q | q
        · omega
        · rw [q]; simp only [List.length_nil]; omega
      have wbd : ∀ s ∈ W, s < bd := fun s hs => by
        rcases (m27 s).mp hs with ⟨j, q1, q2, q3, q4, q5⟩ | ⟨z, j, q1, q2, q3, q4, q5⟩ <;> exact q5
      refine f_save ha w27 (by omega) (fun s hs => (hT s ((m27 s).mp hs)).1) (sv := sv) (by rw [sg_F_g F27 (by rfl)]; exact hsv) (by omega) (fun σ31 f31 s1 s2 s3 s4 s5 _ => ?_)
      have F31 : sg_F [70, 71, 72, 73, 74, 8061, 22061, 23061] σ σ31 := sg_F_t (sg_F_m F27 rfl) (sg_F_m f31 rfl)
      have ex31 : yEx σ σ31 := yEx_F F31 rfl
      have w31 : wl σ31 W := ⟨by rw [sg_F_g f31 (by rfl)]; exact w27.1, fun i y hy => by rw [sg_F_ga f31 rfl]; exact w27.2.1 i y hy, w27.2.2⟩
      -- the slots of the generators, and the lanes
      have fin : ∀ σ37, sg_F nrL σ31 σ37 → (¬ sg_g σ37 61 10 = 0 ∨ nrR σ31 σ37 W c M) → (∃ (I45 : Nat → Int → sg_S → Prop) (X47 : sg_S → Prop), (∃ n, I45 n (0) σ37) ∧ (∀ (n55 : Nat) (v42 : Int) (σ43 : sg_S), sg_R v42 → sg_F [62] σ37 σ43 → I45 n55 v42 σ43 → ((g ≤ v42 → X47 σ43) ∧ (v42 < g → ((4 ≤ v42 → X47 σ43) ∧ (v42 < 4 → sg_R (bd + v42) ∧ sg_R (t + v42) ∧ p_lItems σ37 ((sx_at σ 64 400 (t + v42))) ∧ ∀ σ69, σ69 = (sx_put σ43 62 272 (bd + v42) ((v_lItems σ37 ((sx_at σ 64 400 (t + v42)))))) → sg_R (v42 + 1) ∧ (∃ m, m < n55 ∧ I45 m ((v42 + 1)) σ69)))))) ∧ (∀ (σ43 : sg_S), sg_F [62] σ37 σ43 → X47 σ43 → p_lItems σ37 (sg_g σ 64 t) ∧ ∀ σ60, σ60 = (sg_w σ43 61 23 ((v_lSize σ37 ((v_lItems σ37 (sg_g σ 64 t)))))) → Q σ60)) := by
        intro σ37 f37 h37
        have F37 : sg_F onL σ σ37 := sg_F_t (sg_F_m F31 rfl) (sg_F_m f37 rfl)
        refine ⟨fun m v σ43 => ∃ j : Nat, v = j ∧ (j : Int) ≤ g ∧ m = 4 - j ∧ (∀ i : Nat, i < j → sg_g σ43 62 (bd + i) = v_lItems σ37 (sg_g σ 64 (t + i))) ∧ (∀ s, ¬ (bd ≤ s ∧ s < bd + j) → sg_g σ43 62 s = sg_g σ37 62 s), fun σ43 => (∀ i : Nat, (i : Int) < g → sg_g σ43 62 (bd + i) = v_lItems σ37 (sg_g σ 64 (t + i))) ∧ (∀ s, ¬ (bd ≤ s ∧ s < bd + g) → sg_g σ43 62 s = sg_g σ37 62 s), ⟨_, 0, rfl, by omega, rfl, fun i hi => by omega, fun s _ => rfl⟩, ?_, ?_⟩
        · rintro m v σ43 rv f43 ⟨j, rfl, hj, hm', q1, q2⟩
          refine ⟨fun z => ⟨fun i hi => q1 i (by omega), fun s hs => q2 s (by omega)⟩, fun z => ⟨fun y => by omega, fun y => ⟨⟨by omega, by omega⟩, ⟨by omega, by omega⟩, y_pitems _ _, fun σ69 e69 => ?_⟩⟩⟩
          rw [xa_in ⟨by omega, by omega⟩, xp_in ⟨by omega, by omega⟩] at e69
          have ri : sg_R (v_lItems σ37 (sg_g σ 64 (t + j))) := by
            unfold v_lItems
            repeat' split
            all_goals first | exact sg_Rg _ _ _ | decide
          refine ⟨⟨by omega, by omega⟩, 4 - (j + 1), by omega, j + 1, by omega, by omega, rfl, fun i hi => ?_, fun s hs => ?_⟩
          · rw [e69]
            by_cases e : i = j
            · subst e; rw [sg_gw_e _ _ _ _ ri]
            · rw [sg_gw_k _ _ _ _ _ _ (by omega)]; exact q1 i (by omega)
          · rw [e69, sg_gw_k _ _ _ _ _ _ (by omega)]; exact q2 s (by omega)
        · rintro σ43 f43 ⟨q1, q2⟩
          refine ⟨y_pitems _ _, fun σ60 e60 => ?_⟩
          have f60 : sg_F [24061] σ43 σ60 := by rw [e60]; exact sg_F_w (sg_F_r _ _) rfl _
          have f3760 : sg_F [62, 24061] σ37 σ60 := sg_F_t (sg_F_m f43 rfl) (sg_F_m f60 rfl)
          have F60 : sg_F onL σ σ60 := sg_F_t F37 (sg_F_m f3760 rfl)
          rcases h37 with z | ⟨r1, r2, r3, r4⟩
          · exact k1 σ60 F60 (by rw [sg_F_g f3760 (by rfl)]; exact z)
          · have ex37 : yEx σ σ37 := yEx_t ex31 r2
            have ex60 : yEx σ37 σ60 := yEx_F f3760 rfl
            have v0' := yV_up ex37 v0
            have it0 := y_it r1.1 v0'
            have su0 : ∀ i : Nat, (i : Int) < g → su (sg_g σ37 78) (sg_g σ37 80 (sg_g σ 64 (t + i))) n.toNat = M := fun i hi => by
              rw [ysu_up ex37 (yV_r (hv i hi)) (by omega), ← hM]
              refine su_sh (fun j hj => ?_)
              have := hsame i j hi (by omega)
              rw [sg_F_ga f2 rfl, sg_F_ga f2 rfl] at this
              rw [(y_cell g2 (yRw_up ex2 (yV_r (hv i hi))) ⟨by omega, by omega⟩).1, (y_cell g2 (yRw_up ex2 (yV_r v0)) ⟨by omega, by omega⟩).1] at this
              rw [sg_F_ga (a := 80) f2 rfl, sg_F_ga (a := 80) f2 rfl, sg_F_ga (a := 78) f2 rfl, sg_F_ga (a := 78) f2 rfl] at this
              exact this
            have hM0 := su0 0 (by omega)
            rw [show t + ((0 : Nat) : Int) = t by omega] at hM0
            rw [hM0] at it0
            have gi := r1.1.1
            have i0r := yV_r it0
            have sz : v_lSize σ37 (v_lItems σ37 (sg_g σ 64 t)) = M := by
              unfold v_lSize
              rw [xa_in ⟨i0r.1.1, by have := i0r.1.2; omega⟩]; exact i0r.2.1
            have M6 : 0 ≤ M ∧ M ≤ 6000 := by
              have := i0r.2.2
              have := r1.1.2.1
              omega
            refine k2 σ60 W F60 wN m27 wl1 ⟨mC_F r1 f3760 rfl, yEx_t ex37 ex60, fun s hs d hd => ?_, fun i hi => ?_, fun s hs hs2 => ?_, ?_, ?_, ?_, fun i hi => ?_, ?_, ?_, fun i hi => ?_, fun i y hy => ?_, fun i hi => ?_⟩
            · have sb := wbd s hs
              rw [sg_F_ga f60 rfl, q2 s (by omega)]
              exact yV_up ex60 (r3 s hs d (by rw [sg_F_ga F31 rfl]; exact hd))
            · rw [sg_F_ga f60 rfl, q1 i hi]
              have := y_it r1.1 (yV_up ex37 (hv i hi))
              rw [su0 i hi] at this
              exact yV_up ex60 this
            · rw [sg_F_ga f60 rfl, q2 s hs2, r4 s hs, sg_F_ga F31 rfl]
            · rw [e60, sz, sg_gw_e _ _ _ _ ⟨by omega, by omega⟩]
            · rw [sg_F_g f3760 (by rfl), sg_F_g f37 (by rfl), sg_F_g f31 (by rfl), sg_F_g f27 (by rfl), sg_F_g f19 (by rfl), sg_F_g f15 (by rfl), sg_F_g f12 (by rfl)]; exact t2
            · rw [sg_F_ga f3760 rfl, sg_F_ga f37 rfl, sg_F_ga f31 rfl, sg_F_ga f27 rfl, sg_F_ga f19 rfl, sg_F_ga f15 rfl]; exact g70
            · rw [sg_F_ga f3760 rfl, sg_F_ga f37 rfl, sg_F_ga f31 rfl, sg_F_ga f27 rfl, sg_F_ga f19 rfl, sg_F_ga f15 rfl, e12, sg_gw_k _ _ _ _ _ _ hi, sg_F_ga f2 rfl]
            · rw [sg_F_g f3760 (by rfl), sg_F_g f37 (by rfl)]; exact s1
            · rw [sg_F_ga f3760 rfl, sg_F_ga f37 rfl]; exact s2
            · rw [sg_F_ga f3760 rfl, sg_F_ga f37 rfl, s3 i hi, sg_F_ga F27 rfl]
            · obtain ⟨u1, u2⟩ := s4 i y hy
              exact ⟨by rw [sg_F_ga f3760 rfl, sg_F_ga f37 rfl]; exact u1, by rw [sg_F_ga f3760 rfl, sg_F_ga f37 rfl, u2, sg_F_ga F27 rfl]⟩
            · obtain ⟨u1, u2⟩ := s5 i hi
              exact ⟨by rw [sg_F_ga f3760 rfl, sg_F_ga f37 rfl, u1, sg_F_ga F27 rfl], by rw [sg_F_ga f3760 rfl, sg_F_ga f37 rfl, u2, sg_F_ga F27 rfl]⟩
      have hM31 : su (sg_g σ31 78) (sg_g σ31 80 (sg_g σ 64 t)) n.toNat = M := by rw [← hM]; exact ysu_up ex31 (yV_r v0) (by omega)
      refine f_spread (mC_F hm F31 rfl) hc hn (by rw [sg_F_g F31 (by rfl)]; exact h23) (yV_up ex31 v0) w31 (by omega) (fun s hs => (hT s ((m27 s).mp hs)).1) (fun s hs => ?_) (fun σ37 f37 z _ => fin σ37 f37 (Or.inl z)) (fun σ37 f37 z _ => fin σ37 f37 (Or.inr (by rw [hM31] at z; exact z)))
      obtain ⟨d, d1, d2, d3⟩ := (hT s ((m27 s).mp hs)).2
      exact ⟨d, d1, by rw [sg_F_ga F31 rfl]; exact d2, by rw [sg_F_ga F31 rfl]; exact yV_up ex31 d3⟩
end OPN2
/-! sift, collect, enter. -/
abbrev sfL : List Nat := [62, 70, 74, 78, 79, 80, 81, 82, 83, 85, 86, 87, 8061, 11061, 11077, 12077, 13077, 14077, 15077, 16077, 17077, 18077, 19077, 22061, 24061]
section SFT
variable {σ : sg_S} {Q : sg_S → Prop}
theorem f_sift {a x lo hi bd g n n0 c t : Int} {dg : Nat} (ha : 0 ≤ a ∧ a < 200) (hx : 0 ≤ x ∧ x < 200) (h8 : sg_g σ 8 a = x) (h11 : sg_g σ 11 x = lo) (h12 : sg_g σ 12 x = hi) (hl : 0 ≤ lo ∧ hi < 200) (h16 : sg_g σ 16 a = bd) (h13 : sg_g σ 13 a = g) (hbd : 0 ≤ bd ∧ 0 ≤ g ∧ bd + g ≤ 272) (hm : mC σ c) (hc : 4 ≤ c) (ht : sg_g σ 61 7 = t + 1) (h0 : 0 ≤ t ∧ t < 400) (h23 : sg_g σ 61 23 = n) (hn : 0 ≤ n ∧ n ≤ 6000) (h69 : sg_g σ 69 a = n0) (hn0 : 0 ≤ n0 ∧ n0 ≤ 6000) (hG : yV σ (dg + 1) (sg_g σ 70 a) n0) (hmm : su (sg_g σ 78) (sg_g σ 80 (sg_g σ 70 a)) n0.toNat = n) (hch : yRw σ (sg_g σ 64 t) n) (hT : ∀ s, wnt σ lo hi (bd + g) s → (0 ≤ s ∧ s < 272) ∧ ∃ d : Nat, d ≤ 3 ∧ sg_g σ 34 s = d ∧ yV σ d (sg_g σ 62 s) n) (k1 : ∀ σ', sg_F sfL σ σ' → ¬ sg_g σ' 61 10 = 0 → Q σ') (k2 : ∀ σ' W, sg_F sfL σ σ' → W.Nodup → (∀ s, s ∈ W ↔ wnt σ lo hi (bd + g) s) → nrR σ σ' W c (cnF σ (sg_g σ 64 t) 1 n.toNat) → sg_g σ' 61 23 = cnF σ (sg_g σ 64 t) 1 n.toNat → sg_g σ' 61 7 = t → (∀ i, ¬ i = a → sg_g σ' 70 i = sg_g σ 70 i) → yRw σ' (sg_g σ' 70 a) n0 → yLn σ' (sg_g σ' 70 a) n0 → su (sg_g σ' 78) (sg_g σ' 80 (sg_g σ' 70 a)) n0.toNat = cnF σ (sg_g σ 64 t) 1 n.toNat → Q σ') : V_fSift σ a Q := by
  generalize hch0 : sg_g σ 64 t = ch at *
  unfold V_fSift
  rw [xa_in (a := 16) ha, xa_in (a := 13) ha, xa_in (a := 8) ha, h16, h13, h8, h23]
  refine y_pop ht h0 (fun σ2 f2 t2 _ _ σ7 e7 => ⟨⟨by omega, by omega⟩, ?_⟩)
  rw [hch0]
  have f7 : sg_F [22061] σ2 σ7 := by rw [e7]; exact sg_F_w (sg_F_r _ _) rfl _
  have F7 : sg_F [8061, 22061] σ σ7 := sg_F_t (sg_F_m f2 rfl) (sg_F_m f7 rfl)
  refine f_want (W0 := []) (lo := lo) (hi := hi) hx (by rw [sg_F_ga F7 rfl]; exact h11) (by rw [sg_F_ga F7 rfl]; exact h12) hl ⟨by rw [e7, sg_gw_e _ _ _ _ (by decide)]; rfl, fun i y hy => by simp at hy, List.Pairwise.nil⟩ (by simp) (fun σ12 W f12 w12 m12 _ => ?_)
  have F12 : sg_F [74, 8061, 22061] σ σ12 := sg_F_t (sg_F_m F7 rfl) (sg_F_m f12 rfl)
  have m12' : ∀ s, s ∈ W ↔ wnt σ lo hi (bd + g) s := fun s => by
    rw [m12 s, wnt_F F7 rfl]
    exact ⟨fun q => q.resolve_left (by simp), Or.inr⟩
  have wN := wl_nd w12.2.2
  have wl1 := wit_len (f := sg_g σ 16) (a := lo) (b := hi) wN (fun s hs => by
    obtain ⟨j, q1, q2, q3, q4, q5⟩ := (m12' s).mp hs
    exact ⟨j, q1, q2, q4⟩)
  have wl2 : W.length ≤ 200 := by
    rcases wl1 with q | q
    · omega
    · rw [q]; simp
  have ex12 : yEx σ σ12 := yEx_F F12 rfl
  have cn12 : cnF σ12 ch 1 n.toNat = cnF σ ch 1 n.toNat := cn_F F12 rfl _ _ _
  refine f_narrow (mC_F hm F12 rfl) hc hn (yRw_up ex12 hch) w12 wl2 (fun s hs => (hT s ((m12' s).mp hs)).1) (fun s hs => ?_) (fun σ' f' z _ => ⟨fun _ => k1 σ' (sg_F_t (sg_F_m F12 rfl) (sg_F_m f' rfl)) z, fun y => absurd y z⟩) (fun σ18 f18 r18 l18 _ => ⟨fun z => absurd r18.1.2.2.1 z, fun _ => ?_⟩)
  · obtain ⟨d, d1, d2, d3⟩ := (hT s ((m12' s).mp hs)).2
    exact ⟨d, d1, by rw [sg_F_ga F12 rfl]; exact d2, by rw [sg_F_ga F12 rfl]; exact yV_up ex12 d3⟩
  · obtain ⟨r1, r2, r3, r4⟩ := r18
    rw [cn12] at r3 l18
    have F18 : sg_F sfL σ σ18 := sg_F_t (sg_F_m F12 rfl) (sg_F_m f18 rfl)
    have ex18 : yEx σ σ18 := yEx_t ex12 r2
    have g70 : sg_g σ18 70 a = sg_g σ 70 a := by rw [sg_F_ga f18 rfl, sg_F_ga F12 rfl]
    have cn18 : cnF σ18 ch 1 n.toNat = cnF σ ch 1 n.toNat := cn_up hm.1 r1.1 ex18 hch (by omega)
    refine f_shorten (dg := dg) (n := n0) (m := n) ha r1 hc (by rw [sg_F_ga f18 rfl, sg_F_ga F12 rfl]; exact h69) hn0 (by rw [g70]; exact yV_up ex18 hG) (by rw [g70, ysu_up ex18 (yV_r hG) (by omega)]; exact hmm) (yRw_up ex18 hch) (fun σ' f' z _ => k1 σ' (sg_F_t F18 (sg_F_m f' rfl)) z) (fun σ' f' u1 u2 u3 u4 u5 u6 _ => ?_)
    rw [cn18] at u6
    refine k2 σ' W (sg_F_t F18 (sg_F_m f' rfl)) wN m12' ⟨u1, yEx_t ex18 u2, fun s hs d hd => ?_, fun s hs => ?_⟩ ?_ ?_ (fun i hi => ?_) u4 u5 u6
    · rw [sg_F_ga f' rfl]; exact yV_up u2 (r3 s hs d (by rw [sg_F_ga F12 rfl]; exact hd))
    · rw [sg_F_ga f' rfl, r4 s hs, sg_F_ga F12 rfl]
    · rw [sg_F_g f' (by rfl)]; exact l18
    · rw [sg_F_g f' (by rfl), sg_F_g f18 (by rfl), sg_F_g f12 (by rfl), sg_F_g f7 (by rfl)]; exact t2
    · rw [u3 i hi, sg_F_ga f18 rfl, sg_F_ga F12 rfl]
theorem f_collect {W : List Int} {a sb n0 t c : Int} {d : Nat} (ha : 0 ≤ a ∧ a < 200) (hm : mC σ c) (hc : 1 ≤ c) (ht : sg_g σ 61 7 = t + 1) (h0 : 0 ≤ t ∧ t < 400) (h69 : sg_g σ 69 a = n0) (hG : yRw σ (sg_g σ 70 a) n0) (hGl : yLn σ (sg_g σ 70 a) n0) (hit : yV σ d (sg_g σ 64 t) (su (sg_g σ 78) (sg_g σ 80 (sg_g σ 70 a)) n0.toNat)) (h71 : sg_g σ 71 a = sb) (hs : sg_g σ 61 22 = sb + W.length) (hs0 : 0 ≤ sb ∧ sb + W.length ≤ 2400) (hN : W.Nodup) (hW : ∀ x ∈ W, 0 ≤ x ∧ x < 272) (h72 : ∀ (i : Nat) (x : Int), W[i]? = some x → sg_g σ 72 (sb + i) = x) (k : ∀ σ', sg_F [62, 64, 79, 80, 81, 82, 8061, 11077, 23061, 24061] σ σ' → mC σ' (c - 1) → yEx σ σ' → sg_g σ' 61 23 = n0 → sg_g σ' 61 22 = sb → sg_g σ' 61 7 = t + 1 → yV σ' (d + 1) (sg_g σ' 64 t) n0 → (∀ i, i < t → sg_g σ' 64 i = sg_g σ 64 i) → (∀ (i : Nat) (x : Int), W[i]? = some x → sg_g σ' 62 x = sg_g σ 73 (sb + i)) → (∀ x, x ∉ W → sg_g σ' 62 x = sg_g σ 62 x) → Q σ') : V_fCollect σ a Q := by
  obtain ⟨m1, m2, m3, m4, m5⟩ := id hm
  unfold V_fCollect
  rw [xa_in ha, xa_in ha, h69]
  refine y_pop ht h0 (fun σ2 f2 t2 _ _ => ?_)
  refine f_restore (W := W) (sb := sb) ha (by rw [sg_F_ga f2 rfl]; exact h71) (by rw [sg_F_g f2 (by rfl)]; exact hs) hs0 hN hW (fun i x hx => by rw [sg_F_ga f2 rfl]; exact h72 i x hx) (fun σ8 f8 s1 s2 s3 _ σ13 e13 => ?_)
  have f13 : sg_F [24061] σ8 σ13 := by rw [e13]; exact sg_F_w (sg_F_r _ _) rfl _
  have F13 : sg_F [62, 8061, 23061, 24061] σ σ13 := sg_F_t (sg_F_t (sg_F_m f2 rfl) (sg_F_m f8 rfl)) (sg_F_m f13 rfl)
  have ex13 : yEx σ σ13 := yEx_F F13 rfl
  have w13 : ∀ q, sg_g σ13 77 q = sg_g σ 77 q := fun q => sg_F_ga F13 rfl
  have G0 := hG.2
  have u6 := m1.2.1
  refine y_bundle (d := d) (n := n0) (yG_F m1 F13 rfl) (by rw [w13]; omega) (yRw_up ex13 hG) (yLn_up ex13 hG hGl) ?_ (fun σ17 f17 x1 x2 x3 x4 r16 _ => ?_)
  · rw [ysu_up ex13 hG (by omega)]; exact yV_up ex13 hit
  · refine y_push (t := t) (by rw [sg_F_g f17 (by rfl), sg_F_g f13 (by rfl), sg_F_g f8 (by rfl)]; exact t2) h0 r16 (fun σ23 f23 p1 p2 p3 _ => ?_)
    have f1723 : sg_F [64, 8061] σ17 σ23 := f23
    have F23 : sg_F [62, 64, 79, 80, 81, 82, 8061, 11077, 23061, 24061] σ σ23 := sg_F_t (sg_F_t (sg_F_m F13 rfl) (sg_F_m f17 rfl)) (sg_F_m f23 rfl)
    have ex23 : yEx σ17 σ23 := yEx_F f23 rfl
    refine k σ23 F23 ⟨yG_F x2 f23 rfl, ?_, by rw [sg_F_g F23 (by rfl)]; exact m3, ?_, by rw [sg_F_g F23 (by rfl)]; exact m5⟩ (yEx_t ex13 (yEx_t x1 ex23)) ?_ ?_ p1 ?_ (fun i hi => ?_) (fun i x hx => ?_) (fun x hx => ?_)
    · exact y0_F (y0_F (y0_F m2 F13 rfl) f17 rfl) f23 rfl
    · rw [sg_F_g f23 (by rfl), x4, w13, sg_F_g F23 (by rfl)]; omega
    · rw [sg_F_g f23 (by rfl), sg_F_g f17 (by rfl), e13, sg_gw_e _ _ _ _ ⟨by omega, by omega⟩]
    · rw [sg_F_g f23 (by rfl), sg_F_g f17 (by rfl), sg_F_g f13 (by rfl)]; exact s1
    · rw [p2]; exact yV_up ex23 x3
    · rw [p3 i (by omega), sg_F_ga f17 rfl, sg_F_ga F13 rfl]
    · rw [sg_F_ga f23 rfl, sg_F_ga f17 rfl, sg_F_ga f13 rfl, s2 i x hx, sg_F_ga f2 rfl]
    · rw [sg_F_ga f23 rfl, sg_F_ga f17 rfl, sg_F_ga f13 rfl, s3 x hx, sg_F_ga f2 rfl]
theorem m_enter {q p fs t pc E : Int} (hq : 0 ≤ q ∧ q < 12) (h23 : sg_g σ 23 q = p) (hp : 0 ≤ p ∧ p ≤ 6) (h24 : sg_g σ 24 q = fs) (hfs : 0 ≤ fs ∧ fs + p ≤ 272) (ht : sg_g σ 61 7 = t + p) (h0 : 0 ≤ t ∧ t + p ≤ 400) (hpc : sg_g σ 61 8 = pc) (hE : sg_g σ 31 q = E) (k : ∀ σ', sg_F [62, 63, 8061, 9061] σ σ' → sg_g σ' 61 7 = t → sg_g σ' 61 8 = E → sg_g σ' 63 q = pc → (∀ i, ¬ i = q → sg_g σ' 63 i = sg_g σ 63 i) → (∀ i : Nat, (i : Int) < p → sg_g σ' 62 (fs + i) = sg_g σ 64 (t + i)) → (∀ s, ¬ (fs ≤ s ∧ s < fs + p) → sg_g σ' 62 s = sg_g σ 62 s) → Q σ') : V_mEnter σ q Q := by
  unfold V_mEnter
  rw [xa_in (a := 23) hq, xa_in (a := 24) hq, xa_in (a := 31) ⟨by omega, by omega⟩, h23, h24, ht, hpc, hE, show t + p - p = t by omega]
  refine ⟨fun m v σ2 => ∃ j : Nat, v = j ∧ (j : Int) ≤ p ∧ m = 6 - j ∧ (∀ i : Nat, i < j → sg_g σ2 62 (fs + i) = sg_g σ 64 (t + i)) ∧ (∀ s, ¬ (fs ≤ s ∧ s < fs + j) → sg_g σ2 62 s = sg_g σ 62 s), fun σ2 => (∀ i : Nat, (i : Int) < p → sg_g σ2 62 (fs + i) = sg_g σ 64 (t + i)) ∧ (∀ s, ¬ (fs ≤ s ∧ s < fs + p) → sg_g σ2 62 s = sg_g σ 62 s), ⟨_, 0, rfl, by omega, rfl, fun i hi => by omega, fun s _ => rfl⟩, ?_, ?_⟩
  · rintro m v σ2 rv f2 ⟨j, rfl, hj, hm', q1, q2⟩
    refine ⟨fun z => ⟨fun i hi => q1 i (by omega), fun s hs => q2 s (by omega)⟩, fun z => ⟨fun y => ⟨fun i hi => q1 i (by omega), fun s hs => q2 s (by omega)⟩, fun y => ⟨⟨by omega, by omega⟩, ⟨by omega, by omega⟩, ⟨by omega, by omega⟩, fun σ31 e31 => ?_⟩⟩⟩
    rw [xa_in ⟨by omega, by omega⟩, xp_in ⟨by omega, by omega⟩] at e31
    refine ⟨⟨by omega, by omega⟩, 6 - (j + 1), by omega, j + 1, by omega, by omega, rfl, fun i hi => ?_, fun s hs => ?_⟩
    · rw [e31]
      by_cases e : i = j
      · subst e; rw [sg_gw_e _ _ _ _ (sg_Rg _ _ _)]
      · rw [sg_gw_k _ _ _ _ _ _ (by omega)]; exact q1 i (by omega)
    · rw [e31, sg_gw_k _ _ _ _ _ _ (by omega)]; exact q2 s (by omega)
  · rintro σ2 f2 ⟨q1, q2⟩
    refine ⟨⟨by omega, by omega⟩, fun σ17 e17 σ20 e20 σ23 e23 => ?_⟩
    rw [xp_in ⟨by omega, by omega⟩] at e20
    have f17 : sg_F [8061] σ2 σ17 := by rw [e17]; exact sg_F_w (sg_F_r _ _) rfl _
    have f20 : sg_F [63] σ17 σ20 := by rw [e20]; exact sg_F_w (sg_F_r _ _) rfl _
    have f23 : sg_F [9061] σ20 σ23 := by rw [e23]; exact sg_F_w (sg_F_r _ _) rfl _
    have rE : sg_R E := by rw [← hE]; exact sg_Rg _ _ _
    have rp : sg_R pc := by rw [← hpc]; exact sg_Rg _ _ _
    refine k σ23 (sg_F_t (sg_F_t (sg_F_t (sg_F_m f2 rfl) (sg_F_m f17 rfl)) (sg_F_m f20 rfl)) (sg_F_m f23 rfl)) ?_ ?_ ?_ (fun i hi => ?_) (fun i hi => ?_) (fun s hs => ?_)
    · rw [sg_F_g f23 (by rfl), sg_F_g f20 (by rfl), e17, sg_gw_e _ _ _ _ ⟨by omega, by omega⟩]
    · rw [e23, sg_gw_e _ _ _ _ rE]
    · rw [sg_F_ga f23 rfl, e20, sg_gw_e _ _ _ _ rp]
    · rw [sg_F_ga f23 rfl, e20, sg_gw_k _ _ _ _ _ _ hi, sg_F_ga f17 rfl, sg_F_ga f2 rfl]
    · rw [sg_F_ga f23 rfl, sg_F_ga f20 rfl, sg_F_ga f17 rfl]; exact q1 i hi
    · rw [sg_F_ga f23 rfl, sg_F_ga f20 rfl, sg_F_ga f17 rfl]; exact q2 s hs
end SFT
/-! THE RUN of the class, turn by turn. -/
def mStp (σ σ8 σ32 : sg_S) (P35 : sg_S → Prop) : Prop := (((sx_at σ 29 1013 ((sg_g σ8 61 8))) = 0 → V_fBegin σ32 ((sx_at σ 30 1013 ((sg_g σ8 61 8)))) (fun σ45 => sg_F [69, 11061, 18077, 19077, 25061] σ32 σ45 → P35 σ45)) ∧ (¬ (sx_at σ 29 1013 ((sg_g σ8 61 8))) = 0 → (((sx_at σ 29 1013 ((sg_g σ8 61 8))) = 1 → V_mFinish σ32 ((sx_at σ 30 1013 ((sg_g σ8 61 8)))) (fun σ53 => sg_F [62, 64, 78, 79, 80, 81, 82, 83, 85, 86, 87, 8061, 10061, 11061, 11077, 12077, 13077, 14077, 15077, 16077, 17077, 18077, 19077, 23061, 24061] σ32 σ53 → P35 σ53)) ∧ (¬ (sx_at σ 29 1013 ((sg_g σ8 61 8))) = 1 → (((sx_at σ 29 1013 ((sg_g σ8 61 8))) = 2 → V_mFinishOne σ32 ((sx_at σ 30 1013 ((sg_g σ8 61 8)))) (fun σ61 => sg_F [64, 78, 79, 80, 81, 82, 83, 84, 85, 86, 87, 8061, 10061, 11061, 11077, 12077, 13077, 14077, 15077, 16077, 17077, 18077, 19077] σ32 σ61 → P35 σ61)) ∧ (¬ (sx_at σ 29 1013 ((sg_g σ8 61 8))) = 2 → (((sx_at σ 29 1013 ((sg_g σ8 61 8))) = 3 → V_mFinishTwo σ32 ((sx_at σ 30 1013 ((sg_g σ8 61 8)))) (fun σ69 => sg_F [64, 75, 76, 78, 79, 80, 81, 82, 83, 84, 85, 86, 87, 8061, 10061, 11061, 11077, 12077, 13077, 14077, 15077, 16077, 17077, 18077, 19077] σ32 σ69 → P35 σ69)) ∧ (¬ (sx_at σ 29 1013 ((sg_g σ8 61 8))) = 3 → (((sx_at σ 29 1013 ((sg_g σ8 61 8))) = 4 → V_mPop σ32  (fun q76 σ77 => sg_R q76 → sg_F [8061] σ32 σ77 → ∀ σ82, σ82 = (sx_put σ77 62 272 ((sx_at σ 16 200 ((sx_at σ 30 1013 ((sg_g σ8 61 8)))))) (q76)) → P35 σ82)) ∧ (¬ (sx_at σ 29 1013 ((sg_g σ8 61 8))) = 4 → (((sx_at σ 29 1013 ((sg_g σ8 61 8))) = 5 → V_mEnter σ32 ((sx_at σ 16 200 ((sx_at σ 30 1013 ((sg_g σ8 61 8)))))) (fun σ88 => sg_F [62, 63, 8061, 9061] σ32 σ88 → P35 σ88)) ∧ (¬ (sx_at σ 29 1013 ((sg_g σ8 61 8))) = 5 → (((sx_at σ 29 1013 ((sg_g σ8 61 8))) = 6 → ∀ σ95, σ95 = (sg_w σ32 61 8 ((sx_at σ8 63 13 ((sx_at σ 30 1013 ((sg_g σ8 61 8))))))) → P35 σ95) ∧ (¬ (sx_at σ 29 1013 ((sg_g σ8 61 8))) = 6 → (((sx_at σ 29 1013 ((sg_g σ8 61 8))) = 7 → V_fFork σ32 ((sx_at σ 30 1013 ((sg_g σ8 61 8)))) (fun σ101 => sg_F [62, 70, 71, 72, 73, 74, 78, 79, 80, 81, 82, 85, 86, 87, 8061, 11061, 11077, 12077, 13077, 14077, 15077, 16077, 17077, 18077, 19077, 22061, 23061, 24061] σ32 σ101 → P35 σ101)) ∧ (¬ (sx_at σ 29 1013 ((sg_g σ8 61 8))) = 7 → (((sx_at σ 29 1013 ((sg_g σ8 61 8))) = 8 → V_fTurn σ32 ((sx_at σ 30 1013 ((sg_g σ8 61 8)))) (fun σ109 => sg_F [62, 71, 72, 73, 74, 78, 79, 80, 81, 82, 85, 86, 87, 11061, 11077, 12077, 13077, 14077, 15077, 16077, 17077, 18077, 19077, 22061, 23061, 24061] σ32 σ109 → P35 σ109)) ∧ (¬ (sx_at σ 29 1013 ((sg_g σ8 61 8))) = 8 → (((sx_at σ 29 1013 ((sg_g σ8 61 8))) = 9 → V_fJoin σ32 ((sx_at σ 30 1013 ((sg_g σ8 61 8)))) (fun σ117 => sg_F [62, 64, 78, 79, 80, 81, 82, 85, 86, 87, 8061, 10061, 11061, 11077, 12077, 13077, 14077, 15077, 16077, 17077, 18077, 19077, 23061, 24061] σ32 σ117 → P35 σ117)) ∧ (¬ (sx_at σ 29 1013 ((sg_g σ8 61 8))) = 9 → (((sx_at σ 29 1013 ((sg_g σ8 61 8))) = 10 → V_fOpen σ32 ((sx_at σ 30 1013 ((sg_g σ8 61 8)))) (fun σ125 => sg_F [62, 70, 71, 72, 73, 74, 78, 79, 80, 81, 82, 85, 86, 87, 8061, 11061, 11077, 12077, 13077, 14077, 15077, 16077, 17077, 18077, 19077, 22061, 23061, 24061] σ32 σ125 → P35 σ125)) ∧ (¬ (sx_at σ 29 1013 ((sg_g σ8 61 8))) = 10 → (((sx_at σ 29 1013 ((sg_g σ8 61 8))) = 11 → V_fSift σ32 ((sx_at σ 30 1013 ((sg_g σ8 61 8)))) (fun σ133 => sg_F [62, 70, 74, 78, 79, 80, 81, 82, 83, 85, 86, 87, 8061, 11061, 11077, 12077, 13077, 14077, 15077, 16077, 17077, 18077, 19077, 22061, 24061] σ32 σ133 → P35 σ133)) ∧ (¬ (sx_at σ 29 1013 ((sg_g σ8 61 8))) = 11 → V_fNext σ32 ((sx_at σ 30 1013 ((sg_g σ8 61 8)))) (fun σ139 => sg_F [] σ32 σ139 → P35 σ139)))))))))))))))))))))))))
def Rr (σ : sg_S) : Nat → sg_S → Prop
  | 0, _ => True
  | n + 1, σ8 => 0 ≤ sg_g σ8 61 8 → sg_g σ8 61 10 = 0 → sg_R (sg_g σ8 61 8 + 1) ∧ ∀ σ32, σ32 = (sg_w σ8 61 8 (((sg_g σ8 61 8) + 1))) → mStp σ σ8 σ32 (Rr σ n)
theorem rr_0 {σ σ8 : sg_S} {m : Nat} {p k : Int} (hp : sg_g σ8 61 8 = p) (h0 : 0 ≤ p ∧ p < 1013) (h29 : sg_g σ 29 p = 0) (h30 : sg_g σ 30 p = k) (h : ∀ σ32, σ32 = sg_w σ8 61 8 (p + 1) → V_fBegin σ32 (k) (fun σ45 => sg_F [69, 11061, 18077, 19077, 25061] σ32 σ45 → (Rr σ m) σ45)) : Rr σ (m + 1) σ8 := by
  intro _ _
  refine ⟨⟨by omega, by omega⟩, fun σ32 e32 => ?_⟩
  unfold mStp
  rw [hp] at e32 ⊢
  rw [xa_in (a := 29) h0, xa_in (a := 30) h0, h29, h30]
  exact ⟨fun _ => h σ32 e32, fun z => absurd rfl z⟩
theorem rr_1 {σ σ8 : sg_S} {m : Nat} {p k : Int} (hp : sg_g σ8 61 8 = p) (h0 : 0 ≤ p ∧ p < 1013) (h29 : sg_g σ 29 p = 1) (h30 : sg_g σ 30 p = k) (h : ∀ σ32, σ32 = sg_w σ8 61 8 (p + 1) → V_mFinish σ32 (k) (fun σ53 => sg_F [62, 64, 78, 79, 80, 81, 82, 83, 85, 86, 87, 8061, 10061, 11061, 11077, 12077, 13077, 14077, 15077, 16077, 17077, 18077, 19077, 23061, 24061] σ32 σ53 → (Rr σ m) σ53)) : Rr σ (m + 1) σ8 := by
  intro _ _
  refine ⟨⟨by omega, by omega⟩, fun σ32 e32 => ?_⟩
  unfold mStp
  rw [hp] at e32 ⊢
  rw [xa_in (a := 29) h0, xa_in (a := 30) h0, h29, h30]
  exact ⟨fun z => absurd z (by decide), fun _ => ⟨fun _ => h σ32 e32, fun z => absurd rfl z⟩⟩
theorem rr_2 {σ σ8 : sg_S} {m : Nat} {p k : Int} (hp : sg_g σ8 61 8 = p) (h0 : 0 ≤ p ∧ p < 1013) (h29 : sg_g σ 29 p = 2) (h30 : sg_g σ 30 p = k) (h : ∀ σ32, σ32 = sg_w σ8 61 8 (p + 1) → V_mFinishOne σ32 (k) (fun σ61 => sg_F [64, 78, 79, 80, 81, 82, 83, 84, 85, 86, 87, 8061, 10061, 11061, 11077, 12077, 13077, 14077, 15077, 16077, 17077, 18077, 19077] σ32 σ61 → (Rr σ m) σ61)) : Rr σ (m + 1) σ8 := by
  intro _ _
  refine ⟨⟨by omega, by omega⟩, fun σ32 e32 => ?_⟩
  unfold mStp
  rw [hp] at e32 ⊢
  rw [xa_in (a := 29) h0, xa_in (a := 30) h0, h29, h30]
  exact ⟨fun z => absurd z (by decide), fun _ => ⟨fun z => absurd z (by decide), fun _ => ⟨fun _ => h σ32 e32, fun z => absurd rfl z⟩⟩⟩
theorem rr_3 {σ σ8 : sg_S} {m : Nat} {p k : Int} (hp : sg_g σ8 61 8 = p) (h0 : 0 ≤ p ∧ p < 1013) (h29 : sg_g σ 29 p = 3) (h30 : sg_g σ 30 p = k) (h : ∀ σ32, σ32 = sg_w σ8 61 8 (p + 1) → V_mFinishTwo σ32 (k) (fun σ69 => sg_F [64, 75, 76, 78, 79, 80, 81, 82, 83, 84, 85, 86, 87, 8061, 10061, 11061, 11077, 12077, 13077, 14077, 15077, 16077, 17077, 18077, 19077] σ32 σ69 → (Rr σ m) σ69)) : Rr σ (m + 1) σ8 := by
  intro _ _
  refine ⟨⟨by omega, by omega⟩, fun σ32 e32 => ?_⟩
  unfold mStp
  rw [hp] at e32 ⊢
  rw [xa_in (a := 29) h0, xa_in (a := 30) h0, h29, h30]
  exact ⟨fun z => absurd z (by decide), fun _ => ⟨fun z => absurd z (by decide), fun _ => ⟨fun z => absurd z (by decide), fun _ => ⟨fun _ => h σ32 e32, fun z => absurd rfl z⟩⟩⟩⟩
theorem rr_4 {σ σ8 : sg_S} {m : Nat} {p k : Int} (hp : sg_g σ8 61 8 = p) (h0 : 0 ≤ p ∧ p < 1013) (h29 : sg_g σ 29 p = 4) (h30 : sg_g σ 30 p = k) (h : ∀ σ32, σ32 = sg_w σ8 61 8 (p + 1) → V_mPop σ32  (fun q76 σ77 => sg_R q76 → sg_F [8061] σ32 σ77 → ∀ σ82, σ82 = (sx_put σ77 62 272 ((sx_at σ 16 200 (k))) (q76)) → (Rr σ m) σ82)) : Rr σ (m + 1) σ8 := by
  intro _ _
  refine ⟨⟨by omega, by omega⟩, fun σ32 e32 => ?_⟩
  unfold mStp
  rw [hp] at e32 ⊢
  rw [xa_in (a := 29) h0, xa_in (a := 30) h0, h29, h30]
  exact ⟨fun z => absurd z (by decide), fun _ => ⟨fun z => absurd z (by decide), fun _ => ⟨fun z => absurd z (by decide), fun _ => ⟨fun z => absurd z (by decide), fun _ => ⟨fun _ => h σ32 e32, fun z => absurd rfl z⟩⟩⟩⟩⟩
theorem rr_5 {σ σ8 : sg_S} {m : Nat} {p k : Int} (hp : sg_g σ8 61 8 = p) (h0 : 0 ≤ p ∧ p < 1013) (h29 : sg_g σ 29 p = 5) (h30 : sg_g σ 30 p = k) (h : ∀ σ32, σ32 = sg_w σ8 61 8 (p + 1) → V_mEnter σ32 ((sx_at σ 16 200 (k))) (fun σ88 => sg_F [62, 63, 8061, 9061] σ32 σ88 → (Rr σ m) σ88)) : Rr σ (m + 1) σ8 := by
  intro _ _
  refine ⟨⟨by omega, by omega⟩, fun σ32 e32 => ?_⟩
  unfold mStp
  rw [hp] at e32 ⊢
  rw [xa_in (a := 29) h0, xa_in (a := 30) h0, h29, h30]
  exact ⟨fun z => absurd z (by decide), fun _ => ⟨fun z => absurd z (by decide), fun _ => ⟨fun z => absurd z (by decide), fun _ => ⟨fun z => absurd z (by decide), fun _ => ⟨fun z => absurd z (by decide), fun _ => ⟨fun _ => h σ32 e32, fun z => absurd rfl z⟩⟩⟩⟩⟩⟩
theorem rr_6 {σ σ8 : sg_S} {m : Nat} {p k : Int} (hp : sg_g σ8 61 8 = p) (h0 : 0 ≤ p ∧ p < 1013) (h29 : sg_g σ 29 p = 6) (h30 : sg_g σ 30 p = k) (h : ∀ σ32, σ32 = sg_w σ8 61 8 (p + 1) → ∀ σ95, σ95 = (sg_w σ32 61 8 ((sx_at σ8 63 13 (k)))) → (Rr σ m) σ95) : Rr σ (m + 1) σ8 := by
  intro _ _
  refine ⟨⟨by omega, by omega⟩, fun σ32 e32 => ?_⟩
  unfold mStp
  rw [hp] at e32 ⊢
  rw [xa_in (a := 29) h0, xa_in (a := 30) h0, h29, h30]
  exact ⟨fun z => absurd z (by decide), fun _ => ⟨fun z => absurd z (by decide), fun _ => ⟨fun z => absurd z (by decide), fun _ => ⟨fun z => absurd z (by decide), fun _ => ⟨fun z => absurd z (by decide), fun _ => ⟨fun z => absurd z (by decide), fun _ => ⟨fun _ => h σ32 e32, fun z => absurd rfl z⟩⟩⟩⟩⟩⟩⟩
theorem rr_7 {σ σ8 : sg_S} {m : Nat} {p k : Int} (hp : sg_g σ8 61 8 = p) (h0 : 0 ≤ p ∧ p < 1013) (h29 : sg_g σ 29 p = 7) (h30 : sg_g σ 30 p = k) (h : ∀ σ32, σ32 = sg_w σ8 61 8 (p + 1) → V_fFork σ32 (k) (fun σ101 => sg_F [62, 70, 71, 72, 73, 74, 78, 79, 80, 81, 82, 85, 86, 87, 8061, 11061, 11077, 12077, 13077, 14077, 15077, 16077, 17077, 18077, 19077, 22061, 23061, 24061] σ32 σ101 → (Rr σ m) σ101)) : Rr σ (m + 1) σ8 := by
  intro _ _
  refine ⟨⟨by omega, by omega⟩, fun σ32 e32 => ?_⟩
  unfold mStp
  rw [hp] at e32 ⊢
  rw [xa_in (a := 29) h0, xa_in (a := 30) h0, h29, h30]
  exact ⟨fun z => absurd z (by decide), fun _ => ⟨fun z => absurd z (by decide), fun _ => ⟨fun z => absurd z (by decide), fun _ => ⟨fun z => absurd z (by decide), fun _ => ⟨fun z => absurd z (by decide), fun _ => ⟨fun z => absurd z (by decide), fun _ => ⟨fun z => absurd z (by decide), fun _ => ⟨fun _ => h σ32 e32, fun z => absurd rfl z⟩⟩⟩⟩⟩⟩⟩⟩
theorem rr_8 {σ σ8 : sg_S} {m : Nat} {p k : Int} (hp : sg_g σ8 61 8 = p) (h0 : 0 ≤ p ∧ p < 1013) (h29 : sg_g σ 29 p = 8) (h30 : sg_g σ 30 p = k) (h : ∀ σ32, σ32 = sg_w σ8 61 8 (p + 1) → V_fTurn σ32 (k) (fun σ109 => sg_F [62, 71, 72, 73, 74, 78, 79, 80, 81, 82, 85, 86, 87, 11061, 11077, 12077, 13077, 14077, 15077, 16077, 17077, 18077, 19077, 22061, 23061, 24061] σ32 σ109 → (Rr σ m) σ109)) : Rr σ (m + 1) σ8 := by
  intro _ _
  refine ⟨⟨by omega, by omega⟩, fun σ32 e32 => ?_⟩
  unfold mStp
  rw [hp] at e32 ⊢
  rw [xa_in (a := 29) h0, xa_in (a := 30) h0, h29, h30]
  exact ⟨fun z => absurd z (by decide), fun _ => ⟨fun z => absurd z (by decide), fun _ => ⟨fun z => absurd z (by decide), fun _ => ⟨fun z => absurd z (by decide), fun _ => ⟨fun z => absurd z (by decide), fun _ => ⟨fun z => absurd z (by decide), fun _ => ⟨fun z => absurd z (by decide), fun _ => ⟨fun z => absurd z (by decide), fun _ => ⟨fun _ => h σ32 e32, fun z => absurd rfl z⟩⟩⟩⟩⟩⟩⟩⟩⟩
theorem rr_9 {σ σ8 : sg_S} {m : Nat} {p k : Int} (hp : sg_g σ8 61 8 = p) (h0 : 0 ≤ p ∧ p < 1013) (h29 : sg_g σ 29 p = 9) (h30 : sg_g σ 30 p = k) (h : ∀ σ32, σ32 = sg_w σ8 61 8 (p + 1) → V_fJoin σ32 (k) (fun σ117 => sg_F [62, 64, 78, 79, 80, 81, 82, 85, 86, 87, 8061, 10061, 11061, 11077, 12077, 13077, 14077, 15077, 16077, 17077, 18077, 19077, 23061, 24061] σ32 σ117 → (Rr σ m) σ117)) : Rr σ (m + 1) σ8 := by
  intro _ _
  refine ⟨⟨by omega, by omega⟩, fun σ32 e32 => ?_⟩
  unfold mStp
  rw [hp] at e32 ⊢
  rw [xa_in (a := 29) h0, xa_in (a := 30) h0, h29, h30]
  exact ⟨fun z => absurd z (by decide), fun _ => ⟨fun z => absurd z (by decide), fun _ => ⟨fun z => absurd z (by decide), fun _ => ⟨fun z => absurd z (by decide), fun _ => ⟨fun z => absurd z (by decide), fun _ => ⟨fun z => absurd z (by decide), fun _ => ⟨fun z => absurd z (by decide), fun _ => ⟨fun z => absurd z (by decide), fun _ => ⟨fun z => absurd z (by decide), fun _ => ⟨fun _ => h σ32 e32, fun z => absurd rfl z⟩⟩⟩⟩⟩⟩⟩⟩⟩⟩
theorem rr_10 {σ σ8 : sg_S} {m : Nat} {p k : Int} (hp : sg_g σ8 61 8 = p) (h0 : 0 ≤ p ∧ p < 1013) (h29 : sg_g σ 29 p = 10) (h30 : sg_g σ 30 p = k) (h : ∀ σ32, σ32 = sg_w σ8 61 8 (p + 1) → V_fOpen σ32 (k) (fun σ125 => sg_F [62, 70, 71, 72, 73, 74, 78, 79, 80, 81, 82, 85, 86, 87, 8061, 11061, 11077, 12077, 13077, 14077, 15077, 16077, 17077, 18077, 19077, 22061, 23061, 24061] σ32 σ125 → (Rr σ m) σ125)) : Rr σ (m + 1) σ8 := by
  intro _ _
  refine ⟨⟨by omega, by omega⟩, fun σ32 e32 => ?_⟩
  unfold mStp
  rw [hp] at e32 ⊢
  rw [xa_in (a := 29) h0, xa_in (a := 30) h0, h29, h30]
  exact ⟨fun z => absurd z (by decide), fun _ => ⟨fun z => absurd z (by decide), fun _ => ⟨fun z => absurd z (by decide), fun _ => ⟨fun z => absurd z (by decide), fun _ => ⟨fun z => absurd z (by decide), fun _ => ⟨fun z => absurd z (by decide), fun _ => ⟨fun z => absurd z (by decide), fun _ => ⟨fun z => absurd z (by decide), fun _ => ⟨fun z => absurd z (by decide), fun _ => ⟨fun z => absurd z (by decide), fun _ => ⟨fun _ => h σ32 e32, fun z => absurd rfl z⟩⟩⟩⟩⟩⟩⟩⟩⟩⟩⟩
theorem rr_11 {σ σ8 : sg_S} {m : Nat} {p k : Int} (hp : sg_g σ8 61 8 = p) (h0 : 0 ≤ p ∧ p < 1013) (h29 : sg_g σ 29 p = 11) (h30 : sg_g σ 30 p = k) (h : ∀ σ32, σ32 = sg_w σ8 61 8 (p + 1) → V_fSift σ32 (k) (fun σ133 => sg_F [62, 70, 74, 78, 79, 80, 81, 82, 83, 85, 86, 87, 8061, 11061, 11077, 12077, 13077, 14077, 15077, 16077, 17077, 18077, 19077, 22061, 24061] σ32 σ133 → (Rr σ m) σ133)) : Rr σ (m + 1) σ8 := by
  intro _ _
  refine ⟨⟨by omega, by omega⟩, fun σ32 e32 => ?_⟩
  unfold mStp
  rw [hp] at e32 ⊢
  rw [xa_in (a := 29) h0, xa_in (a := 30) h0, h29, h30]
  exact ⟨fun z => absurd z (by decide), fun _ => ⟨fun z => absurd z (by decide), fun _ => ⟨fun z => absurd z (by decide), fun _ => ⟨fun z => absurd z (by decide), fun _ => ⟨fun z => absurd z (by decide), fun _ => ⟨fun z => absurd z (by decide), fun _ => ⟨fun z => absurd z (by decide), fun _ => ⟨fun z => absurd z (by decide), fun _ => ⟨fun z => absurd z (by decide), fun _ => ⟨fun z => absurd z (by decide), fun _ => ⟨fun z => absurd z (by decide), fun _ => ⟨fun _ => h σ32 e32, fun z => absurd rfl z⟩⟩⟩⟩⟩⟩⟩⟩⟩⟩⟩⟩
theorem rr_12 {σ σ8 : sg_S} {m : Nat} {p k : Int} (hp : sg_g σ8 61 8 = p) (h0 : 0 ≤ p ∧ p < 1013) (h29 : sg_g σ 29 p = 12) (h30 : sg_g σ 30 p = k) (h : ∀ σ32, σ32 = sg_w σ8 61 8 (p + 1) → V_fNext σ32 (k) (fun σ139 => sg_F [] σ32 σ139 → (Rr σ m) σ139)) : Rr σ (m + 1) σ8 := by
  intro _ _
  refine ⟨⟨by omega, by omega⟩, fun σ32 e32 => ?_⟩
  unfold mStp
  rw [hp] at e32 ⊢
  rw [xa_in (a := 29) h0, xa_in (a := 30) h0, h29, h30]
  exact ⟨fun z => absurd z (by decide), fun _ => ⟨fun z => absurd z (by decide), fun _ => ⟨fun z => absurd z (by decide), fun _ => ⟨fun z => absurd z (by decide), fun _ => ⟨fun z => absurd z (by decide), fun _ => ⟨fun z => absurd z (by decide), fun _ => ⟨fun z => absurd z (by decide), fun _ => ⟨fun z => absurd z (by decide), fun _ => ⟨fun z => absurd z (by decide), fun _ => ⟨fun z => absurd z (by decide), fun _ => ⟨fun z => absurd z (by decide), fun _ => ⟨fun z => absurd z (by decide), fun _ => h σ32 e32⟩⟩⟩⟩⟩⟩⟩⟩⟩⟩⟩⟩
