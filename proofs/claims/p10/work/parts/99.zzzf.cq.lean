/-! join, branch, fork, turn of the class, exactly. -/
theorem cw_tk (b : Bool) (c : List vaF) (j : Nat) : cwF b (c.take j) ≤ cwF b c := by
  have := cwF_a b (c.take j) (c.drop j)
  rw [List.take_append_drop] at this
  omega
theorem tk_sv {c : List vaF} {j : Nat} (h : j < c.length) : c.take (j + 1) = c.take j ++ [c.getD j (nmF 0)] := by
  rw [List.take_add_one, gD_i h]; rfl
theorem srt_eq : ∀ {l m : List Int}, l.Pairwise (· < ·) → m.Pairwise (· < ·) → (∀ x, x ∈ l ↔ x ∈ m) → l = m
  | [], [], _, _, _ => rfl
  | [], y :: m, _, _, h => by
    have := (h y).mpr (by simp)
    cases this
  | x :: l, [], _, _, h => by
    have := (h x).mp (by simp)
    cases this
  | x :: l, y :: m, hl, hm, h => by
    obtain ⟨h1, h2⟩ := List.pairwise_cons.mp hl
    obtain ⟨k1, k2⟩ := List.pairwise_cons.mp hm
    have e : x = y := by
      rcases List.mem_cons.mp ((h x).mp (by simp)) with q | q
      · exact q
      · rcases List.mem_cons.mp ((h y).mpr (by simp)) with r | r
        · exact r.symm
        · have a := k1 x q
          have b := h1 y r
          omega
    subst e
    rw [srt_eq h2 k2 (fun z => ⟨fun hz => ?_, fun hz => ?_⟩)]
    · have := h1 z hz
      rcases List.mem_cons.mp ((h z).mp (by simp [hz])) with q | q
      · omega
      · exact q
    · have := k1 z hz
      rcases List.mem_cons.mp ((h z).mpr (by simp [hz])) with q | q
      · omega
      · exact q
abbrev jnL : List Nat := [62, 64, 78, 79, 80, 81, 82, 85, 86, 87, 8061, 10061, 11061, 11077, 12077, 13077, 14077, 15077, 16077, 17077, 18077, 19077, 23061, 24061]
section CQS
variable {σ : sg_S} {Q : sg_S → Prop}
theorem f_joinX {W : List Int} {a sb t c ch : Int} {n D dc : Nat} {cv v1 v2 : List vaF} {s : fSt} (ha : 0 ≤ a ∧ a < 200) (hm : mC σ c) (hs : ctX σ s) (hc : 4 ≤ c) (hD : D ≤ 3) (h6 : sg_g σ 6 a = D) (h69 : sg_g σ 69 a = n) (hn : n ≤ 6000) (h70 : sg_g σ 70 a = ch) (hch : yX σ dc ch cv) (hcl : cv.length = n) (ht : sg_g σ 61 7 = t + 2) (h0 : 0 ≤ t ∧ t + 2 ≤ 400) (hA : yX σ D (sg_g σ 64 t) v1) (hB : yX σ D (sg_g σ 64 (t + 1)) v2) (l1 : cwF true cv = v1.length) (l2 : cwF false cv = v2.length) (h71 : sg_g σ 71 a = sb) (h22 : sg_g σ 61 22 = sb + W.length) (hs0 : 0 ≤ sb ∧ sb + W.length ≤ 2400) (hN : W.Nodup) (hW : ∀ x ∈ W, 0 ≤ x ∧ x < 272) (h72 : ∀ (i : Nat) (x : Int), W[i]? = some x → sg_g σ 72 (sb + i) = x) (k1 : fStp (exF D v1 + exF D v2) s = none → ∀ σ', sg_F jnL σ σ' → sg_g σ' 61 10 = 8 → ctX σ' s → Q σ') (k2 : ∀ s1, fStp (exF D v1 + exF D v2) s = some s1 → ∀ σ', sg_F jnL σ σ' → mC σ' c → ctX σ' s1 → yEx σ σ' → sg_g σ' 61 23 = n → sg_g σ' 61 22 = sb → sg_g σ' 61 7 = t + 1 → yX σ' D (sg_g σ' 64 t) (fMg cv v1 v2) → (∀ i, i < t → sg_g σ' 64 i = sg_g σ 64 i) → (∀ (i : Nat) (x : Int), W[i]? = some x → sg_g σ' 62 x = sg_g σ 73 (sb + i)) → (∀ x, x ∉ W → sg_g σ' 62 x = sg_g σ 62 x) → Q σ') : V_fJoin σ a Q := by
  have gg := hm.1
  have eX := exF_Mg D cv v1 v2 l1 l2
  unfold V_fJoin
  rw [xa_in ha, xa_in ha, xa_in ha, h69, h70, h6]
  refine f_restore ha h71 h22 hs0 hN hW h72 (fun σ2 f2 s1 s2 s3 _ σ7 e7 => ?_)
  have f7 : sg_F [24061] σ2 σ7 := by rw [e7]; exact sg_F_w (sg_F_r _ _) rfl _
  have f7' : sg_F [62, 23061, 24061] σ σ7 := sg_F_t (sg_F_m f2 rfl) (sg_F_m f7 rfl)
  refine y_pop (t := t + 1) (by rw [sg_F_g f7' (by rfl)]; omega) (by omega) (fun σ11 f11 t11 _ _ => y_pop (t := t) t11 (by omega) (fun σ17 f17 t17 _ _ => ?_))
  have f17' : sg_F [62, 8061, 23061, 24061] σ σ17 := sg_F_t (sg_F_t (sg_F_m f7' rfl) (sg_F_m f11 rfl)) (sg_F_m f17 rfl)
  rw [show sg_g σ7 64 (t + 1) = sg_g σ 64 (t + 1) from sg_F_ga f7' rfl, show sg_g σ11 64 t = sg_g σ 64 t from by rw [sg_F_ga f11 rfl, sg_F_ga f7' rfl]]
  have ex17 : yEx σ σ17 := yEx_F f17' rfl
  have m17 : mC σ17 c := mC_F hm f17' rfl
  have n17 : sg_g σ17 61 23 = n := by rw [sg_F_g f17 (by rfl), sg_F_g f11 (by rfl), e7, sg_gw_e _ _ _ _ ⟨by omega, by omega⟩]
  refine ⟨fun m v22 v23 σ24 => ∃ j : Nat, v23 = j ∧ j ≤ n ∧ m = n - j ∧ v22 = (cwF true (cv.take j) : Int) ∧ toX σ24 D [] [] (fMg (cv.take j) v1 v2) 0, fun σ24 => toX σ24 D [] [] (fMg cv v1 v2) 0, ⟨_, 0, rfl, Nat.zero_le _, rfl, rfl, toX_0 m17.2.1 D⟩, ?_, ?_⟩
  · rintro m v22 v23 σ24 r22 r23 f24 ⟨j, rfl, hj, hm', rfl, hI⟩
    refine ⟨fun z => ?_, fun z => ?_⟩
    · rw [List.take_of_length_le (by omega)] at hI; exact hI
    have ex24 : yEx σ σ24 := yEx_t ex17 (yEx_F f24 rfl)
    obtain ⟨x1, x2⟩ := yX_cell gg hch (i := j) (by omega)
    have ce := ch_b (w := 1) (b := true) (Or.inl ⟨rfl, rfl⟩) x1
    have tk := tk_sv (c := cv) (j := j) (by omega)
    have ct := cwF_t (cv.take j)
    rw [List.length_take] at ct
    have m1 := cw_tk true cv (j + 1)
    have m0 := cw_tk false cv (j + 1)
    rw [tk, cwF_a, cwF_1] at m1 m0
    have ll := fMg_l (cv.take j) v1 v2
    rw [List.length_take] at ll
    refine ⟨ch_p x2, fun v55 σ53 => v55 = (cwF true (cv.take (j + 1)) : Int) ∧ toX σ53 D [] [] (fMg (cv.take (j + 1)) v1 v2) 0, ⟨fun y => ?_, fun y => ?_⟩, fun v55 σ53 r55 f53 h53 => ⟨⟨by omega, by omega⟩, n - (j + 1), by omega, j + 1, by omega, by omega, rfl, h53.1, h53.2⟩⟩
    · have c0 := ce.mp y
      have x0 : (cv.getD j (nmF 0)) [] = 0 := Decidable.byContradiction (fun q => c0 (by rw [decide_eq_false q]; rfl))
      rw [x0] at m0
      simp only [decide_true, Bool.true_bne, Bool.not_false, if_true] at m0
      rw [show (j : Int) - (cwF true (cv.take j) : Int) = ((cwF false (cv.take j) : Nat) : Int) by omega]
      have pk : pkX σ24 D (sg_g σ 64 (t + 1)) ((cwF false (cv.take j) : Nat) : Int) (((cwF false (cv.take j) : Nat) : Int) + 1) [v2.getD (cwF false (cv.take j)) (nmF 0)] := by
        refine Or.inr ⟨v2, yX_up ex24 hB, by omega, by omega, by omega, ?_⟩
        rw [Int.toNat_natCast, show (((cwF false (cv.take j) : Nat) : Int) + 1 - ((cwF false (cv.take j) : Nat) : Int)).toNat = 1 by omega, dr_D (by omega : cwF false (cv.take j) < v2.length)]
        rfl
      refine ⟨⟨by omega, by omega⟩, ⟨by omega, by omega⟩, t_pick hI (by omega) pk (sg_Rg _ _ _) ⟨by omega, by omega⟩ (fun σ3 t3 f3 _ => ⟨?_, ?_⟩)⟩
      · rw [tk, cwF_a, cwF_1, if_neg c0]; omega
      · rw [tk, fMg_s, if_pos x0]; exact t3
    · have c1 : (decide ((cv.getD j (nmF 0)) [] = 0) != true) = true := Decidable.byContradiction (fun q => y (ce.mpr q))
      have x0 : ¬ (cv.getD j (nmF 0)) [] = 0 := fun q => by rw [q] at c1; exact absurd c1 (by decide)
      rw [if_pos c1] at m1
      have pk : pkX σ24 D (sg_g σ 64 t) ((cwF true (cv.take j) : Nat) : Int) (((cwF true (cv.take j) : Nat) : Int) + 1) [v1.getD (cwF true (cv.take j)) (nmF 0)] := by
        refine Or.inr ⟨v1, yX_up ex24 hA, by omega, by omega, by omega, ?_⟩
        rw [Int.toNat_natCast, show (((cwF true (cv.take j) : Nat) : Int) + 1 - ((cwF true (cv.take j) : Nat) : Int)).toNat = 1 by omega, dr_D (by omega : cwF true (cv.take j) < v1.length)]
        rfl
      refine ⟨⟨by omega, by omega⟩, t_pick hI (by omega) pk (sg_Rg _ _ _) ⟨by omega, by omega⟩ (fun σ3 t3 f3 _ => ⟨?_, ?_⟩)⟩
      · rw [tk, cwF_a, cwF_1, if_pos c1]; omega
      · rw [tk, fMg_s, if_neg x0]; exact t3
  · intro σ24 f24 hI σ39 e39
    have f39 : sg_F [10061] σ24 σ39 := by rw [e39]; exact sg_F_w (sg_F_r _ _) rfl _
    obtain ⟨τ, eτ⟩ : ∃ τ, τ = sg_w σ17 61 9 D := ⟨_, rfl⟩
    have fτ : sg_F [10061] σ17 τ := by rw [eτ]; exact sg_F_w (sg_F_r _ _) rfl _
    have d9 : sg_g τ 61 9 = D := by rw [eτ, sg_gw_e _ _ _ _ ⟨by omega, by omega⟩]
    have fx : sg_F acL τ σ39 := by rw [eτ, e39]; exact sg_F_y (sg_F_m f24 rfl) _ _ _
    have hP : fP τ t := by
      obtain ⟨q1, q2, q3, q4, q5⟩ := m17
      exact fP_mk ⟨q1, q2, by omega, q5, by omega⟩ fτ (by rw [sg_F_g fτ (by rfl)]; exact t17) (by omega) rfl
    have fστ : sg_F [62, 8061, 10061, 23061, 24061] σ τ := sg_F_t (sg_F_m f17' rfl) (sg_F_m fτ rfl)
    have sτ : ctX τ s := ctX_F fστ rfl hs
    refine f_giveX (D := D) (f := 0) (L := fMg cv v1 v2) (s := s) hP sτ hD d9 (by decide) fx (toX_F hI f39 (yEx_F f39 rfl) rfl) (Or.inl ⟨rfl, rfl, rfl, rfl⟩) (Or.inl rfl) (fun σ' f' r' fr => ?_)
    have F2 : sg_F [64, 78, 79, 80, 81, 82, 85, 86, 87, 8061, 10061, 11061, 11077, 12077, 13077, 14077, 15077, 16077, 17077, 18077, 19077] σ17 σ' := sg_F_t (sg_F_t (sg_F_m f24 rfl) (sg_F_m f39 rfl)) (sg_F_m fr rfl)
    have FF : sg_F jnL σ σ' := sg_F_t (sg_F_m f17' rfl) (sg_F_m F2 rfl)
    unfold gvX at r'
    rw [eX] at r'
    rcases r' with ⟨z1, z2, z3⟩ | ⟨s9, z1, z2, z3, z4, z5, z6, z7, z8, z9, z10⟩
    · exact k1 z1 σ' FF z2 z3
    · have w17 : ∀ q, sg_g τ 77 q = sg_g σ 77 q := fun q => sg_F_ga fστ rfl
      obtain ⟨q1, q2, q3, q4, q5⟩ := hm
      rw [w17] at z10
      have st := (fStp_s z1).1
      obtain ⟨c1, c2, c3, c4, c5⟩ := id z3
      obtain ⟨d1, d2, d3, d4, d5⟩ := id hs
      refine k2 s9 z1 σ' FF ⟨z5, z6, z2, by omega, by omega⟩ z3 (yEx_t (yEx_F fστ rfl) z4) ?_ ?_ z8 z7 (fun i hi => ?_) (fun i x hx => ?_) (fun x hx => ?_)
      · rw [sg_F_g F2 (by rfl)]; exact n17
      · rw [sg_F_g F2 (by rfl), sg_F_g f17 (by rfl), sg_F_g f11 (by rfl), sg_F_g f7 (by rfl)]; exact s1
      · rw [z9 i (by omega), sg_F_ga fστ rfl]
      · rw [sg_F_ga F2 rfl, sg_F_ga f17 rfl, sg_F_ga f11 rfl, sg_F_ga f7 rfl]; exact s2 i x hx
      · rw [sg_F_ga F2 rfl, sg_F_ga f17 rfl, sg_F_ga f11 rfl, sg_F_ga f7 rfl]; exact s3 x hx
theorem nrX_l {K : List Nat} {σ1 σ' : sg_S} {Ob W : List Int} {sl ty : Int → Int} {c : Int} {r : (Int × fSt) ⊕ (fSt × fEv)} (f : sg_F K σ σ1) (ex : yEx σ σ1) (hK : sg_ca K 62 = true) (h : nrX σ1 σ' Ob W sl ty c r) : nrX σ σ' Ob W sl ty c r := by
  cases r with
  | inl p => exact h
  | inr p =>
    obtain ⟨h1, h2, h3, h4, h5⟩ := h
    exact ⟨h1, yEx_t ex h2, h3, h4, fun x hx => by rw [h5 x hx, sg_F_ga f hK]⟩
/-- what is so of each variable that is carried along -/
def cyT (σ : sg_S) (sl ty : Int → Int) (ρ : fEv) (n : Nat) (y : Int) : Prop := (0 ≤ sl y ∧ sl y < 272) ∧ (ty y).toNat ≤ 3 ∧ sg_g σ 34 (sl y) = (ty y).toNat ∧ yX σ (ty y).toNat (sg_g σ 62 (sl y)) (ρ y) ∧ (ρ y).length = n
theorem cyT_F {K : List Nat} {σ1 : sg_S} {sl ty : Int → Int} {ρ : fEv} {n : Nat} {y : Int} (f : sg_F K σ σ1) (ex : yEx σ σ1) (hK : (sg_ca K 34 && sg_ca K 62) = true) (h : cyT σ sl ty ρ n y) : cyT σ1 sl ty ρ n y := by
  simp only [Bool.and_eq_true] at hK
  obtain ⟨h1, h2, h3, h4, h5⟩ := h
  exact ⟨h1, h2, by rw [sg_F_ga f hK.1]; exact h3, by rw [sg_F_ga f hK.2]; exact yX_up ex h4, h5⟩
theorem f_branchX {a x w lo hi bd sv c ch : Int} {n dc : Nat} {b : Bool} {cv : List vaF} {Ob : List Int} {sl ty : Int → Int} {s : fSt} {ρ : fEv} (ha : 0 ≤ a ∧ a < 200) (hx : 0 ≤ x ∧ x < 200) (hm : mC σ c) (hs : ctX σ s) (hc : 4 ≤ c) (h11 : sg_g σ 11 x = lo) (h12 : sg_g σ 12 x = hi) (hl : 0 ≤ lo ∧ hi < 200) (h16 : sg_g σ 16 a = bd) (h69 : sg_g σ 69 a = n) (hn : n ≤ 6000) (h70 : sg_g σ 70 a = ch) (hch : yX σ dc ch cv) (hcl : cv.length = n) (hwb : (w = 1 ∧ b = true) ∨ (w = 0 ∧ b = false)) (hsv : sg_g σ 61 22 = sv) (h0 : 0 ≤ sv ∧ sv ≤ 2400 ∧ sv + (hi - lo + 1) ≤ 2400) (hOs : (Ob.map sl).Pairwise (· < ·)) (hOm : ∀ s, s ∈ Ob.map sl ↔ wnt σ lo hi bd s) (hT : ∀ y ∈ Ob, cyT σ sl ty ρ n y) (k : ∀ σ', sg_F brL σ σ' → nrX σ σ' Ob (Ob.map sl) sl ty c (fCa ty (fWh b cv) Ob s ρ) → (sg_g σ' 61 10 = 0 → sg_g σ' 61 23 = (fWh b cv).length) → sg_g σ' 61 22 = sv + Ob.length → sg_g σ' 71 a = sv → (∀ i, ¬ i = a → sg_g σ' 71 i = sg_g σ 71 i) → svd σ σ' sv (Ob.map sl) → (∀ i, i < sv → sg_g σ' 72 i = sg_g σ 72 i ∧ sg_g σ' 73 i = sg_g σ 73 i) → ((Ob.length : Int) ≤ hi - lo + 1 ∨ Ob = []) → Q σ') : V_fBranch σ a x w Q := by
  unfold V_fBranch
  rw [xa_in ha, xa_in ha, xa_in ha, h16, h69, h70]
  intro σ1 e1
  have f1 : sg_F [22061] σ σ1 := by rw [e1]; exact sg_F_w (sg_F_r _ _) rfl _
  refine f_want (W0 := []) hx (by rw [sg_F_ga f1 rfl]; exact h11) (by rw [sg_F_ga f1 rfl]; exact h12) hl ⟨by rw [e1, sg_gw_e _ _ _ _ (by decide)]; rfl, fun i y hy => by simp at hy, List.Pairwise.nil⟩ (by simp) (fun σ5 W f5 w5 m5 _ => ?_)
  have f5' : sg_F [74, 22061] σ σ5 := sg_F_t (sg_F_m f1 rfl) f5
  have m5' : ∀ s, s ∈ W ↔ wnt σ lo hi bd s := fun s => by
    rw [m5 s, wnt_F f1 rfl]
    exact ⟨fun q => q.resolve_left (by simp), Or.inr⟩
  have eW : W = Ob.map sl := srt_eq w5.2.2 hOs (fun s => by rw [m5' s, hOm s])
  have wN := wl_nd w5.2.2
  have wl1 := wit_len (f := sg_g σ 16) (a := lo) (b := hi) wN (fun s hs => by
    obtain ⟨j, q1, q2, q3, q4, q5⟩ := (m5' s).mp hs
    exact ⟨j, q1, q2, q4⟩)
  have lW : W.length = Ob.length := by rw [eW, List.length_map]
  have wl2 : (W.length : Int) ≤ 200 ∧ sv + W.length ≤ 2400 := by
    rcases wl1 with q | q
    · omega
    · rw [q]; simp only [List.length_nil]; omega
  have hW : ∀ s ∈ W, 0 ≤ s ∧ s < 272 := fun s hs => by
    rw [eW] at hs
    obtain ⟨y, hy, e⟩ := List.mem_map.mp hs
    rw [← e]; exact (hT y hy).1
  refine f_save ha w5 (by omega) hW (sv := sv) (by rw [sg_F_g f5' (by rfl)]; exact hsv) (by omega) (fun σ11 f11 s1 s2 s3 s4 s5 _ => ?_)
  have f11' : sg_F [71, 72, 73, 74, 22061, 23061] σ σ11 := sg_F_t (sg_F_m f5' rfl) (sg_F_m f11 rfl)
  have ex11 : yEx σ σ11 := yEx_F f11' rfl
  have w11 : wl σ11 W := ⟨by rw [sg_F_g f11 (by rfl)]; exact w5.1, fun i y hy => by rw [sg_F_ga f11 rfl]; exact w5.2.1 i y hy, w5.2.2⟩
  refine f_narrowX (W := W) (Ob := Ob) (sl := sl) (ty := ty) (ρ := ρ) (mC_F hm f11' rfl) (ctX_F f11' rfl hs) hc hn (yX_up ex11 hch) hcl hwb w11 (by omega) eW.symm (fun y hy => cyT_F f11' ex11 rfl (hT y hy)) (fun σ' f' r' l' _ => ?_)
  rw [eW] at r' s4
  refine k σ' (sg_F_t (sg_F_m f11' rfl) (sg_F_m f' rfl)) (nrX_l f11' ex11 rfl r') l' (by rw [sg_F_g f' (by rfl), s1, lW]) (by rw [sg_F_ga f' rfl]; exact s2) (fun i hi => by rw [sg_F_ga f' rfl, s3 i hi, sg_F_ga f5' rfl]) (fun i y hy => ?_) (fun i hi => ?_) ?_
  · obtain ⟨t1, t2⟩ := s4 i y hy
    exact ⟨by rw [sg_F_ga f' rfl]; exact t1, by rw [sg_F_ga f' rfl, t2, sg_F_ga f5' rfl]⟩
  · obtain ⟨t1, t2⟩ := s5 i hi
    exact ⟨by rw [sg_F_ga f' rfl, t1, sg_F_ga f5' rfl], by rw [sg_F_ga f' rfl, t2, sg_F_ga f5' rfl]⟩
  · rcases wl1 with q | q
    · left; omega
    · right
      rw [q] at lW
      exact List.eq_nil_of_length_eq_zero lW.symm
end CQS
/-! fork, turn, sift, collect of the class, exactly. -/
/-- after a branch -/
def brX (σ σ' : sg_S) (a sv c : Int) (Ob : List Int) (sl ty : Int → Int) (m : Nat) (r : (Int × fSt) ⊕ (fSt × fEv)) : Prop := nrX σ σ' Ob (Ob.map sl) sl ty c r ∧ (sg_g σ' 61 10 = 0 → sg_g σ' 61 23 = m) ∧ sg_g σ' 61 22 = sv + Ob.length ∧ sg_g σ' 71 a = sv ∧ (∀ i, ¬ i = a → sg_g σ' 71 i = sg_g σ 71 i) ∧ svd σ σ' sv (Ob.map sl) ∧ ∀ i, i < sv → sg_g σ' 72 i = sg_g σ 72 i ∧ sg_g σ' 73 i = sg_g σ 73 i
theorem brX_l {K : List Nat} {σ σ1 σ' : sg_S} {a sv c : Int} {Ob : List Int} {sl ty : Int → Int} {m : Nat} {r : (Int × fSt) ⊕ (fSt × fEv)} (f : sg_F K σ σ1) (ex : yEx σ σ1) (hK : (sg_ca K 62 && sg_ca K 71 && sg_ca K 72 && sg_ca K 73) = true) (h : brX σ1 σ' a sv c Ob sl ty m r) : brX σ σ' a sv c Ob sl ty m r := by
  simp only [Bool.and_eq_true] at hK
  obtain ⟨⟨⟨l1, l2⟩, l3⟩, l4⟩ := hK
  obtain ⟨h1, h2, h3, h4, h5, h6, h7⟩ := h
  refine ⟨nrX_l f ex l1 h1, h2, h3, h4, fun i hi => by rw [h5 i hi, sg_F_ga f l2], fun i y hy => ?_, fun i hi => ?_⟩
  · obtain ⟨u1, u2⟩ := h6 i y hy
    exact ⟨u1, by rw [u2, sg_F_ga f l1]⟩
  · obtain ⟨u1, u2⟩ := h7 i hi
    exact ⟨by rw [u1, sg_F_ga f l3], by rw [u2, sg_F_ga f l4]⟩
section CRS
variable {σ : sg_S} {Q : sg_S → Prop}
theorem f_forkX {a x lo hi bd sv c t : Int} {n dc : Nat} {cv : List vaF} {Ob : List Int} {sl ty : Int → Int} {s : fSt} {ρ : fEv} (ha : 0 ≤ a ∧ a < 200) (hx : 0 ≤ x ∧ x < 200) (h2 : v_tSecond σ a = x) (hm : mC σ c) (hs : ctX σ s) (hc : 4 ≤ c) (ht : sg_g σ 61 7 = t + 1) (h0 : 0 ≤ t ∧ t < 400) (h11 : sg_g σ 11 x = lo) (h12 : sg_g σ 12 x = hi) (hl : 0 ≤ lo ∧ hi < 200) (h16 : sg_g σ 16 a = bd) (h69 : sg_g σ 69 a = n) (hn : n ≤ 6000) (hch : yX σ dc (sg_g σ 64 t) cv) (hcl : cv.length = n) (hsv : sg_g σ 61 22 = sv) (hs0 : 0 ≤ sv ∧ sv ≤ 2400 ∧ sv + (hi - lo + 1) ≤ 2400) (hOs : (Ob.map sl).Pairwise (· < ·)) (hOm : ∀ s, s ∈ Ob.map sl ↔ wnt σ lo hi bd s) (hT : ∀ y ∈ Ob, cyT σ sl ty ρ n y) (k : ∀ σ', sg_F (70 :: 8061 :: brL) σ σ' → brX σ σ' a sv c Ob sl ty (fWh true cv).length (fCa ty (fWh true cv) Ob s ρ) → ((Ob.length : Int) ≤ hi - lo + 1 ∨ Ob = []) → sg_g σ' 61 7 = t → sg_g σ' 70 a = sg_g σ 64 t → (∀ i, ¬ i = a → sg_g σ' 70 i = sg_g σ 70 i) → Q σ') : V_fFork σ a Q := by
  unfold V_fFork
  rw [h2]
  refine y_pop ht h0 (fun σ2 f2 t2 _ _ σ7 e7 => ?_)
  rw [xp_in ha] at e7
  have f7 : sg_F [70] σ2 σ7 := by rw [e7]; exact sg_F_w (sg_F_r _ _) rfl _
  have F7 : sg_F [70, 8061] σ σ7 := sg_F_t (sg_F_m f2 rfl) (sg_F_m f7 rfl)
  have g70 : sg_g σ7 70 a = sg_g σ 64 t := by rw [e7, sg_gw_e _ _ _ _ (sg_Rg _ _ _)]
  have ex7 : yEx σ σ7 := yEx_F F7 rfl
  refine f_branchX (lo := lo) (hi := hi) (bd := bd) (n := n) (sv := sv) (b := true) (Ob := Ob) (sl := sl) (ty := ty) (ρ := ρ) ha hx (mC_F hm F7 rfl) (ctX_F F7 rfl hs) hc (by rw [sg_F_ga F7 rfl]; exact h11) (by rw [sg_F_ga F7 rfl]; exact h12) hl (by rw [sg_F_ga F7 rfl]; exact h16) (by rw [sg_F_ga F7 rfl]; exact h69) hn g70 (yX_up ex7 hch) hcl (Or.inl ⟨rfl, rfl⟩) (by rw [sg_F_g F7 (by rfl)]; exact hsv) hs0 hOs (fun s => by rw [hOm s, wnt_F F7 rfl]) (fun y hy => cyT_F F7 ex7 rfl (hT y hy)) (fun σ' f' r1 r2 r3 r4 r5 r6 r7 r8 _ => ?_)
  refine k σ' (sg_F_t (sg_F_m F7 rfl) (sg_F_m f' rfl)) (brX_l F7 ex7 rfl ⟨r1, r2, r3, r4, r5, r6, r7⟩) r8 ?_ ?_ (fun i hi => ?_)
  · rw [sg_F_g f' (by rfl), sg_F_g f7 (by rfl)]; exact t2
  · rw [sg_F_ga f' rfl]; exact g70
  · rw [sg_F_ga f' rfl, e7, sg_gw_k _ _ _ _ _ _ hi, sg_F_ga f2 rfl]
theorem f_turnX {W1 : List Int} {a x lo hi bd sv c ch : Int} {n dc : Nat} {cv : List vaF} {Ob : List Int} {sl ty : Int → Int} {s : fSt} {ρ : fEv} (ha : 0 ≤ a ∧ a < 200) (hx : 0 ≤ x ∧ x < 200) (h8 : sg_g σ 8 a = x) (hm : mC σ c) (hs : ctX σ s) (hc : 4 ≤ c) (h11 : sg_g σ 11 x = lo) (h12 : sg_g σ 12 x = hi) (hl : 0 ≤ lo ∧ hi < 200) (h16 : sg_g σ 16 a = bd) (h69 : sg_g σ 69 a = n) (hn : n ≤ 6000) (h70 : sg_g σ 70 a = ch) (hch : yX σ dc ch cv) (hcl : cv.length = n) (h71 : sg_g σ 71 a = sv) (hsv : sg_g σ 61 22 = sv + W1.length) (hs0 : 0 ≤ sv ∧ sv ≤ 2400 ∧ sv + (hi - lo + 1) ≤ 2400 ∧ sv + W1.length ≤ 2400) (hN : W1.Nodup) (hW : ∀ x ∈ W1, 0 ≤ x ∧ x < 272) (h72 : ∀ (i : Nat) (x : Int), W1[i]? = some x → sg_g σ 72 (sv + i) = x) (hOs : (Ob.map sl).Pairwise (· < ·)) (hOm : ∀ s, s ∈ Ob.map sl ↔ wnt σ lo hi bd s) (hT : ∀ σ2, sg_F [62, 23061] σ σ2 → (∀ (i : Nat) (x : Int), W1[i]? = some x → sg_g σ2 62 x = sg_g σ 73 (sv + i)) → (∀ x, x ∉ W1 → sg_g σ2 62 x = sg_g σ 62 x) → ∀ y ∈ Ob, cyT σ2 sl ty ρ n y) (k : ∀ σ2 σ', sg_F brL σ σ' → sg_F [62, 23061] σ σ2 → (∀ (i : Nat) (x : Int), W1[i]? = some x → sg_g σ2 62 x = sg_g σ 73 (sv + i)) → (∀ x, x ∉ W1 → sg_g σ2 62 x = sg_g σ 62 x) → brX σ2 σ' a sv c Ob sl ty (fWh false cv).length (fCa ty (fWh false cv) Ob s ρ) → ((Ob.length : Int) ≤ hi - lo + 1 ∨ Ob = []) → Q σ') : V_fTurn σ a Q := by
  unfold V_fTurn
  rw [xa_in ha, h8]
  refine f_restore ha h71 hsv (by omega) hN hW h72 (fun σ2 f2 s1 s2 s3 _ => ?_)
  have ex2 : yEx σ σ2 := yEx_F f2 rfl
  refine f_branchX (lo := lo) (hi := hi) (bd := bd) (n := n) (sv := sv) (b := false) (Ob := Ob) (sl := sl) (ty := ty) (ρ := ρ) ha hx (mC_F hm f2 rfl) (ctX_F f2 rfl hs) hc (by rw [sg_F_ga f2 rfl]; exact h11) (by rw [sg_F_ga f2 rfl]; exact h12) hl (by rw [sg_F_ga f2 rfl]; exact h16) (by rw [sg_F_ga f2 rfl]; exact h69) hn (by rw [sg_F_ga f2 rfl]; exact h70) (yX_up ex2 hch) hcl (Or.inr ⟨rfl, rfl⟩) s1 (by omega) hOs (fun s => by rw [hOm s, wnt_F f2 rfl]) (hT σ2 f2 s2 s3) (fun σ' f' r1 r2 r3 r4 r5 r6 r7 r8 _ => k σ2 σ' (sg_F_t (sg_F_m f2 rfl) (sg_F_m f' rfl)) f2 s2 s3 ⟨r1, r2, r3, r4, r5, r6, r7⟩ r8)
theorem f_siftX {a x lo hi bd g c t : Int} {n n0 dg dc : Nat} {v0 cv : List vaF} {Ob : List Int} {sl ty : Int → Int} {s : fSt} {ρ : fEv} (ha : 0 ≤ a ∧ a < 200) (hx : 0 ≤ x ∧ x < 200) (h8 : sg_g σ 8 a = x) (h11 : sg_g σ 11 x = lo) (h12 : sg_g σ 12 x = hi) (hl : 0 ≤ lo ∧ hi < 200) (h16 : sg_g σ 16 a = bd) (h13 : sg_g σ 13 a = g) (hbd : 0 ≤ bd ∧ 0 ≤ g ∧ bd + g ≤ 272) (hm : mC σ c) (hs : ctX σ s) (hc : 4 ≤ c) (ht : sg_g σ 61 7 = t + 1) (h0 : 0 ≤ t ∧ t < 400) (h23 : sg_g σ 61 23 = n) (hn : n ≤ 6000) (h69 : sg_g σ 69 a = n0) (hn0 : n0 ≤ 6000) (hG : yX σ (dg + 1) (sg_g σ 70 a) v0) (hv0 : v0.length = n0) (hmm : (v0.map (fun v => (itF v).length)).sum = cv.length) (hch : yX σ dc (sg_g σ 64 t) cv) (hcl : cv.length = n) (hOs : (Ob.map sl).Pairwise (· < ·)) (hOm : ∀ s, s ∈ Ob.map sl ↔ wnt σ lo hi (bd + g) s) (hT : ∀ y ∈ Ob, cyT σ sl ty ρ n y) (k0 : ∀ p, fCa ty (fWh true cv) Ob s ρ = .inl p → ∀ σ', sg_F sfL σ σ' → ¬ p.1 = 0 → sg_g σ' 61 10 = p.1 → ctX σ' p.2 → Q σ') (k1 : ∀ s5 ρ6, fCa ty (fWh true cv) Ob s ρ = .inr (s5, ρ6) → fStp (n0 : Int) s5 = none → ∀ σ', sg_F sfL σ σ' → sg_g σ' 61 10 = 8 → ctX σ' s5 → Q σ') (k2 : ∀ s5 ρ6, fCa ty (fWh true cv) Ob s ρ = .inr (s5, ρ6) → ∀ s6, fStp (n0 : Int) s5 = some s6 → ∀ σ', sg_F sfL σ σ' → nrX σ σ' Ob (Ob.map sl) sl ty c (.inr (s6, ρ6)) → sg_g σ' 61 23 = (fWh true cv).length → sg_g σ' 61 7 = t → (∀ i, ¬ i = a → sg_g σ' 70 i = sg_g σ 70 i) → rwX σ' (sg_g σ' 70 a) (ctL (v0.map (fun v => (itF v).length)) cv) → Q σ') : V_fSift σ a Q := by
  generalize hch0 : sg_g σ 64 t = ch at *
  unfold V_fSift
  rw [xa_in (a := 16) ha, xa_in (a := 13) ha, xa_in (a := 8) ha, h16, h13, h8, h23]
  refine y_pop ht h0 (fun σ2 f2 t2 _ _ σ7 e7 => ⟨⟨by omega, by omega⟩, ?_⟩)
  rw [hch0]
  have f7 : sg_F [22061] σ2 σ7 := by rw [e7]; exact sg_F_w (sg_F_r _ _) rfl _
  have F7 : sg_F [8061, 22061] σ σ7 := sg_F_t (sg_F_m f2 rfl) (sg_F_m f7 rfl)
  refine f_want (W0 := []) (lo := lo) (hi := hi) hx (by rw [sg_F_ga F7 rfl]; exact h11) (by rw [sg_F_ga F7 rfl]; exact h12) hl ⟨by rw [e7, sg_gw_e _ _ _ _ (by decide)]; rfl, fun i y hy => by simp at hy, List.Pairwise.nil⟩ (by simp) (fun σ12 W f12 w12 m12 _ => ?_)
  have F12 : sg_F [74, 8061, 22061] σ σ12 := sg_F_t (sg_F_m F7 rfl) (sg_F_m f12 rfl)
  have m12' : ∀ s, s ∈ W ↔ wnt σ lo hi (bd + g) s := fun s => by
    rw [m12 s, wnt_F F7 rfl]
    exact ⟨fun q => q.resolve_left (by simp), Or.inr⟩
  have eW : W = Ob.map sl := srt_eq w12.2.2 hOs (fun s => by rw [m12' s, hOm s])
  have wl1 := wit_len (f := sg_g σ 16) (a := lo) (b := hi) (wl_nd w12.2.2) (fun s hs => by
    obtain ⟨j, q1, q2, q3, q4, q5⟩ := (m12' s).mp hs
    exact ⟨j, q1, q2, q4⟩)
  have wl2 : W.length ≤ 200 := by
    rcases wl1 with q | q
    · omega
    · rw [q]; simp
  have ex12 : yEx σ σ12 := yEx_F F12 rfl
  refine f_narrowX (W := W) (Ob := Ob) (sl := sl) (ty := ty) (ρ := ρ) (b := true) (mC_F hm F12 rfl) (ctX_F F12 rfl hs) hc hn (yX_up ex12 hch) hcl (Or.inl ⟨rfl, rfl⟩) w12 wl2 eW.symm (fun y hy => cyT_F F12 ex12 rfl (hT y hy)) (fun σ18 f18 r18 l18 _ => ?_)
  have F18 : sg_F sfL σ σ18 := sg_F_t (sg_F_m F12 rfl) (sg_F_m f18 rfl)
  have r18 := nrX_l F12 ex12 rfl r18
  rw [eW] at r18
  cases e : fCa ty (fWh true cv) Ob s ρ with
  | inl p =>
    rw [e] at r18
    obtain ⟨q1, q2, q3⟩ := r18
    exact ⟨fun _ => k0 p e σ18 F18 q1 q2 q3, fun z => absurd (q2.symm.trans z) q1⟩
  | inr p =>
    obtain ⟨s5, ρ6⟩ := p
    rw [e] at r18
    obtain ⟨r1, r2, r3, r4, r5⟩ := r18
    refine ⟨fun z => absurd r1.2.2.1 z, fun z0 => ?_⟩
    have g70 : sg_g σ18 70 a = sg_g σ 70 a := by rw [sg_F_ga f18 rfl, sg_F_ga F12 rfl]
    refine f_shortenX (dg := dg) (n := n0) (v0 := v0) (cv := cv) (s := s5) ha r1 r3 hc (by rw [sg_F_ga f18 rfl, sg_F_ga F12 rfl]; exact h69) hn0 (by rw [g70]; exact yX_up r2 hG) hv0 hmm (yX_up r2 hch) (fun z σ' f' q1 q2 _ => k1 s5 ρ6 e z σ' (sg_F_t F18 (sg_F_m f' rfl)) q1 q2) (fun s6 z σ' f' u1 u2 u3 u4 u5 _ => ?_)
    refine k2 s5 ρ6 e s6 z σ' (sg_F_t F18 (sg_F_m f' rfl)) ⟨u1, yEx_t r2 u3, u2, fun y hy => ?_, fun x hx => ?_⟩ ?_ ?_ (fun i hi => ?_) u5
    · rw [sg_F_ga f' rfl]; exact yX_up u3 (r4 y hy)
    · rw [sg_F_ga f' rfl]; exact r5 x hx
    · rw [sg_F_g f' (by rfl)]; exact l18 z0
    · rw [sg_F_g f' (by rfl), sg_F_g f18 (by rfl), sg_F_g f12 (by rfl), sg_F_g f7 (by rfl)]; exact t2
    · rw [u4 i hi, sg_F_ga f18 rfl, sg_F_ga F12 rfl]
theorem f_collectX {W : List Int} {a sb t c : Int} {d : Nat} {ln : List Nat} {v : List vaF} {s : fSt} (ha : 0 ≤ a ∧ a < 200) (hm : mC σ c) (hs : ctX σ s) (hc : 1 ≤ c) (ht : sg_g σ 61 7 = t + 1) (h0 : 0 ≤ t ∧ t < 400) (h69 : sg_g σ 69 a = ln.length) (hG : rwX σ (sg_g σ 70 a) ln) (hit : yX σ d (sg_g σ 64 t) v) (hsum : ln.sum = v.length) (h71 : sg_g σ 71 a = sb) (h22 : sg_g σ 61 22 = sb + W.length) (hs0 : 0 ≤ sb ∧ sb + W.length ≤ 2400) (hN : W.Nodup) (hW : ∀ x ∈ W, 0 ≤ x ∧ x < 272) (h72 : ∀ (i : Nat) (x : Int), W[i]? = some x → sg_g σ 72 (sb + i) = x) (k : ∀ σ', sg_F [62, 64, 79, 80, 81, 82, 8061, 11077, 23061, 24061] σ σ' → mC σ' (c - 1) → ctX σ' s → yEx σ σ' → sg_g σ' 61 23 = ln.length → sg_g σ' 61 22 = sb → sg_g σ' 61 7 = t + 1 → yX σ' (d + 1) (sg_g σ' 64 t) (fCt ln v) → (∀ i, i < t → sg_g σ' 64 i = sg_g σ 64 i) → (∀ (i : Nat) (x : Int), W[i]? = some x → sg_g σ' 62 x = sg_g σ 73 (sb + i)) → (∀ x, x ∉ W → sg_g σ' 62 x = sg_g σ 62 x) → Q σ') : V_fCollect σ a Q := by
  obtain ⟨m1, m2, m3, m4, m5⟩ := id hm
  unfold V_fCollect
  rw [xa_in ha, xa_in ha, h69]
  refine y_pop ht h0 (fun σ2 f2 t2 _ _ => ?_)
  refine f_restore (W := W) (sb := sb) ha (by rw [sg_F_ga f2 rfl]; exact h71) (by rw [sg_F_g f2 (by rfl)]; exact h22) hs0 hN hW (fun i x hx => by rw [sg_F_ga f2 rfl]; exact h72 i x hx) (fun σ8 f8 s1 s2 s3 _ σ13 e13 => ?_)
  have f13 : sg_F [24061] σ8 σ13 := by rw [e13]; exact sg_F_w (sg_F_r _ _) rfl _
  have F13 : sg_F [62, 8061, 23061, 24061] σ σ13 := sg_F_t (sg_F_t (sg_F_m f2 rfl) (sg_F_m f8 rfl)) (sg_F_m f13 rfl)
  have ex13 : yEx σ σ13 := yEx_F F13 rfl
  have w13 : ∀ q, sg_g σ13 77 q = sg_g σ 77 q := fun q => sg_F_ga F13 rfl
  have G0 := hG.1.2
  have u6 := m1.2.1
  refine x_bundle (d := d) (ln := ln) (v := v) (yG_F m1 F13 rfl) (by rw [w13]; omega) (rwX_up ex13 hG) (yX_up ex13 hit) hsum (fun σ17 f17 x1 x2 x3 x4 r16 _ => ?_)
  refine y_push (t := t) (by rw [sg_F_g f17 (by rfl), sg_F_g f13 (by rfl), sg_F_g f8 (by rfl)]; exact t2) h0 r16 (fun σ23 f23 p1 p2 p3 _ => ?_)
  have F23 : sg_F [62, 64, 79, 80, 81, 82, 8061, 11077, 23061, 24061] σ σ23 := sg_F_t (sg_F_t (sg_F_m F13 rfl) (sg_F_m f17 rfl)) (sg_F_m f23 rfl)
  have ex23 : yEx σ17 σ23 := yEx_F f23 rfl
  refine k σ23 F23 ⟨yG_F x2 f23 rfl, ?_, by rw [sg_F_g F23 (by rfl)]; exact m3, ?_, by rw [sg_F_g F23 (by rfl)]; exact m5⟩ (ctX_F F23 rfl hs) (yEx_t ex13 (yEx_t x1 ex23)) ?_ ?_ p1 ?_ (fun i hi => ?_) (fun i x hx => ?_) (fun x hx => ?_)
  · exact y0_F (y0_F (y0_F m2 F13 rfl) f17 rfl) f23 rfl
  · rw [sg_F_g f23 (by rfl), x4, w13, sg_F_g F23 (by rfl)]; omega
  · rw [sg_F_g f23 (by rfl), sg_F_g f17 (by rfl), e13, sg_gw_e _ _ _ _ ⟨by omega, by have := G0.2.1; omega⟩]
  · rw [sg_F_g f23 (by rfl), sg_F_g f17 (by rfl), sg_F_g f13 (by rfl)]; exact s1
  · rw [p2]; exact yX_up ex23 x3
  · rw [p3 i (by omega), sg_F_ga f17 rfl, sg_F_ga F13 rfl]
  · rw [sg_F_ga f23 rfl, sg_F_ga f17 rfl, sg_F_ga f13 rfl, s2 i x hx, sg_F_ga f2 rfl]
  · rw [sg_F_ga f23 rfl, sg_F_ga f17 rfl, sg_F_ga f13 rfl, s3 x hx, sg_F_ga f2 rfl]
end CRS
/-! open of the class, exactly. -/
section CSA
variable {σ : sg_S}
theorem f_asLongX {Q : Int → sg_S → Prop} {g n t : Int} (gg : yG σ) (hg : 1 ≤ g ∧ g ≤ 4) (hn : 0 ≤ n) (h23 : sg_g σ 61 23 = n) (ht : sg_g σ 61 7 = t) (h0 : 0 ≤ t ∧ t + g ≤ 400) (hv : ∀ i : Nat, (i : Int) < g → yRw σ (sg_g σ 64 (t + i)) n) (k0 : ∀ (i j : Nat), (i : Int) < g → (j : Int) < n → ¬ v_lCell σ (sg_g σ 64 (t + i)) j = v_lCell σ (sg_g σ 64 t) j → Q 0 σ) (k1 : (∀ (i j : Nat), (i : Int) < g → (j : Int) < n → v_lCell σ (sg_g σ 64 (t + i)) j = v_lCell σ (sg_g σ 64 t) j) → Q 1 σ) : V_fAsLong σ g Q := by
  unfold V_fAsLong
  rw [h23, ht, xa_in (a := 64) ⟨by omega, by omega⟩]
  have v0 := hv 0 (by omega)
  rw [show t + ((0 : Nat) : Int) = t by omega] at v0
  refine ⟨fun m v => ∃ j : Nat, v = j ∧ (j : Int) ≤ n ∧ m = n.toNat - j ∧ ∀ (i j' : Nat), (i : Int) < g → j' < j → v_lCell σ (sg_g σ 64 (t + i)) j' = v_lCell σ (sg_g σ 64 t) j', ∀ (i j : Nat), (i : Int) < g → (j : Int) < n → v_lCell σ (sg_g σ 64 (t + i)) j = v_lCell σ (sg_g σ 64 t) j, ⟨_, 0, rfl, by omega, rfl, fun i j' _ h => by omega⟩, ?_, k1⟩
  rintro m v rv ⟨j, rfl, hj, hm, hI⟩
  refine ⟨fun z i j' hi hj' => hI i j' hi (by omega), fun z => ⟨(y_cell gg v0 ⟨by omega, z⟩).2, fun m2 v19 => ∃ i : Nat, v19 = i ∧ 1 ≤ i ∧ (i : Int) ≤ g ∧ m2 = 4 - i ∧ ∀ i' : Nat, i' < i → v_lCell σ (sg_g σ 64 (t + i')) j = v_lCell σ (sg_g σ 64 t) j, ∀ i : Nat, (i : Int) < g → v_lCell σ (sg_g σ 64 (t + i)) j = v_lCell σ (sg_g σ 64 t) j, ⟨_, 1, rfl, by omega, by omega, rfl, fun i' hi' => by rw [show i' = 0 by omega, show t + ((0 : Nat) : Int) = t by omega]⟩, ?_, fun hX => ⟨⟨by omega, by have := rv.2; have := gg.2.1; have := v0.2.2.2; omega⟩, n.toNat - (j + 1), by omega, j + 1, by omega, by omega, rfl, fun i j' hi hj' => ?_⟩⟩⟩
  · rintro m2 v19 r19 ⟨i, rfl, i1, i2, hm2, hI2⟩
    refine ⟨fun y i' hi' => hI2 i' (by omega), fun y => ⟨fun y2 i' hi' => hI2 i' (by omega), fun y2 => ?_⟩⟩
    rw [xa_in (a := 64) ⟨by omega, by omega⟩]
    refine ⟨⟨by omega, by omega⟩, (y_cell gg (hv i y) ⟨by omega, z⟩).2, fun e => ⟨⟨by omega, by omega⟩, 4 - (i + 1), by omega, i + 1, by omega, by omega, by omega, rfl, fun i' hi' => ?_⟩, fun e2 => k0 i j y z e2⟩
    by_cases q : i' = i
    · rw [q]; exact e
    · exact hI2 i' (by omega)
  · by_cases q : j' = j
    · rw [q]; exact hX i hi
    · exact hI i j' hi (by omega)
end CSA
/-- after open -/
def opX2 (σ σ' : sg_S) (a g t sv c bd : Int) (dg : Nat → Nat) (Ob : List Int) (sl ty : Int → Int) (vs : List (List vaF)) (s3 : fSt) (ρ3 : fEv) : Prop := mC σ' c ∧ yEx σ σ' ∧ ctX σ' s3 ∧ (∀ y ∈ Ob, yX σ' (ty y).toNat (sg_g σ' 62 (sl y)) (ρ3 y)) ∧ (∀ i : Nat, i < vs.length → yX σ' (dg i) (sg_g σ' 62 (bd + i)) (flF (vs.getD i []))) ∧ (∀ s, s ∉ Ob.map sl → ¬ (bd ≤ s ∧ s < bd + g) → sg_g σ' 62 s = sg_g σ 62 s) ∧ sg_g σ' 61 23 = (((vs.getD 0 []).map (fun v => (itF v).length)).sum : Nat) ∧ sg_g σ' 61 7 = t ∧ sg_g σ' 70 a = sg_g σ 64 t ∧ (∀ i, ¬ i = a → sg_g σ' 70 i = sg_g σ 70 i) ∧ sg_g σ' 61 22 = sv + Ob.length ∧ sg_g σ' 71 a = sv ∧ (∀ i, ¬ i = a → sg_g σ' 71 i = sg_g σ 71 i) ∧ svd σ σ' sv (Ob.map sl) ∧ ∀ i, i < sv → sg_g σ' 72 i = sg_g σ 72 i ∧ sg_g σ' 73 i = sg_g σ 73 i
section CSS
variable {σ : sg_S} {Q : sg_S → Prop}
theorem f_openX {a g t sv c bd lo hi gd glo ghi plo phi x : Int} {n : Nat} {dg : Nat → Nat} {vs : List (List vaF)} {Ob : List Int} {sl ty : Int → Int} {s : fSt} {ρ : fEv} (ha : 0 ≤ a ∧ a < 200) (hx : 0 ≤ x ∧ x < 200) (h13 : sg_g σ 13 a = g) (hg : 1 ≤ g ∧ g ≤ 4) (h8 : sg_g σ 8 a = x) (h11 : sg_g σ 11 x = lo) (h12 : sg_g σ 12 x = hi) (h14 : sg_g σ 14 a = gd) (hgd : 0 ≤ gd → gd < 200 ∧ sg_g σ 11 gd = glo ∧ sg_g σ 12 gd = ghi ∧ plo ≤ glo ∧ ghi ≤ phi) (hpp : plo ≤ lo ∧ hi ≤ phi ∧ 0 ≤ plo ∧ phi < 200) (h16 : sg_g σ 16 a = bd) (hbd : 0 ≤ bd ∧ bd + g ≤ 272) (hm : mC σ c) (hs : ctX σ s) (hc : 4 ≤ c) (ht : sg_g σ 61 7 = t + g) (h0 : 0 ≤ t ∧ t + g ≤ 400) (h23 : sg_g σ 61 23 = n) (hn : n ≤ 6000) (hgl : (vs.length : Int) = g) (hv : ∀ i : Nat, (i : Int) < g → yX σ (dg i + 1) (sg_g σ 64 (t + i)) (vs.getD i []) ∧ (vs.getD i []).length = n) (hsv : sg_g σ 61 22 = sv) (hs0 : 0 ≤ sv ∧ sv ≤ 2400 ∧ sv + (phi - plo + 1) ≤ 2400) (hOs : (Ob.map sl).Pairwise (· < ·)) (hOm : ∀ s, s ∈ Ob.map sl ↔ opU σ lo hi gd glo ghi bd s) (hT : ∀ y ∈ Ob, cyT σ sl ty ρ n y) (k0 : ¬ eaE n vs → ∀ σ', sg_F onL σ σ' → sg_g σ' 61 10 = 3 → ctX σ' s → Q σ') (k1 : eaE n vs → ∀ p, fCa ty (fRp n ((vs.getD 0 []).map (fun v => (itF v).length))) Ob s ρ = .inl p → ∀ σ', sg_F onL σ σ' → ¬ p.1 = 0 → sg_g σ' 61 10 = p.1 → ctX σ' p.2 → Q σ') (k2 : eaE n vs → ∀ s3 ρ3, fCa ty (fRp n ((vs.getD 0 []).map (fun v => (itF v).length))) Ob s ρ = .inr (s3, ρ3) → ∀ σ', sg_F onL σ σ' → opX2 σ σ' a g t sv c bd dg Ob sl ty vs s3 ρ3 → ((Ob.length : Int) ≤ phi - plo + 1 ∨ Ob = []) → Q σ') : V_fOpen σ a Q := by
  obtain ⟨v0, v0l⟩ := hv 0 (by omega)
  rw [show t + ((0 : Nat) : Int) = t by omega] at v0
  obtain ⟨ln, hln⟩ : ∃ ln, ln = (vs.getD 0 []).map (fun v => (itF v).length) := ⟨_, rfl⟩
  rw [← hln] at k1 k2
  unfold V_fOpen
  rw [xa_in (a := 13) ha, xa_in (a := 8) ha, xa_in (a := 14) ha, xa_in (a := 16) ha, h13, h8, h14, h16, ht, show t + g - g = t by omega, xa_in (a := 64) ⟨by omega, by omega⟩]
  refine ⟨⟨by omega, by omega⟩, fun σ2 e2 => ?_⟩
  have f2 : sg_F [8061] σ σ2 := by rw [e2]; exact sg_F_w (sg_F_r _ _) rfl _
  have t2 : sg_g σ2 61 7 = t := by rw [e2, sg_gw_e _ _ _ _ ⟨by omega, by omega⟩]
  have ex2 : yEx σ σ2 := yEx_F f2 rfl
  have g2 : yG σ2 := yG_F hm.1 f2 rfl
  have cel : ∀ (i j : Nat), (i : Int) < g → j < n → v_lCell σ2 (sg_g σ2 64 (t + i)) j = ((vs.getD i []).getD j (nmF 0)) [] := fun i j hi hj => by
    rw [sg_F_ga f2 rfl]
    exact (yX_cell g2 (yX_up ex2 (hv i hi).1) (i := j) (by rw [(hv i hi).2]; exact hj)).1
  refine f_asLongX (n := n) g2 hg (by omega) (by rw [sg_F_g f2 (by rfl)]; exact h23) t2 h0 (fun i hi => by rw [sg_F_ga f2 rfl, ← (hv i hi).2]; exact yRw_up ex2 (yX_c (hv i hi).1).1) (fun i j hi hj hne _ => ⟨fun z => absurd rfl z, fun _ σ80 e80 => ?_⟩) (fun hsame _ => ⟨fun _ σ12 e12 σ15 e15 => ?_, fun z => absurd z (by decide)⟩)
  · have f80 : sg_F [11061] σ2 σ80 := by rw [e80]; exact sg_F_w (sg_F_r _ _) rfl _
    refine k0 (fun hE => hne ?_) σ80 (sg_F_t (sg_F_m f2 rfl) (sg_F_m f80 rfl)) (by rw [e80, sg_gw_e _ _ _ _ (by decide)]) (ctX_F (L := [8061, 11061]) (sg_F_t (sg_F_m f2 rfl) (sg_F_m f80 rfl)) rfl hs)
    have c0 := cel 0 j (by omega) (by omega)
    rw [show t + ((0 : Nat) : Int) = t by omega] at c0
    rw [cel i j hi (by omega), c0]
    refine hE j (by omega) _ ?_
    rw [List.getD_eq_getElem?_getD, List.getElem?_eq_getElem (by omega : i < vs.length)]
    exact List.getElem_mem _
  · have hE : eaE n vs := fun i hi l hl => by
      obtain ⟨q, hq⟩ := List.mem_iff_getElem?.mp hl
      have hql := gE_l hq
      have c0 := cel 0 i (by omega) hi
      rw [show t + ((0 : Nat) : Int) = t by omega] at c0
      have c1 := cel q i (by omega) hi
      rw [hsame q i (by omega) (by omega), c0] at c1
      have e : vs.getD q [] = l := by rw [List.getD_eq_getElem?_getD, hq]; rfl
      rw [e] at c1
      exact c1.symm
    have k1 := k1 hE
    have k2 := k2 hE
    rw [xp_in ha] at e12
    have f12 : sg_F [70] σ2 σ12 := by rw [e12]; exact sg_F_w (sg_F_r _ _) rfl _
    have g70 : sg_g σ12 70 a = sg_g σ 64 t := by rw [e12, sg_gw_e _ _ _ _ (sg_Rg _ _ _)]
    have f15 : sg_F [22061] σ12 σ15 := by rw [e15]; exact sg_F_w (sg_F_r _ _) rfl _
    have F15 : sg_F [70, 8061, 22061] σ σ15 := sg_F_t (sg_F_t (sg_F_m f2 rfl) (sg_F_m f12 rfl)) (sg_F_m f15 rfl)
    rw [xa_in (a := 70) ha, g70]
    refine f_want (W0 := []) (lo := lo) (hi := hi) hx (by rw [sg_F_ga F15 rfl]; exact h11) (by rw [sg_F_ga F15 rfl]; exact h12) (by omega) ⟨by rw [e15, sg_gw_e _ _ _ _ (by decide)]; rfl, fun i y hy => by simp at hy, List.Pairwise.nil⟩ (by simp) (fun σ19 W1 f19 w19 m19 _ => ?_)
    have F19 : sg_F [70, 74, 8061, 22061] σ σ19 := sg_F_t (sg_F_m F15 rfl) (sg_F_m f19 rfl)
    have m19' : ∀ s, s ∈ W1 ↔ wnt σ lo hi bd s := fun s => by
      rw [m19 s, wnt_F F15 rfl]
      exact ⟨fun q => q.resolve_left (by simp), Or.inr⟩
    refine ⟨fun σ27 => ∃ W, wl σ27 W ∧ ∀ s, s ∈ W ↔ opU σ lo hi gd glo ghi bd s, ⟨fun z => ⟨W1, w19, fun s => by rw [m19' s]; unfold opU; exact ⟨Or.inl, fun q => q.resolve_right (fun r => by omega)⟩⟩, fun z => ?_⟩, ?_⟩
    · obtain ⟨z1, z2, z3, z4, z5⟩ := hgd z
      refine f_want (W0 := W1) (lo := glo) (hi := ghi) ⟨z, z1⟩ (by rw [sg_F_ga F19 rfl]; exact z2) (by rw [sg_F_ga F19 rfl]; exact z3) (by omega) w19 (fun s hs => ?_) (fun σ75 W f75 w75 m75 _ => ⟨W, w75, fun s => ?_⟩)
      · obtain ⟨j, q1, q2, q3, q4, q5⟩ := (m19' s).mp hs
        exact ⟨j, by omega, by omega, by rw [sg_F_ga F19 rfl]; exact q4⟩
      · rw [m75 s, m19' s, wnt_F F19 rfl]
        unfold opU
        exact ⟨fun q => q.imp id (fun r => ⟨z, r⟩), fun q => q.imp id (fun r => r.2)⟩
    · rintro σ27 f27 ⟨W, w27, m27⟩
      have F27 : sg_F [70, 74, 8061, 22061] σ σ27 := sg_F_t F19 (sg_F_m f27 rfl)
      have wN := wl_nd w27.2.2
      have wl1 := wit_len (f := sg_g σ 16) (a := plo) (b := phi) wN (fun s hs => by
        rcases (m27 s).mp hs with ⟨j, q1, q2, q3, q4, q5⟩ | ⟨z, j, q1, q2, q3, q4, q5⟩
        · exact ⟨j, by omega, by omega, q4⟩
        · have := hgd z
          exact ⟨j, by omega, by omega, q4⟩)
      have wl2 : (W.length : Int) ≤ 200 ∧ sv + W.length ≤ 2400 := by
        rcases wl1 with q | q
        · omega
        · rw [q]; simp only [List.length_nil]; omega
      have eW : W = Ob.map sl := srt_eq w27.2.2 hOs (fun s => by rw [m27 s, hOm s])
      have lW : W.length = Ob.length := by rw [eW, List.length_map]
      have hWr : ∀ s ∈ W, 0 ≤ s ∧ s < 272 := fun s hs => by
        rw [eW] at hs
        obtain ⟨y, hy, e⟩ := List.mem_map.mp hs
        rw [← e]; exact (hT y hy).1
      have wbd : ∀ s ∈ W, s < bd := fun s hs => by
        rcases (m27 s).mp hs with ⟨j, q1, q2, q3, q4, q5⟩ | ⟨z, j, q1, q2, q3, q4, q5⟩ <;> exact q5
      refine f_save ha w27 (by omega) hWr (sv := sv) (by rw [sg_F_g F27 (by rfl)]; exact hsv) (by omega) (fun σ31 f31 s1 s2 s3 s4 s5 _ => ?_)
      have F31 : sg_F [70, 71, 72, 73, 74, 8061, 22061, 23061] σ σ31 := sg_F_t (sg_F_m F27 rfl) (sg_F_m f31 rfl)
      have ex31 : yEx σ σ31 := yEx_F F31 rfl
      have w31 : wl σ31 W := ⟨by rw [sg_F_g f31 (by rfl)]; exact w27.1, fun i y hy => by rw [sg_F_ga f31 rfl]; exact w27.2.1 i y hy, w27.2.2⟩
      -- the slots of the generators, and the lanes
      have fin : ∀ σ37, sg_F nrL σ31 σ37 → nrX σ31 σ37 Ob W sl ty c (fCa ty (fRp n ln) Ob s ρ) → (∃ (I45 : Nat → Int → sg_S → Prop) (X47 : sg_S → Prop), (∃ n, I45 n (0) σ37) ∧ (∀ (n55 : Nat) (v42 : Int) (σ43 : sg_S), sg_R v42 → sg_F [62] σ37 σ43 → I45 n55 v42 σ43 → ((g ≤ v42 → X47 σ43) ∧ (v42 < g → ((4 ≤ v42 → X47 σ43) ∧ (v42 < 4 → sg_R (bd + v42) ∧ sg_R (t + v42) ∧ p_lItems σ37 ((sx_at σ 64 400 (t + v42))) ∧ ∀ σ69, σ69 = (sx_put σ43 62 272 (bd + v42) ((v_lItems σ37 ((sx_at σ 64 400 (t + v42)))))) → sg_R (v42 + 1) ∧ (∃ m, m < n55 ∧ I45 m ((v42 + 1)) σ69)))))) ∧ (∀ (σ43 : sg_S), sg_F [62] σ37 σ43 → X47 σ43 → p_lItems σ37 (sg_g σ 64 t) ∧ ∀ σ60, σ60 = (sg_w σ43 61 23 ((v_lSize σ37 ((v_lItems σ37 (sg_g σ 64 t)))))) → Q σ60)) := by
        intro σ37 f37 h37
        have F37 : sg_F onL σ σ37 := sg_F_t (sg_F_m F31 rfl) (sg_F_m f37 rfl)
        refine ⟨fun m v σ43 => ∃ j : Nat, v = j ∧ (j : Int) ≤ g ∧ m = 4 - j ∧ (∀ i : Nat, i < j → sg_g σ43 62 (bd + i) = v_lItems σ37 (sg_g σ 64 (t + i))) ∧ (∀ s, ¬ (bd ≤ s ∧ s < bd + j) → sg_g σ43 62 s = sg_g σ37 62 s), fun σ43 => (∀ i : Nat, (i : Int) < g → sg_g σ43 62 (bd + i) = v_lItems σ37 (sg_g σ 64 (t + i))) ∧ (∀ s, ¬ (bd ≤ s ∧ s < bd + g) → sg_g σ43 62 s = sg_g σ37 62 s), ⟨_, 0, rfl, by omega, rfl, fun i hi => by omega, fun s _ => rfl⟩, ?_, ?_⟩
        · rintro m v σ43 rv f43 ⟨j, rfl, hj, hm', q1, q2⟩
          refine ⟨fun z => ⟨fun i hi => q1 i (by omega), fun s hs => q2 s (by omega)⟩, fun z => ⟨fun y => by omega, fun y => ⟨⟨by omega, by omega⟩, ⟨by omega, by omega⟩, y_pitems _ _, fun σ69 e69 => ?_⟩⟩⟩
          rw [xa_in ⟨by omega, by omega⟩, xp_in ⟨by omega, by omega⟩] at e69
          have ri : sg_R (v_lItems σ37 (sg_g σ 64 (t + j))) := by
            unfold v_lItems
            repeat' split
            all_goals first | exact sg_Rg _ _ _ | decide
          refine ⟨⟨by omega, by omega⟩, 4 - (j + 1), by omega, j + 1, by omega, by omega, rfl, fun i hi => ?_, fun s hs => ?_⟩
          · rw [e69]
            by_cases e : i = j
            · subst e; rw [sg_gw_e _ _ _ _ ri]
            · rw [sg_gw_k _ _ _ _ _ _ (by omega)]; exact q1 i (by omega)
          · rw [e69, sg_gw_k _ _ _ _ _ _ (by omega)]; exact q2 s (by omega)
        · rintro σ43 f43 ⟨q1, q2⟩
          refine ⟨y_pitems _ _, fun σ60 e60 => ?_⟩
          have f60 : sg_F [24061] σ43 σ60 := by rw [e60]; exact sg_F_w (sg_F_r _ _) rfl _
          have f3760 : sg_F [62, 24061] σ37 σ60 := sg_F_t (sg_F_m f43 rfl) (sg_F_m f60 rfl)
          have F60 : sg_F onL σ σ60 := sg_F_t F37 (sg_F_m f3760 rfl)
          cases ef : fCa ty (fRp n ln) Ob s ρ with
          | inl p =>
            rw [ef] at h37
            obtain ⟨z1, z2, z3⟩ := h37
            exact k1 p ef σ60 F60 z1 (by rw [sg_F_g f3760 (by rfl)]; exact z2) (ctX_F f3760 rfl z3)
          | inr p =>
            obtain ⟨s3', ρ3⟩ := p
            rw [ef] at h37
            obtain ⟨r1, r2, r3, r4, r5⟩ := h37
            have ex37 : yEx σ σ37 := yEx_t ex31 r2
            have ex60 : yEx σ37 σ60 := yEx_F f3760 rfl
            have it : ∀ i : Nat, (i : Int) < g → yX σ37 (dg i) (v_lItems σ37 (sg_g σ 64 (t + i))) (flF (vs.getD i [])) := fun i hi => by
              have hx := yX_up ex37 (hv i hi).1
              rw [y_items r1.1 hx.1]
              exact hx.2.2.2
            have it0 := it 0 (by omega)
            rw [show t + ((0 : Nat) : Int) = t by omega] at it0
            have i0r := (yX_c it0).1
            have gi := r1.1.1
            have fl0 : ((flF (vs.getD 0 [])).length : Int) = ln.sum := by rw [flF_l, ← hln]
            have sz : v_lSize σ37 (v_lItems σ37 (sg_g σ 64 t)) = ln.sum := by
              unfold v_lSize
              rw [xa_in ⟨i0r.1.1, by have := i0r.1.2; omega⟩, ← fl0]; exact i0r.2.1
            have M6 : (ln.sum : Int) ≤ 6000 := by
              have := i0r.2.2
              have := r1.1.2.1
              omega
            refine k2 s3' ρ3 ef σ60 F60 ⟨mC_F r1 f3760 rfl, yEx_t ex37 ex60, ctX_F f3760 rfl r3, fun y hy => ?_, fun i hi => ?_, fun s hs hs2 => ?_, ?_, ?_, ?_, fun i hi => ?_, ?_, ?_, fun i hi => ?_, fun i y hy => ?_, fun i hi => ?_⟩ ?_
            · have sb := wbd (sl y) (by rw [eW]; exact List.mem_map_of_mem hy)
              rw [sg_F_ga f60 rfl, q2 (sl y) (by omega)]
              exact yX_up ex60 (r4 y hy)
            · rw [sg_F_ga f60 rfl, q1 i (by omega)]
              exact yX_up ex60 (it i (by omega))
            · rw [sg_F_ga f60 rfl, q2 s hs2, r5 s (by rw [eW]; exact hs), sg_F_ga F31 rfl]
            · rw [e60, sz, sg_gw_e _ _ _ _ ⟨by omega, by omega⟩, hln]
            · rw [sg_F_g f3760 (by rfl), sg_F_g f37 (by rfl), sg_F_g f31 (by rfl), sg_F_g f27 (by rfl), sg_F_g f19 (by rfl), sg_F_g f15 (by rfl), sg_F_g f12 (by rfl)]; exact t2
            · rw [sg_F_ga f3760 rfl, sg_F_ga f37 rfl, sg_F_ga f31 rfl, sg_F_ga f27 rfl, sg_F_ga f19 rfl, sg_F_ga f15 rfl]; exact g70
            · rw [sg_F_ga f3760 rfl, sg_F_ga f37 rfl, sg_F_ga f31 rfl, sg_F_ga f27 rfl, sg_F_ga f19 rfl, sg_F_ga f15 rfl, e12, sg_gw_k _ _ _ _ _ _ hi, sg_F_ga f2 rfl]
            · rw [sg_F_g f3760 (by rfl), sg_F_g f37 (by rfl), s1, lW]
            · rw [sg_F_ga f3760 rfl, sg_F_ga f37 rfl]; exact s2
            · rw [sg_F_ga f3760 rfl, sg_F_ga f37 rfl, s3 i hi, sg_F_ga F27 rfl]
            · rw [← eW] at hy
              obtain ⟨u1, u2⟩ := s4 i y hy
              exact ⟨by rw [sg_F_ga f3760 rfl, sg_F_ga f37 rfl]; exact u1, by rw [sg_F_ga f3760 rfl, sg_F_ga f37 rfl, u2, sg_F_ga F27 rfl]⟩
            · obtain ⟨u1, u2⟩ := s5 i hi
              exact ⟨by rw [sg_F_ga f3760 rfl, sg_F_ga f37 rfl, u1, sg_F_ga F27 rfl], by rw [sg_F_ga f3760 rfl, sg_F_ga f37 rfl, u2, sg_F_ga F27 rfl]⟩
            · rcases wl1 with q | q
              · left; omega
              · right
                rw [q] at lW
                exact List.eq_nil_of_length_eq_zero lW.symm
      refine f_spreadX (W := W) (Ob := Ob) (sl := sl) (ty := ty) (ρ := ρ) (n := n) (dg := dg 0) (v0 := vs.getD 0 []) (mC_F hm F31 rfl) (ctX_F F31 rfl hs) hc hn (by rw [sg_F_g F31 (by rfl)]; exact h23) (yX_up ex31 v0) v0l w31 (by omega) eW.symm (fun y hy => cyT_F F31 ex31 rfl (hT y hy)) (fun σ37 f37 z _ => fin σ37 f37 (by rw [hln]; exact z))

end CSS
