/-! join, branch, fork, turn of the class, exactly. -/
theorem cw_tk (b : Bool) (c : List vaF) (j : Nat) : cwF b (c.take j) ≤ cwF b c := by
  have := cwF_a b (c.take j) (c.drop j)
  rw [List.take_append_drop] at this
  omega
theorem tk_sv {c : List vaF} {j : Nat} (h : j < c.length) : c.take (j + 1) = c.take j ++ [c.getD j (nmF 0)] := by
  rw [List.take_add_one, gD_i h]; rfl
theorem srt_eq : ∀ {l m : List Int}, l.Pairwise (· < ·) → m.Pairwise (· < ·) → (∀ x, x ∈ l ↔ x ∈ m) → l = m
  | [], [], _, _, _ => rfl
  | [], y :: m, _, _, h => by
    have := (h y).mpr (by simp)
    cases this
  | x :: l, [], _, _, h => by
    have := (h x).mp (by simp)
    cases this
  | x :: l, y :: m, hl, hm, h => by
    obtain ⟨h1, h2⟩ := List.pairwise_cons.mp hl
    obtain ⟨k1, k2⟩ := List.pairwise_cons.mp hm
    have e : x = y := by
      rcases List.mem_cons.mp ((h x).mp (by simp)) with q | q
      · exact q
      · rcases List.mem_cons.mp ((h y).mpr (by simp)) with r | r
        · exact r.symm
        · have a := k1 x q
          have b := h1 y r
          omega
    subst e
    rw [srt_eq h2 k2 (fun z => ⟨fun hz => ?_, fun hz => ?_⟩)]
    · have := h1 z hz
      rcases List.mem_cons.mp ((h z).mp (by simp [hz])) with q | q
      · omega
      · exact q
    · have := k1 z hz
      rcases List.mem_cons.mp ((h z).mpr (by simp [hz])) with q | q
      · omega
      · exact q
abbrev jnL : List Nat := [62, 64, 78, 79, 80, 81, 82, 85, 86, 87, 8061, 10061, 11061, 11077, 12077, 13077, 14077, 15077, 16077, 17077, 18077, 19077, 23061, 24061]
section CQS
variable {σ : sg_S} {Q : sg_S → Prop}
theorem f_joinX {W : List Int} {a sb t c ch : Int} {n D dc : Nat} {cv v1 v2 : List vaF} {s : fSt} (ha : 0 ≤ a ∧ a < 200) (hm : mC σ c) (hs : ctX σ s) (hc : 4 ≤ c) (hD : D ≤ 3) (h6 : sg_g σ 6 a = D) (h69 : sg_g σ 69 a = n) (hn : n ≤ 6000) (h70 : sg_g σ 70 a = ch) (hch : yX σ dc ch cv) (hcl : cv.length = n) (ht : sg_g σ 61 7 = t + 2) (h0 : 0 ≤ t ∧ t + 2 ≤ 400) (hA : yX σ D (sg_g σ 64 t) v1) (hB : yX σ D (sg_g σ 64 (t + 1)) v2) (l1 : cwF true cv = v1.length) (l2 : cwF false cv = v2.length) (h71 : sg_g σ 71 a = sb) (h22 : sg_g σ 61 22 = sb + W.length) (hs0 : 0 ≤ sb ∧ sb + W.length ≤ 2400) (hN : W.Nodup) (hW : ∀ x ∈ W, 0 ≤ x ∧ x < 272) (h72 : ∀ (i : Nat) (x : Int), W[i]? = some x → sg_g σ 72 (sb + i) = x) (k1 : fStp (exF D v1 + exF D v2) s = none → ∀ σ', sg_F jnL σ σ' → sg_g σ' 61 10 = 8 → ctX σ' s → Q σ') (k2 : ∀ s1, fStp (exF D v1 + exF D v2) s = some s1 → ∀ σ', sg_F jnL σ σ' → mC σ' c → ctX σ' s1 → yEx σ σ' → sg_g σ' 61 23 = n → sg_g σ' 61 22 = sb → sg_g σ' 61 7 = t + 1 → yX σ' D (sg_g σ' 64 t) (fMg cv v1 v2) → (∀ i, i < t → sg_g σ' 64 i = sg_g σ 64 i) → (∀ (i : Nat) (x : Int), W[i]? = some x → sg_g σ' 62 x = sg_g σ 73 (sb + i)) → (∀ x, x ∉ W → sg_g σ' 62 x = sg_g σ 62 x) → Q σ') : V_fJoin σ a Q := by
  have gg := hm.1
  have eX := exF_Mg D cv v1 v2 l1 l2
  unfold V_fJoin
  rw [xa_in ha, xa_in ha, xa_in ha, h69, h70, h6]
  refine f_restore ha h71 h22 hs0 hN hW h72 (fun σ2 f2 s1 s2 s3 _ σ7 e7 => ?_)
  have f7 : sg_F [24061] σ2 σ7 := by rw [e7]; exact sg_F_w (sg_F_r _ _) rfl _
  have f7' : sg_F [62, 23061, 24061] σ σ7 := sg_F_t (sg_F_m f2 rfl) (sg_F_m f7 rfl)
  refine y_pop (t := t + 1) (by rw [sg_F_g f7' (by rfl)]; omega) (by omega) (fun σ11 f11 t11 _ _ => y_pop (t := t) t11 (by omega) (fun σ17 f17 t17 _ _ => ?_))
  have f17' : sg_F [62, 8061, 23061, 24061] σ σ17 := sg_F_t (sg_F_t (sg_F_m f7' rfl) (sg_F_m f11 rfl)) (sg_F_m f17 rfl)
  rw [show sg_g σ7 64 (t + 1) = sg_g σ 64 (t + 1) from sg_F_ga f7' rfl, show sg_g σ11 64 t = sg_g σ 64 t from by rw [sg_F_ga f11 rfl, sg_F_ga f7' rfl]]
  have ex17 : yEx σ σ17 := yEx_F f17' rfl
  have m17 : mC σ17 c := mC_F hm f17' rfl
  have n17 : sg_g σ17 61 23 = n := by rw [sg_F_g f17 (by rfl), sg_F_g f11 (by rfl), e7, sg_gw_e _ _ _ _ ⟨by omega, by omega⟩]
  refine ⟨fun m v22 v23 σ24 => ∃ j : Nat, v23 = j ∧ j ≤ n ∧ m = n - j ∧ v22 = (cwF true (cv.take j) : Int) ∧ toX σ24 D [] [] (fMg (cv.take j) v1 v2) 0, fun σ24 => toX σ24 D [] [] (fMg cv v1 v2) 0, ⟨_, 0, rfl, Nat.zero_le _, rfl, rfl, toX_0 m17.2.1 D⟩, ?_, ?_⟩
  · rintro m v22 v23 σ24 r22 r23 f24 ⟨j, rfl, hj, hm', rfl, hI⟩
    refine ⟨fun z => ?_, fun z => ?_⟩
    · rw [List.take_of_length_le (by omega)] at hI; exact hI
    have ex24 : yEx σ σ24 := yEx_t ex17 (yEx_F f24 rfl)
    obtain ⟨x1, x2⟩ := yX_cell gg hch (i := j) (by omega)
    have ce := ch_b (w := 1) (b := true) (Or.inl ⟨rfl, rfl⟩) x1
    have tk := tk_sv (c := cv) (j := j) (by omega)
    have ct := cwF_t (cv.take j)
    rw [List.length_take] at ct
    have m1 := cw_tk true cv (j + 1)
    have m0 := cw_tk false cv (j + 1)
    rw [tk, cwF_a, cwF_1] at m1 m0
    have ll := fMg_l (cv.take j) v1 v2
    rw [List.length_take] at ll
    refine ⟨ch_p x2, fun v55 σ53 => v55 = (cwF true (cv.take (j + 1)) : Int) ∧ toX σ53 D [] [] (fMg (cv.take (j + 1)) v1 v2) 0, ⟨fun y => ?_, fun y => ?_⟩, fun v55 σ53 r55 f53 h53 => ⟨⟨by omega, by omega⟩, n - (j + 1), by omega, j + 1, by omega, by omega, rfl, h53.1, h53.2⟩⟩
    · have c0 := ce.mp y
      have x0 : (cv.getD j (nmF 0)) [] = 0 := Decidable.byContradiction (fun q => c0 (by rw [decide_eq_false q]; rfl))
      rw [x0] at m0
      simp only [decide_true, Bool.true_bne, Bool.not_false, if_true] at m0
      rw [show (j : Int) - (cwF true (cv.take j) : Int) = ((cwF false (cv.take j) : Nat) : Int) by omega]
      have pk : pkX σ24 D (sg_g σ 64 (t + 1)) ((cwF false (cv.take j) : Nat) : Int) (((cwF false (cv.take j) : Nat) : Int) + 1) [v2.getD (cwF false (cv.take j)) (nmF 0)] := by
        refine Or.inr ⟨v2, yX_up ex24 hB, by omega, by omega, by omega, ?_⟩
        rw [Int.toNat_natCast, show (((cwF false (cv.take j) : Nat) : Int) + 1 - ((cwF false (cv.take j) : Nat) : Int)).toNat = 1 by omega, dr_D (by omega : cwF false (cv.take j) < v2.length)]
        rfl
      refine ⟨⟨by omega, by omega⟩, ⟨by omega, by omega⟩, t_pick hI (by omega) pk (sg_Rg _ _ _) ⟨by omega, by omega⟩ (fun σ3 t3 f3 _ => ⟨?_, ?_⟩)⟩
      · rw [tk, cwF_a, cwF_1, if_neg c0]; omega
      · rw [tk, fMg_s, if_pos x0]; exact t3
    · have c1 : (decide ((cv.getD j (nmF 0)) [] = 0) != true) = true := Decidable.byContradiction (fun q => y (ce.mpr q))
      have x0 : ¬ (cv.getD j (nmF 0)) [] = 0 := fun q => by rw [q] at c1; exact absurd c1 (by decide)
      rw [if_pos c1] at m1
      have pk : pkX σ24 D (sg_g σ 64 t) ((cwF true (cv.take j) : Nat) : Int) (((cwF true (cv.take j) : Nat) : Int) + 1) [v1.getD (cwF true (cv.take j)) (nmF 0)] := by
        refine Or.inr ⟨v1, yX_up ex24 hA, by omega, by omega, by omega, ?_⟩
        rw [Int.toNat_natCast, show (((cwF true (cv.take j) : Nat) : Int) + 1 - ((cwF true (cv.take j) : Nat) : Int)).toNat = 1 by omega, dr_D (by omega : cwF true (cv.take j) < v1.length)]
        rfl
      refine ⟨⟨by omega, by omega⟩, t_pick hI (by omega) pk (sg_Rg _ _ _) ⟨by omega, by omega⟩ (fun σ3 t3 f3 _ => ⟨?_, ?_⟩)⟩
      · rw [tk, cwF_a, cwF_1, if_pos c1]; omega
      · rw [tk, fMg_s, if_neg x0]; exact t3
  · intro σ24 f24 hI σ39 e39
    have f39 : sg_F [10061] σ24 σ39 := by rw [e39]; exact sg_F_w (sg_F_r _ _) rfl _
    obtain ⟨τ, eτ⟩ : ∃ τ, τ = sg_w σ17 61 9 D := ⟨_, rfl⟩
    have fτ : sg_F [10061] σ17 τ := by rw [eτ]; exact sg_F_w (sg_F_r _ _) rfl _
    have d9 : sg_g τ 61 9 = D := by rw [eτ, sg_gw_e _ _ _ _ ⟨by omega, by omega⟩]
    have fx : sg_F acL τ σ39 := by rw [eτ, e39]; exact sg_F_y (sg_F_m f24 rfl) _ _ _
    have hP : fP τ t := by
      obtain ⟨q1, q2, q3, q4, q5⟩ := m17
      exact fP_mk ⟨q1, q2, by omega, q5, by omega⟩ fτ (by rw [sg_F_g fτ (by rfl)]; exact t17) (by omega) rfl
    have fστ : sg_F [62, 8061, 10061, 23061, 24061] σ τ := sg_F_t (sg_F_m f17' rfl) (sg_F_m fτ rfl)
    have sτ : ctX τ s := ctX_F fστ rfl hs
    refine f_giveX (D := D) (f := 0) (L := fMg cv v1 v2) (s := s) hP sτ hD d9 (by decide) fx (toX_F hI f39 (yEx_F f39 rfl) rfl) (Or.inl ⟨rfl, rfl, rfl, rfl⟩) (Or.inl rfl) (fun σ' f' r' fr => ?_)
    have F2 : sg_F [64, 78, 79, 80, 81, 82, 85, 86, 87, 8061, 10061, 11061, 11077, 12077, 13077, 14077, 15077, 16077, 17077, 18077, 19077] σ17 σ' := sg_F_t (sg_F_t (sg_F_m f24 rfl) (sg_F_m f39 rfl)) (sg_F_m fr rfl)
    have FF : sg_F jnL σ σ' := sg_F_t (sg_F_m f17' rfl) (sg_F_m F2 rfl)
    unfold gvX at r'
    rw [eX] at r'
    rcases r' with ⟨z1, z2, z3⟩ | ⟨s9, z1, z2, z3, z4, z5, z6, z7, z8, z9, z10⟩
    · exact k1 z1 σ' FF z2 z3
    · have w17 : ∀ q, sg_g τ 77 q = sg_g σ 77 q := fun q => sg_F_ga fστ rfl
      obtain ⟨q1, q2, q3, q4, q5⟩ := hm
      rw [w17] at z10
      have st := (fStp_s z1).1
      obtain ⟨c1, c2, c3, c4, c5⟩ := id z3
      obtain ⟨d1, d2, d3, d4, d5⟩ := id hs
      refine k2 s9 z1 σ' FF ⟨z5, z6, z2, by omega, by omega⟩ z3 (yEx_t (yEx_F fστ rfl) z4) ?_ ?_ z8 z7 (fun i hi => ?_) (fun i x hx => ?_) (fun x hx => ?_)
      · rw [sg_F_g F2 (by rfl)]; exact n17
      · rw [sg_F_g F2 (by rfl), sg_F_g f17 (by rfl), sg_F_g f11 (by rfl), sg_F_g f7 (by rfl)]; exact s1
      · rw [z9 i (by omega), sg_F_ga fστ rfl]
      · rw [sg_F_ga F2 rfl, sg_F_ga f17 rfl, sg_F_ga f11 rfl, sg_F_ga f7 rfl]; exact s2 i x hx
      · rw [sg_F_ga F2 rfl, sg_F_ga f17 rfl, sg_F_ga f11 rfl, sg_F_ga f7 rfl]; exact s3 x hx
theorem nrX_l {K : List Nat} {σ1 σ' : sg_S} {Ob W : List Int} {sl ty : Int → Int} {c : Int} {r : (Int × fSt) ⊕ (fSt × fEv)} (f : sg_F K σ σ1) (ex : yEx σ σ1) (hK : sg_ca K 62 = true) (h : nrX σ1 σ' Ob W sl ty c r) : nrX σ σ' Ob W sl ty c r := by
  cases r with
  | inl p => exact h
  | inr p =>
    obtain ⟨h1, h2, h3, h4, h5⟩ := h
    exact ⟨h1, yEx_t ex h2, h3, h4, fun x hx => by rw [h5 x hx, sg_F_ga f hK]⟩
/-- what is so of each variable that is carried along -/
def cyT (σ : sg_S) (sl ty : Int → Int) (ρ : fEv) (n : Nat) (y : Int) : Prop := (0 ≤ sl y ∧ sl y < 272) ∧ (ty y).toNat ≤ 3 ∧ sg_g σ 34 (sl y) = (ty y).toNat ∧ yX σ (ty y).toNat (sg_g σ 62 (sl y)) (ρ y) ∧ (ρ y).length = n
theorem cyT_F {K : List Nat} {σ1 : sg_S} {sl ty : Int → Int} {ρ : fEv} {n : Nat} {y : Int} (f : sg_F K σ σ1) (ex : yEx σ σ1) (hK : (sg_ca K 34 && sg_ca K 62) = true) (h : cyT σ sl ty ρ n y) : cyT σ1 sl ty ρ n y := by
  simp only [Bool.and_eq_true] at hK
  obtain ⟨h1, h2, h3, h4, h5⟩ := h
  exact ⟨h1, h2, by rw [sg_F_ga f hK.1]; exact h3, by rw [sg_F_ga f hK.2]; exact yX_up ex h4, h5⟩
theorem f_branchX {a x w lo hi bd sv c ch : Int} {n dc : Nat} {b : Bool} {cv : List vaF} {Ob : List Int} {sl ty : Int → Int} {s : fSt} {ρ : fEv} (ha : 0 ≤ a ∧ a < 200) (hx : 0 ≤ x ∧ x < 200) (hm : mC σ c) (hs : ctX σ s) (hc : 4 ≤ c) (h11 : sg_g σ 11 x = lo) (h12 : sg_g σ 12 x = hi) (hl : 0 ≤ lo ∧ hi < 200) (h16 : sg_g σ 16 a = bd) (h69 : sg_g σ 69 a = n) (hn : n ≤ 6000) (h70 : sg_g σ 70 a = ch) (hch : yX σ dc ch cv) (hcl : cv.length = n) (hwb : (w = 1 ∧ b = true) ∨ (w = 0 ∧ b = false)) (hsv : sg_g σ 61 22 = sv) (h0 : 0 ≤ sv ∧ sv ≤ 2400 ∧ sv + (hi - lo + 1) ≤ 2400) (hOs : (Ob.map sl).Pairwise (· < ·)) (hOm : ∀ s, s ∈ Ob.map sl ↔ wnt σ lo hi bd s) (hT : ∀ y ∈ Ob, cyT σ sl ty ρ n y) (k : ∀ σ', sg_F brL σ σ' → nrX σ σ' Ob (Ob.map sl) sl ty c (fCa ty (fWh b cv) Ob s ρ) → (sg_g σ' 61 10 = 0 → sg_g σ' 61 23 = (fWh b cv).length) → sg_g σ' 61 22 = sv + Ob.length → sg_g σ' 71 a = sv → (∀ i, ¬ i = a → sg_g σ' 71 i = sg_g σ 71 i) → svd σ σ' sv (Ob.map sl) → (∀ i, i < sv → sg_g σ' 72 i = sg_g σ 72 i ∧ sg_g σ' 73 i = sg_g σ 73 i) → ((Ob.length : Int) ≤ hi - lo + 1 ∨ Ob = []) → Q σ') : V_fBranch σ a x w Q := by
  unfold V_fBranch
  rw [xa_in ha, xa_in ha, xa_in ha, h16, h69, h70]
  intro σ1 e1
  have f1 : sg_F [22061] σ σ1 := by rw [e1]; exact sg_F_w (sg_F_r _ _) rfl _
  refine f_want (W0 := []) hx (by rw [sg_F_ga f1 rfl]; exact h11) (by rw [sg_F_ga f1 rfl]; exact h12) hl ⟨by rw [e1, sg_gw_e _ _ _ _ (by decide)]; rfl, fun i y hy => by simp at hy, List.Pairwise.nil⟩ (by simp) (fun σ5 W f5 w5 m5 _ => ?_)
  have f5' : sg_F [74, 22061] σ σ5 := sg_F_t (sg_F_m f1 rfl) f5
  have m5' : ∀ s, s ∈ W ↔ wnt σ lo hi bd s := fun s => by
    rw [m5 s, wnt_F f1 rfl]
    exact ⟨fun q => q.resolve_left (by simp), Or.inr⟩
  have eW : W = Ob.map sl := srt_eq w5.2.2 hOs (fun s => by rw [m5' s, hOm s])
  have wN := wl_nd w5.2.2
  have wl1 := wit_len (f := sg_g σ 16) (a := lo) (b := hi) wN (fun s hs => by
    obtain ⟨j, q1, q2, q3, q4, q5⟩ := (m5' s).mp hs
    exact ⟨j, q1, q2, q4⟩)
  have lW : W.length = Ob.length := by rw [eW, List.length_map]
  have wl2 : (W.length : Int) ≤ 200 ∧ sv + W.length ≤ 2400 := by
    rcases wl1 with q | q
    · omega
    · rw [q]; simp only [List.length_nil]; omega
  have hW : ∀ s ∈ W, 0 ≤ s ∧ s < 272 := fun s hs => by
    rw [eW] at hs
    obtain ⟨y, hy, e⟩ := List.mem_map.mp hs
    rw [← e]; exact (hT y hy).1
  refine f_save ha w5 (by omega) hW (sv := sv) (by rw [sg_F_g f5' (by rfl)]; exact hsv) (by omega) (fun σ11 f11 s1 s2 s3 s4 s5 _ => ?_)
  have f11' : sg_F [71, 72, 73, 74, 22061, 23061] σ σ11 := sg_F_t (sg_F_m f5' rfl) (sg_F_m f11 rfl)
  have ex11 : yEx σ σ11 := yEx_F f11' rfl
  have w11 : wl σ11 W := ⟨by rw [sg_F_g f11 (by rfl)]; exact w5.1, fun i y hy => by rw [sg_F_ga f11 rfl]; exact w5.2.1 i y hy, w5.2.2⟩
  refine f_narrowX (W := W) (Ob := Ob) (sl := sl) (ty := ty) (ρ := ρ) (mC_F hm f11' rfl) (ctX_F f11' rfl hs) hc hn (yX_up ex11 hch) hcl hwb w11 (by omega) eW.symm (fun y hy => cyT_F f11' ex11 rfl (hT y hy)) (fun σ' f' r' l' _ => ?_)
  rw [eW] at r' s4
  refine k σ' (sg_F_t (sg_F_m f11' rfl) (sg_F_m f' rfl)) (nrX_l f11' ex11 rfl r') l' (by rw [sg_F_g f' (by rfl), s1, lW]) (by rw [sg_F_ga f' rfl]; exact s2) (fun i hi => by rw [sg_F_ga f' rfl, s3 i hi, sg_F_ga f5' rfl]) (fun i y hy => ?_) (fun i hi => ?_) ?_
  · obtain ⟨t1, t2⟩ := s4 i y hy
    exact ⟨by rw [sg_F_ga f' rfl]; exact t1, by rw [sg_F_ga f' rfl, t2, sg_F_ga f5' rfl]⟩
  · obtain ⟨t1, t2⟩ := s5 i hi
    exact ⟨by rw [sg_F_ga f' rfl, t1, sg_F_ga f5' rfl], by rw [sg_F_ga f' rfl, t2, sg_F_ga f5' rfl]⟩
  · rcases wl1 with q | q
    · left; omega
    · right
      rw [q] at lW
      exact List.eq_nil_of_length_eq_zero lW.symm
end CQS
