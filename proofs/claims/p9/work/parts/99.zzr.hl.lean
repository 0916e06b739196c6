/-! narrow, spread, shorten. -/
def mC (σ : sg_S) (c : Int) : Prop := yG σ ∧ y0 σ ∧ sg_g σ 61 10 = 0 ∧ sg_g σ 77 10 + c ≤ 4 * sg_g σ 77 17 ∧ (0 ≤ sg_g σ 77 17 ∧ sg_g σ 77 17 ≤ 2000)
/-- how many lanes are chosen -/
def cnF (σ : sg_S) (ch w : Int) (n : Nat) : Int := su (fun l => if v_fChosen σ ch l w = 0 then 0 else 1) 0 n
theorem cnF_b (σ : sg_S) (ch w : Int) : ∀ n : Nat, 0 ≤ cnF σ ch w n ∧ cnF σ ch w n ≤ n
  | 0 => by simp [cnF, su]
  | n + 1 => by
    have := cnF_b σ ch w n
    unfold cnF at this ⊢
    simp only [su]
    split <;> omega
theorem su_01 {g : Int → Int} {p : Int} : ∀ {i : Nat}, (∀ x, 0 ≤ g x ∧ g x ≤ 1) → 0 ≤ su g p i ∧ su g p i ≤ i
  | 0, _ => by simp [su]
  | i + 1, h => by
    have a := su_01 (g := g) (p := p) (i := i) h
    have b := h (p + i)
    simp only [su]
    omega
theorem ch_up {σ σ' : sg_S} (g : yG σ) (g' : yG σ') (h : yEx σ σ') {ch n l w : Int} (hc : yRw σ ch n) (hl : 0 ≤ l ∧ l < n) : v_fChosen σ' ch l w = v_fChosen σ ch l w := by
  have e : v_lCell σ' ch l = v_lCell σ ch l := by
    rw [(y_cell g hc hl).1, (y_cell g' (yRw_up h hc) hl).1, (h.2.1 ch hc.1.1 hc.1.2).1]
    have := hc.2.2.2
    exact h.2.2.1 _ (by omega) (by omega)
  unfold v_fChosen
  rw [e]
theorem ch_p {σ : sg_S} {ch l w : Int} (h : p_lCell σ ch l) : p_fChosen σ ch l w := by
  unfold p_fChosen
  exact ⟨h, fun _ => ⟨fun _ => trivial, fun _ => trivial⟩, fun _ => ⟨fun _ => trivial, fun _ => trivial⟩⟩
theorem cn_up {σ σ' : sg_S} (g : yG σ) (g' : yG σ') (h : yEx σ σ') {ch n w : Int} (hc : yRw σ ch n) {i : Nat} (hi : (i : Int) ≤ n) : cnF σ' ch w i = cnF σ ch w i := by
  unfold cnF
  exact su_sh (fun j hj => by rw [ch_up g g' h hc ⟨by omega, by omega⟩])
theorem p_cell80 {σ : sg_S} {v l : Int} (h : 0 ≤ sg_g σ 80 v ∧ sg_g σ 80 v ≤ 6000) (hl : 0 ≤ l ∧ l ≤ 6000) : p_lCell σ v l := by
  unfold p_lCell
  exact ⟨fun _ => trivial, fun a => ⟨fun b => ⟨⟨a, b⟩, ⟨by omega, by omega⟩, fun _ => trivial, fun c => ⟨fun _ => trivial, fun d => ⟨⟨c, d⟩, trivial⟩⟩⟩, fun _ => trivial⟩⟩
abbrev nrL : List Nat := [62, 78, 79, 80, 81, 82, 85, 86, 87, 11061, 11077, 12077, 13077, 14077, 15077, 16077, 17077, 18077, 19077]
/-- the wanted slots are sealed anew, for m lanes -/
def nrR (σ σ' : sg_S) (W : List Int) (c m : Int) : Prop := mC σ' c ∧ yEx σ σ' ∧ (∀ x ∈ W, ∀ d : Nat, sg_g σ 34 x = d → yV σ' d (sg_g σ' 62 x) m) ∧ ∀ x, x ∉ W → sg_g σ' 62 x = sg_g σ 62 x
section NRW
variable {σ : sg_S} {Q : sg_S → Prop}
/-- one slot is sealed anew -/
theorem f_reseal {σ2 σ50 : sg_S} {W : List Int} {i : Nat} {x c m b : Int} {d : Nat} {R : sg_S → Prop} (hc : 4 ≤ c) (f2 : sg_F nrL σ σ2) (hm : mC σ2 c) (ex : yEx σ σ2) (hx : W[i]? = some x) (hN : W.Nodup) (hx2 : 0 ≤ x ∧ x < 272) (hd : d ≤ 3) (hT : ∀ y ∈ W.take i, ∀ d : Nat, sg_g σ 34 y = d → yV σ2 d (sg_g σ2 62 y) m) (hO : ∀ y, y ∉ W.take i → sg_g σ2 62 y = sg_g σ 62 y) (h34 : sg_g σ 34 x = d) (f50 : sg_F [85, 86, 87, 14077, 16077] σ2 σ50) (hC : yC σ50 b) (hA : aC σ50 d 0 (-m)) (k : ∀ σ73, sg_F nrL σ σ73 → ((¬ sg_g σ73 61 10 = 0 ∧ ∀ v, 0 ≤ v → v < sg_g σ 77 10 → sg_g σ73 80 v = sg_g σ 80 v) ∨ (mC σ73 c ∧ yEx σ σ73 ∧ (∀ y ∈ W.take (i + 1), ∀ d : Nat, sg_g σ 34 y = d → yV σ73 d (sg_g σ73 62 y) m) ∧ ∀ y, y ∉ W.take (i + 1) → sg_g σ73 62 y = sg_g σ 62 y)) → R σ73) : V_lSeal σ50 d 0 (fun q64 σ65 => sg_R q64 → sg_F [78, 79, 80, 81, 82, 85, 86, 87, 11077, 12077, 13077, 14077, 15077, 16077, 17077, 18077, 19077] σ50 σ65 → ∀ σ70, σ70 = (sx_put σ65 62 272 x q64) → ∀ σ73, σ73 = (sg_w σ70 61 10 ((sg_g σ65 77 18))) → R σ73) := by
  obtain ⟨m1, m2, m3, m4, m5⟩ := hm
  have ex50 : yEx σ2 σ50 := yEx_F f50 rfl
  have w50 : sg_g σ50 77 10 = sg_g σ2 77 10 := sg_F_g f50 rfl
  have s50 : sg_g σ50 77 17 = sg_g σ2 77 17 := sg_F_g f50 rfl
  refine y_seal (D := d) (f := 0) (n := m) (yG_F m1 f50 rfl) (by omega) (by omega) hd hC.2.2.2 (fun z => aC_fd0 hA z) (by omega) (fun σ65 f65 y65 h65 r64 _ σ70 e70 σ73 e73 => ?_)
  rw [xp_in hx2] at e70
  have f70 : sg_F [62] σ65 σ70 := by rw [e70]; exact sg_F_w (sg_F_r _ _) rfl _
  have f73 : sg_F [11061] σ70 σ73 := by rw [e73]; exact sg_F_w (sg_F_r _ _) rfl _
  have f6573 : sg_F [62, 11061] σ65 σ73 := sg_F_t (sg_F_m f70 rfl) (sg_F_m f73 rfl)
  have F : sg_F nrL σ σ73 := sg_F_t (sg_F_t (sg_F_t f2 (sg_F_m f50 rfl)) (sg_F_m f65 rfl)) (sg_F_m f6573 rfl)
  have e10 : sg_g σ73 61 10 = sg_g σ65 77 18 := by rw [e73, sg_gw_e _ _ _ _ (sg_Rg _ _ _)]
  have e62 : sg_g σ73 62 x = sg_g σ50 77 10 := by rw [sg_F_ga f73 rfl, e70, sg_gw_e _ _ _ _ r64]
  have o62 : ∀ y, ¬ y = x → sg_g σ73 62 y = sg_g σ2 62 y := fun y hy => by rw [sg_F_ga f73 rfl, e70, sg_gw_k _ _ _ _ _ _ hy, sg_F_ga f65 rfl, sg_F_ga f50 rfl]
  refine k σ73 F ?_
  rcases h65 with ⟨z1, z2⟩ | ⟨z1, z2, z3, z4, z5, z6, z7, z8, z9⟩
  · refine Or.inl ⟨by rw [e10]; exact z1, fun v a b => ?_⟩
    rw [sg_F_ga f6573 rfl, z2 v a (by rw [w50]; have := ex.1.1; omega), sg_F_ga f50 rfl]
    exact (ex.2.1 v a b).1
  · right
    have ex73 : yEx σ65 σ73 := yEx_F f6573 rfl
    have exx : yEx σ2 σ73 := yEx_t ex50 (yEx_t z2 ex73)
    have hil : i < W.length := by
      rcases Nat.lt_or_ge i W.length with q | q
      · exact q
      · rw [List.getElem?_eq_none q] at hx; cases hx
    have nin : x ∉ W.take i := fun q => by
      obtain ⟨q', hq, e⟩ := List.mem_take_iff_getElem.mp q
      rw [List.getElem?_eq_getElem hil] at hx
      have := (List.getElem_inj hN).mp (e.trans (Option.some.inj hx).symm)
      omega
    have tk : W.take (i + 1) = W.take i ++ [x] := by rw [List.take_add_one, hx]; rfl
    refine ⟨⟨yG_F z3 f6573 rfl, y0_F y65 f6573 rfl, by rw [e10]; exact z1, by rw [sg_F_g f6573 (by rfl), sg_F_g f6573 (by rfl)]; omega, by rw [sg_F_g f6573 (by rfl)]; omega⟩, yEx_t ex exx, fun y hy d' hd' => ?_, fun y hy => ?_⟩
    · rw [tk] at hy
      rcases List.mem_append.mp hy with q | q
      · rw [o62 y (fun e => nin (e ▸ q))]
        exact yV_up exx (hT y q d' hd')
      · simp at q
        subst q
        rw [h34] at hd'
        have : d' = d := by omega
        subst this
        rw [e62]; exact yV_up ex73 z4
    · rw [tk] at hy
      have h1 : y ∉ W.take i := fun q => hy (List.mem_append_left _ q)
      have h2 : ¬ y = x := fun q => hy (by simp [q])
      rw [o62 y h2]; exact hO y h1
theorem f_narrow {W : List Int} {ch w n c : Int} (hm : mC σ c) (hc : 4 ≤ c) (hn : 0 ≤ n ∧ n ≤ 6000) (hch : yRw σ ch n) (hw : wl σ W) (h200 : W.length ≤ 200) (hW : ∀ x ∈ W, 0 ≤ x ∧ x < 272) (hT : ∀ x ∈ W, ∃ d : Nat, d ≤ 3 ∧ sg_g σ 34 x = d ∧ yV σ d (sg_g σ 62 x) n) (k1 : ∀ σ', sg_F (24061 :: nrL) σ σ' → ¬ sg_g σ' 61 10 = 0 → Q σ') (k2 : ∀ σ', sg_F (24061 :: nrL) σ σ' → nrR σ σ' W c (cnF σ ch w n.toNat) → sg_g σ' 61 23 = cnF σ ch w n.toNat → Q σ') : V_fNarrow σ ch w n Q := by
  obtain ⟨w1, w2, w3⟩ := id hw
  have gg := hm.1
  unfold V_fNarrow
  rw [w1]
  have c80 := gg.2.2.1 ch hch.1.1 hch.1.2
  have u6 := gg.2.1
  have chw := hch.1
  refine ⟨fun m v σ2 => ∃ i : Nat, v = i ∧ i ≤ W.length ∧ m = W.length - i ∧ ((¬ sg_g σ2 61 10 = 0 ∧ sg_g σ2 80 ch = sg_g σ 80 ch) ∨ (mC σ2 c ∧ yEx σ σ2 ∧ (∀ y ∈ W.take i, ∀ d : Nat, sg_g σ 34 y = d → yV σ2 d (sg_g σ2 62 y) (cnF σ ch w n.toNat)) ∧ ∀ y, y ∉ W.take i → sg_g σ2 62 y = sg_g σ 62 y)), fun σ2 => (¬ sg_g σ2 61 10 = 0 ∧ sg_g σ2 80 ch = sg_g σ 80 ch) ∨ nrR σ σ2 W c (cnF σ ch w n.toNat), ⟨_, 0, rfl, Nat.zero_le _, rfl, Or.inr ⟨hm, yEx_r _, by simp, fun _ _ => rfl⟩⟩, ?_, ?_⟩
  · rintro m v σ2 rv f2 ⟨i, rfl, hi, hm', hI⟩
    refine ⟨fun z => ?_, fun z => ⟨fun y => ?_, fun y => ?_⟩⟩
    · rcases hI with q | ⟨q1, q2, q3, q4⟩
      · exact Or.inl q
      · rw [List.take_of_length_le (by omega)] at q3 q4
        exact Or.inr ⟨q1, q2, q3, q4⟩
    · rcases hI with q | ⟨q1, q2, q3, q4⟩
      · exact Or.inl q
      · exact absurd q1.2.2.1 y
    · rcases hI with q | ⟨q1, q2, q3, q4⟩
      · exact absurd y q.1
      have hx : W[i]? = some (W[i]'(by omega)) := List.getElem?_eq_getElem _
      generalize W[i]'(by omega) = x at hx
      have xm := List.mem_of_getElem? hx
      obtain ⟨d, d1, d2, d3⟩ := hT x xm
      have xr := hW x xm
      have nin : x ∉ W.take i := fun q => by
        obtain ⟨q', hq, e⟩ := List.mem_take_iff_getElem.mp q
        rw [List.getElem?_eq_getElem (show i < W.length by omega)] at hx
        have := (List.getElem_inj (wl_nd w3)).mp (e.trans (Option.some.inj hx).symm)
        omega
      have v62 := q4 x nin
      rw [xa_in (a := 74) ⟨by omega, by omega⟩, w2 i x hx, xa_in (a := 62) xr, xa_in (a := 34) xr, v62, d2]
      have xv : yV σ2 d (sg_g σ 62 x) n := yV_up q2 d3
      have xw := (yV_r xv).1
      have g10 := q1.1.1
      have ca : ∀ l, 0 ≤ l → l < n → v_fChosen σ2 ch l w = v_fChosen σ ch l w := fun l a b => ch_up gg q1.1 q2 hch ⟨a, b⟩
      refine ⟨fun m2 v49 σ50 => ∃ j : Nat, v49 = j ∧ (j : Int) ≤ n ∧ m2 = n.toNat - j ∧ yC σ50 j ∧ aC σ50 d 0 (-(cnF σ ch w j)), fun σ50 => yC σ50 n ∧ aC σ50 d 0 (-(cnF σ ch w n.toNat)), ⟨_, 0, rfl, by omega, rfl, yC_0 q1.2.1, aC_0 q1.2.1 d⟩, ?_, ?_⟩
      · rintro m2 v49 σ50 r49 f50 ⟨j, rfl, hj, hm2, hcc, hA⟩
        refine ⟨fun q => ⟨yC_m hcc (by omega), by rw [show n.toNat = j by omega]; exact hA⟩, fun q => ?_⟩
        have ex50 : yEx σ2 σ50 := yEx_F f50 rfl
        rw [ca j (by omega) q]
        have ce : cnF σ ch w (j + 1) = cnF σ ch w j + (if v_fChosen σ ch j w = 0 then 0 else 1) := by
          unfold cnF; simp only [su]; rw [show (0 : Int) + j = j by omega]
        refine ⟨ch_p (y_cell q1.1 (yRw_up q2 hch) ⟨by omega, q⟩).2, fun σ83 => yC σ83 (j + 1) ∧ aC σ83 d 0 (-(cnF σ ch w (j + 1))), ⟨fun r => ⟨yC_m hcc (by omega), by rw [ce, if_pos r, Int.add_zero]; exact hA⟩, fun r => ⟨⟨by omega, by omega⟩, aC_pick hA hcc (by omega) ⟨by omega, by omega⟩ ⟨by omega, Or.inr ⟨_, yV_up ex50 xv, by omega⟩⟩ ⟨by omega, by omega⟩ (fun σ3 f3 c3 a3 _ => ⟨c3, ?_⟩)⟩⟩, fun σ83 f83 h83 => ⟨⟨by omega, by omega⟩, n.toNat - (j + 1), by omega, j + 1, by omega, by omega, rfl, h83.1, h83.2⟩⟩
        rw [ce, if_neg r]
        rw [show -cnF σ ch w j - (↑j + 1 - ↑j) = -(cnF σ ch w j + 1) by omega] at a3
        exact a3
      · rintro σ50 f50 ⟨hcc, hA⟩
        refine f_reseal hc f2 q1 q2 hx (wl_nd w3) xr d1 q3 q4 d2 f50 hcc hA (fun σ73 F73 h73 => ⟨⟨by omega, by omega⟩, W.length - (i + 1), by omega, i + 1, by omega, by omega, rfl, ?_⟩)
        rcases h73 with ⟨z1, z2⟩ | z
        · exact Or.inl ⟨z1, z2 ch chw.1 chw.2⟩
        · exact Or.inr z
  · rintro σ2 f2 hX σ16 e16
    have f16 : sg_F [24061] σ2 σ16 := by rw [e16]; exact sg_F_w (sg_F_r _ _) rfl _
    have pc : ∀ l, 0 ≤ l → l < n → p_fChosen σ2 ch l w := fun l a b => ch_p (p_cell80 (by
      rcases hX with ⟨-, q⟩ | q
      · rw [q]; omega
      · rw [(q.2.1.2.1 ch chw.1 chw.2).1]; omega) (by omega))
    refine ⟨fun m v σ20 => ∃ j : Nat, v = j ∧ (j : Int) ≤ n ∧ m = n.toNat - j ∧ sg_g σ20 61 23 = cnF σ2 ch w j, fun σ20 => sg_g σ20 61 23 = cnF σ2 ch w n.toNat, ⟨_, 0, rfl, by omega, rfl, by rw [e16, sg_gw_e _ _ _ _ (by decide)]; rfl⟩, ?_, ?_⟩
    · rintro m v σ20 rv f20 ⟨j, rfl, hj, hm', h23⟩
      refine ⟨fun z => by rw [show n.toNat = j by omega]; exact h23, fun z => ⟨pc j (by omega) z, fun v38 e38 r38 => ?_⟩⟩
      have cb := cnF_b σ2 ch w j
      have v01 : 0 ≤ v38 ∧ v38 ≤ 1 := by rw [e38]; split <;> omega
      refine ⟨⟨by omega, by omega⟩, fun σ42 e42 => ⟨⟨by omega, by omega⟩, n.toNat - (j + 1), by omega, j + 1, by omega, by omega, rfl, ?_⟩⟩
      rw [e42, sg_gw_e _ _ _ _ ⟨by omega, by omega⟩, h23, e38]
      unfold cnF
      simp only [su]
      rw [show (0 : Int) + j = j by omega]
    · intro σ20 f20 h20
      have F : sg_F (24061 :: nrL) σ σ20 := sg_F_t (sg_F_t (sg_F_m f2 rfl) (sg_F_m f16 rfl)) (sg_F_m f20 rfl)
      have f220 : sg_F [24061] σ2 σ20 := sg_F_t f16 f20
      rcases hX with ⟨q, -⟩ | ⟨q1, q2, q3, q4⟩
      · exact k1 σ20 F (by rw [sg_F_g f220 (by rfl)]; exact q)
      · have ex : yEx σ2 σ20 := yEx_F f220 rfl
        have cu : cnF σ2 ch w n.toNat = cnF σ ch w n.toNat := cn_up gg q1.1 q2 hch (by omega)
        obtain ⟨m1, m2, m3, m4, m5⟩ := q1
        refine k2 σ20 F ⟨⟨yG_F m1 f220 rfl, y0_F m2 f220 rfl, by rw [sg_F_g f220 (by rfl)]; exact m3, by rw [sg_F_g f220 (by rfl), sg_F_g f220 (by rfl)]; exact m4, by rw [sg_F_g f220 (by rfl)]; exact m5⟩, yEx_t q2 ex, fun x hx d hd => ?_, fun x hx => by rw [sg_F_ga f220 rfl]; exact q4 x hx⟩ (by rw [h20, cu])
        rw [sg_F_ga f220 rfl]; exact yV_up ex (q3 x hx d hd)
theorem f_spread {W : List Int} {g n c : Int} {dg : Nat} (hm : mC σ c) (hc : 4 ≤ c) (hn : 0 ≤ n ∧ n ≤ 6000) (h23 : sg_g σ 61 23 = n) (hg : yV σ (dg + 1) g n) (hw : wl σ W) (h200 : W.length ≤ 200) (hW : ∀ x ∈ W, 0 ≤ x ∧ x < 272) (hT : ∀ x ∈ W, ∃ d : Nat, d ≤ 3 ∧ sg_g σ 34 x = d ∧ yV σ d (sg_g σ 62 x) n) (k1 : ∀ σ', sg_F nrL σ σ' → ¬ sg_g σ' 61 10 = 0 → Q σ') (k2 : ∀ σ', sg_F nrL σ σ' → nrR σ σ' W c (su (sg_g σ 78) (sg_g σ 80 g) n.toNat) → Q σ') : V_fSpread σ g Q := by
  obtain ⟨w1, w2, w3⟩ := id hw
  have gg := hm.1
  generalize hM : su (sg_g σ 78) (sg_g σ 80 g) n.toNat = M at *
  unfold V_fSpread
  rw [w1, h23]
  refine ⟨fun m v σ2 => ∃ i : Nat, v = i ∧ i ≤ W.length ∧ m = W.length - i ∧ (¬ sg_g σ2 61 10 = 0 ∨ (mC σ2 c ∧ yEx σ σ2 ∧ (∀ y ∈ W.take i, ∀ d : Nat, sg_g σ 34 y = d → yV σ2 d (sg_g σ2 62 y) M) ∧ ∀ y, y ∉ W.take i → sg_g σ2 62 y = sg_g σ 62 y)), fun σ2 => ¬ sg_g σ2 61 10 = 0 ∨ nrR σ σ2 W c M, ⟨_, 0, rfl, Nat.zero_le _, rfl, Or.inr ⟨hm, yEx_r _, by simp, fun _ _ => rfl⟩⟩, ?_, ?_⟩
  · rintro m v σ2 rv f2 ⟨i, rfl, hi, hm', hI⟩
    refine ⟨fun z => ?_, fun z => ⟨fun y => Or.inl y, fun y => ?_⟩⟩
    · rcases hI with q | ⟨q1, q2, q3, q4⟩
      · exact Or.inl q
      · rw [List.take_of_length_le (by omega)] at q3 q4
        exact Or.inr ⟨q1, q2, q3, q4⟩
    · rcases hI with q | ⟨q1, q2, q3, q4⟩
      · exact absurd y q
      have hx : W[i]? = some (W[i]'(by omega)) := List.getElem?_eq_getElem _
      generalize W[i]'(by omega) = x at hx
      have xm := List.mem_of_getElem? hx
      obtain ⟨d, d1, d2, d3⟩ := hT x xm
      have xr := hW x xm
      have nin : x ∉ W.take i := fun q => by
        obtain ⟨q', hq, e⟩ := List.mem_take_iff_getElem.mp q
        rw [List.getElem?_eq_getElem (show i < W.length by omega)] at hx
        have := (List.getElem_inj (wl_nd w3)).mp (e.trans (Option.some.inj hx).symm)
        omega
      have v62 := q4 x nin
      rw [xa_in (a := 74) ⟨by omega, by omega⟩, w2 i x hx, xa_in (a := 62) xr, xa_in (a := 34) xr, v62, d2]
      have xv : yV σ2 d (sg_g σ 62 x) n := yV_up q2 d3
      have xw := (yV_r xv).1
      have g10 := q1.1.1
      have hg2 := yV_up q2 hg
      have hM2 : su (sg_g σ2 78) (sg_g σ2 80 g) n.toNat = M := by rw [← hM]; exact ysu_up q2 (yV_r hg) (by omega)
      refine ⟨fun m2 v18 σ19 => ∃ j : Nat, v18 = j ∧ (j : Int) ≤ n ∧ m2 = n.toNat - j ∧ yC σ19 (200 * j) ∧ aC σ19 d 0 (-(su (sg_g σ2 78) (sg_g σ2 80 g) j)), fun σ19 => yC σ19 (200 * n) ∧ aC σ19 d 0 (-M), ⟨_, 0, rfl, by omega, rfl, yC_0 q1.2.1, aC_0 q1.2.1 d⟩, ?_, ?_⟩
      · rintro m2 v18 σ19 r18 f19 ⟨j, rfl, hj, hm2, hcc, hA⟩
        refine ⟨fun q => ⟨yC_m hcc (by omega), by rw [← hM2, show n.toNat = j by omega]; exact hA⟩, fun q => ⟨fun q2 => ⟨yC_m hcc (by omega), fun q3 => absurd q3 q2⟩, fun q2 => ?_⟩⟩
        obtain ⟨b1, b2, b3, b4, b5, b6, b7, b8, b9, b10⟩ := y_lane q1.1 hg2 (l := j) ⟨by omega, q⟩
        have hce := (y_cell q1.1 (yV_r hg2) (l := j) ⟨by omega, q⟩).1
        have ce : su (sg_g σ2 78) (sg_g σ2 80 g) (j + 1) = su (sg_g σ2 78) (sg_g σ2 80 g) j + v_lCell σ2 g j := by
          simp only [su]; rw [hce]
        refine ⟨b8, ?_⟩
        generalize v_lCell σ2 g j = q0 at *
        refine ⟨fun m3 v51 σ52 => ∃ i2 : Nat, v51 = i2 ∧ i2 ≤ q0 ∧ m3 = (q0 - i2).toNat ∧ yC σ52 (200 * j + i2) ∧ aC σ52 d 0 (-(su (sg_g σ2 78) (sg_g σ2 80 g) j) - i2), fun σ52 => yC σ52 (200 * (j + 1 : Nat)) ∧ aC σ52 d 0 (-(su (sg_g σ2 78) (sg_g σ2 80 g) (j + 1))), ⟨_, 0, rfl, by omega, rfl, by rw [show (200 : Int) * j + (0 : Nat) = 200 * j by omega]; exact hcc, by rw [show ∀ z : Int, z - ((0 : Nat) : Int) = z from fun z => by omega]; exact hA⟩, ?_, ?_⟩
        · rintro m3 v51 σ52 r51 f52 ⟨i2, rfl, hi2, hm3, hc3, hA3⟩
          have ex52 : yEx σ2 σ52 := yEx_F (sg_F_t f19 f52) rfl
          refine ⟨fun r => ⟨yC_m hc3 (by omega), ?_⟩, fun r => ⟨⟨by omega, by omega⟩, aC_pick hA3 hc3 (by omega) ⟨by omega, by omega⟩ ⟨by omega, Or.inr ⟨_, yV_up ex52 xv, by omega⟩⟩ ⟨by omega, by omega⟩ (fun σ3 f3 c3 a3 _ => ⟨⟨by omega, by omega⟩, (q0 - (i2 + 1 : Nat)).toNat, by omega, i2 + 1, by omega, by omega, rfl, by rw [show (200 : Int) * j + (i2 + 1 : Nat) = 200 * j + i2 + 1 by omega]; exact c3, ?_⟩)⟩⟩
          · rw [ce, show q0 = (i2 : Int) by omega, Int.neg_add, ← Int.sub_eq_add_neg]; exact hA3
          · rw [show (-su (sg_g σ2 78) (sg_g σ2 80 g) j - ↑i2 - (↑j + 1 - ↑j)) = -su (sg_g σ2 78) (sg_g σ2 80 g) j - ((i2 + 1 : Nat) : Int) by omega] at a3
            exact a3
        · rintro σ52 f52 ⟨hc3, hA3⟩
          exact ⟨⟨by omega, by omega⟩, n.toNat - (j + 1), by omega, j + 1, by omega, by omega, rfl, hc3, hA3⟩
      · rintro σ19 f19 ⟨hcc, hA⟩
        refine f_reseal hc f2 q1 q2 hx (wl_nd w3) xr d1 q3 q4 d2 f19 hcc hA (fun σ73 F73 h73 => ⟨⟨by omega, by omega⟩, W.length - (i + 1), by omega, i + 1, by omega, by omega, rfl, ?_⟩)
        rcases h73 with ⟨z1, z2⟩ | z
        · exact Or.inl z1
        · exact Or.inr z
  · rintro σ2 f2 hX
    rcases hX with q | q
    · exact k1 σ2 f2 q
    · exact k2 σ2 f2 q
/-- lengths of what is left -/
theorem f_shorten {a ch n m c : Int} {dg : Nat} (ha : 0 ≤ a ∧ a < 200) (hm : mC σ c) (hc : 4 ≤ c) (h69 : sg_g σ 69 a = n) (hn : 0 ≤ n ∧ n ≤ 6000) (hg : yV σ (dg + 1) (sg_g σ 70 a) n) (hmm : su (sg_g σ 78) (sg_g σ 80 (sg_g σ 70 a)) n.toNat = m) (hch : yRw σ ch m) (k1 : ∀ σ', sg_F [70, 78, 79, 80, 81, 82, 83, 85, 86, 87, 11061, 11077, 12077, 13077, 14077, 15077, 16077, 17077, 18077, 19077] σ σ' → ¬ sg_g σ' 61 10 = 0 → Q σ') (k2 : ∀ σ', sg_F [70, 78, 79, 80, 81, 82, 83, 85, 86, 87, 11061, 11077, 12077, 13077, 14077, 15077, 16077, 17077, 18077, 19077] σ σ' → mC σ' c → yEx σ σ' → (∀ i, ¬ i = a → sg_g σ' 70 i = sg_g σ 70 i) → yRw σ' (sg_g σ' 70 a) n → yLn σ' (sg_g σ' 70 a) n → su (sg_g σ' 78) (sg_g σ' 80 (sg_g σ' 70 a)) n.toNat = cnF σ ch 1 m.toNat → Q σ') : V_fShorten σ a ch Q := by
  obtain ⟨m1, m2, m3, m4, m5⟩ := id hm
  have chw := hch.1
  generalize hG : sg_g σ 70 a = G at *
  unfold V_fShorten
  rw [xa_in ha, xa_in ha, h69, hG]
  refine ⟨fun m' v σ2 => ∃ j : Nat, v = j ∧ (j : Int) ≤ n ∧ m' = n.toNat - j ∧ yC σ2 j ∧ (sg_g σ2 77 15 = 0 → sg_g σ2 77 11 = j ∧ (∀ i : Nat, i < j → 0 ≤ sg_g σ2 83 i ∧ sg_g σ2 83 i ≤ 200) ∧ su (sg_g σ2 83) 0 j = cnF σ ch 1 (su (sg_g σ 78) (sg_g σ 80 G) j).toNat), fun σ2 => yC σ2 n ∧ (sg_g σ2 77 15 = 0 → sg_g σ2 77 11 = n ∧ (∀ i : Nat, (i : Int) < n → 0 ≤ sg_g σ2 83 i ∧ sg_g σ2 83 i ≤ 200) ∧ su (sg_g σ2 83) 0 n.toNat = cnF σ ch 1 m.toNat), ⟨_, 0, rfl, by omega, rfl, yC_0 m2, fun _ => ⟨m2.1, fun i hi => by omega, rfl⟩⟩, ?_, ?_⟩
  · rintro m' v σ2 rv f2 ⟨j, rfl, hj, hm', hC, hI⟩
    refine ⟨fun z => ⟨yC_m hC (by omega), fun y => ?_⟩, fun z => ?_⟩
    · obtain ⟨t1, t2, t3⟩ := hI y
      refine ⟨by omega, fun i hi => t2 i (by omega), ?_⟩
      rw [← hmm, show n.toNat = j by omega]; exact t3
    · obtain ⟨b1, b2, b3, b4, b5, b6, b7, b8, b9, b10⟩ := y_lane m1 hg (l := j) ⟨by omega, z⟩
      rw [Int.toNat_natCast] at b3 b4
      refine ⟨b10, b9, fun n2 v33 v34 => ∃ i : Nat, v34 = v_lStart σ G j + i ∧ i ≤ v_lCell σ G j ∧ n2 = (v_lCell σ G j - i).toNat ∧ v33 = su (fun l => if v_fChosen σ ch l 1 = 0 then 0 else 1) (v_lStart σ G j) i, fun v33 => v33 = su (fun l => if v_fChosen σ ch l 1 = 0 then 0 else 1) (v_lStart σ G j) (v_lCell σ G j).toNat, ⟨_, 0, by omega, by omega, rfl, rfl⟩, ?_, ?_⟩
      · rintro n2 v33 v34 r33 r34 ⟨i, rfl, hi, hn2, hv⟩
        have s01 := su_01 (g := fun l => if v_fChosen σ ch l 1 = 0 then 0 else 1) (p := v_lStart σ G j) (i := i) (fun x => by split <;> omega)
        refine ⟨fun y => by rw [show (v_lCell σ G j).toNat = i by omega]; exact hv, fun y => ⟨ch_p (y_cell m1 hch ⟨by omega, by omega⟩).2, fun v62 e62 r62 => ?_⟩⟩
        have v01 : 0 ≤ v62 ∧ v62 ≤ 1 := by rw [e62]; split <;> omega
        refine ⟨⟨by omega, by omega⟩, ⟨by omega, by omega⟩, (v_lCell σ G j - (i + 1 : Nat)).toNat, by omega, i + 1, by omega, by omega, rfl, ?_⟩
        simp only [su]
        rw [← hv, e62]
      · rintro v33 r33 hv
        have s01 := su_01 (g := fun l => if v_fChosen σ ch l 1 = 0 then 0 else 1) (p := v_lStart σ G j) (i := (v_lCell σ G j).toNat) (fun x => by split <;> omega)
        refine y_first hC (by omega) r33 (fun σ' f' c' h' _ => ⟨⟨by omega, by omega⟩, n.toNat - (j + 1), by omega, j + 1, by omega, by omega, rfl, c', fun y => ?_⟩)
        obtain ⟨q1, q2, q3, q4, q5⟩ := h' y
        obtain ⟨t1, t2, t3⟩ := hI q1
        rw [t1] at q3 q4 q5
        refine ⟨by omega, fun i hi => ?_, ?_⟩
        · by_cases e : i = j
          · subst e; rw [q4, hv]; omega
          · rw [q5 i (by omega)]; exact t2 i (by omega)
        · have hs1 : su (sg_g σ 78) (sg_g σ 80 G) (j + 1) = v_lStart σ G j + v_lCell σ G j := by rw [← b4, b5]
          rw [hs1]
          rw [← b3] at t3
          have ap := su_app (fun l => if v_fChosen σ ch l 1 = 0 then 0 else 1) 0 (v_lStart σ G j).toNat (v_lCell σ G j).toNat
          rw [show (v_lStart σ G j).toNat + (v_lCell σ G j).toNat = (v_lStart σ G j + v_lCell σ G j).toNat by omega, show (0 : Int) + ((v_lStart σ G j).toNat : Int) = v_lStart σ G j by omega] at ap
          simp only [su]
          rw [show (0 : Int) + j = j by omega, q4, hv, su_sh (g := sg_g σ2 83) (p := 0) (fun i hi => q5 _ (by omega)), t3]
          unfold cnF
          rw [ap]
  · rintro σ2 f2 ⟨hC, hI⟩
    have ex2 : yEx σ σ2 := yEx_F f2 rfl
    have w2 : sg_g σ2 77 10 = sg_g σ 77 10 := sg_F_g f2 rfl
    have s2 : sg_g σ2 77 17 = sg_g σ 77 17 := sg_F_g f2 rfl
    refine y_seal (D := 0) (f := 1) (n := n) (yG_F m1 f2 rfl) (by omega) (by omega) (by omega) hC.2.2.2 (fun z => aA_fd (fun z2 => by have := (hI z2).1; omega) hn z) (by omega) (fun σ17 f17 y17 h17 r16 _ σ22 e22 σ25 e25 => ?_)
    rw [xp_in ha] at e22
    have f22 : sg_F [70] σ17 σ22 := by rw [e22]; exact sg_F_w (sg_F_r _ _) rfl _
    have f25 : sg_F [11061] σ22 σ25 := by rw [e25]; exact sg_F_w (sg_F_r _ _) rfl _
    have f1725 : sg_F [70, 11061] σ17 σ25 := sg_F_t (sg_F_m f22 rfl) (sg_F_m f25 rfl)
    have F : sg_F [70, 78, 79, 80, 81, 82, 83, 85, 86, 87, 11061, 11077, 12077, 13077, 14077, 15077, 16077, 17077, 18077, 19077] σ σ25 := sg_F_t (sg_F_t (sg_F_m f2 rfl) (sg_F_m f17 rfl)) (sg_F_m f1725 rfl)
    have e10 : sg_g σ25 61 10 = sg_g σ17 77 18 := by rw [e25, sg_gw_e _ _ _ _ (sg_Rg _ _ _)]
    have e70 : sg_g σ25 70 a = sg_g σ2 77 10 := by rw [sg_F_ga f25 rfl, e22, sg_gw_e _ _ _ _ r16]
    rcases h17 with ⟨z1, -⟩ | ⟨z1, z2, z3, z4, z5, z6, z7, z8, z9⟩
    · exact k1 σ25 F (by rw [e10]; exact z1)
    · have ex25 : yEx σ17 σ25 := yEx_F f1725 rfl
      have o17 : sg_g σ2 77 15 = 0 := z9.2
      obtain ⟨t1, t2, t3⟩ := hI o17
      have z9' := z9.1 (by omega)
      have e80 : sg_g σ25 80 (sg_g σ2 77 10) = sg_g σ2 77 16 := by rw [sg_F_ga f1725 rfl]; exact z8
      have c25 : ∀ i : Nat, (i : Int) < n → sg_g σ25 78 (sg_g σ2 77 16 + i) = sg_g σ2 83 i := fun i hi => by rw [sg_F_ga f1725 rfl]; exact z9' i hi
      refine k2 σ25 F ⟨yG_F z3 f1725 rfl, y0_F y17 f1725 rfl, by rw [e10]; exact z1, by rw [sg_F_g f1725 (by rfl), sg_F_g f1725 (by rfl)]; omega, by rw [sg_F_g f1725 (by rfl)]; omega⟩ (yEx_t ex2 (yEx_t z2 ex25)) (fun i hi => by rw [sg_F_ga f25 rfl, e22, sg_gw_k _ _ _ _ _ _ hi, sg_F_ga f17 rfl, sg_F_ga f2 rfl]) ?_ (fun i hi => ?_) ?_
      · rw [e70]; exact yRw_up ex25 z4
      · rw [e70, e80, c25 i hi]; exact t2 i hi
      · rw [e70, e80, ← t3]
        exact su_sh (fun i hi => by rw [c25 i (by omega), show (0 : Int) + i = i by omega])
end NRW
