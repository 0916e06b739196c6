/-! rows of lengths; bundle, shorten, join of the class, exactly. -/
section CPB
variable {σ : sg_S}
theorem y_bundleX {Q : Int → sg_S → Prop} {d : Nat} {a it n : Int} (g : yG σ) (hw : sg_g σ 77 10 + 1 ≤ 8000) (ha : yRw σ a n) (hl : yLn σ a n) (hi : yV σ d it (su (sg_g σ 78) (sg_g σ 80 a) n.toNat)) (k : ∀ σ', sg_F [79, 80, 81, 82, 11077] σ σ' → yEx σ σ' → yG σ' → yV σ' (d + 1) (sg_g σ 77 10) n → sg_g σ' 77 10 = sg_g σ 77 10 + 1 → sg_g σ' 80 (sg_g σ 77 10) = sg_g σ 80 a → sg_g σ' 82 (sg_g σ 77 10) = it → Q (sg_g σ 77 10) σ') : V_lBundle σ a it Q := by
  have ha0 := ha
  obtain ⟨a1, a2, a3, a4, a5⟩ := ha
  obtain ⟨g1, g2, g3, g4⟩ := id g
  have hit := (yV_r hi).1
  generalize hw0 : sg_g σ 77 10 = w at *
  unfold V_lBundle
  rw [hw0, xa_in (a := 80) ⟨by omega, by omega⟩, xa_in (a := 81) ⟨by omega, by omega⟩]
  intro σ1 e1 σ4 e4 σ7 e7
  rw [xp_in ⟨by omega, by omega⟩] at e1 e4 e7
  have f7 : sg_F [80, 81, 82] σ σ7 := by rw [e7, e4, e1]; exact sg_F_w (sg_F_w (sg_F_w (sg_F_r _ _) rfl _) rfl _) rfl _
  have i80 : sg_g σ7 80 w = sg_g σ 80 a := by rw [e7, sg_gw_c _ _ _ _ _ _ (by decide), e4, sg_gw_c _ _ _ _ _ _ (by decide), e1, sg_gw_e _ _ _ _ (sg_Rg _ _ _)]
  have i81 : sg_g σ7 81 w = n := by rw [e7, sg_gw_c _ _ _ _ _ _ (by decide), e4, sg_gw_e _ _ _ _ (sg_Rg _ _ _)]; exact a2
  have i82 : sg_g σ7 82 w = it := by rw [e7, sg_gw_e _ _ _ _ ⟨by omega, by omega⟩]
  have r7 : ∀ v, 0 ≤ v → v < w → sg_g σ7 80 v = sg_g σ 80 v ∧ sg_g σ7 81 v = sg_g σ 81 v ∧ sg_g σ7 82 v = sg_g σ 82 v := fun v x y => by
    refine ⟨?_, ?_, ?_⟩
    · rw [e7, sg_gw_c _ _ _ _ _ _ (by decide), e4, sg_gw_c _ _ _ _ _ _ (by decide), e1, sg_gw_k _ _ _ _ _ _ (by omega)]
    · rw [e7, sg_gw_c _ _ _ _ _ _ (by decide), e4, sg_gw_k _ _ _ _ _ _ (by omega), e1, sg_gw_c _ _ _ _ _ _ (by decide)]
    · rw [e7, sg_gw_k _ _ _ _ _ _ (by omega), e4, sg_gw_c _ _ _ _ _ _ (by decide), e1, sg_gw_c _ _ _ _ _ _ (by decide)]
  refine y_lay (n := n) (by rw [xa_in ⟨by omega, by omega⟩]; exact i81) (by omega) (fun _ => ⟨by omega, by rw [i80]; omega, by rw [i80]; omega⟩) (fun i hi => by rw [i80, sg_F_ga f7 rfl]; exact hl i hi) (fun σ11 f11 l1 l2 _ => ⟨⟨by omega, by omega⟩, fun σ17 e17 => ⟨⟨by omega, by omega⟩, ?_⟩⟩)
  rw [i80] at l1 l2
  rw [show w + 1 - 1 = w by omega]
  have f17 : sg_F [11077] σ11 σ17 := by rw [e17]; exact sg_F_w (sg_F_r _ _) rfl _
  have F : sg_F [79, 80, 81, 82, 11077] σ σ17 := sg_F_t (sg_F_t (sg_F_m f7 rfl) (sg_F_m f11 rfl)) (sg_F_m f17 rfl)
  have f717 : sg_F [79, 11077] σ7 σ17 := sg_F_t (sg_F_m f11 rfl) (sg_F_m f17 rfl)
  have w17 : sg_g σ17 77 10 = w + 1 := by rw [e17, sg_gw_e _ _ _ _ ⟨by omega, by omega⟩]
  have u17 : sg_g σ17 77 16 = sg_g σ 77 16 := sg_F_g F rfl
  have c17 : ∀ x, sg_g σ17 78 x = sg_g σ 78 x := fun x => sg_F_ga F rfl
  have r17 : ∀ v, 0 ≤ v → v < w → sg_g σ17 80 v = sg_g σ 80 v ∧ sg_g σ17 81 v = sg_g σ 81 v ∧ sg_g σ17 82 v = sg_g σ 82 v := fun v x y => by
    obtain ⟨t1, t2, t3⟩ := r7 v x y
    exact ⟨by rw [sg_F_ga f717 rfl]; exact t1, by rw [sg_F_ga f717 rfl]; exact t2, by rw [sg_F_ga f717 rfl]; exact t3⟩
  have s17 : ∀ i : Nat, (i : Int) < n → sg_g σ17 79 (sg_g σ 80 a + i) = su (sg_g σ 78) (sg_g σ 80 a) i := fun i hi => by
    rw [sg_F_ga f17 rfl, l1 i hi]
    exact su_sh (fun j hj => sg_F_ga f7 rfl)
  have ex : yEx σ σ17 := by
    refine ⟨⟨by omega, by omega⟩, fun v x y => r17 v x (by omega), fun x _ _ => c17 x, fun v m r lo i hi => ?_⟩
    obtain ⟨v1, v2, v3, v4, v5⟩ := r
    rw [(r17 v v1.1 (by omega)).1]
    have sm : su (sg_g σ17 78) (sg_g σ 80 v) i = su (sg_g σ 78) (sg_g σ 80 v) i := su_sh (fun j hj => c17 _)
    rw [sm]
    rcases g4 v a v1.1 (by omega) a1.1 (by omega) with ⟨q1, q2⟩ | q
    · rw [q1]
      exact s17 i (by omega)
    · rw [sg_F_ga f17 rfl, l2 _ (fun i' hi' => by omega), sg_F_ga f7 rfl]
      exact lo i hi
  have h80 : sg_g σ17 80 w = sg_g σ 80 a := by rw [sg_F_ga f717 rfl]; exact i80
  have h81 : sg_g σ17 81 w = n := by rw [sg_F_ga f717 rfl]; exact i81
  have h82 : sg_g σ17 82 w = it := by rw [sg_F_ga f717 rfl]; exact i82
  refine k σ17 F ex ?_ ?_ w17 h80 h82
  · refine ⟨by omega, by rw [u17]; exact g2, fun v x y => ?_, fun v v' x y x' y' => ?_⟩
    · by_cases e : v = w
      · rw [e, h80, h81, u17]; omega
      · have := g3 v x (by omega)
        rw [(r17 v x (by omega)).1, (r17 v x (by omega)).2.1, u17]; omega
    · by_cases e : v = w
      · by_cases e' : v' = w
        · left; rw [e, e']; exact ⟨rfl, rfl⟩
        · rw [e, h80, h81, (r17 v' x' (by omega)).1, (r17 v' x' (by omega)).2.1, ← a2]
          exact g4 a v' a1.1 (by omega) x' (by omega)
      · by_cases e' : v' = w
        · rw [e', h80, h81, (r17 v x (by omega)).1, (r17 v x (by omega)).2.1, ← a2]
          exact g4 v a x (by omega) a1.1 (by omega)
        · rw [(r17 v x (by omega)).1, (r17 v x (by omega)).2.1, (r17 v' x' (by omega)).1, (r17 v' x' (by omega)).2.1]
          exact g4 v v' x (by omega) x' (by omega)
  · refine ⟨⟨by omega, h81, a3, by rw [h80]; exact a4, by rw [h80, u17]; exact a5⟩, fun i hi => ?_, fun i hi => ?_, ?_⟩
    · rw [h80, c17]; exact hl i hi
    · rw [h80, s17 i hi]
      exact (su_sh (fun j hj => c17 _)).symm
    · rw [h82, h80, su_sh (g := sg_g σ 78) (p := sg_g σ 80 a) (fun j hj => c17 _)]
      exact yV_up ex hi
end CPB
theorem su_ln {g : Int → Int} {p : Int} {ln : List Nat} (h : ∀ i : Nat, i < ln.length → g (p + i) = (ln.getD i 0 : Nat)) : ∀ i : Nat, i ≤ ln.length → su g p i = ((ln.take i).sum : Nat)
  | 0, _ => rfl
  | i + 1, hi => by
    simp only [su]
    rw [su_ln h i (by omega), h i (by omega), tk_sum ln i (by omega)]
    omega
/-- a row of lengths -/
def rwX (σ : sg_S) (a : Int) (ln : List Nat) : Prop := yRw σ a ln.length ∧ ∀ i : Nat, i < ln.length → sg_g σ 78 (sg_g σ 80 a + i) = (ln.getD i 0 : Nat) ∧ ln.getD i 0 ≤ 200
theorem rwX_up {σ σ' : sg_S} (x : yEx σ σ') {a : Int} {ln : List Nat} (h : rwX σ a ln) : rwX σ' a ln := by
  have r := h.1
  refine ⟨yRw_up x r, fun i hi => ⟨?_, (h.2 i hi).2⟩⟩
  obtain ⟨a1, a2, a3, a4, a5⟩ := r
  rw [(x.2.1 a a1.1 a1.2).1, x.2.2.1 _ (by omega) (by omega)]
  exact (h.2 i hi).1
theorem yX_rw {σ : sg_S} (g : yG σ) {d : Nat} {a : Int} {v0 : List vaF} (h : yX σ (d + 1) a v0) : rwX σ a (v0.map (fun v => (itF v).length)) := by
  refine ⟨by rw [List.length_map]; exact h.1, fun i hi => ?_⟩
  rw [List.length_map] at hi
  rw [ln_g hi]
  obtain ⟨a1, a2, a3⟩ := h.2.1 i hi
  have il := itF_l (v0.getD i (nmF 0))
  exact ⟨by rw [a1]; omega, by omega⟩
theorem x_bundle {σ : sg_S} {Q : Int → sg_S → Prop} {d : Nat} {a it : Int} {ln : List Nat} {v : List vaF} (g : yG σ) (hw : sg_g σ 77 10 + 1 ≤ 8000) (ha : rwX σ a ln) (hi : yX σ d it v) (hsum : ln.sum = v.length) (k : ∀ σ', sg_F [79, 80, 81, 82, 11077] σ σ' → yEx σ σ' → yG σ' → yX σ' (d + 1) (sg_g σ 77 10) (fCt ln v) → sg_g σ' 77 10 = sg_g σ 77 10 + 1 → Q (sg_g σ 77 10) σ') : V_lBundle σ a it Q := by
  have sm : su (sg_g σ 78) (sg_g σ 80 a) ((ln.length : Int)).toNat = (v.length : Int) := by
    rw [Int.toNat_natCast, su_ln (fun i hi => (ha.2 i hi).1) ln.length (Nat.le_refl _), List.take_length, hsum]
  refine y_bundleX (d := d) (n := ln.length) g hw ha.1 (fun i hi => ?_) (by rw [sm]; exact yX_V hi) (fun σ' f' x' g' v' w' e80 e82 => k σ' f' x' g' ⟨?_, fun i hi' => ?_, ?_, ?_⟩ w')
  · have := ha.2 i (by omega)
    rw [this.1]
    omega
  · rw [fCt_l]; exact v'.1
  · rw [fCt_l] at hi'
    obtain ⟨u, hu⟩ : ∃ u, (fCt ln v)[i]? = some u := ⟨_, List.getElem?_eq_getElem (by rw [fCt_l]; exact hi')⟩
    obtain ⟨c1, c2, c3⟩ := fCt_w ln v i u hsum hu
    have eu : (fCt ln v).getD i (nmF 0) = u := by rw [List.getD_eq_getElem?_getD, hu]; rfl
    have b := (ha.2 i hi').2
    rw [eu, c3, e80, sg_F_ga f' rfl]
    exact ⟨(ha.2 i hi').1, by omega, by omega⟩
  · rw [fCt_l]; exact v'.2.2.1
  · rw [e82, fCt_f ln v hsum]; exact yX_up x' hi
theorem ah_sum {v0 : List vaF} (j : Nat) : ahF v0 j = ((v0.map (fun v => (itF v).length)).take j).sum := by
  unfold ahF
  rw [flF_l, List.map_take]
theorem tk_dv {l : List vaF} {p i : Nat} (h : p + i < l.length) : (l.drop p).take (i + 1) = (l.drop p).take i ++ [l.getD (p + i) (nmF 0)] := by
  rw [List.take_add_one, List.getElem?_drop, gD_i h]
  rfl
abbrev shY : List Nat := [70, 78, 79, 80, 81, 82, 83, 85, 86, 87, 11061, 11077, 12077, 13077, 14077, 15077, 16077, 17077, 18077, 19077]
section CPS
variable {σ : sg_S} {Q : sg_S → Prop}
theorem f_shortenX {a ch c : Int} {n dg dc : Nat} {v0 cv : List vaF} {s : fSt} (ha : 0 ≤ a ∧ a < 200) (hm : mC σ c) (hs : ctX σ s) (hc : 4 ≤ c) (h69 : sg_g σ 69 a = n) (hn : n ≤ 6000) (hg : yX σ (dg + 1) (sg_g σ 70 a) v0) (hgl : v0.length = n) (hmm : (v0.map (fun v => (itF v).length)).sum = cv.length) (hch : yX σ dc ch cv) (k1 : fStp (n : Int) s = none → ∀ σ', sg_F shY σ σ' → sg_g σ' 61 10 = 8 → ctX σ' s → Q σ') (k2 : ∀ s1, fStp (n : Int) s = some s1 → ∀ σ', sg_F shY σ σ' → mC σ' c → ctX σ' s1 → yEx σ σ' → (∀ i, ¬ i = a → sg_g σ' 70 i = sg_g σ 70 i) → rwX σ' (sg_g σ' 70 a) (ctL (v0.map (fun v => (itF v).length)) cv) → Q σ') : V_fShorten σ a ch Q := by
  obtain ⟨m1, m2, m3, m4, m5⟩ := id hm
  generalize hG : sg_g σ 70 a = G at *
  obtain ⟨ln, hln⟩ : ∃ ln, ln = v0.map (fun v => (itF v).length) := ⟨_, rfl⟩
  rw [← hln] at k2 hmm
  have lnl : ln.length = n := by rw [hln, List.length_map]; exact hgl
  have lg : ∀ j, j < n → ln.getD j 0 = (itF (v0.getD j (nmF 0))).length := fun j hj => by rw [hln]; exact ln_g (by omega)
  have as : ∀ j, ahF v0 j = (ln.take j).sum := fun j => by rw [hln]; exact ah_sum j
  have cl := ctL_l ln cv
  have ci := fun (i : Nat) (hi : i < ln.length) => ctL_i (c := cv) hmm hi
  obtain ⟨C, hC⟩ : ∃ C, C = ctL ln cv := ⟨_, rfl⟩
  rw [← hC] at k2 cl ci
  have gD : ∀ (j : Nat), j < n → C.getD j 0 ≤ 200 := fun j hj => by
    rw [ci j (by omega)]
    have a1 := cwF_le true ((cv.drop (ln.take j).sum).take (ln.getD j 0))
    rw [List.length_take] at a1
    have a2 := (yX_ln m1 hg (j := j) (by omega)).2.2.2.1
    rw [← lg j hj] at a2
    omega
  unfold V_fShorten
  rw [xa_in ha, xa_in ha, h69, hG]
  refine ⟨fun m' v σ2 => ∃ j : Nat, v = j ∧ j ≤ n ∧ m' = n - j ∧ toX σ2 0 ((List.range j).map (fun i : Nat => (C.getD i 0 : Int))) [] [] 0, fun σ2 => toX σ2 0 ((List.range n).map (fun i : Nat => (C.getD i 0 : Int))) [] [] 0, ⟨_, 0, rfl, Nat.zero_le _, rfl, toX_0 m2 0⟩, ?_, ?_⟩
  · rintro m' v σ2 rv f2 ⟨j, rfl, hj, hm', hI⟩
    refine ⟨fun z => by rw [show n = j by omega]; exact hI, fun z => ?_⟩
    obtain ⟨l1, l2, l3, l4, l5, l6, l7, l8⟩ := yX_ln m1 hg (j := j) (by omega)
    rw [← lg j (by omega)] at l1 l3 l4 l5
    have ab := ahF_b (l := v0) (i := j) (by omega)
    have fls : (flF v0).length = cv.length := by rw [flF_l, ← hln, hmm]
    rw [← lg j (by omega), fls] at ab
    rw [l2, l3]
    refine ⟨l8, l7, fun n2 v33 v34 => ∃ i : Nat, v34 = (ahF v0 j : Int) + i ∧ i ≤ ln.getD j 0 ∧ n2 = ln.getD j 0 - i ∧ v33 = (cwF true ((cv.drop (ahF v0 j)).take i) : Int), fun v33 => v33 = (C.getD j 0 : Int), ⟨_, 0, by omega, Nat.zero_le _, rfl, rfl⟩, ?_, ?_⟩
    · rintro n2 v33 v34 r33 r34 ⟨i, rfl, hi, hn2, hv⟩
      have cb := cwF_le true ((cv.drop (ahF v0 j)).take i)
      rw [List.length_take] at cb
      refine ⟨fun y => ?_, fun y => ?_⟩
      · rw [hv, ci j (by omega), ← as j, show ln.getD j 0 = i by omega]
      · obtain ⟨x1, x2⟩ := yX_cell m1 hch (i := ahF v0 j + i) (by omega)
        rw [show ((ahF v0 j + i : Nat) : Int) = (ahF v0 j : Int) + i by omega] at x1 x2
        have ce := ch_b (w := 1) (b := true) (Or.inl ⟨rfl, rfl⟩) x1
        refine ⟨ch_p x2, fun v62 e62 r62 => ?_⟩
        have v01 : 0 ≤ v62 ∧ v62 ≤ 1 := by rw [e62]; split <;> omega
        refine ⟨⟨by omega, by omega⟩, ⟨by omega, by omega⟩, ln.getD j 0 - (i + 1), by omega, i + 1, by omega, by omega, rfl, ?_⟩
        rw [tk_dv (by omega), cwF_a, cwF_1, hv, e62]
        by_cases r : v_fChosen σ ch ((ahF v0 j : Int) + i) 1 = 0
        · rw [if_pos r, if_neg (ce.mp r)]; omega
        · rw [if_neg r, if_pos (Decidable.byContradiction (fun c => r (ce.mpr c)))]; omega
    · rintro v33 r33 hv
      have g2 := gD j (by omega)
      refine t_first hI (by rw [List.length_map, List.length_range]; omega) r33 (fun σ' t' f' _ => ⟨⟨by omega, by omega⟩, n - (j + 1), by omega, j + 1, by omega, by omega, rfl, ?_⟩)
      rw [mrs (fun i : Nat => (C.getD i 0 : Int)), ← hv]
      exact t'
  · intro σ2 f2 hI
    have ex2 : yEx σ σ2 := yEx_F f2 rfl
    have w2 : sg_g σ2 77 10 = sg_g σ 77 10 := sg_F_g f2 rfl
    have s2 : sg_g σ2 77 17 = sg_g σ 77 17 := sg_F_g f2 rfl
    have c2 : ctX σ2 s := ctX_F f2 rfl hs
    obtain ⟨L, hL⟩ : ∃ L : List vaF, L = (List.range n).map (fun i : Nat => nmF (C.getD i 0 : Int)) := ⟨_, rfl⟩
    have Ll : L.length = n := by rw [hL, List.length_map, List.length_range]
    have eF : (List.range n).map (fun i : Nat => (C.getD i 0 : Int)) = L.map (fun v => v []) := by rw [hL, List.map_map]; rfl
    rw [eF] at hI
    obtain ⟨q1, q2, q3, q4⟩ := toX_s (f := 1) (D := 0) (L := L) hI (Or.inr (Or.inl ⟨rfl, rfl, rfl, Or.inl ⟨rfl, rfl⟩⟩)) (Or.inr ⟨by decide, rfl⟩)
    have eX : exF 0 L = (n : Int) := by show (L.length : Int) = _; rw [Ll]
    rw [eX] at q2
    refine x_seal (D := 0) (f := 1) (L := L) (e := 0) (yG_F m1 f2 rfl) (by omega) (by omega) (by decide) q4 q3 q1 (fun z => by rw [eX]; exact q2 z) (by decide) (fun σ17 f17 y17 h17 _ r16 _ σ22 e22 σ25 e25 => ?_)
    rw [xp_in ha] at e22
    have f22 : sg_F [70] σ17 σ22 := by rw [e22]; exact sg_F_w (sg_F_r _ _) rfl _
    have f25 : sg_F [11061] σ22 σ25 := by rw [e25]; exact sg_F_w (sg_F_r _ _) rfl _
    have f1725 : sg_F [70, 11061] σ17 σ25 := sg_F_t (sg_F_m f22 rfl) (sg_F_m f25 rfl)
    have F : sg_F shY σ σ25 := sg_F_t (sg_F_t (sg_F_m f2 rfl) (sg_F_m f17 rfl)) (sg_F_m f1725 rfl)
    have e10 : sg_g σ25 61 10 = sg_g σ17 77 18 := by rw [e25, sg_gw_e _ _ _ _ (sg_Rg _ _ _)]
    have e70 : sg_g σ25 70 a = sg_g σ2 77 10 := by rw [sg_F_ga f25 rfl, e22, sg_gw_e _ _ _ _ r16]
    have e24 : sg_g σ25 61 24 = s.2.2 := by rw [sg_F_g F (by rfl)]; exact hs.2.2.1
    have c1 := hs.1
    have c4 := hs.2.2.2
    unfold seR at h17
    rw [c2.1, c2.2.1, eX] at h17
    rcases h17 with ⟨z1, z2, z3, z4⟩ | ⟨z1, z2, z3, z4, z5, z6, z7, z8⟩
    · exact k1 (fStp_n.mpr z1) σ25 F (by rw [e10]; exact z2) ⟨by rw [sg_F_g f1725 (by rfl)]; exact z3, by rw [sg_F_g f1725 (by rfl)]; exact z4, e24, hs.2.2.2⟩
    · have ex25 : yEx σ17 σ25 := yEx_F f1725 rfl
      refine k2 _ (fStp_e z1) σ25 F ⟨yG_F z6 f1725 rfl, y0_F y17 f1725 rfl, by rw [e10]; exact z2, by rw [sg_F_g f1725 (by rfl), sg_F_g f1725 (by rfl)]; omega, by rw [sg_F_g f1725 (by rfl)]; omega⟩ ⟨by rw [sg_F_g f1725 (by rfl)]; exact z3, by rw [sg_F_g f1725 (by rfl)]; exact z4, e24, by simp only; omega, by simp only; omega⟩ (yEx_t ex2 (yEx_t z5 ex25)) (fun i hi => by rw [sg_F_ga f25 rfl, e22, sg_gw_k _ _ _ _ _ _ hi, sg_F_ga f17 rfl, sg_F_ga f2 rfl]) ?_
      have z9 := yX_up ex25 z7
      rw [e70]
      refine ⟨by rw [cl, lnl, ← Ll]; exact z9.1, fun i hi => ⟨?_, gD i (by omega)⟩⟩
      rw [z9.2 i (by omega)]
      rw [hL, List.getD_eq_getElem?_getD, List.getElem?_map, List.getElem?_range (by omega)]
      rfl
end CPS
theorem tl_g (b : List vaF) (k : Nat) : b.tail.getD k (nmF 0) = b.getD (k + 1) (nmF 0) := by
  cases b with
  | nil => simp
  | cons v r => rfl
theorem hd_g (b : List vaF) : b.headD (nmF 0) = b.getD 0 (nmF 0) := by
  cases b with
  | nil => rfl
  | cons v r => rfl
theorem fMg_s : ∀ (c a b : List vaF) (x : vaF), fMg (c ++ [x]) a b = fMg c a b ++ [if x [] = 0 then b.getD (cwF false c) (nmF 0) else a.getD (cwF true c) (nmF 0)]
  | [], a, b, x => by
    simp only [List.nil_append, fMg]
    by_cases h : x [] = 0
    · rw [if_pos h, if_pos h, hd_g]; rfl
    · rw [if_neg h, if_neg h, hd_g]; rfl
  | v :: c, a, b, x => by
    simp only [List.cons_append, fMg]
    rw [cwF_c, cwF_c]
    by_cases h : v [] = 0
    · rw [if_pos h, if_pos h, fMg_s c a b.tail x, List.cons_append, tl_g]
      simp [h]
    · rw [if_neg h, if_neg h, fMg_s c a.tail b x, List.cons_append, tl_g]
      simp [h]
