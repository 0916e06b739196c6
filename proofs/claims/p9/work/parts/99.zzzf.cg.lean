/-! Operations of the class that pick, exactly. -/
section CGS
variable {w : Nat → vaF}
theorem flw_s (j : Nat) : flF ((List.range (j + 1)).map w) = flF ((List.range j).map w) ++ itF (w j) := by
  rw [mrs, flF_a, flF_1]
theorem flw_l : ∀ {j : Nat}, (∀ i, i < j → (w i) [] ≤ 200) → (flF ((List.range j).map w)).length ≤ 200 * j
  | 0, _ => by simp [flF]
  | j + 1, h => by
    have a := flw_l (j := j) (fun i hi => h i (by omega))
    have b := h j (by omega)
    rw [flw_s, List.length_append, itF_l]
    omega
theorem exF_pre (D : Nat) {j n : Nat} (h : j ≤ n) : exF D ((List.range j).map w) ≤ exF D ((List.range n).map w) := by
  obtain ⟨m, rfl⟩ : ∃ m, n = j + m := ⟨n - j, by omega⟩
  have e : (List.range (j + m)).map w = (List.range j).map w ++ (List.range m).map (fun i => w (j + i)) := by
    rw [List.range_add, List.map_append, List.map_map]; rfl
  rw [e, exF_a]
  have := exF_p D ((List.range m).map (fun i => w (j + i)))
  omega
end CGS
/-- items a .. b of lane j -/
theorem pkX_it {σ : sg_S} (g : yG σ) {d : Nat} {s : Int} {la : List vaF} (h : yX σ (d + 1) s la) {j a b : Nat} (hj : j < la.length) (ab : a ≤ b) (hb : b ≤ (itF (la.getD j (nmF 0))).length) : pkX σ d (v_lItems σ s) ((ahF la j + a : Nat) : Int) ((ahF la j + b : Nat) : Int) (((itF (la.getD j (nmF 0))).drop a).take (b - a)) := by
  right
  have nx := h.2.2.2
  rw [← y_items g h.1] at nx
  have le := ahF_b hj
  refine ⟨flF la, nx, by omega, by omega, by omega, ?_⟩
  rw [Int.toNat_natCast, show (((ahF la j + b : Nat) : Int) - ((ahF la j + a : Nat) : Int)).toNat = b - a by omega, flF_at hj]
  have e5 : ahF la j = (flF (la.take j)).length := rfl
  rw [e5, ← List.drop_drop, List.drop_left, List.drop_append_of_le_length (by omega), List.take_append_of_le_length (by rw [List.length_drop]; omega)]
theorem pkX_1 {σ : sg_S} (g : yG σ) {d : Nat} {s : Int} {la : List vaF} (h : yX σ (d + 1) s la) {j a : Nat} (hj : j < la.length) (ha : a < (itF (la.getD j (nmF 0))).length) : pkX σ d (v_lItems σ s) ((ahF la j + a : Nat) : Int) (((ahF la j + a : Nat) : Int) + 1) [(itF (la.getD j (nmF 0))).getD a (nmF 0)] := by
  have := pkX_it g h hj (a := a) (b := a + 1) (by omega) (by omega)
  rw [show ((ahF la j + (a + 1) : Nat) : Int) = ((ahF la j + a : Nat) : Int) + 1 by omega, show a + 1 - a = 1 by omega, dr_D ha] at this
  exact this
theorem itR {σ : sg_S} {v : Int} : sg_R (v_lItems σ v) := by
  unfold v_lItems
  repeat' split
  all_goals first | exact sg_Rg _ _ _ | decide
/-- cells, starts, ends of lane j of a sequence -/
theorem yX_ln {σ : sg_S} (g : yG σ) {d : Nat} {s : Int} {la : List vaF} (h : yX σ (d + 1) s la) {j : Nat} (hj : j < la.length) : v_lCell σ s j = ((itF (la.getD j (nmF 0))).length : Int) ∧ v_lStart σ s j = (ahF la j : Int) ∧ v_lEnd σ s j = ((ahF la j + (itF (la.getD j (nmF 0))).length : Nat) : Int) ∧ (itF (la.getD j (nmF 0))).length ≤ 200 ∧ ahF la j + (itF (la.getD j (nmF 0))).length ≤ 6000 ∧ p_lCell σ s j ∧ p_lStart σ s j ∧ p_lEnd σ s j := by
  obtain ⟨b1, b2, b3, b4, b5, b6, b7, b8, b9, b10⟩ := y_lane g (yX_V h) (l := (j : Int)) ⟨by omega, by omega⟩
  obtain ⟨c1, c2⟩ := yX_cell g h hj
  obtain ⟨s1, s2, s3⟩ := yX_st g h hj
  have q := (h.2.1 j hj).2
  rw [ahF_s hj] at s3
  have il := itF_l (la.getD j (nmF 0))
  refine ⟨by rw [c1]; omega, s1, s3, by omega, ?_, c2, s2, b10⟩
  rw [s3] at b6
  omega
/-- what was told of n lanes of sequences -/
theorem str_X {σ σ2 : sg_S} {t : Int} {n d : Nat} {f : Nat → Int ⊕ vaF} {s : fSt} {Q : sg_S → Prop} (h : fP σ t) (hs : ctX σ s) (hD : d + 1 ≤ 3) (h9 : sg_g σ 61 9 = (d + 1 : Nat)) (f2 : sg_F acL σ σ2) (ht : toX σ2 d ((List.range n).map (fun i => (fOv (f i)) [])) [] (flF ((List.range n).map (fun i => fOv (f i)))) (fOe ((List.range n).map f)) ∨ (¬ sg_g σ2 77 15 = 0 ∧ 6000 < exF (d + 1) ((List.range n).map (fun i => fOv (f i))))) (hf : ∀ i, i < n → 0 ≤ (fOv (f i)) [] ∧ (fOv (f i)) [] ≤ 200) (k : ∀ σ', sg_F opL σ σ' → gwX σ σ' (d + 1) ((List.range n).map f) t s → Q σ') : V_fGive σ2 1 Q := by
  have eL : ((List.range n).map f).map fOv = (List.range n).map (fun i => fOv (f i)) := by rw [List.map_map]; rfl
  have fin : ∀ σ', sg_F opL σ σ' → gvX σ σ' (d + 1) ((List.range n).map (fun i => fOv (f i))) (fOe ((List.range n).map f)) t s → Q σ' := fun σ' f' r' => k σ' f' ⟨_, by rw [eL], fun _ => eL.symm, r'⟩
  rcases ht with ht | ht
  · refine f_giveX (D := d + 1) (f := 1) (L := (List.range n).map (fun i => fOv (f i))) h hs hD h9 (by decide) f2 ht (Or.inr (Or.inl ⟨rfl, by rw [List.map_map]; rfl, rfl, Or.inr ⟨by omega, rfl, fun v hv => ?_⟩⟩)) (Or.inl (by omega)) fin
    obtain ⟨i, hi, e⟩ := List.mem_map.mp hv
    rw [← e]
    exact hf i (List.mem_range.mp hi)
  · exact f_giveG (D := d + 1) (f := 1) h hs hD h9 (by decide) f2 (Or.inr ht) fin
/-- there is no room in the first j lanes, so there is none in n -/
theorem str_O {σ2 : sg_S} {n d j : Nat} {f : Nat → Int ⊕ vaF} (ht : toX σ2 d ((List.range j).map (fun i => (fOv (f i)) [])) [] (flF ((List.range j).map (fun i => fOv (f i)))) (fOe ((List.range j).map f))) (hf : ∀ i, i < n → 0 ≤ (fOv (f i)) [] ∧ (fOv (f i)) [] ≤ 200) (hj : j ≤ n) (o : ¬ sg_g σ2 77 15 = 0) : 6000 < exF (d + 1) ((List.range n).map (fun i => fOv (f i))) := by
  obtain ⟨q1, q2, q3, q4⟩ := toX_s (f := 1) (D := d + 1) (L := (List.range j).map (fun i => fOv (f i))) ht (Or.inr (Or.inl ⟨rfl, by rw [List.map_map]; rfl, rfl, Or.inr ⟨by omega, rfl, fun v hv => by
    obtain ⟨i, hi, e⟩ := List.mem_map.mp hv
    rw [← e]
    exact hf i (by have := List.mem_range.mp hi; omega)⟩⟩)) (Or.inl (by omega))
  have a := q2 (by omega)
  have b := exF_pre (w := fun i => fOv (f i)) (d + 1) hj
  omega
/-- lanes were picked -/
theorem pic_X {σ σ2 : sg_S} {t : Int} {n d : Nat} {f : Nat → Int ⊕ vaF} {s : fSt} {Q : sg_S → Prop} (h : fP σ t) (hs : ctX σ s) (hD : d ≤ 3) (h9 : sg_g σ 61 9 = d) (f2 : sg_F acL σ σ2) (ht : toX σ2 d [] [] ((List.range n).map (fun i => fOv (f i))) (fOe ((List.range n).map f))) (k : ∀ σ', sg_F opL σ σ' → gwX σ σ' d ((List.range n).map f) t s → Q σ') : V_fGive σ2 0 Q := by
  have eL : ((List.range n).map f).map fOv = (List.range n).map (fun i => fOv (f i)) := by rw [List.map_map]; rfl
  exact f_giveX (D := d) (f := 0) (L := (List.range n).map (fun i => fOv (f i))) h hs hD h9 (by decide) f2 ht (Or.inl ⟨rfl, rfl, rfl, rfl⟩) (Or.inl (by omega)) (fun σ' f' r' => k σ' f' ⟨_, by rw [eL], fun _ => eL.symm, r'⟩)
theorem bad_x {x : Int} (h : 0 ≤ x ∧ x ≤ 200) : v_xBadSize x = 0 := by
  unfold v_xBadSize
  rw [if_neg (by omega), if_pos (by omega)]
theorem fOe_nx {f : Nat → Int ⊕ vaF} {j : Nat} {v : vaF} (h : f j = .inr v) : fOe ((List.range (j + 1)).map f) = fOe ((List.range j).map f) := by
  rw [fOe_r, h]
  by_cases c : fOe ((List.range j).map f) = 0
  · rw [if_pos c, c]; rfl
  · rw [if_neg c]
theorem fOe_f {f : Nat → Int ⊕ vaF} {j : Nat} {e : Int} (h : f j = .inl e) : fOe ((List.range (j + 1)).map f) = if fOe ((List.range j).map f) = 0 then e else fOe ((List.range j).map f) := by
  rw [fOe_r, h, fOe_l]
section CGT
variable {σ : sg_S} {t : Int} {n d : Nat} {f : Nat → Int ⊕ vaF} {s : fSt} {Q : sg_S → Prop}
theorem o_select {db : Nat} {a b : Int} {la lb : List vaF} (h : fP σ t) (hs : ctX σ s) (hD : d ≤ 3) (h9 : sg_g σ 61 9 = d) (hn : sg_g σ 61 23 = n) (ha : yX σ (d + 1) a la) (hb : yX σ db b lb) (hla : la.length = n) (hlb : lb.length = n) (hf : ∀ i, i < n → f i = if 0 ≤ (lb.getD i (nmF 0)) [] ∧ (lb.getD i (nmF 0)) [] < ((itF (la.getD i (nmF 0))).length : Int) then .inr ((itF (la.getD i (nmF 0))).getD ((lb.getD i (nmF 0)) []).toNat (nmF 0)) else .inl 2) (k : ∀ σ', sg_F opL σ σ' → gwX σ σ' d ((List.range n).map f) t s → Q σ') : V_fSelect σ a b Q := by
  have n6 := h.2.2.2.2.2.2
  rw [hn] at n6
  unfold V_fSelect
  rw [hn]
  refine ⟨fun m v σ2 => ∃ j : Nat, v = j ∧ j ≤ n ∧ m = n - j ∧ toX σ2 d [] [] ((List.range j).map (fun i => fOv (f i))) (fOe ((List.range j).map f)), fun σ2 => toX σ2 d [] [] ((List.range n).map (fun i => fOv (f i))) (fOe ((List.range n).map f)), ⟨_, 0, rfl, Nat.zero_le _, rfl, toX_0 h.2.1 d⟩, ?_, fun σ2 f2 ht => pic_X h hs hD h9 (sg_F_m f2 rfl) ht (fun σ' f' r' _ => k σ' f' r')⟩
  rintro m v' σ2 rv f2 ⟨j, rfl, hj, hm, ht⟩
  refine ⟨fun z => by rw [show n = j by omega]; exact ht, fun z => ?_⟩
  have jl : j < la.length := by omega
  obtain ⟨l1, l2, l3, l4, l5, l6, l7, l8⟩ := yX_ln h.1 ha jl
  obtain ⟨b1, b2⟩ := yX_cell h.1 hb (i := j) (by omega)
  have hfj := hf j (by omega)
  have ex2 : yEx σ σ2 := yEx_F f2 rfl
  have fl6 : ((List.range j).map (fun i => fOv (f i))).length ≤ 1000000000 := by rw [List.length_map, List.length_range]; omega
  rw [b1, l1, l2]
  generalize hy : (lb.getD j (nmF 0)) [] = y at hfj
  have fault : ¬ (0 ≤ y ∧ y < ((itF (la.getD j (nmF 0))).length : Int)) → V_lMiss σ2 2 (fun σ34 => sg_F [15077] σ2 σ34 → V_lPick σ34 (-1) 0 1 (fun σ40 => sg_F [85, 86, 87, 14077, 16077] σ34 σ40 → toX σ40 d [] [] ((List.range (j + 1)).map (fun i => fOv (f i))) (fOe ((List.range (j + 1)).map f)))) := fun c => by
    rw [if_neg c] at hfj
    refine t_miss ht (by decide) (fun σ' t' f' _ => t_pick t' fl6 (Or.inl ⟨rfl, rfl, Or.inl ⟨rfl, rfl⟩⟩) (by decide) (by decide) (fun σ3 t3 f3 _ => ?_))
    rw [mrs, fOe_f hfj, hfj]
    exact t3
  refine ⟨b2, fun σ28 => toX σ28 d [] [] ((List.range (j + 1)).map (fun i => fOv (f i))) (fOe ((List.range (j + 1)).map f)), ⟨fun c => fault (by omega), fun c => ⟨l6, fun c2 => ?_, fun c2 => fault (by omega)⟩⟩, fun σ28 f28 h28 => ⟨⟨by omega, by omega⟩, n - (j + 1), by omega, j + 1, by omega, by omega, rfl, h28⟩⟩
  rw [if_pos ⟨c, c2⟩] at hfj
  have pk := pkX_1 h.1 ha jl (a := y.toNat) (by omega)
  rw [show ((ahF la j + y.toNat : Nat) : Int) = (ahF la j : Int) + y by omega] at pk
  refine ⟨l7, ⟨by omega, by omega⟩, y_pitems _ _, ⟨by omega, by omega⟩, t_pick ht fl6 (pkX_up ex2 pk) itR ⟨by omega, by omega⟩ (fun σ3 t3 f3 _ => ?_)⟩
  rw [mrs, fOe_nx hfj, hfj]
  exact t3
theorem o_reverse {a : Int} {la : List vaF} (h : fP σ t) (hs : ctX σ s) (hD : d + 1 ≤ 3) (h9 : sg_g σ 61 9 = (d + 1 : Nat)) (hn : sg_g σ 61 23 = n) (ha : yX σ (d + 1) a la) (hla : la.length = n) (hf : ∀ i, i < n → f i = .inr (mkF (itF (la.getD i (nmF 0))).reverse)) (k : ∀ σ', sg_F opL σ σ' → gwX σ σ' (d + 1) ((List.range n).map f) t s → Q σ') : V_fReverse σ a Q := by
  have n6 := h.2.2.2.2.2.2
  rw [hn] at n6
  have hb : ∀ i, i < n → 0 ≤ (fOv (f i)) [] ∧ (fOv (f i)) [] ≤ 200 := fun i hi => by
    rw [hf i hi]
    show 0 ≤ mkF _ [] ∧ mkF _ [] ≤ 200
    rw [mkF_0, List.length_reverse]
    have := (yX_ln h.1 ha (j := i) (by omega)).2.2.2.1
    omega
  unfold V_fReverse
  rw [hn]
  refine ⟨fun m v σ2 => ∃ j : Nat, v = j ∧ j ≤ n ∧ m = n - j ∧ toX σ2 d ((List.range j).map (fun i => (fOv (f i)) [])) [] (flF ((List.range j).map (fun i => fOv (f i)))) (fOe ((List.range j).map f)), fun σ2 => toX σ2 d ((List.range n).map (fun i => (fOv (f i)) [])) [] (flF ((List.range n).map (fun i => fOv (f i)))) (fOe ((List.range n).map f)), ⟨_, 0, rfl, Nat.zero_le _, rfl, toX_0 h.2.1 d⟩, ?_, fun σ2 f2 ht => str_X h hs hD h9 (sg_F_m f2 rfl) (Or.inl ht) hb (fun σ' f' r' _ => k σ' f' r')⟩
  rintro m v' σ2 rv f2 ⟨j, rfl, hj, hm, ht⟩
  refine ⟨fun z => by rw [show n = j by omega]; exact ht, fun z => ?_⟩
  have jl : j < la.length := by omega
  obtain ⟨l1, l2, l3, l4, l5, l6, l7, l8⟩ := yX_ln h.1 ha jl
  have hfj := hf j (by omega)
  have fl6 := flw_l (w := fun i => fOv (f i)) (j := j) (fun i hi => (hb i (by omega)).2)
  rw [l1, l2, l3]
  generalize hI : itF (la.getD j (nmF 0)) = I at *
  refine ⟨l7, l6, t_first ht (by rw [List.length_map, List.length_range]; omega) ⟨by omega, by omega⟩ (fun σ28 t28 f28 _ => ⟨l8, ⟨by omega, by omega⟩, ?_⟩)⟩
  have f28' := sg_F_t (sg_F_m (L := [83, 85, 86, 87, 12077, 14077, 16077]) f2 rfl) (sg_F_m f28 rfl)
  have e1 : (List.range j).map (fun i => (fOv (f i)) []) ++ [((I.length : Nat) : Int)] = (List.range (j + 1)).map (fun i => (fOv (f i)) []) := by
    rw [mrs, hfj]
    show _ = _ ++ [mkF I.reverse []]
    rw [mkF_0, List.length_reverse]
  rw [e1] at t28
  refine ⟨fun m2 v36 σ37 => ∃ i : Nat, v36 = ((ahF la j + I.length : Nat) : Int) - 1 - i ∧ i ≤ I.length ∧ m2 = I.length - i ∧ toX σ37 d ((List.range (j + 1)).map (fun i => (fOv (f i)) [])) [] (flF ((List.range j).map (fun i => fOv (f i))) ++ I.reverse.take i) (fOe ((List.range j).map f)), fun σ37 => toX σ37 d ((List.range (j + 1)).map (fun i => (fOv (f i)) [])) [] (flF ((List.range (j + 1)).map (fun i => fOv (f i)))) (fOe ((List.range (j + 1)).map f)), ⟨_, 0, by omega, Nat.zero_le _, rfl, by rw [List.take_zero, List.append_nil]; exact t28⟩, ?_, fun σ37 f37 h37 => ⟨⟨by omega, by omega⟩, n - (j + 1), by omega, j + 1, by omega, by omega, rfl, h37⟩⟩
  rintro m2 v36 σ37 r36 f37 ⟨i, rfl, hi1, hm2, ht2⟩
  have ex37 : yEx σ σ37 := yEx_F (sg_F_t f28' (sg_F_m f37 rfl)) rfl
  refine ⟨fun y => ?_, fun y => ?_⟩
  · have ei : i = I.length := by omega
    rw [flw_s, fOe_nx hfj, hfj]
    show toX σ37 d _ [] (_ ++ itF (mkF I.reverse)) _
    rw [itF_mk]
    rw [ei, List.take_of_length_le (by rw [List.length_reverse]; exact Nat.le_refl _)] at ht2
    exact ht2
  · have il : i < I.length := by omega
    have pk := pkX_1 h.1 ha jl (a := I.length - 1 - i) (by rw [hI]; omega)
    rw [hI, show ((ahF la j + (I.length - 1 - i) : Nat) : Int) = ((ahF la j + I.length : Nat) : Int) - 1 - i by omega] at pk
    refine ⟨y_pitems _ _, ⟨by omega, by omega⟩, t_pick ht2 (by rw [List.length_append, List.length_take]; omega) (pkX_up ex37 pk) itR ⟨by omega, by omega⟩ (fun σ3 t3 f3 _ => ⟨⟨by omega, by omega⟩, I.length - (i + 1), by omega, i + 1, by omega, by omega, rfl, ?_⟩)⟩
    have e2 : I.reverse[i]? = some (I.getD (I.length - 1 - i) (nmF 0)) := by
      rw [List.getElem?_reverse il, gD_i (by omega)]
    rw [tkA e2, ← List.append_assoc]
    exact t3
theorem o_append {a b : Int} {la lb : List vaF} (h : fP σ t) (hs : ctX σ s) (hD : d + 1 ≤ 3) (h9 : sg_g σ 61 9 = (d + 1 : Nat)) (hn : sg_g σ 61 23 = n) (ha : yX σ (d + 1) a la) (hb : yX σ (d + 1) b lb) (hla : la.length = n) (hlb : lb.length = n) (hf : ∀ i, i < n → f i = if (itF (la.getD i (nmF 0))).length + (itF (lb.getD i (nmF 0))).length ≤ 200 then .inr (mkF (itF (la.getD i (nmF 0)) ++ itF (lb.getD i (nmF 0)))) else .inl 5) (k : ∀ σ', sg_F opL σ σ' → gwX σ σ' (d + 1) ((List.range n).map f) t s → Q σ') : V_fAppend σ a b Q := by
  have n6 := h.2.2.2.2.2.2
  rw [hn] at n6
  have hbd : ∀ i, i < n → 0 ≤ (fOv (f i)) [] ∧ (fOv (f i)) [] ≤ 200 := fun i hi => by
    rw [hf i hi]
    by_cases c : (itF (la.getD i (nmF 0))).length + (itF (lb.getD i (nmF 0))).length ≤ 200
    · rw [if_pos c]
      show 0 ≤ mkF _ [] ∧ mkF _ [] ≤ 200
      rw [mkF_0, List.length_append]
      omega
    · rw [if_neg c]
      exact ⟨by decide, by decide⟩
  unfold V_fAppend
  rw [hn]
  refine ⟨fun m v σ2 => ∃ j : Nat, v = j ∧ j ≤ n ∧ m = n - j ∧ toX σ2 d ((List.range j).map (fun i => (fOv (f i)) [])) [] (flF ((List.range j).map (fun i => fOv (f i)))) (fOe ((List.range j).map f)), fun σ2 => toX σ2 d ((List.range n).map (fun i => (fOv (f i)) [])) [] (flF ((List.range n).map (fun i => fOv (f i)))) (fOe ((List.range n).map f)), ⟨_, 0, rfl, Nat.zero_le _, rfl, toX_0 h.2.1 d⟩, ?_, fun σ2 f2 ht => str_X h hs hD h9 (sg_F_m f2 rfl) (Or.inl ht) hbd (fun σ' f' r' _ => k σ' f' r')⟩
  rintro m v' σ2 rv f2 ⟨j, rfl, hj, hm, ht⟩
  refine ⟨fun z => by rw [show n = j by omega]; exact ht, fun z => ?_⟩
  obtain ⟨l1, l2, l3, l4, l5, l6, l7, l8⟩ := yX_ln h.1 ha (j := j) (by omega)
  obtain ⟨k1, k2, k3, k4, k5, k6, k7, k8⟩ := yX_ln h.1 hb (j := j) (by omega)
  have hfj := hf j (by omega)
  have fl6 := flw_l (w := fun i => fOv (f i)) (j := j) (fun i hi => (hbd i (by omega)).2)
  have pa := pkX_it h.1 ha (j := j) (a := 0) (b := (itF (la.getD j (nmF 0))).length) (by omega) (by omega) (Nat.le_refl _)
  have pb := pkX_it h.1 hb (j := j) (a := 0) (b := (itF (lb.getD j (nmF 0))).length) (by omega) (by omega) (Nat.le_refl _)
  rw [Nat.add_zero, List.drop_zero, Nat.sub_zero, List.take_length] at pa pb
  rw [l1, l2, l3, k1, k2, k3]
  generalize itF (la.getD j (nmF 0)) = I at *
  generalize itF (lb.getD j (nmF 0)) = K at *
  refine ⟨l6, k6, ⟨by omega, by omega⟩, fun σ31 => toX σ31 d ((List.range (j + 1)).map (fun i => (fOv (f i)) [])) [] (flF ((List.range (j + 1)).map (fun i => fOv (f i)))) (fOe ((List.range (j + 1)).map f)), ⟨fun y => ?_, fun y => ?_⟩, fun σ31 f31 h31 => ⟨⟨by omega, by omega⟩, n - (j + 1), by omega, j + 1, by omega, by omega, rfl, h31⟩⟩
  · have bx := x_bad y
    rw [if_pos (by omega)] at hfj
    refine t_first ht (by rw [List.length_map, List.length_range]; omega) ⟨by omega, by omega⟩ (fun σ37 t37 f37 _ => ⟨y_pitems _ _, l7, l8, ?_⟩)
    have ex37 : yEx σ σ37 := yEx_F (sg_F_t f2 (sg_F_m f37 rfl)) rfl
    refine t_pick t37 (by omega) (pkX_up ex37 pa) itR ⟨by omega, by omega⟩ (fun σ49 t49 f49 _ => ⟨y_pitems _ _, k7, k8, ?_⟩)
    have ex49 : yEx σ σ49 := yEx_t ex37 (yEx_F f49 rfl)
    refine t_pick t49 (by rw [List.length_append]; omega) (pkX_up ex49 pb) itR ⟨by omega, by omega⟩ (fun σ61 t61 f61 _ => ?_)
    rw [mrs, flw_s, fOe_nx hfj, hfj]
    show toX σ61 d (_ ++ [mkF (I ++ K) []]) [] (_ ++ itF (mkF (I ++ K))) _
    rw [itF_mk, mkF_0, List.length_append, ← List.append_assoc]
    rw [show ((I.length + K.length : Nat) : Int) = (I.length : Int) + (K.length : Int) by omega]
    exact t61
  · have nb : ¬ I.length + K.length ≤ 200 := fun c => y (bad_x (by omega))
    rw [if_neg nb] at hfj
    refine t_miss ht (by decide) (fun σ67 t67 f67 _ => t_first t67 (by rw [List.length_map, List.length_range]; omega) (by decide) (fun σ73 t73 f73 _ => ?_))
    rw [mrs, flw_s, fOe_f hfj, hfj]
    show toX σ73 d (_ ++ [0]) [] (_ ++ itF (nmF 0)) _
    rw [show itF (nmF 0) = [] by simp [itF, nmF], List.append_nil]
    exact t73
end CGT
