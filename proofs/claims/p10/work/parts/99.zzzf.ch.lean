/-! More operations of the class, exactly: flatten, repeat, rows, counts. -/
/-- lanes of numbers in sequences were told: firsts and seconds -/
theorem sec_X {σ σ2 : sg_S} {t : Int} {n : Nat} {f : Nat → Int ⊕ vaF} {s : fSt} {Q : sg_S → Prop} (h : fP σ t) (hs : ctX σ s) (h9 : sg_g σ 61 9 = 1) (f2 : sg_F acL σ σ2) (ht : toX σ2 0 ((List.range n).map (fun i => (fOv (f i)) [])) ((flF ((List.range n).map (fun i => fOv (f i)))).map (fun v => v [])) [] (fOe ((List.range n).map f)) ∨ (¬ sg_g σ2 77 15 = 0 ∧ 6000 < exF 1 ((List.range n).map (fun i => fOv (f i))))) (hf : ∀ i, i < n → 0 ≤ (fOv (f i)) [] ∧ (fOv (f i)) [] ≤ 200) (k : ∀ σ', sg_F opL σ σ' → gwX σ σ' 1 ((List.range n).map f) t s → Q σ') : V_fGive σ2 2 Q := by
  have eL : ((List.range n).map f).map fOv = (List.range n).map (fun i => fOv (f i)) := by rw [List.map_map]; rfl
  have fin : ∀ σ', sg_F opL σ σ' → gvX σ σ' 1 ((List.range n).map (fun i => fOv (f i))) (fOe ((List.range n).map f)) t s → Q σ' := fun σ' f' r' => k σ' f' ⟨_, by rw [eL], fun _ => eL.symm, r'⟩
  have bd : ∀ v ∈ (List.range n).map (fun i => fOv (f i)), 0 ≤ v [] ∧ v [] ≤ 200 := fun v hv => by
    obtain ⟨i, hi, e⟩ := List.mem_map.mp hv
    rw [← e]
    exact hf i (List.mem_range.mp hi)
  rcases ht with ht | ht
  · exact f_giveX (D := 1) (f := 2) (L := (List.range n).map (fun i => fOv (f i))) h hs (by decide) h9 (by decide) f2 ht (Or.inr (Or.inr ⟨rfl, by decide, by rw [List.map_map]; rfl, rfl, bd, Or.inl ⟨rfl, rfl⟩⟩)) (Or.inr ⟨by decide, rfl⟩) fin
  · exact f_giveG (D := 1) (f := 2) h hs (by decide) h9 (by decide) f2 (Or.inr ht) fin
theorem sec_O {σ2 : sg_S} {n j : Nat} {f : Nat → Int ⊕ vaF} (ht : toX σ2 0 ((List.range j).map (fun i => (fOv (f i)) [])) ((flF ((List.range j).map (fun i => fOv (f i)))).map (fun v => v [])) [] (fOe ((List.range j).map f))) (hf : ∀ i, i < n → 0 ≤ (fOv (f i)) [] ∧ (fOv (f i)) [] ≤ 200) (hj : j ≤ n) (o : ¬ sg_g σ2 77 15 = 0) : 6000 < exF 1 ((List.range n).map (fun i => fOv (f i))) := by
  obtain ⟨q1, q2, q3, q4⟩ := toX_s (f := 2) (D := 1) (L := (List.range j).map (fun i => fOv (f i))) ht (Or.inr (Or.inr ⟨rfl, by decide, by rw [List.map_map]; rfl, rfl, fun v hv => by
    obtain ⟨i, hi, e⟩ := List.mem_map.mp hv
    rw [← e]
    exact hf i (by have := List.mem_range.mp hi; omega), Or.inl ⟨rfl, rfl⟩⟩)) (Or.inr ⟨by decide, rfl⟩)
  have a := q2 (by omega)
  have b := exF_pre (w := fun i => fOv (f i)) 1 hj
  omega
section CHT
variable {σ : sg_S} {t : Int} {n d : Nat} {f : Nat → Int ⊕ vaF} {s : fSt} {Q : sg_S → Prop}
/-- a size in a lane -/
theorem t_size {σ2 : sg_S} {b : Int} {j db : Nat} {lb : List vaF} {F S : List Int} {fl : List vaF} {e : Int} {Q : Int → sg_S → Prop} (g : yG σ2) (hb : yX σ2 db b lb) (hj : j < lb.length) (ht : toX σ2 d F S fl e) (k1 : 0 ≤ (lb.getD j (nmF 0)) [] ∧ (lb.getD j (nmF 0)) [] ≤ 200 → Q ((lb.getD j (nmF 0)) []) σ2) (k2 : ¬ (0 ≤ (lb.getD j (nmF 0)) [] ∧ (lb.getD j (nmF 0)) [] ≤ 200) → ∀ σ', toX σ' d F S fl (if e = 0 then 5 else e) → sg_F [15077] σ2 σ' → Q 0 σ') : V_fSizeIn σ2 b (j : Int) Q := by
  obtain ⟨b1, b2⟩ := yX_cell g hb hj
  unfold V_fSizeIn
  rw [b1]
  refine ⟨b2, fun y => k1 (x_bad y), fun y => t_miss ht (by decide) (fun σ' t' f' _ => k2 (fun c => y (bad_x c)) σ' t' f')⟩
theorem o_flatten {a : Int} {la : List vaF} (h : fP σ t) (hs : ctX σ s) (hD : d + 1 ≤ 3) (h9 : sg_g σ 61 9 = (d + 1 : Nat)) (hn : sg_g σ 61 23 = n) (ha : yX σ (d + 2) a la) (hla : la.length = n) (hf : ∀ i, i < n → f i = if ((flF (itF (la.getD i (nmF 0)))).length : Int) ≤ 200 then .inr (mkF (flF (itF (la.getD i (nmF 0))))) else .inl 5) (k : ∀ σ', sg_F opL σ σ' → gwX σ σ' (d + 1) ((List.range n).map f) t s → Q σ') : V_fFlatten σ a Q := by
  have n6 := h.2.2.2.2.2.2
  rw [hn] at n6
  have hbd : ∀ i, i < n → 0 ≤ (fOv (f i)) [] ∧ (fOv (f i)) [] ≤ 200 := fun i hi => by
    rw [hf i hi]
    by_cases c : ((flF (itF (la.getD i (nmF 0)))).length : Int) ≤ 200
    · rw [if_pos c]
      show 0 ≤ mkF _ [] ∧ mkF _ [] ≤ 200
      rw [mkF_0]
      omega
    · rw [if_neg c]
      exact ⟨by decide, by decide⟩
  have it : yX σ (d + 1) (v_lItems σ a) (flF la) := by rw [y_items h.1 ha.1]; exact ha.2.2.2
  unfold V_fFlatten
  rw [hn]
  refine ⟨y_pitems _ _, fun m v σ2 => ∃ j : Nat, v = j ∧ j ≤ n ∧ m = n - j ∧ toX σ2 d ((List.range j).map (fun i => (fOv (f i)) [])) [] (flF ((List.range j).map (fun i => fOv (f i)))) (fOe ((List.range j).map f)), fun σ2 => toX σ2 d ((List.range n).map (fun i => (fOv (f i)) [])) [] (flF ((List.range n).map (fun i => fOv (f i)))) (fOe ((List.range n).map f)), ⟨_, 0, rfl, Nat.zero_le _, rfl, toX_0 h.2.1 d⟩, ?_, fun σ2 f2 ht => str_X h hs hD h9 (sg_F_m f2 rfl) (Or.inl ht) hbd (fun σ' f' r' _ => k σ' f' r')⟩
  rintro m v' σ2 rv f2 ⟨j, rfl, hj, hm, ht⟩
  refine ⟨fun z => by rw [show n = j by omega]; exact ht, fun z => ?_⟩
  have jl : j < la.length := by omega
  obtain ⟨l1, l2, l3, l4, l5, l6, l7, l8⟩ := yX_ln h.1 ha jl
  have hfj := hf j (by omega)
  have fl6 := flw_l (w := fun i => fOv (f i)) (j := j) (fun i hi => (hbd i (by omega)).2)
  have lb := ahF_b jl
  have ex2 : yEx σ σ2 := yEx_F f2 rfl
  rw [l1, l2, l3]
  generalize hI : itF (la.getD j (nmF 0)) = I at *
  refine ⟨l6, fun v29 e29 r29 => ?_⟩
  have nn : v29 = 0 ↔ ¬ I.length = 0 := by
    rw [e29]
    by_cases c : (I.length : Int) = 0
    · rw [if_neg (fun q => q c)]; exact ⟨fun q => absurd q (by decide), fun q => absurd (by omega) q⟩
    · rw [if_pos c]; exact ⟨fun _ => by omega, fun _ => rfl⟩
  have two : v29 = 0 → (v_lStart σ (v_lItems σ a) (ahF la j : Int) = (ahF (flF la) (ahF la j) : Int) ∧ p_lStart σ (v_lItems σ a) (ahF la j : Int)) ∧ (v_lEnd σ (v_lItems σ a) (((ahF la j + I.length : Nat) : Int) - 1) = (ahF (flF la) (ahF la j + I.length) : Int) ∧ p_lEnd σ (v_lItems σ a) (((ahF la j + I.length : Nat) : Int) - 1)) := fun c => by
    have c' := nn.mp c
    obtain ⟨s1, s2, -⟩ := yX_st h.1 it (i := ahF la j) (by omega)
    obtain ⟨-, -, s3⟩ := yX_st h.1 it (i := ahF la j + I.length - 1) (by omega)
    obtain ⟨-, -, -, -, -, -, -, s4⟩ := yX_ln h.1 it (j := ahF la j + I.length - 1) (by omega)
    rw [show ((ahF la j + I.length - 1 : Nat) : Int) = ((ahF la j + I.length : Nat) : Int) - 1 by omega] at s3 s4
    rw [show ahF la j + I.length - 1 + 1 = ahF la j + I.length by omega] at s3
    exact ⟨⟨s1, s2⟩, s3, s4⟩
  refine ⟨⟨fun c => ⟨l7, (two c).1.2, trivial⟩, fun _ => trivial⟩, fun v34 e34 r34 => ⟨⟨fun c => ⟨l8, ⟨by omega, by omega⟩, (two c).2.2, trivial⟩, fun _ => trivial⟩, fun v39 e39 r39 => ?_⟩⟩
  -- the items of the items
  have fI : flF I = ((flF (flF la)).drop (ahF (flF la) (ahF la j))).take (ahF (flF la) (ahF la j + I.length) - ahF (flF la) (ahF la j)) := by
    have e1 : I = ((flF la).drop (ahF la j)).take I.length := by
      rw [flF_at jl, hI]
      have e5 : ahF la j = (flF (la.take j)).length := rfl
      rw [e5, List.drop_left, List.take_left]
    have := flF_dt (l := flF la) (a := ahF la j) (k := I.length) (by omega)
    rw [← e1] at this
    exact this
  have top : ahF (flF la) (ahF la j + I.length) ≤ (flF (flF la)).length := by
    have := flF_a ((flF la).take (ahF la j + I.length)) ((flF la).drop (ahF la j + I.length))
    rw [List.take_append_drop] at this
    rw [this, List.length_append]
    unfold ahF
    omega
  have mono : ahF (flF la) (ahF la j) ≤ ahF (flF la) (ahF la j + I.length) := by
    unfold ahF
    rw [List.take_add, flF_a, List.length_append]
    omega
  have lI : (flF I).length = ahF (flF la) (ahF la j + I.length) - ahF (flF la) (ahF la j) := by
    rw [fI, List.length_take, List.length_drop]
    omega
  have it2 : yX σ d (v_lItems σ (v_lItems σ a)) (flF (flF la)) := by rw [y_items h.1 it.1]; exact it.2.2.2
  have cap : (flF (flF la)).length ≤ 6000 := by
    have := (yX_c it2).1.2.2.2.2
    have := h.1.2.1.2
    have := (yX_c it2).1.2.2.2.1
    omega
  have pk : pkX σ d (v_lItems σ (v_lItems σ a)) v34 v39 (flF I) ∧ v39 - v34 = ((flF I).length : Int) ∧ (0 ≤ v34 ∧ v34 ≤ v39 ∧ v39 ≤ 6000) := by
    by_cases c : v29 = 0
    · rw [if_pos c] at e34 e39
      rw [(two c).1.1] at e34
      rw [(two c).2.1] at e39
      refine ⟨Or.inr ⟨flF (flF la), it2, by omega, by omega, by omega, ?_⟩, by omega, by omega⟩
      rw [fI, e34, e39]
      congr 1
      omega
    · rw [if_neg c] at e34 e39
      have i0 : I.length = 0 := Decidable.byContradiction (fun q => c (nn.mpr q))
      have iN : I = [] := List.eq_nil_of_length_eq_zero i0
      refine ⟨Or.inr ⟨flF (flF la), it2, by omega, by omega, by omega, ?_⟩, ?_, by omega⟩
      · rw [iN, e34, e39]; rfl
      · rw [iN, e34, e39]; rfl
  obtain ⟨pk1, pk2, pk3⟩ := pk
  refine ⟨⟨by omega, by omega⟩, fun σ31 => toX σ31 d ((List.range (j + 1)).map (fun i => (fOv (f i)) [])) [] (flF ((List.range (j + 1)).map (fun i => fOv (f i)))) (fOe ((List.range (j + 1)).map f)), ⟨fun y => ?_, fun y => ?_⟩, fun σ31 f31 h31 => ⟨⟨by omega, by omega⟩, n - (j + 1), by omega, j + 1, by omega, by omega, rfl, h31⟩⟩
  · have bx := x_bad y
    rw [if_pos (by omega)] at hfj
    refine t_first ht (by rw [List.length_map, List.length_range]; omega) ⟨by omega, by omega⟩ (fun σ37 t37 f37 _ => ⟨y_pitems _ _, ?_⟩)
    have ex37 : yEx σ σ37 := yEx_F (sg_F_t f2 (sg_F_m f37 rfl)) rfl
    refine t_pick t37 (by omega) (pkX_up ex37 pk1) itR ⟨by omega, by omega⟩ (fun σ49 t49 f49 _ => ?_)
    rw [mrs, flw_s, fOe_nx hfj, hfj]
    show toX σ49 d (_ ++ [mkF (flF I) []]) [] (_ ++ itF (mkF (flF I))) _
    rw [itF_mk, mkF_0, ← pk2]
    exact t49
  · have nb : ¬ ((flF I).length : Int) ≤ 200 := fun c => y (bad_x (by omega))
    rw [if_neg nb] at hfj
    refine t_miss ht (by decide) (fun σ67 t67 f67 _ => t_first t67 (by rw [List.length_map, List.length_range]; omega) (by decide) (fun σ73 t73 f73 _ => ?_))
    rw [mrs, flw_s, fOe_f hfj, hfj]
    show toX σ73 d (_ ++ [0]) [] (_ ++ itF (nmF 0)) _
    rw [show itF (nmF 0) = [] by simp [itF, nmF], List.append_nil]
    exact t73
theorem o_repeat {db : Nat} {a b : Int} {la lb : List vaF} (h : fP σ t) (hs : ctX σ s) (hD : d + 1 ≤ 3) (h9 : sg_g σ 61 9 = (d + 1 : Nat)) (hn : sg_g σ 61 23 = n) (ha : yX σ d a la) (hb : yX σ db b lb) (hla : la.length = n) (hlb : lb.length = n) (hf : ∀ i, i < n → f i = if 0 ≤ (lb.getD i (nmF 0)) [] ∧ (lb.getD i (nmF 0)) [] ≤ 200 then .inr (mkF (List.replicate ((lb.getD i (nmF 0)) []).toNat (la.getD i (nmF 0)))) else .inl 5) (k : ∀ σ', sg_F opL σ σ' → gwX σ σ' (d + 1) ((List.range n).map f) t s → Q σ') : V_fRepeat σ a b Q := by
  have n6 := h.2.2.2.2.2.2
  rw [hn] at n6
  have hbd : ∀ i, i < n → 0 ≤ (fOv (f i)) [] ∧ (fOv (f i)) [] ≤ 200 := fun i hi => by
    rw [hf i hi]
    by_cases c : 0 ≤ (lb.getD i (nmF 0)) [] ∧ (lb.getD i (nmF 0)) [] ≤ 200
    · rw [if_pos c]
      show 0 ≤ mkF _ [] ∧ mkF _ [] ≤ 200
      rw [mkF_0, List.length_replicate]
      omega
    · rw [if_neg c]
      exact ⟨by decide, by decide⟩
  have ar := (yX_c ha).1.1
  have g1 := h.1.1
  unfold V_fRepeat
  rw [hn]
  refine ⟨fun m v σ2 => ∃ j : Nat, v = j ∧ j ≤ n ∧ m = n - j ∧ toX σ2 d ((List.range j).map (fun i => (fOv (f i)) [])) [] (flF ((List.range j).map (fun i => fOv (f i)))) (fOe ((List.range j).map f)), fun σ2 => toX σ2 d ((List.range n).map (fun i => (fOv (f i)) [])) [] (flF ((List.range n).map (fun i => fOv (f i)))) (fOe ((List.range n).map f)) ∨ (¬ sg_g σ2 77 15 = 0 ∧ 6000 < exF (d + 1) ((List.range n).map (fun i => fOv (f i)))), ⟨_, 0, rfl, Nat.zero_le _, rfl, toX_0 h.2.1 d⟩, ?_, fun σ2 f2 ht => str_X h hs hD h9 (sg_F_m f2 rfl) ht hbd (fun σ' f' r' _ => k σ' f' r')⟩
  rintro m v' σ2 rv f2 ⟨j, rfl, hj, hm, ht⟩
  refine ⟨fun z => Or.inl (by rw [show n = j by omega]; exact ht), fun z => ⟨fun y => Or.inr ⟨y, str_O ht hbd hj y⟩, fun y => ?_⟩⟩
  have hfj := hf j (by omega)
  have fl6 := flw_l (w := fun i => fOv (f i)) (j := j) (fun i hi => (hbd i (by omega)).2)
  have ex2 : yEx σ σ2 := yEx_F f2 rfl
  -- a size q, then that many picks
  have go : ∀ (q : Int) (σ25 : sg_S) (e' : Int) (w : vaF), 0 ≤ q ∧ q ≤ 200 → sg_F [83, 85, 86, 87, 12077, 14077, 15077, 16077] σ σ25 → toX σ25 d ((List.range j).map (fun i => (fOv (f i)) [])) [] (flF ((List.range j).map (fun i => fOv (f i)))) e' → w = la.getD j (nmF 0) → (fOv (f j)) [] = q → itF (fOv (f j)) = List.replicate q.toNat w → e' = fOe ((List.range (j + 1)).map f) → V_lFirst σ25 q (fun σ31 => sg_F [83, 12077, 16077] σ25 σ31 → (∃ (I39 : Nat → Int → sg_S → Prop) (X41 : sg_S → Prop), (∃ n, I39 n (0) σ31) ∧ (∀ (n49 : Nat) (v36 : Int) (σ37 : sg_S), sg_R v36 → sg_F [85, 86, 87, 14077, 16077] σ31 σ37 → I39 n49 v36 σ37 → ((q ≤ v36 → X41 σ37) ∧ (v36 < q → sg_R ((j : Int) + 1) ∧ V_lPick σ37 (a) ((j : Int)) (((j : Int) + 1)) (fun σ56 => sg_F [85, 86, 87, 14077, 16077] σ37 σ56 → sg_R (v36 + 1) ∧ (∃ m, m < n49 ∧ I39 m ((v36 + 1)) σ56))))) ∧ (∀ (σ37 : sg_S), sg_F [85, 86, 87, 14077, 16077] σ31 σ37 → X41 σ37 → sg_R ((j : Int) + 1) ∧ ∃ m', m' < m ∧ ∃ j' : Nat, ((j : Int) + 1) = j' ∧ j' ≤ n ∧ m' = n - j' ∧ toX σ37 d ((List.range j').map (fun i => (fOv (f i)) [])) [] (flF ((List.range j').map (fun i => fOv (f i)))) (fOe ((List.range j').map f))))) := fun q σ25 e' w hq f25 t25 ew e1 e2 e3 => by
    refine t_first t25 (by rw [List.length_map, List.length_range]; omega) ⟨by omega, by omega⟩ (fun σ31 t31 f31 _ => ?_)
    rw [← e1, ← mrs, e3] at t31
    refine ⟨fun m2 v36 σ37 => ∃ i : Nat, v36 = i ∧ i ≤ q.toNat ∧ m2 = q.toNat - i ∧ toX σ37 d ((List.range (j + 1)).map (fun i => (fOv (f i)) [])) [] (flF ((List.range j).map (fun i => fOv (f i))) ++ List.replicate i w) (fOe ((List.range (j + 1)).map f)), fun σ37 => toX σ37 d ((List.range (j + 1)).map (fun i => (fOv (f i)) [])) [] (flF ((List.range (j + 1)).map (fun i => fOv (f i)))) (fOe ((List.range (j + 1)).map f)), ⟨_, 0, rfl, Nat.zero_le _, rfl, by rw [List.replicate_zero, List.append_nil]; exact t31⟩, ?_, fun σ37 f37 h37 => ⟨⟨by omega, by omega⟩, n - (j + 1), by omega, j + 1, by omega, by omega, rfl, h37⟩⟩
    rintro m2 v36 σ37 r36 f37 ⟨i, rfl, hi1, hm2, ht2⟩
    have ex37 : yEx σ σ37 := yEx_F (sg_F_t f25 (sg_F_t (sg_F_m f31 rfl) (sg_F_m f37 rfl))) rfl
    refine ⟨fun c => ?_, fun c => ⟨⟨by omega, by omega⟩, ?_⟩⟩
    · rw [flw_s, e2, show q.toNat = i by omega]; exact ht2
    · have pk : pkX σ d a (j : Int) ((j : Int) + 1) [w] := by
        refine Or.inr ⟨la, ha, by omega, by omega, by omega, ?_⟩
        rw [Int.toNat_natCast, show ((j : Int) + 1 - j).toNat = 1 by omega, dr_D (by omega : j < la.length), ew]
        rfl
      refine t_pick ht2 (by rw [List.length_append, List.length_replicate]; omega) (pkX_up ex37 pk) ⟨by omega, by omega⟩ ⟨by omega, by omega⟩ (fun σ3 t3 f3 _ => ⟨⟨by omega, by omega⟩, q.toNat - (i + 1), by omega, i + 1, by omega, by omega, rfl, ?_⟩)
      rw [List.replicate_succ', ← List.append_assoc]
      exact t3
  refine t_size (yG_F h.1 f2 rfl) (yX_up ex2 hb) (by omega) ht (fun c _ f25 => ?_) (fun c σ' t' f' _ f25 => ?_)
  · rw [if_pos c] at hfj
    refine go _ σ2 _ (la.getD j (nmF 0)) c f2 ht rfl ?_ ?_ (fOe_nx hfj).symm
    · rw [hfj]
      show mkF _ [] = _
      rw [mkF_0, List.length_replicate]; omega
    · rw [hfj]
      show itF (mkF _) = _
      rw [itF_mk]
  · rw [if_neg c] at hfj
    refine go 0 σ' _ (la.getD j (nmF 0)) ⟨by decide, by decide⟩ (sg_F_t f2 (sg_F_m f' rfl)) t' rfl ?_ ?_ (fOe_f hfj).symm
    · rw [hfj]; rfl
    · rw [hfj]
      show itF (nmF 0) = []
      simp [itF, nmF]
theorem o_countUp {db : Nat} {b : Int} {lb : List vaF} (h : fP σ t) (hs : ctX σ s) (h9 : sg_g σ 61 9 = 1) (hn : sg_g σ 61 23 = n) (hb : yX σ db b lb) (hlb : lb.length = n) (hf : ∀ i, i < n → f i = if 0 ≤ (lb.getD i (nmF 0)) [] ∧ (lb.getD i (nmF 0)) [] ≤ 200 then .inr (mkF ((List.range ((lb.getD i (nmF 0)) []).toNat).map (fun i : Nat => nmF (i : Int)))) else .inl 5) (k : ∀ σ', sg_F opL σ σ' → gwX σ σ' 1 ((List.range n).map f) t s → Q σ') : V_fCountUp σ b Q := by
  have n6 := h.2.2.2.2.2.2
  rw [hn] at n6
  have hbd : ∀ i, i < n → 0 ≤ (fOv (f i)) [] ∧ (fOv (f i)) [] ≤ 200 := fun i hi => by
    rw [hf i hi]
    by_cases c : 0 ≤ (lb.getD i (nmF 0)) [] ∧ (lb.getD i (nmF 0)) [] ≤ 200
    · rw [if_pos c]
      show 0 ≤ mkF _ [] ∧ mkF _ [] ≤ 200
      rw [mkF_0, List.length_map, List.length_range]
      omega
    · rw [if_neg c]
      exact ⟨by decide, by decide⟩
  unfold V_fCountUp
  rw [hn]
  refine ⟨fun m v σ2 => ∃ j : Nat, v = j ∧ j ≤ n ∧ m = n - j ∧ toX σ2 0 ((List.range j).map (fun i => (fOv (f i)) [])) ((flF ((List.range j).map (fun i => fOv (f i)))).map (fun v => v [])) [] (fOe ((List.range j).map f)), fun σ2 => toX σ2 0 ((List.range n).map (fun i => (fOv (f i)) [])) ((flF ((List.range n).map (fun i => fOv (f i)))).map (fun v => v [])) [] (fOe ((List.range n).map f)) ∨ (¬ sg_g σ2 77 15 = 0 ∧ 6000 < exF 1 ((List.range n).map (fun i => fOv (f i)))), ⟨_, 0, rfl, Nat.zero_le _, rfl, toX_0 h.2.1 0⟩, ?_, fun σ2 f2 ht => sec_X h hs h9 (sg_F_m f2 rfl) ht hbd (fun σ' f' r' _ => k σ' f' r')⟩
  rintro m v' σ2 rv f2 ⟨j, rfl, hj, hm, ht⟩
  refine ⟨fun z => Or.inl (by rw [show n = j by omega]; exact ht), fun z => ⟨fun y => Or.inr ⟨y, sec_O ht hbd hj y⟩, fun y => ?_⟩⟩
  have hfj := hf j (by omega)
  have fl6 := flw_l (w := fun i => fOv (f i)) (j := j) (fun i hi => (hbd i (by omega)).2)
  have ex2 : yEx σ σ2 := yEx_F f2 rfl
  have go : ∀ (q : Int) (σ25 : sg_S) (e' : Int), 0 ≤ q ∧ q ≤ 200 → toX σ25 0 ((List.range j).map (fun i => (fOv (f i)) [])) ((flF ((List.range j).map (fun i => fOv (f i)))).map (fun v => v [])) [] e' → (fOv (f j)) [] = q → itF (fOv (f j)) = (List.range q.toNat).map (fun i : Nat => nmF (i : Int)) → e' = fOe ((List.range (j + 1)).map f) → V_lFirst σ25 q (fun σ31 => sg_F [83, 12077, 16077] σ25 σ31 → (∃ (I39 : Nat → Int → sg_S → Prop) (X41 : sg_S → Prop), (∃ n, I39 n (0) σ31) ∧ (∀ (n49 : Nat) (v36 : Int) (σ37 : sg_S), sg_R v36 → sg_F [84, 13077, 16077] σ31 σ37 → I39 n49 v36 σ37 → ((q ≤ v36 → X41 σ37) ∧ (v36 < q → V_lSecond σ37 (v36) (fun σ55 => sg_F [84, 13077, 16077] σ37 σ55 → sg_R (v36 + 1) ∧ (∃ m, m < n49 ∧ I39 m ((v36 + 1)) σ55))))) ∧ (∀ (σ37 : sg_S), sg_F [84, 13077, 16077] σ31 σ37 → X41 σ37 → sg_R ((j : Int) + 1) ∧ ∃ m', m' < m ∧ ∃ j' : Nat, ((j : Int) + 1) = j' ∧ j' ≤ n ∧ m' = n - j' ∧ toX σ37 0 ((List.range j').map (fun i => (fOv (f i)) [])) ((flF ((List.range j').map (fun i => fOv (f i)))).map (fun v => v [])) [] (fOe ((List.range j').map f))))) := fun q σ25 e' hq t25 e1 e2 e3 => by
    refine t_first t25 (by rw [List.length_map, List.length_range]; omega) ⟨by omega, by omega⟩ (fun σ31 t31 f31 _ => ?_)
    rw [← e1, ← mrs, e3] at t31
    refine ⟨fun m2 v36 σ37 => ∃ i : Nat, v36 = i ∧ i ≤ q.toNat ∧ m2 = q.toNat - i ∧ toX σ37 0 ((List.range (j + 1)).map (fun i => (fOv (f i)) [])) ((flF ((List.range j).map (fun i => fOv (f i)))).map (fun v => v []) ++ (List.range i).map (fun i : Nat => (i : Int))) [] (fOe ((List.range (j + 1)).map f)), fun σ37 => toX σ37 0 ((List.range (j + 1)).map (fun i => (fOv (f i)) [])) ((flF ((List.range (j + 1)).map (fun i => fOv (f i)))).map (fun v => v [])) [] (fOe ((List.range (j + 1)).map f)), ⟨_, 0, rfl, Nat.zero_le _, rfl, by rw [List.range_zero, List.map_nil, List.append_nil]; exact t31⟩, ?_, fun σ37 f37 h37 => ⟨⟨by omega, by omega⟩, n - (j + 1), by omega, j + 1, by omega, by omega, rfl, h37⟩⟩
    rintro m2 v36 σ37 r36 f37 ⟨i, rfl, hi1, hm2, ht2⟩
    refine ⟨fun c => ?_, fun c => t_second ht2 (by rw [List.length_append, List.length_map, List.length_map, List.length_range]; omega) r36 (fun σ3 t3 f3 _ => ⟨⟨by omega, by omega⟩, q.toNat - (i + 1), by omega, i + 1, by omega, by omega, rfl, ?_⟩)⟩
    · rw [flw_s, e2, List.map_append, List.map_map, show q.toNat = i by omega]
      exact ht2
    · rw [mrs (fun i : Nat => (i : Int)), ← List.append_assoc]
      exact t3
  refine t_size (yG_F h.1 f2 rfl) (yX_up ex2 hb) (by omega) ht (fun c _ f25 => ?_) (fun c σ' t' f' _ f25 => ?_)
  · rw [if_pos c] at hfj
    refine go _ σ2 _ c ht ?_ ?_ (fOe_nx hfj).symm
    · rw [hfj]
      show mkF _ [] = _
      rw [mkF_0, List.length_map, List.length_range]; omega
    · rw [hfj]
      show itF (mkF _) = _
      rw [itF_mk]
  · rw [if_neg c] at hfj
    refine go 0 σ' _ ⟨by decide, by decide⟩ t' ?_ ?_ (fOe_f hfj).symm
    · rw [hfj]; rfl
    · rw [hfj]
      show itF (nmF 0) = []
      simp [itF, nmF]
end CHT
/-! More operations of the class, exactly: rows, folds, sums, packs. -/
section CIT
variable {σ : sg_S} {t : Int} {n d : Nat} {f : Nat → Int ⊕ vaF} {s : fSt} {Q : sg_S → Prop}
/-- numbers of lane j of a sequence of numbers -/
theorem yX_nu (g : yG σ) {a : Int} {la : List vaF} (h : yX σ 1 a la) {j i : Nat} (hj : j < la.length) (hi : i < (itF (la.getD j (nmF 0))).length) : v_lCell σ (v_lItems σ a) ((ahF la j : Int) + i) = (nuF (la.getD j (nmF 0))).getD i 0 ∧ p_lCell σ (v_lItems σ a) ((ahF la j : Int) + i) ∧ (nuF (la.getD j (nmF 0)))[i]? = some ((nuF (la.getD j (nmF 0))).getD i 0) ∧ sg_R ((nuF (la.getD j (nmF 0))).getD i 0) := by
  have it : yX σ 0 (v_lItems σ a) (flF la) := by rw [y_items g h.1]; exact h.2.2.2
  have lb := ahF_b hj
  obtain ⟨c1, c2⟩ := yX_cell g it (i := ahF la j + i) (by omega)
  have e1 : (flF la).getD (ahF la j + i) (nmF 0) = (itF (la.getD j (nmF 0))).getD i (nmF 0) := by
    rw [List.getD_eq_getElem?_getD, fl_g hj hi, ← List.getD_eq_getElem?_getD]
  have e2 : (nuF (la.getD j (nmF 0))).getD i 0 = ((itF (la.getD j (nmF 0))).getD i (nmF 0)) [] := by
    unfold nuF
    rw [List.getD_eq_getElem?_getD, List.getElem?_map, gD_i hi]; rfl
  have e3 : ((ahF la j + i : Nat) : Int) = (ahF la j : Int) + i := by omega
  rw [e3] at c1 c2
  rw [c1, e1, ← e2]
  refine ⟨rfl, c2, ?_, ?_⟩
  · exact (fun (N : List Int) (hl : i < N.length) => (by rw [List.getD_eq_getElem?_getD, List.getElem?_eq_getElem hl]; rfl : N[i]? = some (N.getD i 0))) _ (by rw [nu_l]; exact hi)
  · have r := (y_cell g (yX_c it).1 (l := (ahF la j : Int) + i) ⟨by omega, by omega⟩).1
    rw [e2, ← e1, ← c1, r]
    exact sg_Rg _ _ _
theorem o_row {vs : List (List vaF)} (h : fP0 σ) (hs : ctX σ s) (ht : sg_g σ 61 7 = t + vs.length) (h0 : 0 ≤ t ∧ t + vs.length ≤ 400) (ha : 1 ≤ vs.length ∧ vs.length ≤ 200) (hD : d + 1 ≤ 3) (h9 : sg_g σ 61 9 = (d + 1 : Nat)) (hn : sg_g σ 61 23 = n) (hv : ∀ i : Nat, i < vs.length → yX σ d (sg_g σ 64 (t + i)) (vs.getD i []) ∧ (vs.getD i []).length = n) (hf : ∀ i, i < n → f i = .inr (mkF (vs.map (fun l => l.getD i (nmF 0))))) (k : ∀ σ', sg_F opL σ σ' → gwX σ σ' (d + 1) ((List.range n).map f) t s → Q σ') : V_fRow σ vs.length Q := by
  have n6 := h.2.2.2.2
  rw [hn] at n6
  have g1 := h.1.1
  have hbd : ∀ i, i < n → 0 ≤ (fOv (f i)) [] ∧ (fOv (f i)) [] ≤ 200 := fun i hi => by
    rw [hf i hi]
    show 0 ≤ mkF _ [] ∧ mkF _ [] ≤ 200
    rw [mkF_0, List.length_map]
    omega
  unfold V_fRow
  rw [hn, ht, show t + (vs.length : Int) - vs.length = t by omega]
  refine ⟨⟨by omega, by omega⟩, fun σ2 e2 => ?_⟩
  have f2 : sg_F [8061] σ σ2 := by rw [e2]; exact sg_F_w (sg_F_r _ _) rfl _
  have t2 : sg_g σ2 61 7 = t := by rw [e2, sg_gw_e _ _ _ _ ⟨by omega, by omega⟩]
  have hP : fP σ2 t := fP_mk h f2 t2 (by omega) rfl
  have ex2 : yEx σ σ2 := yEx_F f2 rfl
  refine ⟨fun m v σ6 => ∃ j : Nat, v = j ∧ j ≤ n ∧ m = n - j ∧ toX σ6 d ((List.range j).map (fun i => (fOv (f i)) [])) [] (flF ((List.range j).map (fun i => fOv (f i)))) (fOe ((List.range j).map f)), fun σ6 => toX σ6 d ((List.range n).map (fun i => (fOv (f i)) [])) [] (flF ((List.range n).map (fun i => fOv (f i)))) (fOe ((List.range n).map f)) ∨ (¬ sg_g σ6 77 15 = 0 ∧ 6000 < exF (d + 1) ((List.range n).map (fun i => fOv (f i)))), ⟨_, 0, rfl, Nat.zero_le _, rfl, toX_0 hP.2.1 d⟩, ?_, fun σ6 f6 hT => str_X hP (ctX_F f2 rfl hs) hD (by rw [sg_F_g f2 (by rfl)]; exact h9) (sg_F_m f6 rfl) hT hbd (fun σ' f' r' _ => k σ' (sg_F_t (sg_F_m f2 rfl) f') ?_)⟩
  · rintro m v σ6 rv f6 ⟨j, rfl, hj, hm, hT⟩
    refine ⟨fun z => Or.inl (by rw [show n = j by omega]; exact hT), fun z => ⟨fun y => Or.inr ⟨y, str_O hT hbd hj y⟩, fun y => ?_⟩⟩
    have hfj := hf j (by omega)
    have fl6 := flw_l (w := fun i => fOv (f i)) (j := j) (fun i hi => (hbd i (by omega)).2)
    refine t_first hT (by rw [List.length_map, List.length_range]; omega) ⟨by omega, by omega⟩ (fun σ31 t31 f31 _ => ?_)
    have f31' := sg_F_t (sg_F_m (L := [83, 85, 86, 87, 12077, 14077, 16077]) f6 rfl) (sg_F_m f31 rfl)
    have e1 : (fOv (f j)) [] = ((vs.length : Nat) : Int) := by
      rw [hfj]
      show mkF _ [] = _
      rw [mkF_0, List.length_map]
    rw [← e1, ← mrs] at t31
    refine ⟨fun m2 v36 σ37 => ∃ i : Nat, v36 = i ∧ i ≤ vs.length ∧ m2 = vs.length - i ∧ toX σ37 d ((List.range (j + 1)).map (fun i => (fOv (f i)) [])) [] (flF ((List.range j).map (fun i => fOv (f i))) ++ (vs.take i).map (fun l => l.getD j (nmF 0))) (fOe ((List.range j).map f)), fun σ37 => toX σ37 d ((List.range (j + 1)).map (fun i => (fOv (f i)) [])) [] (flF ((List.range (j + 1)).map (fun i => fOv (f i)))) (fOe ((List.range (j + 1)).map f)), ⟨_, 0, rfl, Nat.zero_le _, rfl, by rw [List.take_zero, List.map_nil, List.append_nil]; exact t31⟩, ?_, fun σ37 f37 h37 => ⟨⟨by omega, by omega⟩, n - (j + 1), by omega, j + 1, by omega, by omega, rfl, h37⟩⟩
    rintro m2 v36 σ37 r36 f37 ⟨i, rfl, hi1, hm2, ht2⟩
    have ex37 : yEx σ σ37 := yEx_t ex2 (yEx_F (sg_F_t f31' (sg_F_m f37 rfl)) rfl)
    refine ⟨fun c => ?_, fun c => ?_⟩
    · rw [List.take_of_length_le (by omega)] at ht2
      rw [flw_s, fOe_nx hfj, hfj]
      show toX σ37 d _ [] (_ ++ itF (mkF _)) _
      rw [itF_mk]
      exact ht2
    · obtain ⟨vi, li⟩ := hv i (by omega)
      obtain ⟨l, hl⟩ : ∃ l, vs[i]? = some l := ⟨_, List.getElem?_eq_getElem (by omega)⟩
      have el : vs.getD i [] = l := by rw [List.getD_eq_getElem?_getD, hl]; rfl
      rw [el] at vi li
      rw [xa_in ⟨by omega, by omega⟩]
      have pk : pkX σ d (sg_g σ 64 (t + i)) (j : Int) ((j : Int) + 1) [l.getD j (nmF 0)] := by
        refine Or.inr ⟨l, vi, by omega, by omega, by omega, ?_⟩
        rw [Int.toNat_natCast, show ((j : Int) + 1 - j).toNat = 1 by omega, dr_D (by omega : j < l.length)]
        rfl
      refine ⟨⟨by omega, by omega⟩, ⟨by omega, by omega⟩, t_pick ht2 (by rw [List.length_append, List.length_map, List.length_take]; omega) (pkX_up ex37 pk) (sg_Rg _ _ _) ⟨by omega, by omega⟩ (fun σ3 t3 f3 _ => ⟨⟨by omega, by omega⟩, vs.length - (i + 1), by omega, i + 1, by omega, by omega, rfl, ?_⟩)⟩
      rw [tkA hl, List.map_append, ← List.append_assoc]
      exact t3
  · obtain ⟨L, q1, q2, q3⟩ := r'
    refine ⟨L, q1, q2, ?_⟩
    rcases q3 with z | ⟨s1, z1, z2, z3, z4, z5, z6, z7, z8, z9, z10⟩
    · exact Or.inl z
    · exact Or.inr ⟨s1, z1, z2, z3, yEx_t ex2 z4, z5, z6, z7, z8, fun i hi => by rw [z9 i hi, sg_F_ga f2 rfl], by rw [sg_F_ga f2 rfl] at z10; exact z10⟩
theorem gn_c {kk y : Int} {r : List Int} (hk : kk = 18 ∨ kk = 19 ∨ kk = 20) (ry : sg_R y) : gnF kk (y :: r) = foF kk y r := by
  unfold gnF
  by_cases c : kk = 19 ∨ kk = 20
  · rw [if_pos c]
  · rw [if_neg c]
    have : kk = 18 := by omega
    rw [this, fo_s, if_pos rfl, show sg_n (0 + y) = y by rw [Int.zero_add]; exact sg_id ry]
theorem o_reduce {kk a : Int} {la : List vaF} (hk : kk = 18 ∨ kk = 19 ∨ kk = 20) (h : fP σ t) (hs : ctX σ s) (h9 : sg_g σ 61 9 = 0) (hn : sg_g σ 61 23 = n) (ha : yX σ 1 a la) (hla : la.length = n) (hf : ∀ i, i < n → f i = if (kk = 19 ∨ kk = 20) ∧ (la.getD i (nmF 0)) [] = 0 then .inl 4 else .inr (nmF (gnF kk (nuF (la.getD i (nmF 0)))))) (k : ∀ σ', sg_F opL σ σ' → gwX σ σ' 0 ((List.range n).map f) t s → Q σ') : V_fReduce σ (kmp kk) a Q := by
  have n6 := h.2.2.2.2.2.2
  rw [hn] at n6
  have k269 : kmp kk = 269 ↔ kk = 18 := by
    rcases hk with e | e | e <;> subst e <;> simp [kmp]
  unfold V_fReduce
  rw [hn]
  refine ⟨y_pitems _ _, fun m v σ2 => ∃ j : Nat, v = j ∧ j ≤ n ∧ m = n - j ∧ toX σ2 0 ((List.range j).map (fun i => gnF kk (nuF (la.getD i (nmF 0))))) [] [] (fOe ((List.range j).map f)), fun σ2 => toX σ2 0 ((List.range n).map (fun i => gnF kk (nuF (la.getD i (nmF 0))))) [] [] (fOe ((List.range n).map f)), ⟨_, 0, rfl, Nat.zero_le _, rfl, toX_0 h.2.1 0⟩, ?_, fun σ2 f2 ht => num_X h hs h9 (sg_F_m f2 rfl) ht (fun i hi e => ?_) (fun σ' f' r' _ => k σ' f' r')⟩
  · rintro m v' σ2 rv f2 ⟨j, rfl, hj, hm, ht⟩
    refine ⟨fun z => by rw [show n = j by omega]; exact ht, fun z => ?_⟩
    have jl : j < la.length := by omega
    obtain ⟨l1, l2, l3, l4, l5, l6, l7, l8⟩ := yX_ln h.1 ha jl
    have hfj := hf j (by omega)
    have nu := fun i hi => yX_nu h.1 ha (j := j) (i := i) jl hi
    have nl := nu_l (la.getD j (nmF 0))
    have i0 := itF_l (la.getD j (nmF 0))
    have q0 := (ha.2.1 j jl).2.1
    rw [l2, l3]
    generalize hN : nuF (la.getD j (nmF 0)) = N at *
    rw [← nl] at l3 l4 l5 ⊢
    refine ⟨l7, l8, fun σ28 => toX σ28 0 ((List.range j).map (fun i => gnF kk (nuF (la.getD i (nmF 0))))) [] [] (fOe ((List.range (j + 1)).map f)), ⟨fun c => ?_, fun c => ⟨fun c2 => ?_, fun c2 => t_miss ht (by decide) (fun σ' t' f' _ => ?_)⟩⟩, fun σ28 f28 h28 => ⟨⟨fun c => ⟨?_, trivial⟩, fun _ => trivial⟩, fun v37 e37 r37 => ⟨⟨by omega, by omega⟩, fun m2 x y => ∃ i : Nat, y = (ahF la j : Int) + 1 + i ∧ m2 = N.length - (i + 1) ∧ (N = [] ∨ foF kk x (N.drop (i + 1)) = gnF kk N) ∧ (N = [] → x = 0), fun x => x = gnF kk N, ⟨_, 0, by omega, rfl, ?_, ?_⟩, ?_, ?_⟩⟩⟩
    · rw [if_neg (fun q => by omega)] at hfj
      rw [fOe_nx hfj]; exact ht
    · rw [if_neg (fun q => by have := k269.mp c2; omega)] at hfj
      rw [fOe_nx hfj]; exact ht
    · rw [if_pos ⟨by have : ¬ kk = 18 := fun q => c2 (k269.mpr q); omega, by omega⟩] at hfj
      rw [fOe_f hfj]; exact t'
    · have := (nu 0 (by omega)).2.1
      rw [show (ahF la j : Int) + ((0 : Nat) : Int) = (ahF la j : Int) by omega] at this
      exact this
    · by_cases c : N = []
      · exact Or.inl c
      · right
        have nz : 0 < N.length := List.length_pos_iff.mpr c
        obtain ⟨c1, c2, c3, c4⟩ := nu 0 (by omega)
        rw [show (ahF la j : Int) + ((0 : Nat) : Int) = (ahF la j : Int) by omega] at c1
        rw [if_pos (by omega), c1] at e37
        have ec : N = v37 :: N.drop 1 := by
          have := dr_c c3
          rw [List.drop_zero] at this
          rw [e37]; exact this
        rw [show gnF kk N = gnF kk (v37 :: N.drop 1) by rw [← ec], gn_c hk r37]
    · intro c
      rw [if_neg (fun q => q (by rw [c]; simp))] at e37
      exact e37
    · rintro m2 x y rx ry ⟨i, rfl, em2, hfo, hz⟩
      refine ⟨fun c => ?_, fun c => ?_⟩
      · rcases hfo with q | q
        · rw [hz q, q, gnF_0]
        · rw [List.drop_of_length_le (by omega)] at q
          exact q
      · obtain ⟨c1, c2, c3, c4⟩ := nu (i + 1) (by omega)
        rw [show (ahF la j : Int) + ((i + 1 : Nat) : Int) = (ahF la j : Int) + 1 + i by omega] at c1 c2
        rw [c1]
        refine ⟨c2, fxo_b hk (fun q eq rq => ⟨⟨by omega, by omega⟩, N.length - (i + 1 + 1), by omega, i + 1, by omega, rfl, ?_, fun w => ?_⟩)⟩
        · rcases hfo with w | w
          · exact Or.inl w
          · right
            rw [dr_c c3, fo_s] at w
            rw [eq]; exact w
        · rw [w] at c
          simp only [List.length_nil] at c
          omega
    · intro x rx ex
      refine t_first h28 (by rw [List.length_map, List.length_range]; omega) rx (fun σ' t' f' _ => ⟨⟨by omega, by omega⟩, n - (j + 1), by omega, j + 1, by omega, by omega, rfl, ?_⟩)
      rw [mrs, hN, ← ex]; exact t'
  · have hfi := hf i hi
    by_cases c : (kk = 19 ∨ kk = 20) ∧ (la.getD i (nmF 0)) [] = 0
    · rw [if_pos c] at hfi
      rw [hfi, fOe_l] at e
      exact absurd e (by decide)
    · rw [if_neg c] at hfi
      exact hfi
theorem scn_t {N : List Int} {i : Nat} (hi : i < N.length) : (scnF 0 N).take (i + 1) = (scnF 0 N).take i ++ [foF 18 0 (N.take i)] := by
  have e : (scnF 0 N)[i]? = some (foF 18 0 (N.take i)) := by
    rw [scn_r, List.getElem?_map, List.getElem?_range hi]; rfl
  exact tkA e
theorem scn_l (N : List Int) : (scnF 0 N).length = N.length := by rw [scn_r, List.length_map, List.length_range]
theorem o_sumUp {a : Int} {la : List vaF} (h : fP σ t) (hs : ctX σ s) (h9 : sg_g σ 61 9 = 1) (hn : sg_g σ 61 23 = n) (ha : yX σ 1 a la) (hla : la.length = n) (hf : ∀ i, i < n → f i = .inr (mkF ((scnF 0 (nuF (la.getD i (nmF 0)))).map nmF))) (k : ∀ σ', sg_F opL σ σ' → gwX σ σ' 1 ((List.range n).map f) t s → Q σ') : V_fSumUp σ a Q := by
  have n6 := h.2.2.2.2.2.2
  rw [hn] at n6
  have hbd : ∀ i, i < n → 0 ≤ (fOv (f i)) [] ∧ (fOv (f i)) [] ≤ 200 := fun i hi => by
    rw [hf i hi]
    show 0 ≤ mkF _ [] ∧ mkF _ [] ≤ 200
    rw [mkF_0, List.length_map, scn_l, nu_l]
    have := (yX_ln h.1 ha (j := i) (by omega)).2.2.2.1
    omega
  unfold V_fSumUp
  rw [hn]
  refine ⟨y_pitems _ _, fun m v σ2 => ∃ j : Nat, v = j ∧ j ≤ n ∧ m = n - j ∧ toX σ2 0 ((List.range j).map (fun i => (fOv (f i)) [])) ((flF ((List.range j).map (fun i => fOv (f i)))).map (fun v => v [])) [] (fOe ((List.range j).map f)), fun σ2 => toX σ2 0 ((List.range n).map (fun i => (fOv (f i)) [])) ((flF ((List.range n).map (fun i => fOv (f i)))).map (fun v => v [])) [] (fOe ((List.range n).map f)), ⟨_, 0, rfl, Nat.zero_le _, rfl, toX_0 h.2.1 0⟩, ?_, fun σ2 f2 ht => sec_X h hs h9 (sg_F_m f2 rfl) (Or.inl ht) hbd (fun σ' f' r' _ => k σ' f' r')⟩
  rintro m v' σ2 rv f2 ⟨j, rfl, hj, hm, ht⟩
  refine ⟨fun z => by rw [show n = j by omega]; exact ht, fun z => ?_⟩
  have jl : j < la.length := by omega
  obtain ⟨l1, l2, l3, l4, l5, l6, l7, l8⟩ := yX_ln h.1 ha jl
  have hfj := hf j (by omega)
  have fl6 := flw_l (w := fun i => fOv (f i)) (j := j) (fun i hi => (hbd i (by omega)).2)
  have nu := fun i hi => yX_nu h.1 ha (j := j) (i := i) jl hi
  have nl := nu_l (la.getD j (nmF 0))
  rw [l1, l2, l3]
  generalize hN : nuF (la.getD j (nmF 0)) = N at *
  rw [← nl] at l1 l3 l4 l5 ⊢
  have e1 : (fOv (f j)) [] = (N.length : Int) := by
    rw [hfj]
    show mkF _ [] = _
    rw [mkF_0, List.length_map, scn_l]
  refine ⟨l8, l6, t_first ht (by rw [List.length_map, List.length_range]; omega) ⟨by omega, by omega⟩ (fun σ31 t31 f31 _ => ⟨l7, ?_⟩)⟩
  rw [← e1, ← mrs] at t31
  refine ⟨fun m2 x v36 σ37 => ∃ i : Nat, v36 = (ahF la j : Int) + i ∧ i ≤ N.length ∧ m2 = N.length - i ∧ x = foF 18 0 (N.take i) ∧ toX σ37 0 ((List.range (j + 1)).map (fun i => (fOv (f i)) [])) ((flF ((List.range j).map (fun i => fOv (f i)))).map (fun v => v []) ++ (scnF 0 N).take i) [] (fOe ((List.range j).map f)), fun σ37 => toX σ37 0 ((List.range (j + 1)).map (fun i => (fOv (f i)) [])) ((flF ((List.range (j + 1)).map (fun i => fOv (f i)))).map (fun v => v [])) [] (fOe ((List.range (j + 1)).map f)), ⟨_, 0, by omega, Nat.zero_le _, rfl, rfl, by rw [List.take_zero, List.append_nil]; exact t31⟩, ?_, fun σ37 f37 h37 => ⟨⟨by omega, by omega⟩, n - (j + 1), by omega, j + 1, by omega, by omega, rfl, h37⟩⟩
  rintro m2 x v36 σ37 rx r36 f37 ⟨i, rfl, hi1, hm2, ex, ht2⟩
  refine ⟨fun c => ?_, fun c => ?_⟩
  · rw [List.take_of_length_le (by rw [scn_l]; omega)] at ht2
    rw [flw_s, fOe_nx hfj, List.map_append, hfj]
    show toX σ37 0 _ (_ ++ (itF (mkF ((scnF 0 N).map nmF))).map (fun v => v [])) [] _
    rw [itF_mk, List.map_map]
    have e9 : ((fun v : vaF => v []) ∘ nmF) = id := by funext y; rfl
    rw [e9, List.map_id]
    exact ht2
  · obtain ⟨c1, c2, c3, c4⟩ := nu i (by omega)
    refine t_second ht2 (by rw [List.length_append, List.length_map, List.length_take, scn_l]; omega) rx (fun σ3 t3 f3 _ => ⟨c2, ⟨by omega, by omega⟩, N.length - (i + 1), by omega, i + 1, by omega, by omega, rfl, ?_, ?_⟩)
    · rw [c1, ex, tkA c3, foF_a]
      unfold stF
      rw [if_pos rfl]
    · rw [scn_t (by omega), ← List.append_assoc, ← ex]
      exact t3
theorem o_pack {a b : Int} {la lb : List vaF} (h : fP σ t) (hs : ctX σ s) (hD : d + 1 ≤ 3) (h9 : sg_g σ 61 9 = (d + 1 : Nat)) (hn : sg_g σ 61 23 = n) (ha : yX σ (d + 1) a la) (hb : yX σ 1 b lb) (hla : la.length = n) (hlb : lb.length = n) (hf : ∀ i, i < n → f i = if (itF (la.getD i (nmF 0))).length = (itF (lb.getD i (nmF 0))).length then .inr (mkF (pkF (itF (la.getD i (nmF 0))) (nuF (lb.getD i (nmF 0))))) else .inl 3) (k : ∀ σ', sg_F opL σ σ' → gwX σ σ' (d + 1) ((List.range n).map f) t s → Q σ') : V_fPack σ a b Q := by
  have n6 := h.2.2.2.2.2.2
  rw [hn] at n6
  have hbd : ∀ i, i < n → 0 ≤ (fOv (f i)) [] ∧ (fOv (f i)) [] ≤ 200 := fun i hi => by
    rw [hf i hi]
    by_cases c : (itF (la.getD i (nmF 0))).length = (itF (lb.getD i (nmF 0))).length
    · rw [if_pos c]
      show 0 ≤ mkF _ [] ∧ mkF _ [] ≤ 200
      rw [mkF_0]
      have q1 := pk_l (itF (la.getD i (nmF 0))) (nuF (lb.getD i (nmF 0)))
      have q2 := (yX_ln h.1 ha (j := i) (by omega)).2.2.2.1
      omega
    · rw [if_neg c]
      exact ⟨by decide, by decide⟩
  unfold V_fPack
  rw [hn]
  refine ⟨fun m v σ2 => ∃ j : Nat, v = j ∧ j ≤ n ∧ m = n - j ∧ toX σ2 d ((List.range j).map (fun i => (fOv (f i)) [])) [] (flF ((List.range j).map (fun i => fOv (f i)))) (fOe ((List.range j).map f)), fun σ2 => toX σ2 d ((List.range n).map (fun i => (fOv (f i)) [])) [] (flF ((List.range n).map (fun i => fOv (f i)))) (fOe ((List.range n).map f)), ⟨_, 0, rfl, Nat.zero_le _, rfl, toX_0 h.2.1 d⟩, ?_, fun σ2 f2 ht => str_X h hs hD h9 (sg_F_m f2 rfl) (Or.inl ht) hbd (fun σ' f' r' _ => k σ' f' r')⟩
  rintro m v' σ2 rv f2 ⟨j, rfl, hj, hm, ht⟩
  refine ⟨fun z => by rw [show n = j by omega]; exact ht, fun z => ?_⟩
  have jl : j < la.length := by omega
  have jb : j < lb.length := by omega
  obtain ⟨l1, l2, l3, l4, l5, l6, l7, l8⟩ := yX_ln h.1 ha jl
  obtain ⟨k1, k2, k3, k4, k5, k6, k7, k8⟩ := yX_ln h.1 hb jb
  have hfj := hf j (by omega)
  have fl6 := flw_l (w := fun i => fOv (f i)) (j := j) (fun i hi => (hbd i (by omega)).2)
  have nu := fun i hi => yX_nu h.1 hb (j := j) (i := i) jb hi
  have nl := nu_l (lb.getD j (nmF 0))
  have pk1 := fun i hi => pkX_1 h.1 ha (j := j) (a := i) jl hi
  rw [l1, l2, k1, k2]
  generalize hN : nuF (lb.getD j (nmF 0)) = N at *
  generalize hI : itF (la.getD j (nmF 0)) = I at *
  rw [← nl] at k1 k4 k5 hfj ⊢
  refine ⟨l6, k6, fun v32 σ30 => ((v32 = I.length ∧ I.length = N.length ∧ toX σ30 d ((List.range j).map (fun i => (fOv (f i)) [])) [] (flF ((List.range j).map (fun i => fOv (f i)))) (fOe ((List.range j).map f))) ∨ (v32 = 0 ∧ ¬ I.length = N.length ∧ toX σ30 d ((List.range j).map (fun i => (fOv (f i)) [])) [] (flF ((List.range j).map (fun i => fOv (f i)))) (fOe ((List.range (j + 1)).map f)))), ⟨fun y => Or.inl ⟨rfl, by omega, ht⟩, fun y => t_miss ht (by decide) (fun σ' t' f' _ => Or.inr ⟨rfl, by omega, by
    rw [if_neg (by omega)] at hfj
    rw [fOe_f hfj]; exact t'⟩)⟩, ?_⟩
  intro q σ30 rq f30 hq
  have f30' := sg_F_t f2 (sg_F_m f30 rfl)
  have fin : ∀ (c : Int) (σ39 : sg_S), sg_R c → c = (fOv (f j)) [] → toX σ39 d ((List.range j).map (fun i => (fOv (f i)) [])) [] (flF ((List.range (j + 1)).map (fun i => fOv (f i)))) (fOe ((List.range (j + 1)).map f)) → V_lFirst σ39 c (fun σ55 => sg_F [83, 12077, 16077] σ39 σ55 → sg_R ((j : Int) + 1) ∧ ∃ m', m' < m ∧ ∃ j' : Nat, ((j : Int) + 1) = j' ∧ j' ≤ n ∧ m' = n - j' ∧ toX σ55 d ((List.range j').map (fun i => (fOv (f i)) [])) [] (flF ((List.range j').map (fun i => fOv (f i)))) (fOe ((List.range j').map f))) := fun c σ39 rc ec t39 => t_first t39 (by rw [List.length_map, List.length_range]; omega) rc (fun σ3 t3 f3 _ => ⟨⟨by omega, by omega⟩, n - (j + 1), by omega, j + 1, by omega, by omega, rfl, by rw [mrs, ← ec]; exact t3⟩)
  rcases hq with ⟨eq, elen, tq⟩ | ⟨eq, elen, tq⟩
  · rw [if_pos elen] at hfj
    refine ⟨l7, fun m2 c v38 σ39 => ∃ i : Nat, v38 = i ∧ i ≤ I.length ∧ m2 = I.length - i ∧ c = ((pkF (I.take i) (N.take i)).length : Int) ∧ toX σ39 d ((List.range j).map (fun i => (fOv (f i)) [])) [] (flF ((List.range j).map (fun i => fOv (f i))) ++ pkF (I.take i) (N.take i)) (fOe ((List.range j).map f)), fun c σ39 => c = (fOv (f j)) [] ∧ toX σ39 d ((List.range j).map (fun i => (fOv (f i)) [])) [] (flF ((List.range (j + 1)).map (fun i => fOv (f i)))) (fOe ((List.range (j + 1)).map f)), ⟨_, 0, rfl, Nat.zero_le _, rfl, by simp [pkF], by simp only [List.take_zero, pkF, List.append_nil]; exact tq⟩, ?_, fun c σ39 rc f39 h39 => fin c σ39 rc h39.1 h39.2⟩
    rintro m2 c v38 σ39 rc r38 f39 ⟨i, rfl, hi1, hm2, ec, ht2⟩
    have ex39 : yEx σ σ39 := yEx_F (sg_F_t f30' (sg_F_m f39 rfl)) rfl
    refine ⟨fun y => ?_, fun y => ?_⟩
    · rw [List.take_of_length_le (by omega), List.take_of_length_le (by omega)] at ht2 ec
      refine ⟨?_, ?_⟩
      · rw [ec, hfj]; rfl
      · rw [flw_s, fOe_nx hfj, hfj]
        show toX σ39 d _ [] (_ ++ itF (mkF _)) _
        rw [itF_mk]; exact ht2
    · have il : i < I.length := by omega
      obtain ⟨c1, c2, c3, c4⟩ := nu i (by omega)
      have ps := pk_s (gD_i il) c3
      rw [c1]
      refine ⟨y_pitems _ _, k7, ⟨by omega, by omega⟩, c2, fun c' σ73 => c' = ((pkF (I.take (i + 1)) (N.take (i + 1))).length : Int) ∧ toX σ73 d ((List.range j).map (fun i => (fOv (f i)) [])) [] (flF ((List.range j).map (fun i => fOv (f i))) ++ pkF (I.take (i + 1)) (N.take (i + 1))) (fOe ((List.range j).map f)), ⟨fun y0 => ?_, fun y0 => ?_⟩, fun c' σ73 rc' f73 h73 => ⟨⟨by omega, by omega⟩, I.length - (i + 1), by omega, i + 1, by omega, by omega, rfl, h73.1, h73.2⟩⟩
      · rw [if_pos y0] at ps
        rw [List.append_nil] at ps
        rw [ps]
        exact ⟨ec, ht2⟩
      · rw [if_neg y0] at ps
        have pl := pk_l (I.take i) (N.take i)
        rw [List.length_take] at pl
        have pk := pk1 i (by omega)
        rw [show ((ahF la j + i : Nat) : Int) = (ahF la j : Int) + i by omega] at pk
        refine ⟨⟨by omega, by omega⟩, y_pitems _ _, ⟨by omega, by omega⟩, ⟨by omega, by omega⟩, t_pick ht2 (by rw [List.length_append]; omega) (pkX_up ex39 pk) itR ⟨by omega, by omega⟩ (fun σ3 t3 f3 _ => ⟨?_, ?_⟩)⟩
        · rw [ps, List.length_append, ec]; simp
        · rw [ps, ← List.append_assoc]; exact t3
  · rw [if_neg elen] at hfj
    refine ⟨l7, fun m2 c v38 σ39 => m2 = 0 ∧ v38 = 0 ∧ c = 0 ∧ toX σ39 d ((List.range j).map (fun i => (fOv (f i)) [])) [] (flF ((List.range j).map (fun i => fOv (f i)))) (fOe ((List.range (j + 1)).map f)), fun c σ39 => c = (fOv (f j)) [] ∧ toX σ39 d ((List.range j).map (fun i => (fOv (f i)) [])) [] (flF ((List.range (j + 1)).map (fun i => fOv (f i)))) (fOe ((List.range (j + 1)).map f)), ⟨0, rfl, rfl, rfl, tq⟩, ?_, fun c σ39 rc f39 h39 => fin c σ39 rc h39.1 h39.2⟩
    rintro m2 c v38 σ39 rc r38 f39 ⟨-, e38, ec, ht2⟩
    refine ⟨fun _ => ⟨by rw [ec, hfj]; rfl, ?_⟩, fun y => by omega⟩
    rw [flw_s, hfj]
    show toX σ39 d _ [] (_ ++ itF (nmF 0)) _
    rw [show itF (nmF 0) = [] by simp [itF, nmF], List.append_nil]
    exact ht2
end CIT
