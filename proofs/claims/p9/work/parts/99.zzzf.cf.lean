/-! Operations of the class that give numbers, exactly. -/
/-- what an operation comes to, lane by lane -/
def gwX (σ σ' : sg_S) (D : Nat) (rs : List (Int ⊕ vaF)) (t : Int) (s : fSt) : Prop := ∃ L, exF D L = exF D (rs.map fOv) ∧ (fOe rs = 0 → L = rs.map fOv) ∧ gvX σ σ' D L (fOe rs) t s
theorem axr_b {σ : sg_S} {k a b : Int} (hk : 4 ≤ k ∧ k ≤ 10) {R : Int → sg_S → Prop} (kk : R (v_operated k a b) σ) : V_xCompute σ (kmp k) a b R := by
  have c : k = 4 ∨ k = 5 ∨ k = 6 ∨ k = 7 ∨ k = 8 ∨ k = 9 ∨ k = 10 := by omega
  unfold V_xCompute
  rcases c with e | e | e | e | e | e | e <;> subst e
  · refine ⟨fun z => absurd z (by decide), fun _ => ⟨fun z => absurd z (by decide), fun _ => ⟨fun z => absurd z (by decide), fun _ => ⟨fun z => absurd z (by decide), fun _ => ⟨fun z => absurd z (by decide), fun _ => ⟨fun _ => ?_, fun z => absurd rfl z⟩⟩⟩⟩⟩⟩
    unfold V_xCompute_60
    unfold v_operated at kk
    rw [if_pos rfl] at kk
    exact ⟨fun z => by rw [if_pos z] at kk; exact kk, fun z => by rw [if_neg (by omega)] at kk; exact kk⟩
  · refine ⟨fun z => absurd z (by decide), fun _ => ⟨fun z => absurd z (by decide), fun _ => ⟨fun z => absurd z (by decide), fun _ => ⟨fun z => absurd z (by decide), fun _ => ⟨fun z => absurd z (by decide), fun _ => ⟨fun z => absurd z (by decide), fun _ => ⟨fun _ => ?_, fun z => absurd rfl z⟩⟩⟩⟩⟩⟩⟩
    unfold V_xCompute_61
    unfold v_operated at kk
    rw [if_neg (by decide), if_pos rfl] at kk
    exact ⟨fun z => by rw [if_pos z] at kk; exact kk, fun z => by rw [if_neg (fun q => q z)] at kk; exact kk⟩
  · refine ⟨fun z => absurd z (by decide), fun _ => ⟨fun z => absurd z (by decide), fun _ => ⟨fun _ => ?_, fun z => absurd rfl z⟩⟩⟩
    exact kk
  · refine ⟨fun z => absurd z (by decide), fun _ => ⟨fun z => absurd z (by decide), fun _ => ⟨fun z => absurd z (by decide), fun _ => ⟨fun _ => ?_, fun z => absurd rfl z⟩⟩⟩⟩
    exact kk
  · refine ⟨fun z => absurd z (by decide), fun _ => ⟨fun _ => ?_, fun z => absurd rfl z⟩⟩
    exact kk
  · refine ⟨fun z => absurd z (by decide), fun _ => ⟨fun z => absurd z (by decide), fun _ => ⟨fun z => absurd z (by decide), fun _ => ⟨fun z => absurd z (by decide), fun _ => ⟨fun _ => ?_, fun z => absurd rfl z⟩⟩⟩⟩⟩
    unfold V_xCompute_47
    unfold v_operated at kk
    rw [if_neg (by decide), if_neg (by decide), if_neg (by decide), if_neg (by decide), if_neg (by decide)] at kk
    exact ⟨fun z => ⟨z, by rw [if_pos z, if_neg (fun q => q rfl)] at kk; exact kk⟩, fun z => by rw [if_neg (fun q => q z)] at kk; exact kk⟩
  · refine ⟨fun _ => ?_, fun z => absurd rfl z⟩
    unfold V_xCompute_37
    unfold v_operated at kk
    rw [if_neg (by decide), if_neg (by decide), if_neg (by decide), if_neg (by decide), if_neg (by decide)] at kk
    exact ⟨fun z => ⟨z, by rw [if_pos z, if_pos (by decide)] at kk; exact kk⟩, fun z => by rw [if_neg (fun q => q z)] at kk; exact kk⟩
theorem dxz_b {k b : Int} (hk : 4 ≤ k ∧ k ≤ 10) : v_xDividesByZero (kmp k) b = 0 ↔ ¬ ((k = 9 ∨ k = 10) ∧ b = 0) := by
  unfold v_xDividesByZero
  by_cases cb : b = 0
  · rw [if_neg (fun q => q cb)]
    have c : k = 4 ∨ k = 5 ∨ k = 6 ∨ k = 7 ∨ k = 8 ∨ k = 9 ∨ k = 10 := by omega
    rcases c with e | e | e | e | e | e | e <;> subst e <;> simp [kmp, cb]
  · rw [if_pos cb]; exact ⟨fun _ q => cb q.2, fun _ => rfl⟩
theorem fxo_b {σ : sg_S} {k a b : Int} (hk : k = 18 ∨ k = 19 ∨ k = 20) {R : Int → sg_S → Prop} (kk : ∀ q, q = (if k = 18 then sg_n (a + b) else if k = 19 then (if a < b then b else a) else if b < a then b else a) → R q σ) : V_xFold σ (kmp k) a b R := by
  unfold V_xFold
  rcases hk with e | e | e <;> subst e
  · exact ⟨fun z => absurd rfl z, fun _ => kk _ rfl⟩
  · refine ⟨fun _ => ⟨fun z => absurd rfl z, fun _ v6 e6 _ => kk v6 ?_⟩, fun z => absurd z (by decide)⟩
    rw [e6]; rfl
  · refine ⟨fun _ => ⟨fun _ v3 e3 _ => kk v3 ?_, fun z => absurd z (by decide)⟩, fun z => absurd z (by decide)⟩
    rw [e3]; rfl
/-- numbers of n lanes were told -/
theorem num_X {σ σ2 : sg_S} {t : Int} {n : Nat} {f : Nat → Int ⊕ vaF} {g : Nat → Int} {s : fSt} {Q : sg_S → Prop} (h : fP σ t) (hs : ctX σ s) (h9 : sg_g σ 61 9 = 0) (f2 : sg_F acL σ σ2) (ht : toX σ2 0 ((List.range n).map g) [] [] (fOe ((List.range n).map f))) (hf : ∀ i, i < n → fOe [f i] = 0 → f i = .inr (nmF (g i))) (k : ∀ σ', sg_F opL σ σ' → gwX σ σ' 0 ((List.range n).map f) t s → Q σ') : V_fGive σ2 1 Q := by
  refine f_giveX (D := 0) (f := 1) (L := (List.range n).map (fun i => nmF (g i))) h hs (by decide) h9 (by decide) f2 ht (Or.inr (Or.inl ⟨rfl, ?_, rfl, Or.inl ⟨rfl, rfl⟩⟩)) (Or.inr ⟨by decide, rfl⟩) (fun σ' f' r' => k σ' f' ⟨_, ?_, fun e0 => ?_, r'⟩)
  · rw [List.map_map]; rfl
  · show (((List.range n).map _).length : Int) = ((((List.range n).map f).map fOv).length : Int)
    rw [List.length_map, List.length_map, List.length_map]
  · rw [List.map_map]
    refine mp_e (fun i hi => ?_)
    have := hf i hi (fOe_0 e0 _ (List.mem_map.mpr ⟨i, List.mem_range.mpr hi, rfl⟩))
    show nmF (g i) = fOv (f i)
    rw [this]; rfl
theorem mrs {α : Type} (g : Nat → α) (j : Nat) : (List.range (j + 1)).map g = (List.range j).map g ++ [g j] := by rw [List.range_succ, List.map_append]; rfl
section CFS
variable {σ : sg_S} {t : Int} {n : Nat} {f : Nat → Int ⊕ vaF} {s : fSt} {Q : sg_S → Prop}
theorem o_constant {x : Int} (h : fP σ t) (hs : ctX σ s) (h9 : sg_g σ 61 9 = 0) (hn : sg_g σ 61 23 = n) (hx : sg_R x) (hf : ∀ i, i < n → f i = .inr (nmF x)) (k : ∀ σ', sg_F opL σ σ' → gwX σ σ' 0 ((List.range n).map f) t s → Q σ') : V_fConstant σ x Q := by
  have n6 := h.2.2.2.2.2.2
  rw [hn] at n6
  have e0 : ∀ j, j ≤ n → fOe ((List.range j).map f) = 0 := fun j hj => fOe_z j (fun i hi => by rw [hf i (by omega)]; rfl)
  unfold V_fConstant
  rw [hn]
  refine ⟨fun m v σ2 => ∃ j : Nat, v = j ∧ j ≤ n ∧ m = n - j ∧ toX σ2 0 ((List.range j).map (fun _ => x)) [] [] (fOe ((List.range j).map f)), fun σ2 => toX σ2 0 ((List.range n).map (fun _ => x)) [] [] (fOe ((List.range n).map f)), ⟨_, 0, rfl, Nat.zero_le _, rfl, toX_0 h.2.1 0⟩, ?_, fun σ2 f2 ht => num_X h hs h9 (sg_F_m f2 rfl) ht (fun i hi _ => hf i hi) (fun σ' f' r' _ => k σ' f' r')⟩
  rintro m v σ2 rv f2 ⟨j, rfl, hj, hm, ht⟩
  refine ⟨fun z => by rw [show n = j by omega]; exact ht, fun z => t_first ht (by rw [List.length_map, List.length_range]; omega) hx (fun σ' t' f' _ => ⟨⟨by omega, by omega⟩, n - (j + 1), by omega, j + 1, by omega, by omega, rfl, ?_⟩)⟩
  rw [mrs, e0 (j + 1) (by omega)]
  rw [e0 j hj] at t'
  exact t'
theorem o_measure {d : Nat} {v : Int} {la : List vaF} (h : fP σ t) (hs : ctX σ s) (h9 : sg_g σ 61 9 = 0) (hn : sg_g σ 61 23 = n) (hv : yX σ d v la) (hla : la.length = n) (hf : ∀ i, i < n → f i = .inr (nmF ((la.getD i (nmF 0)) []))) (k : ∀ σ', sg_F opL σ σ' → gwX σ σ' 0 ((List.range n).map f) t s → Q σ') : V_fMeasure σ v Q := by
  have n6 := h.2.2.2.2.2.2
  rw [hn] at n6
  have e0 : ∀ j, j ≤ n → fOe ((List.range j).map f) = 0 := fun j hj => fOe_z j (fun i hi => by rw [hf i (by omega)]; rfl)
  unfold V_fMeasure
  rw [hn]
  refine ⟨fun m v σ2 => ∃ j : Nat, v = j ∧ j ≤ n ∧ m = n - j ∧ toX σ2 0 ((List.range j).map (fun i => (la.getD i (nmF 0)) [])) [] [] (fOe ((List.range j).map f)), fun σ2 => toX σ2 0 ((List.range n).map (fun i => (la.getD i (nmF 0)) [])) [] [] (fOe ((List.range n).map f)), ⟨_, 0, rfl, Nat.zero_le _, rfl, toX_0 h.2.1 0⟩, ?_, fun σ2 f2 ht => num_X h hs h9 (sg_F_m f2 rfl) ht (fun i hi _ => hf i hi) (fun σ' f' r' _ => k σ' f' r')⟩
  rintro m v' σ2 rv f2 ⟨j, rfl, hj, hm, ht⟩
  refine ⟨fun z => by rw [show n = j by omega]; exact ht, fun z => ?_⟩
  obtain ⟨c1, c2⟩ := yX_cell h.1 hv (i := j) (by omega)
  have rc : sg_R (v_lCell σ v j) := by
    rw [(y_cell h.1 (yX_c hv).1 (l := (j : Int)) ⟨by omega, by omega⟩).1]; exact sg_Rg _ _ _
  rw [c1] at rc ⊢
  refine ⟨c2, t_first ht (by rw [List.length_map, List.length_range]; omega) rc (fun σ' t' f' _ => ⟨⟨by omega, by omega⟩, n - (j + 1), by omega, j + 1, by omega, by omega, rfl, ?_⟩)⟩
  rw [mrs, e0 (j + 1) (by omega)]
  rw [e0 j hj] at t'
  exact t'
theorem o_combine {kk a b : Int} {da db : Nat} {la lb : List vaF} (hk : 4 ≤ kk ∧ kk ≤ 10) (h : fP σ t) (hs : ctX σ s) (h9 : sg_g σ 61 9 = 0) (hn : sg_g σ 61 23 = n) (ha : yX σ da a la) (hb : yX σ db b lb) (hla : la.length = n) (hlb : lb.length = n) (hf : ∀ i, i < n → f i = if (kk = 9 ∨ kk = 10) ∧ (lb.getD i (nmF 0)) [] = 0 then .inl 1 else .inr (nmF (v_operated kk ((la.getD i (nmF 0)) []) ((lb.getD i (nmF 0)) [])))) (k : ∀ σ', sg_F opL σ σ' → gwX σ σ' 0 ((List.range n).map f) t s → Q σ') : V_fCombine σ (kmp kk) a b Q := by
  have n6 := h.2.2.2.2.2.2
  rw [hn] at n6
  unfold V_fCombine
  rw [hn]
  refine ⟨fun m v σ2 => ∃ j : Nat, v = j ∧ j ≤ n ∧ m = n - j ∧ toX σ2 0 ((List.range j).map (fun i => v_operated kk ((la.getD i (nmF 0)) []) ((lb.getD i (nmF 0)) []))) [] [] (fOe ((List.range j).map f)), fun σ2 => toX σ2 0 ((List.range n).map (fun i => v_operated kk ((la.getD i (nmF 0)) []) ((lb.getD i (nmF 0)) []))) [] [] (fOe ((List.range n).map f)), ⟨_, 0, rfl, Nat.zero_le _, rfl, toX_0 h.2.1 0⟩, ?_, fun σ2 f2 ht => num_X h hs h9 (sg_F_m f2 rfl) ht (fun i hi e => ?_) (fun σ' f' r' _ => k σ' f' r')⟩
  · rintro m v' σ2 rv f2 ⟨j, rfl, hj, hm, ht⟩
    refine ⟨fun z => by rw [show n = j by omega]; exact ht, fun z => ?_⟩
    obtain ⟨c1, c2⟩ := yX_cell h.1 ha (i := j) (by omega)
    obtain ⟨b1, b2⟩ := yX_cell h.1 hb (i := j) (by omega)
    have hfj := hf j (by omega)
    rw [c1, b1]
    refine ⟨b2, fun σ28 => toX σ28 0 ((List.range j).map (fun i => v_operated kk ((la.getD i (nmF 0)) []) ((lb.getD i (nmF 0)) []))) [] [] (fOe ((List.range (j + 1)).map f)), ⟨fun q => ?_, fun q => t_miss ht (by decide) (fun σ' t' f' _ => ?_)⟩, fun σ28 f28 h28 => ⟨c2, axr_b hk (fun rx => t_first h28 (by rw [List.length_map, List.length_range]; omega) rx (fun σ' t' f' _ => ⟨⟨by omega, by omega⟩, n - (j + 1), by omega, j + 1, by omega, by omega, rfl, by rw [mrs]; exact t'⟩))⟩⟩
    · rw [if_neg ((dxz_b hk).mp q)] at hfj
      rw [fOe_r, hfj]
      have : fOe [(.inr (nmF (v_operated kk ((la.getD j (nmF 0)) []) ((lb.getD j (nmF 0)) []))) : Int ⊕ vaF)] = 0 := rfl
      rw [this]
      by_cases c : fOe ((List.range j).map f) = 0
      · rw [if_pos c]; rw [c] at ht; exact ht
      · rw [if_neg c]; exact ht
    · have c : (kk = 9 ∨ kk = 10) ∧ (lb.getD j (nmF 0)) [] = 0 := Decidable.byContradiction (fun w => q ((dxz_b hk).mpr w))
      rw [if_pos c] at hfj
      rw [fOe_r, hfj, fOe_l]
      exact t'
  · have hfi := hf i hi
    by_cases c : (kk = 9 ∨ kk = 10) ∧ (lb.getD i (nmF 0)) [] = 0
    · rw [if_pos c] at hfi
      rw [hfi, fOe_l] at e
      exact absurd e (by decide)
    · rw [if_neg c] at hfi
      exact hfi
end CFS
