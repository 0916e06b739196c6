/-! More operations of the class, exactly: divide. -/
theorem flw_m {w : Nat → vaF} : ∀ {n : Nat} {v : vaF}, v ∈ flF ((List.range n).map w) → ∃ i, i < n ∧ v ∈ itF (w i)
  | 0, v, h => by rw [List.range_zero, List.map_nil] at h; exact absurd h (by simp [flF])
  | n + 1, v, h => by
    rw [flw_s] at h
    rcases List.mem_append.mp h with q | q
    · obtain ⟨i, a, b⟩ := flw_m q
      exact ⟨i, by omega, b⟩
    · exact ⟨n, by omega, q⟩
theorem fl_200 : ∀ {l : List vaF}, (∀ v ∈ l, v [] ≤ 200) → (flF l).length ≤ 200 * l.length
  | [], _ => Nat.le_refl _
  | v :: r, h => by
    have a := fl_200 (l := r) (fun w hw => h w (by simp [hw]))
    have b := h v (by simp)
    rw [flF_c, List.length_append, List.length_cons, itF_l]
    omega
theorem any_n {N : List Int} (c : ¬ N.any (fun x => decide (x < 0)) = true) : ∀ x ∈ N, 0 ≤ x := fun x hx => Decidable.byContradiction (fun q => c (List.any_eq_true.mpr ⟨x, hx, decide_eq_true (by omega)⟩))
theorem fOv_l (e : Int) : (0 ≤ (fOv (.inl e)) [] ∧ (fOv (.inl e)) [] ≤ 200) ∧ ∀ v ∈ itF (fOv (.inl e)), 0 ≤ v [] ∧ v [] ≤ 200 := by
  refine ⟨⟨?_, ?_⟩, fun v hv => ?_⟩
  · show (0 : Int) ≤ 0
    decide
  · show (0 : Int) ≤ 200
    decide
  · have : itF (fOv (.inl e)) = [] := by show itF (nmF 0) = []; simp [itF, nmF]
    rw [this] at hv
    cases hv
/-- what a division tells -/
def dvX (σ2 : sg_S) (d : Nat) (f : Nat → Int ⊕ vaF) (j : Nat) : Prop := toX σ2 d ((List.range j).map (fun i => (fOv (f i)) [])) ((flF ((List.range j).map (fun i => fOv (f i)))).map (fun v => v [])) (flF (flF ((List.range j).map (fun i => fOv (f i))))) (fOe ((List.range j).map f))
theorem div_X {σ σ2 : sg_S} {t : Int} {n d : Nat} {f : Nat → Int ⊕ vaF} {s : fSt} {Q : sg_S → Prop} (h : fP σ t) (hs : ctX σ s) (hD : d + 2 ≤ 3) (h9 : sg_g σ 61 9 = (d + 2 : Nat)) (f2 : sg_F acL σ σ2) (ht : dvX σ2 d f n) (hf : ∀ i, i < n → 0 ≤ (fOv (f i)) [] ∧ (fOv (f i)) [] ≤ 200) (hg : ∀ i, i < n → ∀ v ∈ itF (fOv (f i)), 0 ≤ v [] ∧ v [] ≤ 200) (k : ∀ σ', sg_F opL σ σ' → gwX σ σ' (d + 2) ((List.range n).map f) t s → Q σ') : V_fGive σ2 2 Q := by
  have eL : ((List.range n).map f).map fOv = (List.range n).map (fun i => fOv (f i)) := by rw [List.map_map]; rfl
  have fin : ∀ σ', sg_F opL σ σ' → gvX σ σ' (d + 2) ((List.range n).map (fun i => fOv (f i))) (fOe ((List.range n).map f)) t s → Q σ' := fun σ' f' r' => k σ' f' ⟨_, by rw [eL], fun _ => eL.symm, r'⟩
  have bd : ∀ v ∈ (List.range n).map (fun i => fOv (f i)), 0 ≤ v [] ∧ v [] ≤ 200 := fun v hv => by
    obtain ⟨i, hi, e⟩ := List.mem_map.mp hv
    rw [← e]
    exact hf i (List.mem_range.mp hi)
  have bd2 : ∀ v ∈ flF ((List.range n).map (fun i => fOv (f i))), 0 ≤ v [] ∧ v [] ≤ 200 := fun v hv => by
    obtain ⟨i, hi, e⟩ := flw_m hv
    exact hg i hi v e
  exact f_giveX (D := d + 2) (f := 2) (L := (List.range n).map (fun i => fOv (f i))) h hs hD h9 (by decide) f2 ht (Or.inr (Or.inr ⟨rfl, by omega, by rw [List.map_map]; rfl, rfl, bd, Or.inr ⟨by omega, rfl, bd2⟩⟩)) (Or.inl rfl) fin
section CKT
variable {σ : sg_S} {t : Int} {n d : Nat} {f : Nat → Int ⊕ vaF} {s : fSt} {Q : sg_S → Prop}
theorem o_divide {a b : Int} {la lb : List vaF} (h : fP σ t) (hs : ctX σ s) (hD : d + 2 ≤ 3) (h9 : sg_g σ 61 9 = (d + 2 : Nat)) (hn : sg_g σ 61 23 = n) (ha : yX σ (d + 1) a la) (hb : yX σ 1 b lb) (hla : la.length = n) (hlb : lb.length = n) (hf : ∀ i, i < n → f i = if (nuF (lb.getD i (nmF 0))).any (fun x => decide (x < 0)) = true then .inl 5 else if sumF (nuF (lb.getD i (nmF 0))) = ((itF (la.getD i (nmF 0))).length : Int) then .inr (mkF (ptF (itF (la.getD i (nmF 0))) (nuF (lb.getD i (nmF 0))))) else .inl 3) (k : ∀ σ', sg_F opL σ σ' → gwX σ σ' (d + 2) ((List.range n).map f) t s → Q σ') : V_fDivide σ a b Q := by
  have n6 := h.2.2.2.2.2.2
  rw [hn] at n6
  have inn : ∀ i, i < n → (0 ≤ (fOv (f i)) [] ∧ (fOv (f i)) [] ≤ 200) ∧ ∀ v ∈ itF (fOv (f i)), 0 ≤ v [] ∧ v [] ≤ 200 := fun i hi => by
    have q1 := (yX_ln h.1 ha (j := i) (by omega)).2.2.2.1
    have q2 := (yX_ln h.1 hb (j := i) (by omega)).2.2.2.1
    have nl := nu_l (lb.getD i (nmF 0))
    rw [hf i hi]
    by_cases c : (nuF (lb.getD i (nmF 0))).any (fun x => decide (x < 0)) = true
    · rw [if_pos c]; exact fOv_l 5
    · rw [if_neg c]
      by_cases c2 : sumF (nuF (lb.getD i (nmF 0))) = ((itF (la.getD i (nmF 0))).length : Int)
      · rw [if_pos c2]
        obtain ⟨p1, p2, p3⟩ := pt_nu _ _ (any_n c) c2
        refine ⟨?_, ?_⟩
        · show 0 ≤ mkF _ [] ∧ mkF _ [] ≤ 200
          rw [mkF_0, ptF_l]
          omega
        · show ∀ v ∈ itF (mkF _), _
          rw [itF_mk]
          intro v hv
          have := p3 v hv
          omega
      · rw [if_neg c2]; exact fOv_l 3
  unfold V_fDivide
  rw [hn]
  refine ⟨fun m v σ2 => ∃ j : Nat, v = j ∧ j ≤ n ∧ m = n - j ∧ dvX σ2 d f j, fun σ2 => dvX σ2 d f n, ⟨_, 0, rfl, Nat.zero_le _, rfl, toX_0 h.2.1 d⟩, ?_, fun σ2 f2 ht => div_X h hs hD h9 (sg_F_m f2 rfl) ht (fun i hi => (inn i hi).1) (fun i hi => (inn i hi).2) (fun σ' f' r' _ => k σ' f' r')⟩
  rintro m v' σ2 rv f2 ⟨j, rfl, hj, hm, ht⟩
  refine ⟨fun z => by rw [show n = j by omega]; exact ht, fun z => ?_⟩
  have jl : j < la.length := by omega
  have jb : j < lb.length := by omega
  have ex2 : yEx σ σ2 := yEx_F f2 rfl
  have g2 : yG σ2 := yG_F h.1 f2 rfl
  obtain ⟨l1, l2, l3, l4, l5, l6, l7, l8⟩ := yX_ln h.1 ha jl
  obtain ⟨k1, k2, k3, k4, k5, k6, k7, k8⟩ := yX_ln h.1 hb jb
  have hfj := hf j (by omega)
  have nu := fun i hi => yX_nu h.1 hb (j := j) (i := i) jb hi
  have nu2 := fun i hi => yX_nu g2 (yX_up ex2 hb) (j := j) (i := i) jb hi
  rw [vF_lItems f2 rfl] at nu2
  have nl := nu_l (lb.getD j (nmF 0))
  have pkj := pkX_it h.1 ha (j := j) (a := 0) (b := (itF (la.getD j (nmF 0))).length) jl (Nat.zero_le _) (Nat.le_refl _)
  rw [Nat.add_zero, List.drop_zero, Nat.sub_zero, List.take_length] at pkj
  have fl6 := flw_l (w := fun i => fOv (f i)) (j := j) (fun i hi => (inn i (by omega)).1.2)
  have fl7 := fl_200 (l := flF ((List.range j).map (fun i => fOv (f i)))) (fun v hv => by
    obtain ⟨i, hi, e⟩ := flw_m hv
    exact ((inn i (by omega)).2 v e).2)
  rw [l1, k2, k3, l2, l3]
  generalize hN : nuF (lb.getD j (nmF 0)) = N at *
  generalize hI : itF (la.getD j (nmF 0)) = I at *
  rw [← nl] at k3 k4 k5 ⊢
  rw [show ((ahF lb j + N.length : Nat) : Int) - (ahF lb j : Int) = (N.length : Int) by omega]
  have mis : ∀ x, sg_R x → f j = .inl x → V_lMiss σ2 x (fun σ93 => sg_F [15077] σ2 σ93 → V_lFirst σ93 0 (fun σ99 => sg_F [83, 12077, 16077] σ93 σ99 → dvX σ99 d f (j + 1))) := fun x rx ex => t_miss ht rx (fun σ' t' f' _ => t_first t' (by rw [List.length_map, List.length_range]; omega) (by decide) (fun σ3 t3 f3 _ => by
    unfold dvX
    rw [mrs (fun i => (fOv (f i)) []), flw_s, fOe_f ex, ex]
    show toX σ3 d (_ ++ [0]) (List.map _ (_ ++ itF (nmF 0))) (flF (_ ++ itF (nmF 0))) _
    rw [show itF (nmF 0) = [] by simp [itF, nmF], List.append_nil]
    exact t3))
  have lst : ∀ σ40, sg_F [83, 84, 85, 86, 87, 12077, 13077, 14077, 15077, 16077] σ2 σ40 → dvX σ40 d f (j + 1) → sg_R ((j : Int) + 1) ∧ ∃ m', m' < m ∧ ∃ j' : Nat, ((j : Int) + 1) = j' ∧ j' ≤ n ∧ m' = n - j' ∧ dvX σ40 d f j' := fun σ40 f40 h40 => ⟨⟨by omega, by omega⟩, n - (j + 1), by omega, j + 1, by omega, by omega, rfl, h40⟩
  refine ⟨k7, k8, l6, y_pitems _ _, ?_⟩
  unfold V_fCannotDivide
  refine ⟨fun p v1 v2 => ∃ i : Nat, v2 = (ahF lb j : Int) + i ∧ i ≤ N.length ∧ p = N.length - i ∧ v1 = sumF (N.take i) ∧ (∀ x ∈ N.take i, 0 ≤ x) ∧ v1 ≤ 2147483647 * (i : Int), fun v1 => v1 = sumF N ∧ ∀ x ∈ N, 0 ≤ x, ⟨_, 0, by omega, Nat.zero_le _, rfl, rfl, fun x hx => by simp at hx, by omega⟩, ?_, ?_⟩
  · rintro p v1 v2 rv1 rv2 ⟨i, rfl, hi, hp, e1, e2, e3⟩
    refine ⟨fun c => ?_, fun c => ?_⟩
    · have ei : i = N.length := by omega
      rw [ei, List.take_length] at e1 e2
      exact ⟨e1, e2⟩
    · obtain ⟨c1, c2, c3, c4⟩ := nu2 i (by omega)
      rw [c1]
      generalize N.getD i 0 = x at *
      have tk : N.take (i + 1) = N.take i ++ [x] := by rw [List.take_succ, c3]; rfl
      have s0 := sum_p e2
      rw [← e1] at s0
      have c4' := c4.2
      refine ⟨c2, fun y => ⟨⟨by omega, by omega⟩, ⟨by omega, by omega⟩, N.length - (i + 1), by omega, i + 1, by omega, by omega, rfl, ?_, ?_, by omega⟩, fun y _ => ?_⟩
      · rw [tk, sumF_a, ← e1]
        simp only [sumF]
        omega
      · intro w hw
        rw [tk] at hw
        rcases List.mem_append.mp hw with q | q
        · exact e2 w q
        · rw [List.mem_singleton.mp q]; exact y
      · have an : N.any (fun x => decide (x < 0)) = true := List.any_eq_true.mpr ⟨x, List.mem_of_getElem? c3, decide_eq_true y⟩
        rw [if_pos an] at hfj
        exact ⟨fun σ40 => dvX σ40 d f (j + 1), ⟨fun w => absurd w (by decide), fun _ => mis 5 (by decide) hfj⟩, lst⟩
  · rintro v1 rv1 ⟨e1, e2⟩
    have na : ¬ N.any (fun x => decide (x < 0)) = true := fun q => by
      obtain ⟨x, hx, y⟩ := List.any_eq_true.mp q
      have := e2 x hx
      have := of_decide_eq_true y
      omega
    rw [if_neg na] at hfj
    refine ⟨fun c _ => ?_, fun c _ => ?_⟩
    · rw [if_neg (by rw [← e1]; exact c)] at hfj
      exact ⟨fun σ40 => dvX σ40 d f (j + 1), ⟨fun w => absurd w (by decide), fun _ => mis 3 (by decide) hfj⟩, lst⟩
    · have sm : sumF N = (I.length : Int) := by rw [← e1]; exact c
      rw [if_pos sm] at hfj
      obtain ⟨p1, p2, -⟩ := pt_nu N I e2 sm
      have w1 : (fOv (f j)) [] = (N.length : Int) := by
        rw [hfj]
        show mkF _ [] = _
        rw [mkF_0, ptF_l]
      have w2 : itF (fOv (f j)) = ptF I N := by
        rw [hfj]
        show itF (mkF _) = _
        rw [itF_mk]
      refine ⟨fun σ40 => dvX σ40 d f (j + 1), ⟨fun _ => ⟨⟨by omega, by omega⟩, t_first ht (by rw [List.length_map, List.length_range]; omega) ⟨by omega, by omega⟩ (fun σ47 t47 f47 _ => ?_)⟩, fun w => absurd rfl w⟩, lst⟩
      have t48 : toX σ47 d ((List.range (j + 1)).map (fun i => (fOv (f i)) [])) ((flF ((List.range j).map (fun i => fOv (f i)))).map (fun v => v [])) (flF (flF ((List.range j).map (fun i => fOv (f i))))) (fOe ((List.range j).map f)) := by
        rw [mrs (fun i => (fOv (f i)) []), w1]
        exact t47
      refine ⟨fun m2 v52 σ53 => ∃ i : Nat, v52 = (ahF lb j : Int) + i ∧ i ≤ N.length ∧ m2 = N.length - i ∧ toX σ53 d ((List.range (j + 1)).map (fun i => (fOv (f i)) [])) ((flF ((List.range j).map (fun i => fOv (f i)))).map (fun v => v []) ++ N.take i) (flF (flF ((List.range j).map (fun i => fOv (f i))))) (fOe ((List.range j).map f)), fun σ53 => toX σ53 d ((List.range (j + 1)).map (fun i => (fOv (f i)) [])) ((flF ((List.range j).map (fun i => fOv (f i)))).map (fun v => v []) ++ N) (flF (flF ((List.range j).map (fun i => fOv (f i))))) (fOe ((List.range j).map f)), ⟨_, 0, by omega, Nat.zero_le _, rfl, by rw [List.take_zero, List.append_nil]; exact t48⟩, ?_, ?_⟩
      · rintro m2 v52 σ53 r52 f53 ⟨i, rfl, hi, hp, h53⟩
        refine ⟨fun c => ?_, fun c => ?_⟩
        · have ei : i = N.length := by omega
          rw [ei, List.take_length] at h53
          exact h53
        · obtain ⟨c1, c2, c3, c4⟩ := nu i (by omega)
          rw [c1]
          generalize N.getD i 0 = x at *
          refine ⟨y_pitems _ _, c2, t_second h53 (by rw [List.length_append, List.length_map, List.length_take]; omega) c4 (fun σ3 t3 f3 _ => ⟨⟨by omega, by omega⟩, N.length - (i + 1), by omega, i + 1, by omega, by omega, rfl, ?_⟩)⟩
          rw [List.take_succ, c3, ← List.append_assoc]
          exact t3
      · intro σ53 f53 h53
        have ex53 : yEx σ σ53 := yEx_F (sg_F_t f2 (sg_F_t (sg_F_m f47 rfl) (sg_F_m f53 rfl))) rfl
        refine ⟨y_pitems _ _, l7, l8, t_pick h53 (by omega) (pkX_up ex53 pkj) itR ⟨by omega, by omega⟩ (fun σ74 t74 f74 _ => ?_)⟩
        unfold dvX
        rw [flw_s, fOe_nx hfj, List.map_append, flF_a, w2, p1, p2]
        exact t74
end CKT
