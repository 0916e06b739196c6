/-! flat ops of the reference, exactly: lanes, items ahead of a lane, what an op comes to. -/
theorem gD_i {l : List vaF} {i : Nat} (h : i < l.length) : l[i]? = some (l.getD i (nmF 0)) := by
  rw [List.getD_eq_getElem?_getD, List.getElem?_eq_getElem h]; rfl
theorem lvl0_i {l : List vaF} {i : Nat} (h : i < l.length) : (lvl 0 l)[i]? = some ((l.getD i (nmF 0)) []) := by
  simp only [lvl, List.getElem?_map]
  rw [gD_i h]; rfl
theorem lvl_ex : ∀ (d j : Nat) (l : List vaF), j ≤ d → ((lvl j l).length : Int) ≤ exF d l
  | d, 0, l, _ => by
    have := exF_n d l
    simp only [lvl, List.length_map]
    exact this
  | 0, j + 1, l, h => by omega
  | d + 1, j + 1, l, h => by
    have a := lvl_ex d j (flF l) (by omega)
    have b : (0 : Int) ≤ (l.length : Int) := Int.natCast_nonneg _
    simp only [lvl, exF]
    omega
/-- items ahead of lane i -/
def ahF (l : List vaF) (i : Nat) : Nat := (flF (l.take i)).length
theorem dr_D {l : List vaF} {i : Nat} (h : i < l.length) : l.drop i = l.getD i (nmF 0) :: l.drop (i + 1) := by
  rw [List.drop_eq_getElem_cons h, List.getD_eq_getElem?_getD, List.getElem?_eq_getElem h]; rfl
theorem flF_at {l : List vaF} {i : Nat} (h : i < l.length) : flF l = flF (l.take i) ++ (itF (l.getD i (nmF 0)) ++ flF (l.drop (i + 1))) := by
  have e : flF l = flF (l.take i ++ l.drop i) := by rw [List.take_append_drop]
  rw [e, flF_a, dr_D h, flF_c]
theorem ahF_0 (l : List vaF) : ahF l 0 = 0 := by
  unfold ahF
  rw [List.take_zero, flF_0]; rfl
theorem ahF_n (l : List vaF) : ahF l l.length = (flF l).length := by
  unfold ahF
  rw [List.take_length]
theorem ahF_s {l : List vaF} {i : Nat} (h : i < l.length) : ahF l (i + 1) = ahF l i + (itF (l.getD i (nmF 0))).length := by
  have e : l.take (i + 1) = l.take i ++ [l.getD i (nmF 0)] := by rw [List.take_add_one, gD_i h]; rfl
  unfold ahF
  rw [e, flF_a, flF_1, List.length_append]
theorem ahF_b {l : List vaF} {i : Nat} (h : i < l.length) : ahF l i + (itF (l.getD i (nmF 0))).length ≤ (flF l).length := by
  have e := congrArg List.length (flF_at h)
  simp only [List.length_append] at e
  unfold ahF
  omega
theorem fl_g {l : List vaF} {i k : Nat} (h : i < l.length) (hk : k < (itF (l.getD i (nmF 0))).length) : (flF l)[ahF l i + k]? = (itF (l.getD i (nmF 0)))[k]? := by
  rw [flF_at h]
  unfold ahF
  rw [List.getElem?_append_right (by omega), Nat.add_sub_cancel_left, List.getElem?_append_left hk]
theorem ln_it {l : List vaF} {i k : Nat} (h : i < l.length) (hk : k < (itF (l.getD i (nmF 0))).length) : lnF (flF l) ((ahF l i : Int) + k) = (itF (l.getD i (nmF 0))).getD k (nmF 0) := by
  unfold lnF
  rw [if_neg (by omega), show ((ahF l i : Int) + k).toNat = ahF l i + k by omega, List.getD_eq_getElem?_getD, fl_g h hk, ← List.getD_eq_getElem?_getD]
/-- places from a on, n of them -/
def rnF (a : Int) (n : Nat) : List Int := (List.range n).map (fun k : Nat => a + k)
theorem rnF_s (a : Int) (n : Nat) : rnF a (n + 1) = rnF a n ++ [a + n] := by
  unfold rnF
  rw [List.range_succ, List.map_append]; rfl
theorem rnF_l (a : Int) (n : Nat) : (rnF a n).length = n := by
  unfold rnF
  rw [List.length_map, List.length_range]
theorem rnF_m {a x : Int} {n : Nat} (h : x ∈ rnF a n) : a ≤ x ∧ x < a + n := by
  unfold rnF at h
  obtain ⟨k, hk, e⟩ := List.mem_map.mp h
  have e' : a + (k : Int) = x := e
  rw [List.mem_range] at hk
  omega
theorem ln_run {l : List vaF} {i : Nat} (h : i < l.length) : ∀ n : Nat, n ≤ (itF (l.getD i (nmF 0))).length → (rnF (ahF l i) n).map (lnF (flF l)) = (itF (l.getD i (nmF 0))).take n
  | 0, _ => rfl
  | n + 1, hn => by
    rw [rnF_s, List.map_append, ln_run h n (by omega), List.map_cons, List.map_nil, ln_it h (by omega), List.take_add_one, gD_i (by omega)]
    rfl
theorem ln_all {l : List vaF} {i : Nat} (h : i < l.length) : (rnF (ahF l i) (itF (l.getD i (nmF 0))).length).map (lnF (flF l)) = itF (l.getD i (nmF 0)) := by
  rw [ln_run h _ (Nat.le_refl _), List.take_of_length_le (Nat.le_refl _)]
theorem fOe_a : ∀ (l : List (Int ⊕ vaF)) (r : Int ⊕ vaF), fOe (l ++ [r]) = if fOe l = 0 then fOe [r] else fOe l
  | [], r => by
    rw [List.nil_append, show fOe [] = 0 from rfl, if_pos rfl]
  | .inl e :: t, r => by
    have ih := fOe_a t r
    by_cases c : e = 0
    · have h1 : ∀ m : List (Int ⊕ vaF), fOe (.inl e :: m) = fOe m := fun m => by simp only [fOe]; rw [if_pos c]
      rw [List.cons_append, h1, h1, ih]
    · have h1 : ∀ m : List (Int ⊕ vaF), fOe (.inl e :: m) = e := fun m => by simp only [fOe]; rw [if_neg c]
      rw [List.cons_append, h1, h1, if_neg c]
  | .inr v :: t, r => by
    have h1 : ∀ m : List (Int ⊕ vaF), fOe (.inr v :: m) = fOe m := fun m => rfl
    rw [List.cons_append, h1, h1, fOe_a t r]
theorem fOe_r (f : Nat → Int ⊕ vaF) (n : Nat) : fOe ((List.range (n + 1)).map f) = if fOe ((List.range n).map f) = 0 then fOe [f n] else fOe ((List.range n).map f) := by
  rw [List.range_succ, List.map_append]
  exact fOe_a _ _
theorem fOe_l (e : Int) : fOe [.inl e] = e := by
  simp only [fOe]
  by_cases c : e = 0
  · rw [if_pos c, c]
  · rw [if_neg c]
/-- an op over lanes rs: ROOM; or a STEP more, and then the finding of the least lane that has one, or the value -/
def opX (σ σ' : sg_S) (K : Nat) (rs : List (Int ⊕ vaF)) (s : fSt) (q : Int) : Prop := (fStp (exF K (rs.map fOv)) s = none ∧ sg_g σ' 88 73 = 8 ∧ fcX σ' s) ∨ ∃ s1, fStp (exF K (rs.map fOv)) s = some s1 ∧ (sg_g σ' 88 73 = sg_g σ 88 73 ∧ fcX σ' s1 ∧ fqX σ' (fOe rs)) ∧ fEx σ σ' ∧ (fOe rs = 0 → sg_g σ' 88 91 ≤ 2 * sg_g σ' 88 85) ∧ sg_g σ' 88 87 ≤ sg_g σ 88 87 + 8 ∧ (fOe rs = 0 → ∃ R, fX σ' 6000 q K (rs.map fOv) R)
theorem fStp_s {a : Int} {s s' : fSt} (h : fStp a s = some s') : s'.1 = s.1 + 1 ∧ s'.2.1 = s.2.1 + a ∧ s'.2.2 = s.2.2 ∧ ¬ s.1 = 2000 ∧ s.2.1 + a ≤ 6000 := by
  unfold fStp at h
  by_cases c : s.1 = 2000 ∨ 6000 < s.2.1 + a
  · rw [if_pos c] at h; cases h
  · rw [if_neg c] at h
    cases h
    exact ⟨rfl, rfl, rfl, by omega, by omega⟩
theorem fcX_F {L : List Nat} {σ σ' : sg_S} {s : fSt} (f : sg_F L σ σ') (hL : (!sg_cv L 88 84 && !sg_cv L 88 85 && !sg_cv L 88 86) = true) (h : fcX σ s) : fcX σ' s := by
  simp only [Bool.and_eq_true, Bool.not_eq_true'] at hL
  obtain ⟨h1, h2, h3, h4⟩ := h
  exact ⟨by rw [sg_F_g f hL.1.1]; exact h1, by rw [sg_F_g f hL.1.2]; exact h2, by rw [sg_F_g f hL.2]; exact h3, h4⟩
theorem fqX_F {L : List Nat} {σ σ' : sg_S} {e : Int} (f : sg_F L σ σ') (hL : (!sg_cv L 88 102 && !sg_cv L 88 103) = true) (h : fqX σ e) : fqX σ' e := by
  simp only [Bool.and_eq_true, Bool.not_eq_true'] at hL
  unfold fqX
  rw [sg_F_g f hL.1, sg_F_g f hL.2]
  exact h
theorem fqX_i {σ : sg_S} {e e' : Int} (h : fqX σ e) (i : e' = e) : fqX σ e' := by rw [i]; exact h
section FXP
variable {σ : sg_S} {M v : Int} {d : Nat} {l : List vaF} {R : List (Int × Int)}
theorem fX_r (h : fX σ M v d l R) : ∃ r R', R = r :: R' ∧ R'.length = d ∧ r.2 = l.length ∧ fRw σ M r ∧ ∀ i : Nat, i < l.length → sg_g σ 142 (r.1 + i) = (l.getD i (nmF 0)) [] := by
  have hn := fX_n h
  obtain ⟨a1, a2, a3, a4⟩ := h
  cases R with
  | nil => simp at a2
  | cons r R' =>
    refine ⟨r, R', rfl, by simpa using a2, hn, a1.2.2.2.2.1, fun i hi => ?_⟩
    exact (a4 0 (Nat.zero_le _)).2 i _ (lvl0_i hi)
theorem fX_s (h : fX σ M v (d + 1) l R) : ∃ r r' R', R = r :: r' :: R' ∧ R'.length = d ∧ r.2 = l.length ∧ r'.2 = (flF l).length ∧ (∀ i : Nat, i < l.length → sg_g σ 142 (r.1 + i) = (l.getD i (nmF 0)) [] ∧ 0 ≤ (l.getD i (nmF 0)) [] ∧ (l.getD i (nmF 0)) [] ≤ 200) ∧ (∀ i : Nat, i < (flF l).length → sg_g σ 142 (r'.1 + i) = ((flF l).getD i (nmF 0)) []) ∧ fRw σ M r ∧ fRw σ M r' := by
  obtain ⟨r, R1, e, e2, e3, e4, e5⟩ := fX_r h
  subst e
  cases R1 with
  | nil => simp at e2
  | cons r' R' =>
    obtain ⟨a1, a2, a3, a4⟩ := h
    obtain ⟨b1, b2, b3⟩ := a1.2.2.2.2
    have n1 := (a4 1 (by omega)).1
    have c1 := (a4 1 (by omega)).2
    have n1' : ((flF l).length : Int) = r'.2 := by
      simp only [lvl, List.length_map] at n1
      exact n1
    refine ⟨r, r', R', rfl, by simpa using e2, e3, n1'.symm, fun i hi => ?_, fun i hi => c1 i _ (lvl0_i hi), b1, b3.1⟩
    have := b2.1 i (by omega) (by omega)
    rw [e5 i hi] at this
    exact ⟨e5 i hi, this⟩
theorem eX_F (h : fX σ M v d l R) : eX R = exF d l := by
  have key : ∀ (n j : Nat), j + n ≤ d → eD R (j + n + 1) = eD R j + lvS n l j := fun n => by
    induction n with
    | zero =>
      intro j hj
      simp only [eD, lvS, Nat.add_zero]
      rw [(h.2.2.2 j (by omega)).1]
    | succ n ih =>
      intro j hj
      have := ih (j + 1) (by omega)
      rw [show j + (n + 1) + 1 = j + 1 + n + 1 by omega, this]
      simp only [eD, lvS]
      rw [(h.2.2.2 j (by omega)).1]
      omega
  have := key d 0 (by omega)
  rw [eX_D, h.2.1, exF_l, show d + 1 = 0 + d + 1 by omega, this]
  simp only [eD]
  omega
theorem pRX {i : Nat} (h : fX σ M v d l R) (hc : sg_g σ 88 91 ≤ 60000 ∧ sg_g σ 88 87 ≤ 30000) (hi : i < l.length) : p_rowAt σ v (i : Int) ∧ v_rowAt σ v (i : Int) = (l.getD i (nmF 0)) [] := by
  obtain ⟨r, R', e, e2, e3, e4, e5⟩ := fX_r h
  subst e
  obtain ⟨pa, va⟩ := pR h.1 hc (i := (i : Int)) ⟨by omega, by omega⟩
  exact ⟨pa, va.trans (e5 i hi)⟩
theorem pRX_h {σb : sg_S} {i : Nat} {s t : Int} {b : Prop} {cl : List Int} {L : List Nat} (h : fX σb M v d l R) (hG : gHX σb (sg_g σb 88 91) b s t cl σ) (F : sg_F L σb σ) (hl : (sg_ca L 140 && !sg_cv L 88 87) = true) (hc : sg_g σb 88 91 + s ≤ 60000 ∧ sg_g σb 88 87 ≤ 30000) (hi : i < l.length) : p_rowAt σ v (i : Int) ∧ v_rowAt σ v (i : Int) = (l.getD i (nmF 0)) [] := by
  obtain ⟨r, R', e, e2, e3, e4, e5⟩ := fX_r h
  subst e
  obtain ⟨pa, va⟩ := pR_h h.1 hG.1 F hl hc (i := (i : Int)) ⟨by omega, by omega⟩
  exact ⟨pa, va.trans (e5 i hi)⟩
theorem it_len {v : vaF} (h : 0 ≤ v []) : ((itF v).length : Int) = v [] := by rw [itF_l]; omega
end FXP
