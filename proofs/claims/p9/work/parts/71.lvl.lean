/-! The levels of the parser. -/
theorem cE_d {c : tkC} {d d' j : Nat} {nest : Int} {pre : Int → Prop} {P : pF} (h : cE c d j nest pre P) (hd : d ≤ d') : cE c d' j nest pre P := fun z σ i τ h1 h2 h3 => wk_d hd (h z σ i τ h1 h2 h3)
theorem cL_d {c : tkC} {d d' j : Nat} {nest : Int} {P : Int → Nat → sg_S → Option (Nat × sg_S)} (h : cL c d j nest P) (hd : d ≤ d') : cL c d' j nest P := fun z σ k i τ h1 h2 h3 => wk_d hd (h z σ k i τ h1 h2 h3)
theorem cW_d {c : tkC} {d d' j : Nat} {nest : Int} {P : pF} (h : cW c d j nest P) (hd : d ≤ d') : cW c d' j nest P := fun z σ i τ h1 h2 h3 => wk_d hd (h z σ i τ h1 h2 h3)
theorem px_lvl (c : tkC) (hc : tkOK c) (d : Nat) (a1 : Int) (hn : 0 ≤ a1 ∧ a1 ≤ 12) (w : Bool) (hw : w = decide (a1 < 12)) (E U : pF) (hE : a1 < 12 → cE c d 174 (a1 + 1) (fun _ => True) E) (hU : a1 < 12 → cE c d 189 (a1 + 1) (fun _ => True) U) : cE c (d + 68) 174 a1 (fun _ => True) (pExpr c w E (pCmL c w E U)) ∧ cE c (d + 68) 189 a1 (fun _ => True) (pUnL c w E U) := by
  have hL : a1 < 12 → cL c (d + 9) 180 (a1 + 1) (fun k i τ => pListL c E k 201 i τ) := fun h => cL_d (px_lst c hc d (a1 + 1) (by omega) E (hE h)) (by omega)
  have hG : a1 < 12 → cL c (d + 9) 176 (a1 + 1) (fun k i τ => pGenL c E k 5 i τ) := fun h => cL_d (px_gen c hc d (a1 + 1) (by omega) E (hE h)) (by omega)
  have w1 := px_wrd c hc _ a1 hn w hw E hL
  have w2 := fun h => px_row c hc _ a1 hn E (hL h)
  have w3 := fun h => px_ech c hc _ a1 hn E (cE_d (hE h) (show d ≤ d + 9 by omega)) (hG h)
  have w4 := fun h => px_let c hc _ a1 hn E (hE h)
  have w5 := fun h => px_cho c hc _ a1 hn E (hE h)
  have hA := px_atm c hc (d + 19) a1 hn w hw E (fun h => cE_d (hE h) (by omega)) (cW_d w1 (by omega)) (fun h => cE_d (w2 h) (by omega)) (fun h => cE_d (w3 h) (by omega))
  have hI := px_itm c hc (d + 25) a1 hn w hw E (fun h => cE_d (hE h) (by omega)) (pAtom c w E) (cE_d hA (by omega))
  have hUn := px_una c hc (d + 34) a1 hn w hw U (pItem c w E (pAtom c w E)) (fun h => cE_d (hU h) (by omega)) (cE_d hI (by omega))
  have hP := px_prd c hc (d + 40) a1 hn (pUnL c w E U) (cE_d hUn (by omega))
  have hS := px_sum c hc (d + 46) a1 hn (pRow c pqP (pUnL c w E U)) (cE_d hP (by omega))
  have hC := px_cmp c hc (d + 52) a1 hn (pRow c pqS (pRow c pqP (pUnL c w E U))) (cE_d hS (by omega))
  have hX := px_xpr c hc (d + 59) a1 hn w hw E (pCmL c w E U) (cE_d hC (by omega)) (fun h => cE_d (w4 h) (by omega)) (fun h => cE_d (w5 h) (by omega))
  exact ⟨cE_d hX (by omega), cE_d hUn (by omega)⟩
theorem px_lv (c : tkC) (hc : tkOK c) : ∀ f : Nat, f ≤ 12 → cE c (68 * f + 68) 174 (12 - f) (fun _ => True) (pLv c f).1 ∧ cE c (68 * f + 68) 189 (12 - f) (fun _ => True) (pLv c f).2
  | 0, _ => by
    have h := px_lvl c hc 0 12 (by omega) false (by decide) (fun _ _ => none) (fun _ _ => none) (fun h => absurd h (by omega)) (fun h => absurd h (by omega))
    exact ⟨cE_d h.1 (by omega), cE_d h.2 (by omega)⟩
  | f + 1, hf => by
    have ih := px_lv c hc f (by omega)
    have e : (12 : Int) - ((f + 1 : Nat) : Int) + 1 = 12 - (f : Int) := by omega
    have h := px_lvl c hc (68 * f + 68) (12 - ((f + 1 : Nat) : Int)) (by omega) true (by rw [eq_comm]; exact decide_eq_true (by omega)) (pLv c f).1 (pLv c f).2 (fun _ => by rw [e]; exact ih.1) (fun _ => by rw [e]; exact ih.2)
    exact ⟨cE_d h.1 (by omega), cE_d h.2 (by omega)⟩
