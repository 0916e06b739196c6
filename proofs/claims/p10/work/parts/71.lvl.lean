/-! The levels of the parser. -/
theorem cE_d {c : tkC} {d d' j : Nat} {nest : Int} {pre : Int → Prop} {P : pF} (h : cE c d j nest pre P) (hd : d ≤ d') : cE c d' j nest pre P := fun z σ i τ h1 h2 h3 => wk_d hd (h z σ i τ h1 h2 h3)
theorem cL_d {c : tkC} {d d' j : Nat} {nest : Int} {P : Int → Nat → sg_S → Option (Nat × sg_S)} (h : cL c d j nest P) (hd : d ≤ d') : cL c d' j nest P := fun z σ k i τ h1 h2 h3 => wk_d hd (h z σ k i τ h1 h2 h3)
theorem cW_d {c : tkC} {d d' j : Nat} {nest : Int} {P : pF} (h : cW c d j nest P) (hd : d ≤ d') : cW c d' j nest P := fun z σ i τ h1 h2 h3 => wk_d hd (h z σ i τ h1 h2 h3)
theorem px_lvl (c : tkC) (hc : tkOK c) (d : Nat) (a1 : Int) (hn : 0 ≤ a1 ∧ a1 ≤ 12) (w : Bool) (hw : w = decide (a1 < 12)) (E U : pF) (hE : a1 < 12 → cE c d 174 (a1 + 1) (fun _ => True) E) (hU : a1 < 12 → cE c d 189 (a1 + 1) (fun _ => True) U) : cE c (d + 68) 174 a1 (fun _ => True) (pExpr c w E (pCmL c w E U)) ∧ cE c (d + 68) 189 a1 (fun _ => True) (pUnL c w E U) := by
  have hL : a1 < 12 → cL c (d + 9) 180 (a1 + 1) (fun k i τ => pListL c E k 201 i τ) := fun h => cL_d (px_lst c hc d (a1 + 1) (by omega) E (hE h)) (by omega)
  have hG : a1 < 12 → cL c (d + 9) 176 (a1 + 1) (fun k i τ => pGenL c E k 5 i τ) := fun h => cL_d (px_gen c hc d (a1 + 1) (by omega) E (hE h)) (by omega)
  have w1 := px_wrd c hc _ a1 hn w hw E hL
  have w2 := fun h => px_row c hc _ a1 hn E (hL h)
  have w3 := fun h => px_ech c hc _ a1 hn E (cE_d (hE h) (show d ≤ d + 9 by omega)) (hG h)
  have w4 := fun h => px_let c hc _ a1 hn E (hE h)
  have w5 := fun h => px_cho c hc _ a1 hn E (hE h)
  have hA := px_atm c hc (d + 19) a1 hn w hw E (fun h => cE_d (hE h) (by omega)) (cW_d w1 (by omega)) (fun h => cE_d (w2 h) (by omega)) (fun h => cE_d (w3 h) (by omega))
  have hI := px_itm c hc (d + 25) a1 hn w hw E (fun h => cE_d (hE h) (by omega)) (pAtom c w E) (cE_d hA (by omega))
  have hUn := px_una c hc (d + 34) a1 hn w hw U (pItem c w E (pAtom c w E)) (fun h => cE_d (hU h) (by omega)) (cE_d hI (by omega))
  have hP := px_prd c hc (d + 40) a1 hn (pUnL c w E U) (cE_d hUn (by omega))
  have hS := px_sum c hc (d + 46) a1 hn (pRow c pqP (pUnL c w E U)) (cE_d hP (by omega))
  have hC := px_cmp c hc (d + 52) a1 hn (pRow c pqS (pRow c pqP (pUnL c w E U))) (cE_d hS (by omega))
  have hX := px_xpr c hc (d + 59) a1 hn w hw E (pCmL c w E U) (cE_d hC (by omega)) (fun h => cE_d (w4 h) (by omega)) (fun h => cE_d (w5 h) (by omega))
  exact ⟨cE_d hX (by omega), cE_d hUn (by omega)⟩
theorem px_lv (c : tkC) (hc : tkOK c) : ∀ f : Nat, f ≤ 12 → cE c (68 * f + 68) 174 (12 - f) (fun _ => True) (pLv c f).1 ∧ cE c (68 * f + 68) 189 (12 - f) (fun _ => True) (pLv c f).2
  | 0, _ => by
    have h := px_lvl c hc 0 12 (by omega) false (by decide) (fun _ _ => none) (fun _ _ => none) (fun h => absurd h (by omega)) (fun h => absurd h (by omega))
    exact ⟨cE_d h.1 (by omega), cE_d h.2 (by omega)⟩
  | f + 1, hf => by
    have ih := px_lv c hc f (by omega)
    have e : (12 : Int) - ((f + 1 : Nat) : Int) + 1 = 12 - (f : Int) := by omega
    have h := px_lvl c hc (68 * f + 68) (12 - ((f + 1 : Nat) : Int)) (by omega) true (by rw [eq_comm]; exact decide_eq_true (by omega)) (pLv c f).1 (pLv c f).2 (fun _ => by rw [e]; exact ih.1) (fun _ => by rw [e]; exact ih.2)
    exact ⟨cE_d h.1 (by omega), cE_d h.2 (by omega)⟩
/-! DEFS and the whole, told over tokens. -/
section PDF
variable (c : tkC)
def pTyL : Nat → Int → Nat → Nat × Int
  | 0, dp, i => (i, dp)
  | m + 1, dp, i => if tK c i = 91 then pTyL m (dp + 1) (i + 1) else (i, dp)
def pTyR : Nat → Nat → Option Nat
  | 0, i => some i
  | m + 1, i => if tK c i = 93 then pTyR m (i + 1) else none
def pTyF (dp : Int) (r : Option Nat) : Option (Nat × Int) := match r with
  | none => none
  | some i' => some (i', dp)
def pTyE (r : Nat × Int) : Option (Nat × Int) := if tK c r.1 = 258 then (if tW c r.1 = 6909556 then pTyF r.2 (pTyR c r.2.toNat (r.1 + 1)) else none) else none
def pType (i : Nat) : Option (Nat × Int) := pTyE c (pTyL c 12 0 i)
def pDAdd (τ : sg_S) (w p : Int) : sg_S := sg_w (sx_put (sx_put (sx_putl τ 20 12 (sg_g τ 19 8) w) 21 12 (sg_g τ 19 8) p) 23 12 (sg_g τ 19 8) 0) 19 8 (sg_g τ 19 8 + 1)
def pDPar (τ : sg_S) (d w p : Int) : sg_S := sx_put (sx_put (sx_putl τ 25 72 (sg_n (d * 6 + sx_at τ 23 12 d)) w) 26 72 (sg_n (d * 6 + sx_at τ 23 12 d)) p) 23 12 d (sx_at (sx_put (sx_putl τ 25 72 (sg_n (d * 6 + sx_at τ 23 12 d)) w) 26 72 (sg_n (d * 6 + sx_at τ 23 12 d)) p) 23 12 d + 1)
def pTitle (d : Int) (i : Nat) (τ : sg_S) : Option (Nat × sg_S) := if 12 ≤ d then none else (if tK c (i + 1) = 258 then (if tK c (i + 1 + 1) = 40 then some (i + 1 + 1 + 1, pDAdd τ (tW c (i + 1)) (tPl c (i + 1))) else none) else none)
def pParL (d : Int) : Nat → Nat → sg_S → Option (Nat × sg_S)
  | 0, i, τ => some (i, τ)
  | m + 1, i, τ => if tK c i = 258 ∧ ¬ m = 0 then (if tK c (i + 1) = 58 then (match pType c (i + 1 + 1) with
    | none => none
    | some (i1, dp) => if tK c i1 = 44 then pParL d m (i1 + 1) (sx_put (pDPar τ d (tW c i) (tPl c i)) 27 72 (d * 6 + (6 - m)) dp) else some (i1, sx_put (pDPar τ d (tW c i) (tPl c i)) 27 72 (d * 6 + (6 - m)) dp)) else none) else none
def pParE (r : Option (Nat × sg_S)) : Option (Nat × sg_S) := match r with
  | none => none
  | some (i1, τ1) => if tK c i1 = 41 then some (i1 + 1, τ1) else none
def pPars (d : Int) (i : Nat) (τ : sg_S) : Option (Nat × sg_S) := pParE c (if tK c i = 41 then some (i, τ) else pParL c d 7 i τ)
def pMean (E : pF) (d : Int) (i : Nat) (τ : sg_S) : Option (Nat × sg_S) := if tK c i = 61 then (match E (i + 1) τ with
  | none => none
  | some (i1, τ1, r) => if tK c i1 = 59 then some (i1 + 1, sx_put τ1 22 12 d r) else none) else none
def pDefs (E : pF) : Nat → Nat → sg_S → Option (Nat × sg_S)
  | 0, i, τ => some (i, τ)
  | m + 1, i, τ => if tK c i = 261 then (match pTitle c (12 - m) i τ with
    | none => none
    | some (i1, τ1) => match pPars c (12 - m) i1 τ1 with
      | none => none
      | some (i2, τ2) => match pMean c E (12 - m) i2 τ2 with
        | none => none
        | some (i3, τ3) => pDefs E m i3 τ3) else some (i, τ)
def pRest (E : pF) (r : Option (Nat × sg_S)) : Option (sg_S × Int) := match r with
  | none => none
  | some (i1, τ1) => match E i1 τ1 with
    | none => none
    | some (i2, τ2, r) => if tK c i2 = 256 then some (τ2, r) else none
def pParse (E : pF) (τ : sg_S) : Option (sg_S × Int) := pRest c E (pDefs c E 13 0 (sg_w (sg_w τ 2 16 0) 19 8 0))
end PDF
abbrev pL1 : List Nat := [3, 4, 5, 6, 7, 8, 9, 10, 11, 12, 13, 14, 15, 16, 17, 18, 20, 21, 22, 23, 24, 25, 26, 27, 4035, 4036, 5036, 6036, 7036, 8036, 9019, 17002]
/-- a DEF's piece: it answers nothing -/
def cD (c : tkC) (d j : Nat) (dd : Int) (pre : Int → Prop) (P : Nat → sg_S → Option (Nat × sg_S)) : Prop := ∀ (z : Value) (σ : sg_S) (i : Nat) (τ : sg_S), te σ τ → tk c σ i → pre (tK c i) → wx z d j 0 [(0, .inr (.inr (.ref 35))), (1, .inl dd)] [] σ (pqN pL1 c (P i τ) σ)
-- NestedVectors$Defs.add
set_option maxRecDepth 8000 in
theorem px_dad (z : Value) (σ : sg_S) (w1 : Int) (a3 : Int) (τ : sg_S) (ht : te σ τ) (ra3 : sg_R a3) : wx z 1 46 0 [(0, .inr (.inr (.ref 19))), (1, .inr (.inl (w1))), (3, .inl (a3))] [] σ (fun v σ' => v = none ∧ sg_F [20, 21, 23, 9019] σ σ' ∧ te σ' (pDAdd τ (w1) (a3))) := by
  refine wk_b tt_46 5 (pc' := 9) (ls' := [(0, .inr (.inr (.ref 19))), (1, .inr (.inl (w1))), (3, .inl (a3))]) (st' := [.inr (.inl (w1)), .inl ((sg_g σ 19 8)), .inr (.inr (.ref 20))]) (σ' := σ) rfl ?_
  have r1 := sg_Rg τ 19 8
  rw [show (sg_g σ 19 8) = (sg_g τ 19 8) from by rw [ag_g ht rfl]]
  refine wk_callp (v0 := none) (σ1 := (sx_putl σ 20 12 ((sg_g τ 19 8)) (w1))) tt_46 rfl rfl rfl rfl rfl tt_22 rfl (by decide) (pt_l0 z σ 20 12 ((sg_g τ 19 8)) (w1) rfl (by decide) (by omega)) ?_
  refine wk_b tt_46 5 (pc' := 21) (ls' := [(0, .inr (.inr (.ref 19))), (1, .inr (.inl (w1))), (3, .inl (a3))]) (st' := [.inl (a3), .inl ((sg_g (sx_putl σ 20 12 ((sg_g τ 19 8)) (w1)) 19 8)), .inr (.inr (.ref 21))]) (σ' := (sx_putl σ 20 12 ((sg_g τ 19 8)) (w1))) rfl ?_
  rw [show (sg_g (sx_putl σ 20 12 ((sg_g τ 19 8)) (w1)) 19 8) = (sg_g τ 19 8) from by rw [sx_putlx_c _ _ _ _ _ _ _ (by decide), ag_g ht rfl]]
  refine wk_callp (v0 := none) (σ1 := (sx_put (sx_putl σ 20 12 ((sg_g τ 19 8)) (w1)) 21 12 ((sg_g τ 19 8)) (a3))) tt_46 rfl rfl rfl rfl rfl tt_21 rfl (by decide) (pt_i0 z (sx_putl σ 20 12 ((sg_g τ 19 8)) (w1)) 21 12 ((sg_g τ 19 8)) (a3) rfl (by decide) (by omega)) ?_
  refine wk_b tt_46 5 (pc' := 33) (ls' := [(0, .inr (.inr (.ref 19))), (1, .inr (.inl (w1))), (3, .inl (a3))]) (st' := [.inl (0), .inl ((sg_g (sx_put (sx_putl σ 20 12 ((sg_g τ 19 8)) (w1)) 21 12 ((sg_g τ 19 8)) (a3)) 19 8)), .inr (.inr (.ref 23))]) (σ' := (sx_put (sx_putl σ 20 12 ((sg_g τ 19 8)) (w1)) 21 12 ((sg_g τ 19 8)) (a3))) rfl ?_
  rw [show (sg_g (sx_put (sx_putl σ 20 12 ((sg_g τ 19 8)) (w1)) 21 12 ((sg_g τ 19 8)) (a3)) 19 8) = (sg_g τ 19 8) from by rw [sx_put_c _ _ _ _ _ _ _ (by decide), sx_putlx_c _ _ _ _ _ _ _ (by decide), ag_g ht rfl]]
  refine wk_callp (v0 := none) (σ1 := (sx_put (sx_put (sx_putl σ 20 12 ((sg_g τ 19 8)) (w1)) 21 12 ((sg_g τ 19 8)) (a3)) 23 12 ((sg_g τ 19 8)) (0))) tt_46 rfl rfl rfl rfl rfl tt_21 rfl (by decide) (pt_i0 z (sx_put (sx_putl σ 20 12 ((sg_g τ 19 8)) (w1)) 21 12 ((sg_g τ 19 8)) (a3)) 23 12 ((sg_g τ 19 8)) (0) rfl (by decide) (by omega)) ?_
  refine wk_b tt_46 6 (pc' := 46) (ls' := [(0, .inr (.inr (.ref 19))), (1, .inr (.inl (w1))), (3, .inl (a3))]) (st' := []) (σ' := (sg_w (sx_put (sx_put (sx_putl σ 20 12 ((sg_g τ 19 8)) (w1)) 21 12 ((sg_g τ 19 8)) (a3)) 23 12 ((sg_g τ 19 8)) (0)) 19 8 (((sg_g (sx_put (sx_put (sx_putl σ 20 12 ((sg_g τ 19 8)) (w1)) 21 12 ((sg_g τ 19 8)) (a3)) 23 12 ((sg_g τ 19 8)) (0)) 19 8) + 1)))) rfl ?_
  rw [show (sg_g (sx_put (sx_put (sx_putl σ 20 12 ((sg_g τ 19 8)) (w1)) 21 12 ((sg_g τ 19 8)) (a3)) 23 12 ((sg_g τ 19 8)) (0)) 19 8) = (sg_g τ 19 8) from by rw [sx_put_c _ _ _ _ _ _ _ (by decide), sx_put_c _ _ _ _ _ _ _ (by decide), sx_putlx_c _ _ _ _ _ _ _ (by decide), ag_g ht rfl]]
  refine wk_rV tt_46 rfl rfl ?_
  exact ⟨rfl, (sg_F_w (sg_F_p (sg_F_p (sg_F_pl (sg_F_r [20, 21, 23, 9019] σ) rfl _ _ _) rfl _ _ _) rfl _ _ _) rfl _), (ag_w (ag_p (ag_p (ag_pl ht _ _ _ _) _ _ _ _) _ _ _ _) _ _ _)⟩
-- NestedVectors$Defs.addParam
set_option maxRecDepth 8000 in
theorem px_dpa (z : Value) (σ : sg_S) (a1 : Int) (w2 : Int) (a4 : Int) (τ : sg_S) (ht : te σ τ) (ra1 : sg_R a1) (ra4 : sg_R a4) : wx z 1 47 0 [(0, .inr (.inr (.ref 19))), (1, .inl (a1)), (2, .inr (.inl (w2))), (4, .inl (a4))] [] σ (fun v σ' => v = none ∧ sg_F [23, 25, 26] σ σ' ∧ te σ' (pDPar τ (a1) (w2) (a4))) := by
  refine wk_b tt_47 6 (pc' := 9) (ls' := [(0, .inr (.inr (.ref 19))), (1, .inl (a1)), (2, .inr (.inl (w2))), (4, .inl (a4))]) (st' := [.inl (a1), .inr (.inr (.ref 23)), .inl ((a1 * 6))]) (σ' := σ) rfl ?_
  refine wk_callp (v0 := some (.inl (sx_at σ 23 12 (a1)))) (σ1 := σ) tt_47 rfl rfl rfl rfl rfl tt_5 rfl (by decide) (at_i0 z σ 23 12 (a1) rfl (by decide) (by omega)) ?_
  rw [show (sx_at σ 23 12 (a1)) = (sx_at τ 23 12 (a1)) from ag_at ht rfl _ _]
  have r1 := sx_at_R τ 23 12 (a1)
  refine wk_b tt_47 6 (pc' := 22) (ls' := [(5, .inl (((a1 * 6) + (sx_at τ 23 12 (a1))))), (0, .inr (.inr (.ref 19))), (1, .inl (a1)), (2, .inr (.inl (w2))), (4, .inl (a4))]) (st' := [.inr (.inl (w2)), .inl (((a1 * 6) + (sx_at τ 23 12 (a1)))), .inr (.inr (.ref 25))]) (σ' := σ) rfl ?_
  refine wk_callp (v0 := none) (σ1 := (sx_putl σ 25 72 (sg_n (((a1 * 6) + (sx_at τ 23 12 (a1))))) (w2))) tt_47 rfl rfl rfl rfl rfl tt_22 rfl (by decide) (pt_l z σ 25 72 (((a1 * 6) + (sx_at τ 23 12 (a1)))) (w2) rfl (by decide)) ?_
  refine wk_b tt_47 4 (pc' := 33) (ls' := [(5, .inl (((a1 * 6) + (sx_at τ 23 12 (a1))))), (0, .inr (.inr (.ref 19))), (1, .inl (a1)), (2, .inr (.inl (w2))), (4, .inl (a4))]) (st' := [.inl (a4), .inl (((a1 * 6) + (sx_at τ 23 12 (a1)))), .inr (.inr (.ref 26))]) (σ' := (sx_putl σ 25 72 (sg_n (((a1 * 6) + (sx_at τ 23 12 (a1))))) (w2))) rfl ?_
  refine wk_callp (v0 := none) (σ1 := (sx_put (sx_putl σ 25 72 (sg_n (((a1 * 6) + (sx_at τ 23 12 (a1))))) (w2)) 26 72 (sg_n (((a1 * 6) + (sx_at τ 23 12 (a1))))) (a4))) tt_47 rfl rfl rfl rfl rfl tt_21 rfl (by decide) (pt_i z (sx_putl σ 25 72 (sg_n (((a1 * 6) + (sx_at τ 23 12 (a1))))) (w2)) 26 72 (((a1 * 6) + (sx_at τ 23 12 (a1)))) (a4) rfl (by decide)) ?_
  refine wk_b tt_47 6 (pc' := 46) (ls' := [(5, .inl (((a1 * 6) + (sx_at τ 23 12 (a1))))), (0, .inr (.inr (.ref 19))), (1, .inl (a1)), (2, .inr (.inl (w2))), (4, .inl (a4))]) (st' := [.inl (a1), .inr (.inr (.ref 23)), .inl (a1), .inr (.inr (.ref 23))]) (σ' := (sx_put (sx_putl σ 25 72 (sg_n (((a1 * 6) + (sx_at τ 23 12 (a1))))) (w2)) 26 72 (sg_n (((a1 * 6) + (sx_at τ 23 12 (a1))))) (a4))) rfl ?_
  refine wk_callp (v0 := some (.inl (sx_at (sx_put (sx_putl σ 25 72 (sg_n (((a1 * 6) + (sx_at τ 23 12 (a1))))) (w2)) 26 72 (sg_n (((a1 * 6) + (sx_at τ 23 12 (a1))))) (a4)) 23 12 (a1)))) (σ1 := (sx_put (sx_putl σ 25 72 (sg_n (((a1 * 6) + (sx_at τ 23 12 (a1))))) (w2)) 26 72 (sg_n (((a1 * 6) + (sx_at τ 23 12 (a1))))) (a4))) tt_47 rfl rfl rfl rfl rfl tt_5 rfl (by decide) (at_i0 z (sx_put (sx_putl σ 25 72 (sg_n (((a1 * 6) + (sx_at τ 23 12 (a1))))) (w2)) 26 72 (sg_n (((a1 * 6) + (sx_at τ 23 12 (a1))))) (a4)) 23 12 (a1) rfl (by decide) (by omega)) ?_
  rw [show (sx_at (sx_put (sx_putl σ 25 72 (sg_n (((a1 * 6) + (sx_at τ 23 12 (a1))))) (w2)) 26 72 (sg_n (((a1 * 6) + (sx_at τ 23 12 (a1))))) (a4)) 23 12 (a1)) = (sx_at (sx_put (sx_putl τ 25 72 (sg_n (((a1 * 6) + (sx_at τ 23 12 (a1))))) (w2)) 26 72 (sg_n (((a1 * 6) + (sx_at τ 23 12 (a1))))) (a4)) 23 12 (a1)) from ag_at (ag_p (ag_pl ht _ _ _ _) _ _ _ _) rfl _ _]
  have r2 := sx_at_R (sx_put (sx_putl τ 25 72 (sg_n (((a1 * 6) + (sx_at τ 23 12 (a1))))) (w2)) 26 72 (sg_n (((a1 * 6) + (sx_at τ 23 12 (a1))))) (a4)) 23 12 (a1)
  refine wk_b tt_47 2 (pc' := 51) (ls' := [(5, .inl (((a1 * 6) + (sx_at τ 23 12 (a1))))), (0, .inr (.inr (.ref 19))), (1, .inl (a1)), (2, .inr (.inl (w2))), (4, .inl (a4))]) (st' := [.inl (((sx_at (sx_put (sx_putl τ 25 72 (sg_n (((a1 * 6) + (sx_at τ 23 12 (a1))))) (w2)) 26 72 (sg_n (((a1 * 6) + (sx_at τ 23 12 (a1))))) (a4)) 23 12 (a1)) + 1)), .inl (a1), .inr (.inr (.ref 23))]) (σ' := (sx_put (sx_putl σ 25 72 (sg_n (((a1 * 6) + (sx_at τ 23 12 (a1))))) (w2)) 26 72 (sg_n (((a1 * 6) + (sx_at τ 23 12 (a1))))) (a4))) rfl ?_
  refine wk_callp (v0 := none) (σ1 := (sx_put (sx_put (sx_putl σ 25 72 (sg_n (((a1 * 6) + (sx_at τ 23 12 (a1))))) (w2)) 26 72 (sg_n (((a1 * 6) + (sx_at τ 23 12 (a1))))) (a4)) 23 12 (a1) (((sx_at (sx_put (sx_putl τ 25 72 (sg_n (((a1 * 6) + (sx_at τ 23 12 (a1))))) (w2)) 26 72 (sg_n (((a1 * 6) + (sx_at τ 23 12 (a1))))) (a4)) 23 12 (a1)) + 1)))) tt_47 rfl rfl rfl rfl rfl tt_21 rfl (by decide) (pt_i0 z (sx_put (sx_putl σ 25 72 (sg_n (((a1 * 6) + (sx_at τ 23 12 (a1))))) (w2)) 26 72 (sg_n (((a1 * 6) + (sx_at τ 23 12 (a1))))) (a4)) 23 12 (a1) (((sx_at (sx_put (sx_putl τ 25 72 (sg_n (((a1 * 6) + (sx_at τ 23 12 (a1))))) (w2)) 26 72 (sg_n (((a1 * 6) + (sx_at τ 23 12 (a1))))) (a4)) 23 12 (a1)) + 1)) rfl (by decide) (by omega)) ?_
  refine wk_rV tt_47 rfl rfl ?_
  exact ⟨rfl, (sg_F_p (sg_F_p (sg_F_pl (sg_F_r [23, 25, 26] σ) rfl _ _ _) rfl _ _ _) rfl _ _ _), (ag_p (ag_p (ag_pl ht _ _ _ _) _ _ _ _) _ _ _ _)⟩
-- NestedVectors$Defs.add x.defs a1 a2
set_option maxRecDepth 8000 in
theorem bq_0 (z : Value) (σ : sg_S) (a1 : Int) (a2 : Int) : wx z 1 46 0 [(0, .inr (.inr (.ref 19))), (1, .inr (.inl (a1))), (3, .inl (a2))] [] σ (fun v σ' => v = none ∧ sg_F [19, 20, 21, 23] σ σ') := by
  have hF0 := sg_F_r [19, 20, 21, 23] σ
  refine wk_b tt_46 5 (pc' := 9) (ls' := [(0, .inr (.inr (.ref 19))), (1, .inr (.inl (a1))), (3, .inl (a2))]) (st' := [.inr (.inl (a1)), .inl ((sg_g σ 19 8)), .inr (.inr (.ref 20))]) (σ' := σ) rfl ?_
  refine wk_callp tt_46 rfl rfl rfl rfl rfl tt_22 rfl (by decide) (pt_l z σ 20 12 ((sg_g σ 19 8)) (a1) rfl (by decide)) ?_
  have hF4 : sg_F [19, 20, 21, 23] σ (sx_putl σ 20 12 (sg_n ((sg_g σ 19 8))) (a1)) := sg_F_pl hF0 rfl _ _ _
  generalize (sx_putl σ 20 12 (sg_n ((sg_g σ 19 8))) (a1)) = σ5 at hF4 ⊢
  refine wk_b tt_46 5 (pc' := 21) (ls' := [(0, .inr (.inr (.ref 19))), (1, .inr (.inl (a1))), (3, .inl (a2))]) (st' := [.inl (a2), .inl ((sg_g σ5 19 8)), .inr (.inr (.ref 21))]) (σ' := σ5) rfl ?_
  refine wk_callp tt_46 rfl rfl rfl rfl rfl tt_21 rfl (by decide) (pt_i z σ5 21 12 ((sg_g σ5 19 8)) (a2) rfl (by decide)) ?_
  have hF9 : sg_F [19, 20, 21, 23] σ (sx_put σ5 21 12 (sg_n ((sg_g σ5 19 8))) (a2)) := sg_F_p hF4 rfl _ _ _
  generalize (sx_put σ5 21 12 (sg_n ((sg_g σ5 19 8))) (a2)) = σ10 at hF9 ⊢
  refine wk_b tt_46 5 (pc' := 33) (ls' := [(0, .inr (.inr (.ref 19))), (1, .inr (.inl (a1))), (3, .inl (a2))]) (st' := [.inl (0), .inl ((sg_g σ10 19 8)), .inr (.inr (.ref 23))]) (σ' := σ10) rfl ?_
  refine wk_callp tt_46 rfl rfl rfl rfl rfl tt_21 rfl (by decide) (pt_i z σ10 23 12 ((sg_g σ10 19 8)) (0) rfl (by decide)) ?_
  have hF14 : sg_F [19, 20, 21, 23] σ (sx_put σ10 23 12 (sg_n ((sg_g σ10 19 8))) (0)) := sg_F_p hF9 rfl _ _ _
  generalize (sx_put σ10 23 12 (sg_n ((sg_g σ10 19 8))) (0)) = σ15 at hF14 ⊢
  refine wk_b tt_46 6 (pc' := 46) (ls' := [(0, .inr (.inr (.ref 19))), (1, .inr (.inl (a1))), (3, .inl (a2))]) (st' := []) (σ' := (sg_w σ15 19 8 (((sg_g σ15 19 8) + 1)))) rfl ?_
  have hF16 : sg_F [19, 20, 21, 23] σ (sg_w σ15 19 8 (((sg_g σ15 19 8) + 1))) := (sg_F_w hF14 rfl _)
  generalize (sg_w σ15 19 8 (((sg_g σ15 19 8) + 1))) = σ17 at hF16 ⊢
  exact wk_rV tt_46 rfl rfl ⟨rfl, hF16⟩
-- NestedVectors$Defs.addParam x.defs a1 a2 a3
set_option maxRecDepth 8000 in
theorem bq_1 (z : Value) (σ : sg_S) (a1 : Int) (a2 : Int) (a3 : Int) : wx z 1 47 0 [(0, .inr (.inr (.ref 19))), (1, .inl (a1)), (2, .inr (.inl (a2))), (4, .inl (a3))] [] σ (fun v σ' => v = none ∧ sg_F [23, 25, 26] σ σ') := by
  have hF0 := sg_F_r [23, 25, 26] σ
  refine wk_b tt_47 6 (pc' := 9) (ls' := [(0, .inr (.inr (.ref 19))), (1, .inl (a1)), (2, .inr (.inl (a2))), (4, .inl (a3))]) (st' := [.inl (a1), .inr (.inr (.ref 23)), .inl ((a1 * 6))]) (σ' := σ) rfl ?_
  refine wk_callp tt_47 rfl rfl rfl rfl rfl tt_5 rfl (by decide) (at_i z σ 23 12 (a1) rfl (by decide)) ?_
  generalize sx_at σ 23 12 (sg_n (a1)) = q4
  refine wk_b tt_47 6 (pc' := 22) (ls' := [(5, .inl (((a1 * 6) + q4))), (0, .inr (.inr (.ref 19))), (1, .inl (a1)), (2, .inr (.inl (a2))), (4, .inl (a3))]) (st' := [.inr (.inl (a2)), .inl (((a1 * 6) + q4)), .inr (.inr (.ref 25))]) (σ' := σ) rfl ?_
  refine wk_callp tt_47 rfl rfl rfl rfl rfl tt_22 rfl (by decide) (pt_l z σ 25 72 (((a1 * 6) + q4)) (a2) rfl (by decide)) ?_
  have hF8 : sg_F [23, 25, 26] σ (sx_putl σ 25 72 (sg_n (((a1 * 6) + q4))) (a2)) := sg_F_pl hF0 rfl _ _ _
  generalize (sx_putl σ 25 72 (sg_n (((a1 * 6) + q4))) (a2)) = σ9 at hF8 ⊢
  refine wk_b tt_47 4 (pc' := 33) (ls' := [(5, .inl (((a1 * 6) + q4))), (0, .inr (.inr (.ref 19))), (1, .inl (a1)), (2, .inr (.inl (a2))), (4, .inl (a3))]) (st' := [.inl (a3), .inl (((a1 * 6) + q4)), .inr (.inr (.ref 26))]) (σ' := σ9) rfl ?_
  refine wk_callp tt_47 rfl rfl rfl rfl rfl tt_21 rfl (by decide) (pt_i z σ9 26 72 (((a1 * 6) + q4)) (a3) rfl (by decide)) ?_
  have hF13 : sg_F [23, 25, 26] σ (sx_put σ9 26 72 (sg_n (((a1 * 6) + q4))) (a3)) := sg_F_p hF8 rfl _ _ _
  generalize (sx_put σ9 26 72 (sg_n (((a1 * 6) + q4))) (a3)) = σ14 at hF13 ⊢
  refine wk_b tt_47 6 (pc' := 46) (ls' := [(5, .inl (((a1 * 6) + q4))), (0, .inr (.inr (.ref 19))), (1, .inl (a1)), (2, .inr (.inl (a2))), (4, .inl (a3))]) (st' := [.inl (a1), .inr (.inr (.ref 23)), .inl (a1), .inr (.inr (.ref 23))]) (σ' := σ14) rfl ?_
  refine wk_callp tt_47 rfl rfl rfl rfl rfl tt_5 rfl (by decide) (at_i z σ14 23 12 (a1) rfl (by decide)) ?_
  generalize sx_at σ14 23 12 (sg_n (a1)) = q18
  refine wk_b tt_47 2 (pc' := 51) (ls' := [(5, .inl (((a1 * 6) + q4))), (0, .inr (.inr (.ref 19))), (1, .inl (a1)), (2, .inr (.inl (a2))), (4, .inl (a3))]) (st' := [.inl ((q18 + 1)), .inl (a1), .inr (.inr (.ref 23))]) (σ' := σ14) rfl ?_
  refine wk_callp tt_47 rfl rfl rfl rfl rfl tt_21 rfl (by decide) (pt_i z σ14 23 12 (a1) ((q18 + 1)) rfl (by decide)) ?_
  have hF22 : sg_F [23, 25, 26] σ (sx_put σ14 23 12 (sg_n (a1)) ((q18 + 1))) := sg_F_p hF13 rfl _ _ _
  generalize (sx_put σ14 23 12 (sg_n (a1)) ((q18 + 1))) = σ23 at hF22 ⊢
  exact wk_rV tt_47 rfl rfl ⟨rfl, hF22⟩
-- NestedVectors$Parser.type
set_option maxRecDepth 8000 in
theorem px_typ (z : Value) (σ : sg_S) (c : tkC) (hc : tkOK c) (i : Nat) (τ : sg_S) (ht : te σ τ) (hk : tk c σ i) : wx z 6 188 0 [(0, .inr (.inr (.ref 35)))] [] σ (fun v σ' => ∃ q, v = some (.inl q) ∧ sg_F [4035, 4036, 5036, 6036, 7036, 8036] σ σ' ∧ ((∃ i', pType c i = some (i', q) ∧ (0 ≤ q ∧ q ≤ 12) ∧ tk c σ' i') ∨ (pType c i = none ∧ jm σ'))) := by
  refine wk_b tt_188 2 (pc' := 2) (ls' := [(1, .inl (0)), (0, .inr (.inr (.ref 35)))]) (st' := []) (σ' := σ) rfl ?_
  have lp6 : ∀ (m5 : Nat) (σ2 : sg_S) (v1 : Int) (i8 : Nat) (τ9 : sg_S), sg_F [4035, 4036, 5036, 6036, 7036, 8036] σ σ2 → te σ2 τ9 → tk c σ2 i8 → (pType c i = pTyE c (pTyL c m5 v1 i8) ∧ v1 + m5 = 12 ∧ 0 ≤ v1) → wx z 6 188 2 [(0, .inr (.inr (.ref 35))), (1, .inl (v1))] [] σ2 (fun v σ' => ∃ q, v = some (.inl q) ∧ sg_F [4035, 4036, 5036, 6036, 7036, 8036] σ σ' ∧ ((∃ i', pType c i = some (i', q) ∧ (0 ≤ q ∧ q ≤ 12) ∧ tk c σ' i') ∨ (pType c i = none ∧ jm σ'))) := by
    intro m5
    induction m5 with
    | zero =>
      intro σ2 v1 i8 τ9 hF3 ht10 hk11 hI7
      obtain ⟨hI7_e, hI7_b⟩ := hI7
      refine wk_b tt_188 2 (pc' := 5) (ls' := [(0, .inr (.inr (.ref 35))), (1, .inl (v1))]) (st' := [.inl (12), .inl (v1)]) (σ' := σ2) rfl ?_
      refine wk_if2 tt_188 (tgt := 33) rfl rfl (by omega) (by decide) (fun (h12 : 12 ≤ v1) => ?_) (fun (h : v1 < 12) => absurd h (by omega))
      refine wk_b tt_188 4 (pc' := 43) (ls' := [(0, .inr (.inr (.ref 35))), (1, .inl (v1))]) (st' := [.inl (258), .inl ((sg_g σ2 36 4))]) (σ' := σ2) rfl ?_
      have r13 := tK_r hc (i8)
      rw [show (sg_g σ2 36 4) = (tK c (i8)) from by rw [hk11.2.2.2.2.1]]
      refine wk_if2 tt_188 (tgt := 64) rfl rfl (by omega) (by decide) (fun (h14 : ¬ (tK c (i8)) = 258) => ?_) (fun (h14 : (tK c (i8)) = 258) => ?_)
      ·
        refine wk_b tt_188 2 (pc' := 68) (ls' := [(0, .inr (.inr (.ref 35))), (1, .inl (v1))]) (st' := [.inl (258), .inr (.inr (.ref 35))]) (σ' := σ2) rfl ?_
        refine wk_call tt_188 rfl rfl rfl rfl rfl tt_173 rfl (by decide) (px_exp z σ2 (258) c hc (i8) hk11 (by omega)) (fun w15 σ16 hq17 => ?_)
        obtain ⟨rfl, hF18, hq17⟩ := hq17
        rcases hq17 with ⟨h19, hk20⟩ | ⟨h19, hk20⟩
        ·
          exfalso; omega
        ·
          refine wk_b tt_188 2 (pc' := 73) (ls' := [(2, .inl (0)), (0, .inr (.inr (.ref 35))), (1, .inl (v1))]) (st' := []) (σ' := σ16) rfl ?_
          have lp26 : ∀ (m25 : Nat) (σ22 : sg_S) (v21 : Int), sg_F [4035, 4036, 5036, 6036, 7036, 8036] σ σ22 → jm σ22 → (0 ≤ v21 ∧ v21 ≤ (v1) ∧ (v1) ≤ 12) → ((v1) - v21).toNat = m25 → wx z 6 188 73 [(0, .inr (.inr (.ref 35))), (1, .inl (v1)), (2, .inl (v21))] [] σ22 (fun v σ' => ∃ q, v = some (.inl q) ∧ sg_F [4035, 4036, 5036, 6036, 7036, 8036] σ σ' ∧ ((∃ i', pType c i = some (i', q) ∧ (0 ≤ q ∧ q ≤ 12) ∧ tk c σ' i') ∨ (pType c i = none ∧ jm σ'))) := by
            intro m25
            induction m25 using Nat.strongRecOn with
            | _ m25 ih24 =>
              intro σ22 v21 hF23 hj29 hI27 hm28
              refine wk_b tt_188 2 (pc' := 75) (ls' := [(0, .inr (.inr (.ref 35))), (1, .inl (v1)), (2, .inl (v21))]) (st' := [.inl (v1), .inl (v21)]) (σ' := σ22) rfl ?_
              refine wk_if2 tt_188 (tgt := 90) rfl rfl (by omega) (by omega) (fun (h30 : v1 ≤ v21) => ?_) (fun (h30 : v21 < v1) => ?_)
              ·
                refine wk_b tt_188 1 (pc' := 91) (ls' := [(0, .inr (.inr (.ref 35))), (1, .inl (v1)), (2, .inl (v21))]) (st' := [.inl (v1)]) (σ' := σ22) rfl ?_
                refine wk_rI tt_188 rfl rfl ?_
                exact ⟨_, rfl, hF23, Or.inr ⟨(hI7_e.trans (by simp only [pTyL, pTyE, h14, h19, ↓reduceIte, Int.reduceEq, reduceCtorEq, or_true, true_or, or_false, false_or, and_true, true_and, and_false, false_and, not_true_eq_false, not_false_eq_true, decide_eq_true_eq, or_self, and_self, ite_self, Int.reduceLE])), hj29⟩⟩
              ·
                refine wk_b tt_188 2 (pc' := 81) (ls' := [(0, .inr (.inr (.ref 35))), (1, .inl (v1)), (2, .inl (v21))]) (st' := [.inl (93), .inr (.inr (.ref 35))]) (σ' := σ22) rfl ?_
                refine wk_call tt_188 rfl rfl rfl rfl rfl tt_173 rfl (by decide) (pj_exp z σ22 (93) hj29 (by omega)) (fun w31 σ32 hq33 => ?_)
                obtain ⟨rfl, hF34, hj35⟩ := hq33
                refine wk_b tt_188 2 (pc' := 73) (ls' := [(2, .inl ((v21 + 1))), (0, .inr (.inr (.ref 35))), (1, .inl (v1))]) (st' := []) (σ' := σ32) rfl ?_
                refine wk_ls [(0, .inr (.inr (.ref 35))), (1, .inl (v1)), (2, .inl ((v21 + 1)))] rfl ⟨rfl, rfl, rfl, trivial⟩ (ih24 _ ?_ σ32 ((v21 + 1)) (sg_F_t hF23 (sg_F_m (L := [4035, 4036, 5036, 6036, 7036, 8036]) hF34 rfl)) hj35 ?_ rfl)
                · omega
                · omega
          refine wk_ls [(0, .inr (.inr (.ref 35))), (1, .inl (v1)), (2, .inl (0))] rfl ⟨rfl, rfl, rfl, trivial⟩ (lp26 _ σ16 (0) (sg_F_t hF3 (sg_F_m (L := [4035, 4036, 5036, 6036, 7036, 8036]) hF18 rfl)) hk20 ?_ rfl)
          omega
      ·
        refine wk_b tt_188 5 (pc' := 57) (ls' := [(0, .inr (.inr (.ref 35))), (1, .inl (v1))]) (st' := [.inl ((bm_lc ((sg_gl σ2 36 7)) (6909556)))]) (σ' := σ2) rfl ?_
        rw [show (sg_gl σ2 36 7) = (tW c (i8)) from by rw [hk11.2.2.2.2.2.2.1 (by omega)]]
        have lc37 := bm_lc3 (x := ((tW c (i8)))) (y := (6909556)) (by rw [← hk11.2.2.2.2.2.2.1 (by omega)]; exact sg_Rgl _ _ _) (by decide)
        refine wk_if tt_188 (tgt := 64) rfl rfl (by omega) (fun (h36 : (bm_lc ((tW c (i8))) (6909556)) = 0) => ?_) (fun (h36 : ¬ (bm_lc ((tW c (i8))) (6909556)) = 0) => ?_)
        ·
          have h36_a : tW c (i8) = 6909556 := by omega
          refine wk_b tt_188 2 (pc' := 68) (ls' := [(0, .inr (.inr (.ref 35))), (1, .inl (v1))]) (st' := [.inl (258), .inr (.inr (.ref 35))]) (σ' := σ2) rfl ?_
          refine wk_call tt_188 rfl rfl rfl rfl rfl tt_173 rfl (by decide) (px_exp z σ2 (258) c hc (i8) hk11 (by omega)) (fun w38 σ39 hq40 => ?_)
          obtain ⟨rfl, hF41, hq40⟩ := hq40
          rcases hq40 with ⟨h42, hk43⟩ | ⟨h42, hk43⟩
          ·
            refine wk_b tt_188 2 (pc' := 73) (ls' := [(2, .inl (0)), (0, .inr (.inr (.ref 35))), (1, .inl (v1))]) (st' := []) (σ' := σ39) rfl ?_
            have lp49 : ∀ (m48 : Nat) (σ45 : sg_S) (v44 : Int) (i51 : Nat) (τ52 : sg_S), sg_F [4035, 4036, 5036, 6036, 7036, 8036] σ σ45 → te σ45 τ52 → tk c σ45 i51 → (pType c i = pTyF (v1) (pTyR c m48 i51) ∧ v44 + m48 = (v1) ∧ 0 ≤ v44 ∧ (v1) ≤ 12) → wx z 6 188 73 [(0, .inr (.inr (.ref 35))), (1, .inl (v1)), (2, .inl (v44))] [] σ45 (fun v σ' => ∃ q, v = some (.inl q) ∧ sg_F [4035, 4036, 5036, 6036, 7036, 8036] σ σ' ∧ ((∃ i', pType c i = some (i', q) ∧ (0 ≤ q ∧ q ≤ 12) ∧ tk c σ' i') ∨ (pType c i = none ∧ jm σ'))) := by
              intro m48
              induction m48 with
              | zero =>
                intro σ45 v44 i51 τ52 hF46 ht53 hk54 hI50
                obtain ⟨hI50_e, hI50_b⟩ := hI50
                refine wk_b tt_188 2 (pc' := 75) (ls' := [(0, .inr (.inr (.ref 35))), (1, .inl (v1)), (2, .inl (v44))]) (st' := [.inl (v1), .inl (v44)]) (σ' := σ45) rfl ?_
                refine wk_if2 tt_188 (tgt := 90) rfl rfl (by omega) (by omega) (fun (h55 : v1 ≤ v44) => ?_) (fun (h : v44 < v1) => absurd h (by omega))
                refine wk_b tt_188 1 (pc' := 91) (ls' := [(0, .inr (.inr (.ref 35))), (1, .inl (v1)), (2, .inl (v44))]) (st' := [.inl (v1)]) (σ' := σ45) rfl ?_
                refine wk_rI tt_188 rfl rfl ?_
                exact ⟨_, rfl, hF46, Or.inl ⟨_, (hI50_e.trans (by simp only [pTyR, pTyF, ↓reduceIte, Int.reduceEq, reduceCtorEq, or_true, true_or, or_false, false_or, and_true, true_and, and_false, false_and, not_true_eq_false, not_false_eq_true, decide_eq_true_eq, or_self, and_self, ite_self, Int.reduceLE])), by omega, hk54⟩⟩
              | succ m48 ih47 =>
                intro σ45 v44 i51 τ52 hF46 ht53 hk54 hI50
                obtain ⟨hI50_e, hI50_b⟩ := hI50
                refine wk_b tt_188 2 (pc' := 75) (ls' := [(0, .inr (.inr (.ref 35))), (1, .inl (v1)), (2, .inl (v44))]) (st' := [.inl (v1), .inl (v44)]) (σ' := σ45) rfl ?_
                refine wk_if2 tt_188 (tgt := 90) rfl rfl (by omega) (by omega) (fun (h : v1 ≤ v44) => absurd h (by omega)) (fun (h56 : v44 < v1) => ?_)
                refine wk_b tt_188 2 (pc' := 81) (ls' := [(0, .inr (.inr (.ref 35))), (1, .inl (v1)), (2, .inl (v44))]) (st' := [.inl (93), .inr (.inr (.ref 35))]) (σ' := σ45) rfl ?_
                refine wk_call tt_188 rfl rfl rfl rfl rfl tt_173 rfl (by decide) (px_exp z σ45 (93) c hc (i51) hk54 (by omega)) (fun w57 σ58 hq59 => ?_)
                obtain ⟨rfl, hF60, hq59⟩ := hq59
                rcases hq59 with ⟨h61, hk62⟩ | ⟨h61, hk62⟩
                ·
                  refine wk_b tt_188 2 (pc' := 73) (ls' := [(2, .inl ((v44 + 1))), (0, .inr (.inr (.ref 35))), (1, .inl (v1))]) (st' := []) (σ' := σ58) rfl ?_
                  refine wk_ls [(0, .inr (.inr (.ref 35))), (1, .inl (v1)), (2, .inl ((v44 + 1)))] rfl ⟨rfl, rfl, rfl, trivial⟩ (ih47 σ58 ((v44 + 1)) (i51 + 1) τ52 (sg_F_t hF46 (sg_F_m (L := [4035, 4036, 5036, 6036, 7036, 8036]) hF60 rfl)) (te_F ht53 hF60 rfl) hk62 ?_)
                  exact ⟨(hI50_e.trans (by simp only [pTyR, pTyF, h61, ↓reduceIte, Int.reduceEq, reduceCtorEq, or_true, true_or, or_false, false_or, and_true, true_and, and_false, false_and, not_true_eq_false, not_false_eq_true, decide_eq_true_eq, or_self, and_self, ite_self, Int.reduceLE])), by omega, by omega, by omega⟩
                ·
                  refine wk_b tt_188 2 (pc' := 73) (ls' := [(2, .inl ((v44 + 1))), (0, .inr (.inr (.ref 35))), (1, .inl (v1))]) (st' := []) (σ' := σ58) rfl ?_
                  have lp68 : ∀ (m67 : Nat) (σ64 : sg_S) (v63 : Int), sg_F [4035, 4036, 5036, 6036, 7036, 8036] σ σ64 → jm σ64 → (0 ≤ v63 ∧ v63 ≤ (v1) ∧ (v1) ≤ 12) → ((v1) - v63).toNat = m67 → wx z 6 188 73 [(0, .inr (.inr (.ref 35))), (1, .inl (v1)), (2, .inl (v63))] [] σ64 (fun v σ' => ∃ q, v = some (.inl q) ∧ sg_F [4035, 4036, 5036, 6036, 7036, 8036] σ σ' ∧ ((∃ i', pType c i = some (i', q) ∧ (0 ≤ q ∧ q ≤ 12) ∧ tk c σ' i') ∨ (pType c i = none ∧ jm σ'))) := by
                    intro m67
                    induction m67 using Nat.strongRecOn with
                    | _ m67 ih66 =>
                      intro σ64 v63 hF65 hj71 hI69 hm70
                      refine wk_b tt_188 2 (pc' := 75) (ls' := [(0, .inr (.inr (.ref 35))), (1, .inl (v1)), (2, .inl (v63))]) (st' := [.inl (v1), .inl (v63)]) (σ' := σ64) rfl ?_
                      refine wk_if2 tt_188 (tgt := 90) rfl rfl (by omega) (by omega) (fun (h72 : v1 ≤ v63) => ?_) (fun (h72 : v63 < v1) => ?_)
                      ·
                        refine wk_b tt_188 1 (pc' := 91) (ls' := [(0, .inr (.inr (.ref 35))), (1, .inl (v1)), (2, .inl (v63))]) (st' := [.inl (v1)]) (σ' := σ64) rfl ?_
                        refine wk_rI tt_188 rfl rfl ?_
                        exact ⟨_, rfl, hF65, Or.inr ⟨(hI50_e.trans (by simp only [pTyR, pTyF, h61, ↓reduceIte, Int.reduceEq, reduceCtorEq, or_true, true_or, or_false, false_or, and_true, true_and, and_false, false_and, not_true_eq_false, not_false_eq_true, decide_eq_true_eq, or_self, and_self, ite_self, Int.reduceLE])), hj71⟩⟩
                      ·
                        refine wk_b tt_188 2 (pc' := 81) (ls' := [(0, .inr (.inr (.ref 35))), (1, .inl (v1)), (2, .inl (v63))]) (st' := [.inl (93), .inr (.inr (.ref 35))]) (σ' := σ64) rfl ?_
                        refine wk_call tt_188 rfl rfl rfl rfl rfl tt_173 rfl (by decide) (pj_exp z σ64 (93) hj71 (by omega)) (fun w73 σ74 hq75 => ?_)
                        obtain ⟨rfl, hF76, hj77⟩ := hq75
                        refine wk_b tt_188 2 (pc' := 73) (ls' := [(2, .inl ((v63 + 1))), (0, .inr (.inr (.ref 35))), (1, .inl (v1))]) (st' := []) (σ' := σ74) rfl ?_
                        refine wk_ls [(0, .inr (.inr (.ref 35))), (1, .inl (v1)), (2, .inl ((v63 + 1)))] rfl ⟨rfl, rfl, rfl, trivial⟩ (ih66 _ ?_ σ74 ((v63 + 1)) (sg_F_t hF65 (sg_F_m (L := [4035, 4036, 5036, 6036, 7036, 8036]) hF76 rfl)) hj77 ?_ rfl)
                        · omega
                        · omega
                  refine wk_ls [(0, .inr (.inr (.ref 35))), (1, .inl (v1)), (2, .inl ((v44 + 1)))] rfl ⟨rfl, rfl, rfl, trivial⟩ (lp68 _ σ58 ((v44 + 1)) (sg_F_t hF46 (sg_F_m (L := [4035, 4036, 5036, 6036, 7036, 8036]) hF60 rfl)) hk62 ?_ rfl)
                  omega
            refine wk_ls [(0, .inr (.inr (.ref 35))), (1, .inl (v1)), (2, .inl (0))] rfl ⟨rfl, rfl, rfl, trivial⟩ (lp49 ((v1)).toNat σ39 (0) (i8 + 1) τ9 (sg_F_t hF3 (sg_F_m (L := [4035, 4036, 5036, 6036, 7036, 8036]) hF41 rfl)) (te_F ht10 hF41 rfl) hk43 ?_)
            exact ⟨(hI7_e.trans (by simp only [pTyL, pTyE, h14, h36, h36_a, h42, ↓reduceIte, Int.reduceEq, reduceCtorEq, or_true, true_or, or_false, false_or, and_true, true_and, and_false, false_and, not_true_eq_false, not_false_eq_true, decide_eq_true_eq, or_self, and_self, ite_self, Int.reduceLE])), by omega, by omega, by omega⟩
          ·
            exfalso; omega
        ·
          have h36_a : ¬ tW c (i8) = 6909556 := by omega
          refine wk_b tt_188 1 (pc' := 61) (ls' := [(0, .inr (.inr (.ref 35))), (1, .inl (v1))]) (st' := [.inr (.inr (.ref 35))]) (σ' := σ2) rfl ?_
          refine wk_call tt_188 rfl rfl rfl rfl rfl tt_175 rfl (by decide) (px_failR z σ2 c hc (i8) hk11) (fun w78 σ79 hq80 => ?_)
          obtain ⟨rfl, hF81, hj82⟩ := hq80
          refine wk_b tt_188 2 (pc' := 68) (ls' := [(0, .inr (.inr (.ref 35))), (1, .inl (v1))]) (st' := [.inl (258), .inr (.inr (.ref 35))]) (σ' := σ79) rfl ?_
          refine wk_call tt_188 rfl rfl rfl rfl rfl tt_173 rfl (by decide) (pj_exp z σ79 (258) hj82 (by omega)) (fun w83 σ84 hq85 => ?_)
          obtain ⟨rfl, hF86, hj87⟩ := hq85
          refine wk_b tt_188 2 (pc' := 73) (ls' := [(2, .inl (0)), (0, .inr (.inr (.ref 35))), (1, .inl (v1))]) (st' := []) (σ' := σ84) rfl ?_
          have lp93 : ∀ (m92 : Nat) (σ89 : sg_S) (v88 : Int), sg_F [4035, 4036, 5036, 6036, 7036, 8036] σ σ89 → jm σ89 → (0 ≤ v88 ∧ v88 ≤ (v1) ∧ (v1) ≤ 12) → ((v1) - v88).toNat = m92 → wx z 6 188 73 [(0, .inr (.inr (.ref 35))), (1, .inl (v1)), (2, .inl (v88))] [] σ89 (fun v σ' => ∃ q, v = some (.inl q) ∧ sg_F [4035, 4036, 5036, 6036, 7036, 8036] σ σ' ∧ ((∃ i', pType c i = some (i', q) ∧ (0 ≤ q ∧ q ≤ 12) ∧ tk c σ' i') ∨ (pType c i = none ∧ jm σ'))) := by
            intro m92
            induction m92 using Nat.strongRecOn with
            | _ m92 ih91 =>
              intro σ89 v88 hF90 hj96 hI94 hm95
              refine wk_b tt_188 2 (pc' := 75) (ls' := [(0, .inr (.inr (.ref 35))), (1, .inl (v1)), (2, .inl (v88))]) (st' := [.inl (v1), .inl (v88)]) (σ' := σ89) rfl ?_
              refine wk_if2 tt_188 (tgt := 90) rfl rfl (by omega) (by omega) (fun (h97 : v1 ≤ v88) => ?_) (fun (h97 : v88 < v1) => ?_)
              ·
                refine wk_b tt_188 1 (pc' := 91) (ls' := [(0, .inr (.inr (.ref 35))), (1, .inl (v1)), (2, .inl (v88))]) (st' := [.inl (v1)]) (σ' := σ89) rfl ?_
                refine wk_rI tt_188 rfl rfl ?_
                exact ⟨_, rfl, hF90, Or.inr ⟨(hI7_e.trans (by simp only [pTyL, pTyE, h14, h36, h36_a, ↓reduceIte, Int.reduceEq, reduceCtorEq, or_true, true_or, or_false, false_or, and_true, true_and, and_false, false_and, not_true_eq_false, not_false_eq_true, decide_eq_true_eq, or_self, and_self, ite_self, Int.reduceLE])), hj96⟩⟩
              ·
                refine wk_b tt_188 2 (pc' := 81) (ls' := [(0, .inr (.inr (.ref 35))), (1, .inl (v1)), (2, .inl (v88))]) (st' := [.inl (93), .inr (.inr (.ref 35))]) (σ' := σ89) rfl ?_
                refine wk_call tt_188 rfl rfl rfl rfl rfl tt_173 rfl (by decide) (pj_exp z σ89 (93) hj96 (by omega)) (fun w98 σ99 hq100 => ?_)
                obtain ⟨rfl, hF101, hj102⟩ := hq100
                refine wk_b tt_188 2 (pc' := 73) (ls' := [(2, .inl ((v88 + 1))), (0, .inr (.inr (.ref 35))), (1, .inl (v1))]) (st' := []) (σ' := σ99) rfl ?_
                refine wk_ls [(0, .inr (.inr (.ref 35))), (1, .inl (v1)), (2, .inl ((v88 + 1)))] rfl ⟨rfl, rfl, rfl, trivial⟩ (ih91 _ ?_ σ99 ((v88 + 1)) (sg_F_t hF90 (sg_F_m (L := [4035, 4036, 5036, 6036, 7036, 8036]) hF101 rfl)) hj102 ?_ rfl)
                · omega
                · omega
          refine wk_ls [(0, .inr (.inr (.ref 35))), (1, .inl (v1)), (2, .inl (0))] rfl ⟨rfl, rfl, rfl, trivial⟩ (lp93 _ σ84 (0) (sg_F_t (sg_F_t hF3 (sg_F_m (L := [4035, 4036, 5036, 6036, 7036, 8036]) hF81 rfl)) (sg_F_m (L := [4035, 4036, 5036, 6036, 7036, 8036]) hF86 rfl)) hj87 ?_ rfl)
          omega
    | succ m5 ih4 =>
      intro σ2 v1 i8 τ9 hF3 ht10 hk11 hI7
      obtain ⟨hI7_e, hI7_b⟩ := hI7
      refine wk_b tt_188 2 (pc' := 5) (ls' := [(0, .inr (.inr (.ref 35))), (1, .inl (v1))]) (st' := [.inl (12), .inl (v1)]) (σ' := σ2) rfl ?_
      refine wk_if2 tt_188 (tgt := 33) rfl rfl (by omega) (by decide) (fun (h : 12 ≤ v1) => absurd h (by omega)) (fun (h103 : v1 < 12) => ?_)
      refine wk_b tt_188 4 (pc' := 17) (ls' := [(0, .inr (.inr (.ref 35))), (1, .inl (v1))]) (st' := [.inl (91), .inl ((sg_g σ2 36 4))]) (σ' := σ2) rfl ?_
      have r104 := tK_r hc (i8)
      rw [show (sg_g σ2 36 4) = (tK c (i8)) from by rw [hk11.2.2.2.2.1]]
      refine wk_if2 tt_188 (tgt := 33) rfl rfl (by omega) (by decide) (fun (h105 : ¬ (tK c (i8)) = 91) => ?_) (fun (h105 : (tK c (i8)) = 91) => ?_)
      ·
        refine wk_b tt_188 4 (pc' := 43) (ls' := [(0, .inr (.inr (.ref 35))), (1, .inl (v1))]) (st' := [.inl (258), .inl ((sg_g σ2 36 4))]) (σ' := σ2) rfl ?_
        rw [show (sg_g σ2 36 4) = (tK c (i8)) from by rw [hk11.2.2.2.2.1]]
        refine wk_if2 tt_188 (tgt := 64) rfl rfl (by omega) (by decide) (fun (h106 : ¬ (tK c (i8)) = 258) => ?_) (fun (h106 : (tK c (i8)) = 258) => ?_)
        ·
          refine wk_b tt_188 2 (pc' := 68) (ls' := [(0, .inr (.inr (.ref 35))), (1, .inl (v1))]) (st' := [.inl (258), .inr (.inr (.ref 35))]) (σ' := σ2) rfl ?_
          refine wk_call tt_188 rfl rfl rfl rfl rfl tt_173 rfl (by decide) (px_exp z σ2 (258) c hc (i8) hk11 (by omega)) (fun w107 σ108 hq109 => ?_)
          obtain ⟨rfl, hF110, hq109⟩ := hq109
          rcases hq109 with ⟨h111, hk112⟩ | ⟨h111, hk112⟩
          ·
            exfalso; omega
          ·
            refine wk_b tt_188 2 (pc' := 73) (ls' := [(2, .inl (0)), (0, .inr (.inr (.ref 35))), (1, .inl (v1))]) (st' := []) (σ' := σ108) rfl ?_
            have lp118 : ∀ (m117 : Nat) (σ114 : sg_S) (v113 : Int), sg_F [4035, 4036, 5036, 6036, 7036, 8036] σ σ114 → jm σ114 → (0 ≤ v113 ∧ v113 ≤ (v1) ∧ (v1) ≤ 12) → ((v1) - v113).toNat = m117 → wx z 6 188 73 [(0, .inr (.inr (.ref 35))), (1, .inl (v1)), (2, .inl (v113))] [] σ114 (fun v σ' => ∃ q, v = some (.inl q) ∧ sg_F [4035, 4036, 5036, 6036, 7036, 8036] σ σ' ∧ ((∃ i', pType c i = some (i', q) ∧ (0 ≤ q ∧ q ≤ 12) ∧ tk c σ' i') ∨ (pType c i = none ∧ jm σ'))) := by
              intro m117
              induction m117 using Nat.strongRecOn with
              | _ m117 ih116 =>
                intro σ114 v113 hF115 hj121 hI119 hm120
                refine wk_b tt_188 2 (pc' := 75) (ls' := [(0, .inr (.inr (.ref 35))), (1, .inl (v1)), (2, .inl (v113))]) (st' := [.inl (v1), .inl (v113)]) (σ' := σ114) rfl ?_
                refine wk_if2 tt_188 (tgt := 90) rfl rfl (by omega) (by omega) (fun (h122 : v1 ≤ v113) => ?_) (fun (h122 : v113 < v1) => ?_)
                ·
                  refine wk_b tt_188 1 (pc' := 91) (ls' := [(0, .inr (.inr (.ref 35))), (1, .inl (v1)), (2, .inl (v113))]) (st' := [.inl (v1)]) (σ' := σ114) rfl ?_
                  refine wk_rI tt_188 rfl rfl ?_
                  exact ⟨_, rfl, hF115, Or.inr ⟨(hI7_e.trans (by simp only [pTyL, pTyE, h105, h106, h111, ↓reduceIte, Int.reduceEq, reduceCtorEq, or_true, true_or, or_false, false_or, and_true, true_and, and_false, false_and, not_true_eq_false, not_false_eq_true, decide_eq_true_eq, or_self, and_self, ite_self, Int.reduceLE])), hj121⟩⟩
                ·
                  refine wk_b tt_188 2 (pc' := 81) (ls' := [(0, .inr (.inr (.ref 35))), (1, .inl (v1)), (2, .inl (v113))]) (st' := [.inl (93), .inr (.inr (.ref 35))]) (σ' := σ114) rfl ?_
                  refine wk_call tt_188 rfl rfl rfl rfl rfl tt_173 rfl (by decide) (pj_exp z σ114 (93) hj121 (by omega)) (fun w123 σ124 hq125 => ?_)
                  obtain ⟨rfl, hF126, hj127⟩ := hq125
                  refine wk_b tt_188 2 (pc' := 73) (ls' := [(2, .inl ((v113 + 1))), (0, .inr (.inr (.ref 35))), (1, .inl (v1))]) (st' := []) (σ' := σ124) rfl ?_
                  refine wk_ls [(0, .inr (.inr (.ref 35))), (1, .inl (v1)), (2, .inl ((v113 + 1)))] rfl ⟨rfl, rfl, rfl, trivial⟩ (ih116 _ ?_ σ124 ((v113 + 1)) (sg_F_t hF115 (sg_F_m (L := [4035, 4036, 5036, 6036, 7036, 8036]) hF126 rfl)) hj127 ?_ rfl)
                  · omega
                  · omega
            refine wk_ls [(0, .inr (.inr (.ref 35))), (1, .inl (v1)), (2, .inl (0))] rfl ⟨rfl, rfl, rfl, trivial⟩ (lp118 _ σ108 (0) (sg_F_t hF3 (sg_F_m (L := [4035, 4036, 5036, 6036, 7036, 8036]) hF110 rfl)) hk112 ?_ rfl)
            omega
        ·
          refine wk_b tt_188 5 (pc' := 57) (ls' := [(0, .inr (.inr (.ref 35))), (1, .inl (v1))]) (st' := [.inl ((bm_lc ((sg_gl σ2 36 7)) (6909556)))]) (σ' := σ2) rfl ?_
          rw [show (sg_gl σ2 36 7) = (tW c (i8)) from by rw [hk11.2.2.2.2.2.2.1 (by omega)]]
          have lc129 := bm_lc3 (x := ((tW c (i8)))) (y := (6909556)) (by rw [← hk11.2.2.2.2.2.2.1 (by omega)]; exact sg_Rgl _ _ _) (by decide)
          refine wk_if tt_188 (tgt := 64) rfl rfl (by omega) (fun (h128 : (bm_lc ((tW c (i8))) (6909556)) = 0) => ?_) (fun (h128 : ¬ (bm_lc ((tW c (i8))) (6909556)) = 0) => ?_)
          ·
            have h128_a : tW c (i8) = 6909556 := by omega
            refine wk_b tt_188 2 (pc' := 68) (ls' := [(0, .inr (.inr (.ref 35))), (1, .inl (v1))]) (st' := [.inl (258), .inr (.inr (.ref 35))]) (σ' := σ2) rfl ?_
            refine wk_call tt_188 rfl rfl rfl rfl rfl tt_173 rfl (by decide) (px_exp z σ2 (258) c hc (i8) hk11 (by omega)) (fun w130 σ131 hq132 => ?_)
            obtain ⟨rfl, hF133, hq132⟩ := hq132
            rcases hq132 with ⟨h134, hk135⟩ | ⟨h134, hk135⟩
            ·
              refine wk_b tt_188 2 (pc' := 73) (ls' := [(2, .inl (0)), (0, .inr (.inr (.ref 35))), (1, .inl (v1))]) (st' := []) (σ' := σ131) rfl ?_
              have lp141 : ∀ (m140 : Nat) (σ137 : sg_S) (v136 : Int) (i143 : Nat) (τ144 : sg_S), sg_F [4035, 4036, 5036, 6036, 7036, 8036] σ σ137 → te σ137 τ144 → tk c σ137 i143 → (pType c i = pTyF (v1) (pTyR c m140 i143) ∧ v136 + m140 = (v1) ∧ 0 ≤ v136 ∧ (v1) ≤ 12) → wx z 6 188 73 [(0, .inr (.inr (.ref 35))), (1, .inl (v1)), (2, .inl (v136))] [] σ137 (fun v σ' => ∃ q, v = some (.inl q) ∧ sg_F [4035, 4036, 5036, 6036, 7036, 8036] σ σ' ∧ ((∃ i', pType c i = some (i', q) ∧ (0 ≤ q ∧ q ≤ 12) ∧ tk c σ' i') ∨ (pType c i = none ∧ jm σ'))) := by
                intro m140
                induction m140 with
                | zero =>
                  intro σ137 v136 i143 τ144 hF138 ht145 hk146 hI142
                  obtain ⟨hI142_e, hI142_b⟩ := hI142
                  refine wk_b tt_188 2 (pc' := 75) (ls' := [(0, .inr (.inr (.ref 35))), (1, .inl (v1)), (2, .inl (v136))]) (st' := [.inl (v1), .inl (v136)]) (σ' := σ137) rfl ?_
                  refine wk_if2 tt_188 (tgt := 90) rfl rfl (by omega) (by omega) (fun (h147 : v1 ≤ v136) => ?_) (fun (h : v136 < v1) => absurd h (by omega))
                  refine wk_b tt_188 1 (pc' := 91) (ls' := [(0, .inr (.inr (.ref 35))), (1, .inl (v1)), (2, .inl (v136))]) (st' := [.inl (v1)]) (σ' := σ137) rfl ?_
                  refine wk_rI tt_188 rfl rfl ?_
                  exact ⟨_, rfl, hF138, Or.inl ⟨_, (hI142_e.trans (by simp only [pTyR, pTyF, ↓reduceIte, Int.reduceEq, reduceCtorEq, or_true, true_or, or_false, false_or, and_true, true_and, and_false, false_and, not_true_eq_false, not_false_eq_true, decide_eq_true_eq, or_self, and_self, ite_self, Int.reduceLE])), by omega, hk146⟩⟩
                | succ m140 ih139 =>
                  intro σ137 v136 i143 τ144 hF138 ht145 hk146 hI142
                  obtain ⟨hI142_e, hI142_b⟩ := hI142
                  refine wk_b tt_188 2 (pc' := 75) (ls' := [(0, .inr (.inr (.ref 35))), (1, .inl (v1)), (2, .inl (v136))]) (st' := [.inl (v1), .inl (v136)]) (σ' := σ137) rfl ?_
                  refine wk_if2 tt_188 (tgt := 90) rfl rfl (by omega) (by omega) (fun (h : v1 ≤ v136) => absurd h (by omega)) (fun (h148 : v136 < v1) => ?_)
                  refine wk_b tt_188 2 (pc' := 81) (ls' := [(0, .inr (.inr (.ref 35))), (1, .inl (v1)), (2, .inl (v136))]) (st' := [.inl (93), .inr (.inr (.ref 35))]) (σ' := σ137) rfl ?_
                  refine wk_call tt_188 rfl rfl rfl rfl rfl tt_173 rfl (by decide) (px_exp z σ137 (93) c hc (i143) hk146 (by omega)) (fun w149 σ150 hq151 => ?_)
                  obtain ⟨rfl, hF152, hq151⟩ := hq151
                  rcases hq151 with ⟨h153, hk154⟩ | ⟨h153, hk154⟩
                  ·
                    refine wk_b tt_188 2 (pc' := 73) (ls' := [(2, .inl ((v136 + 1))), (0, .inr (.inr (.ref 35))), (1, .inl (v1))]) (st' := []) (σ' := σ150) rfl ?_
                    refine wk_ls [(0, .inr (.inr (.ref 35))), (1, .inl (v1)), (2, .inl ((v136 + 1)))] rfl ⟨rfl, rfl, rfl, trivial⟩ (ih139 σ150 ((v136 + 1)) (i143 + 1) τ144 (sg_F_t hF138 (sg_F_m (L := [4035, 4036, 5036, 6036, 7036, 8036]) hF152 rfl)) (te_F ht145 hF152 rfl) hk154 ?_)
                    exact ⟨(hI142_e.trans (by simp only [pTyR, pTyF, h153, ↓reduceIte, Int.reduceEq, reduceCtorEq, or_true, true_or, or_false, false_or, and_true, true_and, and_false, false_and, not_true_eq_false, not_false_eq_true, decide_eq_true_eq, or_self, and_self, ite_self, Int.reduceLE])), by omega, by omega, by omega⟩
                  ·
                    refine wk_b tt_188 2 (pc' := 73) (ls' := [(2, .inl ((v136 + 1))), (0, .inr (.inr (.ref 35))), (1, .inl (v1))]) (st' := []) (σ' := σ150) rfl ?_
                    have lp160 : ∀ (m159 : Nat) (σ156 : sg_S) (v155 : Int), sg_F [4035, 4036, 5036, 6036, 7036, 8036] σ σ156 → jm σ156 → (0 ≤ v155 ∧ v155 ≤ (v1) ∧ (v1) ≤ 12) → ((v1) - v155).toNat = m159 → wx z 6 188 73 [(0, .inr (.inr (.ref 35))), (1, .inl (v1)), (2, .inl (v155))] [] σ156 (fun v σ' => ∃ q, v = some (.inl q) ∧ sg_F [4035, 4036, 5036, 6036, 7036, 8036] σ σ' ∧ ((∃ i', pType c i = some (i', q) ∧ (0 ≤ q ∧ q ≤ 12) ∧ tk c σ' i') ∨ (pType c i = none ∧ jm σ'))) := by
                      intro m159
                      induction m159 using Nat.strongRecOn with
                      | _ m159 ih158 =>
                        intro σ156 v155 hF157 hj163 hI161 hm162
                        refine wk_b tt_188 2 (pc' := 75) (ls' := [(0, .inr (.inr (.ref 35))), (1, .inl (v1)), (2, .inl (v155))]) (st' := [.inl (v1), .inl (v155)]) (σ' := σ156) rfl ?_
                        refine wk_if2 tt_188 (tgt := 90) rfl rfl (by omega) (by omega) (fun (h164 : v1 ≤ v155) => ?_) (fun (h164 : v155 < v1) => ?_)
                        ·
                          refine wk_b tt_188 1 (pc' := 91) (ls' := [(0, .inr (.inr (.ref 35))), (1, .inl (v1)), (2, .inl (v155))]) (st' := [.inl (v1)]) (σ' := σ156) rfl ?_
                          refine wk_rI tt_188 rfl rfl ?_
                          exact ⟨_, rfl, hF157, Or.inr ⟨(hI142_e.trans (by simp only [pTyR, pTyF, h153, ↓reduceIte, Int.reduceEq, reduceCtorEq, or_true, true_or, or_false, false_or, and_true, true_and, and_false, false_and, not_true_eq_false, not_false_eq_true, decide_eq_true_eq, or_self, and_self, ite_self, Int.reduceLE])), hj163⟩⟩
                        ·
                          refine wk_b tt_188 2 (pc' := 81) (ls' := [(0, .inr (.inr (.ref 35))), (1, .inl (v1)), (2, .inl (v155))]) (st' := [.inl (93), .inr (.inr (.ref 35))]) (σ' := σ156) rfl ?_
                          refine wk_call tt_188 rfl rfl rfl rfl rfl tt_173 rfl (by decide) (pj_exp z σ156 (93) hj163 (by omega)) (fun w165 σ166 hq167 => ?_)
                          obtain ⟨rfl, hF168, hj169⟩ := hq167
                          refine wk_b tt_188 2 (pc' := 73) (ls' := [(2, .inl ((v155 + 1))), (0, .inr (.inr (.ref 35))), (1, .inl (v1))]) (st' := []) (σ' := σ166) rfl ?_
                          refine wk_ls [(0, .inr (.inr (.ref 35))), (1, .inl (v1)), (2, .inl ((v155 + 1)))] rfl ⟨rfl, rfl, rfl, trivial⟩ (ih158 _ ?_ σ166 ((v155 + 1)) (sg_F_t hF157 (sg_F_m (L := [4035, 4036, 5036, 6036, 7036, 8036]) hF168 rfl)) hj169 ?_ rfl)
                          · omega
                          · omega
                    refine wk_ls [(0, .inr (.inr (.ref 35))), (1, .inl (v1)), (2, .inl ((v136 + 1)))] rfl ⟨rfl, rfl, rfl, trivial⟩ (lp160 _ σ150 ((v136 + 1)) (sg_F_t hF138 (sg_F_m (L := [4035, 4036, 5036, 6036, 7036, 8036]) hF152 rfl)) hk154 ?_ rfl)
                    omega
              refine wk_ls [(0, .inr (.inr (.ref 35))), (1, .inl (v1)), (2, .inl (0))] rfl ⟨rfl, rfl, rfl, trivial⟩ (lp141 ((v1)).toNat σ131 (0) (i8 + 1) τ9 (sg_F_t hF3 (sg_F_m (L := [4035, 4036, 5036, 6036, 7036, 8036]) hF133 rfl)) (te_F ht10 hF133 rfl) hk135 ?_)
              exact ⟨(hI7_e.trans (by simp only [pTyL, pTyE, h105, h106, h128, h128_a, h134, ↓reduceIte, Int.reduceEq, reduceCtorEq, or_true, true_or, or_false, false_or, and_true, true_and, and_false, false_and, not_true_eq_false, not_false_eq_true, decide_eq_true_eq, or_self, and_self, ite_self, Int.reduceLE])), by omega, by omega, by omega⟩
            ·
              exfalso; omega
          ·
            have h128_a : ¬ tW c (i8) = 6909556 := by omega
            refine wk_b tt_188 1 (pc' := 61) (ls' := [(0, .inr (.inr (.ref 35))), (1, .inl (v1))]) (st' := [.inr (.inr (.ref 35))]) (σ' := σ2) rfl ?_
            refine wk_call tt_188 rfl rfl rfl rfl rfl tt_175 rfl (by decide) (px_failR z σ2 c hc (i8) hk11) (fun w170 σ171 hq172 => ?_)
            obtain ⟨rfl, hF173, hj174⟩ := hq172
            refine wk_b tt_188 2 (pc' := 68) (ls' := [(0, .inr (.inr (.ref 35))), (1, .inl (v1))]) (st' := [.inl (258), .inr (.inr (.ref 35))]) (σ' := σ171) rfl ?_
            refine wk_call tt_188 rfl rfl rfl rfl rfl tt_173 rfl (by decide) (pj_exp z σ171 (258) hj174 (by omega)) (fun w175 σ176 hq177 => ?_)
            obtain ⟨rfl, hF178, hj179⟩ := hq177
            refine wk_b tt_188 2 (pc' := 73) (ls' := [(2, .inl (0)), (0, .inr (.inr (.ref 35))), (1, .inl (v1))]) (st' := []) (σ' := σ176) rfl ?_
            have lp185 : ∀ (m184 : Nat) (σ181 : sg_S) (v180 : Int), sg_F [4035, 4036, 5036, 6036, 7036, 8036] σ σ181 → jm σ181 → (0 ≤ v180 ∧ v180 ≤ (v1) ∧ (v1) ≤ 12) → ((v1) - v180).toNat = m184 → wx z 6 188 73 [(0, .inr (.inr (.ref 35))), (1, .inl (v1)), (2, .inl (v180))] [] σ181 (fun v σ' => ∃ q, v = some (.inl q) ∧ sg_F [4035, 4036, 5036, 6036, 7036, 8036] σ σ' ∧ ((∃ i', pType c i = some (i', q) ∧ (0 ≤ q ∧ q ≤ 12) ∧ tk c σ' i') ∨ (pType c i = none ∧ jm σ'))) := by
              intro m184
              induction m184 using Nat.strongRecOn with
              | _ m184 ih183 =>
                intro σ181 v180 hF182 hj188 hI186 hm187
                refine wk_b tt_188 2 (pc' := 75) (ls' := [(0, .inr (.inr (.ref 35))), (1, .inl (v1)), (2, .inl (v180))]) (st' := [.inl (v1), .inl (v180)]) (σ' := σ181) rfl ?_
                refine wk_if2 tt_188 (tgt := 90) rfl rfl (by omega) (by omega) (fun (h189 : v1 ≤ v180) => ?_) (fun (h189 : v180 < v1) => ?_)
                ·
                  refine wk_b tt_188 1 (pc' := 91) (ls' := [(0, .inr (.inr (.ref 35))), (1, .inl (v1)), (2, .inl (v180))]) (st' := [.inl (v1)]) (σ' := σ181) rfl ?_
                  refine wk_rI tt_188 rfl rfl ?_
                  exact ⟨_, rfl, hF182, Or.inr ⟨(hI7_e.trans (by simp only [pTyL, pTyE, h105, h106, h128, h128_a, ↓reduceIte, Int.reduceEq, reduceCtorEq, or_true, true_or, or_false, false_or, and_true, true_and, and_false, false_and, not_true_eq_false, not_false_eq_true, decide_eq_true_eq, or_self, and_self, ite_self, Int.reduceLE])), hj188⟩⟩
                ·
                  refine wk_b tt_188 2 (pc' := 81) (ls' := [(0, .inr (.inr (.ref 35))), (1, .inl (v1)), (2, .inl (v180))]) (st' := [.inl (93), .inr (.inr (.ref 35))]) (σ' := σ181) rfl ?_
                  refine wk_call tt_188 rfl rfl rfl rfl rfl tt_173 rfl (by decide) (pj_exp z σ181 (93) hj188 (by omega)) (fun w190 σ191 hq192 => ?_)
                  obtain ⟨rfl, hF193, hj194⟩ := hq192
                  refine wk_b tt_188 2 (pc' := 73) (ls' := [(2, .inl ((v180 + 1))), (0, .inr (.inr (.ref 35))), (1, .inl (v1))]) (st' := []) (σ' := σ191) rfl ?_
                  refine wk_ls [(0, .inr (.inr (.ref 35))), (1, .inl (v1)), (2, .inl ((v180 + 1)))] rfl ⟨rfl, rfl, rfl, trivial⟩ (ih183 _ ?_ σ191 ((v180 + 1)) (sg_F_t hF182 (sg_F_m (L := [4035, 4036, 5036, 6036, 7036, 8036]) hF193 rfl)) hj194 ?_ rfl)
                  · omega
                  · omega
            refine wk_ls [(0, .inr (.inr (.ref 35))), (1, .inl (v1)), (2, .inl (0))] rfl ⟨rfl, rfl, rfl, trivial⟩ (lp185 _ σ176 (0) (sg_F_t (sg_F_t hF3 (sg_F_m (L := [4035, 4036, 5036, 6036, 7036, 8036]) hF173 rfl)) (sg_F_m (L := [4035, 4036, 5036, 6036, 7036, 8036]) hF178 rfl)) hj179 ?_ rfl)
            omega
      ·
        refine wk_b tt_188 3 (pc' := 27) (ls' := [(1, .inl ((v1 + 1))), (0, .inr (.inr (.ref 35)))]) (st' := [.inr (.inr (.ref 36))]) (σ' := σ2) rfl ?_
        refine wk_call tt_188 rfl rfl rfl rfl rfl tt_195 rfl (by decide) (tk_nx z σ2 c hc (i8) hk11 (by omega)) (fun w195 σ196 hq197 => ?_)
        obtain ⟨rfl, hF198, hj199⟩ := hq197
        refine wk_b tt_188 1 (pc' := 2) (ls' := [(1, .inl ((v1 + 1))), (0, .inr (.inr (.ref 35)))]) (st' := []) (σ' := σ196) rfl ?_
        refine wk_ls [(0, .inr (.inr (.ref 35))), (1, .inl ((v1 + 1)))] rfl ⟨rfl, rfl, trivial⟩ (ih4 σ196 ((v1 + 1)) (i8 + 1) τ9 (sg_F_t hF3 (sg_F_m (L := [4035, 4036, 5036, 6036, 7036, 8036]) hF198 rfl)) (te_F ht10 hF198 rfl) hj199 ?_)
        exact ⟨(hI7_e.trans (by simp only [pTyL, pTyE, h105, ↓reduceIte, Int.reduceEq, reduceCtorEq, or_true, true_or, or_false, false_or, and_true, true_and, and_false, false_and, not_true_eq_false, not_false_eq_true, decide_eq_true_eq, or_self, and_self, ite_self, Int.reduceLE])), by omega, by omega⟩
  refine wk_ls [(0, .inr (.inr (.ref 35))), (1, .inl (0))] rfl ⟨rfl, rfl, trivial⟩ (lp6 12 σ (0) (i) τ (sg_F_r [4035, 4036, 5036, 6036, 7036, 8036] σ) ht hk ?_)
  exact ⟨by rfl, by omega, by omega⟩
-- NestedVectors$Parser.type
set_option maxRecDepth 8000 in
theorem pj_typ (z : Value) (σ : sg_S) (hj : jm σ) : wx z 3 188 0 [(0, .inr (.inr (.ref 35)))] [] σ (fun v σ' => ∃ q, v = some (.inl q) ∧ sg_F [4035, 5036] σ σ' ∧ jm σ') := by
  refine wk_b tt_188 2 (pc' := 2) (ls' := [(1, .inl (0)), (0, .inr (.inr (.ref 35)))]) (st' := []) (σ' := σ) rfl ?_
  refine wk_b tt_188 2 (pc' := 5) (ls' := [(1, .inl (0)), (0, .inr (.inr (.ref 35)))]) (st' := [.inl (12), .inl (0)]) (σ' := σ) rfl ?_
  refine wk_if2 tt_188 (tgt := 33) rfl rfl (by decide) (by decide) (fun (h : 12 ≤ 0) => absurd h (by decide)) (fun _ => ?_)
  refine wk_b tt_188 4 (pc' := 17) (ls' := [(1, .inl (0)), (0, .inr (.inr (.ref 35)))]) (st' := [.inl (91), .inl ((sg_g σ 36 4))]) (σ' := σ) rfl ?_
  rw [show (sg_g σ 36 4) = 260 from by rw [hj.1]]
  refine wk_if2 tt_188 (tgt := 33) rfl rfl (by decide) (by decide) (fun _ => ?_) (fun (h : 260 = 91) => absurd h (by decide))
  refine wk_b tt_188 4 (pc' := 43) (ls' := [(1, .inl (0)), (0, .inr (.inr (.ref 35)))]) (st' := [.inl (258), .inl ((sg_g σ 36 4))]) (σ' := σ) rfl ?_
  rw [show (sg_g σ 36 4) = 260 from by rw [hj.1]]
  refine wk_if2 tt_188 (tgt := 64) rfl rfl (by decide) (by decide) (fun _ => ?_) (fun (h : 260 = 258) => absurd h (by decide))
  refine wk_b tt_188 2 (pc' := 68) (ls' := [(1, .inl (0)), (0, .inr (.inr (.ref 35)))]) (st' := [.inl (258), .inr (.inr (.ref 35))]) (σ' := σ) rfl ?_
  refine wk_call tt_188 rfl rfl rfl rfl rfl tt_173 rfl (by decide) (pj_exp z σ (258) hj (by omega)) (fun w4 σ5 hq6 => ?_)
  obtain ⟨rfl, hF7, hj8⟩ := hq6
  refine wk_b tt_188 2 (pc' := 73) (ls' := [(2, .inl (0)), (1, .inl (0)), (0, .inr (.inr (.ref 35)))]) (st' := []) (σ' := σ5) rfl ?_
  refine wk_b tt_188 2 (pc' := 75) (ls' := [(2, .inl (0)), (1, .inl (0)), (0, .inr (.inr (.ref 35)))]) (st' := [.inl (0), .inl (0)]) (σ' := σ5) rfl ?_
  refine wk_if2 tt_188 (tgt := 90) rfl rfl (by decide) (by decide) (fun _ => ?_) (fun (h : 0 < 0) => absurd h (by decide))
  refine wk_b tt_188 1 (pc' := 91) (ls' := [(2, .inl (0)), (1, .inl (0)), (0, .inr (.inr (.ref 35)))]) (st' := [.inl (0)]) (σ' := σ5) rfl ?_
  refine wk_rI tt_188 rfl rfl ?_
  exact ⟨_, rfl, (sg_F_t (sg_F_r [4035, 5036] σ) (sg_F_m (L := [4035, 5036]) hF7 rfl)), hj8⟩
