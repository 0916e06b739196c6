-- NestedVectors$Tokens.ahead
set_option maxRecDepth 8000 in
theorem tk_ah (z : Value) (σ : sg_S) (h0 : 0 ≤ sg_g σ 36 3) (h1 : sg_g σ 36 2 ≤ 1200) : wx z 0 196 0 [(0, .inr (.inr (.ref 36)))] [] σ (fun v σ' => v = some (.inl (tk_av σ)) ∧ σ' = σ) := by
  refine wk_b tt_196 2 (pc' := 4) (ls' := [(0, .inr (.inr (.ref 36)))]) (st' := [.inl ((sg_g σ 36 3))]) (σ' := σ) rfl ?_
  have r1 := sg_Rg σ 36 3
  refine wk_if tt_196 (tgt := 46) rfl rfl (by omega) (fun (h2 : (sg_g σ 36 3) < 0) => ?_) (fun (h2 : 0 ≤ (sg_g σ 36 3)) => ?_)
  ·
    refine wk_b tt_196 1 (pc' := 47) (ls' := [(0, .inr (.inr (.ref 36)))]) (st' := [.inl (0)]) (σ' := σ) rfl ?_
    refine wk_rI tt_196 rfl rfl ?_
    exact ⟨by unfold tk_av; first | (rw [if_pos (by omega)]; rfl) | rw [if_neg (by omega)], rfl⟩
  ·
    refine wk_b tt_196 4 (pc' := 15) (ls' := [(0, .inr (.inr (.ref 36)))]) (st' := [.inl ((sg_g σ 36 2)), .inl ((sg_g σ 36 3))]) (σ' := σ) rfl ?_
    have r3 := sg_Rg σ 36 2
    refine wk_if2 tt_196 (tgt := 46) rfl rfl (by omega) (by omega) (fun (h4 : (sg_g σ 36 2) ≤ (sg_g σ 36 3)) => ?_) (fun (h4 : (sg_g σ 36 3) < (sg_g σ 36 2)) => ?_)
    ·
      refine wk_b tt_196 1 (pc' := 47) (ls' := [(0, .inr (.inr (.ref 36)))]) (st' := [.inl (0)]) (σ' := σ) rfl ?_
      refine wk_rI tt_196 rfl rfl ?_
      exact ⟨by unfold tk_av; first | (rw [if_pos (by omega)]; rfl) | rw [if_neg (by omega)], rfl⟩
    ·
      refine wk_b tt_196 5 (pc' := 27) (ls' := [(0, .inr (.inr (.ref 36)))]) (st' := [.inl (1200), .inl ((sg_g σ 36 3))]) (σ' := σ) rfl ?_
      refine wk_if2 tt_196 (tgt := 46) rfl rfl (by omega) (by decide) (fun (h5 : 1200 ≤ (sg_g σ 36 3)) => ?_) (fun (h5 : (sg_g σ 36 3) < 1200) => ?_)
      ·
        refine wk_b tt_196 1 (pc' := 47) (ls' := [(0, .inr (.inr (.ref 36)))]) (st' := [.inl (0)]) (σ' := σ) rfl ?_
        refine wk_rI tt_196 rfl rfl ?_
        exact ⟨by unfold tk_av; first | (rw [if_pos (by omega)]; rfl) | rw [if_neg (by omega)], rfl⟩
      ·
        refine wk_b tt_196 4 (pc' := 38) (ls' := [(0, .inr (.inr (.ref 36)))]) (st' := [.inl ((sg_g σ 36 3)), .inr (.inr (.ref 1))]) (σ' := σ) rfl ?_
        refine wk_ba (Or.inl rfl) tt_196 rfl rfl (by omega) (by omega) (by omega) ?_
        have r6 := sg_Rg σ 1 ((sg_g σ 36 3))
        refine wk_b tt_196 3 (pc' := 47) (ls' := [(0, .inr (.inr (.ref 36)))]) (st' := [.inl (((sg_i ((sg_g σ 1 ((sg_g σ 36 3)))) &&& sg_i (255)).toInt))]) (σ' := σ) rfl ?_
        refine wk_rI tt_196 rfl rfl ?_
        exact ⟨by unfold tk_av; first | (rw [if_pos (by omega)]; rfl) | rw [if_neg (by omega)], rfl⟩
-- NestedVectors$Tokens.isDigit
set_option maxRecDepth 8000 in
theorem tk_isDigit (z : Value) (σ : sg_S) (a0 : Int) (ra : sg_R a0) : wx z 0 197 0 [(0, .inl (a0))] [] σ (fun v σ' => σ' = σ ∧ (v = some (.inl 1) ∧ (48 ≤ a0 ∧ a0 ≤ 57) ∨ v = some (.inl 0) ∧ ¬ (48 ≤ a0 ∧ a0 ≤ 57))) := by
  refine wk_b tt_197 2 (pc' := 3) (ls' := [(0, .inl (a0))]) (st' := [.inl (48), .inl (a0)]) (σ' := σ) rfl ?_
  refine wk_if2 tt_197 (tgt := 16) rfl rfl (by omega) (by decide) (fun (h1 : a0 < 48) => ?_) (fun (h1 : 48 ≤ a0) => ?_)
  ·
    refine wk_b tt_197 1 (pc' := 17) (ls' := [(0, .inl (a0))]) (st' := [.inl (0)]) (σ' := σ) rfl ?_
    refine wk_rZ tt_197 rfl rfl (by decide) ?_
    first | exact ⟨rfl, Or.inl ⟨rfl, by omega⟩⟩ | exact ⟨rfl, Or.inr ⟨rfl, by omega⟩⟩
  ·
    refine wk_b tt_197 2 (pc' := 9) (ls' := [(0, .inl (a0))]) (st' := [.inl (57), .inl (a0)]) (σ' := σ) rfl ?_
    refine wk_if2 tt_197 (tgt := 16) rfl rfl (by omega) (by decide) (fun (h2 : 57 < a0) => ?_) (fun (h2 : a0 ≤ 57) => ?_)
    ·
      refine wk_b tt_197 1 (pc' := 17) (ls' := [(0, .inl (a0))]) (st' := [.inl (0)]) (σ' := σ) rfl ?_
      refine wk_rZ tt_197 rfl rfl (by decide) ?_
      first | exact ⟨rfl, Or.inl ⟨rfl, by omega⟩⟩ | exact ⟨rfl, Or.inr ⟨rfl, by omega⟩⟩
    ·
      refine wk_b tt_197 2 (pc' := 17) (ls' := [(0, .inl (a0))]) (st' := [.inl (1)]) (σ' := σ) rfl ?_
      refine wk_rZ tt_197 rfl rfl (by decide) ?_
      first | exact ⟨rfl, Or.inl ⟨rfl, by omega⟩⟩ | exact ⟨rfl, Or.inr ⟨rfl, by omega⟩⟩
-- NestedVectors$Tokens.isLetter
set_option maxRecDepth 8000 in
theorem tk_isLetter (z : Value) (σ : sg_S) (a0 : Int) (ra : sg_R a0) : wx z 0 198 0 [(0, .inl (a0))] [] σ (fun v σ' => σ' = σ ∧ (v = some (.inl 1) ∧ (97 ≤ a0 ∧ a0 ≤ 122) ∨ v = some (.inl 0) ∧ ¬ (97 ≤ a0 ∧ a0 ≤ 122))) := by
  refine wk_b tt_198 2 (pc' := 3) (ls' := [(0, .inl (a0))]) (st' := [.inl (97), .inl (a0)]) (σ' := σ) rfl ?_
  refine wk_if2 tt_198 (tgt := 16) rfl rfl (by omega) (by decide) (fun (h1 : a0 < 97) => ?_) (fun (h1 : 97 ≤ a0) => ?_)
  ·
    refine wk_b tt_198 1 (pc' := 17) (ls' := [(0, .inl (a0))]) (st' := [.inl (0)]) (σ' := σ) rfl ?_
    refine wk_rZ tt_198 rfl rfl (by decide) ?_
    first | exact ⟨rfl, Or.inl ⟨rfl, by omega⟩⟩ | exact ⟨rfl, Or.inr ⟨rfl, by omega⟩⟩
  ·
    refine wk_b tt_198 2 (pc' := 9) (ls' := [(0, .inl (a0))]) (st' := [.inl (122), .inl (a0)]) (σ' := σ) rfl ?_
    refine wk_if2 tt_198 (tgt := 16) rfl rfl (by omega) (by decide) (fun (h2 : 122 < a0) => ?_) (fun (h2 : a0 ≤ 122) => ?_)
    ·
      refine wk_b tt_198 1 (pc' := 17) (ls' := [(0, .inl (a0))]) (st' := [.inl (0)]) (σ' := σ) rfl ?_
      refine wk_rZ tt_198 rfl rfl (by decide) ?_
      first | exact ⟨rfl, Or.inl ⟨rfl, by omega⟩⟩ | exact ⟨rfl, Or.inr ⟨rfl, by omega⟩⟩
    ·
      refine wk_b tt_198 2 (pc' := 17) (ls' := [(0, .inl (a0))]) (st' := [.inl (1)]) (σ' := σ) rfl ?_
      refine wk_rZ tt_198 rfl rfl (by decide) ?_
      first | exact ⟨rfl, Or.inl ⟨rfl, by omega⟩⟩ | exact ⟨rfl, Or.inr ⟨rfl, by omega⟩⟩
/-- the number that n digits from q on tell, as the machine counts it -/
def lx_nv (B : Int → Int) (q : Int) : Nat → Int
  | 0 => 0
  | n + 1 => sg_n (lx_nv B q n * 10 + (B (q + n) - 48))
def lx_num (B : Int → Int) (N q w : Int) : Int := if q < N ∧ lx_d (B q) = true then lx_nv B q (lx_end B N lx_d q - q).toNat else w
-- NestedVectors$Tokens.takeNumber
set_option maxRecDepth 8000 in
theorem tk_num (z : Value) (σ : sg_S) (h0 : 0 ≤ sg_g σ 36 3) (h1 : sg_g σ 36 2 ≤ 1200) (h2 : sg_g σ 36 3 ≤ sg_g σ 36 2) (h3 : sg_g σ 36 5 = sg_g σ 36 3) : wx z 1 201 0 [(0, .inr (.inr (.ref 36)))] [] σ (fun v σ' => v = none ∧ sg_F [4036, 5036, 7036] σ σ' ∧ sg_g σ' 36 3 = lx_end (tb σ) (sg_g σ 36 2) lx_d (sg_g σ 36 3) ∧ sg_g σ' 36 4 = (if lx_end (tb σ) (sg_g σ 36 2) lx_d (sg_g σ 36 3) - sg_g σ 36 3 > 9 then 259 else 257) ∧ sg_g σ' 36 6 = lx_nv (tb σ) (sg_g σ 36 3) (lx_end (tb σ) (sg_g σ 36 2) lx_d (sg_g σ 36 3) - sg_g σ 36 3).toNat) := by
  refine wk_b tt_201 3 (pc' := 5) (ls' := [(0, .inr (.inr (.ref 36)))]) (st' := []) (σ' := (sg_w σ 36 6 (0))) rfl ?_
  have lp5 : ∀ (m4 : Nat) (σ1 : sg_S), sg_F [4036, 5036, 7036] σ σ1 → (sg_g σ 36 3 ≤ sg_g σ1 36 3 ∧ sg_g σ1 36 3 ≤ sg_g σ 36 2 ∧ (∀ t, sg_g σ 36 3 ≤ t → t < sg_g σ1 36 3 → t < sg_g σ 36 2 ∧ lx_d (tb σ t) = true) ∧ sg_g σ1 36 6 = lx_nv (tb σ) (sg_g σ 36 3) (sg_g σ1 36 3 - sg_g σ 36 3).toNat) → (sg_g σ 36 2 - sg_g σ1 36 3).toNat = m4 → wx z 1 201 5 [(0, .inr (.inr (.ref 36)))] [] σ1 (fun v σ' => v = none ∧ sg_F [4036, 5036, 7036] σ σ' ∧ sg_g σ' 36 3 = lx_end (tb σ) (sg_g σ 36 2) lx_d (sg_g σ 36 3) ∧ sg_g σ' 36 4 = (if lx_end (tb σ) (sg_g σ 36 2) lx_d (sg_g σ 36 3) - sg_g σ 36 3 > 9 then 259 else 257) ∧ sg_g σ' 36 6 = lx_nv (tb σ) (sg_g σ 36 3) (lx_end (tb σ) (sg_g σ 36 2) lx_d (sg_g σ 36 3) - sg_g σ 36 3).toNat) := by
    intro m4
    induction m4 using Nat.strongRecOn with
    | _ m4 ih3 =>
      intro σ1 hF2 hI6 hm7
      obtain ⟨i1, i2, i3, i4⟩ := hI6
      refine wk_b tt_201 4 (pc' := 13) (ls' := [(0, .inr (.inr (.ref 36)))]) (st' := [.inl ((sg_g σ1 36 2)), .inl ((sg_g σ1 36 3))]) (σ' := σ1) rfl ?_
      have r8 := sg_Rg σ1 36 3
      have r9 := sg_Rg σ 36 2
      rw [show (sg_g σ1 36 2) = (sg_g σ 36 2) from by rw [sg_F_g hF2 rfl]]
      refine wk_if2 tt_201 (tgt := 58) rfl rfl (by omega) (by omega) (fun (h10 : (sg_g σ 36 2) ≤ (sg_g σ1 36 3)) => ?_) (fun (h10 : (sg_g σ1 36 3) < (sg_g σ 36 2)) => ?_)
      ·
        refine wk_b tt_201 7 (pc' := 70) (ls' := [(0, .inr (.inr (.ref 36)))]) (st' := [.inl (9), .inl (((sg_g σ1 36 3) - (sg_g σ1 36 5))), .inr (.inr (.ref 36))]) (σ' := σ1) rfl ?_
        have r11 := sg_Rg σ 36 5
        rw [show (sg_g σ1 36 5) = (sg_g σ 36 5) from by rw [sg_F_g hF2 rfl]]
        refine wk_if2 tt_201 (tgt := 79) rfl rfl (by omega) (by decide) (fun (h12 : ((sg_g σ1 36 3) - (sg_g σ 36 5)) ≤ 9) => ?_) (fun (h12 : 9 < ((sg_g σ1 36 3) - (sg_g σ 36 5))) => ?_)
        ·
          refine wk_b tt_201 2 (pc' := 85) (ls' := [(0, .inr (.inr (.ref 36)))]) (st' := []) (σ' := (sg_w σ1 36 4 (257))) rfl ?_
          refine wk_rV tt_201 rfl rfl ?_
          have ee : lx_end (tb σ) (sg_g σ 36 2) lx_d (sg_g σ 36 3) = sg_g σ1 36 3 := lx_end_eq i1 i3 (by first | exact Or.inl (by omega) | exact Or.inr (decide_eq_false (by omega)))
          refine ⟨rfl, (sg_F_w hF2 rfl _), ?_, ?_, ?_⟩
          · rw [ee]; rw [sg_gw_k _ _ _ _ _ _ (by decide)]
          · rw [ee]; rw [sg_gw_e _ _ _ _ (by decide)]; first | rw [if_pos (by omega)] | rw [if_neg (by omega)]
          · rw [ee, sg_gw_k _ _ _ _ _ _ (by decide)]; exact i4
        ·
          refine wk_b tt_201 3 (pc' := 85) (ls' := [(0, .inr (.inr (.ref 36)))]) (st' := []) (σ' := (sg_w σ1 36 4 (259))) rfl ?_
          refine wk_rV tt_201 rfl rfl ?_
          have ee : lx_end (tb σ) (sg_g σ 36 2) lx_d (sg_g σ 36 3) = sg_g σ1 36 3 := lx_end_eq i1 i3 (by first | exact Or.inl (by omega) | exact Or.inr (decide_eq_false (by omega)))
          refine ⟨rfl, (sg_F_w hF2 rfl _), ?_, ?_, ?_⟩
          · rw [ee]; rw [sg_gw_k _ _ _ _ _ _ (by decide)]
          · rw [ee]; rw [sg_gw_e _ _ _ _ (by decide)]; first | rw [if_pos (by omega)] | rw [if_neg (by omega)]
          · rw [ee, sg_gw_k _ _ _ _ _ _ (by decide)]; exact i4
      ·
        refine wk_b tt_201 1 (pc' := 17) (ls' := [(0, .inr (.inr (.ref 36)))]) (st' := [.inr (.inr (.ref 36))]) (σ' := σ1) rfl ?_
        refine wk_callp tt_201 rfl rfl rfl rfl rfl tt_196 rfl (by decide) (tk_ah z σ1 (by omega) (by rw [sg_F_g hF2 rfl] <;> omega)) ?_
        rw [tk_av_in (σ := σ) (p := (sg_g σ1 36 3)) (n := (sg_g σ 36 2)) rfl (by rw [sg_F_g hF2 rfl]) (fun q => by rw [sg_F_ga hF2 rfl]) (by omega)]
        have b13 := tb_r σ (sg_g σ1 36 3)
        refine wk_callb tt_201 rfl rfl rfl rfl rfl tt_197 rfl (by decide) (tk_isDigit z σ1 ((tb σ (sg_g σ1 36 3))) (by omega)) (fun (h14 : 48 ≤ (tb σ (sg_g σ1 36 3)) ∧ (tb σ (sg_g σ1 36 3)) ≤ 57) => ?_) (fun (h14 : ¬ (48 ≤ (tb σ (sg_g σ1 36 3)) ∧ (tb σ (sg_g σ1 36 3)) ≤ 57)) => ?_)
        ·
          refine wk_if tt_201 (tgt := 58) rfl rfl (by decide) (fun (h : 1 = 0) => absurd h (by decide)) (fun _ => ?_)
          refine wk_b tt_201 6 (pc' := 35) (ls' := [(0, .inr (.inr (.ref 36)))]) (st' := [.inr (.inr (.ref 36)), .inl (((sg_g σ1 36 6) * 10)), .inr (.inr (.ref 36))]) (σ' := σ1) rfl ?_
          have r16 := sg_Rg σ1 36 6
          refine wk_callp tt_201 rfl rfl rfl rfl rfl tt_196 rfl (by decide) (tk_ah z σ1 (by omega) (by rw [sg_F_g hF2 rfl] <;> omega)) ?_
          rw [tk_av_in (σ := σ) (p := (sg_g σ1 36 3)) (n := (sg_g σ 36 2)) rfl (by rw [sg_F_g hF2 rfl]) (fun q => by rw [sg_F_ga hF2 rfl]) (by omega)]
          have b17 := tb_r σ (sg_g σ1 36 3)
          refine wk_b tt_201 11 (pc' := 5) (ls' := [(0, .inr (.inr (.ref 36)))]) (st' := []) (σ' := (sg_w (sg_w σ1 36 6 ((((sg_g σ1 36 6) * 10) + ((tb σ (sg_g σ1 36 3)) - 48)))) 36 3 (((sg_g (sg_w σ1 36 6 ((((sg_g σ1 36 6) * 10) + ((tb σ (sg_g σ1 36 3)) - 48)))) 36 3) + 1)))) rfl ?_
          rw [show (sg_g (sg_w σ1 36 6 ((((sg_g σ1 36 6) * 10) + ((tb σ (sg_g σ1 36 3)) - 48)))) 36 3) = (sg_g σ1 36 3) from by rw [sg_gw_k _ _ _ _ _ _ (by decide)]]
          have e_36_3 : sg_g (sg_w (sg_w σ1 36 6 ((((sg_g σ1 36 6) * 10) + ((tb σ (sg_g σ1 36 3)) - 48)))) 36 3 (((sg_g σ1 36 3) + 1))) 36 3 = ((sg_g σ1 36 3) + 1) := by rw [sg_gw_e _ _ _ _ (by omega)]
          refine wk_ls [(0, .inr (.inr (.ref 36)))] rfl ⟨rfl, trivial⟩ (ih3 _ ?_ (sg_w (sg_w σ1 36 6 ((((sg_g σ1 36 6) * 10) + ((tb σ (sg_g σ1 36 3)) - 48)))) 36 3 (((sg_g σ1 36 3) + 1))) (sg_F_w (sg_F_w hF2 rfl _) rfl _) ?_ rfl)
          · omega
          · refine ⟨by omega, by omega, fun t ht1 ht2 => ?_, ?_⟩
            · by_cases et : t < sg_g σ1 36 3
              · exact i3 t ht1 et
              · have et2 : t = sg_g σ1 36 3 := by omega
                subst et2
                exact ⟨by omega, decide_eq_true (by omega)⟩
            · rw [e_36_3, show (sg_g σ1 36 3 + 1 - sg_g σ 36 3).toNat = (sg_g σ1 36 3 - sg_g σ 36 3).toNat + 1 by omega, sg_gw_k _ _ _ _ _ _ (by decide), sg_gw, if_pos ⟨rfl, rfl⟩]
              simp only [lx_nv]
              rw [i4, show sg_g σ 36 3 + (((sg_g σ1 36 3 - sg_g σ 36 3).toNat : Nat) : Int) = sg_g σ1 36 3 by omega]
        ·
          refine wk_if tt_201 (tgt := 58) rfl rfl (by decide) (fun _ => ?_) (fun (h : ¬ 0 = 0) => absurd h (by decide))
          refine wk_b tt_201 7 (pc' := 70) (ls' := [(0, .inr (.inr (.ref 36)))]) (st' := [.inl (9), .inl (((sg_g σ1 36 3) - (sg_g σ1 36 5))), .inr (.inr (.ref 36))]) (σ' := σ1) rfl ?_
          have r19 := sg_Rg σ 36 5
          rw [show (sg_g σ1 36 5) = (sg_g σ 36 5) from by rw [sg_F_g hF2 rfl]]
          refine wk_if2 tt_201 (tgt := 79) rfl rfl (by omega) (by decide) (fun (h20 : ((sg_g σ1 36 3) - (sg_g σ 36 5)) ≤ 9) => ?_) (fun (h20 : 9 < ((sg_g σ1 36 3) - (sg_g σ 36 5))) => ?_)
          ·
            refine wk_b tt_201 2 (pc' := 85) (ls' := [(0, .inr (.inr (.ref 36)))]) (st' := []) (σ' := (sg_w σ1 36 4 (257))) rfl ?_
            refine wk_rV tt_201 rfl rfl ?_
            have ee : lx_end (tb σ) (sg_g σ 36 2) lx_d (sg_g σ 36 3) = sg_g σ1 36 3 := lx_end_eq i1 i3 (by first | exact Or.inl (by omega) | exact Or.inr (decide_eq_false (by omega)))
            refine ⟨rfl, (sg_F_w hF2 rfl _), ?_, ?_, ?_⟩
            · rw [ee]; rw [sg_gw_k _ _ _ _ _ _ (by decide)]
            · rw [ee]; rw [sg_gw_e _ _ _ _ (by decide)]; first | rw [if_pos (by omega)] | rw [if_neg (by omega)]
            · rw [ee, sg_gw_k _ _ _ _ _ _ (by decide)]; exact i4
          ·
            refine wk_b tt_201 3 (pc' := 85) (ls' := [(0, .inr (.inr (.ref 36)))]) (st' := []) (σ' := (sg_w σ1 36 4 (259))) rfl ?_
            refine wk_rV tt_201 rfl rfl ?_
            have ee : lx_end (tb σ) (sg_g σ 36 2) lx_d (sg_g σ 36 3) = sg_g σ1 36 3 := lx_end_eq i1 i3 (by first | exact Or.inl (by omega) | exact Or.inr (decide_eq_false (by omega)))
            refine ⟨rfl, (sg_F_w hF2 rfl _), ?_, ?_, ?_⟩
            · rw [ee]; rw [sg_gw_k _ _ _ _ _ _ (by decide)]
            · rw [ee]; rw [sg_gw_e _ _ _ _ (by decide)]; first | rw [if_pos (by omega)] | rw [if_neg (by omega)]
            · rw [ee, sg_gw_k _ _ _ _ _ _ (by decide)]; exact i4
  have e_36_3 : sg_g (sg_w σ 36 6 (0)) 36 3 = (sg_g σ 36 3) := by rw [sg_gw_k _ _ _ _ _ _ (by decide)]
  refine wk_ls [(0, .inr (.inr (.ref 36)))] rfl ⟨rfl, trivial⟩ (lp5 _ (sg_w σ 36 6 (0)) (sg_F_w (sg_F_r [4036, 5036, 7036] σ) rfl _) ?_ rfl)
  exact ⟨by omega, by omega, fun t ht1 ht2 => by omega, by rw [e_36_3, sg_gw_e _ _ _ _ (by decide), Int.sub_self]; rfl⟩
-- NestedVectors$Tokens.takeWord
set_option maxRecDepth 8000 in
theorem tk_wrd (z : Value) (σ : sg_S) (h0 : 0 ≤ sg_g σ 36 3) (h1 : sg_g σ 36 2 ≤ 1200) (h2 : sg_g σ 36 3 ≤ sg_g σ 36 2) (h3 : sg_g σ 36 5 = sg_g σ 36 3) : wx z 1 202 0 [(0, .inr (.inr (.ref 36)))] [] σ (fun v σ' => v = none ∧ sg_F [4036, 5036, 8036] σ σ' ∧ sg_g σ' 36 3 = lx_end (tb σ) (sg_g σ 36 2) lx_a (sg_g σ 36 3) ∧ sg_g σ' 36 4 = (if lx_end (tb σ) (sg_g σ 36 2) lx_a (sg_g σ 36 3) - sg_g σ 36 3 > 8 then 259 else lx_fi (sg_gl σ 37) (lx_pk (tb σ) (sg_g σ 36 3) (lx_end (tb σ) (sg_g σ 36 2) lx_a (sg_g σ 36 3) - sg_g σ 36 3).toNat) 18 0) ∧ (lx_end (tb σ) (sg_g σ 36 2) lx_a (sg_g σ 36 3) - sg_g σ 36 3 ≤ 8 → sg_gl σ' 36 7 = lx_pk (tb σ) (sg_g σ 36 3) (lx_end (tb σ) (sg_g σ 36 2) lx_a (sg_g σ 36 3) - sg_g σ 36 3).toNat)) := by
  refine wk_b tt_202 3 (pc' := 5) (ls' := [(0, .inr (.inr (.ref 36)))]) (st' := []) (σ' := (sg_wl σ 36 7 (0))) rfl ?_
  have lp5 : ∀ (m4 : Nat) (σ1 : sg_S), sg_F [4036, 5036, 8036] σ σ1 → (sg_g σ 36 3 ≤ sg_g σ1 36 3 ∧ sg_g σ1 36 3 ≤ sg_g σ 36 2 ∧ (∀ t, sg_g σ 36 3 ≤ t → t < sg_g σ1 36 3 → t < sg_g σ 36 2 ∧ lx_a (tb σ t) = true) ∧ (sg_g σ1 36 3 - sg_g σ 36 3 ≤ 8 → sg_gl σ1 36 7 = lx_pk (tb σ) (sg_g σ 36 3) (sg_g σ1 36 3 - sg_g σ 36 3).toNat)) → (sg_g σ 36 2 - sg_g σ1 36 3).toNat = m4 → wx z 1 202 5 [(0, .inr (.inr (.ref 36)))] [] σ1 (fun v σ' => v = none ∧ sg_F [4036, 5036, 8036] σ σ' ∧ sg_g σ' 36 3 = lx_end (tb σ) (sg_g σ 36 2) lx_a (sg_g σ 36 3) ∧ sg_g σ' 36 4 = (if lx_end (tb σ) (sg_g σ 36 2) lx_a (sg_g σ 36 3) - sg_g σ 36 3 > 8 then 259 else lx_fi (sg_gl σ 37) (lx_pk (tb σ) (sg_g σ 36 3) (lx_end (tb σ) (sg_g σ 36 2) lx_a (sg_g σ 36 3) - sg_g σ 36 3).toNat) 18 0) ∧ (lx_end (tb σ) (sg_g σ 36 2) lx_a (sg_g σ 36 3) - sg_g σ 36 3 ≤ 8 → sg_gl σ' 36 7 = lx_pk (tb σ) (sg_g σ 36 3) (lx_end (tb σ) (sg_g σ 36 2) lx_a (sg_g σ 36 3) - sg_g σ 36 3).toNat)) := by
    intro m4
    induction m4 using Nat.strongRecOn with
    | _ m4 ih3 =>
      intro σ1 hF2 hI6 hm7
      obtain ⟨i1, i2, i3, i4⟩ := hI6
      refine wk_b tt_202 4 (pc' := 13) (ls' := [(0, .inr (.inr (.ref 36)))]) (st' := [.inl ((sg_g σ1 36 2)), .inl ((sg_g σ1 36 3))]) (σ' := σ1) rfl ?_
      have r8 := sg_Rg σ1 36 3
      have r9 := sg_Rg σ 36 2
      rw [show (sg_g σ1 36 2) = (sg_g σ 36 2) from by rw [sg_F_g hF2 rfl]]
      refine wk_if2 tt_202 (tgt := 66) rfl rfl (by omega) (by omega) (fun (h10 : (sg_g σ 36 2) ≤ (sg_g σ1 36 3)) => ?_) (fun (h10 : (sg_g σ1 36 3) < (sg_g σ 36 2)) => ?_)
      ·
        refine wk_b tt_202 7 (pc' := 78) (ls' := [(0, .inr (.inr (.ref 36)))]) (st' := [.inl (8), .inl (((sg_g σ1 36 3) - (sg_g σ1 36 5))), .inr (.inr (.ref 36))]) (σ' := σ1) rfl ?_
        have r11 := sg_Rg σ 36 5
        rw [show (sg_g σ1 36 5) = (sg_g σ 36 5) from by rw [sg_F_g hF2 rfl]]
        refine wk_if2 tt_202 (tgt := 87) rfl rfl (by omega) (by decide) (fun (h12 : ((sg_g σ1 36 3) - (sg_g σ 36 5)) ≤ 8) => ?_) (fun (h12 : 8 < ((sg_g σ1 36 3) - (sg_g σ 36 5))) => ?_)
        ·
          refine wk_b tt_202 4 (pc' := 95) (ls' := [(1, .inl (0)), (0, .inr (.inr (.ref 36)))]) (st' := []) (σ' := (sg_w σ1 36 4 (258))) rfl ?_
          have lp18 : ∀ (m17 : Nat) (σ14 : sg_S) (v13 : Int), sg_F [4036, 5036, 8036] σ σ14 → (sg_g σ14 36 3 = sg_g σ1 36 3 ∧ sg_gl σ14 36 7 = sg_gl σ1 36 7 ∧ 0 ≤ v13 ∧ v13 ≤ 18 ∧ (8 < sg_g σ1 36 3 - sg_g σ 36 3 ∧ sg_g σ14 36 4 = 259 ∨ sg_g σ1 36 3 - sg_g σ 36 3 ≤ 8 ∧ (sg_g σ14 36 4 = 258 ∧ lx_fi (sg_gl σ 37) (sg_gl σ1 36 7) 18 0 = lx_fi (sg_gl σ 37) (sg_gl σ1 36 7) (18 - v13).toNat v13 ∨ ¬ sg_g σ14 36 4 = 258 ∧ sg_g σ14 36 4 = lx_fi (sg_gl σ 37) (sg_gl σ1 36 7) 18 0))) → (18 - v13).toNat = m17 → wx z 1 202 95 [(0, .inr (.inr (.ref 36))), (1, .inl (v13))] [] σ14 (fun v σ' => v = none ∧ sg_F [4036, 5036, 8036] σ σ' ∧ sg_g σ' 36 3 = lx_end (tb σ) (sg_g σ 36 2) lx_a (sg_g σ 36 3) ∧ sg_g σ' 36 4 = (if lx_end (tb σ) (sg_g σ 36 2) lx_a (sg_g σ 36 3) - sg_g σ 36 3 > 8 then 259 else lx_fi (sg_gl σ 37) (lx_pk (tb σ) (sg_g σ 36 3) (lx_end (tb σ) (sg_g σ 36 2) lx_a (sg_g σ 36 3) - sg_g σ 36 3).toNat) 18 0) ∧ (lx_end (tb σ) (sg_g σ 36 2) lx_a (sg_g σ 36 3) - sg_g σ 36 3 ≤ 8 → sg_gl σ' 36 7 = lx_pk (tb σ) (sg_g σ 36 3) (lx_end (tb σ) (sg_g σ 36 2) lx_a (sg_g σ 36 3) - sg_g σ 36 3).toNat)) := by
            intro m17
            induction m17 using Nat.strongRecOn with
            | _ m17 ih16 =>
              intro σ14 v13 hF15 hI19 hm20
              obtain ⟨k1, k2, k3, k4, k5⟩ := hI19
              refine wk_b tt_202 4 (pc' := 101) (ls' := [(0, .inr (.inr (.ref 36))), (1, .inl (v13))]) (st' := [.inl (18), .inl (v13)]) (σ' := σ14) rfl ?_
              refine wk_if2 tt_202 (tgt := 145) rfl rfl (by omega) (by decide) (fun (h21 : 18 ≤ v13) => ?_) (fun (h21 : v13 < 18) => ?_)
              ·
                refine wk_rV tt_202 rfl rfl ?_
                have ee : lx_end (tb σ) (sg_g σ 36 2) lx_a (sg_g σ 36 3) = sg_g σ1 36 3 := lx_end_eq i1 i3 (by first | exact Or.inl (by omega) | exact Or.inr (decide_eq_false (by omega)))
                refine ⟨rfl, hF15, ?_, ?_, fun h8 => ?_⟩
                · rw [ee, k1]
                · rw [ee, show sg_g σ14 36 4 = sg_g σ14 36 4 from rfl]
                  rcases k5 with ⟨k6, k7⟩ | ⟨k6, ⟨k7, k8⟩ | ⟨k7, k8⟩⟩
                  · rw [if_pos (by omega)]; omega
                  · rw [if_neg (by omega), ← i4 (by omega)]
                    first
                    | exact absurd k7 (by omega)
                    | (rw [k7, k8, show (18 - v13).toNat = 0 by omega]; rfl)
                  · rw [if_neg (by omega), ← i4 (by omega)]; exact k8
                · rw [ee] at h8 ⊢
                  rw [k2, i4 h8]
              ·
                refine wk_b tt_202 3 (pc' := 111) (ls' := [(0, .inr (.inr (.ref 36))), (1, .inl (v13))]) (st' := [.inl (258), .inl ((sg_g σ14 36 4))]) (σ' := σ14) rfl ?_
                have r22 := sg_Rg σ14 36 4
                refine wk_if2 tt_202 (tgt := 145) rfl rfl (by omega) (by decide) (fun (h23 : ¬ (sg_g σ14 36 4) = 258) => ?_) (fun (h23 : (sg_g σ14 36 4) = 258) => ?_)
                ·
                  refine wk_rV tt_202 rfl rfl ?_
                  have ee : lx_end (tb σ) (sg_g σ 36 2) lx_a (sg_g σ 36 3) = sg_g σ1 36 3 := lx_end_eq i1 i3 (by first | exact Or.inl (by omega) | exact Or.inr (decide_eq_false (by omega)))
                  refine ⟨rfl, hF15, ?_, ?_, fun h8 => ?_⟩
                  · rw [ee, k1]
                  · rw [ee, show sg_g σ14 36 4 = sg_g σ14 36 4 from rfl]
                    rcases k5 with ⟨k6, k7⟩ | ⟨k6, ⟨k7, k8⟩ | ⟨k7, k8⟩⟩
                    · rw [if_pos (by omega)]; omega
                    · rw [if_neg (by omega), ← i4 (by omega)]
                      first
                      | exact absurd k7 (by omega)
                      | (rw [k7, k8, show (18 - v13).toNat = 0 by omega]; rfl)
                    · rw [if_neg (by omega), ← i4 (by omega)]; exact k8
                  · rw [ee] at h8 ⊢
                    rw [k2, i4 h8]
                ·
                  refine wk_b tt_202 3 (pc' := 119) (ls' := [(0, .inr (.inr (.ref 36))), (1, .inl (v13))]) (st' := [.inl (v13), .inr (.inr (.ref 37))]) (σ' := σ14) rfl ?_
                  refine wk_callp tt_202 rfl rfl rfl rfl rfl tt_6 rfl (by decide) (at_l0 z σ14 37 18 (v13) rfl (by decide) (by omega)) ?_
                  rw [show sx_atl σ14 37 ((18 : Nat) : Int) (v13) = (sg_gl σ 37 (v13)) from by unfold sx_atl; rw [if_pos (by omega), sg_F_gal hF15 rfl]]
                  refine wk_b tt_202 3 (pc' := 127) (ls' := [(0, .inr (.inr (.ref 36))), (1, .inl (v13))]) (st' := [.inl ((bm_lc ((sg_gl σ 37 (v13))) ((sg_gl σ14 36 7))))]) (σ' := σ14) rfl ?_
                  have lc25 := bm_lc3 (x := ((sg_gl σ 37 (v13)))) (y := ((sg_gl σ14 36 7))) (sg_Rgl _ _ _) (sg_Rgl _ _ _)
                  refine wk_if tt_202 (tgt := 139) rfl rfl (by omega) (fun (h24 : ¬ (bm_lc ((sg_gl σ 37 (v13))) ((sg_gl σ14 36 7))) = 0) => ?_) (fun (h24 : (bm_lc ((sg_gl σ 37 (v13))) ((sg_gl σ14 36 7))) = 0) => ?_)
                  ·
                    refine wk_b tt_202 2 (pc' := 95) (ls' := [(1, .inl ((v13 + 1))), (0, .inr (.inr (.ref 36)))]) (st' := []) (σ' := σ14) rfl ?_
                    have e_36_3 : sg_g σ14 36 3 = (sg_g σ14 36 3) := rfl
                    have e_36_4 : sg_g σ14 36 4 = (sg_g σ14 36 4) := rfl
                    have e_36_7 : sg_gl σ14 36 7 = (sg_gl σ14 36 7) := rfl
                    refine wk_ls [(0, .inr (.inr (.ref 36))), (1, .inl ((v13 + 1)))] rfl ⟨rfl, rfl, trivial⟩ (ih16 _ ?_ σ14 ((v13 + 1)) hF15 ?_ rfl)
                    · omega
                    · refine ⟨by omega, by rw [e_36_7, k2], by omega, by omega, ?_⟩
                      rcases k5 with ⟨k6, k7⟩ | ⟨k6, ⟨k7, k8⟩ | ⟨k7, k8⟩⟩
                      · exact absurd k7 (by omega)
                      · refine Or.inr ⟨by omega, ?_⟩
                        rw [show (18 - v13).toNat = (18 - (v13 + 1)).toNat + 1 by omega, lx_fi_s _ _ (18 - (v13 + 1)).toNat v13] at k8
                        first
                        | exact Or.inl ⟨by omega, by rw [k8, if_neg (by omega)]⟩
                        | exact Or.inr ⟨by omega, by rw [k8, if_pos (by omega)]; omega⟩
                      · exact absurd k8 (by omega)
                  ·
                    refine wk_b tt_202 7 (pc' := 95) (ls' := [(1, .inl ((v13 + 1))), (0, .inr (.inr (.ref 36)))]) (st' := []) (σ' := (sg_w σ14 36 4 ((261 + v13)))) rfl ?_
                    have e_36_3 : sg_g (sg_w σ14 36 4 ((261 + v13))) 36 3 = (sg_g σ14 36 3) := by rw [sg_gw_k _ _ _ _ _ _ (by decide)]
                    have e_36_4 : sg_g (sg_w σ14 36 4 ((261 + v13))) 36 4 = (261 + v13) := by rw [sg_gw_e _ _ _ _ (by omega)]
                    have e_36_7 : sg_gl (sg_w σ14 36 4 ((261 + v13))) 36 7 = (sg_gl σ14 36 7) := by rw [sg_gw']
                    refine wk_ls [(0, .inr (.inr (.ref 36))), (1, .inl ((v13 + 1)))] rfl ⟨rfl, rfl, trivial⟩ (ih16 _ ?_ (sg_w σ14 36 4 ((261 + v13))) ((v13 + 1)) (sg_F_w hF15 rfl _) ?_ rfl)
                    · omega
                    · refine ⟨by omega, by rw [e_36_7, k2], by omega, by omega, ?_⟩
                      rcases k5 with ⟨k6, k7⟩ | ⟨k6, ⟨k7, k8⟩ | ⟨k7, k8⟩⟩
                      · exact absurd k7 (by omega)
                      · refine Or.inr ⟨by omega, ?_⟩
                        rw [show (18 - v13).toNat = (18 - (v13 + 1)).toNat + 1 by omega, lx_fi_s _ _ (18 - (v13 + 1)).toNat v13] at k8
                        first
                        | exact Or.inl ⟨by omega, by rw [k8, if_neg (by omega)]⟩
                        | exact Or.inr ⟨by omega, by rw [k8, if_pos (by omega)]; omega⟩
                      · exact absurd k8 (by omega)
          have e_36_3 : sg_g (sg_w σ1 36 4 (258)) 36 3 = (sg_g σ1 36 3) := by rw [sg_gw_k _ _ _ _ _ _ (by decide)]
          have e_36_4 : sg_g (sg_w σ1 36 4 (258)) 36 4 = 258 := by rw [sg_gw_e _ _ _ _ (by decide)]
          have e_36_7 : sg_gl (sg_w σ1 36 4 (258)) 36 7 = (sg_gl σ1 36 7) := by rw [sg_gw']
          refine wk_ls [(0, .inr (.inr (.ref 36))), (1, .inl (0))] rfl ⟨rfl, rfl, trivial⟩ (lp18 _ (sg_w σ1 36 4 (258)) (0) (sg_F_w hF2 rfl _) ?_ rfl)
          refine ⟨by omega, by rw [e_36_7], by omega, by omega, ?_⟩
          rw [e_36_4]
          first | exact Or.inl ⟨by omega, rfl⟩ | exact Or.inr ⟨by omega, Or.inl ⟨rfl, rfl⟩⟩
        ·
          refine wk_b tt_202 5 (pc' := 95) (ls' := [(1, .inl (0)), (0, .inr (.inr (.ref 36)))]) (st' := []) (σ' := (sg_w σ1 36 4 (259))) rfl ?_
          have lp31 : ∀ (m30 : Nat) (σ27 : sg_S) (v26 : Int), sg_F [4036, 5036, 8036] σ σ27 → (sg_g σ27 36 3 = sg_g σ1 36 3 ∧ sg_gl σ27 36 7 = sg_gl σ1 36 7 ∧ 0 ≤ v26 ∧ v26 ≤ 18 ∧ (8 < sg_g σ1 36 3 - sg_g σ 36 3 ∧ sg_g σ27 36 4 = 259 ∨ sg_g σ1 36 3 - sg_g σ 36 3 ≤ 8 ∧ (sg_g σ27 36 4 = 258 ∧ lx_fi (sg_gl σ 37) (sg_gl σ1 36 7) 18 0 = lx_fi (sg_gl σ 37) (sg_gl σ1 36 7) (18 - v26).toNat v26 ∨ ¬ sg_g σ27 36 4 = 258 ∧ sg_g σ27 36 4 = lx_fi (sg_gl σ 37) (sg_gl σ1 36 7) 18 0))) → (18 - v26).toNat = m30 → wx z 1 202 95 [(0, .inr (.inr (.ref 36))), (1, .inl (v26))] [] σ27 (fun v σ' => v = none ∧ sg_F [4036, 5036, 8036] σ σ' ∧ sg_g σ' 36 3 = lx_end (tb σ) (sg_g σ 36 2) lx_a (sg_g σ 36 3) ∧ sg_g σ' 36 4 = (if lx_end (tb σ) (sg_g σ 36 2) lx_a (sg_g σ 36 3) - sg_g σ 36 3 > 8 then 259 else lx_fi (sg_gl σ 37) (lx_pk (tb σ) (sg_g σ 36 3) (lx_end (tb σ) (sg_g σ 36 2) lx_a (sg_g σ 36 3) - sg_g σ 36 3).toNat) 18 0) ∧ (lx_end (tb σ) (sg_g σ 36 2) lx_a (sg_g σ 36 3) - sg_g σ 36 3 ≤ 8 → sg_gl σ' 36 7 = lx_pk (tb σ) (sg_g σ 36 3) (lx_end (tb σ) (sg_g σ 36 2) lx_a (sg_g σ 36 3) - sg_g σ 36 3).toNat)) := by
            intro m30
            induction m30 using Nat.strongRecOn with
            | _ m30 ih29 =>
              intro σ27 v26 hF28 hI32 hm33
              obtain ⟨k1, k2, k3, k4, k5⟩ := hI32
              refine wk_b tt_202 4 (pc' := 101) (ls' := [(0, .inr (.inr (.ref 36))), (1, .inl (v26))]) (st' := [.inl (18), .inl (v26)]) (σ' := σ27) rfl ?_
              refine wk_if2 tt_202 (tgt := 145) rfl rfl (by omega) (by decide) (fun (h34 : 18 ≤ v26) => ?_) (fun (h34 : v26 < 18) => ?_)
              ·
                refine wk_rV tt_202 rfl rfl ?_
                have ee : lx_end (tb σ) (sg_g σ 36 2) lx_a (sg_g σ 36 3) = sg_g σ1 36 3 := lx_end_eq i1 i3 (by first | exact Or.inl (by omega) | exact Or.inr (decide_eq_false (by omega)))
                refine ⟨rfl, hF28, ?_, ?_, fun h8 => ?_⟩
                · rw [ee, k1]
                · rw [ee, show sg_g σ27 36 4 = sg_g σ27 36 4 from rfl]
                  rcases k5 with ⟨k6, k7⟩ | ⟨k6, ⟨k7, k8⟩ | ⟨k7, k8⟩⟩
                  · rw [if_pos (by omega)]; omega
                  · rw [if_neg (by omega), ← i4 (by omega)]
                    first
                    | exact absurd k7 (by omega)
                    | (rw [k7, k8, show (18 - v26).toNat = 0 by omega]; rfl)
                  · rw [if_neg (by omega), ← i4 (by omega)]; exact k8
                · rw [ee] at h8 ⊢
                  rw [k2, i4 h8]
              ·
                refine wk_b tt_202 3 (pc' := 111) (ls' := [(0, .inr (.inr (.ref 36))), (1, .inl (v26))]) (st' := [.inl (258), .inl ((sg_g σ27 36 4))]) (σ' := σ27) rfl ?_
                have r35 := sg_Rg σ27 36 4
                refine wk_if2 tt_202 (tgt := 145) rfl rfl (by omega) (by decide) (fun (h36 : ¬ (sg_g σ27 36 4) = 258) => ?_) (fun (h36 : (sg_g σ27 36 4) = 258) => ?_)
                ·
                  refine wk_rV tt_202 rfl rfl ?_
                  have ee : lx_end (tb σ) (sg_g σ 36 2) lx_a (sg_g σ 36 3) = sg_g σ1 36 3 := lx_end_eq i1 i3 (by first | exact Or.inl (by omega) | exact Or.inr (decide_eq_false (by omega)))
                  refine ⟨rfl, hF28, ?_, ?_, fun h8 => ?_⟩
                  · rw [ee, k1]
                  · rw [ee, show sg_g σ27 36 4 = sg_g σ27 36 4 from rfl]
                    rcases k5 with ⟨k6, k7⟩ | ⟨k6, ⟨k7, k8⟩ | ⟨k7, k8⟩⟩
                    · rw [if_pos (by omega)]; omega
                    · rw [if_neg (by omega), ← i4 (by omega)]
                      first
                      | exact absurd k7 (by omega)
                      | (rw [k7, k8, show (18 - v26).toNat = 0 by omega]; rfl)
                    · rw [if_neg (by omega), ← i4 (by omega)]; exact k8
                  · rw [ee] at h8 ⊢
                    rw [k2, i4 h8]
                ·
                  refine wk_b tt_202 3 (pc' := 119) (ls' := [(0, .inr (.inr (.ref 36))), (1, .inl (v26))]) (st' := [.inl (v26), .inr (.inr (.ref 37))]) (σ' := σ27) rfl ?_
                  refine wk_callp tt_202 rfl rfl rfl rfl rfl tt_6 rfl (by decide) (at_l0 z σ27 37 18 (v26) rfl (by decide) (by omega)) ?_
                  rw [show sx_atl σ27 37 ((18 : Nat) : Int) (v26) = (sg_gl σ 37 (v26)) from by unfold sx_atl; rw [if_pos (by omega), sg_F_gal hF28 rfl]]
                  refine wk_b tt_202 3 (pc' := 127) (ls' := [(0, .inr (.inr (.ref 36))), (1, .inl (v26))]) (st' := [.inl ((bm_lc ((sg_gl σ 37 (v26))) ((sg_gl σ27 36 7))))]) (σ' := σ27) rfl ?_
                  have lc38 := bm_lc3 (x := ((sg_gl σ 37 (v26)))) (y := ((sg_gl σ27 36 7))) (sg_Rgl _ _ _) (sg_Rgl _ _ _)
                  refine wk_if tt_202 (tgt := 139) rfl rfl (by omega) (fun (h37 : ¬ (bm_lc ((sg_gl σ 37 (v26))) ((sg_gl σ27 36 7))) = 0) => ?_) (fun (h37 : (bm_lc ((sg_gl σ 37 (v26))) ((sg_gl σ27 36 7))) = 0) => ?_)
                  ·
                    refine wk_b tt_202 2 (pc' := 95) (ls' := [(1, .inl ((v26 + 1))), (0, .inr (.inr (.ref 36)))]) (st' := []) (σ' := σ27) rfl ?_
                    have e_36_3 : sg_g σ27 36 3 = (sg_g σ27 36 3) := rfl
                    have e_36_4 : sg_g σ27 36 4 = (sg_g σ27 36 4) := rfl
                    have e_36_7 : sg_gl σ27 36 7 = (sg_gl σ27 36 7) := rfl
                    refine wk_ls [(0, .inr (.inr (.ref 36))), (1, .inl ((v26 + 1)))] rfl ⟨rfl, rfl, trivial⟩ (ih29 _ ?_ σ27 ((v26 + 1)) hF28 ?_ rfl)
                    · omega
                    · refine ⟨by omega, by rw [e_36_7, k2], by omega, by omega, ?_⟩
                      rcases k5 with ⟨k6, k7⟩ | ⟨k6, ⟨k7, k8⟩ | ⟨k7, k8⟩⟩
                      · exact absurd k7 (by omega)
                      · refine Or.inr ⟨by omega, ?_⟩
                        rw [show (18 - v26).toNat = (18 - (v26 + 1)).toNat + 1 by omega, lx_fi_s _ _ (18 - (v26 + 1)).toNat v26] at k8
                        first
                        | exact Or.inl ⟨by omega, by rw [k8, if_neg (by omega)]⟩
                        | exact Or.inr ⟨by omega, by rw [k8, if_pos (by omega)]; omega⟩
                      · exact absurd k8 (by omega)
                  ·
                    refine wk_b tt_202 7 (pc' := 95) (ls' := [(1, .inl ((v26 + 1))), (0, .inr (.inr (.ref 36)))]) (st' := []) (σ' := (sg_w σ27 36 4 ((261 + v26)))) rfl ?_
                    have e_36_3 : sg_g (sg_w σ27 36 4 ((261 + v26))) 36 3 = (sg_g σ27 36 3) := by rw [sg_gw_k _ _ _ _ _ _ (by decide)]
                    have e_36_4 : sg_g (sg_w σ27 36 4 ((261 + v26))) 36 4 = (261 + v26) := by rw [sg_gw_e _ _ _ _ (by omega)]
                    have e_36_7 : sg_gl (sg_w σ27 36 4 ((261 + v26))) 36 7 = (sg_gl σ27 36 7) := by rw [sg_gw']
                    refine wk_ls [(0, .inr (.inr (.ref 36))), (1, .inl ((v26 + 1)))] rfl ⟨rfl, rfl, trivial⟩ (ih29 _ ?_ (sg_w σ27 36 4 ((261 + v26))) ((v26 + 1)) (sg_F_w hF28 rfl _) ?_ rfl)
                    · omega
                    · refine ⟨by omega, by rw [e_36_7, k2], by omega, by omega, ?_⟩
                      rcases k5 with ⟨k6, k7⟩ | ⟨k6, ⟨k7, k8⟩ | ⟨k7, k8⟩⟩
                      · exact absurd k7 (by omega)
                      · refine Or.inr ⟨by omega, ?_⟩
                        rw [show (18 - v26).toNat = (18 - (v26 + 1)).toNat + 1 by omega, lx_fi_s _ _ (18 - (v26 + 1)).toNat v26] at k8
                        first
                        | exact Or.inl ⟨by omega, by rw [k8, if_neg (by omega)]⟩
                        | exact Or.inr ⟨by omega, by rw [k8, if_pos (by omega)]; omega⟩
                      · exact absurd k8 (by omega)
          have e_36_3 : sg_g (sg_w σ1 36 4 (259)) 36 3 = (sg_g σ1 36 3) := by rw [sg_gw_k _ _ _ _ _ _ (by decide)]
          have e_36_4 : sg_g (sg_w σ1 36 4 (259)) 36 4 = 259 := by rw [sg_gw_e _ _ _ _ (by decide)]
          have e_36_7 : sg_gl (sg_w σ1 36 4 (259)) 36 7 = (sg_gl σ1 36 7) := by rw [sg_gw']
          refine wk_ls [(0, .inr (.inr (.ref 36))), (1, .inl (0))] rfl ⟨rfl, rfl, trivial⟩ (lp31 _ (sg_w σ1 36 4 (259)) (0) (sg_F_w hF2 rfl _) ?_ rfl)
          refine ⟨by omega, by rw [e_36_7], by omega, by omega, ?_⟩
          rw [e_36_4]
          first | exact Or.inl ⟨by omega, rfl⟩ | exact Or.inr ⟨by omega, Or.inl ⟨rfl, rfl⟩⟩
      ·
        refine wk_b tt_202 1 (pc' := 17) (ls' := [(0, .inr (.inr (.ref 36)))]) (st' := [.inr (.inr (.ref 36))]) (σ' := σ1) rfl ?_
        refine wk_callp tt_202 rfl rfl rfl rfl rfl tt_196 rfl (by decide) (tk_ah z σ1 (by omega) (by rw [sg_F_g hF2 rfl] <;> omega)) ?_
        rw [tk_av_in (σ := σ) (p := (sg_g σ1 36 3)) (n := (sg_g σ 36 2)) rfl (by rw [sg_F_g hF2 rfl]) (fun q => by rw [sg_F_ga hF2 rfl]) (by omega)]
        have b39 := tb_r σ (sg_g σ1 36 3)
        refine wk_callb tt_202 rfl rfl rfl rfl rfl tt_197 rfl (by decide) (tk_isDigit z σ1 ((tb σ (sg_g σ1 36 3))) (by omega)) (fun (h40 : 48 ≤ (tb σ (sg_g σ1 36 3)) ∧ (tb σ (sg_g σ1 36 3)) ≤ 57) => ?_) (fun (h40 : ¬ (48 ≤ (tb σ (sg_g σ1 36 3)) ∧ (tb σ (sg_g σ1 36 3)) ≤ 57)) => ?_)
        ·
          refine wk_if tt_202 (tgt := 36) rfl rfl (by decide) (fun _ => ?_) (fun (h : 1 = 0) => absurd h (by decide))
          refine wk_b tt_202 6 (pc' := 45) (ls' := [(0, .inr (.inr (.ref 36)))]) (st' := [.inr (.inr (.ref 36)), .inr (.inl (((sg_l ((sg_gl σ1 36 7)) <<< ((sg_i (8)).toInt64 &&& 63)).toInt))), .inr (.inr (.ref 36))]) (σ' := σ1) rfl ?_
          refine wk_callp tt_202 rfl rfl rfl rfl rfl tt_196 rfl (by decide) (tk_ah z σ1 (by omega) (by rw [sg_F_g hF2 rfl] <;> omega)) ?_
          rw [tk_av_in (σ := σ) (p := (sg_g σ1 36 3)) (n := (sg_g σ 36 2)) rfl (by rw [sg_F_g hF2 rfl]) (fun q => by rw [sg_F_ga hF2 rfl]) (by omega)]
          have b42 := tb_r σ (sg_g σ1 36 3)
          refine wk_b tt_202 10 (pc' := 5) (ls' := [(0, .inr (.inr (.ref 36)))]) (st' := []) (σ' := (sg_w (sg_wl σ1 36 7 (((sg_l (((sg_l ((sg_gl σ1 36 7)) <<< ((sg_i (8)).toInt64 &&& 63)).toInt)) ||| sg_l ((sg_n ((tb σ (sg_g σ1 36 3)))))).toInt))) 36 3 (((sg_g (sg_wl σ1 36 7 (((sg_l (((sg_l ((sg_gl σ1 36 7)) <<< ((sg_i (8)).toInt64 &&& 63)).toInt)) ||| sg_l ((sg_n ((tb σ (sg_g σ1 36 3)))))).toInt))) 36 3) + 1)))) rfl ?_
          rw [show (sg_g (sg_wl σ1 36 7 (((sg_l (((sg_l ((sg_gl σ1 36 7)) <<< ((sg_i (8)).toInt64 &&& 63)).toInt)) ||| sg_l ((sg_n ((tb σ (sg_g σ1 36 3)))))).toInt))) 36 3) = (sg_g σ1 36 3) from by rw [sg_gwl']]
          have e_36_3 : sg_g (sg_w (sg_wl σ1 36 7 (((sg_l (((sg_l ((sg_gl σ1 36 7)) <<< ((sg_i (8)).toInt64 &&& 63)).toInt)) ||| sg_l ((sg_n ((tb σ (sg_g σ1 36 3)))))).toInt))) 36 3 (((sg_g σ1 36 3) + 1))) 36 3 = ((sg_g σ1 36 3) + 1) := by rw [sg_gw_e _ _ _ _ (by omega)]
          have e_36_7 : sg_gl (sg_w (sg_wl σ1 36 7 (((sg_l (((sg_l ((sg_gl σ1 36 7)) <<< ((sg_i (8)).toInt64 &&& 63)).toInt)) ||| sg_l ((sg_n ((tb σ (sg_g σ1 36 3)))))).toInt))) 36 3 (((sg_g σ1 36 3) + 1))) 36 7 = ((sg_l (((sg_l ((sg_gl σ1 36 7)) <<< ((sg_i (8)).toInt64 &&& 63)).toInt)) ||| sg_l ((sg_n ((tb σ (sg_g σ1 36 3)))))).toInt) := by rw [sg_gw', sg_gwl_e _ _ _ _ (sg_RLr _)]
          refine wk_ls [(0, .inr (.inr (.ref 36)))] rfl ⟨rfl, trivial⟩ (ih3 _ ?_ (sg_w (sg_wl σ1 36 7 (((sg_l (((sg_l ((sg_gl σ1 36 7)) <<< ((sg_i (8)).toInt64 &&& 63)).toInt)) ||| sg_l ((sg_n ((tb σ (sg_g σ1 36 3)))))).toInt))) 36 3 (((sg_g σ1 36 3) + 1))) (sg_F_w (sg_F_wl hF2 rfl _) rfl _) ?_ rfl)
          · omega
          · refine ⟨by omega, by omega, fun t ht1 ht2 => ?_, fun h8 => ?_⟩
            · by_cases et : t < sg_g σ1 36 3
              · exact i3 t ht1 et
              · have et2 : t = sg_g σ1 36 3 := by omega
                subst et2
                exact ⟨by omega, decide_eq_true (by omega)⟩
            · rw [e_36_7, e_36_3, sg_id (z := tb σ (sg_g σ1 36 3)) (by omega), i4 (by omega)]
              exact lx_pk_step i1 (by omega) i3 (tb_r _ _)
        ·
          refine wk_if tt_202 (tgt := 36) rfl rfl (by decide) (fun (h : ¬ 0 = 0) => absurd h (by decide)) (fun _ => ?_)
          refine wk_b tt_202 1 (pc' := 27) (ls' := [(0, .inr (.inr (.ref 36)))]) (st' := [.inr (.inr (.ref 36))]) (σ' := σ1) rfl ?_
          refine wk_callp tt_202 rfl rfl rfl rfl rfl tt_196 rfl (by decide) (tk_ah z σ1 (by omega) (by rw [sg_F_g hF2 rfl] <;> omega)) ?_
          rw [tk_av_in (σ := σ) (p := (sg_g σ1 36 3)) (n := (sg_g σ 36 2)) rfl (by rw [sg_F_g hF2 rfl]) (fun q => by rw [sg_F_ga hF2 rfl]) (by omega)]
          have b44 := tb_r σ (sg_g σ1 36 3)
          refine wk_callb tt_202 rfl rfl rfl rfl rfl tt_198 rfl (by decide) (tk_isLetter z σ1 ((tb σ (sg_g σ1 36 3))) (by omega)) (fun (h45 : 97 ≤ (tb σ (sg_g σ1 36 3)) ∧ (tb σ (sg_g σ1 36 3)) ≤ 122) => ?_) (fun (h45 : ¬ (97 ≤ (tb σ (sg_g σ1 36 3)) ∧ (tb σ (sg_g σ1 36 3)) ≤ 122)) => ?_)
          ·
            refine wk_if tt_202 (tgt := 66) rfl rfl (by decide) (fun (h : 1 = 0) => absurd h (by decide)) (fun _ => ?_)
            refine wk_b tt_202 6 (pc' := 45) (ls' := [(0, .inr (.inr (.ref 36)))]) (st' := [.inr (.inr (.ref 36)), .inr (.inl (((sg_l ((sg_gl σ1 36 7)) <<< ((sg_i (8)).toInt64 &&& 63)).toInt))), .inr (.inr (.ref 36))]) (σ' := σ1) rfl ?_
            refine wk_callp tt_202 rfl rfl rfl rfl rfl tt_196 rfl (by decide) (tk_ah z σ1 (by omega) (by rw [sg_F_g hF2 rfl] <;> omega)) ?_
            rw [tk_av_in (σ := σ) (p := (sg_g σ1 36 3)) (n := (sg_g σ 36 2)) rfl (by rw [sg_F_g hF2 rfl]) (fun q => by rw [sg_F_ga hF2 rfl]) (by omega)]
            have b47 := tb_r σ (sg_g σ1 36 3)
            refine wk_b tt_202 10 (pc' := 5) (ls' := [(0, .inr (.inr (.ref 36)))]) (st' := []) (σ' := (sg_w (sg_wl σ1 36 7 (((sg_l (((sg_l ((sg_gl σ1 36 7)) <<< ((sg_i (8)).toInt64 &&& 63)).toInt)) ||| sg_l ((sg_n ((tb σ (sg_g σ1 36 3)))))).toInt))) 36 3 (((sg_g (sg_wl σ1 36 7 (((sg_l (((sg_l ((sg_gl σ1 36 7)) <<< ((sg_i (8)).toInt64 &&& 63)).toInt)) ||| sg_l ((sg_n ((tb σ (sg_g σ1 36 3)))))).toInt))) 36 3) + 1)))) rfl ?_
            rw [show (sg_g (sg_wl σ1 36 7 (((sg_l (((sg_l ((sg_gl σ1 36 7)) <<< ((sg_i (8)).toInt64 &&& 63)).toInt)) ||| sg_l ((sg_n ((tb σ (sg_g σ1 36 3)))))).toInt))) 36 3) = (sg_g σ1 36 3) from by rw [sg_gwl']]
            have e_36_3 : sg_g (sg_w (sg_wl σ1 36 7 (((sg_l (((sg_l ((sg_gl σ1 36 7)) <<< ((sg_i (8)).toInt64 &&& 63)).toInt)) ||| sg_l ((sg_n ((tb σ (sg_g σ1 36 3)))))).toInt))) 36 3 (((sg_g σ1 36 3) + 1))) 36 3 = ((sg_g σ1 36 3) + 1) := by rw [sg_gw_e _ _ _ _ (by omega)]
            have e_36_7 : sg_gl (sg_w (sg_wl σ1 36 7 (((sg_l (((sg_l ((sg_gl σ1 36 7)) <<< ((sg_i (8)).toInt64 &&& 63)).toInt)) ||| sg_l ((sg_n ((tb σ (sg_g σ1 36 3)))))).toInt))) 36 3 (((sg_g σ1 36 3) + 1))) 36 7 = ((sg_l (((sg_l ((sg_gl σ1 36 7)) <<< ((sg_i (8)).toInt64 &&& 63)).toInt)) ||| sg_l ((sg_n ((tb σ (sg_g σ1 36 3)))))).toInt) := by rw [sg_gw', sg_gwl_e _ _ _ _ (sg_RLr _)]
            refine wk_ls [(0, .inr (.inr (.ref 36)))] rfl ⟨rfl, trivial⟩ (ih3 _ ?_ (sg_w (sg_wl σ1 36 7 (((sg_l (((sg_l ((sg_gl σ1 36 7)) <<< ((sg_i (8)).toInt64 &&& 63)).toInt)) ||| sg_l ((sg_n ((tb σ (sg_g σ1 36 3)))))).toInt))) 36 3 (((sg_g σ1 36 3) + 1))) (sg_F_w (sg_F_wl hF2 rfl _) rfl _) ?_ rfl)
            · omega
            · refine ⟨by omega, by omega, fun t ht1 ht2 => ?_, fun h8 => ?_⟩
              · by_cases et : t < sg_g σ1 36 3
                · exact i3 t ht1 et
                · have et2 : t = sg_g σ1 36 3 := by omega
                  subst et2
                  exact ⟨by omega, decide_eq_true (by omega)⟩
              · rw [e_36_7, e_36_3, sg_id (z := tb σ (sg_g σ1 36 3)) (by omega), i4 (by omega)]
                exact lx_pk_step i1 (by omega) i3 (tb_r _ _)
          ·
            refine wk_if tt_202 (tgt := 66) rfl rfl (by decide) (fun _ => ?_) (fun (h : ¬ 0 = 0) => absurd h (by decide))
            refine wk_b tt_202 7 (pc' := 78) (ls' := [(0, .inr (.inr (.ref 36)))]) (st' := [.inl (8), .inl (((sg_g σ1 36 3) - (sg_g σ1 36 5))), .inr (.inr (.ref 36))]) (σ' := σ1) rfl ?_
            have r49 := sg_Rg σ 36 5
            rw [show (sg_g σ1 36 5) = (sg_g σ 36 5) from by rw [sg_F_g hF2 rfl]]
            refine wk_if2 tt_202 (tgt := 87) rfl rfl (by omega) (by decide) (fun (h50 : ((sg_g σ1 36 3) - (sg_g σ 36 5)) ≤ 8) => ?_) (fun (h50 : 8 < ((sg_g σ1 36 3) - (sg_g σ 36 5))) => ?_)
            ·
              refine wk_b tt_202 4 (pc' := 95) (ls' := [(1, .inl (0)), (0, .inr (.inr (.ref 36)))]) (st' := []) (σ' := (sg_w σ1 36 4 (258))) rfl ?_
              have lp56 : ∀ (m55 : Nat) (σ52 : sg_S) (v51 : Int), sg_F [4036, 5036, 8036] σ σ52 → (sg_g σ52 36 3 = sg_g σ1 36 3 ∧ sg_gl σ52 36 7 = sg_gl σ1 36 7 ∧ 0 ≤ v51 ∧ v51 ≤ 18 ∧ (8 < sg_g σ1 36 3 - sg_g σ 36 3 ∧ sg_g σ52 36 4 = 259 ∨ sg_g σ1 36 3 - sg_g σ 36 3 ≤ 8 ∧ (sg_g σ52 36 4 = 258 ∧ lx_fi (sg_gl σ 37) (sg_gl σ1 36 7) 18 0 = lx_fi (sg_gl σ 37) (sg_gl σ1 36 7) (18 - v51).toNat v51 ∨ ¬ sg_g σ52 36 4 = 258 ∧ sg_g σ52 36 4 = lx_fi (sg_gl σ 37) (sg_gl σ1 36 7) 18 0))) → (18 - v51).toNat = m55 → wx z 1 202 95 [(0, .inr (.inr (.ref 36))), (1, .inl (v51))] [] σ52 (fun v σ' => v = none ∧ sg_F [4036, 5036, 8036] σ σ' ∧ sg_g σ' 36 3 = lx_end (tb σ) (sg_g σ 36 2) lx_a (sg_g σ 36 3) ∧ sg_g σ' 36 4 = (if lx_end (tb σ) (sg_g σ 36 2) lx_a (sg_g σ 36 3) - sg_g σ 36 3 > 8 then 259 else lx_fi (sg_gl σ 37) (lx_pk (tb σ) (sg_g σ 36 3) (lx_end (tb σ) (sg_g σ 36 2) lx_a (sg_g σ 36 3) - sg_g σ 36 3).toNat) 18 0) ∧ (lx_end (tb σ) (sg_g σ 36 2) lx_a (sg_g σ 36 3) - sg_g σ 36 3 ≤ 8 → sg_gl σ' 36 7 = lx_pk (tb σ) (sg_g σ 36 3) (lx_end (tb σ) (sg_g σ 36 2) lx_a (sg_g σ 36 3) - sg_g σ 36 3).toNat)) := by
                intro m55
                induction m55 using Nat.strongRecOn with
                | _ m55 ih54 =>
                  intro σ52 v51 hF53 hI57 hm58
                  obtain ⟨k1, k2, k3, k4, k5⟩ := hI57
                  refine wk_b tt_202 4 (pc' := 101) (ls' := [(0, .inr (.inr (.ref 36))), (1, .inl (v51))]) (st' := [.inl (18), .inl (v51)]) (σ' := σ52) rfl ?_
                  refine wk_if2 tt_202 (tgt := 145) rfl rfl (by omega) (by decide) (fun (h59 : 18 ≤ v51) => ?_) (fun (h59 : v51 < 18) => ?_)
                  ·
                    refine wk_rV tt_202 rfl rfl ?_
                    have ee : lx_end (tb σ) (sg_g σ 36 2) lx_a (sg_g σ 36 3) = sg_g σ1 36 3 := lx_end_eq i1 i3 (by first | exact Or.inl (by omega) | exact Or.inr (decide_eq_false (by omega)))
                    refine ⟨rfl, hF53, ?_, ?_, fun h8 => ?_⟩
                    · rw [ee, k1]
                    · rw [ee, show sg_g σ52 36 4 = sg_g σ52 36 4 from rfl]
                      rcases k5 with ⟨k6, k7⟩ | ⟨k6, ⟨k7, k8⟩ | ⟨k7, k8⟩⟩
                      · rw [if_pos (by omega)]; omega
                      · rw [if_neg (by omega), ← i4 (by omega)]
                        first
                        | exact absurd k7 (by omega)
                        | (rw [k7, k8, show (18 - v51).toNat = 0 by omega]; rfl)
                      · rw [if_neg (by omega), ← i4 (by omega)]; exact k8
                    · rw [ee] at h8 ⊢
                      rw [k2, i4 h8]
                  ·
                    refine wk_b tt_202 3 (pc' := 111) (ls' := [(0, .inr (.inr (.ref 36))), (1, .inl (v51))]) (st' := [.inl (258), .inl ((sg_g σ52 36 4))]) (σ' := σ52) rfl ?_
                    have r60 := sg_Rg σ52 36 4
                    refine wk_if2 tt_202 (tgt := 145) rfl rfl (by omega) (by decide) (fun (h61 : ¬ (sg_g σ52 36 4) = 258) => ?_) (fun (h61 : (sg_g σ52 36 4) = 258) => ?_)
                    ·
                      refine wk_rV tt_202 rfl rfl ?_
                      have ee : lx_end (tb σ) (sg_g σ 36 2) lx_a (sg_g σ 36 3) = sg_g σ1 36 3 := lx_end_eq i1 i3 (by first | exact Or.inl (by omega) | exact Or.inr (decide_eq_false (by omega)))
                      refine ⟨rfl, hF53, ?_, ?_, fun h8 => ?_⟩
                      · rw [ee, k1]
                      · rw [ee, show sg_g σ52 36 4 = sg_g σ52 36 4 from rfl]
                        rcases k5 with ⟨k6, k7⟩ | ⟨k6, ⟨k7, k8⟩ | ⟨k7, k8⟩⟩
                        · rw [if_pos (by omega)]; omega
                        · rw [if_neg (by omega), ← i4 (by omega)]
                          first
                          | exact absurd k7 (by omega)
                          | (rw [k7, k8, show (18 - v51).toNat = 0 by omega]; rfl)
                        · rw [if_neg (by omega), ← i4 (by omega)]; exact k8
                      · rw [ee] at h8 ⊢
                        rw [k2, i4 h8]
                    ·
                      refine wk_b tt_202 3 (pc' := 119) (ls' := [(0, .inr (.inr (.ref 36))), (1, .inl (v51))]) (st' := [.inl (v51), .inr (.inr (.ref 37))]) (σ' := σ52) rfl ?_
                      refine wk_callp tt_202 rfl rfl rfl rfl rfl tt_6 rfl (by decide) (at_l0 z σ52 37 18 (v51) rfl (by decide) (by omega)) ?_
                      rw [show sx_atl σ52 37 ((18 : Nat) : Int) (v51) = (sg_gl σ 37 (v51)) from by unfold sx_atl; rw [if_pos (by omega), sg_F_gal hF53 rfl]]
                      refine wk_b tt_202 3 (pc' := 127) (ls' := [(0, .inr (.inr (.ref 36))), (1, .inl (v51))]) (st' := [.inl ((bm_lc ((sg_gl σ 37 (v51))) ((sg_gl σ52 36 7))))]) (σ' := σ52) rfl ?_
                      have lc63 := bm_lc3 (x := ((sg_gl σ 37 (v51)))) (y := ((sg_gl σ52 36 7))) (sg_Rgl _ _ _) (sg_Rgl _ _ _)
                      refine wk_if tt_202 (tgt := 139) rfl rfl (by omega) (fun (h62 : ¬ (bm_lc ((sg_gl σ 37 (v51))) ((sg_gl σ52 36 7))) = 0) => ?_) (fun (h62 : (bm_lc ((sg_gl σ 37 (v51))) ((sg_gl σ52 36 7))) = 0) => ?_)
                      ·
                        refine wk_b tt_202 2 (pc' := 95) (ls' := [(1, .inl ((v51 + 1))), (0, .inr (.inr (.ref 36)))]) (st' := []) (σ' := σ52) rfl ?_
                        have e_36_3 : sg_g σ52 36 3 = (sg_g σ52 36 3) := rfl
                        have e_36_4 : sg_g σ52 36 4 = (sg_g σ52 36 4) := rfl
                        have e_36_7 : sg_gl σ52 36 7 = (sg_gl σ52 36 7) := rfl
                        refine wk_ls [(0, .inr (.inr (.ref 36))), (1, .inl ((v51 + 1)))] rfl ⟨rfl, rfl, trivial⟩ (ih54 _ ?_ σ52 ((v51 + 1)) hF53 ?_ rfl)
                        · omega
                        · refine ⟨by omega, by rw [e_36_7, k2], by omega, by omega, ?_⟩
                          rcases k5 with ⟨k6, k7⟩ | ⟨k6, ⟨k7, k8⟩ | ⟨k7, k8⟩⟩
                          · exact absurd k7 (by omega)
                          · refine Or.inr ⟨by omega, ?_⟩
                            rw [show (18 - v51).toNat = (18 - (v51 + 1)).toNat + 1 by omega, lx_fi_s _ _ (18 - (v51 + 1)).toNat v51] at k8
                            first
                            | exact Or.inl ⟨by omega, by rw [k8, if_neg (by omega)]⟩
                            | exact Or.inr ⟨by omega, by rw [k8, if_pos (by omega)]; omega⟩
                          · exact absurd k8 (by omega)
                      ·
                        refine wk_b tt_202 7 (pc' := 95) (ls' := [(1, .inl ((v51 + 1))), (0, .inr (.inr (.ref 36)))]) (st' := []) (σ' := (sg_w σ52 36 4 ((261 + v51)))) rfl ?_
                        have e_36_3 : sg_g (sg_w σ52 36 4 ((261 + v51))) 36 3 = (sg_g σ52 36 3) := by rw [sg_gw_k _ _ _ _ _ _ (by decide)]
                        have e_36_4 : sg_g (sg_w σ52 36 4 ((261 + v51))) 36 4 = (261 + v51) := by rw [sg_gw_e _ _ _ _ (by omega)]
                        have e_36_7 : sg_gl (sg_w σ52 36 4 ((261 + v51))) 36 7 = (sg_gl σ52 36 7) := by rw [sg_gw']
                        refine wk_ls [(0, .inr (.inr (.ref 36))), (1, .inl ((v51 + 1)))] rfl ⟨rfl, rfl, trivial⟩ (ih54 _ ?_ (sg_w σ52 36 4 ((261 + v51))) ((v51 + 1)) (sg_F_w hF53 rfl _) ?_ rfl)
                        · omega
                        · refine ⟨by omega, by rw [e_36_7, k2], by omega, by omega, ?_⟩
                          rcases k5 with ⟨k6, k7⟩ | ⟨k6, ⟨k7, k8⟩ | ⟨k7, k8⟩⟩
                          · exact absurd k7 (by omega)
                          · refine Or.inr ⟨by omega, ?_⟩
                            rw [show (18 - v51).toNat = (18 - (v51 + 1)).toNat + 1 by omega, lx_fi_s _ _ (18 - (v51 + 1)).toNat v51] at k8
                            first
                            | exact Or.inl ⟨by omega, by rw [k8, if_neg (by omega)]⟩
                            | exact Or.inr ⟨by omega, by rw [k8, if_pos (by omega)]; omega⟩
                          · exact absurd k8 (by omega)
              have e_36_3 : sg_g (sg_w σ1 36 4 (258)) 36 3 = (sg_g σ1 36 3) := by rw [sg_gw_k _ _ _ _ _ _ (by decide)]
              have e_36_4 : sg_g (sg_w σ1 36 4 (258)) 36 4 = 258 := by rw [sg_gw_e _ _ _ _ (by decide)]
              have e_36_7 : sg_gl (sg_w σ1 36 4 (258)) 36 7 = (sg_gl σ1 36 7) := by rw [sg_gw']
              refine wk_ls [(0, .inr (.inr (.ref 36))), (1, .inl (0))] rfl ⟨rfl, rfl, trivial⟩ (lp56 _ (sg_w σ1 36 4 (258)) (0) (sg_F_w hF2 rfl _) ?_ rfl)
              refine ⟨by omega, by rw [e_36_7], by omega, by omega, ?_⟩
              rw [e_36_4]
              first | exact Or.inl ⟨by omega, rfl⟩ | exact Or.inr ⟨by omega, Or.inl ⟨rfl, rfl⟩⟩
            ·
              refine wk_b tt_202 5 (pc' := 95) (ls' := [(1, .inl (0)), (0, .inr (.inr (.ref 36)))]) (st' := []) (σ' := (sg_w σ1 36 4 (259))) rfl ?_
              have lp69 : ∀ (m68 : Nat) (σ65 : sg_S) (v64 : Int), sg_F [4036, 5036, 8036] σ σ65 → (sg_g σ65 36 3 = sg_g σ1 36 3 ∧ sg_gl σ65 36 7 = sg_gl σ1 36 7 ∧ 0 ≤ v64 ∧ v64 ≤ 18 ∧ (8 < sg_g σ1 36 3 - sg_g σ 36 3 ∧ sg_g σ65 36 4 = 259 ∨ sg_g σ1 36 3 - sg_g σ 36 3 ≤ 8 ∧ (sg_g σ65 36 4 = 258 ∧ lx_fi (sg_gl σ 37) (sg_gl σ1 36 7) 18 0 = lx_fi (sg_gl σ 37) (sg_gl σ1 36 7) (18 - v64).toNat v64 ∨ ¬ sg_g σ65 36 4 = 258 ∧ sg_g σ65 36 4 = lx_fi (sg_gl σ 37) (sg_gl σ1 36 7) 18 0))) → (18 - v64).toNat = m68 → wx z 1 202 95 [(0, .inr (.inr (.ref 36))), (1, .inl (v64))] [] σ65 (fun v σ' => v = none ∧ sg_F [4036, 5036, 8036] σ σ' ∧ sg_g σ' 36 3 = lx_end (tb σ) (sg_g σ 36 2) lx_a (sg_g σ 36 3) ∧ sg_g σ' 36 4 = (if lx_end (tb σ) (sg_g σ 36 2) lx_a (sg_g σ 36 3) - sg_g σ 36 3 > 8 then 259 else lx_fi (sg_gl σ 37) (lx_pk (tb σ) (sg_g σ 36 3) (lx_end (tb σ) (sg_g σ 36 2) lx_a (sg_g σ 36 3) - sg_g σ 36 3).toNat) 18 0) ∧ (lx_end (tb σ) (sg_g σ 36 2) lx_a (sg_g σ 36 3) - sg_g σ 36 3 ≤ 8 → sg_gl σ' 36 7 = lx_pk (tb σ) (sg_g σ 36 3) (lx_end (tb σ) (sg_g σ 36 2) lx_a (sg_g σ 36 3) - sg_g σ 36 3).toNat)) := by
                intro m68
                induction m68 using Nat.strongRecOn with
                | _ m68 ih67 =>
                  intro σ65 v64 hF66 hI70 hm71
                  obtain ⟨k1, k2, k3, k4, k5⟩ := hI70
                  refine wk_b tt_202 4 (pc' := 101) (ls' := [(0, .inr (.inr (.ref 36))), (1, .inl (v64))]) (st' := [.inl (18), .inl (v64)]) (σ' := σ65) rfl ?_
                  refine wk_if2 tt_202 (tgt := 145) rfl rfl (by omega) (by decide) (fun (h72 : 18 ≤ v64) => ?_) (fun (h72 : v64 < 18) => ?_)
                  ·
                    refine wk_rV tt_202 rfl rfl ?_
                    have ee : lx_end (tb σ) (sg_g σ 36 2) lx_a (sg_g σ 36 3) = sg_g σ1 36 3 := lx_end_eq i1 i3 (by first | exact Or.inl (by omega) | exact Or.inr (decide_eq_false (by omega)))
                    refine ⟨rfl, hF66, ?_, ?_, fun h8 => ?_⟩
                    · rw [ee, k1]
                    · rw [ee, show sg_g σ65 36 4 = sg_g σ65 36 4 from rfl]
                      rcases k5 with ⟨k6, k7⟩ | ⟨k6, ⟨k7, k8⟩ | ⟨k7, k8⟩⟩
                      · rw [if_pos (by omega)]; omega
                      · rw [if_neg (by omega), ← i4 (by omega)]
                        first
                        | exact absurd k7 (by omega)
                        | (rw [k7, k8, show (18 - v64).toNat = 0 by omega]; rfl)
                      · rw [if_neg (by omega), ← i4 (by omega)]; exact k8
                    · rw [ee] at h8 ⊢
                      rw [k2, i4 h8]
                  ·
                    refine wk_b tt_202 3 (pc' := 111) (ls' := [(0, .inr (.inr (.ref 36))), (1, .inl (v64))]) (st' := [.inl (258), .inl ((sg_g σ65 36 4))]) (σ' := σ65) rfl ?_
                    have r73 := sg_Rg σ65 36 4
                    refine wk_if2 tt_202 (tgt := 145) rfl rfl (by omega) (by decide) (fun (h74 : ¬ (sg_g σ65 36 4) = 258) => ?_) (fun (h74 : (sg_g σ65 36 4) = 258) => ?_)
                    ·
                      refine wk_rV tt_202 rfl rfl ?_
                      have ee : lx_end (tb σ) (sg_g σ 36 2) lx_a (sg_g σ 36 3) = sg_g σ1 36 3 := lx_end_eq i1 i3 (by first | exact Or.inl (by omega) | exact Or.inr (decide_eq_false (by omega)))
                      refine ⟨rfl, hF66, ?_, ?_, fun h8 => ?_⟩
                      · rw [ee, k1]
                      · rw [ee, show sg_g σ65 36 4 = sg_g σ65 36 4 from rfl]
                        rcases k5 with ⟨k6, k7⟩ | ⟨k6, ⟨k7, k8⟩ | ⟨k7, k8⟩⟩
                        · rw [if_pos (by omega)]; omega
                        · rw [if_neg (by omega), ← i4 (by omega)]
                          first
                          | exact absurd k7 (by omega)
                          | (rw [k7, k8, show (18 - v64).toNat = 0 by omega]; rfl)
                        · rw [if_neg (by omega), ← i4 (by omega)]; exact k8
                      · rw [ee] at h8 ⊢
                        rw [k2, i4 h8]
                    ·
                      refine wk_b tt_202 3 (pc' := 119) (ls' := [(0, .inr (.inr (.ref 36))), (1, .inl (v64))]) (st' := [.inl (v64), .inr (.inr (.ref 37))]) (σ' := σ65) rfl ?_
                      refine wk_callp tt_202 rfl rfl rfl rfl rfl tt_6 rfl (by decide) (at_l0 z σ65 37 18 (v64) rfl (by decide) (by omega)) ?_
                      rw [show sx_atl σ65 37 ((18 : Nat) : Int) (v64) = (sg_gl σ 37 (v64)) from by unfold sx_atl; rw [if_pos (by omega), sg_F_gal hF66 rfl]]
                      refine wk_b tt_202 3 (pc' := 127) (ls' := [(0, .inr (.inr (.ref 36))), (1, .inl (v64))]) (st' := [.inl ((bm_lc ((sg_gl σ 37 (v64))) ((sg_gl σ65 36 7))))]) (σ' := σ65) rfl ?_
                      have lc76 := bm_lc3 (x := ((sg_gl σ 37 (v64)))) (y := ((sg_gl σ65 36 7))) (sg_Rgl _ _ _) (sg_Rgl _ _ _)
                      refine wk_if tt_202 (tgt := 139) rfl rfl (by omega) (fun (h75 : ¬ (bm_lc ((sg_gl σ 37 (v64))) ((sg_gl σ65 36 7))) = 0) => ?_) (fun (h75 : (bm_lc ((sg_gl σ 37 (v64))) ((sg_gl σ65 36 7))) = 0) => ?_)
                      ·
                        refine wk_b tt_202 2 (pc' := 95) (ls' := [(1, .inl ((v64 + 1))), (0, .inr (.inr (.ref 36)))]) (st' := []) (σ' := σ65) rfl ?_
                        have e_36_3 : sg_g σ65 36 3 = (sg_g σ65 36 3) := rfl
                        have e_36_4 : sg_g σ65 36 4 = (sg_g σ65 36 4) := rfl
                        have e_36_7 : sg_gl σ65 36 7 = (sg_gl σ65 36 7) := rfl
                        refine wk_ls [(0, .inr (.inr (.ref 36))), (1, .inl ((v64 + 1)))] rfl ⟨rfl, rfl, trivial⟩ (ih67 _ ?_ σ65 ((v64 + 1)) hF66 ?_ rfl)
                        · omega
                        · refine ⟨by omega, by rw [e_36_7, k2], by omega, by omega, ?_⟩
                          rcases k5 with ⟨k6, k7⟩ | ⟨k6, ⟨k7, k8⟩ | ⟨k7, k8⟩⟩
                          · exact absurd k7 (by omega)
                          · refine Or.inr ⟨by omega, ?_⟩
                            rw [show (18 - v64).toNat = (18 - (v64 + 1)).toNat + 1 by omega, lx_fi_s _ _ (18 - (v64 + 1)).toNat v64] at k8
                            first
                            | exact Or.inl ⟨by omega, by rw [k8, if_neg (by omega)]⟩
                            | exact Or.inr ⟨by omega, by rw [k8, if_pos (by omega)]; omega⟩
                          · exact absurd k8 (by omega)
                      ·
                        refine wk_b tt_202 7 (pc' := 95) (ls' := [(1, .inl ((v64 + 1))), (0, .inr (.inr (.ref 36)))]) (st' := []) (σ' := (sg_w σ65 36 4 ((261 + v64)))) rfl ?_
                        have e_36_3 : sg_g (sg_w σ65 36 4 ((261 + v64))) 36 3 = (sg_g σ65 36 3) := by rw [sg_gw_k _ _ _ _ _ _ (by decide)]
                        have e_36_4 : sg_g (sg_w σ65 36 4 ((261 + v64))) 36 4 = (261 + v64) := by rw [sg_gw_e _ _ _ _ (by omega)]
                        have e_36_7 : sg_gl (sg_w σ65 36 4 ((261 + v64))) 36 7 = (sg_gl σ65 36 7) := by rw [sg_gw']
                        refine wk_ls [(0, .inr (.inr (.ref 36))), (1, .inl ((v64 + 1)))] rfl ⟨rfl, rfl, trivial⟩ (ih67 _ ?_ (sg_w σ65 36 4 ((261 + v64))) ((v64 + 1)) (sg_F_w hF66 rfl _) ?_ rfl)
                        · omega
                        · refine ⟨by omega, by rw [e_36_7, k2], by omega, by omega, ?_⟩
                          rcases k5 with ⟨k6, k7⟩ | ⟨k6, ⟨k7, k8⟩ | ⟨k7, k8⟩⟩
                          · exact absurd k7 (by omega)
                          · refine Or.inr ⟨by omega, ?_⟩
                            rw [show (18 - v64).toNat = (18 - (v64 + 1)).toNat + 1 by omega, lx_fi_s _ _ (18 - (v64 + 1)).toNat v64] at k8
                            first
                            | exact Or.inl ⟨by omega, by rw [k8, if_neg (by omega)]⟩
                            | exact Or.inr ⟨by omega, by rw [k8, if_pos (by omega)]; omega⟩
                          · exact absurd k8 (by omega)
              have e_36_3 : sg_g (sg_w σ1 36 4 (259)) 36 3 = (sg_g σ1 36 3) := by rw [sg_gw_k _ _ _ _ _ _ (by decide)]
              have e_36_4 : sg_g (sg_w σ1 36 4 (259)) 36 4 = 259 := by rw [sg_gw_e _ _ _ _ (by decide)]
              have e_36_7 : sg_gl (sg_w σ1 36 4 (259)) 36 7 = (sg_gl σ1 36 7) := by rw [sg_gw']
              refine wk_ls [(0, .inr (.inr (.ref 36))), (1, .inl (0))] rfl ⟨rfl, rfl, trivial⟩ (lp69 _ (sg_w σ1 36 4 (259)) (0) (sg_F_w hF2 rfl _) ?_ rfl)
              refine ⟨by omega, by rw [e_36_7], by omega, by omega, ?_⟩
              rw [e_36_4]
              first | exact Or.inl ⟨by omega, rfl⟩ | exact Or.inr ⟨by omega, Or.inl ⟨rfl, rfl⟩⟩
  have e_36_3 : sg_g (sg_wl σ 36 7 (0)) 36 3 = (sg_g σ 36 3) := by rw [sg_gwl']
  have e_36_7 : sg_gl (sg_wl σ 36 7 (0)) 36 7 = 0 := by rw [sg_gwl_e _ _ _ _ (by decide)]
  refine wk_ls [(0, .inr (.inr (.ref 36)))] rfl ⟨rfl, trivial⟩ (lp5 _ (sg_wl σ 36 7 (0)) (sg_F_wl (sg_F_r [4036, 5036, 8036] σ) rfl _) ?_ rfl)
  exact ⟨by omega, by omega, fun t ht1 ht2 => by omega, fun _ => by rw [e_36_7, e_36_3, show (sg_g σ 36 3 - sg_g σ 36 3).toNat = 0 by omega]; rfl⟩
