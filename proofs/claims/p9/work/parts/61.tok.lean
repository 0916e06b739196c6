-- NestedVectors$Tokens.ahead
set_option maxRecDepth 8000 in
theorem tk_ah (z : Value) (σ : sg_S) (h0 : 0 ≤ sg_g σ 36 3) (h1 : sg_g σ 36 2 ≤ 1200) : wx z 0 196 0 [(0, .inr (.inr (.ref 36)))] [] σ (fun v σ' => v = some (.inl (tk_av σ)) ∧ σ' = σ) := by
  refine wk_b tt_196 2 (pc' := 4) (ls' := [(0, .inr (.inr (.ref 36)))]) (st' := [.inl ((sg_g σ 36 3))]) (σ' := σ) rfl ?_
  have r1 := sg_Rg σ 36 3
  refine wk_if tt_196 (tgt := 46) rfl rfl (by omega) (fun (h2 : (sg_g σ 36 3) < 0) => ?_) (fun (h2 : 0 ≤ (sg_g σ 36 3)) => ?_)
  ·
    refine wk_b tt_196 1 (pc' := 47) (ls' := [(0, .inr (.inr (.ref 36)))]) (st' := [.inl (0)]) (σ' := σ) rfl ?_
    refine wk_rI tt_196 rfl rfl ?_
    exact ⟨by unfold tk_av; first | (rw [if_pos (by omega)]; rfl) | rw [if_neg (by omega)], rfl⟩
  ·
    refine wk_b tt_196 4 (pc' := 15) (ls' := [(0, .inr (.inr (.ref 36)))]) (st' := [.inl ((sg_g σ 36 2)), .inl ((sg_g σ 36 3))]) (σ' := σ) rfl ?_
    have r3 := sg_Rg σ 36 2
    refine wk_if2 tt_196 (tgt := 46) rfl rfl (by omega) (by omega) (fun (h4 : (sg_g σ 36 2) ≤ (sg_g σ 36 3)) => ?_) (fun (h4 : (sg_g σ 36 3) < (sg_g σ 36 2)) => ?_)
    ·
      refine wk_b tt_196 1 (pc' := 47) (ls' := [(0, .inr (.inr (.ref 36)))]) (st' := [.inl (0)]) (σ' := σ) rfl ?_
      refine wk_rI tt_196 rfl rfl ?_
      exact ⟨by unfold tk_av; first | (rw [if_pos (by omega)]; rfl) | rw [if_neg (by omega)], rfl⟩
    ·
      refine wk_b tt_196 5 (pc' := 27) (ls' := [(0, .inr (.inr (.ref 36)))]) (st' := [.inl (1200), .inl ((sg_g σ 36 3))]) (σ' := σ) rfl ?_
      refine wk_if2 tt_196 (tgt := 46) rfl rfl (by omega) (by decide) (fun (h5 : 1200 ≤ (sg_g σ 36 3)) => ?_) (fun (h5 : (sg_g σ 36 3) < 1200) => ?_)
      ·
        refine wk_b tt_196 1 (pc' := 47) (ls' := [(0, .inr (.inr (.ref 36)))]) (st' := [.inl (0)]) (σ' := σ) rfl ?_
        refine wk_rI tt_196 rfl rfl ?_
        exact ⟨by unfold tk_av; first | (rw [if_pos (by omega)]; rfl) | rw [if_neg (by omega)], rfl⟩
      ·
        refine wk_b tt_196 4 (pc' := 38) (ls' := [(0, .inr (.inr (.ref 36)))]) (st' := [.inl ((sg_g σ 36 3)), .inr (.inr (.ref 1))]) (σ' := σ) rfl ?_
        refine wk_ba (Or.inl rfl) tt_196 rfl rfl (by omega) (by omega) (by omega) ?_
        have r6 := sg_Rg σ 1 ((sg_g σ 36 3))
        refine wk_b tt_196 3 (pc' := 47) (ls' := [(0, .inr (.inr (.ref 36)))]) (st' := [.inl (((sg_i ((sg_g σ 1 ((sg_g σ 36 3)))) &&& sg_i (255)).toInt))]) (σ' := σ) rfl ?_
        refine wk_rI tt_196 rfl rfl ?_
        exact ⟨by unfold tk_av; first | (rw [if_pos (by omega)]; rfl) | rw [if_neg (by omega)], rfl⟩
-- NestedVectors$Tokens.isDigit
set_option maxRecDepth 8000 in
theorem tk_isDigit (z : Value) (σ : sg_S) (a0 : Int) (ra : sg_R a0) : wx z 0 197 0 [(0, .inl (a0))] [] σ (fun v σ' => σ' = σ ∧ (v = some (.inl 1) ∧ (48 ≤ a0 ∧ a0 ≤ 57) ∨ v = some (.inl 0) ∧ ¬ (48 ≤ a0 ∧ a0 ≤ 57))) := by
  refine wk_b tt_197 2 (pc' := 3) (ls' := [(0, .inl (a0))]) (st' := [.inl (48), .inl (a0)]) (σ' := σ) rfl ?_
  refine wk_if2 tt_197 (tgt := 16) rfl rfl (by omega) (by decide) (fun (h1 : a0 < 48) => ?_) (fun (h1 : 48 ≤ a0) => ?_)
  ·
    refine wk_b tt_197 1 (pc' := 17) (ls' := [(0, .inl (a0))]) (st' := [.inl (0)]) (σ' := σ) rfl ?_
    refine wk_rZ tt_197 rfl rfl (by decide) ?_
    first | exact ⟨rfl, Or.inl ⟨rfl, by omega⟩⟩ | exact ⟨rfl, Or.inr ⟨rfl, by omega⟩⟩
  ·
    refine wk_b tt_197 2 (pc' := 9) (ls' := [(0, .inl (a0))]) (st' := [.inl (57), .inl (a0)]) (σ' := σ) rfl ?_
    refine wk_if2 tt_197 (tgt := 16) rfl rfl (by omega) (by decide) (fun (h2 : 57 < a0) => ?_) (fun (h2 : a0 ≤ 57) => ?_)
    ·
      refine wk_b tt_197 1 (pc' := 17) (ls' := [(0, .inl (a0))]) (st' := [.inl (0)]) (σ' := σ) rfl ?_
      refine wk_rZ tt_197 rfl rfl (by decide) ?_
      first | exact ⟨rfl, Or.inl ⟨rfl, by omega⟩⟩ | exact ⟨rfl, Or.inr ⟨rfl, by omega⟩⟩
    ·
      refine wk_b tt_197 2 (pc' := 17) (ls' := [(0, .inl (a0))]) (st' := [.inl (1)]) (σ' := σ) rfl ?_
      refine wk_rZ tt_197 rfl rfl (by decide) ?_
      first | exact ⟨rfl, Or.inl ⟨rfl, by omega⟩⟩ | exact ⟨rfl, Or.inr ⟨rfl, by omega⟩⟩
-- NestedVectors$Tokens.isLetter
set_option maxRecDepth 8000 in
theorem tk_isLetter (z : Value) (σ : sg_S) (a0 : Int) (ra : sg_R a0) : wx z 0 198 0 [(0, .inl (a0))] [] σ (fun v σ' => σ' = σ ∧ (v = some (.inl 1) ∧ (97 ≤ a0 ∧ a0 ≤ 122) ∨ v = some (.inl 0) ∧ ¬ (97 ≤ a0 ∧ a0 ≤ 122))) := by
  refine wk_b tt_198 2 (pc' := 3) (ls' := [(0, .inl (a0))]) (st' := [.inl (97), .inl (a0)]) (σ' := σ) rfl ?_
  refine wk_if2 tt_198 (tgt := 16) rfl rfl (by omega) (by decide) (fun (h1 : a0 < 97) => ?_) (fun (h1 : 97 ≤ a0) => ?_)
  ·
    refine wk_b tt_198 1 (pc' := 17) (ls' := [(0, .inl (a0))]) (st' := [.inl (0)]) (σ' := σ) rfl ?_
    refine wk_rZ tt_198 rfl rfl (by decide) ?_
    first | exact ⟨rfl, Or.inl ⟨rfl, by omega⟩⟩ | exact ⟨rfl, Or.inr ⟨rfl, by omega⟩⟩
  ·
    refine wk_b tt_198 2 (pc' := 9) (ls' := [(0, .inl (a0))]) (st' := [.inl (122), .inl (a0)]) (σ' := σ) rfl ?_
    refine wk_if2 tt_198 (tgt := 16) rfl rfl (by omega) (by decide) (fun (h2 : 122 < a0) => ?_) (fun (h2 : a0 ≤ 122) => ?_)
    ·
      refine wk_b tt_198 1 (pc' := 17) (ls' := [(0, .inl (a0))]) (st' := [.inl (0)]) (σ' := σ) rfl ?_
      refine wk_rZ tt_198 rfl rfl (by decide) ?_
      first | exact ⟨rfl, Or.inl ⟨rfl, by omega⟩⟩ | exact ⟨rfl, Or.inr ⟨rfl, by omega⟩⟩
    ·
      refine wk_b tt_198 2 (pc' := 17) (ls' := [(0, .inl (a0))]) (st' := [.inl (1)]) (σ' := σ) rfl ?_
      refine wk_rZ tt_198 rfl rfl (by decide) ?_
      first | exact ⟨rfl, Or.inl ⟨rfl, by omega⟩⟩ | exact ⟨rfl, Or.inr ⟨rfl, by omega⟩⟩
/-- the number that n digits from q on tell, as the machine counts it -/
def lx_nv (B : Int → Int) (q : Int) : Nat → Int
  | 0 => 0
  | n + 1 => sg_n (lx_nv B q n * 10 + (B (q + n) - 48))
def lx_num (B : Int → Int) (N q w : Int) : Int := if q < N ∧ lx_d (B q) = true then lx_nv B q (lx_end B N lx_d q - q).toNat else w
-- NestedVectors$Tokens.takeNumber
set_option maxRecDepth 8000 in
theorem tk_num (z : Value) (σ : sg_S) (h0 : 0 ≤ sg_g σ 36 3) (h1 : sg_g σ 36 2 ≤ 1200) (h2 : sg_g σ 36 3 ≤ sg_g σ 36 2) (h3 : sg_g σ 36 5 = sg_g σ 36 3) : wx z 1 201 0 [(0, .inr (.inr (.ref 36)))] [] σ (fun v σ' => v = none ∧ sg_F [4036, 5036, 7036] σ σ' ∧ sg_g σ' 36 3 = lx_end (tb σ) (sg_g σ 36 2) lx_d (sg_g σ 36 3) ∧ sg_g σ' 36 4 = (if lx_end (tb σ) (sg_g σ 36 2) lx_d (sg_g σ 36 3) - sg_g σ 36 3 > 9 then 259 else 257) ∧ sg_g σ' 36 6 = lx_nv (tb σ) (sg_g σ 36 3) (lx_end (tb σ) (sg_g σ 36 2) lx_d (sg_g σ 36 3) - sg_g σ 36 3).toNat) := by
  refine wk_b tt_201 3 (pc' := 5) (ls' := [(0, .inr (.inr (.ref 36)))]) (st' := []) (σ' := (sg_w σ 36 6 (0))) rfl ?_
  have lp5 : ∀ (m4 : Nat) (σ1 : sg_S), sg_F [4036, 5036, 7036] σ σ1 → (sg_g σ 36 3 ≤ sg_g σ1 36 3 ∧ sg_g σ1 36 3 ≤ sg_g σ 36 2 ∧ (∀ t, sg_g σ 36 3 ≤ t → t < sg_g σ1 36 3 → t < sg_g σ 36 2 ∧ lx_d (tb σ t) = true) ∧ sg_g σ1 36 6 = lx_nv (tb σ) (sg_g σ 36 3) (sg_g σ1 36 3 - sg_g σ 36 3).toNat) → (sg_g σ 36 2 - sg_g σ1 36 3).toNat = m4 → wx z 1 201 5 [(0, .inr (.inr (.ref 36)))] [] σ1 (fun v σ' => v = none ∧ sg_F [4036, 5036, 7036] σ σ' ∧ sg_g σ' 36 3 = lx_end (tb σ) (sg_g σ 36 2) lx_d (sg_g σ 36 3) ∧ sg_g σ' 36 4 = (if lx_end (tb σ) (sg_g σ 36 2) lx_d (sg_g σ 36 3) - sg_g σ 36 3 > 9 then 259 else 257) ∧ sg_g σ' 36 6 = lx_nv (tb σ) (sg_g σ 36 3) (lx_end (tb σ) (sg_g σ 36 2) lx_d (sg_g σ 36 3) - sg_g σ 36 3).toNat) := by
    intro m4
    induction m4 using Nat.strongRecOn with
    | _ m4 ih3 =>
      intro σ1 hF2 hI6 hm7
      obtain ⟨i1, i2, i3, i4⟩ := hI6
      refine wk_b tt_201 4 (pc' := 13) (ls' := [(0, .inr (.inr (.ref 36)))]) (st' := [.inl ((sg_g σ1 36 2)), .inl ((sg_g σ1 36 3))]) (σ' := σ1) rfl ?_
      have r8 := sg_Rg σ1 36 3
      have r9 := sg_Rg σ 36 2
      rw [show (sg_g σ1 36 2) = (sg_g σ 36 2) from by rw [sg_F_g hF2 rfl]]
      refine wk_if2 tt_201 (tgt := 58) rfl rfl (by omega) (by omega) (fun (h10 : (sg_g σ 36 2) ≤ (sg_g σ1 36 3)) => ?_) (fun (h10 : (sg_g σ1 36 3) < (sg_g σ 36 2)) => ?_)
      ·
        refine wk_b tt_201 7 (pc' := 70) (ls' := [(0, .inr (.inr (.ref 36)))]) (st' := [.inl (9), .inl (((sg_g σ1 36 3) - (sg_g σ1 36 5))), .inr (.inr (.ref 36))]) (σ' := σ1) rfl ?_
        have r11 := sg_Rg σ 36 5
        rw [show (sg_g σ1 36 5) = (sg_g σ 36 5) from by rw [sg_F_g hF2 rfl]]
        refine wk_if2 tt_201 (tgt := 79) rfl rfl (by omega) (by decide) (fun (h12 : ((sg_g σ1 36 3) - (sg_g σ 36 5)) ≤ 9) => ?_) (fun (h12 : 9 < ((sg_g σ1 36 3) - (sg_g σ 36 5))) => ?_)
        ·
          refine wk_b tt_201 2 (pc' := 85) (ls' := [(0, .inr (.inr (.ref 36)))]) (st' := []) (σ' := (sg_w σ1 36 4 (257))) rfl ?_
          refine wk_rV tt_201 rfl rfl ?_
          have ee : lx_end (tb σ) (sg_g σ 36 2) lx_d (sg_g σ 36 3) = sg_g σ1 36 3 := lx_end_eq i1 i3 (by first | exact Or.inl (by omega) | exact Or.inr (decide_eq_false (by omega)))
          refine ⟨rfl, (sg_F_w hF2 rfl _), ?_, ?_, ?_⟩
          · rw [ee]; rw [sg_gw_k _ _ _ _ _ _ (by decide)]
          · rw [ee]; rw [sg_gw_e _ _ _ _ (by decide)]; first | rw [if_pos (by omega)] | rw [if_neg (by omega)]
          · rw [ee, sg_gw_k _ _ _ _ _ _ (by decide)]; exact i4
        ·
          refine wk_b tt_201 3 (pc' := 85) (ls' := [(0, .inr (.inr (.ref 36)))]) (st' := []) (σ' := (sg_w σ1 36 4 (259))) rfl ?_
          refine wk_rV tt_201 rfl rfl ?_
          have ee : lx_end (tb σ) (sg_g σ 36 2) lx_d (sg_g σ 36 3) = sg_g σ1 36 3 := lx_end_eq i1 i3 (by first | exact Or.inl (by omega) | exact Or.inr (decide_eq_false (by omega)))
          refine ⟨rfl, (sg_F_w hF2 rfl _), ?_, ?_, ?_⟩
          · rw [ee]; rw [sg_gw_k _ _ _ _ _ _ (by decide)]
          · rw [ee]; rw [sg_gw_e _ _ _ _ (by decide)]; first | rw [if_pos (by omega)] | rw [if_neg (by omega)]
          · rw [ee, sg_gw_k _ _ _ _ _ _ (by decide)]; exact i4
      ·
        refine wk_b tt_201 1 (pc' := 17) (ls' := [(0, .inr (.inr (.ref 36)))]) (st' := [.inr (.inr (.ref 36))]) (σ' := σ1) rfl ?_
        refine wk_callp tt_201 rfl rfl rfl rfl rfl tt_196 rfl (by decide) (tk_ah z σ1 (by omega) (by rw [sg_F_g hF2 rfl] <;> omega)) ?_
        rw [tk_av_in (σ := σ) (p := (sg_g σ1 36 3)) (n := (sg_g σ 36 2)) rfl (by rw [sg_F_g hF2 rfl]) (fun q => by rw [sg_F_ga hF2 rfl]) (by omega)]
        have b13 := tb_r σ (sg_g σ1 36 3)
        refine wk_callb tt_201 rfl rfl rfl rfl rfl tt_197 rfl (by decide) (tk_isDigit z σ1 ((tb σ (sg_g σ1 36 3))) (by omega)) (fun (h14 : 48 ≤ (tb σ (sg_g σ1 36 3)) ∧ (tb σ (sg_g σ1 36 3)) ≤ 57) => ?_) (fun (h14 : ¬ (48 ≤ (tb σ (sg_g σ1 36 3)) ∧ (tb σ (sg_g σ1 36 3)) ≤ 57)) => ?_)
        ·
          refine wk_if tt_201 (tgt := 58) rfl rfl (by decide) (fun (h : 1 = 0) => absurd h (by decide)) (fun _ => ?_)
          refine wk_b tt_201 6 (pc' := 35) (ls' := [(0, .inr (.inr (.ref 36)))]) (st' := [.inr (.inr (.ref 36)), .inl (((sg_g σ1 36 6) * 10)), .inr (.inr (.ref 36))]) (σ' := σ1) rfl ?_
          have r16 := sg_Rg σ1 36 6
          refine wk_callp tt_201 rfl rfl rfl rfl rfl tt_196 rfl (by decide) (tk_ah z σ1 (by omega) (by rw [sg_F_g hF2 rfl] <;> omega)) ?_
          rw [tk_av_in (σ := σ) (p := (sg_g σ1 36 3)) (n := (sg_g σ 36 2)) rfl (by rw [sg_F_g hF2 rfl]) (fun q => by rw [sg_F_ga hF2 rfl]) (by omega)]
          have b17 := tb_r σ (sg_g σ1 36 3)
          refine wk_b tt_201 11 (pc' := 5) (ls' := [(0, .inr (.inr (.ref 36)))]) (st' := []) (σ' := (sg_w (sg_w σ1 36 6 ((((sg_g σ1 36 6) * 10) + ((tb σ (sg_g σ1 36 3)) - 48)))) 36 3 (((sg_g (sg_w σ1 36 6 ((((sg_g σ1 36 6) * 10) + ((tb σ (sg_g σ1 36 3)) - 48)))) 36 3) + 1)))) rfl ?_
          rw [show (sg_g (sg_w σ1 36 6 ((((sg_g σ1 36 6) * 10) + ((tb σ (sg_g σ1 36 3)) - 48)))) 36 3) = (sg_g σ1 36 3) from by rw [sg_gw_k _ _ _ _ _ _ (by decide)]]
          have e_36_3 : sg_g (sg_w (sg_w σ1 36 6 ((((sg_g σ1 36 6) * 10) + ((tb σ (sg_g σ1 36 3)) - 48)))) 36 3 (((sg_g σ1 36 3) + 1))) 36 3 = ((sg_g σ1 36 3) + 1) := by rw [sg_gw_e _ _ _ _ (by omega)]
          refine wk_ls [(0, .inr (.inr (.ref 36)))] rfl ⟨rfl, trivial⟩ (ih3 _ ?_ (sg_w (sg_w σ1 36 6 ((((sg_g σ1 36 6) * 10) + ((tb σ (sg_g σ1 36 3)) - 48)))) 36 3 (((sg_g σ1 36 3) + 1))) (sg_F_w (sg_F_w hF2 rfl _) rfl _) ?_ rfl)
          · omega
          · refine ⟨by omega, by omega, fun t ht1 ht2 => ?_, ?_⟩
            · by_cases et : t < sg_g σ1 36 3
              · exact i3 t ht1 et
              · have et2 : t = sg_g σ1 36 3 := by omega
                subst et2
                exact ⟨by omega, decide_eq_true (by omega)⟩
            · rw [e_36_3, show (sg_g σ1 36 3 + 1 - sg_g σ 36 3).toNat = (sg_g σ1 36 3 - sg_g σ 36 3).toNat + 1 by omega, sg_gw_k _ _ _ _ _ _ (by decide), sg_gw, if_pos ⟨rfl, rfl⟩]
              simp only [lx_nv]
              rw [i4, show sg_g σ 36 3 + (((sg_g σ1 36 3 - sg_g σ 36 3).toNat : Nat) : Int) = sg_g σ1 36 3 by omega]
        ·
          refine wk_if tt_201 (tgt := 58) rfl rfl (by decide) (fun _ => ?_) (fun (h : ¬ 0 = 0) => absurd h (by decide))
          refine wk_b tt_201 7 (pc' := 70) (ls' := [(0, .inr (.inr (.ref 36)))]) (st' := [.inl (9), .inl (((sg_g σ1 36 3) - (sg_g σ1 36 5))), .inr (.inr (.ref 36))]) (σ' := σ1) rfl ?_
          have r19 := sg_Rg σ 36 5
          rw [show (sg_g σ1 36 5) = (sg_g σ 36 5) from by rw [sg_F_g hF2 rfl]]
          refine wk_if2 tt_201 (tgt := 79) rfl rfl (by omega) (by decide) (fun (h20 : ((sg_g σ1 36 3) - (sg_g σ 36 5)) ≤ 9) => ?_) (fun (h20 : 9 < ((sg_g σ1 36 3) - (sg_g σ 36 5))) => ?_)
          ·
            refine wk_b tt_201 2 (pc' := 85) (ls' := [(0, .inr (.inr (.ref 36)))]) (st' := []) (σ' := (sg_w σ1 36 4 (257))) rfl ?_
            refine wk_rV tt_201 rfl rfl ?_
            have ee : lx_end (tb σ) (sg_g σ 36 2) lx_d (sg_g σ 36 3) = sg_g σ1 36 3 := lx_end_eq i1 i3 (by first | exact Or.inl (by omega) | exact Or.inr (decide_eq_false (by omega)))
            refine ⟨rfl, (sg_F_w hF2 rfl _), ?_, ?_, ?_⟩
            · rw [ee]; rw [sg_gw_k _ _ _ _ _ _ (by decide)]
            · rw [ee]; rw [sg_gw_e _ _ _ _ (by decide)]; first | rw [if_pos (by omega)] | rw [if_neg (by omega)]
            · rw [ee, sg_gw_k _ _ _ _ _ _ (by decide)]; exact i4
          ·
            refine wk_b tt_201 3 (pc' := 85) (ls' := [(0, .inr (.inr (.ref 36)))]) (st' := []) (σ' := (sg_w σ1 36 4 (259))) rfl ?_
            refine wk_rV tt_201 rfl rfl ?_
            have ee : lx_end (tb σ) (sg_g σ 36 2) lx_d (sg_g σ 36 3) = sg_g σ1 36 3 := lx_end_eq i1 i3 (by first | exact Or.inl (by omega) | exact Or.inr (decide_eq_false (by omega)))
            refine ⟨rfl, (sg_F_w hF2 rfl _), ?_, ?_, ?_⟩
            · rw [ee]; rw [sg_gw_k _ _ _ _ _ _ (by decide)]
            · rw [ee]; rw [sg_gw_e _ _ _ _ (by decide)]; first | rw [if_pos (by omega)] | rw [if_neg (by omega)]
            · rw [ee, sg_gw_k _ _ _ _ _ _ (by decide)]; exact i4
  have e_36_3 : sg_g (sg_w σ 36 6 (0)) 36 3 = (sg_g σ 36 3) := by rw [sg_gw_k _ _ _ _ _ _ (by decide)]
  refine wk_ls [(0, .inr (.inr (.ref 36)))] rfl ⟨rfl, trivial⟩ (lp5 _ (sg_w σ 36 6 (0)) (sg_F_w (sg_F_r [4036, 5036, 7036] σ) rfl _) ?_ rfl)
  exact ⟨by omega, by omega, fun t ht1 ht2 => by omega, by rw [e_36_3, sg_gw_e _ _ _ _ (by decide), Int.sub_self]; rfl⟩
