/-! What the public methods of the class ask for. -/
def V_nRun (σ : sg_S) (a1 : Int) (Q : Int → sg_S → Prop) : Prop := ∀ z, wx z 8 126 0 [(0, .inr (.inr (.ref 45))), (1, .inl a1)] [] σ (fun v σ' => ∃ q, v = some (.inl q) ∧ sg_R q ∧ sg_F [45, 46, 47, 48, 49, 50, 51, 52, 53, 54, 55, 56, 57, 58, 59, 60] σ σ' ∧ Q q σ')
theorem w_nRun (z : Value) (σ : sg_S) (a1 : Int) (Q : Int → sg_S → Prop) (_ : sg_R a1) (w : V_nRun σ a1 Q) : wx z 8 126 0 [(0, .inr (.inr (.ref 45))), (1, .inl a1)] [] σ (fun v σ' => ∃ q, v = some (.inl q) ∧ sg_R q ∧ sg_F [45, 46, 47, 48, 49, 50, 51, 52, 53, 54, 55, 56, 57, 58, 59, 60] σ σ' ∧ Q q σ') := w z
-- NestedVectors.byteOf
def V_cByteOf (σ : sg_S) (a0 : Int) (a1 : Int) (Q : Int → sg_S → Prop) : Prop := sg_R (8 * a1) ∧ Q (((sg_i ((sg_n ((((sg_l (a0)).toUInt64 >>> ((sg_i ((8 * a1))).toInt64.toUInt64 &&& Int64.toUInt64 63)).toInt64).toInt))) &&& sg_i (255)).toInt)) σ
set_option maxHeartbeats 4000000 in
set_option maxRecDepth 8000 in
theorem w_cByteOf (z : Value) (σ : sg_S) (a0 : Int) (a1 : Int) (Q : Int → sg_S → Prop) (ra0 : sg_RL a0) (ra1 : sg_R a1) (w : V_cByteOf σ a0 a1 Q) : wx z 0 9 0 [(0, .inr (.inl (a0))), (2, .inl (a1))] [] σ (fun v σ' => ∃ q, v = some (.inl q) ∧ sg_R q ∧ σ = σ' ∧ Q q σ') := by
  unfold V_cByteOf at w
  obtain ⟨c1, w⟩ := w
  refine wk_b tt_9 6 (pc' := 7) (ls' := [(0, .inr (.inl (a0))), (2, .inl (a1))]) (st' := [.inl (((((sg_l (a0)).toUInt64 >>> ((sg_i ((8 * a1))).toInt64.toUInt64 &&& Int64.toUInt64 63)).toInt64).toInt))]) (σ' := σ) rfl ?_
  refine wk_n ?_
  refine wk_b tt_9 2 (pc' := 11) (ls' := [(0, .inr (.inl (a0))), (2, .inl (a1))]) (st' := [.inl (((sg_i ((sg_n ((((sg_l (a0)).toUInt64 >>> ((sg_i ((8 * a1))).toInt64.toUInt64 &&& Int64.toUInt64 63)).toInt64).toInt))) &&& sg_i (255)).toInt))]) (σ' := σ) rfl ?_
  exact wk_rI tt_9 rfl rfl ⟨_, rfl, (sg_Rr _), rfl, w⟩
-- NestedVectors.feed
def V_cFeed (σ : sg_S) (a1 : Int) (Q : Int → sg_S → Prop) : Prop := (∃ (I4 : Nat → Int → Prop) (X6 : Int → Prop), (∃ n, I4 n (0)) ∧ (∀ (n14 : Nat) (v1 : Int), sg_R v1 → I4 n14 v1 → ((8 ≤ v1 → X6 (v1)) ∧ (v1 < 8 → V_cByteOf σ (a1) (v1) (fun q58 _ => sg_R q58 → ((q58 = 0 → X6 (v1)) ∧ (¬ q58 = 0 → sg_R (v1 + 1) ∧ (∃ m, m < n14 ∧ I4 m ((v1 + 1))))))))) ∧ (∀ (v1 : Int), sg_R v1 → X6 v1 → sg_R ((sg_g σ 0 8) + v1) ∧ ((((sg_g σ 0 8) + v1) ≤ 1200 → (∃ (I21 : Nat → Int → sg_S → Prop) (X23 : sg_S → Prop), (∃ n, I21 n (0) σ) ∧ (∀ (n31 : Nat) (v18 : Int) (σ19 : sg_S), sg_R v18 → sg_F [1, 9000] σ σ19 → I21 n31 v18 σ19 → ((v1 ≤ v18 → X23 σ19) ∧ (v18 < v1 → (∃ P36 : sg_S → Prop, (((sg_g σ19 0 8) < 0 → P36 σ19) ∧ (0 ≤ (sg_g σ19 0 8) → ((1200 ≤ (sg_g σ19 0 8) → P36 σ19) ∧ ((sg_g σ19 0 8) < 1200 → V_cByteOf σ19 (a1) (v18) (fun q43 _ => sg_R q43 → (0 ≤ (sg_g σ19 0 8) ∧ (sg_g σ19 0 8) < 1200) ∧ ∀ σ50, σ50 = (sg_w σ19 1 ((sg_g σ19 0 8)) ((am_nb 1 (sg_i ((((sg_i (q43)).toInt8.toInt32).toInt)))).toInt)) → sg_R ((sg_g σ19 0 8) + 1) ∧ ∀ σ54, σ54 = (sg_w σ50 0 8 (((sg_g σ19 0 8) + 1))) → P36 σ54))))) ∧ (∀ (σ37 : sg_S), sg_F [1, 9000] σ19 σ37 → P36 σ37 → sg_R (v18 + 1) ∧ (∃ m, m < n31 ∧ I21 m ((v18 + 1)) σ37)))))) ∧ (∀ (σ19 : sg_S), sg_F [1, 9000] σ σ19 → X23 σ19 → Q ((sg_g σ19 0 8)) σ19))) ∧ (1200 < ((sg_g σ 0 8) + v1) → Q ((-3)) σ))))
set_option maxHeartbeats 4000000 in
set_option maxRecDepth 8000 in
theorem w_cFeed (z : Value) (σ : sg_S) (a1 : Int) (Q : Int → sg_S → Prop) (ra1 : sg_RL a1) (w : V_cFeed σ a1 Q) : wx z 1 14 0 [(0, .inr (.inr (.ref 0))), (1, .inr (.inl (a1)))] [] σ (fun v σ' => ∃ q, v = some (.inl q) ∧ sg_R q ∧ sg_F [1, 9000] σ σ' ∧ Q q σ') := by
  unfold V_cFeed at w
  refine wk_b tt_14 2 (pc' := 2) (ls' := [(3, .inl (0)), (0, .inr (.inr (.ref 0))), (1, .inr (.inl (a1)))]) (st' := []) (σ' := σ) rfl ?_
  obtain ⟨I4, X6, ⟨μ5, w11⟩, w12, w13⟩ := w
  have ex15 : ∀ (v1 : Int), sg_R v1 → X6 v1 → wx z 1 14 22 [(0, .inr (.inr (.ref 0))), (1, .inr (.inl (a1))), (3, .inl (v1))] [] σ (fun v σ' => ∃ q, v = some (.inl q) ∧ sg_R q ∧ sg_F [1, 9000] σ σ' ∧ Q q σ') := by
    intro v1 r7 w
    have w := w13 v1 r7 w
    obtain ⟨c16, w⟩ := w
    refine wk_b tt_14 5 (pc' := 31) (ls' := [(0, .inr (.inr (.ref 0))), (1, .inr (.inl (a1))), (3, .inl (v1))]) (st' := [.inl (1200), .inl (((sg_g σ 0 8) + v1))]) (σ' := σ) rfl ?_
    refine wk_if2 tt_14 (tgt := 37) rfl rfl c16 (by decide) (fun (h17 : ((sg_g σ 0 8) + v1) ≤ 1200) => ?_) (fun (h17 : 1200 < ((sg_g σ 0 8) + v1)) => ?_)
    ·
      have w := w.1 h17
      refine wk_b tt_14 2 (pc' := 40) (ls' := [(4, .inl (0)), (0, .inr (.inr (.ref 0))), (1, .inr (.inl (a1))), (3, .inl (v1))]) (st' := []) (σ' := σ) rfl ?_
      obtain ⟨I21, X23, ⟨μ22, w28⟩, w29, w30⟩ := w
      have ex32 : ∀ (σ19 : sg_S), sg_F [1, 9000] σ σ19 → X23 σ19 → wx z 1 14 97 [(0, .inr (.inr (.ref 0)))] [] σ19 (fun v σ' => ∃ q, v = some (.inl q) ∧ sg_R q ∧ sg_F [1, 9000] σ σ' ∧ Q q σ') := by
        intro σ19 hF20 w
        have w := w30 σ19 hF20 w
        refine wk_b tt_14 2 (pc' := 101) (ls' := [(0, .inr (.inr (.ref 0)))]) (st' := [.inl ((sg_g σ19 0 8))]) (σ' := σ19) rfl ?_
        exact wk_rI tt_14 rfl rfl ⟨_, rfl, (sg_Rg _ _ _), (sg_F_t (sg_F_r [1, 9000] σ) (sg_F_m (L := [1, 9000]) hF20 rfl)), w⟩
      have lp27 : ∀ (n31 : Nat) (v18 : Int) (σ19 : sg_S), sg_R v18 → sg_F [1, 9000] σ σ19 → I21 n31 v18 σ19 → wx z 1 14 40 [(0, .inr (.inr (.ref 0))), (1, .inr (.inl (a1))), (3, .inl (v1)), (4, .inl (v18))] [] σ19 (fun v σ' => ∃ q, v = some (.inl q) ∧ sg_R q ∧ sg_F [1, 9000] σ σ' ∧ Q q σ') := by
        intro n31
        induction n31 using Nat.strongRecOn with
        | _ n31 ih25 =>
          intro v18 σ19 r24 hF20 w
          have w := w29 n31 v18 σ19 r24 hF20 w
          refine wk_b tt_14 2 (pc' := 43) (ls' := [(0, .inr (.inr (.ref 0))), (1, .inr (.inl (a1))), (3, .inl (v1)), (4, .inl (v18))]) (st' := [.inl (v1), .inl (v18)]) (σ' := σ19) rfl ?_
          refine wk_if2 tt_14 (tgt := 97) rfl rfl r24 r7 (fun (h33 : v1 ≤ v18) => ?_) (fun (h33 : v18 < v1) => ?_)
          ·
            have w := w.1 h33
            exact wk_ls [(0, .inr (.inr (.ref 0)))] rfl ⟨rfl, trivial⟩ (ex32  σ19  (sg_F_t (sg_F_r [1, 9000] σ) (sg_F_m (L := [1, 9000]) hF20 rfl)) w)
          ·
            have w := w.2 h33
            refine wk_b tt_14 2 (pc' := 50) (ls' := [(0, .inr (.inr (.ref 0))), (1, .inr (.inl (a1))), (3, .inl (v1)), (4, .inl (v18))]) (st' := [.inl ((sg_g σ19 0 8))]) (σ' := σ19) rfl ?_
            obtain ⟨P36, w, w39⟩ := w
            have jn35 : ∀ (σ37 : sg_S), sg_F [1, 9000] σ19 σ37 → P36 σ37 → wx z 1 14 91 [(0, .inr (.inr (.ref 0))), (1, .inr (.inl (a1))), (3, .inl (v1)), (4, .inl (v18))] [] σ37 (fun v σ' => ∃ q, v = some (.inl q) ∧ sg_R q ∧ sg_F [1, 9000] σ σ' ∧ Q q σ') := by
              intro σ37 hF38 w
              have w := w39 σ37 hF38 w
              obtain ⟨c40, w⟩ := w
              refine wk_b tt_14 2 (pc' := 40) (ls' := [(4, .inl ((v18 + 1))), (0, .inr (.inr (.ref 0))), (1, .inr (.inl (a1))), (3, .inl (v1))]) (st' := []) (σ' := σ37) rfl ?_
              obtain ⟨m41, hm41, w⟩ := w
              exact wk_ls [(0, .inr (.inr (.ref 0))), (1, .inr (.inl (a1))), (3, .inl (v1)), (4, .inl ((v18 + 1)))] rfl ⟨rfl, rfl, rfl, rfl, trivial⟩ (ih25 m41 hm41 ((v18 + 1)) σ37 c40 (sg_F_t (sg_F_t (sg_F_r [1, 9000] σ) (sg_F_m (L := [1, 9000]) hF20 rfl)) (sg_F_m (L := [1, 9000]) hF38 rfl)) w)
            refine wk_if tt_14 (tgt := 91) rfl rfl (sg_Rg _ _ _) (fun (h34 : (sg_g σ19 0 8) < 0) => ?_) (fun (h34 : 0 ≤ (sg_g σ19 0 8)) => ?_)
            ·
              have w := w.1 h34
              exact wk_ls [(0, .inr (.inr (.ref 0))), (1, .inr (.inl (a1))), (3, .inl (v1)), (4, .inl (v18))] rfl ⟨rfl, rfl, rfl, rfl, trivial⟩ (jn35 σ19 (sg_F_r [1, 9000] σ19) w)
            ·
              have w := w.2 h34
              refine wk_b tt_14 5 (pc' := 62) (ls' := [(0, .inr (.inr (.ref 0))), (1, .inr (.inl (a1))), (3, .inl (v1)), (4, .inl (v18))]) (st' := [.inl (1200), .inl ((sg_g σ19 0 8))]) (σ' := σ19) rfl ?_
              refine wk_if2 tt_14 (tgt := 91) rfl rfl (sg_Rg _ _ _) (by decide) (fun (h42 : 1200 ≤ (sg_g σ19 0 8)) => ?_) (fun (h42 : (sg_g σ19 0 8) < 1200) => ?_)
              ·
                have w := w.1 h42
                exact wk_ls [(0, .inr (.inr (.ref 0))), (1, .inr (.inl (a1))), (3, .inl (v1)), (4, .inl (v18))] rfl ⟨rfl, rfl, rfl, rfl, trivial⟩ (jn35 σ19 (sg_F_r [1, 9000] σ19) w)
              ·
                have w := w.2 h42
                refine wk_b tt_14 6 (pc' := 76) (ls' := [(0, .inr (.inr (.ref 0))), (1, .inr (.inl (a1))), (3, .inl (v1)), (4, .inl (v18))]) (st' := [.inl (v18), .inr (.inl (a1)), .inl ((sg_g σ19 0 8)), .inr (.inr (.ref 1))]) (σ' := σ19) rfl ?_
                refine wk_call tt_14 rfl rfl rfl rfl rfl tt_9 rfl (by decide) (w_cByteOf z σ19 (a1) (v18) _ ra1 r24 w) (fun u48 σ44 hq46 => ?_)
                obtain ⟨q43, rfl, r47, rfl, w⟩ := hq46
                have w := w r47
                refine wk_b tt_14 1 (pc' := 80) (ls' := [(0, .inr (.inr (.ref 0))), (1, .inr (.inl (a1))), (3, .inl (v1)), (4, .inl (v18))]) (st' := [.inl ((((sg_i (q43)).toInt8.toInt32).toInt)), .inl ((sg_g σ19 0 8)), .inr (.inr (.ref 1))]) (σ' := σ19) rfl ?_
                obtain ⟨c49, w⟩ := w
                refine wk_bs (Or.inl rfl) tt_14 rfl rfl c49.1 c49.2 (sg_Rg _ _ _) ?_
                generalize hs51 : (sg_w σ19 1 ((sg_g σ19 0 8)) ((am_nb 1 (sg_i ((((sg_i (q43)).toInt8.toInt32).toInt)))).toInt)) = σ50
                have w := w σ50 hs51.symm
                have hF52 : sg_F [1] σ19 σ50 := by rw [← hs51]; exact sg_F_w (sg_F_r _ _) rfl _
                obtain ⟨c53, w⟩ := w
                refine wk_b tt_14 6 (pc' := 91) (ls' := [(0, .inr (.inr (.ref 0))), (1, .inr (.inl (a1))), (3, .inl (v1)), (4, .inl (v18))]) (st' := []) (σ' := (sg_w σ50 0 8 (((sg_g σ50 0 8) + 1)))) rfl ?_
                rw [show (sg_g σ50 0 8) = (sg_g σ19 0 8) from by rw [sg_F_ga hF52 rfl]]
                generalize hs55 : (sg_w σ50 0 8 (((sg_g σ19 0 8) + 1))) = σ54
                have w := w σ54 hs55.symm
                have hF56 : sg_F [9000] σ50 σ54 := by rw [← hs55]; exact sg_F_w (sg_F_r _ _) rfl _
                exact wk_ls [(0, .inr (.inr (.ref 0))), (1, .inr (.inl (a1))), (3, .inl (v1)), (4, .inl (v18))] rfl ⟨rfl, rfl, rfl, rfl, trivial⟩ (jn35 σ54 (sg_F_t (sg_F_t (sg_F_r [1, 9000] σ19) (sg_F_m (L := [1, 9000]) hF52 rfl)) (sg_F_m (L := [1, 9000]) hF56 rfl)) w)
      exact wk_ls [(0, .inr (.inr (.ref 0))), (1, .inr (.inl (a1))), (3, .inl (v1)), (4, .inl (0))] rfl ⟨rfl, rfl, rfl, rfl, trivial⟩ (lp27 μ22 (0) σ (by decide) (sg_F_r _ _) w28)
    ·
      have w := w.2 h17
      refine wk_b tt_14 1 (pc' := 36) (ls' := [(0, .inr (.inr (.ref 0))), (1, .inr (.inl (a1))), (3, .inl (v1))]) (st' := [.inl ((-3))]) (σ' := σ) rfl ?_
      exact wk_rI tt_14 rfl rfl ⟨_, rfl, (by decide), (sg_F_r [1, 9000] σ), w⟩
  have lp10 : ∀ (n14 : Nat) (v1 : Int), sg_R v1 → I4 n14 v1 → wx z 1 14 2 [(0, .inr (.inr (.ref 0))), (1, .inr (.inl (a1))), (3, .inl (v1))] [] σ (fun v σ' => ∃ q, v = some (.inl q) ∧ sg_R q ∧ sg_F [1, 9000] σ σ' ∧ Q q σ') := by
    intro n14
    induction n14 using Nat.strongRecOn with
    | _ n14 ih8 =>
      intro v1 r7 w
      have w := w12 n14 v1 r7 w
      refine wk_b tt_14 2 (pc' := 5) (ls' := [(0, .inr (.inr (.ref 0))), (1, .inr (.inl (a1))), (3, .inl (v1))]) (st' := [.inl (8), .inl (v1)]) (σ' := σ) rfl ?_
      refine wk_if2 tt_14 (tgt := 22) rfl rfl r7 (by decide) (fun (h57 : 8 ≤ v1) => ?_) (fun (h57 : v1 < 8) => ?_)
      ·
        have w := w.1 h57
        exact wk_ls [(0, .inr (.inr (.ref 0))), (1, .inr (.inl (a1))), (3, .inl (v1))] rfl ⟨rfl, rfl, rfl, trivial⟩ (ex15 (v1)  r7  w)
      ·
        have w := w.2 h57
        refine wk_b tt_14 2 (pc' := 10) (ls' := [(0, .inr (.inr (.ref 0))), (1, .inr (.inl (a1))), (3, .inl (v1))]) (st' := [.inl (v1), .inr (.inl (a1))]) (σ' := σ) rfl ?_
        refine wk_call tt_14 rfl rfl rfl rfl rfl tt_9 rfl (by decide) (w_cByteOf z σ (a1) (v1) _ ra1 r7 w) (fun u63 σ59 hq61 => ?_)
        obtain ⟨q58, rfl, r62, rfl, w⟩ := hq61
        have w := w r62
        refine wk_if tt_14 (tgt := 22) rfl rfl r62 (fun (h64 : q58 = 0) => ?_) (fun (h64 : ¬ q58 = 0) => ?_)
        ·
          have w := w.1 h64
          exact wk_ls [(0, .inr (.inr (.ref 0))), (1, .inr (.inl (a1))), (3, .inl (v1))] rfl ⟨rfl, rfl, rfl, trivial⟩ (ex15 (v1)  r7  w)
        ·
          have w := w.2 h64
          obtain ⟨c65, w⟩ := w
          refine wk_b tt_14 2 (pc' := 2) (ls' := [(3, .inl ((v1 + 1))), (0, .inr (.inr (.ref 0))), (1, .inr (.inl (a1)))]) (st' := []) (σ' := σ) rfl ?_
          obtain ⟨m66, hm66, w⟩ := w
          exact wk_ls [(0, .inr (.inr (.ref 0))), (1, .inr (.inl (a1))), (3, .inl ((v1 + 1)))] rfl ⟨rfl, rfl, rfl, trivial⟩ (ih8 m66 hm66 ((v1 + 1))  c65  w)
  exact wk_ls [(0, .inr (.inr (.ref 0))), (1, .inr (.inl (a1))), (3, .inl (0))] rfl ⟨rfl, rfl, rfl, trivial⟩ (lp10 μ5 (0)  (by decide)  w11)
-- NestedVectors.cut
def V_cCut (σ : sg_S) (a1 : Int) (Q : Int → sg_S → Prop) : Prop := ((a1 < 0 → Q ((-2)) σ) ∧ (0 ≤ a1 → ((a1 ≤ (sg_g σ 0 8) → sg_R ((sg_g σ 0 8) - a1) ∧ ∀ σ4, σ4 = (sg_w σ 0 8 (a1)) → Q (((sg_g σ 0 8) - a1)) σ4) ∧ ((sg_g σ 0 8) < a1 → Q ((-2)) σ))))
set_option maxHeartbeats 4000000 in
set_option maxRecDepth 8000 in
theorem w_cCut (z : Value) (σ : sg_S) (a1 : Int) (Q : Int → sg_S → Prop) (ra1 : sg_R a1) (w : V_cCut σ a1 Q) : wx z 0 11 0 [(0, .inr (.inr (.ref 0))), (1, .inl (a1))] [] σ (fun v σ' => ∃ q, v = some (.inl q) ∧ sg_R q ∧ sg_F [9000] σ σ' ∧ Q q σ') := by
  unfold V_cCut at w
  refine wk_b tt_11 1 (pc' := 1) (ls' := [(0, .inr (.inr (.ref 0))), (1, .inl (a1))]) (st' := [.inl (a1)]) (σ' := σ) rfl ?_
  refine wk_if tt_11 (tgt := 12) rfl rfl ra1 (fun (h1 : a1 < 0) => ?_) (fun (h1 : 0 ≤ a1) => ?_)
  ·
    have w := w.1 h1
    refine wk_b tt_11 1 (pc' := 14) (ls' := [(0, .inr (.inr (.ref 0))), (1, .inl (a1))]) (st' := [.inl ((-2))]) (σ' := σ) rfl ?_
    exact wk_rI tt_11 rfl rfl ⟨_, rfl, (by decide), (sg_F_r [9000] σ), w⟩
  ·
    have w := w.2 h1
    refine wk_b tt_11 3 (pc' := 9) (ls' := [(0, .inr (.inr (.ref 0))), (1, .inl (a1))]) (st' := [.inl ((sg_g σ 0 8)), .inl (a1)]) (σ' := σ) rfl ?_
    refine wk_if2 tt_11 (tgt := 15) rfl rfl ra1 (sg_Rg _ _ _) (fun (h2 : a1 ≤ (sg_g σ 0 8)) => ?_) (fun (h2 : (sg_g σ 0 8) < a1) => ?_)
    ·
      have w := w.1 h2
      obtain ⟨c3, w⟩ := w
      refine wk_b tt_11 8 (pc' := 27) (ls' := [(2, .inl (((sg_g σ 0 8) - a1))), (0, .inr (.inr (.ref 0))), (1, .inl (a1))]) (st' := []) (σ' := (sg_w σ 0 8 (a1))) rfl ?_
      generalize hs5 : (sg_w σ 0 8 (a1)) = σ4
      have w := w σ4 hs5.symm
      have hF6 : sg_F [9000] σ σ4 := by rw [← hs5]; exact sg_F_w (sg_F_r _ _) rfl _
      refine wk_b tt_11 1 (pc' := 28) (ls' := [(2, .inl (((sg_g σ 0 8) - a1))), (0, .inr (.inr (.ref 0))), (1, .inl (a1))]) (st' := [.inl (((sg_g σ 0 8) - a1))]) (σ' := σ4) rfl ?_
      exact wk_rI tt_11 rfl rfl ⟨_, rfl, c3, (sg_F_t (sg_F_r [9000] σ) (sg_F_m (L := [9000]) hF6 rfl)), w⟩
    ·
      have w := w.2 h2
      refine wk_b tt_11 1 (pc' := 14) (ls' := [(0, .inr (.inr (.ref 0))), (1, .inl (a1))]) (st' := [.inl ((-2))]) (σ' := σ) rfl ?_
      exact wk_rI tt_11 rfl rfl ⟨_, rfl, (by decide), (sg_F_r [9000] σ), w⟩
-- NestedVectors.fault
def v_cFault (σ : sg_S) : Int := (sg_g σ 0 9)
set_option maxHeartbeats 4000000 in
set_option maxRecDepth 8000 in
theorem w_cFault (z : Value) (σ : sg_S)  : wx z 0 13 0 [(0, .inr (.inr (.ref 0)))] [] σ (fun v σ' => v = some (.inl (v_cFault σ )) ∧ σ' = σ) := by
  refine wk_b tt_13 2 (pc' := 4) (ls' := [(0, .inr (.inr (.ref 0)))]) (st' := [.inl ((sg_g σ 0 9))]) (σ' := σ) rfl ?_
  exact wk_rI tt_13 rfl rfl ⟨by rw [v_cFault], rfl⟩
theorem vF_cFault {L : List Nat} {σ σ' : sg_S} (hF : sg_F L σ σ') (h0 : sg_cv L 0 9 = false) : v_cFault σ'  = v_cFault σ  := by
  unfold v_cFault
  simp only [sg_F_g hF h0, sg_F_gl hF h0]
theorem vr_cFault (σ : sg_S)  : sg_R (v_cFault σ ) := by
  unfold v_cFault
  first | exact sx_R .. | exact sx_Rl .. | exact w.1 | exact w.2.1 | exact w.2.2.1 | exact sg_Rg _ _ _ | exact sg_Rgl _ _ _ | exact sg_Rr _ | exact sg_RLr _ | assumption | omega | (constructor <;> omega)
-- NestedVectors.about
def v_cAbout (σ : sg_S) (a1 : Int) : Int := (if a1 < 0 then ((-2) : Int) else (if a1 ≤ 3 then (if ¬ a1 = 3 then (if ¬ (sg_g σ 0 10) = 0 then (if ¬ a1 = 2 then (if ¬ a1 = 0 then (sg_g σ 19 8) else (sg_g σ 2 16)) else (sx_at σ 6 200 ((sg_g σ 35 4)))) else ((-4) : Int)) else (sg_g σ 0 8)) else ((-2) : Int)))
set_option maxHeartbeats 4000000 in
set_option maxRecDepth 8000 in
theorem w_cAbout (z : Value) (σ : sg_S) (a1 : Int) (ra1 : sg_R a1) : wx z 1 2 0 [(0, .inr (.inr (.ref 0))), (1, .inl (a1))] [] σ (fun v σ' => v = some (.inl (v_cAbout σ a1)) ∧ σ' = σ) := by
  refine wk_b tt_2 1 (pc' := 1) (ls' := [(0, .inr (.inr (.ref 0))), (1, .inl (a1))]) (st' := [.inl (a1)]) (σ' := σ) rfl ?_
  refine wk_if tt_2 (tgt := 9) rfl rfl ra1 (fun (h1 : a1 < 0) => ?_) (fun (h1 : 0 ≤ a1) => ?_)
  ·
    refine wk_b tt_2 1 (pc' := 11) (ls' := [(0, .inr (.inr (.ref 0))), (1, .inl (a1))]) (st' := [.inl ((-2))]) (σ' := σ) rfl ?_
    exact wk_rI tt_2 rfl rfl ⟨by rw [v_cAbout, if_pos h1], rfl⟩
  ·
    refine wk_b tt_2 2 (pc' := 6) (ls' := [(0, .inr (.inr (.ref 0))), (1, .inl (a1))]) (st' := [.inl (3), .inl (a1)]) (σ' := σ) rfl ?_
    refine wk_if2 tt_2 (tgt := 12) rfl rfl ra1 (by decide) (fun (h2 : a1 ≤ 3) => ?_) (fun (h2 : 3 < a1) => ?_)
    ·
      refine wk_b tt_2 2 (pc' := 14) (ls' := [(0, .inr (.inr (.ref 0))), (1, .inl (a1))]) (st' := [.inl (3), .inl (a1)]) (σ' := σ) rfl ?_
      refine wk_if2 tt_2 (tgt := 22) rfl rfl ra1 (by decide) (fun (h3 : ¬ a1 = 3) => ?_) (fun (h3 : a1 = 3) => ?_)
      ·
        refine wk_b tt_2 2 (pc' := 26) (ls' := [(0, .inr (.inr (.ref 0))), (1, .inl (a1))]) (st' := [.inl ((sg_g σ 0 10))]) (σ' := σ) rfl ?_
        refine wk_if tt_2 (tgt := 32) rfl rfl (sg_Rg _ _ _) (fun (h4 : ¬ (sg_g σ 0 10) = 0) => ?_) (fun (h4 : (sg_g σ 0 10) = 0) => ?_)
        ·
          refine wk_b tt_2 2 (pc' := 34) (ls' := [(0, .inr (.inr (.ref 0))), (1, .inl (a1))]) (st' := [.inl (2), .inl (a1)]) (σ' := σ) rfl ?_
          refine wk_if2 tt_2 (tgt := 55) rfl rfl ra1 (by decide) (fun (h5 : ¬ a1 = 2) => ?_) (fun (h5 : a1 = 2) => ?_)
          ·
            refine wk_b tt_2 1 (pc' := 56) (ls' := [(0, .inr (.inr (.ref 0))), (1, .inl (a1))]) (st' := [.inl (a1)]) (σ' := σ) rfl ?_
            refine wk_if tt_2 (tgt := 69) rfl rfl ra1 (fun (h6 : ¬ a1 = 0) => ?_) (fun (h6 : a1 = 0) => ?_)
            ·
              refine wk_b tt_2 3 (pc' := 76) (ls' := [(0, .inr (.inr (.ref 0))), (1, .inl (a1))]) (st' := [.inl ((sg_g σ 19 8))]) (σ' := σ) rfl ?_
              exact wk_rI tt_2 rfl rfl ⟨by rw [v_cAbout, if_neg (show ¬ (a1 < 0) by omega), if_pos h2, if_pos h3, if_pos h4, if_pos h5, if_pos h6], rfl⟩
            ·
              refine wk_b tt_2 4 (pc' := 76) (ls' := [(0, .inr (.inr (.ref 0))), (1, .inl (a1))]) (st' := [.inl ((sg_g σ 2 16))]) (σ' := σ) rfl ?_
              exact wk_rI tt_2 rfl rfl ⟨by rw [v_cAbout, if_neg (show ¬ (a1 < 0) by omega), if_pos h2, if_pos h3, if_pos h4, if_pos h5, if_neg (show ¬ (¬ a1 = 0) by omega)], rfl⟩
          ·
            refine wk_b tt_2 6 (pc' := 51) (ls' := [(0, .inr (.inr (.ref 0))), (1, .inl (a1))]) (st' := [.inl ((sg_g σ 35 4)), .inr (.inr (.ref 6))]) (σ' := σ) rfl ?_
            refine wk_callp tt_2 rfl rfl rfl rfl rfl tt_5 rfl (by decide) (at_i0 z σ 6 200 ((sg_g σ 35 4)) rfl (by decide) (sg_Rg _ _ _)) ?_
            show wx z 1 2 54 [(0, .inr (.inr (.ref 0))), (1, .inl (a1))] [.inl ((sx_at σ 6 200 ((sg_g σ 35 4))))] σ (fun v σ' => v = some (.inl (v_cAbout σ a1)) ∧ σ' = σ)
            exact wk_rI tt_2 rfl rfl ⟨by rw [v_cAbout, if_neg (show ¬ (a1 < 0) by omega), if_pos h2, if_pos h3, if_pos h4, if_neg (show ¬ (¬ a1 = 2) by omega)], rfl⟩
        ·
          refine wk_b tt_2 1 (pc' := 31) (ls' := [(0, .inr (.inr (.ref 0))), (1, .inl (a1))]) (st' := [.inl ((-4))]) (σ' := σ) rfl ?_
          exact wk_rI tt_2 rfl rfl ⟨by rw [v_cAbout, if_neg (show ¬ (a1 < 0) by omega), if_pos h2, if_pos h3, if_neg (show ¬ (¬ (sg_g σ 0 10) = 0) by omega)], rfl⟩
      ·
        refine wk_b tt_2 2 (pc' := 21) (ls' := [(0, .inr (.inr (.ref 0))), (1, .inl (a1))]) (st' := [.inl ((sg_g σ 0 8))]) (σ' := σ) rfl ?_
        exact wk_rI tt_2 rfl rfl ⟨by rw [v_cAbout, if_neg (show ¬ (a1 < 0) by omega), if_pos h2, if_neg (show ¬ (¬ a1 = 3) by omega)], rfl⟩
    ·
      refine wk_b tt_2 1 (pc' := 11) (ls' := [(0, .inr (.inr (.ref 0))), (1, .inl (a1))]) (st' := [.inl ((-2))]) (σ' := σ) rfl ?_
      exact wk_rI tt_2 rfl rfl ⟨by rw [v_cAbout, if_neg (show ¬ (a1 < 0) by omega), if_neg (show ¬ (a1 ≤ 3) by omega)], rfl⟩
theorem vF_cAbout {L : List Nat} {σ σ' : sg_S} {a1 : Int} (hF : sg_F L σ σ') (h0 : sg_cv L 0 8 = false) (h1 : sg_cv L 0 10 = false) (h2 : sg_cv L 2 16 = false) (h3 : sg_ca L 6 = true) (h4 : sg_cv L 19 8 = false) (h5 : sg_cv L 35 4 = false) : v_cAbout σ' a1 = v_cAbout σ a1 := by
  unfold v_cAbout
  simp only [sg_F_g hF h0, sg_F_gl hF h0, sg_F_g hF h1, sg_F_gl hF h1, sg_F_g hF h2, sg_F_gl hF h2, sg_F_ga (k := _) hF h3, sg_F_gal (k := _) hF h3, sg_F_g hF h4, sg_F_gl hF h4, sg_F_g hF h5, sg_F_gl hF h5, sx_F hF h3, sx_Fl hF h3]
theorem vr_cAbout (σ : sg_S) (a1 : Int) (ra1 : sg_R a1) : sg_R (v_cAbout σ a1) := by
  unfold v_cAbout
  by_cases h : a1 < 0
  · rw [if_pos h]
    decide
  · rw [if_neg h]
    by_cases h : a1 ≤ 3
    · rw [if_pos h]
      by_cases h : ¬ a1 = 3
      · rw [if_pos h]
        by_cases h : ¬ (sg_g σ 0 10) = 0
        · rw [if_pos h]
          by_cases h : ¬ a1 = 2
          · rw [if_pos h]
            by_cases h : ¬ a1 = 0
            · rw [if_pos h]
              first | exact sx_R .. | exact sx_Rl .. | exact w.1 | exact w.2.1 | exact w.2.2.1 | exact sg_Rg _ _ _ | exact sg_Rgl _ _ _ | exact sg_Rr _ | exact sg_RLr _ | assumption | omega | (constructor <;> omega)
            · rw [if_neg h]
              first | exact sx_R .. | exact sx_Rl .. | exact w.1 | exact w.2.1 | exact w.2.2.1 | exact sg_Rg _ _ _ | exact sg_Rgl _ _ _ | exact sg_Rr _ | exact sg_RLr _ | assumption | omega | (constructor <;> omega)
          · rw [if_neg h]
            first | exact sx_R .. | exact sx_Rl .. | exact w.1 | exact w.2.1 | exact w.2.2.1 | exact sg_Rg _ _ _ | exact sg_Rgl _ _ _ | exact sg_Rr _ | exact sg_RLr _ | assumption | omega | (constructor <;> omega)
        · rw [if_neg h]
          decide
      · rw [if_neg h]
        first | exact sx_R .. | exact sx_Rl .. | exact w.1 | exact w.2.1 | exact w.2.2.1 | exact sg_Rg _ _ _ | exact sg_Rgl _ _ _ | exact sg_Rr _ | exact sg_RLr _ | assumption | omega | (constructor <;> omega)
    · rw [if_neg h]
      decide
-- NestedVectors.node
def v_cNode (σ : sg_S) (a1 : Int) (a2 : Int) : Int := (if ¬ (sg_g σ 0 10) = 0 then (if a1 < 0 then ((-1) : Int) else (if a1 < (sg_g σ 2 16) then (if a2 < 0 then ((-2) : Int) else (if a2 ≤ 1 then (if ¬ a2 = 0 then (sx_at σ 6 200 (a1)) else (sx_at σ 4 200 (a1))) else ((-2) : Int))) else ((-1) : Int))) else ((-4) : Int))
set_option maxHeartbeats 4000000 in
set_option maxRecDepth 8000 in
theorem w_cNode (z : Value) (σ : sg_S) (a1 : Int) (a2 : Int) (ra1 : sg_R a1) (ra2 : sg_R a2) : wx z 1 20 0 [(0, .inr (.inr (.ref 0))), (1, .inl (a1)), (2, .inl (a2))] [] σ (fun v σ' => v = some (.inl (v_cNode σ a1 a2)) ∧ σ' = σ) := by
  refine wk_b tt_20 2 (pc' := 4) (ls' := [(0, .inr (.inr (.ref 0))), (1, .inl (a1)), (2, .inl (a2))]) (st' := [.inl ((sg_g σ 0 10))]) (σ' := σ) rfl ?_
  refine wk_if tt_20 (tgt := 10) rfl rfl (sg_Rg _ _ _) (fun (h1 : ¬ (sg_g σ 0 10) = 0) => ?_) (fun (h1 : (sg_g σ 0 10) = 0) => ?_)
  ·
    refine wk_b tt_20 1 (pc' := 11) (ls' := [(0, .inr (.inr (.ref 0))), (1, .inl (a1)), (2, .inl (a2))]) (st' := [.inl (a1)]) (σ' := σ) rfl ?_
    refine wk_if tt_20 (tgt := 25) rfl rfl ra1 (fun (h2 : a1 < 0) => ?_) (fun (h2 : 0 ≤ a1) => ?_)
    ·
      refine wk_b tt_20 1 (pc' := 26) (ls' := [(0, .inr (.inr (.ref 0))), (1, .inl (a1)), (2, .inl (a2))]) (st' := [.inl ((-1))]) (σ' := σ) rfl ?_
      exact wk_rI tt_20 rfl rfl ⟨by rw [v_cNode, if_pos h1, if_pos h2], rfl⟩
    ·
      refine wk_b tt_20 4 (pc' := 22) (ls' := [(0, .inr (.inr (.ref 0))), (1, .inl (a1)), (2, .inl (a2))]) (st' := [.inl ((sg_g σ 2 16)), .inl (a1)]) (σ' := σ) rfl ?_
      refine wk_if2 tt_20 (tgt := 27) rfl rfl ra1 (sg_Rg _ _ _) (fun (h3 : a1 < (sg_g σ 2 16)) => ?_) (fun (h3 : (sg_g σ 2 16) ≤ a1) => ?_)
      ·
        refine wk_b tt_20 1 (pc' := 28) (ls' := [(0, .inr (.inr (.ref 0))), (1, .inl (a1)), (2, .inl (a2))]) (st' := [.inl (a2)]) (σ' := σ) rfl ?_
        refine wk_if tt_20 (tgt := 36) rfl rfl ra2 (fun (h4 : a2 < 0) => ?_) (fun (h4 : 0 ≤ a2) => ?_)
        ·
          refine wk_b tt_20 1 (pc' := 38) (ls' := [(0, .inr (.inr (.ref 0))), (1, .inl (a1)), (2, .inl (a2))]) (st' := [.inl ((-2))]) (σ' := σ) rfl ?_
          exact wk_rI tt_20 rfl rfl ⟨by rw [v_cNode, if_pos h1, if_neg (show ¬ (a1 < 0) by omega), if_pos h3, if_pos h4], rfl⟩
        ·
          refine wk_b tt_20 2 (pc' := 33) (ls' := [(0, .inr (.inr (.ref 0))), (1, .inl (a1)), (2, .inl (a2))]) (st' := [.inl (1), .inl (a2)]) (σ' := σ) rfl ?_
          refine wk_if2 tt_20 (tgt := 39) rfl rfl ra2 (by decide) (fun (h5 : a2 ≤ 1) => ?_) (fun (h5 : 1 < a2) => ?_)
          ·
            refine wk_b tt_20 1 (pc' := 40) (ls' := [(0, .inr (.inr (.ref 0))), (1, .inl (a1)), (2, .inl (a2))]) (st' := [.inl (a2)]) (σ' := σ) rfl ?_
            refine wk_if tt_20 (tgt := 57) rfl rfl ra2 (fun (h6 : ¬ a2 = 0) => ?_) (fun (h6 : a2 = 0) => ?_)
            ·
              refine wk_b tt_20 4 (pc' := 65) (ls' := [(0, .inr (.inr (.ref 0))), (1, .inl (a1)), (2, .inl (a2))]) (st' := [.inl (a1), .inr (.inr (.ref 6))]) (σ' := σ) rfl ?_
              refine wk_callp tt_20 rfl rfl rfl rfl rfl tt_5 rfl (by decide) (at_i0 z σ 6 200 (a1) rfl (by decide) ra1) ?_
              show wx z 1 20 68 [(0, .inr (.inr (.ref 0))), (1, .inl (a1)), (2, .inl (a2))] [.inl ((sx_at σ 6 200 (a1)))] σ (fun v σ' => v = some (.inl (v_cNode σ a1 a2)) ∧ σ' = σ)
              exact wk_rI tt_20 rfl rfl ⟨by rw [v_cNode, if_pos h1, if_neg (show ¬ (a1 < 0) by omega), if_pos h3, if_neg (show ¬ (a2 < 0) by omega), if_pos h5, if_pos h6], rfl⟩
            ·
              refine wk_b tt_20 4 (pc' := 51) (ls' := [(0, .inr (.inr (.ref 0))), (1, .inl (a1)), (2, .inl (a2))]) (st' := [.inl (a1), .inr (.inr (.ref 4))]) (σ' := σ) rfl ?_
              refine wk_callp tt_20 rfl rfl rfl rfl rfl tt_5 rfl (by decide) (at_i0 z σ 4 200 (a1) rfl (by decide) ra1) ?_
              show wx z 1 20 54 [(0, .inr (.inr (.ref 0))), (1, .inl (a1)), (2, .inl (a2))] [.inl ((sx_at σ 4 200 (a1)))] σ (fun v σ' => v = some (.inl (v_cNode σ a1 a2)) ∧ σ' = σ)
              refine wk_b tt_20 1 (pc' := 68) (ls' := [(0, .inr (.inr (.ref 0))), (1, .inl (a1)), (2, .inl (a2))]) (st' := [.inl ((sx_at σ 4 200 (a1)))]) (σ' := σ) rfl ?_
              exact wk_rI tt_20 rfl rfl ⟨by rw [v_cNode, if_pos h1, if_neg (show ¬ (a1 < 0) by omega), if_pos h3, if_neg (show ¬ (a2 < 0) by omega), if_pos h5, if_neg (show ¬ (¬ a2 = 0) by omega)], rfl⟩
          ·
            refine wk_b tt_20 1 (pc' := 38) (ls' := [(0, .inr (.inr (.ref 0))), (1, .inl (a1)), (2, .inl (a2))]) (st' := [.inl ((-2))]) (σ' := σ) rfl ?_
            exact wk_rI tt_20 rfl rfl ⟨by rw [v_cNode, if_pos h1, if_neg (show ¬ (a1 < 0) by omega), if_pos h3, if_neg (show ¬ (a2 < 0) by omega), if_neg (show ¬ (a2 ≤ 1) by omega)], rfl⟩
      ·
        refine wk_b tt_20 1 (pc' := 26) (ls' := [(0, .inr (.inr (.ref 0))), (1, .inl (a1)), (2, .inl (a2))]) (st' := [.inl ((-1))]) (σ' := σ) rfl ?_
        exact wk_rI tt_20 rfl rfl ⟨by rw [v_cNode, if_pos h1, if_neg (show ¬ (a1 < 0) by omega), if_neg (show ¬ (a1 < (sg_g σ 2 16)) by omega)], rfl⟩
  ·
    refine wk_b tt_20 1 (pc' := 9) (ls' := [(0, .inr (.inr (.ref 0))), (1, .inl (a1)), (2, .inl (a2))]) (st' := [.inl ((-4))]) (σ' := σ) rfl ?_
    exact wk_rI tt_20 rfl rfl ⟨by rw [v_cNode, if_neg (show ¬ (¬ (sg_g σ 0 10) = 0) by omega)], rfl⟩
theorem vF_cNode {L : List Nat} {σ σ' : sg_S} {a1 : Int} {a2 : Int} (hF : sg_F L σ σ') (h0 : sg_cv L 0 10 = false) (h1 : sg_cv L 2 16 = false) (h2 : sg_ca L 4 = true) (h3 : sg_ca L 6 = true) : v_cNode σ' a1 a2 = v_cNode σ a1 a2 := by
  unfold v_cNode
  simp only [sg_F_g hF h0, sg_F_gl hF h0, sg_F_g hF h1, sg_F_gl hF h1, sg_F_ga (k := _) hF h2, sg_F_gal (k := _) hF h2, sg_F_ga (k := _) hF h3, sg_F_gal (k := _) hF h3, sx_F hF h2, sx_Fl hF h2, sx_F hF h3, sx_Fl hF h3]
theorem vr_cNode (σ : sg_S) (a1 : Int) (a2 : Int) (ra1 : sg_R a1) (ra2 : sg_R a2) : sg_R (v_cNode σ a1 a2) := by
  unfold v_cNode
  by_cases h : ¬ (sg_g σ 0 10) = 0
  · rw [if_pos h]
    by_cases h : a1 < 0
    · rw [if_pos h]
      decide
    · rw [if_neg h]
      by_cases h : a1 < (sg_g σ 2 16)
      · rw [if_pos h]
        by_cases h : a2 < 0
        · rw [if_pos h]
          decide
        · rw [if_neg h]
          by_cases h : a2 ≤ 1
          · rw [if_pos h]
            by_cases h : ¬ a2 = 0
            · rw [if_pos h]
              first | exact sx_R .. | exact sx_Rl .. | exact w.1 | exact w.2.1 | exact w.2.2.1 | exact sg_Rg _ _ _ | exact sg_Rgl _ _ _ | exact sg_Rr _ | exact sg_RLr _ | assumption | omega | (constructor <;> omega)
            · rw [if_neg h]
              first | exact sx_R .. | exact sx_Rl .. | exact w.1 | exact w.2.1 | exact w.2.2.1 | exact sg_Rg _ _ _ | exact sg_Rgl _ _ _ | exact sg_Rr _ | exact sg_RLr _ | assumption | omega | (constructor <;> omega)
          · rw [if_neg h]
            decide
      · rw [if_neg h]
        decide
  · rw [if_neg h]
    decide
-- NestedVectors.nested
def V_cNested (σ : sg_S) (Q : Int → sg_S → Prop) : Prop := ((¬ (sg_g σ 0 10) = 0 → (((sg_g σ 0 11) < 20 → sg_R ((sg_g σ 0 11) + 1) ∧ ∀ σ4, σ4 = (sg_w σ 0 11 (((sg_g σ 0 11) + 1))) → V_nRun σ4 ((sx_at σ 6 200 ((sg_g σ 35 4)))) (fun q7 σ8 => sg_R q7 → sg_F [45, 46, 47, 48, 49, 50, 51, 52, 53, 54, 55, 56, 57, 58, 59, 60] σ4 σ8 → Q (q7) σ8)) ∧ (20 ≤ (sg_g σ 0 11) → Q ((-3)) σ))) ∧ ((sg_g σ 0 10) = 0 → Q ((-4)) σ))
set_option maxHeartbeats 4000000 in
set_option maxRecDepth 8000 in
theorem w_cNested (z : Value) (σ : sg_S) (Q : Int → sg_S → Prop)  (w : V_cNested σ  Q) : wx z 9 19 0 [(0, .inr (.inr (.ref 0)))] [] σ (fun v σ' => ∃ q, v = some (.inl q) ∧ sg_R q ∧ sg_F [45, 46, 47, 48, 49, 50, 51, 52, 53, 54, 55, 56, 57, 58, 59, 60, 12000] σ σ' ∧ Q q σ') := by
  unfold V_cNested at w
  refine wk_b tt_19 2 (pc' := 4) (ls' := [(0, .inr (.inr (.ref 0)))]) (st' := [.inl ((sg_g σ 0 10))]) (σ' := σ) rfl ?_
  refine wk_if tt_19 (tgt := 10) rfl rfl (sg_Rg _ _ _) (fun (h1 : ¬ (sg_g σ 0 10) = 0) => ?_) (fun (h1 : (sg_g σ 0 10) = 0) => ?_)
  ·
    have w := w.1 h1
    refine wk_b tt_19 3 (pc' := 16) (ls' := [(0, .inr (.inr (.ref 0)))]) (st' := [.inl (20), .inl ((sg_g σ 0 11))]) (σ' := σ) rfl ?_
    refine wk_if2 tt_19 (tgt := 22) rfl rfl (sg_Rg _ _ _) (by decide) (fun (h2 : (sg_g σ 0 11) < 20) => ?_) (fun (h2 : 20 ≤ (sg_g σ 0 11)) => ?_)
    ·
      have w := w.1 h2
      obtain ⟨c3, w⟩ := w
      refine wk_b tt_19 6 (pc' := 32) (ls' := [(0, .inr (.inr (.ref 0)))]) (st' := []) (σ' := (sg_w σ 0 11 (((sg_g σ 0 11) + 1)))) rfl ?_
      generalize hs5 : (sg_w σ 0 11 (((sg_g σ 0 11) + 1))) = σ4
      have w := w σ4 hs5.symm
      have hF6 : sg_F [12000] σ σ4 := by rw [← hs5]; exact sg_F_w (sg_F_r _ _) rfl _
      refine wk_b tt_19 8 (pc' := 50) (ls' := [(0, .inr (.inr (.ref 0)))]) (st' := [.inl ((sg_g σ4 35 4)), .inr (.inr (.ref 6)), .inr (.inr (.ref 45))]) (σ' := σ4) rfl ?_
      rw [show (sg_g σ4 35 4) = (sg_g σ 35 4) from by rw [sg_F_ga hF6 rfl]]
      refine wk_callp tt_19 rfl rfl rfl rfl rfl tt_5 rfl (by decide) (at_i0 z σ4 6 200 ((sg_g σ 35 4)) rfl (by decide) (sg_Rg _ _ _)) ?_
      show wx z 9 19 53 [(0, .inr (.inr (.ref 0)))] [.inl ((sx_at σ4 6 200 ((sg_g σ 35 4)))), .inr (.inr (.ref 45))] σ4 (fun v σ' => ∃ q, v = some (.inl q) ∧ sg_R q ∧ sg_F [45, 46, 47, 48, 49, 50, 51, 52, 53, 54, 55, 56, 57, 58, 59, 60, 12000] σ σ' ∧ Q q σ')
      rw [sx_F (a := 6) (n := 200) (i := ((sg_g σ 35 4))) hF6 rfl]
      refine wk_call tt_19 rfl rfl rfl rfl rfl tt_126 rfl (by decide) (w_nRun z σ4 ((sx_at σ 6 200 ((sg_g σ 35 4)))) _ (sx_R ..) w) (fun u12 σ8 hq10 => ?_)
      obtain ⟨q7, rfl, r11, hF9, w⟩ := hq10
      have w := w r11 hF9
      exact wk_rI tt_19 rfl rfl ⟨_, rfl, r11, (sg_F_t (sg_F_t (sg_F_r [45, 46, 47, 48, 49, 50, 51, 52, 53, 54, 55, 56, 57, 58, 59, 60, 12000] σ) (sg_F_m (L := [45, 46, 47, 48, 49, 50, 51, 52, 53, 54, 55, 56, 57, 58, 59, 60, 12000]) hF6 rfl)) (sg_F_m (L := [45, 46, 47, 48, 49, 50, 51, 52, 53, 54, 55, 56, 57, 58, 59, 60, 12000]) hF9 rfl)), w⟩
    ·
      have w := w.2 h2
      refine wk_b tt_19 1 (pc' := 21) (ls' := [(0, .inr (.inr (.ref 0)))]) (st' := [.inl ((-3))]) (σ' := σ) rfl ?_
      exact wk_rI tt_19 rfl rfl ⟨_, rfl, (by decide), (sg_F_r [45, 46, 47, 48, 49, 50, 51, 52, 53, 54, 55, 56, 57, 58, 59, 60, 12000] σ), w⟩
  ·
    have w := w.2 h1
    refine wk_b tt_19 1 (pc' := 9) (ls' := [(0, .inr (.inr (.ref 0)))]) (st' := [.inl ((-4))]) (σ' := σ) rfl ?_
    exact wk_rI tt_19 rfl rfl ⟨_, rfl, (by decide), (sg_F_r [45, 46, 47, 48, 49, 50, 51, 52, 53, 54, 55, 56, 57, 58, 59, 60, 12000] σ), w⟩
-- NestedVectors.flat
def V_cFlat (σ : sg_S) (Q : Int → sg_S → Prop) : Prop := ((¬ (sg_g σ 0 10) = 0 → (((sg_g σ 0 12) < 20 → sg_R ((sg_g σ 0 12) + 1) ∧ ∀ σ4, σ4 = (sg_w σ 0 12 (((sg_g σ 0 12) + 1))) → V_mRun σ4 ((sx_at σ 6 200 ((sg_g σ 35 4)))) (fun q7 σ8 => sg_R q7 → sg_F [61, 62, 63, 64, 65, 66, 67, 68, 69, 70, 71, 72, 73, 74, 75, 76, 78, 79, 80, 81, 82, 83, 84, 85, 86, 87, 8061, 9061, 10061, 11061, 11077, 12077, 13077, 14077, 15077, 16077, 17077, 18077, 19077, 22061, 23061, 24061, 25061] σ4 σ8 → Q (q7) σ8)) ∧ (20 ≤ (sg_g σ 0 12) → Q ((-3)) σ))) ∧ ((sg_g σ 0 10) = 0 → Q ((-4)) σ))
set_option maxHeartbeats 4000000 in
set_option maxRecDepth 8000 in
theorem w_cFlat (z : Value) (σ : sg_S) (Q : Int → sg_S → Prop)  (w : V_cFlat σ  Q) : wx z 9 15 0 [(0, .inr (.inr (.ref 0)))] [] σ (fun v σ' => ∃ q, v = some (.inl q) ∧ sg_R q ∧ sg_F [61, 62, 63, 64, 65, 66, 67, 68, 69, 70, 71, 72, 73, 74, 75, 76, 78, 79, 80, 81, 82, 83, 84, 85, 86, 87, 8061, 9061, 10061, 11061, 11077, 12077, 13000, 13077, 14077, 15077, 16077, 17077, 18077, 19077, 22061, 23061, 24061, 25061] σ σ' ∧ Q q σ') := by
  unfold V_cFlat at w
  refine wk_b tt_15 2 (pc' := 4) (ls' := [(0, .inr (.inr (.ref 0)))]) (st' := [.inl ((sg_g σ 0 10))]) (σ' := σ) rfl ?_
  refine wk_if tt_15 (tgt := 10) rfl rfl (sg_Rg _ _ _) (fun (h1 : ¬ (sg_g σ 0 10) = 0) => ?_) (fun (h1 : (sg_g σ 0 10) = 0) => ?_)
  ·
    have w := w.1 h1
    refine wk_b tt_15 3 (pc' := 16) (ls' := [(0, .inr (.inr (.ref 0)))]) (st' := [.inl (20), .inl ((sg_g σ 0 12))]) (σ' := σ) rfl ?_
    refine wk_if2 tt_15 (tgt := 22) rfl rfl (sg_Rg _ _ _) (by decide) (fun (h2 : (sg_g σ 0 12) < 20) => ?_) (fun (h2 : 20 ≤ (sg_g σ 0 12)) => ?_)
    ·
      have w := w.1 h2
      obtain ⟨c3, w⟩ := w
      refine wk_b tt_15 6 (pc' := 32) (ls' := [(0, .inr (.inr (.ref 0)))]) (st' := []) (σ' := (sg_w σ 0 12 (((sg_g σ 0 12) + 1)))) rfl ?_
      generalize hs5 : (sg_w σ 0 12 (((sg_g σ 0 12) + 1))) = σ4
      have w := w σ4 hs5.symm
      have hF6 : sg_F [13000] σ σ4 := by rw [← hs5]; exact sg_F_w (sg_F_r _ _) rfl _
      refine wk_b tt_15 8 (pc' := 50) (ls' := [(0, .inr (.inr (.ref 0)))]) (st' := [.inl ((sg_g σ4 35 4)), .inr (.inr (.ref 6)), .inr (.inr (.ref 61))]) (σ' := σ4) rfl ?_
      rw [show (sg_g σ4 35 4) = (sg_g σ 35 4) from by rw [sg_F_ga hF6 rfl]]
      refine wk_callp tt_15 rfl rfl rfl rfl rfl tt_5 rfl (by decide) (at_i0 z σ4 6 200 ((sg_g σ 35 4)) rfl (by decide) (sg_Rg _ _ _)) ?_
      show wx z 9 15 53 [(0, .inr (.inr (.ref 0)))] [.inl ((sx_at σ4 6 200 ((sg_g σ 35 4)))), .inr (.inr (.ref 61))] σ4 (fun v σ' => ∃ q, v = some (.inl q) ∧ sg_R q ∧ sg_F [61, 62, 63, 64, 65, 66, 67, 68, 69, 70, 71, 72, 73, 74, 75, 76, 78, 79, 80, 81, 82, 83, 84, 85, 86, 87, 8061, 9061, 10061, 11061, 11077, 12077, 13000, 13077, 14077, 15077, 16077, 17077, 18077, 19077, 22061, 23061, 24061, 25061] σ σ' ∧ Q q σ')
      rw [sx_F (a := 6) (n := 200) (i := ((sg_g σ 35 4))) hF6 rfl]
      refine wk_call tt_15 rfl rfl rfl rfl rfl tt_126 rfl (by decide) (w_mRun z σ4 ((sx_at σ 6 200 ((sg_g σ 35 4)))) _ (sx_R ..) w) (fun u12 σ8 hq10 => ?_)
      obtain ⟨q7, rfl, r11, hF9, w⟩ := hq10
      have w := w r11 hF9
      exact wk_rI tt_15 rfl rfl ⟨_, rfl, r11, (sg_F_t (sg_F_t (sg_F_r [61, 62, 63, 64, 65, 66, 67, 68, 69, 70, 71, 72, 73, 74, 75, 76, 78, 79, 80, 81, 82, 83, 84, 85, 86, 87, 8061, 9061, 10061, 11061, 11077, 12077, 13000, 13077, 14077, 15077, 16077, 17077, 18077, 19077, 22061, 23061, 24061, 25061] σ) (sg_F_m (L := [61, 62, 63, 64, 65, 66, 67, 68, 69, 70, 71, 72, 73, 74, 75, 76, 78, 79, 80, 81, 82, 83, 84, 85, 86, 87, 8061, 9061, 10061, 11061, 11077, 12077, 13000, 13077, 14077, 15077, 16077, 17077, 18077, 19077, 22061, 23061, 24061, 25061]) hF6 rfl)) (sg_F_m (L := [61, 62, 63, 64, 65, 66, 67, 68, 69, 70, 71, 72, 73, 74, 75, 76, 78, 79, 80, 81, 82, 83, 84, 85, 86, 87, 8061, 9061, 10061, 11061, 11077, 12077, 13000, 13077, 14077, 15077, 16077, 17077, 18077, 19077, 22061, 23061, 24061, 25061]) hF9 rfl)), w⟩
    ·
      have w := w.2 h2
      refine wk_b tt_15 1 (pc' := 21) (ls' := [(0, .inr (.inr (.ref 0)))]) (st' := [.inl ((-3))]) (σ' := σ) rfl ?_
      exact wk_rI tt_15 rfl rfl ⟨_, rfl, (by decide), (sg_F_r [61, 62, 63, 64, 65, 66, 67, 68, 69, 70, 71, 72, 73, 74, 75, 76, 78, 79, 80, 81, 82, 83, 84, 85, 86, 87, 8061, 9061, 10061, 11061, 11077, 12077, 13000, 13077, 14077, 15077, 16077, 17077, 18077, 19077, 22061, 23061, 24061, 25061] σ), w⟩
  ·
    have w := w.2 h1
    refine wk_b tt_15 1 (pc' := 9) (ls' := [(0, .inr (.inr (.ref 0)))]) (st' := [.inl ((-4))]) (σ' := σ) rfl ?_
    exact wk_rI tt_15 rfl rfl ⟨_, rfl, (by decide), (sg_F_r [61, 62, 63, 64, 65, 66, 67, 68, 69, 70, 71, 72, 73, 74, 75, 76, 78, 79, 80, 81, 82, 83, 84, 85, 86, 87, 8061, 9061, 10061, 11061, 11077, 12077, 13000, 13077, 14077, 15077, 16077, 17077, 18077, 19077, 22061, 23061, 24061, 25061] σ), w⟩
-- NestedVectors.meter
def v_cMeter (σ : sg_S) (a1 : Int) : Int := (if a1 < 0 then ((-2) : Int) else (if a1 ≤ 4 then (if 2 ≤ a1 then (if ¬ (sg_g σ 61 11) = 0 then (if ¬ a1 = 4 then (if ¬ a1 = 2 then (sg_g σ 77 16) else (sg_g σ 77 17)) else (sg_g σ 61 24)) else ((-4) : Int)) else (if (sg_g σ 45 11) = 0 then ((-4) : Int) else (if a1 = 0 then (if ¬ a1 = 0 then (sg_g σ 45 23) else (sg_g σ 45 22)) else (if ¬ (sg_g σ 45 10) = 0 then ((-4) : Int) else (if ¬ a1 = 0 then (sg_g σ 45 23) else (sg_g σ 45 22)))))) else ((-2) : Int)))
set_option maxHeartbeats 4000000 in
set_option maxRecDepth 8000 in
theorem w_cMeter (z : Value) (σ : sg_S) (a1 : Int) (ra1 : sg_R a1) : wx z 0 18 0 [(0, .inr (.inr (.ref 0))), (1, .inl (a1))] [] σ (fun v σ' => v = some (.inl (v_cMeter σ a1)) ∧ σ' = σ) := by
  refine wk_b tt_18 1 (pc' := 1) (ls' := [(0, .inr (.inr (.ref 0))), (1, .inl (a1))]) (st' := [.inl (a1)]) (σ' := σ) rfl ?_
  refine wk_if tt_18 (tgt := 9) rfl rfl ra1 (fun (h1 : a1 < 0) => ?_) (fun (h1 : 0 ≤ a1) => ?_)
  ·
    refine wk_b tt_18 1 (pc' := 11) (ls' := [(0, .inr (.inr (.ref 0))), (1, .inl (a1))]) (st' := [.inl ((-2))]) (σ' := σ) rfl ?_
    exact wk_rI tt_18 rfl rfl ⟨by rw [v_cMeter, if_pos h1], rfl⟩
  ·
    refine wk_b tt_18 2 (pc' := 6) (ls' := [(0, .inr (.inr (.ref 0))), (1, .inl (a1))]) (st' := [.inl (4), .inl (a1)]) (σ' := σ) rfl ?_
    refine wk_if2 tt_18 (tgt := 12) rfl rfl ra1 (by decide) (fun (h2 : a1 ≤ 4) => ?_) (fun (h2 : 4 < a1) => ?_)
    ·
      refine wk_b tt_18 2 (pc' := 14) (ls' := [(0, .inr (.inr (.ref 0))), (1, .inl (a1))]) (st' := [.inl (2), .inl (a1)]) (σ' := σ) rfl ?_
      refine wk_if2 tt_18 (tgt := 78) rfl rfl ra1 (by decide) (fun (h3 : 2 ≤ a1) => ?_) (fun (h3 : a1 < 2) => ?_)
      ·
        refine wk_b tt_18 3 (pc' := 85) (ls' := [(0, .inr (.inr (.ref 0))), (1, .inl (a1))]) (st' := [.inl ((sg_g σ 61 11))]) (σ' := σ) rfl ?_
        refine wk_if tt_18 (tgt := 91) rfl rfl (sg_Rg _ _ _) (fun (h4 : ¬ (sg_g σ 61 11) = 0) => ?_) (fun (h4 : (sg_g σ 61 11) = 0) => ?_)
        ·
          refine wk_b tt_18 2 (pc' := 93) (ls' := [(0, .inr (.inr (.ref 0))), (1, .inl (a1))]) (st' := [.inl (4), .inl (a1)]) (σ' := σ) rfl ?_
          refine wk_if2 tt_18 (tgt := 104) rfl rfl ra1 (by decide) (fun (h5 : ¬ a1 = 4) => ?_) (fun (h5 : a1 = 4) => ?_)
          ·
            refine wk_b tt_18 2 (pc' := 106) (ls' := [(0, .inr (.inr (.ref 0))), (1, .inl (a1))]) (st' := [.inl (2), .inl (a1)]) (σ' := σ) rfl ?_
            refine wk_if2 tt_18 (tgt := 122) rfl rfl ra1 (by decide) (fun (h6 : ¬ a1 = 2) => ?_) (fun (h6 : a1 = 2) => ?_)
            ·
              refine wk_b tt_18 4 (pc' := 132) (ls' := [(0, .inr (.inr (.ref 0))), (1, .inl (a1))]) (st' := [.inl ((sg_g σ 77 16))]) (σ' := σ) rfl ?_
              exact wk_rI tt_18 rfl rfl ⟨by rw [v_cMeter, if_neg (show ¬ (a1 < 0) by omega), if_pos h2, if_pos h3, if_pos h4, if_pos h5, if_pos h6], rfl⟩
            ·
              refine wk_b tt_18 5 (pc' := 132) (ls' := [(0, .inr (.inr (.ref 0))), (1, .inl (a1))]) (st' := [.inl ((sg_g σ 77 17))]) (σ' := σ) rfl ?_
              exact wk_rI tt_18 rfl rfl ⟨by rw [v_cMeter, if_neg (show ¬ (a1 < 0) by omega), if_pos h2, if_pos h3, if_pos h4, if_pos h5, if_neg (show ¬ (¬ a1 = 2) by omega)], rfl⟩
          ·
            refine wk_b tt_18 3 (pc' := 103) (ls' := [(0, .inr (.inr (.ref 0))), (1, .inl (a1))]) (st' := [.inl ((sg_g σ 61 24))]) (σ' := σ) rfl ?_
            exact wk_rI tt_18 rfl rfl ⟨by rw [v_cMeter, if_neg (show ¬ (a1 < 0) by omega), if_pos h2, if_pos h3, if_pos h4, if_neg (show ¬ (¬ a1 = 4) by omega)], rfl⟩
        ·
          refine wk_b tt_18 1 (pc' := 90) (ls' := [(0, .inr (.inr (.ref 0))), (1, .inl (a1))]) (st' := [.inl ((-4))]) (σ' := σ) rfl ?_
          exact wk_rI tt_18 rfl rfl ⟨by rw [v_cMeter, if_neg (show ¬ (a1 < 0) by omega), if_pos h2, if_pos h3, if_neg (show ¬ (¬ (sg_g σ 61 11) = 0) by omega)], rfl⟩
      ·
        refine wk_b tt_18 3 (pc' := 24) (ls' := [(0, .inr (.inr (.ref 0))), (1, .inl (a1))]) (st' := [.inl ((sg_g σ 45 11))]) (σ' := σ) rfl ?_
        refine wk_if tt_18 (tgt := 45) rfl rfl (sg_Rg _ _ _) (fun (h7 : (sg_g σ 45 11) = 0) => ?_) (fun (h7 : ¬ (sg_g σ 45 11) = 0) => ?_)
        ·
          refine wk_b tt_18 3 (pc' := 48) (ls' := [(2, .inl (0)), (0, .inr (.inr (.ref 0))), (1, .inl (a1))]) (st' := [.inl (0)]) (σ' := σ) rfl ?_
          refine wk_if tt_18 (tgt := 56) rfl rfl (by decide) (fun (h : ¬ 0 = 0) => absurd h (by decide)) (fun _ => ?_)
          refine wk_b tt_18 2 (pc' := 77) (ls' := [(2, .inl (0)), (0, .inr (.inr (.ref 0))), (1, .inl (a1))]) (st' := [.inl ((-4))]) (σ' := σ) rfl ?_
          exact wk_rI tt_18 rfl rfl ⟨by rw [v_cMeter, if_neg (show ¬ (a1 < 0) by omega), if_pos h2, if_neg (show ¬ (2 ≤ a1) by omega), if_pos h7], rfl⟩
        ·
          refine wk_b tt_18 1 (pc' := 28) (ls' := [(0, .inr (.inr (.ref 0))), (1, .inl (a1))]) (st' := [.inl (a1)]) (σ' := σ) rfl ?_
          refine wk_if tt_18 (tgt := 41) rfl rfl ra1 (fun (h8 : a1 = 0) => ?_) (fun (h8 : ¬ a1 = 0) => ?_)
          ·
            refine wk_b tt_18 4 (pc' := 48) (ls' := [(2, .inl (1)), (0, .inr (.inr (.ref 0))), (1, .inl (a1))]) (st' := [.inl (1)]) (σ' := σ) rfl ?_
            refine wk_if tt_18 (tgt := 56) rfl rfl (by decide) (fun _ => ?_) (fun (h : 1 = 0) => absurd h (by decide))
            refine wk_b tt_18 1 (pc' := 57) (ls' := [(2, .inl (1)), (0, .inr (.inr (.ref 0))), (1, .inl (a1))]) (st' := [.inl (a1)]) (σ' := σ) rfl ?_
            refine wk_if tt_18 (tgt := 70) rfl rfl ra1 (fun (h9 : ¬ a1 = 0) => ?_) (fun (h9 : a1 = 0) => ?_)
            ·
              refine wk_b tt_18 3 (pc' := 77) (ls' := [(2, .inl (1)), (0, .inr (.inr (.ref 0))), (1, .inl (a1))]) (st' := [.inl ((sg_g σ 45 23))]) (σ' := σ) rfl ?_
              exact wk_rI tt_18 rfl rfl ⟨by rw [v_cMeter, if_neg (show ¬ (a1 < 0) by omega), if_pos h2, if_neg (show ¬ (2 ≤ a1) by omega), if_neg (show ¬ ((sg_g σ 45 11) = 0) by omega), if_pos h8, if_pos h9], rfl⟩
            ·
              refine wk_b tt_18 4 (pc' := 77) (ls' := [(2, .inl (1)), (0, .inr (.inr (.ref 0))), (1, .inl (a1))]) (st' := [.inl ((sg_g σ 45 22))]) (σ' := σ) rfl ?_
              exact wk_rI tt_18 rfl rfl ⟨by rw [v_cMeter, if_neg (show ¬ (a1 < 0) by omega), if_pos h2, if_neg (show ¬ (2 ≤ a1) by omega), if_neg (show ¬ ((sg_g σ 45 11) = 0) by omega), if_pos h8, if_neg (show ¬ (¬ a1 = 0) by omega)], rfl⟩
          ·
            refine wk_b tt_18 3 (pc' := 38) (ls' := [(0, .inr (.inr (.ref 0))), (1, .inl (a1))]) (st' := [.inl ((sg_g σ 45 10))]) (σ' := σ) rfl ?_
            refine wk_if tt_18 (tgt := 45) rfl rfl (sg_Rg _ _ _) (fun (h10 : ¬ (sg_g σ 45 10) = 0) => ?_) (fun (h10 : (sg_g σ 45 10) = 0) => ?_)
            ·
              refine wk_b tt_18 3 (pc' := 48) (ls' := [(2, .inl (0)), (0, .inr (.inr (.ref 0))), (1, .inl (a1))]) (st' := [.inl (0)]) (σ' := σ) rfl ?_
              refine wk_if tt_18 (tgt := 56) rfl rfl (by decide) (fun (h : ¬ 0 = 0) => absurd h (by decide)) (fun _ => ?_)
              refine wk_b tt_18 2 (pc' := 77) (ls' := [(2, .inl (0)), (0, .inr (.inr (.ref 0))), (1, .inl (a1))]) (st' := [.inl ((-4))]) (σ' := σ) rfl ?_
              exact wk_rI tt_18 rfl rfl ⟨by rw [v_cMeter, if_neg (show ¬ (a1 < 0) by omega), if_pos h2, if_neg (show ¬ (2 ≤ a1) by omega), if_neg (show ¬ ((sg_g σ 45 11) = 0) by omega), if_neg (show ¬ (a1 = 0) by omega), if_pos h10], rfl⟩
            ·
              refine wk_b tt_18 4 (pc' := 48) (ls' := [(2, .inl (1)), (0, .inr (.inr (.ref 0))), (1, .inl (a1))]) (st' := [.inl (1)]) (σ' := σ) rfl ?_
              refine wk_if tt_18 (tgt := 56) rfl rfl (by decide) (fun _ => ?_) (fun (h : 1 = 0) => absurd h (by decide))
              refine wk_b tt_18 1 (pc' := 57) (ls' := [(2, .inl (1)), (0, .inr (.inr (.ref 0))), (1, .inl (a1))]) (st' := [.inl (a1)]) (σ' := σ) rfl ?_
              refine wk_if tt_18 (tgt := 70) rfl rfl ra1 (fun (h11 : ¬ a1 = 0) => ?_) (fun (h11 : a1 = 0) => ?_)
              ·
                refine wk_b tt_18 3 (pc' := 77) (ls' := [(2, .inl (1)), (0, .inr (.inr (.ref 0))), (1, .inl (a1))]) (st' := [.inl ((sg_g σ 45 23))]) (σ' := σ) rfl ?_
                exact wk_rI tt_18 rfl rfl ⟨by rw [v_cMeter, if_neg (show ¬ (a1 < 0) by omega), if_pos h2, if_neg (show ¬ (2 ≤ a1) by omega), if_neg (show ¬ ((sg_g σ 45 11) = 0) by omega), if_neg (show ¬ (a1 = 0) by omega), if_neg (show ¬ (¬ (sg_g σ 45 10) = 0) by omega), if_pos h11], rfl⟩
              ·
                refine wk_b tt_18 4 (pc' := 77) (ls' := [(2, .inl (1)), (0, .inr (.inr (.ref 0))), (1, .inl (a1))]) (st' := [.inl ((sg_g σ 45 22))]) (σ' := σ) rfl ?_
                exact wk_rI tt_18 rfl rfl ⟨by rw [v_cMeter, if_neg (show ¬ (a1 < 0) by omega), if_pos h2, if_neg (show ¬ (2 ≤ a1) by omega), if_neg (show ¬ ((sg_g σ 45 11) = 0) by omega), if_neg (show ¬ (a1 = 0) by omega), if_neg (show ¬ (¬ (sg_g σ 45 10) = 0) by omega), if_neg (show ¬ (¬ a1 = 0) by omega)], rfl⟩
    ·
      refine wk_b tt_18 1 (pc' := 11) (ls' := [(0, .inr (.inr (.ref 0))), (1, .inl (a1))]) (st' := [.inl ((-2))]) (σ' := σ) rfl ?_
      exact wk_rI tt_18 rfl rfl ⟨by rw [v_cMeter, if_neg (show ¬ (a1 < 0) by omega), if_neg (show ¬ (a1 ≤ 4) by omega)], rfl⟩
theorem vF_cMeter {L : List Nat} {σ σ' : sg_S} {a1 : Int} (hF : sg_F L σ σ') (h0 : sg_cv L 45 10 = false) (h1 : sg_cv L 45 11 = false) (h2 : sg_cv L 45 22 = false) (h3 : sg_cv L 45 23 = false) (h4 : sg_cv L 61 11 = false) (h5 : sg_cv L 61 24 = false) (h6 : sg_cv L 77 16 = false) (h7 : sg_cv L 77 17 = false) : v_cMeter σ' a1 = v_cMeter σ a1 := by
  unfold v_cMeter
  simp only [sg_F_g hF h0, sg_F_gl hF h0, sg_F_g hF h1, sg_F_gl hF h1, sg_F_g hF h2, sg_F_gl hF h2, sg_F_g hF h3, sg_F_gl hF h3, sg_F_g hF h4, sg_F_gl hF h4, sg_F_g hF h5, sg_F_gl hF h5, sg_F_g hF h6, sg_F_gl hF h6, sg_F_g hF h7, sg_F_gl hF h7]
theorem vr_cMeter (σ : sg_S) (a1 : Int) (ra1 : sg_R a1) : sg_R (v_cMeter σ a1) := by
  unfold v_cMeter
  by_cases h : a1 < 0
  · rw [if_pos h]
    decide
  · rw [if_neg h]
    by_cases h : a1 ≤ 4
    · rw [if_pos h]
      by_cases h : 2 ≤ a1
      · rw [if_pos h]
        by_cases h : ¬ (sg_g σ 61 11) = 0
        · rw [if_pos h]
          by_cases h : ¬ a1 = 4
          · rw [if_pos h]
            by_cases h : ¬ a1 = 2
            · rw [if_pos h]
              first | exact sx_R .. | exact sx_Rl .. | exact w.1 | exact w.2.1 | exact w.2.2.1 | exact sg_Rg _ _ _ | exact sg_Rgl _ _ _ | exact sg_Rr _ | exact sg_RLr _ | assumption | omega | (constructor <;> omega)
            · rw [if_neg h]
              first | exact sx_R .. | exact sx_Rl .. | exact w.1 | exact w.2.1 | exact w.2.2.1 | exact sg_Rg _ _ _ | exact sg_Rgl _ _ _ | exact sg_Rr _ | exact sg_RLr _ | assumption | omega | (constructor <;> omega)
          · rw [if_neg h]
            first | exact sx_R .. | exact sx_Rl .. | exact w.1 | exact w.2.1 | exact w.2.2.1 | exact sg_Rg _ _ _ | exact sg_Rgl _ _ _ | exact sg_Rr _ | exact sg_RLr _ | assumption | omega | (constructor <;> omega)
        · rw [if_neg h]
          decide
      · rw [if_neg h]
        by_cases h : (sg_g σ 45 11) = 0
        · rw [if_pos h]
          decide
        · rw [if_neg h]
          by_cases h : a1 = 0
          · rw [if_pos h]
            by_cases h : ¬ a1 = 0
            · rw [if_pos h]
              first | exact sx_R .. | exact sx_Rl .. | exact w.1 | exact w.2.1 | exact w.2.2.1 | exact sg_Rg _ _ _ | exact sg_Rgl _ _ _ | exact sg_Rr _ | exact sg_RLr _ | assumption | omega | (constructor <;> omega)
            · rw [if_neg h]
              first | exact sx_R .. | exact sx_Rl .. | exact w.1 | exact w.2.1 | exact w.2.2.1 | exact sg_Rg _ _ _ | exact sg_Rgl _ _ _ | exact sg_Rr _ | exact sg_RLr _ | assumption | omega | (constructor <;> omega)
          · rw [if_neg h]
            by_cases h : ¬ (sg_g σ 45 10) = 0
            · rw [if_pos h]
              decide
            · rw [if_neg h]
              by_cases h : ¬ a1 = 0
              · rw [if_pos h]
                first | exact sx_R .. | exact sx_Rl .. | exact w.1 | exact w.2.1 | exact w.2.2.1 | exact sg_Rg _ _ _ | exact sg_Rgl _ _ _ | exact sg_Rr _ | exact sg_RLr _ | assumption | omega | (constructor <;> omega)
              · rw [if_neg h]
                first | exact sx_R .. | exact sx_Rl .. | exact w.1 | exact w.2.1 | exact w.2.2.1 | exact sg_Rg _ _ _ | exact sg_Rgl _ _ _ | exact sg_Rr _ | exact sg_RLr _ | assumption | omega | (constructor <;> omega)
    · rw [if_neg h]
      decide
-- NestedVectors.shown
def v_cShown (σ : sg_S) (a1 : Int) : Int := (if a1 = 0 then (if (sg_g σ 45 11) = 0 then ((-4) : Int) else (if ¬ (sg_g σ 45 10) = 0 then ((-4) : Int) else (sg_g σ 49 5))) else (if (sg_g σ 61 11) = 0 then ((-4) : Int) else (if ¬ (sg_g σ 61 10) = 0 then ((-4) : Int) else (sg_g σ 65 5))))
set_option maxHeartbeats 4000000 in
set_option maxRecDepth 8000 in
theorem w_cShown (z : Value) (σ : sg_S) (a1 : Int) (ra1 : sg_R a1) : wx z 0 24 0 [(0, .inr (.inr (.ref 0))), (1, .inl (a1))] [] σ (fun v σ' => v = some (.inl (v_cShown σ a1)) ∧ σ' = σ) := by
  refine wk_b tt_24 1 (pc' := 1) (ls' := [(0, .inr (.inr (.ref 0))), (1, .inl (a1))]) (st' := [.inl (a1)]) (σ' := σ) rfl ?_
  refine wk_if tt_24 (tgt := 11) rfl rfl ra1 (fun (h1 : a1 = 0) => ?_) (fun (h1 : ¬ a1 = 0) => ?_)
  ·
    refine wk_b tt_24 5 (pc' := 20) (ls' := [(2, .inr (.inr (.ref 45))), (0, .inr (.inr (.ref 0))), (1, .inl (a1))]) (st' := [.inl ((sg_g σ 45 11))]) (σ' := σ) rfl ?_
    refine wk_if tt_24 (tgt := 40) rfl rfl (sg_Rg _ _ _) (fun (h2 : (sg_g σ 45 11) = 0) => ?_) (fun (h2 : ¬ (sg_g σ 45 11) = 0) => ?_)
    ·
      refine wk_b tt_24 1 (pc' := 42) (ls' := [(2, .inr (.inr (.ref 45))), (0, .inr (.inr (.ref 0))), (1, .inl (a1))]) (st' := [.inl ((-4))]) (σ' := σ) rfl ?_
      exact wk_rI tt_24 rfl rfl ⟨by rw [v_cShown, if_pos h1, if_pos h2], rfl⟩
    ·
      refine wk_b tt_24 2 (pc' := 27) (ls' := [(2, .inr (.inr (.ref 45))), (0, .inr (.inr (.ref 0))), (1, .inl (a1))]) (st' := [.inl ((sg_g σ 45 10))]) (σ' := σ) rfl ?_
      refine wk_if tt_24 (tgt := 40) rfl rfl (sg_Rg _ _ _) (fun (h3 : ¬ (sg_g σ 45 10) = 0) => ?_) (fun (h3 : (sg_g σ 45 10) = 0) => ?_)
      ·
        refine wk_b tt_24 1 (pc' := 42) (ls' := [(2, .inr (.inr (.ref 45))), (0, .inr (.inr (.ref 0))), (1, .inl (a1))]) (st' := [.inl ((-4))]) (σ' := σ) rfl ?_
        exact wk_rI tt_24 rfl rfl ⟨by rw [v_cShown, if_pos h1, if_neg (show ¬ ((sg_g σ 45 11) = 0) by omega), if_pos h3], rfl⟩
      ·
        refine wk_b tt_24 4 (pc' := 42) (ls' := [(2, .inr (.inr (.ref 45))), (0, .inr (.inr (.ref 0))), (1, .inl (a1))]) (st' := [.inl ((sg_g σ 49 5))]) (σ' := σ) rfl ?_
        exact wk_rI tt_24 rfl rfl ⟨by rw [v_cShown, if_pos h1, if_neg (show ¬ ((sg_g σ 45 11) = 0) by omega), if_neg (show ¬ (¬ (sg_g σ 45 10) = 0) by omega)], rfl⟩
  ·
    refine wk_b tt_24 6 (pc' := 20) (ls' := [(2, .inr (.inr (.ref 61))), (0, .inr (.inr (.ref 0))), (1, .inl (a1))]) (st' := [.inl ((sg_g σ 61 11))]) (σ' := σ) rfl ?_
    refine wk_if tt_24 (tgt := 40) rfl rfl (sg_Rg _ _ _) (fun (h4 : (sg_g σ 61 11) = 0) => ?_) (fun (h4 : ¬ (sg_g σ 61 11) = 0) => ?_)
    ·
      refine wk_b tt_24 1 (pc' := 42) (ls' := [(2, .inr (.inr (.ref 61))), (0, .inr (.inr (.ref 0))), (1, .inl (a1))]) (st' := [.inl ((-4))]) (σ' := σ) rfl ?_
      exact wk_rI tt_24 rfl rfl ⟨by rw [v_cShown, if_neg (show ¬ (a1 = 0) by omega), if_pos h4], rfl⟩
    ·
      refine wk_b tt_24 2 (pc' := 27) (ls' := [(2, .inr (.inr (.ref 61))), (0, .inr (.inr (.ref 0))), (1, .inl (a1))]) (st' := [.inl ((sg_g σ 61 10))]) (σ' := σ) rfl ?_
      refine wk_if tt_24 (tgt := 40) rfl rfl (sg_Rg _ _ _) (fun (h5 : ¬ (sg_g σ 61 10) = 0) => ?_) (fun (h5 : (sg_g σ 61 10) = 0) => ?_)
      ·
        refine wk_b tt_24 1 (pc' := 42) (ls' := [(2, .inr (.inr (.ref 61))), (0, .inr (.inr (.ref 0))), (1, .inl (a1))]) (st' := [.inl ((-4))]) (σ' := σ) rfl ?_
        exact wk_rI tt_24 rfl rfl ⟨by rw [v_cShown, if_neg (show ¬ (a1 = 0) by omega), if_neg (show ¬ ((sg_g σ 61 11) = 0) by omega), if_pos h5], rfl⟩
      ·
        refine wk_b tt_24 4 (pc' := 42) (ls' := [(2, .inr (.inr (.ref 61))), (0, .inr (.inr (.ref 0))), (1, .inl (a1))]) (st' := [.inl ((sg_g σ 65 5))]) (σ' := σ) rfl ?_
        exact wk_rI tt_24 rfl rfl ⟨by rw [v_cShown, if_neg (show ¬ (a1 = 0) by omega), if_neg (show ¬ ((sg_g σ 61 11) = 0) by omega), if_neg (show ¬ (¬ (sg_g σ 61 10) = 0) by omega)], rfl⟩
theorem vF_cShown {L : List Nat} {σ σ' : sg_S} {a1 : Int} (hF : sg_F L σ σ') (h0 : sg_cv L 45 10 = false) (h1 : sg_cv L 45 11 = false) (h2 : sg_cv L 49 5 = false) (h3 : sg_cv L 61 10 = false) (h4 : sg_cv L 61 11 = false) (h5 : sg_cv L 65 5 = false) : v_cShown σ' a1 = v_cShown σ a1 := by
  unfold v_cShown
  simp only [sg_F_g hF h0, sg_F_gl hF h0, sg_F_g hF h1, sg_F_gl hF h1, sg_F_g hF h2, sg_F_gl hF h2, sg_F_g hF h3, sg_F_gl hF h3, sg_F_g hF h4, sg_F_gl hF h4, sg_F_g hF h5, sg_F_gl hF h5]
theorem vr_cShown (σ : sg_S) (a1 : Int) (ra1 : sg_R a1) : sg_R (v_cShown σ a1) := by
  unfold v_cShown
  by_cases h : a1 = 0
  · rw [if_pos h]
    by_cases h : (sg_g σ 45 11) = 0
    · rw [if_pos h]
      decide
    · rw [if_neg h]
      by_cases h : ¬ (sg_g σ 45 10) = 0
      · rw [if_pos h]
        decide
      · rw [if_neg h]
        first | exact sx_R .. | exact sx_Rl .. | exact w.1 | exact w.2.1 | exact w.2.2.1 | exact sg_Rg _ _ _ | exact sg_Rgl _ _ _ | exact sg_Rr _ | exact sg_RLr _ | assumption | omega | (constructor <;> omega)
  · rw [if_neg h]
    by_cases h : (sg_g σ 61 11) = 0
    · rw [if_pos h]
      decide
    · rw [if_neg h]
      by_cases h : ¬ (sg_g σ 61 10) = 0
      · rw [if_pos h]
        decide
      · rw [if_neg h]
        first | exact sx_R .. | exact sx_Rl .. | exact w.1 | exact w.2.1 | exact w.2.2.1 | exact sg_Rg _ _ _ | exact sg_Rgl _ _ _ | exact sg_Rr _ | exact sg_RLr _ | assumption | omega | (constructor <;> omega)
-- NestedVectors.at
def v_cAt51 (σ : sg_S) (a1 : Int) : Int := (if a1 < 0 then (0 : Int) else (if 2000 ≤ a1 then (0 : Int) else ((sg_i ((sg_g σ 51 (a1))) &&& sg_i (255)).toInt)))
def p_cAt51 (σ : sg_S) (a1 : Int) : Prop := ((a1 < 0 → True) ∧ (0 ≤ a1 → ((2000 ≤ a1 → True) ∧ (a1 < 2000 → (0 ≤ a1 ∧ a1 < 2000) ∧ True))))
set_option maxHeartbeats 4000000 in
set_option maxRecDepth 8000 in
theorem w_cAt51 (z : Value) (σ : sg_S) (a1 : Int) (ra1 : sg_R a1) (w : p_cAt51 σ a1) : wx z 0 4 0 [(0, .inr (.inr (.ref 51))), (1, .inl (a1))] [] σ (fun v σ' => v = some (.inl (v_cAt51 σ a1)) ∧ σ' = σ) := by
  unfold p_cAt51 at w
  refine wk_b tt_4 1 (pc' := 1) (ls' := [(0, .inr (.inr (.ref 51))), (1, .inl (a1))]) (st' := [.inl (a1)]) (σ' := σ) rfl ?_
  refine wk_if tt_4 (tgt := 20) rfl rfl ra1 (fun (h1 : a1 < 0) => ?_) (fun (h1 : 0 ≤ a1) => ?_)
  ·
    have w := w.1 h1
    refine wk_b tt_4 1 (pc' := 21) (ls' := [(0, .inr (.inr (.ref 51))), (1, .inl (a1))]) (st' := [.inl (0)]) (σ' := σ) rfl ?_
    exact wk_rI tt_4 rfl rfl ⟨by rw [v_cAt51, if_pos h1], rfl⟩
  ·
    have w := w.2 h1
    refine wk_b tt_4 3 (pc' := 7) (ls' := [(0, .inr (.inr (.ref 51))), (1, .inl (a1))]) (st' := [.inl (2000), .inl (a1)]) (σ' := σ) rfl ?_
    refine wk_if2 tt_4 (tgt := 20) rfl rfl ra1 (by decide) (fun (h2 : 2000 ≤ a1) => ?_) (fun (h2 : a1 < 2000) => ?_)
    ·
      have w := w.1 h2
      refine wk_b tt_4 1 (pc' := 21) (ls' := [(0, .inr (.inr (.ref 51))), (1, .inl (a1))]) (st' := [.inl (0)]) (σ' := σ) rfl ?_
      exact wk_rI tt_4 rfl rfl ⟨by rw [v_cAt51, if_neg (show ¬ (a1 < 0) by omega), if_pos h2], rfl⟩
    ·
      have w := w.2 h2
      refine wk_b tt_4 2 (pc' := 12) (ls' := [(0, .inr (.inr (.ref 51))), (1, .inl (a1))]) (st' := [.inl (a1), .inr (.inr (.ref 51))]) (σ' := σ) rfl ?_
      obtain ⟨c3, w⟩ := w
      refine wk_ba (Or.inl rfl) tt_4 rfl rfl c3.1 c3.2 ra1 ?_
      refine wk_b tt_4 3 (pc' := 21) (ls' := [(0, .inr (.inr (.ref 51))), (1, .inl (a1))]) (st' := [.inl (((sg_i ((sg_g σ 51 (a1))) &&& sg_i (255)).toInt))]) (σ' := σ) rfl ?_
      exact wk_rI tt_4 rfl rfl ⟨by rw [v_cAt51, if_neg (show ¬ (a1 < 0) by omega), if_neg (show ¬ (2000 ≤ a1) by omega)], rfl⟩
theorem vF_cAt51 {L : List Nat} {σ σ' : sg_S} {a1 : Int} (hF : sg_F L σ σ') (h0 : sg_ca L 51 = true) : v_cAt51 σ' a1 = v_cAt51 σ a1 := by
  unfold v_cAt51
  simp only [sg_F_ga (k := _) hF h0, sg_F_gal (k := _) hF h0, sx_F hF h0, sx_Fl hF h0]
theorem pF_cAt51 {L : List Nat} {σ σ' : sg_S} {a1 : Int} (hF : sg_F L σ σ') (h0 : sg_ca L 51 = true) : p_cAt51 σ' a1 = p_cAt51 σ a1 := by
  unfold p_cAt51
  simp only [sg_F_ga (k := _) hF h0, sg_F_gal (k := _) hF h0, sx_F hF h0, sx_Fl hF h0]
theorem vr_cAt51 (σ : sg_S) (a1 : Int) (ra1 : sg_R a1) (w : p_cAt51 σ a1) : sg_R (v_cAt51 σ a1) := by
  unfold v_cAt51
  unfold p_cAt51 at w
  by_cases h : a1 < 0
  · rw [if_pos h]
    first | (have w := w.1 h) | (have w := w.2.1 h) | (have w := w.2.2.1 h) | skip
    decide
  · rw [if_neg h]
    first | (have w := w.2 (by omega)) | (have w := w.2.2 (by omega)) | (have w := w.2.2.2 (by omega)) | skip
    by_cases h : 2000 ≤ a1
    · rw [if_pos h]
      first | (have w := w.1 h) | (have w := w.2.1 h) | (have w := w.2.2.1 h) | skip
      decide
    · rw [if_neg h]
      first | (have w := w.2 (by omega)) | (have w := w.2.2 (by omega)) | (have w := w.2.2.2 (by omega)) | skip
      first | exact sx_R .. | exact sx_Rl .. | exact w.1 | exact w.2.1 | exact w.2.2.1 | exact sg_Rg _ _ _ | exact sg_Rgl _ _ _ | exact sg_Rr _ | exact sg_RLr _ | assumption | omega | (constructor <;> omega)
-- NestedVectors.at
def v_cAt67 (σ : sg_S) (a1 : Int) : Int := (if a1 < 0 then (0 : Int) else (if 2000 ≤ a1 then (0 : Int) else ((sg_i ((sg_g σ 67 (a1))) &&& sg_i (255)).toInt)))
def p_cAt67 (σ : sg_S) (a1 : Int) : Prop := ((a1 < 0 → True) ∧ (0 ≤ a1 → ((2000 ≤ a1 → True) ∧ (a1 < 2000 → (0 ≤ a1 ∧ a1 < 2000) ∧ True))))
set_option maxHeartbeats 4000000 in
set_option maxRecDepth 8000 in
theorem w_cAt67 (z : Value) (σ : sg_S) (a1 : Int) (ra1 : sg_R a1) (w : p_cAt67 σ a1) : wx z 0 4 0 [(0, .inr (.inr (.ref 67))), (1, .inl (a1))] [] σ (fun v σ' => v = some (.inl (v_cAt67 σ a1)) ∧ σ' = σ) := by
  unfold p_cAt67 at w
  refine wk_b tt_4 1 (pc' := 1) (ls' := [(0, .inr (.inr (.ref 67))), (1, .inl (a1))]) (st' := [.inl (a1)]) (σ' := σ) rfl ?_
  refine wk_if tt_4 (tgt := 20) rfl rfl ra1 (fun (h1 : a1 < 0) => ?_) (fun (h1 : 0 ≤ a1) => ?_)
  ·
    have w := w.1 h1
    refine wk_b tt_4 1 (pc' := 21) (ls' := [(0, .inr (.inr (.ref 67))), (1, .inl (a1))]) (st' := [.inl (0)]) (σ' := σ) rfl ?_
    exact wk_rI tt_4 rfl rfl ⟨by rw [v_cAt67, if_pos h1], rfl⟩
  ·
    have w := w.2 h1
    refine wk_b tt_4 3 (pc' := 7) (ls' := [(0, .inr (.inr (.ref 67))), (1, .inl (a1))]) (st' := [.inl (2000), .inl (a1)]) (σ' := σ) rfl ?_
    refine wk_if2 tt_4 (tgt := 20) rfl rfl ra1 (by decide) (fun (h2 : 2000 ≤ a1) => ?_) (fun (h2 : a1 < 2000) => ?_)
    ·
      have w := w.1 h2
      refine wk_b tt_4 1 (pc' := 21) (ls' := [(0, .inr (.inr (.ref 67))), (1, .inl (a1))]) (st' := [.inl (0)]) (σ' := σ) rfl ?_
      exact wk_rI tt_4 rfl rfl ⟨by rw [v_cAt67, if_neg (show ¬ (a1 < 0) by omega), if_pos h2], rfl⟩
    ·
      have w := w.2 h2
      refine wk_b tt_4 2 (pc' := 12) (ls' := [(0, .inr (.inr (.ref 67))), (1, .inl (a1))]) (st' := [.inl (a1), .inr (.inr (.ref 67))]) (σ' := σ) rfl ?_
      obtain ⟨c3, w⟩ := w
      refine wk_ba (Or.inl rfl) tt_4 rfl rfl c3.1 c3.2 ra1 ?_
      refine wk_b tt_4 3 (pc' := 21) (ls' := [(0, .inr (.inr (.ref 67))), (1, .inl (a1))]) (st' := [.inl (((sg_i ((sg_g σ 67 (a1))) &&& sg_i (255)).toInt))]) (σ' := σ) rfl ?_
      exact wk_rI tt_4 rfl rfl ⟨by rw [v_cAt67, if_neg (show ¬ (a1 < 0) by omega), if_neg (show ¬ (2000 ≤ a1) by omega)], rfl⟩
theorem vF_cAt67 {L : List Nat} {σ σ' : sg_S} {a1 : Int} (hF : sg_F L σ σ') (h0 : sg_ca L 67 = true) : v_cAt67 σ' a1 = v_cAt67 σ a1 := by
  unfold v_cAt67
  simp only [sg_F_ga (k := _) hF h0, sg_F_gal (k := _) hF h0, sx_F hF h0, sx_Fl hF h0]
theorem pF_cAt67 {L : List Nat} {σ σ' : sg_S} {a1 : Int} (hF : sg_F L σ σ') (h0 : sg_ca L 67 = true) : p_cAt67 σ' a1 = p_cAt67 σ a1 := by
  unfold p_cAt67
  simp only [sg_F_ga (k := _) hF h0, sg_F_gal (k := _) hF h0, sx_F hF h0, sx_Fl hF h0]
theorem vr_cAt67 (σ : sg_S) (a1 : Int) (ra1 : sg_R a1) (w : p_cAt67 σ a1) : sg_R (v_cAt67 σ a1) := by
  unfold v_cAt67
  unfold p_cAt67 at w
  by_cases h : a1 < 0
  · rw [if_pos h]
    first | (have w := w.1 h) | (have w := w.2.1 h) | (have w := w.2.2.1 h) | skip
    decide
  · rw [if_neg h]
    first | (have w := w.2 (by omega)) | (have w := w.2.2 (by omega)) | (have w := w.2.2.2 (by omega)) | skip
    by_cases h : 2000 ≤ a1
    · rw [if_pos h]
      first | (have w := w.1 h) | (have w := w.2.1 h) | (have w := w.2.2.1 h) | skip
      decide
    · rw [if_neg h]
      first | (have w := w.2 (by omega)) | (have w := w.2.2 (by omega)) | (have w := w.2.2.2 (by omega)) | skip
      first | exact sx_R .. | exact sx_Rl .. | exact w.1 | exact w.2.1 | exact w.2.2.1 | exact sg_Rg _ _ _ | exact sg_Rgl _ _ _ | exact sg_Rr _ | exact sg_RLr _ | assumption | omega | (constructor <;> omega)
-- NestedVectors.byteAt
def V_cByteAt (σ : sg_S) (a1 : Int) (a2 : Int) (Q : Int → sg_S → Prop) : Prop := ((a1 = 0 → (((sg_g σ 45 11) = 0 → Q ((-4)) σ) ∧ (¬ (sg_g σ 45 11) = 0 → (((sg_g σ 45 10) = 0 → ((a2 < 0 → Q ((-1)) σ) ∧ (0 ≤ a2 → ∀ v5 : Int, v5 = (if 2000 < (sg_g σ 49 5) then 2000 else (sg_g σ 49 5)) → sg_R v5 → ((a2 < v5 → p_cAt51 σ (a2) ∧ Q ((v_cAt51 σ (a2))) σ) ∧ (v5 ≤ a2 → Q ((-1)) σ))))) ∧ (¬ (sg_g σ 45 10) = 0 → Q ((-4)) σ))))) ∧ (¬ a1 = 0 → (((sg_g σ 61 11) = 0 → Q ((-4)) σ) ∧ (¬ (sg_g σ 61 11) = 0 → (((sg_g σ 61 10) = 0 → ((a2 < 0 → Q ((-1)) σ) ∧ (0 ≤ a2 → ∀ v14 : Int, v14 = (if 2000 < (sg_g σ 65 5) then 2000 else (sg_g σ 65 5)) → sg_R v14 → ((a2 < v14 → p_cAt67 σ (a2) ∧ Q ((v_cAt67 σ (a2))) σ) ∧ (v14 ≤ a2 → Q ((-1)) σ))))) ∧ (¬ (sg_g σ 61 10) = 0 → Q ((-4)) σ))))))
set_option maxHeartbeats 4000000 in
set_option maxRecDepth 8000 in
theorem w_cByteAt (z : Value) (σ : sg_S) (a1 : Int) (a2 : Int) (Q : Int → sg_S → Prop) (ra1 : sg_R a1) (ra2 : sg_R a2) (w : V_cByteAt σ a1 a2 Q) : wx z 1 8 0 [(0, .inr (.inr (.ref 0))), (1, .inl (a1)), (2, .inl (a2))] [] σ (fun v σ' => ∃ q, v = some (.inl q) ∧ sg_R q ∧ σ = σ' ∧ Q q σ') := by
  unfold V_cByteAt at w
  refine wk_b tt_8 1 (pc' := 1) (ls' := [(0, .inr (.inr (.ref 0))), (1, .inl (a1)), (2, .inl (a2))]) (st' := [.inl (a1)]) (σ' := σ) rfl ?_
  refine wk_if tt_8 (tgt := 11) rfl rfl ra1 (fun (h1 : a1 = 0) => ?_) (fun (h1 : ¬ a1 = 0) => ?_)
  ·
    have w := w.1 h1
    refine wk_b tt_8 5 (pc' := 20) (ls' := [(3, .inr (.inr (.ref 45))), (0, .inr (.inr (.ref 0))), (1, .inl (a1)), (2, .inl (a2))]) (st' := [.inl ((sg_g σ 45 11))]) (σ' := σ) rfl ?_
    refine wk_if tt_8 (tgt := 30) rfl rfl (sg_Rg _ _ _) (fun (h2 : (sg_g σ 45 11) = 0) => ?_) (fun (h2 : ¬ (sg_g σ 45 11) = 0) => ?_)
    ·
      have w := w.1 h2
      refine wk_b tt_8 1 (pc' := 32) (ls' := [(3, .inr (.inr (.ref 45))), (0, .inr (.inr (.ref 0))), (1, .inl (a1)), (2, .inl (a2))]) (st' := [.inl ((-4))]) (σ' := σ) rfl ?_
      exact wk_rI tt_8 rfl rfl ⟨_, rfl, (by decide), rfl, w⟩
    ·
      have w := w.2 h2
      refine wk_b tt_8 2 (pc' := 27) (ls' := [(3, .inr (.inr (.ref 45))), (0, .inr (.inr (.ref 0))), (1, .inl (a1)), (2, .inl (a2))]) (st' := [.inl ((sg_g σ 45 10))]) (σ' := σ) rfl ?_
      refine wk_if tt_8 (tgt := 33) rfl rfl (sg_Rg _ _ _) (fun (h3 : (sg_g σ 45 10) = 0) => ?_) (fun (h3 : ¬ (sg_g σ 45 10) = 0) => ?_)
      ·
        have w := w.1 h3
        refine wk_b tt_8 1 (pc' := 34) (ls' := [(3, .inr (.inr (.ref 45))), (0, .inr (.inr (.ref 0))), (1, .inl (a1)), (2, .inl (a2))]) (st' := [.inl (a2)]) (σ' := σ) rfl ?_
        refine wk_if tt_8 (tgt := 54) rfl rfl ra2 (fun (h4 : a2 < 0) => ?_) (fun (h4 : 0 ≤ a2) => ?_)
        ·
          have w := w.1 h4
          refine wk_b tt_8 2 (pc' := 69) (ls' := [(3, .inr (.inr (.ref 45))), (0, .inr (.inr (.ref 0))), (1, .inl (a1)), (2, .inl (a2))]) (st' := [.inl ((-1))]) (σ' := σ) rfl ?_
          exact wk_rI tt_8 rfl rfl ⟨_, rfl, (by decide), rfl, w⟩
        ·
          have w := w.2 h4
          refine wk_b tt_8 5 (pc' := 48) (ls' := [(3, .inr (.inr (.ref 45))), (0, .inr (.inr (.ref 0))), (1, .inl (a1)), (2, .inl (a2))]) (st' := [.inl (2000), .inl ((sg_g σ 49 5)), .inl (a2)]) (σ' := σ) rfl ?_
          refine wk_min (k0 := 0) tt_8 rfl (sg_Rg _ _ _) (by decide) rfl ?_
          obtain ⟨v5, e6⟩ : ∃ q, q = (if 2000 < (sg_g σ 49 5) then 2000 else (sg_g σ 49 5)) := ⟨_, rfl⟩
          have r7 : sg_R v5 := by rw [e6]; split <;> first | exact (sg_Rg _ _ _) | exact (by decide)
          rw [← e6]
          have w := w v5 e6 r7
          refine wk_if2 tt_8 (tgt := 58) rfl rfl ra2 r7 (fun (h8 : a2 < v5) => ?_) (fun (h8 : v5 ≤ a2) => ?_)
          ·
            have w := w.1 h8
            refine wk_b tt_8 4 (pc' := 66) (ls' := [(3, .inr (.inr (.ref 45))), (0, .inr (.inr (.ref 0))), (1, .inl (a1)), (2, .inl (a2))]) (st' := [.inl (a2), .inr (.inr (.ref 51))]) (σ' := σ) rfl ?_
            obtain ⟨c9, w⟩ := w
            refine wk_callp tt_8 rfl rfl rfl rfl rfl tt_4 rfl (by decide) (w_cAt51 z σ (a2) ra2 c9) ?_
            have r10 := vr_cAt51 σ  (a2) ra2 c9
            exact wk_rI tt_8 rfl rfl ⟨_, rfl, r10, rfl, w⟩
          ·
            have w := w.2 h8
            refine wk_b tt_8 2 (pc' := 69) (ls' := [(3, .inr (.inr (.ref 45))), (0, .inr (.inr (.ref 0))), (1, .inl (a1)), (2, .inl (a2))]) (st' := [.inl ((-1))]) (σ' := σ) rfl ?_
            exact wk_rI tt_8 rfl rfl ⟨_, rfl, (by decide), rfl, w⟩
      ·
        have w := w.2 h3
        refine wk_b tt_8 1 (pc' := 32) (ls' := [(3, .inr (.inr (.ref 45))), (0, .inr (.inr (.ref 0))), (1, .inl (a1)), (2, .inl (a2))]) (st' := [.inl ((-4))]) (σ' := σ) rfl ?_
        exact wk_rI tt_8 rfl rfl ⟨_, rfl, (by decide), rfl, w⟩
  ·
    have w := w.2 h1
    refine wk_b tt_8 6 (pc' := 20) (ls' := [(3, .inr (.inr (.ref 61))), (0, .inr (.inr (.ref 0))), (1, .inl (a1)), (2, .inl (a2))]) (st' := [.inl ((sg_g σ 61 11))]) (σ' := σ) rfl ?_
    refine wk_if tt_8 (tgt := 30) rfl rfl (sg_Rg _ _ _) (fun (h11 : (sg_g σ 61 11) = 0) => ?_) (fun (h11 : ¬ (sg_g σ 61 11) = 0) => ?_)
    ·
      have w := w.1 h11
      refine wk_b tt_8 1 (pc' := 32) (ls' := [(3, .inr (.inr (.ref 61))), (0, .inr (.inr (.ref 0))), (1, .inl (a1)), (2, .inl (a2))]) (st' := [.inl ((-4))]) (σ' := σ) rfl ?_
      exact wk_rI tt_8 rfl rfl ⟨_, rfl, (by decide), rfl, w⟩
    ·
      have w := w.2 h11
      refine wk_b tt_8 2 (pc' := 27) (ls' := [(3, .inr (.inr (.ref 61))), (0, .inr (.inr (.ref 0))), (1, .inl (a1)), (2, .inl (a2))]) (st' := [.inl ((sg_g σ 61 10))]) (σ' := σ) rfl ?_
      refine wk_if tt_8 (tgt := 33) rfl rfl (sg_Rg _ _ _) (fun (h12 : (sg_g σ 61 10) = 0) => ?_) (fun (h12 : ¬ (sg_g σ 61 10) = 0) => ?_)
      ·
        have w := w.1 h12
        refine wk_b tt_8 1 (pc' := 34) (ls' := [(3, .inr (.inr (.ref 61))), (0, .inr (.inr (.ref 0))), (1, .inl (a1)), (2, .inl (a2))]) (st' := [.inl (a2)]) (σ' := σ) rfl ?_
        refine wk_if tt_8 (tgt := 54) rfl rfl ra2 (fun (h13 : a2 < 0) => ?_) (fun (h13 : 0 ≤ a2) => ?_)
        ·
          have w := w.1 h13
          refine wk_b tt_8 2 (pc' := 69) (ls' := [(3, .inr (.inr (.ref 61))), (0, .inr (.inr (.ref 0))), (1, .inl (a1)), (2, .inl (a2))]) (st' := [.inl ((-1))]) (σ' := σ) rfl ?_
          exact wk_rI tt_8 rfl rfl ⟨_, rfl, (by decide), rfl, w⟩
        ·
          have w := w.2 h13
          refine wk_b tt_8 5 (pc' := 48) (ls' := [(3, .inr (.inr (.ref 61))), (0, .inr (.inr (.ref 0))), (1, .inl (a1)), (2, .inl (a2))]) (st' := [.inl (2000), .inl ((sg_g σ 65 5)), .inl (a2)]) (σ' := σ) rfl ?_
          refine wk_min (k0 := 0) tt_8 rfl (sg_Rg _ _ _) (by decide) rfl ?_
          obtain ⟨v14, e15⟩ : ∃ q, q = (if 2000 < (sg_g σ 65 5) then 2000 else (sg_g σ 65 5)) := ⟨_, rfl⟩
          have r16 : sg_R v14 := by rw [e15]; split <;> first | exact (sg_Rg _ _ _) | exact (by decide)
          rw [← e15]
          have w := w v14 e15 r16
          refine wk_if2 tt_8 (tgt := 58) rfl rfl ra2 r16 (fun (h17 : a2 < v14) => ?_) (fun (h17 : v14 ≤ a2) => ?_)
          ·
            have w := w.1 h17
            refine wk_b tt_8 4 (pc' := 66) (ls' := [(3, .inr (.inr (.ref 61))), (0, .inr (.inr (.ref 0))), (1, .inl (a1)), (2, .inl (a2))]) (st' := [.inl (a2), .inr (.inr (.ref 67))]) (σ' := σ) rfl ?_
            obtain ⟨c18, w⟩ := w
            refine wk_callp tt_8 rfl rfl rfl rfl rfl tt_4 rfl (by decide) (w_cAt67 z σ (a2) ra2 c18) ?_
            have r19 := vr_cAt67 σ  (a2) ra2 c18
            exact wk_rI tt_8 rfl rfl ⟨_, rfl, r19, rfl, w⟩
          ·
            have w := w.2 h17
            refine wk_b tt_8 2 (pc' := 69) (ls' := [(3, .inr (.inr (.ref 61))), (0, .inr (.inr (.ref 0))), (1, .inl (a1)), (2, .inl (a2))]) (st' := [.inl ((-1))]) (σ' := σ) rfl ?_
            exact wk_rI tt_8 rfl rfl ⟨_, rfl, (by decide), rfl, w⟩
      ·
        have w := w.2 h12
        refine wk_b tt_8 1 (pc' := 32) (ls' := [(3, .inr (.inr (.ref 61))), (0, .inr (.inr (.ref 0))), (1, .inl (a1)), (2, .inl (a2))]) (st' := [.inl ((-4))]) (σ' := σ) rfl ?_
        exact wk_rI tt_8 rfl rfl ⟨_, rfl, (by decide), rfl, w⟩
-- NestedVectors$Image.same
def V_iSame4965 (σ : sg_S) (Q : Int → sg_S → Prop) : Prop := (((sg_g σ 49 2) = (sg_g σ 65 2) → (∃ (I5 : Nat → Int → Prop) (X7 : Prop), (∃ n, I5 n (0)) ∧ (∀ (n15 : Nat) (v2 : Int), sg_R v2 → I5 n15 v2 → (((sg_g σ 49 2) ≤ v2 → X7 ) ∧ (v2 < (sg_g σ 49 2) → (((sx_at σ 52 3001 (v2)) = (sx_at σ 68 6001 (v2)) → sg_R (v2 + 1) ∧ (∃ m, m < n15 ∧ I5 m ((v2 + 1)))) ∧ (¬ (sx_at σ 52 3001 (v2)) = (sx_at σ 68 6001 (v2)) → Q (0) σ))))) ∧ (X7  → Q (1) σ))) ∧ (¬ (sg_g σ 49 2) = (sg_g σ 65 2) → Q (0) σ))
set_option maxHeartbeats 4000000 in
set_option maxRecDepth 8000 in
theorem w_iSame4965 (z : Value) (σ : sg_S) (Q : Int → sg_S → Prop)  (w : V_iSame4965 σ  Q) : wx z 1 96 0 [(0, .inr (.inr (.ref 49))), (1, .inr (.inr (.ref 65)))] [] σ (fun v σ' => ∃ q, v = some (.inl q) ∧ (q = 0 ∨ q = 1) ∧ σ = σ' ∧ Q q σ') := by
  unfold V_iSame4965 at w
  refine wk_b tt_96 1 (pc' := 1) (ls' := [(0, .inr (.inr (.ref 49))), (1, .inr (.inr (.ref 65)))]) (st' := [.inr (.inr (.ref 65))]) (σ' := σ) rfl ?_
  refine wk_nu tt_96 rfl ?_
  refine wk_b tt_96 4 (pc' := 12) (ls' := [(0, .inr (.inr (.ref 49))), (1, .inr (.inr (.ref 65)))]) (st' := [.inl ((sg_g σ 65 2)), .inl ((sg_g σ 49 2))]) (σ' := σ) rfl ?_
  refine wk_if2 tt_96 (tgt := 17) rfl rfl (sg_Rg _ _ _) (sg_Rg _ _ _) (fun (h1 : (sg_g σ 49 2) = (sg_g σ 65 2)) => ?_) (fun (h1 : ¬ (sg_g σ 49 2) = (sg_g σ 65 2)) => ?_)
  ·
    have w := w.1 h1
    refine wk_b tt_96 2 (pc' := 19) (ls' := [(2, .inl (0)), (0, .inr (.inr (.ref 49))), (1, .inr (.inr (.ref 65)))]) (st' := []) (σ' := σ) rfl ?_
    obtain ⟨I5, X7, ⟨μ6, w12⟩, w13, w14⟩ := w
    have ex16 : X7  → wx z 1 96 54 [] [] σ (fun v σ' => ∃ q, v = some (.inl q) ∧ (q = 0 ∨ q = 1) ∧ σ = σ' ∧ Q q σ') := by
      intro w
      have w := w14  w
      refine wk_b tt_96 1 (pc' := 55) (ls' := []) (st' := [.inl (1)]) (σ' := σ) rfl ?_
      exact wk_rZ tt_96 rfl rfl (by decide) ⟨_, rfl, (by decide), rfl, w⟩
    have lp11 : ∀ (n15 : Nat) (v2 : Int), sg_R v2 → I5 n15 v2 → wx z 1 96 19 [(0, .inr (.inr (.ref 49))), (1, .inr (.inr (.ref 65))), (2, .inl (v2))] [] σ (fun v σ' => ∃ q, v = some (.inl q) ∧ (q = 0 ∨ q = 1) ∧ σ = σ' ∧ Q q σ') := by
      intro n15
      induction n15 using Nat.strongRecOn with
      | _ n15 ih9 =>
        intro v2 r8 w
        have w := w13 n15 v2 r8 w
        refine wk_b tt_96 3 (pc' := 24) (ls' := [(0, .inr (.inr (.ref 49))), (1, .inr (.inr (.ref 65))), (2, .inl (v2))]) (st' := [.inl ((sg_g σ 49 2)), .inl (v2)]) (σ' := σ) rfl ?_
        refine wk_if2 tt_96 (tgt := 54) rfl rfl r8 (sg_Rg _ _ _) (fun (h17 : (sg_g σ 49 2) ≤ v2) => ?_) (fun (h17 : v2 < (sg_g σ 49 2)) => ?_)
        ·
          have w := w.1 h17
          exact wk_ls [] rfl trivial (ex16     w)
        ·
          have w := w.2 h17
          refine wk_b tt_96 3 (pc' := 32) (ls' := [(0, .inr (.inr (.ref 49))), (1, .inr (.inr (.ref 65))), (2, .inl (v2))]) (st' := [.inl (v2), .inr (.inr (.ref 52))]) (σ' := σ) rfl ?_
          refine wk_callp tt_96 rfl rfl rfl rfl rfl tt_5 rfl (by decide) (at_i0 z σ 52 3001 (v2) rfl (by decide) r8) ?_
          show wx z 1 96 35 [(0, .inr (.inr (.ref 49))), (1, .inr (.inr (.ref 65))), (2, .inl (v2))] [.inl ((sx_at σ 52 3001 (v2)))] σ (fun v σ' => ∃ q, v = some (.inl q) ∧ (q = 0 ∨ q = 1) ∧ σ = σ' ∧ Q q σ')
          refine wk_b tt_96 3 (pc' := 40) (ls' := [(0, .inr (.inr (.ref 49))), (1, .inr (.inr (.ref 65))), (2, .inl (v2))]) (st' := [.inl (v2), .inr (.inr (.ref 68)), .inl ((sx_at σ 52 3001 (v2)))]) (σ' := σ) rfl ?_
          refine wk_callp tt_96 rfl rfl rfl rfl rfl tt_5 rfl (by decide) (at_i0 z σ 68 6001 (v2) rfl (by decide) r8) ?_
          show wx z 1 96 43 [(0, .inr (.inr (.ref 49))), (1, .inr (.inr (.ref 65))), (2, .inl (v2))] [.inl ((sx_at σ 68 6001 (v2))), .inl ((sx_at σ 52 3001 (v2)))] σ (fun v σ' => ∃ q, v = some (.inl q) ∧ (q = 0 ∨ q = 1) ∧ σ = σ' ∧ Q q σ')
          refine wk_if2 tt_96 (tgt := 48) rfl rfl (sx_R ..) (sx_R ..) (fun (h18 : (sx_at σ 52 3001 (v2)) = (sx_at σ 68 6001 (v2))) => ?_) (fun (h18 : ¬ (sx_at σ 52 3001 (v2)) = (sx_at σ 68 6001 (v2))) => ?_)
          ·
            have w := w.1 h18
            obtain ⟨c19, w⟩ := w
            refine wk_b tt_96 2 (pc' := 19) (ls' := [(2, .inl ((v2 + 1))), (0, .inr (.inr (.ref 49))), (1, .inr (.inr (.ref 65)))]) (st' := []) (σ' := σ) rfl ?_
            obtain ⟨m20, hm20, w⟩ := w
            exact wk_ls [(0, .inr (.inr (.ref 49))), (1, .inr (.inr (.ref 65))), (2, .inl ((v2 + 1)))] rfl ⟨rfl, rfl, rfl, trivial⟩ (ih9 m20 hm20 ((v2 + 1))  c19  w)
          ·
            have w := w.2 h18
            refine wk_b tt_96 1 (pc' := 47) (ls' := [(0, .inr (.inr (.ref 49))), (1, .inr (.inr (.ref 65))), (2, .inl (v2))]) (st' := [.inl (0)]) (σ' := σ) rfl ?_
            exact wk_rZ tt_96 rfl rfl (by decide) ⟨_, rfl, (by decide), rfl, w⟩
    exact wk_ls [(0, .inr (.inr (.ref 49))), (1, .inr (.inr (.ref 65))), (2, .inl (0))] rfl ⟨rfl, rfl, rfl, trivial⟩ (lp11 μ6 (0)  (by decide)  w12)
  ·
    have w := w.2 h1
    refine wk_b tt_96 1 (pc' := 16) (ls' := [(0, .inr (.inr (.ref 49))), (1, .inr (.inr (.ref 65)))]) (st' := [.inl (0)]) (σ' := σ) rfl ?_
    exact wk_rZ tt_96 rfl rfl (by decide) ⟨_, rfl, (by decide), rfl, w⟩
-- NestedVectors.alike
def V_cAlike (σ : sg_S) (Q : Int → sg_S → Prop) : Prop := (((sg_g σ 45 11) = 0 → Q ((-4)) σ) ∧ (¬ (sg_g σ 45 11) = 0 → (((sg_g σ 61 11) = 0 → Q ((-4)) σ) ∧ (¬ (sg_g σ 61 11) = 0 → ((7 ≤ (sg_g σ 45 10) → Q ((-4)) σ) ∧ ((sg_g σ 45 10) < 7 → (((sg_g σ 61 10) < 7 → (((sg_g σ 45 10) = 0 → ((¬ (sg_g σ 45 10) = 0 → Q (0) σ) ∧ ((sg_g σ 45 10) = 0 → (((sg_g σ 61 10) = 0 → V_iSame4965 σ  (fun q8 _ => (q8 = 0 ∨ q8 = 1) → ((q8 = 0 → Q (0) σ) ∧ (¬ q8 = 0 → Q (1) σ)))) ∧ (¬ (sg_g σ 61 10) = 0 → Q (0) σ))))) ∧ (¬ (sg_g σ 45 10) = 0 → (((sg_g σ 61 10) = 0 → ((¬ (sg_g σ 45 10) = 0 → Q (0) σ) ∧ ((sg_g σ 45 10) = 0 → (((sg_g σ 61 10) = 0 → V_iSame4965 σ  (fun q18 _ => (q18 = 0 ∨ q18 = 1) → ((q18 = 0 → Q (0) σ) ∧ (¬ q18 = 0 → Q (1) σ)))) ∧ (¬ (sg_g σ 61 10) = 0 → Q (0) σ))))) ∧ (¬ (sg_g σ 61 10) = 0 → Q (2) σ))))) ∧ (7 ≤ (sg_g σ 61 10) → Q ((-4)) σ))))))))
set_option maxHeartbeats 4000000 in
set_option maxRecDepth 8000 in
theorem w_cAlike (z : Value) (σ : sg_S) (Q : Int → sg_S → Prop)  (w : V_cAlike σ  Q) : wx z 2 3 0 [(0, .inr (.inr (.ref 0)))] [] σ (fun v σ' => ∃ q, v = some (.inl q) ∧ sg_R q ∧ σ = σ' ∧ Q q σ') := by
  unfold V_cAlike at w
  refine wk_b tt_3 3 (pc' := 7) (ls' := [(0, .inr (.inr (.ref 0)))]) (st' := [.inl ((sg_g σ 45 11))]) (σ' := σ) rfl ?_
  refine wk_if tt_3 (tgt := 44) rfl rfl (sg_Rg _ _ _) (fun (h1 : (sg_g σ 45 11) = 0) => ?_) (fun (h1 : ¬ (sg_g σ 45 11) = 0) => ?_)
  ·
    have w := w.1 h1
    refine wk_b tt_3 1 (pc' := 46) (ls' := [(0, .inr (.inr (.ref 0)))]) (st' := [.inl ((-4))]) (σ' := σ) rfl ?_
    exact wk_rI tt_3 rfl rfl ⟨_, rfl, (by decide), rfl, w⟩
  ·
    have w := w.2 h1
    refine wk_b tt_3 3 (pc' := 17) (ls' := [(0, .inr (.inr (.ref 0)))]) (st' := [.inl ((sg_g σ 61 11))]) (σ' := σ) rfl ?_
    refine wk_if tt_3 (tgt := 44) rfl rfl (sg_Rg _ _ _) (fun (h2 : (sg_g σ 61 11) = 0) => ?_) (fun (h2 : ¬ (sg_g σ 61 11) = 0) => ?_)
    ·
      have w := w.1 h2
      refine wk_b tt_3 1 (pc' := 46) (ls' := [(0, .inr (.inr (.ref 0)))]) (st' := [.inl ((-4))]) (σ' := σ) rfl ?_
      exact wk_rI tt_3 rfl rfl ⟨_, rfl, (by decide), rfl, w⟩
    ·
      have w := w.2 h2
      refine wk_b tt_3 4 (pc' := 29) (ls' := [(0, .inr (.inr (.ref 0)))]) (st' := [.inl (7), .inl ((sg_g σ 45 10))]) (σ' := σ) rfl ?_
      refine wk_if2 tt_3 (tgt := 44) rfl rfl (sg_Rg _ _ _) (by decide) (fun (h3 : 7 ≤ (sg_g σ 45 10)) => ?_) (fun (h3 : (sg_g σ 45 10) < 7) => ?_)
      ·
        have w := w.1 h3
        refine wk_b tt_3 1 (pc' := 46) (ls' := [(0, .inr (.inr (.ref 0)))]) (st' := [.inl ((-4))]) (σ' := σ) rfl ?_
        exact wk_rI tt_3 rfl rfl ⟨_, rfl, (by decide), rfl, w⟩
      ·
        have w := w.2 h3
        refine wk_b tt_3 4 (pc' := 41) (ls' := [(0, .inr (.inr (.ref 0)))]) (st' := [.inl (7), .inl ((sg_g σ 61 10))]) (σ' := σ) rfl ?_
        refine wk_if2 tt_3 (tgt := 47) rfl rfl (sg_Rg _ _ _) (by decide) (fun (h4 : (sg_g σ 61 10) < 7) => ?_) (fun (h4 : 7 ≤ (sg_g σ 61 10)) => ?_)
        ·
          have w := w.1 h4
          refine wk_b tt_3 3 (pc' := 54) (ls' := [(0, .inr (.inr (.ref 0)))]) (st' := [.inl ((sg_g σ 45 10))]) (σ' := σ) rfl ?_
          refine wk_if tt_3 (tgt := 69) rfl rfl (sg_Rg _ _ _) (fun (h5 : (sg_g σ 45 10) = 0) => ?_) (fun (h5 : ¬ (sg_g σ 45 10) = 0) => ?_)
          ·
            have w := w.1 h5
            refine wk_b tt_3 3 (pc' := 76) (ls' := [(0, .inr (.inr (.ref 0)))]) (st' := [.inl ((sg_g σ 45 10))]) (σ' := σ) rfl ?_
            refine wk_if tt_3 (tgt := 89) rfl rfl (sg_Rg _ _ _) (fun (h6 : ¬ (sg_g σ 45 10) = 0) => ?_) (fun (h6 : (sg_g σ 45 10) = 0) => ?_)
            ·
              have w := w.1 h6
              refine wk_b tt_3 1 (pc' := 90) (ls' := [(0, .inr (.inr (.ref 0)))]) (st' := [.inl (0)]) (σ' := σ) rfl ?_
              exact wk_rI tt_3 rfl rfl ⟨_, rfl, (by decide), rfl, w⟩
            ·
              have w := w.2 h6
              refine wk_b tt_3 3 (pc' := 86) (ls' := [(0, .inr (.inr (.ref 0)))]) (st' := [.inl ((sg_g σ 61 10))]) (σ' := σ) rfl ?_
              refine wk_if tt_3 (tgt := 91) rfl rfl (sg_Rg _ _ _) (fun (h7 : (sg_g σ 61 10) = 0) => ?_) (fun (h7 : ¬ (sg_g σ 61 10) = 0) => ?_)
              ·
                have w := w.1 h7
                refine wk_b tt_3 6 (pc' := 105) (ls' := [(0, .inr (.inr (.ref 0)))]) (st' := [.inr (.inr (.ref 65)), .inr (.inr (.ref 49))]) (σ' := σ) rfl ?_
                refine wk_call tt_3 rfl rfl rfl rfl rfl tt_96 rfl (by decide) (w_iSame4965 z σ  _  w) (fun u13 σ9 hq11 => ?_)
                obtain ⟨q8, rfl, r12, rfl, w⟩ := hq11
                have w := w r12
                refine wk_if tt_3 (tgt := 115) rfl rfl (sg_Rz r12) (fun (h14 : q8 = 0) => ?_) (fun (h14 : ¬ q8 = 0) => ?_)
                ·
                  have w := w.1 h14
                  refine wk_b tt_3 1 (pc' := 116) (ls' := [(0, .inr (.inr (.ref 0)))]) (st' := [.inl (0)]) (σ' := σ) rfl ?_
                  exact wk_rI tt_3 rfl rfl ⟨_, rfl, (by decide), rfl, w⟩
                ·
                  have w := w.2 h14
                  refine wk_b tt_3 2 (pc' := 116) (ls' := [(0, .inr (.inr (.ref 0)))]) (st' := [.inl (1)]) (σ' := σ) rfl ?_
                  exact wk_rI tt_3 rfl rfl ⟨_, rfl, (by decide), rfl, w⟩
              ·
                have w := w.2 h7
                refine wk_b tt_3 1 (pc' := 90) (ls' := [(0, .inr (.inr (.ref 0)))]) (st' := [.inl (0)]) (σ' := σ) rfl ?_
                exact wk_rI tt_3 rfl rfl ⟨_, rfl, (by decide), rfl, w⟩
          ·
            have w := w.2 h5
            refine wk_b tt_3 3 (pc' := 64) (ls' := [(0, .inr (.inr (.ref 0)))]) (st' := [.inl ((sg_g σ 61 10))]) (σ' := σ) rfl ?_
            refine wk_if tt_3 (tgt := 69) rfl rfl (sg_Rg _ _ _) (fun (h15 : (sg_g σ 61 10) = 0) => ?_) (fun (h15 : ¬ (sg_g σ 61 10) = 0) => ?_)
            ·
              have w := w.1 h15
              refine wk_b tt_3 3 (pc' := 76) (ls' := [(0, .inr (.inr (.ref 0)))]) (st' := [.inl ((sg_g σ 45 10))]) (σ' := σ) rfl ?_
              refine wk_if tt_3 (tgt := 89) rfl rfl (sg_Rg _ _ _) (fun (h16 : ¬ (sg_g σ 45 10) = 0) => ?_) (fun (h16 : (sg_g σ 45 10) = 0) => ?_)
              ·
                have w := w.1 h16
                refine wk_b tt_3 1 (pc' := 90) (ls' := [(0, .inr (.inr (.ref 0)))]) (st' := [.inl (0)]) (σ' := σ) rfl ?_
                exact wk_rI tt_3 rfl rfl ⟨_, rfl, (by decide), rfl, w⟩
              ·
                have w := w.2 h16
                refine wk_b tt_3 3 (pc' := 86) (ls' := [(0, .inr (.inr (.ref 0)))]) (st' := [.inl ((sg_g σ 61 10))]) (σ' := σ) rfl ?_
                refine wk_if tt_3 (tgt := 91) rfl rfl (sg_Rg _ _ _) (fun (h17 : (sg_g σ 61 10) = 0) => ?_) (fun (h17 : ¬ (sg_g σ 61 10) = 0) => ?_)
                ·
                  have w := w.1 h17
                  refine wk_b tt_3 6 (pc' := 105) (ls' := [(0, .inr (.inr (.ref 0)))]) (st' := [.inr (.inr (.ref 65)), .inr (.inr (.ref 49))]) (σ' := σ) rfl ?_
                  refine wk_call tt_3 rfl rfl rfl rfl rfl tt_96 rfl (by decide) (w_iSame4965 z σ  _  w) (fun u23 σ19 hq21 => ?_)
                  obtain ⟨q18, rfl, r22, rfl, w⟩ := hq21
                  have w := w r22
                  refine wk_if tt_3 (tgt := 115) rfl rfl (sg_Rz r22) (fun (h24 : q18 = 0) => ?_) (fun (h24 : ¬ q18 = 0) => ?_)
                  ·
                    have w := w.1 h24
                    refine wk_b tt_3 1 (pc' := 116) (ls' := [(0, .inr (.inr (.ref 0)))]) (st' := [.inl (0)]) (σ' := σ) rfl ?_
                    exact wk_rI tt_3 rfl rfl ⟨_, rfl, (by decide), rfl, w⟩
                  ·
                    have w := w.2 h24
                    refine wk_b tt_3 2 (pc' := 116) (ls' := [(0, .inr (.inr (.ref 0)))]) (st' := [.inl (1)]) (σ' := σ) rfl ?_
                    exact wk_rI tt_3 rfl rfl ⟨_, rfl, (by decide), rfl, w⟩
                ·
                  have w := w.2 h17
                  refine wk_b tt_3 1 (pc' := 90) (ls' := [(0, .inr (.inr (.ref 0)))]) (st' := [.inl (0)]) (σ' := σ) rfl ?_
                  exact wk_rI tt_3 rfl rfl ⟨_, rfl, (by decide), rfl, w⟩
            ·
              have w := w.2 h15
              refine wk_b tt_3 1 (pc' := 68) (ls' := [(0, .inr (.inr (.ref 0)))]) (st' := [.inl (2)]) (σ' := σ) rfl ?_
              exact wk_rI tt_3 rfl rfl ⟨_, rfl, (by decide), rfl, w⟩
        ·
          have w := w.2 h4
          refine wk_b tt_3 1 (pc' := 46) (ls' := [(0, .inr (.inr (.ref 0)))]) (st' := [.inl ((-4))]) (σ' := σ) rfl ?_
          exact wk_rI tt_3 rfl rfl ⟨_, rfl, (by decide), rfl, w⟩
