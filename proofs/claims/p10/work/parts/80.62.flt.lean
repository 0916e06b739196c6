/-! What the methods of the flat run ask for (3). -/
-- NestedVectors$FlatRun.asLong
def V_fAsLong (σ : sg_S) (a1 : Int) (Q : Int → sg_S → Prop) : Prop := (∃ (I4 : Nat → Int → Prop) (X6 : Prop), (∃ n, I4 n (0)) ∧ (∀ (n14 : Nat) (v1 : Int), sg_R v1 → I4 n14 v1 → (((sg_g σ 61 23) ≤ v1 → X6 ) ∧ (v1 < (sg_g σ 61 23) → p_lCell σ ((sx_at σ 64 400 ((sg_g σ 61 7)))) (v1) ∧ (∃ (I22 : Nat → Int → Prop) (X24 : Prop), (∃ n, I22 n (1)) ∧ (∀ (n32 : Nat) (v19 : Int), sg_R v19 → I22 n32 v19 → ((a1 ≤ v19 → X24 ) ∧ (v19 < a1 → ((4 ≤ v19 → X24 ) ∧ (v19 < 4 → sg_R ((sg_g σ 61 7) + v19) ∧ p_lCell σ ((sx_at σ 64 400 (((sg_g σ 61 7) + v19)))) (v1) ∧ (((v_lCell σ ((sx_at σ 64 400 (((sg_g σ 61 7) + v19)))) (v1)) = (v_lCell σ ((sx_at σ 64 400 ((sg_g σ 61 7)))) (v1)) → sg_R (v19 + 1) ∧ (∃ m, m < n32 ∧ I22 m ((v19 + 1)))) ∧ (¬ (v_lCell σ ((sx_at σ 64 400 (((sg_g σ 61 7) + v19)))) (v1)) = (v_lCell σ ((sx_at σ 64 400 ((sg_g σ 61 7)))) (v1)) → Q (0) σ))))))) ∧ (X24  → sg_R (v1 + 1) ∧ (∃ m, m < n14 ∧ I4 m ((v1 + 1)))))))) ∧ (X6  → Q (1) σ))
set_option maxHeartbeats 4000000 in
set_option maxRecDepth 8000 in
theorem w_fAsLong (z : Value) (σ : sg_S) (a1 : Int) (Q : Int → sg_S → Prop) (ra1 : sg_R a1) (w : V_fAsLong σ a1 Q) : wx z 1 51 0 [(0, .inr (.inr (.ref 61))), (1, .inl (a1))] [] σ (fun v σ' => ∃ q, v = some (.inl q) ∧ (q = 0 ∨ q = 1) ∧ σ = σ' ∧ Q q σ') := by
  unfold V_fAsLong at w
  refine wk_b tt_51 2 (pc' := 2) (ls' := [(2, .inl (0)), (0, .inr (.inr (.ref 61))), (1, .inl (a1))]) (st' := []) (σ' := σ) rfl ?_
  obtain ⟨I4, X6, ⟨μ5, w11⟩, w12, w13⟩ := w
  have ex15 : X6  → wx z 1 51 85 [] [] σ (fun v σ' => ∃ q, v = some (.inl q) ∧ (q = 0 ∨ q = 1) ∧ σ = σ' ∧ Q q σ') := by
    intro w
    have w := w13  w
    refine wk_b tt_51 1 (pc' := 86) (ls' := []) (st' := [.inl (1)]) (σ' := σ) rfl ?_
    exact wk_rZ tt_51 rfl rfl (by decide) ⟨_, rfl, (by decide), rfl, w⟩
  have lp10 : ∀ (n14 : Nat) (v1 : Int), sg_R v1 → I4 n14 v1 → wx z 1 51 2 [(0, .inr (.inr (.ref 61))), (1, .inl (a1)), (2, .inl (v1))] [] σ (fun v σ' => ∃ q, v = some (.inl q) ∧ (q = 0 ∨ q = 1) ∧ σ = σ' ∧ Q q σ') := by
    intro n14
    induction n14 using Nat.strongRecOn with
    | _ n14 ih8 =>
      intro v1 r7 w
      have w := w12 n14 v1 r7 w
      refine wk_b tt_51 3 (pc' := 7) (ls' := [(0, .inr (.inr (.ref 61))), (1, .inl (a1)), (2, .inl (v1))]) (st' := [.inl ((sg_g σ 61 23)), .inl (v1)]) (σ' := σ) rfl ?_
      refine wk_if2 tt_51 (tgt := 85) rfl rfl r7 (sg_Rg _ _ _) (fun (h16 : (sg_g σ 61 23) ≤ v1) => ?_) (fun (h16 : v1 < (sg_g σ 61 23)) => ?_)
      ·
        have w := w.1 h16
        exact wk_ls [] rfl trivial (ex15     w)
      ·
        have w := w.2 h16
        refine wk_b tt_51 6 (pc' := 22) (ls' := [(0, .inr (.inr (.ref 61))), (1, .inl (a1)), (2, .inl (v1))]) (st' := [.inl ((sg_g σ 61 7)), .inr (.inr (.ref 64)), .inr (.inr (.ref 77))]) (σ' := σ) rfl ?_
        refine wk_callp tt_51 rfl rfl rfl rfl rfl tt_5 rfl (by decide) (at_i0 z σ 64 400 ((sg_g σ 61 7)) rfl (by decide) (sg_Rg _ _ _)) ?_
        show wx z 1 51 25 [(0, .inr (.inr (.ref 61))), (1, .inl (a1)), (2, .inl (v1))] [.inl ((sx_at σ 64 400 ((sg_g σ 61 7)))), .inr (.inr (.ref 77))] σ (fun v σ' => ∃ q, v = some (.inl q) ∧ (q = 0 ∨ q = 1) ∧ σ = σ' ∧ Q q σ')
        refine wk_b tt_51 1 (pc' := 26) (ls' := [(0, .inr (.inr (.ref 61))), (1, .inl (a1)), (2, .inl (v1))]) (st' := [.inl (v1), .inl ((sx_at σ 64 400 ((sg_g σ 61 7)))), .inr (.inr (.ref 77))]) (σ' := σ) rfl ?_
        obtain ⟨c17, w⟩ := w
        refine wk_callp tt_51 rfl rfl rfl rfl rfl tt_100 rfl (by decide) (w_lCell z σ ((sx_at σ 64 400 ((sg_g σ 61 7)))) (v1) (sx_R ..) r7 c17) ?_
        have r18 := vr_lCell σ  ((sx_at σ 64 400 ((sg_g σ 61 7)))) (v1) (sx_R ..) r7 c17
        refine wk_b tt_51 3 (pc' := 33) (ls' := [(4, .inl (1)), (3, .inl ((v_lCell σ ((sx_at σ 64 400 ((sg_g σ 61 7)))) (v1)))), (0, .inr (.inr (.ref 61))), (1, .inl (a1)), (2, .inl (v1))]) (st' := []) (σ' := σ) rfl ?_
        obtain ⟨I22, X24, ⟨μ23, w29⟩, w30, w31⟩ := w
        have ex33 : X24  → wx z 1 51 79 [(0, .inr (.inr (.ref 61))), (1, .inl (a1)), (2, .inl (v1))] [] σ (fun v σ' => ∃ q, v = some (.inl q) ∧ (q = 0 ∨ q = 1) ∧ σ = σ' ∧ Q q σ') := by
          intro w
          have w := w31  w
          obtain ⟨c34, w⟩ := w
          refine wk_b tt_51 2 (pc' := 2) (ls' := [(2, .inl ((v1 + 1))), (0, .inr (.inr (.ref 61))), (1, .inl (a1))]) (st' := []) (σ' := σ) rfl ?_
          obtain ⟨m35, hm35, w⟩ := w
          exact wk_ls [(0, .inr (.inr (.ref 61))), (1, .inl (a1)), (2, .inl ((v1 + 1)))] rfl ⟨rfl, rfl, rfl, trivial⟩ (ih8 m35 hm35 ((v1 + 1))  c34  w)
        have lp28 : ∀ (n32 : Nat) (v19 : Int), sg_R v19 → I22 n32 v19 → wx z 1 51 33 [(0, .inr (.inr (.ref 61))), (1, .inl (a1)), (2, .inl (v1)), (3, .inl ((v_lCell σ ((sx_at σ 64 400 ((sg_g σ 61 7)))) (v1)))), (4, .inl (v19))] [] σ (fun v σ' => ∃ q, v = some (.inl q) ∧ (q = 0 ∨ q = 1) ∧ σ = σ' ∧ Q q σ') := by
          intro n32
          induction n32 using Nat.strongRecOn with
          | _ n32 ih26 =>
            intro v19 r25 w
            have w := w30 n32 v19 r25 w
            refine wk_b tt_51 2 (pc' := 36) (ls' := [(0, .inr (.inr (.ref 61))), (1, .inl (a1)), (2, .inl (v1)), (3, .inl ((v_lCell σ ((sx_at σ 64 400 ((sg_g σ 61 7)))) (v1)))), (4, .inl (v19))]) (st' := [.inl (a1), .inl (v19)]) (σ' := σ) rfl ?_
            refine wk_if2 tt_51 (tgt := 79) rfl rfl r25 ra1 (fun (h36 : a1 ≤ v19) => ?_) (fun (h36 : v19 < a1) => ?_)
            ·
              have w := w.1 h36
              exact wk_ls [(0, .inr (.inr (.ref 61))), (1, .inl (a1)), (2, .inl (v1))] rfl ⟨rfl, rfl, rfl, trivial⟩ (ex33     w)
            ·
              have w := w.2 h36
              refine wk_b tt_51 2 (pc' := 42) (ls' := [(0, .inr (.inr (.ref 61))), (1, .inl (a1)), (2, .inl (v1)), (3, .inl ((v_lCell σ ((sx_at σ 64 400 ((sg_g σ 61 7)))) (v1)))), (4, .inl (v19))]) (st' := [.inl (4), .inl (v19)]) (σ' := σ) rfl ?_
              refine wk_if2 tt_51 (tgt := 79) rfl rfl r25 (by decide) (fun (h37 : 4 ≤ v19) => ?_) (fun (h37 : v19 < 4) => ?_)
              ·
                have w := w.1 h37
                exact wk_ls [(0, .inr (.inr (.ref 61))), (1, .inl (a1)), (2, .inl (v1))] rfl ⟨rfl, rfl, rfl, trivial⟩ (ex33     w)
              ·
                have w := w.2 h37
                obtain ⟨c38, w⟩ := w
                refine wk_b tt_51 8 (pc' := 60) (ls' := [(0, .inr (.inr (.ref 61))), (1, .inl (a1)), (2, .inl (v1)), (3, .inl ((v_lCell σ ((sx_at σ 64 400 ((sg_g σ 61 7)))) (v1)))), (4, .inl (v19))]) (st' := [.inl (((sg_g σ 61 7) + v19)), .inr (.inr (.ref 64)), .inr (.inr (.ref 77))]) (σ' := σ) rfl ?_
                refine wk_callp tt_51 rfl rfl rfl rfl rfl tt_5 rfl (by decide) (at_i0 z σ 64 400 (((sg_g σ 61 7) + v19)) rfl (by decide) c38) ?_
                show wx z 1 51 63 [(0, .inr (.inr (.ref 61))), (1, .inl (a1)), (2, .inl (v1)), (3, .inl ((v_lCell σ ((sx_at σ 64 400 ((sg_g σ 61 7)))) (v1)))), (4, .inl (v19))] [.inl ((sx_at σ 64 400 (((sg_g σ 61 7) + v19)))), .inr (.inr (.ref 77))] σ (fun v σ' => ∃ q, v = some (.inl q) ∧ (q = 0 ∨ q = 1) ∧ σ = σ' ∧ Q q σ')
                refine wk_b tt_51 1 (pc' := 64) (ls' := [(0, .inr (.inr (.ref 61))), (1, .inl (a1)), (2, .inl (v1)), (3, .inl ((v_lCell σ ((sx_at σ 64 400 ((sg_g σ 61 7)))) (v1)))), (4, .inl (v19))]) (st' := [.inl (v1), .inl ((sx_at σ 64 400 (((sg_g σ 61 7) + v19)))), .inr (.inr (.ref 77))]) (σ' := σ) rfl ?_
                obtain ⟨c39, w⟩ := w
                refine wk_callp tt_51 rfl rfl rfl rfl rfl tt_100 rfl (by decide) (w_lCell z σ ((sx_at σ 64 400 (((sg_g σ 61 7) + v19)))) (v1) (sx_R ..) r7 c39) ?_
                have r40 := vr_lCell σ  ((sx_at σ 64 400 (((sg_g σ 61 7) + v19)))) (v1) (sx_R ..) r7 c39
                refine wk_b tt_51 1 (pc' := 68) (ls' := [(0, .inr (.inr (.ref 61))), (1, .inl (a1)), (2, .inl (v1)), (3, .inl ((v_lCell σ ((sx_at σ 64 400 ((sg_g σ 61 7)))) (v1)))), (4, .inl (v19))]) (st' := [.inl ((v_lCell σ ((sx_at σ 64 400 ((sg_g σ 61 7)))) (v1))), .inl ((v_lCell σ ((sx_at σ 64 400 (((sg_g σ 61 7) + v19)))) (v1)))]) (σ' := σ) rfl ?_
                refine wk_if2 tt_51 (tgt := 73) rfl rfl r40 r18 (fun (h41 : (v_lCell σ ((sx_at σ 64 400 (((sg_g σ 61 7) + v19)))) (v1)) = (v_lCell σ ((sx_at σ 64 400 ((sg_g σ 61 7)))) (v1))) => ?_) (fun (h41 : ¬ (v_lCell σ ((sx_at σ 64 400 (((sg_g σ 61 7) + v19)))) (v1)) = (v_lCell σ ((sx_at σ 64 400 ((sg_g σ 61 7)))) (v1))) => ?_)
                ·
                  have w := w.1 h41
                  obtain ⟨c42, w⟩ := w
                  refine wk_b tt_51 2 (pc' := 33) (ls' := [(4, .inl ((v19 + 1))), (0, .inr (.inr (.ref 61))), (1, .inl (a1)), (2, .inl (v1)), (3, .inl ((v_lCell σ ((sx_at σ 64 400 ((sg_g σ 61 7)))) (v1))))]) (st' := []) (σ' := σ) rfl ?_
                  obtain ⟨m43, hm43, w⟩ := w
                  exact wk_ls [(0, .inr (.inr (.ref 61))), (1, .inl (a1)), (2, .inl (v1)), (3, .inl ((v_lCell σ ((sx_at σ 64 400 ((sg_g σ 61 7)))) (v1)))), (4, .inl ((v19 + 1)))] rfl ⟨rfl, rfl, rfl, rfl, rfl, trivial⟩ (ih26 m43 hm43 ((v19 + 1))  c42  w)
                ·
                  have w := w.2 h41
                  refine wk_b tt_51 1 (pc' := 72) (ls' := [(0, .inr (.inr (.ref 61))), (1, .inl (a1)), (2, .inl (v1)), (3, .inl ((v_lCell σ ((sx_at σ 64 400 ((sg_g σ 61 7)))) (v1)))), (4, .inl (v19))]) (st' := [.inl (0)]) (σ' := σ) rfl ?_
                  exact wk_rZ tt_51 rfl rfl (by decide) ⟨_, rfl, (by decide), rfl, w⟩
        exact wk_ls [(0, .inr (.inr (.ref 61))), (1, .inl (a1)), (2, .inl (v1)), (3, .inl ((v_lCell σ ((sx_at σ 64 400 ((sg_g σ 61 7)))) (v1)))), (4, .inl (1))] rfl ⟨rfl, rfl, rfl, rfl, rfl, trivial⟩ (lp28 μ23 (1)  (by decide)  w29)
  exact wk_ls [(0, .inr (.inr (.ref 61))), (1, .inl (a1)), (2, .inl (0))] rfl ⟨rfl, rfl, rfl, trivial⟩ (lp10 μ5 (0)  (by decide)  w11)
-- NestedVectors$FlatRun.begin
def V_fBegin (σ : sg_S) (a1 : Int) (Q : sg_S → Prop) : Prop := ∀ σ1, σ1 = (sx_put σ 69 200 (a1) ((sg_g σ 61 23))) → V_lStep σ1  (fun q4 σ5 => (q4 = 0 ∨ q4 = 1) → sg_F [18077, 19077] σ1 σ5 → ((q4 = 0 → ∀ σ11, σ11 = (sg_w σ5 61 10 (8)) → Q σ11) ∧ (¬ q4 = 0 → ∀ v14 : Int, v14 = (if (sg_g σ 61 24) < (sg_g σ 61 23) then (sg_g σ 61 23) else (sg_g σ 61 24)) → sg_R v14 → ∀ σ17, σ17 = (sg_w σ5 61 24 (v14)) → Q σ17)))
set_option maxHeartbeats 4000000 in
set_option maxRecDepth 8000 in
theorem w_fBegin (z : Value) (σ : sg_S) (a1 : Int) (Q : sg_S → Prop) (ra1 : sg_R a1) (w : V_fBegin σ a1 Q) : wx z 1 52 0 [(0, .inr (.inr (.ref 61))), (1, .inl (a1))] [] σ (fun v σ' => v = none ∧ sg_F [69, 11061, 18077, 19077, 25061] σ σ' ∧ Q σ') := by
  unfold V_fBegin at w
  refine wk_b tt_52 5 (pc' := 9) (ls' := [(0, .inr (.inr (.ref 61))), (1, .inl (a1))]) (st' := [.inl ((sg_g σ 61 23)), .inl (a1), .inr (.inr (.ref 69))]) (σ' := σ) rfl ?_
  refine wk_callp tt_52 rfl rfl rfl rfl rfl tt_21 rfl (by decide) (pt_i0 z σ 69 200 (a1) ((sg_g σ 61 23)) rfl (by decide) ra1) ?_
  show wx z 1 52 12 [(0, .inr (.inr (.ref 61))), (1, .inl (a1))] [] (sx_put σ 69 200 (a1) ((sg_g σ 61 23))) (fun v σ' => v = none ∧ sg_F [69, 11061, 18077, 19077, 25061] σ σ' ∧ Q σ')
  generalize hs2 : (sx_put σ 69 200 (a1) ((sg_g σ 61 23))) = σ1
  have w := w σ1 hs2.symm
  have hF3 : sg_F [69] σ σ1 := by rw [← hs2]; exact sg_F_p (sg_F_r _ _) rfl _ _ _
  refine wk_b tt_52 2 (pc' := 16) (ls' := [(0, .inr (.inr (.ref 61))), (1, .inl (a1))]) (st' := [.inr (.inr (.ref 77))]) (σ' := σ1) rfl ?_
  refine wk_call tt_52 rfl rfl rfl rfl rfl tt_115 rfl (by decide) (w_lStep z σ1  _  w) (fun u9 σ5 hq7 => ?_)
  obtain ⟨q4, rfl, r8, hF6, w⟩ := hq7
  have w := w r8 hF6
  refine wk_if tt_52 (tgt := 40) rfl rfl (sg_Rz r8) (fun (h10 : q4 = 0) => ?_) (fun (h10 : ¬ q4 = 0) => ?_)
  ·
    have w := w.1 h10
    refine wk_b tt_52 3 (pc' := 46) (ls' := [(0, .inr (.inr (.ref 61))), (1, .inl (a1))]) (st' := []) (σ' := (sg_w σ5 61 10 (8))) rfl ?_
    generalize hs12 : (sg_w σ5 61 10 (8)) = σ11
    have w := w σ11 hs12.symm
    have hF13 : sg_F [11061] σ5 σ11 := by rw [← hs12]; exact sg_F_w (sg_F_r _ _) rfl _
    exact wk_rV tt_52 rfl rfl ⟨rfl, (sg_F_t (sg_F_t (sg_F_t (sg_F_r [69, 11061, 18077, 19077, 25061] σ) (sg_F_m (L := [69, 11061, 18077, 19077, 25061]) hF3 rfl)) (sg_F_m (L := [69, 11061, 18077, 19077, 25061]) hF6 rfl)) (sg_F_m (L := [69, 11061, 18077, 19077, 25061]) hF13 rfl)), w⟩
  ·
    have w := w.2 h10
    refine wk_b tt_52 5 (pc' := 31) (ls' := [(0, .inr (.inr (.ref 61))), (1, .inl (a1))]) (st' := [.inl ((sg_g σ5 61 23)), .inl ((sg_g σ5 61 24)), .inr (.inr (.ref 61))]) (σ' := σ5) rfl ?_
    rw [show (sg_g σ5 61 24) = (sg_g σ 61 24) from by rw [sg_F_ga hF6 rfl, sg_F_ga hF3 rfl]]
    rw [show (sg_g σ5 61 23) = (sg_g σ 61 23) from by rw [sg_F_ga hF6 rfl, sg_F_ga hF3 rfl]]
    refine wk_max (k0 := 0) tt_52 rfl (sg_Rg _ _ _) (sg_Rg _ _ _) rfl ?_
    obtain ⟨v14, e15⟩ : ∃ q, q = (if (sg_g σ 61 24) < (sg_g σ 61 23) then (sg_g σ 61 23) else (sg_g σ 61 24)) := ⟨_, rfl⟩
    have r16 : sg_R v14 := by rw [e15]; split <;> first | exact (sg_Rg _ _ _) | exact (sg_Rg _ _ _)
    rw [← e15]
    have w := w v14 e15 r16
    refine wk_b tt_52 1 (pc' := 37) (ls' := [(0, .inr (.inr (.ref 61))), (1, .inl (a1))]) (st' := []) (σ' := (sg_w σ5 61 24 (v14))) rfl ?_
    generalize hs18 : (sg_w σ5 61 24 (v14)) = σ17
    have w := w σ17 hs18.symm
    have hF19 : sg_F [25061] σ5 σ17 := by rw [← hs18]; exact sg_F_w (sg_F_r _ _) rfl _
    refine wk_b tt_52 1 (pc' := 46) (ls' := [(0, .inr (.inr (.ref 61))), (1, .inl (a1))]) (st' := []) (σ' := σ17) rfl ?_
    exact wk_rV tt_52 rfl rfl ⟨rfl, (sg_F_t (sg_F_t (sg_F_t (sg_F_r [69, 11061, 18077, 19077, 25061] σ) (sg_F_m (L := [69, 11061, 18077, 19077, 25061]) hF3 rfl)) (sg_F_m (L := [69, 11061, 18077, 19077, 25061]) hF6 rfl)) (sg_F_m (L := [69, 11061, 18077, 19077, 25061]) hF19 rfl)), w⟩
-- NestedVectors$FlatRun.insert
def V_fInsert (σ : sg_S) (a1 : Int) (Q : sg_S → Prop) : Prop := (∃ (I4 : Nat → Int → Prop) (X6 : Int → Prop), (∃ n, I4 n ((sg_g σ 61 21))) ∧ (∀ (n14 : Nat) (v1 : Int), sg_R v1 → I4 n14 v1 → ((v1 ≤ 0 → X6 (v1)) ∧ (0 < v1 → sg_R (v1 - 1) ∧ (((sx_at σ 74 200 ((v1 - 1))) ≤ a1 → X6 (v1)) ∧ (a1 < (sx_at σ 74 200 ((v1 - 1))) → sg_R (v1 + (-1)) ∧ (∃ m, m < n14 ∧ I4 m ((v1 + (-1))))))))) ∧ (∀ (v1 : Int), sg_R v1 → X6 v1 → ((v1 ≤ 0 → (∃ (I20 : Nat → Int → sg_S → Prop) (X22 : sg_S → Prop), (∃ n, I20 n ((sg_g σ 61 21)) σ) ∧ (∀ (n30 : Nat) (v17 : Int) (σ18 : sg_S), sg_R v17 → sg_F [74] σ σ18 → I20 n30 v17 σ18 → ((v17 ≤ v1 → X22 σ18) ∧ (v1 < v17 → sg_R (v17 - 1) ∧ ∀ σ41, σ41 = (sx_put σ18 74 200 (v17) ((sx_at σ18 74 200 ((v17 - 1))))) → sg_R (v17 + (-1)) ∧ (∃ m, m < n30 ∧ I20 m ((v17 + (-1))) σ41)))) ∧ (∀ (σ18 : sg_S), sg_F [74] σ σ18 → X22 σ18 → ∀ σ32, σ32 = (sx_put σ18 74 200 (v1) (a1)) → sg_R ((sg_g σ 61 21) + 1) ∧ ∀ σ36, σ36 = (sg_w σ32 61 21 (((sg_g σ 61 21) + 1))) → Q σ36))) ∧ (0 < v1 → sg_R (v1 - 1) ∧ ((¬ (sx_at σ 74 200 ((v1 - 1))) = a1 → (∃ (I51 : Nat → Int → sg_S → Prop) (X53 : sg_S → Prop), (∃ n, I51 n ((sg_g σ 61 21)) σ) ∧ (∀ (n61 : Nat) (v48 : Int) (σ49 : sg_S), sg_R v48 → sg_F [74] σ σ49 → I51 n61 v48 σ49 → ((v48 ≤ v1 → X53 σ49) ∧ (v1 < v48 → sg_R (v48 - 1) ∧ ∀ σ72, σ72 = (sx_put σ49 74 200 (v48) ((sx_at σ49 74 200 ((v48 - 1))))) → sg_R (v48 + (-1)) ∧ (∃ m, m < n61 ∧ I51 m ((v48 + (-1))) σ72)))) ∧ (∀ (σ49 : sg_S), sg_F [74] σ σ49 → X53 σ49 → ∀ σ63, σ63 = (sx_put σ49 74 200 (v1) (a1)) → sg_R ((sg_g σ 61 21) + 1) ∧ ∀ σ67, σ67 = (sg_w σ63 61 21 (((sg_g σ 61 21) + 1))) → Q σ67))) ∧ ((sx_at σ 74 200 ((v1 - 1))) = a1 → Q σ))))))
set_option maxHeartbeats 4000000 in
set_option maxRecDepth 8000 in
theorem w_fInsert (z : Value) (σ : sg_S) (a1 : Int) (Q : sg_S → Prop) (ra1 : sg_R a1) (w : V_fInsert σ a1 Q) : wx z 1 66 0 [(0, .inr (.inr (.ref 61))), (1, .inl (a1))] [] σ (fun v σ' => v = none ∧ sg_F [74, 22061] σ σ' ∧ Q σ') := by
  unfold V_fInsert at w
  refine wk_b tt_66 3 (pc' := 5) (ls' := [(2, .inl ((sg_g σ 61 21))), (0, .inr (.inr (.ref 61))), (1, .inl (a1))]) (st' := []) (σ' := σ) rfl ?_
  obtain ⟨I4, X6, ⟨μ5, w11⟩, w12, w13⟩ := w
  have ex15 : ∀ (v1 : Int), sg_R v1 → X6 v1 → wx z 1 66 29 [(0, .inr (.inr (.ref 61))), (1, .inl (a1)), (2, .inl (v1))] [] σ (fun v σ' => v = none ∧ sg_F [74, 22061] σ σ' ∧ Q σ') := by
    intro v1 r7 w
    have w := w13 v1 r7 w
    refine wk_b tt_66 1 (pc' := 30) (ls' := [(0, .inr (.inr (.ref 61))), (1, .inl (a1)), (2, .inl (v1))]) (st' := [.inl (v1)]) (σ' := σ) rfl ?_
    refine wk_if tt_66 (tgt := 48) rfl rfl r7 (fun (h16 : v1 ≤ 0) => ?_) (fun (h16 : 0 < v1) => ?_)
    ·
      have w := w.1 h16
      refine wk_b tt_66 3 (pc' := 53) (ls' := [(3, .inl ((sg_g σ 61 21))), (0, .inr (.inr (.ref 61))), (1, .inl (a1)), (2, .inl (v1))]) (st' := []) (σ' := σ) rfl ?_
      obtain ⟨I20, X22, ⟨μ21, w27⟩, w28, w29⟩ := w
      have ex31 : ∀ (σ18 : sg_S), sg_F [74] σ σ18 → X22 σ18 → wx z 1 66 82 [(0, .inr (.inr (.ref 61))), (1, .inl (a1)), (2, .inl (v1))] [] σ18 (fun v σ' => v = none ∧ sg_F [74, 22061] σ σ' ∧ Q σ') := by
        intro σ18 hF19 w
        have w := w29 σ18 hF19 w
        refine wk_b tt_66 4 (pc' := 88) (ls' := [(0, .inr (.inr (.ref 61))), (1, .inl (a1)), (2, .inl (v1))]) (st' := [.inl (a1), .inl (v1), .inr (.inr (.ref 74))]) (σ' := σ18) rfl ?_
        refine wk_callp tt_66 rfl rfl rfl rfl rfl tt_21 rfl (by decide) (pt_i0 z σ18 74 200 (v1) (a1) rfl (by decide) r7) ?_
        show wx z 1 66 91 [(0, .inr (.inr (.ref 61))), (1, .inl (a1)), (2, .inl (v1))] [] (sx_put σ18 74 200 (v1) (a1)) (fun v σ' => v = none ∧ sg_F [74, 22061] σ σ' ∧ Q σ')
        generalize hs33 : (sx_put σ18 74 200 (v1) (a1)) = σ32
        have w := w σ32 hs33.symm
        have hF34 : sg_F [74] σ18 σ32 := by rw [← hs33]; exact sg_F_p (sg_F_r _ _) rfl _ _ _
        obtain ⟨c35, w⟩ := w
        refine wk_b tt_66 6 (pc' := 101) (ls' := [(0, .inr (.inr (.ref 61))), (1, .inl (a1)), (2, .inl (v1))]) (st' := []) (σ' := (sg_w σ32 61 21 (((sg_g σ32 61 21) + 1)))) rfl ?_
        rw [show (sg_g σ32 61 21) = (sg_g σ 61 21) from by rw [sg_F_ga hF34 rfl, sg_F_ga hF19 rfl]]
        generalize hs37 : (sg_w σ32 61 21 (((sg_g σ 61 21) + 1))) = σ36
        have w := w σ36 hs37.symm
        have hF38 : sg_F [22061] σ32 σ36 := by rw [← hs37]; exact sg_F_w (sg_F_r _ _) rfl _
        exact wk_rV tt_66 rfl rfl ⟨rfl, (sg_F_t (sg_F_t (sg_F_t (sg_F_r [74, 22061] σ) (sg_F_m (L := [74, 22061]) hF19 rfl)) (sg_F_m (L := [74, 22061]) hF34 rfl)) (sg_F_m (L := [74, 22061]) hF38 rfl)), w⟩
      have lp26 : ∀ (n30 : Nat) (v17 : Int) (σ18 : sg_S), sg_R v17 → sg_F [74] σ σ18 → I20 n30 v17 σ18 → wx z 1 66 53 [(0, .inr (.inr (.ref 61))), (1, .inl (a1)), (2, .inl (v1)), (3, .inl (v17))] [] σ18 (fun v σ' => v = none ∧ sg_F [74, 22061] σ σ' ∧ Q σ') := by
        intro n30
        induction n30 using Nat.strongRecOn with
        | _ n30 ih24 =>
          intro v17 σ18 r23 hF19 w
          have w := w28 n30 v17 σ18 r23 hF19 w
          refine wk_b tt_66 2 (pc' := 55) (ls' := [(0, .inr (.inr (.ref 61))), (1, .inl (a1)), (2, .inl (v1)), (3, .inl (v17))]) (st' := [.inl (v1), .inl (v17)]) (σ' := σ18) rfl ?_
          refine wk_if2 tt_66 (tgt := 82) rfl rfl r23 r7 (fun (h39 : v17 ≤ v1) => ?_) (fun (h39 : v1 < v17) => ?_)
          ·
            have w := w.1 h39
            exact wk_ls [(0, .inr (.inr (.ref 61))), (1, .inl (a1)), (2, .inl (v1))] rfl ⟨rfl, rfl, rfl, trivial⟩ (ex31  σ18  (sg_F_t (sg_F_r [74] σ) (sg_F_m (L := [74]) hF19 rfl)) w)
          ·
            have w := w.2 h39
            obtain ⟨c40, w⟩ := w
            refine wk_b tt_66 8 (pc' := 70) (ls' := [(0, .inr (.inr (.ref 61))), (1, .inl (a1)), (2, .inl (v1)), (3, .inl (v17))]) (st' := [.inl ((v17 - 1)), .inr (.inr (.ref 74)), .inl (v17), .inr (.inr (.ref 74))]) (σ' := σ18) rfl ?_
            refine wk_callp tt_66 rfl rfl rfl rfl rfl tt_5 rfl (by decide) (at_i0 z σ18 74 200 ((v17 - 1)) rfl (by decide) c40) ?_
            show wx z 1 66 73 [(0, .inr (.inr (.ref 61))), (1, .inl (a1)), (2, .inl (v1)), (3, .inl (v17))] [.inl ((sx_at σ18 74 200 ((v17 - 1)))), .inl (v17), .inr (.inr (.ref 74))] σ18 (fun v σ' => v = none ∧ sg_F [74, 22061] σ σ' ∧ Q σ')
            refine wk_callp tt_66 rfl rfl rfl rfl rfl tt_21 rfl (by decide) (pt_i0 z σ18 74 200 (v17) ((sx_at σ18 74 200 ((v17 - 1)))) rfl (by decide) r23) ?_
            show wx z 1 66 76 [(0, .inr (.inr (.ref 61))), (1, .inl (a1)), (2, .inl (v1)), (3, .inl (v17))] [] (sx_put σ18 74 200 (v17) ((sx_at σ18 74 200 ((v17 - 1))))) (fun v σ' => v = none ∧ sg_F [74, 22061] σ σ' ∧ Q σ')
            generalize hs42 : (sx_put σ18 74 200 (v17) ((sx_at σ18 74 200 ((v17 - 1))))) = σ41
            have w := w σ41 hs42.symm
            have hF43 : sg_F [74] σ18 σ41 := by rw [← hs42]; exact sg_F_p (sg_F_r _ _) rfl _ _ _
            obtain ⟨c44, w⟩ := w
            refine wk_b tt_66 2 (pc' := 53) (ls' := [(3, .inl ((v17 + (-1)))), (0, .inr (.inr (.ref 61))), (1, .inl (a1)), (2, .inl (v1))]) (st' := []) (σ' := σ41) rfl ?_
            obtain ⟨m45, hm45, w⟩ := w
            exact wk_ls [(0, .inr (.inr (.ref 61))), (1, .inl (a1)), (2, .inl (v1)), (3, .inl ((v17 + (-1))))] rfl ⟨rfl, rfl, rfl, rfl, trivial⟩ (ih24 m45 hm45 ((v17 + (-1))) σ41 c44 (sg_F_t (sg_F_t (sg_F_r [74] σ) (sg_F_m (L := [74]) hF19 rfl)) (sg_F_m (L := [74]) hF43 rfl)) w)
      exact wk_ls [(0, .inr (.inr (.ref 61))), (1, .inl (a1)), (2, .inl (v1)), (3, .inl ((sg_g σ 61 21)))] rfl ⟨rfl, rfl, rfl, rfl, trivial⟩ (lp26 μ21 ((sg_g σ 61 21)) σ (sg_Rg _ _ _) (sg_F_r _ _) w27)
    ·
      have w := w.2 h16
      obtain ⟨c46, w⟩ := w
      refine wk_b tt_66 5 (pc' := 40) (ls' := [(0, .inr (.inr (.ref 61))), (1, .inl (a1)), (2, .inl (v1))]) (st' := [.inl ((v1 - 1)), .inr (.inr (.ref 74))]) (σ' := σ) rfl ?_
      refine wk_callp tt_66 rfl rfl rfl rfl rfl tt_5 rfl (by decide) (at_i0 z σ 74 200 ((v1 - 1)) rfl (by decide) c46) ?_
      show wx z 1 66 43 [(0, .inr (.inr (.ref 61))), (1, .inl (a1)), (2, .inl (v1))] [.inl ((sx_at σ 74 200 ((v1 - 1))))] σ (fun v σ' => v = none ∧ sg_F [74, 22061] σ σ' ∧ Q σ')
      refine wk_b tt_66 1 (pc' := 44) (ls' := [(0, .inr (.inr (.ref 61))), (1, .inl (a1)), (2, .inl (v1))]) (st' := [.inl (a1), .inl ((sx_at σ 74 200 ((v1 - 1))))]) (σ' := σ) rfl ?_
      refine wk_if2 tt_66 (tgt := 48) rfl rfl (sx_R ..) ra1 (fun (h47 : ¬ (sx_at σ 74 200 ((v1 - 1))) = a1) => ?_) (fun (h47 : (sx_at σ 74 200 ((v1 - 1))) = a1) => ?_)
      ·
        have w := w.1 h47
        refine wk_b tt_66 3 (pc' := 53) (ls' := [(3, .inl ((sg_g σ 61 21))), (0, .inr (.inr (.ref 61))), (1, .inl (a1)), (2, .inl (v1))]) (st' := []) (σ' := σ) rfl ?_
        obtain ⟨I51, X53, ⟨μ52, w58⟩, w59, w60⟩ := w
        have ex62 : ∀ (σ49 : sg_S), sg_F [74] σ σ49 → X53 σ49 → wx z 1 66 82 [(0, .inr (.inr (.ref 61))), (1, .inl (a1)), (2, .inl (v1))] [] σ49 (fun v σ' => v = none ∧ sg_F [74, 22061] σ σ' ∧ Q σ') := by
          intro σ49 hF50 w
          have w := w60 σ49 hF50 w
          refine wk_b tt_66 4 (pc' := 88) (ls' := [(0, .inr (.inr (.ref 61))), (1, .inl (a1)), (2, .inl (v1))]) (st' := [.inl (a1), .inl (v1), .inr (.inr (.ref 74))]) (σ' := σ49) rfl ?_
          refine wk_callp tt_66 rfl rfl rfl rfl rfl tt_21 rfl (by decide) (pt_i0 z σ49 74 200 (v1) (a1) rfl (by decide) r7) ?_
          show wx z 1 66 91 [(0, .inr (.inr (.ref 61))), (1, .inl (a1)), (2, .inl (v1))] [] (sx_put σ49 74 200 (v1) (a1)) (fun v σ' => v = none ∧ sg_F [74, 22061] σ σ' ∧ Q σ')
          generalize hs64 : (sx_put σ49 74 200 (v1) (a1)) = σ63
          have w := w σ63 hs64.symm
          have hF65 : sg_F [74] σ49 σ63 := by rw [← hs64]; exact sg_F_p (sg_F_r _ _) rfl _ _ _
          obtain ⟨c66, w⟩ := w
          refine wk_b tt_66 6 (pc' := 101) (ls' := [(0, .inr (.inr (.ref 61))), (1, .inl (a1)), (2, .inl (v1))]) (st' := []) (σ' := (sg_w σ63 61 21 (((sg_g σ63 61 21) + 1)))) rfl ?_
          rw [show (sg_g σ63 61 21) = (sg_g σ 61 21) from by rw [sg_F_ga hF65 rfl, sg_F_ga hF50 rfl]]
          generalize hs68 : (sg_w σ63 61 21 (((sg_g σ 61 21) + 1))) = σ67
          have w := w σ67 hs68.symm
          have hF69 : sg_F [22061] σ63 σ67 := by rw [← hs68]; exact sg_F_w (sg_F_r _ _) rfl _
          exact wk_rV tt_66 rfl rfl ⟨rfl, (sg_F_t (sg_F_t (sg_F_t (sg_F_r [74, 22061] σ) (sg_F_m (L := [74, 22061]) hF50 rfl)) (sg_F_m (L := [74, 22061]) hF65 rfl)) (sg_F_m (L := [74, 22061]) hF69 rfl)), w⟩
        have lp57 : ∀ (n61 : Nat) (v48 : Int) (σ49 : sg_S), sg_R v48 → sg_F [74] σ σ49 → I51 n61 v48 σ49 → wx z 1 66 53 [(0, .inr (.inr (.ref 61))), (1, .inl (a1)), (2, .inl (v1)), (3, .inl (v48))] [] σ49 (fun v σ' => v = none ∧ sg_F [74, 22061] σ σ' ∧ Q σ') := by
          intro n61
          induction n61 using Nat.strongRecOn with
          | _ n61 ih55 =>
            intro v48 σ49 r54 hF50 w
            have w := w59 n61 v48 σ49 r54 hF50 w
            refine wk_b tt_66 2 (pc' := 55) (ls' := [(0, .inr (.inr (.ref 61))), (1, .inl (a1)), (2, .inl (v1)), (3, .inl (v48))]) (st' := [.inl (v1), .inl (v48)]) (σ' := σ49) rfl ?_
            refine wk_if2 tt_66 (tgt := 82) rfl rfl r54 r7 (fun (h70 : v48 ≤ v1) => ?_) (fun (h70 : v1 < v48) => ?_)
            ·
              have w := w.1 h70
              exact wk_ls [(0, .inr (.inr (.ref 61))), (1, .inl (a1)), (2, .inl (v1))] rfl ⟨rfl, rfl, rfl, trivial⟩ (ex62  σ49  (sg_F_t (sg_F_r [74] σ) (sg_F_m (L := [74]) hF50 rfl)) w)
            ·
              have w := w.2 h70
              obtain ⟨c71, w⟩ := w
              refine wk_b tt_66 8 (pc' := 70) (ls' := [(0, .inr (.inr (.ref 61))), (1, .inl (a1)), (2, .inl (v1)), (3, .inl (v48))]) (st' := [.inl ((v48 - 1)), .inr (.inr (.ref 74)), .inl (v48), .inr (.inr (.ref 74))]) (σ' := σ49) rfl ?_
              refine wk_callp tt_66 rfl rfl rfl rfl rfl tt_5 rfl (by decide) (at_i0 z σ49 74 200 ((v48 - 1)) rfl (by decide) c71) ?_
              show wx z 1 66 73 [(0, .inr (.inr (.ref 61))), (1, .inl (a1)), (2, .inl (v1)), (3, .inl (v48))] [.inl ((sx_at σ49 74 200 ((v48 - 1)))), .inl (v48), .inr (.inr (.ref 74))] σ49 (fun v σ' => v = none ∧ sg_F [74, 22061] σ σ' ∧ Q σ')
              refine wk_callp tt_66 rfl rfl rfl rfl rfl tt_21 rfl (by decide) (pt_i0 z σ49 74 200 (v48) ((sx_at σ49 74 200 ((v48 - 1)))) rfl (by decide) r54) ?_
              show wx z 1 66 76 [(0, .inr (.inr (.ref 61))), (1, .inl (a1)), (2, .inl (v1)), (3, .inl (v48))] [] (sx_put σ49 74 200 (v48) ((sx_at σ49 74 200 ((v48 - 1))))) (fun v σ' => v = none ∧ sg_F [74, 22061] σ σ' ∧ Q σ')
              generalize hs73 : (sx_put σ49 74 200 (v48) ((sx_at σ49 74 200 ((v48 - 1))))) = σ72
              have w := w σ72 hs73.symm
              have hF74 : sg_F [74] σ49 σ72 := by rw [← hs73]; exact sg_F_p (sg_F_r _ _) rfl _ _ _
              obtain ⟨c75, w⟩ := w
              refine wk_b tt_66 2 (pc' := 53) (ls' := [(3, .inl ((v48 + (-1)))), (0, .inr (.inr (.ref 61))), (1, .inl (a1)), (2, .inl (v1))]) (st' := []) (σ' := σ72) rfl ?_
              obtain ⟨m76, hm76, w⟩ := w
              exact wk_ls [(0, .inr (.inr (.ref 61))), (1, .inl (a1)), (2, .inl (v1)), (3, .inl ((v48 + (-1))))] rfl ⟨rfl, rfl, rfl, rfl, trivial⟩ (ih55 m76 hm76 ((v48 + (-1))) σ72 c75 (sg_F_t (sg_F_t (sg_F_r [74] σ) (sg_F_m (L := [74]) hF50 rfl)) (sg_F_m (L := [74]) hF74 rfl)) w)
        exact wk_ls [(0, .inr (.inr (.ref 61))), (1, .inl (a1)), (2, .inl (v1)), (3, .inl ((sg_g σ 61 21)))] rfl ⟨rfl, rfl, rfl, rfl, trivial⟩ (lp57 μ52 ((sg_g σ 61 21)) σ (sg_Rg _ _ _) (sg_F_r _ _) w58)
      ·
        have w := w.2 h47
        exact wk_rV tt_66 rfl rfl ⟨rfl, (sg_F_r [74, 22061] σ), w⟩
  have lp10 : ∀ (n14 : Nat) (v1 : Int), sg_R v1 → I4 n14 v1 → wx z 1 66 5 [(0, .inr (.inr (.ref 61))), (1, .inl (a1)), (2, .inl (v1))] [] σ (fun v σ' => v = none ∧ sg_F [74, 22061] σ σ' ∧ Q σ') := by
    intro n14
    induction n14 using Nat.strongRecOn with
    | _ n14 ih8 =>
      intro v1 r7 w
      have w := w12 n14 v1 r7 w
      refine wk_b tt_66 1 (pc' := 6) (ls' := [(0, .inr (.inr (.ref 61))), (1, .inl (a1)), (2, .inl (v1))]) (st' := [.inl (v1)]) (σ' := σ) rfl ?_
      refine wk_if tt_66 (tgt := 29) rfl rfl r7 (fun (h77 : v1 ≤ 0) => ?_) (fun (h77 : 0 < v1) => ?_)
      ·
        have w := w.1 h77
        exact wk_ls [(0, .inr (.inr (.ref 61))), (1, .inl (a1)), (2, .inl (v1))] rfl ⟨rfl, rfl, rfl, trivial⟩ (ex15 (v1)  r7  w)
      ·
        have w := w.2 h77
        obtain ⟨c78, w⟩ := w
        refine wk_b tt_66 5 (pc' := 16) (ls' := [(0, .inr (.inr (.ref 61))), (1, .inl (a1)), (2, .inl (v1))]) (st' := [.inl ((v1 - 1)), .inr (.inr (.ref 74))]) (σ' := σ) rfl ?_
        refine wk_callp tt_66 rfl rfl rfl rfl rfl tt_5 rfl (by decide) (at_i0 z σ 74 200 ((v1 - 1)) rfl (by decide) c78) ?_
        show wx z 1 66 19 [(0, .inr (.inr (.ref 61))), (1, .inl (a1)), (2, .inl (v1))] [.inl ((sx_at σ 74 200 ((v1 - 1))))] σ (fun v σ' => v = none ∧ sg_F [74, 22061] σ σ' ∧ Q σ')
        refine wk_b tt_66 1 (pc' := 20) (ls' := [(0, .inr (.inr (.ref 61))), (1, .inl (a1)), (2, .inl (v1))]) (st' := [.inl (a1), .inl ((sx_at σ 74 200 ((v1 - 1))))]) (σ' := σ) rfl ?_
        refine wk_if2 tt_66 (tgt := 29) rfl rfl (sx_R ..) ra1 (fun (h79 : (sx_at σ 74 200 ((v1 - 1))) ≤ a1) => ?_) (fun (h79 : a1 < (sx_at σ 74 200 ((v1 - 1)))) => ?_)
        ·
          have w := w.1 h79
          exact wk_ls [(0, .inr (.inr (.ref 61))), (1, .inl (a1)), (2, .inl (v1))] rfl ⟨rfl, rfl, rfl, trivial⟩ (ex15 (v1)  r7  w)
        ·
          have w := w.2 h79
          obtain ⟨c80, w⟩ := w
          refine wk_b tt_66 2 (pc' := 5) (ls' := [(2, .inl ((v1 + (-1)))), (0, .inr (.inr (.ref 61))), (1, .inl (a1))]) (st' := []) (σ' := σ) rfl ?_
          obtain ⟨m81, hm81, w⟩ := w
          exact wk_ls [(0, .inr (.inr (.ref 61))), (1, .inl (a1)), (2, .inl ((v1 + (-1))))] rfl ⟨rfl, rfl, rfl, trivial⟩ (ih8 m81 hm81 ((v1 + (-1)))  c80  w)
  exact wk_ls [(0, .inr (.inr (.ref 61))), (1, .inl (a1)), (2, .inl ((sg_g σ 61 21)))] rfl ⟨rfl, rfl, rfl, trivial⟩ (lp10 μ5 ((sg_g σ 61 21))  (sg_Rg _ _ _)  w11)
-- NestedVectors$FlatRun.want
def V_fWant (σ : sg_S) (a1 : Int) (a2 : Int) (Q : sg_S → Prop) : Prop := (∃ (I4 : Nat → Int → sg_S → Prop) (X6 : sg_S → Prop), (∃ n, I4 n ((sx_at σ 11 200 (a1))) σ) ∧ (∀ (n14 : Nat) (v1 : Int) (σ2 : sg_S), sg_R v1 → sg_F [74, 22061] σ σ2 → I4 n14 v1 σ2 → (((sx_at σ 12 200 (a1)) < v1 → X6 σ2) ∧ (v1 ≤ (sx_at σ 12 200 (a1)) → ((200 ≤ v1 → X6 σ2) ∧ (v1 < 200 → (∃ P20 : sg_S → Prop, ((¬ (sx_at σ 3 200 (v1)) = 258 → P20 σ2) ∧ ((sx_at σ 3 200 (v1)) = 258 → ((a2 ≤ (sx_at σ 16 200 (v1)) → P20 σ2) ∧ ((sx_at σ 16 200 (v1)) < a2 → V_fInsert σ2 ((sx_at σ 16 200 (v1))) (fun σ28 => sg_F [74, 22061] σ2 σ28 → P20 σ28))))) ∧ (∀ (σ21 : sg_S), sg_F [74, 22061] σ2 σ21 → P20 σ21 → sg_R (v1 + 1) ∧ (∃ m, m < n14 ∧ I4 m ((v1 + 1)) σ21)))))))) ∧ (∀ (σ2 : sg_S), sg_F [74, 22061] σ σ2 → X6 σ2 → Q σ2))
set_option maxHeartbeats 4000000 in
set_option maxRecDepth 8000 in
theorem w_fWant (z : Value) (σ : sg_S) (a1 : Int) (a2 : Int) (Q : sg_S → Prop) (ra1 : sg_R a1) (ra2 : sg_R a2) (w : V_fWant σ a1 a2 Q) : wx z 2 89 0 [(0, .inr (.inr (.ref 61))), (1, .inl (a1)), (2, .inl (a2))] [] σ (fun v σ' => v = none ∧ sg_F [74, 22061] σ σ' ∧ Q σ') := by
  unfold V_fWant at w
  refine wk_b tt_89 4 (pc' := 8) (ls' := [(0, .inr (.inr (.ref 61))), (1, .inl (a1)), (2, .inl (a2))]) (st' := [.inl (a1), .inr (.inr (.ref 11))]) (σ' := σ) rfl ?_
  refine wk_callp tt_89 rfl rfl rfl rfl rfl tt_5 rfl (by decide) (at_i0 z σ 11 200 (a1) rfl (by decide) ra1) ?_
  show wx z 2 89 11 [(0, .inr (.inr (.ref 61))), (1, .inl (a1)), (2, .inl (a2))] [.inl ((sx_at σ 11 200 (a1)))] σ (fun v σ' => v = none ∧ sg_F [74, 22061] σ σ' ∧ Q σ')
  refine wk_b tt_89 1 (pc' := 12) (ls' := [(3, .inl ((sx_at σ 11 200 (a1)))), (0, .inr (.inr (.ref 61))), (1, .inl (a1)), (2, .inl (a2))]) (st' := []) (σ' := σ) rfl ?_
  obtain ⟨I4, X6, ⟨μ5, w11⟩, w12, w13⟩ := w
  have ex15 : ∀ (σ2 : sg_S), sg_F [74, 22061] σ σ2 → X6 σ2 → wx z 2 89 87 [] [] σ2 (fun v σ' => v = none ∧ sg_F [74, 22061] σ σ' ∧ Q σ') := by
    intro σ2 hF3 w
    have w := w13 σ2 hF3 w
    exact wk_rV tt_89 rfl rfl ⟨rfl, (sg_F_t (sg_F_r [74, 22061] σ) (sg_F_m (L := [74, 22061]) hF3 rfl)), w⟩
  have lp10 : ∀ (n14 : Nat) (v1 : Int) (σ2 : sg_S), sg_R v1 → sg_F [74, 22061] σ σ2 → I4 n14 v1 σ2 → wx z 2 89 12 [(0, .inr (.inr (.ref 61))), (1, .inl (a1)), (2, .inl (a2)), (3, .inl (v1))] [] σ2 (fun v σ' => v = none ∧ sg_F [74, 22061] σ σ' ∧ Q σ') := by
    intro n14
    induction n14 using Nat.strongRecOn with
    | _ n14 ih8 =>
      intro v1 σ2 r7 hF3 w
      have w := w12 n14 v1 σ2 r7 hF3 w
      refine wk_b tt_89 5 (pc' := 21) (ls' := [(0, .inr (.inr (.ref 61))), (1, .inl (a1)), (2, .inl (a2)), (3, .inl (v1))]) (st' := [.inl (a1), .inr (.inr (.ref 12)), .inl (v1)]) (σ' := σ2) rfl ?_
      refine wk_callp tt_89 rfl rfl rfl rfl rfl tt_5 rfl (by decide) (at_i0 z σ2 12 200 (a1) rfl (by decide) ra1) ?_
      show wx z 2 89 24 [(0, .inr (.inr (.ref 61))), (1, .inl (a1)), (2, .inl (a2)), (3, .inl (v1))] [.inl ((sx_at σ2 12 200 (a1))), .inl (v1)] σ2 (fun v σ' => v = none ∧ sg_F [74, 22061] σ σ' ∧ Q σ')
      rw [sx_F (a := 12) (n := 200) (i := (a1)) hF3 rfl]
      refine wk_if2 tt_89 (tgt := 87) rfl rfl r7 (sx_R ..) (fun (h16 : (sx_at σ 12 200 (a1)) < v1) => ?_) (fun (h16 : v1 ≤ (sx_at σ 12 200 (a1))) => ?_)
      ·
        have w := w.1 h16
        exact wk_ls [] rfl trivial (ex15  σ2  (sg_F_t (sg_F_r [74, 22061] σ) (sg_F_m (L := [74, 22061]) hF3 rfl)) w)
      ·
        have w := w.2 h16
        refine wk_b tt_89 2 (pc' := 31) (ls' := [(0, .inr (.inr (.ref 61))), (1, .inl (a1)), (2, .inl (a2)), (3, .inl (v1))]) (st' := [.inl (200), .inl (v1)]) (σ' := σ2) rfl ?_
        refine wk_if2 tt_89 (tgt := 87) rfl rfl r7 (by decide) (fun (h17 : 200 ≤ v1) => ?_) (fun (h17 : v1 < 200) => ?_)
        ·
          have w := w.1 h17
          exact wk_ls [] rfl trivial (ex15  σ2  (sg_F_t (sg_F_r [74, 22061] σ) (sg_F_m (L := [74, 22061]) hF3 rfl)) w)
        ·
          have w := w.2 h17
          refine wk_b tt_89 4 (pc' := 42) (ls' := [(0, .inr (.inr (.ref 61))), (1, .inl (a1)), (2, .inl (a2)), (3, .inl (v1))]) (st' := [.inl (v1), .inr (.inr (.ref 3))]) (σ' := σ2) rfl ?_
          refine wk_callp tt_89 rfl rfl rfl rfl rfl tt_5 rfl (by decide) (at_i0 z σ2 3 200 (v1) rfl (by decide) r7) ?_
          show wx z 2 89 45 [(0, .inr (.inr (.ref 61))), (1, .inl (a1)), (2, .inl (a2)), (3, .inl (v1))] [.inl ((sx_at σ2 3 200 (v1)))] σ2 (fun v σ' => v = none ∧ sg_F [74, 22061] σ σ' ∧ Q σ')
          rw [sx_F (a := 3) (n := 200) (i := (v1)) hF3 rfl]
          refine wk_b tt_89 1 (pc' := 48) (ls' := [(0, .inr (.inr (.ref 61))), (1, .inl (a1)), (2, .inl (a2)), (3, .inl (v1))]) (st' := [.inl (258), .inl ((sx_at σ 3 200 (v1)))]) (σ' := σ2) rfl ?_
          obtain ⟨P20, w, w23⟩ := w
          have jn19 : ∀ (σ21 : sg_S), sg_F [74, 22061] σ2 σ21 → P20 σ21 → wx z 2 89 81 [(0, .inr (.inr (.ref 61))), (1, .inl (a1)), (2, .inl (a2)), (3, .inl (v1))] [] σ21 (fun v σ' => v = none ∧ sg_F [74, 22061] σ σ' ∧ Q σ') := by
            intro σ21 hF22 w
            have w := w23 σ21 hF22 w
            obtain ⟨c24, w⟩ := w
            refine wk_b tt_89 2 (pc' := 12) (ls' := [(3, .inl ((v1 + 1))), (0, .inr (.inr (.ref 61))), (1, .inl (a1)), (2, .inl (a2))]) (st' := []) (σ' := σ21) rfl ?_
            obtain ⟨m25, hm25, w⟩ := w
            exact wk_ls [(0, .inr (.inr (.ref 61))), (1, .inl (a1)), (2, .inl (a2)), (3, .inl ((v1 + 1)))] rfl ⟨rfl, rfl, rfl, rfl, trivial⟩ (ih8 m25 hm25 ((v1 + 1)) σ21 c24 (sg_F_t (sg_F_t (sg_F_r [74, 22061] σ) (sg_F_m (L := [74, 22061]) hF3 rfl)) (sg_F_m (L := [74, 22061]) hF22 rfl)) w)
          refine wk_if2 tt_89 (tgt := 81) rfl rfl (sx_R ..) (by decide) (fun (h18 : ¬ (sx_at σ 3 200 (v1)) = 258) => ?_) (fun (h18 : (sx_at σ 3 200 (v1)) = 258) => ?_)
          ·
            have w := w.1 h18
            exact wk_ls [(0, .inr (.inr (.ref 61))), (1, .inl (a1)), (2, .inl (a2)), (3, .inl (v1))] rfl ⟨rfl, rfl, rfl, rfl, trivial⟩ (jn19 σ2 (sg_F_r [74, 22061] σ2) w)
          ·
            have w := w.2 h18
            refine wk_b tt_89 4 (pc' := 59) (ls' := [(0, .inr (.inr (.ref 61))), (1, .inl (a1)), (2, .inl (a2)), (3, .inl (v1))]) (st' := [.inl (v1), .inr (.inr (.ref 16))]) (σ' := σ2) rfl ?_
            refine wk_callp tt_89 rfl rfl rfl rfl rfl tt_5 rfl (by decide) (at_i0 z σ2 16 200 (v1) rfl (by decide) r7) ?_
            show wx z 2 89 62 [(0, .inr (.inr (.ref 61))), (1, .inl (a1)), (2, .inl (a2)), (3, .inl (v1))] [.inl ((sx_at σ2 16 200 (v1)))] σ2 (fun v σ' => v = none ∧ sg_F [74, 22061] σ σ' ∧ Q σ')
            rw [sx_F (a := 16) (n := 200) (i := (v1)) hF3 rfl]
            refine wk_b tt_89 1 (pc' := 63) (ls' := [(0, .inr (.inr (.ref 61))), (1, .inl (a1)), (2, .inl (a2)), (3, .inl (v1))]) (st' := [.inl (a2), .inl ((sx_at σ 16 200 (v1)))]) (σ' := σ2) rfl ?_
            refine wk_if2 tt_89 (tgt := 81) rfl rfl (sx_R ..) ra2 (fun (h26 : a2 ≤ (sx_at σ 16 200 (v1))) => ?_) (fun (h26 : (sx_at σ 16 200 (v1)) < a2) => ?_)
            ·
              have w := w.1 h26
              exact wk_ls [(0, .inr (.inr (.ref 61))), (1, .inl (a1)), (2, .inl (a2)), (3, .inl (v1))] rfl ⟨rfl, rfl, rfl, rfl, trivial⟩ (jn19 σ2 (sg_F_r [74, 22061] σ2) w)
            ·
              have w := w.2 h26
              refine wk_b tt_89 5 (pc' := 75) (ls' := [(0, .inr (.inr (.ref 61))), (1, .inl (a1)), (2, .inl (a2)), (3, .inl (v1))]) (st' := [.inl (v1), .inr (.inr (.ref 16)), .inr (.inr (.ref 61))]) (σ' := σ2) rfl ?_
              refine wk_callp tt_89 rfl rfl rfl rfl rfl tt_5 rfl (by decide) (at_i0 z σ2 16 200 (v1) rfl (by decide) r7) ?_
              show wx z 2 89 78 [(0, .inr (.inr (.ref 61))), (1, .inl (a1)), (2, .inl (a2)), (3, .inl (v1))] [.inl ((sx_at σ2 16 200 (v1))), .inr (.inr (.ref 61))] σ2 (fun v σ' => v = none ∧ sg_F [74, 22061] σ σ' ∧ Q σ')
              rw [sx_F (a := 16) (n := 200) (i := (v1)) hF3 rfl]
              refine wk_call tt_89 rfl rfl rfl rfl rfl tt_66 rfl (by decide) (w_fInsert z σ2 ((sx_at σ 16 200 (v1))) _ (sx_R ..) w) (fun u32 σ28 hq30 => ?_)
              obtain ⟨rfl, hF29, w⟩ := hq30
              have w := w hF29
              exact wk_ls [(0, .inr (.inr (.ref 61))), (1, .inl (a1)), (2, .inl (a2)), (3, .inl (v1))] rfl ⟨rfl, rfl, rfl, rfl, trivial⟩ (jn19 σ28 (sg_F_t (sg_F_r [74, 22061] σ2) (sg_F_m (L := [74, 22061]) hF29 rfl)) w)
  exact wk_ls [(0, .inr (.inr (.ref 61))), (1, .inl (a1)), (2, .inl (a2)), (3, .inl ((sx_at σ 11 200 (a1))))] rfl ⟨rfl, rfl, rfl, rfl, trivial⟩ (lp10 μ5 ((sx_at σ 11 200 (a1))) σ (sx_R ..) (sg_F_r _ _) w11)
-- NestedVectors$FlatRun.saveWanted
def V_fSaveWanted (σ : sg_S) (a1 : Int) (Q : sg_S → Prop) : Prop := ∀ σ1, σ1 = (sx_put σ 71 200 (a1) ((sg_g σ 61 22))) → (∃ (I7 : Nat → Int → sg_S → Prop) (X9 : sg_S → Prop), (∃ n, I7 n (0) σ1) ∧ (∀ (n17 : Nat) (v4 : Int) (σ5 : sg_S), sg_R v4 → sg_F [72, 73, 23061] σ1 σ5 → I7 n17 v4 σ5 → (((sg_g σ 61 21) ≤ v4 → X9 σ5) ∧ (v4 < (sg_g σ 61 21) → ∀ σ20, σ20 = (sx_put σ5 72 2400 ((sg_g σ5 61 22)) ((sx_at σ 74 200 (v4)))) → ∀ σ23, σ23 = (sx_put σ20 73 2400 ((sg_g σ5 61 22)) ((sx_at σ 62 272 ((sx_at σ 74 200 (v4)))))) → sg_R ((sg_g σ5 61 22) + 1) ∧ ∀ σ27, σ27 = (sg_w σ23 61 22 (((sg_g σ5 61 22) + 1))) → sg_R (v4 + 1) ∧ (∃ m, m < n17 ∧ I7 m ((v4 + 1)) σ27)))) ∧ (∀ (σ5 : sg_S), sg_F [72, 73, 23061] σ1 σ5 → X9 σ5 → Q σ5))
set_option maxHeartbeats 4000000 in
set_option maxRecDepth 8000 in
theorem w_fSaveWanted (z : Value) (σ : sg_S) (a1 : Int) (Q : sg_S → Prop) (ra1 : sg_R a1) (w : V_fSaveWanted σ a1 Q) : wx z 1 81 0 [(0, .inr (.inr (.ref 61))), (1, .inl (a1))] [] σ (fun v σ' => v = none ∧ sg_F [71, 72, 73, 23061] σ σ' ∧ Q σ') := by
  unfold V_fSaveWanted at w
  refine wk_b tt_81 5 (pc' := 9) (ls' := [(0, .inr (.inr (.ref 61))), (1, .inl (a1))]) (st' := [.inl ((sg_g σ 61 22)), .inl (a1), .inr (.inr (.ref 71))]) (σ' := σ) rfl ?_
  refine wk_callp tt_81 rfl rfl rfl rfl rfl tt_21 rfl (by decide) (pt_i0 z σ 71 200 (a1) ((sg_g σ 61 22)) rfl (by decide) ra1) ?_
  show wx z 1 81 12 [(0, .inr (.inr (.ref 61))), (1, .inl (a1))] [] (sx_put σ 71 200 (a1) ((sg_g σ 61 22))) (fun v σ' => v = none ∧ sg_F [71, 72, 73, 23061] σ σ' ∧ Q σ')
  generalize hs2 : (sx_put σ 71 200 (a1) ((sg_g σ 61 22))) = σ1
  have w := w σ1 hs2.symm
  have hF3 : sg_F [71] σ σ1 := by rw [← hs2]; exact sg_F_p (sg_F_r _ _) rfl _ _ _
  refine wk_b tt_81 2 (pc' := 14) (ls' := [(2, .inl (0)), (0, .inr (.inr (.ref 61))), (1, .inl (a1))]) (st' := []) (σ' := σ1) rfl ?_
  obtain ⟨I7, X9, ⟨μ8, w14⟩, w15, w16⟩ := w
  have ex18 : ∀ (σ5 : sg_S), sg_F [72, 73, 23061] σ1 σ5 → X9 σ5 → wx z 1 81 83 [] [] σ5 (fun v σ' => v = none ∧ sg_F [71, 72, 73, 23061] σ σ' ∧ Q σ') := by
    intro σ5 hF6 w
    have w := w16 σ5 hF6 w
    exact wk_rV tt_81 rfl rfl ⟨rfl, (sg_F_t (sg_F_t (sg_F_r [71, 72, 73, 23061] σ) (sg_F_m (L := [71, 72, 73, 23061]) hF3 rfl)) (sg_F_m (L := [71, 72, 73, 23061]) hF6 rfl)), w⟩
  have lp13 : ∀ (n17 : Nat) (v4 : Int) (σ5 : sg_S), sg_R v4 → sg_F [72, 73, 23061] σ1 σ5 → I7 n17 v4 σ5 → wx z 1 81 14 [(0, .inr (.inr (.ref 61))), (2, .inl (v4))] [] σ5 (fun v σ' => v = none ∧ sg_F [71, 72, 73, 23061] σ σ' ∧ Q σ') := by
    intro n17
    induction n17 using Nat.strongRecOn with
    | _ n17 ih11 =>
      intro v4 σ5 r10 hF6 w
      have w := w15 n17 v4 σ5 r10 hF6 w
      refine wk_b tt_81 3 (pc' := 19) (ls' := [(0, .inr (.inr (.ref 61))), (2, .inl (v4))]) (st' := [.inl ((sg_g σ5 61 21)), .inl (v4)]) (σ' := σ5) rfl ?_
      rw [show (sg_g σ5 61 21) = (sg_g σ 61 21) from by rw [sg_F_g hF6 rfl, sg_F_ga hF3 rfl]]
      refine wk_if2 tt_81 (tgt := 83) rfl rfl r10 (sg_Rg _ _ _) (fun (h19 : (sg_g σ 61 21) ≤ v4) => ?_) (fun (h19 : v4 < (sg_g σ 61 21)) => ?_)
      ·
        have w := w.1 h19
        exact wk_ls [] rfl trivial (ex18  σ5  (sg_F_t (sg_F_r [72, 73, 23061] σ1) (sg_F_m (L := [72, 73, 23061]) hF6 rfl)) w)
      ·
        have w := w.2 h19
        refine wk_b tt_81 7 (pc' := 35) (ls' := [(0, .inr (.inr (.ref 61))), (2, .inl (v4))]) (st' := [.inl (v4), .inr (.inr (.ref 74)), .inl ((sg_g σ5 61 22)), .inr (.inr (.ref 72))]) (σ' := σ5) rfl ?_
        refine wk_callp tt_81 rfl rfl rfl rfl rfl tt_5 rfl (by decide) (at_i0 z σ5 74 200 (v4) rfl (by decide) r10) ?_
        show wx z 1 81 38 [(0, .inr (.inr (.ref 61))), (2, .inl (v4))] [.inl ((sx_at σ5 74 200 (v4))), .inl ((sg_g σ5 61 22)), .inr (.inr (.ref 72))] σ5 (fun v σ' => v = none ∧ sg_F [71, 72, 73, 23061] σ σ' ∧ Q σ')
        rw [sx_F (a := 74) (n := 200) (i := (v4)) hF6 rfl, sx_F (a := 74) (n := 200) (i := (v4)) hF3 rfl]
        refine wk_callp tt_81 rfl rfl rfl rfl rfl tt_21 rfl (by decide) (pt_i0 z σ5 72 2400 ((sg_g σ5 61 22)) ((sx_at σ 74 200 (v4))) rfl (by decide) (sg_Rg _ _ _)) ?_
        show wx z 1 81 41 [(0, .inr (.inr (.ref 61))), (2, .inl (v4))] [] (sx_put σ5 72 2400 ((sg_g σ5 61 22)) ((sx_at σ 74 200 (v4)))) (fun v σ' => v = none ∧ sg_F [71, 72, 73, 23061] σ σ' ∧ Q σ')
        generalize hs21 : (sx_put σ5 72 2400 ((sg_g σ5 61 22)) ((sx_at σ 74 200 (v4)))) = σ20
        have w := w σ20 hs21.symm
        have hF22 : sg_F [72] σ5 σ20 := by rw [← hs21]; exact sg_F_p (sg_F_r _ _) rfl _ _ _
        refine wk_b tt_81 9 (pc' := 58) (ls' := [(0, .inr (.inr (.ref 61))), (2, .inl (v4))]) (st' := [.inl (v4), .inr (.inr (.ref 74)), .inr (.inr (.ref 62)), .inl ((sg_g σ20 61 22)), .inr (.inr (.ref 73))]) (σ' := σ20) rfl ?_
        rw [show (sg_g σ20 61 22) = (sg_g σ5 61 22) from by rw [sg_F_ga hF22 rfl]]
        refine wk_callp tt_81 rfl rfl rfl rfl rfl tt_5 rfl (by decide) (at_i0 z σ20 74 200 (v4) rfl (by decide) r10) ?_
        show wx z 1 81 61 [(0, .inr (.inr (.ref 61))), (2, .inl (v4))] [.inl ((sx_at σ20 74 200 (v4))), .inr (.inr (.ref 62)), .inl ((sg_g σ5 61 22)), .inr (.inr (.ref 73))] σ20 (fun v σ' => v = none ∧ sg_F [71, 72, 73, 23061] σ σ' ∧ Q σ')
        rw [sx_F (a := 74) (n := 200) (i := (v4)) hF22 rfl, sx_F (a := 74) (n := 200) (i := (v4)) hF6 rfl, sx_F (a := 74) (n := 200) (i := (v4)) hF3 rfl]
        refine wk_callp tt_81 rfl rfl rfl rfl rfl tt_5 rfl (by decide) (at_i0 z σ20 62 272 ((sx_at σ 74 200 (v4))) rfl (by decide) (sx_R ..)) ?_
        show wx z 1 81 64 [(0, .inr (.inr (.ref 61))), (2, .inl (v4))] [.inl ((sx_at σ20 62 272 ((sx_at σ 74 200 (v4))))), .inl ((sg_g σ5 61 22)), .inr (.inr (.ref 73))] σ20 (fun v σ' => v = none ∧ sg_F [71, 72, 73, 23061] σ σ' ∧ Q σ')
        rw [sx_F (a := 62) (n := 272) (i := ((sx_at σ 74 200 (v4)))) hF22 rfl, sx_F (a := 62) (n := 272) (i := ((sx_at σ 74 200 (v4)))) hF6 rfl, sx_F (a := 62) (n := 272) (i := ((sx_at σ 74 200 (v4)))) hF3 rfl]
        refine wk_callp tt_81 rfl rfl rfl rfl rfl tt_21 rfl (by decide) (pt_i0 z σ20 73 2400 ((sg_g σ5 61 22)) ((sx_at σ 62 272 ((sx_at σ 74 200 (v4))))) rfl (by decide) (sg_Rg _ _ _)) ?_
        show wx z 1 81 67 [(0, .inr (.inr (.ref 61))), (2, .inl (v4))] [] (sx_put σ20 73 2400 ((sg_g σ5 61 22)) ((sx_at σ 62 272 ((sx_at σ 74 200 (v4)))))) (fun v σ' => v = none ∧ sg_F [71, 72, 73, 23061] σ σ' ∧ Q σ')
        generalize hs24 : (sx_put σ20 73 2400 ((sg_g σ5 61 22)) ((sx_at σ 62 272 ((sx_at σ 74 200 (v4)))))) = σ23
        have w := w σ23 hs24.symm
        have hF25 : sg_F [73] σ20 σ23 := by rw [← hs24]; exact sg_F_p (sg_F_r _ _) rfl _ _ _
        obtain ⟨c26, w⟩ := w
        refine wk_b tt_81 6 (pc' := 77) (ls' := [(0, .inr (.inr (.ref 61))), (2, .inl (v4))]) (st' := []) (σ' := (sg_w σ23 61 22 (((sg_g σ23 61 22) + 1)))) rfl ?_
        rw [show (sg_g σ23 61 22) = (sg_g σ5 61 22) from by rw [sg_F_ga hF25 rfl, sg_F_ga hF22 rfl]]
        generalize hs28 : (sg_w σ23 61 22 (((sg_g σ5 61 22) + 1))) = σ27
        have w := w σ27 hs28.symm
        have hF29 : sg_F [23061] σ23 σ27 := by rw [← hs28]; exact sg_F_w (sg_F_r _ _) rfl _
        obtain ⟨c30, w⟩ := w
        refine wk_b tt_81 2 (pc' := 14) (ls' := [(2, .inl ((v4 + 1))), (0, .inr (.inr (.ref 61)))]) (st' := []) (σ' := σ27) rfl ?_
        obtain ⟨m31, hm31, w⟩ := w
        exact wk_ls [(0, .inr (.inr (.ref 61))), (2, .inl ((v4 + 1)))] rfl ⟨rfl, rfl, trivial⟩ (ih11 m31 hm31 ((v4 + 1)) σ27 c30 (sg_F_t (sg_F_t (sg_F_t (sg_F_t (sg_F_r [72, 73, 23061] σ1) (sg_F_m (L := [72, 73, 23061]) hF6 rfl)) (sg_F_m (L := [72, 73, 23061]) hF22 rfl)) (sg_F_m (L := [72, 73, 23061]) hF25 rfl)) (sg_F_m (L := [72, 73, 23061]) hF29 rfl)) w)
  exact wk_ls [(0, .inr (.inr (.ref 61))), (2, .inl (0))] rfl ⟨rfl, rfl, trivial⟩ (lp13 μ8 (0) σ1 (by decide) (sg_F_r _ _) w14)
-- NestedVectors$FlatRun.chosen
def v_fChosen (σ : sg_S) (a1 : Int) (a2 : Int) (a3 : Int) : Int := (if (v_lCell σ (a1) (a2)) = 0 then (if ¬ 0 = a3 then (0 : Int) else (1 : Int)) else (if ¬ 1 = a3 then (0 : Int) else (1 : Int)))
def p_fChosen (σ : sg_S) (a1 : Int) (a2 : Int) (a3 : Int) : Prop := p_lCell σ (a1) (a2) ∧ (((v_lCell σ (a1) (a2)) = 0 → ((¬ 0 = a3 → True) ∧ (0 = a3 → True))) ∧ (¬ (v_lCell σ (a1) (a2)) = 0 → ((¬ 1 = a3 → True) ∧ (1 = a3 → True))))
theorem vz_fChosen {σ : sg_S} {a1 : Int} {a2 : Int} {a3 : Int} : v_fChosen σ a1 a2 a3 = 0 ∨ v_fChosen σ a1 a2 a3 = 1 := by
  unfold v_fChosen
  by_cases h : (v_lCell σ (a1) (a2)) = 0
  · rw [if_pos h]
    by_cases h : ¬ 0 = a3
    · rw [if_pos h]
      exact Or.inl rfl
    · rw [if_neg h]
      exact Or.inr rfl
  · rw [if_neg h]
    by_cases h : ¬ 1 = a3
    · rw [if_pos h]
      exact Or.inl rfl
    · rw [if_neg h]
      exact Or.inr rfl
set_option maxHeartbeats 4000000 in
set_option maxRecDepth 8000 in
theorem w_fChosen (z : Value) (σ : sg_S) (a1 : Int) (a2 : Int) (a3 : Int) (ra1 : sg_R a1) (ra2 : sg_R a2) (ra3 : sg_R a3) (w : p_fChosen σ a1 a2 a3) : wx z 1 55 0 [(0, .inr (.inr (.ref 61))), (1, .inl (a1)), (2, .inl (a2)), (3, .inl (a3))] [] σ (fun v σ' => v = some (.inl (v_fChosen σ a1 a2 a3)) ∧ σ' = σ) := by
  unfold p_fChosen at w
  refine wk_b tt_55 4 (pc' := 6) (ls' := [(0, .inr (.inr (.ref 61))), (1, .inl (a1)), (2, .inl (a2)), (3, .inl (a3))]) (st' := [.inl (a2), .inl (a1), .inr (.inr (.ref 77))]) (σ' := σ) rfl ?_
  obtain ⟨c1, w⟩ := w
  refine wk_callp tt_55 rfl rfl rfl rfl rfl tt_100 rfl (by decide) (w_lCell z σ (a1) (a2) ra1 ra2 c1) ?_
  have r2 := vr_lCell σ  (a1) (a2) ra1 ra2 c1
  refine wk_if tt_55 (tgt := 16) rfl rfl r2 (fun (h3 : (v_lCell σ (a1) (a2)) = 0) => ?_) (fun (h3 : ¬ (v_lCell σ (a1) (a2)) = 0) => ?_)
  ·
    have w := w.1 h3
    refine wk_b tt_55 2 (pc' := 18) (ls' := [(0, .inr (.inr (.ref 61))), (1, .inl (a1)), (2, .inl (a2)), (3, .inl (a3))]) (st' := [.inl (a3), .inl (0)]) (σ' := σ) rfl ?_
    refine wk_if2 tt_55 (tgt := 25) rfl rfl (by decide) ra3 (fun (h4 : ¬ 0 = a3) => ?_) (fun (h4 : 0 = a3) => ?_)
    ·
      have w := w.1 h4
      refine wk_b tt_55 1 (pc' := 26) (ls' := [(0, .inr (.inr (.ref 61))), (1, .inl (a1)), (2, .inl (a2)), (3, .inl (a3))]) (st' := [.inl (0)]) (σ' := σ) rfl ?_
      exact wk_rZ tt_55 rfl rfl (by decide) ⟨by rw [v_fChosen, if_pos h3, if_pos h4], rfl⟩
    ·
      have w := w.2 h4
      refine wk_b tt_55 2 (pc' := 26) (ls' := [(0, .inr (.inr (.ref 61))), (1, .inl (a1)), (2, .inl (a2)), (3, .inl (a3))]) (st' := [.inl (1)]) (σ' := σ) rfl ?_
      exact wk_rZ tt_55 rfl rfl (by decide) ⟨by rw [v_fChosen, if_pos h3, if_neg (show ¬ (¬ 0 = a3) by omega)], rfl⟩
  ·
    have w := w.2 h3
    refine wk_b tt_55 3 (pc' := 18) (ls' := [(0, .inr (.inr (.ref 61))), (1, .inl (a1)), (2, .inl (a2)), (3, .inl (a3))]) (st' := [.inl (a3), .inl (1)]) (σ' := σ) rfl ?_
    refine wk_if2 tt_55 (tgt := 25) rfl rfl (by decide) ra3 (fun (h5 : ¬ 1 = a3) => ?_) (fun (h5 : 1 = a3) => ?_)
    ·
      have w := w.1 h5
      refine wk_b tt_55 1 (pc' := 26) (ls' := [(0, .inr (.inr (.ref 61))), (1, .inl (a1)), (2, .inl (a2)), (3, .inl (a3))]) (st' := [.inl (0)]) (σ' := σ) rfl ?_
      exact wk_rZ tt_55 rfl rfl (by decide) ⟨by rw [v_fChosen, if_neg (show ¬ ((v_lCell σ (a1) (a2)) = 0) by omega), if_pos h5], rfl⟩
    ·
      have w := w.2 h5
      refine wk_b tt_55 2 (pc' := 26) (ls' := [(0, .inr (.inr (.ref 61))), (1, .inl (a1)), (2, .inl (a2)), (3, .inl (a3))]) (st' := [.inl (1)]) (σ' := σ) rfl ?_
      exact wk_rZ tt_55 rfl rfl (by decide) ⟨by rw [v_fChosen, if_neg (show ¬ ((v_lCell σ (a1) (a2)) = 0) by omega), if_neg (show ¬ (¬ 1 = a3) by omega)], rfl⟩
theorem vF_fChosen {L : List Nat} {σ σ' : sg_S} {a1 : Int} {a2 : Int} {a3 : Int} (hF : sg_F L σ σ') (h0 : sg_ca L 78 = true) (h1 : sg_ca L 80 = true) : v_fChosen σ' a1 a2 a3 = v_fChosen σ a1 a2 a3 := by
  unfold v_fChosen
  simp only [sg_F_ga (k := _) hF h0, sg_F_gal (k := _) hF h0, sg_F_ga (k := _) hF h1, sg_F_gal (k := _) hF h1, vF_lCell hF h0 h1, pF_lCell hF h0 h1, sx_F hF h0, sx_Fl hF h0, sx_F hF h1, sx_Fl hF h1]
theorem pF_fChosen {L : List Nat} {σ σ' : sg_S} {a1 : Int} {a2 : Int} {a3 : Int} (hF : sg_F L σ σ') (h0 : sg_ca L 78 = true) (h1 : sg_ca L 80 = true) : p_fChosen σ' a1 a2 a3 = p_fChosen σ a1 a2 a3 := by
  unfold p_fChosen
  simp only [sg_F_ga (k := _) hF h0, sg_F_gal (k := _) hF h0, sg_F_ga (k := _) hF h1, sg_F_gal (k := _) hF h1, vF_lCell hF h0 h1, pF_lCell hF h0 h1, sx_F hF h0, sx_Fl hF h0, sx_F hF h1, sx_Fl hF h1]
-- NestedVectors$FlatRun.narrow
def V_fNarrow (σ : sg_S) (a1 : Int) (a2 : Int) (a3 : Int) (Q : sg_S → Prop) : Prop := (∃ (I4 : Nat → Int → sg_S → Prop) (X6 : sg_S → Prop), (∃ n, I4 n (0) σ) ∧ (∀ (n14 : Nat) (v1 : Int) (σ2 : sg_S), sg_R v1 → sg_F [62, 78, 79, 80, 81, 82, 85, 86, 87, 11061, 11077, 12077, 13077, 14077, 15077, 16077, 17077, 18077, 19077] σ σ2 → I4 n14 v1 σ2 → (((sg_g σ 61 21) ≤ v1 → X6 σ2) ∧ (v1 < (sg_g σ 61 21) → ((¬ (sg_g σ2 61 10) = 0 → X6 σ2) ∧ ((sg_g σ2 61 10) = 0 → (∃ (I52 : Nat → Int → sg_S → Prop) (X54 : sg_S → Prop), (∃ n, I52 n (0) σ2) ∧ (∀ (n62 : Nat) (v49 : Int) (σ50 : sg_S), sg_R v49 → sg_F [85, 86, 87, 14077, 16077] σ2 σ50 → I52 n62 v49 σ50 → ((a3 ≤ v49 → X54 σ50) ∧ (v49 < a3 → p_fChosen σ2 (a1) (v49) (a2) ∧ (∃ P82 : sg_S → Prop, (((v_fChosen σ2 (a1) (v49) (a2)) = 0 → P82 σ50) ∧ (¬ (v_fChosen σ2 (a1) (v49) (a2)) = 0 → sg_R (v49 + 1) ∧ V_lPick σ50 ((sx_at σ2 62 272 ((sx_at σ 74 200 (v1))))) (v49) ((v49 + 1)) (fun σ90 => sg_F [85, 86, 87, 14077, 16077] σ50 σ90 → P82 σ90))) ∧ (∀ (σ83 : sg_S), sg_F [85, 86, 87, 14077, 16077] σ50 σ83 → P82 σ83 → sg_R (v49 + 1) ∧ (∃ m, m < n62 ∧ I52 m ((v49 + 1)) σ83)))))) ∧ (∀ (σ50 : sg_S), sg_F [85, 86, 87, 14077, 16077] σ2 σ50 → X54 σ50 → V_lSeal σ50 ((sx_at σ 34 272 ((sx_at σ 74 200 (v1))))) (0) (fun q64 σ65 => sg_R q64 → sg_F [78, 79, 80, 81, 82, 85, 86, 87, 11077, 12077, 13077, 14077, 15077, 16077, 17077, 18077, 19077] σ50 σ65 → ∀ σ70, σ70 = (sx_put σ65 62 272 ((sx_at σ 74 200 (v1))) (q64)) → ∀ σ73, σ73 = (sg_w σ70 61 10 ((sg_g σ65 77 18))) → sg_R (v1 + 1) ∧ (∃ m, m < n14 ∧ I4 m ((v1 + 1)) σ73))))))))) ∧ (∀ (σ2 : sg_S), sg_F [62, 78, 79, 80, 81, 82, 85, 86, 87, 11061, 11077, 12077, 13077, 14077, 15077, 16077, 17077, 18077, 19077] σ σ2 → X6 σ2 → ∀ σ16, σ16 = (sg_w σ2 61 23 (0)) → (∃ (I22 : Nat → Int → sg_S → Prop) (X24 : sg_S → Prop), (∃ n, I22 n (0) σ16) ∧ (∀ (n32 : Nat) (v19 : Int) (σ20 : sg_S), sg_R v19 → sg_F [24061] σ16 σ20 → I22 n32 v19 σ20 → ((a3 ≤ v19 → X24 σ20) ∧ (v19 < a3 → p_fChosen σ2 (a1) (v19) (a2) ∧ ∀ v38 : Int, v38 = (if (v_fChosen σ2 (a1) (v19) (a2)) = 0 then (0 : Int) else (1 : Int)) → sg_R v38 → sg_R ((sg_g σ20 61 23) + v38) ∧ ∀ σ42, σ42 = (sg_w σ20 61 23 (((sg_g σ20 61 23) + v38))) → sg_R (v19 + 1) ∧ (∃ m, m < n32 ∧ I22 m ((v19 + 1)) σ42)))) ∧ (∀ (σ20 : sg_S), sg_F [24061] σ16 σ20 → X24 σ20 → Q σ20))))
set_option maxHeartbeats 4000000 in
set_option maxRecDepth 8000 in
theorem w_fNarrow (z : Value) (σ : sg_S) (a1 : Int) (a2 : Int) (a3 : Int) (Q : sg_S → Prop) (ra1 : sg_R a1) (ra2 : sg_R a2) (ra3 : sg_R a3) (w : V_fNarrow σ a1 a2 a3 Q) : wx z 3 69 0 [(0, .inr (.inr (.ref 61))), (1, .inl (a1)), (2, .inl (a2)), (3, .inl (a3))] [] σ (fun v σ' => v = none ∧ sg_F [62, 78, 79, 80, 81, 82, 85, 86, 87, 11061, 11077, 12077, 13077, 14077, 15077, 16077, 17077, 18077, 19077, 24061] σ σ' ∧ Q σ') := by
  unfold V_fNarrow at w
  refine wk_b tt_69 2 (pc' := 3) (ls' := [(4, .inl (0)), (0, .inr (.inr (.ref 61))), (1, .inl (a1)), (2, .inl (a2)), (3, .inl (a3))]) (st' := []) (σ' := σ) rfl ?_
  obtain ⟨I4, X6, ⟨μ5, w11⟩, w12, w13⟩ := w
  have ex15 : ∀ (σ2 : sg_S), sg_F [62, 78, 79, 80, 81, 82, 85, 86, 87, 11061, 11077, 12077, 13077, 14077, 15077, 16077, 17077, 18077, 19077] σ σ2 → X6 σ2 → wx z 3 69 124 [(0, .inr (.inr (.ref 61))), (1, .inl (a1)), (2, .inl (a2)), (3, .inl (a3))] [] σ2 (fun v σ' => v = none ∧ sg_F [62, 78, 79, 80, 81, 82, 85, 86, 87, 11061, 11077, 12077, 13077, 14077, 15077, 16077, 17077, 18077, 19077, 24061] σ σ' ∧ Q σ') := by
    intro σ2 hF3 w
    have w := w13 σ2 hF3 w
    refine wk_b tt_69 3 (pc' := 129) (ls' := [(0, .inr (.inr (.ref 61))), (1, .inl (a1)), (2, .inl (a2)), (3, .inl (a3))]) (st' := []) (σ' := (sg_w σ2 61 23 (0))) rfl ?_
    generalize hs17 : (sg_w σ2 61 23 (0)) = σ16
    have w := w σ16 hs17.symm
    have hF18 : sg_F [24061] σ2 σ16 := by rw [← hs17]; exact sg_F_w (sg_F_r _ _) rfl _
    refine wk_b tt_69 2 (pc' := 132) (ls' := [(4, .inl (0)), (0, .inr (.inr (.ref 61))), (1, .inl (a1)), (2, .inl (a2)), (3, .inl (a3))]) (st' := []) (σ' := σ16) rfl ?_
    obtain ⟨I22, X24, ⟨μ23, w29⟩, w30, w31⟩ := w
    have ex33 : ∀ (σ20 : sg_S), sg_F [24061] σ16 σ20 → X24 σ20 → wx z 3 69 169 [] [] σ20 (fun v σ' => v = none ∧ sg_F [62, 78, 79, 80, 81, 82, 85, 86, 87, 11061, 11077, 12077, 13077, 14077, 15077, 16077, 17077, 18077, 19077, 24061] σ σ' ∧ Q σ') := by
      intro σ20 hF21 w
      have w := w31 σ20 hF21 w
      exact wk_rV tt_69 rfl rfl ⟨rfl, (sg_F_t (sg_F_t (sg_F_t (sg_F_r [62, 78, 79, 80, 81, 82, 85, 86, 87, 11061, 11077, 12077, 13077, 14077, 15077, 16077, 17077, 18077, 19077, 24061] σ) (sg_F_m (L := [62, 78, 79, 80, 81, 82, 85, 86, 87, 11061, 11077, 12077, 13077, 14077, 15077, 16077, 17077, 18077, 19077, 24061]) hF3 rfl)) (sg_F_m (L := [62, 78, 79, 80, 81, 82, 85, 86, 87, 11061, 11077, 12077, 13077, 14077, 15077, 16077, 17077, 18077, 19077, 24061]) hF18 rfl)) (sg_F_m (L := [62, 78, 79, 80, 81, 82, 85, 86, 87, 11061, 11077, 12077, 13077, 14077, 15077, 16077, 17077, 18077, 19077, 24061]) hF21 rfl)), w⟩
    have lp28 : ∀ (n32 : Nat) (v19 : Int) (σ20 : sg_S), sg_R v19 → sg_F [24061] σ16 σ20 → I22 n32 v19 σ20 → wx z 3 69 132 [(0, .inr (.inr (.ref 61))), (1, .inl (a1)), (2, .inl (a2)), (3, .inl (a3)), (4, .inl (v19))] [] σ20 (fun v σ' => v = none ∧ sg_F [62, 78, 79, 80, 81, 82, 85, 86, 87, 11061, 11077, 12077, 13077, 14077, 15077, 16077, 17077, 18077, 19077, 24061] σ σ' ∧ Q σ') := by
      intro n32
      induction n32 using Nat.strongRecOn with
      | _ n32 ih26 =>
        intro v19 σ20 r25 hF21 w
        have w := w30 n32 v19 σ20 r25 hF21 w
        refine wk_b tt_69 2 (pc' := 135) (ls' := [(0, .inr (.inr (.ref 61))), (1, .inl (a1)), (2, .inl (a2)), (3, .inl (a3)), (4, .inl (v19))]) (st' := [.inl (a3), .inl (v19)]) (σ' := σ20) rfl ?_
        refine wk_if2 tt_69 (tgt := 169) rfl rfl r25 ra3 (fun (h34 : a3 ≤ v19) => ?_) (fun (h34 : v19 < a3) => ?_)
        ·
          have w := w.1 h34
          exact wk_ls [] rfl trivial (ex33  σ20  (sg_F_t (sg_F_r [24061] σ16) (sg_F_m (L := [24061]) hF21 rfl)) w)
        ·
          have w := w.2 h34
          refine wk_b tt_69 7 (pc' := 148) (ls' := [(0, .inr (.inr (.ref 61))), (1, .inl (a1)), (2, .inl (a2)), (3, .inl (a3)), (4, .inl (v19))]) (st' := [.inl (a2), .inl (v19), .inl (a1), .inr (.inr (.ref 61)), .inl ((sg_g σ20 61 23)), .inr (.inr (.ref 61))]) (σ' := σ20) rfl ?_
          obtain ⟨c35, w⟩ := w
          have c35 : p_fChosen σ20 (a1) (v19) (a2) := by
            rw [pF_fChosen hF21 rfl rfl, pF_fChosen hF18 rfl rfl]; exact c35
          refine wk_callp tt_69 rfl rfl rfl rfl rfl tt_55 rfl (by decide) (w_fChosen z σ20 (a1) (v19) (a2) ra1 r25 ra2 c35) ?_
          rw [vF_fChosen hF21 rfl rfl, vF_fChosen hF18 rfl rfl]
          have jn37 : ∀ v38 : Int, v38 = (if (v_fChosen σ2 (a1) (v19) (a2)) = 0 then (0 : Int) else (1 : Int)) → sg_R v38 → wx z 3 69 159 [(0, .inr (.inr (.ref 61))), (1, .inl (a1)), (2, .inl (a2)), (3, .inl (a3)), (4, .inl (v19))] [.inl (v38), .inl ((sg_g σ20 61 23)), .inr (.inr (.ref 61))] σ20 (fun v σ' => v = none ∧ sg_F [62, 78, 79, 80, 81, 82, 85, 86, 87, 11061, 11077, 12077, 13077, 14077, 15077, 16077, 17077, 18077, 19077, 24061] σ σ' ∧ Q σ') := by
            intro v38 e40 r39
            have w := w v38 e40 r39
            obtain ⟨c41, w⟩ := w
            refine wk_b tt_69 2 (pc' := 163) (ls' := [(0, .inr (.inr (.ref 61))), (1, .inl (a1)), (2, .inl (a2)), (3, .inl (a3)), (4, .inl (v19))]) (st' := []) (σ' := (sg_w σ20 61 23 (((sg_g σ20 61 23) + v38)))) rfl ?_
            generalize hs43 : (sg_w σ20 61 23 (((sg_g σ20 61 23) + v38))) = σ42
            have w := w σ42 hs43.symm
            have hF44 : sg_F [24061] σ20 σ42 := by rw [← hs43]; exact sg_F_w (sg_F_r _ _) rfl _
            obtain ⟨c45, w⟩ := w
            refine wk_b tt_69 2 (pc' := 132) (ls' := [(4, .inl ((v19 + 1))), (0, .inr (.inr (.ref 61))), (1, .inl (a1)), (2, .inl (a2)), (3, .inl (a3))]) (st' := []) (σ' := σ42) rfl ?_
            obtain ⟨m46, hm46, w⟩ := w
            exact wk_ls [(0, .inr (.inr (.ref 61))), (1, .inl (a1)), (2, .inl (a2)), (3, .inl (a3)), (4, .inl ((v19 + 1)))] rfl ⟨rfl, rfl, rfl, rfl, rfl, trivial⟩ (ih26 m46 hm46 ((v19 + 1)) σ42 c45 (sg_F_t (sg_F_t (sg_F_r [24061] σ16) (sg_F_m (L := [24061]) hF21 rfl)) (sg_F_m (L := [24061]) hF44 rfl)) w)
          refine wk_if tt_69 (tgt := 158) rfl rfl (sg_Rz (vz_fChosen ..)) (fun (h36 : (v_fChosen σ2 (a1) (v19) (a2)) = 0) => ?_) (fun (h36 : ¬ (v_fChosen σ2 (a1) (v19) (a2)) = 0) => ?_)
          ·
            clear w
            refine wk_b tt_69 1 (pc' := 159) (ls' := [(0, .inr (.inr (.ref 61))), (1, .inl (a1)), (2, .inl (a2)), (3, .inl (a3)), (4, .inl (v19))]) (st' := [.inl (0), .inl ((sg_g σ20 61 23)), .inr (.inr (.ref 61))]) (σ' := σ20) rfl ?_
            exact wk_ls [(0, .inr (.inr (.ref 61))), (1, .inl (a1)), (2, .inl (a2)), (3, .inl (a3)), (4, .inl (v19))] rfl ⟨rfl, rfl, rfl, rfl, rfl, trivial⟩ (jn37 (0) (by simp only [if_pos h36]) (by decide))
          ·
            clear w
            refine wk_b tt_69 2 (pc' := 159) (ls' := [(0, .inr (.inr (.ref 61))), (1, .inl (a1)), (2, .inl (a2)), (3, .inl (a3)), (4, .inl (v19))]) (st' := [.inl (1), .inl ((sg_g σ20 61 23)), .inr (.inr (.ref 61))]) (σ' := σ20) rfl ?_
            exact wk_ls [(0, .inr (.inr (.ref 61))), (1, .inl (a1)), (2, .inl (a2)), (3, .inl (a3)), (4, .inl (v19))] rfl ⟨rfl, rfl, rfl, rfl, rfl, trivial⟩ (jn37 (1) (by simp only [if_neg (show ¬ ((v_fChosen σ2 (a1) (v19) (a2)) = 0) by omega)]) (by decide))
    exact wk_ls [(0, .inr (.inr (.ref 61))), (1, .inl (a1)), (2, .inl (a2)), (3, .inl (a3)), (4, .inl (0))] rfl ⟨rfl, rfl, rfl, rfl, rfl, trivial⟩ (lp28 μ23 (0) σ16 (by decide) (sg_F_r _ _) w29)
  have lp10 : ∀ (n14 : Nat) (v1 : Int) (σ2 : sg_S), sg_R v1 → sg_F [62, 78, 79, 80, 81, 82, 85, 86, 87, 11061, 11077, 12077, 13077, 14077, 15077, 16077, 17077, 18077, 19077] σ σ2 → I4 n14 v1 σ2 → wx z 3 69 3 [(0, .inr (.inr (.ref 61))), (1, .inl (a1)), (2, .inl (a2)), (3, .inl (a3)), (4, .inl (v1))] [] σ2 (fun v σ' => v = none ∧ sg_F [62, 78, 79, 80, 81, 82, 85, 86, 87, 11061, 11077, 12077, 13077, 14077, 15077, 16077, 17077, 18077, 19077, 24061] σ σ' ∧ Q σ') := by
    intro n14
    induction n14 using Nat.strongRecOn with
    | _ n14 ih8 =>
      intro v1 σ2 r7 hF3 w
      have w := w12 n14 v1 σ2 r7 hF3 w
      refine wk_b tt_69 3 (pc' := 9) (ls' := [(0, .inr (.inr (.ref 61))), (1, .inl (a1)), (2, .inl (a2)), (3, .inl (a3)), (4, .inl (v1))]) (st' := [.inl ((sg_g σ2 61 21)), .inl (v1)]) (σ' := σ2) rfl ?_
      rw [show (sg_g σ2 61 21) = (sg_g σ 61 21) from by rw [sg_F_g hF3 rfl]]
      refine wk_if2 tt_69 (tgt := 124) rfl rfl r7 (sg_Rg _ _ _) (fun (h47 : (sg_g σ 61 21) ≤ v1) => ?_) (fun (h47 : v1 < (sg_g σ 61 21)) => ?_)
      ·
        have w := w.1 h47
        exact wk_ls [(0, .inr (.inr (.ref 61))), (1, .inl (a1)), (2, .inl (a2)), (3, .inl (a3))] rfl ⟨rfl, rfl, rfl, rfl, trivial⟩ (ex15  σ2  (sg_F_t (sg_F_r [62, 78, 79, 80, 81, 82, 85, 86, 87, 11061, 11077, 12077, 13077, 14077, 15077, 16077, 17077, 18077, 19077] σ) (sg_F_m (L := [62, 78, 79, 80, 81, 82, 85, 86, 87, 11061, 11077, 12077, 13077, 14077, 15077, 16077, 17077, 18077, 19077]) hF3 rfl)) w)
      ·
        have w := w.2 h47
        refine wk_b tt_69 2 (pc' := 16) (ls' := [(0, .inr (.inr (.ref 61))), (1, .inl (a1)), (2, .inl (a2)), (3, .inl (a3)), (4, .inl (v1))]) (st' := [.inl ((sg_g σ2 61 10))]) (σ' := σ2) rfl ?_
        refine wk_if tt_69 (tgt := 124) rfl rfl (sg_Rg _ _ _) (fun (h48 : ¬ (sg_g σ2 61 10) = 0) => ?_) (fun (h48 : (sg_g σ2 61 10) = 0) => ?_)
        ·
          have w := w.1 h48
          exact wk_ls [(0, .inr (.inr (.ref 61))), (1, .inl (a1)), (2, .inl (a2)), (3, .inl (a3))] rfl ⟨rfl, rfl, rfl, rfl, trivial⟩ (ex15  σ2  (sg_F_t (sg_F_r [62, 78, 79, 80, 81, 82, 85, 86, 87, 11061, 11077, 12077, 13077, 14077, 15077, 16077, 17077, 18077, 19077] σ) (sg_F_m (L := [62, 78, 79, 80, 81, 82, 85, 86, 87, 11061, 11077, 12077, 13077, 14077, 15077, 16077, 17077, 18077, 19077]) hF3 rfl)) w)
        ·
          have w := w.2 h48
          refine wk_b tt_69 3 (pc' := 25) (ls' := [(0, .inr (.inr (.ref 61))), (1, .inl (a1)), (2, .inl (a2)), (3, .inl (a3)), (4, .inl (v1))]) (st' := [.inl (v1), .inr (.inr (.ref 74))]) (σ' := σ2) rfl ?_
          refine wk_callp tt_69 rfl rfl rfl rfl rfl tt_5 rfl (by decide) (at_i0 z σ2 74 200 (v1) rfl (by decide) r7) ?_
          show wx z 3 69 28 [(0, .inr (.inr (.ref 61))), (1, .inl (a1)), (2, .inl (a2)), (3, .inl (a3)), (4, .inl (v1))] [.inl ((sx_at σ2 74 200 (v1)))] σ2 (fun v σ' => v = none ∧ sg_F [62, 78, 79, 80, 81, 82, 85, 86, 87, 11061, 11077, 12077, 13077, 14077, 15077, 16077, 17077, 18077, 19077, 24061] σ σ' ∧ Q σ')
          rw [sx_F (a := 74) (n := 200) (i := (v1)) hF3 rfl]
          refine wk_b tt_69 3 (pc' := 33) (ls' := [(6, .inl (0)), (5, .inl ((sx_at σ 74 200 (v1)))), (0, .inr (.inr (.ref 61))), (1, .inl (a1)), (2, .inl (a2)), (3, .inl (a3)), (4, .inl (v1))]) (st' := []) (σ' := σ2) rfl ?_
          obtain ⟨I52, X54, ⟨μ53, w59⟩, w60, w61⟩ := w
          have ex63 : ∀ (σ50 : sg_S), sg_F [85, 86, 87, 14077, 16077] σ2 σ50 → X54 σ50 → wx z 3 69 78 [(0, .inr (.inr (.ref 61))), (1, .inl (a1)), (2, .inl (a2)), (3, .inl (a3)), (4, .inl (v1)), (5, .inl ((sx_at σ 74 200 (v1))))] [] σ50 (fun v σ' => v = none ∧ sg_F [62, 78, 79, 80, 81, 82, 85, 86, 87, 11061, 11077, 12077, 13077, 14077, 15077, 16077, 17077, 18077, 19077, 24061] σ σ' ∧ Q σ') := by
            intro σ50 hF51 w
            have w := w61 σ50 hF51 w
            refine wk_b tt_69 9 (pc' := 97) (ls' := [(0, .inr (.inr (.ref 61))), (1, .inl (a1)), (2, .inl (a2)), (3, .inl (a3)), (4, .inl (v1)), (5, .inl ((sx_at σ 74 200 (v1))))]) (st' := [.inl ((sx_at σ 74 200 (v1))), .inr (.inr (.ref 34)), .inr (.inr (.ref 77)), .inl ((sx_at σ 74 200 (v1))), .inr (.inr (.ref 62))]) (σ' := σ50) rfl ?_
            refine wk_callp tt_69 rfl rfl rfl rfl rfl tt_5 rfl (by decide) (at_i0 z σ50 34 272 ((sx_at σ 74 200 (v1))) rfl (by decide) (sx_R ..)) ?_
            show wx z 3 69 100 [(0, .inr (.inr (.ref 61))), (1, .inl (a1)), (2, .inl (a2)), (3, .inl (a3)), (4, .inl (v1)), (5, .inl ((sx_at σ 74 200 (v1))))] [.inl ((sx_at σ50 34 272 ((sx_at σ 74 200 (v1))))), .inr (.inr (.ref 77)), .inl ((sx_at σ 74 200 (v1))), .inr (.inr (.ref 62))] σ50 (fun v σ' => v = none ∧ sg_F [62, 78, 79, 80, 81, 82, 85, 86, 87, 11061, 11077, 12077, 13077, 14077, 15077, 16077, 17077, 18077, 19077, 24061] σ σ' ∧ Q σ')
            rw [sx_F (a := 34) (n := 272) (i := ((sx_at σ 74 200 (v1)))) hF51 rfl, sx_F (a := 34) (n := 272) (i := ((sx_at σ 74 200 (v1)))) hF3 rfl]
            refine wk_b tt_69 1 (pc' := 101) (ls' := [(0, .inr (.inr (.ref 61))), (1, .inl (a1)), (2, .inl (a2)), (3, .inl (a3)), (4, .inl (v1)), (5, .inl ((sx_at σ 74 200 (v1))))]) (st' := [.inl (0), .inl ((sx_at σ 34 272 ((sx_at σ 74 200 (v1))))), .inr (.inr (.ref 77)), .inl ((sx_at σ 74 200 (v1))), .inr (.inr (.ref 62))]) (σ' := σ50) rfl ?_
            refine wk_call tt_69 rfl rfl rfl rfl rfl tt_111 rfl (by decide) (w_lSeal z σ50 ((sx_at σ 34 272 ((sx_at σ 74 200 (v1))))) (0) _ (sx_R ..) (by decide) w) (fun u69 σ65 hq67 => ?_)
            obtain ⟨q64, rfl, r68, hF66, w⟩ := hq67
            have w := w r68 hF66
            refine wk_callp tt_69 rfl rfl rfl rfl rfl tt_21 rfl (by decide) (pt_i0 z σ65 62 272 ((sx_at σ 74 200 (v1))) (q64) rfl (by decide) (sx_R ..)) ?_
            show wx z 3 69 107 [(0, .inr (.inr (.ref 61))), (1, .inl (a1)), (2, .inl (a2)), (3, .inl (a3)), (4, .inl (v1)), (5, .inl ((sx_at σ 74 200 (v1))))] [] (sx_put σ65 62 272 ((sx_at σ 74 200 (v1))) (q64)) (fun v σ' => v = none ∧ sg_F [62, 78, 79, 80, 81, 82, 85, 86, 87, 11061, 11077, 12077, 13077, 14077, 15077, 16077, 17077, 18077, 19077, 24061] σ σ' ∧ Q σ')
            generalize hs71 : (sx_put σ65 62 272 ((sx_at σ 74 200 (v1))) (q64)) = σ70
            have w := w σ70 hs71.symm
            have hF72 : sg_F [62] σ65 σ70 := by rw [← hs71]; exact sg_F_p (sg_F_r _ _) rfl _ _ _
            refine wk_b tt_69 5 (pc' := 118) (ls' := [(0, .inr (.inr (.ref 61))), (1, .inl (a1)), (2, .inl (a2)), (3, .inl (a3)), (4, .inl (v1)), (5, .inl ((sx_at σ 74 200 (v1))))]) (st' := []) (σ' := (sg_w σ70 61 10 ((sg_g σ70 77 18)))) rfl ?_
            rw [show (sg_g σ70 77 18) = (sg_g σ65 77 18) from by rw [sg_F_ga hF72 rfl]]
            generalize hs74 : (sg_w σ70 61 10 ((sg_g σ65 77 18))) = σ73
            have w := w σ73 hs74.symm
            have hF75 : sg_F [11061] σ70 σ73 := by rw [← hs74]; exact sg_F_w (sg_F_r _ _) rfl _
            obtain ⟨c76, w⟩ := w
            refine wk_b tt_69 2 (pc' := 3) (ls' := [(4, .inl ((v1 + 1))), (0, .inr (.inr (.ref 61))), (1, .inl (a1)), (2, .inl (a2)), (3, .inl (a3)), (5, .inl ((sx_at σ 74 200 (v1))))]) (st' := []) (σ' := σ73) rfl ?_
            obtain ⟨m77, hm77, w⟩ := w
            exact wk_ls [(0, .inr (.inr (.ref 61))), (1, .inl (a1)), (2, .inl (a2)), (3, .inl (a3)), (4, .inl ((v1 + 1)))] rfl ⟨rfl, rfl, rfl, rfl, rfl, trivial⟩ (ih8 m77 hm77 ((v1 + 1)) σ73 c76 (sg_F_t (sg_F_t (sg_F_t (sg_F_t (sg_F_t (sg_F_r [62, 78, 79, 80, 81, 82, 85, 86, 87, 11061, 11077, 12077, 13077, 14077, 15077, 16077, 17077, 18077, 19077] σ) (sg_F_m (L := [62, 78, 79, 80, 81, 82, 85, 86, 87, 11061, 11077, 12077, 13077, 14077, 15077, 16077, 17077, 18077, 19077]) hF3 rfl)) (sg_F_m (L := [62, 78, 79, 80, 81, 82, 85, 86, 87, 11061, 11077, 12077, 13077, 14077, 15077, 16077, 17077, 18077, 19077]) hF51 rfl)) (sg_F_m (L := [62, 78, 79, 80, 81, 82, 85, 86, 87, 11061, 11077, 12077, 13077, 14077, 15077, 16077, 17077, 18077, 19077]) hF66 rfl)) (sg_F_m (L := [62, 78, 79, 80, 81, 82, 85, 86, 87, 11061, 11077, 12077, 13077, 14077, 15077, 16077, 17077, 18077, 19077]) hF72 rfl)) (sg_F_m (L := [62, 78, 79, 80, 81, 82, 85, 86, 87, 11061, 11077, 12077, 13077, 14077, 15077, 16077, 17077, 18077, 19077]) hF75 rfl)) w)
          have lp58 : ∀ (n62 : Nat) (v49 : Int) (σ50 : sg_S), sg_R v49 → sg_F [85, 86, 87, 14077, 16077] σ2 σ50 → I52 n62 v49 σ50 → wx z 3 69 33 [(0, .inr (.inr (.ref 61))), (1, .inl (a1)), (2, .inl (a2)), (3, .inl (a3)), (4, .inl (v1)), (5, .inl ((sx_at σ 74 200 (v1)))), (6, .inl (v49))] [] σ50 (fun v σ' => v = none ∧ sg_F [62, 78, 79, 80, 81, 82, 85, 86, 87, 11061, 11077, 12077, 13077, 14077, 15077, 16077, 17077, 18077, 19077, 24061] σ σ' ∧ Q σ') := by
            intro n62
            induction n62 using Nat.strongRecOn with
            | _ n62 ih56 =>
              intro v49 σ50 r55 hF51 w
              have w := w60 n62 v49 σ50 r55 hF51 w
              refine wk_b tt_69 2 (pc' := 36) (ls' := [(0, .inr (.inr (.ref 61))), (1, .inl (a1)), (2, .inl (a2)), (3, .inl (a3)), (4, .inl (v1)), (5, .inl ((sx_at σ 74 200 (v1)))), (6, .inl (v49))]) (st' := [.inl (a3), .inl (v49)]) (σ' := σ50) rfl ?_
              refine wk_if2 tt_69 (tgt := 78) rfl rfl r55 ra3 (fun (h78 : a3 ≤ v49) => ?_) (fun (h78 : v49 < a3) => ?_)
              ·
                have w := w.1 h78
                exact wk_ls [(0, .inr (.inr (.ref 61))), (1, .inl (a1)), (2, .inl (a2)), (3, .inl (a3)), (4, .inl (v1)), (5, .inl ((sx_at σ 74 200 (v1))))] rfl ⟨rfl, rfl, rfl, rfl, rfl, rfl, trivial⟩ (ex63  σ50  (sg_F_t (sg_F_r [85, 86, 87, 14077, 16077] σ2) (sg_F_m (L := [85, 86, 87, 14077, 16077]) hF51 rfl)) w)
              ·
                have w := w.2 h78
                refine wk_b tt_69 4 (pc' := 44) (ls' := [(0, .inr (.inr (.ref 61))), (1, .inl (a1)), (2, .inl (a2)), (3, .inl (a3)), (4, .inl (v1)), (5, .inl ((sx_at σ 74 200 (v1)))), (6, .inl (v49))]) (st' := [.inl (a2), .inl (v49), .inl (a1), .inr (.inr (.ref 61))]) (σ' := σ50) rfl ?_
                obtain ⟨c79, w⟩ := w
                have c79 : p_fChosen σ50 (a1) (v49) (a2) := by
                  rw [pF_fChosen hF51 rfl rfl]; exact c79
                refine wk_callp tt_69 rfl rfl rfl rfl rfl tt_55 rfl (by decide) (w_fChosen z σ50 (a1) (v49) (a2) ra1 r55 ra2 c79) ?_
                rw [vF_fChosen hF51 rfl rfl]
                obtain ⟨P82, w, w85⟩ := w
                have jn81 : ∀ (σ83 : sg_S), sg_F [85, 86, 87, 14077, 16077] σ50 σ83 → P82 σ83 → wx z 3 69 72 [(0, .inr (.inr (.ref 61))), (1, .inl (a1)), (2, .inl (a2)), (3, .inl (a3)), (4, .inl (v1)), (5, .inl ((sx_at σ 74 200 (v1)))), (6, .inl (v49))] [] σ83 (fun v σ' => v = none ∧ sg_F [62, 78, 79, 80, 81, 82, 85, 86, 87, 11061, 11077, 12077, 13077, 14077, 15077, 16077, 17077, 18077, 19077, 24061] σ σ' ∧ Q σ') := by
                  intro σ83 hF84 w
                  have w := w85 σ83 hF84 w
                  obtain ⟨c86, w⟩ := w
                  refine wk_b tt_69 2 (pc' := 33) (ls' := [(6, .inl ((v49 + 1))), (0, .inr (.inr (.ref 61))), (1, .inl (a1)), (2, .inl (a2)), (3, .inl (a3)), (4, .inl (v1)), (5, .inl ((sx_at σ 74 200 (v1))))]) (st' := []) (σ' := σ83) rfl ?_
                  obtain ⟨m87, hm87, w⟩ := w
                  exact wk_ls [(0, .inr (.inr (.ref 61))), (1, .inl (a1)), (2, .inl (a2)), (3, .inl (a3)), (4, .inl (v1)), (5, .inl ((sx_at σ 74 200 (v1)))), (6, .inl ((v49 + 1)))] rfl ⟨rfl, rfl, rfl, rfl, rfl, rfl, rfl, trivial⟩ (ih56 m87 hm87 ((v49 + 1)) σ83 c86 (sg_F_t (sg_F_t (sg_F_r [85, 86, 87, 14077, 16077] σ2) (sg_F_m (L := [85, 86, 87, 14077, 16077]) hF51 rfl)) (sg_F_m (L := [85, 86, 87, 14077, 16077]) hF84 rfl)) w)
                refine wk_if tt_69 (tgt := 72) rfl rfl (sg_Rz (vz_fChosen ..)) (fun (h80 : (v_fChosen σ2 (a1) (v49) (a2)) = 0) => ?_) (fun (h80 : ¬ (v_fChosen σ2 (a1) (v49) (a2)) = 0) => ?_)
                ·
                  have w := w.1 h80
                  exact wk_ls [(0, .inr (.inr (.ref 61))), (1, .inl (a1)), (2, .inl (a2)), (3, .inl (a3)), (4, .inl (v1)), (5, .inl ((sx_at σ 74 200 (v1)))), (6, .inl (v49))] rfl ⟨rfl, rfl, rfl, rfl, rfl, rfl, rfl, trivial⟩ (jn81 σ50 (sg_F_r [85, 86, 87, 14077, 16077] σ50) w)
                ·
                  have w := w.2 h80
                  refine wk_b tt_69 5 (pc' := 60) (ls' := [(0, .inr (.inr (.ref 61))), (1, .inl (a1)), (2, .inl (a2)), (3, .inl (a3)), (4, .inl (v1)), (5, .inl ((sx_at σ 74 200 (v1)))), (6, .inl (v49))]) (st' := [.inl ((sx_at σ 74 200 (v1))), .inr (.inr (.ref 62)), .inr (.inr (.ref 77))]) (σ' := σ50) rfl ?_
                  refine wk_callp tt_69 rfl rfl rfl rfl rfl tt_5 rfl (by decide) (at_i0 z σ50 62 272 ((sx_at σ 74 200 (v1))) rfl (by decide) (sx_R ..)) ?_
                  show wx z 3 69 63 [(0, .inr (.inr (.ref 61))), (1, .inl (a1)), (2, .inl (a2)), (3, .inl (a3)), (4, .inl (v1)), (5, .inl ((sx_at σ 74 200 (v1)))), (6, .inl (v49))] [.inl ((sx_at σ50 62 272 ((sx_at σ 74 200 (v1))))), .inr (.inr (.ref 77))] σ50 (fun v σ' => v = none ∧ sg_F [62, 78, 79, 80, 81, 82, 85, 86, 87, 11061, 11077, 12077, 13077, 14077, 15077, 16077, 17077, 18077, 19077, 24061] σ σ' ∧ Q σ')
                  rw [sx_F (a := 62) (n := 272) (i := ((sx_at σ 74 200 (v1)))) hF51 rfl]
                  obtain ⟨c88, w⟩ := w
                  refine wk_b tt_69 4 (pc' := 69) (ls' := [(0, .inr (.inr (.ref 61))), (1, .inl (a1)), (2, .inl (a2)), (3, .inl (a3)), (4, .inl (v1)), (5, .inl ((sx_at σ 74 200 (v1)))), (6, .inl (v49))]) (st' := [.inl ((v49 + 1)), .inl (v49), .inl ((sx_at σ2 62 272 ((sx_at σ 74 200 (v1))))), .inr (.inr (.ref 77))]) (σ' := σ50) rfl ?_
                  refine wk_call tt_69 rfl rfl rfl rfl rfl tt_109 rfl (by decide) (w_lPick z σ50 ((sx_at σ2 62 272 ((sx_at σ 74 200 (v1))))) (v49) ((v49 + 1)) _ (sx_R ..) r55 c88 w) (fun u94 σ90 hq92 => ?_)
                  obtain ⟨rfl, hF91, w⟩ := hq92
                  have w := w hF91
                  exact wk_ls [(0, .inr (.inr (.ref 61))), (1, .inl (a1)), (2, .inl (a2)), (3, .inl (a3)), (4, .inl (v1)), (5, .inl ((sx_at σ 74 200 (v1)))), (6, .inl (v49))] rfl ⟨rfl, rfl, rfl, rfl, rfl, rfl, rfl, trivial⟩ (jn81 σ90 (sg_F_t (sg_F_r [85, 86, 87, 14077, 16077] σ50) (sg_F_m (L := [85, 86, 87, 14077, 16077]) hF91 rfl)) w)
          exact wk_ls [(0, .inr (.inr (.ref 61))), (1, .inl (a1)), (2, .inl (a2)), (3, .inl (a3)), (4, .inl (v1)), (5, .inl ((sx_at σ 74 200 (v1)))), (6, .inl (0))] rfl ⟨rfl, rfl, rfl, rfl, rfl, rfl, rfl, trivial⟩ (lp58 μ53 (0) σ2 (by decide) (sg_F_r _ _) w59)
  exact wk_ls [(0, .inr (.inr (.ref 61))), (1, .inl (a1)), (2, .inl (a2)), (3, .inl (a3)), (4, .inl (0))] rfl ⟨rfl, rfl, rfl, rfl, rfl, trivial⟩ (lp10 μ5 (0) σ (by decide) (sg_F_r _ _) w11)
