/-! Rows without ranges; reading and writing of rows that never throws. -/
section WKB
variable {E : am_E} {T : List am_M} {Sh : List sg_Sh} {d j pc : Nat} {ls : bm_L} {st : List bm_V} {σ : sg_S} {Q : Option bm_V → sg_S → Prop} {M : am_M}
theorem wk_if2n {x y : Int} {c : ClassFile.Cond} {off num : Int} {lk : am_K} {tgt : Nat} (hM : T[j]? = some M) (hq : am_find M.2.2.2.2 pc = some (pc, .if_icmp c off, num, lk)) (ht : (pc : Int) + off = (tgt : Int)) (k1 : sg_c c (sg_n x) (sg_n y) → wk E T Sh d j tgt ls st σ Q) (k2 : sg_nc c (sg_n x) (sg_n y) → wk E T Sh d j (pc + 3) ls st σ Q) : wk E T Sh d j pc ls (.inl y :: .inl x :: st) σ Q := by
  rcases sg_cnc c (sg_n x) (sg_n y) with h | h
  · obtain ⟨v, σ', h1, h2⟩ := k1 h
    exact ⟨v, σ', am_rT2 hM hq (sg_cT h) ht h1, h2⟩
  · obtain ⟨v, σ', h1, h2⟩ := k2 h
    exact ⟨v, σ', am_rF2 hM hq (sg_cF h) ht h1, h2⟩
theorem sg_n0 : sg_n 0 = 0 := rfl
theorem wk_ifn {x : Int} {c : ClassFile.Cond} {off num : Int} {lk : am_K} {tgt : Nat} (hM : T[j]? = some M) (hq : am_find M.2.2.2.2 pc = some (pc, .ifCond c off, num, lk)) (ht : (pc : Int) + off = (tgt : Int)) (k1 : sg_c c (sg_n x) 0 → wk E T Sh d j tgt ls st σ Q) (k2 : sg_nc c (sg_n x) 0 → wk E T Sh d j (pc + 3) ls st σ Q) : wk E T Sh d j pc ls (.inl x :: st) σ Q := by
  rcases sg_cnc c (sg_n x) 0 with h | h
  · obtain ⟨v, σ', h1, h2⟩ := k1 h
    exact ⟨v, σ', am_rT hM hq (sg_cT (y := 0) h) ht h1, h2⟩
  · obtain ⟨v, σ', h1, h2⟩ := k2 h
    exact ⟨v, σ', am_rF hM hq (sg_cF (y := 0) h) ht h1, h2⟩
theorem wk_eq {ls' : bm_L} {st' : List bm_V} (h1 : bm_ls ls' = bm_ls ls) (h2 : bm_st st' = bm_st st) (k : wk E T Sh d j pc ls' st' σ Q) : wk E T Sh d j pc ls st σ Q := by
  unfold wk at k ⊢
  rw [h1, h2] at k
  exact k
theorem wk_n2 {v : bm_V} {x : Int} (h : wk E T Sh d j pc ls (v :: .inl (sg_n x) :: st) σ Q) : wk E T Sh d j pc ls (v :: .inl x :: st) σ Q :=
  wk_eq rfl (by simp only [bm_st, List.map_cons, bm_v, sg_in]) h
theorem wk_len {a t n : Nat} {num : Int} {lk : am_K} (hM : T[j]? = some M) (hq : am_find M.2.2.2.2 pc = some (pc, .arraylength, num, lk)) (hh : sg_sh Sh a = some (.inl (t, n))) (ht : t < 4) (k : wk E T Sh d j (pc + 1) ls (.inl (n : Int) :: st) σ Q) : wk E T Sh d j pc ls (.inr (.inr (.ref a)) :: st) σ Q := by
  refine wk_b hM 1 (pc' := pc + 1) (ls' := ls) (st' := .inl (n : Int) :: st) (σ' := σ) ?_ k
  simp only [bm_run, hq, bm_step, bm_alen, hh, if_pos ht]
theorem wk_maxb {x y num : Int} {idx : Nat} {dat : List Nat} {tl : am_K} (hM : T[j]? = some M) (hq : am_find M.2.2.2.2 pc = some (pc, .invokestatic idx, num, (3000, 0 :: dat) :: tl)) (h8 : Nat.ble (bm_sum st) 8 = true) (k : ∀ q, wk E T Sh (d + 1) j (pc + 3) ls (.inl q :: st) σ Q) : wk E T Sh (d + 1) j pc ls (.inl y :: .inl x :: st) σ Q :=
  wk_n (wk_n2 (wk_max (k0 := 0) hM hq (sg_Rn x) (sg_Rn y) h8 (k _)))
theorem wk_minb {x y num : Int} {idx : Nat} {dat : List Nat} {tl : am_K} (hM : T[j]? = some M) (hq : am_find M.2.2.2.2 pc = some (pc, .invokestatic idx, num, (3000, 1 :: dat) :: tl)) (h8 : Nat.ble (bm_sum st) 8 = true) (k : ∀ q, wk E T Sh (d + 1) j (pc + 3) ls (.inl q :: st) σ Q) : wk E T Sh (d + 1) j pc ls (.inl y :: .inl x :: st) σ Q :=
  wk_n (wk_n2 (wk_min (k0 := 0) hM hq (sg_Rn x) (sg_Rn y) h8 (k _)))
theorem wk_absb {x num : Int} {idx : Nat} {dat : List Nat} {tl : am_K} (hM : T[j]? = some M) (hq : am_find M.2.2.2.2 pc = some (pc, .invokestatic idx, num, (3000, 2 :: dat) :: tl)) (h8 : Nat.ble (bm_sum st) 8 = true) (k : ∀ q, wk E T Sh (d + 1) j (pc + 3) ls (.inr (.inl q) :: st) σ Q) : wk E T Sh (d + 1) j pc ls (.inr (.inl x) :: st) σ Q :=
  wk_eq (st' := .inr (.inl (sg_nl x)) :: st) rfl (by simp only [bm_st, List.map_cons, bm_v, sg_lnl]) (wk_abs (k0 := 0) hM hq (sg_Rnl x) h8 (k _))
end WKB
def sx_at (σ : sg_S) (a : Nat) (n i : Int) : Int := if 0 ≤ i ∧ i < n then sg_g σ a i else 0
def sx_atl (σ : sg_S) (a : Nat) (n i : Int) : Int := if 0 ≤ i ∧ i < n then sg_gl σ a i else 0
def sx_put (σ : sg_S) (a : Nat) (n i x : Int) : sg_S := if 0 ≤ i ∧ i < n then sg_w σ a i x else σ
def sx_putl (σ : sg_S) (a : Nat) (n i x : Int) : sg_S := if 0 ≤ i ∧ i < n then sg_wl σ a i x else σ
section ATP
variable (z : Value) (σ : sg_S) (a n : Nat) (i x : Int)
theorem at_i0 (hh : sg_sh am_Sh0 a = some (.inl (0, n))) (hn : sg_R (n : Int)) (hR : sg_R i) : wx z 0 5 0 [(0, .inr (.inr (.ref a))), (1, .inl i)] [] σ (fun v σ' => v = some (.inl (sx_at σ a n i)) ∧ σ' = σ) := by
  refine wk_b tt_5 1 (pc' := 1) (ls' := [(0, .inr (.inr (.ref a))), (1, .inl i)]) (st' := [.inl i]) (σ' := σ) rfl ?_
  refine wk_if tt_5 (tgt := 16) rfl rfl hR (fun h => ?_) (fun h => ?_)
  · refine wk_b tt_5 1 (pc' := 17) (ls' := [(0, .inr (.inr (.ref a))), (1, .inl i)]) (st' := [.inl 0]) (σ' := σ) rfl ?_
    simp only [sg_c] at h
    exact wk_rI tt_5 rfl rfl ⟨by unfold sx_at; rw [if_neg (by omega)], rfl⟩
  · simp only [sg_nc] at h
    refine wk_b tt_5 2 (pc' := 6) (ls' := [(0, .inr (.inr (.ref a))), (1, .inl i)]) (st' := [.inr (.inr (.ref a)), .inl i]) (σ' := σ) rfl ?_
    refine wk_len tt_5 rfl hh (by decide) ?_
    refine wk_if2 tt_5 (tgt := 16) rfl rfl hR hn (fun h2 => ?_) (fun h2 => ?_)
    · refine wk_b tt_5 1 (pc' := 17) (ls' := [(0, .inr (.inr (.ref a))), (1, .inl i)]) (st' := [.inl 0]) (σ' := σ) rfl ?_
      simp only [sg_c] at h2
      exact wk_rI tt_5 rfl rfl ⟨by unfold sx_at; rw [if_neg (by omega)], rfl⟩
    · simp only [sg_nc] at h2
      refine wk_b tt_5 2 (pc' := 12) (ls' := [(0, .inr (.inr (.ref a))), (1, .inl i)]) (st' := [.inl i, .inr (.inr (.ref a))]) (σ' := σ) rfl ?_
      refine wk_ia tt_5 rfl hh h h2 hR ?_
      refine wk_b tt_5 1 (pc' := 17) (ls' := [(0, .inr (.inr (.ref a))), (1, .inl i)]) (st' := [.inl (sg_g σ a i)]) (σ' := σ) rfl ?_
      exact wk_rI tt_5 rfl rfl ⟨by unfold sx_at; rw [if_pos ⟨h, h2⟩], rfl⟩
theorem at_i (hh : sg_sh am_Sh0 a = some (.inl (0, n))) (hn : sg_R (n : Int)) : wx z 0 5 0 [(0, .inr (.inr (.ref a))), (1, .inl i)] [] σ (fun v σ' => v = some (.inl (sx_at σ a n (sg_n i))) ∧ σ' = σ) :=
  wk_eq (ls' := [(0, .inr (.inr (.ref a))), (1, .inl (sg_n i))]) (by simp only [bm_ls, List.map_cons, bm_v, sg_in]) rfl (at_i0 z σ a n (sg_n i) hh hn (sg_Rn i))
theorem at_l0 (hh : sg_sh am_Sh0 a = some (.inl (2, n))) (hn : sg_R (n : Int)) (hR : sg_R i) : wx z 0 6 0 [(0, .inr (.inr (.ref a))), (1, .inl i)] [] σ (fun v σ' => v = some (.inr (.inl (sx_atl σ a n i))) ∧ σ' = σ) := by
  refine wk_b tt_6 1 (pc' := 1) (ls' := [(0, .inr (.inr (.ref a))), (1, .inl i)]) (st' := [.inl i]) (σ' := σ) rfl ?_
  refine wk_if tt_6 (tgt := 16) rfl rfl hR (fun h => ?_) (fun h => ?_)
  · refine wk_b tt_6 1 (pc' := 17) (ls' := [(0, .inr (.inr (.ref a))), (1, .inl i)]) (st' := [.inr (.inl 0)]) (σ' := σ) rfl ?_
    simp only [sg_c] at h
    exact wk_rL tt_6 rfl rfl ⟨by unfold sx_atl; rw [if_neg (by omega)], rfl⟩
  · simp only [sg_nc] at h
    refine wk_b tt_6 2 (pc' := 6) (ls' := [(0, .inr (.inr (.ref a))), (1, .inl i)]) (st' := [.inr (.inr (.ref a)), .inl i]) (σ' := σ) rfl ?_
    refine wk_len tt_6 rfl hh (by decide) ?_
    refine wk_if2 tt_6 (tgt := 16) rfl rfl hR hn (fun h2 => ?_) (fun h2 => ?_)
    · refine wk_b tt_6 1 (pc' := 17) (ls' := [(0, .inr (.inr (.ref a))), (1, .inl i)]) (st' := [.inr (.inl 0)]) (σ' := σ) rfl ?_
      simp only [sg_c] at h2
      exact wk_rL tt_6 rfl rfl ⟨by unfold sx_atl; rw [if_neg (by omega)], rfl⟩
    · simp only [sg_nc] at h2
      refine wk_b tt_6 2 (pc' := 12) (ls' := [(0, .inr (.inr (.ref a))), (1, .inl i)]) (st' := [.inl i, .inr (.inr (.ref a))]) (σ' := σ) rfl ?_
      refine wk_la tt_6 rfl hh h h2 hR ?_
      refine wk_b tt_6 1 (pc' := 17) (ls' := [(0, .inr (.inr (.ref a))), (1, .inl i)]) (st' := [.inr (.inl (sg_gl σ a i))]) (σ' := σ) rfl ?_
      exact wk_rL tt_6 rfl rfl ⟨by unfold sx_atl; rw [if_pos ⟨h, h2⟩], rfl⟩
theorem at_l (hh : sg_sh am_Sh0 a = some (.inl (2, n))) (hn : sg_R (n : Int)) : wx z 0 6 0 [(0, .inr (.inr (.ref a))), (1, .inl i)] [] σ (fun v σ' => v = some (.inr (.inl (sx_atl σ a n (sg_n i)))) ∧ σ' = σ) :=
  wk_eq (ls' := [(0, .inr (.inr (.ref a))), (1, .inl (sg_n i))]) (by simp only [bm_ls, List.map_cons, bm_v, sg_in]) rfl (at_l0 z σ a n (sg_n i) hh hn (sg_Rn i))
theorem pt_i0 (hh : sg_sh am_Sh0 a = some (.inl (0, n))) (hn : sg_R (n : Int)) (hR : sg_R i) : wx z 0 21 0 [(0, .inr (.inr (.ref a))), (1, .inl i), (2, .inl x)] [] σ (fun v σ' => v = none ∧ σ' = sx_put σ a n i x) := by
  refine wk_b tt_21 1 (pc' := 1) (ls' := [(0, .inr (.inr (.ref a))), (1, .inl i), (2, .inl x)]) (st' := [.inl i]) (σ' := σ) rfl ?_
  refine wk_if tt_21 (tgt := 14) rfl rfl hR (fun h => ?_) (fun h => ?_)
  · simp only [sg_c] at h
    exact wk_rV tt_21 rfl rfl ⟨rfl, by unfold sx_put; rw [if_neg (by omega)]⟩
  · simp only [sg_nc] at h
    refine wk_b tt_21 2 (pc' := 6) (ls' := [(0, .inr (.inr (.ref a))), (1, .inl i), (2, .inl x)]) (st' := [.inr (.inr (.ref a)), .inl i]) (σ' := σ) rfl ?_
    refine wk_len tt_21 rfl hh (by decide) ?_
    refine wk_if2 tt_21 (tgt := 14) rfl rfl hR hn (fun h2 => ?_) (fun h2 => ?_)
    · simp only [sg_c] at h2
      exact wk_rV tt_21 rfl rfl ⟨rfl, by unfold sx_put; rw [if_neg (by omega)]⟩
    · simp only [sg_nc] at h2
      refine wk_b tt_21 3 (pc' := 13) (ls' := [(0, .inr (.inr (.ref a))), (1, .inl i), (2, .inl x)]) (st' := [.inl x, .inl i, .inr (.inr (.ref a))]) (σ' := σ) rfl ?_
      refine wk_is tt_21 rfl hh h h2 hR ?_
      exact wk_rV tt_21 rfl rfl ⟨rfl, by unfold sx_put; rw [if_pos ⟨h, h2⟩]⟩
theorem pt_i (hh : sg_sh am_Sh0 a = some (.inl (0, n))) (hn : sg_R (n : Int)) : wx z 0 21 0 [(0, .inr (.inr (.ref a))), (1, .inl i), (2, .inl x)] [] σ (fun v σ' => v = none ∧ σ' = sx_put σ a n (sg_n i) x) :=
  wk_eq (ls' := [(0, .inr (.inr (.ref a))), (1, .inl (sg_n i)), (2, .inl x)]) (by simp only [bm_ls, List.map_cons, bm_v, sg_in]) rfl (pt_i0 z σ a n (sg_n i) x hh hn (sg_Rn i))
theorem pt_l0 (hh : sg_sh am_Sh0 a = some (.inl (2, n))) (hn : sg_R (n : Int)) (hR : sg_R i) : wx z 0 22 0 [(0, .inr (.inr (.ref a))), (1, .inl i), (2, .inr (.inl x))] [] σ (fun v σ' => v = none ∧ σ' = sx_putl σ a n i x) := by
  refine wk_b tt_22 1 (pc' := 1) (ls' := [(0, .inr (.inr (.ref a))), (1, .inl i), (2, .inr (.inl x))]) (st' := [.inl i]) (σ' := σ) rfl ?_
  refine wk_if tt_22 (tgt := 14) rfl rfl hR (fun h => ?_) (fun h => ?_)
  · simp only [sg_c] at h
    exact wk_rV tt_22 rfl rfl ⟨rfl, by unfold sx_putl; rw [if_neg (by omega)]⟩
  · simp only [sg_nc] at h
    refine wk_b tt_22 2 (pc' := 6) (ls' := [(0, .inr (.inr (.ref a))), (1, .inl i), (2, .inr (.inl x))]) (st' := [.inr (.inr (.ref a)), .inl i]) (σ' := σ) rfl ?_
    refine wk_len tt_22 rfl hh (by decide) ?_
    refine wk_if2 tt_22 (tgt := 14) rfl rfl hR hn (fun h2 => ?_) (fun h2 => ?_)
    · simp only [sg_c] at h2
      exact wk_rV tt_22 rfl rfl ⟨rfl, by unfold sx_putl; rw [if_neg (by omega)]⟩
    · simp only [sg_nc] at h2
      refine wk_b tt_22 3 (pc' := 13) (ls' := [(0, .inr (.inr (.ref a))), (1, .inl i), (2, .inr (.inl x))]) (st' := [.inr (.inl x), .inl i, .inr (.inr (.ref a))]) (σ' := σ) rfl ?_
      refine wk_lS tt_22 rfl hh h h2 hR ?_
      exact wk_rV tt_22 rfl rfl ⟨rfl, by unfold sx_putl; rw [if_pos ⟨h, h2⟩]⟩
theorem pt_l (hh : sg_sh am_Sh0 a = some (.inl (2, n))) (hn : sg_R (n : Int)) : wx z 0 22 0 [(0, .inr (.inr (.ref a))), (1, .inl i), (2, .inr (.inl x))] [] σ (fun v σ' => v = none ∧ σ' = sx_putl σ a n (sg_n i) x) :=
  wk_eq (ls' := [(0, .inr (.inr (.ref a))), (1, .inl (sg_n i)), (2, .inr (.inl x))]) (by simp only [bm_ls, List.map_cons, bm_v, sg_in]) rfl (pt_l0 z σ a n (sg_n i) x hh hn (sg_Rn i))
end ATP
theorem sg_F_p {L : List Nat} {σ σ1 : sg_S} (h : sg_F L σ σ1) {a : Nat} (ha : L.contains a = true) (n i x : Int) : sg_F L σ (sx_put σ1 a n i x) := by
  unfold sx_put
  split
  · exact sg_F_w h (show sg_cv L a i = true by unfold sg_cv; rw [ha]; rfl) _
  · exact h
theorem sg_F_pl {L : List Nat} {σ σ1 : sg_S} (h : sg_F L σ σ1) {a : Nat} (ha : L.contains a = true) (n i x : Int) : sg_F L σ (sx_putl σ1 a n i x) := by
  unfold sx_putl
  split
  · exact sg_F_wl h (show sg_cv L a i = true by unfold sg_cv; rw [ha]; rfl) _
  · exact h
theorem wk_callp {E : am_E} {T : List am_M} {Sh : List sg_Sh} {d j pc : Nat} {ls : bm_L} {st : List bm_V} {σ σ1 : sg_S} {Q : Option bm_V → sg_S → Prop} {M : am_M} {j2 d2 : Nat} {i : Instr} {num : Int} {lk : am_K} {as r : List bm_V} {M2 : am_M} {v0 : Option bm_V} (hM : T[j]? = some M) (hq : am_find M.2.2.2.2 pc = some (pc, i, num, lk)) (hso : am_sort i = 3) (hlk : lk.isEmpty = false) (hp : am_isP lk = false) (hc : bm_call E Sh i lk st = some (j2, as, r)) (hM2 : T[j2]? = some M2) (hcond : bm_may M2.2.2.1 as r = true) (hd : d2 ≤ d) (k1 : wk E T Sh d2 j2 0 (bm_args 0 as) [] σ (fun v σ' => v = v0 ∧ σ' = σ1)) (k2 : wk E T Sh (d + 1) j (pc + 3) ls (v0.toList ++ r) σ1 Q) : wk E T Sh (d + 1) j pc ls st σ Q :=
  wk_call hM hq hso hlk hp hc hM2 hcond hd k1 (fun v σ' h => by obtain ⟨h1, h2⟩ := h; rw [h1, h2]; exact k2)
theorem sg_n_sub (x y : Int) : sg_n (x - y) = sg_n (sg_n x - y) := by
  unfold sg_n
  congr 1
  have := sg_in x
  unfold sg_n sg_i at this
  unfold sg_i
  rw [Int32.ofInt_sub, Int32.ofInt_sub, this]
theorem sg_n_add (x y : Int) : sg_n (x + y) = sg_n (sg_n x + y) := by
  unfold sg_n
  congr 1
  have := sg_in x
  unfold sg_n sg_i at this
  unfold sg_i
  rw [Int32.ofInt_add, Int32.ofInt_add, this]
theorem sg_n_pred {x : Int} (h : -2147483648 < sg_n x) : sg_n (x - 1) = sg_n x - 1 := by
  rw [sg_n_sub]
  have := sg_Rn x
  exact sg_id (by omega)
theorem wk_callb {E : am_E} {T : List am_M} {Sh : List sg_Sh} {d j pc : Nat} {ls : bm_L} {st : List bm_V} {σ σ1 : sg_S} {Q : Option bm_V → sg_S → Prop} {M : am_M} {j2 d2 : Nat} {i : Instr} {num : Int} {lk : am_K} {as r : List bm_V} {M2 : am_M} {P : Prop} (hM : T[j]? = some M) (hq : am_find M.2.2.2.2 pc = some (pc, i, num, lk)) (hso : am_sort i = 3) (hlk : lk.isEmpty = false) (hp : am_isP lk = false) (hc : bm_call E Sh i lk st = some (j2, as, r)) (hM2 : T[j2]? = some M2) (hcond : bm_may M2.2.2.1 as r = true) (hd : d2 ≤ d) (k1 : wk E T Sh d2 j2 0 (bm_args 0 as) [] σ (fun v σ' => σ' = σ1 ∧ (v = some (.inl 1) ∧ P ∨ v = some (.inl 0) ∧ ¬ P))) (kt : P → wk E T Sh (d + 1) j (pc + 3) ls (.inl 1 :: r) σ1 Q) (kf : ¬ P → wk E T Sh (d + 1) j (pc + 3) ls (.inl 0 :: r) σ1 Q) : wk E T Sh (d + 1) j pc ls st σ Q :=
  wk_call hM hq hso hlk hp hc hM2 hcond hd k1 (fun v σ' h => by
    obtain ⟨h1, h2 | h2⟩ := h
    · obtain ⟨h2, h3⟩ := h2
      rw [h1, h2]
      exact kt h3
    · obtain ⟨h2, h3⟩ := h2
      rw [h1, h2]
      exact kf h3)
theorem wk_bf {E : am_E} {T : List am_M} {Sh : List sg_Sh} {d j pc : Nat} {ls : bm_L} {st : List bm_V} {σ : sg_S} {Q : Option bm_V → sg_S → Prop} {M : am_M} {k : Nat} {i : Int} {num : Int} {lk : am_K} {bs : List Int32} {x : Int} (hM : T[j]? = some M) (hq : am_find M.2.2.2.2 pc = some (pc, .baload, num, lk)) (hb : E.2.1[k]? = some bs) (hk : Nat.ble k 8000 = true) (hx : bs[i.toNat]? = some (sg_i x)) (hi : decide (0 ≤ i ∧ i < 2147483647) = true) (kk : wk E T Sh d j (pc + 1) ls (.inl x :: st) σ Q) : wk E T Sh d j pc ls (.inl i :: .inr (.inr (.retAddr (1000 + k))) :: st) σ Q := by
  obtain ⟨v, σ', h1, h2⟩ := kk
  have hk' : k ≤ 8000 := Nat.le_of_ble_eq_true hk
  have hi' : 0 ≤ i ∧ i < 2147483647 := of_decide_eq_true hi
  have hl : i.toNat < bs.length := (List.getElem?_eq_some_iff.mp hx).1
  obtain ⟨e1, e2⟩ := sg_ix (n := bs.length) (i := i) hi'.1 (by omega) (by omega)
  have e3 : (sg_i i).toNatClampNeg = i.toNat := by omega
  rw [e3] at e1
  refine ⟨v, σ', am_r0 (S := (pc + 1, bm_ls ls, bm_st (.inl x :: st))) hM hq rfl ?_ h1, h2⟩
  have h9 : ¬ 1000 + k = 9999 := by omega
  have h10 : ¬ 1000 + k < 1000 := by omega
  have h11 : 1000 + k - 1000 = k := by omega
  simp only [bm_st, List.map_cons, bm_v, am_step, am_rdI, am_rowI, if_neg h9, if_neg h10, h11, hb, if_true, if_neg e1, e3]
  rw [List.getD_eq_getElem?_getD, hx]
  rfl
/-! Methods of the nested run (0): they end, and but for their cells all is as it was. -/
-- NestedVectors$NestedRun.prepare x.nestedRun
set_option maxRecDepth 8000 in
theorem bt_0 (z : Value) (σ : sg_S) : wx z 0 155 0 [(0, .inr (.inr (.ref 45)))] [] σ (fun v σ' => v = none ∧ sg_F [45] σ σ') := by
  have hF0 := sg_F_r [45] σ
  refine wk_b tt_155 12 (pc' := 20) (ls' := [(0, .inr (.inr (.ref 45)))]) (st' := []) (σ' := (sg_w (sg_w (sg_w (sg_w σ 45 20 (0)) 45 21 (0)) 45 22 (0)) 45 23 (0))) rfl ?_
  have hF1 : sg_F [45] σ (sg_w (sg_w (sg_w (sg_w σ 45 20 (0)) 45 21 (0)) 45 22 (0)) 45 23 (0)) := (sg_F_w (sg_F_w (sg_F_w (sg_F_w hF0 rfl _) rfl _) rfl _) rfl _)
  generalize (sg_w (sg_w (sg_w (sg_w σ 45 20 (0)) 45 21 (0)) 45 22 (0)) 45 23 (0)) = σ2 at hF1 ⊢
  exact wk_rV tt_155 rfl rfl ⟨rfl, hF1⟩
-- NestedVectors$Machine.start x.nestedRun
set_option maxRecDepth 8000 in
theorem bt_1 (z : Value) (σ : sg_S) : wx z 1 127 0 [(0, .inr (.inr (.ref 45)))] [] σ (fun v σ' => v = none ∧ sg_F [45, 47] σ σ') := by
  have hF0 := sg_F_r [45, 47] σ
  refine wk_b tt_127 7 (pc' := 11) (ls' := [(0, .inr (.inr (.ref 45)))]) (st' := [.inr (.inr (.ref 45))]) (σ' := (sg_w (sg_w σ 45 7 (0)) 45 10 (0))) rfl ?_
  have hF1 : sg_F [45, 47] σ (sg_w (sg_w σ 45 7 (0)) 45 10 (0)) := (sg_F_w (sg_F_w hF0 rfl _) rfl _)
  generalize (sg_w (sg_w σ 45 7 (0)) 45 10 (0)) = σ2 at hF1 ⊢
  refine wk_call tt_127 rfl rfl rfl rfl rfl tt_155 rfl (by decide) (bt_0 z σ2) (fun w3 σ4 hq5 => ?_)
  obtain ⟨rfl, hF6⟩ := hq5
  have hF7 := sg_F_t hF1 (sg_F_m (L := [45, 47]) hF6 rfl)
  refine wk_b tt_127 4 (pc' := 21) (ls' := [(0, .inr (.inr (.ref 45)))]) (st' := [.inl ((-1)), .inl (12), .inr (.inr (.ref 47))]) (σ' := σ4) rfl ?_
  refine wk_callp tt_127 rfl rfl rfl rfl rfl tt_21 rfl (by decide) (pt_i z σ4 47 13 (12) ((-1)) rfl (by decide)) ?_
  have hF11 : sg_F [45, 47] σ (sx_put σ4 47 13 (sg_n (12)) ((-1))) := sg_F_p hF7 rfl _ _ _
  generalize (sx_put σ4 47 13 (sg_n (12)) ((-1))) = σ12 at hF11 ⊢
  refine wk_b tt_127 5 (pc' := 34) (ls' := [(0, .inr (.inr (.ref 45)))]) (st' := [.inl (12), .inr (.inr (.ref 31)), .inr (.inr (.ref 45))]) (σ' := σ12) rfl ?_
  refine wk_callp tt_127 rfl rfl rfl rfl rfl tt_5 rfl (by decide) (at_i z σ12 31 13 (12) rfl (by decide)) ?_
  generalize sx_at σ12 31 13 (sg_n (12)) = q16
  refine wk_b tt_127 1 (pc' := 40) (ls' := [(0, .inr (.inr (.ref 45)))]) (st' := []) (σ' := (sg_w σ12 45 8 (q16))) rfl ?_
  have hF17 : sg_F [45, 47] σ (sg_w σ12 45 8 (q16)) := (sg_F_w hF11 rfl _)
  generalize (sg_w σ12 45 8 (q16)) = σ18 at hF17 ⊢
  exact wk_rV tt_127 rfl rfl ⟨rfl, hF17⟩
-- NestedVectors$Image.clear x.nestedRun.image
set_option maxRecDepth 8000 in
theorem bt_2 (z : Value) (σ : sg_S) : wx z 0 92 0 [(0, .inr (.inr (.ref 49)))] [] σ (fun v σ' => v = none ∧ sg_F [49] σ σ') := by
  have hF0 := sg_F_r [49] σ
  refine wk_b tt_92 6 (pc' := 10) (ls' := [(0, .inr (.inr (.ref 49)))]) (st' := []) (σ' := (sg_w (sg_w σ 49 2 (0)) 49 5 (0))) rfl ?_
  have hF1 : sg_F [49] σ (sg_w (sg_w σ 49 2 (0)) 49 5 (0)) := (sg_F_w (sg_F_w hF0 rfl _) rfl _)
  generalize (sg_w (sg_w σ 49 2 (0)) 49 5 (0)) = σ2 at hF1 ⊢
  exact wk_rV tt_92 rfl rfl ⟨rfl, hF1⟩
-- NestedVectors$Machine.pop x.nestedRun
set_option maxRecDepth 8000 in
theorem bt_3 (z : Value) (σ : sg_S) : wx z 1 124 0 [(0, .inr (.inr (.ref 45)))] [] σ (fun v σ' => (∃ q, v = some (.inl q)) ∧ sg_F [45] σ σ') := by
  have hF0 := sg_F_r [45] σ
  refine wk_b tt_124 10 (pc' := 18) (ls' := [(0, .inr (.inr (.ref 45)))]) (st' := [.inl ((sg_g (sg_w σ 45 7 (((sg_g σ 45 7) - 1))) 45 7)), .inr (.inr (.ref 48))]) (σ' := (sg_w σ 45 7 (((sg_g σ 45 7) - 1)))) rfl ?_
  have hF1 : sg_F [45] σ (sg_w σ 45 7 (((sg_g σ 45 7) - 1))) := (sg_F_w hF0 rfl _)
  generalize (sg_w σ 45 7 (((sg_g σ 45 7) - 1))) = σ2 at hF1 ⊢
  refine wk_callp tt_124 rfl rfl rfl rfl rfl tt_5 rfl (by decide) (at_i z σ2 48 3200 ((sg_g σ2 45 7)) rfl (by decide)) ?_
  generalize sx_at σ2 48 3200 (sg_n ((sg_g σ2 45 7))) = q6
  exact wk_rI tt_124 rfl rfl ⟨⟨_, rfl⟩, hF1⟩
-- NestedVectors$NestedRun.lengthOf x.nestedRun a1
set_option maxRecDepth 8000 in
theorem bt_4 (z : Value) (σ : sg_S) (a1 : Int) : wx z 1 149 0 [(0, .inr (.inr (.ref 45))), (1, .inl (a1))] [] σ (fun v σ' => (∃ q, v = some (.inl q)) ∧ sg_F [] σ σ') := by
  have hF0 := sg_F_r [] σ
  refine wk_b tt_149 3 (pc' := 5) (ls' := [(0, .inr (.inr (.ref 45))), (1, .inl (a1))]) (st' := [.inl (a1), .inr (.inr (.ref 53))]) (σ' := σ) rfl ?_
  refine wk_callp tt_149 rfl rfl rfl rfl rfl tt_5 rfl (by decide) (at_i z σ 53 9003 (a1) rfl (by decide)) ?_
  generalize sx_at σ 53 9003 (sg_n (a1)) = q4
  exact wk_rI tt_149 rfl rfl ⟨⟨_, rfl⟩, hF0⟩
-- NestedVectors$Image.add x.nestedRun.image a1
set_option maxRecDepth 8000 in
theorem bt_5 (z : Value) (σ : sg_S) (a1 : Int) : wx z 1 91 0 [(0, .inr (.inr (.ref 49))), (1, .inl (a1))] [] σ (fun v σ' => v = none ∧ sg_F [49, 52] σ σ') := by
  have hF0 := sg_F_r [49, 52] σ
  refine wk_b tt_91 5 (pc' := 9) (ls' := [(0, .inr (.inr (.ref 49))), (1, .inl (a1))]) (st' := [.inl (a1), .inl ((sg_g σ 49 2)), .inr (.inr (.ref 52))]) (σ' := σ) rfl ?_
  refine wk_callp tt_91 rfl rfl rfl rfl rfl tt_21 rfl (by decide) (pt_i z σ 52 3001 ((sg_g σ 49 2)) (a1) rfl (by decide)) ?_
  have hF4 : sg_F [49, 52] σ (sx_put σ 52 3001 (sg_n ((sg_g σ 49 2))) (a1)) := sg_F_p hF0 rfl _ _ _
  generalize (sx_put σ 52 3001 (sg_n ((sg_g σ 49 2))) (a1)) = σ5 at hF4 ⊢
  refine wk_b tt_91 6 (pc' := 22) (ls' := [(0, .inr (.inr (.ref 49))), (1, .inl (a1))]) (st' := []) (σ' := (sg_w σ5 49 2 (((sg_g σ5 49 2) + 1)))) rfl ?_
  have hF6 : sg_F [49, 52] σ (sg_w σ5 49 2 (((sg_g σ5 49 2) + 1))) := (sg_F_w hF4 rfl _)
  generalize (sg_w σ5 49 2 (((sg_g σ5 49 2) + 1))) = σ7 at hF6 ⊢
  exact wk_rV tt_91 rfl rfl ⟨rfl, hF6⟩
-- NestedVectors$NestedRun.itemOf x.nestedRun a1 a2
set_option maxRecDepth 8000 in
theorem bt_6 (z : Value) (σ : sg_S) (a1 : Int) (a2 : Int) : wx z 1 145 0 [(0, .inr (.inr (.ref 45))), (1, .inl (a1)), (2, .inl (a2))] [] σ (fun v σ' => (∃ q, v = some (.inl q)) ∧ sg_F [] σ σ') := by
  have hF0 := sg_F_r [] σ
  refine wk_b tt_145 7 (pc' := 9) (ls' := [(0, .inr (.inr (.ref 45))), (1, .inl (a1)), (2, .inl (a2))]) (st' := [.inl (((a1 + 2) + a2)), .inr (.inr (.ref 53))]) (σ' := σ) rfl ?_
  refine wk_callp tt_145 rfl rfl rfl rfl rfl tt_5 rfl (by decide) (at_i z σ 53 9003 (((a1 + 2) + a2)) rfl (by decide)) ?_
  generalize sx_at σ 53 9003 (sg_n (((a1 + 2) + a2))) = q4
  exact wk_rI tt_145 rfl rfl ⟨⟨_, rfl⟩, hF0⟩
-- NestedVectors$NestedRun.drawItem x.nestedRun a1 a2
set_option maxRecDepth 8000 in
theorem bt_7 (z : Value) (σ : sg_S) (a1 : Int) (a2 : Int) (hp : sg_n a2 ≤ 0) : wx z 2 140 0 [(0, .inr (.inr (.ref 45))), (1, .inl (a1)), (2, .inl (a2))] [] σ (fun v σ' => v = none ∧ sg_F [49, 52] σ σ') := by
  have hF0 := sg_F_r [49, 52] σ
  refine wk_b tt_140 1 (pc' := 1) (ls' := [(0, .inr (.inr (.ref 45))), (1, .inl (a1)), (2, .inl (a2))]) (st' := [.inl (a2)]) (σ' := σ) rfl ?_
  refine wk_ifn tt_140 (tgt := 13) rfl rfl (fun h1 => ?_) (fun h1 => ?_)
  ·
    simp only [sg_c, sg_nc] at h1
    refine wk_b tt_140 4 (pc' := 19) (ls' := [(0, .inr (.inr (.ref 45))), (1, .inl (a1)), (2, .inl (a2))]) (st' := [.inl (a1), .inr (.inr (.ref 45)), .inr (.inr (.ref 49))]) (σ' := σ) rfl ?_
    refine wk_call tt_140 rfl rfl rfl rfl rfl tt_149 rfl (by decide) (bt_4 z σ (a1)) (fun w2 σ3 hq4 => ?_)
    obtain ⟨⟨q6, rfl⟩, hF5⟩ := hq4
    have hF7 := sg_F_t hF0 (sg_F_m (L := [49, 52]) hF5 rfl)
    refine wk_call tt_140 rfl rfl rfl rfl rfl tt_91 rfl (by decide) (bt_5 z σ3 (q6)) (fun w8 σ9 hq10 => ?_)
    obtain ⟨rfl, hF11⟩ := hq10
    have hF12 := sg_F_t hF7 (sg_F_m (L := [49, 52]) hF11 rfl)
    refine wk_b tt_140 2 (pc' := 27) (ls' := [(3, .inl (0)), (0, .inr (.inr (.ref 45))), (1, .inl (a1)), (2, .inl (a2))]) (st' := []) (σ' := σ9) rfl ?_
    have ex16 : ∀ (σ14 : sg_S), sg_F [49, 52] σ σ14 → wx z 2 140 62 [] [] σ14 (fun v σ' => v = none ∧ sg_F [49, 52] σ σ') := by
      intro σ14 hF15
      exact wk_rV tt_140 rfl rfl ⟨rfl, hF15⟩
    have lp19 : ∀ (m18 : Nat) (σ14 : sg_S) (v13 : Int), sg_F [49, 52] σ σ14 → (sg_R v13) → (2147483647 - v13).toNat = m18 → wx z 2 140 27 [(0, .inr (.inr (.ref 45))), (1, .inl (a1)), (2, .inl (a2)), (3, .inl (v13))] [] σ14 (fun v σ' => v = none ∧ sg_F [49, 52] σ σ') := by
      intro m18
      induction m18 using Nat.strongRecOn with
      | _ m18 ih17 =>
        intro σ14 v13 hF15 hR20 hm21
        have hR20_i := sg_id (z := v13) (by omega)
        refine wk_b tt_140 3 (pc' := 30) (ls' := [(0, .inr (.inr (.ref 45))), (1, .inl (a1)), (2, .inl (a2)), (3, .inl (v13))]) (st' := [.inl (a1), .inr (.inr (.ref 45)), .inl (v13)]) (σ' := σ14) rfl ?_
        refine wk_call tt_140 rfl rfl rfl rfl rfl tt_149 rfl (by decide) (bt_4 z σ14 (a1)) (fun w22 σ23 hq24 => ?_)
        obtain ⟨⟨q26, rfl⟩, hF25⟩ := hq24
        have hF27 := sg_F_t hF15 (sg_F_m (L := [49, 52]) hF25 rfl)
        refine wk_if2n tt_140 (tgt := 62) rfl rfl (fun h28 => ?_) (fun h28 => ?_)
        ·
          have h28_r := sg_Rn (q26)
          have h28_q := sg_Rn (v13)
          simp only [sg_c, sg_nc] at h28
          exact wk_ls [] rfl trivial (ex16 σ23 hF27)
        ·
          have h28_r := sg_Rn (q26)
          have h28_q := sg_Rn (v13)
          simp only [sg_c, sg_nc] at h28
          refine wk_b tt_140 2 (pc' := 40) (ls' := [(0, .inr (.inr (.ref 45))), (1, .inl (a1)), (2, .inl (a2)), (3, .inl (v13))]) (st' := [.inl (200), .inl (v13)]) (σ' := σ23) rfl ?_
          refine wk_if2n tt_140 (tgt := 62) rfl rfl (fun h29 => ?_) (fun h29 => ?_)
          ·
            have h29_r := sg_Rn (200)
            have h29_q := sg_Rn (v13)
            have h29_l := sg_id (z := 200) (by decide)
            simp only [sg_c, sg_nc] at h29
            exact wk_ls [] rfl trivial (ex16 σ23 hF27)
          ·
            have h29_r := sg_Rn (200)
            have h29_q := sg_Rn (v13)
            have h29_l := sg_id (z := 200) (by decide)
            simp only [sg_c, sg_nc] at h29
            refine wk_b tt_140 4 (pc' := 47) (ls' := [(0, .inr (.inr (.ref 45))), (1, .inl (a1)), (2, .inl (a2)), (3, .inl (v13))]) (st' := [.inl (v13), .inl (a1), .inr (.inr (.ref 45)), .inr (.inr (.ref 45))]) (σ' := σ23) rfl ?_
            refine wk_call tt_140 rfl rfl rfl rfl rfl tt_145 rfl (by decide) (bt_6 z σ23 (a1) (v13)) (fun w30 σ31 hq32 => ?_)
            obtain ⟨⟨q34, rfl⟩, hF33⟩ := hq32
            have hF35 := sg_F_t hF27 (sg_F_m (L := [49, 52]) hF33 rfl)
            refine wk_b tt_140 3 (pc' := 53) (ls' := [(0, .inr (.inr (.ref 45))), (1, .inl (a1)), (2, .inl (a2)), (3, .inl (v13))]) (st' := [.inl ((a2 - 1)), .inl (q34), .inr (.inr (.ref 45))]) (σ' := σ31) rfl ?_
            exfalso; omega
    refine wk_ls [(0, .inr (.inr (.ref 45))), (1, .inl (a1)), (2, .inl (a2)), (3, .inl (0))] rfl ⟨rfl, rfl, rfl, rfl, trivial⟩ ?_
    exact lp19 _ σ9 (0) hF12 (by omega) rfl
  ·
    simp only [sg_c, sg_nc] at h1
    refine wk_b tt_140 3 (pc' := 9) (ls' := [(0, .inr (.inr (.ref 45))), (1, .inl (a1)), (2, .inl (a2))]) (st' := [.inl (a1), .inr (.inr (.ref 49))]) (σ' := σ) rfl ?_
    refine wk_call tt_140 rfl rfl rfl rfl rfl tt_91 rfl (by decide) (bt_5 z σ (a1)) (fun w36 σ37 hq38 => ?_)
    obtain ⟨rfl, hF39⟩ := hq38
    have hF40 := sg_F_t hF0 (sg_F_m (L := [49, 52]) hF39 rfl)
    exact wk_rV tt_140 rfl rfl ⟨rfl, hF40⟩
-- NestedVectors$NestedRun.drawItem x.nestedRun a1 a2
set_option maxRecDepth 8000 in
theorem bt_8 (z : Value) (σ : sg_S) (a1 : Int) (a2 : Int) (hp : sg_n a2 ≤ 1) : wx z 3 140 0 [(0, .inr (.inr (.ref 45))), (1, .inl (a1)), (2, .inl (a2))] [] σ (fun v σ' => v = none ∧ sg_F [49, 52] σ σ') := by
  have hF0 := sg_F_r [49, 52] σ
  refine wk_b tt_140 1 (pc' := 1) (ls' := [(0, .inr (.inr (.ref 45))), (1, .inl (a1)), (2, .inl (a2))]) (st' := [.inl (a2)]) (σ' := σ) rfl ?_
  refine wk_ifn tt_140 (tgt := 13) rfl rfl (fun h1 => ?_) (fun h1 => ?_)
  ·
    simp only [sg_c, sg_nc] at h1
    refine wk_b tt_140 4 (pc' := 19) (ls' := [(0, .inr (.inr (.ref 45))), (1, .inl (a1)), (2, .inl (a2))]) (st' := [.inl (a1), .inr (.inr (.ref 45)), .inr (.inr (.ref 49))]) (σ' := σ) rfl ?_
    refine wk_call tt_140 rfl rfl rfl rfl rfl tt_149 rfl (by decide) (bt_4 z σ (a1)) (fun w2 σ3 hq4 => ?_)
    obtain ⟨⟨q6, rfl⟩, hF5⟩ := hq4
    have hF7 := sg_F_t hF0 (sg_F_m (L := [49, 52]) hF5 rfl)
    refine wk_call tt_140 rfl rfl rfl rfl rfl tt_91 rfl (by decide) (bt_5 z σ3 (q6)) (fun w8 σ9 hq10 => ?_)
    obtain ⟨rfl, hF11⟩ := hq10
    have hF12 := sg_F_t hF7 (sg_F_m (L := [49, 52]) hF11 rfl)
    refine wk_b tt_140 2 (pc' := 27) (ls' := [(3, .inl (0)), (0, .inr (.inr (.ref 45))), (1, .inl (a1)), (2, .inl (a2))]) (st' := []) (σ' := σ9) rfl ?_
    have ex16 : ∀ (σ14 : sg_S), sg_F [49, 52] σ σ14 → wx z 3 140 62 [] [] σ14 (fun v σ' => v = none ∧ sg_F [49, 52] σ σ') := by
      intro σ14 hF15
      exact wk_rV tt_140 rfl rfl ⟨rfl, hF15⟩
    have lp19 : ∀ (m18 : Nat) (σ14 : sg_S) (v13 : Int), sg_F [49, 52] σ σ14 → (sg_R v13) → (2147483647 - v13).toNat = m18 → wx z 3 140 27 [(0, .inr (.inr (.ref 45))), (1, .inl (a1)), (2, .inl (a2)), (3, .inl (v13))] [] σ14 (fun v σ' => v = none ∧ sg_F [49, 52] σ σ') := by
      intro m18
      induction m18 using Nat.strongRecOn with
      | _ m18 ih17 =>
        intro σ14 v13 hF15 hR20 hm21
        have hR20_i := sg_id (z := v13) (by omega)
        refine wk_b tt_140 3 (pc' := 30) (ls' := [(0, .inr (.inr (.ref 45))), (1, .inl (a1)), (2, .inl (a2)), (3, .inl (v13))]) (st' := [.inl (a1), .inr (.inr (.ref 45)), .inl (v13)]) (σ' := σ14) rfl ?_
        refine wk_call tt_140 rfl rfl rfl rfl rfl tt_149 rfl (by decide) (bt_4 z σ14 (a1)) (fun w22 σ23 hq24 => ?_)
        obtain ⟨⟨q26, rfl⟩, hF25⟩ := hq24
        have hF27 := sg_F_t hF15 (sg_F_m (L := [49, 52]) hF25 rfl)
        refine wk_if2n tt_140 (tgt := 62) rfl rfl (fun h28 => ?_) (fun h28 => ?_)
        ·
          have h28_r := sg_Rn (q26)
          have h28_q := sg_Rn (v13)
          simp only [sg_c, sg_nc] at h28
          exact wk_ls [] rfl trivial (ex16 σ23 hF27)
        ·
          have h28_r := sg_Rn (q26)
          have h28_q := sg_Rn (v13)
          simp only [sg_c, sg_nc] at h28
          refine wk_b tt_140 2 (pc' := 40) (ls' := [(0, .inr (.inr (.ref 45))), (1, .inl (a1)), (2, .inl (a2)), (3, .inl (v13))]) (st' := [.inl (200), .inl (v13)]) (σ' := σ23) rfl ?_
          refine wk_if2n tt_140 (tgt := 62) rfl rfl (fun h29 => ?_) (fun h29 => ?_)
          ·
            have h29_r := sg_Rn (200)
            have h29_q := sg_Rn (v13)
            have h29_l := sg_id (z := 200) (by decide)
            simp only [sg_c, sg_nc] at h29
            exact wk_ls [] rfl trivial (ex16 σ23 hF27)
          ·
            have h29_r := sg_Rn (200)
            have h29_q := sg_Rn (v13)
            have h29_l := sg_id (z := 200) (by decide)
            simp only [sg_c, sg_nc] at h29
            refine wk_b tt_140 4 (pc' := 47) (ls' := [(0, .inr (.inr (.ref 45))), (1, .inl (a1)), (2, .inl (a2)), (3, .inl (v13))]) (st' := [.inl (v13), .inl (a1), .inr (.inr (.ref 45)), .inr (.inr (.ref 45))]) (σ' := σ23) rfl ?_
            refine wk_call tt_140 rfl rfl rfl rfl rfl tt_145 rfl (by decide) (bt_6 z σ23 (a1) (v13)) (fun w30 σ31 hq32 => ?_)
            obtain ⟨⟨q34, rfl⟩, hF33⟩ := hq32
            have hF35 := sg_F_t hF27 (sg_F_m (L := [49, 52]) hF33 rfl)
            refine wk_b tt_140 3 (pc' := 53) (ls' := [(0, .inr (.inr (.ref 45))), (1, .inl (a1)), (2, .inl (a2)), (3, .inl (v13))]) (st' := [.inl ((a2 - 1)), .inl (q34), .inr (.inr (.ref 45))]) (σ' := σ31) rfl ?_
            refine wk_call tt_140 rfl rfl rfl rfl rfl tt_140 rfl (by decide) (bt_7 z σ31 (q34) ((a2 - 1)) (by have := sg_n_pred (x := a2) (by omega); omega)) (fun w36 σ37 hq38 => ?_)
            obtain ⟨rfl, hF39⟩ := hq38
            have hF40 := sg_F_t hF35 (sg_F_m (L := [49, 52]) hF39 rfl)
            refine wk_b tt_140 2 (pc' := 27) (ls' := [(3, .inl ((v13 + 1))), (0, .inr (.inr (.ref 45))), (1, .inl (a1)), (2, .inl (a2))]) (st' := []) (σ' := σ37) rfl ?_
            refine wk_ls [(0, .inr (.inr (.ref 45))), (1, .inl (a1)), (2, .inl (a2)), (3, .inl ((v13 + 1)))] rfl ⟨rfl, rfl, rfl, rfl, trivial⟩ (ih17 _ ?_ σ37 ((v13 + 1)) hF40 ?_ rfl)
            · omega
            · omega
    refine wk_ls [(0, .inr (.inr (.ref 45))), (1, .inl (a1)), (2, .inl (a2)), (3, .inl (0))] rfl ⟨rfl, rfl, rfl, rfl, trivial⟩ ?_
    exact lp19 _ σ9 (0) hF12 (by omega) rfl
  ·
    simp only [sg_c, sg_nc] at h1
    refine wk_b tt_140 3 (pc' := 9) (ls' := [(0, .inr (.inr (.ref 45))), (1, .inl (a1)), (2, .inl (a2))]) (st' := [.inl (a1), .inr (.inr (.ref 49))]) (σ' := σ) rfl ?_
    refine wk_call tt_140 rfl rfl rfl rfl rfl tt_91 rfl (by decide) (bt_5 z σ (a1)) (fun w41 σ42 hq43 => ?_)
    obtain ⟨rfl, hF44⟩ := hq43
    have hF45 := sg_F_t hF0 (sg_F_m (L := [49, 52]) hF44 rfl)
    exact wk_rV tt_140 rfl rfl ⟨rfl, hF45⟩
-- NestedVectors$NestedRun.drawItem x.nestedRun a1 a2
set_option maxRecDepth 8000 in
theorem bt_9 (z : Value) (σ : sg_S) (a1 : Int) (a2 : Int) (hp : sg_n a2 ≤ 2) : wx z 4 140 0 [(0, .inr (.inr (.ref 45))), (1, .inl (a1)), (2, .inl (a2))] [] σ (fun v σ' => v = none ∧ sg_F [49, 52] σ σ') := by
  have hF0 := sg_F_r [49, 52] σ
  refine wk_b tt_140 1 (pc' := 1) (ls' := [(0, .inr (.inr (.ref 45))), (1, .inl (a1)), (2, .inl (a2))]) (st' := [.inl (a2)]) (σ' := σ) rfl ?_
  refine wk_ifn tt_140 (tgt := 13) rfl rfl (fun h1 => ?_) (fun h1 => ?_)
  ·
    simp only [sg_c, sg_nc] at h1
    refine wk_b tt_140 4 (pc' := 19) (ls' := [(0, .inr (.inr (.ref 45))), (1, .inl (a1)), (2, .inl (a2))]) (st' := [.inl (a1), .inr (.inr (.ref 45)), .inr (.inr (.ref 49))]) (σ' := σ) rfl ?_
    refine wk_call tt_140 rfl rfl rfl rfl rfl tt_149 rfl (by decide) (bt_4 z σ (a1)) (fun w2 σ3 hq4 => ?_)
    obtain ⟨⟨q6, rfl⟩, hF5⟩ := hq4
    have hF7 := sg_F_t hF0 (sg_F_m (L := [49, 52]) hF5 rfl)
    refine wk_call tt_140 rfl rfl rfl rfl rfl tt_91 rfl (by decide) (bt_5 z σ3 (q6)) (fun w8 σ9 hq10 => ?_)
    obtain ⟨rfl, hF11⟩ := hq10
    have hF12 := sg_F_t hF7 (sg_F_m (L := [49, 52]) hF11 rfl)
    refine wk_b tt_140 2 (pc' := 27) (ls' := [(3, .inl (0)), (0, .inr (.inr (.ref 45))), (1, .inl (a1)), (2, .inl (a2))]) (st' := []) (σ' := σ9) rfl ?_
    have ex16 : ∀ (σ14 : sg_S), sg_F [49, 52] σ σ14 → wx z 4 140 62 [] [] σ14 (fun v σ' => v = none ∧ sg_F [49, 52] σ σ') := by
      intro σ14 hF15
      exact wk_rV tt_140 rfl rfl ⟨rfl, hF15⟩
    have lp19 : ∀ (m18 : Nat) (σ14 : sg_S) (v13 : Int), sg_F [49, 52] σ σ14 → (sg_R v13) → (2147483647 - v13).toNat = m18 → wx z 4 140 27 [(0, .inr (.inr (.ref 45))), (1, .inl (a1)), (2, .inl (a2)), (3, .inl (v13))] [] σ14 (fun v σ' => v = none ∧ sg_F [49, 52] σ σ') := by
      intro m18
      induction m18 using Nat.strongRecOn with
      | _ m18 ih17 =>
        intro σ14 v13 hF15 hR20 hm21
        have hR20_i := sg_id (z := v13) (by omega)
        refine wk_b tt_140 3 (pc' := 30) (ls' := [(0, .inr (.inr (.ref 45))), (1, .inl (a1)), (2, .inl (a2)), (3, .inl (v13))]) (st' := [.inl (a1), .inr (.inr (.ref 45)), .inl (v13)]) (σ' := σ14) rfl ?_
        refine wk_call tt_140 rfl rfl rfl rfl rfl tt_149 rfl (by decide) (bt_4 z σ14 (a1)) (fun w22 σ23 hq24 => ?_)
        obtain ⟨⟨q26, rfl⟩, hF25⟩ := hq24
        have hF27 := sg_F_t hF15 (sg_F_m (L := [49, 52]) hF25 rfl)
        refine wk_if2n tt_140 (tgt := 62) rfl rfl (fun h28 => ?_) (fun h28 => ?_)
        ·
          have h28_r := sg_Rn (q26)
          have h28_q := sg_Rn (v13)
          simp only [sg_c, sg_nc] at h28
          exact wk_ls [] rfl trivial (ex16 σ23 hF27)
        ·
          have h28_r := sg_Rn (q26)
          have h28_q := sg_Rn (v13)
          simp only [sg_c, sg_nc] at h28
          refine wk_b tt_140 2 (pc' := 40) (ls' := [(0, .inr (.inr (.ref 45))), (1, .inl (a1)), (2, .inl (a2)), (3, .inl (v13))]) (st' := [.inl (200), .inl (v13)]) (σ' := σ23) rfl ?_
          refine wk_if2n tt_140 (tgt := 62) rfl rfl (fun h29 => ?_) (fun h29 => ?_)
          ·
            have h29_r := sg_Rn (200)
            have h29_q := sg_Rn (v13)
            have h29_l := sg_id (z := 200) (by decide)
            simp only [sg_c, sg_nc] at h29
            exact wk_ls [] rfl trivial (ex16 σ23 hF27)
          ·
            have h29_r := sg_Rn (200)
            have h29_q := sg_Rn (v13)
            have h29_l := sg_id (z := 200) (by decide)
            simp only [sg_c, sg_nc] at h29
            refine wk_b tt_140 4 (pc' := 47) (ls' := [(0, .inr (.inr (.ref 45))), (1, .inl (a1)), (2, .inl (a2)), (3, .inl (v13))]) (st' := [.inl (v13), .inl (a1), .inr (.inr (.ref 45)), .inr (.inr (.ref 45))]) (σ' := σ23) rfl ?_
            refine wk_call tt_140 rfl rfl rfl rfl rfl tt_145 rfl (by decide) (bt_6 z σ23 (a1) (v13)) (fun w30 σ31 hq32 => ?_)
            obtain ⟨⟨q34, rfl⟩, hF33⟩ := hq32
            have hF35 := sg_F_t hF27 (sg_F_m (L := [49, 52]) hF33 rfl)
            refine wk_b tt_140 3 (pc' := 53) (ls' := [(0, .inr (.inr (.ref 45))), (1, .inl (a1)), (2, .inl (a2)), (3, .inl (v13))]) (st' := [.inl ((a2 - 1)), .inl (q34), .inr (.inr (.ref 45))]) (σ' := σ31) rfl ?_
            refine wk_call tt_140 rfl rfl rfl rfl rfl tt_140 rfl (by decide) (bt_8 z σ31 (q34) ((a2 - 1)) (by have := sg_n_pred (x := a2) (by omega); omega)) (fun w36 σ37 hq38 => ?_)
            obtain ⟨rfl, hF39⟩ := hq38
            have hF40 := sg_F_t hF35 (sg_F_m (L := [49, 52]) hF39 rfl)
            refine wk_b tt_140 2 (pc' := 27) (ls' := [(3, .inl ((v13 + 1))), (0, .inr (.inr (.ref 45))), (1, .inl (a1)), (2, .inl (a2))]) (st' := []) (σ' := σ37) rfl ?_
            refine wk_ls [(0, .inr (.inr (.ref 45))), (1, .inl (a1)), (2, .inl (a2)), (3, .inl ((v13 + 1)))] rfl ⟨rfl, rfl, rfl, rfl, trivial⟩ (ih17 _ ?_ σ37 ((v13 + 1)) hF40 ?_ rfl)
            · omega
            · omega
    refine wk_ls [(0, .inr (.inr (.ref 45))), (1, .inl (a1)), (2, .inl (a2)), (3, .inl (0))] rfl ⟨rfl, rfl, rfl, rfl, trivial⟩ ?_
    exact lp19 _ σ9 (0) hF12 (by omega) rfl
  ·
    simp only [sg_c, sg_nc] at h1
    refine wk_b tt_140 3 (pc' := 9) (ls' := [(0, .inr (.inr (.ref 45))), (1, .inl (a1)), (2, .inl (a2))]) (st' := [.inl (a1), .inr (.inr (.ref 49))]) (σ' := σ) rfl ?_
    refine wk_call tt_140 rfl rfl rfl rfl rfl tt_91 rfl (by decide) (bt_5 z σ (a1)) (fun w41 σ42 hq43 => ?_)
    obtain ⟨rfl, hF44⟩ := hq43
    have hF45 := sg_F_t hF0 (sg_F_m (L := [49, 52]) hF44 rfl)
    exact wk_rV tt_140 rfl rfl ⟨rfl, hF45⟩
-- NestedVectors$NestedRun.drawItem x.nestedRun a1 a2
set_option maxRecDepth 8000 in
theorem bt_10 (z : Value) (σ : sg_S) (a1 : Int) (a2 : Int) (hp : sg_n a2 ≤ 3) : wx z 5 140 0 [(0, .inr (.inr (.ref 45))), (1, .inl (a1)), (2, .inl (a2))] [] σ (fun v σ' => v = none ∧ sg_F [49, 52] σ σ') := by
  have hF0 := sg_F_r [49, 52] σ
  refine wk_b tt_140 1 (pc' := 1) (ls' := [(0, .inr (.inr (.ref 45))), (1, .inl (a1)), (2, .inl (a2))]) (st' := [.inl (a2)]) (σ' := σ) rfl ?_
  refine wk_ifn tt_140 (tgt := 13) rfl rfl (fun h1 => ?_) (fun h1 => ?_)
  ·
    simp only [sg_c, sg_nc] at h1
    refine wk_b tt_140 4 (pc' := 19) (ls' := [(0, .inr (.inr (.ref 45))), (1, .inl (a1)), (2, .inl (a2))]) (st' := [.inl (a1), .inr (.inr (.ref 45)), .inr (.inr (.ref 49))]) (σ' := σ) rfl ?_
    refine wk_call tt_140 rfl rfl rfl rfl rfl tt_149 rfl (by decide) (bt_4 z σ (a1)) (fun w2 σ3 hq4 => ?_)
    obtain ⟨⟨q6, rfl⟩, hF5⟩ := hq4
    have hF7 := sg_F_t hF0 (sg_F_m (L := [49, 52]) hF5 rfl)
    refine wk_call tt_140 rfl rfl rfl rfl rfl tt_91 rfl (by decide) (bt_5 z σ3 (q6)) (fun w8 σ9 hq10 => ?_)
    obtain ⟨rfl, hF11⟩ := hq10
    have hF12 := sg_F_t hF7 (sg_F_m (L := [49, 52]) hF11 rfl)
    refine wk_b tt_140 2 (pc' := 27) (ls' := [(3, .inl (0)), (0, .inr (.inr (.ref 45))), (1, .inl (a1)), (2, .inl (a2))]) (st' := []) (σ' := σ9) rfl ?_
    have ex16 : ∀ (σ14 : sg_S), sg_F [49, 52] σ σ14 → wx z 5 140 62 [] [] σ14 (fun v σ' => v = none ∧ sg_F [49, 52] σ σ') := by
      intro σ14 hF15
      exact wk_rV tt_140 rfl rfl ⟨rfl, hF15⟩
    have lp19 : ∀ (m18 : Nat) (σ14 : sg_S) (v13 : Int), sg_F [49, 52] σ σ14 → (sg_R v13) → (2147483647 - v13).toNat = m18 → wx z 5 140 27 [(0, .inr (.inr (.ref 45))), (1, .inl (a1)), (2, .inl (a2)), (3, .inl (v13))] [] σ14 (fun v σ' => v = none ∧ sg_F [49, 52] σ σ') := by
      intro m18
      induction m18 using Nat.strongRecOn with
      | _ m18 ih17 =>
        intro σ14 v13 hF15 hR20 hm21
        have hR20_i := sg_id (z := v13) (by omega)
        refine wk_b tt_140 3 (pc' := 30) (ls' := [(0, .inr (.inr (.ref 45))), (1, .inl (a1)), (2, .inl (a2)), (3, .inl (v13))]) (st' := [.inl (a1), .inr (.inr (.ref 45)), .inl (v13)]) (σ' := σ14) rfl ?_
        refine wk_call tt_140 rfl rfl rfl rfl rfl tt_149 rfl (by decide) (bt_4 z σ14 (a1)) (fun w22 σ23 hq24 => ?_)
        obtain ⟨⟨q26, rfl⟩, hF25⟩ := hq24
        have hF27 := sg_F_t hF15 (sg_F_m (L := [49, 52]) hF25 rfl)
        refine wk_if2n tt_140 (tgt := 62) rfl rfl (fun h28 => ?_) (fun h28 => ?_)
        ·
          have h28_r := sg_Rn (q26)
          have h28_q := sg_Rn (v13)
          simp only [sg_c, sg_nc] at h28
          exact wk_ls [] rfl trivial (ex16 σ23 hF27)
        ·
          have h28_r := sg_Rn (q26)
          have h28_q := sg_Rn (v13)
          simp only [sg_c, sg_nc] at h28
          refine wk_b tt_140 2 (pc' := 40) (ls' := [(0, .inr (.inr (.ref 45))), (1, .inl (a1)), (2, .inl (a2)), (3, .inl (v13))]) (st' := [.inl (200), .inl (v13)]) (σ' := σ23) rfl ?_
          refine wk_if2n tt_140 (tgt := 62) rfl rfl (fun h29 => ?_) (fun h29 => ?_)
          ·
            have h29_r := sg_Rn (200)
            have h29_q := sg_Rn (v13)
            have h29_l := sg_id (z := 200) (by decide)
            simp only [sg_c, sg_nc] at h29
            exact wk_ls [] rfl trivial (ex16 σ23 hF27)
          ·
            have h29_r := sg_Rn (200)
            have h29_q := sg_Rn (v13)
            have h29_l := sg_id (z := 200) (by decide)
            simp only [sg_c, sg_nc] at h29
            refine wk_b tt_140 4 (pc' := 47) (ls' := [(0, .inr (.inr (.ref 45))), (1, .inl (a1)), (2, .inl (a2)), (3, .inl (v13))]) (st' := [.inl (v13), .inl (a1), .inr (.inr (.ref 45)), .inr (.inr (.ref 45))]) (σ' := σ23) rfl ?_
            refine wk_call tt_140 rfl rfl rfl rfl rfl tt_145 rfl (by decide) (bt_6 z σ23 (a1) (v13)) (fun w30 σ31 hq32 => ?_)
            obtain ⟨⟨q34, rfl⟩, hF33⟩ := hq32
            have hF35 := sg_F_t hF27 (sg_F_m (L := [49, 52]) hF33 rfl)
            refine wk_b tt_140 3 (pc' := 53) (ls' := [(0, .inr (.inr (.ref 45))), (1, .inl (a1)), (2, .inl (a2)), (3, .inl (v13))]) (st' := [.inl ((a2 - 1)), .inl (q34), .inr (.inr (.ref 45))]) (σ' := σ31) rfl ?_
            refine wk_call tt_140 rfl rfl rfl rfl rfl tt_140 rfl (by decide) (bt_9 z σ31 (q34) ((a2 - 1)) (by have := sg_n_pred (x := a2) (by omega); omega)) (fun w36 σ37 hq38 => ?_)
            obtain ⟨rfl, hF39⟩ := hq38
            have hF40 := sg_F_t hF35 (sg_F_m (L := [49, 52]) hF39 rfl)
            refine wk_b tt_140 2 (pc' := 27) (ls' := [(3, .inl ((v13 + 1))), (0, .inr (.inr (.ref 45))), (1, .inl (a1)), (2, .inl (a2))]) (st' := []) (σ' := σ37) rfl ?_
            refine wk_ls [(0, .inr (.inr (.ref 45))), (1, .inl (a1)), (2, .inl (a2)), (3, .inl ((v13 + 1)))] rfl ⟨rfl, rfl, rfl, rfl, trivial⟩ (ih17 _ ?_ σ37 ((v13 + 1)) hF40 ?_ rfl)
            · omega
            · omega
    refine wk_ls [(0, .inr (.inr (.ref 45))), (1, .inl (a1)), (2, .inl (a2)), (3, .inl (0))] rfl ⟨rfl, rfl, rfl, rfl, trivial⟩ ?_
    exact lp19 _ σ9 (0) hF12 (by omega) rfl
  ·
    simp only [sg_c, sg_nc] at h1
    refine wk_b tt_140 3 (pc' := 9) (ls' := [(0, .inr (.inr (.ref 45))), (1, .inl (a1)), (2, .inl (a2))]) (st' := [.inl (a1), .inr (.inr (.ref 49))]) (σ' := σ) rfl ?_
    refine wk_call tt_140 rfl rfl rfl rfl rfl tt_91 rfl (by decide) (bt_5 z σ (a1)) (fun w41 σ42 hq43 => ?_)
    obtain ⟨rfl, hF44⟩ := hq43
    have hF45 := sg_F_t hF0 (sg_F_m (L := [49, 52]) hF44 rfl)
    exact wk_rV tt_140 rfl rfl ⟨rfl, hF45⟩
-- NestedVectors$NestedRun.draw x.nestedRun a1 a2
set_option maxRecDepth 8000 in
theorem bt_11 (z : Value) (σ : sg_S) (a1 : Int) (a2 : Int) (hp : sg_n a2 ≤ 3) : wx z 6 139 0 [(0, .inr (.inr (.ref 45))), (1, .inl (a1)), (2, .inl (a2))] [] σ (fun v σ' => v = none ∧ sg_F [49, 52] σ σ') := by
  have hF0 := sg_F_r [49, 52] σ
  refine wk_b tt_139 3 (pc' := 3) (ls' := [(0, .inr (.inr (.ref 45))), (1, .inl (a1)), (2, .inl (a2))]) (st' := [.inl (a2), .inl (a1), .inr (.inr (.ref 45))]) (σ' := σ) rfl ?_
  refine wk_call tt_139 rfl rfl rfl rfl rfl tt_140 rfl (by decide) (bt_10 z σ (a1) (a2) hp) (fun w1 σ2 hq3 => ?_)
  obtain ⟨rfl, hF4⟩ := hq3
  have hF5 := sg_F_t hF0 (sg_F_m (L := [49, 52]) hF4 rfl)
  exact wk_rV tt_139 rfl rfl ⟨rfl, hF5⟩
-- NestedVectors$Image.letter x.nestedRun.image a1
set_option maxRecDepth 8000 in
theorem bt_12 (z : Value) (σ : sg_S) (a1 : Int) : wx z 0 93 0 [(0, .inr (.inr (.ref 49))), (1, .inl (a1))] [] σ (fun v σ' => v = none ∧ sg_F [49, 51] σ σ') := by
  have hF0 := sg_F_r [49, 51] σ
  refine wk_b tt_93 2 (pc' := 4) (ls' := [(0, .inr (.inr (.ref 49))), (1, .inl (a1))]) (st' := [.inl ((sg_g σ 49 5))]) (σ' := σ) rfl ?_
  refine wk_ifn tt_93 (tgt := 30) rfl rfl (fun h1 => ?_) (fun h1 => ?_)
  ·
    simp only [sg_c, sg_nc] at h1
    refine wk_b tt_93 6 (pc' := 40) (ls' := [(0, .inr (.inr (.ref 49))), (1, .inl (a1))]) (st' := []) (σ' := (sg_w σ 49 5 (((sg_g σ 49 5) + 1)))) rfl ?_
    have hF2 : sg_F [49, 51] σ (sg_w σ 49 5 (((sg_g σ 49 5) + 1))) := (sg_F_w hF0 rfl _)
    generalize (sg_w σ 49 5 (((sg_g σ 49 5) + 1))) = σ3 at hF2 ⊢
    exact wk_rV tt_93 rfl rfl ⟨rfl, hF2⟩
  ·
    simp only [sg_c, sg_nc] at h1
    refine wk_b tt_93 5 (pc' := 16) (ls' := [(0, .inr (.inr (.ref 49))), (1, .inl (a1))]) (st' := [.inl (2000), .inl ((sg_g σ 49 5))]) (σ' := σ) rfl ?_
    refine wk_if2n tt_93 (tgt := 30) rfl rfl (fun h4 => ?_) (fun h4 => ?_)
    ·
      have h4_r := sg_Rn (2000)
      have h4_q := sg_Rn ((sg_g σ 49 5))
      have h4_l := sg_id (z := 2000) (by decide)
      simp only [sg_c, sg_nc] at h4
      refine wk_b tt_93 6 (pc' := 40) (ls' := [(0, .inr (.inr (.ref 49))), (1, .inl (a1))]) (st' := []) (σ' := (sg_w σ 49 5 (((sg_g σ 49 5) + 1)))) rfl ?_
      have hF5 : sg_F [49, 51] σ (sg_w σ 49 5 (((sg_g σ 49 5) + 1))) := (sg_F_w hF0 rfl _)
      generalize (sg_w σ 49 5 (((sg_g σ 49 5) + 1))) = σ6 at hF5 ⊢
      exact wk_rV tt_93 rfl rfl ⟨rfl, hF5⟩
    ·
      have h4_r := sg_Rn (2000)
      have h4_q := sg_Rn ((sg_g σ 49 5))
      have h4_l := sg_id (z := 2000) (by decide)
      simp only [sg_c, sg_nc] at h4
      refine wk_b tt_93 6 (pc' := 29) (ls' := [(0, .inr (.inr (.ref 49))), (1, .inl (a1))]) (st' := [.inl ((((sg_i (a1)).toInt8.toInt32).toInt)), .inl ((sg_g σ 49 5)), .inr (.inr (.ref 51))]) (σ' := σ) rfl ?_
      refine wk_n2 ?_
      refine wk_bs (Or.inl rfl) tt_93 rfl rfl (by omega) (by omega) (by omega) ?_
      have hF7 : sg_F [49, 51] σ (sg_w σ 51 (sg_n ((sg_g σ 49 5))) ((am_nb 1 (sg_i ((((sg_i (a1)).toInt8.toInt32).toInt)))).toInt)) := (sg_F_w hF0 rfl _)
      generalize (sg_w σ 51 (sg_n ((sg_g σ 49 5))) ((am_nb 1 (sg_i ((((sg_i (a1)).toInt8.toInt32).toInt)))).toInt)) = σ8 at hF7 ⊢
      refine wk_b tt_93 6 (pc' := 40) (ls' := [(0, .inr (.inr (.ref 49))), (1, .inl (a1))]) (st' := []) (σ' := (sg_w σ8 49 5 (((sg_g σ8 49 5) + 1)))) rfl ?_
      have hF9 : sg_F [49, 51] σ (sg_w σ8 49 5 (((sg_g σ8 49 5) + 1))) := (sg_F_w hF7 rfl _)
      generalize (sg_w σ8 49 5 (((sg_g σ8 49 5) + 1))) = σ10 at hF9 ⊢
      exact wk_rV tt_93 rfl rfl ⟨rfl, hF9⟩
-- NestedVectors$Image.number x.nestedRun.image a1
set_option maxRecDepth 8000 in
theorem bt_13 (z : Value) (σ : sg_S) (a1 : Int) : wx z 1 94 0 [(0, .inr (.inr (.ref 49))), (1, .inl (a1))] [] σ (fun v σ' => v = none ∧ sg_F [49, 50, 51] σ σ') := by
  have hF0 := sg_F_r [49, 50, 51] σ
  refine wk_b tt_94 1 (pc' := 1) (ls' := [(0, .inr (.inr (.ref 49))), (1, .inl (a1))]) (st' := [.inl (a1)]) (σ' := σ) rfl ?_
  refine wk_ifb tt_94 (tgt := 10) rfl rfl ?_ ?_
  ·
    refine wk_b tt_94 2 (pc' := 12) (ls' := [(0, .inr (.inr (.ref 49))), (1, .inl (a1))]) (st' := [.inr (.inl ((sg_n (a1))))]) (σ' := σ) rfl ?_
    refine wk_absb tt_94 rfl rfl (fun q => ?_)
    revert q; intro q2
    refine wk_b tt_94 3 (pc' := 19) (ls' := [(4, .inl (0)), (2, .inr (.inl (q2))), (0, .inr (.inr (.ref 49))), (1, .inl (a1))]) (st' := []) (σ' := σ) rfl ?_
    have ex7 : ∀ (σ5 : sg_S) (v4 : Int), sg_F [49, 50, 51] σ σ5 → wx z 1 94 56 [(0, .inr (.inr (.ref 49))), (4, .inl (v4))] [] σ5 (fun v σ' => v = none ∧ sg_F [49, 50, 51] σ σ') := by
      intro σ5 v4 hF6
      refine wk_b tt_94 4 (pc' := 62) (ls' := [(5, .inl ((v4 - 1))), (0, .inr (.inr (.ref 49))), (4, .inl (v4))]) (st' := []) (σ' := σ5) rfl ?_
      have ex11 : ∀ (σ9 : sg_S), sg_F [49, 50, 51] σ σ9 → wx z 1 94 90 [] [] σ9 (fun v σ' => v = none ∧ sg_F [49, 50, 51] σ σ') := by
        intro σ9 hF10
        exact wk_rV tt_94 rfl rfl ⟨rfl, hF10⟩
      have lp14 : ∀ (m13 : Nat) (σ9 : sg_S) (v8 : Int), sg_F [49, 50, 51] σ σ9 → (sg_R v8) → (v8 + 2147483648).toNat = m13 → wx z 1 94 62 [(0, .inr (.inr (.ref 49))), (5, .inl (v8))] [] σ9 (fun v σ' => v = none ∧ sg_F [49, 50, 51] σ σ') := by
        intro m13
        induction m13 using Nat.strongRecOn with
        | _ m13 ih12 =>
          intro σ9 v8 hF10 hR15 hm16
          have hR15_i := sg_id (z := v8) (by omega)
          refine wk_b tt_94 1 (pc' := 64) (ls' := [(0, .inr (.inr (.ref 49))), (5, .inl (v8))]) (st' := [.inl (v8)]) (σ' := σ9) rfl ?_
          refine wk_ifn tt_94 (tgt := 90) rfl rfl (fun h17 => ?_) (fun h17 => ?_)
          ·
            simp only [sg_c, sg_nc] at h17
            exact wk_ls [] rfl trivial (ex11 σ9 hF10)
          ·
            simp only [sg_c, sg_nc] at h17
            refine wk_b tt_94 5 (pc' := 76) (ls' := [(0, .inr (.inr (.ref 49))), (5, .inl (v8))]) (st' := [.inl (v8), .inr (.inr (.ref 50)), .inl (48), .inr (.inr (.ref 49))]) (σ' := σ9) rfl ?_
            refine wk_callp tt_94 rfl rfl rfl rfl rfl tt_5 rfl (by decide) (at_i z σ9 50 10 (v8) rfl (by decide)) ?_
            generalize sx_at σ9 50 10 (sg_n (v8)) = q21
            refine wk_b tt_94 2 (pc' := 81) (ls' := [(0, .inr (.inr (.ref 49))), (5, .inl (v8))]) (st' := [.inl (((((sg_i ((48 + q21))).toUInt32 % 65536).toInt32).toInt)), .inr (.inr (.ref 49))]) (σ' := σ9) rfl ?_
            refine wk_call tt_94 rfl rfl rfl rfl rfl tt_93 rfl (by decide) (bt_12 z σ9 (((((sg_i ((48 + q21))).toUInt32 % 65536).toInt32).toInt))) (fun w22 σ23 hq24 => ?_)
            obtain ⟨rfl, hF25⟩ := hq24
            have hF26 := sg_F_t hF10 (sg_F_m (L := [49, 50, 51]) hF25 rfl)
            refine wk_b tt_94 2 (pc' := 62) (ls' := [(5, .inl ((v8 + (-1)))), (0, .inr (.inr (.ref 49)))]) (st' := []) (σ' := σ23) rfl ?_
            refine wk_ls [(0, .inr (.inr (.ref 49))), (5, .inl ((v8 + (-1))))] rfl ⟨rfl, rfl, trivial⟩ (ih12 _ ?_ σ23 ((v8 + (-1))) hF26 ?_ rfl)
            · omega
            · omega
      refine wk_ls [(0, .inr (.inr (.ref 49))), (5, .inl ((v4 - 1)))] rfl ⟨rfl, rfl, trivial⟩ ?_
      refine wk_eq (ls' := [(0, .inr (.inr (.ref 49))), (5, .inl (sg_n ((v4 - 1))))]) (by simp only [bm_ls, List.map_cons, bm_v, sg_in]) rfl ?_
      exact lp14 _ σ5 (sg_n ((v4 - 1))) hF6 (sg_Rn _) rfl
    have lp29 : ∀ (m28 : Nat) (σ5 : sg_S) (v3 : Int) (v4 : Int), sg_F [49, 50, 51] σ σ5 → (0 ≤ v4 ∧ v4 < 10) → (2147483647 - v4).toNat = m28 → wx z 1 94 19 [(0, .inr (.inr (.ref 49))), (2, .inr (.inl (v3))), (4, .inl (v4))] [] σ5 (fun v σ' => v = none ∧ sg_F [49, 50, 51] σ σ') := by
      intro m28
      induction m28 using Nat.strongRecOn with
      | _ m28 ih27 =>
        intro σ5 v3 v4 hF6 hR30 hm31
        have hR30_i := sg_id (z := v4) (by omega)
        refine wk_b tt_94 5 (pc' := 29) (ls' := [(0, .inr (.inr (.ref 49))), (2, .inr (.inl (v3))), (4, .inl (v4))]) (st' := [.inr (.inl (10)), .inr (.inl (v3)), .inl (v4), .inr (.inr (.ref 50))]) (σ' := σ5) rfl ?_
        refine wk_lrem tt_94 rfl (by decide) ?_
        generalize (sg_l (v3) - sg_l (v3) / sg_l (10) * sg_l (10)).toInt = q32
        refine wk_b tt_94 1 (pc' := 31) (ls' := [(0, .inr (.inr (.ref 49))), (2, .inr (.inl (v3))), (4, .inl (v4))]) (st' := [.inl (q32), .inl (v4), .inr (.inr (.ref 50))]) (σ' := σ5) rfl ?_
        refine wk_callp tt_94 rfl rfl rfl rfl rfl tt_21 rfl (by decide) (pt_i z σ5 50 10 (v4) (q32) rfl (by decide)) ?_
        have hF36 : sg_F [49, 50, 51] σ (sx_put σ5 50 10 (sg_n (v4)) (q32)) := sg_F_p hF6 rfl _ _ _
        generalize (sx_put σ5 50 10 (sg_n (v4)) (q32)) = σ37 at hF36 ⊢
        refine wk_b tt_94 2 (pc' := 38) (ls' := [(0, .inr (.inr (.ref 49))), (2, .inr (.inl (v3))), (4, .inl (v4))]) (st' := [.inr (.inl (10)), .inr (.inl (v3))]) (σ' := σ37) rfl ?_
        refine wk_ldiv tt_94 rfl (by decide) ?_
        generalize (sg_l (v3) / sg_l (10)).toInt = q38
        refine wk_b tt_94 5 (pc' := 46) (ls' := [(4, .inl ((v4 + 1))), (2, .inr (.inl (q38))), (0, .inr (.inr (.ref 49)))]) (st' := [.inl ((bm_lc (q38) (0)))]) (σ' := σ37) rfl ?_
        refine wk_ifb tt_94 (tgt := 56) rfl rfl ?_ ?_
        ·
          exact wk_ls [(0, .inr (.inr (.ref 49))), (4, .inl ((v4 + 1)))] rfl ⟨rfl, rfl, trivial⟩ (ex7 σ37 ((v4 + 1)) hF36)
        ·
          refine wk_b tt_94 2 (pc' := 53) (ls' := [(4, .inl ((v4 + 1))), (2, .inr (.inl (q38))), (0, .inr (.inr (.ref 49)))]) (st' := [.inl (10), .inl ((v4 + 1))]) (σ' := σ37) rfl ?_
          refine wk_if2n tt_94 (tgt := 19) rfl rfl (fun h40 => ?_) (fun h40 => ?_)
          ·
            have h40_r := sg_Rn (10)
            have h40_q := sg_Rn ((v4 + 1))
            have h40_l := sg_id (z := 10) (by decide)
            have h40_x := sg_id (z := (v4 + 1)) (by omega)
            simp only [sg_c, sg_nc] at h40
            refine wk_ls [(0, .inr (.inr (.ref 49))), (2, .inr (.inl (q38))), (4, .inl ((v4 + 1)))] rfl ⟨rfl, rfl, rfl, trivial⟩ (ih27 _ ?_ σ37 (q38) ((v4 + 1)) hF36 ?_ rfl)
            · omega
            · omega
          ·
            have h40_r := sg_Rn (10)
            have h40_q := sg_Rn ((v4 + 1))
            have h40_l := sg_id (z := 10) (by decide)
            have h40_x := sg_id (z := (v4 + 1)) (by omega)
            simp only [sg_c, sg_nc] at h40
            exact wk_ls [(0, .inr (.inr (.ref 49))), (4, .inl ((v4 + 1)))] rfl ⟨rfl, rfl, trivial⟩ (ex7 σ37 ((v4 + 1)) hF36)
    refine wk_ls [(0, .inr (.inr (.ref 49))), (2, .inr (.inl (q2))), (4, .inl (0))] rfl ⟨rfl, rfl, rfl, trivial⟩ ?_
    exact lp29 _ σ (q2) (0) hF0 (by omega) rfl
  ·
    refine wk_b tt_94 2 (pc' := 7) (ls' := [(0, .inr (.inr (.ref 49))), (1, .inl (a1))]) (st' := [.inl (45), .inr (.inr (.ref 49))]) (σ' := σ) rfl ?_
    refine wk_call tt_94 rfl rfl rfl rfl rfl tt_93 rfl (by decide) (bt_12 z σ (45)) (fun w41 σ42 hq43 => ?_)
    obtain ⟨rfl, hF44⟩ := hq43
    have hF45 := sg_F_t hF0 (sg_F_m (L := [49, 50, 51]) hF44 rfl)
    refine wk_b tt_94 2 (pc' := 12) (ls' := [(0, .inr (.inr (.ref 49))), (1, .inl (a1))]) (st' := [.inr (.inl ((sg_n (a1))))]) (σ' := σ42) rfl ?_
    refine wk_absb tt_94 rfl rfl (fun q => ?_)
    revert q; intro q46
    refine wk_b tt_94 3 (pc' := 19) (ls' := [(4, .inl (0)), (2, .inr (.inl (q46))), (0, .inr (.inr (.ref 49))), (1, .inl (a1))]) (st' := []) (σ' := σ42) rfl ?_
    have ex51 : ∀ (σ49 : sg_S) (v48 : Int), sg_F [49, 50, 51] σ σ49 → wx z 1 94 56 [(0, .inr (.inr (.ref 49))), (4, .inl (v48))] [] σ49 (fun v σ' => v = none ∧ sg_F [49, 50, 51] σ σ') := by
      intro σ49 v48 hF50
      refine wk_b tt_94 4 (pc' := 62) (ls' := [(5, .inl ((v48 - 1))), (0, .inr (.inr (.ref 49))), (4, .inl (v48))]) (st' := []) (σ' := σ49) rfl ?_
      have ex55 : ∀ (σ53 : sg_S), sg_F [49, 50, 51] σ σ53 → wx z 1 94 90 [] [] σ53 (fun v σ' => v = none ∧ sg_F [49, 50, 51] σ σ') := by
        intro σ53 hF54
        exact wk_rV tt_94 rfl rfl ⟨rfl, hF54⟩
      have lp58 : ∀ (m57 : Nat) (σ53 : sg_S) (v52 : Int), sg_F [49, 50, 51] σ σ53 → (sg_R v52) → (v52 + 2147483648).toNat = m57 → wx z 1 94 62 [(0, .inr (.inr (.ref 49))), (5, .inl (v52))] [] σ53 (fun v σ' => v = none ∧ sg_F [49, 50, 51] σ σ') := by
        intro m57
        induction m57 using Nat.strongRecOn with
        | _ m57 ih56 =>
          intro σ53 v52 hF54 hR59 hm60
          have hR59_i := sg_id (z := v52) (by omega)
          refine wk_b tt_94 1 (pc' := 64) (ls' := [(0, .inr (.inr (.ref 49))), (5, .inl (v52))]) (st' := [.inl (v52)]) (σ' := σ53) rfl ?_
          refine wk_ifn tt_94 (tgt := 90) rfl rfl (fun h61 => ?_) (fun h61 => ?_)
          ·
            simp only [sg_c, sg_nc] at h61
            exact wk_ls [] rfl trivial (ex55 σ53 hF54)
          ·
            simp only [sg_c, sg_nc] at h61
            refine wk_b tt_94 5 (pc' := 76) (ls' := [(0, .inr (.inr (.ref 49))), (5, .inl (v52))]) (st' := [.inl (v52), .inr (.inr (.ref 50)), .inl (48), .inr (.inr (.ref 49))]) (σ' := σ53) rfl ?_
            refine wk_callp tt_94 rfl rfl rfl rfl rfl tt_5 rfl (by decide) (at_i z σ53 50 10 (v52) rfl (by decide)) ?_
            generalize sx_at σ53 50 10 (sg_n (v52)) = q65
            refine wk_b tt_94 2 (pc' := 81) (ls' := [(0, .inr (.inr (.ref 49))), (5, .inl (v52))]) (st' := [.inl (((((sg_i ((48 + q65))).toUInt32 % 65536).toInt32).toInt)), .inr (.inr (.ref 49))]) (σ' := σ53) rfl ?_
            refine wk_call tt_94 rfl rfl rfl rfl rfl tt_93 rfl (by decide) (bt_12 z σ53 (((((sg_i ((48 + q65))).toUInt32 % 65536).toInt32).toInt))) (fun w66 σ67 hq68 => ?_)
            obtain ⟨rfl, hF69⟩ := hq68
            have hF70 := sg_F_t hF54 (sg_F_m (L := [49, 50, 51]) hF69 rfl)
            refine wk_b tt_94 2 (pc' := 62) (ls' := [(5, .inl ((v52 + (-1)))), (0, .inr (.inr (.ref 49)))]) (st' := []) (σ' := σ67) rfl ?_
            refine wk_ls [(0, .inr (.inr (.ref 49))), (5, .inl ((v52 + (-1))))] rfl ⟨rfl, rfl, trivial⟩ (ih56 _ ?_ σ67 ((v52 + (-1))) hF70 ?_ rfl)
            · omega
            · omega
      refine wk_ls [(0, .inr (.inr (.ref 49))), (5, .inl ((v48 - 1)))] rfl ⟨rfl, rfl, trivial⟩ ?_
      refine wk_eq (ls' := [(0, .inr (.inr (.ref 49))), (5, .inl (sg_n ((v48 - 1))))]) (by simp only [bm_ls, List.map_cons, bm_v, sg_in]) rfl ?_
      exact lp58 _ σ49 (sg_n ((v48 - 1))) hF50 (sg_Rn _) rfl
    have lp73 : ∀ (m72 : Nat) (σ49 : sg_S) (v47 : Int) (v48 : Int), sg_F [49, 50, 51] σ σ49 → (0 ≤ v48 ∧ v48 < 10) → (2147483647 - v48).toNat = m72 → wx z 1 94 19 [(0, .inr (.inr (.ref 49))), (2, .inr (.inl (v47))), (4, .inl (v48))] [] σ49 (fun v σ' => v = none ∧ sg_F [49, 50, 51] σ σ') := by
      intro m72
      induction m72 using Nat.strongRecOn with
      | _ m72 ih71 =>
        intro σ49 v47 v48 hF50 hR74 hm75
        have hR74_i := sg_id (z := v48) (by omega)
        refine wk_b tt_94 5 (pc' := 29) (ls' := [(0, .inr (.inr (.ref 49))), (2, .inr (.inl (v47))), (4, .inl (v48))]) (st' := [.inr (.inl (10)), .inr (.inl (v47)), .inl (v48), .inr (.inr (.ref 50))]) (σ' := σ49) rfl ?_
        refine wk_lrem tt_94 rfl (by decide) ?_
        generalize (sg_l (v47) - sg_l (v47) / sg_l (10) * sg_l (10)).toInt = q76
        refine wk_b tt_94 1 (pc' := 31) (ls' := [(0, .inr (.inr (.ref 49))), (2, .inr (.inl (v47))), (4, .inl (v48))]) (st' := [.inl (q76), .inl (v48), .inr (.inr (.ref 50))]) (σ' := σ49) rfl ?_
        refine wk_callp tt_94 rfl rfl rfl rfl rfl tt_21 rfl (by decide) (pt_i z σ49 50 10 (v48) (q76) rfl (by decide)) ?_
        have hF80 : sg_F [49, 50, 51] σ (sx_put σ49 50 10 (sg_n (v48)) (q76)) := sg_F_p hF50 rfl _ _ _
        generalize (sx_put σ49 50 10 (sg_n (v48)) (q76)) = σ81 at hF80 ⊢
        refine wk_b tt_94 2 (pc' := 38) (ls' := [(0, .inr (.inr (.ref 49))), (2, .inr (.inl (v47))), (4, .inl (v48))]) (st' := [.inr (.inl (10)), .inr (.inl (v47))]) (σ' := σ81) rfl ?_
        refine wk_ldiv tt_94 rfl (by decide) ?_
        generalize (sg_l (v47) / sg_l (10)).toInt = q82
        refine wk_b tt_94 5 (pc' := 46) (ls' := [(4, .inl ((v48 + 1))), (2, .inr (.inl (q82))), (0, .inr (.inr (.ref 49)))]) (st' := [.inl ((bm_lc (q82) (0)))]) (σ' := σ81) rfl ?_
        refine wk_ifb tt_94 (tgt := 56) rfl rfl ?_ ?_
        ·
          exact wk_ls [(0, .inr (.inr (.ref 49))), (4, .inl ((v48 + 1)))] rfl ⟨rfl, rfl, trivial⟩ (ex51 σ81 ((v48 + 1)) hF80)
        ·
          refine wk_b tt_94 2 (pc' := 53) (ls' := [(4, .inl ((v48 + 1))), (2, .inr (.inl (q82))), (0, .inr (.inr (.ref 49)))]) (st' := [.inl (10), .inl ((v48 + 1))]) (σ' := σ81) rfl ?_
          refine wk_if2n tt_94 (tgt := 19) rfl rfl (fun h84 => ?_) (fun h84 => ?_)
          ·
            have h84_r := sg_Rn (10)
            have h84_q := sg_Rn ((v48 + 1))
            have h84_l := sg_id (z := 10) (by decide)
            have h84_x := sg_id (z := (v48 + 1)) (by omega)
            simp only [sg_c, sg_nc] at h84
            refine wk_ls [(0, .inr (.inr (.ref 49))), (2, .inr (.inl (q82))), (4, .inl ((v48 + 1)))] rfl ⟨rfl, rfl, rfl, trivial⟩ (ih71 _ ?_ σ81 (q82) ((v48 + 1)) hF80 ?_ rfl)
            · omega
            · omega
          ·
            have h84_r := sg_Rn (10)
            have h84_q := sg_Rn ((v48 + 1))
            have h84_l := sg_id (z := 10) (by decide)
            have h84_x := sg_id (z := (v48 + 1)) (by omega)
            simp only [sg_c, sg_nc] at h84
            exact wk_ls [(0, .inr (.inr (.ref 49))), (4, .inl ((v48 + 1)))] rfl ⟨rfl, rfl, trivial⟩ (ex51 σ81 ((v48 + 1)) hF80)
    refine wk_ls [(0, .inr (.inr (.ref 49))), (2, .inr (.inl (q46))), (4, .inl (0))] rfl ⟨rfl, rfl, rfl, trivial⟩ ?_
    exact lp73 _ σ42 (q46) (0) hF45 (by omega) rfl
-- NestedVectors$Image.write x.nestedRun.image a1
set_option maxRecDepth 8000 in
theorem bt_14 (z : Value) (σ : sg_S) (a1 : Int) (hp : sg_n a1 ≤ 0) : wx z 2 97 0 [(0, .inr (.inr (.ref 49))), (1, .inl (a1))] [] σ (fun v σ' => v = none ∧ sg_F [49, 50, 51] σ σ') := by
  have hF0 := sg_F_r [49, 50, 51] σ
  refine wk_b tt_97 4 (pc' := 8) (ls' := [(0, .inr (.inr (.ref 49))), (1, .inl (a1))]) (st' := [.inl ((sg_g σ 49 3)), .inr (.inr (.ref 52))]) (σ' := σ) rfl ?_
  refine wk_callp tt_97 rfl rfl rfl rfl rfl tt_5 rfl (by decide) (at_i z σ 52 3001 ((sg_g σ 49 3)) rfl (by decide)) ?_
  generalize sx_at σ 52 3001 (sg_n ((sg_g σ 49 3))) = q4
  refine wk_b tt_97 8 (pc' := 23) (ls' := [(2, .inl (q4)), (0, .inr (.inr (.ref 49))), (1, .inl (a1))]) (st' := [.inl (a1)]) (σ' := (sg_w σ 49 3 (((sg_g σ 49 3) + 1)))) rfl ?_
  have hF5 : sg_F [49, 50, 51] σ (sg_w σ 49 3 (((sg_g σ 49 3) + 1))) := (sg_F_w hF0 rfl _)
  generalize (sg_w σ 49 3 (((sg_g σ 49 3) + 1))) = σ6 at hF5 ⊢
  refine wk_ifn tt_97 (tgt := 32) rfl rfl (fun h7 => ?_) (fun h7 => ?_)
  ·
    simp only [sg_c, sg_nc] at h7
    refine wk_b tt_97 2 (pc' := 35) (ls' := [(2, .inl (q4)), (0, .inr (.inr (.ref 49))), (1, .inl (a1))]) (st' := [.inl (91), .inr (.inr (.ref 49))]) (σ' := σ6) rfl ?_
    refine wk_call tt_97 rfl rfl rfl rfl rfl tt_93 rfl (by decide) (bt_12 z σ6 (91)) (fun w8 σ9 hq10 => ?_)
    obtain ⟨rfl, hF11⟩ := hq10
    have hF12 := sg_F_t hF5 (sg_F_m (L := [49, 50, 51]) hF11 rfl)
    refine wk_b tt_97 2 (pc' := 40) (ls' := [(3, .inl (0)), (2, .inl (q4)), (0, .inr (.inr (.ref 49))), (1, .inl (a1))]) (st' := []) (σ' := σ9) rfl ?_
    have ex16 : ∀ (σ14 : sg_S), sg_F [49, 50, 51] σ σ14 → wx z 2 97 75 [(0, .inr (.inr (.ref 49)))] [] σ14 (fun v σ' => v = none ∧ sg_F [49, 50, 51] σ σ') := by
      intro σ14 hF15
      refine wk_b tt_97 2 (pc' := 78) (ls' := [(0, .inr (.inr (.ref 49)))]) (st' := [.inl (93), .inr (.inr (.ref 49))]) (σ' := σ14) rfl ?_
      refine wk_call tt_97 rfl rfl rfl rfl rfl tt_93 rfl (by decide) (bt_12 z σ14 (93)) (fun w17 σ18 hq19 => ?_)
      obtain ⟨rfl, hF20⟩ := hq19
      have hF21 := sg_F_t hF15 (sg_F_m (L := [49, 50, 51]) hF20 rfl)
      exact wk_rV tt_97 rfl rfl ⟨rfl, hF21⟩
    have lp24 : ∀ (m23 : Nat) (σ14 : sg_S) (v13 : Int), sg_F [49, 50, 51] σ σ14 → (sg_R v13) → (2147483647 - v13).toNat = m23 → wx z 2 97 40 [(0, .inr (.inr (.ref 49))), (1, .inl (a1)), (2, .inl (q4)), (3, .inl (v13))] [] σ14 (fun v σ' => v = none ∧ sg_F [49, 50, 51] σ σ') := by
      intro m23
      induction m23 using Nat.strongRecOn with
      | _ m23 ih22 =>
        intro σ14 v13 hF15 hR25 hm26
        have hR25_i := sg_id (z := v13) (by omega)
        refine wk_b tt_97 2 (pc' := 42) (ls' := [(0, .inr (.inr (.ref 49))), (1, .inl (a1)), (2, .inl (q4)), (3, .inl (v13))]) (st' := [.inl (q4), .inl (v13)]) (σ' := σ14) rfl ?_
        refine wk_if2n tt_97 (tgt := 75) rfl rfl (fun h27 => ?_) (fun h27 => ?_)
        ·
          have h27_r := sg_Rn (q4)
          have h27_q := sg_Rn (v13)
          simp only [sg_c, sg_nc] at h27
          exact wk_ls [(0, .inr (.inr (.ref 49)))] rfl ⟨rfl, trivial⟩ (ex16 σ14 hF15)
        ·
          have h27_r := sg_Rn (q4)
          have h27_q := sg_Rn (v13)
          simp only [sg_c, sg_nc] at h27
          refine wk_b tt_97 2 (pc' := 49) (ls' := [(0, .inr (.inr (.ref 49))), (1, .inl (a1)), (2, .inl (q4)), (3, .inl (v13))]) (st' := [.inl (200), .inl (v13)]) (σ' := σ14) rfl ?_
          refine wk_if2n tt_97 (tgt := 75) rfl rfl (fun h28 => ?_) (fun h28 => ?_)
          ·
            have h28_r := sg_Rn (200)
            have h28_q := sg_Rn (v13)
            have h28_l := sg_id (z := 200) (by decide)
            simp only [sg_c, sg_nc] at h28
            exact wk_ls [(0, .inr (.inr (.ref 49)))] rfl ⟨rfl, trivial⟩ (ex16 σ14 hF15)
          ·
            have h28_r := sg_Rn (200)
            have h28_q := sg_Rn (v13)
            have h28_l := sg_id (z := 200) (by decide)
            simp only [sg_c, sg_nc] at h28
            refine wk_b tt_97 1 (pc' := 53) (ls' := [(0, .inr (.inr (.ref 49))), (1, .inl (a1)), (2, .inl (q4)), (3, .inl (v13))]) (st' := [.inl (v13)]) (σ' := σ14) rfl ?_
            refine wk_ifn tt_97 (tgt := 62) rfl rfl (fun h29 => ?_) (fun h29 => ?_)
            ·
              simp only [sg_c, sg_nc] at h29
              refine wk_b tt_97 4 (pc' := 66) (ls' := [(0, .inr (.inr (.ref 49))), (1, .inl (a1)), (2, .inl (q4)), (3, .inl (v13))]) (st' := [.inl ((a1 - 1)), .inr (.inr (.ref 49))]) (σ' := σ14) rfl ?_
              exfalso; omega
            ·
              simp only [sg_c, sg_nc] at h29
              refine wk_b tt_97 2 (pc' := 59) (ls' := [(0, .inr (.inr (.ref 49))), (1, .inl (a1)), (2, .inl (q4)), (3, .inl (v13))]) (st' := [.inl (44), .inr (.inr (.ref 49))]) (σ' := σ14) rfl ?_
              refine wk_call tt_97 rfl rfl rfl rfl rfl tt_93 rfl (by decide) (bt_12 z σ14 (44)) (fun w30 σ31 hq32 => ?_)
              obtain ⟨rfl, hF33⟩ := hq32
              have hF34 := sg_F_t hF15 (sg_F_m (L := [49, 50, 51]) hF33 rfl)
              refine wk_b tt_97 4 (pc' := 66) (ls' := [(0, .inr (.inr (.ref 49))), (1, .inl (a1)), (2, .inl (q4)), (3, .inl (v13))]) (st' := [.inl ((a1 - 1)), .inr (.inr (.ref 49))]) (σ' := σ31) rfl ?_
              exfalso; omega
    refine wk_ls [(0, .inr (.inr (.ref 49))), (1, .inl (a1)), (2, .inl (q4)), (3, .inl (0))] rfl ⟨rfl, rfl, rfl, rfl, trivial⟩ ?_
    exact lp24 _ σ9 (0) hF12 (by omega) rfl
  ·
    simp only [sg_c, sg_nc] at h7
    refine wk_b tt_97 2 (pc' := 28) (ls' := [(2, .inl (q4)), (0, .inr (.inr (.ref 49))), (1, .inl (a1))]) (st' := [.inl (q4), .inr (.inr (.ref 49))]) (σ' := σ6) rfl ?_
    refine wk_call tt_97 rfl rfl rfl rfl rfl tt_94 rfl (by decide) (bt_13 z σ6 (q4)) (fun w35 σ36 hq37 => ?_)
    obtain ⟨rfl, hF38⟩ := hq37
    have hF39 := sg_F_t hF5 (sg_F_m (L := [49, 50, 51]) hF38 rfl)
    exact wk_rV tt_97 rfl rfl ⟨rfl, hF39⟩
-- NestedVectors$Image.write x.nestedRun.image a1
set_option maxRecDepth 8000 in
theorem bt_15 (z : Value) (σ : sg_S) (a1 : Int) (hp : sg_n a1 ≤ 1) : wx z 3 97 0 [(0, .inr (.inr (.ref 49))), (1, .inl (a1))] [] σ (fun v σ' => v = none ∧ sg_F [49, 50, 51] σ σ') := by
  have hF0 := sg_F_r [49, 50, 51] σ
  refine wk_b tt_97 4 (pc' := 8) (ls' := [(0, .inr (.inr (.ref 49))), (1, .inl (a1))]) (st' := [.inl ((sg_g σ 49 3)), .inr (.inr (.ref 52))]) (σ' := σ) rfl ?_
  refine wk_callp tt_97 rfl rfl rfl rfl rfl tt_5 rfl (by decide) (at_i z σ 52 3001 ((sg_g σ 49 3)) rfl (by decide)) ?_
  generalize sx_at σ 52 3001 (sg_n ((sg_g σ 49 3))) = q4
  refine wk_b tt_97 8 (pc' := 23) (ls' := [(2, .inl (q4)), (0, .inr (.inr (.ref 49))), (1, .inl (a1))]) (st' := [.inl (a1)]) (σ' := (sg_w σ 49 3 (((sg_g σ 49 3) + 1)))) rfl ?_
  have hF5 : sg_F [49, 50, 51] σ (sg_w σ 49 3 (((sg_g σ 49 3) + 1))) := (sg_F_w hF0 rfl _)
  generalize (sg_w σ 49 3 (((sg_g σ 49 3) + 1))) = σ6 at hF5 ⊢
  refine wk_ifn tt_97 (tgt := 32) rfl rfl (fun h7 => ?_) (fun h7 => ?_)
  ·
    simp only [sg_c, sg_nc] at h7
    refine wk_b tt_97 2 (pc' := 35) (ls' := [(2, .inl (q4)), (0, .inr (.inr (.ref 49))), (1, .inl (a1))]) (st' := [.inl (91), .inr (.inr (.ref 49))]) (σ' := σ6) rfl ?_
    refine wk_call tt_97 rfl rfl rfl rfl rfl tt_93 rfl (by decide) (bt_12 z σ6 (91)) (fun w8 σ9 hq10 => ?_)
    obtain ⟨rfl, hF11⟩ := hq10
    have hF12 := sg_F_t hF5 (sg_F_m (L := [49, 50, 51]) hF11 rfl)
    refine wk_b tt_97 2 (pc' := 40) (ls' := [(3, .inl (0)), (2, .inl (q4)), (0, .inr (.inr (.ref 49))), (1, .inl (a1))]) (st' := []) (σ' := σ9) rfl ?_
    have ex16 : ∀ (σ14 : sg_S), sg_F [49, 50, 51] σ σ14 → wx z 3 97 75 [(0, .inr (.inr (.ref 49)))] [] σ14 (fun v σ' => v = none ∧ sg_F [49, 50, 51] σ σ') := by
      intro σ14 hF15
      refine wk_b tt_97 2 (pc' := 78) (ls' := [(0, .inr (.inr (.ref 49)))]) (st' := [.inl (93), .inr (.inr (.ref 49))]) (σ' := σ14) rfl ?_
      refine wk_call tt_97 rfl rfl rfl rfl rfl tt_93 rfl (by decide) (bt_12 z σ14 (93)) (fun w17 σ18 hq19 => ?_)
      obtain ⟨rfl, hF20⟩ := hq19
      have hF21 := sg_F_t hF15 (sg_F_m (L := [49, 50, 51]) hF20 rfl)
      exact wk_rV tt_97 rfl rfl ⟨rfl, hF21⟩
    have lp24 : ∀ (m23 : Nat) (σ14 : sg_S) (v13 : Int), sg_F [49, 50, 51] σ σ14 → (sg_R v13) → (2147483647 - v13).toNat = m23 → wx z 3 97 40 [(0, .inr (.inr (.ref 49))), (1, .inl (a1)), (2, .inl (q4)), (3, .inl (v13))] [] σ14 (fun v σ' => v = none ∧ sg_F [49, 50, 51] σ σ') := by
      intro m23
      induction m23 using Nat.strongRecOn with
      | _ m23 ih22 =>
        intro σ14 v13 hF15 hR25 hm26
        have hR25_i := sg_id (z := v13) (by omega)
        refine wk_b tt_97 2 (pc' := 42) (ls' := [(0, .inr (.inr (.ref 49))), (1, .inl (a1)), (2, .inl (q4)), (3, .inl (v13))]) (st' := [.inl (q4), .inl (v13)]) (σ' := σ14) rfl ?_
        refine wk_if2n tt_97 (tgt := 75) rfl rfl (fun h27 => ?_) (fun h27 => ?_)
        ·
          have h27_r := sg_Rn (q4)
          have h27_q := sg_Rn (v13)
          simp only [sg_c, sg_nc] at h27
          exact wk_ls [(0, .inr (.inr (.ref 49)))] rfl ⟨rfl, trivial⟩ (ex16 σ14 hF15)
        ·
          have h27_r := sg_Rn (q4)
          have h27_q := sg_Rn (v13)
          simp only [sg_c, sg_nc] at h27
          refine wk_b tt_97 2 (pc' := 49) (ls' := [(0, .inr (.inr (.ref 49))), (1, .inl (a1)), (2, .inl (q4)), (3, .inl (v13))]) (st' := [.inl (200), .inl (v13)]) (σ' := σ14) rfl ?_
          refine wk_if2n tt_97 (tgt := 75) rfl rfl (fun h28 => ?_) (fun h28 => ?_)
          ·
            have h28_r := sg_Rn (200)
            have h28_q := sg_Rn (v13)
            have h28_l := sg_id (z := 200) (by decide)
            simp only [sg_c, sg_nc] at h28
            exact wk_ls [(0, .inr (.inr (.ref 49)))] rfl ⟨rfl, trivial⟩ (ex16 σ14 hF15)
          ·
            have h28_r := sg_Rn (200)
            have h28_q := sg_Rn (v13)
            have h28_l := sg_id (z := 200) (by decide)
            simp only [sg_c, sg_nc] at h28
            refine wk_b tt_97 1 (pc' := 53) (ls' := [(0, .inr (.inr (.ref 49))), (1, .inl (a1)), (2, .inl (q4)), (3, .inl (v13))]) (st' := [.inl (v13)]) (σ' := σ14) rfl ?_
            refine wk_ifn tt_97 (tgt := 62) rfl rfl (fun h29 => ?_) (fun h29 => ?_)
            ·
              simp only [sg_c, sg_nc] at h29
              refine wk_b tt_97 4 (pc' := 66) (ls' := [(0, .inr (.inr (.ref 49))), (1, .inl (a1)), (2, .inl (q4)), (3, .inl (v13))]) (st' := [.inl ((a1 - 1)), .inr (.inr (.ref 49))]) (σ' := σ14) rfl ?_
              refine wk_call tt_97 rfl rfl rfl rfl rfl tt_97 rfl (by decide) (bt_14 z σ14 ((a1 - 1)) (by have := sg_n_pred (x := a1) (by omega); omega)) (fun w30 σ31 hq32 => ?_)
              obtain ⟨rfl, hF33⟩ := hq32
              have hF34 := sg_F_t hF15 (sg_F_m (L := [49, 50, 51]) hF33 rfl)
              refine wk_b tt_97 2 (pc' := 40) (ls' := [(3, .inl ((v13 + 1))), (0, .inr (.inr (.ref 49))), (1, .inl (a1)), (2, .inl (q4))]) (st' := []) (σ' := σ31) rfl ?_
              refine wk_ls [(0, .inr (.inr (.ref 49))), (1, .inl (a1)), (2, .inl (q4)), (3, .inl ((v13 + 1)))] rfl ⟨rfl, rfl, rfl, rfl, trivial⟩ (ih22 _ ?_ σ31 ((v13 + 1)) hF34 ?_ rfl)
              · omega
              · omega
            ·
              simp only [sg_c, sg_nc] at h29
              refine wk_b tt_97 2 (pc' := 59) (ls' := [(0, .inr (.inr (.ref 49))), (1, .inl (a1)), (2, .inl (q4)), (3, .inl (v13))]) (st' := [.inl (44), .inr (.inr (.ref 49))]) (σ' := σ14) rfl ?_
              refine wk_call tt_97 rfl rfl rfl rfl rfl tt_93 rfl (by decide) (bt_12 z σ14 (44)) (fun w35 σ36 hq37 => ?_)
              obtain ⟨rfl, hF38⟩ := hq37
              have hF39 := sg_F_t hF15 (sg_F_m (L := [49, 50, 51]) hF38 rfl)
              refine wk_b tt_97 4 (pc' := 66) (ls' := [(0, .inr (.inr (.ref 49))), (1, .inl (a1)), (2, .inl (q4)), (3, .inl (v13))]) (st' := [.inl ((a1 - 1)), .inr (.inr (.ref 49))]) (σ' := σ36) rfl ?_
              refine wk_call tt_97 rfl rfl rfl rfl rfl tt_97 rfl (by decide) (bt_14 z σ36 ((a1 - 1)) (by have := sg_n_pred (x := a1) (by omega); omega)) (fun w40 σ41 hq42 => ?_)
              obtain ⟨rfl, hF43⟩ := hq42
              have hF44 := sg_F_t hF39 (sg_F_m (L := [49, 50, 51]) hF43 rfl)
              refine wk_b tt_97 2 (pc' := 40) (ls' := [(3, .inl ((v13 + 1))), (0, .inr (.inr (.ref 49))), (1, .inl (a1)), (2, .inl (q4))]) (st' := []) (σ' := σ41) rfl ?_
              refine wk_ls [(0, .inr (.inr (.ref 49))), (1, .inl (a1)), (2, .inl (q4)), (3, .inl ((v13 + 1)))] rfl ⟨rfl, rfl, rfl, rfl, trivial⟩ (ih22 _ ?_ σ41 ((v13 + 1)) hF44 ?_ rfl)
              · omega
              · omega
    refine wk_ls [(0, .inr (.inr (.ref 49))), (1, .inl (a1)), (2, .inl (q4)), (3, .inl (0))] rfl ⟨rfl, rfl, rfl, rfl, trivial⟩ ?_
    exact lp24 _ σ9 (0) hF12 (by omega) rfl
  ·
    simp only [sg_c, sg_nc] at h7
    refine wk_b tt_97 2 (pc' := 28) (ls' := [(2, .inl (q4)), (0, .inr (.inr (.ref 49))), (1, .inl (a1))]) (st' := [.inl (q4), .inr (.inr (.ref 49))]) (σ' := σ6) rfl ?_
    refine wk_call tt_97 rfl rfl rfl rfl rfl tt_94 rfl (by decide) (bt_13 z σ6 (q4)) (fun w45 σ46 hq47 => ?_)
    obtain ⟨rfl, hF48⟩ := hq47
    have hF49 := sg_F_t hF5 (sg_F_m (L := [49, 50, 51]) hF48 rfl)
    exact wk_rV tt_97 rfl rfl ⟨rfl, hF49⟩
-- NestedVectors$Image.write x.nestedRun.image a1
set_option maxRecDepth 8000 in
theorem bt_16 (z : Value) (σ : sg_S) (a1 : Int) (hp : sg_n a1 ≤ 2) : wx z 4 97 0 [(0, .inr (.inr (.ref 49))), (1, .inl (a1))] [] σ (fun v σ' => v = none ∧ sg_F [49, 50, 51] σ σ') := by
  have hF0 := sg_F_r [49, 50, 51] σ
  refine wk_b tt_97 4 (pc' := 8) (ls' := [(0, .inr (.inr (.ref 49))), (1, .inl (a1))]) (st' := [.inl ((sg_g σ 49 3)), .inr (.inr (.ref 52))]) (σ' := σ) rfl ?_
  refine wk_callp tt_97 rfl rfl rfl rfl rfl tt_5 rfl (by decide) (at_i z σ 52 3001 ((sg_g σ 49 3)) rfl (by decide)) ?_
  generalize sx_at σ 52 3001 (sg_n ((sg_g σ 49 3))) = q4
  refine wk_b tt_97 8 (pc' := 23) (ls' := [(2, .inl (q4)), (0, .inr (.inr (.ref 49))), (1, .inl (a1))]) (st' := [.inl (a1)]) (σ' := (sg_w σ 49 3 (((sg_g σ 49 3) + 1)))) rfl ?_
  have hF5 : sg_F [49, 50, 51] σ (sg_w σ 49 3 (((sg_g σ 49 3) + 1))) := (sg_F_w hF0 rfl _)
  generalize (sg_w σ 49 3 (((sg_g σ 49 3) + 1))) = σ6 at hF5 ⊢
  refine wk_ifn tt_97 (tgt := 32) rfl rfl (fun h7 => ?_) (fun h7 => ?_)
  ·
    simp only [sg_c, sg_nc] at h7
    refine wk_b tt_97 2 (pc' := 35) (ls' := [(2, .inl (q4)), (0, .inr (.inr (.ref 49))), (1, .inl (a1))]) (st' := [.inl (91), .inr (.inr (.ref 49))]) (σ' := σ6) rfl ?_
    refine wk_call tt_97 rfl rfl rfl rfl rfl tt_93 rfl (by decide) (bt_12 z σ6 (91)) (fun w8 σ9 hq10 => ?_)
    obtain ⟨rfl, hF11⟩ := hq10
    have hF12 := sg_F_t hF5 (sg_F_m (L := [49, 50, 51]) hF11 rfl)
    refine wk_b tt_97 2 (pc' := 40) (ls' := [(3, .inl (0)), (2, .inl (q4)), (0, .inr (.inr (.ref 49))), (1, .inl (a1))]) (st' := []) (σ' := σ9) rfl ?_
    have ex16 : ∀ (σ14 : sg_S), sg_F [49, 50, 51] σ σ14 → wx z 4 97 75 [(0, .inr (.inr (.ref 49)))] [] σ14 (fun v σ' => v = none ∧ sg_F [49, 50, 51] σ σ') := by
      intro σ14 hF15
      refine wk_b tt_97 2 (pc' := 78) (ls' := [(0, .inr (.inr (.ref 49)))]) (st' := [.inl (93), .inr (.inr (.ref 49))]) (σ' := σ14) rfl ?_
      refine wk_call tt_97 rfl rfl rfl rfl rfl tt_93 rfl (by decide) (bt_12 z σ14 (93)) (fun w17 σ18 hq19 => ?_)
      obtain ⟨rfl, hF20⟩ := hq19
      have hF21 := sg_F_t hF15 (sg_F_m (L := [49, 50, 51]) hF20 rfl)
      exact wk_rV tt_97 rfl rfl ⟨rfl, hF21⟩
    have lp24 : ∀ (m23 : Nat) (σ14 : sg_S) (v13 : Int), sg_F [49, 50, 51] σ σ14 → (sg_R v13) → (2147483647 - v13).toNat = m23 → wx z 4 97 40 [(0, .inr (.inr (.ref 49))), (1, .inl (a1)), (2, .inl (q4)), (3, .inl (v13))] [] σ14 (fun v σ' => v = none ∧ sg_F [49, 50, 51] σ σ') := by
      intro m23
      induction m23 using Nat.strongRecOn with
      | _ m23 ih22 =>
        intro σ14 v13 hF15 hR25 hm26
        have hR25_i := sg_id (z := v13) (by omega)
        refine wk_b tt_97 2 (pc' := 42) (ls' := [(0, .inr (.inr (.ref 49))), (1, .inl (a1)), (2, .inl (q4)), (3, .inl (v13))]) (st' := [.inl (q4), .inl (v13)]) (σ' := σ14) rfl ?_
        refine wk_if2n tt_97 (tgt := 75) rfl rfl (fun h27 => ?_) (fun h27 => ?_)
        ·
          have h27_r := sg_Rn (q4)
          have h27_q := sg_Rn (v13)
          simp only [sg_c, sg_nc] at h27
          exact wk_ls [(0, .inr (.inr (.ref 49)))] rfl ⟨rfl, trivial⟩ (ex16 σ14 hF15)
        ·
          have h27_r := sg_Rn (q4)
          have h27_q := sg_Rn (v13)
          simp only [sg_c, sg_nc] at h27
          refine wk_b tt_97 2 (pc' := 49) (ls' := [(0, .inr (.inr (.ref 49))), (1, .inl (a1)), (2, .inl (q4)), (3, .inl (v13))]) (st' := [.inl (200), .inl (v13)]) (σ' := σ14) rfl ?_
          refine wk_if2n tt_97 (tgt := 75) rfl rfl (fun h28 => ?_) (fun h28 => ?_)
          ·
            have h28_r := sg_Rn (200)
            have h28_q := sg_Rn (v13)
            have h28_l := sg_id (z := 200) (by decide)
            simp only [sg_c, sg_nc] at h28
            exact wk_ls [(0, .inr (.inr (.ref 49)))] rfl ⟨rfl, trivial⟩ (ex16 σ14 hF15)
          ·
            have h28_r := sg_Rn (200)
            have h28_q := sg_Rn (v13)
            have h28_l := sg_id (z := 200) (by decide)
            simp only [sg_c, sg_nc] at h28
            refine wk_b tt_97 1 (pc' := 53) (ls' := [(0, .inr (.inr (.ref 49))), (1, .inl (a1)), (2, .inl (q4)), (3, .inl (v13))]) (st' := [.inl (v13)]) (σ' := σ14) rfl ?_
            refine wk_ifn tt_97 (tgt := 62) rfl rfl (fun h29 => ?_) (fun h29 => ?_)
            ·
              simp only [sg_c, sg_nc] at h29
              refine wk_b tt_97 4 (pc' := 66) (ls' := [(0, .inr (.inr (.ref 49))), (1, .inl (a1)), (2, .inl (q4)), (3, .inl (v13))]) (st' := [.inl ((a1 - 1)), .inr (.inr (.ref 49))]) (σ' := σ14) rfl ?_
              refine wk_call tt_97 rfl rfl rfl rfl rfl tt_97 rfl (by decide) (bt_15 z σ14 ((a1 - 1)) (by have := sg_n_pred (x := a1) (by omega); omega)) (fun w30 σ31 hq32 => ?_)
              obtain ⟨rfl, hF33⟩ := hq32
              have hF34 := sg_F_t hF15 (sg_F_m (L := [49, 50, 51]) hF33 rfl)
              refine wk_b tt_97 2 (pc' := 40) (ls' := [(3, .inl ((v13 + 1))), (0, .inr (.inr (.ref 49))), (1, .inl (a1)), (2, .inl (q4))]) (st' := []) (σ' := σ31) rfl ?_
              refine wk_ls [(0, .inr (.inr (.ref 49))), (1, .inl (a1)), (2, .inl (q4)), (3, .inl ((v13 + 1)))] rfl ⟨rfl, rfl, rfl, rfl, trivial⟩ (ih22 _ ?_ σ31 ((v13 + 1)) hF34 ?_ rfl)
              · omega
              · omega
            ·
              simp only [sg_c, sg_nc] at h29
              refine wk_b tt_97 2 (pc' := 59) (ls' := [(0, .inr (.inr (.ref 49))), (1, .inl (a1)), (2, .inl (q4)), (3, .inl (v13))]) (st' := [.inl (44), .inr (.inr (.ref 49))]) (σ' := σ14) rfl ?_
              refine wk_call tt_97 rfl rfl rfl rfl rfl tt_93 rfl (by decide) (bt_12 z σ14 (44)) (fun w35 σ36 hq37 => ?_)
              obtain ⟨rfl, hF38⟩ := hq37
              have hF39 := sg_F_t hF15 (sg_F_m (L := [49, 50, 51]) hF38 rfl)
              refine wk_b tt_97 4 (pc' := 66) (ls' := [(0, .inr (.inr (.ref 49))), (1, .inl (a1)), (2, .inl (q4)), (3, .inl (v13))]) (st' := [.inl ((a1 - 1)), .inr (.inr (.ref 49))]) (σ' := σ36) rfl ?_
              refine wk_call tt_97 rfl rfl rfl rfl rfl tt_97 rfl (by decide) (bt_15 z σ36 ((a1 - 1)) (by have := sg_n_pred (x := a1) (by omega); omega)) (fun w40 σ41 hq42 => ?_)
              obtain ⟨rfl, hF43⟩ := hq42
              have hF44 := sg_F_t hF39 (sg_F_m (L := [49, 50, 51]) hF43 rfl)
              refine wk_b tt_97 2 (pc' := 40) (ls' := [(3, .inl ((v13 + 1))), (0, .inr (.inr (.ref 49))), (1, .inl (a1)), (2, .inl (q4))]) (st' := []) (σ' := σ41) rfl ?_
              refine wk_ls [(0, .inr (.inr (.ref 49))), (1, .inl (a1)), (2, .inl (q4)), (3, .inl ((v13 + 1)))] rfl ⟨rfl, rfl, rfl, rfl, trivial⟩ (ih22 _ ?_ σ41 ((v13 + 1)) hF44 ?_ rfl)
              · omega
              · omega
    refine wk_ls [(0, .inr (.inr (.ref 49))), (1, .inl (a1)), (2, .inl (q4)), (3, .inl (0))] rfl ⟨rfl, rfl, rfl, rfl, trivial⟩ ?_
    exact lp24 _ σ9 (0) hF12 (by omega) rfl
  ·
    simp only [sg_c, sg_nc] at h7
    refine wk_b tt_97 2 (pc' := 28) (ls' := [(2, .inl (q4)), (0, .inr (.inr (.ref 49))), (1, .inl (a1))]) (st' := [.inl (q4), .inr (.inr (.ref 49))]) (σ' := σ6) rfl ?_
    refine wk_call tt_97 rfl rfl rfl rfl rfl tt_94 rfl (by decide) (bt_13 z σ6 (q4)) (fun w45 σ46 hq47 => ?_)
    obtain ⟨rfl, hF48⟩ := hq47
    have hF49 := sg_F_t hF5 (sg_F_m (L := [49, 50, 51]) hF48 rfl)
    exact wk_rV tt_97 rfl rfl ⟨rfl, hF49⟩
-- NestedVectors$Image.write x.nestedRun.image a1
set_option maxRecDepth 8000 in
theorem bt_17 (z : Value) (σ : sg_S) (a1 : Int) (hp : sg_n a1 ≤ 3) : wx z 5 97 0 [(0, .inr (.inr (.ref 49))), (1, .inl (a1))] [] σ (fun v σ' => v = none ∧ sg_F [49, 50, 51] σ σ') := by
  have hF0 := sg_F_r [49, 50, 51] σ
  refine wk_b tt_97 4 (pc' := 8) (ls' := [(0, .inr (.inr (.ref 49))), (1, .inl (a1))]) (st' := [.inl ((sg_g σ 49 3)), .inr (.inr (.ref 52))]) (σ' := σ) rfl ?_
  refine wk_callp tt_97 rfl rfl rfl rfl rfl tt_5 rfl (by decide) (at_i z σ 52 3001 ((sg_g σ 49 3)) rfl (by decide)) ?_
  generalize sx_at σ 52 3001 (sg_n ((sg_g σ 49 3))) = q4
  refine wk_b tt_97 8 (pc' := 23) (ls' := [(2, .inl (q4)), (0, .inr (.inr (.ref 49))), (1, .inl (a1))]) (st' := [.inl (a1)]) (σ' := (sg_w σ 49 3 (((sg_g σ 49 3) + 1)))) rfl ?_
  have hF5 : sg_F [49, 50, 51] σ (sg_w σ 49 3 (((sg_g σ 49 3) + 1))) := (sg_F_w hF0 rfl _)
  generalize (sg_w σ 49 3 (((sg_g σ 49 3) + 1))) = σ6 at hF5 ⊢
  refine wk_ifn tt_97 (tgt := 32) rfl rfl (fun h7 => ?_) (fun h7 => ?_)
  ·
    simp only [sg_c, sg_nc] at h7
    refine wk_b tt_97 2 (pc' := 35) (ls' := [(2, .inl (q4)), (0, .inr (.inr (.ref 49))), (1, .inl (a1))]) (st' := [.inl (91), .inr (.inr (.ref 49))]) (σ' := σ6) rfl ?_
    refine wk_call tt_97 rfl rfl rfl rfl rfl tt_93 rfl (by decide) (bt_12 z σ6 (91)) (fun w8 σ9 hq10 => ?_)
    obtain ⟨rfl, hF11⟩ := hq10
    have hF12 := sg_F_t hF5 (sg_F_m (L := [49, 50, 51]) hF11 rfl)
    refine wk_b tt_97 2 (pc' := 40) (ls' := [(3, .inl (0)), (2, .inl (q4)), (0, .inr (.inr (.ref 49))), (1, .inl (a1))]) (st' := []) (σ' := σ9) rfl ?_
    have ex16 : ∀ (σ14 : sg_S), sg_F [49, 50, 51] σ σ14 → wx z 5 97 75 [(0, .inr (.inr (.ref 49)))] [] σ14 (fun v σ' => v = none ∧ sg_F [49, 50, 51] σ σ') := by
      intro σ14 hF15
      refine wk_b tt_97 2 (pc' := 78) (ls' := [(0, .inr (.inr (.ref 49)))]) (st' := [.inl (93), .inr (.inr (.ref 49))]) (σ' := σ14) rfl ?_
      refine wk_call tt_97 rfl rfl rfl rfl rfl tt_93 rfl (by decide) (bt_12 z σ14 (93)) (fun w17 σ18 hq19 => ?_)
      obtain ⟨rfl, hF20⟩ := hq19
      have hF21 := sg_F_t hF15 (sg_F_m (L := [49, 50, 51]) hF20 rfl)
      exact wk_rV tt_97 rfl rfl ⟨rfl, hF21⟩
    have lp24 : ∀ (m23 : Nat) (σ14 : sg_S) (v13 : Int), sg_F [49, 50, 51] σ σ14 → (sg_R v13) → (2147483647 - v13).toNat = m23 → wx z 5 97 40 [(0, .inr (.inr (.ref 49))), (1, .inl (a1)), (2, .inl (q4)), (3, .inl (v13))] [] σ14 (fun v σ' => v = none ∧ sg_F [49, 50, 51] σ σ') := by
      intro m23
      induction m23 using Nat.strongRecOn with
      | _ m23 ih22 =>
        intro σ14 v13 hF15 hR25 hm26
        have hR25_i := sg_id (z := v13) (by omega)
        refine wk_b tt_97 2 (pc' := 42) (ls' := [(0, .inr (.inr (.ref 49))), (1, .inl (a1)), (2, .inl (q4)), (3, .inl (v13))]) (st' := [.inl (q4), .inl (v13)]) (σ' := σ14) rfl ?_
        refine wk_if2n tt_97 (tgt := 75) rfl rfl (fun h27 => ?_) (fun h27 => ?_)
        ·
          have h27_r := sg_Rn (q4)
          have h27_q := sg_Rn (v13)
          simp only [sg_c, sg_nc] at h27
          exact wk_ls [(0, .inr (.inr (.ref 49)))] rfl ⟨rfl, trivial⟩ (ex16 σ14 hF15)
        ·
          have h27_r := sg_Rn (q4)
          have h27_q := sg_Rn (v13)
          simp only [sg_c, sg_nc] at h27
          refine wk_b tt_97 2 (pc' := 49) (ls' := [(0, .inr (.inr (.ref 49))), (1, .inl (a1)), (2, .inl (q4)), (3, .inl (v13))]) (st' := [.inl (200), .inl (v13)]) (σ' := σ14) rfl ?_
          refine wk_if2n tt_97 (tgt := 75) rfl rfl (fun h28 => ?_) (fun h28 => ?_)
          ·
            have h28_r := sg_Rn (200)
            have h28_q := sg_Rn (v13)
            have h28_l := sg_id (z := 200) (by decide)
            simp only [sg_c, sg_nc] at h28
            exact wk_ls [(0, .inr (.inr (.ref 49)))] rfl ⟨rfl, trivial⟩ (ex16 σ14 hF15)
          ·
            have h28_r := sg_Rn (200)
            have h28_q := sg_Rn (v13)
            have h28_l := sg_id (z := 200) (by decide)
            simp only [sg_c, sg_nc] at h28
            refine wk_b tt_97 1 (pc' := 53) (ls' := [(0, .inr (.inr (.ref 49))), (1, .inl (a1)), (2, .inl (q4)), (3, .inl (v13))]) (st' := [.inl (v13)]) (σ' := σ14) rfl ?_
            refine wk_ifn tt_97 (tgt := 62) rfl rfl (fun h29 => ?_) (fun h29 => ?_)
            ·
              simp only [sg_c, sg_nc] at h29
              refine wk_b tt_97 4 (pc' := 66) (ls' := [(0, .inr (.inr (.ref 49))), (1, .inl (a1)), (2, .inl (q4)), (3, .inl (v13))]) (st' := [.inl ((a1 - 1)), .inr (.inr (.ref 49))]) (σ' := σ14) rfl ?_
              refine wk_call tt_97 rfl rfl rfl rfl rfl tt_97 rfl (by decide) (bt_16 z σ14 ((a1 - 1)) (by have := sg_n_pred (x := a1) (by omega); omega)) (fun w30 σ31 hq32 => ?_)
              obtain ⟨rfl, hF33⟩ := hq32
              have hF34 := sg_F_t hF15 (sg_F_m (L := [49, 50, 51]) hF33 rfl)
              refine wk_b tt_97 2 (pc' := 40) (ls' := [(3, .inl ((v13 + 1))), (0, .inr (.inr (.ref 49))), (1, .inl (a1)), (2, .inl (q4))]) (st' := []) (σ' := σ31) rfl ?_
              refine wk_ls [(0, .inr (.inr (.ref 49))), (1, .inl (a1)), (2, .inl (q4)), (3, .inl ((v13 + 1)))] rfl ⟨rfl, rfl, rfl, rfl, trivial⟩ (ih22 _ ?_ σ31 ((v13 + 1)) hF34 ?_ rfl)
              · omega
              · omega
            ·
              simp only [sg_c, sg_nc] at h29
              refine wk_b tt_97 2 (pc' := 59) (ls' := [(0, .inr (.inr (.ref 49))), (1, .inl (a1)), (2, .inl (q4)), (3, .inl (v13))]) (st' := [.inl (44), .inr (.inr (.ref 49))]) (σ' := σ14) rfl ?_
              refine wk_call tt_97 rfl rfl rfl rfl rfl tt_93 rfl (by decide) (bt_12 z σ14 (44)) (fun w35 σ36 hq37 => ?_)
              obtain ⟨rfl, hF38⟩ := hq37
              have hF39 := sg_F_t hF15 (sg_F_m (L := [49, 50, 51]) hF38 rfl)
              refine wk_b tt_97 4 (pc' := 66) (ls' := [(0, .inr (.inr (.ref 49))), (1, .inl (a1)), (2, .inl (q4)), (3, .inl (v13))]) (st' := [.inl ((a1 - 1)), .inr (.inr (.ref 49))]) (σ' := σ36) rfl ?_
              refine wk_call tt_97 rfl rfl rfl rfl rfl tt_97 rfl (by decide) (bt_16 z σ36 ((a1 - 1)) (by have := sg_n_pred (x := a1) (by omega); omega)) (fun w40 σ41 hq42 => ?_)
              obtain ⟨rfl, hF43⟩ := hq42
              have hF44 := sg_F_t hF39 (sg_F_m (L := [49, 50, 51]) hF43 rfl)
              refine wk_b tt_97 2 (pc' := 40) (ls' := [(3, .inl ((v13 + 1))), (0, .inr (.inr (.ref 49))), (1, .inl (a1)), (2, .inl (q4))]) (st' := []) (σ' := σ41) rfl ?_
              refine wk_ls [(0, .inr (.inr (.ref 49))), (1, .inl (a1)), (2, .inl (q4)), (3, .inl ((v13 + 1)))] rfl ⟨rfl, rfl, rfl, rfl, trivial⟩ (ih22 _ ?_ σ41 ((v13 + 1)) hF44 ?_ rfl)
              · omega
              · omega
    refine wk_ls [(0, .inr (.inr (.ref 49))), (1, .inl (a1)), (2, .inl (q4)), (3, .inl (0))] rfl ⟨rfl, rfl, rfl, rfl, trivial⟩ ?_
    exact lp24 _ σ9 (0) hF12 (by omega) rfl
  ·
    simp only [sg_c, sg_nc] at h7
    refine wk_b tt_97 2 (pc' := 28) (ls' := [(2, .inl (q4)), (0, .inr (.inr (.ref 49))), (1, .inl (a1))]) (st' := [.inl (q4), .inr (.inr (.ref 49))]) (σ' := σ6) rfl ?_
    refine wk_call tt_97 rfl rfl rfl rfl rfl tt_94 rfl (by decide) (bt_13 z σ6 (q4)) (fun w45 σ46 hq47 => ?_)
    obtain ⟨rfl, hF48⟩ := hq47
    have hF49 := sg_F_t hF5 (sg_F_m (L := [49, 50, 51]) hF48 rfl)
    exact wk_rV tt_97 rfl rfl ⟨rfl, hF49⟩
