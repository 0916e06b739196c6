/-! Rows without ranges; reading and writing of rows that never throws. -/
section WKB
variable {E : am_E} {T : List am_M} {Sh : List sg_Sh} {d j pc : Nat} {ls : bm_L} {st : List bm_V} {σ : sg_S} {Q : Option bm_V → sg_S → Prop} {M : am_M}
theorem wk_if2n {x y : Int} {c : ClassFile.Cond} {off num : Int} {lk : am_K} {tgt : Nat} (hM : T[j]? = some M) (hq : am_find M.2.2.2.2 pc = some (pc, .if_icmp c off, num, lk)) (ht : (pc : Int) + off = (tgt : Int)) (k1 : sg_c c (sg_n x) (sg_n y) → wk E T Sh d j tgt ls st σ Q) (k2 : sg_nc c (sg_n x) (sg_n y) → wk E T Sh d j (pc + 3) ls st σ Q) : wk E T Sh d j pc ls (.inl y :: .inl x :: st) σ Q := by
  rcases sg_cnc c (sg_n x) (sg_n y) with h | h
  · obtain ⟨v, σ', h1, h2⟩ := k1 h
    exact ⟨v, σ', am_rT2 hM hq (sg_cT h) ht h1, h2⟩
  · obtain ⟨v, σ', h1, h2⟩ := k2 h
    exact ⟨v, σ', am_rF2 hM hq (sg_cF h) ht h1, h2⟩
theorem sg_n0 : sg_n 0 = 0 := rfl
theorem wk_ifn {x : Int} {c : ClassFile.Cond} {off num : Int} {lk : am_K} {tgt : Nat} (hM : T[j]? = some M) (hq : am_find M.2.2.2.2 pc = some (pc, .ifCond c off, num, lk)) (ht : (pc : Int) + off = (tgt : Int)) (k1 : sg_c c (sg_n x) 0 → wk E T Sh d j tgt ls st σ Q) (k2 : sg_nc c (sg_n x) 0 → wk E T Sh d j (pc + 3) ls st σ Q) : wk E T Sh d j pc ls (.inl x :: st) σ Q := by
  rcases sg_cnc c (sg_n x) 0 with h | h
  · obtain ⟨v, σ', h1, h2⟩ := k1 h
    exact ⟨v, σ', am_rT hM hq (sg_cT (y := 0) h) ht h1, h2⟩
  · obtain ⟨v, σ', h1, h2⟩ := k2 h
    exact ⟨v, σ', am_rF hM hq (sg_cF (y := 0) h) ht h1, h2⟩
theorem wk_eq {ls' : bm_L} {st' : List bm_V} (h1 : bm_ls ls' = bm_ls ls) (h2 : bm_st st' = bm_st st) (k : wk E T Sh d j pc ls' st' σ Q) : wk E T Sh d j pc ls st σ Q := by
  unfold wk at k ⊢
  rw [h1, h2] at k
  exact k
theorem wk_n2 {v : bm_V} {x : Int} (h : wk E T Sh d j pc ls (v :: .inl (sg_n x) :: st) σ Q) : wk E T Sh d j pc ls (v :: .inl x :: st) σ Q :=
  wk_eq rfl (by simp only [bm_st, List.map_cons, bm_v, sg_in]) h
theorem wk_len {a t n : Nat} {num : Int} {lk : am_K} (hM : T[j]? = some M) (hq : am_find M.2.2.2.2 pc = some (pc, .arraylength, num, lk)) (hh : sg_sh Sh a = some (.inl (t, n))) (ht : t < 4) (k : wk E T Sh d j (pc + 1) ls (.inl (n : Int) :: st) σ Q) : wk E T Sh d j pc ls (.inr (.inr (.ref a)) :: st) σ Q := by
  refine wk_b hM 1 (pc' := pc + 1) (ls' := ls) (st' := .inl (n : Int) :: st) (σ' := σ) ?_ k
  simp only [bm_run, hq, bm_step, bm_alen, hh, if_pos ht]
theorem wk_maxb {x y num : Int} {idx : Nat} {dat : List Nat} {tl : am_K} (hM : T[j]? = some M) (hq : am_find M.2.2.2.2 pc = some (pc, .invokestatic idx, num, (3000, 0 :: dat) :: tl)) (h8 : Nat.ble (bm_sum st) 8 = true) (k : ∀ q, wk E T Sh (d + 1) j (pc + 3) ls (.inl q :: st) σ Q) : wk E T Sh (d + 1) j pc ls (.inl y :: .inl x :: st) σ Q :=
  wk_n (wk_n2 (wk_max (k0 := 0) hM hq (sg_Rn x) (sg_Rn y) h8 (k _)))
theorem wk_minb {x y num : Int} {idx : Nat} {dat : List Nat} {tl : am_K} (hM : T[j]? = some M) (hq : am_find M.2.2.2.2 pc = some (pc, .invokestatic idx, num, (3000, 1 :: dat) :: tl)) (h8 : Nat.ble (bm_sum st) 8 = true) (k : ∀ q, wk E T Sh (d + 1) j (pc + 3) ls (.inl q :: st) σ Q) : wk E T Sh (d + 1) j pc ls (.inl y :: .inl x :: st) σ Q :=
  wk_n (wk_n2 (wk_min (k0 := 0) hM hq (sg_Rn x) (sg_Rn y) h8 (k _)))
theorem wk_absb {x num : Int} {idx : Nat} {dat : List Nat} {tl : am_K} (hM : T[j]? = some M) (hq : am_find M.2.2.2.2 pc = some (pc, .invokestatic idx, num, (3000, 2 :: dat) :: tl)) (h8 : Nat.ble (bm_sum st) 8 = true) (k : ∀ q, wk E T Sh (d + 1) j (pc + 3) ls (.inr (.inl q) :: st) σ Q) : wk E T Sh (d + 1) j pc ls (.inr (.inl x) :: st) σ Q :=
  wk_eq (st' := .inr (.inl (sg_nl x)) :: st) rfl (by simp only [bm_st, List.map_cons, bm_v, sg_lnl]) (wk_abs (k0 := 0) hM hq (sg_Rnl x) h8 (k _))
end WKB
def sx_at (σ : sg_S) (a : Nat) (n i : Int) : Int := if 0 ≤ i ∧ i < n then sg_g σ a i else 0
def sx_atl (σ : sg_S) (a : Nat) (n i : Int) : Int := if 0 ≤ i ∧ i < n then sg_gl σ a i else 0
def sx_put (σ : sg_S) (a : Nat) (n i x : Int) : sg_S := if 0 ≤ i ∧ i < n then sg_w σ a i x else σ
def sx_putl (σ : sg_S) (a : Nat) (n i x : Int) : sg_S := if 0 ≤ i ∧ i < n then sg_wl σ a i x else σ
section ATP
variable (z : Value) (σ : sg_S) (a n : Nat) (i x : Int)
theorem at_i0 (hh : sg_sh am_Sh0 a = some (.inl (0, n))) (hn : sg_R (n : Int)) (hR : sg_R i) : wx z 0 5 0 [(0, .inr (.inr (.ref a))), (1, .inl i)] [] σ (fun v σ' => v = some (.inl (sx_at σ a n i)) ∧ σ' = σ) := by
  refine wk_b tt_5 1 (pc' := 1) (ls' := [(0, .inr (.inr (.ref a))), (1, .inl i)]) (st' := [.inl i]) (σ' := σ) rfl ?_
  refine wk_if tt_5 (tgt := 16) rfl rfl hR (fun h => ?_) (fun h => ?_)
  · refine wk_b tt_5 1 (pc' := 17) (ls' := [(0, .inr (.inr (.ref a))), (1, .inl i)]) (st' := [.inl 0]) (σ' := σ) rfl ?_
    simp only [sg_c] at h
    exact wk_rI tt_5 rfl rfl ⟨by unfold sx_at; rw [if_neg (by omega)], rfl⟩
  · simp only [sg_nc] at h
    refine wk_b tt_5 2 (pc' := 6) (ls' := [(0, .inr (.inr (.ref a))), (1, .inl i)]) (st' := [.inr (.inr (.ref a)), .inl i]) (σ' := σ) rfl ?_
    refine wk_len tt_5 rfl hh (by decide) ?_
    refine wk_if2 tt_5 (tgt := 16) rfl rfl hR hn (fun h2 => ?_) (fun h2 => ?_)
    · refine wk_b tt_5 1 (pc' := 17) (ls' := [(0, .inr (.inr (.ref a))), (1, .inl i)]) (st' := [.inl 0]) (σ' := σ) rfl ?_
      simp only [sg_c] at h2
      exact wk_rI tt_5 rfl rfl ⟨by unfold sx_at; rw [if_neg (by omega)], rfl⟩
    · simp only [sg_nc] at h2
      refine wk_b tt_5 2 (pc' := 12) (ls' := [(0, .inr (.inr (.ref a))), (1, .inl i)]) (st' := [.inl i, .inr (.inr (.ref a))]) (σ' := σ) rfl ?_
      refine wk_ia tt_5 rfl hh h h2 hR ?_
      refine wk_b tt_5 1 (pc' := 17) (ls' := [(0, .inr (.inr (.ref a))), (1, .inl i)]) (st' := [.inl (sg_g σ a i)]) (σ' := σ) rfl ?_
      exact wk_rI tt_5 rfl rfl ⟨by unfold sx_at; rw [if_pos ⟨h, h2⟩], rfl⟩
theorem at_i (hh : sg_sh am_Sh0 a = some (.inl (0, n))) (hn : sg_R (n : Int)) : wx z 0 5 0 [(0, .inr (.inr (.ref a))), (1, .inl i)] [] σ (fun v σ' => v = some (.inl (sx_at σ a n (sg_n i))) ∧ σ' = σ) :=
  wk_eq (ls' := [(0, .inr (.inr (.ref a))), (1, .inl (sg_n i))]) (by simp only [bm_ls, List.map_cons, bm_v, sg_in]) rfl (at_i0 z σ a n (sg_n i) hh hn (sg_Rn i))
theorem at_l0 (hh : sg_sh am_Sh0 a = some (.inl (2, n))) (hn : sg_R (n : Int)) (hR : sg_R i) : wx z 0 6 0 [(0, .inr (.inr (.ref a))), (1, .inl i)] [] σ (fun v σ' => v = some (.inr (.inl (sx_atl σ a n i))) ∧ σ' = σ) := by
  refine wk_b tt_6 1 (pc' := 1) (ls' := [(0, .inr (.inr (.ref a))), (1, .inl i)]) (st' := [.inl i]) (σ' := σ) rfl ?_
  refine wk_if tt_6 (tgt := 16) rfl rfl hR (fun h => ?_) (fun h => ?_)
  · refine wk_b tt_6 1 (pc' := 17) (ls' := [(0, .inr (.inr (.ref a))), (1, .inl i)]) (st' := [.inr (.inl 0)]) (σ' := σ) rfl ?_
    simp only [sg_c] at h
    exact wk_rL tt_6 rfl rfl ⟨by unfold sx_atl; rw [if_neg (by omega)], rfl⟩
  · simp only [sg_nc] at h
    refine wk_b tt_6 2 (pc' := 6) (ls' := [(0, .inr (.inr (.ref a))), (1, .inl i)]) (st' := [.inr (.inr (.ref a)), .inl i]) (σ' := σ) rfl ?_
    refine wk_len tt_6 rfl hh (by decide) ?_
    refine wk_if2 tt_6 (tgt := 16) rfl rfl hR hn (fun h2 => ?_) (fun h2 => ?_)
    · refine wk_b tt_6 1 (pc' := 17) (ls' := [(0, .inr (.inr (.ref a))), (1, .inl i)]) (st' := [.inr (.inl 0)]) (σ' := σ) rfl ?_
      simp only [sg_c] at h2
      exact wk_rL tt_6 rfl rfl ⟨by unfold sx_atl; rw [if_neg (by omega)], rfl⟩
    · simp only [sg_nc] at h2
      refine wk_b tt_6 2 (pc' := 12) (ls' := [(0, .inr (.inr (.ref a))), (1, .inl i)]) (st' := [.inl i, .inr (.inr (.ref a))]) (σ' := σ) rfl ?_
      refine wk_la tt_6 rfl hh h h2 hR ?_
      refine wk_b tt_6 1 (pc' := 17) (ls' := [(0, .inr (.inr (.ref a))), (1, .inl i)]) (st' := [.inr (.inl (sg_gl σ a i))]) (σ' := σ) rfl ?_
      exact wk_rL tt_6 rfl rfl ⟨by unfold sx_atl; rw [if_pos ⟨h, h2⟩], rfl⟩
theorem at_l (hh : sg_sh am_Sh0 a = some (.inl (2, n))) (hn : sg_R (n : Int)) : wx z 0 6 0 [(0, .inr (.inr (.ref a))), (1, .inl i)] [] σ (fun v σ' => v = some (.inr (.inl (sx_atl σ a n (sg_n i)))) ∧ σ' = σ) :=
  wk_eq (ls' := [(0, .inr (.inr (.ref a))), (1, .inl (sg_n i))]) (by simp only [bm_ls, List.map_cons, bm_v, sg_in]) rfl (at_l0 z σ a n (sg_n i) hh hn (sg_Rn i))
theorem pt_i0 (hh : sg_sh am_Sh0 a = some (.inl (0, n))) (hn : sg_R (n : Int)) (hR : sg_R i) : wx z 0 21 0 [(0, .inr (.inr (.ref a))), (1, .inl i), (2, .inl x)] [] σ (fun v σ' => v = none ∧ σ' = sx_put σ a n i x) := by
  refine wk_b tt_21 1 (pc' := 1) (ls' := [(0, .inr (.inr (.ref a))), (1, .inl i), (2, .inl x)]) (st' := [.inl i]) (σ' := σ) rfl ?_
  refine wk_if tt_21 (tgt := 14) rfl rfl hR (fun h => ?_) (fun h => ?_)
  · simp only [sg_c] at h
    exact wk_rV tt_21 rfl rfl ⟨rfl, by unfold sx_put; rw [if_neg (by omega)]⟩
  · simp only [sg_nc] at h
    refine wk_b tt_21 2 (pc' := 6) (ls' := [(0, .inr (.inr (.ref a))), (1, .inl i), (2, .inl x)]) (st' := [.inr (.inr (.ref a)), .inl i]) (σ' := σ) rfl ?_
    refine wk_len tt_21 rfl hh (by decide) ?_
    refine wk_if2 tt_21 (tgt := 14) rfl rfl hR hn (fun h2 => ?_) (fun h2 => ?_)
    · simp only [sg_c] at h2
      exact wk_rV tt_21 rfl rfl ⟨rfl, by unfold sx_put; rw [if_neg (by omega)]⟩
    · simp only [sg_nc] at h2
      refine wk_b tt_21 3 (pc' := 13) (ls' := [(0, .inr (.inr (.ref a))), (1, .inl i), (2, .inl x)]) (st' := [.inl x, .inl i, .inr (.inr (.ref a))]) (σ' := σ) rfl ?_
      refine wk_is tt_21 rfl hh h h2 hR ?_
      exact wk_rV tt_21 rfl rfl ⟨rfl, by unfold sx_put; rw [if_pos ⟨h, h2⟩]⟩
theorem pt_i (hh : sg_sh am_Sh0 a = some (.inl (0, n))) (hn : sg_R (n : Int)) : wx z 0 21 0 [(0, .inr (.inr (.ref a))), (1, .inl i), (2, .inl x)] [] σ (fun v σ' => v = none ∧ σ' = sx_put σ a n (sg_n i) x) :=
  wk_eq (ls' := [(0, .inr (.inr (.ref a))), (1, .inl (sg_n i)), (2, .inl x)]) (by simp only [bm_ls, List.map_cons, bm_v, sg_in]) rfl (pt_i0 z σ a n (sg_n i) x hh hn (sg_Rn i))
theorem pt_l0 (hh : sg_sh am_Sh0 a = some (.inl (2, n))) (hn : sg_R (n : Int)) (hR : sg_R i) : wx z 0 22 0 [(0, .inr (.inr (.ref a))), (1, .inl i), (2, .inr (.inl x))] [] σ (fun v σ' => v = none ∧ σ' = sx_putl σ a n i x) := by
  refine wk_b tt_22 1 (pc' := 1) (ls' := [(0, .inr (.inr (.ref a))), (1, .inl i), (2, .inr (.inl x))]) (st' := [.inl i]) (σ' := σ) rfl ?_
  refine wk_if tt_22 (tgt := 14) rfl rfl hR (fun h => ?_) (fun h => ?_)
  · simp only [sg_c] at h
    exact wk_rV tt_22 rfl rfl ⟨rfl, by unfold sx_putl; rw [if_neg (by omega)]⟩
  · simp only [sg_nc] at h
    refine wk_b tt_22 2 (pc' := 6) (ls' := [(0, .inr (.inr (.ref a))), (1, .inl i), (2, .inr (.inl x))]) (st' := [.inr (.inr (.ref a)), .inl i]) (σ' := σ) rfl ?_
    refine wk_len tt_22 rfl hh (by decide) ?_
    refine wk_if2 tt_22 (tgt := 14) rfl rfl hR hn (fun h2 => ?_) (fun h2 => ?_)
    · simp only [sg_c] at h2
      exact wk_rV tt_22 rfl rfl ⟨rfl, by unfold sx_putl; rw [if_neg (by omega)]⟩
    · simp only [sg_nc] at h2
      refine wk_b tt_22 3 (pc' := 13) (ls' := [(0, .inr (.inr (.ref a))), (1, .inl i), (2, .inr (.inl x))]) (st' := [.inr (.inl x), .inl i, .inr (.inr (.ref a))]) (σ' := σ) rfl ?_
      refine wk_lS tt_22 rfl hh h h2 hR ?_
      exact wk_rV tt_22 rfl rfl ⟨rfl, by unfold sx_putl; rw [if_pos ⟨h, h2⟩]⟩
theorem pt_l (hh : sg_sh am_Sh0 a = some (.inl (2, n))) (hn : sg_R (n : Int)) : wx z 0 22 0 [(0, .inr (.inr (.ref a))), (1, .inl i), (2, .inr (.inl x))] [] σ (fun v σ' => v = none ∧ σ' = sx_putl σ a n (sg_n i) x) :=
  wk_eq (ls' := [(0, .inr (.inr (.ref a))), (1, .inl (sg_n i)), (2, .inr (.inl x))]) (by simp only [bm_ls, List.map_cons, bm_v, sg_in]) rfl (pt_l0 z σ a n (sg_n i) x hh hn (sg_Rn i))
end ATP
theorem sg_F_p {L : List Nat} {σ σ1 : sg_S} (h : sg_F L σ σ1) {a : Nat} (ha : L.contains a = true) (n i x : Int) : sg_F L σ (sx_put σ1 a n i x) := by
  unfold sx_put
  split
  · exact sg_F_w h (show sg_cv L a i = true by unfold sg_cv; rw [ha]; rfl) _
  · exact h
theorem sg_F_pl {L : List Nat} {σ σ1 : sg_S} (h : sg_F L σ σ1) {a : Nat} (ha : L.contains a = true) (n i x : Int) : sg_F L σ (sx_putl σ1 a n i x) := by
  unfold sx_putl
  split
  · exact sg_F_wl h (show sg_cv L a i = true by unfold sg_cv; rw [ha]; rfl) _
  · exact h
theorem wk_callp {E : am_E} {T : List am_M} {Sh : List sg_Sh} {d j pc : Nat} {ls : bm_L} {st : List bm_V} {σ σ1 : sg_S} {Q : Option bm_V → sg_S → Prop} {M : am_M} {j2 d2 : Nat} {i : Instr} {num : Int} {lk : am_K} {as r : List bm_V} {M2 : am_M} {v0 : Option bm_V} (hM : T[j]? = some M) (hq : am_find M.2.2.2.2 pc = some (pc, i, num, lk)) (hso : am_sort i = 3) (hlk : lk.isEmpty = false) (hp : am_isP lk = false) (hc : bm_call E Sh i lk st = some (j2, as, r)) (hM2 : T[j2]? = some M2) (hcond : bm_may M2.2.2.1 as r = true) (hd : d2 ≤ d) (k1 : wk E T Sh d2 j2 0 (bm_args 0 as) [] σ (fun v σ' => v = v0 ∧ σ' = σ1)) (k2 : wk E T Sh (d + 1) j (pc + 3) ls (v0.toList ++ r) σ1 Q) : wk E T Sh (d + 1) j pc ls st σ Q :=
  wk_call hM hq hso hlk hp hc hM2 hcond hd k1 (fun v σ' h => by obtain ⟨h1, h2⟩ := h; rw [h1, h2]; exact k2)
theorem sg_n_sub (x y : Int) : sg_n (x - y) = sg_n (sg_n x - y) := by
  unfold sg_n
  congr 1
  have := sg_in x
  unfold sg_n sg_i at this
  unfold sg_i
  rw [Int32.ofInt_sub, Int32.ofInt_sub, this]
theorem sg_n_add (x y : Int) : sg_n (x + y) = sg_n (sg_n x + y) := by
  unfold sg_n
  congr 1
  have := sg_in x
  unfold sg_n sg_i at this
  unfold sg_i
  rw [Int32.ofInt_add, Int32.ofInt_add, this]
theorem sg_n_pred {x : Int} (h : -2147483648 < sg_n x) : sg_n (x - 1) = sg_n x - 1 := by
  rw [sg_n_sub]
  have := sg_Rn x
  exact sg_id (by omega)
theorem wk_callb {E : am_E} {T : List am_M} {Sh : List sg_Sh} {d j pc : Nat} {ls : bm_L} {st : List bm_V} {σ σ1 : sg_S} {Q : Option bm_V → sg_S → Prop} {M : am_M} {j2 d2 : Nat} {i : Instr} {num : Int} {lk : am_K} {as r : List bm_V} {M2 : am_M} {P : Prop} (hM : T[j]? = some M) (hq : am_find M.2.2.2.2 pc = some (pc, i, num, lk)) (hso : am_sort i = 3) (hlk : lk.isEmpty = false) (hp : am_isP lk = false) (hc : bm_call E Sh i lk st = some (j2, as, r)) (hM2 : T[j2]? = some M2) (hcond : bm_may M2.2.2.1 as r = true) (hd : d2 ≤ d) (k1 : wk E T Sh d2 j2 0 (bm_args 0 as) [] σ (fun v σ' => σ' = σ1 ∧ (v = some (.inl 1) ∧ P ∨ v = some (.inl 0) ∧ ¬ P))) (kt : P → wk E T Sh (d + 1) j (pc + 3) ls (.inl 1 :: r) σ1 Q) (kf : ¬ P → wk E T Sh (d + 1) j (pc + 3) ls (.inl 0 :: r) σ1 Q) : wk E T Sh (d + 1) j pc ls st σ Q :=
  wk_call hM hq hso hlk hp hc hM2 hcond hd k1 (fun v σ' h => by
    obtain ⟨h1, h2 | h2⟩ := h
    · obtain ⟨h2, h3⟩ := h2
      rw [h1, h2]
      exact kt h3
    · obtain ⟨h2, h3⟩ := h2
      rw [h1, h2]
      exact kf h3)
theorem wk_bf {E : am_E} {T : List am_M} {Sh : List sg_Sh} {d j pc : Nat} {ls : bm_L} {st : List bm_V} {σ : sg_S} {Q : Option bm_V → sg_S → Prop} {M : am_M} {k : Nat} {i : Int} {num : Int} {lk : am_K} {bs : List Int32} {x : Int} (hM : T[j]? = some M) (hq : am_find M.2.2.2.2 pc = some (pc, .baload, num, lk)) (hb : E.2.1[k]? = some bs) (hk : Nat.ble k 8000 = true) (hx : bs[i.toNat]? = some (sg_i x)) (hi : decide (0 ≤ i ∧ i < 2147483647) = true) (kk : wk E T Sh d j (pc + 1) ls (.inl x :: st) σ Q) : wk E T Sh d j pc ls (.inl i :: .inr (.inr (.retAddr (1000 + k))) :: st) σ Q := by
  obtain ⟨v, σ', h1, h2⟩ := kk
  have hk' : k ≤ 8000 := Nat.le_of_ble_eq_true hk
  have hi' : 0 ≤ i ∧ i < 2147483647 := of_decide_eq_true hi
  have hl : i.toNat < bs.length := (List.getElem?_eq_some_iff.mp hx).1
  obtain ⟨e1, e2⟩ := sg_ix (n := bs.length) (i := i) hi'.1 (by omega) (by omega)
  have e3 : (sg_i i).toNatClampNeg = i.toNat := by omega
  rw [e3] at e1
  refine ⟨v, σ', am_r0 (S := (pc + 1, bm_ls ls, bm_st (.inl x :: st))) hM hq rfl ?_ h1, h2⟩
  have h9 : ¬ 1000 + k = 9999 := by omega
  have h10 : ¬ 1000 + k < 1000 := by omega
  have h11 : 1000 + k - 1000 = k := by omega
  simp only [bm_st, List.map_cons, bm_v, am_step, am_rdI, am_rowI, if_neg h9, if_neg h10, h11, hb, if_true, if_neg e1, e3]
  rw [List.getD_eq_getElem?_getD, hx]
  rfl
