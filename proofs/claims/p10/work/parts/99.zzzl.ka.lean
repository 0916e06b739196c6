/-! THE LAW'S LOOP, by walks over the cells that both objects stand in. -/
/-- an int of the script -/
def x9 (xs : Nat → Int32) (i : Int) : Int := (xs i.toNat).toInt
theorem x9_R (xs : Nat → Int32) (i : Int) : sg_R (x9 xs i) := sg_Rr _
/-- what holds with no script holds with one -/
theorem wk_sc {z : Value} (sc : Option (Nat × (Nat → Int32))) {d j pc : Nat} {ls : bm_L} {st : List bm_V} {σ : sg_S} {Q : Option bm_V → sg_S → Prop} (h : wx z d j pc ls st σ Q) : wk (am_E0 z sc) am_T0 am_Sh0 d j pc ls st σ Q := by
  obtain ⟨v, σ', ⟨n, hn⟩, hQ⟩ := h
  exact ⟨v, σ', ⟨n, am_ex_sc sc (Nat.le_refl n) (Nat.le_refl d) hn⟩, hQ⟩
section WK9
variable {E : am_E} {T : List am_M} {Sh : List sg_Sh} {d j pc : Nat} {ls : bm_L} {st : List bm_V} {σ : sg_S} {Q : Option bm_V → sg_S → Prop} {M : am_M}
theorem wk_x9 {L : Nat} {xs : Nat → Int32} {i : Int} {num : Int} {lk : am_K} (hM : T[j]? = some M) (hq : am_find M.2.2.2.2 pc = some (pc, .iaload, num, lk)) (hE : E.2.2.2 = some (L, xs)) (hi : 0 ≤ i) (hn : i < (L : Int)) (hR : sg_R i) (k : wk E T Sh d j (pc + 1) ls (.inl (x9 xs i) :: st) σ Q) : wk E T Sh d j pc ls (.inl i :: .inr (.inr (.retAddr 9999)) :: st) σ Q := by
  obtain ⟨v, σ', h1, h2⟩ := k
  obtain ⟨e1, e2⟩ := sg_ix hi hn hR
  have e3 : (sg_i i).toNatClampNeg = i.toNat := by omega
  rw [e3] at e1
  refine ⟨v, σ', am_r0 (S := (pc + 1, bm_ls ls, bm_st (.inl (x9 xs i) :: st))) hM hq rfl ?_ h1, h2⟩
  have e4 : sg_i (x9 xs i) = xs i.toNat := Int32.ofInt_toInt _
  simp only [bm_st, List.map_cons, bm_v, am_step, am_rdI, am_rowI, if_true, hE, if_neg e1, e3, e4]
theorem wk_l9 {L : Nat} {xs : Nat → Int32} {num : Int} {lk : am_K} (hM : T[j]? = some M) (hq : am_find M.2.2.2.2 pc = some (pc, .arraylength, num, lk)) (hE : E.2.2.2 = some (L, xs)) (k : wk E T Sh d j (pc + 1) ls (.inl (L : Int) :: st) σ Q) : wk E T Sh d j pc ls (.inr (.inr (.retAddr 9999)) :: st) σ Q := by
  obtain ⟨v, σ', h1, h2⟩ := k
  refine ⟨v, σ', am_r0 (S := (pc + 1, bm_ls ls, bm_st (.inl (L : Int) :: st))) hM hq rfl ?_ h1, h2⟩
  have e4 : sg_i (L : Int) = Int32.ofNat L := rfl
  simp only [bm_st, List.map_cons, bm_v, am_step, am_alen, am_len0, if_true, hE, Option.map_some, e4]
end WK9
theorem and15 (x : Int32) : ∃ k : Nat, k < 16 ∧ (x &&& sg_i 15).toInt = (k : Int) := by
  have l : (x.toBitVec &&& 15#32).toNat < 16 := by
    rw [BitVec.toNat_and]
    exact Nat.lt_of_le_of_lt Nat.and_le_right (by decide)
  refine ⟨(x.toBitVec &&& 15#32).toNat, l, ?_⟩
  have e : (x &&& sg_i 15).toBitVec = x.toBitVec &&& 15#32 := by
    rw [Int32.toBitVec_and]
    rfl
  rw [← Int32.toInt_toBitVec, e, BitVec.toInt_eq_toNat_of_lt (by omega)]
section LWL
variable {z : Value} {L : Nat} {xs : Nat → Int32} {Q : Option bm_V → sg_S → Prop}
set_option maxHeartbeats 4000000 in
set_option maxRecDepth 8000 in
theorem lc_0 {i : Int} {σ : sg_S} (h : lwM σ) (hi : 0 ≤ i) (hL : i + 3 ≤ (L : Int)) (hB : (L : Int) ≤ 1536) (hk : ∀ σ2, lwM σ2 → wk (am_E0 z (some (L, xs))) am_T0 am_Sh0 (999 + 1) 0 404 [(3, .inl (i)), (2, .inr (.inr (.ref 88))), (1, .inr (.inr (.ref 0))), (0, .inr (.inr (.retAddr 9999)))] [] σ2 Q) : wk (am_E0 z (some (L, xs))) am_T0 am_Sh0 (999 + 1) 0 96 [(3, .inl (i)), (2, .inr (.inr (.ref 88))), (1, .inr (.inr (.ref 0))), (0, .inr (.inr (.retAddr 9999)))] [] σ Q := by
  refine wk_b tt_0 5 (pc' := 101) (ls' := [(3, .inl (i)), (2, .inr (.inr (.ref 88))), (1, .inr (.inr (.ref 0))), (0, .inr (.inr (.retAddr 9999)))]) (st' := [.inl (i + 1), .inr (.inr (.retAddr 9999)), .inr (.inr (.ref 0))]) (σ' := σ) rfl ?_
  refine wk_x9 tt_0 rfl rfl (by omega) (by omega) ⟨by omega, by omega⟩ ?_
  refine wk_b tt_0 7 (pc' := 110) (ls' := [(3, .inl (i)), (2, .inr (.inr (.ref 88))), (1, .inr (.inr (.ref 0))), (0, .inr (.inr (.retAddr 9999)))]) (st' := [.inl (i + 2), .inr (.inr (.retAddr 9999)), .inr (.inl ((sg_l (sg_n (x9 xs (i + 1))) <<< ((sg_i (32)).toInt64 &&& 63)).toInt)), .inr (.inr (.ref 0))]) (σ' := σ) rfl ?_
  refine wk_x9 tt_0 rfl rfl (by omega) (by omega) ⟨by omega, by omega⟩ ?_
  refine wk_b tt_0 4 (pc' := 117) (ls' := [(3, .inl (i)), (2, .inr (.inr (.ref 88))), (1, .inr (.inr (.ref 0))), (0, .inr (.inr (.retAddr 9999)))]) (st' := [.inr (.inl ((sg_l ((sg_l (sg_n (x9 xs (i + 1))) <<< ((sg_i (32)).toInt64 &&& 63)).toInt) ||| sg_l ((sg_l (sg_n (x9 xs (i + 2))) &&& sg_l (4294967295)).toInt)).toInt)), .inr (.inr (.ref 0))]) (σ' := σ) rfl ?_
  refine wk_call tt_0 rfl rfl rfl rfl rfl tt_14 rfl (by decide) (wk_sc _ (lm_feed z (sg_RLr _) h)) (fun v1 σ1 hv1 => ?_)
  obtain ⟨q1, rfl, rq1, w1⟩ := hv1
  refine wk_b tt_0 6 (pc' := 126) (ls' := [(3, .inl (i)), (2, .inr (.inr (.ref 88))), (1, .inr (.inr (.ref 0))), (0, .inr (.inr (.retAddr 9999)))]) (st' := [.inl (i + 1), .inr (.inr (.retAddr 9999)), .inr (.inr (.ref 88))]) (σ' := σ1) rfl ?_
  refine wk_x9 tt_0 rfl rfl (by omega) (by omega) ⟨by omega, by omega⟩ ?_
  refine wk_b tt_0 7 (pc' := 135) (ls' := [(3, .inl (i)), (2, .inr (.inr (.ref 88))), (1, .inr (.inr (.ref 0))), (0, .inr (.inr (.retAddr 9999)))]) (st' := [.inl (i + 2), .inr (.inr (.retAddr 9999)), .inr (.inl ((sg_l (sg_n (x9 xs (i + 1))) <<< ((sg_i (32)).toInt64 &&& 63)).toInt)), .inr (.inr (.ref 88))]) (σ' := σ1) rfl ?_
  refine wk_x9 tt_0 rfl rfl (by omega) (by omega) ⟨by omega, by omega⟩ ?_
  refine wk_b tt_0 4 (pc' := 142) (ls' := [(3, .inl (i)), (2, .inr (.inr (.ref 88))), (1, .inr (.inr (.ref 0))), (0, .inr (.inr (.retAddr 9999)))]) (st' := [.inr (.inl ((sg_l ((sg_l (sg_n (x9 xs (i + 1))) <<< ((sg_i (32)).toInt64 &&& 63)).toInt) ||| sg_l ((sg_l (sg_n (x9 xs (i + 2))) &&& sg_l (4294967295)).toInt)).toInt)), .inr (.inr (.ref 88))]) (σ' := σ1) rfl ?_
  refine wk_call tt_0 rfl rfl rfl rfl rfl tt_229 rfl (by decide) (wk_sc _ w1) (fun v2 σ2 hv2 => ?_)
  obtain ⟨q2, rfl, rq2, R2, h2⟩ := hv2
  refine wk_b tt_0 2 (pc' := 404) (ls' := [(3, .inl (i)), (2, .inr (.inr (.ref 88))), (1, .inr (.inr (.ref 0))), (0, .inr (.inr (.retAddr 9999)))]) (st' := []) (σ' := σ2) rfl ?_
  exact hk _ h2
set_option maxHeartbeats 4000000 in
set_option maxRecDepth 8000 in
theorem lc_1 {i : Int} {σ : sg_S} (h : lwM σ) (hi : 0 ≤ i) (hL : i + 3 ≤ (L : Int)) (hB : (L : Int) ≤ 1536) (hk : ∀ σ2, lwM σ2 → wk (am_E0 z (some (L, xs))) am_T0 am_Sh0 (999 + 1) 0 404 [(3, .inl (i)), (2, .inr (.inr (.ref 88))), (1, .inr (.inr (.ref 0))), (0, .inr (.inr (.retAddr 9999)))] [] σ2 Q) : wk (am_E0 z (some (L, xs))) am_T0 am_Sh0 (999 + 1) 0 149 [(3, .inl (i)), (2, .inr (.inr (.ref 88))), (1, .inr (.inr (.ref 0))), (0, .inr (.inr (.retAddr 9999)))] [] σ Q := by
  refine wk_b tt_0 5 (pc' := 154) (ls' := [(3, .inl (i)), (2, .inr (.inr (.ref 88))), (1, .inr (.inr (.ref 0))), (0, .inr (.inr (.retAddr 9999)))]) (st' := [.inl (i + 1), .inr (.inr (.retAddr 9999)), .inr (.inr (.ref 0))]) (σ' := σ) rfl ?_
  refine wk_x9 tt_0 rfl rfl (by omega) (by omega) ⟨by omega, by omega⟩ ?_
  refine wk_call tt_0 rfl rfl rfl rfl rfl tt_11 rfl (by decide) (wk_sc _ (lm_cut z (x9_R _ _) h)) (fun v3 σ3 hv3 => ?_)
  obtain ⟨q3, rfl, rq3, w3⟩ := hv3
  refine wk_b tt_0 6 (pc' := 164) (ls' := [(3, .inl (i)), (2, .inr (.inr (.ref 88))), (1, .inr (.inr (.ref 0))), (0, .inr (.inr (.retAddr 9999)))]) (st' := [.inl (i + 1), .inr (.inr (.retAddr 9999)), .inr (.inr (.ref 88))]) (σ' := σ3) rfl ?_
  refine wk_x9 tt_0 rfl rfl (by omega) (by omega) ⟨by omega, by omega⟩ ?_
  refine wk_call tt_0 rfl rfl rfl rfl rfl tt_219 rfl (by decide) (wk_sc _ w3) (fun v4 σ4 hv4 => ?_)
  obtain ⟨q4, rfl, rq4, R4, h4⟩ := hv4
  refine wk_b tt_0 2 (pc' := 404) (ls' := [(3, .inl (i)), (2, .inr (.inr (.ref 88))), (1, .inr (.inr (.ref 0))), (0, .inr (.inr (.retAddr 9999)))]) (st' := []) (σ' := σ4) rfl ?_
  exact hk _ h4
set_option maxHeartbeats 4000000 in
set_option maxRecDepth 8000 in
theorem lc_2 {i : Int} {σ : sg_S} (h : lwM σ) (hi : 0 ≤ i) (hL : i + 3 ≤ (L : Int)) (hB : (L : Int) ≤ 1536) (hk : ∀ σ2, lwM σ2 → wk (am_E0 z (some (L, xs))) am_T0 am_Sh0 (999 + 1) 0 404 [(3, .inl (i)), (2, .inr (.inr (.ref 88))), (1, .inr (.inr (.ref 0))), (0, .inr (.inr (.retAddr 9999)))] [] σ2 Q) : wk (am_E0 z (some (L, xs))) am_T0 am_Sh0 (999 + 1) 0 172 [(3, .inl (i)), (2, .inr (.inr (.ref 88))), (1, .inr (.inr (.ref 0))), (0, .inr (.inr (.retAddr 9999)))] [] σ Q := by
  refine wk_b tt_0 1 (pc' := 173) (ls' := [(3, .inl (i)), (2, .inr (.inr (.ref 88))), (1, .inr (.inr (.ref 0))), (0, .inr (.inr (.retAddr 9999)))]) (st' := [.inr (.inr (.ref 0))]) (σ' := σ) rfl ?_
  refine wk_call tt_0 rfl rfl rfl rfl rfl tt_23 rfl (by decide) (wk_sc _ (lm_read z h)) (fun v5 σ5 hv5 => ?_)
  obtain ⟨q5, rfl, rq5, w5⟩ := hv5
  refine wk_b tt_0 2 (pc' := 178) (ls' := [(3, .inl (i)), (2, .inr (.inr (.ref 88))), (1, .inr (.inr (.ref 0))), (0, .inr (.inr (.retAddr 9999)))]) (st' := [.inr (.inr (.ref 88))]) (σ' := σ5) rfl ?_
  refine wk_call tt_0 rfl rfl rfl rfl rfl tt_310 rfl (by decide) (wk_sc _ w5) (fun v6 σ6 hv6 => ?_)
  obtain ⟨q6, rfl, rq6, R6, h6⟩ := hv6
  refine wk_b tt_0 2 (pc' := 404) (ls' := [(3, .inl (i)), (2, .inr (.inr (.ref 88))), (1, .inr (.inr (.ref 0))), (0, .inr (.inr (.retAddr 9999)))]) (st' := []) (σ' := σ6) rfl ?_
  exact hk _ h6
set_option maxHeartbeats 4000000 in
set_option maxRecDepth 8000 in
theorem lc_3 {i : Int} {σ : sg_S} (h : lwM σ) (hi : 0 ≤ i) (hL : i + 3 ≤ (L : Int)) (hB : (L : Int) ≤ 1536) (hk : ∀ σ2, lwM σ2 → wk (am_E0 z (some (L, xs))) am_T0 am_Sh0 (999 + 1) 0 404 [(3, .inl (i)), (2, .inr (.inr (.ref 88))), (1, .inr (.inr (.ref 0))), (0, .inr (.inr (.retAddr 9999)))] [] σ2 Q) : wk (am_E0 z (some (L, xs))) am_T0 am_Sh0 (999 + 1) 0 185 [(3, .inl (i)), (2, .inr (.inr (.ref 88))), (1, .inr (.inr (.ref 0))), (0, .inr (.inr (.retAddr 9999)))] [] σ Q := by
  refine wk_b tt_0 1 (pc' := 186) (ls' := [(3, .inl (i)), (2, .inr (.inr (.ref 88))), (1, .inr (.inr (.ref 0))), (0, .inr (.inr (.retAddr 9999)))]) (st' := [.inr (.inr (.ref 0))]) (σ' := σ) rfl ?_
  refine wk_call tt_0 rfl rfl rfl rfl rfl tt_13 rfl (by decide) (wk_sc _ (lm_c_fault z h)) (fun v7 σ7 hv7 => ?_)
  obtain ⟨q7, rfl, rq7, h7⟩ := hv7
  refine wk_b tt_0 2 (pc' := 191) (ls' := [(3, .inl (i)), (2, .inr (.inr (.ref 88))), (1, .inr (.inr (.ref 0))), (0, .inr (.inr (.retAddr 9999)))]) (st' := [.inr (.inr (.ref 88))]) (σ' := σ7) rfl ?_
  refine wk_call tt_0 rfl rfl rfl rfl rfl tt_228 rfl (by decide) (wk_sc _ (lm_r_fault z h7)) (fun v8 σ8 hv8 => ?_)
  obtain ⟨q8, rfl, rq8, h8⟩ := hv8
  refine wk_b tt_0 2 (pc' := 404) (ls' := [(3, .inl (i)), (2, .inr (.inr (.ref 88))), (1, .inr (.inr (.ref 0))), (0, .inr (.inr (.retAddr 9999)))]) (st' := []) (σ' := σ8) rfl ?_
  exact hk _ h8
set_option maxHeartbeats 4000000 in
set_option maxRecDepth 8000 in
theorem lc_4 {i : Int} {σ : sg_S} (h : lwM σ) (hi : 0 ≤ i) (hL : i + 3 ≤ (L : Int)) (hB : (L : Int) ≤ 1536) (hk : ∀ σ2, lwM σ2 → wk (am_E0 z (some (L, xs))) am_T0 am_Sh0 (999 + 1) 0 404 [(3, .inl (i)), (2, .inr (.inr (.ref 88))), (1, .inr (.inr (.ref 0))), (0, .inr (.inr (.retAddr 9999)))] [] σ2 Q) : wk (am_E0 z (some (L, xs))) am_T0 am_Sh0 (999 + 1) 0 198 [(3, .inl (i)), (2, .inr (.inr (.ref 88))), (1, .inr (.inr (.ref 0))), (0, .inr (.inr (.retAddr 9999)))] [] σ Q := by
  refine wk_b tt_0 5 (pc' := 203) (ls' := [(3, .inl (i)), (2, .inr (.inr (.ref 88))), (1, .inr (.inr (.ref 0))), (0, .inr (.inr (.retAddr 9999)))]) (st' := [.inl (i + 1), .inr (.inr (.retAddr 9999)), .inr (.inr (.ref 0))]) (σ' := σ) rfl ?_
  refine wk_x9 tt_0 rfl rfl (by omega) (by omega) ⟨by omega, by omega⟩ ?_
  refine wk_call tt_0 rfl rfl rfl rfl rfl tt_2 rfl (by decide) (wk_sc _ (lm_c_about z (x9_R _ _) h)) (fun v9 σ9 hv9 => ?_)
  obtain ⟨q9, rfl, rq9, h9⟩ := hv9
  refine wk_b tt_0 6 (pc' := 213) (ls' := [(3, .inl (i)), (2, .inr (.inr (.ref 88))), (1, .inr (.inr (.ref 0))), (0, .inr (.inr (.retAddr 9999)))]) (st' := [.inl (i + 1), .inr (.inr (.retAddr 9999)), .inr (.inr (.ref 88))]) (σ' := σ9) rfl ?_
  refine wk_x9 tt_0 rfl rfl (by omega) (by omega) ⟨by omega, by omega⟩ ?_
  refine wk_call tt_0 rfl rfl rfl rfl rfl tt_209 rfl (by decide) (wk_sc _ (lm_r_about z (x9_R _ _) h9)) (fun v10 σ10 hv10 => ?_)
  obtain ⟨q10, rfl, rq10, h10⟩ := hv10
  refine wk_b tt_0 2 (pc' := 404) (ls' := [(3, .inl (i)), (2, .inr (.inr (.ref 88))), (1, .inr (.inr (.ref 0))), (0, .inr (.inr (.retAddr 9999)))]) (st' := []) (σ' := σ10) rfl ?_
  exact hk _ h10
set_option maxHeartbeats 4000000 in
set_option maxRecDepth 8000 in
theorem lc_5 {i : Int} {σ : sg_S} (h : lwM σ) (hi : 0 ≤ i) (hL : i + 3 ≤ (L : Int)) (hB : (L : Int) ≤ 1536) (hk : ∀ σ2, lwM σ2 → wk (am_E0 z (some (L, xs))) am_T0 am_Sh0 (999 + 1) 0 404 [(3, .inl (i)), (2, .inr (.inr (.ref 88))), (1, .inr (.inr (.ref 0))), (0, .inr (.inr (.retAddr 9999)))] [] σ2 Q) : wk (am_E0 z (some (L, xs))) am_T0 am_Sh0 (999 + 1) 0 221 [(3, .inl (i)), (2, .inr (.inr (.ref 88))), (1, .inr (.inr (.ref 0))), (0, .inr (.inr (.retAddr 9999)))] [] σ Q := by
  refine wk_b tt_0 5 (pc' := 226) (ls' := [(3, .inl (i)), (2, .inr (.inr (.ref 88))), (1, .inr (.inr (.ref 0))), (0, .inr (.inr (.retAddr 9999)))]) (st' := [.inl (i + 1), .inr (.inr (.retAddr 9999)), .inr (.inr (.ref 0))]) (σ' := σ) rfl ?_
  refine wk_x9 tt_0 rfl rfl (by omega) (by omega) ⟨by omega, by omega⟩ ?_
  refine wk_b tt_0 4 (pc' := 231) (ls' := [(3, .inl (i)), (2, .inr (.inr (.ref 88))), (1, .inr (.inr (.ref 0))), (0, .inr (.inr (.retAddr 9999)))]) (st' := [.inl (i + 2), .inr (.inr (.retAddr 9999)), .inl (x9 xs (i + 1)), .inr (.inr (.ref 0))]) (σ' := σ) rfl ?_
  refine wk_x9 tt_0 rfl rfl (by omega) (by omega) ⟨by omega, by omega⟩ ?_
  refine wk_call tt_0 rfl rfl rfl rfl rfl tt_20 rfl (by decide) (wk_sc _ (lm_c_node z (x9_R _ _) (x9_R _ _) h)) (fun v11 σ11 hv11 => ?_)
  obtain ⟨q11, rfl, rq11, h11⟩ := hv11
  refine wk_b tt_0 6 (pc' := 241) (ls' := [(3, .inl (i)), (2, .inr (.inr (.ref 88))), (1, .inr (.inr (.ref 0))), (0, .inr (.inr (.retAddr 9999)))]) (st' := [.inl (i + 1), .inr (.inr (.retAddr 9999)), .inr (.inr (.ref 88))]) (σ' := σ11) rfl ?_
  refine wk_x9 tt_0 rfl rfl (by omega) (by omega) ⟨by omega, by omega⟩ ?_
  refine wk_b tt_0 4 (pc' := 246) (ls' := [(3, .inl (i)), (2, .inr (.inr (.ref 88))), (1, .inr (.inr (.ref 0))), (0, .inr (.inr (.retAddr 9999)))]) (st' := [.inl (i + 2), .inr (.inr (.retAddr 9999)), .inl (x9 xs (i + 1)), .inr (.inr (.ref 88))]) (σ' := σ11) rfl ?_
  refine wk_x9 tt_0 rfl rfl (by omega) (by omega) ⟨by omega, by omega⟩ ?_
  refine wk_call tt_0 rfl rfl rfl rfl rfl tt_295 rfl (by decide) (wk_sc _ (lm_r_node z (x9_R _ _) (x9_R _ _) h11)) (fun v12 σ12 hv12 => ?_)
  obtain ⟨q12, rfl, rq12, h12⟩ := hv12
  refine wk_b tt_0 2 (pc' := 404) (ls' := [(3, .inl (i)), (2, .inr (.inr (.ref 88))), (1, .inr (.inr (.ref 0))), (0, .inr (.inr (.retAddr 9999)))]) (st' := []) (σ' := σ12) rfl ?_
  exact hk _ h12
set_option maxHeartbeats 4000000 in
set_option maxRecDepth 8000 in
theorem lc_6 {i : Int} {σ : sg_S} (h : lwM σ) (hi : 0 ≤ i) (hL : i + 3 ≤ (L : Int)) (hB : (L : Int) ≤ 1536) (hk : ∀ σ2, lwM σ2 → wk (am_E0 z (some (L, xs))) am_T0 am_Sh0 (999 + 1) 0 404 [(3, .inl (i)), (2, .inr (.inr (.ref 88))), (1, .inr (.inr (.ref 0))), (0, .inr (.inr (.retAddr 9999)))] [] σ2 Q) : wk (am_E0 z (some (L, xs))) am_T0 am_Sh0 (999 + 1) 0 254 [(3, .inl (i)), (2, .inr (.inr (.ref 88))), (1, .inr (.inr (.ref 0))), (0, .inr (.inr (.retAddr 9999)))] [] σ Q := by
  refine wk_b tt_0 1 (pc' := 255) (ls' := [(3, .inl (i)), (2, .inr (.inr (.ref 88))), (1, .inr (.inr (.ref 0))), (0, .inr (.inr (.retAddr 9999)))]) (st' := [.inr (.inr (.ref 0))]) (σ' := σ) rfl ?_
  refine wk_call tt_0 rfl rfl rfl rfl rfl tt_19 rfl (by decide) (wk_sc _ (lm_nested z h)) (fun v13 σ13 hv13 => ?_)
  obtain ⟨q13, rfl, rq13, w13⟩ := hv13
  refine wk_b tt_0 2 (pc' := 260) (ls' := [(3, .inl (i)), (2, .inr (.inr (.ref 88))), (1, .inr (.inr (.ref 0))), (0, .inr (.inr (.retAddr 9999)))]) (st' := [.inr (.inr (.ref 88))]) (σ' := σ13) rfl ?_
  refine wk_call tt_0 rfl rfl rfl rfl rfl tt_292 rfl (by decide) (wk_sc _ w13) (fun v14 σ14 hv14 => ?_)
  obtain ⟨q14, rfl, rq14, R14, h14⟩ := hv14
  refine wk_b tt_0 2 (pc' := 404) (ls' := [(3, .inl (i)), (2, .inr (.inr (.ref 88))), (1, .inr (.inr (.ref 0))), (0, .inr (.inr (.retAddr 9999)))]) (st' := []) (σ' := σ14) rfl ?_
  exact hk _ h14
set_option maxHeartbeats 4000000 in
set_option maxRecDepth 8000 in
theorem lc_7 {i : Int} {σ : sg_S} (h : lwM σ) (hi : 0 ≤ i) (hL : i + 3 ≤ (L : Int)) (hB : (L : Int) ≤ 1536) (hk : ∀ σ2, lwM σ2 → wk (am_E0 z (some (L, xs))) am_T0 am_Sh0 (999 + 1) 0 404 [(3, .inl (i)), (2, .inr (.inr (.ref 88))), (1, .inr (.inr (.ref 0))), (0, .inr (.inr (.retAddr 9999)))] [] σ2 Q) : wk (am_E0 z (some (L, xs))) am_T0 am_Sh0 (999 + 1) 0 267 [(3, .inl (i)), (2, .inr (.inr (.ref 88))), (1, .inr (.inr (.ref 0))), (0, .inr (.inr (.retAddr 9999)))] [] σ Q := by
  refine wk_b tt_0 1 (pc' := 268) (ls' := [(3, .inl (i)), (2, .inr (.inr (.ref 88))), (1, .inr (.inr (.ref 0))), (0, .inr (.inr (.retAddr 9999)))]) (st' := [.inr (.inr (.ref 0))]) (σ' := σ) rfl ?_
  refine wk_call tt_0 rfl rfl rfl rfl rfl tt_15 rfl (by decide) (wk_sc _ (lm_flat z h)) (fun v15 σ15 hv15 => ?_)
  obtain ⟨q15, rfl, rq15, w15⟩ := hv15
  refine wk_b tt_0 2 (pc' := 273) (ls' := [(3, .inl (i)), (2, .inr (.inr (.ref 88))), (1, .inr (.inr (.ref 0))), (0, .inr (.inr (.retAddr 9999)))]) (st' := [.inr (.inr (.ref 88))]) (σ' := σ15) rfl ?_
  refine wk_call tt_0 rfl rfl rfl rfl rfl tt_231 rfl (by decide) (wk_sc _ w15) (fun v16 σ16 hv16 => ?_)
  obtain ⟨q16, rfl, rq16, R16, h16⟩ := hv16
  refine wk_b tt_0 2 (pc' := 404) (ls' := [(3, .inl (i)), (2, .inr (.inr (.ref 88))), (1, .inr (.inr (.ref 0))), (0, .inr (.inr (.retAddr 9999)))]) (st' := []) (σ' := σ16) rfl ?_
  exact hk _ h16
set_option maxHeartbeats 4000000 in
set_option maxRecDepth 8000 in
theorem lc_8 {i : Int} {σ : sg_S} (h : lwM σ) (hi : 0 ≤ i) (hL : i + 3 ≤ (L : Int)) (hB : (L : Int) ≤ 1536) (hk : ∀ σ2, lwM σ2 → wk (am_E0 z (some (L, xs))) am_T0 am_Sh0 (999 + 1) 0 404 [(3, .inl (i)), (2, .inr (.inr (.ref 88))), (1, .inr (.inr (.ref 0))), (0, .inr (.inr (.retAddr 9999)))] [] σ2 Q) : wk (am_E0 z (some (L, xs))) am_T0 am_Sh0 (999 + 1) 0 280 [(3, .inl (i)), (2, .inr (.inr (.ref 88))), (1, .inr (.inr (.ref 0))), (0, .inr (.inr (.retAddr 9999)))] [] σ Q := by
  refine wk_b tt_0 5 (pc' := 285) (ls' := [(3, .inl (i)), (2, .inr (.inr (.ref 88))), (1, .inr (.inr (.ref 0))), (0, .inr (.inr (.retAddr 9999)))]) (st' := [.inl (i + 1), .inr (.inr (.retAddr 9999)), .inr (.inr (.ref 0))]) (σ' := σ) rfl ?_
  refine wk_x9 tt_0 rfl rfl (by omega) (by omega) ⟨by omega, by omega⟩ ?_
  refine wk_call tt_0 rfl rfl rfl rfl rfl tt_18 rfl (by decide) (wk_sc _ (lm_meter z (x9_R _ _) h)) (fun v17 σ17 hv17 => ?_)
  obtain ⟨q17, rfl, rq17, w17⟩ := hv17
  refine wk_b tt_0 5 (pc' := 294) (ls' := [(3, .inl (i)), (2, .inr (.inr (.ref 88))), (1, .inr (.inr (.ref 0))), (0, .inr (.inr (.retAddr 9999)))]) (st' := [.inl (i + 1), .inr (.inr (.retAddr 9999)), .inr (.inr (.ref 88)), .inl (q17)]) (σ' := σ17) rfl ?_
  refine wk_x9 tt_0 rfl rfl (by omega) (by omega) ⟨by omega, by omega⟩ ?_
  refine wk_call tt_0 rfl rfl rfl rfl rfl tt_291 rfl (by decide) (wk_sc _ w17) (fun v18 σ18 hv18 => ?_)
  obtain ⟨q18, rfl, rq18, R18, h18⟩ := hv18
  refine wk_if2 tt_0 (tgt := 404) rfl rfl rq17 rq18 (fun _ => hk _ h18) (fun y => absurd R18.symm y)
set_option maxHeartbeats 4000000 in
set_option maxRecDepth 8000 in
theorem lc_9 {i : Int} {σ : sg_S} (h : lwM σ) (hi : 0 ≤ i) (hL : i + 3 ≤ (L : Int)) (hB : (L : Int) ≤ 1536) (hk : ∀ σ2, lwM σ2 → wk (am_E0 z (some (L, xs))) am_T0 am_Sh0 (999 + 1) 0 404 [(3, .inl (i)), (2, .inr (.inr (.ref 88))), (1, .inr (.inr (.ref 0))), (0, .inr (.inr (.retAddr 9999)))] [] σ2 Q) : wk (am_E0 z (some (L, xs))) am_T0 am_Sh0 (999 + 1) 0 303 [(3, .inl (i)), (2, .inr (.inr (.ref 88))), (1, .inr (.inr (.ref 0))), (0, .inr (.inr (.retAddr 9999)))] [] σ Q := by
  refine wk_b tt_0 5 (pc' := 308) (ls' := [(3, .inl (i)), (2, .inr (.inr (.ref 88))), (1, .inr (.inr (.ref 0))), (0, .inr (.inr (.retAddr 9999)))]) (st' := [.inl (i + 1), .inr (.inr (.retAddr 9999)), .inr (.inr (.ref 0))]) (σ' := σ) rfl ?_
  refine wk_x9 tt_0 rfl rfl (by omega) (by omega) ⟨by omega, by omega⟩ ?_
  refine wk_if tt_0 (tgt := 316) rfl rfl (x9_R _ _) (fun (y19 : x9 xs (i + 1) = 0) => ?_) (fun (y19 : ¬ x9 xs (i + 1) = 0) => ?_)
  ·
    refine wk_b tt_0 1 (pc' := 317) (ls' := [(3, .inl (i)), (2, .inr (.inr (.ref 88))), (1, .inr (.inr (.ref 0))), (0, .inr (.inr (.retAddr 9999)))]) (st' := [.inl (0), .inr (.inr (.ref 0))]) (σ' := σ) rfl ?_
    refine wk_call tt_0 rfl rfl rfl rfl rfl tt_24 rfl (by decide) (wk_sc _ (lm_c_shown z (by decide) h)) (fun v20 σ20 hv20 => ?_)
    obtain ⟨q20, rfl, rq20, h20⟩ := hv20
    refine wk_b tt_0 6 (pc' := 326) (ls' := [(3, .inl (i)), (2, .inr (.inr (.ref 88))), (1, .inr (.inr (.ref 0))), (0, .inr (.inr (.retAddr 9999)))]) (st' := [.inl (i + 1), .inr (.inr (.retAddr 9999)), .inr (.inr (.ref 88))]) (σ' := σ20) rfl ?_
    refine wk_x9 tt_0 rfl rfl (by omega) (by omega) ⟨by omega, by omega⟩ ?_
    refine wk_if tt_0 (tgt := 334) rfl rfl (x9_R _ _) (fun (y21 : x9 xs (i + 1) = 0) => ?_) (fun (y21 : ¬ x9 xs (i + 1) = 0) => ?_)
    ·
      refine wk_b tt_0 1 (pc' := 335) (ls' := [(3, .inl (i)), (2, .inr (.inr (.ref 88))), (1, .inr (.inr (.ref 0))), (0, .inr (.inr (.retAddr 9999)))]) (st' := [.inl (0), .inr (.inr (.ref 88))]) (σ' := σ20) rfl ?_
      refine wk_call tt_0 rfl rfl rfl rfl rfl tt_328 rfl (by decide) (wk_sc _ (lm_r_shown z (by decide) h20)) (fun v22 σ22 hv22 => ?_)
      obtain ⟨q22, rfl, rq22, h22⟩ := hv22
      refine wk_b tt_0 2 (pc' := 404) (ls' := [(3, .inl (i)), (2, .inr (.inr (.ref 88))), (1, .inr (.inr (.ref 0))), (0, .inr (.inr (.retAddr 9999)))]) (st' := []) (σ' := σ22) rfl ?_
      exact hk _ h22
    · exact absurd y19 y21
  ·
    refine wk_b tt_0 2 (pc' := 317) (ls' := [(3, .inl (i)), (2, .inr (.inr (.ref 88))), (1, .inr (.inr (.ref 0))), (0, .inr (.inr (.retAddr 9999)))]) (st' := [.inl (1), .inr (.inr (.ref 0))]) (σ' := σ) rfl ?_
    refine wk_call tt_0 rfl rfl rfl rfl rfl tt_24 rfl (by decide) (wk_sc _ (lm_c_shown z (by decide) h)) (fun v23 σ23 hv23 => ?_)
    obtain ⟨q23, rfl, rq23, h23⟩ := hv23
    refine wk_b tt_0 6 (pc' := 326) (ls' := [(3, .inl (i)), (2, .inr (.inr (.ref 88))), (1, .inr (.inr (.ref 0))), (0, .inr (.inr (.retAddr 9999)))]) (st' := [.inl (i + 1), .inr (.inr (.retAddr 9999)), .inr (.inr (.ref 88))]) (σ' := σ23) rfl ?_
    refine wk_x9 tt_0 rfl rfl (by omega) (by omega) ⟨by omega, by omega⟩ ?_
    refine wk_if tt_0 (tgt := 334) rfl rfl (x9_R _ _) (fun (y24 : x9 xs (i + 1) = 0) => ?_) (fun (y24 : ¬ x9 xs (i + 1) = 0) => ?_)
    · exact absurd y24 y19
    ·
      refine wk_b tt_0 2 (pc' := 335) (ls' := [(3, .inl (i)), (2, .inr (.inr (.ref 88))), (1, .inr (.inr (.ref 0))), (0, .inr (.inr (.retAddr 9999)))]) (st' := [.inl (1), .inr (.inr (.ref 88))]) (σ' := σ23) rfl ?_
      refine wk_call tt_0 rfl rfl rfl rfl rfl tt_328 rfl (by decide) (wk_sc _ (lm_r_shown z (by decide) h23)) (fun v25 σ25 hv25 => ?_)
      obtain ⟨q25, rfl, rq25, h25⟩ := hv25
      refine wk_b tt_0 2 (pc' := 404) (ls' := [(3, .inl (i)), (2, .inr (.inr (.ref 88))), (1, .inr (.inr (.ref 0))), (0, .inr (.inr (.retAddr 9999)))]) (st' := []) (σ' := σ25) rfl ?_
      exact hk _ h25
set_option maxHeartbeats 4000000 in
set_option maxRecDepth 8000 in
theorem lc_10 {i : Int} {σ : sg_S} (h : lwM σ) (hi : 0 ≤ i) (hL : i + 3 ≤ (L : Int)) (hB : (L : Int) ≤ 1536) (hk : ∀ σ2, lwM σ2 → wk (am_E0 z (some (L, xs))) am_T0 am_Sh0 (999 + 1) 0 404 [(3, .inl (i)), (2, .inr (.inr (.ref 88))), (1, .inr (.inr (.ref 0))), (0, .inr (.inr (.retAddr 9999)))] [] σ2 Q) : wk (am_E0 z (some (L, xs))) am_T0 am_Sh0 (999 + 1) 0 342 [(3, .inl (i)), (2, .inr (.inr (.ref 88))), (1, .inr (.inr (.ref 0))), (0, .inr (.inr (.retAddr 9999)))] [] σ Q := by
  refine wk_b tt_0 5 (pc' := 347) (ls' := [(3, .inl (i)), (2, .inr (.inr (.ref 88))), (1, .inr (.inr (.ref 0))), (0, .inr (.inr (.retAddr 9999)))]) (st' := [.inl (i + 1), .inr (.inr (.retAddr 9999)), .inr (.inr (.ref 0))]) (σ' := σ) rfl ?_
  refine wk_x9 tt_0 rfl rfl (by omega) (by omega) ⟨by omega, by omega⟩ ?_
  refine wk_if tt_0 (tgt := 355) rfl rfl (x9_R _ _) (fun (y26 : x9 xs (i + 1) = 0) => ?_) (fun (y26 : ¬ x9 xs (i + 1) = 0) => ?_)
  ·
    refine wk_b tt_0 5 (pc' := 360) (ls' := [(3, .inl (i)), (2, .inr (.inr (.ref 88))), (1, .inr (.inr (.ref 0))), (0, .inr (.inr (.retAddr 9999)))]) (st' := [.inl (i + 2), .inr (.inr (.retAddr 9999)), .inl (0), .inr (.inr (.ref 0))]) (σ' := σ) rfl ?_
    refine wk_x9 tt_0 rfl rfl (by omega) (by omega) ⟨by omega, by omega⟩ ?_
    refine wk_call tt_0 rfl rfl rfl rfl rfl tt_8 rfl (by decide) (wk_sc _ (lm_c_byteAt z (by decide) (x9_R _ _) h)) (fun v27 σ27 hv27 => ?_)
    obtain ⟨q27, rfl, rq27, h27⟩ := hv27
    refine wk_b tt_0 6 (pc' := 370) (ls' := [(3, .inl (i)), (2, .inr (.inr (.ref 88))), (1, .inr (.inr (.ref 0))), (0, .inr (.inr (.retAddr 9999)))]) (st' := [.inl (i + 1), .inr (.inr (.retAddr 9999)), .inr (.inr (.ref 88))]) (σ' := σ27) rfl ?_
    refine wk_x9 tt_0 rfl rfl (by omega) (by omega) ⟨by omega, by omega⟩ ?_
    refine wk_if tt_0 (tgt := 378) rfl rfl (x9_R _ _) (fun (y28 : x9 xs (i + 1) = 0) => ?_) (fun (y28 : ¬ x9 xs (i + 1) = 0) => ?_)
    ·
      refine wk_b tt_0 5 (pc' := 383) (ls' := [(3, .inl (i)), (2, .inr (.inr (.ref 88))), (1, .inr (.inr (.ref 0))), (0, .inr (.inr (.retAddr 9999)))]) (st' := [.inl (i + 2), .inr (.inr (.retAddr 9999)), .inl (0), .inr (.inr (.ref 88))]) (σ' := σ27) rfl ?_
      refine wk_x9 tt_0 rfl rfl (by omega) (by omega) ⟨by omega, by omega⟩ ?_
      refine wk_call tt_0 rfl rfl rfl rfl rfl tt_215 rfl (by decide) (wk_sc _ (lm_r_byteAt z (by decide) (x9_R _ _) h27)) (fun v29 σ29 hv29 => ?_)
      obtain ⟨q29, rfl, rq29, h29⟩ := hv29
      refine wk_b tt_0 2 (pc' := 404) (ls' := [(3, .inl (i)), (2, .inr (.inr (.ref 88))), (1, .inr (.inr (.ref 0))), (0, .inr (.inr (.retAddr 9999)))]) (st' := []) (σ' := σ29) rfl ?_
      exact hk _ h29
    · exact absurd y26 y28
  ·
    refine wk_b tt_0 6 (pc' := 360) (ls' := [(3, .inl (i)), (2, .inr (.inr (.ref 88))), (1, .inr (.inr (.ref 0))), (0, .inr (.inr (.retAddr 9999)))]) (st' := [.inl (i + 2), .inr (.inr (.retAddr 9999)), .inl (1), .inr (.inr (.ref 0))]) (σ' := σ) rfl ?_
    refine wk_x9 tt_0 rfl rfl (by omega) (by omega) ⟨by omega, by omega⟩ ?_
    refine wk_call tt_0 rfl rfl rfl rfl rfl tt_8 rfl (by decide) (wk_sc _ (lm_c_byteAt z (by decide) (x9_R _ _) h)) (fun v30 σ30 hv30 => ?_)
    obtain ⟨q30, rfl, rq30, h30⟩ := hv30
    refine wk_b tt_0 6 (pc' := 370) (ls' := [(3, .inl (i)), (2, .inr (.inr (.ref 88))), (1, .inr (.inr (.ref 0))), (0, .inr (.inr (.retAddr 9999)))]) (st' := [.inl (i + 1), .inr (.inr (.retAddr 9999)), .inr (.inr (.ref 88))]) (σ' := σ30) rfl ?_
    refine wk_x9 tt_0 rfl rfl (by omega) (by omega) ⟨by omega, by omega⟩ ?_
    refine wk_if tt_0 (tgt := 378) rfl rfl (x9_R _ _) (fun (y31 : x9 xs (i + 1) = 0) => ?_) (fun (y31 : ¬ x9 xs (i + 1) = 0) => ?_)
    · exact absurd y31 y26
    ·
      refine wk_b tt_0 6 (pc' := 383) (ls' := [(3, .inl (i)), (2, .inr (.inr (.ref 88))), (1, .inr (.inr (.ref 0))), (0, .inr (.inr (.retAddr 9999)))]) (st' := [.inl (i + 2), .inr (.inr (.retAddr 9999)), .inl (1), .inr (.inr (.ref 88))]) (σ' := σ30) rfl ?_
      refine wk_x9 tt_0 rfl rfl (by omega) (by omega) ⟨by omega, by omega⟩ ?_
      refine wk_call tt_0 rfl rfl rfl rfl rfl tt_215 rfl (by decide) (wk_sc _ (lm_r_byteAt z (by decide) (x9_R _ _) h30)) (fun v32 σ32 hv32 => ?_)
      obtain ⟨q32, rfl, rq32, h32⟩ := hv32
      refine wk_b tt_0 2 (pc' := 404) (ls' := [(3, .inl (i)), (2, .inr (.inr (.ref 88))), (1, .inr (.inr (.ref 0))), (0, .inr (.inr (.retAddr 9999)))]) (st' := []) (σ' := σ32) rfl ?_
      exact hk _ h32
set_option maxHeartbeats 4000000 in
set_option maxRecDepth 8000 in
theorem lc_11 {i : Int} {σ : sg_S} (h : lwM σ) (hi : 0 ≤ i) (hL : i + 3 ≤ (L : Int)) (hB : (L : Int) ≤ 1536) (hk : ∀ σ2, lwM σ2 → wk (am_E0 z (some (L, xs))) am_T0 am_Sh0 (999 + 1) 0 404 [(3, .inl (i)), (2, .inr (.inr (.ref 88))), (1, .inr (.inr (.ref 0))), (0, .inr (.inr (.retAddr 9999)))] [] σ2 Q) : wk (am_E0 z (some (L, xs))) am_T0 am_Sh0 (999 + 1) 0 391 [(3, .inl (i)), (2, .inr (.inr (.ref 88))), (1, .inr (.inr (.ref 0))), (0, .inr (.inr (.retAddr 9999)))] [] σ Q := by
  refine wk_b tt_0 1 (pc' := 392) (ls' := [(3, .inl (i)), (2, .inr (.inr (.ref 88))), (1, .inr (.inr (.ref 0))), (0, .inr (.inr (.retAddr 9999)))]) (st' := [.inr (.inr (.ref 0))]) (σ' := σ) rfl ?_
  refine wk_call tt_0 rfl rfl rfl rfl rfl tt_3 rfl (by decide) (wk_sc _ (lm_c_alike z h)) (fun v33 σ33 hv33 => ?_)
  obtain ⟨q33, rfl, rq33, h33⟩ := hv33
  refine wk_b tt_0 2 (pc' := 397) (ls' := [(3, .inl (i)), (2, .inr (.inr (.ref 88))), (1, .inr (.inr (.ref 0))), (0, .inr (.inr (.retAddr 9999)))]) (st' := [.inr (.inr (.ref 88))]) (σ' := σ33) rfl ?_
  refine wk_call tt_0 rfl rfl rfl rfl rfl tt_213 rfl (by decide) (wk_sc _ (lm_r_alike z h33)) (fun v34 σ34 hv34 => ?_)
  obtain ⟨q34, rfl, rq34, h34⟩ := hv34
  refine wk_b tt_0 2 (pc' := 404) (ls' := [(3, .inl (i)), (2, .inr (.inr (.ref 88))), (1, .inr (.inr (.ref 0))), (0, .inr (.inr (.retAddr 9999)))]) (st' := []) (σ' := σ34) rfl ?_
  exact hk _ h34
set_option maxHeartbeats 4000000 in
set_option maxRecDepth 8000 in
theorem lw_loop (hB : (L : Int) ≤ 1536) : ∀ (n : Nat) (i : Int) (σ : sg_S), lwM σ → 0 ≤ i → i ≤ (L : Int) → ((L : Int) - i).toNat ≤ n → wk (am_E0 z (some (L, xs))) am_T0 am_Sh0 (999 + 1) 0 18 [(3, .inl (i)), (2, .inr (.inr (.ref 88))), (1, .inr (.inr (.ref 0))), (0, .inr (.inr (.retAddr 9999)))] [] σ (fun v _ => v = some (.inl 1)) := by
  have ex : ∀ (i : Int) (σ : sg_S) (K : Prop), lwM σ → 0 ≤ i → i ≤ (L : Int) → (i + 3 ≤ (L : Int) → wk (am_E0 z (some (L, xs))) am_T0 am_Sh0 (999 + 1) 0 26 [(3, .inl (i)), (2, .inr (.inr (.ref 88))), (1, .inr (.inr (.ref 0))), (0, .inr (.inr (.retAddr 9999)))] [] σ (fun v _ => v = some (.inl 1))) → wk (am_E0 z (some (L, xs))) am_T0 am_Sh0 (999 + 1) 0 18 [(3, .inl (i)), (2, .inr (.inr (.ref 88))), (1, .inr (.inr (.ref 0))), (0, .inr (.inr (.retAddr 9999)))] [] σ (fun v _ => v = some (.inl 1)) := fun i σ _ h hi hl kk => by
    refine wk_b tt_0 2 (pc' := 20) (ls' := [(3, .inl (i)), (2, .inr (.inr (.ref 88))), (1, .inr (.inr (.ref 0))), (0, .inr (.inr (.retAddr 9999)))]) (st' := [.inr (.inr (.retAddr 9999)), .inl i]) (σ' := σ) rfl ?_
    refine wk_l9 tt_0 rfl rfl ?_
    refine wk_b tt_0 2 (pc' := 23) (ls' := [(3, .inl (i)), (2, .inr (.inr (.ref 88))), (1, .inr (.inr (.ref 0))), (0, .inr (.inr (.retAddr 9999)))]) (st' := [.inl ((L : Int) - 3), .inl i]) (σ' := σ) rfl ?_
    refine wk_if2 tt_0 (tgt := 410) rfl rfl ⟨by omega, by omega⟩ ⟨by omega, by omega⟩ (fun _ => ?_) (fun (y : i ≤ (L : Int) - 3) => kk (by omega))
    refine wk_b tt_0 1 (pc' := 411) (ls' := [(3, .inl (i)), (2, .inr (.inr (.ref 88))), (1, .inr (.inr (.ref 0))), (0, .inr (.inr (.retAddr 9999)))]) (st' := [.inl 1]) (σ' := σ) rfl ?_
    exact wk_rZ tt_0 rfl rfl (Or.inr rfl) rfl
  intro n
  induction n with
  | zero =>
    intro i σ h hi hl hn
    exact ex i σ True h hi hl (fun q => absurd hn (by omega))
  | succ n ih =>
    intro i σ h hi hl hn
    refine ex i σ True h hi hl (fun q => ?_)
    have hk : ∀ σ2, lwM σ2 → wk (am_E0 z (some (L, xs))) am_T0 am_Sh0 (999 + 1) 0 404 [(3, .inl (i)), (2, .inr (.inr (.ref 88))), (1, .inr (.inr (.ref 0))), (0, .inr (.inr (.retAddr 9999)))] [] σ2 (fun v _ => v = some (.inl 1)) := fun σ2 h2 => by
      refine wk_b tt_0 2 (pc' := 18) (ls' := [(3, .inl (i + 3)), (2, .inr (.inr (.ref 88))), (1, .inr (.inr (.ref 0))), (0, .inr (.inr (.retAddr 9999)))]) (st' := []) (σ' := σ2) rfl ?_
      exact ih (i + 3) σ2 h2 (by omega) (by omega) (by omega)
    refine wk_b tt_0 2 (pc' := 28) (ls' := [(3, .inl (i)), (2, .inr (.inr (.ref 88))), (1, .inr (.inr (.ref 0))), (0, .inr (.inr (.retAddr 9999)))]) (st' := [.inl i, .inr (.inr (.retAddr 9999))]) (σ' := σ) rfl ?_
    refine wk_x9 tt_0 rfl rfl (by omega) (by omega) ⟨by omega, by omega⟩ ?_
    refine wk_b tt_0 2 (pc' := 32) (ls' := [(3, .inl (i)), (2, .inr (.inr (.ref 88))), (1, .inr (.inr (.ref 0))), (0, .inr (.inr (.retAddr 9999)))]) (st' := [.inl (sg_i (x9 xs i) &&& sg_i 15).toInt]) (σ' := σ) rfl ?_
    obtain ⟨k, hk16, ek⟩ := and15 (sg_i (x9 xs i))
    rw [ek]
    match k, hk16 with
    | 0, _ => exact wk_ts tt_0 (tgt := 96) rfl (by decide) rfl rfl (lc_0 h hi q hB hk)
    | 1, _ => exact wk_ts tt_0 (tgt := 149) rfl (by decide) rfl rfl (lc_1 h hi q hB hk)
    | 2, _ => exact wk_ts tt_0 (tgt := 172) rfl (by decide) rfl rfl (lc_2 h hi q hB hk)
    | 3, _ => exact wk_ts tt_0 (tgt := 185) rfl (by decide) rfl rfl (lc_3 h hi q hB hk)
    | 4, _ => exact wk_ts tt_0 (tgt := 198) rfl (by decide) rfl rfl (lc_4 h hi q hB hk)
    | 5, _ => exact wk_ts tt_0 (tgt := 221) rfl (by decide) rfl rfl (lc_5 h hi q hB hk)
    | 6, _ => exact wk_ts tt_0 (tgt := 254) rfl (by decide) rfl rfl (lc_6 h hi q hB hk)
    | 7, _ => exact wk_ts tt_0 (tgt := 267) rfl (by decide) rfl rfl (lc_7 h hi q hB hk)
    | 8, _ => exact wk_ts tt_0 (tgt := 280) rfl (by decide) rfl rfl (lc_8 h hi q hB hk)
    | 9, _ => exact wk_ts tt_0 (tgt := 303) rfl (by decide) rfl rfl (lc_9 h hi q hB hk)
    | 10, _ => exact wk_ts tt_0 (tgt := 342) rfl (by decide) rfl rfl (lc_10 h hi q hB hk)
    | 11, _ => exact wk_ts tt_0 (tgt := 391) rfl (by decide) rfl rfl (lc_11 h hi q hB hk)
    | 12, _ => exact wk_ts tt_0 (tgt := 404) rfl (by decide) rfl rfl (hk σ h)
    | 13, _ => exact wk_ts tt_0 (tgt := 404) rfl (by decide) rfl rfl (hk σ h)
    | 14, _ => exact wk_ts tt_0 (tgt := 404) rfl (by decide) rfl rfl (hk σ h)
    | 15, _ => exact wk_ts tt_0 (tgt := 404) rfl (by decide) rfl rfl (hk σ h)
    | k + 16, h16 => exact absurd h16 (by omega)
end LWL
