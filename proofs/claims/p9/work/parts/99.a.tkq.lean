/-! TOKENS in both: the same questions have the same answers. -/
section TKQ
variable {c : tkC} {t : aK} {N : Nat}
theorem wd_c (hc : tkOK c) (hR : rsv c.2.2.1) (hT : tkT c t N) {i : Nat} (hi : i < N) (h : tK c i = 258 ∨ 261 ≤ tK c i) : (t.2.1 i = 6606 ∧ tK c i = 261) ∨ (t.2.1 i = 19420 ∧ tK c i = 262) ∨ (t.2.1 i = 374 ∧ tK c i = 263) ∨ (t.2.1 i = 366 ∧ tK c i = 264) ∨ (t.2.1 i = 1293014 ∧ tK c i = 265) ∨ (t.2.1 i = 339965 ∧ tK c i = 266) ∨ (t.2.1 i = 600801 ∧ tK c i = 267) ∨ (t.2.1 i = 271180 ∧ tK c i = 268) ∨ (t.2.1 i = 31253 ∧ tK c i = 269) ∨ (t.2.1 i = 20864 ∧ tK c i = 270) ∨ (t.2.1 i = 21174 ∧ tK c i = 271) ∨ (t.2.1 i = 1220854 ∧ tK c i = 272) ∨ (t.2.1 i = 29022 ∧ tK c i = 273) ∨ (t.2.1 i = 4860 ∧ tK c i = 274) ∨ (t.2.1 i = 403260 ∧ tK c i = 275) ∨ (t.2.1 i = 1025731 ∧ tK c i = 276) ∨ (t.2.1 i = 1032733 ∧ tK c i = 277) ∨ (t.2.1 i = 1026340 ∧ tK c i = 278) ∨ (tK c i = 258 ∧ ¬ t.2.1 i = 6606 ∧ ¬ t.2.1 i = 19420 ∧ ¬ t.2.1 i = 374 ∧ ¬ t.2.1 i = 366 ∧ ¬ t.2.1 i = 1293014 ∧ ¬ t.2.1 i = 339965 ∧ ¬ t.2.1 i = 600801 ∧ ¬ t.2.1 i = 271180 ∧ ¬ t.2.1 i = 31253 ∧ ¬ t.2.1 i = 20864 ∧ ¬ t.2.1 i = 21174 ∧ ¬ t.2.1 i = 1220854 ∧ ¬ t.2.1 i = 29022 ∧ ¬ t.2.1 i = 4860 ∧ ¬ t.2.1 i = 403260 ∧ ¬ t.2.1 i = 1025731 ∧ ¬ t.2.1 i = 1032733 ∧ ¬ t.2.1 i = 1026340) := by
  obtain ⟨n, -, -, -, -, hk⟩ := tok_w hc hT hi h
  rw [fi_e hR] at hk
  by_cases e0 : tW c i = 6579558
  · refine Or.inl ?_; exact ⟨(tok_def hc hT hi h).mpr e0, by rw [hk, if_pos e0]⟩
  by_cases e1 : tW c i = 7103860
  · refine Or.inr (Or.inl ?_); exact ⟨(tok_let hc hT hi h).mpr e1, by rw [hk, if_neg e0, if_pos e1]⟩
  by_cases e2 : tW c i = 26990
  · refine Or.inr (Or.inr (Or.inl ?_)); exact ⟨(tok_in hc hT hi h).mpr e2, by rw [hk, if_neg e0, if_neg e1, if_pos e2]⟩
  by_cases e3 : tW c i = 26982
  · refine Or.inr (Or.inr (Or.inr (Or.inl ?_))); exact ⟨(tok_if hc hT hi h).mpr e3, by rw [hk, if_neg e0, if_neg e1, if_neg e2, if_pos e3]⟩
  by_cases e4 : tW c i = 1952998766
  · refine Or.inr (Or.inr (Or.inr (Or.inr (Or.inl ?_)))); exact ⟨(tok_then hc hT hi h).mpr e4, by rw [hk, if_neg e0, if_neg e1, if_neg e2, if_neg e3, if_pos e4]⟩
  by_cases e5 : tW c i = 1701606245
  · refine Or.inr (Or.inr (Or.inr (Or.inr (Or.inr (Or.inl ?_))))); exact ⟨(tok_else hc hT hi h).mpr e5, by rw [hk, if_neg e0, if_neg e1, if_neg e2, if_neg e3, if_neg e4, if_pos e5]⟩
  by_cases e6 : tW c i = 1768911969
  · refine Or.inr (Or.inr (Or.inr (Or.inr (Or.inr (Or.inr (Or.inl ?_)))))); exact ⟨(tok_iota hc hT hi h).mpr e6, by rw [hk, if_neg e0, if_neg e1, if_neg e2, if_neg e3, if_neg e4, if_neg e5, if_pos e6]⟩
  by_cases e7 : tW c i = 1684632436
  · refine Or.inr (Or.inr (Or.inr (Or.inr (Or.inr (Or.inr (Or.inr (Or.inl ?_))))))); exact ⟨(tok_dist hc hT hi h).mpr e7, by rw [hk, if_neg e0, if_neg e1, if_neg e2, if_neg e3, if_neg e4, if_neg e5, if_neg e6, if_pos e7]⟩
  by_cases e8 : tW c i = 7566701
  · refine Or.inr (Or.inr (Or.inr (Or.inr (Or.inr (Or.inr (Or.inr (Or.inr (Or.inl ?_)))))))); exact ⟨(tok_sum hc hT hi h).mpr e8, by rw [hk, if_neg e0, if_neg e1, if_neg e2, if_neg e3, if_neg e4, if_neg e5, if_neg e6, if_neg e7, if_pos e8]⟩
  by_cases e9 : tW c i = 7168376
  · refine Or.inr (Or.inr (Or.inr (Or.inr (Or.inr (Or.inr (Or.inr (Or.inr (Or.inr (Or.inl ?_))))))))); exact ⟨(tok_max hc hT hi h).mpr e9, by rw [hk, if_neg e0, if_neg e1, if_neg e2, if_neg e3, if_neg e4, if_neg e5, if_neg e6, if_neg e7, if_neg e8, if_pos e9]⟩
  by_cases e10 : tW c i = 7170414
  · refine Or.inr (Or.inr (Or.inr (Or.inr (Or.inr (Or.inr (Or.inr (Or.inr (Or.inr (Or.inr (Or.inl ?_)))))))))); exact ⟨(tok_min hc hT hi h).mpr e10, by rw [hk, if_neg e0, if_neg e1, if_neg e2, if_neg e3, if_neg e4, if_neg e5, if_neg e6, if_neg e7, if_neg e8, if_neg e9, if_pos e10]⟩
  by_cases e11 : tW c i = 1935892846
  · refine Or.inr (Or.inr (Or.inr (Or.inr (Or.inr (Or.inr (Or.inr (Or.inr (Or.inr (Or.inr (Or.inr (Or.inl ?_))))))))))); exact ⟨(tok_scan hc hT hi h).mpr e11, by rw [hk, if_neg e0, if_neg e1, if_neg e2, if_neg e3, if_neg e4, if_neg e5, if_neg e6, if_neg e7, if_neg e8, if_neg e9, if_neg e10, if_pos e11]⟩
  by_cases e12 : tW c i = 7497078
  · refine Or.inr (Or.inr (Or.inr (Or.inr (Or.inr (Or.inr (Or.inr (Or.inr (Or.inr (Or.inr (Or.inr (Or.inr (Or.inl ?_)))))))))))); exact ⟨(tok_rev hc hT hi h).mpr e12, by rw [hk, if_neg e0, if_neg e1, if_neg e2, if_neg e3, if_neg e4, if_neg e5, if_neg e6, if_neg e7, if_neg e8, if_neg e9, if_neg e10, if_neg e11, if_pos e12]⟩
  by_cases e13 : tW c i = 6513012
  · refine Or.inr (Or.inr (Or.inr (Or.inr (Or.inr (Or.inr (Or.inr (Or.inr (Or.inr (Or.inr (Or.inr (Or.inr (Or.inr (Or.inl ?_))))))))))))); exact ⟨(tok_cat hc hT hi h).mpr e13, by rw [hk, if_neg e0, if_neg e1, if_neg e2, if_neg e3, if_neg e4, if_neg e5, if_neg e6, if_neg e7, if_neg e8, if_neg e9, if_neg e10, if_neg e11, if_neg e12, if_pos e13]⟩
  by_cases e14 : tW c i = 1718378868
  · refine Or.inr (Or.inr (Or.inr (Or.inr (Or.inr (Or.inr (Or.inr (Or.inr (Or.inr (Or.inr (Or.inr (Or.inr (Or.inr (Or.inr (Or.inl ?_)))))))))))))); exact ⟨(tok_flat hc hT hi h).mpr e14, by rw [hk, if_neg e0, if_neg e1, if_neg e2, if_neg e3, if_neg e4, if_neg e5, if_neg e6, if_neg e7, if_neg e8, if_neg e9, if_neg e10, if_neg e11, if_neg e12, if_neg e13, if_pos e14]⟩
  by_cases e15 : tW c i = 1885430635
  · refine Or.inr (Or.inr (Or.inr (Or.inr (Or.inr (Or.inr (Or.inr (Or.inr (Or.inr (Or.inr (Or.inr (Or.inr (Or.inr (Or.inr (Or.inr (Or.inl ?_))))))))))))))); exact ⟨(tok_pack hc hT hi h).mpr e15, by rw [hk, if_neg e0, if_neg e1, if_neg e2, if_neg e3, if_neg e4, if_neg e5, if_neg e6, if_neg e7, if_neg e8, if_neg e9, if_neg e10, if_neg e11, if_neg e12, if_neg e13, if_neg e14, if_pos e15]⟩
  by_cases e16 : tW c i = 1885696621
  · refine Or.inr (Or.inr (Or.inr (Or.inr (Or.inr (Or.inr (Or.inr (Or.inr (Or.inr (Or.inr (Or.inr (Or.inr (Or.inr (Or.inr (Or.inr (Or.inr (Or.inl ?_)))))))))))))))); exact ⟨(tok_perm hc hT hi h).mpr e16, by rw [hk, if_neg e0, if_neg e1, if_neg e2, if_neg e3, if_neg e4, if_neg e5, if_neg e6, if_neg e7, if_neg e8, if_neg e9, if_neg e10, if_neg e11, if_neg e12, if_neg e13, if_neg e14, if_neg e15, if_pos e16]⟩
  by_cases e17 : tW c i = 1885434484
  · refine Or.inr (Or.inr (Or.inr (Or.inr (Or.inr (Or.inr (Or.inr (Or.inr (Or.inr (Or.inr (Or.inr (Or.inr (Or.inr (Or.inr (Or.inr (Or.inr (Or.inr (Or.inl ?_))))))))))))))))); exact ⟨(tok_part hc hT hi h).mpr e17, by rw [hk, if_neg e0, if_neg e1, if_neg e2, if_neg e3, if_neg e4, if_neg e5, if_neg e6, if_neg e7, if_neg e8, if_neg e9, if_neg e10, if_neg e11, if_neg e12, if_neg e13, if_neg e14, if_neg e15, if_neg e16, if_pos e17]⟩
  · refine Or.inr (Or.inr (Or.inr (Or.inr (Or.inr (Or.inr (Or.inr (Or.inr (Or.inr (Or.inr (Or.inr (Or.inr (Or.inr (Or.inr (Or.inr (Or.inr (Or.inr (Or.inr ?_)))))))))))))))))
    refine ⟨by rw [hk, if_neg e0, if_neg e1, if_neg e2, if_neg e3, if_neg e4, if_neg e5, if_neg e6, if_neg e7, if_neg e8, if_neg e9, if_neg e10, if_neg e11, if_neg e12, if_neg e13, if_neg e14, if_neg e15, if_neg e16, if_neg e17], fun x => e0 ((tok_def hc hT hi h).mp x), fun x => e1 ((tok_let hc hT hi h).mp x), fun x => e2 ((tok_in hc hT hi h).mp x), fun x => e3 ((tok_if hc hT hi h).mp x), fun x => e4 ((tok_then hc hT hi h).mp x), fun x => e5 ((tok_else hc hT hi h).mp x), fun x => e6 ((tok_iota hc hT hi h).mp x), fun x => e7 ((tok_dist hc hT hi h).mp x), fun x => e8 ((tok_sum hc hT hi h).mp x), fun x => e9 ((tok_max hc hT hi h).mp x), fun x => e10 ((tok_min hc hT hi h).mp x), fun x => e11 ((tok_scan hc hT hi h).mp x), fun x => e12 ((tok_rev hc hT hi h).mp x), fun x => e13 ((tok_cat hc hT hi h).mp x), fun x => e14 ((tok_flat hc hT hi h).mp x), fun x => e15 ((tok_pack hc hT hi h).mp x), fun x => e16 ((tok_perm hc hT hi h).mp x), fun x => e17 ((tok_part hc hT hi h).mp x)⟩
theorem tK_v (hc : tkOK c) (i : Nat) : tK c i = 256 ∨ tK c i = 257 ∨ tK c i = 258 ∨ tK c i = 259 ∨ (261 ≤ tK c i ∧ tK c i ≤ 278) ∨ (lx_s (tK c i) = true ∧ tK c i ≤ 255 ∧ tK c i = c.1 (tPl c i) ∧ ¬ lx_d (c.1 (tPl c i)) = true ∧ ¬ lx_l (c.1 (tPl c i)) = true ∧ ¬ c.2.1 ≤ tPl c i) := by
  unfold tK lx_kind
  by_cases a : c.2.1 ≤ tPl c i
  · rw [if_pos a]; omega
  · rw [if_neg a]
    by_cases b : lx_d (c.1 (tPl c i)) = true
    · rw [if_pos b]
      split <;> omega
    · rw [if_neg b]
      by_cases d : lx_l (c.1 (tPl c i)) = true
      · rw [if_pos d]
        split
        · omega
        · have := lx_fi_r c.2.2.1 (lx_pk c.1 (tPl c i) (lx_end c.1 c.2.1 lx_a (tPl c i) - tPl c i).toNat) 18 0 (by omega) (by omega)
          omega
      · rw [if_neg d]
        by_cases e : lx_s (c.1 (tPl c i)) = true
        · rw [if_pos e]
          have := hc.2.2 (tPl c i)
          exact Or.inr (Or.inr (Or.inr (Or.inr (Or.inr ⟨e, by omega, rfl, b, d, a⟩))))
        · rw [if_neg e]; omega
/-- the tokens of one tape, in both -/
def tkB (c : tkC) (t : aK) (N : Nat) : Prop := tkOK c ∧ rsv c.2.2.1 ∧ tkT c t N ∧ (∀ i, i < N → 1 ≤ t.1 i ∧ t.1 i ≤ 3) ∧ ((t.1 N = 0 ∨ t.1 N = 4) ∧ ∀ i, N < i → t.1 i = 0)
theorem b_lt (h : tkB c t N) {i : Nat} (hi : i ≤ N) (hs : 1 ≤ t.1 i ∧ t.1 i ≤ 3) : i < N := by
  have := h.2.2.2.2.1
  by_cases e : i = N
  · subst e; omega
  · omega
theorem b_s (h : tkB c t N) {i : Nat} (hi : i ≤ N) : (t.1 i = 0 ↔ tK c i = 256) ∧ (t.1 i = 1 ↔ tK c i = 257) ∧ (t.1 i = 2 ↔ (tK c i = 258 ∨ 261 ≤ tK c i)) ∧ (t.1 i = 4 ↔ tK c i = 259) ∧ (t.1 i = 3 ↔ tK c i ≤ 255) := by
  have hv := tK_v h.1 i
  rw [(h.2.2.1.1 i hi).1]
  unfold rS
  rcases hv with e | e | e | e | e | e
  · rw [if_pos e]; omega
  · rw [if_neg (by omega), if_pos e]; omega
  · rw [if_neg (by omega), if_neg (by omega), if_neg (by omega), if_pos (by omega)]; omega
  · rw [if_neg (by omega), if_neg (by omega), if_pos e]; omega
  · rw [if_neg (by omega), if_neg (by omega), if_neg (by omega), if_pos (by omega)]; omega
  · rw [if_neg (by omega), if_neg (by omega), if_neg (by omega), if_neg (by omega)]; omega
theorem b_sg (h : tkB c t N) {i : Nat} (hi : i ≤ N) {ch : Int} (hch : ch ≤ 255) : aSg t i ch = true ↔ tK c i = ch := by
  have hs := (b_s h hi).2.2.2.2
  unfold aSg
  rw [decide_eq_true_iff]
  have key : tK c i ≤ 255 → t.2.1 i = tK c i := by
    intro q
    have h3 := hs.mpr q
    have hlt := b_lt h hi (by omega)
    rw [h.2.2.1.2 i hlt]
    rcases tK_v h.1 i with e | e | e | e | e | ⟨-, -, e1, e2, e3, e4⟩
    · omega
    · omega
    · omega
    · omega
    · omega
    · unfold rW
      rw [if_neg e4, if_neg e2, if_neg e3]
      exact e1.symm
  refine ⟨fun ⟨a, b⟩ => ?_, fun e => ?_⟩
  · rw [← key (hs.mp a)]; exact b
  · exact ⟨hs.mpr (by omega), by rw [key (by omega)]; exact e⟩
theorem b_def (h : tkB c t N) {i : Nat} (hi : i ≤ N) : aWo t i 6606 = true ↔ tK c i = 261 := by
  have hs := (b_s h hi).2.2.1
  unfold aWo
  rw [decide_eq_true_iff]
  refine ⟨fun ⟨a, b⟩ => ?_, fun e => ?_⟩
  · have hlt := b_lt h hi (by omega)
    have hd := wd_c h.1 h.2.1 h.2.2.1 hlt (hs.mp a)
    omega
  · have a := hs.mpr (by omega)
    have hlt := b_lt h hi (by omega)
    have hd := wd_c h.1 h.2.1 h.2.2.1 hlt (by omega)
    exact ⟨a, by omega⟩
theorem b_let (h : tkB c t N) {i : Nat} (hi : i ≤ N) : aWo t i 19420 = true ↔ tK c i = 262 := by
  have hs := (b_s h hi).2.2.1
  unfold aWo
  rw [decide_eq_true_iff]
  refine ⟨fun ⟨a, b⟩ => ?_, fun e => ?_⟩
  · have hlt := b_lt h hi (by omega)
    have hd := wd_c h.1 h.2.1 h.2.2.1 hlt (hs.mp a)
    omega
  · have a := hs.mpr (by omega)
    have hlt := b_lt h hi (by omega)
    have hd := wd_c h.1 h.2.1 h.2.2.1 hlt (by omega)
    exact ⟨a, by omega⟩
theorem b_in (h : tkB c t N) {i : Nat} (hi : i ≤ N) : aWo t i 374 = true ↔ tK c i = 263 := by
  have hs := (b_s h hi).2.2.1
  unfold aWo
  rw [decide_eq_true_iff]
  refine ⟨fun ⟨a, b⟩ => ?_, fun e => ?_⟩
  · have hlt := b_lt h hi (by omega)
    have hd := wd_c h.1 h.2.1 h.2.2.1 hlt (hs.mp a)
    omega
  · have a := hs.mpr (by omega)
    have hlt := b_lt h hi (by omega)
    have hd := wd_c h.1 h.2.1 h.2.2.1 hlt (by omega)
    exact ⟨a, by omega⟩
theorem b_if (h : tkB c t N) {i : Nat} (hi : i ≤ N) : aWo t i 366 = true ↔ tK c i = 264 := by
  have hs := (b_s h hi).2.2.1
  unfold aWo
  rw [decide_eq_true_iff]
  refine ⟨fun ⟨a, b⟩ => ?_, fun e => ?_⟩
  · have hlt := b_lt h hi (by omega)
    have hd := wd_c h.1 h.2.1 h.2.2.1 hlt (hs.mp a)
    omega
  · have a := hs.mpr (by omega)
    have hlt := b_lt h hi (by omega)
    have hd := wd_c h.1 h.2.1 h.2.2.1 hlt (by omega)
    exact ⟨a, by omega⟩
theorem b_then (h : tkB c t N) {i : Nat} (hi : i ≤ N) : aWo t i 1293014 = true ↔ tK c i = 265 := by
  have hs := (b_s h hi).2.2.1
  unfold aWo
  rw [decide_eq_true_iff]
  refine ⟨fun ⟨a, b⟩ => ?_, fun e => ?_⟩
  · have hlt := b_lt h hi (by omega)
    have hd := wd_c h.1 h.2.1 h.2.2.1 hlt (hs.mp a)
    omega
  · have a := hs.mpr (by omega)
    have hlt := b_lt h hi (by omega)
    have hd := wd_c h.1 h.2.1 h.2.2.1 hlt (by omega)
    exact ⟨a, by omega⟩
theorem b_else (h : tkB c t N) {i : Nat} (hi : i ≤ N) : aWo t i 339965 = true ↔ tK c i = 266 := by
  have hs := (b_s h hi).2.2.1
  unfold aWo
  rw [decide_eq_true_iff]
  refine ⟨fun ⟨a, b⟩ => ?_, fun e => ?_⟩
  · have hlt := b_lt h hi (by omega)
    have hd := wd_c h.1 h.2.1 h.2.2.1 hlt (hs.mp a)
    omega
  · have a := hs.mpr (by omega)
    have hlt := b_lt h hi (by omega)
    have hd := wd_c h.1 h.2.1 h.2.2.1 hlt (by omega)
    exact ⟨a, by omega⟩
theorem b_act (h : tkB c t N) {i : Nat} (hi : i ≤ N) (h2 : t.1 i = 2) : v_actOf (t.2.1 i) = (if 267 ≤ tK c i then tK c i - 251 else 0) ∧ (v_isReserved (t.2.1 i) = 0 ↔ tK c i = 258) := by
  have hs := (b_s h hi).2.2.1.mp h2
  have hlt := b_lt h hi (by omega)
  rcases wd_c h.1 h.2.1 h.2.2.1 hlt hs with ⟨a, b⟩ | ⟨a, b⟩ | ⟨a, b⟩ | ⟨a, b⟩ | ⟨a, b⟩ | ⟨a, b⟩ | ⟨a, b⟩ | ⟨a, b⟩ | ⟨a, b⟩ | ⟨a, b⟩ | ⟨a, b⟩ | ⟨a, b⟩ | ⟨a, b⟩ | ⟨a, b⟩ | ⟨a, b⟩ | ⟨a, b⟩ | ⟨a, b⟩ | ⟨a, b⟩ | ⟨b, a⟩
  · rw [a, b]; decide
  · rw [a, b]; decide
  · rw [a, b]; decide
  · rw [a, b]; decide
  · rw [a, b]; decide
  · rw [a, b]; decide
  · rw [a, b]; decide
  · rw [a, b]; decide
  · rw [a, b]; decide
  · rw [a, b]; decide
  · rw [a, b]; decide
  · rw [a, b]; decide
  · rw [a, b]; decide
  · rw [a, b]; decide
  · rw [a, b]; decide
  · rw [a, b]; decide
  · rw [a, b]; decide
  · rw [a, b]; decide
  · obtain ⟨a0, a1, a2, a3, a4, a5, a6, a7, a8, a9, a10, a11, a12, a13, a14, a15, a16, a17⟩ := a
    have e : v_actOf (t.2.1 i) = 0 := by
      unfold v_actOf
      rw [if_pos a6, if_pos a7, if_pos a8, if_pos a9, if_pos a10, if_pos a11, if_pos a12, if_pos a13, if_pos a14, if_pos a15, if_pos a16, if_pos a17]
    refine ⟨by rw [e, b]; decide, ?_⟩
    unfold v_isReserved
    rw [e, if_neg (by decide), if_neg a0, if_neg a1, if_neg a2, if_neg a3, if_neg a4, if_pos a5]
    simp [b]
theorem b_nm (h : tkB c t N) {i : Nat} (hi : i ≤ N) : aNm t i = true ↔ tK c i = 258 := by
  have hs := (b_s h hi).2.2.1
  unfold aNm
  rw [decide_eq_true_iff]
  refine ⟨fun ⟨a, b⟩ => (b_act h hi a).2.mp b, fun e => ?_⟩
  have a := hs.mpr (Or.inl e)
  exact ⟨a, (b_act h hi a).2.mpr e⟩
theorem b_int (h : tkB c t N) {i : Nat} (hi : i ≤ N) : aWo t i 14980 = true ↔ (tK c i = 258 ∧ tW c i = 6909556) := by
  have hs := (b_s h hi).2.2.1
  unfold aWo
  rw [decide_eq_true_iff]
  refine ⟨fun ⟨a, b⟩ => ?_, fun ⟨e, w⟩ => ?_⟩
  · have hlt := b_lt h hi (by omega)
    have hd := wd_c h.1 h.2.1 h.2.2.1 hlt (hs.mp a)
    refine ⟨by omega, (tok_int h.1 h.2.2.1 hlt (hs.mp a)).mp b⟩
  · have a := hs.mpr (Or.inl e)
    have hlt := b_lt h hi (by omega)
    exact ⟨a, (tok_int h.1 h.2.2.1 hlt (hs.mp a)).mpr w⟩
end TKQ
