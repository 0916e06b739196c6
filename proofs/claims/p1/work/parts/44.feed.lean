/-! feed, both sides. -/
section PF
variable {E : am_E} {T : List am_M} {d j pc : Nat} {ls : am_L} {st : List Value} {h : am_H} {v : Option Value} {h' : am_H} {M : am_M} {q : am_Q}
theorem am_rL {a t n : Nat} {f : Nat → Int32} {num : Int} {lk : am_K} (hM : T[j]? = some M) (hq : am_find M.2.2.2.2 pc = some (pc, .arraylength, num, lk)) (hh : h[a]? = some (.inl (t, n, f))) (ht : t = 0 ∨ t = 1 ∨ t = 3) (kk : am_run E T d j (pc + 1) ls (.int (Int32.ofNat n) :: st) h v h') : am_run E T d j pc ls (.ref a :: st) h v h' :=
  am_r0 (S := (pc + 1, ls, .int (Int32.ofNat n) :: st)) hM hq rfl (by simp only [am_step, am_alen, am_len0, hh, ht, if_true]) kk
theorem am_rSB {a n : Nat} {f : Nat → Int32} {x i : Int32} {num : Int} {lk : am_K} (hM : T[j]? = some M) (hq : am_find M.2.2.2.2 pc = some (pc, .bastore, num, lk)) (hh : h[a]? = some (.inl (1, n, f))) (hi : ¬ (i < 0 ∨ n ≤ i.toNatClampNeg)) (kk : am_run E T d j (pc + 1) ls st (h.set a (.inl (1, n, upd f i.toNatClampNeg (am_nb 1 x)))) v h') : am_run E T d j pc ls (.int x :: .int i :: .ref a :: st) h v h' :=
  am_r2 (S := (st, h.set a (.inl (1, n, upd f i.toNatClampNeg (am_nb 1 x))))) hM hq rfl (by simp only [am_hs, am_wrI, hh, true_or, if_true, if_neg hi]) kk
theorem am_rSI {a n : Nat} {f : Nat → Int32} {x i : Int32} {num : Int} {lk : am_K} (hM : T[j]? = some M) (hq : am_find M.2.2.2.2 pc = some (pc, .iastore, num, lk)) (hh : h[a]? = some (.inl (0, n, f))) (hi : ¬ (i < 0 ∨ n ≤ i.toNatClampNeg)) (kk : am_run E T d j (pc + 1) ls st (h.set a (.inl (0, n, upd f i.toNatClampNeg (am_nb 0 x)))) v h') : am_run E T d j pc ls (.int x :: .int i :: .ref a :: st) h v h' :=
  am_r2 (S := (st, h.set a (.inl (0, n, upd f i.toNatClampNeg (am_nb 0 x))))) hM hq rfl (by simp only [am_hs, am_wrI, hh, true_or, if_true, if_neg hi]) kk
end PF
theorem am_ss {h : am_H} {a : Nat} {x y : am_C} (hx : h[a]? = some x) : (h.set a y)[a]? = some y := by
  rw [List.getElem?_set_self (List.getElem?_eq_some_iff.mp hx).1]
theorem am_so {h : am_H} {a c : Nat} {y : am_C} (hn : a ≠ c) : (h.set a y)[c]? = h[c]? := List.getElem?_set_ne hn
section PG
variable {E : am_E} {d : Nat} {h : am_H} {v : Option Value} {h' : am_H}
theorem px_byteOf (w : Int64) (k : Int32) : am_run E am_T0 d 6 0 [(0, .long w), (2, .int k)] [] h (some (.int (p_bC w k))) h := by
  refine am_s0 (M := tm_6) rfl rfl rfl rfl ?_
  refine am_s0 (M := tm_6) rfl rfl rfl rfl ?_
  refine am_s0 (M := tm_6) rfl rfl rfl rfl ?_
  refine am_s0 (M := tm_6) rfl rfl rfl rfl ?_
  refine am_s0 (M := tm_6) rfl rfl rfl rfl ?_
  refine am_s0 (M := tm_6) rfl rfl rfl rfl ?_
  refine am_s0 (M := tm_6) rfl rfl rfl rfl ?_
  refine am_s0 (M := tm_6) rfl rfl rfl rfl ?_
  exact am_r1 (M := tm_6) rfl rfl rfl (rfl)
theorem px_f1 {w : Int64} {n : Nat} (hn : n ≤ 8) (hlt : ∀ k, k < n → ¬ p_bC w (nI k) = 0) (hend : n = 8 ∨ p_bC w (nI n) = 0) (kk : am_run E am_T0 (d + 1) 9 22 [(3, .int (nI n)), (0, .ref 0), (1, .long w)] [] h v h') : ∀ m k, k ≤ n → n - k = m → am_run E am_T0 (d + 1) 9 2 [(3, .int (nI k)), (0, .ref 0), (1, .long w)] [] h v h' := by
  intro m
  induction m with
  | zero =>
    intro k hk hm
    have e : k = n := by omega
    subst e
    rcases hend with h8 | h0
    · subst h8
      refine am_s0 (M := tm_9) rfl rfl rfl rfl ?_
      refine am_s0 (M := tm_9) rfl rfl rfl rfl ?_
      refine am_rT2 (M := tm_9) (tgt := 22) rfl rfl (by decide) rfl ?_
      exact kk
    · by_cases h8 : k = 8
      · subst h8
        refine am_s0 (M := tm_9) rfl rfl rfl rfl ?_
        refine am_s0 (M := tm_9) rfl rfl rfl rfl ?_
        refine am_rT2 (M := tm_9) (tgt := 22) rfl rfl (by decide) rfl ?_
        exact kk
      · have hc : ¬ (8 : Int32) ≤ nI k := nI_ge (a := k) (b := 8) (by omega) (by decide)
        refine am_s0 (M := tm_9) rfl rfl rfl rfl ?_
        refine am_s0 (M := tm_9) rfl rfl rfl rfl ?_
        refine am_rF2 (M := tm_9) (tgt := 22) rfl rfl (am_cf hc) rfl ?_
        refine am_s0 (M := tm_9) rfl rfl rfl rfl ?_
        refine am_s0 (M := tm_9) rfl rfl rfl rfl ?_
        refine am_rC (M := tm_9) rfl rfl rfl rfl rfl rfl rfl ⟨Nat.le_of_ble_eq_true rfl, Nat.le_of_ble_eq_true rfl, Nat.le_of_ble_eq_true rfl⟩ (px_byteOf w (nI k)) ?_
        refine am_rT (M := tm_9) (tgt := 22) rfl rfl (am_ct h0) rfl ?_
        exact kk
  | succ m ih =>
    intro k hk hm
    have hc : ¬ (8 : Int32) ≤ nI k := nI_ge (a := k) (b := 8) (by omega) (by decide)
    refine am_s0 (M := tm_9) rfl rfl rfl rfl ?_
    refine am_s0 (M := tm_9) rfl rfl rfl rfl ?_
    refine am_rF2 (M := tm_9) (tgt := 22) rfl rfl (am_cf hc) rfl ?_
    refine am_s0 (M := tm_9) rfl rfl rfl rfl ?_
    refine am_s0 (M := tm_9) rfl rfl rfl rfl ?_
    refine am_rC (M := tm_9) rfl rfl rfl rfl rfl rfl rfl ⟨Nat.le_of_ble_eq_true rfl, Nat.le_of_ble_eq_true rfl, Nat.le_of_ble_eq_true rfl⟩ (px_byteOf w (nI k)) ?_
    refine am_rF (M := tm_9) (tgt := 22) rfl rfl (am_cf (hlt k (by omega))) rfl ?_
    refine am_s0 (M := tm_9) rfl rfl rfl rfl ?_
    refine am_rJ (M := tm_9) (tgt := 2) rfl rfl rfl ?_
    have h2 := ih (k + 1) (by omega) (by omega)
    rw [← nI_1] at h2
    exact h2
def p_hh (h : am_H) (i : Int32) (f : Nat → Int32) : am_H := (h.set 1 (.inl (1, 1200, f))).set 0 (.inr (.inr (10, fX0.set 8 (.int i))))
theorem p_hh0 {h : am_H} {f0 f : Nat → Int32} {i : Int32} (H0 : h[0]? = some (.inr (.inr (10, fX0)))) : (p_hh h i f)[0]? = some (.inr (.inr (10, fX0.set 8 (.int i)))) := by
  unfold p_hh
  exact am_ss (x := .inr (.inr (10, fX0))) (by rw [am_so (by decide)]; exact H0)
theorem p_hh1 {h : am_H} {f0 f : Nat → Int32} {i : Int32} (H1 : h[1]? = some (.inl (1, 1200, f0))) : (p_hh h i f)[1]? = some (.inl (1, 1200, f)) := by
  unfold p_hh
  rw [am_so (by decide)]
  exact am_ss H1
theorem p_hh2 (h : am_H) (i : Int32) (f g : Nat → Int32) : (p_hh h i f).set 1 (.inl (1, 1200, g)) = p_hh h i g := by
  unfold p_hh
  rw [List.set_comm _ _ (by decide), List.set_set]
theorem p_hh3 (h : am_H) (i k : Int32) (f : Nat → Int32) : (p_hh h i f).set 0 (.inr (.inr (10, (fX0.set 8 (.int i)).set 8 (.int k)))) = p_hh h k f := by
  unfold p_hh
  rw [List.set_set, List.set_set]
theorem p_hh4 {h : am_H} {f0 : Nat → Int32} (H0 : h[0]? = some (.inr (.inr (10, fX0)))) (H1 : h[1]? = some (.inl (1, 1200, f0))) : p_hh h 0 f0 = h := by
  unfold p_hh
  rw [am_set_id H1]
  exact am_set_id H0
theorem px_f2 {w : Int64} {n : Nat} {f0 : Nat → Int32} (hn : n ≤ 8) (H0 : h[0]? = some (.inr (.inr (10, fX0)))) (H1 : h[1]? = some (.inl (1, 1200, f0))) : ∀ m i f, i ≤ n → n - i = m → ∃ g, am_run E am_T0 (d + 1) 9 40 [(4, .int (nI i)), (3, .int (nI n)), (0, .ref 0), (1, .long w)] [] (p_hh h (nI i) f) (some (.int (nI n))) (p_hh h (nI n) g) := by
  intro m
  induction m with
  | zero =>
    intro i f hi hm
    have e : i = n := by omega
    subst e
    refine ⟨f, ?_⟩
    have G0 := p_hh0 (f0 := f0) (i := nI i) (f := f) H0
    refine am_s0 (M := tm_9) rfl rfl rfl rfl ?_
    refine am_s0 (M := tm_9) rfl rfl rfl rfl ?_
    refine am_rT2 (M := tm_9) (tgt := 97) rfl rfl (am_ct (Int32.le_refl _)) rfl ?_
    refine am_s0 (M := tm_9) rfl rfl rfl rfl ?_
    refine am_rG (M := tm_9) rfl rfl G0 rfl rfl ?_
    exact am_r1 (M := tm_9) rfl rfl rfl (rfl)
  | succ m ih =>
    intro i f hi hm
    obtain ⟨g, hg⟩ := ih (i + 1) (upd f (nI i).toNatClampNeg (am_nb 1 (p_bC w (nI i)).toInt8.toInt32)) (by omega) (by omega)
    refine ⟨g, ?_⟩
    have G0 := p_hh0 (f0 := f0) (i := nI i) (f := f) H0
    have G1 := p_hh1 (i := nI i) (f := f) H1
    have hc : ¬ nI n ≤ nI i := nI_ge (by omega) (by omega)
    have hz : ¬ nI i < 0 := nI_pos (by omega)
    have hb : ¬ (1200 : Int32) ≤ nI i := nI_ge (a := i) (b := 1200) (by omega) (by decide)
    have hin : ¬ (nI i < 0 ∨ 1200 ≤ (nI i).toNatClampNeg) := nI_in (by omega) (by decide)
    refine am_s0 (M := tm_9) rfl rfl rfl rfl ?_
    refine am_s0 (M := tm_9) rfl rfl rfl rfl ?_
    refine am_rF2 (M := tm_9) (tgt := 97) rfl rfl (am_cf hc) rfl ?_
    refine am_s0 (M := tm_9) rfl rfl rfl rfl ?_
    refine am_rG (M := tm_9) rfl rfl G0 rfl rfl ?_
    refine am_rF (M := tm_9) (tgt := 91) rfl rfl (am_cf hz) rfl ?_
    refine am_s0 (M := tm_9) rfl rfl rfl rfl ?_
    refine am_rG (M := tm_9) rfl rfl G0 rfl rfl ?_
    refine am_s0 (M := tm_9) rfl rfl rfl rfl ?_
    refine am_rG (M := tm_9) rfl rfl G0 rfl rfl ?_
    refine am_rL (M := tm_9) rfl rfl G1 (by decide) ?_
    refine am_rF2 (M := tm_9) (tgt := 91) rfl rfl (am_cf hb) rfl ?_
    refine am_s0 (M := tm_9) rfl rfl rfl rfl ?_
    refine am_rG (M := tm_9) rfl rfl G0 rfl rfl ?_
    refine am_s0 (M := tm_9) rfl rfl rfl rfl ?_
    refine am_rG (M := tm_9) rfl rfl G0 rfl rfl ?_
    refine am_s0 (M := tm_9) rfl rfl rfl rfl ?_
    refine am_s0 (M := tm_9) rfl rfl rfl rfl ?_
    refine am_rC (M := tm_9) rfl rfl rfl rfl rfl rfl rfl ⟨Nat.le_of_ble_eq_true rfl, Nat.le_of_ble_eq_true rfl, Nat.le_of_ble_eq_true rfl⟩ (px_byteOf w (nI i)) ?_
    refine am_s0 (M := tm_9) rfl rfl rfl rfl ?_
    refine am_rSB (M := tm_9) rfl rfl G1 hin ?_
    rw [p_hh2]
    have G2 := p_hh0 (f0 := f0) (i := nI i) (f := upd f (nI i).toNatClampNeg (am_nb 1 (p_bC w (nI i)).toInt8.toInt32)) H0
    refine am_s0 (M := tm_9) rfl rfl rfl rfl ?_
    refine am_s0 (M := tm_9) rfl rfl rfl rfl ?_
    refine am_rG (M := tm_9) rfl rfl G2 rfl rfl ?_
    refine am_s0 (M := tm_9) rfl rfl rfl rfl ?_
    refine am_s0 (M := tm_9) rfl rfl rfl rfl ?_
    refine am_rW (M := tm_9) rfl rfl G2 rfl rfl (Nat.le_of_ble_eq_true rfl) ?_
    rw [← nI_1] at hg
    have e3 := p_hh3 h (nI i) (nI i + 1) (upd f (nI i).toNatClampNeg (am_nb 1 (p_bC w (nI i)).toInt8.toInt32))
    rw [← e3] at hg
    refine am_s0 (M := tm_9) rfl rfl rfl rfl ?_
    refine am_rJ (M := tm_9) (tgt := 40) rfl rfl rfl ?_
    exact hg
theorem px_feed {f0 : Nat → Int32} (F : am_new0 h) (H1 : h[1]? = some (.inl (1, 1200, f0))) (w : Int64) {n : Nat} (hn : n ≤ 8) (hlt : ∀ k, k < n → ¬ p_bC w (nI k) = 0) (hend : n = 8 ∨ p_bC w (nI n) = 0) : ∃ g, am_run E am_T0 (d + 1) 9 0 [(0, .ref 0), (1, .long w)] [] h (some (.int (nI n))) (p_hh h (nI n) g) := by
  obtain ⟨g, hg⟩ := px_f2 (E := E) (d := d) (w := w) hn F.1 H1 n 0 f0 (by omega) (by omega)
  rw [show nI 0 = 0 from rfl, p_hh4 F.1 H1] at hg
  refine ⟨g, ?_⟩
  refine am_s0 (M := tm_9) rfl rfl rfl rfl ?_
  refine am_s0 (M := tm_9) rfl rfl rfl rfl ?_
  refine px_f1 hn hlt hend ?_ n 0 (by omega) (by omega)
  have hle : (0 : Int32) + nI n ≤ 1200 := by
    rw [Int32.zero_add]
    exact nI_le (a := n) (b := 1200) (by omega) (by decide)
  refine am_s0 (M := tm_9) rfl rfl rfl rfl ?_
  refine am_rG (M := tm_9) rfl rfl F.1 rfl rfl ?_
  refine am_s0 (M := tm_9) rfl rfl rfl rfl ?_
  refine am_s0 (M := tm_9) rfl rfl rfl rfl ?_
  refine am_s0 (M := tm_9) rfl rfl rfl rfl ?_
  refine am_rT2 (M := tm_9) (tgt := 37) rfl rfl (am_ct hle) rfl ?_
  refine am_s0 (M := tm_9) rfl rfl rfl rfl ?_
  refine am_s0 (M := tm_9) rfl rfl rfl rfl ?_
  exact hg
theorem pm_f1 {w : Int64} {n : Nat} (hn : n ≤ 8) (hlt : ∀ k, k < n → ¬ p_bC w (nI k) = 0) (hend : n = 8 ∨ p_bC w (nI n) = 0) (kk : am_run E am_T0 d 51 34 [(3, .int (nI n)), (0, .ref 88), (1, .long w)] [] h v h') : ∀ m k, k ≤ n → n - k = m → am_run E am_T0 d 51 7 [(3, .int (nI k)), (0, .ref 88), (1, .long w)] [] h v h' := by
  intro m
  induction m with
  | zero =>
    intro k hk hm
    have e : k = n := by omega
    subst e
    by_cases h8 : k = 8
    · subst h8
      refine am_s0 (M := tm_51) rfl rfl rfl rfl ?_
      refine am_s0 (M := tm_51) rfl rfl rfl rfl ?_
      refine am_rT2 (M := tm_51) (tgt := 34) rfl rfl (by decide) rfl ?_
      exact kk
    · have hc : ¬ (8 : Int32) ≤ nI k := nI_ge (a := k) (b := 8) (by omega) (by decide)
      have h0 : lg_cmp (p_bM w (nI k)) 0 = 0 := (lg_cmp_eq _ _).mpr ((p_eq w k (by omega)).mp (by rcases hend with q | q; exact absurd q h8; exact q))
      refine am_s0 (M := tm_51) rfl rfl rfl rfl ?_
      refine am_s0 (M := tm_51) rfl rfl rfl rfl ?_
      refine am_rF2 (M := tm_51) (tgt := 34) rfl rfl (am_cf hc) rfl ?_
      refine am_s0 (M := tm_51) rfl rfl rfl rfl ?_
      refine am_s0 (M := tm_51) rfl rfl rfl rfl ?_
      refine am_s0 (M := tm_51) rfl rfl rfl rfl ?_
      refine am_s0 (M := tm_51) rfl rfl rfl rfl ?_
      refine am_s0 (M := tm_51) rfl rfl rfl rfl ?_
      refine am_s0 (M := tm_51) rfl rfl rfl rfl ?_
      refine am_s0 (M := tm_51) rfl rfl rfl rfl ?_
      refine am_s0 (M := tm_51) rfl rfl rfl rfl ?_
      refine am_s0 (M := tm_51) rfl rfl rfl rfl ?_
      refine am_rT (M := tm_51) (tgt := 34) rfl rfl (am_ct h0) rfl ?_
      exact kk
  | succ m ih =>
    intro k hk hm
    have hc : ¬ (8 : Int32) ≤ nI k := nI_ge (a := k) (b := 8) (by omega) (by decide)
    have h0 : ¬ lg_cmp (p_bM w (nI k)) 0 = 0 := fun q => hlt k (by omega) ((p_eq w k (by omega)).mpr ((lg_cmp_eq _ _).mp q))
    refine am_s0 (M := tm_51) rfl rfl rfl rfl ?_
    refine am_s0 (M := tm_51) rfl rfl rfl rfl ?_
    refine am_rF2 (M := tm_51) (tgt := 34) rfl rfl (am_cf hc) rfl ?_
    refine am_s0 (M := tm_51) rfl rfl rfl rfl ?_
    refine am_s0 (M := tm_51) rfl rfl rfl rfl ?_
    refine am_s0 (M := tm_51) rfl rfl rfl rfl ?_
    refine am_s0 (M := tm_51) rfl rfl rfl rfl ?_
    refine am_s0 (M := tm_51) rfl rfl rfl rfl ?_
    refine am_s0 (M := tm_51) rfl rfl rfl rfl ?_
    refine am_s0 (M := tm_51) rfl rfl rfl rfl ?_
    refine am_s0 (M := tm_51) rfl rfl rfl rfl ?_
    refine am_s0 (M := tm_51) rfl rfl rfl rfl ?_
    refine am_rF (M := tm_51) (tgt := 34) rfl rfl (am_cf h0) rfl ?_
    refine am_s0 (M := tm_51) rfl rfl rfl rfl ?_
    refine am_rJ (M := tm_51) (tgt := 7) rfl rfl rfl ?_
    have h2 := ih (k + 1) (by omega) (by omega)
    rw [← nI_1] at h2
    exact h2
theorem pm_f2 {w : Int64} {n : Nat} {f0 : Nat → Int32} (hn : n ≤ 8) (H0 : h[88]? = some (.inr (.inr (11, fM0)))) (H1 : h[89]? = some (.inl (0, 1200, f0))) : ∀ m i f, i ≤ n → n - i = m → ∃ g, ∀ h2 : am_H, (am_run E am_T0 d 51 88 [(4, .int (nI n)), (3, .int (nI n)), (0, .ref 88), (1, .long w)] [] (h.set 89 (.inl (0, 1200, g))) v h2) → am_run E am_T0 d 51 52 [(4, .int (nI i)), (3, .int (nI n)), (0, .ref 88), (1, .long w)] [] (h.set 89 (.inl (0, 1200, f))) v h2 := by
  intro m
  induction m with
  | zero =>
    intro i f hi hm
    have e : i = n := by omega
    subst e
    refine ⟨f, fun h2 kk => ?_⟩
    refine am_s0 (M := tm_51) rfl rfl rfl rfl ?_
    refine am_s0 (M := tm_51) rfl rfl rfl rfl ?_
    refine am_rT2 (M := tm_51) (tgt := 88) rfl rfl (am_ct (Int32.le_refl _)) rfl ?_
    exact kk
  | succ m ih =>
    intro i f hi hm
    obtain ⟨g, hg⟩ := ih (i + 1) (upd f (nI i).toNatClampNeg (am_nb 0 (p_bM w (nI i)).toInt32)) (by omega) (by omega)
    refine ⟨g, fun h2 kk => ?_⟩
    have G0 : (h.set 89 (.inl (0, 1200, f)))[88]? = some (.inr (.inr (11, fM0))) := by rw [am_so (by decide)]; exact H0
    have G1 : (h.set 89 (.inl (0, 1200, f)))[89]? = some (.inl (0, 1200, f)) := am_ss H1
    have hc : ¬ nI n ≤ nI i := nI_ge (by omega) (by omega)
    have hin : ¬ (nI i < 0 ∨ 1200 ≤ (nI i).toNatClampNeg) := nI_in (by omega) (by decide)
    refine am_s0 (M := tm_51) rfl rfl rfl rfl ?_
    refine am_s0 (M := tm_51) rfl rfl rfl rfl ?_
    refine am_rF2 (M := tm_51) (tgt := 88) rfl rfl (am_cf hc) rfl ?_
    refine am_s0 (M := tm_51) rfl rfl rfl rfl ?_
    refine am_rG (M := tm_51) rfl rfl G0 rfl rfl ?_
    refine am_s0 (M := tm_51) rfl rfl rfl rfl ?_
    refine am_rG (M := tm_51) rfl rfl G0 rfl rfl ?_
    refine am_s0 (M := tm_51) rfl rfl rfl rfl ?_
    refine am_s0 (M := tm_51) (pc' := 69) (ls' := [(4, .int (nI i)), (3, .int (nI n)), (0, .ref 88), (1, .long w)]) (st' := [.int (nI i), .ref 89]) rfl rfl rfl (by show some ((69 : Nat), ([(4, .int (nI i)), (3, .int (nI n)), (0, .ref 88), (1, .long w)] : am_L), [Value.int (0 + nI i), Value.ref 89]) = _; rw [Int32.zero_add]) ?_
    refine am_s0 (M := tm_51) rfl rfl rfl rfl ?_
    refine am_s0 (M := tm_51) rfl rfl rfl rfl ?_
    refine am_s0 (M := tm_51) rfl rfl rfl rfl ?_
    refine am_s0 (M := tm_51) rfl rfl rfl rfl ?_
    refine am_s0 (M := tm_51) rfl rfl rfl rfl ?_
    refine am_s0 (M := tm_51) rfl rfl rfl rfl ?_
    refine am_s0 (M := tm_51) rfl rfl rfl rfl ?_
    refine am_s0 (M := tm_51) rfl rfl rfl rfl ?_
    refine am_rSI (M := tm_51) rfl rfl G1 hin ?_
    rw [List.set_set]
    have h3 := hg h2 kk
    rw [← nI_1] at h3
    refine am_s0 (M := tm_51) rfl rfl rfl rfl ?_
    refine am_rJ (M := tm_51) (tgt := 52) rfl rfl rfl ?_
    exact h3
theorem pm_feed {f0 : Nat → Int32} (H0 : h[88]? = some (.inr (.inr (11, fM0)))) (H1 : h[89]? = some (.inl (0, 1200, f0))) (w : Int64) {n : Nat} (hn : n ≤ 8) (hlt : ∀ k, k < n → ¬ p_bC w (nI k) = 0) (hend : n = 8 ∨ p_bC w (nI n) = 0) : ∃ g, am_run E am_T0 d 51 0 [(0, .ref 88), (1, .long w)] [] h (some (.int (0 + nI n))) ((h.set 89 (.inl (0, 1200, g))).set 88 (.inr (.inr (11, fM0.set 2 (.int (0 + nI n)))))) := by
  obtain ⟨g, hg⟩ := pm_f2 (E := E) (d := d) (v := some (.int (0 + nI n))) (w := w) hn H0 H1 n 0 f0 (by omega) (by omega)
  rw [am_set_id H1] at hg
  refine ⟨g, ?_⟩
  have hle : (0 : Int32) + nI n ≤ 1200 := by
    rw [Int32.zero_add]
    exact nI_le (a := n) (b := 1200) (by omega) (by decide)
  have G0 : (h.set 89 (.inl (0, 1200, g)))[88]? = some (.inr (.inr (11, fM0))) := by rw [am_so (by decide)]; exact H0
  have G2 : ((h.set 89 (.inl (0, 1200, g))).set 88 (.inr (.inr (11, fM0.set 2 (.int (0 + nI n))))))[88]? = some (.inr (.inr (11, fM0.set 2 (.int (0 + nI n))))) := am_ss G0
  refine am_s0 (M := tm_51) rfl rfl rfl rfl ?_
  refine am_s0 (M := tm_51) rfl rfl rfl rfl ?_
  refine am_rI (M := tm_51) rfl rfl H0 rfl rfl rfl ?_
  refine am_s0 (M := tm_51) rfl rfl rfl rfl ?_
  refine am_s0 (M := tm_51) rfl rfl rfl rfl ?_
  refine pm_f1 hn hlt hend ?_ n 0 (by omega) (by omega)
  refine am_s0 (M := tm_51) rfl rfl rfl rfl ?_
  refine am_rG (M := tm_51) rfl rfl H0 rfl rfl ?_
  refine am_s0 (M := tm_51) rfl rfl rfl rfl ?_
  refine am_s0 (M := tm_51) rfl rfl rfl rfl ?_
  refine am_s0 (M := tm_51) rfl rfl rfl rfl ?_
  refine am_rT2 (M := tm_51) (tgt := 49) rfl rfl (am_ct hle) rfl ?_
  refine am_s0 (M := tm_51) rfl rfl rfl rfl ?_
  refine am_s0 (M := tm_51) rfl rfl rfl rfl ?_
  refine hg _ ?_
  refine am_s0 (M := tm_51) rfl rfl rfl rfl ?_
  refine am_s0 (M := tm_51) rfl rfl rfl rfl ?_
  refine am_rG (M := tm_51) rfl rfl G0 rfl rfl ?_
  refine am_s0 (M := tm_51) rfl rfl rfl rfl ?_
  refine am_s0 (M := tm_51) rfl rfl rfl rfl ?_
  refine am_rW (M := tm_51) rfl rfl G0 rfl rfl (Nat.le_of_ble_eq_true rfl) ?_
  refine am_s0 (M := tm_51) rfl rfl rfl rfl ?_
  refine am_rG (M := tm_51) rfl rfl G2 rfl rfl ?_
  exact am_r1 (M := tm_51) rfl rfl rfl (rfl)
end PG
