/-! WORDS: packed by 256 (class) and by 40 (reference). -/
def uvf : Nat → Int → Int
  | 0, _ => 0
  | m + 1, w => if w = 0 then 0 else 256 * uvf m (w / 40) + (if w % 40 ≤ 26 then w % 40 + 96 else w % 40 + 21)
def uv (w : Int) : Int := uvf 9 w
theorem uvf_cd {B : Int → Int} {q : Int} : ∀ (n m : Nat), n < m → (∀ t, q ≤ t → t < q + n → lx_a (B t) = true) → uvf m (lx_cd B q n) = lx_pk B q n
  | 0, m + 1, _, _ => by simp [uvf, lx_cd, lx_pk]
  | n + 1, m + 1, hm, h => by
    have ih := uvf_cd n m (by omega) (fun t a b => h t a (by omega))
    have hb := lx_cd_b (B := B) (q := q) n (fun t a b => h t a (by omega))
    have ha := h (q + n) (by omega) (by omega)
    have hd := lx_dg_b ha
    have h1 := of_decide_eq_true ha
    have e1 : lx_cd B q (n + 1) = 40 * lx_cd B q n + lx_dg (B (q + n)) := rfl
    rw [e1]
    simp only [lx_pk, uvf]
    rw [if_neg (by omega), show (40 * lx_cd B q n + lx_dg (B (q + n))) / 40 = lx_cd B q n by omega, show (40 * lx_cd B q n + lx_dg (B (q + n))) % 40 = lx_dg (B (q + n)) by omega, ih]
    congr 1
    unfold lx_dg
    by_cases l : lx_l (B (q + n)) = true
    · have l2 := of_decide_eq_true l
      rw [if_pos l, if_pos (by omega)]
      omega
    · have l2 : ¬ (97 ≤ B (q + n) ∧ B (q + n) ≤ 122) := fun x => l (decide_eq_true x)
      rw [if_neg l, if_neg (by omega)]
      omega
/-- the RESERVED WORDS as the class keeps them -/
def rsv (R : Int → Int) : Prop := R 0 = 6579558 ∧ R 1 = 7103860 ∧ R 2 = 26990 ∧ R 3 = 26982 ∧ R 4 = 1952998766 ∧ R 5 = 1701606245 ∧ R 6 = 1768911969 ∧ R 7 = 1684632436 ∧ R 8 = 7566701 ∧ R 9 = 7168376 ∧ R 10 = 7170414 ∧ R 11 = 1935892846 ∧ R 12 = 7497078 ∧ R 13 = 6513012 ∧ R 14 = 1718378868 ∧ R 15 = 1885430635 ∧ R 16 = 1885696621 ∧ R 17 = 1885434484
theorem fi_e {R : Int → Int} (h : rsv R) (w : Int) : lx_fi R w 18 0 = (if w = 6579558 then 261 else (if w = 7103860 then 262 else (if w = 26990 then 263 else (if w = 26982 then 264 else (if w = 1952998766 then 265 else (if w = 1701606245 then 266 else (if w = 1768911969 then 267 else (if w = 1684632436 then 268 else (if w = 7566701 then 269 else (if w = 7168376 then 270 else (if w = 7170414 then 271 else (if w = 1935892846 then 272 else (if w = 7497078 then 273 else (if w = 6513012 then 274 else (if w = 1718378868 then 275 else (if w = 1885430635 then 276 else (if w = 1885696621 then 277 else (if w = 1885434484 then 278 else 258)))))))))))))))))) := by
  obtain ⟨h0, h1, h2, h3, h4, h5, h6, h7, h8, h9, h10, h11, h12, h13, h14, h15, h16, h17⟩ := h
  simp only [lx_fi_s, Int.reduceAdd, h0, h1, h2, h3, h4, h5, h6, h7, h8, h9, h10, h11, h12, h13, h14, h15, h16, h17]
  simp only [eq_comm (b := w)]
  rfl
section WRD
variable {c : tkC} {t : aK} {N : Nat}
/-- a token's word in both -/
theorem tok_w (hc : tkOK c) (hT : tkT c t N) {i : Nat} (hi : i < N) (h : tK c i = 258 ∨ 261 ≤ tK c i) : ∃ n : Nat, n ≤ 8 ∧ (∀ u, tPl c i ≤ u → u < tPl c i + n → lx_a (c.1 u) = true) ∧ t.2.1 i = lx_cd c.1 (tPl c i) n ∧ tW c i = lx_pk c.1 (tPl c i) n ∧ tK c i = lx_fi c.2.2.1 (tW c i) 18 0 := by
  rw [hT.2 i hi]
  have hk := h
  unfold tK lx_kind at hk
  by_cases a : c.2.1 ≤ tPl c i
  · rw [if_pos a] at hk; omega
  · rw [if_neg a] at hk
    by_cases b : lx_d (c.1 (tPl c i)) = true
    · rw [if_pos b] at hk
      by_cases e : lx_end c.1 c.2.1 lx_d (tPl c i) - tPl c i > 9
      · rw [if_pos e] at hk; omega
      · rw [if_neg e] at hk; omega
    · rw [if_neg b] at hk
      by_cases d : lx_l (c.1 (tPl c i)) = true
      · rw [if_pos d] at hk
        by_cases e : lx_end c.1 c.2.1 lx_a (tPl c i) - tPl c i > 8
        · rw [if_pos e] at hk; omega
        · rw [if_neg e] at hk
          obtain ⟨s1, s2, s3⟩ := lx_end_spec c.1 c.2.1 lx_a (tPl c i)
          have hW : tW c i = lx_pk c.1 (tPl c i) (lx_end c.1 c.2.1 lx_a (tPl c i) - tPl c i).toNat := by
            cases i with
            | zero => simp only [tW, tWd]; rw [if_pos ⟨by omega, d⟩]
            | succ j => simp only [tW, tWd]; rw [if_pos ⟨by omega, d⟩]
          refine ⟨(lx_end c.1 c.2.1 lx_a (tPl c i) - tPl c i).toNat, by omega, fun u u0 u1 => (s2 u u0 (by omega)).2, ?_, hW, ?_⟩
          · unfold rW
            rw [if_neg a, if_neg b, if_pos d]
          · rw [hW]
            unfold tK lx_kind
            rw [if_neg a, if_neg b, if_pos d, if_neg e]
      · rw [if_neg d] at hk
        by_cases e : lx_s (c.1 (tPl c i)) = true
        · rw [if_pos e] at hk
          have := hc.2.2 (tPl c i)
          omega
        · rw [if_neg e] at hk; omega
/-- the class's word out of the reference's -/
theorem tok_u (hc : tkOK c) (hT : tkT c t N) {i : Nat} (hi : i < N) (h : tK c i = 258 ∨ 261 ≤ tK c i) : uv (t.2.1 i) = tW c i := by
  obtain ⟨n, h1, h2, h3, h4, -⟩ := tok_w hc hT hi h
  rw [h3, h4]
  exact uvf_cd n 9 (by omega) h2
theorem cd_inj {B B' : Int → Int} {q q' : Int} : ∀ (n n' : Nat), (∀ t, q ≤ t → t < q + n → lx_a (B t) = true) → (∀ t, q' ≤ t → t < q' + n' → lx_a (B' t) = true) → lx_pk B q n = lx_pk B' q' n' → lx_cd B q n = lx_cd B' q' n'
  | 0, 0, _, _, _ => rfl
  | 0, n' + 1, h, h', e => by
    have h1 := of_decide_eq_true (h' (q' + n') (by omega) (by omega))
    have h2 := lx_pk_7 (B := B') (q := q') n' (fun t a b => h' t a (by omega))
    simp only [lx_pk] at e
    omega
  | n + 1, 0, h, h', e => by
    have h1 := of_decide_eq_true (h (q + n) (by omega) (by omega))
    have h2 := lx_pk_7 (B := B) (q := q) n (fun t a b => h t a (by omega))
    simp only [lx_pk] at e
    omega
  | n + 1, n' + 1, h, h', e => by
    have h1 := of_decide_eq_true (h (q + n) (by omega) (by omega))
    have h2 := of_decide_eq_true (h' (q' + n') (by omega) (by omega))
    simp only [lx_pk] at e
    have e1 : B (q + n) = B' (q' + n') := by omega
    have e2 : lx_pk B q n = lx_pk B' q' n' := by omega
    simp only [lx_cd]
    rw [e1, cd_inj n n' (fun t a b => h t a (by omega)) (fun t a b => h' t a (by omega)) e2]
/-- two words are the same in both -/
theorem tok_e (hc : tkOK c) (hT : tkT c t N) {i j : Nat} (hi : i < N) (hj : j < N) (h : tK c i = 258 ∨ 261 ≤ tK c i) (h' : tK c j = 258 ∨ 261 ≤ tK c j) : t.2.1 i = t.2.1 j ↔ tW c i = tW c j := by
  refine ⟨fun e => ?_, fun e => ?_⟩
  · rw [← tok_u hc hT hi h, ← tok_u hc hT hj h', e]
  · obtain ⟨n, h1, h2, h3, h4, -⟩ := tok_w hc hT hi h
    obtain ⟨n', h1', h2', h3', h4', -⟩ := tok_w hc hT hj h'
    rw [h3, h3']
    rw [h4, h4'] at e
    exact cd_inj n n' h2 h2' e
/-- a constant's letters -/
def ltr (w : Int) (n : Nat) (i : Int) : Int := (w / 256 ^ (n - 1 - i.toNat)) % 256
theorem tok_k (hc : tkOK c) (hT : tkT c t N) {i : Nat} (hi : i < N) (h : tK c i = 258 ∨ 261 ≤ tK c i) (w p : Int) (n : Nat) (hn : n ≤ 8) (hl : ∀ u, 0 ≤ u → u < 0 + (n : Int) → lx_a (ltr p n u) = true) (hp : lx_pk (ltr p n) 0 n = p) (hw : lx_cd (ltr p n) 0 n = w) : t.2.1 i = w ↔ tW c i = p := by
  obtain ⟨m, h1, h2, h3, h4, -⟩ := tok_w hc hT hi h
  refine ⟨fun e => ?_, fun e => ?_⟩
  · have h5 := uvf_cd m 9 (by omega) h2
    rw [← h3, e, ← hw, uvf_cd n 9 (by omega) hl, hp] at h5
    rw [h4]
    exact h5.symm
  · rw [h3]
    rw [h4] at e
    rw [← hw]
    exact cd_inj m n h2 hl (e.trans hp.symm)
theorem ltr_k (p : Int) (n : Nat) (hn : n ≤ 4) (h : (lx_a (ltr p n 0) = true ∨ n < 1) ∧ (lx_a (ltr p n 1) = true ∨ n < 2) ∧ (lx_a (ltr p n 2) = true ∨ n < 3) ∧ (lx_a (ltr p n 3) = true ∨ n < 4)) : ∀ u, 0 ≤ u → u < 0 + (n : Int) → lx_a (ltr p n u) = true := by
  intro u a b
  obtain ⟨h0, h1, h2, h3⟩ := h
  rcases (show u = 0 ∨ u = 1 ∨ u = 2 ∨ u = 3 by omega) with e | e | e | e <;> subst e
  · exact h0.resolve_right (by omega)
  · exact h1.resolve_right (by omega)
  · exact h2.resolve_right (by omega)
  · exact h3.resolve_right (by omega)
theorem tok_def (hc : tkOK c) (hT : tkT c t N) {i : Nat} (hi : i < N) (h : tK c i = 258 ∨ 261 ≤ tK c i) : t.2.1 i = 6606 ↔ tW c i = 6579558 := tok_k hc hT hi h 6606 6579558 3 (by decide) (ltr_k 6579558 3 (by decide) (by decide)) (by decide) (by decide)
theorem tok_let (hc : tkOK c) (hT : tkT c t N) {i : Nat} (hi : i < N) (h : tK c i = 258 ∨ 261 ≤ tK c i) : t.2.1 i = 19420 ↔ tW c i = 7103860 := tok_k hc hT hi h 19420 7103860 3 (by decide) (ltr_k 7103860 3 (by decide) (by decide)) (by decide) (by decide)
theorem tok_in (hc : tkOK c) (hT : tkT c t N) {i : Nat} (hi : i < N) (h : tK c i = 258 ∨ 261 ≤ tK c i) : t.2.1 i = 374 ↔ tW c i = 26990 := tok_k hc hT hi h 374 26990 2 (by decide) (ltr_k 26990 2 (by decide) (by decide)) (by decide) (by decide)
theorem tok_if (hc : tkOK c) (hT : tkT c t N) {i : Nat} (hi : i < N) (h : tK c i = 258 ∨ 261 ≤ tK c i) : t.2.1 i = 366 ↔ tW c i = 26982 := tok_k hc hT hi h 366 26982 2 (by decide) (ltr_k 26982 2 (by decide) (by decide)) (by decide) (by decide)
theorem tok_then (hc : tkOK c) (hT : tkT c t N) {i : Nat} (hi : i < N) (h : tK c i = 258 ∨ 261 ≤ tK c i) : t.2.1 i = 1293014 ↔ tW c i = 1952998766 := tok_k hc hT hi h 1293014 1952998766 4 (by decide) (ltr_k 1952998766 4 (by decide) (by decide)) (by decide) (by decide)
theorem tok_else (hc : tkOK c) (hT : tkT c t N) {i : Nat} (hi : i < N) (h : tK c i = 258 ∨ 261 ≤ tK c i) : t.2.1 i = 339965 ↔ tW c i = 1701606245 := tok_k hc hT hi h 339965 1701606245 4 (by decide) (ltr_k 1701606245 4 (by decide) (by decide)) (by decide) (by decide)
theorem tok_iota (hc : tkOK c) (hT : tkT c t N) {i : Nat} (hi : i < N) (h : tK c i = 258 ∨ 261 ≤ tK c i) : t.2.1 i = 600801 ↔ tW c i = 1768911969 := tok_k hc hT hi h 600801 1768911969 4 (by decide) (ltr_k 1768911969 4 (by decide) (by decide)) (by decide) (by decide)
theorem tok_dist (hc : tkOK c) (hT : tkT c t N) {i : Nat} (hi : i < N) (h : tK c i = 258 ∨ 261 ≤ tK c i) : t.2.1 i = 271180 ↔ tW c i = 1684632436 := tok_k hc hT hi h 271180 1684632436 4 (by decide) (ltr_k 1684632436 4 (by decide) (by decide)) (by decide) (by decide)
theorem tok_sum (hc : tkOK c) (hT : tkT c t N) {i : Nat} (hi : i < N) (h : tK c i = 258 ∨ 261 ≤ tK c i) : t.2.1 i = 31253 ↔ tW c i = 7566701 := tok_k hc hT hi h 31253 7566701 3 (by decide) (ltr_k 7566701 3 (by decide) (by decide)) (by decide) (by decide)
theorem tok_max (hc : tkOK c) (hT : tkT c t N) {i : Nat} (hi : i < N) (h : tK c i = 258 ∨ 261 ≤ tK c i) : t.2.1 i = 20864 ↔ tW c i = 7168376 := tok_k hc hT hi h 20864 7168376 3 (by decide) (ltr_k 7168376 3 (by decide) (by decide)) (by decide) (by decide)
theorem tok_min (hc : tkOK c) (hT : tkT c t N) {i : Nat} (hi : i < N) (h : tK c i = 258 ∨ 261 ≤ tK c i) : t.2.1 i = 21174 ↔ tW c i = 7170414 := tok_k hc hT hi h 21174 7170414 3 (by decide) (ltr_k 7170414 3 (by decide) (by decide)) (by decide) (by decide)
theorem tok_scan (hc : tkOK c) (hT : tkT c t N) {i : Nat} (hi : i < N) (h : tK c i = 258 ∨ 261 ≤ tK c i) : t.2.1 i = 1220854 ↔ tW c i = 1935892846 := tok_k hc hT hi h 1220854 1935892846 4 (by decide) (ltr_k 1935892846 4 (by decide) (by decide)) (by decide) (by decide)
theorem tok_rev (hc : tkOK c) (hT : tkT c t N) {i : Nat} (hi : i < N) (h : tK c i = 258 ∨ 261 ≤ tK c i) : t.2.1 i = 29022 ↔ tW c i = 7497078 := tok_k hc hT hi h 29022 7497078 3 (by decide) (ltr_k 7497078 3 (by decide) (by decide)) (by decide) (by decide)
theorem tok_cat (hc : tkOK c) (hT : tkT c t N) {i : Nat} (hi : i < N) (h : tK c i = 258 ∨ 261 ≤ tK c i) : t.2.1 i = 4860 ↔ tW c i = 6513012 := tok_k hc hT hi h 4860 6513012 3 (by decide) (ltr_k 6513012 3 (by decide) (by decide)) (by decide) (by decide)
theorem tok_flat (hc : tkOK c) (hT : tkT c t N) {i : Nat} (hi : i < N) (h : tK c i = 258 ∨ 261 ≤ tK c i) : t.2.1 i = 403260 ↔ tW c i = 1718378868 := tok_k hc hT hi h 403260 1718378868 4 (by decide) (ltr_k 1718378868 4 (by decide) (by decide)) (by decide) (by decide)
theorem tok_pack (hc : tkOK c) (hT : tkT c t N) {i : Nat} (hi : i < N) (h : tK c i = 258 ∨ 261 ≤ tK c i) : t.2.1 i = 1025731 ↔ tW c i = 1885430635 := tok_k hc hT hi h 1025731 1885430635 4 (by decide) (ltr_k 1885430635 4 (by decide) (by decide)) (by decide) (by decide)
theorem tok_perm (hc : tkOK c) (hT : tkT c t N) {i : Nat} (hi : i < N) (h : tK c i = 258 ∨ 261 ≤ tK c i) : t.2.1 i = 1032733 ↔ tW c i = 1885696621 := tok_k hc hT hi h 1032733 1885696621 4 (by decide) (ltr_k 1885696621 4 (by decide) (by decide)) (by decide) (by decide)
theorem tok_part (hc : tkOK c) (hT : tkT c t N) {i : Nat} (hi : i < N) (h : tK c i = 258 ∨ 261 ≤ tK c i) : t.2.1 i = 1026340 ↔ tW c i = 1885434484 := tok_k hc hT hi h 1026340 1885434484 4 (by decide) (ltr_k 1885434484 4 (by decide) (by decide)) (by decide) (by decide)
theorem tok_int (hc : tkOK c) (hT : tkT c t N) {i : Nat} (hi : i < N) (h : tK c i = 258 ∨ 261 ≤ tK c i) : t.2.1 i = 14980 ↔ tW c i = 6909556 := tok_k hc hT hi h 14980 6909556 3 (by decide) (ltr_k 6909556 3 (by decide) (by decide)) (by decide) (by decide)
end WRD
