/-! THE REFERENCE'S TOKENS are the class's. -/
def lx_dec (B : Int → Int) (q : Int) : Nat → Int
  | 0 => 0
  | n + 1 => 10 * lx_dec B q n + B (q + n) - 48
def lx_dg (b : Int) : Int := if lx_l b = true then b - 96 else b - 21
def lx_cd (B : Int → Int) (q : Int) : Nat → Int
  | 0 => 0
  | n + 1 => 40 * lx_cd B q n + lx_dg (B (q + n))
theorem lx_dec_b {B : Int → Int} {q : Int} : ∀ (n : Nat), (∀ t, q ≤ t → t < q + n → lx_d (B t) = true) → 0 ≤ lx_dec B q n ∧ lx_dec B q n < 10 ^ n
  | 0, _ => by simp [lx_dec]
  | n + 1, h => by
    obtain ⟨h1, h2⟩ := lx_dec_b n (fun t a b => h t a (by omega))
    have h3 := of_decide_eq_true (h (q + n) (by omega) (by omega))
    simp only [lx_dec]
    rw [Int.pow_succ]
    omega
theorem lx_dg_b {b : Int} (h : lx_a b = true) : 1 ≤ lx_dg b ∧ lx_dg b ≤ 36 := by
  have h1 := of_decide_eq_true h
  unfold lx_dg lx_l
  split
  · rename_i h2
    have := of_decide_eq_true h2
    omega
  · rename_i h2
    have : ¬ (97 ≤ b ∧ b ≤ 122) := fun q => h2 (decide_eq_true q)
    omega
theorem lx_cd_b {B : Int → Int} {q : Int} : ∀ (n : Nat), (∀ t, q ≤ t → t < q + n → lx_a (B t) = true) → 0 ≤ lx_cd B q n ∧ lx_cd B q n < 40 ^ n
  | 0, _ => by simp [lx_cd]
  | n + 1, h => by
    obtain ⟨h1, h2⟩ := lx_cd_b n (fun t a b => h t a (by omega))
    have h3 := lx_dg_b (h (q + n) (by omega) (by omega))
    simp only [lx_cd]
    rw [Int.pow_succ]
    omega
theorem lx_p10 {n : Nat} (h : n ≤ 10) : (10 : Int) ^ n ≤ 10000000000 := by
  rcases (show n = 0 ∨ n = 1 ∨ n = 2 ∨ n = 3 ∨ n = 4 ∨ n = 5 ∨ n = 6 ∨ n = 7 ∨ n = 8 ∨ n = 9 ∨ n = 10 by omega) with h | h | h | h | h | h | h | h | h | h | h <;> subst h <;> decide
theorem lx_p40 {n : Nat} (h : n ≤ 8) : (40 : Int) ^ n ≤ 6553600000000 := by
  rcases (show n = 0 ∨ n = 1 ∨ n = 2 ∨ n = 3 ∨ n = 4 ∨ n = 5 ∨ n = 6 ∨ n = 7 ∨ n = 8 by omega) with h | h | h | h | h | h | h | h | h <;> subst h <;> decide
/-- the reference's sort and word of a token -/
def rS (c : tkC) (i : Nat) : Int := if tK c i = 256 then 0 else if tK c i = 257 then 1 else if tK c i = 259 then 4 else if tK c i = 258 ∨ 261 ≤ tK c i then 2 else 3
def rW (c : tkC) (i : Nat) : Int := if c.2.1 ≤ tPl c i then 0 else if lx_d (c.1 (tPl c i)) = true then lx_dec c.1 (tPl c i) (lx_end c.1 c.2.1 lx_d (tPl c i) - tPl c i).toNat else if lx_l (c.1 (tPl c i)) = true then lx_cd c.1 (tPl c i) (lx_end c.1 c.2.1 lx_a (tPl c i) - tPl c i).toNat else c.1 (tPl c i)
def tkT (c : tkC) (t : aK) (N : Nat) : Prop := (∀ i, i ≤ N → t.1 i = rS c i ∧ t.2.2 i = tPl c i) ∧ (∀ i, i < N → t.2.1 i = rW c i)
theorem lx_end_1 {B : Int → Int} {N q : Int} {p : Int → Bool} (h : q < N) (hp : p (B q) = true) : lx_end B N p (q + 1) = lx_end B N p q := by
  obtain ⟨h1, h2, h3⟩ := lx_end_spec B N p (q + 1)
  refine (lx_end_eq (by omega) (fun t a b => ?_) h3).symm
  by_cases e : t = q
  · subst e; exact ⟨h, hp⟩
  · exact h2 t (by omega) b
theorem lx_end_0 {B : Int → Int} {N q : Int} {p : Int → Bool} (h : N ≤ q ∨ p (B q) = false) : lx_end B N p q = q := lx_end_eq (Int.le_refl _) (fun t a b => by omega) h
theorem vd_l (x : Int) : v_isDigit x = if lx_d x = true then 1 else 0 := by
  unfold v_isDigit v_in lx_d
  by_cases a : x < 48
  · rw [if_pos a]; simp; omega
  · rw [if_neg a]
    by_cases b : 57 < x
    · rw [if_pos b]; simp; omega
    · rw [if_neg b]; simp; omega
theorem vl_l (x : Int) : v_isLetter x = if lx_l x = true then 1 else 0 := by
  unfold v_isLetter v_in lx_l
  by_cases a : x < 97
  · rw [if_pos a]; simp; omega
  · rw [if_neg a]
    by_cases b : 122 < x
    · rw [if_pos b]; simp; omega
    · rw [if_neg b]; simp; omega
theorem vs_l (x : Int) : v_isSign x = if lx_s x = true then 1 else 0 := by
  by_cases h : lx_s x = true
  · rw [if_pos h]
    have := of_decide_eq_true h
    rcases this with h | h | h | h | h | h | h | h | h | h | h | h | h | h | h | h | h | h <;> subst h <;> decide
  · rw [if_neg h]
    have h2 : ¬ (x = 40 ∨ x = 41 ∨ x = 123 ∨ x = 125 ∨ x = 91 ∨ x = 93 ∨ x = 44 ∨ x = 58 ∨ x = 59 ∨ x = 124 ∨ x = 61 ∨ x = 60 ∨ x = 43 ∨ x = 45 ∨ x = 42 ∨ x = 47 ∨ x = 37 ∨ x = 35) := fun q => h (decide_eq_true q)
    simp only [not_or] at h2
    obtain ⟨a1, a2, a3, a4, a5, a6, a7, a8, a9, a10, a11, a12, a13, a14, a15, a16, a17, a18⟩ := h2
    unfold v_isSign
    rw [if_neg a1, if_neg a2, if_neg a3, if_neg a4, if_neg a5, if_neg a6, if_neg a7, if_neg a8, if_neg a9, if_neg a10, if_neg a11, if_neg a12, if_neg a13, if_neg a14, if_neg a15, if_neg a16, if_neg a17, if_pos a18]
section TKN
variable {σ : sg_S} {c : tkC}
/-- the bytes that the reference sees -/
def bY (c : tkC) (σ : sg_S) : Prop := tkOK c ∧ sg_g σ 88 2 = c.2.1 ∧ ∀ p, 0 ≤ p → p < c.2.1 → sg_g σ 89 p = c.1 p
theorem pb_l (h : bY c σ) {p : Int} (hp : 0 ≤ p) : p_byteOf σ p := by
  have h1 := h.1.2.1
  unfold p_byteOf
  rw [h.2.1]
  exact ⟨fun _ => trivial, fun q => ⟨⟨hp, by omega⟩, trivial⟩⟩
theorem vb_l (h : bY c σ) {p : Int} (hp : 0 ≤ p) : v_byteOf σ p = if p < c.2.1 then c.1 p else 0 := by
  unfold v_byteOf
  rw [h.2.1]
  by_cases q : c.2.1 ≤ p
  · rw [if_pos q, if_neg (by omega)]
  · rw [if_neg q, if_pos (by omega), h.2.2 p hp (by omega)]
/-- the first k tokens in their rows -/
def tkP (c : tkC) (σ : sg_S) (k : Nat) : Prop := sg_g σ 88 3 = k ∧ ∀ i : Nat, i < k → sg_g σ 90 i = rS c i ∧ sg_g σ 91 i = tPl c i ∧ (¬ rS c i = 4 → sg_gl σ 92 i = rW c i)
theorem s_token {Q : sg_S → Prop} {k : Nat} {a p w : Int} (h : tkP c σ k) (hk : k < 1205) (ha : a = rS c k) (hp : p = tPl c k) (hpr : sg_R p) (hw : ¬ rS c k = 4 → w = rW c k) (hwr : sg_RL w) (kk : ∀ σ', tkP c σ' (k + 1) → sg_gl σ' 92 k = w → Q σ') : V_token σ a p w Q := by
  obtain ⟨h1, h2⟩ := h
  have har : sg_R a := by
    rw [ha]
    unfold rS
    repeat (first | (constructor <;> decide) | split)
  unfold V_token
  rw [h1]
  refine ⟨⟨by omega, by omega⟩, ?_⟩
  rintro σ2 rfl σ5 rfl σ8 rfl
  refine ⟨⟨by omega, by omega⟩, ?_⟩
  rintro σ12 rfl
  refine kk _ ⟨?_, fun i hi => ?_⟩ ?_
  · rw [sg_gw, if_pos ⟨rfl, rfl⟩, sg_id ⟨by omega, by omega⟩]
    omega
  · simp only [rg_w, rg_w', rg_wl, rg_wl', Nat.reduceEqDiff, if_false, if_true, reduceIte, Int.reduceEq]
    by_cases e : i = k
    · subst e
      simp only [if_true, sg_id har, sg_id hpr, sg_idl hwr]
      exact ⟨ha, hp, hw⟩
    · have e2 : ¬ ((i : Int) = (k : Int)) := by omega
      simp only [if_neg e2]
      exact h2 i (by omega)
  · rw [sg_gw', sg_gwl, if_pos ⟨rfl, rfl⟩, sg_idl hwr]
/-- where a token begins, there is its kind -/
theorem tk_at (hc : tkOK c) {k : Nat} {p : Int} (hp0 : 0 ≤ p) (he : lx_end c.1 c.2.1 lx_b p = tPl c k) (hp : p < c.2.1) (hb : lx_b (c.1 p) = false) : tPl c k = p := by
  rw [← he]
  exact lx_end_0 (Or.inr hb)
theorem tP_k (hc : tkOK c) : ∀ k : Nat, (∀ i, i < k → ¬ tK c i = 256 ∧ ¬ tK c i = 259) → (k : Int) ≤ tPos c k
  | 0, _ => by simp [tPos]
  | k + 1, h => by
    have ih := tP_k hc k (fun i hi => h i (by omega))
    have h1 := h k (by omega)
    have h2 := (lx_end_spec c.1 c.2.1 lx_b (tPos c k)).1
    have h3 := tPl_r hc k
    have : tPl c k + 1 ≤ tPos c (k + 1) := by
      show tPl c k + 1 ≤ lx_next c.1 c.2.1 (tPl c k)
      unfold lx_next
      have h4 := h1
      unfold tK lx_kind at h4
      by_cases a : c.2.1 ≤ tPl c k
      · rw [if_pos a] at h4
        exact absurd rfl h4.1
      · rw [if_neg a]
        rw [if_neg a] at h4
        have hlt : tPl c k < c.2.1 := by omega
        by_cases b : lx_d (c.1 (tPl c k)) = true
        · rw [if_pos b, ← lx_end_1 hlt b]
          exact (lx_end_spec c.1 c.2.1 lx_d (tPl c k + 1)).1
        · rw [if_neg b]
          rw [if_neg b] at h4
          by_cases d : lx_l (c.1 (tPl c k)) = true
          · have d2 : lx_a (c.1 (tPl c k)) = true := by
              have := of_decide_eq_true d
              unfold lx_a
              exact decide_eq_true (Or.inr this)
            rw [if_pos d, ← lx_end_1 hlt d2]
            exact (lx_end_spec c.1 c.2.1 lx_a (tPl c k + 1)).1
          · rw [if_neg d]
            rw [if_neg d] at h4
            by_cases e : lx_s (c.1 (tPl c k)) = true
            · rw [if_pos e]
              exact Int.le_refl _
            · rw [if_neg e] at h4
              exact absurd rfl h4.2
    have h5 : tPos c k ≤ tPl c k := h2
    omega
end TKN
