/-! TOKENS: what stands in the bytes. -/
def tb (σ : sg_S) (p : Int) : Int := (sg_i (sg_g σ 1 p) &&& sg_i 255).toInt
def lx_d (c : Int) : Bool := decide (48 ≤ c ∧ c ≤ 57)
def lx_l (c : Int) : Bool := decide (97 ≤ c ∧ c ≤ 122)
def lx_b (c : Int) : Bool := decide (c = 32 ∨ c = 10)
def lx_a (c : Int) : Bool := decide (48 ≤ c ∧ c ≤ 57 ∨ 97 ≤ c ∧ c ≤ 122)
def lx_sc (B : Int → Int) (N : Int) (p : Int → Bool) : Nat → Int → Int
  | 0, q => q
  | f + 1, q => if q < N ∧ p (B q) = true then lx_sc B N p f (q + 1) else q
def lx_end (B : Int → Int) (N : Int) (p : Int → Bool) (q : Int) : Int := lx_sc B N p (N - q).toNat q
theorem lx_sc_eq {B : Int → Int} {N : Int} {p : Int → Bool} {r : Int} : ∀ (f : Nat) (q : Int), q ≤ r → (∀ t, q ≤ t → t < r → t < N ∧ p (B t) = true) → (N ≤ r ∨ p (B r) = false) → (r - q).toNat ≤ f → lx_sc B N p f q = r
  | 0, q, h1, _, _, h4 => by simp only [lx_sc]; omega
  | f + 1, q, h1, h2, h3, h4 => by
    simp only [lx_sc]
    by_cases e : q = r
    · subst e
      rw [if_neg]
      rintro ⟨a, b⟩
      rcases h3 with h3 | h3
      · omega
      · rw [h3] at b; cases b
    · rw [if_pos (h2 q (by omega) (by omega))]
      exact lx_sc_eq f (q + 1) (by omega) (fun t a b => h2 t (by omega) b) h3 (by omega)
theorem lx_end_eq {B : Int → Int} {N : Int} {p : Int → Bool} {q r : Int} (h1 : q ≤ r) (h2 : ∀ t, q ≤ t → t < r → t < N ∧ p (B t) = true) (h3 : N ≤ r ∨ p (B r) = false) : lx_end B N p q = r := by
  refine lx_sc_eq _ q h1 h2 h3 ?_
  by_cases e : q = r
  · omega
  · have := (h2 (r - 1) (by omega) (by omega)).1
    omega
theorem lx_end_spec (B : Int → Int) (N : Int) (p : Int → Bool) (q : Int) : q ≤ lx_end B N p q ∧ (∀ t, q ≤ t → t < lx_end B N p q → t < N ∧ p (B t) = true) ∧ (N ≤ lx_end B N p q ∨ p (B (lx_end B N p q)) = false) := by
  unfold lx_end
  generalize hf : (N - q).toNat = f
  induction f generalizing q with
  | zero =>
    simp only [lx_sc]
    exact ⟨Int.le_refl q, fun t a b => by omega, Or.inl (by omega)⟩
  | succ f ih =>
    simp only [lx_sc]
    by_cases e : q < N ∧ p (B q) = true
    · rw [if_pos e]
      obtain ⟨h1, h2, h3⟩ := ih (q + 1) (by omega)
      refine ⟨by omega, fun t a b => ?_, h3⟩
      by_cases e2 : t = q
      · subst e2; exact e
      · exact h2 t (by omega) b
    · rw [if_neg e]
      refine ⟨Int.le_refl q, fun t a b => by omega, ?_⟩
      by_cases e2 : q < N
      · right
        cases e3 : p (B q) with
        | false => rfl
        | true => exact absurd ⟨e2, e3⟩ e
      · left; omega
theorem lx_end_le {B : Int → Int} {N : Int} {p : Int → Bool} {q : Int} (h : q ≤ N) : lx_end B N p q ≤ N := by
  obtain ⟨h1, h2, -⟩ := lx_end_spec B N p q
  by_cases e : q = lx_end B N p q
  · omega
  · have := (h2 (lx_end B N p q - 1) (by omega) (by omega)).1
    omega
/-- the letters of a word as one number -/
def lx_pk (B : Int → Int) (q : Int) : Nat → Int
  | 0 => 0
  | n + 1 => 256 * lx_pk B q n + B (q + n)
theorem lx_pk_b {B : Int → Int} (hB : ∀ p, 0 ≤ B p ∧ B p ≤ 255) (q : Int) : ∀ n : Nat, 0 ≤ lx_pk B q n ∧ lx_pk B q n < 256 ^ n
  | 0 => by simp [lx_pk]
  | n + 1 => by
    obtain ⟨h1, h2⟩ := lx_pk_b hB q n
    have := hB (q + n)
    simp only [lx_pk]
    rw [Int.pow_succ]
    omega
def lx_fi (f : Int → Int) (w : Int) : Nat → Int → Int
  | 0, _ => 258
  | n + 1, i => if f i = w then 261 + i else lx_fi f w n (i + 1)
theorem tb_r (σ : sg_S) (p : Int) : 0 ≤ tb σ p ∧ tb σ p ≤ 255 := by
  unfold tb
  generalize sg_i (sg_g σ 1 p) = x
  have h : (x &&& sg_i 255).toInt = (x.toInt % 256) := by
    have e : sg_i 255 = 255 := rfl
    rw [e]
    have h1 : (x &&& 255).toBitVec = x.toBitVec &&& 255#32 := rfl
    have h2 : (x.toBitVec &&& 255#32).toNat = x.toBitVec.toNat % 256 := by
      rw [BitVec.toNat_and]
      exact Nat.and_two_pow_sub_one_eq_mod _ 8
    have h3 : (x &&& 255).toInt = ((x.toBitVec &&& 255#32).toNat : Int) := by
      rw [← Int32.toInt_toBitVec, h1]
      refine BitVec.toInt_eq_toNat_of_lt ?_
      rw [h2]
      omega
    rw [h3, h2, ← Int32.toInt_toBitVec, BitVec.toInt_eq_toNat_cond]
    split <;> omega
  rw [h]
  omega
theorem lx_or8 {w c : Int} (hw : 0 ≤ w) (hw2 : w < 36028797018963968) (hc : 0 ≤ c) (hc2 : c ≤ 255) : (sg_l ((sg_l w <<< ((sg_i 8).toInt64 &&& 63)).toInt) ||| sg_l c).toInt = 256 * w + c := by
  obtain ⟨n, rfl⟩ := Int.eq_ofNat_of_zero_le hw
  obtain ⟨m, rfl⟩ := Int.eq_ofNat_of_zero_le hc
  have hn : n < 36028797018963968 := by omega
  have hm : m ≤ 255 := by omega
  have e8 : (sg_i 8).toInt64 &&& 63 = 8 := by decide
  rw [e8, bm_tl]
  have hb1 : (sg_l (n : Int)).toBitVec = BitVec.ofNat 64 n := by
    unfold sg_l
    rw [Int64.toBitVec_ofInt]
    exact BitVec.ofInt_natCast ..
  have hb2 : (sg_l (m : Int)).toBitVec = BitVec.ofNat 64 m := by
    unfold sg_l
    rw [Int64.toBitVec_ofInt]
    exact BitVec.ofInt_natCast ..
  have hs : (sg_l (n : Int) <<< (8 : Int64)).toBitVec = BitVec.ofNat 64 n <<< 8 := by
    rw [Int64.toBitVec_shiftLeft, hb1]
    rfl
  rw [← Int64.toInt_toBitVec, Int64.toBitVec_or, hs, hb2]
  have ht : (BitVec.ofNat 64 n <<< 8 ||| BitVec.ofNat 64 m).toNat = 256 * n + m := by
    rw [BitVec.toNat_or, BitVec.toNat_shiftLeft, BitVec.toNat_ofNat, BitVec.toNat_ofNat, Nat.mod_eq_of_lt (show n < 2 ^ 64 by omega), Nat.mod_eq_of_lt (show m < 2 ^ 64 by omega)]
    rw [Nat.shiftLeft_eq, Nat.mod_eq_of_lt (show n * 2 ^ 8 < 2 ^ 64 by omega)]
    rw [Nat.mul_comm n, ← Nat.two_pow_add_eq_or_of_lt (show m < 2 ^ 8 by omega) n]
  rw [BitVec.toInt_eq_toNat_of_lt (by rw [ht]; omega), ht]
  omega
def tk_av (σ : sg_S) : Int := if sg_g σ 36 3 < sg_g σ 36 2 then tb σ (sg_g σ 36 3) else 0
theorem tk_av_in {S σ : sg_S} {p n : Int} (hp : sg_g S 36 3 = p) (hn : sg_g S 36 2 = n) (ht : ∀ q, sg_g S 1 q = sg_g σ 1 q) (h : p < n) : tk_av S = tb σ p := by
  unfold tk_av tb
  rw [hp, hn, if_pos h, ht]
theorem tk_avR (σ : sg_S) : 0 ≤ tk_av σ ∧ tk_av σ ≤ 255 := by
  unfold tk_av
  split
  · exact tb_r _ _
  · decide
theorem lx_pk_7 {B : Int → Int} {q : Int} : ∀ (n : Nat), (∀ t, q ≤ t → t < q + n → lx_a (B t) = true) → 0 ≤ lx_pk B q n ∧ 2 * lx_pk B q n < 256 ^ n
  | 0, _ => by simp [lx_pk]
  | n + 1, h => by
    obtain ⟨h1, h2⟩ := lx_pk_7 n (fun t a b => h t a (by omega))
    have h3 := h (q + n) (by omega) (by omega)
    unfold lx_a at h3
    have h4 := of_decide_eq_true h3
    simp only [lx_pk]
    rw [Int.pow_succ]
    omega
theorem lx_pk_step {B : Int → Int} {q e N0 : Int} (hq : q ≤ e) (h8 : e + 1 - q ≤ 8) (h : ∀ t, q ≤ t → t < e → t < N0 ∧ lx_a (B t) = true) (hb : 0 ≤ B e ∧ B e ≤ 255) : (sg_l ((sg_l (lx_pk B q (e - q).toNat) <<< ((sg_i 8).toInt64 &&& 63)).toInt) ||| sg_l (B e)).toInt = lx_pk B q (e + 1 - q).toNat := by
  have h1 := lx_pk_7 (B := B) (q := q) (e - q).toNat (fun t a b => (h t a (by omega)).2)
  have h2 : (256 : Int) ^ (e - q).toNat ≤ 72057594037927936 := by
    have h9 : (e - q).toNat ≤ 7 := by omega
    generalize (e - q).toNat = n at h9
    rcases (show n = 0 ∨ n = 1 ∨ n = 2 ∨ n = 3 ∨ n = 4 ∨ n = 5 ∨ n = 6 ∨ n = 7 by omega) with h | h | h | h | h | h | h | h <;> subst h <;> decide
  rw [lx_or8 h1.1 (by omega) hb.1 hb.2]
  rw [show (e + 1 - q).toNat = (e - q).toNat + 1 by omega]
  simp only [lx_pk]
  rw [show q + ((e - q).toNat : Int) = e by omega]
theorem bm_lc3 {x y : Int} (hx : sg_RL x) (hy : sg_RL y) : (bm_lc x y = 0 ↔ x = y) ∧ (bm_lc x y < 0 ↔ x < y) ∧ -1 ≤ bm_lc x y ∧ bm_lc x y ≤ 1 := by
  unfold bm_lc
  rw [sg_idl hx, sg_idl hy]
  by_cases h : y < x
  · rw [if_pos h]
    omega
  · rw [if_neg h]
    by_cases h2 : x = y
    · rw [if_pos h2]
      omega
    · rw [if_neg h2]
      omega
/-- the signs -/
def lx_s (c : Int) : Bool := decide (c = 40 ∨ c = 41 ∨ c = 123 ∨ c = 125 ∨ c = 91 ∨ c = 93 ∨ c = 44 ∨ c = 58 ∨ c = 59 ∨ c = 124 ∨ c = 61 ∨ c = 60 ∨ c = 43 ∨ c = 45 ∨ c = 42 ∨ c = 47 ∨ c = 37 ∨ c = 35)
theorem lx_i2b {x : Int} (h0 : 0 ≤ x) (h1 : x ≤ 255) : (x ≤ 127 ∧ ((sg_i x).toInt8.toInt32).toInt = x) ∨ (127 < x ∧ -128 ≤ ((sg_i x).toInt8.toInt32).toInt ∧ ((sg_i x).toInt8.toInt32).toInt < 0) := by
  have e : ((sg_i x).toInt8.toInt32).toInt = x.bmod 256 := by
    rw [Int8.toInt_toInt32]
    unfold sg_i
    rw [Int32.toInt8_ofInt, Int8.toInt_ofInt]
  rw [e]
  have : Int.bmod x 256 = if x % 256 < (256 + 1) / 2 then x % 256 else x % 256 - 256 := rfl
  rw [this]
  split <;> omega
theorem lx_i2c {x : Int} (h0 : 0 ≤ x) (h1 : x ≤ 255) : (((sg_i x).toUInt32 % 65536).toInt32).toInt = x := by
  obtain ⟨n, rfl⟩ := Int.eq_ofNat_of_zero_le h0
  have hn : n ≤ 255 := by omega
  have : ∀ m : Fin 256, (((sg_i (m.val : Int)).toUInt32 % 65536).toInt32).toInt = (m.val : Int) := by decide +kernel
  exact this ⟨n, by omega⟩
def lx_kind (B : Int → Int) (N : Int) (R : Int → Int) (q : Int) : Int :=
  if N ≤ q then 256
  else if lx_d (B q) = true then (if lx_end B N lx_d q - q > 9 then 259 else 257)
  else if lx_l (B q) = true then (if lx_end B N lx_a q - q > 8 then 259 else lx_fi R (lx_pk B q (lx_end B N lx_a q - q).toNat) 18 0)
  else if lx_s (B q) = true then B q else 259
def lx_next (B : Int → Int) (N : Int) (q : Int) : Int :=
  if N ≤ q then q
  else if lx_d (B q) = true then lx_end B N lx_d q
  else if lx_l (B q) = true then lx_end B N lx_a q
  else if lx_s (B q) = true then q + 1 else q
section LXR
variable {E : am_E} {T : List am_M} {Sh : List sg_Sh} {d j pc : Nat} {ls : bm_L} {st : List bm_V} {σ : sg_S} {Q : Option bm_V → sg_S → Prop} {M : am_M}
theorem wk_gi {num x : Int} {idx : Nat} {lk : am_K} (hM : T[j]? = some M) (hq : am_find M.2.2.2.2 pc = some (pc, .getstatic idx, num, lk)) (hv : E.2.2.1[num.toNat]? = some (.int (sg_i x))) (k : wk E T Sh d j (pc + 3) ls (.inl x :: st) σ Q) : wk E T Sh d j pc ls st σ Q := by
  obtain ⟨v, σ', h1, h2⟩ := k
  refine ⟨v, σ', am_r0 (S := (pc + 3, bm_ls ls, bm_st (.inl x :: st))) hM hq rfl ?_ h1, h2⟩
  simp only [am_step, am_gs, hv, bm_st, List.map_cons, bm_v]
end LXR
theorem wk_rB {E : am_E} {T : List am_M} {Sh : List sg_Sh} {d j pc : Nat} {ls : bm_L} {σ : sg_S} {Q : Option bm_V → sg_S → Prop} {M : am_M} {x num : Int} {lk : am_K} (hM : T[j]? = some M) (hq : am_find M.2.2.2.2 pc = some (pc, .ireturn, num, lk)) (hr : M.2.2.2.1 = some .byte) (hx : narrow .byte (.int (sg_i x)) = .int (sg_i x)) (k : Q (some (.inl x)) σ) : wk E T Sh d j pc ls [.inl x] σ Q :=
  ⟨some (.inl x), σ, am_r1 hM hq rfl (by simp only [bm_st, List.map_cons, List.map_nil, bm_v, am_ret, hr, if_pos hx, Option.map_some]), k⟩
theorem lx_fi_s (f : Int → Int) (w : Int) (n : Nat) (i : Int) : lx_fi f w (n + 1) i = if f i = w then 261 + i else lx_fi f w n (i + 1) := rfl
theorem tb_eq {S σ : sg_S} (h : ∀ q, sg_g S 1 q = sg_g σ 1 q) : tb S = tb σ := by
  funext p
  unfold tb
  rw [h]
