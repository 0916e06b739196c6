/-! THE PARSER told over tokens: two states alike in some cells; the tokens of a tape; the parser as a function. -/
def ag (q : Nat → Bool) (σ τ : sg_S) : Prop := ∀ a k, q a = true → σ.1 a k = τ.1 a k ∧ σ.2 a k = τ.2 a k
theorem ag_r (q : Nat → Bool) (σ : sg_S) : ag q σ σ := fun _ _ _ => ⟨rfl, rfl⟩
theorem ag_t {q : Nat → Bool} {σ τ ρ : sg_S} (h : ag q σ τ) (h2 : ag q τ ρ) : ag q σ ρ := fun a k ha => ⟨(h a k ha).1.trans (h2 a k ha).1, (h a k ha).2.trans (h2 a k ha).2⟩
theorem ag_w {q : Nat → Bool} {σ τ : sg_S} (h : ag q σ τ) (a : Nat) (k x : Int) : ag q (sg_w σ a k x) (sg_w τ a k x) := fun b j hb => by
  refine ⟨?_, (h b j hb).2⟩
  simp only [sg_w]
  rw [(h b j hb).1]
theorem ag_wl {q : Nat → Bool} {σ τ : sg_S} (h : ag q σ τ) (a : Nat) (k x : Int) : ag q (sg_wl σ a k x) (sg_wl τ a k x) := fun b j hb => by
  refine ⟨(h b j hb).1, ?_⟩
  simp only [sg_wl]
  rw [(h b j hb).2]
theorem ag_p {q : Nat → Bool} {σ τ : sg_S} (h : ag q σ τ) (a : Nat) (n i x : Int) : ag q (sx_put σ a n i x) (sx_put τ a n i x) := by
  unfold sx_put
  split
  · exact ag_w h a i x
  · exact h
theorem ag_pl {q : Nat → Bool} {σ τ : sg_S} (h : ag q σ τ) (a : Nat) (n i x : Int) : ag q (sx_putl σ a n i x) (sx_putl τ a n i x) := by
  unfold sx_putl
  split
  · exact ag_wl h a i x
  · exact h
theorem ag_xw {q : Nat → Bool} {σ τ : sg_S} (h : ag q σ τ) {a : Nat} (ha : q a = false) (k x : Int) : ag q (sg_w σ a k x) τ := fun b j hb => by
  refine ⟨?_, (h b j hb).2⟩
  simp only [sg_w]
  rw [if_neg (by rintro ⟨rfl, -⟩; rw [ha] at hb; cases hb)]
  exact (h b j hb).1
theorem ag_xwl {q : Nat → Bool} {σ τ : sg_S} (h : ag q σ τ) {a : Nat} (ha : q a = false) (k x : Int) : ag q (sg_wl σ a k x) τ := fun b j hb => by
  refine ⟨(h b j hb).1, ?_⟩
  simp only [sg_wl]
  rw [if_neg (by rintro ⟨rfl, -⟩; rw [ha] at hb; cases hb)]
  exact (h b j hb).2
theorem ag_xp {q : Nat → Bool} {σ τ : sg_S} (h : ag q σ τ) {a : Nat} (ha : q a = false) (n i x : Int) : ag q (sx_put σ a n i x) τ := by
  unfold sx_put
  split
  · exact ag_xw h ha i x
  · exact h
theorem ag_xpl {q : Nat → Bool} {σ τ : sg_S} (h : ag q σ τ) {a : Nat} (ha : q a = false) (n i x : Int) : ag q (sx_putl σ a n i x) τ := by
  unfold sx_putl
  split
  · exact ag_xwl h ha i x
  · exact h
def ag_ok (q : Nat → Bool) (L : List Nat) : Bool := L.all (fun c => !(q (c % 1000))) && (List.range 152).all (fun a => true)
theorem ag_F {q : Nat → Bool} {σ σ' τ : sg_S} {L : List Nat} (h : ag q σ τ) (hF : sg_F L σ σ') (hL : L.all (fun c => !(q (c % 1000))) = true) (hq : ∀ a, q a = true → a < 1000) : ag q σ' τ := fun a k ha => by
  have hc : sg_ca L a = true := by
    unfold sg_ca
    rw [List.all_eq_true]
    intro c hc
    have := (List.all_eq_true.mp hL) c hc
    cases e : (c % 1000 == a) with
    | false => rfl
    | true =>
      have e2 : c % 1000 = a := by simpa using e
      rw [e2, ha] at this
      cases this
  have := hF a k (hq a ha) (sg_ca_cv hc (hq a ha) k)
  exact ⟨this.1.trans (h a k ha).1, this.2.trans (h a k ha).2⟩
theorem ag_g {q : Nat → Bool} {σ τ : sg_S} (h : ag q σ τ) {a : Nat} (ha : q a = true) (k : Int) : sg_g σ a k = sg_g τ a k := by unfold sg_g; rw [(h a k ha).1]
theorem ag_gl {q : Nat → Bool} {σ τ : sg_S} (h : ag q σ τ) {a : Nat} (ha : q a = true) (k : Int) : sg_gl σ a k = sg_gl τ a k := by unfold sg_gl; rw [(h a k ha).2]
theorem ag_at {q : Nat → Bool} {σ τ : sg_S} (h : ag q σ τ) {a : Nat} (ha : q a = true) (n i : Int) : sx_at σ a n i = sx_at τ a n i := by unfold sx_at; rw [ag_g h ha]
theorem ag_atl {q : Nat → Bool} {σ τ : sg_S} (h : ag q σ τ) {a : Nat} (ha : q a = true) (n i : Int) : sx_atl σ a n i = sx_atl τ a n i := by unfold sx_atl; rw [ag_gl h ha]
theorem sx_at_R (σ : sg_S) (a : Nat) (n i : Int) : sg_R (sx_at σ a n i) := by
  unfold sx_at
  split
  · exact sg_Rg _ _ _
  · decide
/-- the tree's and the DEFS' cells -/
def tec (a : Nat) : Bool := Nat.ble 2 a && Nat.ble a 27
theorem tec_lt (a : Nat) (h : tec a = true) : a < 1000 := by
  unfold tec at h
  simp only [Bool.and_eq_true, Nat.ble_eq] at h
  omega
abbrev te (σ τ : sg_S) : Prop := ag tec σ τ
theorem te_F {σ σ' τ : sg_S} {L : List Nat} (h : te σ τ) (hF : sg_F L σ σ') (hL : L.all (fun c => !(tec (c % 1000))) = true) : te σ' τ := ag_F h hF hL tec_lt
/-- the tape, the fault's place and the tokens -/
def tkq (a : Nat) : Bool := a == 1 || a == 35 || a == 36 || a == 37
theorem tkq_lt (a : Nat) (h : tkq a = true) : a < 1000 := by
  unfold tkq at h
  simp only [Bool.or_eq_true, beq_iff_eq] at h
  omega
abbrev tkC : Type := (Int → Int) × Int × (Int → Int) × (Int × Int)
def tPos (c : tkC) : Nat → Int
  | 0 => 0
  | i + 1 => lx_next c.1 c.2.1 (lx_end c.1 c.2.1 lx_b (tPos c i))
def tPl (c : tkC) (i : Nat) : Int := lx_end c.1 c.2.1 lx_b (tPos c i)
def tK (c : tkC) (i : Nat) : Int := lx_kind c.1 c.2.1 c.2.2.1 (tPl c i)
def tWd (c : tkC) (i : Nat) (w : Int) : Int := if tPl c i < c.2.1 ∧ lx_l (c.1 (tPl c i)) = true then lx_pk c.1 (tPl c i) (lx_end c.1 c.2.1 lx_a (tPl c i) - tPl c i).toNat else w
def tW (c : tkC) : Nat → Int
  | 0 => tWd c 0 c.2.2.2.1
  | i + 1 => tWd c (i + 1) (tW c i)
/-- the number that stands behind token i -/
def tN (c : tkC) : Nat → Int
  | 0 => lx_num c.1 c.2.1 (tPl c 0) c.2.2.2.2
  | i + 1 => lx_num c.1 c.2.1 (tPl c (i + 1)) (tN c i)
def tkOK (c : tkC) : Prop := 0 ≤ c.2.1 ∧ c.2.1 ≤ 1200 ∧ (∀ p, 0 ≤ c.1 p ∧ c.1 p ≤ 255)
def tk (c : tkC) (σ : sg_S) (i : Nat) : Prop := tb σ = c.1 ∧ sg_gl σ 37 = c.2.2.1 ∧ sg_g σ 36 2 = c.2.1 ∧ sg_g σ 36 3 = tPos c (i + 1) ∧ sg_g σ 36 4 = tK c i ∧ sg_g σ 36 5 = tPl c i ∧ (¬ tK c i = 259 → sg_gl σ 36 7 = tW c i) ∧ sg_g σ 35 3 = -1 ∧ sg_g σ 36 6 = tN c i
def jm (σ : sg_S) : Prop := sg_g σ 36 4 = 260 ∧ 0 ≤ sg_g σ 35 3
theorem tk_ag {c : tkC} {σ σ' : sg_S} {i : Nat} (h : tk c σ i) (ha : ag tkq σ' σ) : tk c σ' i := by
  obtain ⟨h1, h2, h3, h4, h5, h6, h7, h8, h9⟩ := h
  refine ⟨?_, ?_, ?_, ?_, ?_, ?_, fun hn => ?_, ?_, ?_⟩
  · rw [← h1]; exact tb_eq (fun q => ag_g ha rfl q)
  · rw [← h2]; exact funext (fun q => ag_gl ha rfl q)
  · rw [ag_g ha rfl, h3]
  · rw [ag_g ha rfl, h4]
  · rw [ag_g ha rfl, h5]
  · rw [ag_g ha rfl, h6]
  · rw [ag_gl ha rfl, h7 hn]
  · rw [ag_g ha rfl, h8]
  · rw [ag_g ha rfl, h9]
theorem jm_ag {σ σ' : sg_S} (h : jm σ) (ha : ag tkq σ' σ) : jm σ' := ⟨by rw [ag_g ha rfl]; exact h.1, by rw [ag_g ha rfl]; exact h.2⟩
theorem tkq_F {σ σ' : sg_S} {L : List Nat} (hF : sg_F L σ σ') (hL : L.all (fun c => !(tkq (c % 1000))) = true) : ag tkq σ' σ := ag_F (ag_r _ σ) hF hL tkq_lt
theorem lx_next_le {B : Int → Int} {N q : Int} (h : q ≤ N) : q ≤ lx_next B N q ∧ lx_next B N q ≤ N := by
  unfold lx_next
  split
  · omega
  · split
    · exact ⟨(lx_end_spec B N lx_d q).1, lx_end_le h⟩
    · split
      · exact ⟨(lx_end_spec B N lx_a q).1, lx_end_le h⟩
      · split <;> omega
theorem tPos_r {c : tkC} (hc : tkOK c) : ∀ i, 0 ≤ tPos c i ∧ tPos c i ≤ c.2.1
  | 0 => ⟨Int.le_refl 0, hc.1⟩
  | i + 1 => by
    have h := tPos_r hc i
    have h1 := (lx_end_spec c.1 c.2.1 lx_b (tPos c i)).1
    have h2 := lx_end_le (B := c.1) (p := lx_b) h.2
    have h3 := lx_next_le (B := c.1) h2
    simp only [tPos]
    omega
theorem tPl_r {c : tkC} (hc : tkOK c) (i : Nat) : 0 ≤ tPl c i ∧ tPl c i ≤ c.2.1 := by
  have h := tPos_r hc i
  have h1 := (lx_end_spec c.1 c.2.1 lx_b (tPos c i)).1
  have h2 := lx_end_le (B := c.1) (p := lx_b) h.2
  unfold tPl
  omega
theorem lx_fi_r (f : Int → Int) (w : Int) : ∀ (n : Nat) (i : Int), 0 ≤ i → i + n ≤ 18 → lx_fi f w n i = 258 ∨ 261 ≤ lx_fi f w n i ∧ lx_fi f w n i ≤ 278
  | 0, i, _, _ => Or.inl rfl
  | n + 1, i, h0, h1 => by
    rw [lx_fi_s]
    split
    · omega
    · exact lx_fi_r f w n (i + 1) (by omega) (by omega)
theorem tK_r {c : tkC} (hc : tkOK c) (i : Nat) : 0 ≤ tK c i ∧ tK c i ≤ 278 ∧ ¬ tK c i = 260 := by
  unfold tK lx_kind
  have hB := hc.2.2 (tPl c i)
  split
  · omega
  · split
    · split <;> omega
    · split
      · split
        · omega
        · have := lx_fi_r c.2.2.1 (lx_pk c.1 (tPl c i) (lx_end c.1 c.2.1 lx_a (tPl c i) - tPl c i).toNat) 18 0 (by omega) (by omega)
          omega
      · split <;> omega
/-! THE PARSER -/
def pAdd (τ : sg_S) (kd pl : Int) : sg_S := sx_put (sx_put (sx_put (sx_put (sx_put (sx_put (sx_put (sx_put (sx_put (sx_put (sg_w τ 2 16 (sg_g τ 2 16 + 1)) 3 200 (sg_g τ 2 16) kd) 4 200 (sg_g τ 2 16) pl) 7 200 (sg_g τ 2 16) (-1)) 8 200 (sg_g τ 2 16) (-1)) 9 200 (sg_g τ 2 16) (-1)) 10 200 (sg_g τ 2 16) 0) 13 200 (sg_g τ 2 16) 0) 14 200 (sg_g τ 2 16) (-1)) 11 200 (sg_g τ 2 16) (sg_g τ 2 16)) 12 200 (sg_g τ 2 16) (sg_g τ 2 16)
def pAtt1 (τ : sg_S) (k p : Int) : sg_S := if sx_at τ 10 200 k = 0 then sx_put τ 7 200 k p else sx_put τ 9 200 (sx_at τ 8 200 k) p
def pAtt2 (τ : sg_S) (k p : Int) : sg_S := sx_put (sx_put τ 8 200 k p) 10 200 k (sx_at (sx_put τ 8 200 k p) 10 200 k + 1)
def pAttach (τ : sg_S) (k p : Int) : sg_S := if k < 0 ∨ p < 0 then τ else pAtt2 (pAtt1 τ k p) k p
def pClose (τ : sg_S) (k f : Int) : sg_S := sx_put (sx_put τ 11 200 k f) 12 200 k (sg_g τ 2 16 - 1)
def pBoth (τ : sg_S) (k l r : Int) : sg_S := pClose (pAttach (pAttach τ k l) k r) k (sx_at (pAttach (pAttach τ k l) k r) 11 200 l)
abbrev pO : Type := Option (Nat × sg_S × Int)
abbrev pF : Type := Nat → sg_S → pO
section PAR
variable (c : tkC)
def pCreate (i : Nat) (τ : sg_S) : pO := if 200 ≤ sg_g τ 2 16 then none else some (i + 1, sx_putl (sx_put (pAdd τ (tK c i) (tPl c i)) 5 200 (sg_g τ 2 16) (tN c i)) 17 200 (sg_g τ 2 16) (tW c i), sg_g τ 2 16)
def pLet (E : pF) (i : Nat) (τ : sg_S) : pO := match pCreate c i τ with
  | none => none
  | some (i1, τ1, k) => if tK c i1 = 258 then (if tK c (i1 + 1) = 61 then (match E (i1 + 1 + 1) (sx_putl τ1 17 200 k (tW c i1)) with
    | none => none
    | some (i2, τ2, a) => if tK c i2 = 263 then (match E (i2 + 1) (pAttach τ2 k a) with
      | none => none
      | some (i3, τ3, b) => some (i3, pClose (pAttach τ3 k b) k k, k)) else none) else none) else none
def pIf (E : pF) (i : Nat) (τ : sg_S) : pO := match pCreate c i τ with
  | none => none
  | some (i1, τ1, k) => match E i1 τ1 with
    | none => none
    | some (i2, τ2, a) => if tK c i2 = 265 then (match E (i2 + 1) (pAttach τ2 k a) with
      | none => none
      | some (i3, τ3, b) => if tK c i3 = 266 then (match E (i3 + 1) (pAttach τ3 k b) with
        | none => none
        | some (i4, τ4, e) => some (i4, pClose (pAttach τ4 k e) k k, k)) else none) else none
def pCmp (S : pF) (i : Nat) (τ : sg_S) : pO := match S i τ with
  | none => none
  | some (i1, τ1, l) => if tK c i1 = 60 ∨ tK c i1 = 61 then (match pCreate c i1 τ1 with
    | none => none
    | some (i2, τ2, k) => match S i2 τ2 with
      | none => none
      | some (i3, τ3, r) => some (i3, pBoth τ3 k l r, k)) else some (i1, τ1, l)
/-- a row of operands with signs between, from the left on -/
def pRowL (q : Int → Bool) (P : pF) : Nat → Int → pF
  | 0, l, i, τ => some (i, τ, l)
  | m + 1, l, i, τ => if q (tK c i) = true then (match pCreate c i τ with
    | none => none
    | some (i1, τ1, k) => match P i1 τ1 with
      | none => none
      | some (i2, τ2, r) => pRowL q P m k i2 (pBoth τ2 k l r)) else some (i, τ, l)
def pRow (q : Int → Bool) (P : pF) (i : Nat) (τ : sg_S) : pO := match P i τ with
  | none => none
  | some (i1, τ1, l) => pRowL c q P 201 l i1 τ1
def pqS (k : Int) : Bool := decide (k = 43 ∨ k = 45)
def pqP (k : Int) : Bool := decide (k = 42 ∨ k = 47 ∨ k = 37)
def pUn (w : Bool) (U I : pF) (i : Nat) (τ : sg_S) : pO := if tK c i = 35 then (if w = true then (match pCreate c i τ with
  | none => none
  | some (i1, τ1, k) => match U i1 τ1 with
    | none => none
    | some (i2, τ2, r) => some (i2, pClose (pAttach τ2 k r) k k, k)) else none) else I i τ
def pItL (w : Bool) (E : pF) : Nat → Int → pF
  | 0, l, i, τ => some (i, τ, l)
  | m + 1, l, i, τ => if tK c i = 91 then (if w = true then (match pCreate c i τ with
    | none => none
    | some (i1, τ1, k) => match E i1 τ1 with
      | none => none
      | some (i2, τ2, r) => if tK c i2 = 93 then pItL w E m k (i2 + 1) (pBoth τ2 k l r) else none) else none) else some (i, τ, l)
def pItem (w : Bool) (E A : pF) (i : Nat) (τ : sg_S) : pO := match A i τ with
  | none => none
  | some (i1, τ1, l) => pItL c w E 201 l i1 τ1
def pListL (E : pF) (k : Int) : Nat → Nat → sg_S → Option (Nat × sg_S)
  | 0, i, τ => some (i, τ)
  | m + 1, i, τ => match E i τ with
    | none => none
    | some (i1, τ1, r) => if tK c i1 = 44 then pListL E k m (i1 + 1) (pAttach τ1 k r) else some (i1, pAttach τ1 k r)
def pGenL (E : pF) (k : Int) : Nat → Nat → sg_S → Option (Nat × sg_S)
  | 0, i, τ => some (i, τ)
  | m + 1, i, τ => if tK c i = 258 ∧ ¬ m = 0 then (if tK c (i + 1) = 263 then (match E (i + 1 + 1) τ with
    | none => none
    | some (i1, τ1, r) => if tK c i1 = 44 then pGenL E k m (i1 + 1) (sx_put (pAttach (sx_put (sx_putl τ1 18 200 r (tW c i)) 15 200 r (tPl c i)) k r) 13 200 k (5 - m)) else some (i1, sx_put (pAttach (sx_put (sx_putl τ1 18 200 r (tW c i)) 15 200 r (tPl c i)) k r) 13 200 k (5 - m))) else none) else none
def pWordE (E : pF) (k : Int) (i : Nat) (τ : sg_S) : pO := match (if tK c i = 41 then some (i, τ) else pListL c E k 201 i τ) with
  | none => none
  | some (i1, τ1) => if tK c i1 = 41 then some (i1 + 1, pClose τ1 k k, k) else none
def pWord (w : Bool) (E : pF) (i : Nat) (τ : sg_S) : pO := match pCreate c i τ with
  | none => none
  | some (i1, τ1, k) => if tK c i = 258 ∧ ¬ tK c i1 = 40 then some (i1, τ1, k) else (if tK c i1 = 40 then (if w = true then pWordE c E k (i1 + 1) (if tK c i = 258 then sx_put τ1 3 200 k 280 else τ1) else none) else none)
def pRw (E : pF) (i : Nat) (τ : sg_S) : pO := match pCreate c i τ with
  | none => none
  | some (i1, τ1, k) => match pListL c E k 201 i1 (sx_put τ1 3 200 k 279) with
    | none => none
    | some (i2, τ2) => if tK c i2 = 93 then some (i2 + 1, pClose τ2 k k, k) else none
def pEachE (k b : Int) (i : Nat) (τ : sg_S) : pO := if tK c i = 125 then some (i + 1, pClose (pAttach τ k b) k k, k) else none
def pEach (E : pF) (i : Nat) (τ : sg_S) : pO := match pCreate c i τ with
  | none => none
  | some (i1, τ1, k) => match E i1 τ1 with
    | none => none
    | some (i2, τ2, b) => if tK c i2 = 58 then (match pGenL c E k 5 (i2 + 1) τ2 with
      | none => none
      | some (i3, τ3) => if tK c i3 = 124 then (match E (i3 + 1) τ3 with
        | none => none
        | some (i4, τ4, g) => pEachE c k b i4 (sx_put (pAttach τ4 k g) 14 200 k g)) else pEachE c k b i3 τ3) else none
def pPar (E : pF) (i : Nat) (τ : sg_S) : pO := match E (i + 1) τ with
  | none => none
  | some (i1, τ1, r) => if tK c i1 = 41 then some (i1 + 1, τ1, r) else none
def pAtom (w : Bool) (E : pF) (i : Nat) (τ : sg_S) : pO :=
  if tK c i = 257 then pCreate c i τ
  else if tK c i = 258 ∨ 267 ≤ tK c i ∧ tK c i ≤ 278 then pWord c w E i τ
  else if w = true then (if tK c i = 40 then pPar c E i τ else if tK c i = 91 then pRw c E i τ else if tK c i = 123 then pEach c E i τ else none)
  else none
def pExpr (w : Bool) (E C : pF) (i : Nat) (τ : sg_S) : pO :=
  if tK c i = 262 then (if w = true then pLet c E i τ else none)
  else if tK c i = 264 then (if w = true then pIf c E i τ else none)
  else C i τ
def pUnL (w : Bool) (E U : pF) : pF := pUn c w U (pItem c w E (pAtom c w E))
def pCmL (w : Bool) (E U : pF) : pF := pCmp c (pRow c pqS (pRow c pqP (pUnL c w E U)))
def pLv : Nat → pF × pF
  | 0 => (pExpr c false (fun _ _ => none) (pCmL c false (fun _ _ => none) (fun _ _ => none)), pUnL c false (fun _ _ => none) (fun _ _ => none))
  | f + 1 => (pExpr c true (pLv f).1 (pCmL c true (pLv f).1 (pLv f).2), pUnL c true (pLv f).1 (pLv f).2)
end PAR
theorem sx_put_c (σ : sg_S) (a b : Nat) (n i j x : Int) (h : b ≠ a) : sg_g (sx_put σ a n i x) b j = sg_g σ b j := by
  unfold sx_put
  split
  · exact sg_gw_c _ _ _ _ _ _ h
  · rfl
theorem sx_putx_c (σ : sg_S) (a b : Nat) (n i j x : Int) (h : b ≠ a) : sg_gl (sx_put σ a n i x) b j = sg_gl σ b j := by
  unfold sx_put
  split <;> rfl
theorem sx_putl_c (σ : sg_S) (a b : Nat) (n i j x : Int) (h : b ≠ a) : sg_gl (sx_putl σ a n i x) b j = sg_gl σ b j := by
  unfold sx_putl
  split
  · exact sg_gwl_c _ _ _ _ _ _ h
  · rfl
theorem sx_putlx_c (σ : sg_S) (a b : Nat) (n i j x : Int) (h : b ≠ a) : sg_g (sx_putl σ a n i x) b j = sg_g σ b j := by
  unfold sx_putl
  split <;> rfl
/-- what a method of the parser leaves -/
abbrev pq (L : List Nat) (c : tkC) (r : pO) (σ : sg_S) (v : Option bm_V) (σ' : sg_S) : Prop := ∃ q, v = some (.inl q) ∧ sg_F L σ σ' ∧ ((∃ i' τ', r = some (i', τ', q) ∧ sg_R q ∧ te σ' τ' ∧ tk c σ' i') ∨ (r = none ∧ jm σ'))
abbrev pqN (L : List Nat) (c : tkC) (r : Option (Nat × sg_S)) (σ : sg_S) (v : Option bm_V) (σ' : sg_S) : Prop := v = none ∧ sg_F L σ σ' ∧ ((∃ i' τ', r = some (i', τ') ∧ te σ' τ' ∧ tk c σ' i') ∨ (r = none ∧ jm σ'))
abbrev pL0 : List Nat := [3, 4, 5, 6, 7, 8, 9, 10, 11, 12, 13, 14, 15, 16, 17, 18, 4035, 4036, 5036, 6036, 7036, 8036, 17002]
def cE (c : tkC) (d j : Nat) (nest : Int) (pre : Int → Prop) (P : pF) : Prop := ∀ (z : Value) (σ : sg_S) (i : Nat) (τ : sg_S), te σ τ → tk c σ i → pre (tK c i) → wx z d j 0 [(0, .inr (.inr (.ref 35))), (1, .inl nest)] [] σ (pq pL0 c (P i τ) σ)
theorem tk_nx (z : Value) (σ : sg_S) (c : tkC) (hc : tkOK c) (i : Nat) (hk : tk c σ i) (h259 : ¬ tK c i = 259) : wx z 4 195 0 [(0, .inr (.inr (.ref 36)))] [] σ (fun v σ' => v = none ∧ sg_F [4036, 5036, 6036, 7036, 8036] σ σ' ∧ tk c σ' (i + 1)) := by
  obtain ⟨h1, h2, h3, h4, h5, h6, h7, h8, h9⟩ := hk
  have hp := tPos_r hc (i + 1)
  refine wk_post (tk_adv z σ (by rw [h4]; exact hp.1) (by rw [h3]; exact hc.2.1) (by rw [h4, h3]; exact hp.2) (by rw [h5]; exact (tK_r hc i).2.2)) ?_
  rintro v σ' ⟨rfl, hF, g1, g2, g3, g4, g5, g6⟩
  rw [h1, h3, h4] at g1 g2 g3 g4 g5 g6
  rw [h2] at g2
  refine ⟨rfl, hF, ?_, ?_, ?_, g3, g2, g1, fun hn => ?_, ?_, ?_⟩
  · rw [← h1]; exact tb_eq (fun q => sg_F_ga hF rfl)
  · rw [← h2]; exact funext (fun q => sg_F_gal hF rfl)
  · rw [sg_F_g hF rfl, h3]
  · show sg_gl σ' 36 7 = tWd c (i + 1) (tW c i)
    unfold tWd
    by_cases e : tPl c (i + 1) < c.2.1 ∧ lx_l (c.1 (tPl c (i + 1))) = true
    · rw [if_pos e]
      refine g4 e.1 e.2 ?_
      refine Decidable.byContradiction (fun h8 => hn ?_)
      have hd : ¬ lx_d (c.1 (tPl c (i + 1))) = true := fun q => by
        have q1 := of_decide_eq_true q
        have q2 := of_decide_eq_true e.2
        omega
      unfold tK lx_kind
      rw [if_neg (by have := e.1; omega), if_neg hd, if_pos e.2, if_pos (show lx_end c.1 c.2.1 lx_a (tPl c (i + 1)) - tPl c (i + 1) > 8 from by have h9 : ¬ (lx_end c.1 c.2.1 lx_a (tPl c (i + 1)) - tPl c (i + 1) ≤ 8) := h8; omega)]
    · rw [if_neg e, g5 e, h7 h259]
  · rw [sg_F_ga hF rfl, h8]
  · rw [g6, h9]; rfl
-- NestedVectors$Tokens.stop
set_option maxRecDepth 8000 in
theorem px_stop (z : Value) (σ : sg_S)  : wx z 0 200 0 [(0, .inr (.inr (.ref 36)))] [] σ (fun v σ' => v = none ∧ sg_F [5036] σ σ' ∧ sg_g σ' 36 4 = 260) := by
  refine wk_b tt_200 3 (pc' := 7) (ls' := [(0, .inr (.inr (.ref 36)))]) (st' := []) (σ' := (sg_w σ 36 4 (260))) rfl ?_
  refine wk_rV tt_200 rfl rfl ?_
  exact ⟨rfl, (sg_F_w (sg_F_r [5036] σ) rfl _), sg_gw_e _ _ _ _ (by decide)⟩
-- NestedVectors$Parser.fail
set_option maxRecDepth 8000 in
theorem px_fail (z : Value) (σ : sg_S) (h : 0 ≤ sg_g σ 35 3 ∨ 0 ≤ sg_g σ 36 5) : wx z 1 175 0 [(0, .inr (.inr (.ref 35)))] [] σ (fun v σ' => v = none ∧ sg_F [4035, 5036] σ σ' ∧ jm σ') := by
  refine wk_b tt_175 2 (pc' := 4) (ls' := [(0, .inr (.inr (.ref 35)))]) (st' := [.inl ((sg_g σ 35 3))]) (σ' := σ) rfl ?_
  have r1 := sg_Rg σ 35 3
  refine wk_if tt_175 (tgt := 18) rfl rfl (by omega) (fun (h2 : 0 ≤ (sg_g σ 35 3)) => ?_) (fun (h2 : (sg_g σ 35 3) < 0) => ?_)
  ·
    refine wk_b tt_175 2 (pc' := 22) (ls' := [(0, .inr (.inr (.ref 35)))]) (st' := [.inr (.inr (.ref 36))]) (σ' := σ) rfl ?_
    refine wk_call tt_175 rfl rfl rfl rfl rfl tt_200 rfl (by decide) (px_stop z σ) (fun w3 σ4 hq5 => ?_)
    obtain ⟨rfl, hF6, p7⟩ := hq5
    refine wk_rV tt_175 rfl rfl ?_
    refine ⟨rfl, (sg_F_t (sg_F_r [4035, 5036] σ) (sg_F_m (L := [4035, 5036]) hF6 rfl)), p7, ?_⟩
    rw [sg_F_ga hF6 rfl]
    omega
  ·
    refine wk_b tt_175 7 (pc' := 22) (ls' := [(0, .inr (.inr (.ref 35)))]) (st' := [.inr (.inr (.ref 36))]) (σ' := (sg_w σ 35 3 ((sg_g σ 36 5)))) rfl ?_
    have r8 := sg_Rg σ 36 5
    refine wk_call tt_175 rfl rfl rfl rfl rfl tt_200 rfl (by decide) (px_stop z (sg_w σ 35 3 ((sg_g σ 36 5)))) (fun w9 σ10 hq11 => ?_)
    obtain ⟨rfl, hF12, p13⟩ := hq11
    refine wk_rV tt_175 rfl rfl ?_
    refine ⟨rfl, (sg_F_t (sg_F_w (sg_F_r [4035, 5036] σ) rfl _) (sg_F_m (L := [4035, 5036]) hF12 rfl)), p13, ?_⟩
    rw [sg_F_ga hF12 rfl, sg_gw_e _ _ _ _ (by omega)]
    omega
theorem px_failR (z : Value) (σ : sg_S) (c : tkC) (hc : tkOK c) (i : Nat) (hk : tk c σ i) : wx z 1 175 0 [(0, .inr (.inr (.ref 35)))] [] σ (fun v σ' => v = none ∧ sg_F [4035, 5036] σ σ' ∧ jm σ') := px_fail z σ (Or.inr (by rw [hk.2.2.2.2.2.1]; exact (tPl_r hc i).1))
theorem px_failJ (z : Value) (σ : sg_S) (hj : jm σ) : wx z 1 175 0 [(0, .inr (.inr (.ref 35)))] [] σ (fun v σ' => v = none ∧ sg_F [4035, 5036] σ σ' ∧ jm σ') := px_fail z σ (Or.inl hj.2)
-- NestedVectors$Tokens.advance
set_option maxRecDepth 8000 in
theorem px_advJ (z : Value) (σ : sg_S) (hj : jm σ) : wx z 0 195 0 [(0, .inr (.inr (.ref 36)))] [] σ (fun v σ' => v = none ∧ sg_F [] σ σ' ∧ jm σ') := by
  have hj1 := hj.1
  refine wk_b tt_195 3 (pc' := 7) (ls' := [(0, .inr (.inr (.ref 36)))]) (st' := [.inl (260), .inl ((sg_g σ 36 4))]) (σ' := σ) rfl ?_
  have r1 := sg_Rg σ 36 4
  refine wk_if2 tt_195 (tgt := 11) rfl rfl (by omega) (by decide) (fun (h : ¬ (sg_g σ 36 4) = 260) => absurd h (by omega)) (fun (h2 : (sg_g σ 36 4) = 260) => ?_)
  refine wk_rV tt_195 rfl rfl ?_
  exact ⟨rfl, sg_F_r _ _, hj⟩
-- NestedVectors$Tree.add
set_option maxRecDepth 8000 in
theorem px_add (z : Value) (σ : sg_S) (a1 : Int) (a2 : Int) (τ : sg_S) (ht : te σ τ) (ra1 : sg_R a1) (ra2 : sg_R a2) : wx z 1 204 0 [(0, .inr (.inr (.ref 2))), (1, .inl (a1)), (2, .inl (a2))] [] σ (fun v σ' => v = some (.inl ((sg_g τ 2 16))) ∧ sg_F [3, 4, 7, 8, 9, 10, 11, 12, 13, 14, 17002] σ σ' ∧ te σ' (pAdd τ (a1) (a2))) := by
  refine wk_b tt_204 13 (pc' := 21) (ls' := [(3, .inl ((sg_g σ 2 16))), (0, .inr (.inr (.ref 2))), (1, .inl (a1)), (2, .inl (a2))]) (st' := [.inl (a1), .inl ((sg_g σ 2 16)), .inr (.inr (.ref 3))]) (σ' := (sg_w σ 2 16 (((sg_g σ 2 16) + 1)))) rfl ?_
  have r1 := sg_Rg τ 2 16
  rw [show (sg_g σ 2 16) = (sg_g τ 2 16) from by rw [ag_g ht rfl]]
  refine wk_callp (v0 := none) (σ1 := (sx_put (sg_w σ 2 16 (((sg_g τ 2 16) + 1))) 3 200 ((sg_g τ 2 16)) (a1))) tt_204 rfl rfl rfl rfl rfl tt_21 rfl (by decide) (pt_i0 z (sg_w σ 2 16 (((sg_g τ 2 16) + 1))) 3 200 ((sg_g τ 2 16)) (a1) rfl (by decide) (by omega)) ?_
  refine wk_b tt_204 4 (pc' := 30) (ls' := [(3, .inl ((sg_g τ 2 16))), (0, .inr (.inr (.ref 2))), (1, .inl (a1)), (2, .inl (a2))]) (st' := [.inl (a2), .inl ((sg_g τ 2 16)), .inr (.inr (.ref 4))]) (σ' := (sx_put (sg_w σ 2 16 (((sg_g τ 2 16) + 1))) 3 200 ((sg_g τ 2 16)) (a1))) rfl ?_
  refine wk_callp (v0 := none) (σ1 := (sx_put (sx_put (sg_w σ 2 16 (((sg_g τ 2 16) + 1))) 3 200 ((sg_g τ 2 16)) (a1)) 4 200 ((sg_g τ 2 16)) (a2))) tt_204 rfl rfl rfl rfl rfl tt_21 rfl (by decide) (pt_i0 z (sx_put (sg_w σ 2 16 (((sg_g τ 2 16) + 1))) 3 200 ((sg_g τ 2 16)) (a1)) 4 200 ((sg_g τ 2 16)) (a2) rfl (by decide) (by omega)) ?_
  refine wk_b tt_204 4 (pc' := 39) (ls' := [(3, .inl ((sg_g τ 2 16))), (0, .inr (.inr (.ref 2))), (1, .inl (a1)), (2, .inl (a2))]) (st' := [.inl ((-1)), .inl ((sg_g τ 2 16)), .inr (.inr (.ref 7))]) (σ' := (sx_put (sx_put (sg_w σ 2 16 (((sg_g τ 2 16) + 1))) 3 200 ((sg_g τ 2 16)) (a1)) 4 200 ((sg_g τ 2 16)) (a2))) rfl ?_
  refine wk_callp (v0 := none) (σ1 := (sx_put (sx_put (sx_put (sg_w σ 2 16 (((sg_g τ 2 16) + 1))) 3 200 ((sg_g τ 2 16)) (a1)) 4 200 ((sg_g τ 2 16)) (a2)) 7 200 ((sg_g τ 2 16)) ((-1)))) tt_204 rfl rfl rfl rfl rfl tt_21 rfl (by decide) (pt_i0 z (sx_put (sx_put (sg_w σ 2 16 (((sg_g τ 2 16) + 1))) 3 200 ((sg_g τ 2 16)) (a1)) 4 200 ((sg_g τ 2 16)) (a2)) 7 200 ((sg_g τ 2 16)) ((-1)) rfl (by decide) (by omega)) ?_
  refine wk_b tt_204 4 (pc' := 48) (ls' := [(3, .inl ((sg_g τ 2 16))), (0, .inr (.inr (.ref 2))), (1, .inl (a1)), (2, .inl (a2))]) (st' := [.inl ((-1)), .inl ((sg_g τ 2 16)), .inr (.inr (.ref 8))]) (σ' := (sx_put (sx_put (sx_put (sg_w σ 2 16 (((sg_g τ 2 16) + 1))) 3 200 ((sg_g τ 2 16)) (a1)) 4 200 ((sg_g τ 2 16)) (a2)) 7 200 ((sg_g τ 2 16)) ((-1)))) rfl ?_
  refine wk_callp (v0 := none) (σ1 := (sx_put (sx_put (sx_put (sx_put (sg_w σ 2 16 (((sg_g τ 2 16) + 1))) 3 200 ((sg_g τ 2 16)) (a1)) 4 200 ((sg_g τ 2 16)) (a2)) 7 200 ((sg_g τ 2 16)) ((-1))) 8 200 ((sg_g τ 2 16)) ((-1)))) tt_204 rfl rfl rfl rfl rfl tt_21 rfl (by decide) (pt_i0 z (sx_put (sx_put (sx_put (sg_w σ 2 16 (((sg_g τ 2 16) + 1))) 3 200 ((sg_g τ 2 16)) (a1)) 4 200 ((sg_g τ 2 16)) (a2)) 7 200 ((sg_g τ 2 16)) ((-1))) 8 200 ((sg_g τ 2 16)) ((-1)) rfl (by decide) (by omega)) ?_
  refine wk_b tt_204 4 (pc' := 57) (ls' := [(3, .inl ((sg_g τ 2 16))), (0, .inr (.inr (.ref 2))), (1, .inl (a1)), (2, .inl (a2))]) (st' := [.inl ((-1)), .inl ((sg_g τ 2 16)), .inr (.inr (.ref 9))]) (σ' := (sx_put (sx_put (sx_put (sx_put (sg_w σ 2 16 (((sg_g τ 2 16) + 1))) 3 200 ((sg_g τ 2 16)) (a1)) 4 200 ((sg_g τ 2 16)) (a2)) 7 200 ((sg_g τ 2 16)) ((-1))) 8 200 ((sg_g τ 2 16)) ((-1)))) rfl ?_
  refine wk_callp (v0 := none) (σ1 := (sx_put (sx_put (sx_put (sx_put (sx_put (sg_w σ 2 16 (((sg_g τ 2 16) + 1))) 3 200 ((sg_g τ 2 16)) (a1)) 4 200 ((sg_g τ 2 16)) (a2)) 7 200 ((sg_g τ 2 16)) ((-1))) 8 200 ((sg_g τ 2 16)) ((-1))) 9 200 ((sg_g τ 2 16)) ((-1)))) tt_204 rfl rfl rfl rfl rfl tt_21 rfl (by decide) (pt_i0 z (sx_put (sx_put (sx_put (sx_put (sg_w σ 2 16 (((sg_g τ 2 16) + 1))) 3 200 ((sg_g τ 2 16)) (a1)) 4 200 ((sg_g τ 2 16)) (a2)) 7 200 ((sg_g τ 2 16)) ((-1))) 8 200 ((sg_g τ 2 16)) ((-1))) 9 200 ((sg_g τ 2 16)) ((-1)) rfl (by decide) (by omega)) ?_
  refine wk_b tt_204 4 (pc' := 66) (ls' := [(3, .inl ((sg_g τ 2 16))), (0, .inr (.inr (.ref 2))), (1, .inl (a1)), (2, .inl (a2))]) (st' := [.inl (0), .inl ((sg_g τ 2 16)), .inr (.inr (.ref 10))]) (σ' := (sx_put (sx_put (sx_put (sx_put (sx_put (sg_w σ 2 16 (((sg_g τ 2 16) + 1))) 3 200 ((sg_g τ 2 16)) (a1)) 4 200 ((sg_g τ 2 16)) (a2)) 7 200 ((sg_g τ 2 16)) ((-1))) 8 200 ((sg_g τ 2 16)) ((-1))) 9 200 ((sg_g τ 2 16)) ((-1)))) rfl ?_
  refine wk_callp (v0 := none) (σ1 := (sx_put (sx_put (sx_put (sx_put (sx_put (sx_put (sg_w σ 2 16 (((sg_g τ 2 16) + 1))) 3 200 ((sg_g τ 2 16)) (a1)) 4 200 ((sg_g τ 2 16)) (a2)) 7 200 ((sg_g τ 2 16)) ((-1))) 8 200 ((sg_g τ 2 16)) ((-1))) 9 200 ((sg_g τ 2 16)) ((-1))) 10 200 ((sg_g τ 2 16)) (0))) tt_204 rfl rfl rfl rfl rfl tt_21 rfl (by decide) (pt_i0 z (sx_put (sx_put (sx_put (sx_put (sx_put (sg_w σ 2 16 (((sg_g τ 2 16) + 1))) 3 200 ((sg_g τ 2 16)) (a1)) 4 200 ((sg_g τ 2 16)) (a2)) 7 200 ((sg_g τ 2 16)) ((-1))) 8 200 ((sg_g τ 2 16)) ((-1))) 9 200 ((sg_g τ 2 16)) ((-1))) 10 200 ((sg_g τ 2 16)) (0) rfl (by decide) (by omega)) ?_
  refine wk_b tt_204 4 (pc' := 75) (ls' := [(3, .inl ((sg_g τ 2 16))), (0, .inr (.inr (.ref 2))), (1, .inl (a1)), (2, .inl (a2))]) (st' := [.inl (0), .inl ((sg_g τ 2 16)), .inr (.inr (.ref 13))]) (σ' := (sx_put (sx_put (sx_put (sx_put (sx_put (sx_put (sg_w σ 2 16 (((sg_g τ 2 16) + 1))) 3 200 ((sg_g τ 2 16)) (a1)) 4 200 ((sg_g τ 2 16)) (a2)) 7 200 ((sg_g τ 2 16)) ((-1))) 8 200 ((sg_g τ 2 16)) ((-1))) 9 200 ((sg_g τ 2 16)) ((-1))) 10 200 ((sg_g τ 2 16)) (0))) rfl ?_
  refine wk_callp (v0 := none) (σ1 := (sx_put (sx_put (sx_put (sx_put (sx_put (sx_put (sx_put (sg_w σ 2 16 (((sg_g τ 2 16) + 1))) 3 200 ((sg_g τ 2 16)) (a1)) 4 200 ((sg_g τ 2 16)) (a2)) 7 200 ((sg_g τ 2 16)) ((-1))) 8 200 ((sg_g τ 2 16)) ((-1))) 9 200 ((sg_g τ 2 16)) ((-1))) 10 200 ((sg_g τ 2 16)) (0)) 13 200 ((sg_g τ 2 16)) (0))) tt_204 rfl rfl rfl rfl rfl tt_21 rfl (by decide) (pt_i0 z (sx_put (sx_put (sx_put (sx_put (sx_put (sx_put (sg_w σ 2 16 (((sg_g τ 2 16) + 1))) 3 200 ((sg_g τ 2 16)) (a1)) 4 200 ((sg_g τ 2 16)) (a2)) 7 200 ((sg_g τ 2 16)) ((-1))) 8 200 ((sg_g τ 2 16)) ((-1))) 9 200 ((sg_g τ 2 16)) ((-1))) 10 200 ((sg_g τ 2 16)) (0)) 13 200 ((sg_g τ 2 16)) (0) rfl (by decide) (by omega)) ?_
  refine wk_b tt_204 4 (pc' := 84) (ls' := [(3, .inl ((sg_g τ 2 16))), (0, .inr (.inr (.ref 2))), (1, .inl (a1)), (2, .inl (a2))]) (st' := [.inl ((-1)), .inl ((sg_g τ 2 16)), .inr (.inr (.ref 14))]) (σ' := (sx_put (sx_put (sx_put (sx_put (sx_put (sx_put (sx_put (sg_w σ 2 16 (((sg_g τ 2 16) + 1))) 3 200 ((sg_g τ 2 16)) (a1)) 4 200 ((sg_g τ 2 16)) (a2)) 7 200 ((sg_g τ 2 16)) ((-1))) 8 200 ((sg_g τ 2 16)) ((-1))) 9 200 ((sg_g τ 2 16)) ((-1))) 10 200 ((sg_g τ 2 16)) (0)) 13 200 ((sg_g τ 2 16)) (0))) rfl ?_
  refine wk_callp (v0 := none) (σ1 := (sx_put (sx_put (sx_put (sx_put (sx_put (sx_put (sx_put (sx_put (sg_w σ 2 16 (((sg_g τ 2 16) + 1))) 3 200 ((sg_g τ 2 16)) (a1)) 4 200 ((sg_g τ 2 16)) (a2)) 7 200 ((sg_g τ 2 16)) ((-1))) 8 200 ((sg_g τ 2 16)) ((-1))) 9 200 ((sg_g τ 2 16)) ((-1))) 10 200 ((sg_g τ 2 16)) (0)) 13 200 ((sg_g τ 2 16)) (0)) 14 200 ((sg_g τ 2 16)) ((-1)))) tt_204 rfl rfl rfl rfl rfl tt_21 rfl (by decide) (pt_i0 z (sx_put (sx_put (sx_put (sx_put (sx_put (sx_put (sx_put (sg_w σ 2 16 (((sg_g τ 2 16) + 1))) 3 200 ((sg_g τ 2 16)) (a1)) 4 200 ((sg_g τ 2 16)) (a2)) 7 200 ((sg_g τ 2 16)) ((-1))) 8 200 ((sg_g τ 2 16)) ((-1))) 9 200 ((sg_g τ 2 16)) ((-1))) 10 200 ((sg_g τ 2 16)) (0)) 13 200 ((sg_g τ 2 16)) (0)) 14 200 ((sg_g τ 2 16)) ((-1)) rfl (by decide) (by omega)) ?_
  refine wk_b tt_204 4 (pc' := 93) (ls' := [(3, .inl ((sg_g τ 2 16))), (0, .inr (.inr (.ref 2))), (1, .inl (a1)), (2, .inl (a2))]) (st' := [.inl ((sg_g τ 2 16)), .inl ((sg_g τ 2 16)), .inr (.inr (.ref 11))]) (σ' := (sx_put (sx_put (sx_put (sx_put (sx_put (sx_put (sx_put (sx_put (sg_w σ 2 16 (((sg_g τ 2 16) + 1))) 3 200 ((sg_g τ 2 16)) (a1)) 4 200 ((sg_g τ 2 16)) (a2)) 7 200 ((sg_g τ 2 16)) ((-1))) 8 200 ((sg_g τ 2 16)) ((-1))) 9 200 ((sg_g τ 2 16)) ((-1))) 10 200 ((sg_g τ 2 16)) (0)) 13 200 ((sg_g τ 2 16)) (0)) 14 200 ((sg_g τ 2 16)) ((-1)))) rfl ?_
  refine wk_callp (v0 := none) (σ1 := (sx_put (sx_put (sx_put (sx_put (sx_put (sx_put (sx_put (sx_put (sx_put (sg_w σ 2 16 (((sg_g τ 2 16) + 1))) 3 200 ((sg_g τ 2 16)) (a1)) 4 200 ((sg_g τ 2 16)) (a2)) 7 200 ((sg_g τ 2 16)) ((-1))) 8 200 ((sg_g τ 2 16)) ((-1))) 9 200 ((sg_g τ 2 16)) ((-1))) 10 200 ((sg_g τ 2 16)) (0)) 13 200 ((sg_g τ 2 16)) (0)) 14 200 ((sg_g τ 2 16)) ((-1))) 11 200 ((sg_g τ 2 16)) ((sg_g τ 2 16)))) tt_204 rfl rfl rfl rfl rfl tt_21 rfl (by decide) (pt_i0 z (sx_put (sx_put (sx_put (sx_put (sx_put (sx_put (sx_put (sx_put (sg_w σ 2 16 (((sg_g τ 2 16) + 1))) 3 200 ((sg_g τ 2 16)) (a1)) 4 200 ((sg_g τ 2 16)) (a2)) 7 200 ((sg_g τ 2 16)) ((-1))) 8 200 ((sg_g τ 2 16)) ((-1))) 9 200 ((sg_g τ 2 16)) ((-1))) 10 200 ((sg_g τ 2 16)) (0)) 13 200 ((sg_g τ 2 16)) (0)) 14 200 ((sg_g τ 2 16)) ((-1))) 11 200 ((sg_g τ 2 16)) ((sg_g τ 2 16)) rfl (by decide) (by omega)) ?_
  refine wk_b tt_204 4 (pc' := 102) (ls' := [(3, .inl ((sg_g τ 2 16))), (0, .inr (.inr (.ref 2))), (1, .inl (a1)), (2, .inl (a2))]) (st' := [.inl ((sg_g τ 2 16)), .inl ((sg_g τ 2 16)), .inr (.inr (.ref 12))]) (σ' := (sx_put (sx_put (sx_put (sx_put (sx_put (sx_put (sx_put (sx_put (sx_put (sg_w σ 2 16 (((sg_g τ 2 16) + 1))) 3 200 ((sg_g τ 2 16)) (a1)) 4 200 ((sg_g τ 2 16)) (a2)) 7 200 ((sg_g τ 2 16)) ((-1))) 8 200 ((sg_g τ 2 16)) ((-1))) 9 200 ((sg_g τ 2 16)) ((-1))) 10 200 ((sg_g τ 2 16)) (0)) 13 200 ((sg_g τ 2 16)) (0)) 14 200 ((sg_g τ 2 16)) ((-1))) 11 200 ((sg_g τ 2 16)) ((sg_g τ 2 16)))) rfl ?_
  refine wk_callp (v0 := none) (σ1 := (sx_put (sx_put (sx_put (sx_put (sx_put (sx_put (sx_put (sx_put (sx_put (sx_put (sg_w σ 2 16 (((sg_g τ 2 16) + 1))) 3 200 ((sg_g τ 2 16)) (a1)) 4 200 ((sg_g τ 2 16)) (a2)) 7 200 ((sg_g τ 2 16)) ((-1))) 8 200 ((sg_g τ 2 16)) ((-1))) 9 200 ((sg_g τ 2 16)) ((-1))) 10 200 ((sg_g τ 2 16)) (0)) 13 200 ((sg_g τ 2 16)) (0)) 14 200 ((sg_g τ 2 16)) ((-1))) 11 200 ((sg_g τ 2 16)) ((sg_g τ 2 16))) 12 200 ((sg_g τ 2 16)) ((sg_g τ 2 16)))) tt_204 rfl rfl rfl rfl rfl tt_21 rfl (by decide) (pt_i0 z (sx_put (sx_put (sx_put (sx_put (sx_put (sx_put (sx_put (sx_put (sx_put (sg_w σ 2 16 (((sg_g τ 2 16) + 1))) 3 200 ((sg_g τ 2 16)) (a1)) 4 200 ((sg_g τ 2 16)) (a2)) 7 200 ((sg_g τ 2 16)) ((-1))) 8 200 ((sg_g τ 2 16)) ((-1))) 9 200 ((sg_g τ 2 16)) ((-1))) 10 200 ((sg_g τ 2 16)) (0)) 13 200 ((sg_g τ 2 16)) (0)) 14 200 ((sg_g τ 2 16)) ((-1))) 11 200 ((sg_g τ 2 16)) ((sg_g τ 2 16))) 12 200 ((sg_g τ 2 16)) ((sg_g τ 2 16)) rfl (by decide) (by omega)) ?_
  refine wk_b tt_204 1 (pc' := 106) (ls' := [(3, .inl ((sg_g τ 2 16))), (0, .inr (.inr (.ref 2))), (1, .inl (a1)), (2, .inl (a2))]) (st' := [.inl ((sg_g τ 2 16))]) (σ' := (sx_put (sx_put (sx_put (sx_put (sx_put (sx_put (sx_put (sx_put (sx_put (sx_put (sg_w σ 2 16 (((sg_g τ 2 16) + 1))) 3 200 ((sg_g τ 2 16)) (a1)) 4 200 ((sg_g τ 2 16)) (a2)) 7 200 ((sg_g τ 2 16)) ((-1))) 8 200 ((sg_g τ 2 16)) ((-1))) 9 200 ((sg_g τ 2 16)) ((-1))) 10 200 ((sg_g τ 2 16)) (0)) 13 200 ((sg_g τ 2 16)) (0)) 14 200 ((sg_g τ 2 16)) ((-1))) 11 200 ((sg_g τ 2 16)) ((sg_g τ 2 16))) 12 200 ((sg_g τ 2 16)) ((sg_g τ 2 16)))) rfl ?_
  refine wk_rI tt_204 rfl rfl ?_
  exact ⟨rfl, (sg_F_p (sg_F_p (sg_F_p (sg_F_p (sg_F_p (sg_F_p (sg_F_p (sg_F_p (sg_F_p (sg_F_p (sg_F_w (sg_F_r [3, 4, 7, 8, 9, 10, 11, 12, 13, 14, 17002] σ) rfl _) rfl _ _ _) rfl _ _ _) rfl _ _ _) rfl _ _ _) rfl _ _ _) rfl _ _ _) rfl _ _ _) rfl _ _ _) rfl _ _ _) rfl _ _ _), (ag_p (ag_p (ag_p (ag_p (ag_p (ag_p (ag_p (ag_p (ag_p (ag_p (ag_w ht _ _ _) _ _ _ _) _ _ _ _) _ _ _ _) _ _ _ _) _ _ _ _) _ _ _ _) _ _ _ _) _ _ _ _) _ _ _ _) _ _ _ _)⟩
-- NestedVectors$Tree.attach
set_option maxRecDepth 8000 in
theorem px_att (z : Value) (σ : sg_S) (a1 : Int) (a2 : Int) (τ : sg_S) (ht : te σ τ) (ra1 : sg_R a1) (ra2 : sg_R a2) : wx z 1 205 0 [(0, .inr (.inr (.ref 2))), (1, .inl (a1)), (2, .inl (a2))] [] σ (fun v σ' => v = none ∧ sg_F [7, 8, 9, 10] σ σ' ∧ te σ' (pAttach τ (a1) (a2))) := by
  refine wk_b tt_205 1 (pc' := 1) (ls' := [(0, .inr (.inr (.ref 2))), (1, .inl (a1)), (2, .inl (a2))]) (st' := [.inl (a1)]) (σ' := σ) rfl ?_
  refine wk_if tt_205 (tgt := 8) rfl rfl (by omega) (fun (h1 : a1 < 0) => ?_) (fun (h1 : 0 ≤ a1) => ?_)
  ·
    refine wk_rV tt_205 rfl rfl ?_
    exact ⟨rfl, (sg_F_r [7, 8, 9, 10] σ), by rw [show (pAttach τ (a1) (a2)) = τ from by have e0 : a1 < 0 ∨ a2 < 0 := (by omega); simp only [pAttach, pAtt1, pAtt2, e0, ↓reduceIte, Int.reduceEq, reduceCtorEq, or_true, true_or, or_false, false_or, and_true, true_and, and_false, false_and, not_true_eq_false, not_false_eq_true, decide_eq_true_eq, or_self, and_self, ite_self, Int.reduceLE]]; exact ht⟩
  ·
    refine wk_b tt_205 1 (pc' := 5) (ls' := [(0, .inr (.inr (.ref 2))), (1, .inl (a1)), (2, .inl (a2))]) (st' := [.inl (a2)]) (σ' := σ) rfl ?_
    refine wk_if tt_205 (tgt := 9) rfl rfl (by omega) (fun (h2 : 0 ≤ a2) => ?_) (fun (h2 : a2 < 0) => ?_)
    ·
      refine wk_b tt_205 3 (pc' := 14) (ls' := [(0, .inr (.inr (.ref 2))), (1, .inl (a1)), (2, .inl (a2))]) (st' := [.inl (a1), .inr (.inr (.ref 10))]) (σ' := σ) rfl ?_
      refine wk_callp (v0 := some (.inl (sx_at σ 10 200 (a1)))) (σ1 := σ) tt_205 rfl rfl rfl rfl rfl tt_5 rfl (by decide) (at_i0 z σ 10 200 (a1) rfl (by decide) (by omega)) ?_
      rw [show (sx_at σ 10 200 (a1)) = (sx_at τ 10 200 (a1)) from ag_at ht rfl _ _]
      have r3 := sx_at_R τ 10 200 (a1)
      refine wk_if tt_205 (tgt := 32) rfl rfl (by omega) (fun (h4 : ¬ (sx_at τ 10 200 (a1)) = 0) => ?_) (fun (h4 : (sx_at τ 10 200 (a1)) = 0) => ?_)
      ·
        refine wk_b tt_205 5 (pc' := 41) (ls' := [(0, .inr (.inr (.ref 2))), (1, .inl (a1)), (2, .inl (a2))]) (st' := [.inl (a1), .inr (.inr (.ref 8)), .inr (.inr (.ref 9))]) (σ' := σ) rfl ?_
        refine wk_callp (v0 := some (.inl (sx_at σ 8 200 (a1)))) (σ1 := σ) tt_205 rfl rfl rfl rfl rfl tt_5 rfl (by decide) (at_i0 z σ 8 200 (a1) rfl (by decide) (by omega)) ?_
        rw [show (sx_at σ 8 200 (a1)) = (sx_at τ 8 200 (a1)) from ag_at ht rfl _ _]
        have r5 := sx_at_R τ 8 200 (a1)
        refine wk_b tt_205 1 (pc' := 45) (ls' := [(0, .inr (.inr (.ref 2))), (1, .inl (a1)), (2, .inl (a2))]) (st' := [.inl (a2), .inl ((sx_at τ 8 200 (a1))), .inr (.inr (.ref 9))]) (σ' := σ) rfl ?_
        refine wk_callp (v0 := none) (σ1 := (sx_put σ 9 200 ((sx_at τ 8 200 (a1))) (a2))) tt_205 rfl rfl rfl rfl rfl tt_21 rfl (by decide) (pt_i0 z σ 9 200 ((sx_at τ 8 200 (a1))) (a2) rfl (by decide) (by omega)) ?_
        refine wk_b tt_205 4 (pc' := 54) (ls' := [(0, .inr (.inr (.ref 2))), (1, .inl (a1)), (2, .inl (a2))]) (st' := [.inl (a2), .inl (a1), .inr (.inr (.ref 8))]) (σ' := (sx_put σ 9 200 ((sx_at τ 8 200 (a1))) (a2))) rfl ?_
        refine wk_callp (v0 := none) (σ1 := (sx_put (sx_put σ 9 200 ((sx_at τ 8 200 (a1))) (a2)) 8 200 (a1) (a2))) tt_205 rfl rfl rfl rfl rfl tt_21 rfl (by decide) (pt_i0 z (sx_put σ 9 200 ((sx_at τ 8 200 (a1))) (a2)) 8 200 (a1) (a2) rfl (by decide) (by omega)) ?_
        refine wk_b tt_205 6 (pc' := 67) (ls' := [(0, .inr (.inr (.ref 2))), (1, .inl (a1)), (2, .inl (a2))]) (st' := [.inl (a1), .inr (.inr (.ref 10)), .inl (a1), .inr (.inr (.ref 10))]) (σ' := (sx_put (sx_put σ 9 200 ((sx_at τ 8 200 (a1))) (a2)) 8 200 (a1) (a2))) rfl ?_
        refine wk_callp (v0 := some (.inl (sx_at (sx_put (sx_put σ 9 200 ((sx_at τ 8 200 (a1))) (a2)) 8 200 (a1) (a2)) 10 200 (a1)))) (σ1 := (sx_put (sx_put σ 9 200 ((sx_at τ 8 200 (a1))) (a2)) 8 200 (a1) (a2))) tt_205 rfl rfl rfl rfl rfl tt_5 rfl (by decide) (at_i0 z (sx_put (sx_put σ 9 200 ((sx_at τ 8 200 (a1))) (a2)) 8 200 (a1) (a2)) 10 200 (a1) rfl (by decide) (by omega)) ?_
        rw [show (sx_at (sx_put (sx_put σ 9 200 ((sx_at τ 8 200 (a1))) (a2)) 8 200 (a1) (a2)) 10 200 (a1)) = (sx_at (sx_put (sx_put τ 9 200 ((sx_at τ 8 200 (a1))) (a2)) 8 200 (a1) (a2)) 10 200 (a1)) from ag_at (ag_p (ag_p ht _ _ _ _) _ _ _ _) rfl _ _]
        have r6 := sx_at_R (sx_put (sx_put τ 9 200 ((sx_at τ 8 200 (a1))) (a2)) 8 200 (a1) (a2)) 10 200 (a1)
        refine wk_b tt_205 2 (pc' := 72) (ls' := [(0, .inr (.inr (.ref 2))), (1, .inl (a1)), (2, .inl (a2))]) (st' := [.inl (((sx_at (sx_put (sx_put τ 9 200 ((sx_at τ 8 200 (a1))) (a2)) 8 200 (a1) (a2)) 10 200 (a1)) + 1)), .inl (a1), .inr (.inr (.ref 10))]) (σ' := (sx_put (sx_put σ 9 200 ((sx_at τ 8 200 (a1))) (a2)) 8 200 (a1) (a2))) rfl ?_
        refine wk_callp (v0 := none) (σ1 := (sx_put (sx_put (sx_put σ 9 200 ((sx_at τ 8 200 (a1))) (a2)) 8 200 (a1) (a2)) 10 200 (a1) (((sx_at (sx_put (sx_put τ 9 200 ((sx_at τ 8 200 (a1))) (a2)) 8 200 (a1) (a2)) 10 200 (a1)) + 1)))) tt_205 rfl rfl rfl rfl rfl tt_21 rfl (by decide) (pt_i0 z (sx_put (sx_put σ 9 200 ((sx_at τ 8 200 (a1))) (a2)) 8 200 (a1) (a2)) 10 200 (a1) (((sx_at (sx_put (sx_put τ 9 200 ((sx_at τ 8 200 (a1))) (a2)) 8 200 (a1) (a2)) 10 200 (a1)) + 1)) rfl (by decide) (by omega)) ?_
        refine wk_rV tt_205 rfl rfl ?_
        exact ⟨rfl, (sg_F_p (sg_F_p (sg_F_p (sg_F_r [7, 8, 9, 10] σ) rfl _ _ _) rfl _ _ _) rfl _ _ _), by rw [show (pAttach τ (a1) (a2)) = (sx_put (sx_put (sx_put τ 9 200 ((sx_at τ 8 200 (a1))) (a2)) 8 200 (a1) (a2)) 10 200 (a1) (((sx_at (sx_put (sx_put τ 9 200 ((sx_at τ 8 200 (a1))) (a2)) 8 200 (a1) (a2)) 10 200 (a1)) + 1))) from by have e0 : ¬ (a1 < 0 ∨ a2 < 0) := (by omega); simp only [pAttach, pAtt1, pAtt2, h4, e0, ↓reduceIte, Int.reduceEq, reduceCtorEq, or_true, true_or, or_false, false_or, and_true, true_and, and_false, false_and, not_true_eq_false, not_false_eq_true, decide_eq_true_eq, or_self, and_self, ite_self, Int.reduceLE]]; exact (ag_p (ag_p (ag_p ht _ _ _ _) _ _ _ _) _ _ _ _)⟩
      ·
        refine wk_b tt_205 4 (pc' := 26) (ls' := [(0, .inr (.inr (.ref 2))), (1, .inl (a1)), (2, .inl (a2))]) (st' := [.inl (a2), .inl (a1), .inr (.inr (.ref 7))]) (σ' := σ) rfl ?_
        refine wk_callp (v0 := none) (σ1 := (sx_put σ 7 200 (a1) (a2))) tt_205 rfl rfl rfl rfl rfl tt_21 rfl (by decide) (pt_i0 z σ 7 200 (a1) (a2) rfl (by decide) (by omega)) ?_
        refine wk_b tt_205 5 (pc' := 54) (ls' := [(0, .inr (.inr (.ref 2))), (1, .inl (a1)), (2, .inl (a2))]) (st' := [.inl (a2), .inl (a1), .inr (.inr (.ref 8))]) (σ' := (sx_put σ 7 200 (a1) (a2))) rfl ?_
        refine wk_callp (v0 := none) (σ1 := (sx_put (sx_put σ 7 200 (a1) (a2)) 8 200 (a1) (a2))) tt_205 rfl rfl rfl rfl rfl tt_21 rfl (by decide) (pt_i0 z (sx_put σ 7 200 (a1) (a2)) 8 200 (a1) (a2) rfl (by decide) (by omega)) ?_
        refine wk_b tt_205 6 (pc' := 67) (ls' := [(0, .inr (.inr (.ref 2))), (1, .inl (a1)), (2, .inl (a2))]) (st' := [.inl (a1), .inr (.inr (.ref 10)), .inl (a1), .inr (.inr (.ref 10))]) (σ' := (sx_put (sx_put σ 7 200 (a1) (a2)) 8 200 (a1) (a2))) rfl ?_
        refine wk_callp (v0 := some (.inl (sx_at (sx_put (sx_put σ 7 200 (a1) (a2)) 8 200 (a1) (a2)) 10 200 (a1)))) (σ1 := (sx_put (sx_put σ 7 200 (a1) (a2)) 8 200 (a1) (a2))) tt_205 rfl rfl rfl rfl rfl tt_5 rfl (by decide) (at_i0 z (sx_put (sx_put σ 7 200 (a1) (a2)) 8 200 (a1) (a2)) 10 200 (a1) rfl (by decide) (by omega)) ?_
        rw [show (sx_at (sx_put (sx_put σ 7 200 (a1) (a2)) 8 200 (a1) (a2)) 10 200 (a1)) = (sx_at (sx_put (sx_put τ 7 200 (a1) (a2)) 8 200 (a1) (a2)) 10 200 (a1)) from ag_at (ag_p (ag_p ht _ _ _ _) _ _ _ _) rfl _ _]
        have r7 := sx_at_R (sx_put (sx_put τ 7 200 (a1) (a2)) 8 200 (a1) (a2)) 10 200 (a1)
        refine wk_b tt_205 2 (pc' := 72) (ls' := [(0, .inr (.inr (.ref 2))), (1, .inl (a1)), (2, .inl (a2))]) (st' := [.inl (((sx_at (sx_put (sx_put τ 7 200 (a1) (a2)) 8 200 (a1) (a2)) 10 200 (a1)) + 1)), .inl (a1), .inr (.inr (.ref 10))]) (σ' := (sx_put (sx_put σ 7 200 (a1) (a2)) 8 200 (a1) (a2))) rfl ?_
        refine wk_callp (v0 := none) (σ1 := (sx_put (sx_put (sx_put σ 7 200 (a1) (a2)) 8 200 (a1) (a2)) 10 200 (a1) (((sx_at (sx_put (sx_put τ 7 200 (a1) (a2)) 8 200 (a1) (a2)) 10 200 (a1)) + 1)))) tt_205 rfl rfl rfl rfl rfl tt_21 rfl (by decide) (pt_i0 z (sx_put (sx_put σ 7 200 (a1) (a2)) 8 200 (a1) (a2)) 10 200 (a1) (((sx_at (sx_put (sx_put τ 7 200 (a1) (a2)) 8 200 (a1) (a2)) 10 200 (a1)) + 1)) rfl (by decide) (by omega)) ?_
        refine wk_rV tt_205 rfl rfl ?_
        exact ⟨rfl, (sg_F_p (sg_F_p (sg_F_p (sg_F_r [7, 8, 9, 10] σ) rfl _ _ _) rfl _ _ _) rfl _ _ _), by rw [show (pAttach τ (a1) (a2)) = (sx_put (sx_put (sx_put τ 7 200 (a1) (a2)) 8 200 (a1) (a2)) 10 200 (a1) (((sx_at (sx_put (sx_put τ 7 200 (a1) (a2)) 8 200 (a1) (a2)) 10 200 (a1)) + 1))) from by have e0 : ¬ (a1 < 0 ∨ a2 < 0) := (by omega); simp only [pAttach, pAtt1, pAtt2, h4, e0, ↓reduceIte, Int.reduceEq, reduceCtorEq, or_true, true_or, or_false, false_or, and_true, true_and, and_false, false_and, not_true_eq_false, not_false_eq_true, decide_eq_true_eq, or_self, and_self, ite_self, Int.reduceLE]]; exact (ag_p (ag_p (ag_p ht _ _ _ _) _ _ _ _) _ _ _ _)⟩
    ·
      refine wk_rV tt_205 rfl rfl ?_
      exact ⟨rfl, (sg_F_r [7, 8, 9, 10] σ), by rw [show (pAttach τ (a1) (a2)) = τ from by have e0 : a1 < 0 ∨ a2 < 0 := (by omega); simp only [pAttach, pAtt1, pAtt2, e0, ↓reduceIte, Int.reduceEq, reduceCtorEq, or_true, true_or, or_false, false_or, and_true, true_and, and_false, false_and, not_true_eq_false, not_false_eq_true, decide_eq_true_eq, or_self, and_self, ite_self, Int.reduceLE]]; exact ht⟩
-- NestedVectors$Tree.close
set_option maxRecDepth 8000 in
theorem px_cls (z : Value) (σ : sg_S) (a1 : Int) (a2 : Int) (τ : sg_S) (ht : te σ τ) (ra1 : sg_R a1) (ra2 : sg_R a2) : wx z 1 206 0 [(0, .inr (.inr (.ref 2))), (1, .inl (a1)), (2, .inl (a2))] [] σ (fun v σ' => v = none ∧ sg_F [11, 12] σ σ' ∧ te σ' (pClose τ (a1) (a2))) := by
  refine wk_b tt_206 4 (pc' := 6) (ls' := [(0, .inr (.inr (.ref 2))), (1, .inl (a1)), (2, .inl (a2))]) (st' := [.inl (a2), .inl (a1), .inr (.inr (.ref 11))]) (σ' := σ) rfl ?_
  refine wk_callp (v0 := none) (σ1 := (sx_put σ 11 200 (a1) (a2))) tt_206 rfl rfl rfl rfl rfl tt_21 rfl (by decide) (pt_i0 z σ 11 200 (a1) (a2) rfl (by decide) (by omega)) ?_
  refine wk_b tt_206 7 (pc' := 20) (ls' := [(0, .inr (.inr (.ref 2))), (1, .inl (a1)), (2, .inl (a2))]) (st' := [.inl (((sg_g (sx_put σ 11 200 (a1) (a2)) 2 16) - 1)), .inl (a1), .inr (.inr (.ref 12))]) (σ' := (sx_put σ 11 200 (a1) (a2))) rfl ?_
  have r1 := sg_Rg τ 2 16
  rw [show (sg_g (sx_put σ 11 200 (a1) (a2)) 2 16) = (sg_g τ 2 16) from by rw [sx_put_c _ _ _ _ _ _ _ (by decide), ag_g ht rfl]]
  refine wk_callp (v0 := none) (σ1 := (sx_put (sx_put σ 11 200 (a1) (a2)) 12 200 (a1) (((sg_g τ 2 16) - 1)))) tt_206 rfl rfl rfl rfl rfl tt_21 rfl (by decide) (pt_i0 z (sx_put σ 11 200 (a1) (a2)) 12 200 (a1) (((sg_g τ 2 16) - 1)) rfl (by decide) (by omega)) ?_
  refine wk_rV tt_206 rfl rfl ?_
  exact ⟨rfl, (sg_F_p (sg_F_p (sg_F_r [11, 12] σ) rfl _ _ _) rfl _ _ _), (ag_p (ag_p ht _ _ _ _) _ _ _ _)⟩
-- NestedVectors$Parser.both
set_option maxRecDepth 8000 in
theorem px_both (z : Value) (σ : sg_S) (a1 : Int) (a2 : Int) (a3 : Int) (τ : sg_S) (ht : te σ τ) (ra1 : sg_R a1) (ra2 : sg_R a2) (ra3 : sg_R a3) : wx z 2 168 0 [(0, .inr (.inr (.ref 35))), (1, .inl (a1)), (2, .inl (a2)), (3, .inl (a3))] [] σ (fun v σ' => v = some (.inl (a1)) ∧ sg_F [7, 8, 9, 10, 11, 12] σ σ' ∧ te σ' (pBoth τ (a1) (a2) (a3))) := by
  refine wk_b tt_168 4 (pc' := 6) (ls' := [(0, .inr (.inr (.ref 35))), (1, .inl (a1)), (2, .inl (a2)), (3, .inl (a3))]) (st' := [.inl (a2), .inl (a1), .inr (.inr (.ref 2))]) (σ' := σ) rfl ?_
  refine wk_call tt_168 rfl rfl rfl rfl rfl tt_205 rfl (by decide) (px_att z σ (a1) (a2) τ ht (by first | omega | exact sg_Rg _ _ _) (by first | omega | exact sg_Rg _ _ _)) (fun w1 σ2 hq3 => ?_)
  obtain ⟨rfl, hF4, ht5⟩ := hq3
  refine wk_b tt_168 4 (pc' := 15) (ls' := [(0, .inr (.inr (.ref 35))), (1, .inl (a1)), (2, .inl (a2)), (3, .inl (a3))]) (st' := [.inl (a3), .inl (a1), .inr (.inr (.ref 2))]) (σ' := σ2) rfl ?_
  refine wk_call tt_168 rfl rfl rfl rfl rfl tt_205 rfl (by decide) (px_att z σ2 (a1) (a3) (pAttach τ (a1) (a2)) ht5 (by first | omega | exact sg_Rg _ _ _) (by first | omega | exact sg_Rg _ _ _)) (fun w6 σ7 hq8 => ?_)
  obtain ⟨rfl, hF9, ht10⟩ := hq8
  refine wk_b tt_168 7 (pc' := 31) (ls' := [(0, .inr (.inr (.ref 35))), (1, .inl (a1)), (2, .inl (a2)), (3, .inl (a3))]) (st' := [.inl (a2), .inr (.inr (.ref 11)), .inl (a1), .inr (.inr (.ref 2))]) (σ' := σ7) rfl ?_
  refine wk_callp (v0 := some (.inl (sx_at σ7 11 200 (a2)))) (σ1 := σ7) tt_168 rfl rfl rfl rfl rfl tt_5 rfl (by decide) (at_i0 z σ7 11 200 (a2) rfl (by decide) (by omega)) ?_
  rw [show (sx_at σ7 11 200 (a2)) = (sx_at (pAttach (pAttach τ (a1) (a2)) (a1) (a3)) 11 200 (a2)) from ag_at ht10 rfl _ _]
  have r11 := sx_at_R (pAttach (pAttach τ (a1) (a2)) (a1) (a3)) 11 200 (a2)
  refine wk_call tt_168 rfl rfl rfl rfl rfl tt_206 rfl (by decide) (px_cls z σ7 (a1) ((sx_at (pAttach (pAttach τ (a1) (a2)) (a1) (a3)) 11 200 (a2))) (pAttach (pAttach τ (a1) (a2)) (a1) (a3)) ht10 (by first | omega | exact sg_Rg _ _ _) (by first | omega | exact sg_Rg _ _ _)) (fun w12 σ13 hq14 => ?_)
  obtain ⟨rfl, hF15, ht16⟩ := hq14
  refine wk_b tt_168 1 (pc' := 38) (ls' := [(0, .inr (.inr (.ref 35))), (1, .inl (a1)), (2, .inl (a2)), (3, .inl (a3))]) (st' := [.inl (a1)]) (σ' := σ13) rfl ?_
  refine wk_rI tt_168 rfl rfl ?_
  exact ⟨rfl, (sg_F_t (sg_F_t (sg_F_t (sg_F_r [7, 8, 9, 10, 11, 12] σ) (sg_F_m (L := [7, 8, 9, 10, 11, 12]) hF4 rfl)) (sg_F_m (L := [7, 8, 9, 10, 11, 12]) hF9 rfl)) (sg_F_m (L := [7, 8, 9, 10, 11, 12]) hF15 rfl)), ht16⟩
-- NestedVectors$Tree.add x.tree a1 a2
set_option maxRecDepth 8000 in
theorem bp_0 (z : Value) (σ : sg_S) (a1 : Int) (a2 : Int) : wx z 1 204 0 [(0, .inr (.inr (.ref 2))), (1, .inl (a1)), (2, .inl (a2))] [] σ (fun v σ' => (∃ q, v = some (.inl q)) ∧ sg_F [2, 3, 4, 7, 8, 9, 10, 11, 12, 13, 14] σ σ') := by
  have hF0 := sg_F_r [2, 3, 4, 7, 8, 9, 10, 11, 12, 13, 14] σ
  refine wk_b tt_204 13 (pc' := 21) (ls' := [(3, .inl ((sg_g σ 2 16))), (0, .inr (.inr (.ref 2))), (1, .inl (a1)), (2, .inl (a2))]) (st' := [.inl (a1), .inl ((sg_g σ 2 16)), .inr (.inr (.ref 3))]) (σ' := (sg_w σ 2 16 (((sg_g σ 2 16) + 1)))) rfl ?_
  have hF1 : sg_F [2, 3, 4, 7, 8, 9, 10, 11, 12, 13, 14] σ (sg_w σ 2 16 (((sg_g σ 2 16) + 1))) := (sg_F_w hF0 rfl _)
  generalize (sg_w σ 2 16 (((sg_g σ 2 16) + 1))) = σ2 at hF1 ⊢
  refine wk_callp tt_204 rfl rfl rfl rfl rfl tt_21 rfl (by decide) (pt_i z σ2 3 200 ((sg_g σ 2 16)) (a1) rfl (by decide)) ?_
  have hF6 : sg_F [2, 3, 4, 7, 8, 9, 10, 11, 12, 13, 14] σ (sx_put σ2 3 200 (sg_n ((sg_g σ 2 16))) (a1)) := sg_F_p hF1 rfl _ _ _
  generalize (sx_put σ2 3 200 (sg_n ((sg_g σ 2 16))) (a1)) = σ7 at hF6 ⊢
  refine wk_b tt_204 4 (pc' := 30) (ls' := [(3, .inl ((sg_g σ 2 16))), (0, .inr (.inr (.ref 2))), (1, .inl (a1)), (2, .inl (a2))]) (st' := [.inl (a2), .inl ((sg_g σ 2 16)), .inr (.inr (.ref 4))]) (σ' := σ7) rfl ?_
  refine wk_callp tt_204 rfl rfl rfl rfl rfl tt_21 rfl (by decide) (pt_i z σ7 4 200 ((sg_g σ 2 16)) (a2) rfl (by decide)) ?_
  have hF11 : sg_F [2, 3, 4, 7, 8, 9, 10, 11, 12, 13, 14] σ (sx_put σ7 4 200 (sg_n ((sg_g σ 2 16))) (a2)) := sg_F_p hF6 rfl _ _ _
  generalize (sx_put σ7 4 200 (sg_n ((sg_g σ 2 16))) (a2)) = σ12 at hF11 ⊢
  refine wk_b tt_204 4 (pc' := 39) (ls' := [(3, .inl ((sg_g σ 2 16))), (0, .inr (.inr (.ref 2))), (1, .inl (a1)), (2, .inl (a2))]) (st' := [.inl ((-1)), .inl ((sg_g σ 2 16)), .inr (.inr (.ref 7))]) (σ' := σ12) rfl ?_
  refine wk_callp tt_204 rfl rfl rfl rfl rfl tt_21 rfl (by decide) (pt_i z σ12 7 200 ((sg_g σ 2 16)) ((-1)) rfl (by decide)) ?_
  have hF16 : sg_F [2, 3, 4, 7, 8, 9, 10, 11, 12, 13, 14] σ (sx_put σ12 7 200 (sg_n ((sg_g σ 2 16))) ((-1))) := sg_F_p hF11 rfl _ _ _
  generalize (sx_put σ12 7 200 (sg_n ((sg_g σ 2 16))) ((-1))) = σ17 at hF16 ⊢
  refine wk_b tt_204 4 (pc' := 48) (ls' := [(3, .inl ((sg_g σ 2 16))), (0, .inr (.inr (.ref 2))), (1, .inl (a1)), (2, .inl (a2))]) (st' := [.inl ((-1)), .inl ((sg_g σ 2 16)), .inr (.inr (.ref 8))]) (σ' := σ17) rfl ?_
  refine wk_callp tt_204 rfl rfl rfl rfl rfl tt_21 rfl (by decide) (pt_i z σ17 8 200 ((sg_g σ 2 16)) ((-1)) rfl (by decide)) ?_
  have hF21 : sg_F [2, 3, 4, 7, 8, 9, 10, 11, 12, 13, 14] σ (sx_put σ17 8 200 (sg_n ((sg_g σ 2 16))) ((-1))) := sg_F_p hF16 rfl _ _ _
  generalize (sx_put σ17 8 200 (sg_n ((sg_g σ 2 16))) ((-1))) = σ22 at hF21 ⊢
  refine wk_b tt_204 4 (pc' := 57) (ls' := [(3, .inl ((sg_g σ 2 16))), (0, .inr (.inr (.ref 2))), (1, .inl (a1)), (2, .inl (a2))]) (st' := [.inl ((-1)), .inl ((sg_g σ 2 16)), .inr (.inr (.ref 9))]) (σ' := σ22) rfl ?_
  refine wk_callp tt_204 rfl rfl rfl rfl rfl tt_21 rfl (by decide) (pt_i z σ22 9 200 ((sg_g σ 2 16)) ((-1)) rfl (by decide)) ?_
  have hF26 : sg_F [2, 3, 4, 7, 8, 9, 10, 11, 12, 13, 14] σ (sx_put σ22 9 200 (sg_n ((sg_g σ 2 16))) ((-1))) := sg_F_p hF21 rfl _ _ _
  generalize (sx_put σ22 9 200 (sg_n ((sg_g σ 2 16))) ((-1))) = σ27 at hF26 ⊢
  refine wk_b tt_204 4 (pc' := 66) (ls' := [(3, .inl ((sg_g σ 2 16))), (0, .inr (.inr (.ref 2))), (1, .inl (a1)), (2, .inl (a2))]) (st' := [.inl (0), .inl ((sg_g σ 2 16)), .inr (.inr (.ref 10))]) (σ' := σ27) rfl ?_
  refine wk_callp tt_204 rfl rfl rfl rfl rfl tt_21 rfl (by decide) (pt_i z σ27 10 200 ((sg_g σ 2 16)) (0) rfl (by decide)) ?_
  have hF31 : sg_F [2, 3, 4, 7, 8, 9, 10, 11, 12, 13, 14] σ (sx_put σ27 10 200 (sg_n ((sg_g σ 2 16))) (0)) := sg_F_p hF26 rfl _ _ _
  generalize (sx_put σ27 10 200 (sg_n ((sg_g σ 2 16))) (0)) = σ32 at hF31 ⊢
  refine wk_b tt_204 4 (pc' := 75) (ls' := [(3, .inl ((sg_g σ 2 16))), (0, .inr (.inr (.ref 2))), (1, .inl (a1)), (2, .inl (a2))]) (st' := [.inl (0), .inl ((sg_g σ 2 16)), .inr (.inr (.ref 13))]) (σ' := σ32) rfl ?_
  refine wk_callp tt_204 rfl rfl rfl rfl rfl tt_21 rfl (by decide) (pt_i z σ32 13 200 ((sg_g σ 2 16)) (0) rfl (by decide)) ?_
  have hF36 : sg_F [2, 3, 4, 7, 8, 9, 10, 11, 12, 13, 14] σ (sx_put σ32 13 200 (sg_n ((sg_g σ 2 16))) (0)) := sg_F_p hF31 rfl _ _ _
  generalize (sx_put σ32 13 200 (sg_n ((sg_g σ 2 16))) (0)) = σ37 at hF36 ⊢
  refine wk_b tt_204 4 (pc' := 84) (ls' := [(3, .inl ((sg_g σ 2 16))), (0, .inr (.inr (.ref 2))), (1, .inl (a1)), (2, .inl (a2))]) (st' := [.inl ((-1)), .inl ((sg_g σ 2 16)), .inr (.inr (.ref 14))]) (σ' := σ37) rfl ?_
  refine wk_callp tt_204 rfl rfl rfl rfl rfl tt_21 rfl (by decide) (pt_i z σ37 14 200 ((sg_g σ 2 16)) ((-1)) rfl (by decide)) ?_
  have hF41 : sg_F [2, 3, 4, 7, 8, 9, 10, 11, 12, 13, 14] σ (sx_put σ37 14 200 (sg_n ((sg_g σ 2 16))) ((-1))) := sg_F_p hF36 rfl _ _ _
  generalize (sx_put σ37 14 200 (sg_n ((sg_g σ 2 16))) ((-1))) = σ42 at hF41 ⊢
  refine wk_b tt_204 4 (pc' := 93) (ls' := [(3, .inl ((sg_g σ 2 16))), (0, .inr (.inr (.ref 2))), (1, .inl (a1)), (2, .inl (a2))]) (st' := [.inl ((sg_g σ 2 16)), .inl ((sg_g σ 2 16)), .inr (.inr (.ref 11))]) (σ' := σ42) rfl ?_
  refine wk_callp tt_204 rfl rfl rfl rfl rfl tt_21 rfl (by decide) (pt_i z σ42 11 200 ((sg_g σ 2 16)) ((sg_g σ 2 16)) rfl (by decide)) ?_
  have hF46 : sg_F [2, 3, 4, 7, 8, 9, 10, 11, 12, 13, 14] σ (sx_put σ42 11 200 (sg_n ((sg_g σ 2 16))) ((sg_g σ 2 16))) := sg_F_p hF41 rfl _ _ _
  generalize (sx_put σ42 11 200 (sg_n ((sg_g σ 2 16))) ((sg_g σ 2 16))) = σ47 at hF46 ⊢
  refine wk_b tt_204 4 (pc' := 102) (ls' := [(3, .inl ((sg_g σ 2 16))), (0, .inr (.inr (.ref 2))), (1, .inl (a1)), (2, .inl (a2))]) (st' := [.inl ((sg_g σ 2 16)), .inl ((sg_g σ 2 16)), .inr (.inr (.ref 12))]) (σ' := σ47) rfl ?_
  refine wk_callp tt_204 rfl rfl rfl rfl rfl tt_21 rfl (by decide) (pt_i z σ47 12 200 ((sg_g σ 2 16)) ((sg_g σ 2 16)) rfl (by decide)) ?_
  have hF51 : sg_F [2, 3, 4, 7, 8, 9, 10, 11, 12, 13, 14] σ (sx_put σ47 12 200 (sg_n ((sg_g σ 2 16))) ((sg_g σ 2 16))) := sg_F_p hF46 rfl _ _ _
  generalize (sx_put σ47 12 200 (sg_n ((sg_g σ 2 16))) ((sg_g σ 2 16))) = σ52 at hF51 ⊢
  refine wk_b tt_204 1 (pc' := 106) (ls' := [(3, .inl ((sg_g σ 2 16))), (0, .inr (.inr (.ref 2))), (1, .inl (a1)), (2, .inl (a2))]) (st' := [.inl ((sg_g σ 2 16))]) (σ' := σ52) rfl ?_
  exact wk_rI tt_204 rfl rfl ⟨⟨_, rfl⟩, hF51⟩
-- NestedVectors$Tree.attach x.tree a1 a2
set_option maxRecDepth 8000 in
theorem bp_1 (z : Value) (σ : sg_S) (a1 : Int) (a2 : Int) : wx z 1 205 0 [(0, .inr (.inr (.ref 2))), (1, .inl (a1)), (2, .inl (a2))] [] σ (fun v σ' => v = none ∧ sg_F [7, 8, 9, 10] σ σ') := by
  have hF0 := sg_F_r [7, 8, 9, 10] σ
  refine wk_b tt_205 1 (pc' := 1) (ls' := [(0, .inr (.inr (.ref 2))), (1, .inl (a1)), (2, .inl (a2))]) (st' := [.inl (a1)]) (σ' := σ) rfl ?_
  refine wk_ifb tt_205 (tgt := 8) rfl rfl ?_ ?_
  ·
    exact wk_rV tt_205 rfl rfl ⟨rfl, hF0⟩
  ·
    refine wk_b tt_205 1 (pc' := 5) (ls' := [(0, .inr (.inr (.ref 2))), (1, .inl (a1)), (2, .inl (a2))]) (st' := [.inl (a2)]) (σ' := σ) rfl ?_
    refine wk_ifb tt_205 (tgt := 9) rfl rfl ?_ ?_
    ·
      refine wk_b tt_205 3 (pc' := 14) (ls' := [(0, .inr (.inr (.ref 2))), (1, .inl (a1)), (2, .inl (a2))]) (st' := [.inl (a1), .inr (.inr (.ref 10))]) (σ' := σ) rfl ?_
      refine wk_callp tt_205 rfl rfl rfl rfl rfl tt_5 rfl (by decide) (at_i z σ 10 200 (a1) rfl (by decide)) ?_
      generalize sx_at σ 10 200 (sg_n (a1)) = q6
      refine wk_ifb tt_205 (tgt := 32) rfl rfl ?_ ?_
      ·
        refine wk_b tt_205 5 (pc' := 41) (ls' := [(0, .inr (.inr (.ref 2))), (1, .inl (a1)), (2, .inl (a2))]) (st' := [.inl (a1), .inr (.inr (.ref 8)), .inr (.inr (.ref 9))]) (σ' := σ) rfl ?_
        refine wk_callp tt_205 rfl rfl rfl rfl rfl tt_5 rfl (by decide) (at_i z σ 8 200 (a1) rfl (by decide)) ?_
        generalize sx_at σ 8 200 (sg_n (a1)) = q11
        refine wk_b tt_205 1 (pc' := 45) (ls' := [(0, .inr (.inr (.ref 2))), (1, .inl (a1)), (2, .inl (a2))]) (st' := [.inl (a2), .inl (q11), .inr (.inr (.ref 9))]) (σ' := σ) rfl ?_
        refine wk_callp tt_205 rfl rfl rfl rfl rfl tt_21 rfl (by decide) (pt_i z σ 9 200 (q11) (a2) rfl (by decide)) ?_
        have hF15 : sg_F [7, 8, 9, 10] σ (sx_put σ 9 200 (sg_n (q11)) (a2)) := sg_F_p hF0 rfl _ _ _
        generalize (sx_put σ 9 200 (sg_n (q11)) (a2)) = σ16 at hF15 ⊢
        refine wk_b tt_205 4 (pc' := 54) (ls' := [(0, .inr (.inr (.ref 2))), (1, .inl (a1)), (2, .inl (a2))]) (st' := [.inl (a2), .inl (a1), .inr (.inr (.ref 8))]) (σ' := σ16) rfl ?_
        refine wk_callp tt_205 rfl rfl rfl rfl rfl tt_21 rfl (by decide) (pt_i z σ16 8 200 (a1) (a2) rfl (by decide)) ?_
        have hF20 : sg_F [7, 8, 9, 10] σ (sx_put σ16 8 200 (sg_n (a1)) (a2)) := sg_F_p hF15 rfl _ _ _
        generalize (sx_put σ16 8 200 (sg_n (a1)) (a2)) = σ21 at hF20 ⊢
        refine wk_b tt_205 6 (pc' := 67) (ls' := [(0, .inr (.inr (.ref 2))), (1, .inl (a1)), (2, .inl (a2))]) (st' := [.inl (a1), .inr (.inr (.ref 10)), .inl (a1), .inr (.inr (.ref 10))]) (σ' := σ21) rfl ?_
        refine wk_callp tt_205 rfl rfl rfl rfl rfl tt_5 rfl (by decide) (at_i z σ21 10 200 (a1) rfl (by decide)) ?_
        generalize sx_at σ21 10 200 (sg_n (a1)) = q25
        refine wk_b tt_205 2 (pc' := 72) (ls' := [(0, .inr (.inr (.ref 2))), (1, .inl (a1)), (2, .inl (a2))]) (st' := [.inl ((q25 + 1)), .inl (a1), .inr (.inr (.ref 10))]) (σ' := σ21) rfl ?_
        refine wk_callp tt_205 rfl rfl rfl rfl rfl tt_21 rfl (by decide) (pt_i z σ21 10 200 (a1) ((q25 + 1)) rfl (by decide)) ?_
        have hF29 : sg_F [7, 8, 9, 10] σ (sx_put σ21 10 200 (sg_n (a1)) ((q25 + 1))) := sg_F_p hF20 rfl _ _ _
        generalize (sx_put σ21 10 200 (sg_n (a1)) ((q25 + 1))) = σ30 at hF29 ⊢
        exact wk_rV tt_205 rfl rfl ⟨rfl, hF29⟩
      ·
        refine wk_b tt_205 4 (pc' := 26) (ls' := [(0, .inr (.inr (.ref 2))), (1, .inl (a1)), (2, .inl (a2))]) (st' := [.inl (a2), .inl (a1), .inr (.inr (.ref 7))]) (σ' := σ) rfl ?_
        refine wk_callp tt_205 rfl rfl rfl rfl rfl tt_21 rfl (by decide) (pt_i z σ 7 200 (a1) (a2) rfl (by decide)) ?_
        have hF34 : sg_F [7, 8, 9, 10] σ (sx_put σ 7 200 (sg_n (a1)) (a2)) := sg_F_p hF0 rfl _ _ _
        generalize (sx_put σ 7 200 (sg_n (a1)) (a2)) = σ35 at hF34 ⊢
        refine wk_b tt_205 5 (pc' := 54) (ls' := [(0, .inr (.inr (.ref 2))), (1, .inl (a1)), (2, .inl (a2))]) (st' := [.inl (a2), .inl (a1), .inr (.inr (.ref 8))]) (σ' := σ35) rfl ?_
        refine wk_callp tt_205 rfl rfl rfl rfl rfl tt_21 rfl (by decide) (pt_i z σ35 8 200 (a1) (a2) rfl (by decide)) ?_
        have hF39 : sg_F [7, 8, 9, 10] σ (sx_put σ35 8 200 (sg_n (a1)) (a2)) := sg_F_p hF34 rfl _ _ _
        generalize (sx_put σ35 8 200 (sg_n (a1)) (a2)) = σ40 at hF39 ⊢
        refine wk_b tt_205 6 (pc' := 67) (ls' := [(0, .inr (.inr (.ref 2))), (1, .inl (a1)), (2, .inl (a2))]) (st' := [.inl (a1), .inr (.inr (.ref 10)), .inl (a1), .inr (.inr (.ref 10))]) (σ' := σ40) rfl ?_
        refine wk_callp tt_205 rfl rfl rfl rfl rfl tt_5 rfl (by decide) (at_i z σ40 10 200 (a1) rfl (by decide)) ?_
        generalize sx_at σ40 10 200 (sg_n (a1)) = q44
        refine wk_b tt_205 2 (pc' := 72) (ls' := [(0, .inr (.inr (.ref 2))), (1, .inl (a1)), (2, .inl (a2))]) (st' := [.inl ((q44 + 1)), .inl (a1), .inr (.inr (.ref 10))]) (σ' := σ40) rfl ?_
        refine wk_callp tt_205 rfl rfl rfl rfl rfl tt_21 rfl (by decide) (pt_i z σ40 10 200 (a1) ((q44 + 1)) rfl (by decide)) ?_
        have hF48 : sg_F [7, 8, 9, 10] σ (sx_put σ40 10 200 (sg_n (a1)) ((q44 + 1))) := sg_F_p hF39 rfl _ _ _
        generalize (sx_put σ40 10 200 (sg_n (a1)) ((q44 + 1))) = σ49 at hF48 ⊢
        exact wk_rV tt_205 rfl rfl ⟨rfl, hF48⟩
    ·
      exact wk_rV tt_205 rfl rfl ⟨rfl, hF0⟩
-- NestedVectors$Tree.close x.tree a1 a2
set_option maxRecDepth 8000 in
theorem bp_2 (z : Value) (σ : sg_S) (a1 : Int) (a2 : Int) : wx z 1 206 0 [(0, .inr (.inr (.ref 2))), (1, .inl (a1)), (2, .inl (a2))] [] σ (fun v σ' => v = none ∧ sg_F [11, 12] σ σ') := by
  have hF0 := sg_F_r [11, 12] σ
  refine wk_b tt_206 4 (pc' := 6) (ls' := [(0, .inr (.inr (.ref 2))), (1, .inl (a1)), (2, .inl (a2))]) (st' := [.inl (a2), .inl (a1), .inr (.inr (.ref 11))]) (σ' := σ) rfl ?_
  refine wk_callp tt_206 rfl rfl rfl rfl rfl tt_21 rfl (by decide) (pt_i z σ 11 200 (a1) (a2) rfl (by decide)) ?_
  have hF4 : sg_F [11, 12] σ (sx_put σ 11 200 (sg_n (a1)) (a2)) := sg_F_p hF0 rfl _ _ _
  generalize (sx_put σ 11 200 (sg_n (a1)) (a2)) = σ5 at hF4 ⊢
  refine wk_b tt_206 7 (pc' := 20) (ls' := [(0, .inr (.inr (.ref 2))), (1, .inl (a1)), (2, .inl (a2))]) (st' := [.inl (((sg_g σ5 2 16) - 1)), .inl (a1), .inr (.inr (.ref 12))]) (σ' := σ5) rfl ?_
  refine wk_callp tt_206 rfl rfl rfl rfl rfl tt_21 rfl (by decide) (pt_i z σ5 12 200 (a1) (((sg_g σ5 2 16) - 1)) rfl (by decide)) ?_
  have hF9 : sg_F [11, 12] σ (sx_put σ5 12 200 (sg_n (a1)) (((sg_g σ5 2 16) - 1))) := sg_F_p hF4 rfl _ _ _
  generalize (sx_put σ5 12 200 (sg_n (a1)) (((sg_g σ5 2 16) - 1))) = σ10 at hF9 ⊢
  exact wk_rV tt_206 rfl rfl ⟨rfl, hF9⟩
-- NestedVectors$Parser.both x.parser a1 a2 a3
set_option maxRecDepth 8000 in
theorem bp_3 (z : Value) (σ : sg_S) (a1 : Int) (a2 : Int) (a3 : Int) : wx z 2 168 0 [(0, .inr (.inr (.ref 35))), (1, .inl (a1)), (2, .inl (a2)), (3, .inl (a3))] [] σ (fun v σ' => (∃ q, v = some (.inl q)) ∧ sg_F [7, 8, 9, 10, 11, 12] σ σ') := by
  have hF0 := sg_F_r [7, 8, 9, 10, 11, 12] σ
  refine wk_b tt_168 4 (pc' := 6) (ls' := [(0, .inr (.inr (.ref 35))), (1, .inl (a1)), (2, .inl (a2)), (3, .inl (a3))]) (st' := [.inl (a2), .inl (a1), .inr (.inr (.ref 2))]) (σ' := σ) rfl ?_
  refine wk_call tt_168 rfl rfl rfl rfl rfl tt_205 rfl (by decide) (bp_1 z σ (a1) (a2)) (fun w1 σ2 hq3 => ?_)
  obtain ⟨rfl, hF4⟩ := hq3
  have hF5 := sg_F_t hF0 (sg_F_m (L := [7, 8, 9, 10, 11, 12]) hF4 rfl)
  refine wk_b tt_168 4 (pc' := 15) (ls' := [(0, .inr (.inr (.ref 35))), (1, .inl (a1)), (2, .inl (a2)), (3, .inl (a3))]) (st' := [.inl (a3), .inl (a1), .inr (.inr (.ref 2))]) (σ' := σ2) rfl ?_
  refine wk_call tt_168 rfl rfl rfl rfl rfl tt_205 rfl (by decide) (bp_1 z σ2 (a1) (a3)) (fun w6 σ7 hq8 => ?_)
  obtain ⟨rfl, hF9⟩ := hq8
  have hF10 := sg_F_t hF5 (sg_F_m (L := [7, 8, 9, 10, 11, 12]) hF9 rfl)
  refine wk_b tt_168 7 (pc' := 31) (ls' := [(0, .inr (.inr (.ref 35))), (1, .inl (a1)), (2, .inl (a2)), (3, .inl (a3))]) (st' := [.inl (a2), .inr (.inr (.ref 11)), .inl (a1), .inr (.inr (.ref 2))]) (σ' := σ7) rfl ?_
  refine wk_callp tt_168 rfl rfl rfl rfl rfl tt_5 rfl (by decide) (at_i z σ7 11 200 (a2) rfl (by decide)) ?_
  generalize sx_at σ7 11 200 (sg_n (a2)) = q14
  refine wk_call tt_168 rfl rfl rfl rfl rfl tt_206 rfl (by decide) (bp_2 z σ7 (a1) (q14)) (fun w15 σ16 hq17 => ?_)
  obtain ⟨rfl, hF18⟩ := hq17
  have hF19 := sg_F_t hF10 (sg_F_m (L := [7, 8, 9, 10, 11, 12]) hF18 rfl)
  refine wk_b tt_168 1 (pc' := 38) (ls' := [(0, .inr (.inr (.ref 35))), (1, .inl (a1)), (2, .inl (a2)), (3, .inl (a3))]) (st' := [.inl (a1)]) (σ' := σ16) rfl ?_
  exact wk_rI tt_168 rfl rfl ⟨⟨_, rfl⟩, hF19⟩
-- NestedVectors$Parser.expect
set_option maxRecDepth 8000 in
theorem pj_exp (z : Value) (σ : sg_S) (a1 : Int) (hj : jm σ) (hne : ¬ a1 = 260 ∧ sg_R a1) : wx z 2 173 0 [(0, .inr (.inr (.ref 35))), (1, .inl (a1))] [] σ (fun v σ' => v = none ∧ sg_F [4035, 5036] σ σ' ∧ jm σ') := by
  refine wk_b tt_173 4 (pc' := 8) (ls' := [(0, .inr (.inr (.ref 35))), (1, .inl (a1))]) (st' := [.inl (a1), .inl ((sg_g σ 36 4))]) (σ' := σ) rfl ?_
  rw [show (sg_g σ 36 4) = 260 from by rw [hj.1]]
  refine wk_if2 tt_173 (tgt := 18) rfl rfl (by decide) (by omega) (fun (h : 260 = a1) => absurd h (by omega)) (fun (h1 : ¬ 260 = a1) => ?_)
  refine wk_b tt_173 1 (pc' := 12) (ls' := [(0, .inr (.inr (.ref 35))), (1, .inl (a1))]) (st' := [.inr (.inr (.ref 35))]) (σ' := σ) rfl ?_
  refine wk_call tt_173 rfl rfl rfl rfl rfl tt_175 rfl (by decide) (px_failJ z σ hj) (fun w2 σ3 hq4 => ?_)
  obtain ⟨rfl, hF5, hj6⟩ := hq4
  refine wk_b tt_173 1 (pc' := 32) (ls' := [(0, .inr (.inr (.ref 35))), (1, .inl (a1))]) (st' := []) (σ' := σ3) rfl ?_
  refine wk_rV tt_173 rfl rfl ?_
  exact ⟨rfl, (sg_F_t (sg_F_r [4035, 5036] σ) (sg_F_m (L := [4035, 5036]) hF5 rfl)), hj6⟩
-- NestedVectors$Parser.create
set_option maxRecDepth 8000 in
theorem pj_crt (z : Value) (σ : sg_S) (hj : jm σ) : wx z 2 171 0 [(0, .inr (.inr (.ref 35)))] [] σ (fun v σ' => ∃ q, v = some (.inl q) ∧ sg_F [2, 3, 4, 5, 7, 8, 9, 10, 11, 12, 13, 14, 17, 4035, 5036] σ σ' ∧ jm σ') := by
  refine wk_b tt_171 4 (pc' := 10) (ls' := [(0, .inr (.inr (.ref 35)))]) (st' := [.inl (200), .inl ((sg_g σ 2 16))]) (σ' := σ) rfl ?_
  have r1 := sg_Rg σ 2 16
  refine wk_if2 tt_171 (tgt := 19) rfl rfl (by omega) (by decide) (fun (h2 : (sg_g σ 2 16) < 200) => ?_) (fun (h2 : 200 ≤ (sg_g σ 2 16)) => ?_)
  ·
    have h2_n : ¬ 200 ≤ (sg_g σ 2 16) := by omega
    refine wk_b tt_171 8 (pc' := 37) (ls' := [(0, .inr (.inr (.ref 35)))]) (st' := [.inl ((sg_g σ 36 5)), .inl ((sg_g σ 36 4)), .inr (.inr (.ref 2))]) (σ' := σ) rfl ?_
    rw [show (sg_g σ 36 4) = 260 from by rw [hj.1]]
    have r3 := sg_Rg σ 36 5
    refine wk_call tt_171 rfl rfl rfl rfl rfl tt_204 rfl (by decide) (bp_0 z σ (260) ((sg_g σ 36 5))) (fun w4 σ5 hq6 => ?_)
    obtain ⟨⟨q8, rfl⟩, hF7⟩ := hq6
    refine wk_b tt_171 8 (pc' := 56) (ls' := [(1, .inl (q8)), (0, .inr (.inr (.ref 35)))]) (st' := [.inl ((sg_g σ5 36 6)), .inl (q8), .inr (.inr (.ref 5))]) (σ' := σ5) rfl ?_
    have r9 := sg_Rg σ 36 6
    rw [show (sg_g σ5 36 6) = (sg_g σ 36 6) from by rw [sg_F_ga hF7 rfl]]
    refine wk_callp (v0 := none) (σ1 := (sx_put σ5 5 200 (sg_n (q8)) ((sg_g σ 36 6)))) tt_171 rfl rfl rfl rfl rfl tt_21 rfl (by decide) (pt_i z σ5 5 200 (q8) ((sg_g σ 36 6)) rfl (by decide)) ?_
    refine wk_b tt_171 7 (pc' := 74) (ls' := [(1, .inl (q8)), (0, .inr (.inr (.ref 35)))]) (st' := [.inr (.inl ((sg_gl (sx_put σ5 5 200 (sg_n (q8)) ((sg_g σ 36 6))) 36 7))), .inl (q8), .inr (.inr (.ref 17))]) (σ' := (sx_put σ5 5 200 (sg_n (q8)) ((sg_g σ 36 6)))) rfl ?_
    rw [show (sg_gl (sx_put σ5 5 200 (sg_n (q8)) ((sg_g σ 36 6))) 36 7) = (sg_gl σ 36 7) from by rw [sx_putx_c _ _ _ _ _ _ _ (by decide), sg_F_gal hF7 rfl]]
    refine wk_callp (v0 := none) (σ1 := (sx_putl (sx_put σ5 5 200 (sg_n (q8)) ((sg_g σ 36 6))) 17 200 (sg_n (q8)) ((sg_gl σ 36 7)))) tt_171 rfl rfl rfl rfl rfl tt_22 rfl (by decide) (pt_l z (sx_put σ5 5 200 (sg_n (q8)) ((sg_g σ 36 6))) 17 200 (q8) ((sg_gl σ 36 7)) rfl (by decide)) ?_
    refine wk_b tt_171 2 (pc' := 81) (ls' := [(1, .inl (q8)), (0, .inr (.inr (.ref 35)))]) (st' := [.inr (.inr (.ref 36))]) (σ' := (sx_putl (sx_put σ5 5 200 (sg_n (q8)) ((sg_g σ 36 6))) 17 200 (sg_n (q8)) ((sg_gl σ 36 7)))) rfl ?_
    refine wk_call tt_171 rfl rfl rfl rfl rfl tt_195 rfl (by decide) (px_advJ z (sx_putl (sx_put σ5 5 200 (sg_n (q8)) ((sg_g σ 36 6))) 17 200 (sg_n (q8)) ((sg_gl σ 36 7))) (jm_ag hj (ag_xpl (ag_xp (ag_t (tkq_F hF7 rfl) (ag_r _ _)) rfl _ _ _) rfl _ _ _))) (fun w10 σ11 hq12 => ?_)
    obtain ⟨rfl, hF13, hj14⟩ := hq12
    refine wk_b tt_171 1 (pc' := 85) (ls' := [(1, .inl (q8)), (0, .inr (.inr (.ref 35)))]) (st' := [.inl (q8)]) (σ' := σ11) rfl ?_
    refine wk_rI tt_171 rfl rfl ?_
    exact ⟨_, rfl, (sg_F_t (sg_F_pl (sg_F_p (sg_F_t (sg_F_r [2, 3, 4, 5, 7, 8, 9, 10, 11, 12, 13, 14, 17, 4035, 5036] σ) (sg_F_m (L := [2, 3, 4, 5, 7, 8, 9, 10, 11, 12, 13, 14, 17, 4035, 5036]) hF7 rfl)) rfl _ _ _) rfl _ _ _) (sg_F_m (L := [2, 3, 4, 5, 7, 8, 9, 10, 11, 12, 13, 14, 17, 4035, 5036]) hF13 rfl)), hj14⟩
  ·
    refine wk_b tt_171 1 (pc' := 14) (ls' := [(0, .inr (.inr (.ref 35)))]) (st' := [.inr (.inr (.ref 35))]) (σ' := σ) rfl ?_
    refine wk_call tt_171 rfl rfl rfl rfl rfl tt_175 rfl (by decide) (px_failJ z σ hj) (fun w15 σ16 hq17 => ?_)
    obtain ⟨rfl, hF18, hj19⟩ := hq17
    refine wk_b tt_171 1 (pc' := 18) (ls' := [(0, .inr (.inr (.ref 35)))]) (st' := [.inl ((-1))]) (σ' := σ16) rfl ?_
    refine wk_rI tt_171 rfl rfl ?_
    exact ⟨_, rfl, (sg_F_t (sg_F_r [2, 3, 4, 5, 7, 8, 9, 10, 11, 12, 13, 14, 17, 4035, 5036] σ) (sg_F_m (L := [2, 3, 4, 5, 7, 8, 9, 10, 11, 12, 13, 14, 17, 4035, 5036]) hF18 rfl)), hj19⟩
-- NestedVectors$Parser.isProduct
set_option maxRecDepth 8000 in
theorem px_isP (z : Value) (σ : sg_S) (a0 : Int) (ra : sg_R a0) : wx z 0 177 0 [(0, .inl (a0))] [] σ (fun v σ' => σ' = σ ∧ (v = some (.inl 1) ∧ (a0 = 42 ∨ a0 = 47 ∨ a0 = 37) ∨ v = some (.inl 0) ∧ ¬ (a0 = 42 ∨ a0 = 47 ∨ a0 = 37))) := by
  refine wk_b tt_177 2 (pc' := 3) (ls' := [(0, .inl (a0))]) (st' := [.inl (42), .inl (a0)]) (σ' := σ) rfl ?_
  refine wk_if2 tt_177 (tgt := 18) rfl rfl (by omega) (by decide) (fun (h1 : a0 = 42) => ?_) (fun (h1 : ¬ a0 = 42) => ?_)
  ·
    refine wk_b tt_177 2 (pc' := 23) (ls' := [(0, .inl (a0))]) (st' := [.inl (1)]) (σ' := σ) rfl ?_
    refine wk_rZ tt_177 rfl rfl (by decide) ?_
    first | exact ⟨rfl, Or.inl ⟨rfl, by omega⟩⟩ | exact ⟨rfl, Or.inr ⟨rfl, by omega⟩⟩
  ·
    refine wk_b tt_177 2 (pc' := 9) (ls' := [(0, .inl (a0))]) (st' := [.inl (47), .inl (a0)]) (σ' := σ) rfl ?_
    refine wk_if2 tt_177 (tgt := 18) rfl rfl (by omega) (by decide) (fun (h2 : a0 = 47) => ?_) (fun (h2 : ¬ a0 = 47) => ?_)
    ·
      refine wk_b tt_177 2 (pc' := 23) (ls' := [(0, .inl (a0))]) (st' := [.inl (1)]) (σ' := σ) rfl ?_
      refine wk_rZ tt_177 rfl rfl (by decide) ?_
      first | exact ⟨rfl, Or.inl ⟨rfl, by omega⟩⟩ | exact ⟨rfl, Or.inr ⟨rfl, by omega⟩⟩
    ·
      refine wk_b tt_177 2 (pc' := 15) (ls' := [(0, .inl (a0))]) (st' := [.inl (37), .inl (a0)]) (σ' := σ) rfl ?_
      refine wk_if2 tt_177 (tgt := 22) rfl rfl (by omega) (by decide) (fun (h3 : ¬ a0 = 37) => ?_) (fun (h3 : a0 = 37) => ?_)
      ·
        refine wk_b tt_177 1 (pc' := 23) (ls' := [(0, .inl (a0))]) (st' := [.inl (0)]) (σ' := σ) rfl ?_
        refine wk_rZ tt_177 rfl rfl (by decide) ?_
        first | exact ⟨rfl, Or.inl ⟨rfl, by omega⟩⟩ | exact ⟨rfl, Or.inr ⟨rfl, by omega⟩⟩
      ·
        refine wk_b tt_177 2 (pc' := 23) (ls' := [(0, .inl (a0))]) (st' := [.inl (1)]) (σ' := σ) rfl ?_
        refine wk_rZ tt_177 rfl rfl (by decide) ?_
        first | exact ⟨rfl, Or.inl ⟨rfl, by omega⟩⟩ | exact ⟨rfl, Or.inr ⟨rfl, by omega⟩⟩
-- NestedVectors$Parser.atom
set_option maxRecDepth 8000 in
theorem pj_atom (z : Value) (σ : sg_S) (a1 : Int) (hj : jm σ) : wx z 2 167 0 [(0, .inr (.inr (.ref 35))), (1, .inl (a1))] [] σ (fun v σ' => ∃ q, v = some (.inl q) ∧ sg_F [4035, 5036] σ σ' ∧ jm σ') := by
  refine wk_b tt_167 6 (pc' := 12) (ls' := [(2, .inl ((sg_g σ 36 4))), (0, .inr (.inr (.ref 35))), (1, .inl (a1))]) (st' := [.inl (257), .inl ((sg_g σ 36 4))]) (σ' := σ) rfl ?_
  rw [show (sg_g σ 36 4) = 260 from by rw [hj.1]]
  refine wk_if2 tt_167 (tgt := 20) rfl rfl (by decide) (by decide) (fun _ => ?_) (fun (h : 260 = 257) => absurd h (by decide))
  refine wk_b tt_167 2 (pc' := 24) (ls' := [(2, .inl (260)), (0, .inr (.inr (.ref 35))), (1, .inl (a1))]) (st' := [.inl (258), .inl (260)]) (σ' := σ) rfl ?_
  refine wk_if2 tt_167 (tgt := 41) rfl rfl (by decide) (by decide) (fun (h : 260 = 258) => absurd h (by decide)) (fun _ => ?_)
  refine wk_b tt_167 2 (pc' := 31) (ls' := [(2, .inl (260)), (0, .inr (.inr (.ref 35))), (1, .inl (a1))]) (st' := [.inl (267), .inl (260)]) (σ' := σ) rfl ?_
  refine wk_if2 tt_167 (tgt := 48) rfl rfl (by decide) (by decide) (fun _ => ?_) (fun (h : 267 ≤ 260) => absurd h (by decide))
  refine wk_b tt_167 2 (pc' := 51) (ls' := [(2, .inl (260)), (0, .inr (.inr (.ref 35))), (1, .inl (a1))]) (st' := [.inl (40), .inl (260)]) (σ' := σ) rfl ?_
  refine wk_if2 tt_167 (tgt := 85) rfl rfl (by decide) (by decide) (fun _ => ?_) (fun (h : 260 = 40) => absurd h (by decide))
  refine wk_b tt_167 2 (pc' := 88) (ls' := [(2, .inl (260)), (0, .inr (.inr (.ref 35))), (1, .inl (a1))]) (st' := [.inl (91), .inl (260)]) (σ' := σ) rfl ?_
  refine wk_if2 tt_167 (tgt := 105) rfl rfl (by decide) (by decide) (fun _ => ?_) (fun (h : 260 = 91) => absurd h (by decide))
  refine wk_b tt_167 2 (pc' := 108) (ls' := [(2, .inl (260)), (0, .inr (.inr (.ref 35))), (1, .inl (a1))]) (st' := [.inl (123), .inl (260)]) (σ' := σ) rfl ?_
  refine wk_if2 tt_167 (tgt := 125) rfl rfl (by decide) (by decide) (fun _ => ?_) (fun (h : 260 = 123) => absurd h (by decide))
  refine wk_b tt_167 1 (pc' := 126) (ls' := [(2, .inl (260)), (0, .inr (.inr (.ref 35))), (1, .inl (a1))]) (st' := [.inr (.inr (.ref 35))]) (σ' := σ) rfl ?_
  refine wk_call tt_167 rfl rfl rfl rfl rfl tt_175 rfl (by decide) (px_failJ z σ hj) (fun w7 σ8 hq9 => ?_)
  obtain ⟨rfl, hF10, hj11⟩ := hq9
  refine wk_b tt_167 1 (pc' := 130) (ls' := [(2, .inl (260)), (0, .inr (.inr (.ref 35))), (1, .inl (a1))]) (st' := [.inl ((-1))]) (σ' := σ8) rfl ?_
  refine wk_rI tt_167 rfl rfl ?_
  exact ⟨_, rfl, (sg_F_t (sg_F_r [4035, 5036] σ) (sg_F_m (L := [4035, 5036]) hF10 rfl)), hj11⟩
-- NestedVectors$Parser.item
set_option maxRecDepth 8000 in
theorem pj_item (z : Value) (σ : sg_S) (a1 : Int) (hj : jm σ) : wx z 3 178 0 [(0, .inr (.inr (.ref 35))), (1, .inl (a1))] [] σ (fun v σ' => ∃ q, v = some (.inl q) ∧ sg_F [4035, 5036] σ σ' ∧ jm σ') := by
  refine wk_b tt_178 2 (pc' := 2) (ls' := [(0, .inr (.inr (.ref 35))), (1, .inl (a1))]) (st' := [.inl (a1), .inr (.inr (.ref 35))]) (σ' := σ) rfl ?_
  refine wk_call tt_178 rfl rfl rfl rfl rfl tt_167 rfl (by decide) (pj_atom z σ (a1) hj) (fun w1 σ2 hq3 => ?_)
  obtain ⟨q6, rfl, hF4, hj5⟩ := hq3
  refine wk_b tt_178 3 (pc' := 8) (ls' := [(3, .inl (0)), (2, .inl (q6)), (0, .inr (.inr (.ref 35))), (1, .inl (a1))]) (st' := []) (σ' := σ2) rfl ?_
  refine wk_b tt_178 2 (pc' := 12) (ls' := [(3, .inl (0)), (2, .inl (q6)), (0, .inr (.inr (.ref 35))), (1, .inl (a1))]) (st' := [.inl (200), .inl (0)]) (σ' := σ2) rfl ?_
  refine wk_if2 tt_178 (tgt := 68) rfl rfl (by decide) (by decide) (fun (h : 200 < 0) => absurd h (by decide)) (fun _ => ?_)
  refine wk_b tt_178 4 (pc' := 24) (ls' := [(3, .inl (0)), (2, .inl (q6)), (0, .inr (.inr (.ref 35))), (1, .inl (a1))]) (st' := [.inl (91), .inl ((sg_g σ2 36 4))]) (σ' := σ2) rfl ?_
  rw [show (sg_g σ2 36 4) = 260 from by rw [hj5.1]]
  refine wk_if2 tt_178 (tgt := 68) rfl rfl (by decide) (by decide) (fun _ => ?_) (fun (h : 260 = 91) => absurd h (by decide))
  refine wk_b tt_178 1 (pc' := 69) (ls' := [(3, .inl (0)), (2, .inl (q6)), (0, .inr (.inr (.ref 35))), (1, .inl (a1))]) (st' := [.inl (q6)]) (σ' := σ2) rfl ?_
  refine wk_rI tt_178 rfl rfl ?_
  exact ⟨_, rfl, (sg_F_t (sg_F_r [4035, 5036] σ) (sg_F_m (L := [4035, 5036]) hF4 rfl)), hj5⟩
-- NestedVectors$Parser.unary
set_option maxRecDepth 8000 in
theorem pj_unary (z : Value) (σ : sg_S) (a1 : Int) (hj : jm σ) : wx z 4 189 0 [(0, .inr (.inr (.ref 35))), (1, .inl (a1))] [] σ (fun v σ' => ∃ q, v = some (.inl q) ∧ sg_F [4035, 5036] σ σ' ∧ jm σ') := by
  refine wk_b tt_189 4 (pc' := 9) (ls' := [(0, .inr (.inr (.ref 35))), (1, .inl (a1))]) (st' := [.inl (35), .inl ((sg_g σ 36 4))]) (σ' := σ) rfl ?_
  rw [show (sg_g σ 36 4) = 260 from by rw [hj.1]]
  refine wk_if2 tt_189 (tgt := 20) rfl rfl (by decide) (by decide) (fun _ => ?_) (fun (h : 260 = 35) => absurd h (by decide))
  refine wk_b tt_189 2 (pc' := 22) (ls' := [(0, .inr (.inr (.ref 35))), (1, .inl (a1))]) (st' := [.inl (a1), .inr (.inr (.ref 35))]) (σ' := σ) rfl ?_
  refine wk_call tt_189 rfl rfl rfl rfl rfl tt_178 rfl (by decide) (pj_item z σ (a1) hj) (fun w2 σ3 hq4 => ?_)
  obtain ⟨q7, rfl, hF5, hj6⟩ := hq4
  refine wk_rI tt_189 rfl rfl ?_
  exact ⟨_, rfl, (sg_F_t (sg_F_r [4035, 5036] σ) (sg_F_m (L := [4035, 5036]) hF5 rfl)), hj6⟩
-- NestedVectors$Parser.product
set_option maxRecDepth 8000 in
theorem pj_product (z : Value) (σ : sg_S) (a1 : Int) (hj : jm σ) : wx z 5 184 0 [(0, .inr (.inr (.ref 35))), (1, .inl (a1))] [] σ (fun v σ' => ∃ q, v = some (.inl q) ∧ sg_F [4035, 5036] σ σ' ∧ jm σ') := by
  refine wk_b tt_184 2 (pc' := 2) (ls' := [(0, .inr (.inr (.ref 35))), (1, .inl (a1))]) (st' := [.inl (a1), .inr (.inr (.ref 35))]) (σ' := σ) rfl ?_
  refine wk_call tt_184 rfl rfl rfl rfl rfl tt_189 rfl (by decide) (pj_unary z σ (a1) hj) (fun w1 σ2 hq3 => ?_)
  obtain ⟨q6, rfl, hF4, hj5⟩ := hq3
  refine wk_b tt_184 3 (pc' := 8) (ls' := [(3, .inl (0)), (2, .inl (q6)), (0, .inr (.inr (.ref 35))), (1, .inl (a1))]) (st' := []) (σ' := σ2) rfl ?_
  refine wk_b tt_184 2 (pc' := 12) (ls' := [(3, .inl (0)), (2, .inl (q6)), (0, .inr (.inr (.ref 35))), (1, .inl (a1))]) (st' := [.inl (200), .inl (0)]) (σ' := σ2) rfl ?_
  refine wk_if2 tt_184 (tgt := 53) rfl rfl (by decide) (by decide) (fun (h : 200 < 0) => absurd h (by decide)) (fun _ => ?_)
  refine wk_b tt_184 3 (pc' := 22) (ls' := [(3, .inl (0)), (2, .inl (q6)), (0, .inr (.inr (.ref 35))), (1, .inl (a1))]) (st' := [.inl ((sg_g σ2 36 4))]) (σ' := σ2) rfl ?_
  rw [show (sg_g σ2 36 4) = 260 from by rw [hj5.1]]
  refine wk_callb tt_184 rfl rfl rfl rfl rfl tt_177 rfl (by decide) (px_isP z σ2 (260) (by omega)) (fun (h : 260 = 42 ∨ 260 = 47 ∨ 260 = 37) => absurd h (by decide)) (fun (h : ¬ (260 = 42 ∨ 260 = 47 ∨ 260 = 37)) => ?_)
  refine wk_if tt_184 (tgt := 53) rfl rfl (by decide) (fun _ => ?_) (fun (h : ¬ 0 = 0) => absurd h (by decide))
  refine wk_b tt_184 1 (pc' := 54) (ls' := [(3, .inl (0)), (2, .inl (q6)), (0, .inr (.inr (.ref 35))), (1, .inl (a1))]) (st' := [.inl (q6)]) (σ' := σ2) rfl ?_
  refine wk_rI tt_184 rfl rfl ?_
  exact ⟨_, rfl, (sg_F_t (sg_F_r [4035, 5036] σ) (sg_F_m (L := [4035, 5036]) hF4 rfl)), hj5⟩
-- NestedVectors$Parser.sum
set_option maxRecDepth 8000 in
theorem pj_sum (z : Value) (σ : sg_S) (a1 : Int) (hj : jm σ) : wx z 6 186 0 [(0, .inr (.inr (.ref 35))), (1, .inl (a1))] [] σ (fun v σ' => ∃ q, v = some (.inl q) ∧ sg_F [4035, 5036] σ σ' ∧ jm σ') := by
  refine wk_b tt_186 2 (pc' := 2) (ls' := [(0, .inr (.inr (.ref 35))), (1, .inl (a1))]) (st' := [.inl (a1), .inr (.inr (.ref 35))]) (σ' := σ) rfl ?_
  refine wk_call tt_186 rfl rfl rfl rfl rfl tt_184 rfl (by decide) (pj_product z σ (a1) hj) (fun w1 σ2 hq3 => ?_)
  obtain ⟨q6, rfl, hF4, hj5⟩ := hq3
  refine wk_b tt_186 3 (pc' := 8) (ls' := [(3, .inl (0)), (2, .inl (q6)), (0, .inr (.inr (.ref 35))), (1, .inl (a1))]) (st' := []) (σ' := σ2) rfl ?_
  refine wk_b tt_186 2 (pc' := 12) (ls' := [(3, .inl (0)), (2, .inl (q6)), (0, .inr (.inr (.ref 35))), (1, .inl (a1))]) (st' := [.inl (200), .inl (0)]) (σ' := σ2) rfl ?_
  refine wk_if2 tt_186 (tgt := 64) rfl rfl (by decide) (by decide) (fun (h : 200 < 0) => absurd h (by decide)) (fun _ => ?_)
  refine wk_b tt_186 4 (pc' := 24) (ls' := [(3, .inl (0)), (2, .inl (q6)), (0, .inr (.inr (.ref 35))), (1, .inl (a1))]) (st' := [.inl (43), .inl ((sg_g σ2 36 4))]) (σ' := σ2) rfl ?_
  rw [show (sg_g σ2 36 4) = 260 from by rw [hj5.1]]
  refine wk_if2 tt_186 (tgt := 39) rfl rfl (by decide) (by decide) (fun (h : 260 = 43) => absurd h (by decide)) (fun _ => ?_)
  refine wk_b tt_186 4 (pc' := 36) (ls' := [(3, .inl (0)), (2, .inl (q6)), (0, .inr (.inr (.ref 35))), (1, .inl (a1))]) (st' := [.inl (45), .inl ((sg_g σ2 36 4))]) (σ' := σ2) rfl ?_
  rw [show (sg_g σ2 36 4) = 260 from by rw [hj5.1]]
  refine wk_if2 tt_186 (tgt := 64) rfl rfl (by decide) (by decide) (fun _ => ?_) (fun (h : 260 = 45) => absurd h (by decide))
  refine wk_b tt_186 1 (pc' := 65) (ls' := [(3, .inl (0)), (2, .inl (q6)), (0, .inr (.inr (.ref 35))), (1, .inl (a1))]) (st' := [.inl (q6)]) (σ' := σ2) rfl ?_
  refine wk_rI tt_186 rfl rfl ?_
  exact ⟨_, rfl, (sg_F_t (sg_F_r [4035, 5036] σ) (sg_F_m (L := [4035, 5036]) hF4 rfl)), hj5⟩
-- NestedVectors$Parser.comparison
set_option maxRecDepth 8000 in
theorem pj_comparison (z : Value) (σ : sg_S) (a1 : Int) (hj : jm σ) : wx z 7 170 0 [(0, .inr (.inr (.ref 35))), (1, .inl (a1))] [] σ (fun v σ' => ∃ q, v = some (.inl q) ∧ sg_F [4035, 5036] σ σ' ∧ jm σ') := by
  refine wk_b tt_170 2 (pc' := 2) (ls' := [(0, .inr (.inr (.ref 35))), (1, .inl (a1))]) (st' := [.inl (a1), .inr (.inr (.ref 35))]) (σ' := σ) rfl ?_
  refine wk_call tt_170 rfl rfl rfl rfl rfl tt_186 rfl (by decide) (pj_sum z σ (a1) hj) (fun w1 σ2 hq3 => ?_)
  obtain ⟨q6, rfl, hF4, hj5⟩ := hq3
  refine wk_b tt_170 5 (pc' := 15) (ls' := [(2, .inl (q6)), (0, .inr (.inr (.ref 35))), (1, .inl (a1))]) (st' := [.inl (60), .inl ((sg_g σ2 36 4))]) (σ' := σ2) rfl ?_
  rw [show (sg_g σ2 36 4) = 260 from by rw [hj5.1]]
  refine wk_if2 tt_170 (tgt := 32) rfl rfl (by decide) (by decide) (fun (h : 260 = 60) => absurd h (by decide)) (fun _ => ?_)
  refine wk_b tt_170 4 (pc' := 27) (ls' := [(2, .inl (q6)), (0, .inr (.inr (.ref 35))), (1, .inl (a1))]) (st' := [.inl (61), .inl ((sg_g σ2 36 4))]) (σ' := σ2) rfl ?_
  rw [show (sg_g σ2 36 4) = 260 from by rw [hj5.1]]
  refine wk_if2 tt_170 (tgt := 32) rfl rfl (by decide) (by decide) (fun (h : 260 = 61) => absurd h (by decide)) (fun _ => ?_)
  refine wk_b tt_170 1 (pc' := 31) (ls' := [(2, .inl (q6)), (0, .inr (.inr (.ref 35))), (1, .inl (a1))]) (st' := [.inl (q6)]) (σ' := σ2) rfl ?_
  refine wk_rI tt_170 rfl rfl ?_
  exact ⟨_, rfl, (sg_F_t (sg_F_r [4035, 5036] σ) (sg_F_m (L := [4035, 5036]) hF4 rfl)), hj5⟩
-- NestedVectors$Parser.expression
set_option maxRecDepth 8000 in
theorem pj_expression (z : Value) (σ : sg_S) (a1 : Int) (hj : jm σ) : wx z 8 174 0 [(0, .inr (.inr (.ref 35))), (1, .inl (a1))] [] σ (fun v σ' => ∃ q, v = some (.inl q) ∧ sg_F [4035, 5036] σ σ' ∧ jm σ') := by
  refine wk_b tt_174 4 (pc' := 10) (ls' := [(0, .inr (.inr (.ref 35))), (1, .inl (a1))]) (st' := [.inl (262), .inl ((sg_g σ 36 4))]) (σ' := σ) rfl ?_
  rw [show (sg_g σ 36 4) = 260 from by rw [hj.1]]
  refine wk_if2 tt_174 (tgt := 27) rfl rfl (by decide) (by decide) (fun _ => ?_) (fun (h : 260 = 262) => absurd h (by decide))
  refine wk_b tt_174 4 (pc' := 37) (ls' := [(0, .inr (.inr (.ref 35))), (1, .inl (a1))]) (st' := [.inl (264), .inl ((sg_g σ 36 4))]) (σ' := σ) rfl ?_
  rw [show (sg_g σ 36 4) = 260 from by rw [hj.1]]
  refine wk_if2 tt_174 (tgt := 54) rfl rfl (by decide) (by decide) (fun _ => ?_) (fun (h : 260 = 264) => absurd h (by decide))
  refine wk_b tt_174 2 (pc' := 56) (ls' := [(0, .inr (.inr (.ref 35))), (1, .inl (a1))]) (st' := [.inl (a1), .inr (.inr (.ref 35))]) (σ' := σ) rfl ?_
  refine wk_call tt_174 rfl rfl rfl rfl rfl tt_170 rfl (by decide) (pj_comparison z σ (a1) hj) (fun w3 σ4 hq5 => ?_)
  obtain ⟨q8, rfl, hF6, hj7⟩ := hq5
  refine wk_rI tt_174 rfl rfl ?_
  exact ⟨_, rfl, (sg_F_t (sg_F_r [4035, 5036] σ) (sg_F_m (L := [4035, 5036]) hF6 rfl)), hj7⟩
-- NestedVectors$Parser.list
set_option maxRecDepth 8000 in
theorem pj_list (z : Value) (σ : sg_S) (a1 : Int) (a2 : Int) (hj : jm σ) : wx z 9 180 0 [(0, .inr (.inr (.ref 35))), (1, .inl (a1)), (2, .inl (a2))] [] σ (fun v σ' => v = none ∧ sg_F [7, 8, 9, 10, 4035, 5036] σ σ' ∧ jm σ') := by
  refine wk_b tt_180 2 (pc' := 2) (ls' := [(3, .inl (0)), (0, .inr (.inr (.ref 35))), (1, .inl (a1)), (2, .inl (a2))]) (st' := []) (σ' := σ) rfl ?_
  refine wk_b tt_180 2 (pc' := 6) (ls' := [(3, .inl (0)), (0, .inr (.inr (.ref 35))), (1, .inl (a1)), (2, .inl (a2))]) (st' := [.inl (200), .inl (0)]) (σ' := σ) rfl ?_
  refine wk_if2 tt_180 (tgt := 48) rfl rfl (by decide) (by decide) (fun (h : 200 < 0) => absurd h (by decide)) (fun _ => ?_)
  refine wk_b tt_180 5 (pc' := 16) (ls' := [(3, .inl (0)), (0, .inr (.inr (.ref 35))), (1, .inl (a1)), (2, .inl (a2))]) (st' := [.inl (a2), .inr (.inr (.ref 35)), .inl (a1), .inr (.inr (.ref 2))]) (σ' := σ) rfl ?_
  refine wk_call tt_180 rfl rfl rfl rfl rfl tt_174 rfl (by decide) (pj_expression z σ (a2) hj) (fun w2 σ3 hq4 => ?_)
  obtain ⟨q7, rfl, hF5, hj6⟩ := hq4
  refine wk_call tt_180 rfl rfl rfl rfl rfl tt_205 rfl (by decide) (bp_1 z σ3 (a1) (q7)) (fun w8 σ9 hq10 => ?_)
  obtain ⟨rfl, hF11⟩ := hq10
  refine wk_b tt_180 4 (pc' := 31) (ls' := [(3, .inl (0)), (0, .inr (.inr (.ref 35))), (1, .inl (a1)), (2, .inl (a2))]) (st' := [.inl (44), .inl ((sg_g σ9 36 4))]) (σ' := σ9) rfl ?_
  rw [show (sg_g σ9 36 4) = 260 from by rw [sg_F_ga hF11 rfl, hj6.1]]
  refine wk_if2 tt_180 (tgt := 35) rfl rfl (by decide) (by decide) (fun (h : 260 = 44) => absurd h (by decide)) (fun _ => ?_)
  refine wk_rV tt_180 rfl rfl ?_
  exact ⟨rfl, (sg_F_t (sg_F_t (sg_F_r [7, 8, 9, 10, 4035, 5036] σ) (sg_F_m (L := [7, 8, 9, 10, 4035, 5036]) hF5 rfl)) (sg_F_m (L := [7, 8, 9, 10, 4035, 5036]) hF11 rfl)), (jm_ag hj6 (ag_t (tkq_F hF11 rfl) (ag_r _ _)))⟩
-- NestedVectors$Parser.generators
set_option maxRecDepth 8000 in
theorem pj_gens (z : Value) (σ : sg_S) (a1 : Int) (a2 : Int) (hj : jm σ) : wx z 2 176 0 [(0, .inr (.inr (.ref 35))), (1, .inl (a1)), (2, .inl (a2))] [] σ (fun v σ' => v = none ∧ sg_F [4035, 5036] σ σ' ∧ jm σ') := by
  refine wk_b tt_176 2 (pc' := 2) (ls' := [(3, .inl (0)), (0, .inr (.inr (.ref 35))), (1, .inl (a1)), (2, .inl (a2))]) (st' := []) (σ' := σ) rfl ?_
  refine wk_b tt_176 2 (pc' := 4) (ls' := [(3, .inl (0)), (0, .inr (.inr (.ref 35))), (1, .inl (a1)), (2, .inl (a2))]) (st' := [.inl (4), .inl (0)]) (σ' := σ) rfl ?_
  refine wk_if2 tt_176 (tgt := 147) rfl rfl (by decide) (by decide) (fun (h : 4 < 0) => absurd h (by decide)) (fun _ => ?_)
  refine wk_b tt_176 4 (pc' := 17) (ls' := [(3, .inl (0)), (0, .inr (.inr (.ref 35))), (1, .inl (a1)), (2, .inl (a2))]) (st' := [.inl (258), .inl ((sg_g σ 36 4))]) (σ' := σ) rfl ?_
  rw [show (sg_g σ 36 4) = 260 from by rw [hj.1]]
  refine wk_if2 tt_176 (tgt := 25) rfl rfl (by decide) (by decide) (fun _ => ?_) (fun (h : 260 = 258) => absurd h (by decide))
  refine wk_b tt_176 1 (pc' := 26) (ls' := [(3, .inl (0)), (0, .inr (.inr (.ref 35))), (1, .inl (a1)), (2, .inl (a2))]) (st' := [.inr (.inr (.ref 35))]) (σ' := σ) rfl ?_
  refine wk_call tt_176 rfl rfl rfl rfl rfl tt_175 rfl (by decide) (px_failJ z σ hj) (fun w3 σ4 hq5 => ?_)
  obtain ⟨rfl, hF6, hj7⟩ := hq5
  refine wk_rV tt_176 rfl rfl ?_
  exact ⟨rfl, (sg_F_t (sg_F_r [4035, 5036] σ) (sg_F_m (L := [4035, 5036]) hF6 rfl)), hj7⟩
-- NestedVectors$Parser.expect
set_option maxRecDepth 8000 in
theorem px_exp (z : Value) (σ : sg_S) (a1 : Int) (c : tkC) (hc : tkOK c) (i : Nat) (hk : tk c σ i) (hne : sg_R a1 ∧ ¬ a1 = 256 ∧ ¬ a1 = 259) : wx z 5 173 0 [(0, .inr (.inr (.ref 35))), (1, .inl (a1))] [] σ (fun v σ' => v = none ∧ sg_F [4035, 4036, 5036, 6036, 7036, 8036] σ σ' ∧ ((tK c (i) = a1 ∧ tk c σ' (i + 1)) ∨ (¬ tK c (i) = a1 ∧ jm σ'))) := by
  refine wk_b tt_173 4 (pc' := 8) (ls' := [(0, .inr (.inr (.ref 35))), (1, .inl (a1))]) (st' := [.inl (a1), .inl ((sg_g σ 36 4))]) (σ' := σ) rfl ?_
  have r1 := tK_r hc (i)
  rw [show (sg_g σ 36 4) = (tK c (i)) from by rw [hk.2.2.2.2.1]]
  refine wk_if2 tt_173 (tgt := 18) rfl rfl (by omega) (by omega) (fun (h2 : (tK c (i)) = a1) => ?_) (fun (h2 : ¬ (tK c (i)) = a1) => ?_)
  ·
    refine wk_b tt_173 2 (pc' := 22) (ls' := [(0, .inr (.inr (.ref 35))), (1, .inl (a1))]) (st' := [.inl (256), .inl (a1)]) (σ' := σ) rfl ?_
    refine wk_if2 tt_173 (tgt := 32) rfl rfl (by omega) (by decide) (fun (h : a1 = 256) => absurd h (by omega)) (fun (h3 : ¬ a1 = 256) => ?_)
    refine wk_b tt_173 2 (pc' := 29) (ls' := [(0, .inr (.inr (.ref 35))), (1, .inl (a1))]) (st' := [.inr (.inr (.ref 36))]) (σ' := σ) rfl ?_
    refine wk_call tt_173 rfl rfl rfl rfl rfl tt_195 rfl (by decide) (tk_nx z σ c hc (i) hk (by omega)) (fun w4 σ5 hq6 => ?_)
    obtain ⟨rfl, hF7, hj8⟩ := hq6
    refine wk_rV tt_173 rfl rfl ?_
    exact ⟨rfl, (sg_F_t (sg_F_r [4035, 4036, 5036, 6036, 7036, 8036] σ) (sg_F_m (L := [4035, 4036, 5036, 6036, 7036, 8036]) hF7 rfl)), Or.inl ⟨by assumption, hj8⟩⟩
  ·
    refine wk_b tt_173 1 (pc' := 12) (ls' := [(0, .inr (.inr (.ref 35))), (1, .inl (a1))]) (st' := [.inr (.inr (.ref 35))]) (σ' := σ) rfl ?_
    refine wk_call tt_173 rfl rfl rfl rfl rfl tt_175 rfl (by decide) (px_failR z σ c hc (i) hk) (fun w9 σ10 hq11 => ?_)
    obtain ⟨rfl, hF12, hj13⟩ := hq11
    refine wk_b tt_173 1 (pc' := 32) (ls' := [(0, .inr (.inr (.ref 35))), (1, .inl (a1))]) (st' := []) (σ' := σ10) rfl ?_
    refine wk_rV tt_173 rfl rfl ?_
    exact ⟨rfl, (sg_F_t (sg_F_r [4035, 4036, 5036, 6036, 7036, 8036] σ) (sg_F_m (L := [4035, 4036, 5036, 6036, 7036, 8036]) hF12 rfl)), Or.inr ⟨by assumption, hj13⟩⟩
-- NestedVectors$Parser.create
set_option maxRecDepth 8000 in
theorem px_crt (z : Value) (σ : sg_S) (c : tkC) (hc : tkOK c) (i : Nat) (τ : sg_S) (ht : te σ τ) (hk : tk c σ i) (h259 : ¬ tK c (i) = 259) : wx z 5 171 0 [(0, .inr (.inr (.ref 35)))] [] σ (pq pL0 c (pCreate c i τ) σ) := by
  refine wk_b tt_171 4 (pc' := 10) (ls' := [(0, .inr (.inr (.ref 35)))]) (st' := [.inl (200), .inl ((sg_g σ 2 16))]) (σ' := σ) rfl ?_
  have r1 := sg_Rg τ 2 16
  rw [show (sg_g σ 2 16) = (sg_g τ 2 16) from by rw [ag_g ht rfl]]
  refine wk_if2 tt_171 (tgt := 19) rfl rfl (by omega) (by decide) (fun (h2 : (sg_g τ 2 16) < 200) => ?_) (fun (h2 : 200 ≤ (sg_g τ 2 16)) => ?_)
  ·
    have h2_n : ¬ 200 ≤ (sg_g τ 2 16) := by omega
    refine wk_b tt_171 8 (pc' := 37) (ls' := [(0, .inr (.inr (.ref 35)))]) (st' := [.inl ((sg_g σ 36 5)), .inl ((sg_g σ 36 4)), .inr (.inr (.ref 2))]) (σ' := σ) rfl ?_
    have r3 := tK_r hc (i)
    rw [show (sg_g σ 36 4) = (tK c (i)) from by rw [hk.2.2.2.2.1]]
    have r4 := tPl_r hc (i)
    have r5 := hc.2.1
    rw [show (sg_g σ 36 5) = (tPl c (i)) from by rw [hk.2.2.2.2.2.1]]
    refine wk_call tt_171 rfl rfl rfl rfl rfl tt_204 rfl (by decide) (px_add z σ ((tK c (i))) ((tPl c (i))) τ ht (by first | omega | exact sg_Rg _ _ _) (by first | omega | exact sg_Rg _ _ _)) (fun w6 σ7 hq8 => ?_)
    obtain ⟨rfl, hF9, ht10⟩ := hq8
    refine wk_b tt_171 8 (pc' := 56) (ls' := [(1, .inl ((sg_g τ 2 16))), (0, .inr (.inr (.ref 35)))]) (st' := [.inl ((sg_g σ7 36 6)), .inl ((sg_g τ 2 16)), .inr (.inr (.ref 5))]) (σ' := σ7) rfl ?_
    have r11 : sg_R (tN c i) := by rw [← hk.2.2.2.2.2.2.2.2]; exact sg_Rg σ 36 6
    rw [show (sg_g σ7 36 6) = (tN c i) from by rw [sg_F_ga hF9 rfl, hk.2.2.2.2.2.2.2.2]]
    refine wk_callp (v0 := none) (σ1 := (sx_put σ7 5 200 ((sg_g τ 2 16)) ((tN c i)))) tt_171 rfl rfl rfl rfl rfl tt_21 rfl (by decide) (pt_i0 z σ7 5 200 ((sg_g τ 2 16)) ((tN c i)) rfl (by decide) (by omega)) ?_
    refine wk_b tt_171 7 (pc' := 74) (ls' := [(1, .inl ((sg_g τ 2 16))), (0, .inr (.inr (.ref 35)))]) (st' := [.inr (.inl ((sg_gl (sx_put σ7 5 200 ((sg_g τ 2 16)) ((tN c i))) 36 7))), .inl ((sg_g τ 2 16)), .inr (.inr (.ref 17))]) (σ' := (sx_put σ7 5 200 ((sg_g τ 2 16)) ((tN c i)))) rfl ?_
    rw [show (sg_gl (sx_put σ7 5 200 ((sg_g τ 2 16)) ((tN c i))) 36 7) = (tW c (i)) from by rw [sx_putx_c _ _ _ _ _ _ _ (by decide), sg_F_gal hF9 rfl, hk.2.2.2.2.2.2.1 (by omega)]]
    refine wk_callp (v0 := none) (σ1 := (sx_putl (sx_put σ7 5 200 ((sg_g τ 2 16)) ((tN c i))) 17 200 ((sg_g τ 2 16)) ((tW c (i))))) tt_171 rfl rfl rfl rfl rfl tt_22 rfl (by decide) (pt_l0 z (sx_put σ7 5 200 ((sg_g τ 2 16)) ((tN c i))) 17 200 ((sg_g τ 2 16)) ((tW c (i))) rfl (by decide) (by omega)) ?_
    refine wk_b tt_171 2 (pc' := 81) (ls' := [(1, .inl ((sg_g τ 2 16))), (0, .inr (.inr (.ref 35)))]) (st' := [.inr (.inr (.ref 36))]) (σ' := (sx_putl (sx_put σ7 5 200 ((sg_g τ 2 16)) ((tN c i))) 17 200 ((sg_g τ 2 16)) ((tW c (i))))) rfl ?_
    refine wk_call tt_171 rfl rfl rfl rfl rfl tt_195 rfl (by decide) (tk_nx z (sx_putl (sx_put σ7 5 200 ((sg_g τ 2 16)) ((tN c i))) 17 200 ((sg_g τ 2 16)) ((tW c (i)))) c hc (i) (tk_ag hk (ag_xpl (ag_xp (ag_t (tkq_F hF9 rfl) (ag_r _ _)) rfl _ _ _) rfl _ _ _)) (by omega)) (fun w12 σ13 hq14 => ?_)
    obtain ⟨rfl, hF15, hj16⟩ := hq14
    refine wk_b tt_171 1 (pc' := 85) (ls' := [(1, .inl ((sg_g τ 2 16))), (0, .inr (.inr (.ref 35)))]) (st' := [.inl ((sg_g τ 2 16))]) (σ' := σ13) rfl ?_
    refine wk_rI tt_171 rfl rfl ?_
    exact ⟨_, rfl, (sg_F_t (sg_F_pl (sg_F_p (sg_F_t (sg_F_r [3, 4, 5, 6, 7, 8, 9, 10, 11, 12, 13, 14, 15, 16, 17, 18, 4035, 4036, 5036, 6036, 7036, 8036, 17002] σ) (sg_F_m (L := [3, 4, 5, 6, 7, 8, 9, 10, 11, 12, 13, 14, 15, 16, 17, 18, 4035, 4036, 5036, 6036, 7036, 8036, 17002]) hF9 rfl)) rfl _ _ _) rfl _ _ _) (sg_F_m (L := [3, 4, 5, 6, 7, 8, 9, 10, 11, 12, 13, 14, 15, 16, 17, 18, 4035, 4036, 5036, 6036, 7036, 8036, 17002]) hF15 rfl)), Or.inl ⟨_, _, ((by simp only [pCreate, h2, h2_n, ↓reduceIte, Int.reduceEq, reduceCtorEq, or_true, true_or, or_false, false_or, and_true, true_and, and_false, false_and, not_true_eq_false, not_false_eq_true, decide_eq_true_eq, or_self, and_self, ite_self, Int.reduceLE])), (by first | omega | exact sg_Rg _ _ _ | decide), (te_F (ag_pl (ag_p ht10 _ _ _ _) _ _ _ _) hF15 rfl), hj16⟩⟩
  ·
    refine wk_b tt_171 1 (pc' := 14) (ls' := [(0, .inr (.inr (.ref 35)))]) (st' := [.inr (.inr (.ref 35))]) (σ' := σ) rfl ?_
    refine wk_call tt_171 rfl rfl rfl rfl rfl tt_175 rfl (by decide) (px_failR z σ c hc (i) hk) (fun w17 σ18 hq19 => ?_)
    obtain ⟨rfl, hF20, hj21⟩ := hq19
    refine wk_b tt_171 1 (pc' := 18) (ls' := [(0, .inr (.inr (.ref 35)))]) (st' := [.inl ((-1))]) (σ' := σ18) rfl ?_
    refine wk_rI tt_171 rfl rfl ?_
    exact ⟨_, rfl, (sg_F_t (sg_F_r [3, 4, 5, 6, 7, 8, 9, 10, 11, 12, 13, 14, 15, 16, 17, 18, 4035, 4036, 5036, 6036, 7036, 8036, 17002] σ) (sg_F_m (L := [3, 4, 5, 6, 7, 8, 9, 10, 11, 12, 13, 14, 15, 16, 17, 18, 4035, 4036, 5036, 6036, 7036, 8036, 17002]) hF20 rfl)), Or.inr ⟨((by simp only [pCreate, h2, ↓reduceIte, Int.reduceEq, reduceCtorEq, or_true, true_or, or_false, false_or, and_true, true_and, and_false, false_and, not_true_eq_false, not_false_eq_true, decide_eq_true_eq, or_self, and_self, ite_self, Int.reduceLE])), hj21⟩⟩
-- NestedVectors$Parser.within
set_option maxRecDepth 8000 in
theorem px_wth (z : Value) (σ : sg_S) (a1 : Int) (c : tkC) (hc : tkOK c) (i : Nat) (hk : tk c σ i) (hn : 0 ≤ a1 ∧ a1 ≤ 12) : wx z 2 190 0 [(0, .inr (.inr (.ref 35))), (1, .inl (a1))] [] σ (fun v σ' => (v = some (.inl 1) ∧ σ' = σ ∧ a1 < 12) ∨ (v = some (.inl 0) ∧ sg_F [4035, 5036] σ σ' ∧ jm σ' ∧ 12 ≤ a1)) := by
  refine wk_b tt_190 2 (pc' := 3) (ls' := [(0, .inr (.inr (.ref 35))), (1, .inl (a1))]) (st' := [.inl (12), .inl (a1)]) (σ' := σ) rfl ?_
  refine wk_if2 tt_190 (tgt := 10) rfl rfl (by omega) (by decide) (fun (h1 : a1 < 12) => ?_) (fun (h1 : 12 ≤ a1) => ?_)
  ·
    refine wk_b tt_190 2 (pc' := 13) (ls' := [(0, .inr (.inr (.ref 35))), (1, .inl (a1))]) (st' := [.inl (12), .inl (a1)]) (σ' := σ) rfl ?_
    refine wk_if2 tt_190 (tgt := 20) rfl rfl (by omega) (by decide) (fun (h2 : 12 ≤ a1) => ?_) (fun (h2 : a1 < 12) => ?_)
    ·
      refine wk_b tt_190 1 (pc' := 21) (ls' := [(0, .inr (.inr (.ref 35))), (1, .inl (a1))]) (st' := [.inl (0)]) (σ' := σ) rfl ?_
      refine wk_rZ tt_190 rfl rfl (by decide) ?_
      first | (exfalso; omega) | exact Or.inl ⟨rfl, rfl, by omega⟩
    ·
      refine wk_b tt_190 2 (pc' := 21) (ls' := [(0, .inr (.inr (.ref 35))), (1, .inl (a1))]) (st' := [.inl (1)]) (σ' := σ) rfl ?_
      refine wk_rZ tt_190 rfl rfl (by decide) ?_
      first | (exfalso; omega) | exact Or.inl ⟨rfl, rfl, by omega⟩
  ·
    refine wk_b tt_190 1 (pc' := 7) (ls' := [(0, .inr (.inr (.ref 35))), (1, .inl (a1))]) (st' := [.inr (.inr (.ref 35))]) (σ' := σ) rfl ?_
    refine wk_call tt_190 rfl rfl rfl rfl rfl tt_175 rfl (by decide) (px_failR z σ c hc (i) hk) (fun w3 σ4 hq5 => ?_)
    obtain ⟨rfl, hF6, hj7⟩ := hq5
    refine wk_b tt_190 2 (pc' := 13) (ls' := [(0, .inr (.inr (.ref 35))), (1, .inl (a1))]) (st' := [.inl (12), .inl (a1)]) (σ' := σ4) rfl ?_
    refine wk_if2 tt_190 (tgt := 20) rfl rfl (by omega) (by decide) (fun (h8 : 12 ≤ a1) => ?_) (fun (h8 : a1 < 12) => ?_)
    ·
      refine wk_b tt_190 1 (pc' := 21) (ls' := [(0, .inr (.inr (.ref 35))), (1, .inl (a1))]) (st' := [.inl (0)]) (σ' := σ4) rfl ?_
      refine wk_rZ tt_190 rfl rfl (by decide) ?_
      first | (exfalso; omega) | exact Or.inr ⟨rfl, hF6, hj7, by omega⟩
    ·
      refine wk_b tt_190 2 (pc' := 21) (ls' := [(0, .inr (.inr (.ref 35))), (1, .inl (a1))]) (st' := [.inl (1)]) (σ' := σ4) rfl ?_
      refine wk_rZ tt_190 rfl rfl (by decide) ?_
      first | (exfalso; omega) | exact Or.inr ⟨rfl, hF6, hj7, by omega⟩
