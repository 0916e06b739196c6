/-! THE PARSER told over tokens: two states alike in some cells; the tokens of a tape; the parser as a function. -/
def ag (q : Nat → Bool) (σ τ : sg_S) : Prop := ∀ a k, q a = true → σ.1 a k = τ.1 a k ∧ σ.2 a k = τ.2 a k
theorem ag_r (q : Nat → Bool) (σ : sg_S) : ag q σ σ := fun _ _ _ => ⟨rfl, rfl⟩
theorem ag_t {q : Nat → Bool} {σ τ ρ : sg_S} (h : ag q σ τ) (h2 : ag q τ ρ) : ag q σ ρ := fun a k ha => ⟨(h a k ha).1.trans (h2 a k ha).1, (h a k ha).2.trans (h2 a k ha).2⟩
theorem ag_w {q : Nat → Bool} {σ τ : sg_S} (h : ag q σ τ) (a : Nat) (k x : Int) : ag q (sg_w σ a k x) (sg_w τ a k x) := fun b j hb => by
  refine ⟨?_, (h b j hb).2⟩
  simp only [sg_w]
  rw [(h b j hb).1]
theorem ag_wl {q : Nat → Bool} {σ τ : sg_S} (h : ag q σ τ) (a : Nat) (k x : Int) : ag q (sg_wl σ a k x) (sg_wl τ a k x) := fun b j hb => by
  refine ⟨(h b j hb).1, ?_⟩
  simp only [sg_wl]
  rw [(h b j hb).2]
theorem ag_p {q : Nat → Bool} {σ τ : sg_S} (h : ag q σ τ) (a : Nat) (n i x : Int) : ag q (sx_put σ a n i x) (sx_put τ a n i x) := by
  unfold sx_put
  split
  · exact ag_w h a i x
  · exact h
theorem ag_pl {q : Nat → Bool} {σ τ : sg_S} (h : ag q σ τ) (a : Nat) (n i x : Int) : ag q (sx_putl σ a n i x) (sx_putl τ a n i x) := by
  unfold sx_putl
  split
  · exact ag_wl h a i x
  · exact h
theorem ag_xw {q : Nat → Bool} {σ τ : sg_S} (h : ag q σ τ) {a : Nat} (ha : q a = false) (k x : Int) : ag q (sg_w σ a k x) τ := fun b j hb => by
  refine ⟨?_, (h b j hb).2⟩
  simp only [sg_w]
  rw [if_neg (by rintro ⟨rfl, -⟩; rw [ha] at hb; cases hb)]
  exact (h b j hb).1
theorem ag_xwl {q : Nat → Bool} {σ τ : sg_S} (h : ag q σ τ) {a : Nat} (ha : q a = false) (k x : Int) : ag q (sg_wl σ a k x) τ := fun b j hb => by
  refine ⟨(h b j hb).1, ?_⟩
  simp only [sg_wl]
  rw [if_neg (by rintro ⟨rfl, -⟩; rw [ha] at hb; cases hb)]
  exact (h b j hb).2
theorem ag_xp {q : Nat → Bool} {σ τ : sg_S} (h : ag q σ τ) {a : Nat} (ha : q a = false) (n i x : Int) : ag q (sx_put σ a n i x) τ := by
  unfold sx_put
  split
  · exact ag_xw h ha i x
  · exact h
theorem ag_xpl {q : Nat → Bool} {σ τ : sg_S} (h : ag q σ τ) {a : Nat} (ha : q a = false) (n i x : Int) : ag q (sx_putl σ a n i x) τ := by
  unfold sx_putl
  split
  · exact ag_xwl h ha i x
  · exact h
def ag_ok (q : Nat → Bool) (L : List Nat) : Bool := L.all (fun c => !(q (c % 1000))) && (List.range 152).all (fun a => true)
theorem ag_F {q : Nat → Bool} {σ σ' τ : sg_S} {L : List Nat} (h : ag q σ τ) (hF : sg_F L σ σ') (hL : L.all (fun c => !(q (c % 1000))) = true) (hq : ∀ a, q a = true → a < 1000) : ag q σ' τ := fun a k ha => by
  have hc : sg_ca L a = true := by
    unfold sg_ca
    rw [List.all_eq_true]
    intro c hc
    have := (List.all_eq_true.mp hL) c hc
    cases e : (c % 1000 == a) with
    | false => rfl
    | true =>
      have e2 : c % 1000 = a := by simpa using e
      rw [e2, ha] at this
      cases this
  have := hF a k (hq a ha) (sg_ca_cv hc (hq a ha) k)
  exact ⟨this.1.trans (h a k ha).1, this.2.trans (h a k ha).2⟩
theorem ag_g {q : Nat → Bool} {σ τ : sg_S} (h : ag q σ τ) {a : Nat} (ha : q a = true) (k : Int) : sg_g σ a k = sg_g τ a k := by unfold sg_g; rw [(h a k ha).1]
theorem ag_gl {q : Nat → Bool} {σ τ : sg_S} (h : ag q σ τ) {a : Nat} (ha : q a = true) (k : Int) : sg_gl σ a k = sg_gl τ a k := by unfold sg_gl; rw [(h a k ha).2]
theorem ag_at {q : Nat → Bool} {σ τ : sg_S} (h : ag q σ τ) {a : Nat} (ha : q a = true) (n i : Int) : sx_at σ a n i = sx_at τ a n i := by unfold sx_at; rw [ag_g h ha]
theorem ag_atl {q : Nat → Bool} {σ τ : sg_S} (h : ag q σ τ) {a : Nat} (ha : q a = true) (n i : Int) : sx_atl σ a n i = sx_atl τ a n i := by unfold sx_atl; rw [ag_gl h ha]
theorem sx_at_R (σ : sg_S) (a : Nat) (n i : Int) : sg_R (sx_at σ a n i) := by
  unfold sx_at
  split
  · exact sg_Rg _ _ _
  · decide
/-- the tree's and the DEFS' cells -/
def tec (a : Nat) : Bool := Nat.ble 2 a && Nat.ble a 27
theorem tec_lt (a : Nat) (h : tec a = true) : a < 1000 := by
  unfold tec at h
  simp only [Bool.and_eq_true, Nat.ble_eq] at h
  omega
abbrev te (σ τ : sg_S) : Prop := ag tec σ τ
theorem te_F {σ σ' τ : sg_S} {L : List Nat} (h : te σ τ) (hF : sg_F L σ σ') (hL : L.all (fun c => !(tec (c % 1000))) = true) : te σ' τ := ag_F h hF hL tec_lt
/-- the tape, the fault's place and the tokens -/
def tkq (a : Nat) : Bool := a == 1 || a == 35 || a == 36 || a == 37
theorem tkq_lt (a : Nat) (h : tkq a = true) : a < 1000 := by
  unfold tkq at h
  simp only [Bool.or_eq_true, beq_iff_eq] at h
  omega
abbrev tkC : Type := (Int → Int) × Int × (Int → Int) × (Int × Int)
def tPos (c : tkC) : Nat → Int
  | 0 => 0
  | i + 1 => lx_next c.1 c.2.1 (lx_end c.1 c.2.1 lx_b (tPos c i))
def tPl (c : tkC) (i : Nat) : Int := lx_end c.1 c.2.1 lx_b (tPos c i)
def tK (c : tkC) (i : Nat) : Int := lx_kind c.1 c.2.1 c.2.2.1 (tPl c i)
def tWd (c : tkC) (i : Nat) (w : Int) : Int := if tPl c i < c.2.1 ∧ lx_l (c.1 (tPl c i)) = true then lx_pk c.1 (tPl c i) (lx_end c.1 c.2.1 lx_a (tPl c i) - tPl c i).toNat else w
def tW (c : tkC) : Nat → Int
  | 0 => tWd c 0 c.2.2.2.1
  | i + 1 => tWd c (i + 1) (tW c i)
/-- the number that stands behind token i -/
def tN (c : tkC) : Nat → Int
  | 0 => lx_num c.1 c.2.1 (tPl c 0) c.2.2.2.2
  | i + 1 => lx_num c.1 c.2.1 (tPl c (i + 1)) (tN c i)
def tkOK (c : tkC) : Prop := 0 ≤ c.2.1 ∧ c.2.1 ≤ 1200 ∧ (∀ p, 0 ≤ c.1 p ∧ c.1 p ≤ 255)
def tk (c : tkC) (σ : sg_S) (i : Nat) : Prop := tb σ = c.1 ∧ sg_gl σ 37 = c.2.2.1 ∧ sg_g σ 36 2 = c.2.1 ∧ sg_g σ 36 3 = tPos c (i + 1) ∧ sg_g σ 36 4 = tK c i ∧ sg_g σ 36 5 = tPl c i ∧ (¬ tK c i = 259 → sg_gl σ 36 7 = tW c i) ∧ sg_g σ 35 3 = -1 ∧ sg_g σ 36 6 = tN c i
def jm (σ : sg_S) : Prop := sg_g σ 36 4 = 260 ∧ 0 ≤ sg_g σ 35 3
theorem tk_ag {c : tkC} {σ σ' : sg_S} {i : Nat} (h : tk c σ i) (ha : ag tkq σ' σ) : tk c σ' i := by
  obtain ⟨h1, h2, h3, h4, h5, h6, h7, h8, h9⟩ := h
  refine ⟨?_, ?_, ?_, ?_, ?_, ?_, fun hn => ?_, ?_, ?_⟩
  · rw [← h1]; exact tb_eq (fun q => ag_g ha rfl q)
  · rw [← h2]; exact funext (fun q => ag_gl ha rfl q)
  · rw [ag_g ha rfl, h3]
  · rw [ag_g ha rfl, h4]
  · rw [ag_g ha rfl, h5]
  · rw [ag_g ha rfl, h6]
  · rw [ag_gl ha rfl, h7 hn]
  · rw [ag_g ha rfl, h8]
  · rw [ag_g ha rfl, h9]
theorem jm_ag {σ σ' : sg_S} (h : jm σ) (ha : ag tkq σ' σ) : jm σ' := ⟨by rw [ag_g ha rfl]; exact h.1, by rw [ag_g ha rfl]; exact h.2⟩
theorem tkq_F {σ σ' : sg_S} {L : List Nat} (hF : sg_F L σ σ') (hL : L.all (fun c => !(tkq (c % 1000))) = true) : ag tkq σ' σ := ag_F (ag_r _ σ) hF hL tkq_lt
theorem lx_next_le {B : Int → Int} {N q : Int} (h : q ≤ N) : q ≤ lx_next B N q ∧ lx_next B N q ≤ N := by
  unfold lx_next
  split
  · omega
  · split
    · exact ⟨(lx_end_spec B N lx_d q).1, lx_end_le h⟩
    · split
      · exact ⟨(lx_end_spec B N lx_a q).1, lx_end_le h⟩
      · split <;> omega
theorem tPos_r {c : tkC} (hc : tkOK c) : ∀ i, 0 ≤ tPos c i ∧ tPos c i ≤ c.2.1
  | 0 => ⟨Int.le_refl 0, hc.1⟩
  | i + 1 => by
    have h := tPos_r hc i
    have h1 := (lx_end_spec c.1 c.2.1 lx_b (tPos c i)).1
    have h2 := lx_end_le (B := c.1) (p := lx_b) h.2
    have h3 := lx_next_le (B := c.1) h2
    simp only [tPos]
    omega
theorem tPl_r {c : tkC} (hc : tkOK c) (i : Nat) : 0 ≤ tPl c i ∧ tPl c i ≤ c.2.1 := by
  have h := tPos_r hc i
  have h1 := (lx_end_spec c.1 c.2.1 lx_b (tPos c i)).1
  have h2 := lx_end_le (B := c.1) (p := lx_b) h.2
  unfold tPl
  omega
theorem lx_fi_r (f : Int → Int) (w : Int) : ∀ (n : Nat) (i : Int), 0 ≤ i → i + n ≤ 18 → lx_fi f w n i = 258 ∨ 261 ≤ lx_fi f w n i ∧ lx_fi f w n i ≤ 278
  | 0, i, _, _ => Or.inl rfl
  | n + 1, i, h0, h1 => by
    rw [lx_fi_s]
    split
    · omega
    · exact lx_fi_r f w n (i + 1) (by omega) (by omega)
theorem tK_r {c : tkC} (hc : tkOK c) (i : Nat) : 0 ≤ tK c i ∧ tK c i ≤ 278 ∧ ¬ tK c i = 260 := by
  unfold tK lx_kind
  have hB := hc.2.2 (tPl c i)
  split
  · omega
  · split
    · split <;> omega
    · split
      · split
        · omega
        · have := lx_fi_r c.2.2.1 (lx_pk c.1 (tPl c i) (lx_end c.1 c.2.1 lx_a (tPl c i) - tPl c i).toNat) 18 0 (by omega) (by omega)
          omega
      · split <;> omega
/-! THE PARSER -/
def pAdd (τ : sg_S) (kd pl : Int) : sg_S := sx_put (sx_put (sx_put (sx_put (sx_put (sx_put (sx_put (sx_put (sx_put (sx_put (sg_w τ 2 16 (sg_g τ 2 16 + 1)) 3 200 (sg_g τ 2 16) kd) 4 200 (sg_g τ 2 16) pl) 7 200 (sg_g τ 2 16) (-1)) 8 200 (sg_g τ 2 16) (-1)) 9 200 (sg_g τ 2 16) (-1)) 10 200 (sg_g τ 2 16) 0) 13 200 (sg_g τ 2 16) 0) 14 200 (sg_g τ 2 16) (-1)) 11 200 (sg_g τ 2 16) (sg_g τ 2 16)) 12 200 (sg_g τ 2 16) (sg_g τ 2 16)
def pAtt1 (τ : sg_S) (k p : Int) : sg_S := if sx_at τ 10 200 k = 0 then sx_put τ 7 200 k p else sx_put τ 9 200 (sx_at τ 8 200 k) p
def pAtt2 (τ : sg_S) (k p : Int) : sg_S := sx_put (sx_put τ 8 200 k p) 10 200 k (sx_at (sx_put τ 8 200 k p) 10 200 k + 1)
def pAttach (τ : sg_S) (k p : Int) : sg_S := if k < 0 ∨ p < 0 then τ else pAtt2 (pAtt1 τ k p) k p
def pClose (τ : sg_S) (k f : Int) : sg_S := sx_put (sx_put τ 11 200 k f) 12 200 k (sg_g τ 2 16 - 1)
def pBoth (τ : sg_S) (k l r : Int) : sg_S := pClose (pAttach (pAttach τ k l) k r) k (sx_at (pAttach (pAttach τ k l) k r) 11 200 l)
abbrev pO : Type := Option (Nat × sg_S × Int)
abbrev pF : Type := Nat → sg_S → pO
section PAR
variable (c : tkC)
def pCreate (i : Nat) (τ : sg_S) : pO := if 200 ≤ sg_g τ 2 16 then none else some (i + 1, sx_putl (sx_put (pAdd τ (tK c i) (tPl c i)) 5 200 (sg_g τ 2 16) (tN c i)) 17 200 (sg_g τ 2 16) (tW c i), sg_g τ 2 16)
def pLet (E : pF) (i : Nat) (τ : sg_S) : pO := match pCreate c i τ with
  | none => none
  | some (i1, τ1, k) => if tK c i1 = 258 then (if tK c (i1 + 1) = 61 then (match E (i1 + 1 + 1) (sx_putl τ1 17 200 k (tW c i1)) with
    | none => none
    | some (i2, τ2, a) => if tK c i2 = 263 then (match E (i2 + 1) (pAttach τ2 k a) with
      | none => none
      | some (i3, τ3, b) => some (i3, pClose (pAttach τ3 k b) k k, k)) else none) else none) else none
def pIf (E : pF) (i : Nat) (τ : sg_S) : pO := match pCreate c i τ with
  | none => none
  | some (i1, τ1, k) => match E i1 τ1 with
    | none => none
    | some (i2, τ2, a) => if tK c i2 = 265 then (match E (i2 + 1) (pAttach τ2 k a) with
      | none => none
      | some (i3, τ3, b) => if tK c i3 = 266 then (match E (i3 + 1) (pAttach τ3 k b) with
        | none => none
        | some (i4, τ4, e) => some (i4, pClose (pAttach τ4 k e) k k, k)) else none) else none
def pCmp (S : pF) (i : Nat) (τ : sg_S) : pO := match S i τ with
  | none => none
  | some (i1, τ1, l) => if tK c i1 = 60 ∨ tK c i1 = 61 then (match pCreate c i1 τ1 with
    | none => none
    | some (i2, τ2, k) => match S i2 τ2 with
      | none => none
      | some (i3, τ3, r) => some (i3, pBoth τ3 k l r, k)) else some (i1, τ1, l)
/-- a row of operands with signs between, from the left on -/
def pRowL (q : Int → Bool) (P : pF) : Nat → Int → pF
  | 0, l, i, τ => some (i, τ, l)
  | m + 1, l, i, τ => if q (tK c i) = true then (match pCreate c i τ with
    | none => none
    | some (i1, τ1, k) => match P i1 τ1 with
      | none => none
      | some (i2, τ2, r) => pRowL q P m k i2 (pBoth τ2 k l r)) else some (i, τ, l)
def pRow (q : Int → Bool) (P : pF) (i : Nat) (τ : sg_S) : pO := match P i τ with
  | none => none
  | some (i1, τ1, l) => pRowL c q P 201 l i1 τ1
def pqS (k : Int) : Bool := decide (k = 43 ∨ k = 45)
def pqP (k : Int) : Bool := decide (k = 42 ∨ k = 47 ∨ k = 37)
def pUn (w : Bool) (U I : pF) (i : Nat) (τ : sg_S) : pO := if tK c i = 35 then (if w = true then (match pCreate c i τ with
  | none => none
  | some (i1, τ1, k) => match U i1 τ1 with
    | none => none
    | some (i2, τ2, r) => some (i2, pClose (pAttach τ2 k r) k k, k)) else none) else I i τ
def pItL (w : Bool) (E : pF) : Nat → Int → pF
  | 0, l, i, τ => some (i, τ, l)
  | m + 1, l, i, τ => if tK c i = 91 then (if w = true then (match pCreate c i τ with
    | none => none
    | some (i1, τ1, k) => match E i1 τ1 with
      | none => none
      | some (i2, τ2, r) => if tK c i2 = 93 then pItL w E m k (i2 + 1) (pBoth τ2 k l r) else none) else none) else some (i, τ, l)
def pItem (w : Bool) (E A : pF) (i : Nat) (τ : sg_S) : pO := match A i τ with
  | none => none
  | some (i1, τ1, l) => pItL c w E 201 l i1 τ1
def pListL (E : pF) (k : Int) : Nat → Nat → sg_S → Option (Nat × sg_S)
  | 0, i, τ => some (i, τ)
  | m + 1, i, τ => match E i τ with
    | none => none
    | some (i1, τ1, r) => if tK c i1 = 44 then pListL E k m (i1 + 1) (pAttach τ1 k r) else some (i1, pAttach τ1 k r)
def pGenL (E : pF) (k : Int) : Nat → Nat → sg_S → Option (Nat × sg_S)
  | 0, i, τ => some (i, τ)
  | m + 1, i, τ => if tK c i = 258 ∧ ¬ m = 0 then (if tK c (i + 1) = 263 then (match E (i + 1 + 1) τ with
    | none => none
    | some (i1, τ1, r) => if tK c i1 = 44 then pGenL E k m (i1 + 1) (sx_put (pAttach (sx_put (sx_putl τ1 18 200 r (tW c i)) 15 200 r (tPl c i)) k r) 13 200 k (5 - m)) else some (i1, sx_put (pAttach (sx_put (sx_putl τ1 18 200 r (tW c i)) 15 200 r (tPl c i)) k r) 13 200 k (5 - m))) else none) else none
def pWordE (E : pF) (k : Int) (i : Nat) (τ : sg_S) : pO := match (if tK c i = 41 then some (i, τ) else pListL c E k 201 i τ) with
  | none => none
  | some (i1, τ1) => if tK c i1 = 41 then some (i1 + 1, pClose τ1 k k, k) else none
def pWord (w : Bool) (E : pF) (i : Nat) (τ : sg_S) : pO := match pCreate c i τ with
  | none => none
  | some (i1, τ1, k) => if tK c i = 258 ∧ ¬ tK c i1 = 40 then some (i1, τ1, k) else (if tK c i1 = 40 then (if w = true then pWordE c E k (i1 + 1) (if tK c i = 258 then sx_put τ1 3 200 k 280 else τ1) else none) else none)
def pRw (E : pF) (i : Nat) (τ : sg_S) : pO := match pCreate c i τ with
  | none => none
  | some (i1, τ1, k) => match pListL c E k 201 i1 (sx_put τ1 3 200 k 279) with
    | none => none
    | some (i2, τ2) => if tK c i2 = 93 then some (i2 + 1, pClose τ2 k k, k) else none
def pEachE (k b : Int) (i : Nat) (τ : sg_S) : pO := if tK c i = 125 then some (i + 1, pClose (pAttach τ k b) k k, k) else none
def pEach (E : pF) (i : Nat) (τ : sg_S) : pO := match pCreate c i τ with
  | none => none
  | some (i1, τ1, k) => match E i1 τ1 with
    | none => none
    | some (i2, τ2, b) => if tK c i2 = 58 then (match pGenL c E k 5 (i2 + 1) τ2 with
      | none => none
      | some (i3, τ3) => if tK c i3 = 124 then (match E (i3 + 1) τ3 with
        | none => none
        | some (i4, τ4, g) => pEachE c k b i4 (sx_put (pAttach τ4 k g) 14 200 k g)) else pEachE c k b i3 τ3) else none
def pPar (E : pF) (i : Nat) (τ : sg_S) : pO := match E (i + 1) τ with
  | none => none
  | some (i1, τ1, r) => if tK c i1 = 41 then some (i1 + 1, τ1, r) else none
def pAtom (w : Bool) (E : pF) (i : Nat) (τ : sg_S) : pO :=
  if tK c i = 257 then pCreate c i τ
  else if tK c i = 258 ∨ 267 ≤ tK c i ∧ tK c i ≤ 278 then pWord c w E i τ
  else if w = true then (if tK c i = 40 then pPar c E i τ else if tK c i = 91 then pRw c E i τ else if tK c i = 123 then pEach c E i τ else none)
  else none
def pExpr (w : Bool) (E C : pF) (i : Nat) (τ : sg_S) : pO :=
  if tK c i = 262 then (if w = true then pLet c E i τ else none)
  else if tK c i = 264 then (if w = true then pIf c E i τ else none)
  else C i τ
def pUnL (w : Bool) (E U : pF) : pF := pUn c w U (pItem c w E (pAtom c w E))
def pCmL (w : Bool) (E U : pF) : pF := pCmp c (pRow c pqS (pRow c pqP (pUnL c w E U)))
def pLv : Nat → pF × pF
  | 0 => (pExpr c false (fun _ _ => none) (pCmL c false (fun _ _ => none) (fun _ _ => none)), pUnL c false (fun _ _ => none) (fun _ _ => none))
  | f + 1 => (pExpr c true (pLv f).1 (pCmL c true (pLv f).1 (pLv f).2), pUnL c true (pLv f).1 (pLv f).2)
end PAR
theorem sx_put_c (σ : sg_S) (a b : Nat) (n i j x : Int) (h : b ≠ a) : sg_g (sx_put σ a n i x) b j = sg_g σ b j := by
  unfold sx_put
  split
  · exact sg_gw_c _ _ _ _ _ _ h
  · rfl
theorem sx_putx_c (σ : sg_S) (a b : Nat) (n i j x : Int) (h : b ≠ a) : sg_gl (sx_put σ a n i x) b j = sg_gl σ b j := by
  unfold sx_put
  split <;> rfl
theorem sx_putl_c (σ : sg_S) (a b : Nat) (n i j x : Int) (h : b ≠ a) : sg_gl (sx_putl σ a n i x) b j = sg_gl σ b j := by
  unfold sx_putl
  split
  · exact sg_gwl_c _ _ _ _ _ _ h
  · rfl
theorem sx_putlx_c (σ : sg_S) (a b : Nat) (n i j x : Int) (h : b ≠ a) : sg_g (sx_putl σ a n i x) b j = sg_g σ b j := by
  unfold sx_putl
  split <;> rfl
/-- what a method of the parser leaves -/
abbrev pq (L : List Nat) (c : tkC) (r : pO) (σ : sg_S) (v : Option bm_V) (σ' : sg_S) : Prop := ∃ q, v = some (.inl q) ∧ sg_F L σ σ' ∧ ((∃ i' τ', r = some (i', τ', q) ∧ sg_R q ∧ te σ' τ' ∧ tk c σ' i') ∨ (r = none ∧ jm σ'))
abbrev pqN (L : List Nat) (c : tkC) (r : Option (Nat × sg_S)) (σ : sg_S) (v : Option bm_V) (σ' : sg_S) : Prop := v = none ∧ sg_F L σ σ' ∧ ((∃ i' τ', r = some (i', τ') ∧ te σ' τ' ∧ tk c σ' i') ∨ (r = none ∧ jm σ'))
abbrev pL0 : List Nat := [3, 4, 5, 6, 7, 8, 9, 10, 11, 12, 13, 14, 15, 16, 17, 18, 4035, 4036, 5036, 6036, 7036, 8036, 17002]
def cE (c : tkC) (d j : Nat) (nest : Int) (pre : Int → Prop) (P : pF) : Prop := ∀ (z : Value) (σ : sg_S) (i : Nat) (τ : sg_S), te σ τ → tk c σ i → pre (tK c i) → wx z d j 0 [(0, .inr (.inr (.ref 35))), (1, .inl nest)] [] σ (pq pL0 c (P i τ) σ)
theorem tk_nx (z : Value) (σ : sg_S) (c : tkC) (hc : tkOK c) (i : Nat) (hk : tk c σ i) (h259 : ¬ tK c i = 259) : wx z 4 195 0 [(0, .inr (.inr (.ref 36)))] [] σ (fun v σ' => v = none ∧ sg_F [4036, 5036, 6036, 7036, 8036] σ σ' ∧ tk c σ' (i + 1)) := by
  obtain ⟨h1, h2, h3, h4, h5, h6, h7, h8, h9⟩ := hk
  have hp := tPos_r hc (i + 1)
  refine wk_post (tk_adv z σ (by rw [h4]; exact hp.1) (by rw [h3]; exact hc.2.1) (by rw [h4, h3]; exact hp.2) (by rw [h5]; exact (tK_r hc i).2.2)) ?_
  rintro v σ' ⟨rfl, hF, g1, g2, g3, g4, g5, g6⟩
  rw [h1, h3, h4] at g1 g2 g3 g4 g5 g6
  rw [h2] at g2
  refine ⟨rfl, hF, ?_, ?_, ?_, g3, g2, g1, fun hn => ?_, ?_, ?_⟩
  · rw [← h1]; exact tb_eq (fun q => sg_F_ga hF rfl)
  · rw [← h2]; exact funext (fun q => sg_F_gal hF rfl)
  · rw [sg_F_g hF rfl, h3]
  · show sg_gl σ' 36 7 = tWd c (i + 1) (tW c i)
    unfold tWd
    by_cases e : tPl c (i + 1) < c.2.1 ∧ lx_l (c.1 (tPl c (i + 1))) = true
    · rw [if_pos e]
      refine g4 e.1 e.2 ?_
      refine Decidable.byContradiction (fun h8 => hn ?_)
      have hd : ¬ lx_d (c.1 (tPl c (i + 1))) = true := fun q => by
        have q1 := of_decide_eq_true q
        have q2 := of_decide_eq_true e.2
        omega
      unfold tK lx_kind
      rw [if_neg (by have := e.1; omega), if_neg hd, if_pos e.2, if_pos (show lx_end c.1 c.2.1 lx_a (tPl c (i + 1)) - tPl c (i + 1) > 8 from by have h9 : ¬ (lx_end c.1 c.2.1 lx_a (tPl c (i + 1)) - tPl c (i + 1) ≤ 8) := h8; omega)]
    · rw [if_neg e, g5 e, h7 h259]
  · rw [sg_F_ga hF rfl, h8]
  · rw [g6, h9]; rfl
