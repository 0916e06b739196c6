/-! lanes put together; which variables are carried along, told once for all. -/
theorem rg_F (l : List vaF) : (List.range l.length).map (fun i => l.getD i (nmF 0)) = l := by
  apply List.ext_getElem?
  intro i
  rw [List.getElem?_map]
  rcases Nat.lt_or_ge i l.length with q | q
  · rw [List.getElem?_range q, Option.map_some, gD_i q]
  · rw [List.getElem?_eq_none (by rw [List.length_range]; exact q), List.getElem?_eq_none q]; rfl
/-- how many lanes are so -/
def cwF (b : Bool) (c : List vaF) : Nat := c.countP (fun v => decide (v [] = 0) != b)
theorem fWh_l (b : Bool) (c : List vaF) : (fWh b c).length = cwF b c := by
  unfold fWh cwF
  rw [← List.countP_eq_length_filter]
  have e := List.countP_map (p := fun v : vaF => decide (v [] = 0) != b) (f := fun i => c.getD i (nmF 0)) (l := List.range c.length)
  rw [rg_F] at e
  rw [e]
  rfl
theorem cwF_c (b : Bool) (v : vaF) (r : List vaF) : cwF b (v :: r) = cwF b r + if (decide (v [] = 0) != b) = true then 1 else 0 := by
  unfold cwF
  rw [List.countP_cons]
theorem cwF_a (b : Bool) (l r : List vaF) : cwF b (l ++ r) = cwF b l + cwF b r := by
  unfold cwF
  rw [List.countP_append]
theorem cwF_1 {b : Bool} {v : vaF} : cwF b [v] = if (decide (v [] = 0) != b) = true then 1 else 0 := by
  rw [cwF_c]
  show 0 + _ = _
  rw [Nat.zero_add]
theorem cwF_t : ∀ c : List vaF, cwF true c + cwF false c = c.length
  | [] => rfl
  | v :: r => by
    have := cwF_t r
    rw [cwF_c, cwF_c, List.length_cons]
    by_cases h : v [] = 0
    · simp [h]; omega
    · simp [h]; omega
/-- which lane each one is taken from -/
def mgK : List vaF → Nat → Nat → List Int
  | [], _, _ => []
  | c :: r, t, o => if c [] = 0 then (o : Int) :: mgK r t (o + 1) else (t : Int) :: mgK r (t + 1) o
theorem mgK_a : ∀ (l : List vaF) (v : vaF) (t o : Nat), mgK (l ++ [v]) t o = mgK l t o ++ [if v [] = 0 then ((o + cwF false l : Nat) : Int) else ((t + cwF true l : Nat) : Int)]
  | [], v, t, o => by
    simp only [List.nil_append, mgK]
    by_cases h : v [] = 0
    · rw [if_pos h, if_pos h]; rfl
    · rw [if_neg h, if_neg h]; rfl
  | c :: r, v, t, o => by
    simp only [List.cons_append, mgK]
    rw [cwF_c, cwF_c]
    by_cases h : c [] = 0
    · rw [if_pos h, if_pos h, mgK_a r v t (o + 1)]
      simp only [h, decide_true, bne_self_eq_false, Bool.false_eq_true, if_false, List.cons_append, Nat.add_zero, Bool.true_bne, Bool.not_false, if_true]
      rw [show o + 1 + cwF false r = o + (cwF false r + 1) by omega]
    · rw [if_neg h, if_neg h, mgK_a r v (t + 1) o]
      simp only [h, decide_false, List.cons_append, Nat.add_zero, Bool.false_bne, Bool.false_eq_true, if_false, if_true]
      rw [show t + 1 + cwF true r = t + (cwF true r + 1) by omega]
theorem mgK_l : ∀ (l : List vaF) (t o : Nat), (mgK l t o).length = l.length
  | [], t, o => rfl
  | c :: r, t, o => by
    simp only [mgK]
    split
    · rw [List.length_cons, List.length_cons, mgK_l r]
    · rw [List.length_cons, List.length_cons, mgK_l r]
theorem hd_D (l : List vaF) (t : Nat) : (l.drop t).headD (nmF 0) = lnF l (t : Int) := by
  unfold lnF
  rw [if_neg (by omega), Int.toNat_natCast]
  rcases Nat.lt_or_ge t l.length with q | q
  · rw [dr_D q]; rfl
  · rw [List.drop_of_length_le q, List.getD_eq_getElem?_getD, List.getElem?_eq_none q]; rfl
theorem mgK_f (l : List vaF) : ∀ (c : List vaF) (t o : Nat), (mgK c t o).map (lnF l) = fMg c (l.drop t) (l.drop o)
  | [], t, o => rfl
  | c :: r, t, o => by
    simp only [mgK, fMg]
    have td : ∀ q : Nat, (l.drop q).tail = l.drop (q + 1) := fun q => by rw [List.tail_drop]
    by_cases h : c [] = 0
    · rw [if_pos h, if_pos h, List.map_cons, mgK_f l r t (o + 1), hd_D, td]
    · rw [if_neg h, if_neg h, List.map_cons, mgK_f l r (t + 1) o, hd_D, td]
theorem fMg_x : ∀ (c a z b : List vaF), cwF true c ≤ a.length → fMg c (a ++ z) b = fMg c a b
  | [], a, z, b, _ => rfl
  | c :: r, a, z, b, h => by
    rw [cwF_c] at h
    simp only [fMg]
    by_cases q : c [] = 0
    · rw [if_pos q, if_pos q, fMg_x r a z b.tail (by omega)]
    · rw [if_neg q, if_neg q]
      simp only [q, decide_false, Bool.false_bne, if_true] at h
      cases a with
      | nil => simp only [List.length_nil] at h; omega
      | cons x a =>
        simp only [List.length_cons] at h
        simp only [List.cons_append, List.headD_cons, List.tail_cons]
        rw [fMg_x r a z b (by omega)]
theorem mgK_b : ∀ (c : List vaF) (t o : Nat) (x : Int), x ∈ mgK c t o → x < ((t + cwF true c : Nat) : Int) ∨ x < ((o + cwF false c : Nat) : Int)
  | [], t, o, x, h => by cases h
  | c :: r, t, o, x, h => by
    simp only [mgK] at h
    rw [cwF_c, cwF_c]
    by_cases q : c [] = 0
    · rw [if_pos q] at h
      simp only [q, decide_true, bne_self_eq_false, Bool.false_eq_true, if_false, Nat.add_zero, Bool.true_bne, Bool.not_false, if_true]
      rcases List.mem_cons.mp h with e | e
      · right; omega
      · rcases mgK_b r t (o + 1) x e with w | w
        · left; omega
        · right; omega
    · rw [if_neg q] at h
      simp only [q, decide_false, Nat.add_zero, Bool.false_bne, Bool.false_eq_true, if_false, if_true]
      rcases List.mem_cons.mp h with e | e
      · left; omega
      · rcases mgK_b r (t + 1) o x e with w | w
        · left; omega
        · right; omega
theorem exF_0 : ∀ d : Nat, exF d [] = 0
  | 0 => rfl
  | d + 1 => by
    show ((0 : Nat) : Int) + exF d [] = 0
    rw [exF_0 d]
    rfl
theorem exF_c (d : Nat) (v : vaF) (l : List vaF) : exF d (v :: l) = exF d [v] + exF d l := exF_a d [v] l
theorem exF_Mg (d : Nat) : ∀ (c a b : List vaF), cwF true c = a.length → cwF false c = b.length → exF d (fMg c a b) = exF d a + exF d b
  | [], a, b, h1, h2 => by
    have ea : a = [] := List.eq_nil_of_length_eq_zero h1.symm
    have eb : b = [] := List.eq_nil_of_length_eq_zero h2.symm
    rw [ea, eb]
    show exF d [] = exF d [] + exF d []
    rw [exF_0]; omega
  | c :: r, a, b, h1, h2 => by
    rw [cwF_c] at h1 h2
    simp only [fMg]
    by_cases q : c [] = 0
    · simp only [q, decide_true, bne_self_eq_false, Bool.false_eq_true, if_false, Nat.add_zero, Bool.true_bne, Bool.not_false, if_true] at h1 h2
      rw [if_pos q]
      cases b with
      | nil => simp only [List.length_nil] at h2; omega
      | cons x b =>
        simp only [List.length_cons] at h2
        simp only [List.headD_cons, List.tail_cons]
        rw [exF_c d x (fMg r a b), exF_Mg d r a b h1 (by omega), exF_c d x b]
        omega
    · simp only [q, decide_false, Nat.add_zero, Bool.false_bne, Bool.false_eq_true, if_false, if_true] at h1 h2
      rw [if_neg q]
      cases a with
      | nil => simp only [List.length_nil] at h1; omega
      | cons x a =>
        simp only [List.length_cons] at h1
        simp only [List.headD_cons, List.tail_cons]
        rw [exF_c d x (fMg r a b), exF_Mg d r a b (by omega) h2, exF_c d x a]
        omega
/-- the reference's lists of variables that are carried along -/
def gaH (A : aT) (B c : Int → Int) (O : Int → Nat → List Int) : Prop := ∀ n, (A.2.1 n = 3 → ∀ (st : Nat) (x : Int) (L : List Int), (st = 1 ∨ st = 2) → (A.2.2.2.2.1 n)[st]? = some x → fT A [x] L → (∀ y ∈ L, 0 ≤ y ∧ y < A.1) → O n st = gaO A B c L (-1) A.1.toNat) ∧ (A.2.1 n = 15 → ∀ (bd : Int) (tl Lb Lt : List Int), A.2.2.2.2.1 n = bd :: tl → fT A [bd] Lb → fT A (tl.drop (A.2.2.2.2.2 n).length) Lt → (∀ y ∈ Lb ++ Lt, 0 ≤ y ∧ y < A.1) → O n 0 = gaO A B c (Lb ++ Lt) n A.1.toNat ∧ O n 1 = gaO A B c Lb (-1) A.1.toNat)
section BGS
variable {A : aT} {D : List aDf} {T B c : Int → Int} {lev : Int → Nat} {σ : sg_S}
theorem rbX_L {j f : Nat} {L' : List Int} {sc : List (Int × Int)} {x : Int} (hA : A.1 ≤ 200) (ha : stN A D T B lev j f L' sc x) : ∀ y ∈ L', A.2.1 y = 1 → rb A (B y) := fun y hy ky => by
  rcases stN_v hA ha hy ky with ⟨q, -⟩ | q
  · exact (ha.2.2.2.2 _ q).1
  · rcases q with ⟨q1, q2⟩ | ⟨q1, q2, q3⟩
    · have := (ha.2.2.2.1 _ q2).1
      exact ⟨⟨by omega, by omega⟩, fun _ => this.2, fun z => by omega⟩
    · have := (ha.2.2.2.1 _ q3).1
      exact ⟨⟨by omega, by omega⟩, fun z => by omega, fun _ _ => this.2⟩
/-- clearInside, markInside, gatherOutside of one part -/
theorem m_ch1 {x : Int} {L' : List Int} {Q : sg_S → Prop} (hX : pgX σ A D T B) (hc : ∀ y, sg_g σ 116 y = c y) (hf : fT A [x] L') (hn : L'.Nodup) (hr : ∀ y ∈ L', 0 ≤ y ∧ y < A.1) (hb : ∀ y ∈ L', A.2.1 y = 1 → rb A (B y)) (k : ∀ σ', oR σ' (gaO A B c L' (-1) A.1.toNat) → sg_F [119, 120, 121, 47088, 50088] σ σ' → Q σ') : V_clearInside σ (fun σ118 => sg_F [120, 47088] σ σ118 → V_markInside σ118 x (fun σ124 => sg_F [120, 121, 50088] σ118 σ124 → V_gatherOutside σ124 (-1) (fun σ130 => sg_F [119, 47088] σ124 σ130 → Q σ130))) := by
  have hA := hX.2.2.2.2.1
  have P7 := trT_X (sg_F_r [] σ) rfl hX
  refine m_clear P7.1.1.1 ⟨P7.1.1.2.1, hA⟩ (fun σ8 m8 o8 f8 _ => ?_)
  refine m_mark (trT_X f8 rfl hX).1 hA m8 hf hn hr (fun σ9 m9 f9 _ => ?_)
  rw [List.nil_append] at m9
  have F9 : sg_F [120, 121, 47088, 50088] σ σ9 := sg_F_t (sg_F_m f8 rfl) (sg_F_m f9 rfl)
  have P9 := trT_X F9 rfl hX
  exact m_gatherX P9.1 P9.2 (fun y => by rw [sg_F_ga F9 rfl]; exact hc y) hA (by rw [sg_F_g f9 (by rfl)]; exact o8) m9 hb (fun σ10 o1 f10 _ => k σ10 o1 (sg_F_t (sg_F_m F9 rfl) (sg_F_m f10 rfl)))
/-- restore, told by what lies saved -/
theorem m_restU {to : Int} {Q : sg_S → Prop} (h0 : 0 ≤ to ∧ to ≤ sg_g σ 88 99 ∧ sg_g σ 88 99 ≤ 12000) (hB : sB σ) (k : ∀ σ', sg_g σ' 88 99 = to → (∀ b, sg_g σ' 134 b = und σ to b) → sB σ' → sg_F [134, 100088] σ σ' → Q σ') : V_restore σ to Q := m_restore h0 hB (fun σ' e u hB' f => k σ' e (fun b => by
  have := u to b (Int.le_refl _)
  rw [← e, und_top] at this
  rw [this, e]) hB' f)
theorem undA_2 {b : Int} {w : Int → Int} (n : Nat) : ∀ (O : List Int) (s : Int), (∀ (i : Nat) (x : Int), O[i]? = some x → sg_g σ 148 (s + i) = x ∧ sg_g σ 149 (s + i) = w x) → undA σ b s (O.length + n) = if b ∈ O then w b else undA σ b (s + O.length) n
  | [], s, _ => by simp
  | x :: O, s, h => by
    obtain ⟨h1, h2⟩ := h 0 x rfl
    simp only [Int.ofNat_zero, Int.cast_ofNat_Int, Int.add_zero] at h1 h2
    have ih := undA_2 (b := b) n O (s + 1) (fun i y hy => by
      have := h (i + 1) y hy
      rwa [show s + ((i + 1 : Nat) : Int) = s + 1 + (i : Int) by omega] at this)
    rw [List.length_cons, show O.length + 1 + n = (O.length + n) + 1 by omega]
    simp only [undA]
    rw [h1, h2, ih, show s + 1 + (O.length : Int) = s + ((O.length + 1 : Nat) : Int) by omega]
    by_cases e : x = b
    · rw [if_pos e, if_pos (by rw [e]; simp), e]
    · rw [if_neg e]
      by_cases e2 : b ∈ O
      · rw [if_pos e2, if_pos (List.mem_cons_of_mem _ e2)]
      · rw [if_neg e2, if_neg (fun q => (List.mem_cons.mp q).elim (fun z => e z.symm) e2)]
end BGS
