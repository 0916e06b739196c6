/-! WHAT THE REFERENCE SHOWS, exactly: letters and numbers; what is open. -/
/-- letters behind what stands there -/
def rTx (σ σ' : sg_S) (l : List Int) : Prop := sg_g σ' 88 78 = sg_g σ 88 78 + l.length ∧ (∀ i, (i < sg_g σ 88 78 ∨ sg_g σ 88 78 + l.length ≤ i) → sg_g σ' 136 i = sg_g σ 136 i) ∧ ∀ (i : Nat) (x : Int), l[i]? = some x → sg_g σ' 136 (sg_g σ 88 78 + i) = x
theorem rTx_0 (σ : sg_S) : rTx σ σ [] := ⟨by simp, fun _ _ => rfl, fun i x h => (by cases h)⟩
theorem rTx_t {σ σ1 σ2 : sg_S} {l m : List Int} (h : rTx σ σ1 l) (g : rTx σ1 σ2 m) : rTx σ σ2 (l ++ m) := by
  obtain ⟨a1, a2, a3⟩ := h
  obtain ⟨b1, b2, b3⟩ := g
  refine ⟨by rw [b1, a1, List.length_append]; omega, fun i hi => by rw [List.length_append] at hi; rw [b2 i (by omega), a2 i (by omega)], fun i x hx => ?_⟩
  by_cases c : i < l.length
  · rw [List.getElem?_append_left c] at hx
    rw [b2 _ (by omega)]
    exact a3 i x hx
  · rw [List.getElem?_append_right (by omega)] at hx
    have := b3 (i - l.length) x hx
    rw [show sg_g σ1 88 78 + ((i - l.length : Nat) : Int) = sg_g σ 88 78 + i by omega] at this
    exact this
theorem rTx_F {K : List Nat} {σ σ1 σ2 : sg_S} {l : List Int} (h : rTx σ σ1 l) (f : sg_F K σ1 σ2) (h1 : sg_cv K 88 78 = false) (h2 : sg_ca K 136 = true) : rTx σ σ2 l := by
  obtain ⟨a1, a2, a3⟩ := h
  exact ⟨by rw [sg_F_g f h1]; exact a1, fun i hi => by rw [sg_F_ga f h2]; exact a2 i hi, fun i x hx => by rw [sg_F_ga f h2]; exact a3 i x hx⟩
theorem m_shX {σ : sg_S} {c : Int} {Q : sg_S → Prop} (h : 0 ≤ sg_g σ 88 78 ∧ sg_g σ 88 78 < 160000) (rc : sg_R c) (k : ∀ σ', rTx σ σ' [c] → sg_F [136, 79088] σ σ' → Q σ') : V_show σ c Q := by
  unfold V_show
  refine ⟨h, fun σ2 e2 => ⟨⟨by omega, by omega⟩, fun σ6 e6 => k σ6 ⟨?_, fun i hi => ?_, fun i x hx => ?_⟩ ?_⟩⟩
  · rw [e6, sg_gw_e _ _ _ _ ⟨by omega, by omega⟩]; rfl
  · simp only [List.length_cons, List.length_nil] at hi
    rw [e6, sg_gw_c _ _ _ _ _ _ (by decide), e2, sg_gw_k _ _ _ _ _ _ (by omega)]
  · cases i with
    | zero =>
      cases hx
      rw [e6, sg_gw_c _ _ _ _ _ _ (by decide), e2]
      simp only [Int.ofNat_zero, Int.cast_ofNat_Int, Int.add_zero]
      exact sg_gw_e _ _ _ _ rc
    | succ i => cases hx
  · rw [e6, e2]; exact sg_F_w (sg_F_w (sg_F_r _ _) rfl _) rfl _
/-- a number -/
theorem m_shNX {σ : sg_S} {a : Int} {Q : sg_S → Prop} (h : 0 ≤ sg_g σ 88 78 ∧ sg_g σ 88 78 + 11 ≤ 160000) (ha : sg_R a) (k : ∀ σ', rTx σ σ' (txN a) → sg_F [136, 79088] σ σ' → Q σ') : V_showNumber σ a Q := by
  have ha1 := ha.1
  have ha2 := ha.2
  unfold V_showNumber
  refine ⟨⟨fun _ => trivial, fun _ => ⟨⟨by omega, by omega⟩, trivial⟩⟩, fun v3 e3 r3 => ⟨fun σ9 => rTx σ σ9 (if a < 0 then [45] else []), ⟨fun q => ?_, fun q => ?_⟩, fun σ9 f9 p9 => ?_⟩⟩
  · rw [if_neg (by omega)]; exact rTx_0 σ
  · rw [if_pos q]
    exact m_shX ⟨by omega, by omega⟩ (by decide) (fun σ' x1 x2 _ => x1)
  have v3b : 0 ≤ v3 ∧ v3 ≤ 2147483648 := by
    by_cases z : 0 ≤ a
    · rw [if_pos z] at e3; omega
    · rw [if_neg z] at e3; omega
  have etx : ∀ c : Nat, v3 < 10 ^ (c + 1) → (c = 0 ∨ (10 : Int) ^ c ≤ v3) → txN a = (if a < 0 then [45] else []) ++ dgs (c + 1) v3 := fun c c1 c2 => by
    have en : nDg v3 = c + 1 := nDg_e v3b.2 (by omega) c1 (by
      rcases c2 with q | q
      · exact Or.inl (by omega)
      · exact Or.inr (by rw [show c + 1 - 1 = c by omega]; exact q))
    unfold txN
    by_cases z : a < 0
    · rw [if_neg (by omega)] at e3
      rw [if_pos z, if_pos z, ← e3, en]; rfl
    · rw [if_pos (by omega)] at e3
      rw [if_neg z, if_neg z, ← e3, en]; rfl
  have l9 : sg_g σ 88 78 ≤ sg_g σ9 88 78 ∧ sg_g σ9 88 78 ≤ sg_g σ 88 78 + 1 := by
    have := p9.1
    split at this
    · simp only [List.length_cons, List.length_nil] at this; omega
    · simp only [List.length_nil] at this; omega
  have dig : ∀ d, 0 < d → d ≤ 2147483648 → (48 + ((sg_l (((sg_l v3 / sg_l d).toInt)) - sg_l (((sg_l v3 / sg_l d).toInt)) / sg_l 10 * sg_l 10).toInt)) = 48 + v3 / d % 10 ∧ 0 ≤ v3 / d % 10 ∧ v3 / d % 10 < 10 := fun d d0 d1 => by
    have q0 : 0 ≤ v3 / d := Int.ediv_nonneg v3b.1 (by omega)
    have q1 : v3 / d ≤ v3 := Int.ediv_le_self _ v3b.1
    rw [dvl ⟨v3b.1, by omega⟩ ⟨d0, by omega⟩, rml ⟨q0, by omega⟩]
    generalize v3 / d = y at *
    exact ⟨rfl, by omega, by omega⟩
  refine ⟨fun n v => n = (2147483649 - v).toNat ∧ ∃ c : Nat, v = 10 ^ c ∧ (c = 0 ∨ (10 : Int) ^ c ≤ v3), fun v => ∃ c : Nat, v = 10 ^ c ∧ (c = 0 ∨ (10 : Int) ^ c ≤ v3) ∧ v3 < 10 ^ (c + 1), ⟨_, rfl, 0, rfl, Or.inl rfl⟩, ?_, ?_⟩
  · rintro n v rv ⟨en, c, ec, hc⟩
    have vb : 1 ≤ v ∧ v ≤ 2147483648 := by
      have p : (0 : Int) < 10 ^ c := Int.pow_pos (by decide)
      rw [ec]
      rcases hc with q | q
      · rw [q]; decide
      · omega
    refine ⟨⟨by omega, by omega⟩, fun q => ⟨c, ec, hc, by rw [Int.pow_succ, ← ec]; exact q⟩, fun q => ⟨_, by omega, rfl, c + 1, by rw [Int.pow_succ, ← ec], Or.inr (by rw [Int.pow_succ, ← ec]; exact q)⟩⟩
  · rintro v rv ⟨c, ec, hc, hc2⟩
    have vb : 1 ≤ v ∧ v ≤ 2147483648 := by
      have p : (0 : Int) < 10 ^ c := Int.pow_pos (by decide)
      rw [ec]
      rcases hc with q | q
      · rw [q]; decide
      · omega
    have c9 : c ≤ 9 := pow10 (by rw [← ec]; exact vb.2)
    obtain ⟨g1, g2, g3⟩ := dig v (by omega) vb.2
    rw [g1]
    refine ⟨fun z => by omega, fun z => ⟨by omega, ⟨by omega, by omega⟩, ⟨by omega, by omega⟩, m_shX ⟨by omega, by omega⟩ ⟨by omega, by omega⟩ (fun σ32 x1 x2 _ => ?_)⟩⟩
    rw [dvl (b := 10) ⟨by omega, by omega⟩ ⟨by decide, by decide⟩]
    refine ⟨fun n w σ38 => ∃ (j : Nat) (t : List Int), n = j ∧ j ≤ c ∧ w = (if j = 0 then 0 else 10 ^ (j - 1)) ∧ rTx σ9 σ38 t ∧ t ++ dgs j v3 = dgs (c + 1) v3, fun σ38 => rTx σ9 σ38 (dgs (c + 1) v3), ⟨c, c, [48 + v3 / v % 10], rfl, Nat.le_refl _, ?_, x1, ?_⟩, ?_, ?_⟩
    · rw [ec]
      cases c with
      | zero => rfl
      | succ c =>
        rw [if_neg (by omega), Int.pow_succ, show c + 1 - 1 = c by omega]
        exact Int.mul_ediv_cancel _ (by decide)
    · rw [ec]; rfl
    · rintro n w σ38 rw' f38 ⟨j, t, en, hj, ew, ht, et⟩
      have lt : (t.length : Int) = c + 1 - j := by
        have := congrArg List.length et
        rw [List.length_append, dgs_l, dgs_l] at this
        omega
      have t1 := ht.1
      cases j with
      | zero =>
        rw [if_pos rfl] at ew
        refine ⟨fun _ => ?_, fun z => by omega⟩
        have : t ++ dgs 0 v3 = t := List.append_nil t
        rw [← et, this]
        exact ht
      | succ j =>
        rw [if_neg (by omega), show j + 1 - 1 = j by omega] at ew
        have p : (0 : Int) < 10 ^ j := Int.pow_pos (by decide)
        have wb : 1 ≤ w ∧ w ≤ 2147483648 := by
          have e9 : (10 : Int) ^ j ≤ 10 ^ 9 := by
            have := Nat.pow_le_pow_right (n := 10) (by decide) (show j ≤ 9 by omega)
            have h2 : ((10 ^ j : Nat) : Int) = (10 : Int) ^ j := by simp
            have h3 : ((10 ^ 9 : Nat) : Int) = (10 : Int) ^ 9 := by simp
            omega
          have e10 : (10 : Int) ^ 9 = 1000000000 := by decide
          omega
        obtain ⟨d1, d2, d3⟩ := dig w (by omega) wb.2
        rw [d1]
        refine ⟨fun z => by omega, fun z => ⟨by omega, ⟨by omega, by omega⟩, ⟨by omega, by omega⟩, m_shX ⟨by omega, by omega⟩ ⟨by omega, by omega⟩ (fun σ57 y1 y2 _ => ?_)⟩⟩
        rw [dvl (b := 10) ⟨by omega, by omega⟩ ⟨by decide, by decide⟩]
        refine ⟨j, by omega, j, t ++ [48 + v3 / w % 10], rfl, by omega, ?_, rTx_t ht y1, ?_⟩
        · rw [ew]
          cases j with
          | zero => rfl
          | succ j =>
            rw [if_neg (by omega), Int.pow_succ, show j + 1 - 1 = j by omega]
            exact Int.mul_ediv_cancel _ (by decide)
        · rw [← et, ew, List.append_assoc]
          rfl
    · intro σ38 f38 q
      refine k σ38 ?_ (sg_F_t (sg_F_t f9 x2) f38)
      rw [etx c hc2 hc]
      exact rTx_t p9 q
/-- what is still to be shown of what is open, the innermost first -/
def rsT (K : Nat) : List (vaF × Nat) → List Int
  | [] => []
  | (v, i) :: fs => ((if i = 0 then txL (txF (K - 1 - fs.length)) (itF v) else txR (txF (K - 1 - fs.length)) ((itF v).drop i)) ++ [93]) ++ rsT K fs
theorem rsT_n {K : Nat} {v : vaF} {i : Nat} {fs : List (vaF × Nat)} (h : i = (itF v).length) : rsT K ((v, i) :: fs) = 93 :: rsT K fs := by
  simp only [rsT]
  by_cases c : i = 0
  · rw [if_pos c]
    have : itF v = [] := by
      cases e : itF v with
      | nil => rfl
      | cons a l => rw [e] at h; simp only [List.length_cons] at h; omega
    rw [this]; rfl
  · rw [if_neg c, h, List.drop_length]; rfl
theorem rsT_c {K : Nat} {v w : vaF} {i : Nat} {fs : List (vaF × Nat)} (h : (itF v)[i]? = some w) : rsT K ((v, i) :: fs) = (if i = 0 then [] else [44]) ++ (txF (K - 1 - fs.length) w ++ rsT K ((v, i + 1) :: fs)) := by
  have hi := gE_l h
  have ed : (itF v).drop i = w :: (itF v).drop (i + 1) := by
    rw [List.drop_eq_getElem_cons hi]
    rw [List.getElem?_eq_getElem hi] at h
    rw [Option.some.inj h]
  simp only [rsT]
  rw [if_neg (show ¬ i + 1 = 0 by omega)]
  by_cases c : i = 0
  · rw [if_pos c, if_pos c]
    rw [c, List.drop_zero] at ed
    rw [c, ed]
    simp only [txL, List.nil_append, List.append_assoc, List.drop_succ_cons, List.drop_zero, Nat.zero_add]
  · rw [if_neg c, if_neg c, ed]
    simp only [txR, List.cons_append, List.nil_append, List.append_assoc]
theorem rsT_p {K : Nat} {w : vaF} {fs : List (vaF × Nat)} (h : fs.length < K) : txF (K - fs.length) w ++ rsT K fs = 91 :: rsT K ((w, 0) :: fs) := by
  obtain ⟨d, hd⟩ : ∃ d, K - fs.length = d + 1 := ⟨K - fs.length - 1, by omega⟩
  have e : K - 1 - fs.length = d := by omega
  rw [hd]
  simp only [rsT, txF, if_true, List.cons_append, List.append_assoc]
  rw [e]
