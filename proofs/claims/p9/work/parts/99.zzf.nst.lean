/-! A part begins, a value leaves: the pile stays a pile. -/
section NEV
variable {A : aT} {D : List aDf} {T B : Int → Int} {r : Int}
/-- what goes down turn by turn -/
def nM (A : aT) (σ : sg_S) : Int := 10 * (3000 - sg_g σ 88 54) + 4 * sg_g σ 88 62 + (if A.2.1 (sg_g σ 126 (sg_g σ 88 62 - 1)) = 15 ∧ sg_g σ 127 (sg_g σ 88 62 - 1) = (A.2.2.2.2.2 (sg_g σ 126 (sg_g σ 88 62 - 1))).length + 1 then 0 else 1)
theorem nM_le (A : aT) (σ : sg_S) : 10 * (3000 - sg_g σ 88 54) + 4 * sg_g σ 88 62 ≤ nM A σ ∧ nM A σ ≤ 10 * (3000 - sg_g σ 88 54) + 4 * sg_g σ 88 62 + 1 := by
  unfold nM
  split <;> omega
theorem fS_0 {σ : sg_S} {n b : Int} (h : nW A n) : fS A D T σ n 0 0 b [] := by
  unfold fS
  by_cases c2 : A.2.1 n = 2
  · rw [if_pos c2]
    have := h.2.2.1 (Or.inl c2)
    match e : A.2.2.2.2.1 n, this with
    | [a, c], _ => exact ⟨a, c, rfl, Or.inl ⟨rfl, rfl⟩⟩
  rw [if_neg c2]
  by_cases c3 : A.2.1 n = 3
  · rw [if_pos c3]
    have := h.2.2.2.1 c3
    match e : A.2.2.2.2.1 n, this with
    | [a, c, d], _ => exact ⟨a, c, d, rfl, Or.inl ⟨rfl, rfl⟩⟩
  rw [if_neg c3]
  by_cases c15 : A.2.1 n = 15
  · rw [if_pos c15]
    have := (h.2.2.2.2.2.2.1 c15).1
    match e : A.2.2.2.2.1 n with
    | [] => rw [e] at this; simp at this; omega
    | bd :: tl => exact ⟨bd, tl, rfl, Or.inl ⟨0, Nat.zero_le _, rfl, rfl, by simp⟩⟩
  rw [if_neg c15]
  exact Or.inl ⟨0, Nat.zero_le _, rfl, by simp⟩
theorem ev_begin {σ : sg_S} {m : Nat} {x : Int} {Q : sg_S → Prop} (hC : nC σ) (fm : sg_g σ 88 62 = m + 1) (hK : nStk A D T B r σ (m + 1) (sg_g σ 88 70) (T x)) (hx : fO A D T B σ x) (hA : A.1 ≤ 200) (k : ∀ σ', (¬ sg_g σ' 88 73 = 0 ∨ (sg_g σ' 88 73 = 0 ∧ nIv A D T B r σ' ∧ nM A σ' < 10 * (3000 - sg_g σ 88 54) + 4 * sg_g σ 88 62)) → sg_F [126, 127, 128, 129, 130, 131, 132, 55088, 63088, 74088] σ σ' → Q σ') : V_begin σ x Q := by
  obtain ⟨⟨c1, c2, c3, c4⟩, c5, c6, c7, c8⟩ := hC
  obtain ⟨w1, w2, w3⟩ := fO_w hx
  refine m_begin ⟨by omega, c8⟩ ⟨by omega, by omega⟩ ⟨by omega, by omega⟩ (fun σ' x1 x2 x3 x4 x5 => k σ' ?_ x5)
  rcases x1 with x1 | ⟨x1, x6, x7⟩
  · exact Or.inl x1
  obtain ⟨y1, y2, y3, y4⟩ := x3
  have ex : nEx σ σ' := nEx_F x5 rfl
  have bo : bOk A D T σ σ' := fun b => Or.inl (sg_F_ga x5 rfl)
  have g56 : sg_g σ' 88 56 = sg_g σ 88 56 := sg_F_g x5 (by rfl)
  have g60 : sg_g σ' 88 60 = sg_g σ 88 60 := sg_F_g x5 (by rfl)
  have g70 : sg_g σ' 88 70 = sg_g σ 88 70 := sg_F_g x5 (by rfl)
  have fc : sg_g σ 88 62 = ((m + 1 : Nat) : Int) := by omega
  rw [fc] at y1 y2 y3 y4
  refine Or.inr ⟨x1, ⟨⟨⟨by omega, by omega, by omega, by omega⟩, by omega, by omega, by omega, x7⟩, Or.inr ⟨m + 1, [], ?_⟩⟩, ?_⟩
  · refine ⟨by omega, by omega, by simp only [List.length_nil]; omega, fun i y h => (by cases h), by rw [y1]; exact fO_up ex bo hx, by rw [y1, y2, y4]; exact fS_0 w1, ?_⟩
    rw [y1, y3]
    exact nStk_up ex bo (m + 1) _ _ (fun i hi => x4 i (by omega)) (fun x _ _ => sg_F_ga x5 rfl) hK
  · have := nM_le A σ'
    omega
theorem ev_leave {σ : sg_S} {m : Nat} {v : Int} {Q : sg_S → Prop} (hw : 0 ≤ sg_g σ 88 54 ∧ sg_g σ 88 54 ≤ 3000) (hq : (0 ≤ sg_g σ 88 56 ∧ sg_g σ 88 56 ≤ 9000) ∧ 0 ≤ sg_g σ 88 60) (fm : sg_g σ 88 62 = m + 1) (h0 : 0 ≤ sg_g σ 128 m) (hb : sg_g σ 128 m + (m + 1) ≤ sg_g σ 88 54) (hO : fO A D T B σ (sg_g σ 126 m)) (hA : A.1 ≤ 200) (hK : nStk A D T B r σ m (sg_g σ 128 m) (T (sg_g σ 126 m))) (hR : sg_R v) (hv : vT σ (T (sg_g σ 126 m)).toNat v) (hs : (¬ v_tellsCount (sg_g σ 93 (sg_g σ 126 m)) = 0 ∧ sg_g σ 88 56 + m ≤ sg_g σ 88 54 + sg_gl σ 124 v ∧ sg_g σ 88 60 ≤ sg_g σ 88 54 + sg_gl σ 124 v) ∨ (vU σ (T (sg_g σ 126 m)).toNat v ∧ sg_g σ 88 56 + m ≤ sg_g σ 88 54 ∧ sg_g σ 88 60 ≤ sg_g σ 88 54)) (ht : ¬ v_tellsCount (sg_g σ 93 (sg_g σ 126 m)) = 0 → 1 ≤ (T (sg_g σ 126 m)).toNat) (h2 : sg_g σ 93 (sg_g σ 126 m) = 18 ∨ sg_g σ 93 (sg_g σ 126 m) = 19 ∨ sg_g σ 93 (sg_g σ 126 m) = 20 → (0 ≤ sg_g σ 133 (sg_g σ 128 m) ∧ sg_g σ 133 (sg_g σ 128 m) < 9000) ∧ 0 ≤ sg_g σ 123 (sg_g σ 133 (sg_g σ 128 m)) ∧ sg_g σ 123 (sg_g σ 133 (sg_g σ 128 m)) ≤ 200) (k : ∀ σ', (¬ sg_g σ' 88 73 = 0 ∨ (sg_g σ' 88 73 = 0 ∧ nIv A D T B r σ' ∧ nM A σ' < 10 * (3000 - sg_g σ 88 54) + 4 * sg_g σ 88 62)) → sg_F [129, 131, 133, 55088, 56088, 63088, 71088, 74088] σ σ' → Q σ') : V_leave σ v Q := by
  obtain ⟨w1, w2, w3⟩ := fO_w hO
  have c1 : ¬ v_tellsCount (sg_g σ 93 (sg_g σ 126 m)) = 0 → (0 ≤ v ∧ v < 9000) ∧ 0 ≤ sg_gl σ 124 v ∧ sg_gl σ 124 v ≤ 8040200 := fun z => by
    have t := ht z
    have w4 : (T (sg_g σ 126 m)).toNat ≤ 3 := by have := w3.2; omega
    have c3 := cB_3 w4
    obtain ⟨k, ek⟩ : ∃ k, (T (sg_g σ 126 m)).toNat = k + 1 := ⟨(T (sg_g σ 126 m)).toNat - 1, by omega⟩
    rw [ek] at hv c3
    have := hv.1
    have := hv.2.2.1
    have := hv.2.1
    omega
  refine m_leave (f := m) (n := sg_g σ 126 m) (b := sg_g σ 128 m) hw (by omega) ⟨by omega, by omega⟩ rfl ⟨w2.1, by omega⟩ rfl ⟨h0, by omega⟩ hR c1 h2 (fun z => ?_) (fun σ' x1 x2 x3 x4 x5 x6 => k σ' ?_ x6)
  · obtain ⟨m', rfl⟩ : ∃ m', m = m' + 1 := ⟨m - 1, by omega⟩
    obtain ⟨tys, a1, a2, a3, a4, a5, a6, a7⟩ := hK
    obtain ⟨u1, u2, u3⟩ := fO_w a4
    rw [show ((m' + 1 : Nat) : Int) - 1 = m' by omega]
    exact ⟨u2.1, by omega⟩
  rcases x1 with x1 | ⟨x1, x7, x8, x9⟩
  · exact Or.inl x1
  have ex : nEx σ σ' := nEx_F x6 rfl
  have bo : bOk A D T σ σ' := fun b => Or.inl (sg_F_ga x6 rfl)
  have g56 : sg_g σ' 88 56 = sg_g σ 88 56 := sg_F_g x6 (by rfl)
  have g60 : sg_g σ' 88 60 = sg_g σ 88 60 := sg_F_g x6 (by rfl)
  have rw4 : ∀ i, sg_g σ' 126 i = sg_g σ 126 i ∧ sg_g σ' 127 i = sg_g σ 127 i ∧ sg_g σ' 128 i = sg_g σ 128 i ∧ sg_g σ' 130 i = sg_g σ 130 i := fun i => ⟨sg_F_ga x6 rfl, sg_F_ga x6 rfl, sg_F_ga x6 rfl, sg_F_ga x6 rfl⟩
  have u : vU σ' (T (sg_g σ 126 m)).toNat v := by
    rcases hs with ⟨hs, -⟩ | ⟨hs, -⟩
    · refine ⟨vT_up ex hv, fun _ => ?_⟩
      have := x9 hs
      rw [sg_F_gal x6 rfl]
      omega
    · exact vU_up ex hs
  have cn : sg_g σ' 88 56 + m ≤ sg_g σ' 88 54 ∧ sg_g σ' 88 60 ≤ sg_g σ' 88 54 := by
    rcases hs with ⟨hs, h3, h4⟩ | ⟨-, h3, h4⟩
    · have := x9 hs
      omega
    · omega
  refine Or.inr ⟨x1, ⟨⟨⟨by omega, by omega, by omega, by omega⟩, by omega, by omega, by omega, x8⟩, ?_⟩, ?_⟩
  · cases m with
    | zero =>
      obtain ⟨a1, a2⟩ := hK
      refine Or.inl ⟨x5, ?_⟩
      rw [a1] at x3
      rw [x3, ← a2]
      exact u
    | succ m =>
      obtain ⟨tys, a1, a2, a3, a4, a5, a6, a7⟩ := hK
      obtain ⟨r1, r2, r3, r4⟩ := rw4 (m : Nat)
      refine Or.inr ⟨m, tys ++ [T (sg_g σ 126 (m + 1 : Nat))], by omega, by rw [r3]; exact a1, ?_, ?_, by rw [r1]; exact fO_up ex bo a4, ?_, ?_⟩
      · rw [r3, x2, a2]
        simp only [List.length_append, List.length_cons, List.length_nil]
        omega
      · rw [r3]
        refine vS_x (vS_up ex (fun x y z => x4 x (by omega)) a3) (v := v) ?_ u
        rw [← a2]; exact x3
      · rw [r1, r2, r3, r4]
        refine fS_up ex bo (fun c hs' x y z => x4 x ?_) a5
        obtain ⟨w, -, -⟩ := fO_w a4
        unfold fS at a5
        rw [if_neg (by omega), if_neg (by omega), if_pos c] at a5
        obtain ⟨bd, tl, e, a5⟩ := a5
        have wl := (w.2.2.2.2.2.2.1 c).1
        rw [e] at wl
        simp only [List.length_cons] at wl
        have tk : (tl.take (A.2.2.2.2.2 (sg_g σ 126 m)).length).length = (A.2.2.2.2.2 (sg_g σ 126 m)).length := by rw [List.length_take]; omega
        have hl : (tys ++ [T (sg_g σ 126 (m + 1 : Nat))]).length = tys.length + 1 := by simp
        rcases a5 with ⟨i, b1, b2, -⟩ | ⟨-, i, -, b3⟩
        · omega
        · rcases b3 with ⟨b3, b4⟩ | ⟨-, b3, b4⟩ | ⟨-, b3, b4⟩
          · exact absurd b3 (a6 c)
          · rw [b4] at hl
            simp only [List.length_append, List.length_map, tk, List.length_replicate, List.length_cons, List.length_nil] at hl
            omega
          · rw [b4] at hl
            simp only [List.length_append, List.length_map, tk, List.length_replicate] at hl
            omega
      · rw [r1, r3]
        exact nStk_up ex bo m _ _ (fun i _ => rw4 i) (fun x y z => x4 x (by omega)) a7
  · have := nM_le A σ'
    omega
end NEV
