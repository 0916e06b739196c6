/-! A part begins, a value leaves: the pile stays a pile. -/
section NEV
variable {A : aT} {D : List aDf} {T B : Int → Int} {r : Int}
/-- what goes down turn by turn -/
def nM (A : aT) (σ : sg_S) : Int := 10 * (3000 - sg_g σ 88 54) + 4 * sg_g σ 88 62 + (if A.2.1 (sg_g σ 126 (sg_g σ 88 62 - 1)) = 15 ∧ sg_g σ 127 (sg_g σ 88 62 - 1) = (A.2.2.2.2.2 (sg_g σ 126 (sg_g σ 88 62 - 1))).length + 1 then 0 else 1)
theorem nM_le (A : aT) (σ : sg_S) : 10 * (3000 - sg_g σ 88 54) + 4 * sg_g σ 88 62 ≤ nM A σ ∧ nM A σ ≤ 10 * (3000 - sg_g σ 88 54) + 4 * sg_g σ 88 62 + 1 := by
  unfold nM
  split <;> omega
theorem fS_0 {σ : sg_S} {n b : Int} (h : nW A n) : fS A D T σ n 0 0 b [] := by
  unfold fS
  by_cases c2 : A.2.1 n = 2
  · rw [if_pos c2]
    have := h.2.2.1 (Or.inl c2)
    match e : A.2.2.2.2.1 n, this with
    | [a, c], _ => exact ⟨a, c, rfl, Or.inl ⟨rfl, rfl⟩⟩
  rw [if_neg c2]
  by_cases c3 : A.2.1 n = 3
  · rw [if_pos c3]
    have := h.2.2.2.1 c3
    match e : A.2.2.2.2.1 n, this with
    | [a, c, d], _ => exact ⟨a, c, d, rfl, Or.inl ⟨rfl, rfl⟩⟩
  rw [if_neg c3]
  by_cases c15 : A.2.1 n = 15
  · rw [if_pos c15]
    have := (h.2.2.2.2.2.2.1 c15).1
    match e : A.2.2.2.2.1 n with
    | [] => rw [e] at this; simp at this; omega
    | bd :: tl => exact ⟨bd, tl, rfl, Or.inl ⟨0, Nat.zero_le _, rfl, rfl, by simp⟩⟩
  rw [if_neg c15]
  exact Or.inl ⟨0, Nat.zero_le _, rfl, by simp⟩
theorem ev_begin {σ : sg_S} {m : Nat} {x : Int} {Q : sg_S → Prop} (hC : nC σ) (fm : sg_g σ 88 62 = m + 1) (hK : nStk A D T B r σ (m + 1) (sg_g σ 88 70) (T x)) (hx : fO A D T B σ x) (hA : A.1 ≤ 200) (k : ∀ σ', (¬ sg_g σ' 88 73 = 0 ∨ (sg_g σ' 88 73 = 0 ∧ nIv A D T B r σ' ∧ nM A σ' < 10 * (3000 - sg_g σ 88 54) + 4 * sg_g σ 88 62)) → sg_F [126, 127, 128, 129, 130, 131, 132, 55088, 63088, 74088] σ σ' → Q σ') : V_begin σ x Q := by
  obtain ⟨⟨c1, c2, c3, c4⟩, c5, c6, c7, c8⟩ := hC
  obtain ⟨w1, w2, w3⟩ := fO_w hx
  refine m_begin ⟨by omega, c8⟩ ⟨by omega, by omega⟩ ⟨by omega, by omega⟩ (fun σ' x1 x2 x3 x4 x5 => k σ' ?_ x5)
  rcases x1 with x1 | ⟨x1, x6, x7⟩
  · exact Or.inl x1
  obtain ⟨y1, y2, y3, y4⟩ := x3
  have ex : nEx σ σ' := nEx_F x5 rfl
  have bo : bOk A D T σ σ' := fun b => Or.inl (sg_F_ga x5 rfl)
  have g56 : sg_g σ' 88 56 = sg_g σ 88 56 := sg_F_g x5 (by rfl)
  have g60 : sg_g σ' 88 60 = sg_g σ 88 60 := sg_F_g x5 (by rfl)
  have g70 : sg_g σ' 88 70 = sg_g σ 88 70 := sg_F_g x5 (by rfl)
  have fc : sg_g σ 88 62 = ((m + 1 : Nat) : Int) := by omega
  rw [fc] at y1 y2 y3 y4
  refine Or.inr ⟨x1, ⟨⟨⟨by omega, by omega, by omega, by omega⟩, by omega, by omega, by omega, x7⟩, Or.inr ⟨m + 1, [], ?_⟩⟩, ?_⟩
  · refine ⟨by omega, by omega, by simp only [List.length_nil]; omega, fun i y h => (by cases h), by rw [y1]; exact fO_up ex bo hx, by rw [y1, y2, y4]; exact fS_0 w1, ?_⟩
    rw [y1, y3]
    exact nStk_up ex bo (m + 1) _ _ (fun i hi => x4 i (by omega)) (fun x _ _ => sg_F_ga x5 rfl) hK
  · have := nM_le A σ'
    omega
theorem ev_leave {σ : sg_S} {m : Nat} {v : Int} {Q : sg_S → Prop} (hw : 0 ≤ sg_g σ 88 54 ∧ sg_g σ 88 54 ≤ 3000) (hq : (0 ≤ sg_g σ 88 56 ∧ sg_g σ 88 56 ≤ 9000) ∧ 0 ≤ sg_g σ 88 60) (fm : sg_g σ 88 62 = m + 1) (h0 : 0 ≤ sg_g σ 128 m) (hb : sg_g σ 128 m + (m + 1) ≤ sg_g σ 88 54) (hO : fO A D T B σ (sg_g σ 126 m)) (hA : A.1 ≤ 200) (hK : nStk A D T B r σ m (sg_g σ 128 m) (T (sg_g σ 126 m))) (hR : sg_R v) (hv : vT σ (T (sg_g σ 126 m)).toNat v) (hs : (¬ v_tellsCount (sg_g σ 93 (sg_g σ 126 m)) = 0 ∧ sg_g σ 88 56 + m ≤ sg_g σ 88 54 + sg_gl σ 124 v ∧ sg_g σ 88 60 ≤ sg_g σ 88 54 + sg_gl σ 124 v) ∨ (vU σ (T (sg_g σ 126 m)).toNat v ∧ sg_g σ 88 56 + m ≤ sg_g σ 88 54 ∧ sg_g σ 88 60 ≤ sg_g σ 88 54)) (ht : ¬ v_tellsCount (sg_g σ 93 (sg_g σ 126 m)) = 0 → 1 ≤ (T (sg_g σ 126 m)).toNat) (h2 : sg_g σ 93 (sg_g σ 126 m) = 18 ∨ sg_g σ 93 (sg_g σ 126 m) = 19 ∨ sg_g σ 93 (sg_g σ 126 m) = 20 → (0 ≤ sg_g σ 133 (sg_g σ 128 m) ∧ sg_g σ 133 (sg_g σ 128 m) < 9000) ∧ 0 ≤ sg_g σ 123 (sg_g σ 133 (sg_g σ 128 m)) ∧ sg_g σ 123 (sg_g σ 133 (sg_g σ 128 m)) ≤ 200) (k : ∀ σ', (¬ sg_g σ' 88 73 = 0 ∨ (sg_g σ' 88 73 = 0 ∧ nIv A D T B r σ' ∧ nM A σ' < 10 * (3000 - sg_g σ 88 54) + 4 * sg_g σ 88 62)) → sg_F [129, 131, 133, 55088, 56088, 63088, 71088, 74088] σ σ' → Q σ') : V_leave σ v Q := by
  obtain ⟨w1, w2, w3⟩ := fO_w hO
  have c1 : ¬ v_tellsCount (sg_g σ 93 (sg_g σ 126 m)) = 0 → (0 ≤ v ∧ v < 9000) ∧ 0 ≤ sg_gl σ 124 v ∧ sg_gl σ 124 v ≤ 8040200 := fun z => by
    have t := ht z
    have w4 : (T (sg_g σ 126 m)).toNat ≤ 3 := by have := w3.2; omega
    have c3 := cB_3 w4
    obtain ⟨k, ek⟩ : ∃ k, (T (sg_g σ 126 m)).toNat = k + 1 := ⟨(T (sg_g σ 126 m)).toNat - 1, by omega⟩
    rw [ek] at hv c3
    have := hv.1
    have := hv.2.2.1
    have := hv.2.1
    omega
  refine m_leave (f := m) (n := sg_g σ 126 m) (b := sg_g σ 128 m) hw (by omega) ⟨by omega, by omega⟩ rfl ⟨w2.1, by omega⟩ rfl ⟨h0, by omega⟩ hR c1 h2 (fun z => ?_) (fun σ' x1 x2 x3 x4 x5 x6 => k σ' ?_ x6)
  · obtain ⟨m', rfl⟩ : ∃ m', m = m' + 1 := ⟨m - 1, by omega⟩
    obtain ⟨tys, a1, a2, a3, a4, a5, a6, a7⟩ := hK
    obtain ⟨u1, u2, u3⟩ := fO_w a4
    rw [show ((m' + 1 : Nat) : Int) - 1 = m' by omega]
    exact ⟨u2.1, by omega⟩
  rcases x1 with x1 | ⟨x1, x7, x8, x9⟩
  · exact Or.inl x1
  have ex : nEx σ σ' := nEx_F x6 rfl
  have bo : bOk A D T σ σ' := fun b => Or.inl (sg_F_ga x6 rfl)
  have g56 : sg_g σ' 88 56 = sg_g σ 88 56 := sg_F_g x6 (by rfl)
  have g60 : sg_g σ' 88 60 = sg_g σ 88 60 := sg_F_g x6 (by rfl)
  have rw4 : ∀ i, sg_g σ' 126 i = sg_g σ 126 i ∧ sg_g σ' 127 i = sg_g σ 127 i ∧ sg_g σ' 128 i = sg_g σ 128 i ∧ sg_g σ' 130 i = sg_g σ 130 i := fun i => ⟨sg_F_ga x6 rfl, sg_F_ga x6 rfl, sg_F_ga x6 rfl, sg_F_ga x6 rfl⟩
  have u : vU σ' (T (sg_g σ 126 m)).toNat v := by
    rcases hs with ⟨hs, -⟩ | ⟨hs, -⟩
    · refine ⟨vT_up ex hv, fun _ => ?_⟩
      have := x9 hs
      rw [sg_F_gal x6 rfl]
      omega
    · exact vU_up ex hs
  have cn : sg_g σ' 88 56 + m ≤ sg_g σ' 88 54 ∧ sg_g σ' 88 60 ≤ sg_g σ' 88 54 := by
    rcases hs with ⟨hs, h3, h4⟩ | ⟨-, h3, h4⟩
    · have := x9 hs
      omega
    · omega
  refine Or.inr ⟨x1, ⟨⟨⟨by omega, by omega, by omega, by omega⟩, by omega, by omega, by omega, x8⟩, ?_⟩, ?_⟩
  · cases m with
    | zero =>
      obtain ⟨a1, a2⟩ := hK
      refine Or.inl ⟨x5, ?_⟩
      rw [a1] at x3
      rw [x3, ← a2]
      exact u
    | succ m =>
      obtain ⟨tys, a1, a2, a3, a4, a5, a6, a7⟩ := hK
      obtain ⟨r1, r2, r3, r4⟩ := rw4 (m : Nat)
      refine Or.inr ⟨m, tys ++ [T (sg_g σ 126 (m + 1 : Nat))], by omega, by rw [r3]; exact a1, ?_, ?_, by rw [r1]; exact fO_up ex bo a4, ?_, ?_⟩
      · rw [r3, x2, a2]
        simp only [List.length_append, List.length_cons, List.length_nil]
        omega
      · rw [r3]
        refine vS_x (vS_up ex (fun x y z => x4 x (by omega)) a3) (v := v) ?_ u
        rw [← a2]; exact x3
      · rw [r1, r2, r3, r4]
        refine fS_up ex bo (fun c hs' x y z => x4 x ?_) a5
        obtain ⟨w, -, -⟩ := fO_w a4
        unfold fS at a5
        rw [if_neg (by omega), if_neg (by omega), if_pos c] at a5
        obtain ⟨bd, tl, e, a5⟩ := a5
        have wl := (w.2.2.2.2.2.2.1 c).1
        rw [e] at wl
        simp only [List.length_cons] at wl
        have tk : (tl.take (A.2.2.2.2.2 (sg_g σ 126 m)).length).length = (A.2.2.2.2.2 (sg_g σ 126 m)).length := by rw [List.length_take]; omega
        have hl : (tys ++ [T (sg_g σ 126 (m + 1 : Nat))]).length = tys.length + 1 := by simp
        rcases a5 with ⟨i, b1, b2, -⟩ | ⟨-, i, -, b3⟩
        · omega
        · rcases b3 with ⟨b3, b4⟩ | ⟨-, b3, b4⟩ | ⟨-, b3, b4⟩
          · exact absurd b3 (a6 c)
          · rw [b4] at hl
            simp only [List.length_append, List.length_map, tk, List.length_replicate, List.length_cons, List.length_nil] at hl
            omega
          · rw [b4] at hl
            simp only [List.length_append, List.length_map, tk, List.length_replicate] at hl
            omega
      · rw [r1, r3]
        exact nStk_up ex bo m _ _ (fun i _ => rw4 i) (fun x y z => x4 x (by omega)) a7
  · have := nM_le A σ'
    omega
end NEV
/-! The end of a node: its value is made, and leaves. -/
section NEN
variable {A : aT} {D : List aDf} {T B : Int → Int} {r : Int}
/-- what a turn comes to -/
def nQ (A : aT) (D : List aDf) (T B : Int → Int) (r : Int) (σ σ' : sg_S) : Prop := ¬ sg_g σ' 88 73 = 0 ∨ (sg_g σ' 88 73 = 0 ∧ nIv A D T B r σ' ∧ nM A σ' < nM A σ)
theorem ev_lv {σ σ1 : sg_S} {m : Nat} {ty : List Int} {v : Int} {Q : sg_S → Prop} (h : nTop A D T B r σ m ty) (hC : nC σ) (hA : A.1 ≤ 200) (f : sg_F [122, 123, 124, 125, 129, 135, 57088, 61088, 74088] σ σ1) (hR : sg_R v) (ho : oK σ σ1 (T (sg_g σ 126 m)).toNat v) (hs : ¬ v_tellsCount (sg_g σ 93 (sg_g σ 126 m)) = 0 ∨ (vU σ1 (T (sg_g σ 126 m)).toNat v ∧ sg_g σ1 88 56 = sg_g σ 88 56 ∧ sg_g σ1 88 60 = sg_g σ 88 60)) (ht : ¬ v_tellsCount (sg_g σ 93 (sg_g σ 126 m)) = 0 → 1 ≤ (T (sg_g σ 126 m)).toNat) (h2 : sg_g σ 93 (sg_g σ 126 m) = 18 ∨ sg_g σ 93 (sg_g σ 126 m) = 19 ∨ sg_g σ 93 (sg_g σ 126 m) = 20 → vT σ 1 (sg_g σ 133 (sg_g σ 128 m))) (k : ∀ σ', nQ A D T B r σ σ' → Q σ') : V_leave σ1 v (fun σ4 => sg_F [129, 131, 133, 55088, 56088, 63088, 71088, 74088] σ1 σ4 → Q σ4) := by
  obtain ⟨h1, h3, h4, h5, h6, h7, h8⟩ := h
  obtain ⟨⟨c1, c2, c3, c4⟩, c5, c6, c7, c8⟩ := hC
  obtain ⟨ex, o1, o2, o3⟩ := ho
  have bo : bOk A D T σ σ1 := fun b => Or.inl (sg_F_ga f rfl)
  have g54 : sg_g σ1 88 54 = sg_g σ 88 54 := sg_F_g f (by rfl)
  have g62 : sg_g σ1 88 62 = sg_g σ 88 62 := sg_F_g f (by rfl)
  have e6 : ∀ i, sg_g σ1 126 i = sg_g σ 126 i := fun i => sg_F_ga f rfl
  have e8 : ∀ i, sg_g σ1 128 i = sg_g σ 128 i := fun i => sg_F_ga f rfl
  have e93 : ∀ i, sg_g σ1 93 i = sg_g σ 93 i := fun i => sg_F_ga f rfl
  have e133 : ∀ i, sg_g σ1 133 i = sg_g σ 133 i := fun i => sg_F_ga f rfl
  have sq : sg_g σ1 88 56 ≤ sg_g σ 88 56 + 300 := by
    rcases Nat.eq_zero_or_pos (T (sg_g σ 126 m)).toNat with z | z
    · rw [(o3 z).2]; omega
    · exact (o2 z).2.2
  have hM := nM_le A σ
  refine ev_leave (A := A) (D := D) (T := T) (B := B) (r := r) (m := m) (by omega) ⟨⟨by have := ex.1.1; omega, by omega⟩, by have := ex.1.2; omega⟩ (by omega) (by rw [e8]; exact h3) (by rw [e8]; omega) (by rw [e6]; exact fO_up ex bo h6) hA ?_ hR (by rw [e6]; exact o1) ?_ (by rw [e6, e93]; exact ht) ?_ (fun σ' x1 _ _ => k σ' ?_)
  · rw [e6, e8]
    exact nStk_up ex bo m _ _ (fun i _ => ⟨e6 i, sg_F_ga f rfl, e8 i, sg_F_ga f rfl⟩) (fun x _ _ => e133 x) h8
  · rw [e6, e93]
    rcases hs with hs | ⟨u, s1, s2⟩
    · have := o2 (ht hs)
      exact Or.inl ⟨hs, by omega, by omega⟩
    · exact Or.inr ⟨u, by omega, by omega⟩
  · rw [e6, e93, e8, e133]
    intro z
    have t := h2 z
    have := ex.1.1
    rw [(ex.2.1 _ t.1.1 t.1.2).2.1]
    have := t.1
    have := t.2.1
    exact ⟨⟨by omega, by omega⟩, by omega, by omega⟩
  · rcases x1 with x1 | ⟨x1, x2, x3⟩
    · exact Or.inl x1
    · exact Or.inr ⟨x1, x2, by omega⟩
theorem oK_v {σ : sg_S} {k : Nat} {v : Int} (h : vU σ k v) : oK σ σ k v := ⟨nEx_r σ, h.1, fun z => by
    obtain ⟨k', rfl⟩ : ∃ k', k = k' + 1 := ⟨k - 1, by omega⟩
    have := vT_c0 h.1
    exact ⟨by omega, by omega, by omega⟩, fun _ => ⟨rfl, rfl⟩⟩
/-- a value that stands there already -/
theorem ev_v {σ : sg_S} {m : Nat} {ty : List Int} {v : Int} {Q : sg_S → Prop} (h : nTop A D T B r σ m ty) (hC : nC σ) (hA : A.1 ≤ 200) (hR : sg_R v) (hv : vU σ (T (sg_g σ 126 m)).toNat v) (ht : v_tellsCount (sg_g σ 93 (sg_g σ 126 m)) = 0) (h2 : ¬ (sg_g σ 93 (sg_g σ 126 m) = 18 ∨ sg_g σ 93 (sg_g σ 126 m) = 19 ∨ sg_g σ 93 (sg_g σ 126 m) = 20)) (k : ∀ σ', nQ A D T B r σ σ' → Q σ') : V_leave σ v (fun σ4 => sg_F [129, 131, 133, 55088, 56088, 63088, 71088, 74088] σ σ4 → Q σ4) :=
  ev_lv h hC hA (sg_F_r _ _) hR (oK_v hv) (Or.inr ⟨hv, rfl, rfl⟩) (fun z => absurd ht z) (fun z => absurd z h2) k
end NEN
/-! endNested: the value of a node whose parts are there. -/
theorem p_op (a b c : Int) : p_operated a b c := by
  unfold p_operated
  exact ⟨fun _ => ⟨fun _ => trivial, fun _ => trivial⟩, fun _ => ⟨fun _ => ⟨fun _ => trivial, fun _ => trivial⟩, fun _ => ⟨fun _ => trivial, fun _ => ⟨fun _ => trivial, fun _ => ⟨fun _ => trivial, fun _ => ⟨fun z => ⟨fun _ => ⟨z, trivial⟩, fun _ => ⟨z, trivial⟩⟩, fun _ => trivial⟩⟩⟩⟩⟩⟩
theorem R_op (a b c : Int) : sg_R (v_operated a b c) := by
  unfold v_operated
  by_cases c1 : a = 4
  · rw [if_pos c1]; split <;> exact ⟨by decide, by decide⟩
  rw [if_neg c1]
  by_cases c2 : a = 5
  · rw [if_pos c2]; split <;> exact ⟨by decide, by decide⟩
  rw [if_neg c2]
  by_cases c3 : a = 6
  · rw [if_pos c3]; exact sg_Rn _
  rw [if_neg c3]
  by_cases c4 : a = 7
  · rw [if_pos c4]; exact sg_Rn _
  rw [if_neg c4]
  by_cases c5 : a = 8
  · rw [if_pos c5]; exact sg_Rn _
  rw [if_neg c5]
  split
  · split <;> exact sg_Rr _
  · exact ⟨by decide, by decide⟩
section KTY
variable {A : aT} {ds : kD} {T : Int → Int} {e : kE} {n : Int} {ts : List Int}
theorem kTy_0 (z : A.2.1 n = 0) : kTy A ds T e n ts = some 0 := by unfold kTy; simp only [z, if_true]
theorem kTy_2 (z : A.2.1 n = 2) : kTy A ds T e n ts = some (ts.getD 1 0) := by unfold kTy; simp only [z]; rfl
theorem kTy_3 (z : A.2.1 n = 3) : kTy A ds T e n ts = kIs (decide (ts.getD 0 0 = 0) && decide (ts.getD 1 0 = ts.getD 2 0)) (ts.getD 1 0) := by unfold kTy; simp only [z]; rfl
theorem kTy_op (z : 4 ≤ A.2.1 n ∧ A.2.1 n < 11) : kTy A ds T e n ts = kIs (decide (ts.getD 0 0 = 0) && decide (ts.getD 1 0 = 0)) 0 := by
  unfold kTy
  simp only
  rw [if_neg (by omega), if_neg (by omega), if_neg (by omega), if_neg (by omega), if_pos z.2]
theorem kTy_11 (z : A.2.1 n = 11) : kTy A ds T e n ts = kIs (decide (0 < ts.getD 0 0)) 0 := by unfold kTy; simp only [z]; rfl
theorem kTy_12 (z : A.2.1 n = 12) : kTy A ds T e n ts = kIs (decide (0 < ts.getD 0 0) && decide (ts.getD 1 0 = 0)) (ts.getD 0 0 - 1) := by unfold kTy; simp only [z]; rfl
theorem kTy_c (z : A.2.1 n = 13) : kTy A ds T e n ts = (match kDef ds (A.2.2.2.1 n) with
    | none => none
    | some (ps, r) => kIs (decide (ts = ps)) (T r)) := by unfold kTy; simp only [z]; rfl
theorem kTy_14 (z : A.2.1 n = 14) : kTy A ds T e n ts = kIs (ts.all (fun x => decide (x = ts.getD 0 0))) (ts.getD 0 0 + 1) := by unfold kTy; simp only [z]; rfl
theorem kTy_15 (z : A.2.1 n = 15) : kTy A ds T e n ts = kIs (decide (ts.length ≠ 2 + (A.2.2.2.2.2 n).length) || decide (ts.getD (ts.length - 1) 0 = 0)) (ts.getD 0 0 + 1) := by unfold kTy; simp only [z]; rfl
theorem kTy_act (z : 16 ≤ A.2.1 n) : kTy A ds T e n ts = kAct (A.2.1 n) ts := by
  unfold kTy
  simp only
  rw [if_neg (by omega), if_neg (by omega), if_neg (by omega), if_neg (by omega), if_neg (by omega), if_neg (by omega), if_neg (by omega), if_neg (by omega), if_neg (by omega), if_neg (by omega)]
theorem kAct_i {k t : Int} (h : kAct k ts = some t) : (ts.length = 1 ∨ ts.length = 2) ∧ (k = 18 ∨ k = 19 ∨ k = 20 → ts.getD 0 0 = 1 ∧ t = 0) ∧ (¬ (k = 18 ∨ k = 19 ∨ k = 20) → 0 ≤ ts.getD 0 0 → 1 ≤ t) := by
  unfold kAct at h
  simp only at h
  repeat' split at h
  all_goals
    obtain ⟨e1, e2, e3⟩ := kIs_in h
    simp only [Bool.and_eq_true, decide_eq_true_eq] at e3
    refine ⟨by omega, fun z => ?_, fun z y => ?_⟩ <;> omega
theorem tC_act {k : Int} (h : 16 ≤ k) (h2 : ¬ (k = 18 ∨ k = 19 ∨ k = 20)) : ¬ v_tellsCount k = 0 := by
  unfold v_tellsCount
  by_cases c1 : k = 14
  · rw [if_pos c1]; decide
  rw [if_neg c1]
  by_cases c2 : k = 15
  · rw [if_pos c2]; decide
  rw [if_neg c2]
  by_cases c3 : k = 16
  · rw [if_pos c3]; decide
  rw [if_neg c3]
  by_cases c4 : k = 17
  · rw [if_pos c4]; decide
  rw [if_neg c4, if_neg (by omega)]; decide
theorem tC_no {k : Int} (h : k = 18 ∨ k = 19 ∨ k = 20 ∨ (0 ≤ k ∧ k ≤ 13)) : v_tellsCount k = 0 := by
  unfold v_tellsCount
  rw [if_neg (by omega), if_neg (by omega), if_neg (by omega), if_neg (by omega), if_pos (by omega)]
end KTY
section NEE
variable {A : aT} {D : List aDf} {T B : Int → Int} {r : Int}
theorem vS_at {σ : sg_S} {b : Int} {ks : List Int} (h : vS σ b (ks.map T)) {i : Nat} {x : Int} (hx : ks[i]? = some x) : vU σ (T x).toNat (sg_g σ 133 (b + i)) := h i (T x) (by rw [List.getElem?_map, hx]; rfl)
theorem vS_0 {σ : sg_S} {b x : Int} {ty : List Int} (h : vS σ b (x :: ty)) : vU σ x.toNat (sg_g σ 133 b) := by
  have := h 0 x rfl
  rwa [show b + ((0 : Nat) : Int) = b by omega] at this
theorem vS_1 {σ : sg_S} {b x y : Int} {ty : List Int} (h : vS σ b (x :: y :: ty)) : vU σ y.toNat (sg_g σ 133 (b + 1)) := h 1 y rfl
theorem tr_k {σ : sg_S} (h : trT σ A) {n : Int} (hn : 0 ≤ n ∧ n < A.1) : sg_g σ 93 n = A.2.1 n ∧ sg_g σ 96 n = (A.2.2.2.2.1 n).length ∧ (A.2.2.2.2.1 n).length ≤ 200 ∧ (∀ (j : Nat) (x : Int), (A.2.2.2.2.1 n)[j]? = some x → sg_g σ 97 (200 * n + j) = x) ∧ sg_g σ 98 n = (A.2.2.2.2.2 n).length := by
  obtain ⟨a1, a2, a3, a4, a5, a6, a7, a8⟩ := h.1.2.2.2 n hn.1 hn.2
  exact ⟨a1, a4, a5, a6, a7⟩
theorem fO_t {σ : sg_S} {n : Int} (h : fO A D T B σ n) : (A.2.1 n = 1 → (0 ≤ B n ∧ B n < 1200) ∧ vU σ (T n).toNat (sg_g σ 134 (B n))) ∧ (¬ A.2.1 n = 1 → ∃ j, kTy A (kDl (D.take j) []) T [] n ((A.2.2.2.2.1 n).map T) = some (T n) ∧ (A.2.1 n = 13 → kDx (kDl (D.take j) []) (A.2.2.2.1 n) = some (B n))) ∧ (¬ A.2.1 n = 2 → ¬ A.2.1 n = 15 → ∀ x ∈ A.2.2.2.2.1 n, fO A D T B σ x) := by
  obtain ⟨j, f, sc, a1, a2⟩ := h
  cases f with
  | zero => cases a1
  | succ f =>
    obtain ⟨b1, b2, b3, b4, b5, b6, b7, b8, b9⟩ := a1
    refine ⟨fun z => ?_, fun z => ⟨j, b5 z, b6⟩, fun z1 z2 x hx => ⟨j, f, sc, b9 z1 z2 x hx, a2⟩⟩
    obtain ⟨c1, c2, c3⟩ := a2 _ (b4 z)
    exact ⟨c1, c3⟩
theorem kid1 {ks : List Int} (h : ks.length = 1) : ∃ a, ks = [a] := by
  match ks, h with
  | [a], _ => exact ⟨a, rfl⟩
theorem kid2 {ks : List Int} (h : ks.length = 2) : ∃ a b, ks = [a, b] := by
  match ks, h with
  | [a, b], _ => exact ⟨a, b, rfl⟩
theorem m_endN {σ : sg_S} {m : Nat} {n b : Int} {ty : List Int} {Q : sg_S → Prop} (hP : trT σ A) (eT : ∀ n, sg_g σ 101 n = T n) (eB : ∀ n, sg_g σ 102 n = B n) (hA : A.1 ≤ 200) (h : nTop A D T B r σ m ty) (hC : nC σ) (he : sg_g σ 88 73 = 0) (en : sg_g σ 126 m = n) (eb : sg_g σ 128 m = b) (hk : ((A.2.1 n = 2 ∨ A.2.1 n = 13) ∧ ty = [T n]) ∨ ((¬ A.2.1 n = 2 ∧ ¬ A.2.1 n = 3 ∧ ¬ A.2.1 n = 13 ∧ ¬ A.2.1 n = 15) ∧ ty = (A.2.2.2.2.1 n).map T)) (k : ∀ σ', nQ A D T B r σ σ' → Q σ') : V_endNested σ n b Q := by
  have hh := h
  obtain ⟨h1, h3, h4, h5, h6, h7, h8⟩ := h
  rw [eb] at h3 h4 h5
  rw [en] at h6
  obtain ⟨w1, w2, w3⟩ := fO_w h6
  obtain ⟨t1, t2, t3, t4, t5⟩ := tr_k hP w2
  obtain ⟨o1, o2, o3⟩ := fO_t h6
  have hC' := hC
  obtain ⟨⟨c1, c2, c3, c4⟩, c5, c6, c7, c8⟩ := hC'
  have hn : 0 ≤ n ∧ n < 210 := ⟨w2.1, by omega⟩
  have hB : nB σ := ⟨⟨c1, by omega⟩, c2, by omega⟩
  have fault : ∀ e : Int, sg_R e ∧ ¬ e = 0 → V_ends σ e (fun σ' => sg_F [74088] σ σ' → Q σ') := fun e he => m_ends he (fun σ' x1 x2 _ => k σ' (Or.inl x1))
  have lv : ∀ v, sg_R v → vU σ (T n).toNat v → v_tellsCount (sg_g σ 93 n) = 0 → ¬ (sg_g σ 93 n = 18 ∨ sg_g σ 93 n = 19 ∨ sg_g σ 93 n = 20) → V_leave σ v (fun σ4 => sg_F [129, 131, 133, 55088, 56088, 63088, 71088, 74088] σ σ4 → Q σ4) := fun v x1 x2 x3 x4 => by
    rw [← en] at x2 x3 x4
    exact ev_v hh hC hA x1 x2 x3 x4 k
  have tc : ∀ a, A.2.1 n = a → v_tellsCount a = 0 → v_tellsCount (sg_g σ 93 n) = 0 := fun a ea ha => by rw [t1, ea]; exact ha
  have b12 : ty.length ≤ 3000 ∧ b + ty.length ≤ 3000 := by omega
  unfold V_endNested
  refine ⟨hn, fun z => ?_, fun z0 => ⟨fun z => ?_, fun z1 => ⟨fun z => ?_, fun z2 => ⟨fun z => ?_, fun z11 => ⟨fun z => ?_, fun z12 => ⟨fun z => ?_, fun z13 => ⟨fun z => ?_, fun z14 => ?_⟩⟩⟩⟩⟩⟩⟩
  · rw [t1] at z
    unfold V_endNested_0
    have e0 : T n = 0 := by
      obtain ⟨j, g, -⟩ := o2 (by omega)
      rw [kTy_0 z, Option.some.injEq] at g
      exact g.symm
    exact ⟨hn, fun q => absurd he q, fun _ => lv _ (sg_Rn _) (by rw [e0]; exact ⟨trivial, fun q => by cases q⟩) (tc 0 z rfl) (by omega)⟩
  · rw [t1] at z
    obtain ⟨p1, p2⟩ := o1 z
    unfold V_endNested_1
    rw [eB]
    exact ⟨hn, p1, fun q => absurd he q, fun _ => lv _ (sg_Rg _ _ _) p2 (tc 1 z rfl) (by omega)⟩
  · rw [t1] at z
    have ety : ty = [T n] := by rcases hk with ⟨-, q⟩ | ⟨q, -⟩; exact q; exact absurd z q.1
    rw [ety] at h5
    unfold V_endNested_2
    exact ⟨⟨h3, by omega⟩, fun q => absurd he q, fun _ => lv _ (sg_Rg _ _ _) (vS_0 h5) (tc 2 z rfl) (by omega)⟩
  · rw [t1] at z
    have ety : ty = (A.2.2.2.2.1 n).map T := by rcases hk with ⟨q, -⟩ | ⟨-, q⟩; omega; exact q
    obtain ⟨a, ea⟩ := kid1 (w1.2.2.2.2.1 z)
    obtain ⟨j, g, -⟩ := o2 (by omega)
    rw [kTy_11 z, ea] at g
    obtain ⟨g1, g2, g3⟩ := kIs_in g
    simp only [List.map_cons, List.getD_cons_zero, decide_eq_true_eq] at g3
    rw [ety, ea] at h5
    have u := vS_0 h5
    rw [show (T a).toNat = ((T a).toNat - 1) + 1 by omega] at u
    have v9 := vT_9 hB u.1
    unfold V_endNested_11
    exact ⟨⟨h3, by omega⟩, v9.1, fun q => absurd he q, fun _ => lv _ (sg_Rg _ _ _) (by rw [g1]; exact ⟨trivial, fun q => by cases q⟩) (tc 11 z rfl) (by omega)⟩
  · rw [t1] at z
    have ety : ty = (A.2.2.2.2.1 n).map T := by rcases hk with ⟨q, -⟩ | ⟨-, q⟩; omega; exact q
    obtain ⟨a, c, ea⟩ := kid2 (w1.2.2.1 (Or.inr (Or.inr z)))
    obtain ⟨j, g, -⟩ := o2 (by omega)
    rw [kTy_12 z, ea] at g
    obtain ⟨g1, g2, g3⟩ := kIs_in g
    simp only [List.map_cons, List.getD_cons_zero, List.getD_cons_succ, Bool.and_eq_true, decide_eq_true_eq] at g1 g3
    rw [ety, ea] at h5
    have hl : ty.length = 2 := by rw [ety, ea]; rfl
    have u := vS_0 h5
    rw [show (T a).toNat = (T n).toNat + 1 by omega] at u
    have v9 := vT_9 hB u.1
    unfold V_endNested_12
    refine ⟨⟨by omega, by omega⟩, ⟨by omega, by omega⟩, ⟨h3, by omega⟩, v9.1, ⟨by omega, by omega⟩, fun q => ?_, fun _ => fault 2 (by decide)⟩
    have hi := Decidable.byContradiction (fun y => q (v_in_n.mpr y))
    exact ⟨(vT_it (by omega) (by omega) u.1 hi.1 (by omega)).1, fun q => absurd he q, fun _ => lv _ (sg_Rg _ _ _) (vU_it u hi.1 (by omega)) (tc 12 z rfl) (by omega)⟩
  · rw [t1] at z
    have ety : ty = [T n] := by rcases hk with ⟨-, q⟩ | ⟨q, -⟩; exact q; exact absurd z q.2.2.1
    rw [ety] at h5
    unfold V_endNested_2
    exact ⟨⟨h3, by omega⟩, fun q => absurd he q, fun _ => lv _ (sg_Rg _ _ _) (vS_0 h5) (tc 13 z rfl) (by omega)⟩
  · rw [t1] at z
    have ety : ty = (A.2.2.2.2.1 n).map T := by rcases hk with ⟨q, -⟩ | ⟨-, q⟩; omega; exact q
    have hl := w1.2.2.2.2.2.1 z
    obtain ⟨j, g, -⟩ := o2 (by omega)
    rw [kTy_14 z] at g
    obtain ⟨g1, g2, g3⟩ := kIs_in g
    rw [List.all_eq_true] at g3
    obtain ⟨a0, ea0⟩ : ∃ a0, a0 = ((A.2.2.2.2.1 n).map T).getD 0 0 := ⟨_, rfl⟩
    rw [← ea0] at g1 g2 g3
    have all : ∀ x ∈ A.2.2.2.2.1 n, T x = a0 := fun x hx => by
      have := g3 (T x) (List.mem_map_of_mem hx)
      simpa using this
    have a00 : 0 ≤ a0 := by
      match e : A.2.2.2.2.1 n, hl with
      | x :: l, _ =>
        rw [e] at all
        rw [← all x (by simp)]
        exact (fO_w (o3 (by omega) (by omega) x (by rw [e]; simp))).2.2.1
    have v1 : ∀ i : Nat, i < (A.2.2.2.2.1 n).length → vU σ a0.toNat (sg_g σ 133 (b + i)) := fun i hi => by
      have e : (A.2.2.2.2.1 n)[i]? = some ((A.2.2.2.2.1 n)[i]'hi) := List.getElem?_eq_getElem hi
      rw [ety] at h5
      have := vS_at h5 e
      rwa [all _ (List.getElem_mem hi)] at this
    have tl : ty.length = (A.2.2.2.2.1 n).length := by rw [ety]; simp
    unfold V_endNested_14
    refine ⟨fun q v σ3 => q = ((A.2.2.2.2.1 n).length - v).toNat ∧ (0 ≤ v ∧ v ≤ (A.2.2.2.2.1 n).length) ∧ nAd σ σ3 a0.toNat v, fun σ3 => nAd σ σ3 a0.toNat (A.2.2.2.2.1 n).length, ⟨_, rfl, ⟨by omega, by omega⟩, nAd_0 σ _⟩, ?_, ?_⟩
    · rintro q v σ3 rv f3 ⟨em, hv, hA⟩
      refine ⟨hn, fun y => ?_, fun y => ⟨⟨by omega, by omega⟩, ⟨by omega, by omega⟩, ?_⟩⟩
      · rw [show ((A.2.2.2.2.1 n).length : Int) = v by omega]; exact hA
      · have vv := v1 v.toNat (by omega)
        rw [show ((v.toNat : Nat) : Int) = v by omega] at vv
        exact m_addA hB (by omega) hA (sg_Rg _ _ _) (vT_up hA.1 vv.1) (fun σ' x1 _ x2 _ => ⟨⟨by omega, by omega⟩, _, by omega, rfl, ⟨by omega, by omega⟩, x1⟩)
    · intro σ3 f3 h3'
      rw [t2, eT]
      refine ⟨hn, m_seqA hB ⟨by omega, by omega⟩ h3' (k := a0.toNat) (by omega) (by omega) (fun q σ' x1 x2 x3 _ => ⟨fun y => absurd he y, fun _ => ?_⟩)⟩
      rw [← en] at g1 t1 z
      refine ev_lv hh hC hA (sg_F_t (sg_F_m f3 rfl) (sg_F_m x2 rfl)) x3 ?_ (Or.inl ?_) (fun _ => ?_) (fun y => ?_) k
      · rw [g1, show (a0 + 1).toNat = a0.toNat + 1 by omega]; exact x1
      · rw [t1, z]; decide
      · rw [g1]; omega
      · omega
  · rw [t1] at z0 z1 z2 z11 z12 z13 z14
    have ety : ty = (A.2.2.2.2.1 n).map T := by rcases hk with ⟨q, -⟩ | ⟨-, q⟩; omega; exact q
    have hk3 : ¬ A.2.1 n = 3 ∧ ¬ A.2.1 n = 15 := by rcases hk with ⟨q, -⟩ | ⟨q, -⟩ <;> omega
    have w0 := w1.1
    unfold V_endNested_d
    refine ⟨hn, fun z => ?_, fun z => ?_⟩
    · rw [t1] at z
      obtain ⟨j, g, -⟩ := o2 (by omega)
      rw [kTy_act (by omega)] at g
      have tl : ty.length = (A.2.2.2.2.1 n).length := by rw [ety]; simp
      rw [← ety] at g
      have tys : ∀ x ∈ ty, kIn x := fun x hx => by
        rw [ety] at hx
        obtain ⟨y, hy, e⟩ := List.mem_map.mp hx
        rw [← e]
        exact (fO_w (o3 (by omega) (by omega) y hy)).2.2
      obtain ⟨i1, i2, i3⟩ := kAct_i g
      have u0 : vU σ (ty.getD 0 0).toNat (sg_g σ 133 b) := by
        match e : ty, h5, i1 with
        | x :: l, h5, _ => exact vS_0 h5
      have g0 : 0 ≤ ty.getD 0 0 := by
        match e : ty, tys, i1 with
        | x :: l, tys, _ => exact (tys x (by simp)).1
      refine ⟨⟨h3, by omega⟩, ⟨fun _ => trivial, fun y => ⟨⟨by omega, by omega⟩, ⟨by omega, by omega⟩, trivial⟩⟩, fun v6 e6 r6 => ?_⟩
      have u1 : vT σ (ty.getD 1 0).toNat v6 := by
        match e : ty, h5, i1, tl with
        | [x], _, _, _ => exact trivial
        | [x, y], h5, _, tl =>
          rw [e6, if_neg (by rw [t2, ← tl]; simp)]
          exact (vS_1 h5).1
      rw [← t1, ← eT n] at g
      refine m_acted (ts := ty) ⟨⟨c1, by omega⟩, c2, by omega⟩ hn (by omega) (sg_Rg _ _ _) tys g u0.1 u1 ⟨fun q σ' x1 x2 x3 _ _ => ⟨fun _ => k σ' (Or.inl x1), fun y => absurd y x1⟩, fun q σ' x1 x2 x3 x4 _ => ⟨fun y => absurd (x2.trans he) y, fun _ => ?_⟩⟩
      rw [eT] at x1
      have z16 : 16 ≤ A.2.1 n := by omega
      rw [← en] at x1 t1 i2 i3 z16
      refine ev_lv hh hC hA (sg_F_m x3 rfl) x4 x1 ?_ (fun y => ?_) (fun y => ?_) k
      · by_cases y : A.2.1 (sg_g σ 126 m) = 18 ∨ A.2.1 (sg_g σ 126 m) = 19 ∨ A.2.1 (sg_g σ 126 m) = 20
        · have e0 := (i2 y).2
          rw [en] at e0
          rw [en, e0] at x1 ⊢
          exact Or.inr ⟨⟨trivial, fun q => by cases q⟩, (x1.2.2.2 rfl).2, (x1.2.2.2 rfl).1⟩
        · rw [t1]; exact Or.inl (tC_act z16 y)
      · by_cases y' : A.2.1 (sg_g σ 126 m) = 18 ∨ A.2.1 (sg_g σ 126 m) = 19 ∨ A.2.1 (sg_g σ 126 m) = 20
        · exact absurd (by rw [t1]; exact tC_no (by omega)) y
        · have := i3 y' g0
          omega
      · rw [t1] at y
        rw [eb]
        rw [(i2 y).1] at u0
        exact u0.1
    · rw [t1] at z
      obtain ⟨c, d, ea⟩ := kid2 (w1.2.2.1 (by omega))
      obtain ⟨j, g, -⟩ := o2 (by omega)
      rw [kTy_op (by omega), ea] at g
      obtain ⟨g1, g2, g3⟩ := kIs_in g
      have hl : ty.length = 2 := by rw [ety, ea]; rfl
      have o : V_leave σ (v_operated (sg_g σ 93 n) (sg_g σ 133 b) (sg_g σ 133 (b + 1))) (fun σ4 => sg_F [129, 131, 133, 55088, 56088, 63088, 71088, 74088] σ σ4 → Q σ4) := lv _ (R_op _ _ _) (by rw [g1]; exact ⟨trivial, fun q => by cases q⟩) (by rw [t1]; exact tC_no (by omega)) (by omega)
      exact ⟨fun _ => ⟨⟨by omega, by omega⟩, ⟨by omega, by omega⟩, fun _ => ⟨⟨h3, by omega⟩, p_op _ _ _, fun q => absurd he q, fun _ => o⟩, fun _ => fault 1 (by decide)⟩, fun _ => ⟨fun _ => ⟨⟨h3, by omega⟩, ⟨by omega, by omega⟩, ⟨by omega, by omega⟩, p_op _ _ _, fun q => absurd he q, fun _ => o⟩, fun _ => ⟨⟨by omega, by omega⟩, ⟨by omega, by omega⟩, fun _ => ⟨⟨h3, by omega⟩, p_op _ _ _, fun q => absurd he q, fun _ => o⟩, fun _ => fault 1 (by decide)⟩⟩⟩
end NEE
/-! A frame goes to its next stage, and a part begins; DEFS by number. -/
section NST2
variable {A : aT} {D : List aDf} {T B : Int → Int} {r : Int}
theorem ev_st {σ σ3 : sg_S} {m : Nat} {x s' : Int} {tys : List Int} {Q : sg_S → Prop} (F : sg_F [127, 131, 134, 71088] σ σ3) (hb : bOk A D T σ σ3) (r127 : ∀ i, ¬ i = (m : Int) → sg_g σ3 127 i = sg_g σ 127 i) (e127 : sg_g σ3 127 m = s') (hC : nC σ) (fm : sg_g σ 88 62 = m + 1) (h0 : 0 ≤ sg_g σ 128 m) (hv : sg_g σ3 88 70 = sg_g σ 128 m + tys.length) (hv2 : sg_g σ3 88 70 ≤ sg_g σ 88 70) (hS : vS σ (sg_g σ 128 m) tys) (hO : fO A D T B σ (sg_g σ 126 m)) (hF : fS A D T σ3 (sg_g σ 126 m) s' (sg_g σ 130 m) (sg_g σ 128 m) (tys ++ [T x])) (h15 : A.2.1 (sg_g σ 126 m) = 15 → ¬ s' = (A.2.2.2.2.2 (sg_g σ 126 m)).length + 1) (hK : nStk A D T B r σ m (sg_g σ 128 m) (T (sg_g σ 126 m))) (hx : fO A D T B σ3 x) (hA : A.1 ≤ 200) (k : ∀ σ', nQ A D T B r σ σ' → Q σ') : V_begin σ3 x (fun σ10 => sg_F [126, 127, 128, 129, 130, 131, 132, 55088, 63088, 74088] σ3 σ10 → Q σ10) := by
  obtain ⟨⟨c1, c2, c3, c4⟩, c5, c6, c7, c8⟩ := hC
  have g54 : sg_g σ3 88 54 = sg_g σ 88 54 := sg_F_g F (by rfl)
  have g56 : sg_g σ3 88 56 = sg_g σ 88 56 := sg_F_g F (by rfl)
  have g60 : sg_g σ3 88 60 = sg_g σ 88 60 := sg_F_g F (by rfl)
  have g62 : sg_g σ3 88 62 = sg_g σ 88 62 := sg_F_g F (by rfl)
  have e6 : ∀ i, sg_g σ3 126 i = sg_g σ 126 i := fun i => sg_F_ga F rfl
  have e8 : ∀ i, sg_g σ3 128 i = sg_g σ 128 i := fun i => sg_F_ga F rfl
  have e30 : ∀ i, sg_g σ3 130 i = sg_g σ 130 i := fun i => sg_F_ga F rfl
  have ex : nEx σ σ3 := nEx_F F rfl
  have hM := nM_le A σ
  refine ev_begin (A := A) (D := D) (T := T) (B := B) (r := r) (m := m) ⟨⟨by omega, by omega, by omega, by omega⟩, by omega, by omega, by omega, by omega⟩ (by omega) ⟨tys, by rw [e8]; exact h0, by rw [e8]; exact hv, ?_, by rw [e6]; exact fO_up ex hb hO, ?_, by rw [e6, e127]; exact h15, ?_⟩ hx hA (fun σ' x1 _ _ => k σ' ?_)
  · rw [e8]; exact vS_up ex (fun y _ _ => sg_F_ga F rfl) hS
  · rw [e6, e8, e30, e127]
    exact hF
  · rw [e6, e8]
    exact nStk_up ex hb m _ _ (fun i hi => ⟨e6 i, r127 i (by omega), e8 i, e30 i⟩) (fun y _ _ => sg_F_ga F rfl) hK
  · rcases x1 with x1 | ⟨x1, x2, x3⟩
    · exact Or.inl x1
    · exact Or.inr ⟨x1, x2, by omega⟩
theorem ev_part {σ σ9 : sg_S} {m : Nat} {x n part : Int} {tys : List Int} {Q : sg_S → Prop} (F : sg_F [134, 71088] σ σ9) (hb : bOk A D T σ σ9) (hP : trT σ A) (hC : nC σ) (en : sg_g σ 126 m = n) (fm : sg_g σ 88 62 = m + 1) (h0 : 0 ≤ sg_g σ 128 m) (hv : sg_g σ9 88 70 = sg_g σ 128 m + tys.length) (hv2 : sg_g σ9 88 70 ≤ sg_g σ 88 70) (hS : vS σ (sg_g σ 128 m) tys) (hO : fO A D T B σ n) (hs : 0 ≤ sg_g σ 127 m ∧ sg_g σ 127 m ≤ 300) (hF : fS A D T σ n (sg_g σ 127 m + 1) (sg_g σ 130 m) (sg_g σ 128 m) (tys ++ [T x])) (h15 : A.2.1 n = 15 → ¬ sg_g σ 127 m = (A.2.2.2.2.2 n).length) (hK : nStk A D T B r σ m (sg_g σ 128 m) (T n)) (hx : fO A D T B σ9 x) (hp : 0 ≤ part ∧ (A.2.2.2.2.1 n)[part.toNat]? = some x) (hA : A.1 ≤ 200) (k : ∀ σ', nQ A D T B r σ σ' → Q σ') : V_goPart σ9 m part (fun σ10 => sg_F [126, 127, 128, 129, 130, 131, 132, 55088, 63088, 74088] σ9 σ10 → Q σ10) := by
  obtain ⟨w1, w2, w3⟩ := fO_w hO
  obtain ⟨t1, t2, t3, t4, t5⟩ := tr_k hP w2
  have hl : part.toNat < (A.2.2.2.2.1 n).length := by
    rcases Nat.lt_or_ge part.toNat (A.2.2.2.2.1 n).length with q | q
    · exact q
    · rw [List.getElem?_eq_none q] at hp; cases hp.2
  have e127 : ∀ i, sg_g σ9 127 i = sg_g σ 127 i := fun i => sg_F_ga F rfl
  have e126 : ∀ i, sg_g σ9 126 i = sg_g σ 126 i := fun i => sg_F_ga F rfl
  have e97 := t4 part.toNat x hp.2
  rw [show ((part.toNat : Nat) : Int) = part by omega] at e97
  have c := hC
  obtain ⟨⟨c1, c2, c3, c4⟩, c5, c6, c7, c8⟩ := c
  unfold V_goPart
  refine ⟨⟨by omega, by omega⟩, by rw [e127]; exact ⟨by omega, by omega⟩, fun σ3 e3 => ?_⟩
  rw [e126, en, sg_F_ga F rfl, e97]
  have F3 : sg_F [127, 131, 134, 71088] σ σ3 := by rw [e3]; exact sg_F_w (sg_F_m F rfl) rfl _
  have fx : fO A D T B σ3 x := by
    refine fO_up (σ := σ9) ?_ (fun b => Or.inl ?_) hx
    · rw [e3]; exact nEx_F (L := [127]) (sg_F_w (sg_F_r _ _) rfl _) rfl
    · rw [e3, sg_gw_c _ _ _ _ _ _ (by decide)]
  refine ⟨⟨by omega, by omega⟩, ⟨by omega, by omega⟩, ⟨by omega, by omega⟩, ?_⟩
  have b3 : bOk A D T σ σ3 := fun b => by
    rcases hb b with e | e
    · left; rw [e3, sg_gw_c _ _ _ _ _ _ (by decide)]; exact e
    · right
      rw [e3, sg_gw_c _ _ _ _ _ _ (by decide)]
      exact vU_up (by rw [← e3]; rw [e3]; exact nEx_F (L := [127]) (sg_F_w (sg_F_r _ _) rfl _) rfl) e
  have be := ev_st (A := A) (D := D) (T := T) (B := B) (r := r) (x := x) (Q := Q) (s' := sg_g σ 127 m + 1) (tys := tys) F3 b3 (fun i hi => by rw [e3, sg_gw_k _ _ _ _ _ _ hi]; exact e127 i) (by rw [e3, sg_gw_e _ _ _ _ (by rw [e127]; exact ⟨by omega, by omega⟩), e127]) hC fm h0 (by rw [e3, sg_gw_c _ _ _ _ _ _ (by decide)]; exact hv) (by rw [e3, sg_gw_c _ _ _ _ _ _ (by decide)]; exact hv2) hS (by rw [en]; exact hO) (by rw [en]; exact fS_up (nEx_F F3 rfl) b3 (fun _ _ y _ _ => sg_F_ga F3 rfl) hF) (by rw [en]; intro z y; exact h15 z (by omega)) (by rw [en]; exact hK) fx hA k
  have wk : ∀ (P Q : sg_S → Prop), (∀ s, P s → Q s) → V_begin σ3 x P → V_begin σ3 x Q := fun P Q h v => by
    unfold V_begin V_works at v ⊢
    obtain ⟨P4, v1, v2⟩ := v
    refine ⟨P4, v1, fun s f p => ?_⟩
    have := v2 s f p
    exact ⟨fun z => ⟨(this.1 z).1, fun s9 e9 F9 => ⟨((this.1 z).2 s9 e9 F9).1, fun a1 b1 a2 b2 a3 b3 a4 b4 a5 b5 a6 b6 a7 b7 => ⟨(((this.1 z).2 s9 e9 F9).2 a1 b1 a2 b2 a3 b3 a4 b4 a5 b5 a6 b6 a7 b7).1, fun a8 b8 => h _ ((((this.1 z).2 s9 e9 F9).2 a1 b1 a2 b2 a3 b3 a4 b4 a5 b5 a6 b6 a7 b7).2 a8 b8)⟩⟩⟩, fun z => ⟨(this.2 z).1, (this.2 z).2.1, fun s9 e9 F9 => ⟨((this.2 z).2.2 s9 e9 F9).1, fun a1 b1 a2 b2 a3 b3 a4 b4 a5 b5 a6 b6 a7 b7 => ⟨(((this.2 z).2.2 s9 e9 F9).2 a1 b1 a2 b2 a3 b3 a4 b4 a5 b5 a6 b6 a7 b7).1, fun a8 b8 => h _ ((((this.2 z).2.2 s9 e9 F9).2 a1 b1 a2 b2 a3 b3 a4 b4 a5 b5 a6 b6 a7 b7).2 a8 b8)⟩⟩⟩⟩
  exact wk _ _ (fun s p f _ => p f) be
end NST2
/-! DEFS by number, and what their PARAMS bind. -/
theorem kDl_rev : ∀ (D : List aDf) (ds : kD), (kDl D ds).reverse = ds.reverse ++ D.map (fun x => (x.1, x.2.2.1.map (·.2.2), x.2.2.2))
  | [], ds => by simp [kDl]
  | x :: D, ds => by simp only [kDl]; rw [kDl_rev D]; simp
theorem kDx_at : ∀ (l : kD) (w d : Int) (y : List Int × Int), kDx l w = some d → kDef l w = some y → 0 ≤ d ∧ ∃ c, l.reverse[d.toNat]? = some c ∧ c.2 = y
  | [], w, d, y, h, _ => by cases h
  | x :: l, w, d, y, h, g => by
    unfold kDx at h
    unfold kDef at g
    by_cases c : x.1 = w
    · rw [if_pos c] at h g
      cases h
      cases g
      exact ⟨by omega, x, by simp, rfl⟩
    · rw [if_neg c] at h g
      obtain ⟨a, b, b1, b2⟩ := kDx_at l w d y h g
      refine ⟨a, b, ?_, b2⟩
      have hl : d.toNat < l.reverse.length := by
        rcases Nat.lt_or_ge d.toNat l.reverse.length with q | q
        · exact q
        · rw [List.getElem?_eq_none q] at b1; cases b1
      rw [List.reverse_cons, List.getElem?_append_left hl]; exact b1
theorem kD_at {D : List aDf} {j : Nat} {w d : Int} {y : List Int × Int} (h : kDx (kDl (D.take j) []) w = some d) (g : kDef (kDl (D.take j) []) w = some y) : 0 ≤ d ∧ ∃ x, D[d.toNat]? = some x ∧ y = (x.2.2.1.map (·.2.2), x.2.2.2) := by
  obtain ⟨a, c, c1, c2⟩ := kDx_at _ _ _ _ h g
  refine ⟨a, ?_⟩
  rw [kDl_rev, List.reverse_nil, List.nil_append, List.getElem?_map] at c1
  cases e : (D.take j)[d.toNat]? with
  | none => rw [e] at c1; cases c1
  | some x =>
    rw [e] at c1
    refine ⟨x, ?_, ?_⟩
    · rw [List.getElem?_take] at e
      split at e
      · exact e
      · cases e
    · cases c1
      exact c2.symm
theorem scZ_p {d : Int} : ∀ (ps : List (Int × Int × Int)) (j : Nat) (e eb : kE) (p : Int × Int), p ∈ scZ (ps.reverse.map (fun p => (p.1, p.2.2)) ++ e) (kPb d j ps eb) → (∃ (k : Nat) (y : Int × Int × Int), ps[k]? = some y ∧ p = (1100 + 6 * d + (j + k : Nat), y.2.2)) ∨ p ∈ scZ e eb
  | [], j, e, eb, p, h => Or.inr (by simpa [kPb] using h)
  | q :: ps, j, e, eb, p, h => by
    have e1 : (q :: ps).reverse.map (fun p => (p.1, p.2.2)) ++ e = ps.reverse.map (fun p => (p.1, p.2.2)) ++ ((q.1, q.2.2) :: e) := by simp
    rw [e1] at h
    simp only [kPb] at h
    rcases scZ_p ps (j + 1) _ _ p h with ⟨k, y, h1, h2⟩ | h
    · refine Or.inl ⟨k + 1, y, by simpa using h1, ?_⟩
      rw [h2]
      simp only [Prod.mk.injEq, and_true]
      omega
    · simp only [scZ, List.zipWith_cons_cons] at h
      rcases List.mem_cons.mp h with h | h
      · exact Or.inl ⟨0, q, rfl, by rw [h]; simp only [Prod.mk.injEq, and_true]; omega⟩
      · exact Or.inr h
section NDF
variable {A : aT} {D : List aDf} {T B : Int → Int} {r : Int}
theorem bTy_p {d k : Nat} {x : aDf} {y : Int × Int × Int} (h : D[d]? = some x) (hk : x.2.2.1[k]? = some y) (h6 : k < 6) : bTy A D T (1100 + 6 * (d : Int) + k) = y.2.2 := by
  unfold bTy
  rw [if_neg (by omega), if_neg (by omega)]
  have e1 : ((1100 + 6 * (d : Int) + k - 1100) / 6).toNat = d := by omega
  have e2 : ((1100 + 6 * (d : Int) + k - 1100) % 6).toNat = k := by omega
  rw [e1, e2, List.getD_eq_getElem?_getD, List.getD_eq_getElem?_getD, h, Option.getD_some, List.getElem?_map, hk]
  rfl
theorem bTy_l {n a c : Int} (h : A.2.2.2.2.1 n = [a, c]) (hn : n < 210) : bTy A D T n = T a := by
  unfold bTy
  rw [if_pos hn, h]
  rfl
theorem bTy_g {n bd x : Int} {tl : List Int} {j : Nat} (h : A.2.2.2.2.1 n = bd :: tl) (hx : tl[j]? = some x) (hn : 0 ≤ n ∧ n < 200) (hj : j < 4) : bTy A D T (210 + 4 * n + j) = T x - 1 := by
  unfold bTy
  rw [if_neg (by omega), if_pos (by omega)]
  have e1 : (210 + 4 * n + (j : Int) - 210) / 4 = n := by omega
  have e2 : ((210 + 4 * n + (j : Int) - 210) % 4).toNat = j := by omega
  rw [e1, e2, h, List.getD_eq_getElem?_getD, show 1 + j = j + 1 by omega, List.getElem?_cons_succ, hx]
  rfl
/-- the EXPR of a DEF, its PARAMS being bound -/
theorem fO_d {σ : sg_S} {d : Nat} {x : aDf} (hd : tyN A (kDl (D.take d) []) T B 201 (scZ (kPe x) (kPb d 0 x.2.2.1 [])) x.2.2.2) (hx : D[d]? = some x) (h12 : d < 12) (h6 : x.2.2.1.length ≤ 6) (hb : ∀ (k : Nat) (y : Int × Int × Int), x.2.2.1[k]? = some y → vU σ y.2.2.toNat (sg_g σ 134 (1100 + 6 * d + k))) : fO A D T B σ x.2.2.2 := by
  refine ⟨d, 201, _, hd, fun p hp => ?_⟩
  have hp' : p ∈ scZ (x.2.2.1.reverse.map (fun p => (p.1, p.2.2)) ++ []) (kPb d 0 x.2.2.1 []) := by rw [List.append_nil]; exact hp
  rcases scZ_p x.2.2.1 0 [] [] p hp' with ⟨k, y, h1, h2⟩ | h
  · have hk : k < x.2.2.1.length := by
      rcases Nat.lt_or_ge k x.2.2.1.length with q | q
      · exact q
      · rw [List.getElem?_eq_none q] at h1; cases h1
    rw [h2]
    simp only [Nat.zero_add]
    exact ⟨⟨by omega, by omega⟩, (bTy_p hx h1 (by omega)).symm, hb k y h1⟩
  · cases h
end NDF
/-! goNested: a turn at the top frame (but for EACH). -/
section NGO
variable {A : aT} {D : List aDf} {T B : Int → Int} {r : Int}
theorem gsc_m {n : Int} : ∀ (xs : List Int) (j : Nat) (p : Int × Int), p ∈ gsc n T j xs → ∃ (i : Nat) (x : Int), xs[i]? = some x ∧ p = (210 + 4 * n + (j + i : Nat), T x - 1)
  | [], j, p, h => by cases h
  | x :: xs, j, p, h => by
    simp only [gsc] at h
    rcases List.mem_cons.mp h with h | h
    · exact ⟨0, x, rfl, by rw [h]; rfl⟩
    · obtain ⟨i, y, h1, h2⟩ := gsc_m xs (j + 1) p h
      refine ⟨i + 1, y, by simpa using h1, ?_⟩
      rw [h2]
      simp only [Prod.mk.injEq, and_true]
      omega
theorem fO_let {σ : sg_S} {n a c : Int} (h : fO A D T B σ n) (hA : A.1 ≤ 200) (hk : A.2.1 n = 2) (ea : A.2.2.2.2.1 n = [a, c]) : fO A D T B σ a ∧ ∀ σ', nEx σ σ' → bOk A D T σ σ' → vU σ' (T a).toNat (sg_g σ' 134 n) → fO A D T B σ' c := by
  obtain ⟨j, f, sc, a1, a2⟩ := h
  cases f with
  | zero => cases a1
  | succ f =>
    obtain ⟨b1, b2, b3, b4, b5, b6, b7, b8, b9⟩ := a1
    obtain ⟨c1, c2⟩ := b7 hk a c ea
    refine ⟨⟨j, f, sc, c1, a2⟩, fun σ' ex bo u => ⟨j, f, _, c2, fun p hp => ?_⟩⟩
    rcases List.mem_cons.mp hp with e | e
    · rw [e]
      exact ⟨⟨b2.1, by simp only; omega⟩, (bTy_l ea (by omega)).symm, u⟩
    · exact scO_up ex bo a2 p e
theorem fO_each {σ : sg_S} {n bd : Int} {tl : List Int} (h : fO A D T B σ n) (hA : A.1 ≤ 200) (hk : A.2.1 n = 15) (ea : A.2.2.2.2.1 n = bd :: tl) : (∀ x ∈ tl.take (A.2.2.2.2.2 n).length, fO A D T B σ x ∧ 0 < T x) ∧ (∀ σ', nEx σ σ' → bOk A D T σ σ' → (∀ (i : Nat) (x : Int), (tl.take (A.2.2.2.2.2 n).length)[i]? = some x → vU σ' (T x - 1).toNat (sg_g σ' 134 (210 + 4 * n + i))) → ∀ x ∈ tl.drop (A.2.2.2.2.2 n).length ++ [bd], fO A D T B σ' x) ∧ ∀ x ∈ tl.drop (A.2.2.2.2.2 n).length ++ [bd], kIn (T x) := by
  obtain ⟨j, f, sc, a1, a2⟩ := h
  cases f with
  | zero => cases a1
  | succ f =>
    obtain ⟨b1, b2, b3, b4, b5, b6, b7, b8, b9⟩ := a1
    obtain ⟨c1, c2⟩ := b8 hk bd tl ea
    refine ⟨fun x hx => ⟨⟨j, f, sc, (c1 x hx).1, a2⟩, (c1 x hx).2⟩, fun σ' ex bo u x hx => ⟨j, f, _, c2 x hx, fun p hp => ?_⟩, fun x hx => ?_⟩
    rotate_left
    · have c3 := c2 x hx
      cases f with
      | zero => cases c3
      | succ f => exact c3.2.2.1
    rcases List.mem_append.mp hp with e | e
    · obtain ⟨i, y, h1, h2⟩ := gsc_m _ _ _ e
      have hi : i < (A.2.2.2.2.2 n).length := by
        rcases Nat.lt_or_ge i (tl.take (A.2.2.2.2.2 n).length).length with q | q
        · rw [List.length_take] at q; omega
        · rw [List.getElem?_eq_none q] at h1; cases h1
      have g4 := (b1.2.2.2.2.2.2.1 hk).2
      have hy : tl[i]? = some y := by
        rw [List.getElem?_take, if_pos hi] at h1; exact h1
      rw [h2]
      simp only [Nat.zero_add]
      exact ⟨⟨by omega, by omega⟩, (bTy_g ea hy ⟨b2.1, by omega⟩ (by omega)).symm, u i y h1⟩
    · exact scO_up ex bo a2 p e
/-- the PROGRAM is there, looked through -/
def pgX (σ : sg_S) (A : aT) (D : List aDf) (T B : Int → Int) : Prop := trT σ A ∧ dfR σ D ∧ (∀ n, sg_g σ 101 n = T n) ∧ (∀ n, sg_g σ 102 n = B n) ∧ A.1 ≤ 200 ∧ ∀ (j : Nat) (x : aDf), D[j]? = some x → tyN A (kDl (D.take j) []) T B 201 (scZ (kPe x) (kPb j 0 x.2.2.1 [])) x.2.2.2
theorem take_x {ks : List Int} {i : Nat} {x : Int} (h : ks[i]? = some x) : (ks.take (i + 1)).map T = (ks.take i).map T ++ [T x] := by
  rw [List.take_add_one, h]
  simp
theorem m_goN {σ : sg_S} {m : Nat} {ty : List Int} {Q : sg_S → Prop} (hX : pgX σ A D T B) (h : nTop A D T B r σ m ty) (hC : nC σ) (he : sg_g σ 88 73 = 0) (hE : A.2.1 (sg_g σ 126 m) = 15 → V_goEach σ m (fun σ' => sg_F [122, 123, 124, 125, 126, 127, 128, 129, 130, 131, 132, 133, 134, 55088, 56088, 57088, 61088, 63088, 71088, 74088] σ σ' → Q σ')) (k : ∀ σ', nQ A D T B r σ σ' → Q σ') : V_goNested σ Q := by
  have hh := h
  obtain ⟨h1, h3, h4, h5, h6, h7, h8⟩ := h
  obtain ⟨hP, hD, eT, eB, hA, hDf⟩ := hX
  obtain ⟨n, en⟩ : ∃ n, sg_g σ 126 m = n := ⟨_, rfl⟩
  obtain ⟨b, eb⟩ : ∃ b, sg_g σ 128 m = b := ⟨_, rfl⟩
  obtain ⟨s, es⟩ : ∃ s, sg_g σ 127 m = s := ⟨_, rfl⟩
  have h6' := h6
  have h7' := h7
  rw [en] at h6 h7 h8 hE
  rw [eb] at h3 h4 h5 h7 h8
  rw [es] at h7
  obtain ⟨w1, w2, w3⟩ := fO_w h6
  obtain ⟨t1, t2, t3, t4, t5⟩ := tr_k hP w2
  obtain ⟨o1, o2, o3⟩ := fO_t h6
  have hC' := hC
  obtain ⟨⟨c1, c2, c3, c4⟩, c5, c6, c7, c8⟩ := hC'
  have hn : 0 ≤ n ∧ n < 210 := ⟨w2.1, by omega⟩
  have ef : sg_g σ 88 62 - 1 = m := by omega
  have bo : bOk A D T σ σ := fun _ => Or.inl rfl
  unfold V_goNested
  rw [ef, en, es, eb, t1, t2]
  refine ⟨⟨by omega, by omega⟩, ⟨by omega, by omega⟩, hn, fun k15 => ⟨fun k3 => ?_, fun k3 => ?_⟩, hE⟩
  · refine ⟨fun σ9 => (A.2.1 n = 2 ∧ s = 1 ∧ σ9 = sg_w (sg_w σ 88 70 (sg_g σ 88 70 - 1)) 134 n (sg_g σ 133 (sg_g σ 88 70 - 1))) ∨ (¬ (A.2.1 n = 2 ∧ s = 1) ∧ σ9 = σ), ⟨fun z => Or.inr ⟨fun q => z q.1, rfl⟩, fun z => ⟨fun y => Or.inr ⟨fun q => y q.2, rfl⟩, fun y => ?_⟩⟩, fun σ9 f9 p9 => ⟨fun c => ⟨fun k13 => ?_, fun k13 => ⟨fun cs => ?_, fun cs => ?_⟩⟩, fun c => ?_⟩⟩
    · have v1 : 1 ≤ ty.length := by
        unfold fS at h7
        rw [if_pos z] at h7
        obtain ⟨a, d, ea, q | q | q⟩ := h7
        · omega
        · rw [q.2]; simp
        · rw [q.2]; simp
      exact ⟨⟨by omega, by omega⟩, fun σ75 e75 => ⟨⟨by omega, by omega⟩, fun σ79 e79 => Or.inl ⟨z, y, by rw [e79, e75]⟩⟩⟩
    · unfold fS at h7
      rcases p9 with ⟨q1, q2, -⟩ | ⟨q1, q2⟩
      · have := w1.2.2.1 (Or.inl q1)
        omega
      · subst q2
        refine m_endN hP eT eB hA hh hC he en eb ?_ (fun σ' x _ => k σ' x)
        by_cases z2 : A.2.1 n = 2
        · rw [if_pos z2] at h7
          obtain ⟨a, d, ea, q⟩ := h7
          rw [ea] at c
          simp only [List.length_cons, List.length_nil] at c
          obtain ⟨j, g, -⟩ := o2 (by omega)
          rw [kTy_2 z2, ea] at g
          simp only [List.map_cons, List.map_nil, List.getD_cons_succ, List.getD_cons_zero, Option.some.injEq] at g
          left
          refine ⟨Or.inl z2, ?_⟩
          rcases q with q | q | q
          · omega
          · omega
          · rw [q.2, g]
        · rw [if_neg z2, if_neg k3, if_neg k15] at h7
          right
          refine ⟨⟨z2, k3, k13, k15⟩, ?_⟩
          rcases h7 with ⟨i, i1, i2, i3⟩ | q
          · rw [i3, List.take_of_length_le (by omega)]
          · exact absurd q.1 k13
    · unfold fS at h7
      rcases p9 with ⟨q1, -, -⟩ | ⟨q1, q2⟩
      · omega
      · subst q2
        refine m_endN hP eT eB hA hh hC he en eb (Or.inl ⟨Or.inr k13, ?_⟩) (fun σ' x _ => k σ' x)
        rw [if_neg (by omega), if_neg k3, if_neg k15] at h7
        rcases h7 with ⟨i, i1, i2, i3⟩ | q
        · omega
        · exact q.2.2
    · rcases p9 with ⟨q1, -, -⟩ | ⟨q1, q2⟩
      · omega
      subst q2
      unfold fS at h7
      rw [if_neg (by omega), if_neg k3, if_neg k15] at h7
      have ety : ty = (A.2.2.2.2.1 n).map T := by
        rcases h7 with ⟨i, i1, i2, i3⟩ | q
        · rw [i3, List.take_of_length_le (by omega)]
        · omega
      have tl : ty.length = (A.2.2.2.2.1 n).length := by rw [ety]; simp
      obtain ⟨j, g, gx⟩ := o2 (by omega)
      have gx' := gx k13
      rw [kTy_c k13] at g
      cases ed : kDef (kDl (D.take j) []) (A.2.2.2.1 n) with
      | none => rw [ed] at g; cases g
      | some y =>
        obtain ⟨d0, x, dx, ey⟩ := kD_at gx' ed
        rw [ed, ey] at g
        simp only at g
        obtain ⟨g1, g2, g3⟩ := kIs_in g
        simp only [decide_eq_true_eq] at g3
        obtain ⟨hd1, hd2, hd3⟩ := hD
        obtain ⟨hx1, hx2, hx3, hx4⟩ := hd3 _ x dx
        have d12 : (B n).toNat < D.length := by
          rcases Nat.lt_or_ge (B n).toNat D.length with q | q
          · exact q
          · rw [List.getElem?_eq_none q] at dx; cases dx
        have ebd : ((B n).toNat : Int) = B n := by omega
        have l6 := hx4.2.1
        have lk : (A.2.2.2.2.1 n).length = x.2.2.1.length := by
          have := congrArg List.length g3
          simpa using this
        rw [eB]
        have vv : ∀ i : Nat, i < (A.2.2.2.2.1 n).length → vU σ9 (bTy A D T (1100 + 6 * B n + i)).toNat (sg_g σ9 133 (b + i)) := fun i hi => by
          have e1 : x.2.2.1[i]? = some (x.2.2.1[i]'(by omega)) := List.getElem?_eq_getElem (by omega)
          rw [← ebd, bTy_p dx e1 (by omega)]
          refine h5 i _ ?_
          rw [ety, g3, List.getElem?_map, e1]; rfl
        refine ⟨fun q v σ3 => q = ((A.2.2.2.2.1 n).length - v).toNat ∧ (0 ≤ v ∧ v ≤ (A.2.2.2.2.1 n).length) ∧ (∀ b', sg_g σ3 134 b' = sg_g σ9 134 b' ∨ ∃ i : Nat, (i : Int) < v ∧ b' = 1100 + 6 * B n + i ∧ sg_g σ3 134 b' = sg_g σ9 133 (b + i)) ∧ ∀ i : Nat, (i : Int) < v → sg_g σ3 134 (1100 + 6 * B n + i) = sg_g σ9 133 (b + i), fun σ3 => (∀ b', sg_g σ3 134 b' = sg_g σ9 134 b' ∨ ∃ i : Nat, i < (A.2.2.2.2.1 n).length ∧ b' = 1100 + 6 * B n + i ∧ sg_g σ3 134 b' = sg_g σ9 133 (b + i)) ∧ ∀ i : Nat, i < (A.2.2.2.2.1 n).length → sg_g σ3 134 (1100 + 6 * B n + i) = sg_g σ9 133 (b + i), ⟨_, rfl, ⟨by omega, by omega⟩, fun _ => Or.inl rfl, fun i hi => by omega⟩, ?_, ?_⟩
        · rintro q v σ3 rv f3 ⟨em, hv, i1, i2⟩
          refine ⟨fun y => ⟨fun b' => ?_, fun i hi => i2 i (by omega)⟩, fun y => ⟨⟨⟨by omega, by omega⟩, ⟨by omega, by omega⟩, ⟨by omega, by omega⟩, trivial⟩, ⟨by omega, by omega⟩, ⟨by omega, by omega⟩, ?_, fun σ62 e62 => ⟨⟨by omega, by omega⟩, _, by omega, rfl, ⟨by omega, by omega⟩, fun b' => ?_, fun i hi => ?_⟩⟩⟩
          · rcases i1 b' with z | ⟨i, z1, z2⟩
            · exact Or.inl z
            · exact Or.inr ⟨i, by omega, z2⟩
          · unfold v_ofParam; exact ⟨by omega, by omega⟩
          · by_cases e : b' = 1100 + 6 * B n + v
            · right
              refine ⟨v.toNat, by omega, by omega, ?_⟩
              rw [e62, e]
              unfold v_ofParam
              rw [sg_gw_e _ _ _ _ (sg_Rg _ _ _), show ((v.toNat : Nat) : Int) = v by omega]
            · rw [e62]
              unfold v_ofParam
              rw [sg_gw_k _ _ _ _ _ _ e]
              rcases i1 b' with z | ⟨i, z1, z2⟩
              · exact Or.inl z
              · exact Or.inr ⟨i, by omega, z2⟩
          · by_cases e : (i : Int) = v
            · rw [e62, e]
              unfold v_ofParam
              rw [sg_gw_e _ _ _ _ (sg_Rg _ _ _)]
            · rw [e62]
              unfold v_ofParam
              rw [sg_gw_k _ _ _ _ _ _ (by omega)]
              exact i2 i (by omega)
        · rintro σ3 f3 ⟨i1, i2⟩
          refine ⟨⟨by omega, by omega⟩, fun σ43 e43 σ46 e46 => ⟨⟨by omega, by omega⟩, ?_⟩⟩
          rw [show sg_g σ9 105 (B n) = x.2.2.2 by rw [← ebd]; exact hx3]
          have F46 : sg_F [127, 131, 134, 71088] σ9 σ46 := by rw [e46, e43]; exact sg_F_w (sg_F_w (sg_F_m f3 rfl) rfl _) rfl _
          have ex : nEx σ9 σ46 := nEx_F F46 rfl
          have g134 : ∀ b', sg_g σ46 134 b' = sg_g σ3 134 b' := fun b' => by rw [e46, sg_gw_c _ _ _ _ _ _ (by decide), e43, sg_gw_c _ _ _ _ _ _ (by decide)]
          refine ev_st (A := A) (D := D) (T := T) (B := B) (r := r) (σ := σ9) (m := m) (s' := s + 1) (tys := []) F46 (fun b' => ?_) (fun i hi => ?_) ?_ hC h1 (by rw [eb]; exact h3) ?_ ?_ (fun i y hy => by cases hy) (by rw [en]; exact h6) ?_ (by rw [en]; intro z; exact absurd z k15) (by rw [en, eb]; exact h8) ?_ hA k
          · rw [g134]
            rcases i1 b' with z | ⟨i, z1, z2, z3⟩
            · exact Or.inl z
            · right
              rw [z3, z2]
              exact vU_up ex (vv i z1)
          · rw [e46, sg_gw_c _ _ _ _ _ _ (by decide), e43, sg_gw_k _ _ _ _ _ _ hi, sg_F_ga f3 rfl]
          · rw [e46, sg_gw_c _ _ _ _ _ _ (by decide), e43, sg_gw_e _ _ _ _ ⟨by omega, by omega⟩]
          · rw [e46, sg_gw_e _ _ _ _ ⟨by omega, by omega⟩, eb]; simp
          · rw [e46, sg_gw_e _ _ _ _ ⟨by omega, by omega⟩]; omega
          · rw [en]
            unfold fS
            rw [if_neg (by omega), if_neg k3, if_neg k15]
            exact Or.inr ⟨k13, by omega, by rw [← g1]; rfl⟩
          · refine fO_d (hDf _ x dx) dx (by omega) l6 (fun i y hy => ?_)
            have hi : i < x.2.2.1.length := by
              rcases Nat.lt_or_ge i x.2.2.1.length with q | q
              · exact q
              · rw [List.getElem?_eq_none q] at hy; cases hy
            have := vv i (by omega)
            rw [← ebd, bTy_p dx hy (by omega)] at this
            rw [ebd, g134, i2 i (by omega)]
            exact vU_up ex this
    · unfold fS at h7
      by_cases z2 : A.2.1 n = 2
      · rw [if_pos z2] at h7
        obtain ⟨a, d, ea, q⟩ := h7
        obtain ⟨l1, l2⟩ := fO_let h6 hA z2 ea
        rw [ea] at c
        simp only [List.length_cons, List.length_nil] at c
        rcases q with q | q | q
        · obtain ⟨q1, q2⟩ := q
          rcases p9 with ⟨-, p, -⟩ | ⟨-, p⟩
          · omega
          subst p
          refine ev_part (A := A) (D := D) (T := T) (B := B) (r := r) (x := a) (tys := []) (sg_F_r _ _) bo hP hC en h1 (by rw [eb]; exact h3) (by rw [eb, h4, q2]) (Int.le_refl _) (fun i y hy => by cases hy) h6 (by omega) ?_ (fun z => absurd z k15) (by rw [eb]; exact h8) l1 ⟨by omega, by rw [ea, q1]; rfl⟩ hA k
          rw [es, q1]
          unfold fS
          rw [if_pos z2]
          exact ⟨a, d, ea, Or.inr (Or.inl ⟨rfl, rfl⟩)⟩
        · obtain ⟨q1, q2⟩ := q
          rcases p9 with ⟨-, -, p⟩ | ⟨p, -⟩
          rotate_left
          · exact absurd ⟨z2, q1⟩ p
          rw [q2] at h5 h4
          simp only [List.length_cons, List.length_nil] at h4
          have u := vS_0 h5
          have v1 : sg_g σ 88 70 - 1 = b := by omega
          rw [v1] at p
          have F9 : sg_F [134, 71088] σ σ9 := f9
          have ex : nEx σ σ9 := nEx_F F9 rfl
          have u9 : vU σ9 (T a).toNat (sg_g σ9 134 n) := by
            rw [p, sg_gw_e _ _ _ _ (sg_Rg _ _ _), ← p]
            exact vU_up ex u
          have bo9 : bOk A D T σ σ9 := fun b' => by
            by_cases e : b' = n
            · right
              rw [e, bTy_l ea (by omega)]
              exact u9
            · left
              rw [p, sg_gw_k _ _ _ _ _ _ e, sg_gw_c _ _ _ _ _ _ (by decide)]
          have v9 : sg_g σ9 88 70 = b := by rw [p, sg_gw_c _ _ _ _ _ _ (by decide), sg_gw_e _ _ _ _ ⟨by omega, by omega⟩]
          refine ev_part (A := A) (D := D) (T := T) (B := B) (r := r) (x := d) (tys := []) F9 bo9 hP hC en h1 (by rw [eb]; exact h3) (by rw [eb, v9]; simp) (by omega) (fun i y hy => by cases hy) h6 (by omega) ?_ (fun z => absurd z k15) (by rw [eb]; exact h8) (l2 σ9 ex bo9 u9) ⟨by omega, by rw [ea, q1]; rfl⟩ hA k
          rw [es, q1]
          unfold fS
          rw [if_pos z2]
          exact ⟨a, d, ea, Or.inr (Or.inr ⟨rfl, rfl⟩)⟩
        · omega
      · rcases p9 with ⟨p, -, -⟩ | ⟨-, p⟩
        · exact absurd p z2
        subst p
        rw [if_neg z2, if_neg k3, if_neg k15] at h7
        rcases h7 with ⟨i, i1, i2, i3⟩ | q
        · have hi : i < (A.2.2.2.2.1 n).length := by omega
          have e1 : (A.2.2.2.2.1 n)[i]? = some ((A.2.2.2.2.1 n)[i]'hi) := List.getElem?_eq_getElem hi
          have hx := o3 z2 k15 _ (List.getElem_mem hi)
          refine ev_part (A := A) (D := D) (T := T) (B := B) (r := r) (x := (A.2.2.2.2.1 n)[i]'hi) (tys := ty) (sg_F_r _ _) bo hP hC en h1 (by rw [eb]; exact h3) (by rw [eb]; exact h4) (Int.le_refl _) (by rw [eb]; exact h5) h6 (by omega) ?_ (fun z => absurd z k15) (by rw [eb]; exact h8) hx ⟨by omega, by rw [i2]; exact e1⟩ hA k
          unfold fS
          rw [if_neg z2, if_neg k3, if_neg k15]
          exact Or.inl ⟨i + 1, by omega, by omega, by rw [take_x e1, i3]⟩
        · omega
  · unfold fS at h7
    rw [if_neg (by omega), if_pos k3] at h7
    obtain ⟨a, d, e, ea, q⟩ := h7
    obtain ⟨j, g, -⟩ := o2 (by omega)
    rw [kTy_3 k3, ea] at g
    obtain ⟨g1, g2, g3⟩ := kIs_in g
    simp only [List.map_cons, List.map_nil, List.getD_cons_succ, List.getD_cons_zero, Bool.and_eq_true, decide_eq_true_eq] at g1 g3
    have kids := o3 (by omega) k15
    rw [ea] at kids
    have fs2 : ∀ x, T x = T n → fS A D T σ n (1 + 1) (sg_g σ 130 m) (sg_g σ 128 m) ([] ++ [T x]) := fun x hx => by
      unfold fS
      rw [if_neg (by omega), if_pos k3]
      exact ⟨a, d, e, ea, Or.inr (Or.inr ⟨rfl, by rw [hx]; rfl⟩)⟩
    refine ⟨fun c => ⟨fun σ9 => σ9 = σ, ⟨fun _ => rfl, fun z => by omega⟩, fun σ9 f9 p9 => ⟨fun c2 => ?_, fun c2 => ?_⟩⟩, fun c => ⟨fun c1 => ?_, fun c1 => ?_⟩⟩
    · rw [ea] at c2
      simp only [List.length_cons, List.length_nil] at c2
      omega
    · subst p9
      have q0 : s = 0 ∧ ty = [] := by rcases q with q | q | q <;> (first | exact q | omega)
      refine ev_part (A := A) (D := D) (T := T) (B := B) (r := r) (x := a) (tys := []) (sg_F_r _ _) bo hP hC en h1 (by rw [eb]; exact h3) (by rw [eb, h4, q0.2]) (Int.le_refl _) (fun i y hy => by cases hy) h6 (by omega) ?_ (fun z => absurd z k15) (by rw [eb]; exact h8) (kids a (by simp)) ⟨by omega, by rw [ea, q0.1]; rfl⟩ hA k
      rw [es, q0.1]
      unfold fS
      rw [if_neg (by omega), if_pos k3]
      exact ⟨a, d, e, ea, Or.inr (Or.inl ⟨rfl, rfl⟩)⟩
    · have q0 : ty = [T n] := by
        rcases q with q | q | q
        · omega
        · omega
        · exact q.2
      rw [q0] at h5
      have u := vS_0 h5
      rw [← en] at u
      exact ⟨⟨h3, by omega⟩, ev_v hh hC hA (sg_Rg _ _ _) u (by rw [en, t1, k3]; rfl) (by rw [en, t1, k3]; decide) k⟩
    · have q0 : ty = [T a] := by
        rcases q with q | q | q
        · omega
        · exact q.2
        · omega
      rw [q0] at h4
      simp only [List.length_cons, List.length_nil] at h4
      refine ⟨⟨by omega, by omega⟩, fun σ168 e168 => ⟨⟨by omega, by omega⟩, fun v ev rv => ?_⟩⟩
      have F9 : sg_F [134, 71088] σ σ168 := by rw [e168]; exact sg_F_w (sg_F_r _ _) rfl _
      have bo9 : bOk A D T σ σ168 := fun b' => Or.inl (by rw [e168, sg_gw_c _ _ _ _ _ _ (by decide)])
      have ex : nEx σ σ168 := nEx_F F9 rfl
      have v9 : sg_g σ168 88 70 = b := by rw [e168, sg_gw_e _ _ _ _ ⟨by omega, by omega⟩]; omega
      have go : ∀ x, T x = T n → x ∈ [a, d, e] → (0 ≤ v ∧ [a, d, e][v.toNat]? = some x) → V_goPart σ168 m v (fun σ178 => sg_F [126, 127, 128, 129, 130, 131, 132, 55088, 63088, 74088] σ168 σ178 → Q σ178) := fun x hx hm hp =>
        ev_part (A := A) (D := D) (T := T) (B := B) (r := r) (x := x) (tys := []) F9 bo9 hP hC en h1 (by rw [eb]; exact h3) (by rw [eb, v9]; simp) (by omega) (fun i y hy => by cases hy) h6 (by omega) (by rw [es, c1]; exact fs2 x hx) (fun z => absurd z k15) (by rw [eb]; exact h8) (fO_up ex bo9 (kids x hm)) (by rw [ea]; exact hp) hA k
      by_cases z : sg_g σ 133 (sg_g σ 88 70 - 1) = 0
      · rw [if_pos z] at ev
        exact go e (by rw [g1, g3.2]) (by simp) ⟨by omega, by rw [ev]; rfl⟩
      · rw [if_neg z] at ev
        exact go d (by rw [g1]) (by simp) ⟨by omega, by rw [ev]; rfl⟩
end NGO
