/-! WHAT A FLAT RUN GOES ALONG: slots, orders, heights of a tree. -/
abbrev bRL : List Nat := [62, 63, 64, 69, 70, 71, 72, 73, 74, 75, 76, 78, 79, 80, 81, 82, 83, 84, 85, 86, 87, 8061, 9061, 10061, 11061, 22061, 23061, 24061, 25061, 11077, 12077, 13077, 14077, 15077, 16077, 17077, 18077, 19077]
/-- orders ahead of the part with index s -/
def ahd (A : aT) (n : Int) (s : Nat) : List (Int × Int) := if A.2.1 n = 2 ∧ s = 1 then [(4, n)] else if A.2.1 n = 3 ∧ 0 < s then [(if s = 1 then 7 else 8, n)] else if A.2.1 n = 15 ∧ s = (A.2.2.2.2.2 n).length then [(10, n)] else if A.2.1 n = 15 ∧ (A.2.2.2.2.2 n).length < s then [(11, n)] else []
def cdS (A : aT) (go : Int → List (Int × Int)) (n : Int) : Nat → List Int → List (Int × Int)
  | _, [] => []
  | s, x :: r => ahd A n s ++ (go x ++ cdS A go n (s + 1) r)
/-- orders behind the parts -/
def cnc (A : aT) (n : Int) : List (Int × Int) := if A.2.1 n = 2 then [] else if A.2.1 n = 3 then [(9, n)] else if A.2.1 n = 13 then [(5, n)] else if A.2.1 n = 15 then [(12, n), (1, n)] else if A.2.1 n = 0 ∨ A.2.1 n = 1 ∨ A.2.1 n = 14 then [(1, n)] else if A.2.1 n = 11 ∨ A.2.1 n = 16 ∨ (18 ≤ A.2.1 n ∧ A.2.1 n ≤ 22) ∨ A.2.1 n = 24 then [(2, n)] else [(3, n)]
/-- the orders of a node -/
def cd (A : aT) : Nat → Int → List (Int × Int)
  | 0, _ => []
  | f + 1, n => (0, n) :: (cdS A (cd A f) n 0 (kOrd A n) ++ cnc A n)
def gsl (b : Int) (g : Nat) : List Int := (List.range g).map (fun (i : Nat) => b + (i : Int))
theorem gsl_m {b : Int} {g : Nat} {s : Int} : s ∈ gsl b g ↔ b ≤ s ∧ s < b + g := by
  unfold gsl
  simp only [List.mem_map, List.mem_range]
  constructor
  · rintro ⟨i, h, e⟩; omega
  · intro h; exact ⟨(s - b).toNat, by omega, by omega⟩
/-- slots known from stage s on -/
def esA (A : aT) (n : Int) (s : Nat) (es : List Int) (b : Int) : List Int := if A.2.1 n = 2 ∧ s = 1 then b :: es else if A.2.1 n = 15 ∧ s = (A.2.2.2.2.2 n).length then gsl b (A.2.2.2.2.2 n).length ++ es else es
def bA (A : aT) (n : Int) (s : Nat) (b : Int) : Int := if A.2.1 n = 2 ∧ s = 1 then b + 1 else if A.2.1 n = 15 ∧ s = (A.2.2.2.2.2 n).length then b + (A.2.2.2.2.2 n).length else b
def cA (σ : sg_S) (A : aT) (n : Int) (s : Nat) (b : Int) : Prop := (A.2.1 n = 2 → s = 1 → sg_g σ 16 n = b ∧ sg_g σ 34 b = sg_g σ 6 ((A.2.2.2.2.1 n).getD 0 0)) ∧ (A.2.1 n = 15 → s = (A.2.2.2.2.2 n).length → sg_g σ 16 n = b ∧ ∀ (i : Nat) (x : Int), (kGs A n)[i]? = some x → sg_g σ 34 (b + i) = sg_g σ 6 x - 1)
def scS (σ : sg_S) (A : aT) (go : List Int → Int → Int → Int → Prop) (n : Int) : Nat → List Int → Int → List Int → Int → Prop
  | _, _, b, [], b' => b' = b
  | s, es, b, x :: r, b' => cA σ A n s b ∧ ∃ b2, go (esA A n s es b) x (bA A n s b) b2 ∧ scS σ A go n (s + 1) (esA A n s es b) b2 r b'
/-- a call of DEF q -/
def clF (σ : sg_S) (A : aT) (dix n : Int) : Prop := (0 ≤ sg_g σ 16 n ∧ sg_g σ 16 n < dix) ∧ ((A.2.2.2.2.1 n).length : Int) = sg_g σ 23 (sg_g σ 16 n) ∧ (∀ (i : Nat) (x : Int), (A.2.2.2.2.1 n)[i]? = some x → sg_g σ 6 x = sg_g σ 27 (6 * sg_g σ 16 n + i)) ∧ sg_g σ 6 n = sg_g σ 6 (sg_g σ 22 (sg_g σ 16 n))
/-- slots of a node and of all below it: known es, given out b .. b' -/
def scN (σ : sg_S) (A : aT) (dix : Int) : Nat → List Int → Int → Int → Int → Prop
  | 0, _, _, _, _ => False
  | f + 1, es, n, b, b' => (A.2.1 n = 3 → sg_g σ 16 n = b) ∧ (A.2.1 n = 1 → sg_g σ 16 n ∈ es ∧ sg_g σ 34 (sg_g σ 16 n) = sg_g σ 6 n) ∧ (A.2.1 n = 13 → clF σ A dix n) ∧ scS σ A (scN σ A dix f) n 0 es b (kOrd A n) b'
def htN (A : aT) : Nat → Int → Nat
  | 0, _ => 0
  | f + 1, n => (if A.2.1 n = 3 ∨ A.2.1 n = 15 then 1 else 0) + ((A.2.2.2.2.1 n).map (htN A f)).foldr max 0
theorem fm_le {l : List Nat} {x : Nat} (h : x ∈ l) : x ≤ l.foldr max 0 := by
  induction l with
  | nil => simp at h
  | cons y r ih =>
    simp only [List.foldr_cons]
    rcases List.mem_cons.mp h with e | e
    · rw [e]; exact Nat.le_max_left _ _
    · exact Nat.le_trans (ih e) (Nat.le_max_right _ _)
theorem ht_k {A : aT} {f : Nat} {n x : Int} {h : Nat} (hh : htN A (f + 1) n ≤ h) (hx : x ∈ A.2.2.2.2.1 n) : htN A f x ≤ h := by
  have := fm_le (List.mem_map_of_mem (f := htN A f) hx)
  simp only [htN] at hh
  omega
theorem ht_k1 {A : aT} {f : Nat} {n x : Int} {h : Nat} (hh : htN A (f + 1) n ≤ h) (hk : A.2.1 n = 3 ∨ A.2.1 n = 15) (hx : x ∈ A.2.2.2.2.1 n) : 1 ≤ h ∧ htN A f x ≤ h - 1 := by
  have := fm_le (List.mem_map_of_mem (f := htN A f) hx)
  simp only [htN] at hh
  rw [if_pos hk] at hh
  omega
/-- the plan from p on -/
def pl (σ : sg_S) (p : Int) (C : List (Int × Int)) : Prop := (0 ≤ p ∧ p + C.length ≤ 1013) ∧ ∀ (i : Nat) (z : Int × Int), C[i]? = some z → sg_g σ 29 (p + i) = z.1 ∧ sg_g σ 30 (p + i) = z.2
theorem pl_c {σ : sg_S} {p : Int} {z : Int × Int} {C : List (Int × Int)} (h : pl σ p (z :: C)) : (0 ≤ p ∧ p < 1013) ∧ sg_g σ 29 p = z.1 ∧ sg_g σ 30 p = z.2 ∧ pl σ (p + 1) C := by
  obtain ⟨⟨h1, h2⟩, h3⟩ := h
  simp only [List.length_cons] at h2
  have := h3 0 z rfl
  simp only [Int.ofNat_zero, Int.add_zero, Int.cast_ofNat_Int] at this
  refine ⟨⟨h1, by omega⟩, this.1, this.2, ⟨by omega, by omega⟩, fun i w hw => ?_⟩
  have := h3 (i + 1) w hw
  rw [show p + 1 + (i : Int) = p + ((i + 1 : Nat) : Int) by omega]
  exact this
theorem pl_a {σ : sg_S} {p : Int} {C C' : List (Int × Int)} (h : pl σ p (C ++ C')) : pl σ p C ∧ pl σ (p + C.length) C' := by
  obtain ⟨⟨h1, h2⟩, h3⟩ := h
  simp only [List.length_append] at h2
  refine ⟨⟨⟨h1, by omega⟩, fun i z hz => h3 i z ?_⟩, ⟨by omega, by omega⟩, fun i z hz => ?_⟩
  · have : i < C.length := by
      rcases Nat.lt_or_ge i C.length with q | q
      · exact q
      · rw [List.getElem?_eq_none q] at hz; cases hz
    rw [List.getElem?_append_left this]; exact hz
  · have := h3 (C.length + i) z (by rw [List.getElem?_append_right (by omega), Nat.add_sub_cancel_left]; exact hz)
    rw [show p + (C.length : Int) + (i : Int) = p + ((C.length + i : Nat) : Int) by omega]
    exact this
theorem cdS_app {A : aT} {go : Int → List (Int × Int)} {n : Int} : ∀ (R R' : List Int) (s : Nat), cdS A go n s (R ++ R') = cdS A go n s R ++ cdS A go n (s + R.length) R'
  | [], R', s => by simp [cdS]
  | x :: R, R', s => by
    simp only [List.cons_append, cdS, List.length_cons, List.append_assoc]
    rw [cdS_app R R' (s + 1), show s + 1 + R.length = s + (R.length + 1) by omega]
/-- no order and no name at that stage -/
def kQ (A : aT) (n : Int) (s : Nat) : Prop := ahd A n s = [] ∧ kNo A n s
theorem kQ_o {A : aT} {n : Int} {s : Nat} (h2 : ¬ A.2.1 n = 2) (h3 : ¬ A.2.1 n = 3) (h15 : ¬ A.2.1 n = 15) : kQ A n s := by
  refine ⟨?_, fun z => h2 z.1, fun z => h15 z.1⟩
  unfold ahd
  rw [if_neg (fun z => h2 z.1), if_neg (fun z => h3 z.1), if_neg (fun z => h15 z.1), if_neg (fun z => h15 z.1)]
theorem esA_no {A : aT} {n : Int} {s : Nat} (h : kNo A n s) (es : List Int) (b : Int) : esA A n s es b = es ∧ bA A n s b = b := by
  unfold esA bA
  rw [if_neg h.1, if_neg h.2, if_neg h.1, if_neg h.2]
  exact ⟨rfl, rfl⟩
theorem scS_app {σ : sg_S} {A : aT} {go : List Int → Int → Int → Int → Prop} {n : Int} {es : List Int} : ∀ (R R' : List Int) (s : Nat) (b b' : Int), (∀ j, s ≤ j → j < s + R.length → kNo A n j) → scS σ A go n s es b (R ++ R') b' → ∃ b1, scS σ A go n s es b R b1 ∧ scS σ A go n (s + R.length) es b1 R' b'
  | [], R', s, b, b', _, h => ⟨b, rfl, h⟩
  | x :: R, R', s, b, b', hn, h => by
    simp only [List.cons_append, scS] at h
    obtain ⟨h1, b2, h2, h3⟩ := h
    obtain ⟨e1, e2⟩ := esA_no (hn s (Nat.le_refl _) (by simp)) es b
    rw [e1, e2] at h2
    rw [e1] at h3
    obtain ⟨b1, k1, k2⟩ := scS_app R R' (s + 1) b2 b' (fun j x y => hn j (by omega) (by simp only [List.length_cons]; omega)) h3
    refine ⟨b1, ⟨h1, b2, by rw [e1, e2]; exact h2, by rw [e1]; exact k1⟩, ?_⟩
    rw [List.length_cons, show s + (R.length + 1) = s + 1 + R.length by omega]
    exact k2
theorem bA_le (A : aT) (n : Int) (s : Nat) (b : Int) : b ≤ bA A n s b := by
  unfold bA
  split
  · omega
  · split <;> omega
theorem scS_le {σ : sg_S} {A : aT} {go : List Int → Int → Int → Int → Prop} {n : Int} (hg : ∀ es x b b', go es x b b' → b ≤ b') : ∀ (R : List Int) (s : Nat) (es : List Int) (b b' : Int), scS σ A go n s es b R b' → b ≤ b'
  | [], s, es, b, b', h => by simp only [scS] at h; omega
  | x :: R, s, es, b, b', h => by
    simp only [scS] at h
    obtain ⟨h1, b2, h2, h3⟩ := h
    have := hg _ _ _ _ h2
    have := scS_le hg R _ _ _ _ h3
    have := bA_le A n s b
    omega
theorem scN_le {σ : sg_S} {A : aT} {dix : Int} : ∀ (f : Nat) (es : List Int) (n b b' : Int), scN σ A dix f es n b b' → b ≤ b'
  | 0, _, _, _, _, h => h.elim
  | f + 1, es, n, b, b', h => scS_le (fun es x b b' => scN_le f es x b b') _ _ _ _ _ h.2.2.2
/-- variables are bound outside, or within -/
def scV (σ : sg_S) (A : aT) (es L : List Int) (b b' : Int) : Prop := ∀ j ∈ L, A.2.1 j = 1 → sg_g σ 16 j ∈ es ∨ (b ≤ sg_g σ 16 j ∧ sg_g σ 16 j < b')
theorem scS_v {σ : sg_S} {A : aT} {go : List Int → Int → Int → Int → Prop} {n : Int} (hl : ∀ es x b b', go es x b b' → b ≤ b') (hg : ∀ es x b b' L, fT A [x] L → go es x b b' → scV σ A es L b b') : ∀ (R : List Int) (s : Nat) (es : List Int) (b b' : Int) (L : List Int), fT A R L → scS σ A go n s es b R b' → scV σ A es L b b'
  | [], s, es, b, b', L, hf, h => by
    have := fT_nil hf
    subst this
    intro j hj; simp at hj
  | x :: R, s, es, b, b', L, hf, h => by
    obtain ⟨L1, L2, e1, w1, w2, w3⟩ := fT_inv hf
    subst e1
    simp only [scS] at h
    obtain ⟨h1, b2, h2, h3⟩ := h
    have l1 := hl _ _ _ _ h2
    have l2 := scS_le hl R _ _ _ _ h3
    have l0 := bA_le A n s b
    have esx : ∀ y, y ∈ esA A n s es b → y ∈ es ∨ (b ≤ y ∧ y < bA A n s b) := by
      intro y hy
      unfold esA at hy
      unfold bA
      split at hy
      · rename_i c
        rw [if_pos c]
        rcases List.mem_cons.mp hy with e | e
        · right; omega
        · exact Or.inl e
      · rename_i c
        rw [if_neg c]
        split at hy
        · rename_i c2
          rw [if_pos c2]
          rcases List.mem_append.mp hy with e | e
          · exact Or.inr (gsl_m.mp e)
          · exact Or.inl e
        · exact Or.inl hy
    have k1 := hg _ _ _ _ _ (fT_one w1 w2) h2
    have k2 := scS_v hl hg R _ _ _ _ L2 w3 h3
    intro j hj hk
    rw [← List.cons_append] at hj
    rcases List.mem_append.mp hj with z | z
    · rcases k1 j z hk with q | q
      · rcases esx _ q with q | q
        · exact Or.inl q
        · right; omega
      · right; omega
    · rcases k2 j z hk with q | q
      · rcases esx _ q with q | q
        · exact Or.inl q
        · right; omega
      · right; omega
theorem fT_perm {A : aT} {R R' : List Int} (h : R.Perm R') : ∀ {L : List Int}, fT A R L → ∃ L', fT A R' L' ∧ L.Perm L' := by
  induction h with
  | nil => exact fun hf => ⟨_, hf, List.Perm.refl _⟩
  | cons x h ih =>
    intro L hf
    obtain ⟨L1, L2, e1, w1, w2, w3⟩ := fT_inv hf
    obtain ⟨L', k1, k2⟩ := ih w3
    subst e1
    exact ⟨_, fT_c w1 w2 k1, List.Perm.cons _ (List.Perm.append_left _ k2)⟩
  | swap x y l =>
    intro L hf
    obtain ⟨L1, L2, e1, w1, w2, w3⟩ := fT_inv hf
    obtain ⟨L3, L4, e2, v1, v2, v3⟩ := fT_inv w3
    subst e1 e2
    refine ⟨_, fT_c v1 v2 (fT_c w1 w2 v3), ?_⟩
    have : ((y :: L1) ++ ((x :: L3) ++ L4)).Perm ((x :: L3) ++ ((y :: L1) ++ L4)) := by
      rw [← List.append_assoc, ← List.append_assoc]
      exact List.Perm.append_right _ List.perm_append_comm
    simpa using this
  | trans _ _ ih1 ih2 =>
    intro L hf
    obtain ⟨L', a, b⟩ := ih1 hf
    obtain ⟨L'', c, d⟩ := ih2 a
    exact ⟨L'', c, b.trans d⟩
theorem kOrd_p (A : aT) (n : Int) : (A.2.2.2.2.1 n).Perm (kOrd A n) := by
  unfold kOrd
  split
  · have := List.perm_append_comm (l₁ := (A.2.2.2.2.1 n).take 1) (l₂ := (A.2.2.2.2.1 n).drop 1)
    rw [List.take_append_drop] at this
    exact this
  · exact List.Perm.refl _
theorem scN_v {σ : sg_S} {A : aT} {dix : Int} : ∀ (f : Nat) (es : List Int) (n b b' : Int) (L : List Int), fT A [n] L → scN σ A dix f es n b b' → scV σ A es L b b'
  | 0, _, _, _, _, _, _, h => h.elim
  | f + 1, es, n, b, b', L, hf, h => by
    obtain ⟨L1, L2, e1, w1, w2, w3⟩ := fT_inv hf
    have e2 := fT_nil w3
    subst e2
    rw [List.append_nil] at e1
    subst e1
    obtain ⟨L', k1, k2⟩ := fT_perm (kOrd_p A n) w2
    have := scS_v (σ := σ) (n := n) (fun es x b b' => scN_le f es x b b') (fun es x b b' L => scN_v f es x b b' L) _ _ _ _ _ L' k1 h.2.2.2
    intro j hj hk
    rcases List.mem_cons.mp hj with e | e
    · subst e; exact Or.inl (h.2.1 hk).1
    · exact this j (k2.mem_iff.mp e) hk
