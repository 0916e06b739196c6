/-! FLAT VALUES, told as lists of values, one for each LANE. -/
/-- the items of all lanes -/
def flF (l : List vaF) : List vaF := (l.map itF).flatten
/-- the cells of level j -/
def lvl : Nat → List vaF → List Int
  | 0, l => l.map (fun v => v [])
  | j + 1, l => lvl j (flF l)
/-- EXTENT of a value of depth d -/
def exF : Nat → List vaF → Int
  | 0, l => (l.length : Int)
  | d + 1, l => (l.length : Int) + exF d (flF l)
theorem flF_0 : flF [] = [] := rfl
theorem flF_a (l m : List vaF) : flF (l ++ m) = flF l ++ flF m := by
  unfold flF
  rw [List.map_append, List.flatten_append]
theorem flF_1 (v : vaF) : flF [v] = itF v := by
  unfold flF
  simp
theorem flF_c (v : vaF) (l : List vaF) : flF (v :: l) = itF v ++ flF l := by
  unfold flF
  simp
theorem lvl_0 : ∀ j, lvl j [] = []
  | 0 => rfl
  | j + 1 => by
    simp only [lvl, flF_0]
    exact lvl_0 j
theorem lvl_a : ∀ (j : Nat) (l m : List vaF), lvl j (l ++ m) = lvl j l ++ lvl j m
  | 0, l, m => by simp only [lvl, List.map_append]
  | j + 1, l, m => by
    simp only [lvl, flF_a]
    exact lvl_a j _ _
theorem exF_a : ∀ (d : Nat) (l m : List vaF), exF d (l ++ m) = exF d l + exF d m
  | 0, l, m => by simp only [exF, List.length_append]; omega
  | d + 1, l, m => by
    simp only [exF, flF_a, List.length_append]
    rw [exF_a d]
    omega
theorem exF_n : ∀ (d : Nat) (l : List vaF), (l.length : Int) ≤ exF d l
  | 0, l => Int.le_refl _
  | d + 1, l => by
    simp only [exF]
    have := exF_n d (flF l)
    have h : (0 : Int) ≤ ((flF l).length : Int) := Int.natCast_nonneg _
    omega
/-- EXTENT is all levels' cells -/
def lvS : Nat → List vaF → Nat → Int
  | 0, l, j => ((lvl j l).length : Int)
  | d + 1, l, j => ((lvl j l).length : Int) + lvS d l (j + 1)
theorem lvS_s : ∀ (d : Nat) (l : List vaF) (j : Nat), lvS d (flF l) j = lvS d l (j + 1)
  | 0, l, j => rfl
  | d + 1, l, j => by
    simp only [lvS]
    rw [lvS_s d l (j + 1)]
    rfl
theorem exF_l : ∀ (d : Nat) (l : List vaF), exF d l = lvS d l 0
  | 0, l => by simp [exF, lvS, lvl]
  | d + 1, l => by
    simp only [exF, lvS]
    rw [exF_l d (flF l), lvS_s d l 0]
    simp [lvl]
/-- lengths tell how many cells the next level has -/
theorem lvl_n (l : List vaF) (h : ∀ v ∈ l, 0 ≤ v []) : ((flF l).length : Int) = sumF (lvl 0 l) := by
  induction l with
  | nil => rfl
  | cons v r ih =>
    have hv := h v (by simp)
    rw [flF_c, List.length_append, itF_l]
    simp only [lvl, List.map_cons, sumF]
    have e := ih (fun u hu => h u (by simp [hu]))
    simp only [lvl] at e
    omega
/-- values of depth d: all lengths are 0 or more -/
def okF : Nat → List vaF → Prop
  | 0, _ => True
  | d + 1, l => (∀ v ∈ l, 0 ≤ v []) ∧ okF d (flF l)
theorem okF_a : ∀ (d : Nat) (l m : List vaF), okF d (l ++ m) ↔ okF d l ∧ okF d m
  | 0, l, m => by simp [okF]
  | d + 1, l, m => by
    simp only [okF, flF_a, okF_a d, List.mem_append]
    constructor
    · rintro ⟨a, b, c⟩
      exact ⟨⟨fun v hv => a v (Or.inl hv), b⟩, fun v hv => a v (Or.inr hv), c⟩
    · rintro ⟨⟨a, b⟩, c, e⟩
      exact ⟨fun v hv => hv.elim (a v) (c v), b, e⟩
theorem lvl_len : ∀ (d j : Nat) (l : List vaF), j < d → okF d l → ((lvl (j + 1) l).length : Int) = sumF (lvl j l)
  | d + 1, 0, l, _, h => by
    have := lvl_n l h.1
    simp only [lvl, List.length_map]
    simp only [lvl] at this
    exact this
  | d + 1, j + 1, l, hj, h => lvl_len d j (flF l) (by omega) h.2
/-- cells of level j ahead of lane i -/
def bgF (j : Nat) (l : List vaF) (i : Nat) : Nat := (lvl j (l.take i)).length
theorem bgF_0 (l : List vaF) (i : Nat) (h : i ≤ l.length) : bgF 0 l i = i := by
  unfold bgF
  simp only [lvl, List.length_map, List.length_take]
  omega
theorem bgF_t (j : Nat) (l : List vaF) (i : Nat) : lvl j (l.take i) = (lvl j l).take (bgF j l i) := by
  have e : lvl j l = lvl j (l.take i) ++ lvl j (l.drop i) := by rw [← lvl_a, List.take_append_drop]
  rw [e]
  unfold bgF
  rw [List.take_left]
theorem bgF_s {d j : Nat} {l : List vaF} (i : Nat) (hj : j < d) (h : okF d l) : (bgF (j + 1) l i : Int) = sumF ((lvl j l).take (bgF j l i)) := by
  rw [← bgF_t]
  have h2 : okF d (l.take i) := by
    have := (okF_a d (l.take i) (l.drop i)).mp (by rw [List.take_append_drop]; exact h)
    exact this.1
  exact lvl_len d j (l.take i) hj h2
/-- cells of level j that lane i has -/
theorem bgF_i (j : Nat) (l : List vaF) (i : Nat) (v : vaF) (h : l[i]? = some v) : bgF j l (i + 1) = bgF j l i + (lvl j [v]).length ∧ ((lvl j l).drop (bgF j l i)).take (lvl j [v]).length = lvl j [v] := by
  have e : l.take (i + 1) = l.take i ++ [v] := by rw [List.take_add_one, h]; rfl
  have e2 : l = l.take i ++ ([v] ++ l.drop (i + 1)) := by
    rw [← List.append_assoc, ← e, List.take_append_drop]
  refine ⟨by unfold bgF; rw [e, lvl_a, List.length_append], ?_⟩
  have e3 : lvl j l = lvl j (l.take i) ++ (lvl j [v] ++ lvl j (l.drop (i + 1))) := by
    rw [← lvl_a, ← lvl_a, ← e2]
  rw [e3]
  unfold bgF
  rw [List.drop_left, List.take_left]
