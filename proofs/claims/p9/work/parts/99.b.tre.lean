/-! THE CLASS'S TREE and the tree as lists. -/
def kmp (k : Int) : Int := if k = 0 then 257 else if k = 1 then 258 else if k = 2 then 262 else if k = 3 then 264 else if k = 4 then 60 else if k = 5 then 61 else if k = 6 then 43 else if k = 7 then 45 else if k = 8 then 42 else if k = 9 then 47 else if k = 10 then 37 else if k = 11 then 35 else if k = 12 then 91 else if k = 13 then 280 else if k = 14 then 279 else if k = 15 then 123 else k + 251
theorem px_in {τ : sg_S} {a : Nat} {k v : Int} (h : 0 ≤ k ∧ k < 200) : sx_put τ a 200 k v = sg_w τ a k v := by unfold sx_put; rw [if_pos h]
theorem plx_in {τ : sg_S} {a : Nat} {k v : Int} (h : 0 ≤ k ∧ k < 200) : sx_putl τ a 200 k v = sg_wl τ a k v := by unfold sx_putl; rw [if_pos h]
theorem ax_in {τ : sg_S} {a : Nat} {k : Int} (h : 0 ≤ k ∧ k < 200) : sx_at τ a 200 k = sg_g τ a k := by unfold sx_at; rw [if_pos h]
/-- what lies ahead of node b stays: the tree's rows, the DEFS' -/
def fB (τ τ' : sg_S) (b : Int) : Prop := (∀ (a : Nat) (k : Int), 3 ≤ a ∧ a ≤ 18 → k < b → sg_g τ' a k = sg_g τ a k ∧ sg_gl τ' a k = sg_gl τ a k) ∧ ∀ (a : Nat) (k : Int), 19 ≤ a ∧ a ≤ 27 → sg_g τ' a k = sg_g τ a k ∧ sg_gl τ' a k = sg_gl τ a k
theorem fB_r (τ : sg_S) (b : Int) : fB τ τ b := ⟨fun _ _ _ _ => ⟨rfl, rfl⟩, fun _ _ _ => ⟨rfl, rfl⟩⟩
theorem fB_t {τ τ1 τ2 : sg_S} {b : Int} (h : fB τ τ1 b) (g : fB τ1 τ2 b) : fB τ τ2 b := ⟨fun a k ha hk => ⟨(g.1 a k ha hk).1.trans (h.1 a k ha hk).1, (g.1 a k ha hk).2.trans (h.1 a k ha hk).2⟩, fun a k ha => ⟨(g.2 a k ha).1.trans (h.2 a k ha).1, (g.2 a k ha).2.trans (h.2 a k ha).2⟩⟩
theorem fB_m {τ τ1 : sg_S} {b b' : Int} (h : fB τ τ1 b) (hb : b' ≤ b) : fB τ τ1 b' := ⟨fun a k ha hk => h.1 a k ha (by omega), h.2⟩
theorem fB_w {τ τ1 : sg_S} {b : Int} (h : fB τ τ1 b) {a : Nat} (ha : a ≤ 18) {k v : Int} (hk : b ≤ k) : fB τ (sg_w τ1 a k v) b := by
  refine ⟨fun a' k' ha' hk' => ?_, fun a' k' ha' => ?_⟩
  · rw [sg_gw, if_neg (by omega), sg_gw']; exact h.1 a' k' ha' hk'
  · rw [sg_gw, if_neg (by omega), sg_gw']; exact h.2 a' k' ha'
theorem fB_wl {τ τ1 : sg_S} {b : Int} (h : fB τ τ1 b) {a : Nat} (ha : a ≤ 18) {k v : Int} (hk : b ≤ k) : fB τ (sg_wl τ1 a k v) b := by
  refine ⟨fun a' k' ha' hk' => ?_, fun a' k' ha' => ?_⟩
  · rw [sg_gwl, if_neg (by omega), sg_gwl']; exact h.1 a' k' ha' hk'
  · rw [sg_gwl, if_neg (by omega), sg_gwl']; exact h.2 a' k' ha'
theorem fB_2 {τ τ1 : sg_S} {b : Int} (h : fB τ τ1 b) {k v : Int} : fB τ (sg_w τ1 2 k v) b := by
  refine ⟨fun a' k' ha' hk' => ?_, fun a' k' ha' => ?_⟩
  · rw [sg_gw, if_neg (by omega), sg_gw']; exact h.1 a' k' ha' hk'
  · rw [sg_gw, if_neg (by omega), sg_gw']; exact h.2 a' k' ha'
/-- parts in a chain -/
def lkc (g : Int → Int) : List Int → Int → Prop
  | [], _ => True
  | x :: r, h => h = x ∧ (r = [] ∨ lkc g r (g x))
theorem lkc_e {g g' : Int → Int} : ∀ {L : List Int} {h : Int}, lkc g L h → (∀ x, x ∈ L.dropLast → g' x = g x) → lkc g' L h
  | [], _, _, _ => trivial
  | x :: r, h, hl, e => by
    refine ⟨hl.1, ?_⟩
    cases r with
    | nil => exact Or.inl rfl
    | cons y z =>
      refine Or.inr ?_
      rw [e x (by simp [List.dropLast])]
      exact lkc_e (hl.2.resolve_left (by simp)) (fun u hu => e u (by simp [List.dropLast]; exact Or.inr hu))
theorem lkc_a {g : Int → Int} {p z : Int} : ∀ {L : List Int} {h : Int}, lkc g L h → L.getLast? = some z → L.Nodup → lkc (fun j => if j = z then p else g j) (L ++ [p]) h
  | [], _, _, hn, _ => by simp at hn
  | [x], h, hl, hn, _ => by
    simp at hn
    subst hn
    exact ⟨hl.1, Or.inr ⟨by simp, Or.inl rfl⟩⟩
  | x :: y :: r, h, hl, hn, hd => by
    have h1 := hl.2.resolve_left (by simp)
    have hn2 : (y :: r).getLast? = some z := by
      rw [List.getLast?_cons_cons] at hn
      exact hn
    have ih := lkc_a (p := p) (z := z) h1 hn2 (List.nodup_cons.mp hd).2
    refine ⟨hl.1, Or.inr ?_⟩
    have hx : ¬ x = z := by
      intro e
      subst e
      exact (List.nodup_cons.mp hd).1 (List.mem_of_getLast? hn2)
    simp only [if_neg hx]
    exact ih
/-- the parts of a node that are there so far -/
def oN (τ : sg_S) (k : Int) (L : List Int) : Prop := sg_g τ 10 k = L.length ∧ lkc (sg_g τ 9) L (sg_g τ 7 k) ∧ (∀ z, L.getLast? = some z → sg_g τ 8 k = z) ∧ L.Nodup ∧ ∀ x ∈ L, 0 ≤ x ∧ x < 200
theorem oN_e {τ τ' : sg_S} {k : Int} {L : List Int} (h : oN τ k L) (h1 : sg_g τ' 10 k = sg_g τ 10 k) (h2 : sg_g τ' 7 k = sg_g τ 7 k) (h3 : sg_g τ' 8 k = sg_g τ 8 k) (h4 : ∀ x ∈ L, sg_g τ' 9 x = sg_g τ 9 x) : oN τ' k L := by
  obtain ⟨a, b, c, d, e⟩ := h
  refine ⟨by rw [h1]; exact a, ?_, fun z hz => by rw [h3]; exact c z hz, d, e⟩
  rw [h2]
  exact lkc_e b (fun x hx => h4 x (List.dropLast_subset _ hx))
/-- what attach changes -/
theorem at_e {τ : sg_S} {k p : Int} {L : List Int} (hk : 0 ≤ k ∧ k < 200) (hp : 0 ≤ p ∧ p < 200) (h : oN τ k L) (hpL : p ∉ L) (hl : L.length < 200) : oN (pAttach τ k p) k (L ++ [p]) ∧ (∀ (a : Nat) (j : Int), ¬ (j = k ∧ (a = 7 ∨ a = 8 ∨ a = 10)) → ¬ (a = 9 ∧ j ∈ L) → sg_g (pAttach τ k p) a j = sg_g τ a j) ∧ (∀ (a : Nat) (j : Int), sg_gl (pAttach τ k p) a j = sg_gl τ a j) := by
  obtain ⟨a1, a2, a3, a4, a5⟩ := h
  have hr : sg_R p := ⟨by omega, by omega⟩
  unfold pAttach pAtt2 pAtt1
  rw [if_neg (by omega), ax_in hk]
  simp only [px_in hk, ax_in hk]
  cases L with
  | nil =>
    have e0 : sg_g τ 10 k = 0 := by rw [a1]; rfl
    rw [if_pos e0]
    refine ⟨⟨?_, ?_, ?_, ?_, ?_⟩, fun a j hj1 hj2 => ?_, fun a j => rfl⟩
    · simp only [rg_w, Nat.reduceEqDiff, if_false, if_true, reduceIte, e0]
      rfl
    · simp only [rg_w, Nat.reduceEqDiff, if_false, if_true, reduceIte, sg_id hr]
      exact ⟨rfl, Or.inl rfl⟩
    · intro z hz
      simp at hz
      subst hz
      simp only [rg_w, Nat.reduceEqDiff, if_false, if_true, reduceIte, sg_id hr]
    · simp
    · intro x hx
      simp at hx
      subst hx
      exact hp
    · simp only [sg_gw]
      rw [if_neg (by omega), if_neg (by omega), if_neg (by omega)]
  | cons x r =>
    obtain ⟨z, hz⟩ : ∃ z, (x :: r).getLast? = some z := ⟨_, List.getLast?_eq_some_getLast (by simp)⟩
    have e0 : ¬ sg_g τ 10 k = 0 := by
      rw [a1]
      simp only [List.length_cons]
      omega
    rw [if_neg e0]
    have e8 := a3 z hz
    have hlast : z ∈ x :: r := List.mem_of_getLast? hz
    have h8 : 0 ≤ sg_g τ 8 k ∧ sg_g τ 8 k < 200 := by rw [e8]; exact a5 _ hlast
    simp only [px_in h8]
    refine ⟨⟨?_, ?_, ?_, ?_, ?_⟩, fun a j hj1 hj2 => ?_, fun a j => rfl⟩
    · simp only [rg_w, Nat.reduceEqDiff, if_false, if_true, reduceIte, a1]
      simp only [List.length_cons, List.length_append, List.length_nil] at hl ⊢
      rw [sg_id ⟨by omega, by omega⟩]
      omega
    · simp only [rg_w, Nat.reduceEqDiff, if_false, if_true, reduceIte, sg_id hr]
      rw [e8]
      exact lkc_a a2 hz a4
    · intro z2 hz2
      rw [List.getLast?_append] at hz2
      simp at hz2
      subst hz2
      simp only [rg_w, Nat.reduceEqDiff, if_false, if_true, reduceIte, sg_id hr]
    · rw [List.nodup_append]
      refine ⟨a4, by simp, ?_⟩
      intro u hu v hv
      simp at hv
      subst hv
      intro e
      subst e
      exact hpL hu
    · intro u hu
      rcases List.mem_append.mp hu with e | e
      · exact a5 u e
      · simp at e
        subst e
        exact hp
    · simp only [sg_gw]
      rw [if_neg (by omega), if_neg (by omega), if_neg]
      rintro ⟨q1, q2⟩
      exact hj2 ⟨q1, by rw [q2, e8]; exact hlast⟩
