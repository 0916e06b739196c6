/-! BUILDING the class's tree beside the lists. -/
def pts (A : aT) (k : Int) : List Int := if A.2.1 k = 15 then (A.2.2.2.2.1 k).tail ++ (A.2.2.2.2.1 k).take 1 else A.2.2.2.2.1 k
theorem pts_m {A : aT} {k x : Int} (h : x ∈ pts A k) : x ∈ A.2.2.2.2.1 k := by
  unfold pts at h
  split at h
  · rcases List.mem_append.mp h with h | h
    · exact List.mem_of_mem_tail h
    · exact List.mem_of_mem_take h
  · exact h
/-- a { }'s own rows -/
def eN (τ : sg_S) (k : Int) (kids : List Int) (gens : List (Int × Int)) : Prop := sg_g τ 13 k = gens.length ∧ sg_g τ 14 k = (if kids.length = 2 + gens.length then kids.getLast?.getD (-1) else -1) ∧ ∀ (j : Nat) (x : Int × Int) (y : Int), gens[j]? = some x → kids[1 + j]? = some y → sg_gl τ 18 y = uv x.1 ∧ sg_g τ 15 y = x.2
def cN (τ : sg_S) (A : aT) (k : Int) : Prop := sg_g τ 3 k = kmp (A.2.1 k) ∧ sg_g τ 4 k = A.2.2.1 k ∧ ((A.2.1 k = 1 ∨ A.2.1 k = 2 ∨ A.2.1 k = 13) → sg_gl τ 17 k = uv (A.2.2.2.1 k)) ∧ oN τ k (pts A k) ∧ (A.2.1 k = 15 → eN τ k (A.2.2.2.2.1 k) (A.2.2.2.2.2 k))
theorem cN_x {τ τ' : sg_S} {A A' : aT} {k : Int} (h : cN τ A k) (hA : A'.2.1 k = A.2.1 k ∧ A'.2.2.1 k = A.2.2.1 k ∧ A'.2.2.2.1 k = A.2.2.2.1 k ∧ A'.2.2.2.2.1 k = A.2.2.2.2.1 k ∧ A'.2.2.2.2.2 k = A.2.2.2.2.2 k) (h1 : ∀ a : Nat, (a = 3 ∨ a = 4 ∨ a = 7 ∨ a = 8 ∨ a = 10 ∨ a = 13 ∨ a = 14) → sg_g τ' a k = sg_g τ a k) (h2 : sg_gl τ' 17 k = sg_gl τ 17 k) (h3 : ∀ x ∈ A.2.2.2.2.1 k, sg_g τ' 9 x = sg_g τ 9 x ∧ sg_g τ' 15 x = sg_g τ 15 x ∧ sg_gl τ' 18 x = sg_gl τ 18 x) : cN τ' A' k := by
  obtain ⟨a1, a2, a3, a4, a5⟩ := hA
  obtain ⟨c1, c2, c3, c4, c5⟩ := h
  have hp : pts A' k = pts A k := by unfold pts; rw [a1, a4]
  unfold cN
  rw [a1, a2, a3, a4, a5, hp]
  refine ⟨by rw [h1 3 (by omega)]; exact c1, by rw [h1 4 (by omega)]; exact c2, fun q => by rw [h2]; exact c3 q, oN_e c4 (h1 10 (by omega)) (h1 7 (by omega)) (h1 8 (by omega)) (fun x hx => (h3 x (pts_m hx)).1), fun q => ?_⟩
  obtain ⟨e1, e2, e3⟩ := c5 q
  refine ⟨by rw [h1 13 (by omega)]; exact e1, by rw [h1 14 (by omega)]; exact e2, fun j x y hx hy => ?_⟩
  have hm := List.mem_of_getElem? hy
  rw [(h3 y hm).2.2, (h3 y hm).2.1]
  exact e3 j x y hx hy
/-- all nodes from b on are told; R: those that hang on none yet -/
def cS (τ : sg_S) (A : aT) (b : Int) (R : List Int) : Prop := sg_g τ 2 16 = A.1 ∧ (0 ≤ b ∧ b ≤ A.1 ∧ A.1 ≤ 200) ∧ (∀ k, b ≤ k → k < A.1 → cN τ A k ∧ ∀ x ∈ A.2.2.2.2.1 k, (b ≤ x ∧ x < A.1) ∧ x ∉ R) ∧ R.Nodup ∧ ∀ x ∈ R, b ≤ x ∧ x < A.1
/-- the same with one node open: its parts so far are L -/
def bS (τ : sg_S) (A : aT) (b n : Int) (L R : List Int) : Prop := sg_g τ 2 16 = A.1 ∧ (0 ≤ b ∧ b ≤ n ∧ n < A.1 ∧ A.1 ≤ 200) ∧ oN τ n L ∧ (∀ k, b ≤ k → k < A.1 → ¬ k = n → cN τ A k ∧ ∀ x ∈ A.2.2.2.2.1 k, (b ≤ x ∧ x < A.1) ∧ x ∉ L ++ R ∧ ¬ x = n) ∧ (L ++ R).Nodup ∧ ∀ x ∈ L ++ R, (b ≤ x ∧ x < A.1) ∧ ¬ x = n
/-- the open node's own rows -/
def sN (τ : sg_S) (n K P W G U : Int) : Prop := sg_g τ 3 n = K ∧ sg_g τ 4 n = P ∧ sg_gl τ 17 n = W ∧ sg_g τ 13 n = G ∧ sg_g τ 14 n = U
theorem sN_f {τ τ' : sg_S} {n K P W G U b : Int} (h : sN τ n K P W G U) (hf : fB τ τ' b) (hn : n < b) : sN τ' n K P W G U := by
  obtain ⟨a1, a2, a3, a4, a5⟩ := h
  exact ⟨by rw [(hf.1 3 n (by omega) hn).1]; exact a1, by rw [(hf.1 4 n (by omega) hn).1]; exact a2, by rw [(hf.1 17 n (by omega) hn).2]; exact a3, by rw [(hf.1 13 n (by omega) hn).1]; exact a4, by rw [(hf.1 14 n (by omega) hn).1]; exact a5⟩
theorem ndl : ∀ (m : Nat) (L : List Int), L.Nodup → (∀ x ∈ L, 0 ≤ x ∧ x < m) → L.length ≤ m
  | 0, L, _, h => by
    cases L with
    | nil => simp
    | cons x r => have := h x (by simp); omega
  | m + 1, L, hn, h => by
    by_cases c : (m : Int) ∈ L
    · have := ndl m (L.erase m) (hn.erase _) (fun x hx => by
        obtain ⟨a, b⟩ := (List.Nodup.mem_erase_iff hn).mp hx
        have := h x b
        omega)
      rw [List.length_erase_of_mem c] at this
      omega
    · have := ndl m L hn (fun x hx => by
        have h1 := h x hx
        have h2 : ¬ x = (m : Int) := fun e => c (e ▸ hx)
        omega)
      omega
section BLD
variable {τ τ' : sg_S} {A A' : aT} {b n q : Int} {L R : List Int}
theorem lenR (hn : (L ++ R).Nodup) (hr : ∀ x ∈ L ++ R, (b ≤ x ∧ x < A.1) ∧ ¬ x = n) (h0 : 0 ≤ b) (hA : A.1 ≤ 200) (hN : b ≤ n ∧ n < A.1) : L.length < 200 := by
  have h1 : (n :: L).Nodup := List.nodup_cons.mpr ⟨fun h => (hr n (List.mem_append_left _ h)).2 rfl, (List.nodup_append.mp hn).1⟩
  have h2 : ∀ x ∈ n :: L, 0 ≤ x ∧ x < ((200 : Nat) : Int) := by
    intro x hx
    rcases List.mem_cons.mp hx with e | e
    · subst e; omega
    · have := (hr x (List.mem_append_left _ e)).1; omega
  have h3 := ndl 200 (n :: L) h1 h2
  simp only [List.length_cons] at h3
  omega
theorem bS_at (h : bS τ A b n L (q :: R)) (hA : A'.1 = A.1 ∧ ∀ k, ¬ k = n → A'.2.1 k = A.2.1 k ∧ A'.2.2.1 k = A.2.2.1 k ∧ A'.2.2.2.1 k = A.2.2.2.1 k ∧ A'.2.2.2.2.1 k = A.2.2.2.2.1 k ∧ A'.2.2.2.2.2 k = A.2.2.2.2.2 k) : bS (pAttach τ n q) A' b n (L ++ [q]) R ∧ fB τ (pAttach τ n q) b ∧ (∀ (a : Nat) (j : Int), (a = 3 ∨ a = 4 ∨ a = 13 ∨ a = 14 ∨ a = 15) → sg_g (pAttach τ n q) a j = sg_g τ a j) ∧ (∀ (a : Nat) (j : Int), sg_gl (pAttach τ n q) a j = sg_gl τ a j) := by
  obtain ⟨h1, h2, h3, h4, h5, h6⟩ := h
  have hq := h6 q (by simp)
  have hqL : q ∉ L := by
    intro hc
    exact (List.nodup_append.mp h5).2.2 q hc q (by simp) rfl
  have hl := lenR h5 h6 h2.1 h2.2.2.2 ⟨h2.2.1, h2.2.2.1⟩
  obtain ⟨e1, e2, e3⟩ := at_e (τ := τ) (k := n) (p := q) (L := L) ⟨by omega, by omega⟩ ⟨by omega, by omega⟩ h3 hqL hl
  have hperm : L ++ [q] ++ R = L ++ (q :: R) := by simp
  refine ⟨⟨?_, by rw [hA.1]; exact h2, e1, fun k hk0 hk1 hkn => ?_, by rw [hperm]; exact h5, fun x hx => by rw [hA.1]; exact h6 x (by rw [← hperm]; exact hx)⟩, ⟨fun a k ha hk => ?_, fun a k ha => ?_⟩, fun a j ha => ?_, e3⟩
  · rw [e2 2 16 (by omega) (by omega), h1, hA.1]
  · rw [hA.1] at hk1
    obtain ⟨c1, c2⟩ := h4 k hk0 hk1 hkn
    have ek := hA.2 k hkn
    refine ⟨cN_x c1 ek (fun a ha => e2 a k (by omega) (by omega)) (e3 17 k) (fun x hx => ⟨e2 9 x (by omega) (fun hc => (c2 x hx).2.1 (List.mem_append_left _ hc.2)), e2 15 x (by omega) (by omega), e3 18 x⟩), ?_⟩
    rw [ek.2.2.2.1, hA.1, hperm]
    exact c2
  · refine ⟨e2 a k (by omega) (fun hc => ?_), e3 a k⟩
    have := (h6 k (List.mem_append_left _ hc.2)).1
    omega
  · exact ⟨e2 a k (by omega) (by omega), e3 a k⟩
  · exact e2 a j (by omega) (by omega)
theorem sN_at {K P W G U : Int} (h : sN τ n K P W G U) (h1 : ∀ (a : Nat) (j : Int), (a = 3 ∨ a = 4 ∨ a = 13 ∨ a = 14 ∨ a = 15) → sg_g τ' a j = sg_g τ a j) (h2 : ∀ (a : Nat) (j : Int), sg_gl τ' a j = sg_gl τ a j) : sN τ' n K P W G U := by
  obtain ⟨a1, a2, a3, a4, a5⟩ := h
  exact ⟨by rw [h1 3 n (by omega)]; exact a1, by rw [h1 4 n (by omega)]; exact a2, by rw [h2]; exact a3, by rw [h1 13 n (by omega)]; exact a4, by rw [h1 14 n (by omega)]; exact a5⟩
/-- a reading behind: its root hangs on none yet -/
theorem bS_E (h : bS τ A b n L R) (hs : cS τ' A' A.1 [q]) (hf : fB τ τ' A.1) (hg : gr A A') : bS τ' A' b n L (q :: R) := by
  obtain ⟨h1, h2, h3, h4, h5, h6⟩ := h
  obtain ⟨s1, s2, s3, s4, s5⟩ := hs
  have hg1 := hg.1
  have hq := s5 q (by simp)
  have hqn : q ∉ L ++ R := fun hc => by have := (h6 q hc).1; omega
  refine ⟨s1, ⟨h2.1, h2.2.1, by omega, s2.2.2⟩, ?_, fun k hk0 hk1 hkn => ?_, ?_, fun x hx => ?_⟩
  · have hn : n < A.1 := h2.2.2.1
    exact oN_e h3 (hf.1 10 n (by omega) hn).1 (hf.1 7 n (by omega) hn).1 (hf.1 8 n (by omega) hn).1 (fun x hx => (hf.1 9 x (by omega) (h6 x (List.mem_append_left _ hx)).1.2).1)
  · by_cases c : k < A.1
    · obtain ⟨c1, c2⟩ := h4 k hk0 c hkn
      have ek := hg.2 k c
      refine ⟨cN_x c1 ek (fun a ha => (hf.1 a k (by omega) c).1) (hf.1 17 k (by omega) c).2 (fun x hx => ⟨(hf.1 9 x (by omega) (c2 x hx).1.2).1, (hf.1 15 x (by omega) (c2 x hx).1.2).1, (hf.1 18 x (by omega) (c2 x hx).1.2).2⟩), ?_⟩
      rw [ek.2.2.2.1]
      intro x hx
      have := c2 x hx
      refine ⟨by omega, ?_, this.2.2⟩
      intro hc
      rcases List.mem_append.mp hc with e | e
      · exact this.2.1 (List.mem_append_left _ e)
      · rcases List.mem_cons.mp e with e | e
        · omega
        · exact this.2.1 (List.mem_append_right _ e)
    · obtain ⟨c1, c2⟩ := s3 k (by omega) hk1
      refine ⟨c1, fun x hx => ?_⟩
      have := c2 x hx
      refine ⟨by omega, ?_, by omega⟩
      intro hc
      rcases List.mem_append.mp hc with e | e
      · have := (h6 x (List.mem_append_left _ e)).1; omega
      · rcases List.mem_cons.mp e with e | e
        · exact this.2 (by simp [e])
        · have := (h6 x (List.mem_append_right _ e)).1; omega
  · rw [List.nodup_append] at h5 ⊢
    refine ⟨h5.1, List.nodup_cons.mpr ⟨fun hc => hqn (List.mem_append_right _ hc), h5.2.1⟩, fun x hx y hy => ?_⟩
    rcases List.mem_cons.mp hy with e | e
    · subst e
      intro e2
      subst e2
      exact hqn (List.mem_append_left _ hx)
    · exact h5.2.2 x hx y e
  · rcases List.mem_append.mp hx with e | e
    · have := h6 x (List.mem_append_left _ e); omega
    · rcases List.mem_cons.mp e with e | e
      · subst e; omega
      · have := h6 x (List.mem_append_right _ e); omega
/-- the open node is done -/
theorem bS_c (h : bS τ A b n L R) (hn : cN τ A n) (hk : ∀ x ∈ A.2.2.2.2.1 n, x ∈ L) : cS τ A b (n :: R) := by
  obtain ⟨h1, h2, h3, h4, h5, h6⟩ := h
  refine ⟨h1, ⟨h2.1, by omega, h2.2.2.2⟩, fun k hk0 hk1 => ?_, List.nodup_cons.mpr ⟨fun hc => (h6 n (List.mem_append_right _ hc)).2 rfl, (List.nodup_append.mp h5).2.1⟩, fun x hx => ?_⟩
  · by_cases e : k = n
    · subst e
      refine ⟨hn, fun x hx => ?_⟩
      have hx2 := hk x hx
      have := h6 x (List.mem_append_left _ hx2)
      refine ⟨this.1, fun hc => ?_⟩
      rcases List.mem_cons.mp hc with e | e
      · exact this.2 e
      · exact (List.nodup_append.mp h5).2.2 x hx2 x e rfl
    · obtain ⟨c1, c2⟩ := h4 k hk0 hk1 e
      refine ⟨c1, fun x hx => ?_⟩
      have := c2 x hx
      refine ⟨this.1, fun hc => ?_⟩
      rcases List.mem_cons.mp hc with e | e
      · exact this.2.2 e
      · exact this.2.1 (List.mem_append_right _ e)
  · rcases List.mem_cons.mp hx with e | e
    · subst e; omega
    · exact (h6 x (List.mem_append_right _ e)).1
end BLD
