/-! EACH SUBTREE IS A RANGE OF NODES, and no deeper than levels were left: what is kept as the class reads. -/
theorem fT_of {A : aT} {R L : List Int} {y : Int} (h : fT A R L) (hy : y ∈ R) : ∃ Ly, fT A [y] Ly ∧ ∀ x ∈ Ly, x ∈ L := by
  obtain ⟨R1, R2, e⟩ := List.append_of_mem hy
  subst e
  obtain ⟨La, Lb, e1, f1, f2⟩ := fT_spl R1 (y :: R2) L h
  obtain ⟨Lc, Ld, e2, f3, f4⟩ := fT_spl [y] R2 Lb f2
  exact ⟨Lc, f3, fun x hx => by rw [e1, e2]; simp [hx]⟩
theorem htN_e {A A' : aT} : ∀ (fu : Nat) (q : Int) (L : List Int), fT A [q] L → (∀ x ∈ L, A'.2.1 x = A.2.1 x ∧ A'.2.2.2.2.1 x = A.2.2.2.2.1 x) → htN A' fu q = htN A fu q
  | 0, _, _, _, _ => rfl
  | fu + 1, q, L, hf, he => by
    obtain ⟨L1, L2, e1, w1, w2, w3⟩ := fT_inv hf
    have e2 := fT_nil w3
    subst e2
    rw [List.append_nil] at e1
    subst e1
    obtain ⟨a, b⟩ := he q (by simp)
    simp only [htN]
    rw [a, b]
    have : (A.2.2.2.2.1 q).map (htN A' fu) = (A.2.2.2.2.1 q).map (htN A fu) := List.map_congr_left (fun y hy => by
      obtain ⟨Ly, f1, f2⟩ := fT_of w2 hy
      exact htN_e fu y Ly f1 (fun x hx => he x (List.mem_cons_of_mem _ (f2 x hx))))
    rw [this]
def hNq (A : aT) (h : Nat) (x : Int) : Prop := ∀ fu, htN A fu x ≤ h
/-- node k with all below it is a range -/
def jN (τ : sg_S) (A : aT) (b k : Int) : Prop := (b ≤ sg_g τ 11 k ∧ sg_g τ 12 k < A.1) ∧ ∃ L, fT A [k] L ∧ ∀ x, x ∈ L ↔ (sg_g τ 11 k ≤ x ∧ x ≤ sg_g τ 12 k)
def jCq (τ : sg_S) (A : aT) (b : Int) : Prop := ∀ k, b ≤ k → k < A.1 → jN τ A b k
/-- node n is open -/
def jO (τ : sg_S) (A : aT) (b n : Int) (h : Nat) : Prop := (b ≤ n ∧ n < A.1) ∧ (∀ k, b ≤ k → k < A.1 → ¬ k = n → jN τ A b k ∧ ¬ (sg_g τ 11 k ≤ n ∧ n ≤ sg_g τ 12 k)) ∧ ∀ x ∈ A.2.2.2.2.1 n, (b ≤ x ∧ x < A.1 ∧ ¬ x = n) ∧ hNq A h x
/-- a part that is read -/
def jQ (τ : sg_S) (A : aT) (b q : Int) (h : Nat) : Prop := jCq τ A b ∧ (b ≤ q ∧ q < A.1) ∧ sg_g τ 11 q = b ∧ hNq A h q
theorem jN_x {τ τ' : sg_S} {A A' : aT} {b b' k : Int} (h : jN τ A b k) (h11 : sg_g τ' 11 k = sg_g τ 11 k) (h12 : sg_g τ' 12 k = sg_g τ 12 k) (hA : A.1 ≤ A'.1) (hb : b' ≤ b) (he : ∀ x, sg_g τ 11 k ≤ x → x ≤ sg_g τ 12 k → A'.2.1 x = A.2.1 x ∧ A'.2.2.2.2.1 x = A.2.2.2.2.1 x ∧ A'.2.2.2.2.2 x = A.2.2.2.2.2 x) : jN τ' A' b' k := by
  obtain ⟨⟨a1, a2⟩, L, l1, l2⟩ := h
  refine ⟨by rw [h11, h12]; omega, L, fT_e l1 (fun x hx => ?_), by rw [h11, h12]; exact l2⟩
  exact he x ((l2 x).mp hx).1 ((l2 x).mp hx).2
theorem hNq_x {τ : sg_S} {A A' : aT} {b k : Int} {h : Nat} (hn : hNq A h k) (hj : jN τ A b k) (he : ∀ x, sg_g τ 11 k ≤ x → x ≤ sg_g τ 12 k → A'.2.1 x = A.2.1 x ∧ A'.2.2.2.2.1 x = A.2.2.2.2.1 x ∧ A'.2.2.2.2.2 x = A.2.2.2.2.2 x) : hNq A' h k := fun fu => by
  obtain ⟨-, L, l1, l2⟩ := hj
  rw [htN_e fu k L l1 (fun x hx => ⟨(he x ((l2 x).mp hx).1 ((l2 x).mp hx).2).1, (he x ((l2 x).mp hx).1 ((l2 x).mp hx).2).2.1⟩)]
  exact hn fu
/-- rows 11, 12 stay, and all nodes but n; n's parts are of the old ones, or x -/
theorem jO_x {τ τ' : sg_S} {A A' : aT} {b n : Int} {h : Nat} (hj : jO τ A b n h) (hr : ∀ k, sg_g τ' 11 k = sg_g τ 11 k ∧ sg_g τ' 12 k = sg_g τ 12 k) (hA : A'.1 = A.1) (he : ∀ x, ¬ x = n → A'.2.1 x = A.2.1 x ∧ A'.2.2.2.2.1 x = A.2.2.2.2.1 x ∧ A'.2.2.2.2.2 x = A.2.2.2.2.2 x) (hk : ∀ x ∈ A'.2.2.2.2.1 n, x ∈ A.2.2.2.2.1 n ∨ ((b ≤ x ∧ x < A.1 ∧ ¬ x = n) ∧ hNq A h x)) : jO τ' A' b n h := by
  obtain ⟨h1, h2, h3⟩ := hj
  have eq : ∀ k, b ≤ k → k < A.1 → ¬ k = n → ∀ x, sg_g τ 11 k ≤ x → x ≤ sg_g τ 12 k → A'.2.1 x = A.2.1 x ∧ A'.2.2.2.2.1 x = A.2.2.2.2.1 x ∧ A'.2.2.2.2.2 x = A.2.2.2.2.2 x := fun k a c d x p q => he x (fun z => (h2 k a c d).2 (by rw [← z]; exact ⟨p, q⟩))
  refine ⟨by rw [hA]; exact h1, fun k a c d => ?_, fun x hx => ?_⟩
  · rw [hA] at c
    refine ⟨jN_x (h2 k a c d).1 (hr k).1 (hr k).2 (by omega) (Int.le_refl _) (eq k a c d), ?_⟩
    rw [(hr k).1, (hr k).2]; exact (h2 k a c d).2
  · rw [hA]
    have : (b ≤ x ∧ x < A.1 ∧ ¬ x = n) ∧ hNq A h x := by
      rcases hk x hx with z | z
      · exact h3 x z
      · exact z
    exact ⟨this.1, hNq_x this.2 (h2 x this.1.1 this.1.2.1 this.1.2.2).1 (eq x this.1.1 this.1.2.1 this.1.2.2)⟩
/-- a part is read within an open node -/
theorem jO_E {τ τ' : sg_S} {A A' : aT} {b n q : Int} {h : Nat} (hj : jO τ A b n h) (hf : fB τ τ' A.1) (hg : gr A A') (hq : jQ τ' A' A.1 q h) : jO τ' A' b n h ∧ (b ≤ q ∧ q < A'.1 ∧ ¬ q = n) ∧ hNq A' h q := by
  obtain ⟨h1, h2, h3⟩ := hj
  obtain ⟨q1, q2, q3, q4⟩ := hq
  have r : ∀ k, k < A.1 → sg_g τ' 11 k = sg_g τ 11 k ∧ sg_g τ' 12 k = sg_g τ 12 k := fun k hk => ⟨(hf.1 11 k (by decide) hk).1, (hf.1 12 k (by decide) hk).1⟩
  have eq : ∀ k, b ≤ k → k < A.1 → ¬ k = n → ∀ x, sg_g τ 11 k ≤ x → x ≤ sg_g τ 12 k → A'.2.1 x = A.2.1 x ∧ A'.2.2.2.2.1 x = A.2.2.2.2.1 x ∧ A'.2.2.2.2.2 x = A.2.2.2.2.2 x := fun k a c d x _ p => by
    obtain ⟨g1, g2, g3, g4, g5⟩ := hg.2 x (by have := (h2 k a c d).1.1.2; omega)
    exact ⟨g1, g4, g5⟩
  have gl := hg.1
  refine ⟨⟨⟨h1.1, by omega⟩, fun k a c d => ?_, fun x hx => ?_⟩, ⟨by omega, by omega, by omega⟩, q4⟩
  · by_cases ck : k < A.1
    · refine ⟨jN_x (h2 k a ck d).1 (r k ck).1 (r k ck).2 gl (Int.le_refl _) (eq k a ck d), ?_⟩
      rw [(r k ck).1, (r k ck).2]; exact (h2 k a ck d).2
    · have z := q1 k (by omega) c
      refine ⟨jN_x z rfl rfl (Int.le_refl _) (by omega) (fun x _ _ => ⟨rfl, rfl, rfl⟩), ?_⟩
      have := z.1.1
      omega
  · obtain ⟨g1, g2, g3, g4, g5⟩ := hg.2 n h1.2
    rw [g4] at hx
    have w := h3 x hx
    exact ⟨⟨w.1.1, by omega, w.1.2.2⟩, hNq_x w.2 (h2 x w.1.1 w.1.2.1 w.1.2.2).1 (eq x w.1.1 w.1.2.1 w.1.2.2)⟩
theorem p_at11 (τ : sg_S) (k p j : Int) : sg_g (pAttach τ k p) 11 j = sg_g τ 11 j ∧ sg_g (pAttach τ k p) 12 j = sg_g τ 12 j ∧ sg_g (pAttach τ k p) 2 16 = sg_g τ 2 16 := by
  have c : ∀ (σ : sg_S) (a : Nat) (n i x : Int) (bb : Nat) (jj : Int), bb ≠ a → sg_g (sx_put σ a n i x) bb jj = sg_g σ bb jj := fun σ a n i x bb jj h => by
    unfold sx_put
    split
    · exact sg_gw_c _ _ _ _ _ _ h
    · rfl
  have a1 : ∀ bb jj, bb ≠ 7 → bb ≠ 9 → sg_g (pAtt1 τ k p) bb jj = sg_g τ bb jj := fun bb jj h7 h9 => by
    unfold pAtt1
    split
    · exact c _ _ _ _ _ _ _ h7
    · exact c _ _ _ _ _ _ _ h9
  unfold pAttach
  split
  · exact ⟨rfl, rfl, rfl⟩
  · unfold pAtt2
    refine ⟨?_, ?_, ?_⟩
    · rw [c _ _ _ _ _ _ _ (by decide), c _ _ _ _ _ _ _ (by decide), a1 _ _ (by decide) (by decide)]
    · rw [c _ _ _ _ _ _ _ (by decide), c _ _ _ _ _ _ _ (by decide), a1 _ _ (by decide) (by decide)]
    · rw [c _ _ _ _ _ _ _ (by decide), c _ _ _ _ _ _ _ (by decide), a1 _ _ (by decide) (by decide)]
theorem sxp_c (σ : sg_S) (a : Nat) (n i x : Int) (b : Nat) (j : Int) (h : b ≠ a) : sg_g (sx_put σ a n i x) b j = sg_g σ b j := by
  unfold sx_put
  split
  · exact sg_gw_c _ _ _ _ _ _ h
  · rfl
theorem sxl_c (σ : sg_S) (a : Nat) (n i x : Int) (b : Nat) (j : Int) : sg_g (sx_putl σ a n i x) b j = sg_g σ b j := by
  unfold sx_putl
  split
  · rfl
  · rfl
/-- a part hangs on the open node -/
theorem jO_k {τ : sg_S} {A : aT} {b n q : Int} {h : Nat} (hj : jO τ A b n h) (hq : (b ≤ q ∧ q < A.1 ∧ ¬ q = n) ∧ hNq A h q) : jO τ (aKid A n q) b n h := by
  refine jO_x hj (fun _ => ⟨rfl, rfl⟩) rfl (fun x hx => by simp only [aKid, aU_n _ _ hx, and_self]) (fun x hx => ?_)
  simp only [aKid, aU_e] at hx
  rcases List.mem_append.mp hx with z | z
  · exact Or.inl z
  · simp at z; subst z; exact Or.inr hq
theorem jO_r {τ τ' : sg_S} {A : aT} {b n : Int} {h : Nat} (hj : jO τ A b n h) (hr : ∀ k, sg_g τ' 11 k = sg_g τ 11 k ∧ sg_g τ' 12 k = sg_g τ 12 k) : jO τ' A b n h := jO_x hj hr rfl (fun _ _ => ⟨rfl, rfl, rfl⟩) (fun _ hx => Or.inl hx)
/-- a new node -/
theorem jO_new {c : tkC} {i i1 : Nat} {τ τ1 : sg_S} {A : aT} {b k kd p w : Int} {h : Nat} (hj : jCq τ A b) (hb : b ≤ A.1) (h2 : sg_g τ 2 16 = A.1) (h0 : 0 ≤ A.1) (hc : pCreate c i τ = some (i1, τ1, k)) : k = A.1 ∧ i1 = i + 1 ∧ sg_g τ1 2 16 = A.1 + 1 ∧ A.1 < 200 ∧ (sg_g τ1 11 A.1 = A.1 ∧ sg_g τ1 12 A.1 = A.1) ∧ (∀ j, ¬ j = A.1 → sg_g τ1 11 j = sg_g τ 11 j ∧ sg_g τ1 12 j = sg_g τ 12 j) ∧ jO τ1 (aNew A kd p w) b A.1 h := by
  unfold pCreate at hc
  split at hc
  · cases hc
  rename_i hlt
  cases hc
  rw [h2] at hlt ⊢
  have n200 : 0 ≤ A.1 ∧ A.1 < 200 := by omega
  have g : ∀ (bb : Nat) (jj : Int), bb ≠ 5 → sg_g (sx_putl (sx_put (pAdd τ (tK c i) (tPl c i)) 5 200 A.1 (tN c i)) 17 200 A.1 (tW c i)) bb jj = sg_g (pAdd τ (tK c i) (tPl c i)) bb jj := fun bb jj h5 => (sxl_c _ _ _ _ _ _ _).trans (sxp_c _ _ _ _ _ _ _ h5)
  have g12 : ∀ jj, sg_g (pAdd τ (tK c i) (tPl c i)) 12 jj = if jj = A.1 then A.1 else sg_g τ 12 jj := fun jj => by
    unfold pAdd
    rw [h2]
    rw [xp_in (a := 12) n200, sg_gw]
    by_cases cj : jj = A.1
    · rw [if_pos ⟨rfl, cj⟩, if_pos cj]; exact sg_id ⟨by omega, by omega⟩
    · rw [if_neg (fun z => cj z.2), if_neg cj]
      simp only [sxp_c _ _ _ _ _ _ _ (show (12 : Nat) ≠ 11 by decide), sxp_c _ _ _ _ _ _ _ (show (12 : Nat) ≠ 14 by decide), sxp_c _ _ _ _ _ _ _ (show (12 : Nat) ≠ 13 by decide), sxp_c _ _ _ _ _ _ _ (show (12 : Nat) ≠ 10 by decide), sxp_c _ _ _ _ _ _ _ (show (12 : Nat) ≠ 9 by decide), sxp_c _ _ _ _ _ _ _ (show (12 : Nat) ≠ 8 by decide), sxp_c _ _ _ _ _ _ _ (show (12 : Nat) ≠ 7 by decide), sxp_c _ _ _ _ _ _ _ (show (12 : Nat) ≠ 4 by decide), sxp_c _ _ _ _ _ _ _ (show (12 : Nat) ≠ 3 by decide)]
      exact sg_gw_c _ _ _ _ _ _ (by decide)
  have g11 : ∀ jj, sg_g (pAdd τ (tK c i) (tPl c i)) 11 jj = if jj = A.1 then A.1 else sg_g τ 11 jj := fun jj => by
    unfold pAdd
    rw [h2]
    rw [sxp_c _ 12 _ _ _ _ _ (by decide), xp_in (a := 11) n200, sg_gw]
    by_cases cj : jj = A.1
    · rw [if_pos ⟨rfl, cj⟩, if_pos cj]; exact sg_id ⟨by omega, by omega⟩
    · rw [if_neg (fun z => cj z.2), if_neg cj]
      simp only [sxp_c _ _ _ _ _ _ _ (show (11 : Nat) ≠ 14 by decide), sxp_c _ _ _ _ _ _ _ (show (11 : Nat) ≠ 13 by decide), sxp_c _ _ _ _ _ _ _ (show (11 : Nat) ≠ 10 by decide), sxp_c _ _ _ _ _ _ _ (show (11 : Nat) ≠ 9 by decide), sxp_c _ _ _ _ _ _ _ (show (11 : Nat) ≠ 8 by decide), sxp_c _ _ _ _ _ _ _ (show (11 : Nat) ≠ 7 by decide), sxp_c _ _ _ _ _ _ _ (show (11 : Nat) ≠ 4 by decide), sxp_c _ _ _ _ _ _ _ (show (11 : Nat) ≠ 3 by decide)]
      exact sg_gw_c _ _ _ _ _ _ (by decide)
  have g2 : sg_g (pAdd τ (tK c i) (tPl c i)) 2 16 = A.1 + 1 := by
    unfold pAdd
    rw [h2]
    simp only [sxp_c _ _ _ _ _ _ _ (show (2 : Nat) ≠ 12 by decide), sxp_c _ _ _ _ _ _ _ (show (2 : Nat) ≠ 11 by decide), sxp_c _ _ _ _ _ _ _ (show (2 : Nat) ≠ 14 by decide), sxp_c _ _ _ _ _ _ _ (show (2 : Nat) ≠ 13 by decide), sxp_c _ _ _ _ _ _ _ (show (2 : Nat) ≠ 10 by decide), sxp_c _ _ _ _ _ _ _ (show (2 : Nat) ≠ 9 by decide), sxp_c _ _ _ _ _ _ _ (show (2 : Nat) ≠ 8 by decide), sxp_c _ _ _ _ _ _ _ (show (2 : Nat) ≠ 7 by decide), sxp_c _ _ _ _ _ _ _ (show (2 : Nat) ≠ 4 by decide), sxp_c _ _ _ _ _ _ _ (show (2 : Nat) ≠ 3 by decide)]
    exact sg_gw_e _ _ _ _ ⟨by omega, by omega⟩
  have o : ∀ j, ¬ j = A.1 → sg_g (sx_putl (sx_put (pAdd τ (tK c i) (tPl c i)) 5 200 A.1 (tN c i)) 17 200 A.1 (tW c i)) 11 j = sg_g τ 11 j ∧ sg_g (sx_putl (sx_put (pAdd τ (tK c i) (tPl c i)) 5 200 A.1 (tN c i)) 17 200 A.1 (tW c i)) 12 j = sg_g τ 12 j := fun j hj => by
    rw [g 11 _ (by decide), g 12 _ (by decide), g11, g12, if_neg hj, if_neg hj]; exact ⟨rfl, rfl⟩
  refine ⟨rfl, rfl, by rw [g 2 _ (by decide)]; exact g2, by omega, ⟨by rw [g 11 _ (by decide), g11, if_pos rfl], by rw [g 12 _ (by decide), g12, if_pos rfl]⟩, o, ⟨hb, by simp only [aNew_1]; omega⟩, fun j a d e => ?_, fun x hx => ?_⟩
  · simp only [aNew_1] at d
    have z := hj j a (by omega)
    have zz := z.1
    refine ⟨jN_x z (o j e).1 (o j e).2 (by simp only [aNew_1]; omega) (Int.le_refl _) (fun x _ q => ?_), ?_⟩
    · have xn : ¬ x = A.1 := by omega
      simp only [aNew, aU_n _ _ xn, and_self]
    · rw [(o j e).1, (o j e).2]; omega
  · simp only [aNew, aU_e] at hx
    simp at hx
/-- the open node is closed -/
theorem jQ_c {τ : sg_S} {A : aT} {b n : Int} {h h' : Nat} (hj : jO τ A b n h) (hT : cTc A b n) (h2 : sg_g τ 2 16 = A.1) (h0 : 0 ≤ b ∧ A.1 ≤ 200) (hh : h + (if A.2.1 n = 3 ∨ A.2.1 n = 15 then 1 else 0) ≤ h') : jQ (pClose τ n b) A b n h' := by
  obtain ⟨h1, h3, h4⟩ := hj
  have n200 : 0 ≤ n ∧ n < 200 := by omega
  have e : pClose τ n b = sg_w (sg_w τ 11 n b) 12 n (A.1 - 1) := by
    unfold pClose
    rw [xp_in n200, xp_in n200, h2]
  have o : ∀ k, ¬ k = n → sg_g (pClose τ n b) 11 k = sg_g τ 11 k ∧ sg_g (pClose τ n b) 12 k = sg_g τ 12 k := fun k hk => by
    rw [e]
    exact ⟨by rw [sg_gw_c _ _ _ _ _ _ (by decide), sg_gw_k _ _ _ _ _ _ hk], by rw [sg_gw_k _ _ _ _ _ _ hk, sg_gw_c _ _ _ _ _ _ (by decide)]⟩
  have s11 : sg_g (pClose τ n b) 11 n = b := by rw [e, sg_gw_c _ _ _ _ _ _ (by decide), sg_gw_e _ _ _ _ ⟨by omega, by omega⟩]
  have s12 : sg_g (pClose τ n b) 12 n = A.1 - 1 := by rw [e, sg_gw_e _ _ _ _ ⟨by omega, by omega⟩]
  refine ⟨fun k a c => ?_, h1, s11, fun fu => ?_⟩
  · by_cases ck : k = n
    · subst ck
      obtain ⟨L, l1, l2, l3, l4⟩ := hT
      refine ⟨by rw [s11, s12]; omega, L, l1, fun x => ?_⟩
      rw [s11, s12]
      constructor
      · intro hx; have := l3 x hx; omega
      · intro hx; exact l4 x hx.1 (by omega)
    · exact jN_x (h3 k a c ck).1 (o k ck).1 (o k ck).2 (Int.le_refl _) (Int.le_refl _) (fun _ _ _ => ⟨rfl, rfl, rfl⟩)
  · cases fu with
    | zero => simp [htN]
    | succ fu =>
      simp only [htN]
      have : ((A.2.2.2.2.1 n).map (htN A fu)).foldr max 0 ≤ h := by
        have gen : ∀ l : List Int, (∀ x ∈ l, htN A fu x ≤ h) → (l.map (htN A fu)).foldr max 0 ≤ h := fun l => by
          induction l with
          | nil => intro _; simp
          | cons y r ih =>
            intro hl
            simp only [List.map_cons, List.foldr_cons]
            exact Nat.max_le.mpr ⟨hl y (by simp), ih (fun x hx => hl x (by simp [hx]))⟩
        exact gen _ (fun x hx => (h4 x hx).2 fu)
      omega
