/-! All trees of a PROGRAM together: no node stands in two. -/
def aRt (D : List aDf) : List Int := D.map (fun x => x.2.2.2)
def frA (A : aT) (R : List Int) : Prop := ∃ L, fT A R L ∧ L.Nodup ∧ (∀ x ∈ L, 0 ≤ x ∧ x < A.1) ∧ ∀ x, 0 ≤ x → x < A.1 → x ∈ L
theorem frA_a {A A' : aT} {R : List Int} {q : Int} (h : frA A R) (g : gr A A') (h0 : 0 ≤ A.1) (hq : cTc A' A.1 q) : frA A' (R ++ [q]) := by
  obtain ⟨L, h1, h2, h3, h4⟩ := h
  obtain ⟨M, m1, m2, m3, m4⟩ := hq
  have g1 := g.1
  refine ⟨L ++ M, fT_app (fT_e h1 (fun x hx => ?_)) m1, ?_, ?_, ?_⟩
  · obtain ⟨a1, a2, a3, a4, a5⟩ := g.2 x (h3 x hx).2
    exact ⟨a1, a4, a5⟩
  · rw [List.nodup_append]
    refine ⟨h2, m2, fun x hx y hy => ?_⟩
    have := (h3 x hx).2
    have := (m3 y hy).1
    omega
  · intro x hx
    rcases List.mem_append.mp hx with e | e
    · have := h3 x e
      omega
    · have := m3 x e
      omega
  · intro x y z
    by_cases c : x < A.1
    · exact List.mem_append_left _ (h4 x y c)
    · exact List.mem_append_right _ (m4 x (by omega) z)
/-- all parts are nodes -/
theorem fT_k {A : aT} {R L : List Int} (h : fT A R L) : ∀ n ∈ L, ∀ x ∈ A.2.2.2.2.1 n, x ∈ L := by
  refine fT_ind (A := A) (M := fun R L => ∀ n ∈ L, ∀ x ∈ A.2.2.2.2.1 n, x ∈ L) (fun n h => by cases h) (fun n ns L1 L2 hw h1 h2 ih1 ih2 => ?_) h
  intro y hy x hx
  rcases List.mem_cons.mp hy with e | e
  · subst e
    exact List.mem_cons_of_mem _ (List.mem_append_left _ (fT_sub h1 x hx))
  · rcases List.mem_append.mp e with e | e
    · exact List.mem_cons_of_mem _ (List.mem_append_left _ (ih1 y e x hx))
    · exact List.mem_cons_of_mem _ (List.mem_append_right _ (ih2 y e x hx))
theorem frA_k {A : aT} {R : List Int} (h : frA A R) : ∀ n, 0 ≤ n → n < A.1 → ∀ x ∈ A.2.2.2.2.1 n, 0 ≤ x ∧ x < A.1 := by
  obtain ⟨L, h1, h2, h3, h4⟩ := h
  exact fun n a b x hx => h3 x (fT_k h1 n (h4 n a b) x hx)
section FRP
variable {t : aK}
theorem t_df2 {N i i' : Nat} {A A' : aT} {x : aDf} (h : aDf1 t N i A = some (i', A', x)) (h0 : 0 ≤ A.1 ∧ A.1 ≤ 200) : cTc A' A.1 x.2.2.2 := by
  unfold aDf1 at h
  split at h
  · split at h
    · split at h
      · cases h
      · rename_i i1 ps hp
        split at h
        · split at h
          · split at h
            · cases h
            · rename_i i2 A2 q he
              have c := (tF_lv 12).1 _ _ _ _ _ he h0
              split at h
              · cases h
                exact c
              · cases h
          · cases h
        · cases h
    · cases h
  · cases h
theorem t_dfs2 {N : Nat} : ∀ (m : Nat) (D : List aDf) (i : Nat) (A : aT) (i' : Nat) (A' : aT) (D' : List aDf), aDfs t N m D i A = some (i', A', D') → 0 ≤ A.1 ∧ A.1 ≤ 200 → frA A (aRt D) → frA A' (aRt D') ∧ (0 ≤ A'.1 ∧ A'.1 ≤ 200)
  | 0, D, i, A, i', A', D', h, h0, hD => by
    unfold aDfs at h
    split at h
    · cases h
    · cases h
      exact ⟨hD, h0⟩
  | m + 1, D, i, A, i', A', D', h, h0, hD => by
    unfold aDfs at h
    split at h
    · split at h
      · cases h
      · rename_i i1 A1 x he
        obtain ⟨c1, c2, c3⟩ := t_df1 he h0
        have c4 := c2.1
        refine t_dfs2 m _ _ _ _ _ _ h (by omega) ?_
        have := frA_a hD c2 h0.1 (t_df2 he h0)
        unfold aRt at this ⊢
        rw [List.map_append]
        exact this
    · cases h
      exact ⟨hD, h0⟩
theorem t_pg2 {N : Nat} {A A' : aT} {D : List aDf} {q : Int} (h : aPg t N A = some (A', D, q)) (h0 : 0 ≤ A.1 ∧ A.1 ≤ 200) (h1 : A.1 = 0) : frA A' (aRt D ++ [q]) := by
  have h00 : frA A (aRt []) := ⟨[], fT_z _, List.nodup_nil, by simp, fun x a b => by omega⟩
  unfold aPg at h
  split at h
  · cases h
  · rename_i i1 A1 D1 hd
    obtain ⟨c1, c3⟩ := t_dfs2 _ _ _ _ _ _ _ hd h0 h00
    split at h
    · cases h
    · rename_i i2 A2 r he
      obtain ⟨g1, g2, g3, g4⟩ := (gF_lv 12).1 _ _ _ _ _ he c3
      have c := (tF_lv 12).1 _ _ _ _ _ he c3
      split at h
      · cases h
        exact frA_a c1 g1 c3.1 c
      · cases h
end FRP
