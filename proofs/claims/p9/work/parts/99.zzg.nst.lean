/-! The end of a node: its value is made, and leaves. -/
section NEN
variable {A : aT} {D : List aDf} {T B : Int → Int} {r : Int}
/-- what a turn comes to -/
def nQ (A : aT) (D : List aDf) (T B : Int → Int) (r : Int) (σ σ' : sg_S) : Prop := ¬ sg_g σ' 88 73 = 0 ∨ (sg_g σ' 88 73 = 0 ∧ nIv A D T B r σ' ∧ nM A σ' < nM A σ)
theorem ev_lv {σ σ1 : sg_S} {m : Nat} {ty : List Int} {v : Int} {Q : sg_S → Prop} (h : nTop A D T B r σ m ty) (hC : nC σ) (hA : A.1 ≤ 200) (f : sg_F [122, 123, 124, 125, 129, 135, 57088, 61088, 74088] σ σ1) (hR : sg_R v) (ho : oK σ σ1 (T (sg_g σ 126 m)).toNat v) (hs : ¬ v_tellsCount (sg_g σ 93 (sg_g σ 126 m)) = 0 ∨ (vU σ1 (T (sg_g σ 126 m)).toNat v ∧ sg_g σ1 88 56 = sg_g σ 88 56 ∧ sg_g σ1 88 60 = sg_g σ 88 60)) (ht : ¬ v_tellsCount (sg_g σ 93 (sg_g σ 126 m)) = 0 → 1 ≤ (T (sg_g σ 126 m)).toNat) (h2 : sg_g σ 93 (sg_g σ 126 m) = 18 ∨ sg_g σ 93 (sg_g σ 126 m) = 19 ∨ sg_g σ 93 (sg_g σ 126 m) = 20 → vT σ 1 (sg_g σ 133 (sg_g σ 128 m))) (k : ∀ σ', nQ A D T B r σ σ' → Q σ') : V_leave σ1 v (fun σ4 => sg_F [129, 131, 133, 55088, 56088, 63088, 71088, 74088] σ1 σ4 → Q σ4) := by
  obtain ⟨h1, h3, h4, h5, h6, h7, h8⟩ := h
  obtain ⟨⟨c1, c2, c3, c4⟩, c5, c6, c7, c8⟩ := hC
  obtain ⟨ex, o1, o2, o3⟩ := ho
  have bo : bOk A D T σ σ1 := fun b => Or.inl (sg_F_ga f rfl)
  have g54 : sg_g σ1 88 54 = sg_g σ 88 54 := sg_F_g f (by rfl)
  have g62 : sg_g σ1 88 62 = sg_g σ 88 62 := sg_F_g f (by rfl)
  have e6 : ∀ i, sg_g σ1 126 i = sg_g σ 126 i := fun i => sg_F_ga f rfl
  have e8 : ∀ i, sg_g σ1 128 i = sg_g σ 128 i := fun i => sg_F_ga f rfl
  have e93 : ∀ i, sg_g σ1 93 i = sg_g σ 93 i := fun i => sg_F_ga f rfl
  have e133 : ∀ i, sg_g σ1 133 i = sg_g σ 133 i := fun i => sg_F_ga f rfl
  have sq : sg_g σ1 88 56 ≤ sg_g σ 88 56 + 300 := by
    rcases Nat.eq_zero_or_pos (T (sg_g σ 126 m)).toNat with z | z
    · rw [(o3 z).2]; omega
    · exact (o2 z).2.2
  have hM := nM_le A σ
  refine ev_leave (A := A) (D := D) (T := T) (B := B) (r := r) (m := m) (by omega) ⟨⟨by have := ex.1.1; omega, by omega⟩, by have := ex.1.2; omega⟩ (by omega) (by rw [e8]; exact h3) (by rw [e8]; omega) (by rw [e6]; exact fO_up ex bo h6) hA ?_ hR (by rw [e6]; exact o1) ?_ (by rw [e6, e93]; exact ht) ?_ (fun σ' x1 _ _ => k σ' ?_)
  · rw [e6, e8]
    exact nStk_up ex bo m _ _ (fun i _ => ⟨e6 i, sg_F_ga f rfl, e8 i, sg_F_ga f rfl⟩) (fun x _ _ => e133 x) h8
  · rw [e6, e93]
    rcases hs with hs | ⟨u, s1, s2⟩
    · have := o2 (ht hs)
      exact Or.inl ⟨hs, by omega, by omega⟩
    · exact Or.inr ⟨u, by omega, by omega⟩
  · rw [e6, e93, e8, e133]
    intro z
    have t := h2 z
    have := ex.1.1
    rw [(ex.2.1 _ t.1.1 t.1.2).2.1]
    have := t.1
    have := t.2.1
    exact ⟨⟨by omega, by omega⟩, by omega, by omega⟩
  · rcases x1 with x1 | ⟨x1, x2, x3⟩
    · exact Or.inl x1
    · exact Or.inr ⟨x1, x2, by omega⟩
theorem oK_v {σ : sg_S} {k : Nat} {v : Int} (h : vU σ k v) : oK σ σ k v := ⟨nEx_r σ, h.1, fun z => by
    obtain ⟨k', rfl⟩ : ∃ k', k = k' + 1 := ⟨k - 1, by omega⟩
    have := vT_c0 h.1
    exact ⟨by omega, by omega, by omega⟩, fun _ => ⟨rfl, rfl⟩⟩
/-- a value that stands there already -/
theorem ev_v {σ : sg_S} {m : Nat} {ty : List Int} {v : Int} {Q : sg_S → Prop} (h : nTop A D T B r σ m ty) (hC : nC σ) (hA : A.1 ≤ 200) (hR : sg_R v) (hv : vU σ (T (sg_g σ 126 m)).toNat v) (ht : v_tellsCount (sg_g σ 93 (sg_g σ 126 m)) = 0) (h2 : ¬ (sg_g σ 93 (sg_g σ 126 m) = 18 ∨ sg_g σ 93 (sg_g σ 126 m) = 19 ∨ sg_g σ 93 (sg_g σ 126 m) = 20)) (k : ∀ σ', nQ A D T B r σ σ' → Q σ') : V_leave σ v (fun σ4 => sg_F [129, 131, 133, 55088, 56088, 63088, 71088, 74088] σ σ4 → Q σ4) :=
  ev_lv h hC hA (sg_F_r _ _) hR (oK_v hv) (Or.inr ⟨hv, rfl, rfl⟩) (fun z => absurd ht z) (fun z => absurd z h2) k
end NEN
