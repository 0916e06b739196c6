/-! The tree grows. -/
theorem aU_e {α : Type} (f : Int → α) (k : Int) (v : α) : aU f k v k = v := if_pos rfl
theorem aU_n {α : Type} (f : Int → α) {k j : Int} (v : α) (h : ¬ j = k) : aU f k v j = f j := if_neg h
section TRE
variable {A : aT} {n : Int} {kd pl wd ks ko gs gw gp : Int → Int}
theorem trR_new (h : trR A n kd pl wd ks ko gs gw gp) (hn : A.1 < 200) {a p w : Int} (ha : sg_R a) (hp : sg_R p) (hw : sg_RL w) : trR (aNew A a p w) (n + 1) (fun j => if j = n then sg_n a else kd j) (fun j => if j = n then sg_n p else pl j) (fun j => if j = n then sg_nl w else wd j) (fun j => if j = n then sg_n 0 else ks j) ko (fun j => if j = n then sg_n 0 else gs j) gw gp := by
  obtain ⟨h1, h2, h3, h4⟩ := h
  subst h1
  refine ⟨rfl, by simp only [aNew]; omega, by simp only [aNew]; omega, fun k hk0 hk1 => ?_⟩
  simp only [aNew] at hk1 ⊢
  by_cases e : k = A.1
  · subst e
    simp only [aU_e, if_true, sg_id ha, sg_id hp, sg_idl hw, sg_id (z := 0) (by decide), List.length_nil, true_and]
    refine ⟨rfl, by omega, fun j x hx => ?_, rfl, by omega, fun j x hx => ?_⟩
    · simp at hx
    · simp at hx
  · simp only [aU_n _ _ e, if_neg e]
    exact h4 k hk0 (by omega)
theorem trR_kid (h : trR A n kd pl wd ks ko gs gw gp) {m q : Int} (hm : 0 ≤ m ∧ m < A.1) (hq : sg_R q) (hl : (A.2.2.2.2.1 m).length < 200) : trR (aKid A m q) n kd pl wd (fun j => if j = m then sg_n (ks m + 1) else ks j) (fun j => if j = 200 * m + ks m then sg_n q else ko j) gs gw gp := by
  obtain ⟨h1, h2, h3, h4⟩ := h
  refine ⟨h1, h2, h3, fun k hk0 hk1 => ?_⟩
  simp only [aKid] at hk1 ⊢
  have hm4 := h4 m hm.1 hm.2
  obtain ⟨k1, k2, k3, k4, k5, k6, k7, k8, k9⟩ := h4 k hk0 hk1
  by_cases e : k = m
  · subst e
    simp only [aU_e, if_true, List.length_append, List.length_cons, List.length_nil]
    refine ⟨k1, k2, k3, ?_, by omega, fun j x hx => ?_, k7, k8, k9⟩
    · rw [k4, sg_id ⟨by omega, by omega⟩]
      omega
    · by_cases e2 : j = (A.2.2.2.2.1 k).length
      · subst e2
        rw [List.getElem?_append_right (Nat.le_refl _)] at hx
        simp at hx
        rw [if_pos (by omega), sg_id hq, hx]
      · have hj : j < (A.2.2.2.2.1 k).length := by
          have := (List.getElem?_eq_some_iff.mp hx).1
          simp at this
          omega
        rw [List.getElem?_append_left hj] at hx
        rw [if_neg (by omega)]
        exact k6 j x hx
  · simp only [aU_n _ _ e, if_neg e]
    refine ⟨k1, k2, k3, k4, k5, fun j x hx => ?_, k7, k8, k9⟩
    have hj := (List.getElem?_eq_some_iff.mp hx).1
    rw [if_neg (by omega)]
    exact k6 j x hx
theorem trR_wd (h : trR A n kd pl wd ks ko gs gw gp) {m w : Int} (hw : sg_RL w) : trR (aWd A m w) n kd pl (fun j => if j = m then sg_nl w else wd j) ks ko gs gw gp := by
  obtain ⟨h1, h2, h3, h4⟩ := h
  refine ⟨h1, h2, h3, fun k hk0 hk1 => ?_⟩
  simp only [aWd] at hk1 ⊢
  obtain ⟨k1, k2, k3, k4⟩ := h4 k hk0 hk1
  refine ⟨k1, k2, ?_, k4⟩
  by_cases e : k = m
  · subst e
    simp only [aU_e, if_true, sg_idl hw]
  · simp only [aU_n _ _ e, if_neg e]
    exact k3
theorem trR_gn (h : trR A n kd pl wd ks ko gs gw gp) {m w p : Int} (hm : 0 ≤ m ∧ m < A.1) (hw : sg_RL w) (hp : sg_R p) (hl : (A.2.2.2.2.2 m).length < 4) : trR (aGn A m w p) n kd pl wd ks ko (fun j => if j = m then sg_n (gs m + 1) else gs j) (fun j => if j = 4 * m + gs m then sg_nl w else gw j) (fun j => if j = 4 * m + gs m then sg_n p else gp j) := by
  obtain ⟨h1, h2, h3, h4⟩ := h
  refine ⟨h1, h2, h3, fun k hk0 hk1 => ?_⟩
  simp only [aGn] at hk1 ⊢
  have hm4 := h4 m hm.1 hm.2
  obtain ⟨k1, k2, k3, k4, k5, k6, k7, k8, k9⟩ := h4 k hk0 hk1
  by_cases e : k = m
  · subst e
    simp only [aU_e, if_true, List.length_append, List.length_cons, List.length_nil]
    refine ⟨k1, k2, k3, k4, k5, k6, ?_, by omega, fun j x hx => ?_⟩
    · rw [k7, sg_id ⟨by omega, by omega⟩]
      omega
    · by_cases e2 : j = (A.2.2.2.2.2 k).length
      · subst e2
        rw [List.getElem?_append_right (Nat.le_refl _)] at hx
        simp at hx
        rw [if_pos (by omega), if_pos (by omega), sg_id hp, sg_idl hw, ← hx]
        exact ⟨rfl, rfl⟩
      · have hj : j < (A.2.2.2.2.2 k).length := by
          have := (List.getElem?_eq_some_iff.mp hx).1
          simp at this
          omega
        rw [List.getElem?_append_left hj] at hx
        rw [if_neg (by omega), if_neg (by omega)]
        exact k9 j x hx
  · simp only [aU_n _ _ e, if_neg e]
    refine ⟨k1, k2, k3, k4, k5, k6, k7, k8, fun j x hx => ?_⟩
    have hj := (List.getElem?_eq_some_iff.mp hx).1
    have h9 := hm4.2.2.2.2.2.2.1
    rw [if_neg (by omega), if_neg (by omega)]
    exact k9 j x hx
end TRE
section TR2
variable {t : aK} {N : Nat} {σ : sg_S} {F : Int} {i : Nat} {A : aT} {vs : List Int} {d : Int} {P : List (Int × Int)}
theorem Rp_w (h : Rp t N σ F i A vs d P) : sg_RL (t.2.1 i) ∧ sg_R (t.2.2 i) := by
  have := Rp_t h
  rw [← this.2.2.1, ← this.2.1]
  exact ⟨sg_Rgl _ _ _, sg_Rg _ _ _⟩
theorem s_newNode {Q : Int → sg_S → Prop} {a : Int} (h : Rp t N σ F i A vs d P) (ha : sg_R a) (k : ∀ σ' F' A' q, (F' = 0 ↔ F = 0 ∧ ¬ A.1 = 200) → (¬ A.1 = 200 → q = A.1 ∧ A' = aNew A a (t.2.2 i) (t.2.1 i)) → (A.1 = 200 → q = 0 ∧ A' = A) → 0 ≤ q → q < A'.1 → Rp t N σ' F' i A' vs d P → Q q σ') : V_newNode σ a Q := by
  have ht := Rp_t h
  have hw := Rp_w h
  have hh := h
  obtain ⟨h1, h2, h3, h4, h5, h6, h7, h8, h10⟩ := h
  obtain ⟨g1, g2, g3, g4⟩ := h5
  unfold V_newNode
  rw [g1]
  refine ⟨fun e => ⟨⟨by omega, by omega⟩, ?_⟩, fun e => ⟨⟨ht.2.2.2.1, ht.2.2.2.2.1⟩, s_wrong hh (Rp_p hh) (fun σ' F' hF hR _ => k σ' F' A 0 (by omega) (fun q => absurd e q) (fun _ => ⟨rfl, rfl⟩) (by omega) (by omega) hR)⟩⟩
  rw [ht.2.1, ht.2.2.1]
  rintro σ3 rfl
  refine ⟨⟨ht.2.2.2.1, ht.2.2.2.2.1⟩, ?_⟩
  rintro σ8 rfl σ13 rfl σ17 rfl σ21 rfl
  refine ⟨⟨by omega, by omega⟩, ?_⟩
  rintro σ25 rfl
  refine ⟨⟨by omega, by omega⟩, ?_⟩
  rw [show A.1 + 1 - 1 = A.1 by omega]
  refine k _ F _ A.1 (by omega) (fun _ => ⟨rfl, rfl⟩) (fun q => absurd q e) g2 (by simp only [aNew]; omega) ?_
  refine ⟨?_, ?_, ?_, ?_, ?_, ?_, ?_, ?_, ?_⟩
  all_goals try simp only [fpl, rg_w, rg_w', rg_wl, rg_wl', Nat.reduceEqDiff, if_false, if_true, reduceIte, Int.reduceEq]
  · exact h1
  · exact h2
  · exact h3
  · exact h4
  · rw [sg_id (z := A.1 + 1) ⟨by omega, by omega⟩]
    have := trR_new ⟨g1, g2, g3, g4⟩ (by omega) ha hw.2 hw.1
    rw [g1] at this
    exact this
  · exact h6
  · exact h7
  · exact h8
  · exact h10
theorem s_kid {Q : sg_S → Prop} {m q : Int} (h : Rp t N σ F i A vs d P) (hm : 0 ≤ m ∧ m < A.1) (hq : sg_R q) (hl : (A.2.2.2.2.1 m).length < 200) (k : ∀ σ', Rp t N σ' F i (aKid A m q) vs d P → Q σ') : V_kid σ m q Q := by
  obtain ⟨h1, h2, h3, h4, h5, h6, h7, h8, h10⟩ := h
  have h9 := h5.2.2.1
  have hm4 := (h5.2.2.2 m hm.1 hm.2).2.2.2.1
  unfold V_kid
  refine ⟨⟨by omega, by omega⟩, ⟨by omega, by omega⟩, ⟨by omega, by omega⟩, ⟨by omega, by omega⟩, ?_⟩
  rintro σ5 rfl
  refine ⟨⟨by omega, by omega⟩, ?_⟩
  rintro σ9 rfl
  refine k _ ?_
  refine ⟨?_, ?_, ?_, ?_, ?_, ?_, ?_, ?_, ?_⟩
  all_goals try simp only [fpl, rg_w, rg_w', rg_wl, rg_wl', Nat.reduceEqDiff, if_false, if_true, reduceIte, Int.reduceEq]
  · exact h1
  · exact h2
  · exact h3
  · exact h4
  · exact trR_kid h5 hm hq hl
  · exact h6
  · exact h7
  · exact h8
  · exact h10
theorem Rp_wd (h : Rp t N σ F i A vs d P) {m w : Int} (hw : sg_RL w) : Rp t N (sg_wl σ 95 m w) F i (aWd A m w) vs d P := by
  obtain ⟨h1, h2, h3, h4, h5, h6, h7, h8, h10⟩ := h
  refine ⟨?_, ?_, ?_, ?_, ?_, ?_, ?_, ?_, ?_⟩
  all_goals try simp only [fpl, rg_w, rg_w', rg_wl, rg_wl', Nat.reduceEqDiff, if_false, if_true, reduceIte, Int.reduceEq]
  · exact h1
  · exact h2
  · exact h3
  · exact h4
  · exact trR_wd h5 hw
  · exact h6
  · exact h7
  · exact h8
  · exact h10
end TR2
