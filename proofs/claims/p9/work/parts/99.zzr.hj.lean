/-! begin, want, saveWanted, restore. -/
section CTL
variable {σ : sg_S} {Q : sg_S → Prop}
theorem f_begin {k n : Int} (hk : 0 ≤ k ∧ k < 200) (hn : sg_g σ 61 23 = n) (h10 : sg_g σ 61 10 = 0) (hs : 0 ≤ sg_g σ 77 17 ∧ sg_g σ 77 17 ≤ 2000) (k1 : ∀ σ', sg_F [69, 11061, 18077, 19077, 25061] σ σ' → ¬ sg_g σ' 61 10 = 0 → Q σ') (k2 : ∀ σ', sg_F [69, 18077, 19077, 25061] σ σ' → sg_g σ' 61 10 = 0 → sg_g σ' 77 17 = sg_g σ 77 17 + 1 → sg_g σ' 77 17 ≤ 2000 → sg_g σ' 69 k = n → (∀ i, ¬ i = k → sg_g σ' 69 i = sg_g σ 69 i) → Q σ') : V_fBegin σ k Q := by
  unfold V_fBegin
  intro σ1 e1
  rw [xp_in hk, hn] at e1
  have f1 : sg_F [69] σ σ1 := by rw [e1]; exact sg_F_w (sg_F_r _ _) rfl _
  have rn : sg_R n := by rw [← hn]; exact sg_Rg _ _ _
  have s1 : sg_g σ1 77 17 = sg_g σ 77 17 := sg_F_g f1 rfl
  unfold V_lStep
  refine ⟨fun z => ⟨⟨by omega, by omega⟩, fun σ3 e3 _ f3 => ⟨fun y => absurd y (by decide), fun _ v14 _ r14 σ17 e17 => ?_⟩⟩, fun z σ6 e6 _ f6 => ⟨fun _ σ11 e11 => ?_, fun y => absurd rfl y⟩⟩
  · have f17 : sg_F [25061] σ3 σ17 := by rw [e17]; exact sg_F_w (sg_F_r _ _) rfl _
    have F : sg_F [69, 18077, 19077, 25061] σ σ17 := sg_F_t (sg_F_t (sg_F_m f1 rfl) (sg_F_m f3 rfl)) (sg_F_m f17 rfl)
    have g17 : sg_g σ17 77 17 = sg_g σ 77 17 + 1 := by rw [sg_F_g f17 (by rfl), e3, sg_gw_e _ _ _ _ ⟨by omega, by omega⟩, s1]
    refine k2 σ17 F (by rw [sg_F_g F (by rfl)]; exact h10) g17 (by omega) ?_ (fun i hi => ?_)
    · rw [sg_F_ga f17 rfl, sg_F_ga f3 rfl, e1, sg_gw_e _ _ _ _ rn]
    · rw [sg_F_ga f17 rfl, sg_F_ga f3 rfl, e1, sg_gw_k _ _ _ _ _ _ hi]
  · refine k1 σ11 ?_ ?_
    · have f11 : sg_F [11061] σ6 σ11 := by rw [e11]; exact sg_F_w (sg_F_r _ _) rfl _
      exact sg_F_t (sg_F_t (sg_F_m f1 rfl) (sg_F_m f6 rfl)) (sg_F_m f11 rfl)
    · rw [e11, sg_gw_e _ _ _ _ (by decide)]; decide
/-- the wanted slots -/
def wl (σ : sg_S) (W : List Int) : Prop := sg_g σ 61 21 = W.length ∧ (∀ (i : Nat) (x : Int), W[i]? = some x → sg_g σ 74 i = x) ∧ W.Pairwise (· < ·)
theorem wl_nd {W : List Int} (h : W.Pairwise (· < ·)) : W.Nodup := h.imp (fun {a b} c => by omega)
theorem pw_ins {W : List Int} {i : Nat} {s : Int} (h : W.Pairwise (· < ·)) (h1 : ∀ x ∈ W.take i, x < s) (h2 : ∀ x ∈ W.drop i, s < x) : (W.take i ++ s :: W.drop i).Pairwise (· < ·) := by
  have h' := h
  rw [← List.take_append_drop i W, List.pairwise_append] at h'
  rw [List.pairwise_append]
  refine ⟨h'.1, List.pairwise_cons.mpr ⟨h2, h'.2.1⟩, fun a ha b hb => ?_⟩
  rcases List.mem_cons.mp hb with e | e
  · rw [e]; exact h1 a ha
  · exact h'.2.2 a ha b e
theorem f_insert {W : List Int} {s : Int} (hw : wl σ W) (hl : W.length ≤ 199 ∨ s ∈ W) (hl2 : W.length ≤ 200) (hs : sg_R s) (k : ∀ σ' W', sg_F [74, 22061] σ σ' → wl σ' W' → (∀ x, x ∈ W' ↔ (x = s ∨ x ∈ W)) → Q σ') : V_fInsert σ s Q := by
  obtain ⟨w1, w2, w3⟩ := hw
  have ge : ∀ i : Nat, (h : i < W.length) → sg_g σ 74 i = W[i] := fun i h => w2 i _ (List.getElem?_eq_getElem h)
  have mono : ∀ i j : Nat, (hj : j < W.length) → (hij : i < j) → W[i]'(by omega) < W[j] := fun i j hj hij => List.pairwise_iff_getElem.mp w3 i j (by omega) hj hij
  -- at place i: shift and put
  have ins : ∀ i : Nat, i ≤ W.length → W.length ≤ 199 → (∀ x ∈ W.take i, x < s) → (∀ x ∈ W.drop i, s < x) → (∃ (I20 : Nat → Int → sg_S → Prop) (X22 : sg_S → Prop), (∃ n, I20 n ((sg_g σ 61 21)) σ) ∧ (∀ (n30 : Nat) (v17 : Int) (σ18 : sg_S), sg_R v17 → sg_F [74] σ σ18 → I20 n30 v17 σ18 → ((v17 ≤ (i : Int) → X22 σ18) ∧ ((i : Int) < v17 → sg_R (v17 - 1) ∧ ∀ σ41, σ41 = (sx_put σ18 74 200 (v17) ((sx_at σ18 74 200 ((v17 - 1))))) → sg_R (v17 + (-1)) ∧ (∃ m, m < n30 ∧ I20 m ((v17 + (-1))) σ41)))) ∧ (∀ (σ18 : sg_S), sg_F [74] σ σ18 → X22 σ18 → ∀ σ32, σ32 = (sx_put σ18 74 200 (i : Int) s) → sg_R ((sg_g σ 61 21) + 1) ∧ ∀ σ36, σ36 = (sg_w σ32 61 21 (((sg_g σ 61 21) + 1))) → Q σ36)) := by
    intro i hi h199 t1 t2
    rw [w1]
    refine ⟨fun m v σ18 => ∃ j : Nat, v = j ∧ i ≤ j ∧ j ≤ W.length ∧ m = j - i ∧ (∀ q : Nat, q < j → sg_g σ18 74 q = sg_g σ 74 q) ∧ (∀ q : Nat, j ≤ q → q < W.length → sg_g σ18 74 ((q + 1 : Nat) : Int) = sg_g σ 74 q), fun σ18 => (∀ q : Nat, q < i → sg_g σ18 74 q = sg_g σ 74 q) ∧ (∀ q : Nat, i ≤ q → q < W.length → sg_g σ18 74 ((q + 1 : Nat) : Int) = sg_g σ 74 q), ⟨_, W.length, rfl, hi, Nat.le_refl _, rfl, fun q _ => rfl, fun q a b => by omega⟩, ?_, ?_⟩
    · rintro m v σ18 rv f18 ⟨j, rfl, j1, j2, hm, q1, q2⟩
      refine ⟨fun z => ?_, fun z => ⟨⟨by omega, by omega⟩, fun σ41 e41 => ⟨⟨by omega, by omega⟩, j - 1 - i, by omega, j - 1, by omega, by omega, by omega, rfl, fun q hq => ?_, fun q ha hb => ?_⟩⟩⟩
      · have : j = i := by omega
        subst this; exact ⟨q1, q2⟩
      · rw [e41, xp_in ⟨by omega, by omega⟩, sg_gw_k _ _ _ _ _ _ (by omega)]; exact q1 q (by omega)
      · rw [e41, xp_in ⟨by omega, by omega⟩]
        by_cases e : q = j - 1
        · rw [show ((q + 1 : Nat) : Int) = (j : Int) by omega, sg_gw_e _ _ _ _ (sx_R ..), xa_in ⟨by omega, by omega⟩, show (j : Int) - 1 = (q : Int) by omega]
          exact q1 q (by omega)
        · rw [sg_gw_k _ _ _ _ _ _ (by omega)]; exact q2 q (by omega) hb
    · rintro σ18 f18 ⟨q1, q2⟩ σ32 e32
      rw [xp_in ⟨by omega, by omega⟩] at e32
      refine ⟨⟨by omega, by omega⟩, fun σ36 e36 => k σ36 (W.take i ++ s :: W.drop i) ?_ ⟨?_, fun q x hx => ?_, pw_ins w3 t1 t2⟩ (fun x => ?_)⟩
      · have f32 : sg_F [74] σ18 σ32 := by rw [e32]; exact sg_F_w (sg_F_r _ _) rfl _
        have f36 : sg_F [22061] σ32 σ36 := by rw [e36]; exact sg_F_w (sg_F_r _ _) rfl _
        exact sg_F_t (sg_F_t (sg_F_m f18 rfl) (sg_F_m f32 rfl)) (sg_F_m f36 rfl)
      · rw [e36, sg_gw_e _ _ _ _ ⟨by omega, by omega⟩]
        simp only [List.length_append, List.length_cons, List.length_take, List.length_drop]
        omega
      · rw [e36, sg_gw_c _ _ _ _ _ _ (by decide), e32]
        have tl : (W.take i).length = i := by rw [List.length_take]; omega
        by_cases e : q < i
        · rw [sg_gw_k _ _ _ _ _ _ (by omega), q1 q e]
          rw [List.getElem?_append_left (by omega), List.getElem?_take, if_pos e] at hx
          exact w2 q x hx
        · by_cases e2 : q = i
          · subst e2
            rw [List.getElem?_append_right (by omega), tl, Nat.sub_self] at hx
            simp at hx
            rw [sg_gw_e _ _ _ _ hs]; exact hx
          · rw [sg_gw_k _ _ _ _ _ _ (by omega)]
            rw [List.getElem?_append_right (by omega), tl] at hx
            obtain ⟨r, hr⟩ : ∃ r, q = r + 1 := ⟨q - 1, by omega⟩
            subst hr
            rw [show r + 1 - i = (r - i) + 1 by omega, List.getElem?_cons_succ, List.getElem?_drop, show i + (r - i) = r by omega] at hx
            have hl3 : r < W.length := by
              rcases Nat.lt_or_ge r W.length with q | q
              · exact q
              · rw [List.getElem?_eq_none q] at hx; cases hx
            rw [q2 r (by omega) hl3]
            exact w2 r x hx
      · constructor
        · intro hx
          rcases List.mem_append.mp hx with e | e
          · exact Or.inr (List.mem_of_mem_take e)
          · rcases List.mem_cons.mp e with e | e
            · exact Or.inl e
            · exact Or.inr (List.mem_of_mem_drop e)
        · rintro (e | e)
          · rw [e]; simp
          · rw [← List.take_append_drop i W] at e
            rcases List.mem_append.mp e with e | e
            · exact List.mem_append_left _ e
            · exact List.mem_append_right _ (List.mem_cons_of_mem _ e)
  unfold V_fInsert
  refine ⟨fun m v => ∃ i : Nat, v = i ∧ i ≤ W.length ∧ m = i ∧ ∀ x ∈ W.drop i, s < x, fun v => ∃ i : Nat, v = i ∧ i ≤ W.length ∧ (∀ x ∈ W.drop i, s < x) ∧ (0 < i → sg_g σ 74 ((i : Int) - 1) ≤ s), ⟨_, W.length, w1, Nat.le_refl _, rfl, by simp⟩, ?_, ?_⟩
  · rintro m v rv ⟨i, rfl, h1, hm, h2⟩
    refine ⟨fun z => ⟨i, rfl, h1, h2, fun y => by omega⟩, fun z => ⟨⟨by omega, by omega⟩, ?_⟩⟩
    rw [xa_in ⟨by omega, by omega⟩]
    refine ⟨fun y => ⟨i, rfl, h1, h2, fun _ => y⟩, fun y => ⟨⟨by omega, by omega⟩, i - 1, by omega, i - 1, by omega, by omega, rfl, fun x hx => ?_⟩⟩
    rw [List.drop_eq_getElem_cons (by omega), show i - 1 + 1 = i by omega] at hx
    rcases List.mem_cons.mp hx with e | e
    · have := ge (i - 1) (by omega)
      rw [show ((i - 1 : Nat) : Int) = (i : Int) - 1 by omega] at this
      rw [e, ← this]; exact y
    · exact h2 x e
  · rintro v rv ⟨i, rfl, h1, h2, h3⟩
    have lt199 : s ∉ W → W.length ≤ 199 := fun z => hl.resolve_right z
    have nin : (∀ x ∈ W.take i, x < s) → s ∉ W := fun z y => by
      rw [← List.take_append_drop i W] at y
      rcases List.mem_append.mp y with e | e
      · have := z s e; omega
      · have := h2 s e; omega
    refine ⟨fun z => ?_, fun z => ⟨⟨by omega, by omega⟩, ?_⟩⟩
    · have : i = 0 := by omega
      subst this
      exact ins 0 (by omega) (lt199 (nin (by simp))) (by simp) h2
    · rw [xa_in ⟨by omega, by omega⟩]
      have ge1 := ge (i - 1) (by omega)
      rw [show ((i - 1 : Nat) : Int) = (i : Int) - 1 by omega] at ge1
      have h3' := h3 (by omega)
      refine ⟨fun y => ?_, fun y => k σ W (sg_F_r _ _) ⟨w1, w2, w3⟩ (fun x => ⟨fun q => Or.inr q, fun q => ?_⟩)⟩
      · have tk : ∀ x ∈ W.take i, x < s := fun x hx => by
          obtain ⟨q, hq, e⟩ := List.mem_take_iff_getElem.mp hx
          rw [← e]
          by_cases c : q = i - 1
          · subst c; omega
          · have := mono q (i - 1) (by omega) (by omega)
            omega
        exact ins i h1 (lt199 (nin tk)) tk h2
      · rcases q with e | e
        · rw [e, ← y, ge1]; exact List.getElem_mem _
        · exact e
end CTL
