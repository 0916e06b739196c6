/-! begin, want, saveWanted, restore. -/
section CTL
variable {σ : sg_S} {Q : sg_S → Prop}
theorem f_begin {k n : Int} (hk : 0 ≤ k ∧ k < 200) (hn : sg_g σ 61 23 = n) (h10 : sg_g σ 61 10 = 0) (hs : 0 ≤ sg_g σ 77 17 ∧ sg_g σ 77 17 ≤ 2000) (k1 : ∀ σ', sg_F [69, 11061, 18077, 19077, 25061] σ σ' → ¬ sg_g σ' 61 10 = 0 → Q σ') (k2 : ∀ σ', sg_F [69, 18077, 19077, 25061] σ σ' → sg_g σ' 61 10 = 0 → sg_g σ' 77 17 = sg_g σ 77 17 + 1 → sg_g σ' 77 17 ≤ 2000 → sg_g σ' 69 k = n → (∀ i, ¬ i = k → sg_g σ' 69 i = sg_g σ 69 i) → Q σ') : V_fBegin σ k Q := by
  unfold V_fBegin
  intro σ1 e1
  rw [xp_in hk, hn] at e1
  have f1 : sg_F [69] σ σ1 := by rw [e1]; exact sg_F_w (sg_F_r _ _) rfl _
  have rn : sg_R n := by rw [← hn]; exact sg_Rg _ _ _
  have s1 : sg_g σ1 77 17 = sg_g σ 77 17 := sg_F_g f1 rfl
  unfold V_lStep
  refine ⟨fun z => ⟨⟨by omega, by omega⟩, fun σ3 e3 _ f3 => ⟨fun y => absurd y (by decide), fun _ v14 _ r14 σ17 e17 => ?_⟩⟩, fun z σ6 e6 _ f6 => ⟨fun _ σ11 e11 => ?_, fun y => absurd rfl y⟩⟩
  · have f17 : sg_F [25061] σ3 σ17 := by rw [e17]; exact sg_F_w (sg_F_r _ _) rfl _
    have F : sg_F [69, 18077, 19077, 25061] σ σ17 := sg_F_t (sg_F_t (sg_F_m f1 rfl) (sg_F_m f3 rfl)) (sg_F_m f17 rfl)
    have g17 : sg_g σ17 77 17 = sg_g σ 77 17 + 1 := by rw [sg_F_g f17 (by rfl), e3, sg_gw_e _ _ _ _ ⟨by omega, by omega⟩, s1]
    refine k2 σ17 F (by rw [sg_F_g F (by rfl)]; exact h10) g17 (by omega) ?_ (fun i hi => ?_)
    · rw [sg_F_ga f17 rfl, sg_F_ga f3 rfl, e1, sg_gw_e _ _ _ _ rn]
    · rw [sg_F_ga f17 rfl, sg_F_ga f3 rfl, e1, sg_gw_k _ _ _ _ _ _ hi]
  · refine k1 σ11 ?_ ?_
    · have f11 : sg_F [11061] σ6 σ11 := by rw [e11]; exact sg_F_w (sg_F_r _ _) rfl _
      exact sg_F_t (sg_F_t (sg_F_m f1 rfl) (sg_F_m f6 rfl)) (sg_F_m f11 rfl)
    · rw [e11, sg_gw_e _ _ _ _ (by decide)]; decide
/-- the wanted slots -/
def wl (σ : sg_S) (W : List Int) : Prop := sg_g σ 61 21 = W.length ∧ (∀ (i : Nat) (x : Int), W[i]? = some x → sg_g σ 74 i = x) ∧ W.Pairwise (· < ·)
theorem wl_nd {W : List Int} (h : W.Pairwise (· < ·)) : W.Nodup := h.imp (fun {a b} c => by omega)
theorem pw_ins {W : List Int} {i : Nat} {s : Int} (h : W.Pairwise (· < ·)) (h1 : ∀ x ∈ W.take i, x < s) (h2 : ∀ x ∈ W.drop i, s < x) : (W.take i ++ s :: W.drop i).Pairwise (· < ·) := by
  have h' := h
  rw [← List.take_append_drop i W, List.pairwise_append] at h'
  rw [List.pairwise_append]
  refine ⟨h'.1, List.pairwise_cons.mpr ⟨h2, h'.2.1⟩, fun a ha b hb => ?_⟩
  rcases List.mem_cons.mp hb with e | e
  · rw [e]; exact h1 a ha
  · exact h'.2.2 a ha b e
theorem f_insert {W : List Int} {s : Int} (hw : wl σ W) (hl : W.length ≤ 199 ∨ s ∈ W) (hl2 : W.length ≤ 200) (hs : sg_R s) (k : ∀ σ' W', sg_F [74, 22061] σ σ' → wl σ' W' → (∀ x, x ∈ W' ↔ (x = s ∨ x ∈ W)) → Q σ') : V_fInsert σ s Q := by
  obtain ⟨w1, w2, w3⟩ := hw
  have ge : ∀ i : Nat, (h : i < W.length) → sg_g σ 74 i = W[i] := fun i h => w2 i _ (List.getElem?_eq_getElem h)
  have mono : ∀ i j : Nat, (hj : j < W.length) → (hij : i < j) → W[i]'(by omega) < W[j] := fun i j hj hij => List.pairwise_iff_getElem.mp w3 i j (by omega) hj hij
  -- at place i: shift and put
  have ins : ∀ i : Nat, i ≤ W.length → W.length ≤ 199 → (∀ x ∈ W.take i, x < s) → (∀ x ∈ W.drop i, s < x) → (∃ (I20 : Nat → Int → sg_S → Prop) (X22 : sg_S → Prop), (∃ n, I20 n ((sg_g σ 61 21)) σ) ∧ (∀ (n30 : Nat) (v17 : Int) (σ18 : sg_S), sg_R v17 → sg_F [74] σ σ18 → I20 n30 v17 σ18 → ((v17 ≤ (i : Int) → X22 σ18) ∧ ((i : Int) < v17 → sg_R (v17 - 1) ∧ ∀ σ41, σ41 = (sx_put σ18 74 200 (v17) ((sx_at σ18 74 200 ((v17 - 1))))) → sg_R (v17 + (-1)) ∧ (∃ m, m < n30 ∧ I20 m ((v17 + (-1))) σ41)))) ∧ (∀ (σ18 : sg_S), sg_F [74] σ σ18 → X22 σ18 → ∀ σ32, σ32 = (sx_put σ18 74 200 (i : Int) s) → sg_R ((sg_g σ 61 21) + 1) ∧ ∀ σ36, σ36 = (sg_w σ32 61 21 (((sg_g σ 61 21) + 1))) → Q σ36)) := by
    intro i hi h199 t1 t2
    rw [w1]
    refine ⟨fun m v σ18 => ∃ j : Nat, v = j ∧ i ≤ j ∧ j ≤ W.length ∧ m = j - i ∧ (∀ q : Nat, q < j → sg_g σ18 74 q = sg_g σ 74 q) ∧ (∀ q : Nat, j ≤ q → q < W.length → sg_g σ18 74 ((q + 1 : Nat) : Int) = sg_g σ 74 q), fun σ18 => (∀ q : Nat, q < i → sg_g σ18 74 q = sg_g σ 74 q) ∧ (∀ q : Nat, i ≤ q → q < W.length → sg_g σ18 74 ((q + 1 : Nat) : Int) = sg_g σ 74 q), ⟨_, W.length, rfl, hi, Nat.le_refl _, rfl, fun q _ => rfl, fun q a b => by omega⟩, ?_, ?_⟩
    · rintro m v σ18 rv f18 ⟨j, rfl, j1, j2, hm, q1, q2⟩
      refine ⟨fun z => ?_, fun z => ⟨⟨by omega, by omega⟩, fun σ41 e41 => ⟨⟨by omega, by omega⟩, j - 1 - i, by omega, j - 1, by omega, by omega, by omega, rfl, fun q hq => ?_, fun q ha hb => ?_⟩⟩⟩
      · have : j = i := by omega
        subst this; exact ⟨q1, q2⟩
      · rw [e41, xp_in ⟨by omega, by omega⟩, sg_gw_k _ _ _ _ _ _ (by omega)]; exact q1 q (by omega)
      · rw [e41, xp_in ⟨by omega, by omega⟩]
        by_cases e : q = j - 1
        · rw [show ((q + 1 : Nat) : Int) = (j : Int) by omega, sg_gw_e _ _ _ _ (sx_R ..), xa_in ⟨by omega, by omega⟩, show (j : Int) - 1 = (q : Int) by omega]
          exact q1 q (by omega)
        · rw [sg_gw_k _ _ _ _ _ _ (by omega)]; exact q2 q (by omega) hb
    · rintro σ18 f18 ⟨q1, q2⟩ σ32 e32
      rw [xp_in ⟨by omega, by omega⟩] at e32
      refine ⟨⟨by omega, by omega⟩, fun σ36 e36 => k σ36 (W.take i ++ s :: W.drop i) ?_ ⟨?_, fun q x hx => ?_, pw_ins w3 t1 t2⟩ (fun x => ?_)⟩
      · have f32 : sg_F [74] σ18 σ32 := by rw [e32]; exact sg_F_w (sg_F_r _ _) rfl _
        have f36 : sg_F [22061] σ32 σ36 := by rw [e36]; exact sg_F_w (sg_F_r _ _) rfl _
        exact sg_F_t (sg_F_t (sg_F_m f18 rfl) (sg_F_m f32 rfl)) (sg_F_m f36 rfl)
      · rw [e36, sg_gw_e _ _ _ _ ⟨by omega, by omega⟩]
        simp only [List.length_append, List.length_cons, List.length_take, List.length_drop]
        omega
      · rw [e36, sg_gw_c _ _ _ _ _ _ (by decide), e32]
        have tl : (W.take i).length = i := by rw [List.length_take]; omega
        by_cases e : q < i
        · rw [sg_gw_k _ _ _ _ _ _ (by omega), q1 q e]
          rw [List.getElem?_append_left (by omega), List.getElem?_take, if_pos e] at hx
          exact w2 q x hx
        · by_cases e2 : q = i
          · subst e2
            rw [List.getElem?_append_right (by omega), tl, Nat.sub_self] at hx
            simp at hx
            rw [sg_gw_e _ _ _ _ hs]; exact hx
          · rw [sg_gw_k _ _ _ _ _ _ (by omega)]
            rw [List.getElem?_append_right (by omega), tl] at hx
            obtain ⟨r, hr⟩ : ∃ r, q = r + 1 := ⟨q - 1, by omega⟩
            subst hr
            rw [show r + 1 - i = (r - i) + 1 by omega, List.getElem?_cons_succ, List.getElem?_drop, show i + (r - i) = r by omega] at hx
            have hl3 : r < W.length := by
              rcases Nat.lt_or_ge r W.length with q | q
              · exact q
              · rw [List.getElem?_eq_none q] at hx; cases hx
            rw [q2 r (by omega) hl3]
            exact w2 r x hx
      · constructor
        · intro hx
          rcases List.mem_append.mp hx with e | e
          · exact Or.inr (List.mem_of_mem_take e)
          · rcases List.mem_cons.mp e with e | e
            · exact Or.inl e
            · exact Or.inr (List.mem_of_mem_drop e)
        · rintro (e | e)
          · rw [e]; simp
          · rw [← List.take_append_drop i W] at e
            rcases List.mem_append.mp e with e | e
            · exact List.mem_append_left _ e
            · exact List.mem_append_right _ (List.mem_cons_of_mem _ e)
  unfold V_fInsert
  refine ⟨fun m v => ∃ i : Nat, v = i ∧ i ≤ W.length ∧ m = i ∧ ∀ x ∈ W.drop i, s < x, fun v => ∃ i : Nat, v = i ∧ i ≤ W.length ∧ (∀ x ∈ W.drop i, s < x) ∧ (0 < i → sg_g σ 74 ((i : Int) - 1) ≤ s), ⟨_, W.length, w1, Nat.le_refl _, rfl, by simp⟩, ?_, ?_⟩
  · rintro m v rv ⟨i, rfl, h1, hm, h2⟩
    refine ⟨fun z => ⟨i, rfl, h1, h2, fun y => by omega⟩, fun z => ⟨⟨by omega, by omega⟩, ?_⟩⟩
    rw [xa_in ⟨by omega, by omega⟩]
    refine ⟨fun y => ⟨i, rfl, h1, h2, fun _ => y⟩, fun y => ⟨⟨by omega, by omega⟩, i - 1, by omega, i - 1, by omega, by omega, rfl, fun x hx => ?_⟩⟩
    rw [List.drop_eq_getElem_cons (by omega), show i - 1 + 1 = i by omega] at hx
    rcases List.mem_cons.mp hx with e | e
    · have := ge (i - 1) (by omega)
      rw [show ((i - 1 : Nat) : Int) = (i : Int) - 1 by omega] at this
      rw [e, ← this]; exact y
    · exact h2 x e
  · rintro v rv ⟨i, rfl, h1, h2, h3⟩
    have lt199 : s ∉ W → W.length ≤ 199 := fun z => hl.resolve_right z
    have nin : (∀ x ∈ W.take i, x < s) → s ∉ W := fun z y => by
      rw [← List.take_append_drop i W] at y
      rcases List.mem_append.mp y with e | e
      · have := z s e; omega
      · have := h2 s e; omega
    refine ⟨fun z => ?_, fun z => ⟨⟨by omega, by omega⟩, ?_⟩⟩
    · have : i = 0 := by omega
      subst this
      exact ins 0 (by omega) (lt199 (nin (by simp))) (by simp) h2
    · rw [xa_in ⟨by omega, by omega⟩]
      have ge1 := ge (i - 1) (by omega)
      rw [show ((i - 1 : Nat) : Int) = (i : Int) - 1 by omega] at ge1
      have h3' := h3 (by omega)
      refine ⟨fun y => ?_, fun y => k σ W (sg_F_r _ _) ⟨w1, w2, w3⟩ (fun x => ⟨fun q => Or.inr q, fun q => ?_⟩)⟩
      · have tk : ∀ x ∈ W.take i, x < s := fun x hx => by
          obtain ⟨q, hq, e⟩ := List.mem_take_iff_getElem.mp hx
          rw [← e]
          by_cases c : q = i - 1
          · subst c; omega
          · have := mono q (i - 1) (by omega) (by omega)
            omega
        exact ins i h1 (lt199 (nin tk)) tk h2
      · rcases q with e | e
        · rw [e, ← y, ge1]; exact List.getElem_mem _
        · exact e
end CTL
/-! want, saveWanted, restore. -/
theorem wit_ex {f : Int → Int} {a b : Int} : ∀ (W : List Int), (∀ x ∈ W, ∃ j, a ≤ j ∧ j ≤ b ∧ f j = x) → ∃ J : List Int, J.map f = W ∧ ∀ j ∈ J, a ≤ j ∧ j ≤ b
  | [], _ => ⟨[], rfl, by simp⟩
  | x :: W, h => by
    obtain ⟨J, e, hJ⟩ := wit_ex W (fun y hy => h y (by simp [hy]))
    obtain ⟨j, j1, j2, j3⟩ := h x (by simp)
    refine ⟨j :: J, by simp [e, j3], fun y hy => ?_⟩
    rcases List.mem_cons.mp hy with q | q
    · rw [q]; exact ⟨j1, j2⟩
    · exact hJ y q
theorem nd_map {f : Int → Int} : ∀ {J : List Int}, (J.map f).Nodup → J.Nodup
  | [], _ => List.nodup_nil
  | j :: J, h => by
    simp only [List.map_cons, List.nodup_cons] at h
    exact List.nodup_cons.mpr ⟨fun q => h.1 (List.mem_map.mpr ⟨j, q, rfl⟩), nd_map h.2⟩
theorem nd_sh {J : List Int} {a : Int} (h : J.Nodup) : (J.map (fun x => x - a)).Nodup := by
  induction J with
  | nil => exact List.nodup_nil
  | cons j J ih =>
    simp only [List.map_cons, List.nodup_cons] at h ⊢
    refine ⟨fun q => ?_, ih h.2⟩
    obtain ⟨y, y1, y2⟩ := List.mem_map.mp q
    have : y = j := by omega
    rw [this] at y1; exact h.1 y1
theorem wit_len {f : Int → Int} {a b : Int} {W : List Int} (hN : W.Nodup) (h : ∀ x ∈ W, ∃ j, a ≤ j ∧ j ≤ b ∧ f j = x) : (W.length : Int) ≤ b - a + 1 ∨ W = [] := by
  obtain ⟨J, e, hJ⟩ := wit_ex W h
  cases W with
  | nil => exact Or.inr rfl
  | cons x W =>
    left
    obtain ⟨j, j1, j2, j3⟩ := h x (by simp)
    rw [← e] at hN
    have := ndl (b - a + 1).toNat (J.map (fun x => x - a)) (nd_sh (nd_map hN)) (fun y hy => by
      obtain ⟨z, z1, z2⟩ := List.mem_map.mp hy
      have := hJ z z1
      omega)
    rw [List.length_map] at this
    have l : J.length = (x :: W).length := by rw [← e, List.length_map]
    rw [← l]; omega
section CTM
variable {σ : sg_S} {Q : sg_S → Prop}
/-- slots of variables of nodes lo .. hi, below the bound -/
def wnt (σ : sg_S) (lo hi bd x : Int) : Prop := ∃ j, lo ≤ j ∧ j ≤ hi ∧ sg_g σ 3 j = 258 ∧ sg_g σ 16 j = x ∧ x < bd
theorem f_want {W0 : List Int} {a bd lo hi : Int} (ha : 0 ≤ a ∧ a < 200) (h11 : sg_g σ 11 a = lo) (h12 : sg_g σ 12 a = hi) (hl : 0 ≤ lo ∧ hi < 200) (hw : wl σ W0) (hW : ∀ x ∈ W0, ∃ j, 0 ≤ j ∧ j ≤ 199 ∧ sg_g σ 16 j = x) (k : ∀ σ' W, sg_F [74, 22061] σ σ' → wl σ' W → (∀ x, x ∈ W ↔ (x ∈ W0 ∨ wnt σ lo hi bd x)) → Q σ') : V_fWant σ a bd Q := by
  have hll := sg_Rg σ 11 a
  rw [h11] at hll
  unfold V_fWant
  rw [xa_in ha, xa_in ha, h11, h12]
  have len : ∀ W : List Int, W.Nodup → (∀ x ∈ W, x ∈ W0 ∨ wnt σ lo hi bd x) → W.length ≤ 200 := fun W hN h => by
    rcases wit_len (f := sg_g σ 16) (a := 0) (b := 199) hN (fun x hx => by
      rcases h x hx with q | ⟨j, q1, q2, q3, q4, q5⟩
      · exact hW x q
      · exact ⟨j, by omega, by omega, q4⟩) with q | q
    · omega
    · rw [q]; simp
  refine ⟨fun m v σ2 => ∃ W, m = (hi + 1 - v).toNat ∧ lo ≤ v ∧ (v ≤ hi + 1 ∨ v = lo) ∧ wl σ2 W ∧ ∀ x, x ∈ W ↔ (x ∈ W0 ∨ wnt σ lo (v - 1) bd x), fun σ2 => ∃ W, wl σ2 W ∧ ∀ x, x ∈ W ↔ (x ∈ W0 ∨ wnt σ lo hi bd x), ⟨_, W0, rfl, Int.le_refl _, Or.inr rfl, hw, fun x => ⟨fun q => Or.inl q, fun q => q.resolve_right (fun ⟨j, q1, q2, _⟩ => by omega)⟩⟩, ?_, fun σ2 f2 ⟨W, h1, h2⟩ => k σ2 W f2 h1 h2⟩
  rintro m v σ2 rv f2 ⟨W, hm, hv, hv2, hwl, hmem⟩
  refine ⟨fun z => ⟨W, hwl, fun x => ?_⟩, fun z => ⟨fun y => by omega, fun y => ?_⟩⟩
  · rw [hmem x]
    refine ⟨fun q => ?_, fun q => ?_⟩ <;> rcases q with q | ⟨j, q1, q2, q3⟩
    · exact Or.inl q
    · exact Or.inr ⟨j, q1, by omega, q3⟩
    · exact Or.inl q
    · exact Or.inr ⟨j, q1, by omega, q3⟩
  · rw [xa_in (a := 3) ⟨by omega, by omega⟩, xa_in (a := 16) ⟨by omega, by omega⟩]
    have same : ¬ (sg_g σ 3 v = 258 ∧ sg_g σ 16 v < bd) → ∀ x, (x ∈ W0 ∨ wnt σ lo (v - 1) bd x) ↔ (x ∈ W0 ∨ wnt σ lo (v + 1 - 1) bd x) := fun q x => by
      refine ⟨fun r => ?_, fun r => ?_⟩ <;> rcases r with r | ⟨j, q1, q2, q3, q4, q5⟩
      · exact Or.inl r
      · exact Or.inr ⟨j, q1, by omega, q3, q4, q5⟩
      · exact Or.inl r
      · by_cases e : j = v
        · subst e; exact absurd ⟨q3, by omega⟩ q
        · exact Or.inr ⟨j, q1, by omega, q3, q4, q5⟩
    refine ⟨fun σ21 => ∃ W', wl σ21 W' ∧ ∀ x, x ∈ W' ↔ (x ∈ W0 ∨ wnt σ lo (v + 1 - 1) bd x), ⟨fun q => ⟨W, hwl, fun x => by rw [hmem x, same (fun r => q r.1)]⟩, fun q => ⟨fun q2 => ⟨W, hwl, fun x => by rw [hmem x, same (fun r => by omega)]⟩, fun q2 => ?_⟩⟩, fun σ21 f21 ⟨W', w1, w2⟩ => ⟨⟨by omega, by omega⟩, (hi + 1 - (v + 1)).toNat, by omega, W', rfl, by omega, by omega, w1, w2⟩⟩
    have iff1 : ∀ x, (x = sg_g σ 16 v ∨ x ∈ W) ↔ (x ∈ W0 ∨ wnt σ lo (v + 1 - 1) bd x) := fun x => by
      rw [hmem x]
      refine ⟨fun r => ?_, fun r => ?_⟩
      · rcases r with r | r | ⟨j, q1, q2, q3, q4, q5⟩
        · exact Or.inr ⟨v, hv, by omega, q, r.symm, by omega⟩
        · exact Or.inl r
        · exact Or.inr ⟨j, q1, by omega, q3, q4, q5⟩
      · rcases r with r | ⟨j, q1, q2, q3, q4, q5⟩
        · exact Or.inr (Or.inl r)
        · by_cases e : j = v
          · subst e; exact Or.inl q4.symm
          · exact Or.inr (Or.inr ⟨j, q1, by omega, q3, q4, q5⟩)
    have up : ∀ x, (x ∈ W0 ∨ wnt σ lo (v + 1 - 1) bd x) → x ∈ W0 ∨ wnt σ lo hi bd x := fun x r => by
      rcases r with r | ⟨j, q1, q2, q3⟩
      · exact Or.inl r
      · exact Or.inr ⟨j, q1, by omega, q3⟩
    refine f_insert hwl ?_ (len W (wl_nd hwl.2.2) (fun x hx => up x ((iff1 x).mp (Or.inr hx)))) (sg_Rg _ _ _) (fun σ' W' f' w' m' _ => ⟨W', w', fun x => by rw [m' x, iff1]⟩)
    by_cases e : sg_g σ 16 v ∈ W
    · exact Or.inr e
    · left
      have := len (sg_g σ 16 v :: W) (List.nodup_cons.mpr ⟨e, wl_nd hwl.2.2⟩) (fun x hx => up x ((iff1 x).mp (List.mem_cons.mp hx)))
      simp only [List.length_cons] at this
      omega
theorem f_save {W : List Int} {a sv : Int} (ha : 0 ≤ a ∧ a < 200) (hw : wl σ W) (h200 : W.length ≤ 200) (hW : ∀ x ∈ W, 0 ≤ x ∧ x < 272) (hs : sg_g σ 61 22 = sv) (h0 : 0 ≤ sv ∧ sv + W.length ≤ 2400) (k : ∀ σ', sg_F [71, 72, 73, 23061] σ σ' → sg_g σ' 61 22 = sv + W.length → sg_g σ' 71 a = sv → (∀ i, ¬ i = a → sg_g σ' 71 i = sg_g σ 71 i) → (∀ (i : Nat) (x : Int), W[i]? = some x → sg_g σ' 72 (sv + i) = x ∧ sg_g σ' 73 (sv + i) = sg_g σ 62 x) → (∀ i, i < sv → sg_g σ' 72 i = sg_g σ 72 i ∧ sg_g σ' 73 i = sg_g σ 73 i) → Q σ') : V_fSaveWanted σ a Q := by
  obtain ⟨w1, w2, w3⟩ := hw
  unfold V_fSaveWanted
  rw [w1]
  intro σ1 e1
  rw [xp_in ha, hs] at e1
  have f1 : sg_F [71] σ σ1 := by rw [e1]; exact sg_F_w (sg_F_r _ _) rfl _
  refine ⟨fun m v σ5 => ∃ j : Nat, v = j ∧ j ≤ W.length ∧ m = W.length - j ∧ sg_g σ5 61 22 = sv + j ∧ (∀ (i : Nat) (x : Int), i < j → W[i]? = some x → sg_g σ5 72 (sv + i) = x ∧ sg_g σ5 73 (sv + i) = sg_g σ 62 x) ∧ (∀ i, i < sv → sg_g σ5 72 i = sg_g σ 72 i ∧ sg_g σ5 73 i = sg_g σ 73 i), fun σ5 => sg_g σ5 61 22 = sv + W.length ∧ (∀ (i : Nat) (x : Int), W[i]? = some x → sg_g σ5 72 (sv + i) = x ∧ sg_g σ5 73 (sv + i) = sg_g σ 62 x) ∧ (∀ i, i < sv → sg_g σ5 72 i = sg_g σ 72 i ∧ sg_g σ5 73 i = sg_g σ 73 i), ⟨_, 0, rfl, Nat.zero_le _, rfl, by rw [sg_F_g f1 (by rfl)]; omega, fun i x hi => by omega, fun i hi => ⟨sg_F_ga f1 rfl, sg_F_ga f1 rfl⟩⟩, ?_, ?_⟩
  · rintro m v σ5 rv f5 ⟨j, rfl, hj, hm, h1, h2, h3⟩
    refine ⟨fun z => ⟨by rw [h1, show j = W.length by omega], fun i x hx => h2 i x ?_ hx, h3⟩, fun z => ?_⟩
    · have : i < W.length := by
        rcases Nat.lt_or_ge i W.length with q | q
        · exact q
        · rw [List.getElem?_eq_none q] at hx; cases hx
      omega
    · have hx0 : W[j]? = some (W[j]'(by omega)) := List.getElem?_eq_getElem _
      generalize W[j]'(by omega) = x at hx0
      have xr := hW x (List.mem_of_getElem? hx0)
      rw [xa_in (a := 74) ⟨by omega, by omega⟩, w2 j x hx0, xa_in (a := 62) xr, h1]
      intro σ20 e20 σ23 e23
      rw [xp_in ⟨by omega, by omega⟩] at e20 e23
      refine ⟨⟨by omega, by omega⟩, fun σ27 e27 => ⟨⟨by omega, by omega⟩, W.length - (j + 1), by omega, j + 1, by omega, by omega, rfl, ?_, fun i y hi hy => ?_, fun i hi => ?_⟩⟩
      · rw [e27, sg_gw_e _ _ _ _ ⟨by omega, by omega⟩]; omega
      · by_cases e : i = j
        · subst e
          rw [hx0] at hy
          cases hy
          refine ⟨?_, ?_⟩
          · rw [e27, sg_gw_c _ _ _ _ _ _ (by decide), e23, sg_gw_c _ _ _ _ _ _ (by decide), e20, sg_gw_e _ _ _ _ ⟨by omega, by omega⟩]
          · rw [e27, sg_gw_c _ _ _ _ _ _ (by decide), e23, sg_gw_e _ _ _ _ (sg_Rg _ _ _)]
        · obtain ⟨t1, t2⟩ := h2 i y (by omega) hy
          refine ⟨?_, ?_⟩
          · rw [e27, sg_gw_c _ _ _ _ _ _ (by decide), e23, sg_gw_c _ _ _ _ _ _ (by decide), e20, sg_gw_k _ _ _ _ _ _ (by omega)]; exact t1
          · rw [e27, sg_gw_c _ _ _ _ _ _ (by decide), e23, sg_gw_k _ _ _ _ _ _ (by omega), e20, sg_gw_c _ _ _ _ _ _ (by decide)]; exact t2
      · obtain ⟨t1, t2⟩ := h3 i hi
        refine ⟨?_, ?_⟩
        · rw [e27, sg_gw_c _ _ _ _ _ _ (by decide), e23, sg_gw_c _ _ _ _ _ _ (by decide), e20, sg_gw_k _ _ _ _ _ _ (by omega)]; exact t1
        · rw [e27, sg_gw_c _ _ _ _ _ _ (by decide), e23, sg_gw_k _ _ _ _ _ _ (by omega), e20, sg_gw_c _ _ _ _ _ _ (by decide)]; exact t2
  · rintro σ5 f5 ⟨h1, h2, h3⟩
    refine k σ5 (sg_F_t (sg_F_m f1 rfl) (sg_F_m f5 rfl)) h1 ?_ (fun i hi => ?_) h2 h3
    · rw [sg_F_ga f5 rfl, e1, sg_gw_e _ _ _ _ ⟨by omega, by omega⟩]
    · rw [sg_F_ga f5 rfl, e1, sg_gw_k _ _ _ _ _ _ hi]
theorem f_restore {W : List Int} {a sb : Int} (ha : 0 ≤ a ∧ a < 200) (h71 : sg_g σ 71 a = sb) (hs : sg_g σ 61 22 = sb + W.length) (h0 : 0 ≤ sb ∧ sb + W.length ≤ 2400) (hN : W.Nodup) (hW : ∀ x ∈ W, 0 ≤ x ∧ x < 272) (h72 : ∀ (i : Nat) (x : Int), W[i]? = some x → sg_g σ 72 (sb + i) = x) (k : ∀ σ', sg_F [62, 23061] σ σ' → sg_g σ' 61 22 = sb → (∀ (i : Nat) (x : Int), W[i]? = some x → sg_g σ' 62 x = sg_g σ 73 (sb + i)) → (∀ x, x ∉ W → sg_g σ' 62 x = sg_g σ 62 x) → Q σ') : V_fRestore σ a Q := by
  unfold V_fRestore
  rw [xa_in ha, h71, hs]
  intro v1 e1 r1
  rw [if_neg (by omega)] at e1
  rw [e1]
  refine ⟨⟨by omega, by omega⟩, fun m v σ6 => ∃ j : Nat, v = sb + j - 1 ∧ j ≤ W.length ∧ m = j ∧ (∀ (i : Nat) (x : Int), j ≤ i → W[i]? = some x → sg_g σ6 62 x = sg_g σ 73 (sb + i)) ∧ (∀ x, x ∉ W.drop j → sg_g σ6 62 x = sg_g σ 62 x), fun σ6 => (∀ (i : Nat) (x : Int), W[i]? = some x → sg_g σ6 62 x = sg_g σ 73 (sb + i)) ∧ (∀ x, x ∉ W → sg_g σ6 62 x = sg_g σ 62 x), ⟨_, W.length, by omega, Nat.le_refl _, rfl, fun i x hi hx => ?_, fun x _ => rfl⟩, ?_, ?_⟩
  · rw [List.getElem?_eq_none hi] at hx; cases hx
  · rintro m v σ6 rv f6 ⟨j, rfl, hj, hm, h1, h2⟩
    have fin : j = 0 → (∀ (i : Nat) (x : Int), W[i]? = some x → sg_g σ6 62 x = sg_g σ 73 (sb + i)) ∧ (∀ x, x ∉ W → sg_g σ6 62 x = sg_g σ 62 x) := fun e => by
      subst e
      exact ⟨fun i x hx => h1 i x (Nat.zero_le _) hx, fun x hx => h2 x (by simpa using hx)⟩
    refine ⟨fun z => fin (by omega), fun z => ⟨fun y => fin (by omega), fun y σ25 e25 => ⟨⟨by omega, by omega⟩, j - 1, by omega, j - 1, by omega, by omega, rfl, fun i x hi hx => ?_, fun x hx => ?_⟩⟩⟩
    all_goals
      have hx0 : W[j - 1]? = some (W[j - 1]'(by omega)) := List.getElem?_eq_getElem _
      have dr := List.drop_eq_getElem_cons (l := W) (i := j - 1) (by omega)
      generalize W[j - 1]'(by omega) = x0 at hx0 dr
      rw [show j - 1 + 1 = j by omega] at dr
      have x0r := hW x0 (List.mem_of_getElem? hx0)
      have t72 := h72 (j - 1) x0 hx0
      rw [show sb + ((j - 1 : Nat) : Int) = sb + j - 1 by omega] at t72
      rw [xa_in (a := 72) ⟨by omega, by omega⟩, xa_in (a := 73) ⟨by omega, by omega⟩, t72, xp_in x0r] at e25
    · by_cases e : i = j - 1
      · subst e
        rw [hx0] at hx
        cases hx
        rw [e25, sg_gw_e _ _ _ _ (sg_Rg _ _ _), show sb + ((j - 1 : Nat) : Int) = sb + j - 1 by omega]
      · have hil : i < W.length := by
          rcases Nat.lt_or_ge i W.length with q | q
          · exact q
          · rw [List.getElem?_eq_none q] at hx; cases hx
        have ne : ¬ x = x0 := fun q => by
          subst q
          rw [List.getElem?_eq_getElem hil] at hx
          rw [List.getElem?_eq_getElem (show j - 1 < W.length by omega)] at hx0
          have := (List.getElem_inj hN).mp ((Option.some.inj hx).trans (Option.some.inj hx0).symm)
          omega
        rw [e25, sg_gw_k _ _ _ _ _ _ ne]
        exact h1 i x (by omega) hx
    · rw [dr] at hx
      have ne : ¬ x = x0 := fun q => hx (by simp [q])
      rw [e25, sg_gw_k _ _ _ _ _ _ ne]
      exact h2 x (fun q => hx (by simp [q]))
  · rintro σ6 f6 ⟨h1, h2⟩ σ20 e20
    have f20 : sg_F [23061] σ6 σ20 := by rw [e20]; exact sg_F_w (sg_F_r _ _) rfl _
    refine k σ20 (sg_F_t (sg_F_m f6 rfl) (sg_F_m f20 rfl)) ?_ (fun i x hx => by rw [sg_F_ga f20 rfl]; exact h1 i x hx) (fun x hx => by rw [sg_F_ga f20 rfl]; exact h2 x hx)
    rw [e20, sg_gw_e _ _ _ _ ⟨by omega, by omega⟩]
end CTM
/-! narrow, spread, shorten. -/
def mC (σ : sg_S) (c : Int) : Prop := yG σ ∧ y0 σ ∧ sg_g σ 61 10 = 0 ∧ sg_g σ 77 10 + c ≤ 4 * sg_g σ 77 17 ∧ (0 ≤ sg_g σ 77 17 ∧ sg_g σ 77 17 ≤ 2000)
/-- how many lanes are chosen -/
def cnF (σ : sg_S) (ch w : Int) (n : Nat) : Int := su (fun l => if v_fChosen σ ch l w = 0 then 0 else 1) 0 n
theorem cnF_b (σ : sg_S) (ch w : Int) : ∀ n : Nat, 0 ≤ cnF σ ch w n ∧ cnF σ ch w n ≤ n
  | 0 => by simp [cnF, su]
  | n + 1 => by
    have := cnF_b σ ch w n
    unfold cnF at this ⊢
    simp only [su]
    split <;> omega
theorem su_01 {g : Int → Int} {p : Int} : ∀ {i : Nat}, (∀ x, 0 ≤ g x ∧ g x ≤ 1) → 0 ≤ su g p i ∧ su g p i ≤ i
  | 0, _ => by simp [su]
  | i + 1, h => by
    have a := su_01 (g := g) (p := p) (i := i) h
    have b := h (p + i)
    simp only [su]
    omega
theorem ch_up {σ σ' : sg_S} (g : yG σ) (g' : yG σ') (h : yEx σ σ') {ch n l w : Int} (hc : yRw σ ch n) (hl : 0 ≤ l ∧ l < n) : v_fChosen σ' ch l w = v_fChosen σ ch l w := by
  have e : v_lCell σ' ch l = v_lCell σ ch l := by
    rw [(y_cell g hc hl).1, (y_cell g' (yRw_up h hc) hl).1, (h.2.1 ch hc.1.1 hc.1.2).1]
    have := hc.2.2.2
    exact h.2.2.1 _ (by omega) (by omega)
  unfold v_fChosen
  rw [e]
theorem ch_p {σ : sg_S} {ch l w : Int} (h : p_lCell σ ch l) : p_fChosen σ ch l w := by
  unfold p_fChosen
  exact ⟨h, fun _ => ⟨fun _ => trivial, fun _ => trivial⟩, fun _ => ⟨fun _ => trivial, fun _ => trivial⟩⟩
theorem cn_up {σ σ' : sg_S} (g : yG σ) (g' : yG σ') (h : yEx σ σ') {ch n w : Int} (hc : yRw σ ch n) {i : Nat} (hi : (i : Int) ≤ n) : cnF σ' ch w i = cnF σ ch w i := by
  unfold cnF
  exact su_sh (fun j hj => by rw [ch_up g g' h hc ⟨by omega, by omega⟩])
theorem p_cell80 {σ : sg_S} {v l : Int} (h : 0 ≤ sg_g σ 80 v ∧ sg_g σ 80 v ≤ 6000) (hl : 0 ≤ l ∧ l ≤ 6000) : p_lCell σ v l := by
  unfold p_lCell
  exact ⟨fun _ => trivial, fun a => ⟨fun b => ⟨⟨a, b⟩, ⟨by omega, by omega⟩, fun _ => trivial, fun c => ⟨fun _ => trivial, fun d => ⟨⟨c, d⟩, trivial⟩⟩⟩, fun _ => trivial⟩⟩
abbrev nrL : List Nat := [62, 78, 79, 80, 81, 82, 85, 86, 87, 11061, 11077, 12077, 13077, 14077, 15077, 16077, 17077, 18077, 19077]
/-- the wanted slots are sealed anew, for m lanes -/
def nrR (σ σ' : sg_S) (W : List Int) (c m : Int) : Prop := mC σ' c ∧ yEx σ σ' ∧ (∀ x ∈ W, ∀ d : Nat, sg_g σ 34 x = d → yV σ' d (sg_g σ' 62 x) m) ∧ ∀ x, x ∉ W → sg_g σ' 62 x = sg_g σ 62 x
section NRW
variable {σ : sg_S} {Q : sg_S → Prop}
/-- one slot is sealed anew -/
theorem f_reseal {σ2 σ50 : sg_S} {W : List Int} {i : Nat} {x c m b : Int} {d : Nat} {R : sg_S → Prop} (hc : 4 ≤ c) (f2 : sg_F nrL σ σ2) (hm : mC σ2 c) (ex : yEx σ σ2) (hx : W[i]? = some x) (hN : W.Nodup) (hx2 : 0 ≤ x ∧ x < 272) (hd : d ≤ 3) (hT : ∀ y ∈ W.take i, ∀ d : Nat, sg_g σ 34 y = d → yV σ2 d (sg_g σ2 62 y) m) (hO : ∀ y, y ∉ W.take i → sg_g σ2 62 y = sg_g σ 62 y) (h34 : sg_g σ 34 x = d) (f50 : sg_F [85, 86, 87, 14077, 16077] σ2 σ50) (hC : yC σ50 b) (hA : aC σ50 d 0 (-m)) (k : ∀ σ73, sg_F nrL σ σ73 → ((¬ sg_g σ73 61 10 = 0 ∧ ∀ v, 0 ≤ v → v < sg_g σ 77 10 → sg_g σ73 80 v = sg_g σ 80 v) ∨ (mC σ73 c ∧ yEx σ σ73 ∧ (∀ y ∈ W.take (i + 1), ∀ d : Nat, sg_g σ 34 y = d → yV σ73 d (sg_g σ73 62 y) m) ∧ ∀ y, y ∉ W.take (i + 1) → sg_g σ73 62 y = sg_g σ 62 y)) → R σ73) : V_lSeal σ50 d 0 (fun q64 σ65 => sg_R q64 → sg_F [78, 79, 80, 81, 82, 85, 86, 87, 11077, 12077, 13077, 14077, 15077, 16077, 17077, 18077, 19077] σ50 σ65 → ∀ σ70, σ70 = (sx_put σ65 62 272 x q64) → ∀ σ73, σ73 = (sg_w σ70 61 10 ((sg_g σ65 77 18))) → R σ73) := by
  obtain ⟨m1, m2, m3, m4, m5⟩ := hm
  have ex50 : yEx σ2 σ50 := yEx_F f50 rfl
  have w50 : sg_g σ50 77 10 = sg_g σ2 77 10 := sg_F_g f50 rfl
  have s50 : sg_g σ50 77 17 = sg_g σ2 77 17 := sg_F_g f50 rfl
  refine y_seal (D := d) (f := 0) (n := m) (yG_F m1 f50 rfl) (by omega) (by omega) hd hC.2.2.2 (fun z => aC_fd0 hA z) (by omega) (fun σ65 f65 y65 h65 r64 _ σ70 e70 σ73 e73 => ?_)
  rw [xp_in hx2] at e70
  have f70 : sg_F [62] σ65 σ70 := by rw [e70]; exact sg_F_w (sg_F_r _ _) rfl _
  have f73 : sg_F [11061] σ70 σ73 := by rw [e73]; exact sg_F_w (sg_F_r _ _) rfl _
  have f6573 : sg_F [62, 11061] σ65 σ73 := sg_F_t (sg_F_m f70 rfl) (sg_F_m f73 rfl)
  have F : sg_F nrL σ σ73 := sg_F_t (sg_F_t (sg_F_t f2 (sg_F_m f50 rfl)) (sg_F_m f65 rfl)) (sg_F_m f6573 rfl)
  have e10 : sg_g σ73 61 10 = sg_g σ65 77 18 := by rw [e73, sg_gw_e _ _ _ _ (sg_Rg _ _ _)]
  have e62 : sg_g σ73 62 x = sg_g σ50 77 10 := by rw [sg_F_ga f73 rfl, e70, sg_gw_e _ _ _ _ r64]
  have o62 : ∀ y, ¬ y = x → sg_g σ73 62 y = sg_g σ2 62 y := fun y hy => by rw [sg_F_ga f73 rfl, e70, sg_gw_k _ _ _ _ _ _ hy, sg_F_ga f65 rfl, sg_F_ga f50 rfl]
  refine k σ73 F ?_
  rcases h65 with ⟨z1, z2⟩ | ⟨z1, z2, z3, z4, z5, z6, z7, z8, z9⟩
  · refine Or.inl ⟨by rw [e10]; exact z1, fun v a b => ?_⟩
    rw [sg_F_ga f6573 rfl, z2 v a (by rw [w50]; have := ex.1.1; omega), sg_F_ga f50 rfl]
    exact (ex.2.1 v a b).1
  · right
    have ex73 : yEx σ65 σ73 := yEx_F f6573 rfl
    have exx : yEx σ2 σ73 := yEx_t ex50 (yEx_t z2 ex73)
    have hil : i < W.length := by
      rcases Nat.lt_or_ge i W.length with q | q
      · exact q
      · rw [List.getElem?_eq_none q] at hx; cases hx
    have nin : x ∉ W.take i := fun q => by
      obtain ⟨q', hq, e⟩ := List.mem_take_iff_getElem.mp q
      rw [List.getElem?_eq_getElem hil] at hx
      have := (List.getElem_inj hN).mp (e.trans (Option.some.inj hx).symm)
      omega
    have tk : W.take (i + 1) = W.take i ++ [x] := by rw [List.take_add_one, hx]; rfl
    refine ⟨⟨yG_F z3 f6573 rfl, y0_F y65 f6573 rfl, by rw [e10]; exact z1, by rw [sg_F_g f6573 (by rfl), sg_F_g f6573 (by rfl)]; omega, by rw [sg_F_g f6573 (by rfl)]; omega⟩, yEx_t ex exx, fun y hy d' hd' => ?_, fun y hy => ?_⟩
    · rw [tk] at hy
      rcases List.mem_append.mp hy with q | q
      · rw [o62 y (fun e => nin (e ▸ q))]
        exact yV_up exx (hT y q d' hd')
      · simp at q
        subst q
        rw [h34] at hd'
        have : d' = d := by omega
        subst this
        rw [e62]; exact yV_up ex73 z4
    · rw [tk] at hy
      have h1 : y ∉ W.take i := fun q => hy (List.mem_append_left _ q)
      have h2 : ¬ y = x := fun q => hy (by simp [q])
      rw [o62 y h2]; exact hO y h1
theorem f_narrow {W : List Int} {ch w n c : Int} (hm : mC σ c) (hc : 4 ≤ c) (hn : 0 ≤ n ∧ n ≤ 6000) (hch : yRw σ ch n) (hw : wl σ W) (h200 : W.length ≤ 200) (hW : ∀ x ∈ W, 0 ≤ x ∧ x < 272) (hT : ∀ x ∈ W, ∃ d : Nat, d ≤ 3 ∧ sg_g σ 34 x = d ∧ yV σ d (sg_g σ 62 x) n) (k1 : ∀ σ', sg_F (24061 :: nrL) σ σ' → ¬ sg_g σ' 61 10 = 0 → Q σ') (k2 : ∀ σ', sg_F (24061 :: nrL) σ σ' → nrR σ σ' W c (cnF σ ch w n.toNat) → sg_g σ' 61 23 = cnF σ ch w n.toNat → Q σ') : V_fNarrow σ ch w n Q := by
  obtain ⟨w1, w2, w3⟩ := id hw
  have gg := hm.1
  unfold V_fNarrow
  rw [w1]
  have c80 := gg.2.2.1 ch hch.1.1 hch.1.2
  have u6 := gg.2.1
  have chw := hch.1
  refine ⟨fun m v σ2 => ∃ i : Nat, v = i ∧ i ≤ W.length ∧ m = W.length - i ∧ ((¬ sg_g σ2 61 10 = 0 ∧ sg_g σ2 80 ch = sg_g σ 80 ch) ∨ (mC σ2 c ∧ yEx σ σ2 ∧ (∀ y ∈ W.take i, ∀ d : Nat, sg_g σ 34 y = d → yV σ2 d (sg_g σ2 62 y) (cnF σ ch w n.toNat)) ∧ ∀ y, y ∉ W.take i → sg_g σ2 62 y = sg_g σ 62 y)), fun σ2 => (¬ sg_g σ2 61 10 = 0 ∧ sg_g σ2 80 ch = sg_g σ 80 ch) ∨ nrR σ σ2 W c (cnF σ ch w n.toNat), ⟨_, 0, rfl, Nat.zero_le _, rfl, Or.inr ⟨hm, yEx_r _, by simp, fun _ _ => rfl⟩⟩, ?_, ?_⟩
  · rintro m v σ2 rv f2 ⟨i, rfl, hi, hm', hI⟩
    refine ⟨fun z => ?_, fun z => ⟨fun y => ?_, fun y => ?_⟩⟩
    · rcases hI with q | ⟨q1, q2, q3, q4⟩
      · exact Or.inl q
      · rw [List.take_of_length_le (by omega)] at q3 q4
        exact Or.inr ⟨q1, q2, q3, q4⟩
    · rcases hI with q | ⟨q1, q2, q3, q4⟩
      · exact Or.inl q
      · exact absurd q1.2.2.1 y
    · rcases hI with q | ⟨q1, q2, q3, q4⟩
      · exact absurd y q.1
      have hx : W[i]? = some (W[i]'(by omega)) := List.getElem?_eq_getElem _
      generalize W[i]'(by omega) = x at hx
      have xm := List.mem_of_getElem? hx
      obtain ⟨d, d1, d2, d3⟩ := hT x xm
      have xr := hW x xm
      have nin : x ∉ W.take i := fun q => by
        obtain ⟨q', hq, e⟩ := List.mem_take_iff_getElem.mp q
        rw [List.getElem?_eq_getElem (show i < W.length by omega)] at hx
        have := (List.getElem_inj (wl_nd w3)).mp (e.trans (Option.some.inj hx).symm)
        omega
      have v62 := q4 x nin
      rw [xa_in (a := 74) ⟨by omega, by omega⟩, w2 i x hx, xa_in (a := 62) xr, xa_in (a := 34) xr, v62, d2]
      have xv : yV σ2 d (sg_g σ 62 x) n := yV_up q2 d3
      have xw := (yV_r xv).1
      have g10 := q1.1.1
      have ca : ∀ l, 0 ≤ l → l < n → v_fChosen σ2 ch l w = v_fChosen σ ch l w := fun l a b => ch_up gg q1.1 q2 hch ⟨a, b⟩
      refine ⟨fun m2 v49 σ50 => ∃ j : Nat, v49 = j ∧ (j : Int) ≤ n ∧ m2 = n.toNat - j ∧ yC σ50 j ∧ aC σ50 d 0 (-(cnF σ ch w j)), fun σ50 => yC σ50 n ∧ aC σ50 d 0 (-(cnF σ ch w n.toNat)), ⟨_, 0, rfl, by omega, rfl, yC_0 q1.2.1, aC_0 q1.2.1 d⟩, ?_, ?_⟩
      · rintro m2 v49 σ50 r49 f50 ⟨j, rfl, hj, hm2, hcc, hA⟩
        refine ⟨fun q => ⟨yC_m hcc (by omega), by rw [show n.toNat = j by omega]; exact hA⟩, fun q => ?_⟩
        have ex50 : yEx σ2 σ50 := yEx_F f50 rfl
        rw [ca j (by omega) q]
        have ce : cnF σ ch w (j + 1) = cnF σ ch w j + (if v_fChosen σ ch j w = 0 then 0 else 1) := by
          unfold cnF; simp only [su]; rw [show (0 : Int) + j = j by omega]
        refine ⟨ch_p (y_cell q1.1 (yRw_up q2 hch) ⟨by omega, q⟩).2, fun σ83 => yC σ83 (j + 1) ∧ aC σ83 d 0 (-(cnF σ ch w (j + 1))), ⟨fun r => ⟨yC_m hcc (by omega), by rw [ce, if_pos r, Int.add_zero]; exact hA⟩, fun r => ⟨⟨by omega, by omega⟩, aC_pick hA hcc (by omega) ⟨by omega, by omega⟩ ⟨by omega, Or.inr ⟨_, yV_up ex50 xv, by omega⟩⟩ ⟨by omega, by omega⟩ (fun σ3 f3 c3 a3 _ => ⟨c3, ?_⟩)⟩⟩, fun σ83 f83 h83 => ⟨⟨by omega, by omega⟩, n.toNat - (j + 1), by omega, j + 1, by omega, by omega, rfl, h83.1, h83.2⟩⟩
        rw [ce, if_neg r]
        rw [show -cnF σ ch w j - (↑j + 1 - ↑j) = -(cnF σ ch w j + 1) by omega] at a3
        exact a3
      · rintro σ50 f50 ⟨hcc, hA⟩
        refine f_reseal hc f2 q1 q2 hx (wl_nd w3) xr d1 q3 q4 d2 f50 hcc hA (fun σ73 F73 h73 => ⟨⟨by omega, by omega⟩, W.length - (i + 1), by omega, i + 1, by omega, by omega, rfl, ?_⟩)
        rcases h73 with ⟨z1, z2⟩ | z
        · exact Or.inl ⟨z1, z2 ch chw.1 chw.2⟩
        · exact Or.inr z
  · rintro σ2 f2 hX σ16 e16
    have f16 : sg_F [24061] σ2 σ16 := by rw [e16]; exact sg_F_w (sg_F_r _ _) rfl _
    have pc : ∀ l, 0 ≤ l → l < n → p_fChosen σ2 ch l w := fun l a b => ch_p (p_cell80 (by
      rcases hX with ⟨-, q⟩ | q
      · rw [q]; omega
      · rw [(q.2.1.2.1 ch chw.1 chw.2).1]; omega) (by omega))
    refine ⟨fun m v σ20 => ∃ j : Nat, v = j ∧ (j : Int) ≤ n ∧ m = n.toNat - j ∧ sg_g σ20 61 23 = cnF σ2 ch w j, fun σ20 => sg_g σ20 61 23 = cnF σ2 ch w n.toNat, ⟨_, 0, rfl, by omega, rfl, by rw [e16, sg_gw_e _ _ _ _ (by decide)]; rfl⟩, ?_, ?_⟩
    · rintro m v σ20 rv f20 ⟨j, rfl, hj, hm', h23⟩
      refine ⟨fun z => by rw [show n.toNat = j by omega]; exact h23, fun z => ⟨pc j (by omega) z, fun v38 e38 r38 => ?_⟩⟩
      have cb := cnF_b σ2 ch w j
      have v01 : 0 ≤ v38 ∧ v38 ≤ 1 := by rw [e38]; split <;> omega
      refine ⟨⟨by omega, by omega⟩, fun σ42 e42 => ⟨⟨by omega, by omega⟩, n.toNat - (j + 1), by omega, j + 1, by omega, by omega, rfl, ?_⟩⟩
      rw [e42, sg_gw_e _ _ _ _ ⟨by omega, by omega⟩, h23, e38]
      unfold cnF
      simp only [su]
      rw [show (0 : Int) + j = j by omega]
    · intro σ20 f20 h20
      have F : sg_F (24061 :: nrL) σ σ20 := sg_F_t (sg_F_t (sg_F_m f2 rfl) (sg_F_m f16 rfl)) (sg_F_m f20 rfl)
      have f220 : sg_F [24061] σ2 σ20 := sg_F_t f16 f20
      rcases hX with ⟨q, -⟩ | ⟨q1, q2, q3, q4⟩
      · exact k1 σ20 F (by rw [sg_F_g f220 (by rfl)]; exact q)
      · have ex : yEx σ2 σ20 := yEx_F f220 rfl
        have cu : cnF σ2 ch w n.toNat = cnF σ ch w n.toNat := cn_up gg q1.1 q2 hch (by omega)
        obtain ⟨m1, m2, m3, m4, m5⟩ := q1
        refine k2 σ20 F ⟨⟨yG_F m1 f220 rfl, y0_F m2 f220 rfl, by rw [sg_F_g f220 (by rfl)]; exact m3, by rw [sg_F_g f220 (by rfl), sg_F_g f220 (by rfl)]; exact m4, by rw [sg_F_g f220 (by rfl)]; exact m5⟩, yEx_t q2 ex, fun x hx d hd => ?_, fun x hx => by rw [sg_F_ga f220 rfl]; exact q4 x hx⟩ (by rw [h20, cu])
        rw [sg_F_ga f220 rfl]; exact yV_up ex (q3 x hx d hd)
theorem f_spread {W : List Int} {g n c : Int} {dg : Nat} (hm : mC σ c) (hc : 4 ≤ c) (hn : 0 ≤ n ∧ n ≤ 6000) (h23 : sg_g σ 61 23 = n) (hg : yV σ (dg + 1) g n) (hw : wl σ W) (h200 : W.length ≤ 200) (hW : ∀ x ∈ W, 0 ≤ x ∧ x < 272) (hT : ∀ x ∈ W, ∃ d : Nat, d ≤ 3 ∧ sg_g σ 34 x = d ∧ yV σ d (sg_g σ 62 x) n) (k1 : ∀ σ', sg_F nrL σ σ' → ¬ sg_g σ' 61 10 = 0 → Q σ') (k2 : ∀ σ', sg_F nrL σ σ' → nrR σ σ' W c (su (sg_g σ 78) (sg_g σ 80 g) n.toNat) → Q σ') : V_fSpread σ g Q := by
  obtain ⟨w1, w2, w3⟩ := id hw
  have gg := hm.1
  generalize hM : su (sg_g σ 78) (sg_g σ 80 g) n.toNat = M at *
  unfold V_fSpread
  rw [w1, h23]
  refine ⟨fun m v σ2 => ∃ i : Nat, v = i ∧ i ≤ W.length ∧ m = W.length - i ∧ (¬ sg_g σ2 61 10 = 0 ∨ (mC σ2 c ∧ yEx σ σ2 ∧ (∀ y ∈ W.take i, ∀ d : Nat, sg_g σ 34 y = d → yV σ2 d (sg_g σ2 62 y) M) ∧ ∀ y, y ∉ W.take i → sg_g σ2 62 y = sg_g σ 62 y)), fun σ2 => ¬ sg_g σ2 61 10 = 0 ∨ nrR σ σ2 W c M, ⟨_, 0, rfl, Nat.zero_le _, rfl, Or.inr ⟨hm, yEx_r _, by simp, fun _ _ => rfl⟩⟩, ?_, ?_⟩
  · rintro m v σ2 rv f2 ⟨i, rfl, hi, hm', hI⟩
    refine ⟨fun z => ?_, fun z => ⟨fun y => Or.inl y, fun y => ?_⟩⟩
    · rcases hI with q | ⟨q1, q2, q3, q4⟩
      · exact Or.inl q
      · rw [List.take_of_length_le (by omega)] at q3 q4
        exact Or.inr ⟨q1, q2, q3, q4⟩
    · rcases hI with q | ⟨q1, q2, q3, q4⟩
      · exact absurd y q
      have hx : W[i]? = some (W[i]'(by omega)) := List.getElem?_eq_getElem _
      generalize W[i]'(by omega) = x at hx
      have xm := List.mem_of_getElem? hx
      obtain ⟨d, d1, d2, d3⟩ := hT x xm
      have xr := hW x xm
      have nin : x ∉ W.take i := fun q => by
        obtain ⟨q', hq, e⟩ := List.mem_take_iff_getElem.mp q
        rw [List.getElem?_eq_getElem (show i < W.length by omega)] at hx
        have := (List.getElem_inj (wl_nd w3)).mp (e.trans (Option.some.inj hx).symm)
        omega
      have v62 := q4 x nin
      rw [xa_in (a := 74) ⟨by omega, by omega⟩, w2 i x hx, xa_in (a := 62) xr, xa_in (a := 34) xr, v62, d2]
      have xv : yV σ2 d (sg_g σ 62 x) n := yV_up q2 d3
      have xw := (yV_r xv).1
      have g10 := q1.1.1
      have hg2 := yV_up q2 hg
      have hM2 : su (sg_g σ2 78) (sg_g σ2 80 g) n.toNat = M := by rw [← hM]; exact ysu_up q2 (yV_r hg) (by omega)
      refine ⟨fun m2 v18 σ19 => ∃ j : Nat, v18 = j ∧ (j : Int) ≤ n ∧ m2 = n.toNat - j ∧ yC σ19 (200 * j) ∧ aC σ19 d 0 (-(su (sg_g σ2 78) (sg_g σ2 80 g) j)), fun σ19 => yC σ19 (200 * n) ∧ aC σ19 d 0 (-M), ⟨_, 0, rfl, by omega, rfl, yC_0 q1.2.1, aC_0 q1.2.1 d⟩, ?_, ?_⟩
      · rintro m2 v18 σ19 r18 f19 ⟨j, rfl, hj, hm2, hcc, hA⟩
        refine ⟨fun q => ⟨yC_m hcc (by omega), by rw [← hM2, show n.toNat = j by omega]; exact hA⟩, fun q => ⟨fun q2 => ⟨yC_m hcc (by omega), fun q3 => absurd q3 q2⟩, fun q2 => ?_⟩⟩
        obtain ⟨b1, b2, b3, b4, b5, b6, b7, b8, b9, b10⟩ := y_lane q1.1 hg2 (l := j) ⟨by omega, q⟩
        have hce := (y_cell q1.1 (yV_r hg2) (l := j) ⟨by omega, q⟩).1
        have ce : su (sg_g σ2 78) (sg_g σ2 80 g) (j + 1) = su (sg_g σ2 78) (sg_g σ2 80 g) j + v_lCell σ2 g j := by
          simp only [su]; rw [hce]
        refine ⟨b8, ?_⟩
        generalize v_lCell σ2 g j = q0 at *
        refine ⟨fun m3 v51 σ52 => ∃ i2 : Nat, v51 = i2 ∧ i2 ≤ q0 ∧ m3 = (q0 - i2).toNat ∧ yC σ52 (200 * j + i2) ∧ aC σ52 d 0 (-(su (sg_g σ2 78) (sg_g σ2 80 g) j) - i2), fun σ52 => yC σ52 (200 * (j + 1 : Nat)) ∧ aC σ52 d 0 (-(su (sg_g σ2 78) (sg_g σ2 80 g) (j + 1))), ⟨_, 0, rfl, by omega, rfl, by rw [show (200 : Int) * j + (0 : Nat) = 200 * j by omega]; exact hcc, by rw [show ∀ z : Int, z - ((0 : Nat) : Int) = z from fun z => by omega]; exact hA⟩, ?_, ?_⟩
        · rintro m3 v51 σ52 r51 f52 ⟨i2, rfl, hi2, hm3, hc3, hA3⟩
          have ex52 : yEx σ2 σ52 := yEx_F (sg_F_t f19 f52) rfl
          refine ⟨fun r => ⟨yC_m hc3 (by omega), ?_⟩, fun r => ⟨⟨by omega, by omega⟩, aC_pick hA3 hc3 (by omega) ⟨by omega, by omega⟩ ⟨by omega, Or.inr ⟨_, yV_up ex52 xv, by omega⟩⟩ ⟨by omega, by omega⟩ (fun σ3 f3 c3 a3 _ => ⟨⟨by omega, by omega⟩, (q0 - (i2 + 1 : Nat)).toNat, by omega, i2 + 1, by omega, by omega, rfl, by rw [show (200 : Int) * j + (i2 + 1 : Nat) = 200 * j + i2 + 1 by omega]; exact c3, ?_⟩)⟩⟩
          · rw [ce, show q0 = (i2 : Int) by omega, Int.neg_add, ← Int.sub_eq_add_neg]; exact hA3
          · rw [show (-su (sg_g σ2 78) (sg_g σ2 80 g) j - ↑i2 - (↑j + 1 - ↑j)) = -su (sg_g σ2 78) (sg_g σ2 80 g) j - ((i2 + 1 : Nat) : Int) by omega] at a3
            exact a3
        · rintro σ52 f52 ⟨hc3, hA3⟩
          exact ⟨⟨by omega, by omega⟩, n.toNat - (j + 1), by omega, j + 1, by omega, by omega, rfl, hc3, hA3⟩
      · rintro σ19 f19 ⟨hcc, hA⟩
        refine f_reseal hc f2 q1 q2 hx (wl_nd w3) xr d1 q3 q4 d2 f19 hcc hA (fun σ73 F73 h73 => ⟨⟨by omega, by omega⟩, W.length - (i + 1), by omega, i + 1, by omega, by omega, rfl, ?_⟩)
        rcases h73 with ⟨z1, z2⟩ | z
        · exact Or.inl z1
        · exact Or.inr z
  · rintro σ2 f2 hX
    rcases hX with q | q
    · exact k1 σ2 f2 q
    · exact k2 σ2 f2 q
/-- lengths of what is left -/
theorem f_shorten {a ch n m c : Int} {dg : Nat} (ha : 0 ≤ a ∧ a < 200) (hm : mC σ c) (hc : 4 ≤ c) (h69 : sg_g σ 69 a = n) (hn : 0 ≤ n ∧ n ≤ 6000) (hg : yV σ (dg + 1) (sg_g σ 70 a) n) (hmm : su (sg_g σ 78) (sg_g σ 80 (sg_g σ 70 a)) n.toNat = m) (hch : yRw σ ch m) (k1 : ∀ σ', sg_F [70, 78, 79, 80, 81, 82, 83, 85, 86, 87, 11061, 11077, 12077, 13077, 14077, 15077, 16077, 17077, 18077, 19077] σ σ' → ¬ sg_g σ' 61 10 = 0 → Q σ') (k2 : ∀ σ', sg_F [70, 78, 79, 80, 81, 82, 83, 85, 86, 87, 11061, 11077, 12077, 13077, 14077, 15077, 16077, 17077, 18077, 19077] σ σ' → mC σ' c → yEx σ σ' → (∀ i, ¬ i = a → sg_g σ' 70 i = sg_g σ 70 i) → yRw σ' (sg_g σ' 70 a) n → yLn σ' (sg_g σ' 70 a) n → su (sg_g σ' 78) (sg_g σ' 80 (sg_g σ' 70 a)) n.toNat = cnF σ ch 1 m.toNat → Q σ') : V_fShorten σ a ch Q := by
  obtain ⟨m1, m2, m3, m4, m5⟩ := id hm
  have chw := hch.1
  generalize hG : sg_g σ 70 a = G at *
  unfold V_fShorten
  rw [xa_in ha, xa_in ha, h69, hG]
  refine ⟨fun m' v σ2 => ∃ j : Nat, v = j ∧ (j : Int) ≤ n ∧ m' = n.toNat - j ∧ yC σ2 j ∧ (sg_g σ2 77 15 = 0 → sg_g σ2 77 11 = j ∧ (∀ i : Nat, i < j → 0 ≤ sg_g σ2 83 i ∧ sg_g σ2 83 i ≤ 200) ∧ su (sg_g σ2 83) 0 j = cnF σ ch 1 (su (sg_g σ 78) (sg_g σ 80 G) j).toNat), fun σ2 => yC σ2 n ∧ (sg_g σ2 77 15 = 0 → sg_g σ2 77 11 = n ∧ (∀ i : Nat, (i : Int) < n → 0 ≤ sg_g σ2 83 i ∧ sg_g σ2 83 i ≤ 200) ∧ su (sg_g σ2 83) 0 n.toNat = cnF σ ch 1 m.toNat), ⟨_, 0, rfl, by omega, rfl, yC_0 m2, fun _ => ⟨m2.1, fun i hi => by omega, rfl⟩⟩, ?_, ?_⟩
  · rintro m' v σ2 rv f2 ⟨j, rfl, hj, hm', hC, hI⟩
    refine ⟨fun z => ⟨yC_m hC (by omega), fun y => ?_⟩, fun z => ?_⟩
    · obtain ⟨t1, t2, t3⟩ := hI y
      refine ⟨by omega, fun i hi => t2 i (by omega), ?_⟩
      rw [← hmm, show n.toNat = j by omega]; exact t3
    · obtain ⟨b1, b2, b3, b4, b5, b6, b7, b8, b9, b10⟩ := y_lane m1 hg (l := j) ⟨by omega, z⟩
      rw [Int.toNat_natCast] at b3 b4
      refine ⟨b10, b9, fun n2 v33 v34 => ∃ i : Nat, v34 = v_lStart σ G j + i ∧ i ≤ v_lCell σ G j ∧ n2 = (v_lCell σ G j - i).toNat ∧ v33 = su (fun l => if v_fChosen σ ch l 1 = 0 then 0 else 1) (v_lStart σ G j) i, fun v33 => v33 = su (fun l => if v_fChosen σ ch l 1 = 0 then 0 else 1) (v_lStart σ G j) (v_lCell σ G j).toNat, ⟨_, 0, by omega, by omega, rfl, rfl⟩, ?_, ?_⟩
      · rintro n2 v33 v34 r33 r34 ⟨i, rfl, hi, hn2, hv⟩
        have s01 := su_01 (g := fun l => if v_fChosen σ ch l 1 = 0 then 0 else 1) (p := v_lStart σ G j) (i := i) (fun x => by split <;> omega)
        refine ⟨fun y => by rw [show (v_lCell σ G j).toNat = i by omega]; exact hv, fun y => ⟨ch_p (y_cell m1 hch ⟨by omega, by omega⟩).2, fun v62 e62 r62 => ?_⟩⟩
        have v01 : 0 ≤ v62 ∧ v62 ≤ 1 := by rw [e62]; split <;> omega
        refine ⟨⟨by omega, by omega⟩, ⟨by omega, by omega⟩, (v_lCell σ G j - (i + 1 : Nat)).toNat, by omega, i + 1, by omega, by omega, rfl, ?_⟩
        simp only [su]
        rw [← hv, e62]
      · rintro v33 r33 hv
        have s01 := su_01 (g := fun l => if v_fChosen σ ch l 1 = 0 then 0 else 1) (p := v_lStart σ G j) (i := (v_lCell σ G j).toNat) (fun x => by split <;> omega)
        refine y_first hC (by omega) r33 (fun σ' f' c' h' _ => ⟨⟨by omega, by omega⟩, n.toNat - (j + 1), by omega, j + 1, by omega, by omega, rfl, c', fun y => ?_⟩)
        obtain ⟨q1, q2, q3, q4, q5⟩ := h' y
        obtain ⟨t1, t2, t3⟩ := hI q1
        rw [t1] at q3 q4 q5
        refine ⟨by omega, fun i hi => ?_, ?_⟩
        · by_cases e : i = j
          · subst e; rw [q4, hv]; omega
          · rw [q5 i (by omega)]; exact t2 i (by omega)
        · have hs1 : su (sg_g σ 78) (sg_g σ 80 G) (j + 1) = v_lStart σ G j + v_lCell σ G j := by rw [← b4, b5]
          rw [hs1]
          rw [← b3] at t3
          have ap := su_app (fun l => if v_fChosen σ ch l 1 = 0 then 0 else 1) 0 (v_lStart σ G j).toNat (v_lCell σ G j).toNat
          rw [show (v_lStart σ G j).toNat + (v_lCell σ G j).toNat = (v_lStart σ G j + v_lCell σ G j).toNat by omega, show (0 : Int) + ((v_lStart σ G j).toNat : Int) = v_lStart σ G j by omega] at ap
          simp only [su]
          rw [show (0 : Int) + j = j by omega, q4, hv, su_sh (g := sg_g σ2 83) (p := 0) (fun i hi => q5 _ (by omega)), t3]
          unfold cnF
          rw [ap]
  · rintro σ2 f2 ⟨hC, hI⟩
    have ex2 : yEx σ σ2 := yEx_F f2 rfl
    have w2 : sg_g σ2 77 10 = sg_g σ 77 10 := sg_F_g f2 rfl
    have s2 : sg_g σ2 77 17 = sg_g σ 77 17 := sg_F_g f2 rfl
    refine y_seal (D := 0) (f := 1) (n := n) (yG_F m1 f2 rfl) (by omega) (by omega) (by omega) hC.2.2.2 (fun z => aA_fd (fun z2 => by have := (hI z2).1; omega) hn z) (by omega) (fun σ17 f17 y17 h17 r16 _ σ22 e22 σ25 e25 => ?_)
    rw [xp_in ha] at e22
    have f22 : sg_F [70] σ17 σ22 := by rw [e22]; exact sg_F_w (sg_F_r _ _) rfl _
    have f25 : sg_F [11061] σ22 σ25 := by rw [e25]; exact sg_F_w (sg_F_r _ _) rfl _
    have f1725 : sg_F [70, 11061] σ17 σ25 := sg_F_t (sg_F_m f22 rfl) (sg_F_m f25 rfl)
    have F : sg_F [70, 78, 79, 80, 81, 82, 83, 85, 86, 87, 11061, 11077, 12077, 13077, 14077, 15077, 16077, 17077, 18077, 19077] σ σ25 := sg_F_t (sg_F_t (sg_F_m f2 rfl) (sg_F_m f17 rfl)) (sg_F_m f1725 rfl)
    have e10 : sg_g σ25 61 10 = sg_g σ17 77 18 := by rw [e25, sg_gw_e _ _ _ _ (sg_Rg _ _ _)]
    have e70 : sg_g σ25 70 a = sg_g σ2 77 10 := by rw [sg_F_ga f25 rfl, e22, sg_gw_e _ _ _ _ r16]
    rcases h17 with ⟨z1, -⟩ | ⟨z1, z2, z3, z4, z5, z6, z7, z8, z9⟩
    · exact k1 σ25 F (by rw [e10]; exact z1)
    · have ex25 : yEx σ17 σ25 := yEx_F f1725 rfl
      have o17 : sg_g σ2 77 15 = 0 := z9.2
      obtain ⟨t1, t2, t3⟩ := hI o17
      have z9' := z9.1 (by omega)
      have e80 : sg_g σ25 80 (sg_g σ2 77 10) = sg_g σ2 77 16 := by rw [sg_F_ga f1725 rfl]; exact z8
      have c25 : ∀ i : Nat, (i : Int) < n → sg_g σ25 78 (sg_g σ2 77 16 + i) = sg_g σ2 83 i := fun i hi => by rw [sg_F_ga f1725 rfl]; exact z9' i hi
      refine k2 σ25 F ⟨yG_F z3 f1725 rfl, y0_F y17 f1725 rfl, by rw [e10]; exact z1, by rw [sg_F_g f1725 (by rfl), sg_F_g f1725 (by rfl)]; omega, by rw [sg_F_g f1725 (by rfl)]; omega⟩ (yEx_t ex2 (yEx_t z2 ex25)) (fun i hi => by rw [sg_F_ga f25 rfl, e22, sg_gw_k _ _ _ _ _ _ hi, sg_F_ga f17 rfl, sg_F_ga f2 rfl]) ?_ (fun i hi => ?_) ?_
      · rw [e70]; exact yRw_up ex25 z4
      · rw [e70, e80, c25 i hi]; exact t2 i hi
      · rw [e70, e80, ← t3]
        exact su_sh (fun i hi => by rw [c25 i (by omega), show (0 : Int) + i = i by omega])
end NRW
