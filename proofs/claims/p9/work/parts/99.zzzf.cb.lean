/-! store, copy, copyPicks of the class, exactly. -/
/-- xs is stored; or there is no room for it -/
def stX (σ σ' : sg_S) (xs : List Int) : Prop := (sg_g σ 77 16 ≤ sg_g σ' 77 16 ∧ sg_g σ' 77 16 ≤ 6000 ∧ sg_g σ' 77 16 ≤ sg_g σ 77 16 + xs.length) ∧ (∀ q, q < sg_g σ 77 16 → sg_g σ' 78 q = sg_g σ 78 q) ∧ (sg_g σ' 77 15 = if sg_g σ 77 16 + xs.length ≤ 6000 then 0 else 1) ∧ (sg_g σ 77 16 + xs.length ≤ 6000 → sg_g σ' 77 16 = sg_g σ 77 16 + xs.length) ∧ ∀ (i : Nat) (x : Int), xs[i]? = some x → sg_g σ 77 16 + i < sg_g σ' 77 16 → sg_g σ' 78 (sg_g σ 77 16 + i) = x
theorem stX_0 {σ : sg_S} (hu : sg_g σ 77 16 ≤ 6000) (ho : sg_g σ 77 15 = 0) : stX σ σ [] := by
  refine ⟨⟨Int.le_refl _, hu, by simp⟩, fun _ _ => rfl, ?_, fun _ => by simp, fun i x hx => by simp at hx⟩
  rw [if_pos (by simp; exact hu)]; exact ho
theorem stX_t {σ σ1 σ2 : sg_S} {xs ys : List Int} (a : stX σ σ1 xs) (h0 : sg_g σ1 77 15 = 0) (b : stX σ1 σ2 ys) : stX σ σ2 (xs ++ ys) := by
  obtain ⟨a1, a2, a3, a4, a6⟩ := a
  obtain ⟨b1, b2, b3, b4, b6⟩ := b
  have fit : sg_g σ 77 16 + xs.length ≤ 6000 := by
    refine Decidable.byContradiction (fun c => ?_)
    rw [if_neg c] at a3
    omega
  have a5 := a4 fit
  rw [a5] at b3 b4 b2 b1 b6
  refine ⟨⟨by omega, b1.2.1, by rw [List.length_append]; omega⟩, fun q hq => by rw [b2 q (by omega), a2 q hq], ?_, fun c => ?_, fun i x hx hi => ?_⟩
  · rw [b3, List.length_append]
    by_cases c : sg_g σ 77 16 + xs.length + ys.length ≤ 6000
    · rw [if_pos c, if_pos (by omega)]
    · rw [if_neg c, if_neg (by omega)]
  · rw [List.length_append] at c ⊢
    have b5 := b4 (by omega)
    rw [b5]; omega
  · rcases Nat.lt_or_ge i xs.length with q | q
    · rw [List.getElem?_append_left q] at hx
      rw [b2 _ (by omega)]
      exact a6 i x hx (by omega)
    · rw [List.getElem?_append_right q] at hx
      have := b6 (i - xs.length) x hx (by omega)
      rw [show sg_g σ 77 16 + (xs.length : Int) + ((i - xs.length : Nat) : Int) = sg_g σ 77 16 + i by omega] at this
      exact this
/-- once there is no room, there is none for more -/
theorem stX_o {σ σ1 : sg_S} {xs : List Int} (a : stX σ σ1 xs) (h1 : ¬ sg_g σ1 77 15 = 0) (ys : List Int) : stX σ σ1 (xs ++ ys) := by
  obtain ⟨a1, a2, a3, a4, a5⟩ := a
  have nf : ¬ sg_g σ 77 16 + xs.length ≤ 6000 := fun c => by rw [if_pos c] at a3; exact h1 a3
  have nf2 : ¬ sg_g σ 77 16 + ((xs ++ ys).length : Int) ≤ 6000 := by rw [List.length_append]; omega
  refine ⟨⟨a1.1, a1.2.1, by rw [List.length_append]; omega⟩, a2, ?_, fun c => absurd c nf2, fun i x hx hi => ?_⟩
  · rw [if_neg nf2, a3, if_neg nf]
  · rw [List.getElem?_append_left (by omega)] at hx
    exact a5 i x hx hi
theorem stX_F {L : List Nat} {σ σ1 σ2 : sg_S} {xs : List Int} (a : stX σ σ1 xs) (f : sg_F L σ1 σ2) (hL : (!sg_cv L 77 15 && !sg_cv L 77 16 && sg_ca L 78) = true) : stX σ σ2 xs := by
  simp only [Bool.and_eq_true, Bool.not_eq_true'] at hL
  obtain ⟨⟨l1, l2⟩, l3⟩ := hL
  obtain ⟨a1, a2, a3, a4, a5⟩ := a
  exact ⟨by rw [sg_F_g f l2]; exact a1, fun q hq => by rw [sg_F_ga f l3]; exact a2 q hq, by rw [sg_F_g f l1]; exact a3, fun c => by rw [sg_F_g f l2]; exact a4 c, fun i x hx hi => by rw [sg_F_g f l2] at hi; rw [sg_F_ga f l3]; exact a5 i x hx hi⟩
theorem stX_ex {L : List Nat} {σ σ1 : sg_S} {xs : List Int} (a : stX σ σ1 xs) (f : sg_F L σ σ1) (hL : (!sg_cv L 77 10 && sg_ca L 79 && sg_ca L 80 && sg_ca L 81 && sg_ca L 82) = true) : yEx σ σ1 := by
  simp only [Bool.and_eq_true, Bool.not_eq_true'] at hL
  obtain ⟨⟨⟨⟨l1, l4⟩, l5⟩, l6⟩, l7⟩ := hL
  refine ⟨⟨by rw [sg_F_g f l1]; exact Int.le_refl _, a.1.1⟩, fun v _ _ => ⟨sg_F_ga f l5, sg_F_ga f l6, sg_F_ga f l7⟩, fun x _ hx => a.2.1 x hx, fun v n w b i hi => ?_⟩
  rw [sg_F_ga f l5, sg_F_ga f l4, b i hi]
  have w5 := w.2.2.2.2
  exact (su_sh (fun j hj => a.2.1 _ (by omega))).symm
theorem stX_g {L : List Nat} {σ σ1 : sg_S} {xs : List Int} (g : yG σ) (a : stX σ σ1 xs) (f : sg_F L σ σ1) (hL : (!sg_cv L 77 10 && sg_ca L 80 && sg_ca L 81) = true) : yG σ1 := by
  simp only [Bool.and_eq_true, Bool.not_eq_true'] at hL
  obtain ⟨⟨l1, l5⟩, l6⟩ := hL
  have g2 := g.2.1
  have a1 := a.1
  refine ⟨by rw [sg_F_g f l1]; exact g.1, ⟨by omega, a.1.2.1⟩, fun v x y => ?_, fun v v' x y x' y' => ?_⟩
  · rw [sg_F_g f l1] at y
    have := g.2.2.1 v x y
    rw [sg_F_ga f l5, sg_F_ga f l6]; omega
  · rw [sg_F_g f l1] at y y'
    rw [sg_F_ga (a := 80) f l5, sg_F_ga (a := 81) f l6, sg_F_ga (a := 80) f l5, sg_F_ga (a := 81) f l6]
    exact g.2.2.2 v v' x y x' y'
section CBS
variable {σ : sg_S} {Q : sg_S → Prop}
theorem x_store {x : Int} (hu : 0 ≤ sg_g σ 77 16 ∧ sg_g σ 77 16 ≤ 6000) (ho : sg_g σ 77 15 = 0) (hx : sg_R x) (k : ∀ σ', sg_F [78, 16077, 17077] σ σ' → stX σ σ' [x] → Q σ') : V_lStore σ x Q := by
  unfold V_lStore
  refine ⟨fun z => by omega, fun _ => ⟨fun z σ6 e6 => ?_, fun z => ⟨⟨by omega, by omega⟩, fun σ10 e10 => ⟨⟨by omega, by omega⟩, fun σ14 e14 => ?_⟩⟩⟩⟩
  · have f : sg_F [78, 16077, 17077] σ σ6 := by rw [e6]; exact sg_F_w (sg_F_r _ _) rfl _
    have g16 : sg_g σ6 77 16 = sg_g σ 77 16 := by rw [e6, sg_gw_k _ _ _ _ _ _ (by decide)]
    refine k σ6 f ⟨⟨by omega, by omega, by simp; omega⟩, fun q _ => by rw [e6, sg_gw_c _ _ _ _ _ _ (by decide)], ?_, fun c => ?_, fun i y hy hi => by omega⟩
    · rw [if_neg (by simp; omega), e6, sg_gw_e _ _ _ _ (by decide)]
    · simp at c; omega
  · have f : sg_F [78, 16077, 17077] σ σ14 := by rw [e14, e10]; exact sg_F_w (sg_F_w (sg_F_r _ _) rfl _) rfl _
    have g16 : sg_g σ14 77 16 = sg_g σ 77 16 + 1 := by rw [e14, sg_gw_e _ _ _ _ ⟨by omega, by omega⟩]
    refine k σ14 f ⟨⟨by omega, by omega, by simp; omega⟩, fun q hq => by rw [e14, sg_gw_c _ _ _ _ _ _ (by decide), e10, sg_gw_k _ _ _ _ _ _ (by omega)], ?_, fun c => by rw [g16]; rfl, fun i y hy _ => ?_⟩
    · rw [if_pos (by simp; omega), e14, sg_gw_k _ _ _ _ _ _ (by decide), e10, sg_gw_c _ _ _ _ _ _ (by decide)]; exact ho
    · have hi := gE_l hy
      simp only [List.length_cons, List.length_nil] at hi
      have ei : i = 0 := by omega
      subst ei
      cases hy
      rw [e14, sg_gw_c _ _ _ _ _ _ (by decide), e10, show sg_g σ 77 16 + ((0 : Nat) : Int) = sg_g σ 77 16 by omega, sg_gw_e _ _ _ _ hx]
theorem tkA {α : Type} {F : List α} {j : Nat} {x : α} (h : F[j]? = some x) : F.take (j + 1) = F.take j ++ [x] := by
  rw [List.take_add_one, h]; rfl
theorem x_copy83 {a : Int} {F : List Int} (hu : 0 ≤ sg_g σ 77 16 ∧ sg_g σ 77 16 ≤ 6000) (ho : sg_g σ 77 15 = 0) (ha : a = F.length) (h6 : F.length ≤ 6000) (hF : ∀ (i : Nat) (x : Int), F[i]? = some x → sg_g σ 83 i = x) (k : ∀ σ', sg_F [78, 16077, 17077] σ σ' → stX σ σ' F → Q σ') : V_lCopy83 σ a Q := by
  unfold V_lCopy83
  rw [ha]
  refine ⟨fun m v σ2 => ∃ j : Nat, v = j ∧ j ≤ F.length ∧ m = F.length - j ∧ stX σ σ2 (F.take j), fun σ2 => stX σ σ2 F, ⟨_, 0, rfl, Nat.zero_le _, rfl, by rw [List.take_zero]; exact stX_0 hu.2 ho⟩, ?_, fun σ2 f2 h2 => k σ2 f2 h2⟩
  rintro m v σ2 rv f2 ⟨j, rfl, hj, hm, hs⟩
  refine ⟨fun z => by rw [List.take_of_length_le (by omega)] at hs; exact hs, fun z => ⟨fun y => ?_, fun y => ?_⟩⟩
  · have := stX_o hs y (F.drop j)
    rwa [List.take_append_drop] at this
  · obtain ⟨x, hx⟩ : ∃ x, F[j]? = some x := ⟨_, List.getElem?_eq_getElem (by omega)⟩
    rw [xa_in ⟨by omega, by omega⟩, hF j x hx]
    refine x_store ⟨by have := hs.1; omega, hs.1.2.1⟩ y (by rw [← hF j x hx]; exact sg_Rg _ _ _) (fun σ' f' s' _ => ⟨⟨by omega, by omega⟩, F.length - (j + 1), by omega, j + 1, by omega, by omega, rfl, by rw [tkA hx]; exact stX_t hs y s'⟩)
theorem x_copy84 {a : Int} {F : List Int} (hu : 0 ≤ sg_g σ 77 16 ∧ sg_g σ 77 16 ≤ 6000) (ho : sg_g σ 77 15 = 0) (ha : a = F.length) (h6 : F.length ≤ 6000) (hF : ∀ (i : Nat) (x : Int), F[i]? = some x → sg_g σ 84 i = x) (k : ∀ σ', sg_F [78, 16077, 17077] σ σ' → stX σ σ' F → Q σ') : V_lCopy84 σ a Q := by
  unfold V_lCopy84
  rw [ha]
  refine ⟨fun m v σ2 => ∃ j : Nat, v = j ∧ j ≤ F.length ∧ m = F.length - j ∧ stX σ σ2 (F.take j), fun σ2 => stX σ σ2 F, ⟨_, 0, rfl, Nat.zero_le _, rfl, by rw [List.take_zero]; exact stX_0 hu.2 ho⟩, ?_, fun σ2 f2 h2 => k σ2 f2 h2⟩
  rintro m v σ2 rv f2 ⟨j, rfl, hj, hm, hs⟩
  refine ⟨fun z => by rw [List.take_of_length_le (by omega)] at hs; exact hs, fun z => ⟨fun y => ?_, fun y => ?_⟩⟩
  · have := stX_o hs y (F.drop j)
    rwa [List.take_append_drop] at this
  · obtain ⟨x, hx⟩ : ∃ x, F[j]? = some x := ⟨_, List.getElem?_eq_getElem (by omega)⟩
    rw [xa_in ⟨by omega, by omega⟩, hF j x hx]
    refine x_store ⟨by have := hs.1; omega, hs.1.2.1⟩ y (by rw [← hF j x hx]; exact sg_Rg _ _ _) (fun σ' f' s' _ => ⟨⟨by omega, by omega⟩, F.length - (j + 1), by omega, j + 1, by omega, by omega, rfl, by rw [tkA hx]; exact stX_t hs y s'⟩)
end CBS
/-- lanes lo .. hi of value v, of depth d: q; of -1: a lane at fault -/
def pkX (σ : sg_S) (d : Nat) (v lo hi : Int) (q : List vaF) : Prop := (v = -1 ∧ lo = 0 ∧ ((hi = 1 ∧ q = [nmF 0]) ∨ (hi = 0 ∧ q = []))) ∨ ∃ l, yX σ d v l ∧ 0 ≤ lo ∧ lo ≤ hi ∧ hi ≤ l.length ∧ q = (l.drop lo.toNat).take (hi - lo).toNat
theorem pkX_up {σ σ' : sg_S} (x : yEx σ σ') {d : Nat} {v lo hi : Int} {q : List vaF} (h : pkX σ d v lo hi q) : pkX σ' d v lo hi q := by
  rcases h with h | ⟨l, h1, h2⟩
  · exact Or.inl h
  · exact Or.inr ⟨l, yX_up x h1, h2⟩
theorem pkX_l {σ : sg_S} {d : Nat} {v lo hi : Int} {q : List vaF} (h : pkX σ d v lo hi q) : 0 ≤ lo ∧ lo ≤ hi ∧ (q.length : Int) = hi - lo := by
  rcases h with ⟨-, e1, ⟨e2, e3⟩ | ⟨e2, e3⟩⟩ | ⟨l, h1, h2, h3, h4, e⟩
  · rw [e1, e2, e3]; exact ⟨by decide, by decide, rfl⟩
  · rw [e1, e2, e3]; exact ⟨by decide, by decide, rfl⟩
  · rw [e, List.length_take, List.length_drop]
    exact ⟨h2, h3, by omega⟩
theorem pkX_g {σ : sg_S} {d : Nat} {v lo hi : Int} {q : List vaF} (h : pkX σ d v lo hi q) : pkg σ d v lo hi := by
  have b := pkX_l h
  refine ⟨⟨b.1, b.2.1⟩, ?_⟩
  rcases h with ⟨e0, e1, ⟨e2, e3⟩ | ⟨e2, e3⟩⟩ | ⟨l, h1, h2, h3, h4, e⟩
  · exact Or.inl ⟨e0, by omega⟩
  · exact Or.inl ⟨e0, by omega⟩
  · exact Or.inr ⟨l.length, yX_V h1, h4⟩
theorem pkX_c {σ : sg_S} (g : yG σ) {d : Nat} {v lo hi : Int} {q : List vaF} (h : pkX σ d v lo hi q) {i : Nat} (hi' : i < q.length) : v_lCell σ v (lo + i) = (q.getD i (nmF 0)) [] := by
  have b := pkX_l h
  rcases h with ⟨e0, e1, ⟨e2, e3⟩ | ⟨e2, e3⟩⟩ | ⟨l, h1, h2, h3, h4, e⟩
  · rw [(y_cellN (σ := σ) (v := v) (l := lo + i) (by omega)).1, e3]
    rw [e3] at hi'
    simp only [List.length_cons, List.length_nil] at hi'
    rw [show i = 0 by omega]; rfl
  · rw [e3] at hi'; simp at hi'
  · have hl : lo.toNat + i < l.length := by omega
    have c := (yX_cell g h1 hl).1
    rw [show (((lo.toNat + i : Nat)) : Int) = lo + i by omega] at c
    rw [c, e, List.getD_eq_getElem?_getD, List.getD_eq_getElem?_getD, List.getElem?_take_of_lt (by omega), List.getElem?_drop]
theorem flF_dt {l : List vaF} {a k : Nat} (h : a + k ≤ l.length) : flF ((l.drop a).take k) = ((flF l).drop (ahF l a)).take (ahF l (a + k) - ahF l a) := by
  have e1 : l = l.take a ++ ((l.drop a).take k ++ (l.drop a).drop k) := by rw [List.take_append_drop, List.take_append_drop]
  have e2 : flF l = flF (l.take a) ++ (flF ((l.drop a).take k) ++ flF ((l.drop a).drop k)) := by
    have := congrArg flF e1
    rw [flF_a, flF_a] at this
    exact this
  have e3 : l.take (a + k) = l.take a ++ (l.drop a).take k := by rw [List.take_add]
  have e4 : ahF l (a + k) = ahF l a + (flF ((l.drop a).take k)).length := by
    unfold ahF
    rw [e3, flF_a, List.length_append]
  rw [e4, Nat.add_sub_cancel_left, e2]
  have e5 : ahF l a = (flF (l.take a)).length := rfl
  rw [e5, List.drop_left, List.take_left]
theorem pkX_n {σ : sg_S} (g : yG σ) {d : Nat} {v lo hi : Int} {q : List vaF} (h : pkX σ (d + 1) v lo hi q) {lo' hi' : Int} (e1 : lo' = if hi ≤ lo then 0 else v_lStart σ v lo) (e2 : hi' = if hi ≤ lo then 0 else v_lStart σ v (hi - 1) + v_lCell σ v (hi - 1)) : pkX σ d (v_lItems σ v) lo' hi' (flF q) := by
  have b := pkX_l h
  rcases h with ⟨e0, f1, ⟨f2, f3⟩ | ⟨f2, f3⟩⟩ | ⟨l, h1, h2, h3, h4, e⟩
  · rw [if_neg (by omega)] at e1 e2
    obtain ⟨c1, c2, c3, c4, c5⟩ := y_cellN (σ := σ) (v := v) (l := lo) (by omega)
    obtain ⟨d1, d2, d3, d4, d5⟩ := y_cellN (σ := σ) (v := v) (l := hi - 1) (by omega)
    rw [c3] at e1
    rw [d3, d1] at e2
    left
    refine ⟨c5, e1, Or.inr ⟨e2, ?_⟩⟩
    rw [f3, flF_1]
    simp [itF, nmF]
  · rw [if_pos (by omega)] at e1 e2
    left
    exact ⟨(y_cellN (σ := σ) (v := v) (l := lo) (by omega)).2.2.2.2, e1, Or.inr ⟨e2, by rw [f3]; rfl⟩⟩
  · right
    have r := h1.1
    have nx := h1.2.2.2
    rw [← y_items g r] at nx
    by_cases c : hi ≤ lo
    · rw [if_pos c] at e1 e2
      refine ⟨flF l, nx, by omega, by omega, by omega, ?_⟩
      rw [e, e1, e2, show (hi - lo).toNat = 0 by omega]
      simp [flF]
    · rw [if_neg c] at e1 e2
      have s1 := (yX_st g h1 (i := lo.toNat) (by omega)).1
      have s2 := (yX_st g h1 (i := (hi - 1).toNat) (by omega)).2.2
      have s3 : v_lEnd σ v ((hi - 1).toNat : Int) = v_lStart σ v ((hi - 1).toNat : Int) + v_lCell σ v ((hi - 1).toNat : Int) := rfl
      rw [s3, show (((hi - 1).toNat : Nat) : Int) = hi - 1 by omega] at s2
      rw [show ((lo.toNat : Nat) : Int) = lo by omega] at s1
      rw [show (hi - 1).toNat + 1 = hi.toNat by omega] at s2
      rw [s1] at e1
      rw [s2] at e2
      have hd := flF_dt (l := l) (a := lo.toNat) (k := (hi - lo).toNat) (by omega)
      rw [show lo.toNat + (hi - lo).toNat = hi.toNat by omega] at hd
      have mono : ahF l lo.toNat ≤ ahF l hi.toNat := by
        have e3 : l.take hi.toNat = l.take lo.toNat ++ (l.drop lo.toNat).take (hi.toNat - lo.toNat) := by
          rw [← List.take_add]
          congr 1
          omega
        unfold ahF
        rw [e3, flF_a, List.length_append]
        omega
      have top : ahF l hi.toNat ≤ (flF l).length := by
        have := flF_a (l.take hi.toNat) (l.drop hi.toNat)
        rw [List.take_append_drop] at this
        rw [this, List.length_append]
        unfold ahF
        omega
      refine ⟨flF l, nx, by omega, by omega, by omega, ?_⟩
      rw [e, hd, e1, e2]
      congr 1
      · omega
