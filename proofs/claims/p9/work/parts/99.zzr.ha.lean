/-! LANES of the class: values as rows of lengths, laid out. -/
def su (g : Int → Int) (p : Int) : Nat → Int
  | 0 => 0
  | i + 1 => su g p i + g (p + i)
theorem su_sh {g g' : Int → Int} {p p' : Int} : ∀ {i : Nat}, (∀ j : Nat, j < i → g' (p' + j) = g (p + j)) → su g' p' i = su g p i
  | 0, _ => rfl
  | i + 1, h => by
    simp only [su]
    rw [su_sh (i := i) (fun j x => h j (by omega)), h i (by omega)]
theorem su_app (g : Int → Int) (p : Int) (i : Nat) : ∀ j : Nat, su g p (i + j) = su g p i + su g (p + i) j
  | 0 => by simp [su]
  | j + 1 => by
    rw [← Nat.add_assoc]
    simp only [su]
    rw [su_app g p i j, show p + ((i + j : Nat) : Int) = p + i + j by omega]
    omega
theorem su_b {g : Int → Int} {p : Int} : ∀ {i : Nat}, (∀ j : Nat, j < i → 0 ≤ g (p + j) ∧ g (p + j) ≤ 200) → 0 ≤ su g p i ∧ su g p i ≤ 200 * i
  | 0, _ => by simp [su]
  | i + 1, h => by
    have a := su_b (i := i) (fun j x => h j (by omega))
    have b := h i (by omega)
    simp only [su]
    omega
/-- value v has a row of n cells -/
def yRw (σ : sg_S) (v n : Int) : Prop := (0 ≤ v ∧ v < sg_g σ 77 10) ∧ sg_g σ 81 v = n ∧ 0 ≤ n ∧ 0 ≤ sg_g σ 80 v ∧ sg_g σ 80 v + n ≤ sg_g σ 77 16
def yLn (σ : sg_S) (v n : Int) : Prop := ∀ i : Nat, (i : Int) < n → 0 ≤ sg_g σ 78 (sg_g σ 80 v + i) ∧ sg_g σ 78 (sg_g σ 80 v + i) ≤ 200
def yLo (σ : sg_S) (v n : Int) : Prop := ∀ i : Nat, (i : Int) < n → sg_g σ 79 (sg_g σ 80 v + i) = su (sg_g σ 78) (sg_g σ 80 v) i
/-- value v has depth d and n lanes -/
def yV (σ : sg_S) : Nat → Int → Int → Prop
  | 0, v, n => yRw σ v n
  | d + 1, v, n => yRw σ v n ∧ yLn σ v n ∧ yLo σ v n ∧ yV σ d (sg_g σ 82 v) (su (sg_g σ 78) (sg_g σ 80 v) n.toNat)
theorem yV_r {σ : sg_S} : ∀ {d : Nat} {v n : Int}, yV σ d v n → yRw σ v n
  | 0, _, _, h => h
  | _ + 1, _, _, h => h.1
/-- values only grow -/
def yEx (σ σ' : sg_S) : Prop := (sg_g σ 77 10 ≤ sg_g σ' 77 10 ∧ sg_g σ 77 16 ≤ sg_g σ' 77 16) ∧ (∀ v, 0 ≤ v → v < sg_g σ 77 10 → sg_g σ' 80 v = sg_g σ 80 v ∧ sg_g σ' 81 v = sg_g σ 81 v ∧ sg_g σ' 82 v = sg_g σ 82 v) ∧ (∀ x, 0 ≤ x → x < sg_g σ 77 16 → sg_g σ' 78 x = sg_g σ 78 x) ∧ ∀ v n, yRw σ v n → yLo σ v n → yLo σ' v n
theorem yRw_up {σ σ' : sg_S} (h : yEx σ σ') {v n : Int} (a : yRw σ v n) : yRw σ' v n := by
  obtain ⟨⟨h1, h2⟩, h3, h4, h5⟩ := h
  obtain ⟨a1, a2, a3, a4, a5⟩ := a
  obtain ⟨b1, b2, b3⟩ := h3 v a1.1 a1.2
  exact ⟨⟨a1.1, by omega⟩, by rw [b2]; exact a2, a3, by rw [b1]; exact a4, by rw [b1]; omega⟩
theorem ysu_up {σ σ' : sg_S} (h : yEx σ σ') {v n : Int} (a : yRw σ v n) {i : Nat} (hi : (i : Int) ≤ n) : su (sg_g σ' 78) (sg_g σ' 80 v) i = su (sg_g σ 78) (sg_g σ 80 v) i := by
  obtain ⟨a1, a2, a3, a4, a5⟩ := a
  rw [(h.2.1 v a1.1 a1.2).1]
  exact su_sh (fun j hj => h.2.2.1 _ (by omega) (by omega))
theorem yLn_up {σ σ' : sg_S} (h : yEx σ σ') {v n : Int} (a : yRw σ v n) (b : yLn σ v n) : yLn σ' v n := by
  intro i hi
  obtain ⟨a1, a2, a3, a4, a5⟩ := a
  rw [(h.2.1 v a1.1 a1.2).1, h.2.2.1 _ (by omega) (by omega)]
  exact b i hi
theorem yV_up {σ σ' : sg_S} (h : yEx σ σ') : ∀ {d : Nat} {v n : Int}, yV σ d v n → yV σ' d v n
  | 0, v, n, a => yRw_up h a
  | d + 1, v, n, a => by
    obtain ⟨a1, a2, a3, a4⟩ := a
    refine ⟨yRw_up h a1, yLn_up h a1 a2, h.2.2.2 v n a1 a3, ?_⟩
    have n0 := a1.2.2.1
    rw [ysu_up h a1 (by omega), (h.2.1 v a1.1.1 a1.1.2).2.2]
    exact yV_up h a4
theorem yEx_r (σ : sg_S) : yEx σ σ := ⟨⟨Int.le_refl _, Int.le_refl _⟩, fun _ _ _ => ⟨rfl, rfl, rfl⟩, fun _ _ _ => rfl, fun _ _ _ h => h⟩
theorem yEx_t {σ σ1 σ2 : sg_S} (h : yEx σ σ1) (g : yEx σ1 σ2) : yEx σ σ2 := by
  refine ⟨⟨Int.le_trans h.1.1 g.1.1, Int.le_trans h.1.2 g.1.2⟩, fun v a b => ?_, fun x a b => ?_, fun v n a b => g.2.2.2 v n (yRw_up h a) (h.2.2.2 v n a b)⟩
  · obtain ⟨c1, c2, c3⟩ := h.2.1 v a b
    obtain ⟨d1, d2, d3⟩ := g.2.1 v a (by have := h.1.1; omega)
    exact ⟨d1.trans c1, d2.trans c2, d3.trans c3⟩
  · exact (g.2.2.1 x a (by have := h.1.2; omega)).trans (h.2.2.1 x a b)
theorem yEx_F {L : List Nat} {σ σ' : sg_S} (f : sg_F L σ σ') (hL : (!sg_cv L 77 10 && !sg_cv L 77 16 && sg_ca L 78 && sg_ca L 79 && sg_ca L 80 && sg_ca L 81 && sg_ca L 82) = true) : yEx σ σ' := by
  simp only [Bool.and_eq_true, Bool.not_eq_true'] at hL
  obtain ⟨⟨⟨⟨⟨⟨l1, l2⟩, l3⟩, l4⟩, l5⟩, l6⟩, l7⟩ := hL
  refine ⟨⟨by rw [sg_F_g f l1]; exact Int.le_refl _, by rw [sg_F_g f l2]; exact Int.le_refl _⟩, fun v _ _ => ⟨sg_F_ga f l5, sg_F_ga f l6, sg_F_ga f l7⟩, fun x _ _ => sg_F_ga f l3, fun v n a b i hi => ?_⟩
  rw [sg_F_ga f l5, sg_F_ga f l4, b i hi]
  exact (su_sh (fun j hj => sg_F_ga f l3)).symm
/-- all rows lie apart, or are the same -/
def yG (σ : sg_S) : Prop := (0 ≤ sg_g σ 77 10 ∧ sg_g σ 77 10 ≤ 8000) ∧ (0 ≤ sg_g σ 77 16 ∧ sg_g σ 77 16 ≤ 6000) ∧ (∀ v, 0 ≤ v → v < sg_g σ 77 10 → 0 ≤ sg_g σ 81 v ∧ 0 ≤ sg_g σ 80 v ∧ sg_g σ 80 v + sg_g σ 81 v ≤ sg_g σ 77 16) ∧ ∀ v v', 0 ≤ v → v < sg_g σ 77 10 → 0 ≤ v' → v' < sg_g σ 77 10 → (sg_g σ 80 v = sg_g σ 80 v' ∧ sg_g σ 81 v = sg_g σ 81 v') ∨ sg_g σ 80 v + sg_g σ 81 v ≤ sg_g σ 80 v' ∨ sg_g σ 80 v' + sg_g σ 81 v' ≤ sg_g σ 80 v
theorem yG_F {L : List Nat} {σ σ' : sg_S} (h : yG σ) (f : sg_F L σ σ') (hL : (!sg_cv L 77 10 && !sg_cv L 77 16 && sg_ca L 80 && sg_ca L 81) = true) : yG σ' := by
  simp only [Bool.and_eq_true, Bool.not_eq_true'] at hL
  obtain ⟨⟨⟨l1, l2⟩, l5⟩, l6⟩ := hL
  have e0 : ∀ v, sg_g σ' 80 v = sg_g σ 80 v := fun v => sg_F_ga f l5
  have e1 : ∀ v, sg_g σ' 81 v = sg_g σ 81 v := fun v => sg_F_ga f l6
  unfold yG
  simp only [e0, e1]
  rw [sg_F_g f l1, sg_F_g f l2]
  exact h
theorem y_cell {σ : sg_S} (g : yG σ) {v n l : Int} (h : yRw σ v n) (hl : 0 ≤ l ∧ l < n) : v_lCell σ v l = sg_g σ 78 (sg_g σ 80 v + l) ∧ p_lCell σ v l := by
  obtain ⟨⟨g1, g2⟩, ⟨g3, g4⟩, -⟩ := g
  obtain ⟨a1, a2, a3, a4, a5⟩ := h
  refine ⟨?_, ?_⟩
  · unfold v_lCell
    rw [if_neg (by omega), if_pos (by omega), if_neg (by omega), if_neg (by omega)]
  · unfold p_lCell
    refine ⟨fun _ => trivial, fun _ => ⟨fun _ => ⟨⟨by omega, by omega⟩, ⟨by omega, by omega⟩, fun _ => trivial, fun _ => ⟨fun _ => trivial, fun _ => ⟨⟨by omega, by omega⟩, trivial⟩⟩⟩, fun _ => trivial⟩⟩
theorem y_start {σ : sg_S} (g : yG σ) {v n l : Int} (h : yRw σ v n) (hl : 0 ≤ l ∧ l < n) : v_lStart σ v l = sg_g σ 79 (sg_g σ 80 v + l) ∧ p_lStart σ v l := by
  obtain ⟨⟨g1, g2⟩, ⟨g3, g4⟩, -⟩ := g
  obtain ⟨a1, a2, a3, a4, a5⟩ := h
  refine ⟨?_, ?_⟩
  · unfold v_lStart
    rw [if_neg (by omega), if_pos (by omega), if_neg (by omega), if_neg (by omega)]
  · unfold p_lStart
    refine ⟨fun _ => trivial, fun _ => ⟨fun _ => ⟨⟨by omega, by omega⟩, ⟨by omega, by omega⟩, fun _ => trivial, fun _ => ⟨fun _ => trivial, fun _ => ⟨⟨by omega, by omega⟩, trivial⟩⟩⟩, fun _ => trivial⟩⟩
theorem y_items {σ : sg_S} (g : yG σ) {v n : Int} (h : yRw σ v n) : v_lItems σ v = sg_g σ 82 v := by
  have g2 := g.1.2
  have a1 := h.1
  unfold v_lItems
  rw [if_neg (by omega), if_neg (by omega)]
theorem y_pitems (σ : sg_S) (v : Int) : p_lItems σ v := by
  unfold p_lItems
  exact ⟨fun _ => trivial, fun a => ⟨fun _ => trivial, fun b => ⟨⟨a, b⟩, trivial⟩⟩⟩
theorem y_cellN {σ : sg_S} {v l : Int} (h : v < 0) : v_lCell σ v l = 0 ∧ p_lCell σ v l ∧ v_lStart σ v l = 0 ∧ p_lStart σ v l ∧ v_lItems σ v = -1 := by
  refine ⟨?_, ⟨fun _ => trivial, fun a => by omega⟩, ?_, ⟨fun _ => trivial, fun a => by omega⟩, ?_⟩
  · unfold v_lCell; rw [if_pos h]
  · unfold v_lStart; rw [if_pos h]
  · unfold v_lItems; rw [if_pos h]
/-- what a lane of a sequence has -/
theorem y_lane {σ : sg_S} (g : yG σ) {d : Nat} {v n l : Int} (h : yV σ (d + 1) v n) (hl : 0 ≤ l ∧ l < n) : (0 ≤ v_lCell σ v l ∧ v_lCell σ v l ≤ 200) ∧ 0 ≤ v_lStart σ v l ∧ v_lStart σ v l = su (sg_g σ 78) (sg_g σ 80 v) l.toNat ∧ v_lEnd σ v l = su (sg_g σ 78) (sg_g σ 80 v) (l.toNat + 1) ∧ v_lEnd σ v l = v_lStart σ v l + v_lCell σ v l ∧ v_lEnd σ v l ≤ su (sg_g σ 78) (sg_g σ 80 v) n.toNat ∧ su (sg_g σ 78) (sg_g σ 80 v) n.toNat ≤ 6000 ∧ p_lCell σ v l ∧ p_lStart σ v l ∧ p_lEnd σ v l := by
  obtain ⟨a1, a2, a3, a4⟩ := h
  obtain ⟨c1, c2⟩ := y_cell g a1 hl
  obtain ⟨s1, s2⟩ := y_start g a1 hl
  have e : l = (l.toNat : Int) := by omega
  have q := a2 l.toNat (by omega)
  have o := a3 l.toNat (by omega)
  rw [← e] at q o
  have b1 := su_b (g := sg_g σ 78) (p := sg_g σ 80 v) (i := l.toNat) (fun j hj => a2 j (by omega))
  have hs : su (sg_g σ 78) (sg_g σ 80 v) (l.toNat + 1) = su (sg_g σ 78) (sg_g σ 80 v) l.toNat + sg_g σ 78 (sg_g σ 80 v + l) := by simp only [su]; rw [← e]
  have ap := su_app (sg_g σ 78) (sg_g σ 80 v) (l.toNat + 1) (n.toNat - (l.toNat + 1))
  rw [show l.toNat + 1 + (n.toNat - (l.toNat + 1)) = n.toNat by omega] at ap
  have b2 := su_b (g := sg_g σ 78) (p := sg_g σ 80 v + ((l.toNat + 1 : Nat) : Int)) (i := n.toNat - (l.toNat + 1)) (fun j hj => by
    have := a2 (l.toNat + 1 + j) (by omega)
    rw [show sg_g σ 80 v + ((l.toNat + 1 + j : Nat) : Int) = sg_g σ 80 v + ((l.toNat + 1 : Nat) : Int) + j by omega] at this
    exact this)
  have r4 := (yV_r a4).2.2
  have u6 := g.2.1.2
  have hend : v_lEnd σ v l = v_lStart σ v l + v_lCell σ v l := rfl
  refine ⟨by rw [c1]; exact q, by rw [s1, o]; exact b1.1, by rw [s1, o], by rw [hend, s1, c1, o, hs], hend, by rw [hend, s1, c1, o]; omega, by omega, c2, s2, s2, c2, ?_, trivial⟩
  show sg_R (v_lStart σ v l + v_lCell σ v l)
  rw [s1, c1, o]
  exact ⟨by omega, by omega⟩
