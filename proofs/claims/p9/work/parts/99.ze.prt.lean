/-! lookThrough of the reference comes to kGo. -/
def okT (L : List Nat) : Bool := !sg_cv L 88 8 && sg_ca L 93 && sg_ca L 94 && sg_ca L 95 && sg_ca L 96 && sg_ca L 97 && sg_ca L 98 && sg_ca L 99 && sg_ca L 100
def okD (L : List Nat) : Bool := sg_ca L 103 && sg_ca L 105 && sg_ca L 106 && sg_ca L 109
theorem trT_F {L : List Nat} {σ σ' : sg_S} {A : aT} (h : trT σ A) (f : sg_F L σ σ') (hL : okT L = true) : trT σ' A := by
  unfold okT at hL
  simp only [Bool.and_eq_true, Bool.not_eq_true'] at hL
  obtain ⟨⟨⟨⟨⟨⟨⟨⟨l1, l2⟩, l3⟩, l4⟩, l5⟩, l6⟩, l7⟩, l8⟩, l9⟩ := hL
  unfold trT at h ⊢
  rw [sg_F_g f l1, show sg_g σ' 93 = sg_g σ 93 from funext fun _ => sg_F_ga f l2, show sg_g σ' 94 = sg_g σ 94 from funext fun _ => sg_F_ga f l3, show sg_gl σ' 95 = sg_gl σ 95 from funext fun _ => sg_F_gal f l4, show sg_g σ' 96 = sg_g σ 96 from funext fun _ => sg_F_ga f l5, show sg_g σ' 97 = sg_g σ 97 from funext fun _ => sg_F_ga f l6, show sg_g σ' 98 = sg_g σ 98 from funext fun _ => sg_F_ga f l7, show sg_gl σ' 99 = sg_gl σ 99 from funext fun _ => sg_F_gal f l8, show sg_g σ' 100 = sg_g σ 100 from funext fun _ => sg_F_ga f l9]
  exact h
theorem dsR_F {L : List Nat} {σ σ' : sg_S} {n : Int} {ds : kD} (h : dsR σ n ds) (f : sg_F L σ σ') (hL : okD L = true) : dsR σ' n ds := by
  unfold okD at hL
  simp only [Bool.and_eq_true] at hL
  obtain ⟨⟨⟨l1, l2⟩, l3⟩, l4⟩ := hL
  exact dsR_e (fun _ => sg_F_gal f l1) (fun _ => sg_F_ga f l3) (fun _ => sg_F_ga f l4) (fun _ => sg_F_ga f l2) h
theorem pst_d {g h : Int → Int} : ∀ (k : Nat) {n : Int} {l : List (Int × Int)}, pst g h n l → k ≤ l.length → pst g h (n - k) (l.drop k)
  | 0, n, l, q, _ => by simpa using q
  | k + 1, n, [], q, hk => by simp at hk
  | k + 1, n, x :: r, q, hk => by
    have := pst_d k q.2.2.2 (by simpa using hk)
    rw [show n - ((k + 1 : Nat) : Int) = n - 1 - k by omega]
    exact this
/-- the part of n at stage s -/
theorem q_part {σ : sg_S} {A : aT} {n : Int} {s : Nat} (h : trT σ A) (hn : 0 ≤ n ∧ n < A.1) (hw : nW A n) (hs : s ≤ (kOrd A n).length) : p_partOf σ n s ∧ ((∃ x, (kOrd A n)[s]? = some x ∧ (0 ≤ v_partOf σ n s ∧ v_partOf σ n s < 200) ∧ sg_g σ 97 (200 * n + v_partOf σ n s) = x) ∨ (s = (kOrd A n).length ∧ v_partOf σ n s < 0)) := by
  have h200 := h.1.2.2.1
  obtain ⟨a1, a2, a3, a4, a5, a6, a7, a8, a9⟩ := h.1.2.2.2 n hn.1 hn.2
  obtain ⟨n1, n2, n3, n4, n5, n6, n7, n8⟩ := hw
  have hn2 : 0 ≤ n ∧ n < 210 := by omega
  unfold p_partOf v_partOf p_hasTest v_hasTest
  rw [a1, a4, a7]
  by_cases c : A.2.1 n = 15
  · have n7 := n7 c
    obtain ⟨bd, tl, hk2⟩ : ∃ bd tl, A.2.2.2.2.1 n = bd :: tl := by
      match hh : A.2.2.2.2.1 n with
      | bd :: tl => exact ⟨bd, tl, rfl⟩
      | [] => rw [hh] at n7; simp only [List.length_nil] at n7; omega
    have ho : kOrd A n = tl ++ [bd] := by unfold kOrd; rw [if_pos c, hk2]; rfl
    rw [ho] at hs ⊢
    rw [hk2] at n7 a6 a5 ⊢
    simp only [List.length_cons, List.length_append, List.length_nil] at n7 hs a5 ⊢
    generalize (A.2.2.2.2.2 n).length = g at *
    refine ⟨⟨hn2, fun _ => ⟨fun _ => ⟨⟨hn2, ⟨by omega, by omega⟩, fun _ => trivial, fun _ => trivial⟩, fun _ => ⟨fun _ => trivial, fun _ => trivial⟩, fun _ => ⟨fun _ => ⟨⟨by omega, by omega⟩, fun _ => trivial, fun _ => trivial⟩, fun _ => ⟨⟨by omega, by omega⟩, trivial⟩⟩⟩, fun _ => ⟨⟨by omega, by omega⟩, trivial⟩⟩, fun x => absurd c x⟩, ?_⟩
    rw [if_pos c]
    have tlx : ∀ j : Nat, j < tl.length → ∃ x, (tl ++ [bd])[j]? = some x ∧ sg_g σ 97 (200 * n + (1 + (j : Int))) = x := fun j hj => by
      refine ⟨tl[j], ?_, ?_⟩
      · rw [List.getElem?_append_left hj, List.getElem?_eq_getElem hj]
      · have := a6 (j + 1) tl[j] (by rw [List.getElem?_cons_succ, List.getElem?_eq_getElem hj])
        rw [show 1 + (j : Int) = ((j + 1 : Nat) : Int) by omega]; exact this
    have bdx : (tl ++ [bd])[tl.length]? = some bd ∧ sg_g σ 97 (200 * n + 0) = bd := ⟨by simp, by simpa using a6 0 bd rfl⟩
    by_cases c1 : (g : Int) ≤ (s : Int)
    · rw [if_pos c1]
      by_cases c2 : ((tl.length + 1 : Nat) : Int) = 2 + (g : Int)
      · have e1 : ¬ (if ¬ ((tl.length + 1 : Nat) : Int) = 2 + (g : Int) then (0 : Int) else 1) = 0 := by rw [if_neg (fun x => x c2)]; decide
        rw [if_neg e1]
        by_cases c3 : (s : Int) = (g : Int)
        · rw [if_neg (fun x => x c3)]
          left
          obtain ⟨x, x1, x2⟩ := tlx s (by omega)
          refine ⟨x, x1, ⟨by omega, by omega⟩, ?_⟩
          rw [← x2]
          congr 1
          omega
        · rw [if_pos c3]
          by_cases c4 : (s : Int) = (g : Int) + 1
          · rw [if_neg (fun x => x c4)]
            left
            refine ⟨bd, ?_, ⟨by omega, by omega⟩, bdx.2⟩
            rw [show s = tl.length by omega]; exact bdx.1
          · rw [if_pos c4]
            right
            exact ⟨by omega, by omega⟩
      · have e1 : (if ¬ ((tl.length + 1 : Nat) : Int) = 2 + (g : Int) then (0 : Int) else 1) = 0 := by rw [if_pos c2]
        rw [if_pos e1]
        by_cases c3 : (s : Int) = (g : Int)
        · rw [if_neg (fun x => x c3)]
          left
          refine ⟨bd, ?_, ⟨by omega, by omega⟩, bdx.2⟩
          rw [show s = tl.length by omega]; exact bdx.1
        · rw [if_pos c3]
          right
          exact ⟨by omega, by omega⟩
    · rw [if_neg c1]
      left
      obtain ⟨x, x1, x2⟩ := tlx s (by omega)
      exact ⟨x, x1, ⟨by omega, by omega⟩, x2⟩
  · have ho : kOrd A n = A.2.2.2.2.1 n := by unfold kOrd; rw [if_neg c]
    rw [ho] at hs ⊢
    refine ⟨⟨hn2, fun x => absurd x c, fun _ => ⟨fun _ => trivial, fun _ => trivial⟩⟩, ?_⟩
    rw [if_neg c]
    by_cases c1 : ((A.2.2.2.2.1 n).length : Int) ≤ (s : Int)
    · rw [if_pos c1]
      right
      exact ⟨by omega, by omega⟩
    · rw [if_neg c1]
      left
      have hl : s < (A.2.2.2.2.1 n).length := by omega
      exact ⟨_, List.getElem?_eq_getElem hl, ⟨by omega, by omega⟩, a6 s _ (List.getElem?_eq_getElem hl)⟩
theorem kOrd_mem {A : aT} {n x : Int} (h : x ∈ A.2.2.2.2.1 n) : x ∈ kOrd A n := by
  unfold kOrd
  split
  · rw [← List.take_append_drop 1 (A.2.2.2.2.1 n)] at h
    rcases List.mem_append.mp h with q | q
    · exact List.mem_append_right _ q
    · exact List.mem_append_left _ q
  · exact h
theorem kOrd_len (A : aT) (n : Int) : (kOrd A n).length = (A.2.2.2.2.1 n).length := by
  unfold kOrd
  split
  · rw [List.length_append, List.length_drop, List.length_take]; omega
  · rfl
/-- the cells of the walk: its pile, the names known -/
def kRp (σ : sg_S) (p : List (Int × Int)) (e eb : kE) : Prop := pst (sg_g σ 117) (sg_g σ 118) (sg_g σ 88 42) p ∧ kPs σ e eb
def kI (A : aT) (ds : kD) (r : Option ((Int → Int) × (Int → Int))) (k : Nat) (σ : sg_S) : Prop := (sg_g σ 88 29 = 0 ∧ ∃ m c p e eb, k = m + 1 ∧ kRp σ p e eb ∧ kRun A ds r 272 m c p e (sg_g σ 101) eb (sg_g σ 102)) ∨ (¬ sg_g σ 88 29 = 0 ∧ r = none)
