/-! LANES of the class stand for lists of values; what is told of the next value, exactly. -/
/-- value v stands for l, lanes of depth d -/
def yX (σ : sg_S) : Nat → Int → List vaF → Prop
  | 0, v, l => yRw σ v l.length ∧ ∀ i : Nat, i < l.length → sg_g σ 78 (sg_g σ 80 v + i) = (l.getD i (nmF 0)) []
  | d + 1, v, l => yRw σ v l.length ∧ (∀ i : Nat, i < l.length → sg_g σ 78 (sg_g σ 80 v + i) = (l.getD i (nmF 0)) [] ∧ 0 ≤ (l.getD i (nmF 0)) [] ∧ (l.getD i (nmF 0)) [] ≤ 200) ∧ yLo σ v l.length ∧ yX σ d (sg_g σ 82 v) (flF l)
theorem yX_c {σ : sg_S} : ∀ {d : Nat} {v : Int} {l : List vaF}, yX σ d v l → yRw σ v l.length ∧ ∀ i : Nat, i < l.length → sg_g σ 78 (sg_g σ 80 v + i) = (l.getD i (nmF 0)) []
  | 0, v, l, h => h
  | d + 1, v, l, h => ⟨h.1, fun i hi => (h.2.1 i hi).1⟩
theorem su_ah {g : Int → Int} {p : Int} {l : List vaF} (h : ∀ i : Nat, i < l.length → g (p + i) = (l.getD i (nmF 0)) [] ∧ 0 ≤ (l.getD i (nmF 0)) []) : ∀ i : Nat, i ≤ l.length → su g p i = (ahF l i : Int)
  | 0, _ => by rw [ahF_0]; rfl
  | i + 1, hi => by
    obtain ⟨a, b⟩ := h i (by omega)
    simp only [su]
    rw [su_ah h i (by omega), a, ahF_s (by omega : i < l.length), itF_l]
    omega
theorem yX_s {σ : sg_S} {d : Nat} {v : Int} {l : List vaF} (h : yX σ (d + 1) v l) (i : Nat) (hi : i ≤ l.length) : su (sg_g σ 78) (sg_g σ 80 v) i = (ahF l i : Int) := su_ah (fun i hi => ⟨(h.2.1 i hi).1, (h.2.1 i hi).2.1⟩) i hi
theorem yX_V {σ : sg_S} : ∀ {d : Nat} {v : Int} {l : List vaF}, yX σ d v l → yV σ d v l.length
  | 0, v, l, h => h.1
  | d + 1, v, l, h => by
    refine ⟨h.1, fun i hi => ?_, h.2.2.1, ?_⟩
    · obtain ⟨a, b, c⟩ := h.2.1 i (by omega)
      rw [a]; exact ⟨b, c⟩
    · rw [Int.toNat_natCast, yX_s h l.length (Nat.le_refl _), ahF_n]
      exact yX_V h.2.2.2
theorem yX_up {σ σ' : sg_S} (x : yEx σ σ') : ∀ {d : Nat} {v : Int} {l : List vaF}, yX σ d v l → yX σ' d v l
  | 0, v, l, h => by
    have r := h.1
    refine ⟨yRw_up x r, fun i hi => ?_⟩
    obtain ⟨a1, a2, a3, a4, a5⟩ := r
    rw [(x.2.1 v a1.1 a1.2).1, x.2.2.1 _ (by omega) (by omega)]
    exact h.2 i hi
  | d + 1, v, l, h => by
    have r := h.1
    refine ⟨yRw_up x r, fun i hi => ?_, x.2.2.2 v _ r h.2.2.1, ?_⟩
    · obtain ⟨a1, a2, a3, a4, a5⟩ := r
      rw [(x.2.1 v a1.1 a1.2).1, x.2.2.1 _ (by omega) (by omega)]
      exact h.2.1 i hi
    · rw [(x.2.1 v r.1.1 r.1.2).2.2]
      exact yX_up x h.2.2.2
/-- cells, starts, ends of a lane -/
theorem yX_cell {σ : sg_S} (g : yG σ) {d : Nat} {v : Int} {l : List vaF} (h : yX σ d v l) {i : Nat} (hi : i < l.length) : v_lCell σ v i = (l.getD i (nmF 0)) [] ∧ p_lCell σ v i := by
  obtain ⟨r, c⟩ := yX_c h
  obtain ⟨a, b⟩ := y_cell g r (l := (i : Int)) ⟨by omega, by omega⟩
  exact ⟨by rw [a]; exact c i hi, b⟩
theorem yX_st {σ : sg_S} (g : yG σ) {d : Nat} {v : Int} {l : List vaF} (h : yX σ (d + 1) v l) {i : Nat} (hi : i < l.length) : v_lStart σ v i = (ahF l i : Int) ∧ p_lStart σ v i ∧ v_lEnd σ v i = (ahF l (i + 1) : Int) := by
  obtain ⟨a, b⟩ := y_start g h.1 (l := (i : Int)) ⟨by omega, by omega⟩
  have s : v_lStart σ v i = (ahF l i : Int) := by
    rw [a, h.2.2.1 i (by omega)]
    exact yX_s h i (by omega)
  refine ⟨s, b, ?_⟩
  show v_lStart σ v i + v_lCell σ v i = _
  rw [s, (yX_cell g h hi).1, ahF_s hi, itF_l]
  have := (h.2.1 i hi).2.1
  omega
/-- what was told: firsts, seconds, picks, a FINDING -/
def tlX (σ : sg_S) (F S : List Int) (P : List (Int × Int × Int)) (e : Int) : Prop := (sg_g σ 77 11 = F.length ∧ sg_g σ 77 12 = S.length ∧ sg_g σ 77 13 = P.length ∧ sg_g σ 77 14 = e) ∧ (sg_g σ 77 15 = if F.length ≤ 6000 ∧ S.length ≤ 6000 ∧ P.length ≤ 6000 then 0 else 1) ∧ (∀ (i : Nat) (x : Int), F[i]? = some x → i < 6000 → sg_g σ 83 i = x) ∧ (∀ (i : Nat) (x : Int), S[i]? = some x → i < 6000 → sg_g σ 84 i = x) ∧ ∀ (i : Nat) (x : Int × Int × Int), P[i]? = some x → i < 6000 → sg_g σ 85 i = x.1 ∧ sg_g σ 86 i = x.2.1 ∧ sg_g σ 87 i = x.2.2
theorem tlX_0 {σ : sg_S} (h : y0 σ) : tlX σ [] [] [] 0 := by
  obtain ⟨h1, h2, h3, h4, h5⟩ := h
  exact ⟨⟨h1, h2, h3, h4⟩, by rw [h5]; rfl, fun i x hx => by simp at hx, fun i x hx => by simp at hx, fun i x hx => by simp at hx⟩
theorem tlX_F {L : List Nat} {σ σ' : sg_S} {F S : List Int} {P : List (Int × Int × Int)} {e : Int} (h : tlX σ F S P e) (f : sg_F L σ σ') (hL : (!sg_cv L 77 11 && !sg_cv L 77 12 && !sg_cv L 77 13 && !sg_cv L 77 14 && !sg_cv L 77 15 && sg_ca L 83 && sg_ca L 84 && sg_ca L 85 && sg_ca L 86 && sg_ca L 87) = true) : tlX σ' F S P e := by
  simp only [Bool.and_eq_true, Bool.not_eq_true'] at hL
  obtain ⟨⟨⟨⟨⟨⟨⟨⟨⟨l1, l2⟩, l3⟩, l4⟩, l5⟩, l6⟩, l7⟩, l8⟩, l9⟩, l10⟩ := hL
  obtain ⟨⟨a1, a2, a3, a4⟩, a5, a6, a7, a8⟩ := h
  refine ⟨⟨by rw [sg_F_g f l1]; exact a1, by rw [sg_F_g f l2]; exact a2, by rw [sg_F_g f l3]; exact a3, by rw [sg_F_g f l4]; exact a4⟩, by rw [sg_F_g f l5]; exact a5, fun i x hx hi => by rw [sg_F_ga f l6]; exact a6 i x hx hi, fun i x hx hi => by rw [sg_F_ga f l7]; exact a7 i x hx hi, fun i x hx hi => ?_⟩
  rw [sg_F_ga f l8, sg_F_ga f l9, sg_F_ga f l10]
  exact a8 i x hx hi
theorem xp_out {σ : sg_S} {a : Nat} {n k v : Int} (h : ¬ (0 ≤ k ∧ k < n)) : sx_put σ a n k v = σ := by unfold sx_put; rw [if_neg h]
/-- a put at the end of a list -/
theorem put_l {σ σ' : sg_S} {a : Nat} {F : List Int} {x : Int} (hx : sg_R x) (e : σ' = sx_put σ a 6000 (F.length : Int) x) (h : ∀ (i : Nat) (y : Int), F[i]? = some y → i < 6000 → sg_g σ a i = y) (i : Nat) (y : Int) (hy : (F ++ [x])[i]? = some y) (hi : i < 6000) : sg_g σ' a i = y := by
  rcases Nat.lt_or_ge i F.length with q | q
  · rw [List.getElem?_append_left q] at hy
    have := h i y hy hi
    rw [e]
    by_cases c : (F.length : Int) < 6000
    · rw [xp_in ⟨by omega, c⟩, sg_gw_k _ _ _ _ _ _ (by omega)]; exact this
    · rw [xp_out (by omega)]; exact this
  · rw [List.getElem?_append_right q] at hy
    have ei : i = F.length := by
      rcases Nat.eq_zero_or_pos (i - F.length) with z | z
      · omega
      · rw [List.getElem?_eq_none (by simp; omega)] at hy; cases hy
    rw [ei, Nat.sub_self] at hy
    cases hy
    rw [e, ei, xp_in ⟨by omega, by omega⟩, sg_gw_e _ _ _ _ hx]
section CAS
variable {σ : sg_S} {F S : List Int} {P : List (Int × Int × Int)} {e x : Int} {Q : sg_S → Prop}
theorem x_miss (h : tlX σ F S P e) (hx : sg_R x) (k : ∀ σ', tlX σ' F S P (if e = 0 then x else e) → sg_F [15077] σ σ' → Q σ') : V_lMiss σ x Q := by
  obtain ⟨⟨a1, a2, a3, a4⟩, a5⟩ := id h
  unfold V_lMiss
  rw [a4]
  refine ⟨fun z => k σ (by rw [if_neg z]; exact h) (sg_F_r _ _), fun z σ2 e2 => ?_⟩
  have f : sg_F [15077] σ σ2 := by rw [e2]; exact sg_F_w (sg_F_r _ _) rfl _
  refine k σ2 ?_ f
  rw [if_pos z]
  refine ⟨⟨by rw [sg_F_g f (by rfl)]; exact a1, by rw [sg_F_g f (by rfl)]; exact a2, by rw [sg_F_g f (by rfl)]; exact a3, by rw [e2, sg_gw_e _ _ _ _ hx]⟩, by rw [sg_F_g f (by rfl)]; exact a5.1, fun i y hy hi => by rw [sg_F_ga f rfl]; exact a5.2.1 i y hy hi, fun i y hy hi => by rw [sg_F_ga f rfl]; exact a5.2.2.1 i y hy hi, fun i y hy hi => ?_⟩
  rw [sg_F_ga f rfl, sg_F_ga f rfl, sg_F_ga f rfl]
  exact a5.2.2.2 i y hy hi
theorem x_first (h : tlX σ F S P e) (hb : F.length ≤ 1000000000) (hx : sg_R x) (k : ∀ σ', tlX σ' (F ++ [x]) S P e → sg_F [83, 12077, 16077] σ σ' → Q σ') : V_lFirst σ x Q := by
  obtain ⟨⟨a1, a2, a3, a4⟩, a5, a6, a7, a8⟩ := id h
  unfold V_lFirst
  rw [a1]
  refine ⟨⟨fun _ => trivial, fun _ => ⟨fun _ => trivial, fun _ => trivial⟩⟩, fun v3 e3 r3 σ6 e6 σ9 e9 => ⟨⟨by omega, by omega⟩, fun σ13 e13 => ?_⟩⟩
  have f9 : sg_F [83, 12077, 16077] σ σ9 := by rw [e9, e6]; exact xF_p (sg_F_w (sg_F_r _ _) rfl _) rfl _ _ _
  have f13 : sg_F [83, 12077, 16077] σ σ13 := by rw [e13]; exact sg_F_w f9 rfl _
  have p9 : sg_F [83] σ6 σ9 := by rw [e9]; exact xF_p (sg_F_r _ _) rfl _ _ _
  have g15 : sg_g σ13 77 15 = v3 := by rw [e13, sg_gw_k _ _ _ _ _ _ (by decide), sg_F_g p9 (by rfl), e6, sg_gw_e _ _ _ _ r3]
  refine k σ13 ⟨⟨?_, by rw [sg_F_g f13 (by rfl)]; exact a2, by rw [sg_F_g f13 (by rfl)]; exact a3, by rw [sg_F_g f13 (by rfl)]; exact a4⟩, ?_, fun i y hy hi => ?_, fun i y hy hi => by rw [sg_F_ga f13 rfl]; exact a7 i y hy hi, fun i y hy hi => ?_⟩ f13
  · rw [e13, sg_gw_e _ _ _ _ ⟨by omega, by omega⟩, List.length_append, List.length_cons, List.length_nil]; omega
  · rw [g15, e3, a5, List.length_append, List.length_cons, List.length_nil]
    by_cases c : F.length ≤ 6000 ∧ S.length ≤ 6000 ∧ P.length ≤ 6000
    · rw [if_pos c, if_neg (fun z => z rfl)]
      by_cases c2 : (F.length : Int) < 6000
      · rw [if_pos c2, if_pos (by omega)]
      · rw [if_neg c2, if_neg (by omega)]
    · rw [if_neg c, if_pos (by decide), if_neg (by omega)]
  · rw [e13, sg_gw_c _ _ _ _ _ _ (by decide)]
    exact put_l hx e9 (fun i y hy hi => by rw [e6, sg_gw_c _ _ _ _ _ _ (by decide)]; exact a6 i y hy hi) i y hy hi
  · rw [sg_F_ga f13 rfl, sg_F_ga f13 rfl, sg_F_ga f13 rfl]
    exact a8 i y hy hi
theorem x_second (h : tlX σ F S P e) (hb : S.length ≤ 1000000000) (hx : sg_R x) (k : ∀ σ', tlX σ' F (S ++ [x]) P e → sg_F [84, 13077, 16077] σ σ' → Q σ') : V_lSecond σ x Q := by
  obtain ⟨⟨a1, a2, a3, a4⟩, a5, a6, a7, a8⟩ := id h
  unfold V_lSecond
  rw [a2]
  refine ⟨⟨fun _ => trivial, fun _ => ⟨fun _ => trivial, fun _ => trivial⟩⟩, fun v3 e3 r3 σ6 e6 σ9 e9 => ⟨⟨by omega, by omega⟩, fun σ13 e13 => ?_⟩⟩
  have f9 : sg_F [84, 13077, 16077] σ σ9 := by rw [e9, e6]; exact xF_p (sg_F_w (sg_F_r _ _) rfl _) rfl _ _ _
  have f13 : sg_F [84, 13077, 16077] σ σ13 := by rw [e13]; exact sg_F_w f9 rfl _
  have p9 : sg_F [84] σ6 σ9 := by rw [e9]; exact xF_p (sg_F_r _ _) rfl _ _ _
  have g15 : sg_g σ13 77 15 = v3 := by rw [e13, sg_gw_k _ _ _ _ _ _ (by decide), sg_F_g p9 (by rfl), e6, sg_gw_e _ _ _ _ r3]
  refine k σ13 ⟨⟨by rw [sg_F_g f13 (by rfl)]; exact a1, ?_, by rw [sg_F_g f13 (by rfl)]; exact a3, by rw [sg_F_g f13 (by rfl)]; exact a4⟩, ?_, fun i y hy hi => by rw [sg_F_ga f13 rfl]; exact a6 i y hy hi, fun i y hy hi => ?_, fun i y hy hi => ?_⟩ f13
  · rw [e13, sg_gw_e _ _ _ _ ⟨by omega, by omega⟩, List.length_append, List.length_cons, List.length_nil]; omega
  · rw [g15, e3, a5, List.length_append, List.length_cons, List.length_nil]
    by_cases c : F.length ≤ 6000 ∧ S.length ≤ 6000 ∧ P.length ≤ 6000
    · rw [if_pos c, if_neg (fun z => z rfl)]
      by_cases c2 : (S.length : Int) < 6000
      · rw [if_pos c2, if_pos (by omega)]
      · rw [if_neg c2, if_neg (by omega)]
    · rw [if_neg c, if_pos (by decide), if_neg (by omega)]
  · rw [e13, sg_gw_c _ _ _ _ _ _ (by decide)]
    exact put_l hx e9 (fun i y hy hi => by rw [e6, sg_gw_c _ _ _ _ _ _ (by decide)]; exact a7 i y hy hi) i y hy hi
  · rw [sg_F_ga f13 rfl, sg_F_ga f13 rfl, sg_F_ga f13 rfl]
    exact a8 i y hy hi
theorem x_pick {lo hi : Int} (h : tlX σ F S P e) (hb : P.length ≤ 1000000000) (hx : sg_R x) (hlo : sg_R lo) (hhi : sg_R hi) (k : ∀ σ', tlX σ' F S (if lo < hi then P ++ [(x, lo, hi)] else P) e → sg_F [85, 86, 87, 14077, 16077] σ σ' → Q σ') : V_lPick σ x lo hi Q := by
  obtain ⟨⟨a1, a2, a3, a4⟩, a5, a6, a7, a8⟩ := id h
  unfold V_lPick
  rw [a3]
  refine ⟨fun lt => ⟨⟨fun _ => trivial, fun _ => ⟨fun _ => trivial, fun _ => trivial⟩⟩, fun v4 e4 r4 σ7 e7 σ10 e10 σ13 e13 σ16 e16 => ⟨⟨by omega, by omega⟩, fun σ20 e20 => ?_⟩⟩, fun le => k σ (by rw [if_neg (by omega)]; exact h) (sg_F_r _ _)⟩
  have f16 : sg_F [85, 86, 87, 14077, 16077] σ σ16 := by rw [e16, e13, e10, e7]; exact xF_p (xF_p (xF_p (sg_F_w (sg_F_r _ _) rfl _) rfl _ _ _) rfl _ _ _) rfl _ _ _
  have f20 : sg_F [85, 86, 87, 14077, 16077] σ σ20 := by rw [e20]; exact sg_F_w f16 rfl _
  have f7 : sg_F [85, 86, 87] σ7 σ16 := by rw [e16, e13, e10]; exact xF_p (xF_p (xF_p (sg_F_r _ _) rfl _ _ _) rfl _ _ _) rfl _ _ _
  have g15 : sg_g σ20 77 15 = v4 := by rw [e20, sg_gw_k _ _ _ _ _ _ (by decide), sg_F_g f7 (by rfl), e7, sg_gw_e _ _ _ _ r4]
  rw [if_pos lt] at k
  have p10 : sg_F [85] σ7 σ10 := by rw [e10]; exact xF_p (sg_F_r _ _) rfl _ _ _
  have p13 : sg_F [86] σ10 σ13 := by rw [e13]; exact xF_p (sg_F_r _ _) rfl _ _ _
  have p16 : sg_F [87] σ13 σ16 := by rw [e16]; exact xF_p (sg_F_r _ _) rfl _ _ _
  have c7 : ∀ (a : Nat) (i : Int), a < 88 → ¬ a = 77 → sg_g σ7 a i = sg_g σ a i := fun a i _ ha => by rw [e7, sg_gw_c _ _ _ _ _ _ ha]
  refine k σ20 ⟨⟨by rw [sg_F_g f20 (by rfl)]; exact a1, by rw [sg_F_g f20 (by rfl)]; exact a2, ?_, by rw [sg_F_g f20 (by rfl)]; exact a4⟩, ?_, fun i y hy hi => by rw [sg_F_ga f20 rfl]; exact a6 i y hy hi, fun i y hy hi => by rw [sg_F_ga f20 rfl]; exact a7 i y hy hi, fun i y hy hi6 => ?_⟩ f20
  · rw [e20, sg_gw_e _ _ _ _ ⟨by omega, by omega⟩, List.length_append, List.length_cons, List.length_nil]; omega
  · rw [g15, e4, a5, List.length_append, List.length_cons, List.length_nil]
    by_cases c : F.length ≤ 6000 ∧ S.length ≤ 6000 ∧ P.length ≤ 6000
    · rw [if_pos c, if_neg (fun z => z rfl)]
      by_cases c2 : (P.length : Int) < 6000
      · rw [if_pos c2, if_pos (by omega)]
      · rw [if_neg c2, if_neg (by omega)]
    · rw [if_neg c, if_pos (by decide), if_neg (by omega)]
  · have pl : ∀ (σ1 σ2 : sg_S) (a : Nat) (w : Int) (pr : Int × Int × Int → Int), sg_R w → pr (x, lo, hi) = w → σ2 = sx_put σ1 a 6000 (P.length : Int) w → (∀ (i : Nat) (y : Int × Int × Int), P[i]? = some y → i < 6000 → sg_g σ1 a i = pr y) → sg_g σ2 a i = pr y := fun σ1 σ2 a w pr hw epr e2 h1 => by
      refine put_l (F := P.map pr) hw (by rw [List.length_map]; exact e2) (fun i' y' hy' hi' => ?_) i (pr y) ?_ hi6
      · rw [List.getElem?_map] at hy'
        cases q : P[i']? with
        | none => rw [q] at hy'; cases hy'
        | some u =>
          rw [q] at hy'
          cases hy'
          exact h1 i' u q hi'
      · rw [← epr, show (P.map pr ++ [pr (x, lo, hi)]) = (P ++ [(x, lo, hi)]).map pr by rw [List.map_append]; rfl, List.getElem?_map, hy]; rfl
    refine ⟨?_, ?_, ?_⟩
    · rw [e20, sg_gw_c _ _ _ _ _ _ (by decide), sg_F_ga p16 rfl, sg_F_ga p13 rfl]
      exact pl σ7 σ10 85 x (fun y => y.1) hx rfl e10 (fun i y hy hi => by rw [c7 85 i (by decide) (by decide)]; exact (a8 i y hy hi).1)
    · rw [e20, sg_gw_c _ _ _ _ _ _ (by decide), sg_F_ga p16 rfl]
      exact pl σ10 σ13 86 lo (fun y => y.2.1) hlo rfl e13 (fun i y hy hi => by rw [sg_F_ga p10 rfl, c7 86 i (by decide) (by decide)]; exact (a8 i y hy hi).2.1)
    · rw [e20, sg_gw_c _ _ _ _ _ _ (by decide)]
      exact pl σ13 σ16 87 hi (fun y => y.2.2) hhi rfl e16 (fun i y hy hi => by rw [sg_F_ga p13 rfl, sg_F_ga p10 rfl, c7 87 i (by decide) (by decide)]; exact (a8 i y hy hi).2.2)
end CAS
