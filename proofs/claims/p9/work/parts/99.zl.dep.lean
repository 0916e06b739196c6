/-! depthOf of the class is kTy: the kinds with rules of their own. -/
theorem okP_is {b : Bool} {t q : Int} (h : (b = false ∧ (q < 0 ∨ 3 < q)) ∨ (b = true ∧ q = t ∧ 0 ≤ q)) : okP (kIs b t) q := by
  unfold okP kIs
  rcases h with ⟨h1, h2⟩ | ⟨h1, h2, h3⟩
  · left
    rw [if_neg (by rw [h1]; simp)]
    exact ⟨rfl, h2⟩
  · by_cases c : t ≤ 3
    · right
      rw [if_pos ⟨h1, c⟩, h2]
      exact ⟨rfl, by omega, by omega⟩
    · left
      rw [if_neg (fun z => c z.2)]
      exact ⟨rfl, by omega⟩
section DPT
variable {σ : sg_S} {A : aT} {ds : kD} {e : kE} {n : Int} {Q : Int → sg_S → Prop}
theorem c_row (h : ckW σ A) (hn : 0 ≤ n ∧ n < A.1) (hw : nW A n) (ht : ∀ x ∈ A.2.2.2.2.1 n, kIn (sg_g σ 6 x)) (hk : A.2.1 n = 14) (k : ∀ q, okP (kTy A ds (sg_g σ 6) e n ((A.2.2.2.2.1 n).map (sg_g σ 6))) q → Q q σ) : V_kDepthOfRow σ n Q := by
  obtain ⟨p0, p1, p2, p3, p4, p5, p6⟩ := ckW_p h hn
  have ho : kOrd A n = A.2.2.2.2.1 n := by unfold kOrd; rw [if_neg (by omega)]
  rw [ho] at p2 p3 p4 p5 p6
  obtain ⟨n1, n2, n3, n4, n5, n6, n7, n8⟩ := hw
  have hl := n6 hk
  have hA := h.1.2
  have hln : (A.2.2.2.2.1 n).length ≤ 200 := by
    have := sg_Rg σ 10 n
    have hN : (kOrd A n).Nodup := by
      have := (h.2.2 n hn.1 hn.2).1.2.2.2.1.2.2.2.1
      rw [p0] at this; exact this
    rw [ho] at hN
    exact ndl 200 _ hN (fun x hx => p6 x hx)
  generalize hks : A.2.2.2.2.1 n = ks at *
  obtain ⟨x0, hx0⟩ : ∃ x, ks[0]? = some x := ⟨_, List.getElem?_eq_getElem (by omega)⟩
  have h7 := p3 x0 hx0
  have ax : sx_at σ 6 200 (sx_at σ 7 200 n) = sg_g σ 6 x0 := by rw [p1 7 200 rfl, h7, xa_in (p6 x0 (List.mem_of_getElem? hx0))]
  have t0 := ht x0 (List.mem_of_getElem? hx0)
  have hkt : kTy A ds (sg_g σ 6) e n (ks.map (sg_g σ 6)) = kIs ((ks.map (sg_g σ 6)).all (fun x => decide (x = sg_g σ 6 x0))) (sg_g σ 6 x0 + 1) := by
    have e0 : (ks.map (sg_g σ 6)).getD 0 0 = sg_g σ 6 x0 := by rw [List.getD_eq_getElem?_getD, List.getElem?_map, hx0]; rfl
    simp only [kTy, hk]
    rw [e0]; rfl
  have tt1 := t0.1
  have tt2 := t0.2
  unfold V_kDepthOfRow
  rw [ax, p1 10 200 rfl, p2, p1 7 200 rfl]
  refine ⟨fun m v1 v2 => ∃ i : Nat, v2 = i ∧ m = ks.length - i ∧ i ≤ ks.length ∧ (∀ x, ks[i]? = some x → v1 = x) ∧ ∀ (j : Nat) (x : Int), j < i → ks[j]? = some x → sg_g σ 6 x = sg_g σ 6 x0, (∀ x ∈ ks, sg_g σ 6 x = sg_g σ 6 x0), ⟨_, 0, rfl, rfl, Nat.zero_le _, fun x hx => p3 x hx, fun j x hj => by omega⟩, ?_, fun hall => ⟨⟨by omega, by omega⟩, k _ ?_⟩⟩
  · rintro m v1 v2 r1 r2 ⟨i, rfl, em, hi, hv, hj⟩
    have fin : ks.length ≤ i → ∀ x ∈ ks, sg_g σ 6 x = sg_g σ 6 x0 := fun c x hx => by
      obtain ⟨j, hj2⟩ := List.getElem?_of_mem hx
      have : j < ks.length := by
        rcases Nat.lt_or_ge j ks.length with q | q
        · exact q
        · rw [List.getElem?_eq_none q] at hj2; cases hj2
      exact hj j x (by omega) hj2
    refine ⟨fun c => fin (by omega), fun c => ⟨fun c2 => fin (by omega), fun c2 => ?_⟩⟩
    obtain ⟨x, hx⟩ : ∃ x, ks[i]? = some x := ⟨_, List.getElem?_eq_getElem (by omega)⟩
    have e1 := hv x hx
    have xr := p6 x (List.mem_of_getElem? hx)
    subst e1
    rw [xa_in xr, xa_in xr]
    refine ⟨fun he => ⟨⟨by omega, by omega⟩, ks.length - (i + 1), by omega, i + 1, by omega, rfl, by omega, fun y hy => p5 i _ y hx hy, fun j y hj2 hy => ?_⟩, fun he => k _ ?_⟩
    · by_cases e2 : j = i
      · subst e2; rw [hx] at hy; cases hy; exact he
      · exact hj j y (by omega) hy
    · rw [hkt]
      refine okP_is (Or.inl ⟨?_, Or.inl (by decide)⟩)
      rw [List.all_eq_false]
      exact ⟨_, List.mem_map.mpr ⟨v1, List.mem_of_getElem? hx, rfl⟩, by simpa using he⟩
  · rw [hkt]
    refine okP_is (Or.inr ⟨?_, rfl, by omega⟩)
    rw [List.all_eq_true]
    intro y hy
    obtain ⟨x, hx, rfl⟩ := List.mem_map.mp hy
    exact decide_eq_true (hall x hx)
theorem c_call (h : ckW σ A) (hn : 0 ≤ n ∧ n < A.1) (ht : ∀ x ∈ A.2.2.2.2.1 n, kIn (sg_g σ 6 x)) (hk : A.2.1 n = 13) {q : Int} {ps : List Int} {r : Int} (hq : sg_g σ 16 n = q) (hq2 : 0 ≤ q ∧ q < 12) (hd : kDef ds (A.2.2.2.1 n) = some (ps, r)) (hdq : dcQ σ q (ps, r)) (hr : 0 ≤ r ∧ r < 200) (hrt : kIn (sg_g σ 6 r)) (k : ∀ q, okP (kTy A ds (sg_g σ 6) e n ((A.2.2.2.2.1 n).map (sg_g σ 6))) q → Q q σ) : V_kDepthOfCall σ n Q := by
  obtain ⟨p0, p1, p2, p3, p4, p5, p6⟩ := ckW_p h hn
  have ho : kOrd A n = A.2.2.2.2.1 n := by unfold kOrd; rw [if_neg (by omega)]
  rw [ho] at p2 p3 p4 p5 p6
  obtain ⟨d1, d2, d3, d4⟩ := hdq
  simp only at d1 d2 d3 d4
  generalize hks : A.2.2.2.2.1 n = ks at *
  have hkt : kTy A ds (sg_g σ 6) e n (ks.map (sg_g σ 6)) = kIs (decide (ks.map (sg_g σ 6) = ps)) (sg_g σ 6 r) := by
    simp only [kTy, hk, hd]
    rfl
  have tr1 := hrt.1
  unfold V_kDepthOfCall
  rw [p1 16 200 rfl, hq, p1 10 200 rfl, p2, xa_in (a := 23) hq2, d1, p1 7 200 rfl]
  have hml : (ks.map (sg_g σ 6)).length = ks.length := List.length_map _
  refine ⟨fun c => ?_, fun c => k _ ?_⟩
  · refine ⟨fun m v1 v2 => ∃ i : Nat, v2 = i ∧ m = ks.length - i ∧ i ≤ ks.length ∧ (∀ x, ks[i]? = some x → v1 = x) ∧ ∀ (j : Nat) (x : Int), j < i → ks[j]? = some x → ps[j]? = some (sg_g σ 6 x), ks.map (sg_g σ 6) = ps, ⟨_, 0, rfl, rfl, Nat.zero_le _, fun x hx => p3 x hx, fun j x hj => by omega⟩, ?_, fun hall => k _ ?_⟩
    · rintro m v1 v2 r1 r2 ⟨i, rfl, em, hi, hv, hj⟩
      have fin : ks.length ≤ i → ks.map (sg_g σ 6) = ps := fun c2 => by
        refine List.ext_getElem? (fun j => ?_)
        rw [List.getElem?_map]
        by_cases hj2 : j < ks.length
        · rw [List.getElem?_eq_getElem hj2]
          exact (hj j _ (by omega) (List.getElem?_eq_getElem hj2)).symm
        · rw [List.getElem?_eq_none (by omega), List.getElem?_eq_none (by omega)]; rfl
      refine ⟨fun c2 => fin (by omega), fun c2 => ⟨fun c3 => fin (by omega), fun c3 => ?_⟩⟩
      obtain ⟨x, hx⟩ : ∃ x, ks[i]? = some x := ⟨_, List.getElem?_eq_getElem (by omega)⟩
      obtain ⟨y, hy⟩ : ∃ y, ps[i]? = some y := ⟨_, List.getElem?_eq_getElem (by omega)⟩
      have e1 := hv x hx
      have xr := p6 x (List.mem_of_getElem? hx)
      subst e1
      have dy := d2 i y hy
      rw [xa_in xr, xa_in xr, xa_in (a := 27) (show 0 ≤ q * 6 + (i : Int) ∧ q * 6 + (i : Int) < 72 by omega), show q * 6 + (i : Int) = 6 * q + i by omega, dy]
      refine ⟨⟨by omega, by omega⟩, ⟨by omega, by omega⟩, fun he => ⟨⟨by omega, by omega⟩, ks.length - (i + 1), by omega, i + 1, by omega, rfl, by omega, fun y hy => p5 i _ y hx hy, fun j z hj2 hz => ?_⟩, fun he => k _ ?_⟩
      · by_cases e2 : j = i
        · subst e2; rw [hx] at hz; cases hz; rw [hy, he]
        · exact hj j z (by omega) hz
      · rw [hkt]
        refine okP_is (Or.inl ⟨decide_eq_false (fun z => he ?_), Or.inl (by decide)⟩)
        have z2 : (ks.map (sg_g σ 6))[i]? = ps[i]? := by rw [z]
        rw [List.getElem?_map, hx, hy] at z2
        exact Option.some.inj z2
    · rw [hkt, xa_in (a := 22) hq2, d3, xa_in hr]
      exact okP_is (Or.inr ⟨decide_eq_true hall, rfl, tr1⟩)
  · rw [hkt]
    refine okP_is (Or.inl ⟨decide_eq_false (fun z => c ?_), Or.inl (by decide)⟩)
    rw [← z, hml]
theorem c_each (h : ckW σ A) (hn : 0 ≤ n ∧ n < A.1) (hw : nW A n) (ht : ∀ x ∈ A.2.2.2.2.1 n, kIn (sg_g σ 6 x)) (hk : A.2.1 n = 15) (k : ∀ q, okP (kTy A ds (sg_g σ 6) e n ((A.2.2.2.2.1 n).map (sg_g σ 6))) q → Q q σ) : V_kDepthOf_123 σ n Q := by
  obtain ⟨p0, p1, p2, p3, p4, p5, p6⟩ := ckW_p h hn
  obtain ⟨n1, n2, n3, n4, n5, n6, n7, n8⟩ := hw
  have hl := n7 hk
  obtain ⟨e1, e2, e3⟩ := (h.2.2 n hn.1 hn.2).1.2.2.2.2 hk
  obtain ⟨bd, tl, hks⟩ : ∃ bd tl, A.2.2.2.2.1 n = bd :: tl := by
    match hh : A.2.2.2.2.1 n with
    | bd :: tl => exact ⟨bd, tl, rfl⟩
    | [] => rw [hh] at hl; simp only [List.length_nil] at hl; omega
  have ho : kOrd A n = tl ++ [bd] := by unfold kOrd; rw [if_pos hk, hks]; rfl
  rw [ho] at p4 p6
  have h8 := p4 bd (by simp)
  have xb := p6 bd (by simp)
  have tb := ht bd (by rw [hks]; simp)
  have tb1 := tb.1
  have tb2 := tb.2
  have hkt : kTy A ds (sg_g σ 6) e n ((A.2.2.2.2.1 n).map (sg_g σ 6)) = kIs (decide (((A.2.2.2.2.1 n).map (sg_g σ 6)).length ≠ 2 + (A.2.2.2.2.2 n).length) || decide (((A.2.2.2.2.1 n).map (sg_g σ 6)).getD (((A.2.2.2.2.1 n).map (sg_g σ 6)).length - 1) 0 = 0)) (sg_g σ 6 bd + 1) := by
    have e0 : ((A.2.2.2.2.1 n).map (sg_g σ 6)).getD 0 0 = sg_g σ 6 bd := by rw [hks]; rfl
    simp only [kTy, hk]
    rw [e0]; rfl
  have b8 : sx_at σ 6 200 (sx_at σ 8 200 n) = sg_g σ 6 bd := by rw [p1 8 200 rfl, h8, xa_in xb]
  unfold V_kDepthOf_123 p_kDepthOfEach v_kDepthOfEach
  by_cases c : (A.2.2.2.2.1 n).length = 2 + (A.2.2.2.2.2 n).length
  · obtain ⟨z, hz⟩ : ∃ z, (A.2.2.2.2.1 n).getLast? = some z := by
      cases hh : (A.2.2.2.2.1 n).getLast? with
      | none => rw [List.getLast?_eq_none_iff] at hh; rw [hh] at c; simp only [List.length_nil] at c; omega
      | some z => exact ⟨z, rfl⟩
    have e2' : sg_g σ 14 n = z := by rw [e2, if_pos c, hz]; rfl
    have zm : z ∈ A.2.2.2.2.1 n := List.mem_of_getLast? hz
    have zr : 0 ≤ z ∧ z < 200 := by
      refine p6 z ?_
      rw [hks] at zm
      rcases List.mem_cons.mp zm with q | q
      · simp [q]
      · simp [q]
    have lst : ((A.2.2.2.2.1 n).map (sg_g σ 6)).getD (((A.2.2.2.2.1 n).map (sg_g σ 6)).length - 1) 0 = sg_g σ 6 z := by
      rw [List.getD_eq_getElem?_getD, List.length_map, List.getElem?_map, ← List.getLast?_eq_getElem?, hz]; rfl
    rw [b8, p1 14 200 rfl, e2', if_neg (by omega), xa_in zr]
    refine ⟨⟨fun q => absurd q (by omega), fun _ => ⟨fun _ => ⟨⟨by omega, by omega⟩, trivial⟩, fun _ => trivial⟩⟩, k _ ?_⟩
    rw [hkt, lst]
    by_cases c2 : sg_g σ 6 z = 0
    · rw [if_pos c2]
      exact okP_is (Or.inr ⟨by rw [decide_eq_true c2, Bool.or_true], rfl, by omega⟩)
    · rw [if_neg c2]
      exact okP_is (Or.inl ⟨by rw [decide_eq_false c2, Bool.or_false]; exact decide_eq_false (fun q => q (by rw [List.length_map]; exact c)), Or.inl (by decide)⟩)
  · have e2' : sg_g σ 14 n = -1 := by rw [e2, if_neg c]
    rw [b8, p1 14 200 rfl, e2']
    refine ⟨⟨fun _ => ⟨⟨by omega, by omega⟩, trivial⟩, fun q => absurd q (by decide)⟩, ?_⟩
    rw [if_pos (by decide)]
    refine k _ ?_
    rw [hkt]
    exact okP_is (Or.inr ⟨by rw [decide_eq_true (by rw [List.length_map]; exact c), Bool.true_or], rfl, by omega⟩)
theorem c_choice (h : ckW σ A) (hn : 0 ≤ n ∧ n < A.1) (hw : nW A n) (ht : ∀ x ∈ A.2.2.2.2.1 n, kIn (sg_g σ 6 x)) (hk : A.2.1 n = 3) (k : ∀ q, okP (kTy A ds (sg_g σ 6) e n ((A.2.2.2.2.1 n).map (sg_g σ 6))) q → Q q σ) : V_kDepthOf_264 σ n Q := by
  obtain ⟨p0, p1, p2, p3, p4, p5, p6⟩ := ckW_p h hn
  have ho : kOrd A n = A.2.2.2.2.1 n := by unfold kOrd; rw [if_neg (by omega)]
  rw [ho] at p2 p3 p4 p5 p6
  obtain ⟨n1, n2, n3, n4, n5, n6, n7, n8⟩ := hw
  have hl := n4 hk
  obtain ⟨x, y, w, hxy⟩ : ∃ x y w, A.2.2.2.2.1 n = [x, y, w] := by
    match hh : A.2.2.2.2.1 n with
    | [x, y, w] => exact ⟨x, y, w, rfl⟩
    | [] => rw [hh] at hl; simp at hl
    | [_] => rw [hh] at hl; simp at hl
    | [_, _] => rw [hh] at hl; simp at hl
    | _ :: _ :: _ :: _ :: _ => rw [hh] at hl; simp only [List.length_cons] at hl; omega
  have hkt : kTy A ds (sg_g σ 6) e n ((A.2.2.2.2.1 n).map (sg_g σ 6)) = kIs (decide (sg_g σ 6 x = 0) && decide (sg_g σ 6 y = sg_g σ 6 w)) (sg_g σ 6 y) := by
    simp only [kTy, hk]
    rw [hxy]; rfl
  rw [hxy] at p3 p4 p5 p6 ht
  have x7 := p3 x rfl
  have x8 := p4 w rfl
  have x9 := p5 0 x y rfl rfl
  have xr := p6 x (by simp)
  have ty := ht y (by simp)
  have tw := ht w (by simp)
  have tw1 := tw.1
  unfold V_kDepthOf_264 v_kDepthOfChoice
  rw [p1 7 200 rfl, p1 8 200 rfl, x7, x8, xa_in xr, x9, xa_in (p6 y (by simp)), xa_in (p6 w (by simp)), xa_in xr]
  refine k _ ?_
  rw [hkt]
  by_cases c1 : sg_g σ 6 y = sg_g σ 6 w
  · rw [if_neg (fun z => z c1)]
    by_cases c2 : sg_g σ 6 x = 0
    · rw [if_neg (fun z => z c2)]
      exact okP_is (Or.inr ⟨by rw [decide_eq_true c1, decide_eq_true c2]; rfl, c1.symm, by omega⟩)
    · rw [if_pos c2]
      exact okP_is (Or.inl ⟨by rw [decide_eq_false c2]; rfl, Or.inl (by decide)⟩)
  · rw [if_pos c1]
    exact okP_is (Or.inl ⟨by rw [decide_eq_false c1, Bool.and_false], Or.inl (by decide)⟩)
theorem c_depth (h : ckW σ A) (hn : 0 ≤ n ∧ n < A.1) (hw : nW A n) (ht : ∀ x ∈ A.2.2.2.2.1 n, kIn (sg_g σ 6 x)) (h1 : A.2.1 n = 1 → ∃ s, sg_g σ 16 n = s ∧ (0 ≤ s ∧ s < 272) ∧ kFind e (A.2.2.2.1 n) = some (sg_g σ 34 s) ∧ kIn (sg_g σ 34 s)) (h13 : A.2.1 n = 13 → ∃ q ps r, sg_g σ 16 n = q ∧ (0 ≤ q ∧ q < 12) ∧ kDef ds (A.2.2.2.1 n) = some (ps, r) ∧ dcQ σ q (ps, r) ∧ (0 ≤ r ∧ r < 200) ∧ kIn (sg_g σ 6 r)) (k : ∀ q, okP (kTy A ds (sg_g σ 6) e n ((A.2.2.2.2.1 n).map (sg_g σ 6))) q → Q q σ) : V_kDepthOf σ n (kmp (A.2.1 n)) Q := by
  obtain ⟨p0, p1, p2, p3, p4, p5, p6⟩ := ckW_p h hn
  obtain ⟨n1, n2, n3, n4, n5, n6, n7, n8⟩ := id hw
  have dd : (A.2.1 n ∈ ([4, 5, 6, 7, 8, 9, 10, 12, 17, 23, 25, 26, 27] : List Int) ∨ A.2.1 n ∈ ([11, 16, 18, 19, 20, 21, 22, 24] : List Int)) → V_kDepthOf_d σ n (kmp (A.2.1 n)) Q := fun hk => by
    have hkt : ∀ ts, kTy A ds (sg_g σ 6) e n ts = kTp (A.2.1 n) ts := fun ts => by
      have : 4 ≤ A.2.1 n ∧ ¬ A.2.1 n = 13 ∧ ¬ A.2.1 n = 14 ∧ ¬ A.2.1 n = 15 := by
        simp only [List.mem_cons, List.not_mem_nil, or_false] at hk; omega
      unfold kTy kTp
      simp only
      rw [if_neg (by omega), if_neg (by omega), if_neg (by omega), if_neg (by omega)]
      by_cases c1 : A.2.1 n < 11
      · rw [if_pos c1, if_pos c1]
      · rw [if_neg c1, if_neg c1]
        by_cases c2 : A.2.1 n = 11
        · rw [if_pos c2, if_pos c2]
        · rw [if_neg c2, if_neg c2]
          by_cases c3 : A.2.1 n = 12
          · rw [if_pos c3, if_pos c3]
          · rw [if_neg c3, if_neg c3, if_neg (by omega), if_neg (by omega), if_neg (by omega)]
    refine c_dep_d h hn ht ?_ (fun q hq => k q (by rw [hkt]; exact hq))
    rcases hk with hk | hk
    · refine Or.inl ⟨hk, fun z => n3 ?_⟩
      simp only [List.mem_cons, List.not_mem_nil, or_false] at hk; omega
    · exact Or.inr ⟨hk, n5⟩
  have cs : A.2.1 n = 0 ∨ A.2.1 n = 1 ∨ A.2.1 n = 2 ∨ A.2.1 n = 3 ∨ A.2.1 n = 13 ∨ A.2.1 n = 14 ∨ A.2.1 n = 15 ∨ ((A.2.1 n ∈ ([4, 5, 6, 7, 8, 9, 10, 12, 17, 23, 25, 26, 27] : List Int) ∨ A.2.1 n ∈ ([11, 16, 18, 19, 20, 21, 22, 24] : List Int))) := by
    simp only [List.mem_cons, List.not_mem_nil, or_false]; omega
  unfold V_kDepthOf
  rcases cs with c | c | c | c | c | c | c | c
  · rw [c]
    refine ⟨fun z => absurd z (by decide), fun _ => ⟨fun _ => ?_, fun z => absurd rfl z⟩⟩
    unfold V_kDepthOf_257
    exact k 0 (Or.inr ⟨by simp [kTy, c], by decide, by decide⟩)
  · rw [c]
    refine ⟨fun z => absurd z (by decide), fun _ => ⟨fun z => absurd z (by decide), fun _ => ⟨fun _ => ?_, fun z => absurd rfl z⟩⟩⟩
    obtain ⟨s, s1, s2, s3, s4⟩ := h1 c
    unfold V_kDepthOf_258
    rw [p1 16 200 rfl, s1, xa_in (a := 34) s2]
    exact k _ (Or.inr ⟨by simp only [kTy, c]; exact s3, s4.1, s4.2⟩)
  · have ho : kOrd A n = A.2.2.2.2.1 n := by unfold kOrd; rw [if_neg (by omega)]
    rw [ho] at p4 p6
    have hl := n3 (Or.inl c)
    obtain ⟨x, y, hxy⟩ : ∃ x y, A.2.2.2.2.1 n = [x, y] := by
      match hh : A.2.2.2.2.1 n with
      | [x, y] => exact ⟨x, y, rfl⟩
      | [] => rw [hh] at hl; simp at hl
      | [_] => rw [hh] at hl; simp at hl
      | _ :: _ :: _ :: _ => rw [hh] at hl; simp at hl
    have x8 := p4 y (by rw [hxy]; rfl)
    have yr := p6 y (by rw [hxy]; simp)
    have ty := ht y (by rw [hxy]; simp)
    have kk := k
    rw [c]
    refine ⟨fun z => absurd z (by decide), fun _ => ⟨fun z => absurd z (by decide), fun _ => ⟨fun z => absurd z (by decide), fun _ => ⟨fun _ => ?_, fun z => absurd rfl z⟩⟩⟩⟩
    unfold V_kDepthOf_262
    rw [p1 8 200 rfl, x8, xa_in yr]
    refine k _ (Or.inr ⟨?_, ty.1, ty.2⟩)
    simp only [kTy, c]
    rw [hxy]; rfl
  · have q := c_choice (ds := ds) (e := e) (Q := Q) h hn hw ht c k
    rw [c]
    exact ⟨fun z => absurd z (by decide), fun _ => ⟨fun z => absurd z (by decide), fun _ => ⟨fun z => absurd z (by decide), fun _ => ⟨fun z => absurd z (by decide), fun _ => ⟨fun _ => q, fun z => absurd rfl z⟩⟩⟩⟩⟩
  · obtain ⟨q, ps, r, s1, s2, s3, s4, s5, s6⟩ := h13 c
    have qq := c_call (ds := ds) (e := e) (Q := fun q1 _ => sg_R q1 → Q q1 σ) h hn ht c s1 s2 s3 s4 s5 s6 (fun q hq _ => k q hq)
    rw [c]
    exact ⟨fun z => absurd z (by decide), fun _ => ⟨fun z => absurd z (by decide), fun _ => ⟨fun z => absurd z (by decide), fun _ => ⟨fun z => absurd z (by decide), fun _ => ⟨fun z => absurd z (by decide), fun _ => ⟨fun z => absurd z (by decide), fun _ => ⟨fun _ => qq, fun z => absurd rfl z⟩⟩⟩⟩⟩⟩⟩
  · have qq := c_row (ds := ds) (e := e) (Q := fun q1 _ => sg_R q1 → Q q1 σ) h hn hw ht c (fun q hq _ => k q hq)
    rw [c]
    exact ⟨fun z => absurd z (by decide), fun _ => ⟨fun z => absurd z (by decide), fun _ => ⟨fun z => absurd z (by decide), fun _ => ⟨fun z => absurd z (by decide), fun _ => ⟨fun z => absurd z (by decide), fun _ => ⟨fun _ => qq, fun z => absurd rfl z⟩⟩⟩⟩⟩⟩
  · have q := c_each (ds := ds) (e := e) (Q := Q) h hn hw ht c k
    rw [c]
    exact ⟨fun _ => q, fun z => absurd rfl z⟩
  · have q := dd c
    have ne : ¬ kmp (A.2.1 n) = 123 ∧ ¬ kmp (A.2.1 n) = 257 ∧ ¬ kmp (A.2.1 n) = 258 ∧ ¬ kmp (A.2.1 n) = 262 ∧ ¬ kmp (A.2.1 n) = 264 ∧ ¬ kmp (A.2.1 n) = 279 ∧ ¬ kmp (A.2.1 n) = 280 := by
      generalize A.2.1 n = K at c
      revert K
      have h1 : ∀ K ∈ ([4, 5, 6, 7, 8, 9, 10, 12, 17, 23, 25, 26, 27] : List Int), ¬ kmp K = 123 ∧ ¬ kmp K = 257 ∧ ¬ kmp K = 258 ∧ ¬ kmp K = 262 ∧ ¬ kmp K = 264 ∧ ¬ kmp K = 279 ∧ ¬ kmp K = 280 := by decide
      have h2 : ∀ K ∈ ([11, 16, 18, 19, 20, 21, 22, 24] : List Int), ¬ kmp K = 123 ∧ ¬ kmp K = 257 ∧ ¬ kmp K = 258 ∧ ¬ kmp K = 262 ∧ ¬ kmp K = 264 ∧ ¬ kmp K = 279 ∧ ¬ kmp K = 280 := by decide
      intro K hK
      rcases hK with hK | hK
      · exact h1 K hK
      · exact h2 K hK
    exact ⟨fun z => absurd z ne.1, fun _ => ⟨fun z => absurd z ne.2.1, fun _ => ⟨fun z => absurd z ne.2.2.1, fun _ => ⟨fun z => absurd z ne.2.2.2.1, fun _ => ⟨fun z => absurd z ne.2.2.2.2.1, fun _ => ⟨fun z => absurd z ne.2.2.2.2.2.1, fun _ => ⟨fun z => absurd z ne.2.2.2.2.2.2, fun _ => q⟩⟩⟩⟩⟩⟩⟩
end DPT
