/-! lookThrough of the reference, turn by turn. -/
theorem kRun_inv {A : aT} {ds : kD} {r : Option ((Int → Int) × (Int → Int))} {cm m c : Nat} {n s' : Int} {p : List (Int × Int)} {e eb : kE} {T B : Int → Int} (h : kRun A ds r cm m c ((n, s') :: p) e T eb B) : ∃ s : Nat, s' = s ∧ kNd A T n s ∧ e.length ≤ 250 ∧ p.length ≤ 400 ∧ ((A.2.1 n = 15 ∧ s = (A.2.2.2.2.2 n).length ∧ kGens T (A.2.2.2.2.2 n) (kGs A n) = false) → r = none ∧ (kBd A T e n s).length + c ≤ 272 + e.length) ∧ (¬ (A.2.1 n = 15 ∧ s = (A.2.2.2.2.2 n).length ∧ kGens T (A.2.2.2.2.2 n) (kGs A n) = false) → (∃ x m', m = m' + 1 ∧ (kOrd A n)[s]? = some x ∧ ¬ x = n ∧ (∀ y ∈ p, ¬ y.1 = x) ∧ e.length ≤ (kBd A T e n s).length ∧ (kBd A T e n s).length + c ≤ 272 + e.length ∧ kRun A ds r cm m' (c + ((kBd A T e n s).length - e.length)) ((x, 0) :: (n, ((s + 1 : Nat) : Int)) :: p) (kBd A T e n s) T (kBb A eb n s) B) ∨ (s = (kOrd A n).length ∧ kBn A n ≤ e.length ∧ ((∀ q ∈ e.drop (kBn A n), kIn q.2) ∧ kDi ds T) ∧ ((kTy A ds T (e.drop (kBn A n)) n ((A.2.2.2.2.1 n).map T) = none ∧ r = none) ∨ ∃ ty m', m = m' + 1 ∧ kTy A ds T (e.drop (kBn A n)) n ((A.2.2.2.2.1 n).map T) = some ty ∧ kRun A ds r cm m' c p (e.drop (kBn A n)) (aU T n ty) (eb.drop (kBn A n)) (kUp A ds (eb.drop (kBn A n)) n B)))) := by
  have nog : ∀ s : Nat, kNd A T n s → s = (kOrd A n).length → ¬ (A.2.1 n = 15 ∧ s = (A.2.2.2.2.2 n).length ∧ kGens T (A.2.2.2.2.2 n) (kGs A n) = false) := fun s a d x => by
    obtain ⟨n1, n2, n3, n4, n5, n6, n7, n8⟩ := a.2.1
    have n7 := n7 x.1
    rw [kOrd_len] at d
    have := x.2.1
    omega
  have two : kSt A ds r cm c ((n, s') :: p) e T eb B ∨ ∃ m', m = m' + 1 ∧ kSp A ds (kRun A ds r cm m') c ((n, s') :: p) e T eb B := by
    cases m with
    | zero => exact Or.inl h
    | succ m' =>
      rcases h with h | h
      · exact Or.inl h
      · exact Or.inr ⟨m', rfl, h⟩
  clear h
  rcases two with h | ⟨m', rfl, n', s, p', h0, a, b, cc, h9⟩
  · rcases h with ⟨h, -⟩ | ⟨n', s, p', h0, a, b, cc, h9⟩
    · cases h
    · cases h0
      rcases h9 with ⟨d, e1, f, g, h⟩ | ⟨d, e0, e2, e1, f⟩
      · exact ⟨s, rfl, a, b, cc, fun _ => ⟨h, g⟩, fun x => absurd ⟨d, e1, f⟩ x⟩
      · exact ⟨s, rfl, a, b, cc, fun x => absurd x (nog s a d), fun _ => Or.inr ⟨d, e0, e2, Or.inl ⟨e1, f⟩⟩⟩
  · cases h0
    rcases h9 with ⟨x, d, e1, x1, x2, x3, x4, f⟩ | ⟨ty, d, e0, e2, e1, f⟩
    · exact ⟨s, rfl, a, b, cc, fun x => (by rw [d x.1 x.2.1] at x; cases x.2.2), fun _ => Or.inl ⟨x, m', rfl, e1, x1, x2, x3, x4, f⟩⟩
    · exact ⟨s, rfl, a, b, cc, fun x => absurd x (nog s a d), fun _ => Or.inr ⟨d, e0, e2, Or.inr ⟨ty, m', rfl, e1, f⟩⟩⟩
theorem kBd_end {A : aT} {T : Int → Int} {e : kE} {n : Int} {s : Nat} (hw : nW A n) (hs : s = (kOrd A n).length) : kBd A T e n s = e := by
  obtain ⟨n1, n2, n3, n4, n5, n6, n7, n8⟩ := hw
  rw [kOrd_len] at hs
  refine kBd_no ⟨fun x => ?_, fun x => ?_⟩ T e
  · have := n3 (Or.inl x.1); omega
  · have := n7 x.1; omega
theorem kBb_end {A : aT} {eb : kE} {n : Int} {s : Nat} (hw : nW A n) (hs : s = (kOrd A n).length) : kBb A eb n s = eb := by
  obtain ⟨n1, n2, n3, n4, n5, n6, n7, n8⟩ := hw
  rw [kOrd_len] at hs
  refine kBb_no ⟨fun x => ?_, fun x => ?_⟩ eb
  · have := n3 (Or.inl x.1); omega
  · have := n7 x.1; omega
theorem kRun_0 {A : aT} {ds : kD} {r : Option ((Int → Int) × (Int → Int))} {cm m c : Nat} {e eb : kE} {T B : Int → Int} (h : kRun A ds r cm m c [] e T eb B) : r = some (T, B) ∧ c ≤ cm := by
  have stp : kSt A ds r cm c [] e T eb B → r = some (T, B) ∧ c ≤ cm := fun h => by
    rcases h with ⟨-, a, b⟩ | ⟨n', s, p', h0, -⟩
    · exact ⟨b, a⟩
    · cases h0
  cases m with
  | zero => exact stp h
  | succ m =>
    rcases h with h | ⟨n', s, p', h0, -⟩
    · exact stp h
    · cases h0
theorem q_lookThrough {σ : sg_S} {A : aT} {ds : kD} {e eb : kE} {n : Int} {Q : sg_S → Prop} (h : trT σ A) (hc : cT A 0 n) (hlen : ∀ L : List Int, L.Nodup → (∀ x ∈ L, 0 ≤ x ∧ x < A.1) → L.length ≤ 200) (hF : sg_g σ 88 29 = 0) (he : kPs σ e eb) (hel : e.length ≤ 50) (hei : ∀ q ∈ e, kIn q.2) (hdi : kDi ds (sg_g σ 101)) (hd : dsR σ (sg_g σ 88 45) ds) (hl : ds.length ≤ 12) (hr : ∀ d ∈ ds, 0 ≤ d.2.2 ∧ d.2.2 < A.1) (k1 : ∀ σ', kGo A ds 201 e n (sg_g σ 101) = none → ¬ sg_g σ' 88 29 = 0 → sg_F [101, 102, 113, 114, 115, 116, 117, 118, 30088, 31088, 38088, 43088] σ σ' → Q σ') (k2 : ∀ σ', kGo A ds 201 e n (sg_g σ 101) = some (sg_g σ' 101) → sg_g σ' 102 = kBo A ds 201 eb n (sg_g σ 102) → sg_g σ' 88 29 = 0 → sg_F [101, 102, 113, 114, 115, 116, 117, 118, 30088, 31088, 38088, 43088] σ σ' → Q σ') : V_lookThrough σ n Q := by
  have h200 := h.1.2.2.1
  obtain ⟨L, hL1, hL2, hL3⟩ := hc
  have hLl := hlen L hL2 hL3
  have hnn : 0 ≤ n ∧ n < A.1 := hL3 n (fT_sub hL1 n (by simp))
  obtain ⟨r, hr1, hr2, hr3⟩ : ∃ r : Option ((Int → Int) × (Int → Int)), (kGo A ds 201 e n (sg_g σ 101) = none → r = none) ∧ (∀ T1, kGo A ds 201 e n (sg_g σ 101) = some T1 → r = some (T1, kBo A ds 201 eb n (sg_g σ 102))) ∧ (r = none → kGo A ds 201 e n (sg_g σ 101) = none) := by
    cases kGo A ds 201 e n (sg_g σ 101) with
    | none => exact ⟨none, fun _ => rfl, fun T1 z => (by cases z), fun _ => rfl⟩
    | some T1 => exact ⟨some (T1, kBo A ds 201 eb n (sg_g σ 102)), fun z => (by cases z), fun T2 z => (by cases z; rfl), fun z => (by cases z)⟩
  have run0 : kRun A ds r 272 (0 + (2 * L.length - 1)) 0 [(n, 0)] e (sg_g σ 101) eb (sg_g σ 102) := kNL_all A ds 201 _ 272 0 0 n L [] e (sg_g σ 101) eb (sg_g σ 102) hL1 hL3 hL2 (by simp) (by omega) (by omega) (by simp only [List.length_nil]; omega) (by omega) hdi hei hr1 (fun T1 c' x _ _ => kRun_nil 0 c' e T1 eb _ (by omega) (hr2 T1 x))
  have k1' : ∀ σ', r = none → ¬ sg_g σ' 88 29 = 0 → sg_F [101, 102, 113, 114, 115, 116, 117, 118, 30088, 31088, 38088, 43088] σ σ' → Q σ' := fun σ' z => k1 σ' (hr3 z)
  have k2' : ∀ σ', r = some (sg_g σ' 101, sg_g σ' 102) → sg_g σ' 88 29 = 0 → sg_F [101, 102, 113, 114, 115, 116, 117, 118, 30088, 31088, 38088, 43088] σ σ' → Q σ' := fun σ' z => by
    cases hg : kGo A ds 201 e n (sg_g σ 101) with
    | none => rw [hr1 hg] at z; cases z
    | some T1 =>
      have z2 := hr2 T1 hg
      rw [z] at z2
      have z3 := Prod.mk.inj (Option.some.inj z2)
      exact k2 σ' (by rw [hg, z3.1]) z3.2
  clear k1 k2 hr1 hr2 hr3
  unfold V_lookThrough
  intro σ1 e1 σ4 e4 σ7 e7
  have f7 : sg_F [101, 102, 113, 114, 115, 116, 117, 118, 30088, 31088, 38088, 43088] σ σ7 := by
    rw [e7, e4, e1]; exact sg_F_w (sg_F_w (sg_F_w (sg_F_r _ _) rfl _) rfl _) rfl _
  have f7' : sg_F [117, 118, 43088] σ σ7 := by
    rw [e7, e4, e1]; exact sg_F_w (sg_F_w (sg_F_w (sg_F_r _ _) rfl _) rfl _) rfl _
  refine ⟨kI A ds r, fun σ10 => (sg_g σ10 88 29 = 0 ∧ r = some (sg_g σ10 101, sg_g σ10 102)) ∨ (¬ sg_g σ10 88 29 = 0 ∧ r = none), ⟨(0 + (2 * L.length - 1)) + 1, Or.inl ⟨?_, 0 + (2 * L.length - 1), 0, [(n, 0)], e, eb, rfl, ⟨⟨?_, ?_, ?_, ?_⟩, ?_⟩, ?_⟩⟩, ?_, ?_⟩
  · rw [sg_F_g f7' (by rfl)]; exact hF
  · rw [e7, sg_gw_c _ _ _ _ _ _ (by decide), e4, sg_gw_c _ _ _ _ _ _ (by decide), e1, sg_gw_e _ _ _ _ (by decide)]; decide
  · rw [e7, sg_gw_c _ 118 88 _ _ _ (by decide), sg_gw_c _ _ _ _ _ _ (by decide), e4, sg_gw_c _ 117 88 _ _ _ (by decide), e1, sg_gw_e _ _ _ _ (by decide)]
    exact sg_gw_e _ _ _ _ ⟨by omega, by omega⟩
  · rw [e7, sg_gw_c _ 118 88 _ _ _ (by decide), e4, sg_gw_c _ 117 88 _ _ _ (by decide), e1, sg_gw_e _ _ _ _ (by decide)]
    exact sg_gw_e _ _ _ _ (by decide)
  · rw [e7, sg_gw_c _ 118 88 _ _ _ (by decide), e4, sg_gw_c _ 117 88 _ _ _ (by decide), e1, sg_gw_e _ _ _ _ (by decide)]
    rfl
  · exact kPs_F he f7' rfl
  · rw [show sg_g σ7 101 = sg_g σ 101 from funext fun _ => sg_F_ga f7' rfl, show sg_g σ7 102 = sg_g σ 102 from funext fun _ => sg_F_ga f7' rfl]
    exact run0
  · rintro k σ10 fr hI
    have f10 := sg_F_t f7 fr
    refine ⟨fun c => ?_, fun c => ⟨fun d => ?_, fun d => ?_⟩⟩
    · rcases hI with ⟨i1, m, c0, p, ee, eeb, i2, ⟨i3, i4⟩, i5⟩ | i
      · have := pst_n i3
        cases p with
        | nil => exact Or.inl ⟨i1, (kRun_0 i5).1⟩
        | cons x p => simp only [List.length_cons] at this; omega
      · exact Or.inr i
    · rcases hI with ⟨i1, -⟩ | i
      · exact absurd i1 d
      · exact Or.inr i
    · rcases hI with ⟨i1, m, c0, p0, e0, eb0, rfl, ⟨i3, i4⟩, i5⟩ | ⟨i, -⟩
      rotate_left
      · exact absurd d i
      cases p0 with
      | nil => have := pst_n i3; simp only [List.length_nil] at this; omega
      | cons y p =>
        obtain ⟨q, s'⟩ := y
        obtain ⟨s, rfl, hnd, b1, b2, g1, g2⟩ := kRun_inv i5
        have pn := pst_n i3
        simp only [List.length_cons] at pn
        obtain ⟨p1, p2, p3, p4⟩ := i3
        simp only at p2 p3
        rw [p2, p3]
        obtain ⟨hq, hw, hso, hst⟩ := hnd
        have t10 := trT_F h f10 rfl
        obtain ⟨a1, a2, a3, a4, a5, a6, a7, a8, a9⟩ := h.1.2.2.2 q hq.1 hq.2
        obtain ⟨n1, n2, n3, n4, n5, n6, n7, n8⟩ := hw
        have hw : nW A q := ⟨n1, n2, n3, n4, n5, n6, n7, n8⟩
        have hkl := kOrd_len A q
        have hpt := q_part h hq hw hso
        rw [a1, a7]
        generalize hT : sg_g σ10 101 = T at *
        generalize hTB : sg_g σ10 102 = TB at *
        have en := pst_n i4.1
        refine ⟨⟨by omega, by omega⟩, ⟨by omega, by omega⟩, ⟨by omega, by omega⟩, fun σ31 => sg_g σ31 88 29 = 0 ∧ kPs σ31 (if A.2.1 q = 2 ∧ s = 1 then (A.2.2.2.1 q, T ((A.2.2.2.2.1 q).getD 0 0)) :: e0 else e0) (if A.2.1 q = 2 ∧ s = 1 then (A.2.2.2.1 q, q) :: eb0 else eb0), ⟨fun c2 => ⟨d, ?_⟩, fun c2 => ⟨fun c3 => ⟨d, ?_⟩, fun c3 => ?_⟩⟩, ?_⟩
        · rw [if_neg (fun x => c2 x.1), if_neg (fun x => c2 x.1)]; exact i4
        · rw [if_neg (fun x => c3 (by omega)), if_neg (fun x => c3 (by omega))]; exact i4
        · have l2 := n3 (Or.inl c2)
          have t := trT_kid t10 hq (j := 0) (by omega)
          have t1 := t.1
          have t2 := t.2
          rw [show ((0 : Nat) : Int) = 0 from rfl] at t1 t2
          have e0' : v_kidType σ10 q 0 = T ((A.2.2.2.2.1 q).getD 0 0) := by
            rw [List.getElem?_map, hT] at t2
            cases hz : (A.2.2.2.2.1 q)[0]? with
            | none => rw [hz] at t2; cases t2
            | some z =>
              rw [hz] at t2
              rw [List.getD_eq_getElem?_getD, hz]
              exact (Option.some.inj t2).symm
          refine ⟨t1, q_know i4 (by omega) (sg_Rgl _ _ _) (sg_Rg _ _ _) ⟨by omega, by omega⟩ (fun σ98 x1 x2 _ => ⟨?_, ?_⟩)⟩
          · rw [sg_F_g x2 (by rfl)]; exact d
          · rw [if_pos ⟨c2, by omega⟩, if_pos ⟨c2, by omega⟩, ← e0', ← a3]; exact x1
        · rintro σ31 fr31 ⟨d31, e31⟩
          have t31 := trT_F t10 fr31 rfl
          have T31 : sg_g σ31 101 = T := by rw [← hT]; exact funext fun _ => sg_F_ga fr31 rfl
          refine ⟨fun σ37 => (sg_g σ37 88 29 = 0 ∧ kPs σ37 (kBd A T e0 q s) (kBb A eb0 q s) ∧ ¬ (A.2.1 q = 15 ∧ s = (A.2.2.2.2.2 q).length ∧ kGens T (A.2.2.2.2.2 q) (kGs A q) = false)) ∨ (¬ sg_g σ37 88 29 = 0 ∧ r = none), ⟨fun c2 => Or.inl ⟨d31, ?_, fun x => c2 x.1⟩, fun c2 => ⟨fun c3 => Or.inl ⟨d31, ?_, fun x => c3 (by omega)⟩, fun c3 => ?_⟩⟩, ?_⟩
          · unfold kBd kBb
            by_cases c : A.2.1 q = 2 ∧ s = 1
            · rw [if_pos c, if_pos c] at e31
              rw [if_pos c, if_pos c]; exact e31
            · rw [if_neg c, if_neg c] at e31
              rw [if_neg c, if_neg c, if_neg (fun x => c2 x.1), if_neg (fun x => c2 x.1)]; exact e31
          · have c9 : ¬ (A.2.1 q = 2 ∧ s = 1) := fun x => by omega
            have c8 : ¬ (A.2.1 q = 15 ∧ s = (A.2.2.2.2.2 q).length) := fun x => c3 (by omega)
            unfold kBd kBb
            rw [if_neg c9, if_neg c9] at e31
            rw [if_neg c9, if_neg c9, if_neg c8, if_neg c8]; exact e31
          · have l7 := n7 c2
            have c9 : ¬ (A.2.1 q = 2 ∧ s = 1) := fun x => by omega
            rw [if_neg c9, if_neg c9] at e31
            have hgx : ∀ x ∈ kGs A q, x ∈ (kOrd A q).take s := fun x hx => by
              unfold kGs at hx
              unfold kOrd
              rw [if_pos c2, List.take_append_of_le_length (by rw [List.length_drop]; omega), show s = (A.2.2.2.2.2 q).length by omega]
              exact hx
            refine q_lookGens t31 hq d31 (by omega) (fun x hx => by rw [T31]; exact hst x (hgx x hx)) e31 b1 (fun σ' x1 x2 x3 _ => ?_) (fun σ' x1 x2 x3 x4 _ => ?_)
            · rw [T31] at x1
              exact Or.inr ⟨x2, (g1 ⟨c2, by omega, x1⟩).1⟩
            · rw [T31] at x1 x3
              refine Or.inl ⟨x2, ?_, fun z => by rw [x1] at z; cases z.2.2⟩
              have c8 : A.2.1 q = 15 ∧ s = (A.2.2.2.2.2 q).length := ⟨c2, by omega⟩
              unfold kBd kBb
              rw [if_neg c9, if_neg c9, if_pos c8, if_pos c8]
              exact x3
          · intro σ37 fr37 h37
            refine ⟨hpt.1, ⟨by omega, by omega⟩, fun σ43 e43 => ?_⟩
            have f37 : sg_F [113, 114, 115, 116, 30088, 31088, 38088] σ10 σ37 := sg_F_t (sg_F_m fr31 rfl) fr37
            have f43 : sg_F [113, 114, 115, 116, 30088, 31088, 38088, 118] σ10 σ43 := by rw [e43]; exact sg_F_w (sg_F_m f37 rfl) rfl _
            have F43 : sg_F [101, 102, 113, 114, 115, 116, 117, 118, 30088, 31088, 38088, 43088] σ σ43 := sg_F_t f10 (sg_F_m f43 rfl)
            refine ⟨fun d37 => ?_, fun d37 => ?_⟩
            rotate_left
            · rcases h37 with ⟨x, -⟩ | ⟨x1, x2⟩
              · exact absurd x d37
              · refine k1' σ43 x2 ?_ F43
                rw [e43, sg_gw_c _ _ _ _ _ _ (by decide)]; exact d37
            rcases h37 with ⟨-, e37, ng⟩ | ⟨x1, -⟩
            rotate_left
            · exact absurd d37 x1
            have d43 : sg_g σ43 88 29 = 0 := by rw [e43, sg_gw_c _ _ _ _ _ _ (by decide)]; exact d37
            have e43p : kPs σ43 (kBd A T e0 q s) (kBb A eb0 q s) := by
              refine kPs_F (L := [118]) e37 ?_ rfl
              rw [e43]; exact sg_F_w (sg_F_r _ _) rfl _
            have B43 : sg_g σ43 102 = TB := by rw [← hTB]; exact funext fun _ => sg_F_ga f43 rfl
            have T43 : sg_g σ43 101 = T := by rw [← hT]; exact funext fun _ => sg_F_ga f43 rfl
            have l43 : sg_g σ43 88 42 = sg_g σ10 88 42 := sg_F_g f43 rfl
            have p43 : pst (sg_g σ43 117) (sg_g σ43 118) (sg_g σ10 88 42) ((q, ((s + 1 : Nat) : Int)) :: p) := by
              refine ⟨p1, ?_, ?_, pst_e p4 (fun j x1 x2 => ⟨sg_F_ga f43 rfl, ?_⟩)⟩
              · rw [sg_F_ga f43 rfl]; exact p2
              · rw [e43, sg_gw_e _ _ _ _ ⟨by omega, by omega⟩]; simp only; omega
              · rw [e43, sg_gw_k _ _ _ _ _ _ (by omega)]
                exact sg_F_ga f37 rfl
            rcases g2 ng with ⟨x, m', rfl, hx, -, -, -, -, hrun⟩ | ⟨hs, kb, -, hty⟩
            · -- one more part
              rcases hpt.2 with ⟨x', hx', hv, hv2⟩ | ⟨hs, -⟩
              rotate_left
              · rw [hs, List.getElem?_eq_none (Nat.le_refl _)] at hx; cases hx
              rw [hx] at hx'
              cases hx'
              have xr : 0 ≤ x ∧ x < A.1 := by
                have : x ∈ A.2.2.2.2.1 q := by
                  have := List.mem_of_getElem? hx
                  unfold kOrd at this
                  split at this
                  · rcases List.mem_append.mp this with z | z
                    · exact List.mem_of_mem_drop z
                    · exact List.mem_of_mem_take z
                  · exact this
                exact h.2 q hq.1 hq.2 x this
              refine ⟨fun σ50 => sg_g σ50 88 29 = 0 ∧ kRp σ50 ((x, 0) :: (q, ((s + 1 : Nat) : Int)) :: p) (kBd A T e0 q s) (kBb A eb0 q s) ∧ sg_g σ50 101 = T ∧ sg_g σ50 102 = TB, ⟨fun z => absurd hv.1 (by omega), fun _ => ⟨⟨by omega, by omega⟩, ⟨by omega, by omega⟩, ⟨by omega, by omega⟩, ⟨by omega, by omega⟩, fun σ77 e77 σ80 e80 => ⟨⟨by omega, by omega⟩, fun σ84 e84 => ?_⟩⟩⟩, ?_⟩
              · rw [hv2] at e77
                have f84 : sg_F [117, 118, 43088] σ43 σ84 := by
                  rw [e84, e80, e77]; exact sg_F_w (sg_F_w (sg_F_w (sg_F_r _ _) rfl _) rfl _) rfl _
                have l84 : sg_g σ84 88 42 = sg_g σ10 88 42 + 1 := by rw [e84, sg_gw_e _ _ _ _ ⟨by omega, by omega⟩]
                refine ⟨?_, ⟨⟨by omega, ?_, ?_, ?_⟩, ?_⟩, ?_, ?_⟩
                · rw [sg_F_g f84 (by rfl)]; exact d43
                · rw [l84, show sg_g σ10 88 42 + 1 - 1 = sg_g σ10 88 42 by omega, e84, sg_gw_c _ _ _ _ _ _ (by decide), e80, sg_gw_c _ _ _ _ _ _ (by decide), e77, sg_gw_e _ _ _ _ ⟨by omega, by omega⟩]
                · rw [l84, show sg_g σ10 88 42 + 1 - 1 = sg_g σ10 88 42 by omega, e84, sg_gw_c _ _ _ _ _ _ (by decide), e80, sg_gw_e _ _ _ _ (by decide)]
                · rw [l84, show sg_g σ10 88 42 + 1 - 1 = sg_g σ10 88 42 by omega]
                  refine pst_e p43 (fun j x1 x2 => ⟨?_, ?_⟩)
                  · rw [e84, sg_gw_c _ _ _ _ _ _ (by decide), e80, sg_gw_c _ _ _ _ _ _ (by decide), e77, sg_gw_k _ _ _ _ _ _ (by omega)]
                  · rw [e84, sg_gw_c _ _ _ _ _ _ (by decide), e80, sg_gw_k _ _ _ _ _ _ (by omega), e77, sg_gw_c _ _ _ _ _ _ (by decide)]
                · exact kPs_F e43p f84 rfl
                · rw [← T43]; exact funext fun _ => sg_F_ga f84 rfl
                · rw [← B43]; exact funext fun _ => sg_F_ga f84 rfl
              · rintro σ50 fr50 ⟨x1, x2, x3, x4⟩
                exact ⟨m' + 1, by omega, Or.inl ⟨x1, m', _, _, _, _, rfl, x2, by rw [x3, x4]; exact hrun⟩⟩
            · -- all parts are done
              rcases hpt.2 with ⟨x', hx', -⟩ | ⟨-, hv⟩
              · rw [hs, List.getElem?_eq_none (Nat.le_refl _)] at hx'; cases hx'
              rw [kBd_end hw hs, kBb_end hw hs] at e43p
              have kbn : ((kBn A q : Nat) : Int) = (if ¬ A.2.1 q = 2 then (if ¬ A.2.1 q = 15 then (0 : Int) else ((A.2.2.2.2.2 q).length : Int)) else 1) := by
                unfold kBn
                by_cases x1 : A.2.1 q = 2
                · rw [if_pos x1, if_neg (fun z => z x1)]; rfl
                · rw [if_neg x1, if_pos x1]
                  by_cases x2 : A.2.1 q = 15
                  · rw [if_pos x2, if_neg (fun z => z x2)]
                  · rw [if_neg x2, if_pos x2]; rfl
              have e37' := e37
              rw [kBd_end hw hs, kBb_end hw hs] at e37'
              have en37 := pst_n e37'.1
              have en37b := pst_n e37'.2
              refine ⟨fun σ50 => (sg_g σ50 88 29 = 0 ∧ ∃ ty m', m = m' + 1 ∧ kRp σ50 p (e0.drop (kBn A q)) (eb0.drop (kBn A q)) ∧ sg_g σ50 101 = aU T q ty ∧ sg_g σ50 102 = kUp A ds (eb0.drop (kBn A q)) q TB ∧ kRun A ds r 272 m' c0 p (e0.drop (kBn A q)) (aU T q ty) (eb0.drop (kBn A q)) (kUp A ds (eb0.drop (kBn A q)) q TB)) ∨ (¬ sg_g σ50 88 29 = 0 ∧ r = none), ⟨fun _ => ⟨⟨fun _ => ⟨fun _ => trivial, fun _ => trivial⟩, fun _ => trivial⟩, fun v56 e56 r56 => ⟨⟨?_, ?_⟩, fun σ60 e60 => ?_⟩⟩, fun z => absurd z (by omega)⟩, ?_⟩
              · rw [e56, ← kbn]; unfold kBn; repeat' split
                all_goals omega
              · rw [e56, ← kbn]; unfold kBn; repeat' split
                all_goals omega
              · have e56' : v56 = ((kBn A q : Nat) : Int) := by rw [e56, kbn]
                have f60 : sg_F [38088] σ43 σ60 := by rw [e60]; exact sg_F_w (sg_F_r _ _) rfl _
                have t60 := trT_F (trT_F t10 f43 rfl) f60 rfl
                have T60 : sg_g σ60 101 = T := by rw [← T43]; exact funext fun _ => sg_F_ga f60 rfl
                have d60 : sg_g σ60 88 29 = 0 := by rw [sg_F_g f60 (by rfl)]; exact d43
                have F60 : sg_F [101, 102, 113, 114, 115, 116, 117, 118, 30088, 31088, 38088, 43088] σ σ60 := sg_F_t F43 (sg_F_m f60 rfl)
                have B60 : sg_g σ60 102 = TB := by rw [← B43]; exact funext fun _ => sg_F_ga f60 rfl
                have ep60 : kPs σ60 (e0.drop (kBn A q)) (eb0.drop (kBn A q)) := by
                  have y : sg_g σ60 88 37 = sg_g σ37 88 37 - ((kBn A q : Nat) : Int) := by
                    rw [e60, sg_gw_e _ _ _ _ ⟨by omega, by omega⟩, e56']
                  refine ⟨?_, ?_⟩
                  · rw [y]
                    refine pst_e (pst_d (kBn A q) e37'.1 kb) (fun j _ _ => ⟨?_, ?_⟩)
                    · rw [e60, sg_gw', e43, sg_gw']
                    · rw [e60, sg_gw_c _ _ _ _ _ _ (by decide), e43, sg_gw_c _ _ _ _ _ _ (by decide)]
                  · rw [y]
                    refine pst_e (pst_d (kBn A q) e37'.2 (by omega)) (fun j _ _ => ⟨?_, ?_⟩)
                    · rw [e60, sg_gw', e43, sg_gw']
                    · rw [e60, sg_gw_c _ _ _ _ _ _ (by decide), e43, sg_gw_c _ _ _ _ _ _ (by decide)]
                have D60 : dsR σ60 (sg_g σ60 88 45) ds := by
                  rw [sg_F_g F60 (by rfl)]; exact dsR_F hd F60 rfl
                have pil : ∀ σ64, sg_F [101, 102, 30088, 31088] σ60 σ64 → pst (sg_g (sg_w σ64 88 42 (sg_g σ10 88 42 - 1)) 117) (sg_g (sg_w σ64 88 42 (sg_g σ10 88 42 - 1)) 118) (sg_g (sg_w σ64 88 42 (sg_g σ10 88 42 - 1)) 88 42) p := fun σ64 f64 => by
                  rw [sg_gw_e _ _ _ _ ⟨by omega, by omega⟩]
                  refine pst_e p43.2.2.2 (fun j _ _ => ⟨?_, ?_⟩)
                  · rw [sg_gw_c _ _ _ _ _ _ (by decide), sg_F_ga f64 rfl, sg_F_ga f60 rfl]
                  · rw [sg_gw_c _ _ _ _ _ _ (by decide), sg_F_ga f64 rfl, sg_F_ga f60 rfl]
                refine q_lookAt t60 hq (fun y hy => ?_) ep60 (by rw [List.length_drop]; omega) D60 hl hr n4 n1.1 (fun σ64 x1 x2 x3 _ σ69 e69 => ?_) (fun σ64 ty x1 x2 x3 xB x4 _ σ69 e69 => ?_)
                · rw [kTs, T60] at hy
                  obtain ⟨z, hz, rfl⟩ := List.mem_map.mp hy
                  exact hst z (by rw [hs, List.take_length]; exact kOrd_mem hz)
                · rw [T60, kTs, T60] at x1
                  right
                  refine ⟨by rw [e69, sg_gw_k _ _ _ _ _ _ (by decide)]; exact x2, ?_⟩
                  rcases hty with ⟨-, z⟩ | ⟨ty, m', -, z, -⟩
                  · exact z
                  · rw [x1] at z; cases z
                · rw [T60, kTs, T60] at x1
                  left
                  rcases hty with ⟨z, -⟩ | ⟨ty', m', z1, z, z2⟩
                  · rw [x1] at z; cases z
                  · rw [x1] at z
                    cases z
                    refine ⟨?_, ty, m', z1, ⟨?_, ?_⟩, ?_, ?_, z2⟩
                    · rw [e69, sg_gw_k _ _ _ _ _ _ (by decide), sg_F_g x4 (by rfl)]; exact d60
                    · rw [e69]; exact pil σ64 (sg_F_m x4 rfl)
                    · refine kPs_F (L := [43088]) (kPs_F ep60 x4 rfl) ?_ rfl
                      rw [e69]; exact sg_F_w (sg_F_r _ _) rfl _
                    · rw [e69, show sg_g (sg_w σ64 88 42 (sg_g σ10 88 42 - 1)) 101 = sg_g σ64 101 from funext fun _ => sg_gw_c _ _ _ _ _ _ (by decide), x3]
                      funext j
                      by_cases c : j = q
                      · rw [c, sg_gw_e _ _ _ _ x2]; simp only [aU, if_true]
                      · rw [sg_gw_k _ _ _ _ _ _ c, T60]; simp only [aU, c, if_false]
                    · rw [e69, show sg_g (sg_w σ64 88 42 (sg_g σ10 88 42 - 1)) 102 = sg_g σ64 102 from funext fun _ => sg_gw_c _ _ _ _ _ _ (by decide), xB, B60]
              · rintro σ50 fr50 (⟨x1, ty, m', rfl, x2, x3, x5, x4⟩ | x)
                · exact ⟨m' + 1, by omega, Or.inl ⟨x1, m', _, _, _, _, rfl, x2, by rw [x3, x5]; exact x4⟩⟩
                · exact ⟨0, by omega, Or.inr x⟩
  · rintro σ10 fr (⟨x1, x2⟩ | ⟨x1, x2⟩)
    · exact k2' σ10 x2 x1 (sg_F_t f7 fr)
    · exact k1' σ10 x2 x1 (sg_F_t f7 fr)
