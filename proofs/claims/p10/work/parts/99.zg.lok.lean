/-! lookDef, look of the reference: kDf, kPg. -/
theorem dsR_no {σ : sg_S} {w : Int} : ∀ {n : Int} {ds : kD}, dsR σ n ds → (kDef ds w = none ↔ ∀ j, 0 ≤ j → j < n → ¬ sg_gl σ 103 j = w)
  | n, [], h => by
    simp only [dsR] at h
    exact ⟨fun _ j a b => by omega, fun _ => rfl⟩
  | n, x :: r, h => by
    obtain ⟨b1, b2, b3, b4, b5, b6, b7⟩ := h
    have ih := dsR_no (w := w) b7
    unfold kDef
    by_cases c : x.1 = w
    · rw [if_pos c]
      exact ⟨fun q => (by cases q), fun q => absurd (b2.trans c) (q (n - 1) (by omega) (by omega))⟩
    · rw [if_neg c, ih]
      refine ⟨fun q j y z => ?_, fun q j y z => q j y (by omega)⟩
      by_cases e : j = n - 1
      · rw [e, b2]; exact c
      · exact q j y (by omega)
theorem cT_r {A : aT} {b q : Int} (h : cT A b q) : b ≤ q ∧ q < A.1 := by
  obtain ⟨L, a, -, c⟩ := h
  exact c q (fT_sub a q (by simp))
/-- binders of PARAMS of the DEF d, the newest first -/
def kPb (d : Int) : Nat → List (Int × Int × Int) → kE → kE
  | _, [], eb => eb
  | j, p :: ps, eb => kPb d (j + 1) ps ((p.1, 1100 + 6 * d + j) :: eb)
/-- DEFS known behind D -/
def kDl : List aDf → kD → kD
  | [], ds => ds
  | x :: r, ds => kDl r ((x.1, x.2.2.1.map (·.2.2), x.2.2.2) :: ds)
/-- binders of nodes behind D -/
def kDB (A : aT) : List aDf → kD → Nat → (Int → Int) → (Int → Int)
  | [], _, _, B => B
  | x :: r, ds, d, B => kDB A r ((x.1, x.2.2.1.map (·.2.2), x.2.2.2) :: ds) (d + 1) (kBo A ds 201 (kPb d 0 x.2.2.1 []) x.2.2.2 B)
def kPB (A : aT) (D : List aDf) (q : Int) (B : Int → Int) : Int → Int := kBo A (kDl D []) 201 [] q (kDB A D [] 0 B)
def kPe (x : aDf) : kE := x.2.2.1.reverse.map (fun p => (p.1, p.2.2))
theorem q_lookDef {σ : sg_S} {A : aT} {D : List aDf} {d : Nat} {x : aDf} {ds : kD} {Q : sg_S → Prop} (h : trT σ A) (hlen : ∀ L : List Int, L.Nodup → (∀ x ∈ L, 0 ≤ x ∧ x < A.1) → L.length ≤ 200) (hD : dfR σ D) (hx : D[d]? = some x) (hW : dW A x) (hd : dsR σ (d : Int) ds) (h45 : sg_g σ 88 45 = d) (hF : sg_g σ 88 29 = 0) (hdi : kDi ds (sg_g σ 101)) (hr : ∀ d ∈ ds, 0 ≤ d.2.2 ∧ d.2.2 < A.1) (k1 : ∀ σ', kDf A ds x (sg_g σ 101) = none → ¬ sg_g σ' 88 29 = 0 → Q σ') (k2 : ∀ σ', kDf A ds x (sg_g σ 101) = some (sg_g σ' 101, (x.1, x.2.2.1.map (·.2.2), x.2.2.2) :: ds) → sg_g σ' 102 = kBo A ds 201 (kPb d 0 x.2.2.1 []) x.2.2.2 (sg_g σ 102) → sg_g σ' 88 29 = 0 → Q σ') : V_lookDef σ d Q := by
  have hd12 : d < 12 := by
    have := hD.2.1
    rcases Nat.lt_or_ge d D.length with q | q
    · omega
    · rw [List.getElem?_eq_none q] at hx; cases hx
  have hdl := dsR_n hd
  obtain ⟨y1, y2, y3, y4, y5, y6⟩ := hD.2.2 d x hx
  obtain ⟨w1, w2, w3⟩ := hW
  have hno := dsR_no (w := x.1) hd
  have hpw : ∀ (j : Nat), (x.2.2.1.map (·.1))[j]? = if j < x.2.2.1.length then some (sg_gl σ 107 (6 * d + j)) else none := fun j => by
    by_cases c : j < x.2.2.1.length
    · rw [if_pos c, List.getElem?_map, List.getElem?_eq_getElem c]
      rw [(y6 j _ (List.getElem?_eq_getElem c)).1]; rfl
    · rw [if_neg c]; exact List.getElem?_eq_none (by rw [List.length_map]; omega)
  have hkd : kDf A ds x (sg_g σ 101) = (if kDef ds x.1 = none ∧ (x.2.2.1.map (·.1)).Nodup ∧ (∀ p ∈ x.2.2.1, p.2.2 ≤ 3) then (match kGo A ds 201 (kPe x) x.2.2.2 (sg_g σ 101) with
    | none => none
    | some T1 => some (T1, (x.1, x.2.2.1.map (·.2.2), x.2.2.2) :: ds)) else none) := rfl
  generalize hps : x.2.2.1 = ps at *
  have hwl : (ps.map (·.1)).length = ps.length := List.length_map _
  generalize hws : ps.map (·.1) = ws at *
  obtain ⟨ok, hbad, hkt, hkf⟩ : ∃ ok : Prop, (ok ↔ (kDef ds x.1 = none ∧ ws.Nodup ∧ (∀ p ∈ ps, p.2.2 ≤ 3))) ∧ (ok → kDf A ds x (sg_g σ 101) = (match kGo A ds 201 (kPe x) x.2.2.2 (sg_g σ 101) with
    | none => none
    | some T1 => some (T1, (x.1, ps.map (·.2.2), x.2.2.2) :: ds))) ∧ (¬ ok → kDf A ds x (sg_g σ 101) = none) := ⟨_, Iff.rfl, fun z => by rw [hkd, if_pos z], fun z => by rw [hkd, if_neg z]⟩
  unfold V_lookDef
  refine ⟨fun m v σ2 => ∃ j : Nat, v = j ∧ m = d - j ∧ j ≤ d ∧ ((sg_g σ2 88 29 = 0 ∧ ∀ i : Nat, i < j → ¬ sg_gl σ 103 i = x.1) ∨ (¬ sg_g σ2 88 29 = 0 ∧ ¬ kDef ds x.1 = none)), fun σ2 => (sg_g σ2 88 29 = 0 ∧ kDef ds x.1 = none) ∨ (¬ sg_g σ2 88 29 = 0 ∧ ¬ kDef ds x.1 = none), ⟨_, 0, rfl, rfl, Nat.zero_le _, Or.inl ⟨hF, fun i hi => by omega⟩⟩, ?_, ?_⟩
  · rintro m v σ2 rv fr ⟨j, rfl, em, hj, hi⟩
    rw [y1]
    refine ⟨fun c => ?_, fun c => ⟨⟨by omega, by omega⟩, ⟨by omega, by omega⟩, fun e => ⟨⟨by omega, by omega⟩, d - (j + 1), by omega, j + 1, by omega, rfl, by omega, ?_⟩, fun e => q_wrong (by decide) (fun σ3 z1 z2 _ => ⟨⟨by omega, by omega⟩, d - (j + 1), by omega, j + 1, by omega, rfl, by omega, Or.inr ⟨z1, fun z => ?_⟩⟩)⟩⟩
    · rcases hi with ⟨z1, z2⟩ | z
      · refine Or.inl ⟨z1, hno.mpr (fun i a b => ?_)⟩
        obtain ⟨i', rfl⟩ : ∃ i' : Nat, i = i' := ⟨i.toNat, by omega⟩
        exact z2 i' (by omega)
      · exact Or.inr z
    · rcases hi with ⟨z1, z2⟩ | z
      · refine Or.inl ⟨z1, fun i hi => ?_⟩
        by_cases e2 : i = j
        · subst e2; exact e
        · exact z2 i (by omega)
      · exact Or.inr z
    · exact hno.mp z j (by omega) (by omega) e
  · intro σ2 fr2 h2 σ16 e16
    have f16 : sg_F [30088, 31088, 38088] σ σ16 := by rw [e16]; exact sg_F_w (sg_F_m fr2 rfl) rfl _
    have d16 : sg_g σ16 88 29 = sg_g σ2 88 29 := by rw [e16, sg_gw_k _ _ _ _ _ _ (by decide)]
    refine ⟨fun m v σ20 => ∃ j : Nat, v = j ∧ m = ps.length - j ∧ j ≤ ps.length ∧ ((sg_g σ20 88 29 = 0 ∧ kDef ds x.1 = none ∧ (ws.take j).Nodup ∧ (∀ (i : Nat) (p : Int × Int × Int), i < j → ps[i]? = some p → p.2.2 ≤ 3) ∧ ∃ evb, kPs σ20 ((ps.take j).reverse.map (fun p => (p.1, p.2.2))) evb ∧ kPb d j (ps.drop j) evb = kPb d 0 ps []) ∨ (¬ sg_g σ20 88 29 = 0 ∧ ¬ ok)), fun σ20 => (sg_g σ20 88 29 = 0 ∧ ok ∧ kPs σ20 (kPe x) (kPb d 0 ps [])) ∨ (¬ sg_g σ20 88 29 = 0 ∧ ¬ ok), ⟨_, 0, rfl, rfl, Nat.zero_le _, ?_⟩, ?_, ?_⟩
    · rcases h2 with ⟨z1, z2⟩ | ⟨z1, z2⟩
      · refine Or.inl ⟨by rw [d16]; exact z1, z2, by simp, fun i p hi => by omega, [], ?_, rfl⟩
        simp only [List.take_zero, List.reverse_nil, List.map_nil, kPs, pst]
        rw [e16, sg_gw_e _ _ _ _ (by decide)]
        exact ⟨rfl, rfl⟩
      · refine Or.inr ⟨by rw [d16]; exact z1, fun z => z2 ?_⟩
        exact (hbad.mp z).1
    · rintro m v σ20 rv fr20 ⟨j, rfl, em, hj, hi⟩
      rw [y4]
      refine ⟨⟨by omega, by omega⟩, fun c => ?_, fun c => ⟨fun e => ?_, fun e => ?_⟩⟩
      · rcases hi with ⟨z1, z2, z3, z4, evb, z5, z6⟩ | z
        · rw [List.take_of_length_le (by omega)] at z3 z5
          rw [List.drop_eq_nil_of_le (by omega)] at z6
          simp only [kPb] at z6
          rw [z6] at z5
          refine Or.inl ⟨z1, ?_, ?_⟩
          · refine hbad.mpr ⟨z2, z3, fun p hp => ?_⟩
            obtain ⟨i, hi⟩ := List.getElem?_of_mem hp
            have hi2 : i < ps.length := by
              rcases Nat.lt_or_ge i ps.length with q | q
              · exact q
              · rw [List.getElem?_eq_none q] at hi; cases hi
            exact z4 i p (by omega) hi
          · unfold kPe; rw [hps]; exact z5
        · exact Or.inr z
      · rcases hi with ⟨z1, -⟩ | z
        · exact absurd z1 e
        · exact Or.inr z
      · rcases hi with ⟨z1, z2, z3, z4, evb, z5, z6⟩ | ⟨z, -⟩
        rotate_left
        · exact absurd e z
        have hwj := hpw j
        rw [if_pos (by omega)] at hwj
        obtain ⟨y, hy⟩ : ∃ y, ps[j]? = some y := ⟨_, List.getElem?_eq_getElem (by omega)⟩
        obtain ⟨u1, u2, u3⟩ := y6 j y hy
        refine ⟨fun m' v' σ46 => ∃ i : Nat, v' = i ∧ m' = j - i ∧ i ≤ j ∧ ((sg_g σ46 88 29 = 0 ∧ ∀ k : Nat, k < i → ¬ ws[k]? = some (sg_gl σ 107 (6 * d + j))) ∨ (¬ sg_g σ46 88 29 = 0 ∧ ¬ ok)), fun σ46 => ((sg_g σ46 88 29 = 0 ∧ (ws.take (j + 1)).Nodup) ∨ (¬ sg_g σ46 88 29 = 0 ∧ ¬ ok)), ⟨_, 0, rfl, rfl, Nat.zero_le _, Or.inl ⟨e, fun k hk => by omega⟩⟩, ?_, ?_⟩
        · rintro m' v' σ46 rv' fr46 ⟨i, rfl, em', hij, hi3⟩
          refine ⟨fun c2 => ?_, fun c2 => ⟨⟨by omega, by omega⟩, ⟨by omega, by omega⟩, ⟨by omega, by omega⟩, ⟨by omega, by omega⟩, ⟨by omega, by omega⟩, fun e2 => ⟨⟨by omega, by omega⟩, j - (i + 1), by omega, i + 1, by omega, rfl, by omega, ?_⟩, fun e2 => q_wrong (by decide) (fun σ4 t1 t2 _ => ⟨⟨by omega, by omega⟩, j - (i + 1), by omega, i + 1, by omega, rfl, by omega, Or.inr ⟨t1, ?_⟩⟩)⟩⟩
          · rcases hi3 with ⟨t1, t2⟩ | t
            · exact Or.inl ⟨t1, (nd_take hwj).mpr ⟨z3, fun k hk => t2 k (by omega)⟩⟩
            · exact Or.inr t
          · rcases hi3 with ⟨t1, t2⟩ | t
            · refine Or.inl ⟨t1, fun k hk => ?_⟩
              by_cases e3 : k = i
              · subst e3
                rw [hpw k, if_pos (by omega)]
                exact fun z => e2 (Option.some.inj z)
              · exact t2 k (by omega)
            · exact Or.inr t
          · refine fun z => nd_sub (v := j + 1) (fun z => ((nd_take hwj).mp z).2 i (by omega) ?_) (hbad.mp z).2.1
            rw [hpw i, if_pos (by omega), e2]
        · intro σ46 fr46 h46
          rw [u3, u1]
          refine ⟨⟨by omega, by omega⟩, ⟨by omega, by omega⟩, ⟨by omega, by omega⟩, fun σ66 => (sg_g σ66 88 29 = 0 ∧ (ws.take (j + 1)).Nodup ∧ y.2.2 ≤ 3) ∨ (¬ sg_g σ66 88 29 = 0 ∧ ¬ ok), ⟨fun c2 => ?_, fun c2 => q_wrong (by decide) (fun σ4 t1 t2 _ => Or.inr ⟨t1, ?_⟩)⟩, ?_⟩
          · rcases h46 with ⟨t1, t2⟩ | t
            · exact Or.inl ⟨t1, t2, c2⟩
            · exact Or.inr t
          · intro z
            have := (hbad.mp z).2.2 y (List.mem_of_getElem? hy)
            omega
          · intro σ66 fr66 h66
            have f66 := sg_F_t fr46 fr66
            have p66 : kPs σ66 ((ps.take j).reverse.map (fun p => (p.1, p.2.2))) evb := kPs_F z5 f66 rfl
            have dy : ps.drop j = y :: ps.drop (j + 1) := by
              have hl2 : j < ps.length := by omega
              rw [List.drop_eq_getElem_cons hl2]
              rw [List.getElem?_eq_getElem hl2] at hy
              rw [Option.some.inj hy]
            have z7 := z6
            rw [dy] at z7
            simp only [kPb] at z7
            refine ⟨⟨⟨by omega, by omega⟩, ⟨by omega, by omega⟩, ⟨by omega, by omega⟩, trivial⟩, q_know p66 ?_ (by rw [← u1]; exact sg_Rgl _ _ _) (by rw [← u3]; exact sg_Rg _ _ _) (by unfold v_ofParam; omega) (fun σ72 t1 t2 _ => ⟨⟨by omega, by omega⟩, ps.length - (j + 1), by omega, j + 1, by omega, rfl, by omega, ?_⟩)⟩
            · rw [List.length_map, List.length_reverse, List.length_take]; omega
            · rw [sg_F_g t2 (by rfl)]
              rcases h66 with ⟨t3, t4, t5⟩ | t
              · refine Or.inl ⟨t3, z2, t4, fun i p hi hp => ?_, _, ?_, z7⟩
                · by_cases e3 : i = j
                  · subst e3; rw [hy] at hp; cases hp; exact t5
                  · exact z4 i p (by omega) hp
                · rw [List.take_add_one, hy, List.reverse_append]
                  exact t1
              · exact Or.inr t
    · intro σ20 fr20 h20
      have f20 : sg_F [113, 114, 115, 116, 30088, 31088, 38088] σ σ20 := sg_F_t (sg_F_m f16 rfl) fr20
      have T20 : sg_g σ20 101 = sg_g σ 101 := funext fun _ => sg_F_ga f20 rfl
      have B20 : sg_g σ20 102 = sg_g σ 102 := funext fun _ => sg_F_ga f20 rfl
      refine ⟨fun e => ?_, fun e => ?_⟩
      · rcases h20 with ⟨z, -⟩ | ⟨-, z⟩
        · exact absurd z e
        · exact k1 σ20 (hkf z) e
      · rcases h20 with ⟨-, z1, z2⟩ | ⟨z, -⟩
        rotate_left
        · exact absurd e z
        rw [y3]
        have pin : ∀ q ∈ kPe x, kIn q.2 := fun q hq => by
          unfold kPe at hq
          obtain ⟨p, hp, rfl⟩ := List.mem_map.mp hq
          rw [hps] at hp
          have hp2 := List.mem_reverse.mp hp
          exact ⟨w2 p hp2, (hbad.mp z1).2.2 p hp2⟩
        refine ⟨⟨by omega, by omega⟩, q_lookThrough (trT_F h f20 rfl) w1 hlen e z2 ?_ pin (by rw [T20]; exact hdi) (by rw [sg_F_g f20 (by rfl), h45]; exact dsR_F hd f20 rfl) (by omega) hr (fun σ' t1 t2 t3 _ => k1 σ' ?_ t2) (fun σ' t1 tB t2 t3 _ => k2 σ' ?_ (by rw [tB, B20]) t2)⟩
        · unfold kPe; rw [List.length_map, List.length_reverse, hps]; omega
        · rw [hkt z1]; rw [T20] at t1; rw [t1]
        · rw [hkt z1]; rw [T20] at t1; rw [t1]
theorem q_look {σ : sg_S} {A : aT} {D : List aDf} {q : Int} {Q : sg_S → Prop} (h : trT σ A) (hlen : ∀ L : List Int, L.Nodup → (∀ x ∈ L, 0 ≤ x ∧ x < A.1) → L.length ≤ 200) (hD : dfR σ D) (hW : ∀ x ∈ D, dW A x) (hq : cT A 0 q) (hq2 : sg_g σ 88 27 = q) (hF : sg_g σ 88 29 = 0) (k1 : ∀ σ', kPg A D q (sg_g σ 101) = none → ¬ sg_g σ' 88 29 = 0 → Q σ') (k2 : ∀ σ', kPg A D q (sg_g σ 101) = some (sg_g σ' 101) → sg_g σ' 102 = kPB A D q (sg_g σ 102) → sg_g σ' 88 29 = 0 → Q σ') : V_look σ Q := by
  obtain ⟨y1, y2, y3⟩ := hD
  have hkp : ∀ x, kDs A D [] (sg_g σ 101) = x → kPg A D q (sg_g σ 101) = (match x with
    | none => none
    | some (T1, ds) => kGo A ds 201 [] q T1) := fun x hx => by subst hx; rfl
  unfold V_look
  intro σ1 e1
  have f1 : sg_F [46088] σ σ1 := by rw [e1]; exact sg_F_w (sg_F_r _ _) rfl _
  generalize hz : kDs A D [] (sg_g σ 101) = z at *
  rw [y1]
  refine ⟨fun m v σ5 => ∃ d : Nat, v = d ∧ m = D.length - d ∧ d ≤ D.length ∧ sg_g σ5 88 45 = d ∧ ((sg_g σ5 88 29 = 0 ∧ ∃ ds, dsR σ5 (d : Int) ds ∧ kDs A (D.drop d) ds (sg_g σ5 101) = z ∧ kDi ds (sg_g σ5 101) ∧ (∀ d ∈ ds, 0 ≤ d.2.2 ∧ d.2.2 < A.1) ∧ kDl (D.drop d) ds = kDl D [] ∧ kDB A (D.drop d) ds d (sg_g σ5 102) = kDB A D [] 0 (sg_g σ 102)) ∨ (¬ sg_g σ5 88 29 = 0 ∧ z = none)), fun σ5 => ((sg_g σ5 88 29 = 0 ∧ ∃ ds, dsR σ5 (D.length : Int) ds ∧ sg_g σ5 88 45 = D.length ∧ some (sg_g σ5 101, ds) = z ∧ kDi ds (sg_g σ5 101) ∧ (∀ d ∈ ds, 0 ≤ d.2.2 ∧ d.2.2 < A.1) ∧ ds = kDl D [] ∧ sg_g σ5 102 = kDB A D [] 0 (sg_g σ 102)) ∨ (¬ sg_g σ5 88 29 = 0 ∧ z = none)), ⟨_, 0, rfl, rfl, Nat.zero_le _, ?_, Or.inl ⟨?_, [], rfl, ?_, ?_, ?_, rfl, ?_⟩⟩, ?_, ?_⟩
  · rw [e1, sg_gw_e _ _ _ _ (by decide)]; rfl
  · rw [sg_F_g f1 (by rfl)]; exact hF
  · rw [show sg_g σ1 101 = sg_g σ 101 from funext fun _ => sg_F_ga f1 rfl]; exact hz
  · exact fun d hd => by simp at hd
  · exact fun d hd => by simp at hd
  · rw [show sg_g σ1 102 = sg_g σ 102 from funext fun _ => sg_F_ga f1 rfl]; rfl
  · rintro m v σ5 rv fr ⟨d, rfl, em, hd, h45, hi⟩
    refine ⟨fun c => ?_, fun c => ⟨fun e => ?_, fun e => ?_⟩⟩
    · rcases hi with ⟨t1, ds, t2, t3, t4, t5, t6, t7⟩ | t
      · have : d = D.length := by omega
        subst this
        rw [List.drop_length] at t3 t6 t7
        exact Or.inl ⟨t1, ds, t2, h45, t3, t4, t5, t6, t7⟩
      · exact Or.inr t
    · rcases hi with ⟨t1, -⟩ | t
      · exact absurd t1 e
      · exact Or.inr t
    · rcases hi with ⟨t1, ds, t2, t3, t4, t5, t6, t7⟩ | ⟨t, -⟩
      rotate_left
      · exact absurd e t
      have hd2 : d < D.length := by omega
      have hx : D[d]? = some D[d] := List.getElem?_eq_getElem hd2
      have hwx := hW D[d] (List.getElem_mem hd2)
      have f5 : sg_F [101, 102, 113, 114, 115, 116, 117, 118, 30088, 31088, 38088, 43088, 46088] σ σ5 := sg_F_t (sg_F_m f1 rfl) fr
      have D5 : dfR σ5 D := by
        refine ⟨by rw [sg_F_g f5 (by rfl)]; exact y1, y2, fun j x hj => ?_⟩
        obtain ⟨a1, a2, a3, a4, a5, a6⟩ := y3 j x hj
        refine ⟨by rw [sg_F_gal f5 rfl]; exact a1, by rw [sg_F_ga f5 rfl]; exact a2, by rw [sg_F_ga f5 rfl]; exact a3, by rw [sg_F_ga f5 rfl]; exact a4, a5, fun i y hy => ?_⟩
        rw [sg_F_gal f5 rfl, sg_F_ga f5 rfl, sg_F_ga f5 rfl]; exact a6 i y hy
      rw [List.drop_eq_getElem_cons hd2] at t3 t6 t7
      simp only [kDl] at t6
      simp only [kDB] at t7
      refine q_lookDef (trT_F h f5 rfl) hlen D5 hx hwx t2 h45 e t4 t5 (fun σ' u1 u2 fr' => ⟨⟨by omega, by omega⟩, fun σ38 e38 => ⟨⟨by omega, by omega⟩, D.length - (d + 1), by omega, d + 1, by omega, rfl, by omega, ?_, Or.inr ⟨?_, ?_⟩⟩⟩) (fun σ' u1 uB u2 fr' => ⟨⟨by omega, by omega⟩, fun σ38 e38 => ⟨⟨by omega, by omega⟩, D.length - (d + 1), by omega, d + 1, by omega, rfl, by omega, ?_, Or.inl ⟨?_, (D[d].1, D[d].2.2.1.map (·.2.2), D[d].2.2.2) :: ds, ?_, ?_, ?_, ?_, t6, ?_⟩⟩⟩)
      · rw [e38, sg_gw_e _ _ _ _ ⟨by omega, by omega⟩]; omega
      · rw [e38, sg_gw_k _ _ _ _ _ _ (by decide)]; exact u2
      · rw [← t3]; unfold kDs; rw [u1]
      · rw [e38, sg_gw_e _ _ _ _ ⟨by omega, by omega⟩]; omega
      · rw [e38, sg_gw_k _ _ _ _ _ _ (by decide)]; exact u2
      · obtain ⟨a1, a2, a3, a4, a5, a6⟩ := D5.2.2 d D[d] hx
        have f38 : sg_F [101, 102, 113, 114, 115, 116, 117, 118, 30088, 31088, 38088, 43088, 46088] σ5 σ38 := by rw [e38]; exact sg_F_w (sg_F_m fr' rfl) rfl _
        have e0 : ((d + 1 : Nat) : Int) - 1 = d := by omega
        refine ⟨by omega, ?_, ?_, ?_, ?_, ?_, ?_⟩
        · rw [e0, sg_F_gal f38 rfl]; exact a1
        · rw [e0, sg_F_ga f38 rfl, a4]; simp only [List.length_map]
        · intro j y hy
          rw [List.getElem?_map] at hy
          cases hj : D[d].2.2.1[j]? with
          | none => rw [hj] at hy; cases hy
          | some p =>
            rw [hj] at hy
            rw [e0, sg_F_ga f38 rfl, (a6 j p hj).2.2]
            exact Option.some.inj hy
        · rw [e0, sg_F_ga f38 rfl]; exact a3
        · simp only [List.length_map]; exact a5
        · rw [e0]; exact dsR_F t2 f38 rfl
      · rw [← t3]
        rw [show sg_g σ38 101 = sg_g σ' 101 from by rw [e38]; exact funext fun _ => sg_gw_c _ _ _ _ _ _ (by decide)]
        simp only [kDs]
        rw [u1]
      · rw [show sg_g σ38 101 = sg_g σ' 101 from by rw [e38]; exact funext fun _ => sg_gw_c _ _ _ _ _ _ (by decide)]
        unfold kDf at u1
        split at u1
        · rename_i hc
          split at u1
          · cases u1
          · rename_i T1 hg
            have hT1 : T1 = sg_g σ' 101 := by
              have := Option.some.inj u1
              exact (Prod.mk.inj this).1
            subst hT1
            obtain ⟨r1, r2⟩ := kGo_rg A ds 201 _ _ _ _ t4 (fun p hp => by
              obtain ⟨p', hp', rfl⟩ := List.mem_map.mp hp
              have hp2 := List.mem_reverse.mp hp'
              exact ⟨hwx.2.1 p' hp2, hc.2.2 p' hp2⟩) hg
            intro y hy
            rcases List.mem_cons.mp hy with e2 | e2
            · subst e2; exact r1
            · exact r2 _ (t4 y e2)
        · cases u1
      · intro y hy
        rcases List.mem_cons.mp hy with e2 | e2
        · subst e2; exact cT_r hwx.1
        · exact t5 y e2
      · rw [show sg_g σ38 102 = sg_g σ' 102 from by rw [e38]; exact funext fun _ => sg_gw_c _ _ _ _ _ _ (by decide), uB]
        exact t7
  · intro σ5 fr h5 σ19 e19
    have f19 : sg_F [101, 102, 113, 114, 115, 116, 117, 118, 30088, 31088, 38088, 43088, 46088] σ σ19 := by rw [e19]; exact sg_F_w (sg_F_t (sg_F_m f1 rfl) (sg_F_m fr rfl)) rfl _
    have g19 : sg_F [38088] σ5 σ19 := by rw [e19]; exact sg_F_w (sg_F_r _ _) rfl _
    refine ⟨fun e => ?_, fun e => ?_⟩
    · rcases h5 with ⟨t, -⟩ | ⟨-, t⟩
      · exact absurd t e
      · refine k1 σ19 ?_ ?_
        · rw [hkp z rfl, t]
        · rw [sg_F_g g19 (by rfl)]; exact e
    · rcases h5 with ⟨-, ds, t2, t3, t4, t5, t6, t7, t8⟩ | ⟨t, -⟩
      rotate_left
      · exact absurd e t
      have T19 : sg_g σ19 101 = sg_g σ5 101 := funext fun _ => sg_F_ga g19 rfl
      have hdl := dsR_n t2
      have hkz : kPg A D q (sg_g σ 101) = kGo A ds 201 [] q (sg_g σ19 101) := by rw [hkp z rfl, ← t4, T19]
      rw [hq2]
      refine q_lookThrough (e := []) (eb := []) (trT_F h f19 rfl) hq hlen ?_ ?_ (by simp) (fun p hp => by simp at hp) (by rw [T19]; exact t5) (by rw [sg_F_g g19 (by rfl), t3]; exact dsR_F t2 g19 rfl) (by omega) t6 (fun σ' u1 u2 u3 _ => k1 σ' (hkz.trans u1) u2) (fun σ' u1 uB u2 u3 _ => k2 σ' (hkz.trans u1) ?_ u2)
      · rw [sg_F_g g19 (by rfl)]; exact e
      · simp only [kPs, pst]; rw [e19, sg_gw_e _ _ _ _ (by decide)]; exact ⟨rfl, rfl⟩
      · rw [uB, t7, show sg_g σ19 102 = sg_g σ5 102 from funext fun _ => sg_F_ga g19 rfl, t8]; rfl
/-! All trees of a PROGRAM together: no node stands in two. -/
def aRt (D : List aDf) : List Int := D.map (fun x => x.2.2.2)
def frA (A : aT) (R : List Int) : Prop := ∃ L, fT A R L ∧ L.Nodup ∧ (∀ x ∈ L, 0 ≤ x ∧ x < A.1) ∧ ∀ x, 0 ≤ x → x < A.1 → x ∈ L
theorem frA_a {A A' : aT} {R : List Int} {q : Int} (h : frA A R) (g : gr A A') (h0 : 0 ≤ A.1) (hq : cTc A' A.1 q) : frA A' (R ++ [q]) := by
  obtain ⟨L, h1, h2, h3, h4⟩ := h
  obtain ⟨M, m1, m2, m3, m4⟩ := hq
  have g1 := g.1
  refine ⟨L ++ M, fT_app (fT_e h1 (fun x hx => ?_)) m1, ?_, ?_, ?_⟩
  · obtain ⟨a1, a2, a3, a4, a5⟩ := g.2 x (h3 x hx).2
    exact ⟨a1, a4, a5⟩
  · rw [List.nodup_append]
    refine ⟨h2, m2, fun x hx y hy => ?_⟩
    have := (h3 x hx).2
    have := (m3 y hy).1
    omega
  · intro x hx
    rcases List.mem_append.mp hx with e | e
    · have := h3 x e
      omega
    · have := m3 x e
      omega
  · intro x y z
    by_cases c : x < A.1
    · exact List.mem_append_left _ (h4 x y c)
    · exact List.mem_append_right _ (m4 x (by omega) z)
/-- all parts are nodes -/
theorem fT_k {A : aT} {R L : List Int} (h : fT A R L) : ∀ n ∈ L, ∀ x ∈ A.2.2.2.2.1 n, x ∈ L := by
  refine fT_ind (A := A) (M := fun R L => ∀ n ∈ L, ∀ x ∈ A.2.2.2.2.1 n, x ∈ L) (fun n h => by cases h) (fun n ns L1 L2 hw h1 h2 ih1 ih2 => ?_) h
  intro y hy x hx
  rcases List.mem_cons.mp hy with e | e
  · subst e
    exact List.mem_cons_of_mem _ (List.mem_append_left _ (fT_sub h1 x hx))
  · rcases List.mem_append.mp e with e | e
    · exact List.mem_cons_of_mem _ (List.mem_append_left _ (ih1 y e x hx))
    · exact List.mem_cons_of_mem _ (List.mem_append_right _ (ih2 y e x hx))
theorem frA_k {A : aT} {R : List Int} (h : frA A R) : ∀ n, 0 ≤ n → n < A.1 → ∀ x ∈ A.2.2.2.2.1 n, 0 ≤ x ∧ x < A.1 := by
  obtain ⟨L, h1, h2, h3, h4⟩ := h
  exact fun n a b x hx => h3 x (fT_k h1 n (h4 n a b) x hx)
section FRP
variable {t : aK}
theorem t_df2 {N i i' : Nat} {A A' : aT} {x : aDf} (h : aDf1 t N i A = some (i', A', x)) (h0 : 0 ≤ A.1 ∧ A.1 ≤ 200) : cTc A' A.1 x.2.2.2 := by
  unfold aDf1 at h
  split at h
  · split at h
    · split at h
      · cases h
      · rename_i i1 ps hp
        split at h
        · split at h
          · split at h
            · cases h
            · rename_i i2 A2 q he
              have c := (tF_lv 12).1 _ _ _ _ _ he h0
              split at h
              · cases h
                exact c
              · cases h
          · cases h
        · cases h
    · cases h
  · cases h
theorem t_dfs2 {N : Nat} : ∀ (m : Nat) (D : List aDf) (i : Nat) (A : aT) (i' : Nat) (A' : aT) (D' : List aDf), aDfs t N m D i A = some (i', A', D') → 0 ≤ A.1 ∧ A.1 ≤ 200 → frA A (aRt D) → frA A' (aRt D') ∧ (0 ≤ A'.1 ∧ A'.1 ≤ 200)
  | 0, D, i, A, i', A', D', h, h0, hD => by
    unfold aDfs at h
    split at h
    · cases h
    · cases h
      exact ⟨hD, h0⟩
  | m + 1, D, i, A, i', A', D', h, h0, hD => by
    unfold aDfs at h
    split at h
    · split at h
      · cases h
      · rename_i i1 A1 x he
        obtain ⟨c1, c2, c3⟩ := t_df1 he h0
        have c4 := c2.1
        refine t_dfs2 m _ _ _ _ _ _ h (by omega) ?_
        have := frA_a hD c2 h0.1 (t_df2 he h0)
        unfold aRt at this ⊢
        rw [List.map_append]
        exact this
    · cases h
      exact ⟨hD, h0⟩
theorem t_pg2 {N : Nat} {A A' : aT} {D : List aDf} {q : Int} (h : aPg t N A = some (A', D, q)) (h0 : 0 ≤ A.1 ∧ A.1 ≤ 200) (h1 : A.1 = 0) : frA A' (aRt D ++ [q]) := by
  have h00 : frA A (aRt []) := ⟨[], fT_z _, List.nodup_nil, by simp, fun x a b => by omega⟩
  unfold aPg at h
  split at h
  · cases h
  · rename_i i1 A1 D1 hd
    obtain ⟨c1, c3⟩ := t_dfs2 _ _ _ _ _ _ _ hd h0 h00
    split at h
    · cases h
    · rename_i i2 A2 r he
      obtain ⟨g1, g2, g3, g4⟩ := (gF_lv 12).1 _ _ _ _ _ he c3
      have c := (tF_lv 12).1 _ _ _ _ _ he c3
      split at h
      · cases h
        exact frA_a c1 g1 c3.1 c
      · cases h
end FRP
/-! WORDS of a tree are words: uv tells them apart. -/
def wv (w : Int) : Prop := 0 ≤ w ∧ w < 262144000000000
theorem uvf_0 : ∀ (m : Nat) (w : Int), 0 ≤ w → 0 ≤ uvf m w
  | 0, _, _ => Int.le_refl _
  | m + 1, w, h => by
    unfold uvf
    have := uvf_0 m (w / 40) (by omega)
    split
    · exact Int.le_refl _
    · split <;> omega
theorem uvf_inj : ∀ (m : Nat) (w w' : Int), 0 ≤ w → w < 40 ^ m → 0 ≤ w' → w' < 40 ^ m → uvf m w = uvf m w' → w = w'
  | 0, w, w', a, b, c, d, _ => by simp at b d; omega
  | m + 1, w, w', a, b, c, d, h => by
    have b1 : w / 40 < 40 ^ m := by rw [Int.pow_succ] at b; omega
    have d1 : w' / 40 < 40 ^ m := by rw [Int.pow_succ] at d; omega
    have ih := uvf_inj m (w / 40) (w' / 40) (by omega) b1 (by omega) d1
    have p1 := uvf_0 m (w / 40) (by omega)
    have p2 := uvf_0 m (w' / 40) (by omega)
    unfold uvf at h
    generalize uvf m (w / 40) = x at *
    generalize uvf m (w' / 40) = y at *
    have key : x = y → w / 40 = w' / 40 := ih
    by_cases c1 : w = 0
    · rw [if_pos c1] at h
      by_cases c2 : w' = 0
      · omega
      · rw [if_neg c2] at h
        split at h <;> omega
    · rw [if_neg c1] at h
      by_cases c2 : w' = 0
      · rw [if_pos c2] at h
        split at h <;> omega
      · rw [if_neg c2] at h
        have hxy : x = y := by
          split at h <;> split at h <;> omega
        have := key hxy
        split at h <;> split at h <;> omega
theorem uv_inj {w w' : Int} (h : wv w) (h' : wv w') (e : uv w = uv w') : w = w' := by
  have e9 : (40 : Int) ^ 9 = 262144000000000 := by decide
  refine uvf_inj 9 w w' h.1 ?_ h'.1 ?_ e
  · rw [e9]; exact h.2
  · rw [e9]; exact h'.2
/-- words of nodes and GENS are words, places are places -/
def wA (A : aT) : Prop := ∀ n, (A.2.1 n = 1 ∨ A.2.1 n = 2 ∨ A.2.1 n = 13 → wv (A.2.2.2.1 n)) ∧ (∀ g ∈ A.2.2.2.2.2 n, wv g.1 ∧ 0 ≤ g.2) ∧ 0 ≤ A.2.2.1 n
theorem wA_new {A : aT} {kd p w : Int} (h : wA A) (hp : 0 ≤ p) (hk : kd = 1 ∨ kd = 2 ∨ kd = 13 → wv w) : wA (aNew A kd p w) := fun n => by
  by_cases e : n = A.1
  · subst e
    refine ⟨fun z => ?_, fun g hg => ?_, ?_⟩
    · simp only [aNew, aU, if_true] at z ⊢; exact hk z
    · simp [aNew, aU] at hg
    · simp only [aNew, aU, if_true]; exact hp
  · simp only [aNew, aU_n _ _ e]; exact h n
theorem wA_kid {A : aT} {n q : Int} (h : wA A) : wA (aKid A n q) := h
theorem wA_wd {A : aT} {n w : Int} (h : wA A) (hw : wv w) : wA (aWd A n w) := fun k => by
  by_cases e : k = n
  · subst e
    refine ⟨fun z => ?_, (h k).2⟩
    simp only [aWd, aU, if_true]; exact hw
  · refine ⟨fun z => ?_, (h k).2⟩
    simp only [aWd, aU_n _ _ e]; exact (h k).1 z
theorem wA_gn {A : aT} {n w p : Int} (h : wA A) (hw : wv w) (hp : 0 ≤ p) : wA (aGn A n w p) := fun k => by
  by_cases e : k = n
  · subst e
    refine ⟨(h k).1, fun g hg => ?_, (h k).2.2⟩
    simp only [aGn, aU, if_true] at hg
    rcases List.mem_append.mp hg with z | z
    · exact (h k).2.1 g z
    · rcases List.mem_singleton.mp z with rfl
      exact ⟨hw, hp⟩
  · refine ⟨(h k).1, fun g hg => ?_, (h k).2.2⟩
    simp only [aGn, aU_n _ _ e] at hg
    exact (h k).2.1 g hg
def wT (t : aK) : Prop := (∀ i, t.1 i = 2 → wv (t.2.1 i)) ∧ ∀ i, 0 ≤ t.2.2 i
def wF (F : aF) : Prop := ∀ i A i' A' q, F i A = some (i', A', q) → wA A → wA A'
section WRF
variable {t : aK}
theorem nm_2 {i : Nat} (h : aNm t i = true) : t.1 i = 2 := (of_decide_eq_true h).1
theorem wo_2 {i : Nat} {w : Int} (h : aWo t i w = true) : t.1 i = 2 := (of_decide_eq_true h).1
theorem mk_w (hV : wT t) {i : Nat} {A : aT} {kd : Int} {A1 : aT} {n : Int} (hm : aMk t i A kd = some (A1, n)) (h : wA A) (hk : kd = 1 ∨ kd = 2 ∨ kd = 13 → wv (t.2.1 i)) : wA A1 := by
  obtain ⟨e, -⟩ := mk_s hm
  cases e
  exact wA_new h (hV.2 i) hk
theorem wF_n : wF (fun _ _ => none) := fun _ _ _ _ _ h _ => by cases h
theorem wF_btw (hV : wT t) {kd : Int} {S : aF} (hT : wF S) (hk : 4 ≤ kd ∧ kd ≤ 10) {l : Int} {i : Nat} {A : aT} {i' : Nat} {A' : aT} {q : Int} (h : aBtw t kd S l i A = some (i', A', q)) (h0 : wA A) : wA A' := by
  unfold aBtw at h
  split at h
  · cases h
  · rename_i A1 n hm
    have a1 := mk_w hV hm h0 (fun z => by omega)
    split at h
    · cases h
    · rename_i i2 A2 r he
      cases h
      exact wA_kid (hT _ _ _ _ _ he (wA_kid a1))
theorem wF_let (hV : wT t) {E : aF} (hT : wF E) {i : Nat} (hi : t.1 i = 2) {A : aT} {i' : Nat} {A' : aT} {q : Int} (h : aLet t E i A = some (i', A', q)) (h0 : wA A) : wA A' := by
  unfold aLet at h
  split at h
  · cases h
  · rename_i A1 n hm
    have a1 := mk_w hV hm h0 (fun z => hV.1 i hi)
    split at h
    · rename_i hnm
      split at h
      · split at h
        · cases h
        · rename_i i2 A2 a he
          have a2 := hT _ _ _ _ _ he (wA_wd a1 (hV.1 _ (nm_2 hnm)))
          split at h
          · split at h
            · cases h
            · rename_i i3 A3 b hf
              cases h
              exact wA_kid (hT _ _ _ _ _ hf (wA_kid a2))
          · cases h
      · cases h
    · cases h
theorem wF_if (hV : wT t) {E : aF} (hT : wF E) : wF (aIf t E) := by
  intro i A i' A' q h h0
  unfold aIf at h
  split at h
  · cases h
  · rename_i A1 n hm
    have a1 := mk_w hV hm h0 (fun z => by omega)
    split at h
    · cases h
    · rename_i i2 A2 a he
      have a2 := hT _ _ _ _ _ he a1
      split at h
      · split at h
        · cases h
        · rename_i i3 A3 b hf
          have a3 := hT _ _ _ _ _ hf (wA_kid a2)
          split at h
          · split at h
            · cases h
            · rename_i i4 A4 c hg
              cases h
              exact wA_kid (hT _ _ _ _ _ hg (wA_kid a3))
          · cases h
      · cases h
theorem wF_cmp (hV : wT t) {S : aF} (hT : wF S) : wF (aCmp t S) := by
  intro i A i' A' q h h0
  unfold aCmp at h
  split at h
  · cases h
  · rename_i i1 A1 l he
    have a1 := hT _ _ _ _ _ he h0
    unfold aCmpR at h
    split at h
    · cases h; exact a1
    · rename_i kd hq
      exact wF_btw hV hT (qF_C _ _ hq) h a1
theorem wF_rowL (hV : wT t) {q0 : Nat → Option Int} (hq0 : qF q0) {S : aF} (hT : wF S) : ∀ (m : Nat) (l : Int) (i : Nat) (A : aT) (i' : Nat) (A' : aT) (q : Int), aRowL t q0 S m l i A = some (i', A', q) → wA A → wA A'
  | 0, l, i, A, i', A', q, h, h0 => by
    unfold aRowL at h
    cases h
    exact h0
  | m + 1, l, i, A, i', A', q, h, h0 => by
    unfold aRowL at h
    split at h
    · cases h
      exact h0
    · rename_i kd hq
      split at h
      · cases h
      · rename_i i2 A2 n hb2
        exact wF_rowL hV hq0 hT m _ _ _ _ _ _ h (wF_btw hV hT (hq0 _ _ hq) hb2 h0)
theorem wF_row (hV : wT t) {q0 : Nat → Option Int} (hq : qF q0) {S : aF} (hT : wF S) : wF (aRow t q0 S) := by
  intro i A i' A' q h h0
  unfold aRow at h
  split at h
  · cases h
  · rename_i i1 A1 l he
    unfold aRowR at h
    exact wF_rowL hV hq hT _ _ _ _ _ _ _ h (hT _ _ _ _ _ he h0)
theorem wF_behL (hV : wT t) {w : Bool} {E : aF} (hT : wF E) : ∀ (m : Nat) (l : Int) (i : Nat) (A : aT) (i' : Nat) (A' : aT) (q : Int), aBehL t w E m l i A = some (i', A', q) → wA A → wA A'
  | 0, l, i, A, i', A', q, h, h0 => by
    unfold aBehL at h
    cases h
    exact h0
  | m + 1, l, i, A, i', A', q, h, h0 => by
    unfold aBehL at h
    split at h
    · split at h
      · split at h
        · cases h
        · rename_i i2 A2 n hb2
          refine wF_behL hV hT m _ _ _ _ _ _ h ?_
          unfold aIdx at hb2
          split at hb2
          · cases hb2
          · rename_i A1 n1 hm
            have a1 := mk_w hV hm h0 (fun z => by omega)
            split at hb2
            · cases hb2
            · rename_i i3 A3 r he
              split at hb2
              · cases hb2
                exact wA_kid (hT _ _ _ _ _ he (wA_kid a1))
              · cases hb2
      · cases h
    · cases h
      exact h0
theorem wF_lstL {E : aF} (hT : wF E) {n ch : Int} : ∀ (m : Nat) (i : Nat) (A : aT) (i' : Nat) (A' : aT), aLstL t E n ch m i A = some (i', A') → wA A → wA A'
  | 0, i, A, i', A', h, _ => by unfold aLstL at h; cases h
  | m + 1, i, A, i', A', h, h0 => by
    unfold aLstL at h
    split at h
    · cases h
    · rename_i i1 A1 r he
      have a1 := hT _ _ _ _ _ he h0
      split at h
      · exact wF_lstL hT m _ _ _ _ h (wA_kid a1)
      · split at h
        · cases h
          exact wA_kid a1
        · cases h
theorem wF_lst {E : aF} (hT : wF E) {n ch : Int} {i : Nat} {A : aT} {i' : Nat} {A' : aT} {q : Int} (h : aLst t E n ch i A = some (i', A', q)) (h0 : wA A) : wA A' := by
  unfold aLst at h
  split at h
  · cases h
  · rename_i i1 A1 he
    cases h
    exact wF_lstL hT _ _ _ _ _ he h0
theorem wF_args {E : aF} (hT : wF E) {n : Int} {i : Nat} {A : aT} {i' : Nat} {A' : aT} {q : Int} (h : aArgs t E n i A = some (i', A', q)) (h0 : wA A) : wA A' := by
  unfold aArgs at h
  split at h
  · cases h
    exact h0
  · exact wF_lst hT h h0
theorem wF_wrd (hV : wT t) {w : Bool} {E : aF} (hT : wF E) : wF (aWrd t w E) := by
  intro i A i' A' q h h0
  unfold aWrd at h
  split at h
  · split at h
    · rename_i hnm
      have hw := hV.1 _ (nm_2 hnm)
      split at h
      · split at h
        · cases h
        · rename_i A1 n hm
          have a1 := mk_w hV hm h0 (fun _ => hw)
          split at h
          · exact wF_args hT h a1
          · cases h
      · split at h
        · cases h
        · rename_i A1 n hm
          have a1 := mk_w hV hm h0 (fun _ => hw)
          cases h
          exact a1
    · cases h
  · rename_i ha
    split at h
    · cases h
    · rename_i A1 n hm
      have k := act_k ha
      have a1 := mk_w hV hm h0 (fun z => by omega)
      split at h
      · split at h
        · exact wF_args hT h a1
        · cases h
      · cases h
theorem wF_genL (hV : wT t) {E : aF} (hT : wF E) {n : Int} : ∀ (m : Nat) (i : Nat) (A : aT) (i' : Nat) (A' : aT), aGenL t E n m i A = some (i', A') → wA A → wA A'
  | 0, i, A, i', A', h, _ => by unfold aGenL at h; cases h
  | m + 1, i, A, i', A', h, h0 => by
    unfold aGenL at h
    split at h
    · rename_i hnm
      split at h
      · split at h
        · cases h
        · rename_i i1 A1 r he
          have a1 := hT _ _ _ _ _ he (wA_gn h0 (hV.1 _ (nm_2 hnm)) (hV.2 _))
          split at h
          · exact wF_genL hV hT m _ _ _ _ h (wA_kid a1)
          · cases h
            exact wA_kid a1
      · cases h
    · cases h
theorem wF_grd {E : aF} (hT : wF E) {n : Int} {i : Nat} {A : aT} {i' : Nat} {A' : aT} {q : Int} (h : aGrd t E n i A = some (i', A', q)) (h0 : wA A) : wA A' := by
  unfold aGrd aEnd at h
  split at h
  · split at h
    · cases h
    · rename_i i1 A1 r he
      have a1 := hT _ _ _ _ _ he h0
      split at h
      · cases h
        exact wA_kid a1
      · cases h
  · split at h
    · cases h
      exact h0
    · cases h
theorem wF_each (hV : wT t) {E : aF} (hT : wF E) : wF (aEach t E) := by
  intro i A i' A' q h h0
  unfold aEach at h
  split at h
  · cases h
  · rename_i A1 n hm
    have a1 := mk_w hV hm h0 (fun z => by omega)
    split at h
    · cases h
    · rename_i i2 A2 b he
      have a2 := hT _ _ _ _ _ he a1
      split at h
      · unfold aGens at h
        split at h
        · cases h
        · rename_i i3 A3 hg
          exact wF_grd hT h (wF_genL hV hT _ _ _ _ _ hg (wA_kid a2))
      · cases h
theorem wF_atm (hV : wT t) {w : Bool} {E : aF} (hT : wF E) : wF (aAtm t w E) := by
  intro i A i' A' q h h0
  unfold aAtm at h
  split at h
  · split at h
    · cases h
    · rename_i A1 n hm
      have a1 := mk_w hV hm h0 (fun z => by omega)
      cases h
      exact a1
  · split at h
    · exact wF_wrd hV hT _ _ _ _ _ h h0
    · split at h
      · split at h
        · unfold aPar at h
          split at h
          · cases h
          · rename_i i1 A1 r he
            split at h
            · cases h
              exact hT _ _ _ _ _ he h0
            · cases h
        · cases h
      · split at h
        · split at h
          · unfold aRw at h
            split at h
            · cases h
            · rename_i A1 n hm
              exact wF_lst hT h (mk_w hV hm h0 (fun z => by omega))
          · cases h
        · split at h
          · split at h
            · exact wF_each hV hT _ _ _ _ _ h h0
            · cases h
          · cases h
theorem wF_un (hV : wT t) {w : Bool} {E U : aF} (hT : wF E) (hU : wF U) : wF (aUn t w E U) := by
  intro i A i' A' q h h0
  unfold aUn at h
  split at h
  · split at h
    · split at h
      · cases h
      · rename_i A1 n hm
        have a1 := mk_w hV hm h0 (fun z => by omega)
        split at h
        · cases h
        · rename_i i2 A2 r he
          cases h
          exact wA_kid (hU _ _ _ _ _ he a1)
    · cases h
  · unfold aItm at h
    split at h
    · cases h
    · rename_i i1 A1 l he
      unfold aBeh at h
      exact wF_behL hV hT _ _ _ _ _ _ _ h (wF_atm hV hT _ _ _ _ _ he h0)
theorem wF_ex (hV : wT t) {w : Bool} {E U : aF} (hT : wF E) (hU : wF U) : wF (aEx t w E U) := by
  intro i A i' A' q h h0
  unfold aEx at h
  split at h
  · rename_i hw
    split at h
    · exact wF_let hV hT (wo_2 hw) h h0
    · cases h
  · split at h
    · split at h
      · exact wF_if hV hT _ _ _ _ _ h h0
      · cases h
    · exact wF_cmp hV (wF_row hV qF_S (wF_row hV qF_P (wF_un hV hT hU))) _ _ _ _ _ h h0
theorem wF_lv (hV : wT t) : ∀ f, wF (aLv t f).1 ∧ wF (aLv t f).2
  | 0 => ⟨wF_ex hV wF_n wF_n, wF_un hV wF_n wF_n⟩
  | f + 1 => ⟨wF_ex hV (wF_lv hV f).1 (wF_lv hV f).2, wF_un hV (wF_lv hV f).1 (wF_lv hV f).2⟩
/-- words of a DEF -/
def wD (x : aDf) : Prop := (wv x.1 ∧ 0 ≤ x.2.1) ∧ ∀ p ∈ x.2.2.1, wv p.1 ∧ 0 ≤ p.2.1
theorem w_paL (hV : wT t) {N : Nat} : ∀ (m : Nat) (ps : List (Int × Int × Int)) (i i' : Nat) (ps' : List (Int × Int × Int)), aPaL t N m ps i = some (i', ps') → (∀ p ∈ ps, wv p.1 ∧ 0 ≤ p.2.1) → ∀ p ∈ ps', wv p.1 ∧ 0 ≤ p.2.1
  | 0, ps, i, i', ps', h, _ => by unfold aPaL at h; cases h
  | m + 1, ps, i, i', ps', h, hp => by
    unfold aPaL at h
    split at h
    · rename_i hnm
      split at h
      · split at h
        · cases h
        · rename_i i1 ty ht
          have h2 : ∀ p ∈ ps ++ [(t.2.1 i, t.2.2 i, ty)], wv p.1 ∧ 0 ≤ p.2.1 := by
            intro p hp2
            rcases List.mem_append.mp hp2 with e | e
            · exact hp p e
            · rcases List.mem_singleton.mp e with rfl
              exact ⟨hV.1 _ (nm_2 hnm), hV.2 _⟩
          split at h
          · exact w_paL hV m _ _ _ _ h h2
          · cases h
            exact h2
      · cases h
    · cases h
theorem w_df1 (hV : wT t) {N i i' : Nat} {A A' : aT} {x : aDf} (h : aDf1 t N i A = some (i', A', x)) (h0 : wA A) : wA A' ∧ wD x := by
  unfold aDf1 at h
  split at h
  · rename_i hnm
    split at h
    · split at h
      · cases h
      · rename_i i1 ps hp
        split at h
        · split at h
          · split at h
            · cases h
            · rename_i i2 A2 q he
              have a2 := (wF_lv hV 12).1 _ _ _ _ _ he h0
              split at h
              · cases h
                refine ⟨a2, ⟨hV.1 _ (nm_2 hnm), hV.2 _⟩, ?_⟩
                unfold aPas at hp
                split at hp
                · cases hp
                  simp
                · exact w_paL hV _ _ _ _ _ hp (by simp)
              · cases h
          · cases h
        · cases h
    · cases h
  · cases h
theorem w_dfs (hV : wT t) {N : Nat} : ∀ (m : Nat) (D : List aDf) (i : Nat) (A : aT) (i' : Nat) (A' : aT) (D' : List aDf), aDfs t N m D i A = some (i', A', D') → wA A → (∀ x ∈ D, wD x) → wA A' ∧ ∀ x ∈ D', wD x
  | 0, D, i, A, i', A', D', h, h0, hD => by
    unfold aDfs at h
    split at h
    · cases h
    · cases h
      exact ⟨h0, hD⟩
  | m + 1, D, i, A, i', A', D', h, h0, hD => by
    unfold aDfs at h
    split at h
    · split at h
      · cases h
      · rename_i i1 A1 x he
        obtain ⟨c1, c2⟩ := w_df1 hV he h0
        refine w_dfs hV m _ _ _ _ _ _ h c1 (fun y hy => ?_)
        rcases List.mem_append.mp hy with e | e
        · exact hD y e
        · rcases List.mem_singleton.mp e with rfl
          exact c2
    · cases h
      exact ⟨h0, hD⟩
theorem w_pg (hV : wT t) {N : Nat} {A A' : aT} {D : List aDf} {q : Int} (h : aPg t N A = some (A', D, q)) (h0 : wA A) : wA A' ∧ ∀ x ∈ D, wD x := by
  unfold aPg at h
  split at h
  · cases h
  · rename_i i1 A1 D1 hd
    obtain ⟨c1, c2⟩ := w_dfs hV _ _ _ _ _ _ _ hd h0 (by simp)
    split at h
    · cases h
    · rename_i i2 A2 r he
      have a2 := (wF_lv hV 12).1 _ _ _ _ _ he c1
      split at h
      · cases h
        exact ⟨a2, c2⟩
      · cases h
end WRF
/-! THE CLASS'S CHECKER: its rows and what they stand for. -/
theorem xa_in {σ : sg_S} {a : Nat} {n k : Int} (h : 0 ≤ k ∧ k < n) : sx_at σ a n k = sg_g σ a k := by unfold sx_at; rw [if_pos h]
theorem xl_in {σ : sg_S} {a : Nat} {n k : Int} (h : 0 ≤ k ∧ k < n) : sx_atl σ a n k = sg_gl σ a k := by unfold sx_atl; rw [if_pos h]
theorem xp_in {σ : sg_S} {a : Nat} {n k v : Int} (h : 0 ≤ k ∧ k < n) : sx_put σ a n k v = sg_w σ a k v := by unfold sx_put; rw [if_pos h]
theorem xpl_in {σ : sg_S} {a : Nat} {n k v : Int} (h : 0 ≤ k ∧ k < n) : sx_putl σ a n k v = sg_wl σ a k v := by unfold sx_putl; rw [if_pos h]
/-- the tree that was read -/
def ckW (σ : sg_S) (A : aT) : Prop := (0 ≤ A.1 ∧ A.1 ≤ 200) ∧ wA A ∧ ∀ k, 0 ≤ k → k < A.1 → cN σ A k ∧ ∀ x ∈ A.2.2.2.2.1 k, 0 ≤ x ∧ x < A.1
def okC (L : List Nat) : Bool := sg_ca L 3 && sg_ca L 4 && sg_ca L 7 && sg_ca L 8 && sg_ca L 9 && sg_ca L 10 && sg_ca L 13 && sg_ca L 14 && sg_ca L 15 && sg_ca L 17 && sg_ca L 18
theorem ckW_F {L : List Nat} {σ σ' : sg_S} {A : aT} (h : ckW σ A) (f : sg_F L σ σ') (hL : okC L = true) : ckW σ' A := by
  unfold okC at hL
  simp only [Bool.and_eq_true] at hL
  obtain ⟨⟨⟨⟨⟨⟨⟨⟨⟨⟨l1, l2⟩, l3⟩, l4⟩, l5⟩, l6⟩, l7⟩, l8⟩, l9⟩, l10⟩, l11⟩ := hL
  refine ⟨h.1, h.2.1, fun k a b => ?_⟩
  obtain ⟨⟨c1, c2, c3, ⟨c4, c5, c6, c7, c8⟩, c9⟩, d⟩ := h.2.2 k a b
  refine ⟨⟨?_, ?_, fun z => ?_, ⟨?_, ?_, fun z hz => ?_, c7, c8⟩, fun z => ?_⟩, d⟩
  · rw [sg_F_ga f l1]; exact c1
  · rw [sg_F_ga f l2]; exact c2
  · rw [sg_F_gal f l10]; exact c3 z
  · rw [sg_F_ga f l6]; exact c4
  · rw [sg_F_ga f l3, show sg_g σ' 9 = sg_g σ 9 from funext fun _ => sg_F_ga f l5]; exact c5
  · rw [sg_F_ga f l4]; exact c6 z hz
  · obtain ⟨e1, e2, e3⟩ := c9 z
    refine ⟨?_, ?_, fun j x y h1 h2 => ?_⟩
    · rw [sg_F_ga f l7]; exact e1
    · rw [sg_F_ga f l8]; exact e2
    · rw [sg_F_gal f l11, sg_F_ga f l9]; exact e3 j x y h1 h2
/-- names known, the newest first: word, slot below those given out, depth of the slot -/
def ckE (σ : sg_S) : Int → kE → Prop
  | n, [] => n = 0
  | n, x :: r => 0 < n ∧ sg_gl σ 39 (n - 1) = uv x.1 ∧ (0 ≤ sg_g σ 40 (n - 1) ∧ sg_g σ 40 (n - 1) < sg_g σ 38 10) ∧ sg_g σ 34 (sg_g σ 40 (n - 1)) = x.2 ∧ wv x.1 ∧ ckE σ (n - 1) r
theorem ckE_n {σ : sg_S} : ∀ {n : Int} {l : kE}, ckE σ n l → n = l.length
  | n, [], h => by simp only [ckE] at h; simp [h]
  | n, x :: r, h => by have := ckE_n h.2.2.2.2.2; simp only [List.length_cons]; omega
theorem ckE_e {σ σ' : sg_S} (hs : sg_g σ 38 10 ≤ sg_g σ' 38 10) (h2 : ∀ s, 0 ≤ s → s < sg_g σ 38 10 → sg_g σ' 34 s = sg_g σ 34 s) : ∀ {n : Int} {l : kE}, ckE σ n l → (∀ j, 0 ≤ j → j < n → sg_gl σ' 39 j = sg_gl σ 39 j ∧ sg_g σ' 40 j = sg_g σ 40 j) → ckE σ' n l
  | n, [], h, _ => h
  | n, x :: r, h, hj => by
    obtain ⟨a1, a2, a3, a4, a5, a6⟩ := h
    have e := hj (n - 1) (by omega) (by omega)
    refine ⟨a1, by rw [e.1]; exact a2, by rw [e.2]; omega, by rw [e.2, h2 _ a3.1 a3.2]; exact a4, a5, ckE_e hs h2 a6 (fun j x y => hj j x (by omega))⟩
theorem ckE_F {L : List Nat} {σ σ' : sg_S} {n : Int} {e : kE} (h : ckE σ n e) (f : sg_F L σ σ') (hL : (!sg_cv L 38 10 && sg_ca L 34 && sg_ca L 39 && sg_ca L 40) = true) : ckE σ' n e := by
  simp only [Bool.and_eq_true, Bool.not_eq_true'] at hL
  obtain ⟨⟨⟨l1, l2⟩, l3⟩, l4⟩ := hL
  exact ckE_e (by rw [sg_F_g f l1]; exact Int.le_refl _) (fun s _ _ => sg_F_ga f l2) h (fun j _ _ => ⟨sg_F_gal f l3, sg_F_ga f l4⟩)
theorem ckE_d {σ : sg_S} : ∀ (k : Nat) {n : Int} {l : kE}, ckE σ n l → k ≤ l.length → ckE σ (n - k) (l.drop k)
  | 0, n, l, q, _ => by simpa using q
  | k + 1, n, [], q, hk => by simp at hk
  | k + 1, n, x :: r, q, hk => by
    have := ckE_d k q.2.2.2.2.2 (by simpa using hk)
    rw [show n - ((k + 1 : Nat) : Int) = n - 1 - k by omega]
    exact this
theorem ckE_w {σ : sg_S} : ∀ {n : Int} {l : kE}, ckE σ n l → ∀ p ∈ l, wv p.1
  | n, [], _ => by simp
  | n, x :: r, h => by
    intro p hp
    rcases List.mem_cons.mp hp with e | e
    · rw [e]; exact h.2.2.2.2.1
    · exact ckE_w h.2.2.2.2.2 p e
theorem c_find {σ : sg_S} {e : kE} {w : Int} {Q : Int → sg_S → Prop} (h : ckE σ (sg_g σ 38 9) e) (hl : e.length ≤ 272) (hs : sg_g σ 38 10 ≤ 272) (hw : wv w) (k1 : kFind e w = none → Q (-1) σ) (k2 : ∀ s, kFind e w = some (sg_g σ 34 s) → 0 ≤ s → s < 272 → Q s σ) : V_kFind σ (uv w) Q := by
  have hn := ckE_n h
  unfold V_kFind
  intro v1 e1 r1
  rw [if_neg (by omega)] at e1
  rw [e1]
  refine ⟨⟨by omega, by omega⟩, fun n v => n = (v + 1).toNat ∧ -1 ≤ v ∧ v < e.length ∧ ∃ r, ckE σ (v + 1) r ∧ kFind r w = kFind e w, kFind e w = none, ⟨_, rfl, by omega, by omega, e, by rw [show sg_g σ 38 9 - 1 + 1 = sg_g σ 38 9 by omega]; exact h, rfl⟩, ?_, k1⟩
  rintro n v rv ⟨en, h0, h1, r, hp, hf⟩
  have hrn := ckE_n hp
  refine ⟨fun hv => ?_, fun hv => ?_⟩
  · cases r with
    | nil => rw [← hf]; rfl
    | cons x r => simp only [List.length_cons] at hrn; omega
  · rw [xl_in ⟨hv, by omega⟩]
    cases r with
    | nil => simp at hrn; omega
    | cons x r =>
      obtain ⟨p1, p2, p3, p4, p5, p6⟩ := hp
      rw [show v + 1 - 1 = v by omega] at p2 p3 p4 p6
      rw [p2]
      refine ⟨fun hne => ⟨⟨by omega, by omega⟩, _, ?_, rfl, by omega, by omega, r, by rw [show v + -1 + 1 = v by omega]; exact p6, ?_⟩, fun he => ?_⟩
      · omega
      · rw [← hf, kFind, if_neg (fun z => hne (by rw [z]))]
      · have hx := uv_inj p5 hw he
        rw [xa_in ⟨hv, by omega⟩]
        refine k2 _ ?_ p3.1 (by omega)
        rw [← hf, kFind, if_pos hx, p4]
theorem c_bind {σ : sg_S} {e : kE} {w ty : Int} {c : Nat} {Q : Int → sg_S → Prop} (h : ckE σ (sg_g σ 38 9) e) (hc : sg_g σ 38 10 = c) (hc2 : c < 272) (hl : e.length < 272) (hw : wv w) (hr : sg_RL (uv w)) (ht : sg_R ty) (k : ∀ σ', ckE σ' (sg_g σ' 38 9) ((w, ty) :: e) → sg_g σ' 38 10 = (c + 1 : Nat) → (∀ j, ¬ j = sg_g σ 38 9 → sg_gl σ' 39 j = sg_gl σ 39 j) → sg_F [34, 39, 40, 10038, 11038] σ σ' → Q (c : Int) σ') : V_kBind σ (uv w) ty Q := by
  have hn := ckE_n h
  unfold V_kBind
  rw [hc]
  refine ⟨⟨by omega, by omega⟩, fun σ2 e2 σ5 e5 σ8 e8 => ⟨⟨by omega, by omega⟩, fun σ12 e12 σ15 e15 => ?_⟩⟩
  rw [xpl_in ⟨by omega, by omega⟩] at e5
  rw [xp_in ⟨by omega, by omega⟩] at e8
  rw [xp_in ⟨by omega, by omega⟩] at e15
  have s15 : sg_g σ15 38 10 = (c + 1 : Nat) := by
    rw [e15, sg_gw_c _ _ _ _ _ _ (by decide), e12, sg_gw_k _ _ _ _ _ _ (by decide), e8, sg_gw_c _ _ _ _ _ _ (by decide), e5, sg_gwl', e2, sg_gw_e _ _ _ _ ⟨by omega, by omega⟩]; omega
  have n15 : sg_g σ15 38 9 = sg_g σ 38 9 + 1 := by
    rw [e15, sg_gw_c _ _ _ _ _ _ (by decide), e12, sg_gw_e _ _ _ _ ⟨by omega, by omega⟩]
  have g40 : sg_g σ15 40 (sg_g σ 38 9) = c := by
    rw [e15, sg_gw_c _ _ _ _ _ _ (by decide), e12, sg_gw_c _ _ _ _ _ _ (by decide), e8, sg_gw_e _ _ _ _ ⟨by omega, by omega⟩]
  refine k σ15 ?_ s15 (fun j hj => ?_) ?_
  · rw [n15]
    refine ⟨by omega, ?_, ?_, ?_, hw, ?_⟩
    · rw [show sg_g σ 38 9 + 1 - 1 = sg_g σ 38 9 by omega, e15, sg_gw', e12, sg_gw', e8, sg_gw', e5, sg_gwl_e _ _ _ _ hr]
    · rw [show sg_g σ 38 9 + 1 - 1 = sg_g σ 38 9 by omega, g40, s15]; omega
    · rw [show sg_g σ 38 9 + 1 - 1 = sg_g σ 38 9 by omega, g40, e15, sg_gw_e _ _ _ _ ht]
    · rw [show sg_g σ 38 9 + 1 - 1 = sg_g σ 38 9 by omega]
      refine ckE_e (by rw [s15]; omega) (fun s a b => ?_) h (fun j a b => ⟨?_, ?_⟩)
      · rw [e15, sg_gw_k _ _ _ _ _ _ (by omega), e12, sg_gw_c _ _ _ _ _ _ (by decide), e8, sg_gw_c _ _ _ _ _ _ (by decide), e5, sg_gwl', e2, sg_gw_c _ _ _ _ _ _ (by decide)]
      · rw [e15, sg_gw', e12, sg_gw', e8, sg_gw', e5, sg_gwl_k _ _ _ _ _ _ (by omega), e2, sg_gw']
      · rw [e15, sg_gw_c _ _ _ _ _ _ (by decide), e12, sg_gw_c _ _ _ _ _ _ (by decide), e8, sg_gw_k _ _ _ _ _ _ (by omega), e5, sg_gwl', e2, sg_gw_c _ _ _ _ _ _ (by decide)]
  · rw [e15, sg_gw', e12, sg_gw', e8, sg_gw', e5, sg_gwl_k _ _ _ _ _ _ hj, e2, sg_gw']
  · rw [e15, e12, e8, e5, e2]
    exact sg_F_w (sg_F_w (sg_F_w (sg_F_wl (sg_F_w (sg_F_r _ _) rfl _) rfl _) rfl _) rfl _) rfl _
/-- a fault, with a place -/
def cF (σ : sg_S) : Prop := ¬ sg_g σ 38 13 = 0 ∧ 0 ≤ sg_g σ 38 12
/-- no fault so far -/
def cZ (σ : sg_S) : Prop := sg_g σ 38 13 = 0 ∧ sg_g σ 38 12 = -1
theorem cZ_F {L : List Nat} {σ σ' : sg_S} (h : cZ σ) (f : sg_F L σ σ') (hL : (!sg_cv L 38 13 && !sg_cv L 38 12) = true) : cZ σ' := by
  simp only [Bool.and_eq_true, Bool.not_eq_true'] at hL
  exact ⟨by rw [sg_F_g f hL.1]; exact h.1, by rw [sg_F_g f hL.2]; exact h.2⟩
theorem cF_F {L : List Nat} {σ σ' : sg_S} (h : cF σ) (f : sg_F L σ σ') (hL : (!sg_cv L 38 13 && !sg_cv L 38 12) = true) : cF σ' := by
  simp only [Bool.and_eq_true, Bool.not_eq_true'] at hL
  exact ⟨by rw [sg_F_g f hL.1]; exact h.1, by rw [sg_F_g f hL.2]; exact h.2⟩
theorem c_blame {σ : sg_S} {a p : Int} {Q : sg_S → Prop} (h0 : ¬ sg_g σ 38 13 = 0 → 0 ≤ sg_g σ 38 12) (ha : sg_R a ∧ ¬ a = 0) (hp : 0 ≤ p ∧ sg_R p) (k : ∀ σ', cF σ' → sg_F [13038, 14038] σ σ' → Q σ') : V_kBlame σ a p Q := by
  unfold V_kBlame
  refine ⟨fun h => k σ ⟨h, h0 h⟩ (sg_F_r _ _), fun _ σ2 e2 σ5 e5 => k σ5 ⟨?_, ?_⟩ ?_⟩
  · rw [e5, sg_gw_k _ _ _ _ _ _ (by decide), e2, sg_gw_e _ _ _ _ ha.1]; exact ha.2
  · rw [e5, sg_gw_e _ _ _ _ hp.2]; exact hp.1
  · rw [e5, e2]; exact sg_F_w (sg_F_w (sg_F_r _ _) rfl _) rfl _
theorem xF_p {L : List Nat} {σ σ1 : sg_S} (h : sg_F L σ σ1) {a : Nat} (ha : L.contains a = true) (n i x : Int) : sg_F L σ (sx_put σ1 a n i x) := by
  unfold sx_put
  split
  · exact sg_F_w h (by unfold sg_cv; rw [ha]; rfl) _
  · exact h
theorem c_add {σ : sg_S} {a b : Int} {Q : sg_S → Prop} (k : ∀ σ', sg_F [29, 30, 32, 33, 7028] σ σ' → Q σ') : V_kpAdd σ a b Q := by
  unfold V_kpAdd
  intro σ1 e1 σ4 e4 σ7 e7
  have f7 : sg_F [29, 30, 32, 33, 7028] σ σ7 := by
    rw [e7, e4, e1]; exact sg_F_w (xF_p (xF_p (sg_F_r _ _) rfl _ _ _) rfl _ _ _) rfl _
  refine ⟨fun _ σ' e => k σ' ?_, fun _ => ⟨fun _ => ⟨fun _ σ' e => k σ' ?_, fun _ => ⟨fun _ => k σ7 f7, fun _ σ' e => k σ' ?_⟩⟩, fun _ σ' e => k σ' ?_⟩⟩
  all_goals (rw [e]; exact xF_p f7 rfl _ _ _)
/-- DEFS that may be called -/
def dsC (σ : sg_S) : Int → kD → Prop
  | n, [] => n = 0
  | n, x :: r => 0 < n ∧ sg_gl σ 20 (n - 1) = uv x.1 ∧ wv x.1 ∧ (sg_g σ 23 (n - 1) = x.2.1.length ∧ (∀ j : Nat, ∀ y, x.2.1[j]? = some y → sg_g σ 27 (6 * (n - 1) + j) = y) ∧ sg_g σ 22 (n - 1) = x.2.2 ∧ x.2.1.length ≤ 6) ∧ kDef r x.1 = none ∧ dsC σ (n - 1) r
def dcQ (σ : sg_S) (q : Int) (x : List Int × Int) : Prop := sg_g σ 23 q = x.1.length ∧ (∀ j : Nat, ∀ y, x.1[j]? = some y → sg_g σ 27 (6 * q + j) = y) ∧ sg_g σ 22 q = x.2 ∧ x.1.length ≤ 6
theorem dsC_n {σ : sg_S} : ∀ {n : Int} {l : kD}, dsC σ n l → n = l.length
  | n, [], h => by simp only [dsC] at h; simp [h]
  | n, x :: r, h => by have := dsC_n h.2.2.2.2.2; simp only [List.length_cons]; omega
theorem dsC_F {L : List Nat} {σ σ' : sg_S} (f : sg_F L σ σ') (hL : (sg_ca L 20 && sg_ca L 22 && sg_ca L 23 && sg_ca L 27) = true) : ∀ {n : Int} {l : kD}, dsC σ n l → dsC σ' n l
  | n, [], h => h
  | n, x :: r, h => by
    have hL2 := hL
    simp only [Bool.and_eq_true] at hL2
    obtain ⟨⟨⟨l1, l2⟩, l3⟩, l4⟩ := hL2
    obtain ⟨b1, b2, b3, ⟨b4, b5, b6, b7⟩, b8, b9⟩ := h
    exact ⟨b1, by rw [sg_F_gal f l1]; exact b2, b3, ⟨by rw [sg_F_ga f l3]; exact b4, fun j y hy => by rw [sg_F_ga f l4]; exact b5 j y hy, by rw [sg_F_ga f l2]; exact b6, b7⟩, b8, dsC_F f hL b9⟩
theorem dsC_at {σ : sg_S} : ∀ {n : Int} {l : kD}, dsC σ n l → ∀ q, 0 ≤ q → q < n → ∃ x : Int × List Int × Int, sg_gl σ 20 q = uv x.1 ∧ wv x.1 ∧ dcQ σ q x.2 ∧ kDef l x.1 = some x.2
  | n, [], h, q, a, b => by simp only [dsC] at h; omega
  | n, x :: r, h, q, a, b => by
    obtain ⟨b1, b2, b3, b4, b5, b6⟩ := h
    by_cases e : q = n - 1
    · subst e
      exact ⟨x, b2, b3, b4, by unfold kDef; rw [if_pos rfl]⟩
    · obtain ⟨y, y1, y2, y3, y4⟩ := dsC_at b6 q a (by omega)
      refine ⟨y, y1, y2, y3, ?_⟩
      unfold kDef
      rw [if_neg (fun z => by rw [← z, b5] at y4; cases y4)]
      exact y4
theorem dsC_ex {σ : sg_S} {w : Int} : ∀ {n : Int} {l : kD} {y : List Int × Int}, dsC σ n l → kDef l w = some y → ∃ q, 0 ≤ q ∧ q < n ∧ sg_gl σ 20 q = uv w
  | n, [], y, h, hk => by cases hk
  | n, x :: r, y, h, hk => by
    obtain ⟨b1, b2, b3, b4, b5, b6⟩ := h
    unfold kDef at hk
    split at hk
    · rename_i e
      exact ⟨n - 1, by omega, by omega, by rw [b2, e]⟩
    · obtain ⟨q, a, b, c⟩ := dsC_ex b6 hk
      exact ⟨q, a, by omega, c⟩
theorem c_dfind {σ : sg_S} {ds : kD} {w n : Int} {Q : Int → sg_S → Prop} (h : dsC σ n ds) (hl : ds.length ≤ 12) (hw : wv w) (k1 : kDef ds w = none → Q (-1) σ) (k2 : ∀ q x, kDef ds w = some x → 0 ≤ q → q < 12 → dcQ σ q x → Q q σ) : V_kdFind σ (uv w) n Q := by
  have hn := dsC_n h
  unfold V_kdFind
  refine ⟨fun m v => m = (n - v).toNat ∧ 0 ≤ v ∧ v ≤ n ∧ ∀ j, 0 ≤ j → j < v → ¬ sg_gl σ 20 j = uv w, kDef ds w = none, ⟨_, rfl, Int.le_refl _, by omega, fun j a b => by omega⟩, ?_, k1⟩
  rintro m v rv ⟨em, v0, v1, hj⟩
  have no : n ≤ v → kDef ds w = none := fun c => by
    cases hk : kDef ds w with
    | none => rfl
    | some y =>
      obtain ⟨q, a, b, cc⟩ := dsC_ex h hk
      exact absurd cc (hj q a (by omega))
  refine ⟨no, fun c => ⟨fun c2 => by omega, fun c2 => ?_⟩⟩
  rw [xl_in ⟨v0, c2⟩]
  refine ⟨fun hne => ⟨⟨by omega, by omega⟩, _, ?_, rfl, by omega, by omega, fun j a b => ?_⟩, fun he => ?_⟩
  · omega
  · by_cases e : j = v
    · subst e; exact hne
    · exact hj j a (by omega)
  · obtain ⟨x, x1, x2, x3, x4⟩ := dsC_at h v v0 c
    have := uv_inj x2 hw (x1.symm.trans he)
    rw [this] at x4
    exact k2 v x.2 x4 v0 c2 x3
/-! depthOf of the class is kTy. -/
def vDP (K a b : Int) : Int := (if K = 35 then (if a ≤ 0 then ((-1) : Int) else (0 : Int)) else (if K = 91 then (if a ≤ 0 then ((-1) : Int) else (if ¬ b = 0 then ((-1) : Int) else (a - 1))) else (if K = 267 then (if ¬ a = 0 then ((-1) : Int) else (1 : Int)) else (if K = 268 then (if ¬ b = 0 then ((-1) : Int) else (a + 1)) else (if K = 269 then (if ¬ a = 1 then ((-1) : Int) else (0 : Int)) else (if K = 270 then (if ¬ a = 1 then ((-1) : Int) else (0 : Int)) else (if K = 271 then (if ¬ a = 1 then ((-1) : Int) else (0 : Int)) else (if K = 272 then (if ¬ a = 1 then ((-1) : Int) else (1 : Int)) else (if K = 273 then (if a ≤ 0 then ((-1) : Int) else a) else (if K = 274 then (if a ≤ 0 then ((-1) : Int) else (if ¬ a = b then ((-1) : Int) else a)) else (if K = 275 then (if a ≤ 1 then ((-1) : Int) else (a - 1)) else (if K = 276 then (if a ≤ 0 then ((-1) : Int) else (if ¬ b = 1 then ((-1) : Int) else a)) else (if K = 277 then (if a ≤ 0 then ((-1) : Int) else (if ¬ b = 1 then ((-1) : Int) else a)) else (if K = 278 then (if a ≤ 0 then ((-1) : Int) else (if ¬ b = 1 then ((-1) : Int) else (a + 1))) else (if ¬ a = 0 then ((-1) : Int) else (if ¬ b = 0 then ((-1) : Int) else (0 : Int)))))))))))))))))
def okP (r : Option Int) (q : Int) : Prop := (r = none ∧ (q < 0 ∨ 3 < q)) ∨ (r = some q ∧ 0 ≤ q ∧ q ≤ 3)
/-- kinds whose parts are told by their number alone -/
def kTp (k : Int) (ts : List Int) : Option Int :=
  if k < 11 then kIs (decide (ts.getD 0 0 = 0) && decide (ts.getD 1 0 = 0)) 0
  else if k = 11 then kIs (decide (0 < ts.getD 0 0)) 0
  else if k = 12 then kIs (decide (0 < ts.getD 0 0) && decide (ts.getD 1 0 = 0)) (ts.getD 0 0 - 1)
  else kAct k ts
theorem vDP_2 : ∀ k ∈ ([4, 5, 6, 7, 8, 9, 10, 12, 17, 23, 25, 26, 27] : List Int), v_kPartsOf (kmp k) = 2 ∧ ∀ a ∈ ([0, 1, 2, 3] : List Int), ∀ b ∈ ([0, 1, 2, 3] : List Int), (kTp k [a, b] = none ∧ (vDP (kmp k) a b < 0 ∨ 3 < vDP (kmp k) a b)) ∨ (kTp k [a, b] = some (vDP (kmp k) a b) ∧ 0 ≤ vDP (kmp k) a b ∧ vDP (kmp k) a b ≤ 3) := by decide
theorem vDP_1 : ∀ k ∈ ([11, 16, 18, 19, 20, 21, 22, 24] : List Int), v_kPartsOf (kmp k) = 1 ∧ ∀ a ∈ ([0, 1, 2, 3] : List Int), (kTp k [a] = none ∧ (vDP (kmp k) a a < 0 ∨ 3 < vDP (kmp k) a a)) ∨ (kTp k [a] = some (vDP (kmp k) a a) ∧ 0 ≤ vDP (kmp k) a a ∧ vDP (kmp k) a a ≤ 3) := by decide
theorem in4 {a : Int} (h : kIn a) : a ∈ ([0, 1, 2, 3] : List Int) := by
  have := h.1
  have := h.2
  have : a = 0 ∨ a = 1 ∨ a = 2 ∨ a = 3 := by omega
  rcases this with e | e | e | e <;> subst e <;> decide
theorem kAct_no {k : Int} {ts : List Int} (h : (k ∈ ([17, 23, 25, 26, 27] : List Int) ∧ ¬ ts.length = 2) ∨ (k ∈ ([16, 18, 19, 20, 21, 22, 24] : List Int) ∧ ¬ ts.length = 1)) : kAct k ts = none := by
  have nf : ∀ (x : Bool) (t : Int), kIs (false && x) t = none := fun x t => by cases x <;> rfl
  rcases h with ⟨h, hl⟩ | ⟨h, hl⟩
  · have h2 : decide (ts.length = 2) = false := decide_eq_false hl
    simp only [List.mem_cons, List.not_mem_nil, or_false] at h
    rcases h with e | e | e | e | e <;> subst e <;> simp [kAct, kIs, hl]
  · simp only [List.mem_cons, List.not_mem_nil, or_false] at h
    rcases h with e | e | e | e | e | e | e <;> subst e <;> simp [kAct, kIs, hl]
theorem lkc_0 {g : Int → Int} {L : List Int} {h x : Int} (q : lkc g L h) (hx : L[0]? = some x) : h = x := by
  cases L with
  | nil => cases hx
  | cons y r => cases hx; exact q.1
theorem lkc_s {g : Int → Int} : ∀ {L : List Int} {h : Int}, lkc g L h → ∀ (i : Nat) (x y : Int), L[i]? = some x → L[i + 1]? = some y → g x = y
  | [], _, _, i, x, y, hx, _ => by cases hx
  | z :: r, h, q, 0, x, y, hx, hy => by
    cases hx
    rcases q.2 with e | e
    · rw [e] at hy; cases hy
    · exact lkc_0 e hy
  | z :: r, h, q, i + 1, x, y, hx, hy => by
    rcases q.2 with e | e
    · rw [e] at hx; cases hx
    · exact lkc_s e i x y hx hy
theorem vDP_V {σ : sg_S} {n K a b : Int} {Q : Int → sg_S → Prop} (ha : sx_at σ 6 200 (sx_at σ 7 200 n) = a) (hb : sx_at σ 6 200 (sx_at σ 8 200 n) = b) (i1 : kIn a) (i2 : kIn b) (k : Q (vDP K a b) σ) : V_kDepthOfParts σ n K Q := by
  have j1 := i1.1
  have j2 := i1.2
  have j3 := i2.1
  have j4 := i2.2
  have key : ∀ q, vDP K a b = q → Q q σ := fun q h => by rw [← h]; exact k
  unfold V_kDepthOfParts
  rw [ha, hb]
  unfold V_kDepthOfParts_35 V_kDepthOfParts_91 V_kDepthOfParts_267 V_kDepthOfParts_268 V_kDepthOfParts_269 V_kDepthOfParts_272 V_kDepthOfParts_273 V_kDepthOfParts_274 V_kDepthOfParts_275 V_kDepthOfParts_276 V_kDepthOfParts_278 V_kDepthOfParts_d
  repeat' (first | (intro _) | constructor)
  all_goals first | omega | (refine key _ ?_; unfold vDP; grind)
section DPT
variable {σ : sg_S} {A : aT} {ds : kD} {e : kE} {n : Int} {Q : Int → sg_S → Prop}
/-- what the rows tell of n's parts -/
theorem ckW_p (h : ckW σ A) (hn : 0 ≤ n ∧ n < A.1) : pts A n = kOrd A n ∧ (∀ a : Nat, ∀ m : Int, m = 200 → sx_at σ a m n = sg_g σ a n) ∧ sg_g σ 10 n = (kOrd A n).length ∧ (∀ x, (kOrd A n)[0]? = some x → sg_g σ 7 n = x) ∧ (∀ x, (kOrd A n).getLast? = some x → sg_g σ 8 n = x) ∧ (∀ (i : Nat) (x y : Int), (kOrd A n)[i]? = some x → (kOrd A n)[i + 1]? = some y → sg_g σ 9 x = y) ∧ ∀ x ∈ kOrd A n, 0 ≤ x ∧ x < 200 := by
  obtain ⟨⟨c1, c2, c3, ⟨c4, c5, c6, c7, c8⟩, c9⟩, d⟩ := h.2.2 n hn.1 hn.2
  have e0 : pts A n = kOrd A n := by
    unfold pts kOrd
    split
    · rw [List.drop_one]
    · rfl
  rw [e0] at c4 c5 c6 c8
  refine ⟨e0, fun a m hm => ?_, c4, fun x hx => lkc_0 c5 hx, c6, fun i x y hx hy => lkc_s c5 i x y hx hy, c8⟩
  subst hm
  exact xa_in ⟨hn.1, by have := h.1.2; omega⟩
theorem c_dep_d (h : ckW σ A) (hn : 0 ≤ n ∧ n < A.1) (ht : ∀ x ∈ A.2.2.2.2.1 n, kIn (sg_g σ 6 x)) (hk : A.2.1 n ∈ ([4, 5, 6, 7, 8, 9, 10, 12, 17, 23, 25, 26, 27] : List Int) ∧ ((A.2.1 n ≤ 12) → (A.2.2.2.2.1 n).length = 2) ∨ A.2.1 n ∈ ([11, 16, 18, 19, 20, 21, 22, 24] : List Int) ∧ (A.2.1 n = 11 → (A.2.2.2.2.1 n).length = 1)) (k : ∀ q, okP (kTp (A.2.1 n) ((A.2.2.2.2.1 n).map (sg_g σ 6))) q → Q q σ) : V_kDepthOf_d σ n (kmp (A.2.1 n)) Q := by
  obtain ⟨p0, p1, p2, p3, p4, p5, p6⟩ := ckW_p h hn
  have n15 : ¬ A.2.1 n = 15 := by
    rcases hk with ⟨hk, -⟩ | ⟨hk, -⟩ <;> (intro z; rw [z] at hk; revert hk; decide)
  have ho : kOrd A n = A.2.2.2.2.1 n := by unfold kOrd; rw [if_neg n15]
  rw [ho] at p2 p3 p4 p6
  unfold V_kDepthOf_d
  rw [p1 10 200 rfl, p2]
  rcases hk with ⟨hk, hl⟩ | ⟨hk, hl⟩
  · obtain ⟨v1, v2⟩ := vDP_2 _ hk
    rw [v1]
    refine ⟨fun c => k _ (Or.inl ⟨?_, Or.inl (by decide)⟩), fun c => ?_⟩
    · have hlt : ¬ A.2.1 n ≤ 12 := fun z => by have := hl z; omega
      unfold kTp
      rw [if_neg (by omega), if_neg (by omega), if_neg (by omega)]
      refine kAct_no (Or.inl ⟨?_, by rw [List.length_map]; omega⟩)
      simp only [List.mem_cons, List.not_mem_nil, or_false] at hk ⊢
      omega
    · obtain ⟨x, y, hxy⟩ : ∃ x y, A.2.2.2.2.1 n = [x, y] := by
        match hh : A.2.2.2.2.1 n with
        | [x, y] => exact ⟨x, y, rfl⟩
        | [] => rw [hh] at c; simp at c
        | [_] => rw [hh] at c; simp at c
        | _ :: _ :: _ :: _ => rw [hh] at c; simp only [List.length_cons] at c; omega
      rw [hxy] at p3 p4 p6 ht
      have x7 := p3 x rfl
      have x8 := p4 y rfl
      have ax : sx_at σ 6 200 (sx_at σ 7 200 n) = sg_g σ 6 x := by rw [p1 7 200 rfl, x7, xa_in (p6 x (by simp))]
      have ay : sx_at σ 6 200 (sx_at σ 8 200 n) = sg_g σ 6 y := by rw [p1 8 200 rfl, x8, xa_in (p6 y (by simp))]
      have tx := ht x (by simp)
      have ty := ht y (by simp)
      refine vDP_V ax ay tx ty (fun _ => k _ ?_)
      rw [hxy]
      exact v2 _ (in4 tx) _ (in4 ty)
  · obtain ⟨v1, v2⟩ := vDP_1 _ hk
    rw [v1]
    refine ⟨fun c => k _ (Or.inl ⟨?_, Or.inl (by decide)⟩), fun c => ?_⟩
    · have hlt : ¬ A.2.1 n = 11 := fun z => by have := hl z; omega
      simp only [List.mem_cons, List.not_mem_nil, or_false] at hk
      unfold kTp
      rw [if_neg (by omega), if_neg (by omega), if_neg (by omega)]
      refine kAct_no (Or.inr ⟨?_, by rw [List.length_map]; omega⟩)
      simp only [List.mem_cons, List.not_mem_nil, or_false]
      omega
    · obtain ⟨x, hxy⟩ : ∃ x, A.2.2.2.2.1 n = [x] := by
        match hh : A.2.2.2.2.1 n with
        | [x] => exact ⟨x, rfl⟩
        | [] => rw [hh] at c; simp at c
        | _ :: _ :: _ => rw [hh] at c; simp only [List.length_cons] at c; omega
      rw [hxy] at p3 p4 p6 ht
      have x7 := p3 x rfl
      have x8 := p4 x rfl
      have ax : sx_at σ 6 200 (sx_at σ 7 200 n) = sg_g σ 6 x := by rw [p1 7 200 rfl, x7, xa_in (p6 x (by simp))]
      have ay : sx_at σ 6 200 (sx_at σ 8 200 n) = sg_g σ 6 x := by rw [p1 8 200 rfl, x8, xa_in (p6 x (by simp))]
      have tx := ht x (by simp)
      refine vDP_V ax ay tx tx (fun _ => k _ ?_)
      rw [hxy]
      exact v2 _ (in4 tx)
end DPT
/-! depthOf of the class is kTy: the kinds with rules of their own. -/
theorem okP_is {b : Bool} {t q : Int} (h : (b = false ∧ (q < 0 ∨ 3 < q)) ∨ (b = true ∧ q = t ∧ 0 ≤ q)) : okP (kIs b t) q := by
  unfold okP kIs
  rcases h with ⟨h1, h2⟩ | ⟨h1, h2, h3⟩
  · left
    rw [if_neg (by rw [h1]; simp)]
    exact ⟨rfl, h2⟩
  · by_cases c : t ≤ 3
    · right
      rw [if_pos ⟨h1, c⟩, h2]
      exact ⟨rfl, by omega, by omega⟩
    · left
      rw [if_neg (fun z => c z.2)]
      exact ⟨rfl, by omega⟩
section DPT
variable {σ : sg_S} {A : aT} {ds : kD} {e : kE} {n : Int} {Q : Int → sg_S → Prop}
theorem c_row (h : ckW σ A) (hn : 0 ≤ n ∧ n < A.1) (hw : nW A n) (ht : ∀ x ∈ A.2.2.2.2.1 n, kIn (sg_g σ 6 x)) (hk : A.2.1 n = 14) (k : ∀ q, okP (kTy A ds (sg_g σ 6) e n ((A.2.2.2.2.1 n).map (sg_g σ 6))) q → Q q σ) : V_kDepthOfRow σ n Q := by
  obtain ⟨p0, p1, p2, p3, p4, p5, p6⟩ := ckW_p h hn
  have ho : kOrd A n = A.2.2.2.2.1 n := by unfold kOrd; rw [if_neg (by omega)]
  rw [ho] at p2 p3 p4 p5 p6
  obtain ⟨n1, n2, n3, n4, n5, n6, n7, n8⟩ := hw
  have hl := n6 hk
  have hA := h.1.2
  have hln : (A.2.2.2.2.1 n).length ≤ 200 := by
    have := sg_Rg σ 10 n
    have hN : (kOrd A n).Nodup := by
      have := (h.2.2 n hn.1 hn.2).1.2.2.2.1.2.2.2.1
      rw [p0] at this; exact this
    rw [ho] at hN
    exact ndl 200 _ hN (fun x hx => p6 x hx)
  generalize hks : A.2.2.2.2.1 n = ks at *
  obtain ⟨x0, hx0⟩ : ∃ x, ks[0]? = some x := ⟨_, List.getElem?_eq_getElem (by omega)⟩
  have h7 := p3 x0 hx0
  have ax : sx_at σ 6 200 (sx_at σ 7 200 n) = sg_g σ 6 x0 := by rw [p1 7 200 rfl, h7, xa_in (p6 x0 (List.mem_of_getElem? hx0))]
  have t0 := ht x0 (List.mem_of_getElem? hx0)
  have hkt : kTy A ds (sg_g σ 6) e n (ks.map (sg_g σ 6)) = kIs ((ks.map (sg_g σ 6)).all (fun x => decide (x = sg_g σ 6 x0))) (sg_g σ 6 x0 + 1) := by
    have e0 : (ks.map (sg_g σ 6)).getD 0 0 = sg_g σ 6 x0 := by rw [List.getD_eq_getElem?_getD, List.getElem?_map, hx0]; rfl
    simp only [kTy, hk]
    rw [e0]; rfl
  have tt1 := t0.1
  have tt2 := t0.2
  unfold V_kDepthOfRow
  rw [ax, p1 10 200 rfl, p2, p1 7 200 rfl]
  refine ⟨fun m v1 v2 => ∃ i : Nat, v2 = i ∧ m = ks.length - i ∧ i ≤ ks.length ∧ (∀ x, ks[i]? = some x → v1 = x) ∧ ∀ (j : Nat) (x : Int), j < i → ks[j]? = some x → sg_g σ 6 x = sg_g σ 6 x0, (∀ x ∈ ks, sg_g σ 6 x = sg_g σ 6 x0), ⟨_, 0, rfl, rfl, Nat.zero_le _, fun x hx => p3 x hx, fun j x hj => by omega⟩, ?_, fun hall => ⟨⟨by omega, by omega⟩, k _ ?_⟩⟩
  · rintro m v1 v2 r1 r2 ⟨i, rfl, em, hi, hv, hj⟩
    have fin : ks.length ≤ i → ∀ x ∈ ks, sg_g σ 6 x = sg_g σ 6 x0 := fun c x hx => by
      obtain ⟨j, hj2⟩ := List.getElem?_of_mem hx
      have : j < ks.length := by
        rcases Nat.lt_or_ge j ks.length with q | q
        · exact q
        · rw [List.getElem?_eq_none q] at hj2; cases hj2
      exact hj j x (by omega) hj2
    refine ⟨fun c => fin (by omega), fun c => ⟨fun c2 => fin (by omega), fun c2 => ?_⟩⟩
    obtain ⟨x, hx⟩ : ∃ x, ks[i]? = some x := ⟨_, List.getElem?_eq_getElem (by omega)⟩
    have e1 := hv x hx
    have xr := p6 x (List.mem_of_getElem? hx)
    subst e1
    rw [xa_in xr, xa_in xr]
    refine ⟨fun he => ⟨⟨by omega, by omega⟩, ks.length - (i + 1), by omega, i + 1, by omega, rfl, by omega, fun y hy => p5 i _ y hx hy, fun j y hj2 hy => ?_⟩, fun he => k _ ?_⟩
    · by_cases e2 : j = i
      · subst e2; rw [hx] at hy; cases hy; exact he
      · exact hj j y (by omega) hy
    · rw [hkt]
      refine okP_is (Or.inl ⟨?_, Or.inl (by decide)⟩)
      rw [List.all_eq_false]
      exact ⟨_, List.mem_map.mpr ⟨v1, List.mem_of_getElem? hx, rfl⟩, by simpa using he⟩
  · rw [hkt]
    refine okP_is (Or.inr ⟨?_, rfl, by omega⟩)
    rw [List.all_eq_true]
    intro y hy
    obtain ⟨x, hx, rfl⟩ := List.mem_map.mp hy
    exact decide_eq_true (hall x hx)
theorem c_call (h : ckW σ A) (hn : 0 ≤ n ∧ n < A.1) (ht : ∀ x ∈ A.2.2.2.2.1 n, kIn (sg_g σ 6 x)) (hk : A.2.1 n = 13) {q : Int} {ps : List Int} {r : Int} (hq : sg_g σ 16 n = q) (hq2 : 0 ≤ q ∧ q < 12) (hd : kDef ds (A.2.2.2.1 n) = some (ps, r)) (hdq : dcQ σ q (ps, r)) (hr : 0 ≤ r ∧ r < 200) (hrt : kIn (sg_g σ 6 r)) (k : ∀ q, okP (kTy A ds (sg_g σ 6) e n ((A.2.2.2.2.1 n).map (sg_g σ 6))) q → Q q σ) : V_kDepthOfCall σ n Q := by
  obtain ⟨p0, p1, p2, p3, p4, p5, p6⟩ := ckW_p h hn
  have ho : kOrd A n = A.2.2.2.2.1 n := by unfold kOrd; rw [if_neg (by omega)]
  rw [ho] at p2 p3 p4 p5 p6
  obtain ⟨d1, d2, d3, d4⟩ := hdq
  simp only at d1 d2 d3 d4
  generalize hks : A.2.2.2.2.1 n = ks at *
  have hkt : kTy A ds (sg_g σ 6) e n (ks.map (sg_g σ 6)) = kIs (decide (ks.map (sg_g σ 6) = ps)) (sg_g σ 6 r) := by
    simp only [kTy, hk, hd]
    rfl
  have tr1 := hrt.1
  unfold V_kDepthOfCall
  rw [p1 16 200 rfl, hq, p1 10 200 rfl, p2, xa_in (a := 23) hq2, d1, p1 7 200 rfl]
  have hml : (ks.map (sg_g σ 6)).length = ks.length := List.length_map _
  refine ⟨fun c => ?_, fun c => k _ ?_⟩
  · refine ⟨fun m v1 v2 => ∃ i : Nat, v2 = i ∧ m = ks.length - i ∧ i ≤ ks.length ∧ (∀ x, ks[i]? = some x → v1 = x) ∧ ∀ (j : Nat) (x : Int), j < i → ks[j]? = some x → ps[j]? = some (sg_g σ 6 x), ks.map (sg_g σ 6) = ps, ⟨_, 0, rfl, rfl, Nat.zero_le _, fun x hx => p3 x hx, fun j x hj => by omega⟩, ?_, fun hall => k _ ?_⟩
    · rintro m v1 v2 r1 r2 ⟨i, rfl, em, hi, hv, hj⟩
      have fin : ks.length ≤ i → ks.map (sg_g σ 6) = ps := fun c2 => by
        refine List.ext_getElem? (fun j => ?_)
        rw [List.getElem?_map]
        by_cases hj2 : j < ks.length
        · rw [List.getElem?_eq_getElem hj2]
          exact (hj j _ (by omega) (List.getElem?_eq_getElem hj2)).symm
        · rw [List.getElem?_eq_none (by omega), List.getElem?_eq_none (by omega)]; rfl
      refine ⟨fun c2 => fin (by omega), fun c2 => ⟨fun c3 => fin (by omega), fun c3 => ?_⟩⟩
      obtain ⟨x, hx⟩ : ∃ x, ks[i]? = some x := ⟨_, List.getElem?_eq_getElem (by omega)⟩
      obtain ⟨y, hy⟩ : ∃ y, ps[i]? = some y := ⟨_, List.getElem?_eq_getElem (by omega)⟩
      have e1 := hv x hx
      have xr := p6 x (List.mem_of_getElem? hx)
      subst e1
      have dy := d2 i y hy
      rw [xa_in xr, xa_in xr, xa_in (a := 27) (show 0 ≤ q * 6 + (i : Int) ∧ q * 6 + (i : Int) < 72 by omega), show q * 6 + (i : Int) = 6 * q + i by omega, dy]
      refine ⟨⟨by omega, by omega⟩, ⟨by omega, by omega⟩, fun he => ⟨⟨by omega, by omega⟩, ks.length - (i + 1), by omega, i + 1, by omega, rfl, by omega, fun y hy => p5 i _ y hx hy, fun j z hj2 hz => ?_⟩, fun he => k _ ?_⟩
      · by_cases e2 : j = i
        · subst e2; rw [hx] at hz; cases hz; rw [hy, he]
        · exact hj j z (by omega) hz
      · rw [hkt]
        refine okP_is (Or.inl ⟨decide_eq_false (fun z => he ?_), Or.inl (by decide)⟩)
        have z2 : (ks.map (sg_g σ 6))[i]? = ps[i]? := by rw [z]
        rw [List.getElem?_map, hx, hy] at z2
        exact Option.some.inj z2
    · rw [hkt, xa_in (a := 22) hq2, d3, xa_in hr]
      exact okP_is (Or.inr ⟨decide_eq_true hall, rfl, tr1⟩)
  · rw [hkt]
    refine okP_is (Or.inl ⟨decide_eq_false (fun z => c ?_), Or.inl (by decide)⟩)
    rw [← z, hml]
theorem c_each (h : ckW σ A) (hn : 0 ≤ n ∧ n < A.1) (hw : nW A n) (ht : ∀ x ∈ A.2.2.2.2.1 n, kIn (sg_g σ 6 x)) (hk : A.2.1 n = 15) (k : ∀ q, okP (kTy A ds (sg_g σ 6) e n ((A.2.2.2.2.1 n).map (sg_g σ 6))) q → Q q σ) : V_kDepthOf_123 σ n Q := by
  obtain ⟨p0, p1, p2, p3, p4, p5, p6⟩ := ckW_p h hn
  obtain ⟨n1, n2, n3, n4, n5, n6, n7, n8⟩ := hw
  have hl := n7 hk
  obtain ⟨e1, e2, e3⟩ := (h.2.2 n hn.1 hn.2).1.2.2.2.2 hk
  obtain ⟨bd, tl, hks⟩ : ∃ bd tl, A.2.2.2.2.1 n = bd :: tl := by
    match hh : A.2.2.2.2.1 n with
    | bd :: tl => exact ⟨bd, tl, rfl⟩
    | [] => rw [hh] at hl; simp only [List.length_nil] at hl; omega
  have ho : kOrd A n = tl ++ [bd] := by unfold kOrd; rw [if_pos hk, hks]; rfl
  rw [ho] at p4 p6
  have h8 := p4 bd (by simp)
  have xb := p6 bd (by simp)
  have tb := ht bd (by rw [hks]; simp)
  have tb1 := tb.1
  have tb2 := tb.2
  have hkt : kTy A ds (sg_g σ 6) e n ((A.2.2.2.2.1 n).map (sg_g σ 6)) = kIs (decide (((A.2.2.2.2.1 n).map (sg_g σ 6)).length ≠ 2 + (A.2.2.2.2.2 n).length) || decide (((A.2.2.2.2.1 n).map (sg_g σ 6)).getD (((A.2.2.2.2.1 n).map (sg_g σ 6)).length - 1) 0 = 0)) (sg_g σ 6 bd + 1) := by
    have e0 : ((A.2.2.2.2.1 n).map (sg_g σ 6)).getD 0 0 = sg_g σ 6 bd := by rw [hks]; rfl
    simp only [kTy, hk]
    rw [e0]; rfl
  have b8 : sx_at σ 6 200 (sx_at σ 8 200 n) = sg_g σ 6 bd := by rw [p1 8 200 rfl, h8, xa_in xb]
  unfold V_kDepthOf_123 p_kDepthOfEach v_kDepthOfEach
  by_cases c : (A.2.2.2.2.1 n).length = 2 + (A.2.2.2.2.2 n).length
  · obtain ⟨z, hz⟩ : ∃ z, (A.2.2.2.2.1 n).getLast? = some z := by
      cases hh : (A.2.2.2.2.1 n).getLast? with
      | none => rw [List.getLast?_eq_none_iff] at hh; rw [hh] at c; simp only [List.length_nil] at c; omega
      | some z => exact ⟨z, rfl⟩
    have e2' : sg_g σ 14 n = z := by rw [e2, if_pos c, hz]; rfl
    have zm : z ∈ A.2.2.2.2.1 n := List.mem_of_getLast? hz
    have zr : 0 ≤ z ∧ z < 200 := by
      refine p6 z ?_
      rw [hks] at zm
      rcases List.mem_cons.mp zm with q | q
      · simp [q]
      · simp [q]
    have lst : ((A.2.2.2.2.1 n).map (sg_g σ 6)).getD (((A.2.2.2.2.1 n).map (sg_g σ 6)).length - 1) 0 = sg_g σ 6 z := by
      rw [List.getD_eq_getElem?_getD, List.length_map, List.getElem?_map, ← List.getLast?_eq_getElem?, hz]; rfl
    rw [b8, p1 14 200 rfl, e2', if_neg (by omega), xa_in zr]
    refine ⟨⟨fun q => absurd q (by omega), fun _ => ⟨fun _ => ⟨⟨by omega, by omega⟩, trivial⟩, fun _ => trivial⟩⟩, k _ ?_⟩
    rw [hkt, lst]
    by_cases c2 : sg_g σ 6 z = 0
    · rw [if_pos c2]
      exact okP_is (Or.inr ⟨by rw [decide_eq_true c2, Bool.or_true], rfl, by omega⟩)
    · rw [if_neg c2]
      exact okP_is (Or.inl ⟨by rw [decide_eq_false c2, Bool.or_false]; exact decide_eq_false (fun q => q (by rw [List.length_map]; exact c)), Or.inl (by decide)⟩)
  · have e2' : sg_g σ 14 n = -1 := by rw [e2, if_neg c]
    rw [b8, p1 14 200 rfl, e2']
    refine ⟨⟨fun _ => ⟨⟨by omega, by omega⟩, trivial⟩, fun q => absurd q (by decide)⟩, ?_⟩
    rw [if_pos (by decide)]
    refine k _ ?_
    rw [hkt]
    exact okP_is (Or.inr ⟨by rw [decide_eq_true (by rw [List.length_map]; exact c), Bool.true_or], rfl, by omega⟩)
theorem c_choice (h : ckW σ A) (hn : 0 ≤ n ∧ n < A.1) (hw : nW A n) (ht : ∀ x ∈ A.2.2.2.2.1 n, kIn (sg_g σ 6 x)) (hk : A.2.1 n = 3) (k : ∀ q, okP (kTy A ds (sg_g σ 6) e n ((A.2.2.2.2.1 n).map (sg_g σ 6))) q → Q q σ) : V_kDepthOf_264 σ n Q := by
  obtain ⟨p0, p1, p2, p3, p4, p5, p6⟩ := ckW_p h hn
  have ho : kOrd A n = A.2.2.2.2.1 n := by unfold kOrd; rw [if_neg (by omega)]
  rw [ho] at p2 p3 p4 p5 p6
  obtain ⟨n1, n2, n3, n4, n5, n6, n7, n8⟩ := hw
  have hl := n4 hk
  obtain ⟨x, y, w, hxy⟩ : ∃ x y w, A.2.2.2.2.1 n = [x, y, w] := by
    match hh : A.2.2.2.2.1 n with
    | [x, y, w] => exact ⟨x, y, w, rfl⟩
    | [] => rw [hh] at hl; simp at hl
    | [_] => rw [hh] at hl; simp at hl
    | [_, _] => rw [hh] at hl; simp at hl
    | _ :: _ :: _ :: _ :: _ => rw [hh] at hl; simp only [List.length_cons] at hl; omega
  have hkt : kTy A ds (sg_g σ 6) e n ((A.2.2.2.2.1 n).map (sg_g σ 6)) = kIs (decide (sg_g σ 6 x = 0) && decide (sg_g σ 6 y = sg_g σ 6 w)) (sg_g σ 6 y) := by
    simp only [kTy, hk]
    rw [hxy]; rfl
  rw [hxy] at p3 p4 p5 p6 ht
  have x7 := p3 x rfl
  have x8 := p4 w rfl
  have x9 := p5 0 x y rfl rfl
  have xr := p6 x (by simp)
  have ty := ht y (by simp)
  have tw := ht w (by simp)
  have tw1 := tw.1
  unfold V_kDepthOf_264 v_kDepthOfChoice
  rw [p1 7 200 rfl, p1 8 200 rfl, x7, x8, xa_in xr, x9, xa_in (p6 y (by simp)), xa_in (p6 w (by simp)), xa_in xr]
  refine k _ ?_
  rw [hkt]
  by_cases c1 : sg_g σ 6 y = sg_g σ 6 w
  · rw [if_neg (fun z => z c1)]
    by_cases c2 : sg_g σ 6 x = 0
    · rw [if_neg (fun z => z c2)]
      exact okP_is (Or.inr ⟨by rw [decide_eq_true c1, decide_eq_true c2]; rfl, c1.symm, by omega⟩)
    · rw [if_pos c2]
      exact okP_is (Or.inl ⟨by rw [decide_eq_false c2]; rfl, Or.inl (by decide)⟩)
  · rw [if_pos c1]
    exact okP_is (Or.inl ⟨by rw [decide_eq_false c1, Bool.and_false], Or.inl (by decide)⟩)
theorem c_depth (h : ckW σ A) (hn : 0 ≤ n ∧ n < A.1) (hw : nW A n) (ht : ∀ x ∈ A.2.2.2.2.1 n, kIn (sg_g σ 6 x)) (h1 : A.2.1 n = 1 → ∃ s, sg_g σ 16 n = s ∧ (0 ≤ s ∧ s < 272) ∧ kFind e (A.2.2.2.1 n) = some (sg_g σ 34 s) ∧ kIn (sg_g σ 34 s)) (h13 : A.2.1 n = 13 → ∃ q ps r, sg_g σ 16 n = q ∧ (0 ≤ q ∧ q < 12) ∧ kDef ds (A.2.2.2.1 n) = some (ps, r) ∧ dcQ σ q (ps, r) ∧ (0 ≤ r ∧ r < 200) ∧ kIn (sg_g σ 6 r)) (k : ∀ q, okP (kTy A ds (sg_g σ 6) e n ((A.2.2.2.2.1 n).map (sg_g σ 6))) q → Q q σ) : V_kDepthOf σ n (kmp (A.2.1 n)) Q := by
  obtain ⟨p0, p1, p2, p3, p4, p5, p6⟩ := ckW_p h hn
  obtain ⟨n1, n2, n3, n4, n5, n6, n7, n8⟩ := id hw
  have dd : (A.2.1 n ∈ ([4, 5, 6, 7, 8, 9, 10, 12, 17, 23, 25, 26, 27] : List Int) ∨ A.2.1 n ∈ ([11, 16, 18, 19, 20, 21, 22, 24] : List Int)) → V_kDepthOf_d σ n (kmp (A.2.1 n)) Q := fun hk => by
    have hkt : ∀ ts, kTy A ds (sg_g σ 6) e n ts = kTp (A.2.1 n) ts := fun ts => by
      have : 4 ≤ A.2.1 n ∧ ¬ A.2.1 n = 13 ∧ ¬ A.2.1 n = 14 ∧ ¬ A.2.1 n = 15 := by
        simp only [List.mem_cons, List.not_mem_nil, or_false] at hk; omega
      unfold kTy kTp
      simp only
      rw [if_neg (by omega), if_neg (by omega), if_neg (by omega), if_neg (by omega)]
      by_cases c1 : A.2.1 n < 11
      · rw [if_pos c1, if_pos c1]
      · rw [if_neg c1, if_neg c1]
        by_cases c2 : A.2.1 n = 11
        · rw [if_pos c2, if_pos c2]
        · rw [if_neg c2, if_neg c2]
          by_cases c3 : A.2.1 n = 12
          · rw [if_pos c3, if_pos c3]
          · rw [if_neg c3, if_neg c3, if_neg (by omega), if_neg (by omega), if_neg (by omega)]
    refine c_dep_d h hn ht ?_ (fun q hq => k q (by rw [hkt]; exact hq))
    rcases hk with hk | hk
    · refine Or.inl ⟨hk, fun z => n3 ?_⟩
      simp only [List.mem_cons, List.not_mem_nil, or_false] at hk; omega
    · exact Or.inr ⟨hk, n5⟩
  have cs : A.2.1 n = 0 ∨ A.2.1 n = 1 ∨ A.2.1 n = 2 ∨ A.2.1 n = 3 ∨ A.2.1 n = 13 ∨ A.2.1 n = 14 ∨ A.2.1 n = 15 ∨ ((A.2.1 n ∈ ([4, 5, 6, 7, 8, 9, 10, 12, 17, 23, 25, 26, 27] : List Int) ∨ A.2.1 n ∈ ([11, 16, 18, 19, 20, 21, 22, 24] : List Int))) := by
    simp only [List.mem_cons, List.not_mem_nil, or_false]; omega
  unfold V_kDepthOf
  rcases cs with c | c | c | c | c | c | c | c
  · rw [c]
    refine ⟨fun z => absurd z (by decide), fun _ => ⟨fun _ => ?_, fun z => absurd rfl z⟩⟩
    unfold V_kDepthOf_257
    exact k 0 (Or.inr ⟨by simp [kTy, c], by decide, by decide⟩)
  · rw [c]
    refine ⟨fun z => absurd z (by decide), fun _ => ⟨fun z => absurd z (by decide), fun _ => ⟨fun _ => ?_, fun z => absurd rfl z⟩⟩⟩
    obtain ⟨s, s1, s2, s3, s4⟩ := h1 c
    unfold V_kDepthOf_258
    rw [p1 16 200 rfl, s1, xa_in (a := 34) s2]
    exact k _ (Or.inr ⟨by simp only [kTy, c]; exact s3, s4.1, s4.2⟩)
  · have ho : kOrd A n = A.2.2.2.2.1 n := by unfold kOrd; rw [if_neg (by omega)]
    rw [ho] at p4 p6
    have hl := n3 (Or.inl c)
    obtain ⟨x, y, hxy⟩ : ∃ x y, A.2.2.2.2.1 n = [x, y] := by
      match hh : A.2.2.2.2.1 n with
      | [x, y] => exact ⟨x, y, rfl⟩
      | [] => rw [hh] at hl; simp at hl
      | [_] => rw [hh] at hl; simp at hl
      | _ :: _ :: _ :: _ => rw [hh] at hl; simp at hl
    have x8 := p4 y (by rw [hxy]; rfl)
    have yr := p6 y (by rw [hxy]; simp)
    have ty := ht y (by rw [hxy]; simp)
    have kk := k
    rw [c]
    refine ⟨fun z => absurd z (by decide), fun _ => ⟨fun z => absurd z (by decide), fun _ => ⟨fun z => absurd z (by decide), fun _ => ⟨fun _ => ?_, fun z => absurd rfl z⟩⟩⟩⟩
    unfold V_kDepthOf_262
    rw [p1 8 200 rfl, x8, xa_in yr]
    refine k _ (Or.inr ⟨?_, ty.1, ty.2⟩)
    simp only [kTy, c]
    rw [hxy]; rfl
  · have q := c_choice (ds := ds) (e := e) (Q := Q) h hn hw ht c k
    rw [c]
    exact ⟨fun z => absurd z (by decide), fun _ => ⟨fun z => absurd z (by decide), fun _ => ⟨fun z => absurd z (by decide), fun _ => ⟨fun z => absurd z (by decide), fun _ => ⟨fun _ => q, fun z => absurd rfl z⟩⟩⟩⟩⟩
  · obtain ⟨q, ps, r, s1, s2, s3, s4, s5, s6⟩ := h13 c
    have qq := c_call (ds := ds) (e := e) (Q := fun q1 _ => sg_R q1 → Q q1 σ) h hn ht c s1 s2 s3 s4 s5 s6 (fun q hq _ => k q hq)
    rw [c]
    exact ⟨fun z => absurd z (by decide), fun _ => ⟨fun z => absurd z (by decide), fun _ => ⟨fun z => absurd z (by decide), fun _ => ⟨fun z => absurd z (by decide), fun _ => ⟨fun z => absurd z (by decide), fun _ => ⟨fun z => absurd z (by decide), fun _ => ⟨fun _ => qq, fun z => absurd rfl z⟩⟩⟩⟩⟩⟩⟩
  · have qq := c_row (ds := ds) (e := e) (Q := fun q1 _ => sg_R q1 → Q q1 σ) h hn hw ht c (fun q hq _ => k q hq)
    rw [c]
    exact ⟨fun z => absurd z (by decide), fun _ => ⟨fun z => absurd z (by decide), fun _ => ⟨fun z => absurd z (by decide), fun _ => ⟨fun z => absurd z (by decide), fun _ => ⟨fun z => absurd z (by decide), fun _ => ⟨fun _ => qq, fun z => absurd rfl z⟩⟩⟩⟩⟩⟩
  · have q := c_each (ds := ds) (e := e) (Q := Q) h hn hw ht c k
    rw [c]
    exact ⟨fun _ => q, fun z => absurd rfl z⟩
  · have q := dd c
    have ne : ¬ kmp (A.2.1 n) = 123 ∧ ¬ kmp (A.2.1 n) = 257 ∧ ¬ kmp (A.2.1 n) = 258 ∧ ¬ kmp (A.2.1 n) = 262 ∧ ¬ kmp (A.2.1 n) = 264 ∧ ¬ kmp (A.2.1 n) = 279 ∧ ¬ kmp (A.2.1 n) = 280 := by
      generalize A.2.1 n = K at c
      revert K
      have h1 : ∀ K ∈ ([4, 5, 6, 7, 8, 9, 10, 12, 17, 23, 25, 26, 27] : List Int), ¬ kmp K = 123 ∧ ¬ kmp K = 257 ∧ ¬ kmp K = 258 ∧ ¬ kmp K = 262 ∧ ¬ kmp K = 264 ∧ ¬ kmp K = 279 ∧ ¬ kmp K = 280 := by decide
      have h2 : ∀ K ∈ ([11, 16, 18, 19, 20, 21, 22, 24] : List Int), ¬ kmp K = 123 ∧ ¬ kmp K = 257 ∧ ¬ kmp K = 258 ∧ ¬ kmp K = 262 ∧ ¬ kmp K = 264 ∧ ¬ kmp K = 279 ∧ ¬ kmp K = 280 := by decide
      intro K hK
      rcases hK with hK | hK
      · exact h1 K hK
      · exact h2 K hK
    exact ⟨fun z => absurd z ne.1, fun _ => ⟨fun z => absurd z ne.2.1, fun _ => ⟨fun z => absurd z ne.2.2.1, fun _ => ⟨fun z => absurd z ne.2.2.2.1, fun _ => ⟨fun z => absurd z ne.2.2.2.2.1, fun _ => ⟨fun z => absurd z ne.2.2.2.2.2.1, fun _ => ⟨fun z => absurd z ne.2.2.2.2.2.2, fun _ => q⟩⟩⟩⟩⟩⟩⟩
end DPT
