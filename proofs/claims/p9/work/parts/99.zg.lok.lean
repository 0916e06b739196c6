/-! lookDef, look of the reference: kDf, kPg. -/
theorem dsR_no {σ : sg_S} {w : Int} : ∀ {n : Int} {ds : kD}, dsR σ n ds → (kDef ds w = none ↔ ∀ j, 0 ≤ j → j < n → ¬ sg_gl σ 103 j = w)
  | n, [], h => by
    simp only [dsR] at h
    exact ⟨fun _ j a b => by omega, fun _ => rfl⟩
  | n, x :: r, h => by
    obtain ⟨b1, b2, b3, b4, b5, b6, b7⟩ := h
    have ih := dsR_no (w := w) b7
    unfold kDef
    by_cases c : x.1 = w
    · rw [if_pos c]
      exact ⟨fun q => (by cases q), fun q => absurd (b2.trans c) (q (n - 1) (by omega) (by omega))⟩
    · rw [if_neg c, ih]
      refine ⟨fun q j y z => ?_, fun q j y z => q j y (by omega)⟩
      by_cases e : j = n - 1
      · rw [e, b2]; exact c
      · exact q j y (by omega)
theorem cT_r {A : aT} {b q : Int} (h : cT A b q) : b ≤ q ∧ q < A.1 := by
  obtain ⟨L, a, -, c⟩ := h
  exact c q (fT_sub a q (by simp))
/-- binders of PARAMS of the DEF d, the newest first -/
def kPb (d : Int) : Nat → List (Int × Int × Int) → kE → kE
  | _, [], eb => eb
  | j, p :: ps, eb => kPb d (j + 1) ps ((p.1, 1100 + 6 * d + j) :: eb)
/-- DEFS known behind D -/
def kDl : List aDf → kD → kD
  | [], ds => ds
  | x :: r, ds => kDl r ((x.1, x.2.2.1.map (·.2.2), x.2.2.2) :: ds)
/-- binders of nodes behind D -/
def kDB (A : aT) : List aDf → kD → Nat → (Int → Int) → (Int → Int)
  | [], _, _, B => B
  | x :: r, ds, d, B => kDB A r ((x.1, x.2.2.1.map (·.2.2), x.2.2.2) :: ds) (d + 1) (kBo A ds 201 (kPb d 0 x.2.2.1 []) x.2.2.2 B)
def kPB (A : aT) (D : List aDf) (q : Int) (B : Int → Int) : Int → Int := kBo A (kDl D []) 201 [] q (kDB A D [] 0 B)
def kPe (x : aDf) : kE := x.2.2.1.reverse.map (fun p => (p.1, p.2.2))
theorem q_lookDef {σ : sg_S} {A : aT} {D : List aDf} {d : Nat} {x : aDf} {ds : kD} {Q : sg_S → Prop} (h : trT σ A) (hlen : ∀ L : List Int, L.Nodup → (∀ x ∈ L, 0 ≤ x ∧ x < A.1) → L.length ≤ 200) (hD : dfR σ D) (hx : D[d]? = some x) (hW : dW A x) (hd : dsR σ (d : Int) ds) (h45 : sg_g σ 88 45 = d) (hF : sg_g σ 88 29 = 0) (hdi : kDi ds (sg_g σ 101)) (hr : ∀ d ∈ ds, 0 ≤ d.2.2 ∧ d.2.2 < A.1) (k1 : ∀ σ', kDf A ds x (sg_g σ 101) = none → ¬ sg_g σ' 88 29 = 0 → Q σ') (k2 : ∀ σ', kDf A ds x (sg_g σ 101) = some (sg_g σ' 101, (x.1, x.2.2.1.map (·.2.2), x.2.2.2) :: ds) → sg_g σ' 102 = kBo A ds 201 (kPb d 0 x.2.2.1 []) x.2.2.2 (sg_g σ 102) → sg_g σ' 88 29 = 0 → Q σ') : V_lookDef σ d Q := by
  have hd12 : d < 12 := by
    have := hD.2.1
    rcases Nat.lt_or_ge d D.length with q | q
    · omega
    · rw [List.getElem?_eq_none q] at hx; cases hx
  have hdl := dsR_n hd
  obtain ⟨y1, y2, y3, y4, y5, y6⟩ := hD.2.2 d x hx
  obtain ⟨w1, w2, w3⟩ := hW
  have hno := dsR_no (w := x.1) hd
  have hpw : ∀ (j : Nat), (x.2.2.1.map (·.1))[j]? = if j < x.2.2.1.length then some (sg_gl σ 107 (6 * d + j)) else none := fun j => by
    by_cases c : j < x.2.2.1.length
    · rw [if_pos c, List.getElem?_map, List.getElem?_eq_getElem c]
      rw [(y6 j _ (List.getElem?_eq_getElem c)).1]; rfl
    · rw [if_neg c]; exact List.getElem?_eq_none (by rw [List.length_map]; omega)
  have hkd : kDf A ds x (sg_g σ 101) = (if kDef ds x.1 = none ∧ (x.2.2.1.map (·.1)).Nodup ∧ (∀ p ∈ x.2.2.1, p.2.2 ≤ 3) then (match kGo A ds 201 (kPe x) x.2.2.2 (sg_g σ 101) with
    | none => none
    | some T1 => some (T1, (x.1, x.2.2.1.map (·.2.2), x.2.2.2) :: ds)) else none) := rfl
  generalize hps : x.2.2.1 = ps at *
  have hwl : (ps.map (·.1)).length = ps.length := List.length_map _
  generalize hws : ps.map (·.1) = ws at *
  obtain ⟨ok, hbad, hkt, hkf⟩ : ∃ ok : Prop, (ok ↔ (kDef ds x.1 = none ∧ ws.Nodup ∧ (∀ p ∈ ps, p.2.2 ≤ 3))) ∧ (ok → kDf A ds x (sg_g σ 101) = (match kGo A ds 201 (kPe x) x.2.2.2 (sg_g σ 101) with
    | none => none
    | some T1 => some (T1, (x.1, ps.map (·.2.2), x.2.2.2) :: ds))) ∧ (¬ ok → kDf A ds x (sg_g σ 101) = none) := ⟨_, Iff.rfl, fun z => by rw [hkd, if_pos z], fun z => by rw [hkd, if_neg z]⟩
  unfold V_lookDef
  refine ⟨fun m v σ2 => ∃ j : Nat, v = j ∧ m = d - j ∧ j ≤ d ∧ ((sg_g σ2 88 29 = 0 ∧ ∀ i : Nat, i < j → ¬ sg_gl σ 103 i = x.1) ∨ (¬ sg_g σ2 88 29 = 0 ∧ ¬ kDef ds x.1 = none)), fun σ2 => (sg_g σ2 88 29 = 0 ∧ kDef ds x.1 = none) ∨ (¬ sg_g σ2 88 29 = 0 ∧ ¬ kDef ds x.1 = none), ⟨_, 0, rfl, rfl, Nat.zero_le _, Or.inl ⟨hF, fun i hi => by omega⟩⟩, ?_, ?_⟩
  · rintro m v σ2 rv fr ⟨j, rfl, em, hj, hi⟩
    rw [y1]
    refine ⟨fun c => ?_, fun c => ⟨⟨by omega, by omega⟩, ⟨by omega, by omega⟩, fun e => ⟨⟨by omega, by omega⟩, d - (j + 1), by omega, j + 1, by omega, rfl, by omega, ?_⟩, fun e => q_wrong (by decide) (fun σ3 z1 z2 _ => ⟨⟨by omega, by omega⟩, d - (j + 1), by omega, j + 1, by omega, rfl, by omega, Or.inr ⟨z1, fun z => ?_⟩⟩)⟩⟩
    · rcases hi with ⟨z1, z2⟩ | z
      · refine Or.inl ⟨z1, hno.mpr (fun i a b => ?_)⟩
        obtain ⟨i', rfl⟩ : ∃ i' : Nat, i = i' := ⟨i.toNat, by omega⟩
        exact z2 i' (by omega)
      · exact Or.inr z
    · rcases hi with ⟨z1, z2⟩ | z
      · refine Or.inl ⟨z1, fun i hi => ?_⟩
        by_cases e2 : i = j
        · subst e2; exact e
        · exact z2 i (by omega)
      · exact Or.inr z
    · exact hno.mp z j (by omega) (by omega) e
  · intro σ2 fr2 h2 σ16 e16
    have f16 : sg_F [30088, 31088, 38088] σ σ16 := by rw [e16]; exact sg_F_w (sg_F_m fr2 rfl) rfl _
    have d16 : sg_g σ16 88 29 = sg_g σ2 88 29 := by rw [e16, sg_gw_k _ _ _ _ _ _ (by decide)]
    refine ⟨fun m v σ20 => ∃ j : Nat, v = j ∧ m = ps.length - j ∧ j ≤ ps.length ∧ ((sg_g σ20 88 29 = 0 ∧ kDef ds x.1 = none ∧ (ws.take j).Nodup ∧ (∀ (i : Nat) (p : Int × Int × Int), i < j → ps[i]? = some p → p.2.2 ≤ 3) ∧ ∃ evb, kPs σ20 ((ps.take j).reverse.map (fun p => (p.1, p.2.2))) evb ∧ kPb d j (ps.drop j) evb = kPb d 0 ps []) ∨ (¬ sg_g σ20 88 29 = 0 ∧ ¬ ok)), fun σ20 => (sg_g σ20 88 29 = 0 ∧ ok ∧ kPs σ20 (kPe x) (kPb d 0 ps [])) ∨ (¬ sg_g σ20 88 29 = 0 ∧ ¬ ok), ⟨_, 0, rfl, rfl, Nat.zero_le _, ?_⟩, ?_, ?_⟩
    · rcases h2 with ⟨z1, z2⟩ | ⟨z1, z2⟩
      · refine Or.inl ⟨by rw [d16]; exact z1, z2, by simp, fun i p hi => by omega, [], ?_, rfl⟩
        simp only [List.take_zero, List.reverse_nil, List.map_nil, kPs, pst]
        rw [e16, sg_gw_e _ _ _ _ (by decide)]
        exact ⟨rfl, rfl⟩
      · refine Or.inr ⟨by rw [d16]; exact z1, fun z => z2 ?_⟩
        exact (hbad.mp z).1
    · rintro m v σ20 rv fr20 ⟨j, rfl, em, hj, hi⟩
      rw [y4]
      refine ⟨⟨by omega, by omega⟩, fun c => ?_, fun c => ⟨fun e => ?_, fun e => ?_⟩⟩
      · rcases hi with ⟨z1, z2, z3, z4, evb, z5, z6⟩ | z
        · rw [List.take_of_length_le (by omega)] at z3 z5
          rw [List.drop_eq_nil_of_le (by omega)] at z6
          simp only [kPb] at z6
          rw [z6] at z5
          refine Or.inl ⟨z1, ?_, ?_⟩
          · refine hbad.mpr ⟨z2, z3, fun p hp => ?_⟩
            obtain ⟨i, hi⟩ := List.getElem?_of_mem hp
            have hi2 : i < ps.length := by
              rcases Nat.lt_or_ge i ps.length with q | q
              · exact q
              · rw [List.getElem?_eq_none q] at hi; cases hi
            exact z4 i p (by omega) hi
          · unfold kPe; rw [hps]; exact z5
        · exact Or.inr z
      · rcases hi with ⟨z1, -⟩ | z
        · exact absurd z1 e
        · exact Or.inr z
      · rcases hi with ⟨z1, z2, z3, z4, evb, z5, z6⟩ | ⟨z, -⟩
        rotate_left
        · exact absurd e z
        have hwj := hpw j
        rw [if_pos (by omega)] at hwj
        obtain ⟨y, hy⟩ : ∃ y, ps[j]? = some y := ⟨_, List.getElem?_eq_getElem (by omega)⟩
        obtain ⟨u1, u2, u3⟩ := y6 j y hy
        refine ⟨fun m' v' σ46 => ∃ i : Nat, v' = i ∧ m' = j - i ∧ i ≤ j ∧ ((sg_g σ46 88 29 = 0 ∧ ∀ k : Nat, k < i → ¬ ws[k]? = some (sg_gl σ 107 (6 * d + j))) ∨ (¬ sg_g σ46 88 29 = 0 ∧ ¬ ok)), fun σ46 => ((sg_g σ46 88 29 = 0 ∧ (ws.take (j + 1)).Nodup) ∨ (¬ sg_g σ46 88 29 = 0 ∧ ¬ ok)), ⟨_, 0, rfl, rfl, Nat.zero_le _, Or.inl ⟨e, fun k hk => by omega⟩⟩, ?_, ?_⟩
        · rintro m' v' σ46 rv' fr46 ⟨i, rfl, em', hij, hi3⟩
          refine ⟨fun c2 => ?_, fun c2 => ⟨⟨by omega, by omega⟩, ⟨by omega, by omega⟩, ⟨by omega, by omega⟩, ⟨by omega, by omega⟩, ⟨by omega, by omega⟩, fun e2 => ⟨⟨by omega, by omega⟩, j - (i + 1), by omega, i + 1, by omega, rfl, by omega, ?_⟩, fun e2 => q_wrong (by decide) (fun σ4 t1 t2 _ => ⟨⟨by omega, by omega⟩, j - (i + 1), by omega, i + 1, by omega, rfl, by omega, Or.inr ⟨t1, ?_⟩⟩)⟩⟩
          · rcases hi3 with ⟨t1, t2⟩ | t
            · exact Or.inl ⟨t1, (nd_take hwj).mpr ⟨z3, fun k hk => t2 k (by omega)⟩⟩
            · exact Or.inr t
          · rcases hi3 with ⟨t1, t2⟩ | t
            · refine Or.inl ⟨t1, fun k hk => ?_⟩
              by_cases e3 : k = i
              · subst e3
                rw [hpw k, if_pos (by omega)]
                exact fun z => e2 (Option.some.inj z)
              · exact t2 k (by omega)
            · exact Or.inr t
          · refine fun z => nd_sub (v := j + 1) (fun z => ((nd_take hwj).mp z).2 i (by omega) ?_) (hbad.mp z).2.1
            rw [hpw i, if_pos (by omega), e2]
        · intro σ46 fr46 h46
          rw [u3, u1]
          refine ⟨⟨by omega, by omega⟩, ⟨by omega, by omega⟩, ⟨by omega, by omega⟩, fun σ66 => (sg_g σ66 88 29 = 0 ∧ (ws.take (j + 1)).Nodup ∧ y.2.2 ≤ 3) ∨ (¬ sg_g σ66 88 29 = 0 ∧ ¬ ok), ⟨fun c2 => ?_, fun c2 => q_wrong (by decide) (fun σ4 t1 t2 _ => Or.inr ⟨t1, ?_⟩)⟩, ?_⟩
          · rcases h46 with ⟨t1, t2⟩ | t
            · exact Or.inl ⟨t1, t2, c2⟩
            · exact Or.inr t
          · intro z
            have := (hbad.mp z).2.2 y (List.mem_of_getElem? hy)
            omega
          · intro σ66 fr66 h66
            have f66 := sg_F_t fr46 fr66
            have p66 : kPs σ66 ((ps.take j).reverse.map (fun p => (p.1, p.2.2))) evb := kPs_F z5 f66 rfl
            have dy : ps.drop j = y :: ps.drop (j + 1) := by
              have hl2 : j < ps.length := by omega
              rw [List.drop_eq_getElem_cons hl2]
              rw [List.getElem?_eq_getElem hl2] at hy
              rw [Option.some.inj hy]
            have z7 := z6
            rw [dy] at z7
            simp only [kPb] at z7
            refine ⟨⟨⟨by omega, by omega⟩, ⟨by omega, by omega⟩, ⟨by omega, by omega⟩, trivial⟩, q_know p66 ?_ (by rw [← u1]; exact sg_Rgl _ _ _) (by rw [← u3]; exact sg_Rg _ _ _) (by unfold v_ofParam; omega) (fun σ72 t1 t2 _ => ⟨⟨by omega, by omega⟩, ps.length - (j + 1), by omega, j + 1, by omega, rfl, by omega, ?_⟩)⟩
            · rw [List.length_map, List.length_reverse, List.length_take]; omega
            · rw [sg_F_g t2 (by rfl)]
              rcases h66 with ⟨t3, t4, t5⟩ | t
              · refine Or.inl ⟨t3, z2, t4, fun i p hi hp => ?_, _, ?_, z7⟩
                · by_cases e3 : i = j
                  · subst e3; rw [hy] at hp; cases hp; exact t5
                  · exact z4 i p (by omega) hp
                · rw [List.take_add_one, hy, List.reverse_append]
                  exact t1
              · exact Or.inr t
    · intro σ20 fr20 h20
      have f20 : sg_F [113, 114, 115, 116, 30088, 31088, 38088] σ σ20 := sg_F_t (sg_F_m f16 rfl) fr20
      have T20 : sg_g σ20 101 = sg_g σ 101 := funext fun _ => sg_F_ga f20 rfl
      have B20 : sg_g σ20 102 = sg_g σ 102 := funext fun _ => sg_F_ga f20 rfl
      refine ⟨fun e => ?_, fun e => ?_⟩
      · rcases h20 with ⟨z, -⟩ | ⟨-, z⟩
        · exact absurd z e
        · exact k1 σ20 (hkf z) e
      · rcases h20 with ⟨-, z1, z2⟩ | ⟨z, -⟩
        rotate_left
        · exact absurd e z
        rw [y3]
        have pin : ∀ q ∈ kPe x, kIn q.2 := fun q hq => by
          unfold kPe at hq
          obtain ⟨p, hp, rfl⟩ := List.mem_map.mp hq
          rw [hps] at hp
          have hp2 := List.mem_reverse.mp hp
          exact ⟨w2 p hp2, (hbad.mp z1).2.2 p hp2⟩
        refine ⟨⟨by omega, by omega⟩, q_lookThrough (trT_F h f20 rfl) w1 hlen e z2 ?_ pin (by rw [T20]; exact hdi) (by rw [sg_F_g f20 (by rfl), h45]; exact dsR_F hd f20 rfl) (by omega) hr (fun σ' t1 t2 t3 _ => k1 σ' ?_ t2) (fun σ' t1 tB t2 t3 _ => k2 σ' ?_ (by rw [tB, B20]) t2)⟩
        · unfold kPe; rw [List.length_map, List.length_reverse, hps]; omega
        · rw [hkt z1]; rw [T20] at t1; rw [t1]
        · rw [hkt z1]; rw [T20] at t1; rw [t1]
theorem q_look {σ : sg_S} {A : aT} {D : List aDf} {q : Int} {Q : sg_S → Prop} (h : trT σ A) (hlen : ∀ L : List Int, L.Nodup → (∀ x ∈ L, 0 ≤ x ∧ x < A.1) → L.length ≤ 200) (hD : dfR σ D) (hW : ∀ x ∈ D, dW A x) (hq : cT A 0 q) (hq2 : sg_g σ 88 27 = q) (hF : sg_g σ 88 29 = 0) (k1 : ∀ σ', kPg A D q (sg_g σ 101) = none → ¬ sg_g σ' 88 29 = 0 → Q σ') (k2 : ∀ σ', kPg A D q (sg_g σ 101) = some (sg_g σ' 101) → sg_g σ' 102 = kPB A D q (sg_g σ 102) → sg_g σ' 88 29 = 0 → Q σ') : V_look σ Q := by
  obtain ⟨y1, y2, y3⟩ := hD
  have hkp : ∀ x, kDs A D [] (sg_g σ 101) = x → kPg A D q (sg_g σ 101) = (match x with
    | none => none
    | some (T1, ds) => kGo A ds 201 [] q T1) := fun x hx => by subst hx; rfl
  unfold V_look
  intro σ1 e1
  have f1 : sg_F [46088] σ σ1 := by rw [e1]; exact sg_F_w (sg_F_r _ _) rfl _
  generalize hz : kDs A D [] (sg_g σ 101) = z at *
  rw [y1]
  refine ⟨fun m v σ5 => ∃ d : Nat, v = d ∧ m = D.length - d ∧ d ≤ D.length ∧ sg_g σ5 88 45 = d ∧ ((sg_g σ5 88 29 = 0 ∧ ∃ ds, dsR σ5 (d : Int) ds ∧ kDs A (D.drop d) ds (sg_g σ5 101) = z ∧ kDi ds (sg_g σ5 101) ∧ (∀ d ∈ ds, 0 ≤ d.2.2 ∧ d.2.2 < A.1) ∧ kDl (D.drop d) ds = kDl D [] ∧ kDB A (D.drop d) ds d (sg_g σ5 102) = kDB A D [] 0 (sg_g σ 102)) ∨ (¬ sg_g σ5 88 29 = 0 ∧ z = none)), fun σ5 => ((sg_g σ5 88 29 = 0 ∧ ∃ ds, dsR σ5 (D.length : Int) ds ∧ sg_g σ5 88 45 = D.length ∧ some (sg_g σ5 101, ds) = z ∧ kDi ds (sg_g σ5 101) ∧ (∀ d ∈ ds, 0 ≤ d.2.2 ∧ d.2.2 < A.1) ∧ ds = kDl D [] ∧ sg_g σ5 102 = kDB A D [] 0 (sg_g σ 102)) ∨ (¬ sg_g σ5 88 29 = 0 ∧ z = none)), ⟨_, 0, rfl, rfl, Nat.zero_le _, ?_, Or.inl ⟨?_, [], rfl, ?_, ?_, ?_, rfl, ?_⟩⟩, ?_, ?_⟩
  · rw [e1, sg_gw_e _ _ _ _ (by decide)]; rfl
  · rw [sg_F_g f1 (by rfl)]; exact hF
  · rw [show sg_g σ1 101 = sg_g σ 101 from funext fun _ => sg_F_ga f1 rfl]; exact hz
  · exact fun d hd => by simp at hd
  · exact fun d hd => by simp at hd
  · rw [show sg_g σ1 102 = sg_g σ 102 from funext fun _ => sg_F_ga f1 rfl]; rfl
  · rintro m v σ5 rv fr ⟨d, rfl, em, hd, h45, hi⟩
    refine ⟨fun c => ?_, fun c => ⟨fun e => ?_, fun e => ?_⟩⟩
    · rcases hi with ⟨t1, ds, t2, t3, t4, t5, t6, t7⟩ | t
      · have : d = D.length := by omega
        subst this
        rw [List.drop_length] at t3 t6 t7
        exact Or.inl ⟨t1, ds, t2, h45, t3, t4, t5, t6, t7⟩
      · exact Or.inr t
    · rcases hi with ⟨t1, -⟩ | t
      · exact absurd t1 e
      · exact Or.inr t
    · rcases hi with ⟨t1, ds, t2, t3, t4, t5, t6, t7⟩ | ⟨t, -⟩
      rotate_left
      · exact absurd e t
      have hd2 : d < D.length := by omega
      have hx : D[d]? = some D[d] := List.getElem?_eq_getElem hd2
      have hwx := hW D[d] (List.getElem_mem hd2)
      have f5 : sg_F [101, 102, 113, 114, 115, 116, 117, 118, 30088, 31088, 38088, 43088, 46088] σ σ5 := sg_F_t (sg_F_m f1 rfl) fr
      have D5 : dfR σ5 D := by
        refine ⟨by rw [sg_F_g f5 (by rfl)]; exact y1, y2, fun j x hj => ?_⟩
        obtain ⟨a1, a2, a3, a4, a5, a6⟩ := y3 j x hj
        refine ⟨by rw [sg_F_gal f5 rfl]; exact a1, by rw [sg_F_ga f5 rfl]; exact a2, by rw [sg_F_ga f5 rfl]; exact a3, by rw [sg_F_ga f5 rfl]; exact a4, a5, fun i y hy => ?_⟩
        rw [sg_F_gal f5 rfl, sg_F_ga f5 rfl, sg_F_ga f5 rfl]; exact a6 i y hy
      rw [List.drop_eq_getElem_cons hd2] at t3 t6 t7
      simp only [kDl] at t6
      simp only [kDB] at t7
      refine q_lookDef (trT_F h f5 rfl) hlen D5 hx hwx t2 h45 e t4 t5 (fun σ' u1 u2 fr' => ⟨⟨by omega, by omega⟩, fun σ38 e38 => ⟨⟨by omega, by omega⟩, D.length - (d + 1), by omega, d + 1, by omega, rfl, by omega, ?_, Or.inr ⟨?_, ?_⟩⟩⟩) (fun σ' u1 uB u2 fr' => ⟨⟨by omega, by omega⟩, fun σ38 e38 => ⟨⟨by omega, by omega⟩, D.length - (d + 1), by omega, d + 1, by omega, rfl, by omega, ?_, Or.inl ⟨?_, (D[d].1, D[d].2.2.1.map (·.2.2), D[d].2.2.2) :: ds, ?_, ?_, ?_, ?_, t6, ?_⟩⟩⟩)
      · rw [e38, sg_gw_e _ _ _ _ ⟨by omega, by omega⟩]; omega
      · rw [e38, sg_gw_k _ _ _ _ _ _ (by decide)]; exact u2
      · rw [← t3]; unfold kDs; rw [u1]
      · rw [e38, sg_gw_e _ _ _ _ ⟨by omega, by omega⟩]; omega
      · rw [e38, sg_gw_k _ _ _ _ _ _ (by decide)]; exact u2
      · obtain ⟨a1, a2, a3, a4, a5, a6⟩ := D5.2.2 d D[d] hx
        have f38 : sg_F [101, 102, 113, 114, 115, 116, 117, 118, 30088, 31088, 38088, 43088, 46088] σ5 σ38 := by rw [e38]; exact sg_F_w (sg_F_m fr' rfl) rfl _
        have e0 : ((d + 1 : Nat) : Int) - 1 = d := by omega
        refine ⟨by omega, ?_, ?_, ?_, ?_, ?_, ?_⟩
        · rw [e0, sg_F_gal f38 rfl]; exact a1
        · rw [e0, sg_F_ga f38 rfl, a4]; simp only [List.length_map]
        · intro j y hy
          rw [List.getElem?_map] at hy
          cases hj : D[d].2.2.1[j]? with
          | none => rw [hj] at hy; cases hy
          | some p =>
            rw [hj] at hy
            rw [e0, sg_F_ga f38 rfl, (a6 j p hj).2.2]
            exact Option.some.inj hy
        · rw [e0, sg_F_ga f38 rfl]; exact a3
        · simp only [List.length_map]; exact a5
        · rw [e0]; exact dsR_F t2 f38 rfl
      · rw [← t3]
        rw [show sg_g σ38 101 = sg_g σ' 101 from by rw [e38]; exact funext fun _ => sg_gw_c _ _ _ _ _ _ (by decide)]
        simp only [kDs]
        rw [u1]
      · rw [show sg_g σ38 101 = sg_g σ' 101 from by rw [e38]; exact funext fun _ => sg_gw_c _ _ _ _ _ _ (by decide)]
        unfold kDf at u1
        split at u1
        · rename_i hc
          split at u1
          · cases u1
          · rename_i T1 hg
            have hT1 : T1 = sg_g σ' 101 := by
              have := Option.some.inj u1
              exact (Prod.mk.inj this).1
            subst hT1
            obtain ⟨r1, r2⟩ := kGo_rg A ds 201 _ _ _ _ t4 (fun p hp => by
              obtain ⟨p', hp', rfl⟩ := List.mem_map.mp hp
              have hp2 := List.mem_reverse.mp hp'
              exact ⟨hwx.2.1 p' hp2, hc.2.2 p' hp2⟩) hg
            intro y hy
            rcases List.mem_cons.mp hy with e2 | e2
            · subst e2; exact r1
            · exact r2 _ (t4 y e2)
        · cases u1
      · intro y hy
        rcases List.mem_cons.mp hy with e2 | e2
        · subst e2; exact cT_r hwx.1
        · exact t5 y e2
      · rw [show sg_g σ38 102 = sg_g σ' 102 from by rw [e38]; exact funext fun _ => sg_gw_c _ _ _ _ _ _ (by decide), uB]
        exact t7
  · intro σ5 fr h5 σ19 e19
    have f19 : sg_F [101, 102, 113, 114, 115, 116, 117, 118, 30088, 31088, 38088, 43088, 46088] σ σ19 := by rw [e19]; exact sg_F_w (sg_F_t (sg_F_m f1 rfl) (sg_F_m fr rfl)) rfl _
    have g19 : sg_F [38088] σ5 σ19 := by rw [e19]; exact sg_F_w (sg_F_r _ _) rfl _
    refine ⟨fun e => ?_, fun e => ?_⟩
    · rcases h5 with ⟨t, -⟩ | ⟨-, t⟩
      · exact absurd t e
      · refine k1 σ19 ?_ ?_
        · rw [hkp z rfl, t]
        · rw [sg_F_g g19 (by rfl)]; exact e
    · rcases h5 with ⟨-, ds, t2, t3, t4, t5, t6, t7, t8⟩ | ⟨t, -⟩
      rotate_left
      · exact absurd e t
      have T19 : sg_g σ19 101 = sg_g σ5 101 := funext fun _ => sg_F_ga g19 rfl
      have hdl := dsR_n t2
      have hkz : kPg A D q (sg_g σ 101) = kGo A ds 201 [] q (sg_g σ19 101) := by rw [hkp z rfl, ← t4, T19]
      rw [hq2]
      refine q_lookThrough (e := []) (eb := []) (trT_F h f19 rfl) hq hlen ?_ ?_ (by simp) (fun p hp => by simp at hp) (by rw [T19]; exact t5) (by rw [sg_F_g g19 (by rfl), t3]; exact dsR_F t2 g19 rfl) (by omega) t6 (fun σ' u1 u2 u3 _ => k1 σ' (hkz.trans u1) u2) (fun σ' u1 uB u2 u3 _ => k2 σ' (hkz.trans u1) ?_ u2)
      · rw [sg_F_g g19 (by rfl)]; exact e
      · simp only [kPs, pst]; rw [e19, sg_gw_e _ _ _ _ (by decide)]; exact ⟨rfl, rfl⟩
      · rw [uB, t7, show sg_g σ19 102 = sg_g σ5 102 from funext fun _ => sg_F_ga g19 rfl, t8]; rfl
