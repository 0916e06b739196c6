/-! definition, check of the class: kDf, kPg. -/
theorem kFind_no {w : Int} : ∀ {e : kE}, kFind e w = none ↔ ∀ p ∈ e, ¬ p.1 = w
  | [] => ⟨fun _ p hp => by simp at hp, fun _ => rfl⟩
  | x :: r => by
    unfold kFind
    by_cases c : x.1 = w
    · rw [if_pos c]
      exact ⟨fun h => (by cases h), fun h => absurd c (h x (by simp))⟩
    · rw [if_neg c, kFind_no]
      refine ⟨fun h p hp => ?_, fun h p hp => h p (by simp [hp])⟩
      rcases List.mem_cons.mp hp with q | q
      · rw [q]; exact c
      · exact h p q
section DFN
variable {σ : sg_S} {A : aT} {ds : kD} {c : Nat} {Q : sg_S → Prop}
theorem c_definition {D : List aDf} {d : Nat} {x : aDf} {L : List Int} (h : ckW σ A) (hD : cD2 σ D) (hx : D[d]? = some x) (hW : dW A x) (hV : wD x) (hL1 : fT A [x.2.2.2] L) (hL2 : L.Nodup) (hL3 : ∀ x ∈ L, 0 ≤ x ∧ x < A.1) (hLl : L.length ≤ 200) (hd : dsC σ (d : Int) ds) (hF : cZ σ) (hdi : kDi ds (sg_g σ 6)) (hr : ∀ d ∈ ds, 0 ≤ d.2.2 ∧ d.2.2 < A.1) (hc : sg_g σ 38 10 = c) (hc2 : c + x.2.2.1.length + L.length ≤ 272) (k1 : ∀ σ', kDf A ds x (sg_g σ 6) = none → cF σ' → Q σ') (k2 : ∀ σ', kDf A ds x (sg_g σ 6) = some (sg_g σ' 6, (x.1, x.2.2.1.map (·.2.2), x.2.2.2) :: ds) → cZ σ' → (∃ c' : Nat, sg_g σ' 38 10 = c' ∧ c' ≤ c + x.2.2.1.length + L.length) → Q σ') : V_kDefinition σ d Q := by
  have hd12 : d < 12 := by
    have := hD.2.1
    rcases Nat.lt_or_ge d D.length with q | q
    · omega
    · rw [List.getElem?_eq_none q] at hx; cases hx
  have d12 : (0 : Int) ≤ (d : Int) ∧ (d : Int) < 12 := by omega
  have hdl := dsC_n hd
  obtain ⟨y1, y2, y3, y4, y5, y6⟩ := hD.2.2 d x hx
  obtain ⟨w1, w2, w3⟩ := hW
  obtain ⟨⟨v1, v2⟩, v3⟩ := hV
  have hkd : kDf A ds x (sg_g σ 6) = (if kDef ds x.1 = none ∧ (x.2.2.1.map (·.1)).Nodup ∧ (∀ p ∈ x.2.2.1, p.2.2 ≤ 3) then (match kGo A ds 201 (kPe x) x.2.2.2 (sg_g σ 6) with
    | none => none
    | some T1 => some (T1, (x.1, x.2.2.1.map (·.2.2), x.2.2.2) :: ds)) else none) := rfl
  have hpw : ∀ (j : Nat) (y : Int × Int × Int), x.2.2.1[j]? = some y → (x.2.2.1.map (·.1))[j]? = some y.1 := fun j y hy => by rw [List.getElem?_map, hy]; rfl
  generalize hps : x.2.2.1 = ps at *
  have hwl : (ps.map (·.1)).length = ps.length := List.length_map _
  generalize hws : ps.map (·.1) = ws at *
  obtain ⟨ok, hbad, hkt, hkf⟩ : ∃ ok : Prop, (ok ↔ (kDef ds x.1 = none ∧ ws.Nodup ∧ (∀ p ∈ ps, p.2.2 ≤ 3))) ∧ (ok → kDf A ds x (sg_g σ 6) = (match kGo A ds 201 (kPe x) x.2.2.2 (sg_g σ 6) with
    | none => none
    | some T1 => some (T1, (x.1, ps.map (·.2.2), x.2.2.2) :: ds))) ∧ (¬ ok → kDf A ds x (sg_g σ 6) = none) := ⟨_, Iff.rfl, fun z => by rw [hkd, if_pos z], fun z => by rw [hkd, if_neg z]⟩
  unfold V_kDefinition
  intro σ1 e1 σ4 e4
  have f4 : sg_F [10038, 12038] σ σ4 := by rw [e4, e1]; exact sg_F_w (sg_F_w (sg_F_r _ _) rfl _) rfl _
  have z4 : cZ σ4 := cZ_F hF f4 rfl
  have k4 : sg_g σ4 38 9 = 0 := by rw [e4, sg_gw_k _ _ _ _ _ _ (by decide), e1, sg_gw_e _ _ _ _ (by decide)]
  have d4 : sg_g σ4 38 11 = d := by rw [e4, sg_gw_e _ _ _ _ ⟨by omega, by omega⟩]
  rw [xl_in (a := 20) d12, y1, xa_in (a := 21) d12, y2, xa_in (a := 23) d12, y4, xa_in (a := 22) d12, y3]
  have main : ∀ σ16, sg_F [13038, 14038] σ4 σ16 → ((cZ σ16 ∧ kDef ds x.1 = none) ∨ (cF σ16 ∧ ¬ kDef ds x.1 = none)) → ∀ σ19, σ19 = sx_put σ16 24 12 d (sg_g σ 38 10) → (∃ (I25 : Nat → Int → sg_S → Prop) (X27 : sg_S → Prop), (∃ n, I25 n 0 σ19) ∧ (∀ (n35 : Nat) (v22 : Int) (σ23 : sg_S), sg_R v22 → sg_F [34, 39, 40, 10038, 11038, 13038, 14038] σ19 σ23 → I25 n35 v22 σ23 → (((ps.length : Int) ≤ v22 → X27 σ23) ∧ (v22 < (ps.length : Int) → ((6 ≤ v22 → X27 σ23) ∧ (v22 < 6 → sg_R ((d : Int) * 6) ∧ sg_R (((d : Int) * 6) + v22) ∧ V_kFind σ23 ((sx_atl σ 25 72 ((((d : Int) * 6) + v22)))) (fun q48 _ => sg_R q48 → (∃ P56 : sg_S → Prop, ((q48 < 0 → P56 σ23) ∧ (0 ≤ q48 → V_kBlame σ23 (2) ((sx_at σ 26 72 ((((d : Int) * 6) + v22)))) (fun σ81 => sg_F [13038, 14038] σ23 σ81 → P56 σ81))) ∧ (∀ (σ57 : sg_S), sg_F [13038, 14038] σ23 σ57 → P56 σ57 → (∃ P62 : sg_S → Prop, (((sx_at σ 27 72 ((((d : Int) * 6) + v22))) ≤ 3 → P62 σ57) ∧ (3 < (sx_at σ 27 72 ((((d : Int) * 6) + v22))) → V_kBlame σ57 (3) ((sx_at σ 26 72 ((((d : Int) * 6) + v22)))) (fun σ75 => sg_F [13038, 14038] σ57 σ75 → P62 σ75))) ∧ (∀ (σ63 : sg_S), sg_F [13038, 14038] σ57 σ63 → P62 σ63 → V_kBind σ63 ((sx_atl σ 25 72 ((((d : Int) * 6) + v22)))) ((sx_at σ 27 72 ((((d : Int) * 6) + v22)))) (fun q66 σ67 => sg_R q66 → sg_F [34, 39, 40, 10038, 11038] σ63 σ67 → sg_R (v22 + 1) ∧ (∃ m, m < n35 ∧ I25 m ((v22 + 1)) σ67)))))))))))) ∧ (∀ (σ23 : sg_S), sg_F [34, 39, 40, 10038, 11038, 13038, 14038] σ19 σ23 → X27 σ23 → ((¬ (sg_g σ23 38 13) = 0 → Q σ23) ∧ ((sg_g σ23 38 13) = 0 → V_kWalk σ23 (d : Int) x.2.2.2 (fun σ39 => sg_F [6, 16, 29, 30, 31, 32, 33, 34, 39, 40, 41, 42, 43, 44, 7028, 10038, 11038, 13038, 14038] σ23 σ39 → Q σ39))))) := by
    intro σ16 f16 h16 σ19 e19
    have f19 : sg_F [24] σ16 σ19 := by rw [e19]; exact xF_p (sg_F_r _ _) rfl _ _ _
    have F19 : sg_F [24, 10038, 12038, 13038, 14038] σ σ19 := sg_F_t (sg_F_t (sg_F_m f4 rfl) (sg_F_m f16 rfl)) (sg_F_m f19 rfl)
    have k19 : sg_g σ19 38 9 = 0 := by rw [sg_F_g f19 (by rfl), sg_F_g f16 (by rfl)]; exact k4
    have c19 : sg_g σ19 38 10 = c := by rw [sg_F_g F19 (by rfl)]; exact hc
    refine ⟨fun m v σ23 => ∃ j : Nat, v = j ∧ m = ps.length - j ∧ j ≤ ps.length ∧ ((cZ σ23 ∧ kDef ds x.1 = none ∧ (ws.take j).Nodup ∧ ∀ (i : Nat) (p : Int × Int × Int), i < j → ps[i]? = some p → p.2.2 ≤ 3) ∨ (cF σ23 ∧ ¬ ok)) ∧ ckE σ23 (sg_g σ23 38 9) ((ps.take j).reverse.map (fun p => (p.1, p.2.2))) ∧ sg_g σ23 38 10 = (c + j : Nat), fun σ23 => ((cZ σ23 ∧ ok) ∨ (cF σ23 ∧ ¬ ok)) ∧ ckE σ23 (sg_g σ23 38 9) (kPe x) ∧ sg_g σ23 38 10 = (c + ps.length : Nat), ⟨_, 0, rfl, rfl, Nat.zero_le _, ?_, k19, c19⟩, ?_, ?_⟩
    · rcases h16 with ⟨a, b⟩ | ⟨a, b⟩
      · exact Or.inl ⟨cZ_F a f19 rfl, b, by simp, fun i p hi => by omega⟩
      · exact Or.inr ⟨cF_F a f19 rfl, fun z => b (hbad.mp z).1⟩
    · rintro m v σ23 rv fr ⟨j, rfl, em, hj, hi, hce, hsl⟩
      have fin : ps.length ≤ j → ((cZ σ23 ∧ ok) ∨ (cF σ23 ∧ ¬ ok)) ∧ ckE σ23 (sg_g σ23 38 9) (kPe x) ∧ sg_g σ23 38 10 = (c + ps.length : Nat) := fun hpj => by
        have : j = ps.length := by omega
        subst this
        rw [List.take_of_length_le (Nat.le_refl _)] at hce
        rw [List.take_of_length_le (by omega)] at hi
        refine ⟨?_, by unfold kPe; rw [hps]; exact hce, hsl⟩
        rcases hi with ⟨a, b1, b2, b3⟩ | a
        · refine Or.inl ⟨a, hbad.mpr ⟨b1, b2, fun p hp => ?_⟩⟩
          obtain ⟨i, hi⟩ := List.getElem?_of_mem hp
          have hi2 : i < ps.length := by
            rcases Nat.lt_or_ge i ps.length with q | q
            · exact q
            · rw [List.getElem?_eq_none q] at hi; cases hi
          exact b3 i p hi2 hi
        · exact Or.inr a
      refine ⟨fun c1 => fin (by omega), fun c1 => ⟨fun c2 => fin (by omega), fun c2 => ⟨⟨by omega, by omega⟩, ⟨by omega, by omega⟩, ?_⟩⟩⟩
      obtain ⟨y, hy⟩ : ∃ y, ps[j]? = some y := ⟨_, List.getElem?_eq_getElem (by omega)⟩
      obtain ⟨u1, u2, u3⟩ := y6 j y hy
      have vy := v3 y (List.mem_of_getElem? hy)
      have wy := w2 y (List.mem_of_getElem? hy)
      have hwi := hpw j y hy
      have ev := ckE_n hce
      have evl : ((ps.take j).reverse.map (fun p => (p.1, p.2.2))).length = j := by rw [List.length_map, List.length_reverse, List.length_take]; omega
      have i72 : (0 : Int) ≤ (d : Int) * 6 + j ∧ (d : Int) * 6 + j < 72 := by omega
      have ei : (d : Int) * 6 + (j : Int) = 6 * (d : Int) + j := by omega
      rw [xl_in (a := 25) i72, xa_in (a := 26) i72, xa_in (a := 27) i72, ei, u1, u2, u3]
      have fnd : kFind ((ps.take j).reverse.map (fun p => (p.1, p.2.2))) y.1 = none ↔ ∀ i : Nat, i < j → ¬ ws[i]? = some y.1 := by
        rw [kFind_no]
        constructor
        · intro hh i hi he
          rw [← hws, List.getElem?_map] at he
          cases hp : ps[i]? with
          | none => rw [hp] at he; cases he
          | some p =>
            rw [hp] at he
            refine hh (p.1, p.2.2) (List.mem_map.mpr ⟨p, List.mem_reverse.mpr ?_, rfl⟩) (Option.some.inj he)
            rw [List.mem_take_iff_getElem]
            have hil : i < ps.length := by omega
            refine ⟨i, by omega, ?_⟩
            rw [List.getElem?_eq_getElem hil] at hp
            exact Option.some.inj hp
        · intro hh p hp he
          obtain ⟨p', hp', rfl⟩ := List.mem_map.mp hp
          have hp2 := List.mem_reverse.mp hp'
          rw [List.mem_take_iff_getElem] at hp2
          obtain ⟨i, hi, e⟩ := hp2
          refine hh i (by omega) ?_
          rw [← hws, List.getElem?_map, List.getElem?_eq_getElem (by omega), e]
          exact congrArg some he
      have key : ∀ q48, ((q48 < 0 ∧ kFind ((ps.take j).reverse.map (fun p => (p.1, p.2.2))) y.1 = none) ∨ (0 ≤ q48 ∧ ¬ kFind ((ps.take j).reverse.map (fun p => (p.1, p.2.2))) y.1 = none)) → sg_R q48 → (∃ P56 : sg_S → Prop, ((q48 < 0 → P56 σ23) ∧ (0 ≤ q48 → V_kBlame σ23 (2) y.2.1 (fun σ81 => sg_F [13038, 14038] σ23 σ81 → P56 σ81))) ∧ (∀ (σ57 : sg_S), sg_F [13038, 14038] σ23 σ57 → P56 σ57 → (∃ P62 : sg_S → Prop, ((y.2.2 ≤ 3 → P62 σ57) ∧ (3 < y.2.2 → V_kBlame σ57 (3) y.2.1 (fun σ75 => sg_F [13038, 14038] σ57 σ75 → P62 σ75))) ∧ (∀ (σ63 : sg_S), sg_F [13038, 14038] σ57 σ63 → P62 σ63 → V_kBind σ63 (uv y.1) y.2.2 (fun q66 σ67 => sg_R q66 → sg_F [34, 39, 40, 10038, 11038] σ63 σ67 → sg_R ((j : Int) + 1) ∧ (∃ m', m' < m ∧ ∃ i : Nat, (j : Int) + 1 = i ∧ m' = ps.length - i ∧ i ≤ ps.length ∧ ((cZ σ67 ∧ kDef ds x.1 = none ∧ (ws.take i).Nodup ∧ ∀ (i2 : Nat) (p : Int × Int × Int), i2 < i → ps[i2]? = some p → p.2.2 ≤ 3) ∨ (cF σ67 ∧ ¬ ok)) ∧ ckE σ67 (sg_g σ67 38 9) ((ps.take i).reverse.map (fun p => (p.1, p.2.2))) ∧ sg_g σ67 38 10 = (c + i : Nat))))))) := by
        intro q48 hq _
        have pr : 0 ≤ y.2.1 ∧ sg_R y.2.1 := ⟨vy.2, by rw [← u2]; exact sg_Rg _ _ _⟩
        refine ⟨fun σ57 => (cZ σ57 ∧ kDef ds x.1 = none ∧ (ws.take (j + 1)).Nodup ∧ ∀ (i : Nat) (p : Int × Int × Int), i < j → ps[i]? = some p → p.2.2 ≤ 3) ∨ (cF σ57 ∧ ¬ ok), ⟨fun q0 => ?_, fun q0 => c_blame (fun z => ?_) (by decide) pr (fun σ' t1 t2 _ => Or.inr ⟨t1, fun z => ?_⟩)⟩, ?_⟩
        · rcases hi with ⟨a, b1, b2, b3⟩ | a
          · refine Or.inl ⟨a, b1, (nd_take hwi).mpr ⟨b2, ?_⟩, b3⟩
            rcases hq with ⟨-, z⟩ | ⟨z, -⟩
            · exact fnd.mp z
            · omega
          · exact Or.inr a
        · rcases hi with ⟨a, -⟩ | a
          · exact absurd a.1 z
          · exact a.1.2
        · rcases hq with ⟨z2, -⟩ | ⟨-, z2⟩
          · omega
          · refine z2 (fnd.mpr (fun i hi2 he => ?_))
            exact ((nd_take hwi).mp (List.Nodup.sublist (List.take_sublist _ _) (hbad.mp z).2.1)).2 i hi2 he
        · intro σ57 f57 h57
          refine ⟨fun σ63 => (cZ σ63 ∧ kDef ds x.1 = none ∧ (ws.take (j + 1)).Nodup ∧ ∀ (i : Nat) (p : Int × Int × Int), i < j + 1 → ps[i]? = some p → p.2.2 ≤ 3) ∨ (cF σ63 ∧ ¬ ok), ⟨fun t3 => ?_, fun t3 => c_blame (fun z => ?_) (by decide) pr (fun σ' t1 t2 _ => Or.inr ⟨t1, fun z => ?_⟩)⟩, ?_⟩
          · rcases h57 with ⟨a, b1, b2, b3⟩ | a
            · refine Or.inl ⟨a, b1, b2, fun i p hi2 hp => ?_⟩
              by_cases e5 : i = j
              · subst e5; rw [hy] at hp; cases hp; exact t3
              · exact b3 i p (by omega) hp
            · exact Or.inr a
          · rcases h57 with ⟨a, -⟩ | a
            · exact absurd a.1 z
            · exact a.1.2
          · have := (hbad.mp z).2.2 y (List.mem_of_getElem? hy)
            omega
          · intro σ63 f63 h63
            have f63' := sg_F_t f57 f63
            have ce63 : ckE σ63 (sg_g σ63 38 9) ((ps.take j).reverse.map (fun p => (p.1, p.2.2))) := by
              rw [sg_F_g f63' (by rfl)]; exact ckE_F hce f63' rfl
            refine c_bind (c := c + j) ce63 (by rw [sg_F_g f63' (by rfl)]; exact hsl) (by omega) (by rw [evl]; omega) vy.1 (by rw [← u1]; exact sg_Rgl _ _ _) (by rw [← u3]; exact sg_Rg _ _ _) (fun σ67 t1 t2 t3 t4 _ _ => ⟨⟨by omega, by omega⟩, ps.length - (j + 1), by omega, j + 1, by omega, rfl, by omega, ?_, ?_, t2⟩)
            · rcases h63 with ⟨a, b⟩ | ⟨a, b⟩
              · exact Or.inl ⟨cZ_F a t4 rfl, b⟩
              · exact Or.inr ⟨cF_F a t4 rfl, b⟩
            · rw [List.take_add_one, hy, List.reverse_append]
              exact t1
      refine c_find hce (by rw [evl]; omega) (by rw [hsl]; omega) vy.1 (fun z => key _ (Or.inl ⟨by decide, z⟩)) (fun s z z1 z2 => key _ (Or.inr ⟨z1, by rw [z]; exact fun q => by cases q⟩))
    · rintro σ23 fr ⟨h23, ce23, c23⟩
      have F23 : sg_F [24, 34, 39, 40, 10038, 11038, 12038, 13038, 14038] σ σ23 := sg_F_t (sg_F_m F19 rfl) (sg_F_m fr rfl)
      have T23 : sg_g σ23 6 = sg_g σ 6 := funext fun _ => sg_F_ga F23 rfl
      refine ⟨fun z => ?_, fun z => ?_⟩
      · rcases h23 with ⟨a, -⟩ | ⟨a, b⟩
        · exact absurd a.1 z
        · exact k1 σ23 (hkf b) a
      · rcases h23 with ⟨a, b⟩ | ⟨a, -⟩
        rotate_left
        · exact absurd z a.1
        have pin : ∀ q ∈ kPe x, kIn q.2 := fun q hq => by
          unfold kPe at hq
          obtain ⟨p, hp, rfl⟩ := List.mem_map.mp hq
          rw [hps] at hp
          have hp2 := List.mem_reverse.mp hp
          exact ⟨w2 p hp2, (hbad.mp b).2.2 p hp2⟩
        have pel : (kPe x).length = ps.length := by unfold kPe; rw [List.length_map, List.length_reverse, hps]
        have k11 : sg_g σ23 38 11 = d := by rw [sg_F_g fr (by rfl), sg_F_g f19 (by rfl), sg_F_g f16 (by rfl)]; exact d4
        refine c_walk (c := c + ps.length) (ckW_F h F23 rfl) hL1 hL2 hL3 hLl a ce23 (by omega) pin (by rw [T23]; exact hdi) c23 (by omega) (by rw [k11]; exact dsC_F F23 rfl hd) (by omega) hr (fun σ' t1 t2 t3 _ => k1 σ' ?_ t2) (fun σ' t1 t2 t3 t4 _ => k2 σ' ?_ t2 t3)
        · rw [hkt b]; rw [T23] at t1; rw [t1]
        · rw [hkt b]; rw [T23] at t1; rw [t1]
  refine c_dfind (dsC_F f4 rfl hd) (by omega) v1 (fun q _ => ?_) (fun q y hq q0 q12 qd _ => ?_)
  · refine ⟨fun σ16 => (cZ σ16 ∧ kDef ds x.1 = none) ∨ (cF σ16 ∧ ¬ kDef ds x.1 = none), ⟨fun _ => Or.inl ⟨z4, q⟩, fun z => absurd z (by decide)⟩, fun σ16 f16 h16 σ19 e19 => main σ16 f16 h16 σ19 e19⟩
  · refine ⟨fun σ16 => (cZ σ16 ∧ kDef ds x.1 = none) ∨ (cF σ16 ∧ ¬ kDef ds x.1 = none), ⟨fun z => absurd z (by omega), fun _ => c_blame (fun z => absurd z4.1 z) (by decide) ⟨v2, by rw [← y2]; exact sg_Rg _ _ _⟩ (fun σ' t1 t2 _ => Or.inr ⟨t1, by rw [hq]; exact fun z => by cases z⟩)⟩, fun σ16 f16 h16 σ19 e19 => main σ16 f16 h16 σ19 e19⟩
end DFN
