/-! definition of the checker once more. -/
section WK6
variable {σ : sg_S} {A : aT} {Q : sg_S → Prop}
abbrev dfL : List Nat := [6, 16, 24, 29, 30, 31, 32, 33, 34, 39, 40, 41, 42, 43, 44, 7028, 10038, 11038, 12038, 13038, 14038]
/-- before a DEF: no fault, slots, plan -/
def kS0 (σ : sg_S) (b p : Int) : Prop := sg_g σ 38 13 = 0 ∧ (sg_g σ 38 10 = b ∧ sg_g σ 28 6 = p) ∧ 0 ≤ b ∧ 0 ≤ p
/-- what stays over a DEF -/
def kV (σ σ' : sg_S) (b p : Int) (L : List Int) : Prop := (∀ x, x ∉ L → sg_g σ' 6 x = sg_g σ 6 x ∧ sg_g σ' 16 x = sg_g σ 16 x) ∧ (∀ s, s < b → sg_g σ' 34 s = sg_g σ 34 s) ∧ ∀ i, i < p → sg_g σ' 29 i = sg_g σ 29 i ∧ sg_g σ' 30 i = sg_g σ 30 i
theorem d_definition {D : List aDf} {d : Nat} {x : aDf} {L : List Int} {b p : Int} (h : ckW σ A) (hD : cD2 σ D) (hx : D[d]? = some x) (hW : dW A x) (hf : fT A [x.2.2.2] L) (hN : L.Nodup) (hr : ∀ x ∈ L, 0 ≤ x ∧ x < A.1) (hl : L.length ≤ 200) (hS : kS0 σ b p) (hC : cDq σ A d L) (hb : b + x.2.2.1.length + L.length ≤ 272) (hp : p + 5 * L.length + 1 ≤ 1013) (k1 : ∀ σ', ¬ sg_g σ' 38 13 = 0 → Q σ') (k2 : ∀ σ' b', sg_F dfL σ σ' → kS0 σ' b' (p + (cd A 201 x.2.2.2).length + 1) → kV σ σ' b p L → (sg_g σ' 24 d = b ∧ sg_g σ' 31 d = p ∧ ∀ i, ¬ i = (d : Int) → sg_g σ' 24 i = sg_g σ 24 i ∧ sg_g σ' 31 i = sg_g σ 31 i) → pC σ' p (cd A 201 x.2.2.2 ++ [(6, (d : Int))]) → scN σ' A d 201 (gsl b x.2.2.1.length) x.2.2.2 (b + x.2.2.1.length) b' → kIn (sg_g σ' 6 x.2.2.2) → (∀ i : Nat, i < x.2.2.1.length → sg_g σ' 34 (b + i) = sg_g σ 27 (6 * d + i) ∧ kIn (sg_g σ' 34 (b + i))) → Q σ') : V_kDefinition σ d Q := by
  have hd12 : d < 12 := by
    have := hD.2.1
    have := gE_l hx
    omega
  have d12 : (0 : Int) ≤ (d : Int) ∧ (d : Int) < 12 := by omega
  obtain ⟨y1, y2, y3, y4, y5, y6⟩ := hD.2.2 d x hx
  obtain ⟨w1, w2, w3⟩ := hW
  obtain ⟨s1, ⟨s2, s3⟩, s4, s5⟩ := hS
  generalize hps : x.2.2.1 = ps at *
  unfold V_kDefinition
  intro σ1 e1 σ4 e4
  have f4 : sg_F [10038, 12038] σ σ4 := by rw [e4, e1]; exact sg_F_w (sg_F_w (sg_F_r _ _) rfl _) rfl _
  have k4 : sg_g σ4 38 9 = 0 := by rw [e4, sg_gw_k _ _ _ _ _ _ (by decide), e1, sg_gw_e _ _ _ _ (by decide)]
  have d4 : sg_g σ4 38 11 = d := by rw [e4, sg_gw_e _ _ _ _ ⟨by omega, by omega⟩]
  have z4 : sg_g σ4 38 13 = 0 := by rw [sg_F_g f4 (by rfl)]; exact s1
  rw [xa_in (a := 23) d12, y4, xa_in (a := 22) d12, y3, s2]
  have main : ∀ σ16, sg_F [13038, 14038] σ4 σ16 → ∀ σ19, σ19 = sx_put σ16 24 12 d b → (∃ (I25 : Nat → Int → sg_S → Prop) (X27 : sg_S → Prop), (∃ n, I25 n 0 σ19) ∧ (∀ (n35 : Nat) (v22 : Int) (σ23 : sg_S), sg_R v22 → sg_F [34, 39, 40, 10038, 11038, 13038, 14038] σ19 σ23 → I25 n35 v22 σ23 → (((ps.length : Int) ≤ v22 → X27 σ23) ∧ (v22 < (ps.length : Int) → ((6 ≤ v22 → X27 σ23) ∧ (v22 < 6 → sg_R ((d : Int) * 6) ∧ sg_R (((d : Int) * 6) + v22) ∧ V_kFind σ23 ((sx_atl σ 25 72 ((((d : Int) * 6) + v22)))) (fun q48 _ => sg_R q48 → (∃ P56 : sg_S → Prop, ((q48 < 0 → P56 σ23) ∧ (0 ≤ q48 → V_kBlame σ23 (2) ((sx_at σ 26 72 ((((d : Int) * 6) + v22)))) (fun σ81 => sg_F [13038, 14038] σ23 σ81 → P56 σ81))) ∧ (∀ (σ57 : sg_S), sg_F [13038, 14038] σ23 σ57 → P56 σ57 → (∃ P62 : sg_S → Prop, (((sx_at σ 27 72 ((((d : Int) * 6) + v22))) ≤ 3 → P62 σ57) ∧ (3 < (sx_at σ 27 72 ((((d : Int) * 6) + v22))) → V_kBlame σ57 (3) ((sx_at σ 26 72 ((((d : Int) * 6) + v22)))) (fun σ75 => sg_F [13038, 14038] σ57 σ75 → P62 σ75))) ∧ (∀ (σ63 : sg_S), sg_F [13038, 14038] σ57 σ63 → P62 σ63 → V_kBind σ63 ((sx_atl σ 25 72 ((((d : Int) * 6) + v22)))) ((sx_at σ 27 72 ((((d : Int) * 6) + v22)))) (fun q66 σ67 => sg_R q66 → sg_F [34, 39, 40, 10038, 11038] σ63 σ67 → sg_R (v22 + 1) ∧ (∃ m, m < n35 ∧ I25 m ((v22 + 1)) σ67)))))))))))) ∧ (∀ (σ23 : sg_S), sg_F [34, 39, 40, 10038, 11038, 13038, 14038] σ19 σ23 → X27 σ23 → ((¬ (sg_g σ23 38 13) = 0 → Q σ23) ∧ ((sg_g σ23 38 13) = 0 → V_kWalk σ23 (d : Int) (x.2.2.2) (fun σ39 => sg_F [6, 16, 29, 30, 31, 32, 33, 34, 39, 40, 41, 42, 43, 44, 7028, 10038, 11038, 13038, 14038] σ23 σ39 → Q σ39))))) := by
    intro σ16 f16 σ19 e19
    rw [xp_in d12] at e19
    have f19 : sg_F [24] σ16 σ19 := by rw [e19]; exact sg_F_w (sg_F_r _ _) rfl _
    have F19 : sg_F [24, 10038, 12038, 13038, 14038] σ σ19 := sg_F_t (sg_F_t (sg_F_m f4 rfl) (sg_F_m f16 rfl)) (sg_F_m f19 rfl)
    have g24 : sg_g σ19 24 d = b := by rw [e19, sg_gw_e _ _ _ _ ⟨by omega, by omega⟩]
    have o24 : ∀ i, ¬ i = (d : Int) → sg_g σ19 24 i = sg_g σ 24 i := fun i hi => by rw [e19, sg_gw_k _ _ _ _ _ _ hi, sg_F_ga f16 rfl, sg_F_ga f4 rfl]
    have k19 : sg_g σ19 38 9 = 0 := by rw [sg_F_g f19 (by rfl), sg_F_g f16 (by rfl)]; exact k4
    have c19 : sg_g σ19 38 10 = b := by rw [sg_F_g F19 (by rfl)]; exact s2
    have t27 : ∀ (j : Nat) (y : Int × Int × Int), ps[j]? = some y → sg_g σ 27 (6 * d + j) = y.2.2 := fun j y hy => (y6 j y hy).2.2
    refine ⟨fun m v σ23 => ∃ j : Nat, v = j ∧ m = ps.length - j ∧ j ≤ ps.length ∧ (sg_g σ23 38 9 = j ∧ sg_g σ23 38 10 = b + j) ∧ (∀ i, 0 ≤ i → i < (j : Int) → b ≤ sg_g σ23 40 i ∧ sg_g σ23 40 i < b + j) ∧ (∀ i : Nat, i < j → sg_g σ23 34 (b + i) = sg_g σ 27 (6 * d + i)) ∧ (∀ s, s < b → sg_g σ23 34 s = sg_g σ 34 s) ∧ (¬ sg_g σ23 38 13 = 0 ∨ ∀ i : Nat, i < j → sg_g σ 27 (6 * d + i) ≤ 3), fun σ23 => (sg_g σ23 38 9 = ps.length ∧ sg_g σ23 38 10 = b + ps.length) ∧ (∀ i, 0 ≤ i → i < (ps.length : Int) → b ≤ sg_g σ23 40 i ∧ sg_g σ23 40 i < b + ps.length) ∧ (∀ i : Nat, i < ps.length → sg_g σ23 34 (b + i) = sg_g σ 27 (6 * d + i)) ∧ (∀ s, s < b → sg_g σ23 34 s = sg_g σ 34 s) ∧ (¬ sg_g σ23 38 13 = 0 ∨ ∀ i : Nat, i < ps.length → sg_g σ 27 (6 * d + i) ≤ 3), ⟨_, 0, rfl, rfl, Nat.zero_le _, ⟨by rw [k19]; rfl, by rw [c19]; omega⟩, fun i a c => by omega, fun i hi => by omega, fun s _ => sg_F_ga F19 rfl, Or.inr (fun i hi => by omega)⟩, ?_, ?_⟩
    · rintro m v σ23 rv fr ⟨j, rfl, em, hj, ⟨a1, a2⟩, a3, a4, a5, a6⟩
      have fin : ps.length ≤ j → (sg_g σ23 38 9 = ps.length ∧ sg_g σ23 38 10 = b + ps.length) ∧ (∀ i, 0 ≤ i → i < (ps.length : Int) → b ≤ sg_g σ23 40 i ∧ sg_g σ23 40 i < b + ps.length) ∧ (∀ i : Nat, i < ps.length → sg_g σ23 34 (b + i) = sg_g σ 27 (6 * d + i)) ∧ (∀ s, s < b → sg_g σ23 34 s = sg_g σ 34 s) ∧ (¬ sg_g σ23 38 13 = 0 ∨ ∀ i : Nat, i < ps.length → sg_g σ 27 (6 * d + i) ≤ 3) := fun q => by
        have : j = ps.length := by omega
        subst this
        exact ⟨⟨a1, a2⟩, a3, a4, a5, a6⟩
      refine ⟨fun c1 => fin (by omega), fun c1 => ⟨fun c2 => fin (by omega), fun c2 => ⟨⟨by omega, by omega⟩, ⟨by omega, by omega⟩, ?_⟩⟩⟩
      have i72 : (0 : Int) ≤ (d : Int) * 6 + j ∧ (d : Int) * 6 + j < 72 := by omega
      have ei : (d : Int) * 6 + (j : Int) = 6 * (d : Int) + j := by omega
      rw [xa_in (a := 27) i72, ei]
      have rest : ∀ σ57, sg_F [13038, 14038] σ23 σ57 → (¬ sg_g σ23 38 13 = 0 → ¬ sg_g σ57 38 13 = 0) → (∃ P62 : sg_S → Prop, ((sg_g σ 27 (6 * (d : Int) + j) ≤ 3 → P62 σ57) ∧ (3 < sg_g σ 27 (6 * (d : Int) + j) → V_kBlame σ57 (3) (sx_at σ 26 72 (6 * (d : Int) + j)) (fun σ75 => sg_F [13038, 14038] σ57 σ75 → P62 σ75))) ∧ (∀ (σ63 : sg_S), sg_F [13038, 14038] σ57 σ63 → P62 σ63 → V_kBind σ63 (sx_atl σ 25 72 (6 * (d : Int) + j)) (sg_g σ 27 (6 * (d : Int) + j)) (fun q66 σ67 => sg_R q66 → sg_F [34, 39, 40, 10038, 11038] σ63 σ67 → sg_R ((j : Int) + 1) ∧ (∃ m', m' < m ∧ ∃ j' : Nat, (j : Int) + 1 = j' ∧ m' = ps.length - j' ∧ j' ≤ ps.length ∧ (sg_g σ67 38 9 = j' ∧ sg_g σ67 38 10 = b + j') ∧ (∀ i, 0 ≤ i → i < (j' : Int) → b ≤ sg_g σ67 40 i ∧ sg_g σ67 40 i < b + j') ∧ (∀ i : Nat, i < j' → sg_g σ67 34 (b + i) = sg_g σ 27 (6 * d + i)) ∧ (∀ s, s < b → sg_g σ67 34 s = sg_g σ 34 s) ∧ (¬ sg_g σ67 38 13 = 0 ∨ ∀ i : Nat, i < j' → sg_g σ 27 (6 * d + i) ≤ 3))))) := fun σ57 f57 h57 => by
        refine ⟨fun σ62 => ¬ sg_g σ62 38 13 = 0 ∨ (σ62 = σ57 ∧ sg_g σ 27 (6 * (d : Int) + j) ≤ 3), ⟨fun c => Or.inr ⟨rfl, c⟩, fun _ => d_blame (by decide) (fun σ' z _ _ => Or.inl z)⟩, fun σ63 f63 h63 => ?_⟩
        have f2363 : sg_F [13038, 14038] σ23 σ63 := sg_F_t f57 f63
        refine d_bind (e := j) (b := b + j) (by rw [sg_F_g f2363 (by rfl)]; exact a1) (by rw [sg_F_g f2363 (by rfl)]; exact a2) ⟨⟨by omega, by omega⟩, by omega, by omega⟩ (sg_Rg _ _ _) (fun σ67 f67 b1 b2 b3 b4 b5 b6 _ _ => ⟨⟨by omega, by omega⟩, ps.length - (j + 1), by omega, j + 1, by omega, rfl, by omega, ⟨by rw [b1]; omega, by rw [b2]; omega⟩, fun i z1 z2 => ?_, fun i hi => ?_, fun s hs => ?_, ?_⟩)
        · by_cases c : i = j
          · rw [c, b3]; omega
          · rw [b4 i c, sg_F_ga f2363 rfl]
            have := a3 i z1 (by omega)
            omega
        · by_cases c : i = j
          · subst c; exact b5
          · rw [b6 _ (by omega), sg_F_ga f2363 rfl]; exact a4 i (by omega)
        · rw [b6 _ (by omega), sg_F_ga f2363 rfl]; exact a5 s hs
        · rcases h63 with z | ⟨z1, z2⟩
          · exact Or.inl (by rw [sg_F_g f67 (by rfl)]; exact z)
          · rw [sg_F_g f67 (by rfl), z1]
            rcases a6 with z | z
            · exact Or.inl (h57 z)
            · right
              intro i hi
              by_cases c : i = j
              · subst c; exact z2
              · exact z i (by omega)
      refine d_find a1 ⟨by omega, by omega⟩ (fun _ => ?_) (fun i _ _ _ => ?_)
      · exact ⟨fun σ57 => ¬ sg_g σ23 38 13 = 0 → ¬ sg_g σ57 38 13 = 0, ⟨fun _ z => z, fun _ => d_blame (by decide) (fun σ' z _ _ _ => z)⟩, fun σ57 f57 h57 => rest σ57 f57 h57⟩
      · exact ⟨fun σ57 => ¬ sg_g σ23 38 13 = 0 → ¬ sg_g σ57 38 13 = 0, ⟨fun _ z => z, fun _ => d_blame (by decide) (fun σ' z _ _ _ => z)⟩, fun σ57 f57 h57 => rest σ57 f57 h57⟩
    · rintro σ23 f23 ⟨⟨a1, a2⟩, a3, a4, a5, a6⟩
      refine ⟨fun z => k1 σ23 z, fun z => ?_⟩
      have F23 : sg_F [24, 34, 39, 40, 10038, 11038, 12038, 13038, 14038] σ σ23 := sg_F_t (sg_F_m F19 rfl) (sg_F_m f23 rfl)
      have a7 : ∀ i : Nat, i < ps.length → sg_g σ 27 (6 * d + i) ≤ 3 := by
        rcases a6 with q | q
        · exact absurd z q
        · exact q
      have S23 : kS σ23 (gsl b ps.length) ps.length (b + ps.length) p := ⟨z, ⟨a1, a2, by rw [sg_F_g F23 (by rfl)]; exact s3⟩, fun i q1 q2 => gsl_m.mpr (a3 i q1 q2), by omega, by omega, s5⟩
      have tk : ∀ i : Nat, i < ps.length → kIn (sg_g σ23 34 (b + i)) := fun i hi => by
        have hy : ps[i]? = some (ps[i]'hi) := List.getElem?_eq_getElem hi
        have q1 := t27 i _ hy
        have q2 := w2 _ (List.mem_of_getElem? hy)
        have q3 := a7 i hi
        rw [a4 i hi]
        unfold kIn
        omega
      have E23 : hEs σ23 (gsl b ps.length) (b + ps.length) := fun s hs => by
        have q := gsl_m.mp hs
        have := tk (s - b).toNat (by omega)
        rw [show b + (((s - b).toNat : Nat) : Int) = s by omega] at this
        exact ⟨⟨by omega, by omega⟩, this⟩
      have C23 : cDq σ23 A d L := fun q q1 q2 => by
        obtain ⟨y0, ps', r, z1, z2, z3, z4⟩ := hC q q1 q2
        exact ⟨y0, ps', r, dcQ_F z1 F23 rfl, z2, by rw [sg_F_ga F23 rfl]; exact z3, z4⟩
      have cl23 : sg_g σ23 38 11 = d := by rw [sg_F_g f23 (by rfl), sg_F_g f19 (by rfl), sg_F_g f16 (by rfl)]; exact d4
      refine d_walk (ckW_F h F23 rfl) hf hN hr hl ⟨d12.1, by omega⟩ S23 E23 cl23 C23 (by omega) (by omega) hp (fun σ' q _ => k1 σ' q) (fun σ' b' g1 g2 g3 g4 g5 g6 g7 g8 _ => ?_)
      have FF : sg_F dfL σ σ' := sg_F_t (sg_F_m F23 rfl) (sg_F_m g1 rfl)
      · obtain ⟨q1, ⟨q2, q3, q4⟩, q5, q6, q7, q8⟩ := g2
        refine k2 σ' b' FF ⟨q1, ⟨q3, q4⟩, q7, q8⟩ ⟨fun y hy => ⟨by rw [(g3.1 y hy).1.1, sg_F_ga F23 rfl], by rw [(g3.1 y hy).1.2, sg_F_ga F23 rfl]⟩, fun s hs => by rw [g3.2.1 s (by omega), a5 s hs], fun i hi => by rw [(g3.2.2.2 i hi).1, (g3.2.2.2 i hi).2, sg_F_ga F23 rfl, sg_F_ga F23 rfl]; exact ⟨rfl, rfl⟩⟩ ⟨by rw [sg_F_ga g1 rfl, sg_F_ga f23 rfl]; exact g24, g4, fun i hi => ⟨by rw [sg_F_ga g1 rfl, sg_F_ga f23 rfl]; exact o24 i hi, by rw [g5 i hi, sg_F_ga F23 rfl]⟩⟩ g6 g7 g8 (fun i hi => ?_)
        rw [g3.2.1 _ (by omega)]
        exact ⟨a4 i hi, tk i hi⟩
  refine d_dfind (fun _ => ?_) (fun q _ _ _ _ => ?_)
  · exact ⟨fun _ => True, ⟨fun _ => True.intro, fun _ => d_blame (by decide) (fun _ _ _ _ => True.intro)⟩, fun σ16 f16 _ σ19 e19 => main σ16 f16 σ19 e19⟩
  · exact ⟨fun _ => True, ⟨fun _ => True.intro, fun _ => d_blame (by decide) (fun _ _ _ _ => True.intro)⟩, fun σ16 f16 _ σ19 e19 => main σ16 f16 σ19 e19⟩
end WK6
