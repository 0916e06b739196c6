/-! check of the class: kPg. -/
theorem cD2_F {L : List Nat} {σ σ' : sg_S} {D : List aDf} (h : cD2 σ D) (f : sg_F L σ σ') (hL : (!sg_cv L 19 8 && sg_ca L 20 && sg_ca L 21 && sg_ca L 22 && sg_ca L 23 && sg_ca L 25 && sg_ca L 26 && sg_ca L 27) = true) : cD2 σ' D := by
  simp only [Bool.and_eq_true, Bool.not_eq_true'] at hL
  obtain ⟨⟨⟨⟨⟨⟨⟨l0, l1⟩, l2⟩, l3⟩, l4⟩, l5⟩, l6⟩, l7⟩ := hL
  refine ⟨by rw [sg_F_g f l0]; exact h.1, h.2.1, fun d x hx => ?_⟩
  obtain ⟨a1, a2, a3, a4, a5, a6⟩ := h.2.2 d x hx
  refine ⟨by rw [sg_F_gal f l1]; exact a1, by rw [sg_F_ga f l2]; exact a2, by rw [sg_F_ga f l3]; exact a3, by rw [sg_F_ga f l4]; exact a4, a5, fun j y hy => ?_⟩
  rw [sg_F_gal f l5, sg_F_ga f l6, sg_F_ga f l7]; exact a6 j y hy
theorem kDf_s {A : aT} {ds ds1 : kD} {x : aDf} {T T1 : Int → Int} (h : kDf A ds x T = some (T1, ds1)) : kDef ds x.1 = none ∧ (∀ p ∈ x.2.2.1, p.2.2 ≤ 3) ∧ kGo A ds 201 (x.2.2.1.reverse.map (fun p => (p.1, p.2.2))) x.2.2.2 T = some T1 := by
  unfold kDf at h
  split at h
  · rename_i hc
    split at h
    · cases h
    · rename_i T2 hg
      cases h
      exact ⟨hc.1, hc.2.2, hg⟩
  · cases h
section CHK
variable {σ : sg_S} {A : aT} {D : List aDf} {q : Int} {Q : Int → sg_S → Prop}
theorem c_check (h : ckW σ A) (hD : cD2 σ D) (hW : ∀ x ∈ D, dW A x) (hV : ∀ x ∈ D, wD x) (hfr : frA A (aRt D ++ [q])) (k1 : ∀ p σ', kPg A D q (sg_g σ 6) = none → 0 ≤ p → cF σ' → Q p σ') (k2 : ∀ σ', kPg A D q (sg_g σ 6) = some (sg_g σ' 6) → cZ σ' → Q (-1) σ') : V_kCheck σ q Q := by
  obtain ⟨y1, y2, y3⟩ := id hD
  have hA := h.1.2
  have hkp : ∀ x, kDs A D [] (sg_g σ 6) = x → kPg A D q (sg_g σ 6) = (match x with
    | none => none
    | some (T1, ds) => kGo A ds 201 [] q T1) := fun x hx => by subst hx; rfl
  obtain ⟨LA, hf1, hf2, hf3, -⟩ := hfr
  have hLA : LA.length ≤ 200 := ndl 200 LA hf2 (fun x hx => by have := hf3 x hx; omega)
  have hrl : (aRt D).length = D.length := by unfold aRt; rw [List.length_map]
  unfold V_kCheck
  intro σ1 e1 σ4 e4 σ7 e7 σ10 e10
  have f10 : sg_F [7028, 11038, 13038, 14038] σ σ10 := by
    rw [e10, e7, e4, e1]; exact sg_F_w (sg_F_w (sg_F_w (sg_F_w (sg_F_r _ _) rfl _) rfl _) rfl _) rfl _
  have z10 : cZ σ10 := ⟨by rw [e10, sg_gw_k _ _ _ _ _ _ (by decide), e7, sg_gw_e _ _ _ _ (by decide)], by rw [e10, sg_gw_e _ _ _ _ (by decide)]⟩
  have c10 : sg_g σ10 38 10 = (0 : Nat) := by rw [e10, sg_gw_k _ _ _ _ _ _ (by decide), e7, sg_gw_k _ _ _ _ _ _ (by decide), e4, sg_gw_e _ _ _ _ (by decide)]; rfl
  have T10 : sg_g σ10 6 = sg_g σ 6 := funext fun _ => sg_F_ga f10 rfl
  generalize hz : kDs A D [] (sg_g σ 6) = z at *
  rw [y1]
  refine ⟨fun m v σ14 => ∃ d : Nat, v = d ∧ m = D.length - d ∧ d ≤ D.length ∧ ((cZ σ14 ∧ ∃ (ds : kD) (c : Nat) (L : List Int), dsC σ14 (d : Int) ds ∧ kDs A (D.drop d) ds (sg_g σ14 6) = z ∧ kDi ds (sg_g σ14 6) ∧ (∀ d ∈ ds, 0 ≤ d.2.2 ∧ d.2.2 < A.1) ∧ sg_g σ14 38 10 = c ∧ fT A ((aRt D ++ [q]).drop d) L ∧ L.Nodup ∧ (∀ x ∈ L, 0 ≤ x ∧ x < A.1) ∧ c + 6 * (D.length - d) + L.length ≤ 272) ∨ (cF σ14 ∧ z = none)), fun σ14 => ((cZ σ14 ∧ ∃ (ds : kD) (c : Nat) (L : List Int), dsC σ14 (D.length : Int) ds ∧ some (sg_g σ14 6, ds) = z ∧ kDi ds (sg_g σ14 6) ∧ (∀ d ∈ ds, 0 ≤ d.2.2 ∧ d.2.2 < A.1) ∧ sg_g σ14 38 10 = c ∧ fT A [q] L ∧ L.Nodup ∧ (∀ x ∈ L, 0 ≤ x ∧ x < A.1) ∧ c + L.length ≤ 272) ∨ (cF σ14 ∧ z = none)), ⟨_, 0, rfl, rfl, Nat.zero_le _, Or.inl ⟨z10, [], 0, LA, rfl, ?_, fun d hd => (by simp at hd), fun d hd => (by simp at hd), c10, hf1, hf2, hf3, by omega⟩⟩, ?_, ?_⟩
  · rw [T10]; exact hz
  · rintro m v σ14 rv fr ⟨d, rfl, em, hd, hi⟩
    have fin : D.length ≤ d → ((cZ σ14 ∧ ∃ (ds : kD) (c : Nat) (L : List Int), dsC σ14 (D.length : Int) ds ∧ some (sg_g σ14 6, ds) = z ∧ kDi ds (sg_g σ14 6) ∧ (∀ d ∈ ds, 0 ≤ d.2.2 ∧ d.2.2 < A.1) ∧ sg_g σ14 38 10 = c ∧ fT A [q] L ∧ L.Nodup ∧ (∀ x ∈ L, 0 ≤ x ∧ x < A.1) ∧ c + L.length ≤ 272) ∨ (cF σ14 ∧ z = none)) := fun hdd => by
      have : d = D.length := by omega
      subst this
      rcases hi with ⟨a, ds, c, L, b1, b2, b3, b4, b5, b6, b7, b8, b9⟩ | a
      · rw [List.drop_length] at b2
        rw [← hrl, List.drop_left] at b6
        exact Or.inl ⟨a, ds, c, L, b1, b2, b3, b4, b5, b6, b7, b8, by omega⟩
      · exact Or.inr a
    refine ⟨fun c1 => fin (by omega), fun c1 => ⟨fun c2 => fin (by omega), fun c2 => ⟨fun c3 => ?_, fun c3 => ?_⟩⟩⟩
    · rcases hi with ⟨a, -⟩ | a
      · exact absurd a.1 c3
      · exact Or.inr a
    · rcases hi with ⟨a, ds, c, L, b1, b2, b3, b4, b5, b6, b7, b8, b9⟩ | ⟨a, -⟩
      rotate_left
      · exact absurd c3 a.1
      have hd2 : d < D.length := by omega
      have hx : D[d]? = some D[d] := List.getElem?_eq_getElem hd2
      have hwx := hW D[d] (List.getElem_mem hd2)
      have hvx := hV D[d] (List.getElem_mem hd2)
      have f14 : sg_F [6, 16, 24, 29, 30, 31, 32, 33, 34, 39, 40, 41, 42, 43, 44, 7028, 10038, 11038, 12038, 13038, 14038] σ σ14 := sg_F_t (sg_F_m f10 rfl) fr
      have D14 : cD2 σ14 D := cD2_F hD f14 rfl
      rw [List.drop_eq_getElem_cons hd2] at b2
      have hdr : (aRt D ++ [q]).drop d = [D[d].2.2.2] ++ (aRt D ++ [q]).drop (d + 1) := by
        have hl : d < (aRt D ++ [q]).length := by rw [List.length_append, hrl]; simp only [List.length_cons, List.length_nil]; omega
        rw [List.drop_eq_getElem_cons hl, List.getElem_append_left (by rw [hrl]; exact hd2)]
        simp only [aRt, List.getElem_map, List.singleton_append]
      rw [hdr] at b6
      obtain ⟨La, Lb, eL, fa, fb⟩ := fT_spl _ _ _ b6
      rw [eL] at b7 b8 b9
      rw [List.length_append] at b9
      have hp6 := hwx.2.2
      have nda := (List.nodup_append.mp b7).1
      have ndb := (List.nodup_append.mp b7).2.1
      have hLa : La.length ≤ 200 := ndl 200 La nda (fun x hx => by have := b8 x (List.mem_append_left _ hx); omega)
      refine c_definition (c := c) (ckW_F h f14 rfl) D14 hx hwx hvx fa nda (fun x hx => b8 x (List.mem_append_left _ hx)) hLa b1 a b3 b4 b5 (by omega) (fun σ' t1 t2 fr' => ⟨⟨by omega, by omega⟩, D.length - (d + 1), by omega, d + 1, by omega, rfl, by omega, Or.inr ⟨t2, ?_⟩⟩) (fun σ' t1 t2 t3 fr' => ?_)
      · rw [← b2]; unfold kDs; rw [t1]
      · obtain ⟨c', t4, t5⟩ := t3
        obtain ⟨s1, s2, s3⟩ := kDf_s t1
        obtain ⟨r1, r2⟩ := kGo_rg A ds 201 _ _ _ _ b3 (fun p hp => by
          obtain ⟨p', hp', rfl⟩ := List.mem_map.mp hp
          have hp2 := List.mem_reverse.mp hp'
          exact ⟨hwx.2.1 p' hp2, s2 p' hp2⟩) s3
        refine ⟨⟨by omega, by omega⟩, D.length - (d + 1), by omega, d + 1, by omega, rfl, by omega, Or.inl ⟨t2, (D[d].1, D[d].2.2.1.map (·.2.2), D[d].2.2.2) :: ds, c', Lb, ?_, ?_, ?_, ?_, t4, fb, ndb, fun x hx => b8 x (List.mem_append_right _ hx), by omega⟩⟩
        · obtain ⟨a1, a2, a3, a4, a5, a6⟩ := D14.2.2 d D[d] hx
          have e0 : ((d + 1 : Nat) : Int) - 1 = d := by omega
          refine ⟨by omega, ?_, hvx.1.1, ⟨?_, ?_, ?_, ?_⟩, s1, ?_⟩
          · rw [e0, sg_F_gal fr' rfl]; exact a1
          · rw [e0, sg_F_ga fr' rfl, a4]; simp only [List.length_map]
          · intro j y hy
            rw [List.getElem?_map] at hy
            cases hj : D[d].2.2.1[j]? with
            | none => rw [hj] at hy; cases hy
            | some p =>
              rw [hj] at hy
              rw [e0, sg_F_ga fr' rfl, (a6 j p hj).2.2]
              exact Option.some.inj hy
          · rw [e0, sg_F_ga fr' rfl]; exact a3
          · simp only [List.length_map]; exact a5
          · rw [e0]; exact dsC_F fr' rfl b1
        · rw [← b2]
          simp only [kDs]
          rw [t1]
        · intro y hy
          rcases List.mem_cons.mp hy with e2 | e2
          · subst e2; exact r1
          · exact r2 _ (b3 y e2)
        · intro y hy
          rcases List.mem_cons.mp hy with e2 | e2
          · subst e2; exact cT_r hwx.1
          · exact b4 y e2
  · intro σ14 fr h14
    have f14 : sg_F [6, 16, 24, 29, 30, 31, 32, 33, 34, 39, 40, 41, 42, 43, 44, 7028, 10038, 11038, 12038, 13038, 14038] σ σ14 := sg_F_t (sg_F_m f10 rfl) fr
    refine ⟨fun c3 => ?_, fun c3 σ29 e29 σ32 e32 => ?_⟩
    · rcases h14 with ⟨a, -⟩ | ⟨a, b⟩
      · exact absurd a.1 c3
      · refine k1 _ σ14 ?_ a.2 a
        rw [hkp z rfl, b]
    · rcases h14 with ⟨a, ds, c, L, b1, b2, b3, b4, b5, b6, b7, b8, b9⟩ | ⟨a, -⟩
      rotate_left
      · exact absurd c3 a.1
      have f32 : sg_F [10038, 12038] σ14 σ32 := by rw [e32, e29]; exact sg_F_w (sg_F_w (sg_F_r _ _) rfl _) rfl _
      have F32 : sg_F [6, 16, 24, 29, 30, 31, 32, 33, 34, 39, 40, 41, 42, 43, 44, 7028, 10038, 11038, 12038, 13038, 14038] σ σ32 := sg_F_t f14 (sg_F_m f32 rfl)
      have T32 : sg_g σ32 6 = sg_g σ14 6 := funext fun _ => sg_F_ga f32 rfl
      have hdl := dsC_n b1
      have hkz : kPg A D q (sg_g σ 6) = kGo A ds 201 [] q (sg_g σ32 6) := by rw [hkp z rfl, ← b2, T32]
      have kn : sg_g σ32 38 9 = 0 := by rw [e32, sg_gw_k _ _ _ _ _ _ (by decide), e29, sg_gw_e _ _ _ _ (by decide)]
      have cl : sg_g σ32 38 11 = (D.length : Int) := by rw [e32, sg_gw_e _ _ _ _ ⟨by omega, by omega⟩]
      have hLl : L.length ≤ 200 := ndl 200 L b7 (fun x hx => by have := b8 x hx; omega)
      refine c_walk (e := []) (c := c) (ckW_F h F32 rfl) b6 b7 b8 hLl (cZ_F a f32 rfl) kn (by simp) (fun p hp => by simp at hp) (by rw [T32]; exact b3) (by rw [sg_F_g f32 (by rfl)]; exact b5) b9 (by rw [cl]; exact dsC_F f32 rfl b1) (by omega) b4 (fun σ' t1 t2 t3 _ => k1 _ σ' (hkz.trans t1) t2.2 t2) (fun σ' t1 t2 t3 t4 _ => ?_)
      rw [t2.2]
      exact k2 σ' (hkz.trans t1) t2
end CHK
