/-! check of the checker once more: what it lays out. -/
/-- a DEF that is laid out -/
def dR (σ : sg_S) (A : aT) (H : Int → Int) (b p q : Int) (Ld : List Int) : Prop := ∃ L, fT A [sg_g σ 22 q] L ∧ (∀ x ∈ L, x ∈ Ld) ∧ scN σ A q 201 (gsl (sg_g σ 24 q) (sg_g σ 23 q).toNat) (sg_g σ 22 q) (sg_g σ 24 q + sg_g σ 23 q) (H q) ∧ pC σ (sg_g σ 31 q) (cd A 201 (sg_g σ 22 q) ++ [(6, q)]) ∧ (0 ≤ sg_g σ 31 q ∧ sg_g σ 31 q + (cd A 201 (sg_g σ 22 q)).length + 1 ≤ p) ∧ (0 ≤ sg_g σ 24 q ∧ H q ≤ b) ∧ (∀ i : Nat, (i : Int) < sg_g σ 23 q → sg_g σ 34 (sg_g σ 24 q + i) = sg_g σ 27 (6 * q + i) ∧ kIn (sg_g σ 34 (sg_g σ 24 q + i))) ∧ kIn (sg_g σ 6 (sg_g σ 22 q)) ∧ (0 ≤ sg_g σ 23 q ∧ sg_g σ 23 q ≤ 6)
theorem dR_st {σ σ' : sg_S} {A : aT} {H H' : Int → Int} {b p b1 p1 q : Int} {Ld Ld1 La : List Int} (h : dR σ A H b p q Ld) (v : kV σ σ' b p La) (hd : ∀ x ∈ Ld, x ∉ La) (f : sg_F dfL σ σ') (h24 : sg_g σ' 24 q = sg_g σ 24 q) (h31 : sg_g σ' 31 q = sg_g σ 31 q) (hr : ∀ q', 0 ≤ q' → q' < q → sg_g σ 22 q' ∈ Ld) (hH : H' q = H q) (hb : b ≤ b1) (hp : p ≤ p1) (hL : ∀ x ∈ Ld, x ∈ Ld1) : dR σ' A H' b1 p1 q Ld1 := by
  obtain ⟨L, a1, a2, a3, a4, a5, a6, a7, a8, a9⟩ := h
  have e22 : ∀ i, sg_g σ' 22 i = sg_g σ 22 i := fun i => sg_F_ga f rfl
  have e23 : ∀ i, sg_g σ' 23 i = sg_g σ 23 i := fun i => sg_F_ga f rfl
  have e27 : ∀ i, sg_g σ' 27 i = sg_g σ 27 i := fun i => sg_F_ga f rfl
  have le := scN_le _ _ _ _ _ a3
  have root : sg_g σ 22 q ∈ Ld := a2 _ (fT_sub a1 _ (by simp))
  unfold dR
  rw [e22, e23, h24, h31, hH]
  refine ⟨L, a1, fun x hx => hL x (a2 x hx), scN_st (σ := σ) (LL := Ld) 201 _ _ _ _ L a1 a2 (fun y hy => ?_) ⟨fun x hx => ⟨(v.1 x (hd x hx)).2, (v.1 x (hd x hx)).1⟩, fun s hs => v.2.1 s (by omega), fun i => ⟨e22 i, e23 i, e27 i⟩, fun q' z1 z2 => (v.1 _ (hd _ (hr q' z1 z2))).1⟩ a3, pC_e a4 (show sg_g σ 31 q + (((cd A 201 (sg_g σ 22 q) ++ [(6, q)]).length : Nat) : Int) ≤ p by rw [List.length_append, List.length_cons, List.length_nil]; omega) v.2.2, ⟨a5.1, by omega⟩, ⟨a6.1, by omega⟩, fun i hi => ?_, ?_, a9⟩
  · have := gsl_m.mp hy; omega
  · rw [e27, v.2.1 _ (by omega)]; exact a7 i hi
  · rw [(v.1 _ (hd _ root)).1]; exact a8
/-- all that is laid out for a PROGRAM -/
def ckA (σ : sg_S) (A : aT) (M r : Int) : Prop := ∃ (H : Int → Int) (fs : Int) (Ld : List Int), (∀ q, 0 ≤ q → q < M → dR σ A H fs 1013 q Ld ∧ ∀ q', 0 ≤ q' → q' < q → H q' ≤ sg_g σ 24 q) ∧ 0 ≤ fs ∧ scN σ A M 201 [] r fs (H 12) ∧ H 12 ≤ 272 ∧ pl σ (sg_g σ 31 12) (cd A 201 r ++ [(6, 12)])
/-- DEFS below d are laid out -/
def ckSt (A : aT) (D : List aDf) (q : Int) (σ14 : sg_S) (d : Nat) : Prop := ∃ (H : Int → Int) (b p : Int) (Ld L : List Int), kS0 σ14 b p ∧ (∀ q', 0 ≤ q' → q' < (d : Int) → dR σ14 A H b p q' Ld ∧ ∀ q'', 0 ≤ q'' → q'' < q' → H q'' ≤ sg_g σ14 24 q') ∧ fT A ((aRt D ++ [q]).drop d) L ∧ (Ld ++ L).Nodup ∧ (∀ x ∈ Ld ++ L, 0 ≤ x ∧ x < A.1) ∧ b + 6 * ((D.length - d : Nat) : Int) + L.length ≤ 272 ∧ p + 5 * L.length + ((D.length - d : Nat) : Int) + 1 ≤ 1013
section CHK2
variable {σ : sg_S} {A : aT} {D : List aDf} {q : Int} {Q : Int → sg_S → Prop}
theorem updq (H : Int → Int) (d b : Int) : ∃ H' : Int → Int, H' d = b ∧ ∀ z, ¬ z = d → H' z = H z := ⟨fun z => if z = d then b else H z, if_pos rfl, fun z hz => if_neg hz⟩
theorem d_check (h : ckW σ A) (hD : cD2 σ D) (hW : ∀ x ∈ D, dW A x) (hfr : frA A (aRt D ++ [q])) (k1 : ∀ p σ', ¬ sg_g σ' 38 13 = 0 → Q p σ') (k2 : ∀ p σ', sg_g σ' 38 13 = 0 → ckA σ' A D.length q → sg_F dfL σ σ' → Q p σ') : V_kCheck σ q Q := by
  obtain ⟨y1, y2, y3⟩ := id hD
  have hA := h.1.2
  obtain ⟨LA, hf1, hf2, hf3, -⟩ := hfr
  have hLA : LA.length ≤ 200 := ndl 200 LA hf2 (fun x hx => by have := hf3 x hx; omega)
  have hrl : (aRt D).length = D.length := by unfold aRt; rw [List.length_map]
  unfold V_kCheck
  intro σ1 e1 σ4 e4 σ7 e7 σ10 e10
  have f10 : sg_F [7028, 11038, 13038, 14038] σ σ10 := by
    rw [e10, e7, e4, e1]; exact sg_F_w (sg_F_w (sg_F_w (sg_F_w (sg_F_r _ _) rfl _) rfl _) rfl _) rfl _
  have S10 : kS0 σ10 0 0 := ⟨by rw [e10, sg_gw_k _ _ _ _ _ _ (by decide), e7, sg_gw_e _ _ _ _ (by decide)], ⟨by rw [e10, sg_gw_k _ _ _ _ _ _ (by decide), e7, sg_gw_k _ _ _ _ _ _ (by decide), e4, sg_gw_e _ _ _ _ (by decide)], by rw [e10, sg_gw_c _ _ _ _ _ _ (by decide), e7, sg_gw_c _ _ _ _ _ _ (by decide), e4, sg_gw_c _ _ _ _ _ _ (by decide), e1, sg_gw_e _ _ _ _ (by decide)]⟩, by decide, by decide⟩
  rw [y1]
  have St0 : ckSt A D q σ10 0 := ⟨fun _ => 0, 0, 0, [], LA, S10, fun q' a b => by omega, hf1, by simpa using hf2, by simpa using hf3, by omega, by omega⟩
  refine ⟨fun m v σ14 => ∃ d : Nat, v = d ∧ m = D.length - d ∧ d ≤ D.length ∧ (¬ sg_g σ14 38 13 = 0 ∨ ckSt A D q σ14 d), fun σ14 => ¬ sg_g σ14 38 13 = 0 ∨ ckSt A D q σ14 D.length, ⟨_, 0, rfl, rfl, Nat.zero_le _, Or.inr St0⟩, ?_, ?_⟩
  · rintro m v σ14 rv fr ⟨d, rfl, em, hd, hi⟩
    have fin : D.length ≤ d → ¬ sg_g σ14 38 13 = 0 ∨ ckSt A D q σ14 D.length := fun hdd => by
      have : d = D.length := by omega
      subst this; exact hi
    refine ⟨fun c1 => fin (by omega), fun c1 => ⟨fun c2 => fin (by omega), fun c2 => ⟨fun c3 => Or.inl c3, fun c3 => ?_⟩⟩⟩
    rcases hi with a | ⟨H, b, p, Ld, L, a1, a2, a3, a4, a5, a6, a7⟩
    · exact absurd c3 a
    have hd2 : d < D.length := by omega
    have hx : D[d]? = some D[d] := List.getElem?_eq_getElem hd2
    have hwx := hW D[d] (List.getElem_mem hd2)
    have f14 : sg_F dfL σ σ14 := sg_F_t (sg_F_m f10 rfl) fr
    have D14 : cD2 σ14 D := cD2_F hD f14 rfl
    have hdr : (aRt D ++ [q]).drop d = [D[d].2.2.2] ++ (aRt D ++ [q]).drop (d + 1) := by
      have hl : d < (aRt D ++ [q]).length := by rw [List.length_append, hrl]; simp only [List.length_cons, List.length_nil]; omega
      rw [List.drop_eq_getElem_cons hl, List.getElem_append_left (by rw [hrl]; exact hd2)]
      simp only [aRt, List.getElem_map, List.singleton_append]
    rw [hdr] at a3
    obtain ⟨La, Lb, eL, fa, fb⟩ := fT_spl _ _ _ a3
    subst eL
    rw [List.length_append] at a6 a7
    have nd := List.nodup_append.mp a4
    have ndL := List.nodup_append.mp nd.2.1
    have dLa : ∀ x ∈ Ld, x ∉ La := fun x hx z => nd.2.2 x hx x (List.mem_append_left _ z) rfl
    have hLa : La.length ≤ 200 := ndl 200 La ndL.1 (fun x hx => by have := a5 x (List.mem_append_right _ (List.mem_append_left _ hx)); omega)
    have roots : ∀ q', 0 ≤ q' → q' < (d : Int) → sg_g σ14 22 q' ∈ Ld := fun q' z1 z2 => by
      obtain ⟨L', b1, b2, -⟩ := (a2 q' z1 z2).1
      exact b2 _ (fT_sub b1 _ (by simp))
    have C14 : cDq σ14 A d La := fun q' z1 z2 => by
      have hq : q'.toNat < D.length := by omega
      obtain ⟨t1, t2, t3, t4, t5, t6⟩ := D14.2.2 q'.toNat D[q'.toNat] (List.getElem?_eq_getElem hq)
      rw [show ((q'.toNat : Nat) : Int) = q' by omega] at t3 t4 t6
      obtain ⟨L', b1, b2, b3, b4, b5, b6, b7, b8, b9⟩ := (a2 q' z1 z2).1
      have rt := roots q' z1 z2
      refine ⟨by omega, D[q'.toNat].2.2.1.map (·.2.2), sg_g σ14 22 q', ⟨by rw [t4, List.length_map], fun j y hy => ?_, rfl, by rw [List.length_map]; exact t5⟩, a5 _ (List.mem_append_left _ rt), b8, fun z => dLa _ rt z⟩
      rw [List.getElem?_map] at hy
      cases hp : D[q'.toNat].2.2.1[j]? with
      | none => rw [hp] at hy; cases hy
      | some w => rw [hp] at hy; rw [(t6 j w hp).2.2]; exact Option.some.inj hy
    have hp6 := hwx.2.2
    refine d_definition (ckW_F h f14 rfl) D14 hx hwx fa ndL.1 (fun x hx => a5 x (List.mem_append_right _ (List.mem_append_left _ hx))) hLa a1 C14 (by omega) (by omega) (fun σ' z _ => ⟨⟨by omega, by omega⟩, D.length - (d + 1), by omega, d + 1, by omega, rfl, by omega, Or.inl z⟩) (fun σ' b' g1 g2 g3 g4 g5 g6 g7 g8 _ => ⟨⟨by omega, by omega⟩, D.length - (d + 1), by omega, d + 1, by omega, rfl, by omega, Or.inr ?_⟩)
    obtain ⟨t1, t2, t3, t4, t5, t6⟩ := D14.2.2 d D[d] hx
    have e22 : ∀ i, sg_g σ' 22 i = sg_g σ14 22 i := fun i => sg_F_ga g1 rfl
    have e23 : ∀ i, sg_g σ' 23 i = sg_g σ14 23 i := fun i => sg_F_ga g1 rfl
    have sl := scN_len _ _ _ _ _ _ fa g6
    have sle := scN_le _ _ _ _ _ g6
    have cl5 := cd_len 201 D[d].2.2.2 La fa
    obtain ⟨H', hH1, hH2⟩ := updq H d b'
    refine ⟨H', b', p + (cd A 201 D[d].2.2.2).length + 1, Ld ++ La, Lb, g2, fun q' z1 z2 => ?_, fb, by rw [List.append_assoc]; exact a4, by rw [List.append_assoc]; exact a5, by omega, by omega⟩
    by_cases c : q' = (d : Int)
    · subst c
      refine ⟨⟨La, by rw [e22, t3]; exact fa, fun x hx => List.mem_append_right _ hx, ?_, ?_, ?_, ?_, fun i hi => ?_, ?_, ?_⟩, fun q'' z3 z4 => ?_⟩
      · rw [e22, e23, t3, t4, g4.1, hH1, Int.toNat_natCast]; exact g6
      · rw [e22, t3, g4.2.1]; exact g5
      · rw [e22, t3, g4.2.1]; exact ⟨a1.2.2.2, Int.le_refl _⟩
      · rw [g4.1, hH1]; exact ⟨a1.2.2.1, Int.le_refl _⟩
      · rw [e23, t4] at hi
        rw [g4.1, show sg_g σ' 27 (6 * (d : Int) + i) = sg_g σ14 27 (6 * (d : Int) + i) from sg_F_ga g1 rfl]
        exact g8 i (by omega)
      · rw [e22, t3]; exact g7
      · rw [e23, t4]; omega
      · rw [hH2 _ (by omega), g4.1]
        obtain ⟨L', b1, b2, b3, b4, b5, b6, b7⟩ := (a2 q'' z3 (by omega)).1
        exact b6.2
    · have z2' : q' < (d : Int) := by omega
      obtain ⟨r1, r2⟩ := a2 q' z1 z2'
      obtain ⟨o1, o2⟩ := g4.2.2 q' c
      refine ⟨dR_st (H' := H') r1 g3 dLa g1 o1 o2 (fun q'' w1 w2 => roots q'' w1 (by omega)) (hH2 _ c) (by omega) (by omega) (fun x hx => List.mem_append_left _ hx), fun q'' w1 w2 => ?_⟩
      rw [hH2 _ (by omega), o1]
      exact r2 q'' w1 w2
  · intro σ14 fr hi
    rcases hi with a | ⟨H, b, p, Ld, L, a1, a2, a3, a4, a5, a6, a7⟩
    · exact ⟨fun _ => k1 _ σ14 a, fun z => absurd z a⟩
    refine ⟨fun z => absurd a1.1 z, fun _ σ29 e29 σ32 e32 => ?_⟩
    have f14 : sg_F dfL σ σ14 := sg_F_t (sg_F_m f10 rfl) fr
    have D14 : cD2 σ14 D := cD2_F hD f14 rfl
    have f32 : sg_F [10038, 12038] σ14 σ32 := by rw [e32, e29]; exact sg_F_w (sg_F_w (sg_F_r _ _) rfl _) rfl _
    have k9 : sg_g σ32 38 9 = 0 := by rw [e32, sg_gw_k _ _ _ _ _ _ (by decide), e29, sg_gw_e _ _ _ _ (by decide)]
    have cl : sg_g σ32 38 11 = D.length := by rw [e32, sg_gw_e _ _ _ _ ⟨by omega, by omega⟩]
    rw [← hrl, List.drop_left] at a3
    have nd := List.nodup_append.mp a4
    have dL : ∀ x ∈ Ld, x ∉ L := fun x hx z => nd.2.2 x hx x z rfl
    have hL : L.length ≤ 200 := ndl 200 L nd.2.1 (fun x hx => by have := a5 x (List.mem_append_right _ hx); omega)
    obtain ⟨x1, ⟨x2, x3⟩, x4, x5⟩ := a1
    have S32 : kS σ32 [] 0 b p := ⟨by rw [sg_F_g f32 (by rfl)]; exact x1, ⟨k9, by rw [sg_F_g f32 (by rfl)]; exact x2, by rw [sg_F_g f32 (by rfl)]; exact x3⟩, fun i z1 z2 => by omega, by decide, x4, x5⟩
    have roots : ∀ q', 0 ≤ q' → q' < (D.length : Int) → sg_g σ14 22 q' ∈ Ld := fun q' z1 z2 => by
      obtain ⟨L', b1, b2, -⟩ := (a2 q' z1 z2).1
      exact b2 _ (fT_sub b1 _ (by simp))
    have C32 : cDq σ32 A D.length L := fun q' z1 z2 => by
      have hq : q'.toNat < D.length := by omega
      obtain ⟨t1, t2, t3, t4, t5, t6⟩ := D14.2.2 q'.toNat D[q'.toNat] (List.getElem?_eq_getElem hq)
      rw [show ((q'.toNat : Nat) : Int) = q' by omega] at t3 t4 t6
      obtain ⟨L', b1, b2, b3, b4, b5, b6, b7, b8, b9⟩ := (a2 q' z1 z2).1
      have rt := roots q' z1 z2
      refine ⟨by omega, D[q'.toNat].2.2.1.map (·.2.2), sg_g σ14 22 q', dcQ_F ⟨by rw [t4, List.length_map], fun j y hy => ?_, rfl, by rw [List.length_map]; exact t5⟩ f32 rfl, a5 _ (List.mem_append_left _ rt), by rw [sg_F_ga f32 rfl]; exact b8, fun z => dL _ rt z⟩
      rw [List.getElem?_map] at hy
      cases hp : D[q'.toNat].2.2.1[j]? with
      | none => rw [hp] at hy; cases hy
      | some w => rw [hp] at hy; rw [(t6 j w hp).2.2]; exact Option.some.inj hy
    rw [Nat.sub_self] at a6 a7
    refine d_walk (ckW_F (ckW_F h f14 rfl) f32 rfl) a3 nd.2.1 (fun x hx => a5 x (List.mem_append_right _ hx)) hL ⟨by decide, by decide⟩ S32 (fun s hs => by simp at hs) cl C32 (by omega) (by omega) (by omega) (fun σ' z _ => k1 _ σ' z) (fun σ' b' g1 g2 g3 g4 g5 g6 g7 g8 _ => ?_)
    have FF : sg_F dfL σ14 σ' := sg_F_t (sg_F_m f32 rfl) (sg_F_m g1 rfl)
    have V : kV σ14 σ' b p L := ⟨fun y hy => ⟨by rw [(g3.1 y hy).1.1, sg_F_ga f32 rfl], by rw [(g3.1 y hy).1.2, sg_F_ga f32 rfl]⟩, fun s hs => by rw [g3.2.1 s hs, sg_F_ga f32 rfl], fun i hi => by rw [(g3.2.2.2 i hi).1, (g3.2.2.2 i hi).2, sg_F_ga f32 rfl, sg_F_ga f32 rfl]; exact ⟨rfl, rfl⟩⟩
    have sl := scN_len _ _ _ _ _ _ a3 g7
    have cl5 := cd_len 201 q L a3
    obtain ⟨H', hH1, hH2⟩ := updq H 12 b'
    refine k2 _ σ' g2.1 ⟨H', b, Ld, fun q' z1 z2 => ?_, x4, ?_, ?_, ?_⟩ (sg_F_t f14 FF)
    · obtain ⟨r1, r2⟩ := a2 q' z1 z2
      have n12 : ¬ q' = 12 := by omega
      have o24 : sg_g σ' 24 q' = sg_g σ14 24 q' := by rw [sg_F_ga g1 rfl, sg_F_ga f32 rfl]
      refine ⟨dR_st (H' := H') r1 V dL FF o24 (by rw [g5 q' n12, sg_F_ga f32 rfl]) (fun q'' w1 w2 => roots q'' w1 (by omega)) (hH2 _ n12) (Int.le_refl _) (by omega) (fun _ h => h), fun q'' w1 w2 => ?_⟩
      rw [hH2 _ (by omega), o24]
      exact r2 q'' w1 w2
    · rw [hH1]; exact g7
    · rw [hH1]; omega
    · rw [g4]
      refine ⟨⟨x5, ?_⟩, g6⟩
      rw [List.length_append, List.length_cons, List.length_nil]
      omega
end CHK2
