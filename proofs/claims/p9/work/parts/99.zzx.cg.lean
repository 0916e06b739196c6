/-! check of the checker a third time. -/
theorem kDl_s : ∀ (D : List aDf) (x : aDf) (ds : kD), kDl (D ++ [x]) ds = (x.1, x.2.2.1.map (·.2.2), x.2.2.2) :: kDl D ds
  | [], x, ds => rfl
  | y :: r, x, ds => by
    simp only [List.cons_append, kDl]
    exact kDl_s r x _
theorem kDl_len2 : ∀ (D : List aDf) (ds : kD), (kDl D ds).length = D.length + ds.length
  | [], ds => by simp [kDl]
  | y :: r, ds => by
    simp only [kDl, List.length_cons]
    rw [kDl_len2 r]
    simp only [List.length_cons]
    omega
/-- a DEF whose NAMES and jumps are laid out -/
def dR3 (σ : sg_S) (A : aT) (D : List aDf) (j : Nat) (x : aDf) : Prop := rsN σ A (kDl (D.take j) []) 201 (pE3 (sg_g σ 24 j) x) x.2.2.2 ∧ jpN σ A 201 x.2.2.2 (sg_g σ 31 j)
/-- all NAMES and jumps of a PROGRAM -/
def ckA3 (σ : sg_S) (A : aT) (D : List aDf) (r : Int) : Prop := (∀ (j : Nat) (x : aDf), D[j]? = some x → dR3 σ A D j x) ∧ rsN σ A (kDl D []) 201 [] r ∧ jpN σ A 201 r (sg_g σ 31 12)
/-- DEFS below d are laid out -/
def ckSt3 (A : aT) (D : List aDf) (q : Int) (σ14 : sg_S) (d : Nat) : Prop := ∃ (b p : Int) (Ld L : List Int), kS0 σ14 b p ∧ (∀ (j : Nat) (x : aDf), j < d → D[j]? = some x → dR3 σ14 A D j x ∧ kIn (sg_g σ14 6 x.2.2.2) ∧ ∃ Lj, fT A [x.2.2.2] Lj ∧ ∀ y ∈ Lj, y ∈ Ld) ∧ dsC σ14 d (kDl (D.take d) []) ∧ fT A ((aRt D ++ [q]).drop d) L ∧ (Ld ++ L).Nodup ∧ (∀ x ∈ Ld ++ L, 0 ≤ x ∧ x < A.1) ∧ b + 6 * ((D.length - d : Nat) : Int) + L.length ≤ 272 ∧ p + 5 * L.length + ((D.length - d : Nat) : Int) + 1 ≤ 1013
section CHK3
variable {σ : sg_S} {A : aT} {D : List aDf} {q : Int} {Q : Int → sg_S → Prop}
theorem dR3_st {σ' : sg_S} {j : Nat} {x : aDf} {Lj La : List Int} (h : dR3 σ A D j x) (hf : fT A [x.2.2.2] Lj) (v : kV3 σ σ' La) (hd : ∀ y ∈ Lj, y ∉ La) (h24 : sg_g σ' 24 j = sg_g σ 24 j) (h31 : sg_g σ' 31 j = sg_g σ 31 j) : dR3 σ' A D j x := by
  unfold dR3
  rw [h24, h31]
  exact ⟨rsN_st 201 _ _ Lj hf (fun y hy => (v y (hd y hy)).2.1) h.1, jpN_st 201 _ _ Lj hf (fun y hy => (v y (hd y hy)).2.2) h.2⟩
theorem d3_check (h : ckW σ A) (hD : cD2 σ D) (hW : ∀ x ∈ D, dW A x) (hV : ∀ x ∈ D, wD x) (hfr : frA A (aRt D ++ [q])) (k1 : ∀ p σ', ¬ sg_g σ' 38 13 = 0 → Q p σ') (k2 : ∀ p σ', sg_g σ' 38 13 = 0 → ckA3 σ' A D q → sg_F dfL σ σ' → Q p σ') : V_kCheck σ q Q := by
  obtain ⟨y1, y2, y3⟩ := id hD
  have hA := h.1.2
  obtain ⟨LA, hf1, hf2, hf3, -⟩ := hfr
  have hLA : LA.length ≤ 200 := ndl 200 LA hf2 (fun x hx => by have := hf3 x hx; omega)
  have hrl : (aRt D).length = D.length := by unfold aRt; rw [List.length_map]
  unfold V_kCheck
  intro σ1 e1 σ4 e4 σ7 e7 σ10 e10
  have f10 : sg_F [7028, 11038, 13038, 14038] σ σ10 := by
    rw [e10, e7, e4, e1]; exact sg_F_w (sg_F_w (sg_F_w (sg_F_w (sg_F_r _ _) rfl _) rfl _) rfl _) rfl _
  have S10 : kS0 σ10 0 0 := ⟨by rw [e10, sg_gw_k _ _ _ _ _ _ (by decide), e7, sg_gw_e _ _ _ _ (by decide)], ⟨by rw [e10, sg_gw_k _ _ _ _ _ _ (by decide), e7, sg_gw_k _ _ _ _ _ _ (by decide), e4, sg_gw_e _ _ _ _ (by decide)], by rw [e10, sg_gw_c _ _ _ _ _ _ (by decide), e7, sg_gw_c _ _ _ _ _ _ (by decide), e4, sg_gw_c _ _ _ _ _ _ (by decide), e1, sg_gw_e _ _ _ _ (by decide)]⟩, by decide, by decide⟩
  rw [y1]
  have St0 : ckSt3 A D q σ10 0 := ⟨0, 0, [], LA, S10, fun j x hj => by omega, rfl, hf1, by simpa using hf2, by simpa using hf3, by omega, by omega⟩
  -- the DEFS that may be called
  have cdq : ∀ (σ14 : sg_S) (d : Nat) (Ld La : List Int), d ≤ D.length → cD2 σ14 D → (∀ (j : Nat) (x : aDf), j < d → D[j]? = some x → dR3 σ14 A D j x ∧ kIn (sg_g σ14 6 x.2.2.2) ∧ ∃ Lj, fT A [x.2.2.2] Lj ∧ ∀ y ∈ Lj, y ∈ Ld) → (∀ x ∈ Ld, 0 ≤ x ∧ x < A.1) → (∀ x ∈ Ld, x ∉ La) → cDq σ14 A d La := fun σ14 d Ld La hd D14 a2 a5 dL q' z1 z2 => by
    have hq : q'.toNat < D.length := by omega
    obtain ⟨t1, t2, t3, t4, t5, t6⟩ := D14.2.2 q'.toNat D[q'.toNat] (List.getElem?_eq_getElem hq)
    rw [show ((q'.toNat : Nat) : Int) = q' by omega] at t3 t4 t6
    obtain ⟨-, b8, Lj, c1, c2⟩ := a2 q'.toNat D[q'.toNat] (by omega) (List.getElem?_eq_getElem hq)
    have rt := c2 D[q'.toNat].2.2.2 (fT_sub c1 _ (by simp))
    refine ⟨by omega, D[q'.toNat].2.2.1.map (·.2.2), D[q'.toNat].2.2.2, ⟨by rw [t4, List.length_map], fun j y hy => ?_, t3, by rw [List.length_map]; exact t5⟩, a5 _ rt, b8, dL _ rt⟩
    rw [List.getElem?_map] at hy
    cases hp : D[q'.toNat].2.2.1[j]? with
    | none => rw [hp] at hy; cases hy
    | some w => rw [hp] at hy; rw [(t6 j w hp).2.2]; exact Option.some.inj hy
  refine ⟨fun m v σ14 => ∃ d : Nat, v = d ∧ m = D.length - d ∧ d ≤ D.length ∧ (¬ sg_g σ14 38 13 = 0 ∨ ckSt3 A D q σ14 d), fun σ14 => ¬ sg_g σ14 38 13 = 0 ∨ ckSt3 A D q σ14 D.length, ⟨_, 0, rfl, rfl, Nat.zero_le _, Or.inr St0⟩, ?_, ?_⟩
  · rintro m v σ14 rv fr ⟨d, rfl, em, hd, hi⟩
    have fin : D.length ≤ d → ¬ sg_g σ14 38 13 = 0 ∨ ckSt3 A D q σ14 D.length := fun hdd => by
      have : d = D.length := by omega
      subst this; exact hi
    refine ⟨fun c1 => fin (by omega), fun c1 => ⟨fun c2 => fin (by omega), fun c2 => ⟨fun c3 => Or.inl c3, fun c3 => ?_⟩⟩⟩
    rcases hi with a | ⟨b, p, Ld, L, a1, a2, a8, a3, a4, a5, a6, a7⟩
    · exact absurd c3 a
    have hd2 : d < D.length := by omega
    have hx : D[d]? = some D[d] := List.getElem?_eq_getElem hd2
    have hwx := hW D[d] (List.getElem_mem hd2)
    have hvx := hV D[d] (List.getElem_mem hd2)
    have f14 : sg_F dfL σ σ14 := sg_F_t (sg_F_m f10 rfl) fr
    have D14 : cD2 σ14 D := cD2_F hD f14 rfl
    have hdr : (aRt D ++ [q]).drop d = [D[d].2.2.2] ++ (aRt D ++ [q]).drop (d + 1) := by
      have hl : d < (aRt D ++ [q]).length := by rw [List.length_append, hrl]; simp only [List.length_cons, List.length_nil]; omega
      rw [List.drop_eq_getElem_cons hl, List.getElem_append_left (by rw [hrl]; exact hd2)]
      simp only [aRt, List.getElem_map, List.singleton_append]
    rw [hdr] at a3
    obtain ⟨La, Lb, eL, fa, fb⟩ := fT_spl _ _ _ a3
    subst eL
    rw [List.length_append] at a6 a7
    have nd := List.nodup_append.mp a4
    have ndL := List.nodup_append.mp nd.2.1
    have dLa : ∀ x ∈ Ld, x ∉ La := fun x hx z => nd.2.2 x hx x (List.mem_append_left _ z) rfl
    have hLa : La.length ≤ 200 := ndl 200 La ndL.1 (fun x hx => by have := a5 x (List.mem_append_right _ (List.mem_append_left _ hx)); omega)
    have C14 : cDq σ14 A d La := cdq σ14 d Ld La hd D14 a2 (fun x hx => a5 x (List.mem_append_left _ hx)) dLa
    have hp6 := hwx.2.2
    refine d3_definition (ckW_F h f14 rfl) D14 hx hwx hvx fa ndL.1 (fun x hx => a5 x (List.mem_append_right _ (List.mem_append_left _ hx))) hLa a1 a8 C14 (by omega) (by omega) (fun σ' z _ => ⟨⟨by omega, by omega⟩, D.length - (d + 1), by omega, d + 1, by omega, rfl, by omega, Or.inl z⟩) (fun σ' b' g1 g2 g3 g0 g4 g5 g6 g7 g8 _ => ⟨⟨by omega, by omega⟩, D.length - (d + 1), by omega, d + 1, by omega, rfl, by omega, Or.inr ?_⟩)
    obtain ⟨t1, t2, t3, t4, t5, t6⟩ := D14.2.2 d D[d] hx
    have cl5 := cd_len 201 D[d].2.2.2 La fa
    have td : D.take (d + 1) = D.take d ++ [D[d]] := tkF_1 hx
    refine ⟨b', p + (cd A 201 D[d].2.2.2).length + 1, Ld ++ La, Lb, g2, fun j x hj hxj => ?_, ?_, fb, by rw [List.append_assoc]; exact a4, by rw [List.append_assoc]; exact a5, by omega, by omega⟩
    · by_cases c : j = d
      · subst c
        rw [hx] at hxj
        obtain rfl := Option.some.inj hxj
        refine ⟨⟨?_, ?_⟩, g7, La, fa, fun y hy => List.mem_append_right _ hy⟩
        · rw [g4.1]; exact g5
        · rw [g4.2.1]; exact g6
      · obtain ⟨r1, r2, Lj, r3, r4⟩ := a2 j x (by omega) hxj
        obtain ⟨o1, o2⟩ := g4.2.2 j (by omega)
        refine ⟨dR3_st r1 r3 g3 (fun y hy => dLa y (r4 y hy)) o1 o2, ?_, Lj, r3, fun y hy => List.mem_append_left _ (r4 y hy)⟩
        rw [(g3 _ (dLa _ (r4 _ (fT_sub r3 _ (by simp))))).1]
        exact r2
    · rw [td, kDl_s]
      refine ⟨by omega, ?_, hvx.1.1, ⟨?_, fun j y hy => ?_, ?_, ?_⟩, g8, ?_⟩
      · rw [show ((d + 1 : Nat) : Int) - 1 = d by omega, sg_F_gal g1 rfl]; exact t1
      · rw [show ((d + 1 : Nat) : Int) - 1 = d by omega, sg_F_ga g1 rfl, t4]; simp
      · rw [show ((d + 1 : Nat) : Int) - 1 = d by omega, sg_F_ga g1 rfl]
        simp only at hy
        rw [List.getElem?_map] at hy
        cases hp : D[d].2.2.1[j]? with
        | none => rw [hp] at hy; cases hy
        | some w => rw [hp] at hy; rw [(t6 j w hp).2.2]; exact Option.some.inj hy
      · rw [show ((d + 1 : Nat) : Int) - 1 = d by omega, sg_F_ga g1 rfl]; exact t3
      · simp only [List.length_map]; exact t5
      · rw [show ((d + 1 : Nat) : Int) - 1 = d by omega]
        exact dsC_F g1 rfl a8
  · intro σ14 fr hi
    rcases hi with a | ⟨b, p, Ld, L, a1, a2, a8, a3, a4, a5, a6, a7⟩
    · exact ⟨fun _ => k1 _ σ14 a, fun z => absurd z a⟩
    refine ⟨fun z => absurd a1.1 z, fun _ σ29 e29 σ32 e32 => ?_⟩
    have f14 : sg_F dfL σ σ14 := sg_F_t (sg_F_m f10 rfl) fr
    have D14 : cD2 σ14 D := cD2_F hD f14 rfl
    have f32 : sg_F [10038, 12038] σ14 σ32 := by rw [e32, e29]; exact sg_F_w (sg_F_w (sg_F_r _ _) rfl _) rfl _
    have k9 : sg_g σ32 38 9 = 0 := by rw [e32, sg_gw_k _ _ _ _ _ _ (by decide), e29, sg_gw_e _ _ _ _ (by decide)]
    have cl : sg_g σ32 38 11 = D.length := by rw [e32, sg_gw_e _ _ _ _ ⟨by omega, by omega⟩]
    rw [← hrl, List.drop_left] at a3
    have nd := List.nodup_append.mp a4
    have dL : ∀ x ∈ Ld, x ∉ L := fun x hx z => nd.2.2 x hx x z rfl
    have hL : L.length ≤ 200 := ndl 200 L nd.2.1 (fun x hx => by have := a5 x (List.mem_append_right _ hx); omega)
    obtain ⟨x1, ⟨x2, x3⟩, x4, x5⟩ := a1
    have S32 : kS3 σ32 [] 0 b p := ⟨by rw [sg_F_g f32 (by rfl)]; exact x1, ⟨k9, by rw [sg_F_g f32 (by rfl)]; exact x2, by rw [sg_F_g f32 (by rfl)]; exact x3⟩, rfl, by decide, x4, x5⟩
    rw [List.take_of_length_le (Nat.le_refl _)] at a8
    have C14 := cdq σ14 D.length Ld L (Nat.le_refl _) D14 a2 (fun x hx => a5 x (List.mem_append_left _ hx)) dL
    have C32 : cDq σ32 A D.length L := fun q' z1 z2 => by
      obtain ⟨w0, ps', r, w1, w2, w3, w4⟩ := C14 q' z1 z2
      exact ⟨w0, ps', r, dcQ_F w1 f32 rfl, w2, by rw [sg_F_ga f32 rfl]; exact w3, w4⟩
    rw [Nat.sub_self] at a6 a7
    have dl : (kDl D []).length ≤ 12 := by rw [kDl_len2]; simp only [List.length_nil]; omega
    refine d3_walk (ds := kDl D []) (ckW_F (ckW_F h f14 rfl) f32 rfl) a3 nd.2.1 (fun x hx => a5 x (List.mem_append_right _ hx)) hL ⟨by decide, by decide⟩ S32 (fun s hs => by simp at hs) cl (dsC_F f32 rfl a8) dl C32 (by omega) (by omega) (by omega) (fun σ' z _ => k1 _ σ' z) (fun σ' b' g1 g2 g3 g0 g4 g5 g6 g7 g8 _ => ?_)
    have FF : sg_F dfL σ14 σ' := sg_F_t (sg_F_m f32 rfl) (sg_F_m g1 rfl)
    have V : kV3 σ14 σ' L := fun y hy => by
      obtain ⟨⟨r1, r2, r3, r4⟩, -⟩ := g3.1 y hy
      exact ⟨by rw [r1, sg_F_ga f32 rfl], by rw [r2, sg_F_ga f32 rfl], by rw [r3, sg_F_ga f32 rfl], by rw [r4, sg_F_ga f32 rfl]⟩
    refine k2 _ σ' g2.1 ⟨fun j x hxj => ?_, g6, by rw [g4]; exact g7⟩ (sg_F_t f14 FF)
    have hj := gE_l hxj
    obtain ⟨r1, r2, Lj, r3, r4⟩ := a2 j x hj hxj
    refine dR3_st r1 r3 V (fun y hy => dL y (r4 y hy)) ?_ ?_
    · rw [sg_F_ga g1 rfl, sg_F_ga f32 rfl]
    · rw [g5 _ (by omega), sg_F_ga f32 rfl]
end CHK3
/-- what is laid out stays while its rows stay -/
theorem rsN_c {σ σ' : sg_S} {A : aT} {ds : kD} (e : ∀ k, sg_g σ' 16 k = sg_g σ 16 k) : ∀ (f : Nat) (es : kE) (n : Int), rsN σ A ds f es n → rsN σ' A ds f es n
  | 0, _, _, h => h
  | f + 1, es, n, h => by
    have go : ∀ (R : List Int) (s : Nat) (es : kE), rsS σ A (rsN σ A ds f) n s es R → rsS σ' A (rsN σ' A ds f) n s es R := fun R => by
      induction R with
      | nil => exact fun _ _ _ => True.intro
      | cons x R ih =>
        intro s es hh
        simp only [rsS] at hh ⊢
        rw [e n]
        exact ⟨rsN_c e f _ _ hh.1, ih _ _ hh.2⟩
    exact ⟨fun z => by rw [e]; exact h.1 z, fun z => by rw [e]; exact h.2.1 z, go _ _ _ h.2.2⟩
theorem jpN_c {σ σ' : sg_S} {A : aT} (e : ∀ k, sg_g σ' 32 k = sg_g σ 32 k ∧ sg_g σ' 33 k = sg_g σ 33 k) : ∀ (f : Nat) (n p : Int), jpN σ A f n p → jpN σ' A f n p
  | 0, _, _, h => h
  | f + 1, n, p, h => by
    have go : ∀ (R : List Int) (s : Nat) (p : Int), jpS σ A f (jpN σ A f) n s p R → jpS σ' A f (jpN σ' A f) n s p R := fun R => by
      induction R with
      | nil => exact fun _ _ _ => True.intro
      | cons x R ih =>
        intro s p hh
        simp only [jpS] at hh ⊢
        rw [(e n).1]
        exact ⟨hh.1, jpN_c e f _ _ hh.2.1, ih _ _ hh.2.2⟩
    exact ⟨go _ _ _ h.1, fun z => by rw [(e n).2]; exact h.2.1 z, fun z => by rw [(e n).2]; exact h.2.2 z⟩
theorem ckA3_F {L : List Nat} {σ σ' : sg_S} {A : aT} {D : List aDf} {r : Int} (h : ckA3 σ A D r) (f : sg_F L σ σ') (hL : (sg_ca L 16 && sg_ca L 24 && sg_ca L 31 && sg_ca L 32 && sg_ca L 33) = true) : ckA3 σ' A D r := by
  simp only [Bool.and_eq_true] at hL
  obtain ⟨⟨⟨⟨l1, l2⟩, l3⟩, l4⟩, l5⟩ := hL
  refine ⟨fun j x hx => ?_, rsN_c (fun k => sg_F_ga f l1) _ _ _ h.2.1, ?_⟩
  · unfold dR3
    rw [sg_F_ga f l2, sg_F_ga f l3]
    exact ⟨rsN_c (fun k => sg_F_ga f l1) _ _ _ (h.1 j x hx).1, jpN_c (fun k => ⟨sg_F_ga f l4, sg_F_ga f l5⟩) _ _ _ (h.1 j x hx).2⟩
  · rw [sg_F_ga f l3]
    exact jpN_c (fun k => ⟨sg_F_ga f l4, sg_F_ga f l5⟩) _ _ _ h.2.2
