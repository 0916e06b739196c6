/-! check of the checker a third time. -/
theorem kDl_s : ∀ (D : List aDf) (x : aDf) (ds : kD), kDl (D ++ [x]) ds = (x.1, x.2.2.1.map (·.2.2), x.2.2.2) :: kDl D ds
  | [], x, ds => rfl
  | y :: r, x, ds => by
    simp only [List.cons_append, kDl]
    exact kDl_s r x _
theorem kDl_len2 : ∀ (D : List aDf) (ds : kD), (kDl D ds).length = D.length + ds.length
  | [], ds => by simp [kDl]
  | y :: r, ds => by
    simp only [kDl, List.length_cons]
    rw [kDl_len2 r]
    simp only [List.length_cons]
    omega
/-- a DEF whose NAMES and jumps are laid out -/
def dR3 (σ : sg_S) (A : aT) (D : List aDf) (j : Nat) (x : aDf) : Prop := rsN σ A (kDl (D.take j) []) 201 (pE3 (sg_g σ 24 j) x) x.2.2.2 ∧ jpN σ A 201 x.2.2.2 (sg_g σ 31 j)
/-- all NAMES and jumps of a PROGRAM -/
def ckA3 (σ : sg_S) (A : aT) (D : List aDf) (r : Int) : Prop := (∀ (j : Nat) (x : aDf), D[j]? = some x → dR3 σ A D j x) ∧ rsN σ A (kDl D []) 201 [] r ∧ jpN σ A 201 r (sg_g σ 31 12)
/-- DEFS below d are laid out -/
def ckSt3 (A : aT) (D : List aDf) (q : Int) (σ14 : sg_S) (d : Nat) : Prop := ∃ (b p : Int) (Ld L : List Int), kS0 σ14 b p ∧ (∀ (j : Nat) (x : aDf), j < d → D[j]? = some x → dR3 σ14 A D j x ∧ kIn (sg_g σ14 6 x.2.2.2) ∧ ∃ Lj, fT A [x.2.2.2] Lj ∧ ∀ y ∈ Lj, y ∈ Ld) ∧ dsC σ14 d (kDl (D.take d) []) ∧ fT A ((aRt D ++ [q]).drop d) L ∧ (Ld ++ L).Nodup ∧ (∀ x ∈ Ld ++ L, 0 ≤ x ∧ x < A.1) ∧ b + 6 * ((D.length - d : Nat) : Int) + L.length ≤ 272 ∧ p + 5 * L.length + ((D.length - d : Nat) : Int) + 1 ≤ 1013
section CHK3
variable {σ : sg_S} {A : aT} {D : List aDf} {q : Int} {Q : Int → sg_S → Prop}
theorem dR3_st {σ' : sg_S} {j : Nat} {x : aDf} {Lj La : List Int} (h : dR3 σ A D j x) (hf : fT A [x.2.2.2] Lj) (v : kV3 σ σ' La) (hd : ∀ y ∈ Lj, y ∉ La) (h24 : sg_g σ' 24 j = sg_g σ 24 j) (h31 : sg_g σ' 31 j = sg_g σ 31 j) : dR3 σ' A D j x := by
  unfold dR3
  rw [h24, h31]
  exact ⟨rsN_st 201 _ _ Lj hf (fun y hy => (v y (hd y hy)).2.1) h.1, jpN_st 201 _ _ Lj hf (fun y hy => (v y (hd y hy)).2.2) h.2⟩
theorem d3_check (h : ckW σ A) (hD : cD2 σ D) (hW : ∀ x ∈ D, dW A x) (hV : ∀ x ∈ D, wD x) (hfr : frA A (aRt D ++ [q])) (k1 : ∀ p σ', ¬ sg_g σ' 38 13 = 0 → Q p σ') (k2 : ∀ p σ', sg_g σ' 38 13 = 0 → ckA3 σ' A D q → sg_F dfL σ σ' → Q p σ') : V_kCheck σ q Q := by
  obtain ⟨y1, y2, y3⟩ := id hD
  have hA := h.1.2
  obtain ⟨LA, hf1, hf2, hf3, -⟩ := hfr
  have hLA : LA.length ≤ 200 := ndl 200 LA hf2 (fun x hx => by have := hf3 x hx; omega)
  have hrl : (aRt D).length = D.length := by unfold aRt; rw [List.length_map]
  unfold V_kCheck
  intro σ1 e1 σ4 e4 σ7 e7 σ10 e10
  have f10 : sg_F [7028, 11038, 13038, 14038] σ σ10 := by
    rw [e10, e7, e4, e1]; exact sg_F_w (sg_F_w (sg_F_w (sg_F_w (sg_F_r _ _) rfl _) rfl _) rfl _) rfl _
  have S10 : kS0 σ10 0 0 := ⟨by rw [e10, sg_gw_k _ _ _ _ _ _ (by decide), e7, sg_gw_e _ _ _ _ (by decide)], ⟨by rw [e10, sg_gw_k _ _ _ _ _ _ (by decide), e7, sg_gw_k _ _ _ _ _ _ (by decide), e4, sg_gw_e _ _ _ _ (by decide)], by rw [e10, sg_gw_c _ _ _ _ _ _ (by decide), e7, sg_gw_c _ _ _ _ _ _ (by decide), e4, sg_gw_c _ _ _ _ _ _ (by decide), e1, sg_gw_e _ _ _ _ (by decide)]⟩, by decide, by decide⟩
  rw [y1]
  have St0 : ckSt3 A D q σ10 0 := ⟨0, 0, [], LA, S10, fun j x hj => by omega, rfl, hf1, by simpa using hf2, by simpa using hf3, by omega, by omega⟩
  -- the DEFS that may be called
  have cdq : ∀ (σ14 : sg_S) (d : Nat) (Ld La : List Int), d ≤ D.length → cD2 σ14 D → (∀ (j : Nat) (x : aDf), j < d → D[j]? = some x → dR3 σ14 A D j x ∧ kIn (sg_g σ14 6 x.2.2.2) ∧ ∃ Lj, fT A [x.2.2.2] Lj ∧ ∀ y ∈ Lj, y ∈ Ld) → (∀ x ∈ Ld, 0 ≤ x ∧ x < A.1) → (∀ x ∈ Ld, x ∉ La) → cDq σ14 A d La := fun σ14 d Ld La hd D14 a2 a5 dL q' z1 z2 => by
    have hq : q'.toNat < D.length := by omega
    obtain ⟨t1, t2, t3, t4, t5, t6⟩ := D14.2.2 q'.toNat D[q'.toNat] (List.getElem?_eq_getElem hq)
    rw [show ((q'.toNat : Nat) : Int) = q' by omega] at t3 t4 t6
    obtain ⟨-, b8, Lj, c1, c2⟩ := a2 q'.toNat D[q'.toNat] (by omega) (List.getElem?_eq_getElem hq)
    have rt := c2 D[q'.toNat].2.2.2 (fT_sub c1 _ (by simp))
    refine ⟨by omega, D[q'.toNat].2.2.1.map (·.2.2), D[q'.toNat].2.2.2, ⟨by rw [t4, List.length_map], fun j y hy => ?_, t3, by rw [List.length_map]; exact t5⟩, a5 _ rt, b8, dL _ rt⟩
    rw [List.getElem?_map] at hy
    cases hp : D[q'.toNat].2.2.1[j]? with
    | none => rw [hp] at hy; cases hy
    | some w => rw [hp] at hy; rw [(t6 j w hp).2.2]; exact Option.some.inj hy
  refine ⟨fun m v σ14 => ∃ d : Nat, v = d ∧ m = D.length - d ∧ d ≤ D.length ∧ (¬ sg_g σ14 38 13 = 0 ∨ ckSt3 A D q σ14 d), fun σ14 => ¬ sg_g σ14 38 13 = 0 ∨ ckSt3 A D q σ14 D.length, ⟨_, 0, rfl, rfl, Nat.zero_le _, Or.inr St0⟩, ?_, ?_⟩
  · rintro m v σ14 rv fr ⟨d, rfl, em, hd, hi⟩
    have fin : D.length ≤ d → ¬ sg_g σ14 38 13 = 0 ∨ ckSt3 A D q σ14 D.length := fun hdd => by
      have : d = D.length := by omega
      subst this; exact hi
    refine ⟨fun c1 => fin (by omega), fun c1 => ⟨fun c2 => fin (by omega), fun c2 => ⟨fun c3 => Or.inl c3, fun c3 => ?_⟩⟩⟩
    rcases hi with a | ⟨b, p, Ld, L, a1, a2, a8, a3, a4, a5, a6, a7⟩
    · exact absurd c3 a
    have hd2 : d < D.length := by omega
    have hx : D[d]? = some D[d] := List.getElem?_eq_getElem hd2
    have hwx := hW D[d] (List.getElem_mem hd2)
    have hvx := hV D[d] (List.getElem_mem hd2)
    have f14 : sg_F dfL σ σ14 := sg_F_t (sg_F_m f10 rfl) fr
    have D14 : cD2 σ14 D := cD2_F hD f14 rfl
    have hdr : (aRt D ++ [q]).drop d = [D[d].2.2.2] ++ (aRt D ++ [q]).drop (d + 1) := by
      have hl : d < (aRt D ++ [q]).length := by rw [List.length_append, hrl]; simp only [List.length_cons, List.length_nil]; omega
      rw [List.drop_eq_getElem_cons hl, List.getElem_append_left (by rw [hrl]; exact hd2)]
      simp only [aRt, List.getElem_map, List.singleton_append]
    rw [hdr] at a3
    obtain ⟨La, Lb, eL, fa, fb⟩ := fT_spl _ _ _ a3
    subst eL
    rw [List.length_append] at a6 a7
    have nd := List.nodup_append.mp a4
    have ndL := List.nodup_append.mp nd.2.1
    have dLa : ∀ x ∈ Ld, x ∉ La := fun x hx z => nd.2.2 x hx x (List.mem_append_left _ z) rfl
    have hLa : La.length ≤ 200 := ndl 200 La ndL.1 (fun x hx => by have := a5 x (List.mem_append_right _ (List.mem_append_left _ hx)); omega)
    have C14 : cDq σ14 A d La := cdq σ14 d Ld La hd D14 a2 (fun x hx => a5 x (List.mem_append_left _ hx)) dLa
    have hp6 := hwx.2.2
    refine d3_definition (ckW_F h f14 rfl) D14 hx hwx hvx fa ndL.1 (fun x hx => a5 x (List.mem_append_right _ (List.mem_append_left _ hx))) hLa a1 a8 C14 (by omega) (by omega) (fun σ' z _ => ⟨⟨by omega, by omega⟩, D.length - (d + 1), by omega, d + 1, by omega, rfl, by omega, Or.inl z⟩) (fun σ' b' g1 g2 g3 g0 g4 g5 g6 g7 g8 _ => ⟨⟨by omega, by omega⟩, D.length - (d + 1), by omega, d + 1, by omega, rfl, by omega, Or.inr ?_⟩)
    obtain ⟨t1, t2, t3, t4, t5, t6⟩ := D14.2.2 d D[d] hx
    have cl5 := cd_len 201 D[d].2.2.2 La fa
    have td : D.take (d + 1) = D.take d ++ [D[d]] := tkF_1 hx
    refine ⟨b', p + (cd A 201 D[d].2.2.2).length + 1, Ld ++ La, Lb, g2, fun j x hj hxj => ?_, ?_, fb, by rw [List.append_assoc]; exact a4, by rw [List.append_assoc]; exact a5, by omega, by omega⟩
    · by_cases c : j = d
      · subst c
        rw [hx] at hxj
        obtain rfl := Option.some.inj hxj
        refine ⟨⟨?_, ?_⟩, g7, La, fa, fun y hy => List.mem_append_right _ hy⟩
        · rw [g4.1]; exact g5
        · rw [g4.2.1]; exact g6
      · obtain ⟨r1, r2, Lj, r3, r4⟩ := a2 j x (by omega) hxj
        obtain ⟨o1, o2⟩ := g4.2.2 j (by omega)
        refine ⟨dR3_st r1 r3 g3 (fun y hy => dLa y (r4 y hy)) o1 o2, ?_, Lj, r3, fun y hy => List.mem_append_left _ (r4 y hy)⟩
        rw [(g3 _ (dLa _ (r4 _ (fT_sub r3 _ (by simp))))).1]
        exact r2
    · rw [td, kDl_s]
      refine ⟨by omega, ?_, hvx.1.1, ⟨?_, fun j y hy => ?_, ?_, ?_⟩, g8, ?_⟩
      · rw [show ((d + 1 : Nat) : Int) - 1 = d by omega, sg_F_gal g1 rfl]; exact t1
      · rw [show ((d + 1 : Nat) : Int) - 1 = d by omega, sg_F_ga g1 rfl, t4]; simp
      · rw [show ((d + 1 : Nat) : Int) - 1 = d by omega, sg_F_ga g1 rfl]
        simp only at hy
        rw [List.getElem?_map] at hy
        cases hp : D[d].2.2.1[j]? with
        | none => rw [hp] at hy; cases hy
        | some w => rw [hp] at hy; rw [(t6 j w hp).2.2]; exact Option.some.inj hy
      · rw [show ((d + 1 : Nat) : Int) - 1 = d by omega, sg_F_ga g1 rfl]; exact t3
      · simp only [List.length_map]; exact t5
      · rw [show ((d + 1 : Nat) : Int) - 1 = d by omega]
        exact dsC_F g1 rfl a8
  · intro σ14 fr hi
    rcases hi with a | ⟨b, p, Ld, L, a1, a2, a8, a3, a4, a5, a6, a7⟩
    · exact ⟨fun _ => k1 _ σ14 a, fun z => absurd z a⟩
    refine ⟨fun z => absurd a1.1 z, fun _ σ29 e29 σ32 e32 => ?_⟩
    have f14 : sg_F dfL σ σ14 := sg_F_t (sg_F_m f10 rfl) fr
    have D14 : cD2 σ14 D := cD2_F hD f14 rfl
    have f32 : sg_F [10038, 12038] σ14 σ32 := by rw [e32, e29]; exact sg_F_w (sg_F_w (sg_F_r _ _) rfl _) rfl _
    have k9 : sg_g σ32 38 9 = 0 := by rw [e32, sg_gw_k _ _ _ _ _ _ (by decide), e29, sg_gw_e _ _ _ _ (by decide)]
    have cl : sg_g σ32 38 11 = D.length := by rw [e32, sg_gw_e _ _ _ _ ⟨by omega, by omega⟩]
    rw [← hrl, List.drop_left] at a3
    have nd := List.nodup_append.mp a4
    have dL : ∀ x ∈ Ld, x ∉ L := fun x hx z => nd.2.2 x hx x z rfl
    have hL : L.length ≤ 200 := ndl 200 L nd.2.1 (fun x hx => by have := a5 x (List.mem_append_right _ hx); omega)
    obtain ⟨x1, ⟨x2, x3⟩, x4, x5⟩ := a1
    have S32 : kS3 σ32 [] 0 b p := ⟨by rw [sg_F_g f32 (by rfl)]; exact x1, ⟨k9, by rw [sg_F_g f32 (by rfl)]; exact x2, by rw [sg_F_g f32 (by rfl)]; exact x3⟩, rfl, by decide, x4, x5⟩
    rw [List.take_of_length_le (Nat.le_refl _)] at a8
    have C14 := cdq σ14 D.length Ld L (Nat.le_refl _) D14 a2 (fun x hx => a5 x (List.mem_append_left _ hx)) dL
    have C32 : cDq σ32 A D.length L := fun q' z1 z2 => by
      obtain ⟨w0, ps', r, w1, w2, w3, w4⟩ := C14 q' z1 z2
      exact ⟨w0, ps', r, dcQ_F w1 f32 rfl, w2, by rw [sg_F_ga f32 rfl]; exact w3, w4⟩
    rw [Nat.sub_self] at a6 a7
    have dl : (kDl D []).length ≤ 12 := by rw [kDl_len2]; simp only [List.length_nil]; omega
    refine d3_walk (ds := kDl D []) (ckW_F (ckW_F h f14 rfl) f32 rfl) a3 nd.2.1 (fun x hx => a5 x (List.mem_append_right _ hx)) hL ⟨by decide, by decide⟩ S32 (fun s hs => by simp at hs) cl (dsC_F f32 rfl a8) dl C32 (by omega) (by omega) (by omega) (fun σ' z _ => k1 _ σ' z) (fun σ' b' g1 g2 g3 g0 g4 g5 g6 g7 g8 _ => ?_)
    have FF : sg_F dfL σ14 σ' := sg_F_t (sg_F_m f32 rfl) (sg_F_m g1 rfl)
    have V : kV3 σ14 σ' L := fun y hy => by
      obtain ⟨⟨r1, r2, r3, r4⟩, -⟩ := g3.1 y hy
      exact ⟨by rw [r1, sg_F_ga f32 rfl], by rw [r2, sg_F_ga f32 rfl], by rw [r3, sg_F_ga f32 rfl], by rw [r4, sg_F_ga f32 rfl]⟩
    refine k2 _ σ' g2.1 ⟨fun j x hxj => ?_, g6, by rw [g4]; exact g7⟩ (sg_F_t f14 FF)
    have hj := gE_l hxj
    obtain ⟨r1, r2, Lj, r3, r4⟩ := a2 j x hj hxj
    refine dR3_st r1 r3 V (fun y hy => dL y (r4 y hy)) ?_ ?_
    · rw [sg_F_ga g1 rfl, sg_F_ga f32 rfl]
    · rw [g5 _ (by omega), sg_F_ga f32 rfl]
end CHK3
/-- what is laid out stays while its rows stay -/
theorem rsN_c {σ σ' : sg_S} {A : aT} {ds : kD} (e : ∀ k, sg_g σ' 16 k = sg_g σ 16 k) : ∀ (f : Nat) (es : kE) (n : Int), rsN σ A ds f es n → rsN σ' A ds f es n
  | 0, _, _, h => h
  | f + 1, es, n, h => by
    have go : ∀ (R : List Int) (s : Nat) (es : kE), rsS σ A (rsN σ A ds f) n s es R → rsS σ' A (rsN σ' A ds f) n s es R := fun R => by
      induction R with
      | nil => exact fun _ _ _ => True.intro
      | cons x R ih =>
        intro s es hh
        simp only [rsS] at hh ⊢
        rw [e n]
        exact ⟨rsN_c e f _ _ hh.1, ih _ _ hh.2⟩
    exact ⟨fun z => by rw [e]; exact h.1 z, fun z => by rw [e]; exact h.2.1 z, go _ _ _ h.2.2⟩
theorem jpN_c {σ σ' : sg_S} {A : aT} (e : ∀ k, sg_g σ' 32 k = sg_g σ 32 k ∧ sg_g σ' 33 k = sg_g σ 33 k) : ∀ (f : Nat) (n p : Int), jpN σ A f n p → jpN σ' A f n p
  | 0, _, _, h => h
  | f + 1, n, p, h => by
    have go : ∀ (R : List Int) (s : Nat) (p : Int), jpS σ A f (jpN σ A f) n s p R → jpS σ' A f (jpN σ' A f) n s p R := fun R => by
      induction R with
      | nil => exact fun _ _ _ => True.intro
      | cons x R ih =>
        intro s p hh
        simp only [jpS] at hh ⊢
        rw [(e n).1]
        exact ⟨hh.1, jpN_c e f _ _ hh.2.1, ih _ _ hh.2.2⟩
    exact ⟨go _ _ _ h.1, fun z => by rw [(e n).2]; exact h.2.1 z, fun z => by rw [(e n).2]; exact h.2.2 z⟩
theorem ckA3_F {L : List Nat} {σ σ' : sg_S} {A : aT} {D : List aDf} {r : Int} (h : ckA3 σ A D r) (f : sg_F L σ σ') (hL : (sg_ca L 16 && sg_ca L 24 && sg_ca L 31 && sg_ca L 32 && sg_ca L 33) = true) : ckA3 σ' A D r := by
  simp only [Bool.and_eq_true] at hL
  obtain ⟨⟨⟨⟨l1, l2⟩, l3⟩, l4⟩, l5⟩ := hL
  refine ⟨fun j x hx => ?_, rsN_c (fun k => sg_F_ga f l1) _ _ _ h.2.1, ?_⟩
  · unfold dR3
    rw [sg_F_ga f l2, sg_F_ga f l3]
    exact ⟨rsN_c (fun k => sg_F_ga f l1) _ _ _ (h.1 j x hx).1, jpN_c (fun k => ⟨sg_F_ga f l4, sg_F_ga f l5⟩) _ _ _ (h.1 j x hx).2⟩
  · rw [sg_F_ga f l3]
    exact jpN_c (fun k => ⟨sg_F_ga f l4, sg_F_ga f l5⟩) _ _ _ h.2.2
/-! NAMES: the slot that the class finds is that of the binder that the reference finds. -/
/-- binders as slots -/
def mS (σ : sg_S) (eb : kE) : kE := eb.map (fun p => (p.1, slF σ p.2))
theorem mS_f {σ : sg_S} {w s : Int} : ∀ {eb : kE}, kFind (mS σ eb) w = some s → ∃ b, kFind eb w = some b ∧ slF σ b = s
  | [], h => by cases h
  | x :: r, h => by
    simp only [mS, List.map_cons] at h
    unfold kFind at h ⊢
    simp only at h
    by_cases c : x.1 = w
    · rw [if_pos c] at h
      rw [if_pos c]
      exact ⟨x.2, rfl, Option.some.inj h⟩
    · rw [if_neg c] at h
      rw [if_neg c]
      exact mS_f (eb := r) h
theorem sl_l {σ : sg_S} {n : Int} (h : n < 210) : slF σ n = sg_g σ 16 n := by unfold slF; rw [if_pos h]
theorem sl_g {σ : sg_S} {n : Int} {j : Nat} (h : 0 ≤ n ∧ n < 210) (hj : j < 4) : slF σ (210 + 4 * n + j) = sg_g σ 16 n + j := by
  unfold slF
  rw [if_neg (by omega), if_pos (by omega), show (210 + 4 * n + (j : Int) - 210) / 4 = n by omega, show (210 + 4 * n + (j : Int) - 210) % 4 = j by omega]
theorem sl_p {σ : sg_S} {q : Int} {j : Nat} (h : 0 ≤ q) (hj : j < 6) : slF σ (1100 + 6 * q + j) = sg_g σ 24 q + j := by
  unfold slF
  rw [if_neg (by omega), if_neg (by omega), show (1100 + 6 * q + (j : Int) - 1100) / 6 = q by omega, show (1100 + 6 * q + (j : Int) - 1100) % 6 = j by omega]
theorem mS_g {σ : sg_S} {n : Int} (hn : 0 ≤ n ∧ n < 210) : ∀ (g : List (Int × Int)) (j : Nat) (eb : kE), j + g.length ≤ 4 → mS σ (kGb n j g eb) = gP (sg_g σ 16 n + j) g (mS σ eb)
  | [], j, eb, h => rfl
  | x :: r, j, eb, h => by
    simp only [List.length_cons] at h
    simp only [kGb, gP]
    rw [mS_g hn r (j + 1) _ (by omega)]
    simp only [mS, List.map_cons]
    rw [sl_g hn (by omega), show sg_g σ 16 n + ((j + 1 : Nat) : Int) = sg_g σ 16 n + j + 1 by omega]
theorem mS_p {σ : sg_S} {q : Int} (hq : 0 ≤ q) : ∀ (ps : List (Int × Int × Int)) (j : Nat) (eb : kE), j + ps.length ≤ 6 → mS σ (kPb q j ps eb) = gP (sg_g σ 24 q + j) (ps.map (fun p => (p.1, p.2.1))) (mS σ eb)
  | [], j, eb, h => rfl
  | x :: r, j, eb, h => by
    simp only [List.length_cons] at h
    simp only [kPb, gP, List.map_cons]
    rw [mS_p hq r (j + 1) _ (by omega)]
    simp only [mS, List.map_cons]
    rw [sl_p hq (by omega), show sg_g σ 24 q + ((j + 1 : Nat) : Int) = sg_g σ 24 q + j + 1 by omega]
theorem rsS_app {σ : sg_S} {A : aT} {go : kE → Int → Prop} {n : Int} {es : kE} : ∀ (R R' : List Int) (s : Nat), (∀ j, s ≤ j → j < s + R.length → kNo A n j) → rsS σ A go n s es (R ++ R') → (∀ x ∈ R, go es x) ∧ rsS σ A go n (s + R.length) es R'
  | [], R', s, _, h => ⟨fun x hx => by simp at hx, h⟩
  | x :: R, R', s, hk, h => by
    simp only [List.cons_append, rsS] at h
    rw [eA3_no (hk s (Nat.le_refl _) (by simp))] at h
    obtain ⟨k1, k2⟩ := rsS_app R R' (s + 1) (fun j a b => hk j (by omega) (by simp only [List.length_cons]; omega)) h.2
    refine ⟨fun y hy => ?_, ?_⟩
    · rcases List.mem_cons.mp hy with q | q
      · rw [q]; exact h.1
      · exact k1 y q
    · rw [List.length_cons, show s + (R.length + 1) = s + 1 + R.length by omega]
      exact k2
/-- what is told of a NAME and of a call -/
def nmQ (σ : sg_S) (A : aT) (ds : kD) (B : Int → Int) (x : Int) : Prop := (A.2.1 x = 1 → sg_g σ 16 x = slF σ (B x)) ∧ (A.2.1 x = 13 → kDx ds (A.2.2.2.1 x) = some (B x) ∧ sg_g σ 16 x = B x)
theorem bo_row {σ : sg_S} {A : aT} {ds : kD} {f : Nat} {B2 : Int → Int} {es eb : kE} (ih : ∀ (eb : kE) (n : Int) (B : Int → Int) (L : List Int), fT A [n] L → L.Nodup → (∀ x ∈ L, 0 ≤ x ∧ x < 200) → rsN σ A ds f (mS σ eb) n → (∀ x ∈ L, B2 x = kBo A ds f eb n B x) → ∀ x ∈ L, nmQ σ A ds B2 x) (he : es = mS σ eb) : ∀ (R L : List Int) (B : Int → Int), fT A R L → L.Nodup → (∀ x ∈ L, 0 ≤ x ∧ x < 200) → (∀ x ∈ R, rsN σ A ds f es x) → (∀ x ∈ L, B2 x = kBoR (kBo A ds f) eb R B x) → ∀ x ∈ L, nmQ σ A ds B2 x
  | [], L, B, hf, hN, hr, h, hB, x, hx => by
    rw [fT_nil hf] at hx
    simp at hx
  | y :: R, L, B, hf, hN, hr, h, hB, x, hx => by
    obtain ⟨L1, L2, e1, w1, w2, w3⟩ := fT_inv hf
    subst e1
    have i1 : ∀ z, z ∈ y :: L1 → z ∈ y :: (L1 ++ L2) := fun z hz => by rw [← List.cons_append]; exact List.mem_append_left _ hz
    have i2 : ∀ z, z ∈ L2 → z ∈ y :: (L1 ++ L2) := fun z hz => by rw [← List.cons_append]; exact List.mem_append_right _ hz
    have nd : ((y :: L1) ++ L2).Nodup := by rw [List.cons_append]; exact hN
    have nd' := List.nodup_append.mp nd
    have hx' : x ∈ (y :: L1) ++ L2 := by rw [List.cons_append]; exact hx
    simp only [kBoR] at hB
    rcases List.mem_append.mp hx' with q | q
    · refine ih eb y B (y :: L1) (fT_one w1 w2) nd'.1 (fun z hz => hr z (i1 z hz)) (by rw [← he]; exact h y (by simp)) (fun z hz => ?_) x q
      rw [hB z (i1 z hz)]
      exact kBoR_fr (A := A) (fun eb n B L g => kBo_fr A ds f eb n B L g) eb R L2 _ w3 z (fun g => nd'.2.2 z hz z g rfl)
    · exact bo_row ih he R L2 (kBo A ds f eb y B) w3 nd'.2.1 (fun z hz => hr z (i2 z hz)) (fun z hz => h z (by simp [hz])) (fun z hz => hB z (i2 z hz)) x q
theorem bo_all {σ : sg_S} {A : aT} {ds : kD} {B2 : Int → Int} : ∀ (f : Nat) (eb : kE) (n : Int) (B : Int → Int) (L : List Int), fT A [n] L → L.Nodup → (∀ x ∈ L, 0 ≤ x ∧ x < 200) → rsN σ A ds f (mS σ eb) n → (∀ x ∈ L, B2 x = kBo A ds f eb n B x) → ∀ x ∈ L, nmQ σ A ds B2 x
  | 0, eb, n, B, L, hf, hN, hr, h, hB, x, hx => h.elim
  | f + 1, eb, n, B, L, hf, hN, hr, h, hB, x, hx => by
    obtain ⟨L1, L2, e1, w1, w2, w3⟩ := fT_inv hf
    have e2 := fT_nil w3
    subst e2
    rw [List.append_nil] at e1
    subst e1
    have hnL := (List.nodup_cons.mp hN).1
    have hN1 := (List.nodup_cons.mp hN).2
    have hn := hr n (by simp)
    have hr1 : ∀ x ∈ L1, 0 ≤ x ∧ x < 200 := fun z hz => hr z (List.mem_cons_of_mem _ hz)
    obtain ⟨r1, r2, r3⟩ := h
    have ih := bo_all (σ := σ) (A := A) (ds := ds) (B2 := B2) f
    rcases List.mem_cons.mp hx with q | q
    · subst q
      have b0 := hB x (by simp)
      unfold kBo kUp at b0
      refine ⟨fun k1 => ?_, fun k13 => ?_⟩
      · obtain ⟨b, hb1, hb2⟩ := mS_f (r1 k1)
        rw [if_pos k1, hb1] at b0
        simp only [aU, if_true] at b0
        rw [b0, hb2]
      · have k := r2 k13
        rw [if_neg (by omega), if_pos k13, k] at b0
        simp only [aU, if_true] at b0
        exact ⟨by rw [k, b0], b0.symm⟩
    · have hB1 : ∀ z ∈ L1, B2 z = (if A.2.1 n = 2 then (match A.2.2.2.2.1 n with
          | a :: r => kBoR (kBo A ds f) ((A.2.2.2.1 n, n) :: eb) r (kBo A ds f eb a B)
          | [] => B)
        else if A.2.1 n = 15 then (match A.2.2.2.2.1 n with
          | body :: r => kBoR (kBo A ds f) (kGb n 0 (A.2.2.2.2.2 n) eb) (r.drop (A.2.2.2.2.2 n).length ++ [body]) (kBoR (kBo A ds f) eb (r.take (A.2.2.2.2.2 n).length) B)
          | [] => B)
        else kBoR (kBo A ds f) eb (A.2.2.2.2.1 n) B) z := fun z hz => by
        rw [hB z (List.mem_cons_of_mem _ hz)]
        exact kUp_fr (A := A) (ds := ds) (eb := eb) (fun (g : z = n) => hnL (by rw [← g]; exact hz))
      obtain ⟨n1, n2, n3, n4, n5, n6, n7, n8⟩ := id w1
      by_cases c2 : A.2.1 n = 2
      · have l2 := n3 (Or.inl c2)
        obtain ⟨a, d, hk2⟩ := kid2 l2
        have ho : kOrd A n = [a] ++ [d] := by unfold kOrd; rw [if_neg (by omega), hk2]; rfl
        rw [ho] at r3
        obtain ⟨ra, rd⟩ := rsS_app [a] [d] 0 (fun j x y => ⟨fun z => by simp at y; omega, fun z => by omega⟩) r3
        simp only [List.length_cons, List.length_nil, Nat.zero_add, rsS, and_true] at rd
        have e3 : eA3 A n 1 (mS σ eb) (sg_g σ 16 n) = mS σ ((A.2.2.2.1 n, n) :: eb) := by
          unfold eA3
          rw [if_pos ⟨c2, rfl⟩]
          simp only [mS, List.map_cons]
          rw [sl_l (by omega)]
        rw [e3] at rd
        rw [hk2] at w2
        obtain ⟨La, Ld, e4, fa, fd⟩ := fT_spl [a] [d] L1 w2
        subst e4
        have nd := List.nodup_append.mp hN1
        have hB2 : ∀ z ∈ La ++ Ld, B2 z = kBoR (kBo A ds f) ((A.2.2.2.1 n, n) :: eb) [d] (kBo A ds f eb a B) z := fun z hz => by
          have := hB1 z hz
          rw [if_pos c2, hk2] at this
          exact this
        rcases List.mem_append.mp q with q | q
        · refine ih eb a B La fa nd.1 (fun z hz => hr1 z (List.mem_append_left _ hz)) (ra a (by simp)) (fun z hz => ?_) x q
          rw [hB2 z (List.mem_append_left _ hz)]
          exact kBoR_fr (A := A) (fun eb n B L g => kBo_fr A ds f eb n B L g) _ [d] Ld _ fd z (fun g => nd.2.2 z hz z g rfl)
        · exact ih _ d _ Ld fd nd.2.1 (fun z hz => hr1 z (List.mem_append_right _ hz)) rd (fun z hz => hB2 z (List.mem_append_right _ hz)) x q
      by_cases c15 : A.2.1 n = 15
      · have l7 := n7 c15
        have l8 := n8.2 c15
        obtain ⟨bd, tl, hk2⟩ : ∃ bd tl, A.2.2.2.2.1 n = bd :: tl := by
          match hh : A.2.2.2.2.1 n with
          | bd :: tl => exact ⟨bd, tl, rfl⟩
          | [] => rw [hh] at l7; simp only [List.length_nil] at l7; omega
        have lk : (A.2.2.2.2.2 n).length ≤ tl.length := by
          rw [hk2] at l7
          simp only [List.length_cons] at l7
          omega
        have lt : (tl.take (A.2.2.2.2.2 n).length).length = (A.2.2.2.2.2 n).length := by rw [List.length_take]; omega
        have ho : kOrd A n = tl.take (A.2.2.2.2.2 n).length ++ (tl.drop (A.2.2.2.2.2 n).length ++ [bd]) := by
          unfold kOrd; rw [if_pos c15, hk2, ← List.append_assoc, List.take_append_drop]; rfl
        rw [ho] at r3
        obtain ⟨ra, rd⟩ := rsS_app _ _ 0 (fun j x y => ⟨fun z => by omega, fun z => by rw [lt] at y; omega⟩) r3
        rw [lt, Nat.zero_add] at rd
        have e3 : eA3 A n (A.2.2.2.2.2 n).length (mS σ eb) (sg_g σ 16 n) = mS σ (kGb n 0 (A.2.2.2.2.2 n) eb) := by
          unfold eA3
          rw [if_neg (by omega), if_pos ⟨c15, rfl⟩, mS_g ⟨hn.1, by omega⟩ _ 0 eb (by omega)]
          simp
        have rd' : ∀ y ∈ tl.drop (A.2.2.2.2.2 n).length ++ [bd], rsN σ A ds f (mS σ (kGb n 0 (A.2.2.2.2.2 n) eb)) y := by
          have dl : (tl.drop (A.2.2.2.2.2 n).length).length ≤ 1 := by
            rw [hk2] at l7
            simp only [List.length_cons] at l7
            rw [List.length_drop]
            omega
          match hd : tl.drop (A.2.2.2.2.2 n).length, dl with
          | [], _ =>
            rw [hd] at rd
            simp only [List.nil_append, rsS, and_true] at rd
            rw [e3] at rd
            intro y hy
            simp at hy
            rw [hy]; exact rd
          | [g0], _ =>
            rw [hd] at rd
            simp only [List.cons_append, List.nil_append, rsS, and_true] at rd
            rw [e3] at rd
            have e4 : eA3 A n ((A.2.2.2.2.2 n).length + 1) (mS σ (kGb n 0 (A.2.2.2.2.2 n) eb)) (sg_g σ 16 n) = mS σ (kGb n 0 (A.2.2.2.2.2 n) eb) := eA3_no ⟨fun z => by omega, fun z => by omega⟩ _ _
            rw [e4] at rd
            intro y hy
            simp at hy
            rcases hy with hy | hy
            · rw [hy]; exact rd.1
            · rw [hy]; exact rd.2
        rw [hk2] at w2
        obtain ⟨Lb, Lt, e4, fb, ft⟩ := fT_spl [bd] tl L1 w2
        rw [← List.take_append_drop (A.2.2.2.2.2 n).length tl] at ft
        obtain ⟨La, Ld, e5, fa, fd⟩ := fT_spl _ _ Lt ft
        subst e4
        subst e5
        have nd := List.nodup_append.mp hN1
        have ndt := List.nodup_append.mp nd.2.1
        have fdb : fT A (tl.drop (A.2.2.2.2.2 n).length ++ [bd]) (Ld ++ Lb) := fT_app fd fb
        have ndb : (Ld ++ Lb).Nodup := List.nodup_append.mpr ⟨ndt.2.1, nd.1, fun a ha b hb e => nd.2.2 b hb a (List.mem_append_right _ ha) e.symm⟩
        have hB2 : ∀ z ∈ Lb ++ (La ++ Ld), B2 z = kBoR (kBo A ds f) (kGb n 0 (A.2.2.2.2.2 n) eb) (tl.drop (A.2.2.2.2.2 n).length ++ [bd]) (kBoR (kBo A ds f) eb (tl.take (A.2.2.2.2.2 n).length) B) z := fun z hz => by
          have := hB1 z hz
          rw [if_neg c2, if_pos c15, hk2] at this
          exact this
        have inb : ∀ z, z ∈ Ld ++ Lb → z ∈ Lb ++ (La ++ Ld) := fun z hz => by
          rcases List.mem_append.mp hz with g | g
          · exact List.mem_append_right _ (List.mem_append_right _ g)
          · exact List.mem_append_left _ g
        have ina : ∀ z, z ∈ La → z ∈ Lb ++ (La ++ Ld) := fun z hz => List.mem_append_right _ (List.mem_append_left _ hz)
        have cs : x ∈ La ∨ x ∈ Ld ++ Lb := by
          rcases List.mem_append.mp q with g | g
          · exact Or.inr (List.mem_append_right _ g)
          · rcases List.mem_append.mp g with g | g
            · exact Or.inl g
            · exact Or.inr (List.mem_append_left _ g)
        rcases cs with g | g
        · refine bo_row ih rfl (tl.take (A.2.2.2.2.2 n).length) La B fa ndt.1 (fun z hz => hr1 z (ina z hz)) ra (fun z hz => ?_) x g
          rw [hB2 z (ina z hz)]
          refine kBoR_fr (A := A) (fun eb n B L g => kBo_fr A ds f eb n B L g) _ _ (Ld ++ Lb) _ fdb z (fun g => ?_)
          rcases List.mem_append.mp g with g | g
          · exact ndt.2.2 z hz z g rfl
          · exact nd.2.2 z g z (List.mem_append_left _ hz) rfl
        · exact bo_row ih rfl (tl.drop (A.2.2.2.2.2 n).length ++ [bd]) (Ld ++ Lb) _ fdb ndb (fun z hz => hr1 z (inb z hz)) rd' (fun z hz => hB2 z (inb z hz)) x g
      · have ho : kOrd A n = A.2.2.2.2.1 n ++ [] := by unfold kOrd; rw [if_neg c15, List.append_nil]
        rw [ho] at r3
        obtain ⟨ra, -⟩ := rsS_app _ _ 0 (fun j _ _ => ⟨fun z => c2 z.1, fun z => c15 z.1⟩) r3
        refine bo_row ih rfl (A.2.2.2.2.1 n) L1 B w2 hN1 hr1 ra (fun z hz => ?_) x q
        have := hB1 z hz
        rw [if_neg c2, if_neg c15] at this
        exact this
/-- the same of a whole PROGRAM -/
theorem boP {A : aT} {q : Int} {B2 : Int → Int} : ∀ (D : List aDf) (ds : kD) (d : Nat) (B : Int → Int) (L : List Int), fT A (aRt D ++ [q]) L → L.Nodup → (∀ x ∈ L, 0 ≤ x ∧ x < A.1) → (∀ x ∈ L, B2 x = kBo A (kDl D ds) 201 [] q (kDB A D ds d B) x) → (∀ (j : Nat) (x : aDf), D[j]? = some x → ∃ Lj B', fT A [x.2.2.2] Lj ∧ Lj.Nodup ∧ (∀ y ∈ Lj, 0 ≤ y ∧ y < A.1) ∧ ∀ y ∈ Lj, B2 y = kBo A (kDl (D.take j) ds) 201 (kPb ((d + j : Nat) : Int) 0 x.2.2.1 []) x.2.2.2 B' y) ∧ ∃ Lq B', fT A [q] Lq ∧ Lq.Nodup ∧ (∀ y ∈ Lq, 0 ≤ y ∧ y < A.1) ∧ ∀ y ∈ Lq, B2 y = kBo A (kDl D ds) 201 [] q B' y
  | [], ds, d, B, L, hf, hN, hL, hB => ⟨fun j x hj => (by cases hj), L, B, hf, hN, hL, hB⟩
  | y :: r, ds, d, B, L, hf, hN, hL, hB => by
    obtain ⟨La, Lr, e3, fa, fr⟩ := fT_spl [y.2.2.2] (aRt r ++ [q]) L hf
    subst e3
    have nd := List.nodup_append.mp hN
    simp only [kDl, kDB] at hB
    have ih := boP (B2 := B2) r ((y.1, y.2.2.1.map (·.2.2), y.2.2.2) :: ds) (d + 1) (kBo A ds 201 (kPb (d : Int) 0 y.2.2.1 []) y.2.2.2 B) Lr fr nd.2.1 (fun z hz => hL z (List.mem_append_right _ hz)) (fun z hz => hB z (List.mem_append_right _ hz))
    refine ⟨fun j x hj => ?_, ih.2⟩
    cases j with
    | zero =>
      simp only [List.getElem?_cons_zero, Option.some.injEq] at hj
      subst hj
      refine ⟨La, B, fa, nd.1, fun z hz => hL z (List.mem_append_left _ hz), fun z hz => ?_⟩
      rw [hB z (List.mem_append_left _ hz)]
      exact kFlB_fr r _ (d + 1) _ Lr fr z (fun g => nd.2.2 z hz z g rfl)
    | succ j =>
      have := ih.1 j x hj
      rw [show (d + 1 + j : Nat) = d + (j + 1) by omega] at this
      exact this
/-! SLOTS: each binder has one of its own. -/
/-- binder y belongs to a node of L -/
def bIn (A : aT) (L : List Int) (y : Int) : Prop := (y ∈ L ∧ A.2.1 y = 2) ∨ ∃ n, n ∈ L ∧ A.2.1 n = 15 ∧ ∃ j : Nat, j < (A.2.2.2.2.2 n).length ∧ y = 210 + 4 * n + j
def sRg (σ : sg_S) (A : aT) (L : List Int) (b b' : Int) : Prop := (∀ y, bIn A L y → b ≤ slF σ y ∧ slF σ y < b') ∧ ∀ y y', bIn A L y → bIn A L y' → slF σ y = slF σ y' → y = y'
theorem bIn_m {A : aT} {L L' : List Int} (h : ∀ x ∈ L, x ∈ L') {y : Int} (hy : bIn A L y) : bIn A L' y := by
  rcases hy with ⟨a, b⟩ | ⟨n, a, b⟩
  · exact Or.inl ⟨h _ a, b⟩
  · exact Or.inr ⟨n, h _ a, b⟩
theorem bIn_a {A : aT} {L L' : List Int} {y : Int} (hy : bIn A (L ++ L') y) : bIn A L y ∨ bIn A L' y := by
  rcases hy with ⟨a, b⟩ | ⟨n, a, b⟩
  · rcases List.mem_append.mp a with q | q
    · exact Or.inl (Or.inl ⟨q, b⟩)
    · exact Or.inr (Or.inl ⟨q, b⟩)
  · rcases List.mem_append.mp a with q | q
    · exact Or.inl (Or.inr ⟨n, q, b⟩)
    · exact Or.inr (Or.inr ⟨n, q, b⟩)
theorem sR_m {σ : sg_S} {A : aT} {L L' : List Int} {b b' : Int} (h : sRg σ A L' b b') (hm : ∀ x ∈ L, x ∈ L') : sRg σ A L b b' := ⟨fun y hy => h.1 y (bIn_m hm hy), fun y y' hy hy' => h.2 y y' (bIn_m hm hy) (bIn_m hm hy')⟩
theorem sR_app {σ : sg_S} {A : aT} {L L' : List Int} {b b1 b2 b' : Int} (h : sRg σ A L b b1) (g : sRg σ A L' b2 b') (h0 : b ≤ b1) (h1 : b1 ≤ b2) (h2 : b2 ≤ b') : sRg σ A (L ++ L') b b' := by
  refine ⟨fun y hy => ?_, fun y y' hy hy' e => ?_⟩
  · rcases bIn_a hy with q | q
    · have := h.1 y q; omega
    · have := g.1 y q; omega
  · rcases bIn_a hy with q | q <;> rcases bIn_a hy' with q' | q'
    · exact h.2 y y' q q' e
    · have := h.1 y q
      have := g.1 y' q'
      omega
    · have := g.1 y q
      have := h.1 y' q'
      omega
    · exact g.2 y y' q q' e
theorem sR_0 (σ : sg_S) (A : aT) (b : Int) : sRg σ A [] b b := ⟨fun y hy => by rcases hy with ⟨a, -⟩ | ⟨n, a, -⟩ <;> simp at a, fun y y' hy => by rcases hy with ⟨a, -⟩ | ⟨n, a, -⟩ <;> simp at a⟩
theorem scS_sR {σ : sg_S} {A : aT} {go : List Int → Int → Int → Int → Prop} {n : Int} (hl : ∀ es x b b', go es x b b' → b ≤ b') (hg : ∀ es x b b' L, fT A [x] L → L.Nodup → (∀ x ∈ L, 0 ≤ x ∧ x < 200) → go es x b b' → sRg σ A L b b') : ∀ (R : List Int) (s : Nat) (es : List Int) (b b' : Int) (L : List Int), fT A R L → L.Nodup → (∀ x ∈ L, 0 ≤ x ∧ x < 200) → (∀ j, s ≤ j → j < s + R.length → kNo A n j) → scS σ A go n s es b R b' → sRg σ A L b b'
  | [], s, es, b, b', L, hf, hN, hr, hk, h => by
    rw [fT_nil hf]
    simp only [scS] at h
    rw [h]
    exact sR_0 σ A b
  | x :: R, s, es, b, b', L, hf, hN, hr, hk, h => by
    obtain ⟨L1, L2, e1, w1, w2, w3⟩ := fT_inv hf
    subst e1
    simp only [scS] at h
    obtain ⟨h1, b2, h2, h3⟩ := h
    obtain ⟨x1, x2⟩ := esA_no (hk s (Nat.le_refl _) (by simp)) es b
    rw [x1, x2] at h2
    rw [x1] at h3
    have nd : ((x :: L1) ++ L2).Nodup := by rw [List.cons_append]; exact hN
    have nd' := List.nodup_append.mp nd
    have hr' : ∀ y ∈ (x :: L1) ++ L2, 0 ≤ y ∧ y < 200 := fun y hy => hr y (by rw [← List.cons_append]; exact hy)
    rw [← List.cons_append]
    exact sR_app (hg _ _ _ _ _ (fT_one w1 w2) nd'.1 (fun y hy => hr' y (List.mem_append_left _ hy)) h2) (scS_sR hl hg R (s + 1) es b2 b' L2 w3 nd'.2.1 (fun y hy => hr' y (List.mem_append_right _ hy)) (fun j a c => hk j (by omega) (by simp only [List.length_cons]; omega)) h3) (hl _ _ _ _ h2) (Int.le_refl _) (scS_le hl R _ _ _ _ h3)
theorem scN_sR {σ : sg_S} {A : aT} {cl : Int} : ∀ (f : Nat) (es : List Int) (n b b' : Int) (L : List Int), fT A [n] L → L.Nodup → (∀ x ∈ L, 0 ≤ x ∧ x < 200) → scN σ A cl f es n b b' → sRg σ A L b b'
  | 0, _, _, _, _, _, _, _, _, h => h.elim
  | f + 1, es, n, b, b', L, hf, hN, hr, h => by
    obtain ⟨L1, L2, e1, w1, w2, w3⟩ := fT_inv hf
    have e2 := fT_nil w3
    subst e2
    rw [List.append_nil] at e1
    subst e1
    have hN1 := (List.nodup_cons.mp hN).2
    have hn := hr n (by simp)
    have hr1 : ∀ x ∈ L1, 0 ≤ x ∧ x < 200 := fun z hz => hr z (List.mem_cons_of_mem _ hz)
    have ih := scN_sR (σ := σ) (A := A) (cl := cl) f
    have hl : ∀ es x b b', scN σ A cl f es x b b' → b ≤ b' := fun es x b b' => scN_le f es x b b'
    obtain ⟨-, -, -, h4⟩ := h
    obtain ⟨n1, n2, n3, n4, n5, n6, n7, n8⟩ := id w1
    by_cases c2 : A.2.1 n = 2
    · have l2 := n3 (Or.inl c2)
      obtain ⟨a, d, hk2⟩ := kid2 l2
      have ho : kOrd A n = [a, d] := by unfold kOrd; rw [if_neg (by omega), hk2]
      rw [ho] at h4
      simp only [scS] at h4
      obtain ⟨-, b1, h5, h6, b2, h7, h8⟩ := h4
      have k0 : kNo A n 0 := ⟨fun z => by omega, fun z => by omega⟩
      obtain ⟨x1, x2⟩ := esA_no k0 es b
      rw [x2] at h5
      have e16 := (h6.1 c2 rfl).1
      have be : bA A n (0 + 1) b1 = b1 + 1 := by unfold bA; rw [if_pos ⟨c2, rfl⟩]
      rw [be] at h7
      rw [hk2] at w2
      obtain ⟨La, Ld, e4, fa, fd⟩ := fT_spl [a] [d] L1 w2
      subst e4
      have nd := List.nodup_append.mp hN1
      have sa := ih _ _ _ _ _ fa nd.1 (fun z hz => hr1 z (List.mem_append_left _ hz)) h5
      have sd := ih _ _ _ _ _ fd nd.2.1 (fun z hz => hr1 z (List.mem_append_right _ hz)) h7
      have la := hl _ _ _ _ h5
      have ld := hl _ _ _ _ h7
      have so : sRg σ A [n] b1 (b1 + 1) := by
        have key : ∀ y, bIn A [n] y → y = n := fun y hy => by
          rcases hy with ⟨g, -⟩ | ⟨m, g, g2, -⟩
          · simpa using g
          · have : m = n := by simpa using g
            rw [this] at g2
            omega
        refine ⟨fun y hy => ?_, fun y y' hy hy' _ => by rw [key y hy, key y' hy']⟩
        rw [key y hy, sl_l (by omega), e16]
        omega
      rw [h8]
      exact sR_m (sR_app (sR_app sa so la (Int.le_refl _) (by omega)) sd (by omega) (Int.le_refl _) ld) (fun z hz => by
        rcases List.mem_cons.mp hz with g | g
        · rw [g]; simp
        · rcases List.mem_append.mp g with g | g
          · exact List.mem_append_left _ (List.mem_append_left _ g)
          · exact List.mem_append_right _ g)
    by_cases c15 : A.2.1 n = 15
    · have l7 := n7 c15
      have l8 := n8.2 c15
      obtain ⟨bd, tl, hk2⟩ : ∃ bd tl, A.2.2.2.2.1 n = bd :: tl := by
        match hh : A.2.2.2.2.1 n with
        | bd :: tl => exact ⟨bd, tl, rfl⟩
        | [] => rw [hh] at l7; simp only [List.length_nil] at l7; omega
      have lk : (A.2.2.2.2.2 n).length ≤ tl.length := by
        rw [hk2] at l7
        simp only [List.length_cons] at l7
        omega
      have lt : (tl.take (A.2.2.2.2.2 n).length).length = (A.2.2.2.2.2 n).length := by rw [List.length_take]; omega
      have ho : kOrd A n = tl.take (A.2.2.2.2.2 n).length ++ (tl.drop (A.2.2.2.2.2 n).length ++ [bd]) := by
        unfold kOrd; rw [if_pos c15, hk2, ← List.append_assoc, List.take_append_drop]; rfl
      rw [ho] at h4
      have kn : ∀ j, 0 ≤ j → j < 0 + (tl.take (A.2.2.2.2.2 n).length).length → kNo A n j := fun j x y => ⟨fun z => by omega, fun z => by rw [lt] at y; omega⟩
      obtain ⟨b1, h5, h6⟩ := scS_app _ _ 0 b b' kn h4
      rw [lt, Nat.zero_add] at h6
      obtain ⟨x0, R0, hx0⟩ : ∃ x0 R0, tl.drop (A.2.2.2.2.2 n).length ++ [bd] = x0 :: R0 := by
        cases tl.drop (A.2.2.2.2.2 n).length with
        | nil => exact ⟨bd, [], rfl⟩
        | cons x R => exact ⟨x, R ++ [bd], rfl⟩
      rw [hk2] at w2
      obtain ⟨Lb, Lt, e4, fb, ft⟩ := fT_spl [bd] tl L1 w2
      rw [← List.take_append_drop (A.2.2.2.2.2 n).length tl] at ft
      obtain ⟨La, Ld, e5, fa, fd⟩ := fT_spl _ _ Lt ft
      subst e4
      subst e5
      have nd := List.nodup_append.mp hN1
      have ndt := List.nodup_append.mp nd.2.1
      have fdb : fT A (tl.drop (A.2.2.2.2.2 n).length ++ [bd]) (Ld ++ Lb) := fT_app fd fb
      have ndb : (Ld ++ Lb).Nodup := List.nodup_append.mpr ⟨ndt.2.1, nd.1, fun a ha b hb e => nd.2.2 b hb a (List.mem_append_right _ ha) e.symm⟩
      have inb : ∀ z, z ∈ Ld ++ Lb → z ∈ Lb ++ (La ++ Ld) := fun z hz => by
        rcases List.mem_append.mp hz with g | g
        · exact List.mem_append_right _ (List.mem_append_right _ g)
        · exact List.mem_append_left _ g
      have ina : ∀ z, z ∈ La → z ∈ Lb ++ (La ++ Ld) := fun z hz => List.mem_append_right _ (List.mem_append_left _ hz)
      have sa := scS_sR hl (fun es x b b' L => ih es x b b' L) _ 0 es b b1 La fa ndt.1 (fun z hz => hr1 z (ina z hz)) kn h5
      have la := scS_le hl _ _ _ _ _ h5
      rw [hx0] at h6 fdb
      simp only [scS] at h6
      obtain ⟨h7, b2, h8, h9⟩ := h6
      have e16 := (h7.2 c15 rfl).1
      have be : bA A n (A.2.2.2.2.2 n).length b1 = b1 + (A.2.2.2.2.2 n).length := by unfold bA; rw [if_neg (by omega), if_pos ⟨c15, rfl⟩]
      rw [be] at h8
      obtain ⟨Lx, Ly, e6, wx1, wx2, wx3⟩ := fT_inv fdb
      have eL : Ld ++ Lb = (x0 :: Lx) ++ Ly := by rw [e6, List.cons_append]
      have ndx := ndb
      rw [eL] at ndx
      have ndx' := List.nodup_append.mp ndx
      have inx : ∀ z, z ∈ (x0 :: Lx) ++ Ly → 0 ≤ z ∧ z < 200 := fun z hz => hr1 z (inb z (by rw [eL]; exact hz))
      have s8 := ih _ _ _ _ _ (fT_one wx1 wx2) ndx'.1 (fun z hz => inx z (List.mem_append_left _ hz)) h8
      have s9 := scS_sR hl (fun es x b b' L => ih es x b b' L) R0 ((A.2.2.2.2.2 n).length + 1) _ b2 b' Ly wx3 ndx'.2.1 (fun z hz => inx z (List.mem_append_right _ hz)) (fun j x y => ⟨fun z => by omega, fun z => by omega⟩) h9
      have l8' := hl _ _ _ _ h8
      have l9 := scS_le hl _ _ _ _ _ h9
      have so : sRg σ A [n] b1 (b1 + (A.2.2.2.2.2 n).length) := by
        have key : ∀ y, bIn A [n] y → ∃ j : Nat, j < (A.2.2.2.2.2 n).length ∧ y = 210 + 4 * n + j := fun y hy => by
          rcases hy with ⟨g, g2⟩ | ⟨m, g, g2, j, g3, g4⟩
          · have : y = n := by simpa using g
            rw [this] at g2
            omega
          · have e : m = n := by simpa using g
            rw [e] at g3 g4
            exact ⟨j, g3, g4⟩
        refine ⟨fun y hy => ?_, fun y y' hy hy' e => ?_⟩
        · obtain ⟨j, g3, g4⟩ := key y hy
          rw [g4, sl_g ⟨hn.1, by omega⟩ (by omega), e16]
          omega
        · obtain ⟨j, g3, g4⟩ := key y hy
          obtain ⟨j', g3', g4'⟩ := key y' hy'
          rw [g4, g4', sl_g ⟨hn.1, by omega⟩ (by omega), sl_g ⟨hn.1, by omega⟩ (by omega)] at e
          omega
      refine sR_m (sR_app (sR_app sa so la (Int.le_refl _) (by omega)) (sR_app s8 s9 l8' (Int.le_refl _) l9) (by omega) (Int.le_refl _) (by omega)) (fun z hz => ?_)
      rw [← eL]
      rcases List.mem_cons.mp hz with g | g
      · rw [g]; simp
      · rcases List.mem_append.mp g with g | g
        · exact List.mem_append_right _ (List.mem_append_right _ g)
        · rcases List.mem_append.mp g with g | g
          · exact List.mem_append_left _ (List.mem_append_left _ g)
          · exact List.mem_append_right _ (List.mem_append_left _ g)
    · have kn : ∀ j, kNo A n j := fun j => ⟨fun z => c2 z.1, fun z => c15 z.1⟩
      obtain ⟨L', k1, k2⟩ := fT_perm (kOrd_p A n) w2
      have s := scS_sR hl (fun es x b b' L => ih es x b b' L) (kOrd A n) 0 es b b' L' k1 (k2.nodup_iff.mp hN1) (fun z hz => hr1 z (k2.mem_iff.mpr hz)) (fun j _ _ => kn j) h4
      have key : ∀ y, bIn A (n :: L1) y → bIn A L' y := fun y hy => by
        rcases hy with ⟨g, g2⟩ | ⟨m, g, g2, g3⟩
        · rcases List.mem_cons.mp g with g | g
          · rw [g] at g2; exact absurd g2 c2
          · exact Or.inl ⟨k2.mem_iff.mp g, g2⟩
        · rcases List.mem_cons.mp g with g | g
          · rw [g] at g2; exact absurd g2 c15
          · exact Or.inr ⟨m, k2.mem_iff.mp g, g2, g3⟩
      exact ⟨fun y hy => s.1 y (key y hy), fun y y' hy hy' => s.2 y y' (key y hy) (key y' hy')⟩
/-- in which tree a node stands -/
theorem fT_rt {A : aT} {x : Int} : ∀ (R L : List Int), fT A R L → x ∈ L → ∃ r ∈ R, ∃ Lr, fT A [r] Lr ∧ x ∈ Lr ∧ ∀ y ∈ Lr, y ∈ L
  | [], L, h, hx => by rw [fT_nil h] at hx; simp at hx
  | r :: R, L, h, hx => by
    obtain ⟨L1, L2, e1, w1, w2, w3⟩ := fT_inv h
    subst e1
    have hx' : x ∈ (r :: L1) ++ L2 := by rw [List.cons_append]; exact hx
    rcases List.mem_append.mp hx' with q | q
    · exact ⟨r, by simp, r :: L1, fT_one w1 w2, q, fun y hy => by rw [← List.cons_append]; exact List.mem_append_left _ hy⟩
    · obtain ⟨r', a, Lr, b, c, d⟩ := fT_rt R L2 w3 q
      exact ⟨r', by simp [a], Lr, b, c, fun y hy => by rw [← List.cons_append]; exact List.mem_append_right _ (d y hy)⟩
theorem sl_all {σ : sg_S} {A : aT} {D : List aDf} {q : Int} (hW : ckW σ A) (hD : cD2 σ D) (hfr : frA A (aRt D ++ [q])) (hA : ckA σ A D.length q) : slA σ (vbF A D) := by
  obtain ⟨H, fs, Ld, a1, a2, a3, a4, a5⟩ := hA
  obtain ⟨LA, f1, f2, f3, f4⟩ := hfr
  have d12 := hD.2.1
  have w200 := hW.1.2
  have sub : ∀ r ∈ aRt D ++ [q], ∃ L, fT A [r] L ∧ L.Nodup ∧ ∀ x ∈ L, 0 ≤ x ∧ x < A.1 := fun r hr => by
    obtain ⟨R1, R2, e⟩ := List.append_of_mem hr
    rw [e] at f1
    obtain ⟨La, Lb, e1, g1, g2⟩ := fT_spl R1 (r :: R2) LA f1
    obtain ⟨Lc, Le, e2, g3, g4⟩ := fT_spl [r] R2 Lb g2
    rw [e1, e2] at f2 f3
    exact ⟨Lc, g3, (List.nodup_append.mp (List.nodup_append.mp f2).2.1).1, fun x hx => f3 x (List.mem_append_right _ (List.mem_append_left _ hx))⟩
  have l3 := scN_le _ _ _ _ _ a3
  obtain ⟨Lq, q1, q2, q3⟩ := sub q (List.mem_append_right _ (by simp))
  have sq := scN_sR _ _ _ _ _ _ q1 q2 (fun x hx => ⟨(q3 x hx).1, by have := (q3 x hx).2; omega⟩) a3
  -- the slots of a DEF
  have df : ∀ (j : Nat) (x : aDf), D[j]? = some x → ∃ Lj, fT A [x.2.2.2] Lj ∧ sRg σ A Lj (sg_g σ 24 j + x.2.2.1.length) (H j) ∧ (0 ≤ sg_g σ 24 j ∧ sg_g σ 24 j + x.2.2.1.length ≤ H j ∧ H j ≤ fs) ∧ (x.2.2.1.length ≤ 6) ∧ ∀ j' : Nat, j' < j → H j' ≤ sg_g σ 24 j := fun j x hx => by
    have hj := gE_l hx
    obtain ⟨⟨L, b1, b2, b3, b4, b5, b6, b7, b8, b9⟩, ord⟩ := a1 j (by omega) (by omega)
    obtain ⟨t1, t2, t3, t4, t5, -⟩ := hD.2.2 j x hx
    rw [t3, t4] at b3
    obtain ⟨Lj, s1, s2, s3⟩ := sub x.2.2.2 (List.mem_append_left _ (by unfold aRt; exact List.mem_map.mpr ⟨x, List.mem_of_getElem? hx, rfl⟩))
    have le := scN_le _ _ _ _ _ b3
    exact ⟨Lj, s1, scN_sR _ _ _ _ _ _ s1 s2 (fun x hx => ⟨(s3 x hx).1, by have := (s3 x hx).2; omega⟩) b3, ⟨b6.1, le, b6.2⟩, t5, fun j' hj' => ord j' (by omega) (by omega)⟩
  -- zones
  have zone : ∀ y, vbF A D y → (∃ (j : Nat) (x : aDf), D[j]? = some x ∧ sg_g σ 24 j ≤ slF σ y ∧ slF σ y < H j ∧ ((∃ i : Nat, i < x.2.2.1.length ∧ y = 1100 + 6 * (j : Int) + i) ∨ (sg_g σ 24 j + x.2.2.1.length ≤ slF σ y ∧ ∃ Lj, fT A [x.2.2.2] Lj ∧ bIn A Lj y))) ∨ (fs ≤ slF σ y ∧ slF σ y < H 12 ∧ bIn A Lq y) := fun y hy => by
    have nod : ∀ n, 0 ≤ n → n < A.1 → (∀ L, n ∈ L → bIn A L y) → (∃ (j : Nat) (x : aDf), D[j]? = some x ∧ sg_g σ 24 j ≤ slF σ y ∧ slF σ y < H j ∧ ((∃ i : Nat, i < x.2.2.1.length ∧ y = 1100 + 6 * (j : Int) + i) ∨ (sg_g σ 24 j + x.2.2.1.length ≤ slF σ y ∧ ∃ Lj, fT A [x.2.2.2] Lj ∧ bIn A Lj y))) ∨ (fs ≤ slF σ y ∧ slF σ y < H 12 ∧ bIn A Lq y) := fun n g1 g2 g3 => by
      obtain ⟨r, m1, Lr, m2, m3, m4⟩ := fT_rt _ _ f1 (f4 n g1 g2)
      rcases List.mem_append.mp m1 with m | m
      · left
        unfold aRt at m
        obtain ⟨x, mx, ex⟩ := List.mem_map.mp m
        obtain ⟨j, hj⟩ := List.getElem?_of_mem mx
        obtain ⟨Lj, s1, s2, s3, s4, s5⟩ := df j x hj
        have eL : Lr = Lj := fT_det m2 (by rw [← ex]; exact s1)
        have bi := g3 Lr m3
        rw [eL] at bi
        have := s2.1 y bi
        exact ⟨j, x, hj, by omega, by omega, Or.inr ⟨this.1, Lj, s1, bi⟩⟩
      · right
        have er : r = q := by simpa using m
        rw [er] at m2
        have eL : Lr = Lq := fT_det m2 q1
        have bi := g3 Lr m3
        rw [eL] at bi
        have := sq.1 y bi
        exact ⟨this.1, this.2, bi⟩
    rcases hy with ⟨⟨g1, g2⟩, g3⟩ | ⟨n, j, ⟨g1, g2⟩, g3, g4, g5⟩ | ⟨j, i, x, g1, g2, g3⟩
    · exact nod y g1 g2 (fun L hL => Or.inl ⟨hL, g3⟩)
    · exact nod n g1 g2 (fun L hL => Or.inr ⟨n, hL, g3, j, g4, g5⟩)
    · left
      obtain ⟨Lj, s1, s2, s3, s4, s5⟩ := df j x g1
      have e : slF σ y = sg_g σ 24 j + i := by rw [g3, sl_p (by omega) (by omega)]
      exact ⟨j, x, g1, by omega, by omega, Or.inl ⟨i, g2, g3⟩⟩
  refine ⟨fun y hy => ?_, fun y y' hy hy' e => ?_⟩
  · rcases zone y hy with ⟨j, x, z1, z2, z3, -⟩ | ⟨z1, z2, -⟩
    · obtain ⟨Lj, s1, s2, s3, s4, s5⟩ := df j x z1
      omega
    · omega
  · rcases zone y hy with ⟨j, x, z1, z2, z3, z4⟩ | ⟨z1, z2, z4⟩ <;> rcases zone y' hy' with ⟨j', x', z1', z2', z3', z4'⟩ | ⟨z1', z2', z4'⟩
    · obtain ⟨Lj, s1, s2, s3, s4, s5⟩ := df j x z1
      obtain ⟨Lj', s1', s2', s3', s4', s5'⟩ := df j' x' z1'
      have ej : j = j' := by
        rcases Nat.lt_trichotomy j j' with c | c | c
        · have := s5' j c; omega
        · exact c
        · have := s5 j' c; omega
      subst ej
      rw [z1] at z1'
      obtain rfl := Option.some.inj z1'
      rcases z4 with ⟨i, i1, i2⟩ | ⟨i1, L1, i2, i3⟩ <;> rcases z4' with ⟨i', i1', i2'⟩ | ⟨i1', L1', i2', i3'⟩
      · rw [i2, i2', sl_p (by omega) (by omega), sl_p (by omega) (by omega)] at e
        omega
      · rw [i2, sl_p (by omega) (by omega)] at e
        omega
      · rw [i2', sl_p (by omega) (by omega)] at e
        omega
      · rw [fT_det i2 s1] at i3
        rw [fT_det i2' s1] at i3'
        exact s2.2 y y' i3 i3' e
    · obtain ⟨Lj, s1, s2, s3, s4, s5⟩ := df j x z1
      omega
    · obtain ⟨Lj', s1', s2', s3', s4', s5'⟩ := df j' x' z1'
      omega
    · exact sq.2 y y' z4 z4' e
/-! The evaluator looks at the types of the tree alone; all that a nested run of the class goes along. -/
theorem fT_kid {A : aT} {R L : List Int} {r : Int} (h : fT A R L) (hr : r ∈ R) : ∃ Lr, fT A [r] Lr ∧ ∀ y ∈ Lr, y ∈ L := by
  obtain ⟨R1, R2, e⟩ := List.append_of_mem hr
  rw [e] at h
  obtain ⟨La, Lb, e1, g1, g2⟩ := fT_spl R1 (r :: R2) L h
  obtain ⟨Lc, Le, e2, g3, g4⟩ := fT_spl [r] R2 Lb g2
  exact ⟨Lc, g3, fun y hy => by rw [e1, e2]; exact List.mem_append_right _ (List.mem_append_left _ hy)⟩
theorem eS_T {G G' : Int → eV → Int → eR} : ∀ (l : List Int), (∀ x ∈ l, G x = G' x) → eS G l = eS G' l
  | [], _ => by
    funext ρ w
    simp only [eS]
  | x :: r, h => by
    funext ρ w
    simp only [eS]
    rw [h x (by simp), eS_T r (fun y hy => h y (by simp [hy]))]
theorem evT_T {G G' : Int → eV → Int → eR} {gd : List Int} {bd : Int} (h : ∀ x ∈ gd, G x = G' x) (hb : G bd = G' bd) : evT G gd bd = evT G' gd bd := by
  funext ρ w
  unfold evT
  cases gd with
  | nil =>
    dsimp only
    rw [hb]
  | cons g r =>
    dsimp only
    rw [h g (by simp), hb]
theorem getD_in {l : List Int} {i : Nat} (h : i < l.length) : l.getD i 0 ∈ l := by
  rw [List.getD_eq_getElem?_getD, List.getElem?_eq_getElem h, Option.getD_some]
  exact List.getElem_mem h
set_option maxRecDepth 10000 in
theorem evN_T {A : aT} {T T' B : Int → Int} {call : Int → eV → Int → eR} : ∀ (f : Nat) (n : Int) (L : List Int), fT A [n] L → (∀ x ∈ L, T x = T' x) → evN A T B call f n = evN A T' B call f n
  | 0, n, L, hf, h => by
    funext ρ w
    simp only [evN]
  | f + 1, n, L, hf, h => by
    obtain ⟨L1, L2, e1, w1, w2, w3⟩ := fT_inv hf
    have hn := h n (by rw [e1]; simp)
    have kd : ∀ x ∈ A.2.2.2.2.1 n, evN A T B call f x = evN A T' B call f x := fun x hx => by
      obtain ⟨Lx, a1, a2⟩ := fT_kid w2 hx
      exact evN_T f x Lx a1 (fun y hy => h y (by rw [e1]; exact List.mem_cons_of_mem _ (List.mem_append_left _ (a2 y hy))))
    have kg : ∀ x ∈ kGs A n, evN A T B call f x = evN A T' B call f x := fun x hx => kd x (by unfold kGs at hx; exact List.mem_of_mem_drop (List.mem_of_mem_take hx))
    obtain ⟨n1, n2, n3, n4, n5, n6, n7, n8⟩ := w1
    funext ρ w
    simp only [evN]
    by_cases hw : w + 1 ≤ 3000
    · rw [if_pos hw, if_pos hw]
      by_cases c1 : A.2.1 n = 1
      · rw [if_pos c1, if_pos c1]
      rw [if_neg c1, if_neg c1]
      by_cases c2 : A.2.1 n = 2
      · have l := n3 (Or.inl c2)
        rw [if_pos c2, if_pos c2, kd _ (getD_in (i := 0) (by omega)), kd _ (getD_in (i := 1) (by omega))]
      rw [if_neg c2, if_neg c2]
      by_cases c3 : A.2.1 n = 3
      · have l := n4 c3
        rw [if_pos c3, if_pos c3, kd _ (getD_in (i := 0) (by omega))]
        cases evN A T' B call f ((A.2.2.2.2.1 n).getD 0 0) ρ (w + 1) with
        | inl e => rfl
        | inr x =>
          obtain ⟨v, w1, s1, ρ1⟩ := x
          dsimp only
          by_cases z : v [] = 0
          · rw [if_pos z, kd _ (getD_in (i := 2) (by omega))]
          · rw [if_neg z, kd _ (getD_in (i := 1) (by omega))]
      rw [if_neg c3, if_neg c3]
      by_cases c13 : A.2.1 n = 13
      · rw [if_pos c13, if_pos c13, eS_T _ kd]
      rw [if_neg c13, if_neg c13]
      by_cases c15 : A.2.1 n = 15
      · have l := n7 c15
        rw [if_pos c15, if_pos c15, eS_T _ kg, evT_T (fun x hx => kd x (List.mem_of_mem_drop hx)) (kd _ (getD_in (i := 0) (by omega))), hn]
      rw [if_neg c15, if_neg c15, eS_T _ kd, hn]
    · rw [if_neg hw, if_neg hw]
set_option maxRecDepth 10000 in
theorem eC_T {A : aT} {D : List aDf} {T T' B : Int → Int} {q : Int} {LA : List Int} (hf : fT A (aRt D ++ [q]) LA) (h : ∀ x ∈ LA, T x = T' x) : ∀ k, k ≤ D.length → eC A D T B k = eC A D T' B k
  | 0, _ => by
    funext q' ρ w
    simp only [eC]
  | k + 1, hk => by
    funext q' ρ w
    simp only [eC]
    rw [eC_T hf h k (by omega)]
    by_cases c : q' = (k : Int)
    · rw [if_pos c, if_pos c]
      have hk' : k < D.length := by omega
      obtain ⟨Lr, a1, a2⟩ := fT_kid hf (r := D[k].2.2.2) (List.mem_append_left _ (by unfold aRt; exact List.mem_map.mpr ⟨D[k], List.getElem_mem _, rfl⟩))
      rw [List.getD_eq_getElem?_getD, List.getElem?_eq_getElem hk', Option.getD_some, evN_T 201 _ Lr a1 (fun x hx => h x (a2 x hx))]
    · rw [if_neg c, if_neg c]
/-- the whole PROGRAM -/
theorem ev_T {A : aT} {D : List aDf} {T T' B : Int → Int} {q : Int} {LA : List Int} (hf : fT A (aRt D ++ [q]) LA) (h : ∀ x ∈ LA, T x = T' x) : evN A T B (eC A D T B D.length) 201 q = evN A T' B (eC A D T' B D.length) 201 q := by
  obtain ⟨Lr, a1, a2⟩ := fT_kid hf (r := q) (List.mem_append_right _ (by simp))
  rw [eC_T hf h D.length (Nat.le_refl _), evN_T 201 q Lr a1 (fun x hx => h x (a2 x hx))]
/-- every node of a typed tree is typed -/
theorem ty_in {A : aT} {ds : kD} {T B : Int → Int} : ∀ (f : Nat) (sc : List (Int × Int)) (n : Int) (L : List Int), fT A [n] L → tyN A ds T B f sc n → ∀ x ∈ L, ∃ f' sc', tyN A ds T B f' sc' x
  | 0, sc, n, L, hf, h, x, hx => h.elim
  | f + 1, sc, n, L, hf, h, x, hx => by
    have h0 := h
    obtain ⟨L1, L2, e1, w1, w2, w3⟩ := fT_inv hf
    have e2 := fT_nil w3
    subst e2
    rw [List.append_nil] at e1
    subst e1
    rcases List.mem_cons.mp hx with q | q
    · rw [q]; exact ⟨f + 1, sc, h0⟩
    · have kd : ∀ y ∈ A.2.2.2.2.1 n, ∃ sc', tyN A ds T B f sc' y := fun y hy => by
        obtain ⟨a1, a2, a3, a4, a5, a6, a7, a8, a9⟩ := h
        obtain ⟨n1, n2, n3, n4, n5, n6, n7, n8⟩ := w1
        by_cases c2 : A.2.1 n = 2
        · obtain ⟨a, b, hk⟩ := kid2 (n3 (Or.inl c2))
          rw [hk] at hy
          rcases List.mem_cons.mp hy with z | z
          · rw [z]; exact ⟨_, (a7 c2 a b hk).1⟩
          · have z' : y = b := by simpa using z
            rw [z']; exact ⟨_, (a7 c2 a b hk).2⟩
        · by_cases c15 : A.2.1 n = 15
          · have l7 := n7 c15
            obtain ⟨bd, tl, hk⟩ : ∃ bd tl, A.2.2.2.2.1 n = bd :: tl := by
              match hh : A.2.2.2.2.1 n with
              | bd :: tl => exact ⟨bd, tl, rfl⟩
              | [] => rw [hh] at l7; simp only [List.length_nil] at l7; omega
            rw [hk] at hy
            rcases List.mem_cons.mp hy with z | z
            · rw [z]; exact ⟨_, (a8 c15 bd tl hk).2 bd (by simp)⟩
            · rw [← List.take_append_drop (A.2.2.2.2.2 n).length tl] at z
              rcases List.mem_append.mp z with z | z
              · exact ⟨_, ((a8 c15 bd tl hk).1 y z).1⟩
              · exact ⟨_, (a8 c15 bd tl hk).2 y (List.mem_append_left _ z)⟩
          · exact ⟨_, a9 c2 c15 y hy⟩
      obtain ⟨r, hr, Lr, a1, a2, -⟩ := fT_rt _ _ w2 q
      obtain ⟨sc', b⟩ := kd r hr
      exact ty_in f sc' r Lr a1 b x a2
/-- what is called -/
theorem ty_cl {A : aT} {D : List aDf} {T B : Int → Int} {j f : Nat} {sc : List (Int × Int)} {x : Int} (h : tyN A (kDl (D.take j) []) T B f sc x) (hk : A.2.1 x = 13) : 0 ≤ B x ∧ B x < j ∧ ∃ y, D[(B x).toNat]? = some y ∧ (A.2.2.2.2.1 x).map T = y.2.2.1.map (·.2.2) ∧ T x = T y.2.2.2 := by
  cases f with
  | zero => exact h.elim
  | succ f =>
    obtain ⟨t1, t2, t3, t4, t5, t6, t7, t8, t9⟩ := h
    have gx := t6 hk
    have g := t5 (by omega)
    rw [kTy_c hk] at g
    obtain ⟨y, ed⟩ : ∃ y, kDef (kDl (D.take j) []) (A.2.2.2.1 x) = some y := by
      cases ed : kDef (kDl (D.take j) []) (A.2.2.2.1 x) with
      | none => rw [ed] at g; cases g
      | some y => exact ⟨y, rfl⟩
    obtain ⟨d0, z, dx, ey⟩ := kD_at gx ed
    rw [ed, ey] at g
    simp only at g
    obtain ⟨g1, g2, g3⟩ := kIs_in g
    simp only [decide_eq_true_eq] at g3
    have h1 := kDx_r gx
    have h2 := kDl_len D j
    exact ⟨d0, by omega, z, dx, g3, g1⟩
/-- numbers of the class's nodes -/
def nmR (σ : sg_S) (A : aT) : Prop := ∀ k, 0 ≤ k → k < A.1 → A.2.1 k = 0 → sg_g σ 5 k = sg_n (A.2.2.2.1 k)
theorem asm8 {σ : sg_S} {A : aT} {D : List aDf} {k : Int} {T Tf B B0 : Int → Int} (hW : ckW σ A) (hD : cD2 σ D) (hfr : frA A (aRt D ++ [k])) (hp : ∀ x ∈ D, ∀ p ∈ x.2.2.1, 0 ≤ p.2.2) (hk : kPg A D k T = some Tf) (h6 : ∀ x, 0 ≤ x → sg_g σ 6 x = Tf x) (hA : ckA σ A D.length k) (hj : jPg σ A D k) (h3 : ckA3 σ A D k) (hn : nmR σ A) (hB : ∀ x, 0 ≤ x → x < A.1 → B x = kPB A D k B0 x) : dAn σ A D B D.length ∧ dIn σ A D B D.length 12 k 0 ∧ (∀ q, 0 ≤ q → q < (D.length : Int) → nxq σ q ≤ sg_g σ 11 k) ∧ slA σ (vbF A D) := by
  have hS := sl_all hW hD hfr hA
  obtain ⟨LA, f1, f2, f3, -⟩ := id hfr
  have w200 := hW.1.2
  have ty := tyP (T2 := sg_g σ 6) (B2 := B) D [] 0 T Tf B0 LA f1 f2 f3 (fun d hd => by simp at hd) (fun c hc => by simp at hc) hp hk (fun x hx => h6 x (f3 x hx).1) (fun x hx => hB x (f3 x hx).1 (f3 x hx).2) (fun c hc => by simp at hc)
  obtain ⟨bo1, Lq, Bq, bq1, bq2, bq3, bq4⟩ := boP (B2 := B) D [] 0 B0 LA f1 f2 f3 (fun x hx => hB x (f3 x hx).1 (f3 x hx).2)
  obtain ⟨H, fs, Ld, a1, a2, a3, a4, a5⟩ := hA
  obtain ⟨j1, j2, j3, j4⟩ := hj
  have fsH := scN_le _ _ _ _ _ a3
  have d12 := hD.2.1
  have sub : ∀ r ∈ aRt D ++ [k], ∃ L, fT A [r] L ∧ L.Nodup ∧ ∀ x ∈ L, 0 ≤ x ∧ x < A.1 := fun r hr => by
    obtain ⟨R1, R2, e⟩ := List.append_of_mem hr
    rw [e] at f1
    obtain ⟨La, Lb, e1, g1, g2⟩ := fT_spl R1 (r :: R2) LA f1
    obtain ⟨Lc, Le, e2, g3, g4⟩ := fT_spl [r] R2 Lb g2
    rw [e1, e2] at f2 f3
    exact ⟨Lc, g3, (List.nodup_append.mp (List.nodup_append.mp f2).2.1).1, fun x hx => f3 x (List.mem_append_right _ (List.mem_append_left _ hx))⟩
  have rt : ∀ (j : Nat) (x : aDf), D[j]? = some x → sg_g σ 22 j = x.2.2.2 ∧ sg_g σ 23 j = x.2.2.1.length ∧ x.2.2.1.length ≤ 6 := fun j x hx => by
    obtain ⟨t1, t2, t3, t4, t5, -⟩ := hD.2.2 j x hx
    exact ⟨t3, t4, t5⟩
  have ly : ∀ (j f : Nat) (sc : List (Int × Int)) (r : Int) (L : List Int), fT A [r] L → (∀ x ∈ L, 0 ≤ x ∧ x < A.1) → tyN A (kDl (D.take j) []) (sg_g σ 6) B f sc r → (∀ y ∈ L, nmQ σ A (kDl (D.take j) []) B y) → ∀ x ∈ L, lyQ σ A D B j x := fun j f sc r L hL hr ht nm x hx => by
    refine ⟨fun z => hn x (hr x hx).1 (hr x hx).2 z, (nm x hx).1, fun z => ?_⟩
    obtain ⟨f', sc', t⟩ := ty_in f sc r L hL ht x hx
    obtain ⟨c1, c2, y, c3, c4, c5⟩ := ty_cl t z
    refine ⟨((nm x hx).2 z).2, ⟨c1, c2⟩, ?_, y, c3, c4, c5⟩
    have r2 := (rt _ y c3).2.1
    rw [show (((B x).toNat : Nat) : Int) = B x by omega] at r2
    rw [r2]
    have := congrArg List.length c4
    rw [List.length_map, List.length_map] at this
    omega
  have nmD : ∀ (j : Nat) (x : aDf), D[j]? = some x → ∀ L, fT A [x.2.2.2] L → ∀ y ∈ L, nmQ σ A (kDl (D.take j) []) B y := fun j x hx L hL y hy => by
    obtain ⟨Lj, B', g1, g2, g3, g4⟩ := bo1 j x hx
    rw [Nat.zero_add] at g4
    rw [fT_det hL g1] at hy
    have r6 := (rt j x hx).2.2
    have e : mS σ (kPb (j : Int) 0 x.2.2.1 []) = pE3 (sg_g σ 24 j) x := by
      rw [mS_p (Int.natCast_nonneg _) x.2.2.1 0 [] (by omega)]
      unfold pE3
      rw [show sg_g σ 24 (j : Int) + ((0 : Nat) : Int) = sg_g σ 24 j by omega]
      rfl
    exact bo_all 201 (kPb (j : Int) 0 x.2.2.1 []) x.2.2.2 B' Lj g1 g2 (fun z hz => ⟨(g3 z hz).1, by have := (g3 z hz).2; omega⟩) (by rw [e]; exact (h3.1 j x hx).1) g4 y hy
  refine ⟨⟨by omega, fun q z1 z2 => ?_⟩, ?_, fun q z1 z2 => ?_, hS⟩
  · obtain ⟨j, rfl⟩ : ∃ j : Nat, q = (j : Int) := ⟨q.toNat, by omega⟩
    obtain ⟨x, hx⟩ : ∃ x, D[j]? = some x := ⟨D[j]'(by omega), List.getElem?_eq_getElem _⟩
    obtain ⟨⟨L, b1, b2, b3, b4, b5, b6, b7, b8, b9⟩, ord⟩ := a1 j z1 z2
    obtain ⟨r1, r2, r3⟩ := rt j x hx
    have le := scN_le _ _ _ _ _ b3
    have hr := j2.1 j x hx
    obtain ⟨L', s1, s2, s3⟩ := sub x.2.2.2 (List.mem_append_left _ (by unfold aRt; exact List.mem_map.mpr ⟨x, List.mem_of_getElem? hx, rfl⟩))
    have t := (ty.1 j x hx).1
    rw [Nat.zero_add] at t
    refine ⟨⟨L', kDl (D.take j) [], scZ (kPe x) (kPb (j : Int) 0 x.2.2.1 []), by rw [r1]; exact hr.2, by rw [r1]; exact s1, s2, gRq_j j1 s3, by rw [r1]; exact t, ⟨⟨b5.1, ?_⟩, b4⟩, by rw [r1]; exact (h3.1 j x hx).2, ly j 201 _ _ L' s1 s3 t (nmD j x hx L' s1), fun p hp => ?_⟩, ⟨by rw [r2]; omega, by rw [r2]; omega⟩, ⟨b6.1, by omega⟩, ⟨x, by rw [Int.toNat_natCast]; exact hx, r2.symm, r1.symm⟩, fun q' w1 w2 => ?_⟩
    · rw [List.length_append, List.length_cons, List.length_nil]; omega
    · have hp' : p ∈ scZ (x.2.2.1.reverse.map (fun p => (p.1, p.2.2)) ++ []) (kPb (j : Int) 0 x.2.2.1 []) := by rw [List.append_nil]; exact hp
      rcases scZ_p x.2.2.1 0 [] [] p hp' with ⟨i, y, hy, rfl⟩ | h
      · have hi := gE_l hy
        refine ⟨i, by rw [r2]; omega, ?_⟩
        simp only [Nat.zero_add]
        rw [bTy_p hx hy (by omega)]
      · simp [scZ] at h
    · obtain ⟨j', rfl⟩ : ∃ j' : Nat, q' = (j' : Int) := ⟨q'.toNat, by omega⟩
      obtain ⟨x2, hx2⟩ : ∃ x, D[j']? = some x := ⟨D[j']'(by omega), List.getElem?_eq_getElem _⟩
      unfold nxq
      rw [r1, (rt j' x2 hx2).1]
      have := j2.2 j' j x2 x (by omega) hx2 hx
      omega
  · obtain ⟨L', s1, s2, s3⟩ := sub k (List.mem_append_right _ (by simp))
    have eD : D.take D.length = D := List.take_of_length_le (Nat.le_refl _)
    refine ⟨L', kDl D [], [], j3.2, s1, s2, gRq_j j1 s3, ty.2, a5, h3.2.2, ly D.length 201 [] k L' s1 s3 (by rw [eD]; exact ty.2) (fun y hy => ?_), fun p hp => by cases hp⟩
    rw [eD]
    rw [fT_det s1 bq1] at hy
    exact bo_all 201 [] k Bq Lq bq1 bq2 (fun z hz => ⟨(bq3 z hz).1, by have := (bq3 z hz).2; omega⟩) h3.2.1 bq4 y hy
  · obtain ⟨j, rfl⟩ : ∃ j : Nat, q = (j : Int) := ⟨q.toNat, by omega⟩
    obtain ⟨x, hx⟩ : ∃ x, D[j]? = some x := ⟨D[j]'(by omega), List.getElem?_eq_getElem _⟩
    unfold nxq
    rw [(rt j x hx).1]
    have := j4 j x hx
    omega
