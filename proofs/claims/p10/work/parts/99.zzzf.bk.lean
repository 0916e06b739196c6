/-! THE FLAT RUN of the reference in big steps: a { } behind its GENS. -/
section BKS
variable {A : aT} {D : List aDf} {T B c : Int → Int} {lev : Int → Nat} {σb : sg_S} {X : sg_S → Prop} {O : Int → Nat → List Int} {j f : Nat}
theorem hasT {σ : sg_S} {n bd : Int} {tl : List Int} (hX : pgX σ A D T B) (hn : 0 ≤ n ∧ n < A.1) (nw : nW A n) (k15 : A.2.1 n = 15) (ea : A.2.2.2.2.1 n = bd :: tl) : p_hasTest σ n ∧ ((v_hasTest σ n = 0 ∧ tl.drop (A.2.2.2.2.2 n).length = []) ∨ (v_hasTest σ n = 1 ∧ ∃ t, tl.drop (A.2.2.2.2.2 n).length = [t] ∧ sg_g σ 97 (200 * n + (tl.length + 1) - 1) = t)) := by
  obtain ⟨t1, t2, t3, t4, t5⟩ := tr_k hX.1 hn
  have hA := hX.2.2.2.2.1
  obtain ⟨g1, tk, g4, gt⟩ := ea_ts nw k15 ea
  rw [List.length_take] at tk
  have tlk : sg_g σ 96 n = tl.length + 1 := by rw [t2, ea]; rfl
  have ld : (tl.drop (A.2.2.2.2.2 n).length).length = tl.length - (A.2.2.2.2.2 n).length := List.length_drop
  have l200 : tl.length + 1 ≤ 200 := by
    have := t3
    rw [ea, List.length_cons] at this
    exact this
  refine ⟨?_, ?_⟩
  · unfold p_hasTest
    rw [tlk, t5]
    exact ⟨⟨by omega, by omega⟩, ⟨by omega, by omega⟩, fun _ => trivial, fun _ => trivial⟩
  · rcases gt with et | ⟨t, et⟩
    · left
      rw [et] at ld
      simp only [List.length_nil] at ld
      refine ⟨?_, et⟩
      unfold v_hasTest
      rw [tlk, t5]
      exact if_pos (by omega)
    · right
      rw [et] at ld
      simp only [List.length_cons, List.length_nil] at ld
      refine ⟨?_, t, et, ?_⟩
      · unfold v_hasTest
        rw [tlk, t5]
        exact if_neg (fun z => z (by omega))
      · have e1 : tl[(A.2.2.2.2.2 n).length]? = some t := by
          have := congrArg (fun q => q[0]?) et
          simp only [List.getElem?_drop, Nat.add_zero] at this
          exact this
        have := t4 ((A.2.2.2.2.2 n).length + 1) t (by rw [ea, List.getElem?_cons_succ]; exact e1)
        rw [← this]
        congr 1
        omega
theorem mpc_a (l : List Nat) (y x : Nat) : (l ++ List.replicate y x).map (fun n : Nat => (n : Int)) ++ [(x : Int)] = (l ++ List.replicate (y + 1) x).map (fun n : Nat => (n : Int)) := by
  rw [List.replicate_succ', List.map_append, List.map_append, List.map_append, List.append_assoc]
  rfl
theorem gfe_B {n bd : Int} {tl L : List Int} {sc : List (Int × Int)} (hX : pgX σb A D T B) (hO : okO A B O) (hG : gaH A B c O) (hcb : ∀ y, sg_g σb 116 y = c y) (h : stN A D T B lev j (f + 1) L sc n) (k15 : A.2.1 n = 15) (ea : A.2.2.2.2.1 n = bd :: tl) {σ2 : sg_S} {ρ2 : fEv} {fr b sv : Int} {m l : Nat} {s2 : fSt} {vs : List (List vaF)} (S2 : fSs σb σ2 (fr + 1) (b + (A.2.2.2.2.2 n).length) sv s2) (T2 : gfT σ2 fr n (A.2.2.2.2.2 n).length b l sv) (hs2 : scFX A D T σ2 ρ2 l sc) (hl : l ≤ 6000) (f0 : 0 ≤ fr) (b0 : 0 ≤ b) (hv2 : ∀ (i : Nat) (x : Int) (v : List vaF), (tl.take (A.2.2.2.2.2 n).length)[i]? = some x → vs[i]? = some v → ∃ R, fX σ2 6000 (sg_g σ2 133 (b + i)) (T x).toNat v R) (hvl : vs.length = (A.2.2.2.2.2 n).length ∧ ∀ u ∈ vs, u.length = l) (hm : 2 * (2000 - s2.1) + (fr + 1) ≤ (m : Int)) (kE : ¬ eaE l vs → ∀ σ', sg_F flL σb σ' → sg_g σ' 88 73 = 3 → fcX σ' s2 → X σ') (kC : eaE l vs → ∀ s', fCa (bTy A D T) (fRp l ((vs.getD 0 []).map (fun v => (itF v).length))) (O n 0) s2 ρ2 = .inl (8, s') → ∀ σ', sg_F flL σb σ' → sg_g σ' 88 73 = 8 → fcX σ' s' → X σ') (kG : eaE l vs → ∀ s3 ρ3, fCa (bTy A D T) (fRp l ((vs.getD 0 []).map (fun v => (itF v).length))) (O n 0) s2 ρ2 = .inr (s3, ρ3) → (∀ y, ρ3 y = if y ∈ O n 0 then fPk (ρ2 y) (fRp l ((vs.getD 0 []).map (fun v => (itF v).length))) else ρ2 y) → ∀ σ4 σ8 σ15 m15 z v246, ((tl.drop (A.2.2.2.2.2 n).length = [z] ∧ v246 = ((A.2.2.2.2.2 n).length : Int) + 1) ∨ (tl.drop (A.2.2.2.2.2 n).length = [] ∧ z = bd ∧ v246 = ((A.2.2.2.2.2 n).length : Int) + 2)) → fKp A D T σ2 σ4 ρ2 ρ2 fr b sv → (∀ x, sg_g σ4 133 x = sg_g σ2 133 x) → fEx σ2 σ4 → sg_F caL2 σ4 σ8 → fEx σ4 σ8 → (∀ y, y ∉ O n 0 → sg_g σ8 134 y = sg_g σ4 134 y) → (∀ (i : Nat) (x : Int), (O n 0)[i]? = some x → sg_g σ8 148 (sv + i) = x ∧ sg_g σ8 149 (sv + i) = sg_g σ4 134 x) → (∀ i, i < sv → sg_g σ8 148 i = sg_g σ4 148 i ∧ sg_g σ8 149 i = sg_g σ4 149 i) → fSw σb σ15 (fr + 1) (b + (A.2.2.2.2.2 n).length) (sv + (O n 0).length) s3 → gfT σ15 fr n v246 b l sv → fKp A D T σ8 σ15 ρ3 (fUs ρ3 (210 + 4 * n) 0 (vs.map flF)) fr (b + (A.2.2.2.2.2 n).length) (sv + (O n 0).length) → scFX A D T σ15 (fUs ρ3 (210 + 4 * n) 0 (vs.map flF)) (fRp l ((vs.getD 0 []).map (fun v => (itF v).length))).length (gsc n T 0 (tl.take (A.2.2.2.2.2 n).length) ++ sc.filter (fun p => decide (p.1 ∈ O n 0))) → 2 * (2000 - s3.1) + fr ≤ ((m15 : Nat) : Int) → (fRp l ((vs.getD 0 []).map (fun v => (itF v).length))).length ≤ 6000 → ∀ Q' : sg_S → Prop, (∀ σ', Rf X m15 σ' → Q' σ') → V_flatBegin σ15 z ((fRp l ((vs.getD 0 []).map (fun v => (itF v).length))).length : Int) Q') : Rf X m σ2 := by
  have hA := hX.2.2.2.2.1
  obtain ⟨w1, w2, w3, w4, w5, w6⟩ := stN_w h
  have hX2 := gFX hX S2.1
  obtain ⟨t1, t2, t3, t4, t5⟩ := tr_k hX2.1 w2
  obtain ⟨pt, hht⟩ := hasT hX2 w2 w1 k15 ea
  obtain ⟨g1, tk, g4, gt⟩ := ea_ts w1 k15 ea
  obtain ⟨Lb, Lt, hb, hLt, nb, hr, hrb, ht1, ht0, hPs⟩ := ea_out hA hO h k15 ea
  have eO := ((hG n).2 k15 bd tl Lb Lt ea hb hLt hr).1
  have bb := fS_b S2
  have b2 := fS_b S2
  obtain ⟨G, hGe⟩ : ∃ G, G = (A.2.2.2.2.2 n).length := ⟨_, rfl⟩
  rw [← hGe] at S2 T2 hv2 hvl kG hht g1 tk g4 gt ht1 ht0 t5 b2 hLt
  have sea := stN_e hA h k15 ea
  rw [← hGe] at sea
  have ltl : G ≤ tl.length := by rw [List.length_take] at tk; omega
  have gen : ∀ jj : Nat, jj < G → ∃ x R, tl[jj]? = some x ∧ 0 < T x ∧ fX σ2 6000 (sg_g σ2 133 (b + jj)) ((T x - 1).toNat + 1) (vs.getD jj []) R ∧ (vs.getD jj []).length = l ∧ vs[jj]? = some (vs.getD jj []) := fun jj hj => by
    obtain ⟨x, hx⟩ : ∃ x, tl[jj]? = some x := ⟨_, List.getElem?_eq_getElem (by omega)⟩
    have hx' : (tl.take G)[jj]? = some x := by rw [List.getElem?_take_of_lt hj]; exact hx
    obtain ⟨v, hv⟩ : ∃ v, vs[jj]? = some v := ⟨_, List.getElem?_eq_getElem (by omega)⟩
    have ev : vs.getD jj [] = v := by rw [List.getD_eq_getElem?_getD, hv]; rfl
    have Tx := (sea.1 x (List.mem_of_getElem? hx')).2
    obtain ⟨R, hR⟩ := hv2 jj x v hx' hv
    rw [ev]
    exact ⟨x, R, hx, Tx, by rw [show (T x - 1).toNat + 1 = (T x).toNat by omega]; exact hR, hvl.2 v (List.mem_of_getElem? hv), hv⟩
  obtain ⟨x0, R0, hx0, T0, fx0, l0, hv0⟩ := gen 0 (by omega)
  rw [show b + ((0 : Nat) : Int) = b by omega] at fx0
  obtain ⟨r0, r0', R0', eR0, lR0, rl0, rf0, cell0, -, rw0, rw0'⟩ := fX_s fx0
  generalize hv00 : vs.getD 0 [] = v0 at fx0 l0 hv0 rl0 rf0 cell0 kC kG
  have lnl : (v0.map (fun v => (itF v).length)).length = l := by rw [List.length_map]; exact l0
  have rpl : (fRp l (v0.map (fun v => (itF v).length))).length = (flF v0).length := by rw [fRp_l lnl, flF_l]
  have rp6 : (fRp l (v0.map (fun v => (itF v).length))).length ≤ 6000 := by
    rw [rpl]
    have := rw0'.2.2.1
    omega
  have tlk : sg_g σ2 96 n = tl.length + 1 := by rw [t2, ea]; rfl
  have l200 : tl.length + 1 ≤ 200 := by
    have := t3
    rw [ea, List.length_cons] at this
    exact this
  have tz := t4 0 bd (by rw [ea]; rfl)
  rw [show 200 * n + ((0 : Nat) : Int) = 200 * n by omega] at tz
  obtain ⟨a1, a2, ⟨a3, a4, a5⟩, c2, hN⟩ := id S2
  obtain ⟨hI, -⟩ := id hN
  obtain ⟨i1, i2, i3, i4, i5⟩ := hI
  obtain ⟨m, rfl⟩ : ∃ m', m = m' + 1 := ⟨m - 1, by omega⟩
  refine rf_g (by omega) a2 (fun Qz hz => gf_each hX2 w2 a3 ⟨f0, by omega⟩ T2.1 k15 (fun Q' hQ' => ?_))
  have hQ2 : ∀ σ', Rf X m σ' → Q' σ' := fun σ' hr => hQ' σ' (fun _ => hz σ' hr)
  obtain ⟨p1, p2, p3, p4, p5⟩ := id T2
  unfold V_flatEach
  rw [p1, p2, p3, p4, p5, t5, tz, tlk]
  refine ⟨⟨f0, by omega⟩, ⟨by omega, by omega⟩, ⟨by omega, by omega⟩, fun σ4 e4 => ⟨fun _ => ⟨⟨by omega, by omega⟩, ⟨by omega, by omega⟩, ⟨by omega, by omega⟩, ⟨by omega, by omega⟩, ⟨by omega, by omega⟩, fun z => absurd rfl z, fun _ => ?_⟩, fun z => by omega⟩⟩
  obtain ⟨S4, T4, f4, V4⟩ := gsf_w (A := A) (D := D) (T := T) (ρ := ρ2) (b' := b) S2 T2 (s' := (G : Int) + 1) ⟨by omega, by omega⟩ e4
  have q91 : sg_g σ2 88 91 ≤ 60000 ∧ sg_g σ2 88 87 ≤ 30000 := ⟨by omega, by omega⟩
  refine ⟨fun p v163 σ5 => ∃ x : Nat, v163 = x ∧ p = l - x ∧ x ≤ l ∧ σ5 = σ4 ∧ ∀ jj : Nat, jj < G → ∀ y, y < x → ((vs.getD jj []).getD y (nmF 0)) [] = (v0.getD y (nmF 0)) [], fun σ5 => σ5 = σ4 ∧ ∀ jj : Nat, jj < G → ∀ y, y < l → ((vs.getD jj []).getD y (nmF 0)) [] = (v0.getD y (nmF 0)) [], ⟨_, 0, rfl, rfl, Nat.zero_le _, rfl, fun jj _ y hy => by omega⟩, ?_, ?_⟩
  · rintro p v163 σ5 rx f5 ⟨x, rfl, ep, hx, e5, hE⟩
    refine ⟨fun z => ⟨e5, by rw [show l = x by omega]; exact hE⟩, fun z => ?_⟩
    refine ⟨fun p' v320 σ6 => ∃ v : Nat, v320 = v ∧ p' = G - v ∧ (1 ≤ v ∧ v ≤ G) ∧ σ6 = σ4 ∧ ∀ jj : Nat, jj < v → ∀ y, y < x + 1 → ((vs.getD jj []).getD y (nmF 0)) [] = (v0.getD y (nmF 0)) [], fun σ6 => σ6 = σ4 ∧ ∀ jj : Nat, jj < G → ∀ y, y < x + 1 → ((vs.getD jj []).getD y (nmF 0)) [] = (v0.getD y (nmF 0)) [], ⟨_, 1, rfl, rfl, ⟨Nat.le_refl _, g1⟩, e5, fun jj hj y hy => ?_⟩, ?_, ?_⟩
    · rw [show jj = 0 by omega, hv00]
    · rintro p' v320 σ6 rv f6 ⟨v, rfl, ep', hv, e6, hE6⟩
      refine ⟨fun c => ⟨e6, fun jj hj => hE6 jj (by omega)⟩, fun c => ?_⟩
      obtain ⟨xv, Rv, y1, y2, y3, y4, y5⟩ := gen v (by omega)
      obtain ⟨pa, va⟩ := pRX fx0 q91 (i := x) (by omega)
      obtain ⟨pb, vb⟩ := pRX y3 q91 (i := x) (by omega)
      rw [va, vb]
      refine ⟨⟨b0, by omega⟩, pa, ⟨by omega, by omega⟩, ⟨by omega, by omega⟩, pb, fun ce => ⟨⟨by omega, by omega⟩, _, ?_, v + 1, by omega, rfl, ⟨by omega, by omega⟩, e6, fun jj hj y hy => ?_⟩, fun ce => ?_⟩
      · omega
      · by_cases cj : jj = v
        · by_cases cy : y = x
          · rw [cj, cy]; exact ce.symm
          · exact hE jj (by omega) y (by omega)
        · exact hE6 jj (by omega) y hy
      · subst e6
        refine m_endsX S4.2.1 ⟨by decide, by decide⟩ (fun σ' u1 u2 _ => hQ2 σ' (rf_s (by rw [u1]; decide) (kE (fun he => ce ?_) σ' (sg_F_t S4.1 (sg_F_m u2 rfl)) u1 (fcX_F u2 rfl S4.2.2.2.1))))
        have := he x (by omega) _ (List.mem_of_getElem? y5)
        rw [hv00] at this
        exact this.symm
    · rintro σ6 f6 ⟨e6, hE6⟩
      exact ⟨⟨by omega, by omega⟩, _, by omega, x + 1, by omega, rfl, by omega, e6, hE6⟩
  · rintro σ5 f5 ⟨e5, hE⟩
    subst e5
    have hEa : eaE l vs := fun i hi u hu => by
      obtain ⟨jj, hjj⟩ := List.mem_iff_getElem?.mp hu
      have hj := gE_l hjj
      have := hE jj (by omega) i hi
      have ej : vs.getD jj [] = u := by rw [List.getD_eq_getElem?_getD, hjj]; rfl
      rw [ej] at this
      rw [hv00]
      exact this
    refine m_ch2 (c := c) (Lb := Lb) (Lt := Lt) (gFX hX S4.1) (fun y => by rw [sg_F_ga S4.1 rfl]; exact hcb y) hb nb hr hrb pt ?_ (fun σ10 o10 f10 σ11 e11 => ?_)
    · rcases hht with ⟨q1, q2⟩ | ⟨q1, t, q2, q3⟩
      · exact Or.inl ⟨q1, ht0 q2⟩
      · obtain ⟨y1, y2⟩ := ht1 t q2
        exact Or.inr ⟨q1, by rw [q3]; exact y1, y2⟩
    rw [← eO] at o10
    have f11 : sg_F [94088] σ10 σ11 := by rw [e11]; exact sg_F_w (sg_F_r _ _) rfl _
    refine ⟨fun p v206 σ12 => ∃ x : Nat, v206 = x ∧ p = l - x ∧ x ≤ l ∧ lX σ12 ((fRp x (v0.map (fun v => (itF v).length))).map (fun n : Nat => (n : Int))), fun σ12 => lX σ12 ((fRp l (v0.map (fun v => (itF v).length))).map (fun n : Nat => (n : Int))), ⟨_, 0, rfl, rfl, Nat.zero_le _, lX_0 e11⟩, ?_, ?_⟩
    · rintro p v206 σ12 rx f12 ⟨x, rfl, ep, hx, hlx⟩
      refine ⟨fun w => by rw [show l = x by omega]; exact hlx, fun w => ?_⟩
      obtain ⟨pa, va⟩ := pRX fx0 q91 (i := x) (by omega)
      rw [va]
      obtain ⟨-, cx1, cx2⟩ := cell0 x (by omega)
      have lnx : (v0.map (fun v => (itF v).length)).getD x 0 = ((v0.getD x (nmF 0)) []).toNat := by
        rw [List.getD_eq_getElem?_getD, List.getElem?_map, gD_i (by omega : x < v0.length), Option.map_some, Option.getD_some, itF_l]
      have rle := fRp_le (v0.map (fun v => (itF v).length)) (x := x + 1) (y := l) (by omega)
      rw [fRp_s, List.length_append, List.length_replicate, lnx] at rle
      refine ⟨fun p v284 σ13 => ∃ y : Nat, v284 = y ∧ p = ((v0.getD x (nmF 0)) []).toNat - y ∧ y ≤ ((v0.getD x (nmF 0)) []).toNat ∧ lX σ13 ((fRp x (v0.map (fun v => (itF v).length)) ++ List.replicate y x).map (fun n : Nat => (n : Int))), fun σ13 => lX σ13 ((fRp (x + 1) (v0.map (fun v => (itF v).length))).map (fun n : Nat => (n : Int))), ⟨_, 0, rfl, rfl, Nat.zero_le _, by rw [List.replicate_zero, List.append_nil]; exact hlx⟩, ?_, fun σ13 f13 h13 => ⟨⟨by omega, by omega⟩, _, by omega, x + 1, by omega, rfl, by omega, h13⟩⟩
      rintro p' v284 σ13 ry f13 ⟨y, rfl, ep', hy, hl13⟩
      refine ⟨⟨b0, by omega⟩, pa, fun cc => ?_, fun cc => m_listX hl13 (by rw [List.length_map, List.length_append, List.length_replicate]; omega) ⟨by omega, by omega⟩ (fun σ14 h14 f14 _ => ⟨⟨by omega, by omega⟩, _, by omega, y + 1, by omega, rfl, by omega, by rw [mpc_a] at h14; exact h14⟩)⟩
      rw [fRp_s, lnx, show ((v0.getD x (nmF 0)) []).toNat = y by omega]
      exact hl13
    · intro σ12 f12 l12
      have F12 : sg_F [119, 120, 121, 143, 47088, 50088, 94088] σ5 σ12 := sg_F_t (sg_F_m f10 rfl) (sg_F_t (sg_F_m f11 rfl) (sg_F_m f12 rfl))
      have oR12 : oR σ12 (O n 0) := ⟨by rw [sg_F_g f12 (by rfl), sg_F_g f11 (by rfl)]; exact o10.1, fun i x hx => by rw [sg_F_ga f12 rfl, sg_F_ga f11 rfl]; exact o10.2.1 i x hx, o10.2.2⟩
      have ol : (O n 0).length ≤ 200 := by
        rw [eO]
        have := gaO_l (A := A) (B := B) (c := c) (L := Lb ++ Lt) (but := n) A.1.toNat
        omega
      have e93 : sg_g σ12 88 93 = ((fRp l (v0.map (fun v => (itF v).length))).length : Int) := by rw [l12.1, List.length_map]
      rw [e93]
      have hs4 := scFX_u hs2 V4 (fun p _ => rfl)
      refine m_carS S4 F12 hs4 oR12 ol hPs l12 fRp_m rp6 (fun s' e σ' y1 y2 y3 _ _ => ⟨fun z => absurd rfl z, fun _ => hQ2 σ' (rf_s (by rw [y2]; decide) (kC hEa s' e σ' y1 y2 y3))⟩) (fun s3 ρ3 e σ8 S8 F8 ex8 x8 er v8 r8 l8 _ _ => ⟨fun _ => ?_, fun z => by omega⟩)
      have ex4 : fEx σ2 σ5 := fEx_F f4 rfl
      have ex28 : fEx σ2 σ8 := fEx_t ex4 ex8
      have e133 : ∀ x, sg_g σ8 133 x = sg_g σ2 133 x := fun x => by rw [sg_F_ga F8 rfl, sg_F_ga f4 rfl]
      have b8 := fS_b S8
      obtain ⟨d1, d2, ⟨d3, d4, d5⟩, d6, dN⟩ := id S8
      obtain ⟨⟨j1, j2, j3, j4, j5⟩, jB, jn1, jn2, jn3⟩ := id dN
      have vgen : ∀ jj : Nat, jj < G → (vs.map flF)[jj]? = some (flF (vs.getD jj [])) := fun jj hj => by
        obtain ⟨x, R, y1, y2, y3, y4, y5⟩ := gen jj hj
        rw [List.getElem?_map, y5]; rfl
      refine ⟨fun p v228 σ14 => ∃ v : Nat, v228 = v ∧ p = G - v ∧ v ≤ G ∧ fEx σ8 σ14 ∧ sg_g σ14 88 87 = sg_g σ8 88 87 + v ∧ (∀ (jj : Nat) (x : Int), jj < v → tl[jj]? = some x → ∃ R, fX σ14 6000 (sg_g σ14 134 (210 + 4 * n + jj)) (T x - 1).toNat (flF (vs.getD jj [])) R) ∧ ∀ u : Int, ¬ (210 + 4 * n ≤ u ∧ u < 210 + 4 * n + v) → sg_g σ14 134 u = sg_g σ8 134 u, fun σ14 => fEx σ8 σ14 ∧ sg_g σ14 88 87 = sg_g σ8 88 87 + G ∧ (∀ (jj : Nat) (x : Int), jj < G → tl[jj]? = some x → ∃ R, fX σ14 6000 (sg_g σ14 134 (210 + 4 * n + jj)) (T x - 1).toNat (flF (vs.getD jj [])) R) ∧ ∀ u : Int, ¬ (210 + 4 * n ≤ u ∧ u < 210 + 4 * n + G) → sg_g σ14 134 u = sg_g σ8 134 u, ⟨_, 0, rfl, rfl, Nat.zero_le _, fEx_r _, by omega, fun jj x hj _ => by omega, fun u _ => rfl⟩, ?_, ?_⟩
      · rintro p v228 σ14 rv f14 ⟨v, rfl, ep, hv, ex14, e87, hg14, ho14⟩
        refine ⟨fun w => by rw [show G = v by omega]; exact ⟨ex14, e87, hg14, ho14⟩, fun w => ?_⟩
        have vo : v_ofGen n (v : Int) = 210 + 4 * n + v := rfl
        obtain ⟨x, R, y1, y2, y3, y4, y5⟩ := gen v (by omega)
        obtain ⟨rr, rr', RR, eRR, lRR, -⟩ := fX_s y3
        rw [eRR] at y3
        refine ⟨⟨⟨by omega, by omega⟩, ⟨by omega, by omega⟩, ⟨by omega, by omega⟩, trivial⟩, ⟨by omega, by omega⟩, ⟨by omega, by omega⟩, m_innerX ⟨by omega, by omega⟩ (fX_up (fEx_t ex28 ex14) y3) (fun w' σ15 ew ex15 fv15 e87' f15 rw' _ => ⟨by rw [vo]; exact ⟨by omega, by omega⟩, fun σ16 e16 => ⟨⟨by omega, by omega⟩, _, ?_, v + 1, by omega, rfl, by omega, ?_, ?_, fun jj x' hj hx' => ?_, fun u hu => ?_⟩⟩)⟩
        all_goals rw [vo] at e16
        all_goals have f16 : sg_F [134] σ15 σ16 := by rw [e16]; exact sg_F_w (sg_F_r _ _) rfl _
        · omega
        · exact fEx_t ex14 (fEx_t ex15 (fEx_F f16 rfl))
        · rw [sg_F_g f16 (by rfl)]; omega
        · by_cases cj : jj = v
          · rw [cj, y1] at hx'
            cases hx'
            rw [cj, e16, sg_gw_e _ _ _ _ rw']
            exact ⟨_, fX_up (by rw [← e16]; exact fEx_F f16 rfl) fv15⟩
          · obtain ⟨R', hR'⟩ := hg14 jj x' (by omega) hx'
            rw [e16, sg_gw_k _ _ _ _ _ _ (by omega), sg_F_ga f15 rfl]
            exact ⟨R', fX_up (by rw [← e16]; exact fEx_t ex15 (fEx_F f16 rfl)) hR'⟩
        · rw [e16, sg_gw_k _ _ _ _ _ _ (by omega), sg_F_ga f15 rfl]; exact ho14 u (by omega)
      · rintro σ14 f14 ⟨ex14, e87, hg14, ho14⟩
        refine ⟨pt, ⟨fun _ => ⟨⟨by omega, by omega⟩, trivial⟩, fun _ => ⟨⟨by omega, by omega⟩, trivial⟩⟩, fun v246 e246 r246 σ15 e15 => ⟨pt, fun v255 e255 r255 => ?_⟩⟩
        have f15 : sg_F [127] σ14 σ15 := by rw [e15]; exact sg_F_w (sg_F_r _ _) rfl _
        have F815 : sg_F [127, 134, 139, 140, 141, 88088] σ8 σ15 := sg_F_t (sg_F_m f14 rfl) (sg_F_m f15 rfl)
        have ex815 : fEx σ8 σ15 := fEx_t ex14 (fEx_F f15 rfl)
        have c134 : ∀ u, sg_g σ15 134 u = sg_g σ14 134 u := fun u => sg_F_ga f15 rfl
        have k84 : sg_g σ15 88 84 = sg_g σ8 88 84 := sg_F_g F815 (by rfl)
        have k85 : sg_g σ15 88 85 = sg_g σ8 88 85 := sg_F_g F815 (by rfl)
        have k91 : sg_g σ15 88 91 = sg_g σ8 88 91 := sg_F_g F815 (by rfl)
        have k87 : sg_g σ15 88 87 = sg_g σ8 88 87 + G := by rw [sg_F_g f15 (by rfl)]; exact e87
        have k99 : sg_g σ15 88 99 = sg_g σ8 88 99 := sg_F_g F815 (by rfl)
        have k62 : sg_g σ15 88 62 = sg_g σ8 88 62 := sg_F_g F815 (by rfl)
        have k70 : sg_g σ15 88 70 = sg_g σ8 88 70 := sg_F_g F815 (by rfl)
        have N15 : fNw σ15 := ⟨⟨⟨by omega, by omega⟩, ⟨by omega, by omega⟩, ⟨by omega, by omega⟩, ⟨by omega, by omega, by omega⟩, by omega, by omega⟩, fun i x y => by rw [sg_F_ga F815 rfl]; exact jB i x (by omega), by omega, by omega, by omega⟩
        have S15 : fSw σb σ15 (fr + 1) (b + G) (sv + (O n 0).length) s3 := ⟨sg_F_t d1 (sg_F_m F815 rfl), by rw [sg_F_g F815 (by rfl)]; exact d2, ⟨by omega, by omega, by omega⟩, fcX_F F815 rfl d6, N15⟩
        have T15 : gfT σ15 fr n v246 b l sv := ⟨by rw [sg_F_ga F815 rfl, sg_F_ga F8 rfl]; exact T4.1, by rw [e15, sg_gw_e _ _ _ _ r246], by rw [sg_F_ga F815 rfl, sg_F_ga F8 rfl]; exact T4.2.2.1, by rw [sg_F_ga F815 rfl, sg_F_ga F8 rfl]; exact T4.2.2.2.1, by rw [sg_F_ga F815 rfl, sg_F_ga F8 rfl]; exact T4.2.2.2.2⟩
        obtain ⟨us1, us2⟩ := rlF_us (A := A) (D := D) (T := T) (σ := σ8) (σ1 := σ15) (ρ := ρ3) (b0 := 210 + 4 * n) (vs := vs.map flF) ex815 (fun i v hv => by
          have hi := gE_l hv
          rw [List.length_map, hvl.1] at hi
          rw [vgen i hi] at hv
          cases hv
          obtain ⟨x, R, y1, y2, y3, y4, y5⟩ := gen i hi
          obtain ⟨R', hR'⟩ := hg14 i x hi y1
          rw [c134, bTy_g ea y1 ⟨w2.1, by omega⟩ (by omega)]
          exact ⟨R', fX_up (fEx_F f15 rfl) hR'⟩) (fun u hu => by
          rw [List.length_map, hvl.1] at hu
          rw [c134]
          exact ho14 u hu)
        have U15 : fKp A D T σ8 σ15 ρ3 (fUs ρ3 (210 + 4 * n) 0 (vs.map flF)) fr (b + G) (sv + (O n 0).length) := ⟨ex815, fun x _ => sg_F_ga F815 rfl, us2, fun i hi => ⟨sg_F_ga F815 rfl, by rw [e15, sg_gw_k _ _ _ _ _ _ (by omega), sg_F_ga f14 rfl], sg_F_ga F815 rfl, sg_F_ga F815 rfl, sg_F_ga F815 rfl, sg_F_ga F815 rfl⟩, fun i _ => ⟨sg_F_ga F815 rfl, sg_F_ga F815 rfl⟩⟩
        have nL : n ∈ L := fT_sub h.2.1 _ (by simp)
        have sc15 : scFX A D T σ15 (fUs ρ3 (210 + 4 * n) 0 (vs.map flF)) (fRp l (v0.map (fun v => (itF v).length))).length (gsc n T 0 (tl.take G) ++ sc.filter (fun p => decide (p.1 ∈ O n 0))) := fun p hp => by
          rcases List.mem_append.mp hp with q | q
          · obtain ⟨i, u, hu, ep⟩ := gsc_m _ _ _ q
            have hi := gE_l hu
            rw [tk] at hi
            rw [List.getElem?_take_of_lt hi] at hu
            have e1 : p.1 = 210 + 4 * n + (i : Int) := by rw [ep]; simp only; omega
            have e2 : p.2 = T u - 1 := by rw [ep]
            have bt := bTy_g (D := D) (T := T) ea hu ⟨w2.1, by omega⟩ (by omega : i < 4)
            obtain ⟨x, R, y1, y2, y3, y4, y5⟩ := gen i hi
            rw [e1]
            refine ⟨⟨by omega, by omega⟩, by rw [e2, bt], us1 i (by rw [List.length_map]; omega), ?_⟩
            rw [show (210 : Int) + 4 * n + (i : Int) = 210 + 4 * n + ((0 : Nat) : Int) + (i : Int) by omega, fUs_at (vgen i hi)]
            have := eaE_l hEa hvl.2 (by omega) (List.mem_of_getElem? y5)
            rw [hv00] at this
            exact this
          · obtain ⟨z1, z2, z3, z4⟩ := scFX_c hs4 er v8 p q
            refine ⟨z1, z2, us2 _ z3, ?_⟩
            rw [fUs_no, z4]
            rw [List.length_map, hvl.1]
            by_cases q1 : p.1 < 210 + 4 * n + ((0 : Nat) : Int)
            · exact Or.inl q1
            · right
              refine Decidable.byContradiction (fun q2 => (h.2.2.2.2 p (List.mem_filter.mp q).1).2 (Or.inl (Or.inr ⟨by omega, by omega, ?_⟩)))
              rw [show (p.1 - 210) / 4 = n by omega]; exact nL
        have q8 := fCa_s e
        refine kG hEa s3 ρ3 e er σ5 σ8 σ15 m v255 v246 ?_ V4 (fun x => sg_F_ga f4 rfl) ex4 F8 ex8 x8 r8 l8 S15 T15 U15 sc15 (by omega) rp6 _ (fun σ' hr' _ => hQ2 σ' hr')
        rcases hht with ⟨y1, y2⟩ | ⟨y1, t, y2, y3⟩
        · rw [y1, if_pos rfl] at e246 e255
          exact Or.inr ⟨y2, e255, e246⟩
        · rw [y1, if_neg (by decide)] at e246 e255
          exact Or.inl ⟨by rw [e255, y3]; exact y2, e246⟩
end BKS
