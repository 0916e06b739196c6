/-! flatEach: its test is done. -/
section GF
variable {A : aT} {D : List aDf} {T B : Int → Int} {lev : Int → Nat} {r : Int}
theorem cw_m {σ : sg_S} {p : Int} : ∀ {i j : Nat}, i ≤ j → cw σ p i ≤ cw σ p j ∧ cw σ p j - cw σ p i ≤ (j : Int) - i
  | i, 0, h => by
    have : i = 0 := by omega
    subst this
    exact ⟨Int.le_refl _, by omega⟩
  | i, j + 1, h => by
    by_cases e : i = j + 1
    · subst e; exact ⟨Int.le_refl _, by omega⟩
    · have := cw_m (σ := σ) (p := p) (i := i) (j := j) (by omega)
      simp only [cw]
      split <;> omega
theorem rb_L {j f : Nat} {L : List Int} {sc : List (Int × Int)} {x : Int} (hA : A.1 ≤ 200) (h : stN A D T B lev j f L sc x) : ∀ y ∈ L, A.2.1 y = 1 → rb A (B y) := fun y hy ky => by
  rcases stN_v hA h hy ky with ⟨q, -⟩ | q
  · exact (h.2.2.2.2 _ q).1
  · rcases q with ⟨q1, q2⟩ | ⟨q1, q2, q3⟩
    · have := (h.2.2.2.1 _ q2).1
      exact ⟨⟨by omega, by omega⟩, fun _ => this.2, fun z => by omega⟩
    · have := (h.2.2.2.1 _ q3).1
      exact ⟨⟨by omega, by omega⟩, fun z => by omega, fun _ _ => this.2⟩
theorem m_eC {σ : sg_S} {m : Nat} {tys : List (Int × Int × Int)} {Q : sg_S → Prop} (hX : pgX σ A D T B) (hN : fN σ) (h : fTop A D T B lev r σ m tys) (e0 : sg_g σ 88 73 = 0) (k15 : A.2.1 (sg_g σ 126 m) = 15) (hst : sg_g σ 127 m = (A.2.2.2.2.2 (sg_g σ 126 m)).length + 1) (k : ∀ σ', fQ A D T B lev r σ σ' → Q σ') : V_flatEach σ m Q := by
  have hN' := hN
  obtain ⟨hI, hB, n1, n2, n3⟩ := hN
  have hI' := hI
  obtain ⟨i1, i2, i3, i4, i5⟩ := hI
  obtain ⟨fm, j, f, L, sc, X, h1, h2, h3, h4, h5, h6, h7, h8⟩ := h
  obtain ⟨hP, hD, eT, eB, hA, hdt⟩ := id hX
  obtain ⟨w1, w2, w3, w4, w5, w6⟩ := stN_w h4
  obtain ⟨t1, t2, t3, t4, t5⟩ := tr_k hP w2
  have g4 := (w1.2.2.2.2.2.2.1 k15).2
  have gk := (w1.2.2.2.2.2.2.1 k15).1
  have g1 := w1.2.2.2.2.2.2.2.2 k15
  rw [fK_15 k15] at h7
  obtain ⟨bd, tl, ea, q⟩ := h7
  rw [ea] at gk
  simp only [List.length_cons] at gk
  have gg := w5 (by omega)
  rw [kTy_15 k15, ea] at gg
  obtain ⟨y1, y2, y3⟩ := kIs_in gg
  rcases q with ⟨i, q1, q2, -⟩ | ⟨ts, q1, q2, q3, f', L', sc', ha, has, hsc⟩ | ⟨mm, q1, -⟩
  · omega
  rotate_left
  · omega
  have sea := stN_each hA h4 k15 ea
  obtain ⟨G, hG⟩ : ∃ G, G = (A.2.2.2.2.2 (sg_g σ 126 m)).length := ⟨_, rfl⟩
  rw [← hG] at q2 q3 g4 g1 gk hst sea y3
  have tll : tl.length = G + 1 := by
    have := congrArg List.length q2
    rw [List.length_drop] at this
    simp only [List.length_cons, List.length_nil] at this
    omega
  have tk : (tl.take G).length = G := by rw [List.length_take]; omega
  have tsT : T ts = 0 := by
    have e1 : tl[G]? = some ts := by
      have := congrArg (fun q => q[0]?) q2
      simp only [List.getElem?_drop, Nat.add_zero] at this
      exact this
    rw [Bool.or_eq_true, decide_eq_true_eq, decide_eq_true_eq] at y3
    simp only [List.map_cons, List.length_cons, List.length_map] at y3
    rcases y3 with y | y
    · omega
    · rw [show tl.length + 1 - 1 = G + 1 by omega, List.getD_cons_succ, List.getD_eq_getElem?_getD, List.getElem?_map, e1] at y
      exact y
  have tyl : tys.length = G + 1 := by rw [q3]; simp only [List.length_append, List.length_map, List.length_cons, List.length_nil]; omega
  obtain ⟨m1, hm1⟩ : ∃ m1, m1 = csT σ (sg_g σ 128 m) (sg_g σ 145 m) := ⟨_, rfl⟩
  rw [← hm1] at q3 hsc
  have vi : fL σ 0 m1 (sg_g σ 133 (sg_g σ 88 70 - 1)) := by
    have := fLx_L (h3 G (T ts, m1, X - sg_g σ 145 m) (by rw [q3, List.getElem?_append_right (by simp only [List.length_map]; omega)]; simp only [List.length_map]; rw [tk, Nat.sub_self]; rfl))
    simp only at this
    rw [tsT] at this
    rw [show sg_g σ 88 70 - 1 = sg_g σ 128 m + (G : Int) by omega]
    exact this
  obtain ⟨x0, hx0⟩ : ∃ x, tl[0]? = some x := ⟨_, List.getElem?_eq_getElem (by omega)⟩
  have x0m : x0 ∈ tl.take G := by
    rw [List.mem_iff_getElem?]
    exact ⟨0, by rw [List.getElem?_take_of_lt (by omega)]; exact hx0⟩
  have T0 : 0 < T x0 := (sea.1 x0 x0m).2
  have v0x : fLx σ ((T x0).toNat - 1 + 1) (sg_g σ 145 m) (sg_g σ 88 85 + X) (sg_g σ 133 (sg_g σ 128 m)) := by
    have := h3 0 (T x0, sg_g σ 145 m, X) (by rw [q3, List.getElem?_append_left (by simp only [List.length_map]; omega), List.getElem?_map, List.getElem?_take_of_lt (by omega), hx0]; rfl)
    rw [show sg_g σ 128 m + ((0 : Nat) : Int) = sg_g σ 128 m by omega] at this
    rwa [show (T x0).toNat - 1 + 1 = (T x0).toNat by omega]
  have v0 := fLx_L v0x
  have lX : sg_g σ 145 m ≤ sg_g σ 88 85 + X := by
    obtain ⟨R0, u1, u2, u3, u4⟩ := v0x
    cases R0 with
    | nil => simp at u2
    | cons x y =>
      have := (eX_b (fCh_drop 1 u1.2.2.2.2)).1
      simp only [List.drop_succ_cons, List.drop_zero] at this
      simp only [List.getD_cons_zero] at u3
      simp only [eX] at u4
      omega
  obtain ⟨rr, r', Rr, c1, c2, c3, c4, c5, c6, c7, c8⟩ := csT_l v0
  rw [← hm1] at c7
  obtain ⟨ri, Ri, d1, d2, d3⟩ := fL_c vi
  have csr : csT σ (sg_g σ 128 m) (sg_g σ 145 m) = cs σ rr.1 (sg_g σ 145 m).toNat := by unfold csT; rw [c8]
  have tz := t4 0 bd (by rw [ea]; rfl)
  rw [show 200 * sg_g σ 126 m + ((0 : Nat) : Int) = 200 * sg_g σ 126 m by omega] at tz
  unfold V_flatEach
  rw [t5, t2, ea, ← hG, tz]
  simp only [List.length_cons]
  refine ⟨⟨by omega, by omega⟩, ⟨by omega, by omega⟩, ⟨by omega, by omega⟩, fun σ4 e4 => ⟨fun _ => ⟨⟨by omega, by omega⟩, ⟨by omega, by omega⟩, ⟨by omega, by omega⟩, ⟨by omega, by omega⟩, ⟨by omega, by omega⟩, fun _ => ⟨⟨by omega, by omega⟩, fun z => by omega, fun _ => ⟨⟨by omega, by omega⟩, fun σ6 e6 => ⟨⟨by omega, by omega⟩, ?_⟩⟩⟩, fun z => by omega⟩, fun z => by omega⟩⟩
  have F6 : sg_F [127, 71088] σ σ6 := by rw [e6, e4]; exact sg_F_w (sg_F_w (sg_F_r _ _) rfl _) rfl _
  have g70 : sg_g σ6 88 70 = sg_g σ 88 70 - 1 := by rw [e6, sg_gw_e _ _ _ _ ⟨by omega, by omega⟩]
  have P6 := trT_X F6 rfl hX
  refine m_clear P6.1.1.1 ⟨P6.1.1.2.1, hA⟩ (fun σ7 m7 o7 f7 _ => ?_)
  have F7 : sg_F [120, 127, 47088, 71088] σ σ7 := sg_F_t (sg_F_m F6 rfl) (sg_F_m f7 rfl)
  refine m_mark (trT_X F7 rfl hX).1 hA m7 ha.2.1 ha.2.2.1 (fun y hy => (ha.2.2.2.1 y hy).1) (fun σ8 m8 f8 _ => ?_)
  rw [List.nil_append] at m8
  have F8 : sg_F [120, 121, 127, 47088, 50088, 71088] σ σ8 := sg_F_t (sg_F_m F7 rfl) (sg_F_m f8 rfl)
  have P8 := trT_X F8 rfl hX
  refine m_gatherO P8.1 P8.2 hA (by rw [sg_F_g f8 (by rfl)]; exact o7) m8 (rb_L hA ha) (fun σ10 O o1 o2 o3 f10 _ => ?_)
  have F10 : sg_F [119, 120, 121, 127, 47088, 50088, 71088] σ σ10 := sg_F_t (sg_F_m F8 rfl) (sg_F_m f10 rfl)
  have ex10 : fEx σ σ10 := fEx_F F10 rfl
  have hv10 := fV_up ex10 d1
  have g91 : sg_g σ10 88 91 = sg_g σ 88 91 := sg_F_g F10 (by rfl)
  have g87 : sg_g σ10 88 87 = sg_g σ 88 87 := sg_F_g F10 (by rfl)
  obtain ⟨ir1, ir2, ir3, ir4⟩ := d1.2.2.2.2.1
  refine m_where hv10 ⟨by omega, by omega⟩ (Or.inr rfl) (fun σ11 l11 f11 _ => ?_)
  obtain ⟨mN, hmN⟩ : ∃ mN, mN = cw σ ri.1 m1.toNat := ⟨_, rfl⟩
  have eN : (if (1 : Int) = 1 then cw σ10 ri.1 ri.2.toNat else ri.2 - cw σ10 ri.1 ri.2.toNat) = mN := by
    rw [if_pos rfl, hmN, d3]
    exact cw_e (fun j _ => sg_F_ga F10 rfl)
  rw [eN, d3] at l11
  have mNb : 0 ≤ mN ∧ mN ≤ 6000 := by
    have := cw_b (σ := σ) (p := ri.1) m1.toNat
    rw [hmN]
    omega
  have F11 : sg_F [119, 120, 121, 127, 143, 47088, 50088, 71088, 94088] σ σ11 := sg_F_t (sg_F_m F10 rfl) (sg_F_m f11 rfl)
  have ex11 := fEx_F F11 (by rfl)
  have I11 : fI σ11 := by
    unfold fI
    rw [sg_F_g (k := 84) F11 (by rfl), sg_F_g (k := 85) F11 (by rfl), sg_F_g (k := 91) F11 (by rfl), sg_F_g (k := 87) F11 (by rfl), sg_F_g (k := 99) F11 (by rfl), sg_F_g (k := 62) F11 (by rfl)]
    exact hI'
  have s11 : sg_g σ11 88 99 = sg_g σ 88 99 := sg_F_g F11 (by rfl)
  have B11 : sB σ11 := fun i x y => by rw [sg_F_ga F11 rfl]; exact hB i x (by omega)
  have oR11 : oR σ11 O := ⟨by rw [sg_F_g f11 (by rfl)]; exact o1.1, fun i x hx => by rw [sg_F_ga f11 rfl]; exact o1.2.1 i x hx, o1.2.2⟩
  obtain ⟨out1, out2, -⟩ := out_S hA ha o2
  have h93 := l11.1
  rw [h93]
  have bnd : ∀ p ∈ sc', fL σ11 p.2.toNat m1 (sg_g σ11 134 p.1) := fun p hp => by
    have := fL_up ex11 (fLx_L (hsc p hp).2)
    rw [und_top] at this
    rw [sg_F_ga (a := 134) F11 rfl]; exact this
  refine m_car (S := sc') I11 B11 oR11 o3 bnd out1 l11 (by omega) (fun σ' e _ _ => ⟨fun _ => k σ' (Or.inl e), fun z => absurd rfl z⟩) (fun σ12 I12 B12 ex12 S12 x12 u12 s12 k12 e12 f12 _ _ => ⟨fun z => by omega, fun _ => ?_⟩)
  have F12 : sg_F [119, 120, 121, 127, 134, 139, 140, 141, 142, 143, 144, 148, 149, 47088, 50088, 71088, 85088, 86088, 88088, 92088, 94088, 100088] σ σ12 := sg_F_t (sg_F_m F11 rfl) (sg_F_m f12 rfl)
  have ex012 : fEx σ σ12 := fEx_t ex11 ex12
  obtain ⟨p1, p2, p3, p4, p5⟩ := id I12
  refine m_stepped ⟨p1, p2⟩ ⟨by omega, by omega⟩ (fun σ' e _ _ => ⟨fun z => absurd rfl z, fun _ => k _ (Or.inl e)⟩) (fun σ13 f13 z1 z2 z3 z4 _ _ => ⟨fun _ σ14 e14 => ?_, fun z => by omega⟩)
  have f14 : sg_F [147] σ13 σ14 := by rw [e14]; exact sg_F_w (sg_F_r _ _) rfl _
  have F1214 : sg_F [147, 85088, 86088] σ12 σ14 := sg_F_t (sg_F_m f13 rfl) (sg_F_m f14 rfl)
  have ex14 : fEx σ σ14 := fEx_t ex012 (fEx_F F1214 rfl)
  have k91 : sg_g σ14 88 91 = sg_g σ12 88 91 := sg_F_g F1214 (by rfl)
  have k87 : sg_g σ14 88 87 = sg_g σ12 88 87 := sg_F_g F1214 (by rfl)
  have gv14 := fV_up ex14 c1
  have iv14 := fV_up ex14 d1
  obtain ⟨gr1, gr2, gr3, gr4⟩ := c1.2.2.2.2.1
  have cell : ∀ y, 0 ≤ y → y < sg_g σ 88 91 → sg_g σ14 142 y = sg_g σ 142 y := fun y a b => ex14.2.2.2 y a b
  have lnb : ∀ x, 0 ≤ x → x < sg_g σ 145 m → (0 ≤ sg_g σ14 142 (rr.1 + x) ∧ sg_g σ14 142 (rr.1 + x) ≤ 200) ∧ 0 ≤ cs σ rr.1 x.toNat ∧ cs σ rr.1 (x + 1).toNat = cs σ rr.1 x.toNat + sg_g σ14 142 (rr.1 + x) ∧ cs σ rr.1 (x + 1).toNat ≤ m1 := fun x a b => by
    rw [cell _ (by omega) (by omega), ← c7]
    exact ln_b c4 (by rw [c7, hm1]; exact csr) c3 ⟨a, b⟩
  refine ⟨fun p at_ x σ15 => p = (sg_g σ 145 m - x).toNat ∧ (0 ≤ x ∧ x ≤ sg_g σ 145 m) ∧ at_ = cs σ rr.1 x.toNat ∧ gH σ14 (sg_g σ14 88 91) True x (cw σ ri.1 at_.toNat) σ15, fun σ15 => gH σ14 (sg_g σ14 88 91) True (sg_g σ 145 m) mN σ15, ⟨_, rfl, ⟨by omega, by omega⟩, rfl, gH_0 _ _⟩, ?_, ?_⟩
  · rintro p at_ x σ15 ra rx f15 ⟨ep, hx, eat, hGx⟩
    have atb : 0 ≤ at_ ∧ at_ ≤ m1 := by
      rw [eat, hm1, csr]
      exact ⟨cs_0 c4 (by omega), (cs_m c4 (by omega) (by omega)).1⟩
    refine ⟨fun z => ?_, fun z => ?_⟩
    · rw [show at_ = m1 by rw [eat, hm1, csr, show x = sg_g σ 145 m by omega], ← hmN, show x = sg_g σ 145 m by omega] at hGx
      exact hGx
    obtain ⟨l1, l2, l3, l4⟩ := lnb x hx.1 z
    obtain ⟨pa, va⟩ := pR_h gv14 hGx f15 rfl ⟨by omega, by omega⟩ (i := x) ⟨by omega, by omega⟩
    rw [va]
    obtain ⟨len, hlen⟩ : ∃ len, len = sg_g σ14 142 (rr.1 + x) := ⟨_, rfl⟩
    rw [← hlen] at l1 l3 ⊢
    refine ⟨fun p at2 sm y => p = (len - y).toNat ∧ (0 ≤ y ∧ y ≤ len) ∧ at2 = at_ + y ∧ sm = cw σ ri.1 at2.toNat - cw σ ri.1 at_.toNat, fun at2 sm => at2 = at_ + len ∧ sm = cw σ ri.1 at2.toNat - cw σ ri.1 at_.toNat, ⟨_, rfl, ⟨by omega, by omega⟩, by omega, by omega⟩, ?_, ?_⟩
    · rintro p' at2 sm y r1 r2 r3 ⟨ep', hy, ea2, es⟩
      refine ⟨⟨h1, by omega⟩, pa, fun c => ⟨by omega, es⟩, fun c => ?_⟩
      obtain ⟨pi, vi'⟩ := pR_h iv14 hGx f15 rfl ⟨by omega, by omega⟩ (i := at2) ⟨by omega, by omega⟩
      rw [vi', cell _ (by omega) (by omega)]
      have css := cw_s (σ := σ) (p := ri.1) (x := at2) (by omega)
      have cm := cw_m (σ := σ) (p := ri.1) (i := at_.toNat) (j := (at2 + 1).toNat) (by omega)
      have cm2 := cw_m (σ := σ) (p := ri.1) (i := at_.toNat) (j := at2.toNat) (by omega)
      refine ⟨pi, fun v156 e156 r156 => ⟨?_, ⟨by omega, by omega⟩, ⟨by omega, by omega⟩, _, by omega, rfl, ⟨by omega, by omega⟩, by omega, by omega⟩⟩
      rw [e156]
      exact ⟨by omega, by omega⟩
    · rintro at2 sm r1 r2 ⟨ea2, es⟩
      have cm := cw_m (σ := σ) (p := ri.1) (i := at_.toNat) (j := at2.toNat) (by omega)
      have hc := hGx.1.1
      refine ⟨⟨by omega, by omega⟩, fun σ16 e16 => ⟨⟨by omega, by omega⟩, fun σ17 e17 => ⟨⟨by omega, by omega⟩, _, by omega, rfl, ⟨by omega, by omega⟩, by omega, ?_⟩⟩⟩
      have := gH_p hGx (by omega) (by omega) r2 (fun _ => ⟨by omega, by omega⟩) e16 e17
      rw [es, show cw σ ri.1 at_.toNat + (cw σ ri.1 at2.toNat - cw σ ri.1 at_.toNat) = cw σ ri.1 at2.toNat by omega] at this
      exact this
  · intro σ15 f15 hGx
    refine ⟨⟨by omega, by omega⟩, fun σ16 e16 => ?_⟩
    have ex15 := gH_ex hGx f15
    obtain ⟨⟨y1', y2'⟩, y3', y4'⟩ := hGx
    obtain ⟨y5, y6⟩ := y4' trivial
    have f16 : sg_F [127] σ15 σ16 := by rw [e16]; exact sg_F_w (sg_F_r _ _) rfl _
    have F1416 : sg_F [127, 142, 92088] σ14 σ16 := sg_F_t (sg_F_m f15 rfl) (sg_F_m f16 rfl)
    have F1216 : sg_F [127, 142, 147, 85088, 86088, 92088] σ12 σ16 := sg_F_t (sg_F_m F1214 rfl) (sg_F_m F1416 rfl)
    have F16 : sg_F [119, 120, 121, 127, 134, 139, 140, 141, 142, 143, 144, 147, 148, 149, 47088, 50088, 71088, 85088, 86088, 88088, 92088, 94088, 100088] σ σ16 := sg_F_t (sg_F_m F12 rfl) (sg_F_m F1216 rfl)
    have ex1216 : fEx σ12 σ16 := fEx_t (fEx_F F1214 rfl) (fEx_t ex15 (fEx_F f16 rfl))
    have exs : fEx σ σ16 := fEx_t ex012 ex1216
    have un16 : ∀ s' b, s' ≤ sg_g σ 88 99 → und σ16 s' b = und σ s' b := fun s' b hs => by
      rw [und_F F1216 rfl, u12 s' b (by omega)]; exact und_F F11 rfl s' b
    have q84 : sg_g σ16 88 84 = sg_g σ12 88 84 + 1 := by rw [sg_F_g F1416 (by rfl), sg_F_g f14 (by rfl)]; exact z1
    have q85 : sg_g σ16 88 85 = sg_g σ12 88 85 + sg_g σ 145 m := by rw [sg_F_g F1416 (by rfl), sg_F_g f14 (by rfl)]; exact z3
    have q91 : sg_g σ16 88 91 = sg_g σ12 88 91 + sg_g σ 145 m := by rw [sg_F_g f16 (by rfl)]; omega
    have q87 : sg_g σ16 88 87 = sg_g σ12 88 87 := sg_F_g F1216 (by rfl)
    have q99 : sg_g σ16 88 99 = sg_g σ12 88 99 := sg_F_g F1216 (by rfl)
    have q62 : sg_g σ16 88 62 = sg_g σ12 88 62 := sg_F_g F1216 (by rfl)
    have q62' : sg_g σ16 88 62 = sg_g σ 88 62 := sg_F_g F16 (by rfl)
    have q70 : sg_g σ16 88 70 = sg_g σ 88 70 - 1 := by
      rw [sg_F_g F1216 (by rfl), sg_F_g f12 (by rfl), sg_F_g f11 (by rfl), sg_F_g f10 (by rfl), sg_F_g f8 (by rfl), sg_F_g f7 (by rfl)]; exact g70
    have k84 : sg_g σ11 88 84 = sg_g σ 88 84 := sg_F_g F11 (by rfl)
    have k85 : sg_g σ11 88 85 = sg_g σ 88 85 := sg_F_g F11 (by rfl)
    have kk1 := k12.1
    have kk2 := k12.2
    have N16 : fN σ16 := ⟨⟨⟨by omega, by omega⟩, ⟨by omega, by omega⟩, ⟨by omega, by omega⟩, ⟨by omega, by omega, by omega⟩, by omega, by omega⟩, fun i x y => by rw [sg_F_ga F1216 rfl]; exact B12 i x (by omega), by omega, by omega, by omega⟩
    have al : sg_g σ16 147 m = sg_g σ14 88 91 := by rw [k91, sg_F_ga F1416 rfl, e14, sg_gw_e _ _ _ _ (sg_Rg _ _ _)]
    have ha' : stN A D T B lev j f' L' ([] ++ sc'.filter (fun p => decide (p.1 ∈ O))) bd := by
      refine stN_res (I := []) (sc := sc') ha (fun y hy ky p hp e => ?_) (fun p hp => (List.mem_filter.mp hp).1)
      refine List.mem_filter.mpr ⟨hp, decide_eq_true (out2 y hy ky p hp e (fun g => ?_))⟩
      have := g.1
      omega
    rw [List.nil_append] at ha'
    refine ev_next (σ := σ) (m := m) (X' := X - sg_g σ 145 m) (tys' := (tl.take G).map (fun x => (T x, sg_g σ 145 m, X))) (st' := G + 2) F16 rfl exs (fN_w N16) e0 fm (fun i hi => ?_) (fun i hi => ?_) (by rw [e16, sg_gw_e _ _ _ _ ⟨by omega, by omega⟩]) h1 (by simp only [List.length_map]; omega) (fun x _ _ => sg_F_ga F16 rfl) (vW_up exs (by omega) (fun x _ _ => sg_F_ga F16 rfl) (by rw [q3] at h3; exact vW_l h3)) h4 h5 ⟨h6.1, by omega⟩ h8 (fun s' u hs _ => un16 s' u (by omega)) ha' (fun u hu => ow_s has hu) (fun p hp => ⟨fun z => z, ?_⟩) ⟨mNb.1, mNb.2, by omega⟩ hA ?_ (by omega) (by omega) (fun σ' hq _ => k σ' hq)
    · rw [e16, sg_gw_k _ _ _ _ _ _ (by omega), sg_F_ga f15 rfl, sg_F_ga F1214 rfl, sg_F_ga f12 rfl, sg_F_ga f11 rfl, sg_F_ga f10 rfl, sg_F_ga f8 rfl, sg_F_ga f7 rfl, e6, sg_gw_c _ _ _ _ _ _ (by decide), e4, sg_gw_k _ _ _ _ _ _ (by omega)]
    · rw [sg_F_ga F1416 rfl, e14, sg_gw_k _ _ _ _ _ _ (by omega), sg_F_ga f13 rfl, sg_F_ga F12 rfl]
    · obtain ⟨b1, b2⟩ := List.mem_filter.mp hp
      rw [und_top, sg_F_ga (a := 134) F1216 rfl]
      exact fLx_up ex1216 (by omega) (S12 p b1 (of_decide_eq_true b2))
    · rw [fK_15 k15, ← hG, al]
      have c16 : ∀ y, sg_g σ16 142 y = sg_g σ15 142 y := fun y => sg_F_ga f16 rfl
      refine ⟨bd, tl, ea, Or.inr (Or.inr ⟨mN, rfl, rfl, Or.inl ⟨by omega, ⟨by simp only; omega, by simp only; omega, by simp only; omega, by simp only; omega⟩, fun i x y => by rw [c16]; exact y5 i x y, ?_⟩⟩)⟩
      rw [cs_e (σ := σ15) (fun j _ => c16 _)]
      exact y6.symm
end GF
