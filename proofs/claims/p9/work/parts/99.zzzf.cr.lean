/-! fork, turn, sift, collect of the class, exactly. -/
/-- after a branch -/
def brX (σ σ' : sg_S) (a sv c : Int) (Ob : List Int) (sl ty : Int → Int) (m : Nat) (r : (Int × fSt) ⊕ (fSt × fEv)) : Prop := nrX σ σ' Ob (Ob.map sl) sl ty c r ∧ (sg_g σ' 61 10 = 0 → sg_g σ' 61 23 = m) ∧ sg_g σ' 61 22 = sv + Ob.length ∧ sg_g σ' 71 a = sv ∧ (∀ i, ¬ i = a → sg_g σ' 71 i = sg_g σ 71 i) ∧ svd σ σ' sv (Ob.map sl) ∧ ∀ i, i < sv → sg_g σ' 72 i = sg_g σ 72 i ∧ sg_g σ' 73 i = sg_g σ 73 i
theorem brX_l {K : List Nat} {σ σ1 σ' : sg_S} {a sv c : Int} {Ob : List Int} {sl ty : Int → Int} {m : Nat} {r : (Int × fSt) ⊕ (fSt × fEv)} (f : sg_F K σ σ1) (ex : yEx σ σ1) (hK : (sg_ca K 62 && sg_ca K 71 && sg_ca K 72 && sg_ca K 73) = true) (h : brX σ1 σ' a sv c Ob sl ty m r) : brX σ σ' a sv c Ob sl ty m r := by
  simp only [Bool.and_eq_true] at hK
  obtain ⟨⟨⟨l1, l2⟩, l3⟩, l4⟩ := hK
  obtain ⟨h1, h2, h3, h4, h5, h6, h7⟩ := h
  refine ⟨nrX_l f ex l1 h1, h2, h3, h4, fun i hi => by rw [h5 i hi, sg_F_ga f l2], fun i y hy => ?_, fun i hi => ?_⟩
  · obtain ⟨u1, u2⟩ := h6 i y hy
    exact ⟨u1, by rw [u2, sg_F_ga f l1]⟩
  · obtain ⟨u1, u2⟩ := h7 i hi
    exact ⟨by rw [u1, sg_F_ga f l3], by rw [u2, sg_F_ga f l4]⟩
section CRS
variable {σ : sg_S} {Q : sg_S → Prop}
theorem f_forkX {a x lo hi bd sv c t : Int} {n dc : Nat} {cv : List vaF} {Ob : List Int} {sl ty : Int → Int} {s : fSt} {ρ : fEv} (ha : 0 ≤ a ∧ a < 200) (hx : 0 ≤ x ∧ x < 200) (h2 : v_tSecond σ a = x) (hm : mC σ c) (hs : ctX σ s) (hc : 4 ≤ c) (ht : sg_g σ 61 7 = t + 1) (h0 : 0 ≤ t ∧ t < 400) (h11 : sg_g σ 11 x = lo) (h12 : sg_g σ 12 x = hi) (hl : 0 ≤ lo ∧ hi < 200) (h16 : sg_g σ 16 a = bd) (h69 : sg_g σ 69 a = n) (hn : n ≤ 6000) (hch : yX σ dc (sg_g σ 64 t) cv) (hcl : cv.length = n) (hsv : sg_g σ 61 22 = sv) (hs0 : 0 ≤ sv ∧ sv ≤ 2400 ∧ sv + (hi - lo + 1) ≤ 2400) (hOs : (Ob.map sl).Pairwise (· < ·)) (hOm : ∀ s, s ∈ Ob.map sl ↔ wnt σ lo hi bd s) (hT : ∀ y ∈ Ob, cyT σ sl ty ρ n y) (k : ∀ σ', sg_F (70 :: 8061 :: brL) σ σ' → brX σ σ' a sv c Ob sl ty (fWh true cv).length (fCa ty (fWh true cv) Ob s ρ) → ((Ob.length : Int) ≤ hi - lo + 1 ∨ Ob = []) → sg_g σ' 61 7 = t → sg_g σ' 70 a = sg_g σ 64 t → (∀ i, ¬ i = a → sg_g σ' 70 i = sg_g σ 70 i) → Q σ') : V_fFork σ a Q := by
  unfold V_fFork
  rw [h2]
  refine y_pop ht h0 (fun σ2 f2 t2 _ _ σ7 e7 => ?_)
  rw [xp_in ha] at e7
  have f7 : sg_F [70] σ2 σ7 := by rw [e7]; exact sg_F_w (sg_F_r _ _) rfl _
  have F7 : sg_F [70, 8061] σ σ7 := sg_F_t (sg_F_m f2 rfl) (sg_F_m f7 rfl)
  have g70 : sg_g σ7 70 a = sg_g σ 64 t := by rw [e7, sg_gw_e _ _ _ _ (sg_Rg _ _ _)]
  have ex7 : yEx σ σ7 := yEx_F F7 rfl
  refine f_branchX (lo := lo) (hi := hi) (bd := bd) (n := n) (sv := sv) (b := true) (Ob := Ob) (sl := sl) (ty := ty) (ρ := ρ) ha hx (mC_F hm F7 rfl) (ctX_F F7 rfl hs) hc (by rw [sg_F_ga F7 rfl]; exact h11) (by rw [sg_F_ga F7 rfl]; exact h12) hl (by rw [sg_F_ga F7 rfl]; exact h16) (by rw [sg_F_ga F7 rfl]; exact h69) hn g70 (yX_up ex7 hch) hcl (Or.inl ⟨rfl, rfl⟩) (by rw [sg_F_g F7 (by rfl)]; exact hsv) hs0 hOs (fun s => by rw [hOm s, wnt_F F7 rfl]) (fun y hy => cyT_F F7 ex7 rfl (hT y hy)) (fun σ' f' r1 r2 r3 r4 r5 r6 r7 r8 _ => ?_)
  refine k σ' (sg_F_t (sg_F_m F7 rfl) (sg_F_m f' rfl)) (brX_l F7 ex7 rfl ⟨r1, r2, r3, r4, r5, r6, r7⟩) r8 ?_ ?_ (fun i hi => ?_)
  · rw [sg_F_g f' (by rfl), sg_F_g f7 (by rfl)]; exact t2
  · rw [sg_F_ga f' rfl]; exact g70
  · rw [sg_F_ga f' rfl, e7, sg_gw_k _ _ _ _ _ _ hi, sg_F_ga f2 rfl]
theorem f_turnX {W1 : List Int} {a x lo hi bd sv c ch : Int} {n dc : Nat} {cv : List vaF} {Ob : List Int} {sl ty : Int → Int} {s : fSt} {ρ : fEv} (ha : 0 ≤ a ∧ a < 200) (hx : 0 ≤ x ∧ x < 200) (h8 : sg_g σ 8 a = x) (hm : mC σ c) (hs : ctX σ s) (hc : 4 ≤ c) (h11 : sg_g σ 11 x = lo) (h12 : sg_g σ 12 x = hi) (hl : 0 ≤ lo ∧ hi < 200) (h16 : sg_g σ 16 a = bd) (h69 : sg_g σ 69 a = n) (hn : n ≤ 6000) (h70 : sg_g σ 70 a = ch) (hch : yX σ dc ch cv) (hcl : cv.length = n) (h71 : sg_g σ 71 a = sv) (hsv : sg_g σ 61 22 = sv + W1.length) (hs0 : 0 ≤ sv ∧ sv ≤ 2400 ∧ sv + (hi - lo + 1) ≤ 2400 ∧ sv + W1.length ≤ 2400) (hN : W1.Nodup) (hW : ∀ x ∈ W1, 0 ≤ x ∧ x < 272) (h72 : ∀ (i : Nat) (x : Int), W1[i]? = some x → sg_g σ 72 (sv + i) = x) (hOs : (Ob.map sl).Pairwise (· < ·)) (hOm : ∀ s, s ∈ Ob.map sl ↔ wnt σ lo hi bd s) (hT : ∀ σ2, sg_F [62, 23061] σ σ2 → (∀ (i : Nat) (x : Int), W1[i]? = some x → sg_g σ2 62 x = sg_g σ 73 (sv + i)) → (∀ x, x ∉ W1 → sg_g σ2 62 x = sg_g σ 62 x) → ∀ y ∈ Ob, cyT σ2 sl ty ρ n y) (k : ∀ σ2 σ', sg_F brL σ σ' → sg_F [62, 23061] σ σ2 → (∀ (i : Nat) (x : Int), W1[i]? = some x → sg_g σ2 62 x = sg_g σ 73 (sv + i)) → (∀ x, x ∉ W1 → sg_g σ2 62 x = sg_g σ 62 x) → brX σ2 σ' a sv c Ob sl ty (fWh false cv).length (fCa ty (fWh false cv) Ob s ρ) → ((Ob.length : Int) ≤ hi - lo + 1 ∨ Ob = []) → Q σ') : V_fTurn σ a Q := by
  unfold V_fTurn
  rw [xa_in ha, h8]
  refine f_restore ha h71 hsv (by omega) hN hW h72 (fun σ2 f2 s1 s2 s3 _ => ?_)
  have ex2 : yEx σ σ2 := yEx_F f2 rfl
  refine f_branchX (lo := lo) (hi := hi) (bd := bd) (n := n) (sv := sv) (b := false) (Ob := Ob) (sl := sl) (ty := ty) (ρ := ρ) ha hx (mC_F hm f2 rfl) (ctX_F f2 rfl hs) hc (by rw [sg_F_ga f2 rfl]; exact h11) (by rw [sg_F_ga f2 rfl]; exact h12) hl (by rw [sg_F_ga f2 rfl]; exact h16) (by rw [sg_F_ga f2 rfl]; exact h69) hn (by rw [sg_F_ga f2 rfl]; exact h70) (yX_up ex2 hch) hcl (Or.inr ⟨rfl, rfl⟩) s1 (by omega) hOs (fun s => by rw [hOm s, wnt_F f2 rfl]) (hT σ2 f2 s2 s3) (fun σ' f' r1 r2 r3 r4 r5 r6 r7 r8 _ => k σ2 σ' (sg_F_t (sg_F_m f2 rfl) (sg_F_m f' rfl)) f2 s2 s3 ⟨r1, r2, r3, r4, r5, r6, r7⟩ r8)
theorem f_siftX {a x lo hi bd g c t : Int} {n n0 dg dc : Nat} {v0 cv : List vaF} {Ob : List Int} {sl ty : Int → Int} {s : fSt} {ρ : fEv} (ha : 0 ≤ a ∧ a < 200) (hx : 0 ≤ x ∧ x < 200) (h8 : sg_g σ 8 a = x) (h11 : sg_g σ 11 x = lo) (h12 : sg_g σ 12 x = hi) (hl : 0 ≤ lo ∧ hi < 200) (h16 : sg_g σ 16 a = bd) (h13 : sg_g σ 13 a = g) (hbd : 0 ≤ bd ∧ 0 ≤ g ∧ bd + g ≤ 272) (hm : mC σ c) (hs : ctX σ s) (hc : 4 ≤ c) (ht : sg_g σ 61 7 = t + 1) (h0 : 0 ≤ t ∧ t < 400) (h23 : sg_g σ 61 23 = n) (hn : n ≤ 6000) (h69 : sg_g σ 69 a = n0) (hn0 : n0 ≤ 6000) (hG : yX σ (dg + 1) (sg_g σ 70 a) v0) (hv0 : v0.length = n0) (hmm : (v0.map (fun v => (itF v).length)).sum = cv.length) (hch : yX σ dc (sg_g σ 64 t) cv) (hcl : cv.length = n) (hOs : (Ob.map sl).Pairwise (· < ·)) (hOm : ∀ s, s ∈ Ob.map sl ↔ wnt σ lo hi (bd + g) s) (hT : ∀ y ∈ Ob, cyT σ sl ty ρ n y) (k0 : ∀ p, fCa ty (fWh true cv) Ob s ρ = .inl p → ∀ σ', sg_F sfL σ σ' → ¬ p.1 = 0 → sg_g σ' 61 10 = p.1 → ctX σ' p.2 → Q σ') (k1 : ∀ s5 ρ6, fCa ty (fWh true cv) Ob s ρ = .inr (s5, ρ6) → fStp (n0 : Int) s5 = none → ∀ σ', sg_F sfL σ σ' → sg_g σ' 61 10 = 8 → ctX σ' s5 → Q σ') (k2 : ∀ s5 ρ6, fCa ty (fWh true cv) Ob s ρ = .inr (s5, ρ6) → ∀ s6, fStp (n0 : Int) s5 = some s6 → ∀ σ', sg_F sfL σ σ' → nrX σ σ' Ob (Ob.map sl) sl ty c (.inr (s6, ρ6)) → sg_g σ' 61 23 = (fWh true cv).length → sg_g σ' 61 7 = t → (∀ i, ¬ i = a → sg_g σ' 70 i = sg_g σ 70 i) → rwX σ' (sg_g σ' 70 a) (ctL (v0.map (fun v => (itF v).length)) cv) → Q σ') : V_fSift σ a Q := by
  generalize hch0 : sg_g σ 64 t = ch at *
  unfold V_fSift
  rw [xa_in (a := 16) ha, xa_in (a := 13) ha, xa_in (a := 8) ha, h16, h13, h8, h23]
  refine y_pop ht h0 (fun σ2 f2 t2 _ _ σ7 e7 => ⟨⟨by omega, by omega⟩, ?_⟩)
  rw [hch0]
  have f7 : sg_F [22061] σ2 σ7 := by rw [e7]; exact sg_F_w (sg_F_r _ _) rfl _
  have F7 : sg_F [8061, 22061] σ σ7 := sg_F_t (sg_F_m f2 rfl) (sg_F_m f7 rfl)
  refine f_want (W0 := []) (lo := lo) (hi := hi) hx (by rw [sg_F_ga F7 rfl]; exact h11) (by rw [sg_F_ga F7 rfl]; exact h12) hl ⟨by rw [e7, sg_gw_e _ _ _ _ (by decide)]; rfl, fun i y hy => by simp at hy, List.Pairwise.nil⟩ (by simp) (fun σ12 W f12 w12 m12 _ => ?_)
  have F12 : sg_F [74, 8061, 22061] σ σ12 := sg_F_t (sg_F_m F7 rfl) (sg_F_m f12 rfl)
  have m12' : ∀ s, s ∈ W ↔ wnt σ lo hi (bd + g) s := fun s => by
    rw [m12 s, wnt_F F7 rfl]
    exact ⟨fun q => q.resolve_left (by simp), Or.inr⟩
  have eW : W = Ob.map sl := srt_eq w12.2.2 hOs (fun s => by rw [m12' s, hOm s])
  have wl1 := wit_len (f := sg_g σ 16) (a := lo) (b := hi) (wl_nd w12.2.2) (fun s hs => by
    obtain ⟨j, q1, q2, q3, q4, q5⟩ := (m12' s).mp hs
    exact ⟨j, q1, q2, q4⟩)
  have wl2 : W.length ≤ 200 := by
    rcases wl1 with q | q
    · omega
    · rw [q]; simp
  have ex12 : yEx σ σ12 := yEx_F F12 rfl
  refine f_narrowX (W := W) (Ob := Ob) (sl := sl) (ty := ty) (ρ := ρ) (b := true) (mC_F hm F12 rfl) (ctX_F F12 rfl hs) hc hn (yX_up ex12 hch) hcl (Or.inl ⟨rfl, rfl⟩) w12 wl2 eW.symm (fun y hy => cyT_F F12 ex12 rfl (hT y hy)) (fun σ18 f18 r18 l18 _ => ?_)
  have F18 : sg_F sfL σ σ18 := sg_F_t (sg_F_m F12 rfl) (sg_F_m f18 rfl)
  have r18 := nrX_l F12 ex12 rfl r18
  rw [eW] at r18
  cases e : fCa ty (fWh true cv) Ob s ρ with
  | inl p =>
    rw [e] at r18
    obtain ⟨q1, q2, q3⟩ := r18
    exact ⟨fun _ => k0 p e σ18 F18 q1 q2 q3, fun z => absurd (q2.symm.trans z) q1⟩
  | inr p =>
    obtain ⟨s5, ρ6⟩ := p
    rw [e] at r18
    obtain ⟨r1, r2, r3, r4, r5⟩ := r18
    refine ⟨fun z => absurd r1.2.2.1 z, fun z0 => ?_⟩
    have g70 : sg_g σ18 70 a = sg_g σ 70 a := by rw [sg_F_ga f18 rfl, sg_F_ga F12 rfl]
    refine f_shortenX (dg := dg) (n := n0) (v0 := v0) (cv := cv) (s := s5) ha r1 r3 hc (by rw [sg_F_ga f18 rfl, sg_F_ga F12 rfl]; exact h69) hn0 (by rw [g70]; exact yX_up r2 hG) hv0 hmm (yX_up r2 hch) (fun z σ' f' q1 q2 _ => k1 s5 ρ6 e z σ' (sg_F_t F18 (sg_F_m f' rfl)) q1 q2) (fun s6 z σ' f' u1 u2 u3 u4 u5 _ => ?_)
    refine k2 s5 ρ6 e s6 z σ' (sg_F_t F18 (sg_F_m f' rfl)) ⟨u1, yEx_t r2 u3, u2, fun y hy => ?_, fun x hx => ?_⟩ ?_ ?_ (fun i hi => ?_) u5
    · rw [sg_F_ga f' rfl]; exact yX_up u3 (r4 y hy)
    · rw [sg_F_ga f' rfl]; exact r5 x hx
    · rw [sg_F_g f' (by rfl)]; exact l18 z0
    · rw [sg_F_g f' (by rfl), sg_F_g f18 (by rfl), sg_F_g f12 (by rfl), sg_F_g f7 (by rfl)]; exact t2
    · rw [u4 i hi, sg_F_ga f18 rfl, sg_F_ga F12 rfl]
theorem f_collectX {W : List Int} {a sb t c : Int} {d : Nat} {ln : List Nat} {v : List vaF} {s : fSt} (ha : 0 ≤ a ∧ a < 200) (hm : mC σ c) (hs : ctX σ s) (hc : 1 ≤ c) (ht : sg_g σ 61 7 = t + 1) (h0 : 0 ≤ t ∧ t < 400) (h69 : sg_g σ 69 a = ln.length) (hG : rwX σ (sg_g σ 70 a) ln) (hit : yX σ d (sg_g σ 64 t) v) (hsum : ln.sum = v.length) (h71 : sg_g σ 71 a = sb) (h22 : sg_g σ 61 22 = sb + W.length) (hs0 : 0 ≤ sb ∧ sb + W.length ≤ 2400) (hN : W.Nodup) (hW : ∀ x ∈ W, 0 ≤ x ∧ x < 272) (h72 : ∀ (i : Nat) (x : Int), W[i]? = some x → sg_g σ 72 (sb + i) = x) (k : ∀ σ', sg_F [62, 64, 79, 80, 81, 82, 8061, 11077, 23061, 24061] σ σ' → mC σ' (c - 1) → ctX σ' s → yEx σ σ' → sg_g σ' 61 23 = ln.length → sg_g σ' 61 22 = sb → sg_g σ' 61 7 = t + 1 → yX σ' (d + 1) (sg_g σ' 64 t) (fCt ln v) → (∀ i, i < t → sg_g σ' 64 i = sg_g σ 64 i) → (∀ (i : Nat) (x : Int), W[i]? = some x → sg_g σ' 62 x = sg_g σ 73 (sb + i)) → (∀ x, x ∉ W → sg_g σ' 62 x = sg_g σ 62 x) → Q σ') : V_fCollect σ a Q := by
  obtain ⟨m1, m2, m3, m4, m5⟩ := id hm
  unfold V_fCollect
  rw [xa_in ha, xa_in ha, h69]
  refine y_pop ht h0 (fun σ2 f2 t2 _ _ => ?_)
  refine f_restore (W := W) (sb := sb) ha (by rw [sg_F_ga f2 rfl]; exact h71) (by rw [sg_F_g f2 (by rfl)]; exact h22) hs0 hN hW (fun i x hx => by rw [sg_F_ga f2 rfl]; exact h72 i x hx) (fun σ8 f8 s1 s2 s3 _ σ13 e13 => ?_)
  have f13 : sg_F [24061] σ8 σ13 := by rw [e13]; exact sg_F_w (sg_F_r _ _) rfl _
  have F13 : sg_F [62, 8061, 23061, 24061] σ σ13 := sg_F_t (sg_F_t (sg_F_m f2 rfl) (sg_F_m f8 rfl)) (sg_F_m f13 rfl)
  have ex13 : yEx σ σ13 := yEx_F F13 rfl
  have w13 : ∀ q, sg_g σ13 77 q = sg_g σ 77 q := fun q => sg_F_ga F13 rfl
  have G0 := hG.1.2
  have u6 := m1.2.1
  refine x_bundle (d := d) (ln := ln) (v := v) (yG_F m1 F13 rfl) (by rw [w13]; omega) (rwX_up ex13 hG) (yX_up ex13 hit) hsum (fun σ17 f17 x1 x2 x3 x4 r16 _ => ?_)
  refine y_push (t := t) (by rw [sg_F_g f17 (by rfl), sg_F_g f13 (by rfl), sg_F_g f8 (by rfl)]; exact t2) h0 r16 (fun σ23 f23 p1 p2 p3 _ => ?_)
  have F23 : sg_F [62, 64, 79, 80, 81, 82, 8061, 11077, 23061, 24061] σ σ23 := sg_F_t (sg_F_t (sg_F_m F13 rfl) (sg_F_m f17 rfl)) (sg_F_m f23 rfl)
  have ex23 : yEx σ17 σ23 := yEx_F f23 rfl
  refine k σ23 F23 ⟨yG_F x2 f23 rfl, ?_, by rw [sg_F_g F23 (by rfl)]; exact m3, ?_, by rw [sg_F_g F23 (by rfl)]; exact m5⟩ (ctX_F F23 rfl hs) (yEx_t ex13 (yEx_t x1 ex23)) ?_ ?_ p1 ?_ (fun i hi => ?_) (fun i x hx => ?_) (fun x hx => ?_)
  · exact y0_F (y0_F (y0_F m2 F13 rfl) f17 rfl) f23 rfl
  · rw [sg_F_g f23 (by rfl), x4, w13, sg_F_g F23 (by rfl)]; omega
  · rw [sg_F_g f23 (by rfl), sg_F_g f17 (by rfl), e13, sg_gw_e _ _ _ _ ⟨by omega, by have := G0.2.1; omega⟩]
  · rw [sg_F_g f23 (by rfl), sg_F_g f17 (by rfl), sg_F_g f13 (by rfl)]; exact s1
  · rw [p2]; exact yX_up ex23 x3
  · rw [p3 i (by omega), sg_F_ga f17 rfl, sg_F_ga F13 rfl]
  · rw [sg_F_ga f23 rfl, sg_F_ga f17 rfl, sg_F_ga f13 rfl, s2 i x hx, sg_F_ga f2 rfl]
  · rw [sg_F_ga f23 rfl, sg_F_ga f17 rfl, sg_F_ga f13 rfl, s3 x hx, sg_F_ga f2 rfl]
end CRS
