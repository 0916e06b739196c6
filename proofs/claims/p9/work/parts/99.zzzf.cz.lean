/-! BIG STEPS of the class's flat run, exactly: open, sift, collect in one turn each; within a { }. -/
section CZA
variable {σ : sg_S} {A : aT} {D : List aDf} {vb : Int → Prop} {X : sg_S → Prop} {lev : Int → Nat} {j : Nat}
theorem opX2_l {K : List Nat} {σ0 σ1 σ' : sg_S} {a g t sv c bd : Int} {dg : Nat → Nat} {Ob : List Int} {sl ty : Int → Int} {vs : List (List vaF)} {s3 : fSt} {ρ3 : fEv} (f : sg_F K σ0 σ1) (ex : yEx σ0 σ1) (hK : (sg_ca K 62 && sg_ca K 64 && sg_ca K 70 && sg_ca K 71 && sg_ca K 72 && sg_ca K 73) = true) (h : opX2 σ1 σ' a g t sv c bd dg Ob sl ty vs s3 ρ3) : opX2 σ0 σ' a g t sv c bd dg Ob sl ty vs s3 ρ3 := by
  simp only [Bool.and_eq_true] at hK
  obtain ⟨⟨⟨⟨⟨k1, k2⟩, k3⟩, k4⟩, k5⟩, k6⟩ := hK
  obtain ⟨h1, h2, h3, h4, h5, h6, h7, h8, h9, h10, h11, h12, h13, h14, h15⟩ := h
  refine ⟨h1, yEx_t ex h2, h3, h4, h5, fun s a b => by rw [h6 s a b, sg_F_ga f k1], h7, h8, by rw [h9, sg_F_ga f k2], fun i hi => by rw [h10 i hi, sg_F_ga f k3], h11, h12, fun i hi => by rw [h13 i hi, sg_F_ga f k4], fun i y hy => ?_, fun i hi => ?_⟩
  · obtain ⟨u1, u2⟩ := h14 i y hy
    exact ⟨u1, by rw [u2, sg_F_ga f k1]⟩
  · obtain ⟨u1, u2⟩ := h15 i hi
    exact ⟨by rw [u1, sg_F_ga f k5], by rw [u2, sg_F_ga f k6]⟩
variable {σ8 : sg_S} {m N : Nat} {t sv c p n : Int} {C : List (Int × Int)} {s : fSt} {ρ : fEv} {Ob : List Int} {sl ty : Int → Int}
/-- OPEN -/
theorem zy_open {g bd gd plo phi x : Int} {dg : Nat → Nat} {vs : List (List vaF)} (h : bP σ σ8 (t + g) sv N c p) (hs : ctX σ8 s) (hc : 4 ≤ c) (h0 : t + g ≤ 400 ∧ 0 ≤ t) (hp : pl σ p ((10, n) :: C)) (hn : 0 ≤ n ∧ n < 200) (hx : 0 ≤ x ∧ x < 200) (h13 : sg_g σ 13 n = g) (hg : 1 ≤ g ∧ g ≤ 4) (h8' : sg_g σ 8 n = x) (h14 : sg_g σ 14 n = gd) (hgd : 0 ≤ gd → gd < 200 ∧ plo ≤ sg_g σ 11 gd ∧ sg_g σ 12 gd ≤ phi) (hpp : plo ≤ sg_g σ 11 x ∧ sg_g σ 12 x ≤ phi ∧ 0 ≤ plo ∧ phi < 200) (h16 : sg_g σ 16 n = bd) (hbd : 0 ≤ bd ∧ bd + g ≤ 272) (hgl : (vs.length : Int) = g) (hv : ∀ i : Nat, (i : Int) < g → yX σ8 (dg i + 1) (sg_g σ8 64 (t + i)) (vs.getD i []) ∧ (vs.getD i []).length = N) (hs0 : sv ≤ 2400 ∧ sv + (phi - plo + 1) ≤ 2400) (hOs : (Ob.map sl).Pairwise (· < ·)) (hOm : ∀ s, s ∈ Ob.map sl ↔ opU σ (sg_g σ 11 x) (sg_g σ 12 x) gd (sg_g σ 11 gd) (sg_g σ 12 gd) bd s) (hT : ∀ y ∈ Ob, cyT σ8 sl ty ρ N y) (k3 : ¬ eaE N vs → ∀ σ', sg_F bRL σ σ' → sg_g σ' 61 10 = 3 → ctX σ' s → X σ') (k0 : eaE N vs → ∀ e, fCa ty (fRp N ((vs.getD 0 []).map (fun v => (itF v).length))) Ob s ρ = .inl e → ∀ σ', sg_F bRL σ σ' → sg_g σ' 61 10 = e.1 → ctX σ' e.2 → ¬ e.1 = 0 → X σ') (k : eaE N vs → ∀ s3 ρ3, fCa ty (fRp N ((vs.getD 0 []).map (fun v => (itF v).length))) Ob s ρ = .inr (s3, ρ3) → ∀ σ', bP σ σ' t (sv + Ob.length) (((vs.getD 0 []).map (fun v => (itF v).length)).sum : Nat) c (p + 1) → opX2 σ8 σ' n g t sv c bd dg Ob sl ty vs s3 ρ3 → ((Ob.length : Int) ≤ phi - plo + 1 ∨ Ob = []) → (∀ i, sg_g σ' 64 i = sg_g σ8 64 i ∧ sg_g σ' 63 i = sg_g σ8 63 i ∧ sg_g σ' 69 i = sg_g σ8 69 i) → Ry σ X m σ') : Ry σ X (m + 1) σ8 := by
  obtain ⟨p0, p1, p2, p3⟩ := pl_c hp
  refine ry_10 (p := p) (k := n) h.2.2.1.2.2.2 p0 h.2.1.2.2.1 p1 p2 (fun σ32 e32 => ?_)
  obtain ⟨h32, f32⟩ := bP_32 h ⟨p0.2, p0.1⟩ e32
  obtain ⟨a1, a2, ⟨a3, a4, a5, a6⟩, a7, a8, a9, a10⟩ := id h32
  have e8 : yEx σ8 σ32 := yEx_F f32 rfl
  refine f_openX (a := n) (g := g) (n := N) (t := t) (sv := sv) (c := c) (bd := bd) (lo := sg_g σ 11 x) (hi := sg_g σ 12 x) (gd := gd) (glo := sg_g σ 11 gd) (ghi := sg_g σ 12 gd) (plo := plo) (phi := phi) (x := x) (dg := dg) (vs := vs) (Ob := Ob) (sl := sl) (ty := ty) (ρ := ρ) (s := s) hn hx (by rw [sg_F_ga a1 rfl]; exact h13) hg (by rw [sg_F_ga a1 rfl]; exact h8') (sg_F_ga a1 rfl) (sg_F_ga a1 rfl) (by rw [sg_F_ga a1 rfl]; exact h14) (fun z => ⟨(hgd z).1, sg_F_ga a1 rfl, sg_F_ga a1 rfl, (hgd z).2⟩) ⟨hpp.1, hpp.2.1, hpp.2.2⟩ (by rw [sg_F_ga a1 rfl]; exact h16) hbd a2 (ctX_F f32 rfl hs) hc a3 ⟨h0.2, h0.1⟩ a5 (by omega) hgl (fun i hi => ⟨by rw [sg_F_ga f32 rfl]; exact yX_up e8 (hv i hi).1, (hv i hi).2⟩) a4 ⟨a9, hs0⟩ hOs (fun s => by rw [hOm s, opU_F a1 rfl]) (fun y hy => cyT_F f32 e8 rfl (hT y hy)) (fun hE σ' f' z1 z2 _ => ry_s (by rw [z1]; decide) (k3 hE σ' (sg_F_t a1 (sg_F_m f' rfl)) z1 z2)) (fun hE e ef σ' f' z0 z1 z2 _ => ry_s (by rw [z1]; exact z0) (k0 hE e ef σ' (sg_F_t a1 (sg_F_m f' rfl)) z1 z2 z0)) (fun hE s3 ρ3 ef σ' f' r' w _ => ?_)
  obtain ⟨r1, r2, r3, r4, r5, r6, r7, r8, r9, r10, r11, r12, r13, r14, r15⟩ := id r'
  have y0' := (yX_c (r5 0 (by omega))).1
  have g6 := r1.1.2.1
  have M6 : (((vs.getD 0 []).map (fun v => (itF v).length)).sum : Int) ≤ 6000 := by
    rw [← flF_l]
    have := y0'.2.2
    omega
  exact k hE s3 ρ3 ef σ' ⟨sg_F_t a1 (sg_F_m f' rfl), r1, ⟨r8, r11, r7, by rw [sg_F_g f' (by rfl)]; exact a6⟩, ⟨by omega, by omega⟩, h0.2, by omega, a10⟩ (opX2_l f32 e8 rfl r') w (fun i => ⟨by rw [sg_F_ga f' rfl, sg_F_ga f32 rfl], by rw [sg_F_ga f' rfl, sg_F_ga f32 rfl], by rw [sg_F_ga f' rfl, sg_F_ga f32 rfl]⟩)
/-- SIFT -/
theorem zy_sift {x bd g : Int} {M dg dc : Nat} {v0 cv : List vaF} (h : bP σ σ8 (t + 1) sv M c p) (hs : ctX σ8 s) (hc : 4 ≤ c) (h0 : t < 400 ∧ 0 ≤ t) (hp : pl σ p ((11, n) :: C)) (hn : 0 ≤ n ∧ n < 200) (hx : 0 ≤ x ∧ x < 200) (h8' : sg_g σ 8 n = x) (hl : 0 ≤ sg_g σ 11 x ∧ sg_g σ 12 x < 200) (h16 : sg_g σ 16 n = bd) (h13 : sg_g σ 13 n = g) (hbd : 0 ≤ bd ∧ 0 ≤ g ∧ bd + g ≤ 272) (h69 : sg_g σ8 69 n = N) (hN : N ≤ 6000) (hG : yX σ8 (dg + 1) (sg_g σ8 70 n) v0) (hv0 : v0.length = N) (hmm : (v0.map (fun v => (itF v).length)).sum = cv.length) (hch : yX σ8 dc (sg_g σ8 64 t) cv) (hcl : cv.length = M) (hOs : (Ob.map sl).Pairwise (· < ·)) (hOm : ∀ s, s ∈ Ob.map sl ↔ wnt σ (sg_g σ 11 x) (sg_g σ 12 x) (bd + g) s) (hT : ∀ y ∈ Ob, cyT σ8 sl ty ρ M y) (k0 : ∀ e, fCa ty (fWh true cv) Ob s ρ = .inl e → ∀ σ', sg_F bRL σ σ' → sg_g σ' 61 10 = e.1 → ctX σ' e.2 → ¬ e.1 = 0 → X σ') (k1 : ∀ s5 ρ6, fCa ty (fWh true cv) Ob s ρ = .inr (s5, ρ6) → fStp (N : Int) s5 = none → ∀ σ', sg_F bRL σ σ' → sg_g σ' 61 10 = 8 → ctX σ' s5 → X σ') (k : ∀ s5 ρ6, fCa ty (fWh true cv) Ob s ρ = .inr (s5, ρ6) → ∀ s6, fStp (N : Int) s5 = some s6 → ∀ σ', bP σ σ' t sv (fWh true cv).length c (p + 1) → ctX σ' s6 → yEx σ8 σ' → (∀ y ∈ Ob, yX σ' (ty y).toNat (sg_g σ' 62 (sl y)) (ρ6 y)) → (∀ s, s ∉ Ob.map sl → sg_g σ' 62 s = sg_g σ8 62 s) → (∀ i, sg_g σ' 64 i = sg_g σ8 64 i ∧ sg_g σ' 63 i = sg_g σ8 63 i ∧ sg_g σ' 69 i = sg_g σ8 69 i ∧ sg_g σ' 71 i = sg_g σ8 71 i ∧ sg_g σ' 72 i = sg_g σ8 72 i ∧ sg_g σ' 73 i = sg_g σ8 73 i) → (∀ i, ¬ i = n → sg_g σ' 70 i = sg_g σ8 70 i) → rwX σ' (sg_g σ' 70 n) (ctL (v0.map (fun v => (itF v).length)) cv) → Ry σ X m σ') : Ry σ X (m + 1) σ8 := by
  obtain ⟨p0, p1, p2, p3⟩ := pl_c hp
  refine ry_11 (p := p) (k := n) h.2.2.1.2.2.2 p0 h.2.1.2.2.1 p1 p2 (fun σ32 e32 => ?_)
  obtain ⟨h32, f32⟩ := bP_32 h ⟨p0.2, p0.1⟩ e32
  obtain ⟨a1, a2, ⟨a3, a4, a5, a6⟩, a7, a8, a9, a10⟩ := id h32
  have e8 : yEx σ8 σ32 := yEx_F f32 rfl
  have wl := cwF_le true cv
  rw [← fWh_l] at wl
  refine f_siftX (a := n) (x := x) (lo := sg_g σ 11 x) (hi := sg_g σ 12 x) (bd := bd) (g := g) (n := M) (n0 := N) (c := c) (t := t) (dg := dg) (v0 := v0) (cv := cv) (Ob := Ob) (sl := sl) (ty := ty) (ρ := ρ) (s := s) hn hx (by rw [sg_F_ga a1 rfl]; exact h8') (sg_F_ga a1 rfl) (sg_F_ga a1 rfl) hl (by rw [sg_F_ga a1 rfl]; exact h16) (by rw [sg_F_ga a1 rfl]; exact h13) hbd a2 (ctX_F f32 rfl hs) hc a3 ⟨h0.2, h0.1⟩ a5 (by omega) (by rw [sg_F_ga f32 rfl]; exact h69) hN (by rw [sg_F_ga f32 rfl]; exact yX_up e8 hG) hv0 hmm (by rw [sg_F_ga f32 rfl]; exact yX_up e8 hch) hcl hOs (fun s => by rw [hOm s, wnt_F a1 rfl]) (fun y hy => cyT_F f32 e8 rfl (hT y hy)) (fun e ef σ' f' z0 z1 z2 _ => ry_s (by rw [z1]; exact z0) (k0 e ef σ' (sg_F_t a1 (sg_F_m f' rfl)) z1 z2 z0)) (fun s5 ρ6 ef z σ' f' z1 z2 _ => ry_s (by rw [z1]; decide) (k1 s5 ρ6 ef z σ' (sg_F_t a1 (sg_F_m f' rfl)) z1 z2)) (fun s5 ρ6 ef s6 z σ' f' r' w1 w2 w3 w4 _ => ?_)
  obtain ⟨r1, r2, r3, r4, r5⟩ := r'
  exact k s5 ρ6 ef s6 z σ' ⟨sg_F_t a1 (sg_F_m f' rfl), r1, ⟨w2, by rw [sg_F_g f' (by rfl)]; exact a4, w1, by rw [sg_F_g f' (by rfl)]; exact a6⟩, ⟨by omega, by omega⟩, h0.2, a9, a10⟩ r3 (yEx_t e8 r2) r4 (fun s hs => by rw [r5 s hs, sg_F_ga f32 rfl]) (fun i => ⟨by rw [sg_F_ga f' rfl, sg_F_ga f32 rfl], by rw [sg_F_ga f' rfl, sg_F_ga f32 rfl], by rw [sg_F_ga f' rfl, sg_F_ga f32 rfl], by rw [sg_F_ga f' rfl, sg_F_ga f32 rfl], by rw [sg_F_ga f' rfl, sg_F_ga f32 rfl], by rw [sg_F_ga f' rfl, sg_F_ga f32 rfl]⟩) (fun i hi => by rw [w3 i hi, sg_F_ga f32 rfl]) w4
/-- within a { }: Ob are the variables saved, ln the lengths -/
def bIX (σ : sg_S) (A : aT) (D : List aDf) (vb : Int → Prop) (lev : Int → Nat) (j : Nat) (σ2 σ5 : sg_S) (ρ2 ρ5 : fEv) (t sv nl dix n : Int) (Ob L : List Int) (ln : List Nat) : Prop := yEx σ2 σ5 ∧ (∀ i, i < t → sg_g σ5 64 i = sg_g σ2 64 i) ∧ (∀ b, vb b → ¬ ow lev j (n :: L) b → b ∉ Ob → rlY σ A D σ2 ρ2 b → rlY σ A D σ5 ρ5 b) ∧ (∀ i, i < sv → sg_g σ5 72 i = sg_g σ2 72 i ∧ sg_g σ5 73 i = sg_g σ2 73 i) ∧ (∀ x, nl ≤ x → x ∉ n :: L → sg_g σ5 69 x = sg_g σ2 69 x ∧ sg_g σ5 70 x = sg_g σ2 70 x ∧ sg_g σ5 71 x = sg_g σ2 71 x) ∧ (∀ q, dix ≤ q → sg_g σ5 63 q = sg_g σ2 63 q) ∧ svd σ2 σ5 sv (Ob.map (slF σ)) ∧ (sg_g σ5 69 n = ln.length ∧ sg_g σ5 71 n = sv) ∧ rwX σ5 (sg_g σ5 70 n) ln
theorem bIX_u {σ2 σ5 σ6 : sg_S} {ρ2 ρ5 ρ6 : fEv} {nl dix t1 : Int} {L Lx L' : List Int} {ln : List Nat} (h : bIX σ A D vb lev j σ2 σ5 ρ2 ρ5 t sv nl dix n Ob L ln) (u : yU σ A D vb lev j σ5 σ6 ρ5 ρ6 t1 (sv + Ob.length) nl dix Lx) (hn : nl ≤ n) (hx : n ∉ Lx) (ht : t ≤ t1) (hL : ∀ x ∈ L, x ∈ L') (hLx : ∀ x ∈ Lx, x ∈ L') : bIX σ A D vb lev j σ2 σ6 ρ2 ρ6 t sv nl dix n Ob L' ln := by
  obtain ⟨i1, i2, i3, i4, i5, i6, i7, ⟨i8, i9⟩, i10⟩ := h
  obtain ⟨u1, u2, u3, u4, u5, u6⟩ := u
  obtain ⟨z1, z2, z3⟩ := u5 n hn hx
  refine ⟨yEx_t i1 u1, fun i hi => by rw [u2 i (by omega), i2 i hi], fun b hb ho hn' hr => u3 b hb (fun w => ho (ow_s (fun y hy => by simp [hLx y hy]) w)) (i3 b hb (fun w => ho (ow_s (fun y hy => by
    rcases List.mem_cons.mp hy with q | q
    · simp [q]
    · simp [hL y q]) w)) hn' hr), fun i hi => ?_, fun x q r => ?_, fun q hq => by rw [u6 q hq, i6 q hq], fun i x hx => ?_, ⟨by rw [z1]; exact i8, by rw [z3]; exact i9⟩, by rw [z2]; exact rwX_up u1 i10⟩
  · obtain ⟨v1, v2⟩ := u4 i (by omega)
    rw [v1, v2]; exact i4 i hi
  · obtain ⟨v1, v2, v3⟩ := u5 x q (fun z => r (by simp [hLx x z]))
    rw [v1, v2, v3]
    exact i5 x q (fun z => r (by
      rcases List.mem_cons.mp z with y | y
      · simp [y]
      · simp [hL x y]))
  · have hi := gE_l hx
    rw [List.length_map] at hi
    obtain ⟨v1, v2⟩ := u4 (sv + i) (by omega)
    rw [v1, v2]; exact i7 i x hx
/-- NEXT, and the end of a { } -/
theorem zy_coll {σ2 : sg_S} {M nl dix : Int} {d : Nat} {L : List Int} {ρ2 ρ5 : fEv} {ln : List Nat} {v : List vaF} (h : bP σ σ8 (t + 1) (sv + Ob.length) M c p) (hs : ctX σ8 s) (hSl : slA σ vb) (hOb : ∀ y ∈ Ob, vb y) (hNd : (Ob.map (slF σ)).Nodup) (h0 : t < 400 ∧ 0 ≤ t) (hsv : 0 ≤ sv ∧ sv + Ob.length ≤ 2400) (hN : ln.length ≤ 6000) (hc : 1 ≤ c) (hp : pl σ p ((12, n) :: (1, n) :: C)) (hn : 0 ≤ n ∧ n < 200) (h3 : sg_g σ 3 n = 123) (hI : bIX σ A D vb lev j σ2 σ8 ρ2 ρ5 t sv nl dix n Ob L ln) (hit : yX σ8 d (sg_g σ8 64 t) v) (hsum : ln.sum = v.length) (k : ∀ σ', bP σ σ' (t + 1) sv ln.length (c - 1) (p + 2) → ctX σ' s → yU σ A D vb lev j σ2 σ' ρ2 (fBk Ob ρ2 ρ5) t sv nl dix (n :: L) → yX σ' (d + 1) (sg_g σ' 64 t) (fCt ln v) → Ry σ X m σ') : Ry σ X (m + 2) σ8 := by
  obtain ⟨p0, p1, p2, p3⟩ := pl_c hp
  refine ry_12 (p := p) (k := n) h.2.2.1.2.2.2 p0 h.2.1.2.2.1 p1 p2 (fun σ30 e30 => ?_)
  obtain ⟨h30, f30⟩ := bP_32 h ⟨p0.2, p0.1⟩ e30
  unfold V_fNext
  intro _
  obtain ⟨p4, p5, p6, p7⟩ := pl_c p3
  refine ry_1 (p := p + 1) (k := n) h30.2.2.1.2.2.2 p4 h30.2.1.2.2.1 p5 p6 (fun σ32 e32 => ?_)
  obtain ⟨h32, f31⟩ := bP_32 h30 ⟨p4.2, p4.1⟩ e32
  have f32 : sg_F [9061] σ8 σ32 := sg_F_t (sg_F_m f30 rfl) (sg_F_m f31 rfl)
  obtain ⟨a1, a2, ⟨a3, a4, a5, a6⟩, a7, a8, a9, a10⟩ := id h32
  unfold V_mFinish
  rw [xa_in (a := 3) hn, show sg_g σ32 3 n = 123 by rw [sg_F_ga a1 rfl]; exact h3]
  intro σ1 e1
  have f1 : sg_F [10061] σ32 σ1 := by rw [e1]; exact sg_F_w (sg_F_r _ _) rfl _
  refine ⟨fun z => absurd z (by decide), fun _ => ⟨fun z => absurd z (by decide), fun _ => ⟨fun z => absurd z (by decide), fun _ => ?_⟩⟩⟩
  have F1 : sg_F [9061, 10061] σ8 σ1 := sg_F_t (sg_F_m f32 rfl) (sg_F_m f1 rfl)
  have e8 : yEx σ8 σ1 := yEx_F F1 rfl
  obtain ⟨i1, i2, i3, i4, i5, i6, i7, ⟨i8, i9⟩, i10⟩ := hI
  have ml : ((Ob.map (slF σ)).length : Int) = Ob.length := by rw [List.length_map]
  refine f_collectX (W := Ob.map (slF σ)) (a := n) (sb := sv) (t := t) (c := c) (d := d) (ln := ln) (v := v) (s := s) hn (mC_F a2 f1 rfl) (ctX_F F1 rfl hs) hc (by rw [sg_F_g f1 (by rfl)]; exact a3) ⟨h0.2, h0.1⟩ (by rw [sg_F_ga F1 rfl]; exact i8) (by rw [sg_F_ga F1 rfl]; exact rwX_up e8 i10) (by rw [sg_F_ga F1 rfl]; exact yX_up e8 hit) hsum (by rw [sg_F_ga F1 rfl]; exact i9) (by rw [sg_F_g f1 (by rfl), ml]; exact a4) (by rw [ml]; exact hsv) hNd (fun x hx => by
    obtain ⟨y, hy, e⟩ := List.mem_map.mp hx
    rw [← e]; exact hSl.1 y (hOb y hy)) (fun i x hx => by rw [sg_F_ga F1 rfl]; exact (i7 i x hx).1) (fun σ' f' z1 z1' z2 z3 z4 z5 z6 z7 z8 z9 _ _ => ?_)
  have ex := yEx_t i1 (yEx_t e8 z2)
  refine k σ' ⟨sg_F_t a1 (sg_F_t (sg_F_m f1 rfl) (sg_F_m f' rfl)), z1, ⟨z5, z4, z3, by rw [sg_F_g f' (by rfl), sg_F_g f1 (by rfl), a6]; omega⟩, ⟨by omega, by omega⟩, by omega, hsv.1, by omega⟩ z1' ⟨ex, fun i hi => by rw [z7 i hi, sg_F_ga F1 rfl, i2 i hi], fun b hb ho hr => ?_, fun i hi => ?_, fun x q r => ?_, fun q hq => by rw [sg_F_ga f' rfl, sg_F_ga F1 rfl, i6 q hq]⟩ z6
  · show yX σ' _ (sg_g σ' 62 (slF σ b)) (if b ∈ Ob then ρ2 b else ρ5 b)
    by_cases cc : b ∈ Ob
    · rw [if_pos cc]
      obtain ⟨i, hi'⟩ := List.mem_iff_getElem?.mp cc
      have gg : (Ob.map (slF σ))[i]? = some (slF σ b) := by rw [List.getElem?_map, hi']; rfl
      rw [z8 i _ gg, sg_F_ga F1 rfl, (i7 i _ gg).2]
      exact yX_up ex hr
    · rw [if_neg cc]
      have ns : slF σ b ∉ Ob.map (slF σ) := fun w => by
        obtain ⟨y, hy, e⟩ := List.mem_map.mp w
        exact cc (by rw [← hSl.2 y b (hOb y hy) hb e]; exact hy)
      rw [z9 _ ns, sg_F_ga F1 rfl]
      exact yX_up (yEx_t e8 z2) (i3 b hb ho cc hr)
  · rw [sg_F_ga f' rfl, sg_F_ga F1 rfl, sg_F_ga f' rfl, sg_F_ga F1 rfl]
    exact i4 i hi
  · rw [sg_F_ga f' rfl, sg_F_ga F1 rfl, sg_F_ga f' rfl, sg_F_ga F1 rfl, sg_F_ga f' rfl, sg_F_ga F1 rfl]
    exact i5 x q r
end CZA
