/-! BIG STEPS: open, sift, collect. -/
/-- within a { }: W are the slots saved, the lengths come to m lanes -/
def bI (σ2 σ5 : sg_S) (lo b e nl dix t sv n N m : Int) (W L : List Int) : Prop := yEx σ2 σ5 ∧ (∀ i, i < t → sg_g σ5 64 i = sg_g σ2 64 i) ∧ (∀ s, lo ≤ s → s ∉ W → ¬ (b ≤ s ∧ s < e) → sg_g σ5 62 s = sg_g σ2 62 s) ∧ (∀ i, i < sv → sg_g σ5 72 i = sg_g σ2 72 i ∧ sg_g σ5 73 i = sg_g σ2 73 i) ∧ (∀ x, nl ≤ x → x ∉ n :: L → sg_g σ5 69 x = sg_g σ2 69 x ∧ sg_g σ5 70 x = sg_g σ2 70 x ∧ sg_g σ5 71 x = sg_g σ2 71 x) ∧ (∀ q, dix ≤ q → sg_g σ5 63 q = sg_g σ2 63 q) ∧ (∀ (i : Nat) (x : Int), W[i]? = some x → sg_g σ5 72 (sv + i) = x ∧ sg_g σ5 73 (sv + i) = sg_g σ2 62 x) ∧ (sg_g σ5 69 n = N ∧ sg_g σ5 71 n = sv) ∧ yRw σ5 (sg_g σ5 70 n) N ∧ yLn σ5 (sg_g σ5 70 n) N ∧ su (sg_g σ5 78) (sg_g σ5 80 (sg_g σ5 70 n)) N.toNat = m
theorem gE_lt {W : List Int} {i : Nat} {x : Int} (h : W[i]? = some x) : i < W.length := by
  rcases Nat.lt_or_ge i W.length with q | q
  · exact q
  · rw [List.getElem?_eq_none q] at h; cases h
theorem bI_u {σ2 σ5 σ6 : sg_S} {lo b e e' b1 e1 nl dix t t1 sv n N m : Int} {W L Lx L' : List Int} (h : bI σ2 σ5 lo b e nl dix t sv n N m W L) (u : bU σ5 σ6 lo b1 e1 nl dix t1 (sv + W.length) Lx) (hn : nl ≤ n) (hx : n ∉ Lx) (hb : b ≤ b1 ∧ e ≤ e' ∧ e1 ≤ e') (ht : t ≤ t1) (hL : ∀ x ∈ L, x ∈ L') (hLx : ∀ x ∈ Lx, x ∈ L') : bI σ2 σ6 lo b e' nl dix t sv n N m W L' := by
  obtain ⟨i1, i2, i3, i4, i5, i6, i7, ⟨i8, i9⟩, i10, i11, i12⟩ := h
  obtain ⟨u1, u2, u3, u4, u5, u6⟩ := u
  obtain ⟨z1, z2, z3⟩ := u5 n hn hx
  refine ⟨yEx_t i1 u1, fun i hi => by rw [u2 i (by omega), i2 i hi], fun s x y z => by rw [u3 s x (by omega), i3 s x y (by omega)], fun i hi => ?_, fun x q r => ?_, fun q hq => by rw [u6 q hq, i6 q hq], fun i x hx => ?_, ⟨by rw [z1]; exact i8, by rw [z3]; exact i9⟩, ?_, ?_, ?_⟩
  · obtain ⟨v1, v2⟩ := u4 i (by omega)
    rw [v1, v2]; exact i4 i hi
  · obtain ⟨v1, v2, v3⟩ := u5 x q (fun z => r (by simp [hLx x z]))
    rw [v1, v2, v3]
    exact i5 x q (fun z => r (by
      rcases List.mem_cons.mp z with y | y
      · simp [y]
      · simp [hL x y]))
  · have := gE_lt hx
    obtain ⟨v1, v2⟩ := u4 (sv + i) (by omega)
    rw [v1, v2]; exact i7 i x hx
  · rw [z2]; exact yRw_up u1 i10
  · rw [z2]; exact yLn_up u1 i10 i11
  · rw [z2, ysu_up u1 i10 (by have := i10.2.2.1; omega)]; exact i12
section BEA
variable {σ : sg_S} {σ8 : sg_S} {m : Nat} {t sv N c p n : Int} {C : List (Int × Int)}
/-- OPEN -/
theorem zs_open {g bd gd plo phi x b b' lo nl dix : Int} {dg : Nat → Nat} (h : bP σ σ8 (t + g) sv N c p) (hc : 4 ≤ c) (h0 : t + g ≤ 400 ∧ 0 ≤ t) (hp : pl σ p ((10, n) :: C)) (hn : 0 ≤ n ∧ n < 200) (hx : 0 ≤ x ∧ x < 200) (h13 : sg_g σ 13 n = g) (hg : 1 ≤ g ∧ g ≤ 4) (h8' : sg_g σ 8 n = x) (h14 : sg_g σ 14 n = gd) (hgd : 0 ≤ gd → gd < 200 ∧ plo ≤ sg_g σ 11 gd ∧ sg_g σ 12 gd ≤ phi) (hpp : plo ≤ sg_g σ 11 x ∧ sg_g σ 12 x ≤ phi ∧ 0 ≤ plo ∧ phi < 200) (h16 : sg_g σ 16 n = bd) (hbd : 0 ≤ bd ∧ bd + g ≤ 272) (hbb : b ≤ bd ∧ bd + g ≤ b') (h69 : sg_g σ8 69 n = N) (hv : ∀ i : Nat, (i : Int) < g → yV σ8 (dg i + 1) (sg_g σ8 64 (t + i)) N) (hs0 : sv ≤ 2400 ∧ sv + (phi - plo + 1) ≤ 2400) (hT : hTs σ σ8 (opU σ (sg_g σ 11 x) (sg_g σ 12 x) gd (sg_g σ 11 gd) (sg_g σ 12 gd) bd) N) (k : ∀ σ' m' W M, m' ≤ m → bP σ σ' t (sv + W.length) M c (p + 1) → W.Nodup → (∀ s, s ∈ W ↔ opU σ (sg_g σ 11 x) (sg_g σ 12 x) gd (sg_g σ 11 gd) (sg_g σ 12 gd) bd s) → ((W.length : Int) ≤ phi - plo + 1 ∨ W = []) → (∀ s ∈ W, yV σ' (sg_g σ 34 s).toNat (sg_g σ' 62 s) M) → (∀ i : Nat, (i : Int) < g → yV σ' (dg i) (sg_g σ' 62 (bd + i)) M) → yV σ' (dg 0 + 1) (sg_g σ' 70 n) N → bI σ8 σ' lo b b' nl dix t sv n N M W [] → Rr σ m' σ') : Rr σ m σ8 := by
  cases m with
  | zero => exact True.intro
  | succ m =>
    obtain ⟨p0, p1, p2, p3⟩ := pl_c hp
    refine rr_10 (p := p) (k := n) h.2.2.1.2.2.2 p0 p1 p2 (fun σ32 e32 => ?_)
    obtain ⟨h32, f32⟩ := bP_32 h ⟨p0.2, p0.1⟩ e32
    obtain ⟨a1, a2, ⟨a3, a4, a5, a6⟩, a7, a8, a9, a10⟩ := id h32
    have e8 : yEx σ8 σ32 := yEx_F f32 rfl
    have oF : ∀ s, opU σ32 (sg_g σ 11 x) (sg_g σ 12 x) gd (sg_g σ 11 gd) (sg_g σ 12 gd) bd s ↔ opU σ (sg_g σ 11 x) (sg_g σ 12 x) gd (sg_g σ 11 gd) (sg_g σ 12 gd) bd s := fun s => opU_F a1 rfl
    have hv32 : ∀ i : Nat, (i : Int) < g → yV σ32 (dg i + 1) (sg_g σ32 64 (t + i)) N := fun i hi => by rw [sg_F_ga f32 rfl]; exact yV_up e8 (hv i hi)
    refine f_open (a := n) (g := g) (n := N) (t := t) (sv := sv) (c := c) (bd := bd) (lo := sg_g σ 11 x) (hi := sg_g σ 12 x) (gd := gd) (glo := sg_g σ 11 gd) (ghi := sg_g σ 12 gd) (plo := plo) (phi := phi) (x := x) (dg := dg) hn hx (by rw [sg_F_ga a1 rfl]; exact h13) hg (by rw [sg_F_ga a1 rfl]; exact h8') (sg_F_ga a1 rfl) (sg_F_ga a1 rfl) (by rw [sg_F_ga a1 rfl]; exact h14) (fun z => ⟨(hgd z).1, sg_F_ga a1 rfl, sg_F_ga a1 rfl, (hgd z).2⟩) ⟨hpp.1, hpp.2.1, hpp.2.2⟩ (by rw [sg_F_ga a1 rfl]; exact h16) hbd a2 hc a3 ⟨h0.2, h0.1⟩ a5 a7 hv32 a4 ⟨a9, hs0⟩ (hTs_u a1 hT (fun s => (oF s).mp) e8 (fun s => sg_F_ga f32 rfl)) (fun σ' _ z _ => rr_s z) (fun σ' W f' w1 w2 w3 w4 _ => ?_)
    obtain ⟨r1, r2, r3, r4, r5, r6, r7, r8, r9, r10, r11, r12, r13, r14⟩ := w4
    have v0 := hv32 0 (by omega)
    simp only [Int.ofNat_zero, Int.cast_ofNat_Int, Int.add_zero] at v0
    have w0 := yV_up r2 v0
    have g1 := a2.1
    have mR := (yV_r v0.2.2.2)
    have M6 := mR.2.2
    have g6 := g1.2.1
    have su' : su (sg_g σ' 78) (sg_g σ' 80 (sg_g σ32 64 t)) N.toNat = su (sg_g σ32 78) (sg_g σ32 80 (sg_g σ32 64 t)) N.toNat := ysu_up r2 v0.1 (by omega)
    refine k σ' m W _ (by omega) ⟨sg_F_t a1 (sg_F_m f' rfl), r1, ⟨r7, r10, r6, by rw [sg_F_g f' (by rfl)]; exact a6⟩, ⟨by omega, by omega⟩, h0.2, by omega, a10⟩ w1 (fun s => (w2 s).trans (oF s)) w3 (fun s hs => ?_) r4 (by rw [r8]; exact w0) ?_
    · have q := hT s ((oF s).mp ((w2 s).mp hs))
      have kk := q.2.1
      unfold kIn at kk
      exact r3 s hs _ (by rw [sg_F_ga a1 rfl]; omega)
    · refine ⟨yEx_t e8 r2, fun i _ => by rw [sg_F_ga f' rfl, sg_F_ga f32 rfl], fun s x y z => by rw [r5 s y (by omega), sg_F_ga f32 rfl], fun i hi => ?_, fun x q r => ?_, fun q _ => by rw [sg_F_ga f' rfl, sg_F_ga f32 rfl], fun i x hx => ?_, ⟨by rw [sg_F_ga f' rfl, sg_F_ga f32 rfl]; exact h69, r11⟩, by rw [r8]; exact w0.1, by rw [r8]; exact w0.2.1, by rw [r8]; exact su'⟩
      · obtain ⟨c1, c2⟩ := r14 i hi
        rw [c1, c2]; exact ⟨sg_F_ga f32 rfl, sg_F_ga f32 rfl⟩
      · have xn : ¬ x = n := fun z => r (by simp [z])
        rw [sg_F_ga f' rfl, r9 x xn, r12 x xn]
        exact ⟨sg_F_ga f32 rfl, sg_F_ga f32 rfl, sg_F_ga f32 rfl⟩
      · obtain ⟨c1, c2⟩ := r13 i x hx
        exact ⟨c1, by rw [c2, sg_F_ga f32 rfl]⟩
/-- SIFT -/
theorem zs_sift {x bd g M : Int} {d0 : Nat} (h : bP σ σ8 (t + 1) sv M c p) (hc : 4 ≤ c) (h0 : t < 400 ∧ 0 ≤ t) (hp : pl σ p ((11, n) :: C)) (hn : 0 ≤ n ∧ n < 200) (hx : 0 ≤ x ∧ x < 200) (h8' : sg_g σ 8 n = x) (hl : 0 ≤ sg_g σ 11 x ∧ sg_g σ 12 x < 200) (h16 : sg_g σ 16 n = bd) (h13 : sg_g σ 13 n = g) (hbd : 0 ≤ bd ∧ 0 ≤ g ∧ bd + g ≤ 272) (h69 : sg_g σ8 69 n = N) (hN : 0 ≤ N ∧ N ≤ 6000) (hG : yV σ8 (d0 + 1) (sg_g σ8 70 n) N) (hM : su (sg_g σ8 78) (sg_g σ8 80 (sg_g σ8 70 n)) N.toNat = M) (hch : yRw σ8 (sg_g σ8 64 t) M) (hT : hTs σ σ8 (wnt σ (sg_g σ 11 x) (sg_g σ 12 x) (bd + g)) M) (k : ∀ (σ' : sg_S) (m' : Nat) (W : List Int) (M' : Int), m' ≤ m → bP σ σ' t sv M' c (p + 1) → (∀ s, s ∈ W ↔ wnt σ (sg_g σ 11 x) (sg_g σ 12 x) (bd + g) s) → (∀ s ∈ W, yV σ' (sg_g σ 34 s).toNat (sg_g σ' 62 s) M') → (∀ s, s ∉ W → sg_g σ' 62 s = sg_g σ8 62 s) → yEx σ8 σ' → (∀ i, sg_g σ' 64 i = sg_g σ8 64 i ∧ sg_g σ' 63 i = sg_g σ8 63 i ∧ sg_g σ' 69 i = sg_g σ8 69 i ∧ sg_g σ' 71 i = sg_g σ8 71 i ∧ sg_g σ' 72 i = sg_g σ8 72 i ∧ sg_g σ' 73 i = sg_g σ8 73 i) → (∀ i, ¬ i = n → sg_g σ' 70 i = sg_g σ8 70 i) → yRw σ' (sg_g σ' 70 n) N → yLn σ' (sg_g σ' 70 n) N → su (sg_g σ' 78) (sg_g σ' 80 (sg_g σ' 70 n)) N.toNat = M' → Rr σ m' σ') : Rr σ m σ8 := by
  cases m with
  | zero => exact True.intro
  | succ m =>
    obtain ⟨p0, p1, p2, p3⟩ := pl_c hp
    refine rr_11 (p := p) (k := n) h.2.2.1.2.2.2 p0 p1 p2 (fun σ32 e32 => ?_)
    obtain ⟨h32, f32⟩ := bP_32 h ⟨p0.2, p0.1⟩ e32
    obtain ⟨a1, a2, ⟨a3, a4, a5, a6⟩, a7, a8, a9, a10⟩ := id h32
    have e8 : yEx σ8 σ32 := yEx_F f32 rfl
    have wF : ∀ s, wnt σ32 (sg_g σ 11 x) (sg_g σ 12 x) (bd + g) s ↔ wnt σ (sg_g σ 11 x) (sg_g σ 12 x) (bd + g) s := fun s => wnt_F a1 rfl
    have e70 : sg_g σ32 70 n = sg_g σ8 70 n := sg_F_ga f32 rfl
    have e64 : sg_g σ32 64 t = sg_g σ8 64 t := sg_F_ga f32 rfl
    refine f_sift (a := n) (x := x) (lo := sg_g σ 11 x) (hi := sg_g σ 12 x) (bd := bd) (g := g) (n := M) (n0 := N) (c := c) (t := t) (dg := d0) hn hx (by rw [sg_F_ga a1 rfl]; exact h8') (sg_F_ga a1 rfl) (sg_F_ga a1 rfl) hl (by rw [sg_F_ga a1 rfl]; exact h16) (by rw [sg_F_ga a1 rfl]; exact h13) hbd a2 hc a3 ⟨h0.2, h0.1⟩ a5 a7 (by rw [sg_F_ga f32 rfl]; exact h69) hN (by rw [e70]; exact yV_up e8 hG) (by rw [e70, ysu_up e8 hG.1 (by omega)]; exact hM) (by rw [e64]; exact yRw_up e8 hch) (hTs_u a1 hT (fun s => (wF s).mp) e8 (fun s => sg_F_ga f32 rfl)) (fun σ' _ z _ => rr_s z) (fun σ' W f' w1 w2 w3 w4 w5 w6 w7 w8 w9 _ => ?_)
    obtain ⟨n1, n2, n3, n4⟩ := w3
    have cb := cnF_b σ32 (sg_g σ32 64 t) 1 M.toNat
    refine k σ' m W _ (by omega) ⟨sg_F_t a1 (sg_F_m f' rfl), n1, ⟨w5, by rw [sg_F_g f' (by rfl)]; exact a4, w4, by rw [sg_F_g f' (by rfl)]; exact a6⟩, ⟨by omega, by omega⟩, h0.2, a9, a10⟩ (fun s => (w2 s).trans (wF s)) (fun s hs => ?_) (fun s hs => by rw [n4 s hs, sg_F_ga f32 rfl]) (yEx_t e8 n2) (fun i => ⟨by rw [sg_F_ga f' rfl, sg_F_ga f32 rfl], by rw [sg_F_ga f' rfl, sg_F_ga f32 rfl], by rw [sg_F_ga f' rfl, sg_F_ga f32 rfl], by rw [sg_F_ga f' rfl, sg_F_ga f32 rfl], by rw [sg_F_ga f' rfl, sg_F_ga f32 rfl], by rw [sg_F_ga f' rfl, sg_F_ga f32 rfl]⟩) (fun i hi => by rw [w6 i hi, sg_F_ga f32 rfl]) w7 w8 w9
    have q := hT s ((wF s).mp ((w2 s).mp hs))
    have kk := q.2.1
    unfold kIn at kk
    exact n3 s hs _ (by rw [sg_F_ga a1 rfl]; omega)
/-- NEXT, and the end of a { } -/
theorem zs_coll {σ2 : sg_S} {M b e lo nl dix : Int} {d : Nat} {W L : List Int} (h : bP σ σ8 (t + 1) (sv + W.length) M c p) (h0 : t < 400 ∧ 0 ≤ t) (hsv : 0 ≤ sv ∧ sv + W.length ≤ 2400) (hN : 0 ≤ N ∧ N ≤ 6000) (hc : 1 ≤ c) (hp : pl σ p ((12, n) :: (1, n) :: C)) (hn : 0 ≤ n ∧ n < 200) (h3 : sg_g σ 3 n = 123) (hI : bI σ2 σ8 lo b e nl dix t sv n N M W L) (hit : yV σ8 d (sg_g σ8 64 t) M) (hNd : W.Nodup) (hW : ∀ x ∈ W, 0 ≤ x ∧ x < 272) (k : ∀ σ' m', m' ≤ m → bP σ σ' (t + 1) sv N (c - 1) (p + 2) → bU σ2 σ' lo b e nl dix t sv (n :: L) → yV σ' (d + 1) (sg_g σ' 64 t) N → Rr σ m' σ') : Rr σ m σ8 := by
  cases m with
  | zero => exact True.intro
  | succ m =>
    obtain ⟨p0, p1, p2, p3⟩ := pl_c hp
    refine rr_12 (p := p) (k := n) h.2.2.1.2.2.2 p0 p1 p2 (fun σ30 e30 => ?_)
    obtain ⟨h30, f30⟩ := bP_32 h ⟨p0.2, p0.1⟩ e30
    unfold V_fNext
    intro _
    cases m with
    | zero => exact True.intro
    | succ m =>
      obtain ⟨p4, p5, p6, p7⟩ := pl_c p3
      refine rr_1 (p := p + 1) (k := n) h30.2.2.1.2.2.2 p4 p5 p6 (fun σ32 e32 => ?_)
      obtain ⟨h32, f31⟩ := bP_32 h30 ⟨p4.2, p4.1⟩ e32
      have f32 : sg_F [9061] σ8 σ32 := sg_F_t (sg_F_m f30 rfl) (sg_F_m f31 rfl)
      obtain ⟨a1, a2, ⟨a3, a4, a5, a6⟩, a7, a8, a9, a10⟩ := id h32
      unfold V_mFinish
      rw [xa_in (a := 3) hn, show sg_g σ32 3 n = 123 by rw [sg_F_ga a1 rfl]; exact h3]
      intro σ1 e1
      have f1 : sg_F [10061] σ32 σ1 := by rw [e1]; exact sg_F_w (sg_F_r _ _) rfl _
      refine ⟨fun z => absurd z (by decide), fun _ => ⟨fun z => absurd z (by decide), fun _ => ⟨fun z => absurd z (by decide), fun _ => ?_⟩⟩⟩
      have F1 : sg_F [9061, 10061] σ8 σ1 := sg_F_t (sg_F_m f32 rfl) (sg_F_m f1 rfl)
      have e8 : yEx σ8 σ1 := yEx_F F1 rfl
      obtain ⟨i1, i2, i3, i4, i5, i6, i7, ⟨i8, i9⟩, i10, i11, i12⟩ := hI
      have e70 : sg_g σ1 70 n = sg_g σ8 70 n := sg_F_ga F1 rfl
      refine f_collect (W := W) (a := n) (sb := sv) (n0 := N) (t := t) (c := c) (d := d) hn (mC_F a2 f1 rfl) hc (by rw [sg_F_g f1 (by rfl)]; exact a3) ⟨h0.2, h0.1⟩ (by rw [sg_F_ga F1 rfl]; exact i8) (by rw [e70]; exact yRw_up e8 i10) (by rw [e70]; exact yLn_up e8 i10 i11) (by rw [e70, ysu_up e8 i10 (by omega), i12, sg_F_ga F1 rfl]; exact yV_up e8 hit) (by rw [sg_F_ga F1 rfl]; exact i9) (by rw [sg_F_g f1 (by rfl)]; exact a4) hsv hNd hW (fun i x hx => by rw [sg_F_ga F1 rfl]; exact (i7 i x hx).1) (fun σ' f' z1 z2 z3 z4 z5 z6 z7 z8 z9 _ _ => ?_)
      refine k σ' m (by omega) ⟨sg_F_t a1 (sg_F_t (sg_F_m f1 rfl) (sg_F_m f' rfl)), z1, ⟨z5, z4, z3, by rw [sg_F_g f' (by rfl), sg_F_g f1 (by rfl), a6]; omega⟩, hN, by omega, hsv.1, by omega⟩ ⟨yEx_t i1 (yEx_t e8 z2), fun i hi => by rw [z7 i hi, sg_F_ga F1 rfl, i2 i hi], fun s x y => ?_, fun i hi => ?_, fun x q r => ?_, fun q hq => by rw [sg_F_ga f' rfl, sg_F_ga F1 rfl, i6 q hq]⟩ z6
      · by_cases cc : s ∈ W
        · obtain ⟨i, hi', ee⟩ := List.mem_iff_getElem.mp cc
          have gg : W[i]? = some s := by rw [List.getElem?_eq_getElem hi', ee]
          rw [z8 i s gg, sg_F_ga F1 rfl, (i7 i s gg).2]
        · rw [z9 s cc, sg_F_ga F1 rfl, i3 s x cc y]
      · rw [sg_F_ga f' rfl, sg_F_ga F1 rfl, sg_F_ga f' rfl, sg_F_ga F1 rfl]
        exact i4 i hi
      · rw [sg_F_ga f' rfl, sg_F_ga F1 rfl, sg_F_ga f' rfl, sg_F_ga F1 rfl, sg_F_ga f' rfl, sg_F_ga F1 rfl]
        exact i5 x q r
end BEA
