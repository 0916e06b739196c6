/-! A FLAT RUN in big steps: what is kept. -/
/-- before a node's orders -/
def bP (σ σ8 : sg_S) (t sv N c p : Int) : Prop := sg_F bRL σ σ8 ∧ mC σ8 c ∧ (sg_g σ8 61 7 = t ∧ sg_g σ8 61 22 = sv ∧ sg_g σ8 61 23 = N ∧ sg_g σ8 61 8 = p) ∧ (0 ≤ N ∧ N ≤ 6000) ∧ 0 ≤ t ∧ 0 ≤ sv ∧ 0 ≤ c
/-- what stays -/
def bU (σ8 σ' : sg_S) (lo b e nl dix t sv : Int) (L : List Int) : Prop := yEx σ8 σ' ∧ (∀ i, i < t → sg_g σ' 64 i = sg_g σ8 64 i) ∧ (∀ s, lo ≤ s → ¬ (b ≤ s ∧ s < e) → sg_g σ' 62 s = sg_g σ8 62 s) ∧ (∀ i, i < sv → sg_g σ' 72 i = sg_g σ8 72 i ∧ sg_g σ' 73 i = sg_g σ8 73 i) ∧ (∀ x, nl ≤ x → x ∉ L → sg_g σ' 69 x = sg_g σ8 69 x ∧ sg_g σ' 70 x = sg_g σ8 70 x ∧ sg_g σ' 71 x = sg_g σ8 71 x) ∧ ∀ q, dix ≤ q → sg_g σ' 63 q = sg_g σ8 63 q
theorem bU_r {σ8 : sg_S} {lo b e nl dix t sv : Int} {L : List Int} : bU σ8 σ8 lo b e nl dix t sv L := ⟨yEx_r _, fun _ _ => rfl, fun _ _ _ => rfl, fun _ _ => ⟨rfl, rfl⟩, fun _ _ _ => ⟨rfl, rfl, rfl⟩, fun _ _ => rfl⟩
theorem bU_t {σ8 σ1 σ2 : sg_S} {lo b e b1 e1 b2 e2 nl dix t t1 t2 sv sv1 sv2 : Int} {L L1 L2 : List Int} (h : bU σ8 σ1 lo b1 e1 nl dix t1 sv1 L1) (g : bU σ1 σ2 lo b2 e2 nl dix t2 sv2 L2) (hb : b ≤ b1 ∧ e1 ≤ e ∧ b ≤ b2 ∧ e2 ≤ e) (ht : t ≤ t1 ∧ t ≤ t2) (hs : sv ≤ sv1 ∧ sv ≤ sv2) (h1 : ∀ x ∈ L1, x ∈ L) (h2 : ∀ x ∈ L2, x ∈ L) : bU σ8 σ2 lo b e nl dix t sv L := by
  obtain ⟨a1, a2, a3, a4, a5, a6⟩ := h
  obtain ⟨c1, c2, c3, c4, c5, c6⟩ := g
  refine ⟨yEx_t a1 c1, fun i hi => by rw [c2 i (by omega), a2 i (by omega)], fun s x y => by rw [c3 s x (by omega), a3 s x (by omega)], fun i hi => ?_, fun x q r => ?_, fun q hq => by rw [c6 q hq, a6 q hq]⟩
  · obtain ⟨e1, e2⟩ := c4 i (by omega)
    obtain ⟨e3, e4⟩ := a4 i (by omega)
    exact ⟨e1.trans e3, e2.trans e4⟩
  · obtain ⟨e1, e2, e3⟩ := c5 x q (fun z => r (h2 x z))
    obtain ⟨e4, e5, e6⟩ := a5 x q (fun z => r (h1 x z))
    exact ⟨e1.trans e4, e2.trans e5, e3.trans e6⟩
theorem bU_w {σ8 σ1 : sg_S} {lo lo1 b e b1 e1 nl nl1 dix dix1 t t1 sv sv1 : Int} {L L1 : List Int} (h : bU σ8 σ1 lo1 b1 e1 nl1 dix1 t1 sv1 L1) (hl : lo1 ≤ lo ∧ nl1 ≤ nl ∧ dix1 ≤ dix) (hb : ∀ s, lo ≤ s → b1 ≤ s → s < e1 → b ≤ s ∧ s < e) (ht : t ≤ t1) (hs : sv ≤ sv1) (h1 : ∀ x ∈ L1, nl ≤ x → x ∈ L) : bU σ8 σ1 lo b e nl dix t sv L := by
  obtain ⟨c1, c2, c3, c4, c5, c6⟩ := h
  exact ⟨c1, fun i hi => c2 i (by omega), fun s x y => c3 s (by omega) (fun z => y (hb s x z.1 z.2)), fun i hi => c4 i (by omega), fun x q r => c5 x (by omega) (fun z => r (h1 x z q)), fun q hq => c6 q (by omega)⟩
/-- what a frame leaves -/
theorem bU_F {K : List Nat} {σ8 σ1 : sg_S} {lo b e nl dix t sv : Int} (f : sg_F K σ8 σ1) (hK : (!sg_cv K 77 10 && !sg_cv K 77 16 && sg_ca K 78 && sg_ca K 79 && sg_ca K 80 && sg_ca K 81 && sg_ca K 82 && sg_ca K 62 && sg_ca K 63 && sg_ca K 64 && sg_ca K 69 && sg_ca K 70 && sg_ca K 71 && sg_ca K 72 && sg_ca K 73) = true) : bU σ8 σ1 lo b e nl dix t sv [] := by
  simp only [Bool.and_eq_true] at hK
  obtain ⟨⟨⟨⟨⟨⟨⟨⟨hY, k62⟩, k63⟩, k64⟩, k69⟩, k70⟩, k71⟩, k72⟩, k73⟩ := hK
  exact ⟨yEx_F f (by simp only [Bool.and_eq_true]; exact hY), fun i _ => sg_F_ga f k64, fun s _ _ => sg_F_ga f k62, fun i _ => ⟨sg_F_ga f k72, sg_F_ga f k73⟩, fun x _ _ => ⟨sg_F_ga f k69, sg_F_ga f k70, sg_F_ga f k71⟩, fun q _ => sg_F_ga f k63⟩
theorem rr_s {σ σ8 : sg_S} {m : Nat} (h : ¬ sg_g σ8 61 10 = 0) : Rr σ m σ8 := by
  cases m with
  | zero => exact True.intro
  | succ m => intro _ z; exact absurd z h
/-- a step forward -/
theorem bP_32 {σ σ8 σ32 : sg_S} {t sv N c p : Int} (h : bP σ σ8 t sv N c p) (hp : p < 1013 ∧ 0 ≤ p) (e : σ32 = sg_w σ8 61 8 (p + 1)) : bP σ σ32 t sv N c (p + 1) ∧ sg_F [9061] σ8 σ32 := by
  have f : sg_F [9061] σ8 σ32 := by rw [e]; exact sg_F_w (sg_F_r _ _) rfl _
  obtain ⟨a1, a2, ⟨a3, a4, a5, a6⟩, a7⟩ := h
  refine ⟨⟨sg_F_t a1 (sg_F_m f rfl), mC_F a2 f rfl, ⟨by rw [sg_F_g f (by rfl)]; exact a3, by rw [sg_F_g f (by rfl)]; exact a4, by rw [sg_F_g f (by rfl)]; exact a5, ?_⟩, a7⟩, f⟩
  rw [e, sg_gw_e _ _ _ _ ⟨by omega, by omega⟩]
theorem mC_m {σ : sg_S} {c c' : Int} (h : mC σ c) (hc : c' ≤ c) : mC σ c' := by
  obtain ⟨a1, a2, a3, a4, a5⟩ := h
  exact ⟨a1, a2, a3, by omega, a5⟩
theorem bP_m {σ σ8 : sg_S} {t sv N c c' p : Int} (h : bP σ σ8 t sv N c p) (hc : 0 ≤ c' ∧ c' ≤ c) : bP σ σ8 t sv N c' p := by
  obtain ⟨a1, a2, a3, a4, a5, a6, a7⟩ := h
  exact ⟨a1, mC_m a2 hc.2, a3, a4, a5, a6, hc.1⟩
section BST
variable {σ σ8 : sg_S} {m : Nat} {t sv N c p n : Int} {C : List (Int × Int)} {lo b e nl dix : Int}
/-- BEGIN -/
theorem zs_begin (h : bP σ σ8 t sv N c p) (hp : pl σ p ((0, n) :: C)) (hn : 0 ≤ n ∧ n < 200) (k : ∀ σ' m', m' ≤ m → bP σ σ' t sv N (c + 4) (p + 1) → sg_F [69, 9061, 18077, 19077, 25061] σ8 σ' → bU σ8 σ' lo b e nl dix t sv [n] → sg_g σ' 69 n = N → Rr σ m' σ') : Rr σ m σ8 := by
  cases m with
  | zero => exact True.intro
  | succ m =>
    obtain ⟨p0, p1, p2, p3⟩ := pl_c hp
    refine rr_0 (p := p) (k := n) h.2.2.1.2.2.2 p0 p1 p2 (fun σ32 e32 => ?_)
    obtain ⟨h32, f32⟩ := bP_32 h ⟨p0.2, p0.1⟩ e32
    obtain ⟨a1, a2, ⟨a3, a4, a5, a6⟩, a7, a8, a9, a10⟩ := h32
    obtain ⟨m1, m2, m3, m4, m5⟩ := a2
    refine f_begin hn a5 m3 m5 (fun σ' _ z _ => rr_s z) (fun σ' f' z1 z2 z3 z4 z5 _ => k σ' m (by omega) ⟨sg_F_t a1 (sg_F_m f' rfl), ⟨yG_F m1 f' rfl, y0_F m2 f' rfl, z1, by rw [z2, sg_F_g f' (by rfl)]; omega, by rw [z2]; omega⟩, ⟨by rw [sg_F_g f' (by rfl)]; exact a3, by rw [sg_F_g f' (by rfl)]; exact a4, by rw [sg_F_g f' (by rfl)]; exact a5, by rw [sg_F_g f' (by rfl)]; exact a6⟩, a7, a8, a9, by omega⟩ (sg_F_t (sg_F_m f32 rfl) (sg_F_m f' rfl)) ?_ z4)
    have g : sg_F [69, 9061, 18077, 19077, 25061] σ8 σ' := sg_F_t (sg_F_m f32 rfl) (sg_F_m f' rfl)
    refine ⟨yEx_F g rfl, fun i _ => sg_F_ga g rfl, fun s _ _ => sg_F_ga g rfl, fun i _ => ⟨sg_F_ga g rfl, sg_F_ga g rfl⟩, fun x _ hx => ⟨?_, sg_F_ga g rfl, sg_F_ga g rfl⟩, fun q _ => sg_F_ga g rfl⟩
    rw [z5 x (by simpa using hx), sg_F_ga f32 rfl]
/-- what an operation leaves, seen from before its order -/
theorem zs_fn {σ32 σ' : sg_S} {D : Nat} {a : Int} (h : bP σ σ8 (t + a) sv N c p) (h0 : 0 ≤ t ∧ 0 ≤ a) (h32 : bP σ σ32 (t + a) sv N c (p + 1)) (f32 : sg_F [9061] σ8 σ32) (f' : sg_F fnL σ32 σ') (r : fnR σ32 σ' D N t c) (k : bP σ σ' (t + 1) sv N c (p + 1) → bU σ8 σ' lo b e nl dix t sv [] → yV σ' D (sg_g σ' 64 t) N → Rr σ m σ') : Rr σ m σ' := by
  rcases r with z | ⟨z1, z2, z3, z4, z5⟩
  · exact rr_s z
  · obtain ⟨a1, a2, ⟨a3, a4, a5, a6⟩, a7, a8, a9, a10⟩ := h32
    refine k ⟨sg_F_t a1 (sg_F_m f' rfl), z1, ⟨z4, by rw [sg_F_g f' (by rfl)]; exact a4, by rw [sg_F_g f' (by rfl)]; exact a5, by rw [sg_F_g f' (by rfl)]; exact a6⟩, a7, by omega, a9, a10⟩ ?_ z3
    exact ⟨yEx_t (yEx_F f32 rfl) z2, fun i hi => by rw [z5 i hi, sg_F_ga f32 rfl], fun s _ _ => by rw [sg_F_ga f' rfl, sg_F_ga f32 rfl], fun i _ => ⟨by rw [sg_F_ga f' rfl, sg_F_ga f32 rfl], by rw [sg_F_ga f' rfl, sg_F_ga f32 rfl]⟩, fun x _ _ => ⟨by rw [sg_F_ga f' rfl, sg_F_ga f32 rfl], by rw [sg_F_ga f' rfl, sg_F_ga f32 rfl], by rw [sg_F_ga f' rfl, sg_F_ga f32 rfl]⟩, fun q _ => by rw [sg_F_ga f' rfl, sg_F_ga f32 rfl]⟩
/-- a node with one part -/
theorem zs_one {k ta : Int} (h : bP σ σ8 (t + 1) sv N c p) (hc : 4 ≤ c) (ht : t < 400 ∧ 0 ≤ t) (hp : pl σ p ((2, n) :: C)) (hn : 0 ≤ n ∧ n < 200) (h3 : sg_g σ 3 n = kmp k) (h6 : sg_g σ 6 n ≤ 3) (hta : 0 ≤ ta ∧ ta ≤ 3) (hv : yV σ8 ta.toNat (sg_g σ8 64 t) N) (ho : op1 k ta (sg_g σ 6 n)) (kk : ∀ σ' m', m' ≤ m → bP σ σ' (t + 1) sv N c (p + 1) → bU σ8 σ' lo b e nl dix t sv [] → yV σ' (sg_g σ 6 n).toNat (sg_g σ' 64 t) N → Rr σ m' σ') : Rr σ m σ8 := by
  cases m with
  | zero => exact True.intro
  | succ m =>
    obtain ⟨p0, p1, p2, p3⟩ := pl_c hp
    refine rr_2 (p := p) (k := n) h.2.2.1.2.2.2 p0 p1 p2 (fun σ32 e32 => ?_)
    obtain ⟨h32, f32⟩ := bP_32 h ⟨p0.2, p0.1⟩ e32
    obtain ⟨a1, a2, ⟨a3, a4, a5, a6⟩, a7, a8, a9, a10⟩ := id h32
    refine fin1 (k := k) (ta := ta) (ty := sg_g σ 6 n) hn a2 hc a3 ⟨by omega, by omega⟩ a5 a7 (by rw [sg_F_ga a1 rfl]; exact h3) (sg_F_ga a1 rfl) h6 hta (by rw [sg_F_ga f32 rfl]; exact yV_up (yEx_F f32 rfl) hv) ho (fun σ' f' r' _ => ?_)
    exact zs_fn (a := 1) h ⟨ht.2, by omega⟩ h32 f32 f' r' (fun q1 q2 q3 => kk σ' m (by omega) q1 q2 q3)
theorem zs_two {k ta tb : Int} (h : bP σ σ8 (t + 2) sv N c p) (hc : 4 ≤ c) (ht : t + 2 ≤ 400 ∧ 0 ≤ t) (hp : pl σ p ((3, n) :: C)) (hn : 0 ≤ n ∧ n < 200) (h3 : sg_g σ 3 n = kmp k) (h6 : sg_g σ 6 n ≤ 3) (hta : 0 ≤ ta ∧ ta ≤ 3) (hv : yV σ8 ta.toNat (sg_g σ8 64 t) N) (hw : yV σ8 tb.toNat (sg_g σ8 64 (t + 1)) N) (ho : op2 k ta tb (sg_g σ 6 n)) (kk : ∀ σ' m', m' ≤ m → bP σ σ' (t + 1) sv N c (p + 1) → bU σ8 σ' lo b e nl dix t sv [] → yV σ' (sg_g σ 6 n).toNat (sg_g σ' 64 t) N → Rr σ m' σ') : Rr σ m σ8 := by
  cases m with
  | zero => exact True.intro
  | succ m =>
    obtain ⟨p0, p1, p2, p3⟩ := pl_c hp
    refine rr_3 (p := p) (k := n) h.2.2.1.2.2.2 p0 p1 p2 (fun σ32 e32 => ?_)
    obtain ⟨h32, f32⟩ := bP_32 h ⟨p0.2, p0.1⟩ e32
    obtain ⟨a1, a2, ⟨a3, a4, a5, a6⟩, a7, a8, a9, a10⟩ := id h32
    refine fin2 (k := k) (ta := ta) (tb := tb) (ty := sg_g σ 6 n) hn a2 hc a3 ⟨by omega, by omega⟩ a5 a7 (by rw [sg_F_ga a1 rfl]; exact h3) (sg_F_ga a1 rfl) h6 hta (by rw [sg_F_ga f32 rfl]; exact yV_up (yEx_F f32 rfl) hv) (by rw [sg_F_ga f32 rfl]; exact yV_up (yEx_F f32 rfl) hw) ho (fun σ' f' r' _ => ?_)
    exact zs_fn (a := 2) h ⟨ht.2, by omega⟩ h32 f32 f' r' (fun q1 q2 q3 => kk σ' m (by omega) q1 q2 q3)
/-- a NUMBER -/
theorem zs_num (h : bP σ σ8 t sv N c p) (hc : 4 ≤ c) (ht : t < 400 ∧ 0 ≤ t) (hp : pl σ p ((1, n) :: C)) (hn : 0 ≤ n ∧ n < 200) (h3 : sg_g σ 3 n = 257) (h6 : sg_g σ 6 n = 0) (kk : ∀ σ' m', m' ≤ m → bP σ σ' (t + 1) sv N c (p + 1) → bU σ8 σ' lo b e nl dix t sv [] → yV σ' (sg_g σ 6 n).toNat (sg_g σ' 64 t) N → Rr σ m' σ') : Rr σ m σ8 := by
  cases m with
  | zero => exact True.intro
  | succ m =>
    obtain ⟨p0, p1, p2, p3⟩ := pl_c hp
    refine rr_1 (p := p) (k := n) h.2.2.1.2.2.2 p0 p1 p2 (fun σ32 e32 => ?_)
    obtain ⟨h32, f32⟩ := bP_32 h ⟨p0.2, p0.1⟩ e32
    obtain ⟨a1, a2, ⟨a3, a4, a5, a6⟩, a7, a8, a9, a10⟩ := id h32
    obtain ⟨m1, m2, m3, m4, m5⟩ := id a2
    unfold V_mFinish
    rw [xa_in (a := 6) hn, xa_in (a := 3) hn, show sg_g σ32 6 n = 0 by rw [sg_F_ga a1 rfl]; exact h6, show sg_g σ32 3 n = 257 by rw [sg_F_ga a1 rfl]; exact h3]
    intro σ1 e1
    have f1 : sg_F [10061] σ32 σ1 := by rw [e1]; exact sg_F_w (sg_F_r _ _) rfl _
    refine ⟨fun _ => ?_, fun z => absurd rfl z⟩
    refine f_constant (t := t) (n := N) (fP_mk (t := t) ⟨m1, m2, by omega, m5, by omega⟩ f1 (by rw [sg_F_g f1 (by rfl)]; exact a3) ⟨by omega, by omega⟩ rfl) (by rw [e1, sg_gw_e _ _ _ _ (by decide)]) (by rw [sg_F_g f1 (by rfl)]; exact a5) (sx_R _ _ _ _) (fun σ' f' r' _ _ => ?_)
    exact zs_fn (a := 0) (D := 0) (t := t) (by rw [Int.add_zero]; exact h) ⟨ht.2, by omega⟩ (by rw [Int.add_zero]; exact h32) f32 (sg_F_t (sg_F_m f1 rfl) (sg_F_m f' rfl)) (gv_fn a2 f1 rfl r') (fun q1 q2 q3 => kk σ' m (by omega) q1 q2 (by rw [h6]; exact q3))
/-- a ROW -/
theorem zs_row {a : Int} {d : Nat} (h : bP σ σ8 (t + a) sv N c p) (hc : 4 ≤ c) (ht : t + a ≤ 400 ∧ 0 ≤ t) (ha : 1 ≤ a ∧ a ≤ 200) (hp : pl σ p ((1, n) :: C)) (hn : 0 ≤ n ∧ n < 200) (h3 : sg_g σ 3 n = 279) (h10 : sg_g σ 10 n = a) (h6 : sg_g σ 6 n = (d + 1 : Nat)) (hd : d + 1 ≤ 3) (hv : ∀ i : Nat, (i : Int) < a → yV σ8 d (sg_g σ8 64 (t + i)) N) (kk : ∀ σ' m', m' ≤ m → bP σ σ' (t + 1) sv N c (p + 1) → bU σ8 σ' lo b e nl dix t sv [] → yV σ' (sg_g σ 6 n).toNat (sg_g σ' 64 t) N → Rr σ m' σ') : Rr σ m σ8 := by
  cases m with
  | zero => exact True.intro
  | succ m =>
    obtain ⟨p0, p1, p2, p3⟩ := pl_c hp
    refine rr_1 (p := p) (k := n) h.2.2.1.2.2.2 p0 p1 p2 (fun σ32 e32 => ?_)
    obtain ⟨h32, f32⟩ := bP_32 h ⟨p0.2, p0.1⟩ e32
    obtain ⟨a1, a2, ⟨a3, a4, a5, a6⟩, a7, a8, a9, a10⟩ := id h32
    obtain ⟨m1, m2, m3, m4, m5⟩ := id a2
    unfold V_mFinish
    rw [xa_in (a := 6) hn, xa_in (a := 3) hn, xa_in (a := 10) hn, show sg_g σ32 6 n = (d + 1 : Nat) by rw [sg_F_ga a1 rfl]; exact h6, show sg_g σ32 3 n = 279 by rw [sg_F_ga a1 rfl]; exact h3, show sg_g σ32 10 n = a by rw [sg_F_ga a1 rfl]; exact h10]
    intro σ1 e1
    have f1 : sg_F [10061] σ32 σ1 := by rw [e1]; exact sg_F_w (sg_F_r _ _) rfl _
    refine ⟨fun z => absurd z (by decide), fun _ => ⟨fun z => absurd z (by decide), fun _ => ⟨fun _ => ?_, fun z => absurd rfl z⟩⟩⟩
    refine f_row (t := t) (n := N) (d := d) ⟨yG_F m1 f1 rfl, y0_F m2 f1 rfl, by rw [sg_F_g f1 (by rfl), sg_F_g f1 (by rfl)]; omega, by rw [sg_F_g f1 (by rfl)]; exact m5, by rw [sg_F_g f1 (by rfl)]; omega⟩ (by rw [sg_F_g f1 (by rfl)]; exact a3) ⟨by omega, by omega⟩ ha hd (by rw [e1, sg_gw_e _ _ _ _ ⟨by omega, by omega⟩]) (by rw [sg_F_g f1 (by rfl)]; exact a5) (fun i hi => by rw [sg_F_ga f1 rfl, sg_F_ga f32 rfl]; exact yV_up (yEx_F f1 rfl) (yV_up (yEx_F f32 rfl) (hv i hi))) (fun σ' f' r' _ _ => ?_)
    exact zs_fn (a := a) (D := d + 1) (t := t) h ⟨ht.2, by omega⟩ h32 f32 (sg_F_t (sg_F_m f1 rfl) (sg_F_m f' rfl)) (gv_fn a2 f1 rfl r') (fun q1 q2 q3 => kk σ' m (by omega) q1 q2 (by rw [h6, Int.toNat_natCast]; exact q3))
/-- a NAME -/
theorem zs_name {s : Int} (h : bP σ σ8 t sv N c p) (ht : t < 400 ∧ 0 ≤ t) (hp : pl σ p ((1, n) :: C)) (hn : 0 ≤ n ∧ n < 200) (h3 : sg_g σ 3 n = 258) (h16 : sg_g σ 16 n = s) (hs : 0 ≤ s ∧ s < 272) (h6 : sg_g σ 34 s = sg_g σ 6 n) (hv : yV σ8 (sg_g σ 34 s).toNat (sg_g σ8 62 s) N) (kk : ∀ σ' m', m' ≤ m → bP σ σ' (t + 1) sv N c (p + 1) → bU σ8 σ' lo b e nl dix t sv [] → yV σ' (sg_g σ 6 n).toNat (sg_g σ' 64 t) N → Rr σ m' σ') : Rr σ m σ8 := by
  cases m with
  | zero => exact True.intro
  | succ m =>
    obtain ⟨p0, p1, p2, p3⟩ := pl_c hp
    refine rr_1 (p := p) (k := n) h.2.2.1.2.2.2 p0 p1 p2 (fun σ32 e32 => ?_)
    obtain ⟨h32, f32⟩ := bP_32 h ⟨p0.2, p0.1⟩ e32
    obtain ⟨a1, a2, ⟨a3, a4, a5, a6⟩, a7, a8, a9, a10⟩ := id h32
    unfold V_mFinish
    rw [xa_in (a := 16) hn, xa_in (a := 3) hn, show sg_g σ32 16 n = s by rw [sg_F_ga a1 rfl]; exact h16, show sg_g σ32 3 n = 258 by rw [sg_F_ga a1 rfl]; exact h3, xa_in (a := 62) hs]
    intro σ1 e1
    have f1 : sg_F [10061] σ32 σ1 := by rw [e1]; exact sg_F_w (sg_F_r _ _) rfl _
    refine ⟨fun z => absurd z (by decide), fun _ => ⟨fun _ => ?_, fun z => absurd rfl z⟩⟩
    refine y_push (t := t) (by rw [sg_F_g f1 (by rfl)]; exact a3) ⟨ht.2, ht.1⟩ (sg_Rg _ _ _) (fun σ' f' z1 z2 z3 _ _ => ?_)
    have F : sg_F [64, 8061, 9061, 10061] σ8 σ' := sg_F_t (sg_F_t (sg_F_m f32 rfl) (sg_F_m f1 rfl)) (sg_F_m f' rfl)
    have F2 : sg_F [64, 8061, 10061] σ32 σ' := sg_F_t (sg_F_m f1 rfl) (sg_F_m f' rfl)
    refine kk σ' m (by omega) ⟨sg_F_t h.1 (sg_F_m F rfl), mC_F h.2.1 F rfl, ⟨z1, by rw [sg_F_g F2 (by rfl)]; exact a4, by rw [sg_F_g F2 (by rfl)]; exact a5, by rw [sg_F_g F2 (by rfl)]; exact a6⟩, a7, by omega, a9, a10⟩ ?_ ?_
    · exact ⟨yEx_F F rfl, fun i hi => by rw [z3 i (by omega), sg_F_ga f1 rfl, sg_F_ga f32 rfl], fun s _ _ => sg_F_ga F rfl, fun i _ => ⟨sg_F_ga F rfl, sg_F_ga F rfl⟩, fun x _ _ => ⟨sg_F_ga F rfl, sg_F_ga F rfl, sg_F_ga F rfl⟩, fun q _ => sg_F_ga F rfl⟩
    · rw [z2, ← h6, sg_F_ga f32 rfl]
      exact yV_up (yEx_F F rfl) hv
end BST
