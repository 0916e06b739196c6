/-! THE CHECKER a third time: which slot a NAME has, which DEF a call, where the orders jump to. -/
/-- names known, the newest first: word and slot -/
def kmE (σ : sg_S) : Int → kE → Prop
  | n, [] => n = 0
  | n, x :: r => 0 < n ∧ sg_gl σ 39 (n - 1) = uv x.1 ∧ sg_g σ 40 (n - 1) = x.2 ∧ wv x.1 ∧ kmE σ (n - 1) r
theorem kmE_n {σ : sg_S} : ∀ {n : Int} {l : kE}, kmE σ n l → n = l.length
  | n, [], h => by simp only [kmE] at h; simp [h]
  | n, x :: r, h => by have := kmE_n h.2.2.2.2; simp only [List.length_cons]; omega
theorem kmE_e {σ σ' : sg_S} : ∀ {n : Int} {l : kE}, kmE σ n l → (∀ j, 0 ≤ j → j < n → sg_g σ' 40 j = sg_g σ 40 j ∧ sg_gl σ' 39 j = sg_gl σ 39 j) → kmE σ' n l
  | n, [], h, _ => h
  | n, x :: r, h, hj => by
    obtain ⟨a1, a2, a3, a4, a5⟩ := h
    have e := hj (n - 1) (by omega) (by omega)
    exact ⟨a1, by rw [e.2]; exact a2, by rw [e.1]; exact a3, a4, kmE_e a5 (fun j x y => hj j x (by omega))⟩
theorem kmE_F {L : List Nat} {σ σ' : sg_S} {n : Int} {e : kE} (h : kmE σ n e) (f : sg_F L σ σ') (hL : (sg_ca L 39 && sg_ca L 40) = true) : kmE σ' n e := by
  simp only [Bool.and_eq_true] at hL
  exact kmE_e h (fun j _ _ => ⟨sg_F_ga f hL.2, sg_F_gal f hL.1⟩)
def kS3 (σ : sg_S) (es : kE) (e b p : Int) : Prop := sg_g σ 38 13 = 0 ∧ (sg_g σ 38 9 = e ∧ sg_g σ 38 10 = b ∧ sg_g σ 28 6 = p) ∧ kmE σ e es ∧ (0 ≤ e ∧ 0 ≤ b ∧ 0 ≤ p)
theorem kS3_F {L : List Nat} {σ σ' : sg_S} {es : kE} {e b p : Int} (h : kS3 σ es e b p) (f : sg_F L σ σ') (hL : (sg_ca L 39 && sg_ca L 40 && !sg_cv L 38 13 && !sg_cv L 38 9 && !sg_cv L 38 10 && !sg_cv L 28 6) = true) : kS3 σ' es e b p := by
  simp only [Bool.and_eq_true, Bool.not_eq_true'] at hL
  obtain ⟨⟨⟨⟨⟨l1, l2⟩, l3⟩, l4⟩, l5⟩, l6⟩ := hL
  obtain ⟨s1, ⟨s2, s3, s4⟩, s5, s6⟩ := h
  exact ⟨by rw [sg_F_g f l3]; exact s1, ⟨by rw [sg_F_g f l4]; exact s2, by rw [sg_F_g f l5]; exact s3, by rw [sg_F_g f l6]; exact s4⟩, kmE_F s5 f (by rw [l1, l2]; rfl), s6⟩
/-- what stays -/
def kU3 (σ σ' : sg_S) (e b p : Int) (L : List Int) : Prop := (∀ x, x ∉ L → (sg_g σ' 6 x = sg_g σ 6 x ∧ sg_g σ' 16 x = sg_g σ 16 x ∧ sg_g σ' 32 x = sg_g σ 32 x ∧ sg_g σ' 33 x = sg_g σ 33 x) ∧ sg_g σ' 41 x = sg_g σ 41 x ∧ sg_g σ' 42 x = sg_g σ 42 x ∧ sg_g σ' 43 x = sg_g σ 43 x ∧ sg_g σ' 44 x = sg_g σ 44 x) ∧ (∀ s, s < b → sg_g σ' 34 s = sg_g σ 34 s) ∧ (∀ i, i < e → sg_g σ' 40 i = sg_g σ 40 i ∧ sg_gl σ' 39 i = sg_gl σ 39 i) ∧ ∀ i, i < p → sg_g σ' 29 i = sg_g σ 29 i ∧ sg_g σ' 30 i = sg_g σ 30 i
theorem kU3_r (σ : sg_S) (e b p : Int) (L : List Int) : kU3 σ σ e b p L := ⟨fun _ _ => ⟨⟨rfl, rfl, rfl, rfl⟩, rfl, rfl, rfl, rfl⟩, fun _ _ => rfl, fun _ _ => ⟨rfl, rfl⟩, fun _ _ => ⟨rfl, rfl⟩⟩
theorem kU3_t {σ σ1 σ2 : sg_S} {e b p e1 b1 p1 e2 b2 p2 : Int} {L L1 L2 : List Int} (h : kU3 σ σ1 e1 b1 p1 L1) (g : kU3 σ1 σ2 e2 b2 p2 L2) (he : e ≤ e1 ∧ e ≤ e2) (hb : b ≤ b1 ∧ b ≤ b2) (hp : p ≤ p1 ∧ p ≤ p2) (h1 : ∀ x ∈ L1, x ∈ L) (h2 : ∀ x ∈ L2, x ∈ L) : kU3 σ σ2 e b p L := by
  obtain ⟨a1, a2, a3, a4⟩ := h
  obtain ⟨c1, c2, c3, c4⟩ := g
  refine ⟨fun x hx => ?_, fun s hs => by rw [c2 s (by omega), a2 s (by omega)], fun i hi => ?_, fun i hi => ?_⟩
  · obtain ⟨⟨x1, x2, x7, x8⟩, x3, x4, x5, x6⟩ := a1 x (fun z => hx (h1 x z))
    obtain ⟨⟨y1, y2, y7, y8⟩, y3, y4, y5, y6⟩ := c1 x (fun z => hx (h2 x z))
    exact ⟨⟨y1.trans x1, y2.trans x2, y7.trans x7, y8.trans x8⟩, y3.trans x3, y4.trans x4, y5.trans x5, y6.trans x6⟩
  · obtain ⟨x1, x2⟩ := a3 i (by omega)
    obtain ⟨y1, y2⟩ := c3 i (by omega)
    exact ⟨y1.trans x1, y2.trans x2⟩
  · obtain ⟨x1, x2⟩ := a4 i (by omega)
    obtain ⟨y1, y2⟩ := c4 i (by omega)
    exact ⟨y1.trans x1, y2.trans x2⟩
/-- where an order at place q of the plan lets its node jump to -/
def jQ3 (σ σ' : sg_S) (o x q : Int) : Prop := (∀ y, sg_g σ' 32 y = if (o = 8 ∨ o = 10) ∧ y = x then q else sg_g σ 32 y) ∧ ∀ y, sg_g σ' 33 y = if (o = 9 ∨ o = 12) ∧ y = x then q else sg_g σ 33 y
theorem jQ_n {σ σ' : sg_S} {o x q : Int} (h : jQ3 σ σ' o x q) (y : Int) (hy : ¬ y = x) : sg_g σ' 32 y = sg_g σ 32 y ∧ sg_g σ' 33 y = sg_g σ 33 y := ⟨by rw [h.1, if_neg (fun z => hy z.2)], by rw [h.2, if_neg (fun z => hy z.2)]⟩
section CK2T
variable {σ : sg_S} {Q : sg_S → Prop}
theorem d3_add {o x p : Int} (hp : sg_g σ 28 6 = p) (h0 : 0 ≤ p ∧ p < 1013) (ho : sg_R o) (hx : sg_R x) (hx2 : (o = 8 ∨ o = 9 ∨ o = 10 ∨ o = 12) → 0 ≤ x ∧ x < 200) (k : ∀ σ', sg_F [29, 30, 32, 33, 7028] σ σ' → sg_g σ' 28 6 = p + 1 → sg_g σ' 29 p = o → sg_g σ' 30 p = x → (∀ i, ¬ i = p → sg_g σ' 29 i = sg_g σ 29 i ∧ sg_g σ' 30 i = sg_g σ 30 i) → jQ3 σ σ' o x (p + 1) → Q σ') : V_kpAdd σ o x Q := by
  unfold V_kpAdd
  intro σ1 e1 σ4 e4 σ7 e7
  rw [hp, xp_in h0] at e1
  rw [hp, xp_in h0] at e4
  have rp : sg_R (p + 1) := ⟨by omega, by omega⟩
  have sn : sg_n (p + 1) = p + 1 := sg_id rp
  rw [hp, sn] at e7 ⊢
  have f7 : sg_F [29, 30, 7028] σ σ7 := by rw [e7, e4, e1]; exact sg_F_w (sg_F_w (sg_F_w (sg_F_r _ _) rfl _) rfl _) rfl _
  have g6 : sg_g σ7 28 6 = p + 1 := by rw [e7, sg_gw_e _ _ _ _ ⟨by omega, by omega⟩]
  have g29 : sg_g σ7 29 p = o := by rw [e7, sg_gw_c _ _ _ _ _ _ (by decide), e4, sg_gw_c _ _ _ _ _ _ (by decide), e1, sg_gw_e _ _ _ _ ho]
  have g30 : sg_g σ7 30 p = x := by rw [e7, sg_gw_c _ _ _ _ _ _ (by decide), e4, sg_gw_e _ _ _ _ hx]
  have gi : ∀ i, ¬ i = p → sg_g σ7 29 i = sg_g σ 29 i ∧ sg_g σ7 30 i = sg_g σ 30 i := fun i hi => by
    constructor
    · rw [e7, sg_gw_c _ _ _ _ _ _ (by decide), e4, sg_gw_c _ _ _ _ _ _ (by decide), e1, sg_gw_k _ _ _ _ _ _ hi]
    · rw [e7, sg_gw_c _ _ _ _ _ _ (by decide), e4, sg_gw_k _ _ _ _ _ _ hi, e1, sg_gw_c _ _ _ _ _ _ (by decide)]
  have fin : ∀ σ', sg_F [32, 33] σ7 σ' → jQ3 σ7 σ' o x (p + 1) → Q σ' := fun σ' f hj => k σ' (sg_F_t (sg_F_m f7 rfl) (sg_F_m f rfl)) (by rw [sg_F_g f (by rfl)]; exact g6) (by rw [sg_F_ga f rfl]; exact g29) (by rw [sg_F_ga f rfl]; exact g30) (fun i hi => by rw [sg_F_ga f rfl, sg_F_ga f rfl]; exact gi i hi) ⟨fun y => by rw [hj.1, sg_F_ga f7 rfl], fun y => by rw [hj.2, sg_F_ga f7 rfl]⟩
  have w32 : (o = 8 ∨ o = 10) → ∀ σ', σ' = sx_put σ7 32 200 x (p + 1) → Q σ' := fun c σ' e => by
    have x2 := hx2 (by omega)
    rw [xp_in x2] at e
    refine fin σ' (by rw [e]; exact sg_F_w (sg_F_r _ _) rfl _) ⟨fun y => ?_, fun y => ?_⟩
    · by_cases cy : y = x
      · rw [if_pos ⟨c, cy⟩, cy, e, sg_gw_e _ _ _ _ rp]
      · rw [if_neg (fun z => cy z.2), e, sg_gw_k _ _ _ _ _ _ cy]
    · rw [if_neg (fun z => by omega), e, sg_gw_c _ _ _ _ _ _ (by decide)]
  have w33 : (o = 9 ∨ o = 12) → ∀ σ', σ' = sx_put σ7 33 200 x (p + 1) → Q σ' := fun c σ' e => by
    have x2 := hx2 (by omega)
    rw [xp_in x2] at e
    refine fin σ' (by rw [e]; exact sg_F_w (sg_F_r _ _) rfl _) ⟨fun y => ?_, fun y => ?_⟩
    · rw [if_neg (fun z => by omega), e, sg_gw_c _ _ _ _ _ _ (by decide)]
    · by_cases cy : y = x
      · rw [if_pos ⟨c, cy⟩, cy, e, sg_gw_e _ _ _ _ rp]
      · rw [if_neg (fun z => cy z.2), e, sg_gw_k _ _ _ _ _ _ cy]
  exact ⟨fun c σ11 e11 => w32 (Or.inl c) σ11 e11, fun c8 => ⟨fun c10 => ⟨fun c σ16 e16 => w33 (Or.inl c) σ16 e16, fun c9 => ⟨fun c12 => fin σ7 (sg_F_r _ _) ⟨fun y => by rw [if_neg (fun z => by omega)], fun y => by rw [if_neg (fun z => by omega)]⟩, fun c σ20 e20 => w33 (Or.inr c) σ20 e20⟩⟩, fun c σ23 e23 => w32 (Or.inr c) σ23 e23⟩⟩
theorem d3_bind {Q : Int → sg_S → Prop} {es : kE} {w ty e b : Int} (hE : kmE σ e es) (he : sg_g σ 38 9 = e) (hb : sg_g σ 38 10 = b) (h0 : (0 ≤ e ∧ e < 272) ∧ 0 ≤ b ∧ b < 272) (hw : wv w) (hr : sg_RL (uv w)) (ht : sg_R ty) (k : ∀ σ', sg_F [34, 39, 40, 10038, 11038] σ σ' → sg_g σ' 38 9 = e + 1 → sg_g σ' 38 10 = b + 1 → kmE σ' (e + 1) ((w, b) :: es) → (∀ i, ¬ i = e → sg_g σ' 40 i = sg_g σ 40 i ∧ sg_gl σ' 39 i = sg_gl σ 39 i) → sg_g σ' 34 b = ty → (∀ i, ¬ i = b → sg_g σ' 34 i = sg_g σ 34 i) → Q b σ') : V_kBind σ (uv w) ty Q := by
  unfold V_kBind
  rw [hb, he]
  refine ⟨⟨by omega, by omega⟩, fun σ2 e2 σ5 e5 σ8 e8 => ⟨⟨by omega, by omega⟩, fun σ12 e12 σ15 e15 => ?_⟩⟩
  rw [xpl_in h0.1] at e5
  rw [xp_in h0.1] at e8
  rw [xp_in h0.2] at e15
  have o40 : ∀ i, ¬ i = e → sg_g σ15 40 i = sg_g σ 40 i ∧ sg_gl σ15 39 i = sg_gl σ 39 i := fun i hi => by
    constructor
    · rw [e15, sg_gw_c _ _ _ _ _ _ (by decide), e12, sg_gw_c _ _ _ _ _ _ (by decide), e8, sg_gw_k _ _ _ _ _ _ hi, e5, sg_gwl', e2, sg_gw_c _ _ _ _ _ _ (by decide)]
    · rw [e15, sg_gw', e12, sg_gw', e8, sg_gw', e5, sg_gwl_k _ _ _ _ _ _ hi, e2, sg_gw']
  refine k σ15 ?_ ?_ ?_ ?_ o40 ?_ (fun i hi => ?_)
  · rw [e15, e12, e8, e5, e2]
    exact sg_F_w (sg_F_w (sg_F_w (sg_F_wl (sg_F_w (sg_F_r _ _) rfl _) rfl _) rfl _) rfl _) rfl _
  · rw [e15, sg_gw_c _ _ _ _ _ _ (by decide), e12, sg_gw_e _ _ _ _ ⟨by omega, by omega⟩]
  · rw [e15, sg_gw_c _ _ _ _ _ _ (by decide), e12, sg_gw_k _ _ _ _ _ _ (by decide), e8, sg_gw_c _ _ _ _ _ _ (by decide), e5, sg_gwl', e2, sg_gw_e _ _ _ _ ⟨by omega, by omega⟩]
  · refine ⟨by omega, ?_, ?_, hw, ?_⟩
    · rw [show e + 1 - 1 = e by omega, e15, sg_gw', e12, sg_gw', e8, sg_gw', e5, sg_gwl_e _ _ _ _ hr]
    · rw [show e + 1 - 1 = e by omega, e15, sg_gw_c _ _ _ _ _ _ (by decide), e12, sg_gw_c _ _ _ _ _ _ (by decide), e8, sg_gw_e _ _ _ _ ⟨by omega, by omega⟩]
    · rw [show e + 1 - 1 = e by omega]
      exact kmE_e hE (fun j _ hj => o40 j (by omega))
  · rw [e15, sg_gw_e _ _ _ _ ht]
  · rw [e15, sg_gw_k _ _ _ _ _ _ hi, e12, sg_gw_c _ _ _ _ _ _ (by decide), e8, sg_gw_c _ _ _ _ _ _ (by decide), e5, sg_gwl', e2, sg_gw_c _ _ _ _ _ _ (by decide)]
theorem d3_find {Q : Int → sg_S → Prop} {es : kE} {w e : Int} (hE : kmE σ e es) (he : sg_g σ 38 9 = e) (h0 : 0 ≤ e ∧ e ≤ 272) (hw : wv w) (k1 : kFind es w = none → Q (-1) σ) (k2 : ∀ s, kFind es w = some s → Q s σ) : V_kFind σ (uv w) Q := by
  have hn := kmE_n hE
  unfold V_kFind
  rw [he]
  intro v1 e1 r1
  rw [if_neg (by omega)] at e1
  rw [e1]
  refine ⟨⟨by omega, by omega⟩, fun n v => n = (v + 1).toNat ∧ -1 ≤ v ∧ v < e ∧ ∃ r, kmE σ (v + 1) r ∧ kFind r w = kFind es w, kFind es w = none, ⟨_, rfl, by omega, by omega, es, by rw [show e - 1 + 1 = e by omega]; exact hE, rfl⟩, ?_, k1⟩
  rintro n v rv ⟨en, h1, h2, r, hp, hf⟩
  have hrn := kmE_n hp
  refine ⟨fun hv => ?_, fun hv => ?_⟩
  · cases r with
    | nil => rw [← hf]; rfl
    | cons x r => simp only [List.length_cons] at hrn; omega
  · rw [xl_in ⟨hv, by omega⟩]
    cases r with
    | nil => simp at hrn; omega
    | cons x r =>
      obtain ⟨p1, p2, p3, p5, p6⟩ := hp
      rw [show v + 1 - 1 = v by omega] at p2 p3 p6
      rw [p2]
      refine ⟨fun hne => ⟨⟨by omega, by omega⟩, _, ?_, rfl, by omega, by omega, r, by rw [show v + -1 + 1 = v by omega]; exact p6, ?_⟩, fun hq => ?_⟩
      · omega
      · rw [← hf, kFind, if_neg (fun z => hne (by rw [z]))]
      · have hx := uv_inj p5 hw hq
        rw [xa_in ⟨hv, by omega⟩]
        refine k2 _ ?_
        rw [← hf, kFind, if_pos hx, p3]
/-- the place of a DEF among those that may be called -/
theorem dsC_x {w : Int} : ∀ {n : Int} {l : kD} {q : Int}, dsC σ n l → wv w → 0 ≤ q → q < n → sg_gl σ 20 q = uv w → kDx l w = some q
  | n, [], q, h, hw, a, b, e => by simp only [dsC] at h; omega
  | n, x :: r, q, h, hw, a, b, e => by
    obtain ⟨b1, b2, b3, b4, b5, b6⟩ := id h
    have hn := dsC_n b6
    unfold kDx
    by_cases c : q = n - 1
    · subst c
      have := uv_inj b3 hw (b2.symm.trans e)
      rw [if_pos this]
      rw [hn]
    · have ih := dsC_x b6 hw a (by omega) e
      by_cases cw : x.1 = w
      · obtain ⟨y, y1, y2, y3, y4⟩ := dsC_at b6 q a (by omega)
        have := uv_inj y2 hw (y1.symm.trans e)
        rw [cw, ← this, y4] at b5
        cases b5
      · rw [if_neg cw]; exact ih
theorem d3_dfind {Q : Int → sg_S → Prop} {ds : kD} {w n : Int} (h : dsC σ n ds) (hl : ds.length ≤ 12) (hw : wv w) (k1 : kDef ds w = none → Q (-1) σ) (k2 : ∀ q x, kDef ds w = some x → kDx ds w = some q → 0 ≤ q → q < n → q < 12 → dcQ σ q x → Q q σ) : V_kdFind σ (uv w) n Q := by
  have hn := dsC_n h
  unfold V_kdFind
  refine ⟨fun m v => m = (n - v).toNat ∧ 0 ≤ v ∧ v ≤ n ∧ ∀ j, 0 ≤ j → j < v → ¬ sg_gl σ 20 j = uv w, kDef ds w = none, ⟨_, rfl, Int.le_refl _, by omega, fun j a b => by omega⟩, ?_, k1⟩
  rintro m v rv ⟨em, v0, v1, hj⟩
  have no : n ≤ v → kDef ds w = none := fun c => by
    cases hk : kDef ds w with
    | none => rfl
    | some y =>
      obtain ⟨q, a, b, cc⟩ := dsC_ex h hk
      exact absurd cc (hj q a (by omega))
  refine ⟨no, fun c => ⟨fun c2 => by omega, fun c2 => ?_⟩⟩
  rw [xl_in ⟨v0, c2⟩]
  refine ⟨fun hne => ⟨⟨by omega, by omega⟩, _, ?_, rfl, by omega, by omega, fun j a b => ?_⟩, fun he => ?_⟩
  · omega
  · by_cases e : j = v
    · subst e; exact hne
    · exact hj j a (by omega)
  · obtain ⟨x, x1, x2, x3, x4⟩ := dsC_at h v v0 c
    have := uv_inj x2 hw (x1.symm.trans he)
    rw [this] at x4
    exact k2 v x.2 x4 (dsC_x h hw v0 c he) v0 c c2 x3
end CK2T
