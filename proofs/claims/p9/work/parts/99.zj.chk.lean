/-! THE CLASS'S CHECKER: its rows and what they stand for. -/
theorem xa_in {σ : sg_S} {a : Nat} {n k : Int} (h : 0 ≤ k ∧ k < n) : sx_at σ a n k = sg_g σ a k := by unfold sx_at; rw [if_pos h]
theorem xl_in {σ : sg_S} {a : Nat} {n k : Int} (h : 0 ≤ k ∧ k < n) : sx_atl σ a n k = sg_gl σ a k := by unfold sx_atl; rw [if_pos h]
theorem xp_in {σ : sg_S} {a : Nat} {n k v : Int} (h : 0 ≤ k ∧ k < n) : sx_put σ a n k v = sg_w σ a k v := by unfold sx_put; rw [if_pos h]
theorem xpl_in {σ : sg_S} {a : Nat} {n k v : Int} (h : 0 ≤ k ∧ k < n) : sx_putl σ a n k v = sg_wl σ a k v := by unfold sx_putl; rw [if_pos h]
/-- the tree that was read -/
def ckW (σ : sg_S) (A : aT) : Prop := (0 ≤ A.1 ∧ A.1 ≤ 200) ∧ wA A ∧ ∀ k, 0 ≤ k → k < A.1 → cN σ A k ∧ ∀ x ∈ A.2.2.2.2.1 k, 0 ≤ x ∧ x < A.1
def okC (L : List Nat) : Bool := sg_ca L 3 && sg_ca L 4 && sg_ca L 7 && sg_ca L 8 && sg_ca L 9 && sg_ca L 10 && sg_ca L 13 && sg_ca L 14 && sg_ca L 15 && sg_ca L 17 && sg_ca L 18
theorem ckW_F {L : List Nat} {σ σ' : sg_S} {A : aT} (h : ckW σ A) (f : sg_F L σ σ') (hL : okC L = true) : ckW σ' A := by
  unfold okC at hL
  simp only [Bool.and_eq_true] at hL
  obtain ⟨⟨⟨⟨⟨⟨⟨⟨⟨⟨l1, l2⟩, l3⟩, l4⟩, l5⟩, l6⟩, l7⟩, l8⟩, l9⟩, l10⟩, l11⟩ := hL
  refine ⟨h.1, h.2.1, fun k a b => ?_⟩
  obtain ⟨⟨c1, c2, c3, ⟨c4, c5, c6, c7, c8⟩, c9⟩, d⟩ := h.2.2 k a b
  refine ⟨⟨?_, ?_, fun z => ?_, ⟨?_, ?_, fun z hz => ?_, c7, c8⟩, fun z => ?_⟩, d⟩
  · rw [sg_F_ga f l1]; exact c1
  · rw [sg_F_ga f l2]; exact c2
  · rw [sg_F_gal f l10]; exact c3 z
  · rw [sg_F_ga f l6]; exact c4
  · rw [sg_F_ga f l3, show sg_g σ' 9 = sg_g σ 9 from funext fun _ => sg_F_ga f l5]; exact c5
  · rw [sg_F_ga f l4]; exact c6 z hz
  · obtain ⟨e1, e2, e3⟩ := c9 z
    refine ⟨?_, ?_, fun j x y h1 h2 => ?_⟩
    · rw [sg_F_ga f l7]; exact e1
    · rw [sg_F_ga f l8]; exact e2
    · rw [sg_F_gal f l11, sg_F_ga f l9]; exact e3 j x y h1 h2
/-- names known, the newest first: word, slot below those given out, depth of the slot -/
def ckE (σ : sg_S) : Int → kE → Prop
  | n, [] => n = 0
  | n, x :: r => 0 < n ∧ sg_gl σ 39 (n - 1) = uv x.1 ∧ (0 ≤ sg_g σ 40 (n - 1) ∧ sg_g σ 40 (n - 1) < sg_g σ 38 10) ∧ sg_g σ 34 (sg_g σ 40 (n - 1)) = x.2 ∧ wv x.1 ∧ ckE σ (n - 1) r
theorem ckE_n {σ : sg_S} : ∀ {n : Int} {l : kE}, ckE σ n l → n = l.length
  | n, [], h => by simp only [ckE] at h; simp [h]
  | n, x :: r, h => by have := ckE_n h.2.2.2.2.2; simp only [List.length_cons]; omega
theorem ckE_e {σ σ' : sg_S} (hs : sg_g σ 38 10 ≤ sg_g σ' 38 10) (h2 : ∀ s, 0 ≤ s → s < sg_g σ 38 10 → sg_g σ' 34 s = sg_g σ 34 s) : ∀ {n : Int} {l : kE}, ckE σ n l → (∀ j, 0 ≤ j → j < n → sg_gl σ' 39 j = sg_gl σ 39 j ∧ sg_g σ' 40 j = sg_g σ 40 j) → ckE σ' n l
  | n, [], h, _ => h
  | n, x :: r, h, hj => by
    obtain ⟨a1, a2, a3, a4, a5, a6⟩ := h
    have e := hj (n - 1) (by omega) (by omega)
    refine ⟨a1, by rw [e.1]; exact a2, by rw [e.2]; omega, by rw [e.2, h2 _ a3.1 a3.2]; exact a4, a5, ckE_e hs h2 a6 (fun j x y => hj j x (by omega))⟩
theorem ckE_F {L : List Nat} {σ σ' : sg_S} {n : Int} {e : kE} (h : ckE σ n e) (f : sg_F L σ σ') (hL : (!sg_cv L 38 10 && sg_ca L 34 && sg_ca L 39 && sg_ca L 40) = true) : ckE σ' n e := by
  simp only [Bool.and_eq_true, Bool.not_eq_true'] at hL
  obtain ⟨⟨⟨l1, l2⟩, l3⟩, l4⟩ := hL
  exact ckE_e (by rw [sg_F_g f l1]; exact Int.le_refl _) (fun s _ _ => sg_F_ga f l2) h (fun j _ _ => ⟨sg_F_gal f l3, sg_F_ga f l4⟩)
theorem ckE_d {σ : sg_S} : ∀ (k : Nat) {n : Int} {l : kE}, ckE σ n l → k ≤ l.length → ckE σ (n - k) (l.drop k)
  | 0, n, l, q, _ => by simpa using q
  | k + 1, n, [], q, hk => by simp at hk
  | k + 1, n, x :: r, q, hk => by
    have := ckE_d k q.2.2.2.2.2 (by simpa using hk)
    rw [show n - ((k + 1 : Nat) : Int) = n - 1 - k by omega]
    exact this
theorem ckE_w {σ : sg_S} : ∀ {n : Int} {l : kE}, ckE σ n l → ∀ p ∈ l, wv p.1
  | n, [], _ => by simp
  | n, x :: r, h => by
    intro p hp
    rcases List.mem_cons.mp hp with e | e
    · rw [e]; exact h.2.2.2.2.1
    · exact ckE_w h.2.2.2.2.2 p e
theorem c_find {σ : sg_S} {e : kE} {w : Int} {Q : Int → sg_S → Prop} (h : ckE σ (sg_g σ 38 9) e) (hl : e.length ≤ 272) (hs : sg_g σ 38 10 ≤ 272) (hw : wv w) (k1 : kFind e w = none → Q (-1) σ) (k2 : ∀ s, kFind e w = some (sg_g σ 34 s) → 0 ≤ s → s < 272 → Q s σ) : V_kFind σ (uv w) Q := by
  have hn := ckE_n h
  unfold V_kFind
  intro v1 e1 r1
  rw [if_neg (by omega)] at e1
  rw [e1]
  refine ⟨⟨by omega, by omega⟩, fun n v => n = (v + 1).toNat ∧ -1 ≤ v ∧ v < e.length ∧ ∃ r, ckE σ (v + 1) r ∧ kFind r w = kFind e w, kFind e w = none, ⟨_, rfl, by omega, by omega, e, by rw [show sg_g σ 38 9 - 1 + 1 = sg_g σ 38 9 by omega]; exact h, rfl⟩, ?_, k1⟩
  rintro n v rv ⟨en, h0, h1, r, hp, hf⟩
  have hrn := ckE_n hp
  refine ⟨fun hv => ?_, fun hv => ?_⟩
  · cases r with
    | nil => rw [← hf]; rfl
    | cons x r => simp only [List.length_cons] at hrn; omega
  · rw [xl_in ⟨hv, by omega⟩]
    cases r with
    | nil => simp at hrn; omega
    | cons x r =>
      obtain ⟨p1, p2, p3, p4, p5, p6⟩ := hp
      rw [show v + 1 - 1 = v by omega] at p2 p3 p4 p6
      rw [p2]
      refine ⟨fun hne => ⟨⟨by omega, by omega⟩, _, ?_, rfl, by omega, by omega, r, by rw [show v + -1 + 1 = v by omega]; exact p6, ?_⟩, fun he => ?_⟩
      · omega
      · rw [← hf, kFind, if_neg (fun z => hne (by rw [z]))]
      · have hx := uv_inj p5 hw he
        rw [xa_in ⟨hv, by omega⟩]
        refine k2 _ ?_ p3.1 (by omega)
        rw [← hf, kFind, if_pos hx, p4]
theorem c_bind {σ : sg_S} {e : kE} {w ty : Int} {c : Nat} {Q : Int → sg_S → Prop} (h : ckE σ (sg_g σ 38 9) e) (hc : sg_g σ 38 10 = c) (hc2 : c < 272) (hl : e.length < 272) (hw : wv w) (hr : sg_RL (uv w)) (ht : sg_R ty) (k : ∀ σ', ckE σ' (sg_g σ' 38 9) ((w, ty) :: e) → sg_g σ' 38 10 = (c + 1 : Nat) → (∀ j, ¬ j = sg_g σ 38 9 → sg_gl σ' 39 j = sg_gl σ 39 j) → sg_F [34, 39, 40, 10038, 11038] σ σ' → Q (c : Int) σ') : V_kBind σ (uv w) ty Q := by
  have hn := ckE_n h
  unfold V_kBind
  rw [hc]
  refine ⟨⟨by omega, by omega⟩, fun σ2 e2 σ5 e5 σ8 e8 => ⟨⟨by omega, by omega⟩, fun σ12 e12 σ15 e15 => ?_⟩⟩
  rw [xpl_in ⟨by omega, by omega⟩] at e5
  rw [xp_in ⟨by omega, by omega⟩] at e8
  rw [xp_in ⟨by omega, by omega⟩] at e15
  have s15 : sg_g σ15 38 10 = (c + 1 : Nat) := by
    rw [e15, sg_gw_c _ _ _ _ _ _ (by decide), e12, sg_gw_k _ _ _ _ _ _ (by decide), e8, sg_gw_c _ _ _ _ _ _ (by decide), e5, sg_gwl', e2, sg_gw_e _ _ _ _ ⟨by omega, by omega⟩]; omega
  have n15 : sg_g σ15 38 9 = sg_g σ 38 9 + 1 := by
    rw [e15, sg_gw_c _ _ _ _ _ _ (by decide), e12, sg_gw_e _ _ _ _ ⟨by omega, by omega⟩]
  have g40 : sg_g σ15 40 (sg_g σ 38 9) = c := by
    rw [e15, sg_gw_c _ _ _ _ _ _ (by decide), e12, sg_gw_c _ _ _ _ _ _ (by decide), e8, sg_gw_e _ _ _ _ ⟨by omega, by omega⟩]
  refine k σ15 ?_ s15 (fun j hj => ?_) ?_
  · rw [n15]
    refine ⟨by omega, ?_, ?_, ?_, hw, ?_⟩
    · rw [show sg_g σ 38 9 + 1 - 1 = sg_g σ 38 9 by omega, e15, sg_gw', e12, sg_gw', e8, sg_gw', e5, sg_gwl_e _ _ _ _ hr]
    · rw [show sg_g σ 38 9 + 1 - 1 = sg_g σ 38 9 by omega, g40, s15]; omega
    · rw [show sg_g σ 38 9 + 1 - 1 = sg_g σ 38 9 by omega, g40, e15, sg_gw_e _ _ _ _ ht]
    · rw [show sg_g σ 38 9 + 1 - 1 = sg_g σ 38 9 by omega]
      refine ckE_e (by rw [s15]; omega) (fun s a b => ?_) h (fun j a b => ⟨?_, ?_⟩)
      · rw [e15, sg_gw_k _ _ _ _ _ _ (by omega), e12, sg_gw_c _ _ _ _ _ _ (by decide), e8, sg_gw_c _ _ _ _ _ _ (by decide), e5, sg_gwl', e2, sg_gw_c _ _ _ _ _ _ (by decide)]
      · rw [e15, sg_gw', e12, sg_gw', e8, sg_gw', e5, sg_gwl_k _ _ _ _ _ _ (by omega), e2, sg_gw']
      · rw [e15, sg_gw_c _ _ _ _ _ _ (by decide), e12, sg_gw_c _ _ _ _ _ _ (by decide), e8, sg_gw_k _ _ _ _ _ _ (by omega), e5, sg_gwl', e2, sg_gw_c _ _ _ _ _ _ (by decide)]
  · rw [e15, sg_gw', e12, sg_gw', e8, sg_gw', e5, sg_gwl_k _ _ _ _ _ _ hj, e2, sg_gw']
  · rw [e15, e12, e8, e5, e2]
    exact sg_F_w (sg_F_w (sg_F_w (sg_F_wl (sg_F_w (sg_F_r _ _) rfl _) rfl _) rfl _) rfl _) rfl _
/-- a fault, with a place -/
def cF (σ : sg_S) : Prop := ¬ sg_g σ 38 13 = 0 ∧ 0 ≤ sg_g σ 38 12
/-- no fault so far -/
def cZ (σ : sg_S) : Prop := sg_g σ 38 13 = 0 ∧ sg_g σ 38 12 = -1
theorem cZ_F {L : List Nat} {σ σ' : sg_S} (h : cZ σ) (f : sg_F L σ σ') (hL : (!sg_cv L 38 13 && !sg_cv L 38 12) = true) : cZ σ' := by
  simp only [Bool.and_eq_true, Bool.not_eq_true'] at hL
  exact ⟨by rw [sg_F_g f hL.1]; exact h.1, by rw [sg_F_g f hL.2]; exact h.2⟩
theorem cF_F {L : List Nat} {σ σ' : sg_S} (h : cF σ) (f : sg_F L σ σ') (hL : (!sg_cv L 38 13 && !sg_cv L 38 12) = true) : cF σ' := by
  simp only [Bool.and_eq_true, Bool.not_eq_true'] at hL
  exact ⟨by rw [sg_F_g f hL.1]; exact h.1, by rw [sg_F_g f hL.2]; exact h.2⟩
theorem c_blame {σ : sg_S} {a p : Int} {Q : sg_S → Prop} (h0 : ¬ sg_g σ 38 13 = 0 → 0 ≤ sg_g σ 38 12) (ha : sg_R a ∧ ¬ a = 0) (hp : 0 ≤ p ∧ sg_R p) (k : ∀ σ', cF σ' → sg_F [13038, 14038] σ σ' → Q σ') : V_kBlame σ a p Q := by
  unfold V_kBlame
  refine ⟨fun h => k σ ⟨h, h0 h⟩ (sg_F_r _ _), fun _ σ2 e2 σ5 e5 => k σ5 ⟨?_, ?_⟩ ?_⟩
  · rw [e5, sg_gw_k _ _ _ _ _ _ (by decide), e2, sg_gw_e _ _ _ _ ha.1]; exact ha.2
  · rw [e5, sg_gw_e _ _ _ _ hp.2]; exact hp.1
  · rw [e5, e2]; exact sg_F_w (sg_F_w (sg_F_r _ _) rfl _) rfl _
theorem xF_p {L : List Nat} {σ σ1 : sg_S} (h : sg_F L σ σ1) {a : Nat} (ha : L.contains a = true) (n i x : Int) : sg_F L σ (sx_put σ1 a n i x) := by
  unfold sx_put
  split
  · exact sg_F_w h (by unfold sg_cv; rw [ha]; rfl) _
  · exact h
theorem c_add {σ : sg_S} {a b : Int} {Q : sg_S → Prop} (k : ∀ σ', sg_F [29, 30, 32, 33, 7028] σ σ' → Q σ') : V_kpAdd σ a b Q := by
  unfold V_kpAdd
  intro σ1 e1 σ4 e4 σ7 e7
  have f7 : sg_F [29, 30, 32, 33, 7028] σ σ7 := by
    rw [e7, e4, e1]; exact sg_F_w (xF_p (xF_p (sg_F_r _ _) rfl _ _ _) rfl _ _ _) rfl _
  refine ⟨fun _ σ' e => k σ' ?_, fun _ => ⟨fun _ => ⟨fun _ σ' e => k σ' ?_, fun _ => ⟨fun _ => k σ7 f7, fun _ σ' e => k σ' ?_⟩⟩, fun _ σ' e => k σ' ?_⟩⟩
  all_goals (rw [e]; exact xF_p f7 rfl _ _ _)
/-- DEFS that may be called -/
def dsC (σ : sg_S) : Int → kD → Prop
  | n, [] => n = 0
  | n, x :: r => 0 < n ∧ sg_gl σ 20 (n - 1) = uv x.1 ∧ wv x.1 ∧ (sg_g σ 23 (n - 1) = x.2.1.length ∧ (∀ j : Nat, ∀ y, x.2.1[j]? = some y → sg_g σ 27 (6 * (n - 1) + j) = y) ∧ sg_g σ 22 (n - 1) = x.2.2 ∧ x.2.1.length ≤ 6) ∧ kDef r x.1 = none ∧ dsC σ (n - 1) r
def dcQ (σ : sg_S) (q : Int) (x : List Int × Int) : Prop := sg_g σ 23 q = x.1.length ∧ (∀ j : Nat, ∀ y, x.1[j]? = some y → sg_g σ 27 (6 * q + j) = y) ∧ sg_g σ 22 q = x.2 ∧ x.1.length ≤ 6
theorem dsC_n {σ : sg_S} : ∀ {n : Int} {l : kD}, dsC σ n l → n = l.length
  | n, [], h => by simp only [dsC] at h; simp [h]
  | n, x :: r, h => by have := dsC_n h.2.2.2.2.2; simp only [List.length_cons]; omega
theorem dsC_F {L : List Nat} {σ σ' : sg_S} (f : sg_F L σ σ') (hL : (sg_ca L 20 && sg_ca L 22 && sg_ca L 23 && sg_ca L 27) = true) : ∀ {n : Int} {l : kD}, dsC σ n l → dsC σ' n l
  | n, [], h => h
  | n, x :: r, h => by
    have hL2 := hL
    simp only [Bool.and_eq_true] at hL2
    obtain ⟨⟨⟨l1, l2⟩, l3⟩, l4⟩ := hL2
    obtain ⟨b1, b2, b3, ⟨b4, b5, b6, b7⟩, b8, b9⟩ := h
    exact ⟨b1, by rw [sg_F_gal f l1]; exact b2, b3, ⟨by rw [sg_F_ga f l3]; exact b4, fun j y hy => by rw [sg_F_ga f l4]; exact b5 j y hy, by rw [sg_F_ga f l2]; exact b6, b7⟩, b8, dsC_F f hL b9⟩
theorem dsC_at {σ : sg_S} : ∀ {n : Int} {l : kD}, dsC σ n l → ∀ q, 0 ≤ q → q < n → ∃ x : Int × List Int × Int, sg_gl σ 20 q = uv x.1 ∧ wv x.1 ∧ dcQ σ q x.2 ∧ kDef l x.1 = some x.2
  | n, [], h, q, a, b => by simp only [dsC] at h; omega
  | n, x :: r, h, q, a, b => by
    obtain ⟨b1, b2, b3, b4, b5, b6⟩ := h
    by_cases e : q = n - 1
    · subst e
      exact ⟨x, b2, b3, b4, by unfold kDef; rw [if_pos rfl]⟩
    · obtain ⟨y, y1, y2, y3, y4⟩ := dsC_at b6 q a (by omega)
      refine ⟨y, y1, y2, y3, ?_⟩
      unfold kDef
      rw [if_neg (fun z => by rw [← z, b5] at y4; cases y4)]
      exact y4
theorem dsC_ex {σ : sg_S} {w : Int} : ∀ {n : Int} {l : kD} {y : List Int × Int}, dsC σ n l → kDef l w = some y → ∃ q, 0 ≤ q ∧ q < n ∧ sg_gl σ 20 q = uv w
  | n, [], y, h, hk => by cases hk
  | n, x :: r, y, h, hk => by
    obtain ⟨b1, b2, b3, b4, b5, b6⟩ := h
    unfold kDef at hk
    split at hk
    · rename_i e
      exact ⟨n - 1, by omega, by omega, by rw [b2, e]⟩
    · obtain ⟨q, a, b, c⟩ := dsC_ex b6 hk
      exact ⟨q, a, by omega, c⟩
theorem c_dfind {σ : sg_S} {ds : kD} {w n : Int} {Q : Int → sg_S → Prop} (h : dsC σ n ds) (hl : ds.length ≤ 12) (hw : wv w) (k1 : kDef ds w = none → Q (-1) σ) (k2 : ∀ q x, kDef ds w = some x → 0 ≤ q → q < 12 → dcQ σ q x → Q q σ) : V_kdFind σ (uv w) n Q := by
  have hn := dsC_n h
  unfold V_kdFind
  refine ⟨fun m v => m = (n - v).toNat ∧ 0 ≤ v ∧ v ≤ n ∧ ∀ j, 0 ≤ j → j < v → ¬ sg_gl σ 20 j = uv w, kDef ds w = none, ⟨_, rfl, Int.le_refl _, by omega, fun j a b => by omega⟩, ?_, k1⟩
  rintro m v rv ⟨em, v0, v1, hj⟩
  have no : n ≤ v → kDef ds w = none := fun c => by
    cases hk : kDef ds w with
    | none => rfl
    | some y =>
      obtain ⟨q, a, b, cc⟩ := dsC_ex h hk
      exact absurd cc (hj q a (by omega))
  refine ⟨no, fun c => ⟨fun c2 => by omega, fun c2 => ?_⟩⟩
  rw [xl_in ⟨v0, c2⟩]
  refine ⟨fun hne => ⟨⟨by omega, by omega⟩, _, ?_, rfl, by omega, by omega, fun j a b => ?_⟩, fun he => ?_⟩
  · omega
  · by_cases e : j = v
    · subst e; exact hne
    · exact hj j a (by omega)
  · obtain ⟨x, x1, x2, x3, x4⟩ := dsC_at h v v0 c
    have := uv_inj x2 hw (x1.symm.trans he)
    rw [this] at x4
    exact k2 v x.2 x4 v0 c2 x3
