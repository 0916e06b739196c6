/-! THE CHECKER once more: slots and orders. -/
theorem gE_l {α : Type} {W : List α} {i : Nat} {x : α} (h : W[i]? = some x) : i < W.length := by
  rcases Nat.lt_or_ge i W.length with q | q
  · exact q
  · rw [List.getElem?_eq_none q] at h; cases h
def kS (σ : sg_S) (es : List Int) (e b p : Int) : Prop := sg_g σ 38 13 = 0 ∧ (sg_g σ 38 9 = e ∧ sg_g σ 38 10 = b ∧ sg_g σ 28 6 = p) ∧ (∀ i, 0 ≤ i → i < e → sg_g σ 40 i ∈ es) ∧ (0 ≤ e ∧ 0 ≤ b ∧ 0 ≤ p)
/-- orders laid out from p on -/
def pC (σ : sg_S) (p : Int) (C : List (Int × Int)) : Prop := ∀ (i : Nat) (z : Int × Int), C[i]? = some z → sg_g σ 29 (p + i) = z.1 ∧ sg_g σ 30 (p + i) = z.2
theorem pC_0 (σ : sg_S) (p : Int) : pC σ p [] := fun i z h => by simp at h
theorem pC_1 {σ : sg_S} {p : Int} {o x : Int} (h1 : sg_g σ 29 p = o) (h2 : sg_g σ 30 p = x) : pC σ p [(o, x)] := fun i z h => by
  cases i with
  | zero => simp at h; subst h; simp only [Int.ofNat_zero, Int.cast_ofNat_Int, Int.add_zero]; exact ⟨h1, h2⟩
  | succ i => simp at h
theorem pC_a {σ : sg_S} {p : Int} {C C' : List (Int × Int)} (h1 : pC σ p C) (h2 : pC σ (p + C.length) C') : pC σ p (C ++ C') := fun i z h => by
  rcases Nat.lt_or_ge i C.length with q | q
  · rw [List.getElem?_append_left q] at h; exact h1 i z h
  · rw [List.getElem?_append_right q] at h
    have := h2 (i - C.length) z h
    rw [show p + (C.length : Int) + ((i - C.length : Nat) : Int) = p + i by omega] at this
    exact this
theorem pC_e {σ σ' : sg_S} {p q : Int} {C : List (Int × Int)} (h : pC σ p C) (hq : p + C.length ≤ q) (he : ∀ i, i < q → sg_g σ' 29 i = sg_g σ 29 i ∧ sg_g σ' 30 i = sg_g σ 30 i) : pC σ' p C := fun i z hz => by
  have := gE_l hz
  obtain ⟨a, b⟩ := he (p + i) (by omega)
  rw [a, b]; exact h i z hz
/-- what stays -/
def kU (σ σ' : sg_S) (e b p : Int) (L : List Int) : Prop := (∀ x, x ∉ L → (sg_g σ' 6 x = sg_g σ 6 x ∧ sg_g σ' 16 x = sg_g σ 16 x) ∧ sg_g σ' 41 x = sg_g σ 41 x ∧ sg_g σ' 42 x = sg_g σ 42 x ∧ sg_g σ' 43 x = sg_g σ 43 x ∧ sg_g σ' 44 x = sg_g σ 44 x) ∧ (∀ s, s < b → sg_g σ' 34 s = sg_g σ 34 s) ∧ (∀ i, i < e → sg_g σ' 40 i = sg_g σ 40 i) ∧ ∀ i, i < p → sg_g σ' 29 i = sg_g σ 29 i ∧ sg_g σ' 30 i = sg_g σ 30 i
theorem kU_r (σ : sg_S) (e b p : Int) (L : List Int) : kU σ σ e b p L := ⟨fun _ _ => ⟨⟨rfl, rfl⟩, rfl, rfl, rfl, rfl⟩, fun _ _ => rfl, fun _ _ => rfl, fun _ _ => ⟨rfl, rfl⟩⟩
theorem kU_t {σ σ1 σ2 : sg_S} {e b p e1 b1 p1 e2 b2 p2 : Int} {L L1 L2 : List Int} (h : kU σ σ1 e1 b1 p1 L1) (g : kU σ1 σ2 e2 b2 p2 L2) (he : e ≤ e1 ∧ e ≤ e2) (hb : b ≤ b1 ∧ b ≤ b2) (hp : p ≤ p1 ∧ p ≤ p2) (h1 : ∀ x ∈ L1, x ∈ L) (h2 : ∀ x ∈ L2, x ∈ L) : kU σ σ2 e b p L := by
  obtain ⟨a1, a2, a3, a4⟩ := h
  obtain ⟨c1, c2, c3, c4⟩ := g
  refine ⟨fun x hx => ?_, fun s hs => by rw [c2 s (by omega), a2 s (by omega)], fun i hi => by rw [c3 i (by omega), a3 i (by omega)], fun i hi => ?_⟩
  · obtain ⟨⟨x1, x2⟩, x3, x4, x5, x6⟩ := a1 x (fun z => hx (h1 x z))
    obtain ⟨⟨y1, y2⟩, y3, y4, y5, y6⟩ := c1 x (fun z => hx (h2 x z))
    exact ⟨⟨y1.trans x1, y2.trans x2⟩, y3.trans x3, y4.trans x4, y5.trans x5, y6.trans x6⟩
  · obtain ⟨x1, x2⟩ := a4 i (by omega)
    obtain ⟨y1, y2⟩ := c4 i (by omega)
    exact ⟨y1.trans x1, y2.trans x2⟩
section CK2
variable {σ : sg_S} {Q : sg_S → Prop}
theorem d_add {o x p : Int} (hp : sg_g σ 28 6 = p) (h0 : 0 ≤ p ∧ p < 1013) (ho : sg_R o) (hx : sg_R x) (k : ∀ σ', sg_F [29, 30, 32, 33, 7028] σ σ' → sg_g σ' 28 6 = p + 1 → sg_g σ' 29 p = o → sg_g σ' 30 p = x → (∀ i, ¬ i = p → sg_g σ' 29 i = sg_g σ 29 i ∧ sg_g σ' 30 i = sg_g σ 30 i) → Q σ') : V_kpAdd σ o x Q := by
  unfold V_kpAdd
  intro σ1 e1 σ4 e4 σ7 e7
  rw [hp, xp_in h0] at e1
  rw [hp, xp_in h0] at e4
  have sn : sg_n (p + 1) = p + 1 := sg_id ⟨by omega, by omega⟩
  rw [hp, sn] at e7 ⊢
  have f7 : sg_F [29, 30, 7028] σ σ7 := by rw [e7, e4, e1]; exact sg_F_w (sg_F_w (sg_F_w (sg_F_r _ _) rfl _) rfl _) rfl _
  have g6 : sg_g σ7 28 6 = p + 1 := by rw [e7, sg_gw_e _ _ _ _ ⟨by omega, by omega⟩]
  have g29 : sg_g σ7 29 p = o := by rw [e7, sg_gw_c _ _ _ _ _ _ (by decide), e4, sg_gw_c _ _ _ _ _ _ (by decide), e1, sg_gw_e _ _ _ _ ho]
  have g30 : sg_g σ7 30 p = x := by rw [e7, sg_gw_c _ _ _ _ _ _ (by decide), e4, sg_gw_e _ _ _ _ hx]
  have gi : ∀ i, ¬ i = p → sg_g σ7 29 i = sg_g σ 29 i ∧ sg_g σ7 30 i = sg_g σ 30 i := fun i hi => by
    constructor
    · rw [e7, sg_gw_c _ _ _ _ _ _ (by decide), e4, sg_gw_c _ _ _ _ _ _ (by decide), e1, sg_gw_k _ _ _ _ _ _ hi]
    · rw [e7, sg_gw_c _ _ _ _ _ _ (by decide), e4, sg_gw_k _ _ _ _ _ _ hi, e1, sg_gw_c _ _ _ _ _ _ (by decide)]
  have fin : ∀ σ', sg_F [32, 33] σ7 σ' → Q σ' := fun σ' f => k σ' (sg_F_t (sg_F_m f7 rfl) (sg_F_m f rfl)) (by rw [sg_F_g f (by rfl)]; exact g6) (by rw [sg_F_ga f rfl]; exact g29) (by rw [sg_F_ga f rfl]; exact g30) (fun i hi => by rw [sg_F_ga f rfl, sg_F_ga f rfl]; exact gi i hi)
  have f0 := fin σ7 (sg_F_r _ _)
  exact ⟨fun _ σ11 e11 => fin σ11 (by rw [e11]; exact xF_p (sg_F_r _ _) rfl _ _ _), fun _ => ⟨fun _ => ⟨fun _ σ16 e16 => fin σ16 (by rw [e16]; exact xF_p (sg_F_r _ _) rfl _ _ _), fun _ => ⟨fun _ => f0, fun _ σ20 e20 => fin σ20 (by rw [e20]; exact xF_p (sg_F_r _ _) rfl _ _ _)⟩⟩, fun _ σ23 e23 => fin σ23 (by rw [e23]; exact xF_p (sg_F_r _ _) rfl _ _ _)⟩⟩
theorem d_blame {a p : Int} (ha : sg_R a ∧ ¬ a = 0) (k : ∀ σ', ¬ sg_g σ' 38 13 = 0 → sg_F [13038, 14038] σ σ' → Q σ') : V_kBlame σ a p Q := by
  unfold V_kBlame
  refine ⟨fun z => k σ z (sg_F_r _ _), fun z σ2 e2 σ5 e5 => k σ5 ?_ (by rw [e5, e2]; exact sg_F_w (sg_F_w (sg_F_r _ _) rfl _) rfl _)⟩
  rw [e5, sg_gw_k _ _ _ _ _ _ (by decide), e2, sg_gw_e _ _ _ _ ha.1]
  exact ha.2
theorem d_bind {Q : Int → sg_S → Prop} {w ty e b : Int} (he : sg_g σ 38 9 = e) (hb : sg_g σ 38 10 = b) (h0 : (0 ≤ e ∧ e < 272) ∧ 0 ≤ b ∧ b < 272) (ht : sg_R ty) (k : ∀ σ', sg_F [34, 39, 40, 10038, 11038] σ σ' → sg_g σ' 38 9 = e + 1 → sg_g σ' 38 10 = b + 1 → sg_g σ' 40 e = b → (∀ i, ¬ i = e → sg_g σ' 40 i = sg_g σ 40 i) → sg_g σ' 34 b = ty → (∀ i, ¬ i = b → sg_g σ' 34 i = sg_g σ 34 i) → Q b σ') : V_kBind σ w ty Q := by
  unfold V_kBind
  rw [hb, he]
  refine ⟨⟨by omega, by omega⟩, fun σ2 e2 σ5 e5 σ8 e8 => ⟨⟨by omega, by omega⟩, fun σ12 e12 σ15 e15 => ?_⟩⟩
  rw [xpl_in h0.1] at e5
  rw [xp_in h0.1] at e8
  rw [xp_in h0.2] at e15
  refine k σ15 ?_ ?_ ?_ ?_ (fun i hi => ?_) ?_ (fun i hi => ?_)
  · rw [e15, e12, e8, e5, e2]
    exact sg_F_w (sg_F_w (sg_F_w (sg_F_wl (sg_F_w (sg_F_r _ _) rfl _) rfl _) rfl _) rfl _) rfl _
  · rw [e15, sg_gw_c _ _ _ _ _ _ (by decide), e12, sg_gw_e _ _ _ _ ⟨by omega, by omega⟩]
  · rw [e15, sg_gw_c _ _ _ _ _ _ (by decide), e12, sg_gw_k _ _ _ _ _ _ (by decide), e8, sg_gw_c _ _ _ _ _ _ (by decide), e5, sg_gwl', e2, sg_gw_e _ _ _ _ ⟨by omega, by omega⟩]
  · rw [e15, sg_gw_c _ _ _ _ _ _ (by decide), e12, sg_gw_c _ _ _ _ _ _ (by decide), e8, sg_gw_e _ _ _ _ ⟨by omega, by omega⟩]
  · rw [e15, sg_gw_c _ _ _ _ _ _ (by decide), e12, sg_gw_c _ _ _ _ _ _ (by decide), e8, sg_gw_k _ _ _ _ _ _ hi, e5, sg_gwl', e2, sg_gw_c _ _ _ _ _ _ (by decide)]
  · rw [e15, sg_gw_e _ _ _ _ ht]
  · rw [e15, sg_gw_k _ _ _ _ _ _ hi, e12, sg_gw_c _ _ _ _ _ _ (by decide), e8, sg_gw_c _ _ _ _ _ _ (by decide), e5, sg_gwl', e2, sg_gw_c _ _ _ _ _ _ (by decide)]
theorem d_find {Q : Int → sg_S → Prop} {w e : Int} (he : sg_g σ 38 9 = e) (h0 : 0 ≤ e ∧ e ≤ 272) (k1 : Q (-1) σ) (k2 : ∀ i, 0 ≤ i → i < e → Q (sg_g σ 40 i) σ) : V_kFind σ w Q := by
  unfold V_kFind
  rw [he]
  intro v1 e1 r1
  rw [if_neg (by omega)] at e1
  rw [e1]
  refine ⟨⟨by omega, by omega⟩, fun n v => n = (v + 1).toNat ∧ -1 ≤ v ∧ v < e, True, ⟨_, rfl, by omega, by omega⟩, ?_, fun _ => k1⟩
  rintro n v rv ⟨en, h1, h2⟩
  refine ⟨fun _ => True.intro, fun hv => ⟨fun _ => ⟨⟨by omega, by omega⟩, _, ?_, rfl, by omega, by omega⟩, fun _ => ?_⟩⟩
  · omega
  · rw [xa_in ⟨hv, by omega⟩]; exact k2 v hv h2
theorem d_dfind {Q : Int → sg_S → Prop} {w n : Int} (k1 : Q (-1) σ) (k2 : ∀ q, 0 ≤ q → q < n → q < 12 → Q q σ) : V_kdFind σ w n Q := by
  unfold V_kdFind
  refine ⟨fun m v => m = (12 - v).toNat ∧ 0 ≤ v ∧ v ≤ 12, True, ⟨_, rfl, by omega, by omega⟩, ?_, fun _ => k1⟩
  rintro m v rv ⟨em, h1, h2⟩
  refine ⟨fun _ => True.intro, fun hv => ⟨fun _ => True.intro, fun hv2 => ⟨fun _ => ⟨⟨by omega, by omega⟩, _, ?_, rfl, by omega, by omega⟩, fun _ => k2 v h1 hv hv2⟩⟩⟩
  omega
end CK2
