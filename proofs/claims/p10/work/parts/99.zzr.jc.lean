/-! THE CHECKER once more: slots and orders. -/
theorem gE_l {α : Type} {W : List α} {i : Nat} {x : α} (h : W[i]? = some x) : i < W.length := by
  rcases Nat.lt_or_ge i W.length with q | q
  · exact q
  · rw [List.getElem?_eq_none q] at h; cases h
def kS (σ : sg_S) (es : List Int) (e b p : Int) : Prop := sg_g σ 38 13 = 0 ∧ (sg_g σ 38 9 = e ∧ sg_g σ 38 10 = b ∧ sg_g σ 28 6 = p) ∧ (∀ i, 0 ≤ i → i < e → sg_g σ 40 i ∈ es) ∧ (0 ≤ e ∧ 0 ≤ b ∧ 0 ≤ p)
/-- orders laid out from p on -/
def pC (σ : sg_S) (p : Int) (C : List (Int × Int)) : Prop := ∀ (i : Nat) (z : Int × Int), C[i]? = some z → sg_g σ 29 (p + i) = z.1 ∧ sg_g σ 30 (p + i) = z.2
theorem pC_0 (σ : sg_S) (p : Int) : pC σ p [] := fun i z h => by simp at h
theorem pC_1 {σ : sg_S} {p : Int} {o x : Int} (h1 : sg_g σ 29 p = o) (h2 : sg_g σ 30 p = x) : pC σ p [(o, x)] := fun i z h => by
  cases i with
  | zero => simp at h; subst h; simp only [Int.ofNat_zero, Int.cast_ofNat_Int, Int.add_zero]; exact ⟨h1, h2⟩
  | succ i => simp at h
theorem pC_a {σ : sg_S} {p : Int} {C C' : List (Int × Int)} (h1 : pC σ p C) (h2 : pC σ (p + C.length) C') : pC σ p (C ++ C') := fun i z h => by
  rcases Nat.lt_or_ge i C.length with q | q
  · rw [List.getElem?_append_left q] at h; exact h1 i z h
  · rw [List.getElem?_append_right q] at h
    have := h2 (i - C.length) z h
    rw [show p + (C.length : Int) + ((i - C.length : Nat) : Int) = p + i by omega] at this
    exact this
theorem pC_e {σ σ' : sg_S} {p q : Int} {C : List (Int × Int)} (h : pC σ p C) (hq : p + C.length ≤ q) (he : ∀ i, i < q → sg_g σ' 29 i = sg_g σ 29 i ∧ sg_g σ' 30 i = sg_g σ 30 i) : pC σ' p C := fun i z hz => by
  have := gE_l hz
  obtain ⟨a, b⟩ := he (p + i) (by omega)
  rw [a, b]; exact h i z hz
/-- what stays -/
def kU (σ σ' : sg_S) (e b p : Int) (L : List Int) : Prop := (∀ x, x ∉ L → (sg_g σ' 6 x = sg_g σ 6 x ∧ sg_g σ' 16 x = sg_g σ 16 x) ∧ sg_g σ' 41 x = sg_g σ 41 x ∧ sg_g σ' 42 x = sg_g σ 42 x ∧ sg_g σ' 43 x = sg_g σ 43 x ∧ sg_g σ' 44 x = sg_g σ 44 x) ∧ (∀ s, s < b → sg_g σ' 34 s = sg_g σ 34 s) ∧ (∀ i, i < e → sg_g σ' 40 i = sg_g σ 40 i) ∧ ∀ i, i < p → sg_g σ' 29 i = sg_g σ 29 i ∧ sg_g σ' 30 i = sg_g σ 30 i
theorem kU_r (σ : sg_S) (e b p : Int) (L : List Int) : kU σ σ e b p L := ⟨fun _ _ => ⟨⟨rfl, rfl⟩, rfl, rfl, rfl, rfl⟩, fun _ _ => rfl, fun _ _ => rfl, fun _ _ => ⟨rfl, rfl⟩⟩
theorem kU_t {σ σ1 σ2 : sg_S} {e b p e1 b1 p1 e2 b2 p2 : Int} {L L1 L2 : List Int} (h : kU σ σ1 e1 b1 p1 L1) (g : kU σ1 σ2 e2 b2 p2 L2) (he : e ≤ e1 ∧ e ≤ e2) (hb : b ≤ b1 ∧ b ≤ b2) (hp : p ≤ p1 ∧ p ≤ p2) (h1 : ∀ x ∈ L1, x ∈ L) (h2 : ∀ x ∈ L2, x ∈ L) : kU σ σ2 e b p L := by
  obtain ⟨a1, a2, a3, a4⟩ := h
  obtain ⟨c1, c2, c3, c4⟩ := g
  refine ⟨fun x hx => ?_, fun s hs => by rw [c2 s (by omega), a2 s (by omega)], fun i hi => by rw [c3 i (by omega), a3 i (by omega)], fun i hi => ?_⟩
  · obtain ⟨⟨x1, x2⟩, x3, x4, x5, x6⟩ := a1 x (fun z => hx (h1 x z))
    obtain ⟨⟨y1, y2⟩, y3, y4, y5, y6⟩ := c1 x (fun z => hx (h2 x z))
    exact ⟨⟨y1.trans x1, y2.trans x2⟩, y3.trans x3, y4.trans x4, y5.trans x5, y6.trans x6⟩
  · obtain ⟨x1, x2⟩ := a4 i (by omega)
    obtain ⟨y1, y2⟩ := c4 i (by omega)
    exact ⟨y1.trans x1, y2.trans x2⟩
section CK2
variable {σ : sg_S} {Q : sg_S → Prop}
theorem d_add {o x p : Int} (hp : sg_g σ 28 6 = p) (h0 : 0 ≤ p ∧ p < 1013) (ho : sg_R o) (hx : sg_R x) (k : ∀ σ', sg_F [29, 30, 32, 33, 7028] σ σ' → sg_g σ' 28 6 = p + 1 → sg_g σ' 29 p = o → sg_g σ' 30 p = x → (∀ i, ¬ i = p → sg_g σ' 29 i = sg_g σ 29 i ∧ sg_g σ' 30 i = sg_g σ 30 i) → Q σ') : V_kpAdd σ o x Q := by
  unfold V_kpAdd
  intro σ1 e1 σ4 e4 σ7 e7
  rw [hp, xp_in h0] at e1
  rw [hp, xp_in h0] at e4
  have sn : sg_n (p + 1) = p + 1 := sg_id ⟨by omega, by omega⟩
  rw [hp, sn] at e7 ⊢
  have f7 : sg_F [29, 30, 7028] σ σ7 := by rw [e7, e4, e1]; exact sg_F_w (sg_F_w (sg_F_w (sg_F_r _ _) rfl _) rfl _) rfl _
  have g6 : sg_g σ7 28 6 = p + 1 := by rw [e7, sg_gw_e _ _ _ _ ⟨by omega, by omega⟩]
  have g29 : sg_g σ7 29 p = o := by rw [e7, sg_gw_c _ _ _ _ _ _ (by decide), e4, sg_gw_c _ _ _ _ _ _ (by decide), e1, sg_gw_e _ _ _ _ ho]
  have g30 : sg_g σ7 30 p = x := by rw [e7, sg_gw_c _ _ _ _ _ _ (by decide), e4, sg_gw_e _ _ _ _ hx]
  have gi : ∀ i, ¬ i = p → sg_g σ7 29 i = sg_g σ 29 i ∧ sg_g σ7 30 i = sg_g σ 30 i := fun i hi => by
    constructor
    · rw [e7, sg_gw_c _ _ _ _ _ _ (by decide), e4, sg_gw_c _ _ _ _ _ _ (by decide), e1, sg_gw_k _ _ _ _ _ _ hi]
    · rw [e7, sg_gw_c _ _ _ _ _ _ (by decide), e4, sg_gw_k _ _ _ _ _ _ hi, e1, sg_gw_c _ _ _ _ _ _ (by decide)]
  have fin : ∀ σ', sg_F [32, 33] σ7 σ' → Q σ' := fun σ' f => k σ' (sg_F_t (sg_F_m f7 rfl) (sg_F_m f rfl)) (by rw [sg_F_g f (by rfl)]; exact g6) (by rw [sg_F_ga f rfl]; exact g29) (by rw [sg_F_ga f rfl]; exact g30) (fun i hi => by rw [sg_F_ga f rfl, sg_F_ga f rfl]; exact gi i hi)
  have f0 := fin σ7 (sg_F_r _ _)
  exact ⟨fun _ σ11 e11 => fin σ11 (by rw [e11]; exact xF_p (sg_F_r _ _) rfl _ _ _), fun _ => ⟨fun _ => ⟨fun _ σ16 e16 => fin σ16 (by rw [e16]; exact xF_p (sg_F_r _ _) rfl _ _ _), fun _ => ⟨fun _ => f0, fun _ σ20 e20 => fin σ20 (by rw [e20]; exact xF_p (sg_F_r _ _) rfl _ _ _)⟩⟩, fun _ σ23 e23 => fin σ23 (by rw [e23]; exact xF_p (sg_F_r _ _) rfl _ _ _)⟩⟩
theorem d_blame {a p : Int} (ha : sg_R a ∧ ¬ a = 0) (k : ∀ σ', ¬ sg_g σ' 38 13 = 0 → sg_F [13038, 14038] σ σ' → Q σ') : V_kBlame σ a p Q := by
  unfold V_kBlame
  refine ⟨fun z => k σ z (sg_F_r _ _), fun z σ2 e2 σ5 e5 => k σ5 ?_ (by rw [e5, e2]; exact sg_F_w (sg_F_w (sg_F_r _ _) rfl _) rfl _)⟩
  rw [e5, sg_gw_k _ _ _ _ _ _ (by decide), e2, sg_gw_e _ _ _ _ ha.1]
  exact ha.2
theorem d_bind {Q : Int → sg_S → Prop} {w ty e b : Int} (he : sg_g σ 38 9 = e) (hb : sg_g σ 38 10 = b) (h0 : (0 ≤ e ∧ e < 272) ∧ 0 ≤ b ∧ b < 272) (ht : sg_R ty) (k : ∀ σ', sg_F [34, 39, 40, 10038, 11038] σ σ' → sg_g σ' 38 9 = e + 1 → sg_g σ' 38 10 = b + 1 → sg_g σ' 40 e = b → (∀ i, ¬ i = e → sg_g σ' 40 i = sg_g σ 40 i) → sg_g σ' 34 b = ty → (∀ i, ¬ i = b → sg_g σ' 34 i = sg_g σ 34 i) → Q b σ') : V_kBind σ w ty Q := by
  unfold V_kBind
  rw [hb, he]
  refine ⟨⟨by omega, by omega⟩, fun σ2 e2 σ5 e5 σ8 e8 => ⟨⟨by omega, by omega⟩, fun σ12 e12 σ15 e15 => ?_⟩⟩
  rw [xpl_in h0.1] at e5
  rw [xp_in h0.1] at e8
  rw [xp_in h0.2] at e15
  refine k σ15 ?_ ?_ ?_ ?_ (fun i hi => ?_) ?_ (fun i hi => ?_)
  · rw [e15, e12, e8, e5, e2]
    exact sg_F_w (sg_F_w (sg_F_w (sg_F_wl (sg_F_w (sg_F_r _ _) rfl _) rfl _) rfl _) rfl _) rfl _
  · rw [e15, sg_gw_c _ _ _ _ _ _ (by decide), e12, sg_gw_e _ _ _ _ ⟨by omega, by omega⟩]
  · rw [e15, sg_gw_c _ _ _ _ _ _ (by decide), e12, sg_gw_k _ _ _ _ _ _ (by decide), e8, sg_gw_c _ _ _ _ _ _ (by decide), e5, sg_gwl', e2, sg_gw_e _ _ _ _ ⟨by omega, by omega⟩]
  · rw [e15, sg_gw_c _ _ _ _ _ _ (by decide), e12, sg_gw_c _ _ _ _ _ _ (by decide), e8, sg_gw_e _ _ _ _ ⟨by omega, by omega⟩]
  · rw [e15, sg_gw_c _ _ _ _ _ _ (by decide), e12, sg_gw_c _ _ _ _ _ _ (by decide), e8, sg_gw_k _ _ _ _ _ _ hi, e5, sg_gwl', e2, sg_gw_c _ _ _ _ _ _ (by decide)]
  · rw [e15, sg_gw_e _ _ _ _ ht]
  · rw [e15, sg_gw_k _ _ _ _ _ _ hi, e12, sg_gw_c _ _ _ _ _ _ (by decide), e8, sg_gw_c _ _ _ _ _ _ (by decide), e5, sg_gwl', e2, sg_gw_c _ _ _ _ _ _ (by decide)]
theorem d_find {Q : Int → sg_S → Prop} {w e : Int} (he : sg_g σ 38 9 = e) (h0 : 0 ≤ e ∧ e ≤ 272) (k1 : Q (-1) σ) (k2 : ∀ i, 0 ≤ i → i < e → Q (sg_g σ 40 i) σ) : V_kFind σ w Q := by
  unfold V_kFind
  rw [he]
  intro v1 e1 r1
  rw [if_neg (by omega)] at e1
  rw [e1]
  refine ⟨⟨by omega, by omega⟩, fun n v => n = (v + 1).toNat ∧ -1 ≤ v ∧ v < e, True, ⟨_, rfl, by omega, by omega⟩, ?_, fun _ => k1⟩
  rintro n v rv ⟨en, h1, h2⟩
  refine ⟨fun _ => True.intro, fun hv => ⟨fun _ => ⟨⟨by omega, by omega⟩, _, ?_, rfl, by omega, by omega⟩, fun _ => ?_⟩⟩
  · omega
  · rw [xa_in ⟨hv, by omega⟩]; exact k2 v hv h2
theorem d_dfind {Q : Int → sg_S → Prop} {w n : Int} (k1 : Q (-1) σ) (k2 : ∀ q, 0 ≤ q → q < n → q < 12 → Q q σ) : V_kdFind σ w n Q := by
  unfold V_kdFind
  refine ⟨fun m v => m = (12 - v).toNat ∧ 0 ≤ v ∧ v ≤ 12, True, ⟨_, rfl, by omega, by omega⟩, ?_, fun _ => k1⟩
  rintro m v rv ⟨em, h1, h2⟩
  refine ⟨fun _ => True.intro, fun hv => ⟨fun _ => True.intro, fun hv2 => ⟨fun _ => ⟨⟨by omega, by omega⟩, _, ?_, rfl, by omega, by omega⟩, fun _ => k2 v h1 hv hv2⟩⟩⟩
  omega
end CK2
/-! open, ahead, enter once more. -/
section CK3
variable {σ : sg_S} {A : aT} {n : Int} {Q : sg_S → Prop}
theorem d_open {es : List Int} {e b p : Int} (h : ckW σ A) (hn : 0 ≤ n ∧ n < A.1) (hw : nW A n) (hk : A.2.1 n = 15) (hS : kS σ es e b p) (ht : ∀ x ∈ kGs A n, kIn (sg_g σ 6 x)) (he : e + (A.2.2.2.2.2 n).length ≤ 272) (hb : b + (A.2.2.2.2.2 n).length ≤ 272) (hp : p < 1013) (k1 : ∀ σ', ¬ sg_g σ' 38 13 = 0 → Q σ') (k2 : ∀ σ', kS σ' (gsl b (A.2.2.2.2.2 n).length ++ es) (e + (A.2.2.2.2.2 n).length) (b + (A.2.2.2.2.2 n).length) (p + 1) → sg_F [16, 29, 30, 32, 33, 34, 39, 40, 7028, 10038, 11038, 13038, 14038] σ σ' → kU σ σ' e b p [n] → (sg_g σ' 29 p = 10 ∧ sg_g σ' 30 p = n) → (sg_g σ' 16 n = b ∧ ∀ (i : Nat) (x : Int), (kGs A n)[i]? = some x → sg_g σ' 34 (b + i) = sg_g σ' 6 x - 1) → (∀ x ∈ kGs A n, 0 < sg_g σ' 6 x) → Q σ') : V_kOpen σ n Q := by
  obtain ⟨p0, p1, p2, p3, p4, p5, p6⟩ := ckW_p h hn
  obtain ⟨n1, n2, n3, n4, n5, n6, n7, n8⟩ := id hw
  have hl := n7 hk
  have hkl := kOrd_len A n
  obtain ⟨e1, e2, e3⟩ := (h.2.2 n hn.1 hn.2).1.2.2.2.2 hk
  obtain ⟨s1, ⟨s2, s3, s4⟩, s5, s6, s7, s8⟩ := hS
  have hA := h.1
  generalize hgs : A.2.2.2.2.2 n = gs at *
  generalize hxs : kGs A n = xs at *
  have hxl : xs.length = gs.length := by
    rw [← hxs]; unfold kGs; rw [hgs, List.length_take, List.length_drop]; omega
  have hxo : ∀ j : Nat, j < gs.length → (kOrd A n)[j]? = xs[j]? := fun j hj => by
    rw [← hxs]; unfold kOrd kGs; rw [if_pos hk, hgs, List.getElem?_take, if_pos hj, List.getElem?_append_left (by rw [List.length_drop]; omega)]
  unfold V_kOpen
  intro σ1 es1
  rw [xp_in ⟨hn.1, by omega⟩, s3] at es1
  have f1 : sg_F [16] σ σ1 := by rw [es1]; exact sg_F_w (sg_F_r _ _) rfl _
  have g16 : sg_g σ1 16 n = b := by rw [es1, sg_gw_e _ _ _ _ ⟨by omega, by omega⟩]
  have o16 : ∀ i, ¬ i = n → sg_g σ1 16 i = sg_g σ 16 i := fun i hi => by rw [es1, sg_gw_k _ _ _ _ _ _ hi]
  rw [p1 13 200 rfl, e1, p1 7 200 rfl]
  refine ⟨fun m v4 v5 v6 σ7 => ∃ i : Nat, v6 = i ∧ m = gs.length - i ∧ i ≤ gs.length ∧ (∀ x, (kOrd A n)[i]? = some x → v5 = x) ∧ (¬ v4 = 0 → ∀ (j : Nat) (x : Int), j < i → xs[j]? = some x → 0 < sg_g σ 6 x) ∧ (sg_g σ7 38 9 = e + i ∧ sg_g σ7 38 10 = b + i) ∧ (∀ j, e ≤ j → j < e + i → b ≤ sg_g σ7 40 j ∧ sg_g σ7 40 j < b + i) ∧ (∀ j, j < e → sg_g σ7 40 j = sg_g σ 40 j) ∧ (∀ (j : Nat) (x : Int), j < i → xs[j]? = some x → sg_g σ7 34 (b + j) = sg_g σ 6 x - 1) ∧ ∀ s, s < b → sg_g σ7 34 s = sg_g σ 34 s, fun v4 σ7 => (¬ v4 = 0 → ∀ (j : Nat) (x : Int), j < gs.length → xs[j]? = some x → 0 < sg_g σ 6 x) ∧ (sg_g σ7 38 9 = e + gs.length ∧ sg_g σ7 38 10 = b + gs.length) ∧ (∀ j, e ≤ j → j < e + gs.length → b ≤ sg_g σ7 40 j ∧ sg_g σ7 40 j < b + gs.length) ∧ (∀ j, j < e → sg_g σ7 40 j = sg_g σ 40 j) ∧ (∀ (j : Nat) (x : Int), j < gs.length → xs[j]? = some x → sg_g σ7 34 (b + j) = sg_g σ 6 x - 1) ∧ ∀ s, s < b → sg_g σ7 34 s = sg_g σ 34 s, ⟨_, 0, rfl, rfl, Nat.zero_le _, fun x hx => p3 x hx, fun _ j x hj => by omega, ⟨by rw [sg_F_g f1 (by rfl), s2]; omega, by rw [sg_F_g f1 (by rfl), s3]; omega⟩, fun j a b => by omega, fun j _ => sg_F_ga f1 rfl, fun j x hj => by omega, fun s _ => sg_F_ga f1 rfl⟩, ?_, ?_⟩
  · rintro m v4 v5 v6 σ7 r4 r5 r6 fr ⟨i, rfl, em, hi, hv5, a0, ⟨a1, a2⟩, a3, a4, a5, a6⟩
    have fin : gs.length ≤ i → (¬ v4 = 0 → ∀ (j : Nat) (x : Int), j < gs.length → xs[j]? = some x → 0 < sg_g σ 6 x) ∧ (sg_g σ7 38 9 = e + gs.length ∧ sg_g σ7 38 10 = b + gs.length) ∧ (∀ j, e ≤ j → j < e + gs.length → b ≤ sg_g σ7 40 j ∧ sg_g σ7 40 j < b + gs.length) ∧ (∀ j, j < e → sg_g σ7 40 j = sg_g σ 40 j) ∧ (∀ (j : Nat) (x : Int), j < gs.length → xs[j]? = some x → sg_g σ7 34 (b + j) = sg_g σ 6 x - 1) ∧ ∀ s, s < b → sg_g σ7 34 s = sg_g σ 34 s := fun hgi => by
      have : i = gs.length := by omega
      subst this
      exact ⟨a0, ⟨a1, a2⟩, a3, a4, a5, a6⟩
    refine ⟨fun d => fin (by omega), fun d => ⟨fun d2 => fin (by omega), fun d2 => ?_⟩⟩
    obtain ⟨x, hx⟩ : ∃ x, xs[i]? = some x := ⟨_, List.getElem?_eq_getElem (by omega)⟩
    have hxo' : (kOrd A n)[i]? = some x := by rw [hxo i (by omega)]; exact hx
    have ex := hv5 x hxo'
    subst ex
    have xr := p6 v5 (List.mem_of_getElem? hxo')
    have tx := ht v5 (List.mem_of_getElem? hx)
    have tx1 := tx.1
    have tx2 := tx.2
    rw [xa_in (a := 6) xr, xa_in (a := 9) xr]
    refine ⟨fun m' v43 σ44 => m' = (272 - v43).toNat ∧ (e ≤ v43 ∧ v43 ≤ 272), fun _ => True, ⟨_, rfl, by omega, by omega⟩, ?_, ?_⟩
    · rintro m' v43 σ44 r43 fr44 ⟨em', hj1, hj2⟩
      refine ⟨fun _ => True.intro, fun y => ⟨fun _ => True.intro, fun y2 => ⟨fun _ => ⟨⟨by omega, by omega⟩, _, ?_, rfl, by omega, by omega⟩, fun _ => d_blame (by decide) (fun σ' _ _ _ => ⟨⟨by omega, by omega⟩, _, ?_, rfl, by omega, by omega⟩)⟩⟩⟩
      · omega
      · omega
    · intro σ44 f44 _
      refine ⟨⟨fun _ => trivial, fun _ => ⟨fun _ => trivial, fun _ => trivial⟩⟩, fun v60 e60 r60 => ⟨⟨by omega, by omega⟩, ?_⟩⟩
      refine d_bind (e := e + i) (b := b + i) (by rw [sg_F_g f44 (by rfl)]; exact a1) (by rw [sg_F_g f44 (by rfl)]; exact a2) ⟨⟨by omega, by omega⟩, by omega, by omega⟩ ⟨by omega, by omega⟩ (fun σ65 f65 c1 c2 c3 c4 c5 c6 _ _ => ⟨⟨by omega, by omega⟩, gs.length - (i + 1), by omega, i + 1, by omega, rfl, by omega, fun y hy => p5 i v5 y hxo' hy, fun zz j x hj hx' => ?_, ⟨by rw [c1]; omega, by rw [c2]; omega⟩, fun j y1 y2 => ?_, fun j hj => ?_, fun j x hj hx' => ?_, fun s hs => ?_⟩)
      · rw [e60] at zz
        have z4 : ¬ v4 = 0 := fun q => zz (by rw [if_pos q])
        rw [if_neg z4] at zz
        by_cases c : j = i
        · subst c
          rw [hx] at hx'
          have e := Option.some.inj hx'
          subst e
          by_cases q : sg_g σ 6 v5 ≤ 0
          · exact absurd (by rw [if_pos q]) zz
          · omega
        · exact a0 z4 j x (by omega) hx'
      · by_cases c : j = e + i
        · rw [c, c3]; omega
        · rw [c4 j c, sg_F_ga f44 rfl]
          have := a3 j y1 (by omega)
          omega
      · rw [c4 j (by omega), sg_F_ga f44 rfl]; exact a4 j hj
      · by_cases c : j = i
        · subst c
          rw [hx] at hx'
          have := Option.some.inj hx'
          rw [c5, this]
        · rw [c6 _ (by omega), sg_F_ga f44 rfl]; exact a5 j x (by omega) hx'
      · rw [c6 _ (by omega), sg_F_ga f44 rfl]; exact a6 s hs
  · rintro v4 σ7 r4 f7 ⟨a0, ⟨a1, a2⟩, a3, a4, a5, a6⟩
    refine ⟨fun σ26 => ¬ sg_g σ26 38 13 = 0 ∨ (σ26 = σ7 ∧ sg_g σ7 38 13 = 0 ∧ ¬ v4 = 0), ⟨fun zv => ?_, fun _ => d_blame (by decide) (fun σ' z _ _ => Or.inl z)⟩, fun σ26 f26 h26 => ?_⟩
    · by_cases c : sg_g σ7 38 13 = 0
      · exact Or.inr ⟨rfl, c, zv⟩
      · exact Or.inl c
    · have q26 : sg_g σ26 28 6 = p := by rw [sg_F_g f26 (by rfl), sg_F_g f7 (by rfl), sg_F_g f1 (by rfl)]; exact s4
      refine d_add (p := p) q26 ⟨s8, hp⟩ (by decide) ⟨by omega, by omega⟩ (fun σ30 f30 d1 d2 d3 d4 _ => ?_)
      rcases h26 with z | ⟨z1, z2, z3⟩
      · exact k1 σ30 (by rw [sg_F_g f30 (by rfl)]; exact z)
      · subst z1
        have f17 : sg_F [34, 39, 40, 10038, 11038, 13038, 14038] σ1 σ26 := f7
        have FF : sg_F [16, 29, 30, 32, 33, 34, 39, 40, 7028, 10038, 11038, 13038, 14038] σ σ30 := sg_F_t (sg_F_t (sg_F_m f1 rfl) (sg_F_m f17 rfl)) (sg_F_m f30 rfl)
        refine k2 σ30 ⟨by rw [sg_F_g f30 (by rfl)]; exact z2, ⟨by rw [sg_F_g f30 (by rfl)]; exact a1, by rw [sg_F_g f30 (by rfl)]; exact a2, d1⟩, fun i y1 y2 => ?_, by omega, by omega, by omega⟩ FF ⟨fun x hx => ⟨⟨sg_F_ga FF rfl, ?_⟩, sg_F_ga FF rfl, sg_F_ga FF rfl, sg_F_ga FF rfl, sg_F_ga FF rfl⟩, fun s hs => by rw [sg_F_ga f30 rfl, a6 s hs], fun i hi => by rw [sg_F_ga f30 rfl, a4 i hi], fun i hi => ?_⟩ ⟨d2, d3⟩ ⟨by rw [sg_F_ga f30 rfl, sg_F_ga f17 rfl]; exact g16, fun i x hx => ?_⟩ (fun x hx => ?_)
        · rw [sg_F_ga f30 rfl]
          by_cases c : i < e
          · rw [a4 i c]; exact List.mem_append_right _ (s5 i y1 c)
          · exact List.mem_append_left _ (gsl_m.mpr (a3 i (by omega) y2))
        · rw [sg_F_ga f30 rfl, sg_F_ga f17 rfl]; exact o16 x (by simpa using hx)
        · obtain ⟨t1, t2⟩ := d4 i (by omega)
          rw [t1, t2, sg_F_ga f17 rfl, sg_F_ga f1 rfl, sg_F_ga f17 rfl, sg_F_ga f1 rfl]
          exact ⟨rfl, rfl⟩
        · rw [sg_F_ga f30 rfl, a5 i x (by have := gE_l hx; omega) hx, show sg_g σ30 6 x = sg_g σ 6 x from sg_F_ga FF rfl]
        · obtain ⟨j, hj⟩ := List.getElem?_of_mem hx
          rw [show sg_g σ30 6 x = sg_g σ 6 x from sg_F_ga FF rfl]
          exact a0 z3 j x (by have := gE_l hj; omega) hj
end CK3
/-! ahead, enter, conclude once more. -/
section CK4
variable {σ : sg_S} {A : aT} {n : Int} {Q : sg_S → Prop}
abbrev ahL : List Nat := [16, 29, 30, 32, 33, 34, 39, 40, 7028, 10038, 11038, 13038, 14038]
theorem d_ahead {es : List Int} {e b p : Int} {s : Nat} (h : ckW σ A) (hn : 0 ≤ n ∧ n < A.1) (hw : nW A n) (hs : s < (kOrd A n).length) (hS : kS σ es e b p) (ht : ∀ x ∈ (kOrd A n).take s, kIn (sg_g σ 6 x)) (he : e + (bA A n s b - b) ≤ 272) (hb : bA A n s b ≤ 272) (hp : p + (ahd A n s).length ≤ 1013) (k1 : ∀ σ', ¬ sg_g σ' 38 13 = 0 → Q σ') (k2 : ∀ σ', kS σ' (esA A n s es b) (e + (bA A n s b - b)) (bA A n s b) (p + (ahd A n s).length) → sg_F ahL σ σ' → kU σ σ' e b p [n] → pC σ' p (ahd A n s) → cA σ' A n s b → (kNo A n s → sg_g σ' 16 n = sg_g σ 16 n) → (A.2.1 n = 15 → s = (A.2.2.2.2.2 n).length → ∀ x ∈ kGs A n, 0 < sg_g σ' 6 x) → Q σ') : V_kAhead σ n s Q := by
  obtain ⟨p0, p1, p2, p3, p4, p5, p6⟩ := ckW_p h hn
  obtain ⟨n1, n2, n3, n4, n5, n6, n7, n8⟩ := id hw
  have hkl := kOrd_len A n
  obtain ⟨q2, q3, q15, q1, q13⟩ := kmp_q n1
  obtain ⟨s1, ⟨s2, s3, s4⟩, s5, s6, s7, s8⟩ := id hS
  have hA := h.1
  have n200 : sg_R n := ⟨by omega, by omega⟩
  have hkd : sx_at σ 3 200 n = kmp (A.2.1 n) := by rw [p1 3 200 rfl]; exact (h.2.2 n hn.1 hn.2).1.1
  have cAno : ∀ σ', kNo A n s → cA σ' A n s b := fun σ' z => ⟨fun a c => absurd ⟨a, c⟩ z.1, fun a c => absurd ⟨a, c⟩ z.2⟩
  -- no order
  have stay0 : kNo A n s → ahd A n s = [] → Q σ := fun z ha => by
    obtain ⟨x1, x2⟩ := esA_no z es b
    refine k2 σ ?_ (sg_F_r _ _) (kU_r _ _ _ _ _) (by rw [ha]; exact pC_0 _ _) (cAno σ z) (fun _ => rfl) (fun a c => absurd ⟨a, c⟩ z.2)
    rw [x1, x2, ha, List.length_nil, show e + (b - b) = e by omega, show p + ((0 : Nat) : Int) = p by omega]
    exact hS
  -- one order
  have stay1 : ∀ o, sg_R o → kNo A n s → ahd A n s = [(o, n)] → V_kpAdd σ o n (fun σ7 => sg_F [29, 30, 32, 33, 7028] σ σ7 → Q σ7) := fun o ro z ha => by
    obtain ⟨x1, x2⟩ := esA_no z es b
    rw [ha] at hp
    simp only [List.length_cons, List.length_nil] at hp
    refine d_add (p := p) s4 ⟨s8, by omega⟩ ro n200 (fun σ' f d1 d2 d3 d4 _ => ?_)
    refine k2 σ' ?_ (sg_F_m f rfl) ⟨fun x _ => ⟨⟨sg_F_ga f rfl, sg_F_ga f rfl⟩, sg_F_ga f rfl, sg_F_ga f rfl, sg_F_ga f rfl, sg_F_ga f rfl⟩, fun x _ => sg_F_ga f rfl, fun i _ => sg_F_ga f rfl, fun i hi => d4 i (by omega)⟩ (by rw [ha]; exact pC_1 d2 d3) (cAno σ' z) (fun _ => sg_F_ga f rfl) (fun a c => absurd ⟨a, c⟩ z.2)
    rw [x1, x2, ha, List.length_cons, List.length_nil, show e + (b - b) = e by omega, show p + ((0 + 1 : Nat) : Int) = p + 1 by omega]
    exact ⟨by rw [sg_F_g f (by rfl)]; exact s1, ⟨by rw [sg_F_g f (by rfl)]; exact s2, by rw [sg_F_g f (by rfl)]; exact s3, d1⟩, fun i a c => by rw [sg_F_ga f rfl]; exact s5 i a c, s6, s7, by omega⟩
  unfold V_kAhead
  rw [hkd, p1 13 200 rfl]
  by_cases c2 : A.2.1 n = 2
  · have m2 := q2.mpr c2
    rw [m2]
    refine ⟨fun z => absurd rfl z, fun _ => ⟨fun z => ?_, fun z => ?_⟩⟩
    · have kn : kNo A n s := ⟨fun y => z (by omega), fun y => by omega⟩
      have ha : ahd A n s = [] := by unfold ahd; rw [if_neg (by omega), if_neg (by omega), if_neg (by omega), if_neg (by omega)]
      exact ⟨fun _ => ⟨fun _ => ⟨fun _ => stay0 kn ha, fun y => absurd y (by decide)⟩, fun y => absurd y (by decide)⟩, fun y => absurd y (by decide)⟩
    · have l2 := n3 (Or.inl c2)
      have s1' : s = 1 := by omega
      subst s1'
      have ha : ahd A n 1 = [(4, n)] := by unfold ahd; rw [if_pos ⟨c2, rfl⟩]
      have be : bA A n 1 b = b + 1 := by unfold bA; rw [if_pos ⟨c2, rfl⟩]
      have ee : esA A n 1 es b = b :: es := by unfold esA; rw [if_pos ⟨c2, rfl⟩]
      rw [ha, List.length_cons, List.length_nil] at hp
      rw [be] at he hb
      obtain ⟨x, hx⟩ : ∃ x, (kOrd A n)[0]? = some x := ⟨_, List.getElem?_eq_getElem (by omega)⟩
      have x7 := p3 x hx
      have xm : x ∈ (kOrd A n).take 1 := by
        rw [List.mem_take_iff_getElem]
        have h0 : 0 < (kOrd A n).length := by omega
        refine ⟨0, by omega, ?_⟩
        rw [List.getElem?_eq_getElem h0] at hx
        exact Option.some.inj hx
      have tx := ht x xm
      have hx2 : (A.2.2.2.2.1 n).getD 0 0 = x := by
        have : kOrd A n = A.2.2.2.2.1 n := by unfold kOrd; rw [if_neg (by omega)]
        rw [this] at hx
        rw [List.getD_eq_getElem?_getD, hx]; rfl
      rw [p1 7 200 rfl, x7, xa_in (p6 x (List.mem_of_getElem? hx))]
      have tx1 := tx.1
      have tx2 := tx.2
      refine d_bind (e := e) (b := b) s2 s3 ⟨⟨s6, by omega⟩, s7, by omega⟩ ⟨by omega, by omega⟩ (fun σ' f' b1 b2 b3 b4 b5 b6 rb _ σ131 e131 => ?_)
      rw [xp_in ⟨hn.1, by omega⟩] at e131
      have f131 : sg_F [16] σ' σ131 := by rw [e131]; exact sg_F_w (sg_F_r _ _) rfl _
      refine d_add (p := p) (by rw [sg_F_g f131 (by rfl), sg_F_g f' (by rfl)]; exact s4) ⟨s8, by omega⟩ (by decide) n200 (fun σ135 f135 d1 d2 d3 d4 _ => ?_)
      have ff : sg_F [16, 29, 30, 32, 33, 7028] σ' σ135 := sg_F_t (sg_F_m f131 rfl) (sg_F_m f135 rfl)
      have FF : sg_F ahL σ σ135 := sg_F_t (sg_F_m f' rfl) (sg_F_m ff rfl)
      have g16 : sg_g σ135 16 n = b := by rw [sg_F_ga f135 rfl, e131, sg_gw_e _ _ _ _ rb]
      refine k2 σ135 ?_ FF ⟨fun y hy => ⟨⟨sg_F_ga FF rfl, ?_⟩, sg_F_ga FF rfl, sg_F_ga FF rfl, sg_F_ga FF rfl, sg_F_ga FF rfl⟩, fun y hy => by rw [sg_F_ga ff rfl, b6 y (by omega)], fun i hi => by rw [sg_F_ga ff rfl, b4 i (by omega)], fun i hi => ?_⟩ (by rw [ha]; exact pC_1 d2 d3) ⟨fun _ _ => ⟨g16, ?_⟩, fun z => by omega⟩ (fun z => absurd ⟨c2, rfl⟩ z.1) (fun z => by omega)
      · rw [ee, be, ha, List.length_cons, List.length_nil, show e + (b + 1 - b) = e + 1 by omega, show p + ((0 + 1 : Nat) : Int) = p + 1 by omega]
        refine ⟨by rw [sg_F_g ff (by rfl), sg_F_g f' (by rfl)]; exact s1, ⟨by rw [sg_F_g ff (by rfl)]; exact b1, by rw [sg_F_g ff (by rfl)]; exact b2, d1⟩, fun i a c => ?_, by omega, by omega, by omega⟩
        rw [sg_F_ga ff rfl]
        by_cases ci : i = e
        · rw [ci, b3]; simp
        · rw [b4 i ci]; exact List.mem_cons_of_mem _ (s5 i a (by omega))
      · rw [sg_F_ga f135 rfl, e131, sg_gw_k _ _ _ _ _ _ (by simpa using hy), sg_F_ga f' rfl]
      · obtain ⟨t1, t2⟩ := d4 i (by omega)
        rw [t1, t2, sg_F_ga f131 rfl, sg_F_ga f' rfl, sg_F_ga f131 rfl, sg_F_ga f' rfl]
        exact ⟨rfl, rfl⟩
      · rw [sg_F_ga ff rfl, b5, hx2]
        exact (sg_F_ga FF rfl).symm
  · have m2 : ¬ kmp (A.2.1 n) = 262 := fun z => c2 (q2.mp z)
    refine ⟨fun _ => ?_, fun z => absurd z m2⟩
    by_cases c3 : A.2.1 n = 3
    · have m3 := q3.mpr c3
      rw [m3]
      have kn : kNo A n s := ⟨fun y => by omega, fun y => by omega⟩
      refine ⟨fun z => absurd rfl z, fun _ => ⟨fun z0 => ?_, fun z0 v54 e54 r54 => ?_⟩⟩
      · have ha : ahd A n s = [] := by unfold ahd; rw [if_neg (by omega), if_neg (by omega), if_neg (by omega), if_neg (by omega)]
        exact ⟨fun _ => ⟨fun _ => stay0 kn ha, fun y => absurd y (by decide)⟩, fun y => absurd y (by decide)⟩
      · refine stay1 v54 r54 kn ?_
        unfold ahd
        rw [if_neg (by omega), if_pos ⟨c3, by omega⟩, e54]
        by_cases c1 : s = 1
        · rw [if_pos c1, if_neg (by omega)]
        · rw [if_neg c1, if_pos (by omega)]
    · have m3 : ¬ kmp (A.2.1 n) = 264 := fun z => c3 (q3.mp z)
      refine ⟨fun _ => ?_, fun z => absurd z m3⟩
      by_cases c15 : A.2.1 n = 15
      · have m15 := q15.mpr c15
        obtain ⟨e1, e2, e3⟩ := (h.2.2 n hn.1 hn.2).1.2.2.2.2 c15
        have l7 := n7 c15
        rw [m15, e1]
        refine ⟨fun z => absurd rfl z, fun _ => ⟨fun z => ?_, fun z => ?_⟩⟩
        · have kn : kNo A n s := ⟨fun y => by omega, fun y => z (by omega)⟩
          refine ⟨fun y => absurd rfl y, fun _ => ⟨fun z1 => stay0 kn ?_, fun z1 => stay1 11 (by decide) kn ?_⟩⟩
          · unfold ahd; rw [if_neg (by omega), if_neg (by omega), if_neg (by omega), if_neg (by omega)]
          · unfold ahd; rw [if_neg (by omega), if_neg (by omega), if_neg (by omega), if_pos ⟨c15, by omega⟩]
        · have sg : s = (A.2.2.2.2.2 n).length := by omega
          have ha : ahd A n s = [(10, n)] := by unfold ahd; rw [if_neg (by omega), if_neg (by omega), if_pos ⟨c15, sg⟩]
          have be : bA A n s b = b + (A.2.2.2.2.2 n).length := by unfold bA; rw [if_neg (by omega), if_pos ⟨c15, sg⟩]
          have ee : esA A n s es b = gsl b (A.2.2.2.2.2 n).length ++ es := by unfold esA; rw [if_neg (by omega), if_pos ⟨c15, sg⟩]
          rw [ha, List.length_cons, List.length_nil] at hp
          rw [be] at he hb
          have hgx : ∀ x ∈ kGs A n, x ∈ (kOrd A n).take s := fun x hx => by
            unfold kGs at hx
            unfold kOrd
            rw [if_pos c15, List.take_append_of_le_length (by rw [List.length_drop]; omega), sg]
            exact hx
          refine d_open h hn hw c15 hS (fun x hx => ht x (hgx x hx)) (by omega) (by omega) (by omega) (fun σ' z _ => k1 σ' z) (fun σ' y1 y2 y3 y4 y5 y6 _ => k2 σ' ?_ y2 y3 (by rw [ha]; exact pC_1 y4.1 y4.2) ⟨fun z => by omega, fun _ _ => y5⟩ (fun z => absurd ⟨c15, sg⟩ z.2) (fun _ _ => y6))
          rw [ee, be, ha, List.length_cons, List.length_nil, show e + (b + ((A.2.2.2.2.2 n).length : Int) - b) = e + (A.2.2.2.2.2 n).length by omega, show p + ((0 + 1 : Nat) : Int) = p + 1 by omega]
          exact y1
      · have m15 : ¬ kmp (A.2.1 n) = 123 := fun z => c15 (q15.mp z)
        have kn : kNo A n s := ⟨fun y => c2 y.1, fun y => c15 y.1⟩
        have ha := (kQ_o (s := s) c2 c3 c15).1
        exact ⟨fun _ => ⟨fun _ => stay0 kn ha, fun y => absurd y m15⟩, fun y => absurd y m15⟩
end CK4
/-! enter, conclude once more. -/
section CK5
variable {σ : sg_S} {A : aT} {n : Int} {Q : sg_S → Prop}
abbrev enL : List Nat := [16, 29, 30, 32, 33, 41, 43, 44, 7028]
theorem d_enter {es : List Int} {e b p : Int} (hn : 0 ≤ n ∧ n < 200) (hS : kS σ es e b p) (hp : p < 1013) (k : ∀ σ', kS σ' es e b (p + 1) → sg_F enL σ σ' → kU σ σ' e b p [n] → (sg_g σ' 29 p = 0 ∧ sg_g σ' 30 p = n) → sg_g σ' 16 n = b → (sg_g σ' 43 n = sg_g σ 7 n ∧ sg_g σ' 44 n = 0 ∧ sg_g σ' 41 n = e) → Q σ') : V_kEnter σ n Q := by
  obtain ⟨s1, ⟨s2, s3, s4⟩, s5, s6, s7, s8⟩ := id hS
  unfold V_kEnter
  refine ⟨fun _ => ?_, fun z => absurd s1 z⟩
  refine d_add (p := p) s4 ⟨s8, hp⟩ (by decide) ⟨by omega, by omega⟩ (fun σ3 f3 d1 d2 d3 d4 _ σ8 e8 σ11 e11 σ14 e14 σ17 e17 => ?_)
  rw [xp_in hn, xa_in hn] at e8
  rw [xp_in hn] at e11
  rw [xp_in hn, s2] at e14
  rw [xp_in hn, s3] at e17
  have r9 : sg_R e := by rw [← s2]; exact sg_Rg _ _ _
  have r10 : sg_R b := by rw [← s3]; exact sg_Rg _ _ _
  have f17 : sg_F [16, 41, 43, 44] σ3 σ17 := by rw [e17, e14, e11, e8]; exact sg_F_w (sg_F_w (sg_F_w (sg_F_w (sg_F_r _ _) rfl _) rfl _) rfl _) rfl _
  have FF : sg_F enL σ σ17 := sg_F_t (sg_F_m f3 rfl) (sg_F_m f17 rfl)
  have g16 : sg_g σ17 16 n = b := by rw [e17, sg_gw_e _ _ _ _ r10]
  have g41 : sg_g σ17 41 n = e := by rw [e17, sg_gw_c _ _ _ _ _ _ (by decide), e14, sg_gw_e _ _ _ _ r9]
  have g44 : sg_g σ17 44 n = 0 := by rw [e17, sg_gw_c _ _ _ _ _ _ (by decide), e14, sg_gw_c _ _ _ _ _ _ (by decide), e11, sg_gw_e _ _ _ _ (by decide)]
  have g43 : sg_g σ17 43 n = sg_g σ 7 n := by rw [e17, sg_gw_c _ _ _ _ _ _ (by decide), e14, sg_gw_c _ _ _ _ _ _ (by decide), e11, sg_gw_c _ _ _ _ _ _ (by decide), e8, sg_gw_e _ _ _ _ (sg_Rg _ _ _)]
  refine k σ17 ⟨by rw [sg_F_g FF (by rfl)]; exact s1, ⟨by rw [sg_F_g FF (by rfl)]; exact s2, by rw [sg_F_g FF (by rfl)]; exact s3, by rw [sg_F_g f17 (by rfl)]; exact d1⟩, fun i a c => by rw [sg_F_ga FF rfl]; exact s5 i a c, s6, s7, by omega⟩ FF ⟨fun x hx => ?_, fun s _ => sg_F_ga FF rfl, fun i _ => sg_F_ga FF rfl, fun i hi => ?_⟩ ⟨by rw [sg_F_ga f17 rfl]; exact d2, by rw [sg_F_ga f17 rfl]; exact d3⟩ g16 ⟨g43, g44, g41⟩
  · have xn : ¬ x = n := by simpa using hx
    refine ⟨⟨sg_F_ga FF rfl, ?_⟩, ?_, sg_F_ga FF rfl, ?_, ?_⟩
    · rw [e17, sg_gw_k _ _ _ _ _ _ xn, e14, sg_gw_c _ _ _ _ _ _ (by decide), e11, sg_gw_c _ _ _ _ _ _ (by decide), e8, sg_gw_c _ _ _ _ _ _ (by decide), sg_F_ga f3 rfl]
    · rw [e17, sg_gw_c _ _ _ _ _ _ (by decide), e14, sg_gw_k _ _ _ _ _ _ xn, e11, sg_gw_c _ _ _ _ _ _ (by decide), e8, sg_gw_c _ _ _ _ _ _ (by decide), sg_F_ga f3 rfl]
    · rw [e17, sg_gw_c _ _ _ _ _ _ (by decide), e14, sg_gw_c _ _ _ _ _ _ (by decide), e11, sg_gw_c _ _ _ _ _ _ (by decide), e8, sg_gw_k _ _ _ _ _ _ xn, sg_F_ga f3 rfl]
    · rw [e17, sg_gw_c _ _ _ _ _ _ (by decide), e14, sg_gw_c _ _ _ _ _ _ (by decide), e11, sg_gw_k _ _ _ _ _ _ xn, e8, sg_gw_c _ _ _ _ _ _ (by decide), sg_F_ga f3 rfl]
  · rw [sg_F_ga f17 rfl, sg_F_ga f17 rfl]
    exact d4 i (by omega)
theorem kmp_p {k : Int} (h : (4 ≤ k ∧ k ≤ 12) ∨ (16 ≤ k ∧ k ≤ 27)) : (v_kPartsOf (kmp k) = 1 ↔ (k = 11 ∨ k = 16 ∨ (18 ≤ k ∧ k ≤ 22) ∨ k = 24)) ∧ ¬ kmp k = 257 ∧ ¬ kmp k = 279 := by
  have c : k = 4 ∨ k = 5 ∨ k = 6 ∨ k = 7 ∨ k = 8 ∨ k = 9 ∨ k = 10 ∨ k = 11 ∨ k = 12 ∨ k = 16 ∨ k = 17 ∨ k = 18 ∨ k = 19 ∨ k = 20 ∨ k = 21 ∨ k = 22 ∨ k = 23 ∨ k = 24 ∨ k = 25 ∨ k = 26 ∨ k = 27 := by omega
  rcases c with e | e | e | e | e | e | e | e | e | e | e | e | e | e | e | e | e | e | e | e | e <;> subst e <;> decide
theorem d_conclude {p : Int} (hw : nW A n) (hn : 0 ≤ n ∧ n < 200) (hp : sg_g σ 28 6 = p) (h0 : 0 ≤ p ∧ p + (cnc A n).length ≤ 1013) (k : ∀ σ', sg_F [29, 30, 32, 33, 7028] σ σ' → sg_g σ' 28 6 = p + (cnc A n).length → pC σ' p (cnc A n) → (∀ i, i < p → sg_g σ' 29 i = sg_g σ 29 i ∧ sg_g σ' 30 i = sg_g σ 30 i) → Q σ') : V_kConclude σ n (kmp (A.2.1 n)) Q := by
  have n1 := hw.1
  obtain ⟨q2, q3, q15, q1, q13⟩ := kmp_q n1
  have n200 : sg_R n := ⟨by omega, by omega⟩
  have one : ∀ o, sg_R o → cnc A n = [(o, n)] → V_kpAdd σ o n (fun σ2 => sg_F [29, 30, 32, 33, 7028] σ σ2 → Q σ2) := fun o ro hc => by
    rw [hc, List.length_cons, List.length_nil] at h0
    refine d_add (p := p) hp ⟨h0.1, by omega⟩ ro n200 (fun σ' f d1 d2 d3 d4 _ => k σ' f ?_ ?_ (fun i hi => d4 i (by omega)))
    · rw [hc, List.length_cons, List.length_nil, d1]; omega
    · rw [hc]; exact pC_1 d2 d3
  unfold V_kConclude
  generalize hK : A.2.1 n = kd at *
  by_cases c15 : kd = 15
  · have hc : cnc A n = [(12, n), (1, n)] := by unfold cnc; rw [hK, if_neg (by omega), if_neg (by omega), if_neg (by omega), if_pos c15]
    rw [hc] at h0 k
    simp only [List.length_cons, List.length_nil] at h0 k
    refine ⟨fun _ => ?_, fun z => absurd (q15.mpr c15) z⟩
    unfold V_kConclude_123
    refine d_add (p := p) hp ⟨h0.1, by omega⟩ (by decide) n200 (fun σ2 f2 d1 d2 d3 d4 _ => d_add (p := p + 1) d1 ⟨by omega, by omega⟩ (by decide) n200 (fun σ8 f8 g1 g2 g3 g4 _ => ?_))
    refine k σ8 (sg_F_t f2 f8) (by rw [g1]; omega) ?_ (fun i hi => ?_)
    · refine pC_a (C := [(12, n)]) (C' := [(1, n)]) (pC_1 ?_ ?_) (pC_1 ?_ ?_)
      · rw [(g4 p (by omega)).1]; exact d2
      · rw [(g4 p (by omega)).2]; exact d3
      · exact g2
      · exact g3
    · obtain ⟨t1, t2⟩ := g4 i (by omega)
      rw [t1, t2]; exact d4 i (by omega)
  · refine ⟨fun z => absurd (q15.mp z) c15, fun _ => ?_⟩
    by_cases c0 : kd = 0
    · have hc : cnc A n = [(1, n)] := by unfold cnc; rw [hK, if_neg (by omega), if_neg (by omega), if_neg (by omega), if_neg (by omega), if_pos (Or.inl c0)]
      subst c0
      refine ⟨fun _ => ?_, fun z => absurd rfl z⟩
      unfold V_kConclude_257; exact one 1 (by decide) hc
    by_cases c1 : kd = 1
    · have hc : cnc A n = [(1, n)] := by unfold cnc; rw [hK, if_neg (by omega), if_neg (by omega), if_neg (by omega), if_neg (by omega), if_pos (Or.inr (Or.inl c1))]
      subst c1
      refine ⟨fun z => absurd z (by decide), fun _ => ⟨fun _ => ?_, fun z => absurd rfl z⟩⟩
      unfold V_kConclude_257; exact one 1 (by decide) hc
    by_cases c2 : kd = 2
    · have hc : cnc A n = [] := by unfold cnc; rw [hK, if_pos c2]
      subst c2
      refine ⟨fun z => absurd z (by decide), fun _ => ⟨fun z => absurd z (by decide), fun _ => ⟨fun _ => ?_, fun z => absurd rfl z⟩⟩⟩
      unfold V_kConclude_262
      refine k σ (sg_F_r _ _) ?_ (by rw [hc]; exact pC_0 _ _) (fun _ _ => ⟨rfl, rfl⟩)
      rw [hc, List.length_nil, hp]; omega
    by_cases c3 : kd = 3
    · have hc : cnc A n = [(9, n)] := by unfold cnc; rw [hK, if_neg (by omega), if_pos c3]
      subst c3
      refine ⟨fun z => absurd z (by decide), fun _ => ⟨fun z => absurd z (by decide), fun _ => ⟨fun z => absurd z (by decide), fun _ => ⟨fun _ => ?_, fun z => absurd rfl z⟩⟩⟩⟩
      unfold V_kConclude_264; exact one 9 (by decide) hc
    by_cases c14 : kd = 14
    · have hc : cnc A n = [(1, n)] := by unfold cnc; rw [hK, if_neg (by omega), if_neg (by omega), if_neg (by omega), if_neg (by omega), if_pos (Or.inr (Or.inr c14))]
      subst c14
      refine ⟨fun z => absurd z (by decide), fun _ => ⟨fun z => absurd z (by decide), fun _ => ⟨fun z => absurd z (by decide), fun _ => ⟨fun z => absurd z (by decide), fun _ => ⟨fun _ => ?_, fun z => absurd rfl z⟩⟩⟩⟩⟩
      unfold V_kConclude_257; exact one 1 (by decide) hc
    by_cases c13 : kd = 13
    · have hc : cnc A n = [(5, n)] := by unfold cnc; rw [hK, if_neg (by omega), if_neg (by omega), if_pos c13]
      subst c13
      refine ⟨fun z => absurd z (by decide), fun _ => ⟨fun z => absurd z (by decide), fun _ => ⟨fun z => absurd z (by decide), fun _ => ⟨fun z => absurd z (by decide), fun _ => ⟨fun z => absurd z (by decide), fun _ => ⟨fun _ => ?_, fun z => absurd rfl z⟩⟩⟩⟩⟩⟩
      unfold V_kConclude_280; exact one 5 (by decide) hc
    obtain ⟨k1, k257, k279⟩ := kmp_p (k := kd) (by omega)
    refine ⟨fun z => absurd z k257, fun _ => ⟨fun z => absurd (q1.mp z) c1, fun _ => ⟨fun z => absurd (q2.mp z) c2, fun _ => ⟨fun z => absurd (q3.mp z) c3, fun _ => ⟨fun z => absurd z k279, fun _ => ⟨fun z => absurd (q13.mp z) c13, fun _ => ?_⟩⟩⟩⟩⟩⟩
    unfold V_kConclude_d
    intro v4 e4 r4
    refine one v4 r4 ?_
    unfold cnc
    rw [hK, if_neg c2, if_neg c3, if_neg c13, if_neg c15, if_neg (by omega), e4]
    by_cases o : kd = 11 ∨ kd = 16 ∨ (18 ≤ kd ∧ kd ≤ 22) ∨ kd = 24
    · rw [if_pos o, if_neg (fun z => z (k1.mpr o))]
    · rw [if_neg o, if_pos (fun z => o (k1.mp z))]
end CK5
/-! leave once more. -/
section CK6
variable {σ : sg_S} {A : aT} {n : Int} {Q : sg_S → Prop}
abbrev lvL : List Nat := [6, 16, 29, 30, 32, 33, 7028, 10038, 13038, 14038]
/-- the DEFS that may be called -/
def cDq (σ : sg_S) (A : aT) (cl : Int) (L : List Int) : Prop := ∀ q, 0 ≤ q → q < cl → q < 12 ∧ ∃ ps r, dcQ σ q (ps, r) ∧ (0 ≤ r ∧ r < A.1) ∧ kIn (sg_g σ 6 r) ∧ r ∉ L
/-- what resolve leaves -/
def rSq (σ σ7 : sg_S) (A : aT) (es0 : List Int) (cl n : Int) : Prop := (A.2.1 n = 1 → sg_g σ7 16 n ∈ es0) ∧ (A.2.1 n = 13 → 0 ≤ sg_g σ7 16 n ∧ sg_g σ7 16 n < cl) ∧ (¬ A.2.1 n = 1 → ¬ A.2.1 n = 13 → sg_g σ7 16 n = sg_g σ 16 n) ∧ (∀ x, ¬ x = n → sg_g σ7 16 x = sg_g σ 16 x)
theorem d_resolve {es0 : List Int} {e0 cl : Int} (hn : 0 ≤ n ∧ n < 200) (hk : A.2.1 n = 1 ∨ A.2.1 n = 13) (h0 : sg_g σ 38 13 = 0) (he : sg_g σ 38 9 = e0) (hb : 0 ≤ e0 ∧ e0 ≤ 272) (hes : ∀ i, 0 ≤ i → i < e0 → sg_g σ 40 i ∈ es0) (hcl : sg_g σ 38 11 = cl) (k : ∀ σ', ¬ sg_g σ' 38 13 = 0 ∨ (sg_g σ' 38 13 = 0 ∧ rSq σ σ' A es0 cl n) → sg_F [16, 13038, 14038] σ σ' → Q σ') : V_kResolve σ n (kmp (A.2.1 n)) Q := by
  unfold V_kResolve
  refine ⟨fun v => v = -1 ∨ ((A.2.1 n = 1 → v ∈ es0) ∧ (A.2.1 n = 13 → 0 ≤ v ∧ v < cl)), ⟨fun z => ?_, fun z => ?_⟩, fun v rv hv => ?_⟩
  · have k13 : A.2.1 n = 13 := by
      rcases hk with y | y
      · rw [y] at z; exact absurd rfl z
      · exact y
    rw [hcl]
    exact d_dfind (fun _ => Or.inl rfl) (fun q a c _ _ => Or.inr ⟨fun y => by omega, fun _ => ⟨a, c⟩⟩)
  · have k1' : A.2.1 n = 1 := by
      rcases hk with y | y
      · exact y
      · rw [y] at z; exact absurd z (by decide)
    exact d_find he hb (fun _ => Or.inl rfl) (fun i a c _ => Or.inr ⟨fun _ => hes i a c, fun y => by omega⟩)
  · refine ⟨fun σ12 => ¬ sg_g σ12 38 13 = 0 ∨ (σ12 = σ ∧ 0 ≤ v), ⟨fun z => Or.inr ⟨rfl, z⟩, fun z => d_blame (by decide) (fun σ' t1 t2 _ => Or.inl t1)⟩, fun σ12 f12 h12 σ15 e15 => ?_⟩
    have f15 : sg_F [16] σ12 σ15 := by rw [e15]; exact xF_p (sg_F_r _ _) rfl _ _ _
    have FF : sg_F [16, 13038, 14038] σ σ15 := sg_F_t (sg_F_m f12 rfl) (sg_F_m f15 rfl)
    rcases h12 with z | ⟨z1, z2⟩
    · exact k σ15 (Or.inl (by rw [sg_F_g f15 (by rfl)]; exact z)) FF
    · subst z1
      rw [xp_in hn] at e15
      have g16 : sg_g σ15 16 n = v := by rw [e15, sg_gw_e _ _ _ _ rv]
      rcases hv with y | y
      · omega
      · exact k σ15 (Or.inr ⟨by rw [sg_F_g f15 (by rfl)]; exact h0, by rw [g16]; exact y.1, by rw [g16]; exact y.2, fun a c => by rcases hk with q | q; exact absurd q a; exact absurd q c, fun x hx => by rw [e15, sg_gw_k _ _ _ _ _ _ hx]⟩) FF
theorem d_leave {es1 es0 L : List Int} {e1 e0 b p cl : Int} (h : ckW σ A) (hn : 0 ≤ n ∧ n < A.1) (hw : nW A n) (ht : ∀ x ∈ A.2.2.2.2.1 n, kIn (sg_g σ 6 x) ∧ ¬ x = n) (hS : kS σ es1 e1 b p) (h41 : sg_g σ 41 n = e0) (hb : 0 ≤ e0 ∧ e0 ≤ e1 ∧ e1 ≤ 272) (hes : ∀ i, 0 ≤ i → i < e0 → sg_g σ 40 i ∈ es0) (hE : ∀ s ∈ es0, (0 ≤ s ∧ s < 272) ∧ kIn (sg_g σ 34 s)) (hcl : sg_g σ 38 11 = cl) (hD : cDq σ A cl L) (hnL : n ∈ L) (hp : p + (cnc A n).length ≤ 1013) (k1 : ∀ σ', ¬ sg_g σ' 38 13 = 0 → Q σ') (k2 : ∀ σ', kS σ' es0 e0 b (p + (cnc A n).length) → sg_F lvL σ σ' → kU σ σ' e1 b p [n] → pC σ' p (cnc A n) → kIn (sg_g σ' 6 n) → (A.2.1 n = 1 → sg_g σ' 16 n ∈ es0 ∧ sg_g σ' 34 (sg_g σ' 16 n) = sg_g σ' 6 n) → (A.2.1 n = 13 → clF σ' A cl n) → (¬ A.2.1 n = 1 → ¬ A.2.1 n = 13 → sg_g σ' 16 n = sg_g σ 16 n) → Q σ') : V_kLeave σ n Q := by
  obtain ⟨p0, p1, p2, p3, p4, p5, p6⟩ := ckW_p h hn
  obtain ⟨s1, ⟨s2, s3, s4⟩, s5, s6, s7, s8⟩ := id hS
  have hA := h.1.2
  have n200 : 0 ≤ n ∧ n < 200 := by omega
  obtain ⟨q2, q3, q15, q1, q13⟩ := kmp_q hw.1
  have hkd : sx_at σ 3 200 n = kmp (A.2.1 n) := by rw [p1 3 200 rfl]; exact (h.2.2 n hn.1 hn.2).1.1
  unfold V_kLeave
  intro σ1 x1
  rw [p1 41 200 rfl, h41] at x1
  have f1 : sg_F [10038] σ σ1 := by rw [x1]; exact sg_F_w (sg_F_r _ _) rfl _
  have g9 : sg_g σ1 38 9 = e0 := by rw [x1, sg_gw_e _ _ _ _ ⟨by omega, by omega⟩]
  have z1 : sg_g σ1 38 13 = 0 := by rw [sg_F_g f1 (by rfl)]; exact s1
  rw [hkd]
  have rs : (A.2.1 n = 1 ∨ A.2.1 n = 13) → V_kResolve σ1 n (kmp (A.2.1 n)) (fun σ46 => sg_F [16, 13038, 14038] σ1 σ46 → (¬ sg_g σ46 38 13 = 0 ∨ (sg_g σ46 38 13 = 0 ∧ rSq σ1 σ46 A es0 cl n))) := fun hk => d_resolve n200 hk z1 g9 ⟨hb.1, by omega⟩ (fun i a c => by rw [sg_F_ga f1 rfl]; exact hes i a c) (by rw [sg_F_g f1 (by rfl)]; exact hcl) (fun σ' y _ _ => y)
  refine ⟨fun σ7 => ¬ sg_g σ7 38 13 = 0 ∨ (sg_g σ7 38 13 = 0 ∧ rSq σ1 σ7 A es0 cl n), ⟨fun z => rs (Or.inl (q1.mp z)), fun z => ⟨fun z2 => Or.inr ⟨z1, fun y => absurd (q1.mpr y) z, fun y => absurd (q13.mpr y) z2, fun _ _ => rfl, fun _ _ => rfl⟩, fun z2 => rs (Or.inr (q13.mp z2))⟩⟩, ?_⟩
  intro σ7 fr7 h7
  have f7 : sg_F [16, 10038, 13038, 14038] σ σ7 := sg_F_t (sg_F_m f1 rfl) (sg_F_m fr7 rfl)
  refine ⟨fun z => ?_, fun z => k1 σ7 z⟩
  rcases h7 with a | ⟨-, r1, r2, r3, r4⟩
  · exact absurd z a
  have T7 : sg_g σ7 6 = sg_g σ 6 := funext fun _ => sg_F_ga f7 rfl
  obtain ⟨ds, hds⟩ : ∃ ds : kD, A.2.1 n = 13 → ∃ ps r, kDef ds (A.2.2.2.1 n) = some (ps, r) ∧ dcQ σ (sg_g σ7 16 n) (ps, r) ∧ (0 ≤ r ∧ r < A.1) ∧ kIn (sg_g σ 6 r) ∧ (r ∉ L ∧ sg_g σ7 16 n < 12) := by
    by_cases c : A.2.1 n = 13
    · obtain ⟨a, ps, r, y1, y2, y3, y4⟩ := hD _ (r2 c).1 (r2 c).2
      exact ⟨[(A.2.2.2.1 n, ps, r)], fun _ => ⟨ps, r, by simp [kDef], y1, y2, y3, y4, a⟩⟩
    · exact ⟨[], fun y => absurd y c⟩
  refine c_depth (ds := ds) (e := [(A.2.2.2.1 n, sg_g σ 34 (sg_g σ7 16 n))]) (ckW_F h f7 rfl) hn hw (by rw [T7]; exact fun x hx => (ht x hx).1) (fun y => ?_) (fun y => ?_) (fun q hq rq => ?_)
  · have m := hE _ (r1 y)
    refine ⟨_, rfl, m.1, ?_, ?_⟩
    · simp only [kFind, if_true]; rw [show sg_g σ7 34 (sg_g σ7 16 n) = sg_g σ 34 (sg_g σ7 16 n) from sg_F_ga f7 rfl]
    · rw [show sg_g σ7 34 (sg_g σ7 16 n) = sg_g σ 34 (sg_g σ7 16 n) from sg_F_ga f7 rfl]; exact m.2
  · obtain ⟨ps, r, y1, y2, y3, y4, y5, y6⟩ := hds y
    exact ⟨_, ps, r, rfl, ⟨(r2 y).1, y6⟩, y1, dcQ_F y2 f7 rfl, by omega, by rw [T7]; exact y4⟩
  · rw [T7] at hq
    refine ⟨fun σ20 => ¬ sg_g σ20 38 13 = 0 ∨ (σ20 = σ7 ∧ 0 ≤ q ∧ q ≤ 3), ⟨fun _ => d_blame (by decide) (fun σ' y _ _ => Or.inl y), fun y => ⟨fun y2 => Or.inr ⟨rfl, y, y2⟩, fun _ => d_blame (by decide) (fun σ' y _ _ => Or.inl y)⟩⟩, fun σ20 f20 h20 σ23 e23 => ?_⟩
    rw [xp_in n200] at e23
    have f23 : sg_F [6] σ20 σ23 := by rw [e23]; exact sg_F_w (sg_F_r _ _) rfl _
    have q23 : sg_g σ23 28 6 = p := by rw [sg_F_g f23 (by rfl), sg_F_g f20 (by rfl), sg_F_g f7 (by rfl)]; exact s4
    refine d_conclude hw n200 q23 ⟨s8, hp⟩ (fun σ27 f27 d1 d2 d3 _ => ?_)
    rcases h20 with a | ⟨a, aq⟩
    · exact k1 σ27 (by rw [sg_F_g f27 (by rfl), sg_F_g f23 (by rfl)]; exact a)
    · subst a
      have f27' : sg_F [6, 29, 30, 32, 33, 7028] σ20 σ27 := sg_F_t (sg_F_m f23 rfl) (sg_F_m f27 rfl)
      have FF : sg_F lvL σ σ27 := sg_F_t (sg_F_m f7 rfl) (sg_F_m f27' rfl)
      have g6 : sg_g σ27 6 n = q := by rw [sg_F_ga f27 rfl, e23, sg_gw_e _ _ _ _ rq]
      have o6 : ∀ x, ¬ x = n → sg_g σ27 6 x = sg_g σ 6 x := fun x hx => by rw [sg_F_ga f27 rfl, e23, sg_gw_k _ _ _ _ _ _ hx, sg_F_ga f7 rfl]
      have g16 : ∀ x, sg_g σ27 16 x = sg_g σ20 16 x := fun x => sg_F_ga f27' rfl
      have hty : kTy A ds (sg_g σ 6) [(A.2.2.2.1 n, sg_g σ 34 (sg_g σ20 16 n))] n ((A.2.2.2.2.1 n).map (sg_g σ 6)) = some q := by
        rcases hq with ⟨-, y⟩ | ⟨y, -⟩
        · omega
        · exact y
      refine k2 σ27 ⟨by rw [sg_F_g f27' (by rfl)]; exact z, ⟨by rw [sg_F_g f27' (by rfl), sg_F_g fr7 (by rfl)]; exact g9, by rw [sg_F_g f27' (by rfl), sg_F_g f7 (by rfl)]; exact s3, d1⟩, fun i a c => by rw [sg_F_ga FF rfl]; exact hes i a c, hb.1, s7, by omega⟩ FF ⟨fun x hx => ?_, fun s _ => sg_F_ga FF rfl, fun i _ => sg_F_ga FF rfl, fun i hi => ?_⟩ d2 (by rw [g6]; exact aq) (fun y => ?_) (fun y => ?_) (fun y1 y2 => ?_)
      · have xn : ¬ x = n := by simpa using hx
        refine ⟨⟨o6 x xn, ?_⟩, sg_F_ga FF rfl, sg_F_ga FF rfl, sg_F_ga FF rfl, sg_F_ga FF rfl⟩
        rw [g16, r4 x xn, sg_F_ga f1 rfl]
      · obtain ⟨t1, t2⟩ := d3 i hi
        rw [t1, t2, sg_F_ga f23 rfl, sg_F_ga f7 rfl, sg_F_ga f23 rfl, sg_F_ga f7 rfl]
        exact ⟨rfl, rfl⟩
      · rw [g16, g6]
        refine ⟨r1 y, ?_⟩
        rw [kTy_1 y] at hty
        simp only [kFind, if_true] at hty
        rw [sg_F_ga FF rfl]
        exact Option.some.inj hty
      · obtain ⟨ps, r, y1, y2, y3, y4, y5, y6⟩ := hds y
        unfold kTy at hty
        simp only [y] at hty
        rw [if_neg (by decide), if_neg (by decide), if_neg (by decide), if_neg (by decide), if_neg (by decide), if_neg (by decide), if_neg (by decide), if_pos trivial, y1] at hty
        obtain ⟨i1, i2, i3⟩ := kIs_in hty
        simp only [decide_eq_true_eq] at i3
        obtain ⟨w1, w2, w3, w4⟩ := y2
        unfold clF
        rw [g16]
        refine ⟨r2 y, ?_, fun i x hx => ?_, ?_⟩
        · rw [sg_F_ga FF rfl, w1, ← i3, List.length_map]
        · have xk := ht x (List.mem_of_getElem? hx)
          rw [o6 x xk.2, sg_F_ga FF rfl, w2 i (sg_g σ 6 x) (by rw [← i3, List.getElem?_map, hx]; rfl)]
        · rw [g6, show sg_g σ27 22 (sg_g σ20 16 n) = r by rw [sg_F_ga FF rfl]; exact w3, o6 r (fun z => y5 (by rw [z]; exact hnL))]
          exact i1
      · rw [g16, r3 y1 y2, sg_F_ga f1 rfl]
end CK6
/-! Slots and orders of a tree: they stay, and they are not many. -/
def stb (σ σ' : sg_S) (cl b : Int) (L : List Int) : Prop := (∀ x ∈ L, sg_g σ' 16 x = sg_g σ 16 x ∧ sg_g σ' 6 x = sg_g σ 6 x) ∧ (∀ s, s < b → sg_g σ' 34 s = sg_g σ 34 s) ∧ (∀ i, sg_g σ' 22 i = sg_g σ 22 i ∧ sg_g σ' 23 i = sg_g σ 23 i ∧ sg_g σ' 27 i = sg_g σ 27 i) ∧ ∀ q, 0 ≤ q → q < cl → sg_g σ' 6 (sg_g σ 22 q) = sg_g σ 6 (sg_g σ 22 q)
theorem stb_s {σ σ' : sg_S} {cl b b2 : Int} {L L2 : List Int} (h : stb σ σ' cl b L) (hb : b2 ≤ b) (hL : ∀ x ∈ L2, x ∈ L) : stb σ σ' cl b2 L2 := ⟨fun x hx => h.1 x (hL x hx), fun s hs => h.2.1 s (by omega), h.2.2⟩
theorem esA_b {A : aT} {n b : Int} {s : Nat} {es : List Int} (h : ∀ y ∈ es, y < b) : ∀ y ∈ esA A n s es b, y < bA A n s b := by
  intro y hy
  unfold esA at hy
  unfold bA
  split at hy
  · rename_i c
    rw [if_pos c]
    rcases List.mem_cons.mp hy with e | e
    · omega
    · have := h y e; omega
  · rename_i c
    rw [if_neg c]
    split at hy
    · rename_i c2
      rw [if_pos c2]
      rcases List.mem_append.mp hy with e | e
      · exact (gsl_m.mp e).2
      · have := h y e; omega
    · rename_i c2
      rw [if_neg c2]
      exact h y hy
theorem cA_st {σ σ' : sg_S} {A : aT} {cl n b b' : Int} {s : Nat} {L : List Int} (h : stb σ σ' cl b' L) (hb : bA A n s b ≤ b') (hn : (∀ j, kNo A n j) ∨ sg_g σ' 16 n = sg_g σ 16 n) (hk : ∀ x ∈ A.2.2.2.2.1 n, x ∈ L) (hw : nW A n) (hc : cA σ A n s b) : cA σ' A n s b := by
  rcases hn with hn | hn
  · exact ⟨fun a c => absurd ⟨a, c⟩ (hn s).1, fun a c => absurd ⟨a, c⟩ (hn s).2⟩
  obtain ⟨h1, h2, h3, h4⟩ := h
  refine ⟨fun a c => ?_, fun a c => ?_⟩
  · obtain ⟨y1, y2⟩ := hc.1 a c
    unfold bA at hb
    rw [if_pos ⟨a, c⟩] at hb
    have hl := hw.2.2.1 (Or.inl a)
    have hm : (A.2.2.2.2.1 n).getD 0 0 ∈ A.2.2.2.2.1 n := by
      rw [List.getD_eq_getElem?_getD, List.getElem?_eq_getElem (by omega)]
      exact List.getElem_mem _
    rw [hn, h2 b (by omega), (h1 _ (hk _ hm)).2]
    exact ⟨y1, y2⟩
  · obtain ⟨y1, y2⟩ := hc.2 a c
    unfold bA at hb
    rw [if_neg (by omega), if_pos ⟨a, c⟩] at hb
    refine ⟨by rw [hn]; exact y1, fun i x hx => ?_⟩
    have hm : x ∈ A.2.2.2.2.1 n := by
      have := List.mem_of_getElem? hx
      unfold kGs at this
      exact List.mem_of_mem_drop (List.mem_of_mem_take this)
    have hi : i < (A.2.2.2.2.2 n).length := by
      have := gE_l hx
      unfold kGs at this
      rw [List.length_take] at this
      omega
    rw [h2 _ (by omega), (h1 _ (hk _ hm)).2]
    exact y2 i x hx
theorem scS_st {σ σ' : sg_S} {A : aT} {cl n : Int} {go go' : List Int → Int → Int → Int → Prop} {LL : List Int} (hn : (∀ j, kNo A n j) ∨ sg_g σ' 16 n = sg_g σ 16 n) (hk : ∀ x ∈ A.2.2.2.2.1 n, x ∈ LL) (hw : nW A n) (hle : ∀ es x b b', go es x b b' → b ≤ b') (hg : ∀ es x b b' L, fT A [x] L → (∀ y ∈ L, y ∈ LL) → (∀ y ∈ es, y < b) → stb σ σ' cl b' LL → go es x b b' → go' es x b b') : ∀ (R : List Int) (s : Nat) (es : List Int) (b b' : Int) (L : List Int), fT A R L → (∀ y ∈ L, y ∈ LL) → (∀ y ∈ es, y < b) → stb σ σ' cl b' LL → scS σ A go n s es b R b' → scS σ' A go' n s es b R b'
  | [], s, es, b, b', L, hf, hL, he, hs, h => by simp only [scS] at h ⊢; exact h
  | x :: R, s, es, b, b', L, hf, hL, he, hs, h => by
    obtain ⟨L1, L2, e1, w1, w2, w3⟩ := fT_inv hf
    subst e1
    simp only [scS] at h ⊢
    obtain ⟨h1, b2, h2, h3⟩ := h
    have l1 := hle _ _ _ _ h2
    have l2 := scS_le hle _ _ _ _ _ h3
    have hb := esA_b (A := A) (n := n) (s := s) he
    refine ⟨cA_st hs (by omega) hn hk hw h1, b2, hg _ _ _ _ (x :: L1) (fT_one w1 w2) (fun y hy => hL y (by rw [← List.cons_append]; exact List.mem_append_left _ hy)) hb (stb_s hs l2 (fun _ h => h)) h2, scS_st hn hk hw hle hg R _ _ _ _ L2 w3 (fun y hy => hL y (by rw [← List.cons_append]; exact List.mem_append_right _ hy)) (fun y hy => by have := hb y hy; omega) hs h3⟩
theorem scN_st {σ σ' : sg_S} {A : aT} {cl : Int} {LL : List Int} : ∀ (f : Nat) (es : List Int) (n b b' : Int) (L : List Int), fT A [n] L → (∀ y ∈ L, y ∈ LL) → (∀ y ∈ es, y < b) → stb σ σ' cl b' LL → scN σ A cl f es n b b' → scN σ' A cl f es n b b'
  | 0, _, _, _, _, _, _, _, _, _, h => h.elim
  | f + 1, es, n, b, b', L, hf, hL, he, hs, h => by
    obtain ⟨L1, L2, e1, w1, w2, w3⟩ := fT_inv hf
    have e2 := fT_nil w3
    subst e2
    rw [List.append_nil] at e1
    subst e1
    obtain ⟨L', k1, k2⟩ := fT_perm (kOrd_p A n) w2
    have hn : n ∈ LL := hL n (by simp)
    have hkids : ∀ x ∈ A.2.2.2.2.1 n, x ∈ LL := fun x hx => hL x (List.mem_cons_of_mem _ (fT_sub w2 x hx))
    obtain ⟨h1, h2, h3, h4⟩ := h
    have l2 := scS_le (fun es x b b' => scN_le f es x b b') _ _ _ _ _ h4
    obtain ⟨g1, g2, g3, g4⟩ := id hs
    refine ⟨fun c => by rw [(g1 n hn).1]; exact h1 c, fun c => ?_, fun c => ?_, scS_st (Or.inr (g1 n hn).1) hkids w1 (fun es x b b' => scN_le f es x b b') (fun es x b b' L => scN_st f es x b b' L) _ _ _ _ _ L' k1 (fun y hy => hL y (List.mem_cons_of_mem _ (k2.mem_iff.mpr hy))) he hs h4⟩
    · obtain ⟨y1, y2⟩ := h2 c
      have := he _ y1
      rw [(g1 n hn).1, (g1 n hn).2, g2 _ (by omega)]
      exact ⟨y1, y2⟩
    · obtain ⟨y1, y2, y3, y4⟩ := h3 c
      unfold clF
      rw [(g1 n hn).1, (g1 n hn).2]
      refine ⟨y1, by rw [(g3 _).2.1]; exact y2, fun i x hx => ?_, ?_⟩
      · rw [(g1 x (hkids x (List.mem_of_getElem? hx))).2, (g3 _).2.2]; exact y3 i x hx
      · rw [(g3 _).1, g4 _ y1.1 y1.2]; exact y4
/-- what is still to be bound -/
def od (A : aT) (n : Int) (s : Nat) : Nat := if A.2.1 n = 2 ∧ s = 1 then 1 else if A.2.1 n = 15 ∧ s ≤ (A.2.2.2.2.2 n).length then s else 0
theorem od_s (A : aT) (n : Int) (s : Nat) (b : Int) : (od A n (s + 1) : Int) + (bA A n s b - b) ≤ od A n s + 1 := by
  unfold od bA
  repeat' split
  all_goals omega
theorem bA_od (A : aT) (n : Int) (s : Nat) (b : Int) : bA A n s b ≤ b + od A n s := by
  unfold od bA
  split
  · omega
  · split
    · rename_i c
      rw [if_pos ⟨c.1, by omega⟩]; omega
    · omega
theorem scS_len {σ : sg_S} {A : aT} {go : List Int → Int → Int → Int → Prop} {n : Int} (hg : ∀ es x b b' L, fT A [x] L → go es x b b' → b' + 1 ≤ b + L.length) : ∀ (R : List Int) (s : Nat) (es : List Int) (b b' : Int) (L : List Int), fT A R L → scS σ A go n s es b R b' → b' + od A n (s + R.length) ≤ b + L.length + od A n s
  | [], s, es, b, b', L, hf, h => by
    simp only [scS] at h
    have := fT_nil hf
    subst this
    simp only [List.length_nil, Nat.add_zero]
    omega
  | x :: R, s, es, b, b', L, hf, h => by
    obtain ⟨L1, L2, e1, w1, w2, w3⟩ := fT_inv hf
    subst e1
    simp only [scS] at h
    obtain ⟨h1, b2, h2, h3⟩ := h
    have k1 := hg _ _ _ _ _ (fT_one w1 w2) h2
    have k2 := scS_len hg R _ _ _ _ L2 w3 h3
    have k3 := od_s A n s b
    simp only [List.length_cons, List.length_append] at k1 ⊢
    rw [show s + (R.length + 1) = s + 1 + R.length by omega]
    omega
theorem scN_len {σ : sg_S} {A : aT} {cl : Int} : ∀ (f : Nat) (es : List Int) (n b b' : Int) (L : List Int), fT A [n] L → scN σ A cl f es n b b' → b' + 1 ≤ b + L.length
  | 0, _, _, _, _, _, _, h => h.elim
  | f + 1, es, n, b, b', L, hf, h => by
    obtain ⟨L1, L2, e1, w1, w2, w3⟩ := fT_inv hf
    have e2 := fT_nil w3
    subst e2
    rw [List.append_nil] at e1
    subst e1
    obtain ⟨L', k1, k2⟩ := fT_perm (kOrd_p A n) w2
    have := scS_len (fun es x b b' L => scN_len f es x b b' L) _ _ _ _ _ L' k1 h.2.2.2
    have l := k2.length_eq
    have z : od A n 0 = 0 := by
      unfold od
      rw [if_neg (by omega)]
      split <;> rfl
    rw [z] at this
    simp only [List.length_cons]
    omega
/-- own orders from stage s on -/
def oRq (A : aT) (n : Int) : Nat → List Int → Nat
  | _, [] => (cnc A n).length
  | s, _ :: R => (ahd A n s).length + oRq A n (s + 1) R
theorem oR_app (A : aT) (n : Int) : ∀ (R R' : List Int) (s : Nat), (∀ j, s ≤ j → j < s + R.length → ahd A n j = []) → oRq A n s (R ++ R') = oRq A n (s + R.length) R'
  | [], R', s, _ => rfl
  | x :: R, R', s, h => by
    simp only [List.cons_append, oRq, List.length_cons]
    rw [h s (Nat.le_refl _) (by simp), oR_app A n R R' (s + 1) (fun j a b => h j (by omega) (by simp only [List.length_cons]; omega)), show s + 1 + R.length = s + (R.length + 1) by omega]
    simp
theorem cnc_l (A : aT) (n : Int) : (cnc A n).length ≤ 1 ∨ A.2.1 n = 15 := by
  unfold cnc
  repeat' split
  all_goals first | (left; simp; done) | (right; assumption)
theorem oR_le {A : aT} {n : Int} (hw : nW A n) : oRq A n 0 (kOrd A n) ≤ 4 := by
  obtain ⟨w1, w2, w3, w4, w5, w6, w7, w8⟩ := id hw
  have hl := kOrd_len A n
  by_cases c15 : A.2.1 n = 15
  · have w7' := w7 c15
    obtain ⟨bd, tl, hk2⟩ : ∃ bd tl, A.2.2.2.2.1 n = bd :: tl := by
      match hh : A.2.2.2.2.1 n with
      | bd :: tl => exact ⟨bd, tl, rfl⟩
      | [] => rw [hh] at w7'; simp only [List.length_nil] at w7'; omega
    have ho : kOrd A n = tl.take (A.2.2.2.2.2 n).length ++ (tl.drop (A.2.2.2.2.2 n).length ++ [bd]) := by
      unfold kOrd; rw [if_pos c15, hk2, ← List.append_assoc, List.take_append_drop]; rfl
    rw [hk2] at w7'
    simp only [List.length_cons] at w7'
    have lt : (tl.take (A.2.2.2.2.2 n).length).length = (A.2.2.2.2.2 n).length := by rw [List.length_take]; omega
    rw [ho, oR_app _ _ _ _ _ (fun j a b => by rw [lt] at b; unfold ahd; rw [if_neg (by omega), if_neg (by omega), if_neg (by omega), if_neg (by omega)]), lt, Nat.zero_add]
    have hc : (cnc A n).length = 2 := by unfold cnc; rw [if_neg (by omega), if_neg (by omega), if_neg (by omega), if_pos c15]; rfl
    have hd : (tl.drop (A.2.2.2.2.2 n).length).length ≤ 1 := by rw [List.length_drop]; omega
    have a1 : ∀ s, (ahd A n s).length ≤ 1 := fun s => by
      unfold ahd
      repeat' split
      all_goals simp
    match hh : tl.drop (A.2.2.2.2.2 n).length with
    | [] => simp only [List.nil_append, oRq, hc]; have := a1 (A.2.2.2.2.2 n).length; omega
    | [x] => simp only [List.cons_append, List.nil_append, oRq, hc]; have := a1 (A.2.2.2.2.2 n).length; have := a1 ((A.2.2.2.2.2 n).length + 1); omega
    | _ :: _ :: _ => rw [hh] at hd; simp at hd
  · have hc : (cnc A n).length ≤ 1 := by
      rcases cnc_l A n with z | z
      · exact z
      · exact absurd z c15
    have a1 : ∀ s, (ahd A n s).length ≤ 1 := fun s => by
      unfold ahd
      repeat' split
      all_goals simp
    by_cases c3 : A.2.1 n = 3 ∨ A.2.1 n = 2
    · have l3 : (kOrd A n).length ≤ 3 := by
        rcases c3 with c | c
        · have := w4 c; omega
        · have := w3 (Or.inl c); omega
      match hh : kOrd A n with
      | [] => simp only [oRq]; omega
      | [_] => simp only [oRq]; have := a1 0; omega
      | [_, _] => simp only [oRq]; have := a1 0; have := a1 (0 + 1); omega
      | [_, _, _] => simp only [oRq]; have := a1 0; have := a1 (0 + 1); have := a1 (0 + 1 + 1); omega
      | _ :: _ :: _ :: _ :: _ => rw [hh] at l3; simp at l3
    · have := oR_app A n (kOrd A n) [] 0 (fun j _ _ => (kQ_o (s := j) (fun z => c3 (Or.inr z)) (fun z => c3 (Or.inl z)) c15).1)
      rw [List.append_nil] at this
      rw [this]
      simp only [oRq]; omega
theorem cdS_len {A : aT} {go : Int → List (Int × Int)} {n : Int} (hg : ∀ x L, fT A [x] L → (go x).length ≤ 5 * L.length) : ∀ (R : List Int) (s : Nat) (L : List Int), fT A R L → (cdS A go n s R).length + (cnc A n).length ≤ oRq A n s R + 5 * L.length
  | [], s, L, hf => by simp only [cdS, oRq, List.length_nil]; omega
  | x :: R, s, L, hf => by
    obtain ⟨L1, L2, e1, w1, w2, w3⟩ := fT_inv hf
    subst e1
    have k1 := hg x _ (fT_one w1 w2)
    have k2 := cdS_len (n := n) hg R (s + 1) L2 w3
    simp only [cdS, oRq, List.length_cons, List.length_append] at k1 ⊢
    omega
theorem cd_len {A : aT} : ∀ (f : Nat) (n : Int) (L : List Int), fT A [n] L → (cd A f n).length ≤ 5 * L.length
  | 0, n, L, hf => by simp [cd]
  | f + 1, n, L, hf => by
    obtain ⟨L1, L2, e1, w1, w2, w3⟩ := fT_inv hf
    have e2 := fT_nil w3
    subst e2
    rw [List.append_nil] at e1
    subst e1
    obtain ⟨L', k1, k2⟩ := fT_perm (kOrd_p A n) w2
    have := cdS_len (n := n) (fun x L => cd_len f x L) (kOrd A n) 0 L' k1
    have l := k2.length_eq
    have o := oR_le w1
    simp only [cd, List.length_cons, List.length_append]
    omega
/-! THE WALK of the checker in big steps. -/
def kStp (σ σ15 : sg_S) (v13 : Int) (P41 : Int → sg_S → Prop) : Prop := (((sx_at σ15 44 200 (v13)) < (sx_at σ 10 200 (v13)) → V_kAhead σ15 (v13) ((sx_at σ15 44 200 (v13))) (fun σ50 => sg_F [16, 29, 30, 32, 33, 34, 39, 40, 7028, 10038, 11038, 13038, 14038] σ15 σ50 → sg_R ((sx_at σ15 44 200 (v13)) + 1) ∧ ∀ σ56, σ56 = (sx_put σ50 44 200 (v13) (((sx_at σ15 44 200 (v13)) + 1))) → ∀ σ59, σ59 = (sx_put σ56 43 200 (v13) ((sx_at σ 9 200 ((sx_at σ15 43 200 (v13)))))) → ∀ σ62, σ62 = (sx_put σ59 42 200 ((sx_at σ15 43 200 (v13))) (v13)) → V_kEnter σ62 ((sx_at σ15 43 200 (v13))) (fun σ66 => sg_F [16, 29, 30, 32, 33, 41, 43, 44, 7028] σ62 σ66 → P41 ((sx_at σ15 43 200 (v13))) σ66))) ∧ ((sx_at σ 10 200 (v13)) ≤ (sx_at σ15 44 200 (v13)) → V_kLeave σ15 (v13) (fun σ72 => sg_F [6, 16, 29, 30, 32, 33, 7028, 10038, 13038, 14038] σ15 σ72 → P41 ((sx_at σ15 42 200 (v13))) σ72)))
/-- m turns are left, and the walk stands at k -/
def kWk (σ : sg_S) (X : sg_S → Prop) : Nat → Int → sg_S → Prop
  | 0, k, σ15 => (k < 0 → X σ15) ∧ (¬ sg_g σ15 38 13 = 0 → X σ15) ∧ (0 ≤ k → sg_g σ15 38 13 = 0 → False)
  | m + 1, k, σ15 => (k < 0 → X σ15) ∧ (¬ sg_g σ15 38 13 = 0 → X σ15) ∧ (0 ≤ k → sg_g σ15 38 13 = 0 → kStp σ σ15 k (kWk σ X m))
abbrev kwL : List Nat := [6, 16, 29, 30, 31, 32, 33, 34, 39, 40, 41, 42, 43, 44, 7028, 10038, 11038, 13038, 14038]
theorem kWk_f {σ σ15 : sg_S} {X : sg_S → Prop} {m : Nat} {k : Int} (hX : X σ15) (h : ¬ sg_g σ15 38 13 = 0) : kWk σ X m k σ15 := by
  cases m with
  | zero => exact ⟨fun _ => hX, fun _ => hX, fun _ z => absurd z h⟩
  | succ m => exact ⟨fun _ => hX, fun _ => hX, fun _ z => absurd z h⟩
section WK2
variable {σ : sg_S} {A : aT} {X : sg_S → Prop}
/-- a part is entered -/
theorem w_push {σ15 : sg_S} {m : Nat} {n x e b p : Int} {s : Nat} {es R : List Int} (hX : ∀ σ', ¬ sg_g σ' 38 13 = 0 → X σ') (h : ckW σ A) (f : sg_F kwL σ σ15) (hn : 0 ≤ n ∧ n < A.1) (hw : nW A n) (hd : (kOrd A n).drop s = x :: R) (hS : kS σ15 es e b p) (h44 : sg_g σ15 44 n = s) (h43 : sg_g σ15 43 n = x) (ht : ∀ y ∈ (kOrd A n).take s, kIn (sg_g σ15 6 y)) (hxn : ¬ x = n) (he : e + (bA A n s b - b) ≤ 272) (hb : bA A n s b ≤ 272) (hp : p + (ahd A n s).length + 1 ≤ 1013) (k : ∀ σ', sg_F kwL σ σ' → kS σ' (esA A n s es b) (e + (bA A n s b - b)) (bA A n s b) (p + (ahd A n s).length + 1) → kU σ15 σ' e b p [n, x] → (sg_g σ' 41 n = sg_g σ15 41 n ∧ sg_g σ' 42 n = sg_g σ15 42 n ∧ sg_g σ' 42 x = n) → (sg_g σ' 44 n = s + 1 ∧ ∀ y, R.head? = some y → sg_g σ' 43 n = y) → pC σ' p (ahd A n s) → (sg_g σ' 29 (p + (ahd A n s).length) = 0 ∧ sg_g σ' 30 (p + (ahd A n s).length) = x) → cA σ' A n s b → (kNo A n s → sg_g σ' 16 n = sg_g σ15 16 n) → sg_g σ' 16 x = bA A n s b → (sg_g σ' 43 x = sg_g σ 7 x ∧ sg_g σ' 44 x = 0 ∧ sg_g σ' 41 x = e + (bA A n s b - b)) → (A.2.1 n = 15 → s = (A.2.2.2.2.2 n).length → ∀ y ∈ kGs A n, 0 < sg_g σ' 6 y) → kWk σ X m x σ') : kWk σ X (m + 1) n σ15 := by
  have hA := h.1
  have hsl : s < (kOrd A n).length := by
    rcases Nat.lt_or_ge s (kOrd A n).length with q | q
    · exact q
    · rw [List.drop_of_length_le q] at hd; cases hd
  have hx : (kOrd A n)[s]? = some x := by rw [← List.head?_drop, hd]; rfl
  obtain ⟨p0, p1, p2, p3, p4, p5, p6⟩ := ckW_p h hn
  have h15 := ckW_F h f rfl
  have xr := p6 x (List.mem_of_getElem? hx)
  have kl := kOrd_len A n
  have n200 : 0 ≤ n ∧ n < 200 := by omega
  have k200 : (kOrd A n).length ≤ 200 := by
    have := (h.2.2 n hn.1 hn.2).1.2.2.2.1.2.2.2
    rw [p0] at this
    rcases wit_len (f := id) (a := 0) (b := 199) this.1 (fun x hx => ⟨x, (this.2 x hx).1, by have := (this.2 x hx).2; omega, rfl⟩) with z | z
    · omega
    · rw [z]; exact Nat.zero_le _
  refine ⟨fun z => by omega, fun z => absurd hS.1 z, fun _ _ => ?_⟩
  unfold kStp
  rw [xa_in (a := 44) n200, xa_in (a := 43) n200, xa_in (a := 10) n200, h44, h43, p2, xa_in (a := 9) xr]
  refine ⟨fun _ => ?_, fun z => by omega⟩
  refine d_ahead h15 hn hw hsl hS ht he hb (by omega) (fun σ' z _ => ?_) (fun σ50 y1 y2 y3 y4 y5 y6 y7 _ => ⟨⟨by omega, by omega⟩, fun σ56 e56 σ59 e59 σ62 e62 => ?_⟩)
  · refine ⟨⟨by omega, by omega⟩, fun σ56 e56 σ59 e59 σ62 e62 => ?_⟩
    have f62 : sg_F [42, 43, 44] σ' σ62 := by rw [e62, e59, e56]; exact xF_p (xF_p (xF_p (sg_F_r _ _) rfl _ _ _) rfl _ _ _) rfl _ _ _
    have z' : ¬ sg_g σ62 38 13 = 0 := by rw [sg_F_g f62 (by rfl)]; exact z
    unfold V_kEnter
    exact ⟨fun q => absurd q z', fun _ _ => kWk_f (hX σ62 z') z'⟩
  · rw [xp_in n200] at e56 e59
    rw [xp_in xr] at e62
    have f62 : sg_F [42, 43, 44] σ50 σ62 := by rw [e62, e59, e56]; exact sg_F_w (sg_F_w (sg_F_w (sg_F_r _ _) rfl _) rfl _) rfl _
    have S62 : kS σ62 (esA A n s es b) (e + (bA A n s b - b)) (bA A n s b) (p + (ahd A n s).length) := by
      obtain ⟨s1, ⟨s2, s3, s4⟩, s5, s6⟩ := y1
      exact ⟨by rw [sg_F_g f62 (by rfl)]; exact s1, ⟨by rw [sg_F_g f62 (by rfl)]; exact s2, by rw [sg_F_g f62 (by rfl)]; exact s3, by rw [sg_F_g f62 (by rfl)]; exact s4⟩, fun i a c => by rw [sg_F_ga f62 rfl]; exact s5 i a c, s6⟩
    refine d_enter xr S62 (by omega) (fun σ66 z1 z2 z3 z4 z5 z6 _ => ?_)
    have nx : ¬ n = x := fun z => hxn z.symm
    have g44 : sg_g σ66 44 n = s + 1 := by
      rw [(z3.1 n (by simpa using nx)).2.2.2.2, e62, sg_gw_c _ _ _ _ _ _ (by decide), e59, sg_gw_c _ _ _ _ _ _ (by decide), e56, sg_gw_e _ _ _ _ ⟨by omega, by omega⟩]
    have g43 : sg_g σ66 43 n = sg_g σ 9 x := by
      rw [(z3.1 n (by simpa using nx)).2.2.2.1, e62, sg_gw_c _ _ _ _ _ _ (by decide), e59, sg_gw_e _ _ _ _ (sg_Rg _ _ _)]
    have g42 : sg_g σ66 42 x = n := by
      rw [sg_F_ga z2 rfl, e62, sg_gw_e _ _ _ _ ⟨by omega, by omega⟩]
    have g42n : sg_g σ66 42 n = sg_g σ15 42 n := by
      rw [sg_F_ga z2 rfl, e62, sg_gw_k _ _ _ _ _ _ nx, e59, sg_gw_c _ _ _ _ _ _ (by decide), e56, sg_gw_c _ _ _ _ _ _ (by decide), sg_F_ga y2 rfl]
    have g41n : sg_g σ66 41 n = sg_g σ15 41 n := by
      rw [(z3.1 n (by simpa using nx)).2.1, sg_F_ga f62 rfl, sg_F_ga y2 rfl]
    have F66 : sg_F kwL σ σ66 := sg_F_t f (sg_F_t (sg_F_t (sg_F_m y2 rfl) (sg_F_m f62 rfl)) (sg_F_m z2 rfl))
    have u62 : kU σ50 σ62 e b p [n, x] := ⟨fun y hy => by
      have yn : ¬ y = n := fun z => hy (by simp [z])
      have yx : ¬ y = x := fun z => hy (by simp [z])
      refine ⟨⟨sg_F_ga f62 rfl, sg_F_ga f62 rfl⟩, sg_F_ga f62 rfl, ?_, ?_, ?_⟩
      · rw [e62, sg_gw_k _ _ _ _ _ _ yx, e59, sg_gw_c _ _ _ _ _ _ (by decide), e56, sg_gw_c _ _ _ _ _ _ (by decide)]
      · rw [e62, sg_gw_c _ _ _ _ _ _ (by decide), e59, sg_gw_k _ _ _ _ _ _ yn, e56, sg_gw_c _ _ _ _ _ _ (by decide)]
      · rw [e62, sg_gw_c _ _ _ _ _ _ (by decide), e59, sg_gw_c _ _ _ _ _ _ (by decide), e56, sg_gw_k _ _ _ _ _ _ yn], fun s _ => sg_F_ga f62 rfl, fun i _ => sg_F_ga f62 rfl, fun i _ => ⟨sg_F_ga f62 rfl, sg_F_ga f62 rfl⟩⟩
    have ba := bA_le A n s b
    have U : kU σ15 σ66 e b p [n, x] := kU_t (kU_t (L := [n, x]) y3 u62 ⟨by omega, by omega⟩ ⟨by omega, by omega⟩ ⟨by omega, by omega⟩ (fun y hy => by simp at hy; simp [hy]) (fun y hy => hy)) z3 ⟨Int.le_refl _, by omega⟩ ⟨Int.le_refl _, by omega⟩ ⟨Int.le_refl _, by omega⟩ (fun y hy => hy) (fun y hy => by simp at hy; simp [hy])
    refine k σ66 F66 z1 U ⟨g41n, g42n, g42⟩ ⟨g44, fun y hy => ?_⟩ ?_ z4 ?_ (fun z => ?_) z5 ⟨?_, z6.2.1, z6.2.2⟩ (fun a c y hy => ?_)
    · rw [g43]
      refine p5 s x y hx ?_
      rw [← List.head?_drop, ← List.drop_drop, hd]
      exact hy
    · exact pC_e (pC_e y4 (Int.le_refl _) (fun i _ => ⟨sg_F_ga f62 rfl, sg_F_ga f62 rfl⟩)) (Int.le_refl _) z3.2.2.2
    · refine ⟨fun c1 c2 => ?_, fun c1 c2 => ?_⟩
      · obtain ⟨t1, t2⟩ := y5.1 c1 c2
        have be : bA A n s b = b + 1 := by unfold bA; rw [if_pos ⟨c1, c2⟩]
        rw [(z3.1 n (by simpa using nx)).1.2, sg_F_ga f62 rfl, z3.2.1 b (by omega), sg_F_ga f62 rfl, sg_F_ga z2 rfl, sg_F_ga f62 rfl]
        exact ⟨t1, t2⟩
      · obtain ⟨t1, t2⟩ := y5.2 c1 c2
        have be : bA A n s b = b + (A.2.2.2.2.2 n).length := by unfold bA; rw [if_neg (by omega), if_pos ⟨c1, c2⟩]
        refine ⟨by rw [(z3.1 n (by simpa using nx)).1.2, sg_F_ga f62 rfl]; exact t1, fun i y hy => ?_⟩
        have hi : i < (A.2.2.2.2.2 n).length := by
          have := gE_l hy
          unfold kGs at this
          rw [List.length_take] at this
          omega
        rw [z3.2.1 _ (by omega), sg_F_ga f62 rfl, sg_F_ga z2 rfl, sg_F_ga f62 rfl]
        exact t2 i y hy
    · rw [(z3.1 n (by simpa using nx)).1.2, sg_F_ga f62 rfl]; exact y6 z
    · rw [z6.1, sg_F_ga f62 rfl, sg_F_ga y2 rfl, sg_F_ga f rfl]
    · rw [sg_F_ga z2 rfl, sg_F_ga f62 rfl]; exact y7 a c y hy
end WK2
