/-! flat ops of the reference: the small parts. -/
/-- no fault of a lane is without its word -/
def fq (σ : sg_S) : Prop := sg_g σ 88 102 < 0 ∨ ¬ sg_g σ 88 103 = 0
/-- N lanes are listed, all below L -/
def lO (σ : sg_S) (N L : Int) : Prop := sg_g σ 88 93 = N ∧ 0 ≤ N ∧ ∀ j, 0 ≤ j → j < N → sg_g σ 143 j < L
/-- N lanes are listed, no two alike, all P -/
def lD (σ : sg_S) (N : Int) (P : Int → Prop) : Prop := sg_g σ 88 93 = N ∧ 0 ≤ N ∧ (∀ j, 0 ≤ j → j < N → P (sg_g σ 143 j)) ∧ ∀ i j, 0 ≤ i → i < j → j < N → ¬ sg_g σ 143 i = sg_g σ 143 j
/-- lengths set aside, n of them together -/
def ls (σ : sg_S) : Nat → Int
  | 0 => 0
  | i + 1 => ls σ i + sg_g σ 150 i
theorem ls_e {σ σ' : sg_S} : ∀ {n : Nat}, (∀ i : Nat, i < n → sg_g σ' 150 i = sg_g σ 150 i) → ls σ' n = ls σ n
  | 0, _ => rfl
  | n + 1, h => by
    simp only [ls]
    rw [ls_e (n := n) (fun i x => h i (by omega)), h n (by omega)]
theorem ls_b {σ : sg_S} : ∀ {n : Nat}, (∀ i : Nat, i < n → 0 ≤ sg_g σ 150 i ∧ sg_g σ 150 i ≤ 200) → 0 ≤ ls σ n ∧ ls σ n ≤ 200 * n
  | 0, _ => ⟨Int.le_refl _, Int.le_refl _⟩
  | n + 1, h => by
    have a := ls_b (n := n) (fun i x => h i (by omega))
    have b := h n (by omega)
    simp only [ls]
    omega
theorem lO_F {L : List Nat} {σ σ' : sg_S} {N M : Int} (f : sg_F L σ σ') (hL : (!sg_cv L 88 93 && sg_ca L 143) = true) (h : lO σ N M) : lO σ' N M := by
  simp only [Bool.and_eq_true, Bool.not_eq_true'] at hL
  exact ⟨by rw [sg_F_g f hL.1]; exact h.1, h.2.1, fun j x y => by rw [sg_F_ga f hL.2]; exact h.2.2 j x y⟩
theorem lD_F {L : List Nat} {σ σ' : sg_S} {N : Int} {P : Int → Prop} (f : sg_F L σ σ') (hL : (!sg_cv L 88 93 && sg_ca L 143) = true) (h : lD σ N P) : lD σ' N P := by
  simp only [Bool.and_eq_true, Bool.not_eq_true'] at hL
  exact ⟨by rw [sg_F_g f hL.1]; exact h.1, h.2.1, fun j x y => by rw [sg_F_ga f hL.2]; exact h.2.2.1 j x y, fun i j x y z => by rw [sg_F_ga f hL.2, sg_F_ga f hL.2]; exact h.2.2.2 i j x y z⟩
theorem lD_w {σ : sg_S} {N : Int} {P P' : Int → Prop} (h : lD σ N P) (w : ∀ x, P x → P' x) : lD σ N P' := ⟨h.1, h.2.1, fun j x y => w _ (h.2.2.1 j x y), h.2.2.2⟩
theorem lD_O {σ : sg_S} {N L : Int} {P : Int → Prop} (h : lD σ N P) (w : ∀ x, P x → x < L) : lO σ N L := ⟨h.1, h.2.1, fun j x y => w _ (h.2.2.1 j x y)⟩
theorem lO_0 {σ σ' : sg_S} {L : Int} (e : σ' = sg_w σ 88 93 0) : lO σ' 0 L := ⟨by rw [e, sg_gw_e _ _ _ _ ⟨by decide, by decide⟩], Int.le_refl _, fun j x y => by omega⟩
theorem lD_0 {σ σ' : sg_S} {P : Int → Prop} (e : σ' = sg_w σ 88 93 0) : lD σ' 0 P := ⟨by rw [e, sg_gw_e _ _ _ _ ⟨by decide, by decide⟩], Int.le_refl _, fun j x y => by omega, fun i j x y z => by omega⟩
theorem lnO_of {σ : sg_S} {N L : Int} {R : List (Int × Int)} (h : lO σ N L) (hN : N ≤ 13000) (hL : L = (R.getD 0 (0, 0)).2) : lnO σ R := ⟨by rw [h.1]; exact ⟨h.2.1, hN⟩, fun j x y => by rw [h.1] at y; rw [← hL]; exact h.2.2 j x y⟩
section FF
variable {σ : sg_S} {M : Int}
theorem m_put {σb : sg_S} {f s t c : Int} {b : Prop} {Q : sg_S → Prop} (h : gH σb f b s t σ) (hf : 0 ≤ f) (h6 : f + s < 60000) (hc : sg_R c) (hb : b → 0 ≤ c ∧ c ≤ 200) (k : ∀ σ', gH σb f b (s + 1) (t + c) σ' → Q σ') : V_put σ c Q := by
  have h1 := h.1
  unfold V_put
  refine ⟨⟨by omega, by omega⟩, fun σ2 e2 => ⟨⟨by omega, by omega⟩, fun σ6 e6 => k σ6 (gH_p h hf (by omega) hc hb e2 e6)⟩⟩
theorem m_list {N L x : Int} {Q : sg_S → Prop} (h : lO σ N L) (hN : N < 13000) (hx : sg_R x) (hl : x < L) (k : ∀ σ', lO σ' (N + 1) L → Q σ') : V_list σ x Q := by
  obtain ⟨h1, h2, h3⟩ := h
  unfold V_list
  refine ⟨⟨by omega, by omega⟩, fun σ2 e2 => ⟨⟨by omega, by omega⟩, fun σ6 e6 => k σ6 ⟨?_, by omega, fun j x y => ?_⟩⟩⟩
  · rw [e6, sg_gw_e _ _ _ _ ⟨by omega, by omega⟩]; omega
  · rw [e6, sg_gw_c _ _ _ _ _ _ (by decide), e2]
    by_cases e : j = N
    · rw [e, h1, sg_gw_e _ _ _ _ hx]; exact hl
    · rw [sg_gw_k _ _ _ _ _ _ (by omega)]; exact h3 j x (by omega)
theorem m_listD {N x : Int} {P : Int → Prop} {Q : sg_S → Prop} (h : lD σ N P) (hN : N < 13000) (hx : sg_R x) (hl : ¬ P x) (k : ∀ σ', lD σ' (N + 1) (fun y => P y ∨ y = x) → Q σ') : V_list σ x Q := by
  obtain ⟨h1, h2, h3, h4⟩ := h
  unfold V_list
  refine ⟨⟨by omega, by omega⟩, fun σ2 e2 => ⟨⟨by omega, by omega⟩, fun σ6 e6 => ?_⟩⟩
  have ce : sg_g σ6 143 N = x := by rw [e6, sg_gw_c _ _ _ _ _ _ (by decide), e2, h1, sg_gw_e _ _ _ _ hx]
  have co : ∀ j, ¬ j = N → sg_g σ6 143 j = sg_g σ 143 j := fun j hj => by rw [e6, sg_gw_c _ _ _ _ _ _ (by decide), e2, h1, sg_gw_k _ _ _ _ _ _ hj]
  refine k σ6 ⟨?_, by omega, fun j x y => ?_, fun i j x y z => ?_⟩
  · rw [e6, sg_gw_e _ _ _ _ ⟨by omega, by omega⟩]; omega
  · by_cases e : j = N
    · rw [e, ce]; exact Or.inr rfl
    · rw [co j e]; exact Or.inl (h3 j x (by omega))
  · rw [co i (by omega)]
    by_cases e : j = N
    · rw [e, ce]
      intro w
      exact hl (by rw [← w]; exact h3 i x (by omega))
    · rw [co j e]; exact h4 i j x y (by omega)
theorem m_lacks {i f : Int} {Q : sg_S → Prop} (hi : 0 ≤ i ∧ sg_R i) (hf : ¬ f = 0 ∧ sg_R f) (h : fq σ) (k : ∀ σ', 0 ≤ sg_g σ' 88 102 → fq σ' → Q σ') : V_lacks σ i f Q := by
  unfold V_lacks
  refine ⟨fun z => k σ z h, fun z σ2 e2 σ5 e5 => ?_⟩
  refine k σ5 ?_ (Or.inr ?_)
  · rw [e5, sg_gw_k _ _ _ _ _ _ (by decide), e2, sg_gw_e _ _ _ _ hi.2]; exact hi.1
  · rw [e5, sg_gw_e _ _ _ _ hf.2]; exact hf.1
/-- counters of a flat run -/
def fC (σ : sg_S) : Prop := (0 ≤ sg_g σ 88 84 ∧ sg_g σ 88 84 ≤ 2000) ∧ (0 ≤ sg_g σ 88 85 ∧ sg_g σ 88 85 ≤ 6000) ∧ (0 ≤ sg_g σ 88 91 ∧ sg_g σ 88 91 ≤ 2 * sg_g σ 88 85) ∧ 0 ≤ sg_g σ 88 87 ∧ sg_g σ 88 87 ≤ 20000
theorem m_stepped {a : Int} {Q : Int → sg_S → Prop} (h : (0 ≤ sg_g σ 88 84 ∧ sg_g σ 88 84 ≤ 2000) ∧ (0 ≤ sg_g σ 88 85 ∧ sg_g σ 88 85 ≤ 6000)) (ha : 0 ≤ a ∧ a ≤ 1000000000) (k0 : ∀ σ', ¬ sg_g σ' 88 73 = 0 → Q 0 σ') (k1 : ∀ σ', sg_F [85088, 86088] σ σ' → sg_g σ' 88 84 = sg_g σ 88 84 + 1 → sg_g σ' 88 84 ≤ 2000 → sg_g σ' 88 85 = sg_g σ 88 85 + a → sg_g σ' 88 85 ≤ 6000 → Q 1 σ') : V_stepped σ a Q := by
  obtain ⟨h1, h2⟩ := h
  unfold V_stepped
  refine ⟨fun z σ2 e2 => k0 σ2 ?_, fun z => ⟨⟨by omega, by omega⟩, fun w => ⟨⟨by omega, by omega⟩, fun σ8 e8 => ⟨⟨by omega, by omega⟩, fun σ12 e12 => ?_⟩⟩, fun w σ2 e2 => k0 σ2 ?_⟩⟩
  · rw [e2, sg_gw_e _ _ _ _ ⟨by decide, by decide⟩]; decide
  · have q1 : sg_g σ12 88 84 = sg_g σ 88 84 + 1 := by rw [e12, sg_gw_k _ _ _ _ _ _ (by decide), e8, sg_gw_e _ _ _ _ ⟨by omega, by omega⟩]
    have q2 : sg_g σ12 88 85 = sg_g σ 88 85 + a := by rw [e12, sg_gw_e _ _ _ _ ⟨by omega, by omega⟩]
    exact k1 σ12 (by rw [e12, e8]; exact sg_F_w (sg_F_w (sg_F_r _ _) rfl _) rfl _) q1 (by omega) q2 (by omega)
  · rw [e2, sg_gw_e _ _ _ _ ⟨by decide, by decide⟩]; decide
theorem m_numbers {f : Int} {Q : Int → sg_S → Prop} (h : 0 ≤ sg_g σ 88 87 ∧ sg_g σ 88 87 < 30000) (hf : 0 ≤ f ∧ f ≤ sg_g σ 88 91 ∧ sg_g σ 88 91 ≤ 60000) (hM : sg_g σ 88 91 - f ≤ M) (k : ∀ q σ', q = sg_g σ 88 87 → fEx σ σ' → fV σ' M q [(f, sg_g σ 88 91 - f)] → sg_g σ' 88 87 = sg_g σ 88 87 + 1 → sg_F [139, 140, 141, 88088] σ σ' → Q q σ') : V_numbers σ f Q := by
  unfold V_numbers
  refine m_newF h ⟨by omega, by omega⟩ (fun σ4 f4 b1 b2 b3 _ _ => ⟨⟨by omega, by omega⟩, ⟨by omega, by omega⟩, fun σ9 e9 => ⟨⟨by omega, by omega⟩, fun σ13 e13 => ?_⟩⟩)
  obtain ⟨w, hw⟩ : ∃ w, w = sg_g σ 88 87 := ⟨_, rfl⟩
  rw [← hw] at e9 e13 b1 b2 b3 h ⊢
  have f13 : sg_F [140, 141] σ4 σ13 := by rw [e13, e9]; exact sg_F_w (sg_F_w (sg_F_r _ _) rfl _) rfl _
  have F : sg_F [139, 140, 141, 88088] σ σ13 := sg_F_t (sg_F_m f4 rfl) (sg_F_m f13 rfl)
  have g87 : sg_g σ13 88 87 = w + 1 := by rw [sg_F_g f13 (by rfl)]; exact b1
  have g91 : sg_g σ13 88 91 = sg_g σ 88 91 := sg_F_g F (by rfl)
  have ex : fEx σ σ13 := ⟨⟨by omega, by omega⟩, fun u x y => by rw [sg_F_ga f13 rfl]; exact b3 u (by omega), fun y _ z => by
    rw [e13, sg_gw_c _ _ _ _ _ _ (by decide), e9, sg_gw_k _ _ _ _ _ _ (by omega), sg_gw_k _ _ _ _ _ _ (by omega), sg_gw_c _ _ _ _ _ _ (by decide)]
    exact ⟨sg_F_ga f4 rfl, sg_F_ga f4 rfl⟩, fun x _ _ => sg_F_ga F rfl⟩
  refine k w σ13 hw ex ⟨⟨by omega, by omega⟩, ⟨by simp, by simp⟩, by rw [sg_F_ga f13 rfl, b2]; rfl, fun l r hr => ?_, ⟨⟨hf.1, by simp only; omega, hM, by simp only; omega⟩, trivial, trivial⟩⟩ (by omega) F
  cases l with
  | zero =>
    cases hr
    rw [show 4 * w + ((0 : Nat) : Int) = 4 * w by omega, e13, sg_gw_c _ _ _ _ _ _ (by decide), e9, sg_gw_e _ _ _ _ ⟨by omega, by omega⟩, sg_gw_e _ _ _ _ ⟨by omega, by omega⟩]
    exact ⟨rfl, rfl⟩
  | succ l => cases hr
theorem m_putLens {L : Int} {Q : Int → sg_S → Prop} (h : 0 ≤ sg_g σ 88 91 ∧ sg_g σ 88 91 + L ≤ 60000) (hL : 0 ≤ L ∧ L ≤ 13000) (hl : ∀ i : Nat, (i : Int) < L → 0 ≤ sg_g σ 150 i ∧ sg_g σ 150 i ≤ 200) (k : ∀ σ', gH σ (sg_g σ 88 91) True L (ls σ L.toNat) σ' → sg_F [142, 92088] σ σ' → Q (sg_g σ 88 91) σ') : V_putLens σ L Q := by
  unfold V_putLens
  refine ⟨fun n x σ2 => n = (L - x).toNat ∧ (0 ≤ x ∧ x ≤ L) ∧ gH σ (sg_g σ 88 91) True x (ls σ x.toNat) σ2, fun σ2 => gH σ (sg_g σ 88 91) True L (ls σ L.toNat) σ2, ⟨_, rfl, ⟨by omega, by omega⟩, gH_0 _ _⟩, ?_, fun σ2 f2 h2 => k σ2 h2 f2⟩
  rintro n x σ2 rx f2 ⟨en, hx, hG⟩
  refine ⟨fun z => by rw [show L = x by omega]; exact hG, fun z => ⟨⟨by omega, by omega⟩, ?_⟩⟩
  refine m_put hG h.1 (by omega) (sg_Rg _ _ _) (fun _ => ?_) (fun σ3 h3 _ => ⟨⟨by omega, by omega⟩, _, by omega, rfl, ⟨by omega, by omega⟩, ?_⟩)
  · have := hl x.toNat (by omega)
    rwa [show ((x.toNat : Nat) : Int) = x by omega] at this
  · rw [show (x + 1).toNat = x.toNat + 1 by omega]
    simp only [ls]
    rw [show ((x.toNat : Nat) : Int) = x by omega]
    exact h3
/-- rows together -/
def eX : List (Int × Int) → Int
  | [] => 0
  | r :: R => r.2 + eX R
theorem eX_d : ∀ {R : List (Int × Int)} {l : Nat} {r : Int × Int}, R[l]? = some r → eX (R.drop l) = r.2 + eX (R.drop (l + 1))
  | [], l, r, h => by cases h
  | x :: R, 0, r, h => by cases h; rfl
  | x :: R, l + 1, r, h => by
    rw [List.getElem?_cons_succ] at h
    simp only [List.drop_succ_cons]
    exact eX_d h
theorem eX_b : ∀ {R : List (Int × Int)}, fCh σ M R → 0 ≤ eX R ∧ eX R ≤ M * R.length
  | [], _ => ⟨Int.le_refl _, by simp [eX]⟩
  | x :: R, ⟨⟨a1, a2, a3, a4⟩, b, c⟩ => by
    have := eX_b c
    simp only [eX, List.length_cons]
    rw [show ((R.length + 1 : Nat) : Int) = (R.length : Int) + 1 by omega, Int.mul_add, Int.mul_one]
    omega
theorem fCh_drop : ∀ {R : List (Int × Int)} (l : Nat), fCh σ M R → fCh σ M (R.drop l)
  | [], l, h => by simp only [List.drop_nil]; exact h
  | x :: R, 0, h => h
  | x :: R, l + 1, h => by simp only [List.drop_succ_cons]; exact fCh_drop l h.2.2
theorem m_extent {v : Int} {R : List (Int × Int)} {Q : Int → sg_S → Prop} (hv : fV σ M v R) (hM : 0 ≤ M ∧ M ≤ 12000) (hfl : sg_g σ 88 87 ≤ 30000) (k : Q (eX R) σ) : V_extentOf σ v Q := by
  obtain ⟨a1, a2, a3, a4, a5⟩ := hv
  unfold V_extentOf
  have tot := eX_b a5
  have b4 : M * (R.length : Int) ≤ 12000 * 4 := Int.mul_le_mul hM.2 (by omega) (by omega) (by decide)
  refine ⟨fun n s l => n = (R.length - l).toNat ∧ (0 ≤ l ∧ l ≤ R.length) ∧ s + eX (R.drop l.toNat) = eX R ∧ 0 ≤ s, fun s => s = eX R, ⟨_, rfl, ⟨by omega, by omega⟩, by rw [show (0 : Int).toNat = 0 by rfl, List.drop_zero]; omega, by omega⟩, ?_, fun s rs h => by rw [h]; exact k⟩
  rintro n s l rs rl ⟨en, hl, es, s0⟩
  refine ⟨⟨by omega, by omega⟩, fun z => ?_, fun z => ?_⟩
  · rw [List.drop_of_length_le (by omega)] at es
    simp only [eX] at es
    omega
  · obtain ⟨r, hr⟩ : ∃ q, R[l.toNat]? = some q := ⟨_, List.getElem?_eq_getElem (by omega)⟩
    have c2 := (a4 _ r hr).2
    rw [show 4 * v + ((l.toNat : Nat) : Int) = 4 * v + l by omega] at c2
    rw [c2]
    rw [eX_d hr] at es
    have d := eX_b (fCh_drop (l.toNat + 1) a5)
    have e := (fCh_at a5 hr).1.2.1
    refine ⟨⟨by omega, by omega⟩, ⟨by omega, by omega⟩, ⟨by omega, by omega⟩, ⟨by omega, by omega⟩, ⟨by omega, by omega⟩, _, by omega, rfl, ⟨by omega, by omega⟩, ?_, by omega⟩
    rw [show (l + 1).toNat = l.toNat + 1 by omega]
    omega
theorem pR {v i : Int} {r : Int × Int} {R : List (Int × Int)} (h : fV σ M v (r :: R)) (hc : sg_g σ 88 91 ≤ 60000 ∧ sg_g σ 88 87 ≤ 30000) (hi : 0 ≤ i ∧ i < r.2) : p_rowAt σ v i ∧ v_rowAt σ v i = sg_g σ 142 (r.1 + i) := by
  have h0 := fV_0 h
  obtain ⟨a1, a2, a3, a4, ⟨b1, b2, b3, b4⟩, a6⟩ := h
  unfold p_rowAt v_rowAt
  rw [h0.1]
  exact ⟨⟨⟨by omega, by omega⟩, ⟨by omega, by omega⟩, ⟨by omega, by omega⟩, ⟨by omega, by omega⟩, trivial⟩, rfl⟩
end FF
