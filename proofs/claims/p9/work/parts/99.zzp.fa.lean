/-! FLAT VALUES of the reference: rows of cells, each but the last holding lengths. -/
/-- i cells from p on together -/
def cs (σ : sg_S) (p : Int) : Nat → Int
  | 0 => 0
  | i + 1 => cs σ p i + sg_g σ 142 (p + i)
def fRw (σ : sg_S) (M : Int) (r : Int × Int) : Prop := 0 ≤ r.1 ∧ 0 ≤ r.2 ∧ r.2 ≤ M ∧ r.1 + r.2 ≤ sg_g σ 88 91
def fLn (σ : sg_S) (r : Int × Int) : Prop := ∀ i, 0 ≤ i → i < r.2 → 0 ≤ sg_g σ 142 (r.1 + i) ∧ sg_g σ 142 (r.1 + i) ≤ 200
/-- rows one below the other -/
def fCh (σ : sg_S) (M : Int) : List (Int × Int) → Prop
  | [] => True
  | r :: R => fRw σ M r ∧ (match R with
    | [] => True
    | r' :: _ => fLn σ r ∧ r'.2 = cs σ r.1 r.2.toNat) ∧ fCh σ M R
/-- flat value v has rows R -/
def fV (σ : sg_S) (M : Int) (v : Int) (R : List (Int × Int)) : Prop := (0 ≤ v ∧ v < sg_g σ 88 87) ∧ (1 ≤ R.length ∧ R.length ≤ 4) ∧ sg_g σ 139 v = R.length - 1 ∧ (∀ (l : Nat) (r : Int × Int), R[l]? = some r → sg_g σ 140 (4 * v + l) = r.1 ∧ sg_g σ 141 (4 * v + l) = r.2) ∧ fCh σ M R
/-- flats and cells only grow -/
def fEx (σ σ' : sg_S) : Prop := (sg_g σ 88 87 ≤ sg_g σ' 88 87 ∧ sg_g σ 88 91 ≤ sg_g σ' 88 91) ∧ (∀ v, 0 ≤ v → v < sg_g σ 88 87 → sg_g σ' 139 v = sg_g σ 139 v) ∧ (∀ x, 0 ≤ x → x < 4 * sg_g σ 88 87 → sg_g σ' 140 x = sg_g σ 140 x ∧ sg_g σ' 141 x = sg_g σ 141 x) ∧ ∀ x, 0 ≤ x → x < sg_g σ 88 91 → sg_g σ' 142 x = sg_g σ 142 x
theorem fEx_r (σ : sg_S) : fEx σ σ := ⟨⟨Int.le_refl _, Int.le_refl _⟩, fun _ _ _ => rfl, fun _ _ _ => ⟨rfl, rfl⟩, fun _ _ _ => rfl⟩
theorem fEx_t {σ σ1 σ2 : sg_S} (h : fEx σ σ1) (g : fEx σ1 σ2) : fEx σ σ2 := by
  obtain ⟨⟨a1, a2⟩, a3, a4, a5⟩ := h
  obtain ⟨⟨b1, b2⟩, b3, b4, b5⟩ := g
  refine ⟨⟨by omega, by omega⟩, fun v x y => (b3 v x (by omega)).trans (a3 v x y), fun x y z => ?_, fun x y z => (b5 x y (by omega)).trans (a5 x y z)⟩
  obtain ⟨c1, c2⟩ := a4 x y z
  obtain ⟨d1, d2⟩ := b4 x y (by omega)
  exact ⟨d1.trans c1, d2.trans c2⟩
theorem fEx_F {L : List Nat} {σ σ' : sg_S} (f : sg_F L σ σ') (hL : (!sg_cv L 88 87 && !sg_cv L 88 91 && sg_ca L 139 && sg_ca L 140 && sg_ca L 141 && sg_ca L 142) = true) : fEx σ σ' := by
  simp only [Bool.and_eq_true, Bool.not_eq_true'] at hL
  obtain ⟨⟨⟨⟨⟨l1, l2⟩, l3⟩, l4⟩, l5⟩, l6⟩ := hL
  exact ⟨⟨by rw [sg_F_g f l1]; exact Int.le_refl _, by rw [sg_F_g f l2]; exact Int.le_refl _⟩, fun v _ _ => sg_F_ga f l3, fun x _ _ => ⟨sg_F_ga f l4, sg_F_ga f l5⟩, fun x _ _ => sg_F_ga f l6⟩
theorem cs_e {σ σ' : sg_S} {p : Int} : ∀ {i : Nat}, (∀ j : Nat, j < i → sg_g σ' 142 (p + j) = sg_g σ 142 (p + j)) → cs σ' p i = cs σ p i
  | 0, _ => rfl
  | i + 1, h => by
    simp only [cs]
    rw [cs_e (i := i) (fun j x => h j (by omega)), h i (by omega)]
theorem cs_up {σ σ' : sg_S} (h : fEx σ σ') {p : Int} {i : Nat} (hp : 0 ≤ p) (hi : p + i ≤ sg_g σ 88 91) : cs σ' p i = cs σ p i := cs_e (fun j x => h.2.2.2 _ (by omega) (by omega))
theorem cs_m {σ : sg_S} {r : Int × Int} (h : fLn σ r) : ∀ {i j : Nat}, i ≤ j → (j : Int) ≤ r.2 → cs σ r.1 i ≤ cs σ r.1 j ∧ cs σ r.1 j - cs σ r.1 i ≤ 200 * ((j : Int) - i)
  | i, 0, a, _ => by
    have : i = 0 := by omega
    subst this
    exact ⟨Int.le_refl _, by omega⟩
  | i, j + 1, a, b => by
    by_cases e : i = j + 1
    · subst e; exact ⟨Int.le_refl _, by omega⟩
    · have c := cs_m h (i := i) (j := j) (by omega) (by omega)
      have d := h j (by omega) (by omega)
      simp only [cs]
      omega
theorem cs_0 {σ : sg_S} {r : Int × Int} (h : fLn σ r) {j : Nat} (b : (j : Int) ≤ r.2) : 0 ≤ cs σ r.1 j := by
  have := (cs_m h (i := 0) (j := j) (Nat.zero_le _) b).1
  simpa [cs] using this
theorem fCh_up {σ σ' : sg_S} {M : Int} (h : fEx σ σ') : ∀ {R : List (Int × Int)}, fCh σ M R → fCh σ' M R
  | [], _ => trivial
  | r :: R, ⟨a1, a2, a3⟩ => by
    have e := h.1.2
    obtain ⟨b1, b2, b3, b4⟩ := a1
    refine ⟨⟨b1, b2, b3, by omega⟩, ?_, fCh_up h a3⟩
    cases R with
    | nil => trivial
    | cons r' R' =>
      obtain ⟨c1, c2⟩ := a2
      refine ⟨fun i x y => ?_, ?_⟩
      · rw [h.2.2.2 _ (by omega) (by omega)]; exact c1 i x y
      · rw [cs_up h b1 (by omega)]; exact c2
theorem fCh_M {σ : sg_S} {M M' : Int} (h : M ≤ M') : ∀ {R : List (Int × Int)}, fCh σ M R → fCh σ M' R
  | [], _ => trivial
  | r :: R, ⟨⟨b1, b2, b3, b4⟩, a2, a3⟩ => ⟨⟨b1, b2, by omega, b4⟩, a2, fCh_M h a3⟩
theorem fV_up {σ σ' : sg_S} {M v : Int} {R : List (Int × Int)} (h : fEx σ σ') (a : fV σ M v R) : fV σ' M v R := by
  obtain ⟨a1, a2, a3, a4, a5⟩ := a
  have e := h.1.1
  refine ⟨⟨a1.1, by omega⟩, a2, by rw [h.2.1 v a1.1 a1.2]; exact a3, fun l r hr => ?_, fCh_up h a5⟩
  have hl : l < R.length := by
    rcases Nat.lt_or_ge l R.length with q | q
    · exact q
    · rw [List.getElem?_eq_none q] at hr; cases hr
  obtain ⟨b1, b2⟩ := h.2.2.1 (4 * v + l) (by omega) (by omega)
  rw [b1, b2]
  exact a4 l r hr
theorem fV_M {σ : sg_S} {M M' v : Int} {R : List (Int × Int)} (h : M ≤ M') (a : fV σ M v R) : fV σ M' v R := ⟨a.1, a.2.1, a.2.2.1, a.2.2.2.1, fCh_M h a.2.2.2.2⟩
theorem fV_0 {σ : sg_S} {M v : Int} {r : Int × Int} {R : List (Int × Int)} (a : fV σ M v (r :: R)) : sg_g σ 140 (4 * v) = r.1 ∧ sg_g σ 141 (4 * v) = r.2 := by
  have := a.2.2.2.1 0 r rfl
  rwa [show 4 * v + ((0 : Nat) : Int) = 4 * v by omega] at this
theorem fV_1 {σ : sg_S} {M v : Int} {r r' : Int × Int} {R : List (Int × Int)} (a : fV σ M v (r :: r' :: R)) : sg_g σ 140 (4 * v + 1) = r'.1 ∧ sg_g σ 141 (4 * v + 1) = r'.2 := a.2.2.2.1 1 r' rfl
section FLA
variable {σ : sg_S} {M : Int}
theorem m_newF {d : Int} {Q : Int → sg_S → Prop} (h : 0 ≤ sg_g σ 88 87 ∧ sg_g σ 88 87 < 30000) (hd : sg_R d) (k : ∀ σ', sg_F [139, 88088] σ σ' → sg_g σ' 88 87 = sg_g σ 88 87 + 1 → sg_g σ' 139 (sg_g σ 88 87) = d → (∀ v, ¬ v = sg_g σ 88 87 → sg_g σ' 139 v = sg_g σ 139 v) → Q (sg_g σ 88 87) σ') : V_newFlat σ d Q := by
  unfold V_newFlat
  refine ⟨h, fun σ2 e2 => ⟨⟨by omega, by omega⟩, fun σ6 e6 => ⟨⟨by omega, by omega⟩, ?_⟩⟩⟩
  rw [show sg_g σ 88 87 + 1 - 1 = sg_g σ 88 87 by omega]
  refine k σ6 ?_ ?_ ?_ (fun v hv => ?_)
  · rw [e6, e2]; exact sg_F_w (sg_F_w (sg_F_r _ _) rfl _) rfl _
  · rw [e6, sg_gw_e _ _ _ _ ⟨by omega, by omega⟩]
  · rw [e6, sg_gw_c _ _ _ _ _ _ (by decide), e2, sg_gw_e _ _ _ _ hd]
  · rw [e6, sg_gw_c _ _ _ _ _ _ (by decide), e2, sg_gw_k _ _ _ _ _ _ hv]
theorem m_inner {v : Int} {r : Int × Int} {R : List (Int × Int)} {Q : Int → sg_S → Prop} (h : 0 ≤ sg_g σ 88 87 ∧ sg_g σ 88 87 < 30000) (hv : fV σ M v (r :: R)) (hR : 1 ≤ R.length) (k : ∀ q σ', q = sg_g σ 88 87 → fEx σ σ' → fV σ' M q R → sg_g σ' 88 87 = sg_g σ 88 87 + 1 → sg_F [139, 140, 141, 88088] σ σ' → Q q σ') : V_inner σ v Q := by
  have hv' := hv
  obtain ⟨a1, a2, a3, a4, a5⟩ := hv
  simp only [List.length_cons] at a2 a3
  unfold V_inner
  refine ⟨⟨a1.1, by omega⟩, ⟨by omega, by omega⟩, m_newF h ⟨by omega, by omega⟩ (fun σ4 f4 b1 b2 b3 _ _ => ?_)⟩
  have dq : sg_g σ4 139 (sg_g σ 88 87) = (R.length : Int) - 1 := by omega
  generalize hw : sg_g σ 88 87 = w at *
  refine ⟨fun n x σ10 => n = (R.length - x).toNat ∧ (0 ≤ x ∧ x ≤ R.length) ∧ (∀ (l : Nat) (r' : Int × Int), (l : Int) < x → R[l]? = some r' → sg_g σ10 140 (4 * w + l) = r'.1 ∧ sg_g σ10 141 (4 * w + l) = r'.2) ∧ ∀ y, y < 4 * w → sg_g σ10 140 y = sg_g σ 140 y ∧ sg_g σ10 141 y = sg_g σ 141 y, fun σ10 => (∀ (l : Nat) (r' : Int × Int), R[l]? = some r' → sg_g σ10 140 (4 * w + l) = r'.1 ∧ sg_g σ10 141 (4 * w + l) = r'.2) ∧ ∀ y, y < 4 * w → sg_g σ10 140 y = sg_g σ 140 y ∧ sg_g σ10 141 y = sg_g σ 141 y, ⟨_, rfl, ⟨by omega, by omega⟩, fun l r' hl => by omega, fun y _ => ⟨sg_F_ga f4 rfl, sg_F_ga f4 rfl⟩⟩, ?_, ?_⟩
  · rintro n x σ10 rx f10 ⟨en, hx, i1, i2⟩
    refine ⟨⟨by omega, by omega⟩, fun z => ⟨fun l r' hr => ?_, i2⟩, fun z => ?_⟩
    · have hl : l < R.length := by
        rcases Nat.lt_or_ge l R.length with q | q
        · exact q
        · rw [List.getElem?_eq_none q] at hr; cases hr
      exact i1 l r' (by omega) hr
    · have hx' : x.toNat < R.length := by omega
      obtain ⟨rr, hrr⟩ : ∃ rr, R[x.toNat]? = some rr := ⟨_, List.getElem?_eq_getElem hx'⟩
      obtain ⟨c1, c2⟩ := a4 (x.toNat + 1) rr (by rw [List.getElem?_cons_succ]; exact hrr)
      obtain ⟨d1, d2⟩ := i2 (4 * v + x + 1) (by omega)
      rw [show 4 * v + ((x.toNat + 1 : Nat) : Int) = 4 * v + x + 1 by omega] at c1 c2
      refine ⟨⟨by omega, by omega⟩, ⟨by omega, by omega⟩, ⟨by omega, by omega⟩, ⟨by omega, by omega⟩, ⟨by omega, by omega⟩, ⟨by omega, by omega⟩, ⟨by omega, by omega⟩, fun σ33 e33 σ36 e36 => ⟨⟨by omega, by omega⟩, _, by omega, rfl, ⟨by omega, by omega⟩, fun l r' hl hr => ?_, fun y hy => ?_⟩⟩
      · by_cases e : (l : Int) = x
        · have : r' = rr := by
            rw [show l = x.toNat by omega, hrr] at hr; cases hr; rfl
          subst this
          rw [e, e36, sg_gw_c _ _ _ _ _ _ (by decide), e33, sg_gw_e _ _ _ _ (sg_Rg _ _ _), sg_gw_e _ _ _ _ (sg_Rg _ _ _), d1, d2]
          exact ⟨c1, c2⟩
        · rw [e36, sg_gw_c _ _ _ _ _ _ (by decide), e33, sg_gw_k _ _ _ _ _ _ (by omega), sg_gw_k _ _ _ _ _ _ (by omega), sg_gw_c _ _ _ _ _ _ (by decide)]
          exact i1 l r' (by omega) hr
      · rw [e36, sg_gw_c _ _ _ _ _ _ (by decide), e33, sg_gw_k _ _ _ _ _ _ (by omega), sg_gw_k _ _ _ _ _ _ (by omega), sg_gw_c _ _ _ _ _ _ (by decide)]
        exact i2 y hy
  · rintro σ10 f10 ⟨i1, i2⟩
    have F10 : sg_F [139, 140, 141, 88088] σ σ10 := sg_F_t (sg_F_m f4 rfl) (sg_F_m f10 rfl)
    have g87 : sg_g σ10 88 87 = w + 1 := by rw [sg_F_g f10 (by rfl)]; exact b1
    have g91 : sg_g σ10 88 91 = sg_g σ 88 91 := sg_F_g F10 (by rfl)
    have ex : fEx σ σ10 := ⟨⟨by omega, by omega⟩, fun u x y => by rw [sg_F_ga f10 rfl]; exact b3 u (by omega), fun y _ z => i2 y (by omega), fun x _ _ => sg_F_ga F10 rfl⟩
    refine k w σ10 rfl ex ⟨⟨by omega, by omega⟩, ⟨hR, by omega⟩, by rw [sg_F_ga f10 rfl]; exact dq, i1, ?_⟩ g87 F10
    exact fCh_up ex a5.2.2
theorem m_outer {v f s : Int} {R : List (Int × Int)} {r : Int × Int} {Q : Int → sg_S → Prop} (h : 0 ≤ sg_g σ 88 87 ∧ sg_g σ 88 87 < 30000) (hv : fV σ M v (r :: R)) (hR : R.length ≤ 2) (hf : sg_R f ∧ sg_R s) (hw : fRw σ M (f, s)) (hl : fLn σ (f, s)) (hs : r.2 = cs σ f s.toNat) (k : ∀ q σ', q = sg_g σ 88 87 → fEx σ σ' → fV σ' M q ((f, s) :: r :: R) → sg_g σ' 88 87 = sg_g σ 88 87 + 1 → sg_F [139, 140, 141, 88088] σ σ' → Q q σ') : V_outer σ f s v Q := by
  obtain ⟨a1, a2, a3, a4, a5⟩ := hv
  obtain ⟨RR, eRR⟩ : ∃ RR, RR = r :: R := ⟨_, rfl⟩
  rw [← eRR] at a2 a3 a4 a5
  have lR : RR.length = R.length + 1 := by rw [eRR]; rfl
  unfold V_outer
  refine ⟨⟨a1.1, by omega⟩, ⟨by omega, by omega⟩, m_newF h ⟨by omega, by omega⟩ (fun σ4 f4 b1 b2 b3 _ _ => ⟨⟨by omega, by omega⟩, ⟨by omega, by omega⟩, fun σ11 e11 σ14 e14 => ?_⟩)⟩
  have dv : sg_g σ4 139 v = (RR.length : Int) - 1 := by rw [b3 v (by omega)]; exact a3
  rw [dv]
  generalize hw' : sg_g σ 88 87 = w at *
  have q0 : sg_g σ14 140 (4 * w) = f ∧ sg_g σ14 141 (4 * w) = s := by
    constructor
    · rw [e14, sg_gw_c _ _ _ _ _ _ (by decide), e11, sg_gw_e _ _ _ _ hf.1]
    · rw [e14, sg_gw_e _ _ _ _ hf.2]
  have q1 : ∀ y, y < 4 * w → sg_g σ14 140 y = sg_g σ 140 y ∧ sg_g σ14 141 y = sg_g σ 141 y := fun y hy => by
    rw [e14, sg_gw_c _ _ _ _ _ _ (by decide), e11, sg_gw_k _ _ _ _ _ _ (by omega), sg_gw_k _ _ _ _ _ _ (by omega), sg_gw_c _ _ _ _ _ _ (by decide)]
    exact ⟨sg_F_ga f4 rfl, sg_F_ga f4 rfl⟩
  refine ⟨fun n x σ10 => n = (RR.length - x).toNat ∧ (0 ≤ x ∧ x ≤ RR.length) ∧ (sg_g σ10 140 (4 * w) = f ∧ sg_g σ10 141 (4 * w) = s) ∧ (∀ (l : Nat) (r' : Int × Int), (l : Int) < x → RR[l]? = some r' → sg_g σ10 140 (4 * w + l + 1) = r'.1 ∧ sg_g σ10 141 (4 * w + l + 1) = r'.2) ∧ ∀ y, y < 4 * w → sg_g σ10 140 y = sg_g σ 140 y ∧ sg_g σ10 141 y = sg_g σ 141 y, fun σ10 => (sg_g σ10 140 (4 * w) = f ∧ sg_g σ10 141 (4 * w) = s) ∧ (∀ (l : Nat) (r' : Int × Int), RR[l]? = some r' → sg_g σ10 140 (4 * w + l + 1) = r'.1 ∧ sg_g σ10 141 (4 * w + l + 1) = r'.2) ∧ ∀ y, y < 4 * w → sg_g σ10 140 y = sg_g σ 140 y ∧ sg_g σ10 141 y = sg_g σ 141 y, ⟨_, rfl, ⟨by omega, by omega⟩, q0, fun l r' hl => by omega, q1⟩, ?_, ?_⟩
  · rintro n x σ10 rx f10 ⟨en, hx, i0, i1, i2⟩
    refine ⟨fun z => ⟨i0, fun l r' hr => ?_, i2⟩, fun z => ?_⟩
    · have hl : l < RR.length := by
        rcases Nat.lt_or_ge l RR.length with q | q
        · exact q
        · rw [List.getElem?_eq_none q] at hr; cases hr
      exact i1 l r' (by omega) hr
    · have hx' : x.toNat < RR.length := by omega
      obtain ⟨rr, hrr⟩ : ∃ rr, RR[x.toNat]? = some rr := ⟨_, List.getElem?_eq_getElem hx'⟩
      obtain ⟨c1, c2⟩ := a4 x.toNat rr hrr
      obtain ⟨d1, d2⟩ := i2 (4 * v + x) (by omega)
      rw [show 4 * v + ((x.toNat : Nat) : Int) = 4 * v + x by omega] at c1 c2
      refine ⟨⟨by omega, by omega⟩, ⟨by omega, by omega⟩, ⟨by omega, by omega⟩, ⟨by omega, by omega⟩, ⟨by omega, by omega⟩, ⟨by omega, by omega⟩, fun σ39 e39 σ42 e42 => ⟨⟨by omega, by omega⟩, _, by omega, rfl, ⟨by omega, by omega⟩, ?_, fun l r' hl hr => ?_, fun y hy => ?_⟩⟩
      · rw [e42, sg_gw_c _ _ _ _ _ _ (by decide), e39, sg_gw_k _ _ _ _ _ _ (by omega), sg_gw_k _ _ _ _ _ _ (by omega), sg_gw_c _ _ _ _ _ _ (by decide)]
        exact i0
      · by_cases e : (l : Int) = x
        · have : r' = rr := by
            rw [show l = x.toNat by omega, hrr] at hr; cases hr; rfl
          subst this
          rw [e, e42, sg_gw_c _ _ _ _ _ _ (by decide), e39, sg_gw_e _ _ _ _ (sg_Rg _ _ _), sg_gw_e _ _ _ _ (sg_Rg _ _ _), d1, d2]
          exact ⟨c1, c2⟩
        · rw [e42, sg_gw_c _ _ _ _ _ _ (by decide), e39, sg_gw_k _ _ _ _ _ _ (by omega), sg_gw_k _ _ _ _ _ _ (by omega), sg_gw_c _ _ _ _ _ _ (by decide)]
          exact i1 l r' (by omega) hr
      · rw [e42, sg_gw_c _ _ _ _ _ _ (by decide), e39, sg_gw_k _ _ _ _ _ _ (by omega), sg_gw_k _ _ _ _ _ _ (by omega), sg_gw_c _ _ _ _ _ _ (by decide)]
        exact i2 y hy
  · rintro σ10 f10 ⟨i0, i1, i2⟩
    have F14 : sg_F [140, 141] σ4 σ14 := by rw [e14, e11]; exact sg_F_w (sg_F_w (sg_F_r _ _) rfl _) rfl _
    have F10 : sg_F [139, 140, 141, 88088] σ σ10 := sg_F_t (sg_F_m f4 rfl) (sg_F_m (sg_F_t F14 f10) rfl)
    have g87 : sg_g σ10 88 87 = w + 1 := by rw [sg_F_g (sg_F_t F14 f10) (by rfl)]; exact b1
    have g91 : sg_g σ10 88 91 = sg_g σ 88 91 := sg_F_g F10 (by rfl)
    have ex : fEx σ σ10 := ⟨⟨by omega, by omega⟩, fun u x y => by rw [sg_F_ga (sg_F_t F14 f10) rfl]; exact b3 u (by omega), fun y _ z => i2 y (by omega), fun x _ _ => sg_F_ga F10 rfl⟩
    have ch : fCh σ M ((f, s) :: RR) := by
      rw [eRR] at a5 ⊢
      exact ⟨hw, ⟨hl, hs⟩, a5⟩
    refine k w σ10 rfl ex ⟨⟨by omega, by omega⟩, ⟨by simp, by simp only [List.length_cons]; omega⟩, ?_, fun l r' hr => ?_, by rw [← eRR]; exact fCh_up ex ch⟩ g87 F10
    · rw [sg_F_ga (sg_F_t F14 f10) rfl, b2]
      simp only [List.length_cons]
      omega
    · cases l with
      | zero =>
        cases hr
        rw [show 4 * w + ((0 : Nat) : Int) = 4 * w by omega]
        exact i0
      | succ l =>
        rw [List.getElem?_cons_succ, ← eRR] at hr
        have := i1 l r' hr
        rwa [show 4 * w + (l : Int) + 1 = 4 * w + ((l + 1 : Nat) : Int) by omega] at this
end FLA
