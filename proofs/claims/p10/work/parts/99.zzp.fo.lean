/-! flat ops: PART. -/
theorem gH_x {σ σ' : sg_S} {b : Prop} {s t : Int} {l : List Nat} (h : gH σ (sg_g σ 88 91) b s t σ') (F : sg_F l σ σ') (hl : (!sg_cv l 88 87 && sg_ca l 139 && sg_ca l 140 && sg_ca l 141) = true) : fEx σ σ' := by
  simp only [Bool.and_eq_true, Bool.not_eq_true'] at hl
  obtain ⟨⟨h1, h2⟩, h3, h4⟩ := h
  exact ⟨⟨by rw [sg_F_g F hl.1.1.1]; exact Int.le_refl _, by omega⟩, fun v _ _ => sg_F_ga F hl.1.1.2, fun x _ _ => ⟨sg_F_ga F hl.1.2, sg_F_ga F hl.2⟩, fun x y z => h3 x y z⟩
theorem cs_R {σ : sg_S} {p : Int} : ∀ n : Nat, -2147483648 * (n : Int) ≤ cs σ p n ∧ cs σ p n ≤ 2147483648 * (n : Int)
  | 0 => ⟨Int.le_refl _, Int.le_refl _⟩
  | n + 1 => by
    have a := cs_R (σ := σ) (p := p) n
    have b := sg_Rg σ 142 (p + n)
    obtain ⟨b1, b2⟩ := b
    simp only [cs]
    omega
theorem cs_nn {σ : sg_S} {p : Int} : ∀ {i j : Nat}, i ≤ j → (∀ t, 0 ≤ t → t < (j : Int) → 0 ≤ sg_g σ 142 (p + t)) → cs σ p i ≤ cs σ p j
  | i, 0, a, _ => by
    have : i = 0 := by omega
    subst this
    exact Int.le_refl _
  | i, j + 1, a, h => by
    by_cases e : i = j + 1
    · subst e; exact Int.le_refl _
    · have c := cs_nn (p := p) (i := i) (j := j) (by omega) (fun t x y => h t x (by omega))
      have d := h j (by omega) (by omega)
      simp only [cs]
      omega
/-- lengths set aside, those left out not counted -/
def lp (σ : sg_S) : Nat → Int
  | 0 => 0
  | i + 1 => lp σ i + (if 0 ≤ sg_g σ 150 i then sg_g σ 150 i else 0)
theorem lp_e {σ σ' : sg_S} : ∀ {n : Nat}, (∀ i : Nat, i < n → sg_g σ' 150 i = sg_g σ 150 i) → lp σ' n = lp σ n
  | 0, _ => rfl
  | n + 1, h => by
    simp only [lp]
    rw [lp_e (n := n) (fun i x => h i (by omega)), h n (by omega)]
theorem lp_ls {σ σ' : sg_S} : ∀ {n : Nat}, (∀ i : Nat, i < n → sg_g σ' 150 i = (if 0 ≤ sg_g σ 150 i then sg_g σ 150 i else 0)) → ls σ' n = lp σ n
  | 0, _ => rfl
  | n + 1, h => by
    simp only [lp, ls]
    rw [lp_ls (n := n) (fun i x => h i (by omega)), h n (by omega)]
theorem lp_b {σ : sg_S} : ∀ {n : Nat}, (∀ i : Nat, i < n → sg_g σ 150 i ≤ 200) → 0 ≤ lp σ n ∧ lp σ n ≤ 200 * n
  | 0, _ => ⟨Int.le_refl _, Int.le_refl _⟩
  | n + 1, h => by
    have a := lp_b (n := n) (fun i x => h i (by omega))
    have b := h n (by omega)
    simp only [lp]
    split <;> omega
theorem lp_m {σ : sg_S} : ∀ {n m : Nat}, n ≤ m → lp σ n ≤ lp σ m
  | n, 0, h => by
    have : n = 0 := by omega
    subst this
    exact Int.le_refl _
  | n, m + 1, h => by
    by_cases e : n = m + 1
    · subst e; exact Int.le_refl _
    · have := lp_m (σ := σ) (n := n) (m := m) (by omega)
      simp only [lp]
      split <;> omega
theorem lp_s {σ : sg_S} {x : Int} (h : 0 ≤ x) : lp σ (x + 1).toNat = lp σ x.toNat + (if 0 ≤ sg_g σ 150 x then sg_g σ 150 x else 0) := by
  rw [show (x + 1).toNat = x.toNat + 1 by omega]
  simp only [lp]
  rw [show ((x.toNat : Nat) : Int) = x by omega]
/-- the lengths asked for in a lane are such, and come to what it has -/
def okPt (σ : sg_S) (r s s' : Int × Int) (i : Int) : Prop := (∀ t, 0 ≤ t → t < sg_g σ 142 (s.1 + i) → 0 ≤ sg_g σ 142 (s'.1 + cs σ s.1 i.toNat + t)) ∧ cs σ (s'.1 + cs σ s.1 i.toNat) (sg_g σ 142 (s.1 + i)).toNat = sg_g σ 142 (r.1 + i)
section FO
variable {σ : sg_S} {M : Int}
theorem m_fPart {L a b : Int} {K : Nat} {Q : Int → sg_S → Prop} (hC : fC σ) (ha : fL σ (K + 1) L a) (hK : K ≤ 1) (hb : fL σ 1 L b) (hq : fq σ) (k : ∀ q σ', opR σ σ' (K + 2) L q → Q q σ') : V_flatPart σ a b L Q := by
  have hL := fL_L ha
  have hC' := hC
  obtain ⟨c1, c2, c3, c4⟩ := hC
  obtain ⟨r, r', R, hv, hR, rL, ln, e1, w1, w2⟩ := fL_1 ha
  obtain ⟨s, s', S, hu, hS, sL, lns, e1s, u1, u2⟩ := fL_1 hb
  have w22 := w2.2
  have u22 := u2.2
  have u21 := u2.1
  have z1 := fV_1 hu
  have ub := hu.1
  have lnb : ∀ i, 0 ≤ i → i < L → (0 ≤ sg_g σ 142 (s.1 + i) ∧ sg_g σ 142 (s.1 + i) ≤ 200) ∧ 0 ≤ cs σ s.1 i.toNat ∧ cs σ s.1 (i + 1).toNat = cs σ s.1 i.toNat + sg_g σ 142 (s.1 + i) ∧ cs σ s.1 (i + 1).toNat ≤ s'.2 := fun i x y => ln_b lns e1s sL ⟨x, y⟩
  have lna : ∀ i, 0 ≤ i → i < L → (0 ≤ sg_g σ 142 (r.1 + i) ∧ sg_g σ 142 (r.1 + i) ≤ 200) ∧ 0 ≤ cs σ r.1 i.toNat ∧ cs σ r.1 (i + 1).toNat = cs σ r.1 i.toNat + sg_g σ 142 (r.1 + i) ∧ cs σ r.1 (i + 1).toNat ≤ r'.2 := fun i x y => ln_b ln e1 rL ⟨x, y⟩
  unfold V_flatPart
  rw [z1.1]
  refine ⟨⟨by omega, by omega⟩, ⟨by omega, by omega⟩, ⟨by omega, by omega⟩, fun m by_ sm x σ7 => m = (L - x).toNat ∧ (0 ≤ x ∧ x ≤ L) ∧ by_ = s'.1 + cs σ s.1 x.toNat ∧ sm = L + lp σ7 x.toNat ∧ fq σ7 ∧ ∀ i : Nat, (i : Int) < x → sg_g σ7 150 i = -1 ∨ (sg_g σ7 150 i = sg_g σ 142 (s.1 + i) ∧ okPt σ r s s' i), fun sm σ7 => sm = L + lp σ7 L.toNat ∧ fq σ7 ∧ ∀ i : Nat, (i : Int) < L → sg_g σ7 150 i = -1 ∨ (sg_g σ7 150 i = sg_g σ 142 (s.1 + i) ∧ okPt σ r s s' i), ⟨_, rfl, ⟨by omega, by omega⟩, by simp only [show (0 : Int).toNat = 0 by rfl, cs]; omega, by simp only [show (0 : Int).toNat = 0 by rfl, lp]; omega, hq, fun i hi => by omega⟩, ?_, ?_⟩
  · rintro m by_ sm x σ7 rb rs rx f7 ⟨en, hx, eb, es, hq7, hz⟩
    refine ⟨fun z => by rw [show x = L by omega] at es hz; exact ⟨es, hq7, hz⟩, fun z => ?_⟩
    obtain ⟨o1, o2, o3, o4⟩ := lnb x hx.1 z
    obtain ⟨n1, n2, n3, n4⟩ := lna x hx.1 z
    obtain ⟨pa, va⟩ := pR hv ⟨by omega, by omega⟩ (i := x) ⟨by omega, by omega⟩
    obtain ⟨pb, vb⟩ := pR hu ⟨by omega, by omega⟩ (i := x) ⟨by omega, by omega⟩
    have lpb := lp_b (σ := σ7) (n := x.toNat) (fun i hi => by
      rcases hz i (by omega) with y | ⟨y, -⟩
      · omega
      · have := (lnb i (by omega) (by omega)).1; omega)
    rw [va, vb]
    refine ⟨fun m al bl y => m = (sg_g σ 142 (s.1 + x) - y).toNat ∧ (0 ≤ y ∧ y ≤ sg_g σ 142 (s.1 + x)) ∧ al = cs σ by_ y.toNat ∧ (bl = 0 → ∀ t, 0 ≤ t → t < y → 0 ≤ sg_g σ 142 (by_ + t)), fun al bl => al = cs σ by_ (sg_g σ 142 (s.1 + x)).toNat ∧ (bl = 0 → ∀ t, 0 ≤ t → t < sg_g σ 142 (s.1 + x) → 0 ≤ sg_g σ 142 (by_ + t)), ⟨_, rfl, ⟨by omega, by omega⟩, rfl, fun _ t x y => by omega⟩, ?_, ?_⟩
    · rintro m' al bl y r1 r2 r3 ⟨en', hy, ea, hb'⟩
      refine ⟨pb, fun c => ?_, fun c => ?_⟩
      · rw [show sg_g σ 142 (s.1 + x) = y by omega]; exact ⟨ea, hb'⟩
      · have csr := cs_R (σ := σ) (p := by_) y.toNat
        have cg := sg_Rg σ 142 (by_ + y)
        obtain ⟨cg1, cg2⟩ := cg
        have css := cs_s (σ := σ) (p := by_) hy.1
        refine ⟨⟨by omega, by omega⟩, ⟨by omega, by omega⟩, ⟨by omega, by omega⟩, ⟨fun _ => trivial, fun _ => ⟨fun _ => trivial, fun _ => trivial⟩⟩, fun v220 e220 r220 => ⟨⟨by omega, by omega⟩, _, by omega, rfl, ⟨by omega, by omega⟩, by omega, fun c2 t t0 t1 => ?_⟩⟩
        rw [c2] at e220
        by_cases cb : bl = 0
        · rw [if_neg (fun w => w cb)] at e220
          by_cases cc : 0 ≤ sg_g σ 142 (by_ + y)
          · by_cases ct : t = y
            · rw [ct]; exact cc
            · exact hb' cb t t0 (by omega)
          · rw [if_neg cc] at e220; omega
        · rw [if_pos cb] at e220; omega
    · rintro al bl r1 r2 ⟨ea, hb'⟩
      refine ⟨⟨fun _ => trivial, fun _ => ⟨pa, fun _ => trivial, fun _ => trivial⟩⟩, fun v165 e165 r165 => ⟨fun σ8 => fq σ8, ⟨fun _ => hq7, fun _ v200 e200 r200 => m_lacks ⟨by omega, rx⟩ ⟨by rw [e200]; split <;> decide, r200⟩ hq7 (fun σ8 _ h8 _ => h8)⟩, fun σ8 f8 hq8 => ⟨⟨fun _ => trivial, fun _ => ⟨pb, trivial⟩⟩, fun v176 e176 r176 => ⟨⟨by omega, by omega⟩, fun σ9 e9 => ⟨⟨fun _ => trivial, fun _ => ⟨pb, trivial⟩⟩, fun v185 e185 r185 => ?_⟩⟩⟩⟩⟩
      have ok : ¬ v165 = 0 → okPt σ r s s' x := fun c => by
        rw [e165] at c
        by_cases cb : bl = 0
        · rw [if_neg (fun w => w cb)] at c
          by_cases cc : al = sg_g σ 142 (r.1 + x)
          · have hb2 := hb' cb
            unfold okPt
            rw [← eb, ← ea]
            exact ⟨hb2, cc⟩
          · rw [if_pos cc] at c; exact absurd rfl c
        · rw [if_pos cb] at c; exact absurd rfl c
      have f9 : sg_F [150] σ8 σ9 := by rw [e9]; exact sg_F_w (sg_F_r _ _) rfl _
      have l9 : sg_g σ9 150 x = v176 := by rw [e9, sg_gw_e _ _ _ _ r176]
      have o9 : ∀ i : Nat, (i : Int) < x → sg_g σ9 150 i = sg_g σ7 150 i := fun i hi => by rw [e9, sg_gw_k _ _ _ _ _ _ (by omega), sg_F_ga f8 rfl]
      have vv : (v165 = 0 ∧ v176 = -1 ∧ v185 = 0) ∨ (¬ v165 = 0 ∧ v176 = sg_g σ 142 (s.1 + x) ∧ v185 = sg_g σ 142 (s.1 + x)) := by
        by_cases c : v165 = 0
        · rw [if_pos c] at e176 e185; exact Or.inl ⟨c, e176, e185⟩
        · rw [if_neg c] at e176 e185; exact Or.inr ⟨c, e176, e185⟩
      have lps : lp σ9 (x + 1).toNat = lp σ7 x.toNat + v185 := by
        rw [lp_s hx.1, lp_e (σ := σ7) (fun i hi => o9 i (by omega)), l9]
        rcases vv with ⟨v1, v2, v3⟩ | ⟨v1, v2, v3⟩
        · rw [v2, v3]; rfl
        · rw [v2, v3, if_pos (by omega)]
      refine ⟨⟨by omega, by omega⟩, pb, ⟨by omega, by omega⟩, ⟨by omega, by omega⟩, _, by omega, rfl, ⟨by omega, by omega⟩, by omega, by omega, fq_F f9 rfl hq8, fun i hi => ?_⟩
      by_cases c : (i : Int) = x
      · rw [c, l9]
        rcases vv with ⟨v1, v2, v3⟩ | ⟨v1, v2, v3⟩
        · exact Or.inl v2
        · exact Or.inr ⟨v2, ok v1⟩
      · rw [o9 i (by omega)]; exact hz i (by omega)
  · rintro sm σ7 rs f7 ⟨es, hq7, hz⟩
    have ex7 := fEx_F f7 rfl
    have e91 : sg_g σ7 88 91 = sg_g σ 88 91 := sg_F_g f7 (by rfl)
    have e87 : sg_g σ7 88 87 = sg_g σ 88 87 := sg_F_g f7 (by rfl)
    have lpb := lp_b (σ := σ7) (n := L.toNat) (fun i hi => by
      rcases hz i (by omega) with y | ⟨y, -⟩
      · omega
      · have := (lnb i (by omega) (by omega)).1; omega)
    refine m_inner ⟨by omega, by omega⟩ (fV_up ex7 hv) (by simp) (fun q σ8 eq ex8 fv8 e87' f8 _ _ σ9 e9 => ?_)
    have f9 : sg_F [94088] σ8 σ9 := by rw [e9]; exact sg_F_w (sg_F_r _ _) rfl _
    have F9 : sg_F [139, 140, 141, 150, 88088, 94088, 103088, 104088] σ σ9 := sg_F_t (sg_F_m f7 rfl) (sg_F_t (sg_F_m f8 rfl) (sg_F_m f9 rfl))
    have ex9 : fEx σ σ9 := fEx_t ex7 (fEx_t ex8 (fEx_F f9 rfl))
    have g91 : sg_g σ9 88 91 = sg_g σ 88 91 := sg_F_g F9 (by rfl)
    have g87 : sg_g σ9 88 87 = sg_g σ 88 87 + 1 := by rw [sg_F_g f9 (by rfl)]; omega
    have c9 : ∀ y, sg_g σ9 142 y = sg_g σ 142 y := fun y => sg_F_ga F9 rfl
    have cs9 : ∀ p n, cs σ9 p n = cs σ p n := fun p n => cs_e (fun j _ => c9 _)
    have l9 : ∀ i : Int, sg_g σ9 150 i = sg_g σ7 150 i := fun i => sg_F_ga (sg_F_t (sg_F_m (L := [139, 140, 141, 88088, 94088]) f8 rfl) (sg_F_m f9 rfl)) rfl
    refine m_listItems (fV_up ex9 hv) rL hL ⟨by omega, by omega⟩ (by rw [e9, sg_gw_e _ _ _ _ ⟨by decide, by decide⟩]) (fun σ10 h10 f10 => ?_)
    obtain ⟨N, hN⟩ : ∃ N, N = oG σ9 (r' :: R) r.1 0 L.toNat := ⟨_, rfl⟩
    have hv9 := (fV_up ex9 hv).2.2.2.2
    have ob := oG_0 (σ := σ9) (R := r' :: R) (r := r) (r' := r') hv9.2.1.1 (by rw [cs9]; exact e1) rL
    have obL := ob L.toNat (by omega)
    have hN6 : 0 ≤ N ∧ N ≤ r'.2 := by rw [hN, e1, ← cs9]; exact obL
    rw [← hN] at h10
    have g91' : sg_g σ10 88 91 = sg_g σ 88 91 := by rw [sg_F_g f10 (by rfl)]; exact g91
    have g87' : sg_g σ10 88 87 = sg_g σ 88 87 + 1 := by rw [sg_F_g f10 (by rfl)]; exact g87
    have h93 := h10.1.1
    have lo : lnO σ10 (r' :: R) := lnO_of h10.1 (by omega) rfl
    have fv10 : fV σ10 6000 q (r' :: R) := fV_up (fEx_t (fEx_F f9 rfl) (fEx_F f10 rfl)) fv8
    refine m_extL fv10 ⟨by decide, by decide⟩ ⟨by omega, by omega⟩ lo (fun t σ11 et f11 rt _ => ?_)
    have t0 : 0 ≤ t := by rw [et]; exact gT_b fv10.2.2.2.2 lo (by decide) (by omega) (Nat.le_refl _)
    have tb : t ≤ 312000000 := by rw [et]; exact gT_u fv10.2.2.2.2 lo (by simp only [List.length_cons]; omega) (by omega)
    have F11 : sg_F [139, 140, 141, 143, 144, 150, 88088, 94088, 103088, 104088] σ σ11 := sg_F_t (sg_F_m F9 rfl) (sg_F_t (sg_F_m f10 rfl) (sg_F_m f11 rfl))
    have g84 : sg_g σ11 88 84 = sg_g σ 88 84 := sg_F_g F11 (by rfl)
    have g85 : sg_g σ11 88 85 = sg_g σ 88 85 := sg_F_g F11 (by rfl)
    refine ⟨⟨by omega, by omega⟩, m_stepped ⟨by omega, by omega⟩ ⟨by omega, by omega⟩ (fun σ' e _ _ => ⟨fun z => absurd rfl z, fun _ => k _ _ (Or.inl e)⟩) (fun σ5 f5 s1 s2 s3 s4 _ _ => ⟨fun _ => ?_, fun z => by omega⟩)⟩
    have f45 : sg_F [144, 85088, 86088] σ10 σ5 := sg_F_t (sg_F_m f11 rfl) (sg_F_m f5 rfl)
    have i91 : sg_g σ5 88 91 = sg_g σ 88 91 := by rw [sg_F_g f45 (by rfl)]; exact g91'
    have i87 : sg_g σ5 88 87 = sg_g σ 88 87 + 1 := by rw [sg_F_g f45 (by rfl)]; exact g87'
    have i93 : sg_g σ5 88 93 = N := by rw [sg_F_g f45 (by rfl)]; exact h93
    have lo5 : lnO σ5 (r' :: R) := lnO_of (lO_F f45 rfl h10.1) (by omega) rfl
    have fv5 := fV_up (fEx_F f45 rfl) fv10
    have et5 : gT σ5 (r' :: R) (sg_g σ5 88 93).toNat (r' :: R).length = t := by rw [et, gT_F f45 rfl rfl, i93, h93]
    have gl : ∀ l, l < (r' :: R).length → gsum σ5 (r' :: R) l (sg_g σ5 88 93).toNat ≤ 6000 := fun l h => by
      have a1 := gT_l fv5.2.2.2.2 lo5 (by decide) (j := (sg_g σ5 88 93).toNat) (by omega) h
      have a2 := gT_b fv5.2.2.2.2 lo5 (by decide) (j := (sg_g σ5 88 93).toNat) (by omega) (l := l) (by omega)
      omega
    refine m_gath fv5 ⟨by decide, by decide⟩ (by omega) ⟨by omega, by omega⟩ lo5 (by omega) (fun w σ6 ew ex6 fv6 j87 j91 f6 rw' _ => ?_)
    obtain ⟨r0, R0, er, er2, el⟩ := gR_c (σ := σ5) (R := r' :: R) (by simp)
    simp only [List.length_cons] at el
    rw [i93] at er2
    have fv6' := fv6 6000 gl
    rw [er] at fv6'
    have ex5 : fEx σ σ5 := fEx_t ex9 (fEx_t (fEx_F f10 rfl) (fEx_F f45 rfl))
    have exs6 : fEx σ σ6 := fEx_t ex5 ex6
    have hu6 := fV_up exs6 hu
    have z16 := fV_1 hu6
    have cell6 : ∀ y, 0 ≤ y → y < sg_g σ 88 91 → sg_g σ6 142 y = sg_g σ 142 y := fun y p1 p2 => exs6.2.2.2 y p1 p2
    have l6 : ∀ i : Int, sg_g σ6 150 i = sg_g σ7 150 i := fun i => by rw [sg_F_ga f6 rfl, sg_F_ga f45 rfl, sg_F_ga f10 rfl]; exact l9 i
    obtain ⟨C, hCC⟩ : ∃ C, C = sg_g σ6 88 91 := ⟨_, rfl⟩
    rw [z16.1]
    have hq6 : fq σ6 := fq_F f6 rfl (fq_F f45 rfl (fq_F f10 rfl (fq_F f9 rfl (fq_F f8 rfl hq7))))
    refine ⟨fun m by_ x σ3 => m = (L - x).toNat ∧ (0 ≤ x ∧ x ≤ L) ∧ by_ = s'.1 + cs σ s.1 x.toNat ∧ gH σ6 (sg_g σ6 88 91) True (lp σ7 x.toNat) (oG σ9 (r' :: R) r.1 0 x.toNat) σ3 ∧ (∀ i : Nat, (i : Int) < x → sg_g σ3 150 i = (if 0 ≤ sg_g σ7 150 i then sg_g σ7 150 i else 0)) ∧ ∀ i : Nat, x ≤ (i : Int) → sg_g σ3 150 i = sg_g σ7 150 i, fun σ3 => gH σ6 (sg_g σ6 88 91) True (lp σ7 L.toNat) N σ3 ∧ ∀ i : Nat, (i : Int) < L → sg_g σ3 150 i = (if 0 ≤ sg_g σ7 150 i then sg_g σ7 150 i else 0), ⟨_, rfl, ⟨by omega, by omega⟩, by simp only [show (0 : Int).toNat = 0 by rfl, cs]; omega, gH_0 _ _, fun i hi => by omega, fun i _ => l6 i⟩, ?_, ?_⟩
    · rintro m by_ x σ3 rb rx f3 ⟨en, hx, eb, hG, hz1, hz2⟩
      refine ⟨fun z => by rw [hN, show L = x by omega]; exact ⟨hG, hz1⟩, fun z => ?_⟩
      obtain ⟨o1, o2, o3, o4⟩ := lnb x hx.1 z
      obtain ⟨n1, n2, n3, n4⟩ := lna x hx.1 z
      have lx : sg_g σ3 150 x = sg_g σ7 150 x := by
        have := hz2 x.toNat (by omega)
        rwa [show ((x.toNat : Nat) : Int) = x by omega] at this
      have hzx := hz x.toNat (by omega)
      rw [show ((x.toNat : Nat) : Int) = x by omega] at hzx
      have lpx := lp_s (σ := σ7) hx.1
      have lpm := lp_m (σ := σ7) (n := (x + 1).toNat) (m := L.toNat) (by omega)
      have lp0 := lp_m (σ := σ7) (n := 0) (m := x.toNat) (by omega)
      simp only [lp] at lp0
      have bdl : ∀ y : Int, 0 ≤ y → y ≤ sg_g σ 142 (s.1 + x) → (0 ≤ sg_g σ7 150 x → lp σ7 x.toNat + y ≤ 6000) := fun y y0 y1 c => by
        rw [if_pos c] at lpx
        omega
      rw [lx]
      refine ⟨fun m by2 y σ4 => m = (sg_g σ 142 (s.1 + x) - y).toNat ∧ (0 ≤ y ∧ y ≤ sg_g σ 142 (s.1 + x)) ∧ by2 = by_ + y ∧ (0 ≤ sg_g σ7 150 x → gH σ6 (sg_g σ6 88 91) True (lp σ7 x.toNat + y) (oG σ9 (r' :: R) r.1 0 x.toNat + cs σ by_ y.toNat) σ4) ∧ (sg_g σ7 150 x < 0 → gH σ6 (sg_g σ6 88 91) True (lp σ7 x.toNat) (oG σ9 (r' :: R) r.1 0 x.toNat) σ4), fun by2 σ4 => by2 = by_ + sg_g σ 142 (s.1 + x) ∧ gH σ6 (sg_g σ6 88 91) True (lp σ7 (x + 1).toNat) (oG σ9 (r' :: R) r.1 0 (x + 1).toNat) σ4, ⟨_, rfl, ⟨by omega, by omega⟩, by omega, fun _ => by simp only [show (0 : Int).toNat = 0 by rfl, cs]; rw [Int.add_zero, Int.add_zero]; exact hG, fun _ => hG⟩, ?_, ?_⟩
      · rintro m' by2 y σ4 r1 ry f4 ⟨en', hy, eb2, g4, g4'⟩
        have F4 : sg_F [142, 150, 92088] σ6 σ4 := sg_F_t f3 (sg_F_m f4 rfl)
        have pv : p_rowAt σ4 b x ∧ v_rowAt σ4 b x = sg_g σ6 142 (s.1 + x) := by
          by_cases c : 0 ≤ sg_g σ7 150 x
          · exact pR_h hu6 (g4 c) F4 rfl ⟨by have := bdl y hy.1 hy.2 c; omega, by omega⟩ ⟨by omega, by omega⟩
          · exact pR_h hu6 (g4' (by omega)) F4 rfl ⟨by omega, by omega⟩ ⟨by omega, by omega⟩
        rw [pv.2, cell6 _ (by have := u1.1; omega) (by have := u1.2.2.2; omega)]
        refine ⟨pv.1, fun c => ⟨by omega, ?_⟩, fun c => ⟨⟨by omega, by omega⟩, fun σ2 => (0 ≤ sg_g σ7 150 x → gH σ6 (sg_g σ6 88 91) True (lp σ7 x.toNat + (y + 1)) (oG σ9 (r' :: R) r.1 0 x.toNat + cs σ by_ (y + 1).toNat) σ2) ∧ (sg_g σ7 150 x < 0 → gH σ6 (sg_g σ6 88 91) True (lp σ7 x.toNat) (oG σ9 (r' :: R) r.1 0 x.toNat) σ2), ⟨fun c2 => ⟨fun c3 => by omega, g4'⟩, fun c2 => ⟨⟨by omega, by omega⟩, ?_⟩⟩, fun σ2 f2 h2 => ⟨⟨by omega, by omega⟩, ⟨by omega, by omega⟩, _, by omega, rfl, ⟨by omega, by omega⟩, by omega, h2⟩⟩⟩
        · have ey : y = sg_g σ 142 (s.1 + x) := by omega
          by_cases c2 : 0 ≤ sg_g σ7 150 x
          · have := g4 c2
            rcases hzx with h | ⟨h, ok1, ok2⟩
            · omega
            rw [ey, eb, ok2] at this
            rw [oG_s hx.1, l9, if_pos c2, lpx, if_pos c2, h]
            simp only [bg]
            rw [cs9, cs9, n3, show cs σ r.1 x.toNat + sg_g σ 142 (r.1 + x) - cs σ r.1 x.toNat = sg_g σ 142 (r.1 + x) by omega]
            exact this
          · have := g4' (by omega)
            rw [oG_s hx.1, l9, if_neg c2, lpx, if_neg c2, Int.add_zero, Int.add_zero]
            exact this
        · have h4 := g4 c2
          rcases hzx with h | ⟨h, ok1, ok2⟩
          · omega
          rw [← eb] at ok1 ok2
          have cv : sg_g σ4 142 by2 = sg_g σ 142 (by_ + y) := by
            rw [h4.2.1 by2 (by omega) (by omega), cell6 _ (by omega) (by omega), eb2]
          rw [cv]
          have css := cs_s (σ := σ) (p := by_) hy.1
          have m1 := cs_nn (σ := σ) (p := by_) (i := (y + 1).toNat) (j := (sg_g σ 142 (s.1 + x)).toNat) (by omega) (fun t p1 p2 => ok1 t p1 (by omega))
          have m2 := cs_nn (σ := σ) (p := by_) (i := 0) (j := y.toNat) (by omega) (fun t p1 p2 => ok1 t p1 (by omega))
          simp only [cs] at m2
          have ny := ok1 y hy.1 c
          refine m_put h4 (by omega) (by have := bdl y hy.1 hy.2 c2; omega) (sg_Rg _ _ _) (fun _ => ⟨ny, by omega⟩) (fun σ2 h2 f2 => ⟨fun _ => ?_, fun c3 => by omega⟩)
          rw [css, ← Int.add_assoc, ← Int.add_assoc]
          exact h2
      · rintro by2 σ4 r1 f4 ⟨eb2, g4⟩
        refine ⟨⟨by omega, by omega⟩, fun v115 e115 r115 σ2 e2 => ?_⟩
        have f2 : sg_F [150] σ4 σ2 := by rw [e2]; exact sg_F_w (sg_F_r _ _) rfl _
        refine ⟨⟨by omega, by omega⟩, _, by omega, rfl, ⟨by omega, by omega⟩, by omega, gH_F f2 rfl g4, fun i hi => ?_, fun i hi => ?_⟩
        · by_cases c : (i : Int) = x
          · rw [c, e2, sg_gw_e _ _ _ _ r115, e115]
          · rw [e2, sg_gw_k _ _ _ _ _ _ (by omega), sg_F_ga f4 rfl]; exact hz1 i (by omega)
        · rw [e2, sg_gw_k _ _ _ _ _ _ (by omega), sg_F_ga f4 rfl]; exact hz2 i (by omega)
    · rintro σ3 f3 ⟨hG, hz1⟩
      have ex3 := gH_x hG f3 rfl
      obtain ⟨⟨p1, p2⟩, p3, p4⟩ := hG
      obtain ⟨p5, p6⟩ := p4 trivial
      have k87 : sg_g σ3 88 87 = sg_g σ6 88 87 := sg_F_g f3 (by rfl)
      have cnt : sg_g σ3 88 91 - sg_g σ6 88 91 = lp σ7 L.toNat := by omega
      rw [cnt]
      refine ⟨⟨by omega, by omega⟩, m_outer (M := 6000) ⟨by omega, by omega⟩ (fV_up ex3 fv6') (by omega) ⟨⟨by omega, by omega⟩, ⟨by omega, by omega⟩⟩ ⟨by simp only; omega, by simp only; omega, by simp only; omega, by simp only; omega⟩ (fun i x y => p5 i x y) (by rw [p6, er2]; omega) (fun q2 σ4 e4 ex4 fv4 k87' f4 _ _ => ?_)⟩
      have k91 : sg_g σ4 88 91 = sg_g σ3 88 91 := sg_F_g f4 (by rfl)
      have hz4 : ∀ i : Nat, (i : Int) < L → sg_g σ4 150 i = (if 0 ≤ sg_g σ7 150 i then sg_g σ7 150 i else 0) := fun i hi => by rw [sg_F_ga f4 rfl]; exact hz1 i hi
      have hz5 : ∀ i : Nat, (i : Int) < L → 0 ≤ sg_g σ4 150 i ∧ sg_g σ4 150 i ≤ 200 := fun i hi => by
        rw [hz4 i hi]
        rcases hz i hi with y | ⟨y, -⟩
        · rw [y]; decide
        · have := (lnb i (by omega) hi).1
          split <;> omega
      refine m_putLens ⟨by omega, by omega⟩ ⟨by omega, by omega⟩ hz5 (fun σ2 h2 f2 r2 _ => ?_)
      have ex2 := gH_ex h2 f2
      obtain ⟨⟨q1, q2'⟩, q3, q4⟩ := h2
      obtain ⟨q5, q6⟩ := q4 trivial
      have l87 : sg_g σ2 88 87 = sg_g σ4 88 87 := sg_F_g f2 (by rfl)
      refine m_outer (M := 6000) ⟨by omega, by omega⟩ (fV_up ex2 fv4) (by simp only [List.length_cons]; omega) ⟨r2, ⟨by omega, by omega⟩⟩ ⟨by simp only; omega, by simp only; omega, by simp only; omega, by simp only; omega⟩ (fun i x y => q5 i x y) (by rw [q6]; exact (lp_ls (fun i hi => hz4 i (by omega))).symm) (fun q3' σ1 e1' ex1 fv1 l87' f1 _ _ => ?_)
      have l91 : sg_g σ1 88 91 = sg_g σ2 88 91 := sg_F_g f1 (by rfl)
      have FF : sg_F [139, 140, 141, 142, 144, 150, 88088, 92088] σ5 σ1 := sg_F_t (sg_F_m f6 rfl) (sg_F_t (sg_F_m f3 rfl) (sg_F_t (sg_F_m f4 rfl) (sg_F_t (sg_F_m f2 rfl) (sg_F_m f1 rfl))))
      refine k q3' σ1 (opR_mk (σ1 := σ5) (a := sm + t) (by omega) s2 (by omega) s4 (by omega) FF rfl (fq_F f1 rfl (fq_F f2 rfl (fq_F f4 rfl (fq_F f3 rfl hq6)))) (fEx_t exs6 (fEx_t ex3 (fEx_t ex4 (fEx_t ex2 ex1)))) (by omega) (by omega) ⟨_, fv1, by simp only [List.length_cons]; omega, rfl, ?_⟩)
      have e := eX_g (σ := σ5) (R := r' :: R)
      rw [er] at e
      simp only [eX] at e ⊢
      omega
end FO
