/-! flat ops: CAT. -/
theorem ar_c1 {x y z L t u c : Int} (h1 : x = y + (t + u) + L) (h2 : y = z + (t + u)) (h3 : z ≤ 2 * c) (hL : 0 ≤ L) : x ≤ 2 * (c + (L + t + u)) := by omega
theorem ar_c2 {x y z : Int} (h1 : x = y + 2) (h2 : y = z + 3) : x ≤ z + 8 := by omega
theorem ar_c4 {L t u : Int} : L + (t + u) ≤ L + t + u := by omega
theorem ar_c3 {L t u : Int} (h1 : 0 ≤ L) (h2 : 0 ≤ t) (h3 : 0 ≤ u) : 0 ≤ L + t + u := by omega
section FR
variable {σ : sg_S}
theorem m_fCat {L a b : Int} {K : Nat} {Q : Int → sg_S → Prop} (hC : fC σ) (ha : fL σ (K + 1) L a) (hb : fL σ (K + 1) L b) (h70 : 0 ≤ sg_g σ 88 70 ∧ sg_g σ 88 70 ≤ 11990) (hq : fq σ) (k : ∀ q σ', opR σ σ' (K + 1) L q → (∀ x, x < sg_g σ 88 70 → sg_g σ' 133 x = sg_g σ 133 x) → Q q σ') : V_flatCat σ a b L Q := by
  have hL := fL_L ha
  have hC' := hC
  obtain ⟨c1, c2, c3, c4⟩ := hC
  obtain ⟨r, r', R, hv, hR, rL, ln, e1, w1, w2⟩ := fL_1 ha
  obtain ⟨s, s', S, hu, hS, sL, lns, e1s, u1, u2⟩ := fL_1 hb
  have K3 : K ≤ 2 := by have := hv.2.1.2; simp only [List.length_cons] at this; omega
  have w22 := w2.2
  have u22 := u2.2
  have lnb : ∀ i, 0 ≤ i → i < L → (0 ≤ sg_g σ 142 (s.1 + i) ∧ sg_g σ 142 (s.1 + i) ≤ 200) ∧ 0 ≤ cs σ s.1 i.toNat ∧ cs σ s.1 (i + 1).toNat = cs σ s.1 i.toNat + sg_g σ 142 (s.1 + i) ∧ cs σ s.1 (i + 1).toNat ≤ s'.2 := fun i x y => ln_b lns e1s sL ⟨x, y⟩
  have lna : ∀ i, 0 ≤ i → i < L → (0 ≤ sg_g σ 142 (r.1 + i) ∧ sg_g σ 142 (r.1 + i) ≤ 200) ∧ 0 ≤ cs σ r.1 i.toNat ∧ cs σ r.1 (i + 1).toNat = cs σ r.1 i.toNat + sg_g σ 142 (r.1 + i) ∧ cs σ r.1 (i + 1).toNat ≤ r'.2 := fun i x y => ln_b ln e1 rL ⟨x, y⟩
  unfold V_flatCat
  refine ⟨fun m x σ2 => m = (L - x).toNat ∧ (0 ≤ x ∧ x ≤ L) ∧ fq σ2 ∧ (∀ i : Nat, (i : Int) < x → sg_g σ2 150 i = -1 ∨ (sg_g σ2 150 i = sg_g σ 142 (r.1 + i) + sg_g σ 142 (s.1 + i) ∧ sg_g σ2 150 i ≤ 200)) ∧ (sg_g σ2 88 102 < 0 → ∀ i : Nat, (i : Int) < x → 0 ≤ sg_g σ2 150 i), fun σ2 => fq σ2 ∧ (∀ i : Nat, (i : Int) < L → sg_g σ2 150 i = -1 ∨ (sg_g σ2 150 i = sg_g σ 142 (r.1 + i) + sg_g σ 142 (s.1 + i) ∧ sg_g σ2 150 i ≤ 200)) ∧ (sg_g σ2 88 102 < 0 → ∀ i : Nat, (i : Int) < L → 0 ≤ sg_g σ2 150 i), ⟨_, rfl, ⟨by omega, by omega⟩, hq, fun i hi => by omega, fun _ i hi => by omega⟩, ?_, ?_⟩
  · rintro m x σ2 rx f2 ⟨en, hx, hq2, hz, hz0⟩
    refine ⟨fun z => by rw [show x = L by omega] at hz hz0; exact ⟨hq2, hz, hz0⟩, fun z => ?_⟩
    obtain ⟨o1, o2, o3, o4⟩ := lnb x hx.1 z
    obtain ⟨n1, n2, n3, n4⟩ := lna x hx.1 z
    obtain ⟨pa, va⟩ := pR hv ⟨by omega, by omega⟩ (i := x) ⟨by omega, by omega⟩
    obtain ⟨pb, vb⟩ := pR hu ⟨by omega, by omega⟩ (i := x) ⟨by omega, by omega⟩
    rw [va, vb]
    refine ⟨pa, pb, ⟨by omega, by omega⟩, ⟨by omega, by omega⟩, fun σ3 e3 => ?_⟩
    have f3 : sg_F [150] σ2 σ3 := by rw [e3]; exact sg_F_w (sg_F_r _ _) rfl _
    have l3 : sg_g σ3 150 x = sg_g σ 142 (r.1 + x) + sg_g σ 142 (s.1 + x) := by rw [e3, sg_gw_e _ _ _ _ ⟨by omega, by omega⟩]
    have o3' : ∀ i : Nat, (i : Int) < x → sg_g σ3 150 i = sg_g σ2 150 i := fun i hi => by rw [e3, sg_gw_k _ _ _ _ _ _ (by omega)]
    rw [l3]
    have e102 : sg_g σ3 88 102 = sg_g σ2 88 102 := sg_F_g f3 (by rfl)
    refine ⟨fun σ4 => fq σ4 ∧ (∀ i : Nat, (i : Int) < x + 1 → sg_g σ4 150 i = -1 ∨ (sg_g σ4 150 i = sg_g σ 142 (r.1 + i) + sg_g σ 142 (s.1 + i) ∧ sg_g σ4 150 i ≤ 200)) ∧ (sg_g σ4 88 102 < 0 → ∀ i : Nat, (i : Int) < x + 1 → 0 ≤ sg_g σ4 150 i), ⟨fun c => ⟨fq_F f3 rfl hq2, fun i hi => ?_, fun c2 i hi => ?_⟩, fun c => m_lacks ⟨by omega, rx⟩ ⟨by decide, by decide, by decide⟩ (fq_F f3 rfl hq2) (fun σ4 l4 h4 f4 σ5 e5 => ⟨fq_F (l := [150]) (by rw [e5]; exact sg_F_w (sg_F_r _ _) rfl _) rfl h4, fun i hi => ?_, fun c2 i hi => ?_⟩)⟩, fun σ4 f4 h4 => ⟨⟨by omega, by omega⟩, _, by omega, rfl, ⟨by omega, by omega⟩, h4⟩⟩
    · by_cases c2 : (i : Int) = x
      · rw [c2, l3]; exact Or.inr ⟨rfl, c⟩
      · rw [o3' i (by omega)]; exact hz i (by omega)
    · by_cases c3 : (i : Int) = x
      · rw [c3, l3]; omega
      · rw [o3' i (by omega)]; exact hz0 (by omega) i (by omega)
    · by_cases c2 : (i : Int) = x
      · rw [c2, e5, sg_gw_e _ _ _ _ ⟨by decide, by decide⟩]; exact Or.inl rfl
      · rw [e5, sg_gw_k _ _ _ _ _ _ (by omega), sg_F_ga f4 rfl, o3' i (by omega)]; exact hz i (by omega)
    · rw [e5, sg_gw_c _ _ _ _ _ _ (by decide)] at c2; omega
  · rintro σ2 f2 ⟨hq2, hz, hz0⟩
    have ex2 := fEx_F f2 rfl
    have e91 : sg_g σ2 88 91 = sg_g σ 88 91 := sg_F_g f2 (by rfl)
    have e87 : sg_g σ2 88 87 = sg_g σ 88 87 := sg_F_g f2 (by rfl)
    refine m_inner ⟨by omega, by omega⟩ (fV_up ex2 hv) (by simp) (fun one σ3 eq1 ex3 fv3 g87 f3 r1 _ => ?_)
    have g91 : sg_g σ3 88 91 = sg_g σ 88 91 := by rw [sg_F_g f3 (by rfl)]; exact e91
    refine m_inner ⟨by omega, by omega⟩ (fV_up (fEx_t ex2 ex3) hu) (by simp) (fun tw σ4 eq2 ex4 fv4 h87 f4 r2 _ σ5 e5 => ?_)
    have f5 : sg_F [94088] σ4 σ5 := by rw [e5]; exact sg_F_w (sg_F_r _ _) rfl _
    have F25 : sg_F [139, 140, 141, 88088, 94088] σ2 σ5 := sg_F_t (sg_F_m f3 rfl) (sg_F_t (sg_F_m f4 rfl) (sg_F_m f5 rfl))
    have F5 : sg_F [139, 140, 141, 150, 88088, 94088, 103088, 104088] σ σ5 := sg_F_t (sg_F_m f2 rfl) (sg_F_m F25 rfl)
    have ex5 : fEx σ σ5 := fEx_t ex2 (fEx_t ex3 (fEx_t ex4 (fEx_F f5 rfl)))
    have i91 : sg_g σ5 88 91 = sg_g σ 88 91 := sg_F_g F5 (by rfl)
    have i87 : sg_g σ5 88 87 = sg_g σ 88 87 + 2 := by rw [sg_F_g f5 (by rfl)]; omega
    have c5 : ∀ y, sg_g σ5 142 y = sg_g σ 142 y := fun y => sg_F_ga F5 rfl
    have l5 : ∀ i : Int, sg_g σ5 150 i = sg_g σ2 150 i := fun i => sg_F_ga F25 rfl
    have cs5 : ∀ p n, cs σ5 p n = cs σ p n := fun p n => cs_e (fun j _ => c5 _)
    obtain ⟨A, hA⟩ : ∃ A : Nat → Int, A = fun l => oG σ5 (r' :: R) r.1 l L.toNat := ⟨_, rfl⟩
    obtain ⟨B, hB⟩ : ∃ B : Nat → Int, B = fun l => oG σ5 (s' :: S) s.1 l L.toNat := ⟨_, rfl⟩
    have hv5 := fV_up ex5 hv
    have hu5 := fV_up ex5 hu
    have A0 : 0 ≤ A 0 ∧ A 0 ≤ r'.2 := by
      have := oG_0 (σ := σ5) (R := r' :: R) (r := r) (r' := r') hv5.2.2.2.2.2.1.1 (by rw [cs5]; exact e1) rL L.toNat (by omega)
      rw [hA, e1, ← cs5]; exact this
    have B0 : 0 ≤ B 0 ∧ B 0 ≤ s'.2 := by
      have := oG_0 (σ := σ5) (R := s' :: S) (r := s) (r' := s') hu5.2.2.2.2.2.1.1 (by rw [cs5]; exact e1s) sL L.toNat (by omega)
      rw [hB, e1s, ← cs5]; exact this
    refine m_listItems hv5 rL hL ⟨by omega, by omega⟩ (by rw [e5, sg_gw_e _ _ _ _ ⟨by decide, by decide⟩]) (fun σ6 h6 f6 => ?_)
    have h6' : lG σ5 σ6 (r' :: R) (A 0) r'.2 A := by rw [hA]; exact h6
    have lo6 : lnO σ6 (r' :: R) := lnO_of h6'.1 (by omega) rfl
    have h93 := h6'.1.1
    have j91 : sg_g σ6 88 91 = sg_g σ 88 91 := by rw [sg_F_g f6 (by rfl)]; exact i91
    have j87 : sg_g σ6 88 87 = sg_g σ 88 87 + 2 := by rw [sg_F_g f6 (by rfl)]; exact i87
    have ex45 : fEx σ4 σ5 := fEx_F f5 rfl
    have fv6 : fV σ6 6000 one (r' :: R) := fV_up (fEx_F f6 rfl) (fV_up ex45 (fV_up ex4 fv3))
    refine m_extL fv6 ⟨by decide, by decide⟩ ⟨by omega, by omega⟩ lo6 (fun t σ7 et f7 rt _ => ?_)
    have t0 : 0 ≤ t := by rw [et]; exact gT_b fv6.2.2.2.2 lo6 (by decide) (by omega) (Nat.le_refl _)
    have tb : t ≤ 312000000 := by rw [et]; exact gT_u fv6.2.2.2.2 lo6 (by simp only [List.length_cons]; omega) (by omega)
    have tA : t = gFs A (K + 1) := by
      rw [et, h93, show (r' :: R).length = K + 1 by simp only [List.length_cons]; omega]
      exact gT_G (fun l _ => h6'.2.2 l)
    refine ⟨⟨by omega, by omega⟩, fun σ8 e8 => ?_⟩
    have f8 : sg_F [94088] σ7 σ8 := by rw [e8]; exact sg_F_w (sg_F_r _ _) rfl _
    have F58 : sg_F [143, 144, 94088] σ5 σ8 := sg_F_t (sg_F_m f6 rfl) (sg_F_t (sg_F_m f7 rfl) (sg_F_m f8 rfl))
    have k91 : sg_g σ8 88 91 = sg_g σ 88 91 := by rw [sg_F_g F58 (by rfl)]; exact i91
    have k87 : sg_g σ8 88 87 = sg_g σ 88 87 + 2 := by rw [sg_F_g F58 (by rfl)]; exact i87
    refine m_listItems (fV_up (fEx_F F58 rfl) hu5) sL hL ⟨by omega, by omega⟩ (by rw [e8, sg_gw_e _ _ _ _ ⟨by decide, by decide⟩]) (fun σ9 h9 f9 => ?_)
    have oB8 : ∀ l, oG σ8 (s' :: S) s.1 l L.toNat = B l := fun l => by
      rw [hB]
      exact oG_e (fun y => sg_F_ga F58 rfl) (fun i => sg_F_ga F58 rfl) _
    have h9' : lG σ8 σ9 (s' :: S) (B 0) s'.2 B := lG_c h9 (oB8 0).symm (fun l => (oB8 l).symm)
    have lo9 : lnO σ9 (s' :: S) := lnO_of h9'.1 (by omega) rfl
    have h93' := h9'.1.1
    have F59 : sg_F [143, 144, 94088] σ5 σ9 := sg_F_t F58 (sg_F_m f9 rfl)
    have fv9 : fV σ9 6000 tw (s' :: S) := fV_up (fEx_F F59 rfl) (fV_up ex45 fv4)
    have p91 : sg_g σ9 88 91 = sg_g σ 88 91 := by rw [sg_F_g F59 (by rfl)]; exact i91
    have p87 : sg_g σ9 88 87 = sg_g σ 88 87 + 2 := by rw [sg_F_g F59 (by rfl)]; exact i87
    refine m_extL fv9 ⟨by decide, by decide⟩ ⟨by omega, by omega⟩ lo9 (fun t' σ10 et' f10 rt' _ => ?_)
    have t0' : 0 ≤ t' := by rw [et']; exact gT_b fv9.2.2.2.2 lo9 (by decide) (by omega) (Nat.le_refl _)
    have tb' : t' ≤ 312000000 := by rw [et']; exact gT_u fv9.2.2.2.2 lo9 (by simp only [List.length_cons]; omega) (by omega)
    have tB : t' = gFs B (K + 1) := by
      rw [et', h93', show (s' :: S).length = K + 1 by simp only [List.length_cons]; omega]
      exact gT_G (fun l _ => h9'.2.2 l)
    have F510 : sg_F [143, 144, 94088] σ5 σ10 := sg_F_t F59 (sg_F_m f10 rfl)
    have F10 : sg_F [139, 140, 141, 143, 144, 150, 88088, 94088, 103088, 104088] σ σ10 := sg_F_t (sg_F_m F5 rfl) (sg_F_m F510 rfl)
    have g84 : sg_g σ10 88 84 = sg_g σ 88 84 := sg_F_g F10 (by rfl)
    have g85 : sg_g σ10 88 85 = sg_g σ 88 85 := sg_F_g F10 (by rfl)
    refine ⟨⟨by omega, by omega⟩, m_stepped ⟨by omega, by omega⟩ ⟨by omega, by omega⟩ (fun σ' e _ ff => ⟨fun z => absurd rfl z, fun _ => k _ _ (Or.inl e) (fun x _ => by rw [sg_F_ga ff rfl, sg_F_ga F10 rfl])⟩) (fun σ11 f11 s1 s2 s3 s4 _ _ => ⟨fun _ => ⟨⟨by omega, by omega⟩, fun σ12 e12 => ⟨⟨by omega, by omega⟩, ⟨by omega, by omega⟩, fun σ13 e13 => ?_⟩⟩, fun z => by omega⟩)⟩
    have F1113 : sg_F [133] σ11 σ13 := by rw [e13, e12]; exact sg_F_w (sg_F_w (sg_F_r _ _) rfl _) rfl _
    have F513 : sg_F [133, 143, 144, 85088, 86088, 94088] σ5 σ13 := sg_F_t (sg_F_m F510 rfl) (sg_F_t (sg_F_m f11 rfl) (sg_F_m F1113 rfl))
    have q91 : sg_g σ13 88 91 = sg_g σ 88 91 := by rw [sg_F_g F513 (by rfl)]; exact i91
    have q87 : sg_g σ13 88 87 = sg_g σ 88 87 + 2 := by rw [sg_F_g F513 (by rfl)]; exact i87
    have v0 : sg_g σ13 133 (sg_g σ 88 70) = one := by rw [e13, sg_gw_k _ _ _ _ _ _ (by omega), e12, sg_gw_e _ _ _ _ r1]
    have v1 : sg_g σ13 133 (sg_g σ 88 70 + 1) = tw := by rw [e13, sg_gw_e _ _ _ _ r2]
    have vo : ∀ x, x < sg_g σ 88 70 → sg_g σ13 133 x = sg_g σ 133 x := fun x hx => by
      rw [e13, sg_gw_k _ _ _ _ _ _ (by omega), e12, sg_gw_k _ _ _ _ _ _ (by omega), sg_F_ga f11 rfl, sg_F_ga F10 rfl]
    have ex513 : fEx σ5 σ13 := fEx_F F513 rfl
    have fo : fV σ13 6000 one (r' :: R) := fV_up ex513 (fV_up ex45 (fV_up ex4 fv3))
    have ft : fV σ13 6000 tw (s' :: S) := fV_up ex513 (fV_up ex45 fv4)
    have xr := eX_b fo.2.2.2.2
    have xs := eX_b ft.2.2.2.2
    have lr : (r' :: R).length = K + 1 := by simp only [List.length_cons]; omega
    have lss : (s' :: S).length = K + 1 := by simp only [List.length_cons]; omega
    rw [lr] at xr
    rw [lss] at xs
    have jx := two_T lr lss
    have nn : ∀ l k, k < 2 → l < K + 1 → 0 ≤ ((two (r' :: R) (s' :: S) k).getD l (0, 0)).2 ∧ ((two (r' :: R) (s' :: S) k).getD l (0, 0)).2 ≤ 6000 := fun l k _ hl => by
      have : ∀ RR : List (Int × Int), fCh σ13 6000 RR → RR.length = K + 1 → 0 ≤ (RR.getD l (0, 0)).2 ∧ (RR.getD l (0, 0)).2 ≤ 6000 := fun RR h1 h2 => by
        obtain ⟨x, hx⟩ : ∃ q, RR[l]? = some q := ⟨_, List.getElem?_eq_getElem (by omega)⟩
        rw [List.getD_eq_getElem?_getD, hx]
        have := (fCh_at h1 hx).1
        exact ⟨this.2.1, this.2.2.1⟩
      unfold two
      split
      · exact this _ fo.2.2.2.2 lr
      · exact this _ ft.2.2.2.2 lss
    have jl : ∀ l, l < K + 1 → jS (two (r' :: R) (s' :: S)) l 2 ≤ 12000 := fun l h => by
      have a1 := nn l 0 (by omega) h
      have a2 := nn l 1 (by omega) h
      simp only [jS]
      omega
    refine m_join (RR := two (r' :: R) (s' :: S)) (M := 6000) (m := 2) (K := K + 1) ⟨rfl, by decide⟩ ⟨h70.1, by omega⟩ (fun k' hk' => ?_) (by omega) ⟨by omega, by omega⟩ (by decide) (by rw [jx]; omega) (fun q σ14 eq ex14 fv14 hj14 e87' e91' f14 rq _ => ?_)
    · rcases (show k' = 0 ∨ k' = 1 by omega) with e | e
      · rw [e, show sg_g σ 88 70 + ((0 : Nat) : Int) = sg_g σ 88 70 by omega, v0]
        exact ⟨fo, lr⟩
      · rw [e, show sg_g σ 88 70 + ((1 : Nat) : Int) = sg_g σ 88 70 + 1 by omega, v1]
        exact ⟨ft, lss⟩
    have fv14' := fv14 12000 jl
    rw [jx] at e91'
    have fo14 := fV_up ex14 fo
    have z0 := fV_0 fo14
    have ob := fo14.1
    have vl : v_lanesOf σ14 one = r'.2 := by unfold v_lanesOf; exact z0.2
    rw [vl]
    refine ⟨⟨⟨by omega, by omega⟩, ⟨by omega, by omega⟩, trivial⟩, fun σ15 e15 => ?_⟩
    obtain ⟨RB, hRB⟩ : ∃ RB, RB = jR (two (r' :: R) (s' :: S)) (sg_g σ13 88 91) 2 (K + 1) := ⟨_, rfl⟩
    rw [← hRB] at fv14'
    have LB : (RB.getD 0 (0, 0)).2 = r'.2 + s'.2 := by
      rw [hRB, List.getD_eq_getElem?_getD, jR_at (by omega)]
      simp only [jS, two, Option.getD_some]
      simp
    have f15 : sg_F [94088] σ14 σ15 := by rw [e15]; exact sg_F_w (sg_F_r _ _) rfl _
    have l14 : ∀ i : Int, sg_g σ14 150 i = sg_g σ2 150 i := fun i => by rw [sg_F_ga f14 rfl, sg_F_ga F513 rfl]; exact l5 i
    have ex1 : fEx σ σ14 := fEx_t ex5 (fEx_t ex513 ex14)
    have hv14 := fV_up ex1 hv
    have hu14 := fV_up ex1 hu
    have cl14 : ∀ y, 0 ≤ y → y < sg_g σ 88 91 → sg_g σ14 142 y = sg_g σ 142 y := fun y p1 p2 => ex1.2.2.2 y p1 p2
    obtain ⟨G, hG⟩ : ∃ G : Int → Nat → Int, G = fun x l => oB σ5 σ14 RB r.1 s.1 r'.2 l x.toNat := ⟨_, rfl⟩
    have G0 : ∀ x : Int, G x 0 = oB σ5 σ14 RB r.1 s.1 r'.2 0 x.toNat := fun x => by rw [hG]
    have Gs : ∀ x, 0 ≤ x → ∀ l, G (x + 1) l = G x l + (if 0 ≤ sg_g σ2 150 x then (bg σ14 RB l (cs σ r.1 (x + 1).toNat) - bg σ14 RB l (cs σ r.1 x.toNat)) + (bg σ14 RB l (r'.2 + cs σ s.1 (x + 1).toNat) - bg σ14 RB l (r'.2 + cs σ s.1 x.toNat)) else 0) := fun x x0 l => by
      rw [hG]
      simp only
      rw [oB_s x0, l5, cs5, cs5, cs5, cs5]
    have rb1 := w2.1
    have Gb : ∀ x : Nat, (x : Int) ≤ L → 0 ≤ G x 0 ∧ G x 0 ≤ cs σ r.1 x + cs σ s.1 x := fun x => by
      induction x with
      | zero => intro _; rw [hG]; exact ⟨Int.le_refl _, Int.le_refl _⟩
      | succ x ih =>
        intro h
        have i1 := ih (by omega)
        have i2 := Gs x (by omega) 0
        rw [show ((x : Int) + 1) = ((x + 1 : Nat) : Int) by omega] at i2
        obtain ⟨n1, n2, n3, n4⟩ := lna x (by omega) (by omega)
        obtain ⟨o1, o2, o3, o4⟩ := lnb x (by omega) (by omega)
        rw [show ((x : Int) + 1).toNat = x + 1 by omega, show (x : Int).toNat = x by omega] at n3 o3
        rw [show ((x + 1 : Nat) : Int).toNat = x + 1 by omega, show (x : Int).toNat = x by omega] at i2
        rw [i2]
        simp only [bg]
        split <;> omega
    refine ⟨fun m at_ be x σ3 => m = (L - x).toNat ∧ (0 ≤ x ∧ x ≤ L) ∧ at_ = cs σ r.1 x.toNat ∧ be = r'.2 + cs σ s.1 x.toNat ∧ lG σ14 σ3 RB (G x 0) (r'.2 + s'.2) (G x) ∧ (∀ i : Nat, (i : Int) < x → sg_g σ3 150 i = (if 0 ≤ sg_g σ2 150 i then sg_g σ2 150 i else 0)) ∧ ∀ i : Nat, x ≤ (i : Int) → sg_g σ3 150 i = sg_g σ2 150 i, fun σ3 => lG σ14 σ3 RB (G L 0) (r'.2 + s'.2) (G L) ∧ ∀ i : Nat, (i : Int) < L → sg_g σ3 150 i = (if 0 ≤ sg_g σ2 150 i then sg_g σ2 150 i else 0), ⟨_, rfl, ⟨by omega, by omega⟩, rfl, by simp only [show (0 : Int).toNat = 0 by rfl, cs]; omega, lG_c (lG_0 (σb := σ14) e15 (fun y => rfl)) (by rw [hG]; rfl) (fun l => by rw [hG]; rfl), fun i hi => by omega, fun i _ => by rw [sg_F_ga f15 rfl]; exact l14 i⟩, ?_, ?_⟩
    · rintro m at_ be x σ3 ra rb rx f3 ⟨en, hx, ea, eb, hg3, hz1, hz2⟩
      refine ⟨fun z => by rw [show L = x by omega]; exact ⟨hg3, hz1⟩, fun z => ?_⟩
      obtain ⟨o1, o2, o3, o4⟩ := lnb x hx.1 z
      obtain ⟨n1, n2, n3, n4⟩ := lna x hx.1 z
      have Gbx := Gb x.toNat (by omega)
      rw [show ((x.toNat : Nat) : Int) = x by omega] at Gbx
      obtain ⟨pa, va⟩ := pR hv14 ⟨by omega, by omega⟩ (i := x) ⟨by omega, by omega⟩
      obtain ⟨pb, vb⟩ := pR hu14 ⟨by omega, by omega⟩ (i := x) ⟨by omega, by omega⟩
      have lx : sg_g σ3 150 x = sg_g σ2 150 x := by
        have := hz2 x.toNat (by omega)
        rwa [show ((x.toNat : Nat) : Int) = x by omega] at this
      rw [va, vb, cl14 _ (by have := w1.1; omega) (by have := w1.2.2.2; omega), cl14 _ (by have := u1.1; omega) (by have := u1.2.2.2; omega), lx]
      obtain ⟨la, hla⟩ : ∃ la, la = sg_g σ 142 (r.1 + x) := ⟨_, rfl⟩
      obtain ⟨lb, hlb⟩ : ∃ lb, lb = sg_g σ 142 (s.1 + x) := ⟨_, rfl⟩
      rw [← hla] at n1 n3 ⊢
      rw [← hlb] at o1 o3 ⊢
      refine ⟨fun m y σ4 => m = (la - y).toNat ∧ (0 ≤ y ∧ y ≤ la) ∧ (0 ≤ sg_g σ2 150 x → lG σ14 σ4 RB (G x 0 + y) (r'.2 + s'.2) (fun l => G x l + (bg σ14 RB l (at_ + y) - bg σ14 RB l at_))) ∧ (sg_g σ2 150 x < 0 → lG σ14 σ4 RB (G x 0) (r'.2 + s'.2) (G x)), fun σ4 => (0 ≤ sg_g σ2 150 x → lG σ14 σ4 RB (G x 0 + la) (r'.2 + s'.2) (fun l => G x l + (bg σ14 RB l (at_ + la) - bg σ14 RB l at_))) ∧ (sg_g σ2 150 x < 0 → lG σ14 σ4 RB (G x 0) (r'.2 + s'.2) (G x)), ⟨_, rfl, ⟨by omega, by omega⟩, fun _ => lG_c hg3 (Int.add_zero _) (fun l => by rw [Int.add_zero]; omega), fun _ => hg3⟩, ?_, ?_⟩
      · rintro m' y σ4 ry f4 ⟨en', hy, h4, h4'⟩
        refine ⟨pa, fun c => by rw [show y = la by omega] at h4; exact ⟨h4, h4'⟩, fun c => ⟨⟨by omega, by omega⟩, fun c2 => ⟨fun c3 => by omega, h4'⟩, fun c2 => ⟨⟨by omega, by omega⟩, m_listG (h4 c2) (by omega) ⟨by omega, by omega⟩ (by omega) (by omega) (fun σ5' h5 f5' => ⟨⟨by omega, by omega⟩, _, by omega, rfl, ⟨by omega, by omega⟩, fun _ => ?_, fun c3 => by omega⟩)⟩⟩⟩
        refine lG_c h5 (by omega) (fun l => ?_)
        rw [show at_ + (y + 1) = at_ + y + 1 by omega]
        omega
      · rintro σ4 f4 ⟨h4, h4'⟩
        refine ⟨fun m y σ5' => m = (lb - y).toNat ∧ (0 ≤ y ∧ y ≤ lb) ∧ (0 ≤ sg_g σ2 150 x → lG σ14 σ5' RB (G x 0 + la + y) (r'.2 + s'.2) (fun l => G x l + (bg σ14 RB l (at_ + la) - bg σ14 RB l at_) + (bg σ14 RB l (be + y) - bg σ14 RB l be))) ∧ (sg_g σ2 150 x < 0 → lG σ14 σ5' RB (G x 0) (r'.2 + s'.2) (G x)), fun σ5' => lG σ14 σ5' RB (G (x + 1) 0) (r'.2 + s'.2) (G (x + 1)), ⟨_, rfl, ⟨by omega, by omega⟩, fun c => lG_c (h4 c) (Int.add_zero _) (fun l => by rw [Int.add_zero]; omega), h4'⟩, ?_, ?_⟩
        · rintro m' y σ5' ry f5' ⟨en', hy, h5, h5'⟩
          have fin : (0 ≤ sg_g σ2 150 x → y = lb) → lG σ14 σ5' RB (G (x + 1) 0) (r'.2 + s'.2) (G (x + 1)) := fun ey => by
            by_cases c2 : 0 ≤ sg_g σ2 150 x
            · refine lG_c (h5 c2) ?_ (fun l => ?_)
              · rw [Gs x hx.1, if_pos c2]
                simp only [bg]
                have := ey c2
                omega
              · rw [Gs x hx.1, if_pos c2, n3, o3, ea, eb, ey c2, show r'.2 + (cs σ s.1 x.toNat + lb) = r'.2 + cs σ s.1 x.toNat + lb by omega]
                omega
            · refine lG_c (h5' (by omega)) ?_ (fun l => ?_)
              · rw [Gs x hx.1, if_neg c2, Int.add_zero]
              · rw [Gs x hx.1, if_neg c2, Int.add_zero]
          refine ⟨pb, fun c => fin (fun _ => by omega), fun c => ⟨⟨by omega, by omega⟩, fun c2 => fin (fun c3 => by omega), fun c2 => ⟨⟨by omega, by omega⟩, m_listG (h5 c2) (by omega) ⟨by omega, by omega⟩ (by omega) (by omega) (fun σ6' h6'' f6' => ⟨⟨by omega, by omega⟩, _, by omega, rfl, ⟨by omega, by omega⟩, fun _ => ?_, fun c3 => by omega⟩)⟩⟩⟩
          refine lG_c h6'' (by omega) (fun l => ?_)
          rw [show be + (y + 1) = be + y + 1 by omega]
          omega
        · rintro σ5' f5' h5
          refine ⟨pa, ⟨by omega, by omega⟩, pb, ⟨by omega, by omega⟩, ⟨by omega, by omega⟩, fun v164 e164 r164 σ6' e6' => ?_⟩
          have f6' : sg_F [150] σ5' σ6' := by rw [e6']; exact sg_F_w (sg_F_r _ _) rfl _
          refine ⟨⟨by omega, by omega⟩, _, by omega, rfl, ⟨by omega, by omega⟩, by omega, by omega, lG_F f6' rfl h5, fun i hi => ?_, fun i hi => ?_⟩
          · by_cases c : (i : Int) = x
            · rw [c, e6', sg_gw_e _ _ _ _ r164, e164]
            · rw [e6', sg_gw_k _ _ _ _ _ _ (by omega), sg_F_ga f5' rfl, sg_F_ga f4 rfl]; exact hz1 i (by omega)
          · rw [e6', sg_gw_k _ _ _ _ _ _ (by omega), sg_F_ga f5' rfl, sg_F_ga f4 rfl]; exact hz2 i (by omega)
    · rintro σ16 f16 ⟨hg, hz1⟩
      have F16 : sg_F [143, 150, 94088] σ14 σ16 := sg_F_t (sg_F_m f15 rfl) f16
      have y91 : sg_g σ16 88 91 = sg_g σ 88 91 + (eX (r' :: R) + eX (s' :: S)) := by rw [sg_F_g F16 (by rfl), e91', q91]
      have y87 : sg_g σ16 88 87 = sg_g σ 88 87 + 3 := by rw [sg_F_g F16 (by rfl)]; omega
      have fv16 := fV_up (fEx_F F16 rfl) fv14'
      have lB : RB.length = K + 1 := by rw [hRB, jR_l]
      have GL : ∀ l, l < K + 1 → G L l = A l + B l := fun l hl => by
        obtain ⟨b1, b2⟩ := bg_j (c := sg_g σ13 88 91) fo.2.2.2.2 ft.2.2.2.2 lr lss hj14 l hl
        rw [← hRB] at b1 b2
        simp only [List.getD_cons_zero] at b1 b2
        have bs : ∀ (R : List (Int × Int)) (j : Int), bg σ13 R l j = bg σ5 R l j := fun R j => bg_F F513 rfl l j
        rw [hG, hA, hB]
        refine oB_o (n2 := s'.2) (c0 := ((r' :: R).getD l (0, 0)).2) (fun j x y => by rw [b1 j x y, bs]) (fun j x y => by rw [b2 j x y, bs]) L.toNat (fun i hi => ?_)
        rw [cs5, cs5]
        refine ⟨⟨cs_0 ln (by omega), ?_⟩, cs_0 lns (by omega), ?_⟩
        · rw [e1]; exact (cs_m ln hi (by omega)).1
        · rw [e1s]; exact (cs_m lns hi (by omega)).1
      have gt : gT σ16 RB (G L 0).toNat RB.length = t + t' := by
        rw [lB, gT_G (fun l _ => hg.2.2 l), gFs_a GL, ← tA, ← tB]
      have GbL := Gb L.toNat (by omega)
      rw [show ((L.toNat : Nat) : Int) = L by omega] at GbL
      have lse : ∀ x : Nat, (x : Int) ≤ L → ls σ16 x = G x 0 := fun x => by
        induction x with
        | zero => intro _; rw [hG]; rfl
        | succ x ih =>
          intro h
          have i2 := Gs x (by omega) 0
          obtain ⟨n1, n2, n3, n4⟩ := lna x (by omega) (by omega)
          obtain ⟨o1, o2, o3, o4⟩ := lnb x (by omega) (by omega)
          rw [show ((x + 1 : Nat) : Int) = (x : Int) + 1 by omega, i2]
          simp only [ls]
          rw [ih (by omega), hz1 x (by omega)]
          simp only [bg]
          rcases hz x (by omega) with e | ⟨e, -⟩
          · rw [e]; simp
          · rw [e]
            split <;> omega
      have lseL := lse L.toNat (by omega)
      rw [show ((L.toNat : Nat) : Int) = L by omega] at lseL
      have hzz : ∀ i : Nat, (i : Int) < L → 0 ≤ sg_g σ16 150 i ∧ sg_g σ16 150 i ≤ 200 := fun i hi => by
        rw [hz1 i hi]
        rcases hz i hi with y | ⟨y, y'⟩
        · rw [y]; decide
        · split <;> omega
      refine m_tail (M := 12000) fv16 (by omega) ⟨by decide, by decide⟩ (by omega) ⟨by omega, by omega⟩ (by rw [LB]; exact hg.1) (by omega) hL lseL.symm hzz (by omega) (by omega) (fun q' σ17 ex17 e91'' e87'' f17 hf => ?_)
      obtain ⟨R', y1, y2, y3, y4⟩ := hf
      rw [gt] at e91'' y4
      have F1117 : sg_F [133, 139, 140, 141, 142, 143, 144, 150, 88088, 92088, 94088] σ11 σ17 := sg_F_t (sg_F_m F1113 rfl) (sg_F_t (sg_F_m f14 rfl) (sg_F_t (sg_F_m F16 rfl) (sg_F_m f17 rfl)))
      have F217 : sg_F [139, 140, 141, 143, 144, 88088, 94088] σ2 σ10 := sg_F_t (sg_F_m F25 rfl) (sg_F_m F510 rfl)
      have q17 : fq σ17 := fq_F F1117 rfl (fq_F f11 rfl (fq_F F217 rfl hq2))
      have v17 : ∀ x, x < sg_g σ 88 70 → sg_g σ17 133 x = sg_g σ 133 x := fun x hx => by
        rw [sg_F_ga f17 rfl, sg_F_ga F16 rfl, sg_F_ga f14 rfl]; exact vo x hx
      have e102 : sg_g σ17 88 102 = sg_g σ2 88 102 := by rw [sg_F_g F1117 (by rfl), sg_F_g f11 (by rfl), sg_F_g F217 (by rfl)]
      refine k q' σ17 ?_ v17
      by_cases cf : 0 ≤ sg_g σ17 88 102
      · exact Or.inr ⟨q17, Or.inl cf⟩
      · have all := hz0 (by omega)
        have xA : eX (r' :: R) = t := by
          rw [tA, eX_D, lr]
          refine (gFs_D (fun l hl => ?_)).symm
          obtain ⟨x, hx⟩ : ∃ q, (r' :: R)[l]? = some q := ⟨_, List.getElem?_eq_getElem (by omega)⟩
          rw [hA]
          simp only
          rw [oG_all (fun i hi => by rw [l5]; exact all i (by omega)), cs5, ← e1, List.getD_eq_getElem?_getD, hx]
          have := bg_L (σ := σ5) (M := 6000) (R := r' :: R) (fCh_up ex5 hv.2.2.2.2.2.2) hx
          exact this
        have xB : eX (s' :: S) = t' := by
          rw [tB, eX_D, lss]
          refine (gFs_D (fun l hl => ?_)).symm
          obtain ⟨x, hx⟩ : ∃ q, (s' :: S)[l]? = some q := ⟨_, List.getElem?_eq_getElem (by omega)⟩
          rw [hB]
          simp only
          rw [oG_all (fun i hi => by rw [l5]; exact all i (by omega)), cs5, ← e1s, List.getD_eq_getElem?_getD, hx]
          have := bg_L (σ := σ5) (M := 6000) (R := s' :: S) (fCh_up ex5 hu.2.2.2.2.2.2) hx
          exact this
        exact opR_mk (σ1 := σ11) (a := L + t + t') (by rw [s1, g84]) s2 (by rw [s3, g85]) s4 (ar_c3 hL.1 t0 t0') F1117 rfl q17 (fEx_t ex5 (fEx_t ex513 (fEx_t ex14 (fEx_t (fEx_F F16 rfl) ex17)))) (ar_c1 e91'' (by rw [y91, xA, xB]) c3.2 hL.1) (ar_c2 e87'' y87) ⟨R', y1, by rw [y2, lB], y3, by rw [y4]; exact ar_c4⟩
end FR
