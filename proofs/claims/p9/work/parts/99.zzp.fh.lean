/-! flat ops: INDEX, IOTA, DIST. -/
theorem bg_F {l : List Nat} {σ σ' : sg_S} {R : List (Int × Int)} (F : sg_F l σ σ') (hl : sg_ca l 142 = true) : ∀ (r : Nat) (i : Int), bg σ' R r i = bg σ R r i
  | 0, i => rfl
  | r + 1, i => by
    simp only [bg]
    rw [bg_F F hl r i]
    exact cs_e (fun j _ => sg_F_ga F hl)
theorem gd_F {l : List Nat} {σ σ' : sg_S} {R : List (Int × Int)} (F : sg_F l σ σ') (hl : sg_ca l 142 = true) (hk : sg_ca l 143 = true) (r j : Nat) : gd σ' R r j = gd σ R r j := by
  unfold gd
  rw [sg_F_ga F hk, bg_F F hl, bg_F F hl]
theorem gsum_F {l : List Nat} {σ σ' : sg_S} {R : List (Int × Int)} (F : sg_F l σ σ') (hl : sg_ca l 142 = true) (hk : sg_ca l 143 = true) (r : Nat) : ∀ j, gsum σ' R r j = gsum σ R r j
  | 0 => rfl
  | j + 1 => by simp only [gsum]; rw [gsum_F F hl hk r j, gd_F F hl hk]
theorem gT_F {l : List Nat} {σ σ' : sg_S} {R : List (Int × Int)} (F : sg_F l σ σ') (hl : sg_ca l 142 = true) (hk : sg_ca l 143 = true) (J : Nat) : ∀ r, gT σ' R J r = gT σ R J r
  | 0 => rfl
  | r + 1 => by simp only [gT]; rw [gT_F F hl hk J r, gsum_F F hl hk]
section FH
variable {σ : sg_S} {M : Int}
/-- a value with rows below -/
theorem fL_1 {K : Nat} {L v : Int} (a : fL σ (K + 1) L v) : ∃ r r' R, fV σ 6000 v (r :: r' :: R) ∧ R.length = K ∧ r.2 = L ∧ fLn σ r ∧ r'.2 = cs σ r.1 L.toNat ∧ fRw σ 6000 r ∧ fRw σ 6000 r' := by
  obtain ⟨r, R, a1, a2, a3⟩ := fL_c a
  cases R with
  | nil => simp at a2
  | cons r' R =>
    obtain ⟨b1, b2, b3⟩ := a1.2.2.2.2
    exact ⟨r, r', R, a1, by simpa using a2, a3, b2.1, by rw [← a3]; exact b2.2, b1, b3.1⟩
theorem cs_s {p i : Int} (h : 0 ≤ i) : cs σ p (i + 1).toNat = cs σ p i.toNat + sg_g σ 142 (p + i) := by
  rw [show (i + 1).toNat = i.toNat + 1 by omega]
  simp only [cs]
  rw [show ((i.toNat : Nat) : Int) = i by omega]
/-- lengths and their sums, of a row of lengths -/
theorem ln_b {r r' : Int × Int} {L i : Int} (h : fLn σ r) (e : r'.2 = cs σ r.1 L.toNat) (eL : r.2 = L) (hi : 0 ≤ i ∧ i < L) : (0 ≤ sg_g σ 142 (r.1 + i) ∧ sg_g σ 142 (r.1 + i) ≤ 200) ∧ 0 ≤ cs σ r.1 i.toNat ∧ cs σ r.1 (i + 1).toNat = cs σ r.1 i.toNat + sg_g σ 142 (r.1 + i) ∧ cs σ r.1 (i + 1).toNat ≤ r'.2 := by
  refine ⟨h i hi.1 (by omega), cs_0 h (by omega), cs_s hi.1, ?_⟩
  rw [e]
  exact (cs_m h (by omega) (by omega)).1
theorem m_fIndex {L a b : Int} {K K' : Nat} {Q : Int → sg_S → Prop} (hC : fC σ) (ha : fL σ (K + 1) L a) (hb : fL σ K' L b) (hq : fq σ) (k : ∀ q σ', opR σ σ' K L q → Q q σ') : V_flatIndex σ a b L Q := by
  have hL := fL_L ha
  obtain ⟨c1, c2, c3, c4⟩ := hC
  obtain ⟨r, r', R, hv, hR, rL, ln, e1, w1, w2⟩ := fL_1 ha
  obtain ⟨s, S, hu, hS, sL⟩ := fL_c hb
  have K3 : K ≤ 2 := by have := hv.2.1.2; simp only [List.length_cons] at this; omega
  unfold V_flatIndex
  refine m_inner ⟨by omega, by omega⟩ hv (by simp) (fun q σ2 eq ex2 fv2 e87 f2 _ _ σ7 e7 => ?_)
  have f7 : sg_F [94088] σ2 σ7 := by rw [e7]; exact sg_F_w (sg_F_r _ _) rfl _
  have e91 : sg_g σ2 88 91 = sg_g σ 88 91 := sg_F_g f2 (by rfl)
  have hv2 := fV_up ex2 hv
  have hu2 := fV_up ex2 hu
  have ln2 : fLn σ2 r := hv2.2.2.2.2.2.1.1
  have e12 : r'.2 = cs σ2 r.1 L.toNat := by rw [← rL]; exact hv2.2.2.2.2.2.1.2
  have w22 := w2.2
  refine ⟨fun m at_ x σ3 => m = (L - x).toNat ∧ (0 ≤ x ∧ x ≤ L) ∧ at_ = cs σ2 r.1 x.toNat ∧ fq σ3 ∧ lO σ3 x r'.2, fun σ3 => fq σ3 ∧ lO σ3 L r'.2, ⟨_, rfl, ⟨by omega, by omega⟩, rfl, fq_F f7 rfl (fq_F f2 rfl hq), lO_0 e7⟩, ?_, ?_⟩
  · rintro m at_ x σ3 ra rx f3 ⟨en, hx, ea, hq3, hl3⟩
    refine ⟨fun z => by rw [show L = x by omega]; exact ⟨hq3, hl3⟩, fun z => ?_⟩
    obtain ⟨pa, va⟩ := pR hv2 ⟨by omega, by omega⟩ (i := x) ⟨by omega, by omega⟩
    obtain ⟨pb, vb⟩ := pR hu2 ⟨by omega, by omega⟩ (i := x) ⟨by omega, by omega⟩
    obtain ⟨n1, n2, n3, n4⟩ := ln_b ln2 e12 rL (i := x) ⟨by omega, by omega⟩
    rw [va, vb]
    refine ⟨pb, pa, ⟨by omega, by omega⟩, fun σ4 => fq σ4, ⟨fun _ => hq3, fun _ => m_lacks ⟨by omega, rx⟩ ⟨by decide, by decide, by decide⟩ hq3 (fun σ5 _ h5 _ => h5)⟩, fun σ4 f4 hq4 => ⟨⟨fun _ => trivial, fun c => ?_⟩, fun v60 e60 r60 => ?_⟩⟩
    · unfold v_in at c
      refine ⟨pb, ⟨?_, ?_⟩, trivial⟩ <;> (split at c; · omega) <;> (split at c <;> omega)
    · have : v60 < r'.2 := by
        rw [e60]
        unfold v_in
        split <;> split <;> (try split) <;> omega
      refine m_list (lO_F f4 rfl hl3) (by omega) r60 this (fun σ5 h5 f5 => ⟨pa, ⟨by omega, by omega⟩, ⟨by omega, by omega⟩, _, by omega, rfl, ⟨by omega, by omega⟩, by omega, fq_F f5 rfl hq4, h5⟩)
  · rintro σ3 f3 ⟨hq3, hl3⟩
    have f37 := sg_F_t (sg_F_m (L := [143, 94088, 103088, 104088]) f7 rfl) f3
    have lo : lnO σ3 (r' :: R) := lnO_of hl3 (by omega) rfl
    have fv3 := fV_up (fEx_F f37 rfl) fv2
    have g91 : sg_g σ3 88 91 = sg_g σ 88 91 := by rw [sg_F_g f37 (by rfl)]; exact e91
    have g87 : sg_g σ3 88 87 = sg_g σ 88 87 + 1 := by rw [sg_F_g f37 (by rfl)]; exact e87
    have g84 : sg_g σ3 88 84 = sg_g σ 88 84 := by rw [sg_F_g f37 (by rfl)]; exact sg_F_g f2 (by rfl)
    have g85 : sg_g σ3 88 85 = sg_g σ 88 85 := by rw [sg_F_g f37 (by rfl)]; exact sg_F_g f2 (by rfl)
    have h93 := hl3.1
    refine m_extL fv3 ⟨by decide, by decide⟩ ⟨by omega, by omega⟩ lo (fun t σ4 et f4 rt _ => ?_)
    have t0 : 0 ≤ t := by rw [et]; exact gT_b fv3.2.2.2.2 lo (by decide) (by omega) (Nat.le_refl _)
    have h84 : sg_g σ4 88 84 = sg_g σ 88 84 := by rw [sg_F_g f4 (by rfl)]; exact g84
    have h85 : sg_g σ4 88 85 = sg_g σ 88 85 := by rw [sg_F_g f4 (by rfl)]; exact g85
    by_cases tb : t ≤ 1000000000
    rotate_left
    · exfalso
      have hj : (sg_g σ3 88 93).toNat ≤ 6000 := by omega
      have hb : ∀ l : Nat, l ≤ (r' :: R).length → ∀ j : Nat, (j : Int) ≤ sg_g σ3 88 93 → gT σ3 (r' :: R) j l ≤ 6000 * l * j := fun l hl j => by
        induction j with
        | zero => intro _; rw [gT_z]; simp
        | succ j ih =>
          intro hj
          have i1 := ih (by omega)
          have i2 := eT_b fv3.2.2.2.2 lo (j := j) (by omega) (by decide) hl
          rw [gT_s, show ((j + 1 : Nat) : Int) = (j : Int) + 1 by omega, Int.mul_add, Int.mul_one]
          omega
      have hb1 := hb _ (Nat.le_refl _) (sg_g σ3 88 93).toNat (by omega)
      have l3 : (r' :: R).length ≤ 3 := by simp only [List.length_cons]; omega
      have : (6000 : Int) * ((r' :: R).length : Int) * ((sg_g σ3 88 93).toNat : Int) ≤ 18000 * 6000 := Int.mul_le_mul (by omega) (by omega) (by omega) (by omega)
      omega
    refine m_stepped ⟨by omega, by omega⟩ ⟨t0, tb⟩ (fun σ' e _ _ => ⟨fun _ => k _ _ (Or.inl e), fun z => absurd rfl z⟩) (fun σ5 f5 s1 s2 s3 s4 _ _ => ⟨fun z => by omega, fun _ => ?_⟩)
    have f45 : sg_F [144, 85088, 86088] σ3 σ5 := sg_F_t (sg_F_m f4 rfl) (sg_F_m f5 rfl)
    have i91 : sg_g σ5 88 91 = sg_g σ 88 91 := by rw [sg_F_g f45 (by rfl)]; exact g91
    have i87 : sg_g σ5 88 87 = sg_g σ 88 87 + 1 := by rw [sg_F_g f45 (by rfl)]; exact g87
    have i93 : sg_g σ5 88 93 = L := by rw [sg_F_g f45 (by rfl)]; exact h93
    have lo5 : lnO σ5 (r' :: R) := lnO_of (lO_F f45 rfl hl3) (by omega) rfl
    have fv5 := fV_up (fEx_F f45 rfl) fv3
    have et5 : gT σ5 (r' :: R) (sg_g σ5 88 93).toNat (r' :: R).length = t := by rw [et, gT_F f45 rfl rfl, i93, h93]
    have gl : ∀ l, l < (r' :: R).length → gsum σ5 (r' :: R) l (sg_g σ5 88 93).toNat ≤ 6000 := fun l h => by
      have a1 := gT_l fv5.2.2.2.2 lo5 (by decide) (j := (sg_g σ5 88 93).toNat) (by omega) h
      have a2 := gT_b fv5.2.2.2.2 lo5 (by decide) (j := (sg_g σ5 88 93).toNat) (by omega) (l := l) (by omega)
      omega
    refine m_gath fv5 ⟨by decide, by decide⟩ (by omega) ⟨by omega, by omega⟩ lo5 (by omega) (fun w σ6 ew ex6 fv6 e87' e91' f6 rw' _ => ?_)
    obtain ⟨r0, R0, er, er2, el⟩ := gR_c (σ := σ5) (R := r' :: R) (by simp)
    have ex35 := fEx_F f45 rfl
    refine k w σ6 (opR_mk (σ1 := σ5) (a := t) (by omega) s2 (by omega) s4 t0 f6 rfl (fq_F f6 rfl (fq_F f45 rfl hq3)) (fEx_t (fEx_t ex2 (fEx_F f37 rfl)) (fEx_t ex35 ex6)) (by omega) (by omega) ⟨_, fv6 6000 gl, by rw [er]; simp only [List.length_cons]; simp only [List.length_cons] at el; omega, by rw [er]; simp only [List.getD_cons_zero]; omega, by rw [eX_g]; omega⟩)
end FH
