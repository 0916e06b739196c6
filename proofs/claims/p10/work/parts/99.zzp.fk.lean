/-! flat ops: IOTA, REV. -/
theorem ls_m {σ : sg_S} {L : Int} (hz : ∀ i : Nat, (i : Int) < L → 0 ≤ sg_g σ 150 i ∧ sg_g σ 150 i ≤ 200) {x : Int} (h1 : 0 ≤ x) (h2 : x < L) : 0 ≤ ls σ x.toNat ∧ ls σ (x + 1).toNat = ls σ x.toNat + sg_g σ 150 x ∧ ls σ (x + 1).toNat ≤ ls σ L.toNat ∧ 0 ≤ sg_g σ 150 x ∧ sg_g σ 150 x ≤ 200 := by
  have hx := hz x.toNat (by omega)
  rw [show ((x.toNat : Nat) : Int) = x by omega] at hx
  refine ⟨(ls_b (n := x.toNat) (fun i hi => hz i (by omega))).1, ?_, ?_, hx⟩
  · rw [show (x + 1).toNat = x.toNat + 1 by omega]
    simp only [ls]
    rw [show ((x.toNat : Nat) : Int) = x by omega]
  · have : ∀ d : Nat, x.toNat + 1 + d ≤ L.toNat → ls σ (x + 1).toNat ≤ ls σ (x.toNat + 1 + d) := fun d => by
      induction d with
      | zero => intro _; rw [show (x + 1).toNat = x.toNat + 1 + 0 by omega]; exact Int.le_refl _
      | succ d ih =>
        intro h
        have i1 := ih (by omega)
        have i2 := (hz (x.toNat + 1 + d) (by omega)).1
        rw [show x.toNat + 1 + (d + 1) = (x.toNat + 1 + d) + 1 by omega]
        simp only [ls]
        omega
    have h := this (L.toNat - (x.toNat + 1)) (by omega)
    rwa [show x.toNat + 1 + (L.toNat - (x.toNat + 1)) = L.toNat by omega] at h
section FK
variable {σ : sg_S} {M : Int}
theorem m_fIota {L b : Int} {K' : Nat} {Q : Int → sg_S → Prop} (hC : fC σ) (hb : fL σ K' L b) (hq : fq σ) (k : ∀ q σ', opR σ σ' 1 L q → Q q σ') : V_flatIota σ b L Q := by
  have hL := fL_L hb
  obtain ⟨c1, c2, c3, c4⟩ := hC
  obtain ⟨s, S, hu, hS, sL⟩ := fL_c hb
  unfold V_flatIota
  refine ⟨fun m sm x σ3 => m = (L - x).toNat ∧ (0 ≤ x ∧ x ≤ L) ∧ sm = L + ls σ3 x.toNat ∧ fq σ3 ∧ ∀ i : Nat, (i : Int) < x → 0 ≤ sg_g σ3 150 i ∧ sg_g σ3 150 i ≤ 200, fun sm σ3 => sm = L + ls σ3 L.toNat ∧ fq σ3 ∧ ∀ i : Nat, (i : Int) < L → 0 ≤ sg_g σ3 150 i ∧ sg_g σ3 150 i ≤ 200, ⟨_, rfl, ⟨by omega, by omega⟩, by simp only [show (0 : Int).toNat = 0 by rfl, ls]; omega, hq, fun i hi => by omega⟩, ?_, ?_⟩
  · rintro m sm x σ3 rs rx f3 ⟨en, hx, es, hq3, hz⟩
    refine ⟨fun z => by rw [show L = x by omega]; exact ⟨by omega, hq3, hz⟩, fun z => ?_⟩
    obtain ⟨pb, vb⟩ := pR hu ⟨by omega, by omega⟩ (i := x) ⟨by omega, by omega⟩
    rw [vb]
    refine ⟨pb, fun σ4 => fq σ4, ⟨fun _ => hq3, fun _ => m_lacks ⟨by omega, rx⟩ ⟨by decide, by decide, by decide⟩ hq3 (fun σ5 _ h5 _ => h5)⟩, fun σ4 f4 hq4 => ⟨⟨fun _ => trivial, fun c => ⟨pb, trivial⟩⟩, fun v97 e97 r97 => ⟨⟨by omega, by omega⟩, fun σ5 e5 => ?_⟩⟩⟩
    have vb2 : 0 ≤ v97 ∧ v97 ≤ 200 := by
      rw [e97]
      unfold v_in
      constructor <;> split <;> split <;> (try split) <;> omega
    obtain ⟨w1, w2, w3⟩ := ls_w e5 (by omega) r97
    have l4 : ls σ4 x.toNat = ls σ3 x.toNat := ls_e (fun i _ => sg_F_ga f4 rfl)
    have lb := ls_b (σ := σ3) (n := x.toNat) (fun i hi => hz i (by omega))
    rw [w3]
    refine ⟨⟨by omega, by omega⟩, ⟨by omega, by omega⟩, _, by omega, rfl, ⟨by omega, by omega⟩, by omega, fq_F (l := [150]) (by rw [e5]; exact sg_F_w (sg_F_r _ _) rfl _) rfl hq4, fun i hi => ?_⟩
    by_cases c : (i : Int) = x
    · rw [c, w3]; exact vb2
    · rw [w2 i (by omega), sg_F_ga f4 rfl]; exact hz i (by omega)
  · rintro sm σ3 rs f3 ⟨es, hq3, hz⟩
    have lb := ls_b (σ := σ3) (n := L.toNat) (fun i hi => hz i (by omega))
    have g84 : sg_g σ3 88 84 = sg_g σ 88 84 := sg_F_g f3 (by rfl)
    have g85 : sg_g σ3 88 85 = sg_g σ 88 85 := sg_F_g f3 (by rfl)
    have g91 : sg_g σ3 88 91 = sg_g σ 88 91 := sg_F_g f3 (by rfl)
    have g87 : sg_g σ3 88 87 = sg_g σ 88 87 := sg_F_g f3 (by rfl)
    refine m_stepped ⟨by omega, by omega⟩ ⟨by omega, by omega⟩ (fun σ' e _ _ => ⟨fun z => absurd rfl z, fun _ => k _ _ (Or.inl e)⟩) (fun σ5 f5 s1 s2 s3 s4 _ _ => ⟨fun _ => ?_, fun z => by omega⟩)
    have h91 : sg_g σ5 88 91 = sg_g σ 88 91 := by rw [sg_F_g f5 (by rfl)]; exact g91
    have h87 : sg_g σ5 88 87 = sg_g σ 88 87 := by rw [sg_F_g f5 (by rfl)]; exact g87
    refine m_putLens ⟨by omega, by omega⟩ ⟨by omega, by omega⟩ (fun i hi => by rw [sg_F_ga f5 rfl]; exact hz i hi) (fun σ6 h6 f6 r6 _ => ?_)
    have ex6 := gH_ex h6 f6
    obtain ⟨⟨p1, p2⟩, p3, p4⟩ := h6
    obtain ⟨p5, p6⟩ := p4 trivial
    have lse : ls σ5 L.toNat = ls σ3 L.toNat := ls_e (fun i _ => sg_F_ga f5 rfl)
    have i87 : sg_g σ6 88 87 = sg_g σ 88 87 := by rw [sg_F_g f6 (by rfl)]; exact h87
    refine ⟨fun m x σ7 => m = (L - x).toNat ∧ (0 ≤ x ∧ x ≤ L) ∧ ∃ t, gH σ6 (sg_g σ6 88 91) False (ls σ3 x.toNat) t σ7, fun σ7 => ∃ t, gH σ6 (sg_g σ6 88 91) False (ls σ3 L.toNat) t σ7, ⟨_, rfl, ⟨by omega, by omega⟩, 0, gH_0 _ _⟩, ?_, ?_⟩
    · rintro m x σ7 rx f7 ⟨en, hx, t, hG⟩
      refine ⟨fun z => ⟨t, by rw [show L = x by omega]; exact hG⟩, fun z => ?_⟩
      obtain ⟨l1, l2, l3, l4⟩ := ls_m hz hx.1 z
      refine ⟨fun m y σ8 => m = (sg_g σ3 150 x - y).toNat ∧ (0 ≤ y ∧ y ≤ sg_g σ3 150 x) ∧ ∃ t, gH σ6 (sg_g σ6 88 91) False (ls σ3 x.toNat + y) t σ8, fun σ8 => ∃ t, gH σ6 (sg_g σ6 88 91) False (ls σ3 (x + 1).toNat) t σ8, ⟨_, rfl, ⟨by omega, by omega⟩, t, by rw [Int.add_zero]; exact hG⟩, ?_, ?_⟩
      · rintro m' y σ8 ry f8 ⟨en', hy, t', hG8⟩
        refine ⟨⟨by omega, by omega⟩, fun z' => ⟨t', ?_⟩, fun z' => m_put hG8 (by omega) (by omega) ry (fun b => b.elim) (fun σ9 h9 _ => ⟨⟨by omega, by omega⟩, _, by omega, rfl, ⟨by omega, by omega⟩, t' + y, ?_⟩)⟩
        · rw [l2, show sg_g σ3 150 x = y by omega]; exact hG8
        · rw [← Int.add_assoc]; exact h9
      · rintro σ8 f8 hG8
        exact ⟨⟨by omega, by omega⟩, _, by omega, rfl, ⟨by omega, by omega⟩, hG8⟩
    · rintro σ7 f7 ⟨t, hG⟩
      have j87 : sg_g σ7 88 87 = sg_g σ 88 87 := by rw [sg_F_g f7 (by rfl)]; exact i87
      refine m_nums hG (sg_F_m f7 rfl) rfl ⟨by omega, by omega⟩ ⟨by omega, by omega⟩ ⟨by omega, by omega⟩ (fun q σ8 x1 x2 x3 x4 x5 _ _ => ?_)
      have cse : ∀ i : Nat, (i : Int) ≤ L → cs σ8 (sg_g σ5 88 91) i = cs σ6 (sg_g σ5 88 91) i := fun i hi => cs_up x1 (by omega) (by omega)
      refine m_outer (M := 6000) ⟨by omega, by omega⟩ x5 (by simp) ⟨r6, ⟨by omega, by omega⟩⟩ ⟨by simp only; omega, by simp only; omega, by simp only; omega, by simp only; omega⟩ (fun i y z => by rw [x1.2.2.2 _ (by simp only at y z ⊢; omega) (by simp only at y z ⊢; omega)]; exact p5 i y z) (by rw [cse _ (by omega), p6, lse]) (fun q2 σ9 e9 ex9 fv9 e87' f9 _ _ => ?_)
      have j91 : sg_g σ9 88 91 = sg_g σ8 88 91 := sg_F_g f9 (by rfl)
      refine k q2 σ9 (opR_mk (σ1 := σ5) (a := sm) (by omega) s2 (by omega) s4 (by omega) (sg_F_t (sg_F_m (L := [139, 140, 141, 142, 88088, 92088]) f6 rfl) (sg_F_t (sg_F_m f7 rfl) (sg_F_t (sg_F_m x4 rfl) (sg_F_m f9 rfl)))) rfl (fq_F f9 rfl (fq_F x4 rfl (fq_F f7 rfl (fq_F f6 rfl (fq_F f5 rfl hq3))))) (fEx_t (fEx_F f3 rfl) (fEx_t (fEx_F f5 rfl) (fEx_t ex6 (fEx_t x1 ex9)))) (by omega) (by omega) ⟨_, fv9, rfl, rfl, by simp only [eX]; omega⟩)
theorem m_fRev {L a : Int} {K : Nat} {Q : Int → sg_S → Prop} (hC : fC σ) (ha : fL σ (K + 1) L a) (hq : fq σ) (k : ∀ q σ', opR σ σ' (K + 1) L q → Q q σ') : V_flatRev σ a L Q := by
  have hL := fL_L ha
  obtain ⟨c1, c2, c3, c4⟩ := hC
  obtain ⟨r, r', R, hv, hR, rL, ln, e1, w1, w2⟩ := fL_1 ha
  have K3 : K ≤ 2 := by have := hv.2.1.2; simp only [List.length_cons] at this; omega
  unfold V_flatRev
  refine m_extent hv ⟨by decide, by decide⟩ (by omega) (fun _ => ?_)
  have xb := eX_b hv.2.2.2.2
  have xl : (6000 : Int) * ((r :: r' :: R).length : Int) ≤ 24000 := by simp only [List.length_cons]; omega
  refine m_stepped ⟨c1, c2⟩ ⟨by omega, by omega⟩ (fun σ' e _ _ => ⟨fun z => absurd rfl z, fun _ => k _ _ (Or.inl e)⟩) (fun σ5 f5 s1 s2 s3 s4 _ _ => ⟨fun _ => ?_, fun z => by omega⟩)
  intro σ7 e7
  have f7 : sg_F [85088, 86088, 94088] σ σ7 := sg_F_t (sg_F_m f5 rfl) (by rw [e7]; exact sg_F_w (sg_F_r _ _) rfl _)
  have w22 := w2.2
  refine ⟨fun m at_ x σ3 => m = (L - x).toNat ∧ (0 ≤ x ∧ x ≤ L) ∧ at_ = cs σ r.1 x.toNat ∧ lD σ3 at_ (fun y => 0 ≤ y ∧ y < at_), fun σ3 => lD σ3 r'.2 (fun y => 0 ≤ y ∧ y < r'.2), ⟨_, rfl, ⟨by omega, by omega⟩, rfl, lD_0 e7⟩, ?_, ?_⟩
  · rintro m at_ x σ3 ra rx f3 ⟨en, hx, ea, hl3⟩
    refine ⟨fun z => ?_, fun z => ?_⟩
    · have : at_ = r'.2 := by rw [ea, e1, show x = L by omega]
      rw [← this]; exact hl3
    obtain ⟨pa, va⟩ := pR hv ⟨by omega, by omega⟩ (i := x) ⟨by omega, by omega⟩
    obtain ⟨n1, n2, n3, n4⟩ := ln_b ln e1 rL (i := x) ⟨by omega, by omega⟩
    rw [va]
    obtain ⟨len, hlen⟩ : ∃ len, len = sg_g σ 142 (r.1 + x) := ⟨_, rfl⟩
    rw [← hlen] at n1 n3 ⊢
    refine ⟨pa, ⟨by omega, by omega⟩, fun m y σ4 => m = (y + 1).toNat ∧ (-1 ≤ y ∧ y < len) ∧ lD σ4 (at_ + (len - 1 - y)) (fun u => (0 ≤ u ∧ u < at_) ∨ (at_ + y < u ∧ u < at_ + len)), fun σ4 => lD σ4 (at_ + len) (fun u => 0 ≤ u ∧ u < at_ + len), ⟨_, rfl, ⟨by omega, by omega⟩, ?_⟩, ?_, ?_⟩
    · rw [show at_ + (len - 1 - (len - 1)) = at_ by omega]
      exact lD_w hl3 (fun u hu => Or.inl hu)
    · rintro m' y σ4 ry f4 ⟨en', hy, hl4⟩
      refine ⟨fun z' => ?_, fun z' => ⟨⟨by omega, by omega⟩, m_listD hl4 (by omega) ⟨by omega, by omega⟩ (by omega) (fun σ6 h6 f6 => ⟨⟨by omega, by omega⟩, _, ?_, rfl, ⟨by omega, by omega⟩, ?_⟩)⟩⟩
      · rw [show at_ + (len - 1 - y) = at_ + len by omega] at hl4
        exact lD_w hl4 (fun u hu => by omega)
      · omega
      · rw [show at_ + (len - 1 - (y + -1)) = at_ + (len - 1 - y) + 1 by omega]
        exact lD_w h6 (fun u hu => by omega)
    · intro σ4 f4 hl4
      refine ⟨pa, ⟨by omega, by omega⟩, ⟨by omega, by omega⟩, _, by omega, rfl, ⟨by omega, by omega⟩, by omega, hl4⟩
  · intro σ3 f3 hl3
    have F : sg_F [143, 85088, 86088, 94088] σ σ3 := sg_F_t (sg_F_m f7 rfl) (sg_F_m f3 rfl)
    have exF := fEx_F F rfl
    have g91 : sg_g σ3 88 91 = sg_g σ 88 91 := sg_F_g F (by rfl)
    have g87 : sg_g σ3 88 87 = sg_g σ 88 87 := sg_F_g F (by rfl)
    refine m_inner ⟨by omega, by omega⟩ (fV_up exF hv) (by simp) (fun q σ4 eq ex4 fv4 e87 f4 _ _ => ?_)
    have h91 : sg_g σ4 88 91 = sg_g σ 88 91 := by rw [sg_F_g f4 (by rfl)]; exact g91
    have hd := lD_F f4 rfl hl3
    have lo : lnO σ4 (r' :: R) := lnO_of (lD_O hd (fun x h => h.2)) (by omega) rfl
    have gt := gT_d fv4.2.2.2.2 hd (fun x h => h) rfl
    have h93 := hd.1
    have xe : eX (r :: r' :: R) = L + eX (r' :: R) := by simp only [eX]; omega
    have gl : ∀ l, l < (r' :: R).length → gsum σ4 (r' :: R) l (sg_g σ4 88 93).toNat ≤ 6000 := fun l h => by
      have a1 := gT_l fv4.2.2.2.2 lo (by decide) (j := (sg_g σ4 88 93).toNat) (by omega) h
      have a2 := gT_b fv4.2.2.2.2 lo (by decide) (j := (sg_g σ4 88 93).toNat) (by omega) (l := l) (by omega)
      rw [h93] at a1 a2 ⊢
      omega
    have gt0 := gT_b fv4.2.2.2.2 lo (by decide) (j := (sg_g σ4 88 93).toNat) (by omega) (l := (r' :: R).length) (Nat.le_refl _)
    rw [← h93] at gt
    refine m_gath fv4 ⟨by decide, by decide⟩ (by omega) ⟨by omega, by omega⟩ lo (by omega) (fun w σ6 ew ex6 fv6 e87' e91' f6 rw' _ => ?_)
    obtain ⟨r0, R0, er, er2, el⟩ := gR_c (σ := σ4) (R := r' :: R) (by simp)
    have fv6' := fv6 6000 gl
    rw [er] at fv6'
    have hv6 := fV_up (fEx_t exF (fEx_t ex4 ex6)) hv
    have z0 := fV_0 hv6
    rw [z0.1]
    obtain ⟨y1, y2, y3⟩ := hv6.2.2.2.2
    have vb := hv.1
    simp only [List.length_cons] at el
    rw [h93] at er2
    refine ⟨⟨by omega, by omega⟩, ⟨by omega, by omega⟩, m_outer (M := 6000) ⟨by omega, by omega⟩ fv6' (by omega) ⟨⟨by have := w1.1; omega, by have := w1.2.2.2; omega⟩, ⟨by omega, by omega⟩⟩ (by rw [← rL]; exact y1) (by rw [← rL]; exact y2.1) (by rw [er2, ← rL, ← y2.2]; omega) (fun q2 σ9 e9 ex9 fv9 e87'' f9 _ _ => ?_)⟩
    have j91 : sg_g σ9 88 91 = sg_g σ6 88 91 := sg_F_g f9 (by rfl)
    refine k q2 σ9 (opR_mk (σ1 := σ5) (a := eX (r :: r' :: R)) s1 s2 s3 s4 (by omega) (sg_F_t (sg_F_m (L := [139, 140, 141, 142, 143, 144, 88088, 92088, 94088]) (show sg_F [94088] σ5 σ7 by rw [e7]; exact sg_F_w (sg_F_r _ _) rfl _) rfl) (sg_F_t (sg_F_m f3 rfl) (sg_F_t (sg_F_m f4 rfl) (sg_F_t (sg_F_m f6 rfl) (sg_F_m f9 rfl))))) rfl (fq_F f9 rfl (fq_F f6 rfl (fq_F f4 rfl (fq_F F rfl hq)))) (fEx_t exF (fEx_t ex4 (fEx_t ex6 ex9))) (by omega) (by omega) ⟨_, fv9, by simp only [List.length_cons]; omega, rfl, ?_⟩)
    have e := eX_g (σ := σ4) (R := r' :: R)
    rw [er] at e
    simp only [eX] at e gt ⊢
    omega
end FK
/-! flat ops: SUM, MAX, MIN, SCAN. -/
theorem m_order0 {σ : sg_S} {fr mn : Int} {Q : Int → sg_S → Prop} (hf : 0 ≤ fr) (hm : 0 ≤ mn ∧ mn ≤ 200) (hfm : fr + mn ≤ 60000) (k0 : ∀ σ', sg_F [135] σ σ' → Q 0 σ') (k1 : ∀ σ', (∀ p, 0 ≤ p → p < mn → 0 ≤ sg_g σ' 135 p ∧ sg_g σ' 135 p < mn) → sg_F [135] σ σ' → Q 1 σ') : V_isOrder σ fr mn 0 Q := by
  unfold V_isOrder
  refine ⟨fun m v σ2 => m = (mn - v).toNat ∧ 0 ≤ v ∧ ∀ p, 0 ≤ p → p < v → sg_g σ2 135 p = -1, fun σ2 => ∀ p, 0 ≤ p → p < mn → sg_g σ2 135 p = -1, ⟨_, rfl, Int.le_refl _, fun p a b => by omega⟩, ?_, ?_⟩
  · rintro m v σ2 rv f2 ⟨em, h0, hp⟩
    refine ⟨fun c p x y => hp p x (by omega), fun c => ⟨⟨h0, by omega⟩, fun σ66 e66 => ⟨⟨by omega, by omega⟩, _, ?_, rfl, by omega, fun p x y => ?_⟩⟩⟩
    · omega
    · by_cases e : p = v
      · rw [e, e66, sg_gw_e _ _ _ _ (by decide)]
      · rw [e66, sg_gw_k _ _ _ _ _ _ e]; exact hp p x (by omega)
  · intro σ2 f2 h2
    refine ⟨fun m is v σ18 => m = (mn - v).toNat ∧ (0 ≤ v ∧ v ≤ mn) ∧ (is = 0 ∨ (is = 1 ∧ ∃ ps : List Int, (ps.length : Int) = v ∧ ps.Nodup ∧ (∀ p ∈ ps, 0 ≤ p ∧ p < mn ∧ 0 ≤ sg_g σ18 135 p ∧ sg_g σ18 135 p < mn) ∧ ∀ p, 0 ≤ p → p < mn → p ∉ ps → sg_g σ18 135 p = -1)), fun is σ18 => is = 0 ∨ (is = 1 ∧ ∀ p, 0 ≤ p → p < mn → 0 ≤ sg_g σ18 135 p ∧ sg_g σ18 135 p < mn), ⟨_, rfl, ⟨by omega, by omega⟩, Or.inr ⟨rfl, [], rfl, List.nodup_nil, by simp, fun p x y _ => h2 p x y⟩⟩, ?_, ?_⟩
    · rintro m is v σ18 ris rv f18 ⟨em, hv, hi⟩
      have fin : mn ≤ v → is = 0 ∨ (is = 1 ∧ ∀ p, 0 ≤ p → p < mn → 0 ≤ sg_g σ18 135 p ∧ sg_g σ18 135 p < mn) := fun c => by
        rcases hi with z | ⟨z, ps, q1, q2, q3, q4⟩
        · exact Or.inl z
        · refine Or.inr ⟨z, fun p x y => ?_⟩
          by_cases e : p ∈ ps
          · exact (q3 p e).2.2
          · exfalso
            have := ndl mn.toNat (p :: ps) (List.nodup_cons.mpr ⟨e, q2⟩) (fun w hw => by
              rcases List.mem_cons.mp hw with u | u
              · rw [u]; omega
              · have := q3 w u; omega)
            simp only [List.length_cons] at this
            omega
      refine ⟨fin, fun c => ⟨fun z => Or.inl z, fun z => ⟨⟨fun _ => ⟨⟨by omega, by omega⟩, ⟨by omega, by omega⟩, trivial⟩, fun w => absurd rfl w⟩, fun v37 e37 r37 => ⟨⟨by omega, by omega⟩, ⟨fun _ => trivial, fun w => ?_⟩, fun v43 e43 r43 => ?_⟩⟩⟩⟩
      · have w2 : 0 ≤ v37 ∧ v37 ≤ mn - 1 := Decidable.byContradiction (fun u => w (v_in_n.mpr u))
        exact ⟨⟨w2.1, by omega⟩, fun _ => trivial, fun _ => trivial⟩
      · rcases hi with y | ⟨y, ps, q1, q2, q3, q4⟩
        · exact absurd y z
        by_cases w : v_in v37 0 (mn - 1) = 0
        · rw [if_pos w] at e43
          refine ⟨fun _ => True, ⟨fun _ => trivial, fun u => absurd e43 u⟩, fun σ49 f49 _ => ⟨⟨by omega, by omega⟩, _, ?_, rfl, ⟨by omega, by omega⟩, Or.inl e43⟩⟩
          omega
        · have w2 : 0 ≤ v37 ∧ v37 ≤ mn - 1 := Decidable.byContradiction (fun u => w (v_in_n.mpr u))
          rw [if_neg w] at e43
          by_cases u : sg_g σ18 135 v37 = -1
          · rw [if_neg (fun t => t u)] at e43
            have np : v37 ∉ ps := fun t => by have := q3 v37 t; omega
            refine ⟨fun σ49 => ∃ ps : List Int, (ps.length : Int) = v + 1 ∧ ps.Nodup ∧ (∀ p ∈ ps, 0 ≤ p ∧ p < mn ∧ 0 ≤ sg_g σ49 135 p ∧ sg_g σ49 135 p < mn) ∧ ∀ p, 0 ≤ p → p < mn → p ∉ ps → sg_g σ49 135 p = -1, ⟨fun t => absurd t (by omega), fun _ => ⟨⟨w2.1, by omega⟩, fun σ55 e55 => ⟨v37 :: ps, by simp only [List.length_cons]; omega, List.nodup_cons.mpr ⟨np, q2⟩, fun p hp => ?_, fun p x1 x2 x3 => ?_⟩⟩⟩, fun σ49 f49 h49 => ⟨⟨by omega, by omega⟩, _, ?_, rfl, ⟨by omega, by omega⟩, Or.inr ⟨e43, h49⟩⟩⟩
            · rcases List.mem_cons.mp hp with t | t
              · rw [t, e55, sg_gw_e _ _ _ _ rv]; omega
              · rw [e55, sg_gw_k _ _ _ _ _ _ (fun s => np (by rw [← s]; exact t))]; exact q3 p t
            · rw [e55, sg_gw_k _ _ _ _ _ _ (fun s => x3 (by simp [s]))]
              exact q4 p x1 x2 (fun t => x3 (by simp [t]))
            · omega
          · rw [if_pos u] at e43
            refine ⟨fun _ => True, ⟨fun _ => trivial, fun t => absurd e43 t⟩, fun σ49 f49 _ => ⟨⟨by omega, by omega⟩, _, ?_, rfl, ⟨by omega, by omega⟩, Or.inl e43⟩⟩
            omega
    · rintro is σ18 ris f18 (z | ⟨z, hz⟩)
      · rw [z]; exact ⟨Or.inl rfl, k0 σ18 (sg_F_t f2 f18)⟩
      · rw [z]; exact ⟨Or.inr rfl, k1 σ18 hz (sg_F_t f2 f18)⟩
section FL
variable {σ : sg_S} {M : Int}
theorem m_fGone {n L a : Int} {Q : Int → sg_S → Prop} (hC : fC σ) (hn : 0 ≤ n ∧ n < 210) (ha : fL σ 1 L a) (hq : fq σ) (k : ∀ q σ', opR σ σ' (if sg_g σ 93 n = 21 then 1 else 0) L q → Q q σ') : V_flatGone σ n a L Q := by
  have hL := fL_L ha
  obtain ⟨c1, c2, c3, c4⟩ := hC
  obtain ⟨r, r', R, hv, hR, rL, ln, e1, w1, w2⟩ := fL_1 ha
  have R0 : R = [] := List.eq_nil_of_length_eq_zero hR
  subst R0
  have w22 := w2.2
  have w21 := w2.1
  have w11 := w1.1
  have w12 := w1.2.2.2
  unfold V_flatGone
  refine ⟨hn, fun v4 e4 r4 => ?_⟩
  have v4c : (v4 = 0 ∧ ¬ sg_g σ 93 n = 21) ∨ (v4 = 1 ∧ sg_g σ 93 n = 21) := by
    by_cases c : sg_g σ 93 n = 21
    · rw [if_neg (fun z => z c)] at e4; exact Or.inr ⟨e4, c⟩
    · rw [if_pos c] at e4; exact Or.inl ⟨e4, c⟩
  clear e4
  obtain ⟨tot, htot⟩ : ∃ tot : Int, tot = (if v4 = 0 then L else r'.2) := ⟨_, rfl⟩
  refine ⟨fun x => x = (if v4 = 0 then L else L + r'.2), ⟨fun z => by rw [if_pos z], fun z => m_extent hv ⟨by decide, by decide⟩ (by omega) (fun _ => by rw [if_neg z]; simp only [eX]; omega)⟩, fun v12 r12 e12 => ?_⟩
  have b12 : 0 ≤ tot ∧ tot ≤ v12 ∧ v12 ≤ 12000 ∧ tot ≤ 6000 := by
    rw [htot, e12]
    split <;> omega
  refine m_stepped ⟨c1, c2⟩ ⟨by omega, by omega⟩ (fun σ' e _ _ => ⟨fun z => absurd rfl z, fun _ => k _ _ (Or.inl e)⟩) (fun σ1 f1 s1 s2 s3 s4 _ _ => ⟨fun _ => ?_, fun z => by omega⟩)
  have e91 : sg_g σ1 88 91 = sg_g σ 88 91 := sg_F_g f1 (by rfl)
  have e87 : sg_g σ1 88 87 = sg_g σ 88 87 := sg_F_g f1 (by rfl)
  have ex1 := fEx_F f1 (by rfl)
  have hv1 := fV_up ex1 hv
  have z1 := fV_1 hv
  have vb := hv.1
  rw [z1.1]
  have av : ∀ i, 0 ≤ i → i < L → (0 ≤ sg_g σ1 142 (r.1 + i) ∧ sg_g σ1 142 (r.1 + i) ≤ 200) ∧ 0 ≤ cs σ r.1 i.toNat ∧ cs σ r.1 (i + 1).toNat = cs σ r.1 i.toNat + sg_g σ1 142 (r.1 + i) ∧ cs σ r.1 (i + 1).toNat ≤ r'.2 := fun i x y => by
    rw [sg_F_ga f1 rfl]
    exact ln_b ln e1 rL ⟨x, y⟩
  refine ⟨⟨by omega, by omega⟩, ⟨by omega, by omega⟩, ⟨by omega, by omega⟩, fun m at_ x σ2 => m = (L - x).toNat ∧ (0 ≤ x ∧ x ≤ L) ∧ at_ = r'.1 + cs σ r.1 x.toNat ∧ fq σ2 ∧ ∃ t, gH σ1 (sg_g σ1 88 91) False (if v4 = 0 then x else cs σ r.1 x.toNat) t σ2, fun σ2 => fq σ2 ∧ ∃ t, gH σ1 (sg_g σ1 88 91) False tot t σ2, ⟨_, rfl, ⟨by omega, by omega⟩, by simp only [show (0 : Int).toNat = 0 by rfl, cs]; omega, fq_F f1 rfl hq, 0, ?_⟩, ?_, ?_⟩
  · have : (if v4 = 0 then (0 : Int) else cs σ r.1 (0 : Int).toNat) = 0 := by split <;> rfl
    rw [this]; exact gH_0 _ _
  · rintro m at_ x σ2 ra rx f2 ⟨en, hx, ea, hq2, t, hG⟩
    refine ⟨fun z => ⟨hq2, t, ?_⟩, fun z => ?_⟩
    · rw [htot, e1, show L = x by omega]; exact hG
    obtain ⟨l1, l2, l3, l4⟩ := av x hx.1 z
    obtain ⟨len, hlen⟩ : ∃ len, len = sg_g σ1 142 (r.1 + x) := ⟨_, rfl⟩
    rw [← hlen] at l1 l3
    refine ⟨fun m a' mm y σ3 => m = (len - y).toNat ∧ (0 ≤ y ∧ y ≤ len) ∧ a' = at_ + y ∧ fq σ3 ∧ ∃ t, gH σ1 (sg_g σ1 88 91) False (if v4 = 0 then x else cs σ r.1 x.toNat + y) t σ3, fun a' mm σ3 => a' = at_ + len ∧ fq σ3 ∧ ∃ t, gH σ1 (sg_g σ1 88 91) False (if v4 = 0 then x else cs σ r.1 (x + 1).toNat) t σ3, ⟨_, rfl, ⟨by omega, by omega⟩, by omega, hq2, t, by rw [Int.add_zero]; exact hG⟩, ?_, ?_⟩
    · rintro m' a' mm y σ3 ra' rm ry f3 ⟨en', hy, ea', hq3, t3, hG3⟩
      have F3 : sg_F [142, 92088, 103088, 104088] σ1 σ3 := sg_F_t f2 (sg_F_m f3 rfl)
      have sz : (if v4 = 0 then x else cs σ r.1 x.toNat + y) ≤ 6000 := by split <;> omega
      obtain ⟨pa, va⟩ := pR_h hv1 hG3 F3 rfl ⟨by omega, by omega⟩ (i := x) ⟨by omega, by omega⟩
      rw [va, ← hlen]
      refine ⟨pa, fun c => ⟨by omega, hq3, t3, ?_⟩, fun c => ⟨⟨by omega, by omega⟩, ⟨by omega, by omega⟩, fun σ4 => fq σ4 ∧ ∃ t, gH σ1 (sg_g σ1 88 91) False (if v4 = 0 then x else cs σ r.1 x.toNat + (y + 1)) t σ4, ⟨fun c4 => ⟨hq3, t3, ?_⟩, fun c4 => ?_⟩, fun σ4 f4 h4 => ⟨⟨fun _ => ⟨fun _ => trivial, fun _ => ⟨fun _ => trivial, fun _ => ⟨fun _ => trivial, fun _ => trivial⟩⟩⟩, fun _ => ⟨fun _ => trivial, fun _ => ⟨fun _ => trivial, fun _ => trivial⟩⟩⟩, fun v128 _ _ => ⟨⟨by omega, by omega⟩, _, by omega, rfl, ⟨by omega, by omega⟩, by omega, h4⟩⟩⟩⟩
      · rw [l3, show len = y by omega]; exact hG3
      · rw [if_pos c4]; rw [if_pos c4] at hG3; exact hG3
      · rw [if_neg c4] at hG3 ⊢
        refine m_put hG3 (by omega) (by omega) rm (fun b => b.elim) (fun σ5 h5 f5 => ⟨fq_F f5 rfl hq3, t3 + mm, ?_⟩)
        rw [← Int.add_assoc]; exact h5
    · rintro a' mm σ3 ra' rm f3 ⟨ea', hq3, t3, hG3⟩
      have F3 : sg_F [142, 92088, 103088, 104088] σ1 σ3 := sg_F_t f2 (sg_F_m f3 rfl)
      have sz : (if v4 = 0 then x else cs σ r.1 (x + 1).toNat) ≤ 6000 := by split <;> omega
      obtain ⟨pa, va⟩ := pR_h hv1 hG3 F3 rfl ⟨by omega, by omega⟩ (i := x) ⟨by omega, by omega⟩
      have lk : V_lacks σ3 x 4 (fun σ100 => sg_F [103088, 104088] σ3 σ100 → fq σ100) := m_lacks ⟨by omega, rx⟩ ⟨by decide, by decide, by decide⟩ hq3 (fun σ5 _ h5 _ => h5)
      refine ⟨fun σ4 => fq σ4, ⟨fun _ => ⟨pa, fun _ => hq3, fun _ => lk⟩, fun _ => ⟨fun _ => hq3, fun _ => ⟨pa, fun _ => hq3, fun _ => lk⟩⟩⟩, fun σ4 f4 hq4 => ⟨fun σ5 => fq σ5 ∧ ∃ t, gH σ1 (sg_g σ1 88 91) False (if v4 = 0 then x + 1 else cs σ r.1 (x + 1).toNat) t σ5, ⟨fun c4 => ⟨hq4, t3, ?_⟩, fun c4 => ?_⟩, fun σ5 f5 h5 => ⟨⟨by omega, by omega⟩, _, by omega, rfl, ⟨by omega, by omega⟩, by omega, h5⟩⟩⟩
      · rw [if_neg c4] at hG3 ⊢; exact gH_F f4 rfl hG3
      · rw [if_pos c4] at hG3 ⊢
        exact m_put (gH_F f4 rfl hG3) (by omega) (by omega) rm (fun b => b.elim) (fun σ5 h5 f5 => ⟨fq_F f5 rfl hq4, _, h5⟩)
  · rintro σ2 f2 ⟨hq2, t, hG⟩
    have g87 : sg_g σ2 88 87 = sg_g σ1 88 87 := sg_F_g f2 (by rfl)
    refine m_nums hG f2 e91.symm ⟨by omega, by omega⟩ ⟨by omega, by omega⟩ ⟨by omega, by omega⟩ (fun q σ' x1 x2 x3 x4 x5 _ _ => ?_)
    have F : sg_F [139, 140, 141, 142, 88088, 92088, 103088, 104088] σ1 σ' := sg_F_t (sg_F_m f2 rfl) (sg_F_m x4 rfl)
    refine ⟨fun c4 => ?_, fun c4 => ?_⟩
    · rw [if_pos c4] at htot e12
      have kn : ¬ sg_g σ 93 n = 21 := by omega
      rw [if_neg kn] at k
      exact k q σ' (opR_mk s1 s2 s3 s4 (by omega) F rfl (fq_F x4 rfl hq2) (fEx_t ex1 x1) (by omega) (by omega) ⟨_, x5, rfl, htot, by simp only [eX]; omega⟩)
    · rw [if_neg c4] at htot e12
      have kn : sg_g σ 93 n = 21 := by omega
      rw [if_pos kn] at k
      have hv3 := fV_up (fEx_t ex1 x1) hv
      have z0 := fV_0 hv3
      rw [z0.1]
      obtain ⟨y1, y2, y3⟩ := hv3.2.2.2.2
      refine ⟨⟨by omega, by omega⟩, m_outer (M := 6000) ⟨by omega, by omega⟩ x5 (by simp) ⟨⟨by omega, by omega⟩, ⟨by omega, by omega⟩⟩ (by rw [← rL]; exact y1) (by rw [← rL]; exact y2.1) (by rw [← rL, ← y2.2]; exact htot) (fun q2 σ9 e9 ex9 fv9 e87'' f9 _ _ => ?_)⟩
      have j91 : sg_g σ9 88 91 = sg_g σ' 88 91 := sg_F_g f9 (by rfl)
      exact k q2 σ9 (opR_mk s1 s2 s3 s4 (by omega) (sg_F_t F (sg_F_m f9 rfl)) rfl (fq_F f9 rfl (fq_F x4 rfl hq2)) (fEx_t ex1 (fEx_t x1 ex9)) (by omega) (by omega) ⟨_, fv9, rfl, rfl, by simp only [eX]; omega⟩)
end FL
