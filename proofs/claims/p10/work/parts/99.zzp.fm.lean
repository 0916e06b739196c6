/-! flat ops: FLAT, PACK, PERM. -/
section FM
variable {σ : sg_S} {M : Int}
theorem m_fFlat {L a : Int} {K : Nat} {Q : Int → sg_S → Prop} (hC : fC σ) (ha : fL σ (K + 2) L a) (hq : fq σ) (k : ∀ q σ', opR σ σ' (K + 1) L q → Q q σ') : V_flatFlat σ a L Q := by
  have hL := fL_L ha
  have hC' := hC
  obtain ⟨c1, c2, c3, c4⟩ := hC
  obtain ⟨r, r', R1, hv, hR, rL, ln, e1, w1, w2⟩ := fL_1 ha
  obtain ⟨r2, R, rfl⟩ : ∃ r2 R, R1 = r2 :: R := by
    cases R1 with
    | nil => simp at hR
    | cons x y => exact ⟨x, y, rfl⟩
  have K3 : K ≤ 1 := by have := hv.2.1.2; simp only [List.length_cons] at this hR; omega
  simp only [List.length_cons] at hR
  unfold V_flatFlat
  refine m_inner ⟨by omega, by omega⟩ hv (by simp) (fun q σ2 eq ex2 fv2 e87 f2 _ _ => ?_)
  refine m_inner ⟨by omega, by omega⟩ fv2 (by simp) (fun q2 σ3 eq2 ex3 fv3 e87' f3 _ _ σ4 e4 => ?_)
  have f4 : sg_F [94088] σ3 σ4 := by rw [e4]; exact sg_F_w (sg_F_r _ _) rfl _
  have F3 : sg_F [139, 140, 141, 88088] σ σ3 := sg_F_t f2 f3
  have e91 : sg_g σ3 88 91 = sg_g σ 88 91 := sg_F_g F3 (by rfl)
  have ex23 := fEx_t ex2 ex3
  have hv3 := fV_up ex23 hv
  have hr3 := fV_up ex3 fv2
  obtain ⟨wa, ⟨ln3, e13⟩, wb, ⟨ln3', e13'⟩, wc, -⟩ := hv3.2.2.2.2
  rw [rL] at e13
  obtain ⟨wb1, wb2, wb3, wb4⟩ := wb
  obtain ⟨wc1, wc2, wc3, wc4⟩ := wc
  have m2 : ∀ i j : Int, 0 ≤ i → i ≤ j → j ≤ r'.2 → 0 ≤ cs σ3 r'.1 i.toNat ∧ cs σ3 r'.1 i.toNat ≤ cs σ3 r'.1 j.toNat ∧ cs σ3 r'.1 j.toNat ≤ r2.2 ∧ cs σ3 r'.1 j.toNat - cs σ3 r'.1 i.toNat ≤ 200 * (j - i) := fun i j x y z => by
    have a1 := cs_m ln3' (i := i.toNat) (j := j.toNat) (by omega) (by omega)
    have a2 := cs_m ln3' (i := j.toNat) (j := r'.2.toNat) (by omega) (by omega)
    have a3 := cs_0 ln3' (j := i.toNat) (by omega)
    rw [e13']
    omega
  refine ⟨fun m row at_ x σ5 => m = (L - x).toNat ∧ (0 ≤ x ∧ x ≤ L) ∧ row = cs σ3 r.1 x.toNat ∧ at_ = cs σ3 r'.1 row.toNat ∧ fq σ5 ∧ ls σ5 x.toNat ≤ at_ ∧ lO σ5 (ls σ5 x.toNat) r2.2 ∧ ∀ i : Nat, (i : Int) < x → 0 ≤ sg_g σ5 150 i ∧ sg_g σ5 150 i ≤ 200, fun σ5 => fq σ5 ∧ ls σ5 L.toNat ≤ 6000 ∧ lO σ5 (ls σ5 L.toNat) r2.2 ∧ ∀ i : Nat, (i : Int) < L → 0 ≤ sg_g σ5 150 i ∧ sg_g σ5 150 i ≤ 200, ⟨_, rfl, ⟨by omega, by omega⟩, rfl, rfl, fq_F f4 rfl (fq_F F3 rfl hq), Int.le_refl _, lO_0 e4, fun i hi => by omega⟩, ?_, ?_⟩
  · rintro m row at_ x σ5 rr ra rx f5 ⟨en, hx, er, ea, hq5, hle, hl5, hz⟩
    have rw0 : 0 ≤ row ∧ row ≤ r'.2 := by
      rw [er, e13]
      exact ⟨cs_0 ln3 (by omega), (cs_m ln3 (by omega) (by omega)).1⟩
    have atb := m2 row row rw0.1 (Int.le_refl _) rw0.2
    rw [← ea] at atb
    refine ⟨fun z => by rw [show x = L by omega] at hl5 hz hle; exact ⟨hq5, by omega, hl5, hz⟩, fun z => ?_⟩
    obtain ⟨pa, va⟩ := pR hv3 ⟨by omega, by omega⟩ (i := x) ⟨by omega, by omega⟩
    obtain ⟨n1, n2, n3, n4⟩ := ln_b ln3 e13 rL (i := x) ⟨by omega, by omega⟩
    rw [va]
    obtain ⟨len, hlen⟩ : ∃ len, len = sg_g σ3 142 (r.1 + x) := ⟨_, rfl⟩
    rw [← hlen] at n1 n3 ⊢
    refine ⟨fun m rw' sm y => m = (len - y).toNat ∧ (0 ≤ y ∧ y ≤ len) ∧ rw' = row + y ∧ sm = cs σ3 r'.1 rw'.toNat - at_, fun rw' sm => rw' = row + len ∧ sm = cs σ3 r'.1 rw'.toNat - at_, ⟨_, rfl, ⟨by omega, by omega⟩, by omega, by rw [ea]; omega⟩, ?_, ?_⟩
    · rintro m' rw' sm y r1 r2' r3 ⟨en', hy, e2, e3⟩
      refine ⟨pa, fun c => ⟨by omega, e3⟩, fun c => ?_⟩
      obtain ⟨pb, vb⟩ := pR hr3 ⟨by omega, by omega⟩ (i := rw') ⟨by omega, by omega⟩
      have st := cs_s (σ := σ3) (p := r'.1) (i := rw') (by omega)
      have b1 := m2 rw' (rw' + 1) (by omega) (by omega) (by omega)
      have b2 := m2 row (rw' + 1) (by omega) (by omega) (by omega)
      rw [← ea] at b2
      rw [vb]
      exact ⟨pb, ⟨by omega, by omega⟩, ⟨by omega, by omega⟩, ⟨by omega, by omega⟩, _, by omega, rfl, ⟨by omega, by omega⟩, by omega, by omega⟩
    · rintro rw' sm r1 r2' ⟨e2, e3⟩
      have b2 := m2 row rw' (by omega) (by omega) (by omega)
      rw [← ea] at b2
      refine ⟨fun σ6 => fq σ6, ⟨fun _ => hq5, fun _ => m_lacks ⟨by omega, rx⟩ ⟨by decide, by decide, by decide⟩ hq5 (fun σ5 _ h5 _ => h5)⟩, fun σ6 f6 hq6 => ?_⟩
      have l6 : ls σ6 x.toNat = ls σ5 x.toNat := ls_e (fun i _ => sg_F_ga f6 rfl)
      refine ⟨fun m y σ7 => m = (sm - y).toNat ∧ (0 ≤ y ∧ y ≤ sm) ∧ (sm ≤ 200 → lO σ7 (ls σ5 x.toNat + y) r2.2) ∧ (200 < sm → lO σ7 (ls σ5 x.toNat) r2.2), fun σ7 => lO σ7 (ls σ5 x.toNat + (if sm ≤ 200 then sm else 0)) r2.2, ⟨_, rfl, ⟨by omega, by omega⟩, fun _ => by rw [Int.add_zero]; exact lO_F f6 rfl hl5, fun _ => lO_F f6 rfl hl5⟩, ?_, ?_⟩
      · rintro m' y σ7 ry f7 ⟨en', hy, h7, h7'⟩
        refine ⟨fun c => ?_, fun c => ⟨fun c2 => ?_, fun c2 => ⟨⟨by omega, by omega⟩, m_list (h7 c2) (by omega) ⟨by omega, by omega⟩ (by omega) (fun σ8 h8 f8 => ⟨⟨by omega, by omega⟩, _, by omega, rfl, ⟨by omega, by omega⟩, fun _ => ?_, fun c3 => by omega⟩)⟩⟩⟩
        · by_cases c2 : sm ≤ 200
          · rw [if_pos c2, show sm = y by omega]; exact h7 c2
          · rw [if_neg c2, Int.add_zero]; exact h7' (by omega)
        · rw [if_neg (by omega), Int.add_zero]; exact h7' c2
        · rw [← Int.add_assoc]; exact h8
      · intro σ7 f7 hl7
        refine ⟨⟨by omega, by omega⟩, fun v111 e111 r111 => ⟨⟨by omega, by omega⟩, fun σ8 e8 => ?_⟩⟩
        obtain ⟨y1, y2, y3⟩ := ls_w e8 (by omega) r111
        have l7 : ls σ7 x.toNat = ls σ5 x.toNat := by rw [ls_e (σ := σ6) (fun i _ => sg_F_ga f7 rfl), l6]
        have f8 : sg_F [150] σ7 σ8 := by rw [e8]; exact sg_F_w (sg_F_r _ _) rfl _
        rw [← e111] at hl7
        have vb : 0 ≤ v111 ∧ v111 ≤ 200 ∧ v111 ≤ sm := by rw [e111]; split <;> omega
        have en3 : rw' = cs σ3 r.1 (x + 1).toNat := by omega
        refine ⟨⟨by omega, by omega⟩, _, by omega, rfl, ⟨by omega, by omega⟩, en3, by omega, fq_F f8 rfl (fq_F f7 rfl hq6), by omega, ?_, fun i hi => ?_⟩
        · rw [y1, l7]; exact lO_F f8 rfl hl7
        · by_cases c : (i : Int) = x
          · rw [c, y3]; omega
          · rw [y2 i (by omega), sg_F_ga f7 rfl, sg_F_ga f6 rfl]; exact hz i (by omega)
  · rintro σ5 f5 ⟨hq5, hle, hl5, hz⟩
    have F5 : sg_F [143, 150, 94088, 103088, 104088] σ3 σ5 := sg_F_t (sg_F_m f4 rfl) (sg_F_m f5 rfl)
    exact m_est (σ0 := σ) (fV_up (fEx_F F5 rfl) fv3) (by simp only [List.length_cons]; omega) hC' (fEx_t ex23 (fEx_F F5 rfl)) (by rw [sg_F_g F5 (by rfl)]; exact e91) (by rw [sg_F_g F5 (by rfl)]; exact sg_F_g F3 (by rfl)) (by rw [sg_F_g F5 (by rfl)]; exact sg_F_g F3 (by rfl)) (by rw [sg_F_g F5 (by rfl)]; omega) hq5 hl5 (by omega) hL rfl hz (fun q σ' h => k q σ' (by simp only [List.length_cons] at h; rw [show R.length = K by omega] at h; exact h))
theorem m_fChosen {n L a b : Int} {K : Nat} {Q : Int → sg_S → Prop} (hC : fC σ) (hn : 0 ≤ n ∧ n < 210) (ha : fL σ (K + 1) L a) (hb : fL σ 1 L b) (hq : fq σ) (k : ∀ q σ', opR σ σ' (K + 1) L q → Q q σ') : V_flatChosen σ n a b L Q := by
  have hL := fL_L ha
  have hC' := hC
  obtain ⟨c1, c2, c3, c4⟩ := hC
  obtain ⟨r, r', R, hv, hR, rL, ln, e1, w1, w2⟩ := fL_1 ha
  obtain ⟨s, s', S, hu, hS, sL, lns, e1s, u1, u2⟩ := fL_1 hb
  have K3 : K ≤ 2 := by have := hv.2.1.2; simp only [List.length_cons] at this; omega
  have w22 := w2.2
  have u22 := u2.2
  have u21 := u2.1
  unfold V_flatChosen
  refine m_inner ⟨by omega, by omega⟩ hv (by simp) (fun q σ2 eq ex2 fv2 e87 f2 _ _ => ?_)
  have hv2 := fV_up ex2 hv
  have hu2 := fV_up ex2 hu
  have z1 := fV_1 hu2
  have ub := hu.1
  rw [z1.1]
  have e91 : sg_g σ2 88 91 = sg_g σ 88 91 := sg_F_g f2 (by rfl)
  have c2e : ∀ x, sg_g σ2 142 x = sg_g σ 142 x := fun x => sg_F_ga f2 rfl
  refine ⟨⟨by omega, by omega⟩, ⟨by omega, by omega⟩, ⟨by omega, by omega⟩, fun σ4 e4 => ?_⟩
  have f4 : sg_F [94088] σ2 σ4 := by rw [e4]; exact sg_F_w (sg_F_r _ _) rfl _
  refine ⟨fun m at_ by_ x σ5 => m = (L - x).toNat ∧ (0 ≤ x ∧ x ≤ L) ∧ at_ = cs σ r.1 x.toNat ∧ by_ = s'.1 + cs σ s.1 x.toNat ∧ fq σ5 ∧ ls σ5 x.toNat ≤ at_ ∧ lO σ5 (ls σ5 x.toNat) r'.2 ∧ ∀ i : Nat, (i : Int) < x → 0 ≤ sg_g σ5 150 i ∧ sg_g σ5 150 i ≤ 200, fun σ5 => fq σ5 ∧ ls σ5 L.toNat ≤ 6000 ∧ lO σ5 (ls σ5 L.toNat) r'.2 ∧ ∀ i : Nat, (i : Int) < L → 0 ≤ sg_g σ5 150 i ∧ sg_g σ5 150 i ≤ 200, ⟨_, rfl, ⟨by omega, by omega⟩, rfl, by simp only [show (0 : Int).toNat = 0 by rfl, cs]; omega, fq_F f4 rfl (fq_F f2 rfl hq), Int.le_refl _, lO_0 e4, fun i hi => by omega⟩, ?_, ?_⟩
  · rintro m at_ by_ x σ5 ra rb rx f5 ⟨en, hx, ea, eb, hq5, hle, hl5, hz⟩
    have at0 : 0 ≤ at_ ∧ at_ ≤ r'.2 := by rw [ea, e1]; exact ⟨cs_0 ln (by omega), (cs_m ln (by omega) (by omega)).1⟩
    have ls0 := (ls_b (σ := σ5) (n := x.toNat) (fun i hi => hz i (by omega))).1
    refine ⟨fun z => by rw [show x = L by omega] at hl5 hz hle; exact ⟨hq5, by omega, hl5, hz⟩, fun z => ?_⟩
    obtain ⟨pa, va⟩ := pR hv2 ⟨by omega, by omega⟩ (i := x) ⟨by omega, by omega⟩
    obtain ⟨pb, vb⟩ := pR hu2 ⟨by omega, by omega⟩ (i := x) ⟨by omega, by omega⟩
    obtain ⟨n1, n2, n3, n4⟩ := ln_b ln e1 rL (i := x) ⟨by omega, by omega⟩
    obtain ⟨o1, o2, o3, o4⟩ := ln_b lns e1s sL (i := x) ⟨by omega, by omega⟩
    rw [va, vb, c2e, c2e]
    obtain ⟨len, hlen⟩ : ∃ len, len = sg_g σ 142 (r.1 + x) := ⟨_, rfl⟩
    obtain ⟨lb, hlb⟩ : ∃ lb, lb = sg_g σ 142 (s.1 + x) := ⟨_, rfl⟩
    rw [← hlen] at n1 n3 ⊢
    rw [← hlb] at o1 o3 ⊢
    have h93 := hl5.1
    refine ⟨pa, pb, fun σ6 => fq σ6 ∧ ∃ d, (0 ≤ d ∧ d ≤ len) ∧ lO σ6 (ls σ5 x.toNat + d) r'.2, ⟨fun c => ⟨hn, fun c2 => ?_, fun c2 => ?_⟩, fun c => ?_⟩, fun σ6 f6 h6 => ?_⟩
    · refine m_order0 (by omega) ⟨by omega, by omega⟩ (by omega) (fun σ7 f7 _ _ => ⟨fun z' => absurd rfl z', fun _ => m_lacks ⟨by omega, rx⟩ ⟨by decide, by decide, by decide⟩ (fq_F f7 rfl hq5) (fun σ8 _ h8 f8 => ⟨h8, 0, ⟨by omega, by omega⟩, by rw [Int.add_zero]; exact lO_F f8 rfl (lO_F f7 rfl hl5)⟩)⟩) (fun σ7 hp f7 _ _ => ⟨fun _ => ?_, fun z' => by omega⟩)
      refine ⟨fun m y σ8 => m = (len - y).toNat ∧ (0 ≤ y ∧ y ≤ len) ∧ fq σ8 ∧ lO σ8 (ls σ5 x.toNat + y) r'.2, ⟨_, rfl, ⟨by omega, by omega⟩, fq_F f7 rfl hq5, by rw [Int.add_zero]; exact lO_F f7 rfl hl5⟩, ?_⟩
      rintro m' y σ8 ry f8 ⟨en', hy, hq8, h8⟩
      refine ⟨fun c3 => ⟨hq8, y, ⟨by omega, by omega⟩, h8⟩, fun c3 => ?_⟩
      have hpy := hp y hy.1 c3
      refine ⟨⟨by omega, by omega⟩, ⟨by omega, by omega⟩, m_list h8 (by omega) ⟨by omega, by omega⟩ (by omega) (fun σ9 h9 f9 => ⟨⟨by omega, by omega⟩, _, by omega, rfl, ⟨by omega, by omega⟩, fq_F f9 rfl hq8, ?_⟩)⟩
      rw [← Int.add_assoc]; exact h9
    · refine ⟨fun m y σ8 => m = (len - y).toNat ∧ (0 ≤ y ∧ y ≤ len) ∧ fq σ8 ∧ ∃ d, (0 ≤ d ∧ d ≤ y) ∧ lO σ8 (ls σ5 x.toNat + d) r'.2, fun σ8 => fq σ8 ∧ ∃ d, (0 ≤ d ∧ d ≤ len) ∧ lO σ8 (ls σ5 x.toNat + d) r'.2, ⟨_, rfl, ⟨by omega, by omega⟩, hq5, 0, ⟨by omega, by omega⟩, by rw [Int.add_zero]; exact hl5⟩, ?_, fun σ8 f8 h8 => h8⟩
      rintro m' y σ8 ry f8 ⟨en', hy, hq8, d, hd, h8⟩
      refine ⟨fun c3 => ⟨hq8, d, ⟨by omega, by omega⟩, h8⟩, fun c3 => ⟨⟨by omega, by omega⟩, ⟨by omega, by omega⟩, fun σ9 => fq σ9 ∧ ∃ d, (0 ≤ d ∧ d ≤ y + 1) ∧ lO σ9 (ls σ5 x.toNat + d) r'.2, ⟨fun _ => ⟨hq8, d, ⟨by omega, by omega⟩, h8⟩, fun _ => ⟨⟨by omega, by omega⟩, m_list h8 (by omega) ⟨by omega, by omega⟩ (by omega) (fun σ9 h9 f9 => ⟨fq_F f9 rfl hq8, d + 1, ⟨by omega, by omega⟩, by rw [← Int.add_assoc]; exact h9⟩)⟩⟩, fun σ9 f9 h9 => ⟨⟨by omega, by omega⟩, _, by omega, rfl, ⟨by omega, by omega⟩, h9⟩⟩⟩
    · exact m_lacks ⟨by omega, rx⟩ ⟨by decide, by decide, by decide⟩ hq5 (fun σ8 _ h8 f8 => ⟨h8, 0, ⟨by omega, by omega⟩, by rw [Int.add_zero]; exact lO_F f8 rfl hl5⟩)
    · obtain ⟨hq6, d, hd, h6⟩ := h6
      have h93' := h6.1
      rw [h93, h93', show ls σ5 x.toNat + d - ls σ5 x.toNat = d by omega]
      refine ⟨⟨by omega, by omega⟩, ⟨by omega, by omega⟩, fun σ7 e7 => ?_⟩
      obtain ⟨y1, y2, y3⟩ := ls_w e7 (by omega) ⟨by omega, by omega⟩
      have l6 : ls σ6 x.toNat = ls σ5 x.toNat := ls_e (fun i _ => sg_F_ga f6 rfl)
      have f7 : sg_F [150] σ6 σ7 := by rw [e7]; exact sg_F_w (sg_F_r _ _) rfl _
      refine ⟨⟨by omega, by omega⟩, pb, ⟨by omega, by omega⟩, ⟨by omega, by omega⟩, _, by omega, rfl, ⟨by omega, by omega⟩, by omega, by omega, fq_F f7 rfl hq6, by omega, ?_, fun i hi => ?_⟩
      · rw [y1, l6]; exact lO_F f7 rfl h6
      · by_cases c : (i : Int) = x
        · rw [c, y3]; omega
        · rw [y2 i (by omega), sg_F_ga f6 rfl]; exact hz i (by omega)
  · rintro σ5 f5 ⟨hq5, hle, hl5, hz⟩
    have F5 : sg_F [135, 143, 150, 94088, 103088, 104088] σ2 σ5 := sg_F_t (sg_F_m f4 rfl) f5
    exact m_est (σ0 := σ) (fV_up (fEx_F F5 rfl) fv2) (by simp only [List.length_cons]; omega) hC' (fEx_t ex2 (fEx_F F5 rfl)) (by rw [sg_F_g F5 (by rfl)]; exact e91) (by rw [sg_F_g F5 (by rfl)]; exact sg_F_g f2 (by rfl)) (by rw [sg_F_g F5 (by rfl)]; exact sg_F_g f2 (by rfl)) (by rw [sg_F_g F5 (by rfl)]; omega) hq5 hl5 (by omega) hL rfl hz (fun q σ' h => k q σ' (by simp only [List.length_cons] at h; rw [hR] at h; exact h))
end FM
/-! flat ops: items of lanes listed, with what they hold in each row. -/
/-- N lanes are listed, below L; they hold G l in row l of R -/
def lG (σb σ : sg_S) (R : List (Int × Int)) (N L : Int) (G : Nat → Int) : Prop := lO σ N L ∧ (∀ y, sg_g σ 142 y = sg_g σb 142 y) ∧ ∀ l, gsum σ R l N.toNat = G l
theorem bg_e {σ σ' : sg_S} {R : List (Int × Int)} (h : ∀ y, sg_g σ' 142 y = sg_g σ 142 y) : ∀ (r : Nat) (i : Int), bg σ' R r i = bg σ R r i
  | 0, i => rfl
  | r + 1, i => by
    simp only [bg]
    rw [bg_e h r i]
    exact cs_e (fun j _ => h _)
theorem gsum_e {σ σ' : sg_S} {R : List (Int × Int)} (h : ∀ y, sg_g σ' 142 y = sg_g σ 142 y) (l : Nat) : ∀ n : Nat, (∀ j : Nat, j < n → sg_g σ' 143 j = sg_g σ 143 j) → gsum σ' R l n = gsum σ R l n
  | 0, _ => rfl
  | n + 1, hk => by
    simp only [gsum]
    rw [gsum_e h l n (fun j x => hk j (by omega))]
    unfold gd
    rw [hk n (by omega), bg_e h, bg_e h]
theorem lG_F {l : List Nat} {σb σ σ' : sg_S} {R : List (Int × Int)} {N L : Int} {G : Nat → Int} (F : sg_F l σ σ') (hl : (!sg_cv l 88 93 && sg_ca l 143 && sg_ca l 142) = true) (h : lG σb σ R N L G) : lG σb σ' R N L G := by
  simp only [Bool.and_eq_true] at hl
  obtain ⟨h1, h2, h3⟩ := h
  refine ⟨lO_F F (by simp only [Bool.and_eq_true]; exact hl.1) h1, fun y => by rw [sg_F_ga F hl.2]; exact h2 y, fun r => ?_⟩
  rw [gsum_F F hl.2 hl.1.2]
  exact h3 r
theorem lG_0 {σb σ σ' : sg_S} {R : List (Int × Int)} {L : Int} (e : σ' = sg_w σ 88 93 0) (h : ∀ y, sg_g σ 142 y = sg_g σb 142 y) : lG σb σ' R 0 L (fun _ => 0) := ⟨lO_0 e, fun y => by rw [e, sg_gw_c _ _ _ _ _ _ (by decide)]; exact h y, fun l => rfl⟩
theorem m_listG {σb σ : sg_S} {R : List (Int × Int)} {N L x : Int} {G : Nat → Int} {Q : sg_S → Prop} (h : lG σb σ R N L G) (hN : N < 13000) (hx : sg_R x) (x0 : 0 ≤ x) (hl : x < L) (k : ∀ σ', lG σb σ' R (N + 1) L (fun l => G l + (bg σb R l (x + 1) - bg σb R l x)) → Q σ') : V_list σ x Q := by
  obtain ⟨⟨h1, h2, h3⟩, h4, h5⟩ := h
  unfold V_list
  refine ⟨⟨by omega, by omega⟩, fun σ2 e2 => ⟨⟨by omega, by omega⟩, fun σ6 e6 => ?_⟩⟩
  have ce : sg_g σ6 143 N = x := by rw [e6, sg_gw_c _ _ _ _ _ _ (by decide), e2, h1, sg_gw_e _ _ _ _ hx]
  have co : ∀ j, ¬ j = N → sg_g σ6 143 j = sg_g σ 143 j := fun j hj => by rw [e6, sg_gw_c _ _ _ _ _ _ (by decide), e2, h1, sg_gw_k _ _ _ _ _ _ hj]
  have cc : ∀ y, sg_g σ6 142 y = sg_g σ 142 y := fun y => by rw [e6, sg_gw_c _ _ _ _ _ _ (by decide), e2, sg_gw_c _ _ _ _ _ _ (by decide)]
  have cb : ∀ y, sg_g σ6 142 y = sg_g σb 142 y := fun y => (cc y).trans (h4 y)
  refine k σ6 ⟨⟨?_, by omega, fun j x y => ?_⟩, cb, fun l => ?_⟩
  · rw [e6, sg_gw_e _ _ _ _ ⟨by omega, by omega⟩]; omega
  · by_cases e : j = N
    · rw [e, ce]; exact hl
    · rw [co j e]; exact h3 j x (by omega)
  · rw [show (N + 1).toNat = N.toNat + 1 by omega]
    simp only [gsum]
    rw [gsum_e cc l N.toNat (fun j hj => co j (by omega)), h5 l]
    unfold gd
    rw [show ((N.toNat : Nat) : Int) = N by omega, ce, if_neg (by omega), bg_e cb, bg_e cb]
theorem lG_c {σb σ : sg_S} {R : List (Int × Int)} {N N' L : Int} {G G' : Nat → Int} (h : lG σb σ R N L G) (e : N' = N) (g : ∀ l, G' l = G l) : lG σb σ R N' L G' := by
  have : G' = G := funext g
  rw [e, this]; exact h
/-- lanes not left out: what their items hold in row l -/
def oG (σ : sg_S) (R : List (Int × Int)) (p : Int) (l : Nat) : Nat → Int
  | 0 => 0
  | i + 1 => oG σ R p l i + (if 0 ≤ sg_g σ 150 i then bg σ R l (cs σ p (i + 1)) - bg σ R l (cs σ p i) else 0)
theorem oG_s {σ : sg_S} {R : List (Int × Int)} {p x : Int} {l : Nat} (h : 0 ≤ x) : oG σ R p l (x + 1).toNat = oG σ R p l x.toNat + (if 0 ≤ sg_g σ 150 x then bg σ R l (cs σ p (x + 1).toNat) - bg σ R l (cs σ p x.toNat) else 0) := by
  rw [show (x + 1).toNat = x.toNat + 1 by omega]
  simp only [oG]
  rw [show ((x.toNat : Nat) : Int) = x by omega]
section FN
variable {σ : sg_S} {M : Int}
theorem oG_0 {R : List (Int × Int)} {r r' : Int × Int} {L : Int} (h : fLn σ r) (e : r'.2 = cs σ r.1 L.toNat) (eL : r.2 = L) : ∀ n : Nat, (n : Int) ≤ L → 0 ≤ oG σ R r.1 0 n ∧ oG σ R r.1 0 n ≤ cs σ r.1 n
  | 0, _ => ⟨Int.le_refl _, Int.le_refl _⟩
  | n + 1, hn => by
    have a := oG_0 (R := R) h e eL n (by omega)
    obtain ⟨b1, b2, b3, b4⟩ := ln_b h e eL (i := n) ⟨by omega, by omega⟩
    rw [show ((n : Int) + 1).toNat = n + 1 by omega, show (n : Int).toNat = n by omega] at b3
    simp only [oG, bg]
    split <;> omega
theorem m_listItems {v L : Int} {r r' : Int × Int} {R : List (Int × Int)} {Q : sg_S → Prop} (hv : fV σ 6000 v (r :: r' :: R)) (rL : r.2 = L) (hL : 0 ≤ L ∧ L ≤ 6000) (hc : sg_g σ 88 91 ≤ 60000 ∧ sg_g σ 88 87 ≤ 30000) (h0 : sg_g σ 88 93 = 0) (k : ∀ σ', lG σ σ' (r' :: R) (oG σ (r' :: R) r.1 0 L.toNat) r'.2 (fun l => oG σ (r' :: R) r.1 l L.toNat) → Q σ') : V_listItems σ v L Q := by
  obtain ⟨wa, ⟨ln, e1⟩, wb, -⟩ := hv.2.2.2.2
  rw [rL] at e1
  obtain ⟨wb1, wb2, wb3, wb4⟩ := wb
  unfold V_listItems
  have st : lG σ σ (r' :: R) 0 r'.2 (fun l => oG σ (r' :: R) r.1 l 0) := ⟨⟨h0, Int.le_refl _, fun j x y => by omega⟩, fun y => rfl, fun l => rfl⟩
  refine ⟨fun m at_ x σ3 => m = (L - x).toNat ∧ (0 ≤ x ∧ x ≤ L) ∧ at_ = cs σ r.1 x.toNat ∧ lG σ σ3 (r' :: R) (oG σ (r' :: R) r.1 0 x.toNat) r'.2 (fun l => oG σ (r' :: R) r.1 l x.toNat), fun σ3 => lG σ σ3 (r' :: R) (oG σ (r' :: R) r.1 0 L.toNat) r'.2 (fun l => oG σ (r' :: R) r.1 l L.toNat), ⟨_, rfl, ⟨by omega, by omega⟩, rfl, st⟩, ?_, fun σ3 f3 h3 => k σ3 h3⟩
  rintro m at_ x σ3 ra rx f3 ⟨en, hx, ea, h3⟩
  refine ⟨fun z => by rw [show L = x by omega]; exact h3, fun z => ?_⟩
  obtain ⟨pa, va⟩ := pR hv hc (i := x) ⟨by omega, by omega⟩
  obtain ⟨n1, n2, n3, n4⟩ := ln_b ln e1 rL (i := x) ⟨by omega, by omega⟩
  rw [va]
  obtain ⟨len, hlen⟩ : ∃ len, len = sg_g σ 142 (r.1 + x) := ⟨_, rfl⟩
  rw [← hlen] at n1 n3 ⊢
  have o0 := oG_0 (R := r' :: R) ln e1 rL x.toNat (by omega)
  refine ⟨fun m y σ4 => m = (len - y).toNat ∧ (0 ≤ y ∧ y ≤ len) ∧ (0 ≤ sg_g σ 150 x → lG σ σ4 (r' :: R) (oG σ (r' :: R) r.1 0 x.toNat + y) r'.2 (fun l => oG σ (r' :: R) r.1 l x.toNat + (bg σ (r' :: R) l (at_ + y) - bg σ (r' :: R) l at_))) ∧ (sg_g σ 150 x < 0 → lG σ σ4 (r' :: R) (oG σ (r' :: R) r.1 0 x.toNat) r'.2 (fun l => oG σ (r' :: R) r.1 l x.toNat)), fun σ4 => lG σ σ4 (r' :: R) (oG σ (r' :: R) r.1 0 (x + 1).toNat) r'.2 (fun l => oG σ (r' :: R) r.1 l (x + 1).toNat), ⟨_, rfl, ⟨by omega, by omega⟩, fun _ => ?_, fun _ => h3⟩, ?_, ?_⟩
  · exact lG_c h3 (Int.add_zero _) (fun l => by rw [Int.add_zero]; omega)
  · rintro m' y σ4 ry f4 ⟨en', hy, h4, h4'⟩
    refine ⟨pa, fun c => ?_, fun c => ⟨⟨by omega, by omega⟩, fun σ5 => (0 ≤ sg_g σ 150 x → lG σ σ5 (r' :: R) (oG σ (r' :: R) r.1 0 x.toNat + (y + 1)) r'.2 (fun l => oG σ (r' :: R) r.1 l x.toNat + (bg σ (r' :: R) l (at_ + (y + 1)) - bg σ (r' :: R) l at_))) ∧ (sg_g σ 150 x < 0 → lG σ σ5 (r' :: R) (oG σ (r' :: R) r.1 0 x.toNat) r'.2 (fun l => oG σ (r' :: R) r.1 l x.toNat)), ⟨fun c2 => ⟨fun c3 => by omega, h4'⟩, fun c2 => ⟨⟨by omega, by omega⟩, m_listG (h4 c2) (by omega) ⟨by omega, by omega⟩ (by omega) (by omega) (fun σ6 h6 f6 => ⟨fun _ => ?_, fun c3 => by omega⟩)⟩⟩, fun σ5 f5 h5 => ⟨⟨by omega, by omega⟩, _, by omega, rfl, ⟨by omega, by omega⟩, h5⟩⟩⟩
    · have e : y = len := by omega
      subst e
      by_cases c2 : 0 ≤ sg_g σ 150 x
      · refine lG_c (h4 c2) ?_ (fun l => ?_)
        · rw [oG_s hx.1, if_pos c2]
          simp only [bg]
          omega
        · skip
          rw [oG_s hx.1, if_pos c2, n3, ← ea]
      · refine lG_c (h4' (by omega)) ?_ (fun l => ?_)
        · rw [oG_s hx.1, if_neg c2, Int.add_zero]
        · skip
          rw [oG_s hx.1, if_neg c2, Int.add_zero]
    · refine lG_c h6 (by omega) (fun l => ?_)
      rw [show at_ + (y + 1) = at_ + y + 1 by omega]
      omega
  · intro σ4 f4 h4
    exact ⟨pa, ⟨by omega, by omega⟩, ⟨by omega, by omega⟩, _, by omega, rfl, ⟨by omega, by omega⟩, by omega, h4⟩
end FN
