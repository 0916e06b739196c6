/-! flat ops: lanes told, stepped, gathered, lengths put; IOTA, DIST. -/
section FI
variable {σ : sg_S} {M : Int} {R : List (Int × Int)}
theorem gT_u (h : fCh σ 6000 R) (lo : lnO σ R) (h4 : R.length ≤ 4) {J : Nat} (hJ : (J : Int) ≤ sg_g σ 88 93) : gT σ R J R.length ≤ 312000000 := by
  have hb : ∀ j : Nat, (j : Int) ≤ sg_g σ 88 93 → gT σ R j R.length ≤ 6000 * R.length * j := fun j => by
    induction j with
    | zero => intro _; rw [gT_z]; simp
    | succ j ih =>
      intro hj
      have i1 := ih (by omega)
      have i2 := eT_b h lo (j := j) (by omega) (by decide) (Nat.le_refl R.length)
      rw [gT_s, show ((j + 1 : Nat) : Int) = (j : Int) + 1 by omega, Int.mul_add, Int.mul_one]
      omega
  have h1 := hb J hJ
  have l0 := lo.1
  have : (6000 : Int) * (R.length : Int) * (J : Int) ≤ 24000 * 13000 := Int.mul_le_mul (by omega) (by omega) (by omega) (by omega)
  omega
theorem m_est {σ0 : sg_S} {v L N : Int} {Q : Int → sg_S → Prop} (hv : fV σ 6000 v R) (hR : R.length ≤ 3) (hC : fC σ0) (ex : fEx σ0 σ) (h91 : sg_g σ 88 91 = sg_g σ0 88 91) (h84 : sg_g σ 88 84 = sg_g σ0 88 84) (h85 : sg_g σ 88 85 = sg_g σ0 88 85) (h87 : sg_g σ 88 87 ≤ sg_g σ0 88 87 + 3) (hq : fq σ) (hl : lO σ N (R.getD 0 (0, 0)).2) (hN : N ≤ 13000) (hL : 0 ≤ L ∧ L ≤ 6000) (hn : N = ls σ L.toNat) (hz : ∀ i : Nat, (i : Int) < L → 0 ≤ sg_g σ 150 i ∧ sg_g σ 150 i ≤ 200) (k : ∀ q σ', opR σ0 σ' R.length L q → Q q σ') : V_extentOfLanes σ v (fun q37 σ38 => sg_RL q37 → sg_F [144] σ σ38 → sg_RL (L + q37) ∧ V_stepped σ38 (L + q37) (fun q44 σ45 => (q44 = 0 ∨ q44 = 1) → sg_F [74088, 85088, 86088] σ38 σ45 → ((¬ q44 = 0 → V_gathered σ45 v (fun q51 σ52 => sg_R q51 → sg_F [139, 140, 141, 142, 144, 88088, 92088] σ45 σ52 → V_putLens σ52 L (fun q57 σ58 => sg_R q57 → sg_F [142, 92088] σ52 σ58 → V_outer σ58 q57 L q51 (fun q63 σ64 => sg_R q63 → sg_F [139, 140, 141, 88088] σ58 σ64 → Q q63 σ64)))) ∧ (q44 = 0 → Q 0 σ45)))) := by
  obtain ⟨c1, c2, c3, c4⟩ := hC
  have h93 := hl.1
  have N0 := hl.2.1
  have lo : lnO σ R := lnO_of hl hN rfl
  have e87 := ex.1.1
  refine m_extL hv ⟨by decide, by decide⟩ ⟨by omega, by omega⟩ lo (fun t σ4 et f4 rt _ => ?_)
  have t0 : 0 ≤ t := by rw [et]; exact gT_b hv.2.2.2.2 lo (by decide) (by omega) (Nat.le_refl _)
  have tb : t ≤ 312000000 := by rw [et]; exact gT_u hv.2.2.2.2 lo (by omega) (by omega)
  have g84 : sg_g σ4 88 84 = sg_g σ0 88 84 := by rw [sg_F_g f4 (by rfl)]; exact h84
  have g85 : sg_g σ4 88 85 = sg_g σ0 88 85 := by rw [sg_F_g f4 (by rfl)]; exact h85
  refine ⟨⟨by omega, by omega⟩, m_stepped ⟨by omega, by omega⟩ ⟨by omega, by omega⟩ (fun σ' e _ _ => ⟨fun z => absurd rfl z, fun _ => k _ _ (Or.inl e)⟩) (fun σ5 f5 s1 s2 s3 s4 _ _ => ⟨fun _ => ?_, fun z => by omega⟩)⟩
  have f45 : sg_F [144, 85088, 86088] σ σ5 := sg_F_t (sg_F_m f4 rfl) (sg_F_m f5 rfl)
  have i91 : sg_g σ5 88 91 = sg_g σ0 88 91 := by rw [sg_F_g f45 (by rfl)]; exact h91
  have i87 : sg_g σ5 88 87 = sg_g σ 88 87 := sg_F_g f45 (by rfl)
  have et5 : gT σ5 R N.toNat R.length = t := by rw [et, gT_F f45 rfl rfl, h93]
  refine m_tail (fV_up (fEx_F f45 rfl) hv) hR ⟨by decide, by decide⟩ (by omega) ⟨by omega, by omega⟩ (lO_F f45 rfl hl) hN hL (by rw [hn]; exact (ls_e (fun i _ => sg_F_ga f45 rfl)).symm) (fun i hi => by rw [sg_F_ga f45 rfl]; exact hz i hi) (by omega) (by omega) (fun q σ6 ex6 e91 e87' f6 hf => k q σ6 (opR_mk (σ1 := σ5) (a := L + t) (by omega) s2 (by omega) s4 (by omega) f6 rfl (fq_F f6 rfl (fq_F f45 rfl hq)) (fEx_t ex (fEx_t (fEx_F f45 rfl) ex6)) (by omega) (by omega) ?_))
  obtain ⟨R', y1, y2, y3, y4⟩ := hf
  exact ⟨R', y1, by omega, y3, by omega⟩
theorem ls_w {σ1 σ2 : sg_S} {i c : Int} (e : σ2 = sg_w σ1 150 i c) (hi : 0 ≤ i) (hc : sg_R c) : ls σ2 (i + 1).toNat = ls σ1 i.toNat + c ∧ (∀ j : Nat, (j : Int) < i → sg_g σ2 150 j = sg_g σ1 150 j) ∧ sg_g σ2 150 i = c := by
  have o : ∀ j : Nat, (j : Int) < i → sg_g σ2 150 j = sg_g σ1 150 j := fun j hj => by rw [e, sg_gw_k _ _ _ _ _ _ (by omega)]
  have n : sg_g σ2 150 i = c := by rw [e, sg_gw_e _ _ _ _ hc]
  refine ⟨?_, o, n⟩
  rw [show (i + 1).toNat = i.toNat + 1 by omega]
  simp only [ls]
  rw [ls_e (σ := σ1) (fun j hj => o j (by omega)), show ((i.toNat : Nat) : Int) = i by omega, n]
theorem m_fDist {L a b : Int} {K K' : Nat} {Q : Int → sg_S → Prop} (hC : fC σ) (ha : fL σ K L a) (hK : K ≤ 2) (hb : fL σ K' L b) (hq : fq σ) (k : ∀ q σ', opR σ σ' (K + 1) L q → Q q σ') : V_flatDist σ a b L Q := by
  have hL := fL_L ha
  have hC' := hC
  obtain ⟨c1, c2, c3, c4⟩ := hC
  obtain ⟨r, R, hv, hR, rL⟩ := fL_c ha
  obtain ⟨s, S, hu, hS, sL⟩ := fL_c hb
  unfold V_flatDist
  refine ⟨fun m sm x σ3 => m = (L - x).toNat ∧ (0 ≤ x ∧ x ≤ L) ∧ sm = L + ls σ3 x.toNat ∧ fq σ3 ∧ ∀ i : Nat, (i : Int) < x → 0 ≤ sg_g σ3 150 i ∧ sg_g σ3 150 i ≤ 200, fun sm σ3 => sm = L + ls σ3 L.toNat ∧ fq σ3 ∧ ∀ i : Nat, (i : Int) < L → 0 ≤ sg_g σ3 150 i ∧ sg_g σ3 150 i ≤ 200, ⟨_, rfl, ⟨by omega, by omega⟩, by simp only [show (0 : Int).toNat = 0 by rfl, ls]; omega, hq, fun i hi => by omega⟩, ?_, ?_⟩
  · rintro m sm x σ3 rs rx f3 ⟨en, hx, es, hq3, hz⟩
    refine ⟨fun z => by rw [show L = x by omega]; exact ⟨by omega, hq3, hz⟩, fun z => ?_⟩
    obtain ⟨pb, vb⟩ := pR hu ⟨by omega, by omega⟩ (i := x) ⟨by omega, by omega⟩
    rw [vb]
    refine ⟨pb, fun σ4 => fq σ4, ⟨fun _ => hq3, fun _ => m_lacks ⟨by omega, rx⟩ ⟨by decide, by decide, by decide⟩ hq3 (fun σ5 _ h5 _ => h5)⟩, fun σ4 f4 hq4 => ⟨⟨fun _ => trivial, fun c => ⟨pb, trivial⟩⟩, fun v97 e97 r97 => ⟨⟨by omega, by omega⟩, fun σ5 e5 => ?_⟩⟩⟩
    have vb2 : 0 ≤ v97 ∧ v97 ≤ 200 := by
      rw [e97]
      unfold v_in
      constructor <;> split <;> split <;> (try split) <;> omega
    obtain ⟨w1, w2, w3⟩ := ls_w e5 (by omega) r97
    have l4 : ls σ4 x.toNat = ls σ3 x.toNat := ls_e (fun i _ => sg_F_ga f4 rfl)
    have lb := ls_b (σ := σ3) (n := x.toNat) (fun i hi => hz i (by omega))
    rw [w3]
    refine ⟨⟨by omega, by omega⟩, ⟨by omega, by omega⟩, _, by omega, rfl, ⟨by omega, by omega⟩, by omega, fq_F (l := [150]) (by rw [e5]; exact sg_F_w (sg_F_r _ _) rfl _) rfl hq4, fun i hi => ?_⟩
    by_cases c : (i : Int) = x
    · rw [c, w3]; exact vb2
    · rw [w2 i (by omega), sg_F_ga f4 rfl]; exact hz i (by omega)
  · rintro sm σ3 rs f3 ⟨es, hq3, hz⟩
    have lb := ls_b (σ := σ3) (n := L.toNat) (fun i hi => hz i (by omega))
    have g84 : sg_g σ3 88 84 = sg_g σ 88 84 := sg_F_g f3 (by rfl)
    have g85 : sg_g σ3 88 85 = sg_g σ 88 85 := sg_F_g f3 (by rfl)
    refine ⟨fun z σ4 e4 => ?_, fun z => m_stepped ⟨by omega, by omega⟩ ⟨by omega, by omega⟩ (fun σ' e _ _ => k _ _ (Or.inl e)) (fun σ5 f5 s1 s2 s3 s4 _ _ => by omega)⟩
    have f4 : sg_F [94088] σ3 σ4 := by rw [e4]; exact sg_F_w (sg_F_r _ _) rfl _
    have lm : ∀ x : Int, 0 ≤ x → x < L → 0 ≤ ls σ3 x.toNat ∧ ls σ3 (x + 1).toNat = ls σ3 x.toNat + sg_g σ3 150 x ∧ ls σ3 (x + 1).toNat ≤ ls σ3 L.toNat := fun x h1 h2 => by
      refine ⟨(ls_b (n := x.toNat) (fun i hi => hz i (by omega))).1, ?_, ?_⟩
      · rw [show (x + 1).toNat = x.toNat + 1 by omega]
        simp only [ls]
        rw [show ((x.toNat : Nat) : Int) = x by omega]
      · have : ∀ d : Nat, x.toNat + 1 + d ≤ L.toNat → ls σ3 (x + 1).toNat ≤ ls σ3 (x.toNat + 1 + d) := fun d => by
          induction d with
          | zero => intro _; rw [show (x + 1).toNat = x.toNat + 1 + 0 by omega]; exact Int.le_refl _
          | succ d ih =>
            intro h
            have i1 := ih (by omega)
            have i2 := (hz (x.toNat + 1 + d) (by omega)).1
            rw [show x.toNat + 1 + (d + 1) = (x.toNat + 1 + d) + 1 by omega]
            simp only [ls]
            omega
        have h := this (L.toNat - (x.toNat + 1)) (by omega)
        rwa [show x.toNat + 1 + (L.toNat - (x.toNat + 1)) = L.toNat by omega] at h
    refine ⟨fun m x σ5 => m = (L - x).toNat ∧ (0 ≤ x ∧ x ≤ L) ∧ lO σ5 (ls σ3 x.toNat) L, fun σ5 => lO σ5 (ls σ3 L.toNat) L, ⟨_, rfl, ⟨by omega, by omega⟩, lO_0 e4⟩, ?_, ?_⟩
    · rintro m x σ5 rx f5 ⟨en, hx, hl⟩
      refine ⟨fun z => by rw [show L = x by omega]; rw [show L = x by omega] at hl; exact hl, fun z => ?_⟩
      obtain ⟨l1, l2, l3⟩ := lm x (by omega) z
      have hz0 := hz x.toNat (by omega)
      rw [show ((x.toNat : Nat) : Int) = x by omega] at hz0
      refine ⟨fun m y σ6 => m = (sg_g σ3 150 x - y).toNat ∧ (0 ≤ y ∧ y ≤ sg_g σ3 150 x) ∧ lO σ6 (ls σ3 x.toNat + y) L, fun σ6 => lO σ6 (ls σ3 (x + 1).toNat) L, ⟨_, rfl, ⟨by omega, by omega⟩, by rw [Int.add_zero]; exact hl⟩, ?_, ?_⟩
      · rintro m' y σ6 ry f6 ⟨en', hy, hl6⟩
        refine ⟨⟨by omega, by omega⟩, fun z' => ?_, fun z' => m_list hl6 (by omega) rx z (fun σ7 h7 f7 => ⟨⟨by omega, by omega⟩, _, by omega, rfl, ⟨by omega, by omega⟩, ?_⟩)⟩
        · rw [l2, show sg_g σ3 150 x = y by omega]; exact hl6
        · rw [← Int.add_assoc]; exact h7
      · intro σ6 f6 hl6
        exact ⟨⟨by omega, by omega⟩, _, by omega, rfl, ⟨by omega, by omega⟩, hl6⟩
    · intro σ5 f5 hl
      have F : sg_F [143, 150, 94088, 103088, 104088] σ σ5 := sg_F_t (sg_F_m f3 rfl) (sg_F_t (sg_F_m f4 rfl) (sg_F_m f5 rfl))
      have F35 : sg_F [143, 94088] σ3 σ5 := sg_F_t (sg_F_m f4 rfl) f5
      exact m_est (fV_up (fEx_F F rfl) hv) (by simp only [List.length_cons]; omega) hC' (fEx_F F rfl) (sg_F_g F (by rfl)) (sg_F_g F (by rfl)) (sg_F_g F (by rfl)) (by rw [sg_F_g F (by rfl)]; omega) (fq_F F35 rfl hq3) (by rw [List.getD_cons_zero, rL]; exact hl) (by omega) hL (ls_e (fun i _ => sg_F_ga F35 rfl)).symm (fun i hi => by rw [sg_F_ga F35 rfl]; exact hz i hi) (fun q σ' h => k q σ' (by simp only [List.length_cons, hR] at h; exact h))
end FI
