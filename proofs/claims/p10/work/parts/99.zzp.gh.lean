/-! The value of a flat run is shown. -/
/-- how far row t is read -/
def shP (σ : sg_S) (t : Nat) : Int := if t = 0 then 1 else sg_g σ 151 t
/-- rows 1 to n: cells not yet read -/
def rSh (σ : sg_S) (R : List (Int × Int)) : Nat → Int
  | 0 => 0
  | n + 1 => rSh σ R n + ((R.getD (n + 1) (0, 0)).2 - sg_g σ 151 (n + 1 : Nat))
/-- d levels are open -/
def shJ (σ σ' : sg_S) (R : List (Int × Int)) (K d : Nat) : Prop := (∀ t, t ≤ K → 0 ≤ shP σ' t ∧ shP σ' t ≤ (R.getD t (0, 0)).2) ∧ ∀ i, i < K → (i < d → 1 ≤ shP σ' i ∧ sg_g σ' 137 i = sg_g σ 142 ((R.getD i (0, 0)).1 + (shP σ' i - 1)) ∧ (0 ≤ sg_g σ' 138 i ∧ sg_g σ' 138 i ≤ sg_g σ' 137 i) ∧ shP σ' (i + 1) = cs σ (R.getD i (0, 0)).1 (shP σ' i - 1).toNat + sg_g σ' 138 i) ∧ (d ≤ i → shP σ' (i + 1) = cs σ (R.getD i (0, 0)).1 (shP σ' i).toNat)
theorem rSh_e {σ1 σ2 : sg_S} {R : List (Int × Int)} : ∀ {n : Nat}, (∀ t : Nat, 1 ≤ t → t ≤ n → sg_g σ2 151 t = sg_g σ1 151 t) → rSh σ2 R n = rSh σ1 R n
  | 0, _ => rfl
  | n + 1, h => by
    simp only [rSh]
    rw [rSh_e (n := n) (fun t a b => h t a (by omega)), h (n + 1) (by omega) (Nat.le_refl _)]
theorem rSh_w {σ1 σ2 : sg_S} {R : List (Int × Int)} {d : Nat} (h1 : 1 ≤ d) (he : sg_g σ2 151 d = sg_g σ1 151 d + 1) (ho : ∀ t : Nat, ¬ t = d → sg_g σ2 151 t = sg_g σ1 151 t) : ∀ {n : Nat}, d ≤ n → rSh σ2 R n = rSh σ1 R n - 1
  | 0, h => by omega
  | n + 1, h => by
    simp only [rSh]
    by_cases c : d = n + 1
    · subst c
      rw [rSh_e (n := n) (fun t a b => ho t (by omega)), he]
      omega
    · rw [rSh_w h1 he ho (n := n) (by omega), ho (n + 1) (by omega)]
      omega
theorem rSh_0 {σ : sg_S} {R : List (Int × Int)} : ∀ {n : Nat}, (∀ t : Nat, 1 ≤ t → t ≤ n → sg_g σ 151 t ≤ (R.getD t (0, 0)).2) → 0 ≤ rSh σ R n
  | 0, _ => Int.le_refl _
  | n + 1, h => by
    have a := rSh_0 (n := n) (fun t x y => h t x (by omega))
    have b := h (n + 1) (by omega) (Nat.le_refl _)
    simp only [rSh]
    omega
theorem rSh_z {σ : sg_S} {R : List (Int × Int)} : ∀ {n : Nat}, (∀ t : Nat, 1 ≤ t → t ≤ n → sg_g σ 151 t = 0) → rSh σ R n + (R.getD 0 (0, 0)).2 = eD R (n + 1)
  | 0, _ => by simp only [rSh, eD]
  | n + 1, h => by
    have a := rSh_z (R := R) (n := n) (fun t x y => h t x (by omega))
    have b := h (n + 1) (by omega) (Nat.le_refl _)
    have e : eD R (n + 1 + 1) = eD R (n + 1) + (R.getD (n + 1) (0, 0)).2 := rfl
    simp only [rSh]
    omega
section GH
variable {σ : sg_S} {Q : sg_S → Prop}
theorem m_showE (he : ¬ sg_g σ 88 83 = 0) (k : ∀ σ', (0 ≤ sg_g σ' 88 77 ∧ sg_g σ' 88 77 ≤ 80000) → sg_F [136, 137, 138, 151, 78088, 79088] σ σ' → Q σ') : V_showFlat σ Q := by
  unfold V_showFlat
  intro σ1 e1
  refine ⟨fun _ => ⟨fun _ σ6 e6 => k σ6 ?_ ?_, fun z => absurd z he⟩, fun z => absurd z he⟩
  · rw [e6, sg_gw_e _ _ _ _ ⟨by decide, by decide⟩]; decide
  · rw [e6, e1]; exact sg_F_w (sg_F_w (sg_F_r _ _) rfl _) rfl _
theorem m_showF {K : Nat} (he : sg_g σ 88 83 = 0) (hr : 0 ≤ sg_g σ 88 27 ∧ sg_g σ 88 27 < 210) (hT : sg_g σ 101 (sg_g σ 88 27) = K) (hK : K ≤ 3) (hq : sg_g σ 88 91 ≤ 60000 ∧ sg_g σ 88 87 ≤ 30000) (hv : fLx σ K 1 6000 (sg_g σ 133 0)) (k : ∀ σ', (0 ≤ sg_g σ' 88 77 ∧ sg_g σ' 88 77 ≤ 80000) → sg_F [136, 137, 138, 151, 78088, 79088] σ σ' → Q σ') : V_showFlat σ Q := by
  obtain ⟨R, hv1, hv2, hv3, hv4⟩ := hv
  have vb := hv1.1
  have ch := hv1.2.2.2.2
  obtain ⟨r0, R', eR⟩ : ∃ r0 R', R = r0 :: R' := by
    cases R with
    | nil => simp at hv2
    | cons x y => exact ⟨x, y, rfl⟩
  have hv1' := hv1
  rw [eR] at hv1'
  have r01 : r0.2 = 1 := by rw [eR] at hv3; exact hv3
  obtain ⟨p0, v0⟩ := pR hv1' hq (i := 0) ⟨by omega, by omega⟩
  have row : ∀ t, t ≤ K → ∃ q, R[t]? = some q ∧ R.getD t (0, 0) = q ∧ fRw σ 6000 q ∧ sg_g σ 140 (4 * sg_g σ 133 0 + t) = q.1 ∧ (t < K → fLn σ q ∧ (R.getD (t + 1) (0, 0)).2 = cs σ q.1 q.2.toNat) := fun t ht => by
    obtain ⟨q, hq'⟩ : ∃ q, R[t]? = some q := ⟨_, List.getElem?_eq_getElem (by omega)⟩
    obtain ⟨a1, a2⟩ := fCh_at ch hq'
    refine ⟨q, hq', by rw [List.getD_eq_getElem?_getD, hq']; rfl, a1, (hv1.2.2.2.1 t q hq').1, fun h => ?_⟩
    obtain ⟨q', hq2⟩ : ∃ q, R[t + 1]? = some q := ⟨_, List.getElem?_eq_getElem (by omega)⟩
    rw [List.getD_eq_getElem?_getD, hq2]
    exact a2 q' hq2
  unfold V_showFlat
  intro σ1 e1
  have F1 : sg_F [136, 137, 138, 151, 78088, 79088] σ σ1 := by rw [e1]; exact sg_F_w (sg_F_r _ _) rfl _
  have a1 : sg_g σ1 88 78 = 80000 := by rw [e1, sg_gw_e _ _ _ _ ⟨by decide, by decide⟩]
  refine ⟨fun z => absurd he z, fun _ => ⟨hr, fun t0 => ⟨fun z => absurd he z, fun _ => ?_⟩, fun t0 => ?_⟩⟩
  rotate_left
  · refine ⟨p0, m_showN (by omega) (by rw [v0]; exact sg_Rg _ _ _) (fun σ2 x1 x2 x3 _ => ⟨⟨by omega, by omega⟩, fun σ3 e3 => k σ3 ?_ ?_⟩)⟩
    · rw [e3, sg_gw_e _ _ _ _ ⟨by omega, by omega⟩]; omega
    · rw [e3]; exact sg_F_w (sg_F_t F1 (sg_F_m x3 rfl)) rfl _
  rw [hT] at t0
  rw [hT]
  refine ⟨fun n x σ2 => n = (5 - x).toNat ∧ (0 ≤ x ∧ x ≤ 5) ∧ ∀ j, 0 ≤ j → j < x → sg_g σ2 151 j = 0, fun σ2 => ∀ j, 0 ≤ j → j < 5 → sg_g σ2 151 j = 0, ⟨_, rfl, ⟨by omega, by omega⟩, fun j a b => by omega⟩, ?_, ?_⟩
  · rintro n x σ2 rx f2 ⟨en, hx, h2⟩
    refine ⟨fun z j a b => h2 j a (by omega), fun z => ⟨⟨by omega, by omega⟩, fun σ3 e3 => ⟨⟨by omega, by omega⟩, _, by omega, rfl, ⟨by omega, by omega⟩, fun j a b => ?_⟩⟩⟩
    by_cases c : j = x
    · rw [c, e3, sg_gw_e _ _ _ _ ⟨by decide, by decide⟩]
    · rw [e3, sg_gw_k _ _ _ _ _ _ c]; exact h2 j a (by omega)
  intro σ2 f2 h2
  have F2 : sg_F [136, 137, 138, 151, 78088, 79088] σ σ2 := sg_F_t F1 (sg_F_m f2 rfl)
  refine ⟨p0, fun σ3 e3 σ4 e4 => ?_⟩
  have F4 : sg_F [136, 137, 138, 151, 78088, 79088] σ σ4 := by rw [e4, e3]; exact sg_F_w (sg_F_w F2 rfl _) rfl _
  have a4 : sg_g σ4 88 78 = 80000 := by rw [e4, sg_gw_c _ _ _ _ _ _ (by decide), e3, sg_gw_c _ _ _ _ _ _ (by decide), sg_F_g f2 (by rfl)]; exact a1
  refine m_show (by omega) (fun σ5 x1 x2 _ => ?_)
  have F5 : sg_F [136, 137, 138, 151, 78088, 79088] σ σ5 := sg_F_t F4 (sg_F_m x2 rfl)
  have z5 : ∀ j : Nat, j < 5 → sg_g σ5 151 j = 0 := fun j hj => by
    rw [sg_F_ga x2 rfl, e4, sg_gw_c _ _ _ _ _ _ (by decide), e3, sg_gw_c _ _ _ _ _ _ (by decide)]
    exact h2 j (by omega) (by omega)
  have s5 : sg_g σ5 137 ((0 : Nat) : Int) = sg_g σ 142 r0.1 := by
    rw [sg_F_ga x2 rfl, e4, sg_gw_c _ _ _ _ _ _ (by decide), e3]
    rw [show ((0 : Nat) : Int) = 0 by rfl, sg_gw_e _ _ _ _ (by rw [v0]; exact sg_Rg _ _ _), v0, Int.add_zero]
  have i5 : sg_g σ5 138 ((0 : Nat) : Int) = 0 := by
    rw [sg_F_ga x2 rfl, e4, show ((0 : Nat) : Int) = 0 by rfl, sg_gw_e _ _ _ _ ⟨by decide, by decide⟩]
  have l5 : ∀ q, 0 < K → R[0]? = some q → 0 ≤ sg_g σ 142 r0.1 := fun q hk hq' => by
    obtain ⟨q0, y1, y2, y3, y4, y5⟩ := row 0 (by omega)
    have := (y5 hk).1 0 (by omega)
    rw [eR] at y1
    cases y1
    have := this (by omega)
    rw [Int.add_zero] at this
    exact this.1
  have J5 : shJ σ σ5 R K 1 := by
    refine ⟨fun t ht => ?_, fun i hi => ⟨fun c => ?_, fun c => ?_⟩⟩
    · unfold shP
      obtain ⟨q, y1, y2, y3, -⟩ := row t ht
      by_cases c : t = 0
      · rw [if_pos c, c, eR]
        simp only [List.getD_cons_zero]
        omega
      · rw [if_neg c, z5 t (by omega), y2]
        exact ⟨Int.le_refl _, y3.2.1⟩
    · have : i = 0 := by omega
      subst this
      have e0 : shP σ5 0 = 1 := rfl
      have e1' : shP σ5 (0 + 1) = 0 := by unfold shP; rw [if_neg (by decide)]; exact z5 1 (by decide)
      rw [e0, e1', s5, i5, eR]
      simp only [List.getD_cons_zero]
      refine ⟨by decide, by rw [show (1 : Int) - 1 = 0 by decide, Int.add_zero], ⟨by decide, l5 r0 hi (by rw [eR]; rfl)⟩, rfl⟩
    · have e1' : shP σ5 (i + 1) = 0 := by unfold shP; rw [if_neg (by omega)]; exact z5 (i + 1) (by omega)
      have e2' : shP σ5 i = 0 := by unfold shP; rw [if_neg (by omega)]; exact z5 i (by omega)
      rw [e1', e2']
      rfl
  have rz := rSh_z (σ := σ5) (R := R) (n := K) (fun t a b => z5 t (by omega))
  have eXR := eX_D R
  rw [hv2] at eXR
  have R5 : rSh σ5 R K ≤ 6000 := by
    rw [eR] at rz
    simp only [List.getD_cons_zero] at rz
    rw [eR] at eXR hv4 ⊢
    omega
  have Rn : ∀ σ' : sg_S, ∀ d : Nat, shJ σ σ' R K d → 0 ≤ rSh σ' R K := fun σ' d hJ => rSh_0 (fun t a b => by
    have := (hJ.1 t b).2
    unfold shP at this
    rwa [if_neg (by omega)] at this)
  refine ⟨fun n v σ6 => ∃ d : Nat, v = d ∧ d ≤ K ∧ shJ σ σ6 R K d ∧ 80000 ≤ sg_g σ6 88 78 ∧ sg_g σ6 88 78 + (12 * rSh σ6 R K + d) ≤ 152002 ∧ n = (12 * rSh σ6 R K + d).toNat, fun σ6 => 80000 ≤ sg_g σ6 88 78 ∧ sg_g σ6 88 78 ≤ 152002, ⟨_, 1, rfl, by omega, J5, by omega, by omega, rfl⟩, ?_, ?_⟩
  rotate_left
  · rintro σ6 f6 ⟨b1, b2⟩
    refine ⟨⟨by omega, by omega⟩, fun σ7 e7 => k σ7 ?_ ?_⟩
    · rw [e7, sg_gw_e _ _ _ _ ⟨by omega, by omega⟩]; omega
    · rw [e7]; exact sg_F_w (sg_F_t F5 (sg_F_m f6 rfl)) rfl _
  rintro n v σ6 rv f6 ⟨d, rfl, hd, hJ, b1, b2, en⟩
  have rn := Rn σ6 d hJ
  refine ⟨fun _ => ⟨b1, by omega⟩, fun d0 => ?_⟩
  obtain ⟨e, rfl⟩ : ∃ e, d = e + 1 := ⟨d - 1, by omega⟩
  have ee : ((e + 1 : Nat) : Int) - 1 = (e : Int) := by omega
  rw [ee]
  obtain ⟨q1, q2, q3, q4⟩ := (hJ.2 e (by omega)).1 (by omega)
  obtain ⟨re, y1, y2, y3, y4, y5⟩ := row e (by omega)
  obtain ⟨ln, hc⟩ := y5 (by omega)
  have pe := hJ.1 e (by omega)
  have pe1 := hJ.1 (e + 1) (by omega)
  rw [y2] at q2 q4 pe
  obtain ⟨P, hP⟩ : ∃ P, P = shP σ6 e := ⟨_, rfl⟩
  rw [← hP] at q1 q2 q4 pe
  obtain ⟨re', y1', y2', y3', y4', y5'⟩ := row (e + 1) (by omega)
  rw [y2'] at pe1 hc
  have cS := cs_s (σ := σ) (p := re.1) (i := P - 1) (by omega)
  rw [show P - 1 + 1 = P by omega, ← q2] at cS
  have cM := (cs_m ln (i := P.toNat) (j := re.2.toNat) (by omega) (by omega)).1
  have sh1 : shP σ6 (e + 1) = sg_g σ6 151 (e + 1 : Nat) := by unfold shP; rw [if_neg (by omega)]
  have lb := ln (P - 1) (by omega) (by omega)
  rw [← q2] at lb
  refine ⟨⟨by omega, by omega⟩, ⟨by omega, by omega⟩, fun v65 σ7 => ∃ d' : Nat, v65 = d' ∧ d' ≤ K ∧ shJ σ σ7 R K d' ∧ 80000 ≤ sg_g σ7 88 78 ∧ sg_g σ7 88 78 + (12 * rSh σ7 R K + d') ≤ 152002 ∧ 12 * rSh σ7 R K + d' < 12 * rSh σ6 R K + (e + 1 : Nat), ⟨fun ne => ?_, fun eq => ?_⟩, ?_⟩
  · have il : sg_g σ6 138 e < sg_g σ6 137 e := by omega
    refine ⟨fun σ7 => sg_g σ6 88 78 ≤ sg_g σ7 88 78 ∧ sg_g σ7 88 78 ≤ sg_g σ6 88 78 + 1, ⟨fun _ => ⟨by omega, by omega⟩, fun _ => m_show (by omega) (fun σ' u1 u2 _ => ⟨by omega, by omega⟩)⟩, fun σ7 f7 p7 => ⟨⟨by omega, by omega⟩, fun σ8 e8 => ?_⟩⟩
    rw [y4']
    obtain ⟨z1, z2, z3, z4⟩ := y3'
    have p5 : 0 ≤ sg_g σ6 151 (e + 1 : Nat) ∧ sg_g σ6 151 (e + 1 : Nat) < re'.2 := by omega
    refine ⟨⟨by omega, by omega⟩, ⟨by omega, by omega⟩, ⟨by omega, by omega⟩, ⟨by omega, by omega⟩, ⟨by omega, by omega⟩, ⟨by omega, by omega⟩, ⟨by omega, by omega⟩, fun σ9 e9 => ?_⟩
    have g151 : ∀ t : Nat, ¬ t = e + 1 → sg_g σ9 151 t = sg_g σ6 151 t := fun t ht => by rw [e9, sg_gw_k _ _ _ _ _ _ (by omega), e8, sg_gw_c _ _ _ _ _ _ (by decide), sg_F_ga f7 rfl]
    have g151e : sg_g σ9 151 (e + 1 : Nat) = sg_g σ6 151 (e + 1 : Nat) + 1 := by rw [e9, sg_gw_e _ _ _ _ ⟨by omega, by omega⟩]
    have g137 : ∀ t : Int, sg_g σ9 137 t = sg_g σ6 137 t := fun t => by rw [e9, sg_gw_c _ _ _ _ _ _ (by decide), e8, sg_gw_c _ _ _ _ _ _ (by decide), sg_F_ga f7 rfl]
    have g138 : ∀ t : Int, ¬ t = (e : Int) → sg_g σ9 138 t = sg_g σ6 138 t := fun t ht => by rw [e9, sg_gw_c _ _ _ _ _ _ (by decide), e8, sg_gw_k _ _ _ _ _ _ ht, sg_F_ga f7 rfl]
    have g138e : sg_g σ9 138 e = sg_g σ6 138 e + 1 := by rw [e9, sg_gw_c _ _ _ _ _ _ (by decide), e8, sg_gw_e _ _ _ _ ⟨by omega, by omega⟩]
    have g78 : sg_g σ9 88 78 = sg_g σ7 88 78 := by rw [e9, sg_gw_c _ _ _ _ _ _ (by decide), e8, sg_gw_c _ _ _ _ _ _ (by decide)]
    have rs9 : rSh σ9 R K = rSh σ6 R K - 1 := rSh_w (d := e + 1) (by omega) g151e g151 (by omega)
    have shP9 : ∀ t : Nat, ¬ t = e + 1 → shP σ9 t = shP σ6 t := fun t ht => by
      unfold shP
      by_cases c : t = 0
      · rw [if_pos c, if_pos c]
      · rw [if_neg c, if_neg c]; exact g151 t ht
    have shP9e : shP σ9 (e + 1) = shP σ6 (e + 1) + 1 := by
      unfold shP
      rw [if_neg (by omega), if_neg (by omega)]
      exact g151e
    have J1 : ∀ σ', (∀ t : Nat, shP σ' t = shP σ9 t) → ∀ t, t ≤ K → 0 ≤ shP σ' t ∧ shP σ' t ≤ (R.getD t (0, 0)).2 := fun σ' hs t ht => by
      rw [hs t]
      by_cases c : t = e + 1
      · rw [c, shP9e, sh1, y2']; omega
      · rw [shP9 t c]; exact hJ.1 t ht
    refine ⟨fun ck => ⟨⟨by omega, by omega⟩, fun σ10 e10 σ11 e11 => m_show ?_ (fun σ12 u1 u2 _ => ⟨⟨by omega, by omega⟩, e + 2, by omega, by omega, ?_⟩)⟩, fun ck => m_showN ?_ (sg_Rg _ _ _) (fun σ12 u1 u2 u3 _ => ⟨e + 1, rfl, by omega, ?_⟩)⟩
    · rw [e11, sg_gw_c _ _ _ _ _ _ (by decide), e10, sg_gw_c _ _ _ _ _ _ (by decide)]; omega
    · have i151 : ∀ t : Int, sg_g σ12 151 t = sg_g σ9 151 t := fun t => by rw [sg_F_ga u2 rfl, e11, sg_gw_c _ _ _ _ _ _ (by decide), e10, sg_gw_c _ _ _ _ _ _ (by decide)]
      have i137 : ∀ t : Int, ¬ t = (e + 1 : Nat) → sg_g σ12 137 t = sg_g σ9 137 t := fun t ht => by rw [sg_F_ga u2 rfl, e11, sg_gw_c _ _ _ _ _ _ (by decide), e10, sg_gw_k _ _ _ _ _ _ ht]
      have i137e : sg_g σ12 137 (e + 1 : Nat) = sg_g σ 142 (re'.1 + sg_g σ6 151 (e + 1 : Nat)) := by rw [sg_F_ga u2 rfl, e11, sg_gw_c _ _ _ _ _ _ (by decide), e10, sg_gw_e _ _ _ _ (sg_Rg _ _ _)]
      have i138 : ∀ t : Int, ¬ t = (e + 1 : Nat) → sg_g σ12 138 t = sg_g σ9 138 t := fun t ht => by rw [sg_F_ga u2 rfl, e11, sg_gw_k _ _ _ _ _ _ ht, e10, sg_gw_c _ _ _ _ _ _ (by decide)]
      have i138e : sg_g σ12 138 (e + 1 : Nat) = 0 := by rw [sg_F_ga u2 rfl, e11, sg_gw_e _ _ _ _ ⟨by decide, by decide⟩]
      have i78 : sg_g σ12 88 78 = sg_g σ7 88 78 + 1 := by rw [u1, e11, sg_gw_c _ _ _ _ _ _ (by decide), e10, sg_gw_c _ _ _ _ _ _ (by decide), g78]
      have sP : ∀ t : Nat, shP σ12 t = shP σ9 t := fun t => by
        unfold shP
        by_cases c : t = 0
        · rw [if_pos c, if_pos c]
        · rw [if_neg c, if_neg c]; exact i151 t
      have rs12 : rSh σ12 R K = rSh σ9 R K := rSh_e (fun t _ _ => i151 t)
      refine ⟨⟨J1 σ12 sP, fun i hi => ⟨fun c => ?_, fun c => ?_⟩⟩, by omega, by omega, by omega⟩
      · rw [sP, sP]
        by_cases c1 : i = e + 1
        · subst c1
          rw [i137e, i138e, shP9e, shP9 (e + 1 + 1) (by omega), sh1, y2', (hJ.2 (e + 1) hi).2 (by omega), y2', sh1]
          obtain ⟨ln', -⟩ := y5' (by omega)
          have lb' := ln' (sg_g σ6 151 (e + 1 : Nat)) p5.1 p5.2
          rw [show sg_g σ6 151 (e + 1 : Nat) + 1 - 1 = sg_g σ6 151 (e + 1 : Nat) by omega]
          exact ⟨by omega, rfl, ⟨by omega, lb'.1⟩, by omega⟩
        · rw [i137 i (by omega), i138 i (by omega), g137]
          by_cases c2 : i = e
          · subst c2
            rw [shP9 i (by omega), shP9e, g138e, y2, ← hP]
            exact ⟨q1, q2, ⟨by omega, by omega⟩, by omega⟩
          · rw [shP9 i (by omega), shP9 (i + 1) (by omega), g138 i (by omega)]
            exact (hJ.2 i hi).1 (by omega)
      · rw [sP, sP, shP9 (i + 1) (by omega), shP9 i (by omega)]
        exact (hJ.2 i hi).2 (by omega)
    · omega
    · have i78 := u2
      have sP : ∀ t : Nat, shP σ12 t = shP σ9 t := fun t => by
        unfold shP
        by_cases c : t = 0
        · rw [if_pos c, if_pos c]
        · rw [if_neg c, if_neg c]; exact sg_F_ga u3 rfl
      have rs12 : rSh σ12 R K = rSh σ9 R K := rSh_e (fun t _ _ => sg_F_ga u3 rfl)
      refine ⟨⟨J1 σ12 sP, fun i hi => ⟨fun c => ?_, fun c => ?_⟩⟩, by omega, by omega, by omega⟩
      · rw [sP, sP, sg_F_ga (a := 137) u3 rfl, sg_F_ga (a := 138) u3 rfl, g137]
        by_cases c2 : i = e
        · subst c2
          rw [shP9 i (by omega), shP9e, g138e, y2, ← hP]
          exact ⟨q1, q2, ⟨by omega, by omega⟩, by omega⟩
        · rw [shP9 i (by omega), shP9 (i + 1) (by omega), g138 i (by omega)]
          exact (hJ.2 i hi).1 (by omega)
      · omega
  · refine m_show (by omega) (fun σ7 u1 u2 _ => ⟨⟨by omega, by omega⟩, e, by omega, by omega, ?_⟩)
    have sP : ∀ t : Nat, shP σ7 t = shP σ6 t := fun t => by
      unfold shP
      by_cases c : t = 0
      · rw [if_pos c, if_pos c]
      · rw [if_neg c, if_neg c]; exact sg_F_ga u2 rfl
    have rs7 : rSh σ7 R K = rSh σ6 R K := rSh_e (fun t _ _ => sg_F_ga u2 rfl)
    refine ⟨⟨fun t ht => by rw [sP]; exact hJ.1 t ht, fun i hi => ⟨fun c => ?_, fun c => ?_⟩⟩, by omega, by omega, by omega⟩
    · rw [sP, sP, sg_F_ga (a := 137) u2 rfl, sg_F_ga (a := 138) u2 rfl]
      exact (hJ.2 i hi).1 (by omega)
    · rw [sP, sP]
      by_cases c2 : i = e
      · subst c2
        rw [y2, ← hP]; omega
      · exact (hJ.2 i hi).2 (by omega)
  · rintro v65 σ7 r7 f7 ⟨d', g1, g2, g3, g4, g5, g6⟩
    have := Rn σ7 d' g3
    exact ⟨_, by omega, d', g1, g2, g3, g4, g5, rfl⟩
end GH
/-! flat() of the reference is safe. -/
section GI
variable {A : aT} {D : List aDf} {T B : Int → Int} {lev : Int → Nat} {r : Int}
theorem m_flE {σ : sg_S} {m : Nat} {tys : List (Int × Int × Int)} {Q : sg_S → Prop} (hX : pgX σ A D T B) (hN : fN σ) (h : fTop A D T B lev r σ m tys) (e0 : sg_g σ 88 73 = 0) (k15 : A.2.1 (sg_g σ 126 m) = 15) (k : ∀ σ', fQ A D T B lev r σ σ' → Q σ') : V_flatEach σ m Q := by
  have hh := h
  obtain ⟨fm, j, f, L, sc, X, h1, h2, h3, h4, h5, h6, h7, h8⟩ := h
  rw [fK_15 k15] at h7
  obtain ⟨bd, tl, ea, q⟩ := h7
  rcases q with ⟨i, q1, q2, -⟩ | ⟨ts, q1, -⟩ | ⟨mm, q1, -⟩
  · by_cases c : i = (A.2.2.2.2.2 (sg_g σ 126 m)).length
    · exact m_eB hX hN hh e0 k15 (by omega) k
    · exact m_eA hX hN hh e0 k15 ⟨by omega, by omega⟩ k
  · exact m_eC hX hN hh e0 k15 q1 k
  · exact m_eD hX hN hh e0 k15 q1 k
theorem m_go {σ : sg_S} {Q : sg_S → Prop} (hX : pgX σ A D T B) (hlv : lvP A D lev 0 r) (hI : fIv A D T B lev r σ) (h0 : 0 < sg_g σ 88 62) (e0 : sg_g σ 88 73 = 0) (k : ∀ σ', fQ A D T B lev r σ σ' → Q σ') : V_goFlat σ Q := by
  obtain ⟨hN, ⟨h1, -⟩ | ⟨m, tys, h⟩⟩ := hI
  · omega
  · exact m_goF hX hlv hN h e0 (fun k3 => m_flIf hX hN h e0 k3 (fun σ' hq _ => k σ' hq)) (fun k15 => m_flE hX hN h e0 k15 (fun σ' hq _ => k σ' hq)) k
theorem q_flat {σ : sg_S} {Q : Int → sg_S → Prop} (hR : sg_g σ 88 28 = 0 ∨ (pgX σ A D T B ∧ sg_g σ 88 27 = r ∧ tyN A (kDl D []) T B 201 [] r ∧ frA A (aRt D ++ [r]))) (h82 : 0 ≤ sg_g σ 88 82 ∧ sg_g σ 88 82 ≤ 20) (h77 : 0 ≤ sg_g σ 88 77 ∧ sg_g σ 88 77 ≤ 80000) (k : ∀ q σ', sg_F [119, 120, 121, 126, 127, 128, 133, 134, 135, 136, 137, 138, 139, 140, 141, 142, 143, 144, 145, 146, 147, 148, 149, 150, 151, 1088, 47088, 50088, 63088, 71088, 74088, 78088, 79088, 82088, 83088, 84088, 85088, 86088, 87088, 88088, 92088, 94088, 100088, 103088, 104088] σ σ' → (0 ≤ sg_g σ' 88 82 ∧ sg_g σ' 88 82 ≤ 20) → (0 ≤ sg_g σ' 88 77 ∧ sg_g σ' 88 77 ≤ 80000) → Q q σ') : V_flat σ Q := by
  unfold V_flat
  intro σ1 e1
  have f1 : sg_F [1088] σ σ1 := by rw [e1]; exact sg_F_w (sg_F_r _ _) rfl _
  have fin1 : ∀ q, Q q σ1 := fun q => k q σ1 (sg_F_m f1 rfl) (by rw [sg_F_g f1 (by rfl)]; exact h82) (by rw [sg_F_g f1 (by rfl)]; exact h77)
  refine ⟨fun c28 => ⟨fun c82 => ?_, fun _ => fin1 _⟩, fun _ => fin1 _⟩
  rcases hR with hR | ⟨hX, hr, hty, hfr⟩
  · exact absurd hR c28
  obtain ⟨lev, hlv⟩ := lvP_ex hfr
  obtain ⟨hP, hD, eT, eB, hA, hdt⟩ := id hX
  obtain ⟨L0, g1, g2, g3⟩ := hlv.2
  have hst : stN A D T B lev D.length 201 L0 [] r := ⟨by rw [List.take_of_length_le (Nat.le_refl _)]; exact hty, g1, g2, fun y hy => ⟨(g3 y hy).1, by have := (g3 y hy).2; omega⟩, fun p hp => (by cases hp)⟩
  obtain ⟨w1, w2, w3, -⟩ := stN_w hst
  refine ⟨⟨by omega, by omega⟩, fun σ7 e7 σ10 e10 σ13 e13 σ16 e16 σ19 e19 σ22 e22 σ25 e25 σ28 e28 σ31 e31 σ34 e34 σ37 e37 => ?_⟩
  have F37 : sg_F [1088, 63088, 71088, 74088, 82088, 83088, 85088, 86088, 87088, 88088, 92088, 100088] σ σ37 := by
    rw [e37, e34, e31, e28, e25, e22, e19, e16, e13, e10, e7]
    exact sg_F_w (sg_F_w (sg_F_w (sg_F_w (sg_F_w (sg_F_w (sg_F_w (sg_F_w (sg_F_w (sg_F_w (sg_F_w (sg_F_m f1 rfl) rfl _) rfl _) rfl _) rfl _) rfl _) rfl _) rfl _) rfl _) rfl _) rfl _) rfl _
  have z : sg_R 0 := ⟨by decide, by decide⟩
  have c73 : sg_g σ37 88 73 = 0 := by rw [e37, sg_gw_e _ _ _ _ z]
  have c99 : sg_g σ37 88 99 = 0 := by rw [e37, sg_gw_k _ _ _ _ _ _ (by decide), e34, sg_gw_e _ _ _ _ z]
  have c70 : sg_g σ37 88 70 = 0 := by rw [e37, sg_gw_k _ _ _ _ _ _ (by decide), e34, sg_gw_k _ _ _ _ _ _ (by decide), e31, sg_gw_e _ _ _ _ z]
  have c62 : sg_g σ37 88 62 = 0 := by rw [e37, sg_gw_k _ _ _ _ _ _ (by decide), e34, sg_gw_k _ _ _ _ _ _ (by decide), e31, sg_gw_k _ _ _ _ _ _ (by decide), e28, sg_gw_e _ _ _ _ z]
  have c91 : sg_g σ37 88 91 = 0 := by rw [e37, sg_gw_k _ _ _ _ _ _ (by decide), e34, sg_gw_k _ _ _ _ _ _ (by decide), e31, sg_gw_k _ _ _ _ _ _ (by decide), e28, sg_gw_k _ _ _ _ _ _ (by decide), e25, sg_gw_e _ _ _ _ z]
  have c87 : sg_g σ37 88 87 = 0 := by rw [e37, sg_gw_k _ _ _ _ _ _ (by decide), e34, sg_gw_k _ _ _ _ _ _ (by decide), e31, sg_gw_k _ _ _ _ _ _ (by decide), e28, sg_gw_k _ _ _ _ _ _ (by decide), e25, sg_gw_k _ _ _ _ _ _ (by decide), e22, sg_gw_e _ _ _ _ z]
  have c85 : sg_g σ37 88 85 = 0 := by rw [e37, sg_gw_k _ _ _ _ _ _ (by decide), e34, sg_gw_k _ _ _ _ _ _ (by decide), e31, sg_gw_k _ _ _ _ _ _ (by decide), e28, sg_gw_k _ _ _ _ _ _ (by decide), e25, sg_gw_k _ _ _ _ _ _ (by decide), e22, sg_gw_k _ _ _ _ _ _ (by decide), e19, sg_gw_k _ _ _ _ _ _ (by decide), e16, sg_gw_e _ _ _ _ z]
  have c84 : sg_g σ37 88 84 = 0 := by rw [e37, sg_gw_k _ _ _ _ _ _ (by decide), e34, sg_gw_k _ _ _ _ _ _ (by decide), e31, sg_gw_k _ _ _ _ _ _ (by decide), e28, sg_gw_k _ _ _ _ _ _ (by decide), e25, sg_gw_k _ _ _ _ _ _ (by decide), e22, sg_gw_k _ _ _ _ _ _ (by decide), e19, sg_gw_k _ _ _ _ _ _ (by decide), e16, sg_gw_k _ _ _ _ _ _ (by decide), e13, sg_gw_e _ _ _ _ z]
  have c82' : sg_g σ37 88 82 = sg_g σ 88 82 + 1 := by rw [e37, sg_gw_k _ _ _ _ _ _ (by decide), e34, sg_gw_k _ _ _ _ _ _ (by decide), e31, sg_gw_k _ _ _ _ _ _ (by decide), e28, sg_gw_k _ _ _ _ _ _ (by decide), e25, sg_gw_k _ _ _ _ _ _ (by decide), e22, sg_gw_k _ _ _ _ _ _ (by decide), e19, sg_gw_k _ _ _ _ _ _ (by decide), e16, sg_gw_k _ _ _ _ _ _ (by decide), e13, sg_gw_k _ _ _ _ _ _ (by decide), e10, sg_gw_k _ _ _ _ _ _ (by decide), e7, sg_gw_e _ _ _ _ ⟨by omega, by omega⟩]
  have N37 : fNw σ37 := ⟨⟨⟨by omega, by omega⟩, ⟨by omega, by omega⟩, ⟨by omega, by omega⟩, ⟨by omega, by omega, by omega⟩, by omega, by omega⟩, fun i a b => by omega, by omega, by omega, by omega⟩
  rw [hr]
  refine ev_B (A := A) (D := D) (T := T) (B := B) (lev := lev) (r := r) (M := 0) (X := 0) N37 c73 (by omega) hst (fun p hp => (by cases hp)) ⟨by decide, by decide, by omega⟩ hA ⟨c70, rfl, rfl, rfl, c99⟩ (fun σ41 h41 f41 => ?_)
  refine ⟨fun n σ46 => ¬ sg_g σ46 88 73 = 0 ∨ (sg_g σ46 88 73 = 0 ∧ fIv A D T B lev r σ46 ∧ n = (fM σ46).toNat), fun σ46 => ¬ sg_g σ46 88 73 = 0 ∨ (sg_g σ46 88 73 = 0 ∧ fIv A D T B lev r σ46 ∧ sg_g σ46 88 62 ≤ 0), ?_, ?_, ?_⟩
  · rcases h41 with h | ⟨h1, h2, -⟩
    · exact ⟨0, Or.inl h⟩
    · exact ⟨_, Or.inr ⟨h1, h2, rfl⟩⟩
  · rintro n σ46 f46 hI
    refine ⟨fun c => ?_, fun c => ⟨fun c2 => Or.inl c2, fun c2 => ?_⟩⟩
    · rcases hI with h | ⟨h1, h2, -⟩
      · exact Or.inl h
      · exact Or.inr ⟨h1, h2, c⟩
    · rcases hI with h | ⟨h1, h2, h3⟩
      · exact absurd c2 h
      have F46 : sg_F [119, 120, 121, 126, 127, 128, 133, 134, 135, 139, 140, 141, 142, 143, 144, 145, 146, 147, 148, 149, 150, 1088, 47088, 50088, 63088, 71088, 74088, 82088, 83088, 85088, 86088, 87088, 88088, 92088, 94088, 100088, 103088, 104088] σ σ46 := sg_F_t (sg_F_m F37 rfl) (sg_F_t (sg_F_m f41 rfl) (sg_F_m f46 rfl))
      obtain ⟨hN, -⟩ := id h2
      obtain ⟨⟨i1, -⟩, -⟩ := hN
      refine m_go (pgX_F F46 rfl hX) hlv h2 c h1 (fun σ' hq _ => ?_)
      rcases hq with h | ⟨q1, q2, q3⟩
      · refine ⟨0, ?_, Or.inl h⟩
        rw [h3]
        unfold fM
        omega
      · refine ⟨_, ?_, Or.inr ⟨q1, q2, rfl⟩⟩
        obtain ⟨⟨⟨j1, -, -, j4, -⟩, -⟩, -⟩ := q2
        rw [h3]
        unfold fM at q3 ⊢
        omega
  · rintro σ46 f46 hX46 σ59 e59
    have F46 : sg_F [119, 120, 121, 126, 127, 128, 133, 134, 135, 139, 140, 141, 142, 143, 144, 145, 146, 147, 148, 149, 150, 1088, 47088, 50088, 63088, 71088, 74088, 82088, 83088, 85088, 86088, 87088, 88088, 92088, 94088, 100088, 103088, 104088] σ σ46 := sg_F_t (sg_F_m F37 rfl) (sg_F_t (sg_F_m f41 rfl) (sg_F_m f46 rfl))
    have f59 : sg_F [84088] σ46 σ59 := by rw [e59]; exact sg_F_w (sg_F_r _ _) rfl _
    have F59 : sg_F [119, 120, 121, 126, 127, 128, 133, 134, 135, 139, 140, 141, 142, 143, 144, 145, 146, 147, 148, 149, 150, 1088, 47088, 50088, 63088, 71088, 74088, 82088, 83088, 84088, 85088, 86088, 87088, 88088, 92088, 94088, 100088, 103088, 104088] σ σ59 := sg_F_t (sg_F_m F46 rfl) (sg_F_m f59 rfl)
    have c83 : sg_g σ59 88 83 = sg_g σ46 88 73 := by rw [e59, sg_gw_e _ _ _ _ (sg_Rg _ _ _)]
    have b82 : 0 ≤ sg_g σ59 88 82 ∧ sg_g σ59 88 82 ≤ 20 := by
      rw [sg_F_g f59 (by rfl), sg_F_g f46 (by rfl), sg_F_g f41 (by rfl)]
      omega
    have fin : ∀ σ63, (0 ≤ sg_g σ63 88 77 ∧ sg_g σ63 88 77 ≤ 80000) → sg_F [136, 137, 138, 151, 78088, 79088] σ59 σ63 → Q (sg_g σ46 88 73) σ63 := fun σ63 h f => k _ σ63 (sg_F_t (sg_F_m F59 rfl) (sg_F_m f rfl)) (by rw [sg_F_g f (by rfl)]; exact b82) h
    rcases hX46 with h | ⟨h1, h2, h3⟩
    · exact m_showE (by rw [c83]; exact h) (fun σ63 a b _ => fin σ63 a b)
    · obtain ⟨hN, hv⟩ := h2
      obtain ⟨⟨i1, i2, i3, i4, i5⟩, -, n1, -⟩ := hN
      rcases hv with ⟨-, hv⟩ | ⟨m, tys, ht⟩
      · have e27 : sg_g σ59 88 27 = r := by rw [sg_F_g F59 (by rfl)]; exact hr
        have g91 : sg_g σ59 88 91 = sg_g σ46 88 91 := sg_F_g f59 (by rfl)
        have g87 : sg_g σ59 88 87 = sg_g σ46 88 87 := sg_F_g f59 (by rfl)
        have w31 := w3.1
        have w32 := w3.2
        refine m_showF (K := (T r).toNat) (by rw [c83]; exact h1) (by rw [e27]; omega) ?_ (by omega) ⟨by omega, by omega⟩ ?_ (fun σ63 a b _ => fin σ63 a b)
        · rw [e27, sg_F_ga (a := 101) F59 rfl, eT]; omega
        · rw [sg_F_ga (a := 133) f59 rfl]
          exact fLx_up (fEx_F f59 rfl) (by omega) hv
      · have := ht.1
        omega
end GI
/-! LANES of the class: values as rows of lengths, laid out. -/
def su (g : Int → Int) (p : Int) : Nat → Int
  | 0 => 0
  | i + 1 => su g p i + g (p + i)
theorem su_sh {g g' : Int → Int} {p p' : Int} : ∀ {i : Nat}, (∀ j : Nat, j < i → g' (p' + j) = g (p + j)) → su g' p' i = su g p i
  | 0, _ => rfl
  | i + 1, h => by
    simp only [su]
    rw [su_sh (i := i) (fun j x => h j (by omega)), h i (by omega)]
theorem su_app (g : Int → Int) (p : Int) (i : Nat) : ∀ j : Nat, su g p (i + j) = su g p i + su g (p + i) j
  | 0 => by simp [su]
  | j + 1 => by
    rw [← Nat.add_assoc]
    simp only [su]
    rw [su_app g p i j, show p + ((i + j : Nat) : Int) = p + i + j by omega]
    omega
theorem su_b {g : Int → Int} {p : Int} : ∀ {i : Nat}, (∀ j : Nat, j < i → 0 ≤ g (p + j) ∧ g (p + j) ≤ 200) → 0 ≤ su g p i ∧ su g p i ≤ 200 * i
  | 0, _ => by simp [su]
  | i + 1, h => by
    have a := su_b (i := i) (fun j x => h j (by omega))
    have b := h i (by omega)
    simp only [su]
    omega
/-- value v has a row of n cells -/
def yRw (σ : sg_S) (v n : Int) : Prop := (0 ≤ v ∧ v < sg_g σ 77 10) ∧ sg_g σ 81 v = n ∧ 0 ≤ n ∧ 0 ≤ sg_g σ 80 v ∧ sg_g σ 80 v + n ≤ sg_g σ 77 16
def yLn (σ : sg_S) (v n : Int) : Prop := ∀ i : Nat, (i : Int) < n → 0 ≤ sg_g σ 78 (sg_g σ 80 v + i) ∧ sg_g σ 78 (sg_g σ 80 v + i) ≤ 200
def yLo (σ : sg_S) (v n : Int) : Prop := ∀ i : Nat, (i : Int) < n → sg_g σ 79 (sg_g σ 80 v + i) = su (sg_g σ 78) (sg_g σ 80 v) i
/-- value v has depth d and n lanes -/
def yV (σ : sg_S) : Nat → Int → Int → Prop
  | 0, v, n => yRw σ v n
  | d + 1, v, n => yRw σ v n ∧ yLn σ v n ∧ yLo σ v n ∧ yV σ d (sg_g σ 82 v) (su (sg_g σ 78) (sg_g σ 80 v) n.toNat)
theorem yV_r {σ : sg_S} : ∀ {d : Nat} {v n : Int}, yV σ d v n → yRw σ v n
  | 0, _, _, h => h
  | _ + 1, _, _, h => h.1
/-- values only grow -/
def yEx (σ σ' : sg_S) : Prop := (sg_g σ 77 10 ≤ sg_g σ' 77 10 ∧ sg_g σ 77 16 ≤ sg_g σ' 77 16) ∧ (∀ v, 0 ≤ v → v < sg_g σ 77 10 → sg_g σ' 80 v = sg_g σ 80 v ∧ sg_g σ' 81 v = sg_g σ 81 v ∧ sg_g σ' 82 v = sg_g σ 82 v) ∧ (∀ x, 0 ≤ x → x < sg_g σ 77 16 → sg_g σ' 78 x = sg_g σ 78 x) ∧ ∀ v n, yRw σ v n → yLo σ v n → yLo σ' v n
theorem yRw_up {σ σ' : sg_S} (h : yEx σ σ') {v n : Int} (a : yRw σ v n) : yRw σ' v n := by
  obtain ⟨⟨h1, h2⟩, h3, h4, h5⟩ := h
  obtain ⟨a1, a2, a3, a4, a5⟩ := a
  obtain ⟨b1, b2, b3⟩ := h3 v a1.1 a1.2
  exact ⟨⟨a1.1, by omega⟩, by rw [b2]; exact a2, a3, by rw [b1]; exact a4, by rw [b1]; omega⟩
theorem ysu_up {σ σ' : sg_S} (h : yEx σ σ') {v n : Int} (a : yRw σ v n) {i : Nat} (hi : (i : Int) ≤ n) : su (sg_g σ' 78) (sg_g σ' 80 v) i = su (sg_g σ 78) (sg_g σ 80 v) i := by
  obtain ⟨a1, a2, a3, a4, a5⟩ := a
  rw [(h.2.1 v a1.1 a1.2).1]
  exact su_sh (fun j hj => h.2.2.1 _ (by omega) (by omega))
theorem yLn_up {σ σ' : sg_S} (h : yEx σ σ') {v n : Int} (a : yRw σ v n) (b : yLn σ v n) : yLn σ' v n := by
  intro i hi
  obtain ⟨a1, a2, a3, a4, a5⟩ := a
  rw [(h.2.1 v a1.1 a1.2).1, h.2.2.1 _ (by omega) (by omega)]
  exact b i hi
theorem yV_up {σ σ' : sg_S} (h : yEx σ σ') : ∀ {d : Nat} {v n : Int}, yV σ d v n → yV σ' d v n
  | 0, v, n, a => yRw_up h a
  | d + 1, v, n, a => by
    obtain ⟨a1, a2, a3, a4⟩ := a
    refine ⟨yRw_up h a1, yLn_up h a1 a2, h.2.2.2 v n a1 a3, ?_⟩
    have n0 := a1.2.2.1
    rw [ysu_up h a1 (by omega), (h.2.1 v a1.1.1 a1.1.2).2.2]
    exact yV_up h a4
theorem yEx_r (σ : sg_S) : yEx σ σ := ⟨⟨Int.le_refl _, Int.le_refl _⟩, fun _ _ _ => ⟨rfl, rfl, rfl⟩, fun _ _ _ => rfl, fun _ _ _ h => h⟩
theorem yEx_t {σ σ1 σ2 : sg_S} (h : yEx σ σ1) (g : yEx σ1 σ2) : yEx σ σ2 := by
  refine ⟨⟨Int.le_trans h.1.1 g.1.1, Int.le_trans h.1.2 g.1.2⟩, fun v a b => ?_, fun x a b => ?_, fun v n a b => g.2.2.2 v n (yRw_up h a) (h.2.2.2 v n a b)⟩
  · obtain ⟨c1, c2, c3⟩ := h.2.1 v a b
    obtain ⟨d1, d2, d3⟩ := g.2.1 v a (by have := h.1.1; omega)
    exact ⟨d1.trans c1, d2.trans c2, d3.trans c3⟩
  · exact (g.2.2.1 x a (by have := h.1.2; omega)).trans (h.2.2.1 x a b)
theorem yEx_F {L : List Nat} {σ σ' : sg_S} (f : sg_F L σ σ') (hL : (!sg_cv L 77 10 && !sg_cv L 77 16 && sg_ca L 78 && sg_ca L 79 && sg_ca L 80 && sg_ca L 81 && sg_ca L 82) = true) : yEx σ σ' := by
  simp only [Bool.and_eq_true, Bool.not_eq_true'] at hL
  obtain ⟨⟨⟨⟨⟨⟨l1, l2⟩, l3⟩, l4⟩, l5⟩, l6⟩, l7⟩ := hL
  refine ⟨⟨by rw [sg_F_g f l1]; exact Int.le_refl _, by rw [sg_F_g f l2]; exact Int.le_refl _⟩, fun v _ _ => ⟨sg_F_ga f l5, sg_F_ga f l6, sg_F_ga f l7⟩, fun x _ _ => sg_F_ga f l3, fun v n a b i hi => ?_⟩
  rw [sg_F_ga f l5, sg_F_ga f l4, b i hi]
  exact (su_sh (fun j hj => sg_F_ga f l3)).symm
/-- all rows lie apart, or are the same -/
def yG (σ : sg_S) : Prop := (0 ≤ sg_g σ 77 10 ∧ sg_g σ 77 10 ≤ 8000) ∧ (0 ≤ sg_g σ 77 16 ∧ sg_g σ 77 16 ≤ 6000) ∧ (∀ v, 0 ≤ v → v < sg_g σ 77 10 → 0 ≤ sg_g σ 81 v ∧ 0 ≤ sg_g σ 80 v ∧ sg_g σ 80 v + sg_g σ 81 v ≤ sg_g σ 77 16) ∧ ∀ v v', 0 ≤ v → v < sg_g σ 77 10 → 0 ≤ v' → v' < sg_g σ 77 10 → (sg_g σ 80 v = sg_g σ 80 v' ∧ sg_g σ 81 v = sg_g σ 81 v') ∨ sg_g σ 80 v + sg_g σ 81 v ≤ sg_g σ 80 v' ∨ sg_g σ 80 v' + sg_g σ 81 v' ≤ sg_g σ 80 v
theorem yG_F {L : List Nat} {σ σ' : sg_S} (h : yG σ) (f : sg_F L σ σ') (hL : (!sg_cv L 77 10 && !sg_cv L 77 16 && sg_ca L 80 && sg_ca L 81) = true) : yG σ' := by
  simp only [Bool.and_eq_true, Bool.not_eq_true'] at hL
  obtain ⟨⟨⟨l1, l2⟩, l5⟩, l6⟩ := hL
  have e0 : ∀ v, sg_g σ' 80 v = sg_g σ 80 v := fun v => sg_F_ga f l5
  have e1 : ∀ v, sg_g σ' 81 v = sg_g σ 81 v := fun v => sg_F_ga f l6
  unfold yG
  simp only [e0, e1]
  rw [sg_F_g f l1, sg_F_g f l2]
  exact h
theorem y_cell {σ : sg_S} (g : yG σ) {v n l : Int} (h : yRw σ v n) (hl : 0 ≤ l ∧ l < n) : v_lCell σ v l = sg_g σ 78 (sg_g σ 80 v + l) ∧ p_lCell σ v l := by
  obtain ⟨⟨g1, g2⟩, ⟨g3, g4⟩, -⟩ := g
  obtain ⟨a1, a2, a3, a4, a5⟩ := h
  refine ⟨?_, ?_⟩
  · unfold v_lCell
    rw [if_neg (by omega), if_pos (by omega), if_neg (by omega), if_neg (by omega)]
  · unfold p_lCell
    refine ⟨fun _ => trivial, fun _ => ⟨fun _ => ⟨⟨by omega, by omega⟩, ⟨by omega, by omega⟩, fun _ => trivial, fun _ => ⟨fun _ => trivial, fun _ => ⟨⟨by omega, by omega⟩, trivial⟩⟩⟩, fun _ => trivial⟩⟩
theorem y_start {σ : sg_S} (g : yG σ) {v n l : Int} (h : yRw σ v n) (hl : 0 ≤ l ∧ l < n) : v_lStart σ v l = sg_g σ 79 (sg_g σ 80 v + l) ∧ p_lStart σ v l := by
  obtain ⟨⟨g1, g2⟩, ⟨g3, g4⟩, -⟩ := g
  obtain ⟨a1, a2, a3, a4, a5⟩ := h
  refine ⟨?_, ?_⟩
  · unfold v_lStart
    rw [if_neg (by omega), if_pos (by omega), if_neg (by omega), if_neg (by omega)]
  · unfold p_lStart
    refine ⟨fun _ => trivial, fun _ => ⟨fun _ => ⟨⟨by omega, by omega⟩, ⟨by omega, by omega⟩, fun _ => trivial, fun _ => ⟨fun _ => trivial, fun _ => ⟨⟨by omega, by omega⟩, trivial⟩⟩⟩, fun _ => trivial⟩⟩
theorem y_items {σ : sg_S} (g : yG σ) {v n : Int} (h : yRw σ v n) : v_lItems σ v = sg_g σ 82 v := by
  have g2 := g.1.2
  have a1 := h.1
  unfold v_lItems
  rw [if_neg (by omega), if_neg (by omega)]
theorem y_pitems (σ : sg_S) (v : Int) : p_lItems σ v := by
  unfold p_lItems
  exact ⟨fun _ => trivial, fun a => ⟨fun _ => trivial, fun b => ⟨⟨a, b⟩, trivial⟩⟩⟩
theorem y_cellN {σ : sg_S} {v l : Int} (h : v < 0) : v_lCell σ v l = 0 ∧ p_lCell σ v l ∧ v_lStart σ v l = 0 ∧ p_lStart σ v l ∧ v_lItems σ v = -1 := by
  refine ⟨?_, ⟨fun _ => trivial, fun a => by omega⟩, ?_, ⟨fun _ => trivial, fun a => by omega⟩, ?_⟩
  · unfold v_lCell; rw [if_pos h]
  · unfold v_lStart; rw [if_pos h]
  · unfold v_lItems; rw [if_pos h]
/-- what a lane of a sequence has -/
theorem y_lane {σ : sg_S} (g : yG σ) {d : Nat} {v n l : Int} (h : yV σ (d + 1) v n) (hl : 0 ≤ l ∧ l < n) : (0 ≤ v_lCell σ v l ∧ v_lCell σ v l ≤ 200) ∧ 0 ≤ v_lStart σ v l ∧ v_lStart σ v l = su (sg_g σ 78) (sg_g σ 80 v) l.toNat ∧ v_lEnd σ v l = su (sg_g σ 78) (sg_g σ 80 v) (l.toNat + 1) ∧ v_lEnd σ v l = v_lStart σ v l + v_lCell σ v l ∧ v_lEnd σ v l ≤ su (sg_g σ 78) (sg_g σ 80 v) n.toNat ∧ su (sg_g σ 78) (sg_g σ 80 v) n.toNat ≤ 6000 ∧ p_lCell σ v l ∧ p_lStart σ v l ∧ p_lEnd σ v l := by
  obtain ⟨a1, a2, a3, a4⟩ := h
  obtain ⟨c1, c2⟩ := y_cell g a1 hl
  obtain ⟨s1, s2⟩ := y_start g a1 hl
  have e : l = (l.toNat : Int) := by omega
  have q := a2 l.toNat (by omega)
  have o := a3 l.toNat (by omega)
  rw [← e] at q o
  have b1 := su_b (g := sg_g σ 78) (p := sg_g σ 80 v) (i := l.toNat) (fun j hj => a2 j (by omega))
  have hs : su (sg_g σ 78) (sg_g σ 80 v) (l.toNat + 1) = su (sg_g σ 78) (sg_g σ 80 v) l.toNat + sg_g σ 78 (sg_g σ 80 v + l) := by simp only [su]; rw [← e]
  have ap := su_app (sg_g σ 78) (sg_g σ 80 v) (l.toNat + 1) (n.toNat - (l.toNat + 1))
  rw [show l.toNat + 1 + (n.toNat - (l.toNat + 1)) = n.toNat by omega] at ap
  have b2 := su_b (g := sg_g σ 78) (p := sg_g σ 80 v + ((l.toNat + 1 : Nat) : Int)) (i := n.toNat - (l.toNat + 1)) (fun j hj => by
    have := a2 (l.toNat + 1 + j) (by omega)
    rw [show sg_g σ 80 v + ((l.toNat + 1 + j : Nat) : Int) = sg_g σ 80 v + ((l.toNat + 1 : Nat) : Int) + j by omega] at this
    exact this)
  have r4 := (yV_r a4).2.2
  have u6 := g.2.1.2
  have hend : v_lEnd σ v l = v_lStart σ v l + v_lCell σ v l := rfl
  refine ⟨by rw [c1]; exact q, by rw [s1, o]; exact b1.1, by rw [s1, o], by rw [hend, s1, c1, o, hs], hend, by rw [hend, s1, c1, o]; omega, by omega, c2, s2, s2, c2, ?_, trivial⟩
  show sg_R (v_lStart σ v l + v_lCell σ v l)
  rw [s1, c1, o]
  exact ⟨by omega, by omega⟩
/-! first, second, pick, miss: what is told of the next value. -/
/-- counters are small -/
def yC (σ : sg_S) (b : Int) : Prop := (0 ≤ sg_g σ 77 11 ∧ sg_g σ 77 11 ≤ b) ∧ (0 ≤ sg_g σ 77 12 ∧ sg_g σ 77 12 ≤ b) ∧ (0 ≤ sg_g σ 77 13 ∧ sg_g σ 77 13 ≤ b) ∧ (sg_g σ 77 15 = 0 ∨ sg_g σ 77 15 = 1)
/-- nothing is told -/
def y0 (σ : sg_S) : Prop := sg_g σ 77 11 = 0 ∧ sg_g σ 77 12 = 0 ∧ sg_g σ 77 13 = 0 ∧ sg_g σ 77 14 = 0 ∧ sg_g σ 77 15 = 0
theorem yC_0 {σ : sg_S} (h : y0 σ) : yC σ 0 := by
  obtain ⟨h1, h2, h3, h4, h5⟩ := h
  exact ⟨by omega, by omega, by omega, Or.inl h5⟩
theorem yC_m {σ : sg_S} {b b' : Int} (h : yC σ b) (hb : b ≤ b') : yC σ b' := by
  obtain ⟨h1, h2, h3, h4⟩ := h
  exact ⟨by omega, by omega, by omega, h4⟩
theorem yC_F {L : List Nat} {σ σ' : sg_S} {b : Int} (h : yC σ b) (f : sg_F L σ σ') (hL : (!sg_cv L 77 11 && !sg_cv L 77 12 && !sg_cv L 77 13 && !sg_cv L 77 15) = true) : yC σ' b := by
  simp only [Bool.and_eq_true, Bool.not_eq_true'] at hL
  obtain ⟨⟨⟨l1, l2⟩, l3⟩, l4⟩ := hL
  unfold yC
  rw [sg_F_g f l1, sg_F_g f l2, sg_F_g f l3, sg_F_g f l4]
  exact h
theorem y0_F {L : List Nat} {σ σ' : sg_S} (h : y0 σ) (f : sg_F L σ σ') (hL : (!sg_cv L 77 11 && !sg_cv L 77 12 && !sg_cv L 77 13 && !sg_cv L 77 14 && !sg_cv L 77 15) = true) : y0 σ' := by
  simp only [Bool.and_eq_true, Bool.not_eq_true'] at hL
  obtain ⟨⟨⟨⟨l1, l2⟩, l3⟩, l5⟩, l4⟩ := hL
  unfold y0
  rw [sg_F_g f l1, sg_F_g f l2, sg_F_g f l3, sg_F_g f l4, sg_F_g f l5]
  exact h
section TEL
variable {σ : sg_S} {b x : Int} {Q : sg_S → Prop}
theorem y_miss (k : ∀ σ', sg_F [15077] σ σ' → Q σ') : V_lMiss σ x Q := by
  unfold V_lMiss
  exact ⟨fun _ => k σ (sg_F_r _ _), fun _ σ2 e2 => k σ2 (by rw [e2]; exact sg_F_w (sg_F_r _ _) rfl _)⟩
theorem y_first (hc : yC σ b) (hb : b ≤ 1000000000) (hx : sg_R x) (k : ∀ σ', sg_F [83, 12077, 16077] σ σ' → yC σ' (b + 1) → (sg_g σ' 77 15 = 0 → sg_g σ 77 15 = 0 ∧ sg_g σ 77 11 < 6000 ∧ sg_g σ' 77 11 = sg_g σ 77 11 + 1 ∧ sg_g σ' 83 (sg_g σ 77 11) = x ∧ ∀ i, ¬ i = sg_g σ 77 11 → sg_g σ' 83 i = sg_g σ 83 i) → Q σ') : V_lFirst σ x Q := by
  obtain ⟨c1, c2, c3, c4⟩ := hc
  unfold V_lFirst
  refine ⟨⟨fun _ => trivial, fun _ => ⟨fun _ => trivial, fun _ => trivial⟩⟩, fun v3 e3 r3 σ6 e6 σ9 e9 => ⟨⟨by omega, by omega⟩, fun σ13 e13 => ?_⟩⟩
  have f9 : sg_F [83, 12077, 16077] σ σ9 := by rw [e9, e6]; exact xF_p (sg_F_w (sg_F_r _ _) rfl _) rfl _ _ _
  have f13 : sg_F [83, 12077, 16077] σ σ13 := by rw [e13]; exact sg_F_w f9 rfl _
  have g11 : sg_g σ13 77 11 = sg_g σ 77 11 + 1 := by rw [e13, sg_gw_e _ _ _ _ ⟨by omega, by omega⟩]
  have g15 : sg_g σ13 77 15 = v3 := by
    rw [e13, sg_gw_k _ _ _ _ _ _ (by decide), e9]
    unfold sx_put
    split
    · rw [sg_gw_c _ _ _ _ _ _ (by decide), e6, sg_gw_e _ _ _ _ r3]
    · rw [e6, sg_gw_e _ _ _ _ r3]
  refine k σ13 f13 ⟨by omega, by rw [sg_F_g f13 (by rfl)]; omega, by rw [sg_F_g f13 (by rfl)]; omega, ?_⟩ (fun z => ?_)
  · rw [g15, e3]
    split
    · exact Or.inr rfl
    · split
      · exact Or.inl rfl
      · exact Or.inr rfl
  · rw [g15, e3] at z
    by_cases q : ¬ sg_g σ 77 15 = 0
    · rw [if_pos q] at z; omega
    · rw [if_neg q] at z
      by_cases q2 : sg_g σ 77 11 < 6000
      · refine ⟨by omega, q2, g11, ?_, fun i hi => ?_⟩
        · rw [e13, sg_gw_c _ _ _ _ _ _ (by decide), e9, xp_in ⟨by omega, q2⟩, sg_gw_e _ _ _ _ hx]
        · rw [e13, sg_gw_c _ _ _ _ _ _ (by decide), e9, xp_in ⟨by omega, q2⟩, sg_gw_k _ _ _ _ _ _ hi, e6, sg_gw_c _ _ _ _ _ _ (by decide)]
      · rw [if_neg q2] at z; omega
theorem y_second (hc : yC σ b) (hb : b ≤ 1000000000) (hx : sg_R x) (k : ∀ σ', sg_F [84, 13077, 16077] σ σ' → yC σ' (b + 1) → (sg_g σ' 77 15 = 0 → sg_g σ 77 15 = 0 ∧ sg_g σ 77 12 < 6000 ∧ sg_g σ' 77 12 = sg_g σ 77 12 + 1 ∧ sg_g σ' 84 (sg_g σ 77 12) = x ∧ ∀ i, ¬ i = sg_g σ 77 12 → sg_g σ' 84 i = sg_g σ 84 i) → Q σ') : V_lSecond σ x Q := by
  obtain ⟨c1, c2, c3, c4⟩ := hc
  unfold V_lSecond
  refine ⟨⟨fun _ => trivial, fun _ => ⟨fun _ => trivial, fun _ => trivial⟩⟩, fun v3 e3 r3 σ6 e6 σ9 e9 => ⟨⟨by omega, by omega⟩, fun σ13 e13 => ?_⟩⟩
  have f9 : sg_F [84, 13077, 16077] σ σ9 := by rw [e9, e6]; exact xF_p (sg_F_w (sg_F_r _ _) rfl _) rfl _ _ _
  have f13 : sg_F [84, 13077, 16077] σ σ13 := by rw [e13]; exact sg_F_w f9 rfl _
  have g11 : sg_g σ13 77 12 = sg_g σ 77 12 + 1 := by rw [e13, sg_gw_e _ _ _ _ ⟨by omega, by omega⟩]
  have g15 : sg_g σ13 77 15 = v3 := by
    rw [e13, sg_gw_k _ _ _ _ _ _ (by decide), e9]
    unfold sx_put
    split
    · rw [sg_gw_c _ _ _ _ _ _ (by decide), e6, sg_gw_e _ _ _ _ r3]
    · rw [e6, sg_gw_e _ _ _ _ r3]
  refine k σ13 f13 ⟨by rw [sg_F_g f13 (by rfl)]; omega, by omega, by rw [sg_F_g f13 (by rfl)]; omega, ?_⟩ (fun z => ?_)
  · rw [g15, e3]
    split
    · exact Or.inr rfl
    · split
      · exact Or.inl rfl
      · exact Or.inr rfl
  · rw [g15, e3] at z
    by_cases q : ¬ sg_g σ 77 15 = 0
    · rw [if_pos q] at z; omega
    · rw [if_neg q] at z
      by_cases q2 : sg_g σ 77 12 < 6000
      · refine ⟨by omega, q2, g11, ?_, fun i hi => ?_⟩
        · rw [e13, sg_gw_c _ _ _ _ _ _ (by decide), e9, xp_in ⟨by omega, q2⟩, sg_gw_e _ _ _ _ hx]
        · rw [e13, sg_gw_c _ _ _ _ _ _ (by decide), e9, xp_in ⟨by omega, q2⟩, sg_gw_k _ _ _ _ _ _ hi, e6, sg_gw_c _ _ _ _ _ _ (by decide)]
      · rw [if_neg q2] at z; omega
theorem y_pick {lo hi : Int} (hc : yC σ b) (hb : b ≤ 1000000000) (hx : sg_R x) (hl : sg_R lo) (hh : sg_R hi) (k : ∀ σ', sg_F [85, 86, 87, 14077, 16077] σ σ' → yC σ' (b + 1) → (hi ≤ lo → σ' = σ) → (lo < hi → sg_g σ' 77 15 = 0 → sg_g σ 77 15 = 0 ∧ sg_g σ 77 13 < 6000 ∧ sg_g σ' 77 13 = sg_g σ 77 13 + 1 ∧ (sg_g σ' 85 (sg_g σ 77 13) = x ∧ sg_g σ' 86 (sg_g σ 77 13) = lo ∧ sg_g σ' 87 (sg_g σ 77 13) = hi) ∧ ∀ i, ¬ i = sg_g σ 77 13 → sg_g σ' 85 i = sg_g σ 85 i ∧ sg_g σ' 86 i = sg_g σ 86 i ∧ sg_g σ' 87 i = sg_g σ 87 i) → Q σ') : V_lPick σ x lo hi Q := by
  have hc0 := hc
  obtain ⟨c1, c2, c3, c4⟩ := hc
  unfold V_lPick
  refine ⟨fun hlt => ⟨⟨fun _ => trivial, fun _ => ⟨fun _ => trivial, fun _ => trivial⟩⟩, fun v4 e4 r4 σ7 e7 σ10 e10 σ13 e13 σ16 e16 => ⟨⟨by omega, by omega⟩, fun σ20 e20 => ?_⟩⟩, fun hle => k σ (sg_F_r _ _) (yC_m hc0 (by omega)) (fun _ => rfl) (fun z => by omega)⟩
  have f16 : sg_F [85, 86, 87, 14077, 16077] σ σ16 := by rw [e16, e13, e10, e7]; exact xF_p (xF_p (xF_p (sg_F_w (sg_F_r _ _) rfl _) rfl _ _ _) rfl _ _ _) rfl _ _ _
  have f20 : sg_F [85, 86, 87, 14077, 16077] σ σ20 := by rw [e20]; exact sg_F_w f16 rfl _
  have g11 : sg_g σ20 77 13 = sg_g σ 77 13 + 1 := by rw [e20, sg_gw_e _ _ _ _ ⟨by omega, by omega⟩]
  have f7 : sg_F [85, 86, 87] σ7 σ16 := by rw [e16, e13, e10]; exact xF_p (xF_p (xF_p (sg_F_r _ _) rfl _ _ _) rfl _ _ _) rfl _ _ _
  have g15 : sg_g σ20 77 15 = v4 := by
    rw [e20, sg_gw_k _ _ _ _ _ _ (by decide), sg_F_g f7 (by rfl), e7, sg_gw_e _ _ _ _ r4]
  refine k σ20 f20 ⟨by rw [sg_F_g f20 (by rfl)]; omega, by rw [sg_F_g f20 (by rfl)]; omega, by omega, ?_⟩ (fun z => by omega) (fun _ z => ?_)
  · rw [g15, e4]
    split
    · exact Or.inr rfl
    · split
      · exact Or.inl rfl
      · exact Or.inr rfl
  · rw [g15, e4] at z
    by_cases q : ¬ sg_g σ 77 15 = 0
    · rw [if_pos q] at z; omega
    · rw [if_neg q] at z
      by_cases q2 : sg_g σ 77 13 < 6000
      · have i6 : 0 ≤ sg_g σ 77 13 ∧ sg_g σ 77 13 < 6000 := ⟨by omega, q2⟩
        rw [xp_in i6] at e10 e13 e16
        refine ⟨by omega, q2, g11, ⟨?_, ?_, ?_⟩, fun i hi => ⟨?_, ?_, ?_⟩⟩
        · rw [e20, sg_gw_c _ _ _ _ _ _ (by decide), e16, sg_gw_c _ _ _ _ _ _ (by decide), e13, sg_gw_c _ _ _ _ _ _ (by decide), e10, sg_gw_e _ _ _ _ hx]
        · rw [e20, sg_gw_c _ _ _ _ _ _ (by decide), e16, sg_gw_c _ _ _ _ _ _ (by decide), e13, sg_gw_e _ _ _ _ hl]
        · rw [e20, sg_gw_c _ _ _ _ _ _ (by decide), e16, sg_gw_e _ _ _ _ hh]
        · rw [e20, sg_gw_c _ _ _ _ _ _ (by decide), e16, sg_gw_c _ _ _ _ _ _ (by decide), e13, sg_gw_c _ _ _ _ _ _ (by decide), e10, sg_gw_k _ _ _ _ _ _ hi, e7, sg_gw_c _ _ _ _ _ _ (by decide)]
        · rw [e20, sg_gw_c _ _ _ _ _ _ (by decide), e16, sg_gw_c _ _ _ _ _ _ (by decide), e13, sg_gw_k _ _ _ _ _ _ hi, e10, sg_gw_c _ _ _ _ _ _ (by decide), e7, sg_gw_c _ _ _ _ _ _ (by decide)]
        · rw [e20, sg_gw_c _ _ _ _ _ _ (by decide), e16, sg_gw_k _ _ _ _ _ _ hi, e13, sg_gw_c _ _ _ _ _ _ (by decide), e10, sg_gw_c _ _ _ _ _ _ (by decide), e7, sg_gw_c _ _ _ _ _ _ (by decide)]
      · rw [if_neg q2] at z; omega
end TEL
/-- what is picked: of depth d -/
def pkg (σ : sg_S) (d : Nat) (v lo hi : Int) : Prop := (0 ≤ lo ∧ lo ≤ hi) ∧ ((v = -1 ∧ hi ≤ 1) ∨ ∃ n, yV σ d v n ∧ hi ≤ n)
def pks (σ : sg_S) (k : Nat) : Int := su (fun i => sg_g σ 87 i - sg_g σ 86 i) 0 k
def pkT (σ : sg_S) (d : Nat) (m : Int) : Prop := ∃ k : Nat, sg_g σ 77 13 = k ∧ k ≤ 6000 ∧ (∀ i : Nat, i < k → pkg σ d (sg_g σ 85 i) (sg_g σ 86 i) (sg_g σ 87 i)) ∧ pks σ k = m
theorem pkg_up {σ σ' : sg_S} (h : yEx σ σ') {d : Nat} {v lo hi : Int} (a : pkg σ d v lo hi) : pkg σ' d v lo hi := by
  refine ⟨a.1, ?_⟩
  rcases a.2 with b | ⟨n, b, c⟩
  · exact Or.inl b
  · exact Or.inr ⟨n, yV_up h b, c⟩
theorem pkT_F {L : List Nat} {σ σ' : sg_S} {d : Nat} {m : Int} (h : pkT σ d m) (f : sg_F L σ σ') (ex : yEx σ σ') (hL : (!sg_cv L 77 13 && sg_ca L 85 && sg_ca L 86 && sg_ca L 87) = true) : pkT σ' d m := by
  simp only [Bool.and_eq_true, Bool.not_eq_true'] at hL
  obtain ⟨⟨⟨l1, l2⟩, l3⟩, l4⟩ := hL
  obtain ⟨k, k1, k2, k3, k4⟩ := h
  refine ⟨k, by rw [sg_F_g f l1]; exact k1, k2, fun i hi => ?_, ?_⟩
  · rw [sg_F_ga f l2, sg_F_ga f l3, sg_F_ga f l4]; exact pkg_up ex (k3 i hi)
  · rw [← k4]
    exact su_sh (fun j hj => by rw [sg_F_ga f l3, sg_F_ga f l4])
/-- first: j lengths; picks of depth d; r items are still to be picked -/
def aC (σ : sg_S) (d j : Nat) (r : Int) : Prop := sg_g σ 77 15 = 0 → sg_g σ 77 11 = j ∧ (∀ i : Nat, i < j → 0 ≤ sg_g σ 83 i ∧ sg_g σ 83 i ≤ 200) ∧ ∃ m, pkT σ d m ∧ su (sg_g σ 83) 0 j = m + r
theorem pkT_0 {σ : sg_S} (h : y0 σ) (d : Nat) : pkT σ d 0 := ⟨0, h.2.2.1, Nat.zero_le _, fun i hi => by omega, rfl⟩
theorem aC_0 {σ : sg_S} (h : y0 σ) (d : Nat) : aC σ d 0 0 := fun _ => ⟨h.1, fun i hi => by omega, 0, pkT_0 h d, rfl⟩
theorem aC_F {L : List Nat} {σ σ' : sg_S} {d j : Nat} {r : Int} (h : aC σ d j r) (f : sg_F L σ σ') (ex : yEx σ σ') (hL : (!sg_cv L 77 11 && !sg_cv L 77 13 && !sg_cv L 77 15 && sg_ca L 83 && sg_ca L 85 && sg_ca L 86 && sg_ca L 87) = true) : aC σ' d j r := by
  simp only [Bool.and_eq_true, Bool.not_eq_true'] at hL
  obtain ⟨⟨⟨⟨⟨⟨l1, l2⟩, l3⟩, l4⟩, l5⟩, l6⟩, l7⟩ := hL
  intro z
  rw [sg_F_g f l3] at z
  obtain ⟨h1, h2, m, h3, h4⟩ := h z
  refine ⟨by rw [sg_F_g f l1]; exact h1, fun i hi => by rw [sg_F_ga f l4]; exact h2 i hi, m, pkT_F h3 f ex (by simp [l2, l5, l6, l7]), ?_⟩
  rw [← h4]
  exact su_sh (fun i hi => sg_F_ga f l4)
section ACC
variable {σ : sg_S} {b x : Int} {d j : Nat} {r : Int} {Q : sg_S → Prop}
theorem aC_first (ha : aC σ d j r) (hc : yC σ b) (hb : b ≤ 1000000000) (hx : 0 ≤ x ∧ x ≤ 200) (k : ∀ σ', sg_F [83, 12077, 16077] σ σ' → yC σ' (b + 1) → aC σ' d (j + 1) (r + x) → Q σ') : V_lFirst σ x Q := by
  refine y_first hc hb ⟨by omega, by omega⟩ (fun σ' f c h => k σ' f c (fun z => ?_))
  obtain ⟨h1, h2, h3, h4, h5⟩ := h z
  obtain ⟨a1, a2, m, a3, a4⟩ := ha h1
  rw [a1] at h3 h4 h5
  refine ⟨by rw [h3]; omega, fun i hi => ?_, m, pkT_F a3 f (yEx_F f rfl) rfl, ?_⟩
  · by_cases e : i = j
    · subst e; rw [h4]; exact hx
    · rw [h5 i (by omega)]; exact a2 i (by omega)
  · simp only [su]
    rw [show (0 : Int) + j = j by omega, h4, su_sh (g := sg_g σ 83) (p := 0) (fun i hi => h5 _ (by omega)), a4]
    omega
theorem aC_pick {lo hi : Int} (ha : aC σ d j r) (hc : yC σ b) (hb : b ≤ 1000000000) (hx : sg_R x) (hp : pkg σ d x lo hi) (hh : sg_R hi) (k : ∀ σ', sg_F [85, 86, 87, 14077, 16077] σ σ' → yC σ' (b + 1) → aC σ' d j (r - (hi - lo)) → Q σ') : V_lPick σ x lo hi Q := by
  have p1 := hp.1
  refine y_pick hc hb hx ⟨by omega, by have := hh.2; omega⟩ hh (fun σ' f c h1 h2 => k σ' f c ?_)
  by_cases e : lo < hi
  · intro z
    obtain ⟨g1, g2, g3, ⟨g4, g5, g6⟩, g7⟩ := h2 e z
    obtain ⟨a1, a2, m, ⟨q, q1, q2, q3, q4⟩, a4⟩ := ha g1
    have ex : yEx σ σ' := yEx_F f rfl
    rw [q1] at g2 g3 g4 g5 g6 g7
    refine ⟨by rw [sg_F_g f (by rfl)]; exact a1, fun i hi => by rw [sg_F_ga f rfl]; exact a2 i hi, m + (hi - lo), ⟨q + 1, by rw [g3]; omega, by omega, fun i hi2 => ?_, ?_⟩, ?_⟩
    · by_cases e2 : i = q
      · subst e2; rw [g4, g5, g6]; exact pkg_up ex hp
      · obtain ⟨t1, t2, t3⟩ := g7 i (by omega)
        rw [t1, t2, t3]; exact pkg_up ex (q3 i (by omega))
    · unfold pks at q4 ⊢
      simp only [su]
      rw [show (0 : Int) + q = q by omega, g5, g6, su_sh (g := fun i => sg_g σ 87 i - sg_g σ 86 i) (p := 0) (fun i hi => by
        obtain ⟨t1, t2, t3⟩ := g7 (0 + (i : Int)) (by omega)
        rw [t2, t3]), q4]
    · rw [su_sh (g := sg_g σ 83) (p := 0) (fun i hi => sg_F_ga f rfl), a4]; omega
  · have e2 : σ' = σ := h1 (by omega)
    subst e2
    rw [show r - (hi - lo) = r by omega]; exact ha
end ACC
