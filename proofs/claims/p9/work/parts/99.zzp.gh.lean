/-! The value of a flat run is shown. -/
/-- how far row t is read -/
def shP (σ : sg_S) (t : Nat) : Int := if t = 0 then 1 else sg_g σ 151 t
/-- rows 1 to n: cells not yet read -/
def rSh (σ : sg_S) (R : List (Int × Int)) : Nat → Int
  | 0 => 0
  | n + 1 => rSh σ R n + ((R.getD (n + 1) (0, 0)).2 - sg_g σ 151 (n + 1 : Nat))
/-- d levels are open -/
def shJ (σ σ' : sg_S) (R : List (Int × Int)) (K d : Nat) : Prop := (∀ t, t ≤ K → 0 ≤ shP σ' t ∧ shP σ' t ≤ (R.getD t (0, 0)).2) ∧ ∀ i, i < K → (i < d → 1 ≤ shP σ' i ∧ sg_g σ' 137 i = sg_g σ 142 ((R.getD i (0, 0)).1 + (shP σ' i - 1)) ∧ (0 ≤ sg_g σ' 138 i ∧ sg_g σ' 138 i ≤ sg_g σ' 137 i) ∧ shP σ' (i + 1) = cs σ (R.getD i (0, 0)).1 (shP σ' i - 1).toNat + sg_g σ' 138 i) ∧ (d ≤ i → shP σ' (i + 1) = cs σ (R.getD i (0, 0)).1 (shP σ' i).toNat)
theorem rSh_e {σ1 σ2 : sg_S} {R : List (Int × Int)} : ∀ {n : Nat}, (∀ t : Nat, 1 ≤ t → t ≤ n → sg_g σ2 151 t = sg_g σ1 151 t) → rSh σ2 R n = rSh σ1 R n
  | 0, _ => rfl
  | n + 1, h => by
    simp only [rSh]
    rw [rSh_e (n := n) (fun t a b => h t a (by omega)), h (n + 1) (by omega) (Nat.le_refl _)]
theorem rSh_w {σ1 σ2 : sg_S} {R : List (Int × Int)} {d : Nat} (h1 : 1 ≤ d) (he : sg_g σ2 151 d = sg_g σ1 151 d + 1) (ho : ∀ t : Nat, ¬ t = d → sg_g σ2 151 t = sg_g σ1 151 t) : ∀ {n : Nat}, d ≤ n → rSh σ2 R n = rSh σ1 R n - 1
  | 0, h => by omega
  | n + 1, h => by
    simp only [rSh]
    by_cases c : d = n + 1
    · subst c
      rw [rSh_e (n := n) (fun t a b => ho t (by omega)), he]
      omega
    · rw [rSh_w h1 he ho (n := n) (by omega), ho (n + 1) (by omega)]
      omega
theorem rSh_0 {σ : sg_S} {R : List (Int × Int)} : ∀ {n : Nat}, (∀ t : Nat, 1 ≤ t → t ≤ n → sg_g σ 151 t ≤ (R.getD t (0, 0)).2) → 0 ≤ rSh σ R n
  | 0, _ => Int.le_refl _
  | n + 1, h => by
    have a := rSh_0 (n := n) (fun t x y => h t x (by omega))
    have b := h (n + 1) (by omega) (Nat.le_refl _)
    simp only [rSh]
    omega
theorem rSh_z {σ : sg_S} {R : List (Int × Int)} : ∀ {n : Nat}, (∀ t : Nat, 1 ≤ t → t ≤ n → sg_g σ 151 t = 0) → rSh σ R n + (R.getD 0 (0, 0)).2 = eD R (n + 1)
  | 0, _ => by simp only [rSh, eD]
  | n + 1, h => by
    have a := rSh_z (R := R) (n := n) (fun t x y => h t x (by omega))
    have b := h (n + 1) (by omega) (Nat.le_refl _)
    have e : eD R (n + 1 + 1) = eD R (n + 1) + (R.getD (n + 1) (0, 0)).2 := rfl
    simp only [rSh]
    omega
section GH
variable {σ : sg_S} {Q : sg_S → Prop}
theorem m_showE (he : ¬ sg_g σ 88 83 = 0) (k : ∀ σ', (0 ≤ sg_g σ' 88 77 ∧ sg_g σ' 88 77 ≤ 80000) → sg_F [136, 137, 138, 151, 78088, 79088] σ σ' → Q σ') : V_showFlat σ Q := by
  unfold V_showFlat
  intro σ1 e1
  refine ⟨fun _ => ⟨fun _ σ6 e6 => k σ6 ?_ ?_, fun z => absurd z he⟩, fun z => absurd z he⟩
  · rw [e6, sg_gw_e _ _ _ _ ⟨by decide, by decide⟩]; decide
  · rw [e6, e1]; exact sg_F_w (sg_F_w (sg_F_r _ _) rfl _) rfl _
theorem m_showF {K : Nat} (he : sg_g σ 88 83 = 0) (hr : 0 ≤ sg_g σ 88 27 ∧ sg_g σ 88 27 < 210) (hT : sg_g σ 101 (sg_g σ 88 27) = K) (hK : K ≤ 3) (hq : sg_g σ 88 91 ≤ 60000 ∧ sg_g σ 88 87 ≤ 30000) (hv : fLx σ K 1 6000 (sg_g σ 133 0)) (k : ∀ σ', (0 ≤ sg_g σ' 88 77 ∧ sg_g σ' 88 77 ≤ 80000) → sg_F [136, 137, 138, 151, 78088, 79088] σ σ' → Q σ') : V_showFlat σ Q := by
  obtain ⟨R, hv1, hv2, hv3, hv4⟩ := hv
  have vb := hv1.1
  have ch := hv1.2.2.2.2
  obtain ⟨r0, R', eR⟩ : ∃ r0 R', R = r0 :: R' := by
    cases R with
    | nil => simp at hv2
    | cons x y => exact ⟨x, y, rfl⟩
  have hv1' := hv1
  rw [eR] at hv1'
  have r01 : r0.2 = 1 := by rw [eR] at hv3; exact hv3
  obtain ⟨p0, v0⟩ := pR hv1' hq (i := 0) ⟨by omega, by omega⟩
  have row : ∀ t, t ≤ K → ∃ q, R[t]? = some q ∧ R.getD t (0, 0) = q ∧ fRw σ 6000 q ∧ sg_g σ 140 (4 * sg_g σ 133 0 + t) = q.1 ∧ (t < K → fLn σ q ∧ (R.getD (t + 1) (0, 0)).2 = cs σ q.1 q.2.toNat) := fun t ht => by
    obtain ⟨q, hq'⟩ : ∃ q, R[t]? = some q := ⟨_, List.getElem?_eq_getElem (by omega)⟩
    obtain ⟨a1, a2⟩ := fCh_at ch hq'
    refine ⟨q, hq', by rw [List.getD_eq_getElem?_getD, hq']; rfl, a1, (hv1.2.2.2.1 t q hq').1, fun h => ?_⟩
    obtain ⟨q', hq2⟩ : ∃ q, R[t + 1]? = some q := ⟨_, List.getElem?_eq_getElem (by omega)⟩
    rw [List.getD_eq_getElem?_getD, hq2]
    exact a2 q' hq2
  unfold V_showFlat
  intro σ1 e1
  have F1 : sg_F [136, 137, 138, 151, 78088, 79088] σ σ1 := by rw [e1]; exact sg_F_w (sg_F_r _ _) rfl _
  have a1 : sg_g σ1 88 78 = 80000 := by rw [e1, sg_gw_e _ _ _ _ ⟨by decide, by decide⟩]
  refine ⟨fun z => absurd he z, fun _ => ⟨hr, fun t0 => ⟨fun z => absurd he z, fun _ => ?_⟩, fun t0 => ?_⟩⟩
  rotate_left
  · refine ⟨p0, m_showN (by omega) (by rw [v0]; exact sg_Rg _ _ _) (fun σ2 x1 x2 x3 _ => ⟨⟨by omega, by omega⟩, fun σ3 e3 => k σ3 ?_ ?_⟩)⟩
    · rw [e3, sg_gw_e _ _ _ _ ⟨by omega, by omega⟩]; omega
    · rw [e3]; exact sg_F_w (sg_F_t F1 (sg_F_m x3 rfl)) rfl _
  rw [hT] at t0
  rw [hT]
  refine ⟨fun n x σ2 => n = (5 - x).toNat ∧ (0 ≤ x ∧ x ≤ 5) ∧ ∀ j, 0 ≤ j → j < x → sg_g σ2 151 j = 0, fun σ2 => ∀ j, 0 ≤ j → j < 5 → sg_g σ2 151 j = 0, ⟨_, rfl, ⟨by omega, by omega⟩, fun j a b => by omega⟩, ?_, ?_⟩
  · rintro n x σ2 rx f2 ⟨en, hx, h2⟩
    refine ⟨fun z j a b => h2 j a (by omega), fun z => ⟨⟨by omega, by omega⟩, fun σ3 e3 => ⟨⟨by omega, by omega⟩, _, by omega, rfl, ⟨by omega, by omega⟩, fun j a b => ?_⟩⟩⟩
    by_cases c : j = x
    · rw [c, e3, sg_gw_e _ _ _ _ ⟨by decide, by decide⟩]
    · rw [e3, sg_gw_k _ _ _ _ _ _ c]; exact h2 j a (by omega)
  intro σ2 f2 h2
  have F2 : sg_F [136, 137, 138, 151, 78088, 79088] σ σ2 := sg_F_t F1 (sg_F_m f2 rfl)
  refine ⟨p0, fun σ3 e3 σ4 e4 => ?_⟩
  have F4 : sg_F [136, 137, 138, 151, 78088, 79088] σ σ4 := by rw [e4, e3]; exact sg_F_w (sg_F_w F2 rfl _) rfl _
  have a4 : sg_g σ4 88 78 = 80000 := by rw [e4, sg_gw_c _ _ _ _ _ _ (by decide), e3, sg_gw_c _ _ _ _ _ _ (by decide), sg_F_g f2 (by rfl)]; exact a1
  refine m_show (by omega) (fun σ5 x1 x2 _ => ?_)
  have F5 : sg_F [136, 137, 138, 151, 78088, 79088] σ σ5 := sg_F_t F4 (sg_F_m x2 rfl)
  have z5 : ∀ j : Nat, j < 5 → sg_g σ5 151 j = 0 := fun j hj => by
    rw [sg_F_ga x2 rfl, e4, sg_gw_c _ _ _ _ _ _ (by decide), e3, sg_gw_c _ _ _ _ _ _ (by decide)]
    exact h2 j (by omega) (by omega)
  have s5 : sg_g σ5 137 ((0 : Nat) : Int) = sg_g σ 142 r0.1 := by
    rw [sg_F_ga x2 rfl, e4, sg_gw_c _ _ _ _ _ _ (by decide), e3]
    rw [show ((0 : Nat) : Int) = 0 by rfl, sg_gw_e _ _ _ _ (by rw [v0]; exact sg_Rg _ _ _), v0, Int.add_zero]
  have i5 : sg_g σ5 138 ((0 : Nat) : Int) = 0 := by
    rw [sg_F_ga x2 rfl, e4, show ((0 : Nat) : Int) = 0 by rfl, sg_gw_e _ _ _ _ ⟨by decide, by decide⟩]
  have l5 : ∀ q, 0 < K → R[0]? = some q → 0 ≤ sg_g σ 142 r0.1 := fun q hk hq' => by
    obtain ⟨q0, y1, y2, y3, y4, y5⟩ := row 0 (by omega)
    have := (y5 hk).1 0 (by omega)
    rw [eR] at y1
    cases y1
    have := this (by omega)
    rw [Int.add_zero] at this
    exact this.1
  have J5 : shJ σ σ5 R K 1 := by
    refine ⟨fun t ht => ?_, fun i hi => ⟨fun c => ?_, fun c => ?_⟩⟩
    · unfold shP
      obtain ⟨q, y1, y2, y3, -⟩ := row t ht
      by_cases c : t = 0
      · rw [if_pos c, c, eR]
        simp only [List.getD_cons_zero]
        omega
      · rw [if_neg c, z5 t (by omega), y2]
        exact ⟨Int.le_refl _, y3.2.1⟩
    · have : i = 0 := by omega
      subst this
      have e0 : shP σ5 0 = 1 := rfl
      have e1' : shP σ5 (0 + 1) = 0 := by unfold shP; rw [if_neg (by decide)]; exact z5 1 (by decide)
      rw [e0, e1', s5, i5, eR]
      simp only [List.getD_cons_zero]
      refine ⟨by decide, by rw [show (1 : Int) - 1 = 0 by decide, Int.add_zero], ⟨by decide, l5 r0 hi (by rw [eR]; rfl)⟩, rfl⟩
    · have e1' : shP σ5 (i + 1) = 0 := by unfold shP; rw [if_neg (by omega)]; exact z5 (i + 1) (by omega)
      have e2' : shP σ5 i = 0 := by unfold shP; rw [if_neg (by omega)]; exact z5 i (by omega)
      rw [e1', e2']
      rfl
  have rz := rSh_z (σ := σ5) (R := R) (n := K) (fun t a b => z5 t (by omega))
  have eXR := eX_D R
  rw [hv2] at eXR
  have R5 : rSh σ5 R K ≤ 6000 := by
    rw [eR] at rz
    simp only [List.getD_cons_zero] at rz
    rw [eR] at eXR hv4 ⊢
    omega
  have Rn : ∀ σ' : sg_S, ∀ d : Nat, shJ σ σ' R K d → 0 ≤ rSh σ' R K := fun σ' d hJ => rSh_0 (fun t a b => by
    have := (hJ.1 t b).2
    unfold shP at this
    rwa [if_neg (by omega)] at this)
  refine ⟨fun n v σ6 => ∃ d : Nat, v = d ∧ d ≤ K ∧ shJ σ σ6 R K d ∧ 80000 ≤ sg_g σ6 88 78 ∧ sg_g σ6 88 78 + (12 * rSh σ6 R K + d) ≤ 152002 ∧ n = (12 * rSh σ6 R K + d).toNat, fun σ6 => 80000 ≤ sg_g σ6 88 78 ∧ sg_g σ6 88 78 ≤ 152002, ⟨_, 1, rfl, by omega, J5, by omega, by omega, rfl⟩, ?_, ?_⟩
  rotate_left
  · rintro σ6 f6 ⟨b1, b2⟩
    refine ⟨⟨by omega, by omega⟩, fun σ7 e7 => k σ7 ?_ ?_⟩
    · rw [e7, sg_gw_e _ _ _ _ ⟨by omega, by omega⟩]; omega
    · rw [e7]; exact sg_F_w (sg_F_t F5 (sg_F_m f6 rfl)) rfl _
  rintro n v σ6 rv f6 ⟨d, rfl, hd, hJ, b1, b2, en⟩
  have rn := Rn σ6 d hJ
  refine ⟨fun _ => ⟨b1, by omega⟩, fun d0 => ?_⟩
  obtain ⟨e, rfl⟩ : ∃ e, d = e + 1 := ⟨d - 1, by omega⟩
  have ee : ((e + 1 : Nat) : Int) - 1 = (e : Int) := by omega
  rw [ee]
  obtain ⟨q1, q2, q3, q4⟩ := (hJ.2 e (by omega)).1 (by omega)
  obtain ⟨re, y1, y2, y3, y4, y5⟩ := row e (by omega)
  obtain ⟨ln, hc⟩ := y5 (by omega)
  have pe := hJ.1 e (by omega)
  have pe1 := hJ.1 (e + 1) (by omega)
  rw [y2] at q2 q4 pe
  obtain ⟨P, hP⟩ : ∃ P, P = shP σ6 e := ⟨_, rfl⟩
  rw [← hP] at q1 q2 q4 pe
  obtain ⟨re', y1', y2', y3', y4', y5'⟩ := row (e + 1) (by omega)
  rw [y2'] at pe1 hc
  have cS := cs_s (σ := σ) (p := re.1) (i := P - 1) (by omega)
  rw [show P - 1 + 1 = P by omega, ← q2] at cS
  have cM := (cs_m ln (i := P.toNat) (j := re.2.toNat) (by omega) (by omega)).1
  have sh1 : shP σ6 (e + 1) = sg_g σ6 151 (e + 1 : Nat) := by unfold shP; rw [if_neg (by omega)]
  have lb := ln (P - 1) (by omega) (by omega)
  rw [← q2] at lb
  refine ⟨⟨by omega, by omega⟩, ⟨by omega, by omega⟩, fun v65 σ7 => ∃ d' : Nat, v65 = d' ∧ d' ≤ K ∧ shJ σ σ7 R K d' ∧ 80000 ≤ sg_g σ7 88 78 ∧ sg_g σ7 88 78 + (12 * rSh σ7 R K + d') ≤ 152002 ∧ 12 * rSh σ7 R K + d' < 12 * rSh σ6 R K + (e + 1 : Nat), ⟨fun ne => ?_, fun eq => ?_⟩, ?_⟩
  · have il : sg_g σ6 138 e < sg_g σ6 137 e := by omega
    refine ⟨fun σ7 => sg_g σ6 88 78 ≤ sg_g σ7 88 78 ∧ sg_g σ7 88 78 ≤ sg_g σ6 88 78 + 1, ⟨fun _ => ⟨by omega, by omega⟩, fun _ => m_show (by omega) (fun σ' u1 u2 _ => ⟨by omega, by omega⟩)⟩, fun σ7 f7 p7 => ⟨⟨by omega, by omega⟩, fun σ8 e8 => ?_⟩⟩
    rw [y4']
    obtain ⟨z1, z2, z3, z4⟩ := y3'
    have p5 : 0 ≤ sg_g σ6 151 (e + 1 : Nat) ∧ sg_g σ6 151 (e + 1 : Nat) < re'.2 := by omega
    refine ⟨⟨by omega, by omega⟩, ⟨by omega, by omega⟩, ⟨by omega, by omega⟩, ⟨by omega, by omega⟩, ⟨by omega, by omega⟩, ⟨by omega, by omega⟩, ⟨by omega, by omega⟩, fun σ9 e9 => ?_⟩
    have g151 : ∀ t : Nat, ¬ t = e + 1 → sg_g σ9 151 t = sg_g σ6 151 t := fun t ht => by rw [e9, sg_gw_k _ _ _ _ _ _ (by omega), e8, sg_gw_c _ _ _ _ _ _ (by decide), sg_F_ga f7 rfl]
    have g151e : sg_g σ9 151 (e + 1 : Nat) = sg_g σ6 151 (e + 1 : Nat) + 1 := by rw [e9, sg_gw_e _ _ _ _ ⟨by omega, by omega⟩]
    have g137 : ∀ t : Int, sg_g σ9 137 t = sg_g σ6 137 t := fun t => by rw [e9, sg_gw_c _ _ _ _ _ _ (by decide), e8, sg_gw_c _ _ _ _ _ _ (by decide), sg_F_ga f7 rfl]
    have g138 : ∀ t : Int, ¬ t = (e : Int) → sg_g σ9 138 t = sg_g σ6 138 t := fun t ht => by rw [e9, sg_gw_c _ _ _ _ _ _ (by decide), e8, sg_gw_k _ _ _ _ _ _ ht, sg_F_ga f7 rfl]
    have g138e : sg_g σ9 138 e = sg_g σ6 138 e + 1 := by rw [e9, sg_gw_c _ _ _ _ _ _ (by decide), e8, sg_gw_e _ _ _ _ ⟨by omega, by omega⟩]
    have g78 : sg_g σ9 88 78 = sg_g σ7 88 78 := by rw [e9, sg_gw_c _ _ _ _ _ _ (by decide), e8, sg_gw_c _ _ _ _ _ _ (by decide)]
    have rs9 : rSh σ9 R K = rSh σ6 R K - 1 := rSh_w (d := e + 1) (by omega) g151e g151 (by omega)
    have shP9 : ∀ t : Nat, ¬ t = e + 1 → shP σ9 t = shP σ6 t := fun t ht => by
      unfold shP
      by_cases c : t = 0
      · rw [if_pos c, if_pos c]
      · rw [if_neg c, if_neg c]; exact g151 t ht
    have shP9e : shP σ9 (e + 1) = shP σ6 (e + 1) + 1 := by
      unfold shP
      rw [if_neg (by omega), if_neg (by omega)]
      exact g151e
    have J1 : ∀ σ', (∀ t : Nat, shP σ' t = shP σ9 t) → ∀ t, t ≤ K → 0 ≤ shP σ' t ∧ shP σ' t ≤ (R.getD t (0, 0)).2 := fun σ' hs t ht => by
      rw [hs t]
      by_cases c : t = e + 1
      · rw [c, shP9e, sh1, y2']; omega
      · rw [shP9 t c]; exact hJ.1 t ht
    refine ⟨fun ck => ⟨⟨by omega, by omega⟩, fun σ10 e10 σ11 e11 => m_show ?_ (fun σ12 u1 u2 _ => ⟨⟨by omega, by omega⟩, e + 2, by omega, by omega, ?_⟩)⟩, fun ck => m_showN ?_ (sg_Rg _ _ _) (fun σ12 u1 u2 u3 _ => ⟨e + 1, rfl, by omega, ?_⟩)⟩
    · rw [e11, sg_gw_c _ _ _ _ _ _ (by decide), e10, sg_gw_c _ _ _ _ _ _ (by decide)]; omega
    · have i151 : ∀ t : Int, sg_g σ12 151 t = sg_g σ9 151 t := fun t => by rw [sg_F_ga u2 rfl, e11, sg_gw_c _ _ _ _ _ _ (by decide), e10, sg_gw_c _ _ _ _ _ _ (by decide)]
      have i137 : ∀ t : Int, ¬ t = (e + 1 : Nat) → sg_g σ12 137 t = sg_g σ9 137 t := fun t ht => by rw [sg_F_ga u2 rfl, e11, sg_gw_c _ _ _ _ _ _ (by decide), e10, sg_gw_k _ _ _ _ _ _ ht]
      have i137e : sg_g σ12 137 (e + 1 : Nat) = sg_g σ 142 (re'.1 + sg_g σ6 151 (e + 1 : Nat)) := by rw [sg_F_ga u2 rfl, e11, sg_gw_c _ _ _ _ _ _ (by decide), e10, sg_gw_e _ _ _ _ (sg_Rg _ _ _)]
      have i138 : ∀ t : Int, ¬ t = (e + 1 : Nat) → sg_g σ12 138 t = sg_g σ9 138 t := fun t ht => by rw [sg_F_ga u2 rfl, e11, sg_gw_k _ _ _ _ _ _ ht, e10, sg_gw_c _ _ _ _ _ _ (by decide)]
      have i138e : sg_g σ12 138 (e + 1 : Nat) = 0 := by rw [sg_F_ga u2 rfl, e11, sg_gw_e _ _ _ _ ⟨by decide, by decide⟩]
      have i78 : sg_g σ12 88 78 = sg_g σ7 88 78 + 1 := by rw [u1, e11, sg_gw_c _ _ _ _ _ _ (by decide), e10, sg_gw_c _ _ _ _ _ _ (by decide), g78]
      have sP : ∀ t : Nat, shP σ12 t = shP σ9 t := fun t => by
        unfold shP
        by_cases c : t = 0
        · rw [if_pos c, if_pos c]
        · rw [if_neg c, if_neg c]; exact i151 t
      have rs12 : rSh σ12 R K = rSh σ9 R K := rSh_e (fun t _ _ => i151 t)
      refine ⟨⟨J1 σ12 sP, fun i hi => ⟨fun c => ?_, fun c => ?_⟩⟩, by omega, by omega, by omega⟩
      · rw [sP, sP]
        by_cases c1 : i = e + 1
        · subst c1
          rw [i137e, i138e, shP9e, shP9 (e + 1 + 1) (by omega), sh1, y2', (hJ.2 (e + 1) hi).2 (by omega), y2', sh1]
          obtain ⟨ln', -⟩ := y5' (by omega)
          have lb' := ln' (sg_g σ6 151 (e + 1 : Nat)) p5.1 p5.2
          rw [show sg_g σ6 151 (e + 1 : Nat) + 1 - 1 = sg_g σ6 151 (e + 1 : Nat) by omega]
          exact ⟨by omega, rfl, ⟨by omega, lb'.1⟩, by omega⟩
        · rw [i137 i (by omega), i138 i (by omega), g137]
          by_cases c2 : i = e
          · subst c2
            rw [shP9 i (by omega), shP9e, g138e, y2, ← hP]
            exact ⟨q1, q2, ⟨by omega, by omega⟩, by omega⟩
          · rw [shP9 i (by omega), shP9 (i + 1) (by omega), g138 i (by omega)]
            exact (hJ.2 i hi).1 (by omega)
      · rw [sP, sP, shP9 (i + 1) (by omega), shP9 i (by omega)]
        exact (hJ.2 i hi).2 (by omega)
    · omega
    · have i78 := u2
      have sP : ∀ t : Nat, shP σ12 t = shP σ9 t := fun t => by
        unfold shP
        by_cases c : t = 0
        · rw [if_pos c, if_pos c]
        · rw [if_neg c, if_neg c]; exact sg_F_ga u3 rfl
      have rs12 : rSh σ12 R K = rSh σ9 R K := rSh_e (fun t _ _ => sg_F_ga u3 rfl)
      refine ⟨⟨J1 σ12 sP, fun i hi => ⟨fun c => ?_, fun c => ?_⟩⟩, by omega, by omega, by omega⟩
      · rw [sP, sP, sg_F_ga (a := 137) u3 rfl, sg_F_ga (a := 138) u3 rfl, g137]
        by_cases c2 : i = e
        · subst c2
          rw [shP9 i (by omega), shP9e, g138e, y2, ← hP]
          exact ⟨q1, q2, ⟨by omega, by omega⟩, by omega⟩
        · rw [shP9 i (by omega), shP9 (i + 1) (by omega), g138 i (by omega)]
          exact (hJ.2 i hi).1 (by omega)
      · omega
  · refine m_show (by omega) (fun σ7 u1 u2 _ => ⟨⟨by omega, by omega⟩, e, by omega, by omega, ?_⟩)
    have sP : ∀ t : Nat, shP σ7 t = shP σ6 t := fun t => by
      unfold shP
      by_cases c : t = 0
      · rw [if_pos c, if_pos c]
      · rw [if_neg c, if_neg c]; exact sg_F_ga u2 rfl
    have rs7 : rSh σ7 R K = rSh σ6 R K := rSh_e (fun t _ _ => sg_F_ga u2 rfl)
    refine ⟨⟨fun t ht => by rw [sP]; exact hJ.1 t ht, fun i hi => ⟨fun c => ?_, fun c => ?_⟩⟩, by omega, by omega, by omega⟩
    · rw [sP, sP, sg_F_ga (a := 137) u2 rfl, sg_F_ga (a := 138) u2 rfl]
      exact (hJ.2 i hi).1 (by omega)
    · rw [sP, sP]
      by_cases c2 : i = e
      · subst c2
        rw [y2, ← hP]; omega
      · exact (hJ.2 i hi).2 (by omega)
  · rintro v65 σ7 r7 f7 ⟨d', g1, g2, g3, g4, g5, g6⟩
    have := Rn σ7 d' g3
    exact ⟨_, by omega, d', g1, g2, g3, g4, g5, rfl⟩
end GH
