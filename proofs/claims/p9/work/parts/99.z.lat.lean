/-! lookAt of the reference is kTy: all kinds. -/
theorem rg_two (σ : sg_S) (n q ty : Int) : sg_g (sg_w (sg_w σ 102 n q) 101 n ty) 101 = sg_g (sg_w σ 101 n ty) 101 := by
  funext j
  rw [sg_gw, sg_gw_c σ 102 101 n j q (by decide), sg_gw]
theorem kDx_r {ds : kD} {w q : Int} (h : kDx ds w = some q) : 0 ≤ q ∧ q < ds.length := by
  induction ds with
  | nil => cases h
  | cons x l ih =>
    unfold kDx at h
    split at h
    · cases h; simp only [List.length_cons]; omega
    · have := ih h; simp only [List.length_cons]; omega
theorem q_lookAt {σ : sg_S} {A : aT} {ds : kD} {e eb : kE} {n : Int} {Q : sg_S → Prop} (h : trT σ A) (hn : 0 ≤ n ∧ n < A.1) (ht : ∀ y ∈ kTs σ A n, 0 ≤ y ∧ y ≤ 3) (he : kPs σ e eb) (hel : e.length ≤ 300) (hd : dsR σ (sg_g σ 88 45) ds) (hl : ds.length ≤ 12) (hr : ∀ d ∈ ds, 0 ≤ d.2.2 ∧ d.2.2 < A.1) (h3 : A.2.1 n = 3 → (A.2.2.2.2.1 n).length = 3) (h0 : 0 ≤ A.2.1 n) (k1 : ∀ σ', kTy A ds (sg_g σ 101) e n (kTs σ A n) = none → ¬ sg_g σ' 88 29 = 0 → sg_F [101, 102, 30088, 31088] σ σ' → Q σ') (k2 : ∀ σ' ty, kTy A ds (sg_g σ 101) e n (kTs σ A n) = some ty → sg_R ty → sg_g σ' 101 = sg_g (sg_w σ 101 n ty) 101 → sg_g σ' 102 = kUp A ds eb n (sg_g σ 102) → sg_F [101, 102] σ σ' → Q σ') : V_lookAt σ n Q := by
  have h200 := h.1.2.2.1
  obtain ⟨a1, a2, a3, a4, a5, a6, a7⟩ := h.1.2.2.2 n hn.1 hn.2
  have hlen : (kTs σ A n).length = (A.2.2.2.2.1 n).length := List.length_map _
  have hn2 : 0 ≤ n ∧ n < 210 := by omega
  have hg : ∀ j, 0 ≤ (kTs σ A n).getD j 0 ∧ (kTs σ A n).getD j 0 ≤ 3 := fun j => by
    rw [List.getD_eq_getElem?_getD]
    cases e : (kTs σ A n)[j]? with
    | none => simp
    | some y => exact ht y (List.mem_of_getElem? e)
  unfold V_lookAt
  refine ⟨hn2, ⟨fun _ => trivial, fun x => ⟨(trT_kid h hn (j := 0) (by omega)).1, trivial⟩⟩, fun va ea _ => ⟨⟨fun _ => trivial, fun x => ⟨(trT_kid h hn (j := 1) (by omega)).1, trivial⟩⟩, fun vb ebv _ => ?_⟩⟩
  have ea := ea.trans (trT_a h hn 0)
  have ebv := ebv.trans (trT_a h hn 1)
  have g0 := hg 0
  have g1 := hg 1
  have j1 : ∀ σ', kTy A ds (sg_g σ 101) e n (kTs σ A n) = none → ¬ sg_g σ' 88 29 = 0 → sg_F [101, 30088, 31088] σ σ' → Q σ' := fun σ' x1 x2 x3 => k1 σ' x1 x2 (sg_F_m x3 rfl)
  have u0 : ¬ A.2.1 n = 1 → ¬ A.2.1 n = 13 → ∀ ty, sg_g (sg_w σ 101 n ty) 102 = kUp A ds eb n (sg_g σ 102) := fun z1 z2 ty => by
    unfold kUp
    rw [if_neg z1, if_neg z2]
    exact funext fun _ => sg_gw_c _ _ _ _ _ _ (by decide)
  have j2 : ¬ A.2.1 n = 1 → ¬ A.2.1 n = 13 → ∀ ty, kTy A ds (sg_g σ 101) e n (kTs σ A n) = some ty → sg_R ty → Q (sg_w σ 101 n ty) := fun z1 z2 ty x1 x2 => k2 _ ty x1 x2 rfl (u0 z1 z2 ty) (sg_F_w (sg_F_r _ _) rfl _)
  have key : ¬ A.2.1 n = 1 → ¬ A.2.1 n = 13 → ∀ (b : Bool) (is ty : Int), sg_R ty → kTy A ds (sg_g σ 101) e n (kTs σ A n) = kIs b ty → (is = 0 ↔ ¬ b = true) → V_typed σ n is ty (fun σ' => sg_F [101, 30088, 31088] σ σ' → Q σ') := fun z1 z2 b is ty x0 x1 x2 => q_ti hn2 x2 (fun σ' y1 y2 y3 => j1 σ' (x1.trans y1) y2 y3) (fun y => j2 z1 z2 ty (x1.trans y) x0)
  rw [a1]
  refine ⟨fun c => ?_, fun c0 => ⟨fun c => ?_, fun c1 => ⟨fun c => ?_, fun c2 => ⟨fun c => ?_, fun c3 => ⟨fun c => ?_, fun c11 => ⟨fun c => ?_, fun c12 => ⟨fun c => ?_, fun c13 => ⟨fun c => ?_, fun c14 => ⟨fun c => ?_, fun c15 => ?_⟩⟩⟩⟩⟩⟩⟩⟩⟩
  · unfold V_lookAt_0
    exact ⟨hn2, fun σ2 e2 => by rw [e2]; exact j2 (by omega) (by omega) 0 (by simp [kTy, c]) (by decide)⟩
  · have hk : kTy A ds (sg_g σ 101) e n (kTs σ A n) = kFind e (A.2.2.2.1 n) := by simp [kTy, c]
    unfold V_lookAt_1
    rw [a3]
    refine ⟨hn2, q_knownAt he hel (fun x _ _ => ⟨fun y => absurd y (by decide), fun _ => q_wrong (by decide) (fun σ' y1 y2 _ => j1 σ' (hk.trans x) y1 (sg_F_m y2 rfl))⟩) (fun j x xb y z _ => ⟨fun _ => ⟨⟨y, by omega⟩, fun σ10 e10 σ13 e13 => ?_⟩, fun w => absurd w (by omega)⟩)⟩
    refine k2 σ13 _ (hk.trans x) (sg_Rg _ _ _) ?_ ?_ ?_
    · rw [e13, e10]; exact rg_two _ _ _ _
    · unfold kUp
      rw [if_pos c, xb, e13, e10]
      funext m
      rw [sg_gw_c _ _ _ _ _ _ (by decide)]
      by_cases cm : m = n
      · rw [cm, sg_gw_e _ _ _ _ (sg_Rg _ _ _)]; simp only [aU, if_true]
      · rw [sg_gw_k _ _ _ _ _ _ cm]; simp only [aU, cm, if_false]
    · rw [e13, e10]; exact sg_F_w (sg_F_w (sg_F_r _ _) rfl _) rfl _
  · unfold V_lookAt_2
    exact ⟨hn2, fun σ2 e2 => by rw [e2, ebv]; exact j2 (by omega) (by omega) _ (by simp [kTy, c]) ⟨by omega, by omega⟩⟩
  · have t := trT_kid h hn (j := 2) (by have := h3 c; omega)
    have t2 : (kTs σ A n).getD 2 0 = v_kidType σ n 2 := by rw [List.getD_eq_getElem?_getD, t.2]; rfl
    unfold V_lookAt_3
    refine ⟨⟨fun _ => trivial, fun _ => ⟨t.1, fun _ => trivial, fun _ => trivial⟩⟩, fun v3 e3 _ => key (by omega) (by omega) (decide (va = 0) && decide (vb = v_kidType σ n 2)) _ _ ⟨by omega, by omega⟩ (by rw [ea, ebv, ← t2]; simp [kTy, c]) (by rw [e3]; grind)⟩
  · unfold V_lookAt_11
    exact fun v3 e3 _ => key (by omega) (by omega) (decide (0 < va)) _ _ (by decide) (by rw [ea]; simp [kTy, c]) (by rw [e3]; grind)
  · unfold V_lookAt_12
    exact fun v3 e3 _ => ⟨⟨by omega, by omega⟩, key (by omega) (by omega) (decide (0 < va) && decide (vb = 0)) _ _ ⟨by omega, by omega⟩ (by rw [ea, ebv]; simp [kTy, c]) (by rw [e3]; grind)⟩
  · have hk : kTy A ds (sg_g σ 101) e n (kTs σ A n) = (match kDef ds (A.2.2.2.1 n) with
      | none => none
      | some (ps, r) => kIs (decide (kTs σ A n = ps)) (sg_g σ 101 r)) := by simp only [kTy, c]; rfl
    unfold V_lookAt_13
    refine q_lookCall h hn hd hl hr (fun σ' x1 x2 x3 _ => k1 σ' ?_ x2 x3) (fun q ps r x1 xq x2 _ => k2 (sg_w (sg_w σ 102 n q) 101 n (sg_g σ 101 r)) (sg_g σ 101 r) ?_ (sg_Rg σ 101 r) ?_ ?_ ?_)
    · rw [hk]
      rcases x1 with x1 | ⟨ps, r, x1, x4⟩
      · rw [x1]
      · rw [x1]; exact x4
    · rw [hk, x1]; exact x2
    · exact rg_two _ _ _ _
    · have qr := kDx_r xq
      have := h.1.2.2.1
      unfold kUp
      rw [if_neg (by omega), if_pos c, xq]
      funext m
      rw [sg_gw_c _ _ _ _ _ _ (by decide)]
      by_cases cm : m = n
      · rw [cm, sg_gw_e _ _ _ _ ⟨by omega, by omega⟩]; simp only [aU, if_true]
      · rw [sg_gw_k _ _ _ _ _ _ cm]; simp only [aU, cm, if_false]
    · exact sg_F_w (sg_F_w (sg_F_r _ _) rfl _) rfl _
  · have hk : kTy A ds (sg_g σ 101) e n (kTs σ A n) = kIs ((kTs σ A n).all (fun x => decide (x = va))) (va + 1) := by rw [ea]; simp only [kTy, c]; rfl
    exact q_row h hn ea (by omega) (fun σ' x1 x2 x3 => j1 σ' (hk.trans x1) x2 x3) (fun x => j2 (by omega) (by omega) _ (hk.trans x) ⟨by omega, by omega⟩)
  · have hk : kTy A ds (sg_g σ 101) e n (kTs σ A n) = kIs (decide ((kTs σ A n).length ≠ 2 + (A.2.2.2.2.2 n).length) || decide ((kTs σ A n).getD ((kTs σ A n).length - 1) 0 = 0)) (va + 1) := by rw [ea]; simp only [kTy, c]; rfl
    exact q_each h hn (by omega) (fun σ' x1 x2 x3 => j1 σ' (hk.trans x1) x2 x3) (fun x => j2 (by omega) (by omega) _ (hk.trans x) ⟨by omega, by omega⟩)
  · unfold V_lookAt_d
    rw [a1]
    refine ⟨hn2, fun c => ?_, fun c v11 e11 _ => key (by omega) (by omega) (decide (va = 0) && decide (vb = 0)) _ _ (by decide) (by rw [ea, ebv]; simp only [kTy, c0, c1, c2, c3, c, if_false, if_true]) (by rw [e11]; grind)⟩
    have hk : kTy A ds (sg_g σ 101) e n (kTs σ A n) = kAct (A.2.1 n) (kTs σ A n) := by simp only [kTy, c0, c1, c2, c3, c11, c12, c13, c14, c15, show ¬ A.2.1 n < 11 by omega, if_false]
    refine q_lookAct h hn ht (fun σ' x1 x2 x3 _ => j1 σ' (hk.trans x1) x2 x3) (fun ty x _ => k2 _ ty (hk.trans x) ?_ rfl (u0 (by omega) (by omega) ty) (sg_F_w (sg_F_r _ _) rfl _))
    have kI : ∀ b t, kIs b t = some ty → ty = t := fun b t y => by
      unfold kIs at y
      split at y
      · exact (Option.some.inj y).symm
      · cases y
    simp only [kAct] at x
    repeat' split at x
    all_goals (have := kI _ _ x; exact ⟨by omega, by omega⟩)
