/-! leave once more. -/
section CK6
variable {σ : sg_S} {A : aT} {n : Int} {Q : sg_S → Prop}
abbrev lvL : List Nat := [6, 16, 29, 30, 32, 33, 7028, 10038, 13038, 14038]
/-- the DEFS that may be called -/
def cDq (σ : sg_S) (A : aT) (cl : Int) (L : List Int) : Prop := ∀ q, 0 ≤ q → q < cl → q < 12 ∧ ∃ ps r, dcQ σ q (ps, r) ∧ (0 ≤ r ∧ r < A.1) ∧ kIn (sg_g σ 6 r) ∧ r ∉ L
/-- what resolve leaves -/
def rSq (σ σ7 : sg_S) (A : aT) (es0 : List Int) (cl n : Int) : Prop := (A.2.1 n = 1 → sg_g σ7 16 n ∈ es0) ∧ (A.2.1 n = 13 → 0 ≤ sg_g σ7 16 n ∧ sg_g σ7 16 n < cl) ∧ (¬ A.2.1 n = 1 → ¬ A.2.1 n = 13 → sg_g σ7 16 n = sg_g σ 16 n) ∧ (∀ x, ¬ x = n → sg_g σ7 16 x = sg_g σ 16 x)
theorem d_resolve {es0 : List Int} {e0 cl : Int} (hn : 0 ≤ n ∧ n < 200) (hk : A.2.1 n = 1 ∨ A.2.1 n = 13) (h0 : sg_g σ 38 13 = 0) (he : sg_g σ 38 9 = e0) (hb : 0 ≤ e0 ∧ e0 ≤ 272) (hes : ∀ i, 0 ≤ i → i < e0 → sg_g σ 40 i ∈ es0) (hcl : sg_g σ 38 11 = cl) (k : ∀ σ', ¬ sg_g σ' 38 13 = 0 ∨ (sg_g σ' 38 13 = 0 ∧ rSq σ σ' A es0 cl n) → sg_F [16, 13038, 14038] σ σ' → Q σ') : V_kResolve σ n (kmp (A.2.1 n)) Q := by
  unfold V_kResolve
  refine ⟨fun v => v = -1 ∨ ((A.2.1 n = 1 → v ∈ es0) ∧ (A.2.1 n = 13 → 0 ≤ v ∧ v < cl)), ⟨fun z => ?_, fun z => ?_⟩, fun v rv hv => ?_⟩
  · have k13 : A.2.1 n = 13 := by
      rcases hk with y | y
      · rw [y] at z; exact absurd rfl z
      · exact y
    rw [hcl]
    exact d_dfind (fun _ => Or.inl rfl) (fun q a c _ _ => Or.inr ⟨fun y => by omega, fun _ => ⟨a, c⟩⟩)
  · have k1' : A.2.1 n = 1 := by
      rcases hk with y | y
      · exact y
      · rw [y] at z; exact absurd z (by decide)
    exact d_find he hb (fun _ => Or.inl rfl) (fun i a c _ => Or.inr ⟨fun _ => hes i a c, fun y => by omega⟩)
  · refine ⟨fun σ12 => ¬ sg_g σ12 38 13 = 0 ∨ (σ12 = σ ∧ 0 ≤ v), ⟨fun z => Or.inr ⟨rfl, z⟩, fun z => d_blame (by decide) (fun σ' t1 t2 _ => Or.inl t1)⟩, fun σ12 f12 h12 σ15 e15 => ?_⟩
    have f15 : sg_F [16] σ12 σ15 := by rw [e15]; exact xF_p (sg_F_r _ _) rfl _ _ _
    have FF : sg_F [16, 13038, 14038] σ σ15 := sg_F_t (sg_F_m f12 rfl) (sg_F_m f15 rfl)
    rcases h12 with z | ⟨z1, z2⟩
    · exact k σ15 (Or.inl (by rw [sg_F_g f15 (by rfl)]; exact z)) FF
    · subst z1
      rw [xp_in hn] at e15
      have g16 : sg_g σ15 16 n = v := by rw [e15, sg_gw_e _ _ _ _ rv]
      rcases hv with y | y
      · omega
      · exact k σ15 (Or.inr ⟨by rw [sg_F_g f15 (by rfl)]; exact h0, by rw [g16]; exact y.1, by rw [g16]; exact y.2, fun a c => by rcases hk with q | q; exact absurd q a; exact absurd q c, fun x hx => by rw [e15, sg_gw_k _ _ _ _ _ _ hx]⟩) FF
theorem d_leave {es1 es0 L : List Int} {e1 e0 b p cl : Int} (h : ckW σ A) (hn : 0 ≤ n ∧ n < A.1) (hw : nW A n) (ht : ∀ x ∈ A.2.2.2.2.1 n, kIn (sg_g σ 6 x) ∧ ¬ x = n) (hS : kS σ es1 e1 b p) (h41 : sg_g σ 41 n = e0) (hb : 0 ≤ e0 ∧ e0 ≤ e1 ∧ e1 ≤ 272) (hes : ∀ i, 0 ≤ i → i < e0 → sg_g σ 40 i ∈ es0) (hE : ∀ s ∈ es0, (0 ≤ s ∧ s < 272) ∧ kIn (sg_g σ 34 s)) (hcl : sg_g σ 38 11 = cl) (hD : cDq σ A cl L) (hnL : n ∈ L) (hp : p + (cnc A n).length ≤ 1013) (k1 : ∀ σ', ¬ sg_g σ' 38 13 = 0 → Q σ') (k2 : ∀ σ', kS σ' es0 e0 b (p + (cnc A n).length) → sg_F lvL σ σ' → kU σ σ' e1 b p [n] → pC σ' p (cnc A n) → kIn (sg_g σ' 6 n) → (A.2.1 n = 1 → sg_g σ' 16 n ∈ es0 ∧ sg_g σ' 34 (sg_g σ' 16 n) = sg_g σ' 6 n) → (A.2.1 n = 13 → clF σ' A cl n) → (¬ A.2.1 n = 1 → ¬ A.2.1 n = 13 → sg_g σ' 16 n = sg_g σ 16 n) → Q σ') : V_kLeave σ n Q := by
  obtain ⟨p0, p1, p2, p3, p4, p5, p6⟩ := ckW_p h hn
  obtain ⟨s1, ⟨s2, s3, s4⟩, s5, s6, s7, s8⟩ := id hS
  have hA := h.1.2
  have n200 : 0 ≤ n ∧ n < 200 := by omega
  obtain ⟨q2, q3, q15, q1, q13⟩ := kmp_q hw.1
  have hkd : sx_at σ 3 200 n = kmp (A.2.1 n) := by rw [p1 3 200 rfl]; exact (h.2.2 n hn.1 hn.2).1.1
  unfold V_kLeave
  intro σ1 x1
  rw [p1 41 200 rfl, h41] at x1
  have f1 : sg_F [10038] σ σ1 := by rw [x1]; exact sg_F_w (sg_F_r _ _) rfl _
  have g9 : sg_g σ1 38 9 = e0 := by rw [x1, sg_gw_e _ _ _ _ ⟨by omega, by omega⟩]
  have z1 : sg_g σ1 38 13 = 0 := by rw [sg_F_g f1 (by rfl)]; exact s1
  rw [hkd]
  have rs : (A.2.1 n = 1 ∨ A.2.1 n = 13) → V_kResolve σ1 n (kmp (A.2.1 n)) (fun σ46 => sg_F [16, 13038, 14038] σ1 σ46 → (¬ sg_g σ46 38 13 = 0 ∨ (sg_g σ46 38 13 = 0 ∧ rSq σ1 σ46 A es0 cl n))) := fun hk => d_resolve n200 hk z1 g9 ⟨hb.1, by omega⟩ (fun i a c => by rw [sg_F_ga f1 rfl]; exact hes i a c) (by rw [sg_F_g f1 (by rfl)]; exact hcl) (fun σ' y _ _ => y)
  refine ⟨fun σ7 => ¬ sg_g σ7 38 13 = 0 ∨ (sg_g σ7 38 13 = 0 ∧ rSq σ1 σ7 A es0 cl n), ⟨fun z => rs (Or.inl (q1.mp z)), fun z => ⟨fun z2 => Or.inr ⟨z1, fun y => absurd (q1.mpr y) z, fun y => absurd (q13.mpr y) z2, fun _ _ => rfl, fun _ _ => rfl⟩, fun z2 => rs (Or.inr (q13.mp z2))⟩⟩, ?_⟩
  intro σ7 fr7 h7
  have f7 : sg_F [16, 10038, 13038, 14038] σ σ7 := sg_F_t (sg_F_m f1 rfl) (sg_F_m fr7 rfl)
  refine ⟨fun z => ?_, fun z => k1 σ7 z⟩
  rcases h7 with a | ⟨-, r1, r2, r3, r4⟩
  · exact absurd z a
  have T7 : sg_g σ7 6 = sg_g σ 6 := funext fun _ => sg_F_ga f7 rfl
  obtain ⟨ds, hds⟩ : ∃ ds : kD, A.2.1 n = 13 → ∃ ps r, kDef ds (A.2.2.2.1 n) = some (ps, r) ∧ dcQ σ (sg_g σ7 16 n) (ps, r) ∧ (0 ≤ r ∧ r < A.1) ∧ kIn (sg_g σ 6 r) ∧ (r ∉ L ∧ sg_g σ7 16 n < 12) := by
    by_cases c : A.2.1 n = 13
    · obtain ⟨a, ps, r, y1, y2, y3, y4⟩ := hD _ (r2 c).1 (r2 c).2
      exact ⟨[(A.2.2.2.1 n, ps, r)], fun _ => ⟨ps, r, by simp [kDef], y1, y2, y3, y4, a⟩⟩
    · exact ⟨[], fun y => absurd y c⟩
  refine c_depth (ds := ds) (e := [(A.2.2.2.1 n, sg_g σ 34 (sg_g σ7 16 n))]) (ckW_F h f7 rfl) hn hw (by rw [T7]; exact fun x hx => (ht x hx).1) (fun y => ?_) (fun y => ?_) (fun q hq rq => ?_)
  · have m := hE _ (r1 y)
    refine ⟨_, rfl, m.1, ?_, ?_⟩
    · simp only [kFind, if_true]; rw [show sg_g σ7 34 (sg_g σ7 16 n) = sg_g σ 34 (sg_g σ7 16 n) from sg_F_ga f7 rfl]
    · rw [show sg_g σ7 34 (sg_g σ7 16 n) = sg_g σ 34 (sg_g σ7 16 n) from sg_F_ga f7 rfl]; exact m.2
  · obtain ⟨ps, r, y1, y2, y3, y4, y5, y6⟩ := hds y
    exact ⟨_, ps, r, rfl, ⟨(r2 y).1, y6⟩, y1, dcQ_F y2 f7 rfl, by omega, by rw [T7]; exact y4⟩
  · rw [T7] at hq
    refine ⟨fun σ20 => ¬ sg_g σ20 38 13 = 0 ∨ (σ20 = σ7 ∧ 0 ≤ q ∧ q ≤ 3), ⟨fun _ => d_blame (by decide) (fun σ' y _ _ => Or.inl y), fun y => ⟨fun y2 => Or.inr ⟨rfl, y, y2⟩, fun _ => d_blame (by decide) (fun σ' y _ _ => Or.inl y)⟩⟩, fun σ20 f20 h20 σ23 e23 => ?_⟩
    rw [xp_in n200] at e23
    have f23 : sg_F [6] σ20 σ23 := by rw [e23]; exact sg_F_w (sg_F_r _ _) rfl _
    have q23 : sg_g σ23 28 6 = p := by rw [sg_F_g f23 (by rfl), sg_F_g f20 (by rfl), sg_F_g f7 (by rfl)]; exact s4
    refine d_conclude hw n200 q23 ⟨s8, hp⟩ (fun σ27 f27 d1 d2 d3 _ => ?_)
    rcases h20 with a | ⟨a, aq⟩
    · exact k1 σ27 (by rw [sg_F_g f27 (by rfl), sg_F_g f23 (by rfl)]; exact a)
    · subst a
      have f27' : sg_F [6, 29, 30, 32, 33, 7028] σ20 σ27 := sg_F_t (sg_F_m f23 rfl) (sg_F_m f27 rfl)
      have FF : sg_F lvL σ σ27 := sg_F_t (sg_F_m f7 rfl) (sg_F_m f27' rfl)
      have g6 : sg_g σ27 6 n = q := by rw [sg_F_ga f27 rfl, e23, sg_gw_e _ _ _ _ rq]
      have o6 : ∀ x, ¬ x = n → sg_g σ27 6 x = sg_g σ 6 x := fun x hx => by rw [sg_F_ga f27 rfl, e23, sg_gw_k _ _ _ _ _ _ hx, sg_F_ga f7 rfl]
      have g16 : ∀ x, sg_g σ27 16 x = sg_g σ20 16 x := fun x => sg_F_ga f27' rfl
      have hty : kTy A ds (sg_g σ 6) [(A.2.2.2.1 n, sg_g σ 34 (sg_g σ20 16 n))] n ((A.2.2.2.2.1 n).map (sg_g σ 6)) = some q := by
        rcases hq with ⟨-, y⟩ | ⟨y, -⟩
        · omega
        · exact y
      refine k2 σ27 ⟨by rw [sg_F_g f27' (by rfl)]; exact z, ⟨by rw [sg_F_g f27' (by rfl), sg_F_g fr7 (by rfl)]; exact g9, by rw [sg_F_g f27' (by rfl), sg_F_g f7 (by rfl)]; exact s3, d1⟩, fun i a c => by rw [sg_F_ga FF rfl]; exact hes i a c, hb.1, s7, by omega⟩ FF ⟨fun x hx => ?_, fun s _ => sg_F_ga FF rfl, fun i _ => sg_F_ga FF rfl, fun i hi => ?_⟩ d2 (by rw [g6]; exact aq) (fun y => ?_) (fun y => ?_) (fun y1 y2 => ?_)
      · have xn : ¬ x = n := by simpa using hx
        refine ⟨⟨o6 x xn, ?_⟩, sg_F_ga FF rfl, sg_F_ga FF rfl, sg_F_ga FF rfl, sg_F_ga FF rfl⟩
        rw [g16, r4 x xn, sg_F_ga f1 rfl]
      · obtain ⟨t1, t2⟩ := d3 i hi
        rw [t1, t2, sg_F_ga f23 rfl, sg_F_ga f7 rfl, sg_F_ga f23 rfl, sg_F_ga f7 rfl]
        exact ⟨rfl, rfl⟩
      · rw [g16, g6]
        refine ⟨r1 y, ?_⟩
        rw [kTy_1 y] at hty
        simp only [kFind, if_true] at hty
        rw [sg_F_ga FF rfl]
        exact Option.some.inj hty
      · obtain ⟨ps, r, y1, y2, y3, y4, y5, y6⟩ := hds y
        unfold kTy at hty
        simp only [y] at hty
        rw [if_neg (by decide), if_neg (by decide), if_neg (by decide), if_neg (by decide), if_neg (by decide), if_neg (by decide), if_neg (by decide), if_pos trivial, y1] at hty
        obtain ⟨i1, i2, i3⟩ := kIs_in hty
        simp only [decide_eq_true_eq] at i3
        obtain ⟨w1, w2, w3, w4⟩ := y2
        unfold clF
        rw [g16]
        refine ⟨r2 y, ?_, fun i x hx => ?_, ?_⟩
        · rw [sg_F_ga FF rfl, w1, ← i3, List.length_map]
        · have xk := ht x (List.mem_of_getElem? hx)
          rw [o6 x xk.2, sg_F_ga FF rfl, w2 i (sg_g σ 6 x) (by rw [← i3, List.getElem?_map, hx]; rfl)]
        · rw [g6, show sg_g σ27 22 (sg_g σ20 16 n) = r by rw [sg_F_ga FF rfl]; exact w3, o6 r (fun z => y5 (by rw [z]; exact hnL))]
          exact i1
      · rw [g16, r3 y1 y2, sg_F_ga f1 rfl]
end CK6
