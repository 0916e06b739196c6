/-! BIG STEPS of the nested run: all nodes, all DEFS, the run. -/
section NAL
variable {σ : sg_S} {A : aT} {D : List aDf} {vb : Int → Prop} {X : sg_S → Prop} {B : Int → Int} {call : Int → eV → Int → eR} {ds : kD} {nl dix : Int}
theorem nN_all (hD : dDn σ A D vb X call nl dix) (hcB : gB call) (hW : ckW σ A) (hSl : slA σ vb) (hVb : ∀ b, vbF A D b → vb b) : ∀ f, nN σ A D vb X B call ds nl dix f
  | 0 => fun n L sc p hf hN hL hty => hty.elim
  | f + 1 => fun n L sc p hf hN hL hty hp hj σ8 m ρ t w s c cr h8 hS hm hcr k => by
    obtain ⟨L1, L2, e1, w1, w2, w3⟩ := fT_inv hf
    have e2 := fT_nil w3
    subst e2
    rw [List.append_nil] at e1
    subst e1
    have F := nN_all hD hcB hW hSl hVb f
    have hN1 := (List.nodup_cons.mp hN).2
    have r := w1.1
    by_cases c2 : A.2.1 n = 2
    · exact nN_let hW hSl hVb F c2 w2 hN1 hL hty hp hj h8 hS hm hcr k
    by_cases c3 : A.2.1 n = 3
    · exact nN_if hW F c3 w2 hN1 hL hty hp hj h8 hS hm hcr k
    by_cases c13 : A.2.1 n = 13
    · exact nN_call hD hW hSl hVb F c13 w2 hN1 hL hty hp hj h8 hS hm hcr k
    by_cases c15 : A.2.1 n = 15
    · exact nN_each (eN_b hcB f) hW hSl hVb F c15 w2 hN hL hty hp hj h8 hS hm hcr k
    exact nN_op hW hSl F (by omega) w2 hN1 hL hty hp hj h8 hS hm hcr k
/-- LEAVE -/
theorem zn_leave {σ8 : sg_S} {m : Nat} {t w s c p q r : Int} {C : List (Int × Int)} (h : nP σ σ8 t w s c p) (hm : 1 ≤ m) (hp : pl σ p ((6, q) :: C)) (hq : 0 ≤ q ∧ q < 13) (h47 : sg_g σ8 47 q = r) (kk : ∀ σ' m', nP σ σ' t w s c r → sg_F [9045] σ8 σ' → m' + 1 = m → Rn σ X m' σ') : Rn σ X m σ8 := by
  obtain ⟨m, rfl⟩ : ∃ m', m = m' + 1 := ⟨m - 1, by omega⟩
  obtain ⟨p0, p1, p2, p3⟩ := pl_c hp
  refine rn_6 (p := p) (k := q) h.2.2.1.2.2.2 p0 h.2.1.1 p1 p2 (fun σ32 e32 σ95 e95 => ?_)
  obtain ⟨h32, f32⟩ := nP_32 h ⟨p0.2, p0.1⟩ e32
  rw [xa_in (a := 47) hq, h47] at e95
  have f95 : sg_F [9045] σ32 σ95 := by rw [e95]; exact sg_F_w (sg_F_r _ _) rfl _
  have hr : sg_R r := by rw [← h47]; exact sg_Rg _ _ _
  obtain ⟨a1, ⟨a2, a3⟩, ⟨a4, a5, a6, a7⟩, a8, a9, a10, a11, a12⟩ := h32
  exact kk σ95 m ⟨sg_F_t a1 (sg_F_m f95 rfl), ⟨by rw [sg_F_g f95 (by rfl)]; exact a2, by rw [sg_F_g f95 (by rfl)]; exact a3⟩, ⟨by rw [sg_F_g f95 (by rfl)]; exact a4, by rw [sg_F_g f95 (by rfl)]; exact a5, by rw [sg_F_g f95 (by rfl)]; exact a6, by rw [e95, sg_gw_e _ _ _ _ hr]⟩, a8, a9, a10, by rw [sg_F_g f95 (by rfl)]; exact a11, a12⟩ (sg_F_t f32 f95) rfl
/-- what is known of a DEF (or of the PROGRAM's EXPR) with root r, number q, k PARAMS -/
def dIn (σ : sg_S) (A : aT) (D : List aDf) (B : Int → Int) (cl q r k : Int) : Prop := ∃ (L : List Int) (ds : kD) (sc : List (Int × Int)), (0 ≤ r ∧ r < A.1) ∧ fT A [r] L ∧ L.Nodup ∧ gRq σ A L ∧ tyN A ds (sg_g σ 6) B 201 sc r ∧ pl σ (sg_g σ 31 q) (cd A 201 r ++ [(6, q)]) ∧ jpN σ A 201 r (sg_g σ 31 q) ∧ (∀ x ∈ L, lyQ σ A D B cl x) ∧ ∀ p ∈ sc, ∃ j : Nat, (j : Int) < k ∧ p = (1100 + 6 * q + j, bTy A D (sg_g σ 6) (1100 + 6 * q + j))
theorem dIn_run {cl q r kp : Int} (hW : ckW σ A) (hSl : slA σ vb) (hVb : ∀ b, vbF A D b → vb b) (hcB : gB call) (hq : 0 ≤ q ∧ q < 13) (hcl : cl ≤ q) (h : dIn σ A D B cl q r kp) (hvp : ∀ j : Nat, (j : Int) < kp → vb (1100 + 6 * q + j)) (hD : dDn σ A D vb X call (sg_g σ 11 r) cl) {σ8 : sg_S} {m : Nat} {ρ : eV} {t w s c cr rt : Int} (h8 : nP σ σ8 t w s c (sg_g σ 31 q)) (h47 : sg_g σ8 47 q = rt) (hv : ∀ j : Nat, (j : Int) < kp → rlC σ A D σ8 ρ (1100 + 6 * q + j)) (hm : 8 * (3001 - w) + cr ≤ (m : Int)) (hcr : 0 ≤ cr) (kk : kN σ A D vb X σ8 ρ t s c rt (cr - 1) (sg_g σ 12 r + 1) q [] (sg_g σ 6 r).toNat (evN A (sg_g σ 6) B call 201 r ρ w)) : Rn σ X m σ8 := by
  obtain ⟨L, ds, sc, hr, f1, f2, f3, f4, f5, f6, f7, f8⟩ := h
  have rr := f3 r (fT_sub f1 r (by simp)) L f1
  obtain ⟨p1, p2⟩ := pl_a f5
  refine nN_all (ds := ds) (B := B) hD hcB hW hSl hVb 201 r L sc (sg_g σ 31 q) f1 f2 (fun x hx => ⟨((rr x).mp hx).1, f7 x hx⟩) f4 p1 f6 σ8 m ρ t w s c cr h8 (fun p hp => ?_) hm hcr ?_
  · obtain ⟨j, hj, rfl⟩ := f8 p hp
    exact ⟨hvp j hj, rfl, hv j hj⟩
  · generalize evN A (sg_g σ 6) B call 201 r ρ w = q' at kk
    match q', kk with
    | .inl (e, w'), kk => exact fun σ' q1 q2 q3 q4 => kk σ' q1 q2 q3 q4
    | .inr (v, w', s', ρ'), kk =>
      intro σ1 m1 h1 u1 v1 hm1
      have w19 := h1.2.2.2.2.1
      refine zn_leave (r := rt) h1 (by omega) p2 hq (by rw [u1.2.2.2.2 q hcl]; exact h47) (fun σ2 m2 h2 g2 hm2 => ?_)
      refine kk σ2 m2 h2 ?_ (by rw [sg_F_ga g2 rfl]; exact cvF_F v1 g2 rfl) (by omega)
      have u2 : nU σ A D vb σ8 σ1 ρ ρ' t (sg_g σ 12 r + 1) q [] := nU_w u1 ⟨by have := (rr r).mp (fT_sub f1 r (by simp)); omega, hcl⟩ (Int.le_refl _) (fun x hx hy => by have := ((rr x).mp hx).2; omega)
      exact nU_t u2 (nU_F (L := []) g2 rfl) ⟨Int.le_refl _, Int.le_refl _⟩ (fun x hx => hx) (fun x hx => hx)
/-- all DEFS below M -/
def dAn (σ : sg_S) (A : aT) (D : List aDf) (B : Int → Int) (M : Int) : Prop := M ≤ 12 ∧ ∀ q, 0 ≤ q → q < M → dIn σ A D B q q (sg_g σ 22 q) (sg_g σ 23 q) ∧ (0 ≤ sg_g σ 23 q ∧ sg_g σ 23 q ≤ 6) ∧ (0 ≤ sg_g σ 24 q ∧ sg_g σ 24 q + sg_g σ 23 q ≤ 272) ∧ (∃ y, D[q.toNat]? = some y ∧ (y.2.2.1.length : Int) = sg_g σ 23 q ∧ y.2.2.2 = sg_g σ 22 q) ∧ ∀ q', 0 ≤ q' → q' < q → nxq σ q' ≤ sg_g σ 11 (sg_g σ 22 q)
set_option maxRecDepth 10000 in
theorem cLn_all {M : Int} (hW : ckW σ A) (hSl : slA σ vb) (hVb : ∀ b, vbF A D b → vb b) (h : dAn σ A D B M) : ∀ (j : Nat), (j : Int) < M → ∀ k : Nat, j < k → cLn σ A D vb X (eC A D (sg_g σ 6) B k) (j : Int) := by
  intro j
  induction j using Nat.strongRecOn with
  | ind j ih =>
    intro hM k hjk σ8 m ρ t w s c cr r h8 h47 hv hm hcr kk
    obtain ⟨d1, d2, d3, ⟨y, d4, d5, d6⟩, d7⟩ := h.2 j (by omega) hM
    rw [Int.toNat_natCast] at d4
    have hD : dDn σ A D vb X (eC A D (sg_g σ 6) B j) (sg_g σ 11 (sg_g σ 22 j)) j := fun q' a b => by
      obtain ⟨e1, e2, e3, e4, e5⟩ := h.2 q' a (by omega)
      refine ⟨by have := h.1; omega, ?_, d7 q' a b, e2, e3, e4⟩
      have := ih q'.toNat (by omega) (by omega) j (by omega)
      rw [show ((q'.toNat : Nat) : Int) = q' by omega] at this
      exact this
    rw [eC_e A D (sg_g σ 6) B k j hjk, List.getD_eq_getElem?_getD, d4, Option.getD_some, d6] at kk
    have hv1 : ∀ i : Nat, (i : Int) < sg_g σ 23 j → vb (1100 + 6 * (j : Int) + i) := fun i hi => hVb _ (Or.inr (Or.inr ⟨j, i, y, d4, by clear kk; omega, rfl⟩))
    have hj13 : (0 : Int) ≤ j ∧ (j : Int) < 13 := ⟨by clear kk; omega, by have := h.1; clear kk; omega⟩
    exact dIn_run (cl := (j : Int)) (q := (j : Int)) (r := sg_g σ 22 j) (kp := sg_g σ 23 j) (σ8 := σ8) (m := m) (ρ := ρ) (t := t) (w := w) (s := s) (c := c) (cr := cr) (rt := r) (call := eC A D (sg_g σ 6) B j) hW hSl hVb (eC_b A D (sg_g σ 6) B j) hj13 (Int.le_refl _) d1 hv1 hD h8 h47 hv hm hcr kk
theorem dDn_all {M nl : Int} (hW : ckW σ A) (hSl : slA σ vb) (hVb : ∀ b, vbF A D b → vb b) (h : dAn σ A D B M) (hl : ∀ q, 0 ≤ q → q < M → nxq σ q ≤ nl) : dDn σ A D vb X (eC A D (sg_g σ 6) B M.toNat) nl M := fun q a b => by
  obtain ⟨e1, e2, e3, e4, e5⟩ := h.2 q a b
  refine ⟨by have := h.1; omega, ?_, hl q a b, e2, e3, e4⟩
  have := cLn_all (X := X) hW hSl hVb h q.toNat (by omega) M.toNat (by omega)
  rw [show ((q.toNat : Nat) : Int) = q by omega] at this
  exact this
set_option maxRecDepth 10000 in
/-- the run as a whole -/
theorem n_run {M r a1 : Int} {Q : Int → sg_S → Prop} (hW : ckW σ A) (hSl : slA σ vb) (hVb : ∀ b, vbF A D b → vb b) (h : dAn σ A D B M) (hP : dIn σ A D B M 12 r 0) (hl : ∀ q, 0 ≤ q → q < M → nxq σ q ≤ sg_g σ 11 r) (kc : match evN A (sg_g σ 6) B (eC A D (sg_g σ 6) B M.toNat) 201 r (fun _ => nmF 0) 0 with
    | .inl (e, w') => ∀ σ8, sg_F nRL σ σ8 → sg_g σ8 45 10 = e → ¬ e = 0 → sg_g σ8 45 22 = w' → V_mnConclude σ8 a1 (fun σ23 => sg_F [49, 50, 51, 52, 8045, 12045] σ8 σ23 → Q (sg_g σ8 45 10) σ23)
    | .inr (v, w', s', _) => ∀ σ8, sg_F nRL σ σ8 → (sg_g σ8 45 10 = 0 ∧ sg_g σ8 45 22 = w' ∧ sg_g σ8 45 23 = s' ∧ sg_g σ8 45 7 = 1) → (0 ≤ sg_g σ8 45 20 ∧ sg_g σ8 45 20 ≤ 9000) → cvF σ8 (sg_g σ 6 r).toNat v (sg_g σ8 48 0) → V_mnConclude σ8 a1 (fun σ23 => sg_F [49, 50, 51, 52, 8045, 12045] σ8 σ23 → Q (sg_g σ8 45 10) σ23)) : V_mnRun σ a1 Q := by
  unfold V_mnRun V_mnStart V_nPrepare
  intro σ1 e1 σ4 e4 s1 f1 s2 f2 s3 f3 s4 f4 _ s5 f5 s6 f6 FF
  rw [xp_in ⟨by decide, by decide⟩] at f5
  rw [xa_in (a := 31) (n := 13) (k := 12) ⟨by decide, by decide⟩] at f6
  have z0 : sg_n 0 = 0 := sg_id ⟨by decide, by decide⟩
  have zm : sg_n (-1) = -1 := sg_id ⟨by decide, by decide⟩
  have zE : sg_n (sg_g σ 31 12) = sg_g σ 31 12 := sg_id (sg_Rg _ _ _)
  have a7 : sg_g s6 45 7 = 0 := by rw [f6, f5, f4, f3, f2, f1, e4, e1]; simp [sg_gw, z0]
  have a10 : sg_g s6 45 10 = 0 := by rw [f6, f5, f4, f3, f2, f1, e4]; simp [sg_gw, z0]
  have a20 : sg_g s6 45 20 = 0 := by rw [f6, f5, f4, f3, f2, f1]; simp [sg_gw, z0]
  have a21 : sg_g s6 45 21 = 0 := by rw [f6, f5, f4, f3, f2]; simp [sg_gw, z0]
  have a22 : sg_g s6 45 22 = 0 := by rw [f6, f5, f4, f3]; simp [sg_gw, z0]
  have a23 : sg_g s6 45 23 = 0 := by rw [f6, f5, f4]; simp [sg_gw, z0]
  have a8 : sg_g s6 45 8 = sg_g σ 31 12 := by rw [f6]; simp [sg_gw, zE]
  have a47 : sg_g s6 47 12 = -1 := by rw [f6, f5]; simp [sg_gw, zm]
  have hB : nP σ s6 0 0 0 0 (sg_g σ 31 12) := ⟨sg_F_m FF rfl, ⟨a10, a21⟩, ⟨a7, a22, a23, a8⟩, ⟨by decide, by decide⟩, ⟨by decide, by decide⟩, ⟨by decide, by decide⟩, by rw [a20]; decide, by decide⟩
  have hM := h.1
  have hD : dDn σ A D vb (fun σ8 => V_mnConclude σ8 a1 (fun σ23 => sg_F [49, 50, 51, 52, 8045, 12045] σ8 σ23 → Q (sg_g σ8 45 10) σ23)) (eC A D (sg_g σ 6) B M.toNat) (sg_g σ 11 r) M := dDn_all hW hSl hVb h hl
  have R : Rn σ (fun σ8 => V_mnConclude σ8 a1 (fun σ23 => sg_F [49, 50, 51, 52, 8045, 12045] σ8 σ23 → Q (sg_g σ8 45 10) σ23)) 100000 s6 := by
    refine dIn_run (kp := 0) (cr := 0) (ρ := fun _ => nmF 0) (call := eC A D (sg_g σ 6) B M.toNat) hW hSl hVb (eC_b A D (sg_g σ 6) B M.toNat) ⟨by decide, by decide⟩ hM hP (fun j hj => absurd hj (Int.not_lt.mpr (Int.natCast_nonneg _))) hD hB a47 (fun j hj => absurd hj (Int.not_lt.mpr (Int.natCast_nonneg _))) (by decide) (Int.le_refl _) ?_
    generalize evN A (sg_g σ 6) B (eC A D (sg_g σ 6) B M.toNat) 201 r (fun _ => nmF 0) 0 = q' at kc
    match q', kc with
    | .inl (e, w'), kc => exact kc
    | .inr (v, w', s', ρ'), kc =>
      intro σ' m' h1 _ v1 _
      obtain ⟨b1, ⟨b2, b3⟩, ⟨b4, b5, b6, b7⟩, b8, b9, b10, b11, b12⟩ := h1
      exact rn_e (by rw [b7]; decide) (kc σ' b1 ⟨b2, b5, by rw [b6]; omega, b4⟩ ⟨b11.1, by omega⟩ v1)
  refine ⟨fun n v σ8 => v = 100000 - (n : Int) ∧ Rn σ (fun σ8 => V_mnConclude σ8 a1 (fun σ23 => sg_F [49, 50, 51, 52, 8045, 12045] σ8 σ23 → Q (sg_g σ8 45 10) σ23)) n σ8, fun σ8 => V_mnConclude σ8 a1 (fun σ23 => sg_F [49, 50, 51, 52, 8045, 12045] σ8 σ23 → Q (sg_g σ8 45 10) σ23), ⟨100000, rfl, R⟩, ?_, fun σ8 _ h8 => h8⟩
  rintro n v σ8 rv f8' ⟨hv, hR⟩
  cases n with
  | zero => exact ⟨fun _ => hR, fun q => by omega⟩
  | succ n =>
    obtain ⟨y1, y2, y3⟩ := hR
    refine ⟨fun q => by omega, fun q => ⟨y1, fun q2 => ⟨y2, fun q3 => ?_⟩⟩⟩
    obtain ⟨y4, y5⟩ := y3 q2 q3
    exact ⟨y4, fun σ32 e32 => ⟨Rn σ _ n, y5 σ32 e32, fun σ36 _ h36 => ⟨⟨by omega, by omega⟩, n, by omega, by omega, h36⟩⟩⟩
end NAL
