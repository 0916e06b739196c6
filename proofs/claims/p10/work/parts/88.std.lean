/-! STEPS of the reader (4): ATOM, lists, GENS. -/
section STD
variable {t : aK} {N : Nat} {σ : sg_S} {F : Int} {i : Nat} {A : aT} {vs : List Int} {d : Int} {P : aP} {f : Nat}
theorem s_cp {Q : sg_S → Prop} {q : Int} (h : Rp t N σ F i A vs d P) (hd : 0 ≤ d ∧ d ≤ 100) (hq : 0 ≤ q ∧ q < A.1) (hP : P.length < 3990) (k1 : ∀ σ' F' i' d', ¬ F' = 0 → (¬ (F = 0 ∧ aSg t i 40 = true ∧ d < 12)) → Rp t N σ' F' i' A vs d' P → Q σ') (k2 : F = 0 → aSg t i 40 = true → d < 12 → i < N → ¬ A.2.1 q = 14 → (A.2.2.2.2.1 q).length = 0 → aSg t (i + 1) 41 = true → ∀ σ', Rp t N σ' 0 (i + 1) A vs (d + 1) ((15, q) :: P) → Q σ') (k3 : F = 0 → aSg t i 40 = true → d < 12 → i < N → (A.2.1 q = 14 ∨ ¬ (A.2.2.2.2.1 q).length = 0 ∨ aSg t (i + 1) 41 = false) → ∀ σ', Rp t N σ' 0 (i + 1) A vs (d + 1) ((0, 0) :: (10, q) :: (15, q) :: P) → Q σ') : p_isSignNow σ 40 ∧ (∃ P140 : sg_S → Prop, ((v_isSignNow σ 40 = 0 → P140 σ) ∧ (¬ v_isSignNow σ 40 = 0 → V_enter σ (fun σ159 => sg_F [30088, 31088, 37088] σ σ159 → P140 σ159))) ∧ (∀ (σ141 : sg_S), sg_F [30088, 31088, 37088] σ σ141 → P140 σ141 → p_isSignNow σ 40 ∧ V_want σ141 (v_isSignNow σ 40) (fun σ146 => sg_F [8088, 30088, 31088] σ141 σ146 → ((¬ sg_g σ146 88 29 = 0 → Q σ146) ∧ (sg_g σ146 88 29 = 0 → V_readList σ146 q (fun σ153 => sg_F [110, 111, 32088] σ146 σ153 → Q σ153)))))) := by
  rw [vs_sg h]
  refine ⟨p_sg h 40, fun s => ∃ F1 d1, (F1 = 0 ↔ F = 0 ∧ (aSg t i 40 = true → d < 12)) ∧ (aSg t i 40 = true → d1 = d + 1) ∧ Rp t N s F1 i A vs d1 P, ⟨fun c => ⟨F, d, ?_, ?_, h⟩, fun c => s_enter h hd (fun σ1 F1 e1 h1 _ => ⟨F1, d + 1, ?_, fun _ => rfl, h1⟩)⟩, ?_⟩
  · rw [(if01n _).mp c]; simp
  · rw [(if01n _).mp c]; simp
  · rw [(if01 _).mp c]; simp [e1]
  rintro σ1 - ⟨F1, d1, e1, e2, h1⟩
  refine ⟨p_sg h 40, s_want h1 (fun _ c => Rp_i h1 (by have := sg_t ((if01 _).mp c); omega)) (fun σ2 F2 e3 h2 _ => ?_)⟩
  rw [if01] at e3
  rw [h2.2.1]
  refine ⟨fun c => k1 σ2 F2 _ d1 c ?_ h2, fun c => ?_⟩
  · rintro ⟨a, b, e⟩
    exact c (e3.mpr ⟨e1.mpr ⟨a, fun _ => e⟩, b⟩)
  · obtain ⟨a, b⟩ := e3.mp c
    obtain ⟨a1, a2⟩ := e1.mp a
    have e4 := e2 b
    subst c
    subst e4
    rw [if_pos rfl] at h2
    have hi := Rp_i h1 (by have := sg_t b; omega)
    exact s_lst h2 hq hP (fun c1 c2 c3 σ' h' _ => k2 a1 b (a2 b) hi c1 c2 c3 σ' h') (fun c1 σ' h' _ => k3 a1 b (a2 b) hi c1 σ' h')
/-- the parts of what was opened by ( : how the state stands, and what it comes to -/
theorem aIn_15 {q : Int} {m0 : Int} (h1 : f + 1 ≤ 12) (hw : pwf P) (hc : pcn P + (f + 1) = 12) (ho : pok P (vs.length + 1)) (hn : pnd A.1 P) (hv : ∀ v ∈ vs, 0 ≤ v ∧ v < A.1) (hq : 0 ≤ q ∧ q < A.1) (hA : A.1 ≤ 200) (hm : 0 ≤ m0) (hb : aB A m0) (he : m0 + vs.length + (pow P + 1) = A.1) : aIn A vs f ((15, q) :: P) ∧ aIn A vs f ((0, 0) :: (10, q) :: (15, q) :: P) := by
  refine ⟨⟨by omega, ?_, ?_, ?_, ?_, hv, m0, hm, hb, ?_⟩, ⟨by omega, ?_, ?_, ?_, ?_, hv, m0, hm, hb, ?_⟩⟩
  · simp [pwf, pht, pcl, pgr, hw]
  · simp [pcn, pcl]; omega
  · simp [pok, ho]
  · simp [pnd, hn]; omega
  · simp [pow]; omega
  · simp [pwf, pht, pcl, pgr, hw]
  · simp [pcn, pcl]; omega
  · simp [pok, ho]
  · simp [pnd, hn, sg_R0]; omega
  · simp [pow]; omega
theorem lst_u {E : aF} (hE : gF E) {n ch : Int} {i : Nat} {A : aT} (h0 : 0 ≤ A.1 ∧ A.1 ≤ 200) : aLst t E n ch i A = match E i A with
    | none => none
    | some (i1, A1, r) => if aSg t i1 44 = true then aLst t E n ch (i1 + 1) (aKid A1 n r) else if aSg t i1 ch = true then some (i1 + 1, aKid A1 n r, n) else none := by
  obtain ⟨g, hg⟩ : ∃ g, (201 - A.1).toNat = g + 1 := ⟨(201 - A.1).toNat - 1, by omega⟩
  unfold aLst
  rw [hg]
  simp only [aLstL]
  cases he : E i A with
  | none => rfl
  | some r =>
    obtain ⟨i1, A1, r⟩ := r
    obtain ⟨g1, g2, g3, g4⟩ := hE _ _ _ _ _ he h0
    have g5 := g1.1
    simp only
    by_cases c : aSg t i1 44 = true
    · simp only [c, if_true]
      rw [lstL_f hE (201 - (aKid A1 n r).1).toNat g (i1 + 1) (aKid A1 n r) (by simp only [aKid_1]; omega) (Nat.le_refl _) (by simp only [aKid_1]; omega)]
    · simp only [c]
      by_cases c2 : aSg t i1 ch = true
      · simp [c2]
      · simp [c2]
theorem aCl_k (A : aT) (n k q : Int) : aCl (aKid A n q) k = aCl A k := rfl
theorem aCl_g {A B : aT} (h : gr A B) {k : Int} (hk : k < A.1) : aCl B k = aCl A k := by
  unfold aCl
  rw [(h.2 k hk).1]
/-- EXPR, KID n, LISTED n: the list -/
theorem den_l {q : Int} (hq : 0 ≤ q ∧ q < A.1) (h0 : 0 ≤ A.1 ∧ A.1 ≤ 200) : den t ((0, 0) :: (10, q) :: (15, q) :: P) i A vs f = match aLst t (aLv t f).1 q (aCl A q) i A with
    | none => none
    | some (i', A', r) => den t P i' A' (r :: vs) (f + 1) := by
  rw [lst_u (gF_lv f).1 h0]
  simp only [den, aDe]
  simp [aPu]
  cases he : (aLv t f).1 i A with
  | none => rfl
  | some r =>
    obtain ⟨i1, A1, r⟩ := r
    obtain ⟨g1, g2, g3, g4⟩ := (gF_lv f).1 _ _ _ _ _ he h0
    simp only [aLs, aCl_k, aCl_g g1 hq.2]
    have hk : ¬ ((aKid A1 q r).2.2.2.2.1 q).length = 0 := by simp [aKid, aU_e]
    by_cases c : aSg t i1 44 = true
    · simp only [c, hk, not_false_eq_true, and_self, if_true]
      cases aLst t (aLv t f).1 q (aCl A q) (i1 + 1) (aKid A1 q r) with
      | none => rfl
      | some r => rfl
    · by_cases c2 : aSg t i1 (aCl A q) = true
      · simp [c, c2]
      · simp [c, c2]
theorem st_15 (hR : Rp t N σ 0 i A vs d P) (hd : d = 12 - (f : Int)) (n : Int) (hI : aIn A vs f ((15, n) :: P)) {Q : sg_S → Prop} (hQ : ∀ σ', aPo t N (den t ((15, n) :: P) i A vs f) (40 * (N - i) + pwt ((15, n) :: P)) σ' → Q σ') : V_goOn_15 σ n Q := by
  have hl := aIn_l hI
  have hA := Rp_A hR
  have hf := hI.1
  have h36 : sg_g σ 88 36 = d := hR.2.2.2.2.2.2.1
  have hn : 0 ≤ n ∧ n < A.1 := hI.2.2.2.2.1.2.1 (Or.inr (Or.inr (Int.le_refl 15)))
  obtain ⟨n1, n2, -⟩ := Rp_n hR hn
  have close : (¬ (aSg t i 44 = true ∧ ¬ (A.2.2.2.2.1 n).length = 0)) → ∀ v6 : Int, v6 = (if ¬ sg_g σ 93 n = 14 then (41 : Int) else (93 : Int)) → sg_R v6 → p_isSignNow σ v6 ∧ V_want σ (v_isSignNow σ v6) (fun σ11 => sg_F [8088, 30088, 31088] σ σ11 → sg_R (sg_g σ 88 36 - 1) ∧ ∀ σ17, σ17 = (sg_w σ11 88 36 (sg_g σ 88 36 - 1)) → V_pushed σ17 n (fun σ21 => sg_F [112, 35088] σ17 σ21 → Q σ21)) := by
    rintro hno v6 e6 -
    have e7 : v6 = aCl A n := by rw [e6, n1]; unfold aCl; by_cases c : A.2.1 n = 14 <;> simp [c]
    subst e7
    rw [vs_sg hR, h36]
    refine ⟨p_sg hR _, s_want hR (fun _ c => Rp_i hR (by have := sg_t ((if01 _).mp c); omega)) (fun σ1 F1 e1 h1 _ => ⟨⟨by omega, by omega⟩, ?_⟩)⟩
    rw [if01] at e1
    rintro σ2 rfl
    refine s_pushed (Rp_d h1 (e := d - 1) ⟨by omega, by omega⟩) ⟨by omega, by omega⟩ (by omega) (fun σ3 h3 _ => ?_)
    refine hQ _ ⟨F1, _, _, _, _, _, h3, fun e => ?_, fun e => ⟨f + 1, by omega, ?_, ?_, ?_⟩⟩
    · have c : aSg t i (aCl A n) = false := bF (fun c => e (e1.mpr ⟨rfl, c⟩))
      have hls : aLs t f n i A = none := by unfold aLs; rw [if_neg hno, if_neg (by rw [c]; simp)]
      simp [den, aDe, hls, aPu]
    · obtain ⟨i1, i2, i3, i4, i5, i6, m, i7, i8, i9⟩ := hI
      simp [pwf, pcn, pok, pnd, pow, pht, pcl, pgr] at i2 i3 i4 i5 i9
      refine ⟨by omega, i2, by omega, i4, i5.2.2, fun v hv => ?_, m, i7, i8, ?_⟩
      · rcases List.mem_cons.mp hv with e | e
        · subst e; exact hn
        · exact i6 v e
      · simp only [List.length_cons]; omega
    · rw [if_pos e]
      have hls : aLs t f n i A = some (i + 1, A, n) := by unfold aLs; rw [if_neg hno, if_pos (e1.mp e).2]
      simp [den, aDe, hls, aPu]
    · rw [if_pos e]
      have hi := Rp_i hR (by have := sg_t (e1.mp e).2; omega)
      simp [pwt]; omega
  unfold V_goOn_15
  rw [vs_sg hR 44, n2]
  refine ⟨p_sg hR 44, fun h => ⟨⟨by omega, by omega⟩, ?_⟩, fun h => ⟨⟨by omega, by omega⟩, fun h2 => ?_, fun h2 => ?_⟩⟩
  · exact close (by rw [(if01n _).mp h]; simp)
  · exact close (fun c => c.2 (by omega))
  · rw [if01] at h
    have hi := Rp_i hR (by have := sg_t h; omega)
    have hq : sg_R n := ⟨by omega, by omega⟩
    refine s_want hR (fun _ _ => hi) (fun σ1 F1 e1 h1 _ => ?_)
    have e : F1 = 0 := by omega
    rw [if_pos e] at h1
    subst e
    refine s_pile h1 (by decide) hq (by omega) (fun σ2 h2 _ => ?_)
    refine s_pile h2 (by decide) hq (by simp only [List.length_cons]; omega) (fun σ3 h3 _ => ?_)
    refine s_pile h3 (by decide) (by decide) (by simp only [List.length_cons]; omega) (fun σ4 h4 _ => ?_)
    refine hQ _ ⟨0, _, _, _, _, _, h4, fun c => absurd rfl c, fun _ => ⟨f, hd, ?_, ?_, ?_⟩⟩
    · obtain ⟨i1, i2, i3, i4, i5, i6, m, i7, i8, i9⟩ := hI
      simp [pwf, pcn, pok, pnd, pow, pht, pcl, pgr] at i2 i3 i4 i5 i9
      exact (aIn_15 (by omega) i2 (by omega) i4 i5.2.2 i6 hn hA.2 i7 i8 (by omega)).2
    · rw [den_l hn hA]
      have hk : ¬ (A.2.2.2.2.1 n).length = 0 := by omega
      simp only [den, aDe]
      simp [aLs, h, hk, aPu]
      cases aLst t (aLv t f).1 n (aCl A n) (i + 1) A with
      | none => rfl
      | some r => rfl
    · simp [pwt]; omega
/-- behind a call's WORD and its ( -/
theorem po_args {σ' : sg_S} {q : Int} {g : Nat} {B : aT} {j : Nat} {R : Option aS} {u : Nat} (hBA : B.1 ≤ 200) (hq : 0 ≤ q ∧ q < B.1) (hk : ¬ B.2.1 q = 14) (hk0 : (B.2.2.2.2.1 q).length = 0) (hcl : aIn B vs g ((15, q) :: P) ∧ aIn B vs g ((0, 0) :: (10, q) :: (15, q) :: P)) (hu : 40 * (N - j) + pwt P + 20 < u) (hd : d = 12 - (g : Int)) (hr : R = match aArgs t (aLv t g).1 q j B with
    | none => none
    | some (i', A', r) => den t P i' A' (r :: vs) (g + 1)) : (aSg t j 41 = true → Rp t N σ' 0 j B vs d ((15, q) :: P) → aPo t N R u σ') ∧ (aSg t j 41 = false → Rp t N σ' 0 j B vs d ((0, 0) :: (10, q) :: (15, q) :: P) → aPo t N R u σ') := by
  have hc : aCl B q = 41 := by unfold aCl; rw [if_neg hk]
  refine ⟨fun c h => ?_, fun c h => ?_⟩
  · refine ⟨0, _, _, _, _, _, h, fun e => absurd rfl e, fun _ => ⟨g, hd, hcl.1, ?_, ?_⟩⟩
    · rw [hr]
      have h44 : aSg t j 44 = false := by
        refine bF (fun c2 => ?_)
        have a1 := (of_decide_eq_true c).2
        have a2 := (of_decide_eq_true c2).2
        omega
      simp [den, aDe, aLs, hc, h44, c, aPu, aArgs]
    · simp [pwt]; omega
  · refine ⟨0, _, _, _, _, _, h, fun e => absurd rfl e, fun _ => ⟨g, hd, hcl.2, ?_, ?_⟩⟩
    · rw [hr, den_l hq ⟨by omega, hBA⟩, hc]
      simp [aArgs, c]
    · simp [pwt]; omega
end STD
/-! STEPS of the reader (5): ATOM. -/
section STE
variable {t : aK} {N : Nat} {σ : sg_S} {F : Int} {i : Nat} {A : aT} {vs : List Int} {d : Int} {P : aP} {f : Nat} {n : Int}
theorem at_num (hR : Rp t N σ 0 i A vs d P) (hd : d = 12 - (f : Int)) (hI : aIn A vs f ((9, n) :: P)) (h : t.1 i = 1) {Q : sg_S → Prop} (hQ : ∀ σ', aPo t N (den t ((9, n) :: P) i A vs f) (40 * (N - i) + pwt ((9, n) :: P)) σ' → Q σ') : V_newNode σ 0 (fun q291 σ292 => sg_R q291 → sg_F [93, 94, 95, 96, 98, 9088, 30088, 31088] σ σ292 → V_pushed σ292 (q291) (fun σ298 => sg_F [112, 35088] σ292 σ298 → V_want σ298 (1) (fun σ304 => sg_F [8088, 30088, 31088] σ298 σ304 → Q σ304))) := by
  have hl := aIn_l hI
  have hA := Rp_A hR
  have hi := Rp_i hR (by omega)
  refine s_newNode hR (by decide) (fun σ2 F2 A2 q e2 e3 e4 e5 e6 h2 _ _ => ?_)
  have hA2 := Rp_A h2
  refine s_pushed h2 ⟨by omega, by omega⟩ (by omega) (fun σ3 h3 _ => ?_)
  refine s_want h3 (fun _ _ => hi) (fun σ4 F4 e7 h4 _ => hQ _ ?_)
  refine ⟨F4, _, _, _, _, _, h4, fun e => ?_, fun e => ?_⟩
  · have e8 : A.1 = 200 := by omega
    simp [den, aDe, aAtm, h, aMk, e8, aPu]
  · obtain ⟨c1, c2⟩ := e3 (by omega)
    subst c1 c2
    rw [if_pos e]
    refine ⟨f, hd, ?_, ?_, ?_⟩
    · obtain ⟨i1, i2, i3, i4, i5, i6, m, i7, i8, i9⟩ := hI
      simp [pwf, pcn, pok, pnd, pow, pht, pcl, pgr] at i2 i3 i4 i5 i9
      refine ⟨i1, i2.2, i3, i4, pnd_m (by simp only [aNew_1]; omega) i5.2, fun v hv => ?_, m, i7, aB_n i8 i7 _ _ _, ?_⟩
      · simp only [aNew_1]
        rcases List.mem_cons.mp hv with c | c
        · subst c; omega
        · have := i6 v c; omega
      · simp only [aNew_1, List.length_cons]; omega
    · simp [den, aDe, aAtm, h, aMk, show ¬ A.1 = 200 by omega, aPu]
    · simp [pwt]; omega
theorem at_no (hR : Rp t N σ 0 i A vs d P) (hr : den t ((9, n) :: P) i A vs f = none) {Q : sg_S → Prop} (hQ : ∀ σ', aPo t N (den t ((9, n) :: P) i A vs f) (40 * (N - i) + pwt ((9, n) :: P)) σ' → Q σ') : V_want σ 0 (fun σ304 => sg_F [8088, 30088, 31088] σ σ304 → Q σ304) := by
  refine s_want hR (fun _ c => absurd rfl c) (fun σ4 F4 e7 h4 _ => hQ _ ?_)
  exact ⟨F4, _, _, _, _, _, h4, fun _ => hr, fun e => absurd rfl (e7.mp e).2⟩
theorem at_each (hR : Rp t N σ 0 i A vs d P) (hd : d = 12 - (f : Int)) (hI : aIn A vs f ((9, n) :: P)) (h : aSg t i 123 = true) {Q : sg_S → Prop} (hQ : ∀ σ', aPo t N (den t ((9, n) :: P) i A vs f) (40 * (N - i) + pwt ((9, n) :: P)) σ' → Q σ') : V_enter σ (fun σ17 => sg_F [30088, 31088, 37088] σ σ17 → V_newNode σ17 (15) (fun q22 σ23 => sg_R q22 → sg_F [93, 94, 95, 96, 98, 9088, 30088, 31088] σ17 σ23 → V_want σ23 (1) (fun σ29 => sg_F [8088, 30088, 31088] σ23 σ29 → V_pile σ29 (16) (q22) (fun σ35 => sg_F [110, 111, 32088] σ29 σ35 → V_pile σ35 (13) (58) (fun σ41 => sg_F [110, 111, 32088] σ35 σ41 → V_pile σ41 (10) (q22) (fun σ47 => sg_F [110, 111, 32088] σ41 σ47 → V_pile σ47 (0) (0) (fun σ53 => sg_F [110, 111, 32088] σ47 σ53 → Q σ53))))))) := by
  have hl := aIn_l hI
  have hA := Rp_A hR
  have hf := hI.1
  have ht := sg_t h
  have hi := Rp_i hR (by omega)
  have hs : aSg t i 40 = false ∧ aSg t i 91 = false := by
    have a1 := (of_decide_eq_true h).2
    exact ⟨bF (fun c => by have := (of_decide_eq_true c).2; omega), bF (fun c => by have := (of_decide_eq_true c).2; omega)⟩
  refine s_enter hR (by omega) (fun σ1 F1 e1 h1 _ => ?_)
  refine s_newNode h1 (by decide) (fun σ2 F2 A2 q e2 e3 e4 e5 e6 h2 _ _ => ?_)
  have hA2 := Rp_A h2
  have hq : sg_R q := ⟨by omega, by omega⟩
  refine s_want h2 (fun _ _ => hi) (fun σ3 F3 e7 h3 _ => ?_)
  refine s_pile h3 (by decide) hq (by omega) (fun σ4 h4 _ => ?_)
  refine s_pile h4 (by decide) (by decide) (by simp only [List.length_cons]; omega) (fun σ5 h5 _ => ?_)
  refine s_pile h5 (by decide) hq (by simp only [List.length_cons]; omega) (fun σ6 h6 _ => ?_)
  refine s_pile h6 (by decide) (by decide) (by simp only [List.length_cons]; omega) (fun σ7 h7 _ => hQ _ ?_)
  refine ⟨F3, _, _, _, _, _, h7, fun e => ?_, fun e => ?_⟩
  · cases f with
    | zero => simp [den, aDe, aAtm, ht, h, hs, aW, aPu]
    | succ g =>
      have e8 : A.1 = 200 := by omega
      simp [den, aDe, aAtm, ht, h, hs, aW, aEach, aMk, e8, aPu]
  · obtain ⟨c1, c2⟩ := e3 (by omega)
    subst c1 c2
    obtain ⟨g, rfl⟩ : ∃ g, f = g + 1 := ⟨f - 1, by omega⟩
    rw [if_pos e]
    refine ⟨g, by omega, ?_, ?_, ?_⟩
    · obtain ⟨i1, i2, i3, i4, i5, i6, m, i7, i8, i9⟩ := hI
      simp [pwf, pcn, pok, pnd, pow, pht, pcl, pgr] at i2 i3 i4 i5 i9
      have hp := pnd_m (S' := A.1 + 1) (by omega) i5.2
      refine ⟨by omega, ?_, ?_, ?_, ?_, ?_, m, i7, aB_n i8 i7 _ _ _, ?_⟩
      · simp [pwf, pht, pcl, pgr]; grind
      · simp [pcn, pcl]; grind
      · simp [pok]; grind
      · simp only [aNew_1]
        simp [pnd, sg_R0, hp, show sg_R 58 by decide]
        omega
      · intro v hv
        have := i6 v hv
        simp only [aNew_1]
        omega
      · simp [pow, aNew_1]; omega
    · simp only [den, aDe, aAtm, ht, h, hs, aW, aI]
      simp [aEach, aMk, show ¬ A.1 = 200 by omega, aPu]
      cases (aLv t g).1 (i + 1) (aNew A 15 (t.2.2 i) (t.2.1 i)) with
      | none => rfl
      | some r =>
        obtain ⟨i2, A2, r2⟩ := r
        simp only
        by_cases c : aSg t i2 58 = true
        · simp only [c, if_true]
        · simp [c]
    · simp [pwt]; omega
theorem at_par (hR : Rp t N σ 0 i A vs d P) (hd : d = 12 - (f : Int)) (hI : aIn A vs f ((9, n) :: P)) (h : aSg t i 40 = true) {Q : sg_S → Prop} (hQ : ∀ σ', aPo t N (den t ((9, n) :: P) i A vs f) (40 * (N - i) + pwt ((9, n) :: P)) σ' → Q σ') : V_enter σ (fun σ83 => sg_F [30088, 31088, 37088] σ σ83 → V_want σ83 (1) (fun σ89 => sg_F [8088, 30088, 31088] σ83 σ89 → V_pile σ89 (12) (0) (fun σ95 => sg_F [110, 111, 32088] σ89 σ95 → V_pile σ95 (13) (41) (fun σ101 => sg_F [110, 111, 32088] σ95 σ101 → V_pile σ101 (0) (0) (fun σ107 => sg_F [110, 111, 32088] σ101 σ107 → Q σ107))))) := by
  have hl := aIn_l hI
  have hA := Rp_A hR
  have hf := hI.1
  have ht := sg_t h
  have hi := Rp_i hR (by omega)
  refine s_enter hR (by omega) (fun σ1 F1 e1 h1 _ => ?_)
  refine s_want h1 (fun _ _ => hi) (fun σ3 F3 e7 h3 _ => ?_)
  refine s_pile h3 (by decide) (by decide) (by omega) (fun σ4 h4 _ => ?_)
  refine s_pile h4 (by decide) (by decide) (by simp only [List.length_cons]; omega) (fun σ5 h5 _ => ?_)
  refine s_pile h5 (by decide) (by decide) (by simp only [List.length_cons]; omega) (fun σ6 h6 _ => hQ _ ?_)
  refine ⟨F3, _, _, _, _, _, h6, fun e => ?_, fun e => ?_⟩
  · cases f with
    | zero => simp [den, aDe, aAtm, ht, h, aW, aPu]
    | succ g => omega
  · obtain ⟨g, rfl⟩ : ∃ g, f = g + 1 := ⟨f - 1, by omega⟩
    rw [if_pos e]
    refine ⟨g, by omega, ?_, ?_, ?_⟩
    · obtain ⟨i1, i2, i3, i4, i5, i6, m, i7, i8, i9⟩ := hI
      simp [pwf, pcn, pok, pnd, pow, pht, pcl, pgr] at i2 i3 i4 i5 i9
      refine ⟨by omega, ?_, ?_, ?_, ?_, i6, m, i7, i8, ?_⟩
      · simp [pwf, pht, pcl, pgr]; grind
      · simp [pcn, pcl]; grind
      · simp [pok]; grind
      · simp [pnd, sg_R0, i5.2, show sg_R 41 by decide]; omega
      · simp [pow]; omega
    · simp only [den, aDe, aAtm, ht, h, aW, aI]
      simp [aPar, aPu]
      cases (aLv t g).1 (i + 1) A with
      | none => rfl
      | some r =>
        obtain ⟨i2, A2, r2⟩ := r
        simp only
        by_cases c : aSg t i2 41 = true
        · simp [c]
        · simp [c]
    · simp [pwt]; omega
theorem at_row (hR : Rp t N σ 0 i A vs d P) (hd : d = 12 - (f : Int)) (hI : aIn A vs f ((9, n) :: P)) (h : aSg t i 91 = true) {Q : sg_S → Prop} (hQ : ∀ σ', aPo t N (den t ((9, n) :: P) i A vs f) (40 * (N - i) + pwt ((9, n) :: P)) σ' → Q σ') : V_enter σ (fun σ59 => sg_F [30088, 31088, 37088] σ σ59 → V_newNode σ59 (14) (fun q64 σ65 => sg_R q64 → sg_F [93, 94, 95, 96, 98, 9088, 30088, 31088] σ59 σ65 → V_want σ65 (1) (fun σ71 => sg_F [8088, 30088, 31088] σ65 σ71 → V_readList σ71 (q64) (fun σ77 => sg_F [110, 111, 32088] σ71 σ77 → Q σ77)))) := by
  have hl := aIn_l hI
  have hA := Rp_A hR
  have hf := hI.1
  have ht := sg_t h
  have hi := Rp_i hR (by omega)
  have hs : aSg t i 40 = false := by
    have a1 := (of_decide_eq_true h).2
    exact bF (fun c => by have := (of_decide_eq_true c).2; omega)
  refine s_enter hR (by omega) (fun σ1 F1 e1 h1 _ => ?_)
  refine s_newNode h1 (by decide) (fun σ2 F2 A2 q e2 e3 e4 e5 e6 h2 _ _ => ?_)
  have hA2 := Rp_A h2
  refine s_want h2 (fun _ _ => hi) (fun σ3 F3 e7 h3 _ => ?_)
  by_cases e : F3 = 0
  · obtain ⟨c1, c2⟩ := e3 (by omega)
    subst c1 c2
    obtain ⟨g, rfl⟩ : ∃ g, f = g + 1 := ⟨f - 1, by omega⟩
    rw [if_pos e] at h3
    have hkd : (aNew A 14 (t.2.2 i) (t.2.1 i)).2.1 A.1 = 14 := by simp only [aNew, aU_e]
    refine s_lst h3 ⟨hA.1, by simp only [aNew_1]; omega⟩ (by omega) (fun c => absurd hkd c) (fun _ σ4 h4 _ => hQ _ ?_)
    refine ⟨F3, _, _, _, _, _, h4, fun c => absurd e c, fun _ => ⟨g, by omega, ?_, ?_, ?_⟩⟩
    · obtain ⟨i1, i2, i3, i4, i5, i6, m, i7, i8, i9⟩ := hI
      simp [pwf, pcn, pok, pnd, pow, pht, pcl, pgr] at i2 i3 i4 i5 i9
      exact (aIn_15 (by omega) i2.2 (by omega) i4 (pnd_m (by simp only [aNew_1]; omega) i5.2) (fun v hv => by have := i6 v hv; simp only [aNew_1]; omega) ⟨hA.1, by simp only [aNew_1]; omega⟩ (by simp only [aNew_1]; omega) i7 (aB_n i8 i7 _ _ _) (by simp only [aNew_1]; omega)).2
    · rw [den_l ⟨hA.1, by simp only [aNew_1]; omega⟩ ⟨by simp only [aNew_1]; omega, by simp only [aNew_1]; omega⟩]
      have hcl : aCl (aNew A 14 (t.2.2 i) (t.2.1 i)) A.1 = 93 := by unfold aCl; rw [if_pos hkd]
      rw [hcl]
      simp only [den, aDe, aAtm, ht, h, hs, aW, aI]
      simp [aRw, aMk, show ¬ A.1 = 200 by omega, aPu]
      cases aLst t (aLv t g).1 A.1 93 (i + 1) (aNew A 14 (t.2.2 i) (t.2.1 i)) with
      | none => rfl
      | some r => rfl
    · simp [pwt]; omega
  · have hr : den t ((9, n) :: P) i A vs f = none := by
      cases f with
      | zero => simp [den, aDe, aAtm, ht, h, hs, aW, aPu]
      | succ g =>
        have e8 : A.1 = 200 := by omega
        simp [den, aDe, aAtm, ht, h, hs, aW, aRw, aMk, e8, aPu]
    refine s_lst h3 ⟨e5, e6⟩ (by omega) (fun _ _ _ σ4 h4 _ => hQ _ ?_) (fun _ σ4 h4 _ => hQ _ ?_)
    · exact ⟨F3, _, _, _, _, _, h4, fun _ => hr, fun c => absurd c e⟩
    · exact ⟨F3, _, _, _, _, _, h4, fun _ => hr, fun c => absurd c e⟩
end STE
