/-! THE WALK of the checker a third time. -/
def rsS (σ : sg_S) (A : aT) (go : kE → Int → Prop) (n : Int) : Nat → kE → List Int → Prop
  | _, _, [] => True
  | s, es, x :: r => go (eA3 A n s es (sg_g σ 16 n)) x ∧ rsS σ A go n (s + 1) (eA3 A n s es (sg_g σ 16 n)) r
/-- NAMES and calls of a tree are resolved -/
def rsN (σ : sg_S) (A : aT) (ds : kD) : Nat → kE → Int → Prop
  | 0, _, _ => False
  | f + 1, es, n => (A.2.1 n = 1 → kFind es (A.2.2.2.1 n) = some (sg_g σ 16 n)) ∧ (A.2.1 n = 13 → kDx ds (A.2.2.2.1 n) = some (sg_g σ 16 n)) ∧ rsS σ A (rsN σ A ds f) n 0 es (kOrd A n)
theorem rsS_st {σ σ' : sg_S} {A : aT} {n : Int} {go go' : kE → Int → Prop} {LL : List Int} (h : (∀ j, kNo A n j) ∨ sg_g σ' 16 n = sg_g σ 16 n) (hg : ∀ es x L, fT A [x] L → (∀ y ∈ L, y ∈ LL) → go es x → go' es x) : ∀ (R : List Int) (s : Nat) (es : kE) (L : List Int), fT A R L → (∀ y ∈ L, y ∈ LL) → rsS σ A go n s es R → rsS σ' A go' n s es R
  | [], s, es, L, hf, hL, _ => True.intro
  | x :: R, s, es, L, hf, hL, hh => by
    obtain ⟨L1, L2, e1, w1, w2, w3⟩ := fT_inv hf
    subst e1
    have e : eA3 A n s es (sg_g σ' 16 n) = eA3 A n s es (sg_g σ 16 n) := by
      rcases h with h | h
      · rw [eA3_no (h s), eA3_no (h s)]
      · rw [h]
    simp only [rsS] at hh ⊢
    rw [e]
    exact ⟨hg _ _ (x :: L1) (fT_one w1 w2) (fun y hy => hL y (by rw [← List.cons_append]; exact List.mem_append_left _ hy)) hh.1, rsS_st h hg R (s + 1) _ L2 w3 (fun y hy => hL y (by rw [← List.cons_append]; exact List.mem_append_right _ hy)) hh.2⟩
theorem rsN_st {σ σ' : sg_S} {A : aT} {ds : kD} : ∀ (f : Nat) (es : kE) (n : Int) (L : List Int), fT A [n] L → (∀ x ∈ L, sg_g σ' 16 x = sg_g σ 16 x) → rsN σ A ds f es n → rsN σ' A ds f es n
  | 0, _, _, _, _, _, h => h
  | f + 1, es, n, L, hf, hL, h => by
    obtain ⟨L1, L2, e1, w1, w2, w3⟩ := fT_inv hf
    have e2 := fT_nil w3
    subst e2
    rw [List.append_nil] at e1
    subst e1
    obtain ⟨L', k1, k2⟩ := fT_perm (kOrd_p A n) w2
    have hn := hL n (by simp)
    refine ⟨fun z => by rw [hn]; exact h.1 z, fun z => by rw [hn]; exact h.2.1 z, ?_⟩
    exact rsS_st (LL := L1) (Or.inr hn) (fun es x Lx g1 g2 g3 => rsN_st f es x Lx g1 (fun y hy => hL y (List.mem_cons_of_mem _ (g2 y hy))) g3) (kOrd A n) 0 es L' k1 (fun y hy => k2.mem_iff.mpr hy) h.2.2
theorem jpS_st {σ σ' : sg_S} {A : aT} {n : Int} {f : Nat} {go go' : Int → Int → Prop} {LL : List Int} (h : sg_g σ' 32 n = sg_g σ 32 n) (hg : ∀ x p L, fT A [x] L → (∀ y ∈ L, y ∈ LL) → go x p → go' x p) : ∀ (R : List Int) (s : Nat) (p : Int) (L : List Int), fT A R L → (∀ y ∈ L, y ∈ LL) → jpS σ A f go n s p R → jpS σ' A f go' n s p R
  | [], s, p, L, hf, hL, _ => True.intro
  | x :: R, s, p, L, hf, hL, hh => by
    obtain ⟨L1, L2, e1, w1, w2, w3⟩ := fT_inv hf
    subst e1
    simp only [jpS] at hh ⊢
    rw [h]
    exact ⟨hh.1, hg _ _ (x :: L1) (fT_one w1 w2) (fun y hy => hL y (by rw [← List.cons_append]; exact List.mem_append_left _ hy)) hh.2.1, jpS_st h hg R (s + 1) _ L2 w3 (fun y hy => hL y (by rw [← List.cons_append]; exact List.mem_append_right _ hy)) hh.2.2⟩
theorem jpN_st {σ σ' : sg_S} {A : aT} : ∀ (f : Nat) (n p : Int) (L : List Int), fT A [n] L → (∀ x ∈ L, sg_g σ' 32 x = sg_g σ 32 x ∧ sg_g σ' 33 x = sg_g σ 33 x) → jpN σ A f n p → jpN σ' A f n p
  | 0, _, _, _, _, _, h => h
  | f + 1, n, p, L, hf, hL, h => by
    obtain ⟨L1, L2, e1, w1, w2, w3⟩ := fT_inv hf
    have e2 := fT_nil w3
    subst e2
    rw [List.append_nil] at e1
    subst e1
    obtain ⟨L', k1, k2⟩ := fT_perm (kOrd_p A n) w2
    have hn := hL n (by simp)
    refine ⟨jpS_st (LL := L1) hn.1 (fun x p Lx g1 g2 g3 => jpN_st f x p Lx g1 (fun y hy => hL y (List.mem_cons_of_mem _ (g2 y hy))) g3) (kOrd A n) 0 (p + 1) L' k1 (fun y hy => k2.mem_iff.mpr hy) h.1, fun z => by rw [hn.2]; exact h.2.1 z, fun z => by rw [hn.2]; exact h.2.2 z⟩
section WK2T
variable {σ : sg_S} {A : aT} {X : sg_S → Prop}
/-- a part is entered -/
theorem w3_push {σ15 : sg_S} {m : Nat} {n x e b p : Int} {s : Nat} {es : kE} {R : List Int} (hX : ∀ σ', ¬ sg_g σ' 38 13 = 0 → X σ') (h : ckW σ A) (f : sg_F kwL σ σ15) (hn : 0 ≤ n ∧ n < A.1) (hw : nW A n) (hd : (kOrd A n).drop s = x :: R) (hS : kS3 σ15 es e b p) (h44 : sg_g σ15 44 n = s) (h43 : sg_g σ15 43 n = x) (ht : ∀ y ∈ (kOrd A n).take s, kIn (sg_g σ15 6 y)) (hxn : ¬ x = n) (he : e + (bA A n s b - b) ≤ 272) (hb : bA A n s b ≤ 272) (hp : p + (ahd A n s).length + 1 ≤ 1013) (k : ∀ σ', sg_F kwL σ σ' → kS3 σ' (eA3 A n s es b) (e + (bA A n s b - b)) (bA A n s b) (p + (ahd A n s).length + 1) → kU3 σ15 σ' e b p [n, x] → (sg_g σ' 41 n = sg_g σ15 41 n ∧ sg_g σ' 42 n = sg_g σ15 42 n ∧ sg_g σ' 42 x = n) → (sg_g σ' 44 n = s + 1 ∧ ∀ y, R.head? = some y → sg_g σ' 43 n = y) → (sg_g σ' 29 (p + (ahd A n s).length) = 0 ∧ sg_g σ' 30 (p + (ahd A n s).length) = x) → cA σ' A n s b → (kNo A n s → sg_g σ' 16 n = sg_g σ15 16 n) → sg_g σ' 16 x = bA A n s b → (sg_g σ' 43 x = sg_g σ 7 x ∧ sg_g σ' 44 x = 0 ∧ sg_g σ' 41 x = e + (bA A n s b - b)) → (A.2.1 n = 15 → s = (A.2.2.2.2.2 n).length → ∀ y ∈ kGs A n, 0 < sg_g σ' 6 y) → (jA σ' A n s p ∧ (¬ (A.2.1 n = 3 ∧ s = 2) → ¬ (A.2.1 n = 15 ∧ s = (A.2.2.2.2.2 n).length) → sg_g σ' 32 n = sg_g σ15 32 n) ∧ sg_g σ' 33 n = sg_g σ15 33 n) → kWk σ X m x σ') : kWk σ X (m + 1) n σ15 := by
  have hA := h.1
  have hsl : s < (kOrd A n).length := by
    rcases Nat.lt_or_ge s (kOrd A n).length with q | q
    · exact q
    · rw [List.drop_of_length_le q] at hd; cases hd
  have hx : (kOrd A n)[s]? = some x := by rw [← List.head?_drop, hd]; rfl
  obtain ⟨p0, p1, p2, p3, p4, p5, p6⟩ := ckW_p h hn
  have h15 := ckW_F h f rfl
  have xr := p6 x (List.mem_of_getElem? hx)
  have kl := kOrd_len A n
  have n200 : 0 ≤ n ∧ n < 200 := by omega
  have k200 : (kOrd A n).length ≤ 200 := by
    have := (h.2.2 n hn.1 hn.2).1.2.2.2.1.2.2.2
    rw [p0] at this
    rcases wit_len (f := id) (a := 0) (b := 199) this.1 (fun x hx => ⟨x, (this.2 x hx).1, by have := (this.2 x hx).2; omega, rfl⟩) with z | z
    · omega
    · rw [z]; exact Nat.zero_le _
  refine ⟨fun z => by omega, fun z => absurd hS.1 z, fun _ _ => ?_⟩
  unfold kStp
  rw [xa_in (a := 44) n200, xa_in (a := 43) n200, xa_in (a := 10) n200, h44, h43, p2, xa_in (a := 9) xr]
  refine ⟨fun _ => ?_, fun z => by omega⟩
  refine d3_ahead h15 hn hw hsl hS ht he hb (by omega) (fun σ' z _ => ?_) (fun σ50 y1 y2 y3 y4 y5 y6 y7 y8 _ => ⟨⟨by omega, by omega⟩, fun σ56 e56 σ59 e59 σ62 e62 => ?_⟩)
  · refine ⟨⟨by omega, by omega⟩, fun σ56 e56 σ59 e59 σ62 e62 => ?_⟩
    have f62 : sg_F [42, 43, 44] σ' σ62 := by rw [e62, e59, e56]; exact xF_p (xF_p (xF_p (sg_F_r _ _) rfl _ _ _) rfl _ _ _) rfl _ _ _
    have z' : ¬ sg_g σ62 38 13 = 0 := by rw [sg_F_g f62 (by rfl)]; exact z
    unfold V_kEnter
    exact ⟨fun q => absurd q z', fun _ _ => kWk_f (hX σ62 z') z'⟩
  · rw [xp_in n200] at e56 e59
    rw [xp_in xr] at e62
    have f62 : sg_F [42, 43, 44] σ50 σ62 := by rw [e62, e59, e56]; exact sg_F_w (sg_F_w (sg_F_w (sg_F_r _ _) rfl _) rfl _) rfl _
    have S62 : kS3 σ62 (eA3 A n s es b) (e + (bA A n s b - b)) (bA A n s b) (p + (ahd A n s).length) := kS3_F y1 f62 rfl
    refine d3_enter xr S62 (by omega) (fun σ66 z1 z2 z3 z4 z5 z6 _ => ?_)
    have nx : ¬ n = x := fun z => hxn z.symm
    have zn := z3.1 n (by simpa using nx)
    have g44 : sg_g σ66 44 n = s + 1 := by
      rw [zn.2.2.2.2, e62, sg_gw_c _ _ _ _ _ _ (by decide), e59, sg_gw_c _ _ _ _ _ _ (by decide), e56, sg_gw_e _ _ _ _ ⟨by omega, by omega⟩]
    have g43 : sg_g σ66 43 n = sg_g σ 9 x := by
      rw [zn.2.2.2.1, e62, sg_gw_c _ _ _ _ _ _ (by decide), e59, sg_gw_e _ _ _ _ (sg_Rg _ _ _)]
    have g42 : sg_g σ66 42 x = n := by
      rw [sg_F_ga z2 rfl, e62, sg_gw_e _ _ _ _ ⟨by omega, by omega⟩]
    have g42n : sg_g σ66 42 n = sg_g σ15 42 n := by
      rw [sg_F_ga z2 rfl, e62, sg_gw_k _ _ _ _ _ _ nx, e59, sg_gw_c _ _ _ _ _ _ (by decide), e56, sg_gw_c _ _ _ _ _ _ (by decide), sg_F_ga y2 rfl]
    have g41n : sg_g σ66 41 n = sg_g σ15 41 n := by
      rw [zn.2.1, sg_F_ga f62 rfl, sg_F_ga y2 rfl]
    have F66 : sg_F kwL σ σ66 := sg_F_t f (sg_F_t (sg_F_t (sg_F_m y2 rfl) (sg_F_m f62 rfl)) (sg_F_m z2 rfl))
    have u62 : kU3 σ50 σ62 e b p [n, x] := ⟨fun y hy => by
      have yn : ¬ y = n := fun z => hy (by simp [z])
      have yx : ¬ y = x := fun z => hy (by simp [z])
      refine ⟨⟨sg_F_ga f62 rfl, sg_F_ga f62 rfl, sg_F_ga f62 rfl, sg_F_ga f62 rfl⟩, sg_F_ga f62 rfl, ?_, ?_, ?_⟩
      · rw [e62, sg_gw_k _ _ _ _ _ _ yx, e59, sg_gw_c _ _ _ _ _ _ (by decide), e56, sg_gw_c _ _ _ _ _ _ (by decide)]
      · rw [e62, sg_gw_c _ _ _ _ _ _ (by decide), e59, sg_gw_k _ _ _ _ _ _ yn, e56, sg_gw_c _ _ _ _ _ _ (by decide)]
      · rw [e62, sg_gw_c _ _ _ _ _ _ (by decide), e59, sg_gw_c _ _ _ _ _ _ (by decide), e56, sg_gw_k _ _ _ _ _ _ yn], fun s _ => sg_F_ga f62 rfl, fun i _ => ⟨sg_F_ga f62 rfl, sg_F_gal f62 rfl⟩, fun i _ => ⟨sg_F_ga f62 rfl, sg_F_ga f62 rfl⟩⟩
    have ba := bA_le A n s b
    have U : kU3 σ15 σ66 e b p [n, x] := kU3_t (kU3_t (L := [n, x]) y3 u62 ⟨by omega, by omega⟩ ⟨by omega, by omega⟩ ⟨by omega, by omega⟩ (fun y hy => by simp at hy; simp [hy]) (fun y hy => hy)) z3 ⟨Int.le_refl _, by omega⟩ ⟨Int.le_refl _, by omega⟩ ⟨Int.le_refl _, by omega⟩ (fun y hy => hy) (fun y hy => by simp at hy; simp [hy])
    have g32 : sg_g σ66 32 n = sg_g σ50 32 n := by rw [zn.1.2.2.1, sg_F_ga f62 rfl]
    have g33 : sg_g σ66 33 n = sg_g σ50 33 n := by rw [zn.1.2.2.2, sg_F_ga f62 rfl]
    refine k σ66 F66 z1 U ⟨g41n, g42n, g42⟩ ⟨g44, fun y hy => ?_⟩ z4 ?_ (fun z => ?_) z5 ⟨?_, z6.2.1, z6.2.2⟩ (fun a c y hy => ?_) ⟨⟨fun a c => by rw [g32]; exact y8.1.1 a c, fun a c => by rw [g32]; exact y8.1.2 a c⟩, fun a c => by rw [g32]; exact y8.2.1 a c, by rw [g33]; exact y8.2.2⟩
    · rw [g43]
      refine p5 s x y hx ?_
      rw [← List.head?_drop, ← List.drop_drop, hd]
      exact hy
    · refine ⟨fun c1 c2 => ?_, fun c1 c2 => ?_⟩
      · obtain ⟨t1, t2⟩ := y5.1 c1 c2
        have be : bA A n s b = b + 1 := by unfold bA; rw [if_pos ⟨c1, c2⟩]
        rw [zn.1.2.1, sg_F_ga f62 rfl, z3.2.1 b (by omega), sg_F_ga f62 rfl, sg_F_ga z2 rfl, sg_F_ga f62 rfl]
        exact ⟨t1, t2⟩
      · obtain ⟨t1, t2⟩ := y5.2 c1 c2
        have be : bA A n s b = b + (A.2.2.2.2.2 n).length := by unfold bA; rw [if_neg (by omega), if_pos ⟨c1, c2⟩]
        refine ⟨by rw [zn.1.2.1, sg_F_ga f62 rfl]; exact t1, fun i y hy => ?_⟩
        have hi : i < (A.2.2.2.2.2 n).length := by
          have := gE_l hy
          unfold kGs at this
          rw [List.length_take] at this
          omega
        rw [z3.2.1 _ (by omega), sg_F_ga f62 rfl, sg_F_ga z2 rfl, sg_F_ga f62 rfl]
        exact t2 i y hy
    · rw [zn.1.2.1, sg_F_ga f62 rfl]; exact y6 z
    · rw [z6.1, sg_F_ga f62 rfl, sg_F_ga y2 rfl, sg_F_ga f rfl]
    · rw [sg_F_ga z2 rfl, sg_F_ga f62 rfl]; exact y7 a c y hy
/-- all parts are done -/
theorem w3_pop {σ15 : sg_S} {m : Nat} {n e1 e0 b p cl : Int} {ds : kD} {es1 es0 : kE} {Lw : List Int} (hX : ∀ σ', ¬ sg_g σ' 38 13 = 0 → X σ') (h : ckW σ A) (f : sg_F kwL σ σ15) (hn : 0 ≤ n ∧ n < A.1) (hw : nW A n) (h44 : sg_g σ15 44 n = (kOrd A n).length) (ht : ∀ x ∈ A.2.2.2.2.1 n, kIn (sg_g σ15 6 x) ∧ ¬ x = n) (hS : kS3 σ15 es1 e1 b p) (h41 : sg_g σ15 41 n = e0) (hb : 0 ≤ e0 ∧ e0 ≤ e1 ∧ e1 ≤ 272) (hes : kmE σ15 e0 es0) (hE : ∀ s ∈ es0, (0 ≤ s.2 ∧ s.2 < 272) ∧ kIn (sg_g σ15 34 s.2)) (hcl : sg_g σ 38 11 = cl) (hds : dsC σ cl ds) (hdl : ds.length ≤ 12) (hD : cDq σ15 A cl Lw) (hnL : n ∈ Lw) (hp : p + (cnc A n).length ≤ 1013) (k : ∀ σ', sg_F kwL σ σ' → kS3 σ' es0 e0 b (p + (cnc A n).length) → sg_F lvL σ15 σ' → kU3 σ15 σ' e1 b p [n] → kIn (sg_g σ' 6 n) → (A.2.1 n = 1 → kFind es0 (A.2.2.2.1 n) = some (sg_g σ' 16 n)) → (A.2.1 n = 13 → kDx ds (A.2.2.2.1 n) = some (sg_g σ' 16 n)) → (¬ A.2.1 n = 1 → ¬ A.2.1 n = 13 → sg_g σ' 16 n = sg_g σ15 16 n) → (sg_g σ' 32 n = sg_g σ15 32 n ∧ (A.2.1 n = 3 ∨ A.2.1 n = 15 → sg_g σ' 33 n = p + 1)) → kWk σ X m (sg_g σ15 42 n) σ') : kWk σ X (m + 1) n σ15 := by
  have hA := h.1
  obtain ⟨p0, p1, p2, p3, p4, p5, p6⟩ := ckW_p h hn
  have h15 := ckW_F h f rfl
  have n200 : 0 ≤ n ∧ n < 200 := by omega
  refine ⟨fun z => by omega, fun z => absurd hS.1 z, fun _ _ => ?_⟩
  unfold kStp
  rw [xa_in (a := 44) n200, xa_in (a := 10) n200, h44, p2]
  refine ⟨fun z => by omega, fun _ => ?_⟩
  rw [xa_in (a := 42) n200]
  refine d3_leave (ds := ds) h15 hn hw ht hS h41 hb hes hE (by rw [sg_F_g f (by rfl)]; exact hcl) (dsC_F f rfl hds) hdl hD hnL hp (fun σ' z _ => kWk_f (hX σ' z) z) (fun σ' y1 y2 y3 y4 y5 y6 y7 y8 y9 _ => k σ' (sg_F_t f (sg_F_m y2 rfl)) y1 y2 y3 y5 y6 y7 y8 y9)
theorem cD_u3 {σ1 σ2 : sg_S} {cl e b p : Int} {Lw L : List Int} (h : cDq σ1 A cl Lw) (f1 : sg_F kwL σ σ1) (f2 : sg_F kwL σ σ2) (u : kU3 σ1 σ2 e b p L) (hL : ∀ x ∈ L, x ∈ Lw) : cDq σ2 A cl Lw := fun q a c => by
  obtain ⟨y0, ps, r, ⟨y1, y2, y3, y4⟩, y5, y6, y7⟩ := h q a c
  refine ⟨y0, ps, r, ⟨by rw [sg_F_ga f2 rfl, ← sg_F_ga f1 (a := 23) rfl]; exact y1, fun j y hy => by rw [sg_F_ga f2 rfl, ← sg_F_ga f1 (a := 27) rfl]; exact y2 j y hy, by rw [sg_F_ga f2 rfl, ← sg_F_ga f1 (a := 22) rfl]; exact y3, y4⟩, y5, ?_, y7⟩
  rw [(u.1 r (fun z => y7 (hL r z))).1.1]; exact y6
/-- slots that are known -/
def hEs3 (σ : sg_S) (es : kE) (b : Int) : Prop := ∀ s ∈ es, (0 ≤ s.2 ∧ s.2 < b) ∧ kIn (sg_g σ 34 s.2)
theorem gP_m {y : Int × Int} : ∀ {g : List (Int × Int)} {b : Int} {es : kE}, y ∈ gP b g es → y ∈ es ∨ (b ≤ y.2 ∧ y.2 < b + g.length)
  | [], b, es, h => Or.inl h
  | x :: r, b, es, h => by
    simp only [gP] at h
    simp only [List.length_cons]
    rcases gP_m h with q | q
    · rcases List.mem_cons.mp q with w | w
      · right; rw [w]; simp only; omega
      · exact Or.inl w
    · right; omega
/-- the big step of a node -/
def kB3 (σ : sg_S) (A : aT) (X : sg_S → Prop) (ds : kD) (cl : Int) (Lw : List Int) (f : Nat) : Prop := ∀ (n : Int) (L : List Int) (es : kE) (e b p : Int) (σ15 : sg_S) (m : Nat), fT A [n] L → L.Nodup → (∀ x ∈ L, x ∈ Lw) → L.length ≤ f → sg_F kwL σ σ15 → kS3 σ15 es e b (p + 1) → sg_g σ15 16 n = b → (sg_g σ15 43 n = sg_g σ 7 n ∧ sg_g σ15 44 n = 0 ∧ sg_g σ15 41 n = e) → hEs3 σ15 es b → cDq σ15 A cl Lw → e + L.length ≤ 272 → b + L.length ≤ 272 → p + 5 * L.length ≤ 1013 → (∀ σ' b', sg_F kwL σ σ' → kS3 σ' es e b' (p + (cd A f n).length) → kU3 σ15 σ' e b (p + 1) L → (b ≤ b' ∧ b' + 1 ≤ b + L.length) → rsN σ' A ds f es n → jpN σ' A f n p → kIn (sg_g σ' 6 n) → kWk σ X m (sg_g σ15 42 n) σ') → kWk σ X (m + (2 * L.length - 1)) n σ15
end WK2T
