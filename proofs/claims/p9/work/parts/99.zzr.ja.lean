/-! BIG STEPS: all nodes, all DEFS. -/
section BAL
variable {σ : sg_S} {A : aT} {ds : kD} {B : Int → Int} {lo nl dix : Int}
theorem bN_all {H : Int → Int} (hD : dD σ H lo nl dix) (hW : ckW σ A) (hnl : 0 ≤ nl) : ∀ f, bN σ A ds B lo nl dix f
  | 0 => fun n L es sc b b' p h hf hN hL hg hty => hty.elim
  | f + 1 => fun n L es sc b b' p h hf hN hL hg hty hsc hh hp hS hb σ8 m t sv N c h8 hE ht hv k => by
    obtain ⟨L1, L2, e1, w1, w2, w3⟩ := fT_inv hf
    have e2 := fT_nil w3
    subst e2
    rw [List.append_nil] at e1
    subst e1
    have F := bN_all hD hW hnl f
    have hN1 := (List.nodup_cons.mp hN).2
    have r := w1.1
    by_cases c2 : A.2.1 n = 2
    · exact bN_let hW hnl F c2 w2 hN1 hL hg hty hsc hh hp hS hb h8 hE ht hv k
    by_cases c3 : A.2.1 n = 3
    · exact bN_if hW hnl F c3 w2 hN hL hg hty hsc hh hp hS hb h8 hE ht hv k
    by_cases c13 : A.2.1 n = 13
    · exact bN_call hD hW hnl F c13 w2 hN1 hL hg hty hsc hh hp hS hb h8 hE ht hv k
    by_cases c15 : A.2.1 n = 15
    · exact bN_each hW hnl F c15 w2 hN hL hg hty hsc hh hp hS hb h8 hE ht hv k
    exact bN_op hW hnl F (by omega) w2 hN1 hL hg hty hsc hh hp hS hb h8 hE ht hv k
/-- LEAVE -/
theorem zs_leave {σ8 : sg_S} {m : Nat} {t sv N c p q r : Int} {C : List (Int × Int)} (h : bP σ σ8 t sv N c p) (hp : pl σ p ((6, q) :: C)) (hq : 0 ≤ q ∧ q < 13) (h63 : sg_g σ8 63 q = r) (kk : ∀ σ' m', m' ≤ m → bP σ σ' t sv N c r → sg_F [9061] σ8 σ' → Rr σ m' σ') : Rr σ m σ8 := by
  cases m with
  | zero => exact True.intro
  | succ m =>
    obtain ⟨p0, p1, p2, p3⟩ := pl_c hp
    refine rr_6 (p := p) (k := q) h.2.2.1.2.2.2 p0 p1 p2 (fun σ32 e32 σ95 e95 => ?_)
    obtain ⟨h32, f32⟩ := bP_32 h ⟨p0.2, p0.1⟩ e32
    rw [xa_in (a := 63) hq, h63] at e95
    have f95 : sg_F [9061] σ32 σ95 := by rw [e95]; exact sg_F_w (sg_F_r _ _) rfl _
    have hr : sg_R r := by rw [← h63]; exact sg_Rg _ _ _
    obtain ⟨a1, a2, ⟨a3, a4, a5, a6⟩, a7⟩ := h32
    refine kk σ95 m (by omega) ⟨sg_F_t a1 (sg_F_m f95 rfl), mC_F a2 f95 rfl, ⟨by rw [sg_F_g f95 (by rfl)]; exact a3, by rw [sg_F_g f95 (by rfl)]; exact a4, by rw [sg_F_g f95 (by rfl)]; exact a5, ?_⟩, a7⟩ (sg_F_t (sg_F_m f32 rfl) (sg_F_m f95 rfl))
    rw [e95, sg_gw_e _ _ _ _ hr]
/-- what is known of a DEF (or of the PROGRAM's EXPR) with root r, first slot fs, k PARAMS, entry E, number q -/
def dI (σ : sg_S) (A : aT) (H : Int → Int) (cl q r fs k : Int) : Prop := ∃ (L : List Int) (ds : kD) (B : Int → Int) (sc : List (Int × Int)), (0 ≤ r ∧ r < A.1) ∧ fT A [r] L ∧ L.Nodup ∧ gRq σ A L ∧ tyN A ds (sg_g σ 6) B 201 sc r ∧ scN σ A cl 201 (gsl fs k.toNat) r (fs + k) (H q) ∧ htN A 201 r ≤ 12 ∧ pl σ (sg_g σ 31 q) (cd A 201 r ++ [(6, q)]) ∧ (0 ≤ k ∧ k ≤ 6) ∧ 0 ≤ fs ∧ H q ≤ 272 ∧ ∀ i : Nat, (i : Int) < k → sg_g σ 34 (fs + i) = sg_g σ 27 (6 * q + i) ∧ kIn (sg_g σ 34 (fs + i))
/-- a body from its entry to behind its LEAVE -/
theorem dI_run {H : Int → Int} {cl q r fs k : Int} (hW : ckW σ A) (hq : 0 ≤ q ∧ q < 13) (hcl : cl ≤ q) (h : dI σ A H cl q r fs k) (hD : dD σ H fs (sg_g σ 11 r) cl) {σ8 : sg_S} {m : Nat} {t sv N c rt : Int} (h8 : bP σ σ8 t sv N c (sg_g σ 31 q)) (h63 : sg_g σ8 63 q = rt) (hv : ∀ i : Nat, (i : Int) < k → yV σ8 (sg_g σ 27 (6 * q + i)).toNat (sg_g σ8 62 (fs + i)) N) (ht : t + (sg_g σ 12 r + 1) ≤ 400) (hs : sv + 12 * (sg_g σ 12 r + 1) ≤ 2400) (kk : ∀ σ' m', m' ≤ m → bP σ σ' (t + 1) sv N c rt → bU σ8 σ' (H q) 0 0 (sg_g σ 12 r + 1) q t sv [] → yV σ' (sg_g σ 6 r).toNat (sg_g σ' 64 t) N → Rr σ m' σ') : Rr σ m σ8 := by
  obtain ⟨L, ds, B, sc, hr, f1, f2, f3, f4, f5, f6, f7, f8, f9, f10, f11⟩ := h
  have rr := f3 r (fT_sub f1 r (by simp)) L f1
  have r0 := (rr r).mp (fT_sub f1 r (by simp))
  have lw := (rr (sg_g σ 11 r)).mpr ⟨by omega, by omega⟩
  have inr := fT_inq (fun k a b => (hW.2.2 k a b).2) f1 (by intro y hy; simp at hy; rw [hy]; exact hr)
  have l0 := (inr _ lw).1
  have hL : ∀ x ∈ L, sg_g σ 11 r ≤ x := fun x hx => ((rr x).mp hx).1
  have hl : (L.length : Int) ≤ sg_g σ 12 r - sg_g σ 11 r + 1 := by
    rcases wit_len (f := id) (a := sg_g σ 11 r) (b := sg_g σ 12 r) f2 (fun x hx => ⟨x, ((rr x).mp hx).1, ((rr x).mp hx).2, rfl⟩) with z | z
    · exact z
    · rw [z]; simp only [List.length_nil]; omega
  obtain ⟨p1, p2⟩ := pl_a f7
  have bb := scN_le _ _ _ _ _ f5
  have S : bSq σ (gsl fs k.toNat) fs (fs + k) := ⟨f9, by omega, fun s hs => by
    have z := gsl_m.mp hs
    have := (f11 (s - fs).toNat (by omega)).2
    rw [show fs + (((s - fs).toNat : Nat) : Int) = s by omega] at this
    exact ⟨⟨by omega, by omega⟩, this⟩⟩
  have hE : bE σ σ8 A L (gsl fs k.toNat) N := fun j hj hk hm => by
    have z := gsl_m.mp hm
    have e := (f11 (sg_g σ 16 j - fs).toNat (by omega)).1
    have v := hv (sg_g σ 16 j - fs).toNat (by omega)
    rw [show fs + (((sg_g σ 16 j - fs).toNat : Nat) : Int) = sg_g σ 16 j by omega] at e v
    rw [e]; exact v
  have h12 : ((12 * L.length : Nat) : Int) = 12 * (L.length : Int) := by omega
  refine bN_all (ds := ds) (B := B) hD hW l0 201 r L (gsl fs k.toNat) sc (fs + k) (H q) (sg_g σ 31 q) 12 f1 f2 hL f3 f4 f5 f6 p1 S f10 σ8 m t sv N c h8 hE (by omega) (by omega) (fun σ1 m1 hm1 h1 u1 v1 => ?_)
  refine zs_leave (r := rt) h1 p2 hq (by rw [u1.2.2.2.2.2 q hcl]; exact h63) (fun σ2 m2 hm2 h2 g2 => ?_)
  refine kk σ2 m2 (by omega) h2 ?_ (by rw [sg_F_ga g2 rfl]; exact yV_up (yEx_F g2 rfl) v1)
  have u2 : bU σ8 σ1 (H q) 0 0 (sg_g σ 12 r + 1) q t sv [] := bU_w u1 ⟨by omega, by omega, hcl⟩ (fun s x y z => by omega) (Int.le_refl _) (Int.le_refl _) (fun x hx hy => by have := ((rr x).mp hx).2; omega)
  have u3 : bU σ1 σ2 (H q) 0 0 (sg_g σ 12 r + 1) q t sv [] := bU_F g2 rfl
  exact bU_t u2 u3 ⟨Int.le_refl _, Int.le_refl _, Int.le_refl _, Int.le_refl _⟩ ⟨Int.le_refl _, Int.le_refl _⟩ ⟨Int.le_refl _, Int.le_refl _⟩ (fun x hx => hx) (fun x hx => hx)
/-- all DEFS below M -/
def dA (σ : sg_S) (A : aT) (H : Int → Int) (M : Int) : Prop := M ≤ 12 ∧ ∀ q, 0 ≤ q → q < M → dI σ A H q q (sg_g σ 22 q) (sg_g σ 24 q) (sg_g σ 23 q) ∧ ∀ q', 0 ≤ q' → q' < q → H q' ≤ sg_g σ 24 q ∧ nxq σ q' ≤ sg_g σ 11 (sg_g σ 22 q)
theorem cL_all {H : Int → Int} {M : Int} (hW : ckW σ A) (h : dA σ A H M) : ∀ (j : Nat) (q : Int), q.toNat = j → 0 ≤ q → q < M → cLq σ H q := by
  intro j
  induction j using Nat.strongRecOn with
  | ind j ih =>
    intro q hj h0 hM σ8 m t sv N c r h8 h63 hv ht hs kk
    obtain ⟨d1, d2⟩ := h.2 q h0 hM
    have hD : dD σ H (sg_g σ 24 q) (sg_g σ 11 (sg_g σ 22 q)) q := fun q' a b => by
      obtain ⟨e1, e2⟩ := d2 q' a b
      obtain ⟨L, ds, B, sc, hr, f1, f2, f3, f4, f5, f6, f7, f8, f9, f10, f11⟩ := (h.2 q' a (by omega)).1
      have bb := scN_le _ _ _ _ _ f5
      exact ⟨by have := h.1; omega, ih q'.toNat (by omega) q' rfl a (by omega), e1, e2, f8, ⟨f9, bb⟩, f10⟩
    exact dI_run hW ⟨h0, by have := h.1; omega⟩ (Int.le_refl _) d1 hD h8 h63 hv ht hs kk
theorem dD_all {H : Int → Int} {M lo nl : Int} (hW : ckW σ A) (h : dA σ A H M) (hl : ∀ q, 0 ≤ q → q < M → H q ≤ lo ∧ nxq σ q ≤ nl) : dD σ H lo nl M := fun q a b => by
  obtain ⟨L, ds, B, sc, hr, f1, f2, f3, f4, f5, f6, f7, f8, f9, f10, f11⟩ := (h.2 q a b).1
  have bb := scN_le _ _ _ _ _ f5
  exact ⟨by have := h.1; omega, cL_all hW h q.toNat q rfl a b, (hl q a b).1, (hl q a b).2, f8, ⟨f9, bb⟩, f10⟩
end BAL
