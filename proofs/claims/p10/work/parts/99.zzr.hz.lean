/-! BIG STEPS: { }. -/
section BEC
variable {σ : sg_S} {A : aT} {ds : kD} {B : Int → Int} {lo nl dix : Int} {f : Nat}
theorem bN_each (hW : ckW σ A) (hnl : 0 ≤ nl) (F : bN σ A ds B lo nl dix f) {n : Int} {L1 es : List Int} {sc : List (Int × Int)} {b b' p : Int} {h : Nat} (hk : A.2.1 n = 15) (hf : fT A (A.2.2.2.2.1 n) L1) (hNn : (n :: L1).Nodup) (hL : ∀ x ∈ n :: L1, nl ≤ x) (hg : gRq σ A (n :: L1)) (hty : tyN A ds (sg_g σ 6) B (f + 1) sc n) (hsc : scN σ A dix (f + 1) es n b b') (hh : htN A (f + 1) n ≤ h) (hp : pl σ p (cd A (f + 1) n)) (hS : bSq σ es lo b) (hb : b' ≤ 272) {σ8 : sg_S} {m : Nat} {t sv N c : Int} (h8 : bP σ σ8 t sv N c p) (hE : bE σ σ8 A (n :: L1) es N) (ht : t + (n :: L1).length + nl ≤ 400) (hv : sv + ((h * (n :: L1).length : Nat) : Int) + 12 * nl ≤ 2400) (k : ∀ σ' m', m' ≤ m → bP σ σ' (t + 1) sv N c (p + (cd A (f + 1) n).length) → bU σ8 σ' lo b b' nl dix t sv (n :: L1) → yV σ' (sg_g σ 6 n).toNat (sg_g σ' 64 t) N → Rr σ m' σ') : Rr σ m σ8 := by
  obtain ⟨t1, t2, t3, t4, t5, t6, t7, t8, t9⟩ := hty
  obtain ⟨c1, c2⟩ := ck3 hW t2
  obtain ⟨w1, w2, w3, w4, w5, w6, w7, w8⟩ := id t1
  have n2 : ¬ A.2.1 n = 2 := by omega
  have n3 : ¬ A.2.1 n = 3 := by omega
  have w7' := w7 hk
  have w8' := w8.2 hk
  obtain ⟨bd, tl, hk2⟩ : ∃ bd tl, A.2.2.2.2.1 n = bd :: tl := by
    match hh : A.2.2.2.2.1 n with
    | bd :: tl => exact ⟨bd, tl, rfl⟩
    | [] => rw [hh] at w7'; simp only [List.length_nil] at w7'; omega
  have tyk := t8 hk bd tl hk2
  have e6 := t5 (by omega)
  unfold kTy at e6
  rw [hk2] at e6
  simp only [hk] at e6
  rw [if_neg (by decide), if_neg (by decide), if_neg (by decide), if_neg (by decide), if_neg (by decide), if_neg (by decide), if_neg (by decide), if_neg (by decide), if_neg (by decide), if_pos trivial] at e6
  obtain ⟨i6, i6', i6''⟩ := kIs_in e6
  have e6n : sg_g σ 6 n = sg_g σ 6 bd + 1 := i6
  have ho : kOrd A n = tl.take (A.2.2.2.2.2 n).length ++ (tl.drop (A.2.2.2.2.2 n).length ++ [bd]) := by
    unfold kOrd; rw [if_pos hk, hk2, ← List.append_assoc, List.take_append_drop]; rfl
  have hgs : kGs A n = tl.take (A.2.2.2.2.2 n).length := by unfold kGs; rw [hk2]; rfl
  have hcn : cnc A n = [(12, n), (1, n)] := by unfold cnc; rw [if_neg n2, if_neg n3, if_neg (by omega), if_pos hk]
  have kidr := (hW.2.2 n t2.1 t2.2).2
  have pts' := (hW.2.2 n t2.1 t2.2).1.2.2.2.1
  have en := (hW.2.2 n t2.1 t2.2).1.2.2.2.2 hk
  unfold pts at pts'
  rw [if_pos hk, hk2] at pts'
  unfold eN at en
  have cA0 : cA σ A n (A.2.2.2.2.2 n).length = cA σ A n (A.2.2.2.2.2 n).length := rfl
  obtain ⟨-, -, -, s2⟩ := hsc
  have ahg : ahd A n (A.2.2.2.2.2 n).length = [(10, n)] := by unfold ahd; rw [if_neg (fun z => n2 z.1), if_neg (fun z => n3 z.1), if_pos ⟨hk, rfl⟩]
  have ahg1 : ahd A n ((A.2.2.2.2.2 n).length + 1) = [(11, n)] := by unfold ahd; rw [if_neg (fun z => n2 z.1), if_neg (fun z => n3 z.1), if_neg (by omega), if_pos ⟨hk, by omega⟩]
  have esg : ∀ bb, esA A n (A.2.2.2.2.2 n).length es bb = gsl bb (A.2.2.2.2.2 n).length ++ es := fun bb => by unfold esA; rw [if_neg (fun z => n2 z.1), if_pos ⟨hk, rfl⟩]
  have bag : ∀ bb, bA A n (A.2.2.2.2.2 n).length bb = bb + (A.2.2.2.2.2 n).length := fun bb => by unfold bA; rw [if_neg (fun z => n2 z.1), if_pos ⟨hk, rfl⟩]
  have esg1 : ∀ ee bb, esA A n ((A.2.2.2.2.2 n).length + 1) ee bb = ee ∧ bA A n ((A.2.2.2.2.2 n).length + 1) bb = bb := fun ee bb => esA_no ⟨fun z => n2 z.1, fun z => by omega⟩ ee bb
  have cAg : ∀ bb, cA σ A n (A.2.2.2.2.2 n).length bb → sg_g σ 16 n = bb ∧ ∀ (i : Nat) (x : Int), (kGs A n)[i]? = some x → sg_g σ 34 (bb + i) = sg_g σ 6 x - 1 := fun bb z => z.2 hk rfl
  have kq : ∀ j, j < (A.2.2.2.2.2 n).length → kQ A n j := fun j hj => ⟨by unfold ahd; rw [if_neg (fun z => n2 z.1), if_neg (fun z => n3 z.1), if_neg (by omega), if_neg (by omega)], fun z => n2 z.1, fun z => by omega⟩
  rw [hk2] at w7' hf kidr en
  rw [hgs] at cAg
  rw [ho] at s2
  have hcd0 : cd A (f + 1) n = (0, n) :: (cdS A (cd A f) n 0 (tl.take (A.2.2.2.2.2 n).length) ++ (cdS A (cd A f) n (0 + (tl.take (A.2.2.2.2.2 n).length).length) (tl.drop (A.2.2.2.2.2 n).length ++ [bd]) ++ cnc A n)) := by
    simp only [cd]
    rw [ho, cdS_app, List.append_assoc]
  generalize hgl : (A.2.2.2.2.2 n).length = g at *
  simp only [List.length_cons] at w7'
  have lt : (tl.take g).length = g := by rw [List.length_take]; omega
  rw [lt, Nat.zero_add] at hcd0
  obtain ⟨b1, q1, q2⟩ := scS_app (tl.take g) (tl.drop g ++ [bd]) 0 b b' (fun j _ hj => (kq j (by rw [lt] at hj; omega)).2) s2
  rw [lt, Nat.zero_add] at q2
  rw [hcd0] at hp k
  obtain ⟨Lb, Lt, e3, fb, ft⟩ := fT_spl [bd] tl L1 hf
  rw [← List.take_append_drop g tl] at ft
  obtain ⟨La, Ld, e4, fa, fd⟩ := fT_spl _ _ Lt ft
  have hla := fT_len fa
  have hlb := fT_len fb
  rw [lt] at hla
  simp only [List.length_cons, List.length_nil] at hlb ht hv
  have e3l : L1.length = Lb.length + (La.length + Ld.length) := by rw [e3, e4, List.length_append, List.length_append]
  have ia : ∀ z, z ∈ La → z ∈ n :: L1 := fun z hz => by rw [e3, e4]; simp [hz]
  have ib : ∀ z, z ∈ Lb → z ∈ n :: L1 := fun z hz => by rw [e3, e4]; simp [hz]
  have id' : ∀ z, z ∈ Ld → z ∈ n :: L1 := fun z hz => by rw [e3, e4]; simp [hz]
  have hN := (List.nodup_cons.mp hNn).2
  have hnL := (List.nodup_cons.mp hNn).1
  have na : n ∉ La := fun z => hnL (by rw [e3, e4]; simp [z])
  have nb : n ∉ Lb := fun z => hnL (by rw [e3, e4]; simp [z])
  have nd : n ∉ Ld := fun z => hnL (by rw [e3, e4]; simp [z])
  have hNt : Lt.Nodup := List.Nodup.sublist (by rw [e3]; exact List.sublist_append_right _ _) hN
  have hNb : Lb.Nodup := List.Nodup.sublist (by rw [e3]; exact List.sublist_append_left _ _) hN
  have hNa : La.Nodup := List.Nodup.sublist (by rw [e4]; exact List.sublist_append_left _ _) hNt
  have hNd : Ld.Nodup := List.Nodup.sublist (by rw [e4]; exact List.sublist_append_right _ _) hNt
  have tb := h8.2.2.2.2.1
  have svb := h8.2.2.2.2.2.1
  have c0 := h8.2.2.2.2.2.2
  have N0 := h8.2.2.2.1
  have lob := hS.2.1
  have lo0 := hS.1
  have w200 := hW.1
  have nln : nl ≤ n := hL n (by simp)
  have rb := kidr bd (by simp)
  have bL : bd ∈ n :: L1 := ib bd (fT_sub fb bd (by simp))
  obtain ⟨rb1, rb2, rb3⟩ := rg_b hW hnl rb hg bL fb (fun z hz => hL z (ib z hz))
  have fn : fT A [n] (n :: L1) := fT_one t1 (by rw [hk2]; exact hf)
  obtain ⟨rn1, rn2, rn3⟩ := rg_b hW hnl t2 hg (by simp) fn hL
  simp only [List.length_cons] at rn2
  have rgn := hg n (by simp) (n :: L1) fn
  have rgb := hg bd bL Lb fb
  have sub_b : sg_g σ 11 n ≤ sg_g σ 11 bd ∧ sg_g σ 12 bd ≤ sg_g σ 12 n := ⟨((rgn _).mp (ib _ ((rgb _).mpr ⟨by omega, by omega⟩))).1, ((rgn _).mp (ib _ ((rgb _).mpr ⟨by omega, by omega⟩))).2⟩
  have h8b : sg_g σ 8 n = bd := pts'.2.2.1 bd (by simp)
  have l1 := scS_le (fun es x b b' => scN_le f es x b b') _ _ _ _ _ q1
  have hhb := ht_k1 hh (Or.inr hk) (show bd ∈ A.2.2.2.2.1 n by rw [hk2]; simp)
  have hha : ∀ x ∈ tl.take g, htN A f x ≤ h := fun x hx => ht_k hh (by rw [hk2]; exact List.mem_cons_of_mem _ (List.mem_of_mem_take hx))
  have hhd : ∀ x ∈ tl.drop g, htN A f x ≤ h - 1 := fun x hx => (ht_k1 hh (Or.inr hk) (by rw [hk2]; exact List.mem_cons_of_mem _ (List.mem_of_mem_drop hx))).2
  obtain ⟨h', rfl⟩ : ∃ h', h = h' + 1 := ⟨h - 1, by omega⟩
  have hm0 : (h' + 1) * (L1.length + 1) = h' * (L1.length + 1) + (L1.length + 1) := Nat.succ_mul _ _
  rw [hm0] at hv
  have hmb := Nat.mul_le_mul_left h' (show Lb.length ≤ L1.length + 1 by omega)
  have hmd := Nat.mul_le_mul_left h' (show Ld.length ≤ L1.length + 1 by omega)
  have hma := Nat.mul_le_mul_left (h' + 1) (show La.length ≤ L1.length + 1 by omega)
  rw [hm0] at hma
  have p0 := pl_c hp
  obtain ⟨p1, p2⟩ := pl_a p0.2.2.2
  refine zs_begin (lo := lo) (b := b) (e := b') (nl := nl) (dix := dix) h8 hp ⟨t2.1, c2⟩ (fun σ1 m1 hm1 h1 f1 u1 v1 => ?_)
  obtain ⟨x0, R0, hR0⟩ : ∃ x0 R0, tl.drop g ++ [bd] = x0 :: R0 := by
    cases tl.drop g with
    | nil => exact ⟨bd, [], rfl⟩
    | cons x R => exact ⟨x, R ++ [bd], rfl⟩
  rw [hR0] at q2 p2 k
  simp only [scS] at q2
  obtain ⟨qa, b2, q3, q4⟩ := q2
  obtain ⟨h16, hSD⟩ := cAg b1 qa
  rw [esg, bag] at q3
  rw [esg] at q4
  have l2 := scN_le _ _ _ _ _ q3
  have l3 := scS_le (fun es x b b' => scN_le f es x b b') _ _ _ _ _ q4
  simp only [cdS, ahg, hcn, List.cons_append, List.nil_append, List.append_assoc] at p2 k
  have kg : ∀ x ∈ tl.take g, kIn (sg_g σ 6 x) := fun x hx => by
    have := (tyk.1 x hx).1
    cases f with
    | zero => exact this.elim
    | succ f => exact this.2.2.1
  have tybd := tyk.2 bd (by simp)
  have kbd : kIn (sg_g σ 6 bd) := by
    cases f with
    | zero => exact tybd.elim
    | succ f => exact tybd.2.2.1
  have gdf : ∃ gdv, sg_g σ 14 n = gdv ∧ ((gdv = -1 ∧ x0 = bd ∧ R0 = [] ∧ Ld = []) ∨ ((0 ≤ gdv ∧ gdv < A.1) ∧ x0 = gdv ∧ R0 = [bd] ∧ fT A [gdv] Ld ∧ tl.drop g = [gdv] ∧ sg_g σ 6 gdv = 0)) := by
    rcases w7'.1 with z | z
    · have d0 : tl.drop g = [] := List.drop_of_length_le (by omega)
      rw [d0, List.nil_append] at hR0
      injection hR0 with y1 y2
      rw [d0] at fd
      exact ⟨_, rfl, Or.inl ⟨by rw [en.2.1, if_neg (by simp only [List.length_cons]; omega)], y1.symm, y2.symm, fT_nil fd⟩⟩
    · obtain ⟨gd, hd⟩ : ∃ gd, tl.drop g = [gd] := by
        have dl : (tl.drop g).length = 1 := by rw [List.length_drop]; omega
        match hh : tl.drop g with
        | [gd] => exact ⟨gd, rfl⟩
        | [] => rw [hh] at dl; simp at dl
        | _ :: _ :: _ => rw [hh] at dl; simp at dl
      have tle : tl = tl.take g ++ [gd] := by
        have := List.take_append_drop g tl
        rw [hd] at this; exact this.symm
      rw [hd] at hR0 fd
      injection hR0 with y1 y2
      refine ⟨gd, ?_, Or.inr ⟨kidr gd ?_, y1.symm, y2.symm, fd, hd, ?_⟩⟩
      · rw [en.2.1, if_pos (by simp only [List.length_cons]; omega), tle, ← List.cons_append, List.getLast?_append]
        rfl
      · rw [tle]; simp
      · simp only [List.length_map, List.length_cons, Bool.or_eq_true, decide_eq_true_eq, ne_eq] at i6''
        rcases i6'' with q | q
        · omega
        · rw [show tl.length + 1 - 1 = g + 1 by omega, List.getD_eq_getElem?_getD, List.getElem?_map, List.getElem?_cons_succ] at q
          have : tl[g]? = some gd := by rw [← List.head?_drop, hd]; rfl
          rw [this] at q
          exact q
  obtain ⟨gdv, h14, gdf⟩ := gdf
  refine bRow hnl F (tl.take g) La 0 b b1 (p + 1) fa hNa (fun z hz => hL z (ia z hz)) (gR_s hg ia) (fun x hx => (tyk.1 x hx).1) q1 (fun j _ hj => kq j (by rw [lt] at hj; omega)) hha p1 hS (by omega) σ1 m1 t sv N (c + 4) h1 (bE_u (bE_s hE ia) hS u1) (by omega) (by omega) (fun σ2 m2 hm2 h2 u2 v2 => ?_)
  rw [lt] at h2
  have u12 : bU σ8 σ2 lo b b' nl dix t sv (n :: L1) := bU_t u1 u2 ⟨by omega, by omega, by omega, by omega⟩ ⟨by omega, by omega⟩ ⟨by omega, by omega⟩ (fun z hz => by simp at hz; simp [hz]) ia
  have hE2 := bE_u hE hS u12
  have n69 : sg_g σ2 69 n = N := by rw [(u2.2.2.2.2.1 n nln na).1]; exact v1
  have S1 : bSq σ (gsl b1 g ++ es) lo (b1 + g) := ⟨lo0, by omega, fun s hs => by
    rcases List.mem_append.mp hs with z | z
    · have z' := gsl_m.mp z
      have hx : (tl.take g)[(s - b1).toNat]? = some ((tl.take g)[(s - b1).toNat]'(by omega)) := List.getElem?_eq_getElem _
      have e1 := hSD (s - b1).toNat _ hx
      rw [show b1 + (((s - b1).toNat : Nat) : Int) = s by omega] at e1
      have mm := List.mem_of_getElem? hx
      have k1 := kg _ mm
      have k2 := (tyk.1 _ mm).2
      refine ⟨⟨by omega, by omega⟩, ?_⟩
      rw [e1]
      unfold kIn at k1 ⊢
      omega
    · have := hS.2.2 s z
      exact ⟨⟨by omega, by omega⟩, this.2⟩⟩
  have hwn : ∀ (z : Int) (Lz : List Int) (bz bz' : Int), 0 ≤ z ∧ z < A.1 → z ∈ n :: L1 → fT A [z] Lz → (∀ y ∈ Lz, y ∈ n :: L1) → scN σ A dix f (gsl b1 g ++ es) z bz bz' → b1 + g ≤ bz → ∀ s, wnt σ (sg_g σ 11 z) (sg_g σ 12 z) b1 s → (0 ≤ s ∧ s < 272) ∧ kIn (sg_g σ 34 s) ∧ yV σ2 (sg_g σ 34 s).toNat (sg_g σ2 62 s) N := fun z Lz bz bz' hz hzL fz iz hsz hbz s hs => by
    obtain ⟨z1, j, z2, z3, z4⟩ := wnt_j hW hz hg hzL fz hsz (by omega) hs
    obtain ⟨j', -, -, -, -, z5⟩ := hs
    have z6 : s ∈ es := by
      rcases List.mem_append.mp z1 with q | q
      · have := gsl_m.mp q; omega
      · exact q
    have z7 := hS.2.2 s z6
    refine ⟨⟨by omega, by omega⟩, z7.2, ?_⟩
    have := hE2 j (iz j z2) z3 (by rw [z4]; exact z6)
    rw [z4] at this
    exact this
  have hbz : ∃ bz, b1 + g ≤ bz ∧ bz ≤ b' ∧ scN σ A dix f (gsl b1 g ++ es) bd bz b' := by
    rcases gdf with ⟨-, y1, y2, -⟩ | ⟨-, y1, y2, -⟩
    · subst y1; rw [y2] at q4
      simp only [scS] at q4
      subst q4
      exact ⟨b1 + g, by omega, by omega, q3⟩
    · rw [y2] at q4
      simp only [scS] at q4
      obtain ⟨-, b3, q5, q6⟩ := q4
      rw [(esg1 _ _).1, (esg1 [] b2).2] at q5
      subst q6
      have := scN_le _ _ _ _ _ q5
      exact ⟨b2, by omega, by omega, q5⟩
  have rgd : 0 ≤ gdv → (0 ≤ gdv ∧ gdv < A.1) ∧ gdv ∈ n :: L1 ∧ fT A [gdv] Ld ∧ scN σ A dix f (gsl b1 g ++ es) gdv (b1 + g) b2 := fun z => by
    rcases gdf with ⟨y, -⟩ | ⟨y1, y2, y3, y4, -⟩
    · omega
    · refine ⟨y1, id' _ (fT_sub y4 gdv (by simp)), y4, ?_⟩
      rw [← y2]; exact q3
  have hTo : hTs σ σ2 (opU σ (sg_g σ 11 bd) (sg_g σ 12 bd) gdv (sg_g σ 11 gdv) (sg_g σ 12 gdv) b1) N := fun s hs => by
    rcases hs with q | ⟨y, q⟩
    · obtain ⟨bz, z1, z2, z3⟩ := hbz
      exact hwn bd Lb bz b' rb bL fb ib z3 z1 s q
    · obtain ⟨z1, z2, z3, z4⟩ := rgd y
      exact hwn gdv Ld (b1 + g) b2 z1 z2 z3 id' z4 (Int.le_refl _) s q
  have hgd : 0 ≤ gdv → gdv < 200 ∧ sg_g σ 11 n ≤ sg_g σ 11 gdv ∧ sg_g σ 12 gdv ≤ sg_g σ 12 n := fun y => by
    obtain ⟨z1, z2, z3, z4⟩ := rgd y
    obtain ⟨r1, r2, r3⟩ := rg_b hW hnl z1 hg z2 z3 (fun z hz => hL z (id' z hz))
    have rgg := hg gdv z2 Ld z3
    exact ⟨by omega, ((rgn _).mp (id' _ ((rgg _).mpr ⟨by omega, by omega⟩))).1, ((rgn _).mp (id' _ ((rgg _).mpr ⟨by omega, by omega⟩))).2⟩
  have gx : ∀ i : Nat, (i : Int) < g → ∃ x, (tl.take g)[i]? = some x ∧ sg_g σ 6 x = (((sg_g σ 6 ((tl.take g).getD i 0) - 1).toNat + 1 : Nat) : Int) := fun i hi => by
    have hx : (tl.take g)[i]? = some ((tl.take g)[i]'(by omega)) := List.getElem?_eq_getElem _
    refine ⟨_, hx, ?_⟩
    rw [List.getD_eq_getElem?_getD, hx, Option.getD_some]
    have := (tyk.1 _ (List.mem_of_getElem? hx)).2
    omega
  refine zs_open (g := (g : Int)) (bd := b1) (gd := gdv) (plo := sg_g σ 11 n) (phi := sg_g σ 12 n) (x := bd) (b := b) (b' := b1 + g) (lo := lo) (nl := nl) (dix := dix) (dg := fun i => (sg_g σ 6 ((tl.take g).getD i 0) - 1).toNat) h2 (by omega) ⟨by omega, tb⟩ p2 ⟨t2.1, c2⟩ ⟨rb.1, by omega⟩ en.1 ⟨by omega, by omega⟩ h8b h14 hgd ⟨sub_b.1, sub_b.2, by omega, by omega⟩ h16 ⟨by omega, by omega⟩ ⟨by omega, Int.le_refl _⟩ n69 (fun i hi => ?_) ⟨by omega, by omega⟩ hTo (fun σ3 m3 W M hm3 h3 hNW hW3 hWl T3 G3 G0 I3 => ?_)
  · obtain ⟨x, hx, ex⟩ := gx i hi
    have := v2 i x hx
    rw [ex, Int.toNat_natCast] at this
    exact this
  have Wl : W.length ≤ L1.length + 1 := by
    rcases hWl with z | z
    · omega
    · rw [z]; exact Nat.zero_le _
  have W272 : ∀ z ∈ W, 0 ≤ z ∧ z < 272 := fun z hz => (hTo z ((hW3 z).mp hz)).1
  have hE3 : ∀ (z : Int) (Lz : List Int), 0 ≤ z ∧ z < A.1 → z ∈ n :: L1 → fT A [z] Lz → (∀ s, wnt σ (sg_g σ 11 z) (sg_g σ 12 z) b1 s → s ∈ W) → bE σ σ3 A Lz (gsl b1 g ++ es) M := fun z Lz hz hzL fz hzW j hj hkj hm => by
    rcases List.mem_append.mp hm with q | q
    · have q' := gsl_m.mp q
      have := G3 (sg_g σ 16 j - b1).toNat (by omega)
      obtain ⟨x, hx, ex⟩ := gx (sg_g σ 16 j - b1).toNat (by omega)
      have e1 := hSD _ x hx
      rw [show b1 + (((sg_g σ 16 j - b1).toNat : Nat) : Int) = sg_g σ 16 j by omega] at this e1
      rw [e1, ex]
      rw [show ((((sg_g σ 6 ((tl.take g).getD (sg_g σ 16 j - b1).toNat 0) - 1).toNat + 1 : Nat) : Int) - 1).toNat = (sg_g σ 6 ((tl.take g).getD (sg_g σ 16 j - b1).toNat 0) - 1).toNat by omega]
      exact this
    · have := (hS.2.2 _ q).1
      exact T3 _ (hzW _ (wnt_i (es := es) hW hz hg hzL fz hj hkj (by omega)))
  have body : ∀ (σ5 : sg_S) (m5 : Nat) (M' bz : Int) (Lz : List Int) (p5 : Int), m5 ≤ m → bP σ σ5 t (sv + W.length) M' (c + 4) p5 → bE σ σ5 A Lb (gsl b1 g ++ es) M' → bI σ2 σ5 lo b bz nl dix t sv n N M' W Lz → (∀ x ∈ Lz, x ∈ n :: L1) → b1 + g ≤ bz → scN σ A dix f (gsl b1 g ++ es) bd bz b' → pl σ p5 (cd A f bd ++ [(12, n), (1, n)]) → (∀ σ' m', m' ≤ m → bP σ σ' (t + 1) sv N c (p5 + (cd A f bd).length + 2) → bU σ8 σ' lo b b' nl dix t sv (n :: L1) → yV σ' (sg_g σ 6 n).toNat (sg_g σ' 64 t) N → Rr σ m' σ') → Rr σ m5 σ5 := fun σ5 m5 M' bz Lz p5 hm5 h5 hE5 I5 iz hbz' hsb hp5 kk => by
    obtain ⟨pa, pb⟩ := pl_a hp5
    refine F bd Lb _ _ bz b' p5 h' fb hNb (fun z hz => hL z (ib z hz)) (gR_s hg ib) tybd hsb (by omega) pa (bS_m S1 hbz') hb σ5 m5 t (sv + W.length) M' (c + 4) h5 hE5 (by omega) (by omega) (fun σ6 m6 hm6 h6 u6 v6 => ?_)
    refine zs_coll (W := W) (L := Lz ++ Lb) (σ2 := σ2) (lo := lo) (b := b) (e := b') (nl := nl) (dix := dix) (N := N) h6 ⟨by omega, tb⟩ ⟨svb, by omega⟩ N0 (by omega) pb ⟨t2.1, c2⟩ (by rw [c1, hk]; rfl) (bI_u I5 u6 nln nb ⟨by omega, by have := scN_le _ _ _ _ _ hsb; omega, Int.le_refl _⟩ (Int.le_refl _) (fun x hx => List.mem_append_left _ hx) (fun x hx => List.mem_append_right _ hx)) v6 hNW W272 (fun σ7 m7 hm7 h7 u7 v7 => ?_)
    refine kk σ7 m7 (by omega) (bP_m h7 ⟨c0, by omega⟩) (bU_t u12 u7 ⟨by omega, by omega, by omega, by omega⟩ ⟨by omega, by omega⟩ ⟨by omega, by omega⟩ (fun z hz => hz) (fun z hz => by
      rcases List.mem_cons.mp hz with q | q
      · simp [q]
      · rcases List.mem_append.mp q with q | q
        · exact iz z q
        · exact ib z q)) ?_
    unfold kIn at kbd
    rw [show (sg_g σ 6 n).toNat = (sg_g σ 6 bd).toNat + 1 by omega]
    exact v7
  have p3 := (pl_c p2).2.2.2
  have inWb : ∀ s, wnt σ (sg_g σ 11 bd) (sg_g σ 12 bd) b1 s → s ∈ W := fun s hs => (hW3 s).mpr (Or.inl hs)
  rcases gdf with ⟨y0, y1, y2, y3⟩ | ⟨y0, y1, y2, y3, y4, y5⟩
  · -- no guard
    rw [y1, y2] at p3 k
    rw [y2] at q4
    rw [y1] at q3
    simp only [scS] at q4
    subst q4
    simp only [cdS, List.nil_append] at p3 k
    refine body σ3 m3 M (b1 + g) [] _ (by omega) h3 (hE3 bd Lb rb bL fb inWb) I3 (by simp) (Int.le_refl _) q3 p3 (fun σ' m' hm' hP hU hV => k σ' m' hm' ?_ hU hV)
    simp only [List.length_cons, List.length_append, List.length_nil]
    rw [show p + (((cdS A (cd A f) n 0 (tl.take g)).length + ((cd A f bd).length + (0 + 1 + 1) + 1) + 1 : Nat) : Int) = p + 1 + (cdS A (cd A f) n 0 (tl.take g)).length + 1 + (cd A f bd).length + 2 by omega]
    exact hP
  · -- a guard
    rw [y1, y2] at p3 k
    rw [y2] at q4
    rw [y1] at q3
    simp only [scS] at q4
    obtain ⟨-, b3, q5, q6⟩ := q4
    rw [(esg1 _ _).1, (esg1 [] b2).2] at q5
    subst q6
    simp only [cdS, ahg1, List.append_nil, List.cons_append, List.nil_append, List.append_assoc] at p3 k
    obtain ⟨p4, p5⟩ := pl_a p3
    have p6 := pl_c p5
    have gL := id' gdv (fT_sub y3 gdv (by simp))
    have inWd : ∀ s, wnt σ (sg_g σ 11 gdv) (sg_g σ 12 gdv) b1 s → s ∈ W := fun s hs => (hW3 s).mpr (Or.inr ⟨y0.1, hs⟩)
    have tygd := tyk.2 gdv (by rw [y4]; simp)
    refine F gdv Ld _ _ (b1 + g) b2 _ h' y3 hNd (fun z hz => hL z (id' z hz)) (gR_s hg id') tygd q3 (by have := hhd gdv (by rw [y4]; simp); omega) p4 S1 (by omega) σ3 m3 t (sv + W.length) M (c + 4) h3 (hE3 gdv Ld y0 gL y3 inWd) (by omega) (by omega) (fun σ4 m4 hm4 h4 u4 v4 => ?_)
    have I4 : bI σ2 σ4 lo b b2 nl dix t sv n N M W Ld := bI_u I3 u4 nln nd ⟨by omega, by omega, Int.le_refl _⟩ (Int.le_refl _) (by simp) (fun x hx => hx)
    have hE4 : bE σ σ4 A Lb (gsl b1 g ++ es) M := bE_u (hE3 bd Lb rb bL fb inWb) S1 u4
    have hT4 : hTs σ σ4 (wnt σ (sg_g σ 11 bd) (sg_g σ 12 bd) (b1 + g)) M := fun s hs => by
      obtain ⟨z1, j, z2, z3, z4⟩ := wnt_j hW rb hg bL fb q5 (by omega) hs
      have z7 := S1.2.2 s z1
      refine ⟨⟨by omega, by omega⟩, z7.2, ?_⟩
      have := hE4 j z2 z3 (by rw [z4]; exact z1)
      rw [z4] at this
      exact this
    obtain ⟨j1, j2, j3, j4, j5, j6, j7, ⟨j8, j9⟩, j10, j11, j12⟩ := id I4
    have ch4 : yRw σ4 (sg_g σ4 64 t) M := yV_r v4
    have G4 : yV σ4 ((sg_g σ 6 ((tl.take g).getD 0 0) - 1).toNat + 1) (sg_g σ4 70 n) N := by
      rw [(u4.2.2.2.2.1 n nln nd).2.1]
      exact yV_up u4.1 G0
    refine zs_sift (x := bd) (bd := b1) (g := (g : Int)) (M := M) (N := N) h4 (by omega) ⟨by omega, tb⟩ p5 ⟨t2.1, c2⟩ ⟨rb.1, by omega⟩ h8b rb1 h16 en.1 ⟨by omega, by omega, by omega⟩ j8 N0 G4 j12 ch4 hT4 (fun σ5 m5 W' M' hm5 h5 hW5 T5 O5 e45 r5 r70 G5 L5 S5 => ?_)
    have hE5 : bE σ σ5 A Lb (gsl b1 g ++ es) M' := fun j hj hkj hm => T5 _ ((hW5 _).mpr (wnt_i (es := es) hW rb hg bL fb hj hkj (S1.2.2 _ hm).1.2))
    have I5 : bI σ2 σ5 lo b b2 nl dix t sv n N M' W Ld := by
      refine ⟨yEx_t j1 e45, fun i hi => by rw [(r5 i).1, j2 i hi], fun s x y z => ?_, fun i hi => ?_, fun x q r => ?_, fun q hq => by rw [(r5 q).2.1, j6 q hq], fun i x hx => ?_, ⟨by rw [(r5 n).2.2.1]; exact j8, by rw [(r5 n).2.2.2.1]; exact j9⟩, G5, L5, S5⟩
      · rw [O5 s (fun q => ?_), j3 s x y z]
        have hs := (hW5 s).mp q
        obtain ⟨z1, j, z2, z3, z4⟩ := wnt_j hW rb hg bL fb q5 (by omega) hs
        rcases List.mem_append.mp z1 with e | e
        · have := gsl_m.mp e
          omega
        · have := (hS.2.2 _ e).1
          have w := wnt_i (es := es) (bd := b1) hW rb hg bL fb z2 z3 (by omega)
          rw [z4] at w
          exact y (inWb s w)
      · rw [(r5 i).2.2.2.2.1, (r5 i).2.2.2.2.2]; exact j4 i hi
      · have xn : ¬ x = n := fun z => r (by simp [z])
        rw [(r5 x).2.2.1, r70 x xn, (r5 x).2.2.2.1]; exact j5 x q r
      · rw [(r5 (sv + i)).2.2.2.2.1, (r5 (sv + i)).2.2.2.2.2]; exact j7 i x hx
    refine body σ5 m5 M' b2 Ld _ (by omega) h5 hE5 I5 id' (by omega) q5 p6.2.2.2 (fun σ' m' hm' hP hU hV => k σ' m' hm' ?_ hU hV)
    simp only [List.length_cons, List.length_append, List.length_nil]
    rw [show p + (((cdS A (cd A f) n 0 (tl.take g)).length + ((cd A f gdv).length + ((cd A f bd).length + (0 + 1 + 1) + 1) + 1) + 1 : Nat) : Int) = p + 1 + (cdS A (cd A f) n 0 (tl.take g)).length + 1 + (cd A f gdv).length + 1 + (cd A f bd).length + 2 by omega]
    exact hP
end BEC
/-! BIG STEPS: all nodes, all DEFS. -/
section BAL
variable {σ : sg_S} {A : aT} {ds : kD} {B : Int → Int} {lo nl dix : Int}
theorem bN_all {H : Int → Int} (hD : dD σ H lo nl dix) (hW : ckW σ A) (hnl : 0 ≤ nl) : ∀ f, bN σ A ds B lo nl dix f
  | 0 => fun n L es sc b b' p h hf hN hL hg hty => hty.elim
  | f + 1 => fun n L es sc b b' p h hf hN hL hg hty hsc hh hp hS hb σ8 m t sv N c h8 hE ht hv k => by
    obtain ⟨L1, L2, e1, w1, w2, w3⟩ := fT_inv hf
    have e2 := fT_nil w3
    subst e2
    rw [List.append_nil] at e1
    subst e1
    have F := bN_all hD hW hnl f
    have hN1 := (List.nodup_cons.mp hN).2
    have r := w1.1
    by_cases c2 : A.2.1 n = 2
    · exact bN_let hW hnl F c2 w2 hN1 hL hg hty hsc hh hp hS hb h8 hE ht hv k
    by_cases c3 : A.2.1 n = 3
    · exact bN_if hW hnl F c3 w2 hN hL hg hty hsc hh hp hS hb h8 hE ht hv k
    by_cases c13 : A.2.1 n = 13
    · exact bN_call hD hW hnl F c13 w2 hN1 hL hg hty hsc hh hp hS hb h8 hE ht hv k
    by_cases c15 : A.2.1 n = 15
    · exact bN_each hW hnl F c15 w2 hN hL hg hty hsc hh hp hS hb h8 hE ht hv k
    exact bN_op hW hnl F (by omega) w2 hN1 hL hg hty hsc hh hp hS hb h8 hE ht hv k
/-- LEAVE -/
theorem zs_leave {σ8 : sg_S} {m : Nat} {t sv N c p q r : Int} {C : List (Int × Int)} (h : bP σ σ8 t sv N c p) (hp : pl σ p ((6, q) :: C)) (hq : 0 ≤ q ∧ q < 13) (h63 : sg_g σ8 63 q = r) (kk : ∀ σ' m', m' ≤ m → bP σ σ' t sv N c r → sg_F [9061] σ8 σ' → Rr σ m' σ') : Rr σ m σ8 := by
  cases m with
  | zero => exact True.intro
  | succ m =>
    obtain ⟨p0, p1, p2, p3⟩ := pl_c hp
    refine rr_6 (p := p) (k := q) h.2.2.1.2.2.2 p0 p1 p2 (fun σ32 e32 σ95 e95 => ?_)
    obtain ⟨h32, f32⟩ := bP_32 h ⟨p0.2, p0.1⟩ e32
    rw [xa_in (a := 63) hq, h63] at e95
    have f95 : sg_F [9061] σ32 σ95 := by rw [e95]; exact sg_F_w (sg_F_r _ _) rfl _
    have hr : sg_R r := by rw [← h63]; exact sg_Rg _ _ _
    obtain ⟨a1, a2, ⟨a3, a4, a5, a6⟩, a7⟩ := h32
    refine kk σ95 m (by omega) ⟨sg_F_t a1 (sg_F_m f95 rfl), mC_F a2 f95 rfl, ⟨by rw [sg_F_g f95 (by rfl)]; exact a3, by rw [sg_F_g f95 (by rfl)]; exact a4, by rw [sg_F_g f95 (by rfl)]; exact a5, ?_⟩, a7⟩ (sg_F_t (sg_F_m f32 rfl) (sg_F_m f95 rfl))
    rw [e95, sg_gw_e _ _ _ _ hr]
/-- what is known of a DEF (or of the PROGRAM's EXPR) with root r, first slot fs, k PARAMS, entry E, number q -/
def dI (σ : sg_S) (A : aT) (H : Int → Int) (cl q r fs k : Int) : Prop := ∃ (L : List Int) (ds : kD) (B : Int → Int) (sc : List (Int × Int)), (0 ≤ r ∧ r < A.1) ∧ fT A [r] L ∧ L.Nodup ∧ gRq σ A L ∧ tyN A ds (sg_g σ 6) B 201 sc r ∧ scN σ A cl 201 (gsl fs k.toNat) r (fs + k) (H q) ∧ htN A 201 r ≤ 12 ∧ pl σ (sg_g σ 31 q) (cd A 201 r ++ [(6, q)]) ∧ (0 ≤ k ∧ k ≤ 6) ∧ 0 ≤ fs ∧ H q ≤ 272 ∧ ∀ i : Nat, (i : Int) < k → sg_g σ 34 (fs + i) = sg_g σ 27 (6 * q + i) ∧ kIn (sg_g σ 34 (fs + i))
/-- a body from its entry to behind its LEAVE -/
theorem dI_run {H : Int → Int} {cl q r fs k : Int} (hW : ckW σ A) (hq : 0 ≤ q ∧ q < 13) (hcl : cl ≤ q) (h : dI σ A H cl q r fs k) (hD : dD σ H fs (sg_g σ 11 r) cl) {σ8 : sg_S} {m : Nat} {t sv N c rt : Int} (h8 : bP σ σ8 t sv N c (sg_g σ 31 q)) (h63 : sg_g σ8 63 q = rt) (hv : ∀ i : Nat, (i : Int) < k → yV σ8 (sg_g σ 27 (6 * q + i)).toNat (sg_g σ8 62 (fs + i)) N) (ht : t + (sg_g σ 12 r + 1) ≤ 400) (hs : sv + 12 * (sg_g σ 12 r + 1) ≤ 2400) (kk : ∀ σ' m', m' ≤ m → bP σ σ' (t + 1) sv N c rt → bU σ8 σ' (H q) 0 0 (sg_g σ 12 r + 1) q t sv [] → yV σ' (sg_g σ 6 r).toNat (sg_g σ' 64 t) N → Rr σ m' σ') : Rr σ m σ8 := by
  obtain ⟨L, ds, B, sc, hr, f1, f2, f3, f4, f5, f6, f7, f8, f9, f10, f11⟩ := h
  have rr := f3 r (fT_sub f1 r (by simp)) L f1
  have r0 := (rr r).mp (fT_sub f1 r (by simp))
  have lw := (rr (sg_g σ 11 r)).mpr ⟨by omega, by omega⟩
  have inr := fT_inq (fun k a b => (hW.2.2 k a b).2) f1 (by intro y hy; simp at hy; rw [hy]; exact hr)
  have l0 := (inr _ lw).1
  have hL : ∀ x ∈ L, sg_g σ 11 r ≤ x := fun x hx => ((rr x).mp hx).1
  have hl : (L.length : Int) ≤ sg_g σ 12 r - sg_g σ 11 r + 1 := by
    rcases wit_len (f := id) (a := sg_g σ 11 r) (b := sg_g σ 12 r) f2 (fun x hx => ⟨x, ((rr x).mp hx).1, ((rr x).mp hx).2, rfl⟩) with z | z
    · exact z
    · rw [z]; simp only [List.length_nil]; omega
  obtain ⟨p1, p2⟩ := pl_a f7
  have bb := scN_le _ _ _ _ _ f5
  have S : bSq σ (gsl fs k.toNat) fs (fs + k) := ⟨f9, by omega, fun s hs => by
    have z := gsl_m.mp hs
    have := (f11 (s - fs).toNat (by omega)).2
    rw [show fs + (((s - fs).toNat : Nat) : Int) = s by omega] at this
    exact ⟨⟨by omega, by omega⟩, this⟩⟩
  have hE : bE σ σ8 A L (gsl fs k.toNat) N := fun j hj hk hm => by
    have z := gsl_m.mp hm
    have e := (f11 (sg_g σ 16 j - fs).toNat (by omega)).1
    have v := hv (sg_g σ 16 j - fs).toNat (by omega)
    rw [show fs + (((sg_g σ 16 j - fs).toNat : Nat) : Int) = sg_g σ 16 j by omega] at e v
    rw [e]; exact v
  have h12 : ((12 * L.length : Nat) : Int) = 12 * (L.length : Int) := by omega
  refine bN_all (ds := ds) (B := B) hD hW l0 201 r L (gsl fs k.toNat) sc (fs + k) (H q) (sg_g σ 31 q) 12 f1 f2 hL f3 f4 f5 f6 p1 S f10 σ8 m t sv N c h8 hE (by omega) (by omega) (fun σ1 m1 hm1 h1 u1 v1 => ?_)
  refine zs_leave (r := rt) h1 p2 hq (by rw [u1.2.2.2.2.2 q hcl]; exact h63) (fun σ2 m2 hm2 h2 g2 => ?_)
  refine kk σ2 m2 (by omega) h2 ?_ (by rw [sg_F_ga g2 rfl]; exact yV_up (yEx_F g2 rfl) v1)
  have u2 : bU σ8 σ1 (H q) 0 0 (sg_g σ 12 r + 1) q t sv [] := bU_w u1 ⟨by omega, by omega, hcl⟩ (fun s x y z => by omega) (Int.le_refl _) (Int.le_refl _) (fun x hx hy => by have := ((rr x).mp hx).2; omega)
  have u3 : bU σ1 σ2 (H q) 0 0 (sg_g σ 12 r + 1) q t sv [] := bU_F g2 rfl
  exact bU_t u2 u3 ⟨Int.le_refl _, Int.le_refl _, Int.le_refl _, Int.le_refl _⟩ ⟨Int.le_refl _, Int.le_refl _⟩ ⟨Int.le_refl _, Int.le_refl _⟩ (fun x hx => hx) (fun x hx => hx)
/-- all DEFS below M -/
def dA (σ : sg_S) (A : aT) (H : Int → Int) (M : Int) : Prop := M ≤ 12 ∧ ∀ q, 0 ≤ q → q < M → dI σ A H q q (sg_g σ 22 q) (sg_g σ 24 q) (sg_g σ 23 q) ∧ ∀ q', 0 ≤ q' → q' < q → H q' ≤ sg_g σ 24 q ∧ nxq σ q' ≤ sg_g σ 11 (sg_g σ 22 q)
theorem cL_all {H : Int → Int} {M : Int} (hW : ckW σ A) (h : dA σ A H M) : ∀ (j : Nat) (q : Int), q.toNat = j → 0 ≤ q → q < M → cLq σ H q := by
  intro j
  induction j using Nat.strongRecOn with
  | ind j ih =>
    intro q hj h0 hM σ8 m t sv N c r h8 h63 hv ht hs kk
    obtain ⟨d1, d2⟩ := h.2 q h0 hM
    have hD : dD σ H (sg_g σ 24 q) (sg_g σ 11 (sg_g σ 22 q)) q := fun q' a b => by
      obtain ⟨e1, e2⟩ := d2 q' a b
      obtain ⟨L, ds, B, sc, hr, f1, f2, f3, f4, f5, f6, f7, f8, f9, f10, f11⟩ := (h.2 q' a (by omega)).1
      have bb := scN_le _ _ _ _ _ f5
      exact ⟨by have := h.1; omega, ih q'.toNat (by omega) q' rfl a (by omega), e1, e2, f8, ⟨f9, bb⟩, f10⟩
    exact dI_run hW ⟨h0, by have := h.1; omega⟩ (Int.le_refl _) d1 hD h8 h63 hv ht hs kk
theorem dD_all {H : Int → Int} {M lo nl : Int} (hW : ckW σ A) (h : dA σ A H M) (hl : ∀ q, 0 ≤ q → q < M → H q ≤ lo ∧ nxq σ q ≤ nl) : dD σ H lo nl M := fun q a b => by
  obtain ⟨L, ds, B, sc, hr, f1, f2, f3, f4, f5, f6, f7, f8, f9, f10, f11⟩ := (h.2 q a b).1
  have bb := scN_le _ _ _ _ _ f5
  exact ⟨by have := h.1; omega, cL_all hW h q.toNat q rfl a b, (hl q a b).1, (hl q a b).2, f8, ⟨f9, bb⟩, f10⟩
end BAL
/-! THE FLAT RUN of the class, whole. -/
theorem f_run {σ : sg_S} {A : aT} {H : Int → Int} {M r fs a1 : Int} {Q : Int → sg_S → Prop} (hW : ckW σ A) (h : dA σ A H M) (hP : dI σ A H M 12 r fs 0) (hl : ∀ q, 0 ≤ q → q < M → H q ≤ fs ∧ nxq σ q ≤ sg_g σ 11 r) (kc : ∀ σ8, sg_F bRL σ σ8 → V_fConcl σ8 a1 (fun σ23 => sg_F [61, 65, 66, 67, 68] σ8 σ23 → Q (sg_g σ23 61 10) σ23)) : V_mRun σ a1 Q := by
  unfold V_mRun V_mStart
  intro σ1 e1 σ4 e4
  unfold V_fPrepare V_lClear V_lReset
  intro s1 f1 s2 f2 s3 f3 s4 f4 s5 f5 s6 f6 s7 f7 s8 f8 s9 f9 _ _ s10 f10 s11 f11 s12 f12 _ s13 f13 s14 f14 FF
  rw [xp_in ⟨by decide, by decide⟩] at f13
  rw [xa_in (a := 31) (n := 13) (k := 12) ⟨by decide, by decide⟩] at f14
  have z0 : sg_n 0 = 0 := sg_id ⟨by decide, by decide⟩
  have z1 : sg_n 1 = 1 := sg_id ⟨by decide, by decide⟩
  have zm : sg_n (-1) = -1 := sg_id ⟨by decide, by decide⟩
  have zE : sg_n (sg_g σ 31 12) = sg_g σ 31 12 := sg_id (sg_Rg _ _ _)
  have a7 : sg_g s14 61 7 = 0 := by rw [f14, f13, f12, f11, f10, f9, f8, f7, f6, f5, f4, f3, f2, f1, e4, e1]; simp [sg_gw, z0]
  have a10 : sg_g s14 61 10 = 0 := by rw [f14, f13, f12, f11, f10, f9, f8, f7, f6, f5, f4, f3, f2, f1, e4]; simp [sg_gw, z0]
  have a22 : sg_g s14 61 22 = 0 := by rw [f14, f13, f12, f11, f10]; simp [sg_gw, z0]
  have a23 : sg_g s14 61 23 = 1 := by rw [f14, f13, f12, f11]; simp [sg_gw, z1]
  have a8 : sg_g s14 61 8 = sg_g σ 31 12 := by rw [f14]; simp [sg_gw, zE]
  have a63 : sg_g s14 63 12 = -1 := by rw [f14, f13]; simp [sg_gw, zm]
  have b10 : sg_g s14 77 10 = 0 := by rw [f14, f13, f12, f11, f10, f9, f8, f7, f6, f5, f4, f3, f2, f1]; simp [sg_gw, z0]
  have b16 : sg_g s14 77 16 = 0 := by rw [f14, f13, f12, f11, f10, f9, f8, f7, f6, f5, f4, f3, f2]; simp [sg_gw, z0]
  have b17 : sg_g s14 77 17 = 0 := by rw [f14, f13, f12, f11, f10, f9, f8, f7, f6, f5, f4, f3]; simp [sg_gw, z0]
  have b11 : sg_g s14 77 11 = 0 := by rw [f14, f13, f12, f11, f10, f9, f8, f7, f6, f5]; simp [sg_gw, z0]
  have b12 : sg_g s14 77 12 = 0 := by rw [f14, f13, f12, f11, f10, f9, f8, f7, f6]; simp [sg_gw, z0]
  have b13 : sg_g s14 77 13 = 0 := by rw [f14, f13, f12, f11, f10, f9, f8, f7]; simp [sg_gw, z0]
  have b14 : sg_g s14 77 14 = 0 := by rw [f14, f13, f12, f11, f10, f9, f8]; simp [sg_gw, z0]
  have b15 : sg_g s14 77 15 = 0 := by rw [f14, f13, f12, f11, f10, f9]; simp [sg_gw, z0]
  have hB : bP σ s14 0 0 1 0 (sg_g σ 31 12) := ⟨sg_F_m FF rfl, ⟨⟨⟨by omega, by omega⟩, ⟨by omega, by omega⟩, fun v a b => by omega, fun v v' a b => by omega⟩, ⟨b11, b12, b13, b14, b15⟩, a10, by omega, by omega⟩, ⟨a7, a22, a23, a8⟩, ⟨by decide, by decide⟩, by decide, by decide, by decide⟩
  have hM := h.1
  have hD : dD σ H fs (sg_g σ 11 r) M := dD_all hW h hl
  obtain ⟨L, ds, B, sc, hr, g1, g2, g3, g4, g5, g6, g7, g8, g9, g10, g11⟩ := id hP
  have rr := g3 r (fT_sub g1 r (by simp)) L g1
  have r0 := (rr r).mp (fT_sub g1 r (by simp))
  have up := (rr (sg_g σ 12 r)).mpr ⟨by omega, by omega⟩
  have inr := fT_inq (fun k a b => (hW.2.2 k a b).2) g1 (by intro y hy; simp at hy; rw [hy]; exact hr)
  have u0 := (inr _ up).2
  have w200 := hW.1
  have R : ∀ m, Rr σ m s14 := fun m => dI_run hW ⟨by decide, by decide⟩ hM hP hD hB a63 (fun i hi => by omega) (by omega) (by omega) (fun σ' m' _ h1 _ _ => by
    cases m' with
    | zero => exact True.intro
    | succ m' => intro z _; rw [h1.2.2.1.2.2.2] at z; omega)
  refine ⟨fun n v σ8 => v = 100000 - (n : Int) ∧ Rr σ n σ8, fun _ => True, ⟨100000, rfl, R 100000⟩, ?_, ?_⟩
  · rintro n v σ8 rv f8' ⟨hv, hR⟩
    refine ⟨fun _ => True.intro, fun q => ⟨fun _ => True.intro, fun q2 => ⟨fun _ => True.intro, fun q3 => ?_⟩⟩⟩
    cases n with
    | zero => omega
    | succ n =>
      obtain ⟨y1, y2⟩ := hR q2 q3
      refine ⟨y1, fun σ32 e32 => ⟨Rr σ n, y2 σ32 e32, fun σ36 _ h36 => ⟨⟨by omega, by omega⟩, n, by omega, by omega, h36⟩⟩⟩
  · intro σ8 f8' _
    exact kc σ8 (sg_F_t (sg_F_m FF rfl) (sg_F_m f8' rfl))
