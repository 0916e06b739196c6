/-! BIG STEPS of the class's flat run, exactly: { }. -/
section DBA
variable {σ : sg_S} {A : aT} {D : List aDf} {vb : Int → Prop} {X : sg_S → Prop} {B : Int → Int} {lev : Int → Nat} {O : Int → Nat → List Int} {call : Int → Nat → fEv → fSt → fRs} {j : Nat} {nl dix : Int} {f : Nat}
theorem yN_each (hW : ckW σ A) (hSl : slA σ vb) (hVb : ∀ b, vbF A D b → vb b) (hO : okO A B O) (hOs : ∀ n st, ((O n st).map (slF σ)).Pairwise (· < ·)) (hnl : 0 ≤ nl) (hP : fPu A D (sg_g σ 6) B lev O call j f) (F : yN σ A D vb X B lev O call j nl dix f) {n : Int} {L1 es : List Int} {sc : List (Int × Int)} {b b' p : Int} {h : Nat} (hk : A.2.1 n = 15) (hf : fT A (A.2.2.2.2.1 n) L1) (hst : stN A D (sg_g σ 6) B lev j (f + 1) (n :: L1) sc n) (hL : ∀ x ∈ n :: L1, nl ≤ x ∧ lyQ σ A D B dix x) (hg : gRq σ A (n :: L1)) (hsc : scN σ A dix (f + 1) es n b b') (hsl : slQ σ sc b) (hh : htN A (f + 1) n ≤ h) (hp : pl σ p (cd A (f + 1) n)) (hb : b' ≤ 272) {σ8 : sg_S} {m : Nat} {ρ : fEv} {t sv c cr : Int} {N : Nat} {s : fSt} (h8 : bP σ σ8 t sv N c p) (h9 : ctX σ8 s) (hS : scY σ A D vb σ8 ρ N sc) (ht : t + (n :: L1).length + nl ≤ 400) (hv : sv + ((h * (n :: L1).length : Nat) : Int) + 12 * nl ≤ 2400) (hm : 6 * (2001 - s.1) + cr ≤ (m : Int)) (hcr : 0 ≤ cr) (k : kY σ A D vb lev j X σ8 ρ t sv c (p + (cd A (f + 1) n).length) cr nl dix (n :: L1) N (sg_g σ 6 n).toNat (fxN A D (sg_g σ 6) B O call (f + 1) n N ρ s)) : Ry σ X m σ8 := by
  have hA := hW.1.2
  obtain ⟨hty, -, hNn, hlv, hsco⟩ := id hst
  obtain ⟨t1, t2, t3, t4, t5, t6, t7, t8, t9⟩ := hty
  obtain ⟨c1, c2⟩ := ck3 hW t2
  obtain ⟨w1, w2, w3, w4, w5, w6, w7, w8⟩ := id t1
  have n1 : ¬ A.2.1 n = 1 := by omega
  have n13 : ¬ A.2.1 n = 13 := by omega
  have n2 : ¬ A.2.1 n = 2 := by omega
  have n3 : ¬ A.2.1 n = 3 := by omega
  have w7' := w7 hk
  have w8' := w8.2 hk
  obtain ⟨bd, tl, hk2⟩ : ∃ bd tl, A.2.2.2.2.1 n = bd :: tl := by
    match hh : A.2.2.2.2.1 n with
    | bd :: tl => exact ⟨bd, tl, rfl⟩
    | [] => rw [hh] at w7'; simp only [List.length_nil] at w7'; omega
  have tyk := t8 hk bd tl hk2
  have sb0 := fun z hz => stN_b0 (z := z) hA hO hst hk hk2 hz
  have sge := (stN_e hA hst hk hk2).1
  have sb1 := fun (L' Lt' : List Int) (sc' : List (Int × Int)) ht' h' => stN_b1 (O := O) (L' := L') (Lt := Lt') (sc := sc') (f := f) (j := j) (lev := lev) (D := D) (T := sg_g σ 6) hO hk hk2 ht' h'
  have oO := fun (Lb' Lt' : List Int) h1 h2 => (hO n).2.2 hk bd tl Lb' Lt' hk2 h1 h2
  obtain ⟨-, -, -, -, -, -, -, -, -, oz⟩ := ea_out hA hO hst hk hk2
  have btg : ∀ (i : Nat) (u : Int), i < 4 → tl[i]? = some u → bTy A D (sg_g σ 6) (210 + 4 * n + i) = sg_g σ 6 u - 1 := fun i u hi hu => by
    rw [bTw_g (by omega) hi, hk2, Nat.add_comm 1 i, List.getD_cons_succ, List.getD_eq_getElem?_getD, hu]; rfl
  simp only [fxN] at k
  have e6 := t5 (by omega)
  unfold kTy at e6
  rw [hk2] at e6
  simp only [hk] at e6
  rw [if_neg (by decide), if_neg (by decide), if_neg (by decide), if_neg (by decide), if_neg (by decide), if_neg (by decide), if_neg (by decide), if_neg (by decide), if_neg (by decide), if_pos trivial] at e6
  obtain ⟨i6, i6', i6''⟩ := kIs_in e6
  have e6n : sg_g σ 6 n = sg_g σ 6 bd + 1 := i6
  have ho : kOrd A n = tl.take (A.2.2.2.2.2 n).length ++ (tl.drop (A.2.2.2.2.2 n).length ++ [bd]) := by
    unfold kOrd; rw [if_pos hk, hk2, ← List.append_assoc, List.take_append_drop]; rfl
  have hgs : kGs A n = tl.take (A.2.2.2.2.2 n).length := by unfold kGs; rw [hk2]; rfl
  have hcn : cnc A n = [(12, n), (1, n)] := by unfold cnc; rw [if_neg n2, if_neg n3, if_neg (by omega), if_pos hk]
  have kidr := (hW.2.2 n t2.1 t2.2).2
  have pts' := (hW.2.2 n t2.1 t2.2).1.2.2.2.1
  have en := (hW.2.2 n t2.1 t2.2).1.2.2.2.2 hk
  unfold pts at pts'
  rw [if_pos hk, hk2] at pts'
  unfold eN at en
  have cA0 : cA σ A n (A.2.2.2.2.2 n).length = cA σ A n (A.2.2.2.2.2 n).length := rfl
  obtain ⟨-, -, -, s2⟩ := hsc
  have ahg : ahd A n (A.2.2.2.2.2 n).length = [(10, n)] := by unfold ahd; rw [if_neg (fun z => n2 z.1), if_neg (fun z => n3 z.1), if_pos ⟨hk, rfl⟩]
  have ahg1 : ahd A n ((A.2.2.2.2.2 n).length + 1) = [(11, n)] := by unfold ahd; rw [if_neg (fun z => n2 z.1), if_neg (fun z => n3 z.1), if_neg (by omega), if_pos ⟨hk, by omega⟩]
  have esg : ∀ bb, esA A n (A.2.2.2.2.2 n).length es bb = gsl bb (A.2.2.2.2.2 n).length ++ es := fun bb => by unfold esA; rw [if_neg (fun z => n2 z.1), if_pos ⟨hk, rfl⟩]
  have bag : ∀ bb, bA A n (A.2.2.2.2.2 n).length bb = bb + (A.2.2.2.2.2 n).length := fun bb => by unfold bA; rw [if_neg (fun z => n2 z.1), if_pos ⟨hk, rfl⟩]
  have esg1 : ∀ ee bb, esA A n ((A.2.2.2.2.2 n).length + 1) ee bb = ee ∧ bA A n ((A.2.2.2.2.2 n).length + 1) bb = bb := fun ee bb => esA_no ⟨fun z => n2 z.1, fun z => by omega⟩ ee bb
  have cAg : ∀ bb, cA σ A n (A.2.2.2.2.2 n).length bb → sg_g σ 16 n = bb ∧ ∀ (i : Nat) (x : Int), (kGs A n)[i]? = some x → sg_g σ 34 (bb + i) = sg_g σ 6 x - 1 := fun bb z => z.2 hk rfl
  have kq : ∀ j, j < (A.2.2.2.2.2 n).length → kQ A n j := fun j hj => ⟨by unfold ahd; rw [if_neg (fun z => n2 z.1), if_neg (fun z => n3 z.1), if_neg (by omega), if_neg (by omega)], fun z => n2 z.1, fun z => by omega⟩
  rw [hk2] at w7' hf kidr en
  rw [hgs] at cAg
  rw [ho] at s2
  have hcd0 : cd A (f + 1) n = (0, n) :: (cdS A (cd A f) n 0 (tl.take (A.2.2.2.2.2 n).length) ++ (cdS A (cd A f) n (0 + (tl.take (A.2.2.2.2.2 n).length).length) (tl.drop (A.2.2.2.2.2 n).length ++ [bd]) ++ cnc A n)) := by
    simp only [cd]
    rw [ho, cdS_app, List.append_assoc]
  generalize hgl : (A.2.2.2.2.2 n).length = g at *
  simp only [List.length_cons] at w7'
  have lt : (tl.take g).length = g := by rw [List.length_take]; omega
  rw [lt, Nat.zero_add] at hcd0
  obtain ⟨b1, q1, q2⟩ := scS_app (tl.take g) (tl.drop g ++ [bd]) 0 b b' (fun j _ hj => (kq j (by rw [lt] at hj; omega)).2) s2
  rw [lt, Nat.zero_add] at q2
  rw [hcd0] at hp k
  obtain ⟨Lb, Lt, e3, fb, ft⟩ := fT_spl [bd] tl L1 hf
  rw [← List.take_append_drop g tl] at ft
  obtain ⟨La, Ld, e4, fa, fd⟩ := fT_spl _ _ Lt ft
  have hla := fT_len fa
  have hlb := fT_len fb
  rw [lt] at hla
  simp only [List.length_cons, List.length_nil] at hlb ht hv
  have e3l : L1.length = Lb.length + (La.length + Ld.length) := by rw [e3, e4, List.length_append, List.length_append]
  have ia : ∀ z, z ∈ La → z ∈ n :: L1 := fun z hz => by rw [e3, e4]; simp [hz]
  have ib : ∀ z, z ∈ Lb → z ∈ n :: L1 := fun z hz => by rw [e3, e4]; simp [hz]
  have id' : ∀ z, z ∈ Ld → z ∈ n :: L1 := fun z hz => by rw [e3, e4]; simp [hz]
  have hN := (List.nodup_cons.mp hNn).2
  have hnL := (List.nodup_cons.mp hNn).1
  have na : n ∉ La := fun z => hnL (by rw [e3, e4]; simp [z])
  have nb : n ∉ Lb := fun z => hnL (by rw [e3, e4]; simp [z])
  have nd : n ∉ Ld := fun z => hnL (by rw [e3, e4]; simp [z])
  have hNt : Lt.Nodup := List.Nodup.sublist (by rw [e3]; exact List.sublist_append_right _ _) hN
  have hNb : Lb.Nodup := List.Nodup.sublist (by rw [e3]; exact List.sublist_append_left _ _) hN
  have hNa : La.Nodup := List.Nodup.sublist (by rw [e4]; exact List.sublist_append_left _ _) hNt
  have hNd : Ld.Nodup := List.Nodup.sublist (by rw [e4]; exact List.sublist_append_right _ _) hNt
  have tb := h8.2.2.2.2.1
  have svb := h8.2.2.2.2.2.1
  have c0 := h8.2.2.2.2.2.2
  have N0 := h8.2.2.2.1
  have sb := h9.2.2.2.1
  have w200 := hW.1
  have nln : nl ≤ n := (hL n (by simp)).1
  have rb := kidr bd (by simp)
  have bL : bd ∈ n :: L1 := ib bd (fT_sub fb bd (by simp))
  obtain ⟨rb1, rb2, rb3⟩ := rg_b hW hnl rb hg bL fb (fun z hz => (hL z (ib z hz)).1)
  have fn : fT A [n] (n :: L1) := fT_one t1 (by rw [hk2]; exact hf)
  obtain ⟨rn1, rn2, rn3⟩ := rg_b hW hnl t2 hg (by simp) fn (fun z hz => (hL z hz).1)
  simp only [List.length_cons] at rn2
  have rgn := hg n (by simp) (n :: L1) fn
  have rgb := hg bd bL Lb fb
  have sub_b : sg_g σ 11 n ≤ sg_g σ 11 bd ∧ sg_g σ 12 bd ≤ sg_g σ 12 n := ⟨((rgn _).mp (ib _ ((rgb _).mpr ⟨by omega, by omega⟩))).1, ((rgn _).mp (ib _ ((rgb _).mpr ⟨by omega, by omega⟩))).2⟩
  have h8b : sg_g σ 8 n = bd := pts'.2.2.1 bd (by simp)
  have l1 := scS_le (fun es x b b' => scN_le f es x b b') _ _ _ _ _ q1
  have hhb := ht_k1 hh (Or.inr hk) (show bd ∈ A.2.2.2.2.1 n by rw [hk2]; simp)
  have hha : ∀ x ∈ tl.take g, htN A f x ≤ h := fun x hx => ht_k hh (by rw [hk2]; exact List.mem_cons_of_mem _ (List.mem_of_mem_take hx))
  have hhd : ∀ x ∈ tl.drop g, htN A f x ≤ h - 1 := fun x hx => (ht_k1 hh (Or.inr hk) (by rw [hk2]; exact List.mem_cons_of_mem _ (List.mem_of_mem_drop hx))).2
  obtain ⟨h', rfl⟩ : ∃ h', h = h' + 1 := ⟨h - 1, by omega⟩
  have hm0 : (h' + 1) * (L1.length + 1) = h' * (L1.length + 1) + (L1.length + 1) := Nat.succ_mul _ _
  rw [hm0] at hv
  have hmb := Nat.mul_le_mul_left h' (show Lb.length ≤ L1.length + 1 by omega)
  have hmd := Nat.mul_le_mul_left h' (show Ld.length ≤ L1.length + 1 by omega)
  have hma := Nat.mul_le_mul_left (h' + 1) (show La.length ≤ L1.length + 1 by omega)
  rw [hm0] at hma
  have p0 := pl_c hp
  obtain ⟨p1, p2⟩ := pl_a p0.2.2.2
  obtain ⟨m, rfl⟩ : ∃ m', m = m' + 1 := ⟨m - 1, by omega⟩
  refine zy_begin (A := A) (D := D) (vb := vb) (lev := lev) (j := j) (ρ := ρ) (nl := nl) (dix := dix) h8 h9 hp ⟨t2.1, c2⟩ (fun z σ' f' e' w' => ?_) (fun s1 z σ1 h1 x1 u1 e69 v64 => ?_)
  · rw [z] at k
    exact k σ' f' e' w' (by show ¬ (8 : Int) = 0; decide)
  have st1 := fBg_s z
  rw [z] at k
  simp only at k
  rw [if_neg n1, if_neg n2, if_neg n3, if_neg n13, if_pos hk, hgs, hk2] at k
  have dr : (bd :: tl).drop (1 + g) = tl.drop g := by rw [Nat.add_comm]; rfl
  rw [dr] at k
  simp only [List.getD_cons_zero] at k
  obtain ⟨x0, R0, hR0⟩ : ∃ x0 R0, tl.drop g ++ [bd] = x0 :: R0 := by
    cases tl.drop g with
    | nil => exact ⟨bd, [], rfl⟩
    | cons x R => exact ⟨x, R ++ [bd], rfl⟩
  rw [hR0] at q2 p2 k
  simp only [scS] at q2
  obtain ⟨qa, b2, q3, q4⟩ := q2
  obtain ⟨h16, hSD⟩ := cAg b1 qa
  rw [esg, bag] at q3
  rw [esg] at q4
  have l2 := scN_le _ _ _ _ _ q3
  have l3 := scS_le (fun es x b b' => scN_le f es x b b') _ _ _ _ _ q4
  simp only [cdS, ahg, hcn, List.cons_append, List.nil_append, List.append_assoc] at p2 k
  have kg : ∀ x ∈ tl.take g, kIn (sg_g σ 6 x) := fun x hx => by
    have := (tyk.1 x hx).1
    cases f with
    | zero => exact this.elim
    | succ f => exact this.2.2.1
  have tybd := tyk.2 bd (by simp)
  have kbd : kIn (sg_g σ 6 bd) := by
    cases f with
    | zero => exact tybd.elim
    | succ f => exact tybd.2.2.1
  have gdf : ∃ gdv, sg_g σ 14 n = gdv ∧ ((gdv = -1 ∧ x0 = bd ∧ R0 = [] ∧ Ld = []) ∨ ((0 ≤ gdv ∧ gdv < A.1) ∧ x0 = gdv ∧ R0 = [bd] ∧ fT A [gdv] Ld ∧ tl.drop g = [gdv] ∧ sg_g σ 6 gdv = 0)) := by
    rcases w7'.1 with z | z
    · have d0 : tl.drop g = [] := List.drop_of_length_le (by omega)
      rw [d0, List.nil_append] at hR0
      injection hR0 with y1 y2
      rw [d0] at fd
      exact ⟨_, rfl, Or.inl ⟨by rw [en.2.1, if_neg (by simp only [List.length_cons]; omega)], y1.symm, y2.symm, fT_nil fd⟩⟩
    · obtain ⟨gd, hd⟩ : ∃ gd, tl.drop g = [gd] := by
        have dl : (tl.drop g).length = 1 := by rw [List.length_drop]; omega
        match hh : tl.drop g with
        | [gd] => exact ⟨gd, rfl⟩
        | [] => rw [hh] at dl; simp at dl
        | _ :: _ :: _ => rw [hh] at dl; simp at dl
      have tle : tl = tl.take g ++ [gd] := by
        have := List.take_append_drop g tl
        rw [hd] at this; exact this.symm
      rw [hd] at hR0 fd
      injection hR0 with y1 y2
      refine ⟨gd, ?_, Or.inr ⟨kidr gd ?_, y1.symm, y2.symm, fd, hd, ?_⟩⟩
      · rw [en.2.1, if_pos (by simp only [List.length_cons]; omega), tle, ← List.cons_append, List.getLast?_append]
        rfl
      · rw [tle]; simp
      · simp only [List.length_map, List.length_cons, Bool.or_eq_true, decide_eq_true_eq, ne_eq] at i6''
        rcases i6'' with q | q
        · omega
        · rw [show tl.length + 1 - 1 = g + 1 by omega, List.getD_eq_getElem?_getD, List.getElem?_map, List.getElem?_cons_succ] at q
          have : tl[g]? = some gd := by rw [← List.head?_drop, hd]; rfl
          rw [this] at q
          exact q
  obtain ⟨gdv, h14, gdf⟩ := gdf
  have u1' : yU σ A D vb lev j σ8 σ1 ρ ρ t sv nl dix (n :: L1) := yU_w u1 ⟨Int.le_refl _, Int.le_refl _⟩ (Int.le_refl _) (Int.le_refl _) (fun x hx _ => by simp at hx; simp [hx]) (fun b w => ow_s (fun y hy => by simp at hy; simp [hy]) w)
  refine yRow hnl hP F (tl.take g) La 0 b b1 (p + 1) fa hNa (fun y hy => hlv y (ia y hy)) (fun q hq => ⟨(hsco q hq).1, fun w => (hsco q hq).2 (ow_s ia w)⟩) (fun x hx => hL x (ia x hx)) (gR_s hg ia) (fun x hx => (tyk.1 x hx).1) q1 (fun i _ hj => kq i (by rw [lt] at hj; omega)) hsl hha p1 (by omega) σ1 m ρ t sv (c + 4) (cr + 5) s1 h1 x1 (scY_u hS u1 (fun _ _ => rfl) (fun q hq w => (hsco q hq).2 (ow_s (fun y hy => by simp at hy; simp [hy]) w))) (by omega) (by omega) (by omega) (by omega) ?_
  cases er : fSq (fun x => fxN A D (sg_g σ 6) B O call f x N) (tl.take g) ρ s1 with
  | inl e =>
    rw [er] at k
    exact fun σ' q1 q2 q3 q4 => k σ' q1 q2 q3 q4
  | inr q =>
    obtain ⟨vs, s2', ρ2⟩ := q
    rw [er] at k
    simp only at k
    obtain ⟨lvs, lall, kvs⟩ := fx_sq (L := n :: L1) (fun x L' hx => hP x L' sc hx N) (tl.take g) (fun x hx => (sge x hx).1) (fun q hq => (hsco q hq).2) ρ s1 vs s2' ρ2 (fun q hq => (hS q hq).2.2.2) er
    intro σ2 m2 lv2 hm2 h2 x2 u2 v2
    simp only at lv2 hm2 h2 x2 u2 v2
    rw [lt] at h2 lvs
    have sb2 := x2.2.2.2.1
    have u12 : yU σ A D vb lev j σ8 σ2 ρ ρ2 t sv nl dix (n :: L1) := yU_t u1' u2 ⟨Int.le_refl _, Int.le_refl _⟩ ⟨Int.le_refl _, Int.le_refl _⟩ (fun _ hx => hx) ia
    have S2 := scY_u hS u12 (fun q hq => kvs q.1 (hsco q hq).2) (fun q hq => (hsco q hq).2)
    have n69 : sg_g σ2 69 n = N := by rw [(u2.2.2.2.2.1 n nln na).1]; exact e69
    have hbz : ∃ bz, b1 + g ≤ bz ∧ bz ≤ b' ∧ scN σ A dix f (gsl b1 g ++ es) bd bz b' := by
      rcases gdf with ⟨-, y1, y2, -⟩ | ⟨-, y1, y2, -⟩
      · subst y1; rw [y2] at q4
        simp only [scS] at q4
        subst q4
        exact ⟨b1 + g, by omega, by omega, q3⟩
      · rw [y2] at q4
        simp only [scS] at q4
        obtain ⟨-, b3, q5, q6⟩ := q4
        rw [(esg1 _ _).1, (esg1 [] b2).2] at q5
        subst q6
        have := scN_le _ _ _ _ _ q5
        exact ⟨b2, by omega, by omega, q5⟩
    have rgd : 0 ≤ gdv → (0 ≤ gdv ∧ gdv < A.1) ∧ gdv ∈ n :: L1 ∧ fT A [gdv] Ld ∧ scN σ A dix f (gsl b1 g ++ es) gdv (b1 + g) b2 := fun z => by
      rcases gdf with ⟨y, -⟩ | ⟨y1, y2, y3, y4, -⟩
      · omega
      · refine ⟨y1, id' _ (fT_sub y4 gdv (by simp)), y4, ?_⟩
        rw [← y2]; exact q3
    have hgd : 0 ≤ gdv → gdv < 200 ∧ sg_g σ 11 n ≤ sg_g σ 11 gdv ∧ sg_g σ 12 gdv ≤ sg_g σ 12 n := fun y => by
      obtain ⟨z1, z2, z3, z4⟩ := rgd y
      obtain ⟨r1, r2, r3⟩ := rg_b hW hnl z1 hg z2 z3 (fun z hz => (hL z (id' z hz)).1)
      have rgg := hg gdv z2 Ld z3
      exact ⟨by omega, ((rgn _).mp (id' _ ((rgg _).mpr ⟨by omega, by omega⟩))).1, ((rgn _).mp (id' _ ((rgg _).mpr ⟨by omega, by omega⟩))).2⟩
    have gx : ∀ i : Nat, (i : Int) < g → ∃ x, (tl.take g)[i]? = some x ∧ sg_g σ 6 x = (((sg_g σ 6 ((tl.take g).getD i 0) - 1).toNat + 1 : Nat) : Int) := fun i hi => by
      have hx : (tl.take g)[i]? = some ((tl.take g)[i]'(by omega)) := List.getElem?_eq_getElem _
      refine ⟨_, hx, ?_⟩
      rw [List.getD_eq_getElem?_getD, hx, Option.getD_some]
      have := (tyk.1 _ (List.mem_of_getElem? hx)).2
      omega
    have S1q : slQ σ (gsc n (sg_g σ 6) 0 (tl.take g) ++ sc.filter (fun p => decide (p.1 ∈ O n 0))) (b1 + (tl.take g).length) := slQ_g ⟨t2.1, c2⟩ h16 (by rw [lt]; omega) hSD (fun x hx => ⟨kg x hx, (tyk.1 x hx).2⟩) hsl l1
    obtain ⟨Lb', stb, -, -⟩ := sb0 bd (by simp)
    have eb' : Lb' = Lb := fT_det stb.2.1 fb
    rw [eb'] at stb
    have hown : ∀ q ∈ sc, ¬ insL (Lb ++ Ld) q.1 ∧ ¬ isG n q.1 := fun q hq => ⟨fun w => (hsco q hq).2 (Or.inl (insL_s (fun y hy => (List.mem_append.mp hy).elim (ib y) (id' y)) w)), fun w => (hsco q hq).2 (Or.inl (Or.inr ⟨w.2.1, w.2.2.1, by rw [w.2.2.2]; simp⟩))⟩
    obtain ⟨o0, o1⟩ := oO Lb Ld fb fd
    have hOm0 : ∀ s, s ∈ (O n 0).map (slF σ) ↔ opU σ (sg_g σ 11 bd) (sg_g σ 12 bd) gdv (sg_g σ 11 gdv) (sg_g σ 12 gdv) b1 s := fun s => by
      obtain ⟨bz, z1, z2, z3⟩ := hbz
      have wb := w_each (LL := Lb ++ Ld) hW rb hg bL stb z3 hsl l1 S1q (by rw [lt]; exact z1) (fun y hy => (hL y (ib y hy)).2) ⟨t2.1, c2⟩ h16 (by rw [lt]; omega) (fun y hy => List.mem_append_left _ hy) hown s
      have wd : 0 ≤ gdv → ((∃ w, (∃ y ∈ Ld, A.2.1 y = 1 ∧ B y = w ∧ ¬ insL (Lb ++ Ld) w ∧ ¬ isG n w) ∧ slF σ w = s) ↔ wnt σ (sg_g σ 11 gdv) (sg_g σ 12 gdv) b1 s) := fun y0 => by
        obtain ⟨r1, r2, r3, r4⟩ := rgd y0
        obtain ⟨Ld', std, -, -⟩ := sb0 gdv (by
          rcases gdf with ⟨y, -⟩ | ⟨-, -, -, -, y4, -⟩
          · omega
          · rw [y4]; simp)
        have ed' : Ld' = Ld := fT_det std.2.1 r3
        rw [ed'] at std
        exact w_each (LL := Lb ++ Ld) hW r1 hg r2 std r4 hsl l1 S1q (by rw [lt]; exact Int.le_refl _) (fun y hy => (hL y (id' y hy)).2) ⟨t2.1, c2⟩ h16 (by rw [lt]; omega) (fun y hy => List.mem_append_right _ hy) hown s
      have dne : ∀ y ∈ Ld, 0 ≤ gdv := fun y hy => by
        rcases gdf with ⟨-, -, -, y3⟩ | ⟨y0, -⟩
        · rw [y3] at hy; cases hy
        · exact y0.1
      rw [List.mem_map]
      constructor
      · rintro ⟨w, hw, e⟩
        obtain ⟨y, hy, ky⟩ := (o0 w).mp hw
        rcases List.mem_append.mp hy with hy | hy
        · exact Or.inl (wb.mp ⟨w, ⟨y, hy, ky⟩, e⟩)
        · have y0 := dne y hy
          exact Or.inr ⟨y0, (wd y0).mp ⟨w, ⟨y, hy, ky⟩, e⟩⟩
      · rintro (w | ⟨y0, w⟩)
        · obtain ⟨w, ⟨y, hy, ky⟩, e⟩ := wb.mpr w
          exact ⟨w, (o0 w).mpr ⟨y, List.mem_append_left _ hy, ky⟩, e⟩
        · obtain ⟨w, ⟨y, hy, ky⟩, e⟩ := (wd y0).mpr w
          exact ⟨w, (o0 w).mpr ⟨y, List.mem_append_right _ hy, ky⟩, e⟩
    obtain ⟨cT0, vO0⟩ := cy_sc h2.1 hSl S2 hsl oz
    have hOb0 : ∀ y ∈ O n 0, vb y ∧ ¬ isG n y := fun y hy => ⟨vO0 y hy, by obtain ⟨q, hq, e⟩ := oz y hy; rw [← e]; exact (hown q hq).2⟩
    have vl : (vs.length : Int) = g := by omega
    have vg : ∀ i : Nat, (i : Int) < g → yX σ2 ((sg_g σ 6 ((tl.take g).getD i 0) - 1).toNat + 1) (sg_g σ2 64 (t + i)) (vs.getD i []) ∧ (vs.getD i []).length = N := fun i hi => by
      obtain ⟨x, hx, ex⟩ := gx i hi
      have := v2 i x hx
      rw [ex, Int.toNat_natCast] at this
      exact this
    obtain ⟨m2, rfl⟩ : ∃ m', m2 = m' + 1 := ⟨m2 - 1, by omega⟩
    have wh9 : ((O n 0).length : Int) ≤ sg_g σ 12 n - sg_g σ 11 n + 1 ∨ O n 0 = [] → (O n 0).length ≤ L1.length + 1 := fun w => by
      rcases w with w | w
      · omega
      · rw [w]; exact Nat.zero_le _
    have b10 : 0 ≤ b1 := by
      have q := (hSl.1 _ (hVb (210 + 4 * n + ((0 : Nat) : Int)) (Or.inr (Or.inl ⟨n, 0, t2, hk, by rw [hgl]; omega, rfl⟩)))).1
      rw [sl_gen (by omega) (by omega), h16] at q
      omega
    refine zy_open (g := (g : Int)) (bd := b1) (gd := gdv) (plo := sg_g σ 11 n) (phi := sg_g σ 12 n) (x := bd) (dg := fun i => (sg_g σ 6 ((tl.take g).getD i 0) - 1).toNat) (vs := vs) (Ob := O n 0) (sl := slF σ) (ty := bTy A D (sg_g σ 6)) (ρ := ρ2) (s := s2') h2 x2 (by omega) ⟨by omega, tb⟩ p2 ⟨t2.1, c2⟩ ⟨rb.1, by omega⟩ en.1 ⟨by omega, by omega⟩ h8b h14 hgd ⟨sub_b.1, sub_b.2, by omega, by omega⟩ h16 ⟨by omega, by omega⟩ vl vg ⟨by omega, by omega⟩ (hOs n 0) hOm0 cT0 (fun hE σ' g1 g2 g3 => ?_) (fun hE e ef σ' g1 g2 g3 g4 => ?_) (fun hE s3 ρ3 ef σ3 h3 r3 wO0 rows => ?_)
    · unfold fEbN at k
      rw [if_pos (Decidable.byContradiction (fun w => hE (eaE_i.mp w)))] at k
      exact k σ' g1 g2 g3 (by show ¬ (3 : Int) = 0; decide)
    · unfold fEbN at k
      rw [if_neg (eaE_i.mpr hE), ef] at k
      exact k σ' g1 g2 g3 g4
    have r3e := fCa_e ((hO n).1 0) ef
    have s3s := (fCa_s ef).1
    have x3 := r3.2.2.1
    have sb3 := x3.2.2.2.1
    have W0l := wh9 wO0
    unfold fEbN at k
    rw [if_neg (eaE_i.mpr hE), ef] at k
    simp only at k
    obtain ⟨ln, hln⟩ : ∃ ln, ln = (vs.getD 0 []).map (fun v => (itF v).length) := ⟨_, rfl⟩
    have lnl : ln.length = N := by rw [hln, List.length_map]; exact (vg 0 (by omega)).2
    have Ml : (fRp N ln).length = ln.sum := fRp_l lnl
    rw [← hln] at k r3e h3
    have v00 := (vg 0 (by omega)).1
    rw [show t + ((0 : Nat) : Int) = t by omega] at v00
    have htk : ∀ (i : Nat) (x : Int), (tl.take g)[i]? = some x → tl[i]? = some x := fun i x hx => by
      have hi := gE_l hx
      rw [lt] at hi
      rw [List.getElem?_take, if_pos hi] at hx
      exact hx
    have vgen : ∀ i : Nat, i < vs.length → vb (210 + 4 * n + i) := fun i hi => hVb _ (Or.inr (Or.inl ⟨n, i, t2, hk, by rw [hgl]; omega, rfl⟩))
    obtain ⟨I3, G3, B3⟩ := op_I (A := A) (D := D) (lev := lev) (j := j) (nl := nl) (dix := dix) (N := N) hSl hOb0 ⟨t2.1, c2⟩ h16 vl (by omega) (by omega) vgen (fun i hi => by
      obtain ⟨x, hx, ex⟩ := gx i (by omega)
      rw [btg i x (by omega) (htk i x hx)]
      show (sg_g σ 6 ((tl.take g).getD i 0) - 1).toNat = _
      rw [List.getD_eq_getElem?_getD, hx]
      rfl) r3 r3e rows n69 v00 (vg 0 (by omega)).2
    rw [← hln] at I3
    have S3 : scY σ A D vb σ3 (fUs ρ3 (210 + 4 * n) 0 (vs.map flF)) ln.sum (gsc n (sg_g σ 6) 0 (tl.take g) ++ sc.filter (fun p => decide (p.1 ∈ O n 0))) := fun q hq => by
      rcases List.mem_append.mp hq with w | w
      · obtain ⟨i, u, hu, ep⟩ := gsc_m _ _ _ w
        have hi := gE_l hu
        rw [lt] at hi
        rw [Nat.zero_add] at ep
        rw [ep]
        refine ⟨vgen i (by omega), (btg i u (by omega) (htk i u hu)).symm, (G3 i (by omega)).1, ?_⟩
        show (fUs ρ3 (210 + 4 * n) 0 (vs.map flF) (210 + 4 * n + i)).length = ln.sum
        have mv : vs.getD i [] ∈ vs := by
          rw [List.getD_eq_getElem?_getD, List.getElem?_eq_getElem (by omega : i < vs.length)]
          exact List.getElem_mem _
        rw [(G3 i (by omega)).2, eaE_l hE lall (by omega) mv, ← hln, Ml]
      · obtain ⟨w1, w2⟩ := List.mem_filter.mp w
        rw [decide_eq_true_eq] at w2
        obtain ⟨a1, a2, a3, a4⟩ := hS q w1
        exact ⟨a1, a2, (B3 q.1 w2).1, by rw [(B3 q.1 w2).2, fPk_l, Ml]⟩
    have W0n := wl_nd (hOs n 0)
    have body : ∀ (σ5 : sg_S) (m5 M' : Nat) (bz : Int) (Lz : List Int) (p5 : Int) (sc5 : List (Int × Int)) (ρ5 : fEv) (s5 : fSt) (ln5 : List Nat) (E : fEv → fEv), (∀ ρ' y, y ∉ O n 0 → ¬ ow lev j (n :: L1) y → E ρ' y = ρ' y) → stN A D (sg_g σ 6) B lev j f Lb sc5 bd → slQ σ sc5 bz → scY σ A D vb σ5 ρ5 M' sc5 → bP σ σ5 t (sv + (O n 0).length) M' (c + 4) p5 → ctX σ5 s5 → bIX σ A D vb lev j σ2 σ5 ρ2 ρ5 t sv nl dix n (O n 0) Lz ln5 → ln5.length = N → ln5.sum = M' → (∀ x ∈ Lz, x ∈ n :: L1) → scN σ A dix f (gsl b1 g ++ es) bd bz b' → pl σ p5 (cd A f bd ++ [(12, n), (1, n)]) → 6 * (2001 - s5.1) + (cr + 3) ≤ (m5 : Int) → kY σ A D vb lev j X σ8 ρ t sv c (p5 + (cd A f bd).length + 2) cr nl dix (n :: L1) N (sg_g σ 6 n).toNat (match fxN A D (sg_g σ 6) B O call f bd M' ρ5 s5 with
        | .inl e => .inl e
        | .inr (v, s', ρ') => .inr (fCt ln5 v, s', fBk (O n 0) ρ2 (E ρ'))) → Ry σ X m5 σ5 := fun σ5 m5 M' bz Lz p5 sc5 ρ5 s5 ln5 E hE' st5 sl5 S5 h5 x5 I5 l5 sm5 iz hsb hp5 hm5 kk => by
      obtain ⟨pa, pb⟩ := pl_a hp5
      have pub := hP bd Lb sc5 st5 M' ρ5 s5
      refine F bd Lb _ sc5 bz b' p5 h' st5 (fun z hz => hL z (ib z hz)) (gR_s hg ib) hsb sl5 (by omega) pa hb σ5 m5 ρ5 t (sv + (O n 0).length) (c + 4) (cr + 3) M' s5 h5 x5 S5 (by omega) (by omega) hm5 (by omega) ?_
      generalize fxN A D (sg_g σ 6) B O call f bd M' ρ5 s5 = r at kk pub
      match r, kk, pub with
      | .inl e, kk, _ => exact fun σ' q1 q2 q3 q4 => kk σ' q1 q2 q3 q4
      | .inr (v, s6, ρ6), kk, pub =>
        obtain ⟨lvb, -⟩ := pub v s6 ρ6 (fun q hq => (S5 q hq).2.2.2) rfl
        intro σ6 m6 hm6 h6 x6 u6 v6
        simp only at hm6 h6 x6 u6 v6
        have I6 := bIX_u (L' := Lz ++ Lb) I5 u6 nln nb (Int.le_refl _) (fun x hx => List.mem_append_left _ hx) (fun x hx => List.mem_append_right _ hx)
        have sub6 : ∀ z, z ∈ n :: (Lz ++ Lb) → z ∈ n :: L1 := fun z hz => by
          rcases List.mem_cons.mp hz with q | q
          · simp [q]
          · rcases List.mem_append.mp q with q | q
            · exact iz z q
            · exact ib z q
        have sb6 := x6.2.2.2.1
        obtain ⟨m6, rfl⟩ : ∃ m', m6 = m' + 2 := ⟨m6 - 2, by omega⟩
        refine zy_coll (σ2 := σ2) (L := Lz ++ Lb) (ρ2 := ρ2) (ρ5 := ρ6) (nl := nl) (dix := dix) (A := A) (D := D) (vb := vb) (lev := lev) (j := j) (ln := ln5) (v := v) (s := s6) h6 x6 hSl vO0 W0n ⟨by omega, tb⟩ ⟨svb, by omega⟩ (by omega) (by omega) pb ⟨t2.1, c2⟩ (by rw [c1, hk]; rfl) I6 v6 (by rw [sm5, lvb]) (fun σ7 h7 x7 u7 v7 => ?_)
        have u7' : yU σ A D vb lev j σ2 σ7 ρ2 (fBk (O n 0) ρ2 (E ρ6)) t sv nl dix (n :: L1) := by
          obtain ⟨a1, a2, a3, a4, a5, a6⟩ := u7
          refine ⟨a1, a2, fun y hy ho hr => ?_, a4, fun x q r => a5 x q (fun z => r (sub6 x z)), a6⟩
          have r7 := a3 y hy (fun w => ho (ow_s sub6 w)) hr
          have e7 : fBk (O n 0) ρ2 (E ρ6) y = fBk (O n 0) ρ2 ρ6 y := by
            unfold fBk
            by_cases w : y ∈ O n 0
            · rw [if_pos w, if_pos w]
            · rw [if_neg w, if_neg w, hE' ρ6 y w ho]
          unfold rlY at r7 ⊢
          rw [e7]
          exact r7
        unfold kIn at kbd
        rw [l5] at h7
        refine kk σ7 m6 (by show 6 * (2001 - s6.1) + cr ≤ (m6 : Int); omega) (bP_m h7 ⟨c0, by omega⟩) x7 (yU_t u12 u7' ⟨by omega, by omega⟩ ⟨by omega, by omega⟩ (fun z hz => hz) (fun z hz => hz)) ?_
        rw [show (sg_g σ 6 n).toNat = (sg_g σ 6 bd).toNat + 1 by omega]
        exact v7
    have p3 := (pl_c p2).2.2.2
    rcases gdf with ⟨y0, y1, y2, y3⟩ | ⟨y0, y1, y2, y3, y4, y5⟩
    · -- no guard
      have td0 : tl.drop g = [] := by
        have := hR0
        rw [y2] at this
        match hd : tl.drop g with
        | [] => rfl
        | u :: r => rw [hd] at this; simp at this
      rw [y1, y2] at p3 k
      rw [y2] at q4
      rw [y1] at q3
      simp only [scS] at q4
      subst q4
      simp only [cdS, List.nil_append] at p3 k
      rw [td0] at k
      simp only at k
      rw [Ml] at k
      refine body σ3 m2 ln.sum (b1 + g) [] _ _ _ s3 ln id (fun _ _ _ _ => rfl) stb (by rw [lt] at S1q; exact S1q) S3 h3 x3 I3 lnl rfl (by simp) q3 p3 (by omega) ?_
      simp only [List.length_cons, List.length_append, List.length_nil] at k
      rw [show p + (((cdS A (cd A f) n 0 (tl.take g)).length + ((cd A f bd).length + (0 + 1 + 1) + 1) + 1 : Nat) : Int) = p + 1 + (cdS A (cd A f) n 0 (tl.take g)).length + 1 + (cd A f bd).length + 2 by omega] at k
      exact k
    · -- a guard
      rw [y1, y2] at p3 k
      rw [y2] at q4
      rw [y1] at q3
      simp only [scS] at q4
      obtain ⟨-, b3, q5, q6⟩ := q4
      rw [(esg1 _ _).1, (esg1 [] b2).2] at q5
      subst q6
      simp only [cdS, ahg1, List.append_nil, List.cons_append, List.nil_append, List.append_assoc] at p3 k
      obtain ⟨p4, p5⟩ := pl_a p3
      have p6 := pl_c p5
      rw [y4] at k
      simp only at k
      rw [Ml] at k
      have S1r := S1q
      rw [lt] at S1r
      obtain ⟨Ld', std, -, -⟩ := sb0 gdv (by rw [y4]; simp)
      have ed' : Ld' = Ld := fT_det std.2.1 y3
      rw [ed'] at std
      have pud := hP gdv Ld _ std ln.sum (fUs ρ3 (210 + 4 * n) 0 (vs.map flF)) s3
      refine F gdv Ld _ _ (b1 + g) b2 _ h' std (fun z hz => hL z (id' z hz)) (gR_s hg id') q3 S1r (by have := hhd gdv (by rw [y4]; simp); omega) p4 (by omega) σ3 m2 (fUs ρ3 (210 + 4 * n) 0 (vs.map flF)) t (sv + (O n 0).length) (c + 4) (cr + 4) ln.sum s3 h3 x3 S3 (by omega) (by omega) (by omega) (by omega) ?_
      generalize fxN A D (sg_g σ 6) B O call f gdv ln.sum (fUs ρ3 (210 + 4 * n) 0 (vs.map flF)) s3 = r at k pud
      match r, k, pud with
      | .inl e, k, _ => exact fun σ' q1 q2 q3 q4 => k σ' q1 q2 q3 q4
      | .inr (cv, s4, ρ4), k, pud =>
        obtain ⟨lcv, kvd⟩ := pud cv s4 ρ4 (fun q hq => (S3 q hq).2.2.2) rfl
        intro σ4 m4 hm4 h4 x4 u4 v4
        simp only at k hm4 h4 x4 u4 v4
        have sb4 := x4.2.2.2.1
        rw [show (sg_g σ 6 gdv).toNat = 0 by omega] at v4
        have I4 := bIX_u (L' := Ld) I3 u4 nln nd (Int.le_refl _) (by simp) (fun x hx => hx)
        have S4 := scY_u S3 u4 (fun q hq => kvd q.1 (std.2.2.2.2 q hq).2) (fun q hq => (std.2.2.2.2 q hq).2)
        have hOm1 : ∀ s, s ∈ (O n 1).map (slF σ) ↔ wnt σ (sg_g σ 11 bd) (sg_g σ 12 bd) (b1 + g) s := fun s => by
          rw [← w_out hW rb hg bL stb q5 S1r (by omega) (fun y hy => (hL y (ib y hy)).2) s, List.mem_map]
          exact ⟨fun ⟨w, hw, e⟩ => ⟨w, (o1 w).mp hw, e⟩, fun ⟨w, hw, e⟩ => ⟨w, (o1 w).mpr hw, e⟩⟩
        have oz1 : ∀ z ∈ O n 1, ∃ q ∈ gsc n (sg_g σ 6) 0 (tl.take g) ++ sc.filter (fun p => decide (p.1 ∈ O n 0)), q.1 = z := fun z hz => by
          obtain ⟨y, hy, ky, e, ni⟩ := (o1 z).mp hz
          rcases stN_v hA stb hy ky with ⟨w, -⟩ | w
          · exact ⟨_, w, e⟩
          · rw [e] at w; exact absurd w ni
        have nO1 : ∀ y, y ∉ O n 0 → ¬ isG n y → y ∉ O n 1 := fun y h0 h1 hy => by
          obtain ⟨q, hq, e⟩ := oz1 y hy
          rcases List.mem_append.mp hq with w | w
          · obtain ⟨i, u, hu, ep⟩ := gsc_m _ _ _ w
            have hi := gE_l hu
            rw [lt] at hi
            have e1 : q.1 = 210 + 4 * n + ((0 + i : Nat) : Int) := congrArg (·.1) ep
            exact h1 ⟨t2.1, by omega, by omega, by omega⟩
          · have := (List.mem_filter.mp w).2
            rw [decide_eq_true_eq, e] at this
            exact h0 this
        have nG : ∀ (LL : List Int) (y : Int), ¬ ow lev j (n :: LL) y → ¬ isG n y := fun LL y ho w => ho (Or.inl (Or.inr ⟨w.2.1, w.2.2.1, by rw [w.2.2.2]; simp⟩))
        obtain ⟨cT1, vO1⟩ := cy_sc h4.1 hSl S4 S1q oz1
        have g70 : sg_g σ4 70 n = sg_g σ2 64 t := by rw [(u4.2.2.2.2.1 n nln nd).2.1]; exact r3.2.2.2.2.2.2.2.2.1
        have j69 : sg_g σ4 69 n = N := by rw [I4.2.2.2.2.2.2.2.1.1, lnl]
        obtain ⟨m4, rfl⟩ : ∃ m', m4 = m' + 1 := ⟨m4 - 1, by omega⟩
        refine zy_sift (x := bd) (bd := b1) (g := (g : Int)) (M := ln.sum) (N := N) (v0 := vs.getD 0 []) (cv := cv) (Ob := O n 1) (sl := slF σ) (ty := bTy A D (sg_g σ 6)) (ρ := ρ4) (s := s4) h4 x4 (by omega) ⟨by omega, tb⟩ p5 ⟨t2.1, c2⟩ ⟨rb.1, by omega⟩ h8b rb1 h16 en.1 ⟨by omega, by omega, by omega⟩ j69 (by omega) (by rw [g70]; exact yX_up I4.1 v00) (vg 0 (by omega)).2 (by rw [← hln, lcv]) v4 lcv (hOs n 1) hOm1 cT1 (fun e ef2 σ' g1 g2 g3 g4 => ?_) (fun s5 ρ6 ef2 ef3 σ' g1 g2 g3 => ?_) (fun s5 ρ6 ef2 s6 ef3 σ5 h5 x5 e45 T5 O5 r5 r70 G5 => ?_)
        · rw [ef2] at k; exact k σ' g1 g2 g3 g4
        · rw [ef2] at k
          simp only at k
          rw [ef3] at k
          exact k σ' g1 g2 g3 (by show ¬ (8 : Int) = 0; decide)
        rw [ef2] at k
        simp only at k
        rw [ef3] at k
        simp only at k
        rw [← hln] at G5
        have r6e := fCa_e ((hO n).1 1) ef2
        have s5s := (fCa_s ef2).1
        have s6s := (fStp_s ef3).1
        have sb5 := x5.2.2.2.1
        have I5 : bIX σ A D vb lev j σ2 σ5 ρ2 ρ6 t sv nl dix n (O n 0) Ld (ctL ln cv) := by
          obtain ⟨j1, j2, j3, j4, j5, j6, j7, ⟨j8, j9⟩, j10⟩ := I4
          refine ⟨yEx_t j1 e45, fun i hi => by rw [(r5 i).1, j2 i hi], fun y hy ho hn' hr => ?_, fun i hi => by rw [(r5 i).2.2.2.2.1, (r5 i).2.2.2.2.2]; exact j4 i hi, fun x q r => ?_, fun q hq => by rw [(r5 q).2.1, j6 q hq], fun i x hx => by rw [(r5 (sv + i)).2.2.2.2.1, (r5 (sv + i)).2.2.2.2.2]; exact j7 i x hx, ⟨by rw [(r5 n).2.2.1, j8, ctL_l], by rw [(r5 n).2.2.2.1]; exact j9⟩, G5⟩
          · have nO := nO1 y hn' (nG Ld y ho)
            have ns : slF σ y ∉ (O n 1).map (slF σ) := fun w => by
              obtain ⟨u, hu, e⟩ := List.mem_map.mp w
              exact nO (by rw [← hSl.2 u y (vO1 u hu) hy e]; exact hu)
            unfold rlY
            rw [r6e y, if_neg nO, O5 _ ns]
            exact yX_up e45 (j3 y hy ho hn' hr)
          · have xn : ¬ x = n := fun z => r (by simp [z])
            rw [(r5 x).2.2.1, r70 x xn, (r5 x).2.2.2.1]
            exact j5 x q r
        have S5 : scY σ A D vb σ5 ρ6 (fWh true cv).length ((gsc n (sg_g σ 6) 0 (tl.take g) ++ sc.filter (fun p => decide (p.1 ∈ O n 0))).filter (fun p => decide (p.1 ∈ O n 1))) := fun q hq => by
          obtain ⟨z1, z2⟩ := List.mem_filter.mp hq
          rw [decide_eq_true_eq] at z2
          obtain ⟨a1, a2, a3, a4⟩ := S4 q z1
          exact ⟨a1, a2, T5 q.1 z2, by rw [r6e q.1, if_pos z2, fPk_l]⟩
        refine body σ5 m4 (fWh true cv).length b2 Ld _ _ ρ6 s6 (ctL ln cv) (fun ρ' => fBk (O n 1) ρ4 ρ') (fun ρ' y h0 ho => ?_) (sb1 Lb Ld _ fd stb) (slQ_f S1r l2) S5 h5 x5 I5 (by rw [ctL_l]; exact lnl) (by rw [ctL_s lcv.symm, fWh_l]) id' q5 p6.2.2.2 (by omega) ?_
        · show (if y ∈ O n 1 then ρ4 y else ρ' y) = ρ' y
          rw [if_neg (nO1 y h0 (nG L1 y ho))]
        · simp only [List.length_cons, List.length_append, List.length_nil] at k
          rw [show p + (((cdS A (cd A f) n 0 (tl.take g)).length + ((cd A f gdv).length + ((cd A f bd).length + (0 + 1 + 1) + 1) + 1) + 1 : Nat) : Int) = p + 1 + (cdS A (cd A f) n 0 (tl.take g)).length + 1 + (cd A f gdv).length + 1 + (cd A f bd).length + 2 by omega] at k
          exact k
end DBA
