/-! BIG STEPS of the class's flat run, exactly: if. -/
section CYA
variable {σ : sg_S} {A : aT} {D : List aDf} {vb : Int → Prop} {X : sg_S → Prop} {B : Int → Int} {lev : Int → Nat} {O : Int → Nat → List Int} {call : Int → Nat → fEv → fSt → fRs} {j : Nat} {nl dix : Int} {f : Nat}
/-- a branch from its beginning to where its slots are put back -/
theorem br_Y {σa σb σc σd : sg_S} {n sv t t1 : Int} {Ob Lx : List Int} {ks : List Nat} {ρ ρ3 ρ4 : fEv} (hSl : slA σ vb) (hOb : ∀ y ∈ Ob, vb y) (hB : bBX σa σb n sv Ob (slF σ) (bTy A D (sg_g σ 6)) ρ3) (h3 : ∀ b, ρ3 b = if b ∈ Ob then fPk (ρ b) ks else ρ b) (hU : yU σ A D vb lev j σb σc ρ3 ρ4 t1 (sv + Ob.length) nl dix Lx) (he : yEx σc σd) (ht : t ≤ t1) (h64 : ∀ i, i < t → sg_g σd 64 i = sg_g σc 64 i) (hi : ∀ i, sg_g σd 63 i = sg_g σc 63 i ∧ sg_g σd 69 i = sg_g σc 69 i ∧ sg_g σd 70 i = sg_g σc 70 i ∧ sg_g σd 71 i = sg_g σc 71 i ∧ sg_g σd 72 i = sg_g σc 72 i ∧ sg_g σd 73 i = sg_g σc 73 i) (hr : rs σc σd sv (Ob.map (slF σ))) : yU σ A D vb lev j σa σd ρ (fBk Ob ρ ρ4) t sv nl dix (n :: Lx) := by
  obtain ⟨b1, b2, b3, b4, b5, b6, b7, b8⟩ := hB
  obtain ⟨u1, u2, u3, u4, u5, u6⟩ := hU
  have ex := yEx_t b1 (yEx_t u1 he)
  refine ⟨ex, fun i x => by rw [h64 i x, u2 i (by omega), (b4 i).1], fun b hb ho hrl => ?_, fun i x => ?_, fun x q r => ?_, fun q hq => by rw [(hi q).1, u6 q hq, (b4 q).2.1]⟩
  · show yX σd _ (sg_g σd 62 (slF σ b)) (if b ∈ Ob then ρ b else ρ4 b)
    by_cases c : b ∈ Ob
    · rw [if_pos c]
      obtain ⟨i, hi'⟩ := List.mem_iff_getElem?.mp c
      have g : (Ob.map (slF σ))[i]? = some (slF σ b) := by rw [List.getElem?_map, hi']; rfl
      have il := gE_l hi'
      rw [hr.1 i _ g, (u4 (sv + i) (by omega)).2, (b7 i _ g).2]
      exact yX_up ex hrl
    · rw [if_neg c]
      have ns : slF σ b ∉ Ob.map (slF σ) := fun w => by
        obtain ⟨y, hy, e⟩ := List.mem_map.mp w
        exact c (by rw [← hSl.2 y b (hOb y hy) hb e]; exact hy)
      rw [hr.2 _ ns]
      have r3 : rlY σ A D σb ρ3 b := by
        unfold rlY
        rw [h3 b, if_neg c, b3 _ ns]
        exact yX_up b1 hrl
      exact yX_up he (u3 b hb (fun w => ho (ow_s (fun y hy => by simp [hy]) w)) r3)
  · obtain ⟨-, -, -, -, i5, i6⟩ := hi i
    rw [i5, i6, (u4 i (by omega)).1, (u4 i (by omega)).2]
    exact b8 i x
  · obtain ⟨-, i2, i3, i4, -, -⟩ := hi x
    have xn : ¬ x = n := fun z => r (by simp [z])
    obtain ⟨v1, v2, v3⟩ := u5 x q (fun z => r (by simp [z]))
    rw [i2, i3, i4, v1, v2, v3, (b4 x).2.2, (b5 x xn).1, (b5 x xn).2]
    exact ⟨rfl, rfl, rfl⟩
/-- what is carried is of the scope -/
theorem cy_sc {σ8 : sg_S} {ρ : fEv} {N : Nat} {b : Int} {sc : List (Int × Int)} {Ob : List Int} (f8 : sg_F bRL σ σ8) (hSl : slA σ vb) (hS : scY σ A D vb σ8 ρ N sc) (hq : slQ σ sc b) (hO : ∀ z ∈ Ob, ∃ p ∈ sc, p.1 = z) : (∀ y ∈ Ob, cyT σ8 (slF σ) (bTy A D (sg_g σ 6)) ρ N y) ∧ ∀ y ∈ Ob, vb y := by
  refine ⟨fun y hy => ?_, fun y hy => ?_⟩
  · obtain ⟨q, hq', e⟩ := hO y hy
    subst e
    obtain ⟨a1, a2, a3, a4⟩ := hS q hq'
    obtain ⟨q1, q2, q3⟩ := hq q hq'
    unfold kIn at q3
    refine ⟨hSl.1 _ a1, by omega, ?_, a3, a4⟩
    rw [sg_F_ga f8 rfl, q2]
    omega
  · obtain ⟨q, hq', e⟩ := hO y hy
    subst e
    exact (hS q hq').1
/-- the scope of a part behind a branch -/
theorem sc_br {σ8 σ' : sg_S} {ρ ρ3 : fEv} {N : Nat} {n sv : Int} {sc : List (Int × Int)} {Ob : List Int} {ks : List Nat} (hS : scY σ A D vb σ8 ρ N sc) (hB : bBX σ8 σ' n sv Ob (slF σ) (bTy A D (sg_g σ 6)) ρ3) (h3 : ∀ b, ρ3 b = if b ∈ Ob then fPk (ρ b) ks else ρ b) : scY σ A D vb σ' ρ3 ks.length (sc.filter (fun q => decide (q.1 ∈ Ob))) := fun q hq => by
  obtain ⟨h1, h2⟩ := List.mem_filter.mp hq
  rw [decide_eq_true_eq] at h2
  obtain ⟨a1, a2, a3, a4⟩ := hS q h1
  exact ⟨a1, a2, hB.2.1 q.1 h2, by rw [h3 q.1, if_pos h2, fPk_l]⟩
theorem slQ_f {sc : List (Int × Int)} {b b2 : Int} {g : Int × Int → Bool} (h : slQ σ sc b) (hb : b ≤ b2) : slQ σ (sc.filter g) b2 := fun q hq => slQ_m h hb q (List.mem_filter.mp hq).1
theorem yN_if (hW : ckW σ A) (hSl : slA σ vb) (hO : okO A B O) (hOs : ∀ n st, ((O n st).map (slF σ)).Pairwise (· < ·)) (hnl : 0 ≤ nl) (hP : fPu A D (sg_g σ 6) B lev O call j f) (F : yN σ A D vb X B lev O call j nl dix f) {n : Int} {L1 es : List Int} {sc : List (Int × Int)} {b b' p : Int} {h : Nat} (hk : A.2.1 n = 3) (hf : fT A (A.2.2.2.2.1 n) L1) (hst : stN A D (sg_g σ 6) B lev j (f + 1) (n :: L1) sc n) (hL : ∀ x ∈ n :: L1, nl ≤ x ∧ lyQ σ A D B dix x) (hg : gRq σ A (n :: L1)) (hsc : scN σ A dix (f + 1) es n b b') (hsl : slQ σ sc b) (hh : htN A (f + 1) n ≤ h) (hp : pl σ p (cd A (f + 1) n)) (hb : b' ≤ 272) {σ8 : sg_S} {m : Nat} {ρ : fEv} {t sv c cr : Int} {N : Nat} {s : fSt} (h8 : bP σ σ8 t sv N c p) (h9 : ctX σ8 s) (hS : scY σ A D vb σ8 ρ N sc) (ht : t + (n :: L1).length + nl ≤ 400) (hv : sv + ((h * (n :: L1).length : Nat) : Int) + 12 * nl ≤ 2400) (hm : 6 * (2001 - s.1) + cr ≤ (m : Int)) (hcr : 0 ≤ cr) (k : kY σ A D vb lev j X σ8 ρ t sv c (p + (cd A (f + 1) n).length) cr nl dix (n :: L1) N (sg_g σ 6 n).toNat (fxN A D (sg_g σ 6) B O call (f + 1) n N ρ s)) : Ry σ X m σ8 := by
  have hA := hW.1.2
  obtain ⟨hty, -, hNn, hlv, hsco⟩ := id hst
  obtain ⟨t1, t2, t3, t4, t5, t6, t7, t8, t9⟩ := hty
  obtain ⟨c1, c2⟩ := ck3 hW t2
  obtain ⟨w1, w2, w3, w4, w5, w6, w7, w8⟩ := id t1
  have n1 : ¬ A.2.1 n = 1 := by omega
  have n2 : ¬ A.2.1 n = 2 := by omega
  have n15 : ¬ A.2.1 n = 15 := by omega
  have hl := w4 hk
  obtain ⟨a, x, y, hk2⟩ : ∃ a x y, A.2.2.2.2.1 n = [a, x, y] := by
    match hh : A.2.2.2.2.1 n with
    | [a, x, y] => exact ⟨a, x, y, rfl⟩
    | [] => rw [hh] at hl; simp at hl
    | [_] => rw [hh] at hl; simp at hl
    | [_, _] => rw [hh] at hl; simp at hl
    | _ :: _ :: _ :: _ :: _ => rw [hh] at hl; simp at hl
  have ho : kOrd A n = [a, x, y] := by unfold kOrd; rw [if_neg n15, hk2]
  obtain ⟨e6a, e6x, e6n⟩ : sg_g σ 6 a = 0 ∧ sg_g σ 6 x = sg_g σ 6 y ∧ sg_g σ 6 n = sg_g σ 6 x := by
    have := t5 (by omega)
    unfold kTy at this
    rw [hk2] at this
    simp only [hk] at this
    rw [if_neg (by decide), if_neg (by decide), if_neg (by decide), if_pos trivial] at this
    obtain ⟨i1, i2, i3⟩ := kIs_in this
    simp only [Bool.and_eq_true, decide_eq_true_eq] at i3
    exact ⟨i3.1, i3.2, i1⟩
  obtain ⟨s0, -, -, s2⟩ := hsc
  rw [ho] at s2
  have h16 := s0 hk
  have hcn : cnc A n = [(9, n)] := by unfold cnc; rw [if_neg n2, if_pos hk]
  have ah0 : ahd A n 0 = [] := by unfold ahd; rw [if_neg (by omega), if_neg (by omega), if_neg (by omega), if_neg (by omega)]
  have ah1 : ahd A n 1 = [(7, n)] := by unfold ahd; rw [if_neg (by omega), if_pos ⟨hk, by omega⟩, if_pos rfl]
  have ah2 : ahd A n 2 = [(8, n)] := by unfold ahd; rw [if_neg (by omega), if_pos ⟨hk, by omega⟩, if_neg (by decide)]
  have hcd : cd A (f + 1) n = (0, n) :: (cd A f a ++ ((7, n) :: (cd A f x ++ ((8, n) :: (cd A f y ++ [(9, n)]))))) := by
    simp only [cd, ho, hcn, cdS, ah0, ah1, ah2, List.nil_append, List.append_nil, List.append_assoc, List.cons_append]
  rw [hcd] at hp k
  have no : ∀ s, kNo A n s := fun s => ⟨fun z => n2 z.1, fun z => n15 z.1⟩
  simp only [scS] at s2
  obtain ⟨-, b1, q1, -, b2, q2, -, b3, q3, q4⟩ := s2
  have ex := fun s bb => (esA_no (no s) es bb).1
  have bx := fun s bb => (esA_no (no s) es bb).2
  simp only [ex, bx] at q1 q2 q3
  subst q4
  have p0 := pl_c hp
  obtain ⟨p1, p2⟩ := pl_a p0.2.2.2
  have p3 := pl_c p2
  obtain ⟨p4, p5⟩ := pl_a p3.2.2.2
  have p6 := pl_c p5
  obtain ⟨p7, p8⟩ := pl_a p6.2.2.2
  have kidr := (hW.2.2 n t2.1 t2.2).2
  have pts' := (hW.2.2 n t2.1 t2.2).1.2.2.2.1
  unfold pts at pts'
  rw [if_neg n15, hk2] at pts'
  obtain ⟨La0, sta, sua⟩ := stN_k hst n2 n15 (z := a) (by rw [hk2]; simp)
  obtain ⟨Lx0, stx, sux⟩ := stN_k hst n2 n15 (z := x) (by rw [hk2]; simp)
  obtain ⟨Ly0, sty, suy⟩ := stN_k hst n2 n15 (z := y) (by rw [hk2]; simp)
  obtain ⟨stx1, ox⟩ := stN_p (L := n :: L1) (st := 1) hA hO hk (Or.inl rfl) (by rw [hk2]; rfl) stx
  obtain ⟨sty1, oy⟩ := stN_p (L := n :: L1) (st := 2) hA hO hk (Or.inr rfl) (by rw [hk2]; rfl) sty
  have hk2x : (A.2.2.2.2.1 n)[1]? = some x := by rw [hk2]; rfl
  have hk2y : (A.2.2.2.2.1 n)[2]? = some y := by rw [hk2]; rfl
  rw [hk2] at hf kidr
  have ra := kidr a (by simp)
  have rx := kidr x (by simp)
  have ry := kidr y (by simp)
  have hsec : v_tSecond σ n = x := by
    have := pts'.2.1
    simp only [lkc] at this
    obtain ⟨z1, z2⟩ := this
    rcases z2 with z2 | ⟨z2, -⟩
    · cases z2
    · unfold v_tSecond
      rw [xa_in (a := 7) ⟨t2.1, c2⟩, z1, xa_in (a := 9) ⟨by omega, by omega⟩]
      exact z2
  have h8y : sg_g σ 8 n = y := pts'.2.2.1 y rfl
  obtain ⟨La, Lxy, e3, fa, fxy⟩ := fT_spl [a] [x, y] L1 hf
  obtain ⟨Lx, Ly, e4, fx, fy⟩ := fT_spl [x] [y] Lxy fxy
  have ea0 : La0 = La := fT_det sta.2.1 fa
  have ex0 : Lx0 = Lx := fT_det stx.2.1 fx
  have ey0 : Ly0 = Ly := fT_det sty.2.1 fy
  rw [ea0] at sta
  rw [ex0] at stx stx1
  rw [ey0] at sty sty1
  have hla := fT_len fa
  have hlx := fT_len fx
  have hly := fT_len fy
  simp only [List.length_cons, List.length_nil] at hla hlx hly ht hv
  have e3l : L1.length = La.length + (Lx.length + Ly.length) := by rw [e3, e4, List.length_append, List.length_append]
  have ia : ∀ z, z ∈ La → z ∈ n :: L1 := fun z hz => by rw [e3]; simp [hz]
  have ix : ∀ z, z ∈ Lx → z ∈ n :: L1 := fun z hz => by rw [e3, e4]; simp [hz]
  have iy : ∀ z, z ∈ Ly → z ∈ n :: L1 := fun z hz => by rw [e3, e4]; simp [hz]
  have hnL := (List.nodup_cons.mp hNn).1
  have na : n ∉ La := fun z => hnL (by rw [e3]; simp [z])
  have nx : n ∉ Lx := fun z => hnL (by rw [e3, e4]; simp [z])
  have ny : n ∉ Ly := fun z => hnL (by rw [e3, e4]; simp [z])
  have l1 := scN_le _ _ _ _ _ q1
  have l2 := scN_le _ _ _ _ _ q2
  have l3 := scN_le _ _ _ _ _ q3
  have tb := h8.2.2.2.2.1
  have svb := h8.2.2.2.2.2.1
  have c0 := h8.2.2.2.2.2.2
  have N0 := h8.2.2.2.1
  have sb := h9.2.2.2.1
  have nln : nl ≤ n := (hL n (by simp)).1
  have xL : x ∈ n :: L1 := ix x (fT_sub fx x (by simp))
  have yL : y ∈ n :: L1 := iy y (fT_sub fy y (by simp))
  obtain ⟨rx1, rx2, rx3⟩ := rg_b hW hnl rx hg xL fx (fun z hz => (hL z (ix z hz)).1)
  obtain ⟨ry1, ry2, ry3⟩ := rg_b hW hnl ry hg yL fy (fun z hz => (hL z (iy z hz)).1)
  have hh1 := ht_k1 hh (Or.inl hk) (show x ∈ A.2.2.2.2.1 n by rw [hk2]; simp)
  have hh2 := ht_k1 hh (Or.inl hk) (show y ∈ A.2.2.2.2.1 n by rw [hk2]; simp)
  have ha1 := ht_k hh (show a ∈ A.2.2.2.2.1 n by rw [hk2]; simp)
  obtain ⟨h', rfl⟩ : ∃ h', h = h' + 1 := ⟨h - 1, by omega⟩
  have hm0 : (h' + 1) * (L1.length + 1) = h' * (L1.length + 1) + (L1.length + 1) := Nat.succ_mul _ _
  rw [hm0] at hv
  have hmx := Nat.mul_le_mul_left h' (show Lx.length ≤ L1.length + 1 by omega)
  have hmy := Nat.mul_le_mul_left h' (show Ly.length ≤ L1.length + 1 by omega)
  have hma := Nat.mul_le_mul_left (h' + 1) (show La.length ≤ L1.length + 1 by omega)
  rw [hm0] at hma
  have hOm : ∀ (st : Nat) (z : Int) (Lz : List Int) (bz bz' : Int), (st = 1 ∨ st = 2) → (A.2.2.2.2.1 n)[st]? = some z → (0 ≤ z ∧ z < A.1) → z ∈ n :: L1 → stN A D (sg_g σ 6) B lev j f Lz sc z → scN σ A dix f es z bz bz' → b ≤ bz → (∀ w ∈ Lz, w ∈ n :: L1) → ∀ s, s ∈ (O n st).map (slF σ) ↔ wnt σ (sg_g σ 11 z) (sg_g σ 12 z) b s := fun st z Lz bz bz' hst' hkz hz zL stz scz hbz iz s => by
    rw [← w_out hW hz hg zL stz scz hsl hbz (fun w hw => (hL w (iz w hw)).2) s, List.mem_map]
    have o := (hO n).2.1 hk st z Lz hst' hkz stz.2.1
    exact ⟨fun ⟨w, hw, e⟩ => ⟨w, (o w).mp hw, e⟩, fun ⟨w, hw, e⟩ => ⟨w, (o w).mpr hw, e⟩⟩
  obtain ⟨m, rfl⟩ : ∃ m', m = m' + 1 := ⟨m - 1, by omega⟩
  simp only [fxN] at k
  refine zy_begin (A := A) (D := D) (vb := vb) (lev := lev) (j := j) (ρ := ρ) (nl := nl) (dix := dix) h8 h9 hp ⟨t2.1, c2⟩ (fun z σ' f' e' w' => ?_) (fun s1 z σ1 h1 x1 u1 e69 v64 => ?_)
  · rw [z] at k
    exact k σ' f' e' w' (by show ¬ (8 : Int) = 0; decide)
  have st1 := fBg_s z
  rw [z] at k
  simp only at k
  rw [if_neg n1, if_neg n2, if_pos hk, hk2] at k
  unfold fIfN at k
  simp only [List.getD_cons_zero, List.getD_cons_succ] at k
  have u1' : yU σ A D vb lev j σ8 σ1 ρ ρ t sv nl dix (n :: L1) := yU_w u1 ⟨Int.le_refl _, Int.le_refl _⟩ (Int.le_refl _) (Int.le_refl _) (fun x hx _ => by simp at hx; simp [hx]) (fun b w => ow_s (fun y hy => by simp at hy; simp [hy]) w)
  have pua := hP a La sc sta N ρ s1
  refine F a La es sc b b1 (p + 1) (h' + 1) sta (fun z hz => hL z (ia z hz)) (gR_s hg ia) q1 hsl ha1 p1 (by omega) σ1 m ρ t sv (c + 4) (cr + 5) N s1 h1 x1 (scY_u hS u1 (fun _ _ => rfl) (fun q hq w => (hsco q hq).2 (ow_s (fun y hy => by simp at hy; simp [hy]) w))) (by omega) (by omega) (by omega) (by omega) ?_
  generalize fxN A D (sg_g σ 6) B O call f a N ρ s1 = r at k pua
  match r, k, pua with
  | .inl e, k, _ => exact fun σ' q1 q2 q3 q4 => k σ' q1 q2 q3 q4
  | .inr (cv, s2', ρ2), k, pua =>
    obtain ⟨lcv, kv⟩ := pua cv s2' ρ2 (fun q hq => (hS q hq).2.2.2) rfl
    intro σ2 m2 hm2 h2 x2 u2 v2
    simp only at k hm2 h2 x2 u2 v2
    have sb2 := x2.2.2.2.1
    rw [show (sg_g σ 6 a).toNat = 0 by omega] at v2
    have u12 : yU σ A D vb lev j σ8 σ2 ρ ρ2 t sv nl dix (n :: L1) := yU_t u1' u2 ⟨Int.le_refl _, Int.le_refl _⟩ ⟨Int.le_refl _, Int.le_refl _⟩ (fun _ hx => hx) ia
    have kvs : ∀ q ∈ sc, ρ2 q.1 = ρ q.1 := fun q hq => kv q.1 (fun w => (hsco q hq).2 (ow_s ia w))
    have S2 := scY_u hS u12 kvs (fun q hq => (hsco q hq).2)
    have n2' : sg_g σ2 69 n = N := by rw [(u2.2.2.2.2.1 n nln na).1]; exact e69
    obtain ⟨cT1, vO1⟩ := cy_sc h2.1 hSl S2 hsl ox
    obtain ⟨m2, rfl⟩ : ∃ m', m2 = m' + 1 := ⟨m2 - 1, by omega⟩
    refine zy_fork (cv := cv) (Ob := O n 1) (sl := slF σ) (ty := bTy A D (sg_g σ 6)) (ρ := ρ2) (s := s2') h2 x2 (by omega) ⟨by omega, tb⟩ p2 ⟨t2.1, c2⟩ ⟨rx.1, by omega⟩ hsec rfl rfl rx1 h16 n2' v2 lcv ⟨by omega, by omega⟩ (hOs n 1) (hOm 1 x Lx b1 b2 (Or.inl rfl) hk2x rx xL stx q2 (by omega) ix) cT1 (fun e ef σ' g1 g2 g3 g4 => ?_) (fun s3 ρ3 ef σ3 h3 x3 B3 wO1 v70 => ?_)
    · rw [ef] at k; exact k σ' g1 g2 g3 g4
    rw [ef] at k
    simp only at k
    have r3 := fCa_e ((hO n).1 1) ef
    have s3s := (fCa_s ef).1
    have sb3 := x3.2.2.2.1
    have W1l : (O n 1).length ≤ Lx.length := by
      rcases wO1 with z | z
      · omega
      · rw [z]; exact Nat.zero_le _
    have S3 := sc_br S2 B3 r3
    have pux := hP x Lx _ stx1 (fWh true cv).length ρ3 s3
    refine F x Lx es _ b1 b2 (p + 1 + (cd A f a).length + 1) h' stx1 (fun z hz => hL z (ix z hz)) (gR_s hg ix) q2 (slQ_f hsl l1) (by omega) p4 (by omega) σ3 m2 ρ3 t (sv + (O n 1).length) (c + 4) (cr + 4) (fWh true cv).length s3 h3 x3 S3 (by omega) (by omega) (by omega) (by omega) ?_
    generalize fxN A D (sg_g σ 6) B O call f x (fWh true cv).length ρ3 s3 = r at k pux
    match r, k, pux with
    | .inl e, k, _ => exact fun σ' q1 q2 q3 q4 => k σ' q1 q2 q3 q4
    | .inr (v1, s4', ρ4), k, pux =>
      obtain ⟨lv1, kv1⟩ := pux v1 s4' ρ4 (fun q hq => (S3 q hq).2.2.2) rfl
      intro σ4 m4 hm4 h4 x4 u4 v4
      simp only at k hm4 h4 x4 u4 v4
      have sb4 := x4.2.2.2.1
      have n4 : sg_g σ4 69 n = N ∧ sg_g σ4 70 n = sg_g σ2 64 t ∧ sg_g σ4 71 n = sv := by
        obtain ⟨z1, z2, z3⟩ := u4.2.2.2.2.1 n nln nx
        rw [z1, z2, z3, (B3.2.2.2.1 n).2.2]
        exact ⟨n2', v70, B3.2.2.2.2.2.1⟩
      have e24 : yEx σ2 σ4 := yEx_t B3.1 u4.1
      have ml : ∀ st, ((O n st).map (slF σ)).length = (O n st).length := fun st => List.length_map _
      have W272 : ∀ z ∈ (O n 1).map (slF σ), 0 ≤ z ∧ z < 272 := fun z hz => by
        obtain ⟨w, hw, e⟩ := List.mem_map.mp hz
        rw [← e]; exact hSl.1 w (vO1 w hw)
      have s72 : ∀ (i : Nat) (z : Int), ((O n 1).map (slF σ))[i]? = some z → sg_g σ4 72 (sv + i) = z := fun i z hz => by
        have hi := gE_l hz
        rw [ml] at hi
        rw [(u4.2.2.2.1 (sv + i) (by omega)).1]
        exact (B3.2.2.2.2.2.2.1 i z hz).1
      have U24 : ∀ σt, rsW σ4 σt sv ((O n 1).map (slF σ)) → yU σ A D vb lev j σ2 σt ρ2 (fBk (O n 1) ρ2 ρ4) t sv nl dix (n :: Lx) := fun σt R => br_Y hSl vO1 B3 r3 u4 (yEx_F R.1 rfl) (Int.le_refl _) (fun i _ => sg_F_ga R.1 rfl) (fun i => ⟨sg_F_ga R.1 rfl, sg_F_ga R.1 rfl, sg_F_ga R.1 rfl, sg_F_ga R.1 rfl, sg_F_ga R.1 rfl, sg_F_ga R.1 rfl⟩) R.2
      have bk1 : ∀ q ∈ sc, fBk (O n 1) ρ2 ρ4 q.1 = ρ2 q.1 := fun q hq => by
        unfold fBk
        by_cases w : q.1 ∈ O n 1
        · rw [if_pos w]
        · rw [if_neg w, kv1 q.1 (fun z => (hsco q hq).2 (ow_s ix z)), r3 q.1, if_neg w]
      have St : ∀ σt, rsW σ4 σt sv ((O n 1).map (slF σ)) → scY σ A D vb σt (fBk (O n 1) ρ2 ρ4) N sc := fun σt R => scY_u S2 (U24 σt R) bk1 (fun q hq w => (hsco q hq).2 (ow_s (fun z hz => by
        rcases List.mem_cons.mp hz with q | q
        · simp [q]
        · exact ix z q) w))
      obtain ⟨m4, rfl⟩ : ∃ m', m4 = m' + 1 := ⟨m4 - 1, by omega⟩
      refine zy_turn (W1 := (O n 1).map (slF σ)) (cv := cv) (Ob := O n 2) (sl := slF σ) (ty := bTy A D (sg_g σ 6)) (ρ := fBk (O n 1) ρ2 ρ4) (s := s4') (by rw [ml]; exact h4) x4 svb (by omega) p5 ⟨t2.1, c2⟩ ⟨ry.1, by omega⟩ h8y rfl rfl ry1 h16 n4.1 (by omega) n4.2.1 (yX_up e24 v2) lcv n4.2.2 ⟨by omega, by omega, by rw [ml]; omega⟩ (wl_nd (hOs n 1)) W272 s72 (hOs n 2) (hOm 2 y Ly b2 b' (Or.inr rfl) hk2y ry yL sty q3 (by omega) iy) (fun σt R => (cy_sc (sg_F_t h4.1 (sg_F_m R.1 rfl)) hSl (St σt R) hsl oy).1) (fun e ef2 σ' g1 g2 g3 g4 => ?_) (fun s5 ρ5 ef2 σt σ5 Rt h5 x5 B5 wO2 v70' => ?_)
      · rw [ef2] at k; exact k σ' g1 g2 g3 g4
      rw [ef2] at k
      simp only at k
      have r5 := fCa_e ((hO n).1 2) ef2
      have s5s := (fCa_s ef2).1
      have sb5 := x5.2.2.2.1
      have W2l : (O n 2).length ≤ Ly.length := by
        rcases wO2 with z | z
        · omega
        · rw [z]; exact Nat.zero_le _
      have vO2 := (cy_sc (sg_F_t h4.1 (sg_F_m Rt.1 rfl)) hSl (St σt Rt) hsl oy).2
      have S5 := sc_br (St σt Rt) B5 r5
      have puy := hP y Ly _ sty1 (fWh false cv).length ρ5 s5
      refine F y Ly es _ b2 b' (p + 1 + (cd A f a).length + 1 + (cd A f x).length + 1) h' sty1 (fun z hz => hL z (iy z hz)) (gR_s hg iy) q3 (slQ_f hsl (by omega)) (by omega) p7 hb σ5 m4 ρ5 (t + 1) (sv + (O n 2).length) (c + 4) (cr + 3) (fWh false cv).length s5 h5 x5 S5 (by omega) (by omega) (by omega) (by omega) ?_
      generalize fxN A D (sg_g σ 6) B O call f y (fWh false cv).length ρ5 s5 = r at k puy
      match r, k, puy with
      | .inl e, k, _ => exact fun σ' q1 q2 q3 q4 => k σ' q1 q2 q3 q4
      | .inr (v2', s6', ρ6), k, puy =>
        obtain ⟨lv2, kv2⟩ := puy v2' s6' ρ6 (fun q hq => (S5 q hq).2.2.2) rfl
        intro σ6 m6 hm6 h6 x6 u6 v6
        simp only at k hm6 h6 x6 u6 v6
        have sb6 := x6.2.2.2.1
        have n6 : sg_g σ6 69 n = N ∧ sg_g σ6 70 n = sg_g σ2 64 t ∧ sg_g σ6 71 n = sv := by
          obtain ⟨z1, z2, z3⟩ := u6.2.2.2.2.1 n nln ny
          rw [z1, z2, z3, (B5.2.2.2.1 n).2.2]
          refine ⟨?_, v70', B5.2.2.2.2.2.1⟩
          rw [sg_F_ga Rt.1 rfl]; exact n4.1
        have e46 : yEx σ4 σ6 := yEx_t (yEx_F Rt.1 rfl) (yEx_t B5.1 u6.1)
        have W272' : ∀ z ∈ (O n 2).map (slF σ), 0 ≤ z ∧ z < 272 := fun z hz => by
          obtain ⟨w, hw, e⟩ := List.mem_map.mp hz
          rw [← e]; exact hSl.1 w (vO2 w hw)
        have s72' : ∀ (i : Nat) (z : Int), ((O n 2).map (slF σ))[i]? = some z → sg_g σ6 72 (sv + i) = z := fun i z hz => by
          have hi := gE_l hz
          rw [ml] at hi
          rw [(u6.2.2.2.1 (sv + i) (by omega)).1]
          exact (B5.2.2.2.2.2.2.1 i z hz).1
        have t64 : sg_g σ6 64 t = sg_g σ4 64 t := by
          rw [u6.2.1 t (by omega), (B5.2.2.2.1 t).1, sg_F_ga Rt.1 rfl]
        obtain ⟨k0, k3⟩ := t3
        obtain ⟨m6, rfl⟩ : ∃ m', m6 = m' + 1 := ⟨m6 - 1, by omega⟩
        refine zy_join (W := (O n 2).map (slF σ)) (dD := (sg_g σ 6 n).toNat) (ch := sg_g σ2 64 t) (N := N) (cv := cv) (v1 := v1) (v2 := v2') (s := s6') (by rw [ml, show t + 2 = t + 1 + 1 by omega]; exact h6) x6 svb ⟨by omega, tb⟩ (by omega) p8 ⟨t2.1, c2⟩ (by omega) (by omega) n6.1 (by omega) n6.2.1 (yX_up (yEx_t e24 e46) v2) lcv ?_ ?_ (by rw [lv1, fWh_l]) (by rw [lv2, fWh_l]) n6.2.2 (by rw [ml]; omega) (wl_nd (hOs n 2)) W272' s72' (fun ef3 σ' g1 g2 g3 => ?_) (fun s7 ef3 σ7 h7 x7 e67 v7 z64 z62 z62' zr => ?_)
        · rw [t64, e6n]; exact yX_up e46 v4
        · rw [e6n, e6x]; exact v6
        · rw [ef3] at k
          exact k σ' g1 g2 g3 (by show ¬ (8 : Int) = 0; decide)
        · rw [ef3] at k
          simp only at k
          have s7s := (fStp_s ef3).1
          have u7 := br_Y hSl vO2 B5 r5 u6 e67 (show t ≤ t + 1 by omega) z64 zr ⟨z62, z62'⟩
          have U1 : yU σ A D vb lev j σ8 σt ρ (fBk (O n 1) ρ2 ρ4) t sv nl dix (n :: L1) := yU_t u12 (U24 σt Rt) ⟨by omega, by omega⟩ ⟨by omega, by omega⟩ (fun z hz => hz) (fun z hz => by
            rcases List.mem_cons.mp hz with q | q
            · simp [q]
            · exact ix z q)
          have U2 : yU σ A D vb lev j σ8 σ7 ρ (fBk (O n 2) (fBk (O n 1) ρ2 ρ4) ρ6) t sv nl dix (n :: L1) := yU_t U1 u7 ⟨by omega, by omega⟩ ⟨by omega, by omega⟩ (fun z hz => hz) (fun z hz => by
            rcases List.mem_cons.mp hz with q | q
            · simp [q]
            · exact iy z q)
          refine k σ7 m6 (by show 6 * (2001 - s7.1) + cr ≤ (m6 : Int); omega) ?_ x7 U2 v7
          simp only [List.length_cons, List.length_append, List.length_nil]
          rw [show p + (((cd A f a).length + ((cd A f x).length + ((cd A f y).length + (0 + 1) + 1) + 1) + 1 : Nat) : Int) = p + 1 + (cd A f a).length + 1 + (cd A f x).length + 1 + (cd A f y).length + 1 by omega]
          exact bP_m h7 ⟨c0, by omega⟩
end CYA
/-! BIG STEPS of the class's flat run, exactly: open, sift, collect in one turn each; within a { }. -/
section CZA
variable {σ : sg_S} {A : aT} {D : List aDf} {vb : Int → Prop} {X : sg_S → Prop} {lev : Int → Nat} {j : Nat}
theorem opX2_l {K : List Nat} {σ0 σ1 σ' : sg_S} {a g t sv c bd : Int} {dg : Nat → Nat} {Ob : List Int} {sl ty : Int → Int} {vs : List (List vaF)} {s3 : fSt} {ρ3 : fEv} (f : sg_F K σ0 σ1) (ex : yEx σ0 σ1) (hK : (sg_ca K 62 && sg_ca K 64 && sg_ca K 70 && sg_ca K 71 && sg_ca K 72 && sg_ca K 73) = true) (h : opX2 σ1 σ' a g t sv c bd dg Ob sl ty vs s3 ρ3) : opX2 σ0 σ' a g t sv c bd dg Ob sl ty vs s3 ρ3 := by
  simp only [Bool.and_eq_true] at hK
  obtain ⟨⟨⟨⟨⟨k1, k2⟩, k3⟩, k4⟩, k5⟩, k6⟩ := hK
  obtain ⟨h1, h2, h3, h4, h5, h6, h7, h8, h9, h10, h11, h12, h13, h14, h15⟩ := h
  refine ⟨h1, yEx_t ex h2, h3, h4, h5, fun s a b => by rw [h6 s a b, sg_F_ga f k1], h7, h8, by rw [h9, sg_F_ga f k2], fun i hi => by rw [h10 i hi, sg_F_ga f k3], h11, h12, fun i hi => by rw [h13 i hi, sg_F_ga f k4], fun i y hy => ?_, fun i hi => ?_⟩
  · obtain ⟨u1, u2⟩ := h14 i y hy
    exact ⟨u1, by rw [u2, sg_F_ga f k1]⟩
  · obtain ⟨u1, u2⟩ := h15 i hi
    exact ⟨by rw [u1, sg_F_ga f k5], by rw [u2, sg_F_ga f k6]⟩
variable {σ8 : sg_S} {m N : Nat} {t sv c p n : Int} {C : List (Int × Int)} {s : fSt} {ρ : fEv} {Ob : List Int} {sl ty : Int → Int}
/-- OPEN -/
theorem zy_open {g bd gd plo phi x : Int} {dg : Nat → Nat} {vs : List (List vaF)} (h : bP σ σ8 (t + g) sv N c p) (hs : ctX σ8 s) (hc : 4 ≤ c) (h0 : t + g ≤ 400 ∧ 0 ≤ t) (hp : pl σ p ((10, n) :: C)) (hn : 0 ≤ n ∧ n < 200) (hx : 0 ≤ x ∧ x < 200) (h13 : sg_g σ 13 n = g) (hg : 1 ≤ g ∧ g ≤ 4) (h8' : sg_g σ 8 n = x) (h14 : sg_g σ 14 n = gd) (hgd : 0 ≤ gd → gd < 200 ∧ plo ≤ sg_g σ 11 gd ∧ sg_g σ 12 gd ≤ phi) (hpp : plo ≤ sg_g σ 11 x ∧ sg_g σ 12 x ≤ phi ∧ 0 ≤ plo ∧ phi < 200) (h16 : sg_g σ 16 n = bd) (hbd : 0 ≤ bd ∧ bd + g ≤ 272) (hgl : (vs.length : Int) = g) (hv : ∀ i : Nat, (i : Int) < g → yX σ8 (dg i + 1) (sg_g σ8 64 (t + i)) (vs.getD i []) ∧ (vs.getD i []).length = N) (hs0 : sv ≤ 2400 ∧ sv + (phi - plo + 1) ≤ 2400) (hOs : (Ob.map sl).Pairwise (· < ·)) (hOm : ∀ s, s ∈ Ob.map sl ↔ opU σ (sg_g σ 11 x) (sg_g σ 12 x) gd (sg_g σ 11 gd) (sg_g σ 12 gd) bd s) (hT : ∀ y ∈ Ob, cyT σ8 sl ty ρ N y) (k3 : ¬ eaE N vs → ∀ σ', sg_F bRL σ σ' → sg_g σ' 61 10 = 3 → ctX σ' s → X σ') (k0 : eaE N vs → ∀ e, fCa ty (fRp N ((vs.getD 0 []).map (fun v => (itF v).length))) Ob s ρ = .inl e → ∀ σ', sg_F bRL σ σ' → sg_g σ' 61 10 = e.1 → ctX σ' e.2 → ¬ e.1 = 0 → X σ') (k : eaE N vs → ∀ s3 ρ3, fCa ty (fRp N ((vs.getD 0 []).map (fun v => (itF v).length))) Ob s ρ = .inr (s3, ρ3) → ∀ σ', bP σ σ' t (sv + Ob.length) (((vs.getD 0 []).map (fun v => (itF v).length)).sum : Nat) c (p + 1) → opX2 σ8 σ' n g t sv c bd dg Ob sl ty vs s3 ρ3 → ((Ob.length : Int) ≤ phi - plo + 1 ∨ Ob = []) → (∀ i, sg_g σ' 64 i = sg_g σ8 64 i ∧ sg_g σ' 63 i = sg_g σ8 63 i ∧ sg_g σ' 69 i = sg_g σ8 69 i) → Ry σ X m σ') : Ry σ X (m + 1) σ8 := by
  obtain ⟨p0, p1, p2, p3⟩ := pl_c hp
  refine ry_10 (p := p) (k := n) h.2.2.1.2.2.2 p0 h.2.1.2.2.1 p1 p2 (fun σ32 e32 => ?_)
  obtain ⟨h32, f32⟩ := bP_32 h ⟨p0.2, p0.1⟩ e32
  obtain ⟨a1, a2, ⟨a3, a4, a5, a6⟩, a7, a8, a9, a10⟩ := id h32
  have e8 : yEx σ8 σ32 := yEx_F f32 rfl
  refine f_openX (a := n) (g := g) (n := N) (t := t) (sv := sv) (c := c) (bd := bd) (lo := sg_g σ 11 x) (hi := sg_g σ 12 x) (gd := gd) (glo := sg_g σ 11 gd) (ghi := sg_g σ 12 gd) (plo := plo) (phi := phi) (x := x) (dg := dg) (vs := vs) (Ob := Ob) (sl := sl) (ty := ty) (ρ := ρ) (s := s) hn hx (by rw [sg_F_ga a1 rfl]; exact h13) hg (by rw [sg_F_ga a1 rfl]; exact h8') (sg_F_ga a1 rfl) (sg_F_ga a1 rfl) (by rw [sg_F_ga a1 rfl]; exact h14) (fun z => ⟨(hgd z).1, sg_F_ga a1 rfl, sg_F_ga a1 rfl, (hgd z).2⟩) ⟨hpp.1, hpp.2.1, hpp.2.2⟩ (by rw [sg_F_ga a1 rfl]; exact h16) hbd a2 (ctX_F f32 rfl hs) hc a3 ⟨h0.2, h0.1⟩ a5 (by omega) hgl (fun i hi => ⟨by rw [sg_F_ga f32 rfl]; exact yX_up e8 (hv i hi).1, (hv i hi).2⟩) a4 ⟨a9, hs0⟩ hOs (fun s => by rw [hOm s, opU_F a1 rfl]) (fun y hy => cyT_F f32 e8 rfl (hT y hy)) (fun hE σ' f' z1 z2 _ => ry_s (by rw [z1]; decide) (k3 hE σ' (sg_F_t a1 (sg_F_m f' rfl)) z1 z2)) (fun hE e ef σ' f' z0 z1 z2 _ => ry_s (by rw [z1]; exact z0) (k0 hE e ef σ' (sg_F_t a1 (sg_F_m f' rfl)) z1 z2 z0)) (fun hE s3 ρ3 ef σ' f' r' w _ => ?_)
  obtain ⟨r1, r2, r3, r4, r5, r6, r7, r8, r9, r10, r11, r12, r13, r14, r15⟩ := id r'
  have y0' := (yX_c (r5 0 (by omega))).1
  have g6 := r1.1.2.1
  have M6 : (((vs.getD 0 []).map (fun v => (itF v).length)).sum : Int) ≤ 6000 := by
    rw [← flF_l]
    have := y0'.2.2
    omega
  exact k hE s3 ρ3 ef σ' ⟨sg_F_t a1 (sg_F_m f' rfl), r1, ⟨r8, r11, r7, by rw [sg_F_g f' (by rfl)]; exact a6⟩, ⟨by omega, by omega⟩, h0.2, by omega, a10⟩ (opX2_l f32 e8 rfl r') w (fun i => ⟨by rw [sg_F_ga f' rfl, sg_F_ga f32 rfl], by rw [sg_F_ga f' rfl, sg_F_ga f32 rfl], by rw [sg_F_ga f' rfl, sg_F_ga f32 rfl]⟩)
/-- SIFT -/
theorem zy_sift {x bd g : Int} {M dg dc : Nat} {v0 cv : List vaF} (h : bP σ σ8 (t + 1) sv M c p) (hs : ctX σ8 s) (hc : 4 ≤ c) (h0 : t < 400 ∧ 0 ≤ t) (hp : pl σ p ((11, n) :: C)) (hn : 0 ≤ n ∧ n < 200) (hx : 0 ≤ x ∧ x < 200) (h8' : sg_g σ 8 n = x) (hl : 0 ≤ sg_g σ 11 x ∧ sg_g σ 12 x < 200) (h16 : sg_g σ 16 n = bd) (h13 : sg_g σ 13 n = g) (hbd : 0 ≤ bd ∧ 0 ≤ g ∧ bd + g ≤ 272) (h69 : sg_g σ8 69 n = N) (hN : N ≤ 6000) (hG : yX σ8 (dg + 1) (sg_g σ8 70 n) v0) (hv0 : v0.length = N) (hmm : (v0.map (fun v => (itF v).length)).sum = cv.length) (hch : yX σ8 dc (sg_g σ8 64 t) cv) (hcl : cv.length = M) (hOs : (Ob.map sl).Pairwise (· < ·)) (hOm : ∀ s, s ∈ Ob.map sl ↔ wnt σ (sg_g σ 11 x) (sg_g σ 12 x) (bd + g) s) (hT : ∀ y ∈ Ob, cyT σ8 sl ty ρ M y) (k0 : ∀ e, fCa ty (fWh true cv) Ob s ρ = .inl e → ∀ σ', sg_F bRL σ σ' → sg_g σ' 61 10 = e.1 → ctX σ' e.2 → ¬ e.1 = 0 → X σ') (k1 : ∀ s5 ρ6, fCa ty (fWh true cv) Ob s ρ = .inr (s5, ρ6) → fStp (N : Int) s5 = none → ∀ σ', sg_F bRL σ σ' → sg_g σ' 61 10 = 8 → ctX σ' s5 → X σ') (k : ∀ s5 ρ6, fCa ty (fWh true cv) Ob s ρ = .inr (s5, ρ6) → ∀ s6, fStp (N : Int) s5 = some s6 → ∀ σ', bP σ σ' t sv (fWh true cv).length c (p + 1) → ctX σ' s6 → yEx σ8 σ' → (∀ y ∈ Ob, yX σ' (ty y).toNat (sg_g σ' 62 (sl y)) (ρ6 y)) → (∀ s, s ∉ Ob.map sl → sg_g σ' 62 s = sg_g σ8 62 s) → (∀ i, sg_g σ' 64 i = sg_g σ8 64 i ∧ sg_g σ' 63 i = sg_g σ8 63 i ∧ sg_g σ' 69 i = sg_g σ8 69 i ∧ sg_g σ' 71 i = sg_g σ8 71 i ∧ sg_g σ' 72 i = sg_g σ8 72 i ∧ sg_g σ' 73 i = sg_g σ8 73 i) → (∀ i, ¬ i = n → sg_g σ' 70 i = sg_g σ8 70 i) → rwX σ' (sg_g σ' 70 n) (ctL (v0.map (fun v => (itF v).length)) cv) → Ry σ X m σ') : Ry σ X (m + 1) σ8 := by
  obtain ⟨p0, p1, p2, p3⟩ := pl_c hp
  refine ry_11 (p := p) (k := n) h.2.2.1.2.2.2 p0 h.2.1.2.2.1 p1 p2 (fun σ32 e32 => ?_)
  obtain ⟨h32, f32⟩ := bP_32 h ⟨p0.2, p0.1⟩ e32
  obtain ⟨a1, a2, ⟨a3, a4, a5, a6⟩, a7, a8, a9, a10⟩ := id h32
  have e8 : yEx σ8 σ32 := yEx_F f32 rfl
  have wl := cwF_le true cv
  rw [← fWh_l] at wl
  refine f_siftX (a := n) (x := x) (lo := sg_g σ 11 x) (hi := sg_g σ 12 x) (bd := bd) (g := g) (n := M) (n0 := N) (c := c) (t := t) (dg := dg) (v0 := v0) (cv := cv) (Ob := Ob) (sl := sl) (ty := ty) (ρ := ρ) (s := s) hn hx (by rw [sg_F_ga a1 rfl]; exact h8') (sg_F_ga a1 rfl) (sg_F_ga a1 rfl) hl (by rw [sg_F_ga a1 rfl]; exact h16) (by rw [sg_F_ga a1 rfl]; exact h13) hbd a2 (ctX_F f32 rfl hs) hc a3 ⟨h0.2, h0.1⟩ a5 (by omega) (by rw [sg_F_ga f32 rfl]; exact h69) hN (by rw [sg_F_ga f32 rfl]; exact yX_up e8 hG) hv0 hmm (by rw [sg_F_ga f32 rfl]; exact yX_up e8 hch) hcl hOs (fun s => by rw [hOm s, wnt_F a1 rfl]) (fun y hy => cyT_F f32 e8 rfl (hT y hy)) (fun e ef σ' f' z0 z1 z2 _ => ry_s (by rw [z1]; exact z0) (k0 e ef σ' (sg_F_t a1 (sg_F_m f' rfl)) z1 z2 z0)) (fun s5 ρ6 ef z σ' f' z1 z2 _ => ry_s (by rw [z1]; decide) (k1 s5 ρ6 ef z σ' (sg_F_t a1 (sg_F_m f' rfl)) z1 z2)) (fun s5 ρ6 ef s6 z σ' f' r' w1 w2 w3 w4 _ => ?_)
  obtain ⟨r1, r2, r3, r4, r5⟩ := r'
  exact k s5 ρ6 ef s6 z σ' ⟨sg_F_t a1 (sg_F_m f' rfl), r1, ⟨w2, by rw [sg_F_g f' (by rfl)]; exact a4, w1, by rw [sg_F_g f' (by rfl)]; exact a6⟩, ⟨by omega, by omega⟩, h0.2, a9, a10⟩ r3 (yEx_t e8 r2) r4 (fun s hs => by rw [r5 s hs, sg_F_ga f32 rfl]) (fun i => ⟨by rw [sg_F_ga f' rfl, sg_F_ga f32 rfl], by rw [sg_F_ga f' rfl, sg_F_ga f32 rfl], by rw [sg_F_ga f' rfl, sg_F_ga f32 rfl], by rw [sg_F_ga f' rfl, sg_F_ga f32 rfl], by rw [sg_F_ga f' rfl, sg_F_ga f32 rfl], by rw [sg_F_ga f' rfl, sg_F_ga f32 rfl]⟩) (fun i hi => by rw [w3 i hi, sg_F_ga f32 rfl]) w4
/-- within a { }: Ob are the variables saved, ln the lengths -/
def bIX (σ : sg_S) (A : aT) (D : List aDf) (vb : Int → Prop) (lev : Int → Nat) (j : Nat) (σ2 σ5 : sg_S) (ρ2 ρ5 : fEv) (t sv nl dix n : Int) (Ob L : List Int) (ln : List Nat) : Prop := yEx σ2 σ5 ∧ (∀ i, i < t → sg_g σ5 64 i = sg_g σ2 64 i) ∧ (∀ b, vb b → ¬ ow lev j (n :: L) b → b ∉ Ob → rlY σ A D σ2 ρ2 b → rlY σ A D σ5 ρ5 b) ∧ (∀ i, i < sv → sg_g σ5 72 i = sg_g σ2 72 i ∧ sg_g σ5 73 i = sg_g σ2 73 i) ∧ (∀ x, nl ≤ x → x ∉ n :: L → sg_g σ5 69 x = sg_g σ2 69 x ∧ sg_g σ5 70 x = sg_g σ2 70 x ∧ sg_g σ5 71 x = sg_g σ2 71 x) ∧ (∀ q, dix ≤ q → sg_g σ5 63 q = sg_g σ2 63 q) ∧ svd σ2 σ5 sv (Ob.map (slF σ)) ∧ (sg_g σ5 69 n = ln.length ∧ sg_g σ5 71 n = sv) ∧ rwX σ5 (sg_g σ5 70 n) ln
theorem bIX_u {σ2 σ5 σ6 : sg_S} {ρ2 ρ5 ρ6 : fEv} {nl dix t1 : Int} {L Lx L' : List Int} {ln : List Nat} (h : bIX σ A D vb lev j σ2 σ5 ρ2 ρ5 t sv nl dix n Ob L ln) (u : yU σ A D vb lev j σ5 σ6 ρ5 ρ6 t1 (sv + Ob.length) nl dix Lx) (hn : nl ≤ n) (hx : n ∉ Lx) (ht : t ≤ t1) (hL : ∀ x ∈ L, x ∈ L') (hLx : ∀ x ∈ Lx, x ∈ L') : bIX σ A D vb lev j σ2 σ6 ρ2 ρ6 t sv nl dix n Ob L' ln := by
  obtain ⟨i1, i2, i3, i4, i5, i6, i7, ⟨i8, i9⟩, i10⟩ := h
  obtain ⟨u1, u2, u3, u4, u5, u6⟩ := u
  obtain ⟨z1, z2, z3⟩ := u5 n hn hx
  refine ⟨yEx_t i1 u1, fun i hi => by rw [u2 i (by omega), i2 i hi], fun b hb ho hn' hr => u3 b hb (fun w => ho (ow_s (fun y hy => by simp [hLx y hy]) w)) (i3 b hb (fun w => ho (ow_s (fun y hy => by
    rcases List.mem_cons.mp hy with q | q
    · simp [q]
    · simp [hL y q]) w)) hn' hr), fun i hi => ?_, fun x q r => ?_, fun q hq => by rw [u6 q hq, i6 q hq], fun i x hx => ?_, ⟨by rw [z1]; exact i8, by rw [z3]; exact i9⟩, by rw [z2]; exact rwX_up u1 i10⟩
  · obtain ⟨v1, v2⟩ := u4 i (by omega)
    rw [v1, v2]; exact i4 i hi
  · obtain ⟨v1, v2, v3⟩ := u5 x q (fun z => r (by simp [hLx x z]))
    rw [v1, v2, v3]
    exact i5 x q (fun z => r (by
      rcases List.mem_cons.mp z with y | y
      · simp [y]
      · simp [hL x y]))
  · have hi := gE_l hx
    rw [List.length_map] at hi
    obtain ⟨v1, v2⟩ := u4 (sv + i) (by omega)
    rw [v1, v2]; exact i7 i x hx
/-- NEXT, and the end of a { } -/
theorem zy_coll {σ2 : sg_S} {M nl dix : Int} {d : Nat} {L : List Int} {ρ2 ρ5 : fEv} {ln : List Nat} {v : List vaF} (h : bP σ σ8 (t + 1) (sv + Ob.length) M c p) (hs : ctX σ8 s) (hSl : slA σ vb) (hOb : ∀ y ∈ Ob, vb y) (hNd : (Ob.map (slF σ)).Nodup) (h0 : t < 400 ∧ 0 ≤ t) (hsv : 0 ≤ sv ∧ sv + Ob.length ≤ 2400) (hN : ln.length ≤ 6000) (hc : 1 ≤ c) (hp : pl σ p ((12, n) :: (1, n) :: C)) (hn : 0 ≤ n ∧ n < 200) (h3 : sg_g σ 3 n = 123) (hI : bIX σ A D vb lev j σ2 σ8 ρ2 ρ5 t sv nl dix n Ob L ln) (hit : yX σ8 d (sg_g σ8 64 t) v) (hsum : ln.sum = v.length) (k : ∀ σ', bP σ σ' (t + 1) sv ln.length (c - 1) (p + 2) → ctX σ' s → yU σ A D vb lev j σ2 σ' ρ2 (fBk Ob ρ2 ρ5) t sv nl dix (n :: L) → yX σ' (d + 1) (sg_g σ' 64 t) (fCt ln v) → Ry σ X m σ') : Ry σ X (m + 2) σ8 := by
  obtain ⟨p0, p1, p2, p3⟩ := pl_c hp
  refine ry_12 (p := p) (k := n) h.2.2.1.2.2.2 p0 h.2.1.2.2.1 p1 p2 (fun σ30 e30 => ?_)
  obtain ⟨h30, f30⟩ := bP_32 h ⟨p0.2, p0.1⟩ e30
  unfold V_fNext
  intro _
  obtain ⟨p4, p5, p6, p7⟩ := pl_c p3
  refine ry_1 (p := p + 1) (k := n) h30.2.2.1.2.2.2 p4 h30.2.1.2.2.1 p5 p6 (fun σ32 e32 => ?_)
  obtain ⟨h32, f31⟩ := bP_32 h30 ⟨p4.2, p4.1⟩ e32
  have f32 : sg_F [9061] σ8 σ32 := sg_F_t (sg_F_m f30 rfl) (sg_F_m f31 rfl)
  obtain ⟨a1, a2, ⟨a3, a4, a5, a6⟩, a7, a8, a9, a10⟩ := id h32
  unfold V_mFinish
  rw [xa_in (a := 3) hn, show sg_g σ32 3 n = 123 by rw [sg_F_ga a1 rfl]; exact h3]
  intro σ1 e1
  have f1 : sg_F [10061] σ32 σ1 := by rw [e1]; exact sg_F_w (sg_F_r _ _) rfl _
  refine ⟨fun z => absurd z (by decide), fun _ => ⟨fun z => absurd z (by decide), fun _ => ⟨fun z => absurd z (by decide), fun _ => ?_⟩⟩⟩
  have F1 : sg_F [9061, 10061] σ8 σ1 := sg_F_t (sg_F_m f32 rfl) (sg_F_m f1 rfl)
  have e8 : yEx σ8 σ1 := yEx_F F1 rfl
  obtain ⟨i1, i2, i3, i4, i5, i6, i7, ⟨i8, i9⟩, i10⟩ := hI
  have ml : ((Ob.map (slF σ)).length : Int) = Ob.length := by rw [List.length_map]
  refine f_collectX (W := Ob.map (slF σ)) (a := n) (sb := sv) (t := t) (c := c) (d := d) (ln := ln) (v := v) (s := s) hn (mC_F a2 f1 rfl) (ctX_F F1 rfl hs) hc (by rw [sg_F_g f1 (by rfl)]; exact a3) ⟨h0.2, h0.1⟩ (by rw [sg_F_ga F1 rfl]; exact i8) (by rw [sg_F_ga F1 rfl]; exact rwX_up e8 i10) (by rw [sg_F_ga F1 rfl]; exact yX_up e8 hit) hsum (by rw [sg_F_ga F1 rfl]; exact i9) (by rw [sg_F_g f1 (by rfl), ml]; exact a4) (by rw [ml]; exact hsv) hNd (fun x hx => by
    obtain ⟨y, hy, e⟩ := List.mem_map.mp hx
    rw [← e]; exact hSl.1 y (hOb y hy)) (fun i x hx => by rw [sg_F_ga F1 rfl]; exact (i7 i x hx).1) (fun σ' f' z1 z1' z2 z3 z4 z5 z6 z7 z8 z9 _ _ => ?_)
  have ex := yEx_t i1 (yEx_t e8 z2)
  refine k σ' ⟨sg_F_t a1 (sg_F_t (sg_F_m f1 rfl) (sg_F_m f' rfl)), z1, ⟨z5, z4, z3, by rw [sg_F_g f' (by rfl), sg_F_g f1 (by rfl), a6]; omega⟩, ⟨by omega, by omega⟩, by omega, hsv.1, by omega⟩ z1' ⟨ex, fun i hi => by rw [z7 i hi, sg_F_ga F1 rfl, i2 i hi], fun b hb ho hr => ?_, fun i hi => ?_, fun x q r => ?_, fun q hq => by rw [sg_F_ga f' rfl, sg_F_ga F1 rfl, i6 q hq]⟩ z6
  · show yX σ' _ (sg_g σ' 62 (slF σ b)) (if b ∈ Ob then ρ2 b else ρ5 b)
    by_cases cc : b ∈ Ob
    · rw [if_pos cc]
      obtain ⟨i, hi'⟩ := List.mem_iff_getElem?.mp cc
      have gg : (Ob.map (slF σ))[i]? = some (slF σ b) := by rw [List.getElem?_map, hi']; rfl
      rw [z8 i _ gg, sg_F_ga F1 rfl, (i7 i _ gg).2]
      exact yX_up ex hr
    · rw [if_neg cc]
      have ns : slF σ b ∉ Ob.map (slF σ) := fun w => by
        obtain ⟨y, hy, e⟩ := List.mem_map.mp w
        exact cc (by rw [← hSl.2 y b (hOb y hy) hb e]; exact hy)
      rw [z9 _ ns, sg_F_ga F1 rfl]
      exact yX_up (yEx_t e8 z2) (i3 b hb ho cc hr)
  · rw [sg_F_ga f' rfl, sg_F_ga F1 rfl, sg_F_ga f' rfl, sg_F_ga F1 rfl]
    exact i4 i hi
  · rw [sg_F_ga f' rfl, sg_F_ga F1 rfl, sg_F_ga f' rfl, sg_F_ga F1 rfl, sg_F_ga f' rfl, sg_F_ga F1 rfl]
    exact i5 x q r
end CZA
