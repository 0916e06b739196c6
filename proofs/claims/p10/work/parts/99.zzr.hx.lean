/-! BIG STEPS: if. -/
theorem rng_len : ∀ (k : Nat) (lo : Int) (L : List Int), (∀ i : Nat, i < k → lo + i ∈ L) → k ≤ L.length
  | 0, _, _, _ => Nat.zero_le _
  | k + 1, lo, L, h => by
    have hm := h k (by omega)
    have := rng_len k lo (L.erase (lo + k)) (fun i hi => (List.mem_erase_of_ne (by omega)).mpr (h i (by omega)))
    rw [List.length_erase_of_mem hm] at this
    have := List.length_pos_of_mem hm
    omega
theorem fT_inq {A : aT} (hk : ∀ k, 0 ≤ k → k < A.1 → ∀ x ∈ A.2.2.2.2.1 k, 0 ≤ x ∧ x < A.1) {R L : List Int} (h : fT A R L) : (∀ x ∈ R, 0 ≤ x ∧ x < A.1) → ∀ x ∈ L, 0 ≤ x ∧ x < A.1 := by
  refine fT_ind (A := A) (M := fun R L => (∀ x ∈ R, 0 ≤ x ∧ x < A.1) → ∀ x ∈ L, 0 ≤ x ∧ x < A.1) (fun h => h) (fun n ns L1 L2 _ _ _ i1 i2 => ?_) h
  intro hR x hx
  have hn := hR n (by simp)
  rcases List.mem_cons.mp hx with e | e
  · rw [e]; exact hn
  · rcases List.mem_append.mp e with e | e
    · exact i1 (hk n hn.1 hn.2) x e
    · exact i2 (fun y hy => hR y (by simp [hy])) x e
theorem kmp_n {k : Int} (h : kmp k = 258) : k = 1 := by
  unfold kmp at h
  repeat' split at h
  all_goals omega
/-- the range of a part -/
theorem rg_b {σ : sg_S} {A : aT} {x nl : Int} {L Lx : List Int} (hW : ckW σ A) (hnl : 0 ≤ nl) (hx : 0 ≤ x ∧ x < A.1) (hg : gRq σ A L) (hxL : x ∈ L) (hf : fT A [x] Lx) (hL : ∀ y ∈ Lx, nl ≤ y) : (0 ≤ sg_g σ 11 x ∧ sg_g σ 12 x < 200) ∧ sg_g σ 12 x - sg_g σ 11 x + 1 ≤ Lx.length ∧ sg_g σ 11 x ≤ x ∧ x ≤ sg_g σ 12 x ∧ nl ≤ sg_g σ 11 x := by
  have r := hg x hxL Lx hf
  have xx : x ∈ Lx := fT_sub hf x (by simp)
  have x0 := (r x).mp xx
  have h1 := (r (sg_g σ 11 x)).mpr ⟨by omega, by omega⟩
  have h2 := (r (sg_g σ 12 x)).mpr ⟨by omega, by omega⟩
  have i2 := fT_inq (fun k a b => (hW.2.2 k a b).2) hf (by intro y hy; simp at hy; rw [hy]; exact hx) _ h2
  have l1 := hL _ h1
  have := hW.1
  have len := rng_len (sg_g σ 12 x - sg_g σ 11 x + 1).toNat (sg_g σ 11 x) Lx (fun i hi => (r _).mpr ⟨by omega, by omega⟩)
  omega
theorem wnt_j {σ : sg_S} {A : aT} {x bx bx' dix bd : Int} {L Lx es : List Int} {f : Nat} (hW : ckW σ A) (hx : 0 ≤ x ∧ x < A.1) (hg : gRq σ A L) (hxL : x ∈ L) (hf : fT A [x] Lx) (hs : scN σ A dix f es x bx bx') (hb : bd ≤ bx) {s : Int} (h : wnt σ (sg_g σ 11 x) (sg_g σ 12 x) bd s) : s ∈ es ∧ ∃ j ∈ Lx, A.2.1 j = 1 ∧ sg_g σ 16 j = s := by
  obtain ⟨j, j1, j2, j3, j4, j5⟩ := h
  have jL := (hg x hxL Lx hf j).mpr ⟨j1, j2⟩
  have jr := fT_inq (fun k a b => (hW.2.2 k a b).2) hf (by intro y hy; simp at hy; rw [hy]; exact hx) _ jL
  have c := (ck3 hW jr).1
  rw [j3] at c
  have kj := kmp_n c.symm
  refine ⟨?_, j, jL, kj, j4⟩
  rcases scN_v f es x bx bx' Lx hf hs j jL kj with q | q
  · rw [← j4]; exact q
  · omega
theorem wnt_i {σ : sg_S} {A : aT} {x bd : Int} {L Lx es : List Int} (hW : ckW σ A) (hx : 0 ≤ x ∧ x < A.1) (hg : gRq σ A L) (hxL : x ∈ L) (hf : fT A [x] Lx) {j : Int} (hj : j ∈ Lx) (hk : A.2.1 j = 1) (hb : sg_g σ 16 j < bd) : wnt σ (sg_g σ 11 x) (sg_g σ 12 x) bd (sg_g σ 16 j) := by
  have r := (hg x hxL Lx hf j).mp hj
  have jr := fT_inq (fun k a b => (hW.2.2 k a b).2) hf (by intro y hy; simp at hy; rw [hy]; exact hx) _ hj
  exact ⟨j, r.1, r.2, by rw [(ck3 hW jr).1, hk]; rfl, rfl, hb⟩
/-- slots put back -/
def rs (σc σd : sg_S) (sv : Int) (W : List Int) : Prop := (∀ (i : Nat) (x : Int), W[i]? = some x → sg_g σd 62 x = sg_g σc 73 (sv + i)) ∧ ∀ x, x ∉ W → sg_g σd 62 x = sg_g σc 62 x
/-- a branch from its beginning to where its slots are put back -/
theorem br_U {σ σa σb σc σd : sg_S} {n sv m lo b1 e1 nl dix t t1 : Int} {W Lx : List Int} (hB : bB σ σa σb n sv m W) (hU : bU σb σc lo b1 e1 nl dix t1 (sv + W.length) Lx) (he : yEx σc σd) (ht : t ≤ t1) (h64 : ∀ i, i < t → sg_g σd 64 i = sg_g σc 64 i) (hi : ∀ i, sg_g σd 63 i = sg_g σc 63 i ∧ sg_g σd 69 i = sg_g σc 69 i ∧ sg_g σd 70 i = sg_g σc 70 i ∧ sg_g σd 71 i = sg_g σc 71 i ∧ sg_g σd 72 i = sg_g σc 72 i ∧ sg_g σd 73 i = sg_g σc 73 i) (hr : rs σc σd sv W) : bU σa σd lo b1 e1 nl dix t sv (n :: Lx) := by
  obtain ⟨b1', b2, b3, b4, b5, b6, b7, b8, b9⟩ := hB
  obtain ⟨u1, u2, u3, u4, u5, u6⟩ := hU
  refine ⟨yEx_t b2 (yEx_t u1 he), fun i x => by rw [h64 i x, u2 i (by omega), (b5 i).1], fun s x y => ?_, fun i x => ?_, fun x q r => ?_, fun q hq => by rw [(hi q).1, u6 q hq, (b5 q).2.1]⟩
  · by_cases c : s ∈ W
    · obtain ⟨i, hi', e⟩ := List.mem_iff_getElem.mp c
      have g : W[i]? = some s := by rw [List.getElem?_eq_getElem hi', e]
      rw [hr.1 i s g, (u4 (sv + i) (by omega)).2, (b8 i s g).2]
    · rw [hr.2 s c, u3 s x y, b4 s c]
  · obtain ⟨-, -, -, -, i5, i6⟩ := hi i
    rw [i5, i6, (u4 i (by omega)).1, (u4 i (by omega)).2]
    exact b9 i x
  · obtain ⟨-, i2, i3, i4, -, -⟩ := hi x
    have xn : ¬ x = n := fun z => r (by simp [z])
    obtain ⟨v1, v2, v3⟩ := u5 x q (fun z => r (by simp [z]))
    rw [i2, i3, i4, v1, v2, v3, (b5 x).2.2, (b6 x xn).1, (b6 x xn).2]
    exact ⟨rfl, rfl, rfl⟩
section BIG
variable {σ : sg_S} {A : aT} {ds : kD} {B : Int → Int} {lo nl dix : Int} {f : Nat}
theorem bN_if (hW : ckW σ A) (hnl : 0 ≤ nl) (F : bN σ A ds B lo nl dix f) {n : Int} {L1 es : List Int} {sc : List (Int × Int)} {b b' p : Int} {h : Nat} (hk : A.2.1 n = 3) (hf : fT A (A.2.2.2.2.1 n) L1) (hNn : (n :: L1).Nodup) (hL : ∀ x ∈ n :: L1, nl ≤ x) (hg : gRq σ A (n :: L1)) (hty : tyN A ds (sg_g σ 6) B (f + 1) sc n) (hsc : scN σ A dix (f + 1) es n b b') (hh : htN A (f + 1) n ≤ h) (hp : pl σ p (cd A (f + 1) n)) (hS : bSq σ es lo b) (hb : b' ≤ 272) {σ8 : sg_S} {m : Nat} {t sv N c : Int} (h8 : bP σ σ8 t sv N c p) (hE : bE σ σ8 A (n :: L1) es N) (ht : t + (n :: L1).length + nl ≤ 400) (hv : sv + ((h * (n :: L1).length : Nat) : Int) + 12 * nl ≤ 2400) (k : ∀ σ' m', m' ≤ m → bP σ σ' (t + 1) sv N c (p + (cd A (f + 1) n).length) → bU σ8 σ' lo b b' nl dix t sv (n :: L1) → yV σ' (sg_g σ 6 n).toNat (sg_g σ' 64 t) N → Rr σ m' σ') : Rr σ m σ8 := by
  obtain ⟨t1, t2, t3, t4, t5, t6, t7, t8, t9⟩ := hty
  obtain ⟨c1, c2⟩ := ck3 hW t2
  obtain ⟨w1, w2, w3, w4, w5, w6, w7, w8⟩ := id t1
  have n2 : ¬ A.2.1 n = 2 := by omega
  have n15 : ¬ A.2.1 n = 15 := by omega
  have hl := w4 hk
  obtain ⟨a, x, y, hk2⟩ : ∃ a x y, A.2.2.2.2.1 n = [a, x, y] := by
    match hh : A.2.2.2.2.1 n with
    | [a, x, y] => exact ⟨a, x, y, rfl⟩
    | [] => rw [hh] at hl; simp at hl
    | [_] => rw [hh] at hl; simp at hl
    | [_, _] => rw [hh] at hl; simp at hl
    | _ :: _ :: _ :: _ :: _ => rw [hh] at hl; simp at hl
  have ho : kOrd A n = [a, x, y] := by unfold kOrd; rw [if_neg n15, hk2]
  have tys := t9 n2 n15
  rw [hk2] at tys
  have ta := tys a (by simp)
  have tx := tys x (by simp)
  have ty := tys y (by simp)
  obtain ⟨e6a, e6x, e6n⟩ : sg_g σ 6 a = 0 ∧ sg_g σ 6 x = sg_g σ 6 y ∧ sg_g σ 6 n = sg_g σ 6 x := by
    have := t5 (by omega)
    unfold kTy at this
    rw [hk2] at this
    simp only [hk] at this
    rw [if_neg (by decide), if_neg (by decide), if_neg (by decide), if_pos trivial] at this
    obtain ⟨i1, i2, i3⟩ := kIs_in this
    simp only [Bool.and_eq_true, decide_eq_true_eq] at i3
    exact ⟨i3.1, i3.2, i1⟩
  obtain ⟨s0, -, -, s2⟩ := hsc
  rw [ho] at s2
  have h16 := s0 hk
  have hcn : cnc A n = [(9, n)] := by unfold cnc; rw [if_neg n2, if_pos hk]
  have ah0 : ahd A n 0 = [] := by unfold ahd; rw [if_neg (by omega), if_neg (by omega), if_neg (by omega), if_neg (by omega)]
  have ah1 : ahd A n 1 = [(7, n)] := by unfold ahd; rw [if_neg (by omega), if_pos ⟨hk, by omega⟩, if_pos rfl]
  have ah2 : ahd A n 2 = [(8, n)] := by unfold ahd; rw [if_neg (by omega), if_pos ⟨hk, by omega⟩, if_neg (by decide)]
  have hcd : cd A (f + 1) n = (0, n) :: (cd A f a ++ ((7, n) :: (cd A f x ++ ((8, n) :: (cd A f y ++ [(9, n)]))))) := by
    simp only [cd, ho, hcn, cdS, ah0, ah1, ah2, List.nil_append, List.append_nil, List.append_assoc, List.cons_append]
  rw [hcd] at hp k
  have no : ∀ s, kNo A n s := fun s => ⟨fun z => n2 z.1, fun z => n15 z.1⟩
  simp only [scS] at s2
  obtain ⟨-, b1, q1, -, b2, q2, -, b3, q3, q4⟩ := s2
  have ex := fun s bb => (esA_no (no s) es bb).1
  have bx := fun s bb => (esA_no (no s) es bb).2
  simp only [ex, bx] at q1 q2 q3
  subst q4
  have p0 := pl_c hp
  obtain ⟨p1, p2⟩ := pl_a p0.2.2.2
  have p3 := pl_c p2
  obtain ⟨p4, p5⟩ := pl_a p3.2.2.2
  have p6 := pl_c p5
  obtain ⟨p7, p8⟩ := pl_a p6.2.2.2
  have kidr := (hW.2.2 n t2.1 t2.2).2
  have pts' := (hW.2.2 n t2.1 t2.2).1.2.2.2.1
  unfold pts at pts'
  rw [if_neg n15, hk2] at pts'
  rw [hk2] at hf kidr
  have ra := kidr a (by simp)
  have rx := kidr x (by simp)
  have ry := kidr y (by simp)
  have w200 := hW.1
  have hsec : v_tSecond σ n = x := by
    have := pts'.2.1
    simp only [lkc] at this
    obtain ⟨z1, z2⟩ := this
    rcases z2 with z2 | ⟨z2, -⟩
    · cases z2
    · unfold v_tSecond
      rw [xa_in (a := 7) ⟨t2.1, c2⟩, z1, xa_in (a := 9) ⟨by omega, by omega⟩]
      exact z2
  have h8y : sg_g σ 8 n = y := pts'.2.2.1 y rfl
  obtain ⟨La, Lxy, e3, fa, fxy⟩ := fT_spl [a] [x, y] L1 hf
  obtain ⟨Lx, Ly, e4, fx, fy⟩ := fT_spl [x] [y] Lxy fxy
  have hla := fT_len fa
  have hlx := fT_len fx
  have hly := fT_len fy
  simp only [List.length_cons, List.length_nil] at hla hlx hly ht hv
  have e3l : L1.length = La.length + (Lx.length + Ly.length) := by rw [e3, e4, List.length_append, List.length_append]
  have ia : ∀ z, z ∈ La → z ∈ n :: L1 := fun z hz => by rw [e3]; simp [hz]
  have ix : ∀ z, z ∈ Lx → z ∈ n :: L1 := fun z hz => by rw [e3, e4]; simp [hz]
  have iy : ∀ z, z ∈ Ly → z ∈ n :: L1 := fun z hz => by rw [e3, e4]; simp [hz]
  have hN := (List.nodup_cons.mp hNn).2
  have hnL := (List.nodup_cons.mp hNn).1
  have na : n ∉ La := fun z => hnL (by rw [e3]; simp [z])
  have nx : n ∉ Lx := fun z => hnL (by rw [e3, e4]; simp [z])
  have ny : n ∉ Ly := fun z => hnL (by rw [e3, e4]; simp [z])
  have hNa : La.Nodup := List.Nodup.sublist (by rw [e3]; exact List.sublist_append_left _ _) hN
  have hNxy : Lxy.Nodup := List.Nodup.sublist (by rw [e3]; exact List.sublist_append_right _ _) hN
  have hNx : Lx.Nodup := List.Nodup.sublist (by rw [e4]; exact List.sublist_append_left _ _) hNxy
  have hNy : Ly.Nodup := List.Nodup.sublist (by rw [e4]; exact List.sublist_append_right _ _) hNxy
  have l1 := scN_le _ _ _ _ _ q1
  have l2 := scN_le _ _ _ _ _ q2
  have l3 := scN_le _ _ _ _ _ q3
  have tb := h8.2.2.2.2.1
  have svb := h8.2.2.2.2.2.1
  have c0 := h8.2.2.2.2.2.2
  have N0 := h8.2.2.2.1
  have lob := hS.2.1
  have lo0 := hS.1
  have nln : nl ≤ n := hL n (by simp)
  have xL : x ∈ n :: L1 := ix x (fT_sub fx x (by simp))
  have yL : y ∈ n :: L1 := iy y (fT_sub fy y (by simp))
  obtain ⟨rx1, rx2, rx3⟩ := rg_b hW hnl rx hg xL fx (fun z hz => hL z (ix z hz))
  obtain ⟨ry1, ry2, ry3⟩ := rg_b hW hnl ry hg yL fy (fun z hz => hL z (iy z hz))
  have hh1 := ht_k1 hh (Or.inl hk) (show x ∈ A.2.2.2.2.1 n by rw [hk2]; simp)
  have hh2 := ht_k1 hh (Or.inl hk) (show y ∈ A.2.2.2.2.1 n by rw [hk2]; simp)
  have ha1 := ht_k hh (show a ∈ A.2.2.2.2.1 n by rw [hk2]; simp)
  obtain ⟨h', rfl⟩ : ∃ h', h = h' + 1 := ⟨h - 1, by omega⟩
  have hm0 : (h' + 1) * (L1.length + 1) = h' * (L1.length + 1) + (L1.length + 1) := Nat.succ_mul _ _
  rw [hm0] at hv
  have hmx := Nat.mul_le_mul_left h' (show Lx.length ≤ L1.length + 1 by omega)
  have hmy := Nat.mul_le_mul_left h' (show Ly.length ≤ L1.length + 1 by omega)
  have hma := Nat.mul_le_mul_left (h' + 1) (show La.length ≤ L1.length + 1 by omega)
  rw [hm0] at hma
  refine zs_begin (lo := lo) (b := b) (e := b') (nl := nl) (dix := dix) h8 hp ⟨t2.1, c2⟩ (fun σ1 m1 hm1 h1 f1 u1 v1 => ?_)
  refine F a La es sc b b1 (p + 1) (h' + 1) fa hNa (fun z hz => hL z (ia z hz)) (gR_s hg ia) ta q1 ha1 p1 hS (by omega) σ1 m1 t sv N (c + 4) h1 (bE_u (bE_s hE ia) hS u1) (by omega) (by omega) (fun σ2 m2 hm2 h2 u2 v2 => ?_)
  have u12 : bU σ8 σ2 lo b b' nl dix t sv (n :: L1) := bU_t u1 u2 ⟨by omega, by omega, by omega, by omega⟩ ⟨by omega, by omega⟩ ⟨by omega, by omega⟩ (fun z hz => by simp at hz; simp [hz]) ia
  have hE2 := bE_u hE hS u12
  have n2' : sg_g σ2 69 n = N := by rw [(u2.2.2.2.2.1 n nln na).1]; exact v1
  have ch2 : yRw σ2 (sg_g σ2 64 t) N := yV_r v2
  have hTx : hTs σ σ2 (wnt σ (sg_g σ 11 x) (sg_g σ 12 x) b) N := fun s hs => by
    obtain ⟨z1, j, z2, z3, z4⟩ := wnt_j hW rx hg xL fx q2 (by omega) hs
    have z5 := hS.2.2 s z1
    refine ⟨⟨by omega, by omega⟩, z5.2, ?_⟩
    have := hE2 j (ix j z2) z3 (by rw [z4]; exact z1)
    rw [z4] at this
    exact this
  refine zs_fork h2 (by omega) ⟨by omega, tb⟩ p2 ⟨t2.1, c2⟩ ⟨rx.1, by omega⟩ hsec rfl rfl rx1 h16 n2' ch2 ⟨by omega, by omega⟩ hTx (fun σ3 m3 W hm3 h3 hW3 hWl B3 v3 => ?_)
  have Wl : W.length ≤ Lx.length := by
    rcases hWl with z | z
    · omega
    · rw [z]; exact Nat.zero_le _
  have hE3 : bE σ σ3 A Lx es (cnF σ2 (sg_g σ2 64 t) 1 N.toNat) := fun j hj hkj hm => B3.2.2.1 _ ((hW3 _).mpr (wnt_i (es := es) hW rx hg xL fx hj hkj (hS.2.2 _ hm).1.2))
  refine F x Lx es sc b1 b2 (p + 1 + (cd A f a).length + 1) h' fx hNx (fun z hz => hL z (ix z hz)) (gR_s hg ix) tx q2 (by omega) p4 (bS_m hS l1) (by omega) σ3 m3 t (sv + W.length) _ (c + 4) h3 hE3 (by omega) (by omega) (fun σ4 m4 hm4 h4 u4 v4 => ?_)
  have n4 : sg_g σ4 69 n = N ∧ sg_g σ4 70 n = sg_g σ2 64 t ∧ sg_g σ4 71 n = sv := by
    obtain ⟨z1, z2, z3⟩ := u4.2.2.2.2.1 n nln nx
    rw [z1, z2, z3, (B3.2.2.2.2.1 n).2.2]
    exact ⟨n2', v3, B3.2.2.2.2.2.2.1⟩
  have e24 : yEx σ2 σ4 := yEx_t B3.2.1 u4.1
  have g2 := h2.2.1.1
  have g4 := h4.2.1.1
  have W272 : ∀ z ∈ W, 0 ≤ z ∧ z < 272 := fun z hz => (hTx z ((hW3 z).mp hz)).1
  have s72 : ∀ (i : Nat) (z : Int), W[i]? = some z → sg_g σ4 72 (sv + i) = z := fun i z hz => by
    have hi : i < W.length := by
      rcases Nat.lt_or_ge i W.length with q | q
      · exact q
      · rw [List.getElem?_eq_none q] at hz; cases hz
    rw [(u4.2.2.2.1 (sv + i) (by omega)).1]
    exact (B3.2.2.2.2.2.2.2.1 i z hz).1
  have U24 : ∀ σt, rsW σ4 σt sv W → bU σ2 σt lo b1 b2 nl dix t sv (n :: Lx) := fun σt R => br_U B3 u4 (yEx_F R.1 rfl) (Int.le_refl _) (fun i _ => sg_F_ga R.1 rfl) (fun i => ⟨sg_F_ga R.1 rfl, sg_F_ga R.1 rfl, sg_F_ga R.1 rfl, sg_F_ga R.1 rfl, sg_F_ga R.1 rfl, sg_F_ga R.1 rfl⟩) R.2
  have hTy : ∀ σt, rsW σ4 σt sv W → hTs σ σt (wnt σ (sg_g σ 11 y) (sg_g σ 12 y) b) N := fun σt R s hs => by
    obtain ⟨z1, j, z2, z3, z4⟩ := wnt_j hW ry hg yL fy q3 (by omega) hs
    have z5 := hS.2.2 s z1
    refine ⟨⟨by omega, by omega⟩, z5.2, ?_⟩
    have := bE_u hE2 (bS_m hS l1) (U24 σt R) j (iy j z2) z3 (by rw [z4]; exact z1)
    rw [z4] at this
    exact this
  refine zs_turn (W1 := W) h4 svb (by omega) p5 ⟨t2.1, c2⟩ ⟨ry.1, by omega⟩ h8y rfl rfl ry1 h16 n4.1 N0 n4.2.1 (yRw_up e24 ch2) n4.2.2 ⟨by omega, by omega, by omega⟩ B3.1 W272 s72 hTy (fun σt σ5 m5 W2 hm5 Rt h5 hW5 hWl2 B5 v5 => ?_)
  have ut := U24 σt Rt
  have W2l : W2.length ≤ Ly.length := by
    rcases hWl2 with z | z
    · omega
    · rw [z]; exact Nat.zero_le _
  have hE5 : bE σ σ5 A Ly es (cnF σ4 (sg_g σ2 64 t) 0 N.toNat) := fun j hj hkj hm => B5.2.2.1 _ ((hW5 _).mpr (wnt_i (es := es) hW ry hg yL fy hj hkj (hS.2.2 _ hm).1.2))
  refine F y Ly es sc b2 b' (p + 1 + (cd A f a).length + 1 + (cd A f x).length + 1) h' fy hNy (fun z hz => hL z (iy z hz)) (gR_s hg iy) ty q3 (by omega) p7 (bS_m hS (by omega)) hb σ5 m5 (t + 1) (sv + W2.length) _ (c + 4) h5 hE5 (by omega) (by omega) (fun σ6 m6 hm6 h6 u6 v6 => ?_)
  have n6 : sg_g σ6 69 n = N ∧ sg_g σ6 70 n = sg_g σ2 64 t ∧ sg_g σ6 71 n = sv := by
    obtain ⟨z1, z2, z3⟩ := u6.2.2.2.2.1 n nln ny
    rw [z1, z2, z3, (B5.2.2.2.2.1 n).2.2]
    refine ⟨?_, v5, B5.2.2.2.2.2.2.1⟩
    rw [sg_F_ga Rt.1 rfl]; exact n4.1
  have e46 : yEx σ4 σ6 := yEx_t (yEx_F Rt.1 rfl) (yEx_t B5.2.1 u6.1)
  have g6 := h6.2.1.1
  have W272' : ∀ z ∈ W2, 0 ≤ z ∧ z < 272 := fun z hz => (hTy σt Rt z ((hW5 z).mp hz)).1
  have s72' : ∀ (i : Nat) (z : Int), W2[i]? = some z → sg_g σ6 72 (sv + i) = z := fun i z hz => by
    have hi : i < W2.length := by
      rcases Nat.lt_or_ge i W2.length with q | q
      · exact q
      · rw [List.getElem?_eq_none q] at hz; cases hz
    rw [(u6.2.2.2.1 (sv + i) (by omega)).1]
    exact (B5.2.2.2.2.2.2.2.1 i z hz).1
  have t64 : sg_g σ6 64 t = sg_g σ4 64 t := by
    rw [u6.2.1 t (by omega), (B5.2.2.2.2.1 t).1, sg_F_ga Rt.1 rfl]
  obtain ⟨k0, k3⟩ := t3
  refine zs_join (W := W2) (D := (sg_g σ 6 n).toNat) (ch := sg_g σ2 64 t) (N := N) (by rw [show t + 2 = t + 1 + 1 by omega]; exact h6) svb ⟨by omega, tb⟩ (by omega) p8 ⟨t2.1, c2⟩ (by omega) (by omega) n6.1 N0 n6.2.1 (yRw_up (yEx_t e24 e46) ch2) ?_ ?_ n6.2.2 (by omega) B5.1 W272' s72' (fun σ7 m7 hm7 h7 e67 v7 z64 z62 z62' zr => ?_)
  · rw [t64, cn_e g2 g6 (yEx_t e24 e46) ch2, e6n]
    exact yV_up e46 v4
  · rw [cn_e g4 g6 e46 (yRw_up e24 ch2), e6n, e6x]
    exact v6
  · have u7 := br_U B5 u6 e67 (show t ≤ t + 1 by omega) z64 zr ⟨z62, z62'⟩
    have U1 : bU σ8 σt lo b b' nl dix t sv (n :: L1) := bU_t u12 ut ⟨by omega, by omega, by omega, by omega⟩ ⟨by omega, by omega⟩ ⟨by omega, by omega⟩ (fun z hz => hz) (fun z hz => by
      rcases List.mem_cons.mp hz with q | q
      · simp [q]
      · exact ix z q)
    have U2 : bU σ8 σ7 lo b b' nl dix t sv (n :: L1) := bU_t U1 u7 ⟨by omega, by omega, by omega, by omega⟩ ⟨by omega, by omega⟩ ⟨by omega, by omega⟩ (fun z hz => hz) (fun z hz => by
      rcases List.mem_cons.mp hz with q | q
      · simp [q]
      · exact iy z q)
    refine k σ7 m7 (by omega) ?_ U2 v7
    simp only [List.length_cons, List.length_append, List.length_nil]
    rw [show p + (((cd A f a).length + ((cd A f x).length + ((cd A f y).length + (0 + 1) + 1) + 1) + 1 : Nat) : Int) = p + 1 + (cd A f a).length + 1 + (cd A f x).length + 1 + (cd A f y).length + 1 by omega]
    exact bP_m h7 ⟨c0, by omega⟩
end BIG
