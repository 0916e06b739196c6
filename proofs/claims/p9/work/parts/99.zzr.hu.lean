/-! BIG STEPS: a node, parts one after another, operations. -/
/-- values of the variables that are bound outside -/
def bE (σ σ8 : sg_S) (A : aT) (L es : List Int) (N : Int) : Prop := ∀ j ∈ L, A.2.1 j = 1 → sg_g σ 16 j ∈ es → yV σ8 (sg_g σ 34 (sg_g σ 16 j)).toNat (sg_g σ8 62 (sg_g σ 16 j)) N
/-- slots known -/
def bSq (σ : sg_S) (es : List Int) (lo b : Int) : Prop := 0 ≤ lo ∧ lo ≤ b ∧ ∀ s ∈ es, (lo ≤ s ∧ s < b) ∧ kIn (sg_g σ 34 s)
/-- each node's range -/
def gRq (σ : sg_S) (A : aT) (L : List Int) : Prop := ∀ x ∈ L, ∀ Lx, fT A [x] Lx → ∀ y, y ∈ Lx ↔ (sg_g σ 11 x ≤ y ∧ y ≤ sg_g σ 12 x)
theorem bE_s {σ σ8 : sg_S} {A : aT} {L L' es : List Int} {N : Int} (h : bE σ σ8 A L es N) (hL : ∀ x ∈ L', x ∈ L) : bE σ σ8 A L' es N := fun j hj => h j (hL j hj)
theorem bE_u {σ σ8 σ1 : sg_S} {A : aT} {L L1 es : List Int} {N lo b e nl dix t sv : Int} (h : bE σ σ8 A L es N) (hs : bSq σ es lo b) (u : bU σ8 σ1 lo b e nl dix t sv L1) : bE σ σ1 A L es N := fun j hj hk hm => by
  have := (hs.2.2 _ hm).1
  rw [u.2.2.1 _ this.1 (by omega)]
  exact yV_up u.1 (h j hj hk hm)
theorem bS_m {σ : sg_S} {es : List Int} {lo b b2 : Int} (h : bSq σ es lo b) (hb : b ≤ b2) : bSq σ es lo b2 := ⟨h.1, by have := h.2.1; omega, fun s hs => ⟨by have := (h.2.2 s hs).1; omega, (h.2.2 s hs).2⟩⟩
theorem gR_s {σ : sg_S} {A : aT} {L L' : List Int} (h : gRq σ A L) (hL : ∀ x ∈ L', x ∈ L) : gRq σ A L' := fun x hx => h x (hL x hx)
/-- the big step of a node -/
def bN (σ : sg_S) (A : aT) (ds : kD) (B : Int → Int) (lo nl dix : Int) (f : Nat) : Prop := ∀ (n : Int) (L es : List Int) (sc : List (Int × Int)) (b b' p : Int) (h : Nat), fT A [n] L → L.Nodup → (∀ x ∈ L, nl ≤ x) → gRq σ A L → tyN A ds (sg_g σ 6) B f sc n → scN σ A dix f es n b b' → htN A f n ≤ h → pl σ p (cd A f n) → bSq σ es lo b → b' ≤ 272 → ∀ (σ8 : sg_S) (m : Nat) (t sv N c : Int), bP σ σ8 t sv N c p → bE σ σ8 A L es N → t + L.length + nl ≤ 400 → sv + ((h * L.length : Nat) : Int) + 12 * nl ≤ 2400 → (∀ σ' m', m' ≤ m → bP σ σ' (t + 1) sv N c (p + (cd A f n).length) → bU σ8 σ' lo b b' nl dix t sv L → yV σ' (sg_g σ 6 n).toNat (sg_g σ' 64 t) N → Rr σ m' σ') → Rr σ m σ8
theorem mul_le {h a b : Nat} {x : Int} (hx : x + ((h * b : Nat) : Int) ≤ 2400) (hab : a ≤ b) : x + ((h * a : Nat) : Int) ≤ 2400 := by
  have := Nat.mul_le_mul_left h hab
  omega
section BNR
variable {σ : sg_S} {A : aT} {ds : kD} {B : Int → Int} {lo nl dix : Int} {f : Nat}
theorem bRow (hnl : 0 ≤ nl) (F : bN σ A ds B lo nl dix f) {n0 : Int} {es : List Int} {sc : List (Int × Int)} {h : Nat} : ∀ (R L : List Int) (s : Nat) (b b' p : Int), fT A R L → L.Nodup → (∀ x ∈ L, nl ≤ x) → gRq σ A L → (∀ x ∈ R, tyN A ds (sg_g σ 6) B f sc x) → scS σ A (scN σ A dix f) n0 s es b R b' → (∀ j, s ≤ j → j < s + R.length → kQ A n0 j) → (∀ x ∈ R, htN A f x ≤ h) → pl σ p (cdS A (cd A f) n0 s R) → bSq σ es lo b → b' ≤ 272 → ∀ (σ8 : sg_S) (m : Nat) (t sv N c : Int), bP σ σ8 t sv N c p → bE σ σ8 A L es N → t + L.length + nl ≤ 400 → sv + ((h * L.length : Nat) : Int) + 12 * nl ≤ 2400 → (∀ σ' m', m' ≤ m → bP σ σ' (t + R.length) sv N c (p + (cdS A (cd A f) n0 s R).length) → bU σ8 σ' lo b b' nl dix t sv L → (∀ (i : Nat) (x : Int), R[i]? = some x → yV σ' (sg_g σ 6 x).toNat (sg_g σ' 64 (t + i)) N) → Rr σ m' σ') → Rr σ m σ8
  | [], L, s, b, b', p, hf, hN, hL, hg, hty, hsc, hq, hh, hp, hS, hb, σ8, m, t, sv, N, c, h8, hE, ht, hv, k => by
    refine k σ8 m (Nat.le_refl _) ?_ bU_r (fun i x hx => by simp at hx)
    simp only [cdS, List.length_nil, Int.ofNat_zero, Int.cast_ofNat_Int, Int.add_zero]
    exact h8
  | x :: R, L, s, b, b', p, hf, hN, hL, hg, hty, hsc, hq, hh, hp, hS, hb, σ8, m, t, sv, N, c, h8, hE, ht, hv, k => by
    obtain ⟨L1, L2, e1, w1, w2, w3⟩ := fT_inv hf
    subst e1
    obtain ⟨q1, q2⟩ := hq s (Nat.le_refl _) (by simp)
    simp only [scS] at hsc
    obtain ⟨-, b2, s2, s3⟩ := hsc
    obtain ⟨e1, e2⟩ := esA_no q2 es b
    rw [e1, e2] at s2
    rw [e1] at s3
    simp only [cdS] at hp k
    rw [q1, List.nil_append] at hp k
    obtain ⟨p1, p2⟩ := pl_a hp
    have l1 := scN_le _ _ _ _ _ s2
    have l2 := scS_le (fun es x b b' => scN_le f es x b b') _ _ _ _ _ s3
    have i1 : ∀ y, y ∈ x :: L1 → y ∈ x :: (L1 ++ L2) := fun y hy => by rw [← List.cons_append]; exact List.mem_append_left _ hy
    have i2 : ∀ y, y ∈ L2 → y ∈ x :: (L1 ++ L2) := fun y hy => by rw [← List.cons_append]; exact List.mem_append_right _ hy
    have hN1 : (x :: L1).Nodup := List.Nodup.sublist (by rw [← List.cons_append]; exact List.sublist_append_left _ _) hN
    have hN2 : L2.Nodup := List.Nodup.sublist (by rw [← List.cons_append]; exact List.sublist_append_right _ _) hN
    have hl : (x :: (L1 ++ L2)).length = (x :: L1).length + L2.length := by rw [← List.cons_append, List.length_append]
    have hl1 : 1 ≤ (x :: L1).length := by simp
    refine F x (x :: L1) es sc b b2 p h (fT_one w1 w2) hN1 (fun y hy => hL y (i1 y hy)) (gR_s hg i1) (hty x (by simp)) s2 (hh x (by simp)) p1 hS (by omega) σ8 m t sv N c h8 (bE_s hE i1) (by omega) ?_ (fun σ1 m1 hm1 h1 u1 v1 => ?_)
    · have := Nat.mul_le_mul_left h (show (x :: L1).length ≤ (x :: (L1 ++ L2)).length by omega)
      omega
    · have hE1 := bE_u (bE_s hE i2) hS u1
      refine bRow hnl F R L2 (s + 1) b2 b' (p + (cd A f x).length) w3 hN2 (fun y hy => hL y (i2 y hy)) (gR_s hg i2) (fun y hy => hty y (by simp [hy])) s3 (fun j a b => hq j (by omega) (by simp only [List.length_cons]; omega)) (fun y hy => hh y (by simp [hy])) p2 (bS_m hS l1) hb σ1 m1 (t + 1) sv N c h1 hE1 (by omega) ?_ (fun σ2 m2 hm2 h2 u2 v2 => ?_)
      · have := Nat.mul_le_mul_left h (show L2.length ≤ (x :: (L1 ++ L2)).length by omega)
        omega
      · refine k σ2 m2 (by omega) ?_ (bU_t u1 u2 ⟨by omega, by omega, by omega, by omega⟩ ⟨by omega, by omega⟩ ⟨by omega, by omega⟩ i1 i2) (fun i y hy => ?_)
        · simp only [List.length_cons, List.length_append]
          rw [show t + ((R.length + 1 : Nat) : Int) = t + 1 + R.length by omega, show p + (((cd A f x).length + (cdS A (cd A f) n0 (s + 1) R).length : Nat) : Int) = p + (cd A f x).length + (cdS A (cd A f) n0 (s + 1) R).length by omega]
          exact h2
        · cases i with
          | zero =>
            simp only [List.getElem?_cons_zero, Option.some.injEq] at hy
            subst hy
            simp only [Int.ofNat_zero, Int.cast_ofNat_Int, Int.add_zero]
            rw [u2.2.1 t (by omega)]
            exact yV_up u2.1 v1
          | succ i =>
            have := v2 i y hy
            rw [show t + 1 + (i : Int) = t + ((i + 1 : Nat) : Int) by omega] at this
            exact this
/-- what is known of a node's row 3 -/
theorem ck3 {n : Int} (hW : ckW σ A) (hn : 0 ≤ n ∧ n < A.1) : sg_g σ 3 n = kmp (A.2.1 n) ∧ n < 200 := by
  have := (hW.2.2 n hn.1 hn.2).1.1
  have := hW.1
  omega
/-- operations -/
theorem bN_op (hW : ckW σ A) (hnl : 0 ≤ nl) (F : bN σ A ds B lo nl dix f) {n : Int} {L1 es : List Int} {sc : List (Int × Int)} {b b' p : Int} {h : Nat} (hk : A.2.1 n = 0 ∨ A.2.1 n = 1 ∨ A.2.1 n = 14 ∨ (4 ≤ A.2.1 n ∧ A.2.1 n ≤ 12) ∨ 16 ≤ A.2.1 n) (hf : fT A (A.2.2.2.2.1 n) L1) (hN : L1.Nodup) (hL : ∀ x ∈ n :: L1, nl ≤ x) (hg : gRq σ A (n :: L1)) (hty : tyN A ds (sg_g σ 6) B (f + 1) sc n) (hsc : scN σ A dix (f + 1) es n b b') (hh : htN A (f + 1) n ≤ h) (hp : pl σ p (cd A (f + 1) n)) (hS : bSq σ es lo b) (hb : b' ≤ 272) {σ8 : sg_S} {m : Nat} {t sv N c : Int} (h8 : bP σ σ8 t sv N c p) (hE : bE σ σ8 A (n :: L1) es N) (ht : t + (n :: L1).length + nl ≤ 400) (hv : sv + ((h * (n :: L1).length : Nat) : Int) + 12 * nl ≤ 2400) (k : ∀ σ' m', m' ≤ m → bP σ σ' (t + 1) sv N c (p + (cd A (f + 1) n).length) → bU σ8 σ' lo b b' nl dix t sv (n :: L1) → yV σ' (sg_g σ 6 n).toNat (sg_g σ' 64 t) N → Rr σ m' σ') : Rr σ m σ8 := by
  obtain ⟨t1, t2, t3, t4, t5, t6, t7, t8, t9⟩ := hty
  obtain ⟨c1, c2⟩ := ck3 hW t2
  have n2 : ¬ A.2.1 n = 2 := by omega
  have n3 : ¬ A.2.1 n = 3 := by omega
  have n15 : ¬ A.2.1 n = 15 := by omega
  have n13 : ¬ A.2.1 n = 13 := by omega
  have ho : kOrd A n = A.2.2.2.2.1 n := by unfold kOrd; rw [if_neg n15]
  obtain ⟨-, s1, -, s2⟩ := hsc
  rw [ho] at s2
  simp only [cd] at hp k
  rw [ho] at hp k
  have p0 := pl_c hp
  obtain ⟨p1, p2⟩ := pl_a p0.2.2.2
  obtain ⟨g1, g2⟩ := t3
  have ll := fT_len hf
  simp only [List.length_cons] at ht hv
  have hmul : sv + ((h * L1.length : Nat) : Int) + 12 * nl ≤ 2400 := by
    have := Nat.mul_le_mul_left h (show L1.length ≤ L1.length + 1 by omega)
    omega
  refine zs_begin (lo := lo) (b := b) (e := b') (nl := nl) (dix := dix) h8 hp ⟨t2.1, c2⟩ (fun σ1 m1 hm1 h1 f1 u1 _ => ?_)
  have hE1 : bE σ σ1 A L1 es N := bE_u (bE_s hE (fun x hx => by simp [hx])) hS u1
  refine bRow hnl F (A.2.2.2.2.1 n) L1 0 b b' (p + 1) hf hN (fun x hx => hL x (by simp [hx])) (gR_s hg (fun x hx => by simp [hx])) (t9 n2 n15) s2 (fun j _ _ => kQ_o n2 n3 n15) (fun x hx => ht_k hh hx) p1 hS hb σ1 m1 t sv N (c + 4) h1 hE1 (by omega) hmul (fun σ2 m2 hm2 h2 u2 v2 => ?_)
  have u12 : bU σ8 σ2 lo b b' nl dix t sv (n :: L1) := bU_t u1 u2 ⟨Int.le_refl _, Int.le_refl _, Int.le_refl _, Int.le_refl _⟩ ⟨Int.le_refl _, Int.le_refl _⟩ ⟨Int.le_refl _, Int.le_refl _⟩ (fun x hx => by simp at hx; simp [hx]) (fun x hx => by simp [hx])
  have c0 := h8.2.2.2.2.2.2
  have fin : ∀ σ' m', m' ≤ m2 → (cnc A n).length = 1 → bP σ σ' (t + 1) sv N (c + 4) (p + 1 + (cdS A (cd A f) n 0 (A.2.2.2.2.1 n)).length + 1) → bU σ2 σ' lo b b' nl dix t sv [] → yV σ' (sg_g σ 6 n).toNat (sg_g σ' 64 t) N → Rr σ m' σ' := fun σ' m' hm' hc hP hU hV => by
    refine k σ' m' (by omega) ?_ (bU_t u12 hU ⟨Int.le_refl _, Int.le_refl _, Int.le_refl _, Int.le_refl _⟩ ⟨Int.le_refl _, Int.le_refl _⟩ ⟨Int.le_refl _, Int.le_refl _⟩ (fun _ hx => hx) (by simp)) hV
    simp only [List.length_cons, List.length_append]
    rw [hc]
    rw [show p + ((((cdS A (cd A f) n 0 (A.2.2.2.2.1 n)).length + 1 + 1 : Nat)) : Int) = p + 1 + (cdS A (cd A f) n 0 (A.2.2.2.2.1 n)).length + 1 by omega]
    exact bP_m hP ⟨c0, by omega⟩
  obtain ⟨w1, w2, w3, w4, w5, w6, w7, w8⟩ := id t1
  have hty0 : ¬ A.2.1 n = 1 → kTy A ds (sg_g σ 6) [] n ((A.2.2.2.2.1 n).map (sg_g σ 6)) = some (sg_g σ 6 n) := t5
  have kin : ∀ x ∈ A.2.2.2.2.1 n, kIn (sg_g σ 6 x) := fun x hx => by
    have := t9 n2 n15 x hx
    cases f with
    | zero => exact this.elim
    | succ f => exact this.2.2.1
  by_cases k0 : A.2.1 n = 0
  · -- NUMBER
    have hl := w2 (by omega)
    have hcn : cnc A n = [(1, n)] := by unfold cnc; rw [if_neg n2, if_neg n3, if_neg n13, if_neg n15, if_pos (Or.inl k0)]
    rw [hcn] at p2 fin
    rw [hl, show t + ((0 : Nat) : Int) = t by omega] at h2
    have t6' : sg_g σ 6 n = 0 := by
      have := hty0 (by omega)
      unfold kTy at this
      simp only [k0, if_true] at this
      exact (Option.some.inj this).symm
    refine zs_num h2 (by omega) ⟨by omega, h8.2.2.2.2.1⟩ p2 ⟨t2.1, c2⟩ (by rw [c1, k0]; rfl) t6' (fun σ' m' hm' hP hU hV => fin σ' m' hm' rfl hP hU hV)
  · by_cases k1 : A.2.1 n = 1
    · -- NAME
      have hl := w2 (by omega)
      have hcn : cnc A n = [(1, n)] := by unfold cnc; rw [if_neg n2, if_neg n3, if_neg n13, if_neg n15, if_pos (Or.inr (Or.inl k1))]
      rw [hcn] at p2 fin
      rw [hl, show t + ((0 : Nat) : Int) = t by omega] at h2
      obtain ⟨q1, q2⟩ := s1 k1
      have q3 := (hS.2.2 _ q1).1
      have q4 := hS.1
      have lb := scS_le (fun es x b b' => scN_le f es x b b') _ _ _ _ _ s2
      have v0 := bE_u hE hS u12 n (by simp) k1 q1
      refine zs_name (s := sg_g σ 16 n) h2 ⟨by omega, h8.2.2.2.2.1⟩ p2 ⟨t2.1, c2⟩ (by rw [c1, k1]; rfl) rfl ⟨by omega, by omega⟩ q2 v0 (fun σ' m' hm' hP hU hV => fin σ' m' hm' rfl hP hU hV)
    · by_cases k14 : A.2.1 n = 14
      · -- ROW
        have hl := w6 k14
        have hcn : cnc A n = [(1, n)] := by unfold cnc; rw [if_neg n2, if_neg n3, if_neg n13, if_neg n15, if_pos (Or.inr (Or.inr k14))]
        rw [hcn] at p2 fin
        have tt := hty0 k1
        have t6' : kIs (((A.2.2.2.2.1 n).map (sg_g σ 6)).all (fun x => decide (x = ((A.2.2.2.2.1 n).map (sg_g σ 6)).getD 0 0))) (((A.2.2.2.2.1 n).map (sg_g σ 6)).getD 0 0 + 1) = some (sg_g σ 6 n) := by
          rw [← tt]
          unfold kTy
          simp only [k14]
          rfl
        obtain ⟨i1, i2, i3⟩ := kIs_in t6'
        generalize hA0 : ((A.2.2.2.2.1 n).map (sg_g σ 6)).getD 0 0 = a0 at i1 i2 i3
        have all0 : ∀ x ∈ A.2.2.2.2.1 n, sg_g σ 6 x = a0 := fun x hx => by
          have := List.all_eq_true.mp i3 (sg_g σ 6 x) (List.mem_map_of_mem hx)
          simpa using this
        have a00 : 0 ≤ a0 := by
          obtain ⟨y, r, hy⟩ : ∃ y r, A.2.2.2.2.1 n = y :: r := by
            match hh : A.2.2.2.2.1 n with
            | [] => rw [hh] at hl; simp at hl
            | y :: r => exact ⟨y, r, rfl⟩
          have m0 : y ∈ A.2.2.2.2.1 n := by rw [hy]; simp
          rw [← all0 y m0]
          exact (kin y m0).1
        have c10 : sg_g σ 10 n = (A.2.2.2.2.1 n).length := by
          have := (hW.2.2 n t2.1 t2.2).1.2.2.2.1.1
          unfold pts at this
          rw [if_neg n15] at this
          exact this
        have l200 : (A.2.2.2.2.1 n).length ≤ 200 := by
          have q := (hW.2.2 n t2.1 t2.2).1.2.2.2.1.2.2.2
          unfold pts at q
          rw [if_neg n15] at q
          rcases wit_len (f := id) (a := 0) (b := 199) q.1 (fun x hx => ⟨x, (q.2 x hx).1, by have := (q.2 x hx).2; omega, rfl⟩) with z | z
          · omega
          · rw [z]; exact Nat.zero_le _
        refine zs_row (a := (A.2.2.2.2.1 n).length) (d := a0.toNat) h2 (by omega) ⟨by omega, h8.2.2.2.2.1⟩ ⟨by omega, by omega⟩ p2 ⟨t2.1, c2⟩ (by rw [c1, k14]; rfl) c10 (by omega) (by omega) (fun i hi => ?_) (fun σ' m' hm' hP hU hV => fin σ' m' hm' rfl hP hU hV)
        have hx : (A.2.2.2.2.1 n)[i]? = some ((A.2.2.2.2.1 n)[i]'(by omega)) := List.getElem?_eq_getElem _
        have := v2 i _ hx
        rw [all0 _ (List.mem_of_getElem? hx)] at this
        exact this
      · -- ACTS
        have hw := t1
        unfold nW at hw
        have tt := kTy_o (A := A) (ds := ds) (T := sg_g σ 6) (n := n) (ty := sg_g σ 6 n) (ts := (A.2.2.2.2.1 n).map (sg_g σ 6)) (by rw [List.length_map]; exact hw) (hty0 k1) (by omega) n13 k14 n15 (fun x hx => by
          obtain ⟨y, hy, rfl⟩ := List.mem_map.mp hx
          exact (kin y hy).1)
        rw [List.length_map] at tt
        have gd : ∀ i : Nat, (hi : i < (A.2.2.2.2.1 n).length) → ((A.2.2.2.2.1 n).map (sg_g σ 6)).getD i 0 = sg_g σ 6 ((A.2.2.2.2.1 n)[i]) := fun i hi => by
          rw [List.getD_eq_getElem?_getD, List.getElem?_map, List.getElem?_eq_getElem hi]; rfl
        rcases tt with ⟨l1, o1⟩ | ⟨l2, o2⟩
        · have hcn : cnc A n = [(2, n)] := by
            unfold cnc
            rw [if_neg n2, if_neg n3, if_neg n13, if_neg n15, if_neg (by omega), if_pos]
            unfold op1 at o1
            omega
          rw [hcn] at p2 fin
          rw [l1] at h2
          rw [gd 0 (by omega)] at o1
          have kx := kin _ (List.getElem_mem (h := show 0 < (A.2.2.2.2.1 n).length by omega))
          have v0 := v2 0 _ (List.getElem?_eq_getElem (by omega))
          simp only [Int.ofNat_zero, Int.cast_ofNat_Int, Int.add_zero] at v0
          exact zs_one (k := A.2.1 n) h2 (by omega) ⟨by omega, h8.2.2.2.2.1⟩ p2 ⟨t2.1, c2⟩ c1 g2 kx v0 o1 (fun σ' m' hm' hP hU hV => fin σ' m' hm' rfl hP hU hV)
        · have hcn : cnc A n = [(3, n)] := by
            unfold cnc
            rw [if_neg n2, if_neg n3, if_neg n13, if_neg n15, if_neg (by omega), if_neg]
            unfold op2 at o2
            omega
          rw [hcn] at p2 fin
          rw [l2] at h2
          rw [gd 0 (by omega), gd 1 (by omega)] at o2
          have kx := kin _ (List.getElem_mem (h := show 0 < (A.2.2.2.2.1 n).length by omega))
          have v0 := v2 0 _ (List.getElem?_eq_getElem (by omega))
          have v1 := v2 1 _ (List.getElem?_eq_getElem (by omega))
          simp only [Int.ofNat_zero, Int.cast_ofNat_Int, Int.add_zero] at v0
          exact zs_two (k := A.2.1 n) h2 (by omega) ⟨by omega, h8.2.2.2.2.1⟩ p2 ⟨t2.1, c2⟩ c1 g2 kx v0 v1 o2 (fun σ' m' hm' hP hU hV => fin σ' m' hm' rfl hP hU hV)
end BNR
