/-! BIG STEPS: let, calls. -/
def nxq (σ : sg_S) (q : Int) : Int := sg_g σ 12 (sg_g σ 22 q) + 1
/-- a call of DEF q, once it is entered -/
def cLq (σ : sg_S) (H : Int → Int) (q : Int) : Prop := ∀ (σ8 : sg_S) (m : Nat) (t sv N c r : Int), bP σ σ8 t sv N c (sg_g σ 31 q) → sg_g σ8 63 q = r → (∀ i : Nat, (i : Int) < sg_g σ 23 q → yV σ8 (sg_g σ 27 (6 * q + i)).toNat (sg_g σ8 62 (sg_g σ 24 q + i)) N) → t + nxq σ q ≤ 400 → sv + 12 * nxq σ q ≤ 2400 → (∀ σ' m', m' ≤ m → bP σ σ' (t + 1) sv N c r → bU σ8 σ' (H q) 0 0 (nxq σ q) q t sv [] → yV σ' (sg_g σ 6 (sg_g σ 22 q)).toNat (sg_g σ' 64 t) N → Rr σ m' σ') → Rr σ m σ8
/-- the DEFS before -/
def dD (σ : sg_S) (H : Int → Int) (lo nl dix : Int) : Prop := ∀ q, 0 ≤ q → q < dix → q < 12 ∧ cLq σ H q ∧ H q ≤ lo ∧ nxq σ q ≤ nl ∧ (0 ≤ sg_g σ 23 q ∧ sg_g σ 23 q ≤ 6) ∧ (0 ≤ sg_g σ 24 q ∧ sg_g σ 24 q + sg_g σ 23 q ≤ H q) ∧ H q ≤ 272
section BNL
variable {σ : sg_S} {A : aT} {ds : kD} {B : Int → Int} {lo nl dix : Int} {f : Nat}
/-- BIND -/
theorem zs_bind {σ8 : sg_S} {m : Nat} {t sv N c p n s : Int} {C : List (Int × Int)} (h : bP σ σ8 (t + 1) sv N c p) (ht : t < 400 ∧ 0 ≤ t) (hp : pl σ p ((4, n) :: C)) (hn : 0 ≤ n ∧ n < 200) (h16 : sg_g σ 16 n = s) (hs : 0 ≤ s ∧ s < 272) (kk : ∀ σ' m', m' ≤ m → bP σ σ' t sv N c (p + 1) → bU σ8 σ' lo s (s + 1) nl dix t sv [] → sg_g σ' 62 s = sg_g σ8 64 t → Rr σ m' σ') : Rr σ m σ8 := by
  cases m with
  | zero => exact True.intro
  | succ m =>
    obtain ⟨p0, p1, p2, p3⟩ := pl_c hp
    refine rr_4 (p := p) (k := n) h.2.2.1.2.2.2 p0 p1 p2 (fun σ32 e32 => ?_)
    obtain ⟨h32, f32⟩ := bP_32 h ⟨p0.2, p0.1⟩ e32
    obtain ⟨a1, a2, ⟨a3, a4, a5, a6⟩, a7, a8, a9, a10⟩ := id h32
    rw [xa_in (a := 16) hn, h16]
    refine y_pop (t := t) a3 ⟨ht.2, ht.1⟩ (fun σ2 f2 t2 r2 _ σ82 e82 => ?_)
    rw [xp_in hs] at e82
    have f82 : sg_F [62] σ2 σ82 := by rw [e82]; exact sg_F_w (sg_F_r _ _) rfl _
    have F2 : sg_F [62, 8061] σ32 σ82 := sg_F_t (sg_F_m f2 rfl) (sg_F_m f82 rfl)
    have F : sg_F [62, 8061, 9061] σ8 σ82 := sg_F_t (sg_F_m f32 rfl) (sg_F_m F2 rfl)
    have v : sg_g σ82 62 s = sg_g σ8 64 t := by rw [e82, sg_gw_e _ _ _ _ r2, sg_F_ga f32 rfl]
    refine kk σ82 m (by omega) ⟨sg_F_t h.1 (sg_F_m F rfl), mC_F h.2.1 F rfl, ⟨by rw [sg_F_g f82 (by rfl)]; exact t2, by rw [sg_F_g F2 (by rfl)]; exact a4, by rw [sg_F_g F2 (by rfl)]; exact a5, by rw [sg_F_g F2 (by rfl)]; exact a6⟩, a7, ht.2, a9, a10⟩ ?_ v
    refine ⟨yEx_F F rfl, fun i _ => sg_F_ga F rfl, fun y _ hy => ?_, fun i _ => ⟨sg_F_ga F rfl, sg_F_ga F rfl⟩, fun x _ _ => ⟨sg_F_ga F rfl, sg_F_ga F rfl, sg_F_ga F rfl⟩, fun q _ => sg_F_ga F rfl⟩
    rw [e82, sg_gw_k _ _ _ _ _ _ (by omega), sg_F_ga f2 rfl, sg_F_ga f32 rfl]
theorem bN_let (hW : ckW σ A) (hnl : 0 ≤ nl) (F : bN σ A ds B lo nl dix f) {n : Int} {L1 es : List Int} {sc : List (Int × Int)} {b b' p : Int} {h : Nat} (hk : A.2.1 n = 2) (hf : fT A (A.2.2.2.2.1 n) L1) (hN : L1.Nodup) (hL : ∀ x ∈ n :: L1, nl ≤ x) (hg : gRq σ A (n :: L1)) (hty : tyN A ds (sg_g σ 6) B (f + 1) sc n) (hsc : scN σ A dix (f + 1) es n b b') (hh : htN A (f + 1) n ≤ h) (hp : pl σ p (cd A (f + 1) n)) (hS : bSq σ es lo b) (hb : b' ≤ 272) {σ8 : sg_S} {m : Nat} {t sv N c : Int} (h8 : bP σ σ8 t sv N c p) (hE : bE σ σ8 A (n :: L1) es N) (ht : t + (n :: L1).length + nl ≤ 400) (hv : sv + ((h * (n :: L1).length : Nat) : Int) + 12 * nl ≤ 2400) (k : ∀ σ' m', m' ≤ m → bP σ σ' (t + 1) sv N c (p + (cd A (f + 1) n).length) → bU σ8 σ' lo b b' nl dix t sv (n :: L1) → yV σ' (sg_g σ 6 n).toNat (sg_g σ' 64 t) N → Rr σ m' σ') : Rr σ m σ8 := by
  obtain ⟨t1, t2, t3, t4, t5, t6, t7, t8, t9⟩ := hty
  obtain ⟨c1, c2⟩ := ck3 hW t2
  obtain ⟨w1, w2, w3, w4, w5, w6, w7, w8⟩ := id t1
  have hl := w3 (Or.inl hk)
  obtain ⟨a, d, hk2⟩ : ∃ a d, A.2.2.2.2.1 n = [a, d] := by
    match hh : A.2.2.2.2.1 n with
    | [a, d] => exact ⟨a, d, rfl⟩
    | [] => rw [hh] at hl; simp at hl
    | [_] => rw [hh] at hl; simp at hl
    | _ :: _ :: _ :: _ => rw [hh] at hl; simp at hl
  have ho : kOrd A n = [a, d] := by unfold kOrd; rw [if_neg (by omega), hk2]
  obtain ⟨ta, td⟩ := t7 hk a d hk2
  have e6 : sg_g σ 6 d = sg_g σ 6 n := by
    have := t5 (by omega)
    unfold kTy at this
    rw [hk2] at this
    simp only [hk] at this
    simpa using this
  obtain ⟨-, -, -, s2⟩ := hsc
  rw [ho] at s2
  simp only [cd] at hp k
  have hcn : cnc A n = [] := by unfold cnc; rw [if_pos hk]
  have ah0 : ahd A n 0 = [] := by unfold ahd; rw [if_neg (by omega), if_neg (by omega), if_neg (by omega), if_neg (by omega)]
  have ah1 : ahd A n 1 = [(4, n)] := by unfold ahd; rw [if_pos ⟨hk, rfl⟩]
  rw [ho, hcn, List.append_nil] at hp k
  simp only [cdS, ah0, ah1, List.nil_append, List.append_nil] at hp k
  simp only [scS] at s2
  obtain ⟨-, b1, q1, ⟨q2, -⟩, b3, q3, q4⟩ := s2
  obtain ⟨q5, q6⟩ := q2 hk (by rfl)
  have es0 := esA_no (A := A) (n := n) (s := 0) ⟨by omega, by omega⟩ es b
  rw [es0.1, es0.2] at q1
  rw [es0.1] at q3
  have es1 : esA A n (0 + 1) es b1 = b1 :: es := by unfold esA; rw [if_pos ⟨hk, rfl⟩]
  have ba1 : bA A n (0 + 1) b1 = b1 + 1 := by unfold bA; rw [if_pos ⟨hk, rfl⟩]
  rw [es1, ba1] at q3
  subst q4
  have p0 := pl_c hp
  obtain ⟨p1, p2⟩ := pl_a p0.2.2.2
  have p3 := pl_c p2
  rw [hk2] at hf q6
  obtain ⟨La, Ld, e3, fa, fd⟩ := fT_spl [a] [d] L1 hf
  have hla := fT_len fa
  have hld := fT_len fd
  simp only [List.length_cons, List.length_nil] at hla hld ht hv
  have e3l : L1.length = La.length + Ld.length := by rw [e3, List.length_append]
  have ia : ∀ x, x ∈ La → x ∈ n :: L1 := fun x hx => by rw [e3]; simp [hx]
  have id' : ∀ x, x ∈ Ld → x ∈ n :: L1 := fun x hx => by rw [e3]; simp [hx]
  have hNa : La.Nodup := List.Nodup.sublist (by rw [e3]; exact List.sublist_append_left _ _) hN
  have hNd : Ld.Nodup := List.Nodup.sublist (by rw [e3]; exact List.sublist_append_right _ _) hN
  have l1 := scN_le _ _ _ _ _ q1
  have l2 := scN_le _ _ _ _ _ q3
  have tb := h8.2.2.2.2.1
  have c0 := h8.2.2.2.2.2.2
  have lob := hS.2.1
  have lo0 := hS.1
  refine zs_begin (lo := lo) (b := b) (e := b') (nl := nl) (dix := dix) h8 hp ⟨t2.1, c2⟩ (fun σ1 m1 hm1 h1 f1 u1 _ => ?_)
  refine F a La es sc b b1 (p + 1) h fa hNa (fun x hx => hL x (ia x hx)) (gR_s hg ia) ta q1 (ht_k hh (by rw [hk2]; simp)) p1 hS (by omega) σ1 m1 t sv N (c + 4) h1 (bE_u (bE_s hE ia) hS u1) (by omega) ?_ (fun σ2 m2 hm2 h2 u2 v2 => ?_)
  · have := Nat.mul_le_mul_left h (show La.length ≤ L1.length + 1 by omega)
    omega
  refine zs_bind (lo := lo) (nl := nl) (dix := dix) h2 ⟨by omega, tb⟩ p2 ⟨t2.1, c2⟩ q5 ⟨by omega, by omega⟩ (fun σ3 m3 hm3 h3 u3 v3 => ?_)
  have u12 : bU σ8 σ2 lo b b' nl dix t sv (n :: L1) := bU_t u1 u2 ⟨by omega, by omega, by omega, by omega⟩ ⟨by omega, by omega⟩ ⟨by omega, by omega⟩ (fun x hx => by simp at hx; simp [hx]) ia
  have u13 : bU σ8 σ3 lo b b' nl dix t sv (n :: L1) := bU_t u12 u3 ⟨by omega, by omega, by omega, by omega⟩ ⟨by omega, by omega⟩ ⟨by omega, by omega⟩ (fun x hx => hx) (by simp)
  have ka : kIn (sg_g σ 6 a) := by
    cases f with
    | zero => exact ta.elim
    | succ f => exact ta.2.2.1
  have q6' : sg_g σ 34 b1 = sg_g σ 6 a := q6
  have hS3 : bSq σ (b1 :: es) lo (b1 + 1) := ⟨lo0, by omega, fun s hs => by
    rcases List.mem_cons.mp hs with e | e
    · subst e; exact ⟨⟨by omega, by omega⟩, by rw [q6']; exact ka⟩
    · have := hS.2.2 s e
      exact ⟨⟨by omega, by omega⟩, this.2⟩⟩
  have hE3 : bE σ σ3 A Ld (b1 :: es) N := fun j hj hk' hm => by
    rcases List.mem_cons.mp hm with e | e
    · rw [e, v3, q6']
      exact yV_up u3.1 v2
    · exact bE_u (bE_s hE id') hS u13 j hj hk' e
  have hv3 : sv + ((h * Ld.length : Nat) : Int) + 12 * nl ≤ 2400 := by
    have := Nat.mul_le_mul_left h (show Ld.length ≤ L1.length + 1 by omega)
    omega
  refine F d Ld (b1 :: es) _ (b1 + 1) b' (p + 1 + (cd A f a).length + 1) h fd hNd (fun x hx => hL x (id' x hx)) (gR_s hg id') td q3 (ht_k hh (by rw [hk2]; simp)) p3.2.2.2 hS3 hb σ3 m3 t sv N (c + 4) h3 hE3 (by omega) hv3 (fun σ4 m4 hm4 h4 u4 v4 => ?_)
  refine k σ4 m4 (by omega) ?_ (bU_t u13 u4 ⟨by omega, by omega, by omega, by omega⟩ ⟨by omega, by omega⟩ ⟨by omega, by omega⟩ (fun x hx => hx) id') (by rw [← e6]; exact v4)
  simp only [List.length_cons, List.length_append, List.length_nil]
  rw [show p + (((cd A f a).length + (0 + 1 + (cd A f d).length) + 1 : Nat) : Int) = p + 1 + (cd A f a).length + 1 + (cd A f d).length by omega]
  exact bP_m h4 ⟨c0, by omega⟩
/-- ENTER -/
theorem zs_enter {H : Int → Int} {σ8 : sg_S} {m : Nat} {t sv N c p n q k e : Int} {b : Int} {C : List (Int × Int)} (hD : dD σ H lo nl dix) (hq : 0 ≤ q ∧ q < dix) (hk : sg_g σ 23 q = k) (h : bP σ σ8 (t + k) sv N c p) (ht : t + k ≤ 400 ∧ 0 ≤ t) (htl : t + nl ≤ 400) (hsl : sv + 12 * nl ≤ 2400) (hp : pl σ p ((5, n) :: C)) (hn : 0 ≤ n ∧ n < 200) (h16 : sg_g σ 16 n = q) (hv : ∀ i : Nat, (i : Int) < k → yV σ8 (sg_g σ 27 (6 * q + i)).toNat (sg_g σ8 64 (t + i)) N) (kk : ∀ σ' m', m' ≤ m → bP σ σ' (t + 1) sv N c (p + 1) → bU σ8 σ' lo b e nl dix t sv [] → yV σ' (sg_g σ 6 (sg_g σ 22 q)).toNat (sg_g σ' 64 t) N → Rr σ m' σ') : Rr σ m σ8 := by
  cases m with
  | zero => exact True.intro
  | succ m =>
    obtain ⟨p0, p1, p2, p3⟩ := pl_c hp
    obtain ⟨d1, d2, d3, d4, d5, d6, d7⟩ := hD q hq.1 hq.2
    refine rr_5 (p := p) (k := n) h.2.2.1.2.2.2 p0 p1 p2 (fun σ32 e32 => ?_)
    obtain ⟨h32, f32⟩ := bP_32 h ⟨p0.2, p0.1⟩ e32
    obtain ⟨a1, a2, ⟨a3, a4, a5, a6⟩, a7, a8, a9, a10⟩ := id h32
    rw [xa_in (a := 16) hn, h16]
    rw [hk] at d5 d6
    refine m_enter (q := q) (p := k) (fs := sg_g σ 24 q) (t := t) (pc := p + 1) (E := sg_g σ 31 q) ⟨hq.1, d1⟩ (by rw [sg_F_ga a1 rfl]; exact hk) d5 (sg_F_ga a1 rfl) ⟨d6.1, by omega⟩ a3 ⟨ht.2, ht.1⟩ a6 (sg_F_ga a1 rfl) (fun σ1 f1 z1 z2 z3 z4 z5 z6 _ => ?_)
    have F1 : sg_F [62, 63, 8061, 9061] σ8 σ1 := sg_F_t (sg_F_m f32 rfl) (sg_F_m f1 rfl)
    have u1 : bU σ8 σ1 lo b e nl dix t sv [] := ⟨yEx_F F1 rfl, fun i _ => sg_F_ga F1 rfl, fun y y1 _ => by rw [z6 y (by omega), sg_F_ga f32 rfl], fun i _ => ⟨sg_F_ga F1 rfl, sg_F_ga F1 rfl⟩, fun x _ _ => ⟨sg_F_ga F1 rfl, sg_F_ga F1 rfl, sg_F_ga F1 rfl⟩, fun q' hq' => by rw [z4 q' (by omega), sg_F_ga f32 rfl]⟩
    refine d2 σ1 m t sv N c (p + 1) ⟨sg_F_t a1 (sg_F_m f1 rfl), mC_F a2 f1 rfl, ⟨z1, by rw [sg_F_g f1 (by rfl)]; exact a4, by rw [sg_F_g f1 (by rfl)]; exact a5, z2⟩, a7, ht.2, a9, a10⟩ z3 (fun i hi => ?_) (by omega) (by omega) (fun σ' m' hm' hP hU hV => ?_)
    · rw [hk] at hi
      rw [z5 i hi, sg_F_ga f32 rfl]
      exact yV_up (yEx_F F1 rfl) (hv i hi)
    · refine kk σ' m' (by omega) hP (bU_t u1 (bU_w hU ⟨d3, d4, by omega⟩ (fun s x y z => by omega) (Int.le_refl _) (Int.le_refl _) (by simp)) ⟨Int.le_refl _, Int.le_refl _, Int.le_refl _, Int.le_refl _⟩ ⟨Int.le_refl _, Int.le_refl _⟩ ⟨Int.le_refl _, Int.le_refl _⟩ (by simp) (fun x hx => hx)) hV
theorem bN_call {H : Int → Int} (hD : dD σ H lo nl dix) (hW : ckW σ A) (hnl : 0 ≤ nl) (F : bN σ A ds B lo nl dix f) {n : Int} {L1 es : List Int} {sc : List (Int × Int)} {b b' p : Int} {h : Nat} (hk : A.2.1 n = 13) (hf : fT A (A.2.2.2.2.1 n) L1) (hN : L1.Nodup) (hL : ∀ x ∈ n :: L1, nl ≤ x) (hg : gRq σ A (n :: L1)) (hty : tyN A ds (sg_g σ 6) B (f + 1) sc n) (hsc : scN σ A dix (f + 1) es n b b') (hh : htN A (f + 1) n ≤ h) (hp : pl σ p (cd A (f + 1) n)) (hS : bSq σ es lo b) (hb : b' ≤ 272) {σ8 : sg_S} {m : Nat} {t sv N c : Int} (h8 : bP σ σ8 t sv N c p) (hE : bE σ σ8 A (n :: L1) es N) (ht : t + (n :: L1).length + nl ≤ 400) (hv : sv + ((h * (n :: L1).length : Nat) : Int) + 12 * nl ≤ 2400) (k : ∀ σ' m', m' ≤ m → bP σ σ' (t + 1) sv N c (p + (cd A (f + 1) n).length) → bU σ8 σ' lo b b' nl dix t sv (n :: L1) → yV σ' (sg_g σ 6 n).toNat (sg_g σ' 64 t) N → Rr σ m' σ') : Rr σ m σ8 := by
  obtain ⟨t1, t2, t3, t4, t5, t6, t7, t8, t9⟩ := hty
  obtain ⟨c1, c2⟩ := ck3 hW t2
  have n2 : ¬ A.2.1 n = 2 := by omega
  have n3 : ¬ A.2.1 n = 3 := by omega
  have n15 : ¬ A.2.1 n = 15 := by omega
  have ho : kOrd A n = A.2.2.2.2.1 n := by unfold kOrd; rw [if_neg n15]
  obtain ⟨-, -, s1, s2⟩ := hsc
  rw [ho] at s2
  obtain ⟨r1, r2, r3, r4⟩ := s1 hk
  simp only [cd] at hp k
  have hcn : cnc A n = [(5, n)] := by unfold cnc; rw [if_neg n2, if_neg n3, if_pos hk]
  rw [ho, hcn] at hp k
  have p0 := pl_c hp
  obtain ⟨p1, p2⟩ := pl_a p0.2.2.2
  have ll := fT_len hf
  simp only [List.length_cons] at ht hv
  have hmul : sv + ((h * L1.length : Nat) : Int) + 12 * nl ≤ 2400 := by
    have := Nat.mul_le_mul_left h (show L1.length ≤ L1.length + 1 by omega)
    omega
  have tb := h8.2.2.2.2.1
  have c0 := h8.2.2.2.2.2.2
  refine zs_begin (lo := lo) (b := b) (e := b') (nl := nl) (dix := dix) h8 hp ⟨t2.1, c2⟩ (fun σ1 m1 hm1 h1 f1 u1 _ => ?_)
  have hE1 : bE σ σ1 A L1 es N := bE_u (bE_s hE (fun x hx => by simp [hx])) hS u1
  refine bRow hnl F (A.2.2.2.2.1 n) L1 0 b b' (p + 1) hf hN (fun x hx => hL x (by simp [hx])) (gR_s hg (fun x hx => by simp [hx])) (t9 n2 n15) s2 (fun j _ _ => kQ_o n2 n3 n15) (fun x hx => ht_k hh hx) p1 hS hb σ1 m1 t sv N (c + 4) h1 hE1 (by omega) hmul (fun σ2 m2 hm2 h2 u2 v2 => ?_)
  have u12 : bU σ8 σ2 lo b b' nl dix t sv (n :: L1) := bU_t u1 u2 ⟨Int.le_refl _, Int.le_refl _, Int.le_refl _, Int.le_refl _⟩ ⟨Int.le_refl _, Int.le_refl _⟩ ⟨Int.le_refl _, Int.le_refl _⟩ (fun x hx => by simp at hx; simp [hx]) (fun x hx => by simp [hx])
  refine zs_enter (b := b) (e := b') hD r1 r2.symm h2 ⟨by omega, tb⟩ (by omega) (by omega) p2 ⟨t2.1, c2⟩ rfl (fun i hi => ?_) (fun σ' m' hm' hP hU hV => ?_)
  · have hx : (A.2.2.2.2.1 n)[i]? = some ((A.2.2.2.2.1 n)[i]'(by omega)) := List.getElem?_eq_getElem _
    have := v2 i _ hx
    rw [r3 i _ hx] at this
    exact this
  · refine k σ' m' (by omega) ?_ (bU_t u12 hU ⟨Int.le_refl _, Int.le_refl _, Int.le_refl _, Int.le_refl _⟩ ⟨Int.le_refl _, Int.le_refl _⟩ ⟨Int.le_refl _, Int.le_refl _⟩ (fun _ hx => hx) (by simp)) (by rw [r4]; exact hV)
    simp only [List.length_cons, List.length_append, List.length_nil]
    rw [show p + (((cdS A (cd A f) n 0 (A.2.2.2.2.1 n)).length + (0 + 1) + 1 : Nat) : Int) = p + 1 + (cdS A (cd A f) n 0 (A.2.2.2.2.1 n)).length + 1 by omega]
    exact bP_m hP ⟨c0, by omega⟩
end BNL
/-! BIG STEPS: fork, turn, join. -/
/-- what a branch leaves: the wanted slots anew for m lanes, the old ones saved -/
def bB (σ σ8 σ' : sg_S) (n sv m : Int) (W : List Int) : Prop := W.Nodup ∧ yEx σ8 σ' ∧ (∀ s ∈ W, yV σ' (sg_g σ 34 s).toNat (sg_g σ' 62 s) m) ∧ (∀ s, s ∉ W → sg_g σ' 62 s = sg_g σ8 62 s) ∧ (∀ i, sg_g σ' 64 i = sg_g σ8 64 i ∧ sg_g σ' 63 i = sg_g σ8 63 i ∧ sg_g σ' 69 i = sg_g σ8 69 i) ∧ (∀ i, ¬ i = n → sg_g σ' 70 i = sg_g σ8 70 i ∧ sg_g σ' 71 i = sg_g σ8 71 i) ∧ sg_g σ' 71 n = sv ∧ (∀ (i : Nat) (x : Int), W[i]? = some x → sg_g σ' 72 (sv + i) = x ∧ sg_g σ' 73 (sv + i) = sg_g σ8 62 x) ∧ ∀ i, i < sv → sg_g σ' 72 i = sg_g σ8 72 i ∧ sg_g σ' 73 i = sg_g σ8 73 i
def hTs (σ σ8 : sg_S) (P : Int → Prop) (N : Int) : Prop := ∀ s, P s → (0 ≤ s ∧ s < 272) ∧ kIn (sg_g σ 34 s) ∧ yV σ8 (sg_g σ 34 s).toNat (sg_g σ8 62 s) N
theorem hTs_u {σ σ8 σ1 : sg_S} {P P' : Int → Prop} {N : Int} (f : sg_F bRL σ σ1) (h : hTs σ σ8 P N) (hP : ∀ s, P' s → P s) (e : yEx σ8 σ1) (h62 : ∀ s, sg_g σ1 62 s = sg_g σ8 62 s) : ∀ s, P' s → (0 ≤ s ∧ s < 272) ∧ ∃ d : Nat, d ≤ 3 ∧ sg_g σ1 34 s = d ∧ yV σ1 d (sg_g σ1 62 s) N := fun s hs => by
  obtain ⟨a1, a2, a3⟩ := h s (hP s hs)
  unfold kIn at a2
  refine ⟨a1, (sg_g σ 34 s).toNat, by omega, by rw [sg_F_ga f rfl]; omega, ?_⟩
  rw [h62 s]
  exact yV_up e a3
section BIF
variable {σ : sg_S} {σ8 : sg_S} {m : Nat} {t sv N c p n : Int} {C : List (Int × Int)}
theorem cn_e {σ1 σ2 : sg_S} (g : yG σ1) (g' : yG σ2) (h : yEx σ1 σ2) {ch w n : Int} (hc : yRw σ1 ch n) : cnF σ2 ch w n.toNat = cnF σ1 ch w n.toNat := cn_up g g' h hc (by have := hc.2.2.1; omega)
theorem zs_fork {x lo hi bd : Int} (h : bP σ σ8 (t + 1) sv N c p) (hc : 4 ≤ c) (ht : t < 400 ∧ 0 ≤ t) (hp : pl σ p ((7, n) :: C)) (hn : 0 ≤ n ∧ n < 200) (hx : 0 ≤ x ∧ x < 200) (h2 : v_tSecond σ n = x) (h11 : sg_g σ 11 x = lo) (h12 : sg_g σ 12 x = hi) (hl : 0 ≤ lo ∧ hi < 200) (h16 : sg_g σ 16 n = bd) (h69 : sg_g σ8 69 n = N) (hch : yRw σ8 (sg_g σ8 64 t) N) (hs0 : sv ≤ 2400 ∧ sv + (hi - lo + 1) ≤ 2400) (hT : hTs σ σ8 (wnt σ lo hi bd) N) (k : ∀ σ' m' W, m' ≤ m → bP σ σ' t (sv + W.length) (cnF σ8 (sg_g σ8 64 t) 1 N.toNat) c (p + 1) → (∀ s, s ∈ W ↔ wnt σ lo hi bd s) → ((W.length : Int) ≤ hi - lo + 1 ∨ W = []) → bB σ σ8 σ' n sv (cnF σ8 (sg_g σ8 64 t) 1 N.toNat) W → sg_g σ' 70 n = sg_g σ8 64 t → Rr σ m' σ') : Rr σ m σ8 := by
  cases m with
  | zero => exact True.intro
  | succ m =>
    obtain ⟨p0, p1, p2, p3⟩ := pl_c hp
    refine rr_7 (p := p) (k := n) h.2.2.1.2.2.2 p0 p1 p2 (fun σ32 e32 => ?_)
    obtain ⟨h32, f32⟩ := bP_32 h ⟨p0.2, p0.1⟩ e32
    obtain ⟨a1, a2, ⟨a3, a4, a5, a6⟩, a7, a8, a9, a10⟩ := id h32
    have e8 : yEx σ8 σ32 := yEx_F f32 rfl
    have e64 : sg_g σ32 64 t = sg_g σ8 64 t := sg_F_ga f32 rfl
    have wF : ∀ s, wnt σ32 lo hi bd s ↔ wnt σ lo hi bd s := fun s => wnt_F a1 rfl
    refine f_fork (a := n) (x := x) (lo := lo) (hi := hi) (bd := bd) (n := N) (sv := sv) (c := c) (t := t) hn hx ?_ a2 hc a3 ⟨ht.2, ht.1⟩ (by rw [sg_F_ga a1 rfl]; exact h11) (by rw [sg_F_ga a1 rfl]; exact h12) hl (by rw [sg_F_ga a1 rfl]; exact h16) (by rw [sg_F_ga f32 rfl]; exact h69) a7 (by rw [e64]; exact yRw_up e8 hch) a4 ⟨a9, hs0.1, hs0.2⟩ (hTs_u a1 hT (fun s => (wF s).mp) e8 (fun s => sg_F_ga f32 rfl)) (fun σ' _ z _ => rr_s z) (fun σ' W f' w1 w2 w3 w4 w5 w6 w7 _ => ?_)
    · rw [← h2]
      unfold v_tSecond
      rw [xa_in (a := 7) hn, xa_in (a := 7) hn, sg_F_ga a1 rfl]
      unfold sx_at
      split
      · exact sg_F_ga a1 rfl
      · rfl
    · obtain ⟨⟨n1, n2, n3, n4⟩, b1, b2, b3, b4, b5, b6⟩ := w4
      rw [e64] at b1 w6 n3
      have ce : cnF σ32 (sg_g σ8 64 t) 1 N.toNat = cnF σ8 (sg_g σ8 64 t) 1 N.toNat := cn_F f32 rfl _ _ _
      rw [ce] at b1 n3
      have cb := cnF_b σ8 (sg_g σ8 64 t) 1 N.toNat
      refine k σ' m W (by omega) ⟨sg_F_t a1 (sg_F_m f' rfl), n1, ⟨w5, b2, b1, by rw [sg_F_g f' (by rfl)]; exact a6⟩, ⟨by omega, by omega⟩, ht.2, by omega, a10⟩ (fun s => (w2 s).trans (wF s)) w3 ⟨w1, yEx_t e8 n2, fun s hs => ?_, fun s hs => by rw [n4 s hs, sg_F_ga f32 rfl], fun i => ⟨by rw [sg_F_ga f' rfl, sg_F_ga f32 rfl], by rw [sg_F_ga f' rfl, sg_F_ga f32 rfl], by rw [sg_F_ga f' rfl, sg_F_ga f32 rfl]⟩, fun i hi => ⟨by rw [w7 i hi, sg_F_ga f32 rfl], by rw [b4 i hi, sg_F_ga f32 rfl]⟩, b3, fun i x hx => ?_, fun i hi => ?_⟩ w6
      · have q := hT s ((wF s).mp ((w2 s).mp hs))
        have kk := q.2.1
        unfold kIn at kk
        exact n3 s hs _ (by rw [sg_F_ga a1 rfl]; omega)
      · obtain ⟨c1, c2⟩ := b5 i x hx
        exact ⟨c1, by rw [c2, sg_F_ga f32 rfl]⟩
      · obtain ⟨c1, c2⟩ := b6 i hi
        exact ⟨by rw [c1, sg_F_ga f32 rfl], by rw [c2, sg_F_ga f32 rfl]⟩
/-- slots as they were before the branch -/
def rsW (σ8 σ2 : sg_S) (sv : Int) (W : List Int) : Prop := sg_F [62, 9061, 23061] σ8 σ2 ∧ (∀ (i : Nat) (x : Int), W[i]? = some x → sg_g σ2 62 x = sg_g σ8 73 (sv + i)) ∧ ∀ x, x ∉ W → sg_g σ2 62 x = sg_g σ8 62 x
theorem zs_turn {x lo hi bd ch m0 : Int} {W1 : List Int} (h : bP σ σ8 t (sv + W1.length) m0 c p) (h0 : 0 ≤ sv) (hc : 4 ≤ c) (hp : pl σ p ((8, n) :: C)) (hn : 0 ≤ n ∧ n < 200) (hx : 0 ≤ x ∧ x < 200) (h8' : sg_g σ 8 n = x) (h11 : sg_g σ 11 x = lo) (h12 : sg_g σ 12 x = hi) (hl : 0 ≤ lo ∧ hi < 200) (h16 : sg_g σ 16 n = bd) (h69 : sg_g σ8 69 n = N) (hN : 0 ≤ N ∧ N ≤ 6000) (h70 : sg_g σ8 70 n = ch) (hch : yRw σ8 ch N) (h71 : sg_g σ8 71 n = sv) (hs0 : sv ≤ 2400 ∧ sv + (hi - lo + 1) ≤ 2400 ∧ sv + W1.length ≤ 2400) (hN1 : W1.Nodup) (hW1 : ∀ x ∈ W1, 0 ≤ x ∧ x < 272) (h72 : ∀ (i : Nat) (x : Int), W1[i]? = some x → sg_g σ8 72 (sv + i) = x) (hT : ∀ σ2, rsW σ8 σ2 sv W1 → hTs σ σ2 (wnt σ lo hi bd) N) (k : ∀ σ2 σ' m' W, m' ≤ m → rsW σ8 σ2 sv W1 → bP σ σ' t (sv + W.length) (cnF σ8 ch 0 N.toNat) c (p + 1) → (∀ s, s ∈ W ↔ wnt σ lo hi bd s) → ((W.length : Int) ≤ hi - lo + 1 ∨ W = []) → bB σ σ2 σ' n sv (cnF σ8 ch 0 N.toNat) W → sg_g σ' 70 n = ch → Rr σ m' σ') : Rr σ m σ8 := by
  cases m with
  | zero => exact True.intro
  | succ m =>
    obtain ⟨p0, p1, p2, p3⟩ := pl_c hp
    refine rr_8 (p := p) (k := n) h.2.2.1.2.2.2 p0 p1 p2 (fun σ32 e32 => ?_)
    obtain ⟨h32, f32⟩ := bP_32 h ⟨p0.2, p0.1⟩ e32
    obtain ⟨a1, a2, ⟨a3, a4, a5, a6⟩, a7, a8, a9, a10⟩ := id h32
    have e8 : yEx σ8 σ32 := yEx_F f32 rfl
    have wF : ∀ s, wnt σ32 lo hi bd s ↔ wnt σ lo hi bd s := fun s => wnt_F a1 rfl
    have rs : ∀ σ2, sg_F [62, 23061] σ32 σ2 → (∀ (i : Nat) (x : Int), W1[i]? = some x → sg_g σ2 62 x = sg_g σ32 73 (sv + i)) → (∀ x, x ∉ W1 → sg_g σ2 62 x = sg_g σ32 62 x) → rsW σ8 σ2 sv W1 := fun σ2 g1 g2 g3 => ⟨sg_F_t (sg_F_m f32 rfl) (sg_F_m g1 rfl), fun i x hx => by rw [g2 i x hx, sg_F_ga f32 rfl], fun x hx => by rw [g3 x hx, sg_F_ga f32 rfl]⟩
    refine f_turn (W1 := W1) (a := n) (x := x) (lo := lo) (hi := hi) (bd := bd) (n := N) (sv := sv) (c := c) (ch := ch) hn hx (by rw [sg_F_ga a1 rfl]; exact h8') a2 hc (by rw [sg_F_ga a1 rfl]; exact h11) (by rw [sg_F_ga a1 rfl]; exact h12) hl (by rw [sg_F_ga a1 rfl]; exact h16) (by rw [sg_F_ga f32 rfl]; exact h69) hN (by rw [sg_F_ga f32 rfl]; exact h70) (yRw_up e8 hch) (by rw [sg_F_ga f32 rfl]; exact h71) a4 ⟨h0, hs0⟩ hN1 hW1 (fun i x hx => by rw [sg_F_ga f32 rfl]; exact h72 i x hx) (fun σ2 g1 g2 g3 s hs => ?_) (fun σ' _ z _ => rr_s z) (fun σ2 σ' W f' g1 g2 g3 w1 w2 w3 w4 _ => ?_)
    · obtain ⟨q1, q2, q3⟩ := hT σ2 (rs σ2 g1 g2 g3) s ((wF s).mp hs)
      unfold kIn at q2
      exact ⟨q1, (sg_g σ 34 s).toNat, by omega, by rw [sg_F_ga a1 rfl]; omega, yV_up (yEx_x (sg_F_g g1 (by rfl)).symm (sg_F_g g1 (by rfl)).symm (fun v _ _ => ⟨(sg_F_ga g1 rfl).symm, (sg_F_ga g1 rfl).symm, (sg_F_ga g1 rfl).symm⟩) (fun x _ => ⟨(sg_F_ga g1 rfl).symm, (sg_F_ga g1 rfl).symm⟩)) q3⟩
    · have R2 := rs σ2 g1 g2 g3
      obtain ⟨⟨n1, n2, n3, n4⟩, b1, b2, b3, b4, b5, b6⟩ := w4
      have ce : cnF σ32 ch 0 N.toNat = cnF σ8 ch 0 N.toNat := cn_F f32 rfl _ _ _
      rw [ce] at b1 n3
      have cb := cnF_b σ8 ch 0 N.toNat
      refine k σ2 σ' m W (by omega) R2 ⟨sg_F_t a1 (sg_F_m f' rfl), n1, ⟨by rw [sg_F_g f' (by rfl)]; exact a3, b2, b1, by rw [sg_F_g f' (by rfl)]; exact a6⟩, ⟨by omega, by omega⟩, a8, by omega, a10⟩ (fun s => (w2 s).trans (wF s)) w3 ⟨w1, n2, fun s hs => ?_, n4, fun i => ⟨by rw [sg_F_ga f' rfl, sg_F_ga g1 rfl], by rw [sg_F_ga f' rfl, sg_F_ga g1 rfl], by rw [sg_F_ga f' rfl, sg_F_ga g1 rfl]⟩, fun i hi => ⟨by rw [sg_F_ga f' rfl, sg_F_ga g1 rfl], b4 i hi⟩, b3, b5, b6⟩ (by rw [sg_F_ga f' rfl, sg_F_ga f32 rfl]; exact h70)
      have q := hT σ2 R2 s ((wF s).mp ((w2 s).mp hs))
      have kk := q.2.1
      unfold kIn at kk
      exact n3 s hs _ (by rw [sg_F_ga g1 rfl, sg_F_ga a1 rfl]; omega)
theorem zs_join {ch m0 : Int} {D : Nat} {W : List Int} (h : bP σ σ8 (t + 2) (sv + W.length) m0 c p) (h0 : 0 ≤ sv) (ht : t + 2 ≤ 400 ∧ 0 ≤ t) (hc : 4 ≤ c) (hp : pl σ p ((9, n) :: C)) (hn : 0 ≤ n ∧ n < 200) (h6 : sg_g σ 6 n = D) (hD : D ≤ 3) (h69 : sg_g σ8 69 n = N) (hN : 0 ≤ N ∧ N ≤ 6000) (h70 : sg_g σ8 70 n = ch) (hch : yRw σ8 ch N) (hA : yV σ8 D (sg_g σ8 64 t) (cnF σ8 ch 1 N.toNat)) (hB : yV σ8 D (sg_g σ8 64 (t + 1)) (cnF σ8 ch 0 N.toNat)) (h71 : sg_g σ8 71 n = sv) (hs0 : sv + W.length ≤ 2400) (hN1 : W.Nodup) (hW1 : ∀ x ∈ W, 0 ≤ x ∧ x < 272) (h72 : ∀ (i : Nat) (x : Int), W[i]? = some x → sg_g σ8 72 (sv + i) = x) (k : ∀ σ' m', m' ≤ m → bP σ σ' (t + 1) sv N c (p + 1) → yEx σ8 σ' → yV σ' D (sg_g σ' 64 t) N → (∀ i, i < t → sg_g σ' 64 i = sg_g σ8 64 i) → (∀ (i : Nat) (x : Int), W[i]? = some x → sg_g σ' 62 x = sg_g σ8 73 (sv + i)) → (∀ x, x ∉ W → sg_g σ' 62 x = sg_g σ8 62 x) → (∀ i, sg_g σ' 63 i = sg_g σ8 63 i ∧ sg_g σ' 69 i = sg_g σ8 69 i ∧ sg_g σ' 70 i = sg_g σ8 70 i ∧ sg_g σ' 71 i = sg_g σ8 71 i ∧ sg_g σ' 72 i = sg_g σ8 72 i ∧ sg_g σ' 73 i = sg_g σ8 73 i) → Rr σ m' σ') : Rr σ m σ8 := by
  cases m with
  | zero => exact True.intro
  | succ m =>
    obtain ⟨p0, p1, p2, p3⟩ := pl_c hp
    refine rr_9 (p := p) (k := n) h.2.2.1.2.2.2 p0 p1 p2 (fun σ32 e32 => ?_)
    obtain ⟨h32, f32⟩ := bP_32 h ⟨p0.2, p0.1⟩ e32
    obtain ⟨a1, a2, ⟨a3, a4, a5, a6⟩, a7, a8, a9, a10⟩ := id h32
    have e8 : yEx σ8 σ32 := yEx_F f32 rfl
    refine f_join (W := W) (a := n) (sb := sv) (n := N) (t := t) (c := c) (ch := ch) (D := D) hn a2 hc hD (by rw [sg_F_ga a1 rfl]; exact h6) (by rw [sg_F_ga f32 rfl]; exact h69) hN (by rw [sg_F_ga f32 rfl]; exact h70) (yRw_up e8 hch) a3 ⟨ht.2, ht.1⟩ (by rw [sg_F_ga f32 rfl, cn_F f32 rfl]; exact yV_up e8 hA) (by rw [sg_F_ga f32 rfl, cn_F f32 rfl]; exact yV_up e8 hB) (by rw [sg_F_ga f32 rfl]; exact h71) a4 ⟨h0, hs0⟩ hN1 hW1 (fun i x hx => by rw [sg_F_ga f32 rfl]; exact h72 i x hx) (fun σ' f' r' _ => ?_)
    rcases r' with z | ⟨z1, z2, z3, z4, z5, z6, z7, z8, z9⟩
    · exact rr_s z
    · refine k σ' m (by omega) ⟨sg_F_t a1 (sg_F_m f' rfl), z1, ⟨z5, z4, z3, by rw [sg_F_g f' (by rfl)]; exact a6⟩, hN, by omega, h0, a10⟩ (yEx_t e8 z2) z6 (fun i hi => by rw [z7 i hi, sg_F_ga f32 rfl]) (fun i x hx => by rw [z8 i x hx, sg_F_ga f32 rfl]) (fun x hx => by rw [z9 x hx, sg_F_ga f32 rfl]) (fun i => ⟨by rw [sg_F_ga f' rfl, sg_F_ga f32 rfl], by rw [sg_F_ga f' rfl, sg_F_ga f32 rfl], by rw [sg_F_ga f' rfl, sg_F_ga f32 rfl], by rw [sg_F_ga f' rfl, sg_F_ga f32 rfl], by rw [sg_F_ga f' rfl, sg_F_ga f32 rfl], by rw [sg_F_ga f' rfl, sg_F_ga f32 rfl]⟩)
end BIF
