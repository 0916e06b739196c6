/-! BIG STEPS of the class's flat run, exactly: calls. -/
section CWD
variable (σ : sg_S) (A : aT) (D : List aDf) (vb : Int → Prop) (lev : Int → Nat) (X : sg_S → Prop) (call : Int → Nat → fEv → fSt → fRs)
/-- a call of DEF q, once it is entered -/
def cLy (q : Int) : Prop := ∀ (σ8 : sg_S) (m : Nat) (ρ : fEv) (t sv c cr r : Int) (N : Nat) (s : fSt), bP σ σ8 t sv N c (sg_g σ 31 q) → ctX σ8 s → sg_g σ8 63 q = r → (∀ j : Nat, (j : Int) < sg_g σ 23 q → rlY σ A D σ8 ρ (1100 + 6 * q + j) ∧ (ρ (1100 + 6 * q + j)).length = N) → t + nxq σ q ≤ 400 → sv + 12 * nxq σ q ≤ 2400 → 6 * (2001 - s.1) + cr ≤ (m : Int) → 1 ≤ cr → kY σ A D vb lev (q.toNat + 1) X σ8 ρ t sv c r (cr - 1) (nxq σ q) q [] N (sg_g σ 6 (sg_g σ 22 q)).toNat (call q N ρ s) → Ry σ X m σ8
/-- the DEFS before -/
def dDy (nl dix : Int) : Prop := ∀ q, 0 ≤ q → q < dix → q < 12 ∧ cLy σ A D vb lev X call q ∧ nxq σ q ≤ nl ∧ (0 ≤ sg_g σ 23 q ∧ sg_g σ 23 q ≤ 6) ∧ (0 ≤ sg_g σ 24 q ∧ sg_g σ 24 q + sg_g σ 23 q ≤ 272) ∧ ∃ y, D[q.toNat]? = some y ∧ (y.2.2.1.length : Int) = sg_g σ 23 q ∧ y.2.2.2 = sg_g σ 22 q
end CWD
section CWS
variable {σ : sg_S} {A : aT} {D : List aDf} {vb : Int → Prop} {X : sg_S → Prop} {B : Int → Int} {lev : Int → Nat} {O : Int → Nat → List Int} {call : Int → Nat → fEv → fSt → fRs} {j : Nat} {nl dix : Int} {f : Nat}
/-- what is bound at once, from binder b on -/
theorem rlY_us {σ8 σ1 : sg_S} {ρ : fEv} {b fs : Int} {vs : List (List vaF)} (hSl : slA σ vb) (hv : ∀ j : Nat, j < vs.length → vb (b + j) ∧ slF σ (b + j) = fs + j) (ex : yEx σ8 σ1) (hi : ∀ (j : Nat) (v : List vaF), vs[j]? = some v → yX σ1 (bTy A D (sg_g σ 6) (b + j)).toNat (sg_g σ1 62 (fs + j)) v) (ho : ∀ x, ¬ (fs ≤ x ∧ x < fs + vs.length) → sg_g σ1 62 x = sg_g σ8 62 x) : (∀ j : Nat, j < vs.length → rlY σ A D σ1 (fUs ρ b 0 vs) (b + j)) ∧ ∀ x, vb x → rlY σ A D σ8 ρ x → rlY σ A D σ1 (fUs ρ b 0 vs) x := by
  have h1 : ∀ j : Nat, j < vs.length → rlY σ A D σ1 (fUs ρ b 0 vs) (b + j) := fun j hj => by
    obtain ⟨v, hv'⟩ : ∃ v, vs[j]? = some v := ⟨_, List.getElem?_eq_getElem hj⟩
    have := fUs_at (b := b) (ρ := ρ) (i := 0) hv'
    simp only [Int.ofNat_zero, Int.cast_ofNat_Int, Int.add_zero] at this
    unfold rlY
    rw [this, (hv j hj).2]
    exact hi j v hv'
  refine ⟨h1, fun x hx hr => ?_⟩
  by_cases c : b ≤ x ∧ x < b + vs.length
  · have := h1 (x - b).toNat (by omega)
    rw [show b + (((x - b).toNat : Nat) : Int) = x by omega] at this
    exact this
  · have e : fUs ρ b 0 vs x = ρ x := fUs_no (ρ := ρ) (i := 0) (by simp only [Int.ofNat_zero, Int.cast_ofNat_Int, Int.add_zero]; omega)
    unfold rlY
    rw [e, ho _ (fun z => ?_)]
    · exact yX_up ex hr
    · have hj : (slF σ x - fs).toNat < vs.length := by omega
      obtain ⟨q1, q2⟩ := hv _ hj
      have := hSl.2 x _ hx q1 (by rw [q2]; omega)
      omega
theorem yN_call (hD : dDy σ A D vb lev X call nl dix) (hdj : dix ≤ (j : Int)) (hW : ckW σ A) (hSl : slA σ vb) (hVb : ∀ b, vbF A D b → vb b) (hnl : 0 ≤ nl) (hP : fPu A D (sg_g σ 6) B lev O call j f) (F : yN σ A D vb X B lev O call j nl dix f) {n : Int} {L1 es : List Int} {sc : List (Int × Int)} {b b' p : Int} {h : Nat} (hk : A.2.1 n = 13) (hf : fT A (A.2.2.2.2.1 n) L1) (hst : stN A D (sg_g σ 6) B lev j (f + 1) (n :: L1) sc n) (hL : ∀ x ∈ n :: L1, nl ≤ x ∧ lyQ σ A D B dix x) (hg : gRq σ A (n :: L1)) (hsc : scN σ A dix (f + 1) es n b b') (hsl : slQ σ sc b) (hh : htN A (f + 1) n ≤ h) (hp : pl σ p (cd A (f + 1) n)) (hb : b' ≤ 272) {σ8 : sg_S} {m : Nat} {ρ : fEv} {t sv c cr : Int} {N : Nat} {s : fSt} (h8 : bP σ σ8 t sv N c p) (h9 : ctX σ8 s) (hS : scY σ A D vb σ8 ρ N sc) (ht : t + (n :: L1).length + nl ≤ 400) (hv : sv + ((h * (n :: L1).length : Nat) : Int) + 12 * nl ≤ 2400) (hm : 6 * (2001 - s.1) + cr ≤ (m : Int)) (hcr : 0 ≤ cr) (k : kY σ A D vb lev j X σ8 ρ t sv c (p + (cd A (f + 1) n).length) cr nl dix (n :: L1) N (sg_g σ 6 n).toNat (fxN A D (sg_g σ 6) B O call (f + 1) n N ρ s)) : Ry σ X m σ8 := by
  obtain ⟨hty, -, hN0, hlv, hsco⟩ := hst
  obtain ⟨t1, t2, t3, t4, t5, t6, t7, t8, t9⟩ := hty
  obtain ⟨c1, c2⟩ := ck3 hW t2
  have hN := (List.nodup_cons.mp hN0).2
  have n1 : ¬ A.2.1 n = 1 := by omega
  have n2 : ¬ A.2.1 n = 2 := by omega
  have n3 : ¬ A.2.1 n = 3 := by omega
  have n15 : ¬ A.2.1 n = 15 := by omega
  have ho : kOrd A n = A.2.2.2.2.1 n := by unfold kOrd; rw [if_neg n15]
  obtain ⟨l1, l2, l3, y, ly1, ly2, ly3⟩ := (hL n (by simp)).2.2.2 hk
  obtain ⟨d1, d2, d3, d4, d5, y', dy1, dy2, dy3⟩ := hD (B n) l2.1 l2.2
  rw [ly1] at dy1
  have ey := Option.some.inj dy1
  subst ey
  have hcn : cnc A n = [(5, n)] := by unfold cnc; rw [if_neg n2, if_neg n3, if_pos hk]
  obtain ⟨-, s1', -, s2⟩ := hsc
  rw [ho] at s2
  simp only [cd] at hp k
  rw [ho, hcn] at hp k
  have p0 := pl_c hp
  obtain ⟨p1, p2⟩ := pl_a p0.2.2.2
  have ll := fT_len hf
  simp only [List.length_cons] at ht hv
  have hmul : sv + ((h * L1.length : Nat) : Int) + 12 * nl ≤ 2400 := by
    have := Nat.mul_le_mul_left h (show L1.length ≤ L1.length + 1 by omega)
    omega
  have hsv12 : sv + 12 * nl ≤ 2400 := by omega
  have c0 := h8.2.2.2.2.2.2
  have tb := h8.2.2.2.2.1
  have sb := h9.2.2.2.1
  obtain ⟨m, rfl⟩ : ∃ m', m = m' + 1 := ⟨m - 1, by omega⟩
  simp only [fxN] at k
  refine zy_begin (A := A) (D := D) (vb := vb) (lev := lev) (j := j) (ρ := ρ) (nl := nl) (dix := dix) h8 h9 hp ⟨t2.1, c2⟩ (fun z σ' f' e' w' => ?_) (fun s1 z σ1 h1 x1 u1 e69 v64 => ?_)
  · rw [z] at k
    exact k σ' f' e' w' (by show ¬ (8 : Int) = 0; decide)
  have st1 := fBg_s z
  rw [z] at k
  simp only at k
  rw [if_neg n1, if_neg n2, if_neg n3, if_pos hk] at k
  have u1' : yU σ A D vb lev j σ8 σ1 ρ ρ t sv nl dix (n :: L1) := yU_w u1 ⟨Int.le_refl _, Int.le_refl _⟩ (Int.le_refl _) (Int.le_refl _) (fun x hx _ => by simp at hx; simp [hx]) (fun b w => ow_s (fun y hy => by simp at hy; simp [hy]) w)
  refine yRow hnl hP F (A.2.2.2.2.1 n) L1 0 b b' (p + 1) hf hN (fun y hy => hlv y (by simp [hy])) (fun q hq => ⟨(hsco q hq).1, fun w => (hsco q hq).2 (ow_s (fun y hy => by simp [hy]) w)⟩) (fun x hx => hL x (by simp [hx])) (gR_s hg (fun x hx => by simp [hx])) (t9 n2 n15) s2 (fun i _ _ => kQ_o n2 n3 n15) hsl (fun x hx => ht_k hh hx) p1 hb σ1 m ρ t sv (c + 4) (cr + 5) s1 h1 x1 (scY_u hS u1 (fun _ _ => rfl) (fun q hq w => (hsco q hq).2 (ow_s (fun y hy => by simp at hy; simp [hy]) w))) (by omega) hmul (by omega) (by omega) ?_
  generalize fSq (fun x => fxN A D (sg_g σ 6) B O call f x N) (A.2.2.2.2.1 n) ρ s1 = r at k
  match r, k with
  | .inl e, k => exact fun σ' q1 q2 q3 q4 => k σ' q1 q2 q3 q4
  | .inr (vs, s2', ρ1), k =>
    intro σ2 m2 lv hm2 h2 x2 u2 v2
    simp only at k lv hm2 h2 x2 u2 v2
    have sb2 := x2.2.2.2.1
    have u12 : yU σ A D vb lev j σ8 σ2 ρ ρ1 t sv nl dix (n :: L1) := yU_t u1' u2 ⟨Int.le_refl _, Int.le_refl _⟩ ⟨Int.le_refl _, Int.le_refl _⟩ (fun x hx => hx) (fun x hx => by simp [hx])
    obtain ⟨m2, rfl⟩ : ∃ m', m2 = m' + 1 := ⟨m2 - 1, by omega⟩
    obtain ⟨q0, q1, q2, q3⟩ := pl_c p2
    refine ry_5 (p := p + 1 + (cdS A (cd A f) n 0 (A.2.2.2.2.1 n)).length) (k := n) h2.2.2.1.2.2.2 q0 h2.2.1.2.2.1 q1 q2 (fun σ32 e32 => ?_)
    obtain ⟨h32, f32⟩ := bP_32 h2 ⟨q0.2, q0.1⟩ e32
    obtain ⟨b1, b2, ⟨b3, b4, b5, b6⟩, b7, b8, b9, b10⟩ := id h32
    rw [xa_in (a := 16) ⟨t2.1, c2⟩, l1]
    rw [l3] at b3
    refine m_enter (q := B n) (p := sg_g σ 23 (B n)) (fs := sg_g σ 24 (B n)) (t := t) (pc := p + 1 + (cdS A (cd A f) n 0 (A.2.2.2.2.1 n)).length + 1) (E := sg_g σ 31 (B n)) ⟨l2.1, d1⟩ (sg_F_ga b1 rfl) d4 (sg_F_ga b1 rfl) d5 b3 ⟨tb, by omega⟩ b6 (sg_F_ga b1 rfl) (fun σ3 f3 z1 z2 z3 z4 z5 z6 _ => ?_)
    have F3 : sg_F [62, 63, 8061, 9061] σ2 σ3 := sg_F_t (sg_F_m f32 rfl) (sg_F_m f3 rfl)
    have ex : yEx σ2 σ3 := yEx_F F3 rfl
    have vl : (vs.length : Int) = sg_g σ 23 (B n) := by omega
    have pv : ∀ j : Nat, j < vs.length → vb (1100 + 6 * B n + j) ∧ slF σ (1100 + 6 * B n + j) = sg_g σ 24 (B n) + j := fun j hj => by
      refine ⟨hVb _ (Or.inr (Or.inr ⟨(B n).toNat, j, y, ly1, by omega, by omega⟩)), sl_par l2.1 (by omega)⟩
    have bt : ∀ (j : Nat) (x : Int), (A.2.2.2.2.1 n)[j]? = some x → bTy A D (sg_g σ 6) (1100 + 6 * B n + j) = sg_g σ 6 x := fun j x hx => by
      have hj := gE_l hx
      rw [bTw_p l2.1 (by omega), List.getD_eq_getElem?_getD (l := D), ly1, Option.getD_some, ← ly2, List.getD_eq_getElem?_getD, List.getElem?_map, hx]
      rfl
    have vget : ∀ (j : Nat) (v : List vaF), vs[j]? = some v → ∃ x, (A.2.2.2.2.1 n)[j]? = some x ∧ yX σ2 (sg_g σ 6 x).toNat (sg_g σ2 64 (t + j)) v ∧ v.length = N := fun j v hv' => by
      have hj := gE_l hv'
      obtain ⟨x, hx⟩ : ∃ x, (A.2.2.2.2.1 n)[j]? = some x := ⟨_, List.getElem?_eq_getElem (by omega)⟩
      have ev : vs.getD j [] = v := by rw [List.getD_eq_getElem?_getD, hv']; rfl
      have := v2 j x hx
      rw [ev] at this
      exact ⟨x, hx, this⟩
    obtain ⟨r1, r2⟩ := rlY_us (A := A) (D := D) (ρ := ρ1) (b := 1100 + 6 * B n) (fs := sg_g σ 24 (B n)) (vs := vs) hSl pv ex (fun j v hv' => by
      have hj := gE_l hv'
      obtain ⟨x, hx, hy, -⟩ := vget j v hv'
      rw [bt j x hx, z5 j (by omega), sg_F_ga f32 rfl]
      exact yX_up ex hy) (fun x hx => by rw [z6 x (by rw [← vl]; exact hx), sg_F_ga f32 rfl])
    have u23 : yU σ A D vb lev j σ2 σ3 ρ1 (fUs ρ1 (1100 + 6 * B n) 0 vs) t sv nl dix [] := ⟨ex, fun i _ => sg_F_ga F3 rfl, fun x hx _ hr => r2 x hx hr, fun i _ => ⟨sg_F_ga F3 rfl, sg_F_ga F3 rfl⟩, fun x _ _ => ⟨sg_F_ga F3 rfl, sg_F_ga F3 rfl, sg_F_ga F3 rfl⟩, fun q hq => by rw [z4 q (by omega), sg_F_ga f32 rfl]⟩
    have u13 : yU σ A D vb lev j σ8 σ3 ρ (fUs ρ1 (1100 + 6 * B n) 0 vs) t sv nl dix (n :: L1) := yU_t u12 u23 ⟨Int.le_refl _, Int.le_refl _⟩ ⟨Int.le_refl _, Int.le_refl _⟩ (fun _ hx => hx) (by simp)
    refine d2 σ3 m2 (fUs ρ1 (1100 + 6 * B n) 0 vs) t sv (c + 4) (cr + 4) _ N s2' ⟨sg_F_t b1 (sg_F_m f3 rfl), mC_F b2 f3 rfl, ⟨z1, by rw [sg_F_g f3 (by rfl)]; exact b4, by rw [sg_F_g f3 (by rfl)]; exact b5, z2⟩, b7, tb, b9, b10⟩ (ctX_F F3 rfl x2) z3 (fun j hj => ⟨r1 j (by omega), ?_⟩) (by omega) (by omega) (by omega) (by omega) ?_
    · obtain ⟨v, hv'⟩ : ∃ v, vs[j]? = some v := ⟨_, List.getElem?_eq_getElem (by omega)⟩
      have := fUs_at (b := 1100 + 6 * B n) (ρ := ρ1) (i := 0) hv'
      simp only [Int.ofNat_zero, Int.cast_ofNat_Int, Int.add_zero] at this
      rw [this]
      obtain ⟨x, -, -, e⟩ := vget j v hv'
      exact e
    generalize call (B n) N (fUs ρ1 (1100 + 6 * B n) 0 vs) s2' = r2' at k
    match r2', k with
    | .inl e, k => exact fun σ' q1 q2 q3 q4 => k σ' q1 q2 q3 q4
    | .inr (v3, s3', ρ2), k =>
      intro σ4 m4 hm4 h4 x4 u4 v4
      simp only at hm4 h4 x4 u4 v4
      refine k σ4 m4 (by show 6 * (2001 - s3'.1) + cr ≤ (m4 : Int); omega) ?_ x4 (yU_t u13 (yU_w (L := []) u4 ⟨d3, by omega⟩ (Int.le_refl _) (Int.le_refl _) (by simp) (fun b w => ow_l (by omega) (by simp) w)) ⟨Int.le_refl _, Int.le_refl _⟩ ⟨Int.le_refl _, Int.le_refl _⟩ (fun _ hx => hx) (by simp)) (by rw [ly3, dy3]; exact v4)
      simp only [List.length_cons, List.length_append, List.length_nil]
      rw [show p + (((cdS A (cd A f) n 0 (A.2.2.2.2.1 n)).length + (0 + 1) + 1 : Nat) : Int) = p + 1 + (cdS A (cd A f) n 0 (A.2.2.2.2.1 n)).length + 1 by omega]
      exact bP_m h4 ⟨c0, by omega⟩
end CWS
