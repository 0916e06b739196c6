/-! BIG STEPS of the class's flat run, exactly: calls. -/
section CWD
variable (σ : sg_S) (A : aT) (D : List aDf) (vb : Int → Prop) (lev : Int → Nat) (X : sg_S → Prop) (call : Int → Nat → fEv → fSt → fRs)
/-- a call of DEF q, once it is entered -/
def cLy (q : Int) : Prop := ∀ (σ8 : sg_S) (m : Nat) (ρ : fEv) (t sv c cr r : Int) (N : Nat) (s : fSt), bP σ σ8 t sv N c (sg_g σ 31 q) → ctX σ8 s → sg_g σ8 63 q = r → (∀ j : Nat, (j : Int) < sg_g σ 23 q → rlY σ A D σ8 ρ (1100 + 6 * q + j) ∧ (ρ (1100 + 6 * q + j)).length = N) → t + nxq σ q ≤ 400 → sv + 12 * nxq σ q ≤ 2400 → 6 * (2001 - s.1) + cr ≤ (m : Int) → 1 ≤ cr → kY σ A D vb lev (q.toNat + 1) X σ8 ρ t sv c r (cr - 1) (nxq σ q) q [] N (sg_g σ 6 (sg_g σ 22 q)).toNat (call q N ρ s) → Ry σ X m σ8
/-- the DEFS before -/
def dDy (nl dix : Int) : Prop := ∀ q, 0 ≤ q → q < dix → q < 12 ∧ cLy σ A D vb lev X call q ∧ nxq σ q ≤ nl ∧ (0 ≤ sg_g σ 23 q ∧ sg_g σ 23 q ≤ 6) ∧ (0 ≤ sg_g σ 24 q ∧ sg_g σ 24 q + sg_g σ 23 q ≤ 272) ∧ ∃ y, D[q.toNat]? = some y ∧ (y.2.2.1.length : Int) = sg_g σ 23 q ∧ y.2.2.2 = sg_g σ 22 q
end CWD
section CWS
variable {σ : sg_S} {A : aT} {D : List aDf} {vb : Int → Prop} {X : sg_S → Prop} {B : Int → Int} {lev : Int → Nat} {O : Int → Nat → List Int} {call : Int → Nat → fEv → fSt → fRs} {j : Nat} {nl dix : Int} {f : Nat}
/-- what is bound at once, from binder b on -/
theorem rlY_us {σ8 σ1 : sg_S} {ρ : fEv} {b fs : Int} {vs : List (List vaF)} (hSl : slA σ vb) (hv : ∀ j : Nat, j < vs.length → vb (b + j) ∧ slF σ (b + j) = fs + j) (ex : yEx σ8 σ1) (hi : ∀ (j : Nat) (v : List vaF), vs[j]? = some v → yX σ1 (bTy A D (sg_g σ 6) (b + j)).toNat (sg_g σ1 62 (fs + j)) v) (ho : ∀ x, ¬ (fs ≤ x ∧ x < fs + vs.length) → sg_g σ1 62 x = sg_g σ8 62 x) : (∀ j : Nat, j < vs.length → rlY σ A D σ1 (fUs ρ b 0 vs) (b + j)) ∧ ∀ x, vb x → rlY σ A D σ8 ρ x → rlY σ A D σ1 (fUs ρ b 0 vs) x := by
  have h1 : ∀ j : Nat, j < vs.length → rlY σ A D σ1 (fUs ρ b 0 vs) (b + j) := fun j hj => by
    obtain ⟨v, hv'⟩ : ∃ v, vs[j]? = some v := ⟨_, List.getElem?_eq_getElem hj⟩
    have := fUs_at (b := b) (ρ := ρ) (i := 0) hv'
    simp only [Int.ofNat_zero, Int.cast_ofNat_Int, Int.add_zero] at this
    unfold rlY
    rw [this, (hv j hj).2]
    exact hi j v hv'
  refine ⟨h1, fun x hx hr => ?_⟩
  by_cases c : b ≤ x ∧ x < b + vs.length
  · have := h1 (x - b).toNat (by omega)
    rw [show b + (((x - b).toNat : Nat) : Int) = x by omega] at this
    exact this
  · have e : fUs ρ b 0 vs x = ρ x := fUs_no (ρ := ρ) (i := 0) (by simp only [Int.ofNat_zero, Int.cast_ofNat_Int, Int.add_zero]; omega)
    unfold rlY
    rw [e, ho _ (fun z => ?_)]
    · exact yX_up ex hr
    · have hj : (slF σ x - fs).toNat < vs.length := by omega
      obtain ⟨q1, q2⟩ := hv _ hj
      have := hSl.2 x _ hx q1 (by rw [q2]; omega)
      omega
theorem yN_call (hD : dDy σ A D vb lev X call nl dix) (hdj : dix ≤ (j : Int)) (hW : ckW σ A) (hSl : slA σ vb) (hVb : ∀ b, vbF A D b → vb b) (hnl : 0 ≤ nl) (hP : fPu A D (sg_g σ 6) B lev O call j f) (F : yN σ A D vb X B lev O call j nl dix f) {n : Int} {L1 es : List Int} {sc : List (Int × Int)} {b b' p : Int} {h : Nat} (hk : A.2.1 n = 13) (hf : fT A (A.2.2.2.2.1 n) L1) (hst : stN A D (sg_g σ 6) B lev j (f + 1) (n :: L1) sc n) (hL : ∀ x ∈ n :: L1, nl ≤ x ∧ lyQ σ A D B dix x) (hg : gRq σ A (n :: L1)) (hsc : scN σ A dix (f + 1) es n b b') (hsl : slQ σ sc b) (hh : htN A (f + 1) n ≤ h) (hp : pl σ p (cd A (f + 1) n)) (hb : b' ≤ 272) {σ8 : sg_S} {m : Nat} {ρ : fEv} {t sv c cr : Int} {N : Nat} {s : fSt} (h8 : bP σ σ8 t sv N c p) (h9 : ctX σ8 s) (hS : scY σ A D vb σ8 ρ N sc) (ht : t + (n :: L1).length + nl ≤ 400) (hv : sv + ((h * (n :: L1).length : Nat) : Int) + 12 * nl ≤ 2400) (hm : 6 * (2001 - s.1) + cr ≤ (m : Int)) (hcr : 0 ≤ cr) (k : kY σ A D vb lev j X σ8 ρ t sv c (p + (cd A (f + 1) n).length) cr nl dix (n :: L1) N (sg_g σ 6 n).toNat (fxN A D (sg_g σ 6) B O call (f + 1) n N ρ s)) : Ry σ X m σ8 := by
  obtain ⟨hty, -, hN0, hlv, hsco⟩ := hst
  obtain ⟨t1, t2, t3, t4, t5, t6, t7, t8, t9⟩ := hty
  obtain ⟨c1, c2⟩ := ck3 hW t2
  have hN := (List.nodup_cons.mp hN0).2
  have n1 : ¬ A.2.1 n = 1 := by omega
  have n2 : ¬ A.2.1 n = 2 := by omega
  have n3 : ¬ A.2.1 n = 3 := by omega
  have n15 : ¬ A.2.1 n = 15 := by omega
  have ho : kOrd A n = A.2.2.2.2.1 n := by unfold kOrd; rw [if_neg n15]
  obtain ⟨l1, l2, l3, y, ly1, ly2, ly3⟩ := (hL n (by simp)).2.2.2 hk
  obtain ⟨d1, d2, d3, d4, d5, y', dy1, dy2, dy3⟩ := hD (B n) l2.1 l2.2
  rw [ly1] at dy1
  have ey := Option.some.inj dy1
  subst ey
  have hcn : cnc A n = [(5, n)] := by unfold cnc; rw [if_neg n2, if_neg n3, if_pos hk]
  obtain ⟨-, s1', -, s2⟩ := hsc
  rw [ho] at s2
  simp only [cd] at hp k
  rw [ho, hcn] at hp k
  have p0 := pl_c hp
  obtain ⟨p1, p2⟩ := pl_a p0.2.2.2
  have ll := fT_len hf
  simp only [List.length_cons] at ht hv
  have hmul : sv + ((h * L1.length : Nat) : Int) + 12 * nl ≤ 2400 := by
    have := Nat.mul_le_mul_left h (show L1.length ≤ L1.length + 1 by omega)
    omega
  have hsv12 : sv + 12 * nl ≤ 2400 := by omega
  have c0 := h8.2.2.2.2.2.2
  have tb := h8.2.2.2.2.1
  have sb := h9.2.2.2.1
  obtain ⟨m, rfl⟩ : ∃ m', m = m' + 1 := ⟨m - 1, by omega⟩
  simp only [fxN] at k
  refine zy_begin (A := A) (D := D) (vb := vb) (lev := lev) (j := j) (ρ := ρ) (nl := nl) (dix := dix) h8 h9 hp ⟨t2.1, c2⟩ (fun z σ' f' e' w' => ?_) (fun s1 z σ1 h1 x1 u1 e69 v64 => ?_)
  · rw [z] at k
    exact k σ' f' e' w' (by show ¬ (8 : Int) = 0; decide)
  have st1 := fBg_s z
  rw [z] at k
  simp only at k
  rw [if_neg n1, if_neg n2, if_neg n3, if_pos hk] at k
  have u1' : yU σ A D vb lev j σ8 σ1 ρ ρ t sv nl dix (n :: L1) := yU_w u1 ⟨Int.le_refl _, Int.le_refl _⟩ (Int.le_refl _) (Int.le_refl _) (fun x hx _ => by simp at hx; simp [hx]) (fun b w => ow_s (fun y hy => by simp at hy; simp [hy]) w)
  refine yRow hnl hP F (A.2.2.2.2.1 n) L1 0 b b' (p + 1) hf hN (fun y hy => hlv y (by simp [hy])) (fun q hq => ⟨(hsco q hq).1, fun w => (hsco q hq).2 (ow_s (fun y hy => by simp [hy]) w)⟩) (fun x hx => hL x (by simp [hx])) (gR_s hg (fun x hx => by simp [hx])) (t9 n2 n15) s2 (fun i _ _ => kQ_o n2 n3 n15) hsl (fun x hx => ht_k hh hx) p1 hb σ1 m ρ t sv (c + 4) (cr + 5) s1 h1 x1 (scY_u hS u1 (fun _ _ => rfl) (fun q hq w => (hsco q hq).2 (ow_s (fun y hy => by simp at hy; simp [hy]) w))) (by omega) hmul (by omega) (by omega) ?_
  generalize fSq (fun x => fxN A D (sg_g σ 6) B O call f x N) (A.2.2.2.2.1 n) ρ s1 = r at k
  match r, k with
  | .inl e, k => exact fun σ' q1 q2 q3 q4 => k σ' q1 q2 q3 q4
  | .inr (vs, s2', ρ1), k =>
    intro σ2 m2 lv hm2 h2 x2 u2 v2
    simp only at k lv hm2 h2 x2 u2 v2
    have sb2 := x2.2.2.2.1
    have u12 : yU σ A D vb lev j σ8 σ2 ρ ρ1 t sv nl dix (n :: L1) := yU_t u1' u2 ⟨Int.le_refl _, Int.le_refl _⟩ ⟨Int.le_refl _, Int.le_refl _⟩ (fun x hx => hx) (fun x hx => by simp [hx])
    obtain ⟨m2, rfl⟩ : ∃ m', m2 = m' + 1 := ⟨m2 - 1, by omega⟩
    obtain ⟨q0, q1, q2, q3⟩ := pl_c p2
    refine ry_5 (p := p + 1 + (cdS A (cd A f) n 0 (A.2.2.2.2.1 n)).length) (k := n) h2.2.2.1.2.2.2 q0 h2.2.1.2.2.1 q1 q2 (fun σ32 e32 => ?_)
    obtain ⟨h32, f32⟩ := bP_32 h2 ⟨q0.2, q0.1⟩ e32
    obtain ⟨b1, b2, ⟨b3, b4, b5, b6⟩, b7, b8, b9, b10⟩ := id h32
    rw [xa_in (a := 16) ⟨t2.1, c2⟩, l1]
    rw [l3] at b3
    refine m_enter (q := B n) (p := sg_g σ 23 (B n)) (fs := sg_g σ 24 (B n)) (t := t) (pc := p + 1 + (cdS A (cd A f) n 0 (A.2.2.2.2.1 n)).length + 1) (E := sg_g σ 31 (B n)) ⟨l2.1, d1⟩ (sg_F_ga b1 rfl) d4 (sg_F_ga b1 rfl) d5 b3 ⟨tb, by omega⟩ b6 (sg_F_ga b1 rfl) (fun σ3 f3 z1 z2 z3 z4 z5 z6 _ => ?_)
    have F3 : sg_F [62, 63, 8061, 9061] σ2 σ3 := sg_F_t (sg_F_m f32 rfl) (sg_F_m f3 rfl)
    have ex : yEx σ2 σ3 := yEx_F F3 rfl
    have vl : (vs.length : Int) = sg_g σ 23 (B n) := by omega
    have pv : ∀ j : Nat, j < vs.length → vb (1100 + 6 * B n + j) ∧ slF σ (1100 + 6 * B n + j) = sg_g σ 24 (B n) + j := fun j hj => by
      refine ⟨hVb _ (Or.inr (Or.inr ⟨(B n).toNat, j, y, ly1, by omega, by omega⟩)), sl_par l2.1 (by omega)⟩
    have bt : ∀ (j : Nat) (x : Int), (A.2.2.2.2.1 n)[j]? = some x → bTy A D (sg_g σ 6) (1100 + 6 * B n + j) = sg_g σ 6 x := fun j x hx => by
      have hj := gE_l hx
      rw [bTw_p l2.1 (by omega), List.getD_eq_getElem?_getD (l := D), ly1, Option.getD_some, ← ly2, List.getD_eq_getElem?_getD, List.getElem?_map, hx]
      rfl
    have vget : ∀ (j : Nat) (v : List vaF), vs[j]? = some v → ∃ x, (A.2.2.2.2.1 n)[j]? = some x ∧ yX σ2 (sg_g σ 6 x).toNat (sg_g σ2 64 (t + j)) v ∧ v.length = N := fun j v hv' => by
      have hj := gE_l hv'
      obtain ⟨x, hx⟩ : ∃ x, (A.2.2.2.2.1 n)[j]? = some x := ⟨_, List.getElem?_eq_getElem (by omega)⟩
      have ev : vs.getD j [] = v := by rw [List.getD_eq_getElem?_getD, hv']; rfl
      have := v2 j x hx
      rw [ev] at this
      exact ⟨x, hx, this⟩
    obtain ⟨r1, r2⟩ := rlY_us (A := A) (D := D) (ρ := ρ1) (b := 1100 + 6 * B n) (fs := sg_g σ 24 (B n)) (vs := vs) hSl pv ex (fun j v hv' => by
      have hj := gE_l hv'
      obtain ⟨x, hx, hy, -⟩ := vget j v hv'
      rw [bt j x hx, z5 j (by omega), sg_F_ga f32 rfl]
      exact yX_up ex hy) (fun x hx => by rw [z6 x (by rw [← vl]; exact hx), sg_F_ga f32 rfl])
    have u23 : yU σ A D vb lev j σ2 σ3 ρ1 (fUs ρ1 (1100 + 6 * B n) 0 vs) t sv nl dix [] := ⟨ex, fun i _ => sg_F_ga F3 rfl, fun x hx _ hr => r2 x hx hr, fun i _ => ⟨sg_F_ga F3 rfl, sg_F_ga F3 rfl⟩, fun x _ _ => ⟨sg_F_ga F3 rfl, sg_F_ga F3 rfl, sg_F_ga F3 rfl⟩, fun q hq => by rw [z4 q (by omega), sg_F_ga f32 rfl]⟩
    have u13 : yU σ A D vb lev j σ8 σ3 ρ (fUs ρ1 (1100 + 6 * B n) 0 vs) t sv nl dix (n :: L1) := yU_t u12 u23 ⟨Int.le_refl _, Int.le_refl _⟩ ⟨Int.le_refl _, Int.le_refl _⟩ (fun _ hx => hx) (by simp)
    refine d2 σ3 m2 (fUs ρ1 (1100 + 6 * B n) 0 vs) t sv (c + 4) (cr + 4) _ N s2' ⟨sg_F_t b1 (sg_F_m f3 rfl), mC_F b2 f3 rfl, ⟨z1, by rw [sg_F_g f3 (by rfl)]; exact b4, by rw [sg_F_g f3 (by rfl)]; exact b5, z2⟩, b7, tb, b9, b10⟩ (ctX_F F3 rfl x2) z3 (fun j hj => ⟨r1 j (by omega), ?_⟩) (by omega) (by omega) (by omega) (by omega) ?_
    · obtain ⟨v, hv'⟩ : ∃ v, vs[j]? = some v := ⟨_, List.getElem?_eq_getElem (by omega)⟩
      have := fUs_at (b := 1100 + 6 * B n) (ρ := ρ1) (i := 0) hv'
      simp only [Int.ofNat_zero, Int.cast_ofNat_Int, Int.add_zero] at this
      rw [this]
      obtain ⟨x, -, -, e⟩ := vget j v hv'
      exact e
    generalize call (B n) N (fUs ρ1 (1100 + 6 * B n) 0 vs) s2' = r2' at k
    match r2', k with
    | .inl e, k => exact fun σ' q1 q2 q3 q4 => k σ' q1 q2 q3 q4
    | .inr (v3, s3', ρ2), k =>
      intro σ4 m4 hm4 h4 x4 u4 v4
      simp only at hm4 h4 x4 u4 v4
      refine k σ4 m4 (by show 6 * (2001 - s3'.1) + cr ≤ (m4 : Int); omega) ?_ x4 (yU_t u13 (yU_w (L := []) u4 ⟨d3, by omega⟩ (Int.le_refl _) (Int.le_refl _) (by simp) (fun b w => ow_l (by omega) (by simp) w)) ⟨Int.le_refl _, Int.le_refl _⟩ ⟨Int.le_refl _, Int.le_refl _⟩ (fun _ hx => hx) (by simp)) (by rw [ly3, dy3]; exact v4)
      simp only [List.length_cons, List.length_append, List.length_nil]
      rw [show p + (((cdS A (cd A f) n 0 (A.2.2.2.2.1 n)).length + (0 + 1) + 1 : Nat) : Int) = p + 1 + (cdS A (cd A f) n 0 (A.2.2.2.2.1 n)).length + 1 by omega]
      exact bP_m h4 ⟨c0, by omega⟩
end CWS
/-! which variables the class carries along; fork, turn, join in one turn each, exactly. -/
section CXA
variable {A : aT} {ds : kD} {T B : Int → Int}
theorem tyN_b (hA : A.1 ≤ 200) : ∀ (f : Nat) (sc : List (Int × Int)) (x : Int) (L : List Int), tyN A ds T B f sc x → fT A [x] L → ∀ y ∈ L, A.2.1 y = 1 → (B y, T y) ∈ sc ∨ bIn A L (B y)
  | 0, sc, x, L, h, _, _, _, _ => by cases h
  | f + 1, sc, x, L, h, hf, y, hy, ky => by
    obtain ⟨a1, a2, a3, a4, a5, a6, a7, a8, a9⟩ := h
    obtain ⟨L1, L2, e1, w1, w2, w3⟩ := fT_inv hf
    have e2 := fT_nil w3
    subst e2
    rw [List.append_nil] at e1
    subst e1
    rcases List.mem_cons.mp hy with e | e
    · rw [e] at ky ⊢
      exact Or.inl (a4 ky)
    · obtain ⟨z, z1, L', z2, z3, z4⟩ := fT_in w2 y e
      have sub : ∀ w ∈ L', w ∈ x :: L1 := fun w hw => by simp [z4 w hw]
      by_cases k2 : A.2.1 x = 2
      · obtain ⟨a, c, ea⟩ : ∃ a c, A.2.2.2.2.1 x = [a, c] := kid2 (a1.2.2.1 (Or.inl k2))
        obtain ⟨b1, b2⟩ := a7 k2 a c ea
        rw [ea] at z1
        rcases List.mem_cons.mp z1 with q | q
        · subst q
          rcases tyN_b hA f _ _ _ b1 z2 y z3 ky with r | r
          · exact Or.inl r
          · exact Or.inr (bIn_m sub r)
        · have q' : z = c := by simpa using q
          subst q'
          rcases tyN_b hA f _ _ _ b2 z2 y z3 ky with r | r
          · rcases List.mem_cons.mp r with r | r
            · have : B y = x := by have := congrArg (·.1) r; exact this
              refine Or.inr (Or.inl ⟨by rw [this]; simp, by rw [this]; exact k2⟩)
            · exact Or.inl r
          · exact Or.inr (bIn_m sub r)
      · by_cases k15 : A.2.1 x = 15
        · have l7 := a1.2.2.2.2.2.2.1 k15
          obtain ⟨bd, tl, ea⟩ : ∃ bd tl, A.2.2.2.2.1 x = bd :: tl := by
            cases e : A.2.2.2.2.1 x with
            | nil => rw [e] at l7; simp at l7; omega
            | cons p q => exact ⟨p, q, rfl⟩
          obtain ⟨b1, b2⟩ := a8 k15 bd tl ea
          rw [ea] at z1
          have hz : z ∈ tl.take (A.2.2.2.2.2 x).length ∨ z ∈ tl.drop (A.2.2.2.2.2 x).length ++ [bd] := by
            rcases List.mem_cons.mp z1 with q | q
            · exact Or.inr (by simp [q])
            · rw [← List.take_append_drop (A.2.2.2.2.2 x).length tl] at q
              rcases List.mem_append.mp q with q | q
              · exact Or.inl q
              · exact Or.inr (by simp [q])
          rcases hz with q | q
          · rcases tyN_b hA f _ _ _ (b1 z q).1 z2 y z3 ky with r | r
            · exact Or.inl r
            · exact Or.inr (bIn_m sub r)
          · rcases tyN_b hA f _ _ _ (b2 z q) z2 y z3 ky with r | r
            · rcases List.mem_append.mp r with r | r
              · obtain ⟨i, u, hu, ep⟩ := gsc_m _ _ _ r
                have hi := lt_of_get hu
                rw [List.length_take] at hi
                have : B y = 210 + 4 * x + i := by
                  have := congrArg (·.1) ep
                  simp only at this
                  omega
                exact Or.inr (Or.inr ⟨x, by simp, k15, i, by omega, this⟩)
              · exact Or.inl r
            · exact Or.inr (bIn_m sub r)
        · rcases tyN_b hA f _ _ _ (a9 k2 k15 z z1) z2 y z3 ky with r | r
          · exact Or.inl r
          · exact Or.inr (bIn_m sub r)
end CXA
section CXB
variable {σ : sg_S} {A : aT} {D : List aDf} {vb : Int → Prop} {X : sg_S → Prop} {B : Int → Int} {lev : Int → Nat} {O : Int → Nat → List Int} {j : Nat} {dix : Int} {f : Nat}
/-- the slots that a part wants are those of the names bound outside of it -/
theorem w_out {x b bx bx' : Int} {L Lx es : List Int} {sc : List (Int × Int)} (hW : ckW σ A) (hx : 0 ≤ x ∧ x < A.1) (hg : gRq σ A L) (hxL : x ∈ L) (stx : stN A D (sg_g σ 6) B lev j f Lx sc x) (hs : scN σ A dix f es x bx bx') (hsl : slQ σ sc b) (hb : b ≤ bx) (hly : ∀ y ∈ Lx, lyQ σ A D B dix y) (s : Int) : (∃ z, (∃ y ∈ Lx, A.2.1 y = 1 ∧ B y = z ∧ ¬ insL Lx z) ∧ slF σ z = s) ↔ wnt σ (sg_g σ 11 x) (sg_g σ 12 x) b s := by
  have hA := hW.1.2
  have fx := stx.2.1
  constructor
  · rintro ⟨z, ⟨y, hy, ky, e, ni⟩, es'⟩
    have l16 := (hly y hy).2.1 ky
    rcases stN_v hA stx hy ky with ⟨q, -⟩ | q
    · have sb := (hsl _ q).1
      simp only at sb
      rw [← es', ← e, ← l16]
      exact wnt_i (es := es) hW hx hg hxL fx hy ky (by rw [l16]; exact sb)
    · rw [e] at q; exact absurd q ni
  · intro h
    have h5 : s < b := by obtain ⟨_, _, _, _, _, h5⟩ := h; exact h5
    obtain ⟨y, j1, j2, j3, j4, -⟩ := h
    have jL := (hg x hxL Lx fx y).mpr ⟨j1, j2⟩
    have jr := fT_inq (fun k a b => (hW.2.2 k a b).2) fx (by intro y hy; simp at hy; rw [hy]; exact hx) _ jL
    have c := (ck3 hW jr).1
    rw [j3] at c
    have ky := kmp_n c.symm
    have l16 := (hly y jL).2.1 ky
    refine ⟨B y, ⟨y, jL, ky, rfl, ?_⟩, by rw [← l16]; exact j4⟩
    rcases tyN_b hA f sc x Lx stx.1 fx y jL ky with q | q
    · exact fun w => (stx.2.2.2.2 _ q).2 (Or.inl w)
    · have r := (scN_sR f es x bx bx' Lx fx stx.2.2.1 (fun w hw => by have := (stx.2.2.2.1 w hw).1; omega) hs).1 _ q
      omega
/-- after a branch -/
def bBX (σ8 σ' : sg_S) (n sv : Int) (Ob : List Int) (sl ty : Int → Int) (ρ' : fEv) : Prop := yEx σ8 σ' ∧ (∀ y ∈ Ob, yX σ' (ty y).toNat (sg_g σ' 62 (sl y)) (ρ' y)) ∧ (∀ s, s ∉ Ob.map sl → sg_g σ' 62 s = sg_g σ8 62 s) ∧ (∀ i, sg_g σ' 64 i = sg_g σ8 64 i ∧ sg_g σ' 63 i = sg_g σ8 63 i ∧ sg_g σ' 69 i = sg_g σ8 69 i) ∧ (∀ i, ¬ i = n → sg_g σ' 70 i = sg_g σ8 70 i ∧ sg_g σ' 71 i = sg_g σ8 71 i) ∧ sg_g σ' 71 n = sv ∧ svd σ8 σ' sv (Ob.map sl) ∧ ∀ i, i < sv → sg_g σ' 72 i = sg_g σ8 72 i ∧ sg_g σ' 73 i = sg_g σ8 73 i
variable {σ8 : sg_S} {m N : Nat} {t sv c p n : Int} {C : List (Int × Int)} {s : fSt} {ρ : fEv} {Ob : List Int} {sl ty : Int → Int} {cv : List vaF}
theorem zy_fork {x lo hi bd : Int} (h : bP σ σ8 (t + 1) sv N c p) (hs : ctX σ8 s) (hc : 4 ≤ c) (ht : t < 400 ∧ 0 ≤ t) (hp : pl σ p ((7, n) :: C)) (hn : 0 ≤ n ∧ n < 200) (hx : 0 ≤ x ∧ x < 200) (h2 : v_tSecond σ n = x) (h11 : sg_g σ 11 x = lo) (h12 : sg_g σ 12 x = hi) (hl : 0 ≤ lo ∧ hi < 200) (h16 : sg_g σ 16 n = bd) (h69 : sg_g σ8 69 n = N) (hch : yX σ8 0 (sg_g σ8 64 t) cv) (hcl : cv.length = N) (hs0 : sv ≤ 2400 ∧ sv + (hi - lo + 1) ≤ 2400) (hOs : (Ob.map sl).Pairwise (· < ·)) (hOm : ∀ s, s ∈ Ob.map sl ↔ wnt σ lo hi bd s) (hT : ∀ y ∈ Ob, cyT σ8 sl ty ρ N y) (k0 : ∀ e, fCa ty (fWh true cv) Ob s ρ = .inl e → ∀ σ', sg_F bRL σ σ' → sg_g σ' 61 10 = e.1 → ctX σ' e.2 → ¬ e.1 = 0 → X σ') (k : ∀ s3 ρ3, fCa ty (fWh true cv) Ob s ρ = .inr (s3, ρ3) → ∀ σ', bP σ σ' t (sv + Ob.length) (fWh true cv).length c (p + 1) → ctX σ' s3 → bBX σ8 σ' n sv Ob sl ty ρ3 → ((Ob.length : Int) ≤ hi - lo + 1 ∨ Ob = []) → sg_g σ' 70 n = sg_g σ8 64 t → Ry σ X m σ') : Ry σ X (m + 1) σ8 := by
  obtain ⟨p0, p1, p2, p3⟩ := pl_c hp
  refine ry_7 (p := p) (k := n) h.2.2.1.2.2.2 p0 h.2.1.2.2.1 p1 p2 (fun σ32 e32 => ?_)
  obtain ⟨h32, f32⟩ := bP_32 h ⟨p0.2, p0.1⟩ e32
  obtain ⟨a1, a2, ⟨a3, a4, a5, a6⟩, a7, a8, a9, a10⟩ := id h32
  have e8 : yEx σ8 σ32 := yEx_F f32 rfl
  have e64 : sg_g σ32 64 t = sg_g σ8 64 t := sg_F_ga f32 rfl
  refine f_forkX (a := n) (x := x) (lo := lo) (hi := hi) (bd := bd) (n := N) (sv := sv) (c := c) (t := t) (cv := cv) (Ob := Ob) (sl := sl) (ty := ty) (ρ := ρ) (s := s) hn hx ?_ a2 (ctX_F f32 rfl hs) hc a3 ⟨ht.2, ht.1⟩ (by rw [sg_F_ga a1 rfl]; exact h11) (by rw [sg_F_ga a1 rfl]; exact h12) hl (by rw [sg_F_ga a1 rfl]; exact h16) (by rw [sg_F_ga f32 rfl]; exact h69) (by omega) (by rw [e64]; exact yX_up e8 hch) hcl a4 ⟨a9, hs0.1, hs0.2⟩ hOs (fun s => by rw [hOm s, wnt_F a1 rfl]) (fun y hy => cyT_F f32 e8 rfl (hT y hy)) (fun σ' f' r' w3 w5 w6 w7 _ => ?_)
  · rw [← h2]
    unfold v_tSecond
    rw [xa_in (a := 7) hn, xa_in (a := 7) hn, sg_F_ga a1 rfl]
    unfold sx_at
    split
    · exact sg_F_ga a1 rfl
    · rfl
  have FF : sg_F bRL σ σ' := sg_F_t a1 (sg_F_m f' rfl)
  obtain ⟨r1, r2, r3, r4, r5, r6, r7⟩ := r'
  cases e : fCa ty (fWh true cv) Ob s ρ with
  | inl q =>
    rw [e] at r1
    obtain ⟨q1, q2, q3⟩ := r1
    exact ry_s (by rw [q2]; exact q1) (k0 q e σ' FF q2 q3 q1)
  | inr q =>
    obtain ⟨s3, ρ3⟩ := q
    rw [e] at r1
    obtain ⟨q1, q2, q3, q4, q5⟩ := r1
    have wl := cwF_le true cv
    rw [← fWh_l] at wl
    refine k s3 ρ3 e σ' ⟨FF, q1, ⟨w5, r3, r2 q1.2.2.1, by rw [sg_F_g f' (by rfl)]; exact a6⟩, ⟨by omega, by omega⟩, ht.2, by omega, a10⟩ q3 ⟨yEx_t e8 q2, q4, fun s hs => by rw [q5 s hs, sg_F_ga f32 rfl], fun i => ⟨by rw [sg_F_ga f' rfl, sg_F_ga f32 rfl], by rw [sg_F_ga f' rfl, sg_F_ga f32 rfl], by rw [sg_F_ga f' rfl, sg_F_ga f32 rfl]⟩, fun i hi => ⟨by rw [w7 i hi, sg_F_ga f32 rfl], by rw [r5 i hi, sg_F_ga f32 rfl]⟩, r4, fun i y hy => ?_, fun i hi => ?_⟩ w3 (by rw [w6, e64])
    · obtain ⟨c1, c2⟩ := r6 i y hy
      exact ⟨c1, by rw [c2, sg_F_ga f32 rfl]⟩
    · obtain ⟨c1, c2⟩ := r7 i hi
      exact ⟨by rw [c1, sg_F_ga f32 rfl], by rw [c2, sg_F_ga f32 rfl]⟩
theorem zy_turn {x lo hi bd ch m0 : Int} {W1 : List Int} {dc : Nat} (h : bP σ σ8 t (sv + W1.length) m0 c p) (hs : ctX σ8 s) (h0 : 0 ≤ sv) (hc : 4 ≤ c) (hp : pl σ p ((8, n) :: C)) (hn : 0 ≤ n ∧ n < 200) (hx : 0 ≤ x ∧ x < 200) (h8' : sg_g σ 8 n = x) (h11 : sg_g σ 11 x = lo) (h12 : sg_g σ 12 x = hi) (hl : 0 ≤ lo ∧ hi < 200) (h16 : sg_g σ 16 n = bd) (h69 : sg_g σ8 69 n = N) (hN : N ≤ 6000) (h70 : sg_g σ8 70 n = ch) (hch : yX σ8 dc ch cv) (hcl : cv.length = N) (h71 : sg_g σ8 71 n = sv) (hs0 : sv ≤ 2400 ∧ sv + (hi - lo + 1) ≤ 2400 ∧ sv + W1.length ≤ 2400) (hN1 : W1.Nodup) (hW1 : ∀ x ∈ W1, 0 ≤ x ∧ x < 272) (h72 : ∀ (i : Nat) (x : Int), W1[i]? = some x → sg_g σ8 72 (sv + i) = x) (hOs : (Ob.map sl).Pairwise (· < ·)) (hOm : ∀ s, s ∈ Ob.map sl ↔ wnt σ lo hi bd s) (hT : ∀ σ2, rsW σ8 σ2 sv W1 → ∀ y ∈ Ob, cyT σ2 sl ty ρ N y) (k0 : ∀ e, fCa ty (fWh false cv) Ob s ρ = .inl e → ∀ σ', sg_F bRL σ σ' → sg_g σ' 61 10 = e.1 → ctX σ' e.2 → ¬ e.1 = 0 → X σ') (k : ∀ s3 ρ3, fCa ty (fWh false cv) Ob s ρ = .inr (s3, ρ3) → ∀ σ2 σ', rsW σ8 σ2 sv W1 → bP σ σ' t (sv + Ob.length) (fWh false cv).length c (p + 1) → ctX σ' s3 → bBX σ2 σ' n sv Ob sl ty ρ3 → ((Ob.length : Int) ≤ hi - lo + 1 ∨ Ob = []) → sg_g σ' 70 n = ch → Ry σ X m σ') : Ry σ X (m + 1) σ8 := by
  obtain ⟨p0, p1, p2, p3⟩ := pl_c hp
  refine ry_8 (p := p) (k := n) h.2.2.1.2.2.2 p0 h.2.1.2.2.1 p1 p2 (fun σ32 e32 => ?_)
  obtain ⟨h32, f32⟩ := bP_32 h ⟨p0.2, p0.1⟩ e32
  obtain ⟨a1, a2, ⟨a3, a4, a5, a6⟩, a7, a8, a9, a10⟩ := id h32
  have e8 : yEx σ8 σ32 := yEx_F f32 rfl
  have rs : ∀ σ2, sg_F [62, 23061] σ32 σ2 → (∀ (i : Nat) (x : Int), W1[i]? = some x → sg_g σ2 62 x = sg_g σ32 73 (sv + i)) → (∀ x, x ∉ W1 → sg_g σ2 62 x = sg_g σ32 62 x) → rsW σ8 σ2 sv W1 := fun σ2 g1 g2 g3 => ⟨sg_F_t (sg_F_m f32 rfl) (sg_F_m g1 rfl), fun i x hx => by rw [g2 i x hx, sg_F_ga f32 rfl], fun x hx => by rw [g3 x hx, sg_F_ga f32 rfl]⟩
  refine f_turnX (W1 := W1) (a := n) (x := x) (lo := lo) (hi := hi) (bd := bd) (n := N) (sv := sv) (c := c) (ch := ch) (cv := cv) (Ob := Ob) (sl := sl) (ty := ty) (ρ := ρ) (s := s) hn hx (by rw [sg_F_ga a1 rfl]; exact h8') a2 (ctX_F f32 rfl hs) hc (by rw [sg_F_ga a1 rfl]; exact h11) (by rw [sg_F_ga a1 rfl]; exact h12) hl (by rw [sg_F_ga a1 rfl]; exact h16) (by rw [sg_F_ga f32 rfl]; exact h69) hN (by rw [sg_F_ga f32 rfl]; exact h70) (yX_up e8 hch) hcl (by rw [sg_F_ga f32 rfl]; exact h71) a4 ⟨h0, hs0⟩ hN1 hW1 (fun i x hx => by rw [sg_F_ga f32 rfl]; exact h72 i x hx) hOs (fun s => by rw [hOm s, wnt_F a1 rfl]) (fun σ2 g1 g2 g3 y hy => hT σ2 (rs σ2 g1 g2 g3) y hy) (fun σ2 σ' f' g1 g2 g3 r' w3 _ => ?_)
  have R2 := rs σ2 g1 g2 g3
  have FF : sg_F bRL σ σ' := sg_F_t a1 (sg_F_m f' rfl)
  obtain ⟨r1, r2, r3, r4, r5, r6, r7⟩ := r'
  cases e : fCa ty (fWh false cv) Ob s ρ with
  | inl q =>
    rw [e] at r1
    obtain ⟨q1, q2, q3⟩ := r1
    exact ry_s (by rw [q2]; exact q1) (k0 q e σ' FF q2 q3 q1)
  | inr q =>
    obtain ⟨s3, ρ3⟩ := q
    rw [e] at r1
    obtain ⟨q1, q2, q3, q4, q5⟩ := r1
    have wl := cwF_le false cv
    rw [← fWh_l] at wl
    exact k s3 ρ3 e σ2 σ' R2 ⟨FF, q1, ⟨by rw [sg_F_g f' (by rfl)]; exact a3, r3, r2 q1.2.2.1, by rw [sg_F_g f' (by rfl)]; exact a6⟩, ⟨by omega, by omega⟩, a8, by omega, a10⟩ q3 ⟨q2, q4, q5, fun i => ⟨by rw [sg_F_ga f' rfl, sg_F_ga g1 rfl], by rw [sg_F_ga f' rfl, sg_F_ga g1 rfl], by rw [sg_F_ga f' rfl, sg_F_ga g1 rfl]⟩, fun i hi => ⟨by rw [sg_F_ga f' rfl, sg_F_ga g1 rfl], r5 i hi⟩, r4, r6, r7⟩ w3 (by rw [sg_F_ga f' rfl, sg_F_ga f32 rfl]; exact h70)
theorem zy_join {ch m0 : Int} {dD dc : Nat} {W : List Int} {v1 v2 : List vaF} (h : bP σ σ8 (t + 2) (sv + W.length) m0 c p) (hs : ctX σ8 s) (h0 : 0 ≤ sv) (ht : t + 2 ≤ 400 ∧ 0 ≤ t) (hc : 4 ≤ c) (hp : pl σ p ((9, n) :: C)) (hn : 0 ≤ n ∧ n < 200) (h6 : sg_g σ 6 n = dD) (hD : dD ≤ 3) (h69 : sg_g σ8 69 n = N) (hN : N ≤ 6000) (h70 : sg_g σ8 70 n = ch) (hch : yX σ8 dc ch cv) (hcl : cv.length = N) (hA : yX σ8 dD (sg_g σ8 64 t) v1) (hB : yX σ8 dD (sg_g σ8 64 (t + 1)) v2) (l1 : cwF true cv = v1.length) (l2 : cwF false cv = v2.length) (h71 : sg_g σ8 71 n = sv) (hs0 : sv + W.length ≤ 2400) (hN1 : W.Nodup) (hW1 : ∀ x ∈ W, 0 ≤ x ∧ x < 272) (h72 : ∀ (i : Nat) (x : Int), W[i]? = some x → sg_g σ8 72 (sv + i) = x) (k0 : fStp (exF dD v1 + exF dD v2) s = none → ∀ σ', sg_F bRL σ σ' → sg_g σ' 61 10 = 8 → ctX σ' s → X σ') (k : ∀ s7, fStp (exF dD v1 + exF dD v2) s = some s7 → ∀ σ', bP σ σ' (t + 1) sv N c (p + 1) → ctX σ' s7 → yEx σ8 σ' → yX σ' dD (sg_g σ' 64 t) (fMg cv v1 v2) → (∀ i, i < t → sg_g σ' 64 i = sg_g σ8 64 i) → (∀ (i : Nat) (x : Int), W[i]? = some x → sg_g σ' 62 x = sg_g σ8 73 (sv + i)) → (∀ x, x ∉ W → sg_g σ' 62 x = sg_g σ8 62 x) → (∀ i, sg_g σ' 63 i = sg_g σ8 63 i ∧ sg_g σ' 69 i = sg_g σ8 69 i ∧ sg_g σ' 70 i = sg_g σ8 70 i ∧ sg_g σ' 71 i = sg_g σ8 71 i ∧ sg_g σ' 72 i = sg_g σ8 72 i ∧ sg_g σ' 73 i = sg_g σ8 73 i) → Ry σ X m σ') : Ry σ X (m + 1) σ8 := by
  obtain ⟨p0, p1, p2, p3⟩ := pl_c hp
  refine ry_9 (p := p) (k := n) h.2.2.1.2.2.2 p0 h.2.1.2.2.1 p1 p2 (fun σ32 e32 => ?_)
  obtain ⟨h32, f32⟩ := bP_32 h ⟨p0.2, p0.1⟩ e32
  obtain ⟨a1, a2, ⟨a3, a4, a5, a6⟩, a7, a8, a9, a10⟩ := id h32
  have e8 : yEx σ8 σ32 := yEx_F f32 rfl
  refine f_joinX (W := W) (a := n) (sb := sv) (n := N) (t := t) (c := c) (ch := ch) (D := dD) (cv := cv) (v1 := v1) (v2 := v2) (s := s) hn a2 (ctX_F f32 rfl hs) hc hD (by rw [sg_F_ga a1 rfl]; exact h6) (by rw [sg_F_ga f32 rfl]; exact h69) hN (by rw [sg_F_ga f32 rfl]; exact h70) (yX_up e8 hch) hcl a3 ⟨ht.2, ht.1⟩ (by rw [sg_F_ga f32 rfl]; exact yX_up e8 hA) (by rw [sg_F_ga f32 rfl]; exact yX_up e8 hB) l1 l2 (by rw [sg_F_ga f32 rfl]; exact h71) a4 ⟨h0, hs0⟩ hN1 hW1 (fun i x hx => by rw [sg_F_ga f32 rfl]; exact h72 i x hx) (fun z σ' f' z1 z2 _ => ry_s (by rw [z1]; decide) (k0 z σ' (sg_F_t a1 (sg_F_m f' rfl)) z1 z2)) (fun s7 z σ' f' z1 z2 z3 z4 z5 z6 z7 z8 z9 z10 _ => ?_)
  exact k s7 z σ' ⟨sg_F_t a1 (sg_F_m f' rfl), z1, ⟨z6, z5, z4, by rw [sg_F_g f' (by rfl)]; exact a6⟩, ⟨by omega, by omega⟩, by omega, h0, a10⟩ z2 (yEx_t e8 z3) z7 (fun i hi => by rw [z8 i hi, sg_F_ga f32 rfl]) (fun i x hx => by rw [z9 i x hx, sg_F_ga f32 rfl]) (fun x hx => by rw [z10 x hx, sg_F_ga f32 rfl]) (fun i => ⟨by rw [sg_F_ga f' rfl, sg_F_ga f32 rfl], by rw [sg_F_ga f' rfl, sg_F_ga f32 rfl], by rw [sg_F_ga f' rfl, sg_F_ga f32 rfl], by rw [sg_F_ga f' rfl, sg_F_ga f32 rfl], by rw [sg_F_ga f' rfl, sg_F_ga f32 rfl], by rw [sg_F_ga f' rfl, sg_F_ga f32 rfl]⟩)
end CXB
