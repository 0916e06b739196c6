/-! BIG STEPS of the class's flat run, exactly: operations, let. -/
section CVS
variable {σ : sg_S} {A : aT} {D : List aDf} {vb : Int → Prop} {X : sg_S → Prop} {B : Int → Int} {lev : Int → Nat} {O : Int → Nat → List Int} {call : Int → Nat → fEv → fSt → fRs} {j : Nat} {nl dix : Int} {f : Nat}
theorem vs_1 {vs : List (List vaF)} (h : vs.length = 1) : vs = [vs.getD 0 []] := by
  match vs, h with
  | [a], _ => rfl
theorem vs_2 {vs : List (List vaF)} (h : vs.length = 2) : vs = [vs.getD 0 [], vs.getD 1 []] := by
  match vs, h with
  | [a, b], _ => rfl
theorem fBg_s {N : Nat} {s s1 : fSt} (h : fBg N s = some s1) : s1.1 = s.1 + 1 := by
  unfold fBg at h
  cases e : fStp 0 s with
  | none => rw [e] at h; cases h
  | some s0 => rw [e] at h; cases h; exact (fStp_s e).1
theorem yN_op (hW : ckW σ A) (hSl : slA σ vb) (hnl : 0 ≤ nl) (hP : fPu A D (sg_g σ 6) B lev O call j f) (F : yN σ A D vb X B lev O call j nl dix f) {n : Int} {L1 es : List Int} {sc : List (Int × Int)} {b b' p : Int} {h : Nat} (hk : A.2.1 n = 0 ∨ A.2.1 n = 1 ∨ A.2.1 n = 14 ∨ (4 ≤ A.2.1 n ∧ A.2.1 n ≤ 12) ∨ 16 ≤ A.2.1 n) (hf : fT A (A.2.2.2.2.1 n) L1) (hst : stN A D (sg_g σ 6) B lev j (f + 1) (n :: L1) sc n) (hL : ∀ x ∈ n :: L1, nl ≤ x ∧ lyQ σ A D B dix x) (hg : gRq σ A (n :: L1)) (hsc : scN σ A dix (f + 1) es n b b') (hsl : slQ σ sc b) (hh : htN A (f + 1) n ≤ h) (hp : pl σ p (cd A (f + 1) n)) (hb : b' ≤ 272) {σ8 : sg_S} {m : Nat} {ρ : fEv} {t sv c cr : Int} {N : Nat} {s : fSt} (h8 : bP σ σ8 t sv N c p) (h9 : ctX σ8 s) (hS : scY σ A D vb σ8 ρ N sc) (ht : t + (n :: L1).length + nl ≤ 400) (hv : sv + ((h * (n :: L1).length : Nat) : Int) + 12 * nl ≤ 2400) (hm : 6 * (2001 - s.1) + cr ≤ (m : Int)) (hcr : 0 ≤ cr) (k : kY σ A D vb lev j X σ8 ρ t sv c (p + (cd A (f + 1) n).length) cr nl dix (n :: L1) N (sg_g σ 6 n).toNat (fxN A D (sg_g σ 6) B O call (f + 1) n N ρ s)) : Ry σ X m σ8 := by
  obtain ⟨hty, -, hN0, hlv, hsco⟩ := hst
  obtain ⟨t1, t2, t3, t4, t5, t6, t7, t8, t9⟩ := hty
  obtain ⟨c1, c2⟩ := ck3 hW t2
  have hN := (List.nodup_cons.mp hN0).2
  have n2 : ¬ A.2.1 n = 2 := by omega
  have n3 : ¬ A.2.1 n = 3 := by omega
  have n15 : ¬ A.2.1 n = 15 := by omega
  have n13 : ¬ A.2.1 n = 13 := by omega
  have ho : kOrd A n = A.2.2.2.2.1 n := by unfold kOrd; rw [if_neg n15]
  have ly := (hL n (by simp)).2
  obtain ⟨-, s1', -, s2⟩ := hsc
  rw [ho] at s2
  simp only [cd] at hp k
  rw [ho] at hp k
  have p0 := pl_c hp
  obtain ⟨p1, p2⟩ := pl_a p0.2.2.2
  obtain ⟨g1, g2⟩ := t3
  have ll := fT_len hf
  simp only [List.length_cons] at ht hv
  have hmul : sv + ((h * L1.length : Nat) : Int) + 12 * nl ≤ 2400 := by
    have := Nat.mul_le_mul_left h (show L1.length ≤ L1.length + 1 by omega)
    omega
  obtain ⟨w1, w2, w3, w4, w5, w6, w7, w8⟩ := id t1
  have hty0 : ¬ A.2.1 n = 1 → kTy A (kDl (D.take j) []) (sg_g σ 6) [] n ((A.2.2.2.2.1 n).map (sg_g σ 6)) = some (sg_g σ 6 n) := t5
  have kin : ∀ x ∈ A.2.2.2.2.1 n, kIn (sg_g σ 6 x) := fun x hx => by
    have := t9 n2 n15 x hx
    cases f with
    | zero => exact this.elim
    | succ f => exact this.2.2.1
  have c0 := h8.2.2.2.2.2.2
  have tb := h8.2.2.2.2.1
  have sb := h9.2.2.2.1
  obtain ⟨m, rfl⟩ : ∃ m', m = m' + 1 := ⟨m - 1, by omega⟩
  simp only [fxN] at k
  refine zy_begin (A := A) (D := D) (vb := vb) (lev := lev) (j := j) (ρ := ρ) (nl := nl) (dix := dix) h8 h9 hp ⟨t2.1, c2⟩ (fun z σ' f' e' w' => ?_) (fun s1 z σ1 h1 x1 u1 e69 v64 => ?_)
  · rw [z] at k
    exact k σ' f' e' w' (by show ¬ (8 : Int) = 0; decide)
  have st1 := fBg_s z
  rw [z] at k
  simp only at k
  have u1' : yU σ A D vb lev j σ8 σ1 ρ ρ t sv nl dix (n :: L1) := yU_w u1 ⟨Int.le_refl _, Int.le_refl _⟩ (Int.le_refl _) (Int.le_refl _) (fun x hx _ => by simp at hx; simp [hx]) (fun b w => ow_s (fun y hy => by simp at hy; simp [hy]) w)
  by_cases k1 : A.2.1 n = 1
  · -- NAME
    rw [if_pos k1] at k
    have hl : A.2.2.2.2.1 n = [] := List.eq_nil_of_length_eq_zero (w2 (by omega))
    have hcn : cnc A n = [(1, n)] := by unfold cnc; rw [if_neg n2, if_neg n3, if_neg n13, if_neg n15, if_pos (Or.inr (Or.inl k1))]
    rw [hcn, hl] at p2
    rw [hcn, hl] at k
    simp only [cdS, List.length_nil, List.nil_append, List.length_cons, Int.ofNat_zero, Int.cast_ofNat_Int, Int.add_zero] at p2 k
    obtain ⟨q1, q2, q3, q4⟩ := hS _ (t4 k1)
    have v1 := u1.2.2.1 _ q1 (fun w => (hsco _ (t4 k1)).2 (ow_s (fun y hy => by simp at hy; simp [hy]) w)) q3
    unfold rlY at v1
    rw [← q2] at v1
    obtain ⟨m, rfl⟩ : ∃ m', m = m' + 1 := ⟨m - 1, by omega⟩
    exact zy_name (A := A) (D := D) (vb := vb) (sl := slF σ (B n)) (v := ρ (B n)) (cr := cr) (nl := nl) (dix := dix) h1 x1 ⟨by omega, tb⟩ p2 ⟨t2.1, c2⟩ (by rw [c1, k1]; rfl) (ly.2.1 k1) (hSl.1 _ q1) v1 (by omega) (kY_m k u1' ⟨c0, by omega⟩ (by omega))
  · rw [if_neg k1, if_neg n2, if_neg n3, if_neg n13, if_neg n15] at k
    refine yRow hnl hP F (A.2.2.2.2.1 n) L1 0 b b' (p + 1) hf hN (fun y hy => hlv y (by simp [hy])) (fun q hq => ⟨(hsco q hq).1, fun w => (hsco q hq).2 (ow_s (fun y hy => by simp [hy]) w)⟩) (fun x hx => hL x (by simp [hx])) (gR_s hg (fun x hx => by simp [hx])) (t9 n2 n15) s2 (fun i _ _ => kQ_o n2 n3 n15) hsl (fun x hx => ht_k hh hx) p1 hb σ1 m ρ t sv (c + 4) (cr + 5) s1 h1 x1 (scY_u hS u1 (fun _ _ => rfl) (fun q hq w => (hsco q hq).2 (ow_s (fun y hy => by simp at hy; simp [hy]) w))) (by omega) hmul (by omega) (by omega) ?_
    generalize fSq (fun x => fxN A D (sg_g σ 6) B O call f x N) (A.2.2.2.2.1 n) ρ s1 = r at k
    match r, k with
    | .inl e, k => exact k
    | .inr (vs, s2', ρ1), k =>
      intro σ2 m2 l2 hm2 h2 x2 u2 v2
      simp only at k l2 hm2 h2 x2 u2 v2
      have sb2 := x2.2.2.2.1
      have u12 : yU σ A D vb lev j σ8 σ2 ρ ρ1 t sv nl dix (n :: L1) := yU_t u1' u2 ⟨Int.le_refl _, Int.le_refl _⟩ ⟨Int.le_refl _, Int.le_refl _⟩ (fun x hx => hx) (fun x hx => by simp [hx])
      have lc : ∀ o, cnc A n = [(o, n)] → p + 1 + (cdS A (cd A f) n 0 (A.2.2.2.2.1 n)).length + 1 = p + ((((0, n) :: (cdS A (cd A f) n 0 (A.2.2.2.2.1 n) ++ cnc A n)).length : Nat) : Int) := fun o ho => by
        rw [ho]; simp only [List.length_cons, List.length_append, List.length_nil]; omega
      obtain ⟨m2, rfl⟩ : ∃ m', m2 = m' + 1 := ⟨m2 - 1, by omega⟩
      have vg : ∀ i : Nat, (hi : i < (A.2.2.2.2.1 n).length) → yX σ2 (sg_g σ 6 ((A.2.2.2.2.1 n)[i])).toNat (sg_g σ2 64 (t + i)) (vs.getD i []) ∧ (vs.getD i []).length = N := fun i hi => v2 i _ (List.getElem?_eq_getElem hi)
      by_cases k0 : A.2.1 n = 0
      · -- NUMBER
        have hl := w2 (by omega)
        have hcn : cnc A n = [(1, n)] := by unfold cnc; rw [if_neg n2, if_neg n3, if_neg n13, if_neg n15, if_pos (Or.inl k0)]
        have ev : vs = [] := List.eq_nil_of_length_eq_zero (by omega)
        rw [k0, ev] at k
        have lc1 := lc 1 hcn
        rw [hcn] at p2
        rw [hl, show t + ((0 : Nat) : Int) = t by omega] at h2
        have t6' : sg_g σ 6 n = 0 := by
          have := hty0 (by omega)
          rw [kTy_0 k0] at this
          exact (Option.some.inj this).symm
        exact zy_num (A := A) (D := D) (vb := vb) (x := sg_n (A.2.2.2.1 n)) (ρ := ρ1) (cr := cr) (nl := nl) (dix := dix) h2 x2 (by omega) ⟨by omega, tb⟩ p2 ⟨t2.1, c2⟩ (by rw [c1, k0]; rfl) t6' (ly.1 k0) (by omega) (kY_m k u12 ⟨c0, by omega⟩ lc1)
      · by_cases k14 : A.2.1 n = 14
        · -- ROW
          have hl := w6 k14
          have hcn : cnc A n = [(1, n)] := by unfold cnc; rw [if_neg n2, if_neg n3, if_neg n13, if_neg n15, if_pos (Or.inr (Or.inr k14))]
          have lc1 := lc 1 hcn
          rw [hcn] at p2
          have tt := hty0 k1
          rw [kTy_14 k14] at tt
          obtain ⟨i1, i2, i3⟩ := kIs_in tt
          generalize hA0 : ((A.2.2.2.2.1 n).map (sg_g σ 6)).getD 0 0 = a0 at i1 i2 i3
          have all0 : ∀ x ∈ A.2.2.2.2.1 n, sg_g σ 6 x = a0 := fun x hx => by
            have := List.all_eq_true.mp i3 (sg_g σ 6 x) (List.mem_map_of_mem hx)
            simpa using this
          have a00 : 0 ≤ a0 := by
            obtain ⟨y, r, hy⟩ : ∃ y r, A.2.2.2.2.1 n = y :: r := by
              match hh : A.2.2.2.2.1 n with
              | [] => rw [hh] at hl; simp at hl
              | y :: r => exact ⟨y, r, rfl⟩
            have m0 : y ∈ A.2.2.2.2.1 n := by rw [hy]; simp
            rw [← all0 y m0]
            exact (kin y m0).1
          have c10 : sg_g σ 10 n = (A.2.2.2.2.1 n).length := by
            have := (hW.2.2 n t2.1 t2.2).1.2.2.2.1.1
            unfold pts at this
            rw [if_neg n15] at this
            exact this
          have l200 : (A.2.2.2.2.1 n).length ≤ 200 := by
            have q := (hW.2.2 n t2.1 t2.2).1.2.2.2.1.2.2.2
            unfold pts at q
            rw [if_neg n15] at q
            rcases wit_len (f := id) (a := 0) (b := 199) q.1 (fun x hx => ⟨x, (q.2 x hx).1, by have := (q.2 x hx).2; omega, rfl⟩) with z | z
            · omega
            · rw [z]; exact Nat.zero_le _
          rw [k14] at k
          rw [← l2] at h2
          refine zy_row (A := A) (D := D) (vb := vb) (x := sg_n (A.2.2.2.1 n)) (d := a0.toNat) (vs := vs) (ρ := ρ1) (cr := cr) (nl := nl) (dix := dix) h2 x2 (by omega) ⟨by omega, tb⟩ ⟨by omega, by omega⟩ p2 ⟨t2.1, c2⟩ (by rw [c1, k14]; rfl) (by rw [c10, l2]) (by omega) (by omega) (fun i hi => ?_) (by omega) (kY_m k u12 ⟨c0, by omega⟩ lc1)
          have q := vg i (by omega)
          rw [all0 _ (List.getElem_mem _)] at q
          exact q
        · -- ACTS
          have hw := t1
          unfold nW at hw
          have tt := kTy_o (A := A) (ds := kDl (D.take j) []) (T := sg_g σ 6) (n := n) (ty := sg_g σ 6 n) (ts := (A.2.2.2.2.1 n).map (sg_g σ 6)) (by rw [List.length_map]; exact hw) (hty0 k1) (by omega) n13 k14 n15 (fun x hx => by
            obtain ⟨y, hy, rfl⟩ := List.mem_map.mp hx
            exact (kin y hy).1)
          rw [List.length_map] at tt
          have gd : ∀ i : Nat, (hi : i < (A.2.2.2.2.1 n).length) → ((A.2.2.2.2.1 n).map (sg_g σ 6)).getD i 0 = sg_g σ 6 ((A.2.2.2.2.1 n)[i]) := fun i hi => by
            rw [List.getD_eq_getElem?_getD, List.getElem?_map, List.getElem?_eq_getElem hi]; rfl
          rcases tt with ⟨l1, o1⟩ | ⟨l2', o2⟩
          · have hcn : cnc A n = [(2, n)] := by
              unfold cnc
              rw [if_neg n2, if_neg n3, if_neg n13, if_neg n15, if_neg (by omega), if_pos]
              unfold op1 at o1
              omega
            have lc1 := lc 2 hcn
            rw [hcn] at p2
            rw [l1] at h2
            rw [gd 0 (by omega)] at o1
            have kx := kin _ (List.getElem_mem (h := show 0 < (A.2.2.2.2.1 n).length by omega))
            obtain ⟨v0, v0l⟩ := vg 0 (by omega)
            simp only [Int.ofNat_zero, Int.cast_ofNat_Int, Int.add_zero] at v0
            rw [vs_1 (by omega : vs.length = 1)] at k
            exact zy_one (k := A.2.1 n) (x := sg_n (A.2.2.2.1 n)) (ρ := ρ1) (cr := cr) (nl := nl) (dix := dix) h2 x2 (by omega) ⟨by omega, tb⟩ p2 ⟨t2.1, c2⟩ c1 g2 kx v0 v0l o1 (by omega) (kY_m k u12 ⟨c0, by omega⟩ lc1)
          · have hcn : cnc A n = [(3, n)] := by
              unfold cnc
              rw [if_neg n2, if_neg n3, if_neg n13, if_neg n15, if_neg (by omega), if_neg]
              unfold op2 at o2
              omega
            have lc1 := lc 3 hcn
            rw [hcn] at p2
            rw [l2'] at h2
            rw [gd 0 (by omega), gd 1 (by omega)] at o2
            have kx := kin _ (List.getElem_mem (h := show 0 < (A.2.2.2.2.1 n).length by omega))
            obtain ⟨v0, v0l⟩ := vg 0 (by omega)
            obtain ⟨v1, v1l⟩ := vg 1 (by omega)
            simp only [Int.ofNat_zero, Int.cast_ofNat_Int, Int.add_zero] at v0
            rw [vs_2 (by omega : vs.length = 2)] at k
            exact zy_two (k := A.2.1 n) (x := sg_n (A.2.2.2.1 n)) (ρ := ρ1) (cr := cr) (nl := nl) (dix := dix) h2 x2 (by omega) ⟨by omega, tb⟩ p2 ⟨t2.1, c2⟩ c1 g2 kx v0 v1 v0l v1l o2 (by omega) (kY_m k u12 ⟨c0, by omega⟩ lc1)
/-- BIND -/
theorem zy_bind {σ8 : sg_S} {m N : Nat} {ρ : fEv} {t sv c p n : Int} {s : fSt} {v : List vaF} {C : List (Int × Int)} (h : bP σ σ8 (t + 1) sv N c p) (hs : ctX σ8 s) (ht : t < 400 ∧ 0 ≤ t) (hp : pl σ p ((4, n) :: C)) (hn : 0 ≤ n ∧ n < 200) (hSl : slA σ vb) (hb : vb n) (hv : yX σ8 (bTy A D (sg_g σ 6) n).toNat (sg_g σ8 64 t) v) (kk : ∀ σ', bP σ σ' t sv N c (p + 1) → ctX σ' s → yU σ A D vb lev j σ8 σ' ρ (fun x => if x = n then v else ρ x) t sv nl dix [] → rlY σ A D σ' (fun x => if x = n then v else ρ x) n → Ry σ X m σ') : Ry σ X (m + 1) σ8 := by
  obtain ⟨p0, p1, p2, p3⟩ := pl_c hp
  refine ry_4 (p := p) (k := n) h.2.2.1.2.2.2 p0 h.2.1.2.2.1 p1 p2 (fun σ32 e32 => ?_)
  obtain ⟨h32, f32⟩ := bP_32 h ⟨p0.2, p0.1⟩ e32
  obtain ⟨a1, a2, ⟨a3, a4, a5, a6⟩, a7, a8, a9, a10⟩ := id h32
  have hs' := hSl.1 n hb
  have e16 : sg_g σ 16 n = slF σ n := (sl_let (by omega)).symm
  rw [xa_in (a := 16) hn, e16]
  refine y_pop (t := t) a3 ⟨ht.2, ht.1⟩ (fun σ2 f2 t2 r2 _ σ82 e82 => ?_)
  rw [xp_in hs', sg_F_ga f32 rfl] at e82
  have f82 : sg_F [62] σ2 σ82 := by rw [e82]; exact sg_F_w (sg_F_r _ _) rfl _
  have F2 : sg_F [62, 8061] σ32 σ82 := sg_F_t (sg_F_m f2 rfl) (sg_F_m f82 rfl)
  have F : sg_F [62, 8061, 9061] σ8 σ82 := sg_F_t (sg_F_m f32 rfl) (sg_F_m F2 rfl)
  have sv' : sg_g σ82 62 (slF σ n) = sg_g σ8 64 t := by rw [e82, sg_gw_e _ _ _ _ (sg_Rg _ _ _)]
  have so : ∀ x, ¬ x = slF σ n → sg_g σ82 62 x = sg_g σ8 62 x := fun x hx => by rw [e82, sg_gw_k _ _ _ _ _ _ hx, sg_F_ga f2 rfl, sg_F_ga f32 rfl]
  have ex : yEx σ8 σ82 := yEx_F F rfl
  have rn : rlY σ A D σ82 (fun x => if x = n then v else ρ x) n := by
    show yX σ82 _ _ (if n = n then v else ρ n)
    rw [sv', if_pos rfl]
    exact yX_up ex hv
  refine kk σ82 ⟨sg_F_t a1 (sg_F_m F2 rfl), mC_F a2 F2 rfl, ⟨by rw [sg_F_g f82 (by rfl)]; exact t2, by rw [sg_F_g F2 (by rfl)]; exact a4, by rw [sg_F_g F2 (by rfl)]; exact a5, by rw [sg_F_g F2 (by rfl)]; exact a6⟩, a7, ht.2, a9, a10⟩ (ctX_F F rfl hs) ⟨ex, fun i _ => sg_F_ga F rfl, fun b hb' _ hr => ?_, fun i _ => ⟨sg_F_ga F rfl, sg_F_ga F rfl⟩, fun x _ _ => ⟨sg_F_ga F rfl, sg_F_ga F rfl, sg_F_ga F rfl⟩, fun q _ => sg_F_ga F rfl⟩ rn
  by_cases cb : b = n
  · rw [cb]; exact rn
  · show yX σ82 _ (sg_g σ82 62 (slF σ b)) (if b = n then v else ρ b)
    rw [if_neg cb, so _ (fun z => cb (hSl.2 b n hb' hb z))]
    exact yX_up ex hr
theorem yN_let (hW : ckW σ A) (hSl : slA σ vb) (hVb : ∀ b, vbF A D b → vb b) (hnl : 0 ≤ nl) (hP : fPu A D (sg_g σ 6) B lev O call j f) (F : yN σ A D vb X B lev O call j nl dix f) {n : Int} {L1 es : List Int} {sc : List (Int × Int)} {b b' p : Int} {h : Nat} (hk : A.2.1 n = 2) (hf : fT A (A.2.2.2.2.1 n) L1) (hst : stN A D (sg_g σ 6) B lev j (f + 1) (n :: L1) sc n) (hL : ∀ x ∈ n :: L1, nl ≤ x ∧ lyQ σ A D B dix x) (hg : gRq σ A (n :: L1)) (hsc : scN σ A dix (f + 1) es n b b') (hsl : slQ σ sc b) (hh : htN A (f + 1) n ≤ h) (hp : pl σ p (cd A (f + 1) n)) (hb : b' ≤ 272) {σ8 : sg_S} {m : Nat} {ρ : fEv} {t sv c cr : Int} {N : Nat} {s : fSt} (h8 : bP σ σ8 t sv N c p) (h9 : ctX σ8 s) (hS : scY σ A D vb σ8 ρ N sc) (ht : t + (n :: L1).length + nl ≤ 400) (hv : sv + ((h * (n :: L1).length : Nat) : Int) + 12 * nl ≤ 2400) (hm : 6 * (2001 - s.1) + cr ≤ (m : Int)) (hcr : 0 ≤ cr) (k : kY σ A D vb lev j X σ8 ρ t sv c (p + (cd A (f + 1) n).length) cr nl dix (n :: L1) N (sg_g σ 6 n).toNat (fxN A D (sg_g σ 6) B O call (f + 1) n N ρ s)) : Ry σ X m σ8 := by
  have hA := hW.1.2
  obtain ⟨hty, -, hN0, hlv, hsco⟩ := id hst
  obtain ⟨t1, t2, t3, t4, t5, t6, t7, t8, t9⟩ := hty
  obtain ⟨c1, c2⟩ := ck3 hW t2
  obtain ⟨w1, w2, w3, w4, w5, w6, w7, w8⟩ := id t1
  have hN := (List.nodup_cons.mp hN0).2
  have hl := w3 (Or.inl hk)
  obtain ⟨a, d, hk2⟩ : ∃ a d, A.2.2.2.2.1 n = [a, d] := by
    match hh : A.2.2.2.2.1 n with
    | [a, d] => exact ⟨a, d, rfl⟩
    | [] => rw [hh] at hl; simp at hl
    | [_] => rw [hh] at hl; simp at hl
    | _ :: _ :: _ :: _ => rw [hh] at hl; simp at hl
  have ho : kOrd A n = [a, d] := by unfold kOrd; rw [if_neg (by omega), hk2]
  obtain ⟨ta, td⟩ := t7 hk a d hk2
  have e6 : sg_g σ 6 d = sg_g σ 6 n := by
    have := t5 (by omega)
    unfold kTy at this
    rw [hk2] at this
    simp only [hk] at this
    simpa using this
  obtain ⟨-, -, -, s2⟩ := hsc
  rw [ho] at s2
  have hcn : cnc A n = [] := by unfold cnc; rw [if_pos hk]
  have ah0 : ahd A n 0 = [] := by unfold ahd; rw [if_neg (by omega), if_neg (by omega), if_neg (by omega), if_neg (by omega)]
  have ah1 : ahd A n 1 = [(4, n)] := by unfold ahd; rw [if_pos ⟨hk, rfl⟩]
  have hcd : cd A (f + 1) n = (0, n) :: (cd A f a ++ (4, n) :: cd A f d) := by
    simp only [cd]
    rw [ho, hcn, List.append_nil]
    simp only [cdS, ah0, ah1, List.nil_append, List.append_nil, List.cons_append]
  rw [hcd] at hp k
  simp only [scS] at s2
  obtain ⟨-, b1, q1, ⟨q2, -⟩, b3, q3, q4⟩ := s2
  obtain ⟨q5, q6⟩ := q2 hk (by rfl)
  have es0 := esA_no (A := A) (n := n) (s := 0) ⟨by omega, by omega⟩ es b
  rw [es0.1, es0.2] at q1
  rw [es0.1] at q3
  have es1 : esA A n (0 + 1) es b1 = b1 :: es := by unfold esA; rw [if_pos ⟨hk, rfl⟩]
  have ba1 : bA A n (0 + 1) b1 = b1 + 1 := by unfold bA; rw [if_pos ⟨hk, rfl⟩]
  rw [es1, ba1] at q3
  subst q4
  have lb1 := scN_le _ _ _ _ _ q1
  have lb2 := scN_le _ _ _ _ _ q3
  have p0 := pl_c hp
  obtain ⟨p1, p2⟩ := pl_a p0.2.2.2
  have p3 := pl_c p2
  rw [hk2] at hf
  obtain ⟨La, Ld, e3, fa, fd⟩ := fT_spl [a] [d] L1 hf
  simp only [List.length_cons] at ht hv
  have e3l : L1.length = La.length + Ld.length := by rw [e3, List.length_append]
  have ia : ∀ x, x ∈ La → x ∈ n :: L1 := fun x hx => by rw [e3]; simp [hx]
  have id' : ∀ x, x ∈ Ld → x ∈ n :: L1 := fun x hx => by rw [e3]; simp [hx]
  have hNa : La.Nodup := List.Nodup.sublist (by rw [e3]; exact List.sublist_append_left _ _) hN
  have hNd : Ld.Nodup := List.Nodup.sublist (by rw [e3]; exact List.sublist_append_right _ _) hN
  obtain ⟨⟨La', sa, -⟩, ⟨Ld', sd, -⟩⟩ := stN_l hA hst hk hk2
  have ea' : La' = La := fT_det sa.2.1 fa
  have ed' : Ld' = Ld := fT_det sd.2.1 fd
  subst ea' ed'
  have m1' := Nat.mul_le_mul_left h (show La'.length ≤ L1.length + 1 by omega)
  have m2' := Nat.mul_le_mul_left h (show Ld'.length ≤ L1.length + 1 by omega)
  have c0 := h8.2.2.2.2.2.2
  have tb := h8.2.2.2.2.1
  have sb := h9.2.2.2.1
  have hha : htN A f a ≤ h := ht_k hh (by rw [hk2]; simp)
  have hhd : htN A f d ≤ h := ht_k hh (by rw [hk2]; simp)
  have vbn : vb n := hVb n (Or.inl ⟨t2, hk⟩)
  have btn : bTy A D (sg_g σ 6) n = sg_g σ 6 a := by rw [bTw_l (by omega), hk2]; rfl
  obtain ⟨m, rfl⟩ : ∃ m', m = m' + 1 := ⟨m - 1, by omega⟩
  simp only [fxN] at k
  refine zy_begin (A := A) (D := D) (vb := vb) (lev := lev) (j := j) (ρ := ρ) (nl := nl) (dix := dix) h8 h9 hp ⟨t2.1, c2⟩ (fun z σ' f' e' w' => ?_) (fun s1 z σ1 h1 x1 u1 e69 v64 => ?_)
  · rw [z] at k
    exact k σ' f' e' w' (by show ¬ (8 : Int) = 0; decide)
  have st1 := fBg_s z
  rw [z] at k
  simp only at k
  rw [if_neg (by omega), if_pos hk, hk2] at k
  simp only [List.getD_cons_zero, List.getD_cons_succ] at k
  have u1' : yU σ A D vb lev j σ8 σ1 ρ ρ t sv nl dix (n :: L1) := yU_w u1 ⟨Int.le_refl _, Int.le_refl _⟩ (Int.le_refl _) (Int.le_refl _) (fun x hx _ => by simp at hx; simp [hx]) (fun b w => ow_s (fun y hy => by simp at hy; simp [hy]) w)
  have S1 := scY_u hS u1 (fun _ _ => rfl) (fun q hq w => (hsco q hq).2 (ow_s (fun y hy => by simp at hy; simp [hy]) w))
  have pua := hP a La' sc sa N ρ s1
  refine F a La' es sc b b1 (p + 1) h sa (fun x hx => hL x (ia x hx)) (gR_s hg ia) q1 hsl hha p1 (by omega) σ1 m ρ t sv (c + 4) (cr + 5) N s1 h1 x1 S1 (by omega) (by omega) (by omega) (by omega) ?_
  generalize fxN A D (sg_g σ 6) B O call f a N ρ s1 = r at k pua
  match r, k, pua with
  | .inl e, k, _ => exact fun σ' q1 q2 q3 q4 => k σ' q1 q2 q3 q4
  | .inr (v, s2', ρ1), k, pua =>
    obtain ⟨lv, kv⟩ := pua v s2' ρ1 (fun q hq => (hS q hq).2.2.2) rfl
    intro σ2 m2 hm2 h2 x2 u2 v2
    simp only at k hm2 h2 x2 u2 v2
    have sb2 := x2.2.2.2.1
    obtain ⟨m2, rfl⟩ : ∃ m', m2 = m' + 1 := ⟨m2 - 1, by omega⟩
    refine zy_bind (A := A) (D := D) (vb := vb) (lev := lev) (j := j) (ρ := ρ1) (nl := nl) (dix := dix) (v := v) h2 x2 ⟨by omega, tb⟩ p2 ⟨t2.1, c2⟩ hSl vbn (by rw [btn]; exact v2) (fun σ3 h3 x3 u3 r3 => ?_)
    have u12 : yU σ A D vb lev j σ8 σ2 ρ ρ1 t sv nl dix (n :: L1) := yU_t u1' u2 ⟨Int.le_refl _, Int.le_refl _⟩ ⟨Int.le_refl _, Int.le_refl _⟩ (fun _ hx => hx) ia
    have u13 : yU σ A D vb lev j σ8 σ3 ρ (fun x => if x = n then v else ρ1 x) t sv nl dix (n :: L1) := yU_t u12 u3 ⟨Int.le_refl _, Int.le_refl _⟩ ⟨Int.le_refl _, Int.le_refl _⟩ (fun _ hx => hx) (by simp)
    have hne : ∀ q ∈ sc, ¬ q.1 = n := fun q hq w => by
      have := (sd.2.2.2.2 (n, sg_g σ 6 a) (by simp)).1
      exact (hsco q hq).2 (Or.inl (Or.inl ⟨by rw [w]; omega, by rw [w]; simp⟩))
    have S3 : scY σ A D vb σ3 (fun x => if x = n then v else ρ1 x) N ((n, sg_g σ 6 a) :: sc) := fun q hq => by
      rcases List.mem_cons.mp hq with e | e
      · subst e
        exact ⟨vbn, btn.symm, r3, by show (if n = n then v else ρ1 n).length = N; rw [if_pos rfl]; exact lv⟩
      · exact scY_u hS u13 (fun q' hq' => by
          show (if q'.1 = n then v else ρ1 q'.1) = ρ q'.1
          rw [if_neg (hne q' hq')]
          exact kv q'.1 (fun w => (hsco q' hq').2 (ow_s ia w))) (fun q' hq' => (hsco q' hq').2) q e
    refine F d Ld' (b1 :: es) _ (b1 + 1) b' (p + 1 + (cd A f a).length + 1) h sd (fun x hx => hL x (id' x hx)) (gR_s hg id') q3 (fun q hq => ?_) hhd p3.2.2.2 hb σ3 m2 (fun x => if x = n then v else ρ1 x) t sv (c + 4) (cr + 4) N s2' h3 x3 S3 (by omega) (by omega) (by omega) (by omega) ?_
    · rcases List.mem_cons.mp hq with e | e
      · subst e
        show slF σ n < b1 + 1 ∧ sg_g σ 34 (slF σ n) = sg_g σ 6 a ∧ kIn (sg_g σ 6 a)
        rw [sl_let (by omega), q5]
        refine ⟨by omega, ?_, (stN_w sa).2.2.1⟩
        rw [q6, hk2]
        rfl
      · exact slQ_m hsl (by omega) q e
    · generalize fxN A D (sg_g σ 6) B O call f d N (fun x => if x = n then v else ρ1 x) s2' = r2 at k
      match r2, k with
      | .inl e, k => exact fun σ' q1 q2 q3 q4 => k σ' q1 q2 q3 q4
      | .inr (v3, s3', ρ2), k =>
        intro σ4 m4 hm4 h4 x4 u4 v4
        simp only at hm4 h4 x4 u4 v4
        refine k σ4 m4 (by show 6 * (2001 - s3'.1) + cr ≤ (m4 : Int); omega) ?_ x4 (yU_t u13 u4 ⟨Int.le_refl _, Int.le_refl _⟩ ⟨Int.le_refl _, Int.le_refl _⟩ (fun _ hx => hx) id') (by rw [← e6]; exact v4)
        simp only [List.length_cons, List.length_append]
        rw [show p + (((cd A f a).length + ((cd A f d).length + 1) + 1 : Nat) : Int) = p + 1 + (cd A f a).length + 1 + (cd A f d).length by omega]
        exact bP_m h4 ⟨c0, by omega⟩
end CVS
