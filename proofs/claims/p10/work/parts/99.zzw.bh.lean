/-! THE NESTED RUN of the reference in big steps: operations. -/
theorem eO_e {k ty x : Int} {vs : List vaF} {e : Int} (h : eO k ty x vs = .inl e) : ¬ e = 0 := by
  have g := eO_g k ty x vs
  rw [h] at g
  rcases g with ⟨e', e1, e2⟩ | ⟨v', c', e1, -⟩
  · cases e1; exact e2
  · cases e1
theorem eO_s {k ty x : Int} {vs : List vaF} {v : vaF} {c : Int} (hk : k = 18 ∨ k = 19 ∨ k = 20) (h : eO k ty x vs = .inr (v, c)) : c = (itF (vs.getD 0 (nmF 0))).length := by
  rcases hk with e | e | e
  · subst e
    have h' : (Sum.inr (nmF (foF 18 0 (nuF (vs.getD 0 (nmF 0)))), ((itF (vs.getD 0 (nmF 0))).length : Int)) : Int ⊕ (vaF × Int)) = .inr (v, c) := h
    simp only [Sum.inr.injEq, Prod.mk.injEq] at h'
    exact h'.2.symm
  · subst e
    have h' : (match nuF (vs.getD 0 (nmF 0)) with
      | [] => (.inl 4 : Int ⊕ (vaF × Int))
      | y :: r => .inr (nmF (foF 19 y r), ((itF (vs.getD 0 (nmF 0))).length : Int))) = .inr (v, c) := h
    split at h'
    · cases h'
    · simp only [Sum.inr.injEq, Prod.mk.injEq] at h'
      exact h'.2.symm
  · subst e
    have h' : (match nuF (vs.getD 0 (nmF 0)) with
      | [] => (.inl 4 : Int ⊕ (vaF × Int))
      | y :: r => .inr (nmF (foF 20 y r), ((itF (vs.getD 0 (nmF 0))).length : Int))) = .inr (v, c) := h
    split at h'
    · cases h'
    · simp only [Sum.inr.injEq, Prod.mk.injEq] at h'
      exact h'.2.symm
theorem eO_n {k ty x : Int} {vs : List vaF} {v : vaF} {c : Int} (h16 : 16 ≤ k) (hk : ¬ (k = 18 ∨ k = 19 ∨ k = 20)) (ht : 1 ≤ ty) (ht1 : k = 16 ∨ k = 21 → ty = 1) (h : eO k ty x vs = .inr (v, c)) : c = cnvF ty.toNat v := by
  have g := eO_g k ty x vs
  rw [h] at g
  rcases g with ⟨e', e1, e2⟩ | ⟨v', c', e1, e2, e3⟩
  · cases e1
  · cases e1; exact e3 h16 hk ht ht1
section GNO
variable {A : aT} {D : List aDf} {T B : Int → Int} {σb : sg_S} {X : sg_S → Prop} {call : Int → eV → Int → eR} {ds : kD} {f : Nat}
theorem kG_pay {σ : sg_S} {ρ ρ2 : eV} {fr b cr w sp : Int} {d : Nat} {v : vaF} {c c' : Int} (h : kG A D T σb X σ ρ fr b cr d (ePay (.inr (v, c)) w sp ρ2)) (hc : c = c') : kG A D T σb X σ ρ fr b cr d (if w + c' ≤ 3000 then .inr (v, w + c', sp, ρ2) else .inl (7, w)) := by
  subst hc; exact h
theorem gN_op (hX : pgX σb A D T B) (hcB : gB (evN A T B call f)) (F : gxN A D T σb X B call ds f) {n : Int} {sc : List (Int × Int)} (hk : A.2.1 n = 0 ∨ A.2.1 n = 1 ∨ A.2.1 n = 14 ∨ (4 ≤ A.2.1 n ∧ A.2.1 n ≤ 12) ∨ 16 ≤ A.2.1 n) (hty : tyN A ds T B (f + 1) sc n) {σ : sg_S} {m : Nat} {ρ : eV} {fr b w cr : Int} (hS : gS σb σ fr b w) (hP : gPa σ fr w) (hs : scR A D T σ ρ sc) (hm : 8 * (3001 - w) + cr ≤ (m : Int)) (hcr : 0 ≤ cr) (k : kG A D T σb X σ ρ fr b cr (T n).toNat (evN A T B call (f + 1) n ρ w)) (Q : sg_S → Prop) (hQ : ∀ σ', Rx X m σ' → Q σ') : V_begin σ n Q := by
  obtain ⟨t1, t2, t3, t4, t5, t6, t7, t8, t9⟩ := hty
  have hA := hX.2.2.2.2.1
  have n2 : ¬ A.2.1 n = 2 := by omega
  have n3 : ¬ A.2.1 n = 3 := by omega
  have n15 : ¬ A.2.1 n = 15 := by omega
  have n13 : ¬ A.2.1 n = 13 := by omega
  obtain ⟨g1, g2⟩ := t3
  obtain ⟨a1, a2, ⟨a3, a4, a5⟩, a6, a7, a8, a9, a10⟩ := id hS
  obtain ⟨w1, w2, w3, w4, w5, w6, w7, w8⟩ := id t1
  have kin : ∀ x ∈ A.2.2.2.2.1 n, kIn (T x) := fun x hx => by
    have := t9 n2 n15 x hx
    cases f with
    | zero => exact this.elim
    | succ f => exact this.2.2.1
  by_cases k1 : A.2.1 n = 1
  · -- NAME
    rw [eN_1 k1] at k
    have hl : A.2.2.2.2.1 n = [] := List.eq_nil_of_length_eq_zero (w2 (by omega))
    refine gb_begin (A := A) (D := D) (T := T) (ρ := ρ) hS ⟨t2.1, by omega⟩ hQ (fun z σ' f' e' h' w' => ?_) (fun z σ1 S1 T1 r1 V1 => ?_)
    · rw [if_neg z] at k; exact k σ' f' e' h' w'
    rw [if_pos z] at k
    obtain ⟨q1, q2, q3⟩ := scR_u hs V1 _ (t4 k1)
    have X1 := gX hX S1.1
    have tr := tr_k X1.1 t2
    obtain ⟨m, rfl⟩ : ∃ m', m = m' + 1 := ⟨m - 1, by omega⟩
    refine rx_g (by rw [S1.2.2.1.1]; omega) S1.2.1 (fun Qz hz => gt_end X1 t2 S1.2.2.1.1 ⟨a6.1, by omega⟩ T1 n15 n3 (fun z => absurd z n2) (by rw [hl]; simp) (fun z => absurd z n13) ?_)
    unfold V_endNested V_endNested_1
    rw [tr.1, k1, X1.2.2.2.1]
    refine ⟨⟨t2.1, by omega⟩, fun z => absurd z (by decide), fun _ => ⟨fun _ => ⟨⟨t2.1, by omega⟩, q1, fun y => absurd S1.2.1 y, fun _ => ?_⟩, fun z => absurd rfl z⟩⟩
    have q3' : rvF σ1 (T n).toNat (ρ (B n)) (sg_g σ1 134 (B n)) := by
      unfold rlR at q3
      rw [← q2] at q3
      exact q3
    exact gl_leave (K := 1) (c := 0) (w := w + 1) (sp := 1) (cr := cr) (m := m) hX a1 t2 S1.1 S1.2.1 S1.2.2.1.1 S1.2.2.1.2.2 ⟨a6.1, S1.2.2.2.1.2.2.1, S1.2.2.2.1.2.2.2⟩ ⟨by omega, z⟩ a6.2.1 (by omega) T1 ⟨by omega, by omega⟩ (fun z0 => by have := hP z0; exact ⟨this.1, ⟨this.2.1.1, by omega⟩, ⟨this.2.2.1, by omega⟩⟩) V1 (sg_Rg _ _ _) q3' k1 (Or.inl ⟨rfl, by decide, rfl⟩) ⟨by decide, by decide⟩ (by have := S1.2.2.2.2.2.1; omega) (by have := S1.2.2.2.2.2.2.1; omega) (by omega) (by rw [Int.add_zero, if_pos z]; exact k) (fun σ' hR _ _ _ => hz σ' hR)
  · rw [eN_o k1 n2 n3 n13 n15] at k
    refine gb_begin (A := A) (D := D) (T := T) (ρ := ρ) hS ⟨t2.1, by omega⟩ hQ (fun z σ' f' e' h' w' => ?_) (fun z σ1 S1 T1 r1 V1 => ?_)
    · rw [if_neg z] at k; exact k σ' f' e' h' w'
    rw [if_pos z] at k
    refine gRow (off := 0) hX hcB F t2 (fun σ st b sp fr x Q => go_op t2 n15 n3 n2 σ st b sp fr x Q) (A.2.2.2.2.1 n) 0 (fun i x hx => by rw [Nat.zero_add, Nat.zero_add]; exact hx) (fun z => absurd z n15) (t9 n2 n15) σ1 m ρ fr b (w + 1) 1 (cr + 8) (by simp only [Int.ofNat_zero, Int.cast_ofNat_Int, Int.add_zero]; exact S1) a6.1 a6.2.1 T1 ⟨by omega, by omega⟩ (by rw [r1.2.1]; exact ⟨by omega, by omega⟩) (scR_u hs V1) (by omega) (by omega) ?_
    have bS := eS_b hcB (A.2.2.2.2.1 n) ρ (w + 1)
    generalize eS (evN A T B call f) (A.2.2.2.2.1 n) ρ (w + 1) = r at k bS
    match r, k, bS with
    | .inl (e, w'), k, _ => exact k
    | .inr (vs, w1', s1, ρ1), k, bS =>
      intro σ2 m2 l2 S2 T2 sp2 r2 V2 v2 hm2
      obtain ⟨bb, -⟩ := bS vs w1' s1 ρ1 z rfl
      simp only [Nat.zero_add, Int.ofNat_zero, Int.cast_ofNat_Int, Int.add_zero] at S2 T2 V2 v2
      simp only at k
      have V12 : gV A D T σ σ2 ρ ρ1 fr b := gV_t V1 V2 ⟨Int.le_refl _, Int.le_refl _⟩ ⟨Int.le_refl _, Int.le_refl _⟩
      obtain ⟨c1, c2, ⟨c3, c4, c5⟩, c6, c7, c8, c9, c10⟩ := id S2
      have X2 := gX hX c1
      obtain ⟨tr1, tr2, tr3, tr4, tr5⟩ := tr_k X2.1 t2
      have P2 : gPa σ fr w1' := fun z0 => by have := hP z0; exact ⟨this.1, ⟨this.2.1.1, by omega⟩, ⟨this.2.2.1, by omega⟩⟩
      obtain ⟨m2, rfl⟩ : ∃ m', m2 = m' + 1 := ⟨m2 - 1, by omega⟩
      refine rx_g (by omega) c2 (fun Qz hz => gt_end X2 t2 c3 ⟨a6.1, by omega⟩ T2 n15 n3 (fun z => absurd z n2) (Int.le_refl _) (fun z => absurd z n13) ?_)
      -- a value that costs c
      have lvX : ∀ (σ3 : sg_S) (v c : Int) (vf : vaF) (d : Nat) (Q' : sg_S → Prop), sg_F acX σ2 σ3 → nEx σ2 σ3 → sg_g σ3 88 73 = 0 → (sg_g σ3 88 60 ≤ w1' + c ∧ sg_g σ3 88 56 + fr ≤ w1' + c) → (T n).toNat = d → sg_R v → rvF σ3 d vf v → cstF σ3 (A.2.1 n) v b c → (0 ≤ c ∧ c ≤ 8040200) → eO (A.2.1 n) (T n) (sg_n (A.2.2.2.1 n)) vs = .inr (vf, c) → (∀ σ', Rx X m2 σ' → Q' σ') → V_leave σ3 v Q' := fun σ3 v c vf d Q' f3 ex3 h3 hb3 hd hR hr hcs hc he hq => by
        rw [he, hd] at k
        refine gl_leave (σ := σ) (K := A.2.1 n) (c := c) (w := w1') (sp := 1 + s1) (cr := cr) (m := m2) (ρ2 := ρ1) hX a1 t2 (sg_F_t c1 (sg_F_m f3 rfl)) h3 (by rw [sg_F_g f3 (by rfl)]; exact c3) (by rw [sg_F_g f3 (by rfl)]; exact c5) ⟨a6.1, Int.le_trans c6.2.2.1 ex3.1.1, Int.le_trans c6.2.2.2 ex3.1.2⟩ c7 a6.2.1 (by omega) ⟨by rw [sg_F_ga f3 rfl]; exact T2.1, by rw [sg_F_ga f3 rfl], by rw [sg_F_ga f3 rfl]; exact T2.2.2.1, by rw [sg_F_ga f3 rfl]; exact T2.2.2.2⟩ sp2 P2 (gV_t V12 (gV_F f3 ex3 rfl) ⟨Int.le_refl _, Int.le_refl _⟩ ⟨Int.le_refl _, Int.le_refl _⟩) hR hr rfl hcs hc hb3.2 hb3.1 (by omega) (kG_pay k rfl) hq
      have lv : ∀ (v c : Int) (vf : vaF) (d : Nat) (Q' : sg_S → Prop), (T n).toNat = d → sg_R v → rvF σ2 d vf v → cstF σ2 (A.2.1 n) v b c → (0 ≤ c ∧ c ≤ 8040200) → eO (A.2.1 n) (T n) (sg_n (A.2.2.2.1 n)) vs = .inr (vf, c) → (∀ σ', Rx X m2 σ' → Q' σ') → V_leave σ2 v Q' := fun v c vf d Q' hd hR hr hcs hc he hq => lvX σ2 v c vf d Q' (sg_F_r _ _) (nEx_r _) c2 ⟨by omega, by omega⟩ hd hR hr hcs hc he hq
      have flt : ∀ (e : Int) (Q' : sg_S → Prop), sg_R e ∧ ¬ e = 0 → eO (A.2.1 n) (T n) (sg_n (A.2.2.2.1 n)) vs = .inl e → (∀ σ', Rx X m2 σ' → Q' σ') → V_ends σ2 e Q' := fun e Q' he h hq => by
        rw [h] at k
        exact m_endsX c2 he.1 (fun σ' x1 x2 => hq σ' (rx_s (by rw [x1]; exact he.2) (k σ' (sg_F_t c1 (sg_F_m x2 rfl)) x1 he.2 (by rw [sg_F_g x2 (by rfl)]; exact c5))))
      have hB3 : (0 ≤ sg_g σ2 88 56 ∧ sg_g σ2 88 56 ≤ 3000) ∧ 0 ≤ sg_g σ2 88 60 ∧ sg_g σ2 88 60 ≤ 3000 := ⟨⟨c6.2.2.1, by omega⟩, c6.2.2.2, by omega⟩
      have hB : nB σ2 := by unfold nB; omega
      obtain ⟨n1, n12⟩ := nB_9 hB
      have nn : 0 ≤ n ∧ n < 210 := ⟨t2.1, by omega⟩
      have hty0 := t5 k1
      have vl : vs.length = (A.2.2.2.2.1 n).length := l2
      have vg : ∀ i : Nat, (hi : i < (A.2.2.2.2.1 n).length) → ∃ v, vs[i]? = some v ∧ rvF σ2 (T ((A.2.2.2.2.1 n)[i])).toNat v (sg_g σ2 133 (b + i)) := fun i hi => by
        obtain ⟨v, hv⟩ := gE_x (l := vs) (i := i) (by omega)
        exact ⟨v, hv, v2 i _ v (List.getElem?_eq_getElem hi) hv⟩
      unfold V_endNested
      rw [tr1]
      by_cases k0 : A.2.1 n = 0
      · -- NUMBER
        have t6' : T n = 0 := by
          rw [kTy_0 k0] at hty0
          exact (Option.some.inj hty0).symm
        have w95 : sg_gl σ2 95 n = A.2.2.2.1 n := (X2.1.1.2.2.2 n t2.1 t2.2).2.2.1
        refine ⟨nn, fun _ => ?_, fun z => absurd k0 z⟩
        unfold V_endNested_0
        rw [w95]
        exact ⟨nn, fun y => absurd c2 y, fun _ => lv _ 0 (nmF (sg_n (A.2.2.2.1 n))) 0 _ (by rw [t6']; rfl) (sg_Rn _) rfl (Or.inl ⟨by rw [k0]; rfl, by omega, rfl⟩) ⟨by decide, by decide⟩ (by rw [k0]; rfl) (fun σ' hR _ _ _ => hz σ' hR)⟩
      · by_cases k14 : A.2.1 n = 14
        · -- ROW
          have hl := w6 k14
          rw [kTy_14 k14] at hty0
          obtain ⟨i1, i2, i3⟩ := kIs_in hty0
          generalize hA0 : ((A.2.2.2.2.1 n).map T).getD 0 0 = a0 at i1 i2 i3
          have all0 : ∀ x ∈ A.2.2.2.2.1 n, T x = a0 := fun x hx => by
            have := List.all_eq_true.mp i3 (T x) (List.mem_map_of_mem hx)
            simpa using this
          have a00 : 0 ≤ a0 := by
            obtain ⟨y, r, hy⟩ : ∃ y r, A.2.2.2.2.1 n = y :: r := by
              match hh : A.2.2.2.2.1 n with
              | [] => rw [hh] at hl; simp at hl
              | y :: r => exact ⟨y, r, rfl⟩
            have m0 : y ∈ A.2.2.2.2.1 n := by rw [hy]; simp
            rw [← all0 y m0]
            exact (kin y m0).1
          have e0 : eO (A.2.1 n) (T n) (sg_n (A.2.2.2.1 n)) vs = .inr (mkF vs, cnL a0.toNat vs) := by rw [k14, show a0.toNat = (T n - 1).toNat by omega]; rfl
          refine ⟨nn, fun z => absurd z k0, fun _ => ⟨fun z => absurd z k1, fun _ => ⟨fun z => absurd z n2, fun _ => ⟨fun z => by omega, fun _ => ⟨fun z => by omega, fun _ => ⟨fun z => absurd z n13, fun _ => ⟨fun _ => ?_, fun z => absurd k14 z⟩⟩⟩⟩⟩⟩⟩
          unfold V_endNested_14
          rw [tr2]
          refine ⟨fun q v σ3 => ∃ i : Nat, v = i ∧ q = (A.2.2.2.2.1 n).length - i ∧ i ≤ (A.2.2.2.2.1 n).length ∧ nAX σ2 σ3 a0.toNat (vs.take i), fun σ3 => nAX σ2 σ3 a0.toNat vs, ⟨_, 0, rfl, rfl, Nat.zero_le _, nAX_0 σ2 _⟩, ?_, ?_⟩
          · rintro q v σ3 rv f3 ⟨i, rfl, em, hi, hA'⟩
            refine ⟨nn, fun y => ?_, fun y => ⟨⟨by omega, by omega⟩, ⟨by omega, by omega⟩, ?_⟩⟩
            · have : vs.take i = vs := List.take_of_length_le (by omega)
              rw [this] at hA'; exact hA'
            · obtain ⟨v', hv', rv'⟩ := vg i (by omega)
              rw [all0 _ (List.getElem_mem _)] at rv'
              refine m_addX (u := v') hB (by rw [List.length_take]; omega) hA' (sg_Rg _ _ _) (rvF_up hA'.1 rv') (fun σ' x1 _ x2 _ => ⟨⟨by omega, by omega⟩, (A.2.2.2.2.1 n).length - (i + 1), by omega, i + 1, by omega, rfl, by omega, ?_⟩)
              rw [tkF_1 hv']; exact x1
          · intro σ3 f3 h3'
            have evT : sg_g σ2 101 n = T n := X2.2.2.1 n
            rw [evT]
            obtain ⟨x1, x2, x3, x4⟩ := id h3'
            refine ⟨nn, m_seqX (k := a0.toNat) (L := vs) (by omega) (by omega) (by omega) (by omega) (by omega) (by omega) (by omega) (by omega) x4 (fun σ4 y1 y2 y3 y4 y5 rq f4 => ⟨fun y => absurd c2 y, fun _ => ?_⟩)⟩
            have F4 : sg_F acX σ2 σ4 := sg_F_t (sg_F_m f3 rfl) (sg_F_m f4 rfl)
            have cl := cnL_l a0.toNat vs
            have cb := rv_cn y4
            have cB3 := cB_3 (k := a0.toNat + 1) (by omega)
            rw [cnF_mk] at cb
            have r4 := rv_x (by omega) y4
            rw [cnF_mk] at r4
            exact lvX σ4 _ (cnL a0.toNat vs) (mkF vs) (a0.toNat + 1) _ F4 (nEx_t x1 y1) (by rw [sg_F_g f4 (by rfl), sg_F_g f3 (by rfl)]; exact c2) ⟨by omega, by omega⟩ (by omega) rq y4 (Or.inr (Or.inl ⟨by rw [k14]; decide, by omega, r4.1, r4.2.2.2⟩)) ⟨by omega, by omega⟩ e0 (fun σ' hR _ _ _ => hz σ' hR)
        · -- ACTS
          have hw := t1
          unfold nW at hw
          have tt := kTy_o (A := A) (ds := ds) (T := T) (n := n) (ty := T n) (ts := (A.2.2.2.2.1 n).map T) (by rw [List.length_map]; exact hw) hty0 (by omega) n13 k14 n15 (fun x hx => by
            obtain ⟨y, hy, rfl⟩ := List.mem_map.mp hx
            exact (kin y hy).1)
          rw [List.length_map] at tt
          have gd : ∀ i : Nat, (hi : i < (A.2.2.2.2.1 n).length) → ((A.2.2.2.2.1 n).map T).getD i 0 = T ((A.2.2.2.2.1 n)[i]) := fun i hi => by
            rw [List.getD_eq_getElem?_getD, List.getElem?_map, List.getElem?_eq_getElem hi]; rfl
          have evT : sg_g σ2 101 n = T n := X2.2.2.1 n
          -- what an ACT is followed by
          have fin : 16 ≤ A.2.1 n → (A.2.1 n = 18 ∨ A.2.1 n = 19 ∨ A.2.1 n = 20 → T n = 0 ∧ rvF σ2 1 (vs.getD 0 (nmF 0)) (sg_g σ2 133 b)) → (¬ (A.2.1 n = 18 ∨ A.2.1 n = 19 ∨ A.2.1 n = 20) → 1 ≤ T n ∧ (A.2.1 n = 16 ∨ A.2.1 n = 21 → T n = 1)) → aX σ2 (T n).toNat (fun q σ10 => sg_R q → sg_F acX σ2 σ10 → ((¬ sg_g σ10 88 73 = 0 → Rx X m2 σ10) ∧ (sg_g σ10 88 73 = 0 → ∀ Q2 : sg_S → Prop, (∀ σ', Rx X m2 σ' → Q2 σ') → V_leave σ10 q Q2))) (eO (A.2.1 n) (T n) (sg_n (A.2.2.2.1 n)) vs) := fun k16 hsm hct => by
            have hk := k
            generalize he : eO (A.2.1 n) (T n) (sg_n (A.2.2.2.1 n)) vs = r at hk
            match r, he, hk with
            | .inl e, he, hk =>
              intro q σ10 x1 x2 _ _
              have e0 : ¬ e = 0 := eO_e he
              exact ⟨fun _ => rx_s (by rw [x1]; exact e0) (hk σ10 (sg_F_t c1 (sg_F_m x2 rfl)) x1 e0 (by rw [sg_F_g x2 (by rfl)]; exact c5)), fun y => absurd (x1.symm.trans y) e0⟩
            | .inr (v, c), he, hk =>
              intro q σ10 y1 y2 y3 y4 y5 rq _
              refine ⟨fun z0 => absurd (y4.trans c2) z0, fun z0 Q2 hQ2 => ?_⟩
              have cp := eO_c he
              by_cases s18 : A.2.1 n = 18 ∨ A.2.1 n = 19 ∨ A.2.1 n = 20
              · obtain ⟨q1, q2⟩ := hsm s18
                rw [q1] at y1 y3
                have y32 := y3.2.1 rfl
                have y31 := y3.1
                simp only [show (0 : Int).toNat = 0 from rfl, cnvF] at y31
                have ra := rv_x (by omega) (rvF_up y2 q2)
                have ec : c = (itF (vs.getD 0 (nmF 0))).length := eO_s s18 he
                have e133 : sg_g σ10 133 b = sg_g σ2 133 b := sg_F_ga y5 rfl
                exact lvX σ10 q c v 0 Q2 y5 y2 z0 ⟨by omega, by omega⟩ (by rw [q1]; rfl) rq y1 (Or.inr (Or.inr ⟨tC_no (by omega), s18, by rw [e133]; exact ra.1, by rw [e133, ra.2.1]; exact ec.symm⟩)) ⟨cp, by omega⟩ he hQ2
              · obtain ⟨q1, q2⟩ := hct s18
                have ec := eO_n k16 s18 q1 q2 he
                obtain ⟨d, hd⟩ : ∃ d : Nat, (T n).toNat = d + 1 := ⟨(T n).toNat - 1, by omega⟩
                rw [hd] at y1 y3 ec
                have cb := rv_cn y1
                have cB3 := cB_3 (k := d + 1) (by omega)
                have ra := rv_x (x := q) (by have := y3.2.2.2; omega) y1
                exact lvX σ10 q c v (d + 1) Q2 y5 y2 z0 ⟨by omega, by omega⟩ hd rq y1 (Or.inr (Or.inl ⟨tC_act k16 s18, s18, ra.1, by rw [ra.2.2.2]; exact ec.symm⟩)) ⟨cp, by omega⟩ he hQ2
          rcases tt with ⟨l1, o1⟩ | ⟨l2', o2⟩
          · rw [gd 0 (by omega)] at o1
            have kx := kin _ (List.getElem_mem (h := show 0 < (A.2.2.2.2.1 n).length by omega))
            obtain ⟨v, hv, v0⟩ := vg 0 (by omega)
            simp only [Int.ofNat_zero, Int.cast_ofNat_Int, Int.add_zero] at v0
            have ev : vs = [v] := by
              match vs, hv, vl with
              | [a], hv, _ => simp at hv; rw [hv]
              | [], hv, _ => simp at hv
              | _ :: _ :: _, _, vl => simp only [List.length_cons] at vl; omega
            by_cases k11 : A.2.1 n = 11
            · have o11 : 0 < T ((A.2.2.2.2.1 n)[0]) ∧ T n = 0 := by
                unfold op1 at o1
                omega
              have v0' := v0
              rw [show (T ((A.2.2.2.2.1 n)[0])).toNat = (T ((A.2.2.2.2.1 n)[0]) - 1).toNat + 1 by omega] at v0'
              have ra := rv_x n1 v0'
              refine ⟨nn, fun z => absurd z k0, fun _ => ⟨fun z => absurd z k1, fun _ => ⟨fun z => absurd z n2, fun _ => ⟨fun _ => ?_, fun z => absurd k11 z⟩⟩⟩⟩
              unfold V_endNested_11
              refine ⟨⟨a6.2.1, by omega⟩, ra.1, fun y => absurd c2 y, fun _ => lv _ 0 (nmF (itF v).length) 0 _ (by rw [o11.2]; rfl) (sg_Rg _ _ _) ra.2.1.symm (Or.inl ⟨by rw [k11]; rfl, by omega, rfl⟩) ⟨by decide, by decide⟩ (by rw [k11, ev]; rfl) (fun σ' hR _ _ _ => hz σ' hR)⟩
            · have k16 : 16 ≤ A.2.1 n := by
                unfold op1 at o1
                omega
              refine ⟨nn, fun z => absurd z k0, fun _ => ⟨fun z => absurd z k1, fun _ => ⟨fun z => absurd z n2, fun _ => ⟨fun z => absurd z k11, fun _ => ⟨fun z => by omega, fun _ => ⟨fun z => absurd z n13, fun _ => ⟨fun z => absurd z k14, fun _ => ?_⟩⟩⟩⟩⟩⟩⟩
              unfold V_endNested_d
              rw [tr1, tr2]
              refine ⟨nn, fun _ => ⟨⟨a6.2.1, by omega⟩, ⟨fun _ => trivial, fun y => ⟨⟨by omega, by omega⟩, ⟨by omega, by omega⟩, trivial⟩⟩, fun v6 e6 r6 => ?_⟩, fun z => by omega⟩
              have fx := fin k16 (fun s18 => by
                unfold op1 at o1
                have t1' : T ((A.2.2.2.2.1 n)[0]) = 1 ∧ T n = 0 := by omega
                refine ⟨t1'.2, ?_⟩
                rw [t1'.1] at v0
                rw [ev]; exact v0) (fun s18 => by unfold op1 at o1; omega)
              rw [ev] at fx
              exact x_act1 (K := A.2.1 n) (ta := T ((A.2.2.2.2.1 n)[0])) (ty := T n) (v := v) c2 hB3 nn tr1 evT g2 kx v0 o1 k11 (aX_m fx (fun q σ' h rq f => ⟨fun z _ _ => hz _ ((h rq f).1 z), fun z => (h rq f).2 z _ (fun σ' hR _ _ _ => hz σ' hR)⟩))
          · rw [gd 0 (by omega), gd 1 (by omega)] at o2
            have kx := kin _ (List.getElem_mem (h := show 0 < (A.2.2.2.2.1 n).length by omega))
            obtain ⟨v, hv, v0⟩ := vg 0 (by omega)
            obtain ⟨u, hu, v1⟩ := vg 1 (by omega)
            simp only [Int.ofNat_zero, Int.cast_ofNat_Int, Int.add_zero] at v0
            have ev : vs = [v, u] := by
              match vs, hv, hu, vl with
              | [a, b], hv, hu, _ => simp at hv hu; rw [hv, hu]
              | [], hv, _, _ => simp at hv
              | [_], _, hu, _ => simp at hu
              | _ :: _ :: _ :: _, _, _, vl => simp only [List.length_cons] at vl; omega
            have v1' : rvF σ2 (T ((A.2.2.2.2.1 n)[1])).toNat u (sg_g σ2 133 (b + 1)) := v1
            by_cases k12 : A.2.1 n = 12
            · have o12 : 0 < T ((A.2.2.2.2.1 n)[0]) ∧ T ((A.2.2.2.2.1 n)[1]) = 0 ∧ T n = T ((A.2.2.2.2.1 n)[0]) - 1 := by
                unfold op2 at o2
                omega
              have v0' := v0
              rw [show (T ((A.2.2.2.2.1 n)[0])).toNat = (T ((A.2.2.2.2.1 n)[0]) - 1).toNat + 1 by omega] at v0'
              have ra := rv_x n1 v0'
              rw [o12.2.1] at v1'
              have e1 : sg_g σ2 133 (b + 1) = u [] := v1'.symm
              refine ⟨nn, fun z => absurd z k0, fun _ => ⟨fun z => absurd z k1, fun _ => ⟨fun z => absurd z n2, fun _ => ⟨fun z => by omega, fun _ => ⟨fun _ => ?_, fun z => absurd k12 z⟩⟩⟩⟩⟩
              unfold V_endNested_12
              rw [ra.2.1, e1]
              refine ⟨⟨by omega, by omega⟩, ⟨by omega, by omega⟩, ⟨a6.2.1, by omega⟩, ra.1, ⟨by omega, by omega⟩, fun q => ?_, fun q => ?_⟩
              · have hi := Decidable.byContradiction (fun y => q (v_in_n.mpr y))
                obtain ⟨w', hw'⟩ := gE_x (l := itF v) (i := (u []).toNat) (by omega)
                have it := rv_it n1 n12 v0' hw'
                rw [show (((u []).toNat : Nat) : Int) = u [] by omega] at it
                refine ⟨it.1, fun y => absurd c2 y, fun _ => lv _ 0 w' (T ((A.2.2.2.2.1 n)[0]) - 1).toNat _ (by omega) (sg_Rg _ _ _) it.2 (Or.inl ⟨by rw [k12]; rfl, by omega, rfl⟩) ⟨by decide, by decide⟩ ?_ (fun σ' hR _ _ _ => hz σ' hR)⟩
                rw [k12, ev]
                show (if 0 ≤ u [] ∧ u [] < (itF v).length then (.inr ((itF v).getD (u []).toNat (nmF 0), 0) : Int ⊕ (vaF × Int)) else .inl 2) = .inr (w', 0)
                rw [if_pos ⟨hi.1, by omega⟩, List.getD_eq_getElem?_getD, hw', Option.getD_some]
              · have hi := v_in_n.mp q
                refine flt 2 _ (by decide) ?_ (fun σ' hR _ _ _ => hz σ' hR)
                rw [k12, ev]
                show (if 0 ≤ u [] ∧ u [] < (itF v).length then (.inr ((itF v).getD (u []).toNat (nmF 0), 0) : Int ⊕ (vaF × Int)) else .inl 2) = .inl 2
                rw [if_neg (by omega)]
            · refine ⟨nn, fun z => absurd z k0, fun _ => ⟨fun z => absurd z k1, fun _ => ⟨fun z => absurd z n2, fun _ => ⟨fun z => by unfold op2 at o2; omega, fun _ => ⟨fun z => absurd z k12, fun _ => ⟨fun z => absurd z n13, fun _ => ⟨fun z => absurd z k14, fun _ => ?_⟩⟩⟩⟩⟩⟩⟩
              unfold V_endNested_d
              rw [tr1, tr2]
              refine ⟨nn, fun k11 => ⟨⟨a6.2.1, by omega⟩, ⟨fun _ => trivial, fun y => ⟨⟨by omega, by omega⟩, ⟨by omega, by omega⟩, trivial⟩⟩, fun v6 e6 r6 => ?_⟩, fun kl => ?_⟩
              · have k16 : 16 ≤ A.2.1 n := by
                  unfold op2 at o2
                  omega
                rw [if_neg (by omega)] at e6
                have kx0 : 0 ≤ T ((A.2.2.2.2.1 n)[0]'(by omega)) := (kin _ (List.getElem_mem _)).1
                have fx := fin k16 (fun s18 => by unfold op2 at o2; omega) (fun s18 => by unfold op2 at o2; omega)
                rw [ev] at fx
                exact x_act2 (K := A.2.1 n) (ta := T ((A.2.2.2.2.1 n)[0])) (tb := T ((A.2.2.2.2.1 n)[1])) (ty := T n) (v := v) (u := u) c2 hB3 nn tr1 evT g2 kx (sg_Rg _ _ _) v0 (by rw [e6]; exact v1') o2 k16 (aX_m fx (fun q σ' h rq f => ⟨fun z _ _ => hz _ ((h rq f).1 z), fun z => (h rq f).2 z _ (fun σ' hR _ _ _ => hz σ' hR)⟩))
              · have o4 : (4 ≤ A.2.1 n ∧ A.2.1 n ≤ 10) ∧ T ((A.2.2.2.2.1 n)[0]) = 0 ∧ T ((A.2.2.2.2.1 n)[1]) = 0 ∧ T n = 0 := by
                  unfold op2 at o2
                  omega
                rw [o4.2.1] at v0
                rw [o4.2.2.1] at v1'
                have e0 : sg_g σ2 133 b = v [] := v0.symm
                have e1 : sg_g σ2 133 (b + 1) = u [] := v1'.symm
                rw [e0, e1]
                have eo : eO (A.2.1 n) (T n) (sg_n (A.2.2.2.1 n)) vs = if (A.2.1 n = 9 ∨ A.2.1 n = 10) ∧ u [] = 0 then .inl 1 else .inr (nmF (arF (A.2.1 n) (v []) (u [])), 0) := by
                  rw [ev]
                  have c : A.2.1 n = 4 ∨ A.2.1 n = 5 ∨ A.2.1 n = 6 ∨ A.2.1 n = 7 ∨ A.2.1 n = 8 ∨ A.2.1 n = 9 ∨ A.2.1 n = 10 := by omega
                  rcases c with e | e | e | e | e | e | e <;> rw [e] <;> rfl
                have o : ¬ ((A.2.1 n = 9 ∨ A.2.1 n = 10) ∧ u [] = 0) → ∀ Q' : sg_S → Prop, (∀ σ', Rx X m2 σ' → Q' σ') → V_leave σ2 (v_operated (A.2.1 n) (v []) (u [])) Q' := fun hz Q' hq => lv _ 0 (nmF (arF (A.2.1 n) (v []) (u []))) 0 Q' (by rw [o4.2.2.2]; rfl) (R_op _ _ _) rfl (Or.inl ⟨tC_no (by omega), by omega, rfl⟩) ⟨by decide, by decide⟩ (by rw [eo, if_neg hz]) hq
                exact ⟨fun y9 => ⟨⟨by omega, by omega⟩, ⟨by omega, by omega⟩, fun yu => ⟨⟨a6.2.1, by omega⟩, p_op _ _ _, fun y => absurd c2 y, fun _ => o (fun hz => yu hz.2) _ (fun σ' hR _ _ _ => hz σ' hR)⟩, fun yu => flt 1 _ (by decide) (by rw [eo, if_pos ⟨Or.inl y9, yu⟩]) (fun σ' hR _ _ _ => hz σ' hR)⟩, fun y9 => ⟨fun y10 => ⟨⟨a6.2.1, by omega⟩, ⟨by omega, by omega⟩, ⟨by omega, by omega⟩, p_op _ _ _, fun y => absurd c2 y, fun _ => o (fun hz => by omega) _ (fun σ' hR _ _ _ => hz σ' hR)⟩, fun y10 => ⟨⟨by omega, by omega⟩, ⟨by omega, by omega⟩, fun yu => ⟨⟨a6.2.1, by omega⟩, p_op _ _ _, fun y => absurd c2 y, fun _ => o (fun hz => yu hz.2) _ (fun σ' hR _ _ _ => hz σ' hR)⟩, fun yu => flt 1 _ (by decide) (by rw [eo, if_pos ⟨Or.inr y10, yu⟩]) (fun σ' hR _ _ _ => hz σ' hR)⟩⟩⟩
end GNO
