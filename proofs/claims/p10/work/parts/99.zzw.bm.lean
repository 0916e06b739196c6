/-! THE NESTED RUN of the reference in big steps: { }. -/
section GNE
variable {A : aT} {D : List aDf} {T B : Int → Int} {σb : sg_S} {X : sg_S → Prop} {call : Int → eV → Int → eR} {ds : kD} {f : Nat}
theorem go_each {n : Int} (hn : 0 ≤ n ∧ n < A.1) (k15 : A.2.1 n = 15) (σ : sg_S) (st : Nat) (b sp fr x : Int) (Q : sg_S → Prop) (hX : pgX σ A D T B) (hf : sg_g σ 88 62 = fr + 1) (f0 : 0 ≤ fr ∧ fr < 4000) (hT : gxT σ fr n st b sp) (h15 : A.2.1 n = 15 → st < (A.2.2.2.2.2 n).length) (hx : (A.2.2.2.2.1 n)[1 + st]? = some x) (k : ∀ σ3, σ3 = sg_w σ 127 fr (st + 1) → ∀ Q' : sg_S → Prop, (∀ σ', Q σ' → Q' σ') → V_begin σ3 x Q') : V_goNested σ (fun σ' => sg_F goL σ σ' → Q σ') :=
  gt_each hX hn hf f0 hT.1 k15 (ge_gen hX hn f0 hT (h15 k15) hx (fun σ3 e3 => k σ3 e3 _ (fun σ' hq _ _ _ _ => hq)))
theorem gN_each (hX : pgX σb A D T B) (hcB : gB (evN A T B call f)) (F : gxN A D T σb X B call ds f) {n : Int} {sc : List (Int × Int)} (hk : A.2.1 n = 15) (hty : tyN A ds T B (f + 1) sc n) {σ : sg_S} {m : Nat} {ρ : eV} {fr b w cr : Int} (hS : gS σb σ fr b w) (hP : gPa σ fr w) (hs : scR A D T σ ρ sc) (hm : 8 * (3001 - w) + cr ≤ (m : Int)) (hcr : 0 ≤ cr) (k : kG A D T σb X σ ρ fr b cr (T n).toNat (evN A T B call (f + 1) n ρ w)) (Q : sg_S → Prop) (hQ : ∀ σ', Rx X m σ' → Q σ') : V_begin σ n Q := by
  obtain ⟨t1, t2, t3, t4, t5, t6, t7, t8, t9⟩ := hty
  have hA := hX.2.2.2.2.1
  obtain ⟨a1, a2, ⟨a3, a4, a5⟩, a6, a7, a8, a9, a10⟩ := id hS
  obtain ⟨w1, w2, w3, w4, w5, w6, w7, w8⟩ := id t1
  have w7' := w7 hk
  have w8' := w8.2 hk
  obtain ⟨bd, tl, hk2⟩ : ∃ bd tl, A.2.2.2.2.1 n = bd :: tl := by
    match hh : A.2.2.2.2.1 n with
    | bd :: tl => exact ⟨bd, tl, rfl⟩
    | [] => rw [hh] at w7'; simp only [List.length_nil] at w7'; omega
  have tyk := t8 hk bd tl hk2
  have e6 := t5 (by omega)
  rw [kTy_15 hk, hk2] at e6
  obtain ⟨i6, i6', i6''⟩ := kIs_in e6
  have e6n : T n = T bd + 1 := i6
  have hgs : kGs A n = tl.take (A.2.2.2.2.2 n).length := by unfold kGs; rw [hk2]; rfl
  have btg : ∀ (j : Nat), j < 4 → bTy A D T (210 + 4 * n + j) = T ((bd :: tl).getD (1 + j) 0) - 1 := fun j hj => by rw [bTw_g ⟨t2.1, by omega⟩ hj, hk2]
  rw [eN_15 hk, hgs, hk2] at k
  simp only [List.getD_cons_zero] at k
  generalize hgl : (A.2.2.2.2.2 n).length = g at *
  have lk : tl.length = g ∨ tl.length = 1 + g := by
    rw [hk2] at w7'
    simp only [List.length_cons] at w7'
    omega
  have lt : (tl.take g).length = g := by rw [List.length_take]; omega
  have tybd := tyk.2 bd (by simp)
  have kbd : kIn (T bd) := by
    cases f with
    | zero => exact tybd.elim
    | succ f => exact tybd.2.2.1
  have kbd1 := kbd.1
  have kn2 := t3.2
  have tgt : ∀ (j : Nat) (x : Int), (tl.take g)[j]? = some x → tl[j]? = some x := fun j x hx => by
    have hj := gE_l hx
    rw [List.getElem?_take_of_lt (by omega)] at hx
    exact hx
  have hxt : ∀ (j : Nat) (x : Int), (tl.take g)[j]? = some x → 0 < T x ∧ bTy A D T (210 + 4 * n + j) = T x - 1 := fun j x hx => by
    have hj := gE_l hx
    refine ⟨(tyk.1 x (List.mem_of_getElem? hx)).2, ?_⟩
    rw [btg j (by omega), show 1 + j = j + 1 by omega, List.getD_cons_succ, List.getD_eq_getElem?_getD, tgt j x hx, Option.getD_some]
  refine gb_begin (A := A) (D := D) (T := T) (ρ := ρ) hS ⟨t2.1, by omega⟩ hQ (fun z σ' f' e' h' w' => ?_) (fun z σ1 S1 T1 r1 V1 => ?_)
  · rw [if_neg z] at k; exact k σ' f' e' h' w'
  rw [if_pos z] at k
  refine gRow hX hcB F (sc := sc) (off := 1) t2 (go_each t2 hk) (tl.take g) 0 (fun i y hy => ?_) (fun _ => by rw [lt, hgl]; omega) (fun x hx => (tyk.1 x hx).1) σ1 m ρ fr b (w + 1) 1 (cr + 8) (by simp only [Int.ofNat_zero, Int.cast_ofNat_Int, Int.add_zero]; exact S1) a6.1 a6.2.1 T1 ⟨by omega, by omega⟩ (by rw [r1.2.1]; exact ⟨by omega, by omega⟩) (scR_u hs V1) (by omega) (by omega) ?_
  · rw [hk2, show 1 + (0 + i) = i + 1 by omega, List.getElem?_cons_succ]
    exact tgt i y hy
  have bnd := eS_b hcB (tl.take g) ρ (w + 1)
  generalize eS (evN A T B call f) (tl.take g) ρ (w + 1) = r at k bnd
  match r, k, bnd with
  | .inl (e, w'), k, _ => exact k
  | .inr (vs, w1', s1, ρ1), k, bnd =>
    intro σ2 m2 lv S2 T2 sp2 r2 V2 v2 hm2
    have bb := bnd vs w1' s1 ρ1 z rfl
    simp only at k
    rw [lt] at lv S2 T2
    simp only [Int.ofNat_zero, Int.cast_ofNat_Int, Int.add_zero, Nat.zero_add] at S2 T2 V2 v2
    have X2 := gX hX S2.1
    obtain ⟨c1, c2, ⟨c3, c4, c5⟩, c6, c7, c8, c9, c10⟩ := id S2
    have V12 := gV_t V1 V2 ⟨Int.le_refl _, Int.le_refl _⟩ ⟨Int.le_refl _, Int.le_refl _⟩
    have n9 : sg_g σ2 88 56 ≤ 9000 := by omega
    have vx : ∀ (j : Nat), j < g → ∃ (v : vaF), vs[j]? = some v ∧ vs.getD j (nmF 0) = v ∧ (0 ≤ sg_g σ2 133 (b + j) ∧ sg_g σ2 133 (b + j) < 9000) ∧ sg_g σ2 123 (sg_g σ2 133 (b + j)) = (itF v).length ∧ (itF v).length ≤ 200 := fun j hj => by
      obtain ⟨v, hv⟩ := gE_x (l := vs) (i := j) (by omega)
      obtain ⟨x, hx⟩ := gE_x (l := tl.take g) (i := j) (by omega)
      have pos := (hxt j x hx).1
      have q := v2 j x v hx hv
      rw [show (T x).toNat = (T x - 1).toNat + 1 by omega] at q
      have q2 := rv_x n9 q
      exact ⟨v, hv, by rw [List.getD_eq_getElem?_getD, hv, Option.getD_some], q2.1, q2.2.1, q2.2.2.1⟩
    obtain ⟨m2, rfl⟩ : ∃ m', m2 = m' + 1 := ⟨m2 - 1, by omega⟩
    refine rx_g (by omega) c2 (fun Qz hz => gt_each X2 t2 c3 ⟨a6.1, by omega⟩ T2.1 hk (ge_len (N := fun j => ((itF (vs.getD j (nmF 0))).length : Int)) X2 t2 ⟨a6.1, by omega⟩ hgl ⟨by omega, by omega⟩ T2 c2 ⟨a6.2.1, by omega⟩ (fun j hj => ?_) (fun j hj => ?_) (fun ⟨j, hj, hne⟩ σ' x1 x2 _ _ => ?_) (fun hal σ3 e3 _ _ => ?_)))
    · obtain ⟨v, q1, q2, q3, q4, q5⟩ := vx j hj
      exact q3
    · obtain ⟨v, q1, q2, q3, q4, q5⟩ := vx j hj
      rw [q4]
      simp only [q2]
    · obtain ⟨v, q1, q2, q3, q4, q5⟩ := vx j hj
      simp only [q2] at hne
      have za : vs.any (fun v => decide ((itF v).length ≠ (itF (vs.getD 0 (nmF 0))).length)) = true := List.any_eq_true.mpr ⟨v, List.mem_of_getElem? q1, decide_eq_true (fun q => hne (by rw [q]))⟩
      rw [if_pos za] at k
      exact hz σ' (rx_s (by rw [x1]; decide) (k σ' (sg_F_t c1 (sg_F_m x2 rfl)) x1 (by decide) (by rw [sg_F_g x2 (by rfl)]; exact c5)))
    · have hvN : ∀ (j : Nat) (v : vaF), vs[j]? = some v → (itF v).length = (itF (vs.getD 0 (nmF 0))).length := fun j v hv => by
        have := hal j (by have := gE_l hv; omega)
        rw [List.getD_eq_getElem?_getD, hv, Option.getD_some] at this
        omega
      have za : ¬ vs.any (fun v => decide ((itF v).length ≠ (itF (vs.getD 0 (nmF 0))).length)) = true := fun q => by
        obtain ⟨v, hm', hd⟩ := List.any_eq_true.mp q
        obtain ⟨j, hj⟩ := List.getElem?_of_mem hm'
        have := hvN j v hj
        simp only [ne_eq, decide_eq_true_eq] at hd
        exact hd this
      rw [if_neg za] at k
      have N200 : (itF (vs.getD 0 (nmF 0))).length ≤ 200 := by
        obtain ⟨v, q1, q2, q3, q4, q5⟩ := vx 0 (by omega)
        rw [q2]; exact q5
      obtain ⟨S3, T3, f3, V3⟩ := gs_w (A := A) (D := D) (T := T) (ρ := ρ1) (b' := b + g) S2 T2 (s' := g + 1) ⟨by omega, by omega⟩ e3
      have gdf : ((bd :: tl).drop (1 + g) = [] ∧ (A.2.2.2.2.1 n).length = 1 + g) ∨ ∃ g0, (bd :: tl).drop (1 + g) = [g0] ∧ (A.2.2.2.2.1 n).length = 2 + g ∧ (A.2.2.2.2.1 n)[1 + g]? = some g0 ∧ tyN A ds T B f (gsc n T 0 (tl.take g) ++ sc) g0 ∧ T g0 = 0 := by
        have hd : (bd :: tl).drop (1 + g) = tl.drop g := by rw [show 1 + g = g + 1 by omega, List.drop_succ_cons]
        rcases lk with l | l
        · left
          exact ⟨by rw [hd, List.drop_of_length_le (by omega)], by rw [hk2, List.length_cons]; omega⟩
        · right
          obtain ⟨g0, hg0⟩ := gE_x (l := tl) (i := g) (by omega)
          have dg : tl.drop g = [g0] := by
            rw [dr_c hg0, List.drop_of_length_le (by omega)]
          refine ⟨g0, by rw [hd, dg], by rw [hk2, List.length_cons]; omega, by rw [hk2, show 1 + g = g + 1 by omega, List.getElem?_cons_succ]; exact hg0, tyk.2 g0 (by rw [dg]; simp), ?_⟩
          have q := i6''
          simp only [List.map_cons, List.length_cons, List.length_map, Bool.or_eq_true, decide_eq_true_eq] at q
          rcases q with q | q
          · omega
          · rw [show tl.length + 1 - 1 = g + 1 by omega, List.getD_cons_succ, List.getD_eq_getElem?_getD, List.getElem?_map, hg0] at q
            exact q
      have I3 : exI T σb σ3 n fr b w1' (1 + s1) 0 g 0 (tl.take g) vs [] (T bd).toNat := ⟨by simp only [List.length_nil, Int.ofNat_zero, Int.cast_ofNat_Int, Int.add_zero]; exact S3, T3, ⟨by rw [sg_F_ga f3 rfl, r2.1, r1.1]; rfl, by rw [sg_F_ga f3 rfl, r2.2.2, r1.2.2]⟩, ⟨by omega, Int.le_refl _, by omega⟩, fun j x v hx hv => by
        rw [sg_F_ga f3 rfl]
        exact rvF_up V3.1 (v2 j x v hx hv), fun j v hv => by simp at hv⟩
      refine hz σ3 ?_
      refine gx_vis (cr := cr + 7) (σ2 := σ2) (ρ2 := ρ1) (sc := sc) (gd := (bd :: tl).drop (1 + g)) hX hcB F t2 hk a6.1 a6.2.1 ⟨by omega, by omega⟩ hgl lt (by omega) hxt hvN N200 (by omega) (by rw [hk2]; rfl) tybd rfl gdf (scR_u hs V12) (itF (vs.getD 0 (nmF 0))).length 0 ρ1 w1' 0 [] σ3 m2 (by omega) (by simp) I3 (gV_t V3 (gV_r σ3 ρ1 fr b) ⟨Int.le_refl _, Int.le_refl _⟩ ⟨by omega, Int.le_refl _⟩) (by omega) ?_
      have hEP : ∀ acc w2' bs ρ2, eP (fun i ρ w => evT (evN A T B call f) ((bd :: tl).drop (1 + g)) bd (eUs ρ (210 + 4 * n) 0 (vs.map (fun v => (itF v).getD i (nmF 0)))) w) (itF (vs.getD 0 (nmF 0))).length 0 ρ1 w1' 0 [] = .inr (acc, w2', bs, ρ2) → w1' ≤ w2' := fun acc w2' bs ρ2 e => (eP_b (fun i ρ w vs w' s' ρ' hw h => (evT_b hcB hw h).1) _ _ _ _ _ _ _ _ _ _ (by omega) (Int.le_refl _) e).1
      generalize eP (fun i ρ w => evT (evN A T B call f) ((bd :: tl).drop (1 + g)) bd (eUs ρ (210 + 4 * n) 0 (vs.map (fun v => (itF v).getD i (nmF 0)))) w) (itF (vs.getD 0 (nmF 0))).length 0 ρ1 w1' 0 [] = rr at k hEP
      match rr, k, hEP with
      | .inl (e, w'), k, _ => exact fun σ' q1 q2 q3 q4 => k σ' q1 q2 q3 q4
      | .inr (acc, w2', bs, ρ2), k, hEP =>
        intro σ5 m5 I5 l200 V5 hm5
        have hw12 := hEP acc w2' bs ρ2 rfl
        clear hEP
        simp only at k
        obtain ⟨S5, T5, ⟨p5, q5⟩, b5, x5, y5⟩ := id I5
        obtain ⟨d1, d2, ⟨d3, d4, d5⟩, d6, d7, d8, d9, d10⟩ := id S5
        have X5 := gX hX S5.1
        have V15 := gV_t V12 V5 ⟨Int.le_refl _, Int.le_refl _⟩ ⟨Int.le_refl _, Int.le_refl _⟩
        obtain ⟨v0, hv0⟩ := gE_x (l := vs) (i := 0) (by omega)
        obtain ⟨x0, hx0⟩ := gE_x (l := tl.take g) (i := 0) (by omega)
        have q0 := x5 0 x0 v0 hx0 hv0
        have pos0 := (hxt 0 x0 hx0).1
        rw [show (T x0).toNat = (T x0 - 1).toNat + 1 by omega, show b + ((0 : Nat) : Int) = b by omega] at q0
        have h5 := rv_x (by omega) q0
        have e0 : vs.getD 0 (nmF 0) = v0 := by rw [List.getD_eq_getElem?_getD, hv0, Option.getD_some]
        obtain ⟨m5, rfl⟩ : ∃ m', m5 = m' + 1 := ⟨m5 - 1, by omega⟩
        refine rx_g (by omega) d2 (fun Qz hz => gt_each X5 t2 d3 ⟨a6.1, by omega⟩ T5.1 hk (ge_end (d := (T bd).toNat) (acc := acc) (p := ((itF (vs.getD 0 (nmF 0))).length : Int)) X5 t2 ⟨a6.1, by omega⟩ hgl (by omega) T5 (by unfold nB; omega) ⟨a6.2.1, by omega⟩ (by omega) h5.1 p5 (by rw [e0]; exact h5.2.1) d4 l200 (by omega) (by omega) y5 ⟨⟨by omega, by omega⟩, by omega, by omega⟩ (fun σ68 σ73 σ89 e68 nx f73 ex89 g56 g60 rv89 f89 => ?_)))
        have f68 : sg_F [129] σ5 σ68 := by rw [e68]; exact sg_F_w (sg_F_r _ _) rfl _
        have x68 : nEx σ5 σ68 := nEx_F f68 rfl
        have r68 : sg_R (1 + s1 + sg_g σ5 132 fr) := ⟨by omega, by omega⟩
        have g129 : sg_g σ68 129 fr = 1 + s1 + bs := by rw [e68, sg_gw_e _ _ _ _ r68, q5]
        have o129 : ∀ i, ¬ i = fr → sg_g σ68 129 i = sg_g σ5 129 i := fun i hi => by rw [e68, sg_gw_k _ _ _ _ _ _ hi]
        have F89 : sg_F [122, 123, 124, 125, 57088, 61088] σ68 σ89 := sg_F_t (sg_F_m f73 rfl) (sg_F_m f89 rfl)
        have x6889 : nEx σ68 σ89 := nEx_t nx.1 ex89
        have V68 : gV A D T σ5 σ68 ρ2 ρ2 fr b := ⟨x68, fun y _ => sg_F_ga f68 rfl, fun y hy => rlR_up hy x68 (sg_F_ga f68 rfl), fun i hi => ⟨sg_F_ga f68 rfl, sg_F_ga f68 rfl, sg_F_ga f68 rfl, o129 i (by omega), sg_F_ga f68 rfl, sg_F_ga f68 rfl, sg_F_ga f68 rfl⟩⟩
        have V89 : gV A D T σ68 σ89 ρ2 ρ2 fr b := gV_F F89 x6889 rfl
        have V := gV_t V15 (gV_t V68 V89 (fr := fr) (b := b) ⟨Int.le_refl _, Int.le_refl _⟩ ⟨Int.le_refl _, Int.le_refl _⟩) (fr := fr) (b := b) ⟨Int.le_refl _, Int.le_refl _⟩ ⟨Int.le_refl _, Int.le_refl _⟩
        have h56 : sg_g σ89 88 56 = sg_g σ5 88 56 + 1 := by rw [g56, nx.2.1, sg_F_g f68 (by rfl)]
        have h60 : sg_g σ89 88 60 = sg_g σ5 88 60 + acc.length := by rw [g60, nx.2.2.1, sg_F_g f68 (by rfl)]
        have cl := cnL_l (T bd).toNat acc
        have cb := rv_cn rv89
        have cB3 := cB_3 (k := (T bd).toNat + 1) (by omega)
        rw [cnF_mk] at cb
        have r89 := rv_x (by omega) rv89
        rw [cnF_mk] at r89
        rw [show (T n - 1).toNat = (T bd).toNat by omega, show (T n).toNat = (T bd).toNat + 1 by omega] at k
        refine gl_leave (σ := σ) (K := 15) (c := cnL (T bd).toNat acc) (w := w2') (sp := 1 + s1 + bs) (cr := cr) (m := m5) (ρ2 := ρ2) (s := g + 1) hX a1 t2 (sg_F_t (sg_F_t d1 (sg_F_m f68 rfl)) (sg_F_m F89 rfl)) (by rw [sg_F_g F89 (by rfl), sg_F_g f68 (by rfl)]; exact d2) (by rw [sg_F_g F89 (by rfl), sg_F_g f68 (by rfl)]; exact d3) (by rw [sg_F_g F89 (by rfl), sg_F_g f68 (by rfl)]; exact d5) ⟨a6.1, by omega, by omega⟩ d7 a6.2.1 (by omega) ⟨by rw [sg_F_ga F89 rfl, sg_F_ga f68 rfl]; exact T5.1, by rw [sg_F_ga F89 rfl, sg_F_ga f68 rfl]; exact T5.2.1, by rw [sg_F_ga F89 rfl, sg_F_ga f68 rfl]; exact T5.2.2.1, by rw [sg_F_ga F89 rfl]; exact g129⟩ ⟨by omega, by omega⟩ (P_up hP (by omega)) V (sg_Rg _ _ _) rv89 hk (Or.inr (Or.inl ⟨by decide, by decide, r89.1, r89.2.2.2⟩)) ⟨by omega, by omega⟩ (by omega) (by omega) (by omega) (kG_pay k rfl) (fun σ' hR _ _ _ => hz σ' hR)
end GNE
section GNA
variable {A : aT} {D : List aDf} {T B : Int → Int} {σb : sg_S} {X : sg_S → Prop}
theorem gN_all {call : Int → eV → Int → eR} {jd : Nat} (hX : pgX σb A D T B) (hgC : gB call) (hC : ∀ q : Nat, q < jd → cLr A D T σb X call q) : ∀ f, gxN A D T σb X B call (kDl (D.take jd) []) f
  | 0 => fun n sc hty => hty.elim
  | f + 1 => fun n sc hty σ m ρ fr b w cr hS hP hs hm hcr k Q hQ => by
    have F := gN_all hX hgC hC f
    have hB := eN_b (A := A) (T := T) (B := B) hgC f
    have r := hty.1.1
    by_cases c2 : A.2.1 n = 2
    · exact gN_let hX hB F c2 hty hS hP hs hm hcr k Q hQ
    by_cases c3 : A.2.1 n = 3
    · exact gN_if hX hB F c3 hty hS hP hs hm hcr k Q hQ
    by_cases c13 : A.2.1 n = 13
    · exact gN_call hX hB hgC hC F c13 hty hS hP hs hm hcr k Q hQ
    by_cases c15 : A.2.1 n = 15
    · exact gN_each hX hB F c15 hty hS hP hs hm hcr k Q hQ
    exact gN_op hX hB F (by omega) hty hS hP hs hm hcr k Q hQ
set_option maxRecDepth 10000 in
theorem cLr_all (hX : pgX σb A D T B) : ∀ (q k : Nat), q < k → cLr A D T σb X (eC A D T B k) q := by
  intro q
  induction q using Nat.strongRecOn with
  | ind q ih =>
    intro k hqk x hx σ m ρ fr b w cr hS hP hv hm hcr kk Q hQ
    have ty := hX.2.2.2.2.2 q x hx
    rw [eC_e A D T B k q hqk, List.getD_eq_getElem?_getD, hx, Option.getD_some] at kk
    refine gN_all (jd := q) hX (eC_b A D T B q) (fun q' h => ih q' h q h) 201 x.2.2.2 _ ty σ m ρ fr b w cr hS hP (fun p hp => ?_) hm hcr kk Q hQ
    have hp' : p ∈ scZ (x.2.2.1.reverse.map (fun p => (p.1, p.2.2)) ++ []) (kPb (q : Int) 0 x.2.2.1 []) := by rw [List.append_nil]; exact hp
    rcases scZ_p x.2.2.1 0 [] [] p hp' with ⟨j, y, hy, rfl⟩ | h
    · have hj := gE_l hy
      have l6 := ((hX.2.1).2.2 q x hx).2.2.2.2.1
      have q12 := (hX.2.1).2.1
      have ql := gE_l hx
      simp only [Nat.zero_add]
      exact ⟨⟨by clear kk; omega, by clear kk; omega⟩, (bTy_p hx hy (by omega)).symm, hv j hj⟩
    · simp [scZ] at h
end GNA
/-! nested() of the reference, exactly. -/
abbrev nsL : List Nat := [122, 123, 124, 125, 126, 127, 128, 129, 130, 131, 132, 133, 134, 135, 1088, 52088, 53088, 55088, 56088, 57088, 61088, 63088, 71088, 74088]
abbrev shL : List Nat := [136, 137, 138, 77088, 79088]
/-- what a run's end is to be followed by: the answer and what is shown -/
def kNs (σ : sg_S) (Q : Int → sg_S → Prop) (d : Nat) : eR → Prop
  | .inl (e, w') => ∀ σ37 σ50, sg_F nsL σ σ37 → sg_g σ37 88 73 = e → ¬ e = 0 → sg_g σ37 88 54 = w' → sg_g σ37 88 52 = sg_g σ 88 52 + 1 → sg_g σ37 88 51 = 1 → σ50 = sg_w σ37 88 53 (sg_g σ37 88 73) → V_showNested σ50 (fun σ54 => sg_F shL σ50 σ54 → Q (sg_g σ37 88 73) σ54)
  | .inr (v, w', s', _) => ∀ σ37 σ50, sg_F nsL σ σ37 → sg_g σ37 88 73 = 0 → sg_g σ37 88 54 = w' → sg_g σ37 88 55 = s' → sg_g σ37 88 52 = sg_g σ 88 52 + 1 → sg_g σ37 88 51 = 1 → (sg_g σ37 88 56 ≤ 9000 ∧ sg_g σ37 88 60 ≤ 12000) → rvF σ37 d v (sg_g σ37 133 0) → σ50 = sg_w σ37 88 53 (sg_g σ37 88 73) → V_showNested σ50 (fun σ54 => sg_F shL σ50 σ54 → Q (sg_g σ37 88 73) σ54)
set_option maxRecDepth 10000 in
theorem x_nested {σ : sg_S} {A : aT} {D : List aDf} {T B : Int → Int} {r : Int} {Q : Int → sg_S → Prop} (h0 : sg_g σ 88 28 = 0 → ∀ σ1, σ1 = sg_w σ 88 0 0 → Q (-4) σ1) (h20 : ¬ sg_g σ 88 28 = 0 → sg_g σ 88 52 = 20 → ∀ σ1, σ1 = sg_w σ 88 0 0 → Q (-3) σ1) (hR : ¬ sg_g σ 88 28 = 0 → pgX σ A D T B ∧ sg_g σ 88 27 = r ∧ tyN A (kDl D []) T B 201 [] r) (h52 : 0 ≤ sg_g σ 88 52 ∧ sg_g σ 88 52 ≤ 20) (kc : ¬ sg_g σ 88 28 = 0 → ¬ sg_g σ 88 52 = 20 → kNs σ Q (T r).toNat (evN A T B (eC A D T B D.length) 201 r (fun _ => nmF 0) 0)) : V_nested σ Q := by
  unfold V_nested
  intro σ1 e1
  refine ⟨fun th => ⟨fun n20 => ⟨⟨by omega, by omega⟩, ?_⟩, fun h => h20 th h σ1 e1⟩, fun h => h0 h σ1 e1⟩
  obtain ⟨hX, e27, hr⟩ := hR th
  have kc := kc th n20
  intro σ7 e7 σ10 e10 σ13 e13 σ16 e16 σ19 e19 σ22 e22 σ25 e25 σ28 e28
  have F28 : sg_F [1088, 52088, 53088, 55088, 57088, 61088, 63088, 71088, 74088] σ σ28 := by
    rw [e28, e25, e22, e19, e16, e13, e10, e7, e1]
    exact sg_F_w (sg_F_w (sg_F_w (sg_F_w (sg_F_w (sg_F_w (sg_F_w (sg_F_w (sg_F_w (sg_F_r _ _) rfl _) rfl _) rfl _) rfl _) rfl _) rfl _) rfl _) rfl _) rfl _
  have w52 : sg_g σ28 88 52 = sg_g σ 88 52 + 1 := by
    rw [e28, sg_gw_k _ _ _ _ _ _ (by decide), e25, sg_gw_k _ _ _ _ _ _ (by decide), e22, sg_gw_k _ _ _ _ _ _ (by decide), e19, sg_gw_k _ _ _ _ _ _ (by decide), e16, sg_gw_k _ _ _ _ _ _ (by decide), e13, sg_gw_k _ _ _ _ _ _ (by decide), e10, sg_gw_k _ _ _ _ _ _ (by decide), e7, sg_gw_e _ _ _ _ ⟨by omega, by omega⟩]
  have w51 : sg_g σ28 88 51 = 1 := by
    rw [e28, sg_gw_k _ _ _ _ _ _ (by decide), e25, sg_gw_k _ _ _ _ _ _ (by decide), e22, sg_gw_k _ _ _ _ _ _ (by decide), e19, sg_gw_k _ _ _ _ _ _ (by decide), e16, sg_gw_k _ _ _ _ _ _ (by decide), e13, sg_gw_k _ _ _ _ _ _ (by decide), e10, sg_gw_e _ _ _ _ (by decide)]
  have w54 : sg_g σ28 88 54 = 0 := by
    rw [e28, sg_gw_k _ _ _ _ _ _ (by decide), e25, sg_gw_k _ _ _ _ _ _ (by decide), e22, sg_gw_k _ _ _ _ _ _ (by decide), e19, sg_gw_k _ _ _ _ _ _ (by decide), e16, sg_gw_k _ _ _ _ _ _ (by decide), e13, sg_gw_e _ _ _ _ (by decide)]
  have w56 : sg_g σ28 88 56 = 0 := by
    rw [e28, sg_gw_k _ _ _ _ _ _ (by decide), e25, sg_gw_k _ _ _ _ _ _ (by decide), e22, sg_gw_k _ _ _ _ _ _ (by decide), e19, sg_gw_k _ _ _ _ _ _ (by decide), e16, sg_gw_e _ _ _ _ (by decide)]
  have w60 : sg_g σ28 88 60 = 0 := by
    rw [e28, sg_gw_k _ _ _ _ _ _ (by decide), e25, sg_gw_k _ _ _ _ _ _ (by decide), e22, sg_gw_k _ _ _ _ _ _ (by decide), e19, sg_gw_e _ _ _ _ (by decide)]
  have w62 : sg_g σ28 88 62 = 0 := by
    rw [e28, sg_gw_k _ _ _ _ _ _ (by decide), e25, sg_gw_k _ _ _ _ _ _ (by decide), e22, sg_gw_e _ _ _ _ (by decide)]
  have w70 : sg_g σ28 88 70 = 0 := by
    rw [e28, sg_gw_k _ _ _ _ _ _ (by decide), e25, sg_gw_e _ _ _ _ (by decide)]
  have w73 : sg_g σ28 88 73 = 0 := by rw [e28, sg_gw_e _ _ _ _ (by decide)]
  have hX28 : pgX σ28 A D T B := pgX_F F28 rfl hX
  have F37 : ∀ σ37, sg_F goL σ28 σ37 → sg_F nsL σ σ37 ∧ sg_g σ37 88 52 = sg_g σ 88 52 + 1 ∧ sg_g σ37 88 51 = 1 := fun σ37 f => ⟨sg_F_t (sg_F_m F28 rfl) (sg_F_m f rfl), (sg_F_g f (by rfl)).trans w52, (sg_F_g f (by rfl)).trans w51⟩
  rw [e27]
  -- what the loop's end is followed by
  obtain ⟨X, hXd⟩ : ∃ X : sg_S → Prop, X = fun σ37 => ∀ σ50, σ50 = sg_w σ37 88 53 (sg_g σ37 88 73) → V_showNested σ50 (fun σ54 => sg_F shL σ50 σ54 → Q (sg_g σ37 88 73) σ54) := ⟨_, rfl⟩
  have hr' : tyN A (kDl (D.take D.length) []) T B 201 [] r := by rw [List.take_of_length_le (Nat.le_refl _)]; exact hr
  refine gN_all (jd := D.length) (X := X) hX28 (eC_b A D T B D.length) (fun q hq => cLr_all hX28 q D.length hq) 201 r [] hr' σ28 24008 (fun _ => nmF 0) 0 0 0 0 ⟨sg_F_r _ _, w73, ⟨w62, w70, w54⟩, ⟨by decide, by decide, by clear kc; omega, by clear kc; omega⟩, ⟨by decide, by decide⟩, by clear kc; omega, by clear kc; omega, by decide⟩ (fun z => absurd rfl z) (fun p hp => by cases hp) (by decide) (by decide) ?_ _ (fun σ32 hRx _ => ?_)
  · generalize evN A T B (eC A D T B D.length) 201 r (fun _ => nmF 0) 0 = rr at kc
    match rr, kc with
    | .inl (e, w'), kc =>
      intro σ' f' h1 h2 h3
      obtain ⟨y1, y2, y3⟩ := F37 σ' f'
      rw [hXd]
      exact fun σ50 e50 => kc σ' σ50 y1 h1 h2 h3 y2 y3 e50
    | .inr (v, w', s', ρ'), kc =>
      intro σ' m' S' U' v' _
      obtain ⟨a1, a2, ⟨a3, a4, a5⟩, a6, a7, a8, a9, a10⟩ := S'
      obtain ⟨y1, y2, y3⟩ := F37 σ' a1
      refine rx_e (by omega) ?_
      rw [hXd]
      exact fun σ50 e50 => kc σ' σ50 y1 a2 a5 (U'.2.2.2.2.2 rfl) y2 y3 ⟨by omega, by omega⟩ v' e50
  · refine ⟨fun n σ37 => Rx X n σ37, X, ⟨24008, hRx⟩, ?_, ?_⟩
    · rintro n σ37 f37 hI
      cases n with
      | zero =>
        obtain ⟨y1, y2, y3⟩ := hI
        exact ⟨y1, fun z => ⟨y2, fun z2 => (y3 z z2).elim⟩⟩
      | succ n =>
        obtain ⟨y1, y2, y3⟩ := hI
        exact ⟨y1, fun z => ⟨y2, fun z2 => y3 z z2 _ (fun σ' h => ⟨n, Nat.lt_succ_self n, h⟩)⟩⟩
    · rintro σ37 f37 hx σ50 e50
      rw [hXd] at hx
      exact hx σ50 e50
/-! THE CHECKER a third time: which slot a NAME has, which DEF a call, where the orders jump to. -/
/-- names known, the newest first: word and slot -/
def kmE (σ : sg_S) : Int → kE → Prop
  | n, [] => n = 0
  | n, x :: r => 0 < n ∧ sg_gl σ 39 (n - 1) = uv x.1 ∧ sg_g σ 40 (n - 1) = x.2 ∧ wv x.1 ∧ kmE σ (n - 1) r
theorem kmE_n {σ : sg_S} : ∀ {n : Int} {l : kE}, kmE σ n l → n = l.length
  | n, [], h => by simp only [kmE] at h; simp [h]
  | n, x :: r, h => by have := kmE_n h.2.2.2.2; simp only [List.length_cons]; omega
theorem kmE_e {σ σ' : sg_S} : ∀ {n : Int} {l : kE}, kmE σ n l → (∀ j, 0 ≤ j → j < n → sg_g σ' 40 j = sg_g σ 40 j ∧ sg_gl σ' 39 j = sg_gl σ 39 j) → kmE σ' n l
  | n, [], h, _ => h
  | n, x :: r, h, hj => by
    obtain ⟨a1, a2, a3, a4, a5⟩ := h
    have e := hj (n - 1) (by omega) (by omega)
    exact ⟨a1, by rw [e.2]; exact a2, by rw [e.1]; exact a3, a4, kmE_e a5 (fun j x y => hj j x (by omega))⟩
theorem kmE_F {L : List Nat} {σ σ' : sg_S} {n : Int} {e : kE} (h : kmE σ n e) (f : sg_F L σ σ') (hL : (sg_ca L 39 && sg_ca L 40) = true) : kmE σ' n e := by
  simp only [Bool.and_eq_true] at hL
  exact kmE_e h (fun j _ _ => ⟨sg_F_ga f hL.2, sg_F_gal f hL.1⟩)
def kS3 (σ : sg_S) (es : kE) (e b p : Int) : Prop := sg_g σ 38 13 = 0 ∧ (sg_g σ 38 9 = e ∧ sg_g σ 38 10 = b ∧ sg_g σ 28 6 = p) ∧ kmE σ e es ∧ (0 ≤ e ∧ 0 ≤ b ∧ 0 ≤ p)
theorem kS3_F {L : List Nat} {σ σ' : sg_S} {es : kE} {e b p : Int} (h : kS3 σ es e b p) (f : sg_F L σ σ') (hL : (sg_ca L 39 && sg_ca L 40 && !sg_cv L 38 13 && !sg_cv L 38 9 && !sg_cv L 38 10 && !sg_cv L 28 6) = true) : kS3 σ' es e b p := by
  simp only [Bool.and_eq_true, Bool.not_eq_true'] at hL
  obtain ⟨⟨⟨⟨⟨l1, l2⟩, l3⟩, l4⟩, l5⟩, l6⟩ := hL
  obtain ⟨s1, ⟨s2, s3, s4⟩, s5, s6⟩ := h
  exact ⟨by rw [sg_F_g f l3]; exact s1, ⟨by rw [sg_F_g f l4]; exact s2, by rw [sg_F_g f l5]; exact s3, by rw [sg_F_g f l6]; exact s4⟩, kmE_F s5 f (by rw [l1, l2]; rfl), s6⟩
/-- what stays -/
def kU3 (σ σ' : sg_S) (e b p : Int) (L : List Int) : Prop := (∀ x, x ∉ L → (sg_g σ' 6 x = sg_g σ 6 x ∧ sg_g σ' 16 x = sg_g σ 16 x ∧ sg_g σ' 32 x = sg_g σ 32 x ∧ sg_g σ' 33 x = sg_g σ 33 x) ∧ sg_g σ' 41 x = sg_g σ 41 x ∧ sg_g σ' 42 x = sg_g σ 42 x ∧ sg_g σ' 43 x = sg_g σ 43 x ∧ sg_g σ' 44 x = sg_g σ 44 x) ∧ (∀ s, s < b → sg_g σ' 34 s = sg_g σ 34 s) ∧ (∀ i, i < e → sg_g σ' 40 i = sg_g σ 40 i ∧ sg_gl σ' 39 i = sg_gl σ 39 i) ∧ ∀ i, i < p → sg_g σ' 29 i = sg_g σ 29 i ∧ sg_g σ' 30 i = sg_g σ 30 i
theorem kU3_r (σ : sg_S) (e b p : Int) (L : List Int) : kU3 σ σ e b p L := ⟨fun _ _ => ⟨⟨rfl, rfl, rfl, rfl⟩, rfl, rfl, rfl, rfl⟩, fun _ _ => rfl, fun _ _ => ⟨rfl, rfl⟩, fun _ _ => ⟨rfl, rfl⟩⟩
theorem kU3_t {σ σ1 σ2 : sg_S} {e b p e1 b1 p1 e2 b2 p2 : Int} {L L1 L2 : List Int} (h : kU3 σ σ1 e1 b1 p1 L1) (g : kU3 σ1 σ2 e2 b2 p2 L2) (he : e ≤ e1 ∧ e ≤ e2) (hb : b ≤ b1 ∧ b ≤ b2) (hp : p ≤ p1 ∧ p ≤ p2) (h1 : ∀ x ∈ L1, x ∈ L) (h2 : ∀ x ∈ L2, x ∈ L) : kU3 σ σ2 e b p L := by
  obtain ⟨a1, a2, a3, a4⟩ := h
  obtain ⟨c1, c2, c3, c4⟩ := g
  refine ⟨fun x hx => ?_, fun s hs => by rw [c2 s (by omega), a2 s (by omega)], fun i hi => ?_, fun i hi => ?_⟩
  · obtain ⟨⟨x1, x2, x7, x8⟩, x3, x4, x5, x6⟩ := a1 x (fun z => hx (h1 x z))
    obtain ⟨⟨y1, y2, y7, y8⟩, y3, y4, y5, y6⟩ := c1 x (fun z => hx (h2 x z))
    exact ⟨⟨y1.trans x1, y2.trans x2, y7.trans x7, y8.trans x8⟩, y3.trans x3, y4.trans x4, y5.trans x5, y6.trans x6⟩
  · obtain ⟨x1, x2⟩ := a3 i (by omega)
    obtain ⟨y1, y2⟩ := c3 i (by omega)
    exact ⟨y1.trans x1, y2.trans x2⟩
  · obtain ⟨x1, x2⟩ := a4 i (by omega)
    obtain ⟨y1, y2⟩ := c4 i (by omega)
    exact ⟨y1.trans x1, y2.trans x2⟩
/-- where an order at place q of the plan lets its node jump to -/
def jQ3 (σ σ' : sg_S) (o x q : Int) : Prop := (∀ y, sg_g σ' 32 y = if (o = 8 ∨ o = 10) ∧ y = x then q else sg_g σ 32 y) ∧ ∀ y, sg_g σ' 33 y = if (o = 9 ∨ o = 12) ∧ y = x then q else sg_g σ 33 y
theorem jQ_n {σ σ' : sg_S} {o x q : Int} (h : jQ3 σ σ' o x q) (y : Int) (hy : ¬ y = x) : sg_g σ' 32 y = sg_g σ 32 y ∧ sg_g σ' 33 y = sg_g σ 33 y := ⟨by rw [h.1, if_neg (fun z => hy z.2)], by rw [h.2, if_neg (fun z => hy z.2)]⟩
section CK2T
variable {σ : sg_S} {Q : sg_S → Prop}
theorem d3_add {o x p : Int} (hp : sg_g σ 28 6 = p) (h0 : 0 ≤ p ∧ p < 1013) (ho : sg_R o) (hx : sg_R x) (hx2 : (o = 8 ∨ o = 9 ∨ o = 10 ∨ o = 12) → 0 ≤ x ∧ x < 200) (k : ∀ σ', sg_F [29, 30, 32, 33, 7028] σ σ' → sg_g σ' 28 6 = p + 1 → sg_g σ' 29 p = o → sg_g σ' 30 p = x → (∀ i, ¬ i = p → sg_g σ' 29 i = sg_g σ 29 i ∧ sg_g σ' 30 i = sg_g σ 30 i) → jQ3 σ σ' o x (p + 1) → Q σ') : V_kpAdd σ o x Q := by
  unfold V_kpAdd
  intro σ1 e1 σ4 e4 σ7 e7
  rw [hp, xp_in h0] at e1
  rw [hp, xp_in h0] at e4
  have rp : sg_R (p + 1) := ⟨by omega, by omega⟩
  have sn : sg_n (p + 1) = p + 1 := sg_id rp
  rw [hp, sn] at e7 ⊢
  have f7 : sg_F [29, 30, 7028] σ σ7 := by rw [e7, e4, e1]; exact sg_F_w (sg_F_w (sg_F_w (sg_F_r _ _) rfl _) rfl _) rfl _
  have g6 : sg_g σ7 28 6 = p + 1 := by rw [e7, sg_gw_e _ _ _ _ ⟨by omega, by omega⟩]
  have g29 : sg_g σ7 29 p = o := by rw [e7, sg_gw_c _ _ _ _ _ _ (by decide), e4, sg_gw_c _ _ _ _ _ _ (by decide), e1, sg_gw_e _ _ _ _ ho]
  have g30 : sg_g σ7 30 p = x := by rw [e7, sg_gw_c _ _ _ _ _ _ (by decide), e4, sg_gw_e _ _ _ _ hx]
  have gi : ∀ i, ¬ i = p → sg_g σ7 29 i = sg_g σ 29 i ∧ sg_g σ7 30 i = sg_g σ 30 i := fun i hi => by
    constructor
    · rw [e7, sg_gw_c _ _ _ _ _ _ (by decide), e4, sg_gw_c _ _ _ _ _ _ (by decide), e1, sg_gw_k _ _ _ _ _ _ hi]
    · rw [e7, sg_gw_c _ _ _ _ _ _ (by decide), e4, sg_gw_k _ _ _ _ _ _ hi, e1, sg_gw_c _ _ _ _ _ _ (by decide)]
  have fin : ∀ σ', sg_F [32, 33] σ7 σ' → jQ3 σ7 σ' o x (p + 1) → Q σ' := fun σ' f hj => k σ' (sg_F_t (sg_F_m f7 rfl) (sg_F_m f rfl)) (by rw [sg_F_g f (by rfl)]; exact g6) (by rw [sg_F_ga f rfl]; exact g29) (by rw [sg_F_ga f rfl]; exact g30) (fun i hi => by rw [sg_F_ga f rfl, sg_F_ga f rfl]; exact gi i hi) ⟨fun y => by rw [hj.1, sg_F_ga f7 rfl], fun y => by rw [hj.2, sg_F_ga f7 rfl]⟩
  have w32 : (o = 8 ∨ o = 10) → ∀ σ', σ' = sx_put σ7 32 200 x (p + 1) → Q σ' := fun c σ' e => by
    have x2 := hx2 (by omega)
    rw [xp_in x2] at e
    refine fin σ' (by rw [e]; exact sg_F_w (sg_F_r _ _) rfl _) ⟨fun y => ?_, fun y => ?_⟩
    · by_cases cy : y = x
      · rw [if_pos ⟨c, cy⟩, cy, e, sg_gw_e _ _ _ _ rp]
      · rw [if_neg (fun z => cy z.2), e, sg_gw_k _ _ _ _ _ _ cy]
    · rw [if_neg (fun z => by omega), e, sg_gw_c _ _ _ _ _ _ (by decide)]
  have w33 : (o = 9 ∨ o = 12) → ∀ σ', σ' = sx_put σ7 33 200 x (p + 1) → Q σ' := fun c σ' e => by
    have x2 := hx2 (by omega)
    rw [xp_in x2] at e
    refine fin σ' (by rw [e]; exact sg_F_w (sg_F_r _ _) rfl _) ⟨fun y => ?_, fun y => ?_⟩
    · rw [if_neg (fun z => by omega), e, sg_gw_c _ _ _ _ _ _ (by decide)]
    · by_cases cy : y = x
      · rw [if_pos ⟨c, cy⟩, cy, e, sg_gw_e _ _ _ _ rp]
      · rw [if_neg (fun z => cy z.2), e, sg_gw_k _ _ _ _ _ _ cy]
  exact ⟨fun c σ11 e11 => w32 (Or.inl c) σ11 e11, fun c8 => ⟨fun c10 => ⟨fun c σ16 e16 => w33 (Or.inl c) σ16 e16, fun c9 => ⟨fun c12 => fin σ7 (sg_F_r _ _) ⟨fun y => by rw [if_neg (fun z => by omega)], fun y => by rw [if_neg (fun z => by omega)]⟩, fun c σ20 e20 => w33 (Or.inr c) σ20 e20⟩⟩, fun c σ23 e23 => w32 (Or.inr c) σ23 e23⟩⟩
theorem d3_bind {Q : Int → sg_S → Prop} {es : kE} {w ty e b : Int} (hE : kmE σ e es) (he : sg_g σ 38 9 = e) (hb : sg_g σ 38 10 = b) (h0 : (0 ≤ e ∧ e < 272) ∧ 0 ≤ b ∧ b < 272) (hw : wv w) (hr : sg_RL (uv w)) (ht : sg_R ty) (k : ∀ σ', sg_F [34, 39, 40, 10038, 11038] σ σ' → sg_g σ' 38 9 = e + 1 → sg_g σ' 38 10 = b + 1 → kmE σ' (e + 1) ((w, b) :: es) → (∀ i, ¬ i = e → sg_g σ' 40 i = sg_g σ 40 i ∧ sg_gl σ' 39 i = sg_gl σ 39 i) → sg_g σ' 34 b = ty → (∀ i, ¬ i = b → sg_g σ' 34 i = sg_g σ 34 i) → Q b σ') : V_kBind σ (uv w) ty Q := by
  unfold V_kBind
  rw [hb, he]
  refine ⟨⟨by omega, by omega⟩, fun σ2 e2 σ5 e5 σ8 e8 => ⟨⟨by omega, by omega⟩, fun σ12 e12 σ15 e15 => ?_⟩⟩
  rw [xpl_in h0.1] at e5
  rw [xp_in h0.1] at e8
  rw [xp_in h0.2] at e15
  have o40 : ∀ i, ¬ i = e → sg_g σ15 40 i = sg_g σ 40 i ∧ sg_gl σ15 39 i = sg_gl σ 39 i := fun i hi => by
    constructor
    · rw [e15, sg_gw_c _ _ _ _ _ _ (by decide), e12, sg_gw_c _ _ _ _ _ _ (by decide), e8, sg_gw_k _ _ _ _ _ _ hi, e5, sg_gwl', e2, sg_gw_c _ _ _ _ _ _ (by decide)]
    · rw [e15, sg_gw', e12, sg_gw', e8, sg_gw', e5, sg_gwl_k _ _ _ _ _ _ hi, e2, sg_gw']
  refine k σ15 ?_ ?_ ?_ ?_ o40 ?_ (fun i hi => ?_)
  · rw [e15, e12, e8, e5, e2]
    exact sg_F_w (sg_F_w (sg_F_w (sg_F_wl (sg_F_w (sg_F_r _ _) rfl _) rfl _) rfl _) rfl _) rfl _
  · rw [e15, sg_gw_c _ _ _ _ _ _ (by decide), e12, sg_gw_e _ _ _ _ ⟨by omega, by omega⟩]
  · rw [e15, sg_gw_c _ _ _ _ _ _ (by decide), e12, sg_gw_k _ _ _ _ _ _ (by decide), e8, sg_gw_c _ _ _ _ _ _ (by decide), e5, sg_gwl', e2, sg_gw_e _ _ _ _ ⟨by omega, by omega⟩]
  · refine ⟨by omega, ?_, ?_, hw, ?_⟩
    · rw [show e + 1 - 1 = e by omega, e15, sg_gw', e12, sg_gw', e8, sg_gw', e5, sg_gwl_e _ _ _ _ hr]
    · rw [show e + 1 - 1 = e by omega, e15, sg_gw_c _ _ _ _ _ _ (by decide), e12, sg_gw_c _ _ _ _ _ _ (by decide), e8, sg_gw_e _ _ _ _ ⟨by omega, by omega⟩]
    · rw [show e + 1 - 1 = e by omega]
      exact kmE_e hE (fun j _ hj => o40 j (by omega))
  · rw [e15, sg_gw_e _ _ _ _ ht]
  · rw [e15, sg_gw_k _ _ _ _ _ _ hi, e12, sg_gw_c _ _ _ _ _ _ (by decide), e8, sg_gw_c _ _ _ _ _ _ (by decide), e5, sg_gwl', e2, sg_gw_c _ _ _ _ _ _ (by decide)]
theorem d3_find {Q : Int → sg_S → Prop} {es : kE} {w e : Int} (hE : kmE σ e es) (he : sg_g σ 38 9 = e) (h0 : 0 ≤ e ∧ e ≤ 272) (hw : wv w) (k1 : kFind es w = none → Q (-1) σ) (k2 : ∀ s, kFind es w = some s → Q s σ) : V_kFind σ (uv w) Q := by
  have hn := kmE_n hE
  unfold V_kFind
  rw [he]
  intro v1 e1 r1
  rw [if_neg (by omega)] at e1
  rw [e1]
  refine ⟨⟨by omega, by omega⟩, fun n v => n = (v + 1).toNat ∧ -1 ≤ v ∧ v < e ∧ ∃ r, kmE σ (v + 1) r ∧ kFind r w = kFind es w, kFind es w = none, ⟨_, rfl, by omega, by omega, es, by rw [show e - 1 + 1 = e by omega]; exact hE, rfl⟩, ?_, k1⟩
  rintro n v rv ⟨en, h1, h2, r, hp, hf⟩
  have hrn := kmE_n hp
  refine ⟨fun hv => ?_, fun hv => ?_⟩
  · cases r with
    | nil => rw [← hf]; rfl
    | cons x r => simp only [List.length_cons] at hrn; omega
  · rw [xl_in ⟨hv, by omega⟩]
    cases r with
    | nil => simp at hrn; omega
    | cons x r =>
      obtain ⟨p1, p2, p3, p5, p6⟩ := hp
      rw [show v + 1 - 1 = v by omega] at p2 p3 p6
      rw [p2]
      refine ⟨fun hne => ⟨⟨by omega, by omega⟩, _, ?_, rfl, by omega, by omega, r, by rw [show v + -1 + 1 = v by omega]; exact p6, ?_⟩, fun hq => ?_⟩
      · omega
      · rw [← hf, kFind, if_neg (fun z => hne (by rw [z]))]
      · have hx := uv_inj p5 hw hq
        rw [xa_in ⟨hv, by omega⟩]
        refine k2 _ ?_
        rw [← hf, kFind, if_pos hx, p3]
/-- the place of a DEF among those that may be called -/
theorem dsC_x {w : Int} : ∀ {n : Int} {l : kD} {q : Int}, dsC σ n l → wv w → 0 ≤ q → q < n → sg_gl σ 20 q = uv w → kDx l w = some q
  | n, [], q, h, hw, a, b, e => by simp only [dsC] at h; omega
  | n, x :: r, q, h, hw, a, b, e => by
    obtain ⟨b1, b2, b3, b4, b5, b6⟩ := id h
    have hn := dsC_n b6
    unfold kDx
    by_cases c : q = n - 1
    · subst c
      have := uv_inj b3 hw (b2.symm.trans e)
      rw [if_pos this]
      rw [hn]
    · have ih := dsC_x b6 hw a (by omega) e
      by_cases cw : x.1 = w
      · obtain ⟨y, y1, y2, y3, y4⟩ := dsC_at b6 q a (by omega)
        have := uv_inj y2 hw (y1.symm.trans e)
        rw [cw, ← this, y4] at b5
        cases b5
      · rw [if_neg cw]; exact ih
theorem d3_dfind {Q : Int → sg_S → Prop} {ds : kD} {w n : Int} (h : dsC σ n ds) (hl : ds.length ≤ 12) (hw : wv w) (k1 : kDef ds w = none → Q (-1) σ) (k2 : ∀ q x, kDef ds w = some x → kDx ds w = some q → 0 ≤ q → q < n → q < 12 → dcQ σ q x → Q q σ) : V_kdFind σ (uv w) n Q := by
  have hn := dsC_n h
  unfold V_kdFind
  refine ⟨fun m v => m = (n - v).toNat ∧ 0 ≤ v ∧ v ≤ n ∧ ∀ j, 0 ≤ j → j < v → ¬ sg_gl σ 20 j = uv w, kDef ds w = none, ⟨_, rfl, Int.le_refl _, by omega, fun j a b => by omega⟩, ?_, k1⟩
  rintro m v rv ⟨em, v0, v1, hj⟩
  have no : n ≤ v → kDef ds w = none := fun c => by
    cases hk : kDef ds w with
    | none => rfl
    | some y =>
      obtain ⟨q, a, b, cc⟩ := dsC_ex h hk
      exact absurd cc (hj q a (by omega))
  refine ⟨no, fun c => ⟨fun c2 => by omega, fun c2 => ?_⟩⟩
  rw [xl_in ⟨v0, c2⟩]
  refine ⟨fun hne => ⟨⟨by omega, by omega⟩, _, ?_, rfl, by omega, by omega, fun j a b => ?_⟩, fun he => ?_⟩
  · omega
  · by_cases e : j = v
    · subst e; exact hne
    · exact hj j a (by omega)
  · obtain ⟨x, x1, x2, x3, x4⟩ := dsC_at h v v0 c
    have := uv_inj x2 hw (x1.symm.trans he)
    rw [this] at x4
    exact k2 v x.2 x4 (dsC_x h hw v0 c he) v0 c c2 x3
end CK2T
