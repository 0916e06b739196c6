/-! THE FLAT RUN of the reference in big steps: a { }; all nodes. -/
section BMS
variable {A : aT} {D : List aDf} {T B c : Int → Int} {lev : Int → Nat} {σb : sg_S} {X : sg_S → Prop} {O : Int → Nat → List Int} {call : Int → Nat → fEv → fSt → fRs} {j f : Nat}
theorem gfN_each {n : Int} {L : List Int} {sc : List (Int × Int)} (hX : pgX σb A D T B) (hP : fPu A D T B lev O call j f) (F : gfN A D T σb X B lev O call j f) (hO : okO A B O) (hG : gaH A B c O) (hcb : ∀ y, sg_g σb 116 y = c y) (h : stN A D T B lev j (f + 1) L sc n) (k15 : A.2.1 n = 15) {σ : sg_S} {m l : Nat} {ρ : fEv} {fr b sv : Int} {s : fSt} (hS : fSw σb σ fr b sv s) (hl : l ≤ 6000) (hs : scFX A D T σ ρ l sc) (hm : 2 * (2000 - s.1) + fr ≤ (m : Int) + 1) (k : kF A D T σb X σ ρ fr b sv (T n).toNat (fxN A D T B O call (f + 1) n l ρ s)) {Q : sg_S → Prop} (hQ : ∀ σ', Rf X m σ' → Q σ') : V_flatBegin σ n (l : Int) Q := by
  obtain ⟨w1, w2, w3, w4, w5, w6⟩ := stN_w h
  have hA := hX.2.2.2.2.1
  have bb := fS_bw hS
  have g := (w1.2.2.2.2.2.2.1 k15).1
  obtain ⟨bd, tl, ea⟩ : ∃ bd tl, A.2.2.2.2.1 n = bd :: tl := by
    cases e : A.2.2.2.2.1 n with
    | nil => rw [e] at g; simp at g; omega
    | cons bd tl => exact ⟨bd, tl, rfl⟩
  have eg : kGs A n = tl.take (A.2.2.2.2.2 n).length := by unfold kGs; rw [ea]; rfl
  have ed : (A.2.2.2.2.1 n).drop (1 + (A.2.2.2.2.2 n).length) = tl.drop (A.2.2.2.2.2 n).length := by rw [ea, Nat.add_comm]; rfl
  obtain ⟨g1, tk, g4, gt⟩ := ea_ts w1 k15 ea
  obtain ⟨Lb, hb, sb, -⟩ := stN_b0 hA hO h k15 ea (z := bd) (by simp)
  have gg := w5 (by omega)
  rw [kTy_15 k15, ea] at gg
  obtain ⟨y1, y2, y3⟩ := kIs_in gg
  simp only [List.map_cons, List.getD_cons_zero] at y1 y2
  have Tb := (stN_w hb).2.2.1.1
  have pu := fun (R : List Int) (hR : ∀ x ∈ R, ∃ L', stN A D T B lev j f L' sc x ∧ ∀ y ∈ L', y ∈ L) => fx_sq (O := O) (call := call) (m := l) (L := L) (fun x L' hx ρ s v s' ρ' => hP x L' sc hx l ρ s v s' ρ') R hR (fun p hp => (h.2.2.2.2 p hp).2)
  simp only [fxN] at k
  refine gfb_begin (A := A) (D := D) (T := T) (ρ := ρ) hS ⟨w2.1, by omega⟩ hl hQ (fun z σ' y1 y2 y3 y4 => ?_) (fun s1 z es1 es2 σ1 S1 T1 V1 v1 => ?_)
  · rw [z] at k; exact k σ' y1 y2 y3 y4
  rw [z] at k
  simp only at k
  rw [if_neg (by omega), if_neg (by omega), if_neg (by omega), if_neg (by omega), if_pos k15, ed, eg] at k
  have hs1 := scFX_u hs V1 (fun p _ => rfl)
  have sk := fun x hx => ((stN_e hA h k15 ea).1 x hx).1
  have pq := pu (tl.take (A.2.2.2.2.2 n).length) sk ρ s1
  refine gfRow hX hP F (sc := sc) (off := 1) w2 hl (gof_each w2 hl k15 ea) (tl.take (A.2.2.2.2.2 n).length) 0 (fun i x hx => by
    have hi := gE_l hx
    rw [tk] at hi
    rw [List.getElem?_take_of_lt hi] at hx
    rw [Nat.zero_add, Nat.add_comm, ea, List.getElem?_cons_succ]; exact hx) (fun _ => by omega) (fun x hx => by obtain ⟨L', a, -⟩ := sk x hx; exact ⟨L', a⟩) σ1 m ρ fr b s1 (by simp only [Int.ofNat_zero, Int.cast_ofNat_Int, Int.add_zero]; exact S1) (by omega) (by omega) T1 hs1 (by omega) ?_
  generalize fSq (fun x => fxN A D T B O call f x l) (tl.take (A.2.2.2.2.2 n).length) ρ s1 = r at k pq
  match r, k, pq with
  | .inl (e, w'), k, _ => exact k
  | .inr (vs, s2, ρ2), k, pq =>
    intro σ2 m2 l2 S2 T2 V2 v2 hm2
    obtain ⟨pl, pv, pk⟩ := pq vs s2 ρ2 (fun p hp => (hs1 p hp).2.2.2) rfl
    rw [tk] at pl
    rw [tk] at S2 T2
    simp only [Int.ofNat_zero, Int.cast_ofNat_Int, Int.add_zero, Nat.zero_add] at S2 T2 V2 v2
    simp only at k
    have V12 := fKp_t V1 V2 ⟨Int.le_refl _, Int.le_refl _⟩ ⟨Int.le_refl _, Int.le_refl _⟩ ⟨Int.le_refl _, Int.le_refl _⟩
    have hs2 : scFX A D T σ2 ρ2 l sc := scFX_u hs V12 (fun p hp => pk p.1 (h.2.2.2.2 p hp).2)
    have b2 := fS_b S2
    have ebd : (A.2.2.2.2.1 n).getD 0 0 = bd := by rw [ea]; rfl
    rw [ebd] at k
    unfold fEbN at k
    obtain ⟨x0, hx0⟩ : ∃ x, (tl.take (A.2.2.2.2.2 n).length)[0]? = some x := ⟨_, List.getElem?_eq_getElem (by omega)⟩
    obtain ⟨v0, hv0⟩ : ∃ v, vs[0]? = some v := ⟨_, List.getElem?_eq_getElem (by omega)⟩
    have e0 : vs.getD 0 [] = v0 := by rw [List.getD_eq_getElem?_getD, hv0]; rfl
    have T0 := ((stN_e hA h k15 ea).1 x0 (List.mem_of_getElem? hx0)).2
    obtain ⟨R0, hR0⟩ := v2 0 x0 v0 hx0 hv0
    simp only [Int.ofNat_zero, Int.cast_ofNat_Int, Int.add_zero] at hR0
    rw [show (T x0).toNat = ((T x0).toNat - 1) + 1 by omega] at hR0
    have l0 := pv v0 (List.mem_of_getElem? hv0)
    have lnl : ((vs.getD 0 []).map (fun v => (itF v).length)).length = l := by rw [List.length_map, e0]; exact l0
    refine gfe_B hX hO hG hcb h k15 ea S2 T2 hs2 hl (by omega) (by omega) v2 ⟨pl, pv⟩ hm2 (fun ne σ' z1 z2 z3 => ?_) (fun he s' es σ' z1 z2 z3 => ?_) (fun he s3 ρ3 es er σ4 σ8 σ15 m15 z v246 hzz K4 e4 ex4 F8 ex8 x8 r8 l8 S15 T15 U15 sc15 hm15 rp6 Q' hQ' => ?_)
    · rw [if_pos (Decidable.byContradiction (fun c => ne (eaE_i.mp c)))] at k
      exact k σ' z1 z2 (by decide) z3
    · rw [if_neg (eaE_i.mpr he), es] at k
      exact k σ' z1 z2 (by decide) z3
    rw [if_neg (eaE_i.mpr he), es] at k
    simp only at k
    have K24 := fKp_t V12 K4 ⟨Int.le_refl _, Int.le_refl _⟩ ⟨Int.le_refl _, Int.le_refl _⟩ ⟨Int.le_refl _, Int.le_refl _⟩
    rcases hzz with ⟨et, ev⟩ | ⟨et, ez, ev⟩
    · rw [et] at k
      simp only at k
      obtain ⟨Lt, ht, st, -⟩ := stN_b0 hA hO h k15 ea (z := z) (by rw [et]; simp)
      have Tt : T z = 0 := by
        have e1 : tl[(A.2.2.2.2.2 n).length]? = some z := by
          have := congrArg (fun q => q[0]?) et
          simp only [List.getElem?_drop, Nat.add_zero] at this
          exact this
        have ld : (tl.drop (A.2.2.2.2.2 n).length).length = tl.length - (A.2.2.2.2.2 n).length := List.length_drop
        rw [et] at ld
        simp only [List.length_cons, List.length_nil] at ld
        rw [Bool.or_eq_true, decide_eq_true_eq, decide_eq_true_eq] at y3
        simp only [List.map_cons, List.length_cons, List.length_map] at y3
        rcases y3 with y | y
        · omega
        · rw [show tl.length + 1 - 1 = (A.2.2.2.2.2 n).length + 1 by omega, List.getD_cons_succ, List.getD_eq_getElem?_getD, List.getElem?_map, e1] at y
          exact y
      refine gpf (m := m15) F hP ht S15 rp6 T15 sc15 hm15 (fun r er' hr => ?_) hQ'
      rw [er'] at k
      match r, k, hr with
      | .inl (e, w'), k, _ => exact k
      | .inr (cv, s4, ρ5), k, hr =>
        intro σ9 m9 S9 T9 q9 U9 v9 hm9
        obtain ⟨cl, ck⟩ := hr cv s4 ρ5 rfl
        simp only at k
        rw [Tt] at v9
        rw [ev] at T9
        have U89 := fKp_t U15 U9 ⟨Int.le_refl _, Int.le_refl _⟩ ⟨Int.le_refl _, Int.le_refl _⟩ ⟨Int.le_refl _, Int.le_refl _⟩
        have ex29 : fEx σ2 σ9 := fEx_t ex4 (fEx_t ex8 U89.1)
        have e9 : sg_g σ9 133 b = sg_g σ2 133 b := by rw [U89.2.1 b (by omega), sg_F_ga F8 rfl, e4]
        have hs9 : scFX A D T σ9 ρ5 cv.length (gsc n T 0 (tl.take (A.2.2.2.2.2 n).length) ++ sc.filter (fun p => decide (p.1 ∈ O n 0))) := by
          rw [cl]
          exact scFX_u sc15 U9 (fun p hp => ck p.1 (ht.2.2.2.2 p hp).2)
        refine gfe_C (t := z) (Lt := Lt) hX hO hG hcb w2 w1 k15 ea et hb ht.2.1 (fun y hy => ?_) S9 T9 hs9 v9 ⟨R0, by rw [e9]; exact fX_up ex29 hR0⟩ l0 (by rw [cl, ← e0, fRp_l lnl]) hl (by rw [cl]; exact rp6) (by omega) (by omega) hm9 (fun s' es' σ' z1 z2 z3 => ?_) (fun s5 ρ6 es' ef σ' z1 z2 z3 => ?_) (fun s5 ρ6 es' er6 s6 ef σ46 σ12 σ16 m16 f1 K46 e46 ex46 F12 ex12 x12 r12 l12 S16 T16 U16 sc16 e147 rw16 c16 hm16 Q' hQ' => ?_)
        · rcases List.mem_append.mp hy with q | q
          · exact (hb.2.2.2.1 y q).1
          · exact (ht.2.2.2.1 y q).1
        · rw [es'] at k
          exact k σ' z1 z2 (by decide) z3
        · rw [es'] at k
          simp only at k
          rw [ef] at k
          exact k σ' z1 z2 (by decide) z3
        · rw [es'] at k
          simp only at k
          rw [ef] at k
          simp only at k
          have hb1 := stN_b1 hO k15 ea (by rw [et]; exact ht.2.1) hb
          have cwl : (fWh true cv).length ≤ cv.length := by rw [fWh_l]; exact cwF_le _ _
          refine gpf (m := m16) F hP hb1 (fS_wk S16) (by rw [cl] at cwl; omega) T16 sc16 hm16 (fun r er' hr => ?_) hQ'
          rw [er'] at k
          match r, k, hr with
          | .inl (e, w'), k, _ => exact k
          | .inr (v, s7, ρ7), k, hr =>
            intro σ20 m20 S20 T20 q20 U20 v20 hm20
            obtain ⟨vl, -⟩ := hr v s7 ρ7 rfl
            simp only at k
            have U1220 := fKp_t U16 U20 ⟨Int.le_refl _, Int.le_refl _⟩ ⟨Int.le_refl _, Int.le_refl _⟩ ⟨Int.le_refl _, Int.le_refl _⟩
            have h20 := ifS_n2 K24 (by omega : b ≤ b + ((A.2.2.2.2.2 n).length : Int)) (by omega) F8 ex8 x8 (fun y hy => by rw [er y, if_neg hy]) r8 l8 U89 K46 F12 ex12 x12 (fun y hy => by rw [er6 y, if_neg hy]) r12 l12 U1220 S20 T20
            have ls : ((v0.map (fun v => (itF v).length))).sum = cv.length := by rw [cl, ← e0, fRp_l lnl]
            have lv0 : (v0.map (fun v => (itF v).length)).length = l := by rw [List.length_map]; exact l0
            obtain ⟨r0, r0', R0', eR0, lR0, rl0, rf0, cell0, -, rw0, rw0'⟩ := fX_s hR0
            refine gfe_D (ln := ctL (v0.map (fun v => (itF v).length)) cv) (v := v) (f1 := f1) hX w2 w1 k15 ea y1 w3.2 Tb h20 v20 (by rw [ctL_l]; exact lv0) (by rw [ctL_s ls, vl, fWh_l]) (fun i hi => ?_) ?_ (fun i hi => ?_) (Or.inr ⟨by rw [et]; simp, by rw [q20]; exact e147⟩) hl (by omega) (by omega) hm20 (by rw [e0] at k; exact k)
            · rw [ctL_i ls (by omega)]
              have q1 := cwF_le true ((cv.drop ((v0.map (fun v => (itF v).length)).take i).sum).take ((v0.map (fun v => (itF v).length)).getD i 0))
              rw [List.length_take] at q1
              have q2 : (v0.map (fun v => (itF v).length)).getD i 0 = ((v0.getD i (nmF 0)) []).toNat := by
                rw [List.getD_eq_getElem?_getD, List.getElem?_map, gD_i (by omega : i < v0.length), Option.map_some, Option.getD_some, itF_l]
              obtain ⟨-, q3, q4⟩ := cell0 i (by omega)
              omega
            · obtain ⟨q1, q2, q3, q4⟩ := rw16
              have := U20.1.1.2
              exact ⟨q1, q2, q3, by simp only at q4 ⊢; omega⟩
            · obtain ⟨q1, q2, q3, q4⟩ := rw16
              simp only at q1 q2 q3 q4
              rw [U20.1.2.2.2 _ (by omega) (by omega)]
              exact c16 i hi
    · rw [et] at k
      simp only at k
      subst ez
      refine gpf (m := m15) F hP hb S15 rp6 T15 sc15 hm15 (fun r er' hr => ?_) hQ'
      rw [er'] at k
      match r, k, hr with
      | .inl (e, w'), k, _ => exact k
      | .inr (v, s4, ρ5), k, hr =>
        intro σ9 m9 S9 T9 q9 U9 v9 hm9
        obtain ⟨cl, ck⟩ := hr v s4 ρ5 rfl
        simp only at k
        rw [ev] at T9
        have U89 := fKp_t U15 U9 ⟨Int.le_refl _, Int.le_refl _⟩ ⟨Int.le_refl _, Int.le_refl _⟩ ⟨Int.le_refl _, Int.le_refl _⟩
        have ex29 : fEx σ2 σ9 := fEx_t ex4 (fEx_t ex8 U89.1)
        have e9 : sg_g σ9 133 b = sg_g σ2 133 b := by rw [U89.2.1 b (by omega), sg_F_ga F8 rfl, e4]
        have h9 := ifS_n K24 (by omega : b ≤ b + ((A.2.2.2.2.2 n).length : Int)) (by omega) F8 ex8 x8 (fun y hy => by rw [er y, if_neg hy]) r8 l8 S9 T9 U89
        have hR9 := fX_up ex29 hR0
        rw [← e9] at hR9
        obtain ⟨r0, r0', R0', eR0, lR0, rl0, rf0, cell0, -, rw0, rw0'⟩ := fX_s hR9
        have vb := hR9.1.1
        have z0 := hR9.1
        rw [eR0] at z0
        have z1 := (fV_0 z0).1
        obtain ⟨⟨i1, i2, i3, i4, i5⟩, -⟩ := S9.2.2.2.2
        have lv0 : (v0.map (fun v => (itF v).length)).length = l := by rw [List.length_map]; exact l0
        have q2 : ∀ i, i < l → (v0.map (fun v => (itF v).length)).getD i 0 = ((v0.getD i (nmF 0)) []).toNat := fun i hi => by
          rw [List.getD_eq_getElem?_getD, List.getElem?_map, gD_i (by omega : i < v0.length), Option.map_some, Option.getD_some, itF_l]
        refine gfe_D (ln := v0.map (fun v => (itF v).length)) (v := v) (f1 := r0.1) hX w2 w1 k15 ea y1 w3.2 Tb h9 v9 lv0 (by rw [cl, ← e0, fRp_l lnl]) (fun i hi => ?_) ?_ (fun i hi => ?_) (Or.inl ⟨et, z1, by omega, by omega⟩) hl (by omega) (by omega) hm9 (by rw [e0] at k; exact k)
        · rw [q2 i hi]
          obtain ⟨-, q3, q4⟩ := cell0 i (by omega)
          omega
        · rw [← l0, ← rl0]; exact rw0
        · obtain ⟨q1, q3, q4⟩ := cell0 i (by omega)
          rw [q1, q2 i hi]
          omega
theorem gfN_all {r0 : Int} (hX : pgX σb A D T B) (hlv : lvP A D lev 0 r0) (hO : okO A B O) (hG : gaH A B c O) (hcb : ∀ y, sg_g σb 116 y = c y) (hC : cFr A D T B lev σb X call j) (hc : cOk A D T B lev j call) : ∀ f : Nat, gfN A D T σb X B lev O call j f
  | 0 => fun n L sc h => h.1.elim
  | f + 1 => fun n L sc h σ m l ρ fr b sv s hS hl hs hm k Q hQ => by
    have F := gfN_all hX hlv hO hG hcb hC hc f
    have hP : fPu A D T B lev O call j f := fun n L sc h => fx_ok hX hlv hO hc f n L sc h
    by_cases k1 : A.2.1 n = 1
    · exact gfN_var hX h k1 hS hl hs hm k hQ
    by_cases k2 : A.2.1 n = 2
    · exact gfN_let hX hP F h k2 hS hl hs hm k hQ
    by_cases k3 : A.2.1 n = 3
    · exact gfN_if hX hP F hO hG hcb h k3 hS hl hs hm k hQ
    by_cases k13 : A.2.1 n = 13
    · exact gfN_call hX hlv hP F hC h k13 hS hl hs hm k hQ
    by_cases k15 : A.2.1 n = 15
    · exact gfN_each hX hP F hO hG hcb h k15 hS hl hs hm k hQ
    · exact gfN_op hX hP F h ⟨k1, k2, k3, k13, k15⟩ hS hl hs hm k hQ
theorem cFr_all {r0 : Int} (hX : pgX σb A D T B) (hlv : lvP A D lev 0 r0) (hO : okO A B O) (hG : gaH A B c O) (hcb : ∀ y, sg_g σb 116 y = c y) : ∀ j : Nat, cFr A D T B lev σb X (fxC A D T B O j) j := by
  have key : ∀ (k : Nat) (j : Nat), j ≤ k → cFr A D T B lev σb X (fxC A D T B O j) j := by
    intro k
    induction k with
    | zero =>
      intro j hj d y L' hy dj
      omega
    | succ k ih =>
      intro j hj d y L' hy dj hst σ m l ρ fr b sv s hS hl hs hm kk Q hQ
      rw [fxC_e A D T B O j d dj] at kk
      have ey : (D.getD d (0, 0, [], 0)).2.2.2 = y.2.2.2 := by rw [List.getD_eq_getElem?_getD, hy]; rfl
      rw [ey] at kk
      exact gfN_all (call := fxC A D T B O d) (j := d) hX hlv hO hG hcb (ih d (by omega)) (fxC_ok hX hlv hO d) 201 y.2.2.2 L' _ hst σ m l ρ fr b sv s hS hl hs hm kk Q hQ
  exact fun j => key j j (Nat.le_refl _)
end BMS
