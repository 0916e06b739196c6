/-! THE FLAT RUN of the reference in big steps: a { }; all nodes. -/
section BMS
variable {A : aT} {D : List aDf} {T B c : Int → Int} {lev : Int → Nat} {σb : sg_S} {X : sg_S → Prop} {O : Int → Nat → List Int} {call : Int → Nat → fEv → fSt → fRs} {j f : Nat}
theorem gfN_each {n : Int} {L : List Int} {sc : List (Int × Int)} (hX : pgX σb A D T B) (hP : fPu A D T B lev O call j f) (F : gfN A D T σb X B lev O call j f) (hO : okO A B O) (hG : gaH A B c O) (hcb : ∀ y, sg_g σb 116 y = c y) (h : stN A D T B lev j (f + 1) L sc n) (k15 : A.2.1 n = 15) {σ : sg_S} {m l : Nat} {ρ : fEv} {fr b sv : Int} {s : fSt} (hS : fSw σb σ fr b sv s) (hl : l ≤ 6000) (hs : scFX A D T σ ρ l sc) (hm : 2 * (2000 - s.1) + fr ≤ (m : Int) + 1) (k : kF A D T σb X σ ρ fr b sv (T n).toNat (fxN A D T B O call (f + 1) n l ρ s)) {Q : sg_S → Prop} (hQ : ∀ σ', Rf X m σ' → Q σ') : V_flatBegin σ n (l : Int) Q := by
  obtain ⟨w1, w2, w3, w4, w5, w6⟩ := stN_w h
  have hA := hX.2.2.2.2.1
  have bb := fS_bw hS
  have g := (w1.2.2.2.2.2.2.1 k15).1
  obtain ⟨bd, tl, ea⟩ : ∃ bd tl, A.2.2.2.2.1 n = bd :: tl := by
    cases e : A.2.2.2.2.1 n with
    | nil => rw [e] at g; simp at g; omega
    | cons bd tl => exact ⟨bd, tl, rfl⟩
  have eg : kGs A n = tl.take (A.2.2.2.2.2 n).length := by unfold kGs; rw [ea]; rfl
  have ed : (A.2.2.2.2.1 n).drop (1 + (A.2.2.2.2.2 n).length) = tl.drop (A.2.2.2.2.2 n).length := by rw [ea, Nat.add_comm]; rfl
  obtain ⟨g1, tk, g4, gt⟩ := ea_ts w1 k15 ea
  obtain ⟨Lb, hb, sb, -⟩ := stN_b0 hA hO h k15 ea (z := bd) (by simp)
  have gg := w5 (by omega)
  rw [kTy_15 k15, ea] at gg
  obtain ⟨y1, y2, y3⟩ := kIs_in gg
  simp only [List.map_cons, List.getD_cons_zero] at y1 y2
  have Tb := (stN_w hb).2.2.1.1
  have pu := fun (R : List Int) (hR : ∀ x ∈ R, ∃ L', stN A D T B lev j f L' sc x ∧ ∀ y ∈ L', y ∈ L) => fx_sq (O := O) (call := call) (m := l) (L := L) (fun x L' hx ρ s v s' ρ' => hP x L' sc hx l ρ s v s' ρ') R hR (fun p hp => (h.2.2.2.2 p hp).2)
  simp only [fxN] at k
  refine gfb_begin (A := A) (D := D) (T := T) (ρ := ρ) hS ⟨w2.1, by omega⟩ hl hQ (fun z σ' y1 y2 y3 y4 => ?_) (fun s1 z es1 es2 σ1 S1 T1 V1 v1 => ?_)
  · rw [z] at k; exact k σ' y1 y2 y3 y4
  rw [z] at k
  simp only at k
  rw [if_neg (by omega), if_neg (by omega), if_neg (by omega), if_neg (by omega), if_pos k15, ed, eg] at k
  have hs1 := scFX_u hs V1 (fun p _ => rfl)
  have sk := fun x hx => ((stN_e hA h k15 ea).1 x hx).1
  have pq := pu (tl.take (A.2.2.2.2.2 n).length) sk ρ s1
  refine gfRow hX hP F (sc := sc) (off := 1) w2 hl (gof_each w2 hl k15 ea) (tl.take (A.2.2.2.2.2 n).length) 0 (fun i x hx => by
    have hi := gE_l hx
    rw [tk] at hi
    rw [List.getElem?_take_of_lt hi] at hx
    rw [Nat.zero_add, Nat.add_comm, ea, List.getElem?_cons_succ]; exact hx) (fun _ => by omega) (fun x hx => by obtain ⟨L', a, -⟩ := sk x hx; exact ⟨L', a⟩) σ1 m ρ fr b s1 (by simp only [Int.ofNat_zero, Int.cast_ofNat_Int, Int.add_zero]; exact S1) (by omega) (by omega) T1 hs1 (by omega) ?_
  generalize fSq (fun x => fxN A D T B O call f x l) (tl.take (A.2.2.2.2.2 n).length) ρ s1 = r at k pq
  match r, k, pq with
  | .inl (e, w'), k, _ => exact k
  | .inr (vs, s2, ρ2), k, pq =>
    intro σ2 m2 l2 S2 T2 V2 v2 hm2
    obtain ⟨pl, pv, pk⟩ := pq vs s2 ρ2 (fun p hp => (hs1 p hp).2.2.2) rfl
    rw [tk] at pl
    rw [tk] at S2 T2
    simp only [Int.ofNat_zero, Int.cast_ofNat_Int, Int.add_zero, Nat.zero_add] at S2 T2 V2 v2
    simp only at k
    have V12 := fKp_t V1 V2 ⟨Int.le_refl _, Int.le_refl _⟩ ⟨Int.le_refl _, Int.le_refl _⟩ ⟨Int.le_refl _, Int.le_refl _⟩
    have hs2 : scFX A D T σ2 ρ2 l sc := scFX_u hs V12 (fun p hp => pk p.1 (h.2.2.2.2 p hp).2)
    have b2 := fS_b S2
    have ebd : (A.2.2.2.2.1 n).getD 0 0 = bd := by rw [ea]; rfl
    rw [ebd] at k
    unfold fEbN at k
    obtain ⟨x0, hx0⟩ : ∃ x, (tl.take (A.2.2.2.2.2 n).length)[0]? = some x := ⟨_, List.getElem?_eq_getElem (by omega)⟩
    obtain ⟨v0, hv0⟩ : ∃ v, vs[0]? = some v := ⟨_, List.getElem?_eq_getElem (by omega)⟩
    have e0 : vs.getD 0 [] = v0 := by rw [List.getD_eq_getElem?_getD, hv0]; rfl
    have T0 := ((stN_e hA h k15 ea).1 x0 (List.mem_of_getElem? hx0)).2
    obtain ⟨R0, hR0⟩ := v2 0 x0 v0 hx0 hv0
    simp only [Int.ofNat_zero, Int.cast_ofNat_Int, Int.add_zero] at hR0
    rw [show (T x0).toNat = ((T x0).toNat - 1) + 1 by omega] at hR0
    have l0 := pv v0 (List.mem_of_getElem? hv0)
    have lnl : ((vs.getD 0 []).map (fun v => (itF v).length)).length = l := by rw [List.length_map, e0]; exact l0
    refine gfe_B hX hO hG hcb h k15 ea S2 T2 hs2 hl (by omega) (by omega) v2 ⟨pl, pv⟩ hm2 (fun ne σ' z1 z2 z3 => ?_) (fun he s' es σ' z1 z2 z3 => ?_) (fun he s3 ρ3 es er σ4 σ8 σ15 m15 z v246 hzz K4 e4 ex4 F8 ex8 x8 r8 l8 S15 T15 U15 sc15 hm15 rp6 Q' hQ' => ?_)
    · rw [if_pos (Decidable.byContradiction (fun c => ne (eaE_i.mp c)))] at k
      exact k σ' z1 z2 (by decide) z3
    · rw [if_neg (eaE_i.mpr he), es] at k
      exact k σ' z1 z2 (by decide) z3
    rw [if_neg (eaE_i.mpr he), es] at k
    simp only at k
    have K24 := fKp_t V12 K4 ⟨Int.le_refl _, Int.le_refl _⟩ ⟨Int.le_refl _, Int.le_refl _⟩ ⟨Int.le_refl _, Int.le_refl _⟩
    rcases hzz with ⟨et, ev⟩ | ⟨et, ez, ev⟩
    · rw [et] at k
      simp only at k
      obtain ⟨Lt, ht, st, -⟩ := stN_b0 hA hO h k15 ea (z := z) (by rw [et]; simp)
      have Tt : T z = 0 := by
        have e1 : tl[(A.2.2.2.2.2 n).length]? = some z := by
          have := congrArg (fun q => q[0]?) et
          simp only [List.getElem?_drop, Nat.add_zero] at this
          exact this
        have ld : (tl.drop (A.2.2.2.2.2 n).length).length = tl.length - (A.2.2.2.2.2 n).length := List.length_drop
        rw [et] at ld
        simp only [List.length_cons, List.length_nil] at ld
        rw [Bool.or_eq_true, decide_eq_true_eq, decide_eq_true_eq] at y3
        simp only [List.map_cons, List.length_cons, List.length_map] at y3
        rcases y3 with y | y
        · omega
        · rw [show tl.length + 1 - 1 = (A.2.2.2.2.2 n).length + 1 by omega, List.getD_cons_succ, List.getD_eq_getElem?_getD, List.getElem?_map, e1] at y
          exact y
      refine gpf (m := m15) F hP ht S15 rp6 T15 sc15 hm15 (fun r er' hr => ?_) hQ'
      rw [er'] at k
      match r, k, hr with
      | .inl (e, w'), k, _ => exact k
      | .inr (cv, s4, ρ5), k, hr =>
        intro σ9 m9 S9 T9 q9 U9 v9 hm9
        obtain ⟨cl, ck⟩ := hr cv s4 ρ5 rfl
        simp only at k
        rw [Tt] at v9
        rw [ev] at T9
        have U89 := fKp_t U15 U9 ⟨Int.le_refl _, Int.le_refl _⟩ ⟨Int.le_refl _, Int.le_refl _⟩ ⟨Int.le_refl _, Int.le_refl _⟩
        have ex29 : fEx σ2 σ9 := fEx_t ex4 (fEx_t ex8 U89.1)
        have e9 : sg_g σ9 133 b = sg_g σ2 133 b := by rw [U89.2.1 b (by omega), sg_F_ga F8 rfl, e4]
        have hs9 : scFX A D T σ9 ρ5 cv.length (gsc n T 0 (tl.take (A.2.2.2.2.2 n).length) ++ sc.filter (fun p => decide (p.1 ∈ O n 0))) := by
          rw [cl]
          exact scFX_u sc15 U9 (fun p hp => ck p.1 (ht.2.2.2.2 p hp).2)
        refine gfe_C (t := z) (Lt := Lt) hX hO hG hcb w2 w1 k15 ea et hb ht.2.1 (fun y hy => ?_) S9 T9 hs9 v9 ⟨R0, by rw [e9]; exact fX_up ex29 hR0⟩ l0 (by rw [cl, ← e0, fRp_l lnl]) hl (by rw [cl]; exact rp6) (by omega) (by omega) hm9 (fun s' es' σ' z1 z2 z3 => ?_) (fun s5 ρ6 es' ef σ' z1 z2 z3 => ?_) (fun s5 ρ6 es' er6 s6 ef σ46 σ12 σ16 m16 f1 K46 e46 ex46 F12 ex12 x12 r12 l12 S16 T16 U16 sc16 e147 rw16 c16 hm16 Q' hQ' => ?_)
        · rcases List.mem_append.mp hy with q | q
          · exact (hb.2.2.2.1 y q).1
          · exact (ht.2.2.2.1 y q).1
        · rw [es'] at k
          exact k σ' z1 z2 (by decide) z3
        · rw [es'] at k
          simp only at k
          rw [ef] at k
          exact k σ' z1 z2 (by decide) z3
        · rw [es'] at k
          simp only at k
          rw [ef] at k
          simp only at k
          have hb1 := stN_b1 hO k15 ea (by rw [et]; exact ht.2.1) hb
          have cwl : (fWh true cv).length ≤ cv.length := by rw [fWh_l]; exact cwF_le _ _
          refine gpf (m := m16) F hP hb1 (fS_wk S16) (by rw [cl] at cwl; omega) T16 sc16 hm16 (fun r er' hr => ?_) hQ'
          rw [er'] at k
          match r, k, hr with
          | .inl (e, w'), k, _ => exact k
          | .inr (v, s7, ρ7), k, hr =>
            intro σ20 m20 S20 T20 q20 U20 v20 hm20
            obtain ⟨vl, -⟩ := hr v s7 ρ7 rfl
            simp only at k
            have U1220 := fKp_t U16 U20 ⟨Int.le_refl _, Int.le_refl _⟩ ⟨Int.le_refl _, Int.le_refl _⟩ ⟨Int.le_refl _, Int.le_refl _⟩
            have h20 := ifS_n2 K24 (by omega : b ≤ b + ((A.2.2.2.2.2 n).length : Int)) (by omega) F8 ex8 x8 (fun y hy => by rw [er y, if_neg hy]) r8 l8 U89 K46 F12 ex12 x12 (fun y hy => by rw [er6 y, if_neg hy]) r12 l12 U1220 S20 T20
            have ls : ((v0.map (fun v => (itF v).length))).sum = cv.length := by rw [cl, ← e0, fRp_l lnl]
            have lv0 : (v0.map (fun v => (itF v).length)).length = l := by rw [List.length_map]; exact l0
            obtain ⟨r0, r0', R0', eR0, lR0, rl0, rf0, cell0, -, rw0, rw0'⟩ := fX_s hR0
            refine gfe_D (ln := ctL (v0.map (fun v => (itF v).length)) cv) (v := v) (f1 := f1) hX w2 w1 k15 ea y1 w3.2 Tb h20 v20 (by rw [ctL_l]; exact lv0) (by rw [ctL_s ls, vl, fWh_l]) (fun i hi => ?_) ?_ (fun i hi => ?_) (Or.inr ⟨by rw [et]; simp, by rw [q20]; exact e147⟩) hl (by omega) (by omega) hm20 (by rw [e0] at k; exact k)
            · rw [ctL_i ls (by omega)]
              have q1 := cwF_le true ((cv.drop ((v0.map (fun v => (itF v).length)).take i).sum).take ((v0.map (fun v => (itF v).length)).getD i 0))
              rw [List.length_take] at q1
              have q2 : (v0.map (fun v => (itF v).length)).getD i 0 = ((v0.getD i (nmF 0)) []).toNat := by
                rw [List.getD_eq_getElem?_getD, List.getElem?_map, gD_i (by omega : i < v0.length), Option.map_some, Option.getD_some, itF_l]
              obtain ⟨-, q3, q4⟩ := cell0 i (by omega)
              omega
            · obtain ⟨q1, q2, q3, q4⟩ := rw16
              have := U20.1.1.2
              exact ⟨q1, q2, q3, by simp only at q4 ⊢; omega⟩
            · obtain ⟨q1, q2, q3, q4⟩ := rw16
              simp only at q1 q2 q3 q4
              rw [U20.1.2.2.2 _ (by omega) (by omega)]
              exact c16 i hi
    · rw [et] at k
      simp only at k
      subst ez
      refine gpf (m := m15) F hP hb S15 rp6 T15 sc15 hm15 (fun r er' hr => ?_) hQ'
      rw [er'] at k
      match r, k, hr with
      | .inl (e, w'), k, _ => exact k
      | .inr (v, s4, ρ5), k, hr =>
        intro σ9 m9 S9 T9 q9 U9 v9 hm9
        obtain ⟨cl, ck⟩ := hr v s4 ρ5 rfl
        simp only at k
        rw [ev] at T9
        have U89 := fKp_t U15 U9 ⟨Int.le_refl _, Int.le_refl _⟩ ⟨Int.le_refl _, Int.le_refl _⟩ ⟨Int.le_refl _, Int.le_refl _⟩
        have ex29 : fEx σ2 σ9 := fEx_t ex4 (fEx_t ex8 U89.1)
        have e9 : sg_g σ9 133 b = sg_g σ2 133 b := by rw [U89.2.1 b (by omega), sg_F_ga F8 rfl, e4]
        have h9 := ifS_n K24 (by omega : b ≤ b + ((A.2.2.2.2.2 n).length : Int)) (by omega) F8 ex8 x8 (fun y hy => by rw [er y, if_neg hy]) r8 l8 S9 T9 U89
        have hR9 := fX_up ex29 hR0
        rw [← e9] at hR9
        obtain ⟨r0, r0', R0', eR0, lR0, rl0, rf0, cell0, -, rw0, rw0'⟩ := fX_s hR9
        have vb := hR9.1.1
        have z0 := hR9.1
        rw [eR0] at z0
        have z1 := (fV_0 z0).1
        obtain ⟨⟨i1, i2, i3, i4, i5⟩, -⟩ := S9.2.2.2.2
        have lv0 : (v0.map (fun v => (itF v).length)).length = l := by rw [List.length_map]; exact l0
        have q2 : ∀ i, i < l → (v0.map (fun v => (itF v).length)).getD i 0 = ((v0.getD i (nmF 0)) []).toNat := fun i hi => by
          rw [List.getD_eq_getElem?_getD, List.getElem?_map, gD_i (by omega : i < v0.length), Option.map_some, Option.getD_some, itF_l]
        refine gfe_D (ln := v0.map (fun v => (itF v).length)) (v := v) (f1 := r0.1) hX w2 w1 k15 ea y1 w3.2 Tb h9 v9 lv0 (by rw [cl, ← e0, fRp_l lnl]) (fun i hi => ?_) ?_ (fun i hi => ?_) (Or.inl ⟨et, z1, by omega, by omega⟩) hl (by omega) (by omega) hm9 (by rw [e0] at k; exact k)
        · rw [q2 i hi]
          obtain ⟨-, q3, q4⟩ := cell0 i (by omega)
          omega
        · rw [← l0, ← rl0]; exact rw0
        · obtain ⟨q1, q3, q4⟩ := cell0 i (by omega)
          rw [q1, q2 i hi]
          omega
theorem gfN_all {r0 : Int} (hX : pgX σb A D T B) (hlv : lvP A D lev 0 r0) (hO : okO A B O) (hG : gaH A B c O) (hcb : ∀ y, sg_g σb 116 y = c y) (hC : cFr A D T B lev σb X call j) (hc : cOk A D T B lev j call) : ∀ f : Nat, gfN A D T σb X B lev O call j f
  | 0 => fun n L sc h => h.1.elim
  | f + 1 => fun n L sc h σ m l ρ fr b sv s hS hl hs hm k Q hQ => by
    have F := gfN_all hX hlv hO hG hcb hC hc f
    have hP : fPu A D T B lev O call j f := fun n L sc h => fx_ok hX hlv hO hc f n L sc h
    by_cases k1 : A.2.1 n = 1
    · exact gfN_var hX h k1 hS hl hs hm k hQ
    by_cases k2 : A.2.1 n = 2
    · exact gfN_let hX hP F h k2 hS hl hs hm k hQ
    by_cases k3 : A.2.1 n = 3
    · exact gfN_if hX hP F hO hG hcb h k3 hS hl hs hm k hQ
    by_cases k13 : A.2.1 n = 13
    · exact gfN_call hX hlv hP F hC h k13 hS hl hs hm k hQ
    by_cases k15 : A.2.1 n = 15
    · exact gfN_each hX hP F hO hG hcb h k15 hS hl hs hm k hQ
    · exact gfN_op hX hP F h ⟨k1, k2, k3, k13, k15⟩ hS hl hs hm k hQ
theorem cFr_all {r0 : Int} (hX : pgX σb A D T B) (hlv : lvP A D lev 0 r0) (hO : okO A B O) (hG : gaH A B c O) (hcb : ∀ y, sg_g σb 116 y = c y) : ∀ j : Nat, cFr A D T B lev σb X (fxC A D T B O j) j := by
  have key : ∀ (k : Nat) (j : Nat), j ≤ k → cFr A D T B lev σb X (fxC A D T B O j) j := by
    intro k
    induction k with
    | zero =>
      intro j hj d y L' hy dj
      omega
    | succ k ih =>
      intro j hj d y L' hy dj hst σ m l ρ fr b sv s hS hl hs hm kk Q hQ
      rw [fxC_e A D T B O j d dj] at kk
      have ey : (D.getD d (0, 0, [], 0)).2.2.2 = y.2.2.2 := by rw [List.getD_eq_getElem?_getD, hy]; rfl
      rw [ey] at kk
      exact gfN_all (call := fxC A D T B O d) (j := d) hX hlv hO hG hcb (ih d (by omega)) (fxC_ok hX hlv hO d) 201 y.2.2.2 L' _ hst σ m l ρ fr b sv s hS hl hs hm kk Q hQ
  exact fun j => key j j (Nat.le_refl _)
end BMS
/-! EXTENTS of what is worked out: no more than CELLS are told. -/
theorem exF_s (d : Nat) (l : List vaF) : exF (d + 1) l = (l.length : Int) + exF d (flF l) := rfl
theorem exF_p (d : Nat) (l : List vaF) : 0 ≤ exF d l := by
  have := exF_n d l
  omega
theorem fCa_x {ty : Int → Int} {ks : List Nat} : ∀ {P : List Int} {s s' : fSt} {ρ ρ' : fEv}, P.Nodup → fCa ty ks P s ρ = .inr (s', ρ') → ∀ b ∈ P, s.2.1 + exF (ty b).toNat (fPk (ρ b) ks) ≤ s'.2.1
  | [], s, s', ρ, ρ', _, h, b, hb => by cases hb
  | y :: r, s, s', ρ, ρ', hn, h, b, hb => by
    have nd := List.nodup_cons.mp hn
    simp only [fCa] at h
    cases hs : fStp (exF (ty y).toNat (fPk (ρ y) ks)) s with
    | none => rw [hs] at h; cases h
    | some s1 =>
      rw [hs] at h
      obtain ⟨z1, z2, z3, -⟩ := fStp_s hs
      have q := fCa_s h
      rcases List.mem_cons.mp hb with e | e
      · rw [e]; omega
      · have ih := fCa_x nd.2 h b e
        have ny : ¬ b = y := fun q => nd.1 (by rw [← q]; exact e)
        simp only [if_neg ny] at ih
        have := exF_p (ty y).toNat (fPk (ρ y) ks)
        omega
section BNS
variable (A : aT) (D : List aDf) (T : Int → Int)
def scE (ρ : fEv) (m : Nat) (c : Int) (sc : List (Int × Int)) : Prop := ∀ p ∈ sc, (ρ p.1).length = m ∧ p.2 = bTy A D T p.1 ∧ exF p.2.toNat (ρ p.1) ≤ c
variable (B : Int → Int) (lev : Int → Nat)
/-- DEFS below j keep to their CELLS -/
def cXk (j : Nat) (call : Int → Nat → fEv → fSt → fRs) : Prop := ∀ (d : Nat) (y : aDf) (L' : List Int), D[d]? = some y → d < j → stN A D T B lev d 201 L' (scZ (kPe y) (kPb d 0 y.2.2.1 [])) y.2.2.2 → ∀ (m : Nat) ρ s v s' ρ' (X : Int), scE A D T ρ m (s.2.1 + X) (scZ (kPe y) (kPb d 0 y.2.2.1 [])) → 0 ≤ s.2.1 + X → call (d : Int) m ρ s = .inr (v, s', ρ') → exF (T y.2.2.2).toNat v ≤ s'.2.1 + X ∧ s.2.1 ≤ s'.2.1
/-- a node keeps to its CELLS -/
def fPx (O : Int → Nat → List Int) (call : Int → Nat → fEv → fSt → fRs) (j f : Nat) : Prop := ∀ (n : Int) (L : List Int) (sc : List (Int × Int)), stN A D T B lev j f L sc n → ∀ (m : Nat) ρ s v s' ρ' (X : Int), scE A D T ρ m (s.2.1 + X) sc → 0 ≤ s.2.1 + X → fxN A D T B O call f n m ρ s = .inr (v, s', ρ') → exF (T n).toNat v ≤ s'.2.1 + X ∧ s.2.1 ≤ s'.2.1
end BNS
section BNT
variable {A : aT} {D : List aDf} {T B : Int → Int} {lev : Int → Nat} {O : Int → Nat → List Int} {call : Int → Nat → fEv → fSt → fRs} {j f : Nat}
theorem scE_u {ρ ρ' : fEv} {m : Nat} {c c' : Int} {sc : List (Int × Int)} (h : scE A D T ρ m c sc) (hc : c ≤ c') (hk : ∀ p ∈ sc, ρ' p.1 = ρ p.1) : scE A D T ρ' m c' sc := fun p hp => by
  obtain ⟨a, b, d⟩ := h p hp
  rw [hk p hp]
  exact ⟨a, b, by omega⟩
theorem scE_c {ρ ρ' : fEv} {m : Nat} {c : Int} {P : List Int} {kn : List Nat} {s s' : fSt} {sc : List (Int × Int)} (h : scE A D T ρ m c sc) (hn : P.Nodup) (e : fCa (bTy A D T) kn P s ρ = .inr (s', ρ')) {X : Int} (hX : 0 ≤ s.2.1 + X) : scE A D T ρ' kn.length (s'.2.1 + X) (sc.filter (fun p => decide (p.1 ∈ P))) := fun p hp => by
  obtain ⟨p1, p2⟩ := List.mem_filter.mp hp
  rw [decide_eq_true_eq] at p2
  obtain ⟨a, b, d⟩ := h p p1
  have er := fCa_e hn e p.1
  rw [if_pos p2] at er
  have q := fCa_x hn e p.1 p2
  rw [er, fPk_l]
  refine ⟨rfl, b, ?_⟩
  rw [b]; omega
theorem fe_sq {m : Nat} {L : List Int} {sc : List (Int × Int)} {X : Int} (hP : fPu A D T B lev O call j f) (hE : fPx A D T B lev O call j f) : ∀ (R : List Int), (∀ x ∈ R, ∃ L', stN A D T B lev j f L' sc x ∧ ∀ y ∈ L', y ∈ L) → (∀ p ∈ sc, ¬ ow lev j L p.1) → ∀ ρ s vs s' ρ', scE A D T ρ m (s.2.1 + X) sc → 0 ≤ s.2.1 + X → fSq (fun x => fxN A D T B O call f x m) R ρ s = .inr (vs, s', ρ') → s.2.1 ≤ s'.2.1 ∧ ∀ (i : Nat) (x : Int) (v : List vaF), R[i]? = some x → vs[i]? = some v → exF (T x).toNat v ≤ s'.2.1 + X
  | [], hR, hs, ρ, s, vs, s', ρ', hl, h0, h => by
    simp only [fSq, Sum.inr.injEq, Prod.mk.injEq] at h
    obtain ⟨-, rfl, -⟩ := h
    exact ⟨Int.le_refl _, fun i x v hx => by simp at hx⟩
  | x :: R, hR, hs, ρ, s, vs, s', ρ', hl, h0, h => by
    simp only [fSq] at h
    cases e1 : fxN A D T B O call f x m ρ s with
    | inl e => rw [e1] at h; cases h
    | inr p =>
      obtain ⟨v, s1, ρ1⟩ := p
      rw [e1] at h
      simp only at h
      cases e2 : fSq (fun x => fxN A D T B O call f x m) R ρ1 s1 with
      | inl e => rw [e2] at h; cases h
      | inr p2 =>
        obtain ⟨vs1, s2, ρ2⟩ := p2
        rw [e2] at h
        simp only [Sum.inr.injEq, Prod.mk.injEq] at h
        obtain ⟨rfl, rfl, rfl⟩ := h
        obtain ⟨L', hx, sub⟩ := hR x (by simp)
        obtain ⟨lv, kv⟩ := hP x L' sc hx m ρ s v s1 ρ1 (fun p hp => (hl p hp).1) e1
        obtain ⟨x1, x2⟩ := hE x L' sc hx m ρ s v s1 ρ1 X hl h0 e1
        obtain ⟨a1, a2⟩ := fe_sq (X := X) hP hE R (fun y hy => hR y (by simp [hy])) hs ρ1 s1 _ _ _ (scE_u hl (by omega) (fun p hp => kv p.1 (hx.2.2.2.2 p hp).2)) (by omega) e2
        refine ⟨by omega, fun i y w hy hw => ?_⟩
        cases i with
        | zero =>
          simp only [List.getElem?_cons_zero, Option.some.injEq] at hy hw
          subst hy hw
          omega
        | succ i =>
          simp only [List.getElem?_cons_succ] at hy hw
          exact a2 i y w hy hw
theorem fe_if {L : List Int} {sc : List (Int × Int)} {n a c d : Int} {m : Nat} {X : Int} (hA : A.1 ≤ 200) (hO : okO A B O) (hP : fPu A D T B lev O call j f) (hE : fPx A D T B lev O call j f) (k3 : A.2.1 n = 3) (hk : A.2.2.2.2.1 n = [a, c, d]) (t1 : T n = T c) (t2 : T n = T d) (h : stN A D T B lev j (f + 1) L sc n) {ρ : fEv} {s s' : fSt} {v : List vaF} {ρ' : fEv} (hl : scE A D T ρ m (s.2.1 + X) sc) (h0 : 0 ≤ s.2.1 + X) (e : fIfN (fxN A D T B O call f) (bTy A D T) (T n) (O n 1) (O n 2) a c d m ρ s = .inr (v, s', ρ')) : exF (T n).toNat v ≤ s'.2.1 + X ∧ s.2.1 ≤ s'.2.1 := by
  obtain ⟨La, ha, sa⟩ := stN_k h (by omega) (by omega) (z := a) (by rw [hk]; simp)
  obtain ⟨Lc, hc, sc1⟩ := stN_k h (by omega) (by omega) (z := c) (by rw [hk]; simp)
  obtain ⟨Ld, hd, sd⟩ := stN_k h (by omega) (by omega) (z := d) (by rw [hk]; simp)
  obtain ⟨pc, -⟩ := stN_p (L := L) (st := 1) hA hO k3 (Or.inl rfl) (by rw [hk]; rfl) hc
  obtain ⟨pd, -⟩ := stN_p (L := L) (st := 2) hA hO k3 (Or.inr rfl) (by rw [hk]; rfl) hd
  unfold fIfN at e
  cases e1 : fxN A D T B O call f a m ρ s with
  | inl w => rw [e1] at e; cases e
  | inr p =>
    obtain ⟨cv, s2, ρ2⟩ := p
    rw [e1] at e
    simp only at e
    obtain ⟨lc, kc⟩ := hP a La sc ha m ρ s cv s2 ρ2 (fun p hp => (hl p hp).1) e1
    obtain ⟨-, m1⟩ := hE a La sc ha m ρ s cv s2 ρ2 X hl h0 e1
    have hl2 := scE_u (c' := s2.2.1 + X) hl (by omega) (fun p hp => kc p.1 (ha.2.2.2.2 p hp).2)
    cases e2 : fCa (bTy A D T) (fWh true cv) (O n 1) s2 ρ2 with
    | inl w => rw [e2] at e; cases e
    | inr p =>
      obtain ⟨s3, ρ3⟩ := p
      rw [e2] at e
      simp only at e
      have r3 := fCa_e ((hO n).1 1) e2
      have q3 := fCa_s e2
      have sc3 := scE_c hl2 ((hO n).1 1) e2 (by omega : 0 ≤ s2.2.1 + X)
      cases e3 : fxN A D T B O call f c (fWh true cv).length ρ3 s3 with
      | inl w => rw [e3] at e; cases e
      | inr p =>
        obtain ⟨v1, s4, ρ4⟩ := p
        rw [e3] at e
        simp only at e
        obtain ⟨l1, k4⟩ := hP c Lc _ pc _ ρ3 s3 v1 s4 ρ4 (fun p hp => (sc3 p hp).1) e3
        obtain ⟨-, m4⟩ := hE c Lc _ pc _ ρ3 s3 v1 s4 ρ4 X sc3 (by omega) e3
        have hl4 : scE A D T (fBk (O n 1) ρ2 ρ4) m (s4.2.1 + X) sc := fun p hp => by
          obtain ⟨a1, a2, a3⟩ := hl2 p hp
          have eb : fBk (O n 1) ρ2 ρ4 p.1 = ρ2 p.1 := by
            unfold fBk
            by_cases q : p.1 ∈ O n 1
            · rw [if_pos q]
            · rw [if_neg q, k4 p.1 (hc.2.2.2.2 p hp).2, r3 p.1, if_neg q]
          rw [eb]
          exact ⟨a1, a2, by omega⟩
        cases e4 : fCa (bTy A D T) (fWh false cv) (O n 2) s4 (fBk (O n 1) ρ2 ρ4) with
        | inl w => rw [e4] at e; cases e
        | inr p =>
          obtain ⟨s5, ρ5⟩ := p
          rw [e4] at e
          simp only at e
          have q5 := fCa_s e4
          have sc5 := scE_c hl4 ((hO n).1 2) e4 (by omega : 0 ≤ s4.2.1 + X)
          cases e5 : fxN A D T B O call f d (fWh false cv).length ρ5 s5 with
          | inl w => rw [e5] at e; cases e
          | inr p =>
            obtain ⟨v2, s6, ρ6⟩ := p
            rw [e5] at e
            simp only at e
            obtain ⟨l2, -⟩ := hP d Ld _ pd _ ρ5 s5 v2 s6 ρ6 (fun p hp => (sc5 p hp).1) e5
            obtain ⟨-, m6⟩ := hE d Ld _ pd _ ρ5 s5 v2 s6 ρ6 X sc5 (by omega) e5
            cases e6 : fStp (exF (T n).toNat v1 + exF (T n).toNat v2) s6 with
            | none => rw [e6] at e; cases e
            | some s7 =>
              rw [e6] at e
              simp only [Sum.inr.injEq, Prod.mk.injEq] at e
              obtain ⟨rfl, rfl, -⟩ := e
              obtain ⟨z1, z2, -⟩ := fStp_s e6
              have em := exF_Mg (T n).toNat cv v1 v2 (by rw [l1, fWh_l]) (by rw [l2, fWh_l])
              have p1 := exF_p (T n).toNat v1
              have p2 := exF_p (T n).toNat v2
              rw [em]
              exact ⟨by omega, by omega⟩
theorem fe_each {L : List Int} {sc : List (Int × Int)} {n bd : Int} {tl : List Int} {m : Nat} {X : Int} (hA : A.1 ≤ 200) (hO : okO A B O) (hP : fPu A D T B lev O call j f) (hE : fPx A D T B lev O call j f) (k15 : A.2.1 n = 15) (ea : A.2.2.2.2.1 n = bd :: tl) (hT : T n = T bd + 1) (h : stN A D T B lev j (f + 1) L sc n) {vs : List (List vaF)} {ρ2 : fEv} {s s' : fSt} {v : List vaF} {ρ' : fEv} (hl : scE A D T ρ2 m (s.2.1 + X) sc) (hv : vs.length = (A.2.2.2.2.2 n).length ∧ ∀ l ∈ vs, l.length = m) (hx : ∀ (i : Nat) (x : Int) (v : List vaF), (tl.take (A.2.2.2.2.2 n).length)[i]? = some x → vs[i]? = some v → exF (T x).toNat v ≤ s.2.1 + X) (e : fEbN (fxN A D T B O call f) (bTy A D T) n (O n 0) (O n 1) bd (tl.drop (A.2.2.2.2.2 n).length) m vs ρ2 s = .inr (v, s', ρ')) : exF (T n).toNat v ≤ s'.2.1 + X ∧ s.2.1 ≤ s'.2.1 := by
  obtain ⟨g1, g2, g4, gt⟩ := ea_ts h.1.1 k15 ea
  have nL : n ∈ L := fT_sub h.2.1 _ (by simp)
  have n0 := (stN_w h).2.1
  obtain ⟨v0, hv0⟩ : ∃ v, vs[0]? = some v := ⟨_, List.getElem?_eq_getElem (by omega)⟩
  obtain ⟨x0, hx0⟩ : ∃ x, (tl.take (A.2.2.2.2.2 n).length)[0]? = some x := ⟨_, List.getElem?_eq_getElem (by omega)⟩
  have e0 : vs.getD 0 [] = v0 := by rw [List.getD_eq_getElem?_getD, hv0]; rfl
  have l0 := hv.2 v0 (List.mem_of_getElem? hv0)
  have mX : (m : Int) ≤ s.2.1 + X := by
    have a1 := hx 0 x0 v0 hx0 hv0
    have a2 := exF_n (T x0).toNat v0
    omega
  have lnl : ((vs.getD 0 []).map (fun v => (itF v).length)).length = m := by rw [List.length_map, e0]; exact l0
  obtain ⟨Lb, hb, sb, -⟩ := stN_b0 hA hO h k15 ea (z := bd) (by simp)
  have Tb := (stN_w hb).2.2.1.1
  unfold fEbN at e
  by_cases c : (List.range m).any (fun i : Nat => vs.any (fun l => decide ((l.getD i (nmF 0)) [] ≠ ((vs.getD 0 []).getD i (nmF 0)) []))) = true
  · rw [if_pos c] at e; cases e
  rw [if_neg c] at e
  have hEa := eaE_i.mp c
  clear c
  have rpl := fRp_l lnl
  have egl : ∀ l' ∈ vs, (flF l').length = (fRp m ((vs.getD 0 []).map (fun v => (itF v).length))).length := fun l' hl' => eaE_l hEa hv.2 (by omega) hl'
  generalize hln : (vs.getD 0 []).map (fun v => (itF v).length) = ln at e lnl rpl egl
  have fin : ∀ (ln' : List Nat) (w : List vaF) (c : Int), ln'.length = m → ln'.sum = w.length → exF (T bd).toNat w ≤ c - m → exF (T n).toNat (fCt ln' w) ≤ c := fun ln' w c a1 a2 a3 => by
    rw [hT, show (T bd + 1).toNat = (T bd).toNat + 1 by omega, exF_s, fCt_f ln' w a2, fCt_l, a1]
    omega
  cases e2 : fCa (bTy A D T) (fRp m ln) (O n 0) s ρ2 with
  | inl w => rw [e2] at e; cases e
  | inr p =>
    obtain ⟨s3, ρ3⟩ := p
    rw [e2] at e
    simp only at e
    have q3 := fCa_s e2
    have hc3 := scE_c (X := X - m) hl ((hO n).1 0) e2 (by omega)
    have sc3 : scE A D T (fUs ρ3 (210 + 4 * n) 0 (vs.map flF)) (fRp m ln).length (s3.2.1 + (X - m)) (gsc n T 0 (tl.take (A.2.2.2.2.2 n).length) ++ sc.filter (fun p => decide (p.1 ∈ O n 0))) := fun p hp => by
      rcases List.mem_append.mp hp with q | q
      · obtain ⟨i, u, hu, ep⟩ := gsc_m _ _ _ q
        have hi := lt_of_get hu
        rw [g2] at hi
        obtain ⟨w, hw⟩ : ∃ w, vs[i]? = some w := ⟨_, List.getElem?_eq_getElem (by omega)⟩
        have e1 : p.1 = 210 + 4 * n + ((0 : Nat) : Int) + (i : Int) := by rw [ep]; simp only; omega
        have e2' : p.2 = T u - 1 := by rw [ep]
        have hu' : tl[i]? = some u := by rw [List.getElem?_take_of_lt hi] at hu; exact hu
        have bt := bTy_g (D := D) (T := T) ea hu' ⟨n0.1, by omega⟩ (by omega : i < 4)
        have Tu := ((stN_e hA h k15 ea).1 u (List.mem_of_getElem? hu)).2
        have xw := hx i u w hu hw
        have lw := hv.2 w (List.mem_of_getElem? hw)
        rw [show (T u).toNat = (T u - 1).toNat + 1 by omega, exF_s] at xw
        rw [e2', e1, fUs_at (v := flF w) (by rw [List.getElem?_map, hw]; rfl)]
        refine ⟨egl w (List.mem_of_getElem? hw), ?_, by omega⟩
        rw [← bt]
        congr 1
        omega
      · obtain ⟨a1, a2, a3⟩ := hc3 p q
        have nb := (h.2.2.2.2 p (List.mem_filter.mp q).1).2
        have ng : fUs ρ3 (210 + 4 * n) 0 (vs.map flF) p.1 = ρ3 p.1 := fUs_no (by
          rw [List.length_map, hv.1]
          by_cases q : p.1 < 210 + 4 * n + (0 : Nat)
          · exact Or.inl q
          · right
            refine Decidable.byContradiction (fun q2 => nb (Or.inl (Or.inr ⟨by omega, by omega, ?_⟩)))
            rw [show (p.1 - 210) / 4 = n by omega]; exact nL)
        rw [ng]
        exact ⟨a1, a2, a3⟩
    rcases gt with et | ⟨t, et⟩
    · rw [et] at e
      simp only at e
      cases e3 : fxN A D T B O call f bd (fRp m ln).length (fUs ρ3 (210 + 4 * n) 0 (vs.map flF)) s3 with
      | inl w => rw [e3] at e; cases e
      | inr p =>
        obtain ⟨v1, s4, ρ5⟩ := p
        rw [e3] at e
        simp only [Sum.inr.injEq, Prod.mk.injEq] at e
        obtain ⟨rfl, rfl, -⟩ := e
        obtain ⟨l1, -⟩ := hP bd Lb _ hb _ _ _ _ _ _ (fun p hp => (sc3 p hp).1) e3
        obtain ⟨x1, x2⟩ := hE bd Lb _ hb _ _ _ _ _ _ (X - m) sc3 (by omega) e3
        exact ⟨fin ln v1 _ lnl (by rw [l1, rpl]) (by omega), by omega⟩
    · rw [et] at e
      simp only at e
      obtain ⟨Lt, ht, st, -⟩ := stN_b0 hA hO h k15 ea (z := t) (by rw [et]; simp)
      have hb1 := stN_b1 hO k15 ea (by rw [et]; exact ht.2.1) hb
      cases e3 : fxN A D T B O call f t (fRp m ln).length (fUs ρ3 (210 + 4 * n) 0 (vs.map flF)) s3 with
      | inl w => rw [e3] at e; cases e
      | inr p =>
        obtain ⟨c1, s4, ρ5⟩ := p
        rw [e3] at e
        simp only at e
        obtain ⟨l1, kt⟩ := hP t Lt _ ht _ _ _ _ _ _ (fun p hp => (sc3 p hp).1) e3
        obtain ⟨-, x2⟩ := hE t Lt _ ht _ _ _ _ _ _ (X - m) sc3 (by omega) e3
        have sc4 := scE_u (c' := s4.2.1 + (X - m)) sc3 (by omega) (fun p hp => kt p.1 (ht.2.2.2.2 p hp).2)
        cases e4 : fCa (bTy A D T) (fWh true c1) (O n 1) s4 ρ5 with
        | inl w => rw [e4] at e; cases e
        | inr p =>
          obtain ⟨s5, ρ6⟩ := p
          rw [e4] at e
          simp only at e
          have q5 := fCa_s e4
          have sc5 := scE_c (X := X - m) sc4 ((hO n).1 1) e4 (by omega)
          cases e5 : fStp (m : Int) s5 with
          | none => rw [e5] at e; cases e
          | some s6 =>
            rw [e5] at e
            simp only at e
            obtain ⟨z1, z2, -⟩ := fStp_s e5
            cases e6 : fxN A D T B O call f bd (fWh true c1).length ρ6 s6 with
            | inl w => rw [e6] at e; cases e
            | inr p =>
              obtain ⟨v1, s7, ρ7⟩ := p
              rw [e6] at e
              simp only [Sum.inr.injEq, Prod.mk.injEq] at e
              obtain ⟨rfl, rfl, -⟩ := e
              have sc6 := scE_u (c' := s6.2.1 + (X - m)) sc5 (by omega) (fun p _ => rfl)
              obtain ⟨l2, -⟩ := hP bd Lb _ hb1 _ _ _ _ _ _ (fun p hp => (sc6 p hp).1) e6
              obtain ⟨x3, x4⟩ := hE bd Lb _ hb1 _ _ _ _ _ _ (X - m) sc6 (by omega) e6
              have ls : ln.sum = c1.length := by rw [l1, rpl]
              refine ⟨fin (ctL ln c1) v1 _ (by rw [ctL_l]; exact lnl) (by rw [ctL_s ls, l2, fWh_l]) (by omega), by omega⟩
theorem fe_ok {σ : sg_S} {r : Int} (hX : pgX σ A D T B) (hlv : lvP A D lev 0 r) (hO : okO A B O) (hc : cOk A D T B lev j call) (hcx : cXk A D T B lev j call) : ∀ f : Nat, fPx A D T B lev O call j f
  | 0 => fun n L sc h => h.1.elim
  | f + 1 => fun n L sc h m ρ s v s' ρ' X hl h0 e => by
    have hA := hX.2.2.2.2.1
    have hD := hX.2.1
    have hE := fe_ok hX hlv hO hc hcx f
    have hP : fPu A D T B lev O call j f := fun n L sc h => fx_ok hX hlv hO hc f n L sc h
    obtain ⟨w1, w2, w3, w4, w5, w6⟩ := stN_w h
    have sw : ∀ p ∈ sc, ¬ ow lev j L p.1 := fun p hp => (h.2.2.2.2 p hp).2
    have nL : n ∈ L := fT_sub h.2.1 _ (by simp)
    simp only [fxN] at e
    cases eb : fBg m s with
    | none => rw [eb] at e; cases e
    | some s1 =>
      rw [eb] at e
      simp only at e
      have es : s1.2.1 = s.2.1 := by
        unfold fBg at eb
        cases q : fStp 0 s with
        | none => rw [q] at eb; cases eb
        | some s0 =>
          rw [q] at eb
          obtain ⟨z1, z2, -⟩ := fStp_s q
          cases eb
          simp only; omega
      have hl1 : scE A D T ρ m (s1.2.1 + X) sc := by rw [es]; exact hl
      have sq : ∀ (R : List Int), (∀ x ∈ R, ∃ L', stN A D T B lev j f L' sc x ∧ ∀ y ∈ L', y ∈ L) → ∀ vs s2 ρ2, fSq (fun x => fxN A D T B O call f x m) R ρ s1 = .inr (vs, s2, ρ2) → (vs.length = R.length ∧ (∀ l ∈ vs, l.length = m) ∧ ∀ b, ¬ ow lev j L b → ρ2 b = ρ b) ∧ s1.2.1 ≤ s2.2.1 ∧ ∀ (i : Nat) (x : Int) (v : List vaF), R[i]? = some x → vs[i]? = some v → exF (T x).toNat v ≤ s2.2.1 + X := fun R hR vs s2 ρ2 es' => ⟨fx_sq (fun x L' hx ρ s v s' ρ' => hP x L' sc hx m ρ s v s' ρ') R hR sw ρ s1 vs s2 ρ2 (fun p hp => (hl p hp).1) es', fe_sq hP hE R hR sw ρ s1 vs s2 ρ2 hl1 (by omega) es'⟩
      by_cases k1 : A.2.1 n = 1
      · rw [if_pos k1] at e
        simp only [Sum.inr.injEq, Prod.mk.injEq] at e
        obtain ⟨rfl, rfl, -⟩ := e
        exact ⟨(hl1 _ (w4 k1)).2.2, by omega⟩
      rw [if_neg k1] at e
      by_cases k2 : A.2.1 n = 2
      · rw [if_pos k2] at e
        obtain ⟨a, c, ea⟩ := kid2 (w1.2.2.1 (Or.inl k2))
        rw [ea] at e
        simp only [List.getD_cons_zero, List.getD_cons_succ] at e
        obtain ⟨⟨La, ha, sa⟩, Lc, hc', scs⟩ := stN_l hA h k2 ea
        have e6 : T c = T n := by
          have := w5 (by omega)
          rw [kTy_2 k2, ea] at this
          simpa using this
        cases e1 : fxN A D T B O call f a m ρ s1 with
        | inl w => rw [e1] at e; cases e
        | inr p =>
          obtain ⟨v1, s2, ρ2⟩ := p
          rw [e1] at e
          simp only at e
          obtain ⟨l1, kp⟩ := hP a La sc ha m ρ s1 v1 s2 ρ2 (fun p hp => (hl p hp).1) e1
          obtain ⟨x1, x2⟩ := hE a La sc ha m ρ s1 v1 s2 ρ2 X hl1 (by omega) e1
          have nb : ∀ p ∈ sc, ¬ p.1 = n := fun p hp q => sw p hp (Or.inl (Or.inl ⟨by omega, by rw [q]; exact nL⟩))
          obtain ⟨x3, x4⟩ := hE c Lc _ hc' m _ s2 v s' ρ' X (fun p hp => by
            rcases List.mem_cons.mp hp with q | q
            · rw [q]; simp only [if_true]; exact ⟨l1, (bTy_l ea (by omega)).symm, x1⟩
            · obtain ⟨a1, a2, a3⟩ := hl1 p q
              rw [if_neg (nb p q), kp p.1 (ha.2.2.2.2 p q).2]
              exact ⟨a1, a2, by omega⟩) (by omega) e
          rw [e6] at x3
          exact ⟨x3, by omega⟩
      rw [if_neg k2] at e
      by_cases k3 : A.2.1 n = 3
      · rw [if_pos k3] at e
        have l3 := w1.2.2.2.1 k3
        obtain ⟨a, c, d, ea⟩ : ∃ a c d, A.2.2.2.2.1 n = [a, c, d] := by
          match e : A.2.2.2.2.1 n, l3 with
          | [a, c, d], _ => exact ⟨a, c, d, rfl⟩
        have g := w5 (by omega)
        rw [kTy_3 k3, ea] at g
        obtain ⟨g1, g2, g3⟩ := kIs_in g
        simp only [List.map_cons, List.getD_cons_succ, List.getD_cons_zero, Bool.and_eq_true, decide_eq_true_eq] at g1 g3
        rw [ea] at e
        simp only [List.getD_cons_zero, List.getD_cons_succ] at e
        obtain ⟨x1, x2⟩ := fe_if hA hO hP hE k3 ea g1 (by rw [g1]; exact g3.2) h hl1 (by omega) e
        exact ⟨x1, by omega⟩
      rw [if_neg k3] at e
      by_cases k13 : A.2.1 n = 13
      · rw [if_pos k13] at e
        cases es' : fSq (fun x => fxN A D T B O call f x m) (A.2.2.2.2.1 n) ρ s1 with
        | inl w => rw [es'] at e; cases e
        | inr p =>
          obtain ⟨vs, s2, ρ2⟩ := p
          rw [es'] at e
          simp only at e
          obtain ⟨⟨q1, q2, q3⟩, q4, q5⟩ := sq _ (fun x hx => stN_k h (by omega) (by omega) hx) vs s2 ρ2 es'
          have hD6 : ∀ (d : Nat) (y : aDf), D[d]? = some y → y.2.2.1.length ≤ 6 := fun d y hy => (hD.2.2 d y hy).2.2.2.2.1
          obtain ⟨d, y, L', ed, hy, dj, hst, how, hty, hTy, hsc⟩ := stN_call hX hlv h k13 hD.2.1 hD6
          have k6 := hD6 d y hy
          have klen : (A.2.2.2.2.1 n).length = y.2.2.1.length := by
            have := congrArg List.length hty
            simpa using this
          rw [ed] at e
          obtain ⟨x1, x2⟩ := hcx d y L' hy dj hst m _ s2 v s' ρ' X (fun p hp => by
            obtain ⟨i, u, hu, ep⟩ := hsc p hp
            have hi := lt_of_get hu
            obtain ⟨w, hw⟩ : ∃ w, vs[i]? = some w := ⟨_, List.getElem?_eq_getElem (by omega)⟩
            obtain ⟨x, hx⟩ : ∃ x, (A.2.2.2.2.1 n)[i]? = some x := ⟨_, List.getElem?_eq_getElem (by omega)⟩
            have e1 : T x = u.2.2 := by
              have q := congrArg (fun q => q[i]?) hty
              simp only [List.getElem?_map, hx, hu] at q
              simpa using q
            rw [ep]
            simp only
            rw [show (1100 : Int) + 6 * (d : Int) + (i : Int) = 1100 + 6 * (d : Int) + ((0 : Nat) : Int) + (i : Int) by omega, fUs_at hw]
            refine ⟨q2 w (List.mem_of_getElem? hw), ?_, ?_⟩
            · rw [show (1100 : Int) + 6 * (d : Int) + ((0 : Nat) : Int) + (i : Int) = 1100 + 6 * (d : Int) + (i : Int) by omega]
              exact (bTy_p hy hu (by omega)).symm
            · rw [← e1]; exact q5 i x w hx hw) (by omega) e
          rw [← hTy] at x1
          exact ⟨x1, by omega⟩
      rw [if_neg k13] at e
      by_cases k15 : A.2.1 n = 15
      · rw [if_pos k15] at e
        have g := (w1.2.2.2.2.2.2.1 k15).1
        obtain ⟨bd, tl, ea⟩ : ∃ bd tl, A.2.2.2.2.1 n = bd :: tl := by
          cases e : A.2.2.2.2.1 n with
          | nil => rw [e] at g; simp at g; omega
          | cons bd tl => exact ⟨bd, tl, rfl⟩
        have eg : kGs A n = tl.take (A.2.2.2.2.2 n).length := by unfold kGs; rw [ea]; rfl
        have ed : (A.2.2.2.2.1 n).drop (1 + (A.2.2.2.2.2 n).length) = tl.drop (A.2.2.2.2.2 n).length := by rw [ea, Nat.add_comm]; rfl
        have gg := w5 (by omega)
        rw [kTy_15 k15, ea] at gg
        obtain ⟨y1, y2, y3⟩ := kIs_in gg
        simp only [List.map_cons, List.getD_cons_zero] at y1 y2
        rw [eg, ed] at e
        have ebd : (A.2.2.2.2.1 n).getD 0 0 = bd := by rw [ea]; rfl
        rw [ebd] at e
        cases es' : fSq (fun x => fxN A D T B O call f x m) (tl.take (A.2.2.2.2.2 n).length) ρ s1 with
        | inl w => rw [es'] at e; cases e
        | inr p =>
          obtain ⟨vs, s2, ρ2⟩ := p
          rw [es'] at e
          simp only at e
          obtain ⟨⟨q1, q2, q3⟩, q4, q5⟩ := sq _ (fun x hx => ((stN_e hA h k15 ea).1 x hx).1) vs s2 ρ2 es'
          obtain ⟨x1, x2⟩ := fe_each hA hO hP hE k15 ea y1 h (scE_u (c' := s2.2.1 + X) hl1 (by omega) (fun p hp => q3 p.1 (sw p hp))) ⟨by rw [q1]; exact (ea_ts w1 k15 ea).2.1, q2⟩ q5 e
          exact ⟨x1, by omega⟩
      rw [if_neg k15] at e
      cases es' : fSq (fun x => fxN A D T B O call f x m) (A.2.2.2.2.1 n) ρ s1 with
      | inl w => rw [es'] at e; cases e
      | inr p =>
        obtain ⟨vs, s2, ρ2⟩ := p
        rw [es'] at e
        simp only at e
        obtain ⟨⟨q1, q2, q3⟩, q4, q5⟩ := sq _ (fun x hx => stN_k h k2 k15 hx) vs s2 ρ2 es'
        unfold fWk at e
        cases ef : fStp (exF (T n).toNat ((fOl (A.2.1 n) (T n) (sg_n (A.2.2.2.1 n)) vs m).map fOv)) s2 with
        | none => rw [ef] at e; cases e
        | some s3 =>
          rw [ef] at e
          simp only at e
          obtain ⟨z1, z2, -⟩ := fStp_s ef
          by_cases c0 : fOe (fOl (A.2.1 n) (T n) (sg_n (A.2.2.2.1 n)) vs m) = 0
          · rw [if_pos c0] at e
            simp only [Sum.inr.injEq, Prod.mk.injEq] at e
            obtain ⟨rfl, rfl, -⟩ := e
            have := exF_p (T n).toNat ((fOl (A.2.1 n) (T n) (sg_n (A.2.2.2.1 n)) vs m).map fOv)
            exact ⟨by omega, by omega⟩
          · rw [if_neg c0] at e; cases e
theorem cXk_all {σ : sg_S} {r : Int} (hX : pgX σ A D T B) (hlv : lvP A D lev 0 r) (hO : okO A B O) : ∀ j : Nat, cXk A D T B lev j (fxC A D T B O j) := by
  have key : ∀ (k : Nat) (j : Nat), j ≤ k → cXk A D T B lev j (fxC A D T B O j) := by
    intro k
    induction k with
    | zero =>
      intro j hj d y L' hy dj
      omega
    | succ k ih =>
      intro j hj d y L' hy dj hst m ρ s v s' ρ' X hl h0 e
      rw [fxC_e A D T B O j d dj] at e
      have ey : (D.getD d (0, 0, [], 0)).2.2.2 = y.2.2.2 := by rw [List.getD_eq_getElem?_getD, hy]; rfl
      rw [ey] at e
      exact fe_ok hX hlv hO (fxC_ok hX hlv hO d) (ih d (by omega)) 201 y.2.2.2 L' _ hst m ρ s v s' ρ' X hl h0 e
  exact fun j => key j j (Nat.le_refl _)
end BNT
