/-! THE FLAT RUN of the reference in big steps: let, calls. -/
section BFS
variable {A : aT} {D : List aDf} {T B : Int → Int} {lev : Int → Nat} {σb : sg_S} {X : sg_S → Prop} {O : Int → Nat → List Int} {call : Int → Nat → fEv → fSt → fRs} {j f : Nat}
/-- a part of node n is begun, its frame at stage st -/
theorem gpf (F : gfN A D T σb X B lev O call j f) (hP : fPu A D T B lev O call j f) {x n : Int} {L' : List Int} {sc : List (Int × Int)} (h : stN A D T B lev j f L' sc x) {σ3 : sg_S} {m l0 : Nat} {ρ : fEv} {fr st b bv l sv sv1 : Int} {s : fSt} (S3 : fSw σb σ3 (fr + 1) bv sv1 s) (hl : l0 ≤ 6000) (T3 : gfT σ3 fr n st b l sv) (hs : scFX A D T σ3 ρ l0 sc) (hm : 2 * (2000 - s.1) + fr ≤ (m : Int)) (k : ∀ r, fxN A D T B O call f x l0 ρ s = r → (∀ v s' ρ', r = .inr (v, s', ρ') → v.length = l0 ∧ ∀ b, ¬ ow lev j L' b → ρ' b = ρ b) → match r with
  | .inl (e, s') => ∀ σ', sg_F flL σb σ' → sg_g σ' 88 73 = e → ¬ e = 0 → fcX σ' s' → X σ'
  | .inr (v, s', ρ') => ∀ σ' m', fSs σb σ' (fr + 1) (bv + 1) sv1 s' → gfT σ' fr n st b l sv → sg_g σ' 147 fr = sg_g σ3 147 fr → fKp A D T σ3 σ' ρ ρ' fr bv sv1 → (∃ R, fX σ' 6000 (sg_g σ' 133 bv) (T x).toNat v R) → 2 * (2000 - s'.1) + (fr + 1) ≤ ((m' : Nat) : Int) → Rf X m' σ') {Q : sg_S → Prop} (hQ : ∀ σ', Rf X m σ' → Q σ') : V_flatBegin σ3 x (l0 : Int) Q := by
  refine F x L' sc h σ3 m l0 ρ (fr + 1) bv sv1 s S3 hl hs (by omega) ?_ Q hQ
  have k' := k _ rfl (fun v s' ρ' e => hP x L' sc h l0 ρ s v s' ρ' (fun p hp => (hs p hp).2.2.2) e)
  generalize fxN A D T B O call f x l0 ρ s = r at k'
  match r, k' with
  | .inl (e, w'), k' => exact k'
  | .inr (v, s1, ρ1), k' =>
    intro σ4 m4 S4 U4 v4 hm4
    obtain ⟨w1, w2, w3, w4, w5, w6⟩ := U4.2.2.2.1 fr (by omega)
    exact k' σ4 m4 S4 ⟨w1.trans T3.1, w2.trans T3.2.1, w3.trans T3.2.2.1, w4.trans T3.2.2.2.1, w5.trans T3.2.2.2.2⟩ w6 (fKp_t (fKp_r σ3 ρ (fr + 1) bv sv1) U4 ⟨by omega, by omega⟩ ⟨Int.le_refl _, Int.le_refl _⟩ ⟨Int.le_refl _, Int.le_refl _⟩) v4 hm4
/-- a stage is told -/
theorem gsf_w {σ σ3 : sg_S} {fr bv n s' st b l sv sv1 : Int} {s : fSt} {ρ : fEv} {b' : Int} (S : fSs σb σ (fr + 1) bv sv1 s) (hT : gfT σ fr n st b l sv) (hs : sg_R s') (e3 : σ3 = sg_w σ 127 fr s') : fSs σb σ3 (fr + 1) bv sv1 s ∧ gfT σ3 fr n s' b l sv ∧ sg_F [127] σ σ3 ∧ fKp A D T σ σ3 ρ ρ fr b' sv1 := by
  have f3 : sg_F [127] σ σ3 := by rw [e3]; exact sg_F_w (sg_F_r _ _) rfl _
  have bb := fS_b S
  refine ⟨fS_w S f3 rfl rfl (sg_F_m f3 rfl) (by rw [sg_F_g f3 (by rfl)]; exact S.2.2.1.2.1) ⟨by omega, Int.le_refl _⟩, ⟨by rw [sg_F_ga f3 rfl]; exact hT.1, by rw [e3, sg_gw_e _ _ _ _ hs], by rw [sg_F_ga f3 rfl]; exact hT.2.2.1, by rw [sg_F_ga f3 rfl]; exact hT.2.2.2.1, by rw [sg_F_ga f3 rfl]; exact hT.2.2.2.2⟩, f3, fKp_mk f3 rfl (fEx_F f3 rfl) (fun y _ => sg_F_ga f3 rfl) (fun i hi => by rw [e3, sg_gw_k _ _ _ _ _ _ (by omega)])⟩
theorem gfN_let {n : Int} {L : List Int} {sc : List (Int × Int)} (hX : pgX σb A D T B) (hP : fPu A D T B lev O call j f) (F : gfN A D T σb X B lev O call j f) (h : stN A D T B lev j (f + 1) L sc n) (k2 : A.2.1 n = 2) {σ : sg_S} {m l : Nat} {ρ : fEv} {fr b sv : Int} {s : fSt} (hS : fSw σb σ fr b sv s) (hl : l ≤ 6000) (hs : scFX A D T σ ρ l sc) (hm : 2 * (2000 - s.1) + fr ≤ (m : Int) + 1) (k : kF A D T σb X σ ρ fr b sv (T n).toNat (fxN A D T B O call (f + 1) n l ρ s)) {Q : sg_S → Prop} (hQ : ∀ σ', Rf X m σ' → Q σ') : V_flatBegin σ n (l : Int) Q := by
  obtain ⟨w1, w2, w3, w4, w5, w6⟩ := stN_w h
  have hA := hX.2.2.2.2.1
  have bb := fS_bw hS
  obtain ⟨a, c, ea⟩ := kid2 (w1.2.2.1 (Or.inl k2))
  obtain ⟨⟨La, ha, sa⟩, Lc, hc, scs⟩ := stN_l hA h k2 ea
  have e6 : T c = T n := by
    have := w5 (by omega)
    rw [kTy_2 k2, ea] at this
    simpa using this
  have btn : bTy A D T n = T a := bTy_l ea (by omega)
  have nL : n ∈ L := fT_sub h.2.1 _ (by simp)
  have sn : ∀ p ∈ sc, ¬ p.1 = n := fun p hp q => (h.2.2.2.2 p hp).2 (Or.inl (Or.inl ⟨by omega, by rw [q]; exact nL⟩))
  simp only [fxN] at k
  refine gfb_begin (A := A) (D := D) (T := T) (ρ := ρ) hS ⟨w2.1, by omega⟩ hl hQ (fun z σ' y1 y2 y3 y4 => ?_) (fun s1 z es1 es2 σ1 S1 T1 V1 v1 => ?_)
  · rw [z] at k; exact k σ' y1 y2 y3 y4
  rw [z] at k
  simp only at k
  rw [if_neg (by omega), if_pos k2, ea] at k
  simp only [List.getD_cons_zero, List.getD_cons_succ] at k
  have b1 := fS_b S1
  obtain ⟨m, rfl⟩ : ∃ m', m = m' + 1 := ⟨m - 1, by omega⟩
  refine rf_g (by rw [S1.2.2.1.1]; omega) S1.2.1 (fun Qz hz => gf_part (j := 0) (gFX hX S1.1) w2 S1.2.2.1.1 ⟨by omega, by omega⟩ T1 (by omega) (by omega) (fun z => by omega) (by rw [ea]; rfl) (fun σ3 e3 Q' hQ' => ?_))
  obtain ⟨S3, T3, f3, V3⟩ := gsf_w (A := A) (D := D) (T := T) (ρ := ρ) (b' := b) S1 T1 (by decide) e3
  have V13 := fKp_t V1 V3 ⟨Int.le_refl _, Int.le_refl _⟩ ⟨Int.le_refl _, Int.le_refl _⟩ ⟨Int.le_refl _, Int.le_refl _⟩
  refine gpf (m := m) F hP ha (fS_wk S3) hl T3 (scFX_u hs V13 (fun p _ => rfl)) (by omega) (fun r er hr => ?_) (fun σ' h' => hQ' σ' (fun _ => hz σ' h'))
  rw [er] at k
  match r, k, hr with
  | .inl (e, w'), k, _ => exact k
  | .inr (v, s2, ρ2), k, hr =>
    intro σ4 m4 S4 T4 q4 U4 v4 hm4
    obtain ⟨pl, pk⟩ := hr v s2 ρ2 rfl
    simp only at k
    have b4 := fS_b S4
    have V4 := fKp_t V13 U4 ⟨Int.le_refl _, Int.le_refl _⟩ ⟨Int.le_refl _, Int.le_refl _⟩ ⟨Int.le_refl _, Int.le_refl _⟩
    obtain ⟨m4, rfl⟩ : ∃ m', m4 = m' + 1 := ⟨m4 - 1, by omega⟩
    refine rf_g (by rw [S4.2.2.1.1]; omega) S4.2.1 (fun Qz hz => gf_let (x := b) (gFX hX S4.1) w2 S4.2.2.1.1 ⟨by omega, by omega⟩ T4 k2 (by rw [ea]; rfl) S4.2.2.1.2.1 ⟨by omega, by omega⟩ (fun σ9 σ13 e9 e13 Q' hQ' => ?_))
    have f13 : sg_F [127, 134, 71088] σ4 σ13 := by rw [e13, e9]; exact sg_F_w (sg_F_w (sg_F_w (sg_F_r _ _) rfl _) rfl _) rfl _
    have ex13 : fEx σ4 σ13 := fEx_F f13 rfl
    have g70 : sg_g σ13 88 70 = b := by rw [e13, sg_gw_c _ _ _ _ _ _ (by decide), e9, sg_gw_c _ _ _ _ _ _ (by decide), sg_gw_e _ _ _ _ ⟨by omega, by omega⟩]
    have cn : sg_g σ13 134 n = sg_g σ4 133 b := by rw [e13, sg_gw_c _ _ _ _ _ _ (by decide), e9, sg_gw_e _ _ _ _ (sg_Rg _ _ _)]
    have co : ∀ u, ¬ u = n → sg_g σ13 134 u = sg_g σ4 134 u := fun u hu => by rw [e13, sg_gw_c _ _ _ _ _ _ (by decide), e9, sg_gw_k _ _ _ _ _ _ hu, sg_gw_c _ _ _ _ _ _ (by decide)]
    have S13 : fSs σb σ13 (fr + 1) b sv s2 := fS_w S4 f13 rfl rfl (sg_F_m f13 rfl) g70 ⟨by omega, by omega⟩
    obtain ⟨p1, p2, p3, p4, p5⟩ := T4
    have T13 : gfT σ13 fr n 2 b l sv := ⟨by rw [sg_F_ga f13 rfl]; exact p1, by rw [e13, sg_gw_e _ _ _ _ ⟨by decide, by decide⟩], by rw [sg_F_ga f13 rfl]; exact p3, by rw [sg_F_ga f13 rfl]; exact p4, by rw [sg_F_ga f13 rfl]; exact p5⟩
    have rn : rlF A D T σ13 (fun x => if x = n then v else ρ2 x) n := by
      obtain ⟨R, hR⟩ := v4
      refine ⟨R, ?_⟩
      rw [cn, btn]
      show fX σ13 6000 (sg_g σ4 133 b) (T a).toNat (if n = n then v else ρ2 n) R
      rw [if_pos rfl]
      exact fX_up ex13 hR
    have V13' : fKp A D T σ4 σ13 ρ2 (fun x => if x = n then v else ρ2 x) fr b sv := ⟨ex13, fun x _ => sg_F_ga f13 rfl, fun y hy => by
      by_cases q : y = n
      · rw [q]; exact rn
      · exact rlF_up hy ex13 (co y q) (by simp only [if_neg q]), fun i hi => ⟨sg_F_ga f13 rfl, by rw [e13, sg_gw_k _ _ _ _ _ _ (by omega), e9, sg_gw_c _ _ _ _ _ _ (by decide), sg_gw_c _ _ _ _ _ _ (by decide)], sg_F_ga f13 rfl, sg_F_ga f13 rfl, sg_F_ga f13 rfl, sg_F_ga f13 rfl⟩, fun i _ => ⟨sg_F_ga f13 rfl, sg_F_ga f13 rfl⟩⟩
    have V5 := fKp_t V4 V13' ⟨Int.le_refl _, Int.le_refl _⟩ ⟨Int.le_refl _, Int.le_refl _⟩ ⟨Int.le_refl _, Int.le_refl _⟩
    have sc13 : scFX A D T σ13 (fun x => if x = n then v else ρ2 x) l ((n, T a) :: sc) := fun p hp => by
      rcases List.mem_cons.mp hp with q | q
      · rw [q]
        exact ⟨⟨w2.1, by simp only; omega⟩, btn.symm, rn, by simp only [if_true]; exact pl⟩
      · obtain ⟨c1, c2, c3, c4⟩ := hs p q
        refine ⟨c1, c2, V5.2.2.1 _ c3, ?_⟩
        simp only [if_neg (sn p q)]
        rw [pk p.1 (ha.2.2.2.2 p q).2]
        exact c4
    refine gpf (m := m4) F hP hc (fS_wk S13) hl T13 sc13 (by omega) (fun r er hr => ?_) (fun σ' h' => hQ' σ' (fun _ => hz σ' h'))
    rw [er] at k
    match r, k, hr with
    | .inl (e, w'), k, _ => exact k
    | .inr (v', s3, ρ3), k, hr =>
      intro σ5 m5 S5 T5 q5 U5 v5 hm5
      rw [e6] at v5
      have b5 := fS_b S5
      obtain ⟨m5, rfl⟩ : ∃ m', m5 = m' + 1 := ⟨m5 - 1, by omega⟩
      refine rf_g (by rw [S5.2.2.1.1]; omega) S5.2.1 (fun Qz hz => gf_val (gFX hX S5.1) w2 S5.2.2.1.1 ⟨by omega, by omega⟩ T5 (Or.inl ⟨k2, by rw [ea]; rfl, by decide⟩) ⟨by omega, by omega⟩ (fun σ18 e18 => ?_))
      exact gf_done (A := A) (D := D) (T := T) (X := X) (σ := σ) (ρ := ρ) (ρ2 := ρ3) (m := m5) S5 T5 ⟨by decide, by decide⟩ (by omega) ⟨by omega, by omega⟩ (fKp_t V5 U5 ⟨Int.le_refl _, Int.le_refl _⟩ ⟨Int.le_refl _, Int.le_refl _⟩ ⟨Int.le_refl _, Int.le_refl _⟩) (sg_Rg _ _ _) v5 e18 (by omega) k (fun σ' h _ => hz σ' h)
/-- a call of a DEF, once its PARAMS are bound -/
def cFr (A : aT) (D : List aDf) (T B : Int → Int) (lev : Int → Nat) (σb : sg_S) (X : sg_S → Prop) (call : Int → Nat → fEv → fSt → fRs) (j : Nat) : Prop := ∀ (d : Nat) (y : aDf) (L' : List Int), D[d]? = some y → d < j → stN A D T B lev d 201 L' (scZ (kPe y) (kPb d 0 y.2.2.1 [])) y.2.2.2 → ∀ (σ : sg_S) (m l : Nat) (ρ : fEv) (fr b sv : Int) (s : fSt), fSw σb σ fr b sv s → l ≤ 6000 → scFX A D T σ ρ l (scZ (kPe y) (kPb d 0 y.2.2.1 [])) → 2 * (2000 - s.1) + fr ≤ (m : Int) + 1 → kF A D T σb X σ ρ fr b sv (T y.2.2.2).toNat (call (d : Int) l ρ s) → ∀ Q : sg_S → Prop, (∀ σ', Rf X m σ' → Q σ') → V_flatBegin σ y.2.2.2 (l : Int) Q
/-- what is bound at once, from binder b0 on -/
theorem rlF_us {σ σ1 : sg_S} {ρ : fEv} {b0 : Int} {vs : List (List vaF)} (ex : fEx σ σ1) (hi : ∀ (j : Nat) (v : List vaF), vs[j]? = some v → ∃ R, fX σ1 6000 (sg_g σ1 134 (b0 + j)) (bTy A D T (b0 + j)).toNat v R) (ho : ∀ x, ¬ (b0 ≤ x ∧ x < b0 + vs.length) → sg_g σ1 134 x = sg_g σ 134 x) : (∀ j : Nat, j < vs.length → rlF A D T σ1 (fUs ρ b0 0 vs) (b0 + j)) ∧ ∀ x, rlF A D T σ ρ x → rlF A D T σ1 (fUs ρ b0 0 vs) x := by
  have h1 : ∀ j : Nat, j < vs.length → rlF A D T σ1 (fUs ρ b0 0 vs) (b0 + j) := fun j hj => by
    obtain ⟨v, hv'⟩ : ∃ v, vs[j]? = some v := ⟨_, List.getElem?_eq_getElem hj⟩
    have := fUs_at (b := b0) (ρ := ρ) (i := 0) hv'
    simp only [Int.ofNat_zero, Int.cast_ofNat_Int, Int.add_zero] at this
    unfold rlF
    rw [this]
    exact hi j v hv'
  refine ⟨h1, fun x hr => ?_⟩
  by_cases c : b0 ≤ x ∧ x < b0 + vs.length
  · have := h1 (x - b0).toNat (by omega)
    rw [show b0 + (((x - b0).toNat : Nat) : Int) = x by omega] at this
    exact this
  · exact rlF_up hr ex (ho x c) (fUs_no (ρ := ρ) (i := 0) (by simp only [Int.ofNat_zero, Int.cast_ofNat_Int, Int.add_zero]; omega))
theorem gfN_call {n : Int} {L : List Int} {sc : List (Int × Int)} {r0 : Int} (hX : pgX σb A D T B) (hlv : lvP A D lev 0 r0) (hP : fPu A D T B lev O call j f) (F : gfN A D T σb X B lev O call j f) (hC : cFr A D T B lev σb X call j) (h : stN A D T B lev j (f + 1) L sc n) (k13 : A.2.1 n = 13) {σ : sg_S} {m l : Nat} {ρ : fEv} {fr b sv : Int} {s : fSt} (hS : fSw σb σ fr b sv s) (hl : l ≤ 6000) (hs : scFX A D T σ ρ l sc) (hm : 2 * (2000 - s.1) + fr ≤ (m : Int) + 1) (k : kF A D T σb X σ ρ fr b sv (T n).toNat (fxN A D T B O call (f + 1) n l ρ s)) {Q : sg_S → Prop} (hQ : ∀ σ', Rf X m σ' → Q σ') : V_flatBegin σ n (l : Int) Q := by
  obtain ⟨w1, w2, w3, w4, w5, w6⟩ := stN_w h
  have hA := hX.2.2.2.2.1
  have bb := fS_bw hS
  have pu := fun (R : List Int) (hR : ∀ x ∈ R, ∃ L', stN A D T B lev j f L' sc x ∧ ∀ y ∈ L', y ∈ L) => fx_sq (O := O) (call := call) (m := l) (L := L) (fun x L' hx ρ s v s' ρ' => hP x L' sc hx l ρ s v s' ρ') R hR (fun p hp => (h.2.2.2.2 p hp).2)
  have hD := hX.2.1
  have hD6 : ∀ (d : Nat) (y : aDf), D[d]? = some y → y.2.2.1.length ≤ 6 := fun d y hy => (hD.2.2 d y hy).2.2.2.2.1
  obtain ⟨d, y, L', ed, hy, dj, hst, how, hty, hTy, hsc⟩ := stN_call hX hlv h k13 hD.2.1 hD6
  have k6 := hD6 d y hy
  have klen : (A.2.2.2.2.1 n).length = y.2.2.1.length := by
    have := congrArg List.length hty
    simpa using this
  have dl := gE_l hy
  have dl12 := hD.2.1
  simp only [fxN] at k
  refine gfb_begin (A := A) (D := D) (T := T) (ρ := ρ) hS ⟨w2.1, by omega⟩ hl hQ (fun z σ' y1 y2 y3 y4 => ?_) (fun s1 z es1 es2 σ1 S1 T1 V1 v1 => ?_)
  · rw [z] at k; exact k σ' y1 y2 y3 y4
  rw [z] at k
  simp only at k
  rw [if_neg (by omega), if_neg (by omega), if_neg (by omega), if_pos k13] at k
  have hs1 := scFX_u hs V1 (fun p _ => rfl)
  have pq := pu (A.2.2.2.2.1 n) (fun x hx => stN_k h (by omega) (by omega) hx) ρ s1
  refine gfRow hX hP F (sc := sc) (off := 0) w2 hl (gof_op w2 (by omega) (by omega) (by omega)) (A.2.2.2.2.1 n) 0 (fun i x hx => by rw [Nat.zero_add, Nat.zero_add]; exact hx) (fun c => by omega) (fun x hx => by obtain ⟨L', a, -⟩ := stN_k h (by omega) (by omega) hx; exact ⟨L', a⟩) σ1 m ρ fr b s1 (by simp only [Int.ofNat_zero, Int.cast_ofNat_Int, Int.add_zero]; exact S1) (by omega) (by omega) T1 hs1 (by omega) ?_
  generalize fSq (fun x => fxN A D T B O call f x l) (A.2.2.2.2.1 n) ρ s1 = r at k pq
  match r, k, pq with
  | .inl (e, w'), k, _ => exact k
  | .inr (vs, s2, ρ2), k, pq =>
    intro σ2 m2 l2 S2 T2 V2 v2 hm2
    obtain ⟨pl, pv, pk⟩ := pq vs s2 ρ2 (fun p hp => (hs1 p hp).2.2.2) rfl
    simp only [Int.ofNat_zero, Int.cast_ofNat_Int, Int.add_zero, Nat.zero_add] at S2 T2 V2 v2
    simp only at k
    rw [ed] at k
    have b2 := fS_b S2
    obtain ⟨a1, a2, ⟨a3, a4, a5⟩, c2, hN⟩ := id S2
    have hX2 := gFX hX a1
    obtain ⟨m2, rfl⟩ : ∃ m', m2 = m' + 1 := ⟨m2 - 1, by omega⟩
    refine rf_g (by omega) a2 (fun Qz hz => gf_call (q := (d : Int)) hX2 w2 a3 ⟨by omega, by omega⟩ T2 k13 rfl (by omega) ed ⟨by omega, by omega⟩ ⟨by omega, by omega⟩ (fun σ46 f46 p1 p2 p3 p4 p5 Q' hQ' => ?_))
    have ex46 : fEx σ2 σ46 := fEx_F f46 rfl
    have e105 := (hX2.2.1.2.2 d y hy).2.2.1
    rw [e105]
    have S46 : fSs σb σ46 (fr + 1) b sv s2 := fS_w S2 f46 rfl rfl (sg_F_m f46 rfl) p5 ⟨by omega, by omega⟩
    obtain ⟨t1, t2, t3, t4, t5⟩ := id T2
    have T46 : gfT σ46 fr n ((A.2.2.2.2.1 n).length + 1) b l sv := ⟨by rw [sg_F_ga f46 rfl]; exact t1, p3, by rw [sg_F_ga f46 rfl]; exact t3, by rw [sg_F_ga f46 rfl]; exact t4, by rw [sg_F_ga f46 rfl]; exact t5⟩
    obtain ⟨us1, us2⟩ := rlF_us (A := A) (D := D) (T := T) (σ := σ2) (σ1 := σ46) (ρ := ρ2) (b0 := 1100 + 6 * (d : Int)) (vs := vs) ex46 (fun i v hv => by
      have hi := gE_l hv
      obtain ⟨u, hu⟩ : ∃ u, y.2.2.1[i]? = some u := ⟨_, List.getElem?_eq_getElem (by omega)⟩
      obtain ⟨x, hx⟩ : ∃ x, (A.2.2.2.2.1 n)[i]? = some x := ⟨_, List.getElem?_eq_getElem (by omega)⟩
      have e1 : T x = u.2.2 := by
        have q := congrArg (fun q => q[i]?) hty
        simp only [List.getElem?_map, hx, hu] at q
        simpa using q
      obtain ⟨R, hR⟩ := v2 i x v hx hv
      rw [p1 i (by omega), bTy_p hy hu (by omega), ← e1]
      exact ⟨R, fX_up ex46 hR⟩) (fun x hx => p2 x (by omega))
    have V46 : fKp A D T σ2 σ46 ρ2 (fUs ρ2 (1100 + 6 * (d : Int)) 0 vs) fr b sv := ⟨ex46, fun x _ => sg_F_ga f46 rfl, us2, fun i hi => ⟨sg_F_ga f46 rfl, p4 i (by omega), sg_F_ga f46 rfl, sg_F_ga f46 rfl, sg_F_ga f46 rfl, sg_F_ga f46 rfl⟩, fun i _ => ⟨sg_F_ga f46 rfl, sg_F_ga f46 rfl⟩⟩
    have V5 := fKp_t V1 (fKp_t V2 V46 ⟨Int.le_refl _, Int.le_refl _⟩ ⟨Int.le_refl _, Int.le_refl _⟩ ⟨Int.le_refl _, Int.le_refl _⟩) ⟨Int.le_refl _, Int.le_refl _⟩ ⟨Int.le_refl _, Int.le_refl _⟩ ⟨Int.le_refl _, Int.le_refl _⟩
    refine hC d y L' hy dj hst σ46 m2 l (fUs ρ2 (1100 + 6 * (d : Int)) 0 vs) (fr + 1) b sv s2 (fS_wk S46) hl (fun p hp => ?_) (by omega) ?_ Q' (fun σ' h' => hQ' σ' (fun _ => hz σ' h'))
    · obtain ⟨i, u, hu, ep⟩ := hsc p hp
      have hi := gE_l hu
      obtain ⟨v, hv⟩ : ∃ v, vs[i]? = some v := ⟨_, List.getElem?_eq_getElem (by omega)⟩
      rw [ep]
      simp only
      refine ⟨⟨by omega, by omega⟩, (bTy_p hy hu (by omega)).symm, us1 i (by omega), ?_⟩
      rw [show (1100 : Int) + 6 * (d : Int) + (i : Int) = 1100 + 6 * (d : Int) + ((0 : Nat) : Int) + (i : Int) by omega, fUs_at hv]
      exact pv v (List.mem_of_getElem? hv)
    · generalize call (d : Int) l (fUs ρ2 (1100 + 6 * (d : Int)) 0 vs) s2 = r at k
      match r, k with
      | .inl (e, w'), k => exact k
      | .inr (v', s3, ρ3), k =>
        intro σ5 m5 S5 U5 v5 hm5
        rw [← hTy] at v5
        have b5 := fS_b S5
        obtain ⟨x1, x2, x3, x4, x5, x6⟩ := U5.2.2.2.1 fr (by omega)
        have T5 : gfT σ5 fr n ((A.2.2.2.2.1 n).length + 1) b l sv := ⟨x1.trans T46.1, x2.trans T46.2.1, x3.trans T46.2.2.1, x4.trans T46.2.2.2.1, x5.trans T46.2.2.2.2⟩
        obtain ⟨m5, rfl⟩ : ∃ m', m5 = m' + 1 := ⟨m5 - 1, by omega⟩
        refine rf_g (by rw [S5.2.2.1.1]; omega) S5.2.1 (fun Qz hz => gf_val (gFX hX S5.1) w2 S5.2.2.1.1 ⟨by omega, by omega⟩ T5 (Or.inr ⟨k13, rfl⟩) ⟨by omega, by omega⟩ (fun σ18 e18 => ?_))
        exact gf_done (A := A) (D := D) (T := T) (X := X) (σ := σ) (ρ := ρ) (ρ2 := ρ3) (m := m5) S5 T5 ⟨by omega, by omega⟩ (by omega) ⟨by omega, by omega⟩ (fKp_t V5 U5 ⟨Int.le_refl _, by omega⟩ ⟨Int.le_refl _, Int.le_refl _⟩ ⟨Int.le_refl _, Int.le_refl _⟩) (sg_Rg _ _ _) v5 e18 (by omega) k (fun σ' h _ => hz σ' h)
end BFS
