/-! THE FLAT RUN of the reference in big steps: operations, variables. -/
section BES
variable {A : aT} {D : List aDf} {T B : Int → Int} {lev : Int → Nat} {σb : sg_S} {X : sg_S → Prop} {O : Int → Nat → List Int} {call : Int → Nat → fEv → fSt → fRs} {j f : Nat}
/-- a value that is there leaves -/
theorem gf_done {σ σ2 σ18 : sg_S} {ρ ρ2 : fEv} {n fr b b2 st sv v : Int} {s : fSt} {d m l : Nat} {vf : List vaF} {Q : sg_S → Prop} (hS : fSs σb σ2 (fr + 1) b2 sv s) (hT : gfT σ2 fr n st b l sv) (hst : 0 ≤ st ∧ st ≤ 300) (f0 : 0 ≤ fr) (hb : 0 ≤ b ∧ b ≤ b2) (hV : fKp A D T σ σ2 ρ ρ2 fr b sv) (hv : sg_R v) (hr : ∃ R, fX σ2 6000 v d vf R) (e18 : σ18 = sg_w (sg_w σ2 127 fr (st + 1)) 88 102 (-1)) (hm : 2 * (2000 - s.1) + fr ≤ (m : Int)) (k : kF A D T σb X σ ρ fr b sv d (.inr (vf, s, ρ2))) (hQ : ∀ σ', Rf X m σ' → Q σ') : gfE σ18 v Q := by
  have F : sg_F [127, 103088] σ2 σ18 := by rw [e18]; exact sg_F_w (sg_F_w (sg_F_r _ _) rfl _) rfl _
  have ex : fEx σ2 σ18 := fEx_F F rfl
  obtain ⟨a1, a2, ⟨a3, a4, a5⟩, c, hN⟩ := id hS
  have bb := fS_b hS
  have S18 : fSs σb σ18 (fr + 1) b2 sv s := fS_w hS F rfl rfl (sg_F_m F rfl) (by rw [sg_F_g F (by rfl)]; exact a4) ⟨by omega, Int.le_refl _⟩
  obtain ⟨R, hR⟩ := hr
  refine gfE_c S18.2.1 (by rw [e18, sg_gw_e _ _ _ _ ⟨by decide, by decide⟩]; decide) (gfl_leave (A := A) (D := D) (T := T) (X := X) (σ := σ) (ρ := ρ) (ρ2 := ρ2) (vf := vf) (d := d) (m := m) (fS_wk S18) (fS_h S18) hb (by rw [sg_F_ga F rfl]; exact hT.2.2.1) f0 (fKp_t hV (fKp_mk F rfl ex (fun x _ => sg_F_ga F rfl) (fun i hi => by rw [e18, sg_gw_c _ _ _ _ _ _ (by decide), sg_gw_k _ _ _ _ _ _ (by omega)])) ⟨Int.le_refl _, Int.le_refl _⟩ ⟨Int.le_refl _, Int.le_refl _⟩ ⟨Int.le_refl _, Int.le_refl _⟩) hv ⟨R, fX_up ex hR⟩ hm k (fun σ' h _ => hQ σ' h))
theorem gfN_var {n : Int} {L : List Int} {sc : List (Int × Int)} (hX : pgX σb A D T B) (h : stN A D T B lev j (f + 1) L sc n) (k1 : A.2.1 n = 1) {σ : sg_S} {m l : Nat} {ρ : fEv} {fr b sv : Int} {s : fSt} (hS : fSw σb σ fr b sv s) (hl : l ≤ 6000) (hs : scFX A D T σ ρ l sc) (hm : 2 * (2000 - s.1) + fr ≤ (m : Int) + 1) (k : kF A D T σb X σ ρ fr b sv (T n).toNat (fxN A D T B O call (f + 1) n l ρ s)) {Q : sg_S → Prop} (hQ : ∀ σ', Rf X m σ' → Q σ') : V_flatBegin σ n (l : Int) Q := by
  obtain ⟨w1, w2, w3, w4, w5, w6⟩ := stN_w h
  have hA := hX.2.2.2.2.1
  have bb := fS_bw hS
  simp only [fxN] at k
  refine gfb_begin (A := A) (D := D) (T := T) (ρ := ρ) hS ⟨w2.1, by omega⟩ hl hQ (fun z σ' y1 y2 y3 y4 => ?_) (fun s1 z es1 es2 σ1 S1 T1 V1 v1 => ?_)
  · rw [z] at k; exact k σ' y1 y2 y3 y4
  rw [z] at k
  simp only at k
  rw [if_pos k1] at k
  have b1 := fS_b S1
  have hl0 := w1.2.1 (by omega)
  obtain ⟨q1, q2, q3, q4⟩ := hs _ (w4 k1)
  obtain ⟨R, hR⟩ := V1.2.2.1 _ q3
  simp only at q1 q2
  obtain ⟨m, rfl⟩ : ∃ m', m = m' + 1 := ⟨m - 1, by omega⟩
  refine rf_g (by rw [S1.2.2.1.1]; omega) S1.2.1 (fun Qz hz => gf_var (gFX hX S1.1) w2 S1.2.2.1.1 ⟨by omega, by omega⟩ T1 k1 hl0 q1 (fun σ18 e18 => ?_))
  refine gf_done (A := A) (D := D) (T := T) (X := X) (σ := σ) (ρ := ρ) (ρ2 := ρ) (m := m) S1 T1 ⟨by decide, by decide⟩ (by omega) ⟨by omega, Int.le_refl _⟩ V1 (sg_Rg _ _ _) ⟨R, ?_⟩ (by rw [e18]; rfl) (by omega) k (fun σ' h _ => hz σ' h)
  rw [q2]
  exact hR
theorem gfN_op {n : Int} {L : List Int} {sc : List (Int × Int)} (hX : pgX σb A D T B) (hP : fPu A D T B lev O call j f) (F : gfN A D T σb X B lev O call j f) (h : stN A D T B lev j (f + 1) L sc n) (hk : ¬ A.2.1 n = 1 ∧ ¬ A.2.1 n = 2 ∧ ¬ A.2.1 n = 3 ∧ ¬ A.2.1 n = 13 ∧ ¬ A.2.1 n = 15) {σ : sg_S} {m l : Nat} {ρ : fEv} {fr b sv : Int} {s : fSt} (hS : fSw σb σ fr b sv s) (hl : l ≤ 6000) (hs : scFX A D T σ ρ l sc) (hm : 2 * (2000 - s.1) + fr ≤ (m : Int) + 1) (k : kF A D T σb X σ ρ fr b sv (T n).toNat (fxN A D T B O call (f + 1) n l ρ s)) {Q : sg_S → Prop} (hQ : ∀ σ', Rf X m σ' → Q σ') : V_flatBegin σ n (l : Int) Q := by
  obtain ⟨w1, w2, w3, w4, w5, w6⟩ := stN_w h
  have hA := hX.2.2.2.2.1
  have bb := fS_bw hS
  obtain ⟨k1, k2, k3, k13, k15⟩ := id hk
  have pu := fun (R : List Int) (hR : ∀ x ∈ R, ∃ L', stN A D T B lev j f L' sc x ∧ ∀ y ∈ L', y ∈ L) => fx_sq (O := O) (call := call) (m := l) (L := L) (fun x L' hx ρ s v s' ρ' => hP x L' sc hx l ρ s v s' ρ') R hR (fun p hp => (h.2.2.2.2 p hp).2)
  simp only [fxN] at k
  refine gfb_begin (A := A) (D := D) (T := T) (ρ := ρ) hS ⟨w2.1, by omega⟩ hl hQ (fun z σ' y1 y2 y3 y4 => ?_) (fun s1 z es1 es2 σ1 S1 T1 V1 v1 => ?_)
  · rw [z] at k; exact k σ' y1 y2 y3 y4
  rw [z] at k
  simp only at k
  rw [if_neg k1, if_neg k2, if_neg k3, if_neg k13, if_neg k15] at k
  have hs1 := scFX_u hs V1 (fun p _ => rfl)
  have pq := pu (A.2.2.2.2.1 n) (fun x hx => stN_k h k2 k15 hx) ρ s1
  refine gfRow hX hP F (sc := sc) (off := 0) w2 hl (gof_op w2 k15 k3 k2) (A.2.2.2.2.1 n) 0 (fun i x hx => by rw [Nat.zero_add, Nat.zero_add]; exact hx) (fun c => absurd c k15) (fun x hx => by obtain ⟨L', a, -⟩ := stN_k h k2 k15 hx; exact ⟨L', a⟩) σ1 m ρ fr b s1 (by simp only [Int.ofNat_zero, Int.cast_ofNat_Int, Int.add_zero]; exact S1) (by omega) (by omega) T1 hs1 (by omega) ?_
  generalize fSq (fun x => fxN A D T B O call f x l) (A.2.2.2.2.1 n) ρ s1 = r at k pq
  match r, k, pq with
  | .inl (e, w'), k, _ => exact k
  | .inr (vs, s2, ρ2), k, pq =>
    intro σ2 m2 l2 S2 T2 V2 v2 hm2
    obtain ⟨pl, pv, pk⟩ := pq vs s2 ρ2 (fun p hp => (hs1 p hp).2.2.2) rfl
    simp only [Int.ofNat_zero, Int.cast_ofNat_Int, Int.add_zero, Nat.zero_add] at S2 T2 V2 v2
    simp only at k
    have b2 := fS_b S2
    obtain ⟨a1, a2, ⟨a3, a4, a5⟩, c2, hN⟩ := id S2
    have hX2 := gFX hX a1
    obtain ⟨t1, t2, t3, t4, t5⟩ := tr_k hX2.1 w2
    obtain ⟨m2, rfl⟩ : ∃ m', m2 = m' + 1 := ⟨m2 - 1, by omega⟩
    refine rf_g (by omega) a2 (fun Qz hz => gf_op hX2 w2 a3 ⟨by omega, by omega⟩ T2 hk rfl (fun σ18 e18 P hP' => ?_))
    have F18 : sg_F [127, 103088] σ2 σ18 := by rw [e18]; exact sg_F_w (sg_F_w (sg_F_r _ _) rfl _) rfl _
    have ex18 : fEx σ2 σ18 := fEx_F F18 rfl
    have S18 : fSs σb σ18 (fr + 1) (b + (A.2.2.2.2.1 n).length) sv s2 := fS_w S2 F18 rfl rfl (sg_F_m F18 rfl) (by rw [sg_F_g F18 (by rfl)]; exact a4) ⟨by omega, Int.le_refl _⟩
    have hX18 := gFX hX S18.1
    have w95 : sg_gl σ18 95 n = A.2.2.2.1 n := (hX18.1.1.2.2.2 n w2.1 w2.2).2.2.1
    refine m_fWkX (A := A) (T := T) (ds := kDl (D.take j) []) (vs := vs) (s := s2) ⟨w2.1, by omega⟩ w1 (by rw [sg_F_ga F18 rfl]; exact t1) (by rw [sg_F_ga F18 rfl]; exact t2) t3 w95 (w5 k1) (fun x hx => by
      obtain ⟨L', a, -⟩ := stN_k h k2 k15 hx
      exact (stN_w a).2.2.1) hk ⟨by rw [List.length_map]; exact l2, fun i x hx => ?_⟩ (by omega) S18.2.2.1.2.1 (by rw [S18.2.2.1.2.1]; omega) (fS_c S18) S18.2.2.2.1 (Or.inl ⟨rfl, by rw [e18, sg_gw_e _ _ _ _ ⟨by decide, by decide⟩]; decide⟩) hl (fun q σ3 rq ho hx f3 => hP' q σ3 rq f3 ?_)
    · rw [List.getElem?_map] at hx
      cases e : (A.2.2.2.2.1 n)[i]? with
      | none => rw [e] at hx; cases hx
      | some y =>
        rw [e] at hx
        cases hx
        have hi := gE_l e
        obtain ⟨v, hv⟩ : ∃ v, vs[i]? = some v := ⟨_, List.getElem?_eq_getElem (by omega)⟩
        obtain ⟨R', hR'⟩ := v2 i y v e hv
        have ev : vs.getD i [] = v := by rw [List.getD_eq_getElem?_getD, hv]; rfl
        rw [ev, sg_F_ga (a := 133) F18 rfl]
        exact ⟨R', fX_up ex18 hR', pv v (List.mem_of_getElem? hv)⟩
    · have FF : sg_F [127, 133, 135, 139, 140, 141, 142, 143, 144, 150, 74088, 85088, 86088, 88088, 92088, 94088, 103088, 104088] σ2 σ3 := sg_F_t (sg_F_m F18 rfl) (sg_F_m f3 rfl)
      have FL : sg_F flL σb σ3 := sg_F_t a1 (sg_F_m FF rfl)
      have z18 := S18.2.1
      unfold fWk at k
      rcases ho with ⟨o1, o2, o3⟩ | ⟨s3, o1, ⟨o2, o3, o4⟩, ex3, o5, o6, o7⟩
      · rw [o1] at k
        exact gfE_a (by rw [o2]; decide) (fun _ => hz σ3 (rf_s (by rw [o2]; decide) (k σ3 FL o2 (by decide) o3)))
      · rw [o1] at k
        simp only at k
        have o2' := o2.trans z18
        by_cases c0 : fOe (fOl (A.2.1 n) (T n) (sg_n (A.2.2.2.1 n)) vs l) = 0
        · rw [if_pos c0] at k
          obtain ⟨y1, y2, y3, y4, y5⟩ := fStp_s o1
          have o5' := o5 c0
          rw [c0] at o4
          have z102 : sg_g σ3 88 102 < 0 := by
            rcases o4 with q | q
            · exact q.2
            · exact absurd rfl q.1
          obtain ⟨hI, hB, n1, n2, n3⟩ := S18.2.2.2.2
          obtain ⟨i1, i2, i3, i4, i5⟩ := hI
          have c18 := S18.2.2.2.1
          have g62 : sg_g σ3 88 62 = sg_g σ18 88 62 := sg_F_g f3 (by rfl)
          have g70 : sg_g σ3 88 70 = sg_g σ18 88 70 := sg_F_g f3 (by rfl)
          have g99 : sg_g σ3 88 99 = sg_g σ18 88 99 := sg_F_g f3 (by rfl)
          have ex1 := ex3.1
          have h84 := o3.1
          have h85 := o3.2.1
          have h4 := o3.2.2.2
          have p84 := c18.1
          have p85 := c18.2.1
          have S3 : fSs σb σ3 (fr + 1) (b + (A.2.2.2.2.1 n).length) sv s3 := ⟨FL, o2', ⟨by rw [g62]; exact S18.2.2.1.1, by rw [g70]; exact S18.2.2.1.2.1, by rw [g99]; exact S18.2.2.1.2.2⟩, o3, ⟨⟨by omega, by omega⟩, ⟨by omega, by omega⟩, ⟨by omega, by omega⟩, ⟨by omega, by omega, by omega⟩, by omega, by omega⟩, fun i x y => by rw [sg_F_ga f3 rfl]; exact hB i x (by omega), by omega, by omega, by omega⟩
          have V3 : fKp A D T σ2 σ3 ρ2 ρ2 fr b sv := fKp_mk FF rfl (fEx_t ex18 ex3) (fun x hx' => by rw [hx x (by rw [S18.2.2.1.2.1]; omega), sg_F_ga F18 rfl]) (fun i hi => by rw [sg_F_ga f3 rfl, e18, sg_gw_c _ _ _ _ _ _ (by decide), sg_gw_k _ _ _ _ _ _ (by omega)])
          exact gfE_c o2' z102 (gfl_leave (A := A) (D := D) (T := T) (X := X) (σ := σ) (ρ := ρ) (ρ2 := ρ2) (d := (T n).toNat) (m := m2) (fS_wk S3) (fS_h S3) ⟨by omega, by omega⟩ (by rw [sg_F_ga FF rfl]; exact T2.2.2.1) (by omega) (fKp_t V1 (fKp_t V2 V3 ⟨Int.le_refl _, Int.le_refl _⟩ ⟨Int.le_refl _, Int.le_refl _⟩ ⟨Int.le_refl _, Int.le_refl _⟩) ⟨Int.le_refl _, Int.le_refl _⟩ ⟨Int.le_refl _, Int.le_refl _⟩ ⟨Int.le_refl _, Int.le_refl _⟩) rq (o7 c0) (by omega) k (fun σ' h _ _ => hz σ' h))
        · rw [if_neg c0] at k
          exact gfE_b o2' o4 c0 (fun σ43 c43 f43 _ => hz σ43 (rf_s (by rw [c43]; exact c0) (k σ43 (sg_F_t FL (sg_F_m f43 rfl)) c43 c0 (fcX_F f43 rfl o3))))
end BES
/-! THE FLAT RUN of the reference in big steps: let, calls. -/
section BFS
variable {A : aT} {D : List aDf} {T B : Int → Int} {lev : Int → Nat} {σb : sg_S} {X : sg_S → Prop} {O : Int → Nat → List Int} {call : Int → Nat → fEv → fSt → fRs} {j f : Nat}
/-- a part of node n is begun, its frame at stage st -/
theorem gpf (F : gfN A D T σb X B lev O call j f) (hP : fPu A D T B lev O call j f) {x n : Int} {L' : List Int} {sc : List (Int × Int)} (h : stN A D T B lev j f L' sc x) {σ3 : sg_S} {m l0 : Nat} {ρ : fEv} {fr st b bv l sv sv1 : Int} {s : fSt} (S3 : fSw σb σ3 (fr + 1) bv sv1 s) (hl : l0 ≤ 6000) (T3 : gfT σ3 fr n st b l sv) (hs : scFX A D T σ3 ρ l0 sc) (hm : 2 * (2000 - s.1) + fr ≤ (m : Int)) (k : ∀ r, fxN A D T B O call f x l0 ρ s = r → (∀ v s' ρ', r = .inr (v, s', ρ') → v.length = l0 ∧ ∀ b, ¬ ow lev j L' b → ρ' b = ρ b) → match r with
  | .inl (e, s') => ∀ σ', sg_F flL σb σ' → sg_g σ' 88 73 = e → ¬ e = 0 → fcX σ' s' → X σ'
  | .inr (v, s', ρ') => ∀ σ' m', fSs σb σ' (fr + 1) (bv + 1) sv1 s' → gfT σ' fr n st b l sv → sg_g σ' 147 fr = sg_g σ3 147 fr → fKp A D T σ3 σ' ρ ρ' fr bv sv1 → (∃ R, fX σ' 6000 (sg_g σ' 133 bv) (T x).toNat v R) → 2 * (2000 - s'.1) + (fr + 1) ≤ ((m' : Nat) : Int) → Rf X m' σ') {Q : sg_S → Prop} (hQ : ∀ σ', Rf X m σ' → Q σ') : V_flatBegin σ3 x (l0 : Int) Q := by
  refine F x L' sc h σ3 m l0 ρ (fr + 1) bv sv1 s S3 hl hs (by omega) ?_ Q hQ
  have k' := k _ rfl (fun v s' ρ' e => hP x L' sc h l0 ρ s v s' ρ' (fun p hp => (hs p hp).2.2.2) e)
  generalize fxN A D T B O call f x l0 ρ s = r at k'
  match r, k' with
  | .inl (e, w'), k' => exact k'
  | .inr (v, s1, ρ1), k' =>
    intro σ4 m4 S4 U4 v4 hm4
    obtain ⟨w1, w2, w3, w4, w5, w6⟩ := U4.2.2.2.1 fr (by omega)
    exact k' σ4 m4 S4 ⟨w1.trans T3.1, w2.trans T3.2.1, w3.trans T3.2.2.1, w4.trans T3.2.2.2.1, w5.trans T3.2.2.2.2⟩ w6 (fKp_t (fKp_r σ3 ρ (fr + 1) bv sv1) U4 ⟨by omega, by omega⟩ ⟨Int.le_refl _, Int.le_refl _⟩ ⟨Int.le_refl _, Int.le_refl _⟩) v4 hm4
/-- a stage is told -/
theorem gsf_w {σ σ3 : sg_S} {fr bv n s' st b l sv sv1 : Int} {s : fSt} {ρ : fEv} {b' : Int} (S : fSs σb σ (fr + 1) bv sv1 s) (hT : gfT σ fr n st b l sv) (hs : sg_R s') (e3 : σ3 = sg_w σ 127 fr s') : fSs σb σ3 (fr + 1) bv sv1 s ∧ gfT σ3 fr n s' b l sv ∧ sg_F [127] σ σ3 ∧ fKp A D T σ σ3 ρ ρ fr b' sv1 := by
  have f3 : sg_F [127] σ σ3 := by rw [e3]; exact sg_F_w (sg_F_r _ _) rfl _
  have bb := fS_b S
  refine ⟨fS_w S f3 rfl rfl (sg_F_m f3 rfl) (by rw [sg_F_g f3 (by rfl)]; exact S.2.2.1.2.1) ⟨by omega, Int.le_refl _⟩, ⟨by rw [sg_F_ga f3 rfl]; exact hT.1, by rw [e3, sg_gw_e _ _ _ _ hs], by rw [sg_F_ga f3 rfl]; exact hT.2.2.1, by rw [sg_F_ga f3 rfl]; exact hT.2.2.2.1, by rw [sg_F_ga f3 rfl]; exact hT.2.2.2.2⟩, f3, fKp_mk f3 rfl (fEx_F f3 rfl) (fun y _ => sg_F_ga f3 rfl) (fun i hi => by rw [e3, sg_gw_k _ _ _ _ _ _ (by omega)])⟩
theorem gfN_let {n : Int} {L : List Int} {sc : List (Int × Int)} (hX : pgX σb A D T B) (hP : fPu A D T B lev O call j f) (F : gfN A D T σb X B lev O call j f) (h : stN A D T B lev j (f + 1) L sc n) (k2 : A.2.1 n = 2) {σ : sg_S} {m l : Nat} {ρ : fEv} {fr b sv : Int} {s : fSt} (hS : fSw σb σ fr b sv s) (hl : l ≤ 6000) (hs : scFX A D T σ ρ l sc) (hm : 2 * (2000 - s.1) + fr ≤ (m : Int) + 1) (k : kF A D T σb X σ ρ fr b sv (T n).toNat (fxN A D T B O call (f + 1) n l ρ s)) {Q : sg_S → Prop} (hQ : ∀ σ', Rf X m σ' → Q σ') : V_flatBegin σ n (l : Int) Q := by
  obtain ⟨w1, w2, w3, w4, w5, w6⟩ := stN_w h
  have hA := hX.2.2.2.2.1
  have bb := fS_bw hS
  obtain ⟨a, c, ea⟩ := kid2 (w1.2.2.1 (Or.inl k2))
  obtain ⟨⟨La, ha, sa⟩, Lc, hc, scs⟩ := stN_l hA h k2 ea
  have e6 : T c = T n := by
    have := w5 (by omega)
    rw [kTy_2 k2, ea] at this
    simpa using this
  have btn : bTy A D T n = T a := bTy_l ea (by omega)
  have nL : n ∈ L := fT_sub h.2.1 _ (by simp)
  have sn : ∀ p ∈ sc, ¬ p.1 = n := fun p hp q => (h.2.2.2.2 p hp).2 (Or.inl (Or.inl ⟨by omega, by rw [q]; exact nL⟩))
  simp only [fxN] at k
  refine gfb_begin (A := A) (D := D) (T := T) (ρ := ρ) hS ⟨w2.1, by omega⟩ hl hQ (fun z σ' y1 y2 y3 y4 => ?_) (fun s1 z es1 es2 σ1 S1 T1 V1 v1 => ?_)
  · rw [z] at k; exact k σ' y1 y2 y3 y4
  rw [z] at k
  simp only at k
  rw [if_neg (by omega), if_pos k2, ea] at k
  simp only [List.getD_cons_zero, List.getD_cons_succ] at k
  have b1 := fS_b S1
  obtain ⟨m, rfl⟩ : ∃ m', m = m' + 1 := ⟨m - 1, by omega⟩
  refine rf_g (by rw [S1.2.2.1.1]; omega) S1.2.1 (fun Qz hz => gf_part (j := 0) (gFX hX S1.1) w2 S1.2.2.1.1 ⟨by omega, by omega⟩ T1 (by omega) (by omega) (fun z => by omega) (by rw [ea]; rfl) (fun σ3 e3 Q' hQ' => ?_))
  obtain ⟨S3, T3, f3, V3⟩ := gsf_w (A := A) (D := D) (T := T) (ρ := ρ) (b' := b) S1 T1 (by decide) e3
  have V13 := fKp_t V1 V3 ⟨Int.le_refl _, Int.le_refl _⟩ ⟨Int.le_refl _, Int.le_refl _⟩ ⟨Int.le_refl _, Int.le_refl _⟩
  refine gpf (m := m) F hP ha (fS_wk S3) hl T3 (scFX_u hs V13 (fun p _ => rfl)) (by omega) (fun r er hr => ?_) (fun σ' h' => hQ' σ' (fun _ => hz σ' h'))
  rw [er] at k
  match r, k, hr with
  | .inl (e, w'), k, _ => exact k
  | .inr (v, s2, ρ2), k, hr =>
    intro σ4 m4 S4 T4 q4 U4 v4 hm4
    obtain ⟨pl, pk⟩ := hr v s2 ρ2 rfl
    simp only at k
    have b4 := fS_b S4
    have V4 := fKp_t V13 U4 ⟨Int.le_refl _, Int.le_refl _⟩ ⟨Int.le_refl _, Int.le_refl _⟩ ⟨Int.le_refl _, Int.le_refl _⟩
    obtain ⟨m4, rfl⟩ : ∃ m', m4 = m' + 1 := ⟨m4 - 1, by omega⟩
    refine rf_g (by rw [S4.2.2.1.1]; omega) S4.2.1 (fun Qz hz => gf_let (x := b) (gFX hX S4.1) w2 S4.2.2.1.1 ⟨by omega, by omega⟩ T4 k2 (by rw [ea]; rfl) S4.2.2.1.2.1 ⟨by omega, by omega⟩ (fun σ9 σ13 e9 e13 Q' hQ' => ?_))
    have f13 : sg_F [127, 134, 71088] σ4 σ13 := by rw [e13, e9]; exact sg_F_w (sg_F_w (sg_F_w (sg_F_r _ _) rfl _) rfl _) rfl _
    have ex13 : fEx σ4 σ13 := fEx_F f13 rfl
    have g70 : sg_g σ13 88 70 = b := by rw [e13, sg_gw_c _ _ _ _ _ _ (by decide), e9, sg_gw_c _ _ _ _ _ _ (by decide), sg_gw_e _ _ _ _ ⟨by omega, by omega⟩]
    have cn : sg_g σ13 134 n = sg_g σ4 133 b := by rw [e13, sg_gw_c _ _ _ _ _ _ (by decide), e9, sg_gw_e _ _ _ _ (sg_Rg _ _ _)]
    have co : ∀ u, ¬ u = n → sg_g σ13 134 u = sg_g σ4 134 u := fun u hu => by rw [e13, sg_gw_c _ _ _ _ _ _ (by decide), e9, sg_gw_k _ _ _ _ _ _ hu, sg_gw_c _ _ _ _ _ _ (by decide)]
    have S13 : fSs σb σ13 (fr + 1) b sv s2 := fS_w S4 f13 rfl rfl (sg_F_m f13 rfl) g70 ⟨by omega, by omega⟩
    obtain ⟨p1, p2, p3, p4, p5⟩ := T4
    have T13 : gfT σ13 fr n 2 b l sv := ⟨by rw [sg_F_ga f13 rfl]; exact p1, by rw [e13, sg_gw_e _ _ _ _ ⟨by decide, by decide⟩], by rw [sg_F_ga f13 rfl]; exact p3, by rw [sg_F_ga f13 rfl]; exact p4, by rw [sg_F_ga f13 rfl]; exact p5⟩
    have rn : rlF A D T σ13 (fun x => if x = n then v else ρ2 x) n := by
      obtain ⟨R, hR⟩ := v4
      refine ⟨R, ?_⟩
      rw [cn, btn]
      show fX σ13 6000 (sg_g σ4 133 b) (T a).toNat (if n = n then v else ρ2 n) R
      rw [if_pos rfl]
      exact fX_up ex13 hR
    have V13' : fKp A D T σ4 σ13 ρ2 (fun x => if x = n then v else ρ2 x) fr b sv := ⟨ex13, fun x _ => sg_F_ga f13 rfl, fun y hy => by
      by_cases q : y = n
      · rw [q]; exact rn
      · exact rlF_up hy ex13 (co y q) (by simp only [if_neg q]), fun i hi => ⟨sg_F_ga f13 rfl, by rw [e13, sg_gw_k _ _ _ _ _ _ (by omega), e9, sg_gw_c _ _ _ _ _ _ (by decide), sg_gw_c _ _ _ _ _ _ (by decide)], sg_F_ga f13 rfl, sg_F_ga f13 rfl, sg_F_ga f13 rfl, sg_F_ga f13 rfl⟩, fun i _ => ⟨sg_F_ga f13 rfl, sg_F_ga f13 rfl⟩⟩
    have V5 := fKp_t V4 V13' ⟨Int.le_refl _, Int.le_refl _⟩ ⟨Int.le_refl _, Int.le_refl _⟩ ⟨Int.le_refl _, Int.le_refl _⟩
    have sc13 : scFX A D T σ13 (fun x => if x = n then v else ρ2 x) l ((n, T a) :: sc) := fun p hp => by
      rcases List.mem_cons.mp hp with q | q
      · rw [q]
        exact ⟨⟨w2.1, by simp only; omega⟩, btn.symm, rn, by simp only [if_true]; exact pl⟩
      · obtain ⟨c1, c2, c3, c4⟩ := hs p q
        refine ⟨c1, c2, V5.2.2.1 _ c3, ?_⟩
        simp only [if_neg (sn p q)]
        rw [pk p.1 (ha.2.2.2.2 p q).2]
        exact c4
    refine gpf (m := m4) F hP hc (fS_wk S13) hl T13 sc13 (by omega) (fun r er hr => ?_) (fun σ' h' => hQ' σ' (fun _ => hz σ' h'))
    rw [er] at k
    match r, k, hr with
    | .inl (e, w'), k, _ => exact k
    | .inr (v', s3, ρ3), k, hr =>
      intro σ5 m5 S5 T5 q5 U5 v5 hm5
      rw [e6] at v5
      have b5 := fS_b S5
      obtain ⟨m5, rfl⟩ : ∃ m', m5 = m' + 1 := ⟨m5 - 1, by omega⟩
      refine rf_g (by rw [S5.2.2.1.1]; omega) S5.2.1 (fun Qz hz => gf_val (gFX hX S5.1) w2 S5.2.2.1.1 ⟨by omega, by omega⟩ T5 (Or.inl ⟨k2, by rw [ea]; rfl, by decide⟩) ⟨by omega, by omega⟩ (fun σ18 e18 => ?_))
      exact gf_done (A := A) (D := D) (T := T) (X := X) (σ := σ) (ρ := ρ) (ρ2 := ρ3) (m := m5) S5 T5 ⟨by decide, by decide⟩ (by omega) ⟨by omega, by omega⟩ (fKp_t V5 U5 ⟨Int.le_refl _, Int.le_refl _⟩ ⟨Int.le_refl _, Int.le_refl _⟩ ⟨Int.le_refl _, Int.le_refl _⟩) (sg_Rg _ _ _) v5 e18 (by omega) k (fun σ' h _ => hz σ' h)
/-- a call of a DEF, once its PARAMS are bound -/
def cFr (A : aT) (D : List aDf) (T B : Int → Int) (lev : Int → Nat) (σb : sg_S) (X : sg_S → Prop) (call : Int → Nat → fEv → fSt → fRs) (j : Nat) : Prop := ∀ (d : Nat) (y : aDf) (L' : List Int), D[d]? = some y → d < j → stN A D T B lev d 201 L' (scZ (kPe y) (kPb d 0 y.2.2.1 [])) y.2.2.2 → ∀ (σ : sg_S) (m l : Nat) (ρ : fEv) (fr b sv : Int) (s : fSt), fSw σb σ fr b sv s → l ≤ 6000 → scFX A D T σ ρ l (scZ (kPe y) (kPb d 0 y.2.2.1 [])) → 2 * (2000 - s.1) + fr ≤ (m : Int) + 1 → kF A D T σb X σ ρ fr b sv (T y.2.2.2).toNat (call (d : Int) l ρ s) → ∀ Q : sg_S → Prop, (∀ σ', Rf X m σ' → Q σ') → V_flatBegin σ y.2.2.2 (l : Int) Q
/-- what is bound at once, from binder b0 on -/
theorem rlF_us {σ σ1 : sg_S} {ρ : fEv} {b0 : Int} {vs : List (List vaF)} (ex : fEx σ σ1) (hi : ∀ (j : Nat) (v : List vaF), vs[j]? = some v → ∃ R, fX σ1 6000 (sg_g σ1 134 (b0 + j)) (bTy A D T (b0 + j)).toNat v R) (ho : ∀ x, ¬ (b0 ≤ x ∧ x < b0 + vs.length) → sg_g σ1 134 x = sg_g σ 134 x) : (∀ j : Nat, j < vs.length → rlF A D T σ1 (fUs ρ b0 0 vs) (b0 + j)) ∧ ∀ x, rlF A D T σ ρ x → rlF A D T σ1 (fUs ρ b0 0 vs) x := by
  have h1 : ∀ j : Nat, j < vs.length → rlF A D T σ1 (fUs ρ b0 0 vs) (b0 + j) := fun j hj => by
    obtain ⟨v, hv'⟩ : ∃ v, vs[j]? = some v := ⟨_, List.getElem?_eq_getElem hj⟩
    have := fUs_at (b := b0) (ρ := ρ) (i := 0) hv'
    simp only [Int.ofNat_zero, Int.cast_ofNat_Int, Int.add_zero] at this
    unfold rlF
    rw [this]
    exact hi j v hv'
  refine ⟨h1, fun x hr => ?_⟩
  by_cases c : b0 ≤ x ∧ x < b0 + vs.length
  · have := h1 (x - b0).toNat (by omega)
    rw [show b0 + (((x - b0).toNat : Nat) : Int) = x by omega] at this
    exact this
  · exact rlF_up hr ex (ho x c) (fUs_no (ρ := ρ) (i := 0) (by simp only [Int.ofNat_zero, Int.cast_ofNat_Int, Int.add_zero]; omega))
theorem gfN_call {n : Int} {L : List Int} {sc : List (Int × Int)} {r0 : Int} (hX : pgX σb A D T B) (hlv : lvP A D lev 0 r0) (hP : fPu A D T B lev O call j f) (F : gfN A D T σb X B lev O call j f) (hC : cFr A D T B lev σb X call j) (h : stN A D T B lev j (f + 1) L sc n) (k13 : A.2.1 n = 13) {σ : sg_S} {m l : Nat} {ρ : fEv} {fr b sv : Int} {s : fSt} (hS : fSw σb σ fr b sv s) (hl : l ≤ 6000) (hs : scFX A D T σ ρ l sc) (hm : 2 * (2000 - s.1) + fr ≤ (m : Int) + 1) (k : kF A D T σb X σ ρ fr b sv (T n).toNat (fxN A D T B O call (f + 1) n l ρ s)) {Q : sg_S → Prop} (hQ : ∀ σ', Rf X m σ' → Q σ') : V_flatBegin σ n (l : Int) Q := by
  obtain ⟨w1, w2, w3, w4, w5, w6⟩ := stN_w h
  have hA := hX.2.2.2.2.1
  have bb := fS_bw hS
  have pu := fun (R : List Int) (hR : ∀ x ∈ R, ∃ L', stN A D T B lev j f L' sc x ∧ ∀ y ∈ L', y ∈ L) => fx_sq (O := O) (call := call) (m := l) (L := L) (fun x L' hx ρ s v s' ρ' => hP x L' sc hx l ρ s v s' ρ') R hR (fun p hp => (h.2.2.2.2 p hp).2)
  have hD := hX.2.1
  have hD6 : ∀ (d : Nat) (y : aDf), D[d]? = some y → y.2.2.1.length ≤ 6 := fun d y hy => (hD.2.2 d y hy).2.2.2.2.1
  obtain ⟨d, y, L', ed, hy, dj, hst, how, hty, hTy, hsc⟩ := stN_call hX hlv h k13 hD.2.1 hD6
  have k6 := hD6 d y hy
  have klen : (A.2.2.2.2.1 n).length = y.2.2.1.length := by
    have := congrArg List.length hty
    simpa using this
  have dl := gE_l hy
  have dl12 := hD.2.1
  simp only [fxN] at k
  refine gfb_begin (A := A) (D := D) (T := T) (ρ := ρ) hS ⟨w2.1, by omega⟩ hl hQ (fun z σ' y1 y2 y3 y4 => ?_) (fun s1 z es1 es2 σ1 S1 T1 V1 v1 => ?_)
  · rw [z] at k; exact k σ' y1 y2 y3 y4
  rw [z] at k
  simp only at k
  rw [if_neg (by omega), if_neg (by omega), if_neg (by omega), if_pos k13] at k
  have hs1 := scFX_u hs V1 (fun p _ => rfl)
  have pq := pu (A.2.2.2.2.1 n) (fun x hx => stN_k h (by omega) (by omega) hx) ρ s1
  refine gfRow hX hP F (sc := sc) (off := 0) w2 hl (gof_op w2 (by omega) (by omega) (by omega)) (A.2.2.2.2.1 n) 0 (fun i x hx => by rw [Nat.zero_add, Nat.zero_add]; exact hx) (fun c => by omega) (fun x hx => by obtain ⟨L', a, -⟩ := stN_k h (by omega) (by omega) hx; exact ⟨L', a⟩) σ1 m ρ fr b s1 (by simp only [Int.ofNat_zero, Int.cast_ofNat_Int, Int.add_zero]; exact S1) (by omega) (by omega) T1 hs1 (by omega) ?_
  generalize fSq (fun x => fxN A D T B O call f x l) (A.2.2.2.2.1 n) ρ s1 = r at k pq
  match r, k, pq with
  | .inl (e, w'), k, _ => exact k
  | .inr (vs, s2, ρ2), k, pq =>
    intro σ2 m2 l2 S2 T2 V2 v2 hm2
    obtain ⟨pl, pv, pk⟩ := pq vs s2 ρ2 (fun p hp => (hs1 p hp).2.2.2) rfl
    simp only [Int.ofNat_zero, Int.cast_ofNat_Int, Int.add_zero, Nat.zero_add] at S2 T2 V2 v2
    simp only at k
    rw [ed] at k
    have b2 := fS_b S2
    obtain ⟨a1, a2, ⟨a3, a4, a5⟩, c2, hN⟩ := id S2
    have hX2 := gFX hX a1
    obtain ⟨m2, rfl⟩ : ∃ m', m2 = m' + 1 := ⟨m2 - 1, by omega⟩
    refine rf_g (by omega) a2 (fun Qz hz => gf_call (q := (d : Int)) hX2 w2 a3 ⟨by omega, by omega⟩ T2 k13 rfl (by omega) ed ⟨by omega, by omega⟩ ⟨by omega, by omega⟩ (fun σ46 f46 p1 p2 p3 p4 p5 Q' hQ' => ?_))
    have ex46 : fEx σ2 σ46 := fEx_F f46 rfl
    have e105 := (hX2.2.1.2.2 d y hy).2.2.1
    rw [e105]
    have S46 : fSs σb σ46 (fr + 1) b sv s2 := fS_w S2 f46 rfl rfl (sg_F_m f46 rfl) p5 ⟨by omega, by omega⟩
    obtain ⟨t1, t2, t3, t4, t5⟩ := id T2
    have T46 : gfT σ46 fr n ((A.2.2.2.2.1 n).length + 1) b l sv := ⟨by rw [sg_F_ga f46 rfl]; exact t1, p3, by rw [sg_F_ga f46 rfl]; exact t3, by rw [sg_F_ga f46 rfl]; exact t4, by rw [sg_F_ga f46 rfl]; exact t5⟩
    obtain ⟨us1, us2⟩ := rlF_us (A := A) (D := D) (T := T) (σ := σ2) (σ1 := σ46) (ρ := ρ2) (b0 := 1100 + 6 * (d : Int)) (vs := vs) ex46 (fun i v hv => by
      have hi := gE_l hv
      obtain ⟨u, hu⟩ : ∃ u, y.2.2.1[i]? = some u := ⟨_, List.getElem?_eq_getElem (by omega)⟩
      obtain ⟨x, hx⟩ : ∃ x, (A.2.2.2.2.1 n)[i]? = some x := ⟨_, List.getElem?_eq_getElem (by omega)⟩
      have e1 : T x = u.2.2 := by
        have q := congrArg (fun q => q[i]?) hty
        simp only [List.getElem?_map, hx, hu] at q
        simpa using q
      obtain ⟨R, hR⟩ := v2 i x v hx hv
      rw [p1 i (by omega), bTy_p hy hu (by omega), ← e1]
      exact ⟨R, fX_up ex46 hR⟩) (fun x hx => p2 x (by omega))
    have V46 : fKp A D T σ2 σ46 ρ2 (fUs ρ2 (1100 + 6 * (d : Int)) 0 vs) fr b sv := ⟨ex46, fun x _ => sg_F_ga f46 rfl, us2, fun i hi => ⟨sg_F_ga f46 rfl, p4 i (by omega), sg_F_ga f46 rfl, sg_F_ga f46 rfl, sg_F_ga f46 rfl, sg_F_ga f46 rfl⟩, fun i _ => ⟨sg_F_ga f46 rfl, sg_F_ga f46 rfl⟩⟩
    have V5 := fKp_t V1 (fKp_t V2 V46 ⟨Int.le_refl _, Int.le_refl _⟩ ⟨Int.le_refl _, Int.le_refl _⟩ ⟨Int.le_refl _, Int.le_refl _⟩) ⟨Int.le_refl _, Int.le_refl _⟩ ⟨Int.le_refl _, Int.le_refl _⟩ ⟨Int.le_refl _, Int.le_refl _⟩
    refine hC d y L' hy dj hst σ46 m2 l (fUs ρ2 (1100 + 6 * (d : Int)) 0 vs) (fr + 1) b sv s2 (fS_wk S46) hl (fun p hp => ?_) (by omega) ?_ Q' (fun σ' h' => hQ' σ' (fun _ => hz σ' h'))
    · obtain ⟨i, u, hu, ep⟩ := hsc p hp
      have hi := gE_l hu
      obtain ⟨v, hv⟩ : ∃ v, vs[i]? = some v := ⟨_, List.getElem?_eq_getElem (by omega)⟩
      rw [ep]
      simp only
      refine ⟨⟨by omega, by omega⟩, (bTy_p hy hu (by omega)).symm, us1 i (by omega), ?_⟩
      rw [show (1100 : Int) + 6 * (d : Int) + (i : Int) = 1100 + 6 * (d : Int) + ((0 : Nat) : Int) + (i : Int) by omega, fUs_at hv]
      exact pv v (List.mem_of_getElem? hv)
    · generalize call (d : Int) l (fUs ρ2 (1100 + 6 * (d : Int)) 0 vs) s2 = r at k
      match r, k with
      | .inl (e, w'), k => exact k
      | .inr (v', s3, ρ3), k =>
        intro σ5 m5 S5 U5 v5 hm5
        rw [← hTy] at v5
        have b5 := fS_b S5
        obtain ⟨x1, x2, x3, x4, x5, x6⟩ := U5.2.2.2.1 fr (by omega)
        have T5 : gfT σ5 fr n ((A.2.2.2.2.1 n).length + 1) b l sv := ⟨x1.trans T46.1, x2.trans T46.2.1, x3.trans T46.2.2.1, x4.trans T46.2.2.2.1, x5.trans T46.2.2.2.2⟩
        obtain ⟨m5, rfl⟩ : ∃ m', m5 = m' + 1 := ⟨m5 - 1, by omega⟩
        refine rf_g (by rw [S5.2.2.1.1]; omega) S5.2.1 (fun Qz hz => gf_val (gFX hX S5.1) w2 S5.2.2.1.1 ⟨by omega, by omega⟩ T5 (Or.inr ⟨k13, rfl⟩) ⟨by omega, by omega⟩ (fun σ18 e18 => ?_))
        exact gf_done (A := A) (D := D) (T := T) (X := X) (σ := σ) (ρ := ρ) (ρ2 := ρ3) (m := m5) S5 T5 ⟨by omega, by omega⟩ (by omega) ⟨by omega, by omega⟩ (fKp_t V5 U5 ⟨Int.le_refl _, by omega⟩ ⟨Int.le_refl _, Int.le_refl _⟩ ⟨Int.le_refl _, Int.le_refl _⟩) (sg_Rg _ _ _) v5 e18 (by omega) k (fun σ' h _ => hz σ' h)
end BFS
/-! lanes put together; which variables are carried along, told once for all. -/
theorem rg_F (l : List vaF) : (List.range l.length).map (fun i => l.getD i (nmF 0)) = l := by
  apply List.ext_getElem?
  intro i
  rw [List.getElem?_map]
  rcases Nat.lt_or_ge i l.length with q | q
  · rw [List.getElem?_range q, Option.map_some, gD_i q]
  · rw [List.getElem?_eq_none (by rw [List.length_range]; exact q), List.getElem?_eq_none q]; rfl
/-- how many lanes are so -/
def cwF (b : Bool) (c : List vaF) : Nat := c.countP (fun v => decide (v [] = 0) != b)
theorem fWh_l (b : Bool) (c : List vaF) : (fWh b c).length = cwF b c := by
  unfold fWh cwF
  rw [← List.countP_eq_length_filter]
  have e := List.countP_map (p := fun v : vaF => decide (v [] = 0) != b) (f := fun i => c.getD i (nmF 0)) (l := List.range c.length)
  rw [rg_F] at e
  rw [e]
  rfl
theorem cwF_c (b : Bool) (v : vaF) (r : List vaF) : cwF b (v :: r) = cwF b r + if (decide (v [] = 0) != b) = true then 1 else 0 := by
  unfold cwF
  rw [List.countP_cons]
theorem cwF_a (b : Bool) (l r : List vaF) : cwF b (l ++ r) = cwF b l + cwF b r := by
  unfold cwF
  rw [List.countP_append]
theorem cwF_1 {b : Bool} {v : vaF} : cwF b [v] = if (decide (v [] = 0) != b) = true then 1 else 0 := by
  rw [cwF_c]
  show 0 + _ = _
  rw [Nat.zero_add]
theorem cwF_t : ∀ c : List vaF, cwF true c + cwF false c = c.length
  | [] => rfl
  | v :: r => by
    have := cwF_t r
    rw [cwF_c, cwF_c, List.length_cons]
    by_cases h : v [] = 0
    · simp [h]; omega
    · simp [h]; omega
/-- which lane each one is taken from -/
def mgK : List vaF → Nat → Nat → List Int
  | [], _, _ => []
  | c :: r, t, o => if c [] = 0 then (o : Int) :: mgK r t (o + 1) else (t : Int) :: mgK r (t + 1) o
theorem mgK_a : ∀ (l : List vaF) (v : vaF) (t o : Nat), mgK (l ++ [v]) t o = mgK l t o ++ [if v [] = 0 then ((o + cwF false l : Nat) : Int) else ((t + cwF true l : Nat) : Int)]
  | [], v, t, o => by
    simp only [List.nil_append, mgK]
    by_cases h : v [] = 0
    · rw [if_pos h, if_pos h]; rfl
    · rw [if_neg h, if_neg h]; rfl
  | c :: r, v, t, o => by
    simp only [List.cons_append, mgK]
    rw [cwF_c, cwF_c]
    by_cases h : c [] = 0
    · rw [if_pos h, if_pos h, mgK_a r v t (o + 1)]
      simp only [h, decide_true, bne_self_eq_false, Bool.false_eq_true, if_false, List.cons_append, Nat.add_zero, Bool.true_bne, Bool.not_false, if_true]
      rw [show o + 1 + cwF false r = o + (cwF false r + 1) by omega]
    · rw [if_neg h, if_neg h, mgK_a r v (t + 1) o]
      simp only [h, decide_false, List.cons_append, Nat.add_zero, Bool.false_bne, Bool.false_eq_true, if_false, if_true]
      rw [show t + 1 + cwF true r = t + (cwF true r + 1) by omega]
theorem mgK_l : ∀ (l : List vaF) (t o : Nat), (mgK l t o).length = l.length
  | [], t, o => rfl
  | c :: r, t, o => by
    simp only [mgK]
    split
    · rw [List.length_cons, List.length_cons, mgK_l r]
    · rw [List.length_cons, List.length_cons, mgK_l r]
theorem hd_D (l : List vaF) (t : Nat) : (l.drop t).headD (nmF 0) = lnF l (t : Int) := by
  unfold lnF
  rw [if_neg (by omega), Int.toNat_natCast]
  rcases Nat.lt_or_ge t l.length with q | q
  · rw [dr_D q]; rfl
  · rw [List.drop_of_length_le q, List.getD_eq_getElem?_getD, List.getElem?_eq_none q]; rfl
theorem mgK_f (l : List vaF) : ∀ (c : List vaF) (t o : Nat), (mgK c t o).map (lnF l) = fMg c (l.drop t) (l.drop o)
  | [], t, o => rfl
  | c :: r, t, o => by
    simp only [mgK, fMg]
    have td : ∀ q : Nat, (l.drop q).tail = l.drop (q + 1) := fun q => by rw [List.tail_drop]
    by_cases h : c [] = 0
    · rw [if_pos h, if_pos h, List.map_cons, mgK_f l r t (o + 1), hd_D, td]
    · rw [if_neg h, if_neg h, List.map_cons, mgK_f l r (t + 1) o, hd_D, td]
theorem fMg_x : ∀ (c a z b : List vaF), cwF true c ≤ a.length → fMg c (a ++ z) b = fMg c a b
  | [], a, z, b, _ => rfl
  | c :: r, a, z, b, h => by
    rw [cwF_c] at h
    simp only [fMg]
    by_cases q : c [] = 0
    · rw [if_pos q, if_pos q, fMg_x r a z b.tail (by omega)]
    · rw [if_neg q, if_neg q]
      simp only [q, decide_false, Bool.false_bne, if_true] at h
      cases a with
      | nil => simp only [List.length_nil] at h; omega
      | cons x a =>
        simp only [List.length_cons] at h
        simp only [List.cons_append, List.headD_cons, List.tail_cons]
        rw [fMg_x r a z b (by omega)]
theorem mgK_b : ∀ (c : List vaF) (t o : Nat) (x : Int), x ∈ mgK c t o → x < ((t + cwF true c : Nat) : Int) ∨ x < ((o + cwF false c : Nat) : Int)
  | [], t, o, x, h => by cases h
  | c :: r, t, o, x, h => by
    simp only [mgK] at h
    rw [cwF_c, cwF_c]
    by_cases q : c [] = 0
    · rw [if_pos q] at h
      simp only [q, decide_true, bne_self_eq_false, Bool.false_eq_true, if_false, Nat.add_zero, Bool.true_bne, Bool.not_false, if_true]
      rcases List.mem_cons.mp h with e | e
      · right; omega
      · rcases mgK_b r t (o + 1) x e with w | w
        · left; omega
        · right; omega
    · rw [if_neg q] at h
      simp only [q, decide_false, Nat.add_zero, Bool.false_bne, Bool.false_eq_true, if_false, if_true]
      rcases List.mem_cons.mp h with e | e
      · left; omega
      · rcases mgK_b r (t + 1) o x e with w | w
        · left; omega
        · right; omega
theorem exF_0 : ∀ d : Nat, exF d [] = 0
  | 0 => rfl
  | d + 1 => by
    show ((0 : Nat) : Int) + exF d [] = 0
    rw [exF_0 d]
    rfl
theorem exF_c (d : Nat) (v : vaF) (l : List vaF) : exF d (v :: l) = exF d [v] + exF d l := exF_a d [v] l
theorem exF_Mg (d : Nat) : ∀ (c a b : List vaF), cwF true c = a.length → cwF false c = b.length → exF d (fMg c a b) = exF d a + exF d b
  | [], a, b, h1, h2 => by
    have ea : a = [] := List.eq_nil_of_length_eq_zero h1.symm
    have eb : b = [] := List.eq_nil_of_length_eq_zero h2.symm
    rw [ea, eb]
    show exF d [] = exF d [] + exF d []
    rw [exF_0]; omega
  | c :: r, a, b, h1, h2 => by
    rw [cwF_c] at h1 h2
    simp only [fMg]
    by_cases q : c [] = 0
    · simp only [q, decide_true, bne_self_eq_false, Bool.false_eq_true, if_false, Nat.add_zero, Bool.true_bne, Bool.not_false, if_true] at h1 h2
      rw [if_pos q]
      cases b with
      | nil => simp only [List.length_nil] at h2; omega
      | cons x b =>
        simp only [List.length_cons] at h2
        simp only [List.headD_cons, List.tail_cons]
        rw [exF_c d x (fMg r a b), exF_Mg d r a b h1 (by omega), exF_c d x b]
        omega
    · simp only [q, decide_false, Nat.add_zero, Bool.false_bne, Bool.false_eq_true, if_false, if_true] at h1 h2
      rw [if_neg q]
      cases a with
      | nil => simp only [List.length_nil] at h1; omega
      | cons x a =>
        simp only [List.length_cons] at h1
        simp only [List.headD_cons, List.tail_cons]
        rw [exF_c d x (fMg r a b), exF_Mg d r a b (by omega) h2, exF_c d x a]
        omega
/-- the reference's lists of variables that are carried along -/
def gaH (A : aT) (B c : Int → Int) (O : Int → Nat → List Int) : Prop := ∀ n, (A.2.1 n = 3 → ∀ (st : Nat) (x : Int) (L : List Int), (st = 1 ∨ st = 2) → (A.2.2.2.2.1 n)[st]? = some x → fT A [x] L → (∀ y ∈ L, 0 ≤ y ∧ y < A.1) → O n st = gaO A B c L (-1) A.1.toNat) ∧ (A.2.1 n = 15 → ∀ (bd : Int) (tl Lb Lt : List Int), A.2.2.2.2.1 n = bd :: tl → fT A [bd] Lb → fT A (tl.drop (A.2.2.2.2.2 n).length) Lt → (∀ y ∈ Lb ++ Lt, 0 ≤ y ∧ y < A.1) → O n 0 = gaO A B c (Lb ++ Lt) n A.1.toNat ∧ O n 1 = gaO A B c Lb (-1) A.1.toNat)
section BGS
variable {A : aT} {D : List aDf} {T B c : Int → Int} {lev : Int → Nat} {σ : sg_S}
theorem rbX_L {j f : Nat} {L' : List Int} {sc : List (Int × Int)} {x : Int} (hA : A.1 ≤ 200) (ha : stN A D T B lev j f L' sc x) : ∀ y ∈ L', A.2.1 y = 1 → rb A (B y) := fun y hy ky => by
  rcases stN_v hA ha hy ky with ⟨q, -⟩ | q
  · exact (ha.2.2.2.2 _ q).1
  · rcases q with ⟨q1, q2⟩ | ⟨q1, q2, q3⟩
    · have := (ha.2.2.2.1 _ q2).1
      exact ⟨⟨by omega, by omega⟩, fun _ => this.2, fun z => by omega⟩
    · have := (ha.2.2.2.1 _ q3).1
      exact ⟨⟨by omega, by omega⟩, fun z => by omega, fun _ _ => this.2⟩
/-- clearInside, markInside, gatherOutside of one part -/
theorem m_ch1 {x : Int} {L' : List Int} {Q : sg_S → Prop} (hX : pgX σ A D T B) (hc : ∀ y, sg_g σ 116 y = c y) (hf : fT A [x] L') (hn : L'.Nodup) (hr : ∀ y ∈ L', 0 ≤ y ∧ y < A.1) (hb : ∀ y ∈ L', A.2.1 y = 1 → rb A (B y)) (k : ∀ σ', oR σ' (gaO A B c L' (-1) A.1.toNat) → sg_F [119, 120, 121, 47088, 50088] σ σ' → Q σ') : V_clearInside σ (fun σ118 => sg_F [120, 47088] σ σ118 → V_markInside σ118 x (fun σ124 => sg_F [120, 121, 50088] σ118 σ124 → V_gatherOutside σ124 (-1) (fun σ130 => sg_F [119, 47088] σ124 σ130 → Q σ130))) := by
  have hA := hX.2.2.2.2.1
  have P7 := trT_X (sg_F_r [] σ) rfl hX
  refine m_clear P7.1.1.1 ⟨P7.1.1.2.1, hA⟩ (fun σ8 m8 o8 f8 _ => ?_)
  refine m_mark (trT_X f8 rfl hX).1 hA m8 hf hn hr (fun σ9 m9 f9 _ => ?_)
  rw [List.nil_append] at m9
  have F9 : sg_F [120, 121, 47088, 50088] σ σ9 := sg_F_t (sg_F_m f8 rfl) (sg_F_m f9 rfl)
  have P9 := trT_X F9 rfl hX
  exact m_gatherX P9.1 P9.2 (fun y => by rw [sg_F_ga F9 rfl]; exact hc y) hA (by rw [sg_F_g f9 (by rfl)]; exact o8) m9 hb (fun σ10 o1 f10 _ => k σ10 o1 (sg_F_t (sg_F_m F9 rfl) (sg_F_m f10 rfl)))
/-- restore, told by what lies saved -/
theorem m_restU {to : Int} {Q : sg_S → Prop} (h0 : 0 ≤ to ∧ to ≤ sg_g σ 88 99 ∧ sg_g σ 88 99 ≤ 12000) (hB : sB σ) (k : ∀ σ', sg_g σ' 88 99 = to → (∀ b, sg_g σ' 134 b = und σ to b) → sB σ' → sg_F [134, 100088] σ σ' → Q σ') : V_restore σ to Q := m_restore h0 hB (fun σ' e u hB' f => k σ' e (fun b => by
  have := u to b (Int.le_refl _)
  rw [← e, und_top] at this
  rw [this, e]) hB' f)
theorem undA_2 {b : Int} {w : Int → Int} (n : Nat) : ∀ (O : List Int) (s : Int), (∀ (i : Nat) (x : Int), O[i]? = some x → sg_g σ 148 (s + i) = x ∧ sg_g σ 149 (s + i) = w x) → undA σ b s (O.length + n) = if b ∈ O then w b else undA σ b (s + O.length) n
  | [], s, _ => by simp
  | x :: O, s, h => by
    obtain ⟨h1, h2⟩ := h 0 x rfl
    simp only [Int.ofNat_zero, Int.cast_ofNat_Int, Int.add_zero] at h1 h2
    have ih := undA_2 (b := b) n O (s + 1) (fun i y hy => by
      have := h (i + 1) y hy
      rwa [show s + ((i + 1 : Nat) : Int) = s + 1 + (i : Int) by omega] at this)
    rw [List.length_cons, show O.length + 1 + n = (O.length + n) + 1 by omega]
    simp only [undA]
    rw [h1, h2, ih, show s + 1 + (O.length : Int) = s + ((O.length + 1 : Nat) : Int) by omega]
    by_cases e : x = b
    · rw [if_pos e, if_pos (by rw [e]; simp), e]
    · rw [if_neg e]
      by_cases e2 : b ∈ O
      · rw [if_pos e2, if_pos (List.mem_cons_of_mem _ e2)]
      · rw [if_neg e2, if_neg (fun q => (List.mem_cons.mp q).elim (fun z => e z.symm) e2)]
end BGS
