/-! THE FLAT RUN of the reference in big steps: operations, variables. -/
section BES
variable {A : aT} {D : List aDf} {T B : Int → Int} {lev : Int → Nat} {σb : sg_S} {X : sg_S → Prop} {O : Int → Nat → List Int} {call : Int → Nat → fEv → fSt → fRs} {j f : Nat}
/-- a value that is there leaves -/
theorem gf_done {σ σ2 σ18 : sg_S} {ρ ρ2 : fEv} {n fr b b2 st sv v : Int} {s : fSt} {d m l : Nat} {vf : List vaF} {Q : sg_S → Prop} (hS : fSs σb σ2 (fr + 1) b2 sv s) (hT : gfT σ2 fr n st b l sv) (hst : 0 ≤ st ∧ st ≤ 300) (f0 : 0 ≤ fr) (hb : 0 ≤ b ∧ b ≤ b2) (hV : fKp A D T σ σ2 ρ ρ2 fr b sv) (hv : sg_R v) (hr : ∃ R, fX σ2 6000 v d vf R) (e18 : σ18 = sg_w (sg_w σ2 127 fr (st + 1)) 88 102 (-1)) (hm : 2 * (2000 - s.1) + fr ≤ (m : Int)) (k : kF A D T σb X σ ρ fr b sv d (.inr (vf, s, ρ2))) (hQ : ∀ σ', Rf X m σ' → Q σ') : gfE σ18 v Q := by
  have F : sg_F [127, 103088] σ2 σ18 := by rw [e18]; exact sg_F_w (sg_F_w (sg_F_r _ _) rfl _) rfl _
  have ex : fEx σ2 σ18 := fEx_F F rfl
  obtain ⟨a1, a2, ⟨a3, a4, a5⟩, c, hN⟩ := id hS
  have bb := fS_b hS
  have S18 : fSs σb σ18 (fr + 1) b2 sv s := fS_w hS F rfl rfl (sg_F_m F rfl) (by rw [sg_F_g F (by rfl)]; exact a4) ⟨by omega, Int.le_refl _⟩
  obtain ⟨R, hR⟩ := hr
  refine gfE_c S18.2.1 (by rw [e18, sg_gw_e _ _ _ _ ⟨by decide, by decide⟩]; decide) (gfl_leave (A := A) (D := D) (T := T) (X := X) (σ := σ) (ρ := ρ) (ρ2 := ρ2) (vf := vf) (d := d) (m := m) (fS_wk S18) (fS_h S18) hb (by rw [sg_F_ga F rfl]; exact hT.2.2.1) f0 (fKp_t hV (fKp_mk F rfl ex (fun x _ => sg_F_ga F rfl) (fun i hi => by rw [e18, sg_gw_c _ _ _ _ _ _ (by decide), sg_gw_k _ _ _ _ _ _ (by omega)])) ⟨Int.le_refl _, Int.le_refl _⟩ ⟨Int.le_refl _, Int.le_refl _⟩ ⟨Int.le_refl _, Int.le_refl _⟩) hv ⟨R, fX_up ex hR⟩ hm k (fun σ' h _ => hQ σ' h))
theorem gfN_var {n : Int} {L : List Int} {sc : List (Int × Int)} (hX : pgX σb A D T B) (h : stN A D T B lev j (f + 1) L sc n) (k1 : A.2.1 n = 1) {σ : sg_S} {m l : Nat} {ρ : fEv} {fr b sv : Int} {s : fSt} (hS : fSw σb σ fr b sv s) (hl : l ≤ 6000) (hs : scFX A D T σ ρ l sc) (hm : 2 * (2000 - s.1) + fr ≤ (m : Int) + 1) (k : kF A D T σb X σ ρ fr b sv (T n).toNat (fxN A D T B O call (f + 1) n l ρ s)) {Q : sg_S → Prop} (hQ : ∀ σ', Rf X m σ' → Q σ') : V_flatBegin σ n (l : Int) Q := by
  obtain ⟨w1, w2, w3, w4, w5, w6⟩ := stN_w h
  have hA := hX.2.2.2.2.1
  have bb := fS_bw hS
  simp only [fxN] at k
  refine gfb_begin (A := A) (D := D) (T := T) (ρ := ρ) hS ⟨w2.1, by omega⟩ hl hQ (fun z σ' y1 y2 y3 y4 => ?_) (fun s1 z es1 es2 σ1 S1 T1 V1 v1 => ?_)
  · rw [z] at k; exact k σ' y1 y2 y3 y4
  rw [z] at k
  simp only at k
  rw [if_pos k1] at k
  have b1 := fS_b S1
  have hl0 := w1.2.1 (by omega)
  obtain ⟨q1, q2, q3, q4⟩ := hs _ (w4 k1)
  obtain ⟨R, hR⟩ := V1.2.2.1 _ q3
  simp only at q1 q2
  obtain ⟨m, rfl⟩ : ∃ m', m = m' + 1 := ⟨m - 1, by omega⟩
  refine rf_g (by rw [S1.2.2.1.1]; omega) S1.2.1 (fun Qz hz => gf_var (gFX hX S1.1) w2 S1.2.2.1.1 ⟨by omega, by omega⟩ T1 k1 hl0 q1 (fun σ18 e18 => ?_))
  refine gf_done (A := A) (D := D) (T := T) (X := X) (σ := σ) (ρ := ρ) (ρ2 := ρ) (m := m) S1 T1 ⟨by decide, by decide⟩ (by omega) ⟨by omega, Int.le_refl _⟩ V1 (sg_Rg _ _ _) ⟨R, ?_⟩ (by rw [e18]; rfl) (by omega) k (fun σ' h _ => hz σ' h)
  rw [q2]
  exact hR
theorem gfN_op {n : Int} {L : List Int} {sc : List (Int × Int)} (hX : pgX σb A D T B) (hP : fPu A D T B lev O call j f) (F : gfN A D T σb X B lev O call j f) (h : stN A D T B lev j (f + 1) L sc n) (hk : ¬ A.2.1 n = 1 ∧ ¬ A.2.1 n = 2 ∧ ¬ A.2.1 n = 3 ∧ ¬ A.2.1 n = 13 ∧ ¬ A.2.1 n = 15) {σ : sg_S} {m l : Nat} {ρ : fEv} {fr b sv : Int} {s : fSt} (hS : fSw σb σ fr b sv s) (hl : l ≤ 6000) (hs : scFX A D T σ ρ l sc) (hm : 2 * (2000 - s.1) + fr ≤ (m : Int) + 1) (k : kF A D T σb X σ ρ fr b sv (T n).toNat (fxN A D T B O call (f + 1) n l ρ s)) {Q : sg_S → Prop} (hQ : ∀ σ', Rf X m σ' → Q σ') : V_flatBegin σ n (l : Int) Q := by
  obtain ⟨w1, w2, w3, w4, w5, w6⟩ := stN_w h
  have hA := hX.2.2.2.2.1
  have bb := fS_bw hS
  obtain ⟨k1, k2, k3, k13, k15⟩ := id hk
  have pu := fun (R : List Int) (hR : ∀ x ∈ R, ∃ L', stN A D T B lev j f L' sc x ∧ ∀ y ∈ L', y ∈ L) => fx_sq (O := O) (call := call) (m := l) (L := L) (fun x L' hx ρ s v s' ρ' => hP x L' sc hx l ρ s v s' ρ') R hR (fun p hp => (h.2.2.2.2 p hp).2)
  simp only [fxN] at k
  refine gfb_begin (A := A) (D := D) (T := T) (ρ := ρ) hS ⟨w2.1, by omega⟩ hl hQ (fun z σ' y1 y2 y3 y4 => ?_) (fun s1 z es1 es2 σ1 S1 T1 V1 v1 => ?_)
  · rw [z] at k; exact k σ' y1 y2 y3 y4
  rw [z] at k
  simp only at k
  rw [if_neg k1, if_neg k2, if_neg k3, if_neg k13, if_neg k15] at k
  have hs1 := scFX_u hs V1 (fun p _ => rfl)
  have pq := pu (A.2.2.2.2.1 n) (fun x hx => stN_k h k2 k15 hx) ρ s1
  refine gfRow hX hP F (sc := sc) (off := 0) w2 hl (gof_op w2 k15 k3 k2) (A.2.2.2.2.1 n) 0 (fun i x hx => by rw [Nat.zero_add, Nat.zero_add]; exact hx) (fun c => absurd c k15) (fun x hx => by obtain ⟨L', a, -⟩ := stN_k h k2 k15 hx; exact ⟨L', a⟩) σ1 m ρ fr b s1 (by simp only [Int.ofNat_zero, Int.cast_ofNat_Int, Int.add_zero]; exact S1) (by omega) (by omega) T1 hs1 (by omega) ?_
  generalize fSq (fun x => fxN A D T B O call f x l) (A.2.2.2.2.1 n) ρ s1 = r at k pq
  match r, k, pq with
  | .inl (e, w'), k, _ => exact k
  | .inr (vs, s2, ρ2), k, pq =>
    intro σ2 m2 l2 S2 T2 V2 v2 hm2
    obtain ⟨pl, pv, pk⟩ := pq vs s2 ρ2 (fun p hp => (hs1 p hp).2.2.2) rfl
    simp only [Int.ofNat_zero, Int.cast_ofNat_Int, Int.add_zero, Nat.zero_add] at S2 T2 V2 v2
    simp only at k
    have b2 := fS_b S2
    obtain ⟨a1, a2, ⟨a3, a4, a5⟩, c2, hN⟩ := id S2
    have hX2 := gFX hX a1
    obtain ⟨t1, t2, t3, t4, t5⟩ := tr_k hX2.1 w2
    obtain ⟨m2, rfl⟩ : ∃ m', m2 = m' + 1 := ⟨m2 - 1, by omega⟩
    refine rf_g (by omega) a2 (fun Qz hz => gf_op hX2 w2 a3 ⟨by omega, by omega⟩ T2 hk rfl (fun σ18 e18 P hP' => ?_))
    have F18 : sg_F [127, 103088] σ2 σ18 := by rw [e18]; exact sg_F_w (sg_F_w (sg_F_r _ _) rfl _) rfl _
    have ex18 : fEx σ2 σ18 := fEx_F F18 rfl
    have S18 : fSs σb σ18 (fr + 1) (b + (A.2.2.2.2.1 n).length) sv s2 := fS_w S2 F18 rfl rfl (sg_F_m F18 rfl) (by rw [sg_F_g F18 (by rfl)]; exact a4) ⟨by omega, Int.le_refl _⟩
    have hX18 := gFX hX S18.1
    have w95 : sg_gl σ18 95 n = A.2.2.2.1 n := (hX18.1.1.2.2.2 n w2.1 w2.2).2.2.1
    refine m_fWkX (A := A) (T := T) (ds := kDl (D.take j) []) (vs := vs) (s := s2) ⟨w2.1, by omega⟩ w1 (by rw [sg_F_ga F18 rfl]; exact t1) (by rw [sg_F_ga F18 rfl]; exact t2) t3 w95 (w5 k1) (fun x hx => by
      obtain ⟨L', a, -⟩ := stN_k h k2 k15 hx
      exact (stN_w a).2.2.1) hk ⟨by rw [List.length_map]; exact l2, fun i x hx => ?_⟩ (by omega) S18.2.2.1.2.1 (by rw [S18.2.2.1.2.1]; omega) (fS_c S18) S18.2.2.2.1 (Or.inl ⟨rfl, by rw [e18, sg_gw_e _ _ _ _ ⟨by decide, by decide⟩]; decide⟩) hl (fun q σ3 rq ho hx f3 => hP' q σ3 rq f3 ?_)
    · rw [List.getElem?_map] at hx
      cases e : (A.2.2.2.2.1 n)[i]? with
      | none => rw [e] at hx; cases hx
      | some y =>
        rw [e] at hx
        cases hx
        have hi := gE_l e
        obtain ⟨v, hv⟩ : ∃ v, vs[i]? = some v := ⟨_, List.getElem?_eq_getElem (by omega)⟩
        obtain ⟨R', hR'⟩ := v2 i y v e hv
        have ev : vs.getD i [] = v := by rw [List.getD_eq_getElem?_getD, hv]; rfl
        rw [ev, sg_F_ga (a := 133) F18 rfl]
        exact ⟨R', fX_up ex18 hR', pv v (List.mem_of_getElem? hv)⟩
    · have FF : sg_F [127, 133, 135, 139, 140, 141, 142, 143, 144, 150, 74088, 85088, 86088, 88088, 92088, 94088, 103088, 104088] σ2 σ3 := sg_F_t (sg_F_m F18 rfl) (sg_F_m f3 rfl)
      have FL : sg_F flL σb σ3 := sg_F_t a1 (sg_F_m FF rfl)
      have z18 := S18.2.1
      unfold fWk at k
      rcases ho with ⟨o1, o2, o3⟩ | ⟨s3, o1, ⟨o2, o3, o4⟩, ex3, o5, o6, o7⟩
      · rw [o1] at k
        exact gfE_a (by rw [o2]; decide) (fun _ => hz σ3 (rf_s (by rw [o2]; decide) (k σ3 FL o2 (by decide) o3)))
      · rw [o1] at k
        simp only at k
        have o2' := o2.trans z18
        by_cases c0 : fOe (fOl (A.2.1 n) (T n) (sg_n (A.2.2.2.1 n)) vs l) = 0
        · rw [if_pos c0] at k
          obtain ⟨y1, y2, y3, y4, y5⟩ := fStp_s o1
          have o5' := o5 c0
          rw [c0] at o4
          have z102 : sg_g σ3 88 102 < 0 := by
            rcases o4 with q | q
            · exact q.2
            · exact absurd rfl q.1
          obtain ⟨hI, hB, n1, n2, n3⟩ := S18.2.2.2.2
          obtain ⟨i1, i2, i3, i4, i5⟩ := hI
          have c18 := S18.2.2.2.1
          have g62 : sg_g σ3 88 62 = sg_g σ18 88 62 := sg_F_g f3 (by rfl)
          have g70 : sg_g σ3 88 70 = sg_g σ18 88 70 := sg_F_g f3 (by rfl)
          have g99 : sg_g σ3 88 99 = sg_g σ18 88 99 := sg_F_g f3 (by rfl)
          have ex1 := ex3.1
          have h84 := o3.1
          have h85 := o3.2.1
          have h4 := o3.2.2.2
          have p84 := c18.1
          have p85 := c18.2.1
          have S3 : fSs σb σ3 (fr + 1) (b + (A.2.2.2.2.1 n).length) sv s3 := ⟨FL, o2', ⟨by rw [g62]; exact S18.2.2.1.1, by rw [g70]; exact S18.2.2.1.2.1, by rw [g99]; exact S18.2.2.1.2.2⟩, o3, ⟨⟨by omega, by omega⟩, ⟨by omega, by omega⟩, ⟨by omega, by omega⟩, ⟨by omega, by omega, by omega⟩, by omega, by omega⟩, fun i x y => by rw [sg_F_ga f3 rfl]; exact hB i x (by omega), by omega, by omega, by omega⟩
          have V3 : fKp A D T σ2 σ3 ρ2 ρ2 fr b sv := fKp_mk FF rfl (fEx_t ex18 ex3) (fun x hx' => by rw [hx x (by rw [S18.2.2.1.2.1]; omega), sg_F_ga F18 rfl]) (fun i hi => by rw [sg_F_ga f3 rfl, e18, sg_gw_c _ _ _ _ _ _ (by decide), sg_gw_k _ _ _ _ _ _ (by omega)])
          exact gfE_c o2' z102 (gfl_leave (A := A) (D := D) (T := T) (X := X) (σ := σ) (ρ := ρ) (ρ2 := ρ2) (d := (T n).toNat) (m := m2) (fS_wk S3) (fS_h S3) ⟨by omega, by omega⟩ (by rw [sg_F_ga FF rfl]; exact T2.2.2.1) (by omega) (fKp_t V1 (fKp_t V2 V3 ⟨Int.le_refl _, Int.le_refl _⟩ ⟨Int.le_refl _, Int.le_refl _⟩ ⟨Int.le_refl _, Int.le_refl _⟩) ⟨Int.le_refl _, Int.le_refl _⟩ ⟨Int.le_refl _, Int.le_refl _⟩ ⟨Int.le_refl _, Int.le_refl _⟩) rq (o7 c0) (by omega) k (fun σ' h _ _ => hz σ' h))
        · rw [if_neg c0] at k
          exact gfE_b o2' o4 c0 (fun σ43 c43 f43 _ => hz σ43 (rf_s (by rw [c43]; exact c0) (k σ43 (sg_F_t FL (sg_F_m f43 rfl)) c43 c0 (fcX_F f43 rfl o3))))
end BES
