/-! THE NESTED RUN of the reference in big steps: the places of a { }. -/
/-- before a place -/
def exI (T : Int → Int) (σb σ7 : sg_S) (n fr b w sp bs : Int) (g i : Nat) (xs : List Int) (vs acc : List vaF) (dB : Nat) : Prop := gS σb σ7 (fr + 1) (b + g + acc.length) w ∧ gxT σ7 fr n (g + 1) b sp ∧ (sg_g σ7 130 fr = i ∧ sg_g σ7 132 fr = bs) ∧ (0 ≤ sp ∧ 0 ≤ bs ∧ sp + bs ≤ w) ∧ (∀ (j : Nat) (x : Int) (v : vaF), xs[j]? = some x → vs[j]? = some v → rvF σ7 (T x).toNat v (sg_g σ7 133 (b + j))) ∧ ∀ (j : Nat) (v : vaF), acc[j]? = some v → rvF σ7 dB v (sg_g σ7 133 (b + g + j))
/-- what all places are to be followed by -/
def kEr (A : aT) (D : List aDf) (T : Int → Int) (σb : sg_S) (X : sg_S → Prop) (σ2 : sg_S) (ρ2 : eV) (n fr b sp cr : Int) (g N : Nat) (xs : List Int) (vs : List vaF) (dB : Nat) : eRs → Prop
  | .inl (e, w') => ∀ σ', sg_F goL σb σ' → sg_g σ' 88 73 = e → ¬ e = 0 → sg_g σ' 88 54 = w' → X σ'
  | .inr (acc, w', bs, ρ') => ∀ σ' m', exI T σb σ' n fr b w' sp bs g N xs vs acc dB → acc.length ≤ 200 → gV A D T σ2 σ' ρ2 ρ' fr b → 8 * (3001 - w') + cr ≤ ((m' : Nat) : Int) → Rx X m' σ'
section GVS
variable {A : aT} {D : List aDf} {T B : Int → Int} {σb : sg_S} {X : sg_S → Prop} {call : Int → eV → Int → eR} {ds : kD} {f : Nat}
theorem ip_1 {σ : sg_S} {n : Int} {i s b sp : Int} (hX : pgX σ A D T B) (hn : 0 ≤ n ∧ n < A.1) (h : gxT σ i n s b sp) (hk : A.2.1 n = 15) (hs : ((A.2.2.2.2.2 n).length : Int) < s) : ¬ v_isInPlaces σ i = 0 := by
  obtain ⟨h1, h2, h3, h4⟩ := h
  obtain ⟨t1, t2, t3, t4, t5⟩ := tr_k hX.1 hn
  unfold v_isInPlaces
  rw [h1, h2, t1, t5, if_neg (fun z => z hk), if_neg (by omega)]
  decide
theorem gx_vis (hX : pgX σb A D T B) (hc : gB (evN A T B call f)) (F : gxN A D T σb X B call ds f) {n fr b sp cr bd : Int} {g N : Nat} {gd xs : List Int} {sc : List (Int × Int)} {vs : List vaF} {dB : Nat} {σ2 : sg_S} {ρ2 : eV} (hn : 0 ≤ n ∧ n < A.1) (k15 : A.2.1 n = 15) (f0 : 0 ≤ fr) (b0 : 0 ≤ b) (hg : 1 ≤ g ∧ g ≤ 4) (hgl : (A.2.2.2.2.2 n).length = g) (hxl : xs.length = g) (hvl : vs.length = g) (hxt : ∀ (j : Nat) (x : Int), xs[j]? = some x → 0 < T x ∧ bTy A D T (210 + 4 * n + j) = T x - 1) (hvN : ∀ (j : Nat) (v : vaF), vs[j]? = some v → (itF v).length = N) (hN : N ≤ 200) (hcr : 1 ≤ cr) (hbd : (A.2.2.2.2.1 n)[0]? = some bd) (tyb : tyN A ds T B f (gsc n T 0 xs ++ sc) bd) (hdB : (T bd).toNat = dB) (hgd : (gd = [] ∧ (A.2.2.2.2.1 n).length = 1 + g) ∨ ∃ g0, gd = [g0] ∧ (A.2.2.2.2.1 n).length = 2 + g ∧ (A.2.2.2.2.1 n)[1 + g]? = some g0 ∧ tyN A ds T B f (gsc n T 0 xs ++ sc) g0 ∧ T g0 = 0) (hS2 : scR A D T σ2 ρ2 sc) : ∀ (k i : Nat) (ρ : eV) (w bs : Int) (acc : List vaF) (σ7 : sg_S) (m : Nat), i + k = N → acc.length ≤ i → exI T σb σ7 n fr b w sp bs g i xs vs acc dB → gV A D T σ2 σ7 ρ2 ρ fr b → 8 * (3001 - w) + cr ≤ (m : Int) → kEr A D T σb X σ2 ρ2 n fr b sp cr g N xs vs dB (eP (fun i ρ w => evT (evN A T B call f) gd bd (eUs ρ (210 + 4 * n) 0 (vs.map (fun v => (itF v).getD i (nmF 0)))) w) k i ρ w bs acc) → Rx X m σ7 := by
  have hA := hX.2.2.2.2.1
  intro k
  induction k with
  | zero =>
    intro i ρ w bs acc σ7 m hik hai h7 hV hm kk
    simp only [eP, kEr] at kk
    rw [show N = i by omega] at kk
    exact kk σ7 m h7 (by omega) hV hm
  | succ k ih =>
    intro i ρ w bs acc σ7 m hik hai h7 hV hm kk
    obtain ⟨S7, T7, ⟨p7, m7⟩, a4, a5, a6⟩ := id h7
    obtain ⟨a1, a2, ⟨c3, c4, c5⟩, c6, c7, c8, c9, c10⟩ := id S7
    have X7 := gX hX a1
    have v7 : ∀ j : Nat, j < g → ∃ (x : Int) (v : vaF) (d : Nat), xs[j]? = some x ∧ vs[j]? = some v ∧ T x = ((d + 1 : Nat) : Int) ∧ rvF σ7 (d + 1) v (sg_g σ7 133 (b + j)) := fun j hj => by
      obtain ⟨x, hx⟩ := gE_x (l := xs) (i := j) (by omega)
      obtain ⟨v, hv⟩ := gE_x (l := vs) (i := j) (by omega)
      have q := a5 j x v hx hv
      have t := (hxt j x hx).1
      refine ⟨x, v, (T x - 1).toNat, hx, hv, by omega, ?_⟩
      rw [show (T x).toNat = (T x - 1).toNat + 1 by omega] at q
      exact q
    have n9 : sg_g σ7 88 56 ≤ 9000 ∧ sg_g σ7 88 60 ≤ 12000 := ⟨by omega, by omega⟩
    -- a place is done
    have nx : ∀ (σ8 σ9 : sg_S) (ρ9 : eV) (w9 s9 st8 : Int) (acc9 : List vaF) (m9 : Nat), acc9.length ≤ i + 1 → gS σb σ8 (fr + 1) (b + g + acc9.length) w9 → gxT σ8 fr n st8 b sp → (sg_g σ8 131 fr = s9 ∧ sg_g σ8 132 fr = bs) → (0 ≤ s9 ∧ sp + s9 ≤ w9 ∧ w ≤ w9) → gV A D T σ7 σ8 ρ ρ9 fr (b + g) → (∀ (j : Nat) (v : vaF), acc9[j]? = some v → rvF σ8 dB v (sg_g σ8 133 (b + g + j))) → sg_F [127, 130, 132] σ8 σ9 → sg_g σ9 127 fr = g + 1 → sg_g σ9 130 fr = i + 1 → sg_g σ9 132 fr = (if sg_g σ8 132 fr < sg_g σ8 131 fr then sg_g σ8 131 fr else sg_g σ8 132 fr) → (∀ i, ¬ i = fr → sg_g σ9 127 i = sg_g σ8 127 i ∧ sg_g σ9 130 i = sg_g σ8 130 i ∧ sg_g σ9 132 i = sg_g σ8 132 i) → 8 * (3001 - w9) + cr ≤ (m9 : Int) → kEr A D T σb X σ2 ρ2 n fr b sp cr g N xs vs dB (eP (fun i ρ w => evT (evN A T B call f) gd bd (eUs ρ (210 + 4 * n) 0 (vs.map (fun v => (itF v).getD i (nmF 0)))) w) k (i + 1) ρ9 w9 (if bs < s9 then s9 else bs) acc9) → Rx X m9 σ9 := by
      intro σ8 σ9 ρ9 w9 s9 st8 acc9 m9 la S8 T8 r8 hs9 V8 va8 f9 q127 q130 q132 qo hm9 kk9
      have x9 : nEx σ8 σ9 := nEx_F f9 rfl
      rw [r8.1, r8.2] at q132
      obtain ⟨bs9, eb⟩ : ∃ z, (if bs < s9 then s9 else bs) = z := ⟨_, rfl⟩
      rw [eb] at q132 kk9
      have b9 : 0 ≤ bs9 ∧ sp + bs9 ≤ w9 := by rw [← eb]; split <;> omega
      have S9 : gS σb σ9 (fr + 1) (b + g + acc9.length) w9 := gS_w S8 f9 rfl (sg_F_m f9 rfl) (by rw [sg_F_g f9 (by rfl)]; exact S8.2.2.1.2.1) ⟨S8.2.2.2.1.2.1, Int.le_refl _⟩
      have V89 : gV A D T σ8 σ9 ρ9 ρ9 fr (b + g) := ⟨x9, fun y _ => sg_F_ga f9 rfl, fun y hy => rlR_up hy x9 (sg_F_ga f9 rfl), fun i hi => ⟨sg_F_ga f9 rfl, (qo i (by omega)).1, sg_F_ga f9 rfl, sg_F_ga f9 rfl, (qo i (by omega)).2.1, sg_F_ga f9 rfl, (qo i (by omega)).2.2⟩⟩
      have V79 := gV_t V8 V89 ⟨Int.le_refl _, Int.le_refl _⟩ ⟨Int.le_refl _, Int.le_refl _⟩
      refine ih (i + 1) ρ9 w9 bs9 acc9 σ9 m9 (by omega) la ⟨S9, ⟨by rw [sg_F_ga f9 rfl]; exact T8.1, q127, by rw [sg_F_ga f9 rfl]; exact T8.2.2.1, by rw [sg_F_ga f9 rfl]; exact T8.2.2.2⟩, ⟨by rw [q130]; omega, q132⟩, ⟨a4.1, b9.1, b9.2⟩, fun j x v hx hv => ?_, fun j v hv => ?_⟩ (gV_t hV V79 ⟨Int.le_refl _, Int.le_refl _⟩ ⟨Int.le_refl _, by omega⟩) hm9 kk9
      · have hj := gE_l hx
        rw [V79.2.1 _ (by omega)]
        exact rvF_up V79.1 (a5 j x v hx hv)
      · rw [sg_F_ga f9 rfl]
        exact rvF_up x9 (va8 j v hv)
    -- the body, from its begin on
    have body : ∀ (σ5 : sg_S) (ρ5 : eV) (w5 s5 cr5 : Int) (m5 : Nat) (Q5 : sg_S → Prop), gS σb σ5 (fr + 1) (b + g + acc.length) w5 → gxT σ5 fr n (g + 3) b sp → (sg_g σ5 131 fr = s5 ∧ sg_g σ5 130 fr = i ∧ sg_g σ5 132 fr = bs) → w ≤ w5 → (0 ≤ s5 ∧ s5 ≤ w5 - w) → scR A D T σ5 ρ5 (gsc n T 0 xs ++ sc) → gV A D T σ7 σ5 ρ ρ5 fr (b + g + acc.length) → 8 * (3001 - w5) + cr5 ≤ (m5 : Int) → cr - 1 ≤ cr5 → (match evN A T B call f bd ρ5 w5 with
        | .inl e => kEr A D T σb X σ2 ρ2 n fr b sp cr g N xs vs dB (.inl e)
        | .inr (v2, w2, s2, ρ6) => kEr A D T σb X σ2 ρ2 n fr b sp cr g N xs vs dB (eP (fun i ρ w => evT (evN A T B call f) gd bd (eUs ρ (210 + 4 * n) 0 (vs.map (fun v => (itF v).getD i (nmF 0)))) w) k (i + 1) ρ6 w2 (if bs < s5 + s2 then s5 + s2 else bs) (acc ++ [v2]))) → (∀ σ', Rx X m5 σ' → Q5 σ') → V_begin σ5 bd Q5 := by
      intro σ5 ρ5 w5 s5 cr5 m5 Q5 S5 T5 r5 hw5 hs5 sc5 V5 hm5 hcr5 k5 hQ5
      have X5 := gX hX S5.1
      have w59 := S5.2.2.2.2.1
      refine gp_F F hA hn tyb (ip := true) (ow := s5) (cr := cr5) S5 f0 T5 ⟨a4.1, by omega⟩ r5.1 ⟨hs5.1, by omega⟩ sc5 (ip_1 X5 hn T5 k15 (by omega)) hm5 (by omega) ?_ Q5 hQ5
      have bnd := hc bd ρ5 w5
      generalize evN A T B call f bd ρ5 w5 = r at k5 bnd
      match r, k5, bnd with
      | .inl (e, w'), k5, _ => exact fun σ' q1 q2 q3 q4 => k5 σ' q1 q2 q3 q4
      | .inr (v2, w2, s2, ρ6), k5, bnd =>
        intro σ6 m6 S6 T6 h131 r6 V6 v6 hm6
        have bb := bnd v2 w2 s2 ρ6 w59.2 rfl
        simp only [if_true] at T6 h131
        simp only at k5
        have X6 := gX hX S6.1
        obtain ⟨d1, d2, ⟨d3, d4, d5⟩, d6, d7, d8, d9, d10⟩ := id S6
        have V76 := gV_t V5 V6 ⟨Int.le_refl _, Int.le_refl _⟩ ⟨Int.le_refl _, Int.le_refl _⟩
        have al : (acc ++ [v2]).length = acc.length + 1 := by simp
        obtain ⟨x0, v0, dd0, hx0, hv0, ht0, hr0⟩ := v7 0 (by omega)
        rw [show b + ((0 : Nat) : Int) = b by omega] at hr0
        have hd6 := rv_x (σ := σ6) (by omega) (rvF_up V76.1 hr0)
        obtain ⟨m6, rfl⟩ : ∃ m', m6 = m' + 1 := ⟨m6 - 1, by omega⟩
        refine rx_g (by omega) d2 (fun Qz hz => gt_each X6 hn d3 ⟨f0, by omega⟩ T6.1 k15 (ge_done (p := (i : Int)) X6 hn ⟨f0, by omega⟩ hgl hg.2 T6 ⟨b0, by omega⟩ (by rw [V76.2.1 b (by omega)]; exact hd6.1) (by rw [r6.1]; exact r5.2.1) ⟨by omega, by omega⟩ (fun σ9 f9 q1 q2 q3 q4 _ _ => ?_)))
        refine hz σ9 ?_
        refine nx σ6 σ9 ρ6 w2 (s5 + s2) _ (acc ++ [v2]) m6 (by omega) ?_ T6 ⟨h131, by rw [r6.2]; exact r5.2.2⟩ ⟨by omega, by omega, by omega⟩ (gV_t V76 (gV_r σ6 ρ6 fr (b + g)) ⟨Int.le_refl _, Int.le_refl _⟩ ⟨by omega, Int.le_refl _⟩) (fun j v hv => ?_) f9 q1 q2 q3 q4 (by omega) k5
        · rw [al, show b + (g : Int) + ((acc.length + 1 : Nat) : Int) = b + g + acc.length + 1 by omega]; exact S6
        · rcases Nat.lt_or_ge j acc.length with q | q
          · rw [List.getElem?_append_left q] at hv
            rw [V76.2.1 _ (by omega)]
            exact rvF_up V76.1 (a6 j v hv)
          · rw [List.getElem?_append_right q] at hv
            have z : j - acc.length = 0 := by
              have := gE_l hv
              simp only [List.length_cons, List.length_nil] at this
              omega
            rw [z] at hv
            simp only [List.getElem?_cons_zero, Option.some.injEq] at hv
            subst hv
            rw [show j = acc.length by omega, ← hdB]
            exact v6
    -- a place begins
    obtain ⟨x0, v0, dd0, hx0, hv0, ht0, hr0⟩ := v7 0 (by omega)
    rw [show b + ((0 : Nat) : Int) = b by omega] at hr0
    have hd7 := rv_x n9.1 hr0
    have len0 := hvN 0 v0 hv0
    obtain ⟨ws, hws⟩ : ∃ ws, vs.map (fun v => (itF v).getD i (nmF 0)) = ws := ⟨_, rfl⟩
    have wl : ws.length = g := by rw [← hws, List.length_map]; exact hvl
    simp only [eP] at kk
    rw [hws] at kk
    obtain ⟨m, rfl⟩ : ∃ m', m = m' + 1 := ⟨m - 1, by omega⟩
    have bind : ∀ (kx : Nat) (x st' : Int), (((A.2.2.2.2.1 n).length = 1 + g ∧ kx = 0 ∧ st' = g + 3) ∨ ((A.2.2.2.2.1 n).length = 2 + g ∧ kx = 1 + g ∧ st' = g + 2)) → (A.2.2.2.2.1 n)[kx]? = some x → (∀ σ36, gS σb σ36 (fr + 1) (b + g + acc.length) w → gxT σ36 fr n st' b sp → (sg_g σ36 131 fr = 0 ∧ sg_g σ36 130 fr = i ∧ sg_g σ36 132 fr = bs) → scR A D T σ36 (eUs ρ (210 + 4 * n) 0 ws) (gsc n T 0 xs ++ sc) → gV A D T σ7 σ36 ρ (eUs ρ (210 + 4 * n) 0 ws) fr (b + g + acc.length) → ∀ Q' : sg_S → Prop, (∀ σ', Rx X m σ' → Q' σ') → V_begin σ36 x Q') → Rx X (m + 1) σ7 := by
      intro kx x st' hl hx kb
      have item : ∀ (j : Nat) (y : Int) (v : vaF), xs[j]? = some y → vs[j]? = some v → p_itemAt σ7 (sg_g σ7 133 (b + j)) (i : Int) ∧ rvF σ7 (T y - 1).toNat ((itF v).getD i (nmF 0)) (v_itemAt σ7 (sg_g σ7 133 (b + j)) (i : Int)) := fun j y v hy hv => by
        obtain ⟨y', v', d, hy', hv', hd, hr⟩ := v7 j (by have := gE_l hy; omega)
        rw [hy] at hy'
        rw [hv] at hv'
        obtain rfl := Option.some.inj hy'
        obtain rfl := Option.some.inj hv'
        have len := hvN j v hv
        obtain ⟨u, hu⟩ := gE_x (l := itF v) (i := i) (by omega)
        have it := rv_it n9.1 n9.2 hr hu
        rw [show (T y - 1).toNat = d by omega, List.getD_eq_getElem?_getD, hu, Option.getD_some]
        exact it
      refine rx_g (by omega) a2 (fun Qz hz => gt_each X7 hn c3 ⟨f0, by omega⟩ T7.1 k15 (ge_bind (p := (i : Int)) (N := (N : Int)) X7 hn ⟨f0, by omega⟩ hgl hg T7 ⟨b0, by omega⟩ hd7.1 p7 (by rw [hd7.2.1, len0]) (by omega) (fun j hj => ?_) hl hx (fun σ13 f13 q1 q2 σ36 e36 => ?_)))
      · obtain ⟨y, v, d, hy, hv, _, _⟩ := v7 j hj
        exact (item j y v hy hv).1
      have f36 : sg_F [127, 131, 134] σ7 σ36 := by rw [e36]; exact sg_F_w (sg_F_w (sg_F_m f13 rfl) rfl _) rfl _
      have x36 : nEx σ7 σ36 := nEx_F f36 rfl
      have st0 : sg_R st' := by rcases hl with ⟨_, _, z⟩ | ⟨_, _, z⟩ <;> rw [z] <;> exact ⟨by omega, by omega⟩
      have e134 : ∀ y, sg_g σ36 134 y = sg_g σ13 134 y := fun y => by rw [e36, sg_gw_c _ _ _ _ _ _ (by decide), sg_gw_c _ _ _ _ _ _ (by decide)]
      obtain ⟨r1, r2⟩ := rlR_us (A := A) (D := D) (T := T) (ρ := ρ) (b0 := 210 + 4 * n) (vs := ws) x36 (fun j u hj => by
        rw [← hws, List.getElem?_map] at hj
        cases hvj : vs[j]? with
        | none => rw [hvj] at hj; cases hj
        | some v =>
          rw [hvj] at hj
          have hjl := gE_l hvj
          obtain ⟨y, hy⟩ := gE_x (l := xs) (i := j) (by omega)
          have e : (itF v).getD i (nmF 0) = u := Option.some.inj hj
          rw [(hxt j y hy).2, e134, q1 j (by omega), ← e]
          exact rvF_up x36 (item j y v hy hvj).2) (fun y hy => by rw [e134]; exact q2 y (by rw [wl] at hy; exact hy))
      have V36 : gV A D T σ7 σ36 ρ (eUs ρ (210 + 4 * n) 0 ws) fr (b + g + acc.length) := ⟨x36, fun y _ => sg_F_ga f36 rfl, r2, fun i hi => ⟨sg_F_ga f36 rfl, by rw [e36, sg_gw_k _ _ _ _ _ _ (by omega), sg_gw_c _ _ _ _ _ _ (by decide), sg_F_ga f13 rfl], sg_F_ga f36 rfl, sg_F_ga f36 rfl, sg_F_ga f36 rfl, by rw [e36, sg_gw_c _ _ _ _ _ _ (by decide), sg_gw_k _ _ _ _ _ _ (by omega), sg_F_ga f13 rfl], sg_F_ga f36 rfl⟩⟩
      have S36 : gS σb σ36 (fr + 1) (b + g + acc.length) w := gS_w S7 f36 rfl (sg_F_m f36 rfl) (by rw [sg_F_g f36 (by rfl)]; exact c4) ⟨by omega, Int.le_refl _⟩
      refine kb σ36 S36 ⟨by rw [sg_F_ga f36 rfl]; exact T7.1, by rw [e36, sg_gw_e _ _ _ _ st0], by rw [sg_F_ga f36 rfl]; exact T7.2.2.1, by rw [sg_F_ga f36 rfl]; exact T7.2.2.2⟩ ⟨by rw [e36, sg_gw_c _ _ _ _ _ _ (by decide), sg_gw_e _ _ _ _ (by decide)], by rw [sg_F_ga f36 rfl]; exact p7, by rw [sg_F_ga f36 rfl]; exact m7⟩ (fun q hq => ?_) V36 _ (fun σ' hR _ _ _ => hz σ' hR)
      rcases List.mem_append.mp hq with e | e
      · obtain ⟨j, y, hy, rfl⟩ := gscF_m e
        have hj := gE_l hy
        simp only [Nat.zero_add]
        exact ⟨⟨by omega, by omega⟩, ((hxt j y hy).2).symm, r1 j (by omega)⟩
      · exact scR_u hS2 (gV_t hV V36 ⟨Int.le_refl _, Int.le_refl _⟩ ⟨Int.le_refl _, by omega⟩) q e
    rcases hgd with ⟨gd0, hl⟩ | ⟨g0, gd0, hl, hg0, tyg, tg0⟩
    · -- no guard
      refine bind 0 bd (g + 3) (Or.inl ⟨hl, rfl, rfl⟩) hbd (fun σ36 S36 T36 r36 sc36 V36 Q' hQ' => ?_)
      refine body σ36 (eUs ρ (210 + 4 * n) 0 ws) w 0 (cr - 1) m Q' S36 T36 r36 (Int.le_refl _) ⟨Int.le_refl _, by omega⟩ sc36 V36 (by omega) (Int.le_refl _) ?_ hQ'
      rw [gd0] at kk ⊢
      simp only [evT] at kk
      generalize evN A T B call f bd (eUs ρ (210 + 4 * n) 0 ws) w = r at kk ⊢
      match r, kk with
      | .inl (e, w'), kk => exact fun σ' q1 q2 q3 q4 => kk σ' q1 q2 q3 q4
      | .inr (v2, w2, s2, ρ6), kk =>
        simp only at kk ⊢
        rw [show (0 : Int) + s2 = s2 by omega]
        exact kk
    · -- a guard
      refine bind (1 + g) g0 (g + 2) (Or.inr ⟨hl, rfl, rfl⟩) hg0 (fun σ36 S36 T36 r36 sc36 V36 Q' hQ' => ?_)
      have X36 := gX hX S36.1
      refine gp_F F hA hn tyg (ip := true) (ow := 0) (cr := cr - 1) S36 f0 T36 ⟨a4.1, by omega⟩ r36.1 ⟨Int.le_refl _, by omega⟩ sc36 (ip_1 X36 hn T36 k15 (by omega)) (by omega) (by omega) ?_ Q' hQ'
      rw [gd0] at kk
      simp only [evT] at kk
      have bnd := hc g0 (eUs ρ (210 + 4 * n) 0 ws) w
      generalize evN A T B call f g0 (eUs ρ (210 + 4 * n) 0 ws) w = r at kk bnd
      match r, kk, bnd with
      | .inl (e, w'), kk, _ => exact fun σ' q1 q2 q3 q4 => kk σ' q1 q2 q3 q4
      | .inr (v1, w1, s1, ρ4), kk, bnd =>
        intro σ4 m4 S4 T4 h131 r4 V4 v4 hm4
        have bb := bnd v1 w1 s1 ρ4 c7.2 rfl
        simp only [if_true] at T4 h131
        simp only at kk
        rw [tg0] at v4
        have ev : sg_g σ4 133 (b + g + acc.length) = v1 [] := v4.symm
        have X4 := gX hX S4.1
        obtain ⟨d1, d2, ⟨d3, d4, d5⟩, d6, d7, d8, d9, d10⟩ := id S4
        have V74 := gV_t V36 V4 ⟨Int.le_refl _, Int.le_refl _⟩ ⟨Int.le_refl _, Int.le_refl _⟩
        have hd4 := rv_x (σ := σ4) (by omega) (rvF_up V74.1 hr0)
        obtain ⟨m4, rfl⟩ : ∃ m', m4 = m' + 1 := ⟨m4 - 1, by omega⟩
        refine rx_g (by omega) d2 (fun Qz hz => gt_each X4 hn d3 ⟨f0, by omega⟩ T4.1 k15 (ge_test (x := b + g + acc.length) (bd := bd) X4 hn ⟨f0, by omega⟩ hgl hg.2 T4 ⟨b0, by omega⟩ (by rw [V74.2.1 b (by omega)]; exact hd4.1) d4 ⟨by omega, by omega⟩ hbd (fun z σ5 e5 => ?_) (fun z σ5 e5 => ?_)))
        · rw [ev] at z
          rw [if_neg z] at kk
          have f5 : sg_F [127, 71088] σ4 σ5 := by rw [e5]; exact sg_F_w (sg_F_w (sg_F_r _ _) rfl _) rfl _
          have x5 : nEx σ4 σ5 := nEx_F f5 rfl
          have S5 : gS σb σ5 (fr + 1) (b + g + acc.length) w1 := gS_w S4 f5 rfl (sg_F_m f5 rfl) (by rw [e5, sg_gw_c _ _ _ _ _ _ (by decide), sg_gw_e _ _ _ _ ⟨by omega, by omega⟩]) ⟨by omega, by omega⟩
          have V45 : gV A D T σ4 σ5 ρ4 ρ4 fr (b + g + acc.length) := ⟨x5, fun y _ => sg_F_ga f5 rfl, fun y hy => rlR_up hy x5 (sg_F_ga f5 rfl), fun i hi => ⟨sg_F_ga f5 rfl, by rw [e5, sg_gw_k _ _ _ _ _ _ (by omega), sg_gw_c _ _ _ _ _ _ (by decide)], sg_F_ga f5 rfl, sg_F_ga f5 rfl, sg_F_ga f5 rfl, sg_F_ga f5 rfl, sg_F_ga f5 rfl⟩⟩
          have V75 := gV_t V74 V45 ⟨Int.le_refl _, Int.le_refl _⟩ ⟨Int.le_refl _, Int.le_refl _⟩
          refine body σ5 ρ4 w1 (0 + s1) (cr + 1) m4 _ S5 ⟨by rw [sg_F_ga f5 rfl]; exact T4.1, by rw [e5, sg_gw_e _ _ _ _ ⟨by omega, by omega⟩], by rw [sg_F_ga f5 rfl]; exact T4.2.2.1, by rw [sg_F_ga f5 rfl]; exact T4.2.2.2⟩ ⟨by rw [sg_F_ga f5 rfl]; exact h131, by rw [sg_F_ga f5 rfl, r4.1]; exact r36.2.1, by rw [sg_F_ga f5 rfl, r4.2]; exact r36.2.2⟩ bb.1 ⟨by omega, by omega⟩ (scR_u sc36 (gV_t V4 V45 ⟨Int.le_refl _, Int.le_refl _⟩ ⟨Int.le_refl _, Int.le_refl _⟩)) V75 (by omega) (by omega) ?_ (fun σ' hR _ _ _ => hz σ' hR)
          rw [gd0]
          generalize evN A T B call f bd ρ4 w1 = r2 at kk ⊢
          match r2, kk with
          | .inl (e, w'), kk => exact fun σ' q1 q2 q3 q4 => kk σ' q1 q2 q3 q4
          | .inr (v2, w2, s2, ρ6), kk =>
            simp only at kk ⊢
            rw [show (0 : Int) + s1 + s2 = s1 + s2 by omega]
            exact kk
        · rw [ev] at z
          rw [if_pos z] at kk
          simp only [List.append_nil] at kk
          have f5 : sg_F [71088] σ4 σ5 := by rw [e5]; exact sg_F_w (sg_F_r _ _) rfl _
          have x5 : nEx σ4 σ5 := nEx_F f5 rfl
          have S5 : gS σb σ5 (fr + 1) (b + g + acc.length) w1 := gS_w S4 f5 rfl (sg_F_m f5 rfl) (by rw [e5, sg_gw_e _ _ _ _ ⟨by omega, by omega⟩]) ⟨by omega, by omega⟩
          have V45 : gV A D T σ4 σ5 ρ4 ρ4 fr (b + g + acc.length) := gV_F f5 x5 rfl
          have V75 := gV_t V74 V45 ⟨Int.le_refl _, Int.le_refl _⟩ ⟨Int.le_refl _, Int.le_refl _⟩
          refine x_done (p := (i : Int)) ⟨f0, by omega⟩ ⟨by omega, by omega⟩ (by rw [sg_F_ga f5 rfl, r4.1]; exact r36.2.1) ⟨by omega, by omega⟩ (fun σ9 f9 q1 q2 q3 q4 _ _ _ => ?_)
          refine hz σ9 ?_
          refine nx σ5 σ9 ρ4 w1 s1 (g + 2) acc m4 (by omega) S5 ⟨by rw [sg_F_ga f5 rfl]; exact T4.1, by rw [sg_F_ga f5 rfl]; exact T4.2.1, by rw [sg_F_ga f5 rfl]; exact T4.2.2.1, by rw [sg_F_ga f5 rfl]; exact T4.2.2.2⟩ ⟨by rw [sg_F_ga f5 rfl, h131]; omega, by rw [sg_F_ga f5 rfl, r4.2]; exact r36.2.2⟩ ⟨by omega, by omega, by omega⟩ (gV_t V75 (gV_r σ5 ρ4 fr (b + g)) ⟨Int.le_refl _, Int.le_refl _⟩ ⟨by omega, Int.le_refl _⟩) (fun j v hv => ?_) f9 q1 q2 q3 q4 (by omega) (by rw [gd0]; exact kk)
          have hj := gE_l hv
          rw [V75.2.1 _ (by omega)]
          exact rvF_up V75.1 (a6 j v hv)
end GVS
