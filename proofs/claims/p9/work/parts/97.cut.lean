/-! THE REFERENCE cuts the tape into the class's tokens. -/
section CUT
variable {σ : sg_S} {c : tkC}
def cI (c : tkC) (s : sg_S) (p v : Int) : Prop := 0 ≤ p ∧ p ≤ c.2.1 ∧ ∃ k : Nat, tkP c s k ∧ (v = 1 ∧ (∀ i, i < k → 1 ≤ rS c i ∧ rS c i ≤ 3) ∧ lx_end c.1 c.2.1 lx_b p = tPl c k ∨ v = 0 ∧ 1 ≤ k ∧ (∀ i, i + 1 < k → 1 ≤ rS c i ∧ rS c i ≤ 3) ∧ rS c (k - 1) = 4)
theorem rS_n {i : Nat} (h : 1 ≤ rS c i ∧ rS c i ≤ 3) : ¬ tK c i = 256 ∧ ¬ tK c i = 259 := by
  unfold rS at h
  refine ⟨fun e => ?_, fun e => ?_⟩
  · rw [if_pos e] at h; omega
  · rw [if_neg (by omega), if_neg (by omega), if_pos e] at h; omega
theorem cI_k (hc : tkOK c) {k : Nat} {p : Int} (hp : 0 ≤ p ∧ p ≤ c.2.1) (h1 : ∀ i, i < k → 1 ≤ rS c i ∧ rS c i ≤ 3) : (k : Int) ≤ 1200 := by
  have h2 := tP_k hc k (fun i hi => rS_n (h1 i hi))
  have h3 := (tPos_r hc k).2
  have h4 := hc.2.1
  omega
/-- one more token: the next stands behind it -/
theorem cI_s (hc : tkOK c) {k : Nat} {p : Int} {s : sg_S} (h1 : ∀ i, i < k → 1 ≤ rS c i ∧ rS c i ≤ 3) (hs : tkP c s (k + 1)) (hp : tPl c k = p) (hr : 1 ≤ rS c k ∧ rS c k ≤ 3) : cI c s (lx_next c.1 c.2.1 p) 1 := by
  have h2 := tPos_r hc (k + 1)
  have e : lx_next c.1 c.2.1 p = tPos c (k + 1) := by rw [← hp]; rfl
  rw [e]
  refine ⟨h2.1, h2.2, k + 1, hs, Or.inl ⟨rfl, fun i hi => ?_, rfl⟩⟩
  by_cases e2 : i = k
  · subst e2; exact hr
  · exact h1 i (by omega)
theorem cI_b {k : Nat} {p : Int} {s : sg_S} (h1 : ∀ i, i < k → 1 ≤ rS c i ∧ rS c i ≤ 3) (hs : tkP c s (k + 1)) (hp : 0 ≤ p ∧ p ≤ c.2.1) (hr : rS c k = 4) : cI c s p 0 := ⟨hp.1, hp.2, k + 1, hs, Or.inr ⟨rfl, by omega, fun i hi => h1 i (by omega), by simpa using hr⟩⟩
theorem rS_d (hc : tkOK c) {k : Nat} {p : Int} (hp : tPl c k = p) (hlt : p < c.2.1) (hd : lx_d (c.1 p) = true) : rS c k = (if lx_end c.1 c.2.1 lx_d p - p > 9 then 4 else 1) ∧ rW c k = lx_dec c.1 p (lx_end c.1 c.2.1 lx_d p - p).toNat := by
  unfold rS rW tK lx_kind
  rw [hp, if_neg (show ¬ c.2.1 ≤ p by omega), if_pos hd, if_neg (show ¬ c.2.1 ≤ p by omega), if_pos hd]
  refine ⟨?_, rfl⟩
  by_cases a : lx_end c.1 c.2.1 lx_d p - p > 9
  · simp only [if_pos a]; decide
  · simp only [if_neg a]; decide
theorem rS_w (hc : tkOK c) {k : Nat} {p : Int} (hp : tPl c k = p) (hlt : p < c.2.1) (hd : ¬ lx_d (c.1 p) = true) (hl : lx_l (c.1 p) = true) : rS c k = (if lx_end c.1 c.2.1 lx_a p - p > 8 then 4 else 2) ∧ rW c k = lx_cd c.1 p (lx_end c.1 c.2.1 lx_a p - p).toNat := by
  unfold rS rW tK lx_kind
  rw [hp, if_neg (show ¬ c.2.1 ≤ p by omega), if_neg hd, if_pos hl, if_neg (show ¬ c.2.1 ≤ p by omega), if_neg hd, if_pos hl]
  refine ⟨?_, rfl⟩
  by_cases a : lx_end c.1 c.2.1 lx_a p - p > 8
  · simp only [if_pos a]; decide
  · simp only [if_neg a]
    have := lx_fi_r c.2.2.1 (lx_pk c.1 p (lx_end c.1 c.2.1 lx_a p - p).toNat) 18 0 (by omega) (by omega)
    generalize lx_fi c.2.2.1 (lx_pk c.1 p (lx_end c.1 c.2.1 lx_a p - p).toNat) 18 0 = x at this
    rw [if_neg (by omega), if_neg (by omega), if_neg (by omega), if_pos (by omega)]
theorem rS_s (hc : tkOK c) {k : Nat} {p : Int} (hp : tPl c k = p) (hlt : p < c.2.1) (hd : ¬ lx_d (c.1 p) = true) (hl : ¬ lx_l (c.1 p) = true) : rS c k = (if lx_s (c.1 p) = true then 3 else 4) ∧ rW c k = c.1 p := by
  unfold rS rW tK lx_kind
  rw [hp, if_neg (show ¬ c.2.1 ≤ p by omega), if_neg hd, if_neg hl, if_neg (show ¬ c.2.1 ≤ p by omega), if_neg hd, if_neg hl]
  refine ⟨?_, rfl⟩
  by_cases a : lx_s (c.1 p) = true
  · simp only [if_pos a]
    have := of_decide_eq_true a
    rw [if_neg (by omega), if_neg (by omega), if_neg (by omega), if_neg (by omega)]
  · simp only [if_neg a]; decide
theorem s_cut {Q : sg_S → Prop} (hb : bY c σ) (k : ∀ t N σ', tkR t N (sg_g σ' 90) (sg_g σ' 91) (sg_gl σ' 92) → tkT c t N → Q σ') : V_cutTokens σ Q := by
  have hc := hb.1
  have hn0 := hc.1
  have hn1 := hc.2.1
  unfold V_cutTokens
  rintro σ1 e1
  rw [hb.2.1]
  refine ⟨fun m p v s => m = (c.2.1 - p).toNat ∧ cI c s p v, fun v s => ∃ p, cI c s p v ∧ (v = 1 → c.2.1 ≤ p), ⟨_, rfl, Int.le_refl 0, hn0, 0, ⟨?_, fun i hi => absurd hi (by omega)⟩, Or.inl ⟨rfl, fun i hi => absurd hi (by omega), rfl⟩⟩, ?_, ?_⟩
  · rw [e1, sg_gw, if_pos ⟨rfl, rfl⟩]; rfl
  · rintro m p v s - - - ⟨hm, hI⟩
    refine ⟨fun q => ⟨p, hI, fun _ => q⟩, fun q => ⟨fun q2 => ⟨p, hI, fun e => by omega⟩, fun q2 => ?_⟩⟩
    obtain ⟨p0, p1, kk, hk, hv⟩ := hI
    have hv1 : v = 1 ∧ (∀ i, i < kk → 1 ≤ rS c i ∧ rS c i ≤ 3) ∧ lx_end c.1 c.2.1 lx_b p = tPl c kk := by
      rcases hv with hv | hv
      · exact hv
      · exact absurd hv.1 q2
    obtain ⟨v1, hs, he⟩ := hv1
    have hk12 := cI_k hc ⟨p0, p1⟩ hs
    rw [hb.2.2 p p0 q]
    have hbr := hc.2.2 p
    have blank : lx_b (c.1 p) = true → sg_R (p + 1) ∧ (p < p + 1 ∧ cI c s (p + 1) v) := fun hbl => ⟨⟨by omega, by omega⟩, by omega, by omega, by omega, kk, hk, Or.inl ⟨v1, hs, by rw [lx_end_1 q hbl]; exact he⟩⟩
    refine ⟨⟨by omega, by omega⟩, fun p' v' s' => p < p' ∧ cI c s' p' v', ⟨fun h32 => blank (by unfold lx_b; exact decide_eq_true (Or.inl h32)), fun h32 => ⟨fun h10 => ?_, fun h10 => blank (by unfold lx_b; exact decide_eq_true (Or.inr h10))⟩⟩, ?_⟩
    · have hnb : lx_b (c.1 p) = false := by
        unfold lx_b
        exact decide_eq_false (fun h => by omega)
      have hp := tk_at hc p0 he q hnb
      rw [vd_l, vl_l, vs_l]
      refine ⟨fun hd => ⟨fun hl => ?_, fun hl => ?_⟩, fun hd => ?_⟩
      · -- a sign, or none
        rw [if01n] at hd hl
        have hd' : ¬ lx_d (c.1 p) = true := by rw [hd]; simp
        have hl' : ¬ lx_l (c.1 p) = true := by rw [hl]; simp
        obtain ⟨r1, r2⟩ := rS_s hc hp q hd' hl'
        refine ⟨⟨by omega, by omega⟩, ?_⟩
        rintro v49 e49 -
        refine s_token hk (by omega) ?_ hp.symm ⟨by omega, by omega⟩ (fun _ => r2.symm) ⟨by omega, by omega⟩ (fun s' h' _ _ => ⟨by omega, ?_⟩)
        · rw [e49, r1]
          cases lx_s (c.1 p) <;> simp
        · by_cases a : lx_s (c.1 p) = true
          · rw [if_pos a] at r1 ⊢
            have hnx : lx_next c.1 c.2.1 p = p + 1 := by
              unfold lx_next
              rw [if_neg (show ¬ c.2.1 ≤ p by omega), if_neg hd', if_neg hl', if_pos a]
            rw [← hnx]
            exact cI_s hc hs h' hp (by omega)
          · rw [if_neg a] at r1 ⊢
            exact cI_b hs h' ⟨by omega, by omega⟩ r1
      · -- a WORD
        rw [if01n] at hd
        rw [if01] at hl
        have hd' : ¬ lx_d (c.1 p) = true := by rw [hd]; simp
        obtain ⟨r1, r2⟩ := rS_w hc hp q hd' hl
        obtain ⟨s1, s2, s3⟩ := lx_end_spec c.1 c.2.1 lx_a p
        have s4 := lx_end_le (B := c.1) (p := lx_a) (q := p) (N := c.2.1) (by omega)
        have hla : lx_a (c.1 p) = true := by
          have := of_decide_eq_true hl
          unfold lx_a
          exact decide_eq_true (Or.inr this)
        have s5 : p + 1 ≤ lx_end c.1 c.2.1 lx_a p := by rw [← lx_end_1 q hla]; exact (lx_end_spec c.1 c.2.1 lx_a (p + 1)).1
        generalize hE : lx_end c.1 c.2.1 lx_a p = e at r1 r2 s1 s2 s3 s4 s5
        have step : ∀ (m1 : Nat) (a b : Int), p ≤ a → a ≤ e → (a < c.2.1 ∧ lx_a (c.1 a) = true) → (a - p ≤ 8 → b = lx_cd c.1 p (a - p).toNat) → sg_RL b → m1 = (e - a).toNat → ∀ v99 : Int, v99 = lx_dg (c.1 a) → sg_R (a - p) ∧ ((8 ≤ (a - p) → True) ∧ ((a - p) < 8 → sg_RL (40 * b) ∧ sg_RL ((40 * b) + v99) ∧ True)) ∧ ∀ v105 : Int, v105 = (if 8 ≤ (a - p) then b else ((40 * b) + v99)) → sg_RL v105 → sg_R (a + 1) ∧ (∃ m, m < m1 ∧ (m = (e - (a + 1)).toNat ∧ p ≤ a + 1 ∧ a + 1 ≤ e ∧ ((a + 1) - p ≤ 8 → v105 = lx_cd c.1 p ((a + 1) - p).toNat) ∧ sg_RL v105)) := by
          intro m1 a b a0 a1 a2 hbv hbr m1e v99 e99
          have hae : a < e := by
            by_cases x : a = e
            · subst x
              rcases s3 with s3 | s3
              · omega
              · rw [a2.2] at s3; cases s3
            · omega
          have hdg := lx_dg_b a2.2
          have cdb : a - p ≤ 8 → 0 ≤ b ∧ b < 40 ^ (a - p).toNat := fun x => by
            rw [hbv x]
            exact lx_cd_b _ (fun u u0 u1 => (s2 u u0 (by omega)).2)
          have rng : a - p < 8 → 0 ≤ b ∧ b ≤ 6553600000000 := fun x => by
            have y := cdb (by omega)
            have z := lx_p40 (n := (a - p).toNat) (by omega)
            omega
          refine ⟨⟨by omega, by omega⟩, ⟨fun _ => trivial, fun x => ⟨⟨by have := rng x; omega, by have := rng x; omega⟩, ⟨by have := rng x; omega, by have := rng x; omega⟩, trivial⟩⟩, ?_⟩
          rintro v105 e105 hr105
          refine ⟨⟨by omega, by omega⟩, (e - (a + 1)).toNat, by omega, rfl, by omega, by omega, fun x => ?_, hr105⟩
          rw [e105, if_neg (by omega), hbv (by omega), show ((a + 1) - p).toNat = (a - p).toNat + 1 by omega, e99]
          simp only [lx_cd]
          rw [show p + ((a - p).toNat : Int) = a by omega]
        refine ⟨fun m1 a b => m1 = (e - a).toNat ∧ p ≤ a ∧ a ≤ e ∧ (a - p ≤ 8 → b = lx_cd c.1 p (a - p).toNat) ∧ sg_RL b, fun a b => a = e ∧ (a - p ≤ 8 → b = lx_cd c.1 p (a - p).toNat), ⟨_, rfl, Int.le_refl _, by omega, fun _ => by rw [show (p - p).toNat = 0 by omega]; rfl, by decide⟩, ?_, ?_⟩
        · rintro m1 a b - hbr ⟨m1e, a0, a1, hbv, -⟩
          have pb := pb_l hb (p := a) (by omega)
          have vb := vb_l hb (p := a) (by omega)
          rw [vb]
          rw [vd_l, vl_l]
          by_cases hin : a < c.2.1
          · simp only [if_pos hin]
            have hba := hc.2.2 a
            have inner : lx_a (c.1 a) = true → (((if lx_l (c.1 a) = true then (1 : Int) else 0) = 0 → p_byteOf σ a ∧ sg_R (c.1 a - 21) ∧ True) ∧ (¬ (if lx_l (c.1 a) = true then (1 : Int) else 0) = 0 → p_byteOf σ a ∧ sg_R (c.1 a - 96) ∧ True)) := fun _ => ⟨fun _ => ⟨pb, ⟨by omega, by omega⟩, trivial⟩, fun _ => ⟨pb, ⟨by omega, by omega⟩, trivial⟩⟩
            have dg : (if (if lx_l (c.1 a) = true then (1 : Int) else 0) = 0 then c.1 a - 21 else c.1 a - 96) = lx_dg (c.1 a) := by
              unfold lx_dg
              cases lx_l (c.1 a) <;> simp
            refine ⟨pb, fun x => ⟨pb, inner ?_, ?_⟩, fun x => ⟨pb, fun y => ⟨?_, hbv⟩, fun y => ⟨pb, inner ?_, ?_⟩⟩⟩
            · have := of_decide_eq_true ((if01 _).mp x)
              unfold lx_a
              exact decide_eq_true (Or.inr this)
            · have hla2 : lx_a (c.1 a) = true := by
                have := of_decide_eq_true ((if01 _).mp x)
                unfold lx_a
                exact decide_eq_true (Or.inr this)
              rintro v99 e99 -
              rw [dg] at e99
              exact step m1 a b a0 a1 ⟨hin, hla2⟩ hbv hbr m1e v99 e99
            · by_cases z : a = e
              · exact z
              · have z2 := (s2 a a0 (by omega)).2
                have z3 := of_decide_eq_true z2
                have y1 : lx_d (c.1 a) = false := (if01n _).mp y
                have x1 : lx_l (c.1 a) = false := (if01n _).mp x
                have y2 := of_decide_eq_false y1
                have x2 := of_decide_eq_false x1
                omega
            · have := of_decide_eq_true ((if01 _).mp y)
              unfold lx_a
              exact decide_eq_true (Or.inl this)
            · have hla2 : lx_a (c.1 a) = true := by
                have := of_decide_eq_true ((if01 _).mp y)
                unfold lx_a
                exact decide_eq_true (Or.inl this)
              rintro v99 e99 -
              rw [dg] at e99
              exact step m1 a b a0 a1 ⟨hin, hla2⟩ hbv hbr m1e v99 e99
          · simp only [if_neg hin]
            refine ⟨pb, fun x => absurd x (by decide), fun x => ⟨pb, fun y => ⟨by omega, hbv⟩, fun y => absurd y (by decide)⟩⟩
        · rintro a b - hbr ⟨ae, hbv⟩
          subst ae
          refine ⟨⟨by omega, by omega⟩, ?_⟩
          rintro v78 e78 - v83 e83 -
          refine s_token hk (by omega) ?_ hp.symm ⟨by omega, by omega⟩ (fun x => ?_) hbr (fun s' h' _ _ => ⟨by omega, ?_⟩)
          · rw [e83, e78, r1]
            by_cases x : 9 ≤ a - p
            · rw [if_pos x, if_pos rfl, if_pos (by omega)]
            · rw [if_neg x, if_neg (by decide), if_neg (by omega)]
          · have x2 : a - p ≤ 8 := by
              rw [r1] at x
              by_cases y : a - p > 8
              · rw [if_pos y] at x; exact absurd rfl x
              · omega
            rw [r2, hbv x2]
          · by_cases x : 9 ≤ a - p
            · rw [e78, if_pos x]
              exact cI_b hs h' ⟨by omega, by omega⟩ (by rw [r1, if_pos (by omega)])
            · rw [e78, if_neg x]
              have hnx : lx_next c.1 c.2.1 p = a := by
                unfold lx_next
                rw [if_neg (show ¬ c.2.1 ≤ p by omega), if_neg hd', if_pos hl, hE]
              rw [← hnx]
              exact cI_s hc hs h' hp (by rw [r1, if_neg (by omega)]; decide)
      · -- a NUMBER
        rw [if01] at hd
        obtain ⟨r1, r2⟩ := rS_d hc hp q hd
        obtain ⟨s1, s2, s3⟩ := lx_end_spec c.1 c.2.1 lx_d p
        have s4 := lx_end_le (B := c.1) (p := lx_d) (q := p) (N := c.2.1) (by omega)
        have s5 : p + 1 ≤ lx_end c.1 c.2.1 lx_d p := by rw [← lx_end_1 q hd]; exact (lx_end_spec c.1 c.2.1 lx_d (p + 1)).1
        generalize hE : lx_end c.1 c.2.1 lx_d p = e at r1 r2 s1 s2 s3 s4 s5
        refine ⟨fun m1 a b => m1 = (e - a).toNat ∧ p ≤ a ∧ a ≤ e ∧ (a - p ≤ 10 → b = lx_dec c.1 p (a - p).toNat) ∧ sg_RL b, fun a b => a = e ∧ (a - p ≤ 10 → b = lx_dec c.1 p (a - p).toNat), ⟨_, rfl, Int.le_refl _, by omega, fun _ => by rw [show (p - p).toNat = 0 by omega]; rfl, by decide⟩, ?_, ?_⟩
        · rintro m1 a b - hbr ⟨m1e, a0, a1, hbv, -⟩
          have pb := pb_l hb (p := a) (by omega)
          have vb := vb_l hb (p := a) (by omega)
          rw [vb, vd_l]
          by_cases hin : a < c.2.1
          · simp only [if_pos hin]
            have hba := hc.2.2 a
            refine ⟨pb, fun y => ⟨?_, hbv⟩, fun y => ?_⟩
            · by_cases z : a = e
              · exact z
              · have z2 := (s2 a a0 (by omega)).2
                rw [(if01n _).mp y] at z2
                cases z2
            · have y := (if01 _).mp y
              have y2 := of_decide_eq_true y
              have hae : a < e := by
                by_cases x : a = e
                · subst x
                  rcases s3 with s3 | s3
                  · omega
                  · rw [y] at s3; cases s3
                · omega
              have rng : a - p < 10 → 0 ≤ b ∧ b ≤ 10000000000 := fun x => by
                have y := lx_dec_b (B := c.1) (q := p) (a - p).toNat (fun u u0 u1 => (s2 u u0 (by omega)).2)
                have z := lx_p10 (n := (a - p).toNat) (by omega)
                rw [hbv (by omega)]
                omega
              refine ⟨⟨by omega, by omega⟩, ⟨fun _ => trivial, fun x => ⟨⟨by have := rng x; omega, by have := rng x; omega⟩, pb, ⟨by have := rng x; omega, by have := rng x; omega⟩, ⟨by have := rng x; omega, by have := rng x; omega⟩, trivial⟩⟩, ?_⟩
              rintro v184 e184 hr184
              refine ⟨⟨by omega, by omega⟩, (e - (a + 1)).toNat, by omega, rfl, by omega, by omega, fun x => ?_, hr184⟩
              rw [e184, if_neg (by omega), hbv (by omega), show ((a + 1) - p).toNat = (a - p).toNat + 1 by omega]
              simp only [lx_dec]
              rw [show p + ((a - p).toNat : Int) = a by omega]
          · simp only [if_neg hin]
            exact ⟨pb, fun y => ⟨by omega, hbv⟩, fun y => absurd y (by decide)⟩
        · rintro a b - hbr ⟨ae, hbv⟩
          subst ae
          refine ⟨⟨by omega, by omega⟩, ?_⟩
          rintro v164 e164 - v169 e169 -
          refine s_token hk (by omega) ?_ hp.symm ⟨by omega, by omega⟩ (fun x => ?_) hbr (fun s' h' _ _ => ⟨by omega, ?_⟩)
          · rw [e169, e164, r1]
            by_cases x : 10 ≤ a - p
            · rw [if_pos x, if_pos rfl, if_pos (by omega)]
            · rw [if_neg x, if_neg (by decide), if_neg (by omega)]
          · have x2 : a - p ≤ 9 := by
              rw [r1] at x
              by_cases y : a - p > 9
              · rw [if_pos y] at x; exact absurd rfl x
              · omega
            rw [r2, hbv (by omega)]
          · by_cases x : 10 ≤ a - p
            · rw [e164, if_pos x]
              exact cI_b hs h' ⟨by omega, by omega⟩ (by rw [r1, if_pos (by omega)])
            · rw [e164, if_neg x]
              have hnx : lx_next c.1 c.2.1 p = a := by
                unfold lx_next
                rw [if_neg (show ¬ c.2.1 ≤ p by omega), if_pos hd, hE]
              rw [← hnx]
              exact cI_s hc hs h' hp (by rw [r1, if_neg (by omega)]; decide)
    · rintro p' v' s' - - - ⟨hlt, hI'⟩
      exact ⟨(c.2.1 - p').toNat, by have := hI'.2.1; omega, rfl, hI'⟩
  · rintro v s - - ⟨p, ⟨p0, p1, kk, hk, hv⟩, hpn⟩
    have fin : ∀ (N : Nat) (s' : sg_S), tkP c s' (N + 1) → (N : Int) ≤ 1200 → (∀ i, i < N → 1 ≤ rS c i ∧ rS c i ≤ 3) → (rS c N = 0 ∨ rS c N = 4) → Q s' := by
      intro N s' h1 h2 h3 h4
      refine k (rS c, fun i => if i = N then sg_gl s' 92 N else rW c i, tPl c) N s' ⟨by omega, fun i hi => ?_, h3, h4, fun i hi => ?_⟩ ⟨fun i hi => ⟨rfl, rfl⟩, fun i hi => ?_⟩
      · obtain ⟨a, b, d⟩ := h1.2 i (by omega)
        refine ⟨a, b, ?_⟩
        simp only
        by_cases e : i = N
        · subst e; rw [if_pos rfl]
        · rw [if_neg e]
          exact d (by have := h3 i (by omega); omega)
      · have := tPl_r hc i
        simp only
        omega
      · simp only [if_neg (show ¬ i = N by omega)]
    refine ⟨fun e => ?_, fun e => ?_⟩
    · rcases hv with hv | ⟨-, h1, h2, h3⟩
      · omega
      · have h4 := cI_k hc (k := kk - 1) ⟨p0, p1⟩ (fun i hi => h2 i (by omega))
        exact fin (kk - 1) s (by rw [show kk - 1 + 1 = kk by omega]; exact hk) h4 (fun i hi => h2 i (by omega)) (Or.inr h3)
    · rcases hv with ⟨v1, h1, h2⟩ | hv
      · have h4 := cI_k hc ⟨p0, p1⟩ h1
        have hpe : tPl c kk = c.2.1 := by
          rw [← h2, lx_end_0 (Or.inl (hpn v1))]
          have := hpn v1
          omega
        have hk0 : rS c kk = 0 := by
          unfold rS tK lx_kind
          rw [hpe, if_pos (Int.le_refl _)]
          rfl
        have hw0 : rW c kk = 0 := by
          unfold rW
          rw [hpe, if_pos (Int.le_refl _)]
        refine s_token hk (by omega) hk0.symm hpe.symm ⟨by omega, by omega⟩ (fun _ => hw0.symm) (by decide) (fun s' h' _ _ => fin kk s' h' h4 h1 (Or.inl hk0))
      · exact absurd hv.1 e
end CUT
