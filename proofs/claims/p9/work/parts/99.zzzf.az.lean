/-! lanes of what is worked out, and what is bound outside stays: all nodes. -/
section AZS
variable {A : aT} {D : List aDf} {T B : Int → Int} {lev : Int → Nat}
theorem fOl_l (k ty x : Int) (vs : List (List vaF)) (n : Nat) : ((fOl k ty x vs n).map fOv).length = n := by unfold fOl; rw [List.length_map, List.length_map, List.length_range]
/-- DEFS below j keep lanes -/
def cOk (A : aT) (D : List aDf) (T B : Int → Int) (lev : Int → Nat) (j : Nat) (call : Int → Nat → fEv → fSt → fRs) : Prop := ∀ (d : Nat) (y : aDf) (L' : List Int), D[d]? = some y → d < j → stN A D T B lev d 201 L' (scZ (kPe y) (kPb d 0 y.2.2.1 [])) y.2.2.2 → ∀ (m : Nat) ρ s v s' ρ', (∀ p ∈ scZ (kPe y) (kPb d 0 y.2.2.1 []), (ρ p.1).length = m) → call (d : Int) m ρ s = .inr (v, s', ρ') → v.length = m ∧ ∀ b, ¬ ow lev d L' b → ρ' b = ρ b
theorem fx_ok {σ : sg_S} {r : Int} {O : Int → Nat → List Int} {call : Int → Nat → fEv → fSt → fRs} {j : Nat} (hX : pgX σ A D T B) (hlv : lvP A D lev 0 r) (hO : okO A B O) (hc : cOk A D T B lev j call) : ∀ (f : Nat) (n : Int) (L : List Int) (sc : List (Int × Int)), stN A D T B lev j f L sc n → ∀ (m : Nat) ρ s v s' ρ', (∀ p ∈ sc, (ρ p.1).length = m) → fxN A D T B O call f n m ρ s = .inr (v, s', ρ') → v.length = m ∧ ∀ b, ¬ ow lev j L b → ρ' b = ρ b
  | 0, n, L, sc, h, m, ρ, s, v, s', ρ', hl, e => h.1.elim
  | f + 1, n, L, sc, h, m, ρ, s, v, s', ρ', hl, e => by
    have hA := hX.2.2.2.2.1
    have hD := hX.2.1
    have ih := fx_ok hX hlv hO hc f
    obtain ⟨w1, w2, w3, w4, w5, w6⟩ := stN_w h
    have sw : ∀ p ∈ sc, ¬ ow lev j L p.1 := fun p hp => (h.2.2.2.2 p hp).2
    have nL : n ∈ L := fT_sub h.2.1 _ (by simp)
    have sq : ∀ (R : List Int), (∀ x ∈ R, ∃ L', stN A D T B lev j f L' sc x ∧ ∀ y ∈ L', y ∈ L) → ∀ s1 vs s2 ρ2, fSq (fun x => fxN A D T B O call f x m) R ρ s1 = .inr (vs, s2, ρ2) → vs.length = R.length ∧ (∀ l ∈ vs, l.length = m) ∧ ∀ b, ¬ ow lev j L b → ρ2 b = ρ b := fun R hR s1 vs s2 ρ2 es => fx_sq (fun x L' hx ρ s v s' ρ' => ih x L' sc hx m ρ s v s' ρ') R hR sw ρ s1 vs s2 ρ2 hl es
    simp only [fxN] at e
    cases eb : fBg m s with
    | none => rw [eb] at e; cases e
    | some s1 =>
      rw [eb] at e
      simp only at e
      by_cases k1 : A.2.1 n = 1
      · rw [if_pos k1] at e
        simp only [Sum.inr.injEq, Prod.mk.injEq] at e
        obtain ⟨rfl, -, rfl⟩ := e
        exact ⟨hl _ (w4 k1), fun b _ => rfl⟩
      rw [if_neg k1] at e
      by_cases k2 : A.2.1 n = 2
      · rw [if_pos k2] at e
        obtain ⟨a, c, ea⟩ := kid2 (w1.2.2.1 (Or.inl k2))
        rw [ea] at e
        simp only [List.getD_cons_zero, List.getD_cons_succ] at e
        obtain ⟨⟨La, ha, sa⟩, Lc, hc', sc'⟩ := stN_l hA h k2 ea
        cases e1 : fxN A D T B O call f a m ρ s1 with
        | inl w => rw [e1] at e; cases e
        | inr p =>
          obtain ⟨v1, s2, ρ2⟩ := p
          rw [e1] at e
          simp only at e
          obtain ⟨l1, kp⟩ := ih a La sc ha m ρ s1 v1 s2 ρ2 hl e1
          have kp' : ∀ b, ¬ ow lev j L b → ρ2 b = ρ b := fun b hb => kp b (fun w => hb (ow_s sa w))
          have nb : ∀ b, ¬ ow lev j L b → ¬ b = n := fun b hb q => hb (Or.inl (Or.inl ⟨by omega, by rw [q]; exact nL⟩))
          obtain ⟨l2, kq⟩ := ih c Lc _ hc' m _ s2 v s' ρ' (fun p hp => by
            rcases List.mem_cons.mp hp with q | q
            · rw [q]; simp only [if_true]; exact l1
            · rw [if_neg (nb _ (sw p q)), kp' _ (sw p q)]; exact hl p q) e
          exact ⟨l2, fun b hb => by rw [kq b (fun w => hb (ow_s sc' w)), if_neg (nb b hb)]; exact kp' b hb⟩
      rw [if_neg k2] at e
      by_cases k3 : A.2.1 n = 3
      · rw [if_pos k3] at e
        have l3 := w1.2.2.2.1 k3
        obtain ⟨a, c, d, ea⟩ : ∃ a c d, A.2.2.2.2.1 n = [a, c, d] := by
          match e : A.2.2.2.2.1 n, l3 with
          | [a, c, d], _ => exact ⟨a, c, d, rfl⟩
        rw [ea] at e
        simp only [List.getD_cons_zero, List.getD_cons_succ] at e
        exact fx_if hA hO ih k3 ea h hl e
      rw [if_neg k3] at e
      by_cases k13 : A.2.1 n = 13
      · rw [if_pos k13] at e
        cases es : fSq (fun x => fxN A D T B O call f x m) (A.2.2.2.2.1 n) ρ s1 with
        | inl w => rw [es] at e; cases e
        | inr p =>
          obtain ⟨vs, s2, ρ2⟩ := p
          rw [es] at e
          simp only at e
          obtain ⟨q1, q2, q3⟩ := sq _ (fun x hx => stN_k h (by omega) (by omega) hx) s1 vs s2 ρ2 es
          have hD6 : ∀ (d : Nat) (y : aDf), D[d]? = some y → y.2.2.1.length ≤ 6 := fun d y hy => (hD.2.2 d y hy).2.2.2.2.1
          obtain ⟨d, y, L', ed, hy, dj, hst, how, hty, hTy, hsc⟩ := stN_call hX hlv h k13 hD.2.1 hD6
          have k6 := hD6 d y hy
          have klen : (A.2.2.2.2.1 n).length = y.2.2.1.length := by
            have := congrArg List.length hty
            simpa using this
          rw [ed] at e
          obtain ⟨l2, kq⟩ := hc d y L' hy dj hst m _ s2 v s' ρ' (fun p hp => by
            obtain ⟨i, u, hu, ep⟩ := hsc p hp
            have hi := lt_of_get hu
            obtain ⟨w, hw⟩ : ∃ w, vs[i]? = some w := ⟨_, List.getElem?_eq_getElem (by omega)⟩
            rw [ep]
            simp only
            rw [show (1100 : Int) + 6 * (d : Int) + (i : Int) = 1100 + 6 * (d : Int) + ((0 : Nat) : Int) + (i : Int) by omega, fUs_at hw]
            exact q2 w (List.mem_of_getElem? hw)) e
          refine ⟨l2, fun b hb => ?_⟩
          rw [kq b (fun w => hb (how b w)), fUs_no]
          · exact q3 b hb
          · by_cases q : b < 1100 + 6 * (d : Int) + ((0 : Nat) : Int)
            · exact Or.inl q
            · right
              refine Decidable.byContradiction (fun q2 => hb (Or.inr (Or.inr (Or.inr ⟨by omega, by omega⟩))))
      rw [if_neg k13] at e
      by_cases k15 : A.2.1 n = 15
      · rw [if_pos k15] at e
        cases es : fSq (fun x => fxN A D T B O call f x m) (kGs A n) ρ s1 with
        | inl w => rw [es] at e; cases e
        | inr p =>
          obtain ⟨vs, s2, ρ2⟩ := p
          rw [es] at e
          simp only at e
          have g := (w1.2.2.2.2.2.2.1 k15).1
          obtain ⟨bd, tl, ea⟩ : ∃ bd tl, A.2.2.2.2.1 n = bd :: tl := by
            cases e : A.2.2.2.2.1 n with
            | nil => rw [e] at g; simp at g; omega
            | cons bd tl => exact ⟨bd, tl, rfl⟩
          have eg : kGs A n = tl.take (A.2.2.2.2.2 n).length := by unfold kGs; rw [ea]; rfl
          have ed : (A.2.2.2.2.1 n).drop (1 + (A.2.2.2.2.2 n).length) = tl.drop (A.2.2.2.2.2 n).length := by rw [ea, Nat.add_comm]; rfl
          obtain ⟨q1, q2, q3⟩ := sq _ (fun x hx => ((stN_e hA h k15 ea).1 x (by rw [← eg]; exact hx)).1) s1 vs s2 ρ2 es
          rw [ed, ea] at e
          simp only [List.getD_cons_zero] at e
          obtain ⟨l2, kq⟩ := fx_each hA hO ih k15 ea h ⟨by rw [q1, eg]; exact (ea_ts w1 k15 ea).2.1, q2⟩ e
          exact ⟨l2, fun b hb => (kq b hb).trans (q3 b hb)⟩
      rw [if_neg k15] at e
      cases es : fSq (fun x => fxN A D T B O call f x m) (A.2.2.2.2.1 n) ρ s1 with
      | inl w => rw [es] at e; cases e
      | inr p =>
        obtain ⟨vs, s2, ρ2⟩ := p
        rw [es] at e
        simp only at e
        obtain ⟨q1, q2, q3⟩ := sq _ (fun x hx => stN_k h k2 k15 hx) s1 vs s2 ρ2 es
        unfold fWk at e
        cases ef : fStp (exF (T n).toNat ((fOl (A.2.1 n) (T n) (sg_n (A.2.2.2.1 n)) vs m).map fOv)) s2 with
        | none => rw [ef] at e; cases e
        | some s3 =>
          rw [ef] at e
          simp only at e
          by_cases c0 : fOe (fOl (A.2.1 n) (T n) (sg_n (A.2.2.2.1 n)) vs m) = 0
          · rw [if_pos c0] at e
            simp only [Sum.inr.injEq, Prod.mk.injEq] at e
            obtain ⟨rfl, -, rfl⟩ := e
            exact ⟨fOl_l _ _ _ _ _, q3⟩
          · rw [if_neg c0] at e; cases e
/-- DEFS -/
theorem fxC_ok {σ : sg_S} {r : Int} {O : Int → Nat → List Int} (hX : pgX σ A D T B) (hlv : lvP A D lev 0 r) (hO : okO A B O) : ∀ j : Nat, cOk A D T B lev j (fxC A D T B O j) := by
  have key : ∀ (k : Nat) (j : Nat), j ≤ k → cOk A D T B lev j (fxC A D T B O j) := by
    intro k
    induction k with
    | zero =>
      intro j hj d y L' hy dj
      omega
    | succ k ih =>
      intro j hj d y L' hy dj hst m ρ s v s' ρ' hl e
      rw [fxC_e A D T B O j d dj] at e
      have ey : (D.getD d (0, 0, [], 0)).2.2.2 = y.2.2.2 := by rw [List.getD_eq_getElem?_getD, hy]; rfl
      rw [ey] at e
      exact fx_ok hX hlv hO (ih d (by omega)) 201 y.2.2.2 L' _ hst m ρ s v s' ρ' hl e
  exact fun j => key j j (Nat.le_refl _)
end AZS
