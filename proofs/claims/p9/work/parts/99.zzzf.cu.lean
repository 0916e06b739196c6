/-! BIG STEPS of the class's flat run, exactly: a node, parts one after another, operations. -/
/-- slots of a scope -/
def slQ (σ : sg_S) (sc : List (Int × Int)) (b : Int) : Prop := ∀ q ∈ sc, slF σ q.1 < b ∧ sg_g σ 34 (slF σ q.1) = q.2 ∧ kIn q.2
theorem slQ_m {σ : sg_S} {sc : List (Int × Int)} {b b2 : Int} (h : slQ σ sc b) (hb : b ≤ b2) : slQ σ sc b2 := fun q hq => ⟨by have := (h q hq).1; omega, (h q hq).2⟩
section CUD
variable (σ : sg_S) (A : aT) (D : List aDf) (vb : Int → Prop) (X : sg_S → Prop)
/-- what parts are followed by -/
def kYr (lev : Int → Nat) (j : Nat) (σ8 : sg_S) (ρ : fEv) (t sv c p cr nl dix : Int) (L R : List Int) (N : Nat) : fRl → Prop
  | .inl e => ∀ σ', sg_F bRL σ σ' → sg_g σ' 61 10 = e.1 → ctX σ' e.2 → ¬ e.1 = 0 → X σ'
  | .inr r => ∀ (σ' : sg_S) (m' : Nat), r.1.length = R.length → 6 * (2001 - r.2.1.1) + cr ≤ (m' : Int) → bP σ σ' (t + R.length) sv N c p → ctX σ' r.2.1 → yU σ A D vb lev j σ8 σ' ρ r.2.2 t sv nl dix L → (∀ (i : Nat) (x : Int), R[i]? = some x → yX σ' (sg_g σ 6 x).toNat (sg_g σ' 64 (t + i)) (r.1.getD i []) ∧ (r.1.getD i []).length = N) → Ry σ X m' σ'
/-- the big step of a node -/
def yN (B : Int → Int) (lev : Int → Nat) (O : Int → Nat → List Int) (call : Int → Nat → fEv → fSt → fRs) (j : Nat) (nl dix : Int) (f : Nat) : Prop := ∀ (n : Int) (L es : List Int) (sc : List (Int × Int)) (b b' p : Int) (h : Nat), stN A D (sg_g σ 6) B lev j f L sc n → (∀ x ∈ L, nl ≤ x ∧ lyQ σ A D B dix x) → gRq σ A L → scN σ A dix f es n b b' → slQ σ sc b → htN A f n ≤ h → pl σ p (cd A f n) → b' ≤ 272 → ∀ (σ8 : sg_S) (m : Nat) (ρ : fEv) (t sv c cr : Int) (N : Nat) (s : fSt), bP σ σ8 t sv N c p → ctX σ8 s → scY σ A D vb σ8 ρ N sc → t + L.length + nl ≤ 400 → sv + ((h * L.length : Nat) : Int) + 12 * nl ≤ 2400 → 6 * (2001 - s.1) + cr ≤ (m : Int) → 0 ≤ cr → kY σ A D vb lev j X σ8 ρ t sv c (p + (cd A f n).length) cr nl dix L N (sg_g σ 6 n).toNat (fxN A D (sg_g σ 6) B O call f n N ρ s) → Ry σ X m σ8
end CUD
section CUS
variable {σ : sg_S} {A : aT} {D : List aDf} {vb : Int → Prop} {X : sg_S → Prop} {B : Int → Int} {lev : Int → Nat} {O : Int → Nat → List Int} {call : Int → Nat → fEv → fSt → fRs} {j : Nat} {nl dix : Int} {f : Nat}
theorem yRow (hnl : 0 ≤ nl) (hP : fPu A D (sg_g σ 6) B lev O call j f) (F : yN σ A D vb X B lev O call j nl dix f) {n0 : Int} {es : List Int} {sc : List (Int × Int)} {h N : Nat} : ∀ (R L : List Int) (st : Nat) (b b' p : Int), fT A R L → L.Nodup → (∀ y ∈ L, (0 ≤ y ∧ y < A.1) ∧ lev y = j) → (∀ q ∈ sc, rb A q.1 ∧ ¬ ow lev j L q.1) → (∀ x ∈ L, nl ≤ x ∧ lyQ σ A D B dix x) → gRq σ A L → (∀ x ∈ R, tyN A (kDl (D.take j) []) (sg_g σ 6) B f sc x) → scS σ A (scN σ A dix f) n0 st es b R b' → (∀ i, st ≤ i → i < st + R.length → kQ A n0 i) → slQ σ sc b → (∀ x ∈ R, htN A f x ≤ h) → pl σ p (cdS A (cd A f) n0 st R) → b' ≤ 272 → ∀ (σ8 : sg_S) (m : Nat) (ρ : fEv) (t sv c cr : Int) (s : fSt), bP σ σ8 t sv N c p → ctX σ8 s → scY σ A D vb σ8 ρ N sc → t + L.length + nl ≤ 400 → sv + ((h * L.length : Nat) : Int) + 12 * nl ≤ 2400 → 6 * (2001 - s.1) + cr ≤ (m : Int) → 0 ≤ cr → kYr σ A D vb X lev j σ8 ρ t sv c (p + (cdS A (cd A f) n0 st R).length) cr nl dix L R N (fSq (fun x => fxN A D (sg_g σ 6) B O call f x N) R ρ s) → Ry σ X m σ8
  | [], L, st, b, b', p, hf, hN, hlv, hsc, hL, hg, hty, hss, hq, hsl, hh, hp, hb, σ8, m, ρ, t, sv, c, cr, s, h8, h9, hS, ht, hv, hm, hcr, k => by
    simp only [fSq, kYr, cdS, List.length_nil, Int.ofNat_zero, Int.cast_ofNat_Int, Int.add_zero] at k
    exact k σ8 m trivial hm h8 h9 yU_r (fun i x hx => by simp at hx)
  | x :: R, L, st, b, b', p, hf, hN, hlv, hsc, hL, hg, hty, hss, hq, hsl, hh, hp, hb, σ8, m, ρ, t, sv, c, cr, s, h8, h9, hS, ht, hv, hm, hcr, k => by
    obtain ⟨L1, L2, e1, w1, w2, w3⟩ := fT_inv hf
    subst e1
    obtain ⟨q1, q2⟩ := hq st (Nat.le_refl _) (by simp)
    simp only [scS] at hss
    obtain ⟨-, b2, s2, s3⟩ := hss
    obtain ⟨e1, e2⟩ := esA_no q2 es b
    rw [e1, e2] at s2
    rw [e1] at s3
    simp only [cdS] at hp k
    rw [q1, List.nil_append] at hp k
    obtain ⟨p1, p2⟩ := pl_a hp
    have l1 := scN_le _ _ _ _ _ s2
    have l2 := scS_le (fun es x b b' => scN_le f es x b b') _ _ _ _ _ s3
    have i1 : ∀ y, y ∈ x :: L1 → y ∈ x :: (L1 ++ L2) := fun y hy => by rw [← List.cons_append]; exact List.mem_append_left _ hy
    have i2 : ∀ y, y ∈ L2 → y ∈ x :: (L1 ++ L2) := fun y hy => by rw [← List.cons_append]; exact List.mem_append_right _ hy
    have hN1 : (x :: L1).Nodup := List.Nodup.sublist (by rw [← List.cons_append]; exact List.sublist_append_left _ _) hN
    have hN2 : L2.Nodup := List.Nodup.sublist (by rw [← List.cons_append]; exact List.sublist_append_right _ _) hN
    have hl : (x :: (L1 ++ L2)).length = (x :: L1).length + L2.length := by rw [← List.cons_append, List.length_append]
    have hl1 : 1 ≤ (x :: L1).length := by simp
    have hx : stN A D (sg_g σ 6) B lev j f (x :: L1) sc x := ⟨hty x (by simp), fT_one w1 w2, hN1, fun y hy => hlv y (i1 y hy), fun q hq' => ⟨(hsc q hq').1, fun w => (hsc q hq').2 (ow_s i1 w)⟩⟩
    have pu := hP x (x :: L1) sc hx N ρ s
    refine F x (x :: L1) es sc b b2 p h hx (fun y hy => hL y (i1 y hy)) (gR_s hg i1) s2 hsl (hh x (by simp)) p1 (by omega) σ8 m ρ t sv c cr N s h8 h9 hS (by omega) ?_ hm hcr ?_
    · have := Nat.mul_le_mul_left h (show (x :: L1).length ≤ (x :: (L1 ++ L2)).length by omega)
      omega
    simp only [fSq] at k
    generalize er : fxN A D (sg_g σ 6) B O call f x N ρ s = r at k pu
    match r, k, pu with
    | .inl e, k, _ => exact k
    | .inr (v, s1, ρ1), k, pu =>
      obtain ⟨lv, kv⟩ := pu v s1 ρ1 (fun q hq' => (hS q hq').2.2.2) rfl
      intro σ1 m1 hm1 h1 c1 u1 v1
      have S1 := scY_u hS u1 (fun q hq' => kv q.1 (fun w => (hsc q hq').2 (ow_s i1 w))) (fun q hq' w => (hsc q hq').2 (ow_s i1 w))
      refine yRow hnl hP F R L2 (st + 1) b2 b' (p + (cd A f x).length) w3 hN2 (fun y hy => hlv y (i2 y hy)) (fun q hq' => ⟨(hsc q hq').1, fun w => (hsc q hq').2 (ow_s i2 w)⟩) (fun y hy => hL y (i2 y hy)) (gR_s hg i2) (fun y hy => hty y (by simp [hy])) s3 (fun i a b => hq i (by omega) (by simp only [List.length_cons]; omega)) (slQ_m hsl l1) (fun y hy => hh y (by simp [hy])) p2 hb σ1 m1 ρ1 (t + 1) sv c cr s1 h1 c1 S1 (by omega) ?_ hm1 hcr ?_
      · have := Nat.mul_le_mul_left h (show L2.length ≤ (x :: (L1 ++ L2)).length by omega)
        omega
      simp only at k
      generalize fSq (fun x => fxN A D (sg_g σ 6) B O call f x N) R ρ1 s1 = r2 at k
      match r2, k with
      | .inl e, k => exact k
      | .inr (vs, s2', ρ2), k =>
        intro σ2 m2 le2 hm2 h2 c2 u2 v2
        refine k σ2 m2 (by simp only [List.length_cons] at le2 ⊢; omega) hm2 ?_ c2 (yU_t u1 u2 ⟨Int.le_refl _, by omega⟩ ⟨Int.le_refl _, Int.le_refl _⟩ i1 i2) (fun i y hy => ?_)
        · simp only [List.length_cons, List.length_append]
          rw [show t + ((R.length + 1 : Nat) : Int) = t + 1 + R.length by omega, show p + (((cd A f x).length + (cdS A (cd A f) n0 (st + 1) R).length : Nat) : Int) = p + (cd A f x).length + (cdS A (cd A f) n0 (st + 1) R).length by omega]
          exact h2
        · cases i with
          | zero =>
            simp only [List.getElem?_cons_zero, Option.some.injEq] at hy
            subst hy
            simp only [Int.ofNat_zero, Int.cast_ofNat_Int, Int.add_zero]
            rw [u2.2.1 t (by omega)]
            exact ⟨yX_up u2.1 v1, lv⟩
          | succ i =>
            simp only [List.getElem?_cons_succ] at hy
            have := v2 i y hy
            rw [show t + 1 + (i : Int) = t + ((i + 1 : Nat) : Int) by omega] at this
            exact this
/-- an operation at the end of a node -/
theorem kY_m {σ8 σ2 : sg_S} {ρ ρ2 : fEv} {t sv c c' p p' cr : Int} {L : List Int} {N d : Nat} {r : fRs} (hk : kY σ A D vb lev j X σ8 ρ t sv c p cr nl dix L N d r) (hu : yU σ A D vb lev j σ8 σ2 ρ ρ2 t sv nl dix L) (hc : 0 ≤ c ∧ c ≤ c') (hp : p' = p) : kY σ A D vb lev j X σ2 ρ2 t sv c' p' cr nl dix [] N d r := by
  subst hp
  cases r with
  | inl e => exact hk
  | inr r => exact fun σ' m' hm h1 h2 h3 h4 => hk σ' m' hm (bP_m h1 hc) h2 (yU_t hu h3 ⟨Int.le_refl _, Int.le_refl _⟩ ⟨Int.le_refl _, Int.le_refl _⟩ (fun _ hx => hx) (by simp)) h4
end CUS
