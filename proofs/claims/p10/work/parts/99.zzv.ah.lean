/-! THE NESTED RUN in big steps: parts one after another, operations. -/
section ENE
variable {A : aT} {T B : Int → Int} {call : Int → eV → Int → eR} {f : Nat} {n w : Int} {ρ : eV}
theorem eN_1 (h : A.2.1 n = 1) : evN A T B call (f + 1) n ρ w = if w + 1 ≤ 3000 then .inr (ρ (B n), w + 1, 1, ρ) else .inl (7, w) := by
  simp only [evN]; rw [if_pos h]
theorem eN_2 (h : A.2.1 n = 2) : evN A T B call (f + 1) n ρ w = if w + 1 ≤ 3000 then (match evN A T B call f ((A.2.2.2.2.1 n).getD 0 0) ρ (w + 1) with
        | .inl e => .inl e
        | .inr (v, w1, s1, ρ1) => match evN A T B call f ((A.2.2.2.2.1 n).getD 1 0) (eUp ρ1 n v) w1 with
          | .inl e => .inl e
          | .inr (v2, w2, s2, ρ2) => .inr (v2, w2, 1 + s1 + s2, ρ2)) else .inl (7, w) := by
  simp only [evN]; rw [if_neg (show ¬ A.2.1 n = 1 by omega), if_pos h]
  rfl
theorem eN_3 (h : A.2.1 n = 3) : evN A T B call (f + 1) n ρ w = if w + 1 ≤ 3000 then (match evN A T B call f ((A.2.2.2.2.1 n).getD 0 0) ρ (w + 1) with
        | .inl e => .inl e
        | .inr (v, w1, s1, ρ1) => match evN A T B call f ((A.2.2.2.2.1 n).getD (if v [] = 0 then 2 else 1) 0) ρ1 w1 with
          | .inl e => .inl e
          | .inr (v2, w2, s2, ρ2) => .inr (v2, w2, 1 + s1 + s2, ρ2)) else .inl (7, w) := by
  simp only [evN]; rw [if_neg (show ¬ A.2.1 n = 1 by omega), if_neg (show ¬ A.2.1 n = 2 by omega), if_pos h]
  rfl
theorem eN_13 (h : A.2.1 n = 13) : evN A T B call (f + 1) n ρ w = if w + 1 ≤ 3000 then (match eS (evN A T B call f) (A.2.2.2.2.1 n) ρ (w + 1) with
        | .inl e => .inl e
        | .inr (vs, w1, s1, ρ1) => match call (B n) (eUs ρ1 (1100 + 6 * B n) 0 vs) w1 with
          | .inl e => .inl e
          | .inr (v2, w2, s2, ρ2) => .inr (v2, w2, 1 + s1 + s2, ρ2)) else .inl (7, w) := by
  simp only [evN]; rw [if_neg (show ¬ A.2.1 n = 1 by omega), if_neg (show ¬ A.2.1 n = 2 by omega), if_neg (show ¬ A.2.1 n = 3 by omega), if_pos h]
  rfl
theorem eN_15 (h : A.2.1 n = 15) : evN A T B call (f + 1) n ρ w = if w + 1 ≤ 3000 then (match eS (evN A T B call f) (kGs A n) ρ (w + 1) with
        | .inl e => .inl e
        | .inr (vs, w1, s1, ρ1) =>
          if vs.any (fun v => decide ((itF v).length ≠ (itF (vs.getD 0 (nmF 0))).length)) = true then .inl (3, w1)
          else match eP (fun i ρ w => evT (evN A T B call f) ((A.2.2.2.2.1 n).drop (1 + (A.2.2.2.2.2 n).length)) ((A.2.2.2.2.1 n).getD 0 0) (eUs ρ (210 + 4 * n) 0 (vs.map (fun v => (itF v).getD i (nmF 0)))) w) (itF (vs.getD 0 (nmF 0))).length 0 ρ1 w1 0 [] with
            | .inl e => .inl e
            | .inr (acc, w2, bs, ρ2) => ePay (.inr (mkF acc, cnL (T n - 1).toNat acc)) w2 (1 + s1 + bs) ρ2) else .inl (7, w) := by
  simp only [evN]; rw [if_neg (show ¬ A.2.1 n = 1 by omega), if_neg (show ¬ A.2.1 n = 2 by omega), if_neg (show ¬ A.2.1 n = 3 by omega), if_neg (show ¬ A.2.1 n = 13 by omega), if_pos h]
  rfl
theorem eN_o (h1 : ¬ A.2.1 n = 1) (h2 : ¬ A.2.1 n = 2) (h3 : ¬ A.2.1 n = 3) (h13 : ¬ A.2.1 n = 13) (h15 : ¬ A.2.1 n = 15) : evN A T B call (f + 1) n ρ w = if w + 1 ≤ 3000 then (match eS (evN A T B call f) (A.2.2.2.2.1 n) ρ (w + 1) with
        | .inl e => .inl e
        | .inr (vs, w1, s1, ρ1) => ePay (eO (A.2.1 n) (T n) (sg_n (A.2.2.2.1 n)) vs) w1 (1 + s1) ρ1) else .inl (7, w) := by
  simp only [evN]; rw [if_neg h1, if_neg h2, if_neg h3, if_neg h13, if_neg h15]
  rfl
end ENE
/-- what is laid out for a node -/
def lyQ (σ : sg_S) (A : aT) (D : List aDf) (B : Int → Int) (dix x : Int) : Prop := (A.2.1 x = 0 → sg_g σ 5 x = sg_n (A.2.2.2.1 x)) ∧ (A.2.1 x = 1 → sg_g σ 16 x = slF σ (B x)) ∧ (A.2.1 x = 13 → sg_g σ 16 x = B x ∧ (0 ≤ B x ∧ B x < dix) ∧ ((A.2.2.2.2.1 x).length : Int) = sg_g σ 23 (B x) ∧ ∃ y, D[(B x).toNat]? = some y ∧ (A.2.2.2.2.1 x).map (sg_g σ 6) = y.2.2.1.map (·.2.2) ∧ sg_g σ 6 x = sg_g σ 6 y.2.2.2)
/-- where the orders jump to -/
def jpS (σ : sg_S) (A : aT) (f : Nat) (go : Int → Int → Prop) (n : Int) : Nat → Int → List Int → Prop
  | _, _, [] => True
  | s, p, x :: r => ((A.2.1 n = 3 → s = 2 → sg_g σ 32 n = p + 1) ∧ (A.2.1 n = 15 → s = (A.2.2.2.2.2 n).length → sg_g σ 32 n = p + 1)) ∧ go x (p + (ahd A n s).length) ∧ jpS σ A f go n (s + 1) (p + (ahd A n s).length + (cd A f x).length) r
def jpN (σ : sg_S) (A : aT) : Nat → Int → Int → Prop
  | 0, _, _ => True
  | f + 1, n, p => jpS σ A f (jpN σ A f) n 0 (p + 1) (kOrd A n) ∧ (A.2.1 n = 3 → sg_g σ 33 n = p + (cd A (f + 1) n).length) ∧ (A.2.1 n = 15 → sg_g σ 33 n + 1 = p + (cd A (f + 1) n).length)
section NBD
variable (σ : sg_S) (A : aT) (D : List aDf) (vb : Int → Prop) (X : sg_S → Prop)
/-- what a node is to be followed by -/
def kN (σ8 : sg_S) (ρ : eV) (t s c p cr nl dix : Int) (L : List Int) (d : Nat) : eR → Prop
  | .inl (e, w') => ∀ σ', sg_F nRL σ σ' → sg_g σ' 45 10 = e → ¬ e = 0 → sg_g σ' 45 22 = w' → X σ'
  | .inr (v, w', s', ρ') => ∀ σ' m', nP σ σ' (t + 1) w' (s + s') c p → nU σ A D vb σ8 σ' ρ ρ' t nl dix L → cvF σ' d v (sg_g σ' 48 t) → 8 * (3001 - w') + cr + 3 ≤ ((m' : Nat) : Int) → Rn σ X m' σ'
/-- what parts are to be followed by -/
def kRw (σ8 : sg_S) (ρ : eV) (t s c p cr nl dix : Int) (L R : List Int) : eRs → Prop
  | .inl (e, w') => ∀ σ', sg_F nRL σ σ' → sg_g σ' 45 10 = e → ¬ e = 0 → sg_g σ' 45 22 = w' → X σ'
  | .inr (vs, w', s', ρ') => ∀ σ' m', vs.length = R.length → nP σ σ' (t + R.length) w' (s + s') c p → nU σ A D vb σ8 σ' ρ ρ' t nl dix L → (∀ (i : Nat) (x : Int) (v : vaF), R[i]? = some x → vs[i]? = some v → cvF σ' (sg_g σ 6 x).toNat v (sg_g σ' 48 (t + i))) → 8 * (3001 - w') + cr ≤ ((m' : Nat) : Int) → Rn σ X m' σ'
/-- the big step of a node -/
def nN (B : Int → Int) (call : Int → eV → Int → eR) (ds : kD) (nl dix : Int) (f : Nat) : Prop := ∀ (n : Int) (L : List Int) (sc : List (Int × Int)) (p : Int), fT A [n] L → L.Nodup → (∀ x ∈ L, nl ≤ x ∧ lyQ σ A D B dix x) → tyN A ds (sg_g σ 6) B f sc n → pl σ p (cd A f n) → jpN σ A f n p → ∀ (σ8 : sg_S) (m : Nat) (ρ : eV) (t w s c cr : Int), nP σ σ8 t w s c p → scP σ A D vb σ8 ρ sc → 8 * (3001 - w) + cr ≤ (m : Int) → 0 ≤ cr → kN σ A D vb X σ8 ρ t s c (p + (cd A f n).length) cr nl dix L (sg_g σ 6 n).toNat (evN A (sg_g σ 6) B call f n ρ w) → Rn σ X m σ8
end NBD
section NBR
variable {σ : sg_S} {A : aT} {D : List aDf} {vb : Int → Prop} {X : sg_S → Prop} {B : Int → Int} {call : Int → eV → Int → eR} {ds : kD} {nl dix : Int} {f : Nat}
theorem jp_s {n0 : Int} {go : Int → Int → Prop} {s : Nat} {p x : Int} {R : List Int} (h : jpS σ A f go n0 s p (x :: R)) (hq : ahd A n0 s = []) : go x p ∧ jpS σ A f go n0 (s + 1) (p + (cd A f x).length) R := by
  simp only [jpS, hq, List.length_nil, Int.ofNat_zero, Int.cast_ofNat_Int, Int.add_zero] at h
  exact h.2
theorem nRow (F : nN σ A D vb X B call ds nl dix f) {n0 : Int} {sc : List (Int × Int)} : ∀ (R L : List Int) (s : Nat) (p : Int), fT A R L → L.Nodup → (∀ x ∈ L, nl ≤ x ∧ lyQ σ A D B dix x) → (∀ x ∈ R, tyN A ds (sg_g σ 6) B f sc x) → (∀ j, s ≤ j → j < s + R.length → ahd A n0 j = []) → pl σ p (cdS A (cd A f) n0 s R) → jpS σ A f (jpN σ A f) n0 s p R → ∀ (σ8 : sg_S) (m : Nat) (ρ : eV) (t w sp c cr : Int), nP σ σ8 t w sp c p → scP σ A D vb σ8 ρ sc → 8 * (3001 - w) + cr ≤ (m : Int) → 0 ≤ cr → kRw σ A D vb X σ8 ρ t sp c (p + (cdS A (cd A f) n0 s R).length) cr nl dix L R (eS (evN A (sg_g σ 6) B call f) R ρ w) → Rn σ X m σ8
  | [], L, s, p, hf, hN, hL, hty, hq, hp, hj, σ8, m, ρ, t, w, sp, c, cr, h8, hS, hm, hcr, k => by
    simp only [eS, kRw, cdS, List.length_nil, Int.ofNat_zero, Int.cast_ofNat_Int, Int.add_zero] at k
    exact k σ8 m trivial h8 nU_r (fun i x v hx => by simp at hx) hm
  | x :: R, L, s, p, hf, hN, hL, hty, hq, hp, hj, σ8, m, ρ, t, w, sp, c, cr, h8, hS, hm, hcr, k => by
    obtain ⟨L1, L2, e1, w1, w2, w3⟩ := fT_inv hf
    subst e1
    have q1 := hq s (Nat.le_refl _) (by simp)
    simp only [cdS] at hp k
    rw [q1, List.nil_append] at hp k
    obtain ⟨p1, p2⟩ := pl_a hp
    obtain ⟨j1, j2⟩ := jp_s hj q1
    have i1 : ∀ y, y ∈ x :: L1 → y ∈ x :: (L1 ++ L2) := fun y hy => by rw [← List.cons_append]; exact List.mem_append_left _ hy
    have i2 : ∀ y, y ∈ L2 → y ∈ x :: (L1 ++ L2) := fun y hy => by rw [← List.cons_append]; exact List.mem_append_right _ hy
    have hN1 : (x :: L1).Nodup := List.Nodup.sublist (by rw [← List.cons_append]; exact List.sublist_append_left _ _) hN
    have hN2 : L2.Nodup := List.Nodup.sublist (by rw [← List.cons_append]; exact List.sublist_append_right _ _) hN
    refine F x (x :: L1) sc p (fT_one w1 w2) hN1 (fun y hy => hL y (i1 y hy)) (hty x (by simp)) p1 j1 σ8 m ρ t w sp c cr h8 hS hm hcr ?_
    simp only [eS] at k
    generalize evN A (sg_g σ 6) B call f x ρ w = r at k
    match r, k with
    | .inl (e, w'), k => exact k
    | .inr (v, w1', s1, ρ1), k =>
      intro σ1 m1 h1 u1 v1 hm1
      have S1 := scP_u hS u1
      refine nRow F R L2 (s + 1) (p + (cd A f x).length) w3 hN2 (fun y hy => hL y (i2 y hy)) (fun y hy => hty y (by simp [hy])) (fun j a b => hq j (by omega) (by simp only [List.length_cons]; omega)) p2 j2 σ1 m1 ρ1 (t + 1) w1' (sp + s1) c cr h1 S1 (by omega) hcr ?_
      simp only at k
      generalize eS (evN A (sg_g σ 6) B call f) R ρ1 w1' = r2 at k
      match r2, k with
      | .inl (e, w'), k => exact k
      | .inr (vs, w2', s2, ρ2), k =>
        intro σ2 m2 l2 h2 u2 v2 hm2
        refine k σ2 m2 (by simp only [List.length_cons]; omega) ?_ (nU_t u1 u2 ⟨Int.le_refl _, by omega⟩ i1 i2) (fun i y v hy hv => ?_) hm2
        · simp only [List.length_cons, List.length_append]
          rw [show t + ((R.length + 1 : Nat) : Int) = t + 1 + R.length by omega, show p + (((cd A f x).length + (cdS A (cd A f) n0 (s + 1) R).length : Nat) : Int) = p + (cd A f x).length + (cdS A (cd A f) n0 (s + 1) R).length by omega, show sp + (s1 + s2) = sp + s1 + s2 by omega]
          exact h2
        · cases i with
          | zero =>
            simp only [List.getElem?_cons_zero, Option.some.injEq] at hy hv
            subst hy hv
            simp only [Int.ofNat_zero, Int.cast_ofNat_Int, Int.add_zero]
            rw [u2.2.1 t (by omega)]
            exact cvF_up u2.1 v1
          | succ i =>
            simp only [List.getElem?_cons_succ] at hy hv
            have := v2 i y v hy hv
            rw [show t + 1 + (i : Int) = t + ((i + 1 : Nat) : Int) by omega] at this
            exact this
/-- an operation at the end of a node -/
theorem oC_k {σ8 σ2 : sg_S} {ρ ρ2 : eV} {t w s0 s' S c p cr : Int} {L : List Int} {d : Nat} {m : Nat} {r : Int ⊕ (vaF × Int)} (hk : kN σ A D vb X σ8 ρ t s0 c p cr nl dix L d (ePay r w s' ρ2)) (hu : nU σ A D vb σ8 σ2 ρ ρ2 t nl dix L) (hS : S = s0 + s') (hm : 8 * (3001 - w) + cr + 4 ≤ (m : Int)) : oC σ A D vb X m σ2 ρ2 t w S c p nl dix d (pyF r w) := by
  match r, hk with
  | .inl e, hk => exact hk
  | .inr (v, q), hk =>
    unfold ePay at hk
    unfold pyF
    simp only at hk ⊢
    by_cases h : w + q ≤ 3000
    · rw [if_pos h] at hk ⊢
      intro σ' m' hw hP hU hV hm'
      subst hS
      exact hk σ' m' hP (nU_t hu hU ⟨Int.le_refl _, Int.le_refl _⟩ (fun _ hx => hx) (by simp)) hV (by omega)
    · rw [if_neg h] at hk ⊢
      exact hk
theorem nN_op (hW : ckW σ A) (hSl : slA σ vb) (F : nN σ A D vb X B call ds nl dix f) {n : Int} {L1 : List Int} {sc : List (Int × Int)} {p : Int} (hk : A.2.1 n = 0 ∨ A.2.1 n = 1 ∨ A.2.1 n = 14 ∨ (4 ≤ A.2.1 n ∧ A.2.1 n ≤ 12) ∨ 16 ≤ A.2.1 n) (hf : fT A (A.2.2.2.2.1 n) L1) (hN : L1.Nodup) (hL : ∀ x ∈ n :: L1, nl ≤ x ∧ lyQ σ A D B dix x) (hty : tyN A ds (sg_g σ 6) B (f + 1) sc n) (hp : pl σ p (cd A (f + 1) n)) (hj : jpN σ A (f + 1) n p) {σ8 : sg_S} {m : Nat} {ρ : eV} {t w s c cr : Int} (h8 : nP σ σ8 t w s c p) (hS : scP σ A D vb σ8 ρ sc) (hm : 8 * (3001 - w) + cr ≤ (m : Int)) (hcr : 0 ≤ cr) (k : kN σ A D vb X σ8 ρ t s c (p + (cd A (f + 1) n).length) cr nl dix (n :: L1) (sg_g σ 6 n).toNat (evN A (sg_g σ 6) B call (f + 1) n ρ w)) : Rn σ X m σ8 := by
  obtain ⟨t1, t2, t3, t4, t5, t6, t7, t8, t9⟩ := hty
  obtain ⟨c1, c2⟩ := ck3 hW t2
  have n2 : ¬ A.2.1 n = 2 := by omega
  have n3 : ¬ A.2.1 n = 3 := by omega
  have n15 : ¬ A.2.1 n = 15 := by omega
  have n13 : ¬ A.2.1 n = 13 := by omega
  have ho : kOrd A n = A.2.2.2.2.1 n := by unfold kOrd; rw [if_neg n15]
  have ly := (hL n (by simp)).2
  simp only [cd] at hp k
  rw [ho] at hp k
  have hj1 := hj.1
  rw [ho] at hj1
  have p0 := pl_c hp
  obtain ⟨p1, p2⟩ := pl_a p0.2.2.2
  obtain ⟨g1, g2⟩ := t3
  obtain ⟨a1, a2, a3, a8, a9, a10, a11, a12⟩ := id h8
  obtain ⟨w1, w2, w3, w4, w5, w6, w7, w8⟩ := id t1
  have hty0 : ¬ A.2.1 n = 1 → kTy A ds (sg_g σ 6) [] n ((A.2.2.2.2.1 n).map (sg_g σ 6)) = some (sg_g σ 6 n) := t5
  have kin : ∀ x ∈ A.2.2.2.2.1 n, kIn (sg_g σ 6 x) := fun x hx => by
    have := t9 n2 n15 x hx
    cases f with
    | zero => exact this.elim
    | succ f => exact this.2.2.1
  by_cases k1 : A.2.1 n = 1
  · -- NAME
    rw [eN_1 k1] at k
    have hl : A.2.2.2.2.1 n = [] := List.eq_nil_of_length_eq_zero (w2 (by omega))
    have hcn : cnc A n = [(1, n)] := by unfold cnc; rw [if_neg n2, if_neg n3, if_neg n13, if_neg n15, if_pos (Or.inr (Or.inl k1))]
    rw [hcn, hl] at p2
    rw [hcn, hl] at k
    simp only [cdS, List.length_nil, List.nil_append, List.length_cons, Int.ofNat_zero, Int.cast_ofNat_Int, Int.add_zero] at p2 k
    refine zn_begin h8 (by omega) hp (fun z σ' f' e' w' => ?_) (fun z σ1 m1 h1 f1 hm1 => ?_)
    · rw [if_neg z] at k; exact k σ' f' e' (by decide) w'
    rw [if_pos z] at k
    obtain ⟨q1, q2, q3⟩ := hS _ (t4 k1)
    have u1 : nU σ A D vb σ8 σ1 ρ ρ t nl dix (n :: L1) := nU_F f1 rfl
    have v1 := u1.2.2.1 _ q1 q3
    unfold rlC at v1
    rw [← q2] at v1
    refine zn_name (sl := slF σ (B n)) (d := (sg_g σ 6 n).toNat) (v := ρ (B n)) (ρ := ρ) (nl := nl) (dix := dix) h1 a12 a8.1 (by omega) p2 ⟨t2.1, c2⟩ (by rw [c1, k1]; rfl) (ly.2.1 k1) (hSl.1 _ q1) v1 (oC_k (L := n :: L1) (s' := 1) (r := .inr (ρ (B n), 0)) (w := w + 1) (cr := cr) ?_ u1 rfl (by omega))
    unfold ePay
    simp only
    rw [if_pos (by omega), Int.add_zero]
    rw [show p + 1 + 1 = p + ((0 + 1 + 1 : Nat) : Int) by omega]
    exact k
  · rw [eN_o k1 n2 n3 n13 n15] at k
    refine zn_begin h8 (by omega) hp (fun z σ' f' e' w' => ?_) (fun z σ1 m1 h1 f1 hm1 => ?_)
    · rw [if_neg z] at k; exact k σ' f' e' (by decide) w'
    rw [if_pos z] at k
    have u1 : nU σ A D vb σ8 σ1 ρ ρ t nl dix (n :: L1) := nU_F f1 rfl
    refine nRow F (A.2.2.2.2.1 n) L1 0 (p + 1) hf hN (fun x hx => hL x (by simp [hx])) (t9 n2 n15) (fun j _ _ => (kQ_o n2 n3 n15).1) p1 hj1 σ1 m1 ρ t (w + 1) (s + 1) (c + 1) (cr + 7) h1 (scP_u hS u1) (by omega) (by omega) ?_
    generalize eS (evN A (sg_g σ 6) B call f) (A.2.2.2.2.1 n) ρ (w + 1) = r at k
    match r, k with
    | .inl (e, w'), k => exact k
    | .inr (vs, w1', s1, ρ1), k =>
      intro σ2 m2 l2 h2 u2 v2 hm2
      have w29 := h2.2.2.2.2.1
      have u12 : nU σ A D vb σ8 σ2 ρ ρ1 t nl dix (n :: L1) := nU_t u1 u2 ⟨Int.le_refl _, Int.le_refl _⟩ (fun x hx => hx) (fun x hx => by simp [hx])
      simp only at k
      have lc : ∀ o, cnc A n = [(o, n)] → p + ((((0, n) :: (cdS A (cd A f) n 0 (A.2.2.2.2.1 n) ++ cnc A n)).length : Nat) : Int) = p + 1 + (cdS A (cd A f) n 0 (A.2.2.2.2.1 n)).length + 1 := fun o ho => by
        rw [ho]; simp only [List.length_cons, List.length_append, List.length_nil]; omega
      have vg : ∀ i : Nat, (hi : i < (A.2.2.2.2.1 n).length) → ∃ v, vs[i]? = some v ∧ vs.getD i (nmF 0) = v ∧ cvF σ2 (sg_g σ 6 ((A.2.2.2.2.1 n)[i])).toNat v (sg_g σ2 48 (t + i)) := fun i hi => by
        obtain ⟨v, hv⟩ := gE_x (l := vs) (i := i) (by omega)
        exact ⟨v, hv, by rw [List.getD_eq_getElem?_getD, hv, Option.getD_some], v2 i _ v (List.getElem?_eq_getElem hi) hv⟩
      by_cases k0 : A.2.1 n = 0
      · -- NUMBER
        have hl := w2 (by omega)
        have hcn : cnc A n = [(1, n)] := by unfold cnc; rw [if_neg n2, if_neg n3, if_neg n13, if_neg n15, if_pos (Or.inl k0)]
        rw [lc 1 hcn] at k
        rw [hcn] at p2
        rw [hl, show t + ((0 : Nat) : Int) = t by omega] at h2
        have t6' : sg_g σ 6 n = 0 := by
          have := hty0 (by omega)
          rw [kTy_0 k0] at this
          exact (Option.some.inj this).symm
        refine zn_num (A := A) (D := D) (vb := vb) (x := sg_n (A.2.2.2.1 n)) (ρ := ρ1) (nl := nl) (dix := dix) h2 a12 a8.1 (by omega) p2 ⟨t2.1, c2⟩ (by rw [c1, k0]; rfl) (ly.1 k0) ?_
        have e0 : eO (A.2.1 n) (sg_g σ 6 n) (sg_n (A.2.2.2.1 n)) vs = .inr (nmF (sg_n (A.2.2.2.1 n)), 0) := by rw [k0]; rfl
        rw [e0, t6'] at k
        exact oC_k (L := n :: L1) (s' := 1 + s1) k u12 (by omega) (by omega)
      · by_cases k14 : A.2.1 n = 14
        · -- ROW
          have hl := w6 k14
          have hcn : cnc A n = [(1, n)] := by unfold cnc; rw [if_neg n2, if_neg n3, if_neg n13, if_neg n15, if_pos (Or.inr (Or.inr k14))]
          rw [lc 1 hcn] at k
          rw [hcn] at p2
          have tt := hty0 k1
          rw [kTy_14 k14] at tt
          obtain ⟨i1, i2, i3⟩ := kIs_in tt
          generalize hA0 : ((A.2.2.2.2.1 n).map (sg_g σ 6)).getD 0 0 = a0 at i1 i2 i3
          have all0 : ∀ x ∈ A.2.2.2.2.1 n, sg_g σ 6 x = a0 := fun x hx => by
            have := List.all_eq_true.mp i3 (sg_g σ 6 x) (List.mem_map_of_mem hx)
            simpa using this
          have a00 : 0 ≤ a0 := by
            obtain ⟨y, r, hy⟩ : ∃ y r, A.2.2.2.2.1 n = y :: r := by
              match hh : A.2.2.2.2.1 n with
              | [] => rw [hh] at hl; simp at hl
              | y :: r => exact ⟨y, r, rfl⟩
            have m0 : y ∈ A.2.2.2.2.1 n := by rw [hy]; simp
            rw [← all0 y m0]
            exact (kin y m0).1
          have c10 : sg_g σ 10 n = (A.2.2.2.2.1 n).length := by
            have := (hW.2.2 n t2.1 t2.2).1.2.2.2.1.1
            unfold pts at this
            rw [if_neg n15] at this
            exact this
          have l200 : (A.2.2.2.2.1 n).length ≤ 200 := by
            have q := (hW.2.2 n t2.1 t2.2).1.2.2.2.1.2.2.2
            unfold pts at q
            rw [if_neg n15] at q
            rcases wit_len (f := id) (a := 0) (b := 199) q.1 (fun x hx => ⟨x, (q.2 x hx).1, by have := (q.2 x hx).2; omega, rfl⟩) with z | z
            · omega
            · rw [z]; exact Nat.zero_le _
          have e0 : eO (A.2.1 n) (sg_g σ 6 n) (sg_n (A.2.2.2.1 n)) vs = .inr (mkF vs, cnL a0.toNat vs) := by rw [k14, show a0.toNat = (sg_g σ 6 n - 1).toNat by omega]; rfl
          rw [e0, show (sg_g σ 6 n).toNat = a0.toNat + 1 by omega] at k
          refine zn_row (A := A) (D := D) (vb := vb) (a := (A.2.2.2.2.1 n).length) (d := a0.toNat) (M := vs) (ρ := ρ1) (nl := nl) (dix := dix) h2 a12 a8.1 (by omega) p2 ⟨t2.1, c2⟩ (by rw [c1, k14]; rfl) c10 (by omega) (by omega) (by omega) (by omega) (fun i z hz => ?_) (oC_k (L := n :: L1) (s' := 1 + s1) k u12 (by omega) (by omega))
          have hi := gE_l hz
          have hx : (A.2.2.2.2.1 n)[i]? = some ((A.2.2.2.2.1 n)[i]'(by omega)) := List.getElem?_eq_getElem _
          have := v2 i _ z hx hz
          rw [all0 _ (List.mem_of_getElem? hx)] at this
          exact this
        · -- ACTS
          have hw := t1
          unfold nW at hw
          have tt := kTy_o (A := A) (ds := ds) (T := sg_g σ 6) (n := n) (ty := sg_g σ 6 n) (ts := (A.2.2.2.2.1 n).map (sg_g σ 6)) (by rw [List.length_map]; exact hw) (hty0 k1) (by omega) n13 k14 n15 (fun x hx => by
            obtain ⟨y, hy, rfl⟩ := List.mem_map.mp hx
            exact (kin y hy).1)
          rw [List.length_map] at tt
          have gd : ∀ i : Nat, (hi : i < (A.2.2.2.2.1 n).length) → ((A.2.2.2.2.1 n).map (sg_g σ 6)).getD i 0 = sg_g σ 6 ((A.2.2.2.2.1 n)[i]) := fun i hi => by
            rw [List.getD_eq_getElem?_getD, List.getElem?_map, List.getElem?_eq_getElem hi]; rfl
          rcases tt with ⟨l1, o1⟩ | ⟨l2', o2⟩
          · have hcn : cnc A n = [(2, n)] := by
              unfold cnc
              rw [if_neg n2, if_neg n3, if_neg n13, if_neg n15, if_neg (by omega), if_pos]
              unfold op1 at o1
              omega
            rw [lc 2 hcn] at k
            rw [hcn] at p2
            rw [l1] at h2
            rw [gd 0 (by omega)] at o1
            have kx := kin _ (List.getElem_mem (h := show 0 < (A.2.2.2.2.1 n).length by omega))
            obtain ⟨v, hv, -, v0⟩ := vg 0 (by omega)
            simp only [Int.ofNat_zero, Int.cast_ofNat_Int, Int.add_zero] at v0
            have ev : vs = [v] := by
              match vs, hv, l2 with
              | [a], hv, _ => simp at hv; rw [hv]
              | [], hv, _ => simp at hv
              | _ :: _ :: _, _, l2 => simp only [List.length_cons] at l2; omega
            rw [ev] at k
            exact zn_one (k := A.2.1 n) (ρ := ρ1) (nl := nl) (dix := dix) h2 a12 a8.1 (by omega) p2 ⟨t2.1, c2⟩ c1 g2 kx v0 o1 (oC_k (L := n :: L1) (s' := 1 + s1) k u12 (by omega) (by omega))
          · have hcn : cnc A n = [(3, n)] := by
              unfold cnc
              rw [if_neg n2, if_neg n3, if_neg n13, if_neg n15, if_neg (by omega), if_neg]
              unfold op2 at o2
              omega
            rw [lc 3 hcn] at k
            rw [hcn] at p2
            rw [l2'] at h2
            rw [gd 0 (by omega), gd 1 (by omega)] at o2
            have kx := kin _ (List.getElem_mem (h := show 0 < (A.2.2.2.2.1 n).length by omega))
            obtain ⟨v, hv, -, v0⟩ := vg 0 (by omega)
            obtain ⟨u, hu, -, v1⟩ := vg 1 (by omega)
            simp only [Int.ofNat_zero, Int.cast_ofNat_Int, Int.add_zero] at v0
            have ev : vs = [v, u] := by
              match vs, hv, hu, l2 with
              | [a, b], hv, hu, _ => simp at hv hu; rw [hv, hu]
              | [], hv, _, _ => simp at hv
              | [_], _, hu, _ => simp at hu
              | _ :: _ :: _ :: _, _, _, l2 => simp only [List.length_cons] at l2; omega
            rw [ev] at k
            exact zn_two (k := A.2.1 n) (ρ := ρ1) (nl := nl) (dix := dix) h2 a12 a8.1 (by omega) p2 ⟨t2.1, c2⟩ c1 g2 kx v0 v1 o2 (oC_k (L := n :: L1) (s' := 1 + s1) k u12 (by omega) (by omega))
end NBR
/-! BIG STEPS of the nested run: let, if, calls. -/
/-- binders of a PROGRAM -/
def vbF (A : aT) (D : List aDf) (b : Int) : Prop := ((0 ≤ b ∧ b < A.1) ∧ A.2.1 b = 2) ∨ (∃ (n : Int) (j : Nat), (0 ≤ n ∧ n < A.1) ∧ A.2.1 n = 15 ∧ j < (A.2.2.2.2.2 n).length ∧ b = 210 + 4 * n + j) ∨ ∃ (q j : Nat) (y : aDf), D[q]? = some y ∧ j < y.2.2.1.length ∧ b = 1100 + 6 * (q : Int) + j
theorem bTw_l {A : aT} {D : List aDf} {T : Int → Int} {n : Int} (h : n < 210) : bTy A D T n = T ((A.2.2.2.2.1 n).getD 0 0) := by unfold bTy; rw [if_pos h]
theorem bTw_g {A : aT} {D : List aDf} {T : Int → Int} {n : Int} {j : Nat} (h : 0 ≤ n ∧ n < 210) (hj : j < 4) : bTy A D T (210 + 4 * n + j) = T ((A.2.2.2.2.1 n).getD (1 + j) 0) - 1 := by
  unfold bTy
  rw [if_neg (by omega), if_pos (by omega), show (210 + 4 * n + (j : Int) - 210) / 4 = n by omega, show (210 + 4 * n + (j : Int) - 210) % 4 = j by omega, Int.toNat_natCast]
theorem bTw_p {A : aT} {D : List aDf} {T : Int → Int} {q : Int} {j : Nat} (h : 0 ≤ q) (hj : j < 6) : bTy A D T (1100 + 6 * q + j) = ((D.getD q.toNat (0, 0, [], 0)).2.2.1.map (·.2.2)).getD j 0 := by
  unfold bTy
  rw [if_neg (by omega), if_neg (by omega), show (1100 + 6 * q + (j : Int) - 1100) / 6 = q by omega, show (1100 + 6 * q + (j : Int) - 1100) % 6 = j by omega, Int.toNat_natCast]
theorem eUs_no {b x : Int} : ∀ {r : List vaF} {ρ : eV} {i : Nat}, (x < b + i ∨ b + i + r.length ≤ x) → eUs ρ b i r x = ρ x
  | [], ρ, i, _ => rfl
  | v :: r, ρ, i, h => by
    simp only [eUs]
    simp only [List.length_cons] at h
    rw [eUs_no (r := r) (i := i + 1) (by omega)]
    unfold eUp
    rw [if_neg (by omega)]
theorem eUs_at {b : Int} : ∀ {r : List vaF} {ρ : eV} {i j : Nat} {v : vaF}, r[j]? = some v → eUs ρ b i r (b + i + j) = v
  | [], ρ, i, j, v, h => by simp at h
  | u :: r, ρ, i, 0, v, h => by
    simp only [List.getElem?_cons_zero, Option.some.injEq] at h
    subst h
    simp only [eUs]
    rw [eUs_no (r := r) (i := i + 1) (by omega)]
    unfold eUp
    rw [if_pos (by omega)]
  | u :: r, ρ, i, j + 1, v, h => by
    simp only [List.getElem?_cons_succ] at h
    simp only [eUs]
    have := eUs_at (b := b) (ρ := eUp ρ (b + i) u) (i := i + 1) h
    rw [show b + ((i + 1 : Nat) : Int) + (j : Int) = b + (i : Int) + ((j + 1 : Nat) : Int) by omega] at this
    exact this
section NLT
variable {σ : sg_S} {A : aT} {D : List aDf} {vb : Int → Prop} {X : sg_S → Prop} {B : Int → Int} {call : Int → eV → Int → eR} {ds : kD} {nl dix : Int} {f : Nat}
/-- BIND -/
theorem zn_bind {σ8 : sg_S} {m : Nat} {ρ : eV} {t w s c p n : Int} {d : Nat} {v : vaF} {C : List (Int × Int)} (h : nP σ σ8 (t + 1) w s c p) (t0 : 0 ≤ t) (hm : 1 ≤ m) (hp : pl σ p ((4, n) :: C)) (hn : 0 ≤ n ∧ n < 200) (hSl : slA σ vb) (hb : vb n) (hbt : (bTy A D (sg_g σ 6) n).toNat = d) (hv : cvF σ8 d v (sg_g σ8 48 t)) (kk : ∀ σ' m', nP σ σ' t w s c (p + 1) → nU σ A D vb σ8 σ' ρ (eUp ρ n v) t nl dix [] → rlC σ A D σ' (eUp ρ n v) n → m' + 1 = m → Rn σ X m' σ') : Rn σ X m σ8 := by
  obtain ⟨m, rfl⟩ : ∃ m', m = m' + 1 := ⟨m - 1, by omega⟩
  obtain ⟨p0, p1, p2, p3⟩ := pl_c hp
  refine rn_4 (p := p) (k := n) h.2.2.1.2.2.2 p0 h.2.1.1 p1 p2 (fun σ32 e32 => ?_)
  obtain ⟨h32, f32⟩ := nP_32 h ⟨p0.2, p0.1⟩ e32
  obtain ⟨a1, ⟨a2, a3⟩, ⟨a4, a5, a6, a7⟩, a8, a9, a10, a11, a12⟩ := id h32
  have hs := hSl.1 n hb
  have e16 : sg_g σ 16 n = slF σ n := (sl_let (by omega)).symm
  rw [xa_in (a := 16) hn, e16]
  refine n_pop (t := t) a4 ⟨t0, by omega⟩ (fun σ2 f2 t2 r2 _ _ σ82 e82 => ?_)
  rw [xp_in hs, sg_F_ga f32 rfl] at e82
  have f82 : sg_F [46] σ2 σ82 := by rw [e82]; exact sg_F_w (sg_F_r _ _) rfl _
  have F2 : sg_F [46, 8045] σ32 σ82 := sg_F_t (sg_F_m f2 rfl) (sg_F_m f82 rfl)
  have F : sg_F [46, 8045, 9045] σ8 σ82 := sg_F_t (sg_F_m f32 rfl) (sg_F_m F2 rfl)
  have sv : sg_g σ82 46 (slF σ n) = sg_g σ8 48 t := by rw [e82, sg_gw_e _ _ _ _ (sg_Rg _ _ _)]
  have so : ∀ x, ¬ x = slF σ n → sg_g σ82 46 x = sg_g σ8 46 x := fun x hx => by rw [e82, sg_gw_k _ _ _ _ _ _ hx, sg_F_ga f2 rfl, sg_F_ga f32 rfl]
  have ex : cEx σ8 σ82 := cEx_F F rfl
  have rn : rlC σ A D σ82 (eUp ρ n v) n := by
    unfold rlC
    rw [sv, hbt]
    unfold eUp
    rw [if_pos rfl]
    exact cvF_up ex hv
  refine kk σ82 m ⟨sg_F_t a1 (sg_F_m F2 rfl), ⟨by rw [sg_F_g F2 (by rfl)]; exact a2, by rw [sg_F_g F2 (by rfl)]; exact a3⟩, ⟨by rw [sg_F_g f82 (by rfl)]; exact t2, by rw [sg_F_g F2 (by rfl)]; exact a5, by rw [sg_F_g F2 (by rfl)]; exact a6, by rw [sg_F_g F2 (by rfl)]; exact a7⟩, ⟨t0, by omega⟩, a9, a10, by rw [sg_F_g F2 (by rfl)]; exact a11, a12⟩ ⟨ex, fun i _ => sg_F_ga F rfl, fun b hb' hr => ?_, fun x _ _ => ⟨sg_F_ga F rfl, sg_F_ga F rfl, sg_F_ga F rfl, sg_F_ga F rfl, sg_F_ga F rfl⟩, fun q _ => sg_F_ga F rfl⟩ rn rfl
  by_cases cb : b = n
  · subst cb; exact rn
  · have e : eUp ρ n v b = ρ b := by unfold eUp; rw [if_neg cb]
    unfold rlC
    rw [e, so _ (fun z => cb (hSl.2 b n hb' hb z))]
    exact cvF_up ex hr

theorem nN_let (hW : ckW σ A) (hSl : slA σ vb) (hVb : ∀ b, vbF A D b → vb b) (F : nN σ A D vb X B call ds nl dix f) {n : Int} {L1 : List Int} {sc : List (Int × Int)} {p : Int} (hk : A.2.1 n = 2) (hf : fT A (A.2.2.2.2.1 n) L1) (hN : L1.Nodup) (hL : ∀ x ∈ n :: L1, nl ≤ x ∧ lyQ σ A D B dix x) (hty : tyN A ds (sg_g σ 6) B (f + 1) sc n) (hp : pl σ p (cd A (f + 1) n)) (hj : jpN σ A (f + 1) n p) {σ8 : sg_S} {m : Nat} {ρ : eV} {t w s c cr : Int} (h8 : nP σ σ8 t w s c p) (hS : scP σ A D vb σ8 ρ sc) (hm : 8 * (3001 - w) + cr ≤ (m : Int)) (hcr : 0 ≤ cr) (k : kN σ A D vb X σ8 ρ t s c (p + (cd A (f + 1) n).length) cr nl dix (n :: L1) (sg_g σ 6 n).toNat (evN A (sg_g σ 6) B call (f + 1) n ρ w)) : Rn σ X m σ8 := by
  obtain ⟨t1, t2, t3, t4, t5, t6, t7, t8, t9⟩ := hty
  obtain ⟨c1, c2⟩ := ck3 hW t2
  obtain ⟨w1, w2, w3, w4, w5, w6, w7, w8⟩ := id t1
  obtain ⟨a, d, hk2⟩ := kid2 (w3 (Or.inl hk))
  have ho : kOrd A n = [a, d] := by unfold kOrd; rw [if_neg (by omega), hk2]
  obtain ⟨ta, td⟩ := t7 hk a d hk2
  have e6 : sg_g σ 6 d = sg_g σ 6 n := by
    have := t5 (by omega)
    rw [kTy_2 hk, hk2] at this
    simpa using this
  have hcn : cnc A n = [] := by unfold cnc; rw [if_pos hk]
  have ah0 : ahd A n 0 = [] := by unfold ahd; rw [if_neg (by omega), if_neg (by omega), if_neg (by omega), if_neg (by omega)]
  have ah1 : ahd A n 1 = [(4, n)] := by unfold ahd; rw [if_pos ⟨hk, rfl⟩]
  have hcd : cd A (f + 1) n = (0, n) :: (cd A f a ++ (4, n) :: cd A f d) := by
    simp only [cd]
    rw [ho, hcn, List.append_nil]
    simp only [cdS, ah0, ah1, List.nil_append, List.append_nil, List.cons_append]
  have hj1 := hj.1
  rw [ho] at hj1
  simp only [jpS, ah0, ah1, List.length_nil, List.length_cons, Int.ofNat_zero, Int.cast_ofNat_Int, Int.add_zero, Nat.zero_add, and_true] at hj1
  obtain ⟨-, j1, -, j2⟩ := hj1
  rw [hcd] at hp k
  have p0 := pl_c hp
  obtain ⟨p1, p2⟩ := pl_a p0.2.2.2
  have p3 := pl_c p2
  rw [eN_2 hk, hk2] at k
  simp only [List.getD_cons_zero, List.getD_cons_succ] at k
  rw [hk2] at hf
  obtain ⟨La, Ld, e3, fa, fd⟩ := fT_spl [a] [d] L1 hf
  have ia : ∀ x, x ∈ La → x ∈ n :: L1 := fun x hx => by rw [e3]; simp [hx]
  have id' : ∀ x, x ∈ Ld → x ∈ n :: L1 := fun x hx => by rw [e3]; simp [hx]
  have hNa : La.Nodup := List.Nodup.sublist (by rw [e3]; exact List.sublist_append_left _ _) hN
  have hNd : Ld.Nodup := List.Nodup.sublist (by rw [e3]; exact List.sublist_append_right _ _) hN
  have tb := h8.2.2.2.1.1
  have w9 := h8.2.2.2.2.1
  have vbn : vb n := hVb n (Or.inl ⟨t2, hk⟩)
  have btn : bTy A D (sg_g σ 6) n = sg_g σ 6 a := by rw [bTw_l (by omega), hk2]; rfl
  refine zn_begin h8 (by omega) hp (fun z σ' f' e' w' => ?_) (fun z σ1 m1 h1 f1 hm1 => ?_)
  · rw [if_neg z] at k; exact k σ' f' e' (by decide) w'
  rw [if_pos z] at k
  have u1 : nU σ A D vb σ8 σ1 ρ ρ t nl dix (n :: L1) := nU_F f1 rfl
  refine F a La sc (p + 1) fa hNa (fun x hx => hL x (ia x hx)) ta p1 j1 σ1 m1 ρ t (w + 1) (s + 1) (c + 1) (cr + 7) h1 (scP_u hS u1) (by omega) (by omega) ?_
  generalize evN A (sg_g σ 6) B call f a ρ (w + 1) = r at k
  match r, k with
  | .inl (e, w'), k => exact fun σ' q1 q2 q3 q4 => k σ' q1 q2 q3 q4
  | .inr (v, w1', s1, ρ1), k =>
    intro σ2 m2 h2 u2 v2 hm2
    simp only at k
    have w29 := h2.2.2.2.2.1
    refine zn_bind (ρ := ρ1) (nl := nl) (dix := dix) (A := A) (D := D) (d := (sg_g σ 6 a).toNat) (v := v) h2 tb (by omega) p2 ⟨t2.1, c2⟩ hSl vbn (by rw [btn]) v2 (fun σ3 m3 h3 u3 r3 hm3 => ?_)
    have u12 : nU σ A D vb σ8 σ2 ρ ρ1 t nl dix (n :: L1) := nU_t u1 u2 ⟨Int.le_refl _, Int.le_refl _⟩ (fun _ hx => hx) ia
    have u13 : nU σ A D vb σ8 σ3 ρ (eUp ρ1 n v) t nl dix (n :: L1) := nU_t u12 u3 ⟨Int.le_refl _, Int.le_refl _⟩ (fun _ hx => hx) (by simp)
    refine F d Ld _ (p + 1 + (cd A f a).length + 1) fd hNd (fun x hx => hL x (id' x hx)) td p3.2.2.2 j2 σ3 m3 (eUp ρ1 n v) t w1' (s + 1 + s1) (c + 1) (cr + 9) h3 (fun q hq => ?_) (by omega) (by omega) ?_
    · rcases List.mem_cons.mp hq with e | e
      · subst e; exact ⟨vbn, btn.symm, r3⟩
      · exact scP_u hS u13 q e
    · generalize evN A (sg_g σ 6) B call f d (eUp ρ1 n v) w1' = r2 at k
      match r2, k with
      | .inl (e, w'), k => exact fun σ' q1 q2 q3 q4 => k σ' q1 q2 q3 q4
      | .inr (v2, w2', s2, ρ2), k =>
        intro σ4 m4 h4 u4 v4 hm4
        simp only at k
        refine k σ4 m4 ?_ (nU_t u13 u4 ⟨Int.le_refl _, Int.le_refl _⟩ (fun _ hx => hx) id') (by rw [← e6]; exact v4) (by omega)
        simp only [List.length_cons, List.length_append]
        rw [show p + (((cd A f a).length + ((cd A f d).length + 1) + 1 : Nat) : Int) = p + 1 + (cd A f a).length + 1 + (cd A f d).length by omega, show s + (1 + s1 + s2) = s + 1 + s1 + s2 by omega]
        exact nP_m h4 ⟨h8.2.2.2.2.2.2.2, by omega⟩
/-- FORK, TURN, JOIN -/
theorem zn_fork {σ8 : sg_S} {m : Nat} {ρ : eV} {t w s c p n e : Int} {v : vaF} {C : List (Int × Int)} (h : nP σ σ8 (t + 1) w s c p) (t0 : 0 ≤ t) (hm : 1 ≤ m) (hp : pl σ p ((7, n) :: C)) (hn : 0 ≤ n ∧ n < 200) (hv : cvF σ8 0 v (sg_g σ8 48 t)) (h32e : sg_g σ 32 n = e) (k1 : ¬ v [] = 0 → ∀ σ' m', nP σ σ' t w s c (p + 1) → nU σ A D vb σ8 σ' ρ ρ t nl dix [] → m' + 1 = m → Rn σ X m' σ') (k0 : v [] = 0 → ∀ σ' m', nP σ σ' t w s c e → nU σ A D vb σ8 σ' ρ ρ t nl dix [] → m' + 1 = m → Rn σ X m' σ') : Rn σ X m σ8 := by
  obtain ⟨m, rfl⟩ : ∃ m', m = m' + 1 := ⟨m - 1, by omega⟩
  obtain ⟨p0, p1, p2, p3⟩ := pl_c hp
  refine rn_7 (p := p) (k := n) h.2.2.1.2.2.2 p0 h.2.1.1 p1 p2 (fun σ32 e32 => ?_)
  obtain ⟨h32, f32⟩ := nP_32 h ⟨p0.2, p0.1⟩ e32
  obtain ⟨a1, ⟨a2, a3⟩, ⟨a4, a5, a6, a7⟩, a8, a9, a10, a11, a12⟩ := id h32
  unfold V_nFork
  rw [xa_in (a := 32) hn, sg_F_ga a1 (a := 32) rfl, h32e]
  have ev : sg_g σ32 48 t = v [] := by rw [sg_F_ga f32 rfl]; exact hv.symm
  refine n_pop (t := t) a4 ⟨t0, by omega⟩ (fun σ2 f2 t2 r2 _ _ => ?_)
  rw [ev]
  have F2 : sg_F [8045, 9045] σ8 σ2 := sg_F_t (sg_F_m f32 rfl) (sg_F_m f2 rfl)
  refine ⟨fun z _ => k1 z σ2 m ⟨sg_F_t a1 (sg_F_m f2 rfl), ⟨by rw [sg_F_g f2 (by rfl)]; exact a2, by rw [sg_F_g f2 (by rfl)]; exact a3⟩, ⟨t2, by rw [sg_F_g f2 (by rfl)]; exact a5, by rw [sg_F_g f2 (by rfl)]; exact a6, by rw [sg_F_g f2 (by rfl)]; exact a7⟩, ⟨t0, by omega⟩, a9, a10, by rw [sg_F_g f2 (by rfl)]; exact a11, a12⟩ (nU_F F2 rfl) rfl, fun z σ3 e3 _ => ?_⟩
  have f3 : sg_F [9045] σ2 σ3 := by rw [e3]; exact sg_F_w (sg_F_r _ _) rfl _
  have F3 : sg_F [8045, 9045] σ32 σ3 := sg_F_t (sg_F_m f2 rfl) (sg_F_m f3 rfl)
  have re : sg_R e := by rw [← h32e]; exact sg_Rg _ _ _
  exact k0 z σ3 m ⟨sg_F_t a1 (sg_F_m F3 rfl), ⟨by rw [sg_F_g F3 (by rfl)]; exact a2, by rw [sg_F_g F3 (by rfl)]; exact a3⟩, ⟨by rw [sg_F_g f3 (by rfl)]; exact t2, by rw [sg_F_g F3 (by rfl)]; exact a5, by rw [sg_F_g F3 (by rfl)]; exact a6, by rw [e3, sg_gw_e _ _ _ _ re]⟩, ⟨t0, by omega⟩, a9, a10, by rw [sg_F_g F3 (by rfl)]; exact a11, a12⟩ (nU_F (sg_F_t (sg_F_m f32 rfl) (sg_F_m F3 rfl) : sg_F [8045, 9045] σ8 σ3) rfl) rfl
theorem zn_turn {σ8 : sg_S} {m : Nat} {ρ : eV} {t w s c p n e : Int} {C : List (Int × Int)} (h : nP σ σ8 t w s c p) (hm : 1 ≤ m) (hp : pl σ p ((8, n) :: C)) (hn : 0 ≤ n ∧ n < 200) (h33 : sg_g σ 33 n = e) (kk : ∀ σ' m', nP σ σ' t w s c e → nU σ A D vb σ8 σ' ρ ρ t nl dix [] → (∀ i, sg_g σ' 48 i = sg_g σ8 48 i) → m' + 1 = m → Rn σ X m' σ') : Rn σ X m σ8 := by
  obtain ⟨m, rfl⟩ : ∃ m', m = m' + 1 := ⟨m - 1, by omega⟩
  obtain ⟨p0, p1, p2, p3⟩ := pl_c hp
  refine rn_8 (p := p) (k := n) h.2.2.1.2.2.2 p0 h.2.1.1 p1 p2 (fun σ32 e32 => ?_)
  obtain ⟨h32, f32⟩ := nP_32 h ⟨p0.2, p0.1⟩ e32
  obtain ⟨a1, ⟨a2, a3⟩, ⟨a4, a5, a6, a7⟩, a8, a9, a10, a11, a12⟩ := id h32
  unfold V_nTurn
  rw [xa_in (a := 33) hn, sg_F_ga a1 (a := 33) rfl, h33]
  intro σ1 e1 _
  have f1 : sg_F [9045] σ32 σ1 := by rw [e1]; exact sg_F_w (sg_F_r _ _) rfl _
  have F1 : sg_F [9045] σ8 σ1 := sg_F_t f32 f1
  have re : sg_R e := by rw [← h33]; exact sg_Rg _ _ _
  exact kk σ1 m ⟨sg_F_t a1 (sg_F_m f1 rfl), ⟨by rw [sg_F_g f1 (by rfl)]; exact a2, by rw [sg_F_g f1 (by rfl)]; exact a3⟩, ⟨by rw [sg_F_g f1 (by rfl)]; exact a4, by rw [sg_F_g f1 (by rfl)]; exact a5, by rw [sg_F_g f1 (by rfl)]; exact a6, by rw [e1, sg_gw_e _ _ _ _ re]⟩, a8, a9, a10, by rw [sg_F_g f1 (by rfl)]; exact a11, a12⟩ (nU_F F1 rfl) (fun i => sg_F_ga F1 rfl) rfl
theorem zn_join {σ8 : sg_S} {m : Nat} {ρ : eV} {t w s c p n : Int} {C : List (Int × Int)} (h : nP σ σ8 t w s c p) (hm : 1 ≤ m) (hp : pl σ p ((9, n) :: C)) (kk : ∀ σ' m', nP σ σ' t w s c (p + 1) → nU σ A D vb σ8 σ' ρ ρ t nl dix [] → (∀ i, sg_g σ' 48 i = sg_g σ8 48 i) → m' + 1 = m → Rn σ X m' σ') : Rn σ X m σ8 := by
  obtain ⟨m, rfl⟩ : ∃ m', m = m' + 1 := ⟨m - 1, by omega⟩
  obtain ⟨p0, p1, p2, p3⟩ := pl_c hp
  refine rn_9 (p := p) (k := n) h.2.2.1.2.2.2 p0 h.2.1.1 p1 p2 (fun σ32 e32 => ?_)
  obtain ⟨h32, f32⟩ := nP_32 h ⟨p0.2, p0.1⟩ e32
  unfold V_nJoin
  exact fun _ => kk σ32 m h32 (nU_F f32 rfl) (fun i => sg_F_ga f32 rfl) rfl

theorem nN_if (hW : ckW σ A) (F : nN σ A D vb X B call ds nl dix f) {n : Int} {L1 : List Int} {sc : List (Int × Int)} {p : Int} (hk : A.2.1 n = 3) (hf : fT A (A.2.2.2.2.1 n) L1) (hN : L1.Nodup) (hL : ∀ x ∈ n :: L1, nl ≤ x ∧ lyQ σ A D B dix x) (hty : tyN A ds (sg_g σ 6) B (f + 1) sc n) (hp : pl σ p (cd A (f + 1) n)) (hj : jpN σ A (f + 1) n p) {σ8 : sg_S} {m : Nat} {ρ : eV} {t w s c cr : Int} (h8 : nP σ σ8 t w s c p) (hS : scP σ A D vb σ8 ρ sc) (hm : 8 * (3001 - w) + cr ≤ (m : Int)) (hcr : 0 ≤ cr) (k : kN σ A D vb X σ8 ρ t s c (p + (cd A (f + 1) n).length) cr nl dix (n :: L1) (sg_g σ 6 n).toNat (evN A (sg_g σ 6) B call (f + 1) n ρ w)) : Rn σ X m σ8 := by
  obtain ⟨t1, t2, t3, t4, t5, t6, t7, t8, t9⟩ := hty
  obtain ⟨c1, c2⟩ := ck3 hW t2
  obtain ⟨w1, w2, w3, w4, w5, w6, w7, w8⟩ := id t1
  have hl3 := w4 hk
  obtain ⟨a, b, d, hk2⟩ : ∃ a b d, A.2.2.2.2.1 n = [a, b, d] := by
    match hh : A.2.2.2.2.1 n, hl3 with
    | [a, b, d], _ => exact ⟨a, b, d, rfl⟩
  have n2 : ¬ A.2.1 n = 2 := by omega
  have n15 : ¬ A.2.1 n = 15 := by omega
  have ho : kOrd A n = [a, b, d] := by unfold kOrd; rw [if_neg n15, hk2]
  have tk := t9 n2 n15
  rw [hk2] at tk
  have e6 := t5 (by omega)
  rw [kTy_3 hk, hk2] at e6
  obtain ⟨i1, i2, i3⟩ := kIs_in e6
  simp only [List.map_cons, List.map_nil, List.getD_cons_zero, List.getD_cons_succ, Bool.and_eq_true, decide_eq_true_eq] at i1 i3
  have hcn : cnc A n = [(9, n)] := by unfold cnc; rw [if_neg n2, if_pos hk]
  have ah0 : ahd A n 0 = [] := by unfold ahd; rw [if_neg (by omega), if_neg (by omega), if_neg (by omega), if_neg (by omega)]
  have ah1 : ahd A n 1 = [(7, n)] := by unfold ahd; rw [if_neg (by omega), if_pos ⟨hk, by omega⟩, if_pos rfl]
  have ah2 : ahd A n 2 = [(8, n)] := by unfold ahd; rw [if_neg (by omega), if_pos ⟨hk, by omega⟩, if_neg (by omega)]
  have hcd : cd A (f + 1) n = (0, n) :: (cd A f a ++ (7, n) :: (cd A f b ++ (8, n) :: (cd A f d ++ [(9, n)]))) := by
    simp only [cd]
    rw [ho, hcn]
    simp only [cdS, ah0, ah1, ah2, List.nil_append, List.append_nil, List.cons_append, List.append_assoc, Nat.zero_add, Nat.reduceAdd]
  have hj33 := hj.2.1 hk
  have hj1 := hj.1
  rw [ho] at hj1
  simp only [jpS, ah0, ah1, ah2, List.length_nil, List.length_cons, Int.ofNat_zero, Int.cast_ofNat_Int, Int.add_zero, Nat.zero_add, Nat.reduceAdd, and_true] at hj1
  obtain ⟨-, j1, -, j2, ⟨j32, -⟩, j3⟩ := hj1
  have j32' := j32 hk trivial
  rw [hcd] at hp k hj33
  have p0 := pl_c hp
  obtain ⟨p1, p2⟩ := pl_a p0.2.2.2
  have p3 := pl_c p2
  obtain ⟨p4, p5⟩ := pl_a p3.2.2.2
  have p6 := pl_c p5
  obtain ⟨p7, p8⟩ := pl_a p6.2.2.2
  rw [eN_3 hk, hk2] at k
  rw [hk2] at hf
  obtain ⟨La, Lr, e3, fa, fr⟩ := fT_spl [a] [b, d] L1 hf
  obtain ⟨Lb, Ld, e4, fb, fd⟩ := fT_spl [b] [d] Lr fr
  have ia : ∀ x, x ∈ La → x ∈ n :: L1 := fun x hx => by rw [e3]; simp [hx]
  have ib : ∀ x, x ∈ Lb → x ∈ n :: L1 := fun x hx => by rw [e3, e4]; simp [hx]
  have id' : ∀ x, x ∈ Ld → x ∈ n :: L1 := fun x hx => by rw [e3, e4]; simp [hx]
  have hNa : La.Nodup := List.Nodup.sublist (by rw [e3]; exact List.sublist_append_left _ _) hN
  have hNr : Lr.Nodup := List.Nodup.sublist (by rw [e3]; exact List.sublist_append_right _ _) hN
  have hNb : Lb.Nodup := List.Nodup.sublist (by rw [e4]; exact List.sublist_append_left _ _) hNr
  have hNd : Ld.Nodup := List.Nodup.sublist (by rw [e4]; exact List.sublist_append_right _ _) hNr
  have tb := h8.2.2.2.1.1
  have w9 := h8.2.2.2.2.1
  have c0 := h8.2.2.2.2.2.2.2
  refine zn_begin h8 (by omega) hp (fun z σ' f' e' w' => ?_) (fun z σ1 m1 h1 f1 hm1 => ?_)
  · rw [if_neg z] at k; exact k σ' f' e' (by decide) w'
  rw [if_pos z] at k
  simp only [List.getD_cons_zero] at k
  have u1 : nU σ A D vb σ8 σ1 ρ ρ t nl dix (n :: L1) := nU_F f1 rfl
  refine F a La sc (p + 1) fa hNa (fun x hx => hL x (ia x hx)) (tk a (by simp)) p1 j1 σ1 m1 ρ t (w + 1) (s + 1) (c + 1) (cr + 7) h1 (scP_u hS u1) (by omega) (by omega) ?_
  generalize evN A (sg_g σ 6) B call f a ρ (w + 1) = r at k
  match r, k with
  | .inl (e, w'), k => exact fun σ' q1 q2 q3 q4 => k σ' q1 q2 q3 q4
  | .inr (v, w1', s1, ρ1), k =>
    intro σ2 m2 h2 u2 v2 hm2
    simp only at k
    have w29 := h2.2.2.2.2.1
    rw [i3.1] at v2
    have u12 : nU σ A D vb σ8 σ2 ρ ρ1 t nl dix (n :: L1) := nU_t u1 u2 ⟨Int.le_refl _, Int.le_refl _⟩ (fun _ hx => hx) ia
    refine zn_fork (ρ := ρ1) (nl := nl) (dix := dix) (A := A) (D := D) (vb := vb) (v := v) h2 tb (by omega) p2 ⟨t2.1, c2⟩ v2 j32' (fun z2 σ3 m3 h3 u3 hm3 => ?_) (fun z2 σ3 m3 h3 u3 hm3 => ?_)
    · rw [if_neg z2] at k
      simp only [List.getD_cons_succ, List.getD_cons_zero] at k
      have u13 : nU σ A D vb σ8 σ3 ρ ρ1 t nl dix (n :: L1) := nU_t u12 u3 ⟨Int.le_refl _, Int.le_refl _⟩ (fun _ hx => hx) (by simp)
      refine F b Lb sc (p + 1 + (cd A f a).length + 1) fb hNb (fun x hx => hL x (ib x hx)) (tk b (by simp)) p4 j2 σ3 m3 ρ1 t w1' (s + 1 + s1) (c + 1) (cr + 9) h3 (scP_u hS u13) (by omega) (by omega) ?_
      generalize evN A (sg_g σ 6) B call f b ρ1 w1' = r2 at k
      match r2, k with
      | .inl (e, w'), k => exact fun σ' q1 q2 q3 q4 => k σ' q1 q2 q3 q4
      | .inr (v3, w2', s2, ρ2), k =>
        intro σ4 m4 h4 u4 v4 hm4
        simp only at k
        have w49 := h4.2.2.2.2.1
        refine zn_turn (ρ := ρ2) (nl := nl) (dix := dix) (A := A) (D := D) (vb := vb) h4 (by omega) p5 ⟨t2.1, c2⟩ hj33 (fun σ5 m5 h5 u5 g5 hm5 => ?_)
        refine k σ5 m5 ?_ (nU_t (nU_t u13 u4 ⟨Int.le_refl _, Int.le_refl _⟩ (fun _ hx => hx) ib) u5 ⟨Int.le_refl _, by omega⟩ (fun _ hx => hx) (by simp)) (by rw [g5, i1]; exact cvF_up u5.1 v4) (by omega)
        rw [show s + (1 + s1 + s2) = s + 1 + s1 + s2 by omega]
        exact nP_m h5 ⟨c0, by omega⟩
    · rw [if_pos z2] at k
      simp only [List.getD_cons_succ, List.getD_cons_zero] at k
      have u13 : nU σ A D vb σ8 σ3 ρ ρ1 t nl dix (n :: L1) := nU_t u12 u3 ⟨Int.le_refl _, Int.le_refl _⟩ (fun _ hx => hx) (by simp)
      refine F d Ld sc (p + 1 + (cd A f a).length + 1 + (cd A f b).length + 1) fd hNd (fun x hx => hL x (id' x hx)) (tk d (by simp)) p7 j3 σ3 m3 ρ1 t w1' (s + 1 + s1) (c + 1) (cr + 9) h3 (scP_u hS u13) (by omega) (by omega) ?_
      generalize evN A (sg_g σ 6) B call f d ρ1 w1' = r2 at k
      match r2, k with
      | .inl (e, w'), k => exact fun σ' q1 q2 q3 q4 => k σ' q1 q2 q3 q4
      | .inr (v3, w2', s2, ρ2), k =>
        intro σ4 m4 h4 u4 v4 hm4
        simp only at k
        have w49 := h4.2.2.2.2.1
        refine zn_join (ρ := ρ2) (nl := nl) (dix := dix) (A := A) (D := D) (vb := vb) h4 (by omega) p8 (fun σ5 m5 h5 u5 g5 hm5 => ?_)
        refine k σ5 m5 ?_ (nU_t (nU_t u13 u4 ⟨Int.le_refl _, Int.le_refl _⟩ (fun _ hx => hx) id') u5 ⟨Int.le_refl _, by omega⟩ (fun _ hx => hx) (by simp)) (by rw [g5, i1, i3.2]; exact cvF_up u5.1 v4) (by omega)
        simp only [List.length_cons, List.length_append, List.length_nil]
        rw [show p + (((cd A f a).length + ((cd A f b).length + ((cd A f d).length + (0 + 1) + 1) + 1) + 1 : Nat) : Int) = p + 1 + (cd A f a).length + 1 + (cd A f b).length + 1 + (cd A f d).length + 1 by omega, show s + (1 + s1 + s2) = s + 1 + s1 + s2 by omega]
        exact nP_m h5 ⟨c0, by omega⟩
end NLT
/-! BIG STEPS of the nested run: calls. -/
section NCL
variable {σ : sg_S} {Q : sg_S → Prop}
theorem n_enter {q p fs t pc E : Int} (hq : 0 ≤ q ∧ q < 12) (h23 : sg_g σ 23 q = p) (hp : 0 ≤ p ∧ p ≤ 6) (h24 : sg_g σ 24 q = fs) (hfs : 0 ≤ fs ∧ fs + p ≤ 272) (ht : sg_g σ 45 7 = t + p) (h0 : 0 ≤ t ∧ t + p ≤ 3200) (hpc : sg_g σ 45 8 = pc) (hE : sg_g σ 31 q = E) (k : ∀ σ', sg_F [46, 47, 8045, 9045] σ σ' → sg_g σ' 45 7 = t → sg_g σ' 45 8 = E → sg_g σ' 47 q = pc → (∀ i, ¬ i = q → sg_g σ' 47 i = sg_g σ 47 i) → (∀ i : Nat, (i : Int) < p → sg_g σ' 46 (fs + i) = sg_g σ 48 (t + i)) → (∀ s, ¬ (fs ≤ s ∧ s < fs + p) → sg_g σ' 46 s = sg_g σ 46 s) → Q σ') : V_mnEnter σ q Q := by
  unfold V_mnEnter
  rw [xa_in (a := 23) hq, xa_in (a := 24) hq, xa_in (a := 31) ⟨by omega, by omega⟩, h23, h24, ht, hpc, hE, show t + p - p = t by omega]
  refine ⟨fun m v σ2 => ∃ j : Nat, v = j ∧ (j : Int) ≤ p ∧ m = 6 - j ∧ (∀ i : Nat, i < j → sg_g σ2 46 (fs + i) = sg_g σ 48 (t + i)) ∧ (∀ s, ¬ (fs ≤ s ∧ s < fs + j) → sg_g σ2 46 s = sg_g σ 46 s), fun σ2 => (∀ i : Nat, (i : Int) < p → sg_g σ2 46 (fs + i) = sg_g σ 48 (t + i)) ∧ (∀ s, ¬ (fs ≤ s ∧ s < fs + p) → sg_g σ2 46 s = sg_g σ 46 s), ⟨_, 0, rfl, by omega, rfl, fun i hi => by omega, fun s _ => rfl⟩, ?_, ?_⟩
  · rintro m v σ2 rv f2 ⟨j, rfl, hj, hm', q1, q2⟩
    refine ⟨fun z => ⟨fun i hi => q1 i (by omega), fun s hs => q2 s (by omega)⟩, fun z => ⟨fun y => ⟨fun i hi => q1 i (by omega), fun s hs => q2 s (by omega)⟩, fun y => ⟨⟨by omega, by omega⟩, ⟨by omega, by omega⟩, ⟨by omega, by omega⟩, fun σ31 e31 => ?_⟩⟩⟩
    rw [xa_in ⟨by omega, by omega⟩, xp_in ⟨by omega, by omega⟩] at e31
    refine ⟨⟨by omega, by omega⟩, 6 - (j + 1), by omega, j + 1, by omega, by omega, rfl, fun i hi => ?_, fun s hs => ?_⟩
    · rw [e31]
      by_cases e : i = j
      · subst e; rw [sg_gw_e _ _ _ _ (sg_Rg _ _ _)]
      · rw [sg_gw_k _ _ _ _ _ _ (by omega)]; exact q1 i (by omega)
    · rw [e31, sg_gw_k _ _ _ _ _ _ (by omega)]; exact q2 s (by omega)
  · rintro σ2 f2 ⟨q1, q2⟩
    refine ⟨⟨by omega, by omega⟩, fun σ17 e17 σ20 e20 σ23 e23 => ?_⟩
    rw [xp_in ⟨by omega, by omega⟩] at e20
    have f17 : sg_F [8045] σ2 σ17 := by rw [e17]; exact sg_F_w (sg_F_r _ _) rfl _
    have f20 : sg_F [47] σ17 σ20 := by rw [e20]; exact sg_F_w (sg_F_r _ _) rfl _
    have f23 : sg_F [9045] σ20 σ23 := by rw [e23]; exact sg_F_w (sg_F_r _ _) rfl _
    have rE : sg_R E := by rw [← hE]; exact sg_Rg _ _ _
    have rp : sg_R pc := by rw [← hpc]; exact sg_Rg _ _ _
    refine k σ23 (sg_F_t (sg_F_t (sg_F_t (sg_F_m f2 rfl) (sg_F_m f17 rfl)) (sg_F_m f20 rfl)) (sg_F_m f23 rfl)) ?_ ?_ ?_ (fun i hi => ?_) (fun i hi => ?_) (fun s hs => ?_)
    · rw [sg_F_g f23 (by rfl), sg_F_g f20 (by rfl), e17, sg_gw_e _ _ _ _ ⟨by omega, by omega⟩]
    · rw [e23, sg_gw_e _ _ _ _ rE]
    · rw [sg_F_ga f23 rfl, e20, sg_gw_e _ _ _ _ rp]
    · rw [sg_F_ga f23 rfl, e20, sg_gw_k _ _ _ _ _ _ hi, sg_F_ga f17 rfl, sg_F_ga f2 rfl]
    · rw [sg_F_ga f23 rfl, sg_F_ga f20 rfl, sg_F_ga f17 rfl]; exact q1 i hi
    · rw [sg_F_ga f23 rfl, sg_F_ga f20 rfl, sg_F_ga f17 rfl]; exact q2 s hs
end NCL
section NCM
variable (σ : sg_S) (A : aT) (D : List aDf) (vb : Int → Prop) (X : sg_S → Prop) (call : Int → eV → Int → eR)
/-- a call of DEF q, once it is entered -/
def cLn (q : Int) : Prop := ∀ (σ8 : sg_S) (m : Nat) (ρ : eV) (t w s c cr r : Int), nP σ σ8 t w s c (sg_g σ 31 q) → sg_g σ8 47 q = r → (∀ j : Nat, (j : Int) < sg_g σ 23 q → rlC σ A D σ8 ρ (1100 + 6 * q + j)) → 8 * (3001 - w) + cr ≤ (m : Int) → 0 ≤ cr → kN σ A D vb X σ8 ρ t s c r (cr - 1) (nxq σ q) q [] (sg_g σ 6 (sg_g σ 22 q)).toNat (call q ρ w) → Rn σ X m σ8
/-- the DEFS before -/
def dDn (nl dix : Int) : Prop := ∀ q, 0 ≤ q → q < dix → q < 12 ∧ cLn σ A D vb X call q ∧ nxq σ q ≤ nl ∧ (0 ≤ sg_g σ 23 q ∧ sg_g σ 23 q ≤ 6) ∧ (0 ≤ sg_g σ 24 q ∧ sg_g σ 24 q + sg_g σ 23 q ≤ 272) ∧ ∃ y, D[q.toNat]? = some y ∧ (y.2.2.1.length : Int) = sg_g σ 23 q ∧ y.2.2.2 = sg_g σ 22 q
end NCM
section NCN
variable {σ : sg_S} {A : aT} {D : List aDf} {vb : Int → Prop} {X : sg_S → Prop} {B : Int → Int} {call : Int → eV → Int → eR} {ds : kD} {nl dix : Int} {f : Nat}
/-- what is bound at once, from binder b on -/
theorem rl_us {σ8 σ1 : sg_S} {ρ : eV} {b fs : Int} {vs : List vaF} (hSl : slA σ vb) (hv : ∀ j : Nat, j < vs.length → vb (b + j) ∧ slF σ (b + j) = fs + j) (ex : cEx σ8 σ1) (hi : ∀ (j : Nat) (v : vaF), vs[j]? = some v → cvF σ1 (bTy A D (sg_g σ 6) (b + j)).toNat v (sg_g σ1 46 (fs + j))) (ho : ∀ x, ¬ (fs ≤ x ∧ x < fs + vs.length) → sg_g σ1 46 x = sg_g σ8 46 x) : (∀ j : Nat, j < vs.length → rlC σ A D σ1 (eUs ρ b 0 vs) (b + j)) ∧ ∀ x, vb x → rlC σ A D σ8 ρ x → rlC σ A D σ1 (eUs ρ b 0 vs) x := by
  have h1 : ∀ j : Nat, j < vs.length → rlC σ A D σ1 (eUs ρ b 0 vs) (b + j) := fun j hj => by
    obtain ⟨v, hv'⟩ := gE_x hj
    have := eUs_at (b := b) (ρ := ρ) (i := 0) hv'
    simp only [Int.ofNat_zero, Int.cast_ofNat_Int, Int.add_zero] at this
    unfold rlC
    rw [this, (hv j hj).2]
    exact hi j v hv'
  refine ⟨h1, fun x hx hr => ?_⟩
  by_cases c : b ≤ x ∧ x < b + vs.length
  · have := h1 (x - b).toNat (by omega)
    rw [show b + (((x - b).toNat : Nat) : Int) = x by omega] at this
    exact this
  · have e : eUs ρ b 0 vs x = ρ x := eUs_no (ρ := ρ) (i := 0) (by simp only [Int.ofNat_zero, Int.cast_ofNat_Int, Int.add_zero]; omega)
    unfold rlC
    rw [e, ho _ (fun z => ?_)]
    · exact cvF_up ex hr
    · have hj : (slF σ x - fs).toNat < vs.length := by omega
      obtain ⟨q1, q2⟩ := hv _ hj
      have := hSl.2 x _ hx q1 (by rw [q2]; omega)
      omega
theorem nN_call (hD : dDn σ A D vb X call nl dix) (hW : ckW σ A) (hSl : slA σ vb) (hVb : ∀ b, vbF A D b → vb b) (F : nN σ A D vb X B call ds nl dix f) {n : Int} {L1 : List Int} {sc : List (Int × Int)} {p : Int} (hk : A.2.1 n = 13) (hf : fT A (A.2.2.2.2.1 n) L1) (hN : L1.Nodup) (hL : ∀ x ∈ n :: L1, nl ≤ x ∧ lyQ σ A D B dix x) (hty : tyN A ds (sg_g σ 6) B (f + 1) sc n) (hp : pl σ p (cd A (f + 1) n)) (hj : jpN σ A (f + 1) n p) {σ8 : sg_S} {m : Nat} {ρ : eV} {t w s c cr : Int} (h8 : nP σ σ8 t w s c p) (hS : scP σ A D vb σ8 ρ sc) (hm : 8 * (3001 - w) + cr ≤ (m : Int)) (hcr : 0 ≤ cr) (k : kN σ A D vb X σ8 ρ t s c (p + (cd A (f + 1) n).length) cr nl dix (n :: L1) (sg_g σ 6 n).toNat (evN A (sg_g σ 6) B call (f + 1) n ρ w)) : Rn σ X m σ8 := by
  obtain ⟨t1, t2, t3, t4, t5, t6, t7, t8, t9⟩ := hty
  obtain ⟨c1, c2⟩ := ck3 hW t2
  have n2 : ¬ A.2.1 n = 2 := by omega
  have n3 : ¬ A.2.1 n = 3 := by omega
  have n15 : ¬ A.2.1 n = 15 := by omega
  have ho : kOrd A n = A.2.2.2.2.1 n := by unfold kOrd; rw [if_neg n15]
  obtain ⟨l1, l2, l3, y, ly1, ly2, ly3⟩ := (hL n (by simp)).2.2.2 hk
  obtain ⟨d1, d2, d3, d4, d5, y', dy1, dy2, dy3⟩ := hD (B n) l2.1 l2.2
  rw [ly1] at dy1
  have ey := Option.some.inj dy1
  subst ey
  have hcn : cnc A n = [(5, n)] := by unfold cnc; rw [if_neg n2, if_neg n3, if_pos hk]
  simp only [cd] at hp k
  rw [ho, hcn] at hp k
  have hj1 := hj.1
  rw [ho] at hj1
  have p0 := pl_c hp
  obtain ⟨p1, p2⟩ := pl_a p0.2.2.2
  obtain ⟨a1, a2, a3, a8, a9, a10, a11, a12⟩ := id h8
  rw [eN_13 hk] at k
  refine zn_begin h8 (by omega) hp (fun z σ' f' e' w' => ?_) (fun z σ1 m1 h1 f1 hm1 => ?_)
  · rw [if_neg z] at k; exact k σ' f' e' (by decide) w'
  rw [if_pos z] at k
  have u1 : nU σ A D vb σ8 σ1 ρ ρ t nl dix (n :: L1) := nU_F f1 rfl
  refine nRow F (A.2.2.2.2.1 n) L1 0 (p + 1) hf hN (fun x hx => hL x (by simp [hx])) (t9 n2 n15) (fun j _ _ => (kQ_o n2 n3 n15).1) p1 hj1 σ1 m1 ρ t (w + 1) (s + 1) (c + 1) (cr + 7) h1 (scP_u hS u1) (by omega) (by omega) ?_
  generalize eS (evN A (sg_g σ 6) B call f) (A.2.2.2.2.1 n) ρ (w + 1) = r at k
  match r, k with
  | .inl (e, w'), k => exact fun σ' q1 q2 q3 q4 => k σ' q1 q2 q3 q4
  | .inr (vs, w1', s1, ρ1), k =>
    intro σ2 m2 lv h2 u2 v2 hm2
    simp only at k
    have u12 : nU σ A D vb σ8 σ2 ρ ρ1 t nl dix (n :: L1) := nU_t u1 u2 ⟨Int.le_refl _, Int.le_refl _⟩ (fun x hx => hx) (fun x hx => by simp [hx])
    have w29 := h2.2.2.2.2.1
    obtain ⟨m2, rfl⟩ : ∃ m', m2 = m' + 1 := ⟨m2 - 1, by omega⟩
    obtain ⟨q0, q1, q2, q3⟩ := pl_c p2
    refine rn_5 (p := p + 1 + (cdS A (cd A f) n 0 (A.2.2.2.2.1 n)).length) (k := n) h2.2.2.1.2.2.2 q0 h2.2.1.1 q1 q2 (fun σ32 e32 => ?_)
    obtain ⟨h32, f32⟩ := nP_32 h2 ⟨q0.2, q0.1⟩ e32
    obtain ⟨b1, ⟨b2, b3⟩, ⟨b4, b5, b6, b7⟩, b8, b9, b10, b11, b12⟩ := id h32
    rw [xa_in (a := 16) ⟨t2.1, c2⟩, l1]
    rw [l3] at b4 b8
    refine n_enter (q := B n) (p := sg_g σ 23 (B n)) (fs := sg_g σ 24 (B n)) (t := t) (pc := p + 1 + (cdS A (cd A f) n 0 (A.2.2.2.2.1 n)).length + 1) (E := sg_g σ 31 (B n)) ⟨l2.1, d1⟩ (sg_F_ga b1 rfl) d4 (sg_F_ga b1 rfl) d5 b4 ⟨a8.1, by omega⟩ b7 (sg_F_ga b1 rfl) (fun σ3 f3 z1 z2 z3 z4 z5 z6 _ => ?_)
    have F3 : sg_F [46, 47, 8045, 9045] σ2 σ3 := sg_F_t (sg_F_m f32 rfl) (sg_F_m f3 rfl)
    have ex : cEx σ2 σ3 := cEx_F F3 rfl
    have vl : (vs.length : Int) = sg_g σ 23 (B n) := by omega
    have pv : ∀ j : Nat, j < vs.length → vb (1100 + 6 * B n + j) ∧ slF σ (1100 + 6 * B n + j) = sg_g σ 24 (B n) + j := fun j hj => by
      refine ⟨hVb _ (Or.inr (Or.inr ⟨(B n).toNat, j, y, ly1, by omega, by omega⟩)), sl_par l2.1 (by omega)⟩
    have bt : ∀ (j : Nat) (x : Int), (A.2.2.2.2.1 n)[j]? = some x → bTy A D (sg_g σ 6) (1100 + 6 * B n + j) = sg_g σ 6 x := fun j x hx => by
      have hj := gE_l hx
      rw [bTw_p l2.1 (by omega), List.getD_eq_getElem?_getD (l := D), ly1, Option.getD_some, ← ly2, List.getD_eq_getElem?_getD, List.getElem?_map, hx]
      rfl
    obtain ⟨r1, r2⟩ := rl_us (A := A) (D := D) (ρ := ρ1) (b := 1100 + 6 * B n) (fs := sg_g σ 24 (B n)) (vs := vs) hSl pv ex (fun j v hv => by
      have hj := gE_l hv
      obtain ⟨x, hx⟩ := gE_x (l := A.2.2.2.2.1 n) (i := j) (by omega)
      rw [bt j x hx, z5 j (by omega), sg_F_ga f32 rfl]
      exact cvF_up ex (v2 j x v hx hv)) (fun x hx => by rw [z6 x (by rw [← vl]; exact hx), sg_F_ga f32 rfl])
    have u23 : nU σ A D vb σ2 σ3 ρ1 (eUs ρ1 (1100 + 6 * B n) 0 vs) t nl dix [] := ⟨ex, fun i _ => sg_F_ga F3 rfl, r2, fun x _ _ => ⟨sg_F_ga F3 rfl, sg_F_ga F3 rfl, sg_F_ga F3 rfl, sg_F_ga F3 rfl, sg_F_ga F3 rfl⟩, fun q hq => by rw [z4 q (by omega), sg_F_ga f32 rfl]⟩
    have u13 : nU σ A D vb σ8 σ3 ρ (eUs ρ1 (1100 + 6 * B n) 0 vs) t nl dix (n :: L1) := nU_t u12 u23 ⟨Int.le_refl _, Int.le_refl _⟩ (fun _ hx => hx) (by simp)
    refine d2 σ3 m2 (eUs ρ1 (1100 + 6 * B n) 0 vs) t w1' (s + 1 + s1) (c + 1) (cr + 6) _ ⟨sg_F_t b1 (sg_F_m f3 rfl), ⟨by rw [sg_F_g f3 (by rfl)]; exact b2, by rw [sg_F_g f3 (by rfl)]; exact b3⟩, ⟨z1, by rw [sg_F_g f3 (by rfl)]; exact b5, by rw [sg_F_g f3 (by rfl)]; exact b6, z2⟩, ⟨a8.1, by omega⟩, b9, b10, by rw [sg_F_g f3 (by rfl)]; exact b11, b12⟩ z3 (fun j hj => r1 j (by omega)) (by omega) (by omega) ?_
    generalize call (B n) (eUs ρ1 (1100 + 6 * B n) 0 vs) w1' = r2' at k
    match r2', k with
    | .inl (e, w'), k => exact fun σ' q1 q2 q3 q4 => k σ' q1 q2 q3 q4
    | .inr (v3, w2', s2, ρ2), k =>
      intro σ4 m4 h4 u4 v4 hm4
      simp only at k
      refine k σ4 m4 ?_ (nU_t u13 (nU_w (L := []) u4 ⟨d3, by omega⟩ (Int.le_refl _) (by simp)) ⟨Int.le_refl _, Int.le_refl _⟩ (fun _ hx => hx) (by simp)) (by rw [ly3, dy3]; exact v4) (by omega)
      simp only [List.length_cons, List.length_append, List.length_nil]
      rw [show p + (((cdS A (cd A f) n 0 (A.2.2.2.2.1 n)).length + (0 + 1) + 1 : Nat) : Int) = p + 1 + (cdS A (cd A f) n 0 (A.2.2.2.2.1 n)).length + 1 by omega, show s + (1 + s1 + s2) = s + 1 + s1 + s2 by omega]
      exact nP_m h4 ⟨a12, by omega⟩
end NCN
/-! Work only grows, and a span is no more than the work. -/
def gB (go : Int → eV → Int → eR) : Prop := ∀ (x : Int) (ρ : eV) (w : Int) (v : vaF) (w' s' : Int) (ρ' : eV), w ≤ 3000 → go x ρ w = .inr (v, w', s', ρ') → w ≤ w' ∧ w' ≤ 3000 ∧ 0 ≤ s' ∧ s' ≤ w' - w
theorem eS_b {go : Int → eV → Int → eR} (hg : gB go) : ∀ (R : List Int) (ρ : eV) (w : Int) (vs : List vaF) (w' s' : Int) (ρ' : eV), w ≤ 3000 → eS go R ρ w = .inr (vs, w', s', ρ') → (w ≤ w' ∧ w' ≤ 3000 ∧ 0 ≤ s' ∧ s' ≤ w' - w) ∧ vs.length = R.length
  | [], ρ, w, vs, w', s', ρ', hw, h => by
    simp only [eS, Sum.inr.injEq, Prod.mk.injEq] at h
    obtain ⟨rfl, rfl, rfl, rfl⟩ := h
    exact ⟨⟨by omega, hw, by omega, by omega⟩, rfl⟩
  | x :: R, ρ, w, vs, w', s', ρ', hw, h => by
    simp only [eS] at h
    split at h
    · cases h
    · rename_i v w1 s1 ρ1 e1
      split at h
      · cases h
      · rename_i vs2 w2 s2 ρ2 e2
        simp only [Sum.inr.injEq, Prod.mk.injEq] at h
        obtain ⟨rfl, rfl, rfl, rfl⟩ := h
        have a := hg x ρ w v w1 s1 ρ1 hw e1
        have b := eS_b hg R ρ1 w1 vs2 w2 s2 ρ2 a.2.1 e2
        exact ⟨⟨by omega, by omega, by omega, by omega⟩, by simp only [List.length_cons]; omega⟩
theorem evT_b {go : Int → eV → Int → eR} (hg : gB go) {gd : List Int} {bd : Int} {ρ : eV} {w : Int} {vs : List vaF} {w' s' : Int} {ρ' : eV} (hw : w ≤ 3000) (h : evT go gd bd ρ w = .inr (vs, w', s', ρ')) : (w ≤ w' ∧ w' ≤ 3000 ∧ 0 ≤ s' ∧ s' ≤ w' - w) ∧ vs.length ≤ 1 := by
  unfold evT at h
  split at h
  · split at h
    · cases h
    · rename_i v w1 s1 ρ1 e1
      simp only [Sum.inr.injEq, Prod.mk.injEq] at h
      obtain ⟨rfl, rfl, rfl, rfl⟩ := h
      exact ⟨hg _ _ _ _ _ _ _ hw e1, by simp⟩
  · split at h
    · cases h
    · rename_i v w1 s1 ρ1 e1
      have a := hg _ _ _ _ _ _ _ hw e1
      split at h
      · simp only [Sum.inr.injEq, Prod.mk.injEq] at h
        obtain ⟨rfl, rfl, rfl, rfl⟩ := h
        exact ⟨a, by simp⟩
      · split at h
        · cases h
        · rename_i v2 w2 s2 ρ2 e2
          simp only [Sum.inr.injEq, Prod.mk.injEq] at h
          obtain ⟨rfl, rfl, rfl, rfl⟩ := h
          have b := hg _ _ _ _ _ _ _ a.2.1 e2
          exact ⟨⟨by omega, by omega, by omega, by omega⟩, by simp⟩
theorem eP_b {one : Nat → eV → Int → eRs} (ho : ∀ i ρ w vs w' s' ρ', w ≤ 3000 → one i ρ w = .inr (vs, w', s', ρ') → w ≤ w' ∧ w' ≤ 3000 ∧ 0 ≤ s' ∧ s' ≤ w' - w) : ∀ (k i : Nat) (ρ : eV) (w bs : Int) (acc vs : List vaF) (w' bs' : Int) (ρ' : eV), w ≤ 3000 → 0 ≤ bs → eP one k i ρ w bs acc = .inr (vs, w', bs', ρ') → w ≤ w' ∧ w' ≤ 3000 ∧ 0 ≤ bs' ∧ (bs' ≤ bs ∨ bs' ≤ w' - w)
  | 0, i, ρ, w, bs, acc, vs, w', bs', ρ', hw, hb, h => by
    simp only [eP, Sum.inr.injEq, Prod.mk.injEq] at h
    obtain ⟨rfl, rfl, rfl, rfl⟩ := h
    exact ⟨by omega, hw, hb, by omega⟩
  | k + 1, i, ρ, w, bs, acc, vs, w', bs', ρ', hw, hb, h => by
    simp only [eP] at h
    split at h
    · cases h
    · rename_i vs1 w1 s1 ρ1 e1
      have a := ho _ _ _ _ _ _ _ hw e1
      have b := eP_b ho k (i + 1) ρ1 w1 (if bs < s1 then s1 else bs) (acc ++ vs1) vs w' bs' ρ' a.2.1 (by split <;> omega) h
      refine ⟨by omega, b.2.1, b.2.2.1, ?_⟩
      rcases b.2.2.2 with z | z
      · split at z <;> omega
      · omega
/-- what an operation may come to -/
def eOG (k ty : Int) (r : Int ⊕ (vaF × Int)) : Prop := (∃ e, r = .inl e ∧ ¬ e = 0) ∨ ∃ v c, r = .inr (v, c) ∧ 0 ≤ c ∧ (16 ≤ k → ¬ (k = 18 ∨ k = 19 ∨ k = 20) → 1 ≤ ty → (k = 16 ∨ k = 21 → ty = 1) → c = cnvF ty.toNat v)
theorem eOG_l {k ty : Int} {e : Int} (h : ¬ e = 0) : eOG k ty (.inl e) := Or.inl ⟨e, rfl, h⟩
theorem eOG_s {k ty : Int} {v : vaF} {c : Int} (h : 0 ≤ c) (hk : k < 16 ∨ k = 18 ∨ k = 19 ∨ k = 20) : eOG k ty (.inr (v, c)) := Or.inr ⟨v, c, rfl, h, fun a b => by omega⟩
theorem eOG_m {k ty : Int} (l : List vaF) (hk : ¬ (k = 16 ∨ k = 21)) : eOG k ty (.inr (mkF l, cnL (ty - 1).toNat l)) := Or.inr ⟨_, _, rfl, Int.le_trans (Int.natCast_nonneg _) (cnL_l _ l), fun _ _ h1 _ => by rw [show ty.toNat = (ty - 1).toNat + 1 by omega, cnF_mk]⟩
theorem eOG_1 {k ty : Int} (l : List vaF) (hk : k = 16 ∨ k = 21) : eOG k ty (.inr (mkF l, cnL 0 l)) := Or.inr ⟨_, _, rfl, Int.le_trans (Int.natCast_nonneg _) (cnL_l _ l), fun _ _ _ h2 => by rw [h2 hk, show (1 : Int).toNat = 0 + 1 by rfl, cnF_mk]⟩
theorem eO_g (k ty x : Int) (vs : List vaF) : eOG k ty (eO k ty x vs) := by
  unfold eO
  simp only
  by_cases c0 : k = 0
  · rw [if_pos c0]; exact eOG_s (by omega) (by omega)
  rw [if_neg c0]
  by_cases c1 : k < 11
  · rw [if_pos c1]
    by_cases d : (k = 9 ∨ k = 10) ∧ vs.getD 1 (nmF 0) [] = 0
    · rw [if_pos d]; exact eOG_l (by decide)
    · rw [if_neg d]; exact eOG_s (by omega) (by omega)
  rw [if_neg c1]
  by_cases c2 : k = 11
  · rw [if_pos c2]; exact eOG_s (by omega) (by omega)
  rw [if_neg c2]
  by_cases c3 : k = 12
  · rw [if_pos c3]
    by_cases d : 0 ≤ vs.getD 1 (nmF 0) [] ∧ vs.getD 1 (nmF 0) [] < (itF (vs.getD 0 (nmF 0))).length
    · rw [if_pos d]; exact eOG_s (by omega) (by omega)
    · rw [if_neg d]; exact eOG_l (by decide)
  rw [if_neg c3]
  by_cases c4 : k = 14
  · rw [if_pos c4]; exact eOG_s (Int.le_trans (Int.natCast_nonneg _) (cnL_l _ vs)) (by omega)
  rw [if_neg c4]
  by_cases c5 : k = 16
  · rw [if_pos c5]
    by_cases d : 0 ≤ vs.getD 0 (nmF 0) [] ∧ vs.getD 0 (nmF 0) [] ≤ 200
    · rw [if_pos d]; exact eOG_1 _ (by omega)
    · rw [if_neg d]; exact eOG_l (by decide)
  rw [if_neg c5]
  by_cases c6 : k = 17
  · rw [if_pos c6]
    by_cases d : 0 ≤ vs.getD 1 (nmF 0) [] ∧ vs.getD 1 (nmF 0) [] ≤ 200
    · rw [if_pos d]; exact eOG_m _ (by omega)
    · rw [if_neg d]; exact eOG_l (by decide)
  rw [if_neg c6]
  by_cases c7 : k = 18
  · rw [if_pos c7]; exact eOG_s (by omega) (by omega)
  rw [if_neg c7]
  by_cases c8 : k = 19 ∨ k = 20
  · rw [if_pos c8]
    cases nuF (vs.getD 0 (nmF 0)) with
    | nil => exact eOG_l (by decide)
    | cons y r => exact eOG_s (by omega) (by omega)
  rw [if_neg c8]
  by_cases c9 : k = 21
  · rw [if_pos c9]; exact eOG_1 _ (by omega)
  rw [if_neg c9]
  by_cases c10 : k = 22
  · rw [if_pos c10]; exact eOG_m _ (by omega)
  rw [if_neg c10]
  by_cases c11 : k = 23
  · rw [if_pos c11]
    by_cases d : (itF (vs.getD 0 (nmF 0))).length + (itF (vs.getD 1 (nmF 0))).length ≤ 200
    · rw [if_pos d]; exact eOG_m _ (by omega)
    · rw [if_neg d]; exact eOG_l (by decide)
  rw [if_neg c11]
  by_cases c12 : k = 24
  · rw [if_pos c12]
    by_cases d : sumF ((itF (vs.getD 0 (nmF 0))).map (fun v => ((itF v).length : Int))) ≤ 200
    · rw [if_pos d]; exact eOG_m _ (by omega)
    · rw [if_neg d]; exact eOG_l (by decide)
  rw [if_neg c12]
  by_cases c13 : k = 25
  · rw [if_pos c13]
    by_cases d : (itF (vs.getD 0 (nmF 0))).length = (itF (vs.getD 1 (nmF 0))).length
    · rw [if_pos d]; exact eOG_m _ (by omega)
    · rw [if_neg d]; exact eOG_l (by decide)
  rw [if_neg c13]
  by_cases c14 : k = 26
  · rw [if_pos c14]
    by_cases d : (itF (vs.getD 0 (nmF 0))).length = (itF (vs.getD 1 (nmF 0))).length
    · rw [if_pos d]
      cases ivF (itF (vs.getD 1 (nmF 0))).length 0 (nuF (vs.getD 1 (nmF 0))) (fun _ => -1) with
      | none => exact eOG_l (by decide)
      | some g => exact eOG_m _ (by omega)
    · rw [if_neg d]; exact eOG_l (by decide)
  rw [if_neg c14]
  by_cases d : (nuF (vs.getD 1 (nmF 0))).any (fun x => decide (x < 0)) = true
  · rw [if_pos d]; exact eOG_l (by decide)
  rw [if_neg d]
  by_cases d2 : sumF (nuF (vs.getD 1 (nmF 0))) = (itF (vs.getD 0 (nmF 0))).length
  · rw [if_pos d2]; exact eOG_m _ (by omega)
  · rw [if_neg d2]; exact eOG_l (by decide)
theorem eO_c {k ty x : Int} {vs : List vaF} {v : vaF} {c : Int} (h : eO k ty x vs = .inr (v, c)) : 0 ≤ c := by
  have g := eO_g k ty x vs
  rw [h] at g
  rcases g with ⟨e, e1, -⟩ | ⟨v', c', e1, e2, -⟩
  · cases e1
  · cases e1; exact e2
theorem ePay_b {r : Int ⊕ (vaF × Int)} {w s : Int} {ρ : eV} {v : vaF} {w' s' : Int} {ρ' : eV} (hr : ∀ v c, r = .inr (v, c) → 0 ≤ c) (h : ePay r w s ρ = .inr (v, w', s', ρ')) : w ≤ w' ∧ w' ≤ 3000 ∧ s' = s := by
  unfold ePay at h
  split at h
  · cases h
  · rename_i v1 c
    have := hr v1 c rfl
    split at h
    · simp only [Sum.inr.injEq, Prod.mk.injEq] at h
      obtain ⟨-, rfl, rfl, -⟩ := h
      exact ⟨by omega, by assumption, rfl⟩
    · cases h
theorem eN_b {A : aT} {T B : Int → Int} {call : Int → eV → Int → eR} (hc : gB call) : ∀ f, gB (evN A T B call f)
  | 0 => fun x ρ w v w' s' ρ' hw h => by simp only [evN] at h; cases h
  | f + 1 => fun n ρ w v w' s' ρ' hw h => by
    have ih := eN_b (A := A) (T := T) (B := B) hc f
    simp only [evN] at h
    split at h
    rotate_left
    · cases h
    rename_i hw1
    split at h
    · simp only [Sum.inr.injEq, Prod.mk.injEq] at h
      obtain ⟨-, rfl, rfl, -⟩ := h
      exact ⟨by omega, hw1, by omega, by omega⟩
    split at h
    · split at h
      · cases h
      · rename_i v1 w1 s1 ρ1 e1
        have a := ih _ _ _ _ _ _ _ hw1 e1
        split at h
        · cases h
        · rename_i v2 w2 s2 ρ2 e2
          have b := ih _ _ _ _ _ _ _ a.2.1 e2
          simp only [Sum.inr.injEq, Prod.mk.injEq] at h
          obtain ⟨-, rfl, rfl, -⟩ := h
          exact ⟨by omega, by omega, by omega, by omega⟩
    split at h
    · split at h
      · cases h
      · rename_i v1 w1 s1 ρ1 e1
        have a := ih _ _ _ _ _ _ _ hw1 e1
        split at h
        · cases h
        · rename_i v2 w2 s2 ρ2 e2
          have b := ih _ _ _ _ _ _ _ a.2.1 e2
          simp only [Sum.inr.injEq, Prod.mk.injEq] at h
          obtain ⟨-, rfl, rfl, -⟩ := h
          exact ⟨by omega, by omega, by omega, by omega⟩
    split at h
    · split at h
      · cases h
      · rename_i v1 w1 s1 ρ1 e1
        have a := (eS_b ih _ _ _ _ _ _ _ hw1 e1).1
        split at h
        · cases h
        · rename_i v2 w2 s2 ρ2 e2
          have b := hc _ _ _ _ _ _ _ a.2.1 e2
          simp only [Sum.inr.injEq, Prod.mk.injEq] at h
          obtain ⟨-, rfl, rfl, -⟩ := h
          exact ⟨by omega, by omega, by omega, by omega⟩
    split at h
    · split at h
      · cases h
      · rename_i vs1 w1 s1 ρ1 e1
        have a := (eS_b ih _ _ _ _ _ _ _ hw1 e1).1
        split at h
        · cases h
        split at h
        · cases h
        · rename_i acc w2 bs ρ2 e2
          have b := eP_b (fun i ρ w vs w' s' ρ' hw h => (evT_b ih hw h).1) _ _ _ _ _ _ _ _ _ _ a.2.1 (Int.le_refl _) e2
          have p := ePay_b (fun v c e => by
            simp only [Sum.inr.injEq, Prod.mk.injEq] at e
            obtain ⟨-, rfl⟩ := e
            exact Int.le_trans (Int.natCast_nonneg _) (cnL_l _ _)) h
          refine ⟨by omega, p.2.1, by omega, ?_⟩
          rcases b.2.2.2 with z | z <;> omega
    · split at h
      · cases h
      · rename_i vs1 w1 s1 ρ1 e1
        have a := (eS_b ih _ _ _ _ _ _ _ hw1 e1).1
        have p := ePay_b (fun v c e => eO_c e) h
        exact ⟨by omega, p.2.1, by omega, by omega⟩
theorem eC_b (A : aT) (D : List aDf) (T B : Int → Int) : ∀ k, gB (eC A D T B k)
  | 0 => fun x ρ w v w' s' ρ' hw h => by simp only [eC] at h; cases h
  | k + 1 => fun x ρ w v w' s' ρ' hw h => by
    simp only [eC] at h
    split at h
    · exact eN_b (eC_b A D T B k) _ _ _ _ _ _ _ _ hw h
    · exact eC_b A D T B k _ _ _ _ _ _ _ hw h
