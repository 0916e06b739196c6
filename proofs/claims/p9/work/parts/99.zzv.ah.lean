/-! THE NESTED RUN in big steps: parts one after another, operations. -/
section ENE
variable {A : aT} {T B : Int → Int} {call : Int → eV → Int → eR} {f : Nat} {n w : Int} {ρ : eV}
theorem eN_1 (h : A.2.1 n = 1) : evN A T B call (f + 1) n ρ w = if w + 1 ≤ 3000 then .inr (ρ (B n), w + 1, 1, ρ) else .inl (7, w) := by
  simp only [evN]; rw [if_pos h]
theorem eN_2 (h : A.2.1 n = 2) : evN A T B call (f + 1) n ρ w = if w + 1 ≤ 3000 then (match evN A T B call f ((A.2.2.2.2.1 n).getD 0 0) ρ (w + 1) with
        | .inl e => .inl e
        | .inr (v, w1, s1, ρ1) => match evN A T B call f ((A.2.2.2.2.1 n).getD 1 0) (eUp ρ1 n v) w1 with
          | .inl e => .inl e
          | .inr (v2, w2, s2, ρ2) => .inr (v2, w2, 1 + s1 + s2, ρ2)) else .inl (7, w) := by
  simp only [evN]; rw [if_neg (show ¬ A.2.1 n = 1 by omega), if_pos h]
  rfl
theorem eN_3 (h : A.2.1 n = 3) : evN A T B call (f + 1) n ρ w = if w + 1 ≤ 3000 then (match evN A T B call f ((A.2.2.2.2.1 n).getD 0 0) ρ (w + 1) with
        | .inl e => .inl e
        | .inr (v, w1, s1, ρ1) => match evN A T B call f ((A.2.2.2.2.1 n).getD (if v [] = 0 then 2 else 1) 0) ρ1 w1 with
          | .inl e => .inl e
          | .inr (v2, w2, s2, ρ2) => .inr (v2, w2, 1 + s1 + s2, ρ2)) else .inl (7, w) := by
  simp only [evN]; rw [if_neg (show ¬ A.2.1 n = 1 by omega), if_neg (show ¬ A.2.1 n = 2 by omega), if_pos h]
  rfl
theorem eN_13 (h : A.2.1 n = 13) : evN A T B call (f + 1) n ρ w = if w + 1 ≤ 3000 then (match eS (evN A T B call f) (A.2.2.2.2.1 n) ρ (w + 1) with
        | .inl e => .inl e
        | .inr (vs, w1, s1, ρ1) => match call (B n) (eUs ρ1 (1100 + 6 * B n) 0 vs) w1 with
          | .inl e => .inl e
          | .inr (v2, w2, s2, ρ2) => .inr (v2, w2, 1 + s1 + s2, ρ2)) else .inl (7, w) := by
  simp only [evN]; rw [if_neg (show ¬ A.2.1 n = 1 by omega), if_neg (show ¬ A.2.1 n = 2 by omega), if_neg (show ¬ A.2.1 n = 3 by omega), if_pos h]
  rfl
theorem eN_15 (h : A.2.1 n = 15) : evN A T B call (f + 1) n ρ w = if w + 1 ≤ 3000 then (match eS (evN A T B call f) (kGs A n) ρ (w + 1) with
        | .inl e => .inl e
        | .inr (vs, w1, s1, ρ1) =>
          if vs.any (fun v => decide ((itF v).length ≠ (itF (vs.getD 0 (nmF 0))).length)) = true then .inl (3, w1)
          else match eP (fun i ρ w => evT (evN A T B call f) ((A.2.2.2.2.1 n).drop (1 + (A.2.2.2.2.2 n).length)) ((A.2.2.2.2.1 n).getD 0 0) (eUs ρ (210 + 4 * n) 0 (vs.map (fun v => (itF v).getD i (nmF 0)))) w) (itF (vs.getD 0 (nmF 0))).length 0 ρ1 w1 0 [] with
            | .inl e => .inl e
            | .inr (acc, w2, bs, ρ2) => ePay (.inr (mkF acc, cnL (T n - 1).toNat acc)) w2 (1 + s1 + bs) ρ2) else .inl (7, w) := by
  simp only [evN]; rw [if_neg (show ¬ A.2.1 n = 1 by omega), if_neg (show ¬ A.2.1 n = 2 by omega), if_neg (show ¬ A.2.1 n = 3 by omega), if_neg (show ¬ A.2.1 n = 13 by omega), if_pos h]
  rfl
theorem eN_o (h1 : ¬ A.2.1 n = 1) (h2 : ¬ A.2.1 n = 2) (h3 : ¬ A.2.1 n = 3) (h13 : ¬ A.2.1 n = 13) (h15 : ¬ A.2.1 n = 15) : evN A T B call (f + 1) n ρ w = if w + 1 ≤ 3000 then (match eS (evN A T B call f) (A.2.2.2.2.1 n) ρ (w + 1) with
        | .inl e => .inl e
        | .inr (vs, w1, s1, ρ1) => ePay (eO (A.2.1 n) (T n) (sg_n (A.2.2.2.1 n)) vs) w1 (1 + s1) ρ1) else .inl (7, w) := by
  simp only [evN]; rw [if_neg h1, if_neg h2, if_neg h3, if_neg h13, if_neg h15]
  rfl
end ENE
/-- what is laid out for a node -/
def lyQ (σ : sg_S) (A : aT) (D : List aDf) (B : Int → Int) (dix x : Int) : Prop := (A.2.1 x = 0 → sg_g σ 5 x = sg_n (A.2.2.2.1 x)) ∧ (A.2.1 x = 1 → sg_g σ 16 x = slF σ (B x)) ∧ (A.2.1 x = 13 → sg_g σ 16 x = B x ∧ (0 ≤ B x ∧ B x < dix) ∧ ((A.2.2.2.2.1 x).length : Int) = sg_g σ 23 (B x) ∧ ∃ y, D[(B x).toNat]? = some y ∧ (A.2.2.2.2.1 x).map (sg_g σ 6) = y.2.2.1.map (·.2.2) ∧ sg_g σ 6 x = sg_g σ 6 y.2.2.2)
/-- where the orders jump to -/
def jpS (σ : sg_S) (A : aT) (f : Nat) (go : Int → Int → Prop) (n : Int) : Nat → Int → List Int → Prop
  | _, _, [] => True
  | s, p, x :: r => ((A.2.1 n = 3 → s = 2 → sg_g σ 32 n = p + 1) ∧ (A.2.1 n = 15 → s = (A.2.2.2.2.2 n).length → sg_g σ 32 n = p + 1)) ∧ go x (p + (ahd A n s).length) ∧ jpS σ A f go n (s + 1) (p + (ahd A n s).length + (cd A f x).length) r
def jpN (σ : sg_S) (A : aT) : Nat → Int → Int → Prop
  | 0, _, _ => True
  | f + 1, n, p => jpS σ A f (jpN σ A f) n 0 (p + 1) (kOrd A n) ∧ (A.2.1 n = 3 → sg_g σ 33 n = p + (cd A (f + 1) n).length) ∧ (A.2.1 n = 15 → sg_g σ 33 n + 1 = p + (cd A (f + 1) n).length)
section NBD
variable (σ : sg_S) (A : aT) (D : List aDf) (vb : Int → Prop) (X : sg_S → Prop)
/-- what a node is to be followed by -/
def kN (σ8 : sg_S) (ρ : eV) (t s c p cr nl dix : Int) (L : List Int) (d : Nat) : eR → Prop
  | .inl (e, w') => ∀ σ', sg_F nRL σ σ' → sg_g σ' 45 10 = e → ¬ e = 0 → sg_g σ' 45 22 = w' → X σ'
  | .inr (v, w', s', ρ') => ∀ σ' m', nP σ σ' (t + 1) w' (s + s') c p → nU σ A D vb σ8 σ' ρ ρ' t nl dix L → cvF σ' d v (sg_g σ' 48 t) → 8 * (3001 - w') + cr + 3 ≤ ((m' : Nat) : Int) → Rn σ X m' σ'
/-- what parts are to be followed by -/
def kRw (σ8 : sg_S) (ρ : eV) (t s c p cr nl dix : Int) (L R : List Int) : eRs → Prop
  | .inl (e, w') => ∀ σ', sg_F nRL σ σ' → sg_g σ' 45 10 = e → ¬ e = 0 → sg_g σ' 45 22 = w' → X σ'
  | .inr (vs, w', s', ρ') => ∀ σ' m', vs.length = R.length → nP σ σ' (t + R.length) w' (s + s') c p → nU σ A D vb σ8 σ' ρ ρ' t nl dix L → (∀ (i : Nat) (x : Int) (v : vaF), R[i]? = some x → vs[i]? = some v → cvF σ' (sg_g σ 6 x).toNat v (sg_g σ' 48 (t + i))) → 8 * (3001 - w') + cr ≤ ((m' : Nat) : Int) → Rn σ X m' σ'
/-- the big step of a node -/
def nN (B : Int → Int) (call : Int → eV → Int → eR) (ds : kD) (nl dix : Int) (f : Nat) : Prop := ∀ (n : Int) (L : List Int) (sc : List (Int × Int)) (p : Int), fT A [n] L → L.Nodup → (∀ x ∈ L, nl ≤ x ∧ lyQ σ A D B dix x) → tyN A ds (sg_g σ 6) B f sc n → pl σ p (cd A f n) → jpN σ A f n p → ∀ (σ8 : sg_S) (m : Nat) (ρ : eV) (t w s c cr : Int), nP σ σ8 t w s c p → scP σ A D vb σ8 ρ sc → 8 * (3001 - w) + cr ≤ (m : Int) → 0 ≤ cr → kN σ A D vb X σ8 ρ t s c (p + (cd A f n).length) cr nl dix L (sg_g σ 6 n).toNat (evN A (sg_g σ 6) B call f n ρ w) → Rn σ X m σ8
end NBD
section NBR
variable {σ : sg_S} {A : aT} {D : List aDf} {vb : Int → Prop} {X : sg_S → Prop} {B : Int → Int} {call : Int → eV → Int → eR} {ds : kD} {nl dix : Int} {f : Nat}
theorem jp_s {n0 : Int} {go : Int → Int → Prop} {s : Nat} {p x : Int} {R : List Int} (h : jpS σ A f go n0 s p (x :: R)) (hq : ahd A n0 s = []) : go x p ∧ jpS σ A f go n0 (s + 1) (p + (cd A f x).length) R := by
  simp only [jpS, hq, List.length_nil, Int.ofNat_zero, Int.cast_ofNat_Int, Int.add_zero] at h
  exact h.2
theorem nRow (F : nN σ A D vb X B call ds nl dix f) {n0 : Int} {sc : List (Int × Int)} : ∀ (R L : List Int) (s : Nat) (p : Int), fT A R L → L.Nodup → (∀ x ∈ L, nl ≤ x ∧ lyQ σ A D B dix x) → (∀ x ∈ R, tyN A ds (sg_g σ 6) B f sc x) → (∀ j, s ≤ j → j < s + R.length → ahd A n0 j = []) → pl σ p (cdS A (cd A f) n0 s R) → jpS σ A f (jpN σ A f) n0 s p R → ∀ (σ8 : sg_S) (m : Nat) (ρ : eV) (t w sp c cr : Int), nP σ σ8 t w sp c p → scP σ A D vb σ8 ρ sc → 8 * (3001 - w) + cr ≤ (m : Int) → 0 ≤ cr → kRw σ A D vb X σ8 ρ t sp c (p + (cdS A (cd A f) n0 s R).length) cr nl dix L R (eS (evN A (sg_g σ 6) B call f) R ρ w) → Rn σ X m σ8
  | [], L, s, p, hf, hN, hL, hty, hq, hp, hj, σ8, m, ρ, t, w, sp, c, cr, h8, hS, hm, hcr, k => by
    simp only [eS, kRw, cdS, List.length_nil, Int.ofNat_zero, Int.cast_ofNat_Int, Int.add_zero] at k
    exact k σ8 m trivial h8 nU_r (fun i x v hx => by simp at hx) hm
  | x :: R, L, s, p, hf, hN, hL, hty, hq, hp, hj, σ8, m, ρ, t, w, sp, c, cr, h8, hS, hm, hcr, k => by
    obtain ⟨L1, L2, e1, w1, w2, w3⟩ := fT_inv hf
    subst e1
    have q1 := hq s (Nat.le_refl _) (by simp)
    simp only [cdS] at hp k
    rw [q1, List.nil_append] at hp k
    obtain ⟨p1, p2⟩ := pl_a hp
    obtain ⟨j1, j2⟩ := jp_s hj q1
    have i1 : ∀ y, y ∈ x :: L1 → y ∈ x :: (L1 ++ L2) := fun y hy => by rw [← List.cons_append]; exact List.mem_append_left _ hy
    have i2 : ∀ y, y ∈ L2 → y ∈ x :: (L1 ++ L2) := fun y hy => by rw [← List.cons_append]; exact List.mem_append_right _ hy
    have hN1 : (x :: L1).Nodup := List.Nodup.sublist (by rw [← List.cons_append]; exact List.sublist_append_left _ _) hN
    have hN2 : L2.Nodup := List.Nodup.sublist (by rw [← List.cons_append]; exact List.sublist_append_right _ _) hN
    refine F x (x :: L1) sc p (fT_one w1 w2) hN1 (fun y hy => hL y (i1 y hy)) (hty x (by simp)) p1 j1 σ8 m ρ t w sp c cr h8 hS hm hcr ?_
    simp only [eS] at k
    generalize evN A (sg_g σ 6) B call f x ρ w = r at k
    match r, k with
    | .inl (e, w'), k => exact k
    | .inr (v, w1', s1, ρ1), k =>
      intro σ1 m1 h1 u1 v1 hm1
      have S1 := scP_u hS u1
      refine nRow F R L2 (s + 1) (p + (cd A f x).length) w3 hN2 (fun y hy => hL y (i2 y hy)) (fun y hy => hty y (by simp [hy])) (fun j a b => hq j (by omega) (by simp only [List.length_cons]; omega)) p2 j2 σ1 m1 ρ1 (t + 1) w1' (sp + s1) c cr h1 S1 (by omega) hcr ?_
      simp only at k
      generalize eS (evN A (sg_g σ 6) B call f) R ρ1 w1' = r2 at k
      match r2, k with
      | .inl (e, w'), k => exact k
      | .inr (vs, w2', s2, ρ2), k =>
        intro σ2 m2 l2 h2 u2 v2 hm2
        refine k σ2 m2 (by simp only [List.length_cons]; omega) ?_ (nU_t u1 u2 ⟨Int.le_refl _, by omega⟩ i1 i2) (fun i y v hy hv => ?_) hm2
        · simp only [List.length_cons, List.length_append]
          rw [show t + ((R.length + 1 : Nat) : Int) = t + 1 + R.length by omega, show p + (((cd A f x).length + (cdS A (cd A f) n0 (s + 1) R).length : Nat) : Int) = p + (cd A f x).length + (cdS A (cd A f) n0 (s + 1) R).length by omega, show sp + (s1 + s2) = sp + s1 + s2 by omega]
          exact h2
        · cases i with
          | zero =>
            simp only [List.getElem?_cons_zero, Option.some.injEq] at hy hv
            subst hy hv
            simp only [Int.ofNat_zero, Int.cast_ofNat_Int, Int.add_zero]
            rw [u2.2.1 t (by omega)]
            exact cvF_up u2.1 v1
          | succ i =>
            simp only [List.getElem?_cons_succ] at hy hv
            have := v2 i y v hy hv
            rw [show t + 1 + (i : Int) = t + ((i + 1 : Nat) : Int) by omega] at this
            exact this
/-- an operation at the end of a node -/
theorem oC_k {σ8 σ2 : sg_S} {ρ ρ2 : eV} {t w s0 s' S c p cr : Int} {L : List Int} {d : Nat} {m : Nat} {r : Int ⊕ (vaF × Int)} (hk : kN σ A D vb X σ8 ρ t s0 c p cr nl dix L d (ePay r w s' ρ2)) (hu : nU σ A D vb σ8 σ2 ρ ρ2 t nl dix L) (hS : S = s0 + s') (hm : 8 * (3001 - w) + cr + 4 ≤ (m : Int)) : oC σ A D vb X m σ2 ρ2 t w S c p nl dix d (pyF r w) := by
  match r, hk with
  | .inl e, hk => exact hk
  | .inr (v, q), hk =>
    unfold ePay at hk
    unfold pyF
    simp only at hk ⊢
    by_cases h : w + q ≤ 3000
    · rw [if_pos h] at hk ⊢
      intro σ' m' hw hP hU hV hm'
      subst hS
      exact hk σ' m' hP (nU_t hu hU ⟨Int.le_refl _, Int.le_refl _⟩ (fun _ hx => hx) (by simp)) hV (by omega)
    · rw [if_neg h] at hk ⊢
      exact hk
theorem nN_op (hW : ckW σ A) (hSl : slA σ vb) (F : nN σ A D vb X B call ds nl dix f) {n : Int} {L1 : List Int} {sc : List (Int × Int)} {p : Int} (hk : A.2.1 n = 0 ∨ A.2.1 n = 1 ∨ A.2.1 n = 14 ∨ (4 ≤ A.2.1 n ∧ A.2.1 n ≤ 12) ∨ 16 ≤ A.2.1 n) (hf : fT A (A.2.2.2.2.1 n) L1) (hN : L1.Nodup) (hL : ∀ x ∈ n :: L1, nl ≤ x ∧ lyQ σ A D B dix x) (hty : tyN A ds (sg_g σ 6) B (f + 1) sc n) (hp : pl σ p (cd A (f + 1) n)) (hj : jpN σ A (f + 1) n p) {σ8 : sg_S} {m : Nat} {ρ : eV} {t w s c cr : Int} (h8 : nP σ σ8 t w s c p) (hS : scP σ A D vb σ8 ρ sc) (hm : 8 * (3001 - w) + cr ≤ (m : Int)) (hcr : 0 ≤ cr) (k : kN σ A D vb X σ8 ρ t s c (p + (cd A (f + 1) n).length) cr nl dix (n :: L1) (sg_g σ 6 n).toNat (evN A (sg_g σ 6) B call (f + 1) n ρ w)) : Rn σ X m σ8 := by
  obtain ⟨t1, t2, t3, t4, t5, t6, t7, t8, t9⟩ := hty
  obtain ⟨c1, c2⟩ := ck3 hW t2
  have n2 : ¬ A.2.1 n = 2 := by omega
  have n3 : ¬ A.2.1 n = 3 := by omega
  have n15 : ¬ A.2.1 n = 15 := by omega
  have n13 : ¬ A.2.1 n = 13 := by omega
  have ho : kOrd A n = A.2.2.2.2.1 n := by unfold kOrd; rw [if_neg n15]
  have ly := (hL n (by simp)).2
  simp only [cd] at hp k
  rw [ho] at hp k
  have hj1 := hj.1
  rw [ho] at hj1
  have p0 := pl_c hp
  obtain ⟨p1, p2⟩ := pl_a p0.2.2.2
  obtain ⟨g1, g2⟩ := t3
  obtain ⟨a1, a2, a3, a8, a9, a10, a11, a12⟩ := id h8
  obtain ⟨w1, w2, w3, w4, w5, w6, w7, w8⟩ := id t1
  have hty0 : ¬ A.2.1 n = 1 → kTy A ds (sg_g σ 6) [] n ((A.2.2.2.2.1 n).map (sg_g σ 6)) = some (sg_g σ 6 n) := t5
  have kin : ∀ x ∈ A.2.2.2.2.1 n, kIn (sg_g σ 6 x) := fun x hx => by
    have := t9 n2 n15 x hx
    cases f with
    | zero => exact this.elim
    | succ f => exact this.2.2.1
  by_cases k1 : A.2.1 n = 1
  · -- NAME
    rw [eN_1 k1] at k
    have hl : A.2.2.2.2.1 n = [] := List.eq_nil_of_length_eq_zero (w2 (by omega))
    have hcn : cnc A n = [(1, n)] := by unfold cnc; rw [if_neg n2, if_neg n3, if_neg n13, if_neg n15, if_pos (Or.inr (Or.inl k1))]
    rw [hcn, hl] at p2
    rw [hcn, hl] at k
    simp only [cdS, List.length_nil, List.nil_append, List.length_cons, Int.ofNat_zero, Int.cast_ofNat_Int, Int.add_zero] at p2 k
    refine zn_begin h8 (by omega) hp (fun z σ' f' e' w' => ?_) (fun z σ1 m1 h1 f1 hm1 => ?_)
    · rw [if_neg z] at k; exact k σ' f' e' (by decide) w'
    rw [if_pos z] at k
    obtain ⟨q1, q2, q3⟩ := hS _ (t4 k1)
    have u1 : nU σ A D vb σ8 σ1 ρ ρ t nl dix (n :: L1) := nU_F f1 rfl
    have v1 := u1.2.2.1 _ q1 q3
    unfold rlC at v1
    rw [← q2] at v1
    refine zn_name (sl := slF σ (B n)) (d := (sg_g σ 6 n).toNat) (v := ρ (B n)) (ρ := ρ) (nl := nl) (dix := dix) h1 a12 a8.1 (by omega) p2 ⟨t2.1, c2⟩ (by rw [c1, k1]; rfl) (ly.2.1 k1) (hSl.1 _ q1) v1 (oC_k (L := n :: L1) (s' := 1) (r := .inr (ρ (B n), 0)) (w := w + 1) (cr := cr) ?_ u1 rfl (by omega))
    unfold ePay
    simp only
    rw [if_pos (by omega), Int.add_zero]
    rw [show p + 1 + 1 = p + ((0 + 1 + 1 : Nat) : Int) by omega]
    exact k
  · rw [eN_o k1 n2 n3 n13 n15] at k
    refine zn_begin h8 (by omega) hp (fun z σ' f' e' w' => ?_) (fun z σ1 m1 h1 f1 hm1 => ?_)
    · rw [if_neg z] at k; exact k σ' f' e' (by decide) w'
    rw [if_pos z] at k
    have u1 : nU σ A D vb σ8 σ1 ρ ρ t nl dix (n :: L1) := nU_F f1 rfl
    refine nRow F (A.2.2.2.2.1 n) L1 0 (p + 1) hf hN (fun x hx => hL x (by simp [hx])) (t9 n2 n15) (fun j _ _ => (kQ_o n2 n3 n15).1) p1 hj1 σ1 m1 ρ t (w + 1) (s + 1) (c + 1) (cr + 7) h1 (scP_u hS u1) (by omega) (by omega) ?_
    generalize eS (evN A (sg_g σ 6) B call f) (A.2.2.2.2.1 n) ρ (w + 1) = r at k
    match r, k with
    | .inl (e, w'), k => exact k
    | .inr (vs, w1', s1, ρ1), k =>
      intro σ2 m2 l2 h2 u2 v2 hm2
      have w29 := h2.2.2.2.2.1
      have u12 : nU σ A D vb σ8 σ2 ρ ρ1 t nl dix (n :: L1) := nU_t u1 u2 ⟨Int.le_refl _, Int.le_refl _⟩ (fun x hx => hx) (fun x hx => by simp [hx])
      simp only at k
      have lc : ∀ o, cnc A n = [(o, n)] → p + ((((0, n) :: (cdS A (cd A f) n 0 (A.2.2.2.2.1 n) ++ cnc A n)).length : Nat) : Int) = p + 1 + (cdS A (cd A f) n 0 (A.2.2.2.2.1 n)).length + 1 := fun o ho => by
        rw [ho]; simp only [List.length_cons, List.length_append, List.length_nil]; omega
      have vg : ∀ i : Nat, (hi : i < (A.2.2.2.2.1 n).length) → ∃ v, vs[i]? = some v ∧ vs.getD i (nmF 0) = v ∧ cvF σ2 (sg_g σ 6 ((A.2.2.2.2.1 n)[i])).toNat v (sg_g σ2 48 (t + i)) := fun i hi => by
        obtain ⟨v, hv⟩ := gE_x (l := vs) (i := i) (by omega)
        exact ⟨v, hv, by rw [List.getD_eq_getElem?_getD, hv, Option.getD_some], v2 i _ v (List.getElem?_eq_getElem hi) hv⟩
      by_cases k0 : A.2.1 n = 0
      · -- NUMBER
        have hl := w2 (by omega)
        have hcn : cnc A n = [(1, n)] := by unfold cnc; rw [if_neg n2, if_neg n3, if_neg n13, if_neg n15, if_pos (Or.inl k0)]
        rw [lc 1 hcn] at k
        rw [hcn] at p2
        rw [hl, show t + ((0 : Nat) : Int) = t by omega] at h2
        have t6' : sg_g σ 6 n = 0 := by
          have := hty0 (by omega)
          rw [kTy_0 k0] at this
          exact (Option.some.inj this).symm
        refine zn_num (A := A) (D := D) (vb := vb) (x := sg_n (A.2.2.2.1 n)) (ρ := ρ1) (nl := nl) (dix := dix) h2 a12 a8.1 (by omega) p2 ⟨t2.1, c2⟩ (by rw [c1, k0]; rfl) (ly.1 k0) ?_
        have e0 : eO (A.2.1 n) (sg_g σ 6 n) (sg_n (A.2.2.2.1 n)) vs = .inr (nmF (sg_n (A.2.2.2.1 n)), 0) := by rw [k0]; rfl
        rw [e0, t6'] at k
        exact oC_k (L := n :: L1) (s' := 1 + s1) k u12 (by omega) (by omega)
      · by_cases k14 : A.2.1 n = 14
        · -- ROW
          have hl := w6 k14
          have hcn : cnc A n = [(1, n)] := by unfold cnc; rw [if_neg n2, if_neg n3, if_neg n13, if_neg n15, if_pos (Or.inr (Or.inr k14))]
          rw [lc 1 hcn] at k
          rw [hcn] at p2
          have tt := hty0 k1
          rw [kTy_14 k14] at tt
          obtain ⟨i1, i2, i3⟩ := kIs_in tt
          generalize hA0 : ((A.2.2.2.2.1 n).map (sg_g σ 6)).getD 0 0 = a0 at i1 i2 i3
          have all0 : ∀ x ∈ A.2.2.2.2.1 n, sg_g σ 6 x = a0 := fun x hx => by
            have := List.all_eq_true.mp i3 (sg_g σ 6 x) (List.mem_map_of_mem hx)
            simpa using this
          have a00 : 0 ≤ a0 := by
            obtain ⟨y, r, hy⟩ : ∃ y r, A.2.2.2.2.1 n = y :: r := by
              match hh : A.2.2.2.2.1 n with
              | [] => rw [hh] at hl; simp at hl
              | y :: r => exact ⟨y, r, rfl⟩
            have m0 : y ∈ A.2.2.2.2.1 n := by rw [hy]; simp
            rw [← all0 y m0]
            exact (kin y m0).1
          have c10 : sg_g σ 10 n = (A.2.2.2.2.1 n).length := by
            have := (hW.2.2 n t2.1 t2.2).1.2.2.2.1.1
            unfold pts at this
            rw [if_neg n15] at this
            exact this
          have l200 : (A.2.2.2.2.1 n).length ≤ 200 := by
            have q := (hW.2.2 n t2.1 t2.2).1.2.2.2.1.2.2.2
            unfold pts at q
            rw [if_neg n15] at q
            rcases wit_len (f := id) (a := 0) (b := 199) q.1 (fun x hx => ⟨x, (q.2 x hx).1, by have := (q.2 x hx).2; omega, rfl⟩) with z | z
            · omega
            · rw [z]; exact Nat.zero_le _
          have e0 : eO (A.2.1 n) (sg_g σ 6 n) (sg_n (A.2.2.2.1 n)) vs = .inr (mkF vs, cnL a0.toNat vs) := by rw [k14, show a0.toNat = (sg_g σ 6 n - 1).toNat by omega]; rfl
          rw [e0, show (sg_g σ 6 n).toNat = a0.toNat + 1 by omega] at k
          refine zn_row (A := A) (D := D) (vb := vb) (a := (A.2.2.2.2.1 n).length) (d := a0.toNat) (M := vs) (ρ := ρ1) (nl := nl) (dix := dix) h2 a12 a8.1 (by omega) p2 ⟨t2.1, c2⟩ (by rw [c1, k14]; rfl) c10 (by omega) (by omega) (by omega) (by omega) (fun i z hz => ?_) (oC_k (L := n :: L1) (s' := 1 + s1) k u12 (by omega) (by omega))
          have hi := gE_l hz
          have hx : (A.2.2.2.2.1 n)[i]? = some ((A.2.2.2.2.1 n)[i]'(by omega)) := List.getElem?_eq_getElem _
          have := v2 i _ z hx hz
          rw [all0 _ (List.mem_of_getElem? hx)] at this
          exact this
        · -- ACTS
          have hw := t1
          unfold nW at hw
          have tt := kTy_o (A := A) (ds := ds) (T := sg_g σ 6) (n := n) (ty := sg_g σ 6 n) (ts := (A.2.2.2.2.1 n).map (sg_g σ 6)) (by rw [List.length_map]; exact hw) (hty0 k1) (by omega) n13 k14 n15 (fun x hx => by
            obtain ⟨y, hy, rfl⟩ := List.mem_map.mp hx
            exact (kin y hy).1)
          rw [List.length_map] at tt
          have gd : ∀ i : Nat, (hi : i < (A.2.2.2.2.1 n).length) → ((A.2.2.2.2.1 n).map (sg_g σ 6)).getD i 0 = sg_g σ 6 ((A.2.2.2.2.1 n)[i]) := fun i hi => by
            rw [List.getD_eq_getElem?_getD, List.getElem?_map, List.getElem?_eq_getElem hi]; rfl
          rcases tt with ⟨l1, o1⟩ | ⟨l2', o2⟩
          · have hcn : cnc A n = [(2, n)] := by
              unfold cnc
              rw [if_neg n2, if_neg n3, if_neg n13, if_neg n15, if_neg (by omega), if_pos]
              unfold op1 at o1
              omega
            rw [lc 2 hcn] at k
            rw [hcn] at p2
            rw [l1] at h2
            rw [gd 0 (by omega)] at o1
            have kx := kin _ (List.getElem_mem (h := show 0 < (A.2.2.2.2.1 n).length by omega))
            obtain ⟨v, hv, -, v0⟩ := vg 0 (by omega)
            simp only [Int.ofNat_zero, Int.cast_ofNat_Int, Int.add_zero] at v0
            have ev : vs = [v] := by
              match vs, hv, l2 with
              | [a], hv, _ => simp at hv; rw [hv]
              | [], hv, _ => simp at hv
              | _ :: _ :: _, _, l2 => simp only [List.length_cons] at l2; omega
            rw [ev] at k
            exact zn_one (k := A.2.1 n) (ρ := ρ1) (nl := nl) (dix := dix) h2 a12 a8.1 (by omega) p2 ⟨t2.1, c2⟩ c1 g2 kx v0 o1 (oC_k (L := n :: L1) (s' := 1 + s1) k u12 (by omega) (by omega))
          · have hcn : cnc A n = [(3, n)] := by
              unfold cnc
              rw [if_neg n2, if_neg n3, if_neg n13, if_neg n15, if_neg (by omega), if_neg]
              unfold op2 at o2
              omega
            rw [lc 3 hcn] at k
            rw [hcn] at p2
            rw [l2'] at h2
            rw [gd 0 (by omega), gd 1 (by omega)] at o2
            have kx := kin _ (List.getElem_mem (h := show 0 < (A.2.2.2.2.1 n).length by omega))
            obtain ⟨v, hv, -, v0⟩ := vg 0 (by omega)
            obtain ⟨u, hu, -, v1⟩ := vg 1 (by omega)
            simp only [Int.ofNat_zero, Int.cast_ofNat_Int, Int.add_zero] at v0
            have ev : vs = [v, u] := by
              match vs, hv, hu, l2 with
              | [a, b], hv, hu, _ => simp at hv hu; rw [hv, hu]
              | [], hv, _, _ => simp at hv
              | [_], _, hu, _ => simp at hu
              | _ :: _ :: _ :: _, _, _, l2 => simp only [List.length_cons] at l2; omega
            rw [ev] at k
            exact zn_two (k := A.2.1 n) (ρ := ρ1) (nl := nl) (dix := dix) h2 a12 a8.1 (by omega) p2 ⟨t2.1, c2⟩ c1 g2 kx v0 v1 o2 (oC_k (L := n :: L1) (s' := 1 + s1) k u12 (by omega) (by omega))
end NBR
