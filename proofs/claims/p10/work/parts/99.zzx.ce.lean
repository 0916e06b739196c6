/-! THE WALK of the checker a third time: nodes. -/
section WK3T
variable {σ : sg_S} {A : aT} {X : sg_S → Prop}
theorem kStg3 {ds : kD} {cl : Int} {Lw : List Int} {f : Nat} {n : Int} (hX : ∀ σ', ¬ sg_g σ' 38 13 = 0 → X σ') (h : ckW σ A) (hn : 0 ≤ n ∧ n < A.1) (hw : nW A n) (hnw : n ∈ Lw) (F : kB3 σ A X ds cl Lw f) : ∀ (R L : List Int) (s : Nat) (es : kE) (e b p : Int) (σ15 : sg_S) (m : Nat), (kOrd A n).drop s = R → s ≤ (kOrd A n).length → fT A R L → L.Nodup → (∀ x ∈ L, x ∈ Lw) → n ∉ L → (∀ y ∈ (kOrd A n).take s, y ∉ n :: L) → L.length ≤ f → sg_F kwL σ σ15 → kS3 σ15 es e b p → sg_g σ15 44 n = s → (∀ y, R.head? = some y → sg_g σ15 43 n = y) → (∀ y ∈ (kOrd A n).take s, kIn (sg_g σ15 6 y)) → hEs3 σ15 es b → cDq σ15 A cl Lw → e + od A n s + L.length ≤ 272 → b + od A n s + L.length ≤ 272 → p + oRq A n s R + 5 * L.length ≤ 1013 → (∀ σ' es' e' b', sg_F kwL σ σ' → kS3 σ' es' e' b' (p + (cdS A (cd A f) n s R).length) → e ≤ e' ∧ e' ≤ 272 → (b ≤ b' ∧ b' + od A n (s + R.length) ≤ b + L.length + od A n s) → kU3 σ15 σ' e b p (n :: L) → (sg_g σ' 41 n = sg_g σ15 41 n ∧ sg_g σ' 42 n = sg_g σ15 42 n) → sg_g σ' 44 n = (kOrd A n).length → rsS σ' A (rsN σ' A ds f) n s es R → jpS σ' A f (jpN σ' A f) n s p R → (∀ y ∈ kOrd A n, kIn (sg_g σ' 6 y)) → ((∀ j, s ≤ j → kNo A n j) → sg_g σ' 16 n = sg_g σ15 16 n) → ((∀ j, s ≤ j → ¬ (A.2.1 n = 3 ∧ j = 2) ∧ ¬ (A.2.1 n = 15 ∧ j = (A.2.2.2.2.2 n).length)) → sg_g σ' 32 n = sg_g σ15 32 n) → kWk σ X m n σ') → kWk σ X (m + 2 * L.length) n σ15
  | [], L, s, es, e, b, p, σ15, m, hd, hs, hf, hN, hLw, hnL, hpr, hlf, f15, hS, h44, h43, ht, hE, hD, he, hb, hp, k => by
    have e0 := fT_nil hf
    subst e0
    have sl : s = (kOrd A n).length := by
      have : ((kOrd A n).drop s).length = 0 := by rw [hd]; rfl
      rw [List.length_drop] at this
      omega
    simp only [List.length_nil, Nat.mul_zero, Nat.add_zero]
    refine k σ15 es e b f15 ?_ ⟨Int.le_refl _, by simp only [List.length_nil] at he; omega⟩ ⟨Int.le_refl _, by simp⟩ (kU3_r _ _ _ _ _) ⟨rfl, rfl⟩ (by rw [h44, sl]) True.intro True.intro (fun y hy => ht y (by rw [sl, List.take_length]; exact hy)) (fun _ => rfl) (fun _ => rfl)
    simp only [cdS, List.length_nil]
    rw [show p + ((0 : Nat) : Int) = p by omega]
    exact hS
  | x :: R, L, s, es, e, b, p, σ15, m, hd, hs, hf, hN, hLw, hnL, hpr, hlf, f15, hS, h44, h43, ht, hE, hD, he, hb, hp, k => by
    obtain ⟨L1, L2, e1, w1, w2, w3⟩ := fT_inv hf
    subst e1
    have hx : (kOrd A n)[s]? = some x := by rw [← List.head?_drop, hd]; rfl
    have hsl : s < (kOrd A n).length := gE_l hx
    have i1 : ∀ y, y ∈ x :: L1 → y ∈ x :: (L1 ++ L2) := fun y hy => by rw [← List.cons_append]; exact List.mem_append_left _ hy
    have i2 : ∀ y, y ∈ L2 → y ∈ x :: (L1 ++ L2) := fun y hy => by rw [← List.cons_append]; exact List.mem_append_right _ hy
    have hN1 : (x :: L1).Nodup := List.Nodup.sublist (by rw [← List.cons_append]; exact List.sublist_append_left _ _) hN
    have hN2 : L2.Nodup := List.Nodup.sublist (by rw [← List.cons_append]; exact List.sublist_append_right _ _) hN
    have dj : ∀ y ∈ x :: L1, y ∉ L2 := fun y hy z => by
      rw [← List.cons_append, List.nodup_append] at hN
      exact hN.2.2 y hy y z rfl
    have hxn : ¬ x = n := fun z => hnL (by rw [← z]; simp)
    have hnx : n ∉ x :: L1 := fun z => hnL (i1 n z)
    have hn2 : n ∉ L2 := fun z => hnL (i2 n z)
    have hl : (x :: (L1 ++ L2)).length = (x :: L1).length + L2.length := by rw [← List.cons_append, List.length_append]
    have hl1 : 1 ≤ (x :: L1).length := by simp
    rw [hl] at he hb hp hlf ⊢
    simp only [oRq] at hp
    have o1 := bA_od A n s b
    have o2 := od_s A n s b
    have o3 := bA_le A n s b
    have e0 := hS.2.2.2.1
    have b0 := hS.2.2.2.2.1
    have p0 := hS.2.2.2.2.2
    rw [show m + 2 * ((x :: L1).length + L2.length) = ((m + 2 * L2.length) + (2 * (x :: L1).length - 1)) + 1 by omega]
    refine w3_push (s := s) (R := R) hX h f15 hn hw hd hS h44 (h43 x rfl) ht hxn (by omega) (by omega) (by omega) (fun σ1 f1 S1 u1 g1 g2 c2 c3 c4 c5 c6 c7 c8 => ?_)
    have hE1 : hEs3 σ1 (eA3 A n s es b) (bA A n s b) := fun y hy => by
      have old : ∀ y ∈ es, (0 ≤ y.2 ∧ y.2 < b) ∧ kIn (sg_g σ1 34 y.2) := fun y hy => by
        have := hE y hy
        exact ⟨this.1, by rw [u1.2.1 y.2 this.1.2]; exact this.2⟩
      have kk : ∀ z ∈ (kOrd A n).take s, kIn (sg_g σ1 6 z) := fun z hz => by
        have nz := hpr z hz
        rw [(u1.1 z (fun q => nz (by
          simp only [List.mem_cons, List.not_mem_nil, or_false] at q
          rcases q with q | q
          · rw [q]; exact List.mem_cons_self
          · rw [q]; exact List.mem_cons_of_mem _ (by simp)))).1.1]
        exact ht z hz
      unfold eA3 at hy
      unfold bA at o3 ⊢
      split at hy
      · rename_i cc
        rw [if_pos cc]
        rcases List.mem_cons.mp hy with q | q
        · subst q
          obtain ⟨t1, t2⟩ := c3.1 cc.1 cc.2
          refine ⟨⟨by simp only; omega, by simp only; omega⟩, ?_⟩
          simp only
          rw [t2]
          have ho : kOrd A n = A.2.2.2.2.1 n := by unfold kOrd; rw [if_neg (by omega)]
          have l2 := hw.2.2.1 (Or.inl cc.1)
          refine kk _ ?_
          rw [ho, cc.2, List.getD_eq_getElem?_getD, List.getElem?_eq_getElem (by omega), Option.getD_some, List.mem_take_iff_getElem]
          exact ⟨0, by omega, rfl⟩
        · have := old y q
          exact ⟨⟨by omega, by omega⟩, this.2⟩
      · rename_i cc
        rw [if_neg cc]
        split at hy
        · rename_i c15
          rw [if_pos c15]
          rcases gP_m hy with q | q'
          · have := old y q
            exact ⟨⟨by omega, by omega⟩, this.2⟩
          · obtain ⟨t1, t2⟩ := c3.2 c15.1 c15.2
            have w7 := hw.2.2.2.2.2.2.1 c15.1
            have gl : (kGs A n).length = (A.2.2.2.2.2 n).length := by unfold kGs; rw [List.length_take, List.length_drop]; omega
            have hz : (kGs A n)[(y.2 - b).toNat]? = some ((kGs A n)[(y.2 - b).toNat]'(by omega)) := List.getElem?_eq_getElem _
            have t3 := t2 _ _ hz
            rw [show b + (((y.2 - b).toNat : Nat) : Int) = y.2 by omega] at t3
            have mz := List.mem_of_getElem? hz
            have pos := c7 c15.1 c15.2 _ mz
            have kz := kk _ (by
              have : kGs A n = (kOrd A n).take s := by
                unfold kGs kOrd
                rw [if_pos c15.1, List.take_append_of_le_length (by rw [List.length_drop]; omega), c15.2]
              rw [← this]; exact mz)
            refine ⟨⟨by omega, by omega⟩, ?_⟩
            rw [t3]
            unfold kIn at kz ⊢
            omega
        · rename_i c15
          rw [if_neg c15]
          exact old y hy
    have nxs : ∀ y ∈ [n, x], y ∈ n :: (x :: (L1 ++ L2)) := fun y hy => by
      simp only [List.mem_cons, List.not_mem_nil, or_false] at hy
      rcases hy with q | q <;> simp [q]
    have nxw : ∀ y ∈ [n, x], y ∈ Lw := fun y hy => by
      simp only [List.mem_cons, List.not_mem_nil, or_false] at hy
      rcases hy with q | q
      · rw [q]; exact hnw
      · rw [q]; exact hLw x (by simp)
    have D1 := cD_u3 hD f15 f1 u1 nxw
    refine F x (x :: L1) (eA3 A n s es b) (e + (bA A n s b - b)) (bA A n s b) (p + (ahd A n s).length) σ1 (m + 2 * L2.length) (fT_one w1 w2) hN1 (fun y hy => hLw y (i1 y hy)) (by omega) f1 S1 c5 c6 hE1 D1 (by omega) (by omega) (by omega) (fun σ2 b2 f2 S2 u2 d0 d1 d2 d3 => ?_)
    rw [g1.2.2]
    have clen := cd_len f x _ (fT_one w1 w2)
    have D2 := cD_u3 D1 f1 f2 u2 (fun y hy => hLw y (i1 y hy))
    have un := u2.1 n hnx
    have hE2 : hEs3 σ2 (eA3 A n s es b) b2 := fun y hy => by
      have := hE1 y hy
      exact ⟨⟨by omega, by omega⟩, by rw [u2.2.1 y.2 this.1.2]; exact this.2⟩
    have tk : (kOrd A n).take (s + 1) = (kOrd A n).take s ++ [x] := by rw [List.take_add_one, hx]; rfl
    have pr2 : ∀ y ∈ (kOrd A n).take (s + 1), y ∉ n :: L2 := fun y hy z => by
      rw [tk] at hy
      rcases List.mem_append.mp hy with q | q
      · rcases List.mem_cons.mp z with w | w
        · exact hpr y q (by rw [w]; exact List.mem_cons_self)
        · exact hpr y q (List.mem_cons_of_mem _ (i2 y w))
      · simp at q
        subst q
        rcases List.mem_cons.mp z with w | w
        · exact hxn w
        · exact dj y (by simp) w
    have prx : ∀ y ∈ (kOrd A n).take s, y ∉ x :: L1 ∧ y ∉ [n, x] := fun y hy => ⟨fun z => hpr y hy (List.mem_cons_of_mem _ (i1 y z)), fun z => hpr y hy (nxs y z)⟩
    have ht2 : ∀ y ∈ (kOrd A n).take (s + 1), kIn (sg_g σ2 6 y) := fun y hy => by
      rw [tk] at hy
      rcases List.mem_append.mp hy with q | q
      · rw [(u2.1 y (prx y q).1).1.1, (u1.1 y (prx y q).2).1.1]; exact ht y q
      · simp at q; subst q; exact d3
    refine kStg3 hX h hn hw hnw F R L2 (s + 1) (eA3 A n s es b) (e + (bA A n s b - b)) b2 (p + (ahd A n s).length + (cd A f x).length) σ2 m (by rw [← List.drop_drop, hd]; rfl) (by omega) w3 hN2 (fun y hy => hLw y (i2 y hy)) hn2 pr2 (by omega) f2 S2 (by rw [un.2.2.2.2]; exact g2.1) (fun y hy => by rw [un.2.2.2.1]; exact g2.2 y hy) ht2 hE2 D2 (by omega) (by omega) (by omega) (fun σ3 es3 e3 b3 f3 S3 q1 q2 u3 q3 q4 q5 q6 q7 q8 q9 => ?_)
    have U12 : kU3 σ15 σ2 e b p (n :: (x :: (L1 ++ L2))) := kU3_t u1 u2 ⟨Int.le_refl _, by omega⟩ ⟨Int.le_refl _, by omega⟩ ⟨Int.le_refl _, by omega⟩ nxs (fun y hy => List.mem_cons_of_mem _ (i1 y hy))
    have U13 : kU3 σ15 σ3 e b p (n :: (x :: (L1 ++ L2))) := kU3_t U12 u3 ⟨Int.le_refl _, by omega⟩ ⟨Int.le_refl _, by omega⟩ ⟨Int.le_refl _, by omega⟩ (fun y hy => hy) (fun y hy => by
      rcases List.mem_cons.mp hy with w | w
      · rw [w]; exact List.mem_cons_self
      · exact List.mem_cons_of_mem _ (i2 y w))
    have xk : ∀ y ∈ x :: L1, y ∉ n :: L2 := fun y hy z => by
      rcases List.mem_cons.mp z with w | w
      · exact hnx (by rw [← w]; exact hy)
      · exact dj y hy w
    have rs3 := rsN_st (σ := σ2) (σ' := σ3) f _ x (x :: L1) (fT_one w1 w2) (fun y hy => (u3.1 y (xk y hy)).1.2.1) d1
    have jp3 := jpN_st (σ := σ2) (σ' := σ3) f x _ (x :: L1) (fT_one w1 w2) (fun y hy => (u3.1 y (xk y hy)).1.2.2) d2
    have nb : ¬ kNo A n s → sg_g σ3 16 n = b := fun cn => by
      have later : ∀ j, s + 1 ≤ j → kNo A n j := fun j hj => by
        refine ⟨fun z => cn ⟨fun _ => ?_, fun y => ?_⟩, fun z => cn ⟨fun y => ?_, fun y => ?_⟩⟩ <;> omega
      have n16 : sg_g σ3 16 n = sg_g σ1 16 n := by rw [q8 later, un.1.2.1]
      rw [n16]
      by_cases a : A.2.1 n = 2 ∧ s = 1
      · exact (c3.1 a.1 a.2).1
      · by_cases a2 : A.2.1 n = 15 ∧ s = (A.2.2.2.2.2 n).length
        · exact (c3.2 a2.1 a2.2).1
        · exact absurd ⟨a, a2⟩ cn
    have ee : eA3 A n s es (sg_g σ3 16 n) = eA3 A n s es b := by
      by_cases cn : kNo A n s
      · rw [eA3_no cn, eA3_no cn]
      · rw [nb cn]
    refine k σ3 es3 e3 b3 f3 ?_ ⟨by omega, q1.2⟩ ⟨by omega, ?_⟩ U13 ⟨by rw [q3.1, un.2.1]; exact g1.1, by rw [q3.2, un.2.2.1]; exact g1.2.1⟩ q4 ?_ ?_ q7 (fun z => ?_) (fun z => ?_)
    · simp only [cdS, List.length_append]
      rw [show p + (((ahd A n s).length + ((cd A f x).length + (cdS A (cd A f) n (s + 1) R).length) : Nat) : Int) = p + (ahd A n s).length + (cd A f x).length + (cdS A (cd A f) n (s + 1) R).length by omega]
      exact S3
    · have q22 := q2.2
      have e1' : s + 1 + R.length = s + (x :: R).length := by simp only [List.length_cons]; omega
      rw [e1'] at q22
      rw [hl]
      have d02 := d0.2
      omega
    · simp only [rsS]
      rw [ee]
      exact ⟨rs3, q5⟩
    · simp only [jpS]
      refine ⟨⟨fun a c => ?_, fun a c => ?_⟩, jp3, q6⟩
      · rw [q9 (fun j hj => ⟨by omega, by omega⟩), un.1.2.2.1]
        exact c8.1.1 a c
      · rw [q9 (fun j hj => ⟨by omega, by omega⟩), un.1.2.2.1]
        exact c8.1.2 a c
    · rw [q8 (fun j hj => z j (by omega)), un.1.2.1]
      exact c4 (z s (Nat.le_refl _))
    · rw [q9 (fun j hj => z j (by omega)), un.1.2.2.1]
      exact c8.2.1 (z s (Nat.le_refl _)).1 (z s (Nat.le_refl _)).2
theorem kB3_all {ds : kD} {cl : Int} {Lw : List Int} (hX : ∀ σ', ¬ sg_g σ' 38 13 = 0 → X σ') (h : ckW σ A) (hcl : sg_g σ 38 11 = cl) (hds : dsC σ cl ds) (hdl : ds.length ≤ 12) (hr : ∀ x ∈ Lw, 0 ≤ x ∧ x < A.1) : ∀ f, kB3 σ A X ds cl Lw f
  | 0 => fun n L es e b p σ15 m hf hN hLw hlf => by
    have := fT_len hf
    simp only [List.length_cons, List.length_nil] at this
    omega
  | f + 1 => fun n L es e b p σ15 m hf hN hLw hlf f15 hS h16 ⟨h43, h44, h41⟩ hE hD he hb hp k => by
    obtain ⟨L1, L2, e1, w1, w2, w3⟩ := fT_inv hf
    have e2 := fT_nil w3
    subst e2
    rw [List.append_nil] at e1
    subst e1
    obtain ⟨L', k1, k2⟩ := fT_perm (kOrd_p A n) w2
    have ll := k2.length_eq
    have hn : 0 ≤ n ∧ n < A.1 := hr n (hLw n (by simp))
    have hnw : n ∈ Lw := hLw n (by simp)
    have hnL : n ∉ L1 := (List.nodup_cons.mp hN).1
    have hN1 : L1.Nodup := (List.nodup_cons.mp hN).2
    have m1 : ∀ y, y ∈ L' ↔ y ∈ L1 := fun y => k2.mem_iff.symm
    obtain ⟨p0, p1, p2, p3, p4, p5, p6⟩ := ckW_p h hn
    have o := oR_le w1
    have z0 : od A n 0 = 0 := by
      unfold od
      rw [if_neg (by omega)]
      split <;> rfl
    simp only [List.length_cons] at he hb hp hlf ⊢
    rw [show m + (2 * (L1.length + 1) - 1) = (m + 1) + 2 * L'.length by omega]
    refine kStg3 hX h hn w1 hnw (kB3_all hX h hcl hds hdl hr f) (kOrd A n) L' 0 es e b (p + 1) σ15 (m + 1) rfl (Nat.zero_le _) k1 (k2.nodup_iff.mp hN1) (fun y hy => hLw y (List.mem_cons_of_mem _ ((m1 y).mp hy))) (fun z => hnL ((m1 n).mp z)) (by simp) (by omega) f15 hS (by rw [h44]; rfl) (fun y hy => by rw [h43]; exact p3 y (by rw [← List.head?_eq_getElem?]; exact hy)) (by simp) hE hD (by rw [z0]; omega) (by rw [z0]; omega) (by omega) (fun σ1 es1 e1 b1 f1 S1 q1 q2 u1 q3 q4 q5 q6 q7 q8 q9 => ?_)
    have cdl := cdS_len (n := n) (fun x L => cd_len f x L) (kOrd A n) 0 L' k1
    have nl : ∀ y ∈ n :: L', y ∈ n :: L1 := fun y hy => by
      rcases List.mem_cons.mp hy with q | q
      · rw [q]; exact List.mem_cons_self
      · exact List.mem_cons_of_mem _ ((m1 y).mp q)
    have D1 := cD_u3 hD f15 f1 u1 (fun y hy => hLw y (nl y hy))
    have kids : ∀ x ∈ A.2.2.2.2.1 n, kIn (sg_g σ1 6 x) ∧ ¬ x = n := fun x hx => ⟨q7 x ((kOrd_p A n).mem_iff.mp hx), fun z => hnL (by rw [← z]; exact fT_sub w2 x hx)⟩
    have es1' : kmE σ1 e es := kmE_e hS.2.2.1 (fun i _ c => u1.2.2.1 i c)
    have hE1 : hEs3 σ1 es b := fun s hs => by
      have := hE s hs
      exact ⟨this.1, by rw [u1.2.1 s.2 this.1.2]; exact this.2⟩
    have e0 := hS.2.2.2.1
    have b0 := hS.2.2.2.2.1
    have q22 := q2.2
    rw [z0] at q22
    refine w3_pop (e0 := e) (es0 := es) hX h f1 hn w1 q4 kids S1 (by rw [q3.1]; exact h41) ⟨e0, q1.1, q1.2⟩ es1' (fun s hs => ⟨⟨(hE1 s hs).1.1, by have := (hE1 s hs).1.2; omega⟩, (hE1 s hs).2⟩) hcl hds hdl D1 hnw (by omega) (fun σ2 f2 S2 g2 u2 r2 r3 r4 r5 r6 => ?_)
    rw [q3.2]
    have U : kU3 σ15 σ2 e b (p + 1) (n :: L1) := kU3_t u1 u2 ⟨Int.le_refl _, by omega⟩ ⟨Int.le_refl _, by omega⟩ ⟨Int.le_refl _, by omega⟩ nl (fun y hy => by simp at hy; rw [hy]; exact List.mem_cons_self)
    have nk : ∀ y ∈ L', y ∉ [n] := fun y hy z => by
      simp at z
      rw [z] at hy
      exact hnL ((m1 n).mp hy)
    have rs : rsS σ2 A (rsN σ2 A ds f) n 0 es (kOrd A n) := by
      refine rsS_st (σ := σ1) (LL := L') ?_ (fun es x Lx g1 g2 g3 => rsN_st f es x Lx g1 (fun y hy => (u2.1 y (nk y (g2 y hy))).1.2.1) g3) (kOrd A n) 0 es L' k1 (fun y hy => hy) q5
      by_cases c1 : A.2.1 n = 1 ∨ A.2.1 n = 13
      · exact Or.inl (fun j => ⟨by omega, by omega⟩)
      · exact Or.inr (r5 (fun z => c1 (Or.inl z)) (fun z => c1 (Or.inr z)))
    have jp : jpS σ2 A f (jpN σ2 A f) n 0 (p + 1) (kOrd A n) := jpS_st (σ := σ1) (LL := L') r6.1 (fun x p Lx g1 g2 g3 => jpN_st f x p Lx g1 (fun y hy => (u2.1 y (nk y (g2 y hy))).1.2.2) g3) (kOrd A n) 0 (p + 1) L' k1 (fun y hy => hy) q6
    have cde : cd A (f + 1) n = (0, n) :: (cdS A (cd A f) n 0 (kOrd A n) ++ cnc A n) := rfl
    have cl1 : (cd A (f + 1) n).length = (cdS A (cd A f) n 0 (kOrd A n)).length + (cnc A n).length + 1 := by rw [cde, List.length_cons, List.length_append]
    refine k σ2 b1 f2 ?_ U ⟨q2.1, by simp only [List.length_cons]; omega⟩ ⟨r3, r4, rs⟩ ⟨jp, fun z => ?_, fun z => ?_⟩ r2
    · rw [cl1, show p + (((cdS A (cd A f) n 0 (kOrd A n)).length + (cnc A n).length + 1 : Nat) : Int) = p + 1 + (cdS A (cd A f) n 0 (kOrd A n)).length + (cnc A n).length by omega]
      exact S2
    · have hc : cnc A n = [(9, n)] := by unfold cnc; rw [if_neg (by omega), if_pos z]
      rw [r6.2 (Or.inl z), cl1, hc, List.length_cons, List.length_nil]
      omega
    · have hc : cnc A n = [(12, n), (1, n)] := by unfold cnc; rw [if_neg (by omega), if_neg (by omega), if_neg (by omega), if_pos z]
      rw [r6.2 (Or.inr z), cl1, hc, List.length_cons, List.length_cons, List.length_nil]
      omega
end WK3T
/-! walk, definition, check of the checker a third time. -/
section WK5T
variable {σ : sg_S} {A : aT} {Q : sg_S → Prop}
theorem d3_walk {d n e b p cl : Int} {ds : kD} {es : kE} {L : List Int} (h : ckW σ A) (hf : fT A [n] L) (hN : L.Nodup) (hr : ∀ x ∈ L, 0 ≤ x ∧ x < A.1) (hl : L.length ≤ 200) (hd : 0 ≤ d ∧ d < 13) (hS : kS3 σ es e b p) (hE : hEs3 σ es b) (hcl : sg_g σ 38 11 = cl) (hds : dsC σ cl ds) (hdl : ds.length ≤ 12) (hD : cDq σ A cl L) (he : e + L.length ≤ 272) (hb : b + L.length ≤ 272) (hp : p + 5 * L.length + 1 ≤ 1013) (k1 : ∀ σ', ¬ sg_g σ' 38 13 = 0 → Q σ') (k2 : ∀ σ' b', sg_F kwL σ σ' → kS3 σ' es e b' (p + (cd A 201 n).length + 1) → kU3 σ σ' e b p L → (b ≤ b' ∧ b' + 1 ≤ b + L.length) → sg_g σ' 31 d = p → (∀ i, ¬ i = d → sg_g σ' 31 i = sg_g σ 31 i) → rsN σ' A ds 201 es n → jpN σ' A 201 n p → kIn (sg_g σ' 6 n) → Q σ') : V_kWalk σ d n Q := by
  have hA := h.1
  have hn : 0 ≤ n ∧ n < A.1 := hr n (fT_sub hf n (by simp))
  have n200 : 0 ≤ n ∧ n < 200 := by omega
  have hL1 := fT_len hf
  simp only [List.length_cons, List.length_nil] at hL1
  obtain ⟨s1, ⟨s2, s3, s4⟩, s5, s6, s7, s8⟩ := id hS
  unfold V_kWalk
  intro σ1 e1 σ4 e4
  rw [xp_in hd, s4] at e1
  rw [xp_in n200] at e4
  have f4 : sg_F [31, 42] σ σ4 := by rw [e4, e1]; exact sg_F_w (sg_F_w (sg_F_r _ _) rfl _) rfl _
  have S4 : kS3 σ4 es e b p := kS3_F hS f4 rfl
  refine d3_enter n200 S4 (by omega) (fun σ8 S8 f8 u8 c1 c2 c3 _ => ?_)
  have F8 : sg_F kwL σ σ8 := sg_F_t (sg_F_m f4 rfl) (sg_F_m f8 rfl)
  have g42 : sg_g σ8 42 n = -1 := by rw [sg_F_ga f8 rfl, e4, sg_gw_e _ _ _ _ (by decide)]
  have nL : n ∈ L := fT_sub hf n (by simp)
  have u4 : kU3 σ σ4 e b p L := ⟨fun x hx => by
    have xn : ¬ x = n := fun z => hx (by rw [z]; exact nL)
    refine ⟨⟨sg_F_ga f4 rfl, sg_F_ga f4 rfl, sg_F_ga f4 rfl, sg_F_ga f4 rfl⟩, sg_F_ga f4 rfl, ?_, sg_F_ga f4 rfl, sg_F_ga f4 rfl⟩
    rw [e4, sg_gw_k _ _ _ _ _ _ xn, e1, sg_gw_c _ _ _ _ _ _ (by decide)], fun s _ => sg_F_ga f4 rfl, fun i _ => ⟨sg_F_ga f4 rfl, sg_F_gal f4 rfl⟩, fun i _ => ⟨sg_F_ga f4 rfl, sg_F_ga f4 rfl⟩⟩
  have U8 : kU3 σ σ8 e b p L := kU3_t u4 u8 ⟨Int.le_refl _, Int.le_refl _⟩ ⟨Int.le_refl _, Int.le_refl _⟩ ⟨Int.le_refl _, Int.le_refl _⟩ (fun _ h => h) (fun x hx => by simp at hx; rw [hx]; exact nL)
  have E8 : hEs3 σ8 es b := fun s hs => by
    have := hE s hs
    exact ⟨this.1, by rw [U8.2.1 s.2 this.1.2]; exact this.2⟩
  have D8 : cDq σ8 A cl L := cD_u3 (σ := σ) hD (sg_F_r _ _) F8 U8 (fun _ h => h)
  let X : sg_S → Prop := fun σ15 => ¬ sg_g σ15 38 13 = 0 ∨ ∃ b', sg_F kwL σ σ15 ∧ kS3 σ15 es e b' (p + (cd A 201 n).length) ∧ kU3 σ8 σ15 e b (p + 1) L ∧ (b ≤ b' ∧ b' + 1 ≤ b + L.length) ∧ rsN σ15 A ds 201 es n ∧ jpN σ15 A 201 n p ∧ kIn (sg_g σ15 6 n)
  have hX : ∀ σ', ¬ sg_g σ' 38 13 = 0 → X σ' := fun σ' z => Or.inl z
  have W : kWk σ X 401 n σ8 := by
    rw [show (401 : Nat) = (401 - (2 * L.length - 1)) + (2 * L.length - 1) by omega]
    refine kB3_all hX h hcl hds hdl hr 201 n L es e b p σ8 _ hf hN (fun _ h => h) (by omega) F8 S8 c2 ⟨by rw [c3.1, sg_F_ga f4 rfl], c3.2⟩ E8 D8 he hb (by omega) (fun σ' b' q1 q2 q3 q4 q5 q6 q7 => ?_)
    rw [g42]
    have x : X σ' := Or.inr ⟨b', q1, q2, q3, q4, q5, q6, q7⟩
    generalize 401 - (2 * L.length - 1) = m
    cases m with
    | zero => exact ⟨fun _ => x, fun _ => x, fun z => by omega⟩
    | succ m => exact ⟨fun _ => x, fun _ => x, fun z => by omega⟩
  refine ⟨fun m v13 v14 σ15 => v14 = 401 - (m : Int) ∧ m ≤ 401 ∧ kWk σ X m v13 σ15, X, ⟨401, rfl, Nat.le_refl _, W⟩, ?_, ?_⟩
  · rintro m v13 v14 σ15 r13 r14 f15 ⟨ev, hm, hk⟩
    cases m with
    | zero =>
      have x : X σ15 := by
        by_cases c : v13 < 0
        · exact hk.1 c
        · by_cases c' : sg_g σ15 38 13 = 0
          · exact (hk.2.2 (by omega) c').elim
          · exact hk.2.1 c'
      exact ⟨fun _ => x, fun _ => ⟨fun _ => x, fun _ => ⟨fun _ => x, fun c => (hk.2.2 (by omega) c).elim⟩⟩⟩
    | succ m =>
      refine ⟨fun z => by omega, fun _ => ⟨fun z => hk.1 z, fun z => ⟨fun z2 => hk.2.1 z2, fun z2 => ⟨kWk σ X m, hk.2.2 z z2, fun v44 σ42 _ _ h42 => ⟨⟨by omega, by omega⟩, m, by omega, by omega, by omega, h42⟩⟩⟩⟩⟩
  · intro σ15 f15 x
    rcases x with z | ⟨b', x1, x2, x3, x4, x5, x6, x7⟩
    · exact c_add (fun σ31 f31 _ => k1 σ31 (by rw [sg_F_g f31 (by rfl)]; exact z))
    · have cl5 := cd_len 201 n L hf
      obtain ⟨y1, ⟨y2, y3, y4⟩, y5, y6, y7, y8⟩ := id x2
      refine d3_add (p := p + (cd A 201 n).length) y4 ⟨y8, by omega⟩ (by decide) ⟨by omega, by omega⟩ (fun z => by omega) (fun σ31 f31 d1 d2 d3 d4 d5 _ => ?_)
      have FF : sg_F kwL σ σ31 := sg_F_t x1 (sg_F_m f31 rfl)
      have j32 : ∀ y, sg_g σ31 32 y = sg_g σ15 32 y := fun y => by rw [d5.1, if_neg (fun z => by omega)]
      have j33 : ∀ y, sg_g σ31 33 y = sg_g σ15 33 y := fun y => by rw [d5.2, if_neg (fun z => by omega)]
      have U : kU3 σ σ31 e b p L := kU3_t U8 (kU3_t x3 (⟨fun x _ => ⟨⟨sg_F_ga f31 rfl, sg_F_ga f31 rfl, j32 x, j33 x⟩, sg_F_ga f31 rfl, sg_F_ga f31 rfl, sg_F_ga f31 rfl, sg_F_ga f31 rfl⟩, fun s _ => sg_F_ga f31 rfl, fun i _ => ⟨sg_F_ga f31 rfl, sg_F_gal f31 rfl⟩, fun i hi => d4 i (by omega)⟩ : kU3 σ15 σ31 e b (p + (cd A 201 n).length) L) (L := L) (e := e) (b := b) (p := p) ⟨Int.le_refl _, Int.le_refl _⟩ ⟨Int.le_refl _, Int.le_refl _⟩ ⟨by omega, by omega⟩ (fun _ h => h) (fun _ h => h)) ⟨Int.le_refl _, Int.le_refl _⟩ ⟨Int.le_refl _, Int.le_refl _⟩ ⟨Int.le_refl _, Int.le_refl _⟩ (fun _ h => h) (fun _ h => h)
      have g31 : ∀ i, sg_g σ31 31 i = sg_g σ4 31 i := fun i => by rw [sg_F_ga f31 rfl, sg_F_ga f15 rfl, sg_F_ga f8 rfl]
      have rp : sg_R p := by rw [← s4]; exact sg_Rg _ _ _
      refine k2 σ31 b' FF ⟨by rw [sg_F_g f31 (by rfl)]; exact y1, ⟨by rw [sg_F_g f31 (by rfl)]; exact y2, by rw [sg_F_g f31 (by rfl)]; exact y3, d1⟩, kmE_F y5 f31 rfl, y6, y7, by omega⟩ U x4 ?_ (fun i hi => ?_) (rsN_st 201 es n L hf (fun x _ => sg_F_ga f31 rfl) x5) (jpN_st 201 n p L hf (fun x _ => ⟨j32 x, j33 x⟩) x6) (by rw [sg_F_ga f31 rfl]; exact x7)
      · rw [g31, e4, sg_gw_c _ _ _ _ _ _ (by decide), e1, sg_gw_e _ _ _ _ rp]
      · rw [g31, e4, sg_gw_c _ _ _ _ _ _ (by decide), e1, sg_gw_k _ _ _ _ _ _ hi]
/-- slots of PARAMS -/
def pE3 (b : Int) (x : aDf) : kE := gP b (x.2.2.1.map (fun p => (p.1, p.2.1))) []
/-- what stays over a DEF -/
def kV3 (σ σ' : sg_S) (L : List Int) : Prop := ∀ x, x ∉ L → sg_g σ' 6 x = sg_g σ 6 x ∧ sg_g σ' 16 x = sg_g σ 16 x ∧ sg_g σ' 32 x = sg_g σ 32 x ∧ sg_g σ' 33 x = sg_g σ 33 x
theorem gP_s : ∀ (g : List (Int × Int)) (y : Int × Int) (b : Int) (es : kE), gP b (g ++ [y]) es = (y.1, b + g.length) :: gP b g es
  | [], y, b, es => by simp [gP]
  | x :: r, y, b, es => by
    simp only [List.cons_append, gP, List.length_cons]
    rw [gP_s r y (b + 1)]
    rw [show b + 1 + (r.length : Int) = b + ((r.length + 1 : Nat) : Int) by omega]
theorem d3_definition {D : List aDf} {d : Nat} {x : aDf} {L : List Int} {b p : Int} {ds : kD} (h : ckW σ A) (hD : cD2 σ D) (hx : D[d]? = some x) (hW : dW A x) (hV : wD x) (hf : fT A [x.2.2.2] L) (hN : L.Nodup) (hr : ∀ x ∈ L, 0 ≤ x ∧ x < A.1) (hl : L.length ≤ 200) (hS : kS0 σ b p) (hds : dsC σ d ds) (hC : cDq σ A d L) (hb : b + x.2.2.1.length + L.length ≤ 272) (hp : p + 5 * L.length + 1 ≤ 1013) (k1 : ∀ σ', ¬ sg_g σ' 38 13 = 0 → Q σ') (k2 : ∀ σ' b', sg_F dfL σ σ' → kS0 σ' b' (p + (cd A 201 x.2.2.2).length + 1) → kV3 σ σ' L → b' + 1 ≤ b + x.2.2.1.length + L.length → (sg_g σ' 24 d = b ∧ sg_g σ' 31 d = p ∧ ∀ i, ¬ i = (d : Int) → sg_g σ' 24 i = sg_g σ 24 i ∧ sg_g σ' 31 i = sg_g σ 31 i) → rsN σ' A ds 201 (pE3 b x) x.2.2.2 → jpN σ' A 201 x.2.2.2 p → kIn (sg_g σ' 6 x.2.2.2) → kDef ds x.1 = none → Q σ') : V_kDefinition σ d Q := by
  have hd12 : d < 12 := by
    have := hD.2.1
    have := gE_l hx
    omega
  have d12 : (0 : Int) ≤ (d : Int) ∧ (d : Int) < 12 := by omega
  have hdn := dsC_n hds
  obtain ⟨y1, y2, y3, y4, y5, y6⟩ := hD.2.2 d x hx
  obtain ⟨w1, w2, w3⟩ := hW
  obtain ⟨⟨v1, v2⟩, v3⟩ := hV
  obtain ⟨s1, ⟨s2, s3⟩, s4, s5⟩ := hS
  have hpe : pE3 b x = gP b (x.2.2.1.map (fun p => (p.1, p.2.1))) [] := rfl
  generalize hps : x.2.2.1 = ps at *
  unfold V_kDefinition
  intro σ1 e1 σ4 e4
  have f4 : sg_F [10038, 12038] σ σ4 := by rw [e4, e1]; exact sg_F_w (sg_F_w (sg_F_r _ _) rfl _) rfl _
  have k4 : sg_g σ4 38 9 = 0 := by rw [e4, sg_gw_k _ _ _ _ _ _ (by decide), e1, sg_gw_e _ _ _ _ (by decide)]
  have d4 : sg_g σ4 38 11 = d := by rw [e4, sg_gw_e _ _ _ _ ⟨by omega, by omega⟩]
  have z4 : sg_g σ4 38 13 = 0 := by rw [sg_F_g f4 (by rfl)]; exact s1
  rw [xl_in (a := 20) d12, y1, xa_in (a := 23) d12, y4, xa_in (a := 22) d12, y3, s2]
  have main : ∀ σ16, sg_F [13038, 14038] σ4 σ16 → (¬ sg_g σ16 38 13 = 0 ∨ kDef ds x.1 = none) → ∀ σ19, σ19 = sx_put σ16 24 12 d b → (∃ (I25 : Nat → Int → sg_S → Prop) (X27 : sg_S → Prop), (∃ n, I25 n 0 σ19) ∧ (∀ (n35 : Nat) (v22 : Int) (σ23 : sg_S), sg_R v22 → sg_F [34, 39, 40, 10038, 11038, 13038, 14038] σ19 σ23 → I25 n35 v22 σ23 → (((ps.length : Int) ≤ v22 → X27 σ23) ∧ (v22 < (ps.length : Int) → ((6 ≤ v22 → X27 σ23) ∧ (v22 < 6 → sg_R ((d : Int) * 6) ∧ sg_R (((d : Int) * 6) + v22) ∧ V_kFind σ23 ((sx_atl σ 25 72 ((((d : Int) * 6) + v22)))) (fun q48 _ => sg_R q48 → (∃ P56 : sg_S → Prop, ((q48 < 0 → P56 σ23) ∧ (0 ≤ q48 → V_kBlame σ23 (2) ((sx_at σ 26 72 ((((d : Int) * 6) + v22)))) (fun σ81 => sg_F [13038, 14038] σ23 σ81 → P56 σ81))) ∧ (∀ (σ57 : sg_S), sg_F [13038, 14038] σ23 σ57 → P56 σ57 → (∃ P62 : sg_S → Prop, (((sx_at σ 27 72 ((((d : Int) * 6) + v22))) ≤ 3 → P62 σ57) ∧ (3 < (sx_at σ 27 72 ((((d : Int) * 6) + v22))) → V_kBlame σ57 (3) ((sx_at σ 26 72 ((((d : Int) * 6) + v22)))) (fun σ75 => sg_F [13038, 14038] σ57 σ75 → P62 σ75))) ∧ (∀ (σ63 : sg_S), sg_F [13038, 14038] σ57 σ63 → P62 σ63 → V_kBind σ63 ((sx_atl σ 25 72 ((((d : Int) * 6) + v22)))) ((sx_at σ 27 72 ((((d : Int) * 6) + v22)))) (fun q66 σ67 => sg_R q66 → sg_F [34, 39, 40, 10038, 11038] σ63 σ67 → sg_R (v22 + 1) ∧ (∃ m, m < n35 ∧ I25 m ((v22 + 1)) σ67)))))))))))) ∧ (∀ (σ23 : sg_S), sg_F [34, 39, 40, 10038, 11038, 13038, 14038] σ19 σ23 → X27 σ23 → ((¬ (sg_g σ23 38 13) = 0 → Q σ23) ∧ ((sg_g σ23 38 13) = 0 → V_kWalk σ23 (d : Int) (x.2.2.2) (fun σ39 => sg_F [6, 16, 29, 30, 31, 32, 33, 34, 39, 40, 41, 42, 43, 44, 7028, 10038, 11038, 13038, 14038] σ23 σ39 → Q σ39))))) := by
    intro σ16 f16 h16 σ19 e19
    rw [xp_in d12] at e19
    have f19 : sg_F [24] σ16 σ19 := by rw [e19]; exact sg_F_w (sg_F_r _ _) rfl _
    have F19 : sg_F [24, 10038, 12038, 13038, 14038] σ σ19 := sg_F_t (sg_F_t (sg_F_m f4 rfl) (sg_F_m f16 rfl)) (sg_F_m f19 rfl)
    have g24 : sg_g σ19 24 d = b := by rw [e19, sg_gw_e _ _ _ _ ⟨by omega, by omega⟩]
    have o24 : ∀ i, ¬ i = (d : Int) → sg_g σ19 24 i = sg_g σ 24 i := fun i hi => by rw [e19, sg_gw_k _ _ _ _ _ _ hi, sg_F_ga f16 rfl, sg_F_ga f4 rfl]
    have k19 : sg_g σ19 38 9 = 0 := by rw [sg_F_g f19 (by rfl), sg_F_g f16 (by rfl)]; exact k4
    have c19 : sg_g σ19 38 10 = b := by rw [sg_F_g F19 (by rfl)]; exact s2
    have h19 : ¬ sg_g σ19 38 13 = 0 ∨ kDef ds x.1 = none := by
      rcases h16 with z | z
      · exact Or.inl (by rw [sg_F_g f19 (by rfl)]; exact z)
      · exact Or.inr z
    have t27 : ∀ (j : Nat) (y : Int × Int × Int), ps[j]? = some y → sg_g σ 27 (6 * d + j) = y.2.2 := fun j y hy => (y6 j y hy).2.2
    refine ⟨fun m v σ23 => ∃ j : Nat, v = j ∧ m = ps.length - j ∧ j ≤ ps.length ∧ (sg_g σ23 38 9 = j ∧ sg_g σ23 38 10 = b + j) ∧ kmE σ23 j (gP b ((ps.take j).map (fun p => (p.1, p.2.1))) []) ∧ (∀ i : Nat, i < j → sg_g σ23 34 (b + i) = sg_g σ 27 (6 * d + i)) ∧ (∀ s, s < b → sg_g σ23 34 s = sg_g σ 34 s) ∧ (¬ sg_g σ23 38 13 = 0 ∨ ((∀ i : Nat, i < j → sg_g σ 27 (6 * d + i) ≤ 3) ∧ kDef ds x.1 = none)), fun σ23 => (sg_g σ23 38 9 = ps.length ∧ sg_g σ23 38 10 = b + ps.length) ∧ kmE σ23 ps.length (gP b (ps.map (fun p => (p.1, p.2.1))) []) ∧ (∀ i : Nat, i < ps.length → sg_g σ23 34 (b + i) = sg_g σ 27 (6 * d + i)) ∧ (∀ s, s < b → sg_g σ23 34 s = sg_g σ 34 s) ∧ (¬ sg_g σ23 38 13 = 0 ∨ ((∀ i : Nat, i < ps.length → sg_g σ 27 (6 * d + i) ≤ 3) ∧ kDef ds x.1 = none)), ⟨_, 0, rfl, rfl, Nat.zero_le _, ⟨by rw [k19]; rfl, by rw [c19]; omega⟩, by simp [gP, kmE], fun i hi => by omega, fun s _ => sg_F_ga F19 rfl, ?_⟩, ?_, ?_⟩
    · rcases h19 with z | z
      · exact Or.inl z
      · exact Or.inr ⟨fun i hi => by omega, z⟩
    · rintro m v σ23 rv fr ⟨j, rfl, em, hj, ⟨a1, a2⟩, a3, a4, a5, a6⟩
      have fin : ps.length ≤ j → (sg_g σ23 38 9 = ps.length ∧ sg_g σ23 38 10 = b + ps.length) ∧ kmE σ23 ps.length (gP b (ps.map (fun p => (p.1, p.2.1))) []) ∧ (∀ i : Nat, i < ps.length → sg_g σ23 34 (b + i) = sg_g σ 27 (6 * d + i)) ∧ (∀ s, s < b → sg_g σ23 34 s = sg_g σ 34 s) ∧ (¬ sg_g σ23 38 13 = 0 ∨ ((∀ i : Nat, i < ps.length → sg_g σ 27 (6 * d + i) ≤ 3) ∧ kDef ds x.1 = none)) := fun q => by
        have : j = ps.length := by omega
        subst this
        rw [List.take_of_length_le (Nat.le_refl _)] at a3
        exact ⟨⟨a1, a2⟩, a3, a4, a5, a6⟩
      refine ⟨fun c1 => fin (by omega), fun c1 => ⟨fun c2 => fin (by omega), fun c2 => ⟨⟨by omega, by omega⟩, ⟨by omega, by omega⟩, ?_⟩⟩⟩
      have i72 : (0 : Int) ≤ (d : Int) * 6 + j ∧ (d : Int) * 6 + j < 72 := by omega
      have ei : (d : Int) * 6 + (j : Int) = 6 * (d : Int) + j := by omega
      obtain ⟨y, hy⟩ : ∃ y, ps[j]? = some y := ⟨_, List.getElem?_eq_getElem (by omega)⟩
      obtain ⟨u1, u2, u3⟩ := y6 j y hy
      have vy := v3 y (List.mem_of_getElem? hy)
      rw [xa_in (a := 27) i72, xl_in (a := 25) i72, ei, u1]
      have rest : ∀ σ57, sg_F [13038, 14038] σ23 σ57 → (¬ sg_g σ23 38 13 = 0 → ¬ sg_g σ57 38 13 = 0) → (∃ P62 : sg_S → Prop, ((sg_g σ 27 (6 * (d : Int) + j) ≤ 3 → P62 σ57) ∧ (3 < sg_g σ 27 (6 * (d : Int) + j) → V_kBlame σ57 (3) (sx_at σ 26 72 (6 * (d : Int) + j)) (fun σ75 => sg_F [13038, 14038] σ57 σ75 → P62 σ75))) ∧ (∀ (σ63 : sg_S), sg_F [13038, 14038] σ57 σ63 → P62 σ63 → V_kBind σ63 (uv y.1) (sg_g σ 27 (6 * (d : Int) + j)) (fun q66 σ67 => sg_R q66 → sg_F [34, 39, 40, 10038, 11038] σ63 σ67 → sg_R ((j : Int) + 1) ∧ (∃ m', m' < m ∧ ∃ j' : Nat, (j : Int) + 1 = j' ∧ m' = ps.length - j' ∧ j' ≤ ps.length ∧ (sg_g σ67 38 9 = j' ∧ sg_g σ67 38 10 = b + j') ∧ kmE σ67 j' (gP b ((ps.take j').map (fun p => (p.1, p.2.1))) []) ∧ (∀ i : Nat, i < j' → sg_g σ67 34 (b + i) = sg_g σ 27 (6 * d + i)) ∧ (∀ s, s < b → sg_g σ67 34 s = sg_g σ 34 s) ∧ (¬ sg_g σ67 38 13 = 0 ∨ ((∀ i : Nat, i < j' → sg_g σ 27 (6 * d + i) ≤ 3) ∧ kDef ds x.1 = none)))))) := fun σ57 f57 h57 => by
        refine ⟨fun σ62 => ¬ sg_g σ62 38 13 = 0 ∨ (σ62 = σ57 ∧ sg_g σ 27 (6 * (d : Int) + j) ≤ 3), ⟨fun c => Or.inr ⟨rfl, c⟩, fun _ => d_blame (by decide) (fun σ' z _ _ => Or.inl z)⟩, fun σ63 f63 h63 => ?_⟩
        have f2363 : sg_F [13038, 14038] σ23 σ63 := sg_F_t f57 f63
        refine d3_bind (es := gP b ((ps.take j).map (fun p => (p.1, p.2.1))) []) (e := j) (b := b + j) (kmE_F a3 f2363 rfl) (by rw [sg_F_g f2363 (by rfl)]; exact a1) (by rw [sg_F_g f2363 (by rfl)]; exact a2) ⟨⟨by omega, by omega⟩, by omega, by omega⟩ vy.1 (by rw [← u1]; exact sg_Rgl _ _ _) (sg_Rg _ _ _) (fun σ67 f67 b1 b2 b3 b4 b5 b6 _ _ => ⟨⟨by omega, by omega⟩, ps.length - (j + 1), by omega, j + 1, by omega, rfl, by omega, ⟨by rw [b1]; omega, by rw [b2]; omega⟩, ?_, fun i hi => ?_, fun s hs => ?_, ?_⟩)
        · rw [tkF_1 hy, List.map_append, List.map_cons, List.map_nil, gP_s, List.length_map, List.length_take, show min j ps.length = j by omega, show ((j + 1 : Nat) : Int) = (j : Int) + 1 by omega]
          exact b3
        · by_cases c : i = j
          · subst c; exact b5
          · rw [b6 _ (by omega), sg_F_ga f2363 rfl]; exact a4 i (by omega)
        · rw [b6 _ (by omega), sg_F_ga f2363 rfl]; exact a5 s hs
        · rcases h63 with z | ⟨z1, z2⟩
          · exact Or.inl (by rw [sg_F_g f67 (by rfl)]; exact z)
          · rw [sg_F_g f67 (by rfl), z1]
            rcases a6 with z | ⟨z, z'⟩
            · exact Or.inl (h57 z)
            · right
              refine ⟨fun i hi => ?_, z'⟩
              by_cases c : i = j
              · subst c; exact z2
              · exact z i (by omega)
      refine d_find a1 ⟨by omega, by omega⟩ (fun _ => ?_) (fun i _ _ _ => ?_)
      · exact ⟨fun σ57 => ¬ sg_g σ23 38 13 = 0 → ¬ sg_g σ57 38 13 = 0, ⟨fun _ z => z, fun _ => d_blame (by decide) (fun σ' z _ _ _ => z)⟩, fun σ57 f57 h57 => rest σ57 f57 h57⟩
      · exact ⟨fun σ57 => ¬ sg_g σ23 38 13 = 0 → ¬ sg_g σ57 38 13 = 0, ⟨fun _ z => z, fun _ => d_blame (by decide) (fun σ' z _ _ _ => z)⟩, fun σ57 f57 h57 => rest σ57 f57 h57⟩
    · rintro σ23 f23 ⟨⟨a1, a2⟩, a3, a4, a5, a6⟩
      refine ⟨fun z => k1 σ23 z, fun z => ?_⟩
      have F23 : sg_F [24, 34, 39, 40, 10038, 11038, 12038, 13038, 14038] σ σ23 := sg_F_t (sg_F_m F19 rfl) (sg_F_m f23 rfl)
      obtain ⟨a7, a8⟩ : (∀ i : Nat, i < ps.length → sg_g σ 27 (6 * d + i) ≤ 3) ∧ kDef ds x.1 = none := by
        rcases a6 with q | q
        · exact absurd z q
        · exact q
      have S23 : kS3 σ23 (pE3 b x) ps.length (b + ps.length) p := ⟨z, ⟨a1, a2, by rw [sg_F_g F23 (by rfl)]; exact s3⟩, by rw [hpe]; exact a3, by omega, by omega, s5⟩
      have tk : ∀ i : Nat, i < ps.length → kIn (sg_g σ23 34 (b + i)) := fun i hi => by
        have hy : ps[i]? = some (ps[i]'hi) := List.getElem?_eq_getElem hi
        have q1 := t27 i _ hy
        have q2 := w2 _ (List.mem_of_getElem? hy)
        have q3 := a7 i hi
        rw [a4 i hi]
        unfold kIn
        omega
      have E23 : hEs3 σ23 (pE3 b x) (b + ps.length) := fun s hs => by
        rw [hpe] at hs
        rcases gP_m hs with q | q
        · simp at q
        · rw [List.length_map] at q
          have := tk (s.2 - b).toNat (by omega)
          rw [show b + (((s.2 - b).toNat : Nat) : Int) = s.2 by omega] at this
          exact ⟨⟨by omega, by omega⟩, this⟩
      have C23 : cDq σ23 A d L := fun q q1 q2 => by
        obtain ⟨y0, ps', r, z1, z2, z3, z4⟩ := hC q q1 q2
        exact ⟨y0, ps', r, dcQ_F z1 F23 rfl, z2, by rw [sg_F_ga F23 rfl]; exact z3, z4⟩
      have cl23 : sg_g σ23 38 11 = d := by rw [sg_F_g f23 (by rfl), sg_F_g f19 (by rfl), sg_F_g f16 (by rfl)]; exact d4
      refine d3_walk (ds := ds) (ckW_F h F23 rfl) hf hN hr hl ⟨d12.1, by omega⟩ S23 E23 cl23 (dsC_F F23 rfl hds) (by omega) C23 (by omega) (by omega) hp (fun σ' q _ => k1 σ' q) (fun σ' b' g1 g2 g3 g0 g4 g5 g6 g7 g8 _ => ?_)
      have FF : sg_F dfL σ σ' := sg_F_t (sg_F_m F23 rfl) (sg_F_m g1 rfl)
      obtain ⟨q1, ⟨q2, q3, q4⟩, q5, q6, q7, q8⟩ := g2
      refine k2 σ' b' FF ⟨q1, ⟨q3, q4⟩, q7, q8⟩ (fun y hy => ?_) g0.2 ⟨by rw [sg_F_ga g1 rfl, sg_F_ga f23 rfl]; exact g24, g4, fun i hi => ⟨by rw [sg_F_ga g1 rfl, sg_F_ga f23 rfl]; exact o24 i hi, by rw [g5 i hi, sg_F_ga F23 rfl]⟩⟩ g6 g7 g8 a8
      obtain ⟨⟨r1, r2, r3, r4⟩, -⟩ := g3.1 y hy
      exact ⟨by rw [r1, sg_F_ga F23 rfl], by rw [r2, sg_F_ga F23 rfl], by rw [r3, sg_F_ga F23 rfl], by rw [r4, sg_F_ga F23 rfl]⟩
  refine d3_dfind (dsC_F f4 rfl hds) (by omega) v1 (fun z _ => ?_) (fun q _ _ _ q0 _ _ _ _ => ?_)
  · exact ⟨fun σ16 => ¬ sg_g σ16 38 13 = 0 ∨ kDef ds x.1 = none, ⟨fun _ => Or.inr z, fun _ => d_blame (by decide) (fun _ q _ _ => Or.inl q)⟩, fun σ16 f16 h16 σ19 e19 => main σ16 f16 h16 σ19 e19⟩
  · exact ⟨fun σ16 => ¬ sg_g σ16 38 13 = 0 ∨ kDef ds x.1 = none, ⟨fun c => by omega, fun _ => d_blame (by decide) (fun _ q _ _ => Or.inl q)⟩, fun σ16 f16 h16 σ19 e19 => main σ16 f16 h16 σ19 e19⟩
end WK5T
