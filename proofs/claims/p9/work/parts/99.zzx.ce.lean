/-! THE WALK of the checker a third time: nodes. -/
section WK3T
variable {σ : sg_S} {A : aT} {X : sg_S → Prop}
theorem kStg3 {ds : kD} {cl : Int} {Lw : List Int} {f : Nat} {n : Int} (hX : ∀ σ', ¬ sg_g σ' 38 13 = 0 → X σ') (h : ckW σ A) (hn : 0 ≤ n ∧ n < A.1) (hw : nW A n) (hnw : n ∈ Lw) (F : kB3 σ A X ds cl Lw f) : ∀ (R L : List Int) (s : Nat) (es : kE) (e b p : Int) (σ15 : sg_S) (m : Nat), (kOrd A n).drop s = R → s ≤ (kOrd A n).length → fT A R L → L.Nodup → (∀ x ∈ L, x ∈ Lw) → n ∉ L → (∀ y ∈ (kOrd A n).take s, y ∉ n :: L) → L.length ≤ f → sg_F kwL σ σ15 → kS3 σ15 es e b p → sg_g σ15 44 n = s → (∀ y, R.head? = some y → sg_g σ15 43 n = y) → (∀ y ∈ (kOrd A n).take s, kIn (sg_g σ15 6 y)) → hEs3 σ15 es b → cDq σ15 A cl Lw → e + od A n s + L.length ≤ 272 → b + od A n s + L.length ≤ 272 → p + oRq A n s R + 5 * L.length ≤ 1013 → (∀ σ' es' e' b', sg_F kwL σ σ' → kS3 σ' es' e' b' (p + (cdS A (cd A f) n s R).length) → e ≤ e' ∧ e' ≤ 272 → (b ≤ b' ∧ b' + od A n (s + R.length) ≤ b + L.length + od A n s) → kU3 σ15 σ' e b p (n :: L) → (sg_g σ' 41 n = sg_g σ15 41 n ∧ sg_g σ' 42 n = sg_g σ15 42 n) → sg_g σ' 44 n = (kOrd A n).length → rsS σ' A (rsN σ' A ds f) n s es R → jpS σ' A f (jpN σ' A f) n s p R → (∀ y ∈ kOrd A n, kIn (sg_g σ' 6 y)) → ((∀ j, s ≤ j → kNo A n j) → sg_g σ' 16 n = sg_g σ15 16 n) → ((∀ j, s ≤ j → ¬ (A.2.1 n = 3 ∧ j = 2) ∧ ¬ (A.2.1 n = 15 ∧ j = (A.2.2.2.2.2 n).length)) → sg_g σ' 32 n = sg_g σ15 32 n) → kWk σ X m n σ') → kWk σ X (m + 2 * L.length) n σ15
  | [], L, s, es, e, b, p, σ15, m, hd, hs, hf, hN, hLw, hnL, hpr, hlf, f15, hS, h44, h43, ht, hE, hD, he, hb, hp, k => by
    have e0 := fT_nil hf
    subst e0
    have sl : s = (kOrd A n).length := by
      have : ((kOrd A n).drop s).length = 0 := by rw [hd]; rfl
      rw [List.length_drop] at this
      omega
    simp only [List.length_nil, Nat.mul_zero, Nat.add_zero]
    refine k σ15 es e b f15 ?_ ⟨Int.le_refl _, by simp only [List.length_nil] at he; omega⟩ ⟨Int.le_refl _, by simp⟩ (kU3_r _ _ _ _ _) ⟨rfl, rfl⟩ (by rw [h44, sl]) True.intro True.intro (fun y hy => ht y (by rw [sl, List.take_length]; exact hy)) (fun _ => rfl) (fun _ => rfl)
    simp only [cdS, List.length_nil]
    rw [show p + ((0 : Nat) : Int) = p by omega]
    exact hS
  | x :: R, L, s, es, e, b, p, σ15, m, hd, hs, hf, hN, hLw, hnL, hpr, hlf, f15, hS, h44, h43, ht, hE, hD, he, hb, hp, k => by
    obtain ⟨L1, L2, e1, w1, w2, w3⟩ := fT_inv hf
    subst e1
    have hx : (kOrd A n)[s]? = some x := by rw [← List.head?_drop, hd]; rfl
    have hsl : s < (kOrd A n).length := gE_l hx
    have i1 : ∀ y, y ∈ x :: L1 → y ∈ x :: (L1 ++ L2) := fun y hy => by rw [← List.cons_append]; exact List.mem_append_left _ hy
    have i2 : ∀ y, y ∈ L2 → y ∈ x :: (L1 ++ L2) := fun y hy => by rw [← List.cons_append]; exact List.mem_append_right _ hy
    have hN1 : (x :: L1).Nodup := List.Nodup.sublist (by rw [← List.cons_append]; exact List.sublist_append_left _ _) hN
    have hN2 : L2.Nodup := List.Nodup.sublist (by rw [← List.cons_append]; exact List.sublist_append_right _ _) hN
    have dj : ∀ y ∈ x :: L1, y ∉ L2 := fun y hy z => by
      rw [← List.cons_append, List.nodup_append] at hN
      exact hN.2.2 y hy y z rfl
    have hxn : ¬ x = n := fun z => hnL (by rw [← z]; simp)
    have hnx : n ∉ x :: L1 := fun z => hnL (i1 n z)
    have hn2 : n ∉ L2 := fun z => hnL (i2 n z)
    have hl : (x :: (L1 ++ L2)).length = (x :: L1).length + L2.length := by rw [← List.cons_append, List.length_append]
    have hl1 : 1 ≤ (x :: L1).length := by simp
    rw [hl] at he hb hp hlf ⊢
    simp only [oRq] at hp
    have o1 := bA_od A n s b
    have o2 := od_s A n s b
    have o3 := bA_le A n s b
    have e0 := hS.2.2.2.1
    have b0 := hS.2.2.2.2.1
    have p0 := hS.2.2.2.2.2
    rw [show m + 2 * ((x :: L1).length + L2.length) = ((m + 2 * L2.length) + (2 * (x :: L1).length - 1)) + 1 by omega]
    refine w3_push (s := s) (R := R) hX h f15 hn hw hd hS h44 (h43 x rfl) ht hxn (by omega) (by omega) (by omega) (fun σ1 f1 S1 u1 g1 g2 c2 c3 c4 c5 c6 c7 c8 => ?_)
    have hE1 : hEs3 σ1 (eA3 A n s es b) (bA A n s b) := fun y hy => by
      have old : ∀ y ∈ es, (0 ≤ y.2 ∧ y.2 < b) ∧ kIn (sg_g σ1 34 y.2) := fun y hy => by
        have := hE y hy
        exact ⟨this.1, by rw [u1.2.1 y.2 this.1.2]; exact this.2⟩
      have kk : ∀ z ∈ (kOrd A n).take s, kIn (sg_g σ1 6 z) := fun z hz => by
        have nz := hpr z hz
        rw [(u1.1 z (fun q => nz (by
          simp only [List.mem_cons, List.not_mem_nil, or_false] at q
          rcases q with q | q
          · rw [q]; exact List.mem_cons_self
          · rw [q]; exact List.mem_cons_of_mem _ (by simp)))).1.1]
        exact ht z hz
      unfold eA3 at hy
      unfold bA at o3 ⊢
      split at hy
      · rename_i cc
        rw [if_pos cc]
        rcases List.mem_cons.mp hy with q | q
        · subst q
          obtain ⟨t1, t2⟩ := c3.1 cc.1 cc.2
          refine ⟨⟨by simp only; omega, by simp only; omega⟩, ?_⟩
          simp only
          rw [t2]
          have ho : kOrd A n = A.2.2.2.2.1 n := by unfold kOrd; rw [if_neg (by omega)]
          have l2 := hw.2.2.1 (Or.inl cc.1)
          refine kk _ ?_
          rw [ho, cc.2, List.getD_eq_getElem?_getD, List.getElem?_eq_getElem (by omega), Option.getD_some, List.mem_take_iff_getElem]
          exact ⟨0, by omega, rfl⟩
        · have := old y q
          exact ⟨⟨by omega, by omega⟩, this.2⟩
      · rename_i cc
        rw [if_neg cc]
        split at hy
        · rename_i c15
          rw [if_pos c15]
          rcases gP_m hy with q | q'
          · have := old y q
            exact ⟨⟨by omega, by omega⟩, this.2⟩
          · obtain ⟨t1, t2⟩ := c3.2 c15.1 c15.2
            have w7 := hw.2.2.2.2.2.2.1 c15.1
            have gl : (kGs A n).length = (A.2.2.2.2.2 n).length := by unfold kGs; rw [List.length_take, List.length_drop]; omega
            have hz : (kGs A n)[(y.2 - b).toNat]? = some ((kGs A n)[(y.2 - b).toNat]'(by omega)) := List.getElem?_eq_getElem _
            have t3 := t2 _ _ hz
            rw [show b + (((y.2 - b).toNat : Nat) : Int) = y.2 by omega] at t3
            have mz := List.mem_of_getElem? hz
            have pos := c7 c15.1 c15.2 _ mz
            have kz := kk _ (by
              have : kGs A n = (kOrd A n).take s := by
                unfold kGs kOrd
                rw [if_pos c15.1, List.take_append_of_le_length (by rw [List.length_drop]; omega), c15.2]
              rw [← this]; exact mz)
            refine ⟨⟨by omega, by omega⟩, ?_⟩
            rw [t3]
            unfold kIn at kz ⊢
            omega
        · rename_i c15
          rw [if_neg c15]
          exact old y hy
    have nxs : ∀ y ∈ [n, x], y ∈ n :: (x :: (L1 ++ L2)) := fun y hy => by
      simp only [List.mem_cons, List.not_mem_nil, or_false] at hy
      rcases hy with q | q <;> simp [q]
    have nxw : ∀ y ∈ [n, x], y ∈ Lw := fun y hy => by
      simp only [List.mem_cons, List.not_mem_nil, or_false] at hy
      rcases hy with q | q
      · rw [q]; exact hnw
      · rw [q]; exact hLw x (by simp)
    have D1 := cD_u3 hD f15 f1 u1 nxw
    refine F x (x :: L1) (eA3 A n s es b) (e + (bA A n s b - b)) (bA A n s b) (p + (ahd A n s).length) σ1 (m + 2 * L2.length) (fT_one w1 w2) hN1 (fun y hy => hLw y (i1 y hy)) (by omega) f1 S1 c5 c6 hE1 D1 (by omega) (by omega) (by omega) (fun σ2 b2 f2 S2 u2 d0 d1 d2 d3 => ?_)
    rw [g1.2.2]
    have clen := cd_len f x _ (fT_one w1 w2)
    have D2 := cD_u3 D1 f1 f2 u2 (fun y hy => hLw y (i1 y hy))
    have un := u2.1 n hnx
    have hE2 : hEs3 σ2 (eA3 A n s es b) b2 := fun y hy => by
      have := hE1 y hy
      exact ⟨⟨by omega, by omega⟩, by rw [u2.2.1 y.2 this.1.2]; exact this.2⟩
    have tk : (kOrd A n).take (s + 1) = (kOrd A n).take s ++ [x] := by rw [List.take_add_one, hx]; rfl
    have pr2 : ∀ y ∈ (kOrd A n).take (s + 1), y ∉ n :: L2 := fun y hy z => by
      rw [tk] at hy
      rcases List.mem_append.mp hy with q | q
      · rcases List.mem_cons.mp z with w | w
        · exact hpr y q (by rw [w]; exact List.mem_cons_self)
        · exact hpr y q (List.mem_cons_of_mem _ (i2 y w))
      · simp at q
        subst q
        rcases List.mem_cons.mp z with w | w
        · exact hxn w
        · exact dj y (by simp) w
    have prx : ∀ y ∈ (kOrd A n).take s, y ∉ x :: L1 ∧ y ∉ [n, x] := fun y hy => ⟨fun z => hpr y hy (List.mem_cons_of_mem _ (i1 y z)), fun z => hpr y hy (nxs y z)⟩
    have ht2 : ∀ y ∈ (kOrd A n).take (s + 1), kIn (sg_g σ2 6 y) := fun y hy => by
      rw [tk] at hy
      rcases List.mem_append.mp hy with q | q
      · rw [(u2.1 y (prx y q).1).1.1, (u1.1 y (prx y q).2).1.1]; exact ht y q
      · simp at q; subst q; exact d3
    refine kStg3 hX h hn hw hnw F R L2 (s + 1) (eA3 A n s es b) (e + (bA A n s b - b)) b2 (p + (ahd A n s).length + (cd A f x).length) σ2 m (by rw [← List.drop_drop, hd]; rfl) (by omega) w3 hN2 (fun y hy => hLw y (i2 y hy)) hn2 pr2 (by omega) f2 S2 (by rw [un.2.2.2.2]; exact g2.1) (fun y hy => by rw [un.2.2.2.1]; exact g2.2 y hy) ht2 hE2 D2 (by omega) (by omega) (by omega) (fun σ3 es3 e3 b3 f3 S3 q1 q2 u3 q3 q4 q5 q6 q7 q8 q9 => ?_)
    have U12 : kU3 σ15 σ2 e b p (n :: (x :: (L1 ++ L2))) := kU3_t u1 u2 ⟨Int.le_refl _, by omega⟩ ⟨Int.le_refl _, by omega⟩ ⟨Int.le_refl _, by omega⟩ nxs (fun y hy => List.mem_cons_of_mem _ (i1 y hy))
    have U13 : kU3 σ15 σ3 e b p (n :: (x :: (L1 ++ L2))) := kU3_t U12 u3 ⟨Int.le_refl _, by omega⟩ ⟨Int.le_refl _, by omega⟩ ⟨Int.le_refl _, by omega⟩ (fun y hy => hy) (fun y hy => by
      rcases List.mem_cons.mp hy with w | w
      · rw [w]; exact List.mem_cons_self
      · exact List.mem_cons_of_mem _ (i2 y w))
    have xk : ∀ y ∈ x :: L1, y ∉ n :: L2 := fun y hy z => by
      rcases List.mem_cons.mp z with w | w
      · exact hnx (by rw [← w]; exact hy)
      · exact dj y hy w
    have rs3 := rsN_st (σ := σ2) (σ' := σ3) f _ x (x :: L1) (fT_one w1 w2) (fun y hy => (u3.1 y (xk y hy)).1.2.1) d1
    have jp3 := jpN_st (σ := σ2) (σ' := σ3) f x _ (x :: L1) (fT_one w1 w2) (fun y hy => (u3.1 y (xk y hy)).1.2.2) d2
    have nb : ¬ kNo A n s → sg_g σ3 16 n = b := fun cn => by
      have later : ∀ j, s + 1 ≤ j → kNo A n j := fun j hj => by
        refine ⟨fun z => cn ⟨fun _ => ?_, fun y => ?_⟩, fun z => cn ⟨fun y => ?_, fun y => ?_⟩⟩ <;> omega
      have n16 : sg_g σ3 16 n = sg_g σ1 16 n := by rw [q8 later, un.1.2.1]
      rw [n16]
      by_cases a : A.2.1 n = 2 ∧ s = 1
      · exact (c3.1 a.1 a.2).1
      · by_cases a2 : A.2.1 n = 15 ∧ s = (A.2.2.2.2.2 n).length
        · exact (c3.2 a2.1 a2.2).1
        · exact absurd ⟨a, a2⟩ cn
    have ee : eA3 A n s es (sg_g σ3 16 n) = eA3 A n s es b := by
      by_cases cn : kNo A n s
      · rw [eA3_no cn, eA3_no cn]
      · rw [nb cn]
    refine k σ3 es3 e3 b3 f3 ?_ ⟨by omega, q1.2⟩ ⟨by omega, ?_⟩ U13 ⟨by rw [q3.1, un.2.1]; exact g1.1, by rw [q3.2, un.2.2.1]; exact g1.2.1⟩ q4 ?_ ?_ q7 (fun z => ?_) (fun z => ?_)
    · simp only [cdS, List.length_append]
      rw [show p + (((ahd A n s).length + ((cd A f x).length + (cdS A (cd A f) n (s + 1) R).length) : Nat) : Int) = p + (ahd A n s).length + (cd A f x).length + (cdS A (cd A f) n (s + 1) R).length by omega]
      exact S3
    · have q22 := q2.2
      have e1' : s + 1 + R.length = s + (x :: R).length := by simp only [List.length_cons]; omega
      rw [e1'] at q22
      rw [hl]
      have d02 := d0.2
      omega
    · simp only [rsS]
      rw [ee]
      exact ⟨rs3, q5⟩
    · simp only [jpS]
      refine ⟨⟨fun a c => ?_, fun a c => ?_⟩, jp3, q6⟩
      · rw [q9 (fun j hj => ⟨by omega, by omega⟩), un.1.2.2.1]
        exact c8.1.1 a c
      · rw [q9 (fun j hj => ⟨by omega, by omega⟩), un.1.2.2.1]
        exact c8.1.2 a c
    · rw [q8 (fun j hj => z j (by omega)), un.1.2.1]
      exact c4 (z s (Nat.le_refl _))
    · rw [q9 (fun j hj => z j (by omega)), un.1.2.2.1]
      exact c8.2.1 (z s (Nat.le_refl _)).1 (z s (Nat.le_refl _)).2
theorem kB3_all {ds : kD} {cl : Int} {Lw : List Int} (hX : ∀ σ', ¬ sg_g σ' 38 13 = 0 → X σ') (h : ckW σ A) (hcl : sg_g σ 38 11 = cl) (hds : dsC σ cl ds) (hdl : ds.length ≤ 12) (hr : ∀ x ∈ Lw, 0 ≤ x ∧ x < A.1) : ∀ f, kB3 σ A X ds cl Lw f
  | 0 => fun n L es e b p σ15 m hf hN hLw hlf => by
    have := fT_len hf
    simp only [List.length_cons, List.length_nil] at this
    omega
  | f + 1 => fun n L es e b p σ15 m hf hN hLw hlf f15 hS h16 ⟨h43, h44, h41⟩ hE hD he hb hp k => by
    obtain ⟨L1, L2, e1, w1, w2, w3⟩ := fT_inv hf
    have e2 := fT_nil w3
    subst e2
    rw [List.append_nil] at e1
    subst e1
    obtain ⟨L', k1, k2⟩ := fT_perm (kOrd_p A n) w2
    have ll := k2.length_eq
    have hn : 0 ≤ n ∧ n < A.1 := hr n (hLw n (by simp))
    have hnw : n ∈ Lw := hLw n (by simp)
    have hnL : n ∉ L1 := (List.nodup_cons.mp hN).1
    have hN1 : L1.Nodup := (List.nodup_cons.mp hN).2
    have m1 : ∀ y, y ∈ L' ↔ y ∈ L1 := fun y => k2.mem_iff.symm
    obtain ⟨p0, p1, p2, p3, p4, p5, p6⟩ := ckW_p h hn
    have o := oR_le w1
    have z0 : od A n 0 = 0 := by
      unfold od
      rw [if_neg (by omega)]
      split <;> rfl
    simp only [List.length_cons] at he hb hp hlf ⊢
    rw [show m + (2 * (L1.length + 1) - 1) = (m + 1) + 2 * L'.length by omega]
    refine kStg3 hX h hn w1 hnw (kB3_all hX h hcl hds hdl hr f) (kOrd A n) L' 0 es e b (p + 1) σ15 (m + 1) rfl (Nat.zero_le _) k1 (k2.nodup_iff.mp hN1) (fun y hy => hLw y (List.mem_cons_of_mem _ ((m1 y).mp hy))) (fun z => hnL ((m1 n).mp z)) (by simp) (by omega) f15 hS (by rw [h44]; rfl) (fun y hy => by rw [h43]; exact p3 y (by rw [← List.head?_eq_getElem?]; exact hy)) (by simp) hE hD (by rw [z0]; omega) (by rw [z0]; omega) (by omega) (fun σ1 es1 e1 b1 f1 S1 q1 q2 u1 q3 q4 q5 q6 q7 q8 q9 => ?_)
    have cdl := cdS_len (n := n) (fun x L => cd_len f x L) (kOrd A n) 0 L' k1
    have nl : ∀ y ∈ n :: L', y ∈ n :: L1 := fun y hy => by
      rcases List.mem_cons.mp hy with q | q
      · rw [q]; exact List.mem_cons_self
      · exact List.mem_cons_of_mem _ ((m1 y).mp q)
    have D1 := cD_u3 hD f15 f1 u1 (fun y hy => hLw y (nl y hy))
    have kids : ∀ x ∈ A.2.2.2.2.1 n, kIn (sg_g σ1 6 x) ∧ ¬ x = n := fun x hx => ⟨q7 x ((kOrd_p A n).mem_iff.mp hx), fun z => hnL (by rw [← z]; exact fT_sub w2 x hx)⟩
    have es1' : kmE σ1 e es := kmE_e hS.2.2.1 (fun i _ c => u1.2.2.1 i c)
    have hE1 : hEs3 σ1 es b := fun s hs => by
      have := hE s hs
      exact ⟨this.1, by rw [u1.2.1 s.2 this.1.2]; exact this.2⟩
    have e0 := hS.2.2.2.1
    have b0 := hS.2.2.2.2.1
    have q22 := q2.2
    rw [z0] at q22
    refine w3_pop (e0 := e) (es0 := es) hX h f1 hn w1 q4 kids S1 (by rw [q3.1]; exact h41) ⟨e0, q1.1, q1.2⟩ es1' (fun s hs => ⟨⟨(hE1 s hs).1.1, by have := (hE1 s hs).1.2; omega⟩, (hE1 s hs).2⟩) hcl hds hdl D1 hnw (by omega) (fun σ2 f2 S2 g2 u2 r2 r3 r4 r5 r6 => ?_)
    rw [q3.2]
    have U : kU3 σ15 σ2 e b (p + 1) (n :: L1) := kU3_t u1 u2 ⟨Int.le_refl _, by omega⟩ ⟨Int.le_refl _, by omega⟩ ⟨Int.le_refl _, by omega⟩ nl (fun y hy => by simp at hy; rw [hy]; exact List.mem_cons_self)
    have nk : ∀ y ∈ L', y ∉ [n] := fun y hy z => by
      simp at z
      rw [z] at hy
      exact hnL ((m1 n).mp hy)
    have rs : rsS σ2 A (rsN σ2 A ds f) n 0 es (kOrd A n) := by
      refine rsS_st (σ := σ1) (LL := L') ?_ (fun es x Lx g1 g2 g3 => rsN_st f es x Lx g1 (fun y hy => (u2.1 y (nk y (g2 y hy))).1.2.1) g3) (kOrd A n) 0 es L' k1 (fun y hy => hy) q5
      by_cases c1 : A.2.1 n = 1 ∨ A.2.1 n = 13
      · exact Or.inl (fun j => ⟨by omega, by omega⟩)
      · exact Or.inr (r5 (fun z => c1 (Or.inl z)) (fun z => c1 (Or.inr z)))
    have jp : jpS σ2 A f (jpN σ2 A f) n 0 (p + 1) (kOrd A n) := jpS_st (σ := σ1) (LL := L') r6.1 (fun x p Lx g1 g2 g3 => jpN_st f x p Lx g1 (fun y hy => (u2.1 y (nk y (g2 y hy))).1.2.2) g3) (kOrd A n) 0 (p + 1) L' k1 (fun y hy => hy) q6
    have cde : cd A (f + 1) n = (0, n) :: (cdS A (cd A f) n 0 (kOrd A n) ++ cnc A n) := rfl
    have cl1 : (cd A (f + 1) n).length = (cdS A (cd A f) n 0 (kOrd A n)).length + (cnc A n).length + 1 := by rw [cde, List.length_cons, List.length_append]
    refine k σ2 b1 f2 ?_ U ⟨q2.1, by simp only [List.length_cons]; omega⟩ ⟨r3, r4, rs⟩ ⟨jp, fun z => ?_, fun z => ?_⟩ r2
    · rw [cl1, show p + (((cdS A (cd A f) n 0 (kOrd A n)).length + (cnc A n).length + 1 : Nat) : Int) = p + 1 + (cdS A (cd A f) n 0 (kOrd A n)).length + (cnc A n).length by omega]
      exact S2
    · have hc : cnc A n = [(9, n)] := by unfold cnc; rw [if_neg (by omega), if_pos z]
      rw [r6.2 (Or.inl z), cl1, hc, List.length_cons, List.length_nil]
      omega
    · have hc : cnc A n = [(12, n), (1, n)] := by unfold cnc; rw [if_neg (by omega), if_neg (by omega), if_neg (by omega), if_pos z]
      rw [r6.2 (Or.inr z), cl1, hc, List.length_cons, List.length_cons, List.length_nil]
      omega
end WK3T
