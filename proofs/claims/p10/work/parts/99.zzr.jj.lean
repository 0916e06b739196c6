/-! THE WALK of the checker: nodes. -/
section WK3
variable {σ : sg_S} {A : aT} {X : sg_S → Prop}
/-- all parts are done -/
theorem w_pop {σ15 : sg_S} {m : Nat} {n e1 e0 b p cl : Int} {es1 es0 Lw : List Int} (hX : ∀ σ', ¬ sg_g σ' 38 13 = 0 → X σ') (h : ckW σ A) (f : sg_F kwL σ σ15) (hn : 0 ≤ n ∧ n < A.1) (hw : nW A n) (h44 : sg_g σ15 44 n = (kOrd A n).length) (ht : ∀ x ∈ A.2.2.2.2.1 n, kIn (sg_g σ15 6 x) ∧ ¬ x = n) (hS : kS σ15 es1 e1 b p) (h41 : sg_g σ15 41 n = e0) (hb : 0 ≤ e0 ∧ e0 ≤ e1 ∧ e1 ≤ 272) (hes : ∀ i, 0 ≤ i → i < e0 → sg_g σ15 40 i ∈ es0) (hE : ∀ s ∈ es0, (0 ≤ s ∧ s < 272) ∧ kIn (sg_g σ15 34 s)) (hcl : sg_g σ 38 11 = cl) (hD : cDq σ15 A cl Lw) (hnL : n ∈ Lw) (hp : p + (cnc A n).length ≤ 1013) (k : ∀ σ', sg_F kwL σ σ' → kS σ' es0 e0 b (p + (cnc A n).length) → sg_F lvL σ15 σ' → kU σ15 σ' e1 b p [n] → pC σ' p (cnc A n) → kIn (sg_g σ' 6 n) → (A.2.1 n = 1 → sg_g σ' 16 n ∈ es0 ∧ sg_g σ' 34 (sg_g σ' 16 n) = sg_g σ' 6 n) → (A.2.1 n = 13 → clF σ' A cl n) → (¬ A.2.1 n = 1 → ¬ A.2.1 n = 13 → sg_g σ' 16 n = sg_g σ15 16 n) → kWk σ X m (sg_g σ15 42 n) σ') : kWk σ X (m + 1) n σ15 := by
  have hA := h.1
  obtain ⟨p0, p1, p2, p3, p4, p5, p6⟩ := ckW_p h hn
  have h15 := ckW_F h f rfl
  have n200 : 0 ≤ n ∧ n < 200 := by omega
  refine ⟨fun z => by omega, fun z => absurd hS.1 z, fun _ _ => ?_⟩
  unfold kStp
  rw [xa_in (a := 44) n200, xa_in (a := 10) n200, h44, p2]
  refine ⟨fun z => by omega, fun _ => ?_⟩
  rw [xa_in (a := 42) n200]
  refine d_leave h15 hn hw ht hS h41 hb hes hE (by rw [sg_F_g f (by rfl)]; exact hcl) hD hnL hp (fun σ' z _ => kWk_f (hX σ' z) z) (fun σ' y1 y2 y3 y4 y5 y6 y7 y8 _ => k σ' (sg_F_t f (sg_F_m y2 rfl)) y1 y2 y3 y4 y5 y6 y7 y8)
theorem cD_u {σ1 σ2 : sg_S} {cl e b p : Int} {Lw L : List Int} (h : cDq σ1 A cl Lw) (f1 : sg_F kwL σ σ1) (f2 : sg_F kwL σ σ2) (u : kU σ1 σ2 e b p L) (hL : ∀ x ∈ L, x ∈ Lw) : cDq σ2 A cl Lw := fun q a c => by
  obtain ⟨y0, ps, r, ⟨y1, y2, y3, y4⟩, y5, y6, y7⟩ := h q a c
  refine ⟨y0, ps, r, ⟨by rw [sg_F_ga f2 rfl, ← sg_F_ga f1 (a := 23) rfl]; exact y1, fun j y hy => by rw [sg_F_ga f2 rfl, ← sg_F_ga f1 (a := 27) rfl]; exact y2 j y hy, by rw [sg_F_ga f2 rfl, ← sg_F_ga f1 (a := 22) rfl]; exact y3, y4⟩, y5, ?_, y7⟩
  rw [(u.1 r (fun z => y7 (hL r z))).1.1]; exact y6
theorem stb_u {σ1 σ2 : sg_S} {cl e b p : Int} {Lw L Lx : List Int} (h : cDq σ1 A cl Lw) (f1 : sg_F kwL σ σ1) (f2 : sg_F kwL σ σ2) (u : kU σ1 σ2 e b p L) (hL : ∀ x ∈ L, x ∈ Lw) (hd : ∀ x ∈ Lx, x ∉ L) : stb σ1 σ2 cl b Lx := by
  refine ⟨fun x hx => ⟨(u.1 x (hd x hx)).1.2, (u.1 x (hd x hx)).1.1⟩, u.2.1, fun i => ⟨by rw [sg_F_ga f2 rfl, ← sg_F_ga f1 (a := 22) rfl], by rw [sg_F_ga f2 rfl, ← sg_F_ga f1 (a := 23) rfl], by rw [sg_F_ga f2 rfl, ← sg_F_ga f1 (a := 27) rfl]⟩, fun q a c => ?_⟩
  obtain ⟨y0, ps, r, ⟨y1, y2, y3, y4⟩, y5, y6, y7⟩ := h q a c
  rw [y3]
  exact (u.1 r (fun z => y7 (hL r z))).1.1
/-- slots that are known -/
def hEs (σ : sg_S) (es : List Int) (b : Int) : Prop := ∀ s ∈ es, (0 ≤ s ∧ s < b) ∧ kIn (sg_g σ 34 s)
/-- the big step of a node -/
def kB (σ : sg_S) (A : aT) (X : sg_S → Prop) (cl : Int) (Lw : List Int) (f : Nat) : Prop := ∀ (n : Int) (L es : List Int) (e b p : Int) (σ15 : sg_S) (m : Nat), fT A [n] L → L.Nodup → (∀ x ∈ L, x ∈ Lw) → L.length ≤ f → sg_F kwL σ σ15 → kS σ15 es e b (p + 1) → (sg_g σ15 29 p = 0 ∧ sg_g σ15 30 p = n) → sg_g σ15 16 n = b → (sg_g σ15 43 n = sg_g σ 7 n ∧ sg_g σ15 44 n = 0 ∧ sg_g σ15 41 n = e) → hEs σ15 es b → cDq σ15 A cl Lw → e + L.length ≤ 272 → b + L.length ≤ 272 → p + 5 * L.length ≤ 1013 → (∀ σ' b', sg_F kwL σ σ' → kS σ' es e b' (p + (cd A f n).length) → kU σ15 σ' e b (p + 1) L → pC σ' p (cd A f n) → scN σ' A cl f es n b b' → kIn (sg_g σ' 6 n) → kWk σ X m (sg_g σ15 42 n) σ') → kWk σ X (m + (2 * L.length - 1)) n σ15
theorem kStg {cl : Int} {Lw : List Int} {f : Nat} {n : Int} (hX : ∀ σ', ¬ sg_g σ' 38 13 = 0 → X σ') (h : ckW σ A) (hn : 0 ≤ n ∧ n < A.1) (hw : nW A n) (hnw : n ∈ Lw) (F : kB σ A X cl Lw f) : ∀ (R L : List Int) (s : Nat) (es : List Int) (e b p : Int) (σ15 : sg_S) (m : Nat), (kOrd A n).drop s = R → s ≤ (kOrd A n).length → fT A R L → L.Nodup → (∀ x ∈ L, x ∈ Lw) → n ∉ L → (∀ y ∈ (kOrd A n).take s, y ∉ n :: L) → L.length ≤ f → sg_F kwL σ σ15 → kS σ15 es e b p → sg_g σ15 44 n = s → (∀ y, R.head? = some y → sg_g σ15 43 n = y) → (∀ y ∈ (kOrd A n).take s, kIn (sg_g σ15 6 y)) → hEs σ15 es b → cDq σ15 A cl Lw → e + od A n s + L.length ≤ 272 → b + od A n s + L.length ≤ 272 → p + oRq A n s R + 5 * L.length ≤ 1013 → (∀ σ' es' e' b', sg_F kwL σ σ' → kS σ' es' e' b' (p + (cdS A (cd A f) n s R).length) → e ≤ e' ∧ e' ≤ 272 → b ≤ b' → kU σ15 σ' e b p (n :: L) → (sg_g σ' 41 n = sg_g σ15 41 n ∧ sg_g σ' 42 n = sg_g σ15 42 n) → sg_g σ' 44 n = (kOrd A n).length → pC σ' p (cdS A (cd A f) n s R) → scS σ' A (scN σ' A cl f) n s es b R b' → (∀ y ∈ kOrd A n, kIn (sg_g σ' 6 y)) → ((∀ j, s ≤ j → kNo A n j) → sg_g σ' 16 n = sg_g σ15 16 n) → kWk σ X m n σ') → kWk σ X (m + 2 * L.length) n σ15
  | [], L, s, es, e, b, p, σ15, m, hd, hs, hf, hN, hLw, hnL, hpr, hlf, f15, hS, h44, h43, ht, hE, hD, he, hb, hp, k => by
    have e0 := fT_nil hf
    subst e0
    have sl : s = (kOrd A n).length := by
      have : ((kOrd A n).drop s).length = 0 := by rw [hd]; rfl
      rw [List.length_drop] at this
      omega
    simp only [List.length_nil, Nat.mul_zero, Nat.add_zero]
    refine k σ15 es e b f15 ?_ ⟨Int.le_refl _, by simp only [List.length_nil] at he; omega⟩ (Int.le_refl _) (kU_r _ _ _ _ _) ⟨rfl, rfl⟩ (by rw [h44, sl]) (pC_0 _ _) (by simp only [scS]) (fun y hy => ht y (by rw [sl, List.take_length]; exact hy)) (fun _ => rfl)
    simp only [cdS, List.length_nil]
    rw [show p + ((0 : Nat) : Int) = p by omega]
    exact hS
  | x :: R, L, s, es, e, b, p, σ15, m, hd, hs, hf, hN, hLw, hnL, hpr, hlf, f15, hS, h44, h43, ht, hE, hD, he, hb, hp, k => by
    obtain ⟨L1, L2, e1, w1, w2, w3⟩ := fT_inv hf
    subst e1
    have hx : (kOrd A n)[s]? = some x := by rw [← List.head?_drop, hd]; rfl
    have hsl : s < (kOrd A n).length := gE_l hx
    have i1 : ∀ y, y ∈ x :: L1 → y ∈ x :: (L1 ++ L2) := fun y hy => by rw [← List.cons_append]; exact List.mem_append_left _ hy
    have i2 : ∀ y, y ∈ L2 → y ∈ x :: (L1 ++ L2) := fun y hy => by rw [← List.cons_append]; exact List.mem_append_right _ hy
    have hN1 : (x :: L1).Nodup := List.Nodup.sublist (by rw [← List.cons_append]; exact List.sublist_append_left _ _) hN
    have hN2 : L2.Nodup := List.Nodup.sublist (by rw [← List.cons_append]; exact List.sublist_append_right _ _) hN
    have dj : ∀ y ∈ x :: L1, y ∉ L2 := fun y hy z => by
      rw [← List.cons_append, List.nodup_append] at hN
      exact hN.2.2 y hy y z rfl
    have hxn : ¬ x = n := fun z => hnL (by rw [← z]; simp)
    have hnx : n ∉ x :: L1 := fun z => hnL (i1 n z)
    have hn2 : n ∉ L2 := fun z => hnL (i2 n z)
    have hl : (x :: (L1 ++ L2)).length = (x :: L1).length + L2.length := by rw [← List.cons_append, List.length_append]
    have hl1 : 1 ≤ (x :: L1).length := by simp
    rw [hl] at he hb hp hlf ⊢
    simp only [oRq] at hp
    have o1 := bA_od A n s b
    have o2 := od_s A n s b
    have o3 := bA_le A n s b
    have e0 := hS.2.2.2.1
    have b0 := hS.2.2.2.2.1
    have p0 := hS.2.2.2.2.2
    rw [show m + 2 * ((x :: L1).length + L2.length) = ((m + 2 * L2.length) + (2 * (x :: L1).length - 1)) + 1 by omega]
    refine w_push (s := s) (R := R) hX h f15 hn hw hd hS h44 (h43 x rfl) ht hxn (by omega) (by omega) (by omega) (fun σ1 f1 S1 u1 g1 g2 c1 c2 c3 c4 c5 c6 c7 => ?_)
    have hE1 : hEs σ1 (esA A n s es b) (bA A n s b) := fun y hy => by
      have old : ∀ y ∈ es, (0 ≤ y ∧ y < b) ∧ kIn (sg_g σ1 34 y) := fun y hy => by
        have := hE y hy
        exact ⟨this.1, by rw [u1.2.1 y this.1.2]; exact this.2⟩
      have kk : ∀ z ∈ (kOrd A n).take s, kIn (sg_g σ1 6 z) := fun z hz => by
        have nz := hpr z hz
        rw [(u1.1 z (fun q => nz (by
          simp only [List.mem_cons, List.not_mem_nil, or_false] at q
          rcases q with q | q
          · rw [q]; exact List.mem_cons_self
          · rw [q]; exact List.mem_cons_of_mem _ (by simp)))).1.1]
        exact ht z hz
      unfold esA at hy
      unfold bA at o3 ⊢
      split at hy
      · rename_i cc
        rw [if_pos cc]
        rcases List.mem_cons.mp hy with q | q
        · subst q
          obtain ⟨t1, t2⟩ := c3.1 cc.1 cc.2
          refine ⟨⟨by omega, by omega⟩, ?_⟩
          rw [t2]
          have ho : kOrd A n = A.2.2.2.2.1 n := by unfold kOrd; rw [if_neg (by omega)]
          have l2 := hw.2.2.1 (Or.inl cc.1)
          refine kk _ ?_
          rw [ho, cc.2, List.getD_eq_getElem?_getD, List.getElem?_eq_getElem (by omega), Option.getD_some, List.mem_take_iff_getElem]
          exact ⟨0, by omega, rfl⟩
        · have := old y q
          exact ⟨⟨by omega, by omega⟩, this.2⟩
      · rename_i cc
        rw [if_neg cc]
        split at hy
        · rename_i c15
          rw [if_pos c15]
          rcases List.mem_append.mp hy with q | q
          · have q' := gsl_m.mp q
            obtain ⟨t1, t2⟩ := c3.2 c15.1 c15.2
            have w7 := hw.2.2.2.2.2.2.1 c15.1
            have gl : (kGs A n).length = (A.2.2.2.2.2 n).length := by unfold kGs; rw [List.length_take, List.length_drop]; omega
            have hz : (kGs A n)[(y - b).toNat]? = some ((kGs A n)[(y - b).toNat]'(by omega)) := List.getElem?_eq_getElem _
            have t3 := t2 _ _ hz
            rw [show b + (((y - b).toNat : Nat) : Int) = y by omega] at t3
            have mz := List.mem_of_getElem? hz
            have pos := c7 c15.1 c15.2 _ mz
            have kz := kk _ (by
              have : kGs A n = (kOrd A n).take s := by
                unfold kGs kOrd
                rw [if_pos c15.1, List.take_append_of_le_length (by rw [List.length_drop]; omega), c15.2]
              rw [← this]; exact mz)
            refine ⟨⟨by omega, by omega⟩, ?_⟩
            rw [t3]
            unfold kIn at kz ⊢
            omega
          · have := old y q
            exact ⟨⟨by omega, by omega⟩, this.2⟩
        · rename_i c15
          rw [if_neg c15]
          exact old y hy
    have nxs : ∀ y ∈ [n, x], y ∈ n :: (x :: (L1 ++ L2)) := fun y hy => by
      simp only [List.mem_cons, List.not_mem_nil, or_false] at hy
      rcases hy with q | q <;> simp [q]
    have nxw : ∀ y ∈ [n, x], y ∈ Lw := fun y hy => by
      simp only [List.mem_cons, List.not_mem_nil, or_false] at hy
      rcases hy with q | q
      · rw [q]; exact hnw
      · rw [q]; exact hLw x (by simp)
    have D1 := cD_u hD f15 f1 u1 nxw
    refine F x (x :: L1) (esA A n s es b) (e + (bA A n s b - b)) (bA A n s b) (p + (ahd A n s).length) σ1 (m + 2 * L2.length) (fT_one w1 w2) hN1 (fun y hy => hLw y (i1 y hy)) (by omega) f1 S1 c2 c5 c6 hE1 D1 (by omega) (by omega) (by omega) (fun σ2 b2 f2 S2 u2 d1 d2 d3 => ?_)
    rw [g1.2.2]
    have sl := scN_len _ _ _ _ _ _ (fT_one w1 w2) d2
    have sle := scN_le _ _ _ _ _ d2
    have clen := cd_len f x _ (fT_one w1 w2)
    have D2 := cD_u D1 f1 f2 u2 (fun y hy => hLw y (i1 y hy))
    have un := u2.1 n hnx
    have hE2 : hEs σ2 (esA A n s es b) b2 := fun y hy => by
      have := hE1 y hy
      exact ⟨⟨by omega, by omega⟩, by rw [u2.2.1 y this.1.2]; exact this.2⟩
    have tk : (kOrd A n).take (s + 1) = (kOrd A n).take s ++ [x] := by rw [List.take_add_one, hx]; rfl
    have pr2 : ∀ y ∈ (kOrd A n).take (s + 1), y ∉ n :: L2 := fun y hy z => by
      rw [tk] at hy
      rcases List.mem_append.mp hy with q | q
      · rcases List.mem_cons.mp z with w | w
        · exact hpr y q (by rw [w]; exact List.mem_cons_self)
        · exact hpr y q (List.mem_cons_of_mem _ (i2 y w))
      · simp at q
        subst q
        rcases List.mem_cons.mp z with w | w
        · exact hxn w
        · exact dj y (by simp) w
    have prx : ∀ y ∈ (kOrd A n).take s, y ∉ x :: L1 ∧ y ∉ [n, x] := fun y hy => ⟨fun z => hpr y hy (List.mem_cons_of_mem _ (i1 y z)), fun z => hpr y hy (nxs y z)⟩
    have ht2 : ∀ y ∈ (kOrd A n).take (s + 1), kIn (sg_g σ2 6 y) := fun y hy => by
      rw [tk] at hy
      rcases List.mem_append.mp hy with q | q
      · rw [(u2.1 y (prx y q).1).1.1, (u1.1 y (prx y q).2).1.1]; exact ht y q
      · simp at q; subst q; exact d3
    have S2' : kS σ2 (esA A n s es b) (e + (bA A n s b - b)) b2 (p + (ahd A n s).length + (cd A f x).length) := S2
    refine kStg hX h hn hw hnw F R L2 (s + 1) (esA A n s es b) (e + (bA A n s b - b)) b2 (p + (ahd A n s).length + (cd A f x).length) σ2 m (by rw [← List.drop_drop, hd]; rfl) (by omega) w3 hN2 (fun y hy => hLw y (i2 y hy)) hn2 pr2 (by omega) f2 S2' (by rw [un.2.2.2.2]; exact g2.1) (fun y hy => by rw [un.2.2.2.1]; exact g2.2 y hy) ht2 hE2 D2 (by omega) (by omega) (by omega) (fun σ3 es3 e3 b3 f3 S3 q1 q2 u3 q3 q4 q5 q6 q7 q8 => ?_)
    have U12 : kU σ15 σ2 e b p (n :: (x :: (L1 ++ L2))) := kU_t u1 u2 ⟨Int.le_refl _, by omega⟩ ⟨Int.le_refl _, by omega⟩ ⟨Int.le_refl _, by omega⟩ nxs (fun y hy => List.mem_cons_of_mem _ (i1 y hy))
    have U13 : kU σ15 σ3 e b p (n :: (x :: (L1 ++ L2))) := kU_t U12 u3 ⟨Int.le_refl _, by omega⟩ ⟨Int.le_refl _, by omega⟩ ⟨Int.le_refl _, by omega⟩ (fun y hy => hy) (fun y hy => by
      rcases List.mem_cons.mp hy with w | w
      · rw [w]; exact List.mem_cons_self
      · exact List.mem_cons_of_mem _ (i2 y w))
    have n2w : ∀ y ∈ n :: L2, y ∈ Lw := fun y hy => by
      rcases List.mem_cons.mp hy with w | w
      · rw [w]; exact hnw
      · exact hLw y (i2 y w)
    have st23 : stb σ2 σ3 cl b2 (x :: L1) := stb_u D2 f2 f3 u3 n2w (fun y hy z => by
      rcases List.mem_cons.mp z with w | w
      · exact hnx (by rw [← w]; exact hy)
      · exact dj y hy w)
    have sc3 := scN_st (LL := x :: L1) f _ x _ b2 (x :: L1) (fT_one w1 w2) (fun _ h => h) (fun y hy => (hE1 y hy).1.2) st23 d2
    refine k σ3 es3 e3 b3 f3 ?_ ⟨by omega, q1.2⟩ (by omega) U13 ⟨by rw [q3.1, un.2.1]; exact g1.1, by rw [q3.2, un.2.2.1]; exact g1.2.1⟩ q4 ?_ ?_ q7 (fun z => ?_)
    · simp only [cdS, List.length_append]
      rw [show p + (((ahd A n s).length + ((cd A f x).length + (cdS A (cd A f) n (s + 1) R).length) : Nat) : Int) = p + (ahd A n s).length + (cd A f x).length + (cdS A (cd A f) n (s + 1) R).length by omega]
      exact S3
    · simp only [cdS]
      refine pC_a ?_ (pC_a ?_ ?_)
      · exact pC_e (pC_e c1 (show p + ((ahd A n s).length : Int) ≤ p + (ahd A n s).length + 1 by omega) u2.2.2.2) (show p + ((ahd A n s).length : Int) ≤ p + (ahd A n s).length + (cd A f x).length by omega) u3.2.2.2
      · exact pC_e d1 (Int.le_refl _) u3.2.2.2
      · exact q5
    · simp only [scS]
      refine ⟨?_, b2, sc3, q6⟩
      by_cases cn : kNo A n s
      · exact ⟨fun a c => absurd ⟨a, c⟩ cn.1, fun a c => absurd ⟨a, c⟩ cn.2⟩
      · have later : ∀ j, s + 1 ≤ j → kNo A n j := fun j hj => by
          refine ⟨fun z => cn ⟨fun _ => ?_, fun y => ?_⟩, fun z => cn ⟨fun y => ?_, fun y => ?_⟩⟩ <;> omega
        have n16 : sg_g σ3 16 n = sg_g σ1 16 n := by rw [q8 later, un.1.2]
        have t6 : ∀ y ∈ (kOrd A n).take s, sg_g σ3 6 y = sg_g σ1 6 y := fun y hy => by
          rw [(u3.1 y (pr2 y (by rw [tk]; exact List.mem_append_left _ hy))).1.1, (u2.1 y (prx y hy).1).1.1]
        refine ⟨fun a c => ?_, fun a c => ?_⟩
        · obtain ⟨t1, t2⟩ := c3.1 a c
          have be : bA A n s b = b + 1 := by unfold bA; rw [if_pos ⟨a, c⟩]
          have ho : kOrd A n = A.2.2.2.2.1 n := by unfold kOrd; rw [if_neg (by omega)]
          have l2 := hw.2.2.1 (Or.inl a)
          rw [n16, u3.2.1 b (by omega), u2.2.1 b (by omega), t6 _ (by
            rw [ho, c, List.getD_eq_getElem?_getD, List.getElem?_eq_getElem (by omega), Option.getD_some, List.mem_take_iff_getElem]
            exact ⟨0, by omega, rfl⟩)]
          exact ⟨t1, t2⟩
        · obtain ⟨t1, t2⟩ := c3.2 a c
          have be : bA A n s b = b + (A.2.2.2.2.2 n).length := by unfold bA; rw [if_neg (by omega), if_pos ⟨a, c⟩]
          refine ⟨by rw [n16]; exact t1, fun i y hy => ?_⟩
          have w7 := hw.2.2.2.2.2.2.1 a
          have hi : i < (A.2.2.2.2.2 n).length := by
            have := gE_l hy
            unfold kGs at this
            rw [List.length_take] at this
            omega
          have e : kGs A n = (kOrd A n).take s := by
            unfold kGs kOrd
            rw [if_pos a, List.take_append_of_le_length (by rw [List.length_drop]; omega), c]
          rw [u3.2.1 _ (by omega), u2.2.1 _ (by omega), t6 y (by rw [← e]; exact List.mem_of_getElem? hy)]
          exact t2 i y hy
    · rw [q8 (fun j hj => z j (by omega)), un.1.2]
      exact c4 (z s (Nat.le_refl _))
end WK3
/-! THE WALK of the checker: all nodes. -/
section WK4
variable {σ : sg_S} {A : aT} {X : sg_S → Prop}
theorem kB_all {cl : Int} {Lw : List Int} (hX : ∀ σ', ¬ sg_g σ' 38 13 = 0 → X σ') (h : ckW σ A) (hcl : sg_g σ 38 11 = cl) (hr : ∀ x ∈ Lw, 0 ≤ x ∧ x < A.1) : ∀ f, kB σ A X cl Lw f
  | 0 => fun n L es e b p σ15 m hf hN hLw hlf => by
    have := fT_len hf
    simp only [List.length_cons, List.length_nil] at this
    omega
  | f + 1 => fun n L es e b p σ15 m hf hN hLw hlf f15 hS hp0 h16 ⟨h43, h44, h41⟩ hE hD he hb hp k => by
    obtain ⟨L1, L2, e1, w1, w2, w3⟩ := fT_inv hf
    have e2 := fT_nil w3
    subst e2
    rw [List.append_nil] at e1
    subst e1
    obtain ⟨L', k1, k2⟩ := fT_perm (kOrd_p A n) w2
    have ll := k2.length_eq
    have hn : 0 ≤ n ∧ n < A.1 := hr n (hLw n (by simp))
    have hnw : n ∈ Lw := hLw n (by simp)
    have hnL : n ∉ L1 := (List.nodup_cons.mp hN).1
    have hN1 : L1.Nodup := (List.nodup_cons.mp hN).2
    have m1 : ∀ y, y ∈ L' ↔ y ∈ L1 := fun y => k2.mem_iff.symm
    obtain ⟨p0, p1, p2, p3, p4, p5, p6⟩ := ckW_p h hn
    have o := oR_le w1
    have z0 : od A n 0 = 0 := by
      unfold od
      rw [if_neg (by omega)]
      split <;> rfl
    simp only [List.length_cons] at he hb hp hlf ⊢
    rw [show m + (2 * (L1.length + 1) - 1) = (m + 1) + 2 * L'.length by omega]
    refine kStg hX h hn w1 hnw (kB_all hX h hcl hr f) (kOrd A n) L' 0 es e b (p + 1) σ15 (m + 1) rfl (Nat.zero_le _) k1 (k2.nodup_iff.mp hN1) (fun y hy => hLw y (List.mem_cons_of_mem _ ((m1 y).mp hy))) (fun z => hnL ((m1 n).mp z)) (by simp) (by omega) f15 hS (by rw [h44]; rfl) (fun y hy => by rw [h43]; exact p3 y (by rw [← List.head?_eq_getElem?]; exact hy)) (by simp) hE hD (by rw [z0]; omega) (by rw [z0]; omega) (by omega) (fun σ1 es1 e1 b1 f1 S1 q1 q2 u1 q3 q4 q5 q6 q7 q8 => ?_)
    have cdl := cdS_len (n := n) (fun x L => cd_len f x L) (kOrd A n) 0 L' k1
    have nl : ∀ y ∈ n :: L', y ∈ n :: L1 := fun y hy => by
      rcases List.mem_cons.mp hy with q | q
      · rw [q]; exact List.mem_cons_self
      · exact List.mem_cons_of_mem _ ((m1 y).mp q)
    have D1 := cD_u hD f15 f1 u1 (fun y hy => hLw y (nl y hy))
    have kids : ∀ x ∈ A.2.2.2.2.1 n, kIn (sg_g σ1 6 x) ∧ ¬ x = n := fun x hx => ⟨q7 x ((kOrd_p A n).mem_iff.mp hx), fun z => hnL (by rw [← z]; exact fT_sub w2 x hx)⟩
    have es1' : ∀ i, 0 ≤ i → i < e → sg_g σ1 40 i ∈ es := fun i a c => by rw [u1.2.2.1 i c]; exact hS.2.2.1 i a c
    have hE1 : hEs σ1 es b := fun s hs => by
      have := hE s hs
      exact ⟨this.1, by rw [u1.2.1 s this.1.2]; exact this.2⟩
    have e0 := hS.2.2.2.1
    have b0 := hS.2.2.2.2.1
    refine w_pop (e0 := e) (es0 := es) hX h f1 hn w1 q4 kids S1 (by rw [q3.1]; exact h41) ⟨e0, q1.1, q1.2⟩ es1' (fun s hs => ⟨⟨(hE1 s hs).1.1, by have := (hE1 s hs).1.2; omega⟩, (hE1 s hs).2⟩) hcl D1 hnw (by omega) (fun σ2 f2 S2 g2 u2 r1 r2 r3 r4 r5 => ?_)
    rw [q3.2]
    have nw : ∀ y ∈ [n], y ∈ Lw := fun y hy => by simp at hy; rw [hy]; exact hnw
    have st12 : stb σ1 σ2 cl b1 L1 := stb_u D1 f1 f2 u2 nw (fun y hy z => by simp at z; rw [z] at hy; exact hnL hy)
    have U : kU σ15 σ2 e b (p + 1) (n :: L1) := kU_t u1 u2 ⟨Int.le_refl _, by omega⟩ ⟨Int.le_refl _, by omega⟩ ⟨Int.le_refl _, by omega⟩ nl (fun y hy => by simp at hy; rw [hy]; exact List.mem_cons_self)
    have c16 : ¬ A.2.1 n = 1 → ¬ A.2.1 n = 13 → sg_g σ2 16 n = sg_g σ1 16 n := r5
    have sc : scS σ2 A (scN σ2 A cl f) n 0 es b (kOrd A n) b1 := by
      refine scS_st (σ := σ1) (LL := L1) ?_ (fun x hx => fT_sub w2 x hx) w1 (fun es x b b' => scN_le f es x b b') (fun es x b b' L => scN_st f es x b b' L) (kOrd A n) 0 es b b1 L' k1 (fun y hy => (m1 y).mp hy) (fun y hy => (hE1 y hy).1.2) st12 q6
      by_cases c1 : A.2.1 n = 1 ∨ A.2.1 n = 13
      · exact Or.inl (fun j => ⟨by omega, by omega⟩)
      · exact Or.inr (r5 (fun z => c1 (Or.inl z)) (fun z => c1 (Or.inr z)))
    have cde : cd A (f + 1) n = (0, n) :: (cdS A (cd A f) n 0 (kOrd A n) ++ cnc A n) := rfl
    have hsc : scN σ2 A cl (f + 1) es n b b1 := by
      refine ⟨fun c => ?_, r3, r4, sc⟩
      rw [r5 (by omega) (by omega), q8 (fun j _ => ⟨by omega, by omega⟩)]
      exact h16
    refine k σ2 b1 f2 ?_ U ?_ hsc r2
    · rw [cde, List.length_cons, List.length_append, show p + (((cdS A (cd A f) n 0 (kOrd A n)).length + (cnc A n).length + 1 : Nat) : Int) = p + 1 + (cdS A (cd A f) n 0 (kOrd A n)).length + (cnc A n).length by omega]
      exact S2
    · rw [cde]
      refine pC_a (C := [(0, n)]) (pC_1 ?_ ?_) (pC_a ?_ ?_)
      · rw [(U.2.2.2 p (by omega)).1]; exact hp0.1
      · rw [(U.2.2.2 p (by omega)).2]; exact hp0.2
      · exact pC_e q5 (Int.le_refl _) u2.2.2.2
      · exact r1
end WK4
/-! walk of the checker once more. -/
section WK5
variable {σ : sg_S} {A : aT} {Q : sg_S → Prop}
theorem d_walk {d n e b p cl : Int} {es L : List Int} (h : ckW σ A) (hf : fT A [n] L) (hN : L.Nodup) (hr : ∀ x ∈ L, 0 ≤ x ∧ x < A.1) (hl : L.length ≤ 200) (hd : 0 ≤ d ∧ d < 13) (hS : kS σ es e b p) (hE : hEs σ es b) (hcl : sg_g σ 38 11 = cl) (hD : cDq σ A cl L) (he : e + L.length ≤ 272) (hb : b + L.length ≤ 272) (hp : p + 5 * L.length + 1 ≤ 1013) (k1 : ∀ σ', ¬ sg_g σ' 38 13 = 0 → Q σ') (k2 : ∀ σ' b', sg_F kwL σ σ' → kS σ' es e b' (p + (cd A 201 n).length + 1) → kU σ σ' e b p L → sg_g σ' 31 d = p → (∀ i, ¬ i = d → sg_g σ' 31 i = sg_g σ 31 i) → pC σ' p (cd A 201 n ++ [(6, d)]) → scN σ' A cl 201 es n b b' → kIn (sg_g σ' 6 n) → Q σ') : V_kWalk σ d n Q := by
  have hA := h.1
  have hn : 0 ≤ n ∧ n < A.1 := hr n (fT_sub hf n (by simp))
  have n200 : 0 ≤ n ∧ n < 200 := by omega
  have hL1 := fT_len hf
  simp only [List.length_cons, List.length_nil] at hL1
  obtain ⟨s1, ⟨s2, s3, s4⟩, s5, s6, s7, s8⟩ := id hS
  unfold V_kWalk
  intro σ1 e1 σ4 e4
  rw [xp_in hd, s4] at e1
  rw [xp_in n200] at e4
  have f4 : sg_F [31, 42] σ σ4 := by rw [e4, e1]; exact sg_F_w (sg_F_w (sg_F_r _ _) rfl _) rfl _
  have S4 : kS σ4 es e b p := ⟨by rw [sg_F_g f4 (by rfl)]; exact s1, ⟨by rw [sg_F_g f4 (by rfl)]; exact s2, by rw [sg_F_g f4 (by rfl)]; exact s3, by rw [sg_F_g f4 (by rfl)]; exact s4⟩, fun i a c => by rw [sg_F_ga f4 rfl]; exact s5 i a c, s6, s7, s8⟩
  refine d_enter n200 S4 (by omega) (fun σ8 S8 f8 u8 c1 c2 c3 _ => ?_)
  have F8 : sg_F kwL σ σ8 := sg_F_t (sg_F_m f4 rfl) (sg_F_m f8 rfl)
  have g42 : sg_g σ8 42 n = -1 := by rw [sg_F_ga f8 rfl, e4, sg_gw_e _ _ _ _ (by decide)]
  have nL : n ∈ L := fT_sub hf n (by simp)
  have u4 : kU σ σ4 e b p L := ⟨fun x hx => by
    have xn : ¬ x = n := fun z => hx (by rw [z]; exact nL)
    refine ⟨⟨sg_F_ga f4 rfl, sg_F_ga f4 rfl⟩, sg_F_ga f4 rfl, ?_, sg_F_ga f4 rfl, sg_F_ga f4 rfl⟩
    rw [e4, sg_gw_k _ _ _ _ _ _ xn, e1, sg_gw_c _ _ _ _ _ _ (by decide)], fun s _ => sg_F_ga f4 rfl, fun i _ => sg_F_ga f4 rfl, fun i _ => ⟨sg_F_ga f4 rfl, sg_F_ga f4 rfl⟩⟩
  have U8 : kU σ σ8 e b p L := kU_t u4 u8 ⟨Int.le_refl _, Int.le_refl _⟩ ⟨Int.le_refl _, Int.le_refl _⟩ ⟨Int.le_refl _, Int.le_refl _⟩ (fun _ h => h) (fun x hx => by simp at hx; rw [hx]; exact nL)
  have E8 : hEs σ8 es b := fun s hs => by
    have := hE s hs
    exact ⟨this.1, by rw [U8.2.1 s this.1.2]; exact this.2⟩
  have D8 : cDq σ8 A cl L := cD_u (σ := σ) hD (sg_F_r _ _) F8 U8 (fun _ h => h)
  let X : sg_S → Prop := fun σ15 => ¬ sg_g σ15 38 13 = 0 ∨ ∃ b', sg_F kwL σ σ15 ∧ kS σ15 es e b' (p + (cd A 201 n).length) ∧ kU σ8 σ15 e b (p + 1) L ∧ pC σ15 p (cd A 201 n) ∧ scN σ15 A cl 201 es n b b' ∧ kIn (sg_g σ15 6 n)
  have hX : ∀ σ', ¬ sg_g σ' 38 13 = 0 → X σ' := fun σ' z => Or.inl z
  have W : kWk σ X 401 n σ8 := by
    rw [show (401 : Nat) = (401 - (2 * L.length - 1)) + (2 * L.length - 1) by omega]
    refine kB_all hX h hcl hr 201 n L es e b p σ8 _ hf hN (fun _ h => h) (by omega) F8 S8 c1 c2 ⟨by rw [c3.1, sg_F_ga f4 rfl], c3.2⟩ E8 D8 he hb (by omega) (fun σ' b' q1 q2 q3 q4 q5 q6 => ?_)
    rw [g42]
    have x : X σ' := Or.inr ⟨b', q1, q2, q3, q4, q5, q6⟩
    generalize 401 - (2 * L.length - 1) = m
    cases m with
    | zero => exact ⟨fun _ => x, fun _ => x, fun z => by omega⟩
    | succ m => exact ⟨fun _ => x, fun _ => x, fun z => by omega⟩
  refine ⟨fun m v13 v14 σ15 => v14 = 401 - (m : Int) ∧ m ≤ 401 ∧ kWk σ X m v13 σ15, X, ⟨401, rfl, Nat.le_refl _, W⟩, ?_, ?_⟩
  · rintro m v13 v14 σ15 r13 r14 f15 ⟨ev, hm, hk⟩
    cases m with
    | zero =>
      have x : X σ15 := by
        by_cases c : v13 < 0
        · exact hk.1 c
        · by_cases c' : sg_g σ15 38 13 = 0
          · exact (hk.2.2 (by omega) c').elim
          · exact hk.2.1 c'
      exact ⟨fun _ => x, fun _ => ⟨fun _ => x, fun _ => ⟨fun _ => x, fun c => (hk.2.2 (by omega) c).elim⟩⟩⟩
    | succ m =>
      refine ⟨fun z => by omega, fun _ => ⟨fun z => hk.1 z, fun z => ⟨fun z2 => hk.2.1 z2, fun z2 => ⟨kWk σ X m, hk.2.2 z z2, fun v44 σ42 _ _ h42 => ⟨⟨by omega, by omega⟩, m, by omega, by omega, by omega, h42⟩⟩⟩⟩⟩
  · intro σ15 f15 x
    rcases x with z | ⟨b', x1, x2, x3, x4, x5, x6⟩
    · exact c_add (fun σ31 f31 _ => k1 σ31 (by rw [sg_F_g f31 (by rfl)]; exact z))
    · have cl5 := cd_len 201 n L hf
      obtain ⟨y1, ⟨y2, y3, y4⟩, y5, y6, y7, y8⟩ := id x2
      refine d_add (p := p + (cd A 201 n).length) y4 ⟨y8, by omega⟩ (by decide) ⟨by omega, by omega⟩ (fun σ31 f31 d1 d2 d3 d4 _ => ?_)
      have FF : sg_F kwL σ σ31 := sg_F_t x1 (sg_F_m f31 rfl)
      have U : kU σ σ31 e b p L := kU_t U8 (kU_t x3 (⟨fun x _ => ⟨⟨sg_F_ga f31 rfl, sg_F_ga f31 rfl⟩, sg_F_ga f31 rfl, sg_F_ga f31 rfl, sg_F_ga f31 rfl, sg_F_ga f31 rfl⟩, fun s _ => sg_F_ga f31 rfl, fun i _ => sg_F_ga f31 rfl, fun i hi => d4 i (by omega)⟩ : kU σ15 σ31 e b (p + (cd A 201 n).length) L) (L := L) (e := e) (b := b) (p := p) ⟨Int.le_refl _, Int.le_refl _⟩ ⟨Int.le_refl _, Int.le_refl _⟩ ⟨by omega, by omega⟩ (fun _ h => h) (fun _ h => h)) ⟨Int.le_refl _, Int.le_refl _⟩ ⟨Int.le_refl _, Int.le_refl _⟩ ⟨Int.le_refl _, Int.le_refl _⟩ (fun _ h => h) (fun _ h => h)
      have g31 : ∀ i, sg_g σ31 31 i = sg_g σ4 31 i := fun i => by rw [sg_F_ga f31 rfl, sg_F_ga f15 rfl, sg_F_ga f8 rfl]
      have rp : sg_R p := by rw [← s4]; exact sg_Rg _ _ _
      refine k2 σ31 b' FF ⟨by rw [sg_F_g f31 (by rfl)]; exact y1, ⟨by rw [sg_F_g f31 (by rfl)]; exact y2, by rw [sg_F_g f31 (by rfl)]; exact y3, d1⟩, fun i a c => by rw [sg_F_ga f31 rfl]; exact y5 i a c, y6, y7, by omega⟩ U ?_ (fun i hi => ?_) (pC_a (pC_e x4 (Int.le_refl _) (fun i hi => d4 i (by omega))) (pC_1 d2 d3)) ?_ (by rw [sg_F_ga f31 rfl]; exact x6)
      · rw [g31, e4, sg_gw_c _ _ _ _ _ _ (by decide), e1, sg_gw_e _ _ _ _ rp]
      · rw [g31, e4, sg_gw_c _ _ _ _ _ _ (by decide), e1, sg_gw_k _ _ _ _ _ _ hi]
      · refine scN_st (σ := σ15) (LL := L) 201 es n b b' L hf (fun _ h => h) (fun y hy => (hE y hy).1.2) ⟨fun x _ => ⟨sg_F_ga f31 rfl, sg_F_ga f31 rfl⟩, fun s _ => sg_F_ga f31 rfl, fun i => ⟨sg_F_ga f31 rfl, sg_F_ga f31 rfl, sg_F_ga f31 rfl⟩, fun q _ _ => sg_F_ga f31 rfl⟩ x5
end WK5
/-! definition of the checker once more. -/
section WK6
variable {σ : sg_S} {A : aT} {Q : sg_S → Prop}
abbrev dfL : List Nat := [6, 16, 24, 29, 30, 31, 32, 33, 34, 39, 40, 41, 42, 43, 44, 7028, 10038, 11038, 12038, 13038, 14038]
/-- before a DEF: no fault, slots, plan -/
def kS0 (σ : sg_S) (b p : Int) : Prop := sg_g σ 38 13 = 0 ∧ (sg_g σ 38 10 = b ∧ sg_g σ 28 6 = p) ∧ 0 ≤ b ∧ 0 ≤ p
/-- what stays over a DEF -/
def kV (σ σ' : sg_S) (b p : Int) (L : List Int) : Prop := (∀ x, x ∉ L → sg_g σ' 6 x = sg_g σ 6 x ∧ sg_g σ' 16 x = sg_g σ 16 x) ∧ (∀ s, s < b → sg_g σ' 34 s = sg_g σ 34 s) ∧ ∀ i, i < p → sg_g σ' 29 i = sg_g σ 29 i ∧ sg_g σ' 30 i = sg_g σ 30 i
theorem d_definition {D : List aDf} {d : Nat} {x : aDf} {L : List Int} {b p : Int} (h : ckW σ A) (hD : cD2 σ D) (hx : D[d]? = some x) (hW : dW A x) (hf : fT A [x.2.2.2] L) (hN : L.Nodup) (hr : ∀ x ∈ L, 0 ≤ x ∧ x < A.1) (hl : L.length ≤ 200) (hS : kS0 σ b p) (hC : cDq σ A d L) (hb : b + x.2.2.1.length + L.length ≤ 272) (hp : p + 5 * L.length + 1 ≤ 1013) (k1 : ∀ σ', ¬ sg_g σ' 38 13 = 0 → Q σ') (k2 : ∀ σ' b', sg_F dfL σ σ' → kS0 σ' b' (p + (cd A 201 x.2.2.2).length + 1) → kV σ σ' b p L → (sg_g σ' 24 d = b ∧ sg_g σ' 31 d = p ∧ ∀ i, ¬ i = (d : Int) → sg_g σ' 24 i = sg_g σ 24 i ∧ sg_g σ' 31 i = sg_g σ 31 i) → pC σ' p (cd A 201 x.2.2.2 ++ [(6, (d : Int))]) → scN σ' A d 201 (gsl b x.2.2.1.length) x.2.2.2 (b + x.2.2.1.length) b' → kIn (sg_g σ' 6 x.2.2.2) → (∀ i : Nat, i < x.2.2.1.length → sg_g σ' 34 (b + i) = sg_g σ 27 (6 * d + i) ∧ kIn (sg_g σ' 34 (b + i))) → Q σ') : V_kDefinition σ d Q := by
  have hd12 : d < 12 := by
    have := hD.2.1
    have := gE_l hx
    omega
  have d12 : (0 : Int) ≤ (d : Int) ∧ (d : Int) < 12 := by omega
  obtain ⟨y1, y2, y3, y4, y5, y6⟩ := hD.2.2 d x hx
  obtain ⟨w1, w2, w3⟩ := hW
  obtain ⟨s1, ⟨s2, s3⟩, s4, s5⟩ := hS
  generalize hps : x.2.2.1 = ps at *
  unfold V_kDefinition
  intro σ1 e1 σ4 e4
  have f4 : sg_F [10038, 12038] σ σ4 := by rw [e4, e1]; exact sg_F_w (sg_F_w (sg_F_r _ _) rfl _) rfl _
  have k4 : sg_g σ4 38 9 = 0 := by rw [e4, sg_gw_k _ _ _ _ _ _ (by decide), e1, sg_gw_e _ _ _ _ (by decide)]
  have d4 : sg_g σ4 38 11 = d := by rw [e4, sg_gw_e _ _ _ _ ⟨by omega, by omega⟩]
  have z4 : sg_g σ4 38 13 = 0 := by rw [sg_F_g f4 (by rfl)]; exact s1
  rw [xa_in (a := 23) d12, y4, xa_in (a := 22) d12, y3, s2]
  have main : ∀ σ16, sg_F [13038, 14038] σ4 σ16 → ∀ σ19, σ19 = sx_put σ16 24 12 d b → (∃ (I25 : Nat → Int → sg_S → Prop) (X27 : sg_S → Prop), (∃ n, I25 n 0 σ19) ∧ (∀ (n35 : Nat) (v22 : Int) (σ23 : sg_S), sg_R v22 → sg_F [34, 39, 40, 10038, 11038, 13038, 14038] σ19 σ23 → I25 n35 v22 σ23 → (((ps.length : Int) ≤ v22 → X27 σ23) ∧ (v22 < (ps.length : Int) → ((6 ≤ v22 → X27 σ23) ∧ (v22 < 6 → sg_R ((d : Int) * 6) ∧ sg_R (((d : Int) * 6) + v22) ∧ V_kFind σ23 ((sx_atl σ 25 72 ((((d : Int) * 6) + v22)))) (fun q48 _ => sg_R q48 → (∃ P56 : sg_S → Prop, ((q48 < 0 → P56 σ23) ∧ (0 ≤ q48 → V_kBlame σ23 (2) ((sx_at σ 26 72 ((((d : Int) * 6) + v22)))) (fun σ81 => sg_F [13038, 14038] σ23 σ81 → P56 σ81))) ∧ (∀ (σ57 : sg_S), sg_F [13038, 14038] σ23 σ57 → P56 σ57 → (∃ P62 : sg_S → Prop, (((sx_at σ 27 72 ((((d : Int) * 6) + v22))) ≤ 3 → P62 σ57) ∧ (3 < (sx_at σ 27 72 ((((d : Int) * 6) + v22))) → V_kBlame σ57 (3) ((sx_at σ 26 72 ((((d : Int) * 6) + v22)))) (fun σ75 => sg_F [13038, 14038] σ57 σ75 → P62 σ75))) ∧ (∀ (σ63 : sg_S), sg_F [13038, 14038] σ57 σ63 → P62 σ63 → V_kBind σ63 ((sx_atl σ 25 72 ((((d : Int) * 6) + v22)))) ((sx_at σ 27 72 ((((d : Int) * 6) + v22)))) (fun q66 σ67 => sg_R q66 → sg_F [34, 39, 40, 10038, 11038] σ63 σ67 → sg_R (v22 + 1) ∧ (∃ m, m < n35 ∧ I25 m ((v22 + 1)) σ67)))))))))))) ∧ (∀ (σ23 : sg_S), sg_F [34, 39, 40, 10038, 11038, 13038, 14038] σ19 σ23 → X27 σ23 → ((¬ (sg_g σ23 38 13) = 0 → Q σ23) ∧ ((sg_g σ23 38 13) = 0 → V_kWalk σ23 (d : Int) (x.2.2.2) (fun σ39 => sg_F [6, 16, 29, 30, 31, 32, 33, 34, 39, 40, 41, 42, 43, 44, 7028, 10038, 11038, 13038, 14038] σ23 σ39 → Q σ39))))) := by
    intro σ16 f16 σ19 e19
    rw [xp_in d12] at e19
    have f19 : sg_F [24] σ16 σ19 := by rw [e19]; exact sg_F_w (sg_F_r _ _) rfl _
    have F19 : sg_F [24, 10038, 12038, 13038, 14038] σ σ19 := sg_F_t (sg_F_t (sg_F_m f4 rfl) (sg_F_m f16 rfl)) (sg_F_m f19 rfl)
    have g24 : sg_g σ19 24 d = b := by rw [e19, sg_gw_e _ _ _ _ ⟨by omega, by omega⟩]
    have o24 : ∀ i, ¬ i = (d : Int) → sg_g σ19 24 i = sg_g σ 24 i := fun i hi => by rw [e19, sg_gw_k _ _ _ _ _ _ hi, sg_F_ga f16 rfl, sg_F_ga f4 rfl]
    have k19 : sg_g σ19 38 9 = 0 := by rw [sg_F_g f19 (by rfl), sg_F_g f16 (by rfl)]; exact k4
    have c19 : sg_g σ19 38 10 = b := by rw [sg_F_g F19 (by rfl)]; exact s2
    have t27 : ∀ (j : Nat) (y : Int × Int × Int), ps[j]? = some y → sg_g σ 27 (6 * d + j) = y.2.2 := fun j y hy => (y6 j y hy).2.2
    refine ⟨fun m v σ23 => ∃ j : Nat, v = j ∧ m = ps.length - j ∧ j ≤ ps.length ∧ (sg_g σ23 38 9 = j ∧ sg_g σ23 38 10 = b + j) ∧ (∀ i, 0 ≤ i → i < (j : Int) → b ≤ sg_g σ23 40 i ∧ sg_g σ23 40 i < b + j) ∧ (∀ i : Nat, i < j → sg_g σ23 34 (b + i) = sg_g σ 27 (6 * d + i)) ∧ (∀ s, s < b → sg_g σ23 34 s = sg_g σ 34 s) ∧ (¬ sg_g σ23 38 13 = 0 ∨ ∀ i : Nat, i < j → sg_g σ 27 (6 * d + i) ≤ 3), fun σ23 => (sg_g σ23 38 9 = ps.length ∧ sg_g σ23 38 10 = b + ps.length) ∧ (∀ i, 0 ≤ i → i < (ps.length : Int) → b ≤ sg_g σ23 40 i ∧ sg_g σ23 40 i < b + ps.length) ∧ (∀ i : Nat, i < ps.length → sg_g σ23 34 (b + i) = sg_g σ 27 (6 * d + i)) ∧ (∀ s, s < b → sg_g σ23 34 s = sg_g σ 34 s) ∧ (¬ sg_g σ23 38 13 = 0 ∨ ∀ i : Nat, i < ps.length → sg_g σ 27 (6 * d + i) ≤ 3), ⟨_, 0, rfl, rfl, Nat.zero_le _, ⟨by rw [k19]; rfl, by rw [c19]; omega⟩, fun i a c => by omega, fun i hi => by omega, fun s _ => sg_F_ga F19 rfl, Or.inr (fun i hi => by omega)⟩, ?_, ?_⟩
    · rintro m v σ23 rv fr ⟨j, rfl, em, hj, ⟨a1, a2⟩, a3, a4, a5, a6⟩
      have fin : ps.length ≤ j → (sg_g σ23 38 9 = ps.length ∧ sg_g σ23 38 10 = b + ps.length) ∧ (∀ i, 0 ≤ i → i < (ps.length : Int) → b ≤ sg_g σ23 40 i ∧ sg_g σ23 40 i < b + ps.length) ∧ (∀ i : Nat, i < ps.length → sg_g σ23 34 (b + i) = sg_g σ 27 (6 * d + i)) ∧ (∀ s, s < b → sg_g σ23 34 s = sg_g σ 34 s) ∧ (¬ sg_g σ23 38 13 = 0 ∨ ∀ i : Nat, i < ps.length → sg_g σ 27 (6 * d + i) ≤ 3) := fun q => by
        have : j = ps.length := by omega
        subst this
        exact ⟨⟨a1, a2⟩, a3, a4, a5, a6⟩
      refine ⟨fun c1 => fin (by omega), fun c1 => ⟨fun c2 => fin (by omega), fun c2 => ⟨⟨by omega, by omega⟩, ⟨by omega, by omega⟩, ?_⟩⟩⟩
      have i72 : (0 : Int) ≤ (d : Int) * 6 + j ∧ (d : Int) * 6 + j < 72 := by omega
      have ei : (d : Int) * 6 + (j : Int) = 6 * (d : Int) + j := by omega
      rw [xa_in (a := 27) i72, ei]
      have rest : ∀ σ57, sg_F [13038, 14038] σ23 σ57 → (¬ sg_g σ23 38 13 = 0 → ¬ sg_g σ57 38 13 = 0) → (∃ P62 : sg_S → Prop, ((sg_g σ 27 (6 * (d : Int) + j) ≤ 3 → P62 σ57) ∧ (3 < sg_g σ 27 (6 * (d : Int) + j) → V_kBlame σ57 (3) (sx_at σ 26 72 (6 * (d : Int) + j)) (fun σ75 => sg_F [13038, 14038] σ57 σ75 → P62 σ75))) ∧ (∀ (σ63 : sg_S), sg_F [13038, 14038] σ57 σ63 → P62 σ63 → V_kBind σ63 (sx_atl σ 25 72 (6 * (d : Int) + j)) (sg_g σ 27 (6 * (d : Int) + j)) (fun q66 σ67 => sg_R q66 → sg_F [34, 39, 40, 10038, 11038] σ63 σ67 → sg_R ((j : Int) + 1) ∧ (∃ m', m' < m ∧ ∃ j' : Nat, (j : Int) + 1 = j' ∧ m' = ps.length - j' ∧ j' ≤ ps.length ∧ (sg_g σ67 38 9 = j' ∧ sg_g σ67 38 10 = b + j') ∧ (∀ i, 0 ≤ i → i < (j' : Int) → b ≤ sg_g σ67 40 i ∧ sg_g σ67 40 i < b + j') ∧ (∀ i : Nat, i < j' → sg_g σ67 34 (b + i) = sg_g σ 27 (6 * d + i)) ∧ (∀ s, s < b → sg_g σ67 34 s = sg_g σ 34 s) ∧ (¬ sg_g σ67 38 13 = 0 ∨ ∀ i : Nat, i < j' → sg_g σ 27 (6 * d + i) ≤ 3))))) := fun σ57 f57 h57 => by
        refine ⟨fun σ62 => ¬ sg_g σ62 38 13 = 0 ∨ (σ62 = σ57 ∧ sg_g σ 27 (6 * (d : Int) + j) ≤ 3), ⟨fun c => Or.inr ⟨rfl, c⟩, fun _ => d_blame (by decide) (fun σ' z _ _ => Or.inl z)⟩, fun σ63 f63 h63 => ?_⟩
        have f2363 : sg_F [13038, 14038] σ23 σ63 := sg_F_t f57 f63
        refine d_bind (e := j) (b := b + j) (by rw [sg_F_g f2363 (by rfl)]; exact a1) (by rw [sg_F_g f2363 (by rfl)]; exact a2) ⟨⟨by omega, by omega⟩, by omega, by omega⟩ (sg_Rg _ _ _) (fun σ67 f67 b1 b2 b3 b4 b5 b6 _ _ => ⟨⟨by omega, by omega⟩, ps.length - (j + 1), by omega, j + 1, by omega, rfl, by omega, ⟨by rw [b1]; omega, by rw [b2]; omega⟩, fun i z1 z2 => ?_, fun i hi => ?_, fun s hs => ?_, ?_⟩)
        · by_cases c : i = j
          · rw [c, b3]; omega
          · rw [b4 i c, sg_F_ga f2363 rfl]
            have := a3 i z1 (by omega)
            omega
        · by_cases c : i = j
          · subst c; exact b5
          · rw [b6 _ (by omega), sg_F_ga f2363 rfl]; exact a4 i (by omega)
        · rw [b6 _ (by omega), sg_F_ga f2363 rfl]; exact a5 s hs
        · rcases h63 with z | ⟨z1, z2⟩
          · exact Or.inl (by rw [sg_F_g f67 (by rfl)]; exact z)
          · rw [sg_F_g f67 (by rfl), z1]
            rcases a6 with z | z
            · exact Or.inl (h57 z)
            · right
              intro i hi
              by_cases c : i = j
              · subst c; exact z2
              · exact z i (by omega)
      refine d_find a1 ⟨by omega, by omega⟩ (fun _ => ?_) (fun i _ _ _ => ?_)
      · exact ⟨fun σ57 => ¬ sg_g σ23 38 13 = 0 → ¬ sg_g σ57 38 13 = 0, ⟨fun _ z => z, fun _ => d_blame (by decide) (fun σ' z _ _ _ => z)⟩, fun σ57 f57 h57 => rest σ57 f57 h57⟩
      · exact ⟨fun σ57 => ¬ sg_g σ23 38 13 = 0 → ¬ sg_g σ57 38 13 = 0, ⟨fun _ z => z, fun _ => d_blame (by decide) (fun σ' z _ _ _ => z)⟩, fun σ57 f57 h57 => rest σ57 f57 h57⟩
    · rintro σ23 f23 ⟨⟨a1, a2⟩, a3, a4, a5, a6⟩
      refine ⟨fun z => k1 σ23 z, fun z => ?_⟩
      have F23 : sg_F [24, 34, 39, 40, 10038, 11038, 12038, 13038, 14038] σ σ23 := sg_F_t (sg_F_m F19 rfl) (sg_F_m f23 rfl)
      have a7 : ∀ i : Nat, i < ps.length → sg_g σ 27 (6 * d + i) ≤ 3 := by
        rcases a6 with q | q
        · exact absurd z q
        · exact q
      have S23 : kS σ23 (gsl b ps.length) ps.length (b + ps.length) p := ⟨z, ⟨a1, a2, by rw [sg_F_g F23 (by rfl)]; exact s3⟩, fun i q1 q2 => gsl_m.mpr (a3 i q1 q2), by omega, by omega, s5⟩
      have tk : ∀ i : Nat, i < ps.length → kIn (sg_g σ23 34 (b + i)) := fun i hi => by
        have hy : ps[i]? = some (ps[i]'hi) := List.getElem?_eq_getElem hi
        have q1 := t27 i _ hy
        have q2 := w2 _ (List.mem_of_getElem? hy)
        have q3 := a7 i hi
        rw [a4 i hi]
        unfold kIn
        omega
      have E23 : hEs σ23 (gsl b ps.length) (b + ps.length) := fun s hs => by
        have q := gsl_m.mp hs
        have := tk (s - b).toNat (by omega)
        rw [show b + (((s - b).toNat : Nat) : Int) = s by omega] at this
        exact ⟨⟨by omega, by omega⟩, this⟩
      have C23 : cDq σ23 A d L := fun q q1 q2 => by
        obtain ⟨y0, ps', r, z1, z2, z3, z4⟩ := hC q q1 q2
        exact ⟨y0, ps', r, dcQ_F z1 F23 rfl, z2, by rw [sg_F_ga F23 rfl]; exact z3, z4⟩
      have cl23 : sg_g σ23 38 11 = d := by rw [sg_F_g f23 (by rfl), sg_F_g f19 (by rfl), sg_F_g f16 (by rfl)]; exact d4
      refine d_walk (ckW_F h F23 rfl) hf hN hr hl ⟨d12.1, by omega⟩ S23 E23 cl23 C23 (by omega) (by omega) hp (fun σ' q _ => k1 σ' q) (fun σ' b' g1 g2 g3 g4 g5 g6 g7 g8 _ => ?_)
      have FF : sg_F dfL σ σ' := sg_F_t (sg_F_m F23 rfl) (sg_F_m g1 rfl)
      · obtain ⟨q1, ⟨q2, q3, q4⟩, q5, q6, q7, q8⟩ := g2
        refine k2 σ' b' FF ⟨q1, ⟨q3, q4⟩, q7, q8⟩ ⟨fun y hy => ⟨by rw [(g3.1 y hy).1.1, sg_F_ga F23 rfl], by rw [(g3.1 y hy).1.2, sg_F_ga F23 rfl]⟩, fun s hs => by rw [g3.2.1 s (by omega), a5 s hs], fun i hi => by rw [(g3.2.2.2 i hi).1, (g3.2.2.2 i hi).2, sg_F_ga F23 rfl, sg_F_ga F23 rfl]; exact ⟨rfl, rfl⟩⟩ ⟨by rw [sg_F_ga g1 rfl, sg_F_ga f23 rfl]; exact g24, g4, fun i hi => ⟨by rw [sg_F_ga g1 rfl, sg_F_ga f23 rfl]; exact o24 i hi, by rw [g5 i hi, sg_F_ga F23 rfl]⟩⟩ g6 g7 g8 (fun i hi => ?_)
        rw [g3.2.1 _ (by omega)]
        exact ⟨a4 i hi, tk i hi⟩
  refine d_dfind (fun _ => ?_) (fun q _ _ _ _ => ?_)
  · exact ⟨fun _ => True, ⟨fun _ => True.intro, fun _ => d_blame (by decide) (fun _ _ _ _ => True.intro)⟩, fun σ16 f16 _ σ19 e19 => main σ16 f16 σ19 e19⟩
  · exact ⟨fun _ => True, ⟨fun _ => True.intro, fun _ => d_blame (by decide) (fun _ _ _ _ => True.intro)⟩, fun σ16 f16 _ σ19 e19 => main σ16 f16 σ19 e19⟩
end WK6
/-! check of the checker once more: what it lays out. -/
/-- a DEF that is laid out -/
def dR (σ : sg_S) (A : aT) (H : Int → Int) (b p q : Int) (Ld : List Int) : Prop := ∃ L, fT A [sg_g σ 22 q] L ∧ (∀ x ∈ L, x ∈ Ld) ∧ scN σ A q 201 (gsl (sg_g σ 24 q) (sg_g σ 23 q).toNat) (sg_g σ 22 q) (sg_g σ 24 q + sg_g σ 23 q) (H q) ∧ pC σ (sg_g σ 31 q) (cd A 201 (sg_g σ 22 q) ++ [(6, q)]) ∧ (0 ≤ sg_g σ 31 q ∧ sg_g σ 31 q + (cd A 201 (sg_g σ 22 q)).length + 1 ≤ p) ∧ (0 ≤ sg_g σ 24 q ∧ H q ≤ b) ∧ (∀ i : Nat, (i : Int) < sg_g σ 23 q → sg_g σ 34 (sg_g σ 24 q + i) = sg_g σ 27 (6 * q + i) ∧ kIn (sg_g σ 34 (sg_g σ 24 q + i))) ∧ kIn (sg_g σ 6 (sg_g σ 22 q)) ∧ (0 ≤ sg_g σ 23 q ∧ sg_g σ 23 q ≤ 6)
theorem dR_st {σ σ' : sg_S} {A : aT} {H H' : Int → Int} {b p b1 p1 q : Int} {Ld Ld1 La : List Int} (h : dR σ A H b p q Ld) (v : kV σ σ' b p La) (hd : ∀ x ∈ Ld, x ∉ La) (f : sg_F dfL σ σ') (h24 : sg_g σ' 24 q = sg_g σ 24 q) (h31 : sg_g σ' 31 q = sg_g σ 31 q) (hr : ∀ q', 0 ≤ q' → q' < q → sg_g σ 22 q' ∈ Ld) (hH : H' q = H q) (hb : b ≤ b1) (hp : p ≤ p1) (hL : ∀ x ∈ Ld, x ∈ Ld1) : dR σ' A H' b1 p1 q Ld1 := by
  obtain ⟨L, a1, a2, a3, a4, a5, a6, a7, a8, a9⟩ := h
  have e22 : ∀ i, sg_g σ' 22 i = sg_g σ 22 i := fun i => sg_F_ga f rfl
  have e23 : ∀ i, sg_g σ' 23 i = sg_g σ 23 i := fun i => sg_F_ga f rfl
  have e27 : ∀ i, sg_g σ' 27 i = sg_g σ 27 i := fun i => sg_F_ga f rfl
  have le := scN_le _ _ _ _ _ a3
  have root : sg_g σ 22 q ∈ Ld := a2 _ (fT_sub a1 _ (by simp))
  unfold dR
  rw [e22, e23, h24, h31, hH]
  refine ⟨L, a1, fun x hx => hL x (a2 x hx), scN_st (σ := σ) (LL := Ld) 201 _ _ _ _ L a1 a2 (fun y hy => ?_) ⟨fun x hx => ⟨(v.1 x (hd x hx)).2, (v.1 x (hd x hx)).1⟩, fun s hs => v.2.1 s (by omega), fun i => ⟨e22 i, e23 i, e27 i⟩, fun q' z1 z2 => (v.1 _ (hd _ (hr q' z1 z2))).1⟩ a3, pC_e a4 (show sg_g σ 31 q + (((cd A 201 (sg_g σ 22 q) ++ [(6, q)]).length : Nat) : Int) ≤ p by rw [List.length_append, List.length_cons, List.length_nil]; omega) v.2.2, ⟨a5.1, by omega⟩, ⟨a6.1, by omega⟩, fun i hi => ?_, ?_, a9⟩
  · have := gsl_m.mp hy; omega
  · rw [e27, v.2.1 _ (by omega)]; exact a7 i hi
  · rw [(v.1 _ (hd _ root)).1]; exact a8
/-- all that is laid out for a PROGRAM -/
def ckA (σ : sg_S) (A : aT) (M r : Int) : Prop := ∃ (H : Int → Int) (fs : Int) (Ld : List Int), (∀ q, 0 ≤ q → q < M → dR σ A H fs 1013 q Ld ∧ ∀ q', 0 ≤ q' → q' < q → H q' ≤ sg_g σ 24 q) ∧ 0 ≤ fs ∧ scN σ A M 201 [] r fs (H 12) ∧ H 12 ≤ 272 ∧ pl σ (sg_g σ 31 12) (cd A 201 r ++ [(6, 12)])
/-- DEFS below d are laid out -/
def ckSt (A : aT) (D : List aDf) (q : Int) (σ14 : sg_S) (d : Nat) : Prop := ∃ (H : Int → Int) (b p : Int) (Ld L : List Int), kS0 σ14 b p ∧ (∀ q', 0 ≤ q' → q' < (d : Int) → dR σ14 A H b p q' Ld ∧ ∀ q'', 0 ≤ q'' → q'' < q' → H q'' ≤ sg_g σ14 24 q') ∧ fT A ((aRt D ++ [q]).drop d) L ∧ (Ld ++ L).Nodup ∧ (∀ x ∈ Ld ++ L, 0 ≤ x ∧ x < A.1) ∧ b + 6 * ((D.length - d : Nat) : Int) + L.length ≤ 272 ∧ p + 5 * L.length + ((D.length - d : Nat) : Int) + 1 ≤ 1013
section CHK2
variable {σ : sg_S} {A : aT} {D : List aDf} {q : Int} {Q : Int → sg_S → Prop}
theorem updq (H : Int → Int) (d b : Int) : ∃ H' : Int → Int, H' d = b ∧ ∀ z, ¬ z = d → H' z = H z := ⟨fun z => if z = d then b else H z, if_pos rfl, fun z hz => if_neg hz⟩
theorem d_check (h : ckW σ A) (hD : cD2 σ D) (hW : ∀ x ∈ D, dW A x) (hfr : frA A (aRt D ++ [q])) (k1 : ∀ p σ', ¬ sg_g σ' 38 13 = 0 → Q p σ') (k2 : ∀ p σ', sg_g σ' 38 13 = 0 → ckA σ' A D.length q → sg_F dfL σ σ' → Q p σ') : V_kCheck σ q Q := by
  obtain ⟨y1, y2, y3⟩ := id hD
  have hA := h.1.2
  obtain ⟨LA, hf1, hf2, hf3, -⟩ := hfr
  have hLA : LA.length ≤ 200 := ndl 200 LA hf2 (fun x hx => by have := hf3 x hx; omega)
  have hrl : (aRt D).length = D.length := by unfold aRt; rw [List.length_map]
  unfold V_kCheck
  intro σ1 e1 σ4 e4 σ7 e7 σ10 e10
  have f10 : sg_F [7028, 11038, 13038, 14038] σ σ10 := by
    rw [e10, e7, e4, e1]; exact sg_F_w (sg_F_w (sg_F_w (sg_F_w (sg_F_r _ _) rfl _) rfl _) rfl _) rfl _
  have S10 : kS0 σ10 0 0 := ⟨by rw [e10, sg_gw_k _ _ _ _ _ _ (by decide), e7, sg_gw_e _ _ _ _ (by decide)], ⟨by rw [e10, sg_gw_k _ _ _ _ _ _ (by decide), e7, sg_gw_k _ _ _ _ _ _ (by decide), e4, sg_gw_e _ _ _ _ (by decide)], by rw [e10, sg_gw_c _ _ _ _ _ _ (by decide), e7, sg_gw_c _ _ _ _ _ _ (by decide), e4, sg_gw_c _ _ _ _ _ _ (by decide), e1, sg_gw_e _ _ _ _ (by decide)]⟩, by decide, by decide⟩
  rw [y1]
  have St0 : ckSt A D q σ10 0 := ⟨fun _ => 0, 0, 0, [], LA, S10, fun q' a b => by omega, hf1, by simpa using hf2, by simpa using hf3, by omega, by omega⟩
  refine ⟨fun m v σ14 => ∃ d : Nat, v = d ∧ m = D.length - d ∧ d ≤ D.length ∧ (¬ sg_g σ14 38 13 = 0 ∨ ckSt A D q σ14 d), fun σ14 => ¬ sg_g σ14 38 13 = 0 ∨ ckSt A D q σ14 D.length, ⟨_, 0, rfl, rfl, Nat.zero_le _, Or.inr St0⟩, ?_, ?_⟩
  · rintro m v σ14 rv fr ⟨d, rfl, em, hd, hi⟩
    have fin : D.length ≤ d → ¬ sg_g σ14 38 13 = 0 ∨ ckSt A D q σ14 D.length := fun hdd => by
      have : d = D.length := by omega
      subst this; exact hi
    refine ⟨fun c1 => fin (by omega), fun c1 => ⟨fun c2 => fin (by omega), fun c2 => ⟨fun c3 => Or.inl c3, fun c3 => ?_⟩⟩⟩
    rcases hi with a | ⟨H, b, p, Ld, L, a1, a2, a3, a4, a5, a6, a7⟩
    · exact absurd c3 a
    have hd2 : d < D.length := by omega
    have hx : D[d]? = some D[d] := List.getElem?_eq_getElem hd2
    have hwx := hW D[d] (List.getElem_mem hd2)
    have f14 : sg_F dfL σ σ14 := sg_F_t (sg_F_m f10 rfl) fr
    have D14 : cD2 σ14 D := cD2_F hD f14 rfl
    have hdr : (aRt D ++ [q]).drop d = [D[d].2.2.2] ++ (aRt D ++ [q]).drop (d + 1) := by
      have hl : d < (aRt D ++ [q]).length := by rw [List.length_append, hrl]; simp only [List.length_cons, List.length_nil]; omega
      rw [List.drop_eq_getElem_cons hl, List.getElem_append_left (by rw [hrl]; exact hd2)]
      simp only [aRt, List.getElem_map, List.singleton_append]
    rw [hdr] at a3
    obtain ⟨La, Lb, eL, fa, fb⟩ := fT_spl _ _ _ a3
    subst eL
    rw [List.length_append] at a6 a7
    have nd := List.nodup_append.mp a4
    have ndL := List.nodup_append.mp nd.2.1
    have dLa : ∀ x ∈ Ld, x ∉ La := fun x hx z => nd.2.2 x hx x (List.mem_append_left _ z) rfl
    have hLa : La.length ≤ 200 := ndl 200 La ndL.1 (fun x hx => by have := a5 x (List.mem_append_right _ (List.mem_append_left _ hx)); omega)
    have roots : ∀ q', 0 ≤ q' → q' < (d : Int) → sg_g σ14 22 q' ∈ Ld := fun q' z1 z2 => by
      obtain ⟨L', b1, b2, -⟩ := (a2 q' z1 z2).1
      exact b2 _ (fT_sub b1 _ (by simp))
    have C14 : cDq σ14 A d La := fun q' z1 z2 => by
      have hq : q'.toNat < D.length := by omega
      obtain ⟨t1, t2, t3, t4, t5, t6⟩ := D14.2.2 q'.toNat D[q'.toNat] (List.getElem?_eq_getElem hq)
      rw [show ((q'.toNat : Nat) : Int) = q' by omega] at t3 t4 t6
      obtain ⟨L', b1, b2, b3, b4, b5, b6, b7, b8, b9⟩ := (a2 q' z1 z2).1
      have rt := roots q' z1 z2
      refine ⟨by omega, D[q'.toNat].2.2.1.map (·.2.2), sg_g σ14 22 q', ⟨by rw [t4, List.length_map], fun j y hy => ?_, rfl, by rw [List.length_map]; exact t5⟩, a5 _ (List.mem_append_left _ rt), b8, fun z => dLa _ rt z⟩
      rw [List.getElem?_map] at hy
      cases hp : D[q'.toNat].2.2.1[j]? with
      | none => rw [hp] at hy; cases hy
      | some w => rw [hp] at hy; rw [(t6 j w hp).2.2]; exact Option.some.inj hy
    have hp6 := hwx.2.2
    refine d_definition (ckW_F h f14 rfl) D14 hx hwx fa ndL.1 (fun x hx => a5 x (List.mem_append_right _ (List.mem_append_left _ hx))) hLa a1 C14 (by omega) (by omega) (fun σ' z _ => ⟨⟨by omega, by omega⟩, D.length - (d + 1), by omega, d + 1, by omega, rfl, by omega, Or.inl z⟩) (fun σ' b' g1 g2 g3 g4 g5 g6 g7 g8 _ => ⟨⟨by omega, by omega⟩, D.length - (d + 1), by omega, d + 1, by omega, rfl, by omega, Or.inr ?_⟩)
    obtain ⟨t1, t2, t3, t4, t5, t6⟩ := D14.2.2 d D[d] hx
    have e22 : ∀ i, sg_g σ' 22 i = sg_g σ14 22 i := fun i => sg_F_ga g1 rfl
    have e23 : ∀ i, sg_g σ' 23 i = sg_g σ14 23 i := fun i => sg_F_ga g1 rfl
    have sl := scN_len _ _ _ _ _ _ fa g6
    have sle := scN_le _ _ _ _ _ g6
    have cl5 := cd_len 201 D[d].2.2.2 La fa
    obtain ⟨H', hH1, hH2⟩ := updq H d b'
    refine ⟨H', b', p + (cd A 201 D[d].2.2.2).length + 1, Ld ++ La, Lb, g2, fun q' z1 z2 => ?_, fb, by rw [List.append_assoc]; exact a4, by rw [List.append_assoc]; exact a5, by omega, by omega⟩
    by_cases c : q' = (d : Int)
    · subst c
      refine ⟨⟨La, by rw [e22, t3]; exact fa, fun x hx => List.mem_append_right _ hx, ?_, ?_, ?_, ?_, fun i hi => ?_, ?_, ?_⟩, fun q'' z3 z4 => ?_⟩
      · rw [e22, e23, t3, t4, g4.1, hH1, Int.toNat_natCast]; exact g6
      · rw [e22, t3, g4.2.1]; exact g5
      · rw [e22, t3, g4.2.1]; exact ⟨a1.2.2.2, Int.le_refl _⟩
      · rw [g4.1, hH1]; exact ⟨a1.2.2.1, Int.le_refl _⟩
      · rw [e23, t4] at hi
        rw [g4.1, show sg_g σ' 27 (6 * (d : Int) + i) = sg_g σ14 27 (6 * (d : Int) + i) from sg_F_ga g1 rfl]
        exact g8 i (by omega)
      · rw [e22, t3]; exact g7
      · rw [e23, t4]; omega
      · rw [hH2 _ (by omega), g4.1]
        obtain ⟨L', b1, b2, b3, b4, b5, b6, b7⟩ := (a2 q'' z3 (by omega)).1
        exact b6.2
    · have z2' : q' < (d : Int) := by omega
      obtain ⟨r1, r2⟩ := a2 q' z1 z2'
      obtain ⟨o1, o2⟩ := g4.2.2 q' c
      refine ⟨dR_st (H' := H') r1 g3 dLa g1 o1 o2 (fun q'' w1 w2 => roots q'' w1 (by omega)) (hH2 _ c) (by omega) (by omega) (fun x hx => List.mem_append_left _ hx), fun q'' w1 w2 => ?_⟩
      rw [hH2 _ (by omega), o1]
      exact r2 q'' w1 w2
  · intro σ14 fr hi
    rcases hi with a | ⟨H, b, p, Ld, L, a1, a2, a3, a4, a5, a6, a7⟩
    · exact ⟨fun _ => k1 _ σ14 a, fun z => absurd z a⟩
    refine ⟨fun z => absurd a1.1 z, fun _ σ29 e29 σ32 e32 => ?_⟩
    have f14 : sg_F dfL σ σ14 := sg_F_t (sg_F_m f10 rfl) fr
    have D14 : cD2 σ14 D := cD2_F hD f14 rfl
    have f32 : sg_F [10038, 12038] σ14 σ32 := by rw [e32, e29]; exact sg_F_w (sg_F_w (sg_F_r _ _) rfl _) rfl _
    have k9 : sg_g σ32 38 9 = 0 := by rw [e32, sg_gw_k _ _ _ _ _ _ (by decide), e29, sg_gw_e _ _ _ _ (by decide)]
    have cl : sg_g σ32 38 11 = D.length := by rw [e32, sg_gw_e _ _ _ _ ⟨by omega, by omega⟩]
    rw [← hrl, List.drop_left] at a3
    have nd := List.nodup_append.mp a4
    have dL : ∀ x ∈ Ld, x ∉ L := fun x hx z => nd.2.2 x hx x z rfl
    have hL : L.length ≤ 200 := ndl 200 L nd.2.1 (fun x hx => by have := a5 x (List.mem_append_right _ hx); omega)
    obtain ⟨x1, ⟨x2, x3⟩, x4, x5⟩ := a1
    have S32 : kS σ32 [] 0 b p := ⟨by rw [sg_F_g f32 (by rfl)]; exact x1, ⟨k9, by rw [sg_F_g f32 (by rfl)]; exact x2, by rw [sg_F_g f32 (by rfl)]; exact x3⟩, fun i z1 z2 => by omega, by decide, x4, x5⟩
    have roots : ∀ q', 0 ≤ q' → q' < (D.length : Int) → sg_g σ14 22 q' ∈ Ld := fun q' z1 z2 => by
      obtain ⟨L', b1, b2, -⟩ := (a2 q' z1 z2).1
      exact b2 _ (fT_sub b1 _ (by simp))
    have C32 : cDq σ32 A D.length L := fun q' z1 z2 => by
      have hq : q'.toNat < D.length := by omega
      obtain ⟨t1, t2, t3, t4, t5, t6⟩ := D14.2.2 q'.toNat D[q'.toNat] (List.getElem?_eq_getElem hq)
      rw [show ((q'.toNat : Nat) : Int) = q' by omega] at t3 t4 t6
      obtain ⟨L', b1, b2, b3, b4, b5, b6, b7, b8, b9⟩ := (a2 q' z1 z2).1
      have rt := roots q' z1 z2
      refine ⟨by omega, D[q'.toNat].2.2.1.map (·.2.2), sg_g σ14 22 q', dcQ_F ⟨by rw [t4, List.length_map], fun j y hy => ?_, rfl, by rw [List.length_map]; exact t5⟩ f32 rfl, a5 _ (List.mem_append_left _ rt), by rw [sg_F_ga f32 rfl]; exact b8, fun z => dL _ rt z⟩
      rw [List.getElem?_map] at hy
      cases hp : D[q'.toNat].2.2.1[j]? with
      | none => rw [hp] at hy; cases hy
      | some w => rw [hp] at hy; rw [(t6 j w hp).2.2]; exact Option.some.inj hy
    rw [Nat.sub_self] at a6 a7
    refine d_walk (ckW_F (ckW_F h f14 rfl) f32 rfl) a3 nd.2.1 (fun x hx => a5 x (List.mem_append_right _ hx)) hL ⟨by decide, by decide⟩ S32 (fun s hs => by simp at hs) cl C32 (by omega) (by omega) (by omega) (fun σ' z _ => k1 _ σ' z) (fun σ' b' g1 g2 g3 g4 g5 g6 g7 g8 _ => ?_)
    have FF : sg_F dfL σ14 σ' := sg_F_t (sg_F_m f32 rfl) (sg_F_m g1 rfl)
    have V : kV σ14 σ' b p L := ⟨fun y hy => ⟨by rw [(g3.1 y hy).1.1, sg_F_ga f32 rfl], by rw [(g3.1 y hy).1.2, sg_F_ga f32 rfl]⟩, fun s hs => by rw [g3.2.1 s hs, sg_F_ga f32 rfl], fun i hi => by rw [(g3.2.2.2 i hi).1, (g3.2.2.2 i hi).2, sg_F_ga f32 rfl, sg_F_ga f32 rfl]; exact ⟨rfl, rfl⟩⟩
    have sl := scN_len _ _ _ _ _ _ a3 g7
    have cl5 := cd_len 201 q L a3
    obtain ⟨H', hH1, hH2⟩ := updq H 12 b'
    refine k2 _ σ' g2.1 ⟨H', b, Ld, fun q' z1 z2 => ?_, x4, ?_, ?_, ?_⟩ (sg_F_t f14 FF)
    · obtain ⟨r1, r2⟩ := a2 q' z1 z2
      have n12 : ¬ q' = 12 := by omega
      have o24 : sg_g σ' 24 q' = sg_g σ14 24 q' := by rw [sg_F_ga g1 rfl, sg_F_ga f32 rfl]
      refine ⟨dR_st (H' := H') r1 V dL FF o24 (by rw [g5 q' n12, sg_F_ga f32 rfl]) (fun q'' w1 w2 => roots q'' w1 (by omega)) (hH2 _ n12) (Int.le_refl _) (by omega) (fun _ h => h), fun q'' w1 w2 => ?_⟩
      rw [hH2 _ (by omega), o24]
      exact r2 q'' w1 w2
    · rw [hH1]; exact g7
    · rw [hH1]; omega
    · rw [g4]
      refine ⟨⟨x5, ?_⟩, g6⟩
      rw [List.length_append, List.length_cons, List.length_nil]
      omega
end CHK2
/-! EACH SUBTREE IS A RANGE OF NODES, and no deeper than levels were left: what is kept as the class reads. -/
theorem fT_of {A : aT} {R L : List Int} {y : Int} (h : fT A R L) (hy : y ∈ R) : ∃ Ly, fT A [y] Ly ∧ ∀ x ∈ Ly, x ∈ L := by
  obtain ⟨R1, R2, e⟩ := List.append_of_mem hy
  subst e
  obtain ⟨La, Lb, e1, f1, f2⟩ := fT_spl R1 (y :: R2) L h
  obtain ⟨Lc, Ld, e2, f3, f4⟩ := fT_spl [y] R2 Lb f2
  exact ⟨Lc, f3, fun x hx => by rw [e1, e2]; simp [hx]⟩
theorem htN_e {A A' : aT} : ∀ (fu : Nat) (q : Int) (L : List Int), fT A [q] L → (∀ x ∈ L, A'.2.1 x = A.2.1 x ∧ A'.2.2.2.2.1 x = A.2.2.2.2.1 x) → htN A' fu q = htN A fu q
  | 0, _, _, _, _ => rfl
  | fu + 1, q, L, hf, he => by
    obtain ⟨L1, L2, e1, w1, w2, w3⟩ := fT_inv hf
    have e2 := fT_nil w3
    subst e2
    rw [List.append_nil] at e1
    subst e1
    obtain ⟨a, b⟩ := he q (by simp)
    simp only [htN]
    rw [a, b]
    have : (A.2.2.2.2.1 q).map (htN A' fu) = (A.2.2.2.2.1 q).map (htN A fu) := List.map_congr_left (fun y hy => by
      obtain ⟨Ly, f1, f2⟩ := fT_of w2 hy
      exact htN_e fu y Ly f1 (fun x hx => he x (List.mem_cons_of_mem _ (f2 x hx))))
    rw [this]
def hNq (A : aT) (h : Nat) (x : Int) : Prop := ∀ fu, htN A fu x ≤ h
/-- node k with all below it is a range -/
def jN (τ : sg_S) (A : aT) (b k : Int) : Prop := (b ≤ sg_g τ 11 k ∧ sg_g τ 12 k < A.1) ∧ ∃ L, fT A [k] L ∧ ∀ x, x ∈ L ↔ (sg_g τ 11 k ≤ x ∧ x ≤ sg_g τ 12 k)
def jCq (τ : sg_S) (A : aT) (b : Int) : Prop := ∀ k, b ≤ k → k < A.1 → jN τ A b k
/-- node n is open -/
def jO (τ : sg_S) (A : aT) (b n : Int) (h : Nat) : Prop := (b ≤ n ∧ n < A.1) ∧ (∀ k, b ≤ k → k < A.1 → ¬ k = n → jN τ A b k ∧ ¬ (sg_g τ 11 k ≤ n ∧ n ≤ sg_g τ 12 k)) ∧ ∀ x ∈ A.2.2.2.2.1 n, (b ≤ x ∧ x < A.1 ∧ ¬ x = n) ∧ hNq A h x
/-- a part that is read -/
def jQ (τ : sg_S) (A : aT) (b q : Int) (h : Nat) : Prop := jCq τ A b ∧ (b ≤ q ∧ q < A.1) ∧ sg_g τ 11 q = b ∧ hNq A h q
theorem jN_x {τ τ' : sg_S} {A A' : aT} {b b' k : Int} (h : jN τ A b k) (h11 : sg_g τ' 11 k = sg_g τ 11 k) (h12 : sg_g τ' 12 k = sg_g τ 12 k) (hA : A.1 ≤ A'.1) (hb : b' ≤ b) (he : ∀ x, sg_g τ 11 k ≤ x → x ≤ sg_g τ 12 k → A'.2.1 x = A.2.1 x ∧ A'.2.2.2.2.1 x = A.2.2.2.2.1 x ∧ A'.2.2.2.2.2 x = A.2.2.2.2.2 x) : jN τ' A' b' k := by
  obtain ⟨⟨a1, a2⟩, L, l1, l2⟩ := h
  refine ⟨by rw [h11, h12]; omega, L, fT_e l1 (fun x hx => ?_), by rw [h11, h12]; exact l2⟩
  exact he x ((l2 x).mp hx).1 ((l2 x).mp hx).2
theorem hNq_x {τ : sg_S} {A A' : aT} {b k : Int} {h : Nat} (hn : hNq A h k) (hj : jN τ A b k) (he : ∀ x, sg_g τ 11 k ≤ x → x ≤ sg_g τ 12 k → A'.2.1 x = A.2.1 x ∧ A'.2.2.2.2.1 x = A.2.2.2.2.1 x ∧ A'.2.2.2.2.2 x = A.2.2.2.2.2 x) : hNq A' h k := fun fu => by
  obtain ⟨-, L, l1, l2⟩ := hj
  rw [htN_e fu k L l1 (fun x hx => ⟨(he x ((l2 x).mp hx).1 ((l2 x).mp hx).2).1, (he x ((l2 x).mp hx).1 ((l2 x).mp hx).2).2.1⟩)]
  exact hn fu
/-- rows 11, 12 stay, and all nodes but n; n's parts are of the old ones, or x -/
theorem jO_x {τ τ' : sg_S} {A A' : aT} {b n : Int} {h : Nat} (hj : jO τ A b n h) (hr : ∀ k, sg_g τ' 11 k = sg_g τ 11 k ∧ sg_g τ' 12 k = sg_g τ 12 k) (hA : A'.1 = A.1) (he : ∀ x, ¬ x = n → A'.2.1 x = A.2.1 x ∧ A'.2.2.2.2.1 x = A.2.2.2.2.1 x ∧ A'.2.2.2.2.2 x = A.2.2.2.2.2 x) (hk : ∀ x ∈ A'.2.2.2.2.1 n, x ∈ A.2.2.2.2.1 n ∨ ((b ≤ x ∧ x < A.1 ∧ ¬ x = n) ∧ hNq A h x)) : jO τ' A' b n h := by
  obtain ⟨h1, h2, h3⟩ := hj
  have eq : ∀ k, b ≤ k → k < A.1 → ¬ k = n → ∀ x, sg_g τ 11 k ≤ x → x ≤ sg_g τ 12 k → A'.2.1 x = A.2.1 x ∧ A'.2.2.2.2.1 x = A.2.2.2.2.1 x ∧ A'.2.2.2.2.2 x = A.2.2.2.2.2 x := fun k a c d x p q => he x (fun z => (h2 k a c d).2 (by rw [← z]; exact ⟨p, q⟩))
  refine ⟨by rw [hA]; exact h1, fun k a c d => ?_, fun x hx => ?_⟩
  · rw [hA] at c
    refine ⟨jN_x (h2 k a c d).1 (hr k).1 (hr k).2 (by omega) (Int.le_refl _) (eq k a c d), ?_⟩
    rw [(hr k).1, (hr k).2]; exact (h2 k a c d).2
  · rw [hA]
    have : (b ≤ x ∧ x < A.1 ∧ ¬ x = n) ∧ hNq A h x := by
      rcases hk x hx with z | z
      · exact h3 x z
      · exact z
    exact ⟨this.1, hNq_x this.2 (h2 x this.1.1 this.1.2.1 this.1.2.2).1 (eq x this.1.1 this.1.2.1 this.1.2.2)⟩
/-- a part is read within an open node -/
theorem jO_E {τ τ' : sg_S} {A A' : aT} {b n q : Int} {h : Nat} (hj : jO τ A b n h) (hf : fB τ τ' A.1) (hg : gr A A') (hq : jQ τ' A' A.1 q h) : jO τ' A' b n h ∧ (b ≤ q ∧ q < A'.1 ∧ ¬ q = n) ∧ hNq A' h q := by
  obtain ⟨h1, h2, h3⟩ := hj
  obtain ⟨q1, q2, q3, q4⟩ := hq
  have r : ∀ k, k < A.1 → sg_g τ' 11 k = sg_g τ 11 k ∧ sg_g τ' 12 k = sg_g τ 12 k := fun k hk => ⟨(hf.1 11 k (by decide) hk).1, (hf.1 12 k (by decide) hk).1⟩
  have eq : ∀ k, b ≤ k → k < A.1 → ¬ k = n → ∀ x, sg_g τ 11 k ≤ x → x ≤ sg_g τ 12 k → A'.2.1 x = A.2.1 x ∧ A'.2.2.2.2.1 x = A.2.2.2.2.1 x ∧ A'.2.2.2.2.2 x = A.2.2.2.2.2 x := fun k a c d x _ p => by
    obtain ⟨g1, g2, g3, g4, g5⟩ := hg.2 x (by have := (h2 k a c d).1.1.2; omega)
    exact ⟨g1, g4, g5⟩
  have gl := hg.1
  refine ⟨⟨⟨h1.1, by omega⟩, fun k a c d => ?_, fun x hx => ?_⟩, ⟨by omega, by omega, by omega⟩, q4⟩
  · by_cases ck : k < A.1
    · refine ⟨jN_x (h2 k a ck d).1 (r k ck).1 (r k ck).2 gl (Int.le_refl _) (eq k a ck d), ?_⟩
      rw [(r k ck).1, (r k ck).2]; exact (h2 k a ck d).2
    · have z := q1 k (by omega) c
      refine ⟨jN_x z rfl rfl (Int.le_refl _) (by omega) (fun x _ _ => ⟨rfl, rfl, rfl⟩), ?_⟩
      have := z.1.1
      omega
  · obtain ⟨g1, g2, g3, g4, g5⟩ := hg.2 n h1.2
    rw [g4] at hx
    have w := h3 x hx
    exact ⟨⟨w.1.1, by omega, w.1.2.2⟩, hNq_x w.2 (h2 x w.1.1 w.1.2.1 w.1.2.2).1 (eq x w.1.1 w.1.2.1 w.1.2.2)⟩
theorem p_at11 (τ : sg_S) (k p j : Int) : sg_g (pAttach τ k p) 11 j = sg_g τ 11 j ∧ sg_g (pAttach τ k p) 12 j = sg_g τ 12 j ∧ sg_g (pAttach τ k p) 2 16 = sg_g τ 2 16 := by
  have c : ∀ (σ : sg_S) (a : Nat) (n i x : Int) (bb : Nat) (jj : Int), bb ≠ a → sg_g (sx_put σ a n i x) bb jj = sg_g σ bb jj := fun σ a n i x bb jj h => by
    unfold sx_put
    split
    · exact sg_gw_c _ _ _ _ _ _ h
    · rfl
  have a1 : ∀ bb jj, bb ≠ 7 → bb ≠ 9 → sg_g (pAtt1 τ k p) bb jj = sg_g τ bb jj := fun bb jj h7 h9 => by
    unfold pAtt1
    split
    · exact c _ _ _ _ _ _ _ h7
    · exact c _ _ _ _ _ _ _ h9
  unfold pAttach
  split
  · exact ⟨rfl, rfl, rfl⟩
  · unfold pAtt2
    refine ⟨?_, ?_, ?_⟩
    · rw [c _ _ _ _ _ _ _ (by decide), c _ _ _ _ _ _ _ (by decide), a1 _ _ (by decide) (by decide)]
    · rw [c _ _ _ _ _ _ _ (by decide), c _ _ _ _ _ _ _ (by decide), a1 _ _ (by decide) (by decide)]
    · rw [c _ _ _ _ _ _ _ (by decide), c _ _ _ _ _ _ _ (by decide), a1 _ _ (by decide) (by decide)]
theorem sxp_c (σ : sg_S) (a : Nat) (n i x : Int) (b : Nat) (j : Int) (h : b ≠ a) : sg_g (sx_put σ a n i x) b j = sg_g σ b j := by
  unfold sx_put
  split
  · exact sg_gw_c _ _ _ _ _ _ h
  · rfl
theorem sxl_c (σ : sg_S) (a : Nat) (n i x : Int) (b : Nat) (j : Int) : sg_g (sx_putl σ a n i x) b j = sg_g σ b j := by
  unfold sx_putl
  split
  · rfl
  · rfl
/-- a part hangs on the open node -/
theorem jO_k {τ : sg_S} {A : aT} {b n q : Int} {h : Nat} (hj : jO τ A b n h) (hq : (b ≤ q ∧ q < A.1 ∧ ¬ q = n) ∧ hNq A h q) : jO τ (aKid A n q) b n h := by
  refine jO_x hj (fun _ => ⟨rfl, rfl⟩) rfl (fun x hx => by simp only [aKid, aU_n _ _ hx, and_self]) (fun x hx => ?_)
  simp only [aKid, aU_e] at hx
  rcases List.mem_append.mp hx with z | z
  · exact Or.inl z
  · simp at z; subst z; exact Or.inr hq
theorem jO_r {τ τ' : sg_S} {A : aT} {b n : Int} {h : Nat} (hj : jO τ A b n h) (hr : ∀ k, sg_g τ' 11 k = sg_g τ 11 k ∧ sg_g τ' 12 k = sg_g τ 12 k) : jO τ' A b n h := jO_x hj hr rfl (fun _ _ => ⟨rfl, rfl, rfl⟩) (fun _ hx => Or.inl hx)
/-- a new node -/
theorem jO_new {c : tkC} {i i1 : Nat} {τ τ1 : sg_S} {A : aT} {b k kd p w : Int} {h : Nat} (hj : jCq τ A b) (hb : b ≤ A.1) (h2 : sg_g τ 2 16 = A.1) (h0 : 0 ≤ A.1) (hc : pCreate c i τ = some (i1, τ1, k)) : k = A.1 ∧ i1 = i + 1 ∧ sg_g τ1 2 16 = A.1 + 1 ∧ A.1 < 200 ∧ (sg_g τ1 11 A.1 = A.1 ∧ sg_g τ1 12 A.1 = A.1) ∧ (∀ j, ¬ j = A.1 → sg_g τ1 11 j = sg_g τ 11 j ∧ sg_g τ1 12 j = sg_g τ 12 j) ∧ jO τ1 (aNew A kd p w) b A.1 h := by
  unfold pCreate at hc
  split at hc
  · cases hc
  rename_i hlt
  cases hc
  rw [h2] at hlt ⊢
  have n200 : 0 ≤ A.1 ∧ A.1 < 200 := by omega
  have g : ∀ (bb : Nat) (jj : Int), bb ≠ 5 → sg_g (sx_putl (sx_put (pAdd τ (tK c i) (tPl c i)) 5 200 A.1 (tN c i)) 17 200 A.1 (tW c i)) bb jj = sg_g (pAdd τ (tK c i) (tPl c i)) bb jj := fun bb jj h5 => (sxl_c _ _ _ _ _ _ _).trans (sxp_c _ _ _ _ _ _ _ h5)
  have g12 : ∀ jj, sg_g (pAdd τ (tK c i) (tPl c i)) 12 jj = if jj = A.1 then A.1 else sg_g τ 12 jj := fun jj => by
    unfold pAdd
    rw [h2]
    rw [xp_in (a := 12) n200, sg_gw]
    by_cases cj : jj = A.1
    · rw [if_pos ⟨rfl, cj⟩, if_pos cj]; exact sg_id ⟨by omega, by omega⟩
    · rw [if_neg (fun z => cj z.2), if_neg cj]
      simp only [sxp_c _ _ _ _ _ _ _ (show (12 : Nat) ≠ 11 by decide), sxp_c _ _ _ _ _ _ _ (show (12 : Nat) ≠ 14 by decide), sxp_c _ _ _ _ _ _ _ (show (12 : Nat) ≠ 13 by decide), sxp_c _ _ _ _ _ _ _ (show (12 : Nat) ≠ 10 by decide), sxp_c _ _ _ _ _ _ _ (show (12 : Nat) ≠ 9 by decide), sxp_c _ _ _ _ _ _ _ (show (12 : Nat) ≠ 8 by decide), sxp_c _ _ _ _ _ _ _ (show (12 : Nat) ≠ 7 by decide), sxp_c _ _ _ _ _ _ _ (show (12 : Nat) ≠ 4 by decide), sxp_c _ _ _ _ _ _ _ (show (12 : Nat) ≠ 3 by decide)]
      exact sg_gw_c _ _ _ _ _ _ (by decide)
  have g11 : ∀ jj, sg_g (pAdd τ (tK c i) (tPl c i)) 11 jj = if jj = A.1 then A.1 else sg_g τ 11 jj := fun jj => by
    unfold pAdd
    rw [h2]
    rw [sxp_c _ 12 _ _ _ _ _ (by decide), xp_in (a := 11) n200, sg_gw]
    by_cases cj : jj = A.1
    · rw [if_pos ⟨rfl, cj⟩, if_pos cj]; exact sg_id ⟨by omega, by omega⟩
    · rw [if_neg (fun z => cj z.2), if_neg cj]
      simp only [sxp_c _ _ _ _ _ _ _ (show (11 : Nat) ≠ 14 by decide), sxp_c _ _ _ _ _ _ _ (show (11 : Nat) ≠ 13 by decide), sxp_c _ _ _ _ _ _ _ (show (11 : Nat) ≠ 10 by decide), sxp_c _ _ _ _ _ _ _ (show (11 : Nat) ≠ 9 by decide), sxp_c _ _ _ _ _ _ _ (show (11 : Nat) ≠ 8 by decide), sxp_c _ _ _ _ _ _ _ (show (11 : Nat) ≠ 7 by decide), sxp_c _ _ _ _ _ _ _ (show (11 : Nat) ≠ 4 by decide), sxp_c _ _ _ _ _ _ _ (show (11 : Nat) ≠ 3 by decide)]
      exact sg_gw_c _ _ _ _ _ _ (by decide)
  have g2 : sg_g (pAdd τ (tK c i) (tPl c i)) 2 16 = A.1 + 1 := by
    unfold pAdd
    rw [h2]
    simp only [sxp_c _ _ _ _ _ _ _ (show (2 : Nat) ≠ 12 by decide), sxp_c _ _ _ _ _ _ _ (show (2 : Nat) ≠ 11 by decide), sxp_c _ _ _ _ _ _ _ (show (2 : Nat) ≠ 14 by decide), sxp_c _ _ _ _ _ _ _ (show (2 : Nat) ≠ 13 by decide), sxp_c _ _ _ _ _ _ _ (show (2 : Nat) ≠ 10 by decide), sxp_c _ _ _ _ _ _ _ (show (2 : Nat) ≠ 9 by decide), sxp_c _ _ _ _ _ _ _ (show (2 : Nat) ≠ 8 by decide), sxp_c _ _ _ _ _ _ _ (show (2 : Nat) ≠ 7 by decide), sxp_c _ _ _ _ _ _ _ (show (2 : Nat) ≠ 4 by decide), sxp_c _ _ _ _ _ _ _ (show (2 : Nat) ≠ 3 by decide)]
    exact sg_gw_e _ _ _ _ ⟨by omega, by omega⟩
  have o : ∀ j, ¬ j = A.1 → sg_g (sx_putl (sx_put (pAdd τ (tK c i) (tPl c i)) 5 200 A.1 (tN c i)) 17 200 A.1 (tW c i)) 11 j = sg_g τ 11 j ∧ sg_g (sx_putl (sx_put (pAdd τ (tK c i) (tPl c i)) 5 200 A.1 (tN c i)) 17 200 A.1 (tW c i)) 12 j = sg_g τ 12 j := fun j hj => by
    rw [g 11 _ (by decide), g 12 _ (by decide), g11, g12, if_neg hj, if_neg hj]; exact ⟨rfl, rfl⟩
  refine ⟨rfl, rfl, by rw [g 2 _ (by decide)]; exact g2, by omega, ⟨by rw [g 11 _ (by decide), g11, if_pos rfl], by rw [g 12 _ (by decide), g12, if_pos rfl]⟩, o, ⟨hb, by simp only [aNew_1]; omega⟩, fun j a d e => ?_, fun x hx => ?_⟩
  · simp only [aNew_1] at d
    have z := hj j a (by omega)
    have zz := z.1
    refine ⟨jN_x z (o j e).1 (o j e).2 (by simp only [aNew_1]; omega) (Int.le_refl _) (fun x _ q => ?_), ?_⟩
    · have xn : ¬ x = A.1 := by omega
      simp only [aNew, aU_n _ _ xn, and_self]
    · rw [(o j e).1, (o j e).2]; omega
  · simp only [aNew, aU_e] at hx
    simp at hx
/-- the open node is closed -/
theorem jQ_c {τ : sg_S} {A : aT} {b n : Int} {h h' : Nat} (hj : jO τ A b n h) (hT : cTc A b n) (h2 : sg_g τ 2 16 = A.1) (h0 : 0 ≤ b ∧ A.1 ≤ 200) (hh : h + (if A.2.1 n = 3 ∨ A.2.1 n = 15 then 1 else 0) ≤ h') : jQ (pClose τ n b) A b n h' := by
  obtain ⟨h1, h3, h4⟩ := hj
  have n200 : 0 ≤ n ∧ n < 200 := by omega
  have e : pClose τ n b = sg_w (sg_w τ 11 n b) 12 n (A.1 - 1) := by
    unfold pClose
    rw [xp_in n200, xp_in n200, h2]
  have o : ∀ k, ¬ k = n → sg_g (pClose τ n b) 11 k = sg_g τ 11 k ∧ sg_g (pClose τ n b) 12 k = sg_g τ 12 k := fun k hk => by
    rw [e]
    exact ⟨by rw [sg_gw_c _ _ _ _ _ _ (by decide), sg_gw_k _ _ _ _ _ _ hk], by rw [sg_gw_k _ _ _ _ _ _ hk, sg_gw_c _ _ _ _ _ _ (by decide)]⟩
  have s11 : sg_g (pClose τ n b) 11 n = b := by rw [e, sg_gw_c _ _ _ _ _ _ (by decide), sg_gw_e _ _ _ _ ⟨by omega, by omega⟩]
  have s12 : sg_g (pClose τ n b) 12 n = A.1 - 1 := by rw [e, sg_gw_e _ _ _ _ ⟨by omega, by omega⟩]
  refine ⟨fun k a c => ?_, h1, s11, fun fu => ?_⟩
  · by_cases ck : k = n
    · subst ck
      obtain ⟨L, l1, l2, l3, l4⟩ := hT
      refine ⟨by rw [s11, s12]; omega, L, l1, fun x => ?_⟩
      rw [s11, s12]
      constructor
      · intro hx; have := l3 x hx; omega
      · intro hx; exact l4 x hx.1 (by omega)
    · exact jN_x (h3 k a c ck).1 (o k ck).1 (o k ck).2 (Int.le_refl _) (Int.le_refl _) (fun _ _ _ => ⟨rfl, rfl, rfl⟩)
  · cases fu with
    | zero => simp [htN]
    | succ fu =>
      simp only [htN]
      have : ((A.2.2.2.2.1 n).map (htN A fu)).foldr max 0 ≤ h := by
        have gen : ∀ l : List Int, (∀ x ∈ l, htN A fu x ≤ h) → (l.map (htN A fu)).foldr max 0 ≤ h := fun l => by
          induction l with
          | nil => intro _; simp
          | cons y r ih =>
            intro hl
            simp only [List.map_cons, List.foldr_cons]
            exact Nat.max_le.mpr ⟨hl y (by simp), ih (fun x hx => hl x (by simp [hx]))⟩
        exact gen _ (fun x hx => (h4 x hx).2 fu)
      omega
