/-! THE WALK of the checker: nodes. -/
section WK3
variable {σ : sg_S} {A : aT} {X : sg_S → Prop}
/-- all parts are done -/
theorem w_pop {σ15 : sg_S} {m : Nat} {n e1 e0 b p cl : Int} {es1 es0 Lw : List Int} (hX : ∀ σ', ¬ sg_g σ' 38 13 = 0 → X σ') (h : ckW σ A) (f : sg_F kwL σ σ15) (hn : 0 ≤ n ∧ n < A.1) (hw : nW A n) (h44 : sg_g σ15 44 n = (kOrd A n).length) (ht : ∀ x ∈ A.2.2.2.2.1 n, kIn (sg_g σ15 6 x) ∧ ¬ x = n) (hS : kS σ15 es1 e1 b p) (h41 : sg_g σ15 41 n = e0) (hb : 0 ≤ e0 ∧ e0 ≤ e1 ∧ e1 ≤ 272) (hes : ∀ i, 0 ≤ i → i < e0 → sg_g σ15 40 i ∈ es0) (hE : ∀ s ∈ es0, (0 ≤ s ∧ s < 272) ∧ kIn (sg_g σ15 34 s)) (hcl : sg_g σ 38 11 = cl) (hD : cDq σ15 A cl Lw) (hnL : n ∈ Lw) (hp : p + (cnc A n).length ≤ 1013) (k : ∀ σ', sg_F kwL σ σ' → kS σ' es0 e0 b (p + (cnc A n).length) → sg_F lvL σ15 σ' → kU σ15 σ' e1 b p [n] → pC σ' p (cnc A n) → kIn (sg_g σ' 6 n) → (A.2.1 n = 1 → sg_g σ' 16 n ∈ es0 ∧ sg_g σ' 34 (sg_g σ' 16 n) = sg_g σ' 6 n) → (A.2.1 n = 13 → clF σ' A cl n) → (¬ A.2.1 n = 1 → ¬ A.2.1 n = 13 → sg_g σ' 16 n = sg_g σ15 16 n) → kWk σ X m (sg_g σ15 42 n) σ') : kWk σ X (m + 1) n σ15 := by
  have hA := h.1
  obtain ⟨p0, p1, p2, p3, p4, p5, p6⟩ := ckW_p h hn
  have h15 := ckW_F h f rfl
  have n200 : 0 ≤ n ∧ n < 200 := by omega
  refine ⟨fun z => by omega, fun z => absurd hS.1 z, fun _ _ => ?_⟩
  unfold kStp
  rw [xa_in (a := 44) n200, xa_in (a := 10) n200, h44, p2]
  refine ⟨fun z => by omega, fun _ => ?_⟩
  rw [xa_in (a := 42) n200]
  refine d_leave h15 hn hw ht hS h41 hb hes hE (by rw [sg_F_g f (by rfl)]; exact hcl) hD hnL hp (fun σ' z _ => kWk_f (hX σ' z) z) (fun σ' y1 y2 y3 y4 y5 y6 y7 y8 _ => k σ' (sg_F_t f (sg_F_m y2 rfl)) y1 y2 y3 y4 y5 y6 y7 y8)
theorem cD_u {σ1 σ2 : sg_S} {cl e b p : Int} {Lw L : List Int} (h : cDq σ1 A cl Lw) (f1 : sg_F kwL σ σ1) (f2 : sg_F kwL σ σ2) (u : kU σ1 σ2 e b p L) (hL : ∀ x ∈ L, x ∈ Lw) : cDq σ2 A cl Lw := fun q a c => by
  obtain ⟨y0, ps, r, ⟨y1, y2, y3, y4⟩, y5, y6, y7⟩ := h q a c
  refine ⟨y0, ps, r, ⟨by rw [sg_F_ga f2 rfl, ← sg_F_ga f1 (a := 23) rfl]; exact y1, fun j y hy => by rw [sg_F_ga f2 rfl, ← sg_F_ga f1 (a := 27) rfl]; exact y2 j y hy, by rw [sg_F_ga f2 rfl, ← sg_F_ga f1 (a := 22) rfl]; exact y3, y4⟩, y5, ?_, y7⟩
  rw [(u.1 r (fun z => y7 (hL r z))).1.1]; exact y6
theorem stb_u {σ1 σ2 : sg_S} {cl e b p : Int} {Lw L Lx : List Int} (h : cDq σ1 A cl Lw) (f1 : sg_F kwL σ σ1) (f2 : sg_F kwL σ σ2) (u : kU σ1 σ2 e b p L) (hL : ∀ x ∈ L, x ∈ Lw) (hd : ∀ x ∈ Lx, x ∉ L) : stb σ1 σ2 cl b Lx := by
  refine ⟨fun x hx => ⟨(u.1 x (hd x hx)).1.2, (u.1 x (hd x hx)).1.1⟩, u.2.1, fun i => ⟨by rw [sg_F_ga f2 rfl, ← sg_F_ga f1 (a := 22) rfl], by rw [sg_F_ga f2 rfl, ← sg_F_ga f1 (a := 23) rfl], by rw [sg_F_ga f2 rfl, ← sg_F_ga f1 (a := 27) rfl]⟩, fun q a c => ?_⟩
  obtain ⟨y0, ps, r, ⟨y1, y2, y3, y4⟩, y5, y6, y7⟩ := h q a c
  rw [y3]
  exact (u.1 r (fun z => y7 (hL r z))).1.1
/-- slots that are known -/
def hEs (σ : sg_S) (es : List Int) (b : Int) : Prop := ∀ s ∈ es, (0 ≤ s ∧ s < b) ∧ kIn (sg_g σ 34 s)
/-- the big step of a node -/
def kB (σ : sg_S) (A : aT) (X : sg_S → Prop) (cl : Int) (Lw : List Int) (f : Nat) : Prop := ∀ (n : Int) (L es : List Int) (e b p : Int) (σ15 : sg_S) (m : Nat), fT A [n] L → L.Nodup → (∀ x ∈ L, x ∈ Lw) → L.length ≤ f → sg_F kwL σ σ15 → kS σ15 es e b (p + 1) → (sg_g σ15 29 p = 0 ∧ sg_g σ15 30 p = n) → sg_g σ15 16 n = b → (sg_g σ15 43 n = sg_g σ 7 n ∧ sg_g σ15 44 n = 0 ∧ sg_g σ15 41 n = e) → hEs σ15 es b → cDq σ15 A cl Lw → e + L.length ≤ 272 → b + L.length ≤ 272 → p + 5 * L.length ≤ 1013 → (∀ σ' b', sg_F kwL σ σ' → kS σ' es e b' (p + (cd A f n).length) → kU σ15 σ' e b (p + 1) L → pC σ' p (cd A f n) → scN σ' A cl f es n b b' → kIn (sg_g σ' 6 n) → kWk σ X m (sg_g σ15 42 n) σ') → kWk σ X (m + (2 * L.length - 1)) n σ15
theorem kStg {cl : Int} {Lw : List Int} {f : Nat} {n : Int} (hX : ∀ σ', ¬ sg_g σ' 38 13 = 0 → X σ') (h : ckW σ A) (hn : 0 ≤ n ∧ n < A.1) (hw : nW A n) (hnw : n ∈ Lw) (F : kB σ A X cl Lw f) : ∀ (R L : List Int) (s : Nat) (es : List Int) (e b p : Int) (σ15 : sg_S) (m : Nat), (kOrd A n).drop s = R → s ≤ (kOrd A n).length → fT A R L → L.Nodup → (∀ x ∈ L, x ∈ Lw) → n ∉ L → (∀ y ∈ (kOrd A n).take s, y ∉ n :: L) → L.length ≤ f → sg_F kwL σ σ15 → kS σ15 es e b p → sg_g σ15 44 n = s → (∀ y, R.head? = some y → sg_g σ15 43 n = y) → (∀ y ∈ (kOrd A n).take s, kIn (sg_g σ15 6 y)) → hEs σ15 es b → cDq σ15 A cl Lw → e + od A n s + L.length ≤ 272 → b + od A n s + L.length ≤ 272 → p + oRq A n s R + 5 * L.length ≤ 1013 → (∀ σ' es' e' b', sg_F kwL σ σ' → kS σ' es' e' b' (p + (cdS A (cd A f) n s R).length) → e ≤ e' ∧ e' ≤ 272 → b ≤ b' → kU σ15 σ' e b p (n :: L) → (sg_g σ' 41 n = sg_g σ15 41 n ∧ sg_g σ' 42 n = sg_g σ15 42 n) → sg_g σ' 44 n = (kOrd A n).length → pC σ' p (cdS A (cd A f) n s R) → scS σ' A (scN σ' A cl f) n s es b R b' → (∀ y ∈ kOrd A n, kIn (sg_g σ' 6 y)) → ((∀ j, s ≤ j → kNo A n j) → sg_g σ' 16 n = sg_g σ15 16 n) → kWk σ X m n σ') → kWk σ X (m + 2 * L.length) n σ15
  | [], L, s, es, e, b, p, σ15, m, hd, hs, hf, hN, hLw, hnL, hpr, hlf, f15, hS, h44, h43, ht, hE, hD, he, hb, hp, k => by
    have e0 := fT_nil hf
    subst e0
    have sl : s = (kOrd A n).length := by
      have : ((kOrd A n).drop s).length = 0 := by rw [hd]; rfl
      rw [List.length_drop] at this
      omega
    simp only [List.length_nil, Nat.mul_zero, Nat.add_zero]
    refine k σ15 es e b f15 ?_ ⟨Int.le_refl _, by simp only [List.length_nil] at he; omega⟩ (Int.le_refl _) (kU_r _ _ _ _ _) ⟨rfl, rfl⟩ (by rw [h44, sl]) (pC_0 _ _) (by simp only [scS]) (fun y hy => ht y (by rw [sl, List.take_length]; exact hy)) (fun _ => rfl)
    simp only [cdS, List.length_nil]
    rw [show p + ((0 : Nat) : Int) = p by omega]
    exact hS
  | x :: R, L, s, es, e, b, p, σ15, m, hd, hs, hf, hN, hLw, hnL, hpr, hlf, f15, hS, h44, h43, ht, hE, hD, he, hb, hp, k => by
    obtain ⟨L1, L2, e1, w1, w2, w3⟩ := fT_inv hf
    subst e1
    have hx : (kOrd A n)[s]? = some x := by rw [← List.head?_drop, hd]; rfl
    have hsl : s < (kOrd A n).length := gE_l hx
    have i1 : ∀ y, y ∈ x :: L1 → y ∈ x :: (L1 ++ L2) := fun y hy => by rw [← List.cons_append]; exact List.mem_append_left _ hy
    have i2 : ∀ y, y ∈ L2 → y ∈ x :: (L1 ++ L2) := fun y hy => by rw [← List.cons_append]; exact List.mem_append_right _ hy
    have hN1 : (x :: L1).Nodup := List.Nodup.sublist (by rw [← List.cons_append]; exact List.sublist_append_left _ _) hN
    have hN2 : L2.Nodup := List.Nodup.sublist (by rw [← List.cons_append]; exact List.sublist_append_right _ _) hN
    have dj : ∀ y ∈ x :: L1, y ∉ L2 := fun y hy z => by
      rw [← List.cons_append, List.nodup_append] at hN
      exact hN.2.2 y hy y z rfl
    have hxn : ¬ x = n := fun z => hnL (by rw [← z]; simp)
    have hnx : n ∉ x :: L1 := fun z => hnL (i1 n z)
    have hn2 : n ∉ L2 := fun z => hnL (i2 n z)
    have hl : (x :: (L1 ++ L2)).length = (x :: L1).length + L2.length := by rw [← List.cons_append, List.length_append]
    have hl1 : 1 ≤ (x :: L1).length := by simp
    rw [hl] at he hb hp hlf ⊢
    simp only [oRq] at hp
    have o1 := bA_od A n s b
    have o2 := od_s A n s b
    have o3 := bA_le A n s b
    have e0 := hS.2.2.2.1
    have b0 := hS.2.2.2.2.1
    have p0 := hS.2.2.2.2.2
    rw [show m + 2 * ((x :: L1).length + L2.length) = ((m + 2 * L2.length) + (2 * (x :: L1).length - 1)) + 1 by omega]
    refine w_push (s := s) (R := R) hX h f15 hn hw hd hS h44 (h43 x rfl) ht hxn (by omega) (by omega) (by omega) (fun σ1 f1 S1 u1 g1 g2 c1 c2 c3 c4 c5 c6 c7 => ?_)
    have hE1 : hEs σ1 (esA A n s es b) (bA A n s b) := fun y hy => by
      have old : ∀ y ∈ es, (0 ≤ y ∧ y < b) ∧ kIn (sg_g σ1 34 y) := fun y hy => by
        have := hE y hy
        exact ⟨this.1, by rw [u1.2.1 y this.1.2]; exact this.2⟩
      have kk : ∀ z ∈ (kOrd A n).take s, kIn (sg_g σ1 6 z) := fun z hz => by
        have nz := hpr z hz
        rw [(u1.1 z (fun q => nz (by
          simp only [List.mem_cons, List.not_mem_nil, or_false] at q
          rcases q with q | q
          · rw [q]; exact List.mem_cons_self
          · rw [q]; exact List.mem_cons_of_mem _ (by simp)))).1.1]
        exact ht z hz
      unfold esA at hy
      unfold bA at o3 ⊢
      split at hy
      · rename_i cc
        rw [if_pos cc]
        rcases List.mem_cons.mp hy with q | q
        · subst q
          obtain ⟨t1, t2⟩ := c3.1 cc.1 cc.2
          refine ⟨⟨by omega, by omega⟩, ?_⟩
          rw [t2]
          have ho : kOrd A n = A.2.2.2.2.1 n := by unfold kOrd; rw [if_neg (by omega)]
          have l2 := hw.2.2.1 (Or.inl cc.1)
          refine kk _ ?_
          rw [ho, cc.2, List.getD_eq_getElem?_getD, List.getElem?_eq_getElem (by omega), Option.getD_some, List.mem_take_iff_getElem]
          exact ⟨0, by omega, rfl⟩
        · have := old y q
          exact ⟨⟨by omega, by omega⟩, this.2⟩
      · rename_i cc
        rw [if_neg cc]
        split at hy
        · rename_i c15
          rw [if_pos c15]
          rcases List.mem_append.mp hy with q | q
          · have q' := gsl_m.mp q
            obtain ⟨t1, t2⟩ := c3.2 c15.1 c15.2
            have w7 := hw.2.2.2.2.2.2.1 c15.1
            have gl : (kGs A n).length = (A.2.2.2.2.2 n).length := by unfold kGs; rw [List.length_take, List.length_drop]; omega
            have hz : (kGs A n)[(y - b).toNat]? = some ((kGs A n)[(y - b).toNat]'(by omega)) := List.getElem?_eq_getElem _
            have t3 := t2 _ _ hz
            rw [show b + (((y - b).toNat : Nat) : Int) = y by omega] at t3
            have mz := List.mem_of_getElem? hz
            have pos := c7 c15.1 c15.2 _ mz
            have kz := kk _ (by
              have : kGs A n = (kOrd A n).take s := by
                unfold kGs kOrd
                rw [if_pos c15.1, List.take_append_of_le_length (by rw [List.length_drop]; omega), c15.2]
              rw [← this]; exact mz)
            refine ⟨⟨by omega, by omega⟩, ?_⟩
            rw [t3]
            unfold kIn at kz ⊢
            omega
          · have := old y q
            exact ⟨⟨by omega, by omega⟩, this.2⟩
        · rename_i c15
          rw [if_neg c15]
          exact old y hy
    have nxs : ∀ y ∈ [n, x], y ∈ n :: (x :: (L1 ++ L2)) := fun y hy => by
      simp only [List.mem_cons, List.not_mem_nil, or_false] at hy
      rcases hy with q | q <;> simp [q]
    have nxw : ∀ y ∈ [n, x], y ∈ Lw := fun y hy => by
      simp only [List.mem_cons, List.not_mem_nil, or_false] at hy
      rcases hy with q | q
      · rw [q]; exact hnw
      · rw [q]; exact hLw x (by simp)
    have D1 := cD_u hD f15 f1 u1 nxw
    refine F x (x :: L1) (esA A n s es b) (e + (bA A n s b - b)) (bA A n s b) (p + (ahd A n s).length) σ1 (m + 2 * L2.length) (fT_one w1 w2) hN1 (fun y hy => hLw y (i1 y hy)) (by omega) f1 S1 c2 c5 c6 hE1 D1 (by omega) (by omega) (by omega) (fun σ2 b2 f2 S2 u2 d1 d2 d3 => ?_)
    rw [g1.2.2]
    have sl := scN_len _ _ _ _ _ _ (fT_one w1 w2) d2
    have sle := scN_le _ _ _ _ _ d2
    have clen := cd_len f x _ (fT_one w1 w2)
    have D2 := cD_u D1 f1 f2 u2 (fun y hy => hLw y (i1 y hy))
    have un := u2.1 n hnx
    have hE2 : hEs σ2 (esA A n s es b) b2 := fun y hy => by
      have := hE1 y hy
      exact ⟨⟨by omega, by omega⟩, by rw [u2.2.1 y this.1.2]; exact this.2⟩
    have tk : (kOrd A n).take (s + 1) = (kOrd A n).take s ++ [x] := by rw [List.take_add_one, hx]; rfl
    have pr2 : ∀ y ∈ (kOrd A n).take (s + 1), y ∉ n :: L2 := fun y hy z => by
      rw [tk] at hy
      rcases List.mem_append.mp hy with q | q
      · rcases List.mem_cons.mp z with w | w
        · exact hpr y q (by rw [w]; exact List.mem_cons_self)
        · exact hpr y q (List.mem_cons_of_mem _ (i2 y w))
      · simp at q
        subst q
        rcases List.mem_cons.mp z with w | w
        · exact hxn w
        · exact dj y (by simp) w
    have prx : ∀ y ∈ (kOrd A n).take s, y ∉ x :: L1 ∧ y ∉ [n, x] := fun y hy => ⟨fun z => hpr y hy (List.mem_cons_of_mem _ (i1 y z)), fun z => hpr y hy (nxs y z)⟩
    have ht2 : ∀ y ∈ (kOrd A n).take (s + 1), kIn (sg_g σ2 6 y) := fun y hy => by
      rw [tk] at hy
      rcases List.mem_append.mp hy with q | q
      · rw [(u2.1 y (prx y q).1).1.1, (u1.1 y (prx y q).2).1.1]; exact ht y q
      · simp at q; subst q; exact d3
    have S2' : kS σ2 (esA A n s es b) (e + (bA A n s b - b)) b2 (p + (ahd A n s).length + (cd A f x).length) := S2
    refine kStg hX h hn hw hnw F R L2 (s + 1) (esA A n s es b) (e + (bA A n s b - b)) b2 (p + (ahd A n s).length + (cd A f x).length) σ2 m (by rw [← List.drop_drop, hd]; rfl) (by omega) w3 hN2 (fun y hy => hLw y (i2 y hy)) hn2 pr2 (by omega) f2 S2' (by rw [un.2.2.2.2]; exact g2.1) (fun y hy => by rw [un.2.2.2.1]; exact g2.2 y hy) ht2 hE2 D2 (by omega) (by omega) (by omega) (fun σ3 es3 e3 b3 f3 S3 q1 q2 u3 q3 q4 q5 q6 q7 q8 => ?_)
    have U12 : kU σ15 σ2 e b p (n :: (x :: (L1 ++ L2))) := kU_t u1 u2 ⟨Int.le_refl _, by omega⟩ ⟨Int.le_refl _, by omega⟩ ⟨Int.le_refl _, by omega⟩ nxs (fun y hy => List.mem_cons_of_mem _ (i1 y hy))
    have U13 : kU σ15 σ3 e b p (n :: (x :: (L1 ++ L2))) := kU_t U12 u3 ⟨Int.le_refl _, by omega⟩ ⟨Int.le_refl _, by omega⟩ ⟨Int.le_refl _, by omega⟩ (fun y hy => hy) (fun y hy => by
      rcases List.mem_cons.mp hy with w | w
      · rw [w]; exact List.mem_cons_self
      · exact List.mem_cons_of_mem _ (i2 y w))
    have n2w : ∀ y ∈ n :: L2, y ∈ Lw := fun y hy => by
      rcases List.mem_cons.mp hy with w | w
      · rw [w]; exact hnw
      · exact hLw y (i2 y w)
    have st23 : stb σ2 σ3 cl b2 (x :: L1) := stb_u D2 f2 f3 u3 n2w (fun y hy z => by
      rcases List.mem_cons.mp z with w | w
      · exact hnx (by rw [← w]; exact hy)
      · exact dj y hy w)
    have sc3 := scN_st (LL := x :: L1) f _ x _ b2 (x :: L1) (fT_one w1 w2) (fun _ h => h) (fun y hy => (hE1 y hy).1.2) st23 d2
    refine k σ3 es3 e3 b3 f3 ?_ ⟨by omega, q1.2⟩ (by omega) U13 ⟨by rw [q3.1, un.2.1]; exact g1.1, by rw [q3.2, un.2.2.1]; exact g1.2.1⟩ q4 ?_ ?_ q7 (fun z => ?_)
    · simp only [cdS, List.length_append]
      rw [show p + (((ahd A n s).length + ((cd A f x).length + (cdS A (cd A f) n (s + 1) R).length) : Nat) : Int) = p + (ahd A n s).length + (cd A f x).length + (cdS A (cd A f) n (s + 1) R).length by omega]
      exact S3
    · simp only [cdS]
      refine pC_a ?_ (pC_a ?_ ?_)
      · exact pC_e (pC_e c1 (show p + ((ahd A n s).length : Int) ≤ p + (ahd A n s).length + 1 by omega) u2.2.2.2) (show p + ((ahd A n s).length : Int) ≤ p + (ahd A n s).length + (cd A f x).length by omega) u3.2.2.2
      · exact pC_e d1 (Int.le_refl _) u3.2.2.2
      · exact q5
    · simp only [scS]
      refine ⟨?_, b2, sc3, q6⟩
      by_cases cn : kNo A n s
      · exact ⟨fun a c => absurd ⟨a, c⟩ cn.1, fun a c => absurd ⟨a, c⟩ cn.2⟩
      · have later : ∀ j, s + 1 ≤ j → kNo A n j := fun j hj => by
          refine ⟨fun z => cn ⟨fun _ => ?_, fun y => ?_⟩, fun z => cn ⟨fun y => ?_, fun y => ?_⟩⟩ <;> omega
        have n16 : sg_g σ3 16 n = sg_g σ1 16 n := by rw [q8 later, un.1.2]
        have t6 : ∀ y ∈ (kOrd A n).take s, sg_g σ3 6 y = sg_g σ1 6 y := fun y hy => by
          rw [(u3.1 y (pr2 y (by rw [tk]; exact List.mem_append_left _ hy))).1.1, (u2.1 y (prx y hy).1).1.1]
        refine ⟨fun a c => ?_, fun a c => ?_⟩
        · obtain ⟨t1, t2⟩ := c3.1 a c
          have be : bA A n s b = b + 1 := by unfold bA; rw [if_pos ⟨a, c⟩]
          have ho : kOrd A n = A.2.2.2.2.1 n := by unfold kOrd; rw [if_neg (by omega)]
          have l2 := hw.2.2.1 (Or.inl a)
          rw [n16, u3.2.1 b (by omega), u2.2.1 b (by omega), t6 _ (by
            rw [ho, c, List.getD_eq_getElem?_getD, List.getElem?_eq_getElem (by omega), Option.getD_some, List.mem_take_iff_getElem]
            exact ⟨0, by omega, rfl⟩)]
          exact ⟨t1, t2⟩
        · obtain ⟨t1, t2⟩ := c3.2 a c
          have be : bA A n s b = b + (A.2.2.2.2.2 n).length := by unfold bA; rw [if_neg (by omega), if_pos ⟨a, c⟩]
          refine ⟨by rw [n16]; exact t1, fun i y hy => ?_⟩
          have w7 := hw.2.2.2.2.2.2.1 a
          have hi : i < (A.2.2.2.2.2 n).length := by
            have := gE_l hy
            unfold kGs at this
            rw [List.length_take] at this
            omega
          have e : kGs A n = (kOrd A n).take s := by
            unfold kGs kOrd
            rw [if_pos a, List.take_append_of_le_length (by rw [List.length_drop]; omega), c]
          rw [u3.2.1 _ (by omega), u2.2.1 _ (by omega), t6 y (by rw [← e]; exact List.mem_of_getElem? hy)]
          exact t2 i y hy
    · rw [q8 (fun j hj => z j (by omega)), un.1.2]
      exact c4 (z s (Nat.le_refl _))
end WK3
