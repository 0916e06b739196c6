/-! The evaluator looks at the types of the tree alone; all that a nested run of the class goes along. -/
theorem fT_kid {A : aT} {R L : List Int} {r : Int} (h : fT A R L) (hr : r ∈ R) : ∃ Lr, fT A [r] Lr ∧ ∀ y ∈ Lr, y ∈ L := by
  obtain ⟨R1, R2, e⟩ := List.append_of_mem hr
  rw [e] at h
  obtain ⟨La, Lb, e1, g1, g2⟩ := fT_spl R1 (r :: R2) L h
  obtain ⟨Lc, Le, e2, g3, g4⟩ := fT_spl [r] R2 Lb g2
  exact ⟨Lc, g3, fun y hy => by rw [e1, e2]; exact List.mem_append_right _ (List.mem_append_left _ hy)⟩
theorem eS_T {G G' : Int → eV → Int → eR} : ∀ (l : List Int), (∀ x ∈ l, G x = G' x) → eS G l = eS G' l
  | [], _ => by
    funext ρ w
    simp only [eS]
  | x :: r, h => by
    funext ρ w
    simp only [eS]
    rw [h x (by simp), eS_T r (fun y hy => h y (by simp [hy]))]
theorem evT_T {G G' : Int → eV → Int → eR} {gd : List Int} {bd : Int} (h : ∀ x ∈ gd, G x = G' x) (hb : G bd = G' bd) : evT G gd bd = evT G' gd bd := by
  funext ρ w
  unfold evT
  cases gd with
  | nil =>
    dsimp only
    rw [hb]
  | cons g r =>
    dsimp only
    rw [h g (by simp), hb]
theorem getD_in {l : List Int} {i : Nat} (h : i < l.length) : l.getD i 0 ∈ l := by
  rw [List.getD_eq_getElem?_getD, List.getElem?_eq_getElem h, Option.getD_some]
  exact List.getElem_mem h
set_option maxRecDepth 10000 in
theorem evN_T {A : aT} {T T' B : Int → Int} {call : Int → eV → Int → eR} : ∀ (f : Nat) (n : Int) (L : List Int), fT A [n] L → (∀ x ∈ L, T x = T' x) → evN A T B call f n = evN A T' B call f n
  | 0, n, L, hf, h => by
    funext ρ w
    simp only [evN]
  | f + 1, n, L, hf, h => by
    obtain ⟨L1, L2, e1, w1, w2, w3⟩ := fT_inv hf
    have hn := h n (by rw [e1]; simp)
    have kd : ∀ x ∈ A.2.2.2.2.1 n, evN A T B call f x = evN A T' B call f x := fun x hx => by
      obtain ⟨Lx, a1, a2⟩ := fT_kid w2 hx
      exact evN_T f x Lx a1 (fun y hy => h y (by rw [e1]; exact List.mem_cons_of_mem _ (List.mem_append_left _ (a2 y hy))))
    have kg : ∀ x ∈ kGs A n, evN A T B call f x = evN A T' B call f x := fun x hx => kd x (by unfold kGs at hx; exact List.mem_of_mem_drop (List.mem_of_mem_take hx))
    obtain ⟨n1, n2, n3, n4, n5, n6, n7, n8⟩ := w1
    funext ρ w
    simp only [evN]
    by_cases hw : w + 1 ≤ 3000
    · rw [if_pos hw, if_pos hw]
      by_cases c1 : A.2.1 n = 1
      · rw [if_pos c1, if_pos c1]
      rw [if_neg c1, if_neg c1]
      by_cases c2 : A.2.1 n = 2
      · have l := n3 (Or.inl c2)
        rw [if_pos c2, if_pos c2, kd _ (getD_in (i := 0) (by omega)), kd _ (getD_in (i := 1) (by omega))]
      rw [if_neg c2, if_neg c2]
      by_cases c3 : A.2.1 n = 3
      · have l := n4 c3
        rw [if_pos c3, if_pos c3, kd _ (getD_in (i := 0) (by omega))]
        cases evN A T' B call f ((A.2.2.2.2.1 n).getD 0 0) ρ (w + 1) with
        | inl e => rfl
        | inr x =>
          obtain ⟨v, w1, s1, ρ1⟩ := x
          dsimp only
          by_cases z : v [] = 0
          · rw [if_pos z, kd _ (getD_in (i := 2) (by omega))]
          · rw [if_neg z, kd _ (getD_in (i := 1) (by omega))]
      rw [if_neg c3, if_neg c3]
      by_cases c13 : A.2.1 n = 13
      · rw [if_pos c13, if_pos c13, eS_T _ kd]
      rw [if_neg c13, if_neg c13]
      by_cases c15 : A.2.1 n = 15
      · have l := n7 c15
        rw [if_pos c15, if_pos c15, eS_T _ kg, evT_T (fun x hx => kd x (List.mem_of_mem_drop hx)) (kd _ (getD_in (i := 0) (by omega))), hn]
      rw [if_neg c15, if_neg c15, eS_T _ kd, hn]
    · rw [if_neg hw, if_neg hw]
set_option maxRecDepth 10000 in
theorem eC_T {A : aT} {D : List aDf} {T T' B : Int → Int} {q : Int} {LA : List Int} (hf : fT A (aRt D ++ [q]) LA) (h : ∀ x ∈ LA, T x = T' x) : ∀ k, k ≤ D.length → eC A D T B k = eC A D T' B k
  | 0, _ => by
    funext q' ρ w
    simp only [eC]
  | k + 1, hk => by
    funext q' ρ w
    simp only [eC]
    rw [eC_T hf h k (by omega)]
    by_cases c : q' = (k : Int)
    · rw [if_pos c, if_pos c]
      have hk' : k < D.length := by omega
      obtain ⟨Lr, a1, a2⟩ := fT_kid hf (r := D[k].2.2.2) (List.mem_append_left _ (by unfold aRt; exact List.mem_map.mpr ⟨D[k], List.getElem_mem _, rfl⟩))
      rw [List.getD_eq_getElem?_getD, List.getElem?_eq_getElem hk', Option.getD_some, evN_T 201 _ Lr a1 (fun x hx => h x (a2 x hx))]
    · rw [if_neg c, if_neg c]
/-- the whole PROGRAM -/
theorem ev_T {A : aT} {D : List aDf} {T T' B : Int → Int} {q : Int} {LA : List Int} (hf : fT A (aRt D ++ [q]) LA) (h : ∀ x ∈ LA, T x = T' x) : evN A T B (eC A D T B D.length) 201 q = evN A T' B (eC A D T' B D.length) 201 q := by
  obtain ⟨Lr, a1, a2⟩ := fT_kid hf (r := q) (List.mem_append_right _ (by simp))
  rw [eC_T hf h D.length (Nat.le_refl _), evN_T 201 q Lr a1 (fun x hx => h x (a2 x hx))]
/-- every node of a typed tree is typed -/
theorem ty_in {A : aT} {ds : kD} {T B : Int → Int} : ∀ (f : Nat) (sc : List (Int × Int)) (n : Int) (L : List Int), fT A [n] L → tyN A ds T B f sc n → ∀ x ∈ L, ∃ f' sc', tyN A ds T B f' sc' x
  | 0, sc, n, L, hf, h, x, hx => h.elim
  | f + 1, sc, n, L, hf, h, x, hx => by
    have h0 := h
    obtain ⟨L1, L2, e1, w1, w2, w3⟩ := fT_inv hf
    have e2 := fT_nil w3
    subst e2
    rw [List.append_nil] at e1
    subst e1
    rcases List.mem_cons.mp hx with q | q
    · rw [q]; exact ⟨f + 1, sc, h0⟩
    · have kd : ∀ y ∈ A.2.2.2.2.1 n, ∃ sc', tyN A ds T B f sc' y := fun y hy => by
        obtain ⟨a1, a2, a3, a4, a5, a6, a7, a8, a9⟩ := h
        obtain ⟨n1, n2, n3, n4, n5, n6, n7, n8⟩ := w1
        by_cases c2 : A.2.1 n = 2
        · obtain ⟨a, b, hk⟩ := kid2 (n3 (Or.inl c2))
          rw [hk] at hy
          rcases List.mem_cons.mp hy with z | z
          · rw [z]; exact ⟨_, (a7 c2 a b hk).1⟩
          · have z' : y = b := by simpa using z
            rw [z']; exact ⟨_, (a7 c2 a b hk).2⟩
        · by_cases c15 : A.2.1 n = 15
          · have l7 := n7 c15
            obtain ⟨bd, tl, hk⟩ : ∃ bd tl, A.2.2.2.2.1 n = bd :: tl := by
              match hh : A.2.2.2.2.1 n with
              | bd :: tl => exact ⟨bd, tl, rfl⟩
              | [] => rw [hh] at l7; simp only [List.length_nil] at l7; omega
            rw [hk] at hy
            rcases List.mem_cons.mp hy with z | z
            · rw [z]; exact ⟨_, (a8 c15 bd tl hk).2 bd (by simp)⟩
            · rw [← List.take_append_drop (A.2.2.2.2.2 n).length tl] at z
              rcases List.mem_append.mp z with z | z
              · exact ⟨_, ((a8 c15 bd tl hk).1 y z).1⟩
              · exact ⟨_, (a8 c15 bd tl hk).2 y (List.mem_append_left _ z)⟩
          · exact ⟨_, a9 c2 c15 y hy⟩
      obtain ⟨r, hr, Lr, a1, a2, -⟩ := fT_rt _ _ w2 q
      obtain ⟨sc', b⟩ := kd r hr
      exact ty_in f sc' r Lr a1 b x a2
/-- what is called -/
theorem ty_cl {A : aT} {D : List aDf} {T B : Int → Int} {j f : Nat} {sc : List (Int × Int)} {x : Int} (h : tyN A (kDl (D.take j) []) T B f sc x) (hk : A.2.1 x = 13) : 0 ≤ B x ∧ B x < j ∧ ∃ y, D[(B x).toNat]? = some y ∧ (A.2.2.2.2.1 x).map T = y.2.2.1.map (·.2.2) ∧ T x = T y.2.2.2 := by
  cases f with
  | zero => exact h.elim
  | succ f =>
    obtain ⟨t1, t2, t3, t4, t5, t6, t7, t8, t9⟩ := h
    have gx := t6 hk
    have g := t5 (by omega)
    rw [kTy_c hk] at g
    obtain ⟨y, ed⟩ : ∃ y, kDef (kDl (D.take j) []) (A.2.2.2.1 x) = some y := by
      cases ed : kDef (kDl (D.take j) []) (A.2.2.2.1 x) with
      | none => rw [ed] at g; cases g
      | some y => exact ⟨y, rfl⟩
    obtain ⟨d0, z, dx, ey⟩ := kD_at gx ed
    rw [ed, ey] at g
    simp only at g
    obtain ⟨g1, g2, g3⟩ := kIs_in g
    simp only [decide_eq_true_eq] at g3
    have h1 := kDx_r gx
    have h2 := kDl_len D j
    exact ⟨d0, by omega, z, dx, g3, g1⟩
/-- numbers of the class's nodes -/
def nmR (σ : sg_S) (A : aT) : Prop := ∀ k, 0 ≤ k → k < A.1 → A.2.1 k = 0 → sg_g σ 5 k = sg_n (A.2.2.2.1 k)
theorem asm8 {σ : sg_S} {A : aT} {D : List aDf} {k : Int} {T Tf B B0 : Int → Int} (hW : ckW σ A) (hD : cD2 σ D) (hfr : frA A (aRt D ++ [k])) (hp : ∀ x ∈ D, ∀ p ∈ x.2.2.1, 0 ≤ p.2.2) (hk : kPg A D k T = some Tf) (h6 : ∀ x, 0 ≤ x → sg_g σ 6 x = Tf x) (hA : ckA σ A D.length k) (hj : jPg σ A D k) (h3 : ckA3 σ A D k) (hn : nmR σ A) (hB : ∀ x, 0 ≤ x → x < A.1 → B x = kPB A D k B0 x) : dAn σ A D B D.length ∧ dIn σ A D B D.length 12 k 0 ∧ (∀ q, 0 ≤ q → q < (D.length : Int) → nxq σ q ≤ sg_g σ 11 k) ∧ slA σ (vbF A D) := by
  have hS := sl_all hW hD hfr hA
  obtain ⟨LA, f1, f2, f3, -⟩ := id hfr
  have w200 := hW.1.2
  have ty := tyP (T2 := sg_g σ 6) (B2 := B) D [] 0 T Tf B0 LA f1 f2 f3 (fun d hd => by simp at hd) (fun c hc => by simp at hc) hp hk (fun x hx => h6 x (f3 x hx).1) (fun x hx => hB x (f3 x hx).1 (f3 x hx).2) (fun c hc => by simp at hc)
  obtain ⟨bo1, Lq, Bq, bq1, bq2, bq3, bq4⟩ := boP (B2 := B) D [] 0 B0 LA f1 f2 f3 (fun x hx => hB x (f3 x hx).1 (f3 x hx).2)
  obtain ⟨H, fs, Ld, a1, a2, a3, a4, a5⟩ := hA
  obtain ⟨j1, j2, j3, j4⟩ := hj
  have fsH := scN_le _ _ _ _ _ a3
  have d12 := hD.2.1
  have sub : ∀ r ∈ aRt D ++ [k], ∃ L, fT A [r] L ∧ L.Nodup ∧ ∀ x ∈ L, 0 ≤ x ∧ x < A.1 := fun r hr => by
    obtain ⟨R1, R2, e⟩ := List.append_of_mem hr
    rw [e] at f1
    obtain ⟨La, Lb, e1, g1, g2⟩ := fT_spl R1 (r :: R2) LA f1
    obtain ⟨Lc, Le, e2, g3, g4⟩ := fT_spl [r] R2 Lb g2
    rw [e1, e2] at f2 f3
    exact ⟨Lc, g3, (List.nodup_append.mp (List.nodup_append.mp f2).2.1).1, fun x hx => f3 x (List.mem_append_right _ (List.mem_append_left _ hx))⟩
  have rt : ∀ (j : Nat) (x : aDf), D[j]? = some x → sg_g σ 22 j = x.2.2.2 ∧ sg_g σ 23 j = x.2.2.1.length ∧ x.2.2.1.length ≤ 6 := fun j x hx => by
    obtain ⟨t1, t2, t3, t4, t5, -⟩ := hD.2.2 j x hx
    exact ⟨t3, t4, t5⟩
  have ly : ∀ (j f : Nat) (sc : List (Int × Int)) (r : Int) (L : List Int), fT A [r] L → (∀ x ∈ L, 0 ≤ x ∧ x < A.1) → tyN A (kDl (D.take j) []) (sg_g σ 6) B f sc r → (∀ y ∈ L, nmQ σ A (kDl (D.take j) []) B y) → ∀ x ∈ L, lyQ σ A D B j x := fun j f sc r L hL hr ht nm x hx => by
    refine ⟨fun z => hn x (hr x hx).1 (hr x hx).2 z, (nm x hx).1, fun z => ?_⟩
    obtain ⟨f', sc', t⟩ := ty_in f sc r L hL ht x hx
    obtain ⟨c1, c2, y, c3, c4, c5⟩ := ty_cl t z
    refine ⟨((nm x hx).2 z).2, ⟨c1, c2⟩, ?_, y, c3, c4, c5⟩
    have r2 := (rt _ y c3).2.1
    rw [show (((B x).toNat : Nat) : Int) = B x by omega] at r2
    rw [r2]
    have := congrArg List.length c4
    rw [List.length_map, List.length_map] at this
    omega
  have nmD : ∀ (j : Nat) (x : aDf), D[j]? = some x → ∀ L, fT A [x.2.2.2] L → ∀ y ∈ L, nmQ σ A (kDl (D.take j) []) B y := fun j x hx L hL y hy => by
    obtain ⟨Lj, B', g1, g2, g3, g4⟩ := bo1 j x hx
    rw [Nat.zero_add] at g4
    rw [fT_det hL g1] at hy
    have r6 := (rt j x hx).2.2
    have e : mS σ (kPb (j : Int) 0 x.2.2.1 []) = pE3 (sg_g σ 24 j) x := by
      rw [mS_p (Int.natCast_nonneg _) x.2.2.1 0 [] (by omega)]
      unfold pE3
      rw [show sg_g σ 24 (j : Int) + ((0 : Nat) : Int) = sg_g σ 24 j by omega]
      rfl
    exact bo_all 201 (kPb (j : Int) 0 x.2.2.1 []) x.2.2.2 B' Lj g1 g2 (fun z hz => ⟨(g3 z hz).1, by have := (g3 z hz).2; omega⟩) (by rw [e]; exact (h3.1 j x hx).1) g4 y hy
  refine ⟨⟨by omega, fun q z1 z2 => ?_⟩, ?_, fun q z1 z2 => ?_, hS⟩
  · obtain ⟨j, rfl⟩ : ∃ j : Nat, q = (j : Int) := ⟨q.toNat, by omega⟩
    obtain ⟨x, hx⟩ : ∃ x, D[j]? = some x := ⟨D[j]'(by omega), List.getElem?_eq_getElem _⟩
    obtain ⟨⟨L, b1, b2, b3, b4, b5, b6, b7, b8, b9⟩, ord⟩ := a1 j z1 z2
    obtain ⟨r1, r2, r3⟩ := rt j x hx
    have le := scN_le _ _ _ _ _ b3
    have hr := j2.1 j x hx
    obtain ⟨L', s1, s2, s3⟩ := sub x.2.2.2 (List.mem_append_left _ (by unfold aRt; exact List.mem_map.mpr ⟨x, List.mem_of_getElem? hx, rfl⟩))
    have t := (ty.1 j x hx).1
    rw [Nat.zero_add] at t
    refine ⟨⟨L', kDl (D.take j) [], scZ (kPe x) (kPb (j : Int) 0 x.2.2.1 []), by rw [r1]; exact hr.2, by rw [r1]; exact s1, s2, gRq_j j1 s3, by rw [r1]; exact t, ⟨⟨b5.1, ?_⟩, b4⟩, by rw [r1]; exact (h3.1 j x hx).2, ly j 201 _ _ L' s1 s3 t (nmD j x hx L' s1), fun p hp => ?_⟩, ⟨by rw [r2]; omega, by rw [r2]; omega⟩, ⟨b6.1, by omega⟩, ⟨x, by rw [Int.toNat_natCast]; exact hx, r2.symm, r1.symm⟩, fun q' w1 w2 => ?_⟩
    · rw [List.length_append, List.length_cons, List.length_nil]; omega
    · have hp' : p ∈ scZ (x.2.2.1.reverse.map (fun p => (p.1, p.2.2)) ++ []) (kPb (j : Int) 0 x.2.2.1 []) := by rw [List.append_nil]; exact hp
      rcases scZ_p x.2.2.1 0 [] [] p hp' with ⟨i, y, hy, rfl⟩ | h
      · have hi := gE_l hy
        refine ⟨i, by rw [r2]; omega, ?_⟩
        simp only [Nat.zero_add]
        rw [bTy_p hx hy (by omega)]
      · simp [scZ] at h
    · obtain ⟨j', rfl⟩ : ∃ j' : Nat, q' = (j' : Int) := ⟨q'.toNat, by omega⟩
      obtain ⟨x2, hx2⟩ : ∃ x, D[j']? = some x := ⟨D[j']'(by omega), List.getElem?_eq_getElem _⟩
      unfold nxq
      rw [r1, (rt j' x2 hx2).1]
      have := j2.2 j' j x2 x (by omega) hx2 hx
      omega
  · obtain ⟨L', s1, s2, s3⟩ := sub k (List.mem_append_right _ (by simp))
    have eD : D.take D.length = D := List.take_of_length_le (Nat.le_refl _)
    refine ⟨L', kDl D [], [], j3.2, s1, s2, gRq_j j1 s3, ty.2, a5, h3.2.2, ly D.length 201 [] k L' s1 s3 (by rw [eD]; exact ty.2) (fun y hy => ?_), fun p hp => by cases hp⟩
    rw [eD]
    rw [fT_det s1 bq1] at hy
    exact bo_all 201 [] k Bq Lq bq1 bq2 (fun z hz => ⟨(bq3 z hz).1, by have := (bq3 z hz).2; omega⟩) h3.2.1 bq4 y hy
  · obtain ⟨j, rfl⟩ : ∃ j : Nat, q = (j : Int) := ⟨q.toNat, by omega⟩
    obtain ⟨x, hx⟩ : ∃ x, D[j]? = some x := ⟨D[j]'(by omega), List.getElem?_eq_getElem _⟩
    unfold nxq
    rw [(rt j x hx).1]
    have := j4 j x hx
    omega
