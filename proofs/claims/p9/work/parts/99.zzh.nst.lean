/-! endNested: the value of a node whose parts are there. -/
theorem p_op (a b c : Int) : p_operated a b c := by
  unfold p_operated
  exact ⟨fun _ => ⟨fun _ => trivial, fun _ => trivial⟩, fun _ => ⟨fun _ => ⟨fun _ => trivial, fun _ => trivial⟩, fun _ => ⟨fun _ => trivial, fun _ => ⟨fun _ => trivial, fun _ => ⟨fun _ => trivial, fun _ => ⟨fun z => ⟨fun _ => ⟨z, trivial⟩, fun _ => ⟨z, trivial⟩⟩, fun _ => trivial⟩⟩⟩⟩⟩⟩
theorem R_op (a b c : Int) : sg_R (v_operated a b c) := by
  unfold v_operated
  by_cases c1 : a = 4
  · rw [if_pos c1]; split <;> exact ⟨by decide, by decide⟩
  rw [if_neg c1]
  by_cases c2 : a = 5
  · rw [if_pos c2]; split <;> exact ⟨by decide, by decide⟩
  rw [if_neg c2]
  by_cases c3 : a = 6
  · rw [if_pos c3]; exact sg_Rn _
  rw [if_neg c3]
  by_cases c4 : a = 7
  · rw [if_pos c4]; exact sg_Rn _
  rw [if_neg c4]
  by_cases c5 : a = 8
  · rw [if_pos c5]; exact sg_Rn _
  rw [if_neg c5]
  split
  · split <;> exact sg_Rr _
  · exact ⟨by decide, by decide⟩
section KTY
variable {A : aT} {ds : kD} {T : Int → Int} {e : kE} {n : Int} {ts : List Int}
theorem kTy_0 (z : A.2.1 n = 0) : kTy A ds T e n ts = some 0 := by unfold kTy; simp only [z, if_true]
theorem kTy_2 (z : A.2.1 n = 2) : kTy A ds T e n ts = some (ts.getD 1 0) := by unfold kTy; simp only [z]; rfl
theorem kTy_3 (z : A.2.1 n = 3) : kTy A ds T e n ts = kIs (decide (ts.getD 0 0 = 0) && decide (ts.getD 1 0 = ts.getD 2 0)) (ts.getD 1 0) := by unfold kTy; simp only [z]; rfl
theorem kTy_op (z : 4 ≤ A.2.1 n ∧ A.2.1 n < 11) : kTy A ds T e n ts = kIs (decide (ts.getD 0 0 = 0) && decide (ts.getD 1 0 = 0)) 0 := by
  unfold kTy
  simp only
  rw [if_neg (by omega), if_neg (by omega), if_neg (by omega), if_neg (by omega), if_pos z.2]
theorem kTy_11 (z : A.2.1 n = 11) : kTy A ds T e n ts = kIs (decide (0 < ts.getD 0 0)) 0 := by unfold kTy; simp only [z]; rfl
theorem kTy_12 (z : A.2.1 n = 12) : kTy A ds T e n ts = kIs (decide (0 < ts.getD 0 0) && decide (ts.getD 1 0 = 0)) (ts.getD 0 0 - 1) := by unfold kTy; simp only [z]; rfl
theorem kTy_c (z : A.2.1 n = 13) : kTy A ds T e n ts = (match kDef ds (A.2.2.2.1 n) with
    | none => none
    | some (ps, r) => kIs (decide (ts = ps)) (T r)) := by unfold kTy; simp only [z]; rfl
theorem kTy_14 (z : A.2.1 n = 14) : kTy A ds T e n ts = kIs (ts.all (fun x => decide (x = ts.getD 0 0))) (ts.getD 0 0 + 1) := by unfold kTy; simp only [z]; rfl
theorem kTy_15 (z : A.2.1 n = 15) : kTy A ds T e n ts = kIs (decide (ts.length ≠ 2 + (A.2.2.2.2.2 n).length) || decide (ts.getD (ts.length - 1) 0 = 0)) (ts.getD 0 0 + 1) := by unfold kTy; simp only [z]; rfl
theorem kTy_act (z : 16 ≤ A.2.1 n) : kTy A ds T e n ts = kAct (A.2.1 n) ts := by
  unfold kTy
  simp only
  rw [if_neg (by omega), if_neg (by omega), if_neg (by omega), if_neg (by omega), if_neg (by omega), if_neg (by omega), if_neg (by omega), if_neg (by omega), if_neg (by omega), if_neg (by omega)]
theorem kAct_i {k t : Int} (h : kAct k ts = some t) : (ts.length = 1 ∨ ts.length = 2) ∧ (k = 18 ∨ k = 19 ∨ k = 20 → ts.getD 0 0 = 1 ∧ t = 0) ∧ (¬ (k = 18 ∨ k = 19 ∨ k = 20) → 0 ≤ ts.getD 0 0 → 1 ≤ t) := by
  unfold kAct at h
  simp only at h
  repeat' split at h
  all_goals
    obtain ⟨e1, e2, e3⟩ := kIs_in h
    simp only [Bool.and_eq_true, decide_eq_true_eq] at e3
    refine ⟨by omega, fun z => ?_, fun z y => ?_⟩ <;> omega
theorem tC_act {k : Int} (h : 16 ≤ k) (h2 : ¬ (k = 18 ∨ k = 19 ∨ k = 20)) : ¬ v_tellsCount k = 0 := by
  unfold v_tellsCount
  by_cases c1 : k = 14
  · rw [if_pos c1]; decide
  rw [if_neg c1]
  by_cases c2 : k = 15
  · rw [if_pos c2]; decide
  rw [if_neg c2]
  by_cases c3 : k = 16
  · rw [if_pos c3]; decide
  rw [if_neg c3]
  by_cases c4 : k = 17
  · rw [if_pos c4]; decide
  rw [if_neg c4, if_neg (by omega)]; decide
theorem tC_no {k : Int} (h : k = 18 ∨ k = 19 ∨ k = 20 ∨ (0 ≤ k ∧ k ≤ 13)) : v_tellsCount k = 0 := by
  unfold v_tellsCount
  rw [if_neg (by omega), if_neg (by omega), if_neg (by omega), if_neg (by omega), if_pos (by omega)]
end KTY
section NEE
variable {A : aT} {D : List aDf} {T B : Int → Int} {r : Int}
theorem vS_at {σ : sg_S} {b : Int} {ks : List Int} (h : vS σ b (ks.map T)) {i : Nat} {x : Int} (hx : ks[i]? = some x) : vU σ (T x).toNat (sg_g σ 133 (b + i)) := h i (T x) (by rw [List.getElem?_map, hx]; rfl)
theorem vS_0 {σ : sg_S} {b x : Int} {ty : List Int} (h : vS σ b (x :: ty)) : vU σ x.toNat (sg_g σ 133 b) := by
  have := h 0 x rfl
  rwa [show b + ((0 : Nat) : Int) = b by omega] at this
theorem vS_1 {σ : sg_S} {b x y : Int} {ty : List Int} (h : vS σ b (x :: y :: ty)) : vU σ y.toNat (sg_g σ 133 (b + 1)) := h 1 y rfl
theorem tr_k {σ : sg_S} (h : trT σ A) {n : Int} (hn : 0 ≤ n ∧ n < A.1) : sg_g σ 93 n = A.2.1 n ∧ sg_g σ 96 n = (A.2.2.2.2.1 n).length ∧ (A.2.2.2.2.1 n).length ≤ 200 ∧ (∀ (j : Nat) (x : Int), (A.2.2.2.2.1 n)[j]? = some x → sg_g σ 97 (200 * n + j) = x) ∧ sg_g σ 98 n = (A.2.2.2.2.2 n).length := by
  obtain ⟨a1, a2, a3, a4, a5, a6, a7, a8⟩ := h.1.2.2.2 n hn.1 hn.2
  exact ⟨a1, a4, a5, a6, a7⟩
theorem fO_t {σ : sg_S} {n : Int} (h : fO A D T B σ n) : (A.2.1 n = 1 → (0 ≤ B n ∧ B n < 1200) ∧ vU σ (T n).toNat (sg_g σ 134 (B n))) ∧ (¬ A.2.1 n = 1 → ∃ j, kTy A (kDl (D.take j) []) T [] n ((A.2.2.2.2.1 n).map T) = some (T n) ∧ (A.2.1 n = 13 → kDx (kDl (D.take j) []) (A.2.2.2.1 n) = some (B n))) ∧ (¬ A.2.1 n = 2 → ¬ A.2.1 n = 15 → ∀ x ∈ A.2.2.2.2.1 n, fO A D T B σ x) := by
  obtain ⟨j, f, sc, a1, a2⟩ := h
  cases f with
  | zero => cases a1
  | succ f =>
    obtain ⟨b1, b2, b3, b4, b5, b6, b7, b8, b9⟩ := a1
    refine ⟨fun z => ?_, fun z => ⟨j, b5 z, b6⟩, fun z1 z2 x hx => ⟨j, f, sc, b9 z1 z2 x hx, a2⟩⟩
    obtain ⟨c1, c2, c3⟩ := a2 _ (b4 z)
    exact ⟨c1, c3⟩
theorem kid1 {ks : List Int} (h : ks.length = 1) : ∃ a, ks = [a] := by
  match ks, h with
  | [a], _ => exact ⟨a, rfl⟩
theorem kid2 {ks : List Int} (h : ks.length = 2) : ∃ a b, ks = [a, b] := by
  match ks, h with
  | [a, b], _ => exact ⟨a, b, rfl⟩
theorem m_endN {σ : sg_S} {m : Nat} {n b : Int} {ty : List Int} {Q : sg_S → Prop} (hP : trT σ A) (eT : ∀ n, sg_g σ 101 n = T n) (eB : ∀ n, sg_g σ 102 n = B n) (hA : A.1 ≤ 200) (h : nTop A D T B r σ m ty) (hC : nC σ) (he : sg_g σ 88 73 = 0) (en : sg_g σ 126 m = n) (eb : sg_g σ 128 m = b) (hk : ((A.2.1 n = 2 ∨ A.2.1 n = 13) ∧ ty = [T n]) ∨ ((¬ A.2.1 n = 2 ∧ ¬ A.2.1 n = 3 ∧ ¬ A.2.1 n = 13 ∧ ¬ A.2.1 n = 15) ∧ ty = (A.2.2.2.2.1 n).map T)) (k : ∀ σ', nQ A D T B r σ σ' → Q σ') : V_endNested σ n b Q := by
  have hh := h
  obtain ⟨h1, h3, h4, h5, h6, h7, h8⟩ := h
  rw [eb] at h3 h4 h5
  rw [en] at h6
  obtain ⟨w1, w2, w3⟩ := fO_w h6
  obtain ⟨t1, t2, t3, t4, t5⟩ := tr_k hP w2
  obtain ⟨o1, o2, o3⟩ := fO_t h6
  have hC' := hC
  obtain ⟨⟨c1, c2, c3, c4⟩, c5, c6, c7, c8⟩ := hC'
  have hn : 0 ≤ n ∧ n < 210 := ⟨w2.1, by omega⟩
  have hB : nB σ := ⟨⟨c1, by omega⟩, c2, by omega⟩
  have fault : ∀ e : Int, sg_R e ∧ ¬ e = 0 → V_ends σ e (fun σ' => sg_F [74088] σ σ' → Q σ') := fun e he => m_ends he (fun σ' x1 x2 _ => k σ' (Or.inl x1))
  have lv : ∀ v, sg_R v → vU σ (T n).toNat v → v_tellsCount (sg_g σ 93 n) = 0 → ¬ (sg_g σ 93 n = 18 ∨ sg_g σ 93 n = 19 ∨ sg_g σ 93 n = 20) → V_leave σ v (fun σ4 => sg_F [129, 131, 133, 55088, 56088, 63088, 71088, 74088] σ σ4 → Q σ4) := fun v x1 x2 x3 x4 => by
    rw [← en] at x2 x3 x4
    exact ev_v hh hC hA x1 x2 x3 x4 k
  have tc : ∀ a, A.2.1 n = a → v_tellsCount a = 0 → v_tellsCount (sg_g σ 93 n) = 0 := fun a ea ha => by rw [t1, ea]; exact ha
  have b12 : ty.length ≤ 3000 ∧ b + ty.length ≤ 3000 := by omega
  unfold V_endNested
  refine ⟨hn, fun z => ?_, fun z0 => ⟨fun z => ?_, fun z1 => ⟨fun z => ?_, fun z2 => ⟨fun z => ?_, fun z11 => ⟨fun z => ?_, fun z12 => ⟨fun z => ?_, fun z13 => ⟨fun z => ?_, fun z14 => ?_⟩⟩⟩⟩⟩⟩⟩
  · rw [t1] at z
    unfold V_endNested_0
    have e0 : T n = 0 := by
      obtain ⟨j, g, -⟩ := o2 (by omega)
      rw [kTy_0 z, Option.some.injEq] at g
      exact g.symm
    exact ⟨hn, fun q => absurd he q, fun _ => lv _ (sg_Rn _) (by rw [e0]; exact ⟨trivial, fun q => by cases q⟩) (tc 0 z rfl) (by omega)⟩
  · rw [t1] at z
    obtain ⟨p1, p2⟩ := o1 z
    unfold V_endNested_1
    rw [eB]
    exact ⟨hn, p1, fun q => absurd he q, fun _ => lv _ (sg_Rg _ _ _) p2 (tc 1 z rfl) (by omega)⟩
  · rw [t1] at z
    have ety : ty = [T n] := by rcases hk with ⟨-, q⟩ | ⟨q, -⟩; exact q; exact absurd z q.1
    rw [ety] at h5
    unfold V_endNested_2
    exact ⟨⟨h3, by omega⟩, fun q => absurd he q, fun _ => lv _ (sg_Rg _ _ _) (vS_0 h5) (tc 2 z rfl) (by omega)⟩
  · rw [t1] at z
    have ety : ty = (A.2.2.2.2.1 n).map T := by rcases hk with ⟨q, -⟩ | ⟨-, q⟩; omega; exact q
    obtain ⟨a, ea⟩ := kid1 (w1.2.2.2.2.1 z)
    obtain ⟨j, g, -⟩ := o2 (by omega)
    rw [kTy_11 z, ea] at g
    obtain ⟨g1, g2, g3⟩ := kIs_in g
    simp only [List.map_cons, List.getD_cons_zero, decide_eq_true_eq] at g3
    rw [ety, ea] at h5
    have u := vS_0 h5
    rw [show (T a).toNat = ((T a).toNat - 1) + 1 by omega] at u
    have v9 := vT_9 hB u.1
    unfold V_endNested_11
    exact ⟨⟨h3, by omega⟩, v9.1, fun q => absurd he q, fun _ => lv _ (sg_Rg _ _ _) (by rw [g1]; exact ⟨trivial, fun q => by cases q⟩) (tc 11 z rfl) (by omega)⟩
  · rw [t1] at z
    have ety : ty = (A.2.2.2.2.1 n).map T := by rcases hk with ⟨q, -⟩ | ⟨-, q⟩; omega; exact q
    obtain ⟨a, c, ea⟩ := kid2 (w1.2.2.1 (Or.inr (Or.inr z)))
    obtain ⟨j, g, -⟩ := o2 (by omega)
    rw [kTy_12 z, ea] at g
    obtain ⟨g1, g2, g3⟩ := kIs_in g
    simp only [List.map_cons, List.getD_cons_zero, List.getD_cons_succ, Bool.and_eq_true, decide_eq_true_eq] at g1 g3
    rw [ety, ea] at h5
    have hl : ty.length = 2 := by rw [ety, ea]; rfl
    have u := vS_0 h5
    rw [show (T a).toNat = (T n).toNat + 1 by omega] at u
    have v9 := vT_9 hB u.1
    unfold V_endNested_12
    refine ⟨⟨by omega, by omega⟩, ⟨by omega, by omega⟩, ⟨h3, by omega⟩, v9.1, ⟨by omega, by omega⟩, fun q => ?_, fun _ => fault 2 (by decide)⟩
    have hi := Decidable.byContradiction (fun y => q (v_in_n.mpr y))
    exact ⟨(vT_it (by omega) (by omega) u.1 hi.1 (by omega)).1, fun q => absurd he q, fun _ => lv _ (sg_Rg _ _ _) (vU_it u hi.1 (by omega)) (tc 12 z rfl) (by omega)⟩
  · rw [t1] at z
    have ety : ty = [T n] := by rcases hk with ⟨-, q⟩ | ⟨q, -⟩; exact q; exact absurd z q.2.2.1
    rw [ety] at h5
    unfold V_endNested_2
    exact ⟨⟨h3, by omega⟩, fun q => absurd he q, fun _ => lv _ (sg_Rg _ _ _) (vS_0 h5) (tc 13 z rfl) (by omega)⟩
  · rw [t1] at z
    have ety : ty = (A.2.2.2.2.1 n).map T := by rcases hk with ⟨q, -⟩ | ⟨-, q⟩; omega; exact q
    have hl := w1.2.2.2.2.2.1 z
    obtain ⟨j, g, -⟩ := o2 (by omega)
    rw [kTy_14 z] at g
    obtain ⟨g1, g2, g3⟩ := kIs_in g
    rw [List.all_eq_true] at g3
    obtain ⟨a0, ea0⟩ : ∃ a0, a0 = ((A.2.2.2.2.1 n).map T).getD 0 0 := ⟨_, rfl⟩
    rw [← ea0] at g1 g2 g3
    have all : ∀ x ∈ A.2.2.2.2.1 n, T x = a0 := fun x hx => by
      have := g3 (T x) (List.mem_map_of_mem hx)
      simpa using this
    have a00 : 0 ≤ a0 := by
      match e : A.2.2.2.2.1 n, hl with
      | x :: l, _ =>
        rw [e] at all
        rw [← all x (by simp)]
        exact (fO_w (o3 (by omega) (by omega) x (by rw [e]; simp))).2.2.1
    have v1 : ∀ i : Nat, i < (A.2.2.2.2.1 n).length → vU σ a0.toNat (sg_g σ 133 (b + i)) := fun i hi => by
      have e : (A.2.2.2.2.1 n)[i]? = some ((A.2.2.2.2.1 n)[i]'hi) := List.getElem?_eq_getElem hi
      rw [ety] at h5
      have := vS_at h5 e
      rwa [all _ (List.getElem_mem hi)] at this
    have tl : ty.length = (A.2.2.2.2.1 n).length := by rw [ety]; simp
    unfold V_endNested_14
    refine ⟨fun q v σ3 => q = ((A.2.2.2.2.1 n).length - v).toNat ∧ (0 ≤ v ∧ v ≤ (A.2.2.2.2.1 n).length) ∧ nAd σ σ3 a0.toNat v, fun σ3 => nAd σ σ3 a0.toNat (A.2.2.2.2.1 n).length, ⟨_, rfl, ⟨by omega, by omega⟩, nAd_0 σ _⟩, ?_, ?_⟩
    · rintro q v σ3 rv f3 ⟨em, hv, hA⟩
      refine ⟨hn, fun y => ?_, fun y => ⟨⟨by omega, by omega⟩, ⟨by omega, by omega⟩, ?_⟩⟩
      · rw [show ((A.2.2.2.2.1 n).length : Int) = v by omega]; exact hA
      · have vv := v1 v.toNat (by omega)
        rw [show ((v.toNat : Nat) : Int) = v by omega] at vv
        exact m_addA hB (by omega) hA (sg_Rg _ _ _) (vT_up hA.1 vv.1) (fun σ' x1 _ x2 _ => ⟨⟨by omega, by omega⟩, _, by omega, rfl, ⟨by omega, by omega⟩, x1⟩)
    · intro σ3 f3 h3'
      rw [t2, eT]
      refine ⟨hn, m_seqA hB ⟨by omega, by omega⟩ h3' (k := a0.toNat) (by omega) (by omega) (fun q σ' x1 x2 x3 _ => ⟨fun y => absurd he y, fun _ => ?_⟩)⟩
      rw [← en] at g1 t1 z
      refine ev_lv hh hC hA (sg_F_t (sg_F_m f3 rfl) (sg_F_m x2 rfl)) x3 ?_ (Or.inl ?_) (fun _ => ?_) (fun y => ?_) k
      · rw [g1, show (a0 + 1).toNat = a0.toNat + 1 by omega]; exact x1
      · rw [t1, z]; decide
      · rw [g1]; omega
      · omega
  · rw [t1] at z0 z1 z2 z11 z12 z13 z14
    have ety : ty = (A.2.2.2.2.1 n).map T := by rcases hk with ⟨q, -⟩ | ⟨-, q⟩; omega; exact q
    have hk3 : ¬ A.2.1 n = 3 ∧ ¬ A.2.1 n = 15 := by rcases hk with ⟨q, -⟩ | ⟨q, -⟩ <;> omega
    have w0 := w1.1
    unfold V_endNested_d
    refine ⟨hn, fun z => ?_, fun z => ?_⟩
    · rw [t1] at z
      obtain ⟨j, g, -⟩ := o2 (by omega)
      rw [kTy_act (by omega)] at g
      have tl : ty.length = (A.2.2.2.2.1 n).length := by rw [ety]; simp
      rw [← ety] at g
      have tys : ∀ x ∈ ty, kIn x := fun x hx => by
        rw [ety] at hx
        obtain ⟨y, hy, e⟩ := List.mem_map.mp hx
        rw [← e]
        exact (fO_w (o3 (by omega) (by omega) y hy)).2.2
      obtain ⟨i1, i2, i3⟩ := kAct_i g
      have u0 : vU σ (ty.getD 0 0).toNat (sg_g σ 133 b) := by
        match e : ty, h5, i1 with
        | x :: l, h5, _ => exact vS_0 h5
      have g0 : 0 ≤ ty.getD 0 0 := by
        match e : ty, tys, i1 with
        | x :: l, tys, _ => exact (tys x (by simp)).1
      refine ⟨⟨h3, by omega⟩, ⟨fun _ => trivial, fun y => ⟨⟨by omega, by omega⟩, ⟨by omega, by omega⟩, trivial⟩⟩, fun v6 e6 r6 => ?_⟩
      have u1 : vT σ (ty.getD 1 0).toNat v6 := by
        match e : ty, h5, i1, tl with
        | [x], _, _, _ => exact trivial
        | [x, y], h5, _, tl =>
          rw [e6, if_neg (by rw [t2, ← tl]; simp)]
          exact (vS_1 h5).1
      rw [← t1, ← eT n] at g
      refine m_acted (ts := ty) ⟨⟨c1, by omega⟩, c2, by omega⟩ hn (by omega) (sg_Rg _ _ _) tys g u0.1 u1 ⟨fun q σ' x1 x2 x3 _ _ => ⟨fun _ => k σ' (Or.inl x1), fun y => absurd y x1⟩, fun q σ' x1 x2 x3 x4 _ => ⟨fun y => absurd (x2.trans he) y, fun _ => ?_⟩⟩
      rw [eT] at x1
      have z16 : 16 ≤ A.2.1 n := by omega
      rw [← en] at x1 t1 i2 i3 z16
      refine ev_lv hh hC hA (sg_F_m x3 rfl) x4 x1 ?_ (fun y => ?_) (fun y => ?_) k
      · by_cases y : A.2.1 (sg_g σ 126 m) = 18 ∨ A.2.1 (sg_g σ 126 m) = 19 ∨ A.2.1 (sg_g σ 126 m) = 20
        · have e0 := (i2 y).2
          rw [en] at e0
          rw [en, e0] at x1 ⊢
          exact Or.inr ⟨⟨trivial, fun q => by cases q⟩, (x1.2.2.2 rfl).2, (x1.2.2.2 rfl).1⟩
        · rw [t1]; exact Or.inl (tC_act z16 y)
      · by_cases y' : A.2.1 (sg_g σ 126 m) = 18 ∨ A.2.1 (sg_g σ 126 m) = 19 ∨ A.2.1 (sg_g σ 126 m) = 20
        · exact absurd (by rw [t1]; exact tC_no (by omega)) y
        · have := i3 y' g0
          omega
      · rw [t1] at y
        rw [eb]
        rw [(i2 y).1] at u0
        exact u0.1
    · rw [t1] at z
      obtain ⟨c, d, ea⟩ := kid2 (w1.2.2.1 (by omega))
      obtain ⟨j, g, -⟩ := o2 (by omega)
      rw [kTy_op (by omega), ea] at g
      obtain ⟨g1, g2, g3⟩ := kIs_in g
      have hl : ty.length = 2 := by rw [ety, ea]; rfl
      have o : V_leave σ (v_operated (sg_g σ 93 n) (sg_g σ 133 b) (sg_g σ 133 (b + 1))) (fun σ4 => sg_F [129, 131, 133, 55088, 56088, 63088, 71088, 74088] σ σ4 → Q σ4) := lv _ (R_op _ _ _) (by rw [g1]; exact ⟨trivial, fun q => by cases q⟩) (by rw [t1]; exact tC_no (by omega)) (by omega)
      exact ⟨fun _ => ⟨⟨by omega, by omega⟩, ⟨by omega, by omega⟩, fun _ => ⟨⟨h3, by omega⟩, p_op _ _ _, fun q => absurd he q, fun _ => o⟩, fun _ => fault 1 (by decide)⟩, fun _ => ⟨fun _ => ⟨⟨h3, by omega⟩, ⟨by omega, by omega⟩, ⟨by omega, by omega⟩, p_op _ _ _, fun q => absurd he q, fun _ => o⟩, fun _ => ⟨⟨by omega, by omega⟩, ⟨by omega, by omega⟩, fun _ => ⟨⟨h3, by omega⟩, p_op _ _ _, fun q => absurd he q, fun _ => o⟩, fun _ => fault 1 (by decide)⟩⟩⟩
end NEE
