/-! goNested: a turn at the top frame (but for EACH). -/
section NGO
variable {A : aT} {D : List aDf} {T B : Int → Int} {r : Int}
theorem gsc_m {n : Int} : ∀ (xs : List Int) (j : Nat) (p : Int × Int), p ∈ gsc n T j xs → ∃ (i : Nat) (x : Int), xs[i]? = some x ∧ p = (210 + 4 * n + (j + i : Nat), T x - 1)
  | [], j, p, h => by cases h
  | x :: xs, j, p, h => by
    simp only [gsc] at h
    rcases List.mem_cons.mp h with h | h
    · exact ⟨0, x, rfl, by rw [h]; rfl⟩
    · obtain ⟨i, y, h1, h2⟩ := gsc_m xs (j + 1) p h
      refine ⟨i + 1, y, by simpa using h1, ?_⟩
      rw [h2]
      simp only [Prod.mk.injEq, and_true]
      omega
theorem fO_let {σ : sg_S} {n a c : Int} (h : fO A D T B σ n) (hA : A.1 ≤ 200) (hk : A.2.1 n = 2) (ea : A.2.2.2.2.1 n = [a, c]) : fO A D T B σ a ∧ ∀ σ', nEx σ σ' → bOk A D T σ σ' → vU σ' (T a).toNat (sg_g σ' 134 n) → fO A D T B σ' c := by
  obtain ⟨j, f, sc, a1, a2⟩ := h
  cases f with
  | zero => cases a1
  | succ f =>
    obtain ⟨b1, b2, b3, b4, b5, b6, b7, b8, b9⟩ := a1
    obtain ⟨c1, c2⟩ := b7 hk a c ea
    refine ⟨⟨j, f, sc, c1, a2⟩, fun σ' ex bo u => ⟨j, f, _, c2, fun p hp => ?_⟩⟩
    rcases List.mem_cons.mp hp with e | e
    · rw [e]
      exact ⟨⟨b2.1, by simp only; omega⟩, (bTy_l ea (by omega)).symm, u⟩
    · exact scO_up ex bo a2 p e
theorem fO_each {σ : sg_S} {n bd : Int} {tl : List Int} (h : fO A D T B σ n) (hA : A.1 ≤ 200) (hk : A.2.1 n = 15) (ea : A.2.2.2.2.1 n = bd :: tl) : (∀ x ∈ tl.take (A.2.2.2.2.2 n).length, fO A D T B σ x ∧ 0 < T x) ∧ (∀ σ', nEx σ σ' → bOk A D T σ σ' → (∀ (i : Nat) (x : Int), (tl.take (A.2.2.2.2.2 n).length)[i]? = some x → vU σ' (T x - 1).toNat (sg_g σ' 134 (210 + 4 * n + i))) → ∀ x ∈ tl.drop (A.2.2.2.2.2 n).length ++ [bd], fO A D T B σ' x) ∧ ∀ x ∈ tl.drop (A.2.2.2.2.2 n).length ++ [bd], kIn (T x) := by
  obtain ⟨j, f, sc, a1, a2⟩ := h
  cases f with
  | zero => cases a1
  | succ f =>
    obtain ⟨b1, b2, b3, b4, b5, b6, b7, b8, b9⟩ := a1
    obtain ⟨c1, c2⟩ := b8 hk bd tl ea
    refine ⟨fun x hx => ⟨⟨j, f, sc, (c1 x hx).1, a2⟩, (c1 x hx).2⟩, fun σ' ex bo u x hx => ⟨j, f, _, c2 x hx, fun p hp => ?_⟩, fun x hx => ?_⟩
    rotate_left
    · have c3 := c2 x hx
      cases f with
      | zero => cases c3
      | succ f => exact c3.2.2.1
    rcases List.mem_append.mp hp with e | e
    · obtain ⟨i, y, h1, h2⟩ := gsc_m _ _ _ e
      have hi : i < (A.2.2.2.2.2 n).length := by
        rcases Nat.lt_or_ge i (tl.take (A.2.2.2.2.2 n).length).length with q | q
        · rw [List.length_take] at q; omega
        · rw [List.getElem?_eq_none q] at h1; cases h1
      have g4 := (b1.2.2.2.2.2.2.1 hk).2
      have hy : tl[i]? = some y := by
        rw [List.getElem?_take, if_pos hi] at h1; exact h1
      rw [h2]
      simp only [Nat.zero_add]
      exact ⟨⟨by omega, by omega⟩, (bTy_g ea hy ⟨b2.1, by omega⟩ (by omega)).symm, u i y h1⟩
    · exact scO_up ex bo a2 p e
/-- the PROGRAM is there, looked through -/
def pgX (σ : sg_S) (A : aT) (D : List aDf) (T B : Int → Int) : Prop := trT σ A ∧ dfR σ D ∧ (∀ n, sg_g σ 101 n = T n) ∧ (∀ n, sg_g σ 102 n = B n) ∧ A.1 ≤ 200 ∧ ∀ (j : Nat) (x : aDf), D[j]? = some x → tyN A (kDl (D.take j) []) T B 201 (scZ (kPe x) (kPb j 0 x.2.2.1 [])) x.2.2.2
theorem take_x {ks : List Int} {i : Nat} {x : Int} (h : ks[i]? = some x) : (ks.take (i + 1)).map T = (ks.take i).map T ++ [T x] := by
  rw [List.take_add_one, h]
  simp
theorem m_goN {σ : sg_S} {m : Nat} {ty : List Int} {Q : sg_S → Prop} (hX : pgX σ A D T B) (h : nTop A D T B r σ m ty) (hC : nC σ) (he : sg_g σ 88 73 = 0) (hE : A.2.1 (sg_g σ 126 m) = 15 → V_goEach σ m (fun σ' => sg_F [122, 123, 124, 125, 126, 127, 128, 129, 130, 131, 132, 133, 134, 55088, 56088, 57088, 61088, 63088, 71088, 74088] σ σ' → Q σ')) (k : ∀ σ', nQ A D T B r σ σ' → Q σ') : V_goNested σ Q := by
  have hh := h
  obtain ⟨h1, h3, h4, h5, h6, h7, h8⟩ := h
  obtain ⟨hP, hD, eT, eB, hA, hDf⟩ := hX
  obtain ⟨n, en⟩ : ∃ n, sg_g σ 126 m = n := ⟨_, rfl⟩
  obtain ⟨b, eb⟩ : ∃ b, sg_g σ 128 m = b := ⟨_, rfl⟩
  obtain ⟨s, es⟩ : ∃ s, sg_g σ 127 m = s := ⟨_, rfl⟩
  have h6' := h6
  have h7' := h7
  rw [en] at h6 h7 h8 hE
  rw [eb] at h3 h4 h5 h7 h8
  rw [es] at h7
  obtain ⟨w1, w2, w3⟩ := fO_w h6
  obtain ⟨t1, t2, t3, t4, t5⟩ := tr_k hP w2
  obtain ⟨o1, o2, o3⟩ := fO_t h6
  have hC' := hC
  obtain ⟨⟨c1, c2, c3, c4⟩, c5, c6, c7, c8⟩ := hC'
  have hn : 0 ≤ n ∧ n < 210 := ⟨w2.1, by omega⟩
  have ef : sg_g σ 88 62 - 1 = m := by omega
  have bo : bOk A D T σ σ := fun _ => Or.inl rfl
  unfold V_goNested
  rw [ef, en, es, eb, t1, t2]
  refine ⟨⟨by omega, by omega⟩, ⟨by omega, by omega⟩, hn, fun k15 => ⟨fun k3 => ?_, fun k3 => ?_⟩, hE⟩
  · refine ⟨fun σ9 => (A.2.1 n = 2 ∧ s = 1 ∧ σ9 = sg_w (sg_w σ 88 70 (sg_g σ 88 70 - 1)) 134 n (sg_g σ 133 (sg_g σ 88 70 - 1))) ∨ (¬ (A.2.1 n = 2 ∧ s = 1) ∧ σ9 = σ), ⟨fun z => Or.inr ⟨fun q => z q.1, rfl⟩, fun z => ⟨fun y => Or.inr ⟨fun q => y q.2, rfl⟩, fun y => ?_⟩⟩, fun σ9 f9 p9 => ⟨fun c => ⟨fun k13 => ?_, fun k13 => ⟨fun cs => ?_, fun cs => ?_⟩⟩, fun c => ?_⟩⟩
    · have v1 : 1 ≤ ty.length := by
        unfold fS at h7
        rw [if_pos z] at h7
        obtain ⟨a, d, ea, q | q | q⟩ := h7
        · omega
        · rw [q.2]; simp
        · rw [q.2]; simp
      exact ⟨⟨by omega, by omega⟩, fun σ75 e75 => ⟨⟨by omega, by omega⟩, fun σ79 e79 => Or.inl ⟨z, y, by rw [e79, e75]⟩⟩⟩
    · unfold fS at h7
      rcases p9 with ⟨q1, q2, -⟩ | ⟨q1, q2⟩
      · have := w1.2.2.1 (Or.inl q1)
        omega
      · subst q2
        refine m_endN hP eT eB hA hh hC he en eb ?_ (fun σ' x _ => k σ' x)
        by_cases z2 : A.2.1 n = 2
        · rw [if_pos z2] at h7
          obtain ⟨a, d, ea, q⟩ := h7
          rw [ea] at c
          simp only [List.length_cons, List.length_nil] at c
          obtain ⟨j, g, -⟩ := o2 (by omega)
          rw [kTy_2 z2, ea] at g
          simp only [List.map_cons, List.map_nil, List.getD_cons_succ, List.getD_cons_zero, Option.some.injEq] at g
          left
          refine ⟨Or.inl z2, ?_⟩
          rcases q with q | q | q
          · omega
          · omega
          · rw [q.2, g]
        · rw [if_neg z2, if_neg k3, if_neg k15] at h7
          right
          refine ⟨⟨z2, k3, k13, k15⟩, ?_⟩
          rcases h7 with ⟨i, i1, i2, i3⟩ | q
          · rw [i3, List.take_of_length_le (by omega)]
          · exact absurd q.1 k13
    · unfold fS at h7
      rcases p9 with ⟨q1, -, -⟩ | ⟨q1, q2⟩
      · omega
      · subst q2
        refine m_endN hP eT eB hA hh hC he en eb (Or.inl ⟨Or.inr k13, ?_⟩) (fun σ' x _ => k σ' x)
        rw [if_neg (by omega), if_neg k3, if_neg k15] at h7
        rcases h7 with ⟨i, i1, i2, i3⟩ | q
        · omega
        · exact q.2.2
    · rcases p9 with ⟨q1, -, -⟩ | ⟨q1, q2⟩
      · omega
      subst q2
      unfold fS at h7
      rw [if_neg (by omega), if_neg k3, if_neg k15] at h7
      have ety : ty = (A.2.2.2.2.1 n).map T := by
        rcases h7 with ⟨i, i1, i2, i3⟩ | q
        · rw [i3, List.take_of_length_le (by omega)]
        · omega
      have tl : ty.length = (A.2.2.2.2.1 n).length := by rw [ety]; simp
      obtain ⟨j, g, gx⟩ := o2 (by omega)
      have gx' := gx k13
      rw [kTy_c k13] at g
      cases ed : kDef (kDl (D.take j) []) (A.2.2.2.1 n) with
      | none => rw [ed] at g; cases g
      | some y =>
        obtain ⟨d0, x, dx, ey⟩ := kD_at gx' ed
        rw [ed, ey] at g
        simp only at g
        obtain ⟨g1, g2, g3⟩ := kIs_in g
        simp only [decide_eq_true_eq] at g3
        obtain ⟨hd1, hd2, hd3⟩ := hD
        obtain ⟨hx1, hx2, hx3, hx4⟩ := hd3 _ x dx
        have d12 : (B n).toNat < D.length := by
          rcases Nat.lt_or_ge (B n).toNat D.length with q | q
          · exact q
          · rw [List.getElem?_eq_none q] at dx; cases dx
        have ebd : ((B n).toNat : Int) = B n := by omega
        have l6 := hx4.2.1
        have lk : (A.2.2.2.2.1 n).length = x.2.2.1.length := by
          have := congrArg List.length g3
          simpa using this
        rw [eB]
        have vv : ∀ i : Nat, i < (A.2.2.2.2.1 n).length → vU σ9 (bTy A D T (1100 + 6 * B n + i)).toNat (sg_g σ9 133 (b + i)) := fun i hi => by
          have e1 : x.2.2.1[i]? = some (x.2.2.1[i]'(by omega)) := List.getElem?_eq_getElem (by omega)
          rw [← ebd, bTy_p dx e1 (by omega)]
          refine h5 i _ ?_
          rw [ety, g3, List.getElem?_map, e1]; rfl
        refine ⟨fun q v σ3 => q = ((A.2.2.2.2.1 n).length - v).toNat ∧ (0 ≤ v ∧ v ≤ (A.2.2.2.2.1 n).length) ∧ (∀ b', sg_g σ3 134 b' = sg_g σ9 134 b' ∨ ∃ i : Nat, (i : Int) < v ∧ b' = 1100 + 6 * B n + i ∧ sg_g σ3 134 b' = sg_g σ9 133 (b + i)) ∧ ∀ i : Nat, (i : Int) < v → sg_g σ3 134 (1100 + 6 * B n + i) = sg_g σ9 133 (b + i), fun σ3 => (∀ b', sg_g σ3 134 b' = sg_g σ9 134 b' ∨ ∃ i : Nat, i < (A.2.2.2.2.1 n).length ∧ b' = 1100 + 6 * B n + i ∧ sg_g σ3 134 b' = sg_g σ9 133 (b + i)) ∧ ∀ i : Nat, i < (A.2.2.2.2.1 n).length → sg_g σ3 134 (1100 + 6 * B n + i) = sg_g σ9 133 (b + i), ⟨_, rfl, ⟨by omega, by omega⟩, fun _ => Or.inl rfl, fun i hi => by omega⟩, ?_, ?_⟩
        · rintro q v σ3 rv f3 ⟨em, hv, i1, i2⟩
          refine ⟨fun y => ⟨fun b' => ?_, fun i hi => i2 i (by omega)⟩, fun y => ⟨⟨⟨by omega, by omega⟩, ⟨by omega, by omega⟩, ⟨by omega, by omega⟩, trivial⟩, ⟨by omega, by omega⟩, ⟨by omega, by omega⟩, ?_, fun σ62 e62 => ⟨⟨by omega, by omega⟩, _, by omega, rfl, ⟨by omega, by omega⟩, fun b' => ?_, fun i hi => ?_⟩⟩⟩
          · rcases i1 b' with z | ⟨i, z1, z2⟩
            · exact Or.inl z
            · exact Or.inr ⟨i, by omega, z2⟩
          · unfold v_ofParam; exact ⟨by omega, by omega⟩
          · by_cases e : b' = 1100 + 6 * B n + v
            · right
              refine ⟨v.toNat, by omega, by omega, ?_⟩
              rw [e62, e]
              unfold v_ofParam
              rw [sg_gw_e _ _ _ _ (sg_Rg _ _ _), show ((v.toNat : Nat) : Int) = v by omega]
            · rw [e62]
              unfold v_ofParam
              rw [sg_gw_k _ _ _ _ _ _ e]
              rcases i1 b' with z | ⟨i, z1, z2⟩
              · exact Or.inl z
              · exact Or.inr ⟨i, by omega, z2⟩
          · by_cases e : (i : Int) = v
            · rw [e62, e]
              unfold v_ofParam
              rw [sg_gw_e _ _ _ _ (sg_Rg _ _ _)]
            · rw [e62]
              unfold v_ofParam
              rw [sg_gw_k _ _ _ _ _ _ (by omega)]
              exact i2 i (by omega)
        · rintro σ3 f3 ⟨i1, i2⟩
          refine ⟨⟨by omega, by omega⟩, fun σ43 e43 σ46 e46 => ⟨⟨by omega, by omega⟩, ?_⟩⟩
          rw [show sg_g σ9 105 (B n) = x.2.2.2 by rw [← ebd]; exact hx3]
          have F46 : sg_F [127, 131, 134, 71088] σ9 σ46 := by rw [e46, e43]; exact sg_F_w (sg_F_w (sg_F_m f3 rfl) rfl _) rfl _
          have ex : nEx σ9 σ46 := nEx_F F46 rfl
          have g134 : ∀ b', sg_g σ46 134 b' = sg_g σ3 134 b' := fun b' => by rw [e46, sg_gw_c _ _ _ _ _ _ (by decide), e43, sg_gw_c _ _ _ _ _ _ (by decide)]
          refine ev_st (A := A) (D := D) (T := T) (B := B) (r := r) (σ := σ9) (m := m) (s' := s + 1) (tys := []) F46 (fun b' => ?_) (fun i hi => ?_) ?_ hC h1 (by rw [eb]; exact h3) ?_ ?_ (fun i y hy => by cases hy) (by rw [en]; exact h6) ?_ (by rw [en]; intro z; exact absurd z k15) (by rw [en, eb]; exact h8) ?_ hA k
          · rw [g134]
            rcases i1 b' with z | ⟨i, z1, z2, z3⟩
            · exact Or.inl z
            · right
              rw [z3, z2]
              exact vU_up ex (vv i z1)
          · rw [e46, sg_gw_c _ _ _ _ _ _ (by decide), e43, sg_gw_k _ _ _ _ _ _ hi, sg_F_ga f3 rfl]
          · rw [e46, sg_gw_c _ _ _ _ _ _ (by decide), e43, sg_gw_e _ _ _ _ ⟨by omega, by omega⟩]
          · rw [e46, sg_gw_e _ _ _ _ ⟨by omega, by omega⟩, eb]; simp
          · rw [e46, sg_gw_e _ _ _ _ ⟨by omega, by omega⟩]; omega
          · rw [en]
            unfold fS
            rw [if_neg (by omega), if_neg k3, if_neg k15]
            exact Or.inr ⟨k13, by omega, by rw [← g1]; rfl⟩
          · refine fO_d (hDf _ x dx) dx (by omega) l6 (fun i y hy => ?_)
            have hi : i < x.2.2.1.length := by
              rcases Nat.lt_or_ge i x.2.2.1.length with q | q
              · exact q
              · rw [List.getElem?_eq_none q] at hy; cases hy
            have := vv i (by omega)
            rw [← ebd, bTy_p dx hy (by omega)] at this
            rw [ebd, g134, i2 i (by omega)]
            exact vU_up ex this
    · unfold fS at h7
      by_cases z2 : A.2.1 n = 2
      · rw [if_pos z2] at h7
        obtain ⟨a, d, ea, q⟩ := h7
        obtain ⟨l1, l2⟩ := fO_let h6 hA z2 ea
        rw [ea] at c
        simp only [List.length_cons, List.length_nil] at c
        rcases q with q | q | q
        · obtain ⟨q1, q2⟩ := q
          rcases p9 with ⟨-, p, -⟩ | ⟨-, p⟩
          · omega
          subst p
          refine ev_part (A := A) (D := D) (T := T) (B := B) (r := r) (x := a) (tys := []) (sg_F_r _ _) bo hP hC en h1 (by rw [eb]; exact h3) (by rw [eb, h4, q2]) (Int.le_refl _) (fun i y hy => by cases hy) h6 (by omega) ?_ (fun z => absurd z k15) (by rw [eb]; exact h8) l1 ⟨by omega, by rw [ea, q1]; rfl⟩ hA k
          rw [es, q1]
          unfold fS
          rw [if_pos z2]
          exact ⟨a, d, ea, Or.inr (Or.inl ⟨rfl, rfl⟩)⟩
        · obtain ⟨q1, q2⟩ := q
          rcases p9 with ⟨-, -, p⟩ | ⟨p, -⟩
          rotate_left
          · exact absurd ⟨z2, q1⟩ p
          rw [q2] at h5 h4
          simp only [List.length_cons, List.length_nil] at h4
          have u := vS_0 h5
          have v1 : sg_g σ 88 70 - 1 = b := by omega
          rw [v1] at p
          have F9 : sg_F [134, 71088] σ σ9 := f9
          have ex : nEx σ σ9 := nEx_F F9 rfl
          have u9 : vU σ9 (T a).toNat (sg_g σ9 134 n) := by
            rw [p, sg_gw_e _ _ _ _ (sg_Rg _ _ _), ← p]
            exact vU_up ex u
          have bo9 : bOk A D T σ σ9 := fun b' => by
            by_cases e : b' = n
            · right
              rw [e, bTy_l ea (by omega)]
              exact u9
            · left
              rw [p, sg_gw_k _ _ _ _ _ _ e, sg_gw_c _ _ _ _ _ _ (by decide)]
          have v9 : sg_g σ9 88 70 = b := by rw [p, sg_gw_c _ _ _ _ _ _ (by decide), sg_gw_e _ _ _ _ ⟨by omega, by omega⟩]
          refine ev_part (A := A) (D := D) (T := T) (B := B) (r := r) (x := d) (tys := []) F9 bo9 hP hC en h1 (by rw [eb]; exact h3) (by rw [eb, v9]; simp) (by omega) (fun i y hy => by cases hy) h6 (by omega) ?_ (fun z => absurd z k15) (by rw [eb]; exact h8) (l2 σ9 ex bo9 u9) ⟨by omega, by rw [ea, q1]; rfl⟩ hA k
          rw [es, q1]
          unfold fS
          rw [if_pos z2]
          exact ⟨a, d, ea, Or.inr (Or.inr ⟨rfl, rfl⟩)⟩
        · omega
      · rcases p9 with ⟨p, -, -⟩ | ⟨-, p⟩
        · exact absurd p z2
        subst p
        rw [if_neg z2, if_neg k3, if_neg k15] at h7
        rcases h7 with ⟨i, i1, i2, i3⟩ | q
        · have hi : i < (A.2.2.2.2.1 n).length := by omega
          have e1 : (A.2.2.2.2.1 n)[i]? = some ((A.2.2.2.2.1 n)[i]'hi) := List.getElem?_eq_getElem hi
          have hx := o3 z2 k15 _ (List.getElem_mem hi)
          refine ev_part (A := A) (D := D) (T := T) (B := B) (r := r) (x := (A.2.2.2.2.1 n)[i]'hi) (tys := ty) (sg_F_r _ _) bo hP hC en h1 (by rw [eb]; exact h3) (by rw [eb]; exact h4) (Int.le_refl _) (by rw [eb]; exact h5) h6 (by omega) ?_ (fun z => absurd z k15) (by rw [eb]; exact h8) hx ⟨by omega, by rw [i2]; exact e1⟩ hA k
          unfold fS
          rw [if_neg z2, if_neg k3, if_neg k15]
          exact Or.inl ⟨i + 1, by omega, by omega, by rw [take_x e1, i3]⟩
        · omega
  · unfold fS at h7
    rw [if_neg (by omega), if_pos k3] at h7
    obtain ⟨a, d, e, ea, q⟩ := h7
    obtain ⟨j, g, -⟩ := o2 (by omega)
    rw [kTy_3 k3, ea] at g
    obtain ⟨g1, g2, g3⟩ := kIs_in g
    simp only [List.map_cons, List.map_nil, List.getD_cons_succ, List.getD_cons_zero, Bool.and_eq_true, decide_eq_true_eq] at g1 g3
    have kids := o3 (by omega) k15
    rw [ea] at kids
    have fs2 : ∀ x, T x = T n → fS A D T σ n (1 + 1) (sg_g σ 130 m) (sg_g σ 128 m) ([] ++ [T x]) := fun x hx => by
      unfold fS
      rw [if_neg (by omega), if_pos k3]
      exact ⟨a, d, e, ea, Or.inr (Or.inr ⟨rfl, by rw [hx]; rfl⟩)⟩
    refine ⟨fun c => ⟨fun σ9 => σ9 = σ, ⟨fun _ => rfl, fun z => by omega⟩, fun σ9 f9 p9 => ⟨fun c2 => ?_, fun c2 => ?_⟩⟩, fun c => ⟨fun c1 => ?_, fun c1 => ?_⟩⟩
    · rw [ea] at c2
      simp only [List.length_cons, List.length_nil] at c2
      omega
    · subst p9
      have q0 : s = 0 ∧ ty = [] := by rcases q with q | q | q <;> (first | exact q | omega)
      refine ev_part (A := A) (D := D) (T := T) (B := B) (r := r) (x := a) (tys := []) (sg_F_r _ _) bo hP hC en h1 (by rw [eb]; exact h3) (by rw [eb, h4, q0.2]) (Int.le_refl _) (fun i y hy => by cases hy) h6 (by omega) ?_ (fun z => absurd z k15) (by rw [eb]; exact h8) (kids a (by simp)) ⟨by omega, by rw [ea, q0.1]; rfl⟩ hA k
      rw [es, q0.1]
      unfold fS
      rw [if_neg (by omega), if_pos k3]
      exact ⟨a, d, e, ea, Or.inr (Or.inl ⟨rfl, rfl⟩)⟩
    · have q0 : ty = [T n] := by
        rcases q with q | q | q
        · omega
        · omega
        · exact q.2
      rw [q0] at h5
      have u := vS_0 h5
      rw [← en] at u
      exact ⟨⟨h3, by omega⟩, ev_v hh hC hA (sg_Rg _ _ _) u (by rw [en, t1, k3]; rfl) (by rw [en, t1, k3]; decide) k⟩
    · have q0 : ty = [T a] := by
        rcases q with q | q | q
        · omega
        · exact q.2
        · omega
      rw [q0] at h4
      simp only [List.length_cons, List.length_nil] at h4
      refine ⟨⟨by omega, by omega⟩, fun σ168 e168 => ⟨⟨by omega, by omega⟩, fun v ev rv => ?_⟩⟩
      have F9 : sg_F [134, 71088] σ σ168 := by rw [e168]; exact sg_F_w (sg_F_r _ _) rfl _
      have bo9 : bOk A D T σ σ168 := fun b' => Or.inl (by rw [e168, sg_gw_c _ _ _ _ _ _ (by decide)])
      have ex : nEx σ σ168 := nEx_F F9 rfl
      have v9 : sg_g σ168 88 70 = b := by rw [e168, sg_gw_e _ _ _ _ ⟨by omega, by omega⟩]; omega
      have go : ∀ x, T x = T n → x ∈ [a, d, e] → (0 ≤ v ∧ [a, d, e][v.toNat]? = some x) → V_goPart σ168 m v (fun σ178 => sg_F [126, 127, 128, 129, 130, 131, 132, 55088, 63088, 74088] σ168 σ178 → Q σ178) := fun x hx hm hp =>
        ev_part (A := A) (D := D) (T := T) (B := B) (r := r) (x := x) (tys := []) F9 bo9 hP hC en h1 (by rw [eb]; exact h3) (by rw [eb, v9]; simp) (by omega) (fun i y hy => by cases hy) h6 (by omega) (by rw [es, c1]; exact fs2 x hx) (fun z => absurd z k15) (by rw [eb]; exact h8) (fO_up ex bo9 (kids x hm)) (by rw [ea]; exact hp) hA k
      by_cases z : sg_g σ 133 (sg_g σ 88 70 - 1) = 0
      · rw [if_pos z] at ev
        exact go e (by rw [g1, g3.2]) (by simp) ⟨by omega, by rw [ev]; rfl⟩
      · rw [if_neg z] at ev
        exact go d (by rw [g1]) (by simp) ⟨by omega, by rw [ev]; rfl⟩
end NGO
