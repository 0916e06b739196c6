/-! flat, perm, part of nested runs of the reference, exactly; all ACTS. -/
section ACY
variable {σ : sg_S} {n a b : Int} {k : Nat} {u v : vaF} {Q : Int → sg_S → Prop}
theorem x_flat (h0 : sg_g σ 88 73 = 0) (hB : nB σ) (hn : 0 ≤ n ∧ n < 210) (hk : k ≤ 1) (hT : sg_g σ 101 n = ((k + 1 : Nat) : Int)) (ha : rvF σ (k + 2) v a) (h : aX σ (k + 1) Q (if sumF ((itF v).map (fun v => ((itF v).length : Int))) ≤ 200 then .inr (mkF ((itF v).map itF).flatten, cnL k ((itF v).map itF).flatten) else .inl 5)) : V_flattened σ n a Q := by
  obtain ⟨n1, n2⟩ := nB_9 hB
  obtain ⟨r1, r2, r3, r4⟩ := rv_x n1 ha
  have it : ∀ (i : Nat) (z : vaF), (itF v)[i]? = some z → p_itemAt σ a (i : Int) ∧ (0 ≤ v_itemAt σ a (i : Int) ∧ v_itemAt σ a (i : Int) < 9000) ∧ sg_g σ 123 (v_itemAt σ a (i : Int)) = (itF z).length ∧ (itF z).length ≤ 200 ∧ rvF σ (k + 1) z (v_itemAt σ a (i : Int)) := fun i z hz => by
    have q := rv_it n1 n2 ha hz
    obtain ⟨p1, p2, p3, p4⟩ := rv_x n1 q.2
    exact ⟨q.1, p1, p2, p3, q.2⟩
  have sm : ∀ i : Nat, i ≤ (itF v).length → 0 ≤ sumF (((itF v).take i).map (fun v => ((itF v).length : Int))) ∧ sumF (((itF v).take i).map (fun v => ((itF v).length : Int))) ≤ 200 * i := fun i => by
    induction i with
    | zero => intro _; simp [sumF]
    | succ i ih =>
      intro hi
      obtain ⟨z, hz⟩ := gE_x (l := itF v) (i := i) (by omega)
      have a := ih (by omega)
      have b := (it i z hz).2.2.2.1
      rw [tkF_1 hz, List.map_append, sumF_a]
      simp only [List.map_cons, List.map_nil, sumF]
      omega
  unfold V_flattened
  rw [r2]
  refine ⟨fun m v1 v2 => ∃ i : Nat, v2 = i ∧ m = (itF v).length - i ∧ i ≤ (itF v).length ∧ v1 = sumF (((itF v).take i).map (fun v => ((itF v).length : Int))), fun v1 => v1 = sumF ((itF v).map (fun v => ((itF v).length : Int))), ⟨_, 0, rfl, rfl, Nat.zero_le _, rfl⟩, ?_, ?_⟩
  · rintro m v1 v2 r1' r2' ⟨i, rfl, em, hi, e1⟩
    have sb := sm i hi
    refine ⟨r1, fun c => ?_, fun c => ?_⟩
    · have : (itF v).take i = itF v := List.take_of_length_le (by omega)
      rw [this] at e1; exact e1
    · obtain ⟨z, hz⟩ := gE_x (l := itF v) (i := i) (by omega)
      obtain ⟨p1, p2, p3, p4, p5⟩ := it i z hz
      rw [p3]
      refine ⟨p1, p2, ⟨by omega, by omega⟩, ⟨by omega, by omega⟩, (itF v).length - (i + 1), by omega, i + 1, by omega, rfl, by omega, ?_⟩
      rw [tkF_1 hz, List.map_append, sumF_a, e1]
      simp only [List.map_cons, List.map_nil, sumF]
      omega
  · rintro v1 r1' rfl
    have s1 := sm (itF v).length (Nat.le_refl _)
    rw [List.take_length] at s1
    refine ⟨fun c => ?_, fun c => ?_⟩
    · rw [if_pos c] at h
      have fl := fl_l (itF v)
      have sub : ∀ i : Nat, (((itF v).take i).map itF).flatten.length ≤ 200 := fun i => by
        have e2 := List.take_append_drop i (itF v)
        have e3 : ((itF v).map itF).flatten.length = (((itF v).take i).map itF).flatten.length + (((itF v).drop i).map itF).flatten.length := by
          rw [← List.length_append, ← List.flatten_append, ← List.map_append, e2]
        omega
      refine ⟨fun m v19 σ20 => ∃ i : Nat, v19 = i ∧ m = (itF v).length - i ∧ i ≤ (itF v).length ∧ nAX σ σ20 k (((itF v).take i).map itF).flatten, fun σ20 => nAX σ σ20 k ((itF v).map itF).flatten, ⟨_, 0, rfl, rfl, Nat.zero_le _, nAX_0 σ k⟩, ?_, fun σ3 f3 h3 => ⟨hn, m_seqY hB (by omega) (sg_F_m f3 rfl) h3 (by omega) hT (by omega) h⟩⟩
      rintro m v19 σ20 r19 f20 ⟨i, rfl, em, hi, hA⟩
      refine ⟨r1, fun z => ?_, fun z => ?_⟩
      · have : (itF v).take i = itF v := List.take_of_length_le (by omega)
        rw [this] at hA; exact hA
      · obtain ⟨w, hw⟩ := gE_x (l := itF v) (i := i) (by omega)
        obtain ⟨p1, p2, p3, p4, p5⟩ := it i w hw
        have sbi := sub i
        have sbi1 := sub (i + 1)
        have t := mX_it hB (by omega) hA ha hw
        have ev : v_itemAt σ20 a (i : Int) = v_itemAt σ a (i : Int) := by
          have e := nAX_s hA ha
          unfold v_itemAt
          rw [e.2]
          have a2 := ha.2.2.1
          exact hA.1.2.2 _ (by omega) (by omega)
        have hl : (((itF v).take (i + 1)).map itF).flatten = (((itF v).take i).map itF).flatten ++ itF w := by
          rw [tkF_1 hw, List.map_append, List.flatten_append]; simp
        rw [hl, List.length_append] at sbi1
        rw [ev] at t ⊢
        rw [p3]
        refine ⟨t.1, fun m2 v45 σ46 => ∃ j : Nat, v45 = j ∧ m2 = (itF w).length - j ∧ j ≤ (itF w).length ∧ nAX σ σ46 k ((((itF v).take i).map itF).flatten ++ (itF w).take j), fun σ46 => nAX σ σ46 k ((((itF v).take i).map itF).flatten ++ itF w), ⟨_, 0, rfl, rfl, Nat.zero_le _, by rw [List.take_zero, List.append_nil]; exact hA⟩, ?_, fun σ46 f46 h46 => ⟨⟨by omega, by omega⟩, (itF v).length - (i + 1), by omega, i + 1, by omega, rfl, by omega, by rw [hl]; exact h46⟩⟩
        rintro m2 v45 σ46 r45 f46 ⟨j, rfl, em2, hj, hA2⟩
        have la : ((((itF v).take i).map itF).flatten ++ (itF w).take j).length < 400 := by rw [List.length_append, List.length_take]; omega
        refine ⟨p2, fun y => ?_, fun y => ?_⟩
        · have : (itF w).take j = itF w := List.take_of_length_le (by omega)
          rw [this] at hA2; exact hA2
        · obtain ⟨z', hz'⟩ := gE_x (l := itF w) (i := j) (by omega)
          have q := mX_it hB la hA2 p5 hz'
          refine ⟨q.1, m_addX (u := z') hB la hA2 (sg_Rg _ _ _) q.2 (fun σ' x1 _ x2 _ => ⟨⟨by omega, by omega⟩, (itF w).length - (j + 1), by omega, j + 1, by omega, rfl, by omega, ?_⟩)⟩
          rw [tkF_1 hz', ← List.append_assoc]; exact x1
    · rw [if_neg (by omega)] at h
      exact aX_f h0 h (by decide)
theorem x_order {fr : Int} {m : Nat} {nu : List Int} {Q : Int → sg_S → Prop} (hn : nu.length = m) (h200 : m ≤ 200) (hf : 0 ≤ fr) (hfm : fr + m ≤ 12000) (h125 : ∀ (i : Nat) (z : Int), nu[i]? = some z → sg_g σ 125 (fr + i) = z) (k0 : ivF m 0 nu (fun _ => -1) = none → ∀ σ', sg_F [135] σ σ' → Q 0 σ') (k1 : ∀ g, ivF m 0 nu (fun _ => -1) = some g → ∀ σ', sg_F [135] σ σ' → (∀ p, 0 ≤ p → p < m → sg_g σ' 135 p = g p) → Q 1 σ') : V_isOrder σ fr (m : Int) 1 Q := by
  unfold V_isOrder
  refine ⟨fun q v σ2 => ∃ i : Nat, v = i ∧ q = m - i ∧ i ≤ m ∧ ∀ p, 0 ≤ p → p < (i : Int) → sg_g σ2 135 p = -1, fun σ2 => ∀ p, 0 ≤ p → p < (m : Int) → sg_g σ2 135 p = -1, ⟨_, 0, rfl, rfl, Nat.zero_le _, fun p a b => by omega⟩, ?_, ?_⟩
  · rintro q v σ2 rv f2 ⟨i, rfl, em, hi, hp⟩
    refine ⟨fun c p x y => hp p x (by omega), fun c => ⟨⟨by omega, by omega⟩, fun σ66 e66 => ⟨⟨by omega, by omega⟩, m - (i + 1), by omega, i + 1, by omega, rfl, by omega, fun p x y => ?_⟩⟩⟩
    by_cases e : p = i
    · rw [e, e66, sg_gw_e _ _ _ _ (by decide)]
    · rw [e66, sg_gw_k _ _ _ _ _ _ e]; exact hp p x (by omega)
  · intro σ2 f2 h2
    refine ⟨fun q is v σ18 => ∃ i : Nat, v = i ∧ q = m - i ∧ i ≤ m ∧ ((is = 0 ∧ ivF m 0 nu (fun _ => -1) = none) ∨ (is = 1 ∧ ∃ g : Int → Int, ivF m i (nu.drop i) g = ivF m 0 nu (fun _ => -1) ∧ (∀ p, 0 ≤ p → p < (m : Int) → sg_g σ18 135 p = g p))), fun is σ18 => (is = 0 ∧ ivF m 0 nu (fun _ => -1) = none) ∨ (is = 1 ∧ ∃ g : Int → Int, ivF m 0 nu (fun _ => -1) = some g ∧ ∀ p, 0 ≤ p → p < (m : Int) → sg_g σ18 135 p = g p), ⟨_, 0, rfl, rfl, Nat.zero_le _, Or.inr ⟨rfl, fun _ => -1, rfl, fun p a b => h2 p a b⟩⟩, ?_, ?_⟩
    · rintro q is v σ18 ris rv f18 ⟨i, rfl, em, hi, hh⟩
      have fin : (m : Int) ≤ i → (is = 0 ∧ ivF m 0 nu (fun _ => -1) = none) ∨ (is = 1 ∧ ∃ g : Int → Int, ivF m 0 nu (fun _ => -1) = some g ∧ ∀ p, 0 ≤ p → p < (m : Int) → sg_g σ18 135 p = g p) := fun c => by
        rcases hh with z | ⟨z, g, z1, z2⟩
        · exact Or.inl z
        · rw [List.drop_of_length_le (by omega)] at z1
          exact Or.inr ⟨z, g, z1.symm, z2⟩
      refine ⟨fin, fun c => ⟨fun z => ?_, fun z => ?_⟩⟩
      · rcases hh with y | ⟨y, -⟩
        · exact Or.inl y
        · omega
      · rcases hh with ⟨y, -⟩ | ⟨y, g, g1, g2⟩
        · exact absurd y z
        obtain ⟨w, hw⟩ := gE_x (l := nu) (i := i) (by omega)
        have e125 := h125 i w hw
        rw [dr_c hw] at g1
        simp only [ivF] at g1
        refine ⟨⟨fun w' => absurd w' (by decide), fun _ => ⟨⟨by omega, by omega⟩, ⟨by omega, by omega⟩, trivial⟩⟩, fun v37 e37 r37 => ?_⟩
        rw [if_neg (by decide), e125] at e37
        subst e37
        refine ⟨⟨by omega, by omega⟩, ⟨fun _ => trivial, fun w' => ?_⟩, fun v43 e43 r43 => ?_⟩
        · have w2 : 0 ≤ v37 ∧ v37 ≤ (m : Int) - 1 := Decidable.byContradiction (fun u => w' (v_in_n.mpr u))
          exact ⟨⟨w2.1, by omega⟩, fun _ => trivial, fun _ => trivial⟩
        · by_cases w' : v_in v37 0 ((m : Int) - 1) = 0
          · rw [if_pos w'] at e43
            have nw := v_in_n.mp w'
            refine ⟨fun _ => True, ⟨fun _ => trivial, fun u => absurd e43 u⟩, fun σ49 f49 _ => ⟨⟨by omega, by omega⟩, m - (i + 1), by omega, i + 1, by omega, rfl, by omega, Or.inl ⟨e43, by rw [← g1, if_neg (by omega)]⟩⟩⟩
          · have w2 : 0 ≤ v37 ∧ v37 ≤ (m : Int) - 1 := Decidable.byContradiction (fun u => w' (v_in_n.mpr u))
            rw [if_neg w'] at e43
            have gv := g2 v37 w2.1 (by omega)
            by_cases u : sg_g σ18 135 v37 = -1
            · rw [if_neg (fun t => t u)] at e43
              rw [gv] at u
              refine ⟨fun σ49 => ∀ p, 0 ≤ p → p < (m : Int) → sg_g σ49 135 p = (if p = v37 then (i : Int) else g p), ⟨fun t => absurd t (by omega), fun _ => ⟨⟨w2.1, by omega⟩, fun σ55 e55 p p0 p1 => ?_⟩⟩, fun σ49 f49 h49 => ⟨⟨by omega, by omega⟩, m - (i + 1), by omega, i + 1, by omega, rfl, by omega, Or.inr ⟨e43, fun y => if y = v37 then (i : Int) else g y, by rw [← g1, if_pos ⟨w2.1, by omega, u⟩], h49⟩⟩⟩
              by_cases cp : p = v37
              · rw [if_pos cp, cp, e55, sg_gw_e _ _ _ _ rv]
              · rw [if_neg cp, e55, sg_gw_k _ _ _ _ _ _ cp]; exact g2 p p0 p1
            · rw [if_pos u] at e43
              rw [gv] at u
              refine ⟨fun _ => True, ⟨fun _ => trivial, fun t => absurd e43 t⟩, fun σ49 f49 _ => ⟨⟨by omega, by omega⟩, m - (i + 1), by omega, i + 1, by omega, rfl, by omega, Or.inl ⟨e43, by rw [← g1, if_neg (fun t => u t.2.2)]⟩⟩⟩
    · rintro is σ18 ris f18 (⟨z, hz⟩ | ⟨z, g, hg, hz⟩)
      · rw [z]; exact ⟨Or.inl rfl, k0 hz σ18 (sg_F_t f2 f18)⟩
      · rw [z]; exact ⟨Or.inr rfl, k1 g hg σ18 (sg_F_t f2 f18) (fun p a b => hz p (by omega) (by omega))⟩
theorem x_perm (h0 : sg_g σ 88 73 = 0) (hB : nB σ) (hn : 0 ≤ n ∧ n < 210) (hk : k ≤ 2) (hT : sg_g σ 101 n = ((k + 1 : Nat) : Int)) (ha : rvF σ (k + 1) v a) (hb : rvF σ 1 u b) (h : aX σ (k + 1) Q (if (itF v).length = (itF u).length then (match ivF (itF u).length 0 (nuF u) (fun _ => -1) with
    | none => .inl 6
    | some g => .inr (mkF ((List.range (itF v).length).map (fun i : Nat => (itF v).getD (g i).toNat (nmF 0))), cnL k ((List.range (itF v).length).map (fun i : Nat => (itF v).getD (g i).toNat (nmF 0))))) else .inl 3)) : V_permuted σ n a b Q := by
  obtain ⟨n1, n2⟩ := nB_9 hB
  obtain ⟨r1, r2, r3, r4⟩ := rv_x n1 ha
  obtain ⟨s1, s2, s3, s4⟩ := rv_x n1 hb
  have hb2 := hb.2.2.1
  have hB2 := hB.2
  have lu := nu_l u
  unfold V_permuted
  rw [r2, s2]
  refine ⟨r1, s1, fun c => ?_, fun c => ?_⟩
  · have zl : (itF v).length = (itF u).length := by omega
    rw [if_pos zl] at h
    refine x_order (nu := nuF u) lu s3 hb2.1 (by omega) (fun i z hz => ?_) (fun e σ5 f5 _ _ => ⟨fun z => absurd rfl z, fun _ => ?_⟩) (fun g e σ5 f5 hg _ _ => ⟨fun _ => ?_, fun z => absurd z (by decide)⟩)
    · have hi := gE_l hz
      obtain ⟨q1, q2⟩ := rx_nu n1 n2 hb (i := i) (by omega)
      rw [q1] at hz
      exact Option.some.inj hz
    · rw [e] at h
      exact m_endsX (by rw [sg_F_g f5 (by rfl)]; exact h0) (by decide) (fun σ' x1 x2 _ => h 0 σ' x1 (sg_F_t (sg_F_m f5 rfl) (sg_F_m x2 rfl)))
    · rw [e] at h
      have n5 : nAX σ σ5 k [] := ⟨nEx_F f5 rfl, sg_F_g f5 rfl, by rw [sg_F_g f5 (by rfl)]; simp, fun i w hw => by simp at hw⟩
      refine ⟨fun m v11 σ12 => ∃ i : Nat, v11 = i ∧ m = (itF v).length - i ∧ i ≤ (itF v).length ∧ nAX σ σ12 k ((List.range i).map (fun i : Nat => (itF v).getD (g i).toNat (nmF 0))), fun σ12 => nAX σ σ12 k ((List.range (itF v).length).map (fun i : Nat => (itF v).getD (g i).toNat (nmF 0))), ⟨_, 0, rfl, rfl, Nat.zero_le _, n5⟩, ?_, fun σ3 f3 h3 => ⟨hn, m_seqY hB (by rw [List.length_map, List.length_range]; omega) (sg_F_t (sg_F_m f5 rfl) (sg_F_m f3 rfl)) h3 (by rw [List.length_map, List.length_range]) hT hk h⟩⟩
      rintro m v11 σ12 r11 f12 ⟨i, rfl, em, hi, hA⟩
      have l4 : ((List.range i).map (fun i : Nat => (itF v).getD (g i).toNat (nmF 0))).length < 400 := by rw [List.length_map, List.length_range]; omega
      refine ⟨fun z => ?_, fun z => ?_⟩
      · rw [show (itF v).length = i by omega]; exact hA
      · have gi := iv_all lu e (p := (i : Int)) ⟨by omega, by omega⟩
        obtain ⟨w, hw⟩ := gE_x (l := itF v) (i := (g i).toNat) (by omega)
        have q := mX_it hB l4 hA ha hw
        rw [show (((g i).toNat : Nat) : Int) = g i by omega] at q
        rw [hg i (by omega) (by omega)]
        refine ⟨⟨by omega, by omega⟩, q.1, m_addX (u := w) hB l4 hA (sg_Rg _ _ _) q.2 (fun σ' x1 _ x2 _ => ⟨⟨by omega, by omega⟩, (itF v).length - (i + 1), by omega, i + 1, by omega, rfl, by omega, ?_⟩)⟩
        rw [List.range_succ, List.map_append]
        simp only [List.map_cons, List.map_nil]
        rw [List.getD_eq_getElem?_getD (l := itF v) (i := (g i).toNat), hw, Option.getD_some]
        exact x1
  · rw [if_neg (by omega)] at h
    exact aX_f h0 h (by decide)
theorem x_part (h0 : sg_g σ 88 73 = 0) (hB : (0 ≤ sg_g σ 88 56 ∧ sg_g σ 88 56 ≤ 3000) ∧ 0 ≤ sg_g σ 88 60 ∧ sg_g σ 88 60 ≤ 3000) (hn : 0 ≤ n ∧ n < 210) (hk : k ≤ 1) (hT : sg_g σ 101 n = ((k + 2 : Nat) : Int)) (ha : rvF σ (k + 1) v a) (hb : rvF σ 1 u b) (h : aX σ (k + 2) Q (if (nuF u).any (fun x => decide (x < 0)) = true then .inl 5 else if sumF (nuF u) = (itF v).length then .inr (mkF (ptF (itF v) (nuF u)), cnL (k + 1) (ptF (itF v) (nuF u))) else .inl 3)) : V_parted σ n a b Q := by
  have hB' : nB σ := by unfold nB; omega
  obtain ⟨n1, n2⟩ := nB_9 hB'
  obtain ⟨r1, r2, r3, r4⟩ := rv_x n1 ha
  obtain ⟨s1, s2, s3, s4⟩ := rv_x n1 hb
  have ha2 := ha.2.2.1
  have hb2 := hb.2.2.1
  have lu := nu_l u
  unfold V_parted
  rw [r2, s2]
  refine ⟨fun m v1 v2 σ3 => ∃ i : Nat, v2 = i ∧ m = (itF u).length - i ∧ i ≤ (itF u).length ∧ v1 = sumF ((nuF u).take i) ∧ (∀ q ∈ (nuF u).take i, 0 ≤ q) ∧ v1 ≤ i * 2147483647 ∧ σ3 = σ, fun v1 σ3 => v1 = sumF (nuF u) ∧ (∀ q ∈ nuF u, 0 ≤ q) ∧ σ3 = σ, ⟨_, 0, rfl, rfl, Nat.zero_le _, rfl, fun q hq => by simp at hq, by omega, rfl⟩, ?_, ?_⟩
  · rintro m v1 v2 σ3 r1' r2' f3 ⟨i, rfl, em, hi, e1, hl, hv, rfl⟩
    refine ⟨s1, fun c => ?_, fun c => ?_⟩
    · have et : (nuF u).take i = nuF u := List.take_of_length_le (by omega)
      rw [et] at e1 hl
      exact ⟨e1, hl, rfl⟩
    · obtain ⟨q1, q2⟩ := rx_nu n1 n2 hb (i := i) (by omega)
      have rr : sg_R (v_itemAt σ3 b (i : Int)) := sg_Rg _ _ _
      have rr2 := rr.2
      have s0 := sm_0 _ hl
      refine ⟨q2, fun z => ⟨q2, ⟨by omega, by omega⟩, ⟨by omega, by omega⟩, (itF u).length - (i + 1), by omega, i + 1, by omega, rfl, by omega, ?_, fun q hq => ?_, by omega, rfl⟩, fun z => ?_⟩
      · rw [tkF_1 q1, sumF_a, e1]; simp [sumF]
      · rw [tkF_1 q1] at hq
        rcases List.mem_append.mp hq with y | y
        · exact hl q y
        · simp at y; rw [y]; exact z
      · rw [if_pos (List.any_eq_true.mpr ⟨_, List.mem_of_getElem? q1, by simpa using z⟩)] at h
        exact m_endsX h0 (by decide) (fun σ' x1 x2 _ => h 0 σ' x1 (sg_F_m x2 rfl))
  · rintro v1 σ3 r1' f3 ⟨e1, hl, rfl⟩
    have na : ¬ (nuF u).any (fun x => decide (x < 0)) = true := fun z => by
      obtain ⟨q, hm, hd⟩ := List.any_eq_true.mp z
      have := hl q hm
      simp at hd
      omega
    rw [if_neg na] at h
    refine ⟨r1, fun c => ?_, fun c => ?_⟩
    · have hs : sumF (nuF u) = (itF v).length := by rw [← e1]; exact c
      rw [if_pos hs] at h
      have pcn := pt_cn k (nuF u) (itF v) hl hs
      have plen := ptF_l (itF v) (nuF u)
      have itb : ∀ σ22, nEx σ3 σ22 → sg_g σ22 88 56 ≤ 9000 → sg_g σ22 88 60 ≤ 12000 → ∀ i : Nat, i < (itF u).length → (nuF u)[i]? = some (v_itemAt σ22 b (i : Int)) ∧ p_itemAt σ22 b (i : Int) := fun σ22 x y1 y2 i hi => rx_nu y1 y2 (rvF_up x hb) hi
      have s123 : ∀ σ22, nEx σ3 σ22 → sg_g σ22 123 b = (itF u).length := fun σ22 x => by rw [(x.2.1 b hb.1.1 hb.1.2).2.1]; exact s2
      refine ⟨fun m v20 v21 σ22 => ∃ i : Nat, v21 = i ∧ m = (itF u).length - i ∧ i ≤ (itF u).length ∧ v20 = sg_g σ3 122 a + sumF ((nuF u).take i) ∧ nEx σ3 σ22 ∧ sg_g σ22 88 56 = sg_g σ3 88 56 + i ∧ sg_g σ22 88 60 = sg_g σ3 88 60 ∧ ∀ (l : Nat) (z : vaF), l < i → (ptF (itF v) (nuF u))[l]? = some z → rvF σ22 (k + 1) z (sg_g σ3 88 56 + l), fun σ22 => nEx σ3 σ22 ∧ sg_g σ22 88 56 = sg_g σ3 88 56 + (itF u).length ∧ sg_g σ22 88 60 = sg_g σ3 88 60 ∧ ∀ (l : Nat) (z : vaF), (ptF (itF v) (nuF u))[l]? = some z → rvF σ22 (k + 1) z (sg_g σ3 88 56 + l), ⟨_, 0, rfl, rfl, Nat.zero_le _, by simp [sumF], nEx_r _, by omega, rfl, fun l z hz => by omega⟩, ?_, ?_⟩
      · rintro m v20 v21 σ22 r20 r21 f22 ⟨i, rfl, em, hi, e20, x1, x2, x3, x4⟩
        rw [s123 σ22 x1]
        refine ⟨s1, fun z => ?_, fun z => ?_⟩
        · have ei : i = (itF u).length := by omega
          rw [ei] at x2
          exact ⟨x1, x2, x3, fun l z' hz => x4 l z' (by have := gE_l hz; omega) hz⟩
        · obtain ⟨q1, q2⟩ := itb σ22 x1 (by omega) (by omega) i (by omega)
          have v0 := hl _ (List.mem_of_getElem? q1)
          have st := sm_t hl i
          have st1 := sm_t hl (i + 1)
          rw [tkF_1 q1, sumF_a] at st1
          simp only [sumF] at st1
          generalize hc : v_itemAt σ22 b (i : Int) = w at *
          generalize hfr : sumF ((nuF u).take i) = fr at *
          have ll : (((itF v).drop fr.toNat).take w.toNat).length = w.toNat := by rw [List.length_take, List.length_drop]; omega
          refine ⟨q2, hn, ⟨by omega, by omega⟩, m_seqX (k := k) (L := ((itF v).drop fr.toNat).take w.toNat) (by omega) (by omega) (by omega) (by omega) (by omega) (by omega) (by omega) (by omega) (fun l z' hz => ?_) (fun σ' y1 y2 y3 y4 y5 _ _ => ?_)⟩
          · have hl' := gE_l hz
            rw [List.getElem?_take, if_pos (by omega), List.getElem?_drop] at hz
            have t := ha.2.2.2.2 (fr.toNat + l) z' hz
            rw [e20, show sg_g σ3 122 a + fr + (l : Int) = sg_g σ3 122 a + ((fr.toNat + l : Nat) : Int) by omega, x1.2.2 _ (by omega) (by omega)]
            exact rvF_up x1 t
          · have x1' := nEx_t x1 y1
            obtain ⟨q1', q2'⟩ := itb σ' x1' (by omega) (by omega) i (by omega)
            have ew : v_itemAt σ' b (i : Int) = w := by rw [q1] at q1'; exact (Option.some.inj q1').symm
            rw [ew]
            refine ⟨q2', ⟨by omega, by omega⟩, ⟨by omega, by omega⟩, (itF u).length - (i + 1), by omega, i + 1, by omega, rfl, by omega, ?_, x1', by omega, by omega, fun l z' hl' hz => ?_⟩
            · rw [tkF_1 q1, sumF_a, hfr]; simp only [sumF]; omega
            · by_cases e : l = i
              · subst e
                have pa := pt_at (nuF u) (itF v) l w hl q1
                rw [hfr] at pa
                rw [pa] at hz
                rw [← Option.some.inj hz, ← x2]
                exact y4
              · exact rvF_up y1 (x4 l z' (by omega) hz)
      · rintro σ22 f22 ⟨x1, x2, x3, x4⟩
        have hB22 : nB σ22 := by unfold nB; omega
        rw [s123 σ22 x1]
        refine ⟨fun m v37 σ38 => ∃ i : Nat, v37 = i ∧ m = (itF u).length - i ∧ i ≤ (itF u).length ∧ nAX σ22 σ38 (k + 1) ((ptF (itF v) (nuF u)).take i), fun σ38 => nAX σ22 σ38 (k + 1) (ptF (itF v) (nuF u)), ⟨_, 0, rfl, rfl, Nat.zero_le _, nAX_0 σ22 (k + 1)⟩, ?_, ?_⟩
        · rintro m v37 σ38 r37 f38 ⟨i, rfl, em, hi, hA⟩
          refine ⟨s1, fun z => ?_, fun z => ⟨⟨by omega, by omega⟩, ?_⟩⟩
          · have : (ptF (itF v) (nuF u)).take i = ptF (itF v) (nuF u) := List.take_of_length_le (by omega)
            rw [this] at hA; exact hA
          · obtain ⟨w, hw⟩ := gE_x (l := ptF (itF v) (nuF u)) (i := i) (by omega)
            refine m_addX (u := w) hB22 (by rw [List.length_take]; omega) hA ⟨by omega, by omega⟩ (rvF_up hA.1 (x4 i w hw)) (fun σ' y1 _ y2 _ => ⟨⟨by omega, by omega⟩, (itF u).length - (i + 1), by omega, i + 1, by omega, rfl, by omega, ?_⟩)
            rw [tkF_1 hw]; exact y1
        · intro σ38 f38 h38
          rw [← x3]
          obtain ⟨y1, y2, y3, y4⟩ := h38
          refine ⟨s1, hn, m_seqX (k := k + 1) (L := ptF (itF v) (nuF u)) (by omega) (by omega) (by omega) (by omega) (by omega) (by omega) hT (by omega) y4 (fun σ' z1 z2 z3 z4 z5 _ _ => ?_)⟩
          refine h _ σ' z4 (nEx_t x1 (nEx_t y1 z1)) ⟨?_, fun z => by omega, ?_, by omega⟩ ?_ (sg_F_t (sg_F_t (sg_F_m f22 rfl) (sg_F_m f38 rfl)) (sg_F_m z5 rfl))
          · rw [cnF_mk, pcn]
            have := cnL_l k (itF v)
            omega
          · rw [cnF_mk, pcn]
            have := cnL_l k (itF v)
            omega
          · rw [sg_F_g z5 (by rfl), sg_F_g f38 (by rfl), sg_F_g f22 (by rfl)]
    · rw [if_neg (by rw [← e1]; exact c)] at h
      exact m_endsX h0 (by decide) (fun σ' x1 x2 _ => h 0 σ' x1 (sg_F_m x2 rfl))
end ACY
