/-! All ACTS of nested runs of the reference, exactly. -/
section ACZ
variable {σ : sg_S} {n a b K ta tb ty x : Int} {u v : vaF} {Q : Int → sg_S → Prop}
theorem rv_s {d : Nat} {k : Int} {y : Int} (h : rvF σ k.toNat v y) (hd : k = d) : rvF σ d v y := by subst hd; exact h
theorem aX_m {d : Nat} {r : Int ⊕ (vaF × Int)} {Q' : Int → sg_S → Prop} (h : aX σ d Q r) (m : ∀ q σ', Q q σ' → Q' q σ') : aX σ d Q' r := by
  match r, h with
  | .inl e, h => exact fun q σ' x1 x2 => m _ _ (h q σ' x1 x2)
  | .inr (v, c), h => exact fun q σ' x1 x2 x3 x4 x5 => m _ _ (h q σ' x1 x2 x3 x4 x5)
theorem x_act1 (h0 : sg_g σ 88 73 = 0) (hB : (0 ≤ sg_g σ 88 56 ∧ sg_g σ 88 56 ≤ 3000) ∧ 0 ≤ sg_g σ 88 60 ∧ sg_g σ 88 60 ≤ 3000) (hn : 0 ≤ n ∧ n < 210) (hK : sg_g σ 93 n = K) (hT : sg_g σ 101 n = ty) (hty : ty ≤ 3) (hta : 0 ≤ ta ∧ ta ≤ 3) (ha : rvF σ ta.toNat v a) (ho : op1 K ta ty) (h11 : ¬ K = 11) (h : aX σ ty.toNat Q (eO K ty x [v])) : V_acted σ n a b Q := by
  have hB' : nB σ := by unfold nB; omega
  unfold V_acted
  rcases ho with ⟨e, q1, q2⟩ | ⟨e, q1, q2⟩ | ⟨e, q1, q2⟩ | ⟨e, q1, q2⟩ | ⟨e, q1, q2⟩ | ⟨e, q1, q2⟩
  · exact absurd e h11
  · subst e
    rw [q2] at h
    have e0 : a = v [] := (rv_s ha q1).symm
    rw [e0]
    exact ⟨hn, fun _ => x_iota h0 hB' h, fun z => absurd hK z⟩
  · rw [q2] at h
    have a1 : rvF σ 1 v a := rv_s ha q1
    rcases e with e | e | e
    · subst e
      exact ⟨hn, fun z => absurd z (by omega), fun _ => ⟨fun z => absurd z (by omega), fun _ => ⟨fun _ => x_sum hB' a1 h, fun z => absurd hK z⟩⟩⟩
    · subst e
      exact ⟨hn, fun z => absurd z (by omega), fun _ => ⟨fun z => absurd z (by omega), fun _ => ⟨fun z => absurd z (by omega), fun _ => ⟨fun _ => x_max h0 hB' hn hK (Or.inl rfl) a1 h, fun z => absurd hK z⟩⟩⟩⟩
    · subst e
      exact ⟨hn, fun z => absurd z (by omega), fun _ => ⟨fun z => absurd z (by omega), fun _ => ⟨fun z => absurd z (by omega), fun _ => ⟨fun z => absurd z (by omega), fun _ => ⟨fun _ => x_max h0 hB' hn hK (Or.inr rfl) a1 h, fun z => absurd hK z⟩⟩⟩⟩⟩
  · subst e
    rw [q2] at h
    exact ⟨hn, fun z => absurd z (by omega), fun _ => ⟨fun z => absurd z (by omega), fun _ => ⟨fun z => absurd z (by omega), fun _ => ⟨fun z => absurd z (by omega), fun _ => ⟨fun z => absurd z (by omega), fun _ => ⟨fun _ => x_scan hB' (rv_s ha q1) h, fun z => absurd hK z⟩⟩⟩⟩⟩⟩
  · subst e
    obtain ⟨d, hd⟩ : ∃ d : Nat, ta = (d + 1 : Nat) := ⟨(ta - 1).toNat, by omega⟩
    have h' : aX σ (d + 1) Q (.inr (mkF (itF v).reverse, cnL d (itF v).reverse)) := by
      rw [show ty.toNat = d + 1 by omega] at h
      rw [show d = (ty - 1).toNat by omega]
      rw [show d = (ty - 1).toNat by omega] at h
      exact h
    exact ⟨hn, fun z => absurd z (by omega), fun _ => ⟨fun z => absurd z (by omega), fun _ => ⟨fun z => absurd z (by omega), fun _ => ⟨fun z => absurd z (by omega), fun _ => ⟨fun z => absurd z (by omega), fun _ => ⟨fun z => absurd z (by omega), fun _ => ⟨fun _ => x_rev (k := d) hB' hn (by omega) (by omega) (rv_s ha hd) h', fun z => absurd hK z⟩⟩⟩⟩⟩⟩⟩
  · subst e
    obtain ⟨d, hd⟩ : ∃ d : Nat, ta = (d + 2 : Nat) := ⟨(ta - 2).toNat, by omega⟩
    have h' : aX σ (d + 1) Q (if sumF ((itF v).map (fun v => ((itF v).length : Int))) ≤ 200 then .inr (mkF ((itF v).map itF).flatten, cnL d ((itF v).map itF).flatten) else .inl 5) := by
      rw [show ty.toNat = d + 1 by omega] at h
      rw [show d = (ty - 1).toNat by omega]
      rw [show d = (ty - 1).toNat by omega] at h
      exact h
    unfold V_acted_24
    exact ⟨hn, fun z => absurd z (by omega), fun _ => ⟨fun z => absurd z (by omega), fun _ => ⟨fun z => absurd z (by omega), fun _ => ⟨fun z => absurd z (by omega), fun _ => ⟨fun z => absurd z (by omega), fun _ => ⟨fun z => absurd z (by omega), fun _ => ⟨fun z => absurd z (by omega), fun _ => ⟨fun z => absurd z (by omega), fun _ => ⟨fun _ => x_flat (k := d) h0 hB' hn (by omega) (by omega) (rv_s ha hd) (aX_m h' (fun _ _ q _ _ => q)), fun z => absurd hK z⟩⟩⟩⟩⟩⟩⟩⟩⟩
theorem x_act2 (h0 : sg_g σ 88 73 = 0) (hB : (0 ≤ sg_g σ 88 56 ∧ sg_g σ 88 56 ≤ 3000) ∧ 0 ≤ sg_g σ 88 60 ∧ sg_g σ 88 60 ≤ 3000) (hn : 0 ≤ n ∧ n < 210) (hK : sg_g σ 93 n = K) (hT : sg_g σ 101 n = ty) (hty : ty ≤ 3) (hta : 0 ≤ ta ∧ ta ≤ 3) (hra : sg_R a) (ha : rvF σ ta.toNat v a) (hb : rvF σ tb.toNat u b) (ho : op2 K ta tb ty) (h12 : 16 ≤ K) (h : aX σ ty.toNat Q (eO K ty x [v, u])) : V_acted σ n a b Q := by
  have hB' : nB σ := by unfold nB; omega
  unfold V_acted
  rcases ho with ⟨e, q1, q2, q3⟩ | ⟨e, q1, q2, q3⟩ | ⟨e, q1, q2⟩ | ⟨e, q1, q2, q3⟩ | ⟨e, q1, q2, q3⟩ | ⟨e, q1, q2, q3⟩
  · omega
  · omega
  · subst e
    have e0 : b = u [] := (rv_s hb q1).symm
    rw [e0]
    have h' : aX σ (ta.toNat + 1) Q (if 0 ≤ u [] ∧ u [] ≤ 200 then .inr (mkF (List.replicate (u []).toNat v), cnL ta.toNat (List.replicate (u []).toNat v)) else .inl 5) := by
      rw [show ty.toNat = ta.toNat + 1 by omega] at h
      rw [show ta.toNat = (ty - 1).toNat by omega]
      rw [show ta.toNat = (ty - 1).toNat by omega] at h
      exact h
    exact ⟨hn, fun z => absurd z (by omega), fun _ => ⟨fun _ => x_dist (k := ta.toNat) h0 hB' hn hra (by omega) (by omega) ha h', fun z => absurd hK z⟩⟩
  · subst e
    obtain ⟨d, hd⟩ : ∃ d : Nat, ta = (d + 1 : Nat) := ⟨(ta - 1).toNat, by omega⟩
    have h' : aX σ (d + 1) Q (if (itF v).length + (itF u).length ≤ 200 then .inr (mkF (itF v ++ itF u), cnL d (itF v ++ itF u)) else .inl 5) := by
      rw [show ty.toNat = d + 1 by omega] at h
      rw [show d = (ty - 1).toNat by omega]
      rw [show d = (ty - 1).toNat by omega] at h
      exact h
    exact ⟨hn, fun z => absurd z (by omega), fun _ => ⟨fun z => absurd z (by omega), fun _ => ⟨fun z => absurd z (by omega), fun _ => ⟨fun z => absurd z (by omega), fun _ => ⟨fun z => absurd z (by omega), fun _ => ⟨fun z => absurd z (by omega), fun _ => ⟨fun z => absurd z (by omega), fun _ => ⟨fun _ => x_cat (k := d) h0 hB' hn (by omega) (by omega) (rv_s ha hd) (rv_s hb (by omega)) h', fun z => absurd hK z⟩⟩⟩⟩⟩⟩⟩⟩
  · obtain ⟨d, hd⟩ : ∃ d : Nat, ta = (d + 1 : Nat) := ⟨(ta - 1).toNat, by omega⟩
    rcases e with e | e
    · subst e
      have h' : aX σ (d + 1) Q (if (itF v).length = (itF u).length then .inr (mkF (pkF (itF v) (nuF u)), cnL d (pkF (itF v) (nuF u))) else .inl 3) := by
        rw [show ty.toNat = d + 1 by omega] at h
        rw [show d = (ty - 1).toNat by omega]
        rw [show d = (ty - 1).toNat by omega] at h
        exact h
      exact ⟨hn, fun z => absurd z (by omega), fun _ => ⟨fun z => absurd z (by omega), fun _ => ⟨fun z => absurd z (by omega), fun _ => ⟨fun z => absurd z (by omega), fun _ => ⟨fun z => absurd z (by omega), fun _ => ⟨fun z => absurd z (by omega), fun _ => ⟨fun z => absurd z (by omega), fun _ => ⟨fun z => absurd z (by omega), fun _ => ⟨fun z => absurd z (by omega), fun _ => ⟨fun _ => x_pack (k := d) h0 hB' hn (by omega) (by omega) (rv_s ha hd) (rv_s hb q2) h', fun z => absurd hK z⟩⟩⟩⟩⟩⟩⟩⟩⟩⟩
    · subst e
      have h' : aX σ (d + 1) Q (if (itF v).length = (itF u).length then (match ivF (itF u).length 0 (nuF u) (fun _ => -1) with
        | none => .inl 6
        | some g => .inr (mkF ((List.range (itF v).length).map (fun i : Nat => (itF v).getD (g i).toNat (nmF 0))), cnL d ((List.range (itF v).length).map (fun i : Nat => (itF v).getD (g i).toNat (nmF 0))))) else .inl 3) := by
        rw [show ty.toNat = d + 1 by omega] at h
        rw [show d = (ty - 1).toNat by omega]
        rw [show d = (ty - 1).toNat by omega] at h
        exact h
      unfold V_acted_26
      exact ⟨hn, fun z => absurd z (by omega), fun _ => ⟨fun z => absurd z (by omega), fun _ => ⟨fun z => absurd z (by omega), fun _ => ⟨fun z => absurd z (by omega), fun _ => ⟨fun z => absurd z (by omega), fun _ => ⟨fun z => absurd z (by omega), fun _ => ⟨fun z => absurd z (by omega), fun _ => ⟨fun z => absurd z (by omega), fun _ => ⟨fun z => absurd z (by omega), fun _ => ⟨fun z => absurd z (by omega), fun _ => ⟨fun _ => x_perm (k := d) h0 hB' hn (by omega) (by omega) (rv_s ha hd) (rv_s hb q2) (aX_m h' (fun _ _ q _ _ => q)), fun z => absurd hK z⟩⟩⟩⟩⟩⟩⟩⟩⟩⟩⟩
  · subst e
    obtain ⟨d, hd⟩ : ∃ d : Nat, ta = (d + 1 : Nat) := ⟨(ta - 1).toNat, by omega⟩
    have h' : aX σ (d + 2) Q (if (nuF u).any (fun x => decide (x < 0)) = true then .inl 5 else if sumF (nuF u) = (itF v).length then .inr (mkF (ptF (itF v) (nuF u)), cnL (d + 1) (ptF (itF v) (nuF u))) else .inl 3) := by
      rw [show ty.toNat = d + 2 by omega] at h
      rw [show d + 1 = (ty - 1).toNat by omega]
      have : ∀ d2, d + 1 = d2 → d + 2 = d2 + 1 := fun _ q => by omega
      rw [this _ (show d + 1 = (ty - 1).toNat by omega)] at h ⊢
      exact h
    unfold V_acted_d
    exact ⟨hn, fun z => absurd z (by omega), fun _ => ⟨fun z => absurd z (by omega), fun _ => ⟨fun z => absurd z (by omega), fun _ => ⟨fun z => absurd z (by omega), fun _ => ⟨fun z => absurd z (by omega), fun _ => ⟨fun z => absurd z (by omega), fun _ => ⟨fun z => absurd z (by omega), fun _ => ⟨fun z => absurd z (by omega), fun _ => ⟨fun z => absurd z (by omega), fun _ => ⟨fun z => absurd z (by omega), fun _ => ⟨fun z => absurd z (by omega), fun _ => x_part (k := d) h0 hB hn (by omega) (by omega) (rv_s ha hd) (rv_s hb q2) (aX_m h' (fun _ _ q _ _ => q))⟩⟩⟩⟩⟩⟩⟩⟩⟩⟩⟩
end ACZ
/-! works, begin, leave of nested runs of the reference, exactly. -/
theorem x_works {σ : sg_S} {a w : Int} {Q : sg_S → Prop} (h0 : sg_g σ 88 73 = 0) (hw : sg_g σ 88 54 = w) (hw2 : 0 ≤ w ∧ w ≤ 3000) (ha : 0 ≤ a ∧ a ≤ 8040200) (kF : ¬ w + a ≤ 3000 → ∀ σ', sg_g σ' 88 73 = 7 → sg_g σ' 88 54 = w → sg_F [55088, 74088] σ σ' → Q σ') (kS : w + a ≤ 3000 → ∀ σ', sg_g σ' 88 73 = 0 → sg_g σ' 88 54 = w + a → sg_F [55088, 74088] σ σ' → Q σ') : V_works σ a Q := by
  unfold V_works
  rw [hw]
  refine ⟨fun σ4 => (w + a ≤ 3000 ∧ σ4 = σ) ∨ (¬ w + a ≤ 3000 ∧ sg_g σ4 88 73 = 7), ⟨fun h => absurd h0 h, fun _ => ⟨⟨by omega, by omega⟩, fun h2 => Or.inl ⟨h2, rfl⟩, fun h2 σ19 e19 => Or.inr ⟨by omega, by rw [e19, sg_gw_e _ _ _ _ (by decide)]⟩⟩⟩, ?_⟩
  rintro σ4 f4 (⟨h1, rfl⟩ | ⟨h1, h2⟩)
  · refine ⟨fun h => absurd h0 h, fun _ => ⟨⟨by omega, by omega⟩, ⟨by omega, by omega⟩, fun σ14 e14 => kS h1 σ14 ?_ ?_ ?_⟩⟩
    · rw [e14, sg_gw_k _ _ _ _ _ _ (by decide)]; exact h0
    · rw [e14, sg_gw_e _ _ _ _ ⟨by omega, by omega⟩]
    · rw [e14]; exact sg_F_w (sg_F_r _ _) rfl _
  · refine ⟨fun _ => ⟨⟨by omega, by omega⟩, fun σ9 e9 => kF h1 σ9 ?_ ?_ ?_⟩, fun h => by rw [h2] at h; exact absurd h (by decide)⟩
    · rw [e9, sg_gw_k _ _ _ _ _ _ (by decide)]; exact h2
    · rw [e9, sg_gw_e _ _ _ _ ⟨by omega, by omega⟩]; omega
    · rw [e9]; exact sg_F_w (sg_F_m f4 rfl) rfl _
abbrev bgL : List Nat := [126, 127, 128, 129, 130, 131, 132, 55088, 63088, 74088]
theorem x_begin {σ : sg_S} {n w : Int} {Q : sg_S → Prop} (h0 : sg_g σ 88 73 = 0) (hw : sg_g σ 88 54 = w) (hw2 : 0 ≤ w ∧ w ≤ 3000) (hn : sg_R n) (hf : 0 ≤ sg_g σ 88 62 ∧ sg_g σ 88 62 < 4000) (kF : ¬ w + 1 ≤ 3000 → ∀ σ', sg_g σ' 88 73 = 7 → sg_g σ' 88 54 = w → sg_F bgL σ σ' → Q σ') (kS : w + 1 ≤ 3000 → ∀ σ', sg_g σ' 88 73 = 0 → sg_g σ' 88 54 = w + 1 → sg_g σ' 88 62 = sg_g σ 88 62 + 1 → (sg_g σ' 126 (sg_g σ 88 62) = n ∧ sg_g σ' 127 (sg_g σ 88 62) = 0 ∧ sg_g σ' 128 (sg_g σ 88 62) = sg_g σ 88 70 ∧ sg_g σ' 129 (sg_g σ 88 62) = 1 ∧ sg_g σ' 130 (sg_g σ 88 62) = 0 ∧ sg_g σ' 131 (sg_g σ 88 62) = 0 ∧ sg_g σ' 132 (sg_g σ 88 62) = 0) → (∀ i, ¬ i = sg_g σ 88 62 → sg_g σ' 126 i = sg_g σ 126 i ∧ sg_g σ' 127 i = sg_g σ 127 i ∧ sg_g σ' 128 i = sg_g σ 128 i ∧ sg_g σ' 129 i = sg_g σ 129 i ∧ sg_g σ' 130 i = sg_g σ 130 i ∧ sg_g σ' 131 i = sg_g σ 131 i ∧ sg_g σ' 132 i = sg_g σ 132 i) → sg_F bgL σ σ' → Q σ') : V_begin σ n Q := by
  have main : ∀ σ2, sg_F [55088, 74088] σ σ2 → ∀ P : Prop, (∀ σ30, sg_g σ30 88 73 = sg_g σ2 88 73 → sg_g σ30 88 54 = sg_g σ2 88 54 → sg_g σ30 88 62 = sg_g σ 88 62 + 1 → (sg_g σ30 126 (sg_g σ 88 62) = n ∧ sg_g σ30 127 (sg_g σ 88 62) = 0 ∧ sg_g σ30 128 (sg_g σ 88 62) = sg_g σ 88 70 ∧ sg_g σ30 129 (sg_g σ 88 62) = 1 ∧ sg_g σ30 130 (sg_g σ 88 62) = 0 ∧ sg_g σ30 131 (sg_g σ 88 62) = 0 ∧ sg_g σ30 132 (sg_g σ 88 62) = 0) → (∀ i, ¬ i = sg_g σ 88 62 → sg_g σ30 126 i = sg_g σ 126 i ∧ sg_g σ30 127 i = sg_g σ 127 i ∧ sg_g σ30 128 i = sg_g σ 128 i ∧ sg_g σ30 129 i = sg_g σ 129 i ∧ sg_g σ30 130 i = sg_g σ 130 i ∧ sg_g σ30 131 i = sg_g σ 131 i ∧ sg_g σ30 132 i = sg_g σ 132 i) → sg_F bgL σ σ30 → Q σ30) → (0 ≤ (sg_g σ 88 62) ∧ (sg_g σ 88 62) < 4000) ∧ ∀ σ8, σ8 = (sg_w σ2 126 ((sg_g σ 88 62)) (n)) → ∀ σ11, σ11 = (sg_w σ8 127 ((sg_g σ 88 62)) (0)) → ∀ σ14, σ14 = (sg_w σ11 128 ((sg_g σ 88 62)) ((sg_g σ 88 70))) → ∀ σ17, σ17 = (sg_w σ14 129 ((sg_g σ 88 62)) (1)) → ∀ σ20, σ20 = (sg_w σ17 130 ((sg_g σ 88 62)) (0)) → ∀ σ23, σ23 = (sg_w σ20 131 ((sg_g σ 88 62)) (0)) → ∀ σ26, σ26 = (sg_w σ23 132 ((sg_g σ 88 62)) (0)) → sg_R ((sg_g σ 88 62) + 1) ∧ ∀ σ30, σ30 = (sg_w σ26 88 62 (((sg_g σ 88 62) + 1))) → Q σ30 := by
    intro σ2 f2 _ k
    refine ⟨hf, fun σ8 e8 σ11 e11 σ14 e14 σ17 e17 σ20 e20 σ23 e23 σ26 e26 => ⟨⟨by omega, by omega⟩, fun σ30 e30 => ?_⟩⟩
    have f30 : sg_F bgL σ2 σ30 := by
      rw [e30, e26, e23, e20, e17, e14, e11, e8]
      exact sg_F_w (sg_F_w (sg_F_w (sg_F_w (sg_F_w (sg_F_w (sg_F_w (sg_F_w (sg_F_r _ _) rfl _) rfl _) rfl _) rfl _) rfl _) rfl _) rfl _) rfl _
    have G88 : ∀ j, ¬ j = 62 → sg_g σ30 88 j = sg_g σ2 88 j := fun j z => by
      rw [e30, sg_gw_k _ _ _ _ _ _ z, e26, sg_gw_c _ _ _ _ _ _ (by decide), e23, sg_gw_c _ _ _ _ _ _ (by decide), e20, sg_gw_c _ _ _ _ _ _ (by decide), e17, sg_gw_c _ _ _ _ _ _ (by decide), e14, sg_gw_c _ _ _ _ _ _ (by decide), e11, sg_gw_c _ _ _ _ _ _ (by decide), e8, sg_gw_c _ _ _ _ _ _ (by decide)]
    refine k σ30 (G88 73 (by decide)) (G88 54 (by decide)) (by rw [e30, sg_gw_e _ _ _ _ ⟨by omega, by omega⟩]) ⟨?_, ?_, ?_, ?_, ?_, ?_, ?_⟩ (fun i hi => ?_) (sg_F_t (sg_F_m f2 rfl) f30)
    · rw [e30, sg_gw_c _ _ _ _ _ _ (by decide), e26, sg_gw_c _ _ _ _ _ _ (by decide), e23, sg_gw_c _ _ _ _ _ _ (by decide), e20, sg_gw_c _ _ _ _ _ _ (by decide), e17, sg_gw_c _ _ _ _ _ _ (by decide), e14, sg_gw_c _ _ _ _ _ _ (by decide), e11, sg_gw_c _ _ _ _ _ _ (by decide), e8, sg_gw_e _ _ _ _ hn]
    · rw [e30, sg_gw_c _ _ _ _ _ _ (by decide), e26, sg_gw_c _ _ _ _ _ _ (by decide), e23, sg_gw_c _ _ _ _ _ _ (by decide), e20, sg_gw_c _ _ _ _ _ _ (by decide), e17, sg_gw_c _ _ _ _ _ _ (by decide), e14, sg_gw_c _ _ _ _ _ _ (by decide), e11, sg_gw_e _ _ _ _ (by decide)]
    · rw [e30, sg_gw_c _ _ _ _ _ _ (by decide), e26, sg_gw_c _ _ _ _ _ _ (by decide), e23, sg_gw_c _ _ _ _ _ _ (by decide), e20, sg_gw_c _ _ _ _ _ _ (by decide), e17, sg_gw_c _ _ _ _ _ _ (by decide), e14, sg_gw_e _ _ _ _ (sg_Rg _ _ _)]
    · rw [e30, sg_gw_c _ _ _ _ _ _ (by decide), e26, sg_gw_c _ _ _ _ _ _ (by decide), e23, sg_gw_c _ _ _ _ _ _ (by decide), e20, sg_gw_c _ _ _ _ _ _ (by decide), e17, sg_gw_e _ _ _ _ (by decide)]
    · rw [e30, sg_gw_c _ _ _ _ _ _ (by decide), e26, sg_gw_c _ _ _ _ _ _ (by decide), e23, sg_gw_c _ _ _ _ _ _ (by decide), e20, sg_gw_e _ _ _ _ (by decide)]
    · rw [e30, sg_gw_c _ _ _ _ _ _ (by decide), e26, sg_gw_c _ _ _ _ _ _ (by decide), e23, sg_gw_e _ _ _ _ (by decide)]
    · rw [e30, sg_gw_c _ _ _ _ _ _ (by decide), e26, sg_gw_e _ _ _ _ (by decide)]
    · have K : ∀ a, sg_g σ26 a i = sg_g σ2 a i := fun a => by rw [e26, sg_gw_k _ _ _ _ _ _ hi, e23, sg_gw_k _ _ _ _ _ _ hi, e20, sg_gw_k _ _ _ _ _ _ hi, e17, sg_gw_k _ _ _ _ _ _ hi, e14, sg_gw_k _ _ _ _ _ _ hi, e11, sg_gw_k _ _ _ _ _ _ hi, e8, sg_gw_k _ _ _ _ _ _ hi]
      have K2 : ∀ a, ¬ a = 88 → sg_ca [55088, 74088] a = true → a < 1000 → sg_g σ30 a i = sg_g σ a i := fun a ha hca hlt => by rw [e30, sg_gw_c _ _ _ _ _ _ ha, K, sg_F_ga f2 hca (hc := hlt)]
      exact ⟨K2 126 (by decide) rfl (by decide), K2 127 (by decide) rfl (by decide), K2 128 (by decide) rfl (by decide), K2 129 (by decide) rfl (by decide), K2 130 (by decide) rfl (by decide), K2 131 (by decide) rfl (by decide), K2 132 (by decide) rfl (by decide)⟩
  unfold V_begin
  refine x_works h0 hw hw2 ⟨by decide, by decide⟩ (fun z σ2 q1 q2 f2 _ => main σ2 f2 True (fun σ30 y1 y2 _ _ _ y6 => kF z σ30 (by rw [y1]; exact q1) (by rw [y2]; exact q2) y6)) (fun z σ2 q1 q2 f2 _ => main σ2 f2 True (fun σ30 y1 y2 y3 y4 y5 y6 => kS z σ30 (by rw [y1]; exact q1) (by rw [y2]; exact q2) y3 y4 y5 y6))
abbrev lvR : List Nat := [129, 131, 133, 55088, 56088, 63088, 71088, 74088]
/-- what a node's end costs -/
def cstF (σ : sg_S) (K v b c : Int) : Prop := (v_tellsCount K = 0 ∧ ¬ (K = 18 ∨ K = 19 ∨ K = 20) ∧ c = 0) ∨ (¬ v_tellsCount K = 0 ∧ ¬ (K = 18 ∨ K = 19 ∨ K = 20) ∧ (0 ≤ v ∧ v < 9000) ∧ sg_gl σ 124 v = c) ∨ (v_tellsCount K = 0 ∧ (K = 18 ∨ K = 19 ∨ K = 20) ∧ (0 ≤ sg_g σ 133 b ∧ sg_g σ 133 b < 9000) ∧ sg_g σ 123 (sg_g σ 133 b) = c)
theorem x_leave {σ : sg_S} {f n b v c w sp K : Int} {Q : sg_S → Prop} (h0 : sg_g σ 88 73 = 0) (hw : sg_g σ 88 54 = w) (hw2 : 0 ≤ w ∧ w ≤ 3000) (ef : sg_g σ 88 62 - 1 = f) (hf : 0 ≤ f ∧ f < 4000) (en : sg_g σ 126 f = n) (hn : 0 ≤ n ∧ n < 210) (eb : sg_g σ 128 f = b) (hb : 0 ≤ b ∧ b < 12000) (hv : sg_R v) (esp : sg_g σ 129 f = sp) (hsp : 0 ≤ sp ∧ sp ≤ 3000) (hK : sg_g σ 93 n = K) (hcs : cstF σ K v b c) (hc : 0 ≤ c ∧ c ≤ 8040200) (h3 : ¬ f = 0 → (0 ≤ sg_g σ 126 (f - 1) ∧ sg_g σ 126 (f - 1) < 210) ∧ (0 ≤ sg_g σ 129 (f - 1) ∧ sg_g σ 129 (f - 1) ≤ 6000) ∧ (0 ≤ sg_g σ 131 (f - 1) ∧ sg_g σ 131 (f - 1) ≤ 6000)) (kF : ¬ w + c ≤ 3000 → ∀ σ', sg_g σ' 88 73 = 7 → sg_g σ' 88 54 = w → sg_F lvR σ σ' → Q σ') (kS : w + c ≤ 3000 → ∀ σ', sg_g σ' 88 73 = 0 → sg_g σ' 88 54 = w + c → sg_g σ' 88 70 = b + 1 → sg_g σ' 133 b = v → (∀ x, ¬ x = b → sg_g σ' 133 x = sg_g σ 133 x) → sg_g σ' 88 62 = f → (f = 0 → sg_g σ' 88 55 = sp) → (∀ i, ¬ i = f - 1 → sg_g σ' 129 i = sg_g σ 129 i ∧ sg_g σ' 131 i = sg_g σ 131 i) → (¬ f = 0 → (v_isInPlaces σ (f - 1) = 0 → sg_g σ' 129 (f - 1) = sg_g σ 129 (f - 1) + sp ∧ sg_g σ' 131 (f - 1) = sg_g σ 131 (f - 1)) ∧ (¬ v_isInPlaces σ (f - 1) = 0 → sg_g σ' 129 (f - 1) = sg_g σ 129 (f - 1) ∧ sg_g σ' 131 (f - 1) = sg_g σ 131 (f - 1) + sp)) → sg_F lvR σ σ' → Q σ') : V_leave σ v Q := by
  unfold V_leave
  rw [ef, en, eb, hK, esp]
  let P : sg_S → Prop := fun σ7 => (w + c ≤ 3000 ∧ sg_g σ7 88 73 = 0 ∧ sg_g σ7 88 54 = w + c) ∨ (¬ w + c ≤ 3000 ∧ sg_g σ7 88 73 = 7 ∧ sg_g σ7 88 54 = w)
  have hP : ∀ σ7, P σ7 = ((w + c ≤ 3000 ∧ sg_g σ7 88 73 = 0 ∧ sg_g σ7 88 54 = w + c) ∨ (¬ w + c ≤ 3000 ∧ sg_g σ7 88 73 = 7 ∧ sg_g σ7 88 54 = w)) := fun _ => rfl
  have wk : ∀ σ7, sg_g σ7 88 73 = 0 → sg_g σ7 88 54 = w → V_works σ7 c (fun σ48 => sg_F [55088, 74088] σ7 σ48 → P σ48) := fun σ7 q0 q1 => x_works q0 q1 hw2 hc (fun z σ' y1 y2 _ _ => by rw [hP]; exact Or.inr ⟨z, y1, y2⟩) (fun z σ' y1 y2 _ _ => by rw [hP]; exact Or.inl ⟨z, y1, y2⟩)
  have tail : ∀ σ13, sg_F [55088, 74088] σ σ13 → P σ13 → ∀ σ16, σ16 = (sg_w σ13 88 70 (b)) → (0 ≤ b ∧ b < 12000) ∧ ∀ σ20, σ20 = (sg_w σ16 133 (b) (v)) → sg_R (b + 1) ∧ ∀ σ24, σ24 = (sg_w σ20 88 70 ((b + 1))) → ∀ σ27, σ27 = (sg_w σ24 88 62 (f)) → ((¬ f = 0 → sg_R (f - 1) ∧ p_isInPlaces σ ((f - 1)) ∧ (((v_isInPlaces σ ((f - 1))) = 0 → (0 ≤ (f - 1) ∧ (f - 1) < 4000) ∧ ∀ σ35, σ35 = (sg_w σ27 129 ((f - 1)) ((sg_n ((sg_g σ 129 ((f - 1))) + sp)))) → Q σ35) ∧ (¬ (v_isInPlaces σ ((f - 1))) = 0 → (0 ≤ (f - 1) ∧ (f - 1) < 4000) ∧ ∀ σ39, σ39 = (sg_w σ27 131 ((f - 1)) ((sg_n ((sg_g σ 131 ((f - 1))) + sp)))) → Q σ39))) ∧ (f = 0 → ∀ σ42, σ42 = (sg_w σ27 88 55 (sp)) → Q σ42)) := by
    intro σ13 F13 p13 σ16 e16
    refine ⟨hb, fun σ20 e20 => ⟨⟨by omega, by omega⟩, fun σ24 e24 σ27 e27 => ?_⟩⟩
    have F27 : sg_F lvR σ σ27 := by
      rw [e27, e24, e20, e16]
      exact sg_F_w (sg_F_w (sg_F_w (sg_F_w (sg_F_m F13 rfl) rfl _) rfl _) rfl _) rfl _
    have v0 : sg_g σ27 88 70 = b + 1 := by rw [e27, sg_gw_k _ _ _ _ _ _ (by decide), e24, sg_gw_e _ _ _ _ ⟨by omega, by omega⟩]
    have v1 : sg_g σ27 133 b = v := by rw [e27, sg_gw_c _ _ _ _ _ _ (by decide), e24, sg_gw_c _ _ _ _ _ _ (by decide), e20, sg_gw_e _ _ _ _ hv]
    have v2 : ∀ x, ¬ x = b → sg_g σ27 133 x = sg_g σ 133 x := fun x hx => by rw [e27, sg_gw_c _ _ _ _ _ _ (by decide), e24, sg_gw_c _ _ _ _ _ _ (by decide), e20, sg_gw_k _ _ _ _ _ _ hx, e16, sg_gw_c _ _ _ _ _ _ (by decide), sg_F_ga F13 rfl]
    have v3 : sg_g σ27 88 62 = f := by rw [e27, sg_gw_e _ _ _ _ ⟨by omega, by omega⟩]
    have G : ∀ a, (a = 129 ∨ a = 131) → ∀ i, sg_g σ27 a i = sg_g σ a i := fun a ha i => by
      rw [e27, sg_gw_c _ _ _ _ _ _ (by omega), e24, sg_gw_c _ _ _ _ _ _ (by omega), e20, sg_gw_c _ _ _ _ _ _ (by omega), e16, sg_gw_c _ _ _ _ _ _ (by omega)]
      rcases ha with z | z <;> subst z <;> exact sg_F_ga F13 rfl
    have v4 : sg_g σ27 88 73 = sg_g σ13 88 73 ∧ sg_g σ27 88 54 = sg_g σ13 88 54 := by
      constructor
      · rw [e27, sg_gw_k _ _ _ _ _ _ (by decide), e24, sg_gw_k _ _ _ _ _ _ (by decide), e20, sg_gw_c _ _ _ _ _ _ (by decide), e16, sg_gw_k _ _ _ _ _ _ (by decide)]
      · rw [e27, sg_gw_k _ _ _ _ _ _ (by decide), e24, sg_gw_k _ _ _ _ _ _ (by decide), e20, sg_gw_c _ _ _ _ _ _ (by decide), e16, sg_gw_k _ _ _ _ _ _ (by decide)]
    rw [hP] at p13
    have fin : ∀ a j z, (a = 129 ∨ a = 131 ∨ (a = 88 ∧ j = 55)) → (f = 0 → a = 88 ∧ z = sp) → (∀ i, ¬ i = f - 1 → sg_g (sg_w σ27 a j z) 129 i = sg_g σ 129 i ∧ sg_g (sg_w σ27 a j z) 131 i = sg_g σ 131 i) → (¬ f = 0 → (v_isInPlaces σ (f - 1) = 0 → sg_g (sg_w σ27 a j z) 129 (f - 1) = sg_g σ 129 (f - 1) + sp ∧ sg_g (sg_w σ27 a j z) 131 (f - 1) = sg_g σ 131 (f - 1)) ∧ (¬ v_isInPlaces σ (f - 1) = 0 → sg_g (sg_w σ27 a j z) 129 (f - 1) = sg_g σ 129 (f - 1) ∧ sg_g (sg_w σ27 a j z) 131 (f - 1) = sg_g σ 131 (f - 1) + sp)) → Q (sg_w σ27 a j z) := fun a j z ha hz y1 y2 => by
      have c1 : ∀ q, ¬ q = 55 → sg_g (sg_w σ27 a j z) 88 q = sg_g σ27 88 q := fun q hq => by
        rcases ha with h | h | h
        · exact sg_gw_c _ _ _ _ _ _ (by omega)
        · exact sg_gw_c _ _ _ _ _ _ (by omega)
        · exact sg_gw_k _ _ _ _ _ _ (by omega)
      have c2 : ∀ q, sg_g (sg_w σ27 a j z) 133 q = sg_g σ27 133 q := fun q => sg_gw_c _ _ _ _ _ _ (by omega)
      have FF : sg_F lvR σ (sg_w σ27 a j z) := by
        rcases ha with h | h | ⟨h, h'⟩
        · subst h; exact sg_F_w F27 rfl _
        · subst h; exact sg_F_w F27 rfl _
        · subst h h'; exact sg_F_w F27 rfl _
      rcases p13 with ⟨p1, p2, p3⟩ | ⟨p1, p2, p3⟩
      · refine kS p1 _ (by rw [c1 73 (by decide), v4.1]; exact p2) (by rw [c1 54 (by decide), v4.2]; exact p3) (by rw [c1 70 (by decide)]; exact v0) (by rw [c2]; exact v1) (fun x hx => by rw [c2]; exact v2 x hx) (by rw [c1 62 (by decide)]; exact v3) (fun z0 => ?_) y1 y2 FF
        obtain ⟨ha', hz'⟩ := hz z0
        rcases ha with h | h | ⟨h, h'⟩
        · omega
        · omega
        · subst h h'
          rw [sg_gw_e _ _ _ _ (by rw [hz']; exact ⟨by omega, by omega⟩)]; exact hz'
      · exact kF p1 _ (by rw [c1 73 (by decide), v4.1]; exact p2) (by rw [c1 54 (by decide), v4.2]; exact p3) FF
    refine ⟨fun z => ?_, fun z σ42 e42 => ?_⟩
    · obtain ⟨q1, q2, q3⟩ := h3 z
      refine ⟨⟨by omega, by omega⟩, ⟨⟨by omega, by omega⟩, q1, fun _ => trivial, fun _ => ⟨fun _ => trivial, fun _ => trivial⟩⟩, fun y => ⟨⟨by omega, by omega⟩, fun σ35 e35 => ?_⟩, fun y => ⟨⟨by omega, by omega⟩, fun σ39 e39 => ?_⟩⟩
      · have en' : sg_n (sg_g σ 129 (f - 1) + sp) = sg_g σ 129 (f - 1) + sp := sg_id ⟨by omega, by omega⟩
        rw [en'] at e35
        rw [e35]
        refine fin _ _ _ (Or.inl rfl) (fun q => absurd q z) (fun i hi => ⟨by rw [sg_gw_k _ _ _ _ _ _ hi]; exact G 129 (Or.inl rfl) i, by rw [sg_gw_c _ _ _ _ _ _ (by decide)]; exact G 131 (Or.inr rfl) i⟩) (fun _ => ⟨fun _ => ⟨by rw [sg_gw_e _ _ _ _ ⟨by omega, by omega⟩], by rw [sg_gw_c _ _ _ _ _ _ (by decide)]; exact G 131 (Or.inr rfl) _⟩, fun q => absurd y q⟩)
      · have en' : sg_n (sg_g σ 131 (f - 1) + sp) = sg_g σ 131 (f - 1) + sp := sg_id ⟨by omega, by omega⟩
        rw [en'] at e39
        rw [e39]
        refine fin _ _ _ (Or.inr (Or.inl rfl)) (fun q => absurd q z) (fun i hi => ⟨by rw [sg_gw_c _ _ _ _ _ _ (by decide)]; exact G 129 (Or.inl rfl) i, by rw [sg_gw_k _ _ _ _ _ _ hi]; exact G 131 (Or.inr rfl) i⟩) (fun _ => ⟨fun q => absurd q y, fun _ => ⟨by rw [sg_gw_c _ _ _ _ _ _ (by decide)]; exact G 129 (Or.inl rfl) _, by rw [sg_gw_e _ _ _ _ ⟨by omega, by omega⟩]⟩⟩)
    · rw [e42]
      refine fin _ _ _ (Or.inr (Or.inr ⟨rfl, rfl⟩)) (fun _ => ⟨rfl, rfl⟩) (fun i hi => ⟨by rw [sg_gw_c _ _ _ _ _ _ (by decide)]; exact G 129 (Or.inl rfl) i, by rw [sg_gw_c _ _ _ _ _ _ (by decide)]; exact G 131 (Or.inr rfl) i⟩) (fun q => absurd z q)
  refine ⟨⟨by omega, by omega⟩, hf, hn, ?_⟩
  rcases hcs with ⟨k1, k2, k3⟩ | ⟨k1, k2, k3, k4⟩ | ⟨k1, k2, k3, k4⟩
  · refine ⟨fun σ7 => σ7 = σ, ⟨fun _ => rfl, fun z => absurd k1 z⟩, fun σ7 f7 h7 => ⟨P, ⟨fun z => absurd (Or.inl z) k2, fun _ => ⟨fun z => absurd (Or.inr (Or.inl z)) k2, fun _ => ⟨fun _ => ?_, fun z => absurd (Or.inr (Or.inr z)) k2⟩⟩⟩, fun σ13 f13 p13 => tail σ13 (sg_F_t f7 f13) p13⟩⟩
    rw [hP, h7]
    exact Or.inl ⟨by omega, h0, by omega⟩
  · refine ⟨P, ⟨fun z => absurd z k1, fun _ => ⟨k3, by rw [k4]; exact wk σ h0 hw⟩⟩, fun σ7 f7 h7 => ⟨P, ⟨fun z => absurd (Or.inl z) k2, fun _ => ⟨fun z => absurd (Or.inr (Or.inl z)) k2, fun _ => ⟨fun _ => h7, fun z => absurd (Or.inr (Or.inr z)) k2⟩⟩⟩, fun σ13 f13 p13 => tail σ13 (sg_F_t f7 f13) p13⟩⟩
  · refine ⟨fun σ7 => σ7 = σ, ⟨fun _ => rfl, fun z => absurd k1 z⟩, fun σ7 f7 h7 => ⟨P, ?_, fun σ13 f13 p13 => tail σ13 (sg_F_t f7 f13) p13⟩⟩
    subst h7
    rw [k4]
    exact ⟨fun _ => ⟨hb, k3, wk σ7 h0 hw⟩, fun _ => ⟨fun _ => ⟨hb, k3, wk σ7 h0 hw⟩, fun z1 => ⟨fun z2 => by omega, fun _ => ⟨hb, k3, wk σ7 h0 hw⟩⟩⟩⟩
/-! THE NESTED RUN of the reference, turn by turn. -/
abbrev goL : List Nat := [122, 123, 124, 125, 126, 127, 128, 129, 130, 131, 132, 133, 134, 135, 55088, 56088, 57088, 61088, 63088, 71088, 74088]
/-- m turns are left -/
def Rx (X : sg_S → Prop) : Nat → sg_S → Prop
  | 0, σ => (sg_g σ 88 62 ≤ 0 → X σ) ∧ (¬ sg_g σ 88 73 = 0 → X σ) ∧ (0 < sg_g σ 88 62 → sg_g σ 88 73 = 0 → False)
  | m + 1, σ => (sg_g σ 88 62 ≤ 0 → X σ) ∧ (¬ sg_g σ 88 73 = 0 → X σ) ∧ (0 < sg_g σ 88 62 → sg_g σ 88 73 = 0 → ∀ Q : sg_S → Prop, (∀ σ', Rx X m σ' → Q σ') → V_goNested σ (fun σ' => sg_F goL σ σ' → Q σ'))
theorem rx_s {X : sg_S → Prop} {m : Nat} {σ : sg_S} (h : ¬ sg_g σ 88 73 = 0) (hX : X σ) : Rx X m σ := by
  cases m with
  | zero => exact ⟨fun _ => hX, fun _ => hX, fun _ z => absurd z h⟩
  | succ m => exact ⟨fun _ => hX, fun _ => hX, fun _ z => absurd z h⟩
theorem rx_e {X : sg_S → Prop} {m : Nat} {σ : sg_S} (h : sg_g σ 88 62 ≤ 0) (hX : X σ) : Rx X m σ := by
  cases m with
  | zero => exact ⟨fun _ => hX, fun _ => hX, fun z _ => by omega⟩
  | succ m => exact ⟨fun _ => hX, fun _ => hX, fun z _ => by omega⟩
theorem rx_g {X : sg_S → Prop} {m : Nat} {σ : sg_S} (h1 : 0 < sg_g σ 88 62) (h2 : sg_g σ 88 73 = 0) (h : ∀ Q : sg_S → Prop, (∀ σ', Rx X m σ' → Q σ') → V_goNested σ (fun σ' => sg_F goL σ σ' → Q σ')) : Rx X (m + 1) σ := ⟨fun z => by omega, fun z => absurd h2 z, fun _ _ => h⟩
/-- a turn of node n, at stage s, its frame f, its values from b on -/
def gxT (σ : sg_S) (f n s b sp : Int) : Prop := sg_g σ 126 f = n ∧ sg_g σ 127 f = s ∧ sg_g σ 128 f = b ∧ sg_g σ 129 f = sp
section GTS
variable {σ : sg_S} {A : aT} {D : List aDf} {T B : Int → Int} {f n s b sp : Int} {Q : sg_S → Prop}
theorem gt_part (hX : pgX σ A D T B) (hn : 0 ≤ n ∧ n < A.1) (hf : sg_g σ 88 62 = f + 1) (f0 : 0 ≤ f ∧ f < 4000) (h : gxT σ f n s b sp) (k15 : ¬ A.2.1 n = 15) (k2 : ¬ (A.2.1 n = 2 ∧ s = 1)) (k3 : A.2.1 n = 3 → s ≤ 0) (hs : s < ((A.2.2.2.2.1 n).length : Int)) (k : V_goPart σ f s (fun σ' => sg_F bgL σ σ' → Q σ')) : V_goNested σ Q := by
  obtain ⟨h1, h2, h3, h4⟩ := h
  obtain ⟨t1, t2, t3, t4, t5⟩ := tr_k hX.1 hn
  have hA := hX.2.2.2.2.1
  have ef : sg_g σ 88 62 - 1 = f := by omega
  unfold V_goNested
  rw [ef, h1, h2, h3, t1, t2]
  refine ⟨⟨by omega, by omega⟩, f0, ⟨hn.1, by omega⟩, fun _ => ⟨fun _ => ⟨fun σ9 => σ9 = σ, ⟨fun _ => rfl, fun z => ⟨fun _ => rfl, fun y => absurd ⟨z, y⟩ k2⟩⟩, fun σ9 f9 e9 => ⟨fun z => by omega, fun _ => ?_⟩⟩, fun z3 => ⟨fun _ => ⟨fun σ9 => σ9 = σ, ⟨fun _ => rfl, fun z => ⟨fun _ => rfl, fun y => absurd ⟨z, y⟩ k2⟩⟩, fun σ9 f9 e9 => ⟨fun z => by omega, fun _ => ?_⟩⟩, fun z => absurd (k3 z3) (by omega)⟩⟩, fun z => absurd z k15⟩
  · subst e9; exact k
  · subst e9; exact k
theorem gt_end (hX : pgX σ A D T B) (hn : 0 ≤ n ∧ n < A.1) (hf : sg_g σ 88 62 = f + 1) (f0 : 0 ≤ f ∧ f < 4000) (h : gxT σ f n s b sp) (k15 : ¬ A.2.1 n = 15) (k3 : ¬ A.2.1 n = 3) (k2 : A.2.1 n = 2 → ¬ s = 1) (hs : ((A.2.2.2.2.1 n).length : Int) ≤ s) (k13 : A.2.1 n = 13 → ¬ s = (A.2.2.2.2.1 n).length) (k : V_endNested σ n b (fun σ' => sg_F [122, 123, 124, 125, 129, 131, 133, 135, 55088, 56088, 57088, 61088, 63088, 71088, 74088] σ σ' → Q σ')) : V_goNested σ Q := by
  obtain ⟨h1, h2, h3, h4⟩ := h
  obtain ⟨t1, t2, t3, t4, t5⟩ := tr_k hX.1 hn
  have hA := hX.2.2.2.2.1
  have ef : sg_g σ 88 62 - 1 = f := by omega
  unfold V_goNested
  rw [ef, h1, h2, h3, t1, t2]
  refine ⟨⟨by omega, by omega⟩, f0, ⟨hn.1, by omega⟩, fun _ => ⟨fun _ => ⟨fun σ9 => σ9 = σ, ⟨fun _ => rfl, fun z => ⟨fun _ => rfl, fun y => absurd y (k2 z)⟩⟩, fun σ9 f9 e9 => ⟨fun _ => ⟨fun _ => ?_, fun z => ⟨fun _ => ?_, fun y => absurd y (k13 z)⟩⟩, fun z => by omega⟩⟩, fun z3 => absurd z3 k3⟩, fun z => absurd z k15⟩
  · subst e9; exact k
  · subst e9; exact k
theorem gt_let {x : Int} (hX : pgX σ A D T B) (hn : 0 ≤ n ∧ n < A.1) (hf : sg_g σ 88 62 = f + 1) (f0 : 0 ≤ f ∧ f < 4000) (h : gxT σ f n 1 b sp) (k2 : A.2.1 n = 2) (hl : (A.2.2.2.2.1 n).length = 2) (hv : sg_g σ 88 70 = x + 1) (hx : 0 ≤ x ∧ x < 12000) (k : ∀ σ9, σ9 = sg_w (sg_w σ 88 70 x) 134 n (sg_g σ 133 x) → V_goPart σ9 f 1 (fun σ' => sg_F bgL σ9 σ' → Q σ')) : V_goNested σ Q := by
  obtain ⟨h1, h2, h3, h4⟩ := h
  obtain ⟨t1, t2, t3, t4, t5⟩ := tr_k hX.1 hn
  have hA := hX.2.2.2.2.1
  have ef : sg_g σ 88 62 - 1 = f := by omega
  have ex : sg_g σ 88 70 - 1 = x := by omega
  unfold V_goNested
  rw [ef, h1, h2, h3, t1, t2, hl, ex]
  refine ⟨⟨by omega, by omega⟩, f0, ⟨hn.1, by omega⟩, fun _ => ⟨fun _ => ⟨fun σ9 => σ9 = sg_w (sg_w σ 88 70 x) 134 n (sg_g σ 133 x), ⟨fun z => absurd k2 z, fun _ => ⟨fun y => absurd rfl y, fun _ => ⟨⟨by omega, by omega⟩, fun σ75 e75 => ⟨hx, fun σ79 e79 => by rw [e79, e75]⟩⟩⟩⟩, fun σ9 f9 e9 => ⟨fun z => by omega, fun _ => k σ9 e9⟩⟩, fun z => by omega⟩, fun z => by omega⟩
theorem gt_if1 {x : Int} (hX : pgX σ A D T B) (hn : 0 ≤ n ∧ n < A.1) (hf : sg_g σ 88 62 = f + 1) (f0 : 0 ≤ f ∧ f < 4000) (h : gxT σ f n 1 b sp) (k3 : A.2.1 n = 3) (hv : sg_g σ 88 70 = x + 1) (hx : 0 ≤ x ∧ x < 12000) (k : ∀ σ9, σ9 = sg_w σ 88 70 x → V_goPart σ9 f (if sg_g σ 133 x = 0 then 2 else 1) (fun σ' => sg_F bgL σ9 σ' → Q σ')) : V_goNested σ Q := by
  obtain ⟨h1, h2, h3, h4⟩ := h
  obtain ⟨t1, t2, t3, t4, t5⟩ := tr_k hX.1 hn
  have hA := hX.2.2.2.2.1
  have ef : sg_g σ 88 62 - 1 = f := by omega
  have ex : sg_g σ 88 70 - 1 = x := by omega
  unfold V_goNested
  rw [ef, h1, h2, h3, t1, t2, ex]
  refine ⟨⟨by omega, by omega⟩, f0, ⟨hn.1, by omega⟩, fun _ => ⟨fun z => absurd k3 z, fun _ => ⟨fun z => by omega, fun _ => ⟨fun z => absurd rfl z, fun _ => ⟨⟨by omega, by omega⟩, fun σ9 e9 => ⟨hx, fun v174 e174 _ => ?_⟩⟩⟩⟩⟩, fun z => by omega⟩
  rw [e174]; exact k σ9 e9
theorem gt_if2 (hX : pgX σ A D T B) (hn : 0 ≤ n ∧ n < A.1) (hf : sg_g σ 88 62 = f + 1) (f0 : 0 ≤ f ∧ f < 4000) (h : gxT σ f n 2 b sp) (k3 : A.2.1 n = 3) (hb : 0 ≤ b ∧ b < 12000) (k : V_leave σ (sg_g σ 133 b) (fun σ' => sg_F lvR σ σ' → Q σ')) : V_goNested σ Q := by
  obtain ⟨h1, h2, h3, h4⟩ := h
  obtain ⟨t1, t2, t3, t4, t5⟩ := tr_k hX.1 hn
  have hA := hX.2.2.2.2.1
  have ef : sg_g σ 88 62 - 1 = f := by omega
  unfold V_goNested
  rw [ef, h1, h2, h3, t1, t2]
  exact ⟨⟨by omega, by omega⟩, f0, ⟨hn.1, by omega⟩, fun _ => ⟨fun z => absurd k3 z, fun _ => ⟨fun z => by omega, fun _ => ⟨fun _ => ⟨hb, k⟩, fun z => absurd z (by decide)⟩⟩⟩, fun z => by omega⟩
theorem gt_each (hX : pgX σ A D T B) (hn : 0 ≤ n ∧ n < A.1) (hf : sg_g σ 88 62 = f + 1) (f0 : 0 ≤ f ∧ f < 4000) (h1 : sg_g σ 126 f = n) (k15 : A.2.1 n = 15) (k : V_goEach σ f (fun σ' => sg_F [122, 123, 124, 125, 126, 127, 128, 129, 130, 131, 132, 133, 134, 55088, 56088, 57088, 61088, 63088, 71088, 74088] σ σ' → Q σ')) : V_goNested σ Q := by
  obtain ⟨t1, t2, t3, t4, t5⟩ := tr_k hX.1 hn
  have hA := hX.2.2.2.2.1
  have ef : sg_g σ 88 62 - 1 = f := by omega
  unfold V_goNested
  rw [ef, h1, t1]
  exact ⟨⟨by omega, by omega⟩, f0, ⟨hn.1, by omega⟩, fun z => absurd k15 z, fun _ => k⟩
theorem gt_call {q : Int} (hX : pgX σ A D T B) (hn : 0 ≤ n ∧ n < A.1) (hf : sg_g σ 88 62 = f + 1) (f0 : 0 ≤ f ∧ f < 4000) (h : gxT σ f n s b sp) (k13 : A.2.1 n = 13) (hs : s = (A.2.2.2.2.1 n).length) (hl : (A.2.2.2.2.1 n).length ≤ 6) (hq : B n = q) (q0 : 0 ≤ q ∧ q < 12) (hb : 0 ≤ b ∧ b + (A.2.2.2.2.1 n).length ≤ 12000) (k : ∀ σ46, sg_F [127, 134, 71088] σ σ46 → (∀ j : Nat, j < (A.2.2.2.2.1 n).length → sg_g σ46 134 (1100 + 6 * q + j) = sg_g σ 133 (b + j)) → (∀ x, ¬ (1100 + 6 * q ≤ x ∧ x < 1100 + 6 * q + (A.2.2.2.2.1 n).length) → sg_g σ46 134 x = sg_g σ 134 x) → sg_g σ46 127 f = s + 1 → (∀ i, ¬ i = f → sg_g σ46 127 i = sg_g σ 127 i) → sg_g σ46 88 70 = b → V_begin σ46 (sg_g σ 105 q) (fun σ' => sg_F bgL σ46 σ' → Q σ')) : V_goNested σ Q := by
  obtain ⟨h1, h2, h3, h4⟩ := h
  obtain ⟨t1, t2, t3, t4, t5⟩ := tr_k hX.1 hn
  have hA := hX.2.2.2.2.1
  have ef : sg_g σ 88 62 - 1 = f := by omega
  have eB : sg_g σ 102 n = q := by rw [hX.2.2.2.1]; exact hq
  unfold V_goNested
  rw [ef, h1, h2, h3, t1, t2, eB]
  refine ⟨⟨by omega, by omega⟩, f0, ⟨hn.1, by omega⟩, fun _ => ⟨fun _ => ⟨fun σ9 => σ9 = σ, ⟨fun _ => rfl, fun z => by omega⟩, fun σ9 f9 e9 => ⟨fun _ => ⟨fun z => absurd k13 z, fun _ => ⟨fun z => absurd hs z, fun _ => ?_⟩⟩, fun z => by omega⟩⟩, fun z => by omega⟩, fun z => by omega⟩
  subst e9
  refine ⟨fun m v27 σ28 => ∃ j : Nat, v27 = j ∧ m = (A.2.2.2.2.1 n).length - j ∧ j ≤ (A.2.2.2.2.1 n).length ∧ (∀ j' : Nat, j' < j → sg_g σ28 134 (1100 + 6 * q + j') = sg_g σ9 133 (b + j')) ∧ ∀ x, ¬ (1100 + 6 * q ≤ x ∧ x < 1100 + 6 * q + j) → sg_g σ28 134 x = sg_g σ9 134 x, fun σ28 => (∀ j' : Nat, j' < (A.2.2.2.2.1 n).length → sg_g σ28 134 (1100 + 6 * q + j') = sg_g σ9 133 (b + j')) ∧ ∀ x, ¬ (1100 + 6 * q ≤ x ∧ x < 1100 + 6 * q + (A.2.2.2.2.1 n).length) → sg_g σ28 134 x = sg_g σ9 134 x, ⟨_, 0, rfl, rfl, Nat.zero_le _, fun j' hj => by omega, fun x _ => rfl⟩, ?_, ?_⟩
  · rintro m v27 σ28 r27 f28 ⟨j, rfl, em, hj, a1, a2⟩
    have ep : v_ofParam q (j : Int) = 1100 + 6 * q + j := rfl
    rw [ep]
    refine ⟨fun z => ⟨fun j' hj' => a1 j' (by omega), fun x hx => a2 x (by omega)⟩, fun z => ⟨⟨⟨by omega, by omega⟩, ⟨by omega, by omega⟩, ⟨by omega, by omega⟩, trivial⟩, ⟨by omega, by omega⟩, ⟨by omega, by omega⟩, ⟨by omega, by omega⟩, fun σ62 e62 => ⟨⟨by omega, by omega⟩, (A.2.2.2.2.1 n).length - (j + 1), by omega, j + 1, by omega, rfl, by omega, fun j' hj' => ?_, fun x hx => ?_⟩⟩⟩
    · by_cases c : j' = j
      · subst c; rw [e62, sg_gw_e _ _ _ _ (sg_Rg _ _ _)]
      · rw [e62, sg_gw_k _ _ _ _ _ _ (by omega)]; exact a1 j' (by omega)
    · rw [e62, sg_gw_k _ _ _ _ _ _ (by omega)]; exact a2 x (by omega)
  · rintro σ28 f28 ⟨a1, a2⟩
    refine ⟨⟨by omega, by omega⟩, fun σ43 e43 σ46 e46 => ⟨q0, k σ46 ?_ (fun j hj => ?_) (fun x hx => ?_) ?_ (fun i hi => ?_) ?_⟩⟩
    · rw [e46, e43]; exact sg_F_w (sg_F_w (sg_F_m f28 rfl) rfl _) rfl _
    · rw [e46, sg_gw_c _ _ _ _ _ _ (by decide), e43, sg_gw_c _ _ _ _ _ _ (by decide)]; exact a1 j hj
    · rw [e46, sg_gw_c _ _ _ _ _ _ (by decide), e43, sg_gw_c _ _ _ _ _ _ (by decide)]; exact a2 x hx
    · rw [e46, sg_gw_c _ _ _ _ _ _ (by decide), e43, sg_gw_e _ _ _ _ ⟨by omega, by omega⟩]
    · rw [e46, sg_gw_c _ _ _ _ _ _ (by decide), e43, sg_gw_k _ _ _ _ _ _ hi, sg_F_ga f28 rfl]
    · rw [e46, sg_gw_e _ _ _ _ ⟨by omega, by omega⟩]
theorem gt_go {x : Int} {j : Nat} (hX : pgX σ A D T B) (hn : 0 ≤ n ∧ n < A.1) (f0 : 0 ≤ f ∧ f < 4000) (h1 : sg_g σ 126 f = n) (h2 : sg_g σ 127 f = s) (s0 : 0 ≤ s ∧ s ≤ 300) (hx : (A.2.2.2.2.1 n)[j]? = some x) (k : ∀ σ3, σ3 = sg_w σ 127 f (s + 1) → V_begin σ3 x (fun σ' => sg_F bgL σ3 σ' → Q σ')) : V_goPart σ f (j : Int) Q := by
  obtain ⟨t1, t2, t3, t4, t5⟩ := tr_k hX.1 hn
  have hA := hX.2.2.2.2.1
  have hj := gE_l hx
  unfold V_goPart
  rw [h1, h2, t4 j x hx]
  exact ⟨f0, ⟨by omega, by omega⟩, fun σ3 e3 => ⟨⟨by omega, by omega⟩, ⟨by omega, by omega⟩, ⟨by omega, by omega⟩, k σ3 e3⟩⟩
end GTS
/-! THE NESTED RUN of the reference in big steps: what is kept. -/
section GDF
variable (A : aT) (D : List aDf) (T : Int → Int)
def rlR (σ : sg_S) (ρ : eV) (y : Int) : Prop := rvF σ (bTy A D T y).toNat (ρ y) (sg_g σ 134 y)
def scR (σ : sg_S) (ρ : eV) (sc : List (Int × Int)) : Prop := ∀ p ∈ sc, (0 ≤ p.1 ∧ p.1 < 1200) ∧ p.2 = bTy A D T p.1 ∧ rlR A D T σ ρ p.1
/-- between turns: frames, values, work -/
def gS (σb σ : sg_S) (fr b w : Int) : Prop := sg_F goL σb σ ∧ sg_g σ 88 73 = 0 ∧ (sg_g σ 88 62 = fr ∧ sg_g σ 88 70 = b ∧ sg_g σ 88 54 = w) ∧ (0 ≤ fr ∧ 0 ≤ b ∧ 0 ≤ sg_g σ 88 56 ∧ 0 ≤ sg_g σ 88 60) ∧ (0 ≤ w ∧ w ≤ 3000) ∧ sg_g σ 88 56 + fr ≤ w ∧ sg_g σ 88 60 ≤ w ∧ b + fr ≤ w
/-- the frame below -/
def gPa (σ : sg_S) (fr w : Int) : Prop := ¬ fr = 0 → (0 ≤ sg_g σ 126 (fr - 1) ∧ sg_g σ 126 (fr - 1) < 210) ∧ (0 ≤ sg_g σ 129 (fr - 1) ∧ sg_g σ 129 (fr - 1) ≤ w) ∧ (0 ≤ sg_g σ 131 (fr - 1) ∧ sg_g σ 131 (fr - 1) ≤ w)
def rw7 (σ σ' : sg_S) (i : Int) : Prop := sg_g σ' 126 i = sg_g σ 126 i ∧ sg_g σ' 127 i = sg_g σ 127 i ∧ sg_g σ' 128 i = sg_g σ 128 i ∧ sg_g σ' 129 i = sg_g σ 129 i ∧ sg_g σ' 130 i = sg_g σ 130 i ∧ sg_g σ' 131 i = sg_g σ 131 i ∧ sg_g σ' 132 i = sg_g σ 132 i
/-- what stays while a node is worked out -/
def gV (σ σ' : sg_S) (ρ ρ' : eV) (fr b : Int) : Prop := nEx σ σ' ∧ (∀ x, x < b → sg_g σ' 133 x = sg_g σ 133 x) ∧ (∀ y, rlR A D T σ ρ y → rlR A D T σ' ρ' y) ∧ ∀ i, i < fr → rw7 σ σ' i
/-- what a node leaves: its span goes to the frame below -/
def gU (σ σ' : sg_S) (ρ ρ' : eV) (fr b s : Int) : Prop := nEx σ σ' ∧ (∀ x, x < b → sg_g σ' 133 x = sg_g σ 133 x) ∧ (∀ y, rlR A D T σ ρ y → rlR A D T σ' ρ' y) ∧ (∀ i, i < fr - 1 → rw7 σ σ' i) ∧ (¬ fr = 0 → (sg_g σ' 126 (fr - 1) = sg_g σ 126 (fr - 1) ∧ sg_g σ' 127 (fr - 1) = sg_g σ 127 (fr - 1) ∧ sg_g σ' 128 (fr - 1) = sg_g σ 128 (fr - 1) ∧ sg_g σ' 130 (fr - 1) = sg_g σ 130 (fr - 1) ∧ sg_g σ' 132 (fr - 1) = sg_g σ 132 (fr - 1)) ∧ (v_isInPlaces σ (fr - 1) = 0 → sg_g σ' 129 (fr - 1) = sg_g σ 129 (fr - 1) + s ∧ sg_g σ' 131 (fr - 1) = sg_g σ 131 (fr - 1)) ∧ (¬ v_isInPlaces σ (fr - 1) = 0 → sg_g σ' 129 (fr - 1) = sg_g σ 129 (fr - 1) ∧ sg_g σ' 131 (fr - 1) = sg_g σ 131 (fr - 1) + s)) ∧ (fr = 0 → sg_g σ' 88 55 = s)
variable (σb : sg_S) (X : sg_S → Prop)
/-- what a node is to be followed by -/
def kG (σ : sg_S) (ρ : eV) (fr b cr : Int) (d : Nat) : eR → Prop
  | .inl (e, w') => ∀ σ', sg_F goL σb σ' → sg_g σ' 88 73 = e → ¬ e = 0 → sg_g σ' 88 54 = w' → X σ'
  | .inr (v, w', s', ρ') => ∀ σ' m', gS σb σ' fr (b + 1) w' → gU A D T σ σ' ρ ρ' fr b s' → rvF σ' d v (sg_g σ' 133 b) → 8 * (3001 - w') + cr + 3 ≤ ((m' : Nat) : Int) → Rx X m' σ'
/-- the big step of a node, from its begin on -/
def gxN (B : Int → Int) (call : Int → eV → Int → eR) (ds : kD) (f : Nat) : Prop := ∀ (n : Int) (sc : List (Int × Int)), tyN A ds T B f sc n → ∀ (σ : sg_S) (m : Nat) (ρ : eV) (fr b w cr : Int), gS σb σ fr b w → gPa σ fr w → scR A D T σ ρ sc → 8 * (3001 - w) + cr ≤ (m : Int) → 0 ≤ cr → kG A D T σb X σ ρ fr b cr (T n).toNat (evN A T B call f n ρ w) → ∀ Q : sg_S → Prop, (∀ σ', Rx X m σ' → Q σ') → V_begin σ n Q
end GDF
section GLM
variable {A : aT} {D : List aDf} {T B : Int → Int} {σb : sg_S} {X : sg_S → Prop}
theorem rw7_r (σ : sg_S) (i : Int) : rw7 σ σ i := ⟨rfl, rfl, rfl, rfl, rfl, rfl, rfl⟩
theorem rw7_t {σ σ1 σ2 : sg_S} {i : Int} (h : rw7 σ σ1 i) (g : rw7 σ1 σ2 i) : rw7 σ σ2 i := by
  obtain ⟨a1, a2, a3, a4, a5, a6, a7⟩ := h
  obtain ⟨b1, b2, b3, b4, b5, b6, b7⟩ := g
  exact ⟨b1.trans a1, b2.trans a2, b3.trans a3, b4.trans a4, b5.trans a5, b6.trans a6, b7.trans a7⟩
theorem gV_r (σ : sg_S) (ρ : eV) (fr b : Int) : gV A D T σ σ ρ ρ fr b := ⟨nEx_r σ, fun _ _ => rfl, fun _ h => h, fun i _ => rw7_r σ i⟩
theorem gV_t {σ σ1 σ2 : sg_S} {ρ ρ1 ρ2 : eV} {fr b fr1 b1 fr2 b2 : Int} (h : gV A D T σ σ1 ρ ρ1 fr1 b1) (g : gV A D T σ1 σ2 ρ1 ρ2 fr2 b2) (hf : fr ≤ fr1 ∧ fr ≤ fr2) (hb : b ≤ b1 ∧ b ≤ b2) : gV A D T σ σ2 ρ ρ2 fr b := by
  obtain ⟨a1, a2, a3, a4⟩ := h
  obtain ⟨c1, c2, c3, c4⟩ := g
  exact ⟨nEx_t a1 c1, fun x hx => by rw [c2 x (by omega), a2 x (by omega)], fun y hy => c3 y (a3 y hy), fun i hi => rw7_t (a4 i (by omega)) (c4 i (by omega))⟩
theorem rlR_up {σ σ' : sg_S} {ρ : eV} {y : Int} (h : rlR A D T σ ρ y) (x : nEx σ σ') (e : sg_g σ' 134 y = sg_g σ 134 y) : rlR A D T σ' ρ y := by
  unfold rlR
  rw [e]
  exact rvF_up x h
theorem gV_F {K : List Nat} {σ σ' : sg_S} {ρ : eV} {fr b : Int} (f : sg_F K σ σ') (hx : nEx σ σ') (hK : (sg_ca K 133 && sg_ca K 134 && sg_ca K 126 && sg_ca K 127 && sg_ca K 128 && sg_ca K 129 && sg_ca K 130 && sg_ca K 131 && sg_ca K 132) = true) : gV A D T σ σ' ρ ρ fr b := by
  simp only [Bool.and_eq_true] at hK
  obtain ⟨⟨⟨⟨⟨⟨⟨⟨k1, k2⟩, k3⟩, k4⟩, k5⟩, k6⟩, k7⟩, k8⟩, k9⟩ := hK
  exact ⟨hx, fun x _ => sg_F_ga f k1, fun y hy => rlR_up hy hx (sg_F_ga f k2), fun i _ => ⟨sg_F_ga f k3, sg_F_ga f k4, sg_F_ga f k5, sg_F_ga f k6, sg_F_ga f k7, sg_F_ga f k8, sg_F_ga f k9⟩⟩
theorem gU_V {σ σ' : sg_S} {ρ ρ' : eV} {fr b b' s : Int} (h : gU A D T σ σ' ρ ρ' (fr + 1) b s) (hb : b' ≤ b) : gV A D T σ σ' ρ ρ' fr b' := by
  obtain ⟨a1, a2, a3, a4, a5, a6⟩ := h
  exact ⟨a1, fun x hx => a2 x (by omega), a3, fun i hi => a4 i (by omega)⟩
theorem scR_u {σ σ' : sg_S} {ρ ρ' : eV} {fr b : Int} {sc : List (Int × Int)} (h : scR A D T σ ρ sc) (u : gV A D T σ σ' ρ ρ' fr b) : scR A D T σ' ρ' sc := fun p hp => by
  obtain ⟨a1, a2, a3⟩ := h p hp
  exact ⟨a1, a2, u.2.2.1 _ a3⟩
theorem gX (hX : pgX σb A D T B) {σ : sg_S} (f : sg_F goL σb σ) : pgX σ A D T B := pgX_F f rfl hX
/-- a write to a frame, or to what is bound -/
theorem gS_w {σ σ' : sg_S} {fr b w b' : Int} {K : List Nat} (h : gS σb σ fr b w) (f : sg_F K σ σ') (hK : (!sg_cv K 88 73 && !sg_cv K 88 62 && !sg_cv K 88 54 && !sg_cv K 88 56 && !sg_cv K 88 60) = true) (hg : sg_F goL σ σ') (hb : sg_g σ' 88 70 = b') (b0 : 0 ≤ b' ∧ b' ≤ b) : gS σb σ' fr b' w := by
  simp only [Bool.and_eq_true, Bool.not_eq_true'] at hK
  obtain ⟨⟨⟨⟨k1, k2⟩, k3⟩, k4⟩, k5⟩ := hK
  obtain ⟨a1, a2, ⟨a3, a4, a5⟩, a6, a7, a8, a9, a10⟩ := h
  refine ⟨sg_F_t a1 hg, by rw [sg_F_g f k1]; exact a2, ⟨by rw [sg_F_g f k2]; exact a3, hb, by rw [sg_F_g f k3]; exact a5⟩, ⟨a6.1, b0.1, by rw [sg_F_g f k4]; exact a6.2.2.1, by rw [sg_F_g f k5]; exact a6.2.2.2⟩, a7, by rw [sg_F_g f k4]; exact a8, by rw [sg_F_g f k5]; exact a9, by omega⟩
theorem gl_ip {σ σ2 : sg_S} {i : Int} (h : rw7 σ σ2 i) (f : sg_F goL σb σ) (f2 : sg_F goL σb σ2) : v_isInPlaces σ2 i = v_isInPlaces σ i := by
  obtain ⟨r1, r2, r3, r4, r5, r6, r7⟩ := h
  have e93 : ∀ x, sg_g σ2 93 x = sg_g σ 93 x := fun x => (sg_F_ga f2 rfl).trans (sg_F_ga f rfl).symm
  have e98 : ∀ x, sg_g σ2 98 x = sg_g σ 98 x := fun x => (sg_F_ga f2 rfl).trans (sg_F_ga f rfl).symm
  unfold v_isInPlaces
  rw [r1, r2, e93, e98]
/-- the end of a node: its value leaves -/
theorem gl_leave {σ σ2 : sg_S} {ρ ρ2 : eV} {fr b w n s sp v c cr K : Int} {d m : Nat} {vf : vaF} {Q : sg_S → Prop} (hX : pgX σb A D T B) (hσ : sg_F goL σb σ) (hn : 0 ≤ n ∧ n < A.1) (a1 : sg_F goL σb σ2) (a2 : sg_g σ2 88 73 = 0) (a3 : sg_g σ2 88 62 = fr + 1) (a5 : sg_g σ2 88 54 = w) (a6 : 0 ≤ fr ∧ 0 ≤ sg_g σ2 88 56 ∧ 0 ≤ sg_g σ2 88 60) (a7 : 0 ≤ w ∧ w ≤ 3000) (hb : 0 ≤ b) (hb2 : b + (fr + 1) ≤ w) (hT : gxT σ2 fr n s b sp) (hsp : 0 ≤ sp ∧ sp ≤ w) (hP : gPa σ fr w) (hV : gV A D T σ σ2 ρ ρ2 fr b) (hv : sg_R v) (hr : rvF σ2 d vf v) (hK : A.2.1 n = K) (hcs : cstF σ2 K v b c) (hc : 0 ≤ c ∧ c ≤ 8040200) (hsq : sg_g σ2 88 56 + fr ≤ w + c) (hit : sg_g σ2 88 60 ≤ w + c) (hm : 8 * (3001 - w) + cr + 3 ≤ (m : Int)) (k : kG A D T σb X σ ρ fr b cr d (if w + c ≤ 3000 then .inr (vf, w + c, sp, ρ2) else .inl (7, w))) (hQ : ∀ σ', Rx X m σ' → Q σ') : V_leave σ2 v Q := by
  have hX2 := gX hX a1
  have hA := hX.2.2.2.2.1
  obtain ⟨t1, t2, t3, t4⟩ := hT
  have k1 := (tr_k hX2.1 hn).1
  have frows : ∀ i, i < fr → rw7 σ σ2 i := hV.2.2.2
  refine x_leave (f := fr) (n := n) (b := b) (c := c) (w := w) (sp := sp) (K := K) a2 a5 a7 (by omega) ⟨by omega, by omega⟩ t1 ⟨hn.1, by omega⟩ t3 ⟨hb, by omega⟩ hv t4 ⟨hsp.1, by omega⟩ (by rw [k1]; exact hK) hcs hc (fun z => ?_) (fun z σ' y1 y2 y3 => hQ σ' ?_) (fun z σ' y1 y2 y3 y4 y5 y6 y7 y8 y9 y10 => hQ σ' ?_)
  · obtain ⟨q1, q2, q3⟩ := hP z
    obtain ⟨r1, r2, r3, r4, r5, r6, r7⟩ := frows (fr - 1) (by omega)
    rw [r1, r4, r6]
    exact ⟨q1, ⟨q2.1, by omega⟩, ⟨q3.1, by omega⟩⟩
  · rw [if_neg z] at k
    exact rx_s (by rw [y1]; decide) (k σ' (sg_F_t a1 (sg_F_m y3 rfl)) y1 (by decide) y2)
  · rw [if_pos z] at k
    have ex : nEx σ2 σ' := nEx_F y10 rfl
    have g56 : sg_g σ' 88 56 = sg_g σ2 88 56 := sg_F_g y10 (by rfl)
    have g60 : sg_g σ' 88 60 = sg_g σ2 88 60 := sg_F_g y10 (by rfl)
    refine k σ' m ⟨sg_F_t a1 (sg_F_m y10 rfl), y1, ⟨y6, y3, y2⟩, ⟨a6.1, by omega, by rw [g56]; exact a6.2.1, by rw [g60]; exact a6.2.2⟩, ⟨by omega, z⟩, by omega, by omega, by omega⟩ ⟨nEx_t hV.1 ex, fun x hx => by rw [y5 x (by omega)]; exact hV.2.1 x hx, fun y hy => rlR_up (hV.2.2.1 y hy) ex (sg_F_ga y10 rfl), fun i hi => ?_, fun z0 => ?_, y7⟩ (by rw [y4]; exact rvF_up ex hr) (by omega)
    · have q := frows i (by omega)
      obtain ⟨r4, r6⟩ := y8 i (by omega)
      exact rw7_t q ⟨sg_F_ga y10 rfl, sg_F_ga y10 rfl, sg_F_ga y10 rfl, r4, sg_F_ga y10 rfl, r6, sg_F_ga y10 rfl⟩
    · obtain ⟨r1, r2, r3, r4, r5, r6, r7⟩ := frows (fr - 1) (by omega)
      obtain ⟨q1, q2⟩ := y9 z0
      refine ⟨⟨by rw [sg_F_ga y10 rfl, r1], by rw [sg_F_ga y10 rfl, r2], by rw [sg_F_ga y10 rfl, r3], by rw [sg_F_ga y10 rfl, r5], by rw [sg_F_ga y10 rfl, r7]⟩, fun q => ?_, fun q => ?_⟩
      · obtain ⟨q3, q4⟩ := q1 (by rw [gl_ip (frows (fr - 1) (by omega)) hσ a1]; exact q)
        exact ⟨by rw [q3, r4], by rw [q4, r6]⟩
      · obtain ⟨q3, q4⟩ := q2 (by rw [gl_ip (frows (fr - 1) (by omega)) hσ a1]; exact q)
        exact ⟨by rw [q3, r4], by rw [q4, r6]⟩
end GLM
/-! THE NESTED RUN of the reference in big steps: parts, operations. -/
section GNR
variable {A : aT} {D : List aDf} {T B : Int → Int} {σb : sg_S} {X : sg_S → Prop} {call : Int → eV → Int → eR} {ds : kD} {f : Nat}
/-- BEGIN of a node: its frame -/
theorem gb_begin {σ : sg_S} {n fr b w : Int} {ρ : eV} {m : Nat} {Q : sg_S → Prop} (hS : gS σb σ fr b w) (hn : 0 ≤ n ∧ n < 210) (hQ : ∀ σ', Rx X m σ' → Q σ') (kF : ¬ w + 1 ≤ 3000 → ∀ σ', sg_F goL σb σ' → sg_g σ' 88 73 = 7 → ¬ (7 : Int) = 0 → sg_g σ' 88 54 = w → X σ') (kS : w + 1 ≤ 3000 → ∀ σ', gS σb σ' (fr + 1) b (w + 1) → gxT σ' fr n 0 b 1 → (sg_g σ' 130 fr = 0 ∧ sg_g σ' 131 fr = 0 ∧ sg_g σ' 132 fr = 0) → gV A D T σ σ' ρ ρ fr b → Rx X m σ') : V_begin σ n Q := by
  obtain ⟨a1, a2, ⟨a3, a4, a5⟩, a6, a7, a8, a9, a10⟩ := id hS
  refine x_begin a2 a5 a7 ⟨by omega, by omega⟩ (by rw [a3]; exact ⟨a6.1, by omega⟩) (fun z σ' y1 y2 y3 => hQ σ' ?_) (fun z σ' y1 y2 y3 y4 y5 y6 => hQ σ' ?_)
  · exact rx_s (by rw [y1]; decide) (kF z σ' (sg_F_t a1 (sg_F_m y3 rfl)) y1 (by decide) y2)
  · rw [a3] at y3 y4 y5
    rw [a4] at y4
    have ex : nEx σ σ' := nEx_F y6 rfl
    have g56 : sg_g σ' 88 56 = sg_g σ 88 56 := sg_F_g y6 (by rfl)
    have g60 : sg_g σ' 88 60 = sg_g σ 88 60 := sg_F_g y6 (by rfl)
    obtain ⟨q1, q2, q3, q4, q5, q6, q7⟩ := y4
    exact kS z σ' ⟨sg_F_t a1 (sg_F_m y6 rfl), y1, ⟨y3, by rw [sg_F_g y6 (by rfl)]; exact a4, y2⟩, ⟨by omega, a6.2.1, by rw [g56]; exact a6.2.2.1, by rw [g60]; exact a6.2.2.2⟩, ⟨by omega, z⟩, by omega, by omega, by omega⟩ ⟨q1, q2, q3, q4⟩ ⟨q5, q6, q7⟩ ⟨ex, fun x _ => sg_F_ga y6 rfl, fun y hy => rlR_up hy ex (sg_F_ga y6 rfl), fun i hi => y5 i (by omega)⟩
/-- what parts are to be followed by -/
def kGr (A : aT) (D : List aDf) (T : Int → Int) (σb : sg_S) (X : sg_S → Prop) (σ : sg_S) (ρ : eV) (n fr b sp cr : Int) (st : Nat) (ks R : List Int) : eRs → Prop
  | .inl (e, w') => ∀ σ', sg_F goL σb σ' → sg_g σ' 88 73 = e → ¬ e = 0 → sg_g σ' 88 54 = w' → X σ'
  | .inr (vs, w', s', ρ') => ∀ σ' m', vs.length = R.length → gS σb σ' (fr + 1) (b + st + R.length) w' → gxT σ' fr n (st + R.length : Nat) b (sp + s') → (0 ≤ sp + s' ∧ sp + s' ≤ w') → (sg_g σ' 130 fr = sg_g σ 130 fr ∧ sg_g σ' 131 fr = sg_g σ 131 fr ∧ sg_g σ' 132 fr = sg_g σ 132 fr) → gV A D T σ σ' ρ ρ' fr (b + st) → (∀ (i : Nat) (x : Int) (v : vaF), R[i]? = some x → vs[i]? = some v → rvF σ' (T x).toNat v (sg_g σ' 133 (b + st + i))) → 8 * (3001 - w') + cr ≤ ((m' : Nat) : Int) → Rx X m' σ'
theorem ip_0 {σ : sg_S} {n : Int} {i s b sp : Int} (hX : pgX σ A D T B) (hn : 0 ≤ n ∧ n < A.1) (h : gxT σ i n s b sp) (hk : ¬ A.2.1 n = 15 ∨ s ≤ (A.2.2.2.2.2 n).length) : v_isInPlaces σ i = 0 := by
  obtain ⟨h1, h2, h3, h4⟩ := h
  obtain ⟨t1, t2, t3, t4, t5⟩ := tr_k hX.1 hn
  unfold v_isInPlaces
  rw [h1, h2, t1, t5]
  by_cases c : A.2.1 n = 15
  · rw [if_neg (fun z => z c)]
    rcases hk with z | z
    · exact absurd c z
    · rw [if_pos z]
  · rw [if_pos c]
/-- parts st .. of node n, in order; part number off + st of its kids -/
theorem gRow (hX : pgX σb A D T B) (hcB : gB (evN A T B call f)) (F : gxN A D T σb X B call ds f) {n : Int} {sc : List (Int × Int)} {off : Nat} (hn : 0 ≤ n ∧ n < A.1) (go : ∀ (σ : sg_S) (st : Nat) (b sp fr x : Int) (Q : sg_S → Prop), pgX σ A D T B → sg_g σ 88 62 = fr + 1 → 0 ≤ fr ∧ fr < 4000 → gxT σ fr n st b sp → (A.2.1 n = 15 → st < (A.2.2.2.2.2 n).length) → (A.2.2.2.2.1 n)[off + st]? = some x → (∀ σ3, σ3 = sg_w σ 127 fr (st + 1) → ∀ Q' : sg_S → Prop, (∀ σ', Q σ' → Q' σ') → V_begin σ3 x Q') → V_goNested σ (fun σ' => sg_F goL σ σ' → Q σ')) : ∀ (R : List Int) (st : Nat), (∀ (i : Nat) (x : Int), R[i]? = some x → (A.2.2.2.2.1 n)[off + (st + i)]? = some x) → (A.2.1 n = 15 → st + R.length ≤ (A.2.2.2.2.2 n).length) → (∀ x ∈ R, tyN A ds T B f sc x) → ∀ (σ : sg_S) (m : Nat) (ρ : eV) (fr b w sp cr : Int), gS σb σ (fr + 1) (b + st) w → 0 ≤ fr → 0 ≤ b → gxT σ fr n st b sp → (0 ≤ sp ∧ sp ≤ w) → (0 ≤ sg_g σ 131 fr ∧ sg_g σ 131 fr ≤ w) → scR A D T σ ρ sc → 8 * (3001 - w) + cr ≤ (m : Int) → 1 ≤ cr → kGr A D T σb X σ ρ n fr b sp cr st (A.2.2.2.2.1 n) R (eS (evN A T B call f) R ρ w) → Rx X m σ
  | [], st, hR, h15, hty, σ, m, ρ, fr, b, w, sp, cr, hS, f0, b0, hT, hsp, h131, hs, hm, hcr, k => by
    simp only [eS, kGr, List.length_nil, Int.ofNat_zero, Int.cast_ofNat_Int, Int.add_zero, Nat.add_zero] at k
    exact k σ m trivial hS hT hsp ⟨rfl, rfl, rfl⟩ (gV_r σ ρ _ _) (fun i x v hx => by simp at hx) hm
  | x :: R, st, hR, h15, hty, σ, m, ρ, fr, b, w, sp, cr, hS, f0, b0, hT, hsp, h131, hs, hm, hcr, k => by
    obtain ⟨a1, a2, ⟨a3, a4, a5⟩, a6, a7, a8, a9, a10⟩ := id hS
    have hXσ := gX hX a1
    have hA := hX.2.2.2.2.1
    obtain ⟨m, rfl⟩ : ∃ m', m = m' + 1 := ⟨m - 1, by omega⟩
    refine rx_g (by omega) a2 (fun Qz hz => go σ st b sp fr x Qz hXσ a3 ⟨f0, by omega⟩ hT (fun c => by have := h15 c; simp only [List.length_cons] at this; omega) (by have := hR 0 x rfl; rw [Nat.add_zero] at this; exact this) (fun σ3 e3 Q' hQ' => ?_))
    have f3 : sg_F [127] σ σ3 := by rw [e3]; exact sg_F_w (sg_F_r _ _) rfl _
    have S3 : gS σb σ3 (fr + 1) (b + st) w := gS_w hS f3 rfl (sg_F_m f3 rfl) (by rw [sg_F_g f3 (by rfl)]; exact a4) ⟨by omega, Int.le_refl _⟩
    have o127 : ∀ i, ¬ i = fr → sg_g σ3 127 i = sg_g σ 127 i := fun i hi => by rw [e3, sg_gw_k _ _ _ _ _ _ hi]
    have stb : st ≤ 200 := by
      have := gE_l (hR 0 x rfl)
      have := (tr_k hX.1 hn).2.2.1
      omega
    have T3 : gxT σ3 fr n (st + 1 : Nat) b sp := ⟨by rw [sg_F_ga f3 rfl]; exact hT.1, by rw [e3, sg_gw_e _ _ _ _ ⟨by omega, by omega⟩]; omega, by rw [sg_F_ga f3 rfl]; exact hT.2.2.1, by rw [sg_F_ga f3 rfl]; exact hT.2.2.2⟩
    have V3 : gV A D T σ σ3 ρ ρ fr (b + st) := ⟨nEx_F f3 rfl, fun y _ => sg_F_ga f3 rfl, fun y hy => rlR_up hy (nEx_F f3 rfl) (sg_F_ga f3 rfl), fun i hi => ⟨sg_F_ga f3 rfl, o127 i (by omega), sg_F_ga f3 rfl, sg_F_ga f3 rfl, sg_F_ga f3 rfl, sg_F_ga f3 rfl, sg_F_ga f3 rfl⟩⟩
    have X3 := gX hX S3.1
    refine F x sc (hty x (by simp)) σ3 m ρ (fr + 1) (b + st) w (cr - 1) S3 (fun _ => ?_) (scR_u hs V3) (by omega) (by omega) ?_ Q' (fun σ' h => hQ' σ' (hz σ' h))
    · rw [show fr + 1 - 1 = fr by omega, T3.1, T3.2.2.2, sg_F_ga f3 rfl]
      exact ⟨⟨hn.1, by omega⟩, hsp, h131⟩
    · have bnd := hcB x ρ w
      simp only [eS] at k
      generalize evN A T B call f x ρ w = r at k bnd
      match r, k, bnd with
      | .inl (e, w'), k, _ => exact k
      | .inr (v, w1, s1, ρ1), k, bnd =>
        intro σ4 m4 S4 U4 v4 hm4
        have bb := bnd v w1 s1 ρ1 a7.2 rfl
        simp only at k
        have ip := ip_0 X3 hn T3 (by
          by_cases c : A.2.1 n = 15
          · right
            have := h15 c
            simp only [List.length_cons] at this
            omega
          · exact Or.inl c)
        obtain ⟨u1, u2, u3, u4, u5, u6⟩ := id U4
        rw [show fr + 1 - 1 = fr by omega] at u5
        obtain ⟨⟨w1', w2', w3', w4', w5'⟩, w6, w7⟩ := u5 (by omega)
        obtain ⟨w8, w9⟩ := w6 ip
        have T4 : gxT σ4 fr n (st + 1 : Nat) b (sp + s1) := ⟨by rw [w1']; exact T3.1, by rw [w2']; exact T3.2.1, by rw [w3']; exact T3.2.2.1, by rw [w8, T3.2.2.2]⟩
        have V4 : gV A D T σ σ4 ρ ρ1 fr (b + st) := gV_t V3 (gU_V (b' := b + st) U4 (Int.le_refl _)) ⟨Int.le_refl _, Int.le_refl _⟩ ⟨Int.le_refl _, Int.le_refl _⟩
        have r131 : sg_g σ4 131 fr = sg_g σ 131 fr := by rw [w9, sg_F_ga f3 rfl]
        refine gRow hX hcB F hn go R (st + 1) (fun i y hy => ?_) (fun c => by have := h15 c; simp only [List.length_cons] at this; omega) (fun y hy => hty y (by simp [hy])) σ4 m4 ρ1 fr b w1 (sp + s1) cr (by rw [show b + ((st + 1 : Nat) : Int) = b + st + 1 by omega]; exact S4) f0 b0 T4 ⟨by omega, by omega⟩ (by rw [r131]; exact ⟨h131.1, by omega⟩) (scR_u hs V4) (by omega) hcr ?_
        · have := hR (i + 1) y hy
          rw [show off + (st + (i + 1)) = off + (st + 1 + i) by omega] at this
          exact this
        · generalize eS (evN A T B call f) R ρ1 w1 = r2 at k
          match r2, k with
          | .inl (e, w'), k => exact k
          | .inr (vs, w2, s2, ρ2), k =>
            intro σ5 m5 l5 S5 T5 sp5 r5 V5 v5 hm5
            refine k σ5 m5 (by simp only [List.length_cons]; omega) ?_ ?_ ⟨by omega, by omega⟩ ⟨by rw [r5.1, w4', sg_F_ga f3 rfl], by rw [r5.2.1, r131], by rw [r5.2.2, w5', sg_F_ga f3 rfl]⟩ (gV_t V4 V5 ⟨Int.le_refl _, Int.le_refl _⟩ ⟨Int.le_refl _, by omega⟩) (fun i y v' hy hv' => ?_) hm5
            · simp only [List.length_cons]
              rw [show b + (st : Int) + ((R.length + 1 : Nat) : Int) = b + ((st + 1 : Nat) : Int) + R.length by omega]
              exact S5
            · simp only [List.length_cons]
              rw [show st + (R.length + 1) = st + 1 + R.length by omega, show sp + (s1 + s2) = sp + s1 + s2 by omega]
              exact T5
            · cases i with
              | zero =>
                simp only [List.getElem?_cons_zero, Option.some.injEq] at hy hv'
                subst hy hv'
                simp only [Int.ofNat_zero, Int.cast_ofNat_Int, Int.add_zero]
                rw [V5.2.1 _ (by omega)]
                exact rvF_up V5.1 v4
              | succ i =>
                simp only [List.getElem?_cons_succ] at hy hv'
                have := v5 i y v' hy hv'
                rw [show b + ((st + 1 : Nat) : Int) + (i : Int) = b + (st : Int) + ((i + 1 : Nat) : Int) by omega] at this
                exact this
theorem go_op {n : Int} (hn : 0 ≤ n ∧ n < A.1) (k15 : ¬ A.2.1 n = 15) (k3 : ¬ A.2.1 n = 3) (k2 : ¬ A.2.1 n = 2) (σ : sg_S) (st : Nat) (b sp fr x : Int) (Q : sg_S → Prop) (hX : pgX σ A D T B) (hf : sg_g σ 88 62 = fr + 1) (f0 : 0 ≤ fr ∧ fr < 4000) (hT : gxT σ fr n st b sp) (_ : A.2.1 n = 15 → st < (A.2.2.2.2.2 n).length) (hx : (A.2.2.2.2.1 n)[0 + st]? = some x) (k : ∀ σ3, σ3 = sg_w σ 127 fr (st + 1) → ∀ Q' : sg_S → Prop, (∀ σ', Q σ' → Q' σ') → V_begin σ3 x Q') : V_goNested σ (fun σ' => sg_F goL σ σ' → Q σ') := by
  rw [Nat.zero_add] at hx
  have hl := gE_l hx
  have h200 := (tr_k hX.1 hn).2.2.1
  exact gt_part hX hn hf f0 hT k15 (fun z => k2 z.1) (fun z => absurd z k3) (by omega) (gt_go hX hn f0 hT.1 hT.2.1 ⟨by omega, by omega⟩ hx (fun σ3 e3 => k σ3 e3 _ (fun σ' hq _ _ _ => hq)))
end GNR
