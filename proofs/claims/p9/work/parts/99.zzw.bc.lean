/-! All ACTS of nested runs of the reference, exactly. -/
section ACZ
variable {σ : sg_S} {n a b K ta tb ty x : Int} {u v : vaF} {Q : Int → sg_S → Prop}
theorem rv_s {d : Nat} {k : Int} {y : Int} (h : rvF σ k.toNat v y) (hd : k = d) : rvF σ d v y := by subst hd; exact h
theorem aX_m {d : Nat} {r : Int ⊕ (vaF × Int)} {Q' : Int → sg_S → Prop} (h : aX σ d Q r) (m : ∀ q σ', Q q σ' → Q' q σ') : aX σ d Q' r := by
  match r, h with
  | .inl e, h => exact fun q σ' x1 x2 => m _ _ (h q σ' x1 x2)
  | .inr (v, c), h => exact fun q σ' x1 x2 x3 x4 x5 => m _ _ (h q σ' x1 x2 x3 x4 x5)
theorem x_act1 (h0 : sg_g σ 88 73 = 0) (hB : (0 ≤ sg_g σ 88 56 ∧ sg_g σ 88 56 ≤ 3000) ∧ 0 ≤ sg_g σ 88 60 ∧ sg_g σ 88 60 ≤ 3000) (hn : 0 ≤ n ∧ n < 210) (hK : sg_g σ 93 n = K) (hT : sg_g σ 101 n = ty) (hty : ty ≤ 3) (hta : 0 ≤ ta ∧ ta ≤ 3) (ha : rvF σ ta.toNat v a) (ho : op1 K ta ty) (h11 : ¬ K = 11) (h : aX σ ty.toNat Q (eO K ty x [v])) : V_acted σ n a b Q := by
  have hB' : nB σ := by unfold nB; omega
  unfold V_acted
  rcases ho with ⟨e, q1, q2⟩ | ⟨e, q1, q2⟩ | ⟨e, q1, q2⟩ | ⟨e, q1, q2⟩ | ⟨e, q1, q2⟩ | ⟨e, q1, q2⟩
  · exact absurd e h11
  · subst e
    rw [q2] at h
    have e0 : a = v [] := (rv_s ha q1).symm
    rw [e0]
    exact ⟨hn, fun _ => x_iota h0 hB' h, fun z => absurd hK z⟩
  · rw [q2] at h
    have a1 : rvF σ 1 v a := rv_s ha q1
    rcases e with e | e | e
    · subst e
      exact ⟨hn, fun z => absurd z (by omega), fun _ => ⟨fun z => absurd z (by omega), fun _ => ⟨fun _ => x_sum hB' a1 h, fun z => absurd hK z⟩⟩⟩
    · subst e
      exact ⟨hn, fun z => absurd z (by omega), fun _ => ⟨fun z => absurd z (by omega), fun _ => ⟨fun z => absurd z (by omega), fun _ => ⟨fun _ => x_max h0 hB' hn hK (Or.inl rfl) a1 h, fun z => absurd hK z⟩⟩⟩⟩
    · subst e
      exact ⟨hn, fun z => absurd z (by omega), fun _ => ⟨fun z => absurd z (by omega), fun _ => ⟨fun z => absurd z (by omega), fun _ => ⟨fun z => absurd z (by omega), fun _ => ⟨fun _ => x_max h0 hB' hn hK (Or.inr rfl) a1 h, fun z => absurd hK z⟩⟩⟩⟩⟩
  · subst e
    rw [q2] at h
    exact ⟨hn, fun z => absurd z (by omega), fun _ => ⟨fun z => absurd z (by omega), fun _ => ⟨fun z => absurd z (by omega), fun _ => ⟨fun z => absurd z (by omega), fun _ => ⟨fun z => absurd z (by omega), fun _ => ⟨fun _ => x_scan hB' (rv_s ha q1) h, fun z => absurd hK z⟩⟩⟩⟩⟩⟩
  · subst e
    obtain ⟨d, hd⟩ : ∃ d : Nat, ta = (d + 1 : Nat) := ⟨(ta - 1).toNat, by omega⟩
    have h' : aX σ (d + 1) Q (.inr (mkF (itF v).reverse, cnL d (itF v).reverse)) := by
      rw [show ty.toNat = d + 1 by omega] at h
      rw [show d = (ty - 1).toNat by omega]
      rw [show d = (ty - 1).toNat by omega] at h
      exact h
    exact ⟨hn, fun z => absurd z (by omega), fun _ => ⟨fun z => absurd z (by omega), fun _ => ⟨fun z => absurd z (by omega), fun _ => ⟨fun z => absurd z (by omega), fun _ => ⟨fun z => absurd z (by omega), fun _ => ⟨fun z => absurd z (by omega), fun _ => ⟨fun _ => x_rev (k := d) hB' hn (by omega) (by omega) (rv_s ha hd) h', fun z => absurd hK z⟩⟩⟩⟩⟩⟩⟩
  · subst e
    obtain ⟨d, hd⟩ : ∃ d : Nat, ta = (d + 2 : Nat) := ⟨(ta - 2).toNat, by omega⟩
    have h' : aX σ (d + 1) Q (if sumF ((itF v).map (fun v => ((itF v).length : Int))) ≤ 200 then .inr (mkF ((itF v).map itF).flatten, cnL d ((itF v).map itF).flatten) else .inl 5) := by
      rw [show ty.toNat = d + 1 by omega] at h
      rw [show d = (ty - 1).toNat by omega]
      rw [show d = (ty - 1).toNat by omega] at h
      exact h
    unfold V_acted_24
    exact ⟨hn, fun z => absurd z (by omega), fun _ => ⟨fun z => absurd z (by omega), fun _ => ⟨fun z => absurd z (by omega), fun _ => ⟨fun z => absurd z (by omega), fun _ => ⟨fun z => absurd z (by omega), fun _ => ⟨fun z => absurd z (by omega), fun _ => ⟨fun z => absurd z (by omega), fun _ => ⟨fun z => absurd z (by omega), fun _ => ⟨fun _ => x_flat (k := d) h0 hB' hn (by omega) (by omega) (rv_s ha hd) (aX_m h' (fun _ _ q _ _ => q)), fun z => absurd hK z⟩⟩⟩⟩⟩⟩⟩⟩⟩
theorem x_act2 (h0 : sg_g σ 88 73 = 0) (hB : (0 ≤ sg_g σ 88 56 ∧ sg_g σ 88 56 ≤ 3000) ∧ 0 ≤ sg_g σ 88 60 ∧ sg_g σ 88 60 ≤ 3000) (hn : 0 ≤ n ∧ n < 210) (hK : sg_g σ 93 n = K) (hT : sg_g σ 101 n = ty) (hty : ty ≤ 3) (hta : 0 ≤ ta ∧ ta ≤ 3) (hra : sg_R a) (ha : rvF σ ta.toNat v a) (hb : rvF σ tb.toNat u b) (ho : op2 K ta tb ty) (h12 : 16 ≤ K) (h : aX σ ty.toNat Q (eO K ty x [v, u])) : V_acted σ n a b Q := by
  have hB' : nB σ := by unfold nB; omega
  unfold V_acted
  rcases ho with ⟨e, q1, q2, q3⟩ | ⟨e, q1, q2, q3⟩ | ⟨e, q1, q2⟩ | ⟨e, q1, q2, q3⟩ | ⟨e, q1, q2, q3⟩ | ⟨e, q1, q2, q3⟩
  · omega
  · omega
  · subst e
    have e0 : b = u [] := (rv_s hb q1).symm
    rw [e0]
    have h' : aX σ (ta.toNat + 1) Q (if 0 ≤ u [] ∧ u [] ≤ 200 then .inr (mkF (List.replicate (u []).toNat v), cnL ta.toNat (List.replicate (u []).toNat v)) else .inl 5) := by
      rw [show ty.toNat = ta.toNat + 1 by omega] at h
      rw [show ta.toNat = (ty - 1).toNat by omega]
      rw [show ta.toNat = (ty - 1).toNat by omega] at h
      exact h
    exact ⟨hn, fun z => absurd z (by omega), fun _ => ⟨fun _ => x_dist (k := ta.toNat) h0 hB' hn hra (by omega) (by omega) ha h', fun z => absurd hK z⟩⟩
  · subst e
    obtain ⟨d, hd⟩ : ∃ d : Nat, ta = (d + 1 : Nat) := ⟨(ta - 1).toNat, by omega⟩
    have h' : aX σ (d + 1) Q (if (itF v).length + (itF u).length ≤ 200 then .inr (mkF (itF v ++ itF u), cnL d (itF v ++ itF u)) else .inl 5) := by
      rw [show ty.toNat = d + 1 by omega] at h
      rw [show d = (ty - 1).toNat by omega]
      rw [show d = (ty - 1).toNat by omega] at h
      exact h
    exact ⟨hn, fun z => absurd z (by omega), fun _ => ⟨fun z => absurd z (by omega), fun _ => ⟨fun z => absurd z (by omega), fun _ => ⟨fun z => absurd z (by omega), fun _ => ⟨fun z => absurd z (by omega), fun _ => ⟨fun z => absurd z (by omega), fun _ => ⟨fun z => absurd z (by omega), fun _ => ⟨fun _ => x_cat (k := d) h0 hB' hn (by omega) (by omega) (rv_s ha hd) (rv_s hb (by omega)) h', fun z => absurd hK z⟩⟩⟩⟩⟩⟩⟩⟩
  · obtain ⟨d, hd⟩ : ∃ d : Nat, ta = (d + 1 : Nat) := ⟨(ta - 1).toNat, by omega⟩
    rcases e with e | e
    · subst e
      have h' : aX σ (d + 1) Q (if (itF v).length = (itF u).length then .inr (mkF (pkF (itF v) (nuF u)), cnL d (pkF (itF v) (nuF u))) else .inl 3) := by
        rw [show ty.toNat = d + 1 by omega] at h
        rw [show d = (ty - 1).toNat by omega]
        rw [show d = (ty - 1).toNat by omega] at h
        exact h
      exact ⟨hn, fun z => absurd z (by omega), fun _ => ⟨fun z => absurd z (by omega), fun _ => ⟨fun z => absurd z (by omega), fun _ => ⟨fun z => absurd z (by omega), fun _ => ⟨fun z => absurd z (by omega), fun _ => ⟨fun z => absurd z (by omega), fun _ => ⟨fun z => absurd z (by omega), fun _ => ⟨fun z => absurd z (by omega), fun _ => ⟨fun z => absurd z (by omega), fun _ => ⟨fun _ => x_pack (k := d) h0 hB' hn (by omega) (by omega) (rv_s ha hd) (rv_s hb q2) h', fun z => absurd hK z⟩⟩⟩⟩⟩⟩⟩⟩⟩⟩
    · subst e
      have h' : aX σ (d + 1) Q (if (itF v).length = (itF u).length then (match ivF (itF u).length 0 (nuF u) (fun _ => -1) with
        | none => .inl 6
        | some g => .inr (mkF ((List.range (itF v).length).map (fun i : Nat => (itF v).getD (g i).toNat (nmF 0))), cnL d ((List.range (itF v).length).map (fun i : Nat => (itF v).getD (g i).toNat (nmF 0))))) else .inl 3) := by
        rw [show ty.toNat = d + 1 by omega] at h
        rw [show d = (ty - 1).toNat by omega]
        rw [show d = (ty - 1).toNat by omega] at h
        exact h
      unfold V_acted_26
      exact ⟨hn, fun z => absurd z (by omega), fun _ => ⟨fun z => absurd z (by omega), fun _ => ⟨fun z => absurd z (by omega), fun _ => ⟨fun z => absurd z (by omega), fun _ => ⟨fun z => absurd z (by omega), fun _ => ⟨fun z => absurd z (by omega), fun _ => ⟨fun z => absurd z (by omega), fun _ => ⟨fun z => absurd z (by omega), fun _ => ⟨fun z => absurd z (by omega), fun _ => ⟨fun z => absurd z (by omega), fun _ => ⟨fun _ => x_perm (k := d) h0 hB' hn (by omega) (by omega) (rv_s ha hd) (rv_s hb q2) (aX_m h' (fun _ _ q _ _ => q)), fun z => absurd hK z⟩⟩⟩⟩⟩⟩⟩⟩⟩⟩⟩
  · subst e
    obtain ⟨d, hd⟩ : ∃ d : Nat, ta = (d + 1 : Nat) := ⟨(ta - 1).toNat, by omega⟩
    have h' : aX σ (d + 2) Q (if (nuF u).any (fun x => decide (x < 0)) = true then .inl 5 else if sumF (nuF u) = (itF v).length then .inr (mkF (ptF (itF v) (nuF u)), cnL (d + 1) (ptF (itF v) (nuF u))) else .inl 3) := by
      rw [show ty.toNat = d + 2 by omega] at h
      rw [show d + 1 = (ty - 1).toNat by omega]
      have : ∀ d2, d + 1 = d2 → d + 2 = d2 + 1 := fun _ q => by omega
      rw [this _ (show d + 1 = (ty - 1).toNat by omega)] at h ⊢
      exact h
    unfold V_acted_d
    exact ⟨hn, fun z => absurd z (by omega), fun _ => ⟨fun z => absurd z (by omega), fun _ => ⟨fun z => absurd z (by omega), fun _ => ⟨fun z => absurd z (by omega), fun _ => ⟨fun z => absurd z (by omega), fun _ => ⟨fun z => absurd z (by omega), fun _ => ⟨fun z => absurd z (by omega), fun _ => ⟨fun z => absurd z (by omega), fun _ => ⟨fun z => absurd z (by omega), fun _ => ⟨fun z => absurd z (by omega), fun _ => ⟨fun z => absurd z (by omega), fun _ => x_part (k := d) h0 hB hn (by omega) (by omega) (rv_s ha hd) (rv_s hb q2) (aX_m h' (fun _ _ q _ _ => q))⟩⟩⟩⟩⟩⟩⟩⟩⟩⟩⟩
end ACZ
