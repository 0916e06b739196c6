/-! all ACTS of nested runs; operated; leave, begin. -/
section ACW
variable {σ : sg_S} {n a b : Int} {Q : Int → sg_S → Prop}
theorem m_acted {ts : List Int} (hB : (0 ≤ sg_g σ 88 56 ∧ sg_g σ 88 56 ≤ 3000) ∧ 0 ≤ sg_g σ 88 60 ∧ sg_g σ 88 60 ≤ 3000) (hn : 0 ≤ n ∧ n < 210) (hK : 16 ≤ sg_g σ 93 n ∧ sg_g σ 93 n ≤ 27) (hra : sg_R a) (hts : ∀ x ∈ ts, kIn x) (hk : kAct (sg_g σ 93 n) ts = some (sg_g σ 101 n)) (ha : vT σ (ts.getD 0 0).toNat a) (hb : vT σ (ts.getD 1 0).toNat b) (h : aQ σ (sg_g σ 101 n).toNat Q) : V_acted σ n a b Q := by
  have hB' : nB σ := by unfold nB; omega
  have hg : ∀ j, 0 ≤ ts.getD j 0 ∧ ts.getD j 0 ≤ 3 := fun j => by
    rw [List.getD_eq_getElem?_getD]
    cases e : ts[j]? with
    | none => simp
    | some y => exact hts y (List.mem_of_getElem? e)
  have g0 := hg 0
  have g1 := hg 1
  generalize ta : ts.getD 0 0 = A0 at *
  generalize tb : ts.getD 1 0 = B0 at *
  have hk' := hk
  simp only [kAct, ta, tb] at hk'
  have cs : sg_g σ 93 n = 16 ∨ sg_g σ 93 n = 17 ∨ sg_g σ 93 n = 18 ∨ sg_g σ 93 n = 19 ∨ sg_g σ 93 n = 20 ∨ sg_g σ 93 n = 21 ∨ sg_g σ 93 n = 22 ∨ sg_g σ 93 n = 23 ∨ sg_g σ 93 n = 24 ∨ sg_g σ 93 n = 25 ∨ sg_g σ 93 n = 26 ∨ sg_g σ 93 n = 27 := by omega
  unfold V_acted
  rcases cs with c | c | c | c | c | c | c | c | c | c | c | c
  · simp only [c] at hk'
    obtain ⟨e1, e2, e3⟩ := kIs_in hk'
    rw [e1] at h
    refine ⟨hn, fun _ => m_iota hB' h, fun z => absurd c z⟩
  · simp only [c] at hk'
    obtain ⟨e1, e2, e3⟩ := kIs_in hk'
    refine ⟨hn, fun z => absurd z (by omega), fun _ => ⟨fun _ => m_dist (k := A0.toNat) hB' hn hra (by omega) (by omega) ha (by rw [e1, show (A0 + 1).toNat = A0.toNat + 1 by omega] at h; exact h), fun z => absurd c z⟩⟩
  · simp only [c] at hk'
    obtain ⟨e1, e2, e3⟩ := kIs_in hk'
    simp only [Bool.and_eq_true, decide_eq_true_eq] at e3
    rw [e1] at h
    rw [e3.2] at ha
    exact ⟨hn, fun z => absurd z (by omega), fun _ => ⟨fun z => absurd z (by omega), fun _ => ⟨fun _ => m_sum hB' ha h, fun z => absurd c z⟩⟩⟩
  · simp only [c] at hk'
    obtain ⟨e1, e2, e3⟩ := kIs_in hk'
    simp only [Bool.and_eq_true, decide_eq_true_eq] at e3
    rw [e1] at h
    rw [e3.2] at ha
    exact ⟨hn, fun z => absurd z (by omega), fun _ => ⟨fun z => absurd z (by omega), fun _ => ⟨fun z => absurd z (by omega), fun _ => ⟨fun _ => m_max hB' hn ha h, fun z => absurd c z⟩⟩⟩⟩
  · simp only [c] at hk'
    obtain ⟨e1, e2, e3⟩ := kIs_in hk'
    simp only [Bool.and_eq_true, decide_eq_true_eq] at e3
    rw [e1] at h
    rw [e3.2] at ha
    exact ⟨hn, fun z => absurd z (by omega), fun _ => ⟨fun z => absurd z (by omega), fun _ => ⟨fun z => absurd z (by omega), fun _ => ⟨fun z => absurd z (by omega), fun _ => ⟨fun _ => m_max hB' hn ha h, fun z => absurd c z⟩⟩⟩⟩⟩
  · simp only [c] at hk'
    obtain ⟨e1, e2, e3⟩ := kIs_in hk'
    simp only [Bool.and_eq_true, decide_eq_true_eq] at e3
    rw [e1] at h
    rw [e3.2] at ha
    exact ⟨hn, fun z => absurd z (by omega), fun _ => ⟨fun z => absurd z (by omega), fun _ => ⟨fun z => absurd z (by omega), fun _ => ⟨fun z => absurd z (by omega), fun _ => ⟨fun z => absurd z (by omega), fun _ => ⟨fun _ => m_scan hB' ha h, fun z => absurd c z⟩⟩⟩⟩⟩⟩
  · simp only [c] at hk'
    obtain ⟨e1, e2, e3⟩ := kIs_in hk'
    simp only [Bool.and_eq_true, decide_eq_true_eq] at e3
    obtain ⟨k, hk2⟩ : ∃ k : Nat, A0.toNat = k + 1 := ⟨A0.toNat - 1, by omega⟩
    rw [hk2] at ha
    rw [e1, hk2] at h
    exact ⟨hn, fun z => absurd z (by omega), fun _ => ⟨fun z => absurd z (by omega), fun _ => ⟨fun z => absurd z (by omega), fun _ => ⟨fun z => absurd z (by omega), fun _ => ⟨fun z => absurd z (by omega), fun _ => ⟨fun z => absurd z (by omega), fun _ => ⟨fun _ => m_rev hB' hn (by omega) (by omega) ha h, fun z => absurd c z⟩⟩⟩⟩⟩⟩⟩
  · simp only [c] at hk'
    obtain ⟨e1, e2, e3⟩ := kIs_in hk'
    simp only [Bool.and_eq_true, decide_eq_true_eq] at e3
    obtain ⟨k, hk2⟩ : ∃ k : Nat, A0.toNat = k + 1 := ⟨A0.toNat - 1, by omega⟩
    rw [hk2] at ha
    rw [← e3.2, hk2] at hb
    rw [e1, hk2] at h
    exact ⟨hn, fun z => absurd z (by omega), fun _ => ⟨fun z => absurd z (by omega), fun _ => ⟨fun z => absurd z (by omega), fun _ => ⟨fun z => absurd z (by omega), fun _ => ⟨fun z => absurd z (by omega), fun _ => ⟨fun z => absurd z (by omega), fun _ => ⟨fun z => absurd z (by omega), fun _ => ⟨fun _ => m_cat hB' hn (by omega) (by omega) ha hb h, fun z => absurd c z⟩⟩⟩⟩⟩⟩⟩⟩
  · simp only [c] at hk'
    obtain ⟨e1, e2, e3⟩ := kIs_in hk'
    simp only [Bool.and_eq_true, decide_eq_true_eq] at e3
    obtain ⟨k, hk2⟩ : ∃ k : Nat, A0.toNat = k + 2 := ⟨A0.toNat - 2, by omega⟩
    rw [hk2] at ha
    rw [e1, show (A0 - 1).toNat = k + 1 by omega] at h
    unfold V_acted_24
    exact ⟨hn, fun z => absurd z (by omega), fun _ => ⟨fun z => absurd z (by omega), fun _ => ⟨fun z => absurd z (by omega), fun _ => ⟨fun z => absurd z (by omega), fun _ => ⟨fun z => absurd z (by omega), fun _ => ⟨fun z => absurd z (by omega), fun _ => ⟨fun z => absurd z (by omega), fun _ => ⟨fun z => absurd z (by omega), fun _ => ⟨fun _ => m_flat hB' hn (by omega) (by omega) ha ⟨fun q σ' x1 x2 x3 _ _ => h.1 q σ' x1 x2 x3, fun q σ' x1 x2 x3 _ _ => h.2 q σ' x1 x2 x3⟩, fun z => absurd c z⟩⟩⟩⟩⟩⟩⟩⟩⟩
  · simp only [c] at hk'
    obtain ⟨e1, e2, e3⟩ := kIs_in hk'
    simp only [Bool.and_eq_true, decide_eq_true_eq] at e3
    obtain ⟨k, hk2⟩ : ∃ k : Nat, A0.toNat = k + 1 := ⟨A0.toNat - 1, by omega⟩
    rw [hk2] at ha
    rw [e3.2] at hb
    rw [e1, hk2] at h
    exact ⟨hn, fun z => absurd z (by omega), fun _ => ⟨fun z => absurd z (by omega), fun _ => ⟨fun z => absurd z (by omega), fun _ => ⟨fun z => absurd z (by omega), fun _ => ⟨fun z => absurd z (by omega), fun _ => ⟨fun z => absurd z (by omega), fun _ => ⟨fun z => absurd z (by omega), fun _ => ⟨fun z => absurd z (by omega), fun _ => ⟨fun z => absurd z (by omega), fun _ => ⟨fun _ => m_pack hB' hn (by omega) (by omega) ha hb h, fun z => absurd c z⟩⟩⟩⟩⟩⟩⟩⟩⟩⟩
  · simp only [c] at hk'
    obtain ⟨e1, e2, e3⟩ := kIs_in hk'
    simp only [Bool.and_eq_true, decide_eq_true_eq] at e3
    obtain ⟨k, hk2⟩ : ∃ k : Nat, A0.toNat = k + 1 := ⟨A0.toNat - 1, by omega⟩
    rw [hk2] at ha
    rw [e3.2] at hb
    rw [e1, hk2] at h
    unfold V_acted_26
    exact ⟨hn, fun z => absurd z (by omega), fun _ => ⟨fun z => absurd z (by omega), fun _ => ⟨fun z => absurd z (by omega), fun _ => ⟨fun z => absurd z (by omega), fun _ => ⟨fun z => absurd z (by omega), fun _ => ⟨fun z => absurd z (by omega), fun _ => ⟨fun z => absurd z (by omega), fun _ => ⟨fun z => absurd z (by omega), fun _ => ⟨fun z => absurd z (by omega), fun _ => ⟨fun z => absurd z (by omega), fun _ => ⟨fun _ => m_perm hB' hn (by omega) (by omega) ha hb ⟨fun q σ' x1 x2 x3 _ _ => h.1 q σ' x1 x2 x3, fun q σ' x1 x2 x3 _ _ => h.2 q σ' x1 x2 x3⟩, fun z => absurd c z⟩⟩⟩⟩⟩⟩⟩⟩⟩⟩⟩
  · simp only [c] at hk'
    obtain ⟨e1, e2, e3⟩ := kIs_in hk'
    simp only [Bool.and_eq_true, decide_eq_true_eq] at e3
    obtain ⟨k, hk2⟩ : ∃ k : Nat, A0.toNat = k + 1 := ⟨A0.toNat - 1, by omega⟩
    rw [hk2] at ha
    rw [e3.2] at hb
    rw [e1, show (A0 + 1).toNat = k + 2 by omega] at h
    unfold V_acted_d
    exact ⟨hn, fun z => absurd z (by omega), fun _ => ⟨fun z => absurd z (by omega), fun _ => ⟨fun z => absurd z (by omega), fun _ => ⟨fun z => absurd z (by omega), fun _ => ⟨fun z => absurd z (by omega), fun _ => ⟨fun z => absurd z (by omega), fun _ => ⟨fun z => absurd z (by omega), fun _ => ⟨fun z => absurd z (by omega), fun _ => ⟨fun z => absurd z (by omega), fun _ => ⟨fun z => absurd z (by omega), fun _ => ⟨fun z => absurd z (by omega), fun _ => m_part hB hn (by omega) (by omega) ha hb ⟨fun q σ' x1 x2 x3 _ _ => h.1 q σ' x1 x2 x3, fun q σ' x1 x2 x3 _ _ => h.2 q σ' x1 x2 x3⟩⟩⟩⟩⟩⟩⟩⟩⟩⟩⟩⟩
end ACW
