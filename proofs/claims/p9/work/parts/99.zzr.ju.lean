/-! All that a flat run of the class goes along. -/
theorem fT_det {A : aT} {R L L' : List Int} (h : fT A R L) (h' : fT A R L') : L = L' := by
  have k := fT_ind (A := A) (M := fun R L => ∀ L', fT A R L' → L = L') (fun L' g => (fT_nil g).symm) (fun n ns L1 L2 _ _ _ i1 i2 L' g => by
    obtain ⟨M1, M2, e, _, g2, g3⟩ := fT_inv g
    rw [e, i1 M1 g2, i2 M2 g3]) h
  exact k L' h'
theorem ty_all {A : aT} {D : List aDf} {q : Int} {T Tf : Int → Int} (hfr : frA A (aRt D ++ [q])) (hp : ∀ x ∈ D, ∀ p ∈ x.2.2.1, 0 ≤ p.2.2) (hk : kPg A D q T = some Tf) : (∀ (j : Nat) (x : aDf), D[j]? = some x → ∃ ds B sc, tyN A ds Tf B 201 sc x.2.2.2) ∧ ∃ ds B sc, tyN A ds Tf B 201 sc q := by
  obtain ⟨L, f1, f2, f3, -⟩ := hfr
  have h := tyP (T2 := Tf) (B2 := kBo A (kDl D []) 201 [] q (kDB A D [] 0 (fun _ => 0))) D [] 0 T Tf (fun _ => 0) L f1 f2 f3 (fun d hd => by simp at hd) (fun c hc => by simp at hc) hp hk (fun _ _ => rfl) (fun _ _ => rfl) (fun c hc => by simp at hc)
  exact ⟨fun j x hx => ⟨_, _, _, (h.1 j x hx).1⟩, _, _, _, h.2⟩
theorem jPg_e {τ σ : sg_S} {A : aT} {D : List aDf} {q : Int} (h : jPg τ A D q) (e : ∀ k, sg_g σ 11 k = sg_g τ 11 k ∧ sg_g σ 12 k = sg_g τ 12 k) : jPg σ A D q := by
  obtain ⟨h1, h2, h3, h4⟩ := h
  obtain ⟨g1, g2⟩ := jCq_r h1 h2 e
  exact ⟨g1, g2, h3, fun j x hx => by rw [(e _).2, (e _).1]; exact h4 j x hx⟩
theorem gRq_j {σ : sg_S} {A : aT} {L : List Int} (h : jCq σ A 0) (hL : ∀ x ∈ L, 0 ≤ x ∧ x < A.1) : gRq σ A L := fun x hx Lx hf y => by
  obtain ⟨-, L', l1, l2⟩ := h x (hL x hx).1 (hL x hx).2
  rw [fT_det hf l1]; exact l2 y
theorem asm {σ : sg_S} {A : aT} {D : List aDf} {q : Int} (hW : ckW σ A) (hD : cD2 σ D) (hfr : frA A (aRt D ++ [q])) (hty : (∀ (j : Nat) (x : aDf), D[j]? = some x → ∃ ds B sc, tyN A ds (sg_g σ 6) B 201 sc x.2.2.2) ∧ ∃ ds B sc, tyN A ds (sg_g σ 6) B 201 sc q) (hA : ckA σ A D.length q) (hj : jPg σ A D q) : ∃ H fs, dA σ A H D.length ∧ dI σ A H D.length 12 q fs 0 ∧ ∀ q', 0 ≤ q' → q' < (D.length : Int) → H q' ≤ fs ∧ nxq σ q' ≤ sg_g σ 11 q := by
  obtain ⟨H, fs, Ld, a1, a2, a3, a4, a5⟩ := hA
  obtain ⟨j1, j2, j3, j4⟩ := hj
  obtain ⟨LA, f1, f2, f3, -⟩ := hfr
  have sub : ∀ r ∈ aRt D ++ [q], ∃ L, fT A [r] L ∧ L.Nodup ∧ ∀ x ∈ L, 0 ≤ x ∧ x < A.1 := fun r hr => by
    obtain ⟨R1, R2, e⟩ := List.append_of_mem hr
    rw [e] at f1
    obtain ⟨La, Lb, e1, g1, g2⟩ := fT_spl R1 (r :: R2) LA f1
    obtain ⟨Lc, Le, e2, g3, g4⟩ := fT_spl [r] R2 Lb g2
    rw [e1, e2] at f2 f3
    exact ⟨Lc, g3, (List.nodup_append.mp (List.nodup_append.mp f2).2.1).1, fun x hx => f3 x (List.mem_append_right _ (List.mem_append_left _ hx))⟩
  have fsH := scN_le _ _ _ _ _ a3
  have rt : ∀ q', 0 ≤ q' → q' < (D.length : Int) → ∃ x, D[q'.toNat]? = some x ∧ sg_g σ 22 q' = x.2.2.2 := fun q' z1 z2 => by
    have hq : q'.toNat < D.length := by omega
    have hx : D[q'.toNat]? = some D[q'.toNat] := List.getElem?_eq_getElem hq
    obtain ⟨t1, t2, t3, t4⟩ := hD.2.2 q'.toNat D[q'.toNat] hx
    rw [show ((q'.toNat : Nat) : Int) = q' by omega] at t3
    exact ⟨_, hx, t3⟩
  have d12 := hD.2.1
  refine ⟨H, fs, ⟨by omega, fun q' z1 z2 => ?_⟩, ?_, fun q' z1 z2 => ?_⟩
  · obtain ⟨⟨L, b1, b2, b3, b4, b5, b6, b7, b8, b9⟩, ord⟩ := a1 q' z1 z2
    obtain ⟨x, hx, ex⟩ := rt q' z1 z2
    obtain ⟨ds, B, sc, ty⟩ := hty.1 _ x hx
    have hr := j2.1 _ x hx
    obtain ⟨L', s1, s2, s3⟩ := sub x.2.2.2 (List.mem_append_left _ (by unfold aRt; exact List.mem_map.mpr ⟨x, List.mem_of_getElem? hx, rfl⟩))
    refine ⟨⟨L', ds, B, sc, by rw [ex]; exact hr.2, by rw [ex]; exact s1, s2, gRq_j j1 s3, by rw [ex]; exact ty, b3, by rw [ex]; exact hr.1 201, ⟨⟨b5.1, ?_⟩, b4⟩, b9, b6.1, by omega, b7⟩, fun q'' w1 w2 => ⟨ord q'' w1 w2, ?_⟩⟩
    · rw [List.length_append, List.length_cons, List.length_nil]; omega
    · obtain ⟨x2, hx2, ex2⟩ := rt q'' w1 (by omega)
      unfold nxq
      rw [ex, ex2]
      have := j2.2 _ _ x2 x (show q''.toNat < q'.toNat by omega) hx2 hx
      omega
  · obtain ⟨ds, B, sc, ty⟩ := hty.2
    obtain ⟨L', s1, s2, s3⟩ := sub q (List.mem_append_right _ (by simp))
    refine ⟨L', ds, B, sc, j3.2, s1, s2, gRq_j j1 s3, ty, ?_, j3.1 201, a5, ⟨by decide, by decide⟩, a2, a4, fun i hi => by omega⟩
    rw [Int.add_zero]
    exact a3
  · obtain ⟨⟨L, b1, b2, b3, b4, b5, b6, b7, b8, b9⟩, ord⟩ := a1 q' z1 z2
    obtain ⟨x, hx, ex⟩ := rt q' z1 z2
    refine ⟨b6.2, ?_⟩
    unfold nxq
    rw [ex]
    have := j4 _ x hx
    omega
