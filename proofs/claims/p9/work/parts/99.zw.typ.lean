/-! The same of a whole PROGRAM. -/
def kFl (A : aT) (q : Int) (D : List aDf) (ds : kD) (T : Int → Int) : Option (Int → Int) := match kDs A D ds T with
  | none => none
  | some (T1, dsf) => kGo A dsf 201 [] q T1
theorem kDs_l {A : aT} : ∀ (D : List aDf) (ds dsf : kD) (T T1 : Int → Int), kDs A D ds T = some (T1, dsf) → dsf = kDl D ds
  | [], ds, dsf, T, T1, h => by cases h; rfl
  | x :: r, ds, dsf, T, T1, h => by
    unfold kDs at h
    split at h
    · cases h
    · rename_i T2 ds1 h2
      have hd : ds1 = (x.1, x.2.2.1.map (·.2.2), x.2.2.2) :: ds := by
        unfold kDf at h2
        split at h2
        · split at h2
          · cases h2
          · cases h2; rfl
        · cases h2
      rw [kDs_l r ds1 dsf T2 T1 h, hd]; rfl
theorem kFl_fr {A : aT} {q : Int} : ∀ (D : List aDf) (ds : kD) (T Tf : Int → Int) (L : List Int), fT A (aRt D ++ [q]) L → kFl A q D ds T = some Tf → ∀ x, x ∉ L → Tf x = T x
  | [], ds, T, Tf, L, hf, h, x, hx => by
    unfold kFl at h
    simp only [kDs] at h
    exact kGo_fr A ds 201 [] q T Tf L hf h x hx
  | y :: r, ds, T, Tf, L, hf, h, x, hx => by
    obtain ⟨La, Lr, e3, fa, fr⟩ := fT_spl [y.2.2.2] (aRt r ++ [q]) L hf
    subst e3
    unfold kFl at h
    simp only [kDs] at h
    cases hd : kDf A ds y T with
    | none => rw [hd] at h; cases h
    | some v =>
      obtain ⟨Ta, ds1⟩ := v
      rw [hd] at h
      obtain ⟨s1, s2, s3⟩ := kDf_s hd
      rw [kFl_fr r ds1 Ta Tf Lr fr h x (fun z => hx (List.mem_append_right _ z)), kGo_fr A ds 201 _ _ T Ta La fa s3 x (fun z => hx (List.mem_append_left _ z))]
theorem kFlB_fr {A : aT} {q : Int} : ∀ (D : List aDf) (ds : kD) (d : Nat) (B : Int → Int) (L : List Int), fT A (aRt D ++ [q]) L → ∀ x, x ∉ L → kBo A (kDl D ds) 201 [] q (kDB A D ds d B) x = B x
  | [], ds, d, B, L, hf, x, hx => kBo_fr A ds 201 [] q B L hf x hx
  | y :: r, ds, d, B, L, hf, x, hx => by
    obtain ⟨La, Lr, e3, fa, fr⟩ := fT_spl [y.2.2.2] (aRt r ++ [q]) L hf
    subst e3
    simp only [kDl, kDB]
    rw [kFlB_fr r _ (d + 1) _ Lr fr x (fun z => hx (List.mem_append_right _ z)), kBo_fr A ds 201 _ _ B La fa x (fun z => hx (List.mem_append_left _ z))]
theorem kPb_m {d : Int} : ∀ (ps : List (Int × Int × Int)) (j : Nat) (eb : kE), (kPb d j ps eb).map (·.1) = (ps.map (·.1)).reverse ++ eb.map (·.1)
  | [], j, eb => by simp [kPb]
  | p :: ps, j, eb => by
    simp only [kPb]
    rw [kPb_m ps (j + 1)]
    simp
theorem tyP {A : aT} {q : Int} {T2 B2 : Int → Int} : ∀ (D : List aDf) (ds : kD) (d : Nat) (T Tf B : Int → Int) (L : List Int), fT A (aRt D ++ [q]) L → L.Nodup → (∀ x ∈ L, 0 ≤ x ∧ x < A.1) → kDi ds T → (∀ c ∈ ds, c.2.2 ∉ L) → (∀ x ∈ D, ∀ p ∈ x.2.2.1, 0 ≤ p.2.2) → kFl A q D ds T = some Tf → (∀ x ∈ L, T2 x = Tf x) → (∀ x ∈ L, B2 x = kBo A (kDl D ds) 201 [] q (kDB A D ds d B) x) → (∀ c ∈ ds, T2 c.2.2 = T c.2.2) → (∀ (j : Nat) (x : aDf), D[j]? = some x → tyN A (kDl (D.take j) ds) T2 B2 201 (scZ (kPe x) (kPb ((d + j : Nat) : Int) 0 x.2.2.1 [])) x.2.2.2 ∧ ∀ p ∈ x.2.2.1, kIn p.2.2) ∧ tyN A (kDl D ds) T2 B2 201 [] q
  | [], ds, d, T, Tf, B, L, hf, hN, hL, hd, hr, hp, h, hT, hB, hD => by
    unfold kFl at h
    simp only [kDs] at h
    refine ⟨fun j x hj => (by cases hj), ?_⟩
    exact tyL_all A ds 201 [] [] q T Tf B L hf hN hL rfl (fun p hp => by cases hp) hd hr h T2 B2 hT hB (fun c hc => by rw [hD c hc]; exact (kGo_fr A ds 201 [] q T Tf L hf h _ (hr c hc)).symm)
  | y :: r, ds, d, T, Tf, B, L, hf, hN, hL, hd, hr, hp, h, hT, hB, hD => by
    obtain ⟨La, Lr, e3, fa, fr⟩ := fT_spl [y.2.2.2] (aRt r ++ [q]) L hf
    subst e3
    have nd := List.nodup_append.mp hN
    have dis : ∀ z, z ∈ La → z ∉ Lr := fun z a b => nd.2.2 z a z b rfl
    unfold kFl at h
    simp only [kDs] at h
    cases hdf : kDf A ds y T with
    | none => rw [hdf] at h; cases h
    | some v =>
      obtain ⟨Ta, ds1⟩ := v
      rw [hdf] at h
      have hds1 : ds1 = (y.1, y.2.2.1.map (·.2.2), y.2.2.2) :: ds := by
        have h2 := hdf
        unfold kDf at h2
        split at h2
        · split at h2
          · cases h2
          · cases h2; rfl
        · cases h2
      subst hds1
      obtain ⟨s1, s2, s3⟩ := kDf_s hdf
      have pin : ∀ p ∈ y.2.2.1, kIn p.2.2 := fun p hp' => ⟨hp y (by simp) p hp', s2 p hp'⟩
      have ein : ∀ p ∈ y.2.2.1.reverse.map (fun p => (p.1, p.2.2)), kIn p.2 := fun p hp' => by
        obtain ⟨p', hp2, rfl⟩ := List.mem_map.mp hp'
        exact pin p' (List.mem_reverse.mp hp2)
      have rga := kGo_rg A ds 201 _ _ T Ta hd ein s3
      have rt : y.2.2.2 ∈ La := fT_sub fa _ (by simp)
      have Tfa : ∀ x, x ∉ Lr → Tf x = Ta x := fun x hx => kFl_fr r _ Ta Tf Lr fr h x hx
      have Taf : ∀ x, x ∉ La → Ta x = T x := fun x hx => kGo_fr A ds 201 _ _ T Ta La fa s3 x hx
      simp only [kDl, kDB] at hB
      have main : tyN A ds T2 B2 201 (scZ (kPe y) (kPb (d : Int) 0 y.2.2.1 [])) y.2.2.2 := by
        refine tyL_all A ds 201 (kPe y) (kPb (d : Int) 0 y.2.2.1 []) y.2.2.2 T Ta B La fa nd.1 (fun z hz => hL z (List.mem_append_left _ hz)) ?_ ein hd (fun c hc z => hr c hc (List.mem_append_left _ z)) s3 T2 B2 (fun z hz => ?_) (fun z hz => ?_) (fun c hc => ?_)
        · rw [kPb_m]
          unfold kPe
          simp [List.map_reverse]
        · rw [hT z (List.mem_append_left _ hz)]; exact Tfa z (dis z hz)
        · rw [hB z (List.mem_append_left _ hz)]; exact kFlB_fr r _ (d + 1) _ Lr fr z (dis z hz)
        · rw [hD c hc]; exact (Taf _ (fun z => hr c hc (List.mem_append_left _ z))).symm
      have ih := tyP r ((y.1, y.2.2.1.map (·.2.2), y.2.2.2) :: ds) (d + 1) Ta Tf (kBo A ds 201 (kPb (d : Int) 0 y.2.2.1 []) y.2.2.2 B) Lr fr nd.2.1 (fun z hz => hL z (List.mem_append_right _ hz)) (fun c hc => by
          rcases List.mem_cons.mp hc with e | e
          · subst e; exact rga.1
          · exact rga.2 _ (hd c e)) (fun c hc => by
          rcases List.mem_cons.mp hc with e | e
          · subst e; exact dis _ rt
          · exact fun z => hr c e (List.mem_append_right _ z)) (fun x hx => hp x (by simp [hx])) h (fun z hz => hT z (List.mem_append_right _ hz)) (fun z hz => hB z (List.mem_append_right _ hz)) (fun c hc => by
          rcases List.mem_cons.mp hc with e | e
          · subst e
            rw [hT _ (List.mem_append_left _ rt)]
            exact Tfa _ (dis _ rt)
          · rw [hD c e]; exact (Taf _ (fun z => hr c e (List.mem_append_left _ z))).symm)
      refine ⟨fun j x hj => ?_, ih.2⟩
      cases j with
      | zero =>
        simp only [List.getElem?_cons_zero, Option.some.injEq] at hj
        subst hj
        exact ⟨main, pin⟩
      | succ j =>
        have := ih.1 j x hj
        rw [show (d + 1 + j : Nat) = d + (j + 1) by omega] at this
        exact this
