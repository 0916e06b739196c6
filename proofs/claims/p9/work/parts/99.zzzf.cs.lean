/-! open of the class, exactly. -/
section CSA
variable {σ : sg_S}
theorem f_asLongX {Q : Int → sg_S → Prop} {g n t : Int} (gg : yG σ) (hg : 1 ≤ g ∧ g ≤ 4) (hn : 0 ≤ n) (h23 : sg_g σ 61 23 = n) (ht : sg_g σ 61 7 = t) (h0 : 0 ≤ t ∧ t + g ≤ 400) (hv : ∀ i : Nat, (i : Int) < g → yRw σ (sg_g σ 64 (t + i)) n) (k0 : ∀ (i j : Nat), (i : Int) < g → (j : Int) < n → ¬ v_lCell σ (sg_g σ 64 (t + i)) j = v_lCell σ (sg_g σ 64 t) j → Q 0 σ) (k1 : (∀ (i j : Nat), (i : Int) < g → (j : Int) < n → v_lCell σ (sg_g σ 64 (t + i)) j = v_lCell σ (sg_g σ 64 t) j) → Q 1 σ) : V_fAsLong σ g Q := by
  unfold V_fAsLong
  rw [h23, ht, xa_in (a := 64) ⟨by omega, by omega⟩]
  have v0 := hv 0 (by omega)
  rw [show t + ((0 : Nat) : Int) = t by omega] at v0
  refine ⟨fun m v => ∃ j : Nat, v = j ∧ (j : Int) ≤ n ∧ m = n.toNat - j ∧ ∀ (i j' : Nat), (i : Int) < g → j' < j → v_lCell σ (sg_g σ 64 (t + i)) j' = v_lCell σ (sg_g σ 64 t) j', ∀ (i j : Nat), (i : Int) < g → (j : Int) < n → v_lCell σ (sg_g σ 64 (t + i)) j = v_lCell σ (sg_g σ 64 t) j, ⟨_, 0, rfl, by omega, rfl, fun i j' _ h => by omega⟩, ?_, k1⟩
  rintro m v rv ⟨j, rfl, hj, hm, hI⟩
  refine ⟨fun z i j' hi hj' => hI i j' hi (by omega), fun z => ⟨(y_cell gg v0 ⟨by omega, z⟩).2, fun m2 v19 => ∃ i : Nat, v19 = i ∧ 1 ≤ i ∧ (i : Int) ≤ g ∧ m2 = 4 - i ∧ ∀ i' : Nat, i' < i → v_lCell σ (sg_g σ 64 (t + i')) j = v_lCell σ (sg_g σ 64 t) j, ∀ i : Nat, (i : Int) < g → v_lCell σ (sg_g σ 64 (t + i)) j = v_lCell σ (sg_g σ 64 t) j, ⟨_, 1, rfl, by omega, by omega, rfl, fun i' hi' => by rw [show i' = 0 by omega, show t + ((0 : Nat) : Int) = t by omega]⟩, ?_, fun hX => ⟨⟨by omega, by have := rv.2; have := gg.2.1; have := v0.2.2.2; omega⟩, n.toNat - (j + 1), by omega, j + 1, by omega, by omega, rfl, fun i j' hi hj' => ?_⟩⟩⟩
  · rintro m2 v19 r19 ⟨i, rfl, i1, i2, hm2, hI2⟩
    refine ⟨fun y i' hi' => hI2 i' (by omega), fun y => ⟨fun y2 i' hi' => hI2 i' (by omega), fun y2 => ?_⟩⟩
    rw [xa_in (a := 64) ⟨by omega, by omega⟩]
    refine ⟨⟨by omega, by omega⟩, (y_cell gg (hv i y) ⟨by omega, z⟩).2, fun e => ⟨⟨by omega, by omega⟩, 4 - (i + 1), by omega, i + 1, by omega, by omega, by omega, rfl, fun i' hi' => ?_⟩, fun e2 => k0 i j y z e2⟩
    by_cases q : i' = i
    · rw [q]; exact e
    · exact hI2 i' (by omega)
  · by_cases q : j' = j
    · rw [q]; exact hX i hi
    · exact hI i j' hi (by omega)
end CSA
/-- after open -/
def opX2 (σ σ' : sg_S) (a g t sv c bd : Int) (dg : Nat → Nat) (Ob : List Int) (sl ty : Int → Int) (vs : List (List vaF)) (s3 : fSt) (ρ3 : fEv) : Prop := mC σ' c ∧ yEx σ σ' ∧ ctX σ' s3 ∧ (∀ y ∈ Ob, yX σ' (ty y).toNat (sg_g σ' 62 (sl y)) (ρ3 y)) ∧ (∀ i : Nat, i < vs.length → yX σ' (dg i) (sg_g σ' 62 (bd + i)) (flF (vs.getD i []))) ∧ (∀ s, s ∉ Ob.map sl → ¬ (bd ≤ s ∧ s < bd + g) → sg_g σ' 62 s = sg_g σ 62 s) ∧ sg_g σ' 61 23 = (((vs.getD 0 []).map (fun v => (itF v).length)).sum : Nat) ∧ sg_g σ' 61 7 = t ∧ sg_g σ' 70 a = sg_g σ 64 t ∧ (∀ i, ¬ i = a → sg_g σ' 70 i = sg_g σ 70 i) ∧ sg_g σ' 61 22 = sv + Ob.length ∧ sg_g σ' 71 a = sv ∧ (∀ i, ¬ i = a → sg_g σ' 71 i = sg_g σ 71 i) ∧ svd σ σ' sv (Ob.map sl) ∧ ∀ i, i < sv → sg_g σ' 72 i = sg_g σ 72 i ∧ sg_g σ' 73 i = sg_g σ 73 i
section CSS
variable {σ : sg_S} {Q : sg_S → Prop}
theorem f_openX {a g t sv c bd lo hi gd glo ghi plo phi x : Int} {n : Nat} {dg : Nat → Nat} {vs : List (List vaF)} {Ob : List Int} {sl ty : Int → Int} {s : fSt} {ρ : fEv} (ha : 0 ≤ a ∧ a < 200) (hx : 0 ≤ x ∧ x < 200) (h13 : sg_g σ 13 a = g) (hg : 1 ≤ g ∧ g ≤ 4) (h8 : sg_g σ 8 a = x) (h11 : sg_g σ 11 x = lo) (h12 : sg_g σ 12 x = hi) (h14 : sg_g σ 14 a = gd) (hgd : 0 ≤ gd → gd < 200 ∧ sg_g σ 11 gd = glo ∧ sg_g σ 12 gd = ghi ∧ plo ≤ glo ∧ ghi ≤ phi) (hpp : plo ≤ lo ∧ hi ≤ phi ∧ 0 ≤ plo ∧ phi < 200) (h16 : sg_g σ 16 a = bd) (hbd : 0 ≤ bd ∧ bd + g ≤ 272) (hm : mC σ c) (hs : ctX σ s) (hc : 4 ≤ c) (ht : sg_g σ 61 7 = t + g) (h0 : 0 ≤ t ∧ t + g ≤ 400) (h23 : sg_g σ 61 23 = n) (hn : n ≤ 6000) (hgl : (vs.length : Int) = g) (hv : ∀ i : Nat, (i : Int) < g → yX σ (dg i + 1) (sg_g σ 64 (t + i)) (vs.getD i []) ∧ (vs.getD i []).length = n) (hsv : sg_g σ 61 22 = sv) (hs0 : 0 ≤ sv ∧ sv ≤ 2400 ∧ sv + (phi - plo + 1) ≤ 2400) (hOs : (Ob.map sl).Pairwise (· < ·)) (hOm : ∀ s, s ∈ Ob.map sl ↔ opU σ lo hi gd glo ghi bd s) (hT : ∀ y ∈ Ob, cyT σ sl ty ρ n y) (k0 : ¬ eaE n vs → ∀ σ', sg_F onL σ σ' → sg_g σ' 61 10 = 3 → ctX σ' s → Q σ') (k1 : eaE n vs → ∀ p, fCa ty (fRp n ((vs.getD 0 []).map (fun v => (itF v).length))) Ob s ρ = .inl p → ∀ σ', sg_F onL σ σ' → ¬ p.1 = 0 → sg_g σ' 61 10 = p.1 → ctX σ' p.2 → Q σ') (k2 : eaE n vs → ∀ s3 ρ3, fCa ty (fRp n ((vs.getD 0 []).map (fun v => (itF v).length))) Ob s ρ = .inr (s3, ρ3) → ∀ σ', sg_F onL σ σ' → opX2 σ σ' a g t sv c bd dg Ob sl ty vs s3 ρ3 → ((Ob.length : Int) ≤ phi - plo + 1 ∨ Ob = []) → Q σ') : V_fOpen σ a Q := by
  obtain ⟨v0, v0l⟩ := hv 0 (by omega)
  rw [show t + ((0 : Nat) : Int) = t by omega] at v0
  obtain ⟨ln, hln⟩ : ∃ ln, ln = (vs.getD 0 []).map (fun v => (itF v).length) := ⟨_, rfl⟩
  rw [← hln] at k1 k2
  unfold V_fOpen
  rw [xa_in (a := 13) ha, xa_in (a := 8) ha, xa_in (a := 14) ha, xa_in (a := 16) ha, h13, h8, h14, h16, ht, show t + g - g = t by omega, xa_in (a := 64) ⟨by omega, by omega⟩]
  refine ⟨⟨by omega, by omega⟩, fun σ2 e2 => ?_⟩
  have f2 : sg_F [8061] σ σ2 := by rw [e2]; exact sg_F_w (sg_F_r _ _) rfl _
  have t2 : sg_g σ2 61 7 = t := by rw [e2, sg_gw_e _ _ _ _ ⟨by omega, by omega⟩]
  have ex2 : yEx σ σ2 := yEx_F f2 rfl
  have g2 : yG σ2 := yG_F hm.1 f2 rfl
  have cel : ∀ (i j : Nat), (i : Int) < g → j < n → v_lCell σ2 (sg_g σ2 64 (t + i)) j = ((vs.getD i []).getD j (nmF 0)) [] := fun i j hi hj => by
    rw [sg_F_ga f2 rfl]
    exact (yX_cell g2 (yX_up ex2 (hv i hi).1) (i := j) (by rw [(hv i hi).2]; exact hj)).1
  refine f_asLongX (n := n) g2 hg (by omega) (by rw [sg_F_g f2 (by rfl)]; exact h23) t2 h0 (fun i hi => by rw [sg_F_ga f2 rfl, ← (hv i hi).2]; exact yRw_up ex2 (yX_c (hv i hi).1).1) (fun i j hi hj hne _ => ⟨fun z => absurd rfl z, fun _ σ80 e80 => ?_⟩) (fun hsame _ => ⟨fun _ σ12 e12 σ15 e15 => ?_, fun z => absurd z (by decide)⟩)
  · have f80 : sg_F [11061] σ2 σ80 := by rw [e80]; exact sg_F_w (sg_F_r _ _) rfl _
    refine k0 (fun hE => hne ?_) σ80 (sg_F_t (sg_F_m f2 rfl) (sg_F_m f80 rfl)) (by rw [e80, sg_gw_e _ _ _ _ (by decide)]) (ctX_F (L := [8061, 11061]) (sg_F_t (sg_F_m f2 rfl) (sg_F_m f80 rfl)) rfl hs)
    have c0 := cel 0 j (by omega) (by omega)
    rw [show t + ((0 : Nat) : Int) = t by omega] at c0
    rw [cel i j hi (by omega), c0]
    refine hE j (by omega) _ ?_
    rw [List.getD_eq_getElem?_getD, List.getElem?_eq_getElem (by omega : i < vs.length)]
    exact List.getElem_mem _
  · have hE : eaE n vs := fun i hi l hl => by
      obtain ⟨q, hq⟩ := List.mem_iff_getElem?.mp hl
      have hql := gE_l hq
      have c0 := cel 0 i (by omega) hi
      rw [show t + ((0 : Nat) : Int) = t by omega] at c0
      have c1 := cel q i (by omega) hi
      rw [hsame q i (by omega) (by omega), c0] at c1
      have e : vs.getD q [] = l := by rw [List.getD_eq_getElem?_getD, hq]; rfl
      rw [e] at c1
      exact c1.symm
    have k1 := k1 hE
    have k2 := k2 hE
    rw [xp_in ha] at e12
    have f12 : sg_F [70] σ2 σ12 := by rw [e12]; exact sg_F_w (sg_F_r _ _) rfl _
    have g70 : sg_g σ12 70 a = sg_g σ 64 t := by rw [e12, sg_gw_e _ _ _ _ (sg_Rg _ _ _)]
    have f15 : sg_F [22061] σ12 σ15 := by rw [e15]; exact sg_F_w (sg_F_r _ _) rfl _
    have F15 : sg_F [70, 8061, 22061] σ σ15 := sg_F_t (sg_F_t (sg_F_m f2 rfl) (sg_F_m f12 rfl)) (sg_F_m f15 rfl)
    rw [xa_in (a := 70) ha, g70]
    refine f_want (W0 := []) (lo := lo) (hi := hi) hx (by rw [sg_F_ga F15 rfl]; exact h11) (by rw [sg_F_ga F15 rfl]; exact h12) (by omega) ⟨by rw [e15, sg_gw_e _ _ _ _ (by decide)]; rfl, fun i y hy => by simp at hy, List.Pairwise.nil⟩ (by simp) (fun σ19 W1 f19 w19 m19 _ => ?_)
    have F19 : sg_F [70, 74, 8061, 22061] σ σ19 := sg_F_t (sg_F_m F15 rfl) (sg_F_m f19 rfl)
    have m19' : ∀ s, s ∈ W1 ↔ wnt σ lo hi bd s := fun s => by
      rw [m19 s, wnt_F F15 rfl]
      exact ⟨fun q => q.resolve_left (by simp), Or.inr⟩
    refine ⟨fun σ27 => ∃ W, wl σ27 W ∧ ∀ s, s ∈ W ↔ opU σ lo hi gd glo ghi bd s, ⟨fun z => ⟨W1, w19, fun s => by rw [m19' s]; unfold opU; exact ⟨Or.inl, fun q => q.resolve_right (fun r => by omega)⟩⟩, fun z => ?_⟩, ?_⟩
    · obtain ⟨z1, z2, z3, z4, z5⟩ := hgd z
      refine f_want (W0 := W1) (lo := glo) (hi := ghi) ⟨z, z1⟩ (by rw [sg_F_ga F19 rfl]; exact z2) (by rw [sg_F_ga F19 rfl]; exact z3) (by omega) w19 (fun s hs => ?_) (fun σ75 W f75 w75 m75 _ => ⟨W, w75, fun s => ?_⟩)
      · obtain ⟨j, q1, q2, q3, q4, q5⟩ := (m19' s).mp hs
        exact ⟨j, by omega, by omega, by rw [sg_F_ga F19 rfl]; exact q4⟩
      · rw [m75 s, m19' s, wnt_F F19 rfl]
        unfold opU
        exact ⟨fun q => q.imp id (fun r => ⟨z, r⟩), fun q => q.imp id (fun r => r.2)⟩
    · rintro σ27 f27 ⟨W, w27, m27⟩
      have F27 : sg_F [70, 74, 8061, 22061] σ σ27 := sg_F_t F19 (sg_F_m f27 rfl)
      have wN := wl_nd w27.2.2
      have wl1 := wit_len (f := sg_g σ 16) (a := plo) (b := phi) wN (fun s hs => by
        rcases (m27 s).mp hs with ⟨j, q1, q2, q3, q4, q5⟩ | ⟨z, j, q1, q2, q3, q4, q5⟩
        · exact ⟨j, by omega, by omega, q4⟩
        · have := hgd z
          exact ⟨j, by omega, by omega, q4⟩)
      have wl2 : (W.length : Int) ≤ 200 ∧ sv + W.length ≤ 2400 := by
        rcases wl1 with q | q
        · omega
        · rw [q]; simp only [List.length_nil]; omega
      have eW : W = Ob.map sl := srt_eq w27.2.2 hOs (fun s => by rw [m27 s, hOm s])
      have lW : W.length = Ob.length := by rw [eW, List.length_map]
      have hWr : ∀ s ∈ W, 0 ≤ s ∧ s < 272 := fun s hs => by
        rw [eW] at hs
        obtain ⟨y, hy, e⟩ := List.mem_map.mp hs
        rw [← e]; exact (hT y hy).1
      have wbd : ∀ s ∈ W, s < bd := fun s hs => by
        rcases (m27 s).mp hs with ⟨j, q1, q2, q3, q4, q5⟩ | ⟨z, j, q1, q2, q3, q4, q5⟩ <;> exact q5
      refine f_save ha w27 (by omega) hWr (sv := sv) (by rw [sg_F_g F27 (by rfl)]; exact hsv) (by omega) (fun σ31 f31 s1 s2 s3 s4 s5 _ => ?_)
      have F31 : sg_F [70, 71, 72, 73, 74, 8061, 22061, 23061] σ σ31 := sg_F_t (sg_F_m F27 rfl) (sg_F_m f31 rfl)
      have ex31 : yEx σ σ31 := yEx_F F31 rfl
      have w31 : wl σ31 W := ⟨by rw [sg_F_g f31 (by rfl)]; exact w27.1, fun i y hy => by rw [sg_F_ga f31 rfl]; exact w27.2.1 i y hy, w27.2.2⟩
      -- the slots of the generators, and the lanes
      have fin : ∀ σ37, sg_F nrL σ31 σ37 → nrX σ31 σ37 Ob W sl ty c (fCa ty (fRp n ln) Ob s ρ) → (∃ (I45 : Nat → Int → sg_S → Prop) (X47 : sg_S → Prop), (∃ n, I45 n (0) σ37) ∧ (∀ (n55 : Nat) (v42 : Int) (σ43 : sg_S), sg_R v42 → sg_F [62] σ37 σ43 → I45 n55 v42 σ43 → ((g ≤ v42 → X47 σ43) ∧ (v42 < g → ((4 ≤ v42 → X47 σ43) ∧ (v42 < 4 → sg_R (bd + v42) ∧ sg_R (t + v42) ∧ p_lItems σ37 ((sx_at σ 64 400 (t + v42))) ∧ ∀ σ69, σ69 = (sx_put σ43 62 272 (bd + v42) ((v_lItems σ37 ((sx_at σ 64 400 (t + v42)))))) → sg_R (v42 + 1) ∧ (∃ m, m < n55 ∧ I45 m ((v42 + 1)) σ69)))))) ∧ (∀ (σ43 : sg_S), sg_F [62] σ37 σ43 → X47 σ43 → p_lItems σ37 (sg_g σ 64 t) ∧ ∀ σ60, σ60 = (sg_w σ43 61 23 ((v_lSize σ37 ((v_lItems σ37 (sg_g σ 64 t)))))) → Q σ60)) := by
        intro σ37 f37 h37
        have F37 : sg_F onL σ σ37 := sg_F_t (sg_F_m F31 rfl) (sg_F_m f37 rfl)
        refine ⟨fun m v σ43 => ∃ j : Nat, v = j ∧ (j : Int) ≤ g ∧ m = 4 - j ∧ (∀ i : Nat, i < j → sg_g σ43 62 (bd + i) = v_lItems σ37 (sg_g σ 64 (t + i))) ∧ (∀ s, ¬ (bd ≤ s ∧ s < bd + j) → sg_g σ43 62 s = sg_g σ37 62 s), fun σ43 => (∀ i : Nat, (i : Int) < g → sg_g σ43 62 (bd + i) = v_lItems σ37 (sg_g σ 64 (t + i))) ∧ (∀ s, ¬ (bd ≤ s ∧ s < bd + g) → sg_g σ43 62 s = sg_g σ37 62 s), ⟨_, 0, rfl, by omega, rfl, fun i hi => by omega, fun s _ => rfl⟩, ?_, ?_⟩
        · rintro m v σ43 rv f43 ⟨j, rfl, hj, hm', q1, q2⟩
          refine ⟨fun z => ⟨fun i hi => q1 i (by omega), fun s hs => q2 s (by omega)⟩, fun z => ⟨fun y => by omega, fun y => ⟨⟨by omega, by omega⟩, ⟨by omega, by omega⟩, y_pitems _ _, fun σ69 e69 => ?_⟩⟩⟩
          rw [xa_in ⟨by omega, by omega⟩, xp_in ⟨by omega, by omega⟩] at e69
          have ri : sg_R (v_lItems σ37 (sg_g σ 64 (t + j))) := by
            unfold v_lItems
            repeat' split
            all_goals first | exact sg_Rg _ _ _ | decide
          refine ⟨⟨by omega, by omega⟩, 4 - (j + 1), by omega, j + 1, by omega, by omega, rfl, fun i hi => ?_, fun s hs => ?_⟩
          · rw [e69]
            by_cases e : i = j
            · subst e; rw [sg_gw_e _ _ _ _ ri]
            · rw [sg_gw_k _ _ _ _ _ _ (by omega)]; exact q1 i (by omega)
          · rw [e69, sg_gw_k _ _ _ _ _ _ (by omega)]; exact q2 s (by omega)
        · rintro σ43 f43 ⟨q1, q2⟩
          refine ⟨y_pitems _ _, fun σ60 e60 => ?_⟩
          have f60 : sg_F [24061] σ43 σ60 := by rw [e60]; exact sg_F_w (sg_F_r _ _) rfl _
          have f3760 : sg_F [62, 24061] σ37 σ60 := sg_F_t (sg_F_m f43 rfl) (sg_F_m f60 rfl)
          have F60 : sg_F onL σ σ60 := sg_F_t F37 (sg_F_m f3760 rfl)
          cases ef : fCa ty (fRp n ln) Ob s ρ with
          | inl p =>
            rw [ef] at h37
            obtain ⟨z1, z2, z3⟩ := h37
            exact k1 p ef σ60 F60 z1 (by rw [sg_F_g f3760 (by rfl)]; exact z2) (ctX_F f3760 rfl z3)
          | inr p =>
            obtain ⟨s3', ρ3⟩ := p
            rw [ef] at h37
            obtain ⟨r1, r2, r3, r4, r5⟩ := h37
            have ex37 : yEx σ σ37 := yEx_t ex31 r2
            have ex60 : yEx σ37 σ60 := yEx_F f3760 rfl
            have it : ∀ i : Nat, (i : Int) < g → yX σ37 (dg i) (v_lItems σ37 (sg_g σ 64 (t + i))) (flF (vs.getD i [])) := fun i hi => by
              have hx := yX_up ex37 (hv i hi).1
              rw [y_items r1.1 hx.1]
              exact hx.2.2.2
            have it0 := it 0 (by omega)
            rw [show t + ((0 : Nat) : Int) = t by omega] at it0
            have i0r := (yX_c it0).1
            have gi := r1.1.1
            have fl0 : ((flF (vs.getD 0 [])).length : Int) = ln.sum := by rw [flF_l, ← hln]
            have sz : v_lSize σ37 (v_lItems σ37 (sg_g σ 64 t)) = ln.sum := by
              unfold v_lSize
              rw [xa_in ⟨i0r.1.1, by have := i0r.1.2; omega⟩, ← fl0]; exact i0r.2.1
            have M6 : (ln.sum : Int) ≤ 6000 := by
              have := i0r.2.2
              have := r1.1.2.1
              omega
            refine k2 s3' ρ3 ef σ60 F60 ⟨mC_F r1 f3760 rfl, yEx_t ex37 ex60, ctX_F f3760 rfl r3, fun y hy => ?_, fun i hi => ?_, fun s hs hs2 => ?_, ?_, ?_, ?_, fun i hi => ?_, ?_, ?_, fun i hi => ?_, fun i y hy => ?_, fun i hi => ?_⟩ ?_
            · have sb := wbd (sl y) (by rw [eW]; exact List.mem_map_of_mem hy)
              rw [sg_F_ga f60 rfl, q2 (sl y) (by omega)]
              exact yX_up ex60 (r4 y hy)
            · rw [sg_F_ga f60 rfl, q1 i (by omega)]
              exact yX_up ex60 (it i (by omega))
            · rw [sg_F_ga f60 rfl, q2 s hs2, r5 s (by rw [eW]; exact hs), sg_F_ga F31 rfl]
            · rw [e60, sz, sg_gw_e _ _ _ _ ⟨by omega, by omega⟩, hln]
            · rw [sg_F_g f3760 (by rfl), sg_F_g f37 (by rfl), sg_F_g f31 (by rfl), sg_F_g f27 (by rfl), sg_F_g f19 (by rfl), sg_F_g f15 (by rfl), sg_F_g f12 (by rfl)]; exact t2
            · rw [sg_F_ga f3760 rfl, sg_F_ga f37 rfl, sg_F_ga f31 rfl, sg_F_ga f27 rfl, sg_F_ga f19 rfl, sg_F_ga f15 rfl]; exact g70
            · rw [sg_F_ga f3760 rfl, sg_F_ga f37 rfl, sg_F_ga f31 rfl, sg_F_ga f27 rfl, sg_F_ga f19 rfl, sg_F_ga f15 rfl, e12, sg_gw_k _ _ _ _ _ _ hi, sg_F_ga f2 rfl]
            · rw [sg_F_g f3760 (by rfl), sg_F_g f37 (by rfl), s1, lW]
            · rw [sg_F_ga f3760 rfl, sg_F_ga f37 rfl]; exact s2
            · rw [sg_F_ga f3760 rfl, sg_F_ga f37 rfl, s3 i hi, sg_F_ga F27 rfl]
            · rw [← eW] at hy
              obtain ⟨u1, u2⟩ := s4 i y hy
              exact ⟨by rw [sg_F_ga f3760 rfl, sg_F_ga f37 rfl]; exact u1, by rw [sg_F_ga f3760 rfl, sg_F_ga f37 rfl, u2, sg_F_ga F27 rfl]⟩
            · obtain ⟨u1, u2⟩ := s5 i hi
              exact ⟨by rw [sg_F_ga f3760 rfl, sg_F_ga f37 rfl, u1, sg_F_ga F27 rfl], by rw [sg_F_ga f3760 rfl, sg_F_ga f37 rfl, u2, sg_F_ga F27 rfl]⟩
            · rcases wl1 with q | q
              · left; omega
              · right
                rw [q] at lW
                exact List.eq_nil_of_length_eq_zero lW.symm
      refine f_spreadX (W := W) (Ob := Ob) (sl := sl) (ty := ty) (ρ := ρ) (n := n) (dg := dg 0) (v0 := vs.getD 0 []) (mC_F hm F31 rfl) (ctX_F F31 rfl hs) hc hn (by rw [sg_F_g F31 (by rfl)]; exact h23) (yX_up ex31 v0) v0l w31 (by omega) eW.symm (fun y hy => cyT_F F31 ex31 rfl (hT y hy)) (fun σ37 f37 z _ => fin σ37 f37 (by rw [hln]; exact z))

end CSS
