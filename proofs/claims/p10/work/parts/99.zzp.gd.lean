/-! flatIf: its parts begun, its value made. -/
section GD
variable {A : aT} {D : List aDf} {T B : Int → Int} {lev : Int → Nat} {r : Int}
theorem m_flIf {σ : sg_S} {m : Nat} {tys : List (Int × Int × Int)} {Q : sg_S → Prop} (hX : pgX σ A D T B) (hN : fN σ) (h : fTop A D T B lev r σ m tys) (e0 : sg_g σ 88 73 = 0) (k3 : A.2.1 (sg_g σ 126 m) = 3) (k : ∀ σ', fQ A D T B lev r σ σ' → Q σ') : V_flatIf σ m Q := by
  have hN' := hN
  obtain ⟨hI, hB, n1, n2, n3⟩ := hN
  have hI' := hI
  obtain ⟨i1, i2, i3, i4, i5⟩ := hI
  obtain ⟨fm, j, f, L, sc, X, h1, h2, h3, h4, h5, h6, h7, h8⟩ := h
  obtain ⟨hP, hD, eT, eB, hA, hdt⟩ := id hX
  obtain ⟨w1, w2, w3, w4, w5, w6⟩ := stN_w h4
  obtain ⟨t1, t2, t3, t4, t5⟩ := tr_k hP w2
  have tl : tys.length ≤ 2000 := by omega
  rw [fK_3 k3] at h7
  obtain ⟨a, c, d, ea, q⟩ := h7
  have g := w5 (by omega)
  rw [kTy_3 k3, ea] at g
  obtain ⟨g1, g2, g3⟩ := kIs_in g
  simp only [List.map_cons, List.getD_cons_succ, List.getD_cons_zero, Bool.and_eq_true, decide_eq_true_eq] at g1 g3
  have stb : 0 ≤ sg_g σ 127 m ∧ sg_g σ 127 m ≤ 3 := by
    rcases q with ⟨q1, -⟩ | ⟨q1, -⟩ | ⟨q1, -⟩ | ⟨q1, -⟩ <;> omega
  unfold V_flatIf
  refine ⟨⟨by omega, by omega⟩, ⟨by omega, by omega⟩, fun σ3 e3 => ?_⟩
  have f3 : sg_F [127] σ σ3 := by rw [e3]; exact sg_F_w (sg_F_r _ _) rfl _
  have g99 : sg_g σ3 88 99 = sg_g σ 88 99 := sg_F_g f3 (by rfl)
  refine m_restore ⟨h6.1, by omega, by omega⟩ (fun i x y => by rw [sg_F_ga f3 rfl]; exact hB i x (by omega)) (fun σ7 s7 u7 b7 f7 _ => ?_)
  have F7 : sg_F [127, 134, 100088] σ σ7 := sg_F_t (sg_F_m f3 rfl) (sg_F_m f7 rfl)
  have ex7 : fEx σ σ7 := fEx_F F7 rfl
  have un7 : ∀ s' b, s' ≤ sg_g σ 146 m → und σ7 s' b = und σ s' b := fun s' b hs => by rw [u7 s' b hs]; exact und_F f3 rfl s' b
  have r127 : ∀ i : Nat, i < m → sg_g σ7 127 i = sg_g σ 127 i := fun i hi => by rw [sg_F_ga f7 rfl, e3, sg_gw_k _ _ _ _ _ _ (by omega)]
  have s127 : sg_g σ7 127 m = sg_g σ 127 m + 1 := by rw [sg_F_ga f7 rfl, e3, sg_gw_e _ _ _ _ ⟨by omega, by omega⟩]
  have I7 : fI σ7 := by
    unfold fI
    rw [sg_F_g (k := 84) F7 (by rfl), sg_F_g (k := 85) F7 (by rfl), sg_F_g (k := 91) F7 (by rfl), sg_F_g (k := 87) F7 (by rfl), s7]
    rw [sg_F_g (k := 62) F7 (by rfl)]
    exact ⟨i1, i2, i3, i4, by omega, by omega⟩
  have N7 : fN σ7 := fN_x F7 rfl I7 b7 (by rw [sg_F_g F7 (by rfl)]; omega) hN'
  have kid : ∀ z ∈ A.2.2.2.2.1 (sg_g σ 126 m), ∃ f' L', stN A D T B lev j f' L' sc z ∧ ∀ y ∈ L', y ∈ L := fun z hz => stN_kid h4 (by omega) (by omega) hz
  have bnd : ∀ p ∈ sc, scF σ (sg_g σ 146 m) (sg_g σ 145 m) X (fun _ => False) sc → fLx σ7 p.2.toNat (sg_g σ 145 m) (sg_g σ7 88 85 + X) (sg_g σ7 134 p.1) := fun p hp hs => by
    have := fLx_up (c' := sg_g σ7 88 85 + X) ex7 (by rw [sg_F_g F7 (by rfl)]; exact Int.le_refl _) (hs p hp).2
    rw [← un7 _ _ (Int.le_refl _), ← s7, und_top] at this
    exact this
  refine ⟨fun c0 => ⟨fun cg => ?_, fun cg => ?_⟩, fun c0 => ?_⟩
  · rcases q with ⟨q1, -⟩ | ⟨q1, -⟩ | ⟨q1, -⟩ | ⟨q1, q3⟩
    · omega
    · omega
    · omega
    subst q3
    obtain ⟨m1, hm1⟩ : ∃ m1, m1 = cwT σ (sg_g σ 128 m) (sg_g σ 145 m) := ⟨_, rfl⟩
    rw [← hm1] at h3 h2
    simp only [List.length_cons, List.length_nil] at h2
    have v0 := fLx_L (vW_0 h3)
    rw [g3.1] at v0
    have v1 : fL σ (T c).toNat m1 (sg_g σ 133 (sg_g σ 128 m + 1)) := fLx_L (h3 1 _ rfl)
    have v2 : fL σ (T d).toNat (sg_g σ 145 m - m1) (sg_g σ 133 (sg_g σ 128 m + 2)) := fLx_L (h3 2 _ rfl)
    rw [← g3.2] at v2
    obtain ⟨rt, Rt, hv0, lR, rL⟩ := fL_c v0
    obtain ⟨R1, hv1, l1, b1⟩ := v1
    obtain ⟨R2, hv2, l2, b2⟩ := v2
    have hv17 := fV_up ex7 hv1
    have hv27 := fV_up ex7 hv2
    have z0 := (fV_0 hv0).1
    have cwe : cw σ rt.1 rt.2.toNat = m1 := by rw [hm1]; unfold cwT; rw [z0, rL]
    have m1b : 0 ≤ m1 ∧ m1 ≤ sg_g σ 145 m := by
      have := cw_b (σ := σ) (p := rt.1) rt.2.toNat
      rw [cwe] at this
      omega
    have x1 := eX_b hv1.2.2.2.2
    have x2 := eX_b hv2.2.2.2.2
    have c4 := w3.2
    have c0' := w3.1
    rw [g1] at c4 c0'
    rw [l1] at x1
    rw [l2] at x2
    have g91 : sg_g σ7 88 91 = sg_g σ 88 91 := sg_F_g F7 (by rfl)
    have g87 : sg_g σ7 88 87 = sg_g σ 88 87 := sg_F_g F7 (by rfl)
    have g84 : sg_g σ7 88 84 = sg_g σ 88 84 := sg_F_g F7 (by rfl)
    have g85 : sg_g σ7 88 85 = sg_g σ 88 85 := sg_F_g F7 (by rfl)
    refine ⟨⟨by omega, by omega⟩, ⟨by omega, by omega⟩, m_extent hv17 ⟨by decide, by decide⟩ (by omega) (fun _ => ⟨⟨by omega, by omega⟩, ⟨by omega, by omega⟩, m_extent hv27 ⟨by decide, by decide⟩ (by omega) (fun _ => ⟨⟨by omega, by omega⟩, ?_⟩)⟩)⟩
    refine m_stepped ⟨by omega, by omega⟩ ⟨by omega, by omega⟩ (fun σ' e _ _ => ⟨fun z => absurd rfl z, fun _ => k _ (Or.inl e)⟩) (fun σ8 f8 s1 s2 s3 s4 _ _ => ⟨fun _ => ?_, fun z => by omega⟩)
    have F8 : sg_F [127, 134, 85088, 86088, 100088] σ σ8 := sg_F_t (sg_F_m F7 rfl) (sg_F_m f8 rfl)
    have ex8 : fEx σ σ8 := fEx_F F8 rfl
    have h91 : sg_g σ8 88 91 = sg_g σ 88 91 := sg_F_g F8 (by rfl)
    have h87 : sg_g σ8 88 87 = sg_g σ 88 87 := sg_F_g F8 (by rfl)
    have jx := two_T l1 l2
    have nn : ∀ l k', l < (T c).toNat + 1 → 0 ≤ ((two R1 R2 k').getD l (0, 0)).2 := fun l k' hl => by
      have : ∀ RR : List (Int × Int), fCh σ 6000 RR → RR.length = (T c).toNat + 1 → 0 ≤ (RR.getD l (0, 0)).2 := fun RR y1 y2 => by
        obtain ⟨x, hx⟩ : ∃ q, RR[l]? = some q := ⟨_, List.getElem?_eq_getElem (by omega)⟩
        rw [List.getD_eq_getElem?_getD, hx]
        exact (fCh_at y1 hx).1.2.1
      unfold two
      split
      · exact this _ hv1.2.2.2.2 l1
      · exact this _ hv2.2.2.2.2 l2
    have jl : ∀ l, l < (T c).toNat + 1 → jS (two R1 R2) l 2 ≤ 6000 := fun l hl => by
      have a1 := jT_m (RR := two R1 R2) (m := 2) (K := (T c).toNat + 1) (fun l' hl' => jS_0 (m := 2) (fun k' _ => nn l' k' hl') (Nat.le_refl _)) (l := l + 1) (l' := (T c).toNat + 1) (by omega) (Nat.le_refl _)
      have a2 := jT_m (RR := two R1 R2) (m := 2) (K := (T c).toNat + 1) (fun l' hl' => jS_0 (m := 2) (fun k' _ => nn l' k' hl') (Nat.le_refl _)) (l := 0) (l' := l) (by omega) (by omega)
      have e1 : jT (two R1 R2) 2 (l + 1) = jT (two R1 R2) 2 l + jS (two R1 R2) l 2 := rfl
      have e2 : jT (two R1 R2) 2 0 = 0 := rfl
      omega
    refine m_join (RR := two R1 R2) (M := 6000) (m := 2) (K := (T c).toNat + 1) ⟨rfl, by decide⟩ ⟨by omega, by omega⟩ (fun k' hk' => ?_) (by omega) ⟨by omega, by omega⟩ (by decide) (by rw [jx]; omega) (fun q σ9 eq ex9 fv9 hj9 e87 e91 f9 rq _ => ?_)
    · rw [sg_F_ga (a := 133) F8 rfl]
      rcases (show k' = 0 ∨ k' = 1 by omega) with e | e
      · rw [e, show sg_g σ 128 m + 1 + ((0 : Nat) : Int) = sg_g σ 128 m + 1 by omega]
        exact ⟨fV_up ex8 hv1, l1⟩
      · rw [e, show sg_g σ 128 m + 1 + ((1 : Nat) : Int) = sg_g σ 128 m + 2 by omega]
        exact ⟨fV_up ex8 hv2, l2⟩
    have fv9' := fv9 6000 jl
    rw [jx] at e91
    have ex89 := fEx_t ex8 ex9
    obtain ⟨RB, hRB⟩ : ∃ RB, RB = jR (two R1 R2) (sg_g σ8 88 91) 2 ((T c).toNat + 1) := ⟨_, rfl⟩
    rw [← hRB] at fv9'
    have hv19 := fV_up ex89 hv1
    have vb := hv19.1
    have vl : v_lanesOf σ9 (sg_g σ 133 (sg_g σ 128 m + 1)) = m1 := by
      unfold v_lanesOf
      obtain ⟨x, R', e⟩ : ∃ x R', R1 = x :: R' := by
        cases R1 with
        | nil => simp at l1
        | cons x R' => exact ⟨x, R', rfl⟩
      rw [e] at hv19 b1
      rw [(fV_0 hv19).2]
      exact b1
    have LB : (RB.getD 0 (0, 0)).2 = sg_g σ 145 m := by
      rw [hRB, List.getD_eq_getElem?_getD, jR_at (by omega)]
      simp only [jS, two, Option.getD_some]
      simp only [if_true, Int.zero_add, Nat.succ_ne_zero, if_false]
      rw [b1]
      have : (if (1 : Nat) = 0 then R1 else R2) = R2 := rfl
      omega
    rw [vl]
    refine ⟨⟨⟨by omega, by omega⟩, ⟨by omega, by omega⟩, trivial⟩, fun σ10 e10 => ?_⟩
    have f10 : sg_F [94088] σ9 σ10 := by rw [e10]; exact sg_F_w (sg_F_r _ _) rfl _
    have hv09 := fV_up ex89 hv0
    have cm : ∀ x : Nat, ∀ y : Nat, x ≤ y → cw σ rt.1 x ≤ cw σ rt.1 y := fun x y => by
      induction y with
      | zero => intro h; rw [show x = 0 by omega]; exact Int.le_refl _
      | succ y ih =>
        intro h
        by_cases e : x = y + 1
        · rw [e]; exact Int.le_refl _
        · have := ih (by omega)
          simp only [cw]
          split <;> omega
    obtain ⟨rw1, rw2, rw3, rw4⟩ := hv0.2.2.2.2.1
    refine ⟨fun p v49 v50 x σ11 => p = (sg_g σ 145 m - x).toNat ∧ (0 ≤ x ∧ x ≤ sg_g σ 145 m) ∧ v49 = cw σ rt.1 x.toNat ∧ v50 = m1 + (x - cw σ rt.1 x.toNat) ∧ lD σ11 x (fun u => (0 ≤ u ∧ u < cw σ rt.1 x.toNat) ∨ (m1 ≤ u ∧ u < m1 + (x - cw σ rt.1 x.toNat))), fun σ11 => lD σ11 (sg_g σ 145 m) (fun u => 0 ≤ u ∧ u < sg_g σ 145 m), ⟨_, rfl, ⟨by omega, by omega⟩, rfl, by simp only [show (0 : Int).toNat = 0 by rfl, cw]; omega, lD_0 e10⟩, ?_, ?_⟩
    · rintro p v49 v50 x σ11 r49 r50 rx f11 ⟨ep, hx, e49, e50, hd⟩
      have cb := cw_b (σ := σ) (p := rt.1) x.toNat
      refine ⟨fun z => ?_, fun z => ?_⟩
      · have ex : x = sg_g σ 145 m := by omega
        rw [ex] at hd
        rw [ex, ← rL, cwe] at cb
        refine lD_w hd (fun u hu => ?_)
        rw [← rL, cwe, rL] at hu
        rw [rL] at cb
        omega
      · obtain ⟨pa, va⟩ := pR hv09 ⟨by omega, by omega⟩ (i := x) ⟨by omega, by omega⟩
        have css := cw_s (σ := σ) (p := rt.1) hx.1
        have mm := cm (x + 1).toNat rt.2.toNat (by omega)
        rw [cwe] at mm
        have ce : sg_g σ9 142 (rt.1 + x) = sg_g σ 142 (rt.1 + x) := ex89.2.2.2 _ (by omega) (by omega)
        refine ⟨⟨h1, by omega⟩, pa, fun v86 e86 r86 v91 e91' r91 => ?_⟩
        rw [va, ce] at e86
        by_cases c5 : sg_g σ 142 (rt.1 + x) = 0
        · rw [if_pos c5] at e86 css
          rw [e86, if_pos rfl] at e91'
          refine m_listD hd (by omega) r91 (by omega) (fun σ12 h12 f12 v102 e102 r102 => ⟨?_, fun v108 e108 r108 => ⟨?_, ⟨by omega, by omega⟩, _, by omega, rfl, ⟨by omega, by omega⟩, ?_, ?_, lD_w h12 (fun u hu => by omega)⟩⟩)
          · rw [e86, if_pos rfl] at e102; exact ⟨by omega, by omega⟩
          · rw [e86, if_pos rfl] at e108; exact ⟨by omega, by omega⟩
          · rw [e86, if_pos rfl] at e102; omega
          · rw [e86, if_pos rfl] at e108; omega
        · rw [if_neg c5] at e86 css
          rw [e86, if_neg (by decide)] at e91'
          refine m_listD hd (by omega) r91 (by omega) (fun σ12 h12 f12 v102 e102 r102 => ⟨?_, fun v108 e108 r108 => ⟨?_, ⟨by omega, by omega⟩, _, by omega, rfl, ⟨by omega, by omega⟩, ?_, ?_, lD_w h12 (fun u hu => by omega)⟩⟩)
          · rw [e86, if_neg (by decide)] at e102; exact ⟨by omega, by omega⟩
          · rw [e86, if_neg (by decide)] at e108; exact ⟨by omega, by omega⟩
          · rw [e86, if_neg (by decide)] at e102; omega
          · rw [e86, if_neg (by decide)] at e108; omega
    · intro σ11 f11 hd
      have F911 : sg_F [143, 94088] σ9 σ11 := sg_F_t (sg_F_m f10 rfl) f11
      have fv11 := fV_up (fEx_F F911 rfl) fv9'
      have lo : lnO σ11 RB := lnO_of (lD_O hd (fun x h => h.2)) (by omega) LB.symm
      have gt := gT_d fv11.2.2.2.2 hd (fun x h => h) LB.symm
      rw [hRB, eX_j, jx, ← hRB] at gt
      have h93 := hd.1
      have k91 : sg_g σ11 88 91 = sg_g σ 88 91 + (eX R1 + eX R2) := by rw [sg_F_g F911 (by rfl), e91, h91]
      have k87 : sg_g σ11 88 87 = sg_g σ 88 87 + 1 := by rw [sg_F_g F911 (by rfl)]; omega
      have gl : ∀ l, l < RB.length → gsum σ11 RB l (sg_g σ11 88 93).toNat ≤ 6000 := fun l hl => by
        have a1 := gT_l fv11.2.2.2.2 lo (by decide) (j := (sg_g σ11 88 93).toNat) (by omega) hl
        have a2 := gT_b fv11.2.2.2.2 lo (by decide) (j := (sg_g σ11 88 93).toNat) (by omega) (l := l) (by omega)
        rw [h93] at a1 a2 ⊢
        omega
      have gt0 := gT_b fv11.2.2.2.2 lo (by decide) (j := (sg_g σ11 88 93).toNat) (by omega) (l := RB.length) (Nat.le_refl _)
      rw [← h93] at gt
      have lB : RB.length = (T c).toNat + 1 := by rw [hRB, jR_l]
      refine m_gath fv11 ⟨by decide, by decide⟩ (by omega) ⟨by omega, by omega⟩ lo (by omega) (fun w σ12 ew ex12 fv12 e87' e91' f12 rw' _ => ?_)
      obtain ⟨r0, R0, er, er2, el⟩ := gR_c (σ := σ11) (R := RB) (by omega)
      have F12 : sg_F [127, 134, 139, 140, 141, 142, 143, 144, 85088, 86088, 88088, 92088, 94088, 100088] σ σ12 := sg_F_t (sg_F_m F8 rfl) (sg_F_t (sg_F_m f9 rfl) (sg_F_t (sg_F_m F911 rfl) (sg_F_m f12 rfl)))
      have F812 : sg_F [139, 140, 141, 142, 143, 144, 88088, 92088, 94088] σ8 σ12 := sg_F_t (sg_F_m f9 rfl) (sg_F_t (sg_F_m F911 rfl) (sg_F_m f12 rfl))
      have exs : fEx σ σ12 := fEx_t ex89 (fEx_t (fEx_F F911 rfl) ex12)
      have j84 : sg_g σ12 88 84 = sg_g σ 88 84 + 1 := by rw [sg_F_g F812 (by rfl)]; omega
      have j85 : sg_g σ12 88 85 = sg_g σ 88 85 + (eX R1 + eX R2) := by rw [sg_F_g F812 (by rfl)]; omega
      have j99 : sg_g σ12 88 99 = sg_g σ 146 m := by rw [sg_F_g F812 (by rfl), sg_F_g f8 (by rfl)]; exact s7
      have s4' : sg_g σ12 88 85 ≤ 6000 := by rw [sg_F_g F812 (by rfl)]; exact s4
      have s2' : sg_g σ12 88 84 ≤ 2000 := by rw [sg_F_g F812 (by rfl)]; exact s2
      have j62' : sg_g σ12 88 62 = sg_g σ 88 62 := sg_F_g F12 (by rfl)
      have I12 : fI σ12 := ⟨⟨by omega, by omega⟩, ⟨by omega, by omega⟩, ⟨by omega, by omega⟩, ⟨by omega, by omega, by omega⟩, by omega, by omega⟩
      have B12 : sB σ12 := fun i x y => by rw [sg_F_ga F812 rfl, sg_F_ga f8 rfl]; exact b7 i x (by omega)
      have N12 : fN σ12 := fN_x F12 rfl I12 B12 (by omega) hN'
      have j62 : sg_g σ12 88 62 = sg_g σ 88 62 := sg_F_g F12 (by rfl)
      have j70 : sg_g σ12 88 70 = sg_g σ 88 70 := sg_F_g F12 (by rfl)
      have j128 : sg_g σ12 128 m = sg_g σ 128 m := sg_F_ga F12 rfl
      have j126 : sg_g σ12 126 m = sg_g σ 126 m := sg_F_ga F12 rfl
      have j145 : sg_g σ12 145 m = sg_g σ 145 m := sg_F_ga F12 rfl
      have j146 : sg_g σ12 146 m = sg_g σ 146 m := sg_F_ga F12 rfl
      refine ev_L (r := r) (m := m) (X := X) (W := ow lev j L) (fN_w N12) (by omega) (by rw [sg_F_g F12 (by rfl)]; exact e0) (by omega) (by omega) (by omega) ?_ ?_ rw' (fun σ' p1 p2 p3 p4 _ => k σ' (Or.inr ⟨p1, p2, ?_⟩))
      · rw [j128, j126, j145, j146]
        refine fStk_up exs (by omega) m _ _ _ _ _ _ _ (fun i hi => ⟨sg_F_ga F12 rfl, ?_, sg_F_ga F12 rfl, sg_F_ga F12 rfl, sg_F_ga F12 rfl, sg_F_ga F12 rfl⟩) (fun x _ _ => sg_F_ga F12 rfl) (fun s' b hs _ => ?_) (fun b hb => hb) h8
        · rw [sg_F_ga F812 rfl, sg_F_ga f8 rfl]; exact r127 i hi
        · rw [und_F F812 rfl, und_F f8 rfl]; exact un7 s' b hs
      · rw [j126, j145]
        refine ⟨_, fv12 6000 gl, ?_, ?_, by rw [eX_g]; have := h5.2.2; omega⟩
        · rw [gR_l, lB, g1]
        · rw [er, List.getD_cons_zero, er2, h93]; omega
      · unfold fM
        omega
  · have un : ∃ z N, (A.2.2.2.2.1 (sg_g σ 126 m))[(sg_g σ 127 m).toNat]? = some z ∧ N = (if sg_g σ 127 m = 1 then cwT σ (sg_g σ 128 m) (sg_g σ 145 m) else sg_g σ 145 m - cwT σ (sg_g σ 128 m) (sg_g σ 145 m)) ∧ scF σ (sg_g σ 146 m) (sg_g σ 145 m) X (fun _ => False) sc ∧ fL σ 0 (sg_g σ 145 m) (sg_g σ 133 (sg_g σ 128 m)) ∧ ∀ σ' sv W, cwT σ' (sg_g σ 128 m) (sg_g σ 145 m) = cwT σ (sg_g σ 128 m) (sg_g σ 145 m) → scF σ' (sg_g σ 146 m) (sg_g σ 145 m) X W sc → fK A D T B lev σ' (sg_g σ 126 m) (sg_g σ 127 m + 1) (sg_g σ 128 m) (sg_g σ 145 m) X (sg_g σ 146 m) sv (sg_g σ' 147 m) j L sc W (tys ++ [(T z, N, X)]) := by
      rcases q with ⟨q1, -⟩ | ⟨q1, q2, q3, q4⟩ | ⟨q1, q3, q4⟩ | ⟨q1, -⟩
      · omega
      · subst q3
        have v0 := fLx_L (vW_0 h3)
        rw [g3.1] at v0
        refine ⟨c, _, by rw [q1, ea]; rfl, rfl, q4, v0, fun σ' sv W e hs => ?_⟩
        rw [fK_3 k3, if_pos q1]
        exact ⟨a, c, d, ea, Or.inr (Or.inr (Or.inl ⟨by omega, by rw [e]; rfl, hs⟩))⟩
      · subst q3
        have v0 := fLx_L (vW_0 h3)
        rw [g3.1] at v0
        refine ⟨d, _, by rw [q1, ea]; rfl, rfl, q4, v0, fun σ' sv W e hs => ?_⟩
        rw [fK_3 k3, if_neg (by omega)]
        exact ⟨a, c, d, ea, Or.inr (Or.inr (Or.inr ⟨by omega, by rw [e]; rfl⟩))⟩
      · omega
    obtain ⟨z, N, hz, hNe, hsc, v0, hfk⟩ := un
    obtain ⟨f', L', ha, has⟩ := kid z (List.mem_of_getElem? hz)
    have tz := t4 _ z hz
    rw [show (((sg_g σ 127 m).toNat : Nat) : Int) = sg_g σ 127 m by omega] at tz
    rw [tz]
    have P7 := trT_X F7 rfl hX
    refine ⟨⟨by omega, by omega⟩, ⟨by omega, by omega⟩, ⟨by omega, by omega⟩, m_clear P7.1.1.1 ⟨P7.1.1.2.1, hA⟩ (fun σ8 m8 o8 f8 _ => ?_)⟩
    have F8 : sg_F [120, 127, 134, 47088, 100088] σ σ8 := sg_F_t (sg_F_m F7 rfl) (sg_F_m f8 rfl)
    refine m_mark (trT_X F8 rfl hX).1 hA m8 ha.2.1 ha.2.2.1 (fun y hy => (ha.2.2.2.1 y hy).1) (fun σ9 m9 f9 _ => ?_)
    rw [List.nil_append] at m9
    have F9 : sg_F [120, 121, 127, 134, 47088, 50088, 100088] σ σ9 := sg_F_t (sg_F_m F8 rfl) (sg_F_m f9 rfl)
    have P9 := trT_X F9 rfl hX
    have rbL : ∀ y ∈ L', A.2.1 y = 1 → rb A (B y) := fun y hy ky => by
      rcases stN_v hA ha hy ky with ⟨q, -⟩ | q
      · exact (ha.2.2.2.2 _ q).1
      · rcases q with ⟨q1, q2⟩ | ⟨q1, q2, q3⟩
        · have := (ha.2.2.2.1 _ q2).1
          exact ⟨⟨by omega, by omega⟩, fun _ => this.2, fun z => by omega⟩
        · have := (ha.2.2.2.1 _ q3).1
          exact ⟨⟨by omega, by omega⟩, fun z => by omega, fun _ _ => this.2⟩
    refine m_gatherO P9.1 P9.2 hA (by rw [sg_F_g f9 (by rfl)]; exact o8) m9 rbL (fun σ10 O o1 o2 o3 f10 _ => ⟨⟨h1, by omega⟩, fun v138 e138 r138 => ?_⟩)
    have F10 : sg_F [119, 120, 121, 127, 134, 47088, 50088, 100088] σ σ10 := sg_F_t (sg_F_m F9 rfl) (sg_F_m f10 rfl)
    have ex10 : fEx σ σ10 := fEx_F F10 rfl
    obtain ⟨rt, Rt, hv0, lR, rL⟩ := fL_c v0
    have hv10 := fV_up ex10 hv0
    have g91 : sg_g σ10 88 91 = sg_g σ 88 91 := sg_F_g F10 (by rfl)
    have g87 : sg_g σ10 88 87 = sg_g σ 88 87 := sg_F_g F10 (by rfl)
    have z0 := (fV_0 hv0).1
    have cwe : cw σ10 rt.1 rt.2.toNat = cwT σ (sg_g σ 128 m) (sg_g σ 145 m) := by
      unfold cwT
      rw [z0, rL]
      exact cw_e (fun j _ => sg_F_ga F10 rfl)
    have cwb := cw_b (σ := σ10) (p := rt.1) rt.2.toNat
    have v138c : v138 = 0 ∨ v138 = 1 := by rw [e138]; split <;> simp
    refine m_where hv10 ⟨by omega, by omega⟩ v138c (fun σ11 l11 f11 _ => ?_)
    have eN : (if v138 = 1 then cw σ10 rt.1 rt.2.toNat else rt.2 - cw σ10 rt.1 rt.2.toNat) = N := by
      rw [cwe, rL, hNe, e138]
      by_cases c1 : sg_g σ 127 m = 1 <;> simp [c1]
    rw [eN, rL] at l11
    have Nb : 0 ≤ N ∧ N ≤ 6000 := by
      rw [hNe]
      rw [rL] at cwb cwe
      split <;> omega
    have F11 : sg_F [119, 120, 121, 127, 134, 143, 47088, 50088, 94088, 100088] σ σ11 := sg_F_t (sg_F_m F10 rfl) (sg_F_m f11 rfl)
    have F711 : sg_F [119, 120, 121, 143, 47088, 50088, 94088] σ7 σ11 := sg_F_t (sg_F_m f8 rfl) (sg_F_t (sg_F_m f9 rfl) (sg_F_t (sg_F_m f10 rfl) (sg_F_m f11 rfl)))
    have ex711 := fEx_F F711 (by rfl)
    have I11 : fI σ11 := by
      unfold fI
      rw [sg_F_g (k := 84) F711 (by rfl), sg_F_g (k := 85) F711 (by rfl), sg_F_g (k := 91) F711 (by rfl), sg_F_g (k := 87) F711 (by rfl), sg_F_g (k := 99) F711 (by rfl), sg_F_g (k := 62) F711 (by rfl)]
      exact I7
    have s11 : sg_g σ11 88 99 = sg_g σ 146 m := by rw [sg_F_g F711 (by rfl)]; exact s7
    have B11 : sB σ11 := fun i x y => by rw [sg_F_ga F711 rfl]; exact b7 i x (by omega)
    have oR11 : oR σ11 O := ⟨by rw [sg_F_g f11 (by rfl)]; exact o1.1, fun i x hx => by rw [sg_F_ga f11 rfl]; exact o1.2.1 i x hx, o1.2.2⟩
    obtain ⟨out1, out2, -⟩ := out_S hA ha o2
    have h93 := l11.1
    rw [h93]
    refine m_car (S := sc) I11 B11 oR11 o3 (fun p hp => by rw [sg_F_ga (a := 134) F711 rfl]; exact fL_up ex711 (fLx_L (bnd p hp hsc))) out1 l11 (by omega) (fun σ' e _ _ => ⟨fun _ => k σ' (Or.inl e), fun z => absurd rfl z⟩) (fun σ12 I12 B12 ex12 S12 x12 u12 s12 k12 e12 f12 _ _ => ⟨fun z => by omega, fun _ => ?_⟩)
    have F12 : sg_F [119, 120, 121, 127, 134, 139, 140, 141, 142, 143, 144, 148, 149, 47088, 50088, 85088, 86088, 88088, 92088, 94088, 100088] σ σ12 := sg_F_t (sg_F_m F11 rfl) (sg_F_m f12 rfl)
    have exs : fEx σ σ12 := fEx_t (fEx_F F11 rfl) ex12
    have g84 : sg_g σ11 88 84 = sg_g σ 88 84 := sg_F_g F11 (by rfl)
    have g85 : sg_g σ11 88 85 = sg_g σ 88 85 := sg_F_g F11 (by rfl)
    have k85 := k12.2
    have k84 := k12.1
    have N12 : fN σ12 := fN_x F12 rfl I12 B12 (by omega) hN'
    have un12 : ∀ s' b, s' ≤ sg_g σ 146 m → und σ12 s' b = und σ s' b := fun s' b hs => by
      rw [u12 s' b (by omega), und_F F711 rfl s' b]; exact un7 s' b hs
    have g70 : sg_g σ12 88 70 = sg_g σ 88 70 := sg_F_g F12 (by rfl)
    have cwT12 : cwT σ12 (sg_g σ 128 m) (sg_g σ 145 m) = cwT σ (sg_g σ 128 m) (sg_g σ 145 m) := by
      unfold cwT
      rw [sg_F_ga (a := 133) F12 rfl]
      exact (fL_row v0 exs).1
    have ha' : stN A D T B lev j f' L' ([] ++ sc.filter (fun p => decide (p.1 ∈ O))) z := by
      refine stN_res (I := []) (sc := sc) ha (fun y hy ky p hp e => ?_) (fun p hp => (List.mem_filter.mp hp).1)
      refine List.mem_filter.mpr ⟨hp, decide_eq_true (out2 y hy ky p hp e (fun g => ?_))⟩
      have := g.1
      omega
    rw [List.nil_append] at ha'
    refine ev_next (σ := σ) (m := m) (X' := X) (tys' := tys) (st' := sg_g σ 127 m + 1) F12 rfl exs (fN_w N12) e0 fm (fun i hi => by rw [sg_F_ga f12 rfl, sg_F_ga F711 rfl]; exact r127 i hi) (fun i _ => sg_F_ga F12 rfl) (by rw [sg_F_ga f12 rfl, sg_F_ga F711 rfl]; exact s127) h1 (by omega) (fun x _ _ => sg_F_ga F12 rfl) (vW_up exs (by omega) (fun x _ _ => sg_F_ga F12 rfl) h3) h4 h5 ⟨h6.1, by omega⟩ h8 (fun s' u hs _ => un12 s' u hs) ha' (fun u hu => ow_s has hu) (fun p hp => ⟨fun z => z, ?_⟩) ⟨Nb.1, Nb.2, by have := h5.2.2; omega⟩ hA ?_ (by omega) (by omega) (fun σ' hq _ => k σ' hq)
    · obtain ⟨p1, p2⟩ := List.mem_filter.mp hp
      rw [und_top]
      exact fLx_up (fEx_r _) (by have := h5.2.2; omega) (S12 p p1 (of_decide_eq_true p2))
    · exact hfk σ12 _ _ cwT12 (fun p hp => ⟨(ha.2.2.2.2 p hp).2, by rw [un12 _ _ (Int.le_refl _)]; exact fLx_up exs (by omega) (hsc p hp).2⟩)
  · rcases q with ⟨q1, q2, q3, q4⟩ | ⟨q1, -⟩ | ⟨q1, -⟩ | ⟨q1, -⟩
    · subst q3
      obtain ⟨f', L', ha, has⟩ := kid a (by rw [ea]; simp)
      have ta := t4 0 a (by rw [ea]; rfl)
      rw [show 200 * sg_g σ 126 m + ((0 : Nat) : Int) = 200 * sg_g σ 126 m by omega] at ta
      rw [ta]
      have g70 : sg_g σ7 88 70 = sg_g σ 88 70 := sg_F_g F7 (by rfl)
      refine ⟨⟨by omega, by omega⟩, ⟨by omega, by omega⟩, ev_next (σ := σ) (m := m) (tys' := []) (st' := 1) F7 rfl ex7 (fN_w N7) e0 fm r127 (fun i _ => sg_F_ga F7 rfl) (by omega) h1 (by omega) (fun x _ _ => sg_F_ga F7 rfl) (fun i x hx => (by cases hx)) h4 h5 ⟨h6.1, by omega⟩ h8 (fun s' u hs _ => un7 s' u hs) ha (fun u hu => ow_s has hu) (fun p hp => ⟨fun z => z, ?_⟩) ⟨h5.1, h5.2.1, by rw [sg_F_g F7 (by rfl)]; exact h5.2.2⟩ hA ?_ (by rw [sg_F_g F7 (by rfl)]; omega) (by rw [sg_F_g F7 (by rfl)]; omega) (fun σ' hq _ => k σ' hq)⟩
      · rw [und_top]; exact bnd p hp q4
      · rw [fK_3 k3]
        exact ⟨a, c, d, ea, Or.inr (Or.inl ⟨rfl, s7, rfl, fun p hp => ⟨(ha.2.2.2.2 p hp).2, by rw [un7 _ _ (Int.le_refl _)]; exact fLx_up ex7 (by rw [sg_F_g F7 (by rfl)]; exact Int.le_refl _) (q4 p hp).2⟩⟩)⟩
    · omega
    · omega
    · omega
end GD
