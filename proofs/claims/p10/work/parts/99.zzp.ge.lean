/-! flatEach: GENS begun; the end. -/
section GE
variable {A : aT} {D : List aDf} {T B : Int → Int} {lev : Int → Nat} {r : Int}
theorem fK_15 {σ : sg_S} {n st b l X s sv al : Int} {j : Nat} {L : List Int} {sc : List (Int × Int)} {tys : List (Int × Int × Int)} {W : Int → Prop} (k15 : A.2.1 n = 15) : fK A D T B lev σ n st b l X s sv al j L sc W tys = (∃ bd tl, A.2.2.2.2.1 n = bd :: tl ∧ ((∃ i : Nat, i ≤ (A.2.2.2.2.2 n).length ∧ st = i ∧ sv = s ∧ tys = (tl.take i).map (fun x => (T x, l, X)) ∧ scF σ s l X W sc) ∨ (∃ ts, st = (A.2.2.2.2.2 n).length + 1 ∧ tl.drop (A.2.2.2.2.2 n).length = [ts] ∧ tys = (tl.take (A.2.2.2.2.2 n).length).map (fun x => (T x, l, X)) ++ [(T ts, csT σ b l, X - l)] ∧ ∃ f' L' sc', stN A D T B lev j f' L' sc' bd ∧ (∀ y ∈ L', y ∈ L) ∧ scF σ sv (csT σ b l) (X - l) W sc') ∨ (∃ m, st = (A.2.2.2.2.2 n).length + 2 ∧ tys = (tl.take (A.2.2.2.2.2 n).length).map (fun x => (T x, l, X)) ++ [(T bd, m, X - l)] ∧ ((tl.length = 1 + (A.2.2.2.2.2 n).length ∧ fRw σ 6000 (al, l) ∧ fLn σ (al, l) ∧ m = cs σ al l.toNat) ∨ (tl.length = (A.2.2.2.2.2 n).length ∧ m = csT σ b l))))) := by
  unfold fK; rw [if_neg (by omega), if_neg (by omega), if_pos k15]
theorem m_eA {σ : sg_S} {m : Nat} {tys : List (Int × Int × Int)} {Q : sg_S → Prop} (hX : pgX σ A D T B) (hN : fN σ) (h : fTop A D T B lev r σ m tys) (e0 : sg_g σ 88 73 = 0) (k15 : A.2.1 (sg_g σ 126 m) = 15) (hst : 0 ≤ sg_g σ 127 m ∧ sg_g σ 127 m < (A.2.2.2.2.2 (sg_g σ 126 m)).length) (k : ∀ σ', fQ A D T B lev r σ σ' → Q σ') : V_flatEach σ m Q := by
  have hN' := hN
  obtain ⟨hI, hB, n1, n2, n3⟩ := hN
  obtain ⟨i1, i2, i3, i4, i5⟩ := hI
  obtain ⟨fm, j, f, L, sc, X, h1, h2, h3, h4, h5, h6, h7, h8⟩ := h
  obtain ⟨hP, hD, eT, eB, hA, hdt⟩ := id hX
  obtain ⟨w1, w2, w3, w4, w5, w6⟩ := stN_w h4
  obtain ⟨t1, t2, t3, t4, t5⟩ := tr_k hP w2
  have g4 := (w1.2.2.2.2.2.2.1 k15).2
  have gk := (w1.2.2.2.2.2.2.1 k15).1
  rw [fK_15 k15] at h7
  obtain ⟨bd, tl, ea, q⟩ := h7
  rw [ea] at gk
  simp only [List.length_cons] at gk
  unfold V_flatEach
  rw [t5]
  refine ⟨⟨by omega, by omega⟩, ⟨by omega, by omega⟩, ⟨by omega, by omega⟩, fun σ4 e4 => ⟨fun z => by omega, fun _ => ?_⟩⟩
  rcases q with ⟨i, q1, q2, q3, q4, q5⟩ | ⟨ts, q1, -⟩ | ⟨mm, q1, -⟩
  rotate_left
  · omega
  · omega
  have f4 : sg_F [127] σ σ4 := by rw [e4]; exact sg_F_w (sg_F_r _ _) rfl _
  have ex4 := fEx_F f4 (by rfl)
  have g70 : sg_g σ4 88 70 = sg_g σ 88 70 := sg_F_g f4 (by rfl)
  have g99 : sg_g σ4 88 99 = sg_g σ 88 99 := sg_F_g f4 (by rfl)
  have un : ∀ s' u, und σ4 s' u = und σ s' u := fun s' u => und_F f4 rfl s' u
  obtain ⟨z, hz⟩ : ∃ z, tl[i]? = some z := ⟨_, List.getElem?_eq_getElem (by omega)⟩
  have tz := t4 (i + 1) z (by rw [ea, List.getElem?_cons_succ]; exact hz)
  rw [show 200 * sg_g σ 126 m + ((i + 1 : Nat) : Int) = 200 * sg_g σ 126 m + 1 + sg_g σ 127 m by omega] at tz
  rw [tz]
  have zm : z ∈ tl.take (A.2.2.2.2.2 (sg_g σ 126 m)).length := by
    rw [List.mem_iff_getElem?]
    exact ⟨i, by rw [List.getElem?_take_of_lt (by omega)]; exact hz⟩
  obtain ⟨⟨f', L', ha, has⟩, -⟩ := (stN_each hA h4 k15 ea).1 z zm
  subst q4
  refine ⟨⟨by omega, by omega⟩, ⟨by omega, by omega⟩, ⟨by omega, by omega⟩, ⟨by omega, by omega⟩, ev_next (σ := σ) (m := m) (tys' := (tl.take i).map (fun x => (T x, sg_g σ 145 m, X))) (st' := sg_g σ 127 m + 1) f4 rfl ex4 (fN_w (fN_F f4 rfl ⟨by omega, by omega⟩ hN')) e0 fm (fun i hi => by rw [e4, sg_gw_k _ _ _ _ _ _ (by omega)]) (fun i _ => sg_F_ga f4 rfl) (by rw [e4, sg_gw_e _ _ _ _ ⟨by omega, by omega⟩]) h1 (by omega) (fun x _ _ => sg_F_ga f4 rfl) (vW_up ex4 (by rw [sg_F_g f4 (by rfl)]; exact Int.le_refl _) (fun x _ _ => sg_F_ga f4 rfl) h3) h4 h5 ⟨h6.1, by omega⟩ h8 (fun s' u _ _ => un s' u) ha (fun u hu => ow_s has hu) (fun p hp => ⟨fun z => z, ?_⟩) ⟨h5.1, h5.2.1, by rw [sg_F_g f4 (by rfl)]; exact h5.2.2⟩ hA ?_ (by rw [sg_F_g f4 (by rfl)]; omega) (by rw [sg_F_g f4 (by rfl)]; omega) (fun σ' hq _ => k σ' hq)⟩
  · rw [un, g99, q3]; exact fLx_up ex4 (by rw [sg_F_g f4 (by rfl)]; exact Int.le_refl _) (q5 p hp).2
  · rw [fK_15 k15]
    exact ⟨bd, tl, ea, Or.inl ⟨i + 1, by omega, by omega, by omega, (take_l hz).symm, fun p hp => ⟨(ha.2.2.2.2 p hp).2, by rw [un]; exact fLx_up ex4 (by rw [sg_F_g f4 (by rfl)]; exact Int.le_refl _) (q5 p hp).2⟩⟩⟩
theorem csT_l {σ : sg_S} {K : Nat} {b l : Int} (h : fL σ (K + 1) l (sg_g σ 133 b)) : ∃ rr r' R, fV σ 6000 (sg_g σ 133 b) (rr :: r' :: R) ∧ R.length = K ∧ rr.2 = l ∧ fLn σ rr ∧ fRw σ 6000 rr ∧ fRw σ 6000 r' ∧ r'.2 = csT σ b l ∧ sg_g σ 140 (4 * sg_g σ 133 b) = rr.1 := by
  obtain ⟨rr, r', R, hv, hR, rL, ln, e1, w1, w2⟩ := fL_1 h
  have z := (fV_0 hv).1
  exact ⟨rr, r', R, hv, hR, rL, ln, w1, w2, by unfold csT; rw [z]; exact e1, z⟩
theorem m_eD {σ : sg_S} {m : Nat} {tys : List (Int × Int × Int)} {Q : sg_S → Prop} (hX : pgX σ A D T B) (hN : fN σ) (h : fTop A D T B lev r σ m tys) (e0 : sg_g σ 88 73 = 0) (k15 : A.2.1 (sg_g σ 126 m) = 15) (hst : sg_g σ 127 m = (A.2.2.2.2.2 (sg_g σ 126 m)).length + 2) (k : ∀ σ', fQ A D T B lev r σ σ' → Q σ') : V_flatEach σ m Q := by
  have hN' := hN
  obtain ⟨hI, hB, n1, n2, n3⟩ := hN
  obtain ⟨i1, i2, i3, i4, i5⟩ := hI
  obtain ⟨fm, j, f, L, sc, X, h1, h2, h3, h4, h5, h6, h7, h8⟩ := h
  obtain ⟨hP, hD, eT, eB, hA, hdt⟩ := id hX
  obtain ⟨w1, w2, w3, w4, w5, w6⟩ := stN_w h4
  obtain ⟨t1, t2, t3, t4, t5⟩ := tr_k hP w2
  have g4 := (w1.2.2.2.2.2.2.1 k15).2
  have gk := (w1.2.2.2.2.2.2.1 k15).1
  have g1 := w1.2.2.2.2.2.2.2.2 k15
  rw [fK_15 k15] at h7
  obtain ⟨bd, tl, ea, q⟩ := h7
  rw [ea] at gk
  simp only [List.length_cons] at gk
  have gg := w5 (by omega)
  rw [kTy_15 k15, ea] at gg
  obtain ⟨y1, y2, y3⟩ := kIs_in gg
  simp only [List.map_cons, List.getD_cons_zero] at y1 y2
  rcases q with ⟨i, q1, q2, -⟩ | ⟨ts, q1, -⟩ | ⟨mm, q1, q2, q3⟩
  · omega
  · omega
  obtain ⟨G, hG⟩ : ∃ G, G = (A.2.2.2.2.2 (sg_g σ 126 m)).length := ⟨_, rfl⟩
  have tk : (tl.take G).length = G := by rw [List.length_take]; omega
  rw [← hG] at q2 q3 g4 g1 gk hst
  have tyl : tys.length = G + 1 := by rw [q2]; simp only [List.length_append, List.length_map, List.length_cons, List.length_nil]; omega
  have vb : fLx σ (T bd).toNat mm (sg_g σ 88 85 + (X - sg_g σ 145 m)) (sg_g σ 133 (sg_g σ 88 70 - 1)) := by
    have := h3 G (T bd, mm, X - sg_g σ 145 m) (by rw [q2, List.getElem?_append_right (by simp only [List.length_map]; omega)]; simp only [List.length_map]; rw [tk, Nat.sub_self]; rfl)
    rw [show sg_g σ 88 70 - 1 = sg_g σ 128 m + (G : Int) by omega]
    exact this
  obtain ⟨x0, hx0⟩ : ∃ x, tl[0]? = some x := ⟨_, List.getElem?_eq_getElem (by omega)⟩
  have x0m : x0 ∈ tl.take G := by
    rw [List.mem_iff_getElem?]
    exact ⟨0, by rw [List.getElem?_take_of_lt (by omega)]; exact hx0⟩
  have T0 : 0 < T x0 := by
    rw [hG] at x0m
    exact ((stN_each hA h4 k15 ea).1 x0 x0m).2
  have v0 : fL σ ((T x0).toNat - 1 + 1) (sg_g σ 145 m) (sg_g σ 133 (sg_g σ 128 m)) := by
    have := fLx_L (h3 0 (T x0, sg_g σ 145 m, X) (by rw [q2, List.getElem?_append_left (by simp only [List.length_map]; omega), List.getElem?_map, List.getElem?_take_of_lt (by omega), hx0]; rfl))
    rw [show sg_g σ 128 m + ((0 : Nat) : Int) = sg_g σ 128 m by omega] at this
    rwa [show (T x0).toNat - 1 + 1 = (T x0).toNat by omega]
  obtain ⟨rr, r', Rr, c1, c2, c3, c4, c5, c6, c7, c8⟩ := csT_l v0
  have vr := c1.1
  unfold V_flatEach
  rw [t5, t2, ea, ← hG]
  simp only [List.length_cons]
  refine ⟨⟨by omega, by omega⟩, ⟨by omega, by omega⟩, ⟨by omega, by omega⟩, fun σ4 e4 => ⟨fun _ => ⟨⟨by omega, by omega⟩, ⟨by omega, by omega⟩, ⟨by omega, by omega⟩, ⟨by omega, by omega⟩, ⟨by omega, by omega⟩, fun _ => ⟨⟨by omega, by omega⟩, fun _ => ?_, fun z => by omega⟩, fun z => by omega⟩, fun z => by omega⟩⟩
  have f4 : sg_F [127] σ σ4 := by rw [e4]; exact sg_F_w (sg_F_r _ _) rfl _
  have g99 : sg_g σ4 88 99 = sg_g σ 88 99 := sg_F_g f4 (by rfl)
  refine m_restore ⟨h6.1, by omega, by omega⟩ (fun i x y => by rw [sg_F_ga f4 rfl]; exact hB i x (by omega)) (fun σ7 s7 u7 b7 f7 _ => ?_)
  have F7 : sg_F [127, 134, 100088] σ σ7 := sg_F_t (sg_F_m f4 rfl) (sg_F_m f7 rfl)
  have ex7 : fEx σ σ7 := fEx_F F7 rfl
  have ht : v_hasTest σ (sg_g σ 126 m) = (if tl.length = 1 + G then 1 else 0) := by
    unfold v_hasTest
    rw [t2, t5, ea, ← hG]
    simp only [List.length_cons]
    by_cases c : tl.length = 1 + G
    · rw [if_neg (fun z => z (by omega)), if_pos c]
    · rw [if_pos (by omega), if_neg c]
  have pt : p_hasTest σ (sg_g σ 126 m) := by
    unfold p_hasTest
    rw [t2, t5, ea, ← hG]
    simp only [List.length_cons]
    exact ⟨⟨by omega, by omega⟩, ⟨by omega, by omega⟩, fun _ => trivial, fun _ => trivial⟩
  rw [ht]
  refine ⟨pt, ⟨fun _ => ⟨⟨by omega, by omega⟩, ⟨by omega, by omega⟩, ⟨by omega, by omega⟩, trivial⟩, fun _ => trivial⟩, fun v25 e25 r25 => ⟨⟨by omega, by omega⟩, ⟨by omega, by omega⟩, ?_⟩⟩
  have rowv : fRw σ 6000 (v25, sg_g σ 145 m) ∧ fLn σ (v25, sg_g σ 145 m) ∧ mm = cs σ v25 (sg_g σ 145 m).toNat := by
    rcases q3 with ⟨p1, p2, p3, p4⟩ | ⟨p1, p2⟩
    · rw [if_pos p1, if_neg (by decide)] at e25
      rw [e25]; exact ⟨p2, p3, p4⟩
    · have np : ¬ tl.length = 1 + G := by omega
      rw [if_neg np, if_pos rfl, c8] at e25
      rw [e25, ← c3]
      refine ⟨c5, c4, ?_⟩
      rw [p2]
      unfold csT
      rw [c8, c3]
  obtain ⟨rv1, rv2, rv3⟩ := rowv
  obtain ⟨zb1, zb2, zb3, zb4⟩ := rv1
  simp only at zb1 zb2 zb3 zb4
  have g87 : sg_g σ7 88 87 = sg_g σ 88 87 := sg_F_g F7 (by rfl)
  have g91 : sg_g σ7 88 91 = sg_g σ 88 91 := sg_F_g F7 (by rfl)
  obtain ⟨Rw, d1', d2', d3', d4'⟩ := fLx_up (c' := sg_g σ 88 85 + (X - sg_g σ 145 m)) ex7 (Int.le_refl _) vb
  obtain ⟨rb', Rb', eRw⟩ : ∃ rb' Rb', Rw = rb' :: Rb' := by
    cases Rw with
    | nil => simp at d2'
    | cons x y => exact ⟨x, y, rfl⟩
  subst eRw
  have d1 := d1'
  have d2 : Rb'.length = (T bd).toNat := by simpa using d2'
  have d3 : rb'.2 = mm := d3'
  have cse : cs σ7 v25 (sg_g σ 145 m).toNat = cs σ v25 (sg_g σ 145 m).toNat := cs_up ex7 zb1 (by omega)
  refine m_outer (M := 6000) ⟨by omega, by omega⟩ d1 (by omega) ⟨r25, ⟨by omega, by omega⟩⟩ ⟨zb1, zb2, zb3, by simp only; omega⟩ (fun i x y => by simp only at x y ⊢; rw [ex7.2.2.2 _ (by omega) (by omega)]; exact rv2 i x y) (by rw [cse, ← rv3]; exact d3) (fun w σ9 ew ex9 fv9 e87 f9 rw' _ => ?_)
  have F9 : sg_F [127, 134, 139, 140, 141, 88088, 100088] σ σ9 := sg_F_t (sg_F_m F7 rfl) (sg_F_m f9 rfl)
  have exs := fEx_t ex7 ex9
  have j99 : sg_g σ9 88 99 = sg_g σ 146 m := by rw [sg_F_g f9 (by rfl)]; exact s7
  have j84 : sg_g σ9 88 84 = sg_g σ 88 84 := sg_F_g F9 (by rfl)
  have j85 : sg_g σ9 88 85 = sg_g σ 88 85 := sg_F_g F9 (by rfl)
  have j91 : sg_g σ9 88 91 = sg_g σ 88 91 := sg_F_g F9 (by rfl)
  have j62 : sg_g σ9 88 62 = sg_g σ 88 62 := sg_F_g F9 (by rfl)
  have j70 : sg_g σ9 88 70 = sg_g σ 88 70 := sg_F_g F9 (by rfl)
  have j128 : sg_g σ9 128 m = sg_g σ 128 m := sg_F_ga F9 rfl
  have j126 : sg_g σ9 126 m = sg_g σ 126 m := sg_F_ga F9 rfl
  have j145 : sg_g σ9 145 m = sg_g σ 145 m := sg_F_ga F9 rfl
  have j146 : sg_g σ9 146 m = sg_g σ 146 m := sg_F_ga F9 rfl
  have B9 : sB σ9 := fun i x y => by rw [sg_F_ga f9 rfl]; exact b7 i x (by omega)
  refine ev_L (r := r) (m := m) (X := X) (W := ow lev j L) ⟨⟨⟨by omega, by omega⟩, ⟨by omega, by omega⟩, ⟨by omega, by omega⟩, ⟨by omega, by omega, by omega⟩, by omega, by omega⟩, B9, by omega, by omega, by omega⟩ (by omega) (by rw [sg_F_g F9 (by rfl)]; exact e0) (by omega) (by omega) (by omega) ?_ ?_ rw' (fun σ' p1 p2 p3 p4 _ => k σ' (Or.inr ⟨p1, p2, ?_⟩))
  · rw [j128, j126, j145, j146]
    refine fStk_up exs (by omega) m _ _ _ _ _ _ _ (fun i hi => ⟨sg_F_ga F9 rfl, ?_, sg_F_ga F9 rfl, sg_F_ga F9 rfl, sg_F_ga F9 rfl, sg_F_ga F9 rfl⟩) (fun x _ _ => sg_F_ga F9 rfl) (fun s' b hs _ => ?_) (fun b hb => hb) h8
    · rw [sg_F_ga f9 rfl, sg_F_ga f7 rfl, e4, sg_gw_k _ _ _ _ _ _ (by omega)]
    · rw [und_F f9 rfl, u7 s' b hs]; exact und_F f4 rfl s' b
  · rw [j126, j145]
    refine ⟨_, fv9, ?_, rfl, ?_⟩
    · simp only [List.length_cons]
      obtain ⟨fb, Lb, hb, -⟩ := (stN_each hA h4 k15 ea).2 bd (by simp)
      have := (stN_w hb).2.2.1.1
      omega
    · simp only [eX] at d4' ⊢
      omega
  · unfold fM
    omega
end GE
