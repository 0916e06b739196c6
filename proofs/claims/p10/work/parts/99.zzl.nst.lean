/-! goEach: a turn at an EACH. -/
section NEA
variable {A : aT} {D : List aDf} {T B : Int → Int} {r : Int}
theorem fS_15 {σ : sg_S} {n s p b : Int} {ty : List Int} (k : A.2.1 n = 15) : fS A D T σ n s p b ty = ∃ bd tl, A.2.2.2.2.1 n = bd :: tl ∧ ((∃ i : Nat, i ≤ (A.2.2.2.2.2 n).length ∧ s = i ∧ p = 0 ∧ ty = (tl.take i).map T) ∨ (eM σ b p (A.2.2.2.2.2 n).length ∧ ∃ i : Nat, (i : Int) ≤ p ∧ ((s = (A.2.2.2.2.2 n).length + 1 ∧ ty = (tl.take (A.2.2.2.2.2 n).length).map T ++ List.replicate i (T bd)) ∨ ((p < sg_g σ 123 (sg_g σ 133 b) ∧ ∀ i : Nat, i < (A.2.2.2.2.2 n).length → vU σ (bTy A D T (210 + 4 * n + i)).toNat (sg_g σ 134 (210 + 4 * n + i))) ∧ s = (A.2.2.2.2.2 n).length + 2 ∧ ty = (tl.take (A.2.2.2.2.2 n).length).map T ++ List.replicate i (T bd) ++ [0]) ∨ (p < sg_g σ 123 (sg_g σ 133 b) ∧ s = (A.2.2.2.2.2 n).length + 3 ∧ ty = (tl.take (A.2.2.2.2.2 n).length).map T ++ List.replicate (i + 1) (T bd))))) := by
  unfold fS
  rw [if_neg (by omega), if_neg (by omega), if_pos k]
/-- a frame changes its stage, no part begins -/
theorem ev_same {σ σ3 : sg_S} {m : Nat} {n s' p' : Int} {tys : List Int} (F : sg_F [127, 130, 132, 71088] σ σ3) (r127 : ∀ i, ¬ i = (m : Int) → sg_g σ3 127 i = sg_g σ 127 i ∧ sg_g σ3 130 i = sg_g σ 130 i) (e127 : sg_g σ3 127 m = s' ∧ sg_g σ3 130 m = p') (hC : nC σ) (he : sg_g σ 88 73 = 0) (en : sg_g σ 126 m = n) (fm : sg_g σ 88 62 = m + 1) (h0 : 0 ≤ sg_g σ 128 m) (hv : sg_g σ3 88 70 = sg_g σ 128 m + tys.length) (hv2 : sg_g σ3 88 70 ≤ sg_g σ 88 70) (hS : vS σ (sg_g σ 128 m) tys) (hO : fO A D T B σ n) (hF : fS A D T σ n s' p' (sg_g σ 128 m) tys) (h15 : A.2.1 n = 15 ∧ s' = (A.2.2.2.2.2 n).length + 1 ∧ ¬ sg_g σ 127 m = (A.2.2.2.2.2 n).length + 1) (hK : nStk A D T B r σ m (sg_g σ 128 m) (T n)) : nQ A D T B r σ σ3 := by
  obtain ⟨⟨c1, c2, c3, c4⟩, c5, c6, c7, c8⟩ := hC
  have g54 : sg_g σ3 88 54 = sg_g σ 88 54 := sg_F_g F (by rfl)
  have g56 : sg_g σ3 88 56 = sg_g σ 88 56 := sg_F_g F (by rfl)
  have g60 : sg_g σ3 88 60 = sg_g σ 88 60 := sg_F_g F (by rfl)
  have g62 : sg_g σ3 88 62 = sg_g σ 88 62 := sg_F_g F (by rfl)
  have g73 : sg_g σ3 88 73 = sg_g σ 88 73 := sg_F_g F (by rfl)
  have e6 : ∀ i, sg_g σ3 126 i = sg_g σ 126 i := fun i => sg_F_ga F rfl
  have e8 : ∀ i, sg_g σ3 128 i = sg_g σ 128 i := fun i => sg_F_ga F rfl
  have ex : nEx σ σ3 := nEx_F F rfl
  have hb : bOk A D T σ σ3 := fun b => Or.inl (sg_F_ga F rfl)
  refine Or.inr ⟨by omega, ⟨⟨⟨by omega, by omega, by omega, by omega⟩, by omega, by omega, by omega, by omega⟩, Or.inr ⟨m, tys, by omega, by rw [e8]; exact h0, by rw [e8]; exact hv, ?_, by rw [e6, en]; exact fO_up ex hb hO, ?_, ?_⟩⟩, ?_⟩
  · rw [e8]; exact vS_up ex (fun y _ _ => sg_F_ga F rfl) hS
  · rw [e6, e8, en, e127.1, e127.2]
    exact fS_up ex hb (fun _ _ y _ _ => sg_F_ga F rfl) hF
  · rw [e6, e8, en]
    exact nStk_up ex hb m _ _ (fun i hi => ⟨e6 i, (r127 i (by omega)).1, e8 i, (r127 i (by omega)).2⟩) (fun y _ _ => sg_F_ga F rfl) hK
  · unfold nM
    rw [g54, g62, show sg_g σ 88 62 - 1 = (m : Int) by omega, e6, en, e127.1, if_pos ⟨h15.1, h15.2.1⟩, if_neg (fun z => h15.2.2 z.2)]
    omega
theorem m_done {σ : sg_S} {m : Nat} {g : Int} {Q : sg_S → Prop} (hm : m < 4000) (hg : 0 ≤ g ∧ g ≤ 4) (hp : 0 ≤ sg_g σ 130 m ∧ sg_g σ 130 m ≤ 300) (k : ∀ σ', sg_F [127, 130, 132] σ σ' → sg_g σ' 127 m = g + 1 → sg_g σ' 130 m = sg_g σ 130 m + 1 → (∀ i, ¬ i = (m : Int) → sg_g σ' 127 i = sg_g σ 127 i ∧ sg_g σ' 130 i = sg_g σ 130 i) → Q σ') : V_donePlace σ m g Q := by
  unfold V_donePlace
  refine ⟨⟨by omega, by omega⟩, fun v4 _ r4 σ7 e7 => ⟨⟨by omega, by omega⟩, fun σ11 e11 => ⟨⟨by omega, by omega⟩, fun σ15 e15 => k σ15 ?_ ?_ ?_ (fun i hi => ⟨?_, ?_⟩)⟩⟩⟩
  · rw [e15, e11, e7]; exact sg_F_w (sg_F_w (sg_F_w (sg_F_r _ _) rfl _) rfl _) rfl _
  · rw [e15, sg_gw_e _ _ _ _ ⟨by omega, by omega⟩]
  · rw [e15, sg_gw_c _ _ _ _ _ _ (by decide), e11, sg_gw_e _ _ _ _ ⟨by omega, by omega⟩]
  · rw [e15, sg_gw_k _ _ _ _ _ _ hi, e11, sg_gw_c _ _ _ _ _ _ (by decide), e7, sg_gw_c _ _ _ _ _ _ (by decide)]
  · rw [e15, sg_gw_c _ _ _ _ _ _ (by decide), e11, sg_gw_k _ _ _ _ _ _ hi, e7, sg_gw_c _ _ _ _ _ _ (by decide)]
theorem m_goE {σ : sg_S} {m : Nat} {ty : List Int} {Q : sg_S → Prop} (hX : pgX σ A D T B) (h : nTop A D T B r σ m ty) (hC : nC σ) (he : sg_g σ 88 73 = 0) (k15 : A.2.1 (sg_g σ 126 m) = 15) (k : ∀ σ', nQ A D T B r σ σ' → Q σ') : V_goEach σ m Q := by
  have hh := h
  obtain ⟨h1, h3, h4, h5, h6, h7, h8⟩ := h
  obtain ⟨hP, hD, eT, eB, hA, hDf⟩ := hX
  obtain ⟨n, en⟩ : ∃ n, sg_g σ 126 m = n := ⟨_, rfl⟩
  obtain ⟨b, eb⟩ : ∃ b, sg_g σ 128 m = b := ⟨_, rfl⟩
  obtain ⟨s, es⟩ : ∃ s, sg_g σ 127 m = s := ⟨_, rfl⟩
  obtain ⟨p, ep⟩ : ∃ p, sg_g σ 130 m = p := ⟨_, rfl⟩
  rw [en] at h6 h7 h8 k15
  rw [eb] at h3 h4 h5 h7 h8
  rw [es, ep, fS_15 k15] at h7
  obtain ⟨w1, w2, w3⟩ := fO_w h6
  obtain ⟨t1, t2, t3, t4, t5⟩ := tr_k hP w2
  obtain ⟨o1, o2, o3⟩ := fO_t h6
  have hC' := hC
  obtain ⟨⟨c1, c2, c3, c4⟩, c5, c6, c7, c8⟩ := hC'
  have hn : 0 ≤ n ∧ n < 210 := ⟨w2.1, by omega⟩
  have hB : nB σ := ⟨⟨c1, by omega⟩, c2, by omega⟩
  obtain ⟨bd, tl, ea, h7⟩ := h7
  obtain ⟨l1, l2, l3⟩ := fO_each h6 hA k15 ea
  obtain ⟨g, eg⟩ : ∃ g, (A.2.2.2.2.2 n).length = g := ⟨_, rfl⟩
  have g14 : 1 ≤ g ∧ g ≤ 4 := by
    have := w1.2.2.2.2.2.2.2.2 k15
    have := (w1.2.2.2.2.2.2.1 k15).2
    omega
  have lt : tl.length = g ∨ tl.length = g + 1 := by
    have := (w1.2.2.2.2.2.2.1 k15).1
    rw [ea] at this
    simp only [List.length_cons] at this
    omega
  have lk : (A.2.2.2.2.1 n).length = tl.length + 1 := by rw [ea]; rfl
  rw [eg] at h7 l1 l2 l3 t5
  have tk : (tl.take g).length = g := by rw [List.length_take]; omega
  have tx : ∀ i : Nat, i < g → ∃ x, (tl.take g)[i]? = some x ∧ tl[i]? = some x ∧ 0 < T x ∧ fO A D T B σ x := fun i hi => by
    have e1 : (tl.take g)[i]? = some ((tl.take g)[i]'(by omega)) := List.getElem?_eq_getElem (by omega)
    obtain ⟨f1, f2⟩ := l1 _ (List.getElem_mem (by omega : i < (tl.take g).length))
    refine ⟨_, e1, ?_, f2, f1⟩
    rw [← e1, List.getElem?_take, if_pos hi]
  -- GENS' values
  have gv : (∃ ty', ty = (tl.take g).map T ++ ty') → ∀ (i : Nat) (x : Int), (tl.take g)[i]? = some x → vU σ ((T x - 1).toNat + 1) (sg_g σ 133 (b + i)) := fun ⟨ty', e⟩ i x hx => by
    have hi : i < (tl.take g).length := by
      rcases Nat.lt_or_ge i (tl.take g).length with q | q
      · exact q
      · rw [List.getElem?_eq_none q] at hx; cases hx
    obtain ⟨y, y1, y2, y3, y4⟩ := tx i (by omega)
    have : y = x := by rw [hx] at y1; cases y1; rfl
    subst this
    rw [e] at h5
    have u := vS_at (vS_l h5) hx
    rwa [show (T y).toNat = (T y - 1).toNat + 1 by omega] at u
  have v0 : (∃ ty', ty = (tl.take g).map T ++ ty') → ∀ i : Nat, i < g → (0 ≤ sg_g σ 133 (b + i) ∧ sg_g σ 133 (b + i) < sg_g σ 88 56) ∧ sg_g σ 123 (sg_g σ 133 (b + i)) ≤ 200 ∧ 0 ≤ sg_g σ 123 (sg_g σ 133 (b + i)) := fun z i hi => by
    obtain ⟨x, y1, y2, y3, y4⟩ := tx i hi
    have u := (gv z i x y1).1
    exact ⟨u.1, u.2.1.2.2.1, u.2.1.2.1⟩
  have tyl : (∃ ty', ty = (tl.take g).map T ++ ty') → g ≤ ty.length := fun ⟨ty', e⟩ => by rw [e]; simp only [List.length_append, List.length_map, tk]; omega
  have full : (g : Int) ≤ s → ∃ ty', ty = (tl.take g).map T ++ ty' := fun hs => by
    rcases h7 with ⟨i, i1, i2, -, i3⟩ | ⟨-, i, -, i2 | i2 | i2⟩
    · exact ⟨[], by rw [i3, show i = g by omega, List.append_nil]⟩
    · exact ⟨_, i2.2⟩
    · exact ⟨_, by rw [i2.2.2, List.append_assoc]⟩
    · exact ⟨_, i2.2.2⟩
  have b0 : b + ((0 : Nat) : Int) = b := by omega
  unfold V_goEach
  rw [en, es, eb, ep, t5]
  refine ⟨⟨by omega, by omega⟩, hn, fun hs => ⟨⟨h3, by omega⟩, ?_, fun s0 => ⟨⟨by omega, by omega⟩, fun s2 => ⟨⟨by omega, by omega⟩, fun s3 => ⟨fun pm => ?_, fun pm => ?_⟩, fun s3 => ?_⟩, fun s2 => ?_⟩, fun s0 => ?_⟩, fun hs => ?_⟩
  · have := (v0 (full hs) 0 (by omega)).1
    rw [b0] at this
    omega
  · have hE : eM σ b p g ∧ ∃ i : Nat, (i : Int) ≤ p ∧ s = g + 1 ∧ ty = (tl.take g).map T ++ List.replicate i (T bd) := by
      rcases h7 with ⟨i, i1, i2, -, i3⟩ | ⟨e1, i, i1, i2 | i2 | i2⟩
      · omega
      · exact ⟨e1, i, i1, i2⟩
      · omega
      · omega
    obtain ⟨e1, i0, i1, i2, i3⟩ := hE
    have pl : p < sg_g σ 123 (sg_g σ 133 b) := by have := e1.2.1; omega
    have it : ∀ (i : Nat) (x : Int), (tl.take g)[i]? = some x → p_itemAt σ (sg_g σ 133 (b + i)) p ∧ vU σ (T x - 1).toNat (v_itemAt σ (sg_g σ 133 (b + i)) p) := fun i x hx => by
      have hi : i < g := by
        rcases Nat.lt_or_ge i (tl.take g).length with q | q
        · omega
        · rw [List.getElem?_eq_none q] at hx; cases hx
      have u := gv (full hs) i x hx
      have := (e1.2.2 i hi).2
      have := e1.2.1
      exact ⟨(vT_it (by omega) (by omega) u.1 (by omega) (by omega)).1, vU_it u (by omega) (by omega)⟩
    refine ⟨fun q v σ3 => q = (g - v).toNat ∧ (0 ≤ v ∧ v ≤ g) ∧ (∀ b', sg_g σ3 134 b' = sg_g σ 134 b' ∨ ∃ i : Nat, (i : Int) < v ∧ b' = 210 + 4 * n + i ∧ sg_g σ3 134 b' = v_itemAt σ (sg_g σ 133 (b + i)) p) ∧ ∀ i : Nat, (i : Int) < v → sg_g σ3 134 (210 + 4 * n + i) = v_itemAt σ (sg_g σ 133 (b + i)) p, fun σ3 => (∀ b', sg_g σ3 134 b' = sg_g σ 134 b' ∨ ∃ i : Nat, i < g ∧ b' = 210 + 4 * n + i ∧ sg_g σ3 134 b' = v_itemAt σ (sg_g σ 133 (b + i)) p) ∧ ∀ i : Nat, i < g → sg_g σ3 134 (210 + 4 * n + i) = v_itemAt σ (sg_g σ 133 (b + i)) p, ⟨_, rfl, ⟨by omega, by omega⟩, fun _ => Or.inl rfl, fun i hi => by omega⟩, ?_, ?_⟩
    · rintro q v σ3 rv f3 ⟨em, hv, j1, j2⟩
      refine ⟨fun y => ⟨fun b' => ?_, fun i hi => j2 i (by omega)⟩, fun y => ?_⟩
      · rcases j1 b' with z | ⟨i, z1, z2⟩
        · exact Or.inl z
        · exact Or.inr ⟨i, by omega, z2⟩
      · obtain ⟨x, x1, x2, x3, x4⟩ := tx v.toNat (by omega)
        have tyl' := tyl (full hs)
        have itv := it v.toNat x x1
        rw [show ((v.toNat : Nat) : Int) = v by omega] at itv
        refine ⟨⟨⟨by omega, by omega⟩, ⟨by omega, by omega⟩, ⟨by omega, by omega⟩, trivial⟩, ⟨by omega, by omega⟩, ⟨by omega, by omega⟩, itv.1, ?_, fun σ63 e63 => ⟨⟨by omega, by omega⟩, _, by omega, rfl, ⟨by omega, by omega⟩, fun b' => ?_, fun i hi => ?_⟩⟩
        · unfold v_ofGen; exact ⟨by omega, by omega⟩
        · by_cases e : b' = 210 + 4 * n + v
          · right
            refine ⟨v.toNat, by omega, by omega, ?_⟩
            rw [e63, e]
            unfold v_ofGen
            rw [sg_gw_e _ _ _ _ (by unfold v_itemAt; exact sg_Rg _ _ _), show ((v.toNat : Nat) : Int) = v by omega]
          · rw [e63]
            unfold v_ofGen
            rw [sg_gw_k _ _ _ _ _ _ e]
            rcases j1 b' with z | ⟨i, z1, z2⟩
            · exact Or.inl z
            · exact Or.inr ⟨i, by omega, z2⟩
        · by_cases e : (i : Int) = v
          · rw [e63, e]
            unfold v_ofGen
            rw [sg_gw_e _ _ _ _ (by unfold v_itemAt; exact sg_Rg _ _ _)]
          · rw [e63]
            unfold v_ofGen
            rw [sg_gw_k _ _ _ _ _ _ (by omega)]
            exact j2 i (by omega)
    · rintro σ13 f13 ⟨j1, j2⟩ σ27 e27
      have pT : p_hasTest σ n := by
        unfold p_hasTest
        rw [t5]
        exact ⟨hn, ⟨by omega, by omega⟩, fun _ => trivial, fun _ => trivial⟩
      have vT' : v_hasTest σ n = if tl.length = g then 0 else 1 := by
        unfold v_hasTest
        rw [t2, t5, lk]
        by_cases z : tl.length = g
        · rw [if_pos (by omega), if_pos z]
        · rw [if_neg (by omega), if_neg z]
      refine ⟨pT, fun v33 e33 r33 σ36 e36 => ⟨⟨by omega, by omega⟩, pT, ⟨fun _ => trivial, fun _ => ⟨⟨by omega, by omega⟩, trivial⟩⟩, fun v43 e43 r43 => ?_⟩⟩
      have F36 : sg_F [127, 131, 134, 71088] σ σ36 := by rw [e36, e27]; exact sg_F_w (sg_F_w (sg_F_m f13 rfl) rfl _) rfl _
      have ex : nEx σ σ36 := nEx_F F36 rfl
      have g134 : ∀ b', sg_g σ36 134 b' = sg_g σ13 134 b' := fun b' => by rw [e36, sg_gw_c _ _ _ _ _ _ (by decide), e27, sg_gw_c _ _ _ _ _ _ (by decide)]
      have bo : bOk A D T σ σ36 := fun b' => by
        rw [g134]
        rcases j1 b' with z | ⟨i, z1, z2, z3⟩
        · exact Or.inl z
        · right
          obtain ⟨x, x1, x2, x3, x4⟩ := tx i z1
          rw [z3, z2, bTy_g ea x2 ⟨hn.1, by omega⟩ (by omega)]
          exact vU_up ex (it i x x1).2
      have kid := l2 σ36 ex bo (fun i x hx => by
        have hi : i < g := by
          rcases Nat.lt_or_ge i (tl.take g).length with q | q
          · omega
          · rw [List.getElem?_eq_none q] at hx; cases hx
        rw [g134, j2 i hi]
        exact vU_up ex (it i x hx).2)
      have go : ∀ x, (A.2.2.2.2.1 n)[v43.toNat]? = some x → 0 ≤ v43 → x ∈ tl.drop g ++ [bd] → fS A D T σ36 n v33 p b (ty ++ [T x]) → ¬ v33 = g + 1 → sg_R (200 * n + v43) ∧ (0 ≤ 200 * n + v43 ∧ 200 * n + v43 < 42000) ∧ V_begin σ36 (sg_g σ 97 (200 * n + v43)) (fun σ49 => sg_F [126, 127, 128, 129, 130, 131, 132, 55088, 63088, 74088] σ36 σ49 → Q σ49) := fun x hx h0 hm hF hne => by
        have hl : v43.toNat < (A.2.2.2.2.1 n).length := by
          rcases Nat.lt_or_ge v43.toNat (A.2.2.2.2.1 n).length with q | q
          · exact q
          · rw [List.getElem?_eq_none q] at hx; cases hx
        have e97 := t4 v43.toNat x hx
        rw [show ((v43.toNat : Nat) : Int) = v43 by omega] at e97
        rw [e97]
        refine ⟨⟨by omega, by omega⟩, ⟨by omega, by omega⟩, ?_⟩
        refine ev_st (A := A) (D := D) (T := T) (B := B) (r := r) (σ := σ) (m := m) (s' := v33) (tys := ty) F36 bo (fun i hi => ?_) ?_ hC h1 (by rw [eb]; exact h3) ?_ ?_ (by rw [eb]; exact h5) (by rw [en]; exact h6) (by rw [en, ep, eb]; exact hF) (by rw [en, eg]; intro _ z; exact hne z) (by rw [en, eb]; exact h8) (kid x hm) hA k
        · rw [e36, sg_gw_k _ _ _ _ _ _ hi, e27, sg_gw_c _ _ _ _ _ _ (by decide), sg_F_ga f13 rfl]
        · rw [e36, sg_gw_e _ _ _ _ r33]
        · rw [sg_F_g (L := [127, 131, 134]) (σ := σ) (by rw [e36, e27]; exact sg_F_w (sg_F_w (sg_F_m f13 rfl) rfl _) rfl _) (by rfl), eb]; exact h4
        · rw [sg_F_g (L := [127, 131, 134]) (σ := σ) (by rw [e36, e27]; exact sg_F_w (sg_F_w (sg_F_m f13 rfl) rfl _) rfl _) (by rfl)]; omega
      obtain ⟨q1, q2⟩ := eM_up ex (fun y _ _ => sg_F_ga F36 rfl) e1
      by_cases z : tl.length = g
      · rw [vT', if_pos z, if_pos rfl] at e33 e43
        refine go bd (by rw [e43, ea]; rfl) (by omega) (by simp) ?_ (by omega)
        rw [fS_15 k15, eg]
        refine ⟨bd, tl, ea, Or.inr ⟨q1, i0, i1, Or.inr (Or.inr ⟨by rw [q2]; exact pl, e33, ?_⟩)⟩⟩
        rw [i3, List.replicate_succ', List.append_assoc]
      · rw [vT', if_neg z, if_neg (by decide)] at e33 e43
        have zl : tl.length = g + 1 := by omega
        obtain ⟨tt, e1'⟩ : ∃ tt, tl[g]? = some tt := ⟨_, List.getElem?_eq_getElem (by omega)⟩
        have tz : T tt = 0 := by
          obtain ⟨j, gq, -⟩ := o2 (by omega)
          rw [kTy_15 k15] at gq
          obtain ⟨g1, g2, g3⟩ := kIs_in gq
          simp only [List.length_map, lk, eg, Bool.or_eq_true, decide_eq_true_eq] at g3
          rcases g3 with g3 | g3
          · omega
          · rw [ea, List.getD_eq_getElem?_getD, List.getElem?_map, show tl.length + 1 - 1 = g + 1 by omega, List.getElem?_cons_succ, e1'] at g3
            exact g3
        refine go tt (by rw [show v43.toNat = g + 1 by omega, ea, List.getElem?_cons_succ]; exact e1') (by omega) ?_ ?_ (by omega)
        · refine List.mem_append_left _ ?_
          rw [List.mem_iff_getElem?]
          exact ⟨0, by rw [List.getElem?_drop]; exact e1'⟩
        · rw [fS_15 k15, eg]
          refine ⟨bd, tl, ea, Or.inr ⟨q1, i0, i1, Or.inr (Or.inl ⟨⟨by rw [q2]; exact pl, fun i hi => ?_⟩, e33, ?_⟩)⟩⟩
          · obtain ⟨x, x1, x2, x3, x4⟩ := tx i hi
            rw [g134, j2 i hi, bTy_g ea x2 ⟨hn.1, by omega⟩ (by omega)]
            exact vU_up ex (it i x x1).2
          · rw [i3, tz]
  · have hE : eM σ b p g ∧ ∃ i : Nat, (i : Int) ≤ p ∧ s = g + 1 ∧ ty = (tl.take g).map T ++ List.replicate i (T bd) := by
      rcases h7 with ⟨i, i1, i2, -, i3⟩ | ⟨e1, i, i1, i2 | i2 | i2⟩
      · omega
      · exact ⟨e1, i, i1, i2⟩
      · omega
      · omega
    obtain ⟨e1, i0, i1, i2, i3⟩ := hE
    have m2 := v0 (full hs) 0 (by omega)
    rw [b0] at m2
    obtain ⟨j, gq, -⟩ := o2 (by omega)
    rw [kTy_15 k15, ea] at gq
    obtain ⟨g1, g2, g3⟩ := kIs_in gq
    simp only [List.map_cons, List.getD_cons_zero] at g1 g2
    have tb : 0 ≤ T bd := (l3 bd (by simp)).1
    have ln : ty.length = g + i0 := by rw [i3]; simp only [List.length_append, List.length_map, tk, List.length_replicate]
    have vb : ∀ j : Nat, j < i0 → vU σ (T bd).toNat (sg_g σ 133 (b + (g + j : Nat))) := fun j hj => by
      refine h5 (g + j) (T bd) ?_
      rw [i3, List.getElem?_append_right (by rw [List.length_map, tk]; omega), List.length_map, tk, List.getElem?_replicate, if_pos (by omega)]
    intro σ68 e68
    have F68 : sg_F [129] σ σ68 := by rw [e68]; exact sg_F_w (sg_F_r _ _) rfl _
    have ex68 : nEx σ σ68 := nEx_F F68 rfl
    have s56 : sg_g σ68 88 56 = sg_g σ 88 56 := sg_F_g F68 (by rfl)
    have s60 : sg_g σ68 88 60 = sg_g σ 88 60 := sg_F_g F68 (by rfl)
    have hB68 : nB σ68 := by unfold nB; rw [s56, s60]; exact hB
    refine ⟨⟨by omega, by omega⟩, fun q v σ3 => q = (sg_g σ 88 70 - v).toNat ∧ (b + g ≤ v ∧ v ≤ sg_g σ 88 70) ∧ nAd σ68 σ3 (T bd).toNat (v - (b + g)), fun σ3 => nAd σ68 σ3 (T bd).toNat i0, ⟨_, rfl, ⟨by omega, by omega⟩, by rw [show b + (g : Int) - (b + g) = 0 by omega]; exact nAd_0 _ _⟩, ?_, ?_⟩
    · rintro q v σ3 rv f3 ⟨em, hv, hA'⟩
      refine ⟨fun y => ?_, fun y => ⟨⟨by omega, by omega⟩, ?_⟩⟩
      · rw [show (i0 : Int) = v - (b + g) by omega]; exact hA'
      · have vv := vb (v - (b + g)).toNat (by omega)
        rw [show b + ((g + (v - (b + g)).toNat : Nat) : Int) = v by omega] at vv
        refine m_addA hB68 (by omega) hA' (sg_Rg _ _ _) (vT_up hA'.1 (vT_up ex68 vv.1)) (fun σ' x1 _ x2 _ => ⟨⟨by omega, by omega⟩, _, by omega, rfl, ⟨by omega, by omega⟩, ?_⟩)
        rw [show v + 1 - (b + g) = v - (b + g) + 1 by omega]
        exact x1
    · intro σ73 f73 hA'
      have l1' := hA'.2.2.1
      rw [s60] at l1'
      rw [show sg_g σ73 88 60 - sg_g σ 88 60 = (i0 : Int) by omega, eT]
      refine ⟨⟨by omega, by omega⟩, ?_⟩
      have sq : ∀ Q', (∀ q σ', oK σ68 σ' ((T bd).toNat + 1) q → sg_F [122, 123, 124, 57088] σ73 σ' → Q' q σ') → V_seq σ73 (sg_g σ 88 60) i0 (T n) Q' := fun Q' kk => by
        rw [← s60]
        exact m_seqA hB68 ⟨by omega, by omega⟩ hA' (by omega) (by omega) kk
      refine sq _ (fun q σ89 x1 x2 x3 _ => ?_)
      have tn : (T n).toNat = (T bd).toNat + 1 := by omega
      refine ev_lv hh hC hA (sg_F_t (sg_F_t (sg_F_m F68 rfl) (sg_F_m f73 rfl)) (sg_F_m x2 rfl)) x3 ?_ (Or.inl (by rw [en, t1, k15]; decide)) (fun _ => by rw [en]; omega) (fun y => by rw [en, t1, k15] at y; omega) k
      rw [en, tn]
      obtain ⟨y1, y2, y3, y4⟩ := x1
      rw [s56, s60] at y3
      exact ⟨nEx_t ex68 y1, y2, y3, fun z => by omega⟩
  · have hE : eM σ b p g ∧ ∃ i : Nat, (i : Int) ≤ p ∧ p < sg_g σ 123 (sg_g σ 133 b) ∧ s = g + 3 ∧ ty = (tl.take g).map T ++ List.replicate (i + 1) (T bd) := by
      rcases h7 with ⟨i, i1, i2, -, i3⟩ | ⟨e1, i, i1, i2 | i2 | i2⟩
      · omega
      · omega
      · omega
      · exact ⟨e1, i, i1, i2⟩
    obtain ⟨e1, i0, i1, pl, i2, i3⟩ := hE
    have m2 := v0 (full hs) 0 (by omega)
    rw [b0] at m2
    have p0 := e1.2.1
    refine m_done (by omega) (by omega) (by omega) (fun σ' x1 x2 x3 x4 _ => k σ' ?_)
    refine ev_same (n := n) (s' := g + 1) (p' := p + 1) (tys := ty) (sg_F_m x1 rfl) x4 ⟨x2, by rw [x3, ep]⟩ hC he en h1 (by rw [eb]; exact h3) ?_ ?_ (by rw [eb]; exact h5) h6 ?_ ⟨k15, by rw [eg], by rw [eg, es]; omega⟩ (by rw [eb]; exact h8)
    · rw [sg_F_g x1 (by rfl), eb]; exact h4
    · rw [sg_F_g x1 (by rfl)]; exact Int.le_refl _
    · rw [eb, fS_15 k15, eg]
      exact ⟨bd, tl, ea, Or.inr ⟨⟨e1.1, ⟨by omega, by omega⟩, e1.2.2⟩, i0 + 1, by omega, Or.inl ⟨rfl, i3⟩⟩⟩
  · have hE : eM σ b p g ∧ ∃ i : Nat, (i : Int) ≤ p ∧ (p < sg_g σ 123 (sg_g σ 133 b) ∧ ∀ i : Nat, i < g → vU σ (bTy A D T (210 + 4 * n + i)).toNat (sg_g σ 134 (210 + 4 * n + i))) ∧ s = g + 2 ∧ ty = (tl.take g).map T ++ List.replicate i (T bd) ++ [0] := by
      rcases h7 with ⟨i, i1, i2, -, i3⟩ | ⟨e1, i, i1, i2 | i2 | i2⟩
      · omega
      · omega
      · exact ⟨e1, i, i1, i2⟩
      · omega
    obtain ⟨e1, i0, i1, ⟨pl, bg⟩, i2, i3⟩ := hE
    obtain ⟨X, eX⟩ : ∃ X, X = (tl.take g).map T ++ List.replicate i0 (T bd) := ⟨_, rfl⟩
    rw [← eX] at i3
    have m2 := v0 (full hs) 0 (by omega)
    rw [b0] at m2
    have p0 := e1.2.1
    have lX : ty.length = X.length + 1 := by rw [i3]; simp
    have hSX : vS σ b X := by rw [i3] at h5; exact vS_l h5
    refine ⟨⟨by omega, by omega⟩, fun σ117 e117 => ⟨⟨by omega, by omega⟩, fun z => ⟨⟨by omega, by omega⟩, fun σ123 e123 => ⟨⟨by omega, by omega⟩, ⟨by omega, by omega⟩, ?_⟩⟩, fun z => ?_⟩⟩
    · have F : sg_F [127, 131, 134, 71088] σ σ123 := by rw [e123, e117]; exact sg_F_w (sg_F_w (sg_F_r _ _) rfl _) rfl _
      have ex : nEx σ σ123 := nEx_F F rfl
      have g134 : ∀ b', sg_g σ123 134 b' = sg_g σ 134 b' := fun b' => by rw [e123, sg_gw_c _ _ _ _ _ _ (by decide), e117, sg_gw_c _ _ _ _ _ _ (by decide)]
      have bo : bOk A D T σ σ123 := fun b' => Or.inl (g134 b')
      have e97 := t4 0 bd (by rw [ea]; rfl)
      rw [show 200 * n + ((0 : Nat) : Int) = 200 * n by omega] at e97
      rw [e97]
      refine ev_st (A := A) (D := D) (T := T) (B := B) (r := r) (σ := σ) (m := m) (s' := g + 3) (tys := X) F bo (fun i hi => ?_) ?_ hC h1 (by rw [eb]; exact h3) ?_ ?_ (by rw [eb]; exact hSX) (by rw [en]; exact h6) ?_ (by rw [en, eg]; intro _ z; omega) (by rw [en, eb]; exact h8) (l2 σ123 ex bo (fun i x hx => ?_) bd (by simp)) hA k
      · rw [e123, sg_gw_k _ _ _ _ _ _ hi, e117, sg_gw_c _ _ _ _ _ _ (by decide)]
      · rw [e123, sg_gw_e _ _ _ _ ⟨by omega, by omega⟩]
      · rw [e123, sg_gw_c _ _ _ _ _ _ (by decide), e117, sg_gw_e _ _ _ _ ⟨by omega, by omega⟩, eb]; omega
      · rw [e123, sg_gw_c _ _ _ _ _ _ (by decide), e117, sg_gw_e _ _ _ _ ⟨by omega, by omega⟩]; omega
      · rw [en, ep, eb, fS_15 k15, eg]
        obtain ⟨q1, q2⟩ := eM_up ex (fun y _ _ => sg_F_ga F rfl) e1
        refine ⟨bd, tl, ea, Or.inr ⟨q1, i0, i1, Or.inr (Or.inr ⟨by rw [q2]; exact pl, rfl, ?_⟩)⟩⟩
        rw [eX, List.replicate_succ', List.append_assoc]
      · have hi : i < g := by
          rcases Nat.lt_or_ge i (tl.take g).length with q | q
          · omega
          · rw [List.getElem?_eq_none q] at hx; cases hx
        have hx' : tl[i]? = some x := by rw [List.getElem?_take, if_pos hi] at hx; exact hx
        have := bg i hi
        rw [bTy_g ea hx' ⟨hn.1, by omega⟩ (by omega)] at this
        rw [g134]
        exact vU_up ex this
    · have e30 : sg_g σ117 130 m = p := by rw [e117, sg_gw_c _ _ _ _ _ _ (by decide)]; exact ep
      refine m_done (by omega) (by omega) (by omega) (fun σ' x1 x2 x3 x4 _ => k σ' ?_)
      refine ev_same (n := n) (s' := g + 1) (p' := p + 1) (tys := X) ?_ (fun i hi => ?_) ⟨x2, by rw [x3, e30]⟩ hC he en h1 (by rw [eb]; exact h3) ?_ ?_ (by rw [eb]; exact hSX) h6 ?_ ⟨k15, by rw [eg], by rw [eg, es]; omega⟩ (by rw [eb]; exact h8)
      · refine sg_F_t (σ1 := σ117) ?_ (sg_F_m x1 rfl)
        rw [e117]; exact sg_F_w (sg_F_r _ _) rfl _
      · rw [(x4 i hi).1, (x4 i hi).2, e117, sg_gw_c _ _ _ _ _ _ (by decide), sg_gw_c _ _ _ _ _ _ (by decide)]
        exact ⟨rfl, rfl⟩
      · rw [sg_F_g x1 (by rfl), e117, sg_gw_e _ _ _ _ ⟨by omega, by omega⟩, eb]; omega
      · rw [sg_F_g x1 (by rfl), e117, sg_gw_e _ _ _ _ ⟨by omega, by omega⟩]; omega
      · rw [eb, fS_15 k15, eg]
        exact ⟨bd, tl, ea, Or.inr ⟨⟨e1.1, ⟨by omega, by omega⟩, e1.2.2⟩, i0, by omega, Or.inl ⟨rfl, eX⟩⟩⟩
  · have hE : p = 0 ∧ ty = (tl.take g).map T := by
      rcases h7 with ⟨i, i1, i2, i4, i3⟩ | ⟨e1, i, i1, i2 | i2 | i2⟩
      · exact ⟨i4, by rw [i3, show i = g by omega]⟩
      · omega
      · omega
      · omega
    have tyl' := tyl (full hs)
    have v0f := v0 (full hs)
    clear h7 full gv v0 tyl
    refine ⟨fun q v σ3 => q = (g - v).toNat ∧ (1 ≤ v ∧ v ≤ g) ∧ σ3 = σ ∧ ∀ j : Nat, (j : Int) < v → sg_g σ 123 (sg_g σ 133 (b + j)) = sg_g σ 123 (sg_g σ 133 b), fun σ3 => σ3 = σ ∧ ∀ j : Nat, j < g → sg_g σ 123 (sg_g σ 133 (b + j)) = sg_g σ 123 (sg_g σ 133 b), ⟨_, rfl, ⟨by omega, by omega⟩, rfl, fun j hj => ?_⟩, ?_, ?_⟩
    · rw [show (j : Int) = ((0 : Nat) : Int) by omega, b0]
    · rintro q v σ3 rv f3 ⟨em, hv, rfl, j1⟩
      refine ⟨fun y => ⟨rfl, fun j hj => j1 j (by omega)⟩, fun y => ?_⟩
      have vv := (v0f v.toNat (by omega)).1
      rw [show ((v.toNat : Nat) : Int) = v by omega] at vv
      refine ⟨⟨by omega, by omega⟩, ⟨by omega, by omega⟩, ⟨vv.1, by omega⟩, fun e => ⟨⟨by omega, by omega⟩, _, by omega, rfl, ⟨by omega, by omega⟩, rfl, fun j hj => ?_⟩, fun e => m_ends (by decide) (fun σ' x1 x2 _ => k σ' (Or.inl x1))⟩
      by_cases z : (j : Int) = v
      · rw [z]; exact e
      · exact j1 j (by omega)
    · rintro σ3 f3 ⟨rfl, j1⟩
      refine ⟨⟨by omega, by omega⟩, fun σ156 e156 => k σ156 ?_⟩
      have m2 := v0f 0 (by omega)
      rw [b0] at m2
      refine ev_same (n := n) (s' := g + 1) (p' := p) (tys := ty) ?_ (fun i hi => ⟨?_, ?_⟩) ⟨?_, ?_⟩ hC he en h1 (by rw [eb]; exact h3) ?_ ?_ (by rw [eb]; exact h5) h6 ?_ ⟨k15, by rw [eg], by rw [eg, es]; omega⟩ (by rw [eb]; exact h8)
      · rw [e156]; exact sg_F_w (sg_F_r _ _) rfl _
      · rw [e156, sg_gw_k _ _ _ _ _ _ hi]
      · rw [e156, sg_gw_c _ _ _ _ _ _ (by decide)]
      · rw [e156, sg_gw_e _ _ _ _ ⟨by omega, by omega⟩]
      · rw [e156, sg_gw_c _ _ _ _ _ _ (by decide)]; exact ep
      · rw [e156, sg_gw_c _ _ _ _ _ _ (by decide), eb]; exact h4
      · rw [e156, sg_gw_c _ _ _ _ _ _ (by decide)]; exact Int.le_refl _
      · rw [eb, fS_15 k15, eg]
        refine ⟨bd, tl, ea, Or.inr ⟨⟨g14.1, ⟨by omega, by omega⟩, fun j hj => ⟨(v0f j hj).1, j1 j hj⟩⟩, 0, by omega, Or.inl ⟨rfl, ?_⟩⟩⟩
        rw [hE.2]; simp
  · have hE : ∃ i : Nat, i < g ∧ s = i ∧ p = 0 ∧ ty = (tl.take i).map T := by
      rcases h7 with ⟨i, i1, i2, i4, i3⟩ | ⟨e1, i, i1, i2 | i2 | i2⟩
      · exact ⟨i, by omega, i2, i4, i3⟩
      · omega
      · omega
      · omega
    obtain ⟨i, i1, i2, i3, i4⟩ := hE
    obtain ⟨x, x1, x2, x3, x4⟩ := tx i i1
    refine ⟨⟨by omega, by omega⟩, ev_part (A := A) (D := D) (T := T) (B := B) (r := r) (x := x) (tys := ty) (sg_F_r _ _) (fun _ => Or.inl rfl) hP hC en h1 (by rw [eb]; exact h3) (by rw [eb]; exact h4) (Int.le_refl _) (by rw [eb]; exact h5) h6 (by omega) ?_ (by rw [es, eg]; intro _ z; omega) (by rw [eb]; exact h8) x4 ⟨by omega, ?_⟩ hA k⟩
    · rw [es, ep, eb, fS_15 k15, eg]
      exact ⟨bd, tl, ea, Or.inl ⟨i + 1, by omega, by omega, i3, by rw [take_x x2, i4]⟩⟩
    · rw [ea, show (1 + s).toNat = i + 1 by omega, List.getElem?_cons_succ]; exact x2
end NEA
