/-! the pile of a flat run: kept, begun, left. -/
section FZ
variable {A : aT} {D : List aDf} {T B : Int → Int} {lev : Int → Nat} {r : Int}
theorem map_0 {T : Int → Int} {l X : Int} {xs : List Int} {q : List (Int × Int × Int)} (h : 2 ≤ (xs.map (fun x => (T x, l, X)) ++ q).length) (hx : 1 ≤ xs.length) : ∃ t R, xs.map (fun x => (T x, l, X)) ++ q = (t, l, X) :: R := by
  cases xs with
  | nil => simp at hx
  | cons a b => exact ⟨T a, _, rfl⟩
theorem fK_0 {σ : sg_S} {n st b l X s sv al : Int} {j : Nat} {L : List Int} {sc : List (Int × Int)} {tys : List (Int × Int × Int)} {W : Int → Prop} (nw : nW A n) (h : fK A D T B lev σ n st b l X s sv al j L sc W tys) (h2 : 2 ≤ tys.length) : ∃ t R, tys = (t, l, X) :: R := by
  unfold fK at h
  split at h
  · obtain ⟨h0, a, c, ea, h1⟩ := h
    rcases h1 with ⟨p1, p2, p3⟩ | ⟨p1, p2, p3⟩ | ⟨p1, p2⟩ <;> rw [p2] at h2 <;> simp at h2
  · split at h
    · obtain ⟨a, c, d, ea, h1⟩ := h
      rcases h1 with ⟨p1, p0, p2, p3⟩ | ⟨p1, p0, p2, p3⟩ | ⟨p1, p2, p3⟩ | ⟨p1, p2⟩
      · rw [p2] at h2; simp at h2
      · rw [p2] at h2; simp at h2
      · exact ⟨_, _, p2⟩
      · exact ⟨_, _, p2⟩
    · split at h
      · rename_i k15
        obtain ⟨bd, tl, ea, h1⟩ := h
        have g := (nw.2.2.2.2.2.2.1 k15).1
        have g1 := nw.2.2.2.2.2.2.2.2 k15
        rw [ea] at g
        simp only [List.length_cons] at g
        rcases h1 with ⟨i, p1, p2, p3, p4, p5⟩ | ⟨ts, p1, p2, p3, _⟩ | ⟨m, p1, p2, p3⟩
        · rw [p4] at h2 ⊢
          rw [← List.append_nil (List.map _ _)] at h2 ⊢
          exact map_0 h2 (by simp only [List.append_nil, List.length_map, List.length_take] at h2 ⊢; omega)
        · rw [p3] at h2 ⊢
          exact map_0 h2 (by rw [List.length_take]; omega)
        · rw [p2] at h2 ⊢
          exact map_0 h2 (by rw [List.length_take]; omega)
      · obtain ⟨h0, h1⟩ := h
        rcases h1 with ⟨i, p1, p2, p3, p4⟩ | ⟨p1, p2, p3⟩
        · rw [p3] at h2 ⊢
          rw [← List.append_nil (List.map _ _)] at h2 ⊢
          exact map_0 h2 (by simp only [List.append_nil, List.length_map, List.length_take] at h2 ⊢; omega)
        · rw [p3] at h2; simp at h2
theorem fStk_up {σ σ' : sg_S} (ex : fEx σ σ') (hc : sg_g σ 88 85 ≤ sg_g σ' 88 85) : ∀ (m : Nat) (tp ty l Xa sv : Int) (W W' : Int → Prop), (∀ i : Nat, i < m → sg_g σ' 126 i = sg_g σ 126 i ∧ sg_g σ' 127 i = sg_g σ 127 i ∧ sg_g σ' 128 i = sg_g σ 128 i ∧ sg_g σ' 145 i = sg_g σ 145 i ∧ sg_g σ' 146 i = sg_g σ 146 i ∧ sg_g σ' 147 i = sg_g σ 147 i) → (∀ x, 0 ≤ x → x < tp → sg_g σ' 133 x = sg_g σ 133 x) → (∀ s b, s ≤ sv → ¬ W b → und σ' s b = und σ s b) → (∀ b, W' b → W b) → fStk A D T B lev r σ m tp ty l Xa sv W → fStk A D T B lev r σ' m tp ty l Xa sv W'
  | 0, tp, ty, l, Xa, sv, W, W', _, _, _, _, h => h
  | m + 1, tp, ty, l, Xa, sv, W, W', hr, hv, hu, hw, h => by
    obtain ⟨j, f, L, sc, tys, X, h1, h2, h3, h4, h5, h6, h7, h8, h9⟩ := h
    obtain ⟨e1, e2, e3, e4, e5, e6⟩ := hr m (by omega)
    refine ⟨j, f, L, sc, tys, X, ?_⟩
    rw [e1, e2, e3, e4, e5, e6]
    have nw := (stN_w h4).1
    refine ⟨h1, h2, vW_up ex hc (fun x a b => hv x (by omega) (by omega)) h3, h4, ⟨h5.1, h5.2.1, by omega⟩, h6, fun b hb => h7 b (hw b hb), fK_up nw ex hc h6.2 hu hw (fun z => ?_) h8, ?_⟩
    · have hz : 1 ≤ tys.length := by simp only [List.length_append, List.length_cons, List.length_nil] at z; omega
      refine ⟨hv _ (by omega) (by omega), ?_⟩
      obtain ⟨t, R, e⟩ := fK_0 nw h8 z
      cases tys with
      | nil => simp at hz
      | cons q ql =>
        simp only [List.cons_append, List.cons.injEq] at e
        obtain ⟨q1, q2, q2'⟩ := q
        have : q2 = sg_g σ 145 m := by have := congrArg (·.2.1) e.1; exact this
        rw [this] at h3
        exact ⟨_, fLx_L (vW_0 h3)⟩
    · exact fStk_up ex hc m _ _ _ _ _ _ _ (fun i hi => hr i (by omega)) (fun x a b => hv x a (by omega)) (fun s b hs hb => hu s b (by omega) (fun z => hb (h7 b z))) (fun b hb => hb) h9
theorem m_fBegin {σ : sg_S} {x l : Int} {Q : sg_S → Prop} (hs : (0 ≤ sg_g σ 88 84 ∧ sg_g σ 88 84 ≤ 2000) ∧ (0 ≤ sg_g σ 88 85 ∧ sg_g σ 88 85 ≤ 6000)) (hf : 0 ≤ sg_g σ 88 62 ∧ sg_g σ 88 62 < 4000) (hx : sg_R x) (hl : sg_R l) (k0 : ∀ σ', ¬ sg_g σ' 88 73 = 0 → Q σ') (k1 : ∀ σ', sg_g σ' 88 84 = sg_g σ 88 84 + 1 → sg_g σ' 88 84 ≤ 2000 → sg_g σ' 88 85 = sg_g σ 88 85 → sg_g σ' 88 62 = sg_g σ 88 62 + 1 → (sg_g σ' 126 (sg_g σ 88 62) = x ∧ sg_g σ' 127 (sg_g σ 88 62) = 0 ∧ sg_g σ' 128 (sg_g σ 88 62) = sg_g σ 88 70 ∧ sg_g σ' 145 (sg_g σ 88 62) = l ∧ sg_g σ' 146 (sg_g σ 88 62) = sg_g σ 88 99) → (∀ i, ¬ i = sg_g σ 88 62 → sg_g σ' 126 i = sg_g σ 126 i ∧ sg_g σ' 127 i = sg_g σ 127 i ∧ sg_g σ' 128 i = sg_g σ 128 i ∧ sg_g σ' 145 i = sg_g σ 145 i ∧ sg_g σ' 146 i = sg_g σ 146 i) → sg_F [126, 127, 128, 145, 146, 63088, 85088, 86088, 87088] σ σ' → Q σ') : V_flatBegin σ x l Q := by
  unfold V_flatBegin
  refine m_stepped hs ⟨by omega, by omega⟩ (fun σ' e _ _ => ⟨fun z => absurd rfl z, fun _ => k0 _ e⟩) (fun σ1 f1 s1 s2 s3 s4 _ _ => ⟨fun _ v10 e10 r10 σ13 e13 => ⟨hf, fun σ17 e17 σ20 e20 σ23 e23 σ26 e26 σ29 e29 => ⟨⟨by omega, by omega⟩, fun σ33 e33 => ?_⟩⟩, fun z => by omega⟩)
  have F1 : sg_F [126, 127, 128, 145, 146, 63088, 87088] σ1 σ33 := by
    rw [e33, e29, e26, e23, e20, e17, e13]
    exact sg_F_w (sg_F_w (sg_F_w (sg_F_w (sg_F_w (sg_F_w (sg_F_w (sg_F_r _ _) rfl _) rfl _) rfl _) rfl _) rfl _) rfl _) rfl _
  refine k1 σ33 (by rw [sg_F_g F1 (by rfl)]; exact s1) (by rw [sg_F_g F1 (by rfl)]; exact s2) (by rw [sg_F_g F1 (by rfl)]; omega) (by rw [e33, sg_gw_e _ _ _ _ ⟨by omega, by omega⟩]) ⟨?_, ?_, ?_, ?_, ?_⟩ (fun i hi => ⟨?_, ?_, ?_, ?_, ?_⟩) (sg_F_t (sg_F_m f1 rfl) (sg_F_m F1 rfl))
  · rw [e33, sg_gw_c _ _ _ _ _ _ (by decide), e29, sg_gw_c _ _ _ _ _ _ (by decide), e26, sg_gw_c _ _ _ _ _ _ (by decide), e23, sg_gw_c _ _ _ _ _ _ (by decide), e20, sg_gw_c _ _ _ _ _ _ (by decide), e17, sg_gw_e _ _ _ _ hx]
  · rw [e33, sg_gw_c _ _ _ _ _ _ (by decide), e29, sg_gw_c _ _ _ _ _ _ (by decide), e26, sg_gw_c _ _ _ _ _ _ (by decide), e23, sg_gw_c _ _ _ _ _ _ (by decide), e20, sg_gw_e _ _ _ _ ⟨by decide, by decide⟩]
  · rw [e33, sg_gw_c _ _ _ _ _ _ (by decide), e29, sg_gw_c _ _ _ _ _ _ (by decide), e26, sg_gw_c _ _ _ _ _ _ (by decide), e23, sg_gw_e _ _ _ _ (sg_Rg _ _ _)]
  · rw [e33, sg_gw_c _ _ _ _ _ _ (by decide), e29, sg_gw_c _ _ _ _ _ _ (by decide), e26, sg_gw_e _ _ _ _ hl]
  · rw [e33, sg_gw_c _ _ _ _ _ _ (by decide), e29, sg_gw_e _ _ _ _ (sg_Rg _ _ _)]
  · rw [e33, sg_gw_c _ _ _ _ _ _ (by decide), e29, sg_gw_c _ _ _ _ _ _ (by decide), e26, sg_gw_c _ _ _ _ _ _ (by decide), e23, sg_gw_c _ _ _ _ _ _ (by decide), e20, sg_gw_c _ _ _ _ _ _ (by decide), e17, sg_gw_k _ _ _ _ _ _ hi, e13, sg_gw_c _ _ _ _ _ _ (by decide), sg_F_ga f1 rfl]
  · rw [e33, sg_gw_c _ _ _ _ _ _ (by decide), e29, sg_gw_c _ _ _ _ _ _ (by decide), e26, sg_gw_c _ _ _ _ _ _ (by decide), e23, sg_gw_c _ _ _ _ _ _ (by decide), e20, sg_gw_k _ _ _ _ _ _ hi, e17, sg_gw_c _ _ _ _ _ _ (by decide), e13, sg_gw_c _ _ _ _ _ _ (by decide), sg_F_ga f1 rfl]
  · rw [e33, sg_gw_c _ _ _ _ _ _ (by decide), e29, sg_gw_c _ _ _ _ _ _ (by decide), e26, sg_gw_c _ _ _ _ _ _ (by decide), e23, sg_gw_k _ _ _ _ _ _ hi, e20, sg_gw_c _ _ _ _ _ _ (by decide), e17, sg_gw_c _ _ _ _ _ _ (by decide), e13, sg_gw_c _ _ _ _ _ _ (by decide), sg_F_ga f1 rfl]
  · rw [e33, sg_gw_c _ _ _ _ _ _ (by decide), e29, sg_gw_c _ _ _ _ _ _ (by decide), e26, sg_gw_k _ _ _ _ _ _ hi, e23, sg_gw_c _ _ _ _ _ _ (by decide), e20, sg_gw_c _ _ _ _ _ _ (by decide), e17, sg_gw_c _ _ _ _ _ _ (by decide), e13, sg_gw_c _ _ _ _ _ _ (by decide), sg_F_ga f1 rfl]
  · rw [e33, sg_gw_c _ _ _ _ _ _ (by decide), e29, sg_gw_k _ _ _ _ _ _ hi, e26, sg_gw_c _ _ _ _ _ _ (by decide), e23, sg_gw_c _ _ _ _ _ _ (by decide), e20, sg_gw_c _ _ _ _ _ _ (by decide), e17, sg_gw_c _ _ _ _ _ _ (by decide), e13, sg_gw_c _ _ _ _ _ _ (by decide), sg_F_ga f1 rfl]
theorem fK_new {σ : sg_S} {n b l X s al : Int} {j : Nat} {L : List Int} {sc : List (Int × Int)} {W : Int → Prop} (nw : nW A n) (h : scF σ s l X W sc) : fK A D T B lev σ n 0 b l X s s al j L sc W [] := by
  unfold fK
  split
  · rename_i k2
    obtain ⟨a, c, ea⟩ := kid2 (nw.2.2.1 (Or.inl k2))
    exact ⟨rfl, a, c, ea, Or.inl ⟨rfl, rfl, h⟩⟩
  · split
    · rename_i k3
      have l3 := nw.2.2.2.1 k3
      obtain ⟨a, c, d, ea⟩ : ∃ a c d, A.2.2.2.2.1 n = [a, c, d] := by
        match e : A.2.2.2.2.1 n, l3 with
        | [a, c, d], _ => exact ⟨a, c, d, rfl⟩
      exact ⟨a, c, d, ea, Or.inl ⟨rfl, rfl, rfl, h⟩⟩
    · split
      · rename_i k15
        have g := (nw.2.2.2.2.2.2.1 k15).1
        cases e : A.2.2.2.2.1 n with
        | nil => rw [e] at g; simp at g; omega
        | cons bd tl => exact ⟨bd, tl, rfl, Or.inl ⟨0, by omega, rfl, rfl, by simp, h⟩⟩
      · exact ⟨rfl, Or.inl ⟨0, by omega, rfl, by simp, h⟩⟩
theorem ev_B {σ : sg_S} {M j f : Nat} {x l X : Int} {L : List Int} {sc : List (Int × Int)} {Q : sg_S → Prop} (hN : fNw σ) (e0 : sg_g σ 88 73 = 0) (fm : sg_g σ 88 62 = M) (hx : stN A D T B lev j f L sc x) (hsc : scF σ (sg_g σ 88 99) l X (fun _ => False) sc) (hl : 0 ≤ l ∧ l ≤ 6000 ∧ 0 ≤ sg_g σ 88 85 + X) (hA : A.1 ≤ 200) (hK : fStk A D T B lev r σ M (sg_g σ 88 70) (T x) l X (sg_g σ 88 99) (ow lev j L)) (k : ∀ σ', (¬ sg_g σ' 88 73 = 0 ∨ (sg_g σ' 88 73 = 0 ∧ fIv A D T B lev r σ' ∧ sg_g σ' 88 84 = sg_g σ 88 84 + 1 ∧ sg_g σ' 88 62 = sg_g σ 88 62 + 1)) → Q σ') : V_flatBegin σ x l Q := by
  obtain ⟨hI, hB, n1, n2, n3⟩ := hN
  obtain ⟨i1, i2, i3, i4, i5⟩ := hI
  obtain ⟨w1, w2, w3, -⟩ := stN_w hx
  refine m_fBegin ⟨i1, i2⟩ ⟨by omega, by omega⟩ ⟨by omega, by omega⟩ ⟨by omega, by omega⟩ (fun σ' e => k σ' (Or.inl e)) (fun σ' s1 s2 s3 s4 ⟨c1, c2, c3, c4, c5⟩ co F => ?_)
  have ex : fEx σ σ' := fEx_F F rfl
  rw [fm] at c1 c2 c3 c4 c5 co
  have g99 : sg_g σ' 88 99 = sg_g σ 88 99 := sg_F_g F (by rfl)
  have g70 : sg_g σ' 88 70 = sg_g σ 88 70 := sg_F_g F (by rfl)
  have g91 : sg_g σ' 88 91 = sg_g σ 88 91 := sg_F_g F (by rfl)
  have g87 : sg_g σ' 88 87 = sg_g σ 88 87 := sg_F_g F (by rfl)
  have un : ∀ s b, und σ' s b = und σ s b := fun s b => und_F F rfl s b
  refine k σ' (Or.inr ⟨by rw [sg_F_g F (by rfl)]; exact e0, ⟨⟨⟨⟨by omega, by omega⟩, ⟨by omega, by omega⟩, ⟨by omega, by omega⟩, ⟨by omega, by omega, by omega⟩, by omega, by omega⟩, fun i a b => by rw [sg_F_ga F rfl]; exact hB i a (by omega), by omega, by omega, by omega⟩, Or.inr ⟨M, [], by omega, j, f, L, sc, X, ?_⟩⟩, s1, s4⟩)
  rw [c1, c2, c3, c4, c5, g99]
  refine ⟨n2, by simp [g70], fun i y hy => (by cases hy), hx, ⟨hl.1, hl.2.1, by omega⟩, ⟨by omega, by omega⟩, fK_new w1 (scF_up ex (by omega) (fun b _ => un _ b) (fun p _ h => h) hsc), fStk_up ex (by omega) M _ _ _ _ _ _ _ (fun i hi => ?_) (fun y _ _ => sg_F_ga F rfl) (fun s b _ _ => un s b) (fun b hb => hb) hK⟩
  obtain ⟨d1, d2, d3, d4, d5⟩ := co i (by omega)
  exact ⟨d1, d2, d3, d4, d5, sg_F_ga F rfl⟩
theorem ev_L {σ : sg_S} {m : Nat} {v X : Int} {W : Int → Prop} {Q : sg_S → Prop} (hN : fNw σ) (hr : sg_g σ 88 87 + sg_g σ 88 62 ≤ 8 * sg_g σ 88 84 + 1) (e0 : sg_g σ 88 73 = 0) (fm : sg_g σ 88 62 = m + 1) (hb : 0 ≤ sg_g σ 128 m ∧ sg_g σ 128 m ≤ sg_g σ 88 70) (hs : sg_g σ 88 99 = sg_g σ 146 m) (hK : fStk A D T B lev r σ m (sg_g σ 128 m) (T (sg_g σ 126 m)) (sg_g σ 145 m) X (sg_g σ 146 m) W) (hv : fLx σ (T (sg_g σ 126 m)).toNat (sg_g σ 145 m) (sg_g σ 88 85 + X) v) (rv : sg_R v) (k : ∀ σ', sg_g σ' 88 73 = 0 → fIv A D T B lev r σ' → sg_g σ' 88 84 = sg_g σ 88 84 → sg_g σ' 88 62 = m → Q σ') : V_flatLeave σ v Q := by
  obtain ⟨hI, hB, n1, n2, n3⟩ := hN
  have hI' := hI
  obtain ⟨i1, i2, i3, i4, i5⟩ := hI
  unfold V_flatLeave
  rw [fm, show (m : Int) + 1 - 1 = m by omega]
  refine ⟨⟨by omega, by omega⟩, fun σ2 e2 => ⟨⟨by omega, by omega⟩, fun σ6 e6 => ⟨⟨by omega, by omega⟩, fun σ10 e10 => ⟨⟨by omega, by omega⟩, fun σ14 e14 => ?_⟩⟩⟩⟩
  have F : sg_F [133, 63088, 71088] σ σ14 := by rw [e14, e10, e6, e2]; exact sg_F_w (sg_F_w (sg_F_w (sg_F_w (sg_F_r _ _) rfl _) rfl _) rfl _) rfl _
  have c62 : sg_g σ14 88 62 = m := by rw [e14, sg_gw_k _ _ _ _ _ _ (by decide), e10, sg_gw_c _ _ _ _ _ _ (by decide), e6, sg_gw_k _ _ _ _ _ _ (by decide), e2, sg_gw_e _ _ _ _ ⟨by omega, by omega⟩]
  have c70 : sg_g σ14 88 70 = sg_g σ 128 m + 1 := by rw [e14, sg_gw_e _ _ _ _ ⟨by omega, by omega⟩]
  have cv : sg_g σ14 133 (sg_g σ 128 m) = v := by rw [e14, sg_gw_c _ _ _ _ _ _ (by decide), e10, sg_gw_e _ _ _ _ rv]
  have co : ∀ x, ¬ x = sg_g σ 128 m → sg_g σ14 133 x = sg_g σ 133 x := fun x hx => by rw [e14, sg_gw_c _ _ _ _ _ _ (by decide), e10, sg_gw_k _ _ _ _ _ _ hx, e6, sg_gw_c _ _ _ _ _ _ (by decide), e2, sg_gw_c _ _ _ _ _ _ (by decide)]
  have ex : fEx σ σ14 := fEx_F F rfl
  have g84 : sg_g σ14 88 84 = sg_g σ 88 84 := sg_F_g F (by rfl)
  have g99 : sg_g σ14 88 99 = sg_g σ 88 99 := sg_F_g F (by rfl)
  have g85 : sg_g σ14 88 85 = sg_g σ 88 85 := sg_F_g F (by rfl)
  have un : ∀ s b, und σ14 s b = und σ s b := fun s b => und_F F rfl s b
  have I14 : fI σ14 := by
    unfold fI
    rw [g84, g99, sg_F_g (k := 85) F (by rfl), sg_F_g (k := 91) F (by rfl), sg_F_g (k := 87) F (by rfl), c62]
    exact ⟨i1, i2, i3, ⟨i4.1, by omega, by omega⟩, i5⟩
  have N14 : fN σ14 := ⟨I14, fun i a b => by rw [sg_F_ga F rfl]; exact hB i a (by omega), by omega, by omega, by omega⟩
  refine k σ14 (by rw [sg_F_g F (by rfl)]; exact e0) ⟨N14, ?_⟩ g84 c62
  cases m with
  | zero =>
    obtain ⟨k1, k2, k3, k4, k5⟩ := hK
    refine Or.inl ⟨by omega, ?_⟩
    rw [← k1, cv, ← k2, ← k3]
    exact fLx_up ex (by omega) hv
  | succ m =>
    obtain ⟨j, f, L, sc, tys, X', h1, h2, h3, h4, h5, h6, h7, h8, h9⟩ := hK
    have nw := (stN_w h4).1
    refine Or.inr ⟨m, tys ++ [(T (sg_g σ 126 (m + 1 : Nat)), sg_g σ 145 (m + 1 : Nat), X)], by omega, j, f, L, sc, X', ?_⟩
    rw [g99, hs, sg_F_ga (a := 128) F rfl, sg_F_ga (a := 126) F rfl, sg_F_ga (a := 127) F rfl, sg_F_ga (a := 145) F rfl, sg_F_ga (a := 146) F rfl, sg_F_ga (a := 147) F rfl]
    have v3 : vW σ14 (sg_g σ 128 m) tys := vW_up ex (by omega) (fun x a b => co x (by omega)) h3
    refine ⟨h1, by simp only [List.length_append, List.length_cons, List.length_nil]; omega, vW_x v3 (by rw [← h2]; exact cv) (fLx_up ex (by omega) hv), h4, ⟨h5.1, h5.2.1, by omega⟩, h6, fK_up nw ex (by omega) h6.2 (fun s b _ _ => un s b) (fun b hb => hb.elim) (fun z => ?_) h8, fStk_up ex (by omega) m _ _ _ _ _ _ _ (fun i hi => ⟨sg_F_ga F rfl, sg_F_ga F rfl, sg_F_ga F rfl, sg_F_ga F rfl, sg_F_ga F rfl, sg_F_ga F rfl⟩) (fun x a b => co x (by omega)) (fun s b _ _ => un s b) (fun b hb => hb) h9⟩
    have hz : 1 ≤ tys.length := by simp only [List.length_append, List.length_cons, List.length_nil] at z; omega
    refine ⟨co _ (by omega), ?_⟩
    obtain ⟨t, R, e⟩ := fK_0 nw h8 z
    cases tys with
    | nil => simp at hz
    | cons q ql =>
      simp only [List.cons_append, List.cons.injEq] at e
      obtain ⟨q1, q2, q2'⟩ := q
      have : q2 = sg_g σ 145 m := by have := congrArg (·.2.1) e.1; exact this
      rw [this] at h3
      exact ⟨_, fLx_L (vW_0 h3)⟩
end FZ
