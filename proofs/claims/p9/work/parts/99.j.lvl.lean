/-! All EXPRS are read alike. -/
section LVL
variable {c : tkC} {t : aK} {N : Nat} {τ τ' : sg_S} {A A' : aT} {b n q l r : Int} {L R : List Int} {i : Nat} {K Pl W G U : Int}
/-- a { } is closed behind its } -/
theorem each_fin (hB : tkB c t N) {L1 : List Int} {Gs : List (Int × Int)} {body : Int} (hi : i ≤ N) (h : bS τ A b n L1 [body]) (hs : sN τ n 123 (A.2.2.1 n) W Gs.length U) (h15 : A.2.1 n = 15) (hL : A.2.2.2.2.1 n = body :: L1) (hG : A.2.2.2.2.2 n = Gs) (hU : U = if (body :: L1).length = 2 + Gs.length then (body :: L1).getLast?.getD (-1) else -1) (hg : ∀ (j : Nat) (x : Int × Int) (y : Int), Gs[j]? = some x → L1[j]? = some y → sg_gl τ 18 y = uv x.1 ∧ sg_g τ 15 y = x.2) : (pEachE c n body i τ = none ∧ aEnd t n i A = none) ∨ ∃ i' τ' A' q, pEachE c n body i τ = some (i', τ', q) ∧ aEnd t n i A = some (i', A', q) ∧ i' ≤ N ∧ cS τ' A' b [q] ∧ fB τ τ' b := by
  have h2 := h.2.1
  unfold pEachE aEnd
  by_cases c1 : tK c i = 125
  · have a1 := (b_sg hB hi (ch := 125) (by decide)).mpr c1
    have hlt := b_lt hB hi (by have := sg_t a1; omega)
    simp only [c1, if_true, a1]
    right
    obtain ⟨b2, f2, w2, v2⟩ := bS_at (A' := A) h ⟨rfl, fun k _ => ⟨rfl, rfl, rfl, rfl, rfl⟩⟩
    have s2 := sN_at hs w2 v2
    obtain ⟨b3, s3, f3⟩ := cl_c (m := n) ⟨by omega, by omega⟩ b2 s2
    have hp : pts A n = L1 ++ [body] := by unfold pts; rw [if_pos h15, hL]; rfl
    have hcn : cN (pClose (pAttach τ n body) n n) A n := by
      obtain ⟨q1, q2, q3, q4, q5⟩ := s3
      refine ⟨by rw [h15]; exact q1, q2, fun q => by rw [h15] at q; omega, by rw [hp]; exact b3.2.2.1, fun _ => ?_⟩
      rw [hL, hG]
      refine ⟨q4, q5.trans hU, fun j x y hx hy => ?_⟩
      have hy2 : L1[j]? = some y := by
        rw [Nat.add_comm] at hy
        simpa using hy
      have e1 : sg_gl (pClose (pAttach τ n body) n n) 18 y = sg_gl τ 18 y := by
        unfold pClose
        rw [px_in ⟨by omega, by omega⟩, px_in ⟨by omega, by omega⟩, sg_gw', sg_gw', v2]
      have e2 : sg_g (pClose (pAttach τ n body) n n) 15 y = sg_g τ 15 y := by
        unfold pClose
        rw [px_in ⟨by omega, by omega⟩, px_in ⟨by omega, by omega⟩, sg_gw_c _ _ _ _ _ _ (by decide), sg_gw_c _ _ _ _ _ _ (by decide), w2 15 y (by omega)]
      rw [e1, e2]
      exact hg j x y hx hy2
    exact ⟨i + 1, _, _, _, rfl, rfl, by omega, bS_c b3 hcn (fun x hx => by rw [hL] at hx; simp at hx ⊢; exact hx.symm), fB_t f2 f3⟩
  · left
    have a1 : ¬ aSg t i 125 = true := fun x => c1 ((b_sg hB hi (by decide)).mp x)
    simp only [if_neg c1, if_neg a1, and_self]
theorem sF_each (hB : tkB c t N) {E : pF} {E' : aF} (hE : sF c t N E E') (gE : gF E') (hi : i ≤ N) (hk : tK c i = 123) (h : sg_g τ 2 16 = A.1) (h0 : 0 ≤ A.1 ∧ A.1 ≤ 200) : (pEach c E i τ = none ∧ aEach t E' i A = none) ∨ ∃ i' τ' A' q, pEach c E i τ = some (i', τ', q) ∧ aEach t E' i A = some (i', A', q) ∧ i' ≤ N ∧ cS τ' A' A.1 [q] ∧ fB τ τ' A.1 := by
  have hlt := b_lt hB hi (by have := (b_s hB hi).2.2.2.2.mpr (by omega); omega)
  unfold pEach aEach aMk
  by_cases c200 : A.1 = 200
  · left
    rw [cr_no h c200, if_pos c200]
    exact ⟨rfl, rfl⟩
  obtain ⟨τ1, e1, b1, s1, f1⟩ := cr_ok (i := i) (cS_0 h h0) (by omega) hB.1 15 (t.2.2 i) (t.2.1 i)
  rw [e1, if_neg c200]
  simp only
  rcases ea_ok hE gE (i := i + 1) (by omega) b1 s1 with ⟨x1, x2⟩ | ⟨i2, τ2, A2, body, x1, x2, x3, b2, -, s2, -, f2, -, g2⟩
  · left; rw [x1, x2]; exact ⟨rfl, rfl⟩
  rw [x1, x2]
  simp only
  have hn1 : A.1 < (aNew A 15 (t.2.2 i) (t.2.1 i)).1 := by simp only [aNew_1]; omega
  have k2 := g2.2 A.1 hn1
  by_cases c58 : tK c i2 = 58
  · have a58 := (b_sg hB x3 (ch := 58) (by decide)).mpr c58
    have hlt2 := b_lt hB x3 (by have := sg_t a58; omega)
    simp only [c58, if_true, a58]
    have b2' := bS_A b2 (kid_o A2 A.1 body)
    have ek0 : (aKid A2 A.1 body).2.2.2.2.1 A.1 = [body] := by rw [kn_k, k2.2.2.2.1]; simp only [aNew, aU_e, List.nil_append]
    have eg0 : (aKid A2 A.1 body).2.2.2.2.2 A.1 = [] := by simp only [aKid]; rw [k2.2.2.2.2]; simp only [aNew, aU_e]
    have ekd0 : (aKid A2 A.1 body).2.1 A.1 = 15 ∧ (aKid A2 A.1 body).2.2.1 A.1 = t.2.2 i := ⟨by simp only [aKid]; rw [k2.1]; simp only [aNew, aU_e], by simp only [aKid]; rw [k2.2.1]; simp only [aNew, aU_e]⟩
    unfold aGens
    rw [eg0]
    rcases gen_ok hB hE gE 4 (i2 + 1) τ2 (aKid A2 A.1 body) [] [] (by omega) b2' s2 ek0 eg0 ⟨rfl, fun j x y hx hy => by simp at hx⟩ rfl with ⟨y1, y2⟩ | ⟨i3, τ3, A3, L3, Gs3, y1, y2, y3, y4, y5, y6, y7, y8, y9, y10⟩
    · left
      rw [y1]
      simp only [List.length_nil, Nat.sub_zero, y2, and_self]
    · rw [y1]
      simp only [List.length_nil, Nat.sub_zero, y2]
      have ekd3 : A3.2.1 A.1 = 15 := y10.1.trans ekd0.1
      have epl3 : A3.2.2.1 A.1 = tPl c i := (y10.2.trans ekd0.2).trans (hB.2.2.1.1 i hi).2
      have s3 : sN τ3 A.1 123 (A3.2.2.1 A.1) (sg_nl (tW c i)) Gs3.length (-1) := by rw [epl3, ← hk]; exact y5
      have hA3 := y4.2.1
      unfold aGrd
      by_cases c124 : tK c i3 = 124
      · have a124 := (b_sg hB y3 (ch := 124) (by decide)).mpr c124
        have hlt3 := b_lt hB y3 (by have := sg_t a124; omega)
        simp only [c124, if_true, a124]
        rcases ea_ok hE gE (i := i3 + 1) (by omega) y4 s3 with ⟨z1, z2⟩ | ⟨i4, τ4, A4, g, z1, z2, z3, b4, b5, s4, s5, f4, f5, g4⟩
        · left; rw [z1, z2]; exact ⟨rfl, rfl⟩
        rw [z1, z2]
        simp only
        have k4 := g4.2 A.1 hA3.2.2.1
        have hgr := b4.2.2.2.2.2 g (by simp)
        have hA4 := b4.2.1
        have hkk : 0 ≤ A.1 ∧ A.1 < 200 := by omega
        rw [px_in hkk]
        obtain ⟨b6, f6⟩ := bS_o b5 (a0 := 14) (Or.inr rfl) g
        have ek6 : (aKid A4 A.1 g).2.2.2.2.1 A.1 = body :: (L3 ++ [g]) := by rw [kn_k, k4.2.2.2.1, y6]; rfl
        have eg6 : (aKid A4 A.1 g).2.2.2.2.2 A.1 = Gs3 := by simp only [aKid]; rw [k4.2.2.2.2, y7]
        have ekd6 : (aKid A4 A.1 g).2.1 A.1 = 15 := by simp only [aKid]; rw [k4.1, ekd3]
        have epl6 : (aKid A4 A.1 g).2.2.1 A.1 = A3.2.2.1 A.1 := by simp only [aKid]; rw [k4.2.1]
        have s6 : sN (sg_w (pAttach τ4 A.1 g) 14 A.1 g) A.1 123 ((aKid A4 A.1 g).2.2.1 A.1) (sg_nl (tW c i)) Gs3.length g := by
          obtain ⟨q1, q2, q3, q4, q5⟩ := s5
          rw [epl6]
          exact ⟨by rw [sg_gw_c _ _ _ _ _ _ (by decide)]; exact q1, by rw [sg_gw_c _ _ _ _ _ _ (by decide)]; exact q2, q3, by rw [sg_gw_c _ _ _ _ _ _ (by decide)]; exact q4, by rw [sg_gw, if_pos ⟨rfl, rfl⟩, sg_id ⟨by omega, by omega⟩]⟩
        have hlen := y8.1
        rcases each_fin hB z3 b6 s6 ekd6 ek6 eg6 (by rw [if_pos (show (body :: (L3 ++ [g])).length = 2 + Gs3.length by simp only [List.length_cons, List.length_append, List.length_nil]; omega), ← List.cons_append, List.getLast?_concat]; rfl) (fun j x y hx hy => by
            have hjl : j < L3.length := by
              have := (List.getElem?_eq_some_iff.mp hx).1
              omega
            rw [List.getElem?_append_left hjl] at hy
            have hm2 := List.mem_of_getElem? hy
            have hyA := (y4.2.2.2.2.2 y (by simp [hm2])).1
            obtain ⟨b5', f5', w5, v5⟩ := bS_at (A' := aKid A4 A.1 g) b4 (kid_o A4 A.1 g)
            have hE4 := hE (i3 + 1) τ3 A3 (by omega) y4.1 (by omega)
            rcases hE4 with ⟨u1, u2⟩ | ⟨i9, τ9, A9, q9, u1, u2, u3, u4, u5⟩
            · rw [u1] at z1; cases z1
            · rw [u1] at z1
              cases z1
              rw [sg_gw', sg_gw_c _ _ _ _ _ _ (by decide), v5, w5 15 y (by omega), (u5.1 18 y (by omega) hyA.2).2, (u5.1 15 y (by omega) hyA.2).1]
              exact y8.2 j x y hx hy) with ⟨v1, v2⟩ | ⟨i5, τ5, A5, q5, v1, v2, v3, v4, v5⟩
        · left
          rw [v1, v2]
          exact ⟨rfl, rfl⟩
        · right
          rw [v1, v2]
          exact ⟨i5, τ5, A5, q5, rfl, rfl, v3, v4, fB_t (fB_t (fB_t (fB_t (fB_t f1 f2) y9) f5) f6) v5⟩
      · have a124 : ¬ aSg t i3 124 = true := fun x => c124 ((b_sg hB y3 (by decide)).mp x)
        simp only [if_neg c124, if_neg a124]
        have hlen := y8.1
        rcases each_fin hB y3 y4 s3 ekd3 y6 y7 (by rw [if_neg (show ¬ ((body :: L3).length = 2 + Gs3.length) by simp only [List.length_cons]; omega)]) y8.2 with ⟨v1, v2⟩ | ⟨i5, τ5, A5, q5, v1, v2, v3, v4, v5⟩
        · left
          rw [v1, v2]
          exact ⟨rfl, rfl⟩
        · right
          rw [v1, v2]
          exact ⟨i5, τ5, A5, q5, rfl, rfl, v3, v4, fB_t (fB_t (fB_t f1 f2) y9) v5⟩
  · left
    have a58 : ¬ aSg t i2 58 = true := fun x => c58 ((b_sg hB x3 (by decide)).mp x)
    simp only [if_neg c58, if_neg a58, and_self]
theorem sF_atm (hB : tkB c t N) {w : Bool} {E : pF} {E' : aF} (hE : sF c t N E E') (gE : gF E') : sF c t N (pAtom c w E) (aAtm t w E') := by
  intro i τ A hi h h0
  have hs := b_s hB hi
  unfold pAtom aAtm
  by_cases c1 : tK c i = 257
  · have a1 := hs.2.1.mpr c1
    have hlt := b_lt hB hi (by omega)
    rw [if_pos c1, if_pos a1]
    by_cases c200 : A.1 = 200
    · left
      simp only [cr_no h c200, aMk, if_pos c200, and_self]
    · obtain ⟨τ1, e1, b1, s1, f1⟩ := cr_ok (i := i) (cS_0 h h0) (by omega) hB.1 0 (t.2.2 i) (t.2.1 i)
      right
      refine ⟨i + 1, τ1, aNew A 0 (t.2.2 i) (t.2.1 i), A.1, e1, by simp only [aMk, if_neg c200], by omega, bS_c b1 (cN_o b1 s1 (by simp only [aNew, aU_e]; rw [c1]; rfl) (by simp only [aNew, aU_e]; exact ((hB.2.2.1.1 i hi).2).symm) (fun q => by simp only [aNew, aU_e] at q; omega) (by simp only [aNew, aU_e]; omega) (by simp only [aNew, aU_e])) (fun x hx => by simp only [aNew, aU_e] at hx; exact hx), f1⟩
  · rw [if_neg c1, if_neg (fun x => c1 (hs.2.1.mp x))]
    by_cases c2 : tK c i = 258 ∨ 267 ≤ tK c i ∧ tK c i ≤ 278
    · have a2 := hs.2.2.1.mpr (by omega)
      rw [if_pos c2, if_pos a2]
      exact sF_wrd hB hE gE hi a2 (by omega) h h0
    · rw [if_neg c2]
      have hKr := tK_r hB.1 i
      by_cases a2 : t.1 i = 2
      · -- def, let, in, if, then, else
        rw [if_pos a2]
        left
        have hv := hs.2.2.1.mp a2
        have hnn : ¬ tK c i = 40 ∧ ¬ tK c i = 91 ∧ ¬ tK c i = 123 := by omega
        refine ⟨?_, ?_⟩
        · split
          · simp only [if_neg hnn.1, if_neg hnn.2.1, if_neg hnn.2.2]
          · rfl
        · unfold aWrd
          obtain ⟨ha, hb⟩ := b_act hB hi a2
          rw [ha, if_neg (show ¬ (267 ≤ tK c i) by omega), if_pos rfl, if_neg (fun x => by have := (b_nm hB hi).mp x; omega)]
      · rw [if_neg a2]
        have b40 := b_sg hB hi (ch := 40) (by decide)
        have b91 := b_sg hB hi (ch := 91) (by decide)
        have b123 := b_sg hB hi (ch := 123) (by decide)
        cases w with
        | false =>
          left
          refine ⟨by simp, ?_⟩
          split
          · simp
          · split
            · simp
            · split <;> simp
        | true =>
          simp only [if_true]
          by_cases d1 : tK c i = 40
          · have a1 := b40.mpr d1
            have hlt := b_lt hB hi (by have := sg_t a1; omega)
            rw [if_pos d1, if_pos a1]
            unfold pPar aPar
            rcases hE (i + 1) τ A (by omega) h h0 with ⟨x1, x2⟩ | ⟨i1, τ1, A1, q, x1, x2, x3, x4, x5⟩
            · left; rw [x1, x2]; exact ⟨rfl, rfl⟩
            · rw [x1, x2]
              simp only
              by_cases d2 : tK c i1 = 41
              · have a2 := (b_sg hB x3 (ch := 41) (by decide)).mpr d2
                have hlt2 := b_lt hB x3 (by have := sg_t a2; omega)
                simp only [d2, if_true, a2]
                exact Or.inr ⟨i1 + 1, τ1, A1, q, rfl, rfl, by omega, x4, x5⟩
              · left
                simp only [if_neg d2, if_neg (fun x => d2 ((b_sg hB x3 (by decide)).mp x)), and_self]
          · rw [if_neg d1, if_neg (fun x => d1 (b40.mp x))]
            by_cases d2 : tK c i = 91
            · rw [if_pos d2, if_pos (b91.mpr d2)]
              exact sF_rw hB hE gE hi d2 h h0
            · rw [if_neg d2, if_neg (fun x => d2 (b91.mp x))]
              by_cases d3 : tK c i = 123
              · rw [if_pos d3, if_pos (b123.mpr d3)]
                exact sF_each hB hE gE hi d3 h h0
              · left
                rw [if_neg d3, if_neg (fun x => d3 (b123.mp x))]
                exact ⟨rfl, rfl⟩
theorem sF_un (hB : tkB c t N) {w : Bool} {E U : pF} {E' U' : aF} (hE : sF c t N E E') (gE : gF E') (hU : sF c t N U U') (gU : gF U') : sF c t N (pUnL c w E U) (aUn t w E' U') := by
  intro i τ A hi h h0
  unfold pUnL pUn aUn
  have b35 := b_sg hB hi (ch := 35) (by decide)
  by_cases d : tK c i = 35
  · rw [if_pos d, if_pos (b35.mpr d)]
    cases w with
    | false => left; simp
    | true =>
      simp only [if_true]
      exact sF_sharp hB hU gU hi d h h0
  · rw [if_neg d, if_neg (fun x => d (b35.mp x))]
    exact sF_then (sF_atm hB hE gE) (fun l i τ A b hi h => by
      have := h.2.1
      exact sL_itL hB hE gE 201 (201 - A.1).toNat l i τ A b hi h (by omega) (by omega)) i τ A hi h h0
theorem sF_ex (hB : tkB c t N) {w : Bool} {E U : pF} {E' U' : aF} (hE : sF c t N E E') (gE : gF E') (hU : sF c t N U U') (gU : gF U') : sF c t N (pExpr c w E (pCmL c w E U)) (aEx t w E' U') := by
  intro i τ A hi h h0
  unfold pExpr aEx
  have bl := b_let hB hi
  have bi := b_if hB hi
  by_cases d1 : tK c i = 262
  · rw [if_pos d1, if_pos (bl.mpr d1)]
    cases w with
    | false => left; simp
    | true =>
      simp only [if_true]
      exact sF_let hB hE gE hi d1 h h0
  · rw [if_neg d1, if_neg (fun x => d1 (bl.mp x))]
    by_cases d2 : tK c i = 264
    · rw [if_pos d2, if_pos (bi.mpr d2)]
      cases w with
      | false => left; simp
      | true =>
        simp only [if_true]
        exact sF_if hB hE gE hi d2 h h0
    · rw [if_neg d2, if_neg (fun x => d2 (bi.mp x))]
      have g1 : gF (aUn t w E' U') := gF_un gE gU
      have s1 := sF_un hB (w := w) hE gE hU gU
      have s2 := sF_row hB s1 g1 (q_P hB)
      have g2 : gF (aRow t (aqP t) (aUn t w E' U')) := gF_row g1
      have s3 := sF_row hB s2 g2 (q_S hB)
      exact sF_cmp hB s3 (gF_row g2) i τ A hi h h0
theorem sF_n (c : tkC) (t : aK) (N : Nat) : sF c t N (fun _ _ => none) (fun _ _ => none) := fun _ _ _ _ _ _ => Or.inl ⟨rfl, rfl⟩
theorem sF_lv (hB : tkB c t N) : ∀ f, sF c t N (pLv c f).1 (aLv t f).1 ∧ sF c t N (pLv c f).2 (aLv t f).2
  | 0 => ⟨sF_ex hB (sF_n c t N) gF_n (sF_n c t N) gF_n, sF_un hB (sF_n c t N) gF_n (sF_n c t N) gF_n⟩
  | f + 1 => by
    obtain ⟨h1, h2⟩ := sF_lv hB f
    exact ⟨sF_ex hB h1 (gF_lv f).1 h2 (gF_lv f).2, sF_un hB h1 (gF_lv f).1 h2 (gF_lv f).2⟩
end LVL
