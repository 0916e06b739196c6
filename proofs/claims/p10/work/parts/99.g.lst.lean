/-! ITEMS, lists, WORDS, rows are read alike. -/
section LSG
variable {c : tkC} {t : aK} {N : Nat} {τ τ' : sg_S} {A A' : aT} {b n q l r : Int} {L R : List Int} {i : Nat} {K Pl W G U : Int}
def pIdx (c : tkC) (E : pF) (l : Int) (i : Nat) (τ : sg_S) : pO := match pCreate c i τ with
  | none => none
  | some (i1, τ1, k) => match E i1 τ1 with
    | none => none
    | some (i2, τ2, r) => if tK c i2 = 93 then some (i2 + 1, pBoth τ2 k l r, k) else none
theorem idx_ok (hB : tkB c t N) {S : pF} {S' : aF} (hS : sF c t N S S') (gS : gF S') (hkd : tK c i = 91) (hi : i < N) (h : cS τ A b [l]) : (pIdx c S l i τ = none ∧ aIdx t S' l i A = none) ∨ ∃ i' τ' A' q, pIdx c S l i τ = some (i', τ', q) ∧ aIdx t S' l i A = some (i', A', q) ∧ i' ≤ N ∧ cS τ' A' b [q] ∧ fB τ τ' b := by
  have h2 := h.2.1
  by_cases c200 : A.1 = 200
  · left
    unfold pIdx aIdx aMk
    rw [cr_no h.1 c200, if_pos c200]
    exact ⟨rfl, rfl⟩
  · obtain ⟨τ1, e1, b1, s1, f1⟩ := cr_ok (i := i) h (by omega) hB.1 12 (t.2.2 i) (t.2.1 i)
    have b2 := bS_A b1 (kid_o (aNew A 12 (t.2.2 i) (t.2.1 i)) A.1 l)
    unfold pIdx aIdx aMk
    rw [e1, if_neg c200]
    simp only
    rcases hS (i + 1) τ1 (aKid (aNew A 12 (t.2.2 i) (t.2.1 i)) A.1 l) (by omega) b2.1 (by simp only [aKid_1, aNew_1]; omega) with ⟨x1, x2⟩ | ⟨i', τ2, A2, r, x1, x2, x3, x4, x5⟩
    · left
      rw [x1, x2]
      exact ⟨rfl, rfl⟩
    · rw [x1, x2]
      simp only
      by_cases c93 : tK c i' = 93
      · have a93 := (b_sg hB x3 (ch := 93) (by decide)).mpr c93
        have hlt := b_lt hB x3 (by have := sg_t a93; omega)
        simp only [c93, if_true, a93]
        right
        have g2 := gS _ _ _ _ _ x2 (by simp only [aKid_1, aNew_1]; omega)
        have hn : A.1 < (aKid (aNew A 12 (t.2.2 i) (t.2.1 i)) A.1 l).1 := by simp only [aKid_1, aNew_1]; omega
        have b3 := bS_R (R' := [l, r]) (bS_E b2 x4 x5 g2.1) (List.Perm.swap _ _ _)
        have s3 := sN_f s1 x5 hn
        obtain ⟨b4, f4, w4, v4⟩ := bS_at (A' := A2) b3 ⟨rfl, fun k _ => ⟨rfl, rfl, rfl, rfl, rfl⟩⟩
        obtain ⟨b5, f5, w5, v5⟩ := bS_at (A' := aKid A2 A.1 r) b4 (kid_o A2 A.1 r)
        have s5 := sN_at (sN_at s3 w4 v4) w5 v5
        have kn := (g2.1.2 A.1 hn)
        have ekd : (aKid A2 A.1 r).2.1 A.1 = 12 := by simp only [aKid]; rw [kn.1]; simp only [aKid, aNew, aU_e]
        have epl : (aKid A2 A.1 r).2.2.1 A.1 = t.2.2 i := by simp only [aKid]; rw [kn.2.1]; simp only [aKid, aNew, aU_e]
        have eks : (aKid A2 A.1 r).2.2.2.2.1 A.1 = [] ++ [l] ++ [r] := by simp only [aKid, aU_e]; rw [kn.2.2.2.1]; simp only [aKid, aNew, aU_e, List.nil_append, List.cons_append]
        obtain ⟨cs, ff⟩ := fin_ok b5 s5 (by rw [ekd, hkd]; rfl) (by rw [epl]; exact ((hB.2.2.1.1 i (by omega)).2).symm) (fun q => by rw [ekd] at q; omega) (by rw [ekd]; omega) eks (sx_at (pAttach (pAttach τ2 A.1 l) A.1 r) 11 200 l)
        exact ⟨i' + 1, _, _, _, rfl, rfl, by omega, cs, fB_t (fB_t (fB_t (fB_t (fB_m f1 h2.2.1) (fB_m x5 (by simp only [aKid_1, aNew_1]; omega))) f4) f5) ff⟩
      · left
        have a93 : ¬ aSg t i' 93 = true := fun x => c93 ((b_sg hB x3 (by decide)).mp x)
        simp only [if_neg c93, if_neg a93, and_self]
theorem sL_itL (hB : tkB c t N) {w : Bool} {E : pF} {E' : aF} (hE : sF c t N E E') (gE : gF E') : ∀ (m m' : Nat) (l : Int) (i : Nat) (τ : sg_S) (A : aT) (b : Int), i ≤ N → cS τ A b [l] → (201 - A.1).toNat ≤ m → (201 - A.1).toNat ≤ m' → (pItL c w E m l i τ = none ∧ aBehL t w E' m' l i A = none) ∨ ∃ i' τ' A' q, pItL c w E m l i τ = some (i', τ', q) ∧ aBehL t w E' m' l i A = some (i', A', q) ∧ i' ≤ N ∧ cS τ' A' b [q] ∧ fB τ τ' b
  | 0, m', l, i, τ, A, b, hi, h, h1, h2 => by
    have := h.2.1
    omega
  | m + 1, 0, l, i, τ, A, b, hi, h, h1, h2 => by
    have := h.2.1
    omega
  | m + 1, m' + 1, l, i, τ, A, b, hi, h, h1, h2 => by
    have hA := h.2.1
    by_cases c91 : tK c i = 91
    · have a91 := (b_sg hB hi (ch := 91) (by decide)).mpr c91
      have hlt := b_lt hB hi (by have := sg_t a91; omega)
      cases w with
      | false =>
        left
        simp [pItL, aBehL, c91, a91]
      | true =>
        have key : pItL c true E (m + 1) l i τ = match pIdx c E l i τ with
            | none => none
            | some (i2, τ2, k) => pItL c true E m k i2 τ2 := by
          unfold pIdx
          simp only [pItL, c91, if_true]
          cases pCreate c i τ with
          | none => rfl
          | some x =>
            obtain ⟨i2, τ2, k⟩ := x
            simp only
            cases E i2 τ2 with
            | none => rfl
            | some y =>
              obtain ⟨i3, τ3, r⟩ := y
              simp only
              by_cases d : tK c i3 = 93
              · simp only [d, if_true]
              · simp only [if_neg d]
        rw [key]
        simp only [aBehL, a91, if_true]
        rcases idx_ok hB hE gE c91 hlt h with ⟨x1, x2⟩ | ⟨i2, τ2, A2, k, x1, x2, x3, x4, x5⟩
        · left
          rw [x1, x2]
          exact ⟨rfl, rfl⟩
        · rw [x1, x2]
          have g := gF_idx gE x2 (by omega)
          simp only
          rcases sL_itL hB hE gE m m' k i2 τ2 A2 b x3 x4 (by omega) (by omega) with y | ⟨i3, τ3, A3, q, y1, y2, y3, y4, y5⟩
          · exact Or.inl y
          · exact Or.inr ⟨i3, τ3, A3, q, y1, y2, y3, y4, fB_t x5 y5⟩
    · right
      have a91 : ¬ aSg t i 91 = true := fun x => c91 ((b_sg hB hi (by decide)).mp x)
      refine ⟨i, τ, A, l, by simp only [pItL, if_neg c91], by simp only [aBehL, if_neg a91], hi, h, fB_r _ _⟩
/-- a list of parts, up to its closing sign -/
theorem lst_ok (hB : tkB c t N) {E : pF} {E' : aF} (hE : sF c t N E E') (gE : gF E') {ch : Int} (hch : ch ≤ 255 ∧ ¬ ch = 44) : ∀ (m m' : Nat) (i : Nat) (τ : sg_S) (A : aT) (L : List Int), i ≤ N → bS τ A b n L R → sN τ n K Pl W G U → A.2.2.2.2.1 n = L → (201 - A.1).toNat ≤ m → (201 - A.1).toNat ≤ m' → ((pListL c E n m i τ = none ∨ ∃ i1 τ1, pListL c E n m i τ = some (i1, τ1) ∧ ¬ tK c i1 = ch) ∧ aLstL t E' n ch m' i A = none) ∨ ∃ i1 τ1 A1 L1, pListL c E n m i τ = some (i1, τ1) ∧ tK c i1 = ch ∧ i1 < N ∧ aLstL t E' n ch m' i A = some (i1 + 1, A1) ∧ bS τ1 A1 b n L1 R ∧ sN τ1 n K Pl W G U ∧ A1.2.2.2.2.1 n = L1 ∧ fB τ τ1 b ∧ (A1.2.1 n = A.2.1 n ∧ A1.2.2.1 n = A.2.2.1 n ∧ A1.2.2.2.1 n = A.2.2.2.1 n)
  | 0, m', i, τ, A, L, hi, h, hs, hL, h1, h2 => by
    have := h.2.1
    omega
  | m + 1, 0, i, τ, A, L, hi, h, hs, hL, h1, h2 => by
    have := h.2.1
    omega
  | m + 1, m' + 1, i, τ, A, L, hi, h, hs, hL, h1, h2 => by
    have hA := h.2.1
    simp only [pListL, aLstL]
    rcases ea_ok hE gE hi h hs with ⟨x1, x2⟩ | ⟨i1, τ1, A1, r, x1, x2, x3, -, b2, -, s2, -, f2, g2⟩
    · left
      rw [x1, x2]
      exact ⟨Or.inl rfl, rfl⟩
    rw [x1, x2]
    simp only
    have kn := g2.2 n hA.2.2.1
    have g5 := (gE _ _ _ _ _ x2 (by omega))
    have eks : (aKid A1 n r).2.2.2.2.1 n = L ++ [r] := by rw [kn_k, kn.2.2.2.1, hL]
    by_cases c44 : tK c i1 = 44
    · have a44 := (b_sg hB x3 (ch := 44) (by decide)).mpr c44
      have hlt := b_lt hB x3 (by have := sg_t a44; omega)
      simp only [c44, if_true, a44]
      have g6 := g5.1.1
      have hsz : A.1 < A1.1 := by omega
      rcases lst_ok hB hE gE hch m m' (i1 + 1) (pAttach τ1 n r) (aKid A1 n r) (L ++ [r]) (by omega) b2 s2 eks (by simp only [aKid_1]; omega) (by simp only [aKid_1]; omega) with y | ⟨i3, τ3, A3, L3, y1, y2, y3, y4, y5, y6, y7, y8, y9⟩
      · exact Or.inl y
      · refine Or.inr ⟨i3, τ3, A3, L3, y1, y2, y3, y4, y5, y6, y7, fB_t f2 y8, ?_⟩
        rw [y9.1, y9.2.1, y9.2.2]
        exact ⟨kn.1, kn.2.1, kn.2.2.1⟩
    · have a44 : ¬ aSg t i1 44 = true := fun x => c44 ((b_sg hB x3 (by decide)).mp x)
      simp only [if_neg c44, if_neg a44]
      by_cases cc : tK c i1 = ch
      · right
        have ac := (b_sg hB x3 (ch := ch) hch.1).mpr cc
        have hlt := b_lt hB x3 (by have := sg_t ac; omega)
        rw [if_pos ac]
        exact ⟨i1, _, _, _, rfl, cc, hlt, rfl, b2, s2, eks, f2, kn.1, kn.2.1, kn.2.2.1⟩
      · left
        have ac : ¬ aSg t i1 ch = true := fun x => cc ((b_sg hB x3 hch.1).mp x)
        rw [if_neg ac]
        exact ⟨Or.inr ⟨i1, _, rfl, cc⟩, rfl⟩
theorem sF_rw (hB : tkB c t N) {E : pF} {E' : aF} (hE : sF c t N E E') (gE : gF E') (hi : i ≤ N) (hk : tK c i = 91) (h : sg_g τ 2 16 = A.1) (h0 : 0 ≤ A.1 ∧ A.1 ≤ 200) : (pRw c E i τ = none ∧ aRw t E' i A = none) ∨ ∃ i' τ' A' q, pRw c E i τ = some (i', τ', q) ∧ aRw t E' i A = some (i', A', q) ∧ i' ≤ N ∧ cS τ' A' A.1 [q] ∧ fB τ τ' A.1 := by
  have hlt := b_lt hB hi (by have := (b_s hB hi).2.2.2.2.mpr (by omega); omega)
  unfold pRw aRw aMk
  by_cases c200 : A.1 = 200
  · left
    rw [cr_no h c200, if_pos c200]
    exact ⟨rfl, rfl⟩
  obtain ⟨τ1, e1, b1, s1, f1⟩ := cr_ok (i := i) (cS_0 h h0) (by omega) hB.1 14 (t.2.2 i) (t.2.1 i)
  rw [e1, if_neg c200]
  simp only
  have hkk : 0 ≤ A.1 ∧ A.1 < 200 := by omega
  rw [px_in hkk]
  have b1' : bS (sg_w τ1 3 A.1 279) (aNew A 14 (t.2.2 i) (t.2.1 i)) A.1 A.1 [] [] := by
    obtain ⟨q1, q2, q3, q4, q5, q6⟩ := b1
    refine ⟨by rw [sg_gw_c _ _ _ _ _ _ (by decide)]; exact q1, q2, ⟨by rw [sg_gw_c _ _ _ _ _ _ (by decide)]; exact q3.1, trivial, fun z hz => by simp at hz, by simp, fun x hx => by simp at hx⟩, fun k a0 a1 a2 => ?_, q5, q6⟩
    simp only [aNew_1] at a1
    omega
  have s1' : sN (sg_w τ1 3 A.1 279) A.1 279 (tPl c i) (sg_nl (tW c i)) 0 (-1) := ⟨by rw [sg_gw, if_pos ⟨rfl, rfl⟩]; rfl, by rw [sg_gw_c _ _ _ _ _ _ (by decide)]; exact s1.2.1, s1.2.2.1, by rw [sg_gw_c _ _ _ _ _ _ (by decide)]; exact s1.2.2.2.1, by rw [sg_gw_c _ _ _ _ _ _ (by decide)]; exact s1.2.2.2.2⟩
  have f1' : fB τ (sg_w τ1 3 A.1 279) A.1 := fB_w f1 (by decide) (Int.le_refl _)
  unfold aLst
  rcases lst_ok hB hE gE (ch := 93) (by omega) 201 (201 - (aNew A 14 (t.2.2 i) (t.2.1 i)).1).toNat (i + 1) _ _ [] (by omega) b1' s1' (by simp only [aNew, aU_e]) (by simp only [aNew_1]; omega) (Nat.le_refl _) with ⟨y1, y2⟩ | ⟨i3, τ3, A3, L3, y1, y2, y3, y4, y5, y6, y7, y8, y9⟩
  · left
    rw [y2]
    rcases y1 with y1 | ⟨i3, τ3, y1, y3⟩
    · rw [y1]; exact ⟨rfl, rfl⟩
    · rw [y1]
      simp only [if_neg y3, and_self]
  · right
    rw [y1, y4]
    simp only [y2, if_true]
    have ekd : A3.2.1 A.1 = 14 := by rw [y9.1]; simp only [aNew, aU_e]
    have epl : A3.2.2.1 A.1 = t.2.2 i := by rw [y9.2.1]; simp only [aNew, aU_e]
    obtain ⟨cs, ff⟩ := fin_ok y5 y6 (by rw [ekd]; rfl) (by rw [epl]; exact ((hB.2.2.1.1 i hi).2).symm) (fun q => by rw [ekd] at q; omega) (by rw [ekd]; omega) y7 A.1
    exact ⟨i3 + 1, _, _, _, rfl, rfl, by omega, cs, fB_t (fB_t f1' y8) ff⟩
end LSG
/-! WORDS are read alike. -/
section WRH
variable {c : tkC} {t : aK} {N : Nat} {τ τ' : sg_S} {A A' : aT} {b n q l r : Int} {L R : List Int} {i : Nat} {K Pl W G U : Int}
theorem arg_ok (hB : tkB c t N) {E : pF} {E' : aF} (hE : sF c t N E E') (gE : gF E') {j : Nat} (hj : j ≤ N) (h : bS τ A b n [] []) (hs : sN τ n K Pl W G U) (hks : A.2.2.2.2.1 n = []) (hK : K = kmp (A.2.1 n)) (hP : Pl = A.2.2.1 n) (hW : (A.2.1 n = 1 ∨ A.2.1 n = 2 ∨ A.2.1 n = 13) → W = uv (A.2.2.2.1 n)) (h15 : ¬ A.2.1 n = 15) : (pWordE c E n j τ = none ∧ aArgs t E' n j A = none) ∨ ∃ i' τ' A' q, pWordE c E n j τ = some (i', τ', q) ∧ aArgs t E' n j A = some (i', A', q) ∧ i' ≤ N ∧ cS τ' A' b [q] ∧ fB τ τ' b := by
  have h2 := h.2.1
  unfold pWordE aArgs
  by_cases c41 : tK c j = 41
  · have a41 := (b_sg hB hj (ch := 41) (by decide)).mpr c41
    have hlt := b_lt hB hj (by have := sg_t a41; omega)
    simp only [c41, if_true, a41]
    right
    obtain ⟨cs, ff⟩ := fin_ok h hs hK hP hW h15 hks n
    exact ⟨j + 1, _, _, _, rfl, rfl, by omega, cs, ff⟩
  · have a41 : ¬ aSg t j 41 = true := fun x => c41 ((b_sg hB hj (by decide)).mp x)
    simp only [if_neg c41, if_neg a41]
    unfold aLst
    rcases lst_ok hB hE gE (ch := 41) (by omega) 201 (201 - A.1).toNat j τ A [] hj h hs hks (by omega) (Nat.le_refl _) with ⟨y1, y2⟩ | ⟨i3, τ3, A3, L3, y1, y2, y3, y4, y5, y6, y7, y8, y9⟩
    · left
      rw [y2]
      rcases y1 with y1 | ⟨i3, τ3, y1, y3⟩
      · rw [y1]; exact ⟨rfl, rfl⟩
      · rw [y1]
        simp only [if_neg y3, and_self]
    · right
      rw [y1, y4]
      simp only [y2, if_true]
      obtain ⟨cs, ff⟩ := fin_ok y5 y6 (by rw [y9.1]; exact hK) (by rw [y9.2.1]; exact hP) (by rw [y9.1, y9.2.2]; exact hW) (by rw [y9.1]; exact h15) y7 n
      exact ⟨i3 + 1, _, _, _, rfl, rfl, by omega, cs, fB_t y8 ff⟩
theorem kmp_a {k : Int} (h : 267 ≤ k ∧ k ≤ 278) : kmp (k - 251) = k := by
  unfold kmp
  rw [if_neg (by omega), if_neg (by omega), if_neg (by omega), if_neg (by omega), if_neg (by omega), if_neg (by omega), if_neg (by omega), if_neg (by omega), if_neg (by omega), if_neg (by omega), if_neg (by omega), if_neg (by omega), if_neg (by omega), if_neg (by omega), if_neg (by omega), if_neg (by omega)]
  omega
theorem sF_wrd (hB : tkB c t N) {w : Bool} {E : pF} {E' : aF} (hE : sF c t N E E') (gE : gF E') (hi : i ≤ N) (hk : t.1 i = 2) (hr : tK c i = 258 ∨ 267 ≤ tK c i) (h : sg_g τ 2 16 = A.1) (h0 : 0 ≤ A.1 ∧ A.1 ≤ 200) : (pWord c w E i τ = none ∧ aWrd t w E' i A = none) ∨ ∃ i' τ' A' q, pWord c w E i τ = some (i', τ', q) ∧ aWrd t w E' i A = some (i', A', q) ∧ i' ≤ N ∧ cS τ' A' A.1 [q] ∧ fB τ τ' A.1 := by
  have hlt := b_lt hB hi (by omega)
  have hv := (b_s hB hi).2.2.1.mp hk
  have hKr := tK_r hB.1 i
  obtain ⟨ha, hb⟩ := b_act hB hi hk
  have hnm := b_nm hB hi
  have h40 := b_sg hB (i := i + 1) (ch := 40) (by omega) (by decide)
  have hp : tPl c i = t.2.2 i := ((hB.2.2.1.1 i hi).2).symm
  unfold pWord aWrd
  by_cases c200 : A.1 = 200
  · left
    rw [cr_no h c200]
    refine ⟨rfl, ?_⟩
    simp only [aMk, if_pos c200]
    split
    · split
      · split <;> rfl
      · rfl
    · rfl
  by_cases cn : tK c i = 258
  · -- a NAME
    rw [ha, if_neg (show ¬ (267 ≤ tK c i) by omega), if_pos rfl, if_pos (hnm.mpr cn)]
    by_cases cp : tK c (i + 1) = 40
    · have a40 := h40.mpr cp
      have hlt1 := b_lt hB (i := i + 1) (by omega) (by have := sg_t a40; omega)
      rw [if_pos a40]
      obtain ⟨τ1, e1, b1, s1, f1⟩ := cr_ok (i := i) (cS_0 h h0) (by omega) hB.1 13 (t.2.2 i) (t.2.1 i)
      rw [e1]
      simp only [aMk, if_neg c200, if_neg (show ¬ (tK c i = 258 ∧ ¬ tK c (i + 1) = 40) by omega), if_pos cp, if_pos cn]
      cases w with
      | false => left; exact ⟨rfl, rfl⟩
      | true =>
        simp only [if_true]
        have hkk : 0 ≤ A.1 ∧ A.1 < 200 := by omega
        rw [px_in hkk]
        have b1' : bS (sg_w τ1 3 A.1 280) (aNew A 13 (t.2.2 i) (t.2.1 i)) A.1 A.1 [] [] := by
          obtain ⟨q1, q2, q3, q4, q5, q6⟩ := b1
          refine ⟨by rw [sg_gw_c _ _ _ _ _ _ (by decide)]; exact q1, q2, ⟨by rw [sg_gw_c _ _ _ _ _ _ (by decide)]; exact q3.1, trivial, fun z hz => by simp at hz, by simp, fun x hx => by simp at hx⟩, fun k a0 a1 a2 => ?_, q5, q6⟩
          simp only [aNew_1] at a1
          omega
        have s1' : sN (sg_w τ1 3 A.1 280) A.1 280 (tPl c i) (tW c i) 0 (-1) := ⟨by rw [sg_gw, if_pos ⟨rfl, rfl⟩]; rfl, by rw [sg_gw_c _ _ _ _ _ _ (by decide)]; exact s1.2.1, by rw [sg_gw', s1.2.2.1]; exact tW_r hB hlt (Or.inl cn), by rw [sg_gw_c _ _ _ _ _ _ (by decide)]; exact s1.2.2.2.1, by rw [sg_gw_c _ _ _ _ _ _ (by decide)]; exact s1.2.2.2.2⟩
        have f1' : fB τ (sg_w τ1 3 A.1 280) A.1 := fB_w f1 (by decide) (Int.le_refl _)
        rcases arg_ok hB hE gE (j := i + 1 + 1) (by omega) b1' s1' (by simp only [aNew, aU_e]) (by simp only [aNew, aU_e]; rfl) (by simp only [aNew, aU_e]; exact hp) (fun _ => by simp only [aNew, aU_e]; exact (tok_u hB.1 hB.2.2.1 hlt (Or.inl cn)).symm) (by simp only [aNew, aU_e]; omega) with y | ⟨i3, τ3, A3, q, y1, y2, y3, y4, y5⟩
        · exact Or.inl y
        · exact Or.inr ⟨i3, τ3, A3, q, y1, y2, y3, y4, fB_t f1' y5⟩
    · rw [if_neg (fun x => cp (h40.mp x))]
      obtain ⟨τ1, e1, b1, s1, f1⟩ := cr_ok (i := i) (cS_0 h h0) (by omega) hB.1 1 (t.2.2 i) (t.2.1 i)
      rw [e1]
      simp only [aMk, if_neg c200, if_pos (show (tK c i = 258 ∧ ¬ tK c (i + 1) = 40) from ⟨cn, cp⟩)]
      right
      refine ⟨i + 1, τ1, _, _, rfl, rfl, by omega, bS_c b1 (cN_o b1 s1 (by simp only [aNew, aU_e]; rw [cn]; rfl) (by simp only [aNew, aU_e]; exact hp) (fun _ => ?_) (by simp only [aNew, aU_e]; omega) (by simp only [aNew, aU_e])) (fun x hx => by simp only [aNew, aU_e] at hx; exact hx), f1⟩
      simp only [aNew, aU_e]
      rw [tok_u hB.1 hB.2.2.1 hlt (Or.inl cn)]
      exact tW_r hB hlt (Or.inl cn)
  · -- a RESERVED WORD from iota on
    have hr2 : 267 ≤ tK c i := by omega
    rw [ha, if_pos hr2, if_neg (by omega)]
    obtain ⟨τ1, e1, b1, s1, f1⟩ := cr_ok (i := i) (cS_0 h h0) (by omega) hB.1 (tK c i - 251) (t.2.2 i) (t.2.1 i)
    rw [e1]
    simp only [aMk, if_neg c200, if_neg (show ¬ (tK c i = 258 ∧ ¬ tK c (i + 1) = 40) by omega), if_neg cn]
    by_cases cp : tK c (i + 1) = 40
    · have a40 := h40.mpr cp
      have hlt1 := b_lt hB (i := i + 1) (by omega) (by have := sg_t a40; omega)
      simp only [cp, if_true, a40]
      cases w with
      | false => left; exact ⟨rfl, rfl⟩
      | true =>
        simp only [if_true]
        rcases arg_ok hB hE gE (j := i + 1 + 1) (by omega) b1 s1 (by simp only [aNew, aU_e]) (by simp only [aNew, aU_e]; exact (kmp_a (by omega)).symm) (by simp only [aNew, aU_e]; exact hp) (fun q => by simp only [aNew, aU_e] at q; omega) (by simp only [aNew, aU_e]; omega) with y | ⟨i3, τ3, A3, q, y1, y2, y3, y4, y5⟩
        · exact Or.inl y
        · exact Or.inr ⟨i3, τ3, A3, q, y1, y2, y3, y4, fB_t f1 y5⟩
    · left
      simp only [if_neg cp, if_neg (fun x => cp (h40.mp x)), and_self]
end WRH
/-! { } are read alike. -/
section EAC
variable {c : tkC} {t : aK} {N : Nat} {τ τ' : sg_S} {A A' : aT} {b n q l r : Int} {L R : List Int} {i : Nat} {K Pl W G U : Int}
/-- the name and the place of a GEN stand at its sequence -/
theorem bS_g (h : bS τ A b n L (r :: R)) (w p : Int) : bS (sg_w (sg_wl τ 18 r w) 15 r p) A b n L (r :: R) ∧ fB τ (sg_w (sg_wl τ 18 r w) 15 r p) b := by
  obtain ⟨h1, h2, h3, h4, h5, h6⟩ := h
  have hr := h6 r (by simp)
  have e : ∀ (a : Nat) (j : Int), ¬ (a = 15 ∧ j = r) → sg_g (sg_w (sg_wl τ 18 r w) 15 r p) a j = sg_g τ a j := fun a j q => by rw [sg_gw, if_neg q, sg_gwl']
  have el : ∀ (a : Nat) (j : Int), ¬ (a = 18 ∧ j = r) → sg_gl (sg_w (sg_wl τ 18 r w) 15 r p) a j = sg_gl τ a j := fun a j q => by rw [sg_gw', sg_gwl, if_neg q]
  refine ⟨⟨by rw [e 2 16 (by omega)]; exact h1, h2, oN_e h3 (e 10 n (by omega)) (e 7 n (by omega)) (e 8 n (by omega)) (fun x _ => e 9 x (by omega)), fun k a0 a1 a2 => ⟨cN_x (h4 k a0 a1 a2).1 ⟨rfl, rfl, rfl, rfl, rfl⟩ (fun a ha => e a k (by omega)) (el 17 k (by omega)) (fun x hx => ?_), (h4 k a0 a1 a2).2⟩, h5, h6⟩, fB_w (fB_wl (fB_r _ _) (by decide) hr.1.1) (by decide) hr.1.1⟩
  have hx2 : ¬ x = r := fun q => ((h4 k a0 a1 a2).2 x hx).2.1 (by simp [q])
  exact ⟨e 9 x (by omega), e 15 x (by omega), el 18 x (by omega)⟩
/-- a row of the open node's own -/
theorem bS_o (h : bS τ A b n L R) {a0 : Nat} (ha : a0 = 13 ∨ a0 = 14) (v : Int) : bS (sg_w τ a0 n v) A b n L R ∧ fB τ (sg_w τ a0 n v) b := by
  obtain ⟨h1, h2, h3, h4, h5, h6⟩ := h
  have e : ∀ (a : Nat) (j : Int), ¬ (a = a0 ∧ j = n) → sg_g (sg_w τ a0 n v) a j = sg_g τ a j := fun a j q => by rw [sg_gw, if_neg q]
  refine ⟨⟨by rw [e 2 16 (by omega)]; exact h1, h2, oN_e h3 (e 10 n (by omega)) (e 7 n (by omega)) (e 8 n (by omega)) (fun x _ => e 9 x (by omega)), fun k b0 b1 b2 => ⟨cN_x (h4 k b0 b1 b2).1 ⟨rfl, rfl, rfl, rfl, rfl⟩ (fun a ha => e a k (by omega)) rfl (fun x hx => ⟨e 9 x (by omega), e 15 x (by omega), rfl⟩), (h4 k b0 b1 b2).2⟩, h5, h6⟩, fB_w (fB_r _ _) (by omega) h2.2.1⟩
/-- the GENS so far: their names and places at their sequences -/
def gN (τ : sg_S) (L : List Int) (Gs : List (Int × Int)) : Prop := L.length = Gs.length ∧ ∀ (j : Nat) (x : Int × Int) (y : Int), Gs[j]? = some x → L[j]? = some y → sg_gl τ 18 y = uv x.1 ∧ sg_g τ 15 y = x.2
theorem gN_e {Gs : List (Int × Int)} (h : gN τ L Gs) (e : ∀ y ∈ L, sg_gl τ' 18 y = sg_gl τ 18 y ∧ sg_g τ' 15 y = sg_g τ 15 y) : gN τ' L Gs := ⟨h.1, fun j x y hx hy => by
  have hm := List.mem_of_getElem? hy
  rw [(e y hm).1, (e y hm).2]
  exact h.2 j x y hx hy⟩
theorem gen_ok (hB : tkB c t N) {E : pF} {E' : aF} (hE : sF c t N E E') (gE : gF E') {body : Int} : ∀ (m : Nat) (i : Nat) (τ : sg_S) (A : aT) (L : List Int) (Gs : List (Int × Int)), i ≤ N → bS τ A b n L [body] → sN τ n K Pl W Gs.length U → A.2.2.2.2.1 n = body :: L → A.2.2.2.2.2 n = Gs → gN τ L Gs → Gs.length + m = 4 → (pGenL c E n (m + 1) i τ = none ∧ aGenL t E' n m i A = none) ∨ ∃ i1 τ1 A1 L1 Gs1, pGenL c E n (m + 1) i τ = some (i1, τ1) ∧ aGenL t E' n m i A = some (i1, A1) ∧ i1 ≤ N ∧ bS τ1 A1 b n L1 [body] ∧ sN τ1 n K Pl W Gs1.length U ∧ A1.2.2.2.2.1 n = body :: L1 ∧ A1.2.2.2.2.2 n = Gs1 ∧ gN τ1 L1 Gs1 ∧ fB τ τ1 b ∧ (A1.2.1 n = A.2.1 n ∧ A1.2.2.1 n = A.2.2.1 n)
  | 0, i, τ, A, L, Gs, hi, h, hs, hL, hG, hg, hm => by
    left
    simp [pGenL, aGenL]
  | m + 1, i, τ, A, L, Gs, hi, h, hs, hL, hG, hg, hm => by
    have hA := h.2.1
    by_cases c1 : tK c i = 258
    · have a1 := (b_nm hB hi).mpr c1
      have hlt := b_lt hB hi (by have := nm_t a1; omega)
      by_cases c2 : tK c (i + 1) = 263
      · have a2 := (b_in hB (i := i + 1) (by omega)).mpr c2
        have hlt2 := b_lt hB (i := i + 1) (by omega) (by have := wo_t a2; omega)
        have key : pGenL c E n (m + 1 + 1) i τ = match E (i + 1 + 1) τ with
            | none => none
            | some (i1, τ1, r) => if tK c i1 = 44 then pGenL c E n (m + 1) (i1 + 1) (sx_put (pAttach (sx_put (sx_putl τ1 18 200 r (tW c i)) 15 200 r (tPl c i)) n r) 13 200 n (5 - ((m + 1 : Nat) : Int))) else some (i1, sx_put (pAttach (sx_put (sx_putl τ1 18 200 r (tW c i)) 15 200 r (tPl c i)) n r) 13 200 n (5 - ((m + 1 : Nat) : Int))) := by
          rw [pGenL]
          rw [if_pos ⟨c1, by omega⟩, if_pos c2]
          rfl
        rw [key]
        simp only [aGenL, a1, a2, if_true]
        have hA' : (aGn A n (t.2.1 i) (t.2.2 i)).1 = A.1 ∧ ∀ k, ¬ k = n → (aGn A n (t.2.1 i) (t.2.2 i)).2.1 k = A.2.1 k ∧ (aGn A n (t.2.1 i) (t.2.2 i)).2.2.1 k = A.2.2.1 k ∧ (aGn A n (t.2.1 i) (t.2.2 i)).2.2.2.1 k = A.2.2.2.1 k ∧ (aGn A n (t.2.1 i) (t.2.2 i)).2.2.2.2.1 k = A.2.2.2.2.1 k ∧ (aGn A n (t.2.1 i) (t.2.2 i)).2.2.2.2.2 k = A.2.2.2.2.2 k := ⟨rfl, fun k hk => by simp only [aGn, aU_n _ _ hk, and_self]⟩
        have h' := bS_A h hA'
        rcases hE (i + 1 + 1) τ (aGn A n (t.2.1 i) (t.2.2 i)) (by omega) h'.1 (by simp only [aGn_1]; omega) with ⟨x1, x2⟩ | ⟨i1, τ1, A1, r, x1, x2, x3, x4, x5⟩
        · left
          rw [show i + 1 + 1 = i + 2 by omega] at x1 x2
          rw [show i + 1 + 1 = i + 2 by omega, x1, x2]
          exact ⟨rfl, rfl⟩
        rw [show i + 1 + 1 = i + 2 by omega] at x1 x2
        rw [show i + 1 + 1 = i + 2 by omega, x1, x2]
        simp only
        have g := gE _ _ _ _ _ x2 (by simp only [aGn_1]; omega)
        have g1 := g.1.1
        simp only [aGn_1] at g1
        have b1 := bS_E h' x4 x5 g.1
        have s1 := sN_f hs x5 (by simp only [aGn_1]; omega)
        have hr0 := b1.2.2.2.2.2 r (by simp)
        have hr : 0 ≤ r ∧ r < 200 := by have := b1.2.1; omega
        have hkk : 0 ≤ n ∧ n < 200 := by omega
        rw [px_in hkk, px_in hr, plx_in hr]
        obtain ⟨b2, f2⟩ := bS_g b1 (tW c i) (tPl c i)
        obtain ⟨b3, f3, w3, v3⟩ := bS_at (A' := aKid A1 n r) b2 (kid_o A1 n r)
        obtain ⟨b4, f4⟩ := bS_o b3 (a0 := 13) (Or.inl rfl) (5 - ((m + 1 : Nat) : Int))
        have kn := g.1.2 n (by simp only [aGn_1]; omega)
        have hpr := tPl_r hB.1 i
        have hc2 := hB.1.2.1
        have e5 : (5 : Int) - ((m + 1 : Nat) : Int) = ((Gs ++ [(t.2.1 i, t.2.2 i)]).length : Nat) := by simp; omega
        have s4 : sN (sg_w (pAttach (sg_w (sg_wl τ1 18 r (tW c i)) 15 r (tPl c i)) n r) 13 n (5 - ((m + 1 : Nat) : Int))) n K Pl W (Gs ++ [(t.2.1 i, t.2.2 i)]).length U := by
          obtain ⟨q1, q2, q3, q4, q5⟩ := s1
          refine ⟨?_, ?_, ?_, ?_, ?_⟩
          · rw [sg_gw_c _ _ _ _ _ _ (by decide), w3 3 n (by omega), sg_gw_c _ _ _ _ _ _ (by decide), sg_gwl']; exact q1
          · rw [sg_gw_c _ _ _ _ _ _ (by decide), w3 4 n (by omega), sg_gw_c _ _ _ _ _ _ (by decide), sg_gwl']; exact q2
          · rw [sg_gw', v3, sg_gw', sg_gwl_c _ _ _ _ _ _ (by decide)]; exact q3
          · rw [sg_gw, if_pos ⟨rfl, rfl⟩, sg_id ⟨by omega, by omega⟩]; exact e5
          · rw [sg_gw_c _ _ _ _ _ _ (by decide), w3 14 n (by omega), sg_gw_c _ _ _ _ _ _ (by decide), sg_gwl']; exact q5
        have eks : (aKid A1 n r).2.2.2.2.1 n = body :: (L ++ [r]) := by rw [kn_k, kn.2.2.2.1]; simp only [aGn]; rw [hL]; rfl
        have egs : (aKid A1 n r).2.2.2.2.2 n = Gs ++ [(t.2.1 i, t.2.2 i)] := by simp only [aKid]; rw [kn.2.2.2.2]; simp only [aGn, aU_e]; rw [hG]
        have hrL : r ∉ L := fun hc => by
          have := b1.2.2.2.2.1
          rw [List.nodup_append] at this
          exact this.2.2 r hc r (by simp) rfl
        have gn : gN (sg_w (pAttach (sg_w (sg_wl τ1 18 r (tW c i)) 15 r (tPl c i)) n r) 13 n (5 - ((m + 1 : Nat) : Int))) (L ++ [r]) (Gs ++ [(t.2.1 i, t.2.2 i)]) := by
          refine ⟨by simp [hg.1], fun j x y hx hy => ?_⟩
          rw [sg_gw', v3, sg_gw_c _ _ _ _ _ _ (by decide), w3 15 y (by omega), sg_gw', sg_gwl, sg_gw, sg_gwl']
          by_cases ej : j = L.length
          · subst ej
            rw [List.getElem?_append_right (Nat.le_refl _)] at hy
            rw [hg.1, List.getElem?_append_right (Nat.le_refl _)] at hx
            simp at hx hy
            subst hy
            rw [← hx, if_pos ⟨rfl, rfl⟩, if_pos ⟨rfl, rfl⟩, tW_r hB hlt (Or.inl c1), sg_id ⟨by omega, by omega⟩]
            exact ⟨(tok_u hB.1 hB.2.2.1 hlt (Or.inl c1)).symm, ((hB.2.2.1.1 i hi).2).symm⟩
          · have hjl : j < L.length := by
              have := (List.getElem?_eq_some_iff.mp hy).1
              simp at this
              omega
            rw [List.getElem?_append_left hjl] at hy
            rw [List.getElem?_append_left (by rw [← hg.1]; exact hjl)] at hx
            have hm2 := List.mem_of_getElem? hy
            have hyr : ¬ y = r := fun e => hrL (e ▸ hm2)
            have hyA := (h.2.2.2.2.2 y (by simp [hm2])).1
            rw [if_neg (fun e => hyr e.2), if_neg (fun e => hyr e.2), (x5.1 18 y (by omega) (by simp only [aGn_1]; omega)).2, (x5.1 15 y (by omega) (by simp only [aGn_1]; omega)).1]
            exact hg.2 j x y hx hy
        have ff : fB τ (sg_w (pAttach (sg_w (sg_wl τ1 18 r (tW c i)) 15 r (tPl c i)) n r) 13 n (5 - ((m + 1 : Nat) : Int))) b := fB_t (fB_t (fB_t (fB_m x5 (by simp only [aGn_1]; omega)) f2) f3) f4
        have ck : (aKid A1 n r).2.1 n = A.2.1 n ∧ (aKid A1 n r).2.2.1 n = A.2.2.1 n := ⟨by simp only [aKid]; rw [kn.1]; rfl, by simp only [aKid]; rw [kn.2.1]; rfl⟩
        have hcnt : ((aKid A1 n r).2.2.2.2.1 n).length = 1 + ((aKid A1 n r).2.2.2.2.2 n).length := by
          rw [eks, egs]
          simp only [List.length_cons, List.length_append, List.length_nil]
          have := hg.1
          omega
        by_cases c44 : tK c i1 = 44
        · have a44 := (b_sg hB x3 (ch := 44) (by decide)).mpr c44
          have hlt3 := b_lt hB x3 (by have := sg_t a44; omega)
          simp only [if_pos c44, if_pos (And.intro a44 hcnt)]
          rcases gen_ok hB hE gE m (i1 + 1) _ _ (L ++ [r]) (Gs ++ [(t.2.1 i, t.2.2 i)]) (by omega) b4 s4 eks egs gn (by simp only [List.length_append, List.length_cons, List.length_nil]; omega) with y | ⟨i3, τ3, A3, L3, Gs3, y1, y2, y3, y4, y5, y6, y7, y8, y9, y10⟩
          · exact Or.inl y
          · refine Or.inr ⟨i3, τ3, A3, L3, Gs3, y1, y2, y3, y4, y5, y6, y7, y8, fB_t ff y9, ?_⟩
            rw [y10.1, y10.2]
            exact ck
        · have a44 : ¬ aSg t i1 44 = true := fun x => c44 ((b_sg hB x3 (by decide)).mp x)
          simp only [if_neg c44, if_neg (show ¬ (aSg t i1 44 = true ∧ ((aKid A1 n r).2.2.2.2.1 n).length = 1 + ((aKid A1 n r).2.2.2.2.2 n).length) from fun x => a44 x.1)]
          exact Or.inr ⟨i1, _, _, _, _, rfl, rfl, x3, b4, s4, eks, egs, gn, ff, ck⟩
      · left
        have a2 : ¬ aWo t (i + 1) 374 = true := fun x => c2 ((b_in hB (by omega)).mp x)
        simp only [pGenL, aGenL, a1, c1, if_neg c2, if_neg a2, if_true]
        refine ⟨?_, trivial⟩
        split <;> rfl
    · left
      have a1 : ¬ aNm t i = true := fun x => c1 ((b_nm hB hi).mp x)
      simp only [pGenL, aGenL, if_neg a1, and_true]
      rw [if_neg (fun x => c1 x.1)]
end EAC
/-! All EXPRS are read alike. -/
section LVL
variable {c : tkC} {t : aK} {N : Nat} {τ τ' : sg_S} {A A' : aT} {b n q l r : Int} {L R : List Int} {i : Nat} {K Pl W G U : Int}
/-- a { } is closed behind its } -/
theorem each_fin (hB : tkB c t N) {L1 : List Int} {Gs : List (Int × Int)} {body : Int} (hi : i ≤ N) (h : bS τ A b n L1 [body]) (hs : sN τ n 123 (A.2.2.1 n) W Gs.length U) (h15 : A.2.1 n = 15) (hL : A.2.2.2.2.1 n = body :: L1) (hG : A.2.2.2.2.2 n = Gs) (hU : U = if (body :: L1).length = 2 + Gs.length then (body :: L1).getLast?.getD (-1) else -1) (hg : ∀ (j : Nat) (x : Int × Int) (y : Int), Gs[j]? = some x → L1[j]? = some y → sg_gl τ 18 y = uv x.1 ∧ sg_g τ 15 y = x.2) : (pEachE c n body i τ = none ∧ aEnd t n i A = none) ∨ ∃ i' τ' A' q, pEachE c n body i τ = some (i', τ', q) ∧ aEnd t n i A = some (i', A', q) ∧ i' ≤ N ∧ cS τ' A' b [q] ∧ fB τ τ' b := by
  have h2 := h.2.1
  unfold pEachE aEnd
  by_cases c1 : tK c i = 125
  · have a1 := (b_sg hB hi (ch := 125) (by decide)).mpr c1
    have hlt := b_lt hB hi (by have := sg_t a1; omega)
    simp only [c1, if_true, a1]
    right
    obtain ⟨b2, f2, w2, v2⟩ := bS_at (A' := A) h ⟨rfl, fun k _ => ⟨rfl, rfl, rfl, rfl, rfl⟩⟩
    have s2 := sN_at hs w2 v2
    obtain ⟨b3, s3, f3⟩ := cl_c (m := n) ⟨by omega, by omega⟩ b2 s2
    have hp : pts A n = L1 ++ [body] := by unfold pts; rw [if_pos h15, hL]; rfl
    have hcn : cN (pClose (pAttach τ n body) n n) A n := by
      obtain ⟨q1, q2, q3, q4, q5⟩ := s3
      refine ⟨by rw [h15]; exact q1, q2, fun q => by rw [h15] at q; omega, by rw [hp]; exact b3.2.2.1, fun _ => ?_⟩
      rw [hL, hG]
      refine ⟨q4, q5.trans hU, fun j x y hx hy => ?_⟩
      have hy2 : L1[j]? = some y := by
        rw [Nat.add_comm] at hy
        simpa using hy
      have e1 : sg_gl (pClose (pAttach τ n body) n n) 18 y = sg_gl τ 18 y := by
        unfold pClose
        rw [px_in ⟨by omega, by omega⟩, px_in ⟨by omega, by omega⟩, sg_gw', sg_gw', v2]
      have e2 : sg_g (pClose (pAttach τ n body) n n) 15 y = sg_g τ 15 y := by
        unfold pClose
        rw [px_in ⟨by omega, by omega⟩, px_in ⟨by omega, by omega⟩, sg_gw_c _ _ _ _ _ _ (by decide), sg_gw_c _ _ _ _ _ _ (by decide), w2 15 y (by omega)]
      rw [e1, e2]
      exact hg j x y hx hy2
    exact ⟨i + 1, _, _, _, rfl, rfl, by omega, bS_c b3 hcn (fun x hx => by rw [hL] at hx; simp at hx ⊢; exact hx.symm), fB_t f2 f3⟩
  · left
    have a1 : ¬ aSg t i 125 = true := fun x => c1 ((b_sg hB hi (by decide)).mp x)
    simp only [if_neg c1, if_neg a1, and_self]
theorem sF_each (hB : tkB c t N) {E : pF} {E' : aF} (hE : sF c t N E E') (gE : gF E') (hi : i ≤ N) (hk : tK c i = 123) (h : sg_g τ 2 16 = A.1) (h0 : 0 ≤ A.1 ∧ A.1 ≤ 200) : (pEach c E i τ = none ∧ aEach t E' i A = none) ∨ ∃ i' τ' A' q, pEach c E i τ = some (i', τ', q) ∧ aEach t E' i A = some (i', A', q) ∧ i' ≤ N ∧ cS τ' A' A.1 [q] ∧ fB τ τ' A.1 := by
  have hlt := b_lt hB hi (by have := (b_s hB hi).2.2.2.2.mpr (by omega); omega)
  unfold pEach aEach aMk
  by_cases c200 : A.1 = 200
  · left
    rw [cr_no h c200, if_pos c200]
    exact ⟨rfl, rfl⟩
  obtain ⟨τ1, e1, b1, s1, f1⟩ := cr_ok (i := i) (cS_0 h h0) (by omega) hB.1 15 (t.2.2 i) (t.2.1 i)
  rw [e1, if_neg c200]
  simp only
  rcases ea_ok hE gE (i := i + 1) (by omega) b1 s1 with ⟨x1, x2⟩ | ⟨i2, τ2, A2, body, x1, x2, x3, b2, -, s2, -, f2, -, g2⟩
  · left; rw [x1, x2]; exact ⟨rfl, rfl⟩
  rw [x1, x2]
  simp only
  have hn1 : A.1 < (aNew A 15 (t.2.2 i) (t.2.1 i)).1 := by simp only [aNew_1]; omega
  have k2 := g2.2 A.1 hn1
  by_cases c58 : tK c i2 = 58
  · have a58 := (b_sg hB x3 (ch := 58) (by decide)).mpr c58
    have hlt2 := b_lt hB x3 (by have := sg_t a58; omega)
    simp only [c58, if_true, a58]
    have b2' := bS_A b2 (kid_o A2 A.1 body)
    have ek0 : (aKid A2 A.1 body).2.2.2.2.1 A.1 = [body] := by rw [kn_k, k2.2.2.2.1]; simp only [aNew, aU_e, List.nil_append]
    have eg0 : (aKid A2 A.1 body).2.2.2.2.2 A.1 = [] := by simp only [aKid]; rw [k2.2.2.2.2]; simp only [aNew, aU_e]
    have ekd0 : (aKid A2 A.1 body).2.1 A.1 = 15 ∧ (aKid A2 A.1 body).2.2.1 A.1 = t.2.2 i := ⟨by simp only [aKid]; rw [k2.1]; simp only [aNew, aU_e], by simp only [aKid]; rw [k2.2.1]; simp only [aNew, aU_e]⟩
    unfold aGens
    rw [eg0]
    rcases gen_ok hB hE gE 4 (i2 + 1) τ2 (aKid A2 A.1 body) [] [] (by omega) b2' s2 ek0 eg0 ⟨rfl, fun j x y hx hy => by simp at hx⟩ rfl with ⟨y1, y2⟩ | ⟨i3, τ3, A3, L3, Gs3, y1, y2, y3, y4, y5, y6, y7, y8, y9, y10⟩
    · left
      rw [y1]
      simp only [List.length_nil, Nat.sub_zero, y2, and_self]
    · rw [y1]
      simp only [List.length_nil, Nat.sub_zero, y2]
      have ekd3 : A3.2.1 A.1 = 15 := y10.1.trans ekd0.1
      have epl3 : A3.2.2.1 A.1 = tPl c i := (y10.2.trans ekd0.2).trans (hB.2.2.1.1 i hi).2
      have s3 : sN τ3 A.1 123 (A3.2.2.1 A.1) (sg_nl (tW c i)) Gs3.length (-1) := by rw [epl3, ← hk]; exact y5
      have hA3 := y4.2.1
      unfold aGrd
      by_cases c124 : tK c i3 = 124
      · have a124 := (b_sg hB y3 (ch := 124) (by decide)).mpr c124
        have hlt3 := b_lt hB y3 (by have := sg_t a124; omega)
        simp only [c124, if_true, a124]
        rcases ea_ok hE gE (i := i3 + 1) (by omega) y4 s3 with ⟨z1, z2⟩ | ⟨i4, τ4, A4, g, z1, z2, z3, b4, b5, s4, s5, f4, f5, g4⟩
        · left; rw [z1, z2]; exact ⟨rfl, rfl⟩
        rw [z1, z2]
        simp only
        have k4 := g4.2 A.1 hA3.2.2.1
        have hgr := b4.2.2.2.2.2 g (by simp)
        have hA4 := b4.2.1
        have hkk : 0 ≤ A.1 ∧ A.1 < 200 := by omega
        rw [px_in hkk]
        obtain ⟨b6, f6⟩ := bS_o b5 (a0 := 14) (Or.inr rfl) g
        have ek6 : (aKid A4 A.1 g).2.2.2.2.1 A.1 = body :: (L3 ++ [g]) := by rw [kn_k, k4.2.2.2.1, y6]; rfl
        have eg6 : (aKid A4 A.1 g).2.2.2.2.2 A.1 = Gs3 := by simp only [aKid]; rw [k4.2.2.2.2, y7]
        have ekd6 : (aKid A4 A.1 g).2.1 A.1 = 15 := by simp only [aKid]; rw [k4.1, ekd3]
        have epl6 : (aKid A4 A.1 g).2.2.1 A.1 = A3.2.2.1 A.1 := by simp only [aKid]; rw [k4.2.1]
        have s6 : sN (sg_w (pAttach τ4 A.1 g) 14 A.1 g) A.1 123 ((aKid A4 A.1 g).2.2.1 A.1) (sg_nl (tW c i)) Gs3.length g := by
          obtain ⟨q1, q2, q3, q4, q5⟩ := s5
          rw [epl6]
          exact ⟨by rw [sg_gw_c _ _ _ _ _ _ (by decide)]; exact q1, by rw [sg_gw_c _ _ _ _ _ _ (by decide)]; exact q2, q3, by rw [sg_gw_c _ _ _ _ _ _ (by decide)]; exact q4, by rw [sg_gw, if_pos ⟨rfl, rfl⟩, sg_id ⟨by omega, by omega⟩]⟩
        have hlen := y8.1
        rcases each_fin hB z3 b6 s6 ekd6 ek6 eg6 (by rw [if_pos (show (body :: (L3 ++ [g])).length = 2 + Gs3.length by simp only [List.length_cons, List.length_append, List.length_nil]; omega), ← List.cons_append, List.getLast?_concat]; rfl) (fun j x y hx hy => by
            have hjl : j < L3.length := by
              have := (List.getElem?_eq_some_iff.mp hx).1
              omega
            rw [List.getElem?_append_left hjl] at hy
            have hm2 := List.mem_of_getElem? hy
            have hyA := (y4.2.2.2.2.2 y (by simp [hm2])).1
            obtain ⟨b5', f5', w5, v5⟩ := bS_at (A' := aKid A4 A.1 g) b4 (kid_o A4 A.1 g)
            have hE4 := hE (i3 + 1) τ3 A3 (by omega) y4.1 (by omega)
            rcases hE4 with ⟨u1, u2⟩ | ⟨i9, τ9, A9, q9, u1, u2, u3, u4, u5⟩
            · rw [u1] at z1; cases z1
            · rw [u1] at z1
              cases z1
              rw [sg_gw', sg_gw_c _ _ _ _ _ _ (by decide), v5, w5 15 y (by omega), (u5.1 18 y (by omega) hyA.2).2, (u5.1 15 y (by omega) hyA.2).1]
              exact y8.2 j x y hx hy) with ⟨v1, v2⟩ | ⟨i5, τ5, A5, q5, v1, v2, v3, v4, v5⟩
        · left
          rw [v1, v2]
          exact ⟨rfl, rfl⟩
        · right
          rw [v1, v2]
          exact ⟨i5, τ5, A5, q5, rfl, rfl, v3, v4, fB_t (fB_t (fB_t (fB_t (fB_t f1 f2) y9) f5) f6) v5⟩
      · have a124 : ¬ aSg t i3 124 = true := fun x => c124 ((b_sg hB y3 (by decide)).mp x)
        simp only [if_neg c124, if_neg a124]
        have hlen := y8.1
        rcases each_fin hB y3 y4 s3 ekd3 y6 y7 (by rw [if_neg (show ¬ ((body :: L3).length = 2 + Gs3.length) by simp only [List.length_cons]; omega)]) y8.2 with ⟨v1, v2⟩ | ⟨i5, τ5, A5, q5, v1, v2, v3, v4, v5⟩
        · left
          rw [v1, v2]
          exact ⟨rfl, rfl⟩
        · right
          rw [v1, v2]
          exact ⟨i5, τ5, A5, q5, rfl, rfl, v3, v4, fB_t (fB_t (fB_t f1 f2) y9) v5⟩
  · left
    have a58 : ¬ aSg t i2 58 = true := fun x => c58 ((b_sg hB x3 (by decide)).mp x)
    simp only [if_neg c58, if_neg a58, and_self]
theorem sF_atm (hB : tkB c t N) {w : Bool} {E : pF} {E' : aF} (hE : sF c t N E E') (gE : gF E') : sF c t N (pAtom c w E) (aAtm t w E') := by
  intro i τ A hi h h0
  have hs := b_s hB hi
  unfold pAtom aAtm
  by_cases c1 : tK c i = 257
  · have a1 := hs.2.1.mpr c1
    have hlt := b_lt hB hi (by omega)
    rw [if_pos c1, if_pos a1]
    by_cases c200 : A.1 = 200
    · left
      simp only [cr_no h c200, aMk, if_pos c200, and_self]
    · obtain ⟨τ1, e1, b1, s1, f1⟩ := cr_ok (i := i) (cS_0 h h0) (by omega) hB.1 0 (t.2.2 i) (t.2.1 i)
      right
      refine ⟨i + 1, τ1, aNew A 0 (t.2.2 i) (t.2.1 i), A.1, e1, by simp only [aMk, if_neg c200], by omega, bS_c b1 (cN_o b1 s1 (by simp only [aNew, aU_e]; rw [c1]; rfl) (by simp only [aNew, aU_e]; exact ((hB.2.2.1.1 i hi).2).symm) (fun q => by simp only [aNew, aU_e] at q; omega) (by simp only [aNew, aU_e]; omega) (by simp only [aNew, aU_e])) (fun x hx => by simp only [aNew, aU_e] at hx; exact hx), f1⟩
  · rw [if_neg c1, if_neg (fun x => c1 (hs.2.1.mp x))]
    by_cases c2 : tK c i = 258 ∨ 267 ≤ tK c i ∧ tK c i ≤ 278
    · have a2 := hs.2.2.1.mpr (by omega)
      rw [if_pos c2, if_pos a2]
      exact sF_wrd hB hE gE hi a2 (by omega) h h0
    · rw [if_neg c2]
      have hKr := tK_r hB.1 i
      by_cases a2 : t.1 i = 2
      · -- def, let, in, if, then, else
        rw [if_pos a2]
        left
        have hv := hs.2.2.1.mp a2
        have hnn : ¬ tK c i = 40 ∧ ¬ tK c i = 91 ∧ ¬ tK c i = 123 := by omega
        refine ⟨?_, ?_⟩
        · split
          · simp only [if_neg hnn.1, if_neg hnn.2.1, if_neg hnn.2.2]
          · rfl
        · unfold aWrd
          obtain ⟨ha, hb⟩ := b_act hB hi a2
          rw [ha, if_neg (show ¬ (267 ≤ tK c i) by omega), if_pos rfl, if_neg (fun x => by have := (b_nm hB hi).mp x; omega)]
      · rw [if_neg a2]
        have b40 := b_sg hB hi (ch := 40) (by decide)
        have b91 := b_sg hB hi (ch := 91) (by decide)
        have b123 := b_sg hB hi (ch := 123) (by decide)
        cases w with
        | false =>
          left
          refine ⟨by simp, ?_⟩
          split
          · simp
          · split
            · simp
            · split <;> simp
        | true =>
          simp only [if_true]
          by_cases d1 : tK c i = 40
          · have a1 := b40.mpr d1
            have hlt := b_lt hB hi (by have := sg_t a1; omega)
            rw [if_pos d1, if_pos a1]
            unfold pPar aPar
            rcases hE (i + 1) τ A (by omega) h h0 with ⟨x1, x2⟩ | ⟨i1, τ1, A1, q, x1, x2, x3, x4, x5⟩
            · left; rw [x1, x2]; exact ⟨rfl, rfl⟩
            · rw [x1, x2]
              simp only
              by_cases d2 : tK c i1 = 41
              · have a2 := (b_sg hB x3 (ch := 41) (by decide)).mpr d2
                have hlt2 := b_lt hB x3 (by have := sg_t a2; omega)
                simp only [d2, if_true, a2]
                exact Or.inr ⟨i1 + 1, τ1, A1, q, rfl, rfl, by omega, x4, x5⟩
              · left
                simp only [if_neg d2, if_neg (fun x => d2 ((b_sg hB x3 (by decide)).mp x)), and_self]
          · rw [if_neg d1, if_neg (fun x => d1 (b40.mp x))]
            by_cases d2 : tK c i = 91
            · rw [if_pos d2, if_pos (b91.mpr d2)]
              exact sF_rw hB hE gE hi d2 h h0
            · rw [if_neg d2, if_neg (fun x => d2 (b91.mp x))]
              by_cases d3 : tK c i = 123
              · rw [if_pos d3, if_pos (b123.mpr d3)]
                exact sF_each hB hE gE hi d3 h h0
              · left
                rw [if_neg d3, if_neg (fun x => d3 (b123.mp x))]
                exact ⟨rfl, rfl⟩
theorem sF_un (hB : tkB c t N) {w : Bool} {E U : pF} {E' U' : aF} (hE : sF c t N E E') (gE : gF E') (hU : sF c t N U U') (gU : gF U') : sF c t N (pUnL c w E U) (aUn t w E' U') := by
  intro i τ A hi h h0
  unfold pUnL pUn aUn
  have b35 := b_sg hB hi (ch := 35) (by decide)
  by_cases d : tK c i = 35
  · rw [if_pos d, if_pos (b35.mpr d)]
    cases w with
    | false => left; simp
    | true =>
      simp only [if_true]
      exact sF_sharp hB hU gU hi d h h0
  · rw [if_neg d, if_neg (fun x => d (b35.mp x))]
    exact sF_then (sF_atm hB hE gE) (fun l i τ A b hi h => by
      have := h.2.1
      exact sL_itL hB hE gE 201 (201 - A.1).toNat l i τ A b hi h (by omega) (by omega)) i τ A hi h h0
theorem sF_ex (hB : tkB c t N) {w : Bool} {E U : pF} {E' U' : aF} (hE : sF c t N E E') (gE : gF E') (hU : sF c t N U U') (gU : gF U') : sF c t N (pExpr c w E (pCmL c w E U)) (aEx t w E' U') := by
  intro i τ A hi h h0
  unfold pExpr aEx
  have bl := b_let hB hi
  have bi := b_if hB hi
  by_cases d1 : tK c i = 262
  · rw [if_pos d1, if_pos (bl.mpr d1)]
    cases w with
    | false => left; simp
    | true =>
      simp only [if_true]
      exact sF_let hB hE gE hi d1 h h0
  · rw [if_neg d1, if_neg (fun x => d1 (bl.mp x))]
    by_cases d2 : tK c i = 264
    · rw [if_pos d2, if_pos (bi.mpr d2)]
      cases w with
      | false => left; simp
      | true =>
        simp only [if_true]
        exact sF_if hB hE gE hi d2 h h0
    · rw [if_neg d2, if_neg (fun x => d2 (bi.mp x))]
      have g1 : gF (aUn t w E' U') := gF_un gE gU
      have s1 := sF_un hB (w := w) hE gE hU gU
      have s2 := sF_row hB s1 g1 (q_P hB)
      have g2 : gF (aRow t (aqP t) (aUn t w E' U')) := gF_row g1
      have s3 := sF_row hB s2 g2 (q_S hB)
      exact sF_cmp hB s3 (gF_row g2) i τ A hi h h0
theorem sF_n (c : tkC) (t : aK) (N : Nat) : sF c t N (fun _ _ => none) (fun _ _ => none) := fun _ _ _ _ _ _ => Or.inl ⟨rfl, rfl⟩
theorem sF_lv (hB : tkB c t N) : ∀ f, sF c t N (pLv c f).1 (aLv t f).1 ∧ sF c t N (pLv c f).2 (aLv t f).2
  | 0 => ⟨sF_ex hB (sF_n c t N) gF_n (sF_n c t N) gF_n, sF_un hB (sF_n c t N) gF_n (sF_n c t N) gF_n⟩
  | f + 1 => by
    obtain ⟨h1, h2⟩ := sF_lv hB f
    exact ⟨sF_ex hB h1 (gF_lv f).1 h2 (gF_lv f).2, sF_un hB h1 (gF_lv f).1 h2 (gF_lv f).2⟩
end LVL
