/-! ITEMS, lists, WORDS, rows are read alike. -/
section LSG
variable {c : tkC} {t : aK} {N : Nat} {τ τ' : sg_S} {A A' : aT} {b n q l r : Int} {L R : List Int} {i : Nat} {K Pl W G U : Int}
def pIdx (c : tkC) (E : pF) (l : Int) (i : Nat) (τ : sg_S) : pO := match pCreate c i τ with
  | none => none
  | some (i1, τ1, k) => match E i1 τ1 with
    | none => none
    | some (i2, τ2, r) => if tK c i2 = 93 then some (i2 + 1, pBoth τ2 k l r, k) else none
theorem idx_ok (hB : tkB c t N) {S : pF} {S' : aF} (hS : sF c t N S S') (gS : gF S') (hkd : tK c i = 91) (hi : i < N) (h : cS τ A b [l]) : (pIdx c S l i τ = none ∧ aIdx t S' l i A = none) ∨ ∃ i' τ' A' q, pIdx c S l i τ = some (i', τ', q) ∧ aIdx t S' l i A = some (i', A', q) ∧ i' ≤ N ∧ cS τ' A' b [q] ∧ fB τ τ' b := by
  have h2 := h.2.1
  by_cases c200 : A.1 = 200
  · left
    unfold pIdx aIdx aMk
    rw [cr_no h.1 c200, if_pos c200]
    exact ⟨rfl, rfl⟩
  · obtain ⟨τ1, e1, b1, s1, f1⟩ := cr_ok (i := i) h (by omega) hB.1 12 (t.2.2 i) (t.2.1 i)
    have b2 := bS_A b1 (kid_o (aNew A 12 (t.2.2 i) (t.2.1 i)) A.1 l)
    unfold pIdx aIdx aMk
    rw [e1, if_neg c200]
    simp only
    rcases hS (i + 1) τ1 (aKid (aNew A 12 (t.2.2 i) (t.2.1 i)) A.1 l) (by omega) b2.1 (by simp only [aKid_1, aNew_1]; omega) with ⟨x1, x2⟩ | ⟨i', τ2, A2, r, x1, x2, x3, x4, x5⟩
    · left
      rw [x1, x2]
      exact ⟨rfl, rfl⟩
    · rw [x1, x2]
      simp only
      by_cases c93 : tK c i' = 93
      · have a93 := (b_sg hB x3 (ch := 93) (by decide)).mpr c93
        have hlt := b_lt hB x3 (by have := sg_t a93; omega)
        simp only [c93, if_true, a93]
        right
        have g2 := gS _ _ _ _ _ x2 (by simp only [aKid_1, aNew_1]; omega)
        have hn : A.1 < (aKid (aNew A 12 (t.2.2 i) (t.2.1 i)) A.1 l).1 := by simp only [aKid_1, aNew_1]; omega
        have b3 := bS_R (R' := [l, r]) (bS_E b2 x4 x5 g2.1) (List.Perm.swap _ _ _)
        have s3 := sN_f s1 x5 hn
        obtain ⟨b4, f4, w4, v4⟩ := bS_at (A' := A2) b3 ⟨rfl, fun k _ => ⟨rfl, rfl, rfl, rfl, rfl⟩⟩
        obtain ⟨b5, f5, w5, v5⟩ := bS_at (A' := aKid A2 A.1 r) b4 (kid_o A2 A.1 r)
        have s5 := sN_at (sN_at s3 w4 v4) w5 v5
        have kn := (g2.1.2 A.1 hn)
        have ekd : (aKid A2 A.1 r).2.1 A.1 = 12 := by simp only [aKid]; rw [kn.1]; simp only [aKid, aNew, aU_e]
        have epl : (aKid A2 A.1 r).2.2.1 A.1 = t.2.2 i := by simp only [aKid]; rw [kn.2.1]; simp only [aKid, aNew, aU_e]
        have eks : (aKid A2 A.1 r).2.2.2.2.1 A.1 = [] ++ [l] ++ [r] := by simp only [aKid, aU_e]; rw [kn.2.2.2.1]; simp only [aKid, aNew, aU_e, List.nil_append, List.cons_append]
        obtain ⟨cs, ff⟩ := fin_ok b5 s5 (by rw [ekd, hkd]; rfl) (by rw [epl]; exact ((hB.2.2.1.1 i (by omega)).2).symm) (fun q => by rw [ekd] at q; omega) (by rw [ekd]; omega) eks (sx_at (pAttach (pAttach τ2 A.1 l) A.1 r) 11 200 l)
        exact ⟨i' + 1, _, _, _, rfl, rfl, by omega, cs, fB_t (fB_t (fB_t (fB_t (fB_m f1 h2.2.1) (fB_m x5 (by simp only [aKid_1, aNew_1]; omega))) f4) f5) ff⟩
      · left
        have a93 : ¬ aSg t i' 93 = true := fun x => c93 ((b_sg hB x3 (by decide)).mp x)
        simp only [if_neg c93, if_neg a93, and_self]
theorem sL_itL (hB : tkB c t N) {w : Bool} {E : pF} {E' : aF} (hE : sF c t N E E') (gE : gF E') : ∀ (m m' : Nat) (l : Int) (i : Nat) (τ : sg_S) (A : aT) (b : Int), i ≤ N → cS τ A b [l] → (201 - A.1).toNat ≤ m → (201 - A.1).toNat ≤ m' → (pItL c w E m l i τ = none ∧ aBehL t w E' m' l i A = none) ∨ ∃ i' τ' A' q, pItL c w E m l i τ = some (i', τ', q) ∧ aBehL t w E' m' l i A = some (i', A', q) ∧ i' ≤ N ∧ cS τ' A' b [q] ∧ fB τ τ' b
  | 0, m', l, i, τ, A, b, hi, h, h1, h2 => by
    have := h.2.1
    omega
  | m + 1, 0, l, i, τ, A, b, hi, h, h1, h2 => by
    have := h.2.1
    omega
  | m + 1, m' + 1, l, i, τ, A, b, hi, h, h1, h2 => by
    have hA := h.2.1
    by_cases c91 : tK c i = 91
    · have a91 := (b_sg hB hi (ch := 91) (by decide)).mpr c91
      have hlt := b_lt hB hi (by have := sg_t a91; omega)
      cases w with
      | false =>
        left
        simp [pItL, aBehL, c91, a91]
      | true =>
        have key : pItL c true E (m + 1) l i τ = match pIdx c E l i τ with
            | none => none
            | some (i2, τ2, k) => pItL c true E m k i2 τ2 := by
          unfold pIdx
          simp only [pItL, c91, if_true]
          cases pCreate c i τ with
          | none => rfl
          | some x =>
            obtain ⟨i2, τ2, k⟩ := x
            simp only
            cases E i2 τ2 with
            | none => rfl
            | some y =>
              obtain ⟨i3, τ3, r⟩ := y
              simp only
              by_cases d : tK c i3 = 93
              · simp only [d, if_true]
              · simp only [if_neg d]
        rw [key]
        simp only [aBehL, a91, if_true]
        rcases idx_ok hB hE gE c91 hlt h with ⟨x1, x2⟩ | ⟨i2, τ2, A2, k, x1, x2, x3, x4, x5⟩
        · left
          rw [x1, x2]
          exact ⟨rfl, rfl⟩
        · rw [x1, x2]
          have g := gF_idx gE x2 (by omega)
          simp only
          rcases sL_itL hB hE gE m m' k i2 τ2 A2 b x3 x4 (by omega) (by omega) with y | ⟨i3, τ3, A3, q, y1, y2, y3, y4, y5⟩
          · exact Or.inl y
          · exact Or.inr ⟨i3, τ3, A3, q, y1, y2, y3, y4, fB_t x5 y5⟩
    · right
      have a91 : ¬ aSg t i 91 = true := fun x => c91 ((b_sg hB hi (by decide)).mp x)
      refine ⟨i, τ, A, l, by simp only [pItL, if_neg c91], by simp only [aBehL, if_neg a91], hi, h, fB_r _ _⟩
/-- a list of parts, up to its closing sign -/
theorem lst_ok (hB : tkB c t N) {E : pF} {E' : aF} (hE : sF c t N E E') (gE : gF E') {ch : Int} (hch : ch ≤ 255 ∧ ¬ ch = 44) : ∀ (m m' : Nat) (i : Nat) (τ : sg_S) (A : aT) (L : List Int), i ≤ N → bS τ A b n L R → sN τ n K Pl W G U → A.2.2.2.2.1 n = L → (201 - A.1).toNat ≤ m → (201 - A.1).toNat ≤ m' → ((pListL c E n m i τ = none ∨ ∃ i1 τ1, pListL c E n m i τ = some (i1, τ1) ∧ ¬ tK c i1 = ch) ∧ aLstL t E' n ch m' i A = none) ∨ ∃ i1 τ1 A1 L1, pListL c E n m i τ = some (i1, τ1) ∧ tK c i1 = ch ∧ i1 < N ∧ aLstL t E' n ch m' i A = some (i1 + 1, A1) ∧ bS τ1 A1 b n L1 R ∧ sN τ1 n K Pl W G U ∧ A1.2.2.2.2.1 n = L1 ∧ fB τ τ1 b ∧ (A1.2.1 n = A.2.1 n ∧ A1.2.2.1 n = A.2.2.1 n ∧ A1.2.2.2.1 n = A.2.2.2.1 n)
  | 0, m', i, τ, A, L, hi, h, hs, hL, h1, h2 => by
    have := h.2.1
    omega
  | m + 1, 0, i, τ, A, L, hi, h, hs, hL, h1, h2 => by
    have := h.2.1
    omega
  | m + 1, m' + 1, i, τ, A, L, hi, h, hs, hL, h1, h2 => by
    have hA := h.2.1
    simp only [pListL, aLstL]
    rcases ea_ok hE gE hi h hs with ⟨x1, x2⟩ | ⟨i1, τ1, A1, r, x1, x2, x3, -, b2, -, s2, -, f2, g2⟩
    · left
      rw [x1, x2]
      exact ⟨Or.inl rfl, rfl⟩
    rw [x1, x2]
    simp only
    have kn := g2.2 n hA.2.2.1
    have g5 := (gE _ _ _ _ _ x2 (by omega))
    have eks : (aKid A1 n r).2.2.2.2.1 n = L ++ [r] := by rw [kn_k, kn.2.2.2.1, hL]
    by_cases c44 : tK c i1 = 44
    · have a44 := (b_sg hB x3 (ch := 44) (by decide)).mpr c44
      have hlt := b_lt hB x3 (by have := sg_t a44; omega)
      simp only [c44, if_true, a44]
      have g6 := g5.1.1
      have hsz : A.1 < A1.1 := by omega
      rcases lst_ok hB hE gE hch m m' (i1 + 1) (pAttach τ1 n r) (aKid A1 n r) (L ++ [r]) (by omega) b2 s2 eks (by simp only [aKid_1]; omega) (by simp only [aKid_1]; omega) with y | ⟨i3, τ3, A3, L3, y1, y2, y3, y4, y5, y6, y7, y8, y9⟩
      · exact Or.inl y
      · refine Or.inr ⟨i3, τ3, A3, L3, y1, y2, y3, y4, y5, y6, y7, fB_t f2 y8, ?_⟩
        rw [y9.1, y9.2.1, y9.2.2]
        exact ⟨kn.1, kn.2.1, kn.2.2.1⟩
    · have a44 : ¬ aSg t i1 44 = true := fun x => c44 ((b_sg hB x3 (by decide)).mp x)
      simp only [if_neg c44, if_neg a44]
      by_cases cc : tK c i1 = ch
      · right
        have ac := (b_sg hB x3 (ch := ch) hch.1).mpr cc
        have hlt := b_lt hB x3 (by have := sg_t ac; omega)
        rw [if_pos ac]
        exact ⟨i1, _, _, _, rfl, cc, hlt, rfl, b2, s2, eks, f2, kn.1, kn.2.1, kn.2.2.1⟩
      · left
        have ac : ¬ aSg t i1 ch = true := fun x => cc ((b_sg hB x3 hch.1).mp x)
        rw [if_neg ac]
        exact ⟨Or.inr ⟨i1, _, rfl, cc⟩, rfl⟩
theorem sF_rw (hB : tkB c t N) {E : pF} {E' : aF} (hE : sF c t N E E') (gE : gF E') (hi : i ≤ N) (hk : tK c i = 91) (h : sg_g τ 2 16 = A.1) (h0 : 0 ≤ A.1 ∧ A.1 ≤ 200) : (pRw c E i τ = none ∧ aRw t E' i A = none) ∨ ∃ i' τ' A' q, pRw c E i τ = some (i', τ', q) ∧ aRw t E' i A = some (i', A', q) ∧ i' ≤ N ∧ cS τ' A' A.1 [q] ∧ fB τ τ' A.1 := by
  have hlt := b_lt hB hi (by have := (b_s hB hi).2.2.2.2.mpr (by omega); omega)
  unfold pRw aRw aMk
  by_cases c200 : A.1 = 200
  · left
    rw [cr_no h c200, if_pos c200]
    exact ⟨rfl, rfl⟩
  obtain ⟨τ1, e1, b1, s1, f1⟩ := cr_ok (i := i) (cS_0 h h0) (by omega) hB.1 14 (t.2.2 i) (t.2.1 i)
  rw [e1, if_neg c200]
  simp only
  have hkk : 0 ≤ A.1 ∧ A.1 < 200 := by omega
  rw [px_in hkk]
  have b1' : bS (sg_w τ1 3 A.1 279) (aNew A 14 (t.2.2 i) (t.2.1 i)) A.1 A.1 [] [] := by
    obtain ⟨q1, q2, q3, q4, q5, q6⟩ := b1
    refine ⟨by rw [sg_gw_c _ _ _ _ _ _ (by decide)]; exact q1, q2, ⟨by rw [sg_gw_c _ _ _ _ _ _ (by decide)]; exact q3.1, trivial, fun z hz => by simp at hz, by simp, fun x hx => by simp at hx⟩, fun k a0 a1 a2 => ?_, q5, q6⟩
    simp only [aNew_1] at a1
    omega
  have s1' : sN (sg_w τ1 3 A.1 279) A.1 279 (tPl c i) (sg_nl (tW c i)) 0 (-1) := ⟨by rw [sg_gw, if_pos ⟨rfl, rfl⟩]; rfl, by rw [sg_gw_c _ _ _ _ _ _ (by decide)]; exact s1.2.1, s1.2.2.1, by rw [sg_gw_c _ _ _ _ _ _ (by decide)]; exact s1.2.2.2.1, by rw [sg_gw_c _ _ _ _ _ _ (by decide)]; exact s1.2.2.2.2⟩
  have f1' : fB τ (sg_w τ1 3 A.1 279) A.1 := fB_w f1 (by decide) (Int.le_refl _)
  unfold aLst
  rcases lst_ok hB hE gE (ch := 93) (by omega) 201 (201 - (aNew A 14 (t.2.2 i) (t.2.1 i)).1).toNat (i + 1) _ _ [] (by omega) b1' s1' (by simp only [aNew, aU_e]) (by simp only [aNew_1]; omega) (Nat.le_refl _) with ⟨y1, y2⟩ | ⟨i3, τ3, A3, L3, y1, y2, y3, y4, y5, y6, y7, y8, y9⟩
  · left
    rw [y2]
    rcases y1 with y1 | ⟨i3, τ3, y1, y3⟩
    · rw [y1]; exact ⟨rfl, rfl⟩
    · rw [y1]
      simp only [if_neg y3, and_self]
  · right
    rw [y1, y4]
    simp only [y2, if_true]
    have ekd : A3.2.1 A.1 = 14 := by rw [y9.1]; simp only [aNew, aU_e]
    have epl : A3.2.2.1 A.1 = t.2.2 i := by rw [y9.2.1]; simp only [aNew, aU_e]
    obtain ⟨cs, ff⟩ := fin_ok y5 y6 (by rw [ekd]; rfl) (by rw [epl]; exact ((hB.2.2.1.1 i hi).2).symm) (fun q => by rw [ekd] at q; omega) (by rw [ekd]; omega) y7 A.1
    exact ⟨i3 + 1, _, _, _, rfl, rfl, by omega, cs, fB_t (fB_t f1' y8) ff⟩
end LSG
