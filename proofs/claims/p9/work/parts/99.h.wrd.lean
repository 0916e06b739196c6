/-! WORDS are read alike. -/
section WRH
variable {c : tkC} {t : aK} {N : Nat} {τ τ' : sg_S} {A A' : aT} {b n q l r : Int} {L R : List Int} {i : Nat} {K Pl W G U : Int}
theorem arg_ok (hB : tkB c t N) {E : pF} {E' : aF} (hE : sF c t N E E') (gE : gF E') {j : Nat} (hj : j ≤ N) (h : bS τ A b n [] []) (hs : sN τ n K Pl W G U) (hks : A.2.2.2.2.1 n = []) (hK : K = kmp (A.2.1 n)) (hP : Pl = A.2.2.1 n) (hW : (A.2.1 n = 1 ∨ A.2.1 n = 2 ∨ A.2.1 n = 13) → W = uv (A.2.2.2.1 n)) (h15 : ¬ A.2.1 n = 15) : (pWordE c E n j τ = none ∧ aArgs t E' n j A = none) ∨ ∃ i' τ' A' q, pWordE c E n j τ = some (i', τ', q) ∧ aArgs t E' n j A = some (i', A', q) ∧ i' ≤ N ∧ cS τ' A' b [q] ∧ fB τ τ' b := by
  have h2 := h.2.1
  unfold pWordE aArgs
  by_cases c41 : tK c j = 41
  · have a41 := (b_sg hB hj (ch := 41) (by decide)).mpr c41
    have hlt := b_lt hB hj (by have := sg_t a41; omega)
    simp only [c41, if_true, a41]
    right
    obtain ⟨cs, ff⟩ := fin_ok h hs hK hP hW h15 hks n
    exact ⟨j + 1, _, _, _, rfl, rfl, by omega, cs, ff⟩
  · have a41 : ¬ aSg t j 41 = true := fun x => c41 ((b_sg hB hj (by decide)).mp x)
    simp only [if_neg c41, if_neg a41]
    unfold aLst
    rcases lst_ok hB hE gE (ch := 41) (by omega) 201 (201 - A.1).toNat j τ A [] hj h hs hks (by omega) (Nat.le_refl _) with ⟨y1, y2⟩ | ⟨i3, τ3, A3, L3, y1, y2, y3, y4, y5, y6, y7, y8, y9⟩
    · left
      rw [y2]
      rcases y1 with y1 | ⟨i3, τ3, y1, y3⟩
      · rw [y1]; exact ⟨rfl, rfl⟩
      · rw [y1]
        simp only [if_neg y3, and_self]
    · right
      rw [y1, y4]
      simp only [y2, if_true]
      obtain ⟨cs, ff⟩ := fin_ok y5 y6 (by rw [y9.1]; exact hK) (by rw [y9.2.1]; exact hP) (by rw [y9.1, y9.2.2]; exact hW) (by rw [y9.1]; exact h15) y7 n
      exact ⟨i3 + 1, _, _, _, rfl, rfl, by omega, cs, fB_t y8 ff⟩
theorem kmp_a {k : Int} (h : 267 ≤ k ∧ k ≤ 278) : kmp (k - 251) = k := by
  unfold kmp
  rw [if_neg (by omega), if_neg (by omega), if_neg (by omega), if_neg (by omega), if_neg (by omega), if_neg (by omega), if_neg (by omega), if_neg (by omega), if_neg (by omega), if_neg (by omega), if_neg (by omega), if_neg (by omega), if_neg (by omega), if_neg (by omega), if_neg (by omega), if_neg (by omega)]
  omega
theorem sF_wrd (hB : tkB c t N) {w : Bool} {E : pF} {E' : aF} (hE : sF c t N E E') (gE : gF E') (hi : i ≤ N) (hk : t.1 i = 2) (hr : tK c i = 258 ∨ 267 ≤ tK c i) (h : sg_g τ 2 16 = A.1) (h0 : 0 ≤ A.1 ∧ A.1 ≤ 200) : (pWord c w E i τ = none ∧ aWrd t w E' i A = none) ∨ ∃ i' τ' A' q, pWord c w E i τ = some (i', τ', q) ∧ aWrd t w E' i A = some (i', A', q) ∧ i' ≤ N ∧ cS τ' A' A.1 [q] ∧ fB τ τ' A.1 := by
  have hlt := b_lt hB hi (by omega)
  have hv := (b_s hB hi).2.2.1.mp hk
  have hKr := tK_r hB.1 i
  obtain ⟨ha, hb⟩ := b_act hB hi hk
  have hnm := b_nm hB hi
  have h40 := b_sg hB (i := i + 1) (ch := 40) (by omega) (by decide)
  have hp : tPl c i = t.2.2 i := ((hB.2.2.1.1 i hi).2).symm
  unfold pWord aWrd
  by_cases c200 : A.1 = 200
  · left
    rw [cr_no h c200]
    refine ⟨rfl, ?_⟩
    simp only [aMk, if_pos c200]
    split
    · split
      · split <;> rfl
      · rfl
    · rfl
  by_cases cn : tK c i = 258
  · -- a NAME
    rw [ha, if_neg (show ¬ (267 ≤ tK c i) by omega), if_pos rfl, if_pos (hnm.mpr cn)]
    by_cases cp : tK c (i + 1) = 40
    · have a40 := h40.mpr cp
      have hlt1 := b_lt hB (i := i + 1) (by omega) (by have := sg_t a40; omega)
      rw [if_pos a40]
      obtain ⟨τ1, e1, b1, s1, f1⟩ := cr_ok (i := i) (cS_0 h h0) (by omega) hB.1 13 (t.2.2 i) (t.2.1 i)
      rw [e1]
      simp only [aMk, if_neg c200, if_neg (show ¬ (tK c i = 258 ∧ ¬ tK c (i + 1) = 40) by omega), if_pos cp, if_pos cn]
      cases w with
      | false => left; exact ⟨rfl, rfl⟩
      | true =>
        simp only [if_true]
        have hkk : 0 ≤ A.1 ∧ A.1 < 200 := by omega
        rw [px_in hkk]
        have b1' : bS (sg_w τ1 3 A.1 280) (aNew A 13 (t.2.2 i) (t.2.1 i)) A.1 A.1 [] [] := by
          obtain ⟨q1, q2, q3, q4, q5, q6⟩ := b1
          refine ⟨by rw [sg_gw_c _ _ _ _ _ _ (by decide)]; exact q1, q2, ⟨by rw [sg_gw_c _ _ _ _ _ _ (by decide)]; exact q3.1, trivial, fun z hz => by simp at hz, by simp, fun x hx => by simp at hx⟩, fun k a0 a1 a2 => ?_, q5, q6⟩
          simp only [aNew_1] at a1
          omega
        have s1' : sN (sg_w τ1 3 A.1 280) A.1 280 (tPl c i) (tW c i) 0 (-1) := ⟨by rw [sg_gw, if_pos ⟨rfl, rfl⟩]; rfl, by rw [sg_gw_c _ _ _ _ _ _ (by decide)]; exact s1.2.1, by rw [sg_gw', s1.2.2.1]; exact tW_r hB hlt (Or.inl cn), by rw [sg_gw_c _ _ _ _ _ _ (by decide)]; exact s1.2.2.2.1, by rw [sg_gw_c _ _ _ _ _ _ (by decide)]; exact s1.2.2.2.2⟩
        have f1' : fB τ (sg_w τ1 3 A.1 280) A.1 := fB_w f1 (by decide) (Int.le_refl _)
        rcases arg_ok hB hE gE (j := i + 1 + 1) (by omega) b1' s1' (by simp only [aNew, aU_e]) (by simp only [aNew, aU_e]; rfl) (by simp only [aNew, aU_e]; exact hp) (fun _ => by simp only [aNew, aU_e]; exact (tok_u hB.1 hB.2.2.1 hlt (Or.inl cn)).symm) (by simp only [aNew, aU_e]; omega) with y | ⟨i3, τ3, A3, q, y1, y2, y3, y4, y5⟩
        · exact Or.inl y
        · exact Or.inr ⟨i3, τ3, A3, q, y1, y2, y3, y4, fB_t f1' y5⟩
    · rw [if_neg (fun x => cp (h40.mp x))]
      obtain ⟨τ1, e1, b1, s1, f1⟩ := cr_ok (i := i) (cS_0 h h0) (by omega) hB.1 1 (t.2.2 i) (t.2.1 i)
      rw [e1]
      simp only [aMk, if_neg c200, if_pos (show (tK c i = 258 ∧ ¬ tK c (i + 1) = 40) from ⟨cn, cp⟩)]
      right
      refine ⟨i + 1, τ1, _, _, rfl, rfl, by omega, bS_c b1 (cN_o b1 s1 (by simp only [aNew, aU_e]; rw [cn]; rfl) (by simp only [aNew, aU_e]; exact hp) (fun _ => ?_) (by simp only [aNew, aU_e]; omega) (by simp only [aNew, aU_e])) (fun x hx => by simp only [aNew, aU_e] at hx; exact hx), f1⟩
      simp only [aNew, aU_e]
      rw [tok_u hB.1 hB.2.2.1 hlt (Or.inl cn)]
      exact tW_r hB hlt (Or.inl cn)
  · -- a RESERVED WORD from iota on
    have hr2 : 267 ≤ tK c i := by omega
    rw [ha, if_pos hr2, if_neg (by omega)]
    obtain ⟨τ1, e1, b1, s1, f1⟩ := cr_ok (i := i) (cS_0 h h0) (by omega) hB.1 (tK c i - 251) (t.2.2 i) (t.2.1 i)
    rw [e1]
    simp only [aMk, if_neg c200, if_neg (show ¬ (tK c i = 258 ∧ ¬ tK c (i + 1) = 40) by omega), if_neg cn]
    by_cases cp : tK c (i + 1) = 40
    · have a40 := h40.mpr cp
      have hlt1 := b_lt hB (i := i + 1) (by omega) (by have := sg_t a40; omega)
      simp only [cp, if_true, a40]
      cases w with
      | false => left; exact ⟨rfl, rfl⟩
      | true =>
        simp only [if_true]
        rcases arg_ok hB hE gE (j := i + 1 + 1) (by omega) b1 s1 (by simp only [aNew, aU_e]) (by simp only [aNew, aU_e]; exact (kmp_a (by omega)).symm) (by simp only [aNew, aU_e]; exact hp) (fun q => by simp only [aNew, aU_e] at q; omega) (by simp only [aNew, aU_e]; omega) with y | ⟨i3, τ3, A3, q, y1, y2, y3, y4, y5⟩
        · exact Or.inl y
        · exact Or.inr ⟨i3, τ3, A3, q, y1, y2, y3, y4, fB_t f1 y5⟩
    · left
      simp only [if_neg cp, if_neg (fun x => cp (h40.mp x)), and_self]
end WRH
