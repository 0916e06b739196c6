/-! Ranges and levels: lists, words, rows, { }. -/
section JRS
variable {c : tkC} {t : aK} {N h : Nat}
theorem jQ_l {τ : sg_S} {A : aT} {b n : Int} {h h' : Nat} (hj : jO τ A b n h) (hT : cTc A b n) (h11 : sg_g τ 11 n = b) (h12 : sg_g τ 12 n = A.1 - 1) (hk : A.2.2.2.2.1 n = []) (h3 : ¬ (A.2.1 n = 3 ∨ A.2.1 n = 15)) : jQ τ A b n h' := by
  obtain ⟨h1, h3', h4⟩ := hj
  refine ⟨fun k a d => ?_, h1, h11, fun fu => ?_⟩
  · by_cases ck : k = n
    · subst ck
      obtain ⟨L, l1, l2, l3, l4⟩ := hT
      refine ⟨by rw [h11, h12]; omega, L, l1, fun x => ?_⟩
      rw [h11, h12]
      constructor
      · intro hx; have := l3 x hx; omega
      · intro hx; exact l4 x hx.1 (by omega)
    · exact (h3' k a d ck).1
  · cases fu with
    | zero => simp [htN]
    | succ fu => simp only [htN, hk, List.map_nil, List.foldr_nil, if_neg h3]; omega
theorem j_lst (hB : tkB c t N) {E : pF} {E' : aF} (hE : cBq c t N h E E') {b n ch : Int} : ∀ (m m' : Nat) (i : Nat) (τ : sg_S) (A : aT) (i1 : Nat) (τ1 : sg_S) (j1 : Nat) (A1 : aT), i ≤ N → sg_g τ 2 16 = A.1 → 0 ≤ b ∧ A.1 ≤ 200 → jO τ A b n h → (201 - A.1).toNat ≤ m → (201 - A.1).toNat ≤ m' → pListL c E n m i τ = some (i1, τ1) → aLstL t E' n ch m' i A = some (j1, A1) → jO τ1 A1 b n h ∧ sg_g τ1 2 16 = A1.1 ∧ A1.1 ≤ 200
  | 0, m', i, τ, A, i1, τ1, j1, A1, hi, h2, h0, hj, hm, hm', eP, eF => by omega
  | m + 1, 0, i, τ, A, i1, τ1, j1, A1, hi, h2, h0, hj, hm, hm', eP, eF => by omega
  | m + 1, m' + 1, i, τ, A, i1, τ1, j1, A1, hi, h2, h0, hj, hm, hm', eP, eF => by
    unfold pListL at eP
    unfold aLstL at eF
    split at eP
    · cases eP
    rename_i i2 τ2 r he
    split at eF
    · cases eF
    rename_i j2 A2 r' he'
    have g := hE.2.1 _ _ _ _ _ he' (by have := hj.1; omega)
    obtain ⟨⟨x1, x2, x3, x4, x5, x6⟩, -, -, o2, s2⟩ := j_part hE hi h2 h0 hj he he'
    subst x1
    subst x2
    have bs := b_sg hB x3 (ch := 44) (by decide)
    by_cases ck : tK c j2 = 44
    · rw [if_pos ck] at eP
      rw [if_pos (bs.mpr ck)] at eF
      exact j_lst hB hE m m' _ _ _ _ _ _ _ (nx_ok hB x3 (by omega)) (by simp only [aKid_1]; exact s2) (by simp only [aKid_1]; omega) o2 (by simp only [aKid_1]; omega) (by simp only [aKid_1]; omega) eP eF
    · rw [if_neg ck] at eP
      rw [if_neg (fun z => ck (bs.mp z))] at eF
      cases eP
      split at eF
      · cases eF
        exact ⟨o2, by simp only [aKid_1]; exact s2, by simp only [aKid_1]; exact x6⟩
      · cases eF
/-- arguments -/
theorem j_args (hB : tkB c t N) {E : pF} {E' : aF} (hE : cBq c t N h E E') {b n : Int} {i : Nat} {τ : sg_S} {A : aT} {i' : Nat} {τ' : sg_S} {A' : aT} {q q' : Int} {j' : Nat} (hi : i ≤ N) (h2 : sg_g τ 2 16 = A.1) (h0 : 0 ≤ b ∧ A.1 ≤ 200) (hj : jO τ A b n h) (hb : n = b) (eP : pWordE c E n i τ = some (i', τ', q)) (eF : aArgs t E' n i A = some (j', A', q')) (hT : cTc A' b n) : q = n ∧ jQ τ' A' b n (h + 1) := by
  unfold pWordE at eP
  unfold aArgs at eF
  have bs := b_sg hB hi (ch := 41) (by decide)
  by_cases ck : tK c i = 41
  · rw [if_pos ck] at eP
    rw [if_pos (bs.mpr ck)] at eF
    simp only at eP
    rw [if_pos ck] at eP
    cases eP
    cases eF
    refine ⟨rfl, ?_⟩
    have := jQ_c hj hT h2 h0 (if1 _)
    rw [← hb] at this ⊢
    exact this
  · rw [if_neg ck] at eP
    rw [if_neg (fun z => ck (bs.mp z))] at eF
    split at eP
    · cases eP
    rename_i i1 τ1 he
    split at eP
    rotate_left
    · cases eP
    cases eP
    unfold aLst at eF
    split at eF
    · cases eF
    rename_i j1 A1 he'
    cases eF
    obtain ⟨o, s, l⟩ := j_lst hB hE 201 _ _ _ _ _ _ _ _ hi h2 h0 hj (by have := hj.1; omega) (Nat.le_refl _) he he'
    refine ⟨rfl, ?_⟩
    have := jQ_c o hT s ⟨h0.1, l⟩ (if1 _)
    rw [← hb] at this ⊢
    exact this
theorem jF_rw (hB : tkB c t N) {E : pF} {E' : aF} (hE : cBq c t N h E E') {i : Nat} {τ : sg_S} {A : aT} {i' : Nat} {τ' : sg_S} {A' : aT} {q : Int} (hi : i + 1 ≤ N) (h2 : sg_g τ 2 16 = A.1) (h0 : 0 ≤ A.1 ∧ A.1 ≤ 200) (eP : pRw c E i τ = some (i', τ', q)) (eF : aRw t E' i A = some (i', A', q)) (hT : cTc A' A.1 q) : jQ τ' A' A.1 q (h + 1) := by
  unfold pRw at eP
  split at eP
  · cases eP
  rename_i i1 τ1 k hc
  obtain ⟨k1, k2, k3, k4, k5, k6, k7⟩ := jO_new (kd := 14) (p := t.2.2 i) (w := t.2.1 i) (h := h) (jCq_0 τ A) (Int.le_refl _) h2 h0.1 hc
  subst k1
  subst k2
  split at eP
  · cases eP
  rename_i i2 τ2 he
  split at eP
  rotate_left
  · cases eP
  cases eP
  unfold aRw at eF
  split at eF
  · cases eF
  rename_i A1 n hm
  cases mk_e hm
  unfold aLst at eF
  split at eF
  · cases eF
  rename_i j1 A2 he'
  cases eF
  have o1 := jO_r k7 (τ' := sx_put τ1 3 200 A.1 279) (fun k => ⟨sxp_c _ _ _ _ _ _ _ (by decide), sxp_c _ _ _ _ _ _ _ (by decide)⟩)
  obtain ⟨o, s, l⟩ := j_lst hB hE 201 _ _ _ _ _ _ _ _ hi (by rw [sxp_c _ _ _ _ _ _ _ (by decide)]; simp only [aNew_1]; exact k3) (by simp only [aNew_1]; omega) o1 (by simp only [aNew_1]; omega) (Nat.le_refl _) he he'
  exact jQ_c o hT s ⟨h0.1, l⟩ (if1 _)
theorem jF_sharp (hB : tkB c t N) {U : pF} {U' : aF} (hU : cBq c t N h U U') {i : Nat} {τ : sg_S} {A A1 A2 : aT} {i1 i2 j2 : Nat} {τ1 τ2 : sg_S} {k n r r' : Int} (hi : i + 1 ≤ N) (h2 : sg_g τ 2 16 = A.1) (h0 : 0 ≤ A.1 ∧ A.1 ≤ 200) (hc : pCreate c i τ = some (i1, τ1, k)) (hs : U i1 τ1 = some (i2, τ2, r)) (hm : aMk t i A 11 = some (A1, n)) (hf : U' (i + 1) A1 = some (j2, A2, r')) (hT : cTc (aKid A2 n r') A.1 n) : k = n ∧ jQ (pClose (pAttach τ2 k r) k k) (aKid A2 n r') A.1 n (h + 1) := by
  cases mk_e hm
  obtain ⟨k1, k2, k3, k4, k5, k6, k7⟩ := jO_new (kd := 11) (p := t.2.2 i) (w := t.2.1 i) (h := h) (jCq_0 τ A) (Int.le_refl _) h2 h0.1 hc
  subst k1
  subst k2
  obtain ⟨⟨x1, x2, x3, x4, x5, x6⟩, -, -, o2, s2⟩ := j_part hU hi (by simp only [aNew_1]; exact k3) (by simp only [aNew_1]; omega) k7 hs hf
  subst x1
  subst x2
  exact ⟨rfl, jQ_c o2 hT (by simp only [aKid_1]; exact s2) (by simp only [aKid_1]; omega) (if1 _)⟩
theorem jF_word (hB : tkB c t N) {w : Bool} {E : pF} {E' : aF} {H : Nat} (gE : gF E') (tE : tF E') (hE : w = true → cBq c t N h E E' ∧ h + 1 ≤ H) {i : Nat} {τ : sg_S} {A : aT} {i' : Nat} {τ' : sg_S} {A' : aT} {q : Int} (hi : i ≤ N) (hk : tK c i = 258 ∨ 267 ≤ tK c i ∧ tK c i ≤ 278) (h2 : sg_g τ 2 16 = A.1) (h0 : 0 ≤ A.1 ∧ A.1 ≤ 200) (eP : pWord c w E i τ = some (i', τ', q)) (eF : aWrd t w E' i A = some (i', A', q)) : jQ τ' A' A.1 q H := by
  have hT := tF_wrd gE tE _ _ _ _ _ eF h0
  have i1N := nx_ok hB hi (show tK c i ≤ 255 ∨ tK c i = 257 ∨ tK c i = 258 ∨ 261 ≤ tK c i by omega)
  have bs := b_s hB hi
  have ba := b_act hB hi (bs.2.2.1.mpr (by omega))
  have bn := b_nm hB hi
  have bp := b_sg hB i1N (ch := 40) (by decide)
  unfold pWord at eP
  split at eP
  · cases eP
  rename_i i1 τ1 k hc
  unfold aWrd at eF
  by_cases c258 : tK c i = 258
  · rw [ba.1, if_pos (by rw [if_neg (by omega)]), if_pos (bn.mpr c258)] at eF
    by_cases c40 : tK c (i + 1) = 40
    · obtain ⟨k1, k2, k3, k4, k5, k6, k7⟩ := jO_new (kd := 13) (p := t.2.2 i) (w := t.2.1 i) (h := h) (jCq_0 τ A) (Int.le_refl _) h2 h0.1 hc
      subst k1
      subst k2
      rw [if_neg (fun z => z.2 c40), if_pos c40] at eP
      rw [if_pos (bp.mpr c40)] at eF
      split at eP
      rotate_left
      · cases eP
      rename_i hw
      obtain ⟨hE1, hE2⟩ := hE hw
      split at eF
      · cases eF
      rename_i A1 n hm
      cases mk_e hm
      rw [if_pos hw] at eF
      have o1 := jO_r k7 (τ' := sx_put τ1 3 200 A.1 280) (fun k => ⟨sxp_c _ _ _ _ _ _ _ (by decide), sxp_c _ _ _ _ _ _ _ (by decide)⟩)
      have qn : q = A.1 := by
        unfold pWordE at eP
        split at eP
        · cases eP
        · split at eP
          · cases eP; rfl
          · cases eP
      rw [qn] at hT
      obtain ⟨y1, y2⟩ := j_args hB hE1 (nx_ok hB i1N (by omega)) (by rw [sxp_c _ _ _ _ _ _ _ (by decide)]; simp only [aNew_1]; exact k3) (by simp only [aNew_1]; omega) o1 rfl eP eF hT
      rw [y1]
      exact jQ_m y2 hE2
    · obtain ⟨k1, k2, k3, k4, k5, k6, k7⟩ := jO_new (kd := 1) (p := t.2.2 i) (w := t.2.1 i) (h := h) (jCq_0 τ A) (Int.le_refl _) h2 h0.1 hc
      subst k1
      subst k2
      rw [if_pos ⟨c258, c40⟩] at eP
      rw [if_neg (fun z => c40 (bp.mp z))] at eF
      split at eF
      · cases eF
      rename_i A1 n hm
      cases mk_e hm
      cases eP
      cases eF
      exact jQ_l k7 hT k5.1 (by rw [k5.2]; simp only [aNew_1]; omega) (by simp only [aNew, aU_e]) (by simp only [aNew, aU_e]; omega)
  · obtain ⟨k1, k2, k3, k4, k5, k6, k7⟩ := jO_new (kd := v_actOf (t.2.1 i)) (p := t.2.2 i) (w := t.2.1 i) (h := h) (jCq_0 τ A) (Int.le_refl _) h2 h0.1 hc
    subst k1
    subst k2
    rw [if_neg (fun z => c258 z.1)] at eP
    rw [if_neg (by rw [ba.1, if_pos (by omega)]; omega)] at eF
    split at eP
    rotate_left
    · cases eP
    rename_i c40
    split at eP
    rotate_left
    · cases eP
    rename_i hw
    obtain ⟨hE1, hE2⟩ := hE hw
    split at eF
    · cases eF
    rename_i A1 n hm
    cases mk_e hm
    rw [if_pos (bp.mpr c40), if_pos hw] at eF
    have qn : q = A.1 := by
      unfold pWordE at eP
      split at eP
      · cases eP
      · split at eP
        · cases eP; rfl
        · cases eP
    rw [qn] at hT
    obtain ⟨y1, y2⟩ := j_args hB hE1 (nx_ok hB i1N (by omega)) (by simp only [aNew_1]; exact k3) (by simp only [aNew_1]; omega) k7 rfl eP eF hT
    rw [y1]
    exact jQ_m y2 hE2
end JRS
