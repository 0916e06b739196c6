/-! seal. -/
/-- what is to be stored: from picks, from second, from first -/
def fdS (σ : sg_S) (d : Nat) (m : Int) : Prop := (0 ≤ m ∧ m ≤ 6000) ∧ sg_g σ 77 12 = m ∧ ∀ d', d = d' + 1 → (∀ i : Nat, (i : Int) < m → 0 ≤ sg_g σ 84 i ∧ sg_g σ 84 i ≤ 200) ∧ pkT σ d' (su (sg_g σ 84) 0 m.toNat)
def fdF (σ : sg_S) (f d : Nat) (m : Int) : Prop := (0 ≤ m ∧ m ≤ 6000) ∧ sg_g σ 77 11 = m ∧ ∀ d', d = d' + 1 → (∀ i : Nat, (i : Int) < m → 0 ≤ sg_g σ 83 i ∧ sg_g σ 83 i ≤ 200) ∧ (if f = 1 then pkT σ d' (su (sg_g σ 83) 0 m.toNat) else fdS σ d' (su (sg_g σ 83) 0 m.toNat))
def fd (σ : sg_S) (f L d : Nat) (m : Int) : Prop := if f ≤ L then pkT σ d m else if L = 0 then fdF σ f d m else fdS σ d m
theorem fdS_F {L : List Nat} {σ σ' : sg_S} {d : Nat} {m : Int} (h : fdS σ d m) (f : sg_F L σ σ') (ex : yEx σ σ') (hL : (!sg_cv L 77 12 && !sg_cv L 77 13 && sg_ca L 84 && sg_ca L 85 && sg_ca L 86 && sg_ca L 87) = true) : fdS σ' d m := by
  simp only [Bool.and_eq_true, Bool.not_eq_true'] at hL
  obtain ⟨⟨⟨⟨⟨l1, l2⟩, l3⟩, l4⟩, l5⟩, l6⟩ := hL
  refine ⟨h.1, by rw [sg_F_g f l1]; exact h.2.1, fun d' hd => ⟨fun i hi => by rw [sg_F_ga f l3]; exact (h.2.2 d' hd).1 i hi, ?_⟩⟩
  rw [su_sh (g := sg_g σ 84) (p := 0) (fun i _ => sg_F_ga f l3)]
  exact pkT_F (h.2.2 d' hd).2 f ex (by simp [l2, l4, l5, l6])
theorem fdF_F {L : List Nat} {σ σ' : sg_S} {q d : Nat} {m : Int} (h : fdF σ q d m) (f : sg_F L σ σ') (ex : yEx σ σ') (hL : (!sg_cv L 77 11 && !sg_cv L 77 12 && !sg_cv L 77 13 && sg_ca L 83 && sg_ca L 84 && sg_ca L 85 && sg_ca L 86 && sg_ca L 87) = true) : fdF σ' q d m := by
  simp only [Bool.and_eq_true, Bool.not_eq_true'] at hL
  obtain ⟨⟨⟨⟨⟨⟨⟨l0, l1⟩, l2⟩, l2'⟩, l3⟩, l4⟩, l5⟩, l6⟩ := hL
  refine ⟨h.1, by rw [sg_F_g f l0]; exact h.2.1, fun d' hd => ⟨fun i hi => by rw [sg_F_ga f l2']; exact (h.2.2 d' hd).1 i hi, ?_⟩⟩
  rw [su_sh (g := sg_g σ 83) (p := 0) (fun i _ => sg_F_ga f l2')]
  have := (h.2.2 d' hd).2
  split
  · rename_i e
    rw [if_pos e] at this
    exact pkT_F this f ex (by simp [l2, l4, l5, l6])
  · rename_i e
    rw [if_neg e] at this
    exact fdS_F this f ex (by simp [l1, l2, l3, l4, l5, l6])
theorem fd_F {L : List Nat} {σ σ' : sg_S} {q l d : Nat} {m : Int} (h : fd σ q l d m) (f : sg_F L σ σ') (ex : yEx σ σ') (hL : (!sg_cv L 77 11 && !sg_cv L 77 12 && !sg_cv L 77 13 && sg_ca L 83 && sg_ca L 84 && sg_ca L 85 && sg_ca L 86 && sg_ca L 87) = true) : fd σ' q l d m := by
  unfold fd at h ⊢
  split
  · rename_i e
    rw [if_pos e] at h
    simp only [Bool.and_eq_true, Bool.not_eq_true'] at hL
    obtain ⟨⟨⟨⟨⟨⟨⟨l0, l1⟩, l2⟩, l2'⟩, l3⟩, l4⟩, l5⟩, l6⟩ := hL
    exact pkT_F h f ex (by simp [l2, l4, l5, l6])
  · rename_i e
    rw [if_neg e] at h
    split
    · rename_i e2
      rw [if_pos e2] at h
      exact fdF_F h f ex hL
    · rename_i e2
      rw [if_neg e2] at h
      simp only [Bool.and_eq_true, Bool.not_eq_true'] at hL
      obtain ⟨⟨⟨⟨⟨⟨⟨l0, l1⟩, l2⟩, l2'⟩, l3⟩, l4⟩, l5⟩, l6⟩ := hL
      exact fdS_F h f ex (by simp [l1, l2, l3, l4, l5, l6])
/-- cells of the level L of a value whose rows begin at w -/
def lvN (σ : sg_S) (w n : Int) : Nat → Int
  | 0 => n
  | l + 1 => su (sg_g σ 78) (sg_g σ 80 (w + l)) (sg_g σ 81 (w + l)).toNat
def RF (σ : sg_S) (w n : Int) (D l : Nat) : Prop := yRw σ (w + l) (lvN σ w n l) ∧ (l < D → sg_g σ 82 (w + l) = w + l + 1 ∧ yLn σ (w + l) (lvN σ w n l) ∧ yLo σ (w + l) (lvN σ w n l))
theorem lvN_up {σ σ' : sg_S} {w n : Int} {D : Nat} (h : yEx σ σ') : ∀ {l : Nat}, (∀ k, k < l → RF σ w n D k) → lvN σ' w n l = lvN σ w n l
  | 0, _ => rfl
  | l + 1, a => by
    have r := (a l (by omega)).1
    simp only [lvN]
    have e := h.2.1 (w + l) r.1.1 r.1.2
    rw [e.2.1, r.2.1]
    have := r.2.2.1
    exact ysu_up h r (by omega)
theorem RF_up {σ σ' : sg_S} {w n : Int} {D : Nat} (h : yEx σ σ') {l : Nat} (a : ∀ k, k ≤ l → RF σ w n D k) : RF σ' w n D l := by
  obtain ⟨r1, r2⟩ := a l (Nat.le_refl _)
  unfold RF
  rw [lvN_up h (fun k hk => a k (by omega))]
  refine ⟨yRw_up h r1, fun hd => ⟨?_, yLn_up h r1 (r2 hd).2.1, h.2.2.2 _ _ r1 (r2 hd).2.2⟩⟩
  rw [(h.2.1 _ r1.1.1 r1.1.2).2.2]; exact (r2 hd).1
theorem RF_V {σ : sg_S} {w n : Int} {D : Nat} (a : ∀ k, k ≤ D → RF σ w n D k) : ∀ (k l : Nat), l + k = D → yV σ k (w + l) (lvN σ w n l)
  | 0, l, e => (a l (by omega)).1
  | k + 1, l, e => by
    obtain ⟨r1, r2⟩ := a l (by omega)
    obtain ⟨s1, s2, s3⟩ := r2 (by omega)
    refine ⟨r1, s2, s3, ?_⟩
    have ih := RF_V a k (l + 1) (by omega)
    simp only [lvN] at ih
    rw [s1, show w + (l : Int) + 1 = w + ((l + 1 : Nat) : Int) by omega]
    rw [r1.2.1] at ih
    exact ih
theorem yEx_x {σ σ' : sg_S} (h1 : sg_g σ' 77 10 = sg_g σ 77 10) (h2 : sg_g σ' 77 16 = sg_g σ 77 16) (h3 : ∀ v, 0 ≤ v → v < sg_g σ 77 10 → sg_g σ' 80 v = sg_g σ 80 v ∧ sg_g σ' 81 v = sg_g σ 81 v ∧ sg_g σ' 82 v = sg_g σ 82 v) (h4 : ∀ x, x < sg_g σ 77 16 → sg_g σ' 78 x = sg_g σ 78 x ∧ sg_g σ' 79 x = sg_g σ 79 x) : yEx σ σ' := by
  refine ⟨⟨by omega, by omega⟩, h3, fun x _ b => (h4 x b).1, fun v n a b i hi => ?_⟩
  obtain ⟨a1, a2, a3, a4, a5⟩ := a
  rw [(h3 v a1.1 a1.2).1, (h4 _ (by omega)).2, b i hi]
  exact (su_sh (fun j hj => (h4 _ (by omega)).1)).symm
theorem yG_x {σ σ' : sg_S} (g : yG σ) (h1 : sg_g σ' 77 10 = sg_g σ 77 10) (h2 : sg_g σ' 77 16 = sg_g σ 77 16) (h3 : ∀ v, 0 ≤ v → v < sg_g σ 77 10 → sg_g σ' 80 v = sg_g σ 80 v ∧ sg_g σ' 81 v = sg_g σ 81 v) : yG σ' := by
  refine ⟨by rw [h1]; exact g.1, by rw [h2]; exact g.2.1, fun v a b => ?_, fun v v' a b a' b' => ?_⟩
  · rw [h1] at b
    rw [(h3 v a b).1, (h3 v a b).2, h2]; exact g.2.2.1 v a b
  · rw [h1] at b b'
    rw [(h3 v a b).1, (h3 v a b).2, (h3 v' a' b').1, (h3 v' a' b').2]; exact g.2.2.2 v v' a b a' b'
/-- a new row -/
theorem yG_new {σ σ' : sg_S} (g : yG σ) (hw : sg_g σ 77 10 < 8000) (h1 : sg_g σ' 77 10 = sg_g σ 77 10 + 1) (h2 : sg_g σ 77 16 ≤ sg_g σ' 77 16 ∧ sg_g σ' 77 16 ≤ 6000) (h3 : ∀ v, 0 ≤ v → v < sg_g σ 77 10 → sg_g σ' 80 v = sg_g σ 80 v ∧ sg_g σ' 81 v = sg_g σ 81 v) (h4 : sg_g σ' 80 (sg_g σ 77 10) = sg_g σ 77 16 ∧ sg_g σ' 81 (sg_g σ 77 10) = sg_g σ' 77 16 - sg_g σ 77 16) : yG σ' := by
  obtain ⟨g1, g2, g3, g4⟩ := g
  refine ⟨by omega, by omega, fun v a b => ?_, fun v v' a b a' b' => ?_⟩
  · by_cases e : v = sg_g σ 77 10
    · rw [e, h4.1, h4.2]; omega
    · have := g3 v a (by omega)
      rw [(h3 v a (by omega)).1, (h3 v a (by omega)).2]; omega
  · by_cases e : v = sg_g σ 77 10
    · by_cases e' : v' = sg_g σ 77 10
      · left; rw [e, e']; exact ⟨rfl, rfl⟩
      · have := g3 v' a' (by omega)
        rw [e, h4.1, (h3 v' a' (by omega)).1, (h3 v' a' (by omega)).2]; omega
    · by_cases e' : v' = sg_g σ 77 10
      · have := g3 v a (by omega)
        rw [e', h4.1, (h3 v a (by omega)).1, (h3 v a (by omega)).2]; omega
      · rw [(h3 v a (by omega)).1, (h3 v a (by omega)).2, (h3 v' a' (by omega)).1, (h3 v' a' (by omega)).2]
        exact g4 v v' a (by omega) a' (by omega)
section SEA
variable {σ : sg_S} {Q : Int → sg_S → Prop}
theorem y_seal {D f : Nat} {n : Int} (g : yG σ) (hw : sg_g σ 77 10 + 4 ≤ 8000) (hst : 0 ≤ sg_g σ 77 17 ∧ sg_g σ 77 17 ≤ 2000) (hD : D ≤ 3) (ho : sg_g σ 77 15 = 0 ∨ sg_g σ 77 15 = 1) (hf : sg_g σ 77 15 = 0 → fd σ f 0 D n) (hf2 : f ≤ 2) (k : ∀ σ', sg_F [78, 79, 80, 81, 82, 85, 86, 87, 11077, 12077, 13077, 14077, 15077, 16077, 17077, 18077, 19077] σ σ' → y0 σ' → ((¬ sg_g σ' 77 18 = 0 ∧ ∀ v, 0 ≤ v → v < sg_g σ 77 10 → sg_g σ' 80 v = sg_g σ 80 v) ∨ (sg_g σ' 77 18 = 0 ∧ yEx σ σ' ∧ yG σ' ∧ yV σ' D (sg_g σ 77 10) n ∧ sg_g σ' 77 10 = sg_g σ 77 10 + D + 1 ∧ sg_g σ' 77 17 = sg_g σ 77 17 + 1 ∧ sg_g σ' 77 17 ≤ 2000 ∧ sg_g σ' 80 (sg_g σ 77 10) = sg_g σ 77 16 ∧ (1 ≤ f → ∀ i : Nat, (i : Int) < n → sg_g σ' 78 (sg_g σ 77 16 + i) = sg_g σ 83 i) ∧ sg_g σ 77 15 = 0)) → Q (sg_g σ 77 10) σ') : V_lSeal σ (D : Int) (f : Int) Q := by
  by_cases oo : sg_g σ 77 15 = 0
  rotate_left
  · unfold V_lSeal
    refine ⟨fun m v σ2 => σ2 = σ ∧ v = 0, fun σ2 => σ2 = σ, ⟨0, rfl, rfl⟩, ?_, ?_⟩
    · rintro m v σ2 rv f2 ⟨e, -⟩
      subst e
      exact ⟨fun _ => rfl, fun _ => ⟨fun _ => rfl, fun y => absurd y oo⟩⟩
    · rintro σ2 f2 e
      subst e
      refine ⟨fun σ19 => ¬ sg_g σ19 77 18 = 0, ⟨fun z σ28 e28 σ31 e31 => ?_, fun z => absurd z oo⟩, fun σ19 f19 h19 => ?_⟩
      · show ¬ sg_g σ31 77 18 = 0
        rw [e31, sg_gw_k _ _ _ _ _ _ (by decide), e28, sg_gw_e _ _ _ _ (by decide)]; decide
      · unfold V_lReset
        intro σ1 e1 σ4 e4 σ7 e7 σ10 e10 σ13 e13 f13
        refine k σ13 (sg_F_t (sg_F_m f19 rfl) (sg_F_m f13 rfl)) ⟨?_, ?_, ?_, ?_, ?_⟩ (Or.inl ⟨by rw [sg_F_g f13 (by rfl)]; exact h19, fun v _ _ => by rw [sg_F_ga f13 rfl, sg_F_ga f19 rfl]⟩)
        · rw [e13, sg_gw_k _ _ _ _ _ _ (by decide), e10, sg_gw_k _ _ _ _ _ _ (by decide), e7, sg_gw_k _ _ _ _ _ _ (by decide), e4, sg_gw_k _ _ _ _ _ _ (by decide), e1, sg_gw_e _ _ _ _ (by decide)]
        · rw [e13, sg_gw_k _ _ _ _ _ _ (by decide), e10, sg_gw_k _ _ _ _ _ _ (by decide), e7, sg_gw_k _ _ _ _ _ _ (by decide), e4, sg_gw_e _ _ _ _ (by decide)]
        · rw [e13, sg_gw_k _ _ _ _ _ _ (by decide), e10, sg_gw_k _ _ _ _ _ _ (by decide), e7, sg_gw_e _ _ _ _ (by decide)]
        · rw [e13, sg_gw_k _ _ _ _ _ _ (by decide), e10, sg_gw_e _ _ _ _ (by decide)]
        · rw [e13, sg_gw_e _ _ _ _ (by decide)]
  generalize hw0 : sg_g σ 77 10 = w at *
  generalize hu0 : sg_g σ 77 16 = u at *
  have gw := g.1
  have gu := g.2.1
  rw [hw0] at gw
  rw [hu0] at gu
  unfold V_lSeal
  rw [hw0, hu0]
  refine ⟨fun m v σ2 => ∃ L : Nat, v = L ∧ L ≤ D + 1 ∧ m = D + 1 - L ∧ ((sg_g σ2 77 15 = 1 ∧ ∀ v, 0 ≤ v → v < w → sg_g σ2 80 v = sg_g σ 80 v) ∨ (sg_g σ2 77 15 = 0 ∧ yEx σ σ2 ∧ yG σ2 ∧ sg_g σ2 77 10 = w + L ∧ (∀ l, l < L → RF σ2 w n D l) ∧ (L ≤ D → fd σ2 f L (D - L) (lvN σ2 w n L)) ∧ (1 ≤ L → sg_g σ2 80 w = u ∧ (1 ≤ f → ∀ i : Nat, (i : Int) < n → sg_g σ2 78 (u + i) = sg_g σ 83 i)) ∧ (L = 0 → sg_g σ2 77 16 = u))), fun σ2 => (sg_g σ2 77 15 = 1 ∧ ∀ v, 0 ≤ v → v < w → sg_g σ2 80 v = sg_g σ 80 v) ∨ (sg_g σ2 77 15 = 0 ∧ yEx σ σ2 ∧ yG σ2 ∧ sg_g σ2 77 10 = w + (D + 1 : Nat) ∧ (∀ l, l < D + 1 → RF σ2 w n D l) ∧ (sg_g σ2 80 w = u ∧ (1 ≤ f → ∀ i : Nat, (i : Int) < n → sg_g σ2 78 (u + i) = sg_g σ 83 i))), ⟨_, 0, rfl, Nat.zero_le _, rfl, ?_⟩, ?_, ?_⟩
  · rcases ho with o | o
    · exact Or.inr ⟨o, yEx_r _, g, by omega, fun l hl => by omega, fun _ => hf o, fun z => by omega, fun _ => hu0⟩
    · exact Or.inl ⟨o, fun _ _ _ => rfl⟩
  · rintro m v σ2 rv f2 ⟨L, rfl, hL, hm, hI⟩
    refine ⟨fun z => ?_, fun z => ⟨fun y => ?_, fun y => ?_⟩⟩
    · have e : L = D + 1 := by omega
      subst e
      rcases hI with q | ⟨q1, q2, q3, q4, q5, q6, q7, q8⟩
      · exact Or.inl q
      · exact Or.inr ⟨q1, q2, q3, q4, q5, q7 (by omega)⟩
    · rcases hI with q | q
      · exact Or.inl q
      · exact absurd q.1 y
    · rcases hI with q | ⟨q1, q2, q3, q4, q5, q6, q7, q8⟩
      · omega
      have hLD : L ≤ D := by omega
      have q6 := q6 hLD
      have g2u := q3.2.1
      generalize hu2 : sg_g σ2 77 16 = u2 at *
      intro σ52 e52
      rw [q4] at e52
      rw [xp_in ⟨by omega, by omega⟩] at e52
      refine ⟨⟨fun _ => trivial, fun _ => ⟨⟨by omega, by omega⟩, trivial⟩⟩, fun v57 e57 r57 σ60 e60 => ?_⟩
      rw [q4, xp_in ⟨by omega, by omega⟩] at e60
      rw [q4]
      have f60 : sg_F [80, 82] σ2 σ60 := by rw [e60, e52]; exact sg_F_w (sg_F_w (sg_F_r _ _) rfl _) rfl _
      have ru2 : sg_R u2 := ⟨by omega, by omega⟩
      have i80 : sg_g σ60 80 (w + L) = u2 := by rw [e60, sg_gw_c _ _ _ _ _ _ (by decide), e52, sg_gw_e _ _ _ _ ru2]
      have i82 : sg_g σ60 82 (w + L) = v57 := by rw [e60, sg_gw_e _ _ _ _ r57]
      have n60 : ∀ v, 0 ≤ v → v < sg_g σ2 77 10 → sg_g σ60 80 v = sg_g σ2 80 v ∧ sg_g σ60 81 v = sg_g σ2 81 v ∧ sg_g σ60 82 v = sg_g σ2 82 v := fun v a b => by
        refine ⟨?_, sg_F_ga f60 rfl, ?_⟩
        · rw [e60, sg_gw_c _ _ _ _ _ _ (by decide), e52, sg_gw_k _ _ _ _ _ _ (by omega)]
        · rw [e60, sg_gw_k _ _ _ _ _ _ (by omega), e52, sg_gw_c _ _ _ _ _ _ (by decide)]
      have ex60 : yEx σ2 σ60 := yEx_x (sg_F_g f60 rfl) (sg_F_g f60 rfl) n60 (fun x _ => ⟨sg_F_ga f60 rfl, sg_F_ga f60 rfl⟩)
      have g60 : yG σ60 := yG_x q3 (sg_F_g f60 rfl) (sg_F_g f60 rfl) (fun v a b => ⟨(n60 v a b).1, (n60 v a b).2.1⟩)
      have o60 : sg_g σ60 77 15 = 0 := by rw [sg_F_g f60 (by rfl)]; exact q1
      have u60 : sg_g σ60 77 16 = u2 := by rw [sg_F_g f60 (by rfl)]; exact hu2
      have fd60 := fd_F q6 f60 ex60 rfl
      generalize hmm : lvN σ2 w n L = mm at *
      refine ⟨fun σ66 => yG σ66 ∧ ∃ (c : Nat) (h : Nat → Int), stR σ60 σ66 c h ∧ (L < D → ∀ i : Nat, i < c → 0 ≤ h i ∧ h i ≤ 200) ∧ (sg_g σ66 77 15 = 0 → c = mm ∧ (∀ d', D - L = d' + 1 → fd σ66 f (L + 1) d' (su (sg_g σ66 78) u2 c)) ∧ (L = 0 → 1 ≤ f → ∀ i : Nat, i < c → h i = sg_g σ 83 i)), ⟨fun hlf => ⟨fun hL0 v94 e94 r94 => ?_, fun hL0 v105 e105 r105 => ?_⟩, fun hlf => ?_⟩, ?_⟩
      · -- second
        rw [if_pos hL0] at e94
        unfold fd at fd60
        rw [if_neg (by omega), if_neg (by omega)] at fd60
        obtain ⟨t1, t2, t3⟩ := fd60
        have f20 : sg_g σ60 77 12 = sg_g σ 77 12 := by rw [sg_F_g f60 (by rfl), sg_F_g f2 (by rfl)]
        rw [f20] at t2
        rw [e94, t2]
        refine y_copy84 (by rw [u60]; omega) o60 t1 (fun σ' c f' l' s' o' _ => ⟨?_, c, _, s', fun hd i hi => ?_, fun z => ⟨o' z, fun d' hd => ?_, fun z2 => by omega⟩⟩)
        · have ex := stR_ex s' f' rfl
          refine ⟨by rw [sg_F_g f' (by rfl)]; exact g60.1, ⟨by have := s'.1; omega, s'.2.1⟩, fun v a b => ?_, fun v v' a b a' b' => ?_⟩
          · rw [sg_F_g f' (by rfl)] at b
            have := g60.2.2.1 v a b
            have := s'.1
            rw [sg_F_ga (a := 80) f' rfl, sg_F_ga (a := 81) f' rfl]; omega
          · rw [sg_F_g f' (by rfl)] at b b'
            rw [sg_F_ga (a := 80) f' rfl, sg_F_ga (a := 81) f' rfl, sg_F_ga (a := 80) f' rfl, sg_F_ga (a := 81) f' rfl]
            exact g60.2.2.2 v v' a b a' b'
        · exact (t3 (D - L - 1) (by omega)).1 i (by omega)
        · have := (t3 d' hd).2
          unfold fd
          rw [if_pos (by omega)]
          rw [su_sh (g := sg_g σ60 84) (p := 0) (fun i hi => by rw [← u60, s'.2.2.1 i hi, show (0 : Int) + i = i by omega])]
          rw [show c = mm.toNat by have := o' z; omega]
          exact pkT_F this f' (stR_ex s' f' rfl) rfl
      · -- first
        rw [if_neg (by omega)] at e105
        unfold fd at fd60
        rw [if_neg (by omega), if_pos (by omega)] at fd60
        obtain ⟨t1, t2, t3⟩ := fd60
        have f20 : sg_g σ60 77 11 = sg_g σ 77 11 := by rw [sg_F_g f60 (by rfl), sg_F_g f2 (by rfl)]
        rw [f20] at t2
        rw [e105, t2]
        refine y_copy83 (by rw [u60]; omega) o60 t1 (fun σ' c f' l' s' o' _ => ⟨?_, c, _, s', fun hd i hi => ?_, fun z => ⟨o' z, fun d' hd => ?_, fun z2 _ i hi => ?_⟩⟩)
        · have ex := stR_ex s' f' rfl
          refine ⟨by rw [sg_F_g f' (by rfl)]; exact g60.1, ⟨by have := s'.1; omega, s'.2.1⟩, fun v a b => ?_, fun v v' a b a' b' => ?_⟩
          · rw [sg_F_g f' (by rfl)] at b
            have := g60.2.2.1 v a b
            have := s'.1
            rw [sg_F_ga (a := 80) f' rfl, sg_F_ga (a := 81) f' rfl]; omega
          · rw [sg_F_g f' (by rfl)] at b b'
            rw [sg_F_ga (a := 80) f' rfl, sg_F_ga (a := 81) f' rfl, sg_F_ga (a := 80) f' rfl, sg_F_ga (a := 81) f' rfl]
            exact g60.2.2.2 v v' a b a' b'
        · exact (t3 (D - L - 1) (by omega)).1 i (by omega)
        · have := (t3 d' hd).2
          have ex' := stR_ex s' f' rfl
          unfold fd
          rw [su_sh (g := sg_g σ60 83) (p := 0) (fun i hi => by rw [← u60, s'.2.2.1 i hi, show (0 : Int) + i = i by omega])]
          rw [show c = mm.toNat by have := o' z; omega]
          by_cases e1 : f = 1
          · rw [if_pos e1] at this
            rw [if_pos (by omega)]
            exact pkT_F this f' ex' rfl
          · rw [if_neg e1] at this
            rw [if_neg (by omega), if_neg (by omega)]
            exact fdS_F this f' ex' rfl
        · rw [sg_F_ga f60 rfl, sg_F_ga f2 rfl]
      · -- picks
        unfold fd at fd60
        rw [if_pos (by omega)] at fd60
        refine y_copyPicks g60 o60 fd60 (fun σ' c f' s' g' o' _ => ?_)
        obtain ⟨h, s1, s2⟩ := s'
        refine ⟨g', c, h, s1, fun hd => s2 (by omega), fun z => ⟨(o' z).1, fun d' hd => ?_, fun z2 z3 => by omega⟩⟩
        unfold fd
        rw [if_pos (by omega), ← u60]
        exact (o' z).2 d' hd
      · rintro σ66 f66 ⟨g66, c, h, s66, hl66, hz66⟩
        have su66 := s66.1
        have h6 := s66.2.1
        rw [u60] at su66
        have at52 : sx_at σ52 80 8000 (w + L) = u2 := by rw [xa_in ⟨by omega, by omega⟩, e52, sg_gw_e _ _ _ _ ru2]
        rw [at52, show sg_g σ66 77 16 - u2 = (c : Int) by omega]
        refine ⟨⟨by omega, by omega⟩, fun σ70 e70 => ?_⟩
        rw [xp_in ⟨by omega, by omega⟩] at e70
        have f70 : sg_F [81] σ66 σ70 := by rw [e70]; exact sg_F_w (sg_F_r _ _) rfl _
        have i81 : sg_g σ70 81 (w + L) = c := by rw [e70, sg_gw_e _ _ _ _ ⟨by omega, by omega⟩]
        have j80 : sg_g σ70 80 (w + L) = u2 := by rw [sg_F_ga f70 rfl, sg_F_ga f66 rfl]; exact i80
        have c70 : ∀ i : Nat, i < c → sg_g σ70 78 (u2 + i) = h i := fun i hi => by rw [sg_F_ga f70 rfl, ← u60]; exact s66.2.2.1 i hi
        have kk : ∀ σ76, sg_F [79] σ70 σ76 → ((L < D → ∀ i : Nat, i < c → sg_g σ76 79 (u2 + i) = su (sg_g σ70 78) u2 i) ∧ ∀ q, q < u2 → sg_g σ76 79 q = sg_g σ70 79 q) → sg_R (w + (L : Int) + 1) ∧ ∀ σ80, σ80 = sg_w σ76 77 10 (w + (L : Int) + 1) → sg_R ((L : Int) + 1) ∧ ∃ m', m' < m ∧ ∃ L' : Nat, (L : Int) + 1 = L' ∧ L' ≤ D + 1 ∧ m' = D + 1 - L' ∧ ((sg_g σ80 77 15 = 1 ∧ ∀ v, 0 ≤ v → v < w → sg_g σ80 80 v = sg_g σ 80 v) ∨ (sg_g σ80 77 15 = 0 ∧ yEx σ σ80 ∧ yG σ80 ∧ sg_g σ80 77 10 = w + L' ∧ (∀ l, l < L' → RF σ80 w n D l) ∧ (L' ≤ D → fd σ80 f L' (D - L') (lvN σ80 w n L')) ∧ (1 ≤ L' → sg_g σ80 80 w = u ∧ (1 ≤ f → ∀ i : Nat, (i : Int) < n → sg_g σ80 78 (u + i) = sg_g σ 83 i)) ∧ (L' = 0 → sg_g σ80 77 16 = u))) := by
          intro σ76 f76 ⟨hlo, hlq⟩
          refine ⟨⟨by omega, by omega⟩, fun σ80 e80 => ⟨⟨by omega, by omega⟩, D + 1 - (L + 1), by omega, L + 1, by omega, by omega, rfl, ?_⟩⟩
          have f80 : sg_F [11077] σ76 σ80 := by rw [e80]; exact sg_F_w (sg_F_r _ _) rfl _
          have f6680 : sg_F [79, 81, 11077] σ66 σ80 := sg_F_t (sg_F_t (sg_F_m f70 rfl) (sg_F_m f76 rfl)) (sg_F_m f80 rfl)
          have w80 : sg_g σ80 77 10 = w + L + 1 := by rw [e80, sg_gw_e _ _ _ _ ⟨by omega, by omega⟩]
          have o80 : sg_g σ80 77 15 = sg_g σ66 77 15 := sg_F_g f6680 rfl
          rcases s66.2.2.2.2 with o66 | o66
          rotate_left
          · refine Or.inl ⟨by rw [o80]; exact o66, fun v a b => ?_⟩
            rw [sg_F_ga f6680 rfl, sg_F_ga f66 rfl, (n60 v a (by omega)).1]
            exact (q2.2.1 v a (by rw [hw0]; exact b)).1
          right
          obtain ⟨z1, z2, z3⟩ := hz66 o66
          have u80 : sg_g σ80 77 16 = u2 + c := by rw [sg_F_g f6680 (by rfl)]; exact su66
          have r80 : ∀ v, 0 ≤ v → v < sg_g σ2 77 10 → sg_g σ80 80 v = sg_g σ2 80 v ∧ sg_g σ80 81 v = sg_g σ2 81 v ∧ sg_g σ80 82 v = sg_g σ2 82 v := fun v a b => by
            obtain ⟨n1, n2, n3⟩ := n60 v a b
            refine ⟨?_, ?_, ?_⟩
            · rw [sg_F_ga f6680 rfl, sg_F_ga f66 rfl, n1]
            · rw [sg_F_ga f80 rfl, sg_F_ga f76 rfl, e70, sg_gw_k _ _ _ _ _ _ (by omega), sg_F_ga f66 rfl, n2]
            · rw [sg_F_ga f6680 rfl, sg_F_ga f66 rfl, n3]
          have c80 : ∀ x, sg_g σ80 78 x = sg_g σ66 78 x := fun x => sg_F_ga f6680 rfl
          have s80 : ∀ x, x < u2 → sg_g σ80 78 x = sg_g σ2 78 x ∧ sg_g σ80 79 x = sg_g σ2 79 x := fun x hx => by
            refine ⟨?_, ?_⟩
            · rw [c80, s66.2.2.2.1 x (by omega), sg_F_ga f60 rfl]
            · rw [sg_F_ga f80 rfl, hlq x hx, sg_F_ga f70 rfl, sg_F_ga f66 rfl, sg_F_ga f60 rfl]
          have ex2 : yEx σ2 σ80 := by
            refine ⟨⟨by omega, by omega⟩, r80, fun x _ b => (s80 x (by omega)).1, fun v n a b i hi => ?_⟩
            obtain ⟨a1, a2, a3, a4, a5⟩ := a
            rw [(r80 v a1.1 a1.2).1, (s80 _ (by omega)).2, b i hi]
            exact (su_sh (fun j hj => (s80 _ (by omega)).1)).symm
          have h80' : sg_g σ80 80 (w + L) = u2 := by rw [sg_F_ga f80 rfl, sg_F_ga f76 rfl]; exact j80
          have h81' : sg_g σ80 81 (w + L) = c := by rw [sg_F_ga f80 rfl, sg_F_ga f76 rfl]; exact i81
          have g80 : yG σ80 := yG_new q3 (by omega) (by omega) (by omega) (fun v a b => ⟨(r80 v a b).1, (r80 v a b).2.1⟩) (by rw [q4, h80', h81', hu2]; omega)
          have lv : lvN σ80 w n L = mm := by rw [lvN_up ex2 q5]; exact hmm
          have lv1 : lvN σ80 w n (L + 1) = su (sg_g σ66 78) u2 c := by
            simp only [lvN]
            rw [h80', h81', Int.toNat_natCast]
            exact su_sh (fun i hi => c80 _)
          have rfL : RF σ80 w n D L := by
            unfold RF
            rw [lv]
            refine ⟨⟨by omega, by rw [h81']; omega, by omega, by omega, by omega⟩, fun hd => ⟨?_, fun i hi => ?_, fun i hi => ?_⟩⟩
            · rw [sg_F_ga f6680 rfl, sg_F_ga f66 rfl, i82, e57, if_neg (by omega), q4]
            · rw [h80', sg_F_ga f80 rfl, sg_F_ga f76 rfl, c70 i (by omega)]
              exact hl66 hd i (by omega)
            · rw [h80', sg_F_ga f80 rfl, hlo hd i (by omega)]
              exact (su_sh (fun j hj => by rw [sg_F_ga f80 rfl, sg_F_ga f76 rfl])).symm
          refine ⟨by rw [o80]; exact o66, yEx_t q2 ex2, g80, by omega, fun l hl => ?_, fun hle => ?_, fun _ => ?_, fun z => by omega⟩
          · by_cases e : l = L
            · subst e; exact rfL
            · exact RF_up ex2 (fun k hk => q5 k (by omega))
          · rw [lv1]
            exact fd_F (z2 _ (by omega)) f6680 (by
              refine ⟨⟨by rw [w80, sg_F_g f66 (by rfl), sg_F_g f60 (by rfl)]; omega, by rw [u80]; omega⟩, fun v a b => ?_, fun x _ _ => c80 x, fun v n a b i hi => ?_⟩
              · rw [sg_F_g f66 (by rfl), sg_F_g f60 (by rfl), q4] at b
                refine ⟨sg_F_ga f6680 rfl, ?_, sg_F_ga f6680 rfl⟩
                rw [sg_F_ga f80 rfl, sg_F_ga f76 rfl, e70, sg_gw_k _ _ _ _ _ _ (by omega)]
              · obtain ⟨a1, a2, a3, a4, a5⟩ := a
                rw [sg_F_g f66 (by rfl), sg_F_g f60 (by rfl), q4] at a1
                have a6 : sg_g σ66 80 v = sg_g σ2 80 v := by rw [sg_F_ga f66 rfl]; exact (n60 v a1.1 (by omega)).1
                have a7 := q3.2.2.1 v a1.1 (by omega)
                have a8 : sg_g σ2 81 v = n := by rw [← a2, sg_F_ga f66 rfl]; exact (n60 v a1.1 (by omega)).2.1.symm
                rw [sg_F_ga (a := 80) f6680 rfl, sg_F_ga (a := 79) f80 rfl, hlq _ (by omega), sg_F_ga (a := 79) f70 rfl, b i hi]
                exact (su_sh (fun j hj => c80 _)).symm) rfl
          · by_cases e : L = 0
            · subst e
              have hmn : mm = n := hmm.symm
              have hq8 := q8 rfl
              rw [show w + ((0 : Nat) : Int) = w by omega] at h80'
              refine ⟨by rw [h80', ← hq8], fun hf1 i hi => ?_⟩
              rw [sg_F_ga f80 rfl, sg_F_ga f76 rfl, ← hq8, c70 i (by omega)]
              exact z3 rfl hf1 i (by omega)
            · obtain ⟨t1, t2⟩ := q7 (by omega)
              have r0 := (q5 0 (by omega)).1
              simp only [lvN] at r0
              rw [show w + ((0 : Nat) : Int) = w by omega] at r0
              refine ⟨by rw [(r80 w (by omega) (by omega)).1]; exact t1, fun hf1 i hi => ?_⟩
              rw [(s80 _ (by have := r0.2.2.2.2; omega)).1]
              exact t2 hf1 i hi
        refine ⟨fun σ76 => (L < D → ∀ i : Nat, i < c → sg_g σ76 79 (u2 + i) = su (sg_g σ70 78) u2 i) ∧ ∀ q, q < u2 → sg_g σ76 79 q = sg_g σ70 79 q, ⟨fun hd => ⟨fun z => by omega, fun _ _ => rfl⟩, fun hd => ?_⟩, fun σ76 f76 hx => kk σ76 f76 hx⟩
        refine y_lay (n := c) (by rw [xa_in ⟨by omega, by omega⟩]; exact i81) (by omega) (fun _ => ⟨by omega, by rw [j80]; omega, by rw [j80]; omega⟩) (fun i hi => ?_) (fun σ' f' l1 l2 _ => ⟨fun _ i hi => ?_, fun q hq => l2 q (fun i hi => by rw [j80]; omega)⟩)
        · rw [j80, c70 i (by omega)]; exact hl66 (by omega) i (by omega)
        · have := l1 i (by omega)
          rw [j80] at this; exact this
  · rintro σ2 f2 hX
    have kR : ∀ σ19, sg_F [17077, 18077, 19077] σ2 σ19 → (¬ sg_g σ19 77 18 = 0 ∨ (sg_g σ19 77 18 = 0 ∧ sg_g σ19 77 16 = sg_g σ2 77 16 ∧ sg_g σ19 77 17 = sg_g σ 77 17 + 1 ∧ sg_g σ19 77 17 ≤ 2000 ∧ sg_g σ2 77 15 = 0)) → V_lReset σ19 (fun σ23 => sg_F [12077, 13077, 14077, 15077, 16077] σ19 σ23 → Q w σ23) := fun σ19 f19 h19 => by
      unfold V_lReset
      intro σ1 e1 σ4 e4 σ7 e7 σ10 e10 σ13 e13 f13
      have y013 : y0 σ13 := by
        refine ⟨?_, ?_, ?_, ?_, ?_⟩
        · rw [e13, sg_gw_k _ _ _ _ _ _ (by decide), e10, sg_gw_k _ _ _ _ _ _ (by decide), e7, sg_gw_k _ _ _ _ _ _ (by decide), e4, sg_gw_k _ _ _ _ _ _ (by decide), e1, sg_gw_e _ _ _ _ (by decide)]
        · rw [e13, sg_gw_k _ _ _ _ _ _ (by decide), e10, sg_gw_k _ _ _ _ _ _ (by decide), e7, sg_gw_k _ _ _ _ _ _ (by decide), e4, sg_gw_e _ _ _ _ (by decide)]
        · rw [e13, sg_gw_k _ _ _ _ _ _ (by decide), e10, sg_gw_k _ _ _ _ _ _ (by decide), e7, sg_gw_e _ _ _ _ (by decide)]
        · rw [e13, sg_gw_k _ _ _ _ _ _ (by decide), e10, sg_gw_e _ _ _ _ (by decide)]
        · rw [e13, sg_gw_e _ _ _ _ (by decide)]
      have F : sg_F [78, 79, 80, 81, 82, 85, 86, 87, 11077, 12077, 13077, 14077, 15077, 16077, 17077, 18077, 19077] σ σ13 := sg_F_t (sg_F_t (sg_F_m f2 rfl) (sg_F_m f19 rfl)) (sg_F_m f13 rfl)
      refine k σ13 F y013 ?_
      rcases h19 with z | ⟨z1, z2, z3, z4, z5⟩
      · refine Or.inl ⟨by rw [sg_F_g f13 (by rfl)]; exact z, fun v a b => ?_⟩
        rw [sg_F_ga f13 rfl, sg_F_ga f19 rfl]
        rcases hX with x | x
        · exact x.2 v a b
        · exact (x.2.1.2.1 v a (by rw [hw0]; exact b)).1
      · right
        rcases hX with x | ⟨x1, x2, x3, x4, x5, x6, x7⟩
        · omega
        have fx : sg_F [12077, 13077, 14077, 15077, 16077, 17077, 18077, 19077] σ2 σ13 := sg_F_t (sg_F_m f19 rfl) (sg_F_m f13 rfl)
        have ex : yEx σ2 σ13 := yEx_x (sg_F_g fx rfl) (by rw [sg_F_g f13 (by rfl)]; exact z2) (fun v _ _ => ⟨sg_F_ga fx rfl, sg_F_ga fx rfl, sg_F_ga fx rfl⟩) (fun x _ => ⟨sg_F_ga fx rfl, sg_F_ga fx rfl⟩)
        refine ⟨by rw [sg_F_g f13 (by rfl)]; exact z1, yEx_t x2 ex, yG_x x3 (sg_F_g fx rfl) (by rw [sg_F_g f13 (by rfl)]; exact z2) (fun v _ _ => ⟨sg_F_ga fx rfl, sg_F_ga fx rfl⟩), yV_up ex ?_, by rw [sg_F_g fx (by rfl)]; omega, by rw [sg_F_g f13 (by rfl)]; exact z3, by rw [sg_F_g f13 (by rfl)]; exact z4, by rw [sg_F_ga fx rfl]; exact x6, fun hf1 i hi => by rw [sg_F_ga fx rfl]; exact x7 hf1 i hi, oo⟩
        have := RF_V (σ := σ2) (w := w) (n := n) (D := D) (fun k hk => x5 k (by omega)) D 0 (by omega)
        simp only [lvN] at this
        rw [show w + ((0 : Nat) : Int) = w by omega] at this
        exact this
    refine ⟨fun σ19 => ¬ sg_g σ19 77 18 = 0 ∨ (sg_g σ19 77 18 = 0 ∧ sg_g σ19 77 16 = sg_g σ2 77 16 ∧ sg_g σ19 77 17 = sg_g σ 77 17 + 1 ∧ sg_g σ19 77 17 ≤ 2000 ∧ sg_g σ2 77 15 = 0), ⟨fun z σ28 e28 σ31 e31 => ?_, fun z => ?_⟩, fun σ19 f19 h19 => kR σ19 f19 h19⟩
    · left
      rw [e31, sg_gw_k _ _ _ _ _ _ (by decide), e28, sg_gw_e _ _ _ _ (by decide)]; decide
    · unfold V_lStep
      have t17 : sg_g σ2 77 17 = sg_g σ 77 17 := sg_F_g f2 rfl
      refine ⟨fun q => ⟨⟨by omega, by omega⟩, fun σ3 e3 _ f3 => ⟨fun _ σ41 e41 => ?_, fun y => absurd y (by decide)⟩⟩, fun q σ6 e6 _ f6 => ⟨fun y => absurd rfl y, fun _ σ44 e44 σ47 e47 => ?_⟩⟩
      · by_cases tz : sg_g σ 77 14 = 0
        · right
          refine ⟨by rw [e41, sg_gw_e _ _ _ _ (sg_Rg _ _ _)]; exact tz, ?_, ?_, ?_, z⟩
          · rw [e41, sg_gw_k _ _ _ _ _ _ (by decide), e3, sg_gw_k _ _ _ _ _ _ (by decide)]
          · rw [e41, sg_gw_k _ _ _ _ _ _ (by decide), e3, sg_gw_e _ _ _ _ ⟨by omega, by omega⟩, t17]
          · rw [e41, sg_gw_k _ _ _ _ _ _ (by decide), e3, sg_gw_e _ _ _ _ ⟨by omega, by omega⟩]; omega
        · left
          rw [e41, sg_gw_e _ _ _ _ (sg_Rg _ _ _)]; exact tz
      · left
        rw [e47, sg_gw_k _ _ _ _ _ _ (by decide), e44, sg_gw_e _ _ _ _ (by decide)]; decide
end SEA
