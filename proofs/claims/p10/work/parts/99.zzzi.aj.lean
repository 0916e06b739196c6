/-! TEXTS tell values apart; alike of both sides. -/
theorem dgs_b : ∀ (k : Nat) (s : Int), dgs (k + 1) s = dgs k (s / 10) ++ [48 + s % 10]
  | 0, s => by
    simp only [dgs, Int.pow_zero, Int.ediv_one, List.nil_append]
  | k + 1, s => by
    have ih := dgs_b k s
    have e : s / 10 ^ (k + 1) = s / 10 / 10 ^ k := by rw [Int.ediv_ediv_of_nonneg (by decide), Int.pow_succ, Int.mul_comm]
    have l : dgs (k + 1 + 1) s = (48 + s / 10 ^ (k + 1) % 10) :: dgs (k + 1) s := rfl
    have r : dgs (k + 1) (s / 10) = (48 + s / 10 / 10 ^ k % 10) :: dgs k (s / 10) := rfl
    rw [l, r, ih, e, List.cons_append]
theorem dgs_i : ∀ (k : Nat) (s s' : Int), 0 ≤ s → 0 ≤ s' → s < 10 ^ k → s' < 10 ^ k → dgs k s = dgs k s' → s = s'
  | 0, s, s', h1, h2, h3, h4, _ => by
    rw [Int.pow_zero] at h3 h4
    omega
  | k + 1, s, s', h1, h2, h3, h4, h => by
    rw [dgs_b, dgs_b] at h
    obtain ⟨a, b⟩ := List.append_inj h (by rw [dgs_l, dgs_l])
    have b' : 48 + s % 10 = 48 + s' % 10 := by
      have := List.cons.inj b
      exact this.1
    rw [Int.pow_succ] at h3 h4
    have := dgs_i k (s / 10) (s' / 10) (by omega) (by omega) (Int.ediv_lt_of_lt_mul (by decide) h3) (Int.ediv_lt_of_lt_mul (by decide) h4) a
    omega
theorem nDg_b {s : Int} (h : s ≤ 2147483648) : s < 10 ^ nDg s := by
  unfold nDg
  split
  · rw [show (10 : Int) ^ 1 = 10 from rfl]; assumption
  split
  · rw [show (10 : Int) ^ 2 = 100 from rfl]; assumption
  split
  · rw [show (10 : Int) ^ 3 = 1000 from rfl]; assumption
  split
  · rw [show (10 : Int) ^ 4 = 10000 from rfl]; assumption
  split
  · rw [show (10 : Int) ^ 5 = 100000 from rfl]; assumption
  split
  · rw [show (10 : Int) ^ 6 = 1000000 from rfl]; assumption
  split
  · rw [show (10 : Int) ^ 7 = 10000000 from rfl]; assumption
  split
  · rw [show (10 : Int) ^ 8 = 100000000 from rfl]; assumption
  split
  · rw [show (10 : Int) ^ 9 = 1000000000 from rfl]; assumption
  · rw [show (10 : Int) ^ 10 = 10000000000 from rfl]; omega
/-- what does not go on with a digit -/
def ndg (r : List Int) : Prop := ∀ c t, r = c :: t → ¬ (48 ≤ c ∧ c ≤ 57)
theorem dg_pre : ∀ (l m r r' : List Int), (∀ x ∈ l, 48 ≤ x ∧ x ≤ 57) → (∀ x ∈ m, 48 ≤ x ∧ x ≤ 57) → ndg r → ndg r' → l ++ r = m ++ r' → l = m ∧ r = r'
  | [], [], r, r', _, _, _, _, h => ⟨rfl, h⟩
  | [], y :: m, r, r', _, h2, h3, _, h => by
    have := h3 y (m ++ r') h
    exact absurd (h2 y (by simp)) this
  | x :: l, [], r, r', h1, _, _, h4, h => by
    have := h4 x (l ++ r) h.symm
    exact absurd (h1 x (by simp)) this
  | x :: l, y :: m, r, r', h1, h2, h3, h4, h => by
    obtain ⟨a, b⟩ := List.cons.inj h
    obtain ⟨c, d⟩ := dg_pre l m r r' (fun z hz => h1 z (by simp [hz])) (fun z hz => h2 z (by simp [hz])) h3 h4 b
    exact ⟨by rw [a, c], d⟩
theorem tN_i {x y : Int} {r r' : List Int} (hx : sg_R x) (hy : sg_R y) (h1 : ndg r) (h2 : ndg r') (h : txN x ++ r = txN y ++ r') : x = y ∧ r = r' := by
  have hx1 := hx.1
  have hx2 := hx.2
  have hy1 := hy.1
  have hy2 := hy.2
  have pos : ∀ s s' : Int, 0 ≤ s → 0 ≤ s' → s ≤ 2147483648 → s' ≤ 2147483648 → dgs (nDg s) s ++ r = dgs (nDg s') s' ++ r' → s = s' ∧ r = r' := fun s s' a b a' b' h => by
    obtain ⟨e1, e2⟩ := dg_pre _ _ _ _ (fun x hx => dgs_r hx) (fun x hx => dgs_r hx) h1 h2 h
    have el := congrArg List.length e1
    rw [dgs_l, dgs_l] at el
    have hs := nDg_b a'
    have hs' := nDg_b b'
    rw [el] at e1 hs
    exact ⟨dgs_i _ _ _ a b hs hs' e1, e2⟩
  have hd : ∀ s : Int, ∃ c t, dgs (nDg s) s = c :: t ∧ 48 ≤ c := fun s => by
    have n := (nDg_r s).1
    cases e : dgs (nDg s) s with
    | nil =>
      have := congrArg List.length e
      rw [dgs_l] at this
      simp only [List.length_nil] at this
      omega
    | cons c t => exact ⟨c, t, rfl, (dgs_r (k := nDg s) (s := s) (by rw [e]; simp)).1⟩
  unfold txN at h
  by_cases cx : x < 0
  · rw [if_pos cx] at h
    by_cases cy : y < 0
    · rw [if_pos cy] at h
      obtain ⟨-, b⟩ := List.cons.inj h
      obtain ⟨e1, e2⟩ := pos (-x) (-y) (by omega) (by omega) (by omega) (by omega) b
      exact ⟨by omega, e2⟩
    · rw [if_neg cy] at h
      obtain ⟨c, t, e, hc⟩ := hd y
      rw [e] at h
      obtain ⟨a, -⟩ := List.cons.inj h
      omega
  · rw [if_neg cx] at h
    by_cases cy : y < 0
    · rw [if_pos cy] at h
      obtain ⟨c, t, e, hc⟩ := hd x
      rw [e] at h
      obtain ⟨a, -⟩ := List.cons.inj h
      omega
    · rw [if_neg cy] at h
      exact pos x y (by omega) (by omega) (by omega) (by omega) h
/-- a text begins with a digit, a - or a [ -/
theorem tx_h (d : Nat) (v : vaF) : ∃ c t, txF d v = c :: t ∧ ¬ c = 93 := by
  cases d with
  | succ d => exact ⟨91, _, rfl, by decide⟩
  | zero =>
    have n := (txN_l (v [])).1
    cases e : txN (v []) with
    | nil => rw [e] at n; simp only [List.length_nil] at n; omega
    | cons c t =>
      refine ⟨c, t, e, fun q => ?_⟩
      have m : c ∈ txN (v []) := by rw [e]; simp
      unfold txN at m
      split at m
      · rcases List.mem_cons.mp m with w | w
        · omega
        · have := dgs_r w; omega
      · have := dgs_r m; omega
theorem nd_44 (t : List Int) : ndg (44 :: t) := fun c t' h => by
  obtain ⟨a, -⟩ := List.cons.inj h
  omega
theorem nd_93 (t : List Int) : ndg (93 :: t) := fun c t' h => by
  obtain ⟨a, -⟩ := List.cons.inj h
  omega
theorem nd_R (f : vaF → List Int) (l : List vaF) (r : List Int) : ndg (txR f l ++ 93 :: r) := by
  cases l with
  | nil => exact nd_93 r
  | cons w l => exact nd_44 _
theorem txF_i : ∀ (d : Nat) (v w : vaF) (r r' : List Int), vkF d v → vkF d w → ndg r → ndg r' → txF d v ++ r = txF d w ++ r' → imF d v = imF d w ∧ r = r'
  | 0, v, w, r, r', hv, hw, h1, h2, h => by
    obtain ⟨a, b⟩ := tN_i hv hw h1 h2 h
    exact ⟨by simp only [imF]; rw [a], b⟩
  | d + 1, v, w, r, r', hv, hw, h1, h2, h => by
    have ih := txF_i d
    have rr : ∀ (l l' : List vaF) (r r' : List Int), (∀ x ∈ l, vkF d x) → (∀ x ∈ l', vkF d x) → txR (txF d) l ++ 93 :: r = txR (txF d) l' ++ 93 :: r' → l.length = l'.length ∧ imL (imF d) l = imL (imF d) l' ∧ r = r' := fun l => by
      induction l with
      | nil =>
        intro l' r r' _ _ h
        cases l' with
        | nil => exact ⟨rfl, rfl, (List.cons.inj h).2⟩
        | cons y l' =>
          obtain ⟨a, -⟩ := List.cons.inj h
          exact absurd a (by decide)
      | cons x l ihl =>
        intro l' r r' hl hl' h
        cases l' with
        | nil =>
          obtain ⟨a, -⟩ := List.cons.inj h
          exact absurd a (by decide)
        | cons y l' =>
          simp only [txR, List.cons_append, List.append_assoc] at h
          obtain ⟨-, b⟩ := List.cons.inj h
          obtain ⟨c1, c2⟩ := ih x y _ _ (hl x (by simp)) (hl' y (by simp)) (nd_R _ _ _) (nd_R _ _ _) b
          obtain ⟨d1, d2, d3⟩ := ihl l' r r' (fun z hz => hl z (by simp [hz])) (fun z hz => hl' z (by simp [hz])) c2
          exact ⟨by simp only [List.length_cons, d1], by simp only [imL, c1, d2], d3⟩
    simp only [txF, List.cons_append, List.append_assoc, List.nil_append] at h
    obtain ⟨-, b⟩ := List.cons.inj h
    have key : (itF v).length = (itF w).length ∧ imL (imF d) (itF v) = imL (imF d) (itF w) ∧ r = r' := by
      have kv := hv.2
      have kw := hw.2
      generalize itF v = l at b kv
      generalize itF w = l' at b kw
      cases l with
      | nil =>
        cases l' with
        | nil => exact ⟨rfl, rfl, (List.cons.inj b).2⟩
        | cons y l' =>
          obtain ⟨c, t, e, hc⟩ := tx_h d y
          simp only [txL, List.nil_append, List.append_assoc] at b
          rw [e] at b
          obtain ⟨a, -⟩ := List.cons.inj b
          exact absurd a.symm hc
      | cons x l =>
        cases l' with
        | nil =>
          obtain ⟨c, t, e, hc⟩ := tx_h d x
          simp only [txL, List.nil_append, List.append_assoc] at b
          rw [e] at b
          obtain ⟨a, -⟩ := List.cons.inj b
          exact absurd a hc
        | cons y l' =>
          simp only [txL, List.append_assoc] at b
          obtain ⟨c1, c2⟩ := ih x y _ _ (kv x (by simp)) (kw y (by simp)) (nd_R _ _ _) (nd_R _ _ _) b
          obtain ⟨d1, d2, d3⟩ := rr l l' r r' (fun z hz => kv z (by simp [hz])) (fun z hz => kw z (by simp [hz])) c2
          exact ⟨by simp only [List.length_cons, d1], by simp only [imL, c1, d2], d3⟩
    exact ⟨by simp only [imF]; rw [key.1, key.2.1], key.2.2⟩
theorem imF_i : ∀ (d : Nat) (v w : vaF) (r r' : List Int), imF d v ++ r = imF d w ++ r' → txF d v = txF d w ∧ r = r'
  | 0, v, w, r, r', h => by
    obtain ⟨a, b⟩ := List.cons.inj h
    exact ⟨by simp only [txF]; rw [a], b⟩
  | d + 1, v, w, r, r', h => by
    have ih := imF_i d
    have rr : ∀ (l l' : List vaF) (r r' : List Int), l.length = l'.length → imL (imF d) l ++ r = imL (imF d) l' ++ r' → txL (txF d) l = txL (txF d) l' ∧ txR (txF d) l = txR (txF d) l' ∧ r = r' := fun l => by
      induction l with
      | nil =>
        intro l' r r' hl h
        cases l' with
        | nil => exact ⟨rfl, rfl, h⟩
        | cons y l' => simp only [List.length_nil, List.length_cons] at hl; omega
      | cons x l ihl =>
        intro l' r r' hl h
        cases l' with
        | nil => simp only [List.length_nil, List.length_cons] at hl; omega
        | cons y l' =>
          simp only [imL, List.append_assoc] at h
          obtain ⟨a, b⟩ := ih x y _ _ h
          obtain ⟨c1, c2, c3⟩ := ihl l' r r' (by simp only [List.length_cons] at hl; omega) b
          exact ⟨by simp only [txL, a, c2], by simp only [txR, a, c2], c3⟩
    simp only [imF, List.cons_append] at h
    obtain ⟨a, b⟩ := List.cons.inj h
    obtain ⟨c1, c2, c3⟩ := rr (itF v) (itF w) r r' (by omega) b
    exact ⟨by simp only [txF, c1], c3⟩
/-- texts are alike just where images are -/
theorem tx_im {d : Nat} {v w : vaF} (hv : vkF d v) (hw : vkF d w) : txF d v = txF d w ↔ imF d v = imF d w := by
  refine ⟨fun h => ?_, fun h => ?_⟩
  · exact (txF_i d v w [] [] hv hw (fun c t h => by cases h) (fun c t h => by cases h) (by rw [List.append_nil, List.append_nil]; exact h)).1
  · exact (imF_i d v w [] [] (by rw [List.append_nil, List.append_nil]; exact h)).1
theorem l_ext {l m : List Int} (hl : l.length = m.length) (h : ∀ (i : Nat) (x y : Int), l[i]? = some x → m[i]? = some y → x = y) : l = m := by
  apply List.ext_getElem?
  intro i
  rcases Nat.lt_or_ge i l.length with q | q
  · have g1 : l[i]? = some l[i] := List.getElem?_eq_getElem q
    have g2 : m[i]? = some (m[i]'(by omega)) := List.getElem?_eq_getElem (by omega)
    rw [g1, g2, h i _ _ g1 g2]
  · rw [List.getElem?_eq_none q, List.getElem?_eq_none (by omega)]
/-- same of both images -/
theorem m_same {σ : sg_S} {d : Nat} {v w : vaF} {Q : Int → sg_S → Prop} (hc : cShw 49 51 52 σ d v) (hc' : cShw 65 67 68 σ d w) (hl : (imF d v).length ≤ 3001) (hl' : (imF d w).length ≤ 6001) (k1 : imF d v = imF d w → Q 1 σ) (k0 : ¬ imF d v = imF d w → Q 0 σ) : V_iSame4965 σ Q := by
  obtain ⟨-, -, c1, c2⟩ := hc
  obtain ⟨-, -, d1, d2⟩ := hc'
  unfold V_iSame4965
  rw [c1, d1]
  refine ⟨fun el => ⟨fun n x => (0 ≤ x ∧ x ≤ (imF d v).length) ∧ n = ((imF d v).length - x).toNat ∧ ∀ (i : Nat) (a b : Int), (i : Int) < x → (imF d v)[i]? = some a → (imF d w)[i]? = some b → a = b, imF d v = imF d w, ⟨_, ⟨Int.le_refl _, by omega⟩, rfl, fun i a b h => by omega⟩, ?_, k1⟩, fun el => k0 (fun e => el (by rw [e]))⟩
  rintro n x rx ⟨⟨x0, x1⟩, en, hx⟩
  refine ⟨fun h => l_ext (by omega) (fun i a b ha hb => hx i a b (by have := gE_l ha; omega) ha hb), fun h => ?_⟩
  obtain ⟨a, ha⟩ : ∃ a, (imF d v)[x.toNat]? = some a := ⟨_, List.getElem?_eq_getElem (by omega)⟩
  obtain ⟨b, hb⟩ : ∃ b, (imF d w)[x.toNat]? = some b := ⟨_, List.getElem?_eq_getElem (by omega)⟩
  have ga := c2 x.toNat a ha
  have gb := d2 x.toNat b hb
  rw [show ((x.toNat : Nat) : Int) = x by omega] at ga gb
  rw [xa_in ⟨by omega, by omega⟩, xa_in ⟨by omega, by omega⟩, ga, gb]
  refine ⟨fun e => ⟨⟨by omega, by omega⟩, _, ?_, ⟨by omega, by omega⟩, rfl, fun i a' b' hi ha' hb' => ?_⟩, fun e => k0 (fun q => e ?_)⟩
  · omega
  · by_cases c : i = x.toNat
    · rw [c] at ha' hb'
      rw [ha] at ha'
      rw [hb] at hb'
      cases ha'
      cases hb'
      exact e
    · exact hx i a' b' (by omega) ha' hb'
  · rw [q] at ha
    rw [ha] at hb
    exact Option.some.inj hb
section LVA
variable {σ : sg_S}
theorem lv_alike (z : Value) (h : lwV σ) : lwP5 z 2 3 [(0, .inr (.inr (.ref 0)))] 0 213 [(0, .inr (.inr (.ref 88)))] σ (fun q q' => q' = q) := by
  obtain ⟨hI, hZ, ⟨n1, n2⟩, g1, g2⟩ := id h
  have h76 := hI.2.2.2.2.2.2.2.2.1
  -- the reference answers q
  have ref : ∀ q : Int, V_alike σ (fun q' σ' => q' = q ∧ σ' = sg_w σ 88 0 0) → wx z 0 213 0 [(0, .inr (.inr (.ref 88)))] [] σ (lwA (fun q' σ' => q' = q ∧ lwV σ')) := fun q hq => by
    refine wk_post (w_alike z σ (fun q' σ' => q' = q ∧ σ' = sg_w σ 88 0 0) hq) ?_
    rintro v σ' ⟨q', e, r, f9, w1, w2⟩
    exact ⟨q', e, r, w1, lw_1088 hI w2, lkV_F h.2 f9 rfl⟩
  refine wk_post (w_cAlike z σ (fun q σ1 => wx z 0 213 0 [(0, .inr (.inr (.ref 88)))] [] σ (lwA (fun q' σ' => q' = q ∧ lwV σ'))) ?_) (by rintro v σ' ⟨q, e, r, f9, w⟩; rw [← f9]; exact ⟨q, e, r, w⟩)
  unfold V_cAlike
  rw [n1, g1]
  refine ⟨fun y => ref (-4) ?_, fun y => ⟨fun y2 => ref (-4) ?_, fun y2 => ?_⟩⟩
  · unfold V_alike
    intro σ1 e1
    exact ⟨fun _ => ⟨rfl, e1⟩, fun w => absurd y w⟩
  · unfold V_alike
    intro σ1 e1
    exact ⟨fun w => absurd w y, fun _ => ⟨fun _ => ⟨rfl, e1⟩, fun w => absurd y2 w⟩⟩
  obtain ⟨m1, m2⟩ := n2.resolve_left y
  obtain ⟨p1, p2⟩ := g2.resolve_left y2
  rw [m1, p1]
  -- what the reference says, by its ends
  have far : ∀ q : Int, (6 < sg_g σ 88 53 ∨ 6 < sg_g σ 88 83 → q = -4) → (sg_g σ 88 53 ≤ 6 → sg_g σ 88 83 ≤ 6 → ¬ sg_g σ 88 53 = 0 → ¬ sg_g σ 88 83 = 0 → q = 2) → (sg_g σ 88 53 ≤ 6 → sg_g σ 88 83 ≤ 6 → ¬ sg_g σ 88 53 = 0 → sg_g σ 88 83 = 0 → q = 0) → (sg_g σ 88 53 ≤ 6 → sg_g σ 88 83 ≤ 6 → sg_g σ 88 53 = 0 → ¬ sg_g σ 88 83 = 0 → q = 0) → (sg_g σ 88 53 = 0 → sg_g σ 88 83 = 0 → ∃ v w, (txF (kT σ) v).length ≤ 79000 ∧ rShw 76 0 σ (kT σ) v ∧ rShw 77 80000 σ (kT σ) w ∧ (txF (kT σ) v = txF (kT σ) w → q = 1) ∧ (¬ txF (kT σ) v = txF (kT σ) w → q = 0)) → wx z 0 213 0 [(0, .inr (.inr (.ref 88)))] [] σ (lwA (fun q' σ' => q' = q ∧ lwV σ')) := fun q q1 q2 q3 q3' q4 => ref q (by
    unfold V_alike
    intro σ1 e1
    refine ⟨fun w => absurd w y, fun _ => ⟨fun w => absurd w y2, fun _ => ⟨fun w => ⟨(q1 (Or.inl w)).symm, e1⟩, fun b6 => ⟨fun b8 => ⟨fun z5 => ⟨fun w => absurd w z5, fun _ => ⟨fun z8 => ⟨(q3 b6 b8 z5 z8).symm, e1⟩, fun z8 => ⟨(q2 b6 b8 z5 z8).symm, e1⟩⟩⟩, fun z5 => ⟨fun z8 v14 e14 r14 => ?_, fun z8 => ⟨fun _ => ⟨(q3' b6 b8 z5 z8).symm, e1⟩, fun w => absurd z5 w⟩⟩⟩, fun w => ⟨(q1 (Or.inr w)).symm, e1⟩⟩⟩⟩⟩
    obtain ⟨v, w, lv, ⟨s1, s2⟩, ⟨u1, u2⟩, a1, a0⟩ := q4 z5 z8
    rw [s1, u1] at e14
    rw [s1]
    refine ⟨fun n x i => (0 ≤ i ∧ i ≤ (txF (kT σ) v).length) ∧ n = ((txF (kT σ) v).length - i).toNat ∧ ((x = 1 ∧ (txF (kT σ) v).length = (txF (kT σ) w).length ∧ ∀ (j : Nat) (a b : Int), (j : Int) < i → (txF (kT σ) v)[j]? = some a → (txF (kT σ) w)[j]? = some b → a = b) ∨ (x = 0 ∧ ¬ txF (kT σ) v = txF (kT σ) w)), fun x => (x = 1 ∧ txF (kT σ) v = txF (kT σ) w) ∨ (x = 0 ∧ ¬ txF (kT σ) v = txF (kT σ) w), ⟨_, ⟨Int.le_refl _, by omega⟩, rfl, ?_⟩, ?_, ?_⟩
    · by_cases c : ((txF (kT σ) v).length : Int) = (txF (kT σ) w).length
      · rw [if_neg (fun w => w c)] at e14
        exact Or.inl ⟨e14, by omega, fun j a b hj => by omega⟩
      · rw [if_pos c] at e14
        exact Or.inr ⟨e14, fun e => c (by rw [e])⟩
    · rintro n x i rx ri ⟨⟨i0, i1⟩, en, hx⟩
      refine ⟨fun hi => ?_, fun hi => ⟨fun x0 => ?_, fun x0 => ?_⟩⟩
      · rcases hx with ⟨x1, x2, x3⟩ | ⟨x1, x2⟩
        · exact Or.inl ⟨x1, l_ext x2 (fun j a b ha hb => x3 j a b (by have := gE_l ha; omega) ha hb)⟩
        · exact Or.inr ⟨x1, x2⟩
      · rcases hx with ⟨x1, x2, x3⟩ | ⟨x1, x2⟩
        · rw [x0] at x1; cases x1
        · exact Or.inr ⟨x1, x2⟩
      · rcases hx with ⟨x1, x2, x3⟩ | ⟨x1, x2⟩
        rotate_left
        · exact absurd x1 x0
        obtain ⟨a, ha⟩ : ∃ a, (txF (kT σ) v)[i.toNat]? = some a := ⟨_, List.getElem?_eq_getElem (by omega)⟩
        obtain ⟨b, hb⟩ : ∃ b, (txF (kT σ) w)[i.toNat]? = some b := ⟨_, List.getElem?_eq_getElem (by omega)⟩
        have ga := s2 i.toNat a ha
        have gb := u2 i.toNat b hb
        rw [show ((i.toNat : Nat) : Int) = i by omega] at ga gb
        rw [Int.zero_add] at ga
        refine ⟨⟨by omega, by omega⟩, ⟨by omega, by omega⟩, ⟨by omega, by omega⟩, fun v42 e42 r42 => ⟨⟨by omega, by omega⟩, _, ?_, ⟨by omega, by omega⟩, rfl, ?_⟩⟩
        · omega
        · rw [ga, gb] at e42
          by_cases c : a = b
          · rw [if_neg (fun w => w c)] at e42
            refine Or.inl ⟨e42, x2, fun j a' b' hj ha' hb' => ?_⟩
            by_cases cj : j = i.toNat
            · rw [cj] at ha' hb'
              rw [ha] at ha'
              rw [hb] at hb'
              cases ha'
              cases hb'
              exact c
            · exact x3 j a' b' (by omega) ha' hb'
          · rw [if_pos c] at e42
            refine Or.inr ⟨e42, fun e => c ?_⟩
            rw [e] at ha
            rw [ha] at hb
            exact Option.some.inj hb
    · rintro x rx hx
      rcases hx with ⟨x1, x2⟩ | ⟨x1, x2⟩
      · exact ⟨fun w => (by rw [w] at x1; cases x1), fun _ => ⟨(a1 x2).symm, e1⟩⟩
      · exact ⟨fun _ => ⟨(a0 x2).symm, e1⟩, fun w => absurd x1 w⟩)
  have both : sg_g σ 88 53 = 0 → sg_g σ 88 83 = 0 → V_iSame4965 σ (fun q8 _ => (q8 = 0 ∨ q8 = 1) → ((q8 = 0 → wx z 0 213 0 [(0, .inr (.inr (.ref 88)))] [] σ (lwA (fun q' σ' => q' = 0 ∧ lwV σ'))) ∧ (¬ q8 = 0 → wx z 0 213 0 [(0, .inr (.inr (.ref 88)))] [] σ (lwA (fun q' σ' => q' = 1 ∧ lwV σ'))))) := fun z5 z8 => by
    obtain ⟨-, v, a1, a2, a3, a4, a5⟩ := m2.resolve_left (fun w => w z5)
    obtain ⟨-, w, b1, b2, b3, b4, b5⟩ := p2.resolve_left (fun w => w z8)
    have ti := tx_im a5 b5
    refine m_same a3 b3 a2 b2 (fun e _ => ⟨fun w => (by cases w), fun _ => ?_⟩) (fun e _ => ⟨fun _ => ?_, fun w => absurd rfl w⟩)
    · exact far 1 (fun w => by omega) (fun _ _ w => absurd z5 w) (fun _ _ w => absurd z5 w) (fun _ _ _ w => absurd z8 w) (fun _ _ => ⟨v, w, a1, a4, b4, fun _ => rfl, fun w => absurd (ti.mpr e) w⟩)
    · exact far 0 (fun w => by omega) (fun _ _ w => absurd z5 w) (fun _ _ w => absurd z5 w) (fun _ _ _ w => absurd z8 w) (fun _ _ => ⟨v, w, a1, a4, b4, fun w => absurd (ti.mp w) e, fun _ => rfl⟩)
  refine ⟨fun y7 => far (-4) (fun _ => rfl) (fun w => by omega) (fun w => by omega) (fun w => by omega) (fun w => by omega), fun y7 => ⟨fun y8 => ⟨fun z5 => ⟨fun w => absurd z5 w, fun _ => ⟨fun z8 => both z5 z8, fun z8 => ?_⟩⟩, fun z5 => ⟨fun z8 => ⟨fun _ => ?_, fun w => absurd w z5⟩, fun z8 => ?_⟩⟩, fun y8 => far (-4) (fun _ => rfl) (fun _ w => by omega) (fun _ w => by omega) (fun _ w => by omega) (fun _ w => by omega)⟩⟩
  · exact far 0 (fun w => by omega) (fun _ _ w => absurd z5 w) (fun _ _ w => absurd z5 w) (fun _ _ _ _ => rfl) (fun _ w => absurd w z8)
  · exact far 0 (fun w => by omega) (fun _ _ _ w => absurd z8 w) (fun _ _ _ _ => rfl) (fun _ _ w => absurd w z5) (fun w => absurd w z5)
  · exact far 2 (fun w => by omega) (fun _ _ _ _ => rfl) (fun _ _ _ w => absurd w z8) (fun _ _ w => absurd w z5) (fun w => absurd w z5)
end LVA
/-! THE WALK of look once more, with cameAt: how many names are known when a binder comes. -/
/-- cameAt of g binders of n from m names on -/
def kCg (n : Int) : Nat → Nat → (Int → Int) → (Int → Int)
  | 0, _, C => C
  | g + 1, m, C => aU (kCg n g m C) (210 + 4 * n + (g : Int)) ((m + g : Nat) : Int)
/-- cameAt behind what is bound at stage s of n -/
def kCb (A : aT) (e : kE) (n : Int) (s : Nat) (C : Int → Int) : Int → Int := if A.2.1 n = 2 ∧ s = 1 then aU C n (e.length : Int) else if A.2.1 n = 15 ∧ s = (A.2.2.2.2.2 n).length then kCg n (A.2.2.2.2.2 n).length e.length C else C
theorem kCb_no {A : aT} {n : Int} {s : Nat} (h : kNo A n s) {e : kE} {C : Int → Int} : kCb A e n s C = C := by
  unfold kCb; rw [if_neg h.1, if_neg h.2]
def kCoR (go : Nat → Int → (Int → Int) → (Int → Int)) (m : Nat) : List Int → (Int → Int) → (Int → Int)
  | [], C => C
  | x :: r, C => kCoR go m r (go m x C)
/-- cameAt once n is looked through, m names being known -/
def kCo (A : aT) : Nat → Nat → Int → (Int → Int) → (Int → Int)
  | 0, _, _, C => C
  | f + 1, m, n, C => if A.2.1 n = 2 then (match A.2.2.2.2.1 n with
      | a :: r => kCoR (kCo A f) (m + 1) r (aU (kCo A f m a C) n (m : Int))
      | [] => C)
    else if A.2.1 n = 15 then (match A.2.2.2.2.1 n with
      | body :: r => kCoR (kCo A f) (m + (A.2.2.2.2.2 n).length) (r.drop (A.2.2.2.2.2 n).length ++ [body]) (kCg n (A.2.2.2.2.2 n).length m (kCoR (kCo A f) m (r.take (A.2.2.2.2.2 n).length) C))
      | [] => C)
    else kCoR (kCo A f) m (A.2.2.2.2.1 n) C
/-- the walk stands: all is done, or a fault -/
def c4kSt (A : aT) (ds : kD) (r : Option ((Int → Int) × (Int → Int))) (cm c : Nat) (p : List (Int × Int)) (e : kE) (T C : Int → Int) : Prop := (p = [] ∧ c ≤ cm ∧ r = some (T, C)) ∨ ∃ (n : Int) (s : Nat) (p' : List (Int × Int)), p = (n, (s : Int)) :: p' ∧ kNd A T n s ∧ e.length ≤ 250 ∧ p'.length ≤ 400 ∧ ((A.2.1 n = 15 ∧ s = (A.2.2.2.2.2 n).length ∧ kGens T (A.2.2.2.2.2 n) (kGs A n) = false ∧ (kBd A T e n s).length + c ≤ 272 + e.length ∧ r = none) ∨ (s = (kOrd A n).length ∧ kBn A n ≤ e.length ∧ ((∀ q ∈ e.drop (kBn A n), kIn q.2) ∧ kDi ds T) ∧ kTy A ds T (e.drop (kBn A n)) n ((A.2.2.2.2.1 n).map T) = none ∧ r = none))
/-- one turn of it; c: how many names were bound so far -/
def c4kSp (A : aT) (ds : kD) (go : Nat → List (Int × Int) → kE → (Int → Int) → (Int → Int) → Prop) (c : Nat) (p : List (Int × Int)) (e : kE) (T C : Int → Int) : Prop := ∃ (n : Int) (s : Nat) (p' : List (Int × Int)), p = (n, (s : Int)) :: p' ∧ kNd A T n s ∧ e.length ≤ 250 ∧ p'.length ≤ 400 ∧ ((∃ x, (A.2.1 n = 15 → s = (A.2.2.2.2.2 n).length → kGens T (A.2.2.2.2.2 n) (kGs A n) = true) ∧ (kOrd A n)[s]? = some x ∧ ¬ x = n ∧ (∀ y ∈ p', ¬ y.1 = x) ∧ e.length ≤ (kBd A T e n s).length ∧ (kBd A T e n s).length + c ≤ 272 + e.length ∧ go (c + ((kBd A T e n s).length - e.length)) ((x, 0) :: (n, ((s + 1 : Nat) : Int)) :: p') (kBd A T e n s) T (kCb A e n s C)) ∨ (∃ ty, s = (kOrd A n).length ∧ kBn A n ≤ e.length ∧ ((∀ q ∈ e.drop (kBn A n), kIn q.2) ∧ kDi ds T) ∧ kTy A ds T (e.drop (kBn A n)) n ((A.2.2.2.2.1 n).map T) = some ty ∧ go c p' (e.drop (kBn A n)) (aU T n ty) C))
def c4kRun (A : aT) (ds : kD) (r : Option ((Int → Int) × (Int → Int))) (cm : Nat) : Nat → Nat → List (Int × Int) → kE → (Int → Int) → (Int → Int) → Prop
  | 0, c, p, e, T, C => c4kSt A ds r cm c p e T C
  | m + 1, c, p, e, T, C => c4kSt A ds r cm c p e T C ∨ c4kSp A ds (c4kRun A ds r cm m) c p e T C
theorem c4kRun_s {A : aT} {ds : kD} {r : Option ((Int → Int) × (Int → Int))} {cm c : Nat} {p : List (Int × Int)} {e : kE} {T C : Int → Int} (h : c4kSt A ds r cm c p e T C) : ∀ m, c4kRun A ds r cm m c p e T C
  | 0 => h
  | _ + 1 => Or.inl h
theorem c4kRun_nil {A : aT} {ds : kD} {r : Option ((Int → Int) × (Int → Int))} {cm : Nat} (m c : Nat) (e : kE) (T C : Int → Int) (a : c ≤ cm) (b : r = some (T, C)) : c4kRun A ds r cm m c [] e T C := c4kRun_s (Or.inl ⟨rfl, a, b⟩) m
theorem c4kRun_gen {A : aT} {ds : kD} {r : Option ((Int → Int) × (Int → Int))} {cm : Nat} (m c : Nat) (n : Int) (s : Nat) (p : List (Int × Int)) (e : kE) (T C : Int → Int) (h1 : kNd A T n s) (h2 : e.length ≤ 250) (h3 : p.length ≤ 400) (h4 : A.2.1 n = 15) (h5 : s = (A.2.2.2.2.2 n).length) (h6 : kGens T (A.2.2.2.2.2 n) (kGs A n) = false) (h7 : (kBd A T e n s).length + c ≤ 272 + e.length) (h8 : r = none) : c4kRun A ds r cm m c ((n, (s : Int)) :: p) e T C := c4kRun_s (Or.inr ⟨n, s, p, rfl, h1, h2, h3, Or.inl ⟨h4, h5, h6, h7, h8⟩⟩) m
theorem c4kRun_psh {A : aT} {ds : kD} {r : Option ((Int → Int) × (Int → Int))} {cm : Nat} (m c : Nat) (n : Int) (s : Nat) (p : List (Int × Int)) (e : kE) (T C : Int → Int) (x : Int) (h1 : kNd A T n s) (h2 : e.length ≤ 250) (h3 : p.length ≤ 400) (h4 : A.2.1 n = 15 → s = (A.2.2.2.2.2 n).length → kGens T (A.2.2.2.2.2 n) (kGs A n) = true) (h5 : (kOrd A n)[s]? = some x) (h6 : ¬ x = n) (h7 : ∀ y ∈ p, ¬ y.1 = x) (h8 : e.length ≤ (kBd A T e n s).length) (h9 : (kBd A T e n s).length + c ≤ 272 + e.length) (h : c4kRun A ds r cm m (c + ((kBd A T e n s).length - e.length)) ((x, 0) :: (n, ((s + 1 : Nat) : Int)) :: p) (kBd A T e n s) T (kCb A e n s C)) : c4kRun A ds r cm (m + 1) c ((n, (s : Int)) :: p) e T C := Or.inr ⟨n, s, p, rfl, h1, h2, h3, Or.inl ⟨x, h4, h5, h6, h7, h8, h9, h⟩⟩
theorem c4kRun_bad {A : aT} {ds : kD} {r : Option ((Int → Int) × (Int → Int))} {cm : Nat} (m c : Nat) (n : Int) (s : Nat) (p : List (Int × Int)) (e : kE) (T C : Int → Int) (h1 : kNd A T n s) (h2 : e.length ≤ 250) (h3 : p.length ≤ 400) (h4 : s = (kOrd A n).length) (h5 : kBn A n ≤ e.length) (h6 : (∀ q ∈ e.drop (kBn A n), kIn q.2) ∧ kDi ds T) (h7 : kTy A ds T (e.drop (kBn A n)) n ((A.2.2.2.2.1 n).map T) = none) (h8 : r = none) : c4kRun A ds r cm m c ((n, (s : Int)) :: p) e T C := c4kRun_s (Or.inr ⟨n, s, p, rfl, h1, h2, h3, Or.inr ⟨h4, h5, h6, h7, h8⟩⟩) m
theorem c4kRun_pop {A : aT} {ds : kD} {r : Option ((Int → Int) × (Int → Int))} {cm : Nat} (m c : Nat) (n : Int) (s : Nat) (p : List (Int × Int)) (e : kE) (T C : Int → Int) (ty : Int) (h1 : kNd A T n s) (h2 : e.length ≤ 250) (h3 : p.length ≤ 400) (h4 : s = (kOrd A n).length) (h5 : kBn A n ≤ e.length) (h6 : (∀ q ∈ e.drop (kBn A n), kIn q.2) ∧ kDi ds T) (h7 : kTy A ds T (e.drop (kBn A n)) n ((A.2.2.2.2.1 n).map T) = some ty) (h : c4kRun A ds r cm m c p (e.drop (kBn A n)) (aU T n ty) C) : c4kRun A ds r cm (m + 1) c ((n, (s : Int)) :: p) e T C := Or.inr ⟨n, s, p, rfl, h1, h2, h3, Or.inr ⟨ty, h4, h5, h6, h7, h⟩⟩
theorem c4kSp_up {A : aT} {ds : kD} {go go' : Nat → List (Int × Int) → kE → (Int → Int) → (Int → Int) → Prop} (hg : ∀ c p e T C, go c p e T C → go' c p e T C) {c : Nat} {p : List (Int × Int)} {e : kE} {T C : Int → Int} (h : c4kSp A ds go c p e T C) : c4kSp A ds go' c p e T C := by
  obtain ⟨n, s, p', h0, h1, h2, h3, h4⟩ := h
  refine ⟨n, s, p', h0, h1, h2, h3, ?_⟩
  rcases h4 with ⟨x, a1, a2, a3, a4, a5, a6, a7⟩ | ⟨ty, a1, a2, a3, a4, a5⟩
  · exact Or.inl ⟨x, a1, a2, a3, a4, a5, a6, hg _ _ _ _ _ a7⟩
  · exact Or.inr ⟨ty, a1, a2, a3, a4, hg _ _ _ _ _ a5⟩
theorem c4kRun_up {A : aT} {ds : kD} {r : Option ((Int → Int) × (Int → Int))} {cm : Nat} : ∀ {m c : Nat} {p : List (Int × Int)} {e : kE} {T C : Int → Int}, c4kRun A ds r cm m c p e T C → ∀ m', m ≤ m' → c4kRun A ds r cm m' c p e T C
  | 0, _, _, _, _, _, h, m', _ => c4kRun_s h m'
  | m + 1, _, _, _, _, _, h, m', hm => by
    rcases h with h | h
    · exact c4kRun_s h m'
    · obtain ⟨k, rfl⟩ : ∃ k, m' = k + 1 := ⟨m' - 1, by omega⟩
      exact Or.inr (c4kSp_up (fun c p e T C q => c4kRun_up q k (by omega)) h)
/-- what is to be shown of a node at fuel f -/
def c4kNL (A : aT) (ds : kD) (f : Nat) : Prop := ∀ (r : Option ((Int → Int) × (Int → Int))) (cm m c : Nat) (n : Int) (L : List Int) (p : List (Int × Int)) (e : kE) (T C : Int → Int), fT A [n] L → (∀ x ∈ L, 0 ≤ x ∧ x < A.1) → L.Nodup → (∀ y ∈ p, y.1 ∉ L) → L.length ≤ f → e.length + L.length ≤ 250 → p.length + L.length ≤ 400 → c + L.length ≤ 272 → kDi ds T → (∀ q ∈ e, kIn q.2) → (kGo A ds f e n T = none → r = none) → (∀ T1 c', kGo A ds f e n T = some T1 → c ≤ c' → c' ≤ c + L.length - 1 → c4kRun A ds r cm m c' p e T1 (kCo A f e.length n C)) → c4kRun A ds r cm (m + (2 * L.length - 1)) c ((n, 0) :: p) e T C
theorem c4kRow_run {A : aT} {ds : kD} {f : Nat} (N : c4kNL A ds f) {r : Option ((Int → Int) × (Int → Int))} {cm m : Nat} {n : Int} {p : List (Int × Int)} {e : kE} {R2 : List Int} (he : ∀ q ∈ e, kIn q.2) : ∀ (R L : List Int) (c s : Nat) (T C : Int → Int), fT A R L → (∀ x ∈ L, 0 ≤ x ∧ x < A.1) → L.Nodup → n ∉ L → (∀ y ∈ p, y.1 ∉ L) → L.length ≤ f → (kOrd A n).drop s = R ++ R2 → (∀ j, s ≤ j → j < s + R.length → kNo A n j) → kNd A T n s → e.length + L.length ≤ 250 → p.length + 1 + L.length ≤ 400 → c + L.length ≤ 272 → kDi ds T → (kRow (kGo A ds f) e R T = none → r = none) → (∀ T1 c', kRow (kGo A ds f) e R T = some T1 → c ≤ c' → c' + R.length ≤ c + L.length → kNd A T1 n (s + R.length) → kDi ds T1 → c4kRun A ds r cm m c' ((n, ((s + R.length : Nat) : Int)) :: p) e T1 (kCoR (kCo A f) e.length R C)) → c4kRun A ds r cm (m + 2 * L.length) c ((n, (s : Int)) :: p) e T C
  | [], L, c, s, T, C, hf, hL, hN, hnL, hp, hl, ho, hb, hn, h1, h2, h3, hd, k1, k2 => by
    have e0 := fT_nil hf
    subst e0
    exact k2 T c rfl (Nat.le_refl _) (by simp) hn hd
  | x :: R, L, c, s, T, C, hf, hL, hN, hnL, hp, hl, ho, hb, hn, h1, h2, h3, hd, k1, k2 => by
    obtain ⟨L1, L2, e1, w1, w2, w3⟩ := fT_inv hf
    have hx : (kOrd A n)[s]? = some x := by
      rw [← List.head?_drop, ho]; rfl
    subst e1
    simp only [List.length_cons, List.length_append] at h1 h2 h3 hl
    have nb := hb s (Nat.le_refl _) (by simp)
    have hN1 : (x :: L1).Nodup := List.Nodup.sublist (by rw [← List.cons_append]; exact List.sublist_append_left _ _) hN
    have hN2 : L2.Nodup := List.Nodup.sublist (by rw [← List.cons_append]; exact List.sublist_append_right _ _) hN
    have i1 : ∀ y, y ∈ x :: L1 → y ∈ x :: (L1 ++ L2) := fun y hy => by rw [← List.cons_append]; exact List.mem_append_left _ hy
    have i2 : ∀ y, y ∈ L2 → y ∈ x :: (L1 ++ L2) := fun y hy => by rw [← List.cons_append]; exact List.mem_append_right _ hy
    have main : c4kRun A ds r cm ((m + 2 * L2.length) + (2 * (x :: L1).length - 1)) c ((x, 0) :: (n, ((s + 1 : Nat) : Int)) :: p) e T C := by
      refine N r cm (m + 2 * L2.length) c x (x :: L1) ((n, ((s + 1 : Nat) : Int)) :: p) e T C (fT_one w1 w2) (fun y hy => hL y (i1 y hy)) hN1 (fun y hy => ?_) ?_ ?_ ?_ ?_ hd he ?_ ?_
      · rcases List.mem_cons.mp hy with q | q
        · rw [q]; exact fun z => hnL (i1 _ z)
        · exact fun z => hp y q (i1 _ z)
      · simp only [List.length_cons]; omega
      · simp only [List.length_cons]; omega
      · simp only [List.length_cons]; omega
      · simp only [List.length_cons]; omega
      · intro g; exact k1 (by simp only [kRow, g])
      · intro T1 c' g c1 c2
        simp only [List.length_cons] at c2
        refine c4kRow_run (R2 := R2) N he R L2 c' (s + 1) T1 _ w3 (fun y hy => hL y (i2 y hy)) hN2 (fun z => hnL (i2 _ z)) (fun y hy z => hp y hy (i2 _ z)) (by omega) ?_ (fun j a b => hb j (by omega) (by simp only [List.length_cons]; omega)) (kNd_up hn hx hd he g) (by omega) (by omega) (by omega) (kDi_up hd he g) (fun q => k1 (by simp only [kRow, g, q])) ?_
        · rw [← List.drop_drop, ho]; rfl
        · intro T2 c'' g2 c3 c4 a b
          have := k2 T2 c'' (by simp only [kRow, g, g2]) (by omega) (by simp only [List.length_cons, List.length_append]; omega)
          simp only [List.length_cons] at this
          rw [show s + 1 + R.length = s + (R.length + 1) by omega] at a ⊢
          exact this a b
    have hkb := kBd_no nb T e
    have fin := c4kRun_psh (ds := ds) (r := r) (cm := cm) _ c n s p e T C x hn (by omega) (by omega) (fun a b => absurd ⟨a, b⟩ nb.2) hx (fun z => hnL (by rw [← z]; simp)) (fun y hy z => hp y hy (by rw [z]; simp)) (by rw [hkb]; exact Nat.le_refl _) (by rw [hkb]; omega) (by rw [hkb, Nat.sub_self, kCb_no nb]; exact main)
    refine c4kRun_up fin _ ?_
    simp only [List.length_cons, List.length_append]
    omega
/-- the same where names are bound at the first -/
theorem c4kRowB_run {A : aT} {ds : kD} {f : Nat} (N : c4kNL A ds f) {r : Option ((Int → Int) × (Int → Int))} {cm m : Nat} {n : Int} {p : List (Int × Int)} {e e' : kE} {R2 : List Int} (he : ∀ q ∈ e', kIn q.2) {x : Int} {R L : List Int} {c s : Nat} {T C C' : Int → Int} (hf : fT A (x :: R) L) (hL : ∀ x ∈ L, 0 ≤ x ∧ x < A.1) (hN : L.Nodup) (hnL : n ∉ L) (hp : ∀ y ∈ p, y.1 ∉ L) (hl : L.length ≤ f) (ho : (kOrd A n).drop s = x :: R ++ R2) (hb0 : kBd A T e n s = e') (hbb : kCb A e n s C = C') (hb1 : e.length ≤ e'.length) (hg : A.2.1 n = 15 → s = (A.2.2.2.2.2 n).length → kGens T (A.2.2.2.2.2 n) (kGs A n) = true) (hb : ∀ j, s < j → j ≤ s + R.length → kNo A n j) (hn : kNd A T n s) (h0 : e.length ≤ 250) (h1 : e'.length + L.length ≤ 250) (h2 : p.length + 1 + L.length ≤ 400) (h3 : c + (e'.length - e.length) + L.length ≤ 272) (hd : kDi ds T) (k1 : kRow (kGo A ds f) e' (x :: R) T = none → r = none) (k2 : ∀ T1 c', kRow (kGo A ds f) e' (x :: R) T = some T1 → c ≤ c' → c' + 1 ≤ c + (e'.length - e.length) + L.length → kNd A T1 n (s + 1 + R.length) → kDi ds T1 → c4kRun A ds r cm m c' ((n, ((s + 1 + R.length : Nat) : Int)) :: p) e' T1 (kCoR (kCo A f) e'.length (x :: R) C')) : c4kRun A ds r cm (m + 2 * L.length) c ((n, (s : Int)) :: p) e T C := by
  obtain ⟨L1, L2, e1, w1, w2, w3⟩ := fT_inv hf
  have hx : (kOrd A n)[s]? = some x := by
    rw [← List.head?_drop, ho]; rfl
  subst e1
  simp only [List.length_cons, List.length_append] at h1 h2 h3 hl
  have hN1 : (x :: L1).Nodup := List.Nodup.sublist (by rw [← List.cons_append]; exact List.sublist_append_left _ _) hN
  have hN2 : L2.Nodup := List.Nodup.sublist (by rw [← List.cons_append]; exact List.sublist_append_right _ _) hN
  have i1 : ∀ y, y ∈ x :: L1 → y ∈ x :: (L1 ++ L2) := fun y hy => by rw [← List.cons_append]; exact List.mem_append_left _ hy
  have i2 : ∀ y, y ∈ L2 → y ∈ x :: (L1 ++ L2) := fun y hy => by rw [← List.cons_append]; exact List.mem_append_right _ hy
  have main : c4kRun A ds r cm ((m + 2 * L2.length) + (2 * (x :: L1).length - 1)) (c + (e'.length - e.length)) ((x, 0) :: (n, ((s + 1 : Nat) : Int)) :: p) e' T C' := by
    refine N r cm (m + 2 * L2.length) (c + (e'.length - e.length)) x (x :: L1) ((n, ((s + 1 : Nat) : Int)) :: p) e' T C' (fT_one w1 w2) (fun y hy => hL y (i1 y hy)) hN1 (fun y hy => ?_) ?_ ?_ ?_ ?_ hd he ?_ ?_
    · rcases List.mem_cons.mp hy with q | q
      · rw [q]; exact fun z => hnL (i1 _ z)
      · exact fun z => hp y q (i1 _ z)
    · simp only [List.length_cons]; omega
    · simp only [List.length_cons]; omega
    · simp only [List.length_cons]; omega
    · simp only [List.length_cons]; omega
    · intro g; exact k1 (by simp only [kRow, g])
    · intro T1 c' g c1 c2
      simp only [List.length_cons] at c2
      refine c4kRow_run (R2 := R2) N he R L2 c' (s + 1) T1 _ w3 (fun y hy => hL y (i2 y hy)) hN2 (fun z => hnL (i2 _ z)) (fun y hy z => hp y hy (i2 _ z)) (by omega) ?_ (fun j a b => hb j (by omega) (by omega)) (kNd_up hn hx hd he g) (by omega) (by omega) (by omega) (kDi_up hd he g) (fun q => k1 (by simp only [kRow, g, q])) ?_
      · rw [← List.drop_drop, ho]; rfl
      · intro T2 c'' g2 c3 c4 a b
        exact k2 T2 c'' (by simp only [kRow, g, g2]) (by omega) (by simp only [List.length_cons, List.length_append]; omega) a b
  have fin := c4kRun_psh (ds := ds) (r := r) (cm := cm) _ c n s p e T C x hn h0 (by omega) hg hx (fun z => hnL (by rw [← z]; simp)) (fun y hy z => hp y hy (by rw [z]; simp)) (by rw [hb0]; exact hb1) (by rw [hb0]; omega) (by rw [hb0, hbb]; exact main)
  refine c4kRun_up fin _ ?_
  simp only [List.length_cons, List.length_append]
  omega
/-- the last turn of a node -/
theorem c4kFin_run {A : aT} {ds : kD} {r : Option ((Int → Int) × (Int → Int))} {cm m c : Nat} {n : Int} {p : List (Int × Int)} {e e' : kE} {s : Nat} {T C : Int → Int} (hn : kNd A T n s) (hs : s = (kOrd A n).length) (h0 : e'.length ≤ 250) (h2 : p.length ≤ 400) (hb : kBn A n ≤ e'.length) (hei : ∀ q ∈ e, kIn q.2) (hdi : kDi ds T) (hd : e'.drop (kBn A n) = e) (k1 : kTy A ds T e n ((A.2.2.2.2.1 n).map T) = none → r = none) (k2 : ∀ ty, kTy A ds T e n ((A.2.2.2.2.1 n).map T) = some ty → c4kRun A ds r cm m c p e (aU T n ty) C) : c4kRun A ds r cm (m + 1) c ((n, (s : Int)) :: p) e' T C := by
  cases h : kTy A ds T e n ((A.2.2.2.2.1 n).map T) with
  | none => exact c4kRun_bad _ c n s p e' T C hn h0 h2 hs hb (by rw [hd]; exact ⟨hei, hdi⟩) (by rw [hd]; exact h) (k1 h)
  | some ty => exact c4kRun_pop m c n s p e' T C ty hn h0 h2 hs hb (by rw [hd]; exact ⟨hei, hdi⟩) (by rw [hd]; exact h) (by rw [hd]; exact k2 ty h)
theorem c4kNL_all (A : aT) (ds : kD) : ∀ f, c4kNL A ds f
  | 0 => fun r cm m c n L p e T C hf hL hN hp hl => by
    have := fT_len hf
    simp only [List.length_cons, List.length_nil] at this
    omega
  | f + 1 => fun r cm m c n L p e T C hf hL hN hp hl h1 h2 h3 hd he k1 k2 => by
    obtain ⟨L1, L2, e1, w1, w2, w3⟩ := fT_inv hf
    have e2 := fT_nil w3
    subst e2
    rw [List.append_nil] at e1
    subst e1
    simp only [List.length_cons] at h1 h2 h3 hl k2
    have hnL1 : n ∉ L1 := (List.nodup_cons.mp hN).1
    have hN1 : L1.Nodup := (List.nodup_cons.mp hN).2
    have hp1 : ∀ y ∈ p, y.1 ∉ L1 := fun y hy z => hp y hy (by simp [z])
    have hn0 : 0 ≤ n ∧ n < A.1 := hL n (by simp)
    have hL1 : ∀ x ∈ L1, 0 ≤ x ∧ x < A.1 := fun x hx => hL x (by simp [hx])
    have hn : kNd A T n 0 := ⟨hn0, w1, Nat.zero_le _, by simp⟩
    obtain ⟨n1, n2, n3, n4, n5, n6, n7, n8⟩ := w1
    by_cases c2 : A.2.1 n = 2
    · -- LET
      have hk := n3 (Or.inl c2)
      obtain ⟨a, b, hk2⟩ : ∃ a b, A.2.2.2.2.1 n = [a, b] := by
        match hh : A.2.2.2.2.1 n with
        | [a, b] => exact ⟨a, b, rfl⟩
        | [] => rw [hh] at hk; simp at hk
        | [_] => rw [hh] at hk; simp at hk
        | _ :: _ :: _ :: _ => rw [hh] at hk; simp at hk
      have ho : kOrd A n = [a, b] := by unfold kOrd; rw [if_neg (by omega), hk2]
      rw [hk2] at w2
      obtain ⟨La, Lb, e3, fa, fb⟩ := fT_spl [a] [b] L1 w2
      have la := fT_len fa
      have lb := fT_len fb
      simp only [List.length_cons, List.length_nil] at la lb
      have e3l : L1.length = La.length + Lb.length := by rw [e3, List.length_append]
      have hgo : kGo A ds (f + 1) e n T = (match kRow (kGo A ds f) e [a] T with
        | none => none
        | some T1 => match kRow (kGo A ds f) ((A.2.2.2.1 n, T1 a) :: e) [b] T1 with
          | none => none
          | some T2 => match kTy A ds T2 e n ((A.2.2.2.2.1 n).map T2) with
            | none => none
            | some ty => some (aU T2 n ty)) := by
        simp only [kGo, kParts, c2, if_true, hk2, kRow]
        cases kGo A ds f e a T with
        | none => rfl
        | some T1 => rfl
      have kbo : kCo A (f + 1) e.length n C = kCoR (kCo A f) (e.length + 1) [b] (aU (kCoR (kCo A f) e.length [a] C) n (e.length : Int)) := by
        simp only [kCo, c2, if_true, hk2, kCoR]
      rw [kbo] at k2
      have hNa : La.Nodup := List.Nodup.sublist (by rw [e3]; exact List.sublist_append_left _ _) hN1
      have hNb : Lb.Nodup := List.Nodup.sublist (by rw [e3]; exact List.sublist_append_right _ _) hN1
      have ia : ∀ x, x ∈ La → x ∈ L1 := fun x hx => by rw [e3]; simp [hx]
      have ib : ∀ x, x ∈ Lb → x ∈ L1 := fun x hx => by rw [e3]; simp [hx]
      have fin : c4kRun A ds r cm (((m + 1) + 2 * Lb.length) + 2 * La.length) c ((n, ((0 : Nat) : Int)) :: p) e T C := by
        refine c4kRow_run (c4kNL_all A ds f) (R2 := [b]) he [a] La c 0 T C fa (fun x hx => hL1 x (ia x hx)) hNa (fun z => hnL1 (ia _ z)) (fun y hy z => hp1 y hy (ia _ z)) (by omega) (by rw [ho]; rfl) (fun j x y => ?_) hn (by omega) (by omega) (by omega) hd (fun g => k1 (by rw [hgo, g])) (fun T1 c1 g cc1 cc2 g2 g3 => ?_)
        · simp only [List.length_cons, List.length_nil] at y
          exact ⟨by omega, by omega⟩
        · have ra := kRow_rg (kGo_rg A ds f) e he [a] T T1 hd g
          have ta := ra.1 a (by simp)
          refine c4kRowB_run (c4kNL_all A ds f) (R2 := []) (x := b) (R := []) (e' := (A.2.2.2.1 n, T1 a) :: e) (C' := aU (kCoR (kCo A f) e.length [a] C) n (e.length : Int)) (fun q hq => ?_) fb (fun x hx => hL1 x (ib x hx)) hNb (fun z => hnL1 (ib _ z)) (fun y hy z => hp1 y hy (ib _ z)) (by omega) (by rw [ho]; rfl) ?_ (by unfold kCb; rw [if_pos ⟨c2, rfl⟩]) (by simp) (fun x => absurd x (by omega)) (fun j x y => ?_) g2 (by omega) (by simp only [List.length_cons]; omega) (by omega) (by simp only [List.length_cons] at cc2 ⊢; omega) g3 (fun g4 => k1 (by rw [hgo, g]; simp only; rw [g4])) (fun T2 cb g4 cc3 cc4 g5 g6 => ?_)
          · rcases List.mem_cons.mp hq with q | q
            · rw [q]; exact ta
            · exact he _ q
          · unfold kBd
            rw [if_pos ⟨c2, rfl⟩, hk2]; rfl
          · simp only [List.length_nil, List.length_cons] at x y; omega
          · refine c4kFin_run (e := e) g5 (by rw [ho]; rfl) (by simp only [List.length_cons]; omega) (by omega) (by unfold kBn; rw [if_pos c2]; simp) he g6 ?_ (fun g7 => k1 ?_) (fun ty g7 => k2 _ cb ?_ (by omega) (by simp only [List.length_cons, List.length_nil] at cc2 cc4; omega))
            · unfold kBn; rw [if_pos c2]; rfl
            · rw [hgo, g]; simp only; rw [g4]; simp only; rw [g7]
            · rw [hgo, g]; simp only; rw [g4]; simp only; rw [g7]
      exact c4kRun_up fin _ (by simp only [List.length_cons]; omega)
    · by_cases c15 : A.2.1 n = 15
      · -- EACH
        have n7 := n7 c15
        obtain ⟨bd, tl, hk2⟩ : ∃ bd tl, A.2.2.2.2.1 n = bd :: tl := by
          match hh : A.2.2.2.2.1 n with
          | bd :: tl => exact ⟨bd, tl, rfl⟩
          | [] => rw [hh] at n7; simp only [List.length_nil] at n7; omega
        have ho : kOrd A n = tl.take (A.2.2.2.2.2 n).length ++ (tl.drop (A.2.2.2.2.2 n).length ++ [bd]) := by
          unfold kOrd; rw [if_pos c15, hk2, ← List.append_assoc, List.take_append_drop]; rfl
        have hgs : kGs A n = tl.take (A.2.2.2.2.2 n).length := by unfold kGs; rw [hk2]; rfl
        rw [hk2] at n7
        simp only [List.length_cons] at n7
        generalize hg : (A.2.2.2.2.2 n).length = g at *
        have lt : (tl.take g).length = g := by rw [List.length_take]; omega
        rw [hk2] at w2
        obtain ⟨Lb, Lt, e3, fb, ft⟩ := fT_spl [bd] tl L1 w2
        rw [← List.take_append_drop g tl] at ft
        obtain ⟨La, Ld, e4, fa, fd⟩ := fT_spl _ _ Lt ft
        have fdb := fT_app fd fb
        have la := fT_len fa
        have lb := fT_len fb
        rw [lt] at la
        have e3l : L1.length = Lb.length + (La.length + Ld.length) := by rw [e3, e4, List.length_append, List.length_append]
        have lc : (Ld ++ Lb).length = Ld.length + Lb.length := List.length_append
        have hgo : kGo A ds (f + 1) e n T = (match kRow (kGo A ds f) e (tl.take g) T with
          | none => none
          | some T1 => if kGens T1 (A.2.2.2.2.2 n) (tl.take g) = true then (match kRow (kGo A ds f) (kBind T1 (A.2.2.2.2.2 n) (tl.take g) e) (tl.drop g ++ [bd]) T1 with
            | none => none
            | some T2 => match kTy A ds T2 e n ((A.2.2.2.2.1 n).map T2) with
              | none => none
              | some ty => some (aU T2 n ty)) else none) := by
          simp only [kGo, kParts, c15, if_true, hk2, hg]
          rw [if_neg (by decide)]
          cases kRow (kGo A ds f) e (tl.take g) T with
          | none => rfl
          | some T1 =>
            simp only
            by_cases c : kGens T1 (A.2.2.2.2.2 n) (tl.take g) = true
            · rw [if_pos c, if_pos c]
              cases kRow (kGo A ds f) (kBind T1 (A.2.2.2.2.2 n) (tl.take g) e) (tl.drop g ++ [bd]) T1 with
              | none => rfl
              | some T2 => rfl
            · rw [if_neg c, if_neg c]
        have kbo : kCo A (f + 1) e.length n C = kCoR (kCo A f) (e.length + g) (tl.drop g ++ [bd]) (kCg n g e.length (kCoR (kCo A f) e.length (tl.take g) C)) := by
          simp only [kCo, c15, if_true, hk2, hg]
          rw [if_neg (by decide)]
        rw [kbo] at k2
        have ia : ∀ x, x ∈ La → x ∈ L1 := fun x hx => by rw [e3, e4]; simp [hx]
        have ib : ∀ x, x ∈ Ld ++ Lb → x ∈ L1 := fun x hx => by
          rw [e3, e4]
          rcases List.mem_append.mp hx with z | z <;> simp [z]
        have hNN := hN1
        rw [e3, e4, List.nodup_append] at hNN
        have hNa : La.Nodup := List.Nodup.sublist (List.sublist_append_left _ _) hNN.2.1
        have hNb : (Ld ++ Lb).Nodup := by
          rw [List.nodup_append]
          refine ⟨List.Nodup.sublist (List.sublist_append_right _ _) hNN.2.1, hNN.1, fun x hx y hy z => hNN.2.2 y hy x (List.mem_append_right _ hx) z.symm⟩
        have fin : c4kRun A ds r cm (((m + 1) + 2 * (Ld ++ Lb).length) + 2 * La.length) c ((n, ((0 : Nat) : Int)) :: p) e T C := by
          refine c4kRow_run (c4kNL_all A ds f) (R2 := tl.drop g ++ [bd]) he (tl.take g) La c 0 T C fa (fun x hx => hL1 x (ia x hx)) hNa (fun z => hnL1 (ia _ z)) (fun y hy z => hp1 y hy (ia _ z)) (by omega) (by rw [ho]; rfl) (fun j x y => ?_) hn (by omega) (by omega) (by omega) hd (fun q => k1 (by rw [hgo, q])) (fun T1 c1 q cc1 cc2 q2 q3 => ?_)
          · rw [lt] at y
            exact ⟨by omega, by omega⟩
          · rw [lt] at cc2
            rw [lt, Nat.zero_add] at q2 ⊢
            have bl := kBind_len (T := T1) (A.2.2.2.2.2 n) (tl.take g) e (by rw [hg, lt])
            rw [hg] at bl
            have hkb : kBd A T1 e n g = kBind T1 (A.2.2.2.2.2 n) (tl.take g) e := by
              unfold kBd
              rw [if_neg (by omega), if_pos ⟨c15, hg.symm⟩, hgs]
            have ra := kRow_rg (kGo_rg A ds f) e he (tl.take g) T T1 hd q
            cases hG : kGens T1 (A.2.2.2.2.2 n) (tl.take g) with
            | false =>
              exact c4kRun_up (c4kRun_gen 0 c1 n g p e T1 _ q2 (by omega) (by omega) c15 hg.symm (by rw [hgs]; exact hG) (by rw [hkb]; omega) (k1 (by rw [hgo, q]; simp only; rw [hG]; rfl))) _ (Nat.zero_le _)
            | true =>
              have hG2 := hG
              unfold kGens at hG2
              rw [Bool.and_eq_true] at hG2
              obtain ⟨x, R, hR⟩ : ∃ x R, tl.drop g ++ [bd] = x :: R := by
                cases tl.drop g with
                | nil => exact ⟨bd, [], rfl⟩
                | cons x R => exact ⟨x, R ++ [bd], rfl⟩
              have hRl : (kOrd A n).length = g + (1 + R.length) := by rw [ho, hR, List.length_append, lt, List.length_cons]; omega
              refine c4kRowB_run (c4kNL_all A ds f) (R2 := []) (x := x) (R := R) (e' := kBind T1 (A.2.2.2.2.2 n) (tl.take g) e) (C' := kCg n g e.length (kCoR (kCo A f) e.length (tl.take g) C)) (kBind_in _ _ e ra.1 hG2.2 he) (hR ▸ fdb) (fun x hx => hL1 x (ib x hx)) hNb (fun z => hnL1 (ib _ z)) (fun y hy z => hp1 y hy (ib _ z)) (by omega) ?_ hkb (by unfold kCb; rw [if_neg (fun z => c2 z.1), if_pos ⟨c15, hg.symm⟩, hg]) (by omega) (fun _ _ => by rw [hgs]; exact hG) (fun j x y => ?_) q2 (by omega) (by omega) (by omega) (by omega) q3 (fun q4 => k1 (by rw [hgo, q]; simp only; rw [if_pos hG, hR, q4])) (fun T2 cb q4 cc3 cc4 q5 q6 => ?_)
              · rw [ho, List.append_nil, ← hR]
                exact List.drop_left' lt
              · exact ⟨by omega, by omega⟩
              · refine c4kFin_run (e := e) q5 (by rw [hRl]; omega) (by omega) (by omega) (by unfold kBn; rw [if_neg c2, if_pos c15, hg]; omega) he q6 ?_ (fun q7 => k1 ?_) (fun ty q7 => by
                  have w := k2 (aU T2 n ty) cb (by rw [hgo, q]; simp only; rw [if_pos hG, hR, q4]; simp only; rw [q7]) (by omega) (by omega)
                  rw [bl.1, ← hR]
                  exact w)
                · unfold kBn; rw [if_neg c2, if_pos c15, hg]; exact bl.2
                · rw [hgo, q]; simp only; rw [if_pos hG, hR, q4]; simp only; rw [q7]
        exact c4kRun_up fin _ (by simp only [List.length_cons]; omega)
      · -- the rest
        have ho : kOrd A n = A.2.2.2.2.1 n := by unfold kOrd; rw [if_neg c15]
        have hgo : kGo A ds (f + 1) e n T = (match kRow (kGo A ds f) e (A.2.2.2.2.1 n) T with
          | none => none
          | some T2 => match kTy A ds T2 e n ((A.2.2.2.2.1 n).map T2) with
            | none => none
            | some ty => some (aU T2 n ty)) := by
          simp only [kGo, kParts, c2, c15, if_false]
          cases kRow (kGo A ds f) e (A.2.2.2.2.1 n) T with
          | none => rfl
          | some T2 => rfl
        have kbo : kCo A (f + 1) e.length n C = kCoR (kCo A f) e.length (A.2.2.2.2.1 n) C := by
          simp only [kCo, c2, c15, if_false]
        rw [kbo] at k2
        have fin : c4kRun A ds r cm ((m + 1) + 2 * L1.length) c ((n, ((0 : Nat) : Int)) :: p) e T C := by
          refine c4kRow_run (c4kNL_all A ds f) (R2 := []) he (A.2.2.2.2.1 n) L1 c 0 T C w2 hL1 hN1 hnL1 hp1 (by omega) (by rw [ho, List.append_nil]; rfl) (fun j x y => ⟨fun z => c2 z.1, fun z => c15 z.1⟩) hn (by omega) (by omega) (by omega) hd (fun q => k1 (by rw [hgo, q])) (fun T2 c1 q cc1 cc2 q2 q3 => ?_)
          refine c4kFin_run (e := e) q2 (by rw [ho]; omega) (by omega) (by omega) (by unfold kBn; rw [if_neg c2, if_neg c15]; omega) he q3 ?_ (fun q7 => k1 ?_) (fun ty q7 => k2 _ c1 ?_ (by omega) (by omega))
          · unfold kBn; rw [if_neg c2, if_neg c15]; rfl
          · rw [hgo, q]; simp only; rw [q7]
          · rw [hgo, q]; simp only; rw [q7]
        exact c4kRun_up fin _ (by simp only [List.length_cons]; omega)
