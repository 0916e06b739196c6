/-! TEXTS tell values apart; alike of both sides. -/
theorem dgs_b : ∀ (k : Nat) (s : Int), dgs (k + 1) s = dgs k (s / 10) ++ [48 + s % 10]
  | 0, s => by
    simp only [dgs, Int.pow_zero, Int.ediv_one, List.nil_append]
  | k + 1, s => by
    have ih := dgs_b k s
    have e : s / 10 ^ (k + 1) = s / 10 / 10 ^ k := by rw [Int.ediv_ediv_of_nonneg (by decide), Int.pow_succ, Int.mul_comm]
    have l : dgs (k + 1 + 1) s = (48 + s / 10 ^ (k + 1) % 10) :: dgs (k + 1) s := rfl
    have r : dgs (k + 1) (s / 10) = (48 + s / 10 / 10 ^ k % 10) :: dgs k (s / 10) := rfl
    rw [l, r, ih, e, List.cons_append]
theorem dgs_i : ∀ (k : Nat) (s s' : Int), 0 ≤ s → 0 ≤ s' → s < 10 ^ k → s' < 10 ^ k → dgs k s = dgs k s' → s = s'
  | 0, s, s', h1, h2, h3, h4, _ => by
    rw [Int.pow_zero] at h3 h4
    omega
  | k + 1, s, s', h1, h2, h3, h4, h => by
    rw [dgs_b, dgs_b] at h
    obtain ⟨a, b⟩ := List.append_inj h (by rw [dgs_l, dgs_l])
    have b' : 48 + s % 10 = 48 + s' % 10 := by
      have := List.cons.inj b
      exact this.1
    rw [Int.pow_succ] at h3 h4
    have := dgs_i k (s / 10) (s' / 10) (by omega) (by omega) (Int.ediv_lt_of_lt_mul (by decide) h3) (Int.ediv_lt_of_lt_mul (by decide) h4) a
    omega
theorem nDg_b {s : Int} (h : s ≤ 2147483648) : s < 10 ^ nDg s := by
  unfold nDg
  split
  · rw [show (10 : Int) ^ 1 = 10 from rfl]; assumption
  split
  · rw [show (10 : Int) ^ 2 = 100 from rfl]; assumption
  split
  · rw [show (10 : Int) ^ 3 = 1000 from rfl]; assumption
  split
  · rw [show (10 : Int) ^ 4 = 10000 from rfl]; assumption
  split
  · rw [show (10 : Int) ^ 5 = 100000 from rfl]; assumption
  split
  · rw [show (10 : Int) ^ 6 = 1000000 from rfl]; assumption
  split
  · rw [show (10 : Int) ^ 7 = 10000000 from rfl]; assumption
  split
  · rw [show (10 : Int) ^ 8 = 100000000 from rfl]; assumption
  split
  · rw [show (10 : Int) ^ 9 = 1000000000 from rfl]; assumption
  · rw [show (10 : Int) ^ 10 = 10000000000 from rfl]; omega
/-- what does not go on with a digit -/
def ndg (r : List Int) : Prop := ∀ c t, r = c :: t → ¬ (48 ≤ c ∧ c ≤ 57)
theorem dg_pre : ∀ (l m r r' : List Int), (∀ x ∈ l, 48 ≤ x ∧ x ≤ 57) → (∀ x ∈ m, 48 ≤ x ∧ x ≤ 57) → ndg r → ndg r' → l ++ r = m ++ r' → l = m ∧ r = r'
  | [], [], r, r', _, _, _, _, h => ⟨rfl, h⟩
  | [], y :: m, r, r', _, h2, h3, _, h => by
    have := h3 y (m ++ r') h
    exact absurd (h2 y (by simp)) this
  | x :: l, [], r, r', h1, _, _, h4, h => by
    have := h4 x (l ++ r) h.symm
    exact absurd (h1 x (by simp)) this
  | x :: l, y :: m, r, r', h1, h2, h3, h4, h => by
    obtain ⟨a, b⟩ := List.cons.inj h
    obtain ⟨c, d⟩ := dg_pre l m r r' (fun z hz => h1 z (by simp [hz])) (fun z hz => h2 z (by simp [hz])) h3 h4 b
    exact ⟨by rw [a, c], d⟩
theorem tN_i {x y : Int} {r r' : List Int} (hx : sg_R x) (hy : sg_R y) (h1 : ndg r) (h2 : ndg r') (h : txN x ++ r = txN y ++ r') : x = y ∧ r = r' := by
  have hx1 := hx.1
  have hx2 := hx.2
  have hy1 := hy.1
  have hy2 := hy.2
  have pos : ∀ s s' : Int, 0 ≤ s → 0 ≤ s' → s ≤ 2147483648 → s' ≤ 2147483648 → dgs (nDg s) s ++ r = dgs (nDg s') s' ++ r' → s = s' ∧ r = r' := fun s s' a b a' b' h => by
    obtain ⟨e1, e2⟩ := dg_pre _ _ _ _ (fun x hx => dgs_r hx) (fun x hx => dgs_r hx) h1 h2 h
    have el := congrArg List.length e1
    rw [dgs_l, dgs_l] at el
    have hs := nDg_b a'
    have hs' := nDg_b b'
    rw [el] at e1 hs
    exact ⟨dgs_i _ _ _ a b hs hs' e1, e2⟩
  have hd : ∀ s : Int, ∃ c t, dgs (nDg s) s = c :: t ∧ 48 ≤ c := fun s => by
    have n := (nDg_r s).1
    cases e : dgs (nDg s) s with
    | nil =>
      have := congrArg List.length e
      rw [dgs_l] at this
      simp only [List.length_nil] at this
      omega
    | cons c t => exact ⟨c, t, rfl, (dgs_r (k := nDg s) (s := s) (by rw [e]; simp)).1⟩
  unfold txN at h
  by_cases cx : x < 0
  · rw [if_pos cx] at h
    by_cases cy : y < 0
    · rw [if_pos cy] at h
      obtain ⟨-, b⟩ := List.cons.inj h
      obtain ⟨e1, e2⟩ := pos (-x) (-y) (by omega) (by omega) (by omega) (by omega) b
      exact ⟨by omega, e2⟩
    · rw [if_neg cy] at h
      obtain ⟨c, t, e, hc⟩ := hd y
      rw [e] at h
      obtain ⟨a, -⟩ := List.cons.inj h
      omega
  · rw [if_neg cx] at h
    by_cases cy : y < 0
    · rw [if_pos cy] at h
      obtain ⟨c, t, e, hc⟩ := hd x
      rw [e] at h
      obtain ⟨a, -⟩ := List.cons.inj h
      omega
    · rw [if_neg cy] at h
      exact pos x y (by omega) (by omega) (by omega) (by omega) h
/-- a text begins with a digit, a - or a [ -/
theorem tx_h (d : Nat) (v : vaF) : ∃ c t, txF d v = c :: t ∧ ¬ c = 93 := by
  cases d with
  | succ d => exact ⟨91, _, rfl, by decide⟩
  | zero =>
    have n := (txN_l (v [])).1
    cases e : txN (v []) with
    | nil => rw [e] at n; simp only [List.length_nil] at n; omega
    | cons c t =>
      refine ⟨c, t, e, fun q => ?_⟩
      have m : c ∈ txN (v []) := by rw [e]; simp
      unfold txN at m
      split at m
      · rcases List.mem_cons.mp m with w | w
        · omega
        · have := dgs_r w; omega
      · have := dgs_r m; omega
theorem nd_44 (t : List Int) : ndg (44 :: t) := fun c t' h => by
  obtain ⟨a, -⟩ := List.cons.inj h
  omega
theorem nd_93 (t : List Int) : ndg (93 :: t) := fun c t' h => by
  obtain ⟨a, -⟩ := List.cons.inj h
  omega
theorem nd_R (f : vaF → List Int) (l : List vaF) (r : List Int) : ndg (txR f l ++ 93 :: r) := by
  cases l with
  | nil => exact nd_93 r
  | cons w l => exact nd_44 _
theorem txF_i : ∀ (d : Nat) (v w : vaF) (r r' : List Int), vkF d v → vkF d w → ndg r → ndg r' → txF d v ++ r = txF d w ++ r' → imF d v = imF d w ∧ r = r'
  | 0, v, w, r, r', hv, hw, h1, h2, h => by
    obtain ⟨a, b⟩ := tN_i hv hw h1 h2 h
    exact ⟨by simp only [imF]; rw [a], b⟩
  | d + 1, v, w, r, r', hv, hw, h1, h2, h => by
    have ih := txF_i d
    have rr : ∀ (l l' : List vaF) (r r' : List Int), (∀ x ∈ l, vkF d x) → (∀ x ∈ l', vkF d x) → txR (txF d) l ++ 93 :: r = txR (txF d) l' ++ 93 :: r' → l.length = l'.length ∧ imL (imF d) l = imL (imF d) l' ∧ r = r' := fun l => by
      induction l with
      | nil =>
        intro l' r r' _ _ h
        cases l' with
        | nil => exact ⟨rfl, rfl, (List.cons.inj h).2⟩
        | cons y l' =>
          obtain ⟨a, -⟩ := List.cons.inj h
          exact absurd a (by decide)
      | cons x l ihl =>
        intro l' r r' hl hl' h
        cases l' with
        | nil =>
          obtain ⟨a, -⟩ := List.cons.inj h
          exact absurd a (by decide)
        | cons y l' =>
          simp only [txR, List.cons_append, List.append_assoc] at h
          obtain ⟨-, b⟩ := List.cons.inj h
          obtain ⟨c1, c2⟩ := ih x y _ _ (hl x (by simp)) (hl' y (by simp)) (nd_R _ _ _) (nd_R _ _ _) b
          obtain ⟨d1, d2, d3⟩ := ihl l' r r' (fun z hz => hl z (by simp [hz])) (fun z hz => hl' z (by simp [hz])) c2
          exact ⟨by simp only [List.length_cons, d1], by simp only [imL, c1, d2], d3⟩
    simp only [txF, List.cons_append, List.append_assoc, List.nil_append] at h
    obtain ⟨-, b⟩ := List.cons.inj h
    have key : (itF v).length = (itF w).length ∧ imL (imF d) (itF v) = imL (imF d) (itF w) ∧ r = r' := by
      have kv := hv.2
      have kw := hw.2
      generalize itF v = l at b kv
      generalize itF w = l' at b kw
      cases l with
      | nil =>
        cases l' with
        | nil => exact ⟨rfl, rfl, (List.cons.inj b).2⟩
        | cons y l' =>
          obtain ⟨c, t, e, hc⟩ := tx_h d y
          simp only [txL, List.nil_append, List.append_assoc] at b
          rw [e] at b
          obtain ⟨a, -⟩ := List.cons.inj b
          exact absurd a.symm hc
      | cons x l =>
        cases l' with
        | nil =>
          obtain ⟨c, t, e, hc⟩ := tx_h d x
          simp only [txL, List.nil_append, List.append_assoc] at b
          rw [e] at b
          obtain ⟨a, -⟩ := List.cons.inj b
          exact absurd a hc
        | cons y l' =>
          simp only [txL, List.append_assoc] at b
          obtain ⟨c1, c2⟩ := ih x y _ _ (kv x (by simp)) (kw y (by simp)) (nd_R _ _ _) (nd_R _ _ _) b
          obtain ⟨d1, d2, d3⟩ := rr l l' r r' (fun z hz => kv z (by simp [hz])) (fun z hz => kw z (by simp [hz])) c2
          exact ⟨by simp only [List.length_cons, d1], by simp only [imL, c1, d2], d3⟩
    exact ⟨by simp only [imF]; rw [key.1, key.2.1], key.2.2⟩
theorem imF_i : ∀ (d : Nat) (v w : vaF) (r r' : List Int), imF d v ++ r = imF d w ++ r' → txF d v = txF d w ∧ r = r'
  | 0, v, w, r, r', h => by
    obtain ⟨a, b⟩ := List.cons.inj h
    exact ⟨by simp only [txF]; rw [a], b⟩
  | d + 1, v, w, r, r', h => by
    have ih := imF_i d
    have rr : ∀ (l l' : List vaF) (r r' : List Int), l.length = l'.length → imL (imF d) l ++ r = imL (imF d) l' ++ r' → txL (txF d) l = txL (txF d) l' ∧ txR (txF d) l = txR (txF d) l' ∧ r = r' := fun l => by
      induction l with
      | nil =>
        intro l' r r' hl h
        cases l' with
        | nil => exact ⟨rfl, rfl, h⟩
        | cons y l' => simp only [List.length_nil, List.length_cons] at hl; omega
      | cons x l ihl =>
        intro l' r r' hl h
        cases l' with
        | nil => simp only [List.length_nil, List.length_cons] at hl; omega
        | cons y l' =>
          simp only [imL, List.append_assoc] at h
          obtain ⟨a, b⟩ := ih x y _ _ h
          obtain ⟨c1, c2, c3⟩ := ihl l' r r' (by simp only [List.length_cons] at hl; omega) b
          exact ⟨by simp only [txL, a, c2], by simp only [txR, a, c2], c3⟩
    simp only [imF, List.cons_append] at h
    obtain ⟨a, b⟩ := List.cons.inj h
    obtain ⟨c1, c2, c3⟩ := rr (itF v) (itF w) r r' (by omega) b
    exact ⟨by simp only [txF, c1], c3⟩
/-- texts are alike just where images are -/
theorem tx_im {d : Nat} {v w : vaF} (hv : vkF d v) (hw : vkF d w) : txF d v = txF d w ↔ imF d v = imF d w := by
  refine ⟨fun h => ?_, fun h => ?_⟩
  · exact (txF_i d v w [] [] hv hw (fun c t h => by cases h) (fun c t h => by cases h) (by rw [List.append_nil, List.append_nil]; exact h)).1
  · exact (imF_i d v w [] [] (by rw [List.append_nil, List.append_nil]; exact h)).1
theorem l_ext {l m : List Int} (hl : l.length = m.length) (h : ∀ (i : Nat) (x y : Int), l[i]? = some x → m[i]? = some y → x = y) : l = m := by
  apply List.ext_getElem?
  intro i
  rcases Nat.lt_or_ge i l.length with q | q
  · have g1 : l[i]? = some l[i] := List.getElem?_eq_getElem q
    have g2 : m[i]? = some (m[i]'(by omega)) := List.getElem?_eq_getElem (by omega)
    rw [g1, g2, h i _ _ g1 g2]
  · rw [List.getElem?_eq_none q, List.getElem?_eq_none (by omega)]
/-- same of both images -/
theorem m_same {σ : sg_S} {d : Nat} {v w : vaF} {Q : Int → sg_S → Prop} (hc : cShw 49 51 52 σ d v) (hc' : cShw 65 67 68 σ d w) (hl : (imF d v).length ≤ 3001) (hl' : (imF d w).length ≤ 6001) (k1 : imF d v = imF d w → Q 1 σ) (k0 : ¬ imF d v = imF d w → Q 0 σ) : V_iSame4965 σ Q := by
  obtain ⟨-, -, c1, c2⟩ := hc
  obtain ⟨-, -, d1, d2⟩ := hc'
  unfold V_iSame4965
  rw [c1, d1]
  refine ⟨fun el => ⟨fun n x => (0 ≤ x ∧ x ≤ (imF d v).length) ∧ n = ((imF d v).length - x).toNat ∧ ∀ (i : Nat) (a b : Int), (i : Int) < x → (imF d v)[i]? = some a → (imF d w)[i]? = some b → a = b, imF d v = imF d w, ⟨_, ⟨Int.le_refl _, by omega⟩, rfl, fun i a b h => by omega⟩, ?_, k1⟩, fun el => k0 (fun e => el (by rw [e]))⟩
  rintro n x rx ⟨⟨x0, x1⟩, en, hx⟩
  refine ⟨fun h => l_ext (by omega) (fun i a b ha hb => hx i a b (by have := gE_l ha; omega) ha hb), fun h => ?_⟩
  obtain ⟨a, ha⟩ : ∃ a, (imF d v)[x.toNat]? = some a := ⟨_, List.getElem?_eq_getElem (by omega)⟩
  obtain ⟨b, hb⟩ : ∃ b, (imF d w)[x.toNat]? = some b := ⟨_, List.getElem?_eq_getElem (by omega)⟩
  have ga := c2 x.toNat a ha
  have gb := d2 x.toNat b hb
  rw [show ((x.toNat : Nat) : Int) = x by omega] at ga gb
  rw [xa_in ⟨by omega, by omega⟩, xa_in ⟨by omega, by omega⟩, ga, gb]
  refine ⟨fun e => ⟨⟨by omega, by omega⟩, _, ?_, ⟨by omega, by omega⟩, rfl, fun i a' b' hi ha' hb' => ?_⟩, fun e => k0 (fun q => e ?_)⟩
  · omega
  · by_cases c : i = x.toNat
    · rw [c] at ha' hb'
      rw [ha] at ha'
      rw [hb] at hb'
      cases ha'
      cases hb'
      exact e
    · exact hx i a' b' (by omega) ha' hb'
  · rw [q] at ha
    rw [ha] at hb
    exact Option.some.inj hb
section LVA
variable {σ : sg_S}
theorem lv_alike (z : Value) (h : lwV σ) : lwP5 z 2 3 [(0, .inr (.inr (.ref 0)))] 0 213 [(0, .inr (.inr (.ref 88)))] σ (fun q q' => q' = q) := by
  obtain ⟨hI, hZ, ⟨n1, n2⟩, g1, g2⟩ := id h
  have h76 := hI.2.2.2.2.2.2.2.2.1
  -- the reference answers q
  have ref : ∀ q : Int, V_alike σ (fun q' σ' => q' = q ∧ σ' = sg_w σ 88 0 0) → wx z 0 213 0 [(0, .inr (.inr (.ref 88)))] [] σ (lwA (fun q' σ' => q' = q ∧ lwV σ')) := fun q hq => by
    refine wk_post (w_alike z σ (fun q' σ' => q' = q ∧ σ' = sg_w σ 88 0 0) hq) ?_
    rintro v σ' ⟨q', e, r, f9, w1, w2⟩
    exact ⟨q', e, r, w1, lw_1088 hI w2, lkV_F h.2 f9 rfl⟩
  refine wk_post (w_cAlike z σ (fun q σ1 => wx z 0 213 0 [(0, .inr (.inr (.ref 88)))] [] σ (lwA (fun q' σ' => q' = q ∧ lwV σ'))) ?_) (by rintro v σ' ⟨q, e, r, f9, w⟩; rw [← f9]; exact ⟨q, e, r, w⟩)
  unfold V_cAlike
  rw [n1, g1]
  refine ⟨fun y => ref (-4) ?_, fun y => ⟨fun y2 => ref (-4) ?_, fun y2 => ?_⟩⟩
  · unfold V_alike
    intro σ1 e1
    exact ⟨fun _ => ⟨rfl, e1⟩, fun w => absurd y w⟩
  · unfold V_alike
    intro σ1 e1
    exact ⟨fun w => absurd w y, fun _ => ⟨fun _ => ⟨rfl, e1⟩, fun w => absurd y2 w⟩⟩
  obtain ⟨m1, m2⟩ := n2.resolve_left y
  obtain ⟨p1, p2⟩ := g2.resolve_left y2
  rw [m1, p1]
  -- what the reference says, by its ends
  have far : ∀ q : Int, (6 < sg_g σ 88 53 ∨ 6 < sg_g σ 88 83 → q = -4) → (sg_g σ 88 53 ≤ 6 → sg_g σ 88 83 ≤ 6 → ¬ sg_g σ 88 53 = 0 → ¬ sg_g σ 88 83 = 0 → q = 2) → (sg_g σ 88 53 ≤ 6 → sg_g σ 88 83 ≤ 6 → ¬ sg_g σ 88 53 = 0 → sg_g σ 88 83 = 0 → q = 0) → (sg_g σ 88 53 ≤ 6 → sg_g σ 88 83 ≤ 6 → sg_g σ 88 53 = 0 → ¬ sg_g σ 88 83 = 0 → q = 0) → (sg_g σ 88 53 = 0 → sg_g σ 88 83 = 0 → ∃ v w, (txF (kT σ) v).length ≤ 79000 ∧ rShw 76 0 σ (kT σ) v ∧ rShw 77 80000 σ (kT σ) w ∧ (txF (kT σ) v = txF (kT σ) w → q = 1) ∧ (¬ txF (kT σ) v = txF (kT σ) w → q = 0)) → wx z 0 213 0 [(0, .inr (.inr (.ref 88)))] [] σ (lwA (fun q' σ' => q' = q ∧ lwV σ')) := fun q q1 q2 q3 q3' q4 => ref q (by
    unfold V_alike
    intro σ1 e1
    refine ⟨fun w => absurd w y, fun _ => ⟨fun w => absurd w y2, fun _ => ⟨fun w => ⟨(q1 (Or.inl w)).symm, e1⟩, fun b6 => ⟨fun b8 => ⟨fun z5 => ⟨fun w => absurd w z5, fun _ => ⟨fun z8 => ⟨(q3 b6 b8 z5 z8).symm, e1⟩, fun z8 => ⟨(q2 b6 b8 z5 z8).symm, e1⟩⟩⟩, fun z5 => ⟨fun z8 v14 e14 r14 => ?_, fun z8 => ⟨fun _ => ⟨(q3' b6 b8 z5 z8).symm, e1⟩, fun w => absurd z5 w⟩⟩⟩, fun w => ⟨(q1 (Or.inr w)).symm, e1⟩⟩⟩⟩⟩
    obtain ⟨v, w, lv, ⟨s1, s2⟩, ⟨u1, u2⟩, a1, a0⟩ := q4 z5 z8
    rw [s1, u1] at e14
    rw [s1]
    refine ⟨fun n x i => (0 ≤ i ∧ i ≤ (txF (kT σ) v).length) ∧ n = ((txF (kT σ) v).length - i).toNat ∧ ((x = 1 ∧ (txF (kT σ) v).length = (txF (kT σ) w).length ∧ ∀ (j : Nat) (a b : Int), (j : Int) < i → (txF (kT σ) v)[j]? = some a → (txF (kT σ) w)[j]? = some b → a = b) ∨ (x = 0 ∧ ¬ txF (kT σ) v = txF (kT σ) w)), fun x => (x = 1 ∧ txF (kT σ) v = txF (kT σ) w) ∨ (x = 0 ∧ ¬ txF (kT σ) v = txF (kT σ) w), ⟨_, ⟨Int.le_refl _, by omega⟩, rfl, ?_⟩, ?_, ?_⟩
    · by_cases c : ((txF (kT σ) v).length : Int) = (txF (kT σ) w).length
      · rw [if_neg (fun w => w c)] at e14
        exact Or.inl ⟨e14, by omega, fun j a b hj => by omega⟩
      · rw [if_pos c] at e14
        exact Or.inr ⟨e14, fun e => c (by rw [e])⟩
    · rintro n x i rx ri ⟨⟨i0, i1⟩, en, hx⟩
      refine ⟨fun hi => ?_, fun hi => ⟨fun x0 => ?_, fun x0 => ?_⟩⟩
      · rcases hx with ⟨x1, x2, x3⟩ | ⟨x1, x2⟩
        · exact Or.inl ⟨x1, l_ext x2 (fun j a b ha hb => x3 j a b (by have := gE_l ha; omega) ha hb)⟩
        · exact Or.inr ⟨x1, x2⟩
      · rcases hx with ⟨x1, x2, x3⟩ | ⟨x1, x2⟩
        · rw [x0] at x1; cases x1
        · exact Or.inr ⟨x1, x2⟩
      · rcases hx with ⟨x1, x2, x3⟩ | ⟨x1, x2⟩
        rotate_left
        · exact absurd x1 x0
        obtain ⟨a, ha⟩ : ∃ a, (txF (kT σ) v)[i.toNat]? = some a := ⟨_, List.getElem?_eq_getElem (by omega)⟩
        obtain ⟨b, hb⟩ : ∃ b, (txF (kT σ) w)[i.toNat]? = some b := ⟨_, List.getElem?_eq_getElem (by omega)⟩
        have ga := s2 i.toNat a ha
        have gb := u2 i.toNat b hb
        rw [show ((i.toNat : Nat) : Int) = i by omega] at ga gb
        rw [Int.zero_add] at ga
        refine ⟨⟨by omega, by omega⟩, ⟨by omega, by omega⟩, ⟨by omega, by omega⟩, fun v42 e42 r42 => ⟨⟨by omega, by omega⟩, _, ?_, ⟨by omega, by omega⟩, rfl, ?_⟩⟩
        · omega
        · rw [ga, gb] at e42
          by_cases c : a = b
          · rw [if_neg (fun w => w c)] at e42
            refine Or.inl ⟨e42, x2, fun j a' b' hj ha' hb' => ?_⟩
            by_cases cj : j = i.toNat
            · rw [cj] at ha' hb'
              rw [ha] at ha'
              rw [hb] at hb'
              cases ha'
              cases hb'
              exact c
            · exact x3 j a' b' (by omega) ha' hb'
          · rw [if_pos c] at e42
            refine Or.inr ⟨e42, fun e => c ?_⟩
            rw [e] at ha
            rw [ha] at hb
            exact Option.some.inj hb
    · rintro x rx hx
      rcases hx with ⟨x1, x2⟩ | ⟨x1, x2⟩
      · exact ⟨fun w => (by rw [w] at x1; cases x1), fun _ => ⟨(a1 x2).symm, e1⟩⟩
      · exact ⟨fun _ => ⟨(a0 x2).symm, e1⟩, fun w => absurd x1 w⟩)
  have both : sg_g σ 88 53 = 0 → sg_g σ 88 83 = 0 → V_iSame4965 σ (fun q8 _ => (q8 = 0 ∨ q8 = 1) → ((q8 = 0 → wx z 0 213 0 [(0, .inr (.inr (.ref 88)))] [] σ (lwA (fun q' σ' => q' = 0 ∧ lwV σ'))) ∧ (¬ q8 = 0 → wx z 0 213 0 [(0, .inr (.inr (.ref 88)))] [] σ (lwA (fun q' σ' => q' = 1 ∧ lwV σ'))))) := fun z5 z8 => by
    obtain ⟨-, v, a1, a2, a3, a4, a5⟩ := m2.resolve_left (fun w => w z5)
    obtain ⟨-, w, b1, b2, b3, b4, b5⟩ := p2.resolve_left (fun w => w z8)
    have ti := tx_im a5 b5
    refine m_same a3 b3 a2 b2 (fun e _ => ⟨fun w => (by cases w), fun _ => ?_⟩) (fun e _ => ⟨fun _ => ?_, fun w => absurd rfl w⟩)
    · exact far 1 (fun w => by omega) (fun _ _ w => absurd z5 w) (fun _ _ w => absurd z5 w) (fun _ _ _ w => absurd z8 w) (fun _ _ => ⟨v, w, a1, a4, b4, fun _ => rfl, fun w => absurd (ti.mpr e) w⟩)
    · exact far 0 (fun w => by omega) (fun _ _ w => absurd z5 w) (fun _ _ w => absurd z5 w) (fun _ _ _ w => absurd z8 w) (fun _ _ => ⟨v, w, a1, a4, b4, fun w => absurd (ti.mp w) e, fun _ => rfl⟩)
  refine ⟨fun y7 => far (-4) (fun _ => rfl) (fun w => by omega) (fun w => by omega) (fun w => by omega) (fun w => by omega), fun y7 => ⟨fun y8 => ⟨fun z5 => ⟨fun w => absurd z5 w, fun _ => ⟨fun z8 => both z5 z8, fun z8 => ?_⟩⟩, fun z5 => ⟨fun z8 => ⟨fun _ => ?_, fun w => absurd w z5⟩, fun z8 => ?_⟩⟩, fun y8 => far (-4) (fun _ => rfl) (fun _ w => by omega) (fun _ w => by omega) (fun _ w => by omega) (fun _ w => by omega)⟩⟩
  · exact far 0 (fun w => by omega) (fun _ _ w => absurd z5 w) (fun _ _ w => absurd z5 w) (fun _ _ _ _ => rfl) (fun _ w => absurd w z8)
  · exact far 0 (fun w => by omega) (fun _ _ _ w => absurd z8 w) (fun _ _ _ _ => rfl) (fun _ _ w => absurd w z5) (fun w => absurd w z5)
  · exact far 2 (fun w => by omega) (fun _ _ _ _ => rfl) (fun _ _ _ w => absurd w z8) (fun _ _ w => absurd w z5) (fun w => absurd w z5)
end LVA
