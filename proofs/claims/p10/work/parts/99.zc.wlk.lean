/-! The walk over a node comes to what kGo says of it. -/
theorem kSp_up {A : aT} {ds : kD} {go go' : Nat → List (Int × Int) → kE → (Int → Int) → kE → (Int → Int) → Prop} (hg : ∀ c p e T eb B, go c p e T eb B → go' c p e T eb B) {c : Nat} {p : List (Int × Int)} {e : kE} {T : Int → Int} {eb : kE} {B : Int → Int} (h : kSp A ds go c p e T eb B) : kSp A ds go' c p e T eb B := by
  obtain ⟨n, s, p', h0, h1, h2, h3, h4⟩ := h
  refine ⟨n, s, p', h0, h1, h2, h3, ?_⟩
  rcases h4 with ⟨x, a1, a2, a3, a4, a5, a6, a7⟩ | ⟨ty, a1, a2, a3, a4, a5⟩
  · exact Or.inl ⟨x, a1, a2, a3, a4, a5, a6, hg _ _ _ _ _ _ a7⟩
  · exact Or.inr ⟨ty, a1, a2, a3, a4, hg _ _ _ _ _ _ a5⟩
theorem kRun_up {A : aT} {ds : kD} {r : Option ((Int → Int) × (Int → Int))} {cm : Nat} : ∀ {m c : Nat} {p : List (Int × Int)} {e : kE} {T : Int → Int} {eb : kE} {B : Int → Int}, kRun A ds r cm m c p e T eb B → ∀ m', m ≤ m' → kRun A ds r cm m' c p e T eb B
  | 0, _, _, _, _, _, _, h, m', _ => kRun_s h m'
  | m + 1, _, _, _, _, _, _, h, m', hm => by
    rcases h with h | h
    · exact kRun_s h m'
    · obtain ⟨k, rfl⟩ : ∃ k, m' = k + 1 := ⟨m' - 1, by omega⟩
      exact Or.inr (kSp_up (fun c p e T eb B q => kRun_up q k (by omega)) h)
def kNo (A : aT) (n : Int) (s : Nat) : Prop := ¬ (A.2.1 n = 2 ∧ s = 1) ∧ ¬ (A.2.1 n = 15 ∧ s = (A.2.2.2.2.2 n).length)
theorem kBd_no {A : aT} {n : Int} {s : Nat} (h : kNo A n s) (T : Int → Int) (e : kE) : kBd A T e n s = e := by
  unfold kBd; rw [if_neg h.1, if_neg h.2]
theorem kBb_no {A : aT} {n : Int} {s : Nat} (h : kNo A n s) (eb : kE) : kBb A eb n s = eb := by
  unfold kBb; rw [if_neg h.1, if_neg h.2]
theorem fT_1 {A : aT} {n : Int} {ns L1 : List Int} (hw : nW A n) (h : fT A (A.2.2.2.2.1 n) L1) : fT A [n] (n :: L1) := fT_one hw h
/-- what is to be shown of a node at fuel f -/
def kNL (A : aT) (ds : kD) (f : Nat) : Prop := ∀ (r : Option ((Int → Int) × (Int → Int))) (cm m c : Nat) (n : Int) (L : List Int) (p : List (Int × Int)) (e : kE) (T : Int → Int) (eb : kE) (B : Int → Int), fT A [n] L → (∀ x ∈ L, 0 ≤ x ∧ x < A.1) → L.Nodup → (∀ y ∈ p, y.1 ∉ L) → L.length ≤ f → e.length + L.length ≤ 250 → p.length + L.length ≤ 400 → c + L.length ≤ 272 → kDi ds T → (∀ q ∈ e, kIn q.2) → (kGo A ds f e n T = none → r = none) → (∀ T1 c', kGo A ds f e n T = some T1 → c ≤ c' → c' ≤ c + L.length - 1 → kRun A ds r cm m c' p e T1 eb (kBo A ds f eb n B)) → kRun A ds r cm (m + (2 * L.length - 1)) c ((n, 0) :: p) e T eb B
theorem kNd_up {A : aT} {ds : kD} {f : Nat} {e : kE} {n x : Int} {s : Nat} {T T1 : Int → Int} (h : kNd A T n s) (hx : (kOrd A n)[s]? = some x) (hd : kDi ds T) (he : ∀ q ∈ e, kIn q.2) (hg : kGo A ds f e x T = some T1) : kNd A T1 n (s + 1) := by
  obtain ⟨a, b, c, d⟩ := h
  obtain ⟨g1, g2⟩ := kGo_rg A ds f e x T T1 hd he hg
  have hl : s < (kOrd A n).length := by
    rcases Nat.lt_or_ge s (kOrd A n).length with q | q
    · exact q
    · rw [List.getElem?_eq_none q] at hx; cases hx
  refine ⟨a, b, hl, fun y hy => ?_⟩
  rw [List.take_add_one, hx] at hy
  rcases List.mem_append.mp hy with q | q
  · exact g2 y (d y q)
  · simp at q; subst q; exact g1
theorem kDi_up {A : aT} {ds : kD} {f : Nat} {e : kE} {x : Int} {T T1 : Int → Int} (hd : kDi ds T) (he : ∀ q ∈ e, kIn q.2) (hg : kGo A ds f e x T = some T1) : kDi ds T1 := fun d hx => (kGo_rg A ds f e x T T1 hd he hg).2 _ (hd d hx)
theorem kRow_run {A : aT} {ds : kD} {f : Nat} (N : kNL A ds f) {r : Option ((Int → Int) × (Int → Int))} {cm m : Nat} {n : Int} {p : List (Int × Int)} {e eb : kE} {R2 : List Int} (he : ∀ q ∈ e, kIn q.2) : ∀ (R L : List Int) (c s : Nat) (T B : Int → Int), fT A R L → (∀ x ∈ L, 0 ≤ x ∧ x < A.1) → L.Nodup → n ∉ L → (∀ y ∈ p, y.1 ∉ L) → L.length ≤ f → (kOrd A n).drop s = R ++ R2 → (∀ j, s ≤ j → j < s + R.length → kNo A n j) → kNd A T n s → e.length + L.length ≤ 250 → p.length + 1 + L.length ≤ 400 → c + L.length ≤ 272 → kDi ds T → (kRow (kGo A ds f) e R T = none → r = none) → (∀ T1 c', kRow (kGo A ds f) e R T = some T1 → c ≤ c' → c' + R.length ≤ c + L.length → kNd A T1 n (s + R.length) → kDi ds T1 → kRun A ds r cm m c' ((n, ((s + R.length : Nat) : Int)) :: p) e T1 eb (kBoR (kBo A ds f) eb R B)) → kRun A ds r cm (m + 2 * L.length) c ((n, (s : Int)) :: p) e T eb B
  | [], L, c, s, T, B, hf, hL, hN, hnL, hp, hl, ho, hb, hn, h1, h2, h3, hd, k1, k2 => by
    have e0 := fT_nil hf
    subst e0
    exact k2 T c rfl (Nat.le_refl _) (by simp) hn hd
  | x :: R, L, c, s, T, B, hf, hL, hN, hnL, hp, hl, ho, hb, hn, h1, h2, h3, hd, k1, k2 => by
    obtain ⟨L1, L2, e1, w1, w2, w3⟩ := fT_inv hf
    have hx : (kOrd A n)[s]? = some x := by
      rw [← List.head?_drop, ho]; rfl
    subst e1
    simp only [List.length_cons, List.length_append] at h1 h2 h3 hl
    have nb := hb s (Nat.le_refl _) (by simp)
    have hN1 : (x :: L1).Nodup := List.Nodup.sublist (by rw [← List.cons_append]; exact List.sublist_append_left _ _) hN
    have hN2 : L2.Nodup := List.Nodup.sublist (by rw [← List.cons_append]; exact List.sublist_append_right _ _) hN
    have i1 : ∀ y, y ∈ x :: L1 → y ∈ x :: (L1 ++ L2) := fun y hy => by rw [← List.cons_append]; exact List.mem_append_left _ hy
    have i2 : ∀ y, y ∈ L2 → y ∈ x :: (L1 ++ L2) := fun y hy => by rw [← List.cons_append]; exact List.mem_append_right _ hy
    have main : kRun A ds r cm ((m + 2 * L2.length) + (2 * (x :: L1).length - 1)) c ((x, 0) :: (n, ((s + 1 : Nat) : Int)) :: p) e T eb B := by
      refine N r cm (m + 2 * L2.length) c x (x :: L1) ((n, ((s + 1 : Nat) : Int)) :: p) e T eb B (fT_one w1 w2) (fun y hy => hL y (i1 y hy)) hN1 (fun y hy => ?_) ?_ ?_ ?_ ?_ hd he ?_ ?_
      · rcases List.mem_cons.mp hy with q | q
        · rw [q]; exact fun z => hnL (i1 _ z)
        · exact fun z => hp y q (i1 _ z)
      · simp only [List.length_cons]; omega
      · simp only [List.length_cons]; omega
      · simp only [List.length_cons]; omega
      · simp only [List.length_cons]; omega
      · intro g; exact k1 (by simp only [kRow, g])
      · intro T1 c' g c1 c2
        simp only [List.length_cons] at c2
        refine kRow_run (R2 := R2) N he R L2 c' (s + 1) T1 _ w3 (fun y hy => hL y (i2 y hy)) hN2 (fun z => hnL (i2 _ z)) (fun y hy z => hp y hy (i2 _ z)) (by omega) ?_ (fun j a b => hb j (by omega) (by simp only [List.length_cons]; omega)) (kNd_up hn hx hd he g) (by omega) (by omega) (by omega) (kDi_up hd he g) (fun q => k1 (by simp only [kRow, g, q])) ?_
        · rw [← List.drop_drop, ho]; rfl
        · intro T2 c'' g2 c3 c4 a b
          have := k2 T2 c'' (by simp only [kRow, g, g2]) (by omega) (by simp only [List.length_cons, List.length_append]; omega)
          simp only [List.length_cons] at this
          rw [show s + 1 + R.length = s + (R.length + 1) by omega] at a ⊢
          exact this a b
    have hkb := kBd_no nb T e
    have fin := kRun_psh (ds := ds) (r := r) (cm := cm) _ c n s p e T eb B x hn (by omega) (by omega) (fun a b => absurd ⟨a, b⟩ nb.2) hx (fun z => hnL (by rw [← z]; simp)) (fun y hy z => hp y hy (by rw [z]; simp)) (by rw [hkb]; exact Nat.le_refl _) (by rw [hkb]; omega) (by rw [hkb, Nat.sub_self, kBb_no nb]; exact main)
    refine kRun_up fin _ ?_
    simp only [List.length_cons, List.length_append]
    omega
/-- the same where names are bound at the first -/
theorem kRowB_run {A : aT} {ds : kD} {f : Nat} (N : kNL A ds f) {r : Option ((Int → Int) × (Int → Int))} {cm m : Nat} {n : Int} {p : List (Int × Int)} {e e' eb eb' : kE} {R2 : List Int} (he : ∀ q ∈ e', kIn q.2) {x : Int} {R L : List Int} {c s : Nat} {T B : Int → Int} (hf : fT A (x :: R) L) (hL : ∀ x ∈ L, 0 ≤ x ∧ x < A.1) (hN : L.Nodup) (hnL : n ∉ L) (hp : ∀ y ∈ p, y.1 ∉ L) (hl : L.length ≤ f) (ho : (kOrd A n).drop s = x :: R ++ R2) (hb0 : kBd A T e n s = e') (hbb : kBb A eb n s = eb') (hb1 : e.length ≤ e'.length) (hg : A.2.1 n = 15 → s = (A.2.2.2.2.2 n).length → kGens T (A.2.2.2.2.2 n) (kGs A n) = true) (hb : ∀ j, s < j → j ≤ s + R.length → kNo A n j) (hn : kNd A T n s) (h0 : e.length ≤ 250) (h1 : e'.length + L.length ≤ 250) (h2 : p.length + 1 + L.length ≤ 400) (h3 : c + (e'.length - e.length) + L.length ≤ 272) (hd : kDi ds T) (k1 : kRow (kGo A ds f) e' (x :: R) T = none → r = none) (k2 : ∀ T1 c', kRow (kGo A ds f) e' (x :: R) T = some T1 → c ≤ c' → c' + 1 ≤ c + (e'.length - e.length) + L.length → kNd A T1 n (s + 1 + R.length) → kDi ds T1 → kRun A ds r cm m c' ((n, ((s + 1 + R.length : Nat) : Int)) :: p) e' T1 eb' (kBoR (kBo A ds f) eb' (x :: R) B)) : kRun A ds r cm (m + 2 * L.length) c ((n, (s : Int)) :: p) e T eb B := by
  obtain ⟨L1, L2, e1, w1, w2, w3⟩ := fT_inv hf
  have hx : (kOrd A n)[s]? = some x := by
    rw [← List.head?_drop, ho]; rfl
  subst e1
  simp only [List.length_cons, List.length_append] at h1 h2 h3 hl
  have hN1 : (x :: L1).Nodup := List.Nodup.sublist (by rw [← List.cons_append]; exact List.sublist_append_left _ _) hN
  have hN2 : L2.Nodup := List.Nodup.sublist (by rw [← List.cons_append]; exact List.sublist_append_right _ _) hN
  have i1 : ∀ y, y ∈ x :: L1 → y ∈ x :: (L1 ++ L2) := fun y hy => by rw [← List.cons_append]; exact List.mem_append_left _ hy
  have i2 : ∀ y, y ∈ L2 → y ∈ x :: (L1 ++ L2) := fun y hy => by rw [← List.cons_append]; exact List.mem_append_right _ hy
  have main : kRun A ds r cm ((m + 2 * L2.length) + (2 * (x :: L1).length - 1)) (c + (e'.length - e.length)) ((x, 0) :: (n, ((s + 1 : Nat) : Int)) :: p) e' T eb' B := by
    refine N r cm (m + 2 * L2.length) (c + (e'.length - e.length)) x (x :: L1) ((n, ((s + 1 : Nat) : Int)) :: p) e' T eb' B (fT_one w1 w2) (fun y hy => hL y (i1 y hy)) hN1 (fun y hy => ?_) ?_ ?_ ?_ ?_ hd he ?_ ?_
    · rcases List.mem_cons.mp hy with q | q
      · rw [q]; exact fun z => hnL (i1 _ z)
      · exact fun z => hp y q (i1 _ z)
    · simp only [List.length_cons]; omega
    · simp only [List.length_cons]; omega
    · simp only [List.length_cons]; omega
    · simp only [List.length_cons]; omega
    · intro g; exact k1 (by simp only [kRow, g])
    · intro T1 c' g c1 c2
      simp only [List.length_cons] at c2
      refine kRow_run (R2 := R2) N he R L2 c' (s + 1) T1 _ w3 (fun y hy => hL y (i2 y hy)) hN2 (fun z => hnL (i2 _ z)) (fun y hy z => hp y hy (i2 _ z)) (by omega) ?_ (fun j a b => hb j (by omega) (by omega)) (kNd_up hn hx hd he g) (by omega) (by omega) (by omega) (kDi_up hd he g) (fun q => k1 (by simp only [kRow, g, q])) ?_
      · rw [← List.drop_drop, ho]; rfl
      · intro T2 c'' g2 c3 c4 a b
        exact k2 T2 c'' (by simp only [kRow, g, g2]) (by omega) (by simp only [List.length_cons, List.length_append]; omega) a b
  have fin := kRun_psh (ds := ds) (r := r) (cm := cm) _ c n s p e T eb B x hn h0 (by omega) hg hx (fun z => hnL (by rw [← z]; simp)) (fun y hy z => hp y hy (by rw [z]; simp)) (by rw [hb0]; exact hb1) (by rw [hb0]; omega) (by rw [hb0, hbb]; exact main)
  refine kRun_up fin _ ?_
  simp only [List.length_cons, List.length_append]
  omega
/-- the last turn of a node -/
theorem kFin_run {A : aT} {ds : kD} {r : Option ((Int → Int) × (Int → Int))} {cm m c : Nat} {n : Int} {p : List (Int × Int)} {e e' eb eb' : kE} {s : Nat} {T B : Int → Int} (hn : kNd A T n s) (hs : s = (kOrd A n).length) (h0 : e'.length ≤ 250) (h2 : p.length ≤ 400) (hb : kBn A n ≤ e'.length) (hei : ∀ q ∈ e, kIn q.2) (hdi : kDi ds T) (hd : e'.drop (kBn A n) = e) (hdb : eb'.drop (kBn A n) = eb) (k1 : kTy A ds T e n ((A.2.2.2.2.1 n).map T) = none → r = none) (k2 : ∀ ty, kTy A ds T e n ((A.2.2.2.2.1 n).map T) = some ty → kRun A ds r cm m c p e (aU T n ty) eb (kUp A ds eb n B)) : kRun A ds r cm (m + 1) c ((n, (s : Int)) :: p) e' T eb' B := by
  cases h : kTy A ds T e n ((A.2.2.2.2.1 n).map T) with
  | none => exact kRun_bad _ c n s p e' T eb' B hn h0 h2 hs hb (by rw [hd]; exact ⟨hei, hdi⟩) (by rw [hd]; exact h) (k1 h)
  | some ty => exact kRun_pop m c n s p e' T eb' B ty hn h0 h2 hs hb (by rw [hd]; exact ⟨hei, hdi⟩) (by rw [hd]; exact h) (by rw [hd, hdb]; exact k2 ty h)
theorem kBind_len {T : Int → Int} : ∀ (gs : List (Int × Int)) (xs : List Int) (e : kE), gs.length = xs.length → (kBind T gs xs e).length = e.length + gs.length ∧ (kBind T gs xs e).drop gs.length = e
  | [], [], e, _ => by simp [kBind]
  | [], _ :: _, e, h => by simp at h
  | _ :: _, [], e, h => by simp at h
  | g :: gs, x :: xs, e, h => by
    simp only [kBind]
    obtain ⟨a, b⟩ := kBind_len (T := T) gs xs ((g.1, T x - 1) :: e) (by simpa using h)
    simp only [List.length_cons] at a ⊢
    refine ⟨by omega, ?_⟩
    rw [← List.drop_drop, b]; rfl
theorem kGb_len {n : Int} : ∀ (gs : List (Int × Int)) (j : Nat) (eb : kE), (kGb n j gs eb).drop gs.length = eb
  | [], _, eb => rfl
  | g :: gs, j, eb => by
    simp only [kGb, List.length_cons]
    rw [← List.drop_drop, kGb_len gs (j + 1)]; rfl
theorem kNL_all (A : aT) (ds : kD) : ∀ f, kNL A ds f
  | 0 => fun r cm m c n L p e T eb B hf hL hN hp hl => by
    have := fT_len hf
    simp only [List.length_cons, List.length_nil] at this
    omega
  | f + 1 => fun r cm m c n L p e T eb B hf hL hN hp hl h1 h2 h3 hd he k1 k2 => by
    obtain ⟨L1, L2, e1, w1, w2, w3⟩ := fT_inv hf
    have e2 := fT_nil w3
    subst e2
    rw [List.append_nil] at e1
    subst e1
    simp only [List.length_cons] at h1 h2 h3 hl k2
    have hnL1 : n ∉ L1 := (List.nodup_cons.mp hN).1
    have hN1 : L1.Nodup := (List.nodup_cons.mp hN).2
    have hp1 : ∀ y ∈ p, y.1 ∉ L1 := fun y hy z => hp y hy (by simp [z])
    have hn0 : 0 ≤ n ∧ n < A.1 := hL n (by simp)
    have hL1 : ∀ x ∈ L1, 0 ≤ x ∧ x < A.1 := fun x hx => hL x (by simp [hx])
    have hn : kNd A T n 0 := ⟨hn0, w1, Nat.zero_le _, by simp⟩
    obtain ⟨n1, n2, n3, n4, n5, n6, n7, n8⟩ := w1
    by_cases c2 : A.2.1 n = 2
    · -- LET
      have hk := n3 (Or.inl c2)
      obtain ⟨a, b, hk2⟩ : ∃ a b, A.2.2.2.2.1 n = [a, b] := by
        match hh : A.2.2.2.2.1 n with
        | [a, b] => exact ⟨a, b, rfl⟩
        | [] => rw [hh] at hk; simp at hk
        | [_] => rw [hh] at hk; simp at hk
        | _ :: _ :: _ :: _ => rw [hh] at hk; simp at hk
      have ho : kOrd A n = [a, b] := by unfold kOrd; rw [if_neg (by omega), hk2]
      rw [hk2] at w2
      obtain ⟨La, Lb, e3, fa, fb⟩ := fT_spl [a] [b] L1 w2
      have la := fT_len fa
      have lb := fT_len fb
      simp only [List.length_cons, List.length_nil] at la lb
      have e3l : L1.length = La.length + Lb.length := by rw [e3, List.length_append]
      have hgo : kGo A ds (f + 1) e n T = (match kRow (kGo A ds f) e [a] T with
        | none => none
        | some T1 => match kRow (kGo A ds f) ((A.2.2.2.1 n, T1 a) :: e) [b] T1 with
          | none => none
          | some T2 => match kTy A ds T2 e n ((A.2.2.2.2.1 n).map T2) with
            | none => none
            | some ty => some (aU T2 n ty)) := by
        simp only [kGo, kParts, c2, if_true, hk2, kRow]
        cases kGo A ds f e a T with
        | none => rfl
        | some T1 => rfl
      have kbo : kBo A ds (f + 1) eb n B = kUp A ds eb n (kBoR (kBo A ds f) ((A.2.2.2.1 n, n) :: eb) [b] (kBoR (kBo A ds f) eb [a] B)) := by
        simp only [kBo, c2, if_true, hk2, kBoR]
      have hNa : La.Nodup := List.Nodup.sublist (by rw [e3]; exact List.sublist_append_left _ _) hN1
      have hNb : Lb.Nodup := List.Nodup.sublist (by rw [e3]; exact List.sublist_append_right _ _) hN1
      have ia : ∀ x, x ∈ La → x ∈ L1 := fun x hx => by rw [e3]; simp [hx]
      have ib : ∀ x, x ∈ Lb → x ∈ L1 := fun x hx => by rw [e3]; simp [hx]
      have fin : kRun A ds r cm (((m + 1) + 2 * Lb.length) + 2 * La.length) c ((n, ((0 : Nat) : Int)) :: p) e T eb B := by
        refine kRow_run (kNL_all A ds f) (R2 := [b]) he [a] La c 0 T B fa (fun x hx => hL1 x (ia x hx)) hNa (fun z => hnL1 (ia _ z)) (fun y hy z => hp1 y hy (ia _ z)) (by omega) (by rw [ho]; rfl) (fun j x y => ?_) hn (by omega) (by omega) (by omega) hd (fun g => k1 (by rw [hgo, g])) (fun T1 c1 g cc1 cc2 g2 g3 => ?_)
        · simp only [List.length_cons, List.length_nil] at y
          exact ⟨by omega, by omega⟩
        · have ra := kRow_rg (kGo_rg A ds f) e he [a] T T1 hd g
          have ta := ra.1 a (by simp)
          refine kRowB_run (kNL_all A ds f) (R2 := []) (x := b) (R := []) (e' := (A.2.2.2.1 n, T1 a) :: e) (eb' := (A.2.2.2.1 n, n) :: eb) (fun q hq => ?_) fb (fun x hx => hL1 x (ib x hx)) hNb (fun z => hnL1 (ib _ z)) (fun y hy z => hp1 y hy (ib _ z)) (by omega) (by rw [ho]; rfl) ?_ (by unfold kBb; rw [if_pos ⟨c2, rfl⟩]) (by simp) (fun x => absurd x (by omega)) (fun j x y => ?_) g2 (by omega) (by simp only [List.length_cons]; omega) (by omega) (by simp only [List.length_cons] at cc2 ⊢; omega) g3 (fun g4 => k1 (by rw [hgo, g]; simp only; rw [g4])) (fun T2 cb g4 cc3 cc4 g5 g6 => ?_)
          · rcases List.mem_cons.mp hq with q | q
            · rw [q]; exact ta
            · exact he _ q
          · unfold kBd
            rw [if_pos ⟨c2, rfl⟩, hk2]; rfl
          · simp only [List.length_nil, List.length_cons] at x y; omega
          · refine kFin_run (e := e) (eb := eb) g5 (by rw [ho]; rfl) (by simp only [List.length_cons]; omega) (by omega) (by unfold kBn; rw [if_pos c2]; simp) he g6 ?_ (by unfold kBn; rw [if_pos c2]; rfl) (fun g7 => k1 ?_) (fun ty g7 => kbo ▸ k2 _ cb ?_ (by omega) (by simp only [List.length_cons, List.length_nil] at cc2 cc4; omega))
            · unfold kBn; rw [if_pos c2]; rfl
            · rw [hgo, g]; simp only; rw [g4]; simp only; rw [g7]
            · rw [hgo, g]; simp only; rw [g4]; simp only; rw [g7]
      exact kRun_up fin _ (by simp only [List.length_cons]; omega)
    · by_cases c15 : A.2.1 n = 15
      · -- EACH
        have n7 := n7 c15
        obtain ⟨bd, tl, hk2⟩ : ∃ bd tl, A.2.2.2.2.1 n = bd :: tl := by
          match hh : A.2.2.2.2.1 n with
          | bd :: tl => exact ⟨bd, tl, rfl⟩
          | [] => rw [hh] at n7; simp only [List.length_nil] at n7; omega
        have ho : kOrd A n = tl.take (A.2.2.2.2.2 n).length ++ (tl.drop (A.2.2.2.2.2 n).length ++ [bd]) := by
          unfold kOrd; rw [if_pos c15, hk2, ← List.append_assoc, List.take_append_drop]; rfl
        have hgs : kGs A n = tl.take (A.2.2.2.2.2 n).length := by unfold kGs; rw [hk2]; rfl
        rw [hk2] at n7
        simp only [List.length_cons] at n7
        generalize hg : (A.2.2.2.2.2 n).length = g at *
        have lt : (tl.take g).length = g := by rw [List.length_take]; omega
        rw [hk2] at w2
        obtain ⟨Lb, Lt, e3, fb, ft⟩ := fT_spl [bd] tl L1 w2
        rw [← List.take_append_drop g tl] at ft
        obtain ⟨La, Ld, e4, fa, fd⟩ := fT_spl _ _ Lt ft
        have fdb := fT_app fd fb
        have la := fT_len fa
        have lb := fT_len fb
        rw [lt] at la
        have e3l : L1.length = Lb.length + (La.length + Ld.length) := by rw [e3, e4, List.length_append, List.length_append]
        have lc : (Ld ++ Lb).length = Ld.length + Lb.length := List.length_append
        have hgo : kGo A ds (f + 1) e n T = (match kRow (kGo A ds f) e (tl.take g) T with
          | none => none
          | some T1 => if kGens T1 (A.2.2.2.2.2 n) (tl.take g) = true then (match kRow (kGo A ds f) (kBind T1 (A.2.2.2.2.2 n) (tl.take g) e) (tl.drop g ++ [bd]) T1 with
            | none => none
            | some T2 => match kTy A ds T2 e n ((A.2.2.2.2.1 n).map T2) with
              | none => none
              | some ty => some (aU T2 n ty)) else none) := by
          simp only [kGo, kParts, c15, if_true, hk2, hg]
          rw [if_neg (by decide)]
          cases kRow (kGo A ds f) e (tl.take g) T with
          | none => rfl
          | some T1 =>
            simp only
            by_cases c : kGens T1 (A.2.2.2.2.2 n) (tl.take g) = true
            · rw [if_pos c, if_pos c]
              cases kRow (kGo A ds f) (kBind T1 (A.2.2.2.2.2 n) (tl.take g) e) (tl.drop g ++ [bd]) T1 with
              | none => rfl
              | some T2 => rfl
            · rw [if_neg c, if_neg c]
        have kbo : kBo A ds (f + 1) eb n B = kUp A ds eb n (kBoR (kBo A ds f) (kGb n 0 (A.2.2.2.2.2 n) eb) (tl.drop g ++ [bd]) (kBoR (kBo A ds f) eb (tl.take g) B)) := by
          simp only [kBo, c15, if_true, hk2, hg]
          rw [if_neg (by decide)]
        have ia : ∀ x, x ∈ La → x ∈ L1 := fun x hx => by rw [e3, e4]; simp [hx]
        have ib : ∀ x, x ∈ Ld ++ Lb → x ∈ L1 := fun x hx => by
          rw [e3, e4]
          rcases List.mem_append.mp hx with z | z <;> simp [z]
        have hNN := hN1
        rw [e3, e4, List.nodup_append] at hNN
        have hNa : La.Nodup := List.Nodup.sublist (List.sublist_append_left _ _) hNN.2.1
        have hNb : (Ld ++ Lb).Nodup := by
          rw [List.nodup_append]
          refine ⟨List.Nodup.sublist (List.sublist_append_right _ _) hNN.2.1, hNN.1, fun x hx y hy z => hNN.2.2 y hy x (List.mem_append_right _ hx) z.symm⟩
        have fin : kRun A ds r cm (((m + 1) + 2 * (Ld ++ Lb).length) + 2 * La.length) c ((n, ((0 : Nat) : Int)) :: p) e T eb B := by
          refine kRow_run (kNL_all A ds f) (R2 := tl.drop g ++ [bd]) he (tl.take g) La c 0 T B fa (fun x hx => hL1 x (ia x hx)) hNa (fun z => hnL1 (ia _ z)) (fun y hy z => hp1 y hy (ia _ z)) (by omega) (by rw [ho]; rfl) (fun j x y => ?_) hn (by omega) (by omega) (by omega) hd (fun q => k1 (by rw [hgo, q])) (fun T1 c1 q cc1 cc2 q2 q3 => ?_)
          · rw [lt] at y
            exact ⟨by omega, by omega⟩
          · rw [lt] at cc2
            rw [lt, Nat.zero_add] at q2 ⊢
            have bl := kBind_len (T := T1) (A.2.2.2.2.2 n) (tl.take g) e (by rw [hg, lt])
            rw [hg] at bl
            have hkb : kBd A T1 e n g = kBind T1 (A.2.2.2.2.2 n) (tl.take g) e := by
              unfold kBd
              rw [if_neg (by omega), if_pos ⟨c15, hg.symm⟩, hgs]
            have ra := kRow_rg (kGo_rg A ds f) e he (tl.take g) T T1 hd q
            cases hG : kGens T1 (A.2.2.2.2.2 n) (tl.take g) with
            | false =>
              exact kRun_up (kRun_gen 0 c1 n g p e T1 eb _ q2 (by omega) (by omega) c15 hg.symm (by rw [hgs]; exact hG) (by rw [hkb]; omega) (k1 (by rw [hgo, q]; simp only; rw [hG]; rfl))) _ (Nat.zero_le _)
            | true =>
              have hG2 := hG
              unfold kGens at hG2
              rw [Bool.and_eq_true] at hG2
              obtain ⟨x, R, hR⟩ : ∃ x R, tl.drop g ++ [bd] = x :: R := by
                cases tl.drop g with
                | nil => exact ⟨bd, [], rfl⟩
                | cons x R => exact ⟨x, R ++ [bd], rfl⟩
              have kbo' := kbo
              rw [hR] at kbo'
              have hRl : (kOrd A n).length = g + (1 + R.length) := by rw [ho, hR, List.length_append, lt, List.length_cons]; omega
              refine kRowB_run (kNL_all A ds f) (R2 := []) (x := x) (R := R) (e' := kBind T1 (A.2.2.2.2.2 n) (tl.take g) e) (eb' := kGb n 0 (A.2.2.2.2.2 n) eb) (kBind_in _ _ e ra.1 hG2.2 he) (hR ▸ fdb) (fun x hx => hL1 x (ib x hx)) hNb (fun z => hnL1 (ib _ z)) (fun y hy z => hp1 y hy (ib _ z)) (by omega) ?_ hkb (by unfold kBb; rw [if_neg (fun z => c2 z.1), if_pos ⟨c15, hg.symm⟩]) (by omega) (fun _ _ => by rw [hgs]; exact hG) (fun j x y => ?_) q2 (by omega) (by omega) (by omega) (by omega) q3 (fun q4 => k1 (by rw [hgo, q]; simp only; rw [if_pos hG, hR, q4])) (fun T2 cb q4 cc3 cc4 q5 q6 => ?_)
              · rw [ho, List.append_nil, ← hR]
                exact List.drop_left' lt
              · exact ⟨by omega, by omega⟩
              · refine kFin_run (e := e) (eb := eb) q5 (by rw [hRl]; omega) (by omega) (by omega) (by unfold kBn; rw [if_neg c2, if_pos c15, hg]; omega) he q6 ?_ (by unfold kBn; rw [if_neg c2, if_pos c15]; exact kGb_len _ 0 eb) (fun q7 => k1 ?_) (fun ty q7 => kbo' ▸ k2 _ cb ?_ (by omega) (by omega))
                · unfold kBn; rw [if_neg c2, if_pos c15, hg]; exact bl.2
                · rw [hgo, q]; simp only; rw [if_pos hG, hR, q4]; simp only; rw [q7]
                · rw [hgo, q]; simp only; rw [if_pos hG, hR, q4]; simp only; rw [q7]
        exact kRun_up fin _ (by simp only [List.length_cons]; omega)
      · -- the rest
        have ho : kOrd A n = A.2.2.2.2.1 n := by unfold kOrd; rw [if_neg c15]
        have hgo : kGo A ds (f + 1) e n T = (match kRow (kGo A ds f) e (A.2.2.2.2.1 n) T with
          | none => none
          | some T2 => match kTy A ds T2 e n ((A.2.2.2.2.1 n).map T2) with
            | none => none
            | some ty => some (aU T2 n ty)) := by
          simp only [kGo, kParts, c2, c15, if_false]
          cases kRow (kGo A ds f) e (A.2.2.2.2.1 n) T with
          | none => rfl
          | some T2 => rfl
        have kbo : kBo A ds (f + 1) eb n B = kUp A ds eb n (kBoR (kBo A ds f) eb (A.2.2.2.2.1 n) B) := by
          simp only [kBo, c2, c15, if_false]
        have fin : kRun A ds r cm ((m + 1) + 2 * L1.length) c ((n, ((0 : Nat) : Int)) :: p) e T eb B := by
          refine kRow_run (kNL_all A ds f) (R2 := []) he (A.2.2.2.2.1 n) L1 c 0 T B w2 hL1 hN1 hnL1 hp1 (by omega) (by rw [ho, List.append_nil]; rfl) (fun j x y => ⟨fun z => c2 z.1, fun z => c15 z.1⟩) hn (by omega) (by omega) (by omega) hd (fun q => k1 (by rw [hgo, q])) (fun T2 c1 q cc1 cc2 q2 q3 => ?_)
          refine kFin_run (e := e) (eb := eb) q2 (by rw [ho]; omega) (by omega) (by omega) (by unfold kBn; rw [if_neg c2, if_neg c15]; omega) he q3 ?_ (by unfold kBn; rw [if_neg c2, if_neg c15]; rfl) (fun q7 => k1 ?_) (fun ty q7 => kbo ▸ k2 _ c1 ?_ (by omega) (by omega))
          · unfold kBn; rw [if_neg c2, if_neg c15]; rfl
          · rw [hgo, q]; simp only; rw [q7]
          · rw [hgo, q]; simp only; rw [q7]
        exact kRun_up fin _ (by simp only [List.length_cons]; omega)
/-! lookGens of the reference: kGens, kBind. -/
theorem nd_take {ws : List Int} {v : Nat} {w : Int} (h : ws[v]? = some w) : (ws.take (v + 1)).Nodup ↔ (ws.take v).Nodup ∧ ∀ i : Nat, i < v → ¬ ws[i]? = some w := by
  have hv : v < ws.length := by
    rcases Nat.lt_or_ge v ws.length with q | q
    · exact q
    · rw [List.getElem?_eq_none q] at h; cases h
  rw [List.take_add_one, h, List.nodup_append]
  constructor
  · rintro ⟨a, -, b⟩
    refine ⟨a, fun i hi he => b w ?_ w (by simp) rfl⟩
    rw [List.mem_take_iff_getElem]
    have hl : i < ws.length := by omega
    refine ⟨i, by omega, ?_⟩
    rw [List.getElem?_eq_getElem hl] at he
    exact Option.some.inj he
  · rintro ⟨a, b⟩
    refine ⟨a, by simp, fun x hx y hy he => ?_⟩
    simp at hy
    subst hy
    subst he
    rw [List.mem_take_iff_getElem] at hx
    obtain ⟨i, hi, e⟩ := hx
    exact b i (by omega) (by rw [List.getElem?_eq_getElem (by omega), e])
theorem nd_sub {ws : List Int} {v : Nat} (h : ¬ (ws.take v).Nodup) : ¬ ws.Nodup := fun q => h (List.Nodup.sublist (List.take_sublist v ws) q)
theorem kPs_F {L : List Nat} {σ σ' : sg_S} {e eb : kE} (h : kPs σ e eb) (f : sg_F L σ σ') (hL : (!sg_cv L 88 37 && sg_ca L 113 && sg_ca L 114 && sg_ca L 115) = true) : kPs σ' e eb := by
  simp only [Bool.and_eq_true, Bool.not_eq_true'] at hL
  obtain ⟨⟨⟨l1, l2⟩, l3⟩, l4⟩ := hL
  refine ⟨?_, ?_⟩
  · rw [sg_F_g f l1]; exact pst_e h.1 (fun j _ _ => ⟨sg_F_gal f l2, sg_F_ga f l4⟩)
  · rw [sg_F_g f l1]; exact pst_e h.2 (fun j _ _ => ⟨sg_F_gal f l2, sg_F_ga f l3⟩)
theorem q_lookGens {σ : sg_S} {A : aT} {e eb : kE} {n : Int} {Q : sg_S → Prop} (h : trT σ A) (hn : 0 ≤ n ∧ n < A.1) (hF : sg_g σ 88 29 = 0) (hk : (A.2.2.2.2.2 n).length + 1 ≤ (A.2.2.2.2.1 n).length) (ht : ∀ x ∈ kGs A n, kIn (sg_g σ 101 x)) (he : kPs σ e eb) (hel : e.length ≤ 250) (k1 : ∀ σ', kGens (sg_g σ 101) (A.2.2.2.2.2 n) (kGs A n) = false → ¬ sg_g σ' 88 29 = 0 → sg_F [113, 114, 115, 116, 30088, 31088, 38088] σ σ' → Q σ') (k2 : ∀ σ', kGens (sg_g σ 101) (A.2.2.2.2.2 n) (kGs A n) = true → sg_g σ' 88 29 = 0 → kPs σ' (kBind (sg_g σ 101) (A.2.2.2.2.2 n) (kGs A n) e) (kGb n 0 (A.2.2.2.2.2 n) eb) → sg_F [113, 114, 115, 116, 30088, 31088, 38088] σ σ' → Q σ') : V_lookGens σ n Q := by
  have h200 := h.1.2.2.1
  obtain ⟨a1, a2, a3, a4, a5, a6, a7, a8, a9⟩ := h.1.2.2.2 n hn.1 hn.2
  have hn2 : 0 ≤ n ∧ n < 210 := by omega
  generalize hgs : A.2.2.2.2.2 n = gs at *
  generalize hxs : kGs A n = xs at *
  have hxl : xs.length = gs.length := by
    rw [← hxs]; unfold kGs; rw [hgs, List.length_take, List.length_drop]; omega
  have hxj : ∀ (j : Nat) (x : Int), xs[j]? = some x → (A.2.2.2.2.1 n)[1 + j]? = some x := fun j x hj => by
    rw [← hxs] at hj
    unfold kGs at hj
    rw [List.getElem?_take] at hj
    split at hj
    · rw [List.getElem?_drop] at hj; exact hj
    · cases hj
  have hkt : ∀ (j : Nat) (x : Int), xs[j]? = some x → p_kidType σ n (1 + (j : Int)) ∧ v_kidType σ n (1 + (j : Int)) = sg_g σ 101 x := fun j x hj => by
    have hj2 := hxj j x hj
    have hl : 1 + j < (A.2.2.2.2.1 n).length := by
      rcases Nat.lt_or_ge (1 + j) (A.2.2.2.2.1 n).length with q | q
      · exact q
      · rw [List.getElem?_eq_none q] at hj2; cases hj2
    have t := trT_kid h hn hl
    rw [show ((1 + j : Nat) : Int) = 1 + (j : Int) by omega] at t
    refine ⟨t.1, ?_⟩
    have t2 := t.2
    rw [List.getElem?_map, hj2] at t2
    exact (Option.some.inj t2).symm
  have hws : ∀ (j : Nat), (gs.map (·.1))[j]? = if j < gs.length then some (sg_gl σ 99 (4 * n + j)) else none := fun j => by
    by_cases c : j < gs.length
    · rw [if_pos c, List.getElem?_map, List.getElem?_eq_getElem c]
      rw [(a9 j _ (List.getElem?_eq_getElem c)).1]; rfl
    · rw [if_neg c]; exact List.getElem?_eq_none (by rw [List.length_map]; omega)
  have hwl : (gs.map (·.1)).length = gs.length := List.length_map _
  generalize hw : gs.map (·.1) = ws at *
  unfold V_lookGens
  rw [a7]
  refine ⟨fun m v1 σ2 => ∃ v : Nat, v1 = v ∧ m = gs.length - v ∧ 1 ≤ v ∧ (v ≤ gs.length ∨ v = 1) ∧ ((sg_g σ2 88 29 = 0 ∧ (ws.take v).Nodup) ∨ (¬ sg_g σ2 88 29 = 0 ∧ ¬ ws.Nodup)), fun σ2 => (sg_g σ2 88 29 = 0 ∧ ws.Nodup) ∨ (¬ sg_g σ2 88 29 = 0 ∧ ¬ ws.Nodup), ⟨_, 1, rfl, rfl, Nat.le_refl _, Or.inr rfl, Or.inl ⟨hF, ?_⟩⟩, ?_, ?_⟩
  · match ws with
    | [] => simp
    | _ :: _ => simp
  · rintro m v1 σ2 rv fr ⟨v, rfl, em, v1, v2, hi⟩
    refine ⟨hn2, fun c => ?_, fun c => ?_⟩
    · rw [List.take_of_length_le (by omega)] at hi
      exact hi
    · have hwv := hws v
      rw [if_pos (by omega)] at hwv
      refine ⟨fun m' x σ3 => ∃ i : Nat, x = i ∧ m' = v - i ∧ i ≤ v ∧ ((sg_g σ3 88 29 = 0 ∧ (ws.take v).Nodup ∧ ∀ j : Nat, j < i → ¬ ws[j]? = some (sg_gl σ 99 (4 * n + v))) ∨ (¬ sg_g σ3 88 29 = 0 ∧ ¬ ws.Nodup)), fun σ3 => ((sg_g σ3 88 29 = 0 ∧ (ws.take (v + 1)).Nodup) ∨ (¬ sg_g σ3 88 29 = 0 ∧ ¬ ws.Nodup)), ⟨_, 0, rfl, rfl, Nat.zero_le _, ?_⟩, ?_, ?_⟩
      · rcases hi with ⟨x1, x2⟩ | x
        · exact Or.inl ⟨x1, x2, fun j hj => by omega⟩
        · exact Or.inr x
      · rintro m' x σ3 rx fr3 ⟨i, rfl, em', hiv, hi3⟩
        refine ⟨fun c2 => ?_, fun c2 => ⟨⟨by omega, by omega⟩, ⟨by omega, by omega⟩, ⟨by omega, by omega⟩, ⟨by omega, by omega⟩, ⟨by omega, by omega⟩, fun d => ⟨⟨by omega, by omega⟩, _, ?_, i + 1, by omega, rfl, by omega, ?_⟩, fun d => q_wrong (by decide) (fun σ4 y1 y2 _ => ⟨⟨by omega, by omega⟩, _, ?_, i + 1, by omega, rfl, by omega, Or.inr ⟨y1, ?_⟩⟩)⟩⟩
        · rcases hi3 with ⟨x1, x2, x3⟩ | x
          · exact Or.inl ⟨x1, (nd_take hwv).mpr ⟨x2, fun j hj => x3 j (by omega)⟩⟩
          · exact Or.inr x
        · omega
        · rcases hi3 with ⟨x1, x2, x3⟩ | x
          · refine Or.inl ⟨x1, x2, fun j hj => ?_⟩
            by_cases e2 : j = i
            · subst e2
              rw [hws j, if_pos (by omega)]
              exact fun z => d (Option.some.inj z)
            · exact x3 j (by omega)
          · exact Or.inr x
        · omega
        · refine nd_sub (v := v + 1) (fun z => ((nd_take hwv).mp z).2 i (by omega) ?_)
          rw [hws i, if_pos (by omega), d]
      · intro σ3 fr3 hx
        exact ⟨⟨by omega, by omega⟩, _, (by omega : gs.length - (v + 1) < m), v + 1, by omega, rfl, by omega, Or.inl (by omega), hx⟩
  · intro σ2 fr hx
    refine ⟨fun m v1 σ3 => ∃ v : Nat, v1 = v ∧ m = gs.length - v ∧ v ≤ gs.length ∧ ((sg_g σ3 88 29 = 0 ∧ ws.Nodup ∧ ∀ (j : Nat) (x : Int), j < v → xs[j]? = some x → 0 < sg_g σ 101 x) ∨ (¬ sg_g σ3 88 29 = 0 ∧ kGens (sg_g σ 101) gs xs = false)), fun σ3 => (sg_g σ3 88 29 = 0 ∧ kGens (sg_g σ 101) gs xs = true) ∨ (¬ sg_g σ3 88 29 = 0 ∧ kGens (sg_g σ 101) gs xs = false), ⟨_, 0, rfl, rfl, Nat.zero_le _, ?_⟩, ?_, ?_⟩
    · rcases hx with ⟨x1, x2⟩ | ⟨x1, x2⟩
      · exact Or.inl ⟨x1, x2, fun j x hj => by omega⟩
      · refine Or.inr ⟨x1, ?_⟩
        unfold kGens
        rw [hw, decide_eq_false x2]; rfl
    · rintro m v1 σ3 rv fr3 ⟨v, rfl, em, hv, hi⟩
      refine ⟨hn2, fun c => ?_, fun c => ?_⟩
      · rcases hi with ⟨x1, x2, x3⟩ | x
        · refine Or.inl ⟨x1, ?_⟩
          unfold kGens
          rw [hw, decide_eq_true x2, Bool.true_and, List.all_eq_true]
          intro x hx
          obtain ⟨j, hj⟩ := List.getElem?_of_mem hx
          have hj2 : j < xs.length := by
            rcases Nat.lt_or_ge j xs.length with q | q
            · exact q
            · rw [List.getElem?_eq_none q] at hj; cases hj
          exact decide_eq_true (x3 j x (by omega) hj)
        · exact Or.inr x
      · obtain ⟨x, hx⟩ : ∃ x, xs[v]? = some x := ⟨_, List.getElem?_eq_getElem (by omega)⟩
        obtain ⟨t1, t2⟩ := hkt v x hx
        have tx := ht x (List.mem_of_getElem? hx)
        have fin : ∀ σ4, ((sg_g σ4 88 29 = 0 ∧ ws.Nodup ∧ ∀ (j : Nat) (x : Int), j < v + 1 → xs[j]? = some x → 0 < sg_g σ 101 x) ∨ (¬ sg_g σ4 88 29 = 0 ∧ kGens (sg_g σ 101) gs xs = false)) → sg_R ((v : Int) + 1) ∧ ∃ m', m' < m ∧ ∃ w : Nat, (v : Int) + 1 = w ∧ m' = gs.length - w ∧ w ≤ gs.length ∧ ((sg_g σ4 88 29 = 0 ∧ ws.Nodup ∧ ∀ (j : Nat) (x : Int), j < w → xs[j]? = some x → 0 < sg_g σ 101 x) ∨ (¬ sg_g σ4 88 29 = 0 ∧ kGens (sg_g σ 101) gs xs = false)) := fun σ4 hh => ⟨⟨by omega, by omega⟩, gs.length - (v + 1), by omega, v + 1, by omega, rfl, by omega, hh⟩
        refine ⟨⟨by omega, by omega⟩, t1, fun σ4 => (sg_g σ4 88 29 = 0 ∧ ws.Nodup ∧ ∀ (j : Nat) (x : Int), j < v + 1 → xs[j]? = some x → 0 < sg_g σ 101 x) ∨ (¬ sg_g σ4 88 29 = 0 ∧ kGens (sg_g σ 101) gs xs = false), ⟨fun d => ?_, fun d => q_wrong (by decide) (fun σ4 y1 y2 _ => Or.inr ⟨y1, ?_⟩)⟩, fun σ4 _ hh => fin σ4 hh⟩
        · rcases hi with ⟨x1, x2, x3⟩ | y
          · refine Or.inl ⟨x1, x2, fun j y hj hy => ?_⟩
            by_cases e2 : j = v
            · subst e2
              rw [hx] at hy
              cases hy
              rw [t2] at d
              have := tx.1
              omega
            · exact x3 j y (by omega) hy
          · exact Or.inr y
        · unfold kGens
          rw [Bool.and_eq_false_iff]
          right
          rw [List.all_eq_false]
          refine ⟨x, List.mem_of_getElem? hx, ?_⟩
          rw [t2] at d
          rw [d]; decide
    · intro σ3 fr3 hx3
      have he3 : kPs σ3 e eb := kPs_F he (sg_F_t fr fr3) rfl
      refine ⟨fun m v1 σ4 => ∃ (v : Nat) (ev evb : kE), v1 = v ∧ m = gs.length - v ∧ v ≤ gs.length ∧ sg_g σ4 88 29 = sg_g σ3 88 29 ∧ kPs σ4 ev evb ∧ ev.length = e.length + v ∧ kBind (sg_g σ 101) (gs.drop v) (xs.drop v) ev = kBind (sg_g σ 101) gs xs e ∧ kGb n v (gs.drop v) evb = kGb n 0 gs eb, fun σ4 => sg_g σ4 88 29 = sg_g σ3 88 29 ∧ kPs σ4 (kBind (sg_g σ 101) gs xs e) (kGb n 0 gs eb), ⟨_, 0, e, eb, rfl, rfl, Nat.zero_le _, rfl, he3, rfl, rfl, rfl⟩, ?_, ?_⟩
      · rintro m v1 σ4 rv fr4 ⟨v, ev, evb, rfl, em, hv, hf4, hp, hl, hb, hbb⟩
        refine ⟨hn2, fun c => ?_, fun c => ?_⟩
        · refine ⟨hf4, ?_⟩
          rw [List.drop_eq_nil_of_le (show gs.length ≤ v by omega)] at hb hbb
          simp only [kBind] at hb
          simp only [kGb] at hbb
          rw [← hb, ← hbb]; exact hp
        · obtain ⟨x, hx⟩ : ∃ x, xs[v]? = some x := ⟨_, List.getElem?_eq_getElem (by omega)⟩
          obtain ⟨y, hy⟩ : ∃ y, gs[v]? = some y := ⟨_, List.getElem?_eq_getElem (by omega)⟩
          obtain ⟨t1, t2⟩ := hkt v x hx
          have tx := ht x (List.mem_of_getElem? hx)
          have dx : xs.drop v = x :: xs.drop (v + 1) := by
            have hl2 : v < xs.length := by omega
            rw [List.drop_eq_getElem_cons hl2]
            rw [List.getElem?_eq_getElem hl2] at hx
            rw [Option.some.inj hx]
          have dy : gs.drop v = y :: gs.drop (v + 1) := by
            have hl2 : v < gs.length := by omega
            rw [List.drop_eq_getElem_cons hl2]
            rw [List.getElem?_eq_getElem hl2] at hy
            rw [Option.some.inj hy]
          rw [dx, dy] at hb
          rw [dy] at hbb
          simp only [kBind] at hb
          simp only [kGb] at hbb
          have tx1 := tx.1
          have tx2 := tx.2
          rw [t2, (a9 v y hy).1]
          refine ⟨⟨by omega, by omega⟩, ⟨by omega, by omega⟩, ⟨by omega, by omega⟩, ⟨⟨by omega, by omega⟩, ⟨by omega, by omega⟩, ⟨by omega, by omega⟩, trivial⟩, ⟨by omega, by omega⟩, t1, ⟨by omega, by omega⟩, q_know hp (by omega) (by rw [← (a9 v y hy).1]; exact sg_Rgl _ _ _) ⟨by omega, by omega⟩ (by unfold v_ofGen; omega) (fun σ5 y1 y2 _ => ⟨⟨by omega, by omega⟩, gs.length - (v + 1), by omega, v + 1, _, _, by omega, rfl, by omega, ?_, y1, ?_, hb, ?_⟩)⟩
          · rw [sg_F_g y2 (by rfl)]; exact hf4
          · simp only [List.length_cons]; omega
          · unfold v_ofGen
            exact hbb
      · rintro σ4 fr4 ⟨hf4, hp⟩
        have f : sg_F [113, 114, 115, 116, 30088, 31088, 38088] σ σ4 := sg_F_t (sg_F_m (sg_F_t fr fr3) rfl) (sg_F_m fr4 rfl)
        rcases hx3 with ⟨x1, x2⟩ | ⟨x1, x2⟩
        · exact k2 σ4 x2 (hf4.trans x1) hp f
        · exact k1 σ4 x2 (fun z => x1 (hf4.symm.trans z)) f
/-! lookThrough of the reference comes to kGo. -/
def okT (L : List Nat) : Bool := !sg_cv L 88 8 && sg_ca L 93 && sg_ca L 94 && sg_ca L 95 && sg_ca L 96 && sg_ca L 97 && sg_ca L 98 && sg_ca L 99 && sg_ca L 100
def okD (L : List Nat) : Bool := sg_ca L 103 && sg_ca L 105 && sg_ca L 106 && sg_ca L 109
theorem trT_F {L : List Nat} {σ σ' : sg_S} {A : aT} (h : trT σ A) (f : sg_F L σ σ') (hL : okT L = true) : trT σ' A := by
  unfold okT at hL
  simp only [Bool.and_eq_true, Bool.not_eq_true'] at hL
  obtain ⟨⟨⟨⟨⟨⟨⟨⟨l1, l2⟩, l3⟩, l4⟩, l5⟩, l6⟩, l7⟩, l8⟩, l9⟩ := hL
  unfold trT at h ⊢
  rw [sg_F_g f l1, show sg_g σ' 93 = sg_g σ 93 from funext fun _ => sg_F_ga f l2, show sg_g σ' 94 = sg_g σ 94 from funext fun _ => sg_F_ga f l3, show sg_gl σ' 95 = sg_gl σ 95 from funext fun _ => sg_F_gal f l4, show sg_g σ' 96 = sg_g σ 96 from funext fun _ => sg_F_ga f l5, show sg_g σ' 97 = sg_g σ 97 from funext fun _ => sg_F_ga f l6, show sg_g σ' 98 = sg_g σ 98 from funext fun _ => sg_F_ga f l7, show sg_gl σ' 99 = sg_gl σ 99 from funext fun _ => sg_F_gal f l8, show sg_g σ' 100 = sg_g σ 100 from funext fun _ => sg_F_ga f l9]
  exact h
theorem dsR_F {L : List Nat} {σ σ' : sg_S} {n : Int} {ds : kD} (h : dsR σ n ds) (f : sg_F L σ σ') (hL : okD L = true) : dsR σ' n ds := by
  unfold okD at hL
  simp only [Bool.and_eq_true] at hL
  obtain ⟨⟨⟨l1, l2⟩, l3⟩, l4⟩ := hL
  exact dsR_e (fun _ => sg_F_gal f l1) (fun _ => sg_F_ga f l3) (fun _ => sg_F_ga f l4) (fun _ => sg_F_ga f l2) h
theorem pst_d {g h : Int → Int} : ∀ (k : Nat) {n : Int} {l : List (Int × Int)}, pst g h n l → k ≤ l.length → pst g h (n - k) (l.drop k)
  | 0, n, l, q, _ => by simpa using q
  | k + 1, n, [], q, hk => by simp at hk
  | k + 1, n, x :: r, q, hk => by
    have := pst_d k q.2.2.2 (by simpa using hk)
    rw [show n - ((k + 1 : Nat) : Int) = n - 1 - k by omega]
    exact this
/-- the part of n at stage s -/
theorem q_part {σ : sg_S} {A : aT} {n : Int} {s : Nat} (h : trT σ A) (hn : 0 ≤ n ∧ n < A.1) (hw : nW A n) (hs : s ≤ (kOrd A n).length) : p_partOf σ n s ∧ ((∃ x, (kOrd A n)[s]? = some x ∧ (0 ≤ v_partOf σ n s ∧ v_partOf σ n s < 200) ∧ sg_g σ 97 (200 * n + v_partOf σ n s) = x) ∨ (s = (kOrd A n).length ∧ v_partOf σ n s < 0)) := by
  have h200 := h.1.2.2.1
  obtain ⟨a1, a2, a3, a4, a5, a6, a7, a8, a9⟩ := h.1.2.2.2 n hn.1 hn.2
  obtain ⟨n1, n2, n3, n4, n5, n6, n7, n8⟩ := hw
  have hn2 : 0 ≤ n ∧ n < 210 := by omega
  unfold p_partOf v_partOf p_hasTest v_hasTest
  rw [a1, a4, a7]
  by_cases c : A.2.1 n = 15
  · have n7 := n7 c
    obtain ⟨bd, tl, hk2⟩ : ∃ bd tl, A.2.2.2.2.1 n = bd :: tl := by
      match hh : A.2.2.2.2.1 n with
      | bd :: tl => exact ⟨bd, tl, rfl⟩
      | [] => rw [hh] at n7; simp only [List.length_nil] at n7; omega
    have ho : kOrd A n = tl ++ [bd] := by unfold kOrd; rw [if_pos c, hk2]; rfl
    rw [ho] at hs ⊢
    rw [hk2] at n7 a6 a5 ⊢
    simp only [List.length_cons, List.length_append, List.length_nil] at n7 hs a5 ⊢
    generalize (A.2.2.2.2.2 n).length = g at *
    refine ⟨⟨hn2, fun _ => ⟨fun _ => ⟨⟨hn2, ⟨by omega, by omega⟩, fun _ => trivial, fun _ => trivial⟩, fun _ => ⟨fun _ => trivial, fun _ => trivial⟩, fun _ => ⟨fun _ => ⟨⟨by omega, by omega⟩, fun _ => trivial, fun _ => trivial⟩, fun _ => ⟨⟨by omega, by omega⟩, trivial⟩⟩⟩, fun _ => ⟨⟨by omega, by omega⟩, trivial⟩⟩, fun x => absurd c x⟩, ?_⟩
    rw [if_pos c]
    have tlx : ∀ j : Nat, j < tl.length → ∃ x, (tl ++ [bd])[j]? = some x ∧ sg_g σ 97 (200 * n + (1 + (j : Int))) = x := fun j hj => by
      refine ⟨tl[j], ?_, ?_⟩
      · rw [List.getElem?_append_left hj, List.getElem?_eq_getElem hj]
      · have := a6 (j + 1) tl[j] (by rw [List.getElem?_cons_succ, List.getElem?_eq_getElem hj])
        rw [show 1 + (j : Int) = ((j + 1 : Nat) : Int) by omega]; exact this
    have bdx : (tl ++ [bd])[tl.length]? = some bd ∧ sg_g σ 97 (200 * n + 0) = bd := ⟨by simp, by simpa using a6 0 bd rfl⟩
    by_cases c1 : (g : Int) ≤ (s : Int)
    · rw [if_pos c1]
      by_cases c2 : ((tl.length + 1 : Nat) : Int) = 2 + (g : Int)
      · have e1 : ¬ (if ¬ ((tl.length + 1 : Nat) : Int) = 2 + (g : Int) then (0 : Int) else 1) = 0 := by rw [if_neg (fun x => x c2)]; decide
        rw [if_neg e1]
        by_cases c3 : (s : Int) = (g : Int)
        · rw [if_neg (fun x => x c3)]
          left
          obtain ⟨x, x1, x2⟩ := tlx s (by omega)
          refine ⟨x, x1, ⟨by omega, by omega⟩, ?_⟩
          rw [← x2]
          congr 1
          omega
        · rw [if_pos c3]
          by_cases c4 : (s : Int) = (g : Int) + 1
          · rw [if_neg (fun x => x c4)]
            left
            refine ⟨bd, ?_, ⟨by omega, by omega⟩, bdx.2⟩
            rw [show s = tl.length by omega]; exact bdx.1
          · rw [if_pos c4]
            right
            exact ⟨by omega, by omega⟩
      · have e1 : (if ¬ ((tl.length + 1 : Nat) : Int) = 2 + (g : Int) then (0 : Int) else 1) = 0 := by rw [if_pos c2]
        rw [if_pos e1]
        by_cases c3 : (s : Int) = (g : Int)
        · rw [if_neg (fun x => x c3)]
          left
          refine ⟨bd, ?_, ⟨by omega, by omega⟩, bdx.2⟩
          rw [show s = tl.length by omega]; exact bdx.1
        · rw [if_pos c3]
          right
          exact ⟨by omega, by omega⟩
    · rw [if_neg c1]
      left
      obtain ⟨x, x1, x2⟩ := tlx s (by omega)
      exact ⟨x, x1, ⟨by omega, by omega⟩, x2⟩
  · have ho : kOrd A n = A.2.2.2.2.1 n := by unfold kOrd; rw [if_neg c]
    rw [ho] at hs ⊢
    refine ⟨⟨hn2, fun x => absurd x c, fun _ => ⟨fun _ => trivial, fun _ => trivial⟩⟩, ?_⟩
    rw [if_neg c]
    by_cases c1 : ((A.2.2.2.2.1 n).length : Int) ≤ (s : Int)
    · rw [if_pos c1]
      right
      exact ⟨by omega, by omega⟩
    · rw [if_neg c1]
      left
      have hl : s < (A.2.2.2.2.1 n).length := by omega
      exact ⟨_, List.getElem?_eq_getElem hl, ⟨by omega, by omega⟩, a6 s _ (List.getElem?_eq_getElem hl)⟩
theorem kOrd_mem {A : aT} {n x : Int} (h : x ∈ A.2.2.2.2.1 n) : x ∈ kOrd A n := by
  unfold kOrd
  split
  · rw [← List.take_append_drop 1 (A.2.2.2.2.1 n)] at h
    rcases List.mem_append.mp h with q | q
    · exact List.mem_append_right _ q
    · exact List.mem_append_left _ q
  · exact h
theorem kOrd_len (A : aT) (n : Int) : (kOrd A n).length = (A.2.2.2.2.1 n).length := by
  unfold kOrd
  split
  · rw [List.length_append, List.length_drop, List.length_take]; omega
  · rfl
/-- the cells of the walk: its pile, the names known -/
def kRp (σ : sg_S) (p : List (Int × Int)) (e eb : kE) : Prop := pst (sg_g σ 117) (sg_g σ 118) (sg_g σ 88 42) p ∧ kPs σ e eb
def kI (A : aT) (ds : kD) (r : Option ((Int → Int) × (Int → Int))) (k : Nat) (σ : sg_S) : Prop := (sg_g σ 88 29 = 0 ∧ ∃ m c p e eb, k = m + 1 ∧ kRp σ p e eb ∧ kRun A ds r 272 m c p e (sg_g σ 101) eb (sg_g σ 102)) ∨ (¬ sg_g σ 88 29 = 0 ∧ r = none)
/-! lookThrough of the reference, turn by turn. -/
theorem kRun_inv {A : aT} {ds : kD} {r : Option ((Int → Int) × (Int → Int))} {cm m c : Nat} {n s' : Int} {p : List (Int × Int)} {e eb : kE} {T B : Int → Int} (h : kRun A ds r cm m c ((n, s') :: p) e T eb B) : ∃ s : Nat, s' = s ∧ kNd A T n s ∧ e.length ≤ 250 ∧ p.length ≤ 400 ∧ ((A.2.1 n = 15 ∧ s = (A.2.2.2.2.2 n).length ∧ kGens T (A.2.2.2.2.2 n) (kGs A n) = false) → r = none ∧ (kBd A T e n s).length + c ≤ 272 + e.length) ∧ (¬ (A.2.1 n = 15 ∧ s = (A.2.2.2.2.2 n).length ∧ kGens T (A.2.2.2.2.2 n) (kGs A n) = false) → (∃ x m', m = m' + 1 ∧ (kOrd A n)[s]? = some x ∧ ¬ x = n ∧ (∀ y ∈ p, ¬ y.1 = x) ∧ e.length ≤ (kBd A T e n s).length ∧ (kBd A T e n s).length + c ≤ 272 + e.length ∧ kRun A ds r cm m' (c + ((kBd A T e n s).length - e.length)) ((x, 0) :: (n, ((s + 1 : Nat) : Int)) :: p) (kBd A T e n s) T (kBb A eb n s) B) ∨ (s = (kOrd A n).length ∧ kBn A n ≤ e.length ∧ ((∀ q ∈ e.drop (kBn A n), kIn q.2) ∧ kDi ds T) ∧ ((kTy A ds T (e.drop (kBn A n)) n ((A.2.2.2.2.1 n).map T) = none ∧ r = none) ∨ ∃ ty m', m = m' + 1 ∧ kTy A ds T (e.drop (kBn A n)) n ((A.2.2.2.2.1 n).map T) = some ty ∧ kRun A ds r cm m' c p (e.drop (kBn A n)) (aU T n ty) (eb.drop (kBn A n)) (kUp A ds (eb.drop (kBn A n)) n B)))) := by
  have nog : ∀ s : Nat, kNd A T n s → s = (kOrd A n).length → ¬ (A.2.1 n = 15 ∧ s = (A.2.2.2.2.2 n).length ∧ kGens T (A.2.2.2.2.2 n) (kGs A n) = false) := fun s a d x => by
    obtain ⟨n1, n2, n3, n4, n5, n6, n7, n8⟩ := a.2.1
    have n7 := n7 x.1
    rw [kOrd_len] at d
    have := x.2.1
    omega
  have two : kSt A ds r cm c ((n, s') :: p) e T eb B ∨ ∃ m', m = m' + 1 ∧ kSp A ds (kRun A ds r cm m') c ((n, s') :: p) e T eb B := by
    cases m with
    | zero => exact Or.inl h
    | succ m' =>
      rcases h with h | h
      · exact Or.inl h
      · exact Or.inr ⟨m', rfl, h⟩
  clear h
  rcases two with h | ⟨m', rfl, n', s, p', h0, a, b, cc, h9⟩
  · rcases h with ⟨h, -⟩ | ⟨n', s, p', h0, a, b, cc, h9⟩
    · cases h
    · cases h0
      rcases h9 with ⟨d, e1, f, g, h⟩ | ⟨d, e0, e2, e1, f⟩
      · exact ⟨s, rfl, a, b, cc, fun _ => ⟨h, g⟩, fun x => absurd ⟨d, e1, f⟩ x⟩
      · exact ⟨s, rfl, a, b, cc, fun x => absurd x (nog s a d), fun _ => Or.inr ⟨d, e0, e2, Or.inl ⟨e1, f⟩⟩⟩
  · cases h0
    rcases h9 with ⟨x, d, e1, x1, x2, x3, x4, f⟩ | ⟨ty, d, e0, e2, e1, f⟩
    · exact ⟨s, rfl, a, b, cc, fun x => (by rw [d x.1 x.2.1] at x; cases x.2.2), fun _ => Or.inl ⟨x, m', rfl, e1, x1, x2, x3, x4, f⟩⟩
    · exact ⟨s, rfl, a, b, cc, fun x => absurd x (nog s a d), fun _ => Or.inr ⟨d, e0, e2, Or.inr ⟨ty, m', rfl, e1, f⟩⟩⟩
theorem kBd_end {A : aT} {T : Int → Int} {e : kE} {n : Int} {s : Nat} (hw : nW A n) (hs : s = (kOrd A n).length) : kBd A T e n s = e := by
  obtain ⟨n1, n2, n3, n4, n5, n6, n7, n8⟩ := hw
  rw [kOrd_len] at hs
  refine kBd_no ⟨fun x => ?_, fun x => ?_⟩ T e
  · have := n3 (Or.inl x.1); omega
  · have := n7 x.1; omega
theorem kBb_end {A : aT} {eb : kE} {n : Int} {s : Nat} (hw : nW A n) (hs : s = (kOrd A n).length) : kBb A eb n s = eb := by
  obtain ⟨n1, n2, n3, n4, n5, n6, n7, n8⟩ := hw
  rw [kOrd_len] at hs
  refine kBb_no ⟨fun x => ?_, fun x => ?_⟩ eb
  · have := n3 (Or.inl x.1); omega
  · have := n7 x.1; omega
theorem kRun_0 {A : aT} {ds : kD} {r : Option ((Int → Int) × (Int → Int))} {cm m c : Nat} {e eb : kE} {T B : Int → Int} (h : kRun A ds r cm m c [] e T eb B) : r = some (T, B) ∧ c ≤ cm := by
  have stp : kSt A ds r cm c [] e T eb B → r = some (T, B) ∧ c ≤ cm := fun h => by
    rcases h with ⟨-, a, b⟩ | ⟨n', s, p', h0, -⟩
    · exact ⟨b, a⟩
    · cases h0
  cases m with
  | zero => exact stp h
  | succ m =>
    rcases h with h | ⟨n', s, p', h0, -⟩
    · exact stp h
    · cases h0
theorem q_lookThrough {σ : sg_S} {A : aT} {ds : kD} {e eb : kE} {n : Int} {Q : sg_S → Prop} (h : trT σ A) (hc : cT A 0 n) (hlen : ∀ L : List Int, L.Nodup → (∀ x ∈ L, 0 ≤ x ∧ x < A.1) → L.length ≤ 200) (hF : sg_g σ 88 29 = 0) (he : kPs σ e eb) (hel : e.length ≤ 50) (hei : ∀ q ∈ e, kIn q.2) (hdi : kDi ds (sg_g σ 101)) (hd : dsR σ (sg_g σ 88 45) ds) (hl : ds.length ≤ 12) (hr : ∀ d ∈ ds, 0 ≤ d.2.2 ∧ d.2.2 < A.1) (k1 : ∀ σ', kGo A ds 201 e n (sg_g σ 101) = none → ¬ sg_g σ' 88 29 = 0 → sg_F [101, 102, 113, 114, 115, 116, 117, 118, 30088, 31088, 38088, 43088] σ σ' → Q σ') (k2 : ∀ σ', kGo A ds 201 e n (sg_g σ 101) = some (sg_g σ' 101) → sg_g σ' 102 = kBo A ds 201 eb n (sg_g σ 102) → sg_g σ' 88 29 = 0 → sg_F [101, 102, 113, 114, 115, 116, 117, 118, 30088, 31088, 38088, 43088] σ σ' → Q σ') : V_lookThrough σ n Q := by
  have h200 := h.1.2.2.1
  obtain ⟨L, hL1, hL2, hL3⟩ := hc
  have hLl := hlen L hL2 hL3
  have hnn : 0 ≤ n ∧ n < A.1 := hL3 n (fT_sub hL1 n (by simp))
  obtain ⟨r, hr1, hr2, hr3⟩ : ∃ r : Option ((Int → Int) × (Int → Int)), (kGo A ds 201 e n (sg_g σ 101) = none → r = none) ∧ (∀ T1, kGo A ds 201 e n (sg_g σ 101) = some T1 → r = some (T1, kBo A ds 201 eb n (sg_g σ 102))) ∧ (r = none → kGo A ds 201 e n (sg_g σ 101) = none) := by
    cases kGo A ds 201 e n (sg_g σ 101) with
    | none => exact ⟨none, fun _ => rfl, fun T1 z => (by cases z), fun _ => rfl⟩
    | some T1 => exact ⟨some (T1, kBo A ds 201 eb n (sg_g σ 102)), fun z => (by cases z), fun T2 z => (by cases z; rfl), fun z => (by cases z)⟩
  have run0 : kRun A ds r 272 (0 + (2 * L.length - 1)) 0 [(n, 0)] e (sg_g σ 101) eb (sg_g σ 102) := kNL_all A ds 201 _ 272 0 0 n L [] e (sg_g σ 101) eb (sg_g σ 102) hL1 hL3 hL2 (by simp) (by omega) (by omega) (by simp only [List.length_nil]; omega) (by omega) hdi hei hr1 (fun T1 c' x _ _ => kRun_nil 0 c' e T1 eb _ (by omega) (hr2 T1 x))
  have k1' : ∀ σ', r = none → ¬ sg_g σ' 88 29 = 0 → sg_F [101, 102, 113, 114, 115, 116, 117, 118, 30088, 31088, 38088, 43088] σ σ' → Q σ' := fun σ' z => k1 σ' (hr3 z)
  have k2' : ∀ σ', r = some (sg_g σ' 101, sg_g σ' 102) → sg_g σ' 88 29 = 0 → sg_F [101, 102, 113, 114, 115, 116, 117, 118, 30088, 31088, 38088, 43088] σ σ' → Q σ' := fun σ' z => by
    cases hg : kGo A ds 201 e n (sg_g σ 101) with
    | none => rw [hr1 hg] at z; cases z
    | some T1 =>
      have z2 := hr2 T1 hg
      rw [z] at z2
      have z3 := Prod.mk.inj (Option.some.inj z2)
      exact k2 σ' (by rw [hg, z3.1]) z3.2
  clear k1 k2 hr1 hr2 hr3
  unfold V_lookThrough
  intro σ1 e1 σ4 e4 σ7 e7
  have f7 : sg_F [101, 102, 113, 114, 115, 116, 117, 118, 30088, 31088, 38088, 43088] σ σ7 := by
    rw [e7, e4, e1]; exact sg_F_w (sg_F_w (sg_F_w (sg_F_r _ _) rfl _) rfl _) rfl _
  have f7' : sg_F [117, 118, 43088] σ σ7 := by
    rw [e7, e4, e1]; exact sg_F_w (sg_F_w (sg_F_w (sg_F_r _ _) rfl _) rfl _) rfl _
  refine ⟨kI A ds r, fun σ10 => (sg_g σ10 88 29 = 0 ∧ r = some (sg_g σ10 101, sg_g σ10 102)) ∨ (¬ sg_g σ10 88 29 = 0 ∧ r = none), ⟨(0 + (2 * L.length - 1)) + 1, Or.inl ⟨?_, 0 + (2 * L.length - 1), 0, [(n, 0)], e, eb, rfl, ⟨⟨?_, ?_, ?_, ?_⟩, ?_⟩, ?_⟩⟩, ?_, ?_⟩
  · rw [sg_F_g f7' (by rfl)]; exact hF
  · rw [e7, sg_gw_c _ _ _ _ _ _ (by decide), e4, sg_gw_c _ _ _ _ _ _ (by decide), e1, sg_gw_e _ _ _ _ (by decide)]; decide
  · rw [e7, sg_gw_c _ 118 88 _ _ _ (by decide), sg_gw_c _ _ _ _ _ _ (by decide), e4, sg_gw_c _ 117 88 _ _ _ (by decide), e1, sg_gw_e _ _ _ _ (by decide)]
    exact sg_gw_e _ _ _ _ ⟨by omega, by omega⟩
  · rw [e7, sg_gw_c _ 118 88 _ _ _ (by decide), e4, sg_gw_c _ 117 88 _ _ _ (by decide), e1, sg_gw_e _ _ _ _ (by decide)]
    exact sg_gw_e _ _ _ _ (by decide)
  · rw [e7, sg_gw_c _ 118 88 _ _ _ (by decide), e4, sg_gw_c _ 117 88 _ _ _ (by decide), e1, sg_gw_e _ _ _ _ (by decide)]
    rfl
  · exact kPs_F he f7' rfl
  · rw [show sg_g σ7 101 = sg_g σ 101 from funext fun _ => sg_F_ga f7' rfl, show sg_g σ7 102 = sg_g σ 102 from funext fun _ => sg_F_ga f7' rfl]
    exact run0
  · rintro k σ10 fr hI
    have f10 := sg_F_t f7 fr
    refine ⟨fun c => ?_, fun c => ⟨fun d => ?_, fun d => ?_⟩⟩
    · rcases hI with ⟨i1, m, c0, p, ee, eeb, i2, ⟨i3, i4⟩, i5⟩ | i
      · have := pst_n i3
        cases p with
        | nil => exact Or.inl ⟨i1, (kRun_0 i5).1⟩
        | cons x p => simp only [List.length_cons] at this; omega
      · exact Or.inr i
    · rcases hI with ⟨i1, -⟩ | i
      · exact absurd i1 d
      · exact Or.inr i
    · rcases hI with ⟨i1, m, c0, p0, e0, eb0, rfl, ⟨i3, i4⟩, i5⟩ | ⟨i, -⟩
      rotate_left
      · exact absurd d i
      cases p0 with
      | nil => have := pst_n i3; simp only [List.length_nil] at this; omega
      | cons y p =>
        obtain ⟨q, s'⟩ := y
        obtain ⟨s, rfl, hnd, b1, b2, g1, g2⟩ := kRun_inv i5
        have pn := pst_n i3
        simp only [List.length_cons] at pn
        obtain ⟨p1, p2, p3, p4⟩ := i3
        simp only at p2 p3
        rw [p2, p3]
        obtain ⟨hq, hw, hso, hst⟩ := hnd
        have t10 := trT_F h f10 rfl
        obtain ⟨a1, a2, a3, a4, a5, a6, a7, a8, a9⟩ := h.1.2.2.2 q hq.1 hq.2
        obtain ⟨n1, n2, n3, n4, n5, n6, n7, n8⟩ := hw
        have hw : nW A q := ⟨n1, n2, n3, n4, n5, n6, n7, n8⟩
        have hkl := kOrd_len A q
        have hpt := q_part h hq hw hso
        rw [a1, a7]
        generalize hT : sg_g σ10 101 = T at *
        generalize hTB : sg_g σ10 102 = TB at *
        have en := pst_n i4.1
        refine ⟨⟨by omega, by omega⟩, ⟨by omega, by omega⟩, ⟨by omega, by omega⟩, fun σ31 => sg_g σ31 88 29 = 0 ∧ kPs σ31 (if A.2.1 q = 2 ∧ s = 1 then (A.2.2.2.1 q, T ((A.2.2.2.2.1 q).getD 0 0)) :: e0 else e0) (if A.2.1 q = 2 ∧ s = 1 then (A.2.2.2.1 q, q) :: eb0 else eb0), ⟨fun c2 => ⟨d, ?_⟩, fun c2 => ⟨fun c3 => ⟨d, ?_⟩, fun c3 => ?_⟩⟩, ?_⟩
        · rw [if_neg (fun x => c2 x.1), if_neg (fun x => c2 x.1)]; exact i4
        · rw [if_neg (fun x => c3 (by omega)), if_neg (fun x => c3 (by omega))]; exact i4
        · have l2 := n3 (Or.inl c2)
          have t := trT_kid t10 hq (j := 0) (by omega)
          have t1 := t.1
          have t2 := t.2
          rw [show ((0 : Nat) : Int) = 0 from rfl] at t1 t2
          have e0' : v_kidType σ10 q 0 = T ((A.2.2.2.2.1 q).getD 0 0) := by
            rw [List.getElem?_map, hT] at t2
            cases hz : (A.2.2.2.2.1 q)[0]? with
            | none => rw [hz] at t2; cases t2
            | some z =>
              rw [hz] at t2
              rw [List.getD_eq_getElem?_getD, hz]
              exact (Option.some.inj t2).symm
          refine ⟨t1, q_know i4 (by omega) (sg_Rgl _ _ _) (sg_Rg _ _ _) ⟨by omega, by omega⟩ (fun σ98 x1 x2 _ => ⟨?_, ?_⟩)⟩
          · rw [sg_F_g x2 (by rfl)]; exact d
          · rw [if_pos ⟨c2, by omega⟩, if_pos ⟨c2, by omega⟩, ← e0', ← a3]; exact x1
        · rintro σ31 fr31 ⟨d31, e31⟩
          have t31 := trT_F t10 fr31 rfl
          have T31 : sg_g σ31 101 = T := by rw [← hT]; exact funext fun _ => sg_F_ga fr31 rfl
          refine ⟨fun σ37 => (sg_g σ37 88 29 = 0 ∧ kPs σ37 (kBd A T e0 q s) (kBb A eb0 q s) ∧ ¬ (A.2.1 q = 15 ∧ s = (A.2.2.2.2.2 q).length ∧ kGens T (A.2.2.2.2.2 q) (kGs A q) = false)) ∨ (¬ sg_g σ37 88 29 = 0 ∧ r = none), ⟨fun c2 => Or.inl ⟨d31, ?_, fun x => c2 x.1⟩, fun c2 => ⟨fun c3 => Or.inl ⟨d31, ?_, fun x => c3 (by omega)⟩, fun c3 => ?_⟩⟩, ?_⟩
          · unfold kBd kBb
            by_cases c : A.2.1 q = 2 ∧ s = 1
            · rw [if_pos c, if_pos c] at e31
              rw [if_pos c, if_pos c]; exact e31
            · rw [if_neg c, if_neg c] at e31
              rw [if_neg c, if_neg c, if_neg (fun x => c2 x.1), if_neg (fun x => c2 x.1)]; exact e31
          · have c9 : ¬ (A.2.1 q = 2 ∧ s = 1) := fun x => by omega
            have c8 : ¬ (A.2.1 q = 15 ∧ s = (A.2.2.2.2.2 q).length) := fun x => c3 (by omega)
            unfold kBd kBb
            rw [if_neg c9, if_neg c9] at e31
            rw [if_neg c9, if_neg c9, if_neg c8, if_neg c8]; exact e31
          · have l7 := n7 c2
            have c9 : ¬ (A.2.1 q = 2 ∧ s = 1) := fun x => by omega
            rw [if_neg c9, if_neg c9] at e31
            have hgx : ∀ x ∈ kGs A q, x ∈ (kOrd A q).take s := fun x hx => by
              unfold kGs at hx
              unfold kOrd
              rw [if_pos c2, List.take_append_of_le_length (by rw [List.length_drop]; omega), show s = (A.2.2.2.2.2 q).length by omega]
              exact hx
            refine q_lookGens t31 hq d31 (by omega) (fun x hx => by rw [T31]; exact hst x (hgx x hx)) e31 b1 (fun σ' x1 x2 x3 _ => ?_) (fun σ' x1 x2 x3 x4 _ => ?_)
            · rw [T31] at x1
              exact Or.inr ⟨x2, (g1 ⟨c2, by omega, x1⟩).1⟩
            · rw [T31] at x1 x3
              refine Or.inl ⟨x2, ?_, fun z => by rw [x1] at z; cases z.2.2⟩
              have c8 : A.2.1 q = 15 ∧ s = (A.2.2.2.2.2 q).length := ⟨c2, by omega⟩
              unfold kBd kBb
              rw [if_neg c9, if_neg c9, if_pos c8, if_pos c8]
              exact x3
          · intro σ37 fr37 h37
            refine ⟨hpt.1, ⟨by omega, by omega⟩, fun σ43 e43 => ?_⟩
            have f37 : sg_F [113, 114, 115, 116, 30088, 31088, 38088] σ10 σ37 := sg_F_t (sg_F_m fr31 rfl) fr37
            have f43 : sg_F [113, 114, 115, 116, 30088, 31088, 38088, 118] σ10 σ43 := by rw [e43]; exact sg_F_w (sg_F_m f37 rfl) rfl _
            have F43 : sg_F [101, 102, 113, 114, 115, 116, 117, 118, 30088, 31088, 38088, 43088] σ σ43 := sg_F_t f10 (sg_F_m f43 rfl)
            refine ⟨fun d37 => ?_, fun d37 => ?_⟩
            rotate_left
            · rcases h37 with ⟨x, -⟩ | ⟨x1, x2⟩
              · exact absurd x d37
              · refine k1' σ43 x2 ?_ F43
                rw [e43, sg_gw_c _ _ _ _ _ _ (by decide)]; exact d37
            rcases h37 with ⟨-, e37, ng⟩ | ⟨x1, -⟩
            rotate_left
            · exact absurd d37 x1
            have d43 : sg_g σ43 88 29 = 0 := by rw [e43, sg_gw_c _ _ _ _ _ _ (by decide)]; exact d37
            have e43p : kPs σ43 (kBd A T e0 q s) (kBb A eb0 q s) := by
              refine kPs_F (L := [118]) e37 ?_ rfl
              rw [e43]; exact sg_F_w (sg_F_r _ _) rfl _
            have B43 : sg_g σ43 102 = TB := by rw [← hTB]; exact funext fun _ => sg_F_ga f43 rfl
            have T43 : sg_g σ43 101 = T := by rw [← hT]; exact funext fun _ => sg_F_ga f43 rfl
            have l43 : sg_g σ43 88 42 = sg_g σ10 88 42 := sg_F_g f43 rfl
            have p43 : pst (sg_g σ43 117) (sg_g σ43 118) (sg_g σ10 88 42) ((q, ((s + 1 : Nat) : Int)) :: p) := by
              refine ⟨p1, ?_, ?_, pst_e p4 (fun j x1 x2 => ⟨sg_F_ga f43 rfl, ?_⟩)⟩
              · rw [sg_F_ga f43 rfl]; exact p2
              · rw [e43, sg_gw_e _ _ _ _ ⟨by omega, by omega⟩]; simp only; omega
              · rw [e43, sg_gw_k _ _ _ _ _ _ (by omega)]
                exact sg_F_ga f37 rfl
            rcases g2 ng with ⟨x, m', rfl, hx, -, -, -, -, hrun⟩ | ⟨hs, kb, -, hty⟩
            · -- one more part
              rcases hpt.2 with ⟨x', hx', hv, hv2⟩ | ⟨hs, -⟩
              rotate_left
              · rw [hs, List.getElem?_eq_none (Nat.le_refl _)] at hx; cases hx
              rw [hx] at hx'
              cases hx'
              have xr : 0 ≤ x ∧ x < A.1 := by
                have : x ∈ A.2.2.2.2.1 q := by
                  have := List.mem_of_getElem? hx
                  unfold kOrd at this
                  split at this
                  · rcases List.mem_append.mp this with z | z
                    · exact List.mem_of_mem_drop z
                    · exact List.mem_of_mem_take z
                  · exact this
                exact h.2 q hq.1 hq.2 x this
              refine ⟨fun σ50 => sg_g σ50 88 29 = 0 ∧ kRp σ50 ((x, 0) :: (q, ((s + 1 : Nat) : Int)) :: p) (kBd A T e0 q s) (kBb A eb0 q s) ∧ sg_g σ50 101 = T ∧ sg_g σ50 102 = TB, ⟨fun z => absurd hv.1 (by omega), fun _ => ⟨⟨by omega, by omega⟩, ⟨by omega, by omega⟩, ⟨by omega, by omega⟩, ⟨by omega, by omega⟩, fun σ77 e77 σ80 e80 => ⟨⟨by omega, by omega⟩, fun σ84 e84 => ?_⟩⟩⟩, ?_⟩
              · rw [hv2] at e77
                have f84 : sg_F [117, 118, 43088] σ43 σ84 := by
                  rw [e84, e80, e77]; exact sg_F_w (sg_F_w (sg_F_w (sg_F_r _ _) rfl _) rfl _) rfl _
                have l84 : sg_g σ84 88 42 = sg_g σ10 88 42 + 1 := by rw [e84, sg_gw_e _ _ _ _ ⟨by omega, by omega⟩]
                refine ⟨?_, ⟨⟨by omega, ?_, ?_, ?_⟩, ?_⟩, ?_, ?_⟩
                · rw [sg_F_g f84 (by rfl)]; exact d43
                · rw [l84, show sg_g σ10 88 42 + 1 - 1 = sg_g σ10 88 42 by omega, e84, sg_gw_c _ _ _ _ _ _ (by decide), e80, sg_gw_c _ _ _ _ _ _ (by decide), e77, sg_gw_e _ _ _ _ ⟨by omega, by omega⟩]
                · rw [l84, show sg_g σ10 88 42 + 1 - 1 = sg_g σ10 88 42 by omega, e84, sg_gw_c _ _ _ _ _ _ (by decide), e80, sg_gw_e _ _ _ _ (by decide)]
                · rw [l84, show sg_g σ10 88 42 + 1 - 1 = sg_g σ10 88 42 by omega]
                  refine pst_e p43 (fun j x1 x2 => ⟨?_, ?_⟩)
                  · rw [e84, sg_gw_c _ _ _ _ _ _ (by decide), e80, sg_gw_c _ _ _ _ _ _ (by decide), e77, sg_gw_k _ _ _ _ _ _ (by omega)]
                  · rw [e84, sg_gw_c _ _ _ _ _ _ (by decide), e80, sg_gw_k _ _ _ _ _ _ (by omega), e77, sg_gw_c _ _ _ _ _ _ (by decide)]
                · exact kPs_F e43p f84 rfl
                · rw [← T43]; exact funext fun _ => sg_F_ga f84 rfl
                · rw [← B43]; exact funext fun _ => sg_F_ga f84 rfl
              · rintro σ50 fr50 ⟨x1, x2, x3, x4⟩
                exact ⟨m' + 1, by omega, Or.inl ⟨x1, m', _, _, _, _, rfl, x2, by rw [x3, x4]; exact hrun⟩⟩
            · -- all parts are done
              rcases hpt.2 with ⟨x', hx', -⟩ | ⟨-, hv⟩
              · rw [hs, List.getElem?_eq_none (Nat.le_refl _)] at hx'; cases hx'
              rw [kBd_end hw hs, kBb_end hw hs] at e43p
              have kbn : ((kBn A q : Nat) : Int) = (if ¬ A.2.1 q = 2 then (if ¬ A.2.1 q = 15 then (0 : Int) else ((A.2.2.2.2.2 q).length : Int)) else 1) := by
                unfold kBn
                by_cases x1 : A.2.1 q = 2
                · rw [if_pos x1, if_neg (fun z => z x1)]; rfl
                · rw [if_neg x1, if_pos x1]
                  by_cases x2 : A.2.1 q = 15
                  · rw [if_pos x2, if_neg (fun z => z x2)]
                  · rw [if_neg x2, if_pos x2]; rfl
              have e37' := e37
              rw [kBd_end hw hs, kBb_end hw hs] at e37'
              have en37 := pst_n e37'.1
              have en37b := pst_n e37'.2
              refine ⟨fun σ50 => (sg_g σ50 88 29 = 0 ∧ ∃ ty m', m = m' + 1 ∧ kRp σ50 p (e0.drop (kBn A q)) (eb0.drop (kBn A q)) ∧ sg_g σ50 101 = aU T q ty ∧ sg_g σ50 102 = kUp A ds (eb0.drop (kBn A q)) q TB ∧ kRun A ds r 272 m' c0 p (e0.drop (kBn A q)) (aU T q ty) (eb0.drop (kBn A q)) (kUp A ds (eb0.drop (kBn A q)) q TB)) ∨ (¬ sg_g σ50 88 29 = 0 ∧ r = none), ⟨fun _ => ⟨⟨fun _ => ⟨fun _ => trivial, fun _ => trivial⟩, fun _ => trivial⟩, fun v56 e56 r56 => ⟨⟨?_, ?_⟩, fun σ60 e60 => ?_⟩⟩, fun z => absurd z (by omega)⟩, ?_⟩
              · rw [e56, ← kbn]; unfold kBn; repeat' split
                all_goals omega
              · rw [e56, ← kbn]; unfold kBn; repeat' split
                all_goals omega
              · have e56' : v56 = ((kBn A q : Nat) : Int) := by rw [e56, kbn]
                have f60 : sg_F [38088] σ43 σ60 := by rw [e60]; exact sg_F_w (sg_F_r _ _) rfl _
                have t60 := trT_F (trT_F t10 f43 rfl) f60 rfl
                have T60 : sg_g σ60 101 = T := by rw [← T43]; exact funext fun _ => sg_F_ga f60 rfl
                have d60 : sg_g σ60 88 29 = 0 := by rw [sg_F_g f60 (by rfl)]; exact d43
                have F60 : sg_F [101, 102, 113, 114, 115, 116, 117, 118, 30088, 31088, 38088, 43088] σ σ60 := sg_F_t F43 (sg_F_m f60 rfl)
                have B60 : sg_g σ60 102 = TB := by rw [← B43]; exact funext fun _ => sg_F_ga f60 rfl
                have ep60 : kPs σ60 (e0.drop (kBn A q)) (eb0.drop (kBn A q)) := by
                  have y : sg_g σ60 88 37 = sg_g σ37 88 37 - ((kBn A q : Nat) : Int) := by
                    rw [e60, sg_gw_e _ _ _ _ ⟨by omega, by omega⟩, e56']
                  refine ⟨?_, ?_⟩
                  · rw [y]
                    refine pst_e (pst_d (kBn A q) e37'.1 kb) (fun j _ _ => ⟨?_, ?_⟩)
                    · rw [e60, sg_gw', e43, sg_gw']
                    · rw [e60, sg_gw_c _ _ _ _ _ _ (by decide), e43, sg_gw_c _ _ _ _ _ _ (by decide)]
                  · rw [y]
                    refine pst_e (pst_d (kBn A q) e37'.2 (by omega)) (fun j _ _ => ⟨?_, ?_⟩)
                    · rw [e60, sg_gw', e43, sg_gw']
                    · rw [e60, sg_gw_c _ _ _ _ _ _ (by decide), e43, sg_gw_c _ _ _ _ _ _ (by decide)]
                have D60 : dsR σ60 (sg_g σ60 88 45) ds := by
                  rw [sg_F_g F60 (by rfl)]; exact dsR_F hd F60 rfl
                have pil : ∀ σ64, sg_F [101, 102, 30088, 31088] σ60 σ64 → pst (sg_g (sg_w σ64 88 42 (sg_g σ10 88 42 - 1)) 117) (sg_g (sg_w σ64 88 42 (sg_g σ10 88 42 - 1)) 118) (sg_g (sg_w σ64 88 42 (sg_g σ10 88 42 - 1)) 88 42) p := fun σ64 f64 => by
                  rw [sg_gw_e _ _ _ _ ⟨by omega, by omega⟩]
                  refine pst_e p43.2.2.2 (fun j _ _ => ⟨?_, ?_⟩)
                  · rw [sg_gw_c _ _ _ _ _ _ (by decide), sg_F_ga f64 rfl, sg_F_ga f60 rfl]
                  · rw [sg_gw_c _ _ _ _ _ _ (by decide), sg_F_ga f64 rfl, sg_F_ga f60 rfl]
                refine q_lookAt t60 hq (fun y hy => ?_) ep60 (by rw [List.length_drop]; omega) D60 hl hr n4 n1.1 (fun σ64 x1 x2 x3 _ σ69 e69 => ?_) (fun σ64 ty x1 x2 x3 xB x4 _ σ69 e69 => ?_)
                · rw [kTs, T60] at hy
                  obtain ⟨z, hz, rfl⟩ := List.mem_map.mp hy
                  exact hst z (by rw [hs, List.take_length]; exact kOrd_mem hz)
                · rw [T60, kTs, T60] at x1
                  right
                  refine ⟨by rw [e69, sg_gw_k _ _ _ _ _ _ (by decide)]; exact x2, ?_⟩
                  rcases hty with ⟨-, z⟩ | ⟨ty, m', -, z, -⟩
                  · exact z
                  · rw [x1] at z; cases z
                · rw [T60, kTs, T60] at x1
                  left
                  rcases hty with ⟨z, -⟩ | ⟨ty', m', z1, z, z2⟩
                  · rw [x1] at z; cases z
                  · rw [x1] at z
                    cases z
                    refine ⟨?_, ty, m', z1, ⟨?_, ?_⟩, ?_, ?_, z2⟩
                    · rw [e69, sg_gw_k _ _ _ _ _ _ (by decide), sg_F_g x4 (by rfl)]; exact d60
                    · rw [e69]; exact pil σ64 (sg_F_m x4 rfl)
                    · refine kPs_F (L := [43088]) (kPs_F ep60 x4 rfl) ?_ rfl
                      rw [e69]; exact sg_F_w (sg_F_r _ _) rfl _
                    · rw [e69, show sg_g (sg_w σ64 88 42 (sg_g σ10 88 42 - 1)) 101 = sg_g σ64 101 from funext fun _ => sg_gw_c _ _ _ _ _ _ (by decide), x3]
                      funext j
                      by_cases c : j = q
                      · rw [c, sg_gw_e _ _ _ _ x2]; simp only [aU, if_true]
                      · rw [sg_gw_k _ _ _ _ _ _ c, T60]; simp only [aU, c, if_false]
                    · rw [e69, show sg_g (sg_w σ64 88 42 (sg_g σ10 88 42 - 1)) 102 = sg_g σ64 102 from funext fun _ => sg_gw_c _ _ _ _ _ _ (by decide), xB, B60]
              · rintro σ50 fr50 (⟨x1, ty, m', rfl, x2, x3, x5, x4⟩ | x)
                · exact ⟨m' + 1, by omega, Or.inl ⟨x1, m', _, _, _, _, rfl, x2, by rw [x3, x5]; exact x4⟩⟩
                · exact ⟨0, by omega, Or.inr x⟩
  · rintro σ10 fr (⟨x1, x2⟩ | ⟨x1, x2⟩)
    · exact k2' σ10 x2 x1 (sg_F_t f7 fr)
    · exact k1' σ10 x2 x1 (sg_F_t f7 fr)
