/-! The walk over a node comes to what kGo says of it. -/
theorem kSp_up {A : aT} {ds : kD} {go go' : Nat → List (Int × Int) → kE → (Int → Int) → kE → (Int → Int) → Prop} (hg : ∀ c p e T eb B, go c p e T eb B → go' c p e T eb B) {c : Nat} {p : List (Int × Int)} {e : kE} {T : Int → Int} {eb : kE} {B : Int → Int} (h : kSp A ds go c p e T eb B) : kSp A ds go' c p e T eb B := by
  obtain ⟨n, s, p', h0, h1, h2, h3, h4⟩ := h
  refine ⟨n, s, p', h0, h1, h2, h3, ?_⟩
  rcases h4 with ⟨x, a1, a2, a3, a4, a5, a6, a7⟩ | ⟨ty, a1, a2, a3, a4, a5⟩
  · exact Or.inl ⟨x, a1, a2, a3, a4, a5, a6, hg _ _ _ _ _ _ a7⟩
  · exact Or.inr ⟨ty, a1, a2, a3, a4, hg _ _ _ _ _ _ a5⟩
theorem kRun_up {A : aT} {ds : kD} {r : Option ((Int → Int) × (Int → Int))} {cm : Nat} : ∀ {m c : Nat} {p : List (Int × Int)} {e : kE} {T : Int → Int} {eb : kE} {B : Int → Int}, kRun A ds r cm m c p e T eb B → ∀ m', m ≤ m' → kRun A ds r cm m' c p e T eb B
  | 0, _, _, _, _, _, _, h, m', _ => kRun_s h m'
  | m + 1, _, _, _, _, _, _, h, m', hm => by
    rcases h with h | h
    · exact kRun_s h m'
    · obtain ⟨k, rfl⟩ : ∃ k, m' = k + 1 := ⟨m' - 1, by omega⟩
      exact Or.inr (kSp_up (fun c p e T eb B q => kRun_up q k (by omega)) h)
def kNo (A : aT) (n : Int) (s : Nat) : Prop := ¬ (A.2.1 n = 2 ∧ s = 1) ∧ ¬ (A.2.1 n = 15 ∧ s = (A.2.2.2.2.2 n).length)
theorem kBd_no {A : aT} {n : Int} {s : Nat} (h : kNo A n s) (T : Int → Int) (e : kE) : kBd A T e n s = e := by
  unfold kBd; rw [if_neg h.1, if_neg h.2]
theorem kBb_no {A : aT} {n : Int} {s : Nat} (h : kNo A n s) (eb : kE) : kBb A eb n s = eb := by
  unfold kBb; rw [if_neg h.1, if_neg h.2]
theorem fT_1 {A : aT} {n : Int} {ns L1 : List Int} (hw : nW A n) (h : fT A (A.2.2.2.2.1 n) L1) : fT A [n] (n :: L1) := fT_one hw h
/-- what is to be shown of a node at fuel f -/
def kNL (A : aT) (ds : kD) (f : Nat) : Prop := ∀ (r : Option ((Int → Int) × (Int → Int))) (cm m c : Nat) (n : Int) (L : List Int) (p : List (Int × Int)) (e : kE) (T : Int → Int) (eb : kE) (B : Int → Int), fT A [n] L → (∀ x ∈ L, 0 ≤ x ∧ x < A.1) → L.Nodup → (∀ y ∈ p, y.1 ∉ L) → L.length ≤ f → e.length + L.length ≤ 250 → p.length + L.length ≤ 400 → c + L.length ≤ 272 → kDi ds T → (∀ q ∈ e, kIn q.2) → (kGo A ds f e n T = none → r = none) → (∀ T1 c', kGo A ds f e n T = some T1 → c ≤ c' → c' ≤ c + L.length - 1 → kRun A ds r cm m c' p e T1 eb (kBo A ds f eb n B)) → kRun A ds r cm (m + (2 * L.length - 1)) c ((n, 0) :: p) e T eb B
theorem kNd_up {A : aT} {ds : kD} {f : Nat} {e : kE} {n x : Int} {s : Nat} {T T1 : Int → Int} (h : kNd A T n s) (hx : (kOrd A n)[s]? = some x) (hd : kDi ds T) (he : ∀ q ∈ e, kIn q.2) (hg : kGo A ds f e x T = some T1) : kNd A T1 n (s + 1) := by
  obtain ⟨a, b, c, d⟩ := h
  obtain ⟨g1, g2⟩ := kGo_rg A ds f e x T T1 hd he hg
  have hl : s < (kOrd A n).length := by
    rcases Nat.lt_or_ge s (kOrd A n).length with q | q
    · exact q
    · rw [List.getElem?_eq_none q] at hx; cases hx
  refine ⟨a, b, hl, fun y hy => ?_⟩
  rw [List.take_add_one, hx] at hy
  rcases List.mem_append.mp hy with q | q
  · exact g2 y (d y q)
  · simp at q; subst q; exact g1
theorem kDi_up {A : aT} {ds : kD} {f : Nat} {e : kE} {x : Int} {T T1 : Int → Int} (hd : kDi ds T) (he : ∀ q ∈ e, kIn q.2) (hg : kGo A ds f e x T = some T1) : kDi ds T1 := fun d hx => (kGo_rg A ds f e x T T1 hd he hg).2 _ (hd d hx)
theorem kRow_run {A : aT} {ds : kD} {f : Nat} (N : kNL A ds f) {r : Option ((Int → Int) × (Int → Int))} {cm m : Nat} {n : Int} {p : List (Int × Int)} {e eb : kE} {R2 : List Int} (he : ∀ q ∈ e, kIn q.2) : ∀ (R L : List Int) (c s : Nat) (T B : Int → Int), fT A R L → (∀ x ∈ L, 0 ≤ x ∧ x < A.1) → L.Nodup → n ∉ L → (∀ y ∈ p, y.1 ∉ L) → L.length ≤ f → (kOrd A n).drop s = R ++ R2 → (∀ j, s ≤ j → j < s + R.length → kNo A n j) → kNd A T n s → e.length + L.length ≤ 250 → p.length + 1 + L.length ≤ 400 → c + L.length ≤ 272 → kDi ds T → (kRow (kGo A ds f) e R T = none → r = none) → (∀ T1 c', kRow (kGo A ds f) e R T = some T1 → c ≤ c' → c' + R.length ≤ c + L.length → kNd A T1 n (s + R.length) → kDi ds T1 → kRun A ds r cm m c' ((n, ((s + R.length : Nat) : Int)) :: p) e T1 eb (kBoR (kBo A ds f) eb R B)) → kRun A ds r cm (m + 2 * L.length) c ((n, (s : Int)) :: p) e T eb B
  | [], L, c, s, T, B, hf, hL, hN, hnL, hp, hl, ho, hb, hn, h1, h2, h3, hd, k1, k2 => by
    have e0 := fT_nil hf
    subst e0
    exact k2 T c rfl (Nat.le_refl _) (by simp) hn hd
  | x :: R, L, c, s, T, B, hf, hL, hN, hnL, hp, hl, ho, hb, hn, h1, h2, h3, hd, k1, k2 => by
    obtain ⟨L1, L2, e1, w1, w2, w3⟩ := fT_inv hf
    have hx : (kOrd A n)[s]? = some x := by
      rw [← List.head?_drop, ho]; rfl
    subst e1
    simp only [List.length_cons, List.length_append] at h1 h2 h3 hl
    have nb := hb s (Nat.le_refl _) (by simp)
    have hN1 : (x :: L1).Nodup := List.Nodup.sublist (by rw [← List.cons_append]; exact List.sublist_append_left _ _) hN
    have hN2 : L2.Nodup := List.Nodup.sublist (by rw [← List.cons_append]; exact List.sublist_append_right _ _) hN
    have i1 : ∀ y, y ∈ x :: L1 → y ∈ x :: (L1 ++ L2) := fun y hy => by rw [← List.cons_append]; exact List.mem_append_left _ hy
    have i2 : ∀ y, y ∈ L2 → y ∈ x :: (L1 ++ L2) := fun y hy => by rw [← List.cons_append]; exact List.mem_append_right _ hy
    have main : kRun A ds r cm ((m + 2 * L2.length) + (2 * (x :: L1).length - 1)) c ((x, 0) :: (n, ((s + 1 : Nat) : Int)) :: p) e T eb B := by
      refine N r cm (m + 2 * L2.length) c x (x :: L1) ((n, ((s + 1 : Nat) : Int)) :: p) e T eb B (fT_one w1 w2) (fun y hy => hL y (i1 y hy)) hN1 (fun y hy => ?_) ?_ ?_ ?_ ?_ hd he ?_ ?_
      · rcases List.mem_cons.mp hy with q | q
        · rw [q]; exact fun z => hnL (i1 _ z)
        · exact fun z => hp y q (i1 _ z)
      · simp only [List.length_cons]; omega
      · simp only [List.length_cons]; omega
      · simp only [List.length_cons]; omega
      · simp only [List.length_cons]; omega
      · intro g; exact k1 (by simp only [kRow, g])
      · intro T1 c' g c1 c2
        simp only [List.length_cons] at c2
        refine kRow_run (R2 := R2) N he R L2 c' (s + 1) T1 _ w3 (fun y hy => hL y (i2 y hy)) hN2 (fun z => hnL (i2 _ z)) (fun y hy z => hp y hy (i2 _ z)) (by omega) ?_ (fun j a b => hb j (by omega) (by simp only [List.length_cons]; omega)) (kNd_up hn hx hd he g) (by omega) (by omega) (by omega) (kDi_up hd he g) (fun q => k1 (by simp only [kRow, g, q])) ?_
        · rw [← List.drop_drop, ho]; rfl
        · intro T2 c'' g2 c3 c4 a b
          have := k2 T2 c'' (by simp only [kRow, g, g2]) (by omega) (by simp only [List.length_cons, List.length_append]; omega)
          simp only [List.length_cons] at this
          rw [show s + 1 + R.length = s + (R.length + 1) by omega] at a ⊢
          exact this a b
    have hkb := kBd_no nb T e
    have fin := kRun_psh (ds := ds) (r := r) (cm := cm) _ c n s p e T eb B x hn (by omega) (by omega) (fun a b => absurd ⟨a, b⟩ nb.2) hx (fun z => hnL (by rw [← z]; simp)) (fun y hy z => hp y hy (by rw [z]; simp)) (by rw [hkb]; exact Nat.le_refl _) (by rw [hkb]; omega) (by rw [hkb, Nat.sub_self, kBb_no nb]; exact main)
    refine kRun_up fin _ ?_
    simp only [List.length_cons, List.length_append]
    omega
/-- the same where names are bound at the first -/
theorem kRowB_run {A : aT} {ds : kD} {f : Nat} (N : kNL A ds f) {r : Option ((Int → Int) × (Int → Int))} {cm m : Nat} {n : Int} {p : List (Int × Int)} {e e' eb eb' : kE} {R2 : List Int} (he : ∀ q ∈ e', kIn q.2) {x : Int} {R L : List Int} {c s : Nat} {T B : Int → Int} (hf : fT A (x :: R) L) (hL : ∀ x ∈ L, 0 ≤ x ∧ x < A.1) (hN : L.Nodup) (hnL : n ∉ L) (hp : ∀ y ∈ p, y.1 ∉ L) (hl : L.length ≤ f) (ho : (kOrd A n).drop s = x :: R ++ R2) (hb0 : kBd A T e n s = e') (hbb : kBb A eb n s = eb') (hb1 : e.length ≤ e'.length) (hg : A.2.1 n = 15 → s = (A.2.2.2.2.2 n).length → kGens T (A.2.2.2.2.2 n) (kGs A n) = true) (hb : ∀ j, s < j → j ≤ s + R.length → kNo A n j) (hn : kNd A T n s) (h0 : e.length ≤ 250) (h1 : e'.length + L.length ≤ 250) (h2 : p.length + 1 + L.length ≤ 400) (h3 : c + (e'.length - e.length) + L.length ≤ 272) (hd : kDi ds T) (k1 : kRow (kGo A ds f) e' (x :: R) T = none → r = none) (k2 : ∀ T1 c', kRow (kGo A ds f) e' (x :: R) T = some T1 → c ≤ c' → c' + 1 ≤ c + (e'.length - e.length) + L.length → kNd A T1 n (s + 1 + R.length) → kDi ds T1 → kRun A ds r cm m c' ((n, ((s + 1 + R.length : Nat) : Int)) :: p) e' T1 eb' (kBoR (kBo A ds f) eb' (x :: R) B)) : kRun A ds r cm (m + 2 * L.length) c ((n, (s : Int)) :: p) e T eb B := by
  obtain ⟨L1, L2, e1, w1, w2, w3⟩ := fT_inv hf
  have hx : (kOrd A n)[s]? = some x := by
    rw [← List.head?_drop, ho]; rfl
  subst e1
  simp only [List.length_cons, List.length_append] at h1 h2 h3 hl
  have hN1 : (x :: L1).Nodup := List.Nodup.sublist (by rw [← List.cons_append]; exact List.sublist_append_left _ _) hN
  have hN2 : L2.Nodup := List.Nodup.sublist (by rw [← List.cons_append]; exact List.sublist_append_right _ _) hN
  have i1 : ∀ y, y ∈ x :: L1 → y ∈ x :: (L1 ++ L2) := fun y hy => by rw [← List.cons_append]; exact List.mem_append_left _ hy
  have i2 : ∀ y, y ∈ L2 → y ∈ x :: (L1 ++ L2) := fun y hy => by rw [← List.cons_append]; exact List.mem_append_right _ hy
  have main : kRun A ds r cm ((m + 2 * L2.length) + (2 * (x :: L1).length - 1)) (c + (e'.length - e.length)) ((x, 0) :: (n, ((s + 1 : Nat) : Int)) :: p) e' T eb' B := by
    refine N r cm (m + 2 * L2.length) (c + (e'.length - e.length)) x (x :: L1) ((n, ((s + 1 : Nat) : Int)) :: p) e' T eb' B (fT_one w1 w2) (fun y hy => hL y (i1 y hy)) hN1 (fun y hy => ?_) ?_ ?_ ?_ ?_ hd he ?_ ?_
    · rcases List.mem_cons.mp hy with q | q
      · rw [q]; exact fun z => hnL (i1 _ z)
      · exact fun z => hp y q (i1 _ z)
    · simp only [List.length_cons]; omega
    · simp only [List.length_cons]; omega
    · simp only [List.length_cons]; omega
    · simp only [List.length_cons]; omega
    · intro g; exact k1 (by simp only [kRow, g])
    · intro T1 c' g c1 c2
      simp only [List.length_cons] at c2
      refine kRow_run (R2 := R2) N he R L2 c' (s + 1) T1 _ w3 (fun y hy => hL y (i2 y hy)) hN2 (fun z => hnL (i2 _ z)) (fun y hy z => hp y hy (i2 _ z)) (by omega) ?_ (fun j a b => hb j (by omega) (by omega)) (kNd_up hn hx hd he g) (by omega) (by omega) (by omega) (kDi_up hd he g) (fun q => k1 (by simp only [kRow, g, q])) ?_
      · rw [← List.drop_drop, ho]; rfl
      · intro T2 c'' g2 c3 c4 a b
        exact k2 T2 c'' (by simp only [kRow, g, g2]) (by omega) (by simp only [List.length_cons, List.length_append]; omega) a b
  have fin := kRun_psh (ds := ds) (r := r) (cm := cm) _ c n s p e T eb B x hn h0 (by omega) hg hx (fun z => hnL (by rw [← z]; simp)) (fun y hy z => hp y hy (by rw [z]; simp)) (by rw [hb0]; exact hb1) (by rw [hb0]; omega) (by rw [hb0, hbb]; exact main)
  refine kRun_up fin _ ?_
  simp only [List.length_cons, List.length_append]
  omega
/-- the last turn of a node -/
theorem kFin_run {A : aT} {ds : kD} {r : Option ((Int → Int) × (Int → Int))} {cm m c : Nat} {n : Int} {p : List (Int × Int)} {e e' eb eb' : kE} {s : Nat} {T B : Int → Int} (hn : kNd A T n s) (hs : s = (kOrd A n).length) (h0 : e'.length ≤ 250) (h2 : p.length ≤ 400) (hb : kBn A n ≤ e'.length) (hei : ∀ q ∈ e, kIn q.2) (hdi : kDi ds T) (hd : e'.drop (kBn A n) = e) (hdb : eb'.drop (kBn A n) = eb) (k1 : kTy A ds T e n ((A.2.2.2.2.1 n).map T) = none → r = none) (k2 : ∀ ty, kTy A ds T e n ((A.2.2.2.2.1 n).map T) = some ty → kRun A ds r cm m c p e (aU T n ty) eb (kUp A ds eb n B)) : kRun A ds r cm (m + 1) c ((n, (s : Int)) :: p) e' T eb' B := by
  cases h : kTy A ds T e n ((A.2.2.2.2.1 n).map T) with
  | none => exact kRun_bad _ c n s p e' T eb' B hn h0 h2 hs hb (by rw [hd]; exact ⟨hei, hdi⟩) (by rw [hd]; exact h) (k1 h)
  | some ty => exact kRun_pop m c n s p e' T eb' B ty hn h0 h2 hs hb (by rw [hd]; exact ⟨hei, hdi⟩) (by rw [hd]; exact h) (by rw [hd, hdb]; exact k2 ty h)
theorem kBind_len {T : Int → Int} : ∀ (gs : List (Int × Int)) (xs : List Int) (e : kE), gs.length = xs.length → (kBind T gs xs e).length = e.length + gs.length ∧ (kBind T gs xs e).drop gs.length = e
  | [], [], e, _ => by simp [kBind]
  | [], _ :: _, e, h => by simp at h
  | _ :: _, [], e, h => by simp at h
  | g :: gs, x :: xs, e, h => by
    simp only [kBind]
    obtain ⟨a, b⟩ := kBind_len (T := T) gs xs ((g.1, T x - 1) :: e) (by simpa using h)
    simp only [List.length_cons] at a ⊢
    refine ⟨by omega, ?_⟩
    rw [← List.drop_drop, b]; rfl
theorem kGb_len {n : Int} : ∀ (gs : List (Int × Int)) (j : Nat) (eb : kE), (kGb n j gs eb).drop gs.length = eb
  | [], _, eb => rfl
  | g :: gs, j, eb => by
    simp only [kGb, List.length_cons]
    rw [← List.drop_drop, kGb_len gs (j + 1)]; rfl
theorem kNL_all (A : aT) (ds : kD) : ∀ f, kNL A ds f
  | 0 => fun r cm m c n L p e T eb B hf hL hN hp hl => by
    have := fT_len hf
    simp only [List.length_cons, List.length_nil] at this
    omega
  | f + 1 => fun r cm m c n L p e T eb B hf hL hN hp hl h1 h2 h3 hd he k1 k2 => by
    obtain ⟨L1, L2, e1, w1, w2, w3⟩ := fT_inv hf
    have e2 := fT_nil w3
    subst e2
    rw [List.append_nil] at e1
    subst e1
    simp only [List.length_cons] at h1 h2 h3 hl k2
    have hnL1 : n ∉ L1 := (List.nodup_cons.mp hN).1
    have hN1 : L1.Nodup := (List.nodup_cons.mp hN).2
    have hp1 : ∀ y ∈ p, y.1 ∉ L1 := fun y hy z => hp y hy (by simp [z])
    have hn0 : 0 ≤ n ∧ n < A.1 := hL n (by simp)
    have hL1 : ∀ x ∈ L1, 0 ≤ x ∧ x < A.1 := fun x hx => hL x (by simp [hx])
    have hn : kNd A T n 0 := ⟨hn0, w1, Nat.zero_le _, by simp⟩
    obtain ⟨n1, n2, n3, n4, n5, n6, n7, n8⟩ := w1
    by_cases c2 : A.2.1 n = 2
    · -- LET
      have hk := n3 (Or.inl c2)
      obtain ⟨a, b, hk2⟩ : ∃ a b, A.2.2.2.2.1 n = [a, b] := by
        match hh : A.2.2.2.2.1 n with
        | [a, b] => exact ⟨a, b, rfl⟩
        | [] => rw [hh] at hk; simp at hk
        | [_] => rw [hh] at hk; simp at hk
        | _ :: _ :: _ :: _ => rw [hh] at hk; simp at hk
      have ho : kOrd A n = [a, b] := by unfold kOrd; rw [if_neg (by omega), hk2]
      rw [hk2] at w2
      obtain ⟨La, Lb, e3, fa, fb⟩ := fT_spl [a] [b] L1 w2
      have la := fT_len fa
      have lb := fT_len fb
      simp only [List.length_cons, List.length_nil] at la lb
      have e3l : L1.length = La.length + Lb.length := by rw [e3, List.length_append]
      have hgo : kGo A ds (f + 1) e n T = (match kRow (kGo A ds f) e [a] T with
        | none => none
        | some T1 => match kRow (kGo A ds f) ((A.2.2.2.1 n, T1 a) :: e) [b] T1 with
          | none => none
          | some T2 => match kTy A ds T2 e n ((A.2.2.2.2.1 n).map T2) with
            | none => none
            | some ty => some (aU T2 n ty)) := by
        simp only [kGo, kParts, c2, if_true, hk2, kRow]
        cases kGo A ds f e a T with
        | none => rfl
        | some T1 => rfl
      have kbo : kBo A ds (f + 1) eb n B = kUp A ds eb n (kBoR (kBo A ds f) ((A.2.2.2.1 n, n) :: eb) [b] (kBoR (kBo A ds f) eb [a] B)) := by
        simp only [kBo, c2, if_true, hk2, kBoR]
      have hNa : La.Nodup := List.Nodup.sublist (by rw [e3]; exact List.sublist_append_left _ _) hN1
      have hNb : Lb.Nodup := List.Nodup.sublist (by rw [e3]; exact List.sublist_append_right _ _) hN1
      have ia : ∀ x, x ∈ La → x ∈ L1 := fun x hx => by rw [e3]; simp [hx]
      have ib : ∀ x, x ∈ Lb → x ∈ L1 := fun x hx => by rw [e3]; simp [hx]
      have fin : kRun A ds r cm (((m + 1) + 2 * Lb.length) + 2 * La.length) c ((n, ((0 : Nat) : Int)) :: p) e T eb B := by
        refine kRow_run (kNL_all A ds f) (R2 := [b]) he [a] La c 0 T B fa (fun x hx => hL1 x (ia x hx)) hNa (fun z => hnL1 (ia _ z)) (fun y hy z => hp1 y hy (ia _ z)) (by omega) (by rw [ho]; rfl) (fun j x y => ?_) hn (by omega) (by omega) (by omega) hd (fun g => k1 (by rw [hgo, g])) (fun T1 c1 g cc1 cc2 g2 g3 => ?_)
        · simp only [List.length_cons, List.length_nil] at y
          exact ⟨by omega, by omega⟩
        · have ra := kRow_rg (kGo_rg A ds f) e he [a] T T1 hd g
          have ta := ra.1 a (by simp)
          refine kRowB_run (kNL_all A ds f) (R2 := []) (x := b) (R := []) (e' := (A.2.2.2.1 n, T1 a) :: e) (eb' := (A.2.2.2.1 n, n) :: eb) (fun q hq => ?_) fb (fun x hx => hL1 x (ib x hx)) hNb (fun z => hnL1 (ib _ z)) (fun y hy z => hp1 y hy (ib _ z)) (by omega) (by rw [ho]; rfl) ?_ (by unfold kBb; rw [if_pos ⟨c2, rfl⟩]) (by simp) (fun x => absurd x (by omega)) (fun j x y => ?_) g2 (by omega) (by simp only [List.length_cons]; omega) (by omega) (by simp only [List.length_cons] at cc2 ⊢; omega) g3 (fun g4 => k1 (by rw [hgo, g]; simp only; rw [g4])) (fun T2 cb g4 cc3 cc4 g5 g6 => ?_)
          · rcases List.mem_cons.mp hq with q | q
            · rw [q]; exact ta
            · exact he _ q
          · unfold kBd
            rw [if_pos ⟨c2, rfl⟩, hk2]; rfl
          · simp only [List.length_nil, List.length_cons] at x y; omega
          · refine kFin_run (e := e) (eb := eb) g5 (by rw [ho]; rfl) (by simp only [List.length_cons]; omega) (by omega) (by unfold kBn; rw [if_pos c2]; simp) he g6 ?_ (by unfold kBn; rw [if_pos c2]; rfl) (fun g7 => k1 ?_) (fun ty g7 => kbo ▸ k2 _ cb ?_ (by omega) (by simp only [List.length_cons, List.length_nil] at cc2 cc4; omega))
            · unfold kBn; rw [if_pos c2]; rfl
            · rw [hgo, g]; simp only; rw [g4]; simp only; rw [g7]
            · rw [hgo, g]; simp only; rw [g4]; simp only; rw [g7]
      exact kRun_up fin _ (by simp only [List.length_cons]; omega)
    · by_cases c15 : A.2.1 n = 15
      · -- EACH
        have n7 := n7 c15
        obtain ⟨bd, tl, hk2⟩ : ∃ bd tl, A.2.2.2.2.1 n = bd :: tl := by
          match hh : A.2.2.2.2.1 n with
          | bd :: tl => exact ⟨bd, tl, rfl⟩
          | [] => rw [hh] at n7; simp only [List.length_nil] at n7; omega
        have ho : kOrd A n = tl.take (A.2.2.2.2.2 n).length ++ (tl.drop (A.2.2.2.2.2 n).length ++ [bd]) := by
          unfold kOrd; rw [if_pos c15, hk2, ← List.append_assoc, List.take_append_drop]; rfl
        have hgs : kGs A n = tl.take (A.2.2.2.2.2 n).length := by unfold kGs; rw [hk2]; rfl
        rw [hk2] at n7
        simp only [List.length_cons] at n7
        generalize hg : (A.2.2.2.2.2 n).length = g at *
        have lt : (tl.take g).length = g := by rw [List.length_take]; omega
        rw [hk2] at w2
        obtain ⟨Lb, Lt, e3, fb, ft⟩ := fT_spl [bd] tl L1 w2
        rw [← List.take_append_drop g tl] at ft
        obtain ⟨La, Ld, e4, fa, fd⟩ := fT_spl _ _ Lt ft
        have fdb := fT_app fd fb
        have la := fT_len fa
        have lb := fT_len fb
        rw [lt] at la
        have e3l : L1.length = Lb.length + (La.length + Ld.length) := by rw [e3, e4, List.length_append, List.length_append]
        have lc : (Ld ++ Lb).length = Ld.length + Lb.length := List.length_append
        have hgo : kGo A ds (f + 1) e n T = (match kRow (kGo A ds f) e (tl.take g) T with
          | none => none
          | some T1 => if kGens T1 (A.2.2.2.2.2 n) (tl.take g) = true then (match kRow (kGo A ds f) (kBind T1 (A.2.2.2.2.2 n) (tl.take g) e) (tl.drop g ++ [bd]) T1 with
            | none => none
            | some T2 => match kTy A ds T2 e n ((A.2.2.2.2.1 n).map T2) with
              | none => none
              | some ty => some (aU T2 n ty)) else none) := by
          simp only [kGo, kParts, c15, if_true, hk2, hg]
          rw [if_neg (by decide)]
          cases kRow (kGo A ds f) e (tl.take g) T with
          | none => rfl
          | some T1 =>
            simp only
            by_cases c : kGens T1 (A.2.2.2.2.2 n) (tl.take g) = true
            · rw [if_pos c, if_pos c]
              cases kRow (kGo A ds f) (kBind T1 (A.2.2.2.2.2 n) (tl.take g) e) (tl.drop g ++ [bd]) T1 with
              | none => rfl
              | some T2 => rfl
            · rw [if_neg c, if_neg c]
        have kbo : kBo A ds (f + 1) eb n B = kUp A ds eb n (kBoR (kBo A ds f) (kGb n 0 (A.2.2.2.2.2 n) eb) (tl.drop g ++ [bd]) (kBoR (kBo A ds f) eb (tl.take g) B)) := by
          simp only [kBo, c15, if_true, hk2, hg]
          rw [if_neg (by decide)]
        have ia : ∀ x, x ∈ La → x ∈ L1 := fun x hx => by rw [e3, e4]; simp [hx]
        have ib : ∀ x, x ∈ Ld ++ Lb → x ∈ L1 := fun x hx => by
          rw [e3, e4]
          rcases List.mem_append.mp hx with z | z <;> simp [z]
        have hNN := hN1
        rw [e3, e4, List.nodup_append] at hNN
        have hNa : La.Nodup := List.Nodup.sublist (List.sublist_append_left _ _) hNN.2.1
        have hNb : (Ld ++ Lb).Nodup := by
          rw [List.nodup_append]
          refine ⟨List.Nodup.sublist (List.sublist_append_right _ _) hNN.2.1, hNN.1, fun x hx y hy z => hNN.2.2 y hy x (List.mem_append_right _ hx) z.symm⟩
        have fin : kRun A ds r cm (((m + 1) + 2 * (Ld ++ Lb).length) + 2 * La.length) c ((n, ((0 : Nat) : Int)) :: p) e T eb B := by
          refine kRow_run (kNL_all A ds f) (R2 := tl.drop g ++ [bd]) he (tl.take g) La c 0 T B fa (fun x hx => hL1 x (ia x hx)) hNa (fun z => hnL1 (ia _ z)) (fun y hy z => hp1 y hy (ia _ z)) (by omega) (by rw [ho]; rfl) (fun j x y => ?_) hn (by omega) (by omega) (by omega) hd (fun q => k1 (by rw [hgo, q])) (fun T1 c1 q cc1 cc2 q2 q3 => ?_)
          · rw [lt] at y
            exact ⟨by omega, by omega⟩
          · rw [lt] at cc2
            rw [lt, Nat.zero_add] at q2 ⊢
            have bl := kBind_len (T := T1) (A.2.2.2.2.2 n) (tl.take g) e (by rw [hg, lt])
            rw [hg] at bl
            have hkb : kBd A T1 e n g = kBind T1 (A.2.2.2.2.2 n) (tl.take g) e := by
              unfold kBd
              rw [if_neg (by omega), if_pos ⟨c15, hg.symm⟩, hgs]
            have ra := kRow_rg (kGo_rg A ds f) e he (tl.take g) T T1 hd q
            cases hG : kGens T1 (A.2.2.2.2.2 n) (tl.take g) with
            | false =>
              exact kRun_up (kRun_gen 0 c1 n g p e T1 eb _ q2 (by omega) (by omega) c15 hg.symm (by rw [hgs]; exact hG) (by rw [hkb]; omega) (k1 (by rw [hgo, q]; simp only; rw [hG]; rfl))) _ (Nat.zero_le _)
            | true =>
              have hG2 := hG
              unfold kGens at hG2
              rw [Bool.and_eq_true] at hG2
              obtain ⟨x, R, hR⟩ : ∃ x R, tl.drop g ++ [bd] = x :: R := by
                cases tl.drop g with
                | nil => exact ⟨bd, [], rfl⟩
                | cons x R => exact ⟨x, R ++ [bd], rfl⟩
              have kbo' := kbo
              rw [hR] at kbo'
              have hRl : (kOrd A n).length = g + (1 + R.length) := by rw [ho, hR, List.length_append, lt, List.length_cons]; omega
              refine kRowB_run (kNL_all A ds f) (R2 := []) (x := x) (R := R) (e' := kBind T1 (A.2.2.2.2.2 n) (tl.take g) e) (eb' := kGb n 0 (A.2.2.2.2.2 n) eb) (kBind_in _ _ e ra.1 hG2.2 he) (hR ▸ fdb) (fun x hx => hL1 x (ib x hx)) hNb (fun z => hnL1 (ib _ z)) (fun y hy z => hp1 y hy (ib _ z)) (by omega) ?_ hkb (by unfold kBb; rw [if_neg (fun z => c2 z.1), if_pos ⟨c15, hg.symm⟩]) (by omega) (fun _ _ => by rw [hgs]; exact hG) (fun j x y => ?_) q2 (by omega) (by omega) (by omega) (by omega) q3 (fun q4 => k1 (by rw [hgo, q]; simp only; rw [if_pos hG, hR, q4])) (fun T2 cb q4 cc3 cc4 q5 q6 => ?_)
              · rw [ho, List.append_nil, ← hR]
                exact List.drop_left' lt
              · exact ⟨by omega, by omega⟩
              · refine kFin_run (e := e) (eb := eb) q5 (by rw [hRl]; omega) (by omega) (by omega) (by unfold kBn; rw [if_neg c2, if_pos c15, hg]; omega) he q6 ?_ (by unfold kBn; rw [if_neg c2, if_pos c15]; exact kGb_len _ 0 eb) (fun q7 => k1 ?_) (fun ty q7 => kbo' ▸ k2 _ cb ?_ (by omega) (by omega))
                · unfold kBn; rw [if_neg c2, if_pos c15, hg]; exact bl.2
                · rw [hgo, q]; simp only; rw [if_pos hG, hR, q4]; simp only; rw [q7]
                · rw [hgo, q]; simp only; rw [if_pos hG, hR, q4]; simp only; rw [q7]
        exact kRun_up fin _ (by simp only [List.length_cons]; omega)
      · -- the rest
        have ho : kOrd A n = A.2.2.2.2.1 n := by unfold kOrd; rw [if_neg c15]
        have hgo : kGo A ds (f + 1) e n T = (match kRow (kGo A ds f) e (A.2.2.2.2.1 n) T with
          | none => none
          | some T2 => match kTy A ds T2 e n ((A.2.2.2.2.1 n).map T2) with
            | none => none
            | some ty => some (aU T2 n ty)) := by
          simp only [kGo, kParts, c2, c15, if_false]
          cases kRow (kGo A ds f) e (A.2.2.2.2.1 n) T with
          | none => rfl
          | some T2 => rfl
        have kbo : kBo A ds (f + 1) eb n B = kUp A ds eb n (kBoR (kBo A ds f) eb (A.2.2.2.2.1 n) B) := by
          simp only [kBo, c2, c15, if_false]
        have fin : kRun A ds r cm ((m + 1) + 2 * L1.length) c ((n, ((0 : Nat) : Int)) :: p) e T eb B := by
          refine kRow_run (kNL_all A ds f) (R2 := []) he (A.2.2.2.2.1 n) L1 c 0 T B w2 hL1 hN1 hnL1 hp1 (by omega) (by rw [ho, List.append_nil]; rfl) (fun j x y => ⟨fun z => c2 z.1, fun z => c15 z.1⟩) hn (by omega) (by omega) (by omega) hd (fun q => k1 (by rw [hgo, q])) (fun T2 c1 q cc1 cc2 q2 q3 => ?_)
          refine kFin_run (e := e) (eb := eb) q2 (by rw [ho]; omega) (by omega) (by omega) (by unfold kBn; rw [if_neg c2, if_neg c15]; omega) he q3 ?_ (by unfold kBn; rw [if_neg c2, if_neg c15]; rfl) (fun q7 => k1 ?_) (fun ty q7 => kbo ▸ k2 _ c1 ?_ (by omega) (by omega))
          · unfold kBn; rw [if_neg c2, if_neg c15]; rfl
          · rw [hgo, q]; simp only; rw [q7]
          · rw [hgo, q]; simp only; rw [q7]
        exact kRun_up fin _ (by simp only [List.length_cons]; omega)
