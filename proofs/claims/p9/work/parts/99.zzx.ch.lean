/-! NAMES: the slot that the class finds is that of the binder that the reference finds. -/
/-- binders as slots -/
def mS (σ : sg_S) (eb : kE) : kE := eb.map (fun p => (p.1, slF σ p.2))
theorem mS_f {σ : sg_S} {w s : Int} : ∀ {eb : kE}, kFind (mS σ eb) w = some s → ∃ b, kFind eb w = some b ∧ slF σ b = s
  | [], h => by cases h
  | x :: r, h => by
    simp only [mS, List.map_cons] at h
    unfold kFind at h ⊢
    simp only at h
    by_cases c : x.1 = w
    · rw [if_pos c] at h
      rw [if_pos c]
      exact ⟨x.2, rfl, Option.some.inj h⟩
    · rw [if_neg c] at h
      rw [if_neg c]
      exact mS_f (eb := r) h
theorem sl_l {σ : sg_S} {n : Int} (h : n < 210) : slF σ n = sg_g σ 16 n := by unfold slF; rw [if_pos h]
theorem sl_g {σ : sg_S} {n : Int} {j : Nat} (h : 0 ≤ n ∧ n < 210) (hj : j < 4) : slF σ (210 + 4 * n + j) = sg_g σ 16 n + j := by
  unfold slF
  rw [if_neg (by omega), if_pos (by omega), show (210 + 4 * n + (j : Int) - 210) / 4 = n by omega, show (210 + 4 * n + (j : Int) - 210) % 4 = j by omega]
theorem sl_p {σ : sg_S} {q : Int} {j : Nat} (h : 0 ≤ q) (hj : j < 6) : slF σ (1100 + 6 * q + j) = sg_g σ 24 q + j := by
  unfold slF
  rw [if_neg (by omega), if_neg (by omega), show (1100 + 6 * q + (j : Int) - 1100) / 6 = q by omega, show (1100 + 6 * q + (j : Int) - 1100) % 6 = j by omega]
theorem mS_g {σ : sg_S} {n : Int} (hn : 0 ≤ n ∧ n < 210) : ∀ (g : List (Int × Int)) (j : Nat) (eb : kE), j + g.length ≤ 4 → mS σ (kGb n j g eb) = gP (sg_g σ 16 n + j) g (mS σ eb)
  | [], j, eb, h => rfl
  | x :: r, j, eb, h => by
    simp only [List.length_cons] at h
    simp only [kGb, gP]
    rw [mS_g hn r (j + 1) _ (by omega)]
    simp only [mS, List.map_cons]
    rw [sl_g hn (by omega), show sg_g σ 16 n + ((j + 1 : Nat) : Int) = sg_g σ 16 n + j + 1 by omega]
theorem mS_p {σ : sg_S} {q : Int} (hq : 0 ≤ q) : ∀ (ps : List (Int × Int × Int)) (j : Nat) (eb : kE), j + ps.length ≤ 6 → mS σ (kPb q j ps eb) = gP (sg_g σ 24 q + j) (ps.map (fun p => (p.1, p.2.1))) (mS σ eb)
  | [], j, eb, h => rfl
  | x :: r, j, eb, h => by
    simp only [List.length_cons] at h
    simp only [kPb, gP, List.map_cons]
    rw [mS_p hq r (j + 1) _ (by omega)]
    simp only [mS, List.map_cons]
    rw [sl_p hq (by omega), show sg_g σ 24 q + ((j + 1 : Nat) : Int) = sg_g σ 24 q + j + 1 by omega]
theorem rsS_app {σ : sg_S} {A : aT} {go : kE → Int → Prop} {n : Int} {es : kE} : ∀ (R R' : List Int) (s : Nat), (∀ j, s ≤ j → j < s + R.length → kNo A n j) → rsS σ A go n s es (R ++ R') → (∀ x ∈ R, go es x) ∧ rsS σ A go n (s + R.length) es R'
  | [], R', s, _, h => ⟨fun x hx => by simp at hx, h⟩
  | x :: R, R', s, hk, h => by
    simp only [List.cons_append, rsS] at h
    rw [eA3_no (hk s (Nat.le_refl _) (by simp))] at h
    obtain ⟨k1, k2⟩ := rsS_app R R' (s + 1) (fun j a b => hk j (by omega) (by simp only [List.length_cons]; omega)) h.2
    refine ⟨fun y hy => ?_, ?_⟩
    · rcases List.mem_cons.mp hy with q | q
      · rw [q]; exact h.1
      · exact k1 y q
    · rw [List.length_cons, show s + (R.length + 1) = s + 1 + R.length by omega]
      exact k2
/-- what is told of a NAME and of a call -/
def nmQ (σ : sg_S) (A : aT) (ds : kD) (B : Int → Int) (x : Int) : Prop := (A.2.1 x = 1 → sg_g σ 16 x = slF σ (B x)) ∧ (A.2.1 x = 13 → kDx ds (A.2.2.2.1 x) = some (B x) ∧ sg_g σ 16 x = B x)
theorem bo_row {σ : sg_S} {A : aT} {ds : kD} {f : Nat} {B2 : Int → Int} {es eb : kE} (ih : ∀ (eb : kE) (n : Int) (B : Int → Int) (L : List Int), fT A [n] L → L.Nodup → (∀ x ∈ L, 0 ≤ x ∧ x < 200) → rsN σ A ds f (mS σ eb) n → (∀ x ∈ L, B2 x = kBo A ds f eb n B x) → ∀ x ∈ L, nmQ σ A ds B2 x) (he : es = mS σ eb) : ∀ (R L : List Int) (B : Int → Int), fT A R L → L.Nodup → (∀ x ∈ L, 0 ≤ x ∧ x < 200) → (∀ x ∈ R, rsN σ A ds f es x) → (∀ x ∈ L, B2 x = kBoR (kBo A ds f) eb R B x) → ∀ x ∈ L, nmQ σ A ds B2 x
  | [], L, B, hf, hN, hr, h, hB, x, hx => by
    rw [fT_nil hf] at hx
    simp at hx
  | y :: R, L, B, hf, hN, hr, h, hB, x, hx => by
    obtain ⟨L1, L2, e1, w1, w2, w3⟩ := fT_inv hf
    subst e1
    have i1 : ∀ z, z ∈ y :: L1 → z ∈ y :: (L1 ++ L2) := fun z hz => by rw [← List.cons_append]; exact List.mem_append_left _ hz
    have i2 : ∀ z, z ∈ L2 → z ∈ y :: (L1 ++ L2) := fun z hz => by rw [← List.cons_append]; exact List.mem_append_right _ hz
    have nd : ((y :: L1) ++ L2).Nodup := by rw [List.cons_append]; exact hN
    have nd' := List.nodup_append.mp nd
    have hx' : x ∈ (y :: L1) ++ L2 := by rw [List.cons_append]; exact hx
    simp only [kBoR] at hB
    rcases List.mem_append.mp hx' with q | q
    · refine ih eb y B (y :: L1) (fT_one w1 w2) nd'.1 (fun z hz => hr z (i1 z hz)) (by rw [← he]; exact h y (by simp)) (fun z hz => ?_) x q
      rw [hB z (i1 z hz)]
      exact kBoR_fr (A := A) (fun eb n B L g => kBo_fr A ds f eb n B L g) eb R L2 _ w3 z (fun g => nd'.2.2 z hz z g rfl)
    · exact bo_row ih he R L2 (kBo A ds f eb y B) w3 nd'.2.1 (fun z hz => hr z (i2 z hz)) (fun z hz => h z (by simp [hz])) (fun z hz => hB z (i2 z hz)) x q
theorem bo_all {σ : sg_S} {A : aT} {ds : kD} {B2 : Int → Int} : ∀ (f : Nat) (eb : kE) (n : Int) (B : Int → Int) (L : List Int), fT A [n] L → L.Nodup → (∀ x ∈ L, 0 ≤ x ∧ x < 200) → rsN σ A ds f (mS σ eb) n → (∀ x ∈ L, B2 x = kBo A ds f eb n B x) → ∀ x ∈ L, nmQ σ A ds B2 x
  | 0, eb, n, B, L, hf, hN, hr, h, hB, x, hx => h.elim
  | f + 1, eb, n, B, L, hf, hN, hr, h, hB, x, hx => by
    obtain ⟨L1, L2, e1, w1, w2, w3⟩ := fT_inv hf
    have e2 := fT_nil w3
    subst e2
    rw [List.append_nil] at e1
    subst e1
    have hnL := (List.nodup_cons.mp hN).1
    have hN1 := (List.nodup_cons.mp hN).2
    have hn := hr n (by simp)
    have hr1 : ∀ x ∈ L1, 0 ≤ x ∧ x < 200 := fun z hz => hr z (List.mem_cons_of_mem _ hz)
    obtain ⟨r1, r2, r3⟩ := h
    have ih := bo_all (σ := σ) (A := A) (ds := ds) (B2 := B2) f
    rcases List.mem_cons.mp hx with q | q
    · subst q
      have b0 := hB x (by simp)
      unfold kBo kUp at b0
      refine ⟨fun k1 => ?_, fun k13 => ?_⟩
      · obtain ⟨b, hb1, hb2⟩ := mS_f (r1 k1)
        rw [if_pos k1, hb1] at b0
        simp only [aU, if_true] at b0
        rw [b0, hb2]
      · have k := r2 k13
        rw [if_neg (by omega), if_pos k13, k] at b0
        simp only [aU, if_true] at b0
        exact ⟨by rw [k, b0], b0.symm⟩
    · have hB1 : ∀ z ∈ L1, B2 z = (if A.2.1 n = 2 then (match A.2.2.2.2.1 n with
          | a :: r => kBoR (kBo A ds f) ((A.2.2.2.1 n, n) :: eb) r (kBo A ds f eb a B)
          | [] => B)
        else if A.2.1 n = 15 then (match A.2.2.2.2.1 n with
          | body :: r => kBoR (kBo A ds f) (kGb n 0 (A.2.2.2.2.2 n) eb) (r.drop (A.2.2.2.2.2 n).length ++ [body]) (kBoR (kBo A ds f) eb (r.take (A.2.2.2.2.2 n).length) B)
          | [] => B)
        else kBoR (kBo A ds f) eb (A.2.2.2.2.1 n) B) z := fun z hz => by
        rw [hB z (List.mem_cons_of_mem _ hz)]
        exact kUp_fr (A := A) (ds := ds) (eb := eb) (fun (g : z = n) => hnL (by rw [← g]; exact hz))
      obtain ⟨n1, n2, n3, n4, n5, n6, n7, n8⟩ := id w1
      by_cases c2 : A.2.1 n = 2
      · have l2 := n3 (Or.inl c2)
        obtain ⟨a, d, hk2⟩ := kid2 l2
        have ho : kOrd A n = [a] ++ [d] := by unfold kOrd; rw [if_neg (by omega), hk2]; rfl
        rw [ho] at r3
        obtain ⟨ra, rd⟩ := rsS_app [a] [d] 0 (fun j x y => ⟨fun z => by simp at y; omega, fun z => by omega⟩) r3
        simp only [List.length_cons, List.length_nil, Nat.zero_add, rsS, and_true] at rd
        have e3 : eA3 A n 1 (mS σ eb) (sg_g σ 16 n) = mS σ ((A.2.2.2.1 n, n) :: eb) := by
          unfold eA3
          rw [if_pos ⟨c2, rfl⟩]
          simp only [mS, List.map_cons]
          rw [sl_l (by omega)]
        rw [e3] at rd
        rw [hk2] at w2
        obtain ⟨La, Ld, e4, fa, fd⟩ := fT_spl [a] [d] L1 w2
        subst e4
        have nd := List.nodup_append.mp hN1
        have hB2 : ∀ z ∈ La ++ Ld, B2 z = kBoR (kBo A ds f) ((A.2.2.2.1 n, n) :: eb) [d] (kBo A ds f eb a B) z := fun z hz => by
          have := hB1 z hz
          rw [if_pos c2, hk2] at this
          exact this
        rcases List.mem_append.mp q with q | q
        · refine ih eb a B La fa nd.1 (fun z hz => hr1 z (List.mem_append_left _ hz)) (ra a (by simp)) (fun z hz => ?_) x q
          rw [hB2 z (List.mem_append_left _ hz)]
          exact kBoR_fr (A := A) (fun eb n B L g => kBo_fr A ds f eb n B L g) _ [d] Ld _ fd z (fun g => nd.2.2 z hz z g rfl)
        · exact ih _ d _ Ld fd nd.2.1 (fun z hz => hr1 z (List.mem_append_right _ hz)) rd (fun z hz => hB2 z (List.mem_append_right _ hz)) x q
      by_cases c15 : A.2.1 n = 15
      · have l7 := n7 c15
        have l8 := n8.2 c15
        obtain ⟨bd, tl, hk2⟩ : ∃ bd tl, A.2.2.2.2.1 n = bd :: tl := by
          match hh : A.2.2.2.2.1 n with
          | bd :: tl => exact ⟨bd, tl, rfl⟩
          | [] => rw [hh] at l7; simp only [List.length_nil] at l7; omega
        have lk : (A.2.2.2.2.2 n).length ≤ tl.length := by
          rw [hk2] at l7
          simp only [List.length_cons] at l7
          omega
        have lt : (tl.take (A.2.2.2.2.2 n).length).length = (A.2.2.2.2.2 n).length := by rw [List.length_take]; omega
        have ho : kOrd A n = tl.take (A.2.2.2.2.2 n).length ++ (tl.drop (A.2.2.2.2.2 n).length ++ [bd]) := by
          unfold kOrd; rw [if_pos c15, hk2, ← List.append_assoc, List.take_append_drop]; rfl
        rw [ho] at r3
        obtain ⟨ra, rd⟩ := rsS_app _ _ 0 (fun j x y => ⟨fun z => by omega, fun z => by rw [lt] at y; omega⟩) r3
        rw [lt, Nat.zero_add] at rd
        have e3 : eA3 A n (A.2.2.2.2.2 n).length (mS σ eb) (sg_g σ 16 n) = mS σ (kGb n 0 (A.2.2.2.2.2 n) eb) := by
          unfold eA3
          rw [if_neg (by omega), if_pos ⟨c15, rfl⟩, mS_g ⟨hn.1, by omega⟩ _ 0 eb (by omega)]
          simp
        have rd' : ∀ y ∈ tl.drop (A.2.2.2.2.2 n).length ++ [bd], rsN σ A ds f (mS σ (kGb n 0 (A.2.2.2.2.2 n) eb)) y := by
          have dl : (tl.drop (A.2.2.2.2.2 n).length).length ≤ 1 := by
            rw [hk2] at l7
            simp only [List.length_cons] at l7
            rw [List.length_drop]
            omega
          match hd : tl.drop (A.2.2.2.2.2 n).length, dl with
          | [], _ =>
            rw [hd] at rd
            simp only [List.nil_append, rsS, and_true] at rd
            rw [e3] at rd
            intro y hy
            simp at hy
            rw [hy]; exact rd
          | [g0], _ =>
            rw [hd] at rd
            simp only [List.cons_append, List.nil_append, rsS, and_true] at rd
            rw [e3] at rd
            have e4 : eA3 A n ((A.2.2.2.2.2 n).length + 1) (mS σ (kGb n 0 (A.2.2.2.2.2 n) eb)) (sg_g σ 16 n) = mS σ (kGb n 0 (A.2.2.2.2.2 n) eb) := eA3_no ⟨fun z => by omega, fun z => by omega⟩ _ _
            rw [e4] at rd
            intro y hy
            simp at hy
            rcases hy with hy | hy
            · rw [hy]; exact rd.1
            · rw [hy]; exact rd.2
        rw [hk2] at w2
        obtain ⟨Lb, Lt, e4, fb, ft⟩ := fT_spl [bd] tl L1 w2
        rw [← List.take_append_drop (A.2.2.2.2.2 n).length tl] at ft
        obtain ⟨La, Ld, e5, fa, fd⟩ := fT_spl _ _ Lt ft
        subst e4
        subst e5
        have nd := List.nodup_append.mp hN1
        have ndt := List.nodup_append.mp nd.2.1
        have fdb : fT A (tl.drop (A.2.2.2.2.2 n).length ++ [bd]) (Ld ++ Lb) := fT_app fd fb
        have ndb : (Ld ++ Lb).Nodup := List.nodup_append.mpr ⟨ndt.2.1, nd.1, fun a ha b hb e => nd.2.2 b hb a (List.mem_append_right _ ha) e.symm⟩
        have hB2 : ∀ z ∈ Lb ++ (La ++ Ld), B2 z = kBoR (kBo A ds f) (kGb n 0 (A.2.2.2.2.2 n) eb) (tl.drop (A.2.2.2.2.2 n).length ++ [bd]) (kBoR (kBo A ds f) eb (tl.take (A.2.2.2.2.2 n).length) B) z := fun z hz => by
          have := hB1 z hz
          rw [if_neg c2, if_pos c15, hk2] at this
          exact this
        have inb : ∀ z, z ∈ Ld ++ Lb → z ∈ Lb ++ (La ++ Ld) := fun z hz => by
          rcases List.mem_append.mp hz with g | g
          · exact List.mem_append_right _ (List.mem_append_right _ g)
          · exact List.mem_append_left _ g
        have ina : ∀ z, z ∈ La → z ∈ Lb ++ (La ++ Ld) := fun z hz => List.mem_append_right _ (List.mem_append_left _ hz)
        have cs : x ∈ La ∨ x ∈ Ld ++ Lb := by
          rcases List.mem_append.mp q with g | g
          · exact Or.inr (List.mem_append_right _ g)
          · rcases List.mem_append.mp g with g | g
            · exact Or.inl g
            · exact Or.inr (List.mem_append_left _ g)
        rcases cs with g | g
        · refine bo_row ih rfl (tl.take (A.2.2.2.2.2 n).length) La B fa ndt.1 (fun z hz => hr1 z (ina z hz)) ra (fun z hz => ?_) x g
          rw [hB2 z (ina z hz)]
          refine kBoR_fr (A := A) (fun eb n B L g => kBo_fr A ds f eb n B L g) _ _ (Ld ++ Lb) _ fdb z (fun g => ?_)
          rcases List.mem_append.mp g with g | g
          · exact ndt.2.2 z hz z g rfl
          · exact nd.2.2 z g z (List.mem_append_left _ hz) rfl
        · exact bo_row ih rfl (tl.drop (A.2.2.2.2.2 n).length ++ [bd]) (Ld ++ Lb) _ fdb ndb (fun z hz => hr1 z (inb z hz)) rd' (fun z hz => hB2 z (inb z hz)) x g
      · have ho : kOrd A n = A.2.2.2.2.1 n ++ [] := by unfold kOrd; rw [if_neg c15, List.append_nil]
        rw [ho] at r3
        obtain ⟨ra, -⟩ := rsS_app _ _ 0 (fun j _ _ => ⟨fun z => c2 z.1, fun z => c15 z.1⟩) r3
        refine bo_row ih rfl (A.2.2.2.2.1 n) L1 B w2 hN1 hr1 ra (fun z hz => ?_) x q
        have := hB1 z hz
        rw [if_neg c2, if_neg c15] at this
        exact this
/-- the same of a whole PROGRAM -/
theorem boP {A : aT} {q : Int} {B2 : Int → Int} : ∀ (D : List aDf) (ds : kD) (d : Nat) (B : Int → Int) (L : List Int), fT A (aRt D ++ [q]) L → L.Nodup → (∀ x ∈ L, 0 ≤ x ∧ x < A.1) → (∀ x ∈ L, B2 x = kBo A (kDl D ds) 201 [] q (kDB A D ds d B) x) → (∀ (j : Nat) (x : aDf), D[j]? = some x → ∃ Lj B', fT A [x.2.2.2] Lj ∧ Lj.Nodup ∧ (∀ y ∈ Lj, 0 ≤ y ∧ y < A.1) ∧ ∀ y ∈ Lj, B2 y = kBo A (kDl (D.take j) ds) 201 (kPb ((d + j : Nat) : Int) 0 x.2.2.1 []) x.2.2.2 B' y) ∧ ∃ Lq B', fT A [q] Lq ∧ Lq.Nodup ∧ (∀ y ∈ Lq, 0 ≤ y ∧ y < A.1) ∧ ∀ y ∈ Lq, B2 y = kBo A (kDl D ds) 201 [] q B' y
  | [], ds, d, B, L, hf, hN, hL, hB => ⟨fun j x hj => (by cases hj), L, B, hf, hN, hL, hB⟩
  | y :: r, ds, d, B, L, hf, hN, hL, hB => by
    obtain ⟨La, Lr, e3, fa, fr⟩ := fT_spl [y.2.2.2] (aRt r ++ [q]) L hf
    subst e3
    have nd := List.nodup_append.mp hN
    simp only [kDl, kDB] at hB
    have ih := boP (B2 := B2) r ((y.1, y.2.2.1.map (·.2.2), y.2.2.2) :: ds) (d + 1) (kBo A ds 201 (kPb (d : Int) 0 y.2.2.1 []) y.2.2.2 B) Lr fr nd.2.1 (fun z hz => hL z (List.mem_append_right _ hz)) (fun z hz => hB z (List.mem_append_right _ hz))
    refine ⟨fun j x hj => ?_, ih.2⟩
    cases j with
    | zero =>
      simp only [List.getElem?_cons_zero, Option.some.injEq] at hj
      subst hj
      refine ⟨La, B, fa, nd.1, fun z hz => hL z (List.mem_append_left _ hz), fun z hz => ?_⟩
      rw [hB z (List.mem_append_left _ hz)]
      exact kFlB_fr r _ (d + 1) _ Lr fr z (fun g => nd.2.2 z hz z g rfl)
    | succ j =>
      have := ih.1 j x hj
      rw [show (d + 1 + j : Nat) = d + (j + 1) by omega] at this
      exact this
