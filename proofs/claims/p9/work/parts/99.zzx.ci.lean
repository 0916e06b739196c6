/-! SLOTS: each binder has one of its own. -/
/-- binder y belongs to a node of L -/
def bIn (A : aT) (L : List Int) (y : Int) : Prop := (y ∈ L ∧ A.2.1 y = 2) ∨ ∃ n, n ∈ L ∧ A.2.1 n = 15 ∧ ∃ j : Nat, j < (A.2.2.2.2.2 n).length ∧ y = 210 + 4 * n + j
def sRg (σ : sg_S) (A : aT) (L : List Int) (b b' : Int) : Prop := (∀ y, bIn A L y → b ≤ slF σ y ∧ slF σ y < b') ∧ ∀ y y', bIn A L y → bIn A L y' → slF σ y = slF σ y' → y = y'
theorem bIn_m {A : aT} {L L' : List Int} (h : ∀ x ∈ L, x ∈ L') {y : Int} (hy : bIn A L y) : bIn A L' y := by
  rcases hy with ⟨a, b⟩ | ⟨n, a, b⟩
  · exact Or.inl ⟨h _ a, b⟩
  · exact Or.inr ⟨n, h _ a, b⟩
theorem bIn_a {A : aT} {L L' : List Int} {y : Int} (hy : bIn A (L ++ L') y) : bIn A L y ∨ bIn A L' y := by
  rcases hy with ⟨a, b⟩ | ⟨n, a, b⟩
  · rcases List.mem_append.mp a with q | q
    · exact Or.inl (Or.inl ⟨q, b⟩)
    · exact Or.inr (Or.inl ⟨q, b⟩)
  · rcases List.mem_append.mp a with q | q
    · exact Or.inl (Or.inr ⟨n, q, b⟩)
    · exact Or.inr (Or.inr ⟨n, q, b⟩)
theorem sR_m {σ : sg_S} {A : aT} {L L' : List Int} {b b' : Int} (h : sRg σ A L' b b') (hm : ∀ x ∈ L, x ∈ L') : sRg σ A L b b' := ⟨fun y hy => h.1 y (bIn_m hm hy), fun y y' hy hy' => h.2 y y' (bIn_m hm hy) (bIn_m hm hy')⟩
theorem sR_app {σ : sg_S} {A : aT} {L L' : List Int} {b b1 b2 b' : Int} (h : sRg σ A L b b1) (g : sRg σ A L' b2 b') (h0 : b ≤ b1) (h1 : b1 ≤ b2) (h2 : b2 ≤ b') : sRg σ A (L ++ L') b b' := by
  refine ⟨fun y hy => ?_, fun y y' hy hy' e => ?_⟩
  · rcases bIn_a hy with q | q
    · have := h.1 y q; omega
    · have := g.1 y q; omega
  · rcases bIn_a hy with q | q <;> rcases bIn_a hy' with q' | q'
    · exact h.2 y y' q q' e
    · have := h.1 y q
      have := g.1 y' q'
      omega
    · have := g.1 y q
      have := h.1 y' q'
      omega
    · exact g.2 y y' q q' e
theorem sR_0 (σ : sg_S) (A : aT) (b : Int) : sRg σ A [] b b := ⟨fun y hy => by rcases hy with ⟨a, -⟩ | ⟨n, a, -⟩ <;> simp at a, fun y y' hy => by rcases hy with ⟨a, -⟩ | ⟨n, a, -⟩ <;> simp at a⟩
theorem scS_sR {σ : sg_S} {A : aT} {go : List Int → Int → Int → Int → Prop} {n : Int} (hl : ∀ es x b b', go es x b b' → b ≤ b') (hg : ∀ es x b b' L, fT A [x] L → L.Nodup → (∀ x ∈ L, 0 ≤ x ∧ x < 200) → go es x b b' → sRg σ A L b b') : ∀ (R : List Int) (s : Nat) (es : List Int) (b b' : Int) (L : List Int), fT A R L → L.Nodup → (∀ x ∈ L, 0 ≤ x ∧ x < 200) → (∀ j, s ≤ j → j < s + R.length → kNo A n j) → scS σ A go n s es b R b' → sRg σ A L b b'
  | [], s, es, b, b', L, hf, hN, hr, hk, h => by
    rw [fT_nil hf]
    simp only [scS] at h
    rw [h]
    exact sR_0 σ A b
  | x :: R, s, es, b, b', L, hf, hN, hr, hk, h => by
    obtain ⟨L1, L2, e1, w1, w2, w3⟩ := fT_inv hf
    subst e1
    simp only [scS] at h
    obtain ⟨h1, b2, h2, h3⟩ := h
    obtain ⟨x1, x2⟩ := esA_no (hk s (Nat.le_refl _) (by simp)) es b
    rw [x1, x2] at h2
    rw [x1] at h3
    have nd : ((x :: L1) ++ L2).Nodup := by rw [List.cons_append]; exact hN
    have nd' := List.nodup_append.mp nd
    have hr' : ∀ y ∈ (x :: L1) ++ L2, 0 ≤ y ∧ y < 200 := fun y hy => hr y (by rw [← List.cons_append]; exact hy)
    rw [← List.cons_append]
    exact sR_app (hg _ _ _ _ _ (fT_one w1 w2) nd'.1 (fun y hy => hr' y (List.mem_append_left _ hy)) h2) (scS_sR hl hg R (s + 1) es b2 b' L2 w3 nd'.2.1 (fun y hy => hr' y (List.mem_append_right _ hy)) (fun j a c => hk j (by omega) (by simp only [List.length_cons]; omega)) h3) (hl _ _ _ _ h2) (Int.le_refl _) (scS_le hl R _ _ _ _ h3)
theorem scN_sR {σ : sg_S} {A : aT} {cl : Int} : ∀ (f : Nat) (es : List Int) (n b b' : Int) (L : List Int), fT A [n] L → L.Nodup → (∀ x ∈ L, 0 ≤ x ∧ x < 200) → scN σ A cl f es n b b' → sRg σ A L b b'
  | 0, _, _, _, _, _, _, _, _, h => h.elim
  | f + 1, es, n, b, b', L, hf, hN, hr, h => by
    obtain ⟨L1, L2, e1, w1, w2, w3⟩ := fT_inv hf
    have e2 := fT_nil w3
    subst e2
    rw [List.append_nil] at e1
    subst e1
    have hN1 := (List.nodup_cons.mp hN).2
    have hn := hr n (by simp)
    have hr1 : ∀ x ∈ L1, 0 ≤ x ∧ x < 200 := fun z hz => hr z (List.mem_cons_of_mem _ hz)
    have ih := scN_sR (σ := σ) (A := A) (cl := cl) f
    have hl : ∀ es x b b', scN σ A cl f es x b b' → b ≤ b' := fun es x b b' => scN_le f es x b b'
    obtain ⟨-, -, -, h4⟩ := h
    obtain ⟨n1, n2, n3, n4, n5, n6, n7, n8⟩ := id w1
    by_cases c2 : A.2.1 n = 2
    · have l2 := n3 (Or.inl c2)
      obtain ⟨a, d, hk2⟩ := kid2 l2
      have ho : kOrd A n = [a, d] := by unfold kOrd; rw [if_neg (by omega), hk2]
      rw [ho] at h4
      simp only [scS] at h4
      obtain ⟨-, b1, h5, h6, b2, h7, h8⟩ := h4
      have k0 : kNo A n 0 := ⟨fun z => by omega, fun z => by omega⟩
      obtain ⟨x1, x2⟩ := esA_no k0 es b
      rw [x2] at h5
      have e16 := (h6.1 c2 rfl).1
      have be : bA A n (0 + 1) b1 = b1 + 1 := by unfold bA; rw [if_pos ⟨c2, rfl⟩]
      rw [be] at h7
      rw [hk2] at w2
      obtain ⟨La, Ld, e4, fa, fd⟩ := fT_spl [a] [d] L1 w2
      subst e4
      have nd := List.nodup_append.mp hN1
      have sa := ih _ _ _ _ _ fa nd.1 (fun z hz => hr1 z (List.mem_append_left _ hz)) h5
      have sd := ih _ _ _ _ _ fd nd.2.1 (fun z hz => hr1 z (List.mem_append_right _ hz)) h7
      have la := hl _ _ _ _ h5
      have ld := hl _ _ _ _ h7
      have so : sRg σ A [n] b1 (b1 + 1) := by
        have key : ∀ y, bIn A [n] y → y = n := fun y hy => by
          rcases hy with ⟨g, -⟩ | ⟨m, g, g2, -⟩
          · simpa using g
          · have : m = n := by simpa using g
            rw [this] at g2
            omega
        refine ⟨fun y hy => ?_, fun y y' hy hy' _ => by rw [key y hy, key y' hy']⟩
        rw [key y hy, sl_l (by omega), e16]
        omega
      rw [h8]
      exact sR_m (sR_app (sR_app sa so la (Int.le_refl _) (by omega)) sd (by omega) (Int.le_refl _) ld) (fun z hz => by
        rcases List.mem_cons.mp hz with g | g
        · rw [g]; simp
        · rcases List.mem_append.mp g with g | g
          · exact List.mem_append_left _ (List.mem_append_left _ g)
          · exact List.mem_append_right _ g)
    by_cases c15 : A.2.1 n = 15
    · have l7 := n7 c15
      have l8 := n8.2 c15
      obtain ⟨bd, tl, hk2⟩ : ∃ bd tl, A.2.2.2.2.1 n = bd :: tl := by
        match hh : A.2.2.2.2.1 n with
        | bd :: tl => exact ⟨bd, tl, rfl⟩
        | [] => rw [hh] at l7; simp only [List.length_nil] at l7; omega
      have lk : (A.2.2.2.2.2 n).length ≤ tl.length := by
        rw [hk2] at l7
        simp only [List.length_cons] at l7
        omega
      have lt : (tl.take (A.2.2.2.2.2 n).length).length = (A.2.2.2.2.2 n).length := by rw [List.length_take]; omega
      have ho : kOrd A n = tl.take (A.2.2.2.2.2 n).length ++ (tl.drop (A.2.2.2.2.2 n).length ++ [bd]) := by
        unfold kOrd; rw [if_pos c15, hk2, ← List.append_assoc, List.take_append_drop]; rfl
      rw [ho] at h4
      have kn : ∀ j, 0 ≤ j → j < 0 + (tl.take (A.2.2.2.2.2 n).length).length → kNo A n j := fun j x y => ⟨fun z => by omega, fun z => by rw [lt] at y; omega⟩
      obtain ⟨b1, h5, h6⟩ := scS_app _ _ 0 b b' kn h4
      rw [lt, Nat.zero_add] at h6
      obtain ⟨x0, R0, hx0⟩ : ∃ x0 R0, tl.drop (A.2.2.2.2.2 n).length ++ [bd] = x0 :: R0 := by
        cases tl.drop (A.2.2.2.2.2 n).length with
        | nil => exact ⟨bd, [], rfl⟩
        | cons x R => exact ⟨x, R ++ [bd], rfl⟩
      rw [hk2] at w2
      obtain ⟨Lb, Lt, e4, fb, ft⟩ := fT_spl [bd] tl L1 w2
      rw [← List.take_append_drop (A.2.2.2.2.2 n).length tl] at ft
      obtain ⟨La, Ld, e5, fa, fd⟩ := fT_spl _ _ Lt ft
      subst e4
      subst e5
      have nd := List.nodup_append.mp hN1
      have ndt := List.nodup_append.mp nd.2.1
      have fdb : fT A (tl.drop (A.2.2.2.2.2 n).length ++ [bd]) (Ld ++ Lb) := fT_app fd fb
      have ndb : (Ld ++ Lb).Nodup := List.nodup_append.mpr ⟨ndt.2.1, nd.1, fun a ha b hb e => nd.2.2 b hb a (List.mem_append_right _ ha) e.symm⟩
      have inb : ∀ z, z ∈ Ld ++ Lb → z ∈ Lb ++ (La ++ Ld) := fun z hz => by
        rcases List.mem_append.mp hz with g | g
        · exact List.mem_append_right _ (List.mem_append_right _ g)
        · exact List.mem_append_left _ g
      have ina : ∀ z, z ∈ La → z ∈ Lb ++ (La ++ Ld) := fun z hz => List.mem_append_right _ (List.mem_append_left _ hz)
      have sa := scS_sR hl (fun es x b b' L => ih es x b b' L) _ 0 es b b1 La fa ndt.1 (fun z hz => hr1 z (ina z hz)) kn h5
      have la := scS_le hl _ _ _ _ _ h5
      rw [hx0] at h6 fdb
      simp only [scS] at h6
      obtain ⟨h7, b2, h8, h9⟩ := h6
      have e16 := (h7.2 c15 rfl).1
      have be : bA A n (A.2.2.2.2.2 n).length b1 = b1 + (A.2.2.2.2.2 n).length := by unfold bA; rw [if_neg (by omega), if_pos ⟨c15, rfl⟩]
      rw [be] at h8
      obtain ⟨Lx, Ly, e6, wx1, wx2, wx3⟩ := fT_inv fdb
      have eL : Ld ++ Lb = (x0 :: Lx) ++ Ly := by rw [e6, List.cons_append]
      have ndx := ndb
      rw [eL] at ndx
      have ndx' := List.nodup_append.mp ndx
      have inx : ∀ z, z ∈ (x0 :: Lx) ++ Ly → 0 ≤ z ∧ z < 200 := fun z hz => hr1 z (inb z (by rw [eL]; exact hz))
      have s8 := ih _ _ _ _ _ (fT_one wx1 wx2) ndx'.1 (fun z hz => inx z (List.mem_append_left _ hz)) h8
      have s9 := scS_sR hl (fun es x b b' L => ih es x b b' L) R0 ((A.2.2.2.2.2 n).length + 1) _ b2 b' Ly wx3 ndx'.2.1 (fun z hz => inx z (List.mem_append_right _ hz)) (fun j x y => ⟨fun z => by omega, fun z => by omega⟩) h9
      have l8' := hl _ _ _ _ h8
      have l9 := scS_le hl _ _ _ _ _ h9
      have so : sRg σ A [n] b1 (b1 + (A.2.2.2.2.2 n).length) := by
        have key : ∀ y, bIn A [n] y → ∃ j : Nat, j < (A.2.2.2.2.2 n).length ∧ y = 210 + 4 * n + j := fun y hy => by
          rcases hy with ⟨g, g2⟩ | ⟨m, g, g2, j, g3, g4⟩
          · have : y = n := by simpa using g
            rw [this] at g2
            omega
          · have e : m = n := by simpa using g
            rw [e] at g3 g4
            exact ⟨j, g3, g4⟩
        refine ⟨fun y hy => ?_, fun y y' hy hy' e => ?_⟩
        · obtain ⟨j, g3, g4⟩ := key y hy
          rw [g4, sl_g ⟨hn.1, by omega⟩ (by omega), e16]
          omega
        · obtain ⟨j, g3, g4⟩ := key y hy
          obtain ⟨j', g3', g4'⟩ := key y' hy'
          rw [g4, g4', sl_g ⟨hn.1, by omega⟩ (by omega), sl_g ⟨hn.1, by omega⟩ (by omega)] at e
          omega
      refine sR_m (sR_app (sR_app sa so la (Int.le_refl _) (by omega)) (sR_app s8 s9 l8' (Int.le_refl _) l9) (by omega) (Int.le_refl _) (by omega)) (fun z hz => ?_)
      rw [← eL]
      rcases List.mem_cons.mp hz with g | g
      · rw [g]; simp
      · rcases List.mem_append.mp g with g | g
        · exact List.mem_append_right _ (List.mem_append_right _ g)
        · rcases List.mem_append.mp g with g | g
          · exact List.mem_append_left _ (List.mem_append_left _ g)
          · exact List.mem_append_right _ (List.mem_append_left _ g)
    · have kn : ∀ j, kNo A n j := fun j => ⟨fun z => c2 z.1, fun z => c15 z.1⟩
      obtain ⟨L', k1, k2⟩ := fT_perm (kOrd_p A n) w2
      have s := scS_sR hl (fun es x b b' L => ih es x b b' L) (kOrd A n) 0 es b b' L' k1 (k2.nodup_iff.mp hN1) (fun z hz => hr1 z (k2.mem_iff.mpr hz)) (fun j _ _ => kn j) h4
      have key : ∀ y, bIn A (n :: L1) y → bIn A L' y := fun y hy => by
        rcases hy with ⟨g, g2⟩ | ⟨m, g, g2, g3⟩
        · rcases List.mem_cons.mp g with g | g
          · rw [g] at g2; exact absurd g2 c2
          · exact Or.inl ⟨k2.mem_iff.mp g, g2⟩
        · rcases List.mem_cons.mp g with g | g
          · rw [g] at g2; exact absurd g2 c15
          · exact Or.inr ⟨m, k2.mem_iff.mp g, g2, g3⟩
      exact ⟨fun y hy => s.1 y (key y hy), fun y y' hy hy' => s.2 y y' (key y hy) (key y' hy')⟩
/-- in which tree a node stands -/
theorem fT_rt {A : aT} {x : Int} : ∀ (R L : List Int), fT A R L → x ∈ L → ∃ r ∈ R, ∃ Lr, fT A [r] Lr ∧ x ∈ Lr ∧ ∀ y ∈ Lr, y ∈ L
  | [], L, h, hx => by rw [fT_nil h] at hx; simp at hx
  | r :: R, L, h, hx => by
    obtain ⟨L1, L2, e1, w1, w2, w3⟩ := fT_inv h
    subst e1
    have hx' : x ∈ (r :: L1) ++ L2 := by rw [List.cons_append]; exact hx
    rcases List.mem_append.mp hx' with q | q
    · exact ⟨r, by simp, r :: L1, fT_one w1 w2, q, fun y hy => by rw [← List.cons_append]; exact List.mem_append_left _ hy⟩
    · obtain ⟨r', a, Lr, b, c, d⟩ := fT_rt R L2 w3 q
      exact ⟨r', by simp [a], Lr, b, c, fun y hy => by rw [← List.cons_append]; exact List.mem_append_right _ (d y hy)⟩
theorem sl_all {σ : sg_S} {A : aT} {D : List aDf} {q : Int} (hW : ckW σ A) (hD : cD2 σ D) (hfr : frA A (aRt D ++ [q])) (hA : ckA σ A D.length q) : slA σ (vbF A D) := by
  obtain ⟨H, fs, Ld, a1, a2, a3, a4, a5⟩ := hA
  obtain ⟨LA, f1, f2, f3, f4⟩ := hfr
  have d12 := hD.2.1
  have w200 := hW.1.2
  have sub : ∀ r ∈ aRt D ++ [q], ∃ L, fT A [r] L ∧ L.Nodup ∧ ∀ x ∈ L, 0 ≤ x ∧ x < A.1 := fun r hr => by
    obtain ⟨R1, R2, e⟩ := List.append_of_mem hr
    rw [e] at f1
    obtain ⟨La, Lb, e1, g1, g2⟩ := fT_spl R1 (r :: R2) LA f1
    obtain ⟨Lc, Le, e2, g3, g4⟩ := fT_spl [r] R2 Lb g2
    rw [e1, e2] at f2 f3
    exact ⟨Lc, g3, (List.nodup_append.mp (List.nodup_append.mp f2).2.1).1, fun x hx => f3 x (List.mem_append_right _ (List.mem_append_left _ hx))⟩
  have l3 := scN_le _ _ _ _ _ a3
  obtain ⟨Lq, q1, q2, q3⟩ := sub q (List.mem_append_right _ (by simp))
  have sq := scN_sR _ _ _ _ _ _ q1 q2 (fun x hx => ⟨(q3 x hx).1, by have := (q3 x hx).2; omega⟩) a3
  -- the slots of a DEF
  have df : ∀ (j : Nat) (x : aDf), D[j]? = some x → ∃ Lj, fT A [x.2.2.2] Lj ∧ sRg σ A Lj (sg_g σ 24 j + x.2.2.1.length) (H j) ∧ (0 ≤ sg_g σ 24 j ∧ sg_g σ 24 j + x.2.2.1.length ≤ H j ∧ H j ≤ fs) ∧ (x.2.2.1.length ≤ 6) ∧ ∀ j' : Nat, j' < j → H j' ≤ sg_g σ 24 j := fun j x hx => by
    have hj := gE_l hx
    obtain ⟨⟨L, b1, b2, b3, b4, b5, b6, b7, b8, b9⟩, ord⟩ := a1 j (by omega) (by omega)
    obtain ⟨t1, t2, t3, t4, t5, -⟩ := hD.2.2 j x hx
    rw [t3, t4] at b3
    obtain ⟨Lj, s1, s2, s3⟩ := sub x.2.2.2 (List.mem_append_left _ (by unfold aRt; exact List.mem_map.mpr ⟨x, List.mem_of_getElem? hx, rfl⟩))
    have le := scN_le _ _ _ _ _ b3
    exact ⟨Lj, s1, scN_sR _ _ _ _ _ _ s1 s2 (fun x hx => ⟨(s3 x hx).1, by have := (s3 x hx).2; omega⟩) b3, ⟨b6.1, le, b6.2⟩, t5, fun j' hj' => ord j' (by omega) (by omega)⟩
  -- zones
  have zone : ∀ y, vbF A D y → (∃ (j : Nat) (x : aDf), D[j]? = some x ∧ sg_g σ 24 j ≤ slF σ y ∧ slF σ y < H j ∧ ((∃ i : Nat, i < x.2.2.1.length ∧ y = 1100 + 6 * (j : Int) + i) ∨ (sg_g σ 24 j + x.2.2.1.length ≤ slF σ y ∧ ∃ Lj, fT A [x.2.2.2] Lj ∧ bIn A Lj y))) ∨ (fs ≤ slF σ y ∧ slF σ y < H 12 ∧ bIn A Lq y) := fun y hy => by
    have nod : ∀ n, 0 ≤ n → n < A.1 → (∀ L, n ∈ L → bIn A L y) → (∃ (j : Nat) (x : aDf), D[j]? = some x ∧ sg_g σ 24 j ≤ slF σ y ∧ slF σ y < H j ∧ ((∃ i : Nat, i < x.2.2.1.length ∧ y = 1100 + 6 * (j : Int) + i) ∨ (sg_g σ 24 j + x.2.2.1.length ≤ slF σ y ∧ ∃ Lj, fT A [x.2.2.2] Lj ∧ bIn A Lj y))) ∨ (fs ≤ slF σ y ∧ slF σ y < H 12 ∧ bIn A Lq y) := fun n g1 g2 g3 => by
      obtain ⟨r, m1, Lr, m2, m3, m4⟩ := fT_rt _ _ f1 (f4 n g1 g2)
      rcases List.mem_append.mp m1 with m | m
      · left
        unfold aRt at m
        obtain ⟨x, mx, ex⟩ := List.mem_map.mp m
        obtain ⟨j, hj⟩ := List.getElem?_of_mem mx
        obtain ⟨Lj, s1, s2, s3, s4, s5⟩ := df j x hj
        have eL : Lr = Lj := fT_det m2 (by rw [← ex]; exact s1)
        have bi := g3 Lr m3
        rw [eL] at bi
        have := s2.1 y bi
        exact ⟨j, x, hj, by omega, by omega, Or.inr ⟨this.1, Lj, s1, bi⟩⟩
      · right
        have er : r = q := by simpa using m
        rw [er] at m2
        have eL : Lr = Lq := fT_det m2 q1
        have bi := g3 Lr m3
        rw [eL] at bi
        have := sq.1 y bi
        exact ⟨this.1, this.2, bi⟩
    rcases hy with ⟨⟨g1, g2⟩, g3⟩ | ⟨n, j, ⟨g1, g2⟩, g3, g4, g5⟩ | ⟨j, i, x, g1, g2, g3⟩
    · exact nod y g1 g2 (fun L hL => Or.inl ⟨hL, g3⟩)
    · exact nod n g1 g2 (fun L hL => Or.inr ⟨n, hL, g3, j, g4, g5⟩)
    · left
      obtain ⟨Lj, s1, s2, s3, s4, s5⟩ := df j x g1
      have e : slF σ y = sg_g σ 24 j + i := by rw [g3, sl_p (by omega) (by omega)]
      exact ⟨j, x, g1, by omega, by omega, Or.inl ⟨i, g2, g3⟩⟩
  refine ⟨fun y hy => ?_, fun y y' hy hy' e => ?_⟩
  · rcases zone y hy with ⟨j, x, z1, z2, z3, -⟩ | ⟨z1, z2, -⟩
    · obtain ⟨Lj, s1, s2, s3, s4, s5⟩ := df j x z1
      omega
    · omega
  · rcases zone y hy with ⟨j, x, z1, z2, z3, z4⟩ | ⟨z1, z2, z4⟩ <;> rcases zone y' hy' with ⟨j', x', z1', z2', z3', z4'⟩ | ⟨z1', z2', z4'⟩
    · obtain ⟨Lj, s1, s2, s3, s4, s5⟩ := df j x z1
      obtain ⟨Lj', s1', s2', s3', s4', s5'⟩ := df j' x' z1'
      have ej : j = j' := by
        rcases Nat.lt_trichotomy j j' with c | c | c
        · have := s5' j c; omega
        · exact c
        · have := s5 j' c; omega
      subst ej
      rw [z1] at z1'
      obtain rfl := Option.some.inj z1'
      rcases z4 with ⟨i, i1, i2⟩ | ⟨i1, L1, i2, i3⟩ <;> rcases z4' with ⟨i', i1', i2'⟩ | ⟨i1', L1', i2', i3'⟩
      · rw [i2, i2', sl_p (by omega) (by omega), sl_p (by omega) (by omega)] at e
        omega
      · rw [i2, sl_p (by omega) (by omega)] at e
        omega
      · rw [i2', sl_p (by omega) (by omega)] at e
        omega
      · rw [fT_det i2 s1] at i3
        rw [fT_det i2' s1] at i3'
        exact s2.2 y y' i3 i3' e
    · obtain ⟨Lj, s1, s2, s3, s4, s5⟩ := df j x z1
      omega
    · obtain ⟨Lj', s1', s2', s3', s4', s5'⟩ := df j' x' z1'
      omega
    · exact sq.2 y y' z4 z4' e
