/-! Slots and orders of a tree: they stay, and they are not many. -/
def stb (σ σ' : sg_S) (cl b : Int) (L : List Int) : Prop := (∀ x ∈ L, sg_g σ' 16 x = sg_g σ 16 x ∧ sg_g σ' 6 x = sg_g σ 6 x) ∧ (∀ s, s < b → sg_g σ' 34 s = sg_g σ 34 s) ∧ (∀ i, sg_g σ' 22 i = sg_g σ 22 i ∧ sg_g σ' 23 i = sg_g σ 23 i ∧ sg_g σ' 27 i = sg_g σ 27 i) ∧ ∀ q, 0 ≤ q → q < cl → sg_g σ' 6 (sg_g σ 22 q) = sg_g σ 6 (sg_g σ 22 q)
theorem stb_s {σ σ' : sg_S} {cl b b2 : Int} {L L2 : List Int} (h : stb σ σ' cl b L) (hb : b2 ≤ b) (hL : ∀ x ∈ L2, x ∈ L) : stb σ σ' cl b2 L2 := ⟨fun x hx => h.1 x (hL x hx), fun s hs => h.2.1 s (by omega), h.2.2⟩
theorem esA_b {A : aT} {n b : Int} {s : Nat} {es : List Int} (h : ∀ y ∈ es, y < b) : ∀ y ∈ esA A n s es b, y < bA A n s b := by
  intro y hy
  unfold esA at hy
  unfold bA
  split at hy
  · rename_i c
    rw [if_pos c]
    rcases List.mem_cons.mp hy with e | e
    · omega
    · have := h y e; omega
  · rename_i c
    rw [if_neg c]
    split at hy
    · rename_i c2
      rw [if_pos c2]
      rcases List.mem_append.mp hy with e | e
      · exact (gsl_m.mp e).2
      · have := h y e; omega
    · rename_i c2
      rw [if_neg c2]
      exact h y hy
theorem cA_st {σ σ' : sg_S} {A : aT} {cl n b b' : Int} {s : Nat} {L : List Int} (h : stb σ σ' cl b' L) (hb : bA A n s b ≤ b') (hn : (∀ j, kNo A n j) ∨ sg_g σ' 16 n = sg_g σ 16 n) (hk : ∀ x ∈ A.2.2.2.2.1 n, x ∈ L) (hw : nW A n) (hc : cA σ A n s b) : cA σ' A n s b := by
  rcases hn with hn | hn
  · exact ⟨fun a c => absurd ⟨a, c⟩ (hn s).1, fun a c => absurd ⟨a, c⟩ (hn s).2⟩
  obtain ⟨h1, h2, h3, h4⟩ := h
  refine ⟨fun a c => ?_, fun a c => ?_⟩
  · obtain ⟨y1, y2⟩ := hc.1 a c
    unfold bA at hb
    rw [if_pos ⟨a, c⟩] at hb
    have hl := hw.2.2.1 (Or.inl a)
    have hm : (A.2.2.2.2.1 n).getD 0 0 ∈ A.2.2.2.2.1 n := by
      rw [List.getD_eq_getElem?_getD, List.getElem?_eq_getElem (by omega)]
      exact List.getElem_mem _
    rw [hn, h2 b (by omega), (h1 _ (hk _ hm)).2]
    exact ⟨y1, y2⟩
  · obtain ⟨y1, y2⟩ := hc.2 a c
    unfold bA at hb
    rw [if_neg (by omega), if_pos ⟨a, c⟩] at hb
    refine ⟨by rw [hn]; exact y1, fun i x hx => ?_⟩
    have hm : x ∈ A.2.2.2.2.1 n := by
      have := List.mem_of_getElem? hx
      unfold kGs at this
      exact List.mem_of_mem_drop (List.mem_of_mem_take this)
    have hi : i < (A.2.2.2.2.2 n).length := by
      have := gE_l hx
      unfold kGs at this
      rw [List.length_take] at this
      omega
    rw [h2 _ (by omega), (h1 _ (hk _ hm)).2]
    exact y2 i x hx
theorem scS_st {σ σ' : sg_S} {A : aT} {cl n : Int} {go go' : List Int → Int → Int → Int → Prop} {LL : List Int} (hn : (∀ j, kNo A n j) ∨ sg_g σ' 16 n = sg_g σ 16 n) (hk : ∀ x ∈ A.2.2.2.2.1 n, x ∈ LL) (hw : nW A n) (hle : ∀ es x b b', go es x b b' → b ≤ b') (hg : ∀ es x b b' L, fT A [x] L → (∀ y ∈ L, y ∈ LL) → (∀ y ∈ es, y < b) → stb σ σ' cl b' LL → go es x b b' → go' es x b b') : ∀ (R : List Int) (s : Nat) (es : List Int) (b b' : Int) (L : List Int), fT A R L → (∀ y ∈ L, y ∈ LL) → (∀ y ∈ es, y < b) → stb σ σ' cl b' LL → scS σ A go n s es b R b' → scS σ' A go' n s es b R b'
  | [], s, es, b, b', L, hf, hL, he, hs, h => by simp only [scS] at h ⊢; exact h
  | x :: R, s, es, b, b', L, hf, hL, he, hs, h => by
    obtain ⟨L1, L2, e1, w1, w2, w3⟩ := fT_inv hf
    subst e1
    simp only [scS] at h ⊢
    obtain ⟨h1, b2, h2, h3⟩ := h
    have l1 := hle _ _ _ _ h2
    have l2 := scS_le hle _ _ _ _ _ h3
    have hb := esA_b (A := A) (n := n) (s := s) he
    refine ⟨cA_st hs (by omega) hn hk hw h1, b2, hg _ _ _ _ (x :: L1) (fT_one w1 w2) (fun y hy => hL y (by rw [← List.cons_append]; exact List.mem_append_left _ hy)) hb (stb_s hs l2 (fun _ h => h)) h2, scS_st hn hk hw hle hg R _ _ _ _ L2 w3 (fun y hy => hL y (by rw [← List.cons_append]; exact List.mem_append_right _ hy)) (fun y hy => by have := hb y hy; omega) hs h3⟩
theorem scN_st {σ σ' : sg_S} {A : aT} {cl : Int} {LL : List Int} : ∀ (f : Nat) (es : List Int) (n b b' : Int) (L : List Int), fT A [n] L → (∀ y ∈ L, y ∈ LL) → (∀ y ∈ es, y < b) → stb σ σ' cl b' LL → scN σ A cl f es n b b' → scN σ' A cl f es n b b'
  | 0, _, _, _, _, _, _, _, _, _, h => h.elim
  | f + 1, es, n, b, b', L, hf, hL, he, hs, h => by
    obtain ⟨L1, L2, e1, w1, w2, w3⟩ := fT_inv hf
    have e2 := fT_nil w3
    subst e2
    rw [List.append_nil] at e1
    subst e1
    obtain ⟨L', k1, k2⟩ := fT_perm (kOrd_p A n) w2
    have hn : n ∈ LL := hL n (by simp)
    have hkids : ∀ x ∈ A.2.2.2.2.1 n, x ∈ LL := fun x hx => hL x (List.mem_cons_of_mem _ (fT_sub w2 x hx))
    obtain ⟨h1, h2, h3, h4⟩ := h
    have l2 := scS_le (fun es x b b' => scN_le f es x b b') _ _ _ _ _ h4
    obtain ⟨g1, g2, g3, g4⟩ := id hs
    refine ⟨fun c => by rw [(g1 n hn).1]; exact h1 c, fun c => ?_, fun c => ?_, scS_st (Or.inr (g1 n hn).1) hkids w1 (fun es x b b' => scN_le f es x b b') (fun es x b b' L => scN_st f es x b b' L) _ _ _ _ _ L' k1 (fun y hy => hL y (List.mem_cons_of_mem _ (k2.mem_iff.mpr hy))) he hs h4⟩
    · obtain ⟨y1, y2⟩ := h2 c
      have := he _ y1
      rw [(g1 n hn).1, (g1 n hn).2, g2 _ (by omega)]
      exact ⟨y1, y2⟩
    · obtain ⟨y1, y2, y3, y4⟩ := h3 c
      unfold clF
      rw [(g1 n hn).1, (g1 n hn).2]
      refine ⟨y1, by rw [(g3 _).2.1]; exact y2, fun i x hx => ?_, ?_⟩
      · rw [(g1 x (hkids x (List.mem_of_getElem? hx))).2, (g3 _).2.2]; exact y3 i x hx
      · rw [(g3 _).1, g4 _ y1.1 y1.2]; exact y4
/-- what is still to be bound -/
def od (A : aT) (n : Int) (s : Nat) : Nat := if A.2.1 n = 2 ∧ s = 1 then 1 else if A.2.1 n = 15 ∧ s ≤ (A.2.2.2.2.2 n).length then s else 0
theorem od_s (A : aT) (n : Int) (s : Nat) (b : Int) : (od A n (s + 1) : Int) + (bA A n s b - b) ≤ od A n s + 1 := by
  unfold od bA
  repeat' split
  all_goals omega
theorem bA_od (A : aT) (n : Int) (s : Nat) (b : Int) : bA A n s b ≤ b + od A n s := by
  unfold od bA
  split
  · omega
  · split
    · rename_i c
      rw [if_pos ⟨c.1, by omega⟩]; omega
    · omega
theorem scS_len {σ : sg_S} {A : aT} {go : List Int → Int → Int → Int → Prop} {n : Int} (hg : ∀ es x b b' L, fT A [x] L → go es x b b' → b' + 1 ≤ b + L.length) : ∀ (R : List Int) (s : Nat) (es : List Int) (b b' : Int) (L : List Int), fT A R L → scS σ A go n s es b R b' → b' + od A n (s + R.length) ≤ b + L.length + od A n s
  | [], s, es, b, b', L, hf, h => by
    simp only [scS] at h
    have := fT_nil hf
    subst this
    simp only [List.length_nil, Nat.add_zero]
    omega
  | x :: R, s, es, b, b', L, hf, h => by
    obtain ⟨L1, L2, e1, w1, w2, w3⟩ := fT_inv hf
    subst e1
    simp only [scS] at h
    obtain ⟨h1, b2, h2, h3⟩ := h
    have k1 := hg _ _ _ _ _ (fT_one w1 w2) h2
    have k2 := scS_len hg R _ _ _ _ L2 w3 h3
    have k3 := od_s A n s b
    simp only [List.length_cons, List.length_append] at k1 ⊢
    rw [show s + (R.length + 1) = s + 1 + R.length by omega]
    omega
theorem scN_len {σ : sg_S} {A : aT} {cl : Int} : ∀ (f : Nat) (es : List Int) (n b b' : Int) (L : List Int), fT A [n] L → scN σ A cl f es n b b' → b' + 1 ≤ b + L.length
  | 0, _, _, _, _, _, _, h => h.elim
  | f + 1, es, n, b, b', L, hf, h => by
    obtain ⟨L1, L2, e1, w1, w2, w3⟩ := fT_inv hf
    have e2 := fT_nil w3
    subst e2
    rw [List.append_nil] at e1
    subst e1
    obtain ⟨L', k1, k2⟩ := fT_perm (kOrd_p A n) w2
    have := scS_len (fun es x b b' L => scN_len f es x b b' L) _ _ _ _ _ L' k1 h.2.2.2
    have l := k2.length_eq
    have z : od A n 0 = 0 := by
      unfold od
      rw [if_neg (by omega)]
      split <;> rfl
    rw [z] at this
    simp only [List.length_cons]
    omega
/-- own orders from stage s on -/
def oRq (A : aT) (n : Int) : Nat → List Int → Nat
  | _, [] => (cnc A n).length
  | s, _ :: R => (ahd A n s).length + oRq A n (s + 1) R
theorem oR_app (A : aT) (n : Int) : ∀ (R R' : List Int) (s : Nat), (∀ j, s ≤ j → j < s + R.length → ahd A n j = []) → oRq A n s (R ++ R') = oRq A n (s + R.length) R'
  | [], R', s, _ => rfl
  | x :: R, R', s, h => by
    simp only [List.cons_append, oRq, List.length_cons]
    rw [h s (Nat.le_refl _) (by simp), oR_app A n R R' (s + 1) (fun j a b => h j (by omega) (by simp only [List.length_cons]; omega)), show s + 1 + R.length = s + (R.length + 1) by omega]
    simp
theorem cnc_l (A : aT) (n : Int) : (cnc A n).length ≤ 1 ∨ A.2.1 n = 15 := by
  unfold cnc
  repeat' split
  all_goals first | (left; simp; done) | (right; assumption)
theorem oR_le {A : aT} {n : Int} (hw : nW A n) : oRq A n 0 (kOrd A n) ≤ 4 := by
  obtain ⟨w1, w2, w3, w4, w5, w6, w7, w8⟩ := id hw
  have hl := kOrd_len A n
  by_cases c15 : A.2.1 n = 15
  · have w7' := w7 c15
    obtain ⟨bd, tl, hk2⟩ : ∃ bd tl, A.2.2.2.2.1 n = bd :: tl := by
      match hh : A.2.2.2.2.1 n with
      | bd :: tl => exact ⟨bd, tl, rfl⟩
      | [] => rw [hh] at w7'; simp only [List.length_nil] at w7'; omega
    have ho : kOrd A n = tl.take (A.2.2.2.2.2 n).length ++ (tl.drop (A.2.2.2.2.2 n).length ++ [bd]) := by
      unfold kOrd; rw [if_pos c15, hk2, ← List.append_assoc, List.take_append_drop]; rfl
    rw [hk2] at w7'
    simp only [List.length_cons] at w7'
    have lt : (tl.take (A.2.2.2.2.2 n).length).length = (A.2.2.2.2.2 n).length := by rw [List.length_take]; omega
    rw [ho, oR_app _ _ _ _ _ (fun j a b => by rw [lt] at b; unfold ahd; rw [if_neg (by omega), if_neg (by omega), if_neg (by omega), if_neg (by omega)]), lt, Nat.zero_add]
    have hc : (cnc A n).length = 2 := by unfold cnc; rw [if_neg (by omega), if_neg (by omega), if_neg (by omega), if_pos c15]; rfl
    have hd : (tl.drop (A.2.2.2.2.2 n).length).length ≤ 1 := by rw [List.length_drop]; omega
    have a1 : ∀ s, (ahd A n s).length ≤ 1 := fun s => by
      unfold ahd
      repeat' split
      all_goals simp
    match hh : tl.drop (A.2.2.2.2.2 n).length with
    | [] => simp only [List.nil_append, oRq, hc]; have := a1 (A.2.2.2.2.2 n).length; omega
    | [x] => simp only [List.cons_append, List.nil_append, oRq, hc]; have := a1 (A.2.2.2.2.2 n).length; have := a1 ((A.2.2.2.2.2 n).length + 1); omega
    | _ :: _ :: _ => rw [hh] at hd; simp at hd
  · have hc : (cnc A n).length ≤ 1 := by
      rcases cnc_l A n with z | z
      · exact z
      · exact absurd z c15
    have a1 : ∀ s, (ahd A n s).length ≤ 1 := fun s => by
      unfold ahd
      repeat' split
      all_goals simp
    by_cases c3 : A.2.1 n = 3 ∨ A.2.1 n = 2
    · have l3 : (kOrd A n).length ≤ 3 := by
        rcases c3 with c | c
        · have := w4 c; omega
        · have := w3 (Or.inl c); omega
      match hh : kOrd A n with
      | [] => simp only [oRq]; omega
      | [_] => simp only [oRq]; have := a1 0; omega
      | [_, _] => simp only [oRq]; have := a1 0; have := a1 (0 + 1); omega
      | [_, _, _] => simp only [oRq]; have := a1 0; have := a1 (0 + 1); have := a1 (0 + 1 + 1); omega
      | _ :: _ :: _ :: _ :: _ => rw [hh] at l3; simp at l3
    · have := oR_app A n (kOrd A n) [] 0 (fun j _ _ => (kQ_o (s := j) (fun z => c3 (Or.inr z)) (fun z => c3 (Or.inl z)) c15).1)
      rw [List.append_nil] at this
      rw [this]
      simp only [oRq]; omega
theorem cdS_len {A : aT} {go : Int → List (Int × Int)} {n : Int} (hg : ∀ x L, fT A [x] L → (go x).length ≤ 5 * L.length) : ∀ (R : List Int) (s : Nat) (L : List Int), fT A R L → (cdS A go n s R).length + (cnc A n).length ≤ oRq A n s R + 5 * L.length
  | [], s, L, hf => by simp only [cdS, oRq, List.length_nil]; omega
  | x :: R, s, L, hf => by
    obtain ⟨L1, L2, e1, w1, w2, w3⟩ := fT_inv hf
    subst e1
    have k1 := hg x _ (fT_one w1 w2)
    have k2 := cdS_len (n := n) hg R (s + 1) L2 w3
    simp only [cdS, oRq, List.length_cons, List.length_append] at k1 ⊢
    omega
theorem cd_len {A : aT} : ∀ (f : Nat) (n : Int) (L : List Int), fT A [n] L → (cd A f n).length ≤ 5 * L.length
  | 0, n, L, hf => by simp [cd]
  | f + 1, n, L, hf => by
    obtain ⟨L1, L2, e1, w1, w2, w3⟩ := fT_inv hf
    have e2 := fT_nil w3
    subst e2
    rw [List.append_nil] at e1
    subst e1
    obtain ⟨L', k1, k2⟩ := fT_perm (kOrd_p A n) w2
    have := cdS_len (n := n) (fun x L => cd_len f x L) (kOrd A n) 0 L' k1
    have l := k2.length_eq
    have o := oR_le w1
    simp only [cd, List.length_cons, List.length_append]
    omega
