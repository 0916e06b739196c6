/-! open, ahead a third time. -/
/-- slots of GENS from b on, the newest first, before es -/
def gP : Int → List (Int × Int) → kE → kE
  | _, [], es => es
  | b, g :: r, es => gP (b + 1) r ((g.1, b) :: es)
/-- names known from stage s on -/
def eA3 (A : aT) (n : Int) (s : Nat) (es : kE) (b : Int) : kE := if A.2.1 n = 2 ∧ s = 1 then (A.2.2.2.1 n, b) :: es else if A.2.1 n = 15 ∧ s = (A.2.2.2.2.2 n).length then gP b (A.2.2.2.2.2 n) es else es
theorem eA3_no {A : aT} {n : Int} {s : Nat} (h : kNo A n s) (es : kE) (b : Int) : eA3 A n s es b = es := by
  unfold eA3
  rw [if_neg h.1, if_neg h.2]
/-- jumps told ahead of the part with index s -/
def jA (σ : sg_S) (A : aT) (n : Int) (s : Nat) (p : Int) : Prop := (A.2.1 n = 3 → s = 2 → sg_g σ 32 n = p + 1) ∧ (A.2.1 n = 15 → s = (A.2.2.2.2.2 n).length → sg_g σ 32 n = p + 1)
section CK3T
variable {σ : sg_S} {A : aT} {n : Int} {Q : sg_S → Prop}
theorem d3_open {es : kE} {e b p : Int} (h : ckW σ A) (hn : 0 ≤ n ∧ n < A.1) (hw : nW A n) (hk : A.2.1 n = 15) (hS : kS3 σ es e b p) (ht : ∀ x ∈ kGs A n, kIn (sg_g σ 6 x)) (he : e + (A.2.2.2.2.2 n).length ≤ 272) (hb : b + (A.2.2.2.2.2 n).length ≤ 272) (hp : p < 1013) (k1 : ∀ σ', ¬ sg_g σ' 38 13 = 0 → Q σ') (k2 : ∀ σ', kS3 σ' (gP b (A.2.2.2.2.2 n) es) (e + (A.2.2.2.2.2 n).length) (b + (A.2.2.2.2.2 n).length) (p + 1) → sg_F [16, 29, 30, 32, 33, 34, 39, 40, 7028, 10038, 11038, 13038, 14038] σ σ' → kU3 σ σ' e b p [n] → (sg_g σ' 29 p = 10 ∧ sg_g σ' 30 p = n) → (sg_g σ' 16 n = b ∧ ∀ (i : Nat) (x : Int), (kGs A n)[i]? = some x → sg_g σ' 34 (b + i) = sg_g σ' 6 x - 1) → (∀ x ∈ kGs A n, 0 < sg_g σ' 6 x) → (sg_g σ' 32 n = p + 1 ∧ sg_g σ' 33 n = sg_g σ 33 n) → Q σ') : V_kOpen σ n Q := by
  obtain ⟨p0, p1, p2, p3, p4, p5, p6⟩ := ckW_p h hn
  obtain ⟨n1, n2, n3, n4, n5, n6, n7, n8⟩ := id hw
  have hl := n7 hk
  have hkl := kOrd_len A n
  obtain ⟨e1, e2, e3⟩ := (h.2.2 n hn.1 hn.2).1.2.2.2.2 hk
  have hwn := (h.2.1 n)
  obtain ⟨s1, ⟨s2, s3, s4⟩, s5, s6, s7, s8⟩ := hS
  have hA := h.1
  generalize hgs : A.2.2.2.2.2 n = gs at *
  generalize hxs : kGs A n = xs at *
  have hxl : xs.length = gs.length := by
    rw [← hxs]; unfold kGs; rw [hgs, List.length_take, List.length_drop]; omega
  have hxo : ∀ j : Nat, j < gs.length → (kOrd A n)[j]? = xs[j]? := fun j hj => by
    rw [← hxs]; unfold kOrd kGs; rw [if_pos hk, hgs, List.getElem?_take, if_pos hj, List.getElem?_append_left (by rw [List.length_drop]; omega)]
  have hxk : ∀ (j : Nat) (x : Int), xs[j]? = some x → (A.2.2.2.2.1 n)[1 + j]? = some x := fun j x hj => by
    rw [← hxs] at hj
    unfold kGs at hj
    rw [List.getElem?_take] at hj
    split at hj
    · rw [List.getElem?_drop] at hj; exact hj
    · cases hj
  unfold V_kOpen
  intro σ1 es1
  rw [xp_in ⟨hn.1, by omega⟩, s3] at es1
  have f1 : sg_F [16] σ σ1 := by rw [es1]; exact sg_F_w (sg_F_r _ _) rfl _
  have g16 : sg_g σ1 16 n = b := by rw [es1, sg_gw_e _ _ _ _ ⟨by omega, by omega⟩]
  have o16 : ∀ i, ¬ i = n → sg_g σ1 16 i = sg_g σ 16 i := fun i hi => by rw [es1, sg_gw_k _ _ _ _ _ _ hi]
  rw [p1 13 200 rfl, e1, p1 7 200 rfl]
  refine ⟨fun m v4 v5 v6 σ7 => ∃ (i : Nat) (ev : kE), v6 = i ∧ m = gs.length - i ∧ i ≤ gs.length ∧ (∀ x, (kOrd A n)[i]? = some x → v5 = x) ∧ (¬ v4 = 0 → ∀ (j : Nat) (x : Int), j < i → xs[j]? = some x → 0 < sg_g σ 6 x) ∧ (sg_g σ7 38 9 = e + i ∧ sg_g σ7 38 10 = b + i) ∧ (kmE σ7 (e + i) ev ∧ gP (b + i) (gs.drop i) ev = gP b gs es) ∧ (∀ j, j < e → sg_g σ7 40 j = sg_g σ 40 j ∧ sg_gl σ7 39 j = sg_gl σ 39 j) ∧ (∀ (j : Nat) (x : Int), j < i → xs[j]? = some x → sg_g σ7 34 (b + j) = sg_g σ 6 x - 1) ∧ ∀ s, s < b → sg_g σ7 34 s = sg_g σ 34 s, fun v4 σ7 => (¬ v4 = 0 → ∀ (j : Nat) (x : Int), j < gs.length → xs[j]? = some x → 0 < sg_g σ 6 x) ∧ (sg_g σ7 38 9 = e + gs.length ∧ sg_g σ7 38 10 = b + gs.length) ∧ kmE σ7 (e + gs.length) (gP b gs es) ∧ (∀ j, j < e → sg_g σ7 40 j = sg_g σ 40 j ∧ sg_gl σ7 39 j = sg_gl σ 39 j) ∧ (∀ (j : Nat) (x : Int), j < gs.length → xs[j]? = some x → sg_g σ7 34 (b + j) = sg_g σ 6 x - 1) ∧ ∀ s, s < b → sg_g σ7 34 s = sg_g σ 34 s, ⟨_, 0, es, rfl, rfl, Nat.zero_le _, fun x hx => p3 x hx, fun _ j x hj => by omega, ⟨by rw [sg_F_g f1 (by rfl), s2]; omega, by rw [sg_F_g f1 (by rfl), s3]; omega⟩, ⟨by rw [show e + ((0 : Nat) : Int) = e by omega]; exact kmE_F s5 f1 rfl, by rw [show b + ((0 : Nat) : Int) = b by omega, List.drop_zero]⟩, fun j _ => ⟨sg_F_ga f1 rfl, sg_F_gal f1 rfl⟩, fun j x hj => by omega, fun s _ => sg_F_ga f1 rfl⟩, ?_, ?_⟩
  · rintro m v4 v5 v6 σ7 r4 r5 r6 fr ⟨i, ev, rfl, em, hi, hv5, a0, ⟨a1, a2⟩, ⟨a3, a3'⟩, a4, a5, a6⟩
    have fin : gs.length ≤ i → (¬ v4 = 0 → ∀ (j : Nat) (x : Int), j < gs.length → xs[j]? = some x → 0 < sg_g σ 6 x) ∧ (sg_g σ7 38 9 = e + gs.length ∧ sg_g σ7 38 10 = b + gs.length) ∧ kmE σ7 (e + gs.length) (gP b gs es) ∧ (∀ j, j < e → sg_g σ7 40 j = sg_g σ 40 j ∧ sg_gl σ7 39 j = sg_gl σ 39 j) ∧ (∀ (j : Nat) (x : Int), j < gs.length → xs[j]? = some x → sg_g σ7 34 (b + j) = sg_g σ 6 x - 1) ∧ ∀ s, s < b → sg_g σ7 34 s = sg_g σ 34 s := fun hgi => by
      have : i = gs.length := by omega
      subst this
      rw [List.drop_eq_nil_of_le (Nat.le_refl _)] at a3'
      simp only [gP] at a3'
      rw [← a3']
      exact ⟨a0, ⟨a1, a2⟩, a3, a4, a5, a6⟩
    refine ⟨fun d => fin (by omega), fun d => ⟨fun d2 => fin (by omega), fun d2 => ?_⟩⟩
    obtain ⟨x, hx⟩ : ∃ x, xs[i]? = some x := ⟨_, List.getElem?_eq_getElem (by omega)⟩
    obtain ⟨y, hy⟩ : ∃ y, gs[i]? = some y := ⟨_, List.getElem?_eq_getElem (by omega)⟩
    have hxo' : (kOrd A n)[i]? = some x := by rw [hxo i (by omega)]; exact hx
    have ex := hv5 x hxo'
    subst ex
    have xr := p6 v5 (List.mem_of_getElem? hxo')
    obtain ⟨g1, g2⟩ := e3 i y v5 hy (hxk i v5 hx)
    have wy := hwn.2.1 y (List.mem_of_getElem? hy)
    have tx := ht v5 (List.mem_of_getElem? hx)
    have tx1 := tx.1
    have tx2 := tx.2
    rw [xl_in xr, g1, xa_in (a := 6) xr, xa_in (a := 9) xr]
    refine ⟨fun m' v43 σ44 => m' = (272 - v43).toNat ∧ (e ≤ v43 ∧ v43 ≤ 272), fun _ => True, ⟨_, rfl, by omega, by omega⟩, ?_, ?_⟩
    · rintro m' v43 σ44 r43 fr44 ⟨em', hj1, hj2⟩
      refine ⟨fun _ => True.intro, fun y => ⟨fun _ => True.intro, fun y2 => ⟨fun _ => ⟨⟨by omega, by omega⟩, _, ?_, rfl, by omega, by omega⟩, fun _ => d_blame (by decide) (fun σ' _ _ _ => ⟨⟨by omega, by omega⟩, _, ?_, rfl, by omega, by omega⟩)⟩⟩⟩
      · omega
      · omega
    · intro σ44 f44 _
      refine ⟨⟨fun _ => trivial, fun _ => ⟨fun _ => trivial, fun _ => trivial⟩⟩, fun v60 e60 r60 => ⟨⟨by omega, by omega⟩, ?_⟩⟩
      refine d3_bind (es := ev) (e := e + i) (b := b + i) (kmE_F a3 f44 rfl) (by rw [sg_F_g f44 (by rfl)]; exact a1) (by rw [sg_F_g f44 (by rfl)]; exact a2) ⟨⟨by omega, by omega⟩, by omega, by omega⟩ wy.1 (by rw [← g1]; exact sg_Rgl _ _ _) ⟨by omega, by omega⟩ (fun σ65 f65 c1 c2 c3 c4 c5 c6 _ _ => ⟨⟨by omega, by omega⟩, gs.length - (i + 1), by omega, i + 1, (y.1, b + i) :: ev, by omega, rfl, by omega, fun y hy => p5 i v5 y hxo' hy, fun zz j x hj hx' => ?_, ⟨by rw [c1]; omega, by rw [c2]; omega⟩, ⟨by rw [show e + ((i + 1 : Nat) : Int) = e + i + 1 by omega]; exact c3, ?_⟩, fun j hj => ?_, fun j x hj hx' => ?_, fun s hs => ?_⟩)
      · rw [e60] at zz
        have z4 : ¬ v4 = 0 := fun q => zz (by rw [if_pos q])
        rw [if_neg z4] at zz
        by_cases c : j = i
        · subst c
          rw [hx] at hx'
          have e := Option.some.inj hx'
          subst e
          by_cases q : sg_g σ 6 v5 ≤ 0
          · exact absurd (by rw [if_pos q]) zz
          · omega
        · exact a0 z4 j x (by omega) hx'
      · rw [← a3', dr_c hy]
        simp only [gP]
        rw [show b + ((i + 1 : Nat) : Int) = b + i + 1 by omega]
      · obtain ⟨t1, t2⟩ := c4 j (by omega)
        rw [t1, t2, sg_F_ga f44 rfl, sg_F_gal f44 rfl]; exact a4 j hj
      · by_cases c : j = i
        · subst c
          rw [hx] at hx'
          have := Option.some.inj hx'
          rw [c5, this]
        · rw [c6 _ (by omega), sg_F_ga f44 rfl]; exact a5 j x (by omega) hx'
      · rw [c6 _ (by omega), sg_F_ga f44 rfl]; exact a6 s hs
  · rintro v4 σ7 r4 f7 ⟨a0, ⟨a1, a2⟩, a3, a4, a5, a6⟩
    refine ⟨fun σ26 => ¬ sg_g σ26 38 13 = 0 ∨ (σ26 = σ7 ∧ sg_g σ7 38 13 = 0 ∧ ¬ v4 = 0), ⟨fun zv => ?_, fun _ => d_blame (by decide) (fun σ' z _ _ => Or.inl z)⟩, fun σ26 f26 h26 => ?_⟩
    · by_cases c : sg_g σ7 38 13 = 0
      · exact Or.inr ⟨rfl, c, zv⟩
      · exact Or.inl c
    · have q26 : sg_g σ26 28 6 = p := by rw [sg_F_g f26 (by rfl), sg_F_g f7 (by rfl), sg_F_g f1 (by rfl)]; exact s4
      refine d3_add (p := p) q26 ⟨s8, hp⟩ (by decide) ⟨by omega, by omega⟩ (fun _ => ⟨hn.1, by omega⟩) (fun σ30 f30 d1 d2 d3 d4 d5 _ => ?_)
      rcases h26 with z | ⟨z1, z2, z3⟩
      · exact k1 σ30 (by rw [sg_F_g f30 (by rfl)]; exact z)
      · subst z1
        have f17 : sg_F [34, 39, 40, 10038, 11038, 13038, 14038] σ1 σ26 := f7
        have FF : sg_F [16, 29, 30, 32, 33, 34, 39, 40, 7028, 10038, 11038, 13038, 14038] σ σ30 := sg_F_t (sg_F_t (sg_F_m f1 rfl) (sg_F_m f17 rfl)) (sg_F_m f30 rfl)
        have f126 : sg_F [16, 34, 39, 40, 10038, 11038, 13038, 14038] σ σ26 := sg_F_t (sg_F_m f1 rfl) (sg_F_m f17 rfl)
        refine k2 σ30 ⟨by rw [sg_F_g f30 (by rfl)]; exact z2, ⟨by rw [sg_F_g f30 (by rfl)]; exact a1, by rw [sg_F_g f30 (by rfl)]; exact a2, d1⟩, kmE_F a3 f30 rfl, by omega, by omega, by omega⟩ FF ⟨fun x hx => ⟨⟨sg_F_ga FF rfl, ?_, ?_, ?_⟩, sg_F_ga FF rfl, sg_F_ga FF rfl, sg_F_ga FF rfl, sg_F_ga FF rfl⟩, fun s hs => by rw [sg_F_ga f30 rfl, a6 s hs], fun i hi => by rw [sg_F_ga f30 rfl, sg_F_gal f30 rfl]; exact a4 i hi, fun i hi => ?_⟩ ⟨d2, d3⟩ ⟨by rw [sg_F_ga f30 rfl, sg_F_ga f17 rfl]; exact g16, fun i x hx => ?_⟩ (fun x hx => ?_) ⟨?_, ?_⟩
        · rw [sg_F_ga f30 rfl, sg_F_ga f17 rfl]; exact o16 x (by simpa using hx)
        · rw [(jQ_n d5 x (by simpa using hx)).1, sg_F_ga f126 rfl]
        · rw [(jQ_n d5 x (by simpa using hx)).2, sg_F_ga f126 rfl]
        · obtain ⟨t1, t2⟩ := d4 i (by omega)
          rw [t1, t2, sg_F_ga f17 rfl, sg_F_ga f1 rfl, sg_F_ga f17 rfl, sg_F_ga f1 rfl]
          exact ⟨rfl, rfl⟩
        · rw [sg_F_ga f30 rfl, a5 i x (by have := gE_l hx; omega) hx, show sg_g σ30 6 x = sg_g σ 6 x from sg_F_ga FF rfl]
        · obtain ⟨j, hj⟩ := List.getElem?_of_mem hx
          rw [show sg_g σ30 6 x = sg_g σ 6 x from sg_F_ga FF rfl]
          exact a0 z3 j x (by have := gE_l hj; omega) hj
        · rw [d5.1, if_pos ⟨Or.inr rfl, rfl⟩]
        · rw [d5.2, if_neg (fun z => by omega), sg_F_ga f126 rfl]
theorem d3_ahead {es : kE} {e b p : Int} {s : Nat} (h : ckW σ A) (hn : 0 ≤ n ∧ n < A.1) (hw : nW A n) (hs : s < (kOrd A n).length) (hS : kS3 σ es e b p) (ht : ∀ x ∈ (kOrd A n).take s, kIn (sg_g σ 6 x)) (he : e + (bA A n s b - b) ≤ 272) (hb : bA A n s b ≤ 272) (hp : p + (ahd A n s).length ≤ 1013) (k1 : ∀ σ', ¬ sg_g σ' 38 13 = 0 → Q σ') (k2 : ∀ σ', kS3 σ' (eA3 A n s es b) (e + (bA A n s b - b)) (bA A n s b) (p + (ahd A n s).length) → sg_F ahL σ σ' → kU3 σ σ' e b p [n] → pC σ' p (ahd A n s) → cA σ' A n s b → (kNo A n s → sg_g σ' 16 n = sg_g σ 16 n) → (A.2.1 n = 15 → s = (A.2.2.2.2.2 n).length → ∀ x ∈ kGs A n, 0 < sg_g σ' 6 x) → (jA σ' A n s p ∧ (¬ (A.2.1 n = 3 ∧ s = 2) → ¬ (A.2.1 n = 15 ∧ s = (A.2.2.2.2.2 n).length) → sg_g σ' 32 n = sg_g σ 32 n) ∧ sg_g σ' 33 n = sg_g σ 33 n) → Q σ') : V_kAhead σ n s Q := by
  obtain ⟨p0, p1, p2, p3, p4, p5, p6⟩ := ckW_p h hn
  obtain ⟨n1, n2, n3, n4, n5, n6, n7, n8⟩ := id hw
  have hkl := kOrd_len A n
  obtain ⟨q2, q3, q15, q1, q13⟩ := kmp_q n1
  obtain ⟨s1, ⟨s2, s3, s4⟩, s5, s6, s7, s8⟩ := id hS
  have hA := h.1
  have n200 : sg_R n := ⟨by omega, by omega⟩
  have hkd : sx_at σ 3 200 n = kmp (A.2.1 n) := by rw [p1 3 200 rfl]; exact (h.2.2 n hn.1 hn.2).1.1
  have cAno : ∀ σ', kNo A n s → cA σ' A n s b := fun σ' z => ⟨fun a c => absurd ⟨a, c⟩ z.1, fun a c => absurd ⟨a, c⟩ z.2⟩
  -- no order
  have stay0 : kNo A n s → ¬ (A.2.1 n = 3 ∧ s = 2) → ahd A n s = [] → Q σ := fun z z3 ha => by
    obtain ⟨x1, x2⟩ := esA_no z [] b
    refine k2 σ ?_ (sg_F_r _ _) (kU3_r _ _ _ _ _) (by rw [ha]; exact pC_0 _ _) (cAno σ z) (fun _ => rfl) (fun a c => absurd ⟨a, c⟩ z.2) ⟨⟨fun a c => absurd ⟨a, c⟩ z3, fun a c => absurd ⟨a, c⟩ z.2⟩, fun _ _ => rfl, rfl⟩
    rw [eA3_no z, x2, ha, List.length_nil, show e + (b - b) = e by omega, show p + ((0 : Nat) : Int) = p by omega]
    exact hS
  -- one order
  have stay1 : ∀ o, sg_R o → (o = 8 ↔ A.2.1 n = 3 ∧ s = 2) → (¬ o = 9 ∧ ¬ o = 10 ∧ ¬ o = 12) → kNo A n s → ahd A n s = [(o, n)] → V_kpAdd σ o n (fun σ7 => sg_F [29, 30, 32, 33, 7028] σ σ7 → Q σ7) := fun o ro o8 o9 z ha => by
    obtain ⟨x1, x2⟩ := esA_no z [] b
    rw [ha] at hp
    simp only [List.length_cons, List.length_nil] at hp
    refine d3_add (p := p) s4 ⟨s8, by omega⟩ ro n200 (fun _ => ⟨hn.1, by omega⟩) (fun σ' f d1 d2 d3 d4 d5 _ => ?_)
    have j33 : ∀ y, sg_g σ' 33 y = sg_g σ 33 y := fun y => by rw [d5.2, if_neg (fun z => by omega)]
    refine k2 σ' ?_ (sg_F_m f rfl) ⟨fun x hx => ⟨⟨sg_F_ga f rfl, sg_F_ga f rfl, (jQ_n d5 x (by simpa using hx)).1, j33 x⟩, sg_F_ga f rfl, sg_F_ga f rfl, sg_F_ga f rfl, sg_F_ga f rfl⟩, fun x _ => sg_F_ga f rfl, fun i _ => ⟨sg_F_ga f rfl, sg_F_gal f rfl⟩, fun i hi => d4 i (by omega)⟩ (by rw [ha]; exact pC_1 d2 d3) (cAno σ' z) (fun _ => sg_F_ga f rfl) (fun a c => absurd ⟨a, c⟩ z.2) ⟨⟨fun a c => ?_, fun a c => absurd ⟨a, c⟩ z.2⟩, fun a _ => ?_, j33 n⟩
    · rw [eA3_no z, x2, ha, List.length_cons, List.length_nil, show e + (b - b) = e by omega, show p + ((0 + 1 : Nat) : Int) = p + 1 by omega]
      exact ⟨by rw [sg_F_g f (by rfl)]; exact s1, ⟨by rw [sg_F_g f (by rfl)]; exact s2, by rw [sg_F_g f (by rfl)]; exact s3, d1⟩, kmE_F s5 f rfl, s6, s7, by omega⟩
    · rw [d5.1, if_pos ⟨Or.inl (o8.mpr ⟨a, c⟩), rfl⟩]
    · rw [d5.1, if_neg]
      rintro ⟨y | y, -⟩
      · exact a (o8.mp y)
      · exact o9.2.1 y
  unfold V_kAhead
  rw [hkd, p1 13 200 rfl]
  by_cases c2 : A.2.1 n = 2
  · have m2 := q2.mpr c2
    rw [m2]
    refine ⟨fun z => absurd rfl z, fun _ => ⟨fun z => ?_, fun z => ?_⟩⟩
    · have kn : kNo A n s := ⟨fun y => z (by omega), fun y => by omega⟩
      have ha : ahd A n s = [] := by unfold ahd; rw [if_neg (by omega), if_neg (by omega), if_neg (by omega), if_neg (by omega)]
      exact ⟨fun _ => ⟨fun _ => ⟨fun _ => stay0 kn (by omega) ha, fun y => absurd y (by decide)⟩, fun y => absurd y (by decide)⟩, fun y => absurd y (by decide)⟩
    · have l2 := n3 (Or.inl c2)
      have s1' : s = 1 := by omega
      subst s1'
      have ha : ahd A n 1 = [(4, n)] := by unfold ahd; rw [if_pos ⟨c2, rfl⟩]
      have be : bA A n 1 b = b + 1 := by unfold bA; rw [if_pos ⟨c2, rfl⟩]
      have ee : eA3 A n 1 es b = (A.2.2.2.1 n, b) :: es := by unfold eA3; rw [if_pos ⟨c2, rfl⟩]
      rw [ha, List.length_cons, List.length_nil] at hp
      rw [be] at he hb
      obtain ⟨x, hx⟩ : ∃ x, (kOrd A n)[0]? = some x := ⟨_, List.getElem?_eq_getElem (by omega)⟩
      have x7 := p3 x hx
      have xm : x ∈ (kOrd A n).take 1 := by
        rw [List.mem_take_iff_getElem]
        have h0 : 0 < (kOrd A n).length := by omega
        refine ⟨0, by omega, ?_⟩
        rw [List.getElem?_eq_getElem h0] at hx
        exact Option.some.inj hx
      have tx := ht x xm
      have hx2 : (A.2.2.2.2.1 n).getD 0 0 = x := by
        have : kOrd A n = A.2.2.2.2.1 n := by unfold kOrd; rw [if_neg (by omega)]
        rw [this] at hx
        rw [List.getD_eq_getElem?_getD, hx]; rfl
      have nm : sx_atl σ 17 200 n = uv (A.2.2.2.1 n) := by
        rw [xl_in ⟨hn.1, by omega⟩]
        exact (h.2.2 n hn.1 hn.2).1.2.2.1 (Or.inr (Or.inl c2))
      have wn := (h.2.1 n).1 (Or.inr (Or.inl c2))
      rw [p1 7 200 rfl, x7, xa_in (p6 x (List.mem_of_getElem? hx)), nm]
      have tx1 := tx.1
      have tx2 := tx.2
      refine d3_bind (es := es) (e := e) (b := b) s5 s2 s3 ⟨⟨s6, by omega⟩, s7, by omega⟩ wn (by rw [← nm, xl_in ⟨hn.1, by omega⟩]; exact sg_Rgl _ _ _) ⟨by omega, by omega⟩ (fun σ' f' b1 b2 b3 b4 b5 b6 rb _ σ131 e131 => ?_)
      rw [xp_in ⟨hn.1, by omega⟩] at e131
      have f131 : sg_F [16] σ' σ131 := by rw [e131]; exact sg_F_w (sg_F_r _ _) rfl _
      refine d3_add (p := p) (by rw [sg_F_g f131 (by rfl), sg_F_g f' (by rfl)]; exact s4) ⟨s8, by omega⟩ (by decide) n200 (fun _ => ⟨hn.1, by omega⟩) (fun σ135 f135 d1 d2 d3 d4 d5 _ => ?_)
      have ff : sg_F [16, 29, 30, 32, 33, 7028] σ' σ135 := sg_F_t (sg_F_m f131 rfl) (sg_F_m f135 rfl)
      have FF : sg_F ahL σ σ135 := sg_F_t (sg_F_m f' rfl) (sg_F_m ff rfl)
      have f1 : sg_F [16, 34, 39, 40, 10038, 11038] σ σ131 := sg_F_t (sg_F_m f' rfl) (sg_F_m f131 rfl)
      have g16 : sg_g σ135 16 n = b := by rw [sg_F_ga f135 rfl, e131, sg_gw_e _ _ _ _ rb]
      have j32 : ∀ y, sg_g σ135 32 y = sg_g σ 32 y := fun y => by rw [d5.1, if_neg (fun z => by omega), sg_F_ga f1 rfl]
      have j33 : ∀ y, sg_g σ135 33 y = sg_g σ 33 y := fun y => by rw [d5.2, if_neg (fun z => by omega), sg_F_ga f1 rfl]
      refine k2 σ135 ?_ FF ⟨fun y hy => ⟨⟨sg_F_ga FF rfl, ?_, j32 y, j33 y⟩, sg_F_ga FF rfl, sg_F_ga FF rfl, sg_F_ga FF rfl, sg_F_ga FF rfl⟩, fun y hy => by rw [sg_F_ga ff rfl, b6 y (by omega)], fun i hi => by rw [sg_F_ga ff rfl, sg_F_gal ff rfl]; exact b4 i (by omega), fun i hi => ?_⟩ (by rw [ha]; exact pC_1 d2 d3) ⟨fun _ _ => ⟨g16, ?_⟩, fun z => by omega⟩ (fun z => absurd ⟨c2, rfl⟩ z.1) (fun z => by omega) ⟨⟨fun z => by omega, fun z => by omega⟩, fun _ _ => j32 n, j33 n⟩
      · rw [ee, be, ha, List.length_cons, List.length_nil, show e + (b + 1 - b) = e + 1 by omega, show p + ((0 + 1 : Nat) : Int) = p + 1 by omega]
        exact ⟨by rw [sg_F_g ff (by rfl), sg_F_g f' (by rfl)]; exact s1, ⟨by rw [sg_F_g ff (by rfl)]; exact b1, by rw [sg_F_g ff (by rfl)]; exact b2, d1⟩, kmE_F b3 ff rfl, by omega, by omega, by omega⟩
      · rw [sg_F_ga f135 rfl, e131, sg_gw_k _ _ _ _ _ _ (by simpa using hy), sg_F_ga f' rfl]
      · obtain ⟨t1, t2⟩ := d4 i (by omega)
        rw [t1, t2, sg_F_ga f131 rfl, sg_F_ga f' rfl, sg_F_ga f131 rfl, sg_F_ga f' rfl]
        exact ⟨rfl, rfl⟩
      · rw [sg_F_ga ff rfl, b5, hx2]
        exact (sg_F_ga FF rfl).symm
  · have m2 : ¬ kmp (A.2.1 n) = 262 := fun z => c2 (q2.mp z)
    refine ⟨fun _ => ?_, fun z => absurd z m2⟩
    by_cases c3 : A.2.1 n = 3
    · have m3 := q3.mpr c3
      rw [m3]
      have kn : kNo A n s := ⟨fun y => by omega, fun y => by omega⟩
      have l3 := n4 c3
      refine ⟨fun z => absurd rfl z, fun _ => ⟨fun z0 => ?_, fun z0 v54 e54 r54 => ?_⟩⟩
      · have ha : ahd A n s = [] := by unfold ahd; rw [if_neg (by omega), if_neg (by omega), if_neg (by omega), if_neg (by omega)]
        exact ⟨fun _ => ⟨fun _ => stay0 kn (by omega) ha, fun y => absurd y (by decide)⟩, fun y => absurd y (by decide)⟩
      · have e54' : (s = 1 ∧ v54 = 7) ∨ (s = 2 ∧ v54 = 8) := by
          by_cases c1 : s = 1
          · rw [if_neg (by omega)] at e54; exact Or.inl ⟨c1, e54⟩
          · rw [if_pos (by omega)] at e54; exact Or.inr ⟨by omega, e54⟩
        refine stay1 v54 r54 ⟨fun y => ⟨c3, by omega⟩, fun y => by omega⟩ ⟨by omega, by omega, by omega⟩ kn ?_
        unfold ahd
        rw [if_neg (by omega), if_pos ⟨c3, by omega⟩]
        rcases e54' with ⟨c1, c4⟩ | ⟨c1, c4⟩
        · rw [if_pos c1, c4]
        · rw [if_neg (by omega), c4]
    · have m3 : ¬ kmp (A.2.1 n) = 264 := fun z => c3 (q3.mp z)
      refine ⟨fun _ => ?_, fun z => absurd z m3⟩
      by_cases c15 : A.2.1 n = 15
      · have m15 := q15.mpr c15
        obtain ⟨e1, e2, e3⟩ := (h.2.2 n hn.1 hn.2).1.2.2.2.2 c15
        have l7 := n7 c15
        rw [m15, e1]
        refine ⟨fun z => absurd rfl z, fun _ => ⟨fun z => ?_, fun z => ?_⟩⟩
        · have kn : kNo A n s := ⟨fun y => by omega, fun y => z (by omega)⟩
          refine ⟨fun y => absurd rfl y, fun _ => ⟨fun z1 => stay0 kn (by omega) ?_, fun z1 => stay1 11 (by decide) ⟨fun y => by omega, fun y => by omega⟩ (by decide) kn ?_⟩⟩
          · unfold ahd; rw [if_neg (by omega), if_neg (by omega), if_neg (by omega), if_neg (by omega)]
          · unfold ahd; rw [if_neg (by omega), if_neg (by omega), if_neg (by omega), if_pos ⟨c15, by omega⟩]
        · have sg : s = (A.2.2.2.2.2 n).length := by omega
          have ha : ahd A n s = [(10, n)] := by unfold ahd; rw [if_neg (by omega), if_neg (by omega), if_pos ⟨c15, sg⟩]
          have be : bA A n s b = b + (A.2.2.2.2.2 n).length := by unfold bA; rw [if_neg (by omega), if_pos ⟨c15, sg⟩]
          have ee : eA3 A n s es b = gP b (A.2.2.2.2.2 n) es := by unfold eA3; rw [if_neg (by omega), if_pos ⟨c15, sg⟩]
          rw [ha, List.length_cons, List.length_nil] at hp
          rw [be] at he hb
          have hgx : ∀ x ∈ kGs A n, x ∈ (kOrd A n).take s := fun x hx => by
            unfold kGs at hx
            unfold kOrd
            rw [if_pos c15, List.take_append_of_le_length (by rw [List.length_drop]; omega), sg]
            exact hx
          refine d3_open h hn hw c15 hS (fun x hx => ht x (hgx x hx)) (by omega) (by omega) (by omega) (fun σ' z _ => k1 σ' z) (fun σ' y1 y2 y3 y4 y5 y6 y7 _ => k2 σ' ?_ y2 y3 (by rw [ha]; exact pC_1 y4.1 y4.2) ⟨fun z => by omega, fun _ _ => y5⟩ (fun z => absurd ⟨c15, sg⟩ z.2) (fun _ _ => y6) ⟨⟨fun z => by omega, fun _ _ => y7.1⟩, fun _ z => absurd ⟨c15, sg⟩ z, y7.2⟩)
          rw [ee, be, ha, List.length_cons, List.length_nil, show e + (b + ((A.2.2.2.2.2 n).length : Int) - b) = e + (A.2.2.2.2.2 n).length by omega, show p + ((0 + 1 : Nat) : Int) = p + 1 by omega]
          exact y1
      · have m15 : ¬ kmp (A.2.1 n) = 123 := fun z => c15 (q15.mp z)
        have kn : kNo A n s := ⟨fun y => c2 y.1, fun y => c15 y.1⟩
        have ha := (kQ_o (s := s) c2 c3 c15).1
        exact ⟨fun _ => ⟨fun _ => stay0 kn (by omega) ha, fun y => absurd y m15⟩, fun y => absurd y m15⟩
end CK3T
/-! enter, conclude, leave a third time. -/
section CK5T
variable {σ : sg_S} {A : aT} {n : Int} {Q : sg_S → Prop}
theorem d3_enter {es : kE} {e b p : Int} (hn : 0 ≤ n ∧ n < 200) (hS : kS3 σ es e b p) (hp : p < 1013) (k : ∀ σ', kS3 σ' es e b (p + 1) → sg_F enL σ σ' → kU3 σ σ' e b p [n] → (sg_g σ' 29 p = 0 ∧ sg_g σ' 30 p = n) → sg_g σ' 16 n = b → (sg_g σ' 43 n = sg_g σ 7 n ∧ sg_g σ' 44 n = 0 ∧ sg_g σ' 41 n = e) → Q σ') : V_kEnter σ n Q := by
  obtain ⟨s1, ⟨s2, s3, s4⟩, s5, s6, s7, s8⟩ := id hS
  unfold V_kEnter
  refine ⟨fun _ => ?_, fun z => absurd s1 z⟩
  refine d3_add (p := p) s4 ⟨s8, hp⟩ (by decide) ⟨by omega, by omega⟩ (fun _ => hn) (fun σ3 f3 d1 d2 d3 d4 d5 _ σ8 e8 σ11 e11 σ14 e14 σ17 e17 => ?_)
  rw [xp_in hn, xa_in hn] at e8
  rw [xp_in hn] at e11
  rw [xp_in hn, s2] at e14
  rw [xp_in hn, s3] at e17
  have r9 : sg_R e := by rw [← s2]; exact sg_Rg _ _ _
  have r10 : sg_R b := by rw [← s3]; exact sg_Rg _ _ _
  have f17 : sg_F [16, 41, 43, 44] σ3 σ17 := by rw [e17, e14, e11, e8]; exact sg_F_w (sg_F_w (sg_F_w (sg_F_w (sg_F_r _ _) rfl _) rfl _) rfl _) rfl _
  have FF : sg_F enL σ σ17 := sg_F_t (sg_F_m f3 rfl) (sg_F_m f17 rfl)
  have g16 : sg_g σ17 16 n = b := by rw [e17, sg_gw_e _ _ _ _ r10]
  have g41 : sg_g σ17 41 n = e := by rw [e17, sg_gw_c _ _ _ _ _ _ (by decide), e14, sg_gw_e _ _ _ _ r9]
  have g44 : sg_g σ17 44 n = 0 := by rw [e17, sg_gw_c _ _ _ _ _ _ (by decide), e14, sg_gw_c _ _ _ _ _ _ (by decide), e11, sg_gw_e _ _ _ _ (by decide)]
  have g43 : sg_g σ17 43 n = sg_g σ 7 n := by rw [e17, sg_gw_c _ _ _ _ _ _ (by decide), e14, sg_gw_c _ _ _ _ _ _ (by decide), e11, sg_gw_c _ _ _ _ _ _ (by decide), e8, sg_gw_e _ _ _ _ (sg_Rg _ _ _)]
  refine k σ17 ⟨by rw [sg_F_g FF (by rfl)]; exact s1, ⟨by rw [sg_F_g FF (by rfl)]; exact s2, by rw [sg_F_g FF (by rfl)]; exact s3, by rw [sg_F_g f17 (by rfl)]; exact d1⟩, kmE_F s5 FF rfl, s6, s7, by omega⟩ FF ⟨fun x hx => ?_, fun s _ => sg_F_ga FF rfl, fun i _ => ⟨sg_F_ga FF rfl, sg_F_gal FF rfl⟩, fun i hi => ?_⟩ ⟨by rw [sg_F_ga f17 rfl]; exact d2, by rw [sg_F_ga f17 rfl]; exact d3⟩ g16 ⟨g43, g44, g41⟩
  · have xn : ¬ x = n := by simpa using hx
    refine ⟨⟨sg_F_ga FF rfl, ?_, ?_, ?_⟩, ?_, sg_F_ga FF rfl, ?_, ?_⟩
    · rw [e17, sg_gw_k _ _ _ _ _ _ xn, e14, sg_gw_c _ _ _ _ _ _ (by decide), e11, sg_gw_c _ _ _ _ _ _ (by decide), e8, sg_gw_c _ _ _ _ _ _ (by decide), sg_F_ga f3 rfl]
    · rw [sg_F_ga f17 rfl]; exact (jQ_n d5 x xn).1
    · rw [sg_F_ga f17 rfl]; exact (jQ_n d5 x xn).2
    · rw [e17, sg_gw_c _ _ _ _ _ _ (by decide), e14, sg_gw_k _ _ _ _ _ _ xn, e11, sg_gw_c _ _ _ _ _ _ (by decide), e8, sg_gw_c _ _ _ _ _ _ (by decide), sg_F_ga f3 rfl]
    · rw [e17, sg_gw_c _ _ _ _ _ _ (by decide), e14, sg_gw_c _ _ _ _ _ _ (by decide), e11, sg_gw_c _ _ _ _ _ _ (by decide), e8, sg_gw_k _ _ _ _ _ _ xn, sg_F_ga f3 rfl]
    · rw [e17, sg_gw_c _ _ _ _ _ _ (by decide), e14, sg_gw_c _ _ _ _ _ _ (by decide), e11, sg_gw_k _ _ _ _ _ _ xn, e8, sg_gw_c _ _ _ _ _ _ (by decide), sg_F_ga f3 rfl]
  · rw [sg_F_ga f17 rfl, sg_F_ga f17 rfl]
    exact d4 i (by omega)
theorem d3_conclude {p : Int} (hw : nW A n) (hn : 0 ≤ n ∧ n < 200) (hp : sg_g σ 28 6 = p) (h0 : 0 ≤ p ∧ p + (cnc A n).length ≤ 1013) (k : ∀ σ', sg_F [29, 30, 32, 33, 7028] σ σ' → sg_g σ' 28 6 = p + (cnc A n).length → pC σ' p (cnc A n) → (∀ i, i < p → sg_g σ' 29 i = sg_g σ 29 i ∧ sg_g σ' 30 i = sg_g σ 30 i) → (∀ y, sg_g σ' 32 y = sg_g σ 32 y) → (∀ y, ¬ y = n → sg_g σ' 33 y = sg_g σ 33 y) → (A.2.1 n = 3 ∨ A.2.1 n = 15 → sg_g σ' 33 n = p + 1) → Q σ') : V_kConclude σ n (kmp (A.2.1 n)) Q := by
  have n1 := hw.1
  obtain ⟨q2, q3, q15, q1, q13⟩ := kmp_q n1
  have n200 : sg_R n := ⟨by omega, by omega⟩
  have one : ∀ o, sg_R o → (¬ o = 8 ∧ ¬ o = 10 ∧ ¬ o = 12) → (o = 9 ↔ A.2.1 n = 3) → ¬ A.2.1 n = 15 → cnc A n = [(o, n)] → V_kpAdd σ o n (fun σ2 => sg_F [29, 30, 32, 33, 7028] σ σ2 → Q σ2) := fun o ro o8 o9 o15 hc => by
    rw [hc, List.length_cons, List.length_nil] at h0
    refine d3_add (p := p) hp ⟨h0.1, by omega⟩ ro n200 (fun _ => hn) (fun σ' f d1 d2 d3 d4 d5 _ => k σ' f ?_ ?_ (fun i hi => d4 i (by omega)) (fun y => ?_) (fun y hy => (jQ_n d5 y hy).2) (fun z => ?_))
    · rw [hc, List.length_cons, List.length_nil, d1]; omega
    · rw [hc]; exact pC_1 d2 d3
    · rw [d5.1, if_neg]
      rintro ⟨z | z, -⟩
      · exact o8.1 z
      · exact o8.2.1 z
    · rcases z with z | z
      · rw [d5.2, if_pos ⟨Or.inl (o9.mpr z), rfl⟩]
      · exact absurd z o15
  unfold V_kConclude
  generalize hK : A.2.1 n = kd at *
  by_cases c15 : kd = 15
  · have hc : cnc A n = [(12, n), (1, n)] := by unfold cnc; rw [hK, if_neg (by omega), if_neg (by omega), if_neg (by omega), if_pos c15]
    rw [hc] at h0 k
    simp only [List.length_cons, List.length_nil] at h0 k
    refine ⟨fun _ => ?_, fun z => absurd (q15.mpr c15) z⟩
    unfold V_kConclude_123
    refine d3_add (p := p) hp ⟨h0.1, by omega⟩ (by decide) n200 (fun _ => hn) (fun σ2 f2 d1 d2 d3 d4 d5 _ => d3_add (p := p + 1) d1 ⟨by omega, by omega⟩ (by decide) n200 (fun _ => hn) (fun σ8 f8 g1 g2 g3 g4 g5 _ => ?_))
    have j32 : ∀ y, sg_g σ8 32 y = sg_g σ 32 y := fun y => by rw [g5.1, if_neg (fun z => by omega), d5.1, if_neg (fun z => by omega)]
    have j33 : ∀ y, sg_g σ8 33 y = sg_g σ2 33 y := fun y => by rw [g5.2, if_neg (fun z => by omega)]
    refine k σ8 (sg_F_t f2 f8) (by rw [g1]; omega) ?_ (fun i hi => ?_) j32 (fun y hy => by rw [j33]; exact (jQ_n d5 y hy).2) (fun _ => by rw [j33, d5.2, if_pos ⟨Or.inr rfl, rfl⟩])
    · refine pC_a (C := [(12, n)]) (C' := [(1, n)]) (pC_1 ?_ ?_) (pC_1 ?_ ?_)
      · rw [(g4 p (by omega)).1]; exact d2
      · rw [(g4 p (by omega)).2]; exact d3
      · exact g2
      · exact g3
    · obtain ⟨t1, t2⟩ := g4 i (by omega)
      rw [t1, t2]; exact d4 i (by omega)
  · refine ⟨fun z => absurd (q15.mp z) c15, fun _ => ?_⟩
    by_cases c0 : kd = 0
    · have hc : cnc A n = [(1, n)] := by unfold cnc; rw [hK, if_neg (by omega), if_neg (by omega), if_neg (by omega), if_neg (by omega), if_pos (Or.inl c0)]
      subst c0
      refine ⟨fun _ => ?_, fun z => absurd rfl z⟩
      unfold V_kConclude_257; exact one 1 (by decide) (by decide) (by decide) (by decide) hc
    by_cases c1 : kd = 1
    · have hc : cnc A n = [(1, n)] := by unfold cnc; rw [hK, if_neg (by omega), if_neg (by omega), if_neg (by omega), if_neg (by omega), if_pos (Or.inr (Or.inl c1))]
      subst c1
      refine ⟨fun z => absurd z (by decide), fun _ => ⟨fun _ => ?_, fun z => absurd rfl z⟩⟩
      unfold V_kConclude_257; exact one 1 (by decide) (by decide) (by decide) (by decide) hc
    by_cases c2 : kd = 2
    · have hc : cnc A n = [] := by unfold cnc; rw [hK, if_pos c2]
      subst c2
      refine ⟨fun z => absurd z (by decide), fun _ => ⟨fun z => absurd z (by decide), fun _ => ⟨fun _ => ?_, fun z => absurd rfl z⟩⟩⟩
      unfold V_kConclude_262
      refine k σ (sg_F_r _ _) ?_ (by rw [hc]; exact pC_0 _ _) (fun _ _ => ⟨rfl, rfl⟩) (fun _ => rfl) (fun _ _ => rfl) (fun z => by omega)
      rw [hc, List.length_nil, hp]; omega
    by_cases c3 : kd = 3
    · have hc : cnc A n = [(9, n)] := by unfold cnc; rw [hK, if_neg (by omega), if_pos c3]
      subst c3
      refine ⟨fun z => absurd z (by decide), fun _ => ⟨fun z => absurd z (by decide), fun _ => ⟨fun z => absurd z (by decide), fun _ => ⟨fun _ => ?_, fun z => absurd rfl z⟩⟩⟩⟩
      unfold V_kConclude_264; exact one 9 (by decide) (by decide) (by decide) (by decide) hc
    by_cases c14 : kd = 14
    · have hc : cnc A n = [(1, n)] := by unfold cnc; rw [hK, if_neg (by omega), if_neg (by omega), if_neg (by omega), if_neg (by omega), if_pos (Or.inr (Or.inr c14))]
      subst c14
      refine ⟨fun z => absurd z (by decide), fun _ => ⟨fun z => absurd z (by decide), fun _ => ⟨fun z => absurd z (by decide), fun _ => ⟨fun z => absurd z (by decide), fun _ => ⟨fun _ => ?_, fun z => absurd rfl z⟩⟩⟩⟩⟩
      unfold V_kConclude_257; exact one 1 (by decide) (by decide) (by decide) (by decide) hc
    by_cases c13 : kd = 13
    · have hc : cnc A n = [(5, n)] := by unfold cnc; rw [hK, if_neg (by omega), if_neg (by omega), if_pos c13]
      subst c13
      refine ⟨fun z => absurd z (by decide), fun _ => ⟨fun z => absurd z (by decide), fun _ => ⟨fun z => absurd z (by decide), fun _ => ⟨fun z => absurd z (by decide), fun _ => ⟨fun z => absurd z (by decide), fun _ => ⟨fun _ => ?_, fun z => absurd rfl z⟩⟩⟩⟩⟩⟩
      unfold V_kConclude_280; exact one 5 (by decide) (by decide) (by decide) (by decide) hc
    obtain ⟨k1, k257, k279⟩ := kmp_p (k := kd) (by omega)
    refine ⟨fun z => absurd z k257, fun _ => ⟨fun z => absurd (q1.mp z) c1, fun _ => ⟨fun z => absurd (q2.mp z) c2, fun _ => ⟨fun z => absurd (q3.mp z) c3, fun _ => ⟨fun z => absurd z k279, fun _ => ⟨fun z => absurd (q13.mp z) c13, fun _ => ?_⟩⟩⟩⟩⟩⟩
    unfold V_kConclude_d
    intro v4 e4 r4
    have e4' : v4 = 2 ∨ v4 = 3 := by
      rw [e4]; split
      · exact Or.inr rfl
      · exact Or.inl rfl
    refine one v4 r4 ⟨by omega, by omega, by omega⟩ ⟨fun z => by omega, fun z => absurd z c3⟩ c15 ?_
    unfold cnc
    rw [hK, if_neg c2, if_neg c3, if_neg c13, if_neg c15, if_neg (by omega), e4]
    by_cases o : kd = 11 ∨ kd = 16 ∨ (18 ≤ kd ∧ kd ≤ 22) ∨ kd = 24
    · rw [if_pos o, if_neg (fun z => z (k1.mpr o))]
    · rw [if_neg o, if_pos (fun z => o (k1.mp z))]
/-- what resolve leaves -/
def rS3 (σ σ7 : sg_S) (A : aT) (ds : kD) (es0 : kE) (cl n : Int) : Prop := (A.2.1 n = 1 → kFind es0 (A.2.2.2.1 n) = some (sg_g σ7 16 n)) ∧ (A.2.1 n = 13 → kDx ds (A.2.2.2.1 n) = some (sg_g σ7 16 n) ∧ (0 ≤ sg_g σ7 16 n ∧ sg_g σ7 16 n < cl)) ∧ (¬ A.2.1 n = 1 → ¬ A.2.1 n = 13 → sg_g σ7 16 n = sg_g σ 16 n) ∧ (∀ x, ¬ x = n → sg_g σ7 16 x = sg_g σ 16 x)
theorem d3_resolve {ds : kD} {es0 : kE} {e0 cl : Int} (h : ckW σ A) (hn : 0 ≤ n ∧ n < A.1) (hk : A.2.1 n = 1 ∨ A.2.1 n = 13) (h0 : sg_g σ 38 13 = 0) (hE : kmE σ e0 es0) (he : sg_g σ 38 9 = e0) (hb : 0 ≤ e0 ∧ e0 ≤ 272) (hcl : sg_g σ 38 11 = cl) (hd : dsC σ cl ds) (hl : ds.length ≤ 12) (k : ∀ σ', ¬ sg_g σ' 38 13 = 0 ∨ (sg_g σ' 38 13 = 0 ∧ rS3 σ σ' A ds es0 cl n) → sg_F [16, 13038, 14038] σ σ' → Q σ') : V_kResolve σ n (kmp (A.2.1 n)) Q := by
  have hA := h.1.2
  have n200 : 0 ≤ n ∧ n < 200 := by omega
  have nm : sx_atl σ 17 200 n = uv (A.2.2.2.1 n) := by
    rw [xl_in n200]
    exact (h.2.2 n hn.1 hn.2).1.2.2.1 (by omega)
  have wn := (h.2.1 n).1 (by omega)
  unfold V_kResolve
  rw [nm]
  refine ⟨fun v => v = -1 ∨ ((A.2.1 n = 1 → kFind es0 (A.2.2.2.1 n) = some v) ∧ (A.2.1 n = 13 → kDx ds (A.2.2.2.1 n) = some v ∧ (0 ≤ v ∧ v < cl))), ⟨fun z => ?_, fun z => ?_⟩, fun v rv hv => ?_⟩
  · have k13 : A.2.1 n = 13 := by
      rcases hk with y | y
      · rw [y] at z; exact absurd rfl z
      · exact y
    rw [hcl]
    exact d3_dfind hd hl wn (fun _ _ => Or.inl rfl) (fun q x _ q1 q2 q3 _ _ _ => Or.inr ⟨fun y => by omega, fun _ => ⟨q1, q2, q3⟩⟩)
  · have k1' : A.2.1 n = 1 := by
      rcases hk with y | y
      · exact y
      · rw [y] at z; exact absurd z (by decide)
    exact d3_find hE he hb wn (fun _ _ => Or.inl rfl) (fun s hs _ => Or.inr ⟨fun _ => hs, fun y => by omega⟩)
  · refine ⟨fun σ12 => ¬ sg_g σ12 38 13 = 0 ∨ (σ12 = σ ∧ 0 ≤ v), ⟨fun z => Or.inr ⟨rfl, z⟩, fun z => d_blame (by decide) (fun σ' t1 t2 _ => Or.inl t1)⟩, fun σ12 f12 h12 σ15 e15 => ?_⟩
    have f15 : sg_F [16] σ12 σ15 := by rw [e15]; exact xF_p (sg_F_r _ _) rfl _ _ _
    have FF : sg_F [16, 13038, 14038] σ σ15 := sg_F_t (sg_F_m f12 rfl) (sg_F_m f15 rfl)
    rcases h12 with z | ⟨z1, z2⟩
    · exact k σ15 (Or.inl (by rw [sg_F_g f15 (by rfl)]; exact z)) FF
    · subst z1
      rw [xp_in n200] at e15
      have g16 : sg_g σ15 16 n = v := by rw [e15, sg_gw_e _ _ _ _ rv]
      rcases hv with y | y
      · omega
      · exact k σ15 (Or.inr ⟨by rw [sg_F_g f15 (by rfl)]; exact h0, by rw [g16]; exact y.1, by rw [g16]; exact y.2, fun a c => by rcases hk with q | q; exact absurd q a; exact absurd q c, fun x hx => by rw [e15, sg_gw_k _ _ _ _ _ _ hx]⟩) FF
theorem kF_m {w v : Int} : ∀ {es : kE}, kFind es w = some v → ∃ p ∈ es, p.2 = v
  | [], h => by cases h
  | x :: r, h => by
    unfold kFind at h
    split at h
    · exact ⟨x, by simp, Option.some.inj h⟩
    · obtain ⟨p, a, b⟩ := kF_m h
      exact ⟨p, by simp [a], b⟩
theorem d3_leave {ds : kD} {es1 es0 : kE} {L : List Int} {e1 e0 b p cl : Int} (h : ckW σ A) (hn : 0 ≤ n ∧ n < A.1) (hw : nW A n) (ht : ∀ x ∈ A.2.2.2.2.1 n, kIn (sg_g σ 6 x) ∧ ¬ x = n) (hS : kS3 σ es1 e1 b p) (h41 : sg_g σ 41 n = e0) (hb : 0 ≤ e0 ∧ e0 ≤ e1 ∧ e1 ≤ 272) (hes : kmE σ e0 es0) (hE : ∀ s ∈ es0, (0 ≤ s.2 ∧ s.2 < 272) ∧ kIn (sg_g σ 34 s.2)) (hcl : sg_g σ 38 11 = cl) (hds : dsC σ cl ds) (hdl : ds.length ≤ 12) (hD : cDq σ A cl L) (hnL : n ∈ L) (hp : p + (cnc A n).length ≤ 1013) (k1 : ∀ σ', ¬ sg_g σ' 38 13 = 0 → Q σ') (k2 : ∀ σ', kS3 σ' es0 e0 b (p + (cnc A n).length) → sg_F lvL σ σ' → kU3 σ σ' e1 b p [n] → pC σ' p (cnc A n) → kIn (sg_g σ' 6 n) → (A.2.1 n = 1 → kFind es0 (A.2.2.2.1 n) = some (sg_g σ' 16 n)) → (A.2.1 n = 13 → kDx ds (A.2.2.2.1 n) = some (sg_g σ' 16 n)) → (¬ A.2.1 n = 1 → ¬ A.2.1 n = 13 → sg_g σ' 16 n = sg_g σ 16 n) → (sg_g σ' 32 n = sg_g σ 32 n ∧ (A.2.1 n = 3 ∨ A.2.1 n = 15 → sg_g σ' 33 n = p + 1)) → Q σ') : V_kLeave σ n Q := by
  obtain ⟨p0, p1, p2, p3, p4, p5, p6⟩ := ckW_p h hn
  obtain ⟨s1, ⟨s2, s3, s4⟩, s5, s6, s7, s8⟩ := id hS
  have hA := h.1.2
  have n200 : 0 ≤ n ∧ n < 200 := by omega
  obtain ⟨q2, q3, q15, q1, q13⟩ := kmp_q hw.1
  have hkd : sx_at σ 3 200 n = kmp (A.2.1 n) := by rw [p1 3 200 rfl]; exact (h.2.2 n hn.1 hn.2).1.1
  unfold V_kLeave
  intro σ1 x1
  rw [p1 41 200 rfl, h41] at x1
  have f1 : sg_F [10038] σ σ1 := by rw [x1]; exact sg_F_w (sg_F_r _ _) rfl _
  have g9 : sg_g σ1 38 9 = e0 := by rw [x1, sg_gw_e _ _ _ _ ⟨by omega, by omega⟩]
  have z1 : sg_g σ1 38 13 = 0 := by rw [sg_F_g f1 (by rfl)]; exact s1
  rw [hkd]
  have rs : (A.2.1 n = 1 ∨ A.2.1 n = 13) → V_kResolve σ1 n (kmp (A.2.1 n)) (fun σ46 => sg_F [16, 13038, 14038] σ1 σ46 → (¬ sg_g σ46 38 13 = 0 ∨ (sg_g σ46 38 13 = 0 ∧ rS3 σ1 σ46 A ds es0 cl n))) := fun hk => d3_resolve (ckW_F h f1 rfl) hn hk z1 (kmE_F hes f1 rfl) g9 ⟨hb.1, by omega⟩ (by rw [sg_F_g f1 (by rfl)]; exact hcl) (dsC_F f1 rfl hds) hdl (fun σ' y _ _ => y)
  refine ⟨fun σ7 => ¬ sg_g σ7 38 13 = 0 ∨ (sg_g σ7 38 13 = 0 ∧ rS3 σ1 σ7 A ds es0 cl n), ⟨fun z => rs (Or.inl (q1.mp z)), fun z => ⟨fun z2 => Or.inr ⟨z1, fun y => absurd (q1.mpr y) z, fun y => absurd (q13.mpr y) z2, fun _ _ => rfl, fun _ _ => rfl⟩, fun z2 => rs (Or.inr (q13.mp z2))⟩⟩, ?_⟩
  intro σ7 fr7 h7
  have f7 : sg_F [16, 10038, 13038, 14038] σ σ7 := sg_F_t (sg_F_m f1 rfl) (sg_F_m fr7 rfl)
  refine ⟨fun z => ?_, fun z => k1 σ7 z⟩
  rcases h7 with a | ⟨-, r1, r2, r3, r4⟩
  · exact absurd z a
  have T7 : sg_g σ7 6 = sg_g σ 6 := funext fun _ => sg_F_ga f7 rfl
  obtain ⟨ds', hds'⟩ : ∃ ds' : kD, A.2.1 n = 13 → ∃ ps r, kDef ds' (A.2.2.2.1 n) = some (ps, r) ∧ dcQ σ (sg_g σ7 16 n) (ps, r) ∧ (0 ≤ r ∧ r < A.1) ∧ kIn (sg_g σ 6 r) ∧ (r ∉ L ∧ sg_g σ7 16 n < 12) := by
    by_cases c : A.2.1 n = 13
    · obtain ⟨a, ps, r, y1, y2, y3, y4⟩ := hD _ (r2 c).2.1 (r2 c).2.2
      exact ⟨[(A.2.2.2.1 n, ps, r)], fun _ => ⟨ps, r, by simp [kDef], y1, y2, y3, y4, a⟩⟩
    · exact ⟨[], fun y => absurd y c⟩
  refine c_depth (ds := ds') (e := [(A.2.2.2.1 n, sg_g σ 34 (sg_g σ7 16 n))]) (ckW_F h f7 rfl) hn hw (by rw [T7]; exact fun x hx => (ht x hx).1) (fun y => ?_) (fun y => ?_) (fun q hq rq => ?_)
  · obtain ⟨pp, pm, pe⟩ := kF_m (r1 y)
    have m := hE pp pm
    rw [pe] at m
    refine ⟨_, rfl, m.1, ?_, ?_⟩
    · simp only [kFind, if_true]; rw [show sg_g σ7 34 (sg_g σ7 16 n) = sg_g σ 34 (sg_g σ7 16 n) from sg_F_ga f7 rfl]
    · rw [show sg_g σ7 34 (sg_g σ7 16 n) = sg_g σ 34 (sg_g σ7 16 n) from sg_F_ga f7 rfl]; exact m.2
  · obtain ⟨ps, r, y1, y2, y3, y4, y5, y6⟩ := hds' y
    exact ⟨_, ps, r, rfl, ⟨(r2 y).2.1, y6⟩, y1, dcQ_F y2 f7 rfl, by omega, by rw [T7]; exact y4⟩
  · rw [T7] at hq
    refine ⟨fun σ20 => ¬ sg_g σ20 38 13 = 0 ∨ (σ20 = σ7 ∧ 0 ≤ q ∧ q ≤ 3), ⟨fun _ => d_blame (by decide) (fun σ' y _ _ => Or.inl y), fun y => ⟨fun y2 => Or.inr ⟨rfl, y, y2⟩, fun _ => d_blame (by decide) (fun σ' y _ _ => Or.inl y)⟩⟩, fun σ20 f20 h20 σ23 e23 => ?_⟩
    rw [xp_in n200] at e23
    have f23 : sg_F [6] σ20 σ23 := by rw [e23]; exact sg_F_w (sg_F_r _ _) rfl _
    have q23 : sg_g σ23 28 6 = p := by rw [sg_F_g f23 (by rfl), sg_F_g f20 (by rfl), sg_F_g f7 (by rfl)]; exact s4
    refine d3_conclude hw n200 q23 ⟨s8, hp⟩ (fun σ27 f27 d1 d2 d3 d4 d5 d6 _ => ?_)
    rcases h20 with a | ⟨a, aq⟩
    · exact k1 σ27 (by rw [sg_F_g f27 (by rfl), sg_F_g f23 (by rfl)]; exact a)
    · subst a
      have f27' : sg_F [6, 29, 30, 32, 33, 7028] σ20 σ27 := sg_F_t (sg_F_m f23 rfl) (sg_F_m f27 rfl)
      have f23' : sg_F [6, 16, 10038, 13038, 14038] σ σ23 := sg_F_t (sg_F_m f7 rfl) (sg_F_m f23 rfl)
      have FF : sg_F lvL σ σ27 := sg_F_t (sg_F_m f7 rfl) (sg_F_m f27' rfl)
      have g6 : sg_g σ27 6 n = q := by rw [sg_F_ga f27 rfl, e23, sg_gw_e _ _ _ _ rq]
      have o6 : ∀ x, ¬ x = n → sg_g σ27 6 x = sg_g σ 6 x := fun x hx => by rw [sg_F_ga f27 rfl, e23, sg_gw_k _ _ _ _ _ _ hx, sg_F_ga f7 rfl]
      have g16 : ∀ x, sg_g σ27 16 x = sg_g σ20 16 x := fun x => sg_F_ga f27' rfl
      refine k2 σ27 ⟨by rw [sg_F_g f27' (by rfl)]; exact z, ⟨by rw [sg_F_g f27' (by rfl), sg_F_g fr7 (by rfl)]; exact g9, by rw [sg_F_g f27' (by rfl), sg_F_g f7 (by rfl)]; exact s3, d1⟩, kmE_F hes FF rfl, hb.1, s7, by omega⟩ FF ⟨fun x hx => ?_, fun s _ => sg_F_ga FF rfl, fun i _ => ⟨sg_F_ga FF rfl, sg_F_gal FF rfl⟩, fun i hi => ?_⟩ d2 (by rw [g6]; exact aq) (fun y => by rw [g16]; exact r1 y) (fun y => by rw [g16]; exact (r2 y).1) (fun y1 y2 => ?_) ⟨by rw [d4, sg_F_ga f23' rfl], d6⟩
      · have xn : ¬ x = n := by simpa using hx
        refine ⟨⟨o6 x xn, ?_, by rw [d4, sg_F_ga f23' rfl], by rw [d5 x xn, sg_F_ga f23' rfl]⟩, sg_F_ga FF rfl, sg_F_ga FF rfl, sg_F_ga FF rfl, sg_F_ga FF rfl⟩
        rw [g16, r4 x xn, sg_F_ga f1 rfl]
      · obtain ⟨t1, t2⟩ := d3 i hi
        rw [t1, t2, sg_F_ga f23 rfl, sg_F_ga f7 rfl, sg_F_ga f23 rfl, sg_F_ga f7 rfl]
        exact ⟨rfl, rfl⟩
      · rw [g16, r3 y1 y2, sg_F_ga f1 rfl]
end CK5T
/-! THE WALK of the checker a third time. -/
def rsS (σ : sg_S) (A : aT) (go : kE → Int → Prop) (n : Int) : Nat → kE → List Int → Prop
  | _, _, [] => True
  | s, es, x :: r => go (eA3 A n s es (sg_g σ 16 n)) x ∧ rsS σ A go n (s + 1) (eA3 A n s es (sg_g σ 16 n)) r
/-- NAMES and calls of a tree are resolved -/
def rsN (σ : sg_S) (A : aT) (ds : kD) : Nat → kE → Int → Prop
  | 0, _, _ => False
  | f + 1, es, n => (A.2.1 n = 1 → kFind es (A.2.2.2.1 n) = some (sg_g σ 16 n)) ∧ (A.2.1 n = 13 → kDx ds (A.2.2.2.1 n) = some (sg_g σ 16 n)) ∧ rsS σ A (rsN σ A ds f) n 0 es (kOrd A n)
theorem rsS_st {σ σ' : sg_S} {A : aT} {n : Int} {go go' : kE → Int → Prop} {LL : List Int} (h : (∀ j, kNo A n j) ∨ sg_g σ' 16 n = sg_g σ 16 n) (hg : ∀ es x L, fT A [x] L → (∀ y ∈ L, y ∈ LL) → go es x → go' es x) : ∀ (R : List Int) (s : Nat) (es : kE) (L : List Int), fT A R L → (∀ y ∈ L, y ∈ LL) → rsS σ A go n s es R → rsS σ' A go' n s es R
  | [], s, es, L, hf, hL, _ => True.intro
  | x :: R, s, es, L, hf, hL, hh => by
    obtain ⟨L1, L2, e1, w1, w2, w3⟩ := fT_inv hf
    subst e1
    have e : eA3 A n s es (sg_g σ' 16 n) = eA3 A n s es (sg_g σ 16 n) := by
      rcases h with h | h
      · rw [eA3_no (h s), eA3_no (h s)]
      · rw [h]
    simp only [rsS] at hh ⊢
    rw [e]
    exact ⟨hg _ _ (x :: L1) (fT_one w1 w2) (fun y hy => hL y (by rw [← List.cons_append]; exact List.mem_append_left _ hy)) hh.1, rsS_st h hg R (s + 1) _ L2 w3 (fun y hy => hL y (by rw [← List.cons_append]; exact List.mem_append_right _ hy)) hh.2⟩
theorem rsN_st {σ σ' : sg_S} {A : aT} {ds : kD} : ∀ (f : Nat) (es : kE) (n : Int) (L : List Int), fT A [n] L → (∀ x ∈ L, sg_g σ' 16 x = sg_g σ 16 x) → rsN σ A ds f es n → rsN σ' A ds f es n
  | 0, _, _, _, _, _, h => h
  | f + 1, es, n, L, hf, hL, h => by
    obtain ⟨L1, L2, e1, w1, w2, w3⟩ := fT_inv hf
    have e2 := fT_nil w3
    subst e2
    rw [List.append_nil] at e1
    subst e1
    obtain ⟨L', k1, k2⟩ := fT_perm (kOrd_p A n) w2
    have hn := hL n (by simp)
    refine ⟨fun z => by rw [hn]; exact h.1 z, fun z => by rw [hn]; exact h.2.1 z, ?_⟩
    exact rsS_st (LL := L1) (Or.inr hn) (fun es x Lx g1 g2 g3 => rsN_st f es x Lx g1 (fun y hy => hL y (List.mem_cons_of_mem _ (g2 y hy))) g3) (kOrd A n) 0 es L' k1 (fun y hy => k2.mem_iff.mpr hy) h.2.2
theorem jpS_st {σ σ' : sg_S} {A : aT} {n : Int} {f : Nat} {go go' : Int → Int → Prop} {LL : List Int} (h : sg_g σ' 32 n = sg_g σ 32 n) (hg : ∀ x p L, fT A [x] L → (∀ y ∈ L, y ∈ LL) → go x p → go' x p) : ∀ (R : List Int) (s : Nat) (p : Int) (L : List Int), fT A R L → (∀ y ∈ L, y ∈ LL) → jpS σ A f go n s p R → jpS σ' A f go' n s p R
  | [], s, p, L, hf, hL, _ => True.intro
  | x :: R, s, p, L, hf, hL, hh => by
    obtain ⟨L1, L2, e1, w1, w2, w3⟩ := fT_inv hf
    subst e1
    simp only [jpS] at hh ⊢
    rw [h]
    exact ⟨hh.1, hg _ _ (x :: L1) (fT_one w1 w2) (fun y hy => hL y (by rw [← List.cons_append]; exact List.mem_append_left _ hy)) hh.2.1, jpS_st h hg R (s + 1) _ L2 w3 (fun y hy => hL y (by rw [← List.cons_append]; exact List.mem_append_right _ hy)) hh.2.2⟩
theorem jpN_st {σ σ' : sg_S} {A : aT} : ∀ (f : Nat) (n p : Int) (L : List Int), fT A [n] L → (∀ x ∈ L, sg_g σ' 32 x = sg_g σ 32 x ∧ sg_g σ' 33 x = sg_g σ 33 x) → jpN σ A f n p → jpN σ' A f n p
  | 0, _, _, _, _, _, h => h
  | f + 1, n, p, L, hf, hL, h => by
    obtain ⟨L1, L2, e1, w1, w2, w3⟩ := fT_inv hf
    have e2 := fT_nil w3
    subst e2
    rw [List.append_nil] at e1
    subst e1
    obtain ⟨L', k1, k2⟩ := fT_perm (kOrd_p A n) w2
    have hn := hL n (by simp)
    refine ⟨jpS_st (LL := L1) hn.1 (fun x p Lx g1 g2 g3 => jpN_st f x p Lx g1 (fun y hy => hL y (List.mem_cons_of_mem _ (g2 y hy))) g3) (kOrd A n) 0 (p + 1) L' k1 (fun y hy => k2.mem_iff.mpr hy) h.1, fun z => by rw [hn.2]; exact h.2.1 z, fun z => by rw [hn.2]; exact h.2.2 z⟩
section WK2T
variable {σ : sg_S} {A : aT} {X : sg_S → Prop}
/-- a part is entered -/
theorem w3_push {σ15 : sg_S} {m : Nat} {n x e b p : Int} {s : Nat} {es : kE} {R : List Int} (hX : ∀ σ', ¬ sg_g σ' 38 13 = 0 → X σ') (h : ckW σ A) (f : sg_F kwL σ σ15) (hn : 0 ≤ n ∧ n < A.1) (hw : nW A n) (hd : (kOrd A n).drop s = x :: R) (hS : kS3 σ15 es e b p) (h44 : sg_g σ15 44 n = s) (h43 : sg_g σ15 43 n = x) (ht : ∀ y ∈ (kOrd A n).take s, kIn (sg_g σ15 6 y)) (hxn : ¬ x = n) (he : e + (bA A n s b - b) ≤ 272) (hb : bA A n s b ≤ 272) (hp : p + (ahd A n s).length + 1 ≤ 1013) (k : ∀ σ', sg_F kwL σ σ' → kS3 σ' (eA3 A n s es b) (e + (bA A n s b - b)) (bA A n s b) (p + (ahd A n s).length + 1) → kU3 σ15 σ' e b p [n, x] → (sg_g σ' 41 n = sg_g σ15 41 n ∧ sg_g σ' 42 n = sg_g σ15 42 n ∧ sg_g σ' 42 x = n) → (sg_g σ' 44 n = s + 1 ∧ ∀ y, R.head? = some y → sg_g σ' 43 n = y) → (sg_g σ' 29 (p + (ahd A n s).length) = 0 ∧ sg_g σ' 30 (p + (ahd A n s).length) = x) → cA σ' A n s b → (kNo A n s → sg_g σ' 16 n = sg_g σ15 16 n) → sg_g σ' 16 x = bA A n s b → (sg_g σ' 43 x = sg_g σ 7 x ∧ sg_g σ' 44 x = 0 ∧ sg_g σ' 41 x = e + (bA A n s b - b)) → (A.2.1 n = 15 → s = (A.2.2.2.2.2 n).length → ∀ y ∈ kGs A n, 0 < sg_g σ' 6 y) → (jA σ' A n s p ∧ (¬ (A.2.1 n = 3 ∧ s = 2) → ¬ (A.2.1 n = 15 ∧ s = (A.2.2.2.2.2 n).length) → sg_g σ' 32 n = sg_g σ15 32 n) ∧ sg_g σ' 33 n = sg_g σ15 33 n) → kWk σ X m x σ') : kWk σ X (m + 1) n σ15 := by
  have hA := h.1
  have hsl : s < (kOrd A n).length := by
    rcases Nat.lt_or_ge s (kOrd A n).length with q | q
    · exact q
    · rw [List.drop_of_length_le q] at hd; cases hd
  have hx : (kOrd A n)[s]? = some x := by rw [← List.head?_drop, hd]; rfl
  obtain ⟨p0, p1, p2, p3, p4, p5, p6⟩ := ckW_p h hn
  have h15 := ckW_F h f rfl
  have xr := p6 x (List.mem_of_getElem? hx)
  have kl := kOrd_len A n
  have n200 : 0 ≤ n ∧ n < 200 := by omega
  have k200 : (kOrd A n).length ≤ 200 := by
    have := (h.2.2 n hn.1 hn.2).1.2.2.2.1.2.2.2
    rw [p0] at this
    rcases wit_len (f := id) (a := 0) (b := 199) this.1 (fun x hx => ⟨x, (this.2 x hx).1, by have := (this.2 x hx).2; omega, rfl⟩) with z | z
    · omega
    · rw [z]; exact Nat.zero_le _
  refine ⟨fun z => by omega, fun z => absurd hS.1 z, fun _ _ => ?_⟩
  unfold kStp
  rw [xa_in (a := 44) n200, xa_in (a := 43) n200, xa_in (a := 10) n200, h44, h43, p2, xa_in (a := 9) xr]
  refine ⟨fun _ => ?_, fun z => by omega⟩
  refine d3_ahead h15 hn hw hsl hS ht he hb (by omega) (fun σ' z _ => ?_) (fun σ50 y1 y2 y3 y4 y5 y6 y7 y8 _ => ⟨⟨by omega, by omega⟩, fun σ56 e56 σ59 e59 σ62 e62 => ?_⟩)
  · refine ⟨⟨by omega, by omega⟩, fun σ56 e56 σ59 e59 σ62 e62 => ?_⟩
    have f62 : sg_F [42, 43, 44] σ' σ62 := by rw [e62, e59, e56]; exact xF_p (xF_p (xF_p (sg_F_r _ _) rfl _ _ _) rfl _ _ _) rfl _ _ _
    have z' : ¬ sg_g σ62 38 13 = 0 := by rw [sg_F_g f62 (by rfl)]; exact z
    unfold V_kEnter
    exact ⟨fun q => absurd q z', fun _ _ => kWk_f (hX σ62 z') z'⟩
  · rw [xp_in n200] at e56 e59
    rw [xp_in xr] at e62
    have f62 : sg_F [42, 43, 44] σ50 σ62 := by rw [e62, e59, e56]; exact sg_F_w (sg_F_w (sg_F_w (sg_F_r _ _) rfl _) rfl _) rfl _
    have S62 : kS3 σ62 (eA3 A n s es b) (e + (bA A n s b - b)) (bA A n s b) (p + (ahd A n s).length) := kS3_F y1 f62 rfl
    refine d3_enter xr S62 (by omega) (fun σ66 z1 z2 z3 z4 z5 z6 _ => ?_)
    have nx : ¬ n = x := fun z => hxn z.symm
    have zn := z3.1 n (by simpa using nx)
    have g44 : sg_g σ66 44 n = s + 1 := by
      rw [zn.2.2.2.2, e62, sg_gw_c _ _ _ _ _ _ (by decide), e59, sg_gw_c _ _ _ _ _ _ (by decide), e56, sg_gw_e _ _ _ _ ⟨by omega, by omega⟩]
    have g43 : sg_g σ66 43 n = sg_g σ 9 x := by
      rw [zn.2.2.2.1, e62, sg_gw_c _ _ _ _ _ _ (by decide), e59, sg_gw_e _ _ _ _ (sg_Rg _ _ _)]
    have g42 : sg_g σ66 42 x = n := by
      rw [sg_F_ga z2 rfl, e62, sg_gw_e _ _ _ _ ⟨by omega, by omega⟩]
    have g42n : sg_g σ66 42 n = sg_g σ15 42 n := by
      rw [sg_F_ga z2 rfl, e62, sg_gw_k _ _ _ _ _ _ nx, e59, sg_gw_c _ _ _ _ _ _ (by decide), e56, sg_gw_c _ _ _ _ _ _ (by decide), sg_F_ga y2 rfl]
    have g41n : sg_g σ66 41 n = sg_g σ15 41 n := by
      rw [zn.2.1, sg_F_ga f62 rfl, sg_F_ga y2 rfl]
    have F66 : sg_F kwL σ σ66 := sg_F_t f (sg_F_t (sg_F_t (sg_F_m y2 rfl) (sg_F_m f62 rfl)) (sg_F_m z2 rfl))
    have u62 : kU3 σ50 σ62 e b p [n, x] := ⟨fun y hy => by
      have yn : ¬ y = n := fun z => hy (by simp [z])
      have yx : ¬ y = x := fun z => hy (by simp [z])
      refine ⟨⟨sg_F_ga f62 rfl, sg_F_ga f62 rfl, sg_F_ga f62 rfl, sg_F_ga f62 rfl⟩, sg_F_ga f62 rfl, ?_, ?_, ?_⟩
      · rw [e62, sg_gw_k _ _ _ _ _ _ yx, e59, sg_gw_c _ _ _ _ _ _ (by decide), e56, sg_gw_c _ _ _ _ _ _ (by decide)]
      · rw [e62, sg_gw_c _ _ _ _ _ _ (by decide), e59, sg_gw_k _ _ _ _ _ _ yn, e56, sg_gw_c _ _ _ _ _ _ (by decide)]
      · rw [e62, sg_gw_c _ _ _ _ _ _ (by decide), e59, sg_gw_c _ _ _ _ _ _ (by decide), e56, sg_gw_k _ _ _ _ _ _ yn], fun s _ => sg_F_ga f62 rfl, fun i _ => ⟨sg_F_ga f62 rfl, sg_F_gal f62 rfl⟩, fun i _ => ⟨sg_F_ga f62 rfl, sg_F_ga f62 rfl⟩⟩
    have ba := bA_le A n s b
    have U : kU3 σ15 σ66 e b p [n, x] := kU3_t (kU3_t (L := [n, x]) y3 u62 ⟨by omega, by omega⟩ ⟨by omega, by omega⟩ ⟨by omega, by omega⟩ (fun y hy => by simp at hy; simp [hy]) (fun y hy => hy)) z3 ⟨Int.le_refl _, by omega⟩ ⟨Int.le_refl _, by omega⟩ ⟨Int.le_refl _, by omega⟩ (fun y hy => hy) (fun y hy => by simp at hy; simp [hy])
    have g32 : sg_g σ66 32 n = sg_g σ50 32 n := by rw [zn.1.2.2.1, sg_F_ga f62 rfl]
    have g33 : sg_g σ66 33 n = sg_g σ50 33 n := by rw [zn.1.2.2.2, sg_F_ga f62 rfl]
    refine k σ66 F66 z1 U ⟨g41n, g42n, g42⟩ ⟨g44, fun y hy => ?_⟩ z4 ?_ (fun z => ?_) z5 ⟨?_, z6.2.1, z6.2.2⟩ (fun a c y hy => ?_) ⟨⟨fun a c => by rw [g32]; exact y8.1.1 a c, fun a c => by rw [g32]; exact y8.1.2 a c⟩, fun a c => by rw [g32]; exact y8.2.1 a c, by rw [g33]; exact y8.2.2⟩
    · rw [g43]
      refine p5 s x y hx ?_
      rw [← List.head?_drop, ← List.drop_drop, hd]
      exact hy
    · refine ⟨fun c1 c2 => ?_, fun c1 c2 => ?_⟩
      · obtain ⟨t1, t2⟩ := y5.1 c1 c2
        have be : bA A n s b = b + 1 := by unfold bA; rw [if_pos ⟨c1, c2⟩]
        rw [zn.1.2.1, sg_F_ga f62 rfl, z3.2.1 b (by omega), sg_F_ga f62 rfl, sg_F_ga z2 rfl, sg_F_ga f62 rfl]
        exact ⟨t1, t2⟩
      · obtain ⟨t1, t2⟩ := y5.2 c1 c2
        have be : bA A n s b = b + (A.2.2.2.2.2 n).length := by unfold bA; rw [if_neg (by omega), if_pos ⟨c1, c2⟩]
        refine ⟨by rw [zn.1.2.1, sg_F_ga f62 rfl]; exact t1, fun i y hy => ?_⟩
        have hi : i < (A.2.2.2.2.2 n).length := by
          have := gE_l hy
          unfold kGs at this
          rw [List.length_take] at this
          omega
        rw [z3.2.1 _ (by omega), sg_F_ga f62 rfl, sg_F_ga z2 rfl, sg_F_ga f62 rfl]
        exact t2 i y hy
    · rw [zn.1.2.1, sg_F_ga f62 rfl]; exact y6 z
    · rw [z6.1, sg_F_ga f62 rfl, sg_F_ga y2 rfl, sg_F_ga f rfl]
    · rw [sg_F_ga z2 rfl, sg_F_ga f62 rfl]; exact y7 a c y hy
/-- all parts are done -/
theorem w3_pop {σ15 : sg_S} {m : Nat} {n e1 e0 b p cl : Int} {ds : kD} {es1 es0 : kE} {Lw : List Int} (hX : ∀ σ', ¬ sg_g σ' 38 13 = 0 → X σ') (h : ckW σ A) (f : sg_F kwL σ σ15) (hn : 0 ≤ n ∧ n < A.1) (hw : nW A n) (h44 : sg_g σ15 44 n = (kOrd A n).length) (ht : ∀ x ∈ A.2.2.2.2.1 n, kIn (sg_g σ15 6 x) ∧ ¬ x = n) (hS : kS3 σ15 es1 e1 b p) (h41 : sg_g σ15 41 n = e0) (hb : 0 ≤ e0 ∧ e0 ≤ e1 ∧ e1 ≤ 272) (hes : kmE σ15 e0 es0) (hE : ∀ s ∈ es0, (0 ≤ s.2 ∧ s.2 < 272) ∧ kIn (sg_g σ15 34 s.2)) (hcl : sg_g σ 38 11 = cl) (hds : dsC σ cl ds) (hdl : ds.length ≤ 12) (hD : cDq σ15 A cl Lw) (hnL : n ∈ Lw) (hp : p + (cnc A n).length ≤ 1013) (k : ∀ σ', sg_F kwL σ σ' → kS3 σ' es0 e0 b (p + (cnc A n).length) → sg_F lvL σ15 σ' → kU3 σ15 σ' e1 b p [n] → kIn (sg_g σ' 6 n) → (A.2.1 n = 1 → kFind es0 (A.2.2.2.1 n) = some (sg_g σ' 16 n)) → (A.2.1 n = 13 → kDx ds (A.2.2.2.1 n) = some (sg_g σ' 16 n)) → (¬ A.2.1 n = 1 → ¬ A.2.1 n = 13 → sg_g σ' 16 n = sg_g σ15 16 n) → (sg_g σ' 32 n = sg_g σ15 32 n ∧ (A.2.1 n = 3 ∨ A.2.1 n = 15 → sg_g σ' 33 n = p + 1)) → kWk σ X m (sg_g σ15 42 n) σ') : kWk σ X (m + 1) n σ15 := by
  have hA := h.1
  obtain ⟨p0, p1, p2, p3, p4, p5, p6⟩ := ckW_p h hn
  have h15 := ckW_F h f rfl
  have n200 : 0 ≤ n ∧ n < 200 := by omega
  refine ⟨fun z => by omega, fun z => absurd hS.1 z, fun _ _ => ?_⟩
  unfold kStp
  rw [xa_in (a := 44) n200, xa_in (a := 10) n200, h44, p2]
  refine ⟨fun z => by omega, fun _ => ?_⟩
  rw [xa_in (a := 42) n200]
  refine d3_leave (ds := ds) h15 hn hw ht hS h41 hb hes hE (by rw [sg_F_g f (by rfl)]; exact hcl) (dsC_F f rfl hds) hdl hD hnL hp (fun σ' z _ => kWk_f (hX σ' z) z) (fun σ' y1 y2 y3 y4 y5 y6 y7 y8 y9 _ => k σ' (sg_F_t f (sg_F_m y2 rfl)) y1 y2 y3 y5 y6 y7 y8 y9)
theorem cD_u3 {σ1 σ2 : sg_S} {cl e b p : Int} {Lw L : List Int} (h : cDq σ1 A cl Lw) (f1 : sg_F kwL σ σ1) (f2 : sg_F kwL σ σ2) (u : kU3 σ1 σ2 e b p L) (hL : ∀ x ∈ L, x ∈ Lw) : cDq σ2 A cl Lw := fun q a c => by
  obtain ⟨y0, ps, r, ⟨y1, y2, y3, y4⟩, y5, y6, y7⟩ := h q a c
  refine ⟨y0, ps, r, ⟨by rw [sg_F_ga f2 rfl, ← sg_F_ga f1 (a := 23) rfl]; exact y1, fun j y hy => by rw [sg_F_ga f2 rfl, ← sg_F_ga f1 (a := 27) rfl]; exact y2 j y hy, by rw [sg_F_ga f2 rfl, ← sg_F_ga f1 (a := 22) rfl]; exact y3, y4⟩, y5, ?_, y7⟩
  rw [(u.1 r (fun z => y7 (hL r z))).1.1]; exact y6
/-- slots that are known -/
def hEs3 (σ : sg_S) (es : kE) (b : Int) : Prop := ∀ s ∈ es, (0 ≤ s.2 ∧ s.2 < b) ∧ kIn (sg_g σ 34 s.2)
theorem gP_m {y : Int × Int} : ∀ {g : List (Int × Int)} {b : Int} {es : kE}, y ∈ gP b g es → y ∈ es ∨ (b ≤ y.2 ∧ y.2 < b + g.length)
  | [], b, es, h => Or.inl h
  | x :: r, b, es, h => by
    simp only [gP] at h
    simp only [List.length_cons]
    rcases gP_m h with q | q
    · rcases List.mem_cons.mp q with w | w
      · right; rw [w]; simp only; omega
      · exact Or.inl w
    · right; omega
/-- the big step of a node -/
def kB3 (σ : sg_S) (A : aT) (X : sg_S → Prop) (ds : kD) (cl : Int) (Lw : List Int) (f : Nat) : Prop := ∀ (n : Int) (L : List Int) (es : kE) (e b p : Int) (σ15 : sg_S) (m : Nat), fT A [n] L → L.Nodup → (∀ x ∈ L, x ∈ Lw) → L.length ≤ f → sg_F kwL σ σ15 → kS3 σ15 es e b (p + 1) → sg_g σ15 16 n = b → (sg_g σ15 43 n = sg_g σ 7 n ∧ sg_g σ15 44 n = 0 ∧ sg_g σ15 41 n = e) → hEs3 σ15 es b → cDq σ15 A cl Lw → e + L.length ≤ 272 → b + L.length ≤ 272 → p + 5 * L.length ≤ 1013 → (∀ σ' b', sg_F kwL σ σ' → kS3 σ' es e b' (p + (cd A f n).length) → kU3 σ15 σ' e b (p + 1) L → (b ≤ b' ∧ b' + 1 ≤ b + L.length) → rsN σ' A ds f es n → jpN σ' A f n p → kIn (sg_g σ' 6 n) → kWk σ X m (sg_g σ15 42 n) σ') → kWk σ X (m + (2 * L.length - 1)) n σ15
end WK2T
