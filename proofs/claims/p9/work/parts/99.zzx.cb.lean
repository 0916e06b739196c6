/-! open, ahead a third time. -/
/-- slots of GENS from b on, the newest first, before es -/
def gP : Int → List (Int × Int) → kE → kE
  | _, [], es => es
  | b, g :: r, es => gP (b + 1) r ((g.1, b) :: es)
/-- names known from stage s on -/
def eA3 (A : aT) (n : Int) (s : Nat) (es : kE) (b : Int) : kE := if A.2.1 n = 2 ∧ s = 1 then (A.2.2.2.1 n, b) :: es else if A.2.1 n = 15 ∧ s = (A.2.2.2.2.2 n).length then gP b (A.2.2.2.2.2 n) es else es
theorem eA3_no {A : aT} {n : Int} {s : Nat} (h : kNo A n s) (es : kE) (b : Int) : eA3 A n s es b = es := by
  unfold eA3
  rw [if_neg h.1, if_neg h.2]
/-- jumps told ahead of the part with index s -/
def jA (σ : sg_S) (A : aT) (n : Int) (s : Nat) (p : Int) : Prop := (A.2.1 n = 3 → s = 2 → sg_g σ 32 n = p + 1) ∧ (A.2.1 n = 15 → s = (A.2.2.2.2.2 n).length → sg_g σ 32 n = p + 1)
section CK3T
variable {σ : sg_S} {A : aT} {n : Int} {Q : sg_S → Prop}
theorem d3_open {es : kE} {e b p : Int} (h : ckW σ A) (hn : 0 ≤ n ∧ n < A.1) (hw : nW A n) (hk : A.2.1 n = 15) (hS : kS3 σ es e b p) (ht : ∀ x ∈ kGs A n, kIn (sg_g σ 6 x)) (he : e + (A.2.2.2.2.2 n).length ≤ 272) (hb : b + (A.2.2.2.2.2 n).length ≤ 272) (hp : p < 1013) (k1 : ∀ σ', ¬ sg_g σ' 38 13 = 0 → Q σ') (k2 : ∀ σ', kS3 σ' (gP b (A.2.2.2.2.2 n) es) (e + (A.2.2.2.2.2 n).length) (b + (A.2.2.2.2.2 n).length) (p + 1) → sg_F [16, 29, 30, 32, 33, 34, 39, 40, 7028, 10038, 11038, 13038, 14038] σ σ' → kU3 σ σ' e b p [n] → (sg_g σ' 29 p = 10 ∧ sg_g σ' 30 p = n) → (sg_g σ' 16 n = b ∧ ∀ (i : Nat) (x : Int), (kGs A n)[i]? = some x → sg_g σ' 34 (b + i) = sg_g σ' 6 x - 1) → (∀ x ∈ kGs A n, 0 < sg_g σ' 6 x) → (sg_g σ' 32 n = p + 1 ∧ sg_g σ' 33 n = sg_g σ 33 n) → Q σ') : V_kOpen σ n Q := by
  obtain ⟨p0, p1, p2, p3, p4, p5, p6⟩ := ckW_p h hn
  obtain ⟨n1, n2, n3, n4, n5, n6, n7, n8⟩ := id hw
  have hl := n7 hk
  have hkl := kOrd_len A n
  obtain ⟨e1, e2, e3⟩ := (h.2.2 n hn.1 hn.2).1.2.2.2.2 hk
  have hwn := (h.2.1 n)
  obtain ⟨s1, ⟨s2, s3, s4⟩, s5, s6, s7, s8⟩ := hS
  have hA := h.1
  generalize hgs : A.2.2.2.2.2 n = gs at *
  generalize hxs : kGs A n = xs at *
  have hxl : xs.length = gs.length := by
    rw [← hxs]; unfold kGs; rw [hgs, List.length_take, List.length_drop]; omega
  have hxo : ∀ j : Nat, j < gs.length → (kOrd A n)[j]? = xs[j]? := fun j hj => by
    rw [← hxs]; unfold kOrd kGs; rw [if_pos hk, hgs, List.getElem?_take, if_pos hj, List.getElem?_append_left (by rw [List.length_drop]; omega)]
  have hxk : ∀ (j : Nat) (x : Int), xs[j]? = some x → (A.2.2.2.2.1 n)[1 + j]? = some x := fun j x hj => by
    rw [← hxs] at hj
    unfold kGs at hj
    rw [List.getElem?_take] at hj
    split at hj
    · rw [List.getElem?_drop] at hj; exact hj
    · cases hj
  unfold V_kOpen
  intro σ1 es1
  rw [xp_in ⟨hn.1, by omega⟩, s3] at es1
  have f1 : sg_F [16] σ σ1 := by rw [es1]; exact sg_F_w (sg_F_r _ _) rfl _
  have g16 : sg_g σ1 16 n = b := by rw [es1, sg_gw_e _ _ _ _ ⟨by omega, by omega⟩]
  have o16 : ∀ i, ¬ i = n → sg_g σ1 16 i = sg_g σ 16 i := fun i hi => by rw [es1, sg_gw_k _ _ _ _ _ _ hi]
  rw [p1 13 200 rfl, e1, p1 7 200 rfl]
  refine ⟨fun m v4 v5 v6 σ7 => ∃ (i : Nat) (ev : kE), v6 = i ∧ m = gs.length - i ∧ i ≤ gs.length ∧ (∀ x, (kOrd A n)[i]? = some x → v5 = x) ∧ (¬ v4 = 0 → ∀ (j : Nat) (x : Int), j < i → xs[j]? = some x → 0 < sg_g σ 6 x) ∧ (sg_g σ7 38 9 = e + i ∧ sg_g σ7 38 10 = b + i) ∧ (kmE σ7 (e + i) ev ∧ gP (b + i) (gs.drop i) ev = gP b gs es) ∧ (∀ j, j < e → sg_g σ7 40 j = sg_g σ 40 j ∧ sg_gl σ7 39 j = sg_gl σ 39 j) ∧ (∀ (j : Nat) (x : Int), j < i → xs[j]? = some x → sg_g σ7 34 (b + j) = sg_g σ 6 x - 1) ∧ ∀ s, s < b → sg_g σ7 34 s = sg_g σ 34 s, fun v4 σ7 => (¬ v4 = 0 → ∀ (j : Nat) (x : Int), j < gs.length → xs[j]? = some x → 0 < sg_g σ 6 x) ∧ (sg_g σ7 38 9 = e + gs.length ∧ sg_g σ7 38 10 = b + gs.length) ∧ kmE σ7 (e + gs.length) (gP b gs es) ∧ (∀ j, j < e → sg_g σ7 40 j = sg_g σ 40 j ∧ sg_gl σ7 39 j = sg_gl σ 39 j) ∧ (∀ (j : Nat) (x : Int), j < gs.length → xs[j]? = some x → sg_g σ7 34 (b + j) = sg_g σ 6 x - 1) ∧ ∀ s, s < b → sg_g σ7 34 s = sg_g σ 34 s, ⟨_, 0, es, rfl, rfl, Nat.zero_le _, fun x hx => p3 x hx, fun _ j x hj => by omega, ⟨by rw [sg_F_g f1 (by rfl), s2]; omega, by rw [sg_F_g f1 (by rfl), s3]; omega⟩, ⟨by rw [show e + ((0 : Nat) : Int) = e by omega]; exact kmE_F s5 f1 rfl, by rw [show b + ((0 : Nat) : Int) = b by omega, List.drop_zero]⟩, fun j _ => ⟨sg_F_ga f1 rfl, sg_F_gal f1 rfl⟩, fun j x hj => by omega, fun s _ => sg_F_ga f1 rfl⟩, ?_, ?_⟩
  · rintro m v4 v5 v6 σ7 r4 r5 r6 fr ⟨i, ev, rfl, em, hi, hv5, a0, ⟨a1, a2⟩, ⟨a3, a3'⟩, a4, a5, a6⟩
    have fin : gs.length ≤ i → (¬ v4 = 0 → ∀ (j : Nat) (x : Int), j < gs.length → xs[j]? = some x → 0 < sg_g σ 6 x) ∧ (sg_g σ7 38 9 = e + gs.length ∧ sg_g σ7 38 10 = b + gs.length) ∧ kmE σ7 (e + gs.length) (gP b gs es) ∧ (∀ j, j < e → sg_g σ7 40 j = sg_g σ 40 j ∧ sg_gl σ7 39 j = sg_gl σ 39 j) ∧ (∀ (j : Nat) (x : Int), j < gs.length → xs[j]? = some x → sg_g σ7 34 (b + j) = sg_g σ 6 x - 1) ∧ ∀ s, s < b → sg_g σ7 34 s = sg_g σ 34 s := fun hgi => by
      have : i = gs.length := by omega
      subst this
      rw [List.drop_eq_nil_of_le (Nat.le_refl _)] at a3'
      simp only [gP] at a3'
      rw [← a3']
      exact ⟨a0, ⟨a1, a2⟩, a3, a4, a5, a6⟩
    refine ⟨fun d => fin (by omega), fun d => ⟨fun d2 => fin (by omega), fun d2 => ?_⟩⟩
    obtain ⟨x, hx⟩ : ∃ x, xs[i]? = some x := ⟨_, List.getElem?_eq_getElem (by omega)⟩
    obtain ⟨y, hy⟩ : ∃ y, gs[i]? = some y := ⟨_, List.getElem?_eq_getElem (by omega)⟩
    have hxo' : (kOrd A n)[i]? = some x := by rw [hxo i (by omega)]; exact hx
    have ex := hv5 x hxo'
    subst ex
    have xr := p6 v5 (List.mem_of_getElem? hxo')
    obtain ⟨g1, g2⟩ := e3 i y v5 hy (hxk i v5 hx)
    have wy := hwn.2.1 y (List.mem_of_getElem? hy)
    have tx := ht v5 (List.mem_of_getElem? hx)
    have tx1 := tx.1
    have tx2 := tx.2
    rw [xl_in xr, g1, xa_in (a := 6) xr, xa_in (a := 9) xr]
    refine ⟨fun m' v43 σ44 => m' = (272 - v43).toNat ∧ (e ≤ v43 ∧ v43 ≤ 272), fun _ => True, ⟨_, rfl, by omega, by omega⟩, ?_, ?_⟩
    · rintro m' v43 σ44 r43 fr44 ⟨em', hj1, hj2⟩
      refine ⟨fun _ => True.intro, fun y => ⟨fun _ => True.intro, fun y2 => ⟨fun _ => ⟨⟨by omega, by omega⟩, _, ?_, rfl, by omega, by omega⟩, fun _ => d_blame (by decide) (fun σ' _ _ _ => ⟨⟨by omega, by omega⟩, _, ?_, rfl, by omega, by omega⟩)⟩⟩⟩
      · omega
      · omega
    · intro σ44 f44 _
      refine ⟨⟨fun _ => trivial, fun _ => ⟨fun _ => trivial, fun _ => trivial⟩⟩, fun v60 e60 r60 => ⟨⟨by omega, by omega⟩, ?_⟩⟩
      refine d3_bind (es := ev) (e := e + i) (b := b + i) (kmE_F a3 f44 rfl) (by rw [sg_F_g f44 (by rfl)]; exact a1) (by rw [sg_F_g f44 (by rfl)]; exact a2) ⟨⟨by omega, by omega⟩, by omega, by omega⟩ wy.1 (by rw [← g1]; exact sg_Rgl _ _ _) ⟨by omega, by omega⟩ (fun σ65 f65 c1 c2 c3 c4 c5 c6 _ _ => ⟨⟨by omega, by omega⟩, gs.length - (i + 1), by omega, i + 1, (y.1, b + i) :: ev, by omega, rfl, by omega, fun y hy => p5 i v5 y hxo' hy, fun zz j x hj hx' => ?_, ⟨by rw [c1]; omega, by rw [c2]; omega⟩, ⟨by rw [show e + ((i + 1 : Nat) : Int) = e + i + 1 by omega]; exact c3, ?_⟩, fun j hj => ?_, fun j x hj hx' => ?_, fun s hs => ?_⟩)
      · rw [e60] at zz
        have z4 : ¬ v4 = 0 := fun q => zz (by rw [if_pos q])
        rw [if_neg z4] at zz
        by_cases c : j = i
        · subst c
          rw [hx] at hx'
          have e := Option.some.inj hx'
          subst e
          by_cases q : sg_g σ 6 v5 ≤ 0
          · exact absurd (by rw [if_pos q]) zz
          · omega
        · exact a0 z4 j x (by omega) hx'
      · rw [← a3', dr_c hy]
        simp only [gP]
        rw [show b + ((i + 1 : Nat) : Int) = b + i + 1 by omega]
      · obtain ⟨t1, t2⟩ := c4 j (by omega)
        rw [t1, t2, sg_F_ga f44 rfl, sg_F_gal f44 rfl]; exact a4 j hj
      · by_cases c : j = i
        · subst c
          rw [hx] at hx'
          have := Option.some.inj hx'
          rw [c5, this]
        · rw [c6 _ (by omega), sg_F_ga f44 rfl]; exact a5 j x (by omega) hx'
      · rw [c6 _ (by omega), sg_F_ga f44 rfl]; exact a6 s hs
  · rintro v4 σ7 r4 f7 ⟨a0, ⟨a1, a2⟩, a3, a4, a5, a6⟩
    refine ⟨fun σ26 => ¬ sg_g σ26 38 13 = 0 ∨ (σ26 = σ7 ∧ sg_g σ7 38 13 = 0 ∧ ¬ v4 = 0), ⟨fun zv => ?_, fun _ => d_blame (by decide) (fun σ' z _ _ => Or.inl z)⟩, fun σ26 f26 h26 => ?_⟩
    · by_cases c : sg_g σ7 38 13 = 0
      · exact Or.inr ⟨rfl, c, zv⟩
      · exact Or.inl c
    · have q26 : sg_g σ26 28 6 = p := by rw [sg_F_g f26 (by rfl), sg_F_g f7 (by rfl), sg_F_g f1 (by rfl)]; exact s4
      refine d3_add (p := p) q26 ⟨s8, hp⟩ (by decide) ⟨by omega, by omega⟩ (fun _ => ⟨hn.1, by omega⟩) (fun σ30 f30 d1 d2 d3 d4 d5 _ => ?_)
      rcases h26 with z | ⟨z1, z2, z3⟩
      · exact k1 σ30 (by rw [sg_F_g f30 (by rfl)]; exact z)
      · subst z1
        have f17 : sg_F [34, 39, 40, 10038, 11038, 13038, 14038] σ1 σ26 := f7
        have FF : sg_F [16, 29, 30, 32, 33, 34, 39, 40, 7028, 10038, 11038, 13038, 14038] σ σ30 := sg_F_t (sg_F_t (sg_F_m f1 rfl) (sg_F_m f17 rfl)) (sg_F_m f30 rfl)
        have f126 : sg_F [16, 34, 39, 40, 10038, 11038, 13038, 14038] σ σ26 := sg_F_t (sg_F_m f1 rfl) (sg_F_m f17 rfl)
        refine k2 σ30 ⟨by rw [sg_F_g f30 (by rfl)]; exact z2, ⟨by rw [sg_F_g f30 (by rfl)]; exact a1, by rw [sg_F_g f30 (by rfl)]; exact a2, d1⟩, kmE_F a3 f30 rfl, by omega, by omega, by omega⟩ FF ⟨fun x hx => ⟨⟨sg_F_ga FF rfl, ?_, ?_, ?_⟩, sg_F_ga FF rfl, sg_F_ga FF rfl, sg_F_ga FF rfl, sg_F_ga FF rfl⟩, fun s hs => by rw [sg_F_ga f30 rfl, a6 s hs], fun i hi => by rw [sg_F_ga f30 rfl, sg_F_gal f30 rfl]; exact a4 i hi, fun i hi => ?_⟩ ⟨d2, d3⟩ ⟨by rw [sg_F_ga f30 rfl, sg_F_ga f17 rfl]; exact g16, fun i x hx => ?_⟩ (fun x hx => ?_) ⟨?_, ?_⟩
        · rw [sg_F_ga f30 rfl, sg_F_ga f17 rfl]; exact o16 x (by simpa using hx)
        · rw [(jQ_n d5 x (by simpa using hx)).1, sg_F_ga f126 rfl]
        · rw [(jQ_n d5 x (by simpa using hx)).2, sg_F_ga f126 rfl]
        · obtain ⟨t1, t2⟩ := d4 i (by omega)
          rw [t1, t2, sg_F_ga f17 rfl, sg_F_ga f1 rfl, sg_F_ga f17 rfl, sg_F_ga f1 rfl]
          exact ⟨rfl, rfl⟩
        · rw [sg_F_ga f30 rfl, a5 i x (by have := gE_l hx; omega) hx, show sg_g σ30 6 x = sg_g σ 6 x from sg_F_ga FF rfl]
        · obtain ⟨j, hj⟩ := List.getElem?_of_mem hx
          rw [show sg_g σ30 6 x = sg_g σ 6 x from sg_F_ga FF rfl]
          exact a0 z3 j x (by have := gE_l hj; omega) hj
        · rw [d5.1, if_pos ⟨Or.inr rfl, rfl⟩]
        · rw [d5.2, if_neg (fun z => by omega), sg_F_ga f126 rfl]
theorem d3_ahead {es : kE} {e b p : Int} {s : Nat} (h : ckW σ A) (hn : 0 ≤ n ∧ n < A.1) (hw : nW A n) (hs : s < (kOrd A n).length) (hS : kS3 σ es e b p) (ht : ∀ x ∈ (kOrd A n).take s, kIn (sg_g σ 6 x)) (he : e + (bA A n s b - b) ≤ 272) (hb : bA A n s b ≤ 272) (hp : p + (ahd A n s).length ≤ 1013) (k1 : ∀ σ', ¬ sg_g σ' 38 13 = 0 → Q σ') (k2 : ∀ σ', kS3 σ' (eA3 A n s es b) (e + (bA A n s b - b)) (bA A n s b) (p + (ahd A n s).length) → sg_F ahL σ σ' → kU3 σ σ' e b p [n] → pC σ' p (ahd A n s) → cA σ' A n s b → (kNo A n s → sg_g σ' 16 n = sg_g σ 16 n) → (A.2.1 n = 15 → s = (A.2.2.2.2.2 n).length → ∀ x ∈ kGs A n, 0 < sg_g σ' 6 x) → (jA σ' A n s p ∧ (¬ (A.2.1 n = 3 ∧ s = 2) → ¬ (A.2.1 n = 15 ∧ s = (A.2.2.2.2.2 n).length) → sg_g σ' 32 n = sg_g σ 32 n) ∧ sg_g σ' 33 n = sg_g σ 33 n) → Q σ') : V_kAhead σ n s Q := by
  obtain ⟨p0, p1, p2, p3, p4, p5, p6⟩ := ckW_p h hn
  obtain ⟨n1, n2, n3, n4, n5, n6, n7, n8⟩ := id hw
  have hkl := kOrd_len A n
  obtain ⟨q2, q3, q15, q1, q13⟩ := kmp_q n1
  obtain ⟨s1, ⟨s2, s3, s4⟩, s5, s6, s7, s8⟩ := id hS
  have hA := h.1
  have n200 : sg_R n := ⟨by omega, by omega⟩
  have hkd : sx_at σ 3 200 n = kmp (A.2.1 n) := by rw [p1 3 200 rfl]; exact (h.2.2 n hn.1 hn.2).1.1
  have cAno : ∀ σ', kNo A n s → cA σ' A n s b := fun σ' z => ⟨fun a c => absurd ⟨a, c⟩ z.1, fun a c => absurd ⟨a, c⟩ z.2⟩
  -- no order
  have stay0 : kNo A n s → ¬ (A.2.1 n = 3 ∧ s = 2) → ahd A n s = [] → Q σ := fun z z3 ha => by
    obtain ⟨x1, x2⟩ := esA_no z [] b
    refine k2 σ ?_ (sg_F_r _ _) (kU3_r _ _ _ _ _) (by rw [ha]; exact pC_0 _ _) (cAno σ z) (fun _ => rfl) (fun a c => absurd ⟨a, c⟩ z.2) ⟨⟨fun a c => absurd ⟨a, c⟩ z3, fun a c => absurd ⟨a, c⟩ z.2⟩, fun _ _ => rfl, rfl⟩
    rw [eA3_no z, x2, ha, List.length_nil, show e + (b - b) = e by omega, show p + ((0 : Nat) : Int) = p by omega]
    exact hS
  -- one order
  have stay1 : ∀ o, sg_R o → (o = 8 ↔ A.2.1 n = 3 ∧ s = 2) → (¬ o = 9 ∧ ¬ o = 10 ∧ ¬ o = 12) → kNo A n s → ahd A n s = [(o, n)] → V_kpAdd σ o n (fun σ7 => sg_F [29, 30, 32, 33, 7028] σ σ7 → Q σ7) := fun o ro o8 o9 z ha => by
    obtain ⟨x1, x2⟩ := esA_no z [] b
    rw [ha] at hp
    simp only [List.length_cons, List.length_nil] at hp
    refine d3_add (p := p) s4 ⟨s8, by omega⟩ ro n200 (fun _ => ⟨hn.1, by omega⟩) (fun σ' f d1 d2 d3 d4 d5 _ => ?_)
    have j33 : ∀ y, sg_g σ' 33 y = sg_g σ 33 y := fun y => by rw [d5.2, if_neg (fun z => by omega)]
    refine k2 σ' ?_ (sg_F_m f rfl) ⟨fun x hx => ⟨⟨sg_F_ga f rfl, sg_F_ga f rfl, (jQ_n d5 x (by simpa using hx)).1, j33 x⟩, sg_F_ga f rfl, sg_F_ga f rfl, sg_F_ga f rfl, sg_F_ga f rfl⟩, fun x _ => sg_F_ga f rfl, fun i _ => ⟨sg_F_ga f rfl, sg_F_gal f rfl⟩, fun i hi => d4 i (by omega)⟩ (by rw [ha]; exact pC_1 d2 d3) (cAno σ' z) (fun _ => sg_F_ga f rfl) (fun a c => absurd ⟨a, c⟩ z.2) ⟨⟨fun a c => ?_, fun a c => absurd ⟨a, c⟩ z.2⟩, fun a _ => ?_, j33 n⟩
    · rw [eA3_no z, x2, ha, List.length_cons, List.length_nil, show e + (b - b) = e by omega, show p + ((0 + 1 : Nat) : Int) = p + 1 by omega]
      exact ⟨by rw [sg_F_g f (by rfl)]; exact s1, ⟨by rw [sg_F_g f (by rfl)]; exact s2, by rw [sg_F_g f (by rfl)]; exact s3, d1⟩, kmE_F s5 f rfl, s6, s7, by omega⟩
    · rw [d5.1, if_pos ⟨Or.inl (o8.mpr ⟨a, c⟩), rfl⟩]
    · rw [d5.1, if_neg]
      rintro ⟨y | y, -⟩
      · exact a (o8.mp y)
      · exact o9.2.1 y
  unfold V_kAhead
  rw [hkd, p1 13 200 rfl]
  by_cases c2 : A.2.1 n = 2
  · have m2 := q2.mpr c2
    rw [m2]
    refine ⟨fun z => absurd rfl z, fun _ => ⟨fun z => ?_, fun z => ?_⟩⟩
    · have kn : kNo A n s := ⟨fun y => z (by omega), fun y => by omega⟩
      have ha : ahd A n s = [] := by unfold ahd; rw [if_neg (by omega), if_neg (by omega), if_neg (by omega), if_neg (by omega)]
      exact ⟨fun _ => ⟨fun _ => ⟨fun _ => stay0 kn (by omega) ha, fun y => absurd y (by decide)⟩, fun y => absurd y (by decide)⟩, fun y => absurd y (by decide)⟩
    · have l2 := n3 (Or.inl c2)
      have s1' : s = 1 := by omega
      subst s1'
      have ha : ahd A n 1 = [(4, n)] := by unfold ahd; rw [if_pos ⟨c2, rfl⟩]
      have be : bA A n 1 b = b + 1 := by unfold bA; rw [if_pos ⟨c2, rfl⟩]
      have ee : eA3 A n 1 es b = (A.2.2.2.1 n, b) :: es := by unfold eA3; rw [if_pos ⟨c2, rfl⟩]
      rw [ha, List.length_cons, List.length_nil] at hp
      rw [be] at he hb
      obtain ⟨x, hx⟩ : ∃ x, (kOrd A n)[0]? = some x := ⟨_, List.getElem?_eq_getElem (by omega)⟩
      have x7 := p3 x hx
      have xm : x ∈ (kOrd A n).take 1 := by
        rw [List.mem_take_iff_getElem]
        have h0 : 0 < (kOrd A n).length := by omega
        refine ⟨0, by omega, ?_⟩
        rw [List.getElem?_eq_getElem h0] at hx
        exact Option.some.inj hx
      have tx := ht x xm
      have hx2 : (A.2.2.2.2.1 n).getD 0 0 = x := by
        have : kOrd A n = A.2.2.2.2.1 n := by unfold kOrd; rw [if_neg (by omega)]
        rw [this] at hx
        rw [List.getD_eq_getElem?_getD, hx]; rfl
      have nm : sx_atl σ 17 200 n = uv (A.2.2.2.1 n) := by
        rw [xl_in ⟨hn.1, by omega⟩]
        exact (h.2.2 n hn.1 hn.2).1.2.2.1 (Or.inr (Or.inl c2))
      have wn := (h.2.1 n).1 (Or.inr (Or.inl c2))
      rw [p1 7 200 rfl, x7, xa_in (p6 x (List.mem_of_getElem? hx)), nm]
      have tx1 := tx.1
      have tx2 := tx.2
      refine d3_bind (es := es) (e := e) (b := b) s5 s2 s3 ⟨⟨s6, by omega⟩, s7, by omega⟩ wn (by rw [← nm, xl_in ⟨hn.1, by omega⟩]; exact sg_Rgl _ _ _) ⟨by omega, by omega⟩ (fun σ' f' b1 b2 b3 b4 b5 b6 rb _ σ131 e131 => ?_)
      rw [xp_in ⟨hn.1, by omega⟩] at e131
      have f131 : sg_F [16] σ' σ131 := by rw [e131]; exact sg_F_w (sg_F_r _ _) rfl _
      refine d3_add (p := p) (by rw [sg_F_g f131 (by rfl), sg_F_g f' (by rfl)]; exact s4) ⟨s8, by omega⟩ (by decide) n200 (fun _ => ⟨hn.1, by omega⟩) (fun σ135 f135 d1 d2 d3 d4 d5 _ => ?_)
      have ff : sg_F [16, 29, 30, 32, 33, 7028] σ' σ135 := sg_F_t (sg_F_m f131 rfl) (sg_F_m f135 rfl)
      have FF : sg_F ahL σ σ135 := sg_F_t (sg_F_m f' rfl) (sg_F_m ff rfl)
      have f1 : sg_F [16, 34, 39, 40, 10038, 11038] σ σ131 := sg_F_t (sg_F_m f' rfl) (sg_F_m f131 rfl)
      have g16 : sg_g σ135 16 n = b := by rw [sg_F_ga f135 rfl, e131, sg_gw_e _ _ _ _ rb]
      have j32 : ∀ y, sg_g σ135 32 y = sg_g σ 32 y := fun y => by rw [d5.1, if_neg (fun z => by omega), sg_F_ga f1 rfl]
      have j33 : ∀ y, sg_g σ135 33 y = sg_g σ 33 y := fun y => by rw [d5.2, if_neg (fun z => by omega), sg_F_ga f1 rfl]
      refine k2 σ135 ?_ FF ⟨fun y hy => ⟨⟨sg_F_ga FF rfl, ?_, j32 y, j33 y⟩, sg_F_ga FF rfl, sg_F_ga FF rfl, sg_F_ga FF rfl, sg_F_ga FF rfl⟩, fun y hy => by rw [sg_F_ga ff rfl, b6 y (by omega)], fun i hi => by rw [sg_F_ga ff rfl, sg_F_gal ff rfl]; exact b4 i (by omega), fun i hi => ?_⟩ (by rw [ha]; exact pC_1 d2 d3) ⟨fun _ _ => ⟨g16, ?_⟩, fun z => by omega⟩ (fun z => absurd ⟨c2, rfl⟩ z.1) (fun z => by omega) ⟨⟨fun z => by omega, fun z => by omega⟩, fun _ _ => j32 n, j33 n⟩
      · rw [ee, be, ha, List.length_cons, List.length_nil, show e + (b + 1 - b) = e + 1 by omega, show p + ((0 + 1 : Nat) : Int) = p + 1 by omega]
        exact ⟨by rw [sg_F_g ff (by rfl), sg_F_g f' (by rfl)]; exact s1, ⟨by rw [sg_F_g ff (by rfl)]; exact b1, by rw [sg_F_g ff (by rfl)]; exact b2, d1⟩, kmE_F b3 ff rfl, by omega, by omega, by omega⟩
      · rw [sg_F_ga f135 rfl, e131, sg_gw_k _ _ _ _ _ _ (by simpa using hy), sg_F_ga f' rfl]
      · obtain ⟨t1, t2⟩ := d4 i (by omega)
        rw [t1, t2, sg_F_ga f131 rfl, sg_F_ga f' rfl, sg_F_ga f131 rfl, sg_F_ga f' rfl]
        exact ⟨rfl, rfl⟩
      · rw [sg_F_ga ff rfl, b5, hx2]
        exact (sg_F_ga FF rfl).symm
  · have m2 : ¬ kmp (A.2.1 n) = 262 := fun z => c2 (q2.mp z)
    refine ⟨fun _ => ?_, fun z => absurd z m2⟩
    by_cases c3 : A.2.1 n = 3
    · have m3 := q3.mpr c3
      rw [m3]
      have kn : kNo A n s := ⟨fun y => by omega, fun y => by omega⟩
      have l3 := n4 c3
      refine ⟨fun z => absurd rfl z, fun _ => ⟨fun z0 => ?_, fun z0 v54 e54 r54 => ?_⟩⟩
      · have ha : ahd A n s = [] := by unfold ahd; rw [if_neg (by omega), if_neg (by omega), if_neg (by omega), if_neg (by omega)]
        exact ⟨fun _ => ⟨fun _ => stay0 kn (by omega) ha, fun y => absurd y (by decide)⟩, fun y => absurd y (by decide)⟩
      · have e54' : (s = 1 ∧ v54 = 7) ∨ (s = 2 ∧ v54 = 8) := by
          by_cases c1 : s = 1
          · rw [if_neg (by omega)] at e54; exact Or.inl ⟨c1, e54⟩
          · rw [if_pos (by omega)] at e54; exact Or.inr ⟨by omega, e54⟩
        refine stay1 v54 r54 ⟨fun y => ⟨c3, by omega⟩, fun y => by omega⟩ ⟨by omega, by omega, by omega⟩ kn ?_
        unfold ahd
        rw [if_neg (by omega), if_pos ⟨c3, by omega⟩]
        rcases e54' with ⟨c1, c4⟩ | ⟨c1, c4⟩
        · rw [if_pos c1, c4]
        · rw [if_neg (by omega), c4]
    · have m3 : ¬ kmp (A.2.1 n) = 264 := fun z => c3 (q3.mp z)
      refine ⟨fun _ => ?_, fun z => absurd z m3⟩
      by_cases c15 : A.2.1 n = 15
      · have m15 := q15.mpr c15
        obtain ⟨e1, e2, e3⟩ := (h.2.2 n hn.1 hn.2).1.2.2.2.2 c15
        have l7 := n7 c15
        rw [m15, e1]
        refine ⟨fun z => absurd rfl z, fun _ => ⟨fun z => ?_, fun z => ?_⟩⟩
        · have kn : kNo A n s := ⟨fun y => by omega, fun y => z (by omega)⟩
          refine ⟨fun y => absurd rfl y, fun _ => ⟨fun z1 => stay0 kn (by omega) ?_, fun z1 => stay1 11 (by decide) ⟨fun y => by omega, fun y => by omega⟩ (by decide) kn ?_⟩⟩
          · unfold ahd; rw [if_neg (by omega), if_neg (by omega), if_neg (by omega), if_neg (by omega)]
          · unfold ahd; rw [if_neg (by omega), if_neg (by omega), if_neg (by omega), if_pos ⟨c15, by omega⟩]
        · have sg : s = (A.2.2.2.2.2 n).length := by omega
          have ha : ahd A n s = [(10, n)] := by unfold ahd; rw [if_neg (by omega), if_neg (by omega), if_pos ⟨c15, sg⟩]
          have be : bA A n s b = b + (A.2.2.2.2.2 n).length := by unfold bA; rw [if_neg (by omega), if_pos ⟨c15, sg⟩]
          have ee : eA3 A n s es b = gP b (A.2.2.2.2.2 n) es := by unfold eA3; rw [if_neg (by omega), if_pos ⟨c15, sg⟩]
          rw [ha, List.length_cons, List.length_nil] at hp
          rw [be] at he hb
          have hgx : ∀ x ∈ kGs A n, x ∈ (kOrd A n).take s := fun x hx => by
            unfold kGs at hx
            unfold kOrd
            rw [if_pos c15, List.take_append_of_le_length (by rw [List.length_drop]; omega), sg]
            exact hx
          refine d3_open h hn hw c15 hS (fun x hx => ht x (hgx x hx)) (by omega) (by omega) (by omega) (fun σ' z _ => k1 σ' z) (fun σ' y1 y2 y3 y4 y5 y6 y7 _ => k2 σ' ?_ y2 y3 (by rw [ha]; exact pC_1 y4.1 y4.2) ⟨fun z => by omega, fun _ _ => y5⟩ (fun z => absurd ⟨c15, sg⟩ z.2) (fun _ _ => y6) ⟨⟨fun z => by omega, fun _ _ => y7.1⟩, fun _ z => absurd ⟨c15, sg⟩ z, y7.2⟩)
          rw [ee, be, ha, List.length_cons, List.length_nil, show e + (b + ((A.2.2.2.2.2 n).length : Int) - b) = e + (A.2.2.2.2.2 n).length by omega, show p + ((0 + 1 : Nat) : Int) = p + 1 by omega]
          exact y1
      · have m15 : ¬ kmp (A.2.1 n) = 123 := fun z => c15 (q15.mp z)
        have kn : kNo A n s := ⟨fun y => c2 y.1, fun y => c15 y.1⟩
        have ha := (kQ_o (s := s) c2 c3 c15).1
        exact ⟨fun _ => ⟨fun _ => stay0 kn (by omega) ha, fun y => absurd y m15⟩, fun y => absurd y m15⟩
end CK3T
