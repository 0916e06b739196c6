/-! open, ahead, enter once more. -/
section CK3
variable {σ : sg_S} {A : aT} {n : Int} {Q : sg_S → Prop}
theorem d_open {es : List Int} {e b p : Int} (h : ckW σ A) (hn : 0 ≤ n ∧ n < A.1) (hw : nW A n) (hk : A.2.1 n = 15) (hS : kS σ es e b p) (ht : ∀ x ∈ kGs A n, kIn (sg_g σ 6 x)) (he : e + (A.2.2.2.2.2 n).length ≤ 272) (hb : b + (A.2.2.2.2.2 n).length ≤ 272) (hp : p < 1013) (k1 : ∀ σ', ¬ sg_g σ' 38 13 = 0 → Q σ') (k2 : ∀ σ', kS σ' (gsl b (A.2.2.2.2.2 n).length ++ es) (e + (A.2.2.2.2.2 n).length) (b + (A.2.2.2.2.2 n).length) (p + 1) → sg_F [16, 29, 30, 32, 33, 34, 39, 40, 7028, 10038, 11038, 13038, 14038] σ σ' → kU σ σ' e b p [n] → (sg_g σ' 29 p = 10 ∧ sg_g σ' 30 p = n) → (sg_g σ' 16 n = b ∧ ∀ (i : Nat) (x : Int), (kGs A n)[i]? = some x → sg_g σ' 34 (b + i) = sg_g σ' 6 x - 1) → (∀ x ∈ kGs A n, 0 < sg_g σ' 6 x) → Q σ') : V_kOpen σ n Q := by
  obtain ⟨p0, p1, p2, p3, p4, p5, p6⟩ := ckW_p h hn
  obtain ⟨n1, n2, n3, n4, n5, n6, n7, n8⟩ := id hw
  have hl := n7 hk
  have hkl := kOrd_len A n
  obtain ⟨e1, e2, e3⟩ := (h.2.2 n hn.1 hn.2).1.2.2.2.2 hk
  obtain ⟨s1, ⟨s2, s3, s4⟩, s5, s6, s7, s8⟩ := hS
  have hA := h.1
  generalize hgs : A.2.2.2.2.2 n = gs at *
  generalize hxs : kGs A n = xs at *
  have hxl : xs.length = gs.length := by
    rw [← hxs]; unfold kGs; rw [hgs, List.length_take, List.length_drop]; omega
  have hxo : ∀ j : Nat, j < gs.length → (kOrd A n)[j]? = xs[j]? := fun j hj => by
    rw [← hxs]; unfold kOrd kGs; rw [if_pos hk, hgs, List.getElem?_take, if_pos hj, List.getElem?_append_left (by rw [List.length_drop]; omega)]
  unfold V_kOpen
  intro σ1 es1
  rw [xp_in ⟨hn.1, by omega⟩, s3] at es1
  have f1 : sg_F [16] σ σ1 := by rw [es1]; exact sg_F_w (sg_F_r _ _) rfl _
  have g16 : sg_g σ1 16 n = b := by rw [es1, sg_gw_e _ _ _ _ ⟨by omega, by omega⟩]
  have o16 : ∀ i, ¬ i = n → sg_g σ1 16 i = sg_g σ 16 i := fun i hi => by rw [es1, sg_gw_k _ _ _ _ _ _ hi]
  rw [p1 13 200 rfl, e1, p1 7 200 rfl]
  refine ⟨fun m v4 v5 v6 σ7 => ∃ i : Nat, v6 = i ∧ m = gs.length - i ∧ i ≤ gs.length ∧ (∀ x, (kOrd A n)[i]? = some x → v5 = x) ∧ (¬ v4 = 0 → ∀ (j : Nat) (x : Int), j < i → xs[j]? = some x → 0 < sg_g σ 6 x) ∧ (sg_g σ7 38 9 = e + i ∧ sg_g σ7 38 10 = b + i) ∧ (∀ j, e ≤ j → j < e + i → b ≤ sg_g σ7 40 j ∧ sg_g σ7 40 j < b + i) ∧ (∀ j, j < e → sg_g σ7 40 j = sg_g σ 40 j) ∧ (∀ (j : Nat) (x : Int), j < i → xs[j]? = some x → sg_g σ7 34 (b + j) = sg_g σ 6 x - 1) ∧ ∀ s, s < b → sg_g σ7 34 s = sg_g σ 34 s, fun v4 σ7 => (¬ v4 = 0 → ∀ (j : Nat) (x : Int), j < gs.length → xs[j]? = some x → 0 < sg_g σ 6 x) ∧ (sg_g σ7 38 9 = e + gs.length ∧ sg_g σ7 38 10 = b + gs.length) ∧ (∀ j, e ≤ j → j < e + gs.length → b ≤ sg_g σ7 40 j ∧ sg_g σ7 40 j < b + gs.length) ∧ (∀ j, j < e → sg_g σ7 40 j = sg_g σ 40 j) ∧ (∀ (j : Nat) (x : Int), j < gs.length → xs[j]? = some x → sg_g σ7 34 (b + j) = sg_g σ 6 x - 1) ∧ ∀ s, s < b → sg_g σ7 34 s = sg_g σ 34 s, ⟨_, 0, rfl, rfl, Nat.zero_le _, fun x hx => p3 x hx, fun _ j x hj => by omega, ⟨by rw [sg_F_g f1 (by rfl), s2]; omega, by rw [sg_F_g f1 (by rfl), s3]; omega⟩, fun j a b => by omega, fun j _ => sg_F_ga f1 rfl, fun j x hj => by omega, fun s _ => sg_F_ga f1 rfl⟩, ?_, ?_⟩
  · rintro m v4 v5 v6 σ7 r4 r5 r6 fr ⟨i, rfl, em, hi, hv5, a0, ⟨a1, a2⟩, a3, a4, a5, a6⟩
    have fin : gs.length ≤ i → (¬ v4 = 0 → ∀ (j : Nat) (x : Int), j < gs.length → xs[j]? = some x → 0 < sg_g σ 6 x) ∧ (sg_g σ7 38 9 = e + gs.length ∧ sg_g σ7 38 10 = b + gs.length) ∧ (∀ j, e ≤ j → j < e + gs.length → b ≤ sg_g σ7 40 j ∧ sg_g σ7 40 j < b + gs.length) ∧ (∀ j, j < e → sg_g σ7 40 j = sg_g σ 40 j) ∧ (∀ (j : Nat) (x : Int), j < gs.length → xs[j]? = some x → sg_g σ7 34 (b + j) = sg_g σ 6 x - 1) ∧ ∀ s, s < b → sg_g σ7 34 s = sg_g σ 34 s := fun hgi => by
      have : i = gs.length := by omega
      subst this
      exact ⟨a0, ⟨a1, a2⟩, a3, a4, a5, a6⟩
    refine ⟨fun d => fin (by omega), fun d => ⟨fun d2 => fin (by omega), fun d2 => ?_⟩⟩
    obtain ⟨x, hx⟩ : ∃ x, xs[i]? = some x := ⟨_, List.getElem?_eq_getElem (by omega)⟩
    have hxo' : (kOrd A n)[i]? = some x := by rw [hxo i (by omega)]; exact hx
    have ex := hv5 x hxo'
    subst ex
    have xr := p6 v5 (List.mem_of_getElem? hxo')
    have tx := ht v5 (List.mem_of_getElem? hx)
    have tx1 := tx.1
    have tx2 := tx.2
    rw [xa_in (a := 6) xr, xa_in (a := 9) xr]
    refine ⟨fun m' v43 σ44 => m' = (272 - v43).toNat ∧ (e ≤ v43 ∧ v43 ≤ 272), fun _ => True, ⟨_, rfl, by omega, by omega⟩, ?_, ?_⟩
    · rintro m' v43 σ44 r43 fr44 ⟨em', hj1, hj2⟩
      refine ⟨fun _ => True.intro, fun y => ⟨fun _ => True.intro, fun y2 => ⟨fun _ => ⟨⟨by omega, by omega⟩, _, ?_, rfl, by omega, by omega⟩, fun _ => d_blame (by decide) (fun σ' _ _ _ => ⟨⟨by omega, by omega⟩, _, ?_, rfl, by omega, by omega⟩)⟩⟩⟩
      · omega
      · omega
    · intro σ44 f44 _
      refine ⟨⟨fun _ => trivial, fun _ => ⟨fun _ => trivial, fun _ => trivial⟩⟩, fun v60 e60 r60 => ⟨⟨by omega, by omega⟩, ?_⟩⟩
      refine d_bind (e := e + i) (b := b + i) (by rw [sg_F_g f44 (by rfl)]; exact a1) (by rw [sg_F_g f44 (by rfl)]; exact a2) ⟨⟨by omega, by omega⟩, by omega, by omega⟩ ⟨by omega, by omega⟩ (fun σ65 f65 c1 c2 c3 c4 c5 c6 _ _ => ⟨⟨by omega, by omega⟩, gs.length - (i + 1), by omega, i + 1, by omega, rfl, by omega, fun y hy => p5 i v5 y hxo' hy, fun zz j x hj hx' => ?_, ⟨by rw [c1]; omega, by rw [c2]; omega⟩, fun j y1 y2 => ?_, fun j hj => ?_, fun j x hj hx' => ?_, fun s hs => ?_⟩)
      · rw [e60] at zz
        have z4 : ¬ v4 = 0 := fun q => zz (by rw [if_pos q])
        rw [if_neg z4] at zz
        by_cases c : j = i
        · subst c
          rw [hx] at hx'
          have e := Option.some.inj hx'
          subst e
          by_cases q : sg_g σ 6 v5 ≤ 0
          · exact absurd (by rw [if_pos q]) zz
          · omega
        · exact a0 z4 j x (by omega) hx'
      · by_cases c : j = e + i
        · rw [c, c3]; omega
        · rw [c4 j c, sg_F_ga f44 rfl]
          have := a3 j y1 (by omega)
          omega
      · rw [c4 j (by omega), sg_F_ga f44 rfl]; exact a4 j hj
      · by_cases c : j = i
        · subst c
          rw [hx] at hx'
          have := Option.some.inj hx'
          rw [c5, this]
        · rw [c6 _ (by omega), sg_F_ga f44 rfl]; exact a5 j x (by omega) hx'
      · rw [c6 _ (by omega), sg_F_ga f44 rfl]; exact a6 s hs
  · rintro v4 σ7 r4 f7 ⟨a0, ⟨a1, a2⟩, a3, a4, a5, a6⟩
    refine ⟨fun σ26 => ¬ sg_g σ26 38 13 = 0 ∨ (σ26 = σ7 ∧ sg_g σ7 38 13 = 0 ∧ ¬ v4 = 0), ⟨fun zv => ?_, fun _ => d_blame (by decide) (fun σ' z _ _ => Or.inl z)⟩, fun σ26 f26 h26 => ?_⟩
    · by_cases c : sg_g σ7 38 13 = 0
      · exact Or.inr ⟨rfl, c, zv⟩
      · exact Or.inl c
    · have q26 : sg_g σ26 28 6 = p := by rw [sg_F_g f26 (by rfl), sg_F_g f7 (by rfl), sg_F_g f1 (by rfl)]; exact s4
      refine d_add (p := p) q26 ⟨s8, hp⟩ (by decide) ⟨by omega, by omega⟩ (fun σ30 f30 d1 d2 d3 d4 _ => ?_)
      rcases h26 with z | ⟨z1, z2, z3⟩
      · exact k1 σ30 (by rw [sg_F_g f30 (by rfl)]; exact z)
      · subst z1
        have f17 : sg_F [34, 39, 40, 10038, 11038, 13038, 14038] σ1 σ26 := f7
        have FF : sg_F [16, 29, 30, 32, 33, 34, 39, 40, 7028, 10038, 11038, 13038, 14038] σ σ30 := sg_F_t (sg_F_t (sg_F_m f1 rfl) (sg_F_m f17 rfl)) (sg_F_m f30 rfl)
        refine k2 σ30 ⟨by rw [sg_F_g f30 (by rfl)]; exact z2, ⟨by rw [sg_F_g f30 (by rfl)]; exact a1, by rw [sg_F_g f30 (by rfl)]; exact a2, d1⟩, fun i y1 y2 => ?_, by omega, by omega, by omega⟩ FF ⟨fun x hx => ⟨⟨sg_F_ga FF rfl, ?_⟩, sg_F_ga FF rfl, sg_F_ga FF rfl, sg_F_ga FF rfl, sg_F_ga FF rfl⟩, fun s hs => by rw [sg_F_ga f30 rfl, a6 s hs], fun i hi => by rw [sg_F_ga f30 rfl, a4 i hi], fun i hi => ?_⟩ ⟨d2, d3⟩ ⟨by rw [sg_F_ga f30 rfl, sg_F_ga f17 rfl]; exact g16, fun i x hx => ?_⟩ (fun x hx => ?_)
        · rw [sg_F_ga f30 rfl]
          by_cases c : i < e
          · rw [a4 i c]; exact List.mem_append_right _ (s5 i y1 c)
          · exact List.mem_append_left _ (gsl_m.mpr (a3 i (by omega) y2))
        · rw [sg_F_ga f30 rfl, sg_F_ga f17 rfl]; exact o16 x (by simpa using hx)
        · obtain ⟨t1, t2⟩ := d4 i (by omega)
          rw [t1, t2, sg_F_ga f17 rfl, sg_F_ga f1 rfl, sg_F_ga f17 rfl, sg_F_ga f1 rfl]
          exact ⟨rfl, rfl⟩
        · rw [sg_F_ga f30 rfl, a5 i x (by have := gE_l hx; omega) hx, show sg_g σ30 6 x = sg_g σ 6 x from sg_F_ga FF rfl]
        · obtain ⟨j, hj⟩ := List.getElem?_of_mem hx
          rw [show sg_g σ30 6 x = sg_g σ 6 x from sg_F_ga FF rfl]
          exact a0 z3 j x (by have := gE_l hj; omega) hj
end CK3
