/-! slots sealed anew, exactly; narrow of the class. -/
theorem map_inj {f : Int → Int} : ∀ {J : List Int}, (J.map f).Nodup → ∀ y ∈ J, ∀ z ∈ J, f y = f z → y = z
  | [], _, y, hy, _, _, _ => by cases hy
  | j :: J, h, y, hy, z, hz, e => by
    simp only [List.map_cons, List.nodup_cons] at h
    rcases List.mem_cons.mp hy with a | a <;> rcases List.mem_cons.mp hz with b | b
    · rw [a, b]
    · exact absurd (List.mem_map.mpr ⟨z, b, by rw [← e, a]⟩) h.1
    · exact absurd (List.mem_map.mpr ⟨y, a, by rw [e, b]⟩) h.1
    · exact map_inj h.2 y a z b e
theorem nin_t {W : List Int} (hN : W.Nodup) {i : Nat} {x : Int} (hx : W[i]? = some x) : x ∉ W.take i := fun q => by
  have hi := gE_l hx
  obtain ⟨q', hq, e⟩ := List.mem_take_iff_getElem.mp q
  rw [List.getElem?_eq_getElem hi] at hx
  have := (List.getElem_inj hN).mp (e.trans (Option.some.inj hx).symm)
  omega
/-- lanes that are chosen among the first j -/
def whJ (b : Bool) (c : List vaF) (j : Nat) : List Nat := (List.range j).filter (fun i : Nat => decide ((c.getD i (nmF 0)) [] = 0) != b)
theorem whJ_s (b : Bool) (c : List vaF) (j : Nat) : whJ b c (j + 1) = whJ b c j ++ (if (decide ((c.getD j (nmF 0)) [] = 0) != b) = true then [j] else []) := by
  unfold whJ
  rw [List.range_succ, List.filter_append]
  congr 1
  by_cases h : (decide ((c.getD j (nmF 0)) [] = 0) != b) = true
  · rw [if_pos h]
    exact List.filter_cons_of_pos (p := fun i : Nat => decide ((c.getD i (nmF 0)) [] = 0) != b) h
  · rw [if_neg h]
    exact List.filter_cons_of_neg (p := fun i : Nat => decide ((c.getD i (nmF 0)) [] = 0) != b) h
theorem whJ_l (b : Bool) (c : List vaF) (j : Nat) : (whJ b c j).length ≤ j := by
  have := List.length_filter_le (fun i : Nat => decide ((c.getD i (nmF 0)) [] = 0) != b) (List.range j)
  rw [List.length_range] at this
  exact this
theorem ch_b {σ : sg_S} {ch w x l : Int} {b : Bool} (hw : (w = 1 ∧ b = true) ∨ (w = 0 ∧ b = false)) (h : v_lCell σ ch l = x) : v_fChosen σ ch l w = 0 ↔ ¬ (decide (x = 0) != b) = true := by
  unfold v_fChosen
  rw [h]
  rcases hw with ⟨rfl, rfl⟩ | ⟨rfl, rfl⟩ <;> by_cases c : x = 0 <;> simp [c]
theorem x_sealP {σ : sg_S} {D f : Int} {Q : Int → sg_S → Prop} (oo : ¬ sg_g σ 77 15 = 0) (k : ∀ σ', sg_F seL σ σ' → sg_g σ' 77 18 = 8 → sg_g σ' 77 17 = sg_g σ 77 17 → sg_g σ' 77 16 = sg_g σ 77 16 → (∀ v, sg_g σ' 80 v = sg_g σ 80 v) → Q (sg_g σ 77 10) σ') : V_lSeal σ D f Q := by
  unfold V_lSeal
  refine ⟨fun m v σ2 => σ2 = σ ∧ v = 0, fun σ2 => σ2 = σ, ⟨0, rfl, rfl⟩, ?_, ?_⟩
  · rintro m v σ2 rv f2 ⟨e, -⟩
    subst e
    exact ⟨fun _ => rfl, fun _ => ⟨fun _ => rfl, fun y => absurd y oo⟩⟩
  · rintro σ2 f2 e
    subst e
    refine ⟨fun σ19 => sg_g σ19 77 18 = 8 ∧ sg_g σ19 77 17 = sg_g σ2 77 17 ∧ sg_g σ19 77 16 = sg_g σ2 77 16, ⟨fun z σ28 e28 σ31 e31 => ⟨?_, ?_, ?_⟩, fun z => absurd z oo⟩, fun σ19 f19 h19 => ?_⟩
    · rw [e31, sg_gw_k _ _ _ _ _ _ (by decide), e28, sg_gw_e _ _ _ _ (by decide)]
    · rw [e31, sg_gw_k _ _ _ _ _ _ (by decide), e28, sg_gw_k _ _ _ _ _ _ (by decide)]
    · rw [e31, sg_gw_e _ _ _ _ (sg_Rg _ _ _)]
    · refine x_reset (fun σ13 _ f13 _ => k σ13 (sg_F_t (sg_F_m f19 rfl) (sg_F_m f13 rfl)) ?_ ?_ ?_ (fun v => ?_))
      · rw [sg_F_g f13 (by rfl)]; exact h19.1
      · rw [sg_F_g f13 (by rfl)]; exact h19.2.1
      · rw [sg_F_g f13 (by rfl)]; exact h19.2.2
      · rw [sg_F_ga f13 rfl, sg_F_ga f19 rfl]
section CNS
variable {σ : sg_S} {Q : sg_S → Prop}
theorem f_resealX {σ2 σ50 : sg_S} {x c : Int} {d : Nat} {L : List vaF} {s : fSt} {R : sg_S → Prop} (hc : 4 ≤ c) (hm : mC σ2 c) (hs : ctX σ2 s) (hx2 : 0 ≤ x ∧ x < 272) (hd : d ≤ 3) (f50 : sg_F [85, 86, 87, 14077, 16077] σ2 σ50) (hA : toX σ50 d [] [] L 0 ∨ (¬ sg_g σ50 77 15 = 0 ∧ 6000 < exF d L)) (k1 : fStp (exF d L) s = none → ∀ σ73, sg_F nrL σ2 σ73 → sg_g σ73 61 10 = 8 → ctX σ73 s → (∀ v, 0 ≤ v → v < sg_g σ2 77 10 → sg_g σ73 80 v = sg_g σ2 80 v) → R σ73) (k2 : ∀ s1, fStp (exF d L) s = some s1 → ∀ σ73, sg_F nrL σ2 σ73 → mC σ73 c → ctX σ73 s1 → yEx σ2 σ73 → yX σ73 d (sg_g σ73 62 x) L → (∀ y, ¬ y = x → sg_g σ73 62 y = sg_g σ2 62 y) → R σ73) : V_lSeal σ50 d 0 (fun q64 σ65 => sg_R q64 → sg_F [78, 79, 80, 81, 82, 85, 86, 87, 11077, 12077, 13077, 14077, 15077, 16077, 17077, 18077, 19077] σ50 σ65 → ∀ σ70, σ70 = (sx_put σ65 62 272 x q64) → ∀ σ73, σ73 = (sg_w σ70 61 10 ((sg_g σ65 77 18))) → R σ73) := by
  obtain ⟨m1, m2, m3, m4, m5⟩ := id hm
  have ex50 : yEx σ2 σ50 := yEx_F f50 rfl
  have w50 : sg_g σ50 77 10 = sg_g σ2 77 10 := sg_F_g f50 rfl
  have s50 : sg_g σ50 77 17 = sg_g σ2 77 17 := sg_F_g f50 rfl
  have c50 : ctX σ50 s := ctX_F f50 rfl hs
  have c1 := hs.1
  have c4 := hs.2.2.2
  have com : ∀ (σ65 : sg_S) (q64 : Int), sg_R q64 → sg_F seL σ50 σ65 → ∀ σ70, σ70 = (sx_put σ65 62 272 x q64) → ∀ σ73, σ73 = (sg_w σ70 61 10 ((sg_g σ65 77 18))) → sg_F [62, 11061] σ65 σ73 ∧ sg_F nrL σ2 σ73 ∧ sg_g σ73 61 10 = sg_g σ65 77 18 ∧ sg_g σ73 62 x = q64 ∧ (∀ y, ¬ y = x → sg_g σ73 62 y = sg_g σ2 62 y) ∧ sg_g σ73 61 24 = s.2.2 := fun σ65 q64 r64 f65 σ70 e70 σ73 e73 => by
    rw [xp_in hx2] at e70
    have f70 : sg_F [62] σ65 σ70 := by rw [e70]; exact sg_F_w (sg_F_r _ _) rfl _
    have f73 : sg_F [11061] σ70 σ73 := by rw [e73]; exact sg_F_w (sg_F_r _ _) rfl _
    have f6573 : sg_F [62, 11061] σ65 σ73 := sg_F_t (sg_F_m f70 rfl) (sg_F_m f73 rfl)
    have F : sg_F nrL σ2 σ73 := sg_F_t (sg_F_t (sg_F_m f50 rfl) (sg_F_m f65 rfl)) (sg_F_m f6573 rfl)
    exact ⟨f6573, F, by rw [e73, sg_gw_e _ _ _ _ (sg_Rg _ _ _)], by rw [sg_F_ga f73 rfl, e70, sg_gw_e _ _ _ _ r64], fun y hy => by rw [sg_F_ga f73 rfl, e70, sg_gw_k _ _ _ _ _ _ hy, sg_F_ga f65 rfl, sg_F_ga f50 rfl], by rw [sg_F_g F (by rfl)]; exact hs.2.2.1⟩
  rcases hA with hA | ⟨o1, o2⟩
  · obtain ⟨q1, q2, q3, q4⟩ := toX_s (f := 0) (D := d) (L := L) hA (Or.inl ⟨rfl, rfl, rfl, rfl⟩) (Or.inl rfl)
    refine x_seal (D := d) (f := 0) (L := L) (e := 0) (yG_F m1 f50 rfl) (by omega) (by omega) hd q4 q3 q1 q2 (by decide) (fun σ65 f65 y65 h65 h80 r64 _ σ70 e70 σ73 e73 => ?_)
    obtain ⟨f6573, F, e10, e62, o62, e24⟩ := com σ65 _ r64 f65 σ70 e70 σ73 e73
    unfold seR at h65
    rw [c50.1, c50.2.1] at h65
    rcases h65 with ⟨z1, z2, z3, z4⟩ | ⟨z1, z2, z3, z4, z5, z6, z7, z8⟩
    · exact k1 (fStp_n.mpr z1) σ73 F (by rw [e10]; exact z2) ⟨by rw [sg_F_g f6573 (by rfl)]; exact z3, by rw [sg_F_g f6573 (by rfl)]; exact z4, e24, hs.2.2.2⟩ (fun v a b => by rw [sg_F_ga f6573 rfl, h80 v a (by omega), sg_F_ga f50 rfl])
    · have ex73 : yEx σ65 σ73 := yEx_F f6573 rfl
      have xn := exF_n d L
      exact k2 _ (fStp_e z1) σ73 F ⟨yG_F z6 f6573 rfl, y0_F y65 f6573 rfl, by rw [e10]; exact z2, by rw [sg_F_g f6573 (by rfl), sg_F_g f6573 (by rfl)]; omega, by rw [sg_F_g f6573 (by rfl)]; omega⟩ ⟨by rw [sg_F_g f6573 (by rfl)]; exact z3, by rw [sg_F_g f6573 (by rfl)]; exact z4, e24, by simp only; omega, by simp only; omega⟩ (yEx_t ex50 (yEx_t z5 ex73)) (by rw [e62]; exact yX_up ex73 z7) o62
  · refine x_sealP o1 (fun σ65 f65 z2 z3 z4 h80 r64 _ σ70 e70 σ73 e73 => ?_)
    obtain ⟨f6573, F, e10, e62, o62, e24⟩ := com σ65 _ r64 f65 σ70 e70 σ73 e73
    exact k1 (fStp_n.mpr (Or.inr (by omega))) σ73 F (by rw [e10]; exact z2) ⟨by rw [sg_F_g f6573 (by rfl), z3]; exact c50.1, by rw [sg_F_g f6573 (by rfl), z4]; exact c50.2.1, e24, hs.2.2.2⟩ (fun v a b => by rw [sg_F_ga f6573 rfl, h80 v, sg_F_ga f50 rfl])
/-- variables are carried along -/
def nrX (σ σ' : sg_S) (Ob W : List Int) (sl ty : Int → Int) (c : Int) : (Int × fSt) ⊕ (fSt × fEv) → Prop
  | .inl p => ¬ p.1 = 0 ∧ sg_g σ' 61 10 = p.1 ∧ ctX σ' p.2
  | .inr p => mC σ' c ∧ yEx σ σ' ∧ ctX σ' p.1 ∧ (∀ y ∈ Ob, yX σ' (ty y).toNat (sg_g σ' 62 (sl y)) (p.2 y)) ∧ ∀ x, x ∉ W → sg_g σ' 62 x = sg_g σ 62 x
/-- some of them are carried along: i -/
def nrI (σ σ2 : sg_S) (Ob W : List Int) (sl ty : Int → Int) (c ch : Int) (ks : List Nat) (s : fSt) (ρ : fEv) (i : Nat) : Prop := (∃ s', fCa ty ks Ob s ρ = .inl (8, s') ∧ sg_g σ2 61 10 = 8 ∧ ctX σ2 s' ∧ sg_g σ2 80 ch = sg_g σ 80 ch) ∨ ∃ s2 ρ2, fCa ty ks (Ob.drop i) s2 ρ2 = fCa ty ks Ob s ρ ∧ mC σ2 c ∧ yEx σ σ2 ∧ ctX σ2 s2 ∧ (∀ y ∈ Ob.take i, yX σ2 (ty y).toNat (sg_g σ2 62 (sl y)) (ρ2 y)) ∧ (∀ x, x ∉ W.take i → sg_g σ2 62 x = sg_g σ 62 x) ∧ ∀ y, y ∉ Ob.take i → ρ2 y = ρ y
theorem nrI_0 {Ob W : List Int} {sl ty : Int → Int} {c ch : Int} {ks : List Nat} {s : fSt} {ρ : fEv} (hm : mC σ c) (hs : ctX σ s) : nrI σ σ Ob W sl ty c ch ks s ρ 0 := Or.inr ⟨s, ρ, rfl, hm, yEx_r _, hs, fun y hy => (by cases hy), fun _ _ => rfl, fun _ _ => rfl⟩
theorem nrI_e {σ2 : sg_S} {Ob W : List Int} {sl ty : Int → Int} {c ch : Int} {ks : List Nat} {s : fSt} {ρ : fEv} {i : Nat} (hi : Ob.length ≤ i ∨ ¬ sg_g σ2 61 10 = 0) (hl : Ob.length = W.length) (h : nrI σ σ2 Ob W sl ty c ch ks s ρ i) : nrX σ σ2 Ob W sl ty c (fCa ty ks Ob s ρ) := by
  rcases h with ⟨s', e1, e2, e3, e4⟩ | ⟨s2, ρ2, e1, e2, e3, e4, e5, e6, e7⟩
  · rw [e1]
    exact ⟨by show ¬ (8 : Int) = 0; decide, e2, e3⟩
  · rcases hi with hi | hi
    · rw [List.drop_of_length_le hi] at e1
      rw [List.take_of_length_le hi] at e5
      rw [List.take_of_length_le (by omega)] at e6
      rw [← e1]
      exact ⟨e2, e3, e4, e5, e6⟩
    · exact absurd e2.2.2.1 hi
/-- one more -/
theorem nrI_s {σ2 σ50 : sg_S} {Ob W : List Int} {sl ty : Int → Int} {c ch : Int} {ks : List Nat} {s : fSt} {ρ : fEv} {i : Nat} {y : Int} {s2 : fSt} {ρ2 : fEv} {R : sg_S → Prop} (hc : 4 ≤ c) (hch : 0 ≤ ch ∧ ch < sg_g σ 77 10) (hOW : Ob.map sl = W) (hN : W.Nodup) (hy : Ob[i]? = some y) (hsl : 0 ≤ sl y ∧ sl y < 272) (hd : (ty y).toNat ≤ 3) (e1 : fCa ty ks (Ob.drop i) s2 ρ2 = fCa ty ks Ob s ρ) (e2 : mC σ2 c) (e3 : yEx σ σ2) (e4 : ctX σ2 s2) (e5 : ∀ y ∈ Ob.take i, yX σ2 (ty y).toNat (sg_g σ2 62 (sl y)) (ρ2 y)) (e6 : ∀ x, x ∉ W.take i → sg_g σ2 62 x = sg_g σ 62 x) (e7 : ∀ y, y ∉ Ob.take i → ρ2 y = ρ y) (f2 : sg_F nrL σ σ2) (f50 : sg_F [85, 86, 87, 14077, 16077] σ2 σ50) (hA : toX σ50 (ty y).toNat [] [] (fPk (ρ y) ks) 0 ∨ (¬ sg_g σ50 77 15 = 0 ∧ 6000 < exF (ty y).toNat (fPk (ρ y) ks))) (k : ∀ σ73, sg_F nrL σ σ73 → nrI σ σ73 Ob W sl ty c ch ks s ρ (i + 1) → R σ73) : V_lSeal σ50 (ty y).toNat 0 (fun q64 σ65 => sg_R q64 → sg_F [78, 79, 80, 81, 82, 85, 86, 87, 11077, 12077, 13077, 14077, 15077, 16077, 17077, 18077, 19077] σ50 σ65 → ∀ σ70, σ70 = (sx_put σ65 62 272 (sl y) q64) → ∀ σ73, σ73 = (sg_w σ70 61 10 ((sg_g σ65 77 18))) → R σ73) := by
  have ndO : Ob.Nodup := by rw [← hOW] at hN; exact nd_map hN
  have hx : W[i]? = some (sl y) := by rw [← hOW, List.getElem?_map, hy]; rfl
  have nin := nin_t ndO hy
  have ninW := nin_t hN hx
  have ry := e7 y nin
  have hi := gE_l hy
  have eq : fCa ty ks Ob s ρ = (match fStp (exF (ty y).toNat (fPk (ρ y) ks)) s2 with
      | none => .inl (8, s2)
      | some s1 => fCa ty ks (Ob.drop (i + 1)) s1 (fun x => if x = y then fPk (ρ y) ks else ρ2 x)) := by
    rw [← e1, dr_c hy]
    simp only [fCa]
    rw [ry]
    cases fStp (exF (ty y).toNat (fPk (ρ y) ks)) s2 <;> rfl
  have tkO : Ob.take (i + 1) = Ob.take i ++ [y] := by rw [List.take_add_one, hy]; rfl
  have tkW : W.take (i + 1) = W.take i ++ [sl y] := by rw [List.take_add_one, hx]; rfl
  refine f_resealX hc e2 e4 hsl hd f50 hA (fun z σ73 F73 q1 q2 q3 => k σ73 (sg_F_t f2 F73) (Or.inl ⟨s2, by rw [eq, z], q1, q2, ?_⟩)) (fun s1 z σ73 F73 q1 q2 q3 q4 q5 => k σ73 (sg_F_t f2 F73) (Or.inr ⟨s1, fun x => if x = y then fPk (ρ y) ks else ρ2 x, by rw [eq, z], q1, yEx_t e3 q3, q2, fun y' hy' => ?_, fun x hx' => ?_, fun y' hy' => ?_⟩))
  · rw [q3 ch hch.1 (by have := e3.1.1; omega)]
    exact (e3.2.1 ch hch.1 hch.2).1
  · rw [tkO] at hy'
    show yX σ73 (ty y').toNat (sg_g σ73 62 (sl y')) (if y' = y then fPk (ρ y) ks else ρ2 y')
    by_cases c1 : y' = y
    · rw [if_pos c1, c1]; exact q4
    · rw [if_neg c1]
      rcases List.mem_append.mp hy' with q | q
      · have hne : ¬ sl y' = sl y := fun w => c1 (map_inj (by rw [hOW]; exact hN) y' (List.mem_of_mem_take q) y (List.mem_of_getElem? hy) w)
        rw [q5 _ hne]
        exact yX_up q3 (e5 y' q)
      · exact absurd (by simpa using q) c1
  · rw [tkW] at hx'
    have h1 : x ∉ W.take i := fun q => hx' (List.mem_append_left _ q)
    have h2 : ¬ x = sl y := fun q => hx' (by simp [q])
    rw [q5 x h2]; exact e6 x h1
  · rw [tkO] at hy'
    have h1 : y' ∉ Ob.take i := fun q => hy' (List.mem_append_left _ q)
    have h2 : ¬ y' = y := fun q => hy' (by simp [q])
    show (if y' = y then fPk (ρ y) ks else ρ2 y') = ρ y'
    rw [if_neg h2]; exact e7 y' h1
theorem fPk_a (l : List vaF) (a b : List Nat) : fPk l (a ++ b) = fPk l a ++ fPk l b := by unfold fPk; rw [List.map_append]
theorem f_narrowX {W Ob : List Int} {sl ty : Int → Int} {ch w c : Int} {n dc : Nat} {b : Bool} {cv : List vaF} {s : fSt} {ρ : fEv} (hm : mC σ c) (hs : ctX σ s) (hc : 4 ≤ c) (hn : n ≤ 6000) (hch : yX σ dc ch cv) (hcl : cv.length = n) (hwb : (w = 1 ∧ b = true) ∨ (w = 0 ∧ b = false)) (hw : wl σ W) (h200 : W.length ≤ 200) (hOW : Ob.map sl = W) (hT : ∀ y ∈ Ob, (0 ≤ sl y ∧ sl y < 272) ∧ (ty y).toNat ≤ 3 ∧ sg_g σ 34 (sl y) = (ty y).toNat ∧ yX σ (ty y).toNat (sg_g σ 62 (sl y)) (ρ y) ∧ (ρ y).length = n) (k : ∀ σ', sg_F (24061 :: nrL) σ σ' → nrX σ σ' Ob W sl ty c (fCa ty (fWh b cv) Ob s ρ) → (sg_g σ' 61 10 = 0 → sg_g σ' 61 23 = (fWh b cv).length) → Q σ') : V_fNarrow σ ch w (n : Int) Q := by
  obtain ⟨w1, w2, w3⟩ := id hw
  have gg := hm.1
  have lenO : Ob.length = W.length := by rw [← hOW, List.length_map]
  have hchr := (yX_c hch).1
  have c80 := gg.2.2.1 ch hchr.1.1 hchr.1.2
  have u6 := gg.2.1
  have whn : fWh b cv = whJ b cv n := by unfold fWh whJ; rw [hcl]
  unfold V_fNarrow
  rw [w1]
  refine ⟨fun m v σ2 => ∃ i : Nat, v = i ∧ i ≤ W.length ∧ m = W.length - i ∧ nrI σ σ2 Ob W sl ty c ch (fWh b cv) s ρ i, fun σ2 => ∃ i, (Ob.length ≤ i ∨ ¬ sg_g σ2 61 10 = 0) ∧ nrI σ σ2 Ob W sl ty c ch (fWh b cv) s ρ i, ⟨_, 0, rfl, Nat.zero_le _, rfl, nrI_0 hm hs⟩, ?_, ?_⟩
  · rintro m v σ2 rv f2 ⟨i, rfl, hi, hm', hI⟩
    refine ⟨fun z => ⟨i, Or.inl (by omega), hI⟩, fun z => ⟨fun y => ⟨i, Or.inr y, hI⟩, fun y0' => ?_⟩⟩
    rcases hI with ⟨s', -, q, -⟩ | ⟨s2, ρ2, e1, e2, e3, e4, e5, e6, e7⟩
    · rw [q] at y0'; exact absurd y0' (by decide)
    obtain ⟨y, hy⟩ : ∃ y, Ob[i]? = some y := ⟨_, List.getElem?_eq_getElem (by omega)⟩
    have hx : W[i]? = some (sl y) := by rw [← hOW, List.getElem?_map, hy]; rfl
    obtain ⟨t1, t2, t3, t4, t5⟩ := hT y (List.mem_of_getElem? hy)
    have v62 := e6 (sl y) (nin_t (wl_nd w3) hx)
    rw [xa_in (a := 74) ⟨by omega, by omega⟩, w2 i (sl y) hx, xa_in (a := 62) t1, xa_in (a := 34) t1, v62, t3]
    have xv := yX_up e3 t4
    have xw := (yX_c xv).1.1
    have g10 := e2.1.1
    refine ⟨fun m2 v49 σ50 => ∃ j : Nat, v49 = j ∧ j ≤ n ∧ m2 = n - j ∧ toX σ50 (ty y).toNat [] [] (fPk (ρ y) (whJ b cv j)) 0, fun σ50 => toX σ50 (ty y).toNat [] [] (fPk (ρ y) (fWh b cv)) 0, ⟨_, 0, rfl, Nat.zero_le _, rfl, toX_0 e2.2.1 _⟩, ?_, ?_⟩
    · rintro m2 v49 σ50 r49 f50 ⟨j, rfl, hj, hm2, hA⟩
      refine ⟨fun q => by rw [whn, show n = j by omega]; exact hA, fun q => ?_⟩
      have ex50 : yEx σ2 σ50 := yEx_F f50 rfl
      obtain ⟨x1, x2⟩ := yX_cell e2.1 (yX_up e3 hch) (i := j) (by omega)
      have cb := ch_b hwb x1
      have wl' := whJ_l b cv j
      refine ⟨ch_p x2, fun σ83 => toX σ83 (ty y).toNat [] [] (fPk (ρ y) (whJ b cv (j + 1))) 0, ⟨fun r => ?_, fun r => ⟨⟨by omega, by omega⟩, ?_⟩⟩, fun σ83 f83 h83 => ⟨⟨by omega, by omega⟩, n - (j + 1), by omega, j + 1, by omega, by omega, rfl, h83⟩⟩
      · rw [whJ_s, if_neg (cb.mp r), List.append_nil]; exact hA
      · have pk : pkX σ2 (ty y).toNat (sg_g σ 62 (sl y)) (j : Int) ((j : Int) + 1) [(ρ y).getD j (nmF 0)] := by
          refine Or.inr ⟨ρ y, xv, by omega, by omega, by omega, ?_⟩
          rw [Int.toNat_natCast, show ((j : Int) + 1 - j).toNat = 1 by omega, dr_D (by omega : j < (ρ y).length)]
          rfl
        refine t_pick hA (by rw [fPk_l]; omega) (pkX_up ex50 pk) (sg_Rg _ _ _) ⟨by omega, by omega⟩ (fun σ3 t3 f3 _ => ?_)
        rw [whJ_s, if_pos (Decidable.byContradiction (fun c => r (cb.mpr c))), fPk_a]
        exact t3
    · intro σ50 f50 hA
      exact nrI_s hc hchr.1 hOW (wl_nd w3) hy t1 t2 e1 e2 e3 e4 e5 e6 e7 f2 f50 (Or.inl hA) (fun σ73 F73 h73 => ⟨⟨by omega, by omega⟩, W.length - (i + 1), by omega, i + 1, by omega, by omega, rfl, h73⟩)
  · rintro σ2 f2 ⟨i, hi, hI⟩ σ16 e16
    have f16 : sg_F [24061] σ2 σ16 := by rw [e16]; exact sg_F_w (sg_F_r _ _) rfl _
    have e80 : sg_g σ2 80 ch = sg_g σ 80 ch := by
      rcases hI with ⟨s', -, -, -, q⟩ | ⟨s2, ρ2, -, -, q, -⟩
      · exact q
      · exact (q.2.1 ch hchr.1.1 hchr.1.2).1
    have pc : ∀ l, 0 ≤ l → l < (n : Int) → p_fChosen σ2 ch l w := fun l a b => ch_p (p_cell80 (by rw [e80]; omega) (by omega))
    refine ⟨fun m v σ20 => ∃ j : Nat, v = j ∧ j ≤ n ∧ m = n - j ∧ sg_g σ20 61 23 = cnF σ2 ch w j ∧ (sg_g σ2 61 10 = 0 → sg_g σ20 61 23 = (whJ b cv j).length), fun σ20 => sg_g σ2 61 10 = 0 → sg_g σ20 61 23 = (whJ b cv n).length, ⟨_, 0, rfl, Nat.zero_le _, rfl, by rw [e16, sg_gw_e _ _ _ _ (by decide)]; rfl, fun _ => by rw [e16, sg_gw_e _ _ _ _ (by decide)]; rfl⟩, ?_, ?_⟩
    · rintro m v σ20 rv f20 ⟨j, rfl, hj, hm', h23, h23'⟩
      refine ⟨fun z => by rw [show n = j by omega]; exact h23', fun z => ⟨pc j (by omega) z, fun v38 e38 r38 => ?_⟩⟩
      have cb := cnF_b σ2 ch w j
      have v01 : 0 ≤ v38 ∧ v38 ≤ 1 := by rw [e38]; split <;> omega
      refine ⟨⟨by omega, by omega⟩, fun σ42 e42 => ⟨⟨by omega, by omega⟩, n - (j + 1), by omega, j + 1, by omega, by omega, rfl, ?_, fun z0 => ?_⟩⟩
      · rw [e42, sg_gw_e _ _ _ _ ⟨by omega, by omega⟩, h23, e38]
        unfold cnF
        simp only [su]
        rw [show (0 : Int) + j = j by omega]
      · rw [e42, sg_gw_e _ _ _ _ ⟨by omega, by omega⟩, h23' z0, e38]
        rcases hI with ⟨s', -, q, -⟩ | ⟨s2, ρ2, e1, e2, e3, e4, e5, e6, e7⟩
        · rw [q] at z0; exact absurd z0 (by decide)
        obtain ⟨x1, x2⟩ := yX_cell e2.1 (yX_up e3 hch) (i := j) (by omega)
        have cb := ch_b hwb x1
        rw [whJ_s, List.length_append]
        by_cases r : v_fChosen σ2 ch j w = 0
        · rw [if_pos r, if_neg (cb.mp r)]
          simp
        · rw [if_neg r, if_pos (Decidable.byContradiction (fun c => r (cb.mpr c)))]
          simp
    · intro σ20 f20 h20
      have F : sg_F (24061 :: nrL) σ σ20 := sg_F_t (sg_F_t (sg_F_m f2 rfl) (sg_F_m f16 rfl)) (sg_F_m f20 rfl)
      have f220 : sg_F [24061] σ2 σ20 := sg_F_t f16 f20
      have e10 : sg_g σ20 61 10 = sg_g σ2 61 10 := sg_F_g f220 rfl
      refine k σ20 F ?_ (fun z => by rw [whn]; exact h20 (by rw [← e10]; exact z))
      have X := nrI_e hi lenO hI
      cases e : fCa ty (fWh b cv) Ob s ρ with
      | inl p =>
        rw [e] at X
        exact ⟨X.1, by rw [e10]; exact X.2.1, ctX_F f220 rfl X.2.2⟩
      | inr p =>
        rw [e] at X
        obtain ⟨⟨m1, m2, m3, m4, m5⟩, x2, x3, x4, x5⟩ := X
        have ex : yEx σ2 σ20 := yEx_F f220 rfl
        exact ⟨⟨yG_F m1 f220 rfl, y0_F m2 f220 rfl, by rw [e10]; exact m3, by rw [sg_F_g f220 (by rfl), sg_F_g f220 (by rfl)]; exact m4, by rw [sg_F_g f220 (by rfl)]; exact m5⟩, yEx_t x2 ex, ctX_F f220 rfl x3, fun y hy => by rw [sg_F_ga f220 rfl]; exact yX_up ex (x4 y hy), fun x hx => by rw [sg_F_ga f220 rfl]; exact x5 x hx⟩
end CNS
/-! spread of the class, exactly; bundle. -/
theorem ln_g {v0 : List vaF} {j : Nat} (h : j < v0.length) : (v0.map (fun v => (itF v).length)).getD j 0 = (itF (v0.getD j (nmF 0))).length := by
  rw [List.getD_eq_getElem?_getD, List.getElem?_map, gD_i h]
  rfl
theorem rp_l {ln : List Nat} : ∀ {j : Nat}, (∀ i, i < j → ln.getD i 0 ≤ 200) → (fRp j ln).length ≤ 200 * j
  | 0, _ => Nat.le_refl _
  | j + 1, h => by
    have a := rp_l (ln := ln) (j := j) (fun i hi => h i (by omega))
    have b := h j (by omega)
    rw [fRp_s, List.length_append, List.length_replicate]
    omega
theorem rp_pre {ln : List Nat} {j : Nat} : ∀ {n : Nat}, j ≤ n → ∃ r, fRp n ln = fRp j ln ++ r
  | 0, h => ⟨[], by rw [show j = 0 by omega, List.append_nil]⟩
  | n + 1, h => by
    by_cases e : j = n + 1
    · exact ⟨[], by rw [e, List.append_nil]⟩
    · obtain ⟨r, hr⟩ := rp_pre (ln := ln) (j := j) (n := n) (by omega)
      exact ⟨r ++ List.replicate (ln.getD n 0) n, by rw [fRp_s, hr, List.append_assoc]⟩
theorem fPk_r (l : List vaF) (n k : Nat) : fPk l (List.replicate n k) = List.replicate n (l.getD k (nmF 0)) := by unfold fPk; rw [List.map_replicate]
section COS
variable {σ : sg_S} {Q : sg_S → Prop}
theorem f_spreadX {W Ob : List Int} {sl ty : Int → Int} {g c : Int} {n dg : Nat} {v0 : List vaF} {s : fSt} {ρ : fEv} (hm : mC σ c) (hs : ctX σ s) (hc : 4 ≤ c) (hn : n ≤ 6000) (h23 : sg_g σ 61 23 = n) (hg : yX σ (dg + 1) g v0) (hgl : v0.length = n) (hw : wl σ W) (h200 : W.length ≤ 200) (hOW : Ob.map sl = W) (hT : ∀ y ∈ Ob, (0 ≤ sl y ∧ sl y < 272) ∧ (ty y).toNat ≤ 3 ∧ sg_g σ 34 (sl y) = (ty y).toNat ∧ yX σ (ty y).toNat (sg_g σ 62 (sl y)) (ρ y) ∧ (ρ y).length = n) (k : ∀ σ', sg_F nrL σ σ' → nrX σ σ' Ob W sl ty c (fCa ty (fRp n (v0.map (fun v => (itF v).length))) Ob s ρ) → Q σ') : V_fSpread σ g Q := by
  obtain ⟨w1, w2, w3⟩ := id hw
  have gg := hm.1
  have lenO : Ob.length = W.length := by rw [← hOW, List.length_map]
  have hgr := (yX_c hg).1
  obtain ⟨ln, hln⟩ : ∃ ln, ln = v0.map (fun v => (itF v).length) := ⟨_, rfl⟩
  rw [← hln] at k
  have lg : ∀ j, j < n → ln.getD j 0 = (itF (v0.getD j (nmF 0))).length := fun j hj => by rw [hln]; exact ln_g (by omega)
  have l200 : ∀ j, j < n → ln.getD j 0 ≤ 200 := fun j hj => by
    rw [lg j hj]
    exact (yX_ln gg hg (j := j) (by omega)).2.2.2.1
  unfold V_fSpread
  rw [w1, h23]
  refine ⟨fun m v σ2 => ∃ i : Nat, v = i ∧ i ≤ W.length ∧ m = W.length - i ∧ nrI σ σ2 Ob W sl ty c g (fRp n ln) s ρ i, fun σ2 => ∃ i, (Ob.length ≤ i ∨ ¬ sg_g σ2 61 10 = 0) ∧ nrI σ σ2 Ob W sl ty c g (fRp n ln) s ρ i, ⟨_, 0, rfl, Nat.zero_le _, rfl, nrI_0 hm hs⟩, ?_, fun σ2 f2 ⟨i, hi, hI⟩ => k σ2 f2 (nrI_e hi lenO hI)⟩
  rintro m v σ2 rv f2 ⟨i, rfl, hi, hm', hI⟩
  refine ⟨fun z => ⟨i, Or.inl (by omega), hI⟩, fun z => ⟨fun y => ⟨i, Or.inr y, hI⟩, fun y0' => ?_⟩⟩
  rcases hI with ⟨s', -, q, -⟩ | ⟨s2, ρ2, e1, e2, e3, e4, e5, e6, e7⟩
  · rw [q] at y0'; exact absurd y0' (by decide)
  obtain ⟨y, hy⟩ : ∃ y, Ob[i]? = some y := ⟨_, List.getElem?_eq_getElem (by omega)⟩
  have hx : W[i]? = some (sl y) := by rw [← hOW, List.getElem?_map, hy]; rfl
  obtain ⟨t1, t2, t3, t4, t5⟩ := hT y (List.mem_of_getElem? hy)
  have v62 := e6 (sl y) (nin_t (wl_nd w3) hx)
  rw [xa_in (a := 74) ⟨by omega, by omega⟩, w2 i (sl y) hx, xa_in (a := 62) t1, xa_in (a := 34) t1, v62, t3]
  have xv := yX_up e3 t4
  have g10 := e2.1.1
  have hg2 := yX_up e3 hg
  refine ⟨fun m2 v18 σ19 => ∃ j : Nat, v18 = j ∧ j ≤ n ∧ m2 = n - j ∧ toX σ19 (ty y).toNat [] [] (fPk (ρ y) (fRp j ln)) 0, fun σ19 => toX σ19 (ty y).toNat [] [] (fPk (ρ y) (fRp n ln)) 0 ∨ (¬ sg_g σ19 77 15 = 0 ∧ 6000 < exF (ty y).toNat (fPk (ρ y) (fRp n ln))), ⟨_, 0, rfl, Nat.zero_le _, rfl, toX_0 e2.2.1 _⟩, ?_, ?_⟩
  · rintro m2 v18 σ19 r18 f19 ⟨j, rfl, hj, hm2, hA⟩
    refine ⟨fun q => Or.inl (by rw [show n = j by omega]; exact hA), fun q => ⟨fun o => Or.inr ⟨o, ?_⟩, fun o => ?_⟩⟩
    · obtain ⟨q1, q2, q3, q4⟩ := toX_s (f := 0) (D := (ty y).toNat) (L := fPk (ρ y) (fRp j ln)) hA (Or.inl ⟨rfl, rfl, rfl, rfl⟩) (Or.inl rfl)
      have a := q2 (by omega)
      obtain ⟨r, hr⟩ := rp_pre (ln := ln) hj
      rw [hr, fPk_a, exF_a]
      have b := exF_n (ty y).toNat (fPk (ρ y) r)
      omega
    · obtain ⟨x1, x2⟩ := yX_cell e2.1 hg2 (i := j) (by omega)
      have x3 := (yX_ln e2.1 hg2 (j := j) (by omega)).1
      have x4 : v_lCell σ2 g j = (ln.getD j 0 : Nat) := by rw [x3, lg j (by omega)]
      have rl := rp_l (ln := ln) (j := j) (fun i hi => l200 i (by omega))
      have l2 := l200 j (by omega)
      rw [x4]
      refine ⟨x2, fun m3 v51 σ52 => ∃ i2 : Nat, v51 = i2 ∧ i2 ≤ ln.getD j 0 ∧ m3 = ln.getD j 0 - i2 ∧ toX σ52 (ty y).toNat [] [] (fPk (ρ y) (fRp j ln) ++ List.replicate i2 ((ρ y).getD j (nmF 0))) 0, fun σ52 => toX σ52 (ty y).toNat [] [] (fPk (ρ y) (fRp (j + 1) ln)) 0, ⟨_, 0, rfl, Nat.zero_le _, rfl, by rw [List.replicate_zero, List.append_nil]; exact hA⟩, ?_, fun σ52 f52 h52 => ⟨⟨by omega, by omega⟩, n - (j + 1), by omega, j + 1, by omega, by omega, rfl, h52⟩⟩
      rintro m3 v51 σ52 r51 f52 ⟨i2, rfl, hi2, hm3, hA3⟩
      have ex52 : yEx σ2 σ52 := yEx_F (sg_F_t f19 f52) rfl
      refine ⟨fun r => ?_, fun r => ⟨⟨by omega, by omega⟩, ?_⟩⟩
      · rw [fRp_s, fPk_a, fPk_r, show ln.getD j 0 = i2 by omega]; exact hA3
      · have pk : pkX σ2 (ty y).toNat (sg_g σ 62 (sl y)) (j : Int) ((j : Int) + 1) [(ρ y).getD j (nmF 0)] := by
          refine Or.inr ⟨ρ y, xv, by omega, by omega, by omega, ?_⟩
          rw [Int.toNat_natCast, show ((j : Int) + 1 - j).toNat = 1 by omega, dr_D (by omega : j < (ρ y).length)]
          rfl
        refine t_pick hA3 (by rw [List.length_append, fPk_l, List.length_replicate]; omega) (pkX_up ex52 pk) (sg_Rg _ _ _) ⟨by omega, by omega⟩ (fun σ3 t3 f3 _ => ⟨⟨by omega, by omega⟩, ln.getD j 0 - (i2 + 1), by omega, i2 + 1, by omega, by omega, rfl, ?_⟩)
        rw [List.replicate_succ', ← List.append_assoc]
        exact t3
  · intro σ19 f19 hA
    exact nrI_s hc hgr.1 hOW (wl_nd w3) hy t1 t2 e1 e2 e3 e4 e5 e6 e7 f2 f19 hA (fun σ73 F73 h73 => ⟨⟨by omega, by omega⟩, W.length - (i + 1), by omega, i + 1, by omega, by omega, rfl, h73⟩)
end COS
/-! rows of lengths; bundle, shorten, join of the class, exactly. -/
section CPB
variable {σ : sg_S}
theorem y_bundleX {Q : Int → sg_S → Prop} {d : Nat} {a it n : Int} (g : yG σ) (hw : sg_g σ 77 10 + 1 ≤ 8000) (ha : yRw σ a n) (hl : yLn σ a n) (hi : yV σ d it (su (sg_g σ 78) (sg_g σ 80 a) n.toNat)) (k : ∀ σ', sg_F [79, 80, 81, 82, 11077] σ σ' → yEx σ σ' → yG σ' → yV σ' (d + 1) (sg_g σ 77 10) n → sg_g σ' 77 10 = sg_g σ 77 10 + 1 → sg_g σ' 80 (sg_g σ 77 10) = sg_g σ 80 a → sg_g σ' 82 (sg_g σ 77 10) = it → Q (sg_g σ 77 10) σ') : V_lBundle σ a it Q := by
  have ha0 := ha
  obtain ⟨a1, a2, a3, a4, a5⟩ := ha
  obtain ⟨g1, g2, g3, g4⟩ := id g
  have hit := (yV_r hi).1
  generalize hw0 : sg_g σ 77 10 = w at *
  unfold V_lBundle
  rw [hw0, xa_in (a := 80) ⟨by omega, by omega⟩, xa_in (a := 81) ⟨by omega, by omega⟩]
  intro σ1 e1 σ4 e4 σ7 e7
  rw [xp_in ⟨by omega, by omega⟩] at e1 e4 e7
  have f7 : sg_F [80, 81, 82] σ σ7 := by rw [e7, e4, e1]; exact sg_F_w (sg_F_w (sg_F_w (sg_F_r _ _) rfl _) rfl _) rfl _
  have i80 : sg_g σ7 80 w = sg_g σ 80 a := by rw [e7, sg_gw_c _ _ _ _ _ _ (by decide), e4, sg_gw_c _ _ _ _ _ _ (by decide), e1, sg_gw_e _ _ _ _ (sg_Rg _ _ _)]
  have i81 : sg_g σ7 81 w = n := by rw [e7, sg_gw_c _ _ _ _ _ _ (by decide), e4, sg_gw_e _ _ _ _ (sg_Rg _ _ _)]; exact a2
  have i82 : sg_g σ7 82 w = it := by rw [e7, sg_gw_e _ _ _ _ ⟨by omega, by omega⟩]
  have r7 : ∀ v, 0 ≤ v → v < w → sg_g σ7 80 v = sg_g σ 80 v ∧ sg_g σ7 81 v = sg_g σ 81 v ∧ sg_g σ7 82 v = sg_g σ 82 v := fun v x y => by
    refine ⟨?_, ?_, ?_⟩
    · rw [e7, sg_gw_c _ _ _ _ _ _ (by decide), e4, sg_gw_c _ _ _ _ _ _ (by decide), e1, sg_gw_k _ _ _ _ _ _ (by omega)]
    · rw [e7, sg_gw_c _ _ _ _ _ _ (by decide), e4, sg_gw_k _ _ _ _ _ _ (by omega), e1, sg_gw_c _ _ _ _ _ _ (by decide)]
    · rw [e7, sg_gw_k _ _ _ _ _ _ (by omega), e4, sg_gw_c _ _ _ _ _ _ (by decide), e1, sg_gw_c _ _ _ _ _ _ (by decide)]
  refine y_lay (n := n) (by rw [xa_in ⟨by omega, by omega⟩]; exact i81) (by omega) (fun _ => ⟨by omega, by rw [i80]; omega, by rw [i80]; omega⟩) (fun i hi => by rw [i80, sg_F_ga f7 rfl]; exact hl i hi) (fun σ11 f11 l1 l2 _ => ⟨⟨by omega, by omega⟩, fun σ17 e17 => ⟨⟨by omega, by omega⟩, ?_⟩⟩)
  rw [i80] at l1 l2
  rw [show w + 1 - 1 = w by omega]
  have f17 : sg_F [11077] σ11 σ17 := by rw [e17]; exact sg_F_w (sg_F_r _ _) rfl _
  have F : sg_F [79, 80, 81, 82, 11077] σ σ17 := sg_F_t (sg_F_t (sg_F_m f7 rfl) (sg_F_m f11 rfl)) (sg_F_m f17 rfl)
  have f717 : sg_F [79, 11077] σ7 σ17 := sg_F_t (sg_F_m f11 rfl) (sg_F_m f17 rfl)
  have w17 : sg_g σ17 77 10 = w + 1 := by rw [e17, sg_gw_e _ _ _ _ ⟨by omega, by omega⟩]
  have u17 : sg_g σ17 77 16 = sg_g σ 77 16 := sg_F_g F rfl
  have c17 : ∀ x, sg_g σ17 78 x = sg_g σ 78 x := fun x => sg_F_ga F rfl
  have r17 : ∀ v, 0 ≤ v → v < w → sg_g σ17 80 v = sg_g σ 80 v ∧ sg_g σ17 81 v = sg_g σ 81 v ∧ sg_g σ17 82 v = sg_g σ 82 v := fun v x y => by
    obtain ⟨t1, t2, t3⟩ := r7 v x y
    exact ⟨by rw [sg_F_ga f717 rfl]; exact t1, by rw [sg_F_ga f717 rfl]; exact t2, by rw [sg_F_ga f717 rfl]; exact t3⟩
  have s17 : ∀ i : Nat, (i : Int) < n → sg_g σ17 79 (sg_g σ 80 a + i) = su (sg_g σ 78) (sg_g σ 80 a) i := fun i hi => by
    rw [sg_F_ga f17 rfl, l1 i hi]
    exact su_sh (fun j hj => sg_F_ga f7 rfl)
  have ex : yEx σ σ17 := by
    refine ⟨⟨by omega, by omega⟩, fun v x y => r17 v x (by omega), fun x _ _ => c17 x, fun v m r lo i hi => ?_⟩
    obtain ⟨v1, v2, v3, v4, v5⟩ := r
    rw [(r17 v v1.1 (by omega)).1]
    have sm : su (sg_g σ17 78) (sg_g σ 80 v) i = su (sg_g σ 78) (sg_g σ 80 v) i := su_sh (fun j hj => c17 _)
    rw [sm]
    rcases g4 v a v1.1 (by omega) a1.1 (by omega) with ⟨q1, q2⟩ | q
    · rw [q1]
      exact s17 i (by omega)
    · rw [sg_F_ga f17 rfl, l2 _ (fun i' hi' => by omega), sg_F_ga f7 rfl]
      exact lo i hi
  have h80 : sg_g σ17 80 w = sg_g σ 80 a := by rw [sg_F_ga f717 rfl]; exact i80
  have h81 : sg_g σ17 81 w = n := by rw [sg_F_ga f717 rfl]; exact i81
  have h82 : sg_g σ17 82 w = it := by rw [sg_F_ga f717 rfl]; exact i82
  refine k σ17 F ex ?_ ?_ w17 h80 h82
  · refine ⟨by omega, by rw [u17]; exact g2, fun v x y => ?_, fun v v' x y x' y' => ?_⟩
    · by_cases e : v = w
      · rw [e, h80, h81, u17]; omega
      · have := g3 v x (by omega)
        rw [(r17 v x (by omega)).1, (r17 v x (by omega)).2.1, u17]; omega
    · by_cases e : v = w
      · by_cases e' : v' = w
        · left; rw [e, e']; exact ⟨rfl, rfl⟩
        · rw [e, h80, h81, (r17 v' x' (by omega)).1, (r17 v' x' (by omega)).2.1, ← a2]
          exact g4 a v' a1.1 (by omega) x' (by omega)
      · by_cases e' : v' = w
        · rw [e', h80, h81, (r17 v x (by omega)).1, (r17 v x (by omega)).2.1, ← a2]
          exact g4 v a x (by omega) a1.1 (by omega)
        · rw [(r17 v x (by omega)).1, (r17 v x (by omega)).2.1, (r17 v' x' (by omega)).1, (r17 v' x' (by omega)).2.1]
          exact g4 v v' x (by omega) x' (by omega)
  · refine ⟨⟨by omega, h81, a3, by rw [h80]; exact a4, by rw [h80, u17]; exact a5⟩, fun i hi => ?_, fun i hi => ?_, ?_⟩
    · rw [h80, c17]; exact hl i hi
    · rw [h80, s17 i hi]
      exact (su_sh (fun j hj => c17 _)).symm
    · rw [h82, h80, su_sh (g := sg_g σ 78) (p := sg_g σ 80 a) (fun j hj => c17 _)]
      exact yV_up ex hi
end CPB
theorem su_ln {g : Int → Int} {p : Int} {ln : List Nat} (h : ∀ i : Nat, i < ln.length → g (p + i) = (ln.getD i 0 : Nat)) : ∀ i : Nat, i ≤ ln.length → su g p i = ((ln.take i).sum : Nat)
  | 0, _ => rfl
  | i + 1, hi => by
    simp only [su]
    rw [su_ln h i (by omega), h i (by omega), tk_sum ln i (by omega)]
    omega
/-- a row of lengths -/
def rwX (σ : sg_S) (a : Int) (ln : List Nat) : Prop := yRw σ a ln.length ∧ ∀ i : Nat, i < ln.length → sg_g σ 78 (sg_g σ 80 a + i) = (ln.getD i 0 : Nat) ∧ ln.getD i 0 ≤ 200
theorem rwX_up {σ σ' : sg_S} (x : yEx σ σ') {a : Int} {ln : List Nat} (h : rwX σ a ln) : rwX σ' a ln := by
  have r := h.1
  refine ⟨yRw_up x r, fun i hi => ⟨?_, (h.2 i hi).2⟩⟩
  obtain ⟨a1, a2, a3, a4, a5⟩ := r
  rw [(x.2.1 a a1.1 a1.2).1, x.2.2.1 _ (by omega) (by omega)]
  exact (h.2 i hi).1
theorem yX_rw {σ : sg_S} (g : yG σ) {d : Nat} {a : Int} {v0 : List vaF} (h : yX σ (d + 1) a v0) : rwX σ a (v0.map (fun v => (itF v).length)) := by
  refine ⟨by rw [List.length_map]; exact h.1, fun i hi => ?_⟩
  rw [List.length_map] at hi
  rw [ln_g hi]
  obtain ⟨a1, a2, a3⟩ := h.2.1 i hi
  have il := itF_l (v0.getD i (nmF 0))
  exact ⟨by rw [a1]; omega, by omega⟩
theorem x_bundle {σ : sg_S} {Q : Int → sg_S → Prop} {d : Nat} {a it : Int} {ln : List Nat} {v : List vaF} (g : yG σ) (hw : sg_g σ 77 10 + 1 ≤ 8000) (ha : rwX σ a ln) (hi : yX σ d it v) (hsum : ln.sum = v.length) (k : ∀ σ', sg_F [79, 80, 81, 82, 11077] σ σ' → yEx σ σ' → yG σ' → yX σ' (d + 1) (sg_g σ 77 10) (fCt ln v) → sg_g σ' 77 10 = sg_g σ 77 10 + 1 → Q (sg_g σ 77 10) σ') : V_lBundle σ a it Q := by
  have sm : su (sg_g σ 78) (sg_g σ 80 a) ((ln.length : Int)).toNat = (v.length : Int) := by
    rw [Int.toNat_natCast, su_ln (fun i hi => (ha.2 i hi).1) ln.length (Nat.le_refl _), List.take_length, hsum]
  refine y_bundleX (d := d) (n := ln.length) g hw ha.1 (fun i hi => ?_) (by rw [sm]; exact yX_V hi) (fun σ' f' x' g' v' w' e80 e82 => k σ' f' x' g' ⟨?_, fun i hi' => ?_, ?_, ?_⟩ w')
  · have := ha.2 i (by omega)
    rw [this.1]
    omega
  · rw [fCt_l]; exact v'.1
  · rw [fCt_l] at hi'
    obtain ⟨u, hu⟩ : ∃ u, (fCt ln v)[i]? = some u := ⟨_, List.getElem?_eq_getElem (by rw [fCt_l]; exact hi')⟩
    obtain ⟨c1, c2, c3⟩ := fCt_w ln v i u hsum hu
    have eu : (fCt ln v).getD i (nmF 0) = u := by rw [List.getD_eq_getElem?_getD, hu]; rfl
    have b := (ha.2 i hi').2
    rw [eu, c3, e80, sg_F_ga f' rfl]
    exact ⟨(ha.2 i hi').1, by omega, by omega⟩
  · rw [fCt_l]; exact v'.2.2.1
  · rw [e82, fCt_f ln v hsum]; exact yX_up x' hi
theorem ah_sum {v0 : List vaF} (j : Nat) : ahF v0 j = ((v0.map (fun v => (itF v).length)).take j).sum := by
  unfold ahF
  rw [flF_l, List.map_take]
theorem tk_dv {l : List vaF} {p i : Nat} (h : p + i < l.length) : (l.drop p).take (i + 1) = (l.drop p).take i ++ [l.getD (p + i) (nmF 0)] := by
  rw [List.take_add_one, List.getElem?_drop, gD_i h]
  rfl
abbrev shY : List Nat := [70, 78, 79, 80, 81, 82, 83, 85, 86, 87, 11061, 11077, 12077, 13077, 14077, 15077, 16077, 17077, 18077, 19077]
section CPS
variable {σ : sg_S} {Q : sg_S → Prop}
theorem f_shortenX {a ch c : Int} {n dg dc : Nat} {v0 cv : List vaF} {s : fSt} (ha : 0 ≤ a ∧ a < 200) (hm : mC σ c) (hs : ctX σ s) (hc : 4 ≤ c) (h69 : sg_g σ 69 a = n) (hn : n ≤ 6000) (hg : yX σ (dg + 1) (sg_g σ 70 a) v0) (hgl : v0.length = n) (hmm : (v0.map (fun v => (itF v).length)).sum = cv.length) (hch : yX σ dc ch cv) (k1 : fStp (n : Int) s = none → ∀ σ', sg_F shY σ σ' → sg_g σ' 61 10 = 8 → ctX σ' s → Q σ') (k2 : ∀ s1, fStp (n : Int) s = some s1 → ∀ σ', sg_F shY σ σ' → mC σ' c → ctX σ' s1 → yEx σ σ' → (∀ i, ¬ i = a → sg_g σ' 70 i = sg_g σ 70 i) → rwX σ' (sg_g σ' 70 a) (ctL (v0.map (fun v => (itF v).length)) cv) → Q σ') : V_fShorten σ a ch Q := by
  obtain ⟨m1, m2, m3, m4, m5⟩ := id hm
  generalize hG : sg_g σ 70 a = G at *
  obtain ⟨ln, hln⟩ : ∃ ln, ln = v0.map (fun v => (itF v).length) := ⟨_, rfl⟩
  rw [← hln] at k2 hmm
  have lnl : ln.length = n := by rw [hln, List.length_map]; exact hgl
  have lg : ∀ j, j < n → ln.getD j 0 = (itF (v0.getD j (nmF 0))).length := fun j hj => by rw [hln]; exact ln_g (by omega)
  have as : ∀ j, ahF v0 j = (ln.take j).sum := fun j => by rw [hln]; exact ah_sum j
  have cl := ctL_l ln cv
  have ci := fun (i : Nat) (hi : i < ln.length) => ctL_i (c := cv) hmm hi
  obtain ⟨C, hC⟩ : ∃ C, C = ctL ln cv := ⟨_, rfl⟩
  rw [← hC] at k2 cl ci
  have gD : ∀ (j : Nat), j < n → C.getD j 0 ≤ 200 := fun j hj => by
    rw [ci j (by omega)]
    have a1 := cwF_le true ((cv.drop (ln.take j).sum).take (ln.getD j 0))
    rw [List.length_take] at a1
    have a2 := (yX_ln m1 hg (j := j) (by omega)).2.2.2.1
    rw [← lg j hj] at a2
    omega
  unfold V_fShorten
  rw [xa_in ha, xa_in ha, h69, hG]
  refine ⟨fun m' v σ2 => ∃ j : Nat, v = j ∧ j ≤ n ∧ m' = n - j ∧ toX σ2 0 ((List.range j).map (fun i : Nat => (C.getD i 0 : Int))) [] [] 0, fun σ2 => toX σ2 0 ((List.range n).map (fun i : Nat => (C.getD i 0 : Int))) [] [] 0, ⟨_, 0, rfl, Nat.zero_le _, rfl, toX_0 m2 0⟩, ?_, ?_⟩
  · rintro m' v σ2 rv f2 ⟨j, rfl, hj, hm', hI⟩
    refine ⟨fun z => by rw [show n = j by omega]; exact hI, fun z => ?_⟩
    obtain ⟨l1, l2, l3, l4, l5, l6, l7, l8⟩ := yX_ln m1 hg (j := j) (by omega)
    rw [← lg j (by omega)] at l1 l3 l4 l5
    have ab := ahF_b (l := v0) (i := j) (by omega)
    have fls : (flF v0).length = cv.length := by rw [flF_l, ← hln, hmm]
    rw [← lg j (by omega), fls] at ab
    rw [l2, l3]
    refine ⟨l8, l7, fun n2 v33 v34 => ∃ i : Nat, v34 = (ahF v0 j : Int) + i ∧ i ≤ ln.getD j 0 ∧ n2 = ln.getD j 0 - i ∧ v33 = (cwF true ((cv.drop (ahF v0 j)).take i) : Int), fun v33 => v33 = (C.getD j 0 : Int), ⟨_, 0, by omega, Nat.zero_le _, rfl, rfl⟩, ?_, ?_⟩
    · rintro n2 v33 v34 r33 r34 ⟨i, rfl, hi, hn2, hv⟩
      have cb := cwF_le true ((cv.drop (ahF v0 j)).take i)
      rw [List.length_take] at cb
      refine ⟨fun y => ?_, fun y => ?_⟩
      · rw [hv, ci j (by omega), ← as j, show ln.getD j 0 = i by omega]
      · obtain ⟨x1, x2⟩ := yX_cell m1 hch (i := ahF v0 j + i) (by omega)
        rw [show ((ahF v0 j + i : Nat) : Int) = (ahF v0 j : Int) + i by omega] at x1 x2
        have ce := ch_b (w := 1) (b := true) (Or.inl ⟨rfl, rfl⟩) x1
        refine ⟨ch_p x2, fun v62 e62 r62 => ?_⟩
        have v01 : 0 ≤ v62 ∧ v62 ≤ 1 := by rw [e62]; split <;> omega
        refine ⟨⟨by omega, by omega⟩, ⟨by omega, by omega⟩, ln.getD j 0 - (i + 1), by omega, i + 1, by omega, by omega, rfl, ?_⟩
        rw [tk_dv (by omega), cwF_a, cwF_1, hv, e62]
        by_cases r : v_fChosen σ ch ((ahF v0 j : Int) + i) 1 = 0
        · rw [if_pos r, if_neg (ce.mp r)]; omega
        · rw [if_neg r, if_pos (Decidable.byContradiction (fun c => r (ce.mpr c)))]; omega
    · rintro v33 r33 hv
      have g2 := gD j (by omega)
      refine t_first hI (by rw [List.length_map, List.length_range]; omega) r33 (fun σ' t' f' _ => ⟨⟨by omega, by omega⟩, n - (j + 1), by omega, j + 1, by omega, by omega, rfl, ?_⟩)
      rw [mrs (fun i : Nat => (C.getD i 0 : Int)), ← hv]
      exact t'
  · intro σ2 f2 hI
    have ex2 : yEx σ σ2 := yEx_F f2 rfl
    have w2 : sg_g σ2 77 10 = sg_g σ 77 10 := sg_F_g f2 rfl
    have s2 : sg_g σ2 77 17 = sg_g σ 77 17 := sg_F_g f2 rfl
    have c2 : ctX σ2 s := ctX_F f2 rfl hs
    obtain ⟨L, hL⟩ : ∃ L : List vaF, L = (List.range n).map (fun i : Nat => nmF (C.getD i 0 : Int)) := ⟨_, rfl⟩
    have Ll : L.length = n := by rw [hL, List.length_map, List.length_range]
    have eF : (List.range n).map (fun i : Nat => (C.getD i 0 : Int)) = L.map (fun v => v []) := by rw [hL, List.map_map]; rfl
    rw [eF] at hI
    obtain ⟨q1, q2, q3, q4⟩ := toX_s (f := 1) (D := 0) (L := L) hI (Or.inr (Or.inl ⟨rfl, rfl, rfl, Or.inl ⟨rfl, rfl⟩⟩)) (Or.inr ⟨by decide, rfl⟩)
    have eX : exF 0 L = (n : Int) := by show (L.length : Int) = _; rw [Ll]
    rw [eX] at q2
    refine x_seal (D := 0) (f := 1) (L := L) (e := 0) (yG_F m1 f2 rfl) (by omega) (by omega) (by decide) q4 q3 q1 (fun z => by rw [eX]; exact q2 z) (by decide) (fun σ17 f17 y17 h17 _ r16 _ σ22 e22 σ25 e25 => ?_)
    rw [xp_in ha] at e22
    have f22 : sg_F [70] σ17 σ22 := by rw [e22]; exact sg_F_w (sg_F_r _ _) rfl _
    have f25 : sg_F [11061] σ22 σ25 := by rw [e25]; exact sg_F_w (sg_F_r _ _) rfl _
    have f1725 : sg_F [70, 11061] σ17 σ25 := sg_F_t (sg_F_m f22 rfl) (sg_F_m f25 rfl)
    have F : sg_F shY σ σ25 := sg_F_t (sg_F_t (sg_F_m f2 rfl) (sg_F_m f17 rfl)) (sg_F_m f1725 rfl)
    have e10 : sg_g σ25 61 10 = sg_g σ17 77 18 := by rw [e25, sg_gw_e _ _ _ _ (sg_Rg _ _ _)]
    have e70 : sg_g σ25 70 a = sg_g σ2 77 10 := by rw [sg_F_ga f25 rfl, e22, sg_gw_e _ _ _ _ r16]
    have e24 : sg_g σ25 61 24 = s.2.2 := by rw [sg_F_g F (by rfl)]; exact hs.2.2.1
    have c1 := hs.1
    have c4 := hs.2.2.2
    unfold seR at h17
    rw [c2.1, c2.2.1, eX] at h17
    rcases h17 with ⟨z1, z2, z3, z4⟩ | ⟨z1, z2, z3, z4, z5, z6, z7, z8⟩
    · exact k1 (fStp_n.mpr z1) σ25 F (by rw [e10]; exact z2) ⟨by rw [sg_F_g f1725 (by rfl)]; exact z3, by rw [sg_F_g f1725 (by rfl)]; exact z4, e24, hs.2.2.2⟩
    · have ex25 : yEx σ17 σ25 := yEx_F f1725 rfl
      refine k2 _ (fStp_e z1) σ25 F ⟨yG_F z6 f1725 rfl, y0_F y17 f1725 rfl, by rw [e10]; exact z2, by rw [sg_F_g f1725 (by rfl), sg_F_g f1725 (by rfl)]; omega, by rw [sg_F_g f1725 (by rfl)]; omega⟩ ⟨by rw [sg_F_g f1725 (by rfl)]; exact z3, by rw [sg_F_g f1725 (by rfl)]; exact z4, e24, by simp only; omega, by simp only; omega⟩ (yEx_t ex2 (yEx_t z5 ex25)) (fun i hi => by rw [sg_F_ga f25 rfl, e22, sg_gw_k _ _ _ _ _ _ hi, sg_F_ga f17 rfl, sg_F_ga f2 rfl]) ?_
      have z9 := yX_up ex25 z7
      rw [e70]
      refine ⟨by rw [cl, lnl, ← Ll]; exact z9.1, fun i hi => ⟨?_, gD i (by omega)⟩⟩
      rw [z9.2 i (by omega)]
      rw [hL, List.getD_eq_getElem?_getD, List.getElem?_map, List.getElem?_range (by omega)]
      rfl
end CPS
theorem tl_g (b : List vaF) (k : Nat) : b.tail.getD k (nmF 0) = b.getD (k + 1) (nmF 0) := by
  cases b with
  | nil => simp
  | cons v r => rfl
theorem hd_g (b : List vaF) : b.headD (nmF 0) = b.getD 0 (nmF 0) := by
  cases b with
  | nil => rfl
  | cons v r => rfl
theorem fMg_s : ∀ (c a b : List vaF) (x : vaF), fMg (c ++ [x]) a b = fMg c a b ++ [if x [] = 0 then b.getD (cwF false c) (nmF 0) else a.getD (cwF true c) (nmF 0)]
  | [], a, b, x => by
    simp only [List.nil_append, fMg]
    by_cases h : x [] = 0
    · rw [if_pos h, if_pos h, hd_g]; rfl
    · rw [if_neg h, if_neg h, hd_g]; rfl
  | v :: c, a, b, x => by
    simp only [List.cons_append, fMg]
    rw [cwF_c, cwF_c]
    by_cases h : v [] = 0
    · rw [if_pos h, if_pos h, fMg_s c a b.tail x, List.cons_append, tl_g]
      simp [h]
    · rw [if_neg h, if_neg h, fMg_s c a.tail b x, List.cons_append, tl_g]
      simp [h]
