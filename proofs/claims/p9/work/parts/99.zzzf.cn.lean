/-! slots sealed anew, exactly; narrow of the class. -/
theorem map_inj {f : Int → Int} : ∀ {J : List Int}, (J.map f).Nodup → ∀ y ∈ J, ∀ z ∈ J, f y = f z → y = z
  | [], _, y, hy, _, _, _ => by cases hy
  | j :: J, h, y, hy, z, hz, e => by
    simp only [List.map_cons, List.nodup_cons] at h
    rcases List.mem_cons.mp hy with a | a <;> rcases List.mem_cons.mp hz with b | b
    · rw [a, b]
    · exact absurd (List.mem_map.mpr ⟨z, b, by rw [← e, a]⟩) h.1
    · exact absurd (List.mem_map.mpr ⟨y, a, by rw [e, b]⟩) h.1
    · exact map_inj h.2 y a z b e
theorem nin_t {W : List Int} (hN : W.Nodup) {i : Nat} {x : Int} (hx : W[i]? = some x) : x ∉ W.take i := fun q => by
  have hi := gE_l hx
  obtain ⟨q', hq, e⟩ := List.mem_take_iff_getElem.mp q
  rw [List.getElem?_eq_getElem hi] at hx
  have := (List.getElem_inj hN).mp (e.trans (Option.some.inj hx).symm)
  omega
/-- lanes that are chosen among the first j -/
def whJ (b : Bool) (c : List vaF) (j : Nat) : List Nat := (List.range j).filter (fun i : Nat => decide ((c.getD i (nmF 0)) [] = 0) != b)
theorem whJ_s (b : Bool) (c : List vaF) (j : Nat) : whJ b c (j + 1) = whJ b c j ++ (if (decide ((c.getD j (nmF 0)) [] = 0) != b) = true then [j] else []) := by
  unfold whJ
  rw [List.range_succ, List.filter_append]
  congr 1
  by_cases h : (decide ((c.getD j (nmF 0)) [] = 0) != b) = true
  · rw [if_pos h]
    exact List.filter_cons_of_pos (p := fun i : Nat => decide ((c.getD i (nmF 0)) [] = 0) != b) h
  · rw [if_neg h]
    exact List.filter_cons_of_neg (p := fun i : Nat => decide ((c.getD i (nmF 0)) [] = 0) != b) h
theorem whJ_l (b : Bool) (c : List vaF) (j : Nat) : (whJ b c j).length ≤ j := by
  have := List.length_filter_le (fun i : Nat => decide ((c.getD i (nmF 0)) [] = 0) != b) (List.range j)
  rw [List.length_range] at this
  exact this
theorem ch_b {σ : sg_S} {ch w x l : Int} {b : Bool} (hw : (w = 1 ∧ b = true) ∨ (w = 0 ∧ b = false)) (h : v_lCell σ ch l = x) : v_fChosen σ ch l w = 0 ↔ ¬ (decide (x = 0) != b) = true := by
  unfold v_fChosen
  rw [h]
  rcases hw with ⟨rfl, rfl⟩ | ⟨rfl, rfl⟩ <;> by_cases c : x = 0 <;> simp [c]
theorem x_sealP {σ : sg_S} {D f : Int} {Q : Int → sg_S → Prop} (oo : ¬ sg_g σ 77 15 = 0) (k : ∀ σ', sg_F seL σ σ' → sg_g σ' 77 18 = 8 → sg_g σ' 77 17 = sg_g σ 77 17 → sg_g σ' 77 16 = sg_g σ 77 16 → (∀ v, sg_g σ' 80 v = sg_g σ 80 v) → Q (sg_g σ 77 10) σ') : V_lSeal σ D f Q := by
  unfold V_lSeal
  refine ⟨fun m v σ2 => σ2 = σ ∧ v = 0, fun σ2 => σ2 = σ, ⟨0, rfl, rfl⟩, ?_, ?_⟩
  · rintro m v σ2 rv f2 ⟨e, -⟩
    subst e
    exact ⟨fun _ => rfl, fun _ => ⟨fun _ => rfl, fun y => absurd y oo⟩⟩
  · rintro σ2 f2 e
    subst e
    refine ⟨fun σ19 => sg_g σ19 77 18 = 8 ∧ sg_g σ19 77 17 = sg_g σ2 77 17 ∧ sg_g σ19 77 16 = sg_g σ2 77 16, ⟨fun z σ28 e28 σ31 e31 => ⟨?_, ?_, ?_⟩, fun z => absurd z oo⟩, fun σ19 f19 h19 => ?_⟩
    · rw [e31, sg_gw_k _ _ _ _ _ _ (by decide), e28, sg_gw_e _ _ _ _ (by decide)]
    · rw [e31, sg_gw_k _ _ _ _ _ _ (by decide), e28, sg_gw_k _ _ _ _ _ _ (by decide)]
    · rw [e31, sg_gw_e _ _ _ _ (sg_Rg _ _ _)]
    · refine x_reset (fun σ13 _ f13 _ => k σ13 (sg_F_t (sg_F_m f19 rfl) (sg_F_m f13 rfl)) ?_ ?_ ?_ (fun v => ?_))
      · rw [sg_F_g f13 (by rfl)]; exact h19.1
      · rw [sg_F_g f13 (by rfl)]; exact h19.2.1
      · rw [sg_F_g f13 (by rfl)]; exact h19.2.2
      · rw [sg_F_ga f13 rfl, sg_F_ga f19 rfl]
section CNS
variable {σ : sg_S} {Q : sg_S → Prop}
theorem f_resealX {σ2 σ50 : sg_S} {x c : Int} {d : Nat} {L : List vaF} {s : fSt} {R : sg_S → Prop} (hc : 4 ≤ c) (hm : mC σ2 c) (hs : ctX σ2 s) (hx2 : 0 ≤ x ∧ x < 272) (hd : d ≤ 3) (f50 : sg_F [85, 86, 87, 14077, 16077] σ2 σ50) (hA : toX σ50 d [] [] L 0 ∨ (¬ sg_g σ50 77 15 = 0 ∧ 6000 < exF d L)) (k1 : fStp (exF d L) s = none → ∀ σ73, sg_F nrL σ2 σ73 → sg_g σ73 61 10 = 8 → ctX σ73 s → (∀ v, 0 ≤ v → v < sg_g σ2 77 10 → sg_g σ73 80 v = sg_g σ2 80 v) → R σ73) (k2 : ∀ s1, fStp (exF d L) s = some s1 → ∀ σ73, sg_F nrL σ2 σ73 → mC σ73 c → ctX σ73 s1 → yEx σ2 σ73 → yX σ73 d (sg_g σ73 62 x) L → (∀ y, ¬ y = x → sg_g σ73 62 y = sg_g σ2 62 y) → R σ73) : V_lSeal σ50 d 0 (fun q64 σ65 => sg_R q64 → sg_F [78, 79, 80, 81, 82, 85, 86, 87, 11077, 12077, 13077, 14077, 15077, 16077, 17077, 18077, 19077] σ50 σ65 → ∀ σ70, σ70 = (sx_put σ65 62 272 x q64) → ∀ σ73, σ73 = (sg_w σ70 61 10 ((sg_g σ65 77 18))) → R σ73) := by
  obtain ⟨m1, m2, m3, m4, m5⟩ := id hm
  have ex50 : yEx σ2 σ50 := yEx_F f50 rfl
  have w50 : sg_g σ50 77 10 = sg_g σ2 77 10 := sg_F_g f50 rfl
  have s50 : sg_g σ50 77 17 = sg_g σ2 77 17 := sg_F_g f50 rfl
  have c50 : ctX σ50 s := ctX_F f50 rfl hs
  have c1 := hs.1
  have c4 := hs.2.2.2
  have com : ∀ (σ65 : sg_S) (q64 : Int), sg_R q64 → sg_F seL σ50 σ65 → ∀ σ70, σ70 = (sx_put σ65 62 272 x q64) → ∀ σ73, σ73 = (sg_w σ70 61 10 ((sg_g σ65 77 18))) → sg_F [62, 11061] σ65 σ73 ∧ sg_F nrL σ2 σ73 ∧ sg_g σ73 61 10 = sg_g σ65 77 18 ∧ sg_g σ73 62 x = q64 ∧ (∀ y, ¬ y = x → sg_g σ73 62 y = sg_g σ2 62 y) ∧ sg_g σ73 61 24 = s.2.2 := fun σ65 q64 r64 f65 σ70 e70 σ73 e73 => by
    rw [xp_in hx2] at e70
    have f70 : sg_F [62] σ65 σ70 := by rw [e70]; exact sg_F_w (sg_F_r _ _) rfl _
    have f73 : sg_F [11061] σ70 σ73 := by rw [e73]; exact sg_F_w (sg_F_r _ _) rfl _
    have f6573 : sg_F [62, 11061] σ65 σ73 := sg_F_t (sg_F_m f70 rfl) (sg_F_m f73 rfl)
    have F : sg_F nrL σ2 σ73 := sg_F_t (sg_F_t (sg_F_m f50 rfl) (sg_F_m f65 rfl)) (sg_F_m f6573 rfl)
    exact ⟨f6573, F, by rw [e73, sg_gw_e _ _ _ _ (sg_Rg _ _ _)], by rw [sg_F_ga f73 rfl, e70, sg_gw_e _ _ _ _ r64], fun y hy => by rw [sg_F_ga f73 rfl, e70, sg_gw_k _ _ _ _ _ _ hy, sg_F_ga f65 rfl, sg_F_ga f50 rfl], by rw [sg_F_g F (by rfl)]; exact hs.2.2.1⟩
  rcases hA with hA | ⟨o1, o2⟩
  · obtain ⟨q1, q2, q3, q4⟩ := toX_s (f := 0) (D := d) (L := L) hA (Or.inl ⟨rfl, rfl, rfl, rfl⟩) (Or.inl rfl)
    refine x_seal (D := d) (f := 0) (L := L) (e := 0) (yG_F m1 f50 rfl) (by omega) (by omega) hd q4 q3 q1 q2 (by decide) (fun σ65 f65 y65 h65 h80 r64 _ σ70 e70 σ73 e73 => ?_)
    obtain ⟨f6573, F, e10, e62, o62, e24⟩ := com σ65 _ r64 f65 σ70 e70 σ73 e73
    unfold seR at h65
    rw [c50.1, c50.2.1] at h65
    rcases h65 with ⟨z1, z2, z3, z4⟩ | ⟨z1, z2, z3, z4, z5, z6, z7, z8⟩
    · exact k1 (fStp_n.mpr z1) σ73 F (by rw [e10]; exact z2) ⟨by rw [sg_F_g f6573 (by rfl)]; exact z3, by rw [sg_F_g f6573 (by rfl)]; exact z4, e24, hs.2.2.2⟩ (fun v a b => by rw [sg_F_ga f6573 rfl, h80 v a (by omega), sg_F_ga f50 rfl])
    · have ex73 : yEx σ65 σ73 := yEx_F f6573 rfl
      have xn := exF_n d L
      exact k2 _ (fStp_e z1) σ73 F ⟨yG_F z6 f6573 rfl, y0_F y65 f6573 rfl, by rw [e10]; exact z2, by rw [sg_F_g f6573 (by rfl), sg_F_g f6573 (by rfl)]; omega, by rw [sg_F_g f6573 (by rfl)]; omega⟩ ⟨by rw [sg_F_g f6573 (by rfl)]; exact z3, by rw [sg_F_g f6573 (by rfl)]; exact z4, e24, by simp only; omega, by simp only; omega⟩ (yEx_t ex50 (yEx_t z5 ex73)) (by rw [e62]; exact yX_up ex73 z7) o62
  · refine x_sealP o1 (fun σ65 f65 z2 z3 z4 h80 r64 _ σ70 e70 σ73 e73 => ?_)
    obtain ⟨f6573, F, e10, e62, o62, e24⟩ := com σ65 _ r64 f65 σ70 e70 σ73 e73
    exact k1 (fStp_n.mpr (Or.inr (by omega))) σ73 F (by rw [e10]; exact z2) ⟨by rw [sg_F_g f6573 (by rfl), z3]; exact c50.1, by rw [sg_F_g f6573 (by rfl), z4]; exact c50.2.1, e24, hs.2.2.2⟩ (fun v a b => by rw [sg_F_ga f6573 rfl, h80 v, sg_F_ga f50 rfl])
/-- variables are carried along -/
def nrX (σ σ' : sg_S) (Ob W : List Int) (sl ty : Int → Int) (c : Int) : (Int × fSt) ⊕ (fSt × fEv) → Prop
  | .inl p => ¬ p.1 = 0 ∧ sg_g σ' 61 10 = p.1 ∧ ctX σ' p.2
  | .inr p => mC σ' c ∧ yEx σ σ' ∧ ctX σ' p.1 ∧ (∀ y ∈ Ob, yX σ' (ty y).toNat (sg_g σ' 62 (sl y)) (p.2 y)) ∧ ∀ x, x ∉ W → sg_g σ' 62 x = sg_g σ 62 x
/-- some of them are carried along: i -/
def nrI (σ σ2 : sg_S) (Ob W : List Int) (sl ty : Int → Int) (c ch : Int) (ks : List Nat) (s : fSt) (ρ : fEv) (i : Nat) : Prop := (∃ s', fCa ty ks Ob s ρ = .inl (8, s') ∧ sg_g σ2 61 10 = 8 ∧ ctX σ2 s' ∧ sg_g σ2 80 ch = sg_g σ 80 ch) ∨ ∃ s2 ρ2, fCa ty ks (Ob.drop i) s2 ρ2 = fCa ty ks Ob s ρ ∧ mC σ2 c ∧ yEx σ σ2 ∧ ctX σ2 s2 ∧ (∀ y ∈ Ob.take i, yX σ2 (ty y).toNat (sg_g σ2 62 (sl y)) (ρ2 y)) ∧ (∀ x, x ∉ W.take i → sg_g σ2 62 x = sg_g σ 62 x) ∧ ∀ y, y ∉ Ob.take i → ρ2 y = ρ y
theorem nrI_0 {Ob W : List Int} {sl ty : Int → Int} {c ch : Int} {ks : List Nat} {s : fSt} {ρ : fEv} (hm : mC σ c) (hs : ctX σ s) : nrI σ σ Ob W sl ty c ch ks s ρ 0 := Or.inr ⟨s, ρ, rfl, hm, yEx_r _, hs, fun y hy => (by cases hy), fun _ _ => rfl, fun _ _ => rfl⟩
theorem nrI_e {σ2 : sg_S} {Ob W : List Int} {sl ty : Int → Int} {c ch : Int} {ks : List Nat} {s : fSt} {ρ : fEv} {i : Nat} (hi : Ob.length ≤ i ∨ ¬ sg_g σ2 61 10 = 0) (hl : Ob.length = W.length) (h : nrI σ σ2 Ob W sl ty c ch ks s ρ i) : nrX σ σ2 Ob W sl ty c (fCa ty ks Ob s ρ) := by
  rcases h with ⟨s', e1, e2, e3, e4⟩ | ⟨s2, ρ2, e1, e2, e3, e4, e5, e6, e7⟩
  · rw [e1]
    exact ⟨by show ¬ (8 : Int) = 0; decide, e2, e3⟩
  · rcases hi with hi | hi
    · rw [List.drop_of_length_le hi] at e1
      rw [List.take_of_length_le hi] at e5
      rw [List.take_of_length_le (by omega)] at e6
      rw [← e1]
      exact ⟨e2, e3, e4, e5, e6⟩
    · exact absurd e2.2.2.1 hi
/-- one more -/
theorem nrI_s {σ2 σ50 : sg_S} {Ob W : List Int} {sl ty : Int → Int} {c ch : Int} {ks : List Nat} {s : fSt} {ρ : fEv} {i : Nat} {y : Int} {s2 : fSt} {ρ2 : fEv} {R : sg_S → Prop} (hc : 4 ≤ c) (hch : 0 ≤ ch ∧ ch < sg_g σ 77 10) (hOW : Ob.map sl = W) (hN : W.Nodup) (hy : Ob[i]? = some y) (hsl : 0 ≤ sl y ∧ sl y < 272) (hd : (ty y).toNat ≤ 3) (e1 : fCa ty ks (Ob.drop i) s2 ρ2 = fCa ty ks Ob s ρ) (e2 : mC σ2 c) (e3 : yEx σ σ2) (e4 : ctX σ2 s2) (e5 : ∀ y ∈ Ob.take i, yX σ2 (ty y).toNat (sg_g σ2 62 (sl y)) (ρ2 y)) (e6 : ∀ x, x ∉ W.take i → sg_g σ2 62 x = sg_g σ 62 x) (e7 : ∀ y, y ∉ Ob.take i → ρ2 y = ρ y) (f2 : sg_F nrL σ σ2) (f50 : sg_F [85, 86, 87, 14077, 16077] σ2 σ50) (hA : toX σ50 (ty y).toNat [] [] (fPk (ρ y) ks) 0 ∨ (¬ sg_g σ50 77 15 = 0 ∧ 6000 < exF (ty y).toNat (fPk (ρ y) ks))) (k : ∀ σ73, sg_F nrL σ σ73 → nrI σ σ73 Ob W sl ty c ch ks s ρ (i + 1) → R σ73) : V_lSeal σ50 (ty y).toNat 0 (fun q64 σ65 => sg_R q64 → sg_F [78, 79, 80, 81, 82, 85, 86, 87, 11077, 12077, 13077, 14077, 15077, 16077, 17077, 18077, 19077] σ50 σ65 → ∀ σ70, σ70 = (sx_put σ65 62 272 (sl y) q64) → ∀ σ73, σ73 = (sg_w σ70 61 10 ((sg_g σ65 77 18))) → R σ73) := by
  have ndO : Ob.Nodup := by rw [← hOW] at hN; exact nd_map hN
  have hx : W[i]? = some (sl y) := by rw [← hOW, List.getElem?_map, hy]; rfl
  have nin := nin_t ndO hy
  have ninW := nin_t hN hx
  have ry := e7 y nin
  have hi := gE_l hy
  have eq : fCa ty ks Ob s ρ = (match fStp (exF (ty y).toNat (fPk (ρ y) ks)) s2 with
      | none => .inl (8, s2)
      | some s1 => fCa ty ks (Ob.drop (i + 1)) s1 (fun x => if x = y then fPk (ρ y) ks else ρ2 x)) := by
    rw [← e1, dr_c hy]
    simp only [fCa]
    rw [ry]
    cases fStp (exF (ty y).toNat (fPk (ρ y) ks)) s2 <;> rfl
  have tkO : Ob.take (i + 1) = Ob.take i ++ [y] := by rw [List.take_add_one, hy]; rfl
  have tkW : W.take (i + 1) = W.take i ++ [sl y] := by rw [List.take_add_one, hx]; rfl
  refine f_resealX hc e2 e4 hsl hd f50 hA (fun z σ73 F73 q1 q2 q3 => k σ73 (sg_F_t f2 F73) (Or.inl ⟨s2, by rw [eq, z], q1, q2, ?_⟩)) (fun s1 z σ73 F73 q1 q2 q3 q4 q5 => k σ73 (sg_F_t f2 F73) (Or.inr ⟨s1, fun x => if x = y then fPk (ρ y) ks else ρ2 x, by rw [eq, z], q1, yEx_t e3 q3, q2, fun y' hy' => ?_, fun x hx' => ?_, fun y' hy' => ?_⟩))
  · rw [q3 ch hch.1 (by have := e3.1.1; omega)]
    exact (e3.2.1 ch hch.1 hch.2).1
  · rw [tkO] at hy'
    show yX σ73 (ty y').toNat (sg_g σ73 62 (sl y')) (if y' = y then fPk (ρ y) ks else ρ2 y')
    by_cases c1 : y' = y
    · rw [if_pos c1, c1]; exact q4
    · rw [if_neg c1]
      rcases List.mem_append.mp hy' with q | q
      · have hne : ¬ sl y' = sl y := fun w => c1 (map_inj (by rw [hOW]; exact hN) y' (List.mem_of_mem_take q) y (List.mem_of_getElem? hy) w)
        rw [q5 _ hne]
        exact yX_up q3 (e5 y' q)
      · exact absurd (by simpa using q) c1
  · rw [tkW] at hx'
    have h1 : x ∉ W.take i := fun q => hx' (List.mem_append_left _ q)
    have h2 : ¬ x = sl y := fun q => hx' (by simp [q])
    rw [q5 x h2]; exact e6 x h1
  · rw [tkO] at hy'
    have h1 : y' ∉ Ob.take i := fun q => hy' (List.mem_append_left _ q)
    have h2 : ¬ y' = y := fun q => hy' (by simp [q])
    show (if y' = y then fPk (ρ y) ks else ρ2 y') = ρ y'
    rw [if_neg h2]; exact e7 y' h1
theorem fPk_a (l : List vaF) (a b : List Nat) : fPk l (a ++ b) = fPk l a ++ fPk l b := by unfold fPk; rw [List.map_append]
theorem f_narrowX {W Ob : List Int} {sl ty : Int → Int} {ch w c : Int} {n dc : Nat} {b : Bool} {cv : List vaF} {s : fSt} {ρ : fEv} (hm : mC σ c) (hs : ctX σ s) (hc : 4 ≤ c) (hn : n ≤ 6000) (hch : yX σ dc ch cv) (hcl : cv.length = n) (hwb : (w = 1 ∧ b = true) ∨ (w = 0 ∧ b = false)) (hw : wl σ W) (h200 : W.length ≤ 200) (hOW : Ob.map sl = W) (hT : ∀ y ∈ Ob, (0 ≤ sl y ∧ sl y < 272) ∧ (ty y).toNat ≤ 3 ∧ sg_g σ 34 (sl y) = (ty y).toNat ∧ yX σ (ty y).toNat (sg_g σ 62 (sl y)) (ρ y) ∧ (ρ y).length = n) (k : ∀ σ', sg_F (24061 :: nrL) σ σ' → nrX σ σ' Ob W sl ty c (fCa ty (fWh b cv) Ob s ρ) → (sg_g σ' 61 10 = 0 → sg_g σ' 61 23 = (fWh b cv).length) → Q σ') : V_fNarrow σ ch w (n : Int) Q := by
  obtain ⟨w1, w2, w3⟩ := id hw
  have gg := hm.1
  have lenO : Ob.length = W.length := by rw [← hOW, List.length_map]
  have hchr := (yX_c hch).1
  have c80 := gg.2.2.1 ch hchr.1.1 hchr.1.2
  have u6 := gg.2.1
  have whn : fWh b cv = whJ b cv n := by unfold fWh whJ; rw [hcl]
  unfold V_fNarrow
  rw [w1]
  refine ⟨fun m v σ2 => ∃ i : Nat, v = i ∧ i ≤ W.length ∧ m = W.length - i ∧ nrI σ σ2 Ob W sl ty c ch (fWh b cv) s ρ i, fun σ2 => ∃ i, (Ob.length ≤ i ∨ ¬ sg_g σ2 61 10 = 0) ∧ nrI σ σ2 Ob W sl ty c ch (fWh b cv) s ρ i, ⟨_, 0, rfl, Nat.zero_le _, rfl, nrI_0 hm hs⟩, ?_, ?_⟩
  · rintro m v σ2 rv f2 ⟨i, rfl, hi, hm', hI⟩
    refine ⟨fun z => ⟨i, Or.inl (by omega), hI⟩, fun z => ⟨fun y => ⟨i, Or.inr y, hI⟩, fun y0' => ?_⟩⟩
    rcases hI with ⟨s', -, q, -⟩ | ⟨s2, ρ2, e1, e2, e3, e4, e5, e6, e7⟩
    · rw [q] at y0'; exact absurd y0' (by decide)
    obtain ⟨y, hy⟩ : ∃ y, Ob[i]? = some y := ⟨_, List.getElem?_eq_getElem (by omega)⟩
    have hx : W[i]? = some (sl y) := by rw [← hOW, List.getElem?_map, hy]; rfl
    obtain ⟨t1, t2, t3, t4, t5⟩ := hT y (List.mem_of_getElem? hy)
    have v62 := e6 (sl y) (nin_t (wl_nd w3) hx)
    rw [xa_in (a := 74) ⟨by omega, by omega⟩, w2 i (sl y) hx, xa_in (a := 62) t1, xa_in (a := 34) t1, v62, t3]
    have xv := yX_up e3 t4
    have xw := (yX_c xv).1.1
    have g10 := e2.1.1
    refine ⟨fun m2 v49 σ50 => ∃ j : Nat, v49 = j ∧ j ≤ n ∧ m2 = n - j ∧ toX σ50 (ty y).toNat [] [] (fPk (ρ y) (whJ b cv j)) 0, fun σ50 => toX σ50 (ty y).toNat [] [] (fPk (ρ y) (fWh b cv)) 0, ⟨_, 0, rfl, Nat.zero_le _, rfl, toX_0 e2.2.1 _⟩, ?_, ?_⟩
    · rintro m2 v49 σ50 r49 f50 ⟨j, rfl, hj, hm2, hA⟩
      refine ⟨fun q => by rw [whn, show n = j by omega]; exact hA, fun q => ?_⟩
      have ex50 : yEx σ2 σ50 := yEx_F f50 rfl
      obtain ⟨x1, x2⟩ := yX_cell e2.1 (yX_up e3 hch) (i := j) (by omega)
      have cb := ch_b hwb x1
      have wl' := whJ_l b cv j
      refine ⟨ch_p x2, fun σ83 => toX σ83 (ty y).toNat [] [] (fPk (ρ y) (whJ b cv (j + 1))) 0, ⟨fun r => ?_, fun r => ⟨⟨by omega, by omega⟩, ?_⟩⟩, fun σ83 f83 h83 => ⟨⟨by omega, by omega⟩, n - (j + 1), by omega, j + 1, by omega, by omega, rfl, h83⟩⟩
      · rw [whJ_s, if_neg (cb.mp r), List.append_nil]; exact hA
      · have pk : pkX σ2 (ty y).toNat (sg_g σ 62 (sl y)) (j : Int) ((j : Int) + 1) [(ρ y).getD j (nmF 0)] := by
          refine Or.inr ⟨ρ y, xv, by omega, by omega, by omega, ?_⟩
          rw [Int.toNat_natCast, show ((j : Int) + 1 - j).toNat = 1 by omega, dr_D (by omega : j < (ρ y).length)]
          rfl
        refine t_pick hA (by rw [fPk_l]; omega) (pkX_up ex50 pk) (sg_Rg _ _ _) ⟨by omega, by omega⟩ (fun σ3 t3 f3 _ => ?_)
        rw [whJ_s, if_pos (Decidable.byContradiction (fun c => r (cb.mpr c))), fPk_a]
        exact t3
    · intro σ50 f50 hA
      exact nrI_s hc hchr.1 hOW (wl_nd w3) hy t1 t2 e1 e2 e3 e4 e5 e6 e7 f2 f50 (Or.inl hA) (fun σ73 F73 h73 => ⟨⟨by omega, by omega⟩, W.length - (i + 1), by omega, i + 1, by omega, by omega, rfl, h73⟩)
  · rintro σ2 f2 ⟨i, hi, hI⟩ σ16 e16
    have f16 : sg_F [24061] σ2 σ16 := by rw [e16]; exact sg_F_w (sg_F_r _ _) rfl _
    have e80 : sg_g σ2 80 ch = sg_g σ 80 ch := by
      rcases hI with ⟨s', -, -, -, q⟩ | ⟨s2, ρ2, -, -, q, -⟩
      · exact q
      · exact (q.2.1 ch hchr.1.1 hchr.1.2).1
    have pc : ∀ l, 0 ≤ l → l < (n : Int) → p_fChosen σ2 ch l w := fun l a b => ch_p (p_cell80 (by rw [e80]; omega) (by omega))
    refine ⟨fun m v σ20 => ∃ j : Nat, v = j ∧ j ≤ n ∧ m = n - j ∧ sg_g σ20 61 23 = cnF σ2 ch w j ∧ (sg_g σ2 61 10 = 0 → sg_g σ20 61 23 = (whJ b cv j).length), fun σ20 => sg_g σ2 61 10 = 0 → sg_g σ20 61 23 = (whJ b cv n).length, ⟨_, 0, rfl, Nat.zero_le _, rfl, by rw [e16, sg_gw_e _ _ _ _ (by decide)]; rfl, fun _ => by rw [e16, sg_gw_e _ _ _ _ (by decide)]; rfl⟩, ?_, ?_⟩
    · rintro m v σ20 rv f20 ⟨j, rfl, hj, hm', h23, h23'⟩
      refine ⟨fun z => by rw [show n = j by omega]; exact h23', fun z => ⟨pc j (by omega) z, fun v38 e38 r38 => ?_⟩⟩
      have cb := cnF_b σ2 ch w j
      have v01 : 0 ≤ v38 ∧ v38 ≤ 1 := by rw [e38]; split <;> omega
      refine ⟨⟨by omega, by omega⟩, fun σ42 e42 => ⟨⟨by omega, by omega⟩, n - (j + 1), by omega, j + 1, by omega, by omega, rfl, ?_, fun z0 => ?_⟩⟩
      · rw [e42, sg_gw_e _ _ _ _ ⟨by omega, by omega⟩, h23, e38]
        unfold cnF
        simp only [su]
        rw [show (0 : Int) + j = j by omega]
      · rw [e42, sg_gw_e _ _ _ _ ⟨by omega, by omega⟩, h23' z0, e38]
        rcases hI with ⟨s', -, q, -⟩ | ⟨s2, ρ2, e1, e2, e3, e4, e5, e6, e7⟩
        · rw [q] at z0; exact absurd z0 (by decide)
        obtain ⟨x1, x2⟩ := yX_cell e2.1 (yX_up e3 hch) (i := j) (by omega)
        have cb := ch_b hwb x1
        rw [whJ_s, List.length_append]
        by_cases r : v_fChosen σ2 ch j w = 0
        · rw [if_pos r, if_neg (cb.mp r)]
          simp
        · rw [if_neg r, if_pos (Decidable.byContradiction (fun c => r (cb.mpr c)))]
          simp
    · intro σ20 f20 h20
      have F : sg_F (24061 :: nrL) σ σ20 := sg_F_t (sg_F_t (sg_F_m f2 rfl) (sg_F_m f16 rfl)) (sg_F_m f20 rfl)
      have f220 : sg_F [24061] σ2 σ20 := sg_F_t f16 f20
      have e10 : sg_g σ20 61 10 = sg_g σ2 61 10 := sg_F_g f220 rfl
      refine k σ20 F ?_ (fun z => by rw [whn]; exact h20 (by rw [← e10]; exact z))
      have X := nrI_e hi lenO hI
      cases e : fCa ty (fWh b cv) Ob s ρ with
      | inl p =>
        rw [e] at X
        exact ⟨X.1, by rw [e10]; exact X.2.1, ctX_F f220 rfl X.2.2⟩
      | inr p =>
        rw [e] at X
        obtain ⟨⟨m1, m2, m3, m4, m5⟩, x2, x3, x4, x5⟩ := X
        have ex : yEx σ2 σ20 := yEx_F f220 rfl
        exact ⟨⟨yG_F m1 f220 rfl, y0_F m2 f220 rfl, by rw [e10]; exact m3, by rw [sg_F_g f220 (by rfl), sg_F_g f220 (by rfl)]; exact m4, by rw [sg_F_g f220 (by rfl)]; exact m5⟩, yEx_t x2 ex, ctX_F f220 rfl x3, fun y hy => by rw [sg_F_ga f220 rfl]; exact yX_up ex (x4 y hy), fun x hx => by rw [sg_F_ga f220 rfl]; exact x5 x hx⟩
end CNS
