/-! open. -/
abbrev onL : List Nat := [62, 70, 71, 72, 73, 74, 78, 79, 80, 81, 82, 85, 86, 87, 8061, 11061, 11077, 12077, 13077, 14077, 15077, 16077, 17077, 18077, 19077, 22061, 23061, 24061]
def opU (σ : sg_S) (lo hi gd glo ghi bd s : Int) : Prop := wnt σ lo hi bd s ∨ (0 ≤ gd ∧ wnt σ glo ghi bd s)
theorem opU_F {L : List Nat} {σ σ' : sg_S} {lo hi gd glo ghi bd s : Int} (f : sg_F L σ σ') (hL : (sg_ca L 3 && sg_ca L 16) = true) : opU σ' lo hi gd glo ghi bd s ↔ opU σ lo hi gd glo ghi bd s := by
  unfold opU
  rw [wnt_F f hL, wnt_F f hL]
/-- after open -/
def opR2 (σ σ' : sg_S) (a g n t sv c bd : Int) (dg : Nat → Nat) (W : List Int) (m : Int) : Prop := mC σ' c ∧ yEx σ σ' ∧ (∀ s ∈ W, ∀ d : Nat, sg_g σ 34 s = d → yV σ' d (sg_g σ' 62 s) m) ∧ (∀ i : Nat, (i : Int) < g → yV σ' (dg i) (sg_g σ' 62 (bd + i)) m) ∧ (∀ s, s ∉ W → ¬ (bd ≤ s ∧ s < bd + g) → sg_g σ' 62 s = sg_g σ 62 s) ∧ sg_g σ' 61 23 = m ∧ sg_g σ' 61 7 = t ∧ sg_g σ' 70 a = sg_g σ 64 t ∧ (∀ i, ¬ i = a → sg_g σ' 70 i = sg_g σ 70 i) ∧ sg_g σ' 61 22 = sv + W.length ∧ sg_g σ' 71 a = sv ∧ (∀ i, ¬ i = a → sg_g σ' 71 i = sg_g σ 71 i) ∧ svd σ σ' sv W ∧ (∀ i, i < sv → sg_g σ' 72 i = sg_g σ 72 i ∧ sg_g σ' 73 i = sg_g σ 73 i)
section OPN2
variable {σ : sg_S} {Q : sg_S → Prop}
theorem f_open {a g n t sv c bd lo hi gd glo ghi plo phi x : Int} {dg : Nat → Nat} (ha : 0 ≤ a ∧ a < 200) (hx : 0 ≤ x ∧ x < 200) (h13 : sg_g σ 13 a = g) (hg : 1 ≤ g ∧ g ≤ 4) (h8 : sg_g σ 8 a = x) (h11 : sg_g σ 11 x = lo) (h12 : sg_g σ 12 x = hi) (h14 : sg_g σ 14 a = gd) (hgd : 0 ≤ gd → gd < 200 ∧ sg_g σ 11 gd = glo ∧ sg_g σ 12 gd = ghi ∧ plo ≤ glo ∧ ghi ≤ phi) (hpp : plo ≤ lo ∧ hi ≤ phi ∧ 0 ≤ plo ∧ phi < 200) (h16 : sg_g σ 16 a = bd) (hbd : 0 ≤ bd ∧ bd + g ≤ 272) (hm : mC σ c) (hc : 4 ≤ c) (ht : sg_g σ 61 7 = t + g) (h0 : 0 ≤ t ∧ t + g ≤ 400) (h23 : sg_g σ 61 23 = n) (hn : 0 ≤ n ∧ n ≤ 6000) (hv : ∀ i : Nat, (i : Int) < g → yV σ (dg i + 1) (sg_g σ 64 (t + i)) n) (hsv : sg_g σ 61 22 = sv) (hs0 : 0 ≤ sv ∧ sv ≤ 2400 ∧ sv + (phi - plo + 1) ≤ 2400) (hT : ∀ s, opU σ lo hi gd glo ghi bd s → (0 ≤ s ∧ s < 272) ∧ ∃ d : Nat, d ≤ 3 ∧ sg_g σ 34 s = d ∧ yV σ d (sg_g σ 62 s) n) (k1 : ∀ σ', sg_F onL σ σ' → ¬ sg_g σ' 61 10 = 0 → Q σ') (k2 : ∀ σ' W, sg_F onL σ σ' → W.Nodup → (∀ s, s ∈ W ↔ opU σ lo hi gd glo ghi bd s) → (W.length : Int) ≤ phi - plo + 1 ∨ W = [] → opR2 σ σ' a g n t sv c bd dg W (su (sg_g σ 78) (sg_g σ 80 (sg_g σ 64 t)) n.toNat) → Q σ') : V_fOpen σ a Q := by
  have v0 := hv 0 (by omega)
  rw [show t + ((0 : Nat) : Int) = t by omega] at v0
  generalize hM : su (sg_g σ 78) (sg_g σ 80 (sg_g σ 64 t)) n.toNat = M at *
  unfold V_fOpen
  rw [xa_in (a := 13) ha, xa_in (a := 8) ha, xa_in (a := 14) ha, xa_in (a := 16) ha, h13, h8, h14, h16, ht, show t + g - g = t by omega, xa_in (a := 64) ⟨by omega, by omega⟩]
  refine ⟨⟨by omega, by omega⟩, fun σ2 e2 => ?_⟩
  have f2 : sg_F [8061] σ σ2 := by rw [e2]; exact sg_F_w (sg_F_r _ _) rfl _
  have t2 : sg_g σ2 61 7 = t := by rw [e2, sg_gw_e _ _ _ _ ⟨by omega, by omega⟩]
  have ex2 : yEx σ σ2 := yEx_F f2 rfl
  have g2 : yG σ2 := yG_F hm.1 f2 rfl
  refine f_asLong g2 hg hn.1 (by rw [sg_F_g f2 (by rfl)]; exact h23) t2 h0 (fun i hi => by rw [sg_F_ga f2 rfl]; exact yRw_up ex2 (yV_r (hv i hi))) (fun _ => ⟨fun z => absurd rfl z, fun _ σ80 e80 => ?_⟩) (fun hsame _ => ⟨fun _ σ12 e12 σ15 e15 => ?_, fun z => absurd z (by decide)⟩)
  · refine k1 σ80 (sg_F_t (sg_F_m f2 rfl) (by rw [e80]; exact sg_F_w (sg_F_r _ _) rfl _)) ?_
    rw [e80, sg_gw_e _ _ _ _ (by decide)]; decide
  · rw [xp_in ha] at e12
    have f12 : sg_F [70] σ2 σ12 := by rw [e12]; exact sg_F_w (sg_F_r _ _) rfl _
    have g70 : sg_g σ12 70 a = sg_g σ 64 t := by rw [e12, sg_gw_e _ _ _ _ (sg_Rg _ _ _)]
    have f15 : sg_F [22061] σ12 σ15 := by rw [e15]; exact sg_F_w (sg_F_r _ _) rfl _
    have F15 : sg_F [70, 8061, 22061] σ σ15 := sg_F_t (sg_F_t (sg_F_m f2 rfl) (sg_F_m f12 rfl)) (sg_F_m f15 rfl)
    rw [xa_in (a := 70) ha, g70]
    refine f_want (W0 := []) (lo := lo) (hi := hi) hx (by rw [sg_F_ga F15 rfl]; exact h11) (by rw [sg_F_ga F15 rfl]; exact h12) (by omega) ⟨by rw [e15, sg_gw_e _ _ _ _ (by decide)]; rfl, fun i y hy => by simp at hy, List.Pairwise.nil⟩ (by simp) (fun σ19 W1 f19 w19 m19 _ => ?_)
    have F19 : sg_F [70, 74, 8061, 22061] σ σ19 := sg_F_t (sg_F_m F15 rfl) (sg_F_m f19 rfl)
    have m19' : ∀ s, s ∈ W1 ↔ wnt σ lo hi bd s := fun s => by
      rw [m19 s, wnt_F F15 rfl]
      exact ⟨fun q => q.resolve_left (by simp), Or.inr⟩
    refine ⟨fun σ27 => ∃ W, wl σ27 W ∧ ∀ s, s ∈ W ↔ opU σ lo hi gd glo ghi bd s, ⟨fun z => ⟨W1, w19, fun s => by rw [m19' s]; unfold opU; exact ⟨Or.inl, fun q => q.resolve_right (fun r => by omega)⟩⟩, fun z => ?_⟩, ?_⟩
    · obtain ⟨z1, z2, z3, z4, z5⟩ := hgd z
      refine f_want (W0 := W1) (lo := glo) (hi := ghi) ⟨z, z1⟩ (by rw [sg_F_ga F19 rfl]; exact z2) (by rw [sg_F_ga F19 rfl]; exact z3) (by omega) w19 (fun s hs => ?_) (fun σ75 W f75 w75 m75 _ => ⟨W, w75, fun s => ?_⟩)
      · obtain ⟨j, q1, q2, q3, q4, q5⟩ := (m19' s).mp hs
        exact ⟨j, by omega, by omega, by rw [sg_F_ga F19 rfl]; exact q4⟩
      · rw [m75 s, m19' s, wnt_F F19 rfl]
        unfold opU
        exact ⟨fun q => q.imp id (fun r => ⟨z, r⟩), fun q => q.imp id (fun r => r.2)⟩
    · rintro σ27 f27 ⟨W, w27, m27⟩
      have F27 : sg_F [70, 74, 8061, 22061] σ σ27 := sg_F_t F19 (sg_F_m f27 rfl)
      have wN := wl_nd w27.2.2
      have wl1 := wit_len (f := sg_g σ 16) (a := plo) (b := phi) wN (fun s hs => by
        rcases (m27 s).mp hs with ⟨j, q1, q2, q3, q4, q5⟩ | ⟨z, j, q1, q2, q3, q4, q5⟩
        · exact ⟨j, by omega, by omega, q4⟩
        · have := hgd z
          exact ⟨j, by omega, by omega, q4⟩)
      have wl2 : (W.length : Int) ≤ 200 ∧ sv + W.length ≤ 2400 := by
        rcases wl1 with q | q
        · omega
        · rw [q]; simp only [List.length_nil]; omega
      have wbd : ∀ s ∈ W, s < bd := fun s hs => by
        rcases (m27 s).mp hs with ⟨j, q1, q2, q3, q4, q5⟩ | ⟨z, j, q1, q2, q3, q4, q5⟩ <;> exact q5
      refine f_save ha w27 (by omega) (fun s hs => (hT s ((m27 s).mp hs)).1) (sv := sv) (by rw [sg_F_g F27 (by rfl)]; exact hsv) (by omega) (fun σ31 f31 s1 s2 s3 s4 s5 _ => ?_)
      have F31 : sg_F [70, 71, 72, 73, 74, 8061, 22061, 23061] σ σ31 := sg_F_t (sg_F_m F27 rfl) (sg_F_m f31 rfl)
      have ex31 : yEx σ σ31 := yEx_F F31 rfl
      have w31 : wl σ31 W := ⟨by rw [sg_F_g f31 (by rfl)]; exact w27.1, fun i y hy => by rw [sg_F_ga f31 rfl]; exact w27.2.1 i y hy, w27.2.2⟩
      -- the slots of the generators, and the lanes
      have fin : ∀ σ37, sg_F nrL σ31 σ37 → (¬ sg_g σ37 61 10 = 0 ∨ nrR σ31 σ37 W c M) → (∃ (I45 : Nat → Int → sg_S → Prop) (X47 : sg_S → Prop), (∃ n, I45 n (0) σ37) ∧ (∀ (n55 : Nat) (v42 : Int) (σ43 : sg_S), sg_R v42 → sg_F [62] σ37 σ43 → I45 n55 v42 σ43 → ((g ≤ v42 → X47 σ43) ∧ (v42 < g → ((4 ≤ v42 → X47 σ43) ∧ (v42 < 4 → sg_R (bd + v42) ∧ sg_R (t + v42) ∧ p_lItems σ37 ((sx_at σ 64 400 (t + v42))) ∧ ∀ σ69, σ69 = (sx_put σ43 62 272 (bd + v42) ((v_lItems σ37 ((sx_at σ 64 400 (t + v42)))))) → sg_R (v42 + 1) ∧ (∃ m, m < n55 ∧ I45 m ((v42 + 1)) σ69)))))) ∧ (∀ (σ43 : sg_S), sg_F [62] σ37 σ43 → X47 σ43 → p_lItems σ37 (sg_g σ 64 t) ∧ ∀ σ60, σ60 = (sg_w σ43 61 23 ((v_lSize σ37 ((v_lItems σ37 (sg_g σ 64 t)))))) → Q σ60)) := by
        intro σ37 f37 h37
        have F37 : sg_F onL σ σ37 := sg_F_t (sg_F_m F31 rfl) (sg_F_m f37 rfl)
        refine ⟨fun m v σ43 => ∃ j : Nat, v = j ∧ (j : Int) ≤ g ∧ m = 4 - j ∧ (∀ i : Nat, i < j → sg_g σ43 62 (bd + i) = v_lItems σ37 (sg_g σ 64 (t + i))) ∧ (∀ s, ¬ (bd ≤ s ∧ s < bd + j) → sg_g σ43 62 s = sg_g σ37 62 s), fun σ43 => (∀ i : Nat, (i : Int) < g → sg_g σ43 62 (bd + i) = v_lItems σ37 (sg_g σ 64 (t + i))) ∧ (∀ s, ¬ (bd ≤ s ∧ s < bd + g) → sg_g σ43 62 s = sg_g σ37 62 s), ⟨_, 0, rfl, by omega, rfl, fun i hi => by omega, fun s _ => rfl⟩, ?_, ?_⟩
        · rintro m v σ43 rv f43 ⟨j, rfl, hj, hm', q1, q2⟩
          refine ⟨fun z => ⟨fun i hi => q1 i (by omega), fun s hs => q2 s (by omega)⟩, fun z => ⟨fun y => by omega, fun y => ⟨⟨by omega, by omega⟩, ⟨by omega, by omega⟩, y_pitems _ _, fun σ69 e69 => ?_⟩⟩⟩
          rw [xa_in ⟨by omega, by omega⟩, xp_in ⟨by omega, by omega⟩] at e69
          have ri : sg_R (v_lItems σ37 (sg_g σ 64 (t + j))) := by
            unfold v_lItems
            repeat' split
            all_goals first | exact sg_Rg _ _ _ | decide
          refine ⟨⟨by omega, by omega⟩, 4 - (j + 1), by omega, j + 1, by omega, by omega, rfl, fun i hi => ?_, fun s hs => ?_⟩
          · rw [e69]
            by_cases e : i = j
            · subst e; rw [sg_gw_e _ _ _ _ ri]
            · rw [sg_gw_k _ _ _ _ _ _ (by omega)]; exact q1 i (by omega)
          · rw [e69, sg_gw_k _ _ _ _ _ _ (by omega)]; exact q2 s (by omega)
        · rintro σ43 f43 ⟨q1, q2⟩
          refine ⟨y_pitems _ _, fun σ60 e60 => ?_⟩
          have f60 : sg_F [24061] σ43 σ60 := by rw [e60]; exact sg_F_w (sg_F_r _ _) rfl _
          have f3760 : sg_F [62, 24061] σ37 σ60 := sg_F_t (sg_F_m f43 rfl) (sg_F_m f60 rfl)
          have F60 : sg_F onL σ σ60 := sg_F_t F37 (sg_F_m f3760 rfl)
          rcases h37 with z | ⟨r1, r2, r3, r4⟩
          · exact k1 σ60 F60 (by rw [sg_F_g f3760 (by rfl)]; exact z)
          · have ex37 : yEx σ σ37 := yEx_t ex31 r2
            have ex60 : yEx σ37 σ60 := yEx_F f3760 rfl
            have v0' := yV_up ex37 v0
            have it0 := y_it r1.1 v0'
            have su0 : ∀ i : Nat, (i : Int) < g → su (sg_g σ37 78) (sg_g σ37 80 (sg_g σ 64 (t + i))) n.toNat = M := fun i hi => by
              rw [ysu_up ex37 (yV_r (hv i hi)) (by omega), ← hM]
              refine su_sh (fun j hj => ?_)
              have := hsame i j hi (by omega)
              rw [sg_F_ga f2 rfl, sg_F_ga f2 rfl] at this
              rw [(y_cell g2 (yRw_up ex2 (yV_r (hv i hi))) ⟨by omega, by omega⟩).1, (y_cell g2 (yRw_up ex2 (yV_r v0)) ⟨by omega, by omega⟩).1] at this
              rw [sg_F_ga (a := 80) f2 rfl, sg_F_ga (a := 80) f2 rfl, sg_F_ga (a := 78) f2 rfl, sg_F_ga (a := 78) f2 rfl] at this
              exact this
            have hM0 := su0 0 (by omega)
            rw [show t + ((0 : Nat) : Int) = t by omega] at hM0
            rw [hM0] at it0
            have gi := r1.1.1
            have i0r := yV_r it0
            have sz : v_lSize σ37 (v_lItems σ37 (sg_g σ 64 t)) = M := by
              unfold v_lSize
              rw [xa_in ⟨i0r.1.1, by have := i0r.1.2; omega⟩]; exact i0r.2.1
            have M6 : 0 ≤ M ∧ M ≤ 6000 := by
              have := i0r.2.2
              have := r1.1.2.1
              omega
            refine k2 σ60 W F60 wN m27 wl1 ⟨mC_F r1 f3760 rfl, yEx_t ex37 ex60, fun s hs d hd => ?_, fun i hi => ?_, fun s hs hs2 => ?_, ?_, ?_, ?_, fun i hi => ?_, ?_, ?_, fun i hi => ?_, fun i y hy => ?_, fun i hi => ?_⟩
            · have sb := wbd s hs
              rw [sg_F_ga f60 rfl, q2 s (by omega)]
              exact yV_up ex60 (r3 s hs d (by rw [sg_F_ga F31 rfl]; exact hd))
            · rw [sg_F_ga f60 rfl, q1 i hi]
              have := y_it r1.1 (yV_up ex37 (hv i hi))
              rw [su0 i hi] at this
              exact yV_up ex60 this
            · rw [sg_F_ga f60 rfl, q2 s hs2, r4 s hs, sg_F_ga F31 rfl]
            · rw [e60, sz, sg_gw_e _ _ _ _ ⟨by omega, by omega⟩]
            · rw [sg_F_g f3760 (by rfl), sg_F_g f37 (by rfl), sg_F_g f31 (by rfl), sg_F_g f27 (by rfl), sg_F_g f19 (by rfl), sg_F_g f15 (by rfl), sg_F_g f12 (by rfl)]; exact t2
            · rw [sg_F_ga f3760 rfl, sg_F_ga f37 rfl, sg_F_ga f31 rfl, sg_F_ga f27 rfl, sg_F_ga f19 rfl, sg_F_ga f15 rfl]; exact g70
            · rw [sg_F_ga f3760 rfl, sg_F_ga f37 rfl, sg_F_ga f31 rfl, sg_F_ga f27 rfl, sg_F_ga f19 rfl, sg_F_ga f15 rfl, e12, sg_gw_k _ _ _ _ _ _ hi, sg_F_ga f2 rfl]
            · rw [sg_F_g f3760 (by rfl), sg_F_g f37 (by rfl)]; exact s1
            · rw [sg_F_ga f3760 rfl, sg_F_ga f37 rfl]; exact s2
            · rw [sg_F_ga f3760 rfl, sg_F_ga f37 rfl, s3 i hi, sg_F_ga F27 rfl]
            · obtain ⟨u1, u2⟩ := s4 i y hy
              exact ⟨by rw [sg_F_ga f3760 rfl, sg_F_ga f37 rfl]; exact u1, by rw [sg_F_ga f3760 rfl, sg_F_ga f37 rfl, u2, sg_F_ga F27 rfl]⟩
            · obtain ⟨u1, u2⟩ := s5 i hi
              exact ⟨by rw [sg_F_ga f3760 rfl, sg_F_ga f37 rfl, u1, sg_F_ga F27 rfl], by rw [sg_F_ga f3760 rfl, sg_F_ga f37 rfl, u2, sg_F_ga F27 rfl]⟩
      have hM31 : su (sg_g σ31 78) (sg_g σ31 80 (sg_g σ 64 t)) n.toNat = M := by rw [← hM]; exact ysu_up ex31 (yV_r v0) (by omega)
      refine f_spread (mC_F hm F31 rfl) hc hn (by rw [sg_F_g F31 (by rfl)]; exact h23) (yV_up ex31 v0) w31 (by omega) (fun s hs => (hT s ((m27 s).mp hs)).1) (fun s hs => ?_) (fun σ37 f37 z _ => fin σ37 f37 (Or.inl z)) (fun σ37 f37 z _ => fin σ37 f37 (Or.inr (by rw [hM31] at z; exact z)))
      obtain ⟨d, d1, d2, d3⟩ := (hT s ((m27 s).mp hs)).2
      exact ⟨d, d1, by rw [sg_F_ga F31 rfl]; exact d2, by rw [sg_F_ga F31 rfl]; exact yV_up ex31 d3⟩
end OPN2
