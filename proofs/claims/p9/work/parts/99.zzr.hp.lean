/-! sift, collect, enter. -/
abbrev sfL : List Nat := [62, 70, 74, 78, 79, 80, 81, 82, 83, 85, 86, 87, 8061, 11061, 11077, 12077, 13077, 14077, 15077, 16077, 17077, 18077, 19077, 22061, 24061]
section SFT
variable {σ : sg_S} {Q : sg_S → Prop}
theorem f_sift {a x lo hi bd g n n0 c t : Int} {dg : Nat} (ha : 0 ≤ a ∧ a < 200) (hx : 0 ≤ x ∧ x < 200) (h8 : sg_g σ 8 a = x) (h11 : sg_g σ 11 x = lo) (h12 : sg_g σ 12 x = hi) (hl : 0 ≤ lo ∧ hi < 200) (h16 : sg_g σ 16 a = bd) (h13 : sg_g σ 13 a = g) (hbd : 0 ≤ bd ∧ 0 ≤ g ∧ bd + g ≤ 272) (hm : mC σ c) (hc : 4 ≤ c) (ht : sg_g σ 61 7 = t + 1) (h0 : 0 ≤ t ∧ t < 400) (h23 : sg_g σ 61 23 = n) (hn : 0 ≤ n ∧ n ≤ 6000) (h69 : sg_g σ 69 a = n0) (hn0 : 0 ≤ n0 ∧ n0 ≤ 6000) (hG : yV σ (dg + 1) (sg_g σ 70 a) n0) (hmm : su (sg_g σ 78) (sg_g σ 80 (sg_g σ 70 a)) n0.toNat = n) (hch : yRw σ (sg_g σ 64 t) n) (hT : ∀ s, wnt σ lo hi (bd + g) s → (0 ≤ s ∧ s < 272) ∧ ∃ d : Nat, d ≤ 3 ∧ sg_g σ 34 s = d ∧ yV σ d (sg_g σ 62 s) n) (k1 : ∀ σ', sg_F sfL σ σ' → ¬ sg_g σ' 61 10 = 0 → Q σ') (k2 : ∀ σ' W, sg_F sfL σ σ' → W.Nodup → (∀ s, s ∈ W ↔ wnt σ lo hi (bd + g) s) → nrR σ σ' W c (cnF σ (sg_g σ 64 t) 1 n.toNat) → sg_g σ' 61 23 = cnF σ (sg_g σ 64 t) 1 n.toNat → sg_g σ' 61 7 = t → (∀ i, ¬ i = a → sg_g σ' 70 i = sg_g σ 70 i) → yRw σ' (sg_g σ' 70 a) n0 → yLn σ' (sg_g σ' 70 a) n0 → su (sg_g σ' 78) (sg_g σ' 80 (sg_g σ' 70 a)) n0.toNat = cnF σ (sg_g σ 64 t) 1 n.toNat → Q σ') : V_fSift σ a Q := by
  generalize hch0 : sg_g σ 64 t = ch at *
  unfold V_fSift
  rw [xa_in (a := 16) ha, xa_in (a := 13) ha, xa_in (a := 8) ha, h16, h13, h8, h23]
  refine y_pop ht h0 (fun σ2 f2 t2 _ _ σ7 e7 => ⟨⟨by omega, by omega⟩, ?_⟩)
  rw [hch0]
  have f7 : sg_F [22061] σ2 σ7 := by rw [e7]; exact sg_F_w (sg_F_r _ _) rfl _
  have F7 : sg_F [8061, 22061] σ σ7 := sg_F_t (sg_F_m f2 rfl) (sg_F_m f7 rfl)
  refine f_want (W0 := []) (lo := lo) (hi := hi) hx (by rw [sg_F_ga F7 rfl]; exact h11) (by rw [sg_F_ga F7 rfl]; exact h12) hl ⟨by rw [e7, sg_gw_e _ _ _ _ (by decide)]; rfl, fun i y hy => by simp at hy, List.Pairwise.nil⟩ (by simp) (fun σ12 W f12 w12 m12 _ => ?_)
  have F12 : sg_F [74, 8061, 22061] σ σ12 := sg_F_t (sg_F_m F7 rfl) (sg_F_m f12 rfl)
  have m12' : ∀ s, s ∈ W ↔ wnt σ lo hi (bd + g) s := fun s => by
    rw [m12 s, wnt_F F7 rfl]
    exact ⟨fun q => q.resolve_left (by simp), Or.inr⟩
  have wN := wl_nd w12.2.2
  have wl1 := wit_len (f := sg_g σ 16) (a := lo) (b := hi) wN (fun s hs => by
    obtain ⟨j, q1, q2, q3, q4, q5⟩ := (m12' s).mp hs
    exact ⟨j, q1, q2, q4⟩)
  have wl2 : W.length ≤ 200 := by
    rcases wl1 with q | q
    · omega
    · rw [q]; simp
  have ex12 : yEx σ σ12 := yEx_F F12 rfl
  have cn12 : cnF σ12 ch 1 n.toNat = cnF σ ch 1 n.toNat := cn_F F12 rfl _ _ _
  refine f_narrow (mC_F hm F12 rfl) hc hn (yRw_up ex12 hch) w12 wl2 (fun s hs => (hT s ((m12' s).mp hs)).1) (fun s hs => ?_) (fun σ' f' z _ => ⟨fun _ => k1 σ' (sg_F_t (sg_F_m F12 rfl) (sg_F_m f' rfl)) z, fun y => absurd y z⟩) (fun σ18 f18 r18 l18 _ => ⟨fun z => absurd r18.1.2.2.1 z, fun _ => ?_⟩)
  · obtain ⟨d, d1, d2, d3⟩ := (hT s ((m12' s).mp hs)).2
    exact ⟨d, d1, by rw [sg_F_ga F12 rfl]; exact d2, by rw [sg_F_ga F12 rfl]; exact yV_up ex12 d3⟩
  · obtain ⟨r1, r2, r3, r4⟩ := r18
    rw [cn12] at r3 l18
    have F18 : sg_F sfL σ σ18 := sg_F_t (sg_F_m F12 rfl) (sg_F_m f18 rfl)
    have ex18 : yEx σ σ18 := yEx_t ex12 r2
    have g70 : sg_g σ18 70 a = sg_g σ 70 a := by rw [sg_F_ga f18 rfl, sg_F_ga F12 rfl]
    have cn18 : cnF σ18 ch 1 n.toNat = cnF σ ch 1 n.toNat := cn_up hm.1 r1.1 ex18 hch (by omega)
    refine f_shorten (dg := dg) (n := n0) (m := n) ha r1 hc (by rw [sg_F_ga f18 rfl, sg_F_ga F12 rfl]; exact h69) hn0 (by rw [g70]; exact yV_up ex18 hG) (by rw [g70, ysu_up ex18 (yV_r hG) (by omega)]; exact hmm) (yRw_up ex18 hch) (fun σ' f' z _ => k1 σ' (sg_F_t F18 (sg_F_m f' rfl)) z) (fun σ' f' u1 u2 u3 u4 u5 u6 _ => ?_)
    rw [cn18] at u6
    refine k2 σ' W (sg_F_t F18 (sg_F_m f' rfl)) wN m12' ⟨u1, yEx_t ex18 u2, fun s hs d hd => ?_, fun s hs => ?_⟩ ?_ ?_ (fun i hi => ?_) u4 u5 u6
    · rw [sg_F_ga f' rfl]; exact yV_up u2 (r3 s hs d (by rw [sg_F_ga F12 rfl]; exact hd))
    · rw [sg_F_ga f' rfl, r4 s hs, sg_F_ga F12 rfl]
    · rw [sg_F_g f' (by rfl)]; exact l18
    · rw [sg_F_g f' (by rfl), sg_F_g f18 (by rfl), sg_F_g f12 (by rfl), sg_F_g f7 (by rfl)]; exact t2
    · rw [u3 i hi, sg_F_ga f18 rfl, sg_F_ga F12 rfl]
theorem f_collect {W : List Int} {a sb n0 t c : Int} {d : Nat} (ha : 0 ≤ a ∧ a < 200) (hm : mC σ c) (hc : 1 ≤ c) (ht : sg_g σ 61 7 = t + 1) (h0 : 0 ≤ t ∧ t < 400) (h69 : sg_g σ 69 a = n0) (hG : yRw σ (sg_g σ 70 a) n0) (hGl : yLn σ (sg_g σ 70 a) n0) (hit : yV σ d (sg_g σ 64 t) (su (sg_g σ 78) (sg_g σ 80 (sg_g σ 70 a)) n0.toNat)) (h71 : sg_g σ 71 a = sb) (hs : sg_g σ 61 22 = sb + W.length) (hs0 : 0 ≤ sb ∧ sb + W.length ≤ 2400) (hN : W.Nodup) (hW : ∀ x ∈ W, 0 ≤ x ∧ x < 272) (h72 : ∀ (i : Nat) (x : Int), W[i]? = some x → sg_g σ 72 (sb + i) = x) (k : ∀ σ', sg_F [62, 64, 79, 80, 81, 82, 8061, 11077, 23061, 24061] σ σ' → mC σ' (c - 1) → yEx σ σ' → sg_g σ' 61 23 = n0 → sg_g σ' 61 22 = sb → sg_g σ' 61 7 = t + 1 → yV σ' (d + 1) (sg_g σ' 64 t) n0 → (∀ i, i < t → sg_g σ' 64 i = sg_g σ 64 i) → (∀ (i : Nat) (x : Int), W[i]? = some x → sg_g σ' 62 x = sg_g σ 73 (sb + i)) → (∀ x, x ∉ W → sg_g σ' 62 x = sg_g σ 62 x) → Q σ') : V_fCollect σ a Q := by
  obtain ⟨m1, m2, m3, m4, m5⟩ := id hm
  unfold V_fCollect
  rw [xa_in ha, xa_in ha, h69]
  refine y_pop ht h0 (fun σ2 f2 t2 _ _ => ?_)
  refine f_restore (W := W) (sb := sb) ha (by rw [sg_F_ga f2 rfl]; exact h71) (by rw [sg_F_g f2 (by rfl)]; exact hs) hs0 hN hW (fun i x hx => by rw [sg_F_ga f2 rfl]; exact h72 i x hx) (fun σ8 f8 s1 s2 s3 _ σ13 e13 => ?_)
  have f13 : sg_F [24061] σ8 σ13 := by rw [e13]; exact sg_F_w (sg_F_r _ _) rfl _
  have F13 : sg_F [62, 8061, 23061, 24061] σ σ13 := sg_F_t (sg_F_t (sg_F_m f2 rfl) (sg_F_m f8 rfl)) (sg_F_m f13 rfl)
  have ex13 : yEx σ σ13 := yEx_F F13 rfl
  have w13 : ∀ q, sg_g σ13 77 q = sg_g σ 77 q := fun q => sg_F_ga F13 rfl
  have G0 := hG.2
  have u6 := m1.2.1
  refine y_bundle (d := d) (n := n0) (yG_F m1 F13 rfl) (by rw [w13]; omega) (yRw_up ex13 hG) (yLn_up ex13 hG hGl) ?_ (fun σ17 f17 x1 x2 x3 x4 r16 _ => ?_)
  · rw [ysu_up ex13 hG (by omega)]; exact yV_up ex13 hit
  · refine y_push (t := t) (by rw [sg_F_g f17 (by rfl), sg_F_g f13 (by rfl), sg_F_g f8 (by rfl)]; exact t2) h0 r16 (fun σ23 f23 p1 p2 p3 _ => ?_)
    have f1723 : sg_F [64, 8061] σ17 σ23 := f23
    have F23 : sg_F [62, 64, 79, 80, 81, 82, 8061, 11077, 23061, 24061] σ σ23 := sg_F_t (sg_F_t (sg_F_m F13 rfl) (sg_F_m f17 rfl)) (sg_F_m f23 rfl)
    have ex23 : yEx σ17 σ23 := yEx_F f23 rfl
    refine k σ23 F23 ⟨yG_F x2 f23 rfl, ?_, by rw [sg_F_g F23 (by rfl)]; exact m3, ?_, by rw [sg_F_g F23 (by rfl)]; exact m5⟩ (yEx_t ex13 (yEx_t x1 ex23)) ?_ ?_ p1 ?_ (fun i hi => ?_) (fun i x hx => ?_) (fun x hx => ?_)
    · exact y0_F (y0_F (y0_F m2 F13 rfl) f17 rfl) f23 rfl
    · rw [sg_F_g f23 (by rfl), x4, w13, sg_F_g F23 (by rfl)]; omega
    · rw [sg_F_g f23 (by rfl), sg_F_g f17 (by rfl), e13, sg_gw_e _ _ _ _ ⟨by omega, by omega⟩]
    · rw [sg_F_g f23 (by rfl), sg_F_g f17 (by rfl), sg_F_g f13 (by rfl)]; exact s1
    · rw [p2]; exact yV_up ex23 x3
    · rw [p3 i (by omega), sg_F_ga f17 rfl, sg_F_ga F13 rfl]
    · rw [sg_F_ga f23 rfl, sg_F_ga f17 rfl, sg_F_ga f13 rfl, s2 i x hx, sg_F_ga f2 rfl]
    · rw [sg_F_ga f23 rfl, sg_F_ga f17 rfl, sg_F_ga f13 rfl, s3 x hx, sg_F_ga f2 rfl]
theorem m_enter {q p fs t pc E : Int} (hq : 0 ≤ q ∧ q < 12) (h23 : sg_g σ 23 q = p) (hp : 0 ≤ p ∧ p ≤ 6) (h24 : sg_g σ 24 q = fs) (hfs : 0 ≤ fs ∧ fs + p ≤ 272) (ht : sg_g σ 61 7 = t + p) (h0 : 0 ≤ t ∧ t + p ≤ 400) (hpc : sg_g σ 61 8 = pc) (hE : sg_g σ 31 q = E) (k : ∀ σ', sg_F [62, 63, 8061, 9061] σ σ' → sg_g σ' 61 7 = t → sg_g σ' 61 8 = E → sg_g σ' 63 q = pc → (∀ i, ¬ i = q → sg_g σ' 63 i = sg_g σ 63 i) → (∀ i : Nat, (i : Int) < p → sg_g σ' 62 (fs + i) = sg_g σ 64 (t + i)) → (∀ s, ¬ (fs ≤ s ∧ s < fs + p) → sg_g σ' 62 s = sg_g σ 62 s) → Q σ') : V_mEnter σ q Q := by
  unfold V_mEnter
  rw [xa_in (a := 23) hq, xa_in (a := 24) hq, xa_in (a := 31) ⟨by omega, by omega⟩, h23, h24, ht, hpc, hE, show t + p - p = t by omega]
  refine ⟨fun m v σ2 => ∃ j : Nat, v = j ∧ (j : Int) ≤ p ∧ m = 6 - j ∧ (∀ i : Nat, i < j → sg_g σ2 62 (fs + i) = sg_g σ 64 (t + i)) ∧ (∀ s, ¬ (fs ≤ s ∧ s < fs + j) → sg_g σ2 62 s = sg_g σ 62 s), fun σ2 => (∀ i : Nat, (i : Int) < p → sg_g σ2 62 (fs + i) = sg_g σ 64 (t + i)) ∧ (∀ s, ¬ (fs ≤ s ∧ s < fs + p) → sg_g σ2 62 s = sg_g σ 62 s), ⟨_, 0, rfl, by omega, rfl, fun i hi => by omega, fun s _ => rfl⟩, ?_, ?_⟩
  · rintro m v σ2 rv f2 ⟨j, rfl, hj, hm', q1, q2⟩
    refine ⟨fun z => ⟨fun i hi => q1 i (by omega), fun s hs => q2 s (by omega)⟩, fun z => ⟨fun y => ⟨fun i hi => q1 i (by omega), fun s hs => q2 s (by omega)⟩, fun y => ⟨⟨by omega, by omega⟩, ⟨by omega, by omega⟩, ⟨by omega, by omega⟩, fun σ31 e31 => ?_⟩⟩⟩
    rw [xa_in ⟨by omega, by omega⟩, xp_in ⟨by omega, by omega⟩] at e31
    refine ⟨⟨by omega, by omega⟩, 6 - (j + 1), by omega, j + 1, by omega, by omega, rfl, fun i hi => ?_, fun s hs => ?_⟩
    · rw [e31]
      by_cases e : i = j
      · subst e; rw [sg_gw_e _ _ _ _ (sg_Rg _ _ _)]
      · rw [sg_gw_k _ _ _ _ _ _ (by omega)]; exact q1 i (by omega)
    · rw [e31, sg_gw_k _ _ _ _ _ _ (by omega)]; exact q2 s (by omega)
  · rintro σ2 f2 ⟨q1, q2⟩
    refine ⟨⟨by omega, by omega⟩, fun σ17 e17 σ20 e20 σ23 e23 => ?_⟩
    rw [xp_in ⟨by omega, by omega⟩] at e20
    have f17 : sg_F [8061] σ2 σ17 := by rw [e17]; exact sg_F_w (sg_F_r _ _) rfl _
    have f20 : sg_F [63] σ17 σ20 := by rw [e20]; exact sg_F_w (sg_F_r _ _) rfl _
    have f23 : sg_F [9061] σ20 σ23 := by rw [e23]; exact sg_F_w (sg_F_r _ _) rfl _
    have rE : sg_R E := by rw [← hE]; exact sg_Rg _ _ _
    have rp : sg_R pc := by rw [← hpc]; exact sg_Rg _ _ _
    refine k σ23 (sg_F_t (sg_F_t (sg_F_t (sg_F_m f2 rfl) (sg_F_m f17 rfl)) (sg_F_m f20 rfl)) (sg_F_m f23 rfl)) ?_ ?_ ?_ (fun i hi => ?_) (fun i hi => ?_) (fun s hs => ?_)
    · rw [sg_F_g f23 (by rfl), sg_F_g f20 (by rfl), e17, sg_gw_e _ _ _ _ ⟨by omega, by omega⟩]
    · rw [e23, sg_gw_e _ _ _ _ rE]
    · rw [sg_F_ga f23 rfl, e20, sg_gw_e _ _ _ _ rp]
    · rw [sg_F_ga f23 rfl, e20, sg_gw_k _ _ _ _ _ _ hi, sg_F_ga f17 rfl, sg_F_ga f2 rfl]
    · rw [sg_F_ga f23 rfl, sg_F_ga f20 rfl, sg_F_ga f17 rfl]; exact q1 i hi
    · rw [sg_F_ga f23 rfl, sg_F_ga f20 rfl, sg_F_ga f17 rfl]; exact q2 s hs
end SFT
