/-! fork, turn, open. -/
section FRK
variable {σ : sg_S} {Q : sg_S → Prop}
theorem cn_F {L : List Nat} {σ' : sg_S} (f : sg_F L σ σ') (hL : (sg_ca L 78 && sg_ca L 80) = true) (ch w : Int) (n : Nat) : cnF σ' ch w n = cnF σ ch w n := by
  simp only [Bool.and_eq_true] at hL
  have e : ∀ l, v_fChosen σ' ch l w = v_fChosen σ ch l w := fun l => by
    unfold v_fChosen v_lCell
    rw [sg_F_ga f hL.2, sg_F_ga f hL.1]
  unfold cnF
  exact su_sh (fun j hj => by rw [e])
theorem f_fork {a x lo hi bd n sv c t : Int} (ha : 0 ≤ a ∧ a < 200) (hx : 0 ≤ x ∧ x < 200) (h2 : v_tSecond σ a = x) (hm : mC σ c) (hc : 4 ≤ c) (ht : sg_g σ 61 7 = t + 1) (h0 : 0 ≤ t ∧ t < 400) (h11 : sg_g σ 11 x = lo) (h12 : sg_g σ 12 x = hi) (hl : 0 ≤ lo ∧ hi < 200) (h16 : sg_g σ 16 a = bd) (h69 : sg_g σ 69 a = n) (hn : 0 ≤ n ∧ n ≤ 6000) (hch : yRw σ (sg_g σ 64 t) n) (hsv : sg_g σ 61 22 = sv) (hs0 : 0 ≤ sv ∧ sv ≤ 2400 ∧ sv + (hi - lo + 1) ≤ 2400) (hT : ∀ s, wnt σ lo hi bd s → (0 ≤ s ∧ s < 272) ∧ ∃ d : Nat, d ≤ 3 ∧ sg_g σ 34 s = d ∧ yV σ d (sg_g σ 62 s) n) (k1 : ∀ σ', sg_F (70 :: 8061 :: brL) σ σ' → ¬ sg_g σ' 61 10 = 0 → Q σ') (k2 : ∀ σ' W, sg_F (70 :: 8061 :: brL) σ σ' → W.Nodup → (∀ s, s ∈ W ↔ wnt σ lo hi bd s) → (W.length : Int) ≤ hi - lo + 1 ∨ W = [] → brR σ σ' a sv c (cnF σ (sg_g σ 64 t) 1 n.toNat) W → sg_g σ' 61 7 = t → sg_g σ' 70 a = sg_g σ 64 t → (∀ i, ¬ i = a → sg_g σ' 70 i = sg_g σ 70 i) → Q σ') : V_fFork σ a Q := by
  unfold V_fFork
  rw [h2]
  refine y_pop ht h0 (fun σ2 f2 t2 _ _ σ7 e7 => ?_)
  rw [xp_in ha] at e7
  have f7 : sg_F [70] σ2 σ7 := by rw [e7]; exact sg_F_w (sg_F_r _ _) rfl _
  have F7 : sg_F [70, 8061] σ σ7 := sg_F_t (sg_F_m f2 rfl) (sg_F_m f7 rfl)
  have g70 : sg_g σ7 70 a = sg_g σ 64 t := by rw [e7, sg_gw_e _ _ _ _ (sg_Rg _ _ _)]
  have ex7 : yEx σ σ7 := yEx_F F7 rfl
  refine f_branch (lo := lo) (hi := hi) (bd := bd) (n := n) (sv := sv) ha hx (mC_F hm F7 rfl) hc (by rw [sg_F_ga F7 rfl]; exact h11) (by rw [sg_F_ga F7 rfl]; exact h12) hl (by rw [sg_F_ga F7 rfl]; exact h16) (by rw [sg_F_ga F7 rfl]; exact h69) hn g70 (yRw_up ex7 hch) (by rw [sg_F_g F7 (by rfl)]; exact hsv) hs0 (fun s hs => ?_) (fun σ' f' z _ => k1 σ' (sg_F_t (sg_F_m F7 rfl) (sg_F_m f' rfl)) z) (fun σ' W f' wN wm wl r' _ => ?_)
  · obtain ⟨q1, d, q2, q3, q4⟩ := hT s ((wnt_F F7 rfl).mp hs)
    exact ⟨q1, d, q2, by rw [sg_F_ga F7 rfl]; exact q3, by rw [sg_F_ga F7 rfl]; exact yV_up ex7 q4⟩
  · obtain ⟨⟨r1, r2, r3, r4⟩, r5, r6, r7, r8, r9, r10⟩ := r'
    rw [cn_F F7 rfl] at r3 r5
    refine k2 σ' W (sg_F_t (sg_F_m F7 rfl) (sg_F_m f' rfl)) wN (fun s => by rw [wm s, wnt_F F7 rfl]) wl ⟨⟨r1, yEx_t ex7 r2, fun s hs d hd => r3 s hs d (by rw [sg_F_ga F7 rfl]; exact hd), fun s hs => by rw [r4 s hs, sg_F_ga F7 rfl]⟩, r5, r6, r7, fun i hi => by rw [r8 i hi, sg_F_ga F7 rfl], fun i y hy => ?_, fun i hi => ?_⟩ ?_ ?_ (fun i hi => ?_)
    · obtain ⟨u1, u2⟩ := r9 i y hy
      exact ⟨u1, by rw [u2, sg_F_ga F7 rfl]⟩
    · obtain ⟨u1, u2⟩ := r10 i hi
      exact ⟨by rw [u1, sg_F_ga F7 rfl], by rw [u2, sg_F_ga F7 rfl]⟩
    · rw [sg_F_g f' (by rfl), sg_F_g f7 (by rfl)]; exact t2
    · rw [sg_F_ga f' rfl]; exact g70
    · rw [sg_F_ga f' rfl, e7, sg_gw_k _ _ _ _ _ _ hi, sg_F_ga f2 rfl]
theorem f_turn {W1 : List Int} {a x lo hi bd n sv c ch : Int} (ha : 0 ≤ a ∧ a < 200) (hx : 0 ≤ x ∧ x < 200) (h8 : sg_g σ 8 a = x) (hm : mC σ c) (hc : 4 ≤ c) (h11 : sg_g σ 11 x = lo) (h12 : sg_g σ 12 x = hi) (hl : 0 ≤ lo ∧ hi < 200) (h16 : sg_g σ 16 a = bd) (h69 : sg_g σ 69 a = n) (hn : 0 ≤ n ∧ n ≤ 6000) (h70 : sg_g σ 70 a = ch) (hch : yRw σ ch n) (h71 : sg_g σ 71 a = sv) (hsv : sg_g σ 61 22 = sv + W1.length) (hs0 : 0 ≤ sv ∧ sv ≤ 2400 ∧ sv + (hi - lo + 1) ≤ 2400 ∧ sv + W1.length ≤ 2400) (hN : W1.Nodup) (hW : ∀ x ∈ W1, 0 ≤ x ∧ x < 272) (h72 : ∀ (i : Nat) (x : Int), W1[i]? = some x → sg_g σ 72 (sv + i) = x) (hT : ∀ σ2, sg_F [62, 23061] σ σ2 → (∀ (i : Nat) (x : Int), W1[i]? = some x → sg_g σ2 62 x = sg_g σ 73 (sv + i)) → (∀ x, x ∉ W1 → sg_g σ2 62 x = sg_g σ 62 x) → ∀ s, wnt σ lo hi bd s → (0 ≤ s ∧ s < 272) ∧ ∃ d : Nat, d ≤ 3 ∧ sg_g σ 34 s = d ∧ yV σ d (sg_g σ2 62 s) n) (k1 : ∀ σ', sg_F brL σ σ' → ¬ sg_g σ' 61 10 = 0 → Q σ') (k2 : ∀ σ2 σ' W, sg_F brL σ σ' → sg_F [62, 23061] σ σ2 → (∀ (i : Nat) (x : Int), W1[i]? = some x → sg_g σ2 62 x = sg_g σ 73 (sv + i)) → (∀ x, x ∉ W1 → sg_g σ2 62 x = sg_g σ 62 x) → W.Nodup → (∀ s, s ∈ W ↔ wnt σ lo hi bd s) → (W.length : Int) ≤ hi - lo + 1 ∨ W = [] → brR σ2 σ' a sv c (cnF σ ch 0 n.toNat) W → Q σ') : V_fTurn σ a Q := by
  unfold V_fTurn
  rw [xa_in ha, h8]
  refine f_restore ha h71 hsv (by omega) hN hW h72 (fun σ2 f2 s1 s2 s3 _ => ?_)
  have ex2 : yEx σ σ2 := yEx_F f2 rfl
  refine f_branch (lo := lo) (hi := hi) (bd := bd) (n := n) (sv := sv) ha hx (mC_F hm f2 rfl) hc (by rw [sg_F_ga f2 rfl]; exact h11) (by rw [sg_F_ga f2 rfl]; exact h12) hl (by rw [sg_F_ga f2 rfl]; exact h16) (by rw [sg_F_ga f2 rfl]; exact h69) hn (by rw [sg_F_ga f2 rfl]; exact h70) (yRw_up ex2 hch) s1 (by omega) (fun s hs => ?_) (fun σ' f' z _ => k1 σ' (sg_F_t (sg_F_m f2 rfl) (sg_F_m f' rfl)) z) (fun σ' W f' wN wm wl r' _ => k2 σ2 σ' W (sg_F_t (sg_F_m f2 rfl) (sg_F_m f' rfl)) f2 s2 s3 wN (fun s => by rw [wm s, wnt_F f2 rfl]) wl (by rw [cn_F f2 rfl] at r'; exact r'))
  obtain ⟨q1, d, q2, q3, q4⟩ := hT σ2 f2 s2 s3 s ((wnt_F f2 rfl).mp hs)
  exact ⟨q1, d, q2, by rw [sg_F_ga f2 rfl]; exact q3, yV_up ex2 q4⟩
theorem f_asLong {Q : Int → sg_S → Prop} {g n t : Int} (gg : yG σ) (hg : 1 ≤ g ∧ g ≤ 4) (hn : 0 ≤ n) (h23 : sg_g σ 61 23 = n) (ht : sg_g σ 61 7 = t) (h0 : 0 ≤ t ∧ t + g ≤ 400) (hv : ∀ i : Nat, (i : Int) < g → yRw σ (sg_g σ 64 (t + i)) n) (k0 : Q 0 σ) (k1 : (∀ (i j : Nat), (i : Int) < g → (j : Int) < n → v_lCell σ (sg_g σ 64 (t + i)) j = v_lCell σ (sg_g σ 64 t) j) → Q 1 σ) : V_fAsLong σ g Q := by
  unfold V_fAsLong
  rw [h23, ht, xa_in (a := 64) ⟨by omega, by omega⟩]
  have v0 := hv 0 (by omega)
  rw [show t + ((0 : Nat) : Int) = t by omega] at v0
  refine ⟨fun m v => ∃ j : Nat, v = j ∧ (j : Int) ≤ n ∧ m = n.toNat - j ∧ ∀ (i j' : Nat), (i : Int) < g → j' < j → v_lCell σ (sg_g σ 64 (t + i)) j' = v_lCell σ (sg_g σ 64 t) j', ∀ (i j : Nat), (i : Int) < g → (j : Int) < n → v_lCell σ (sg_g σ 64 (t + i)) j = v_lCell σ (sg_g σ 64 t) j, ⟨_, 0, rfl, by omega, rfl, fun i j' _ h => by omega⟩, ?_, k1⟩
  rintro m v rv ⟨j, rfl, hj, hm, hI⟩
  refine ⟨fun z i j' hi hj' => hI i j' hi (by omega), fun z => ⟨(y_cell gg v0 ⟨by omega, z⟩).2, fun m2 v19 => ∃ i : Nat, v19 = i ∧ 1 ≤ i ∧ (i : Int) ≤ g ∧ m2 = 4 - i ∧ ∀ i' : Nat, i' < i → v_lCell σ (sg_g σ 64 (t + i')) j = v_lCell σ (sg_g σ 64 t) j, ∀ i : Nat, (i : Int) < g → v_lCell σ (sg_g σ 64 (t + i)) j = v_lCell σ (sg_g σ 64 t) j, ⟨_, 1, rfl, by omega, by omega, rfl, fun i' hi' => by rw [show i' = 0 by omega, show t + ((0 : Nat) : Int) = t by omega]⟩, ?_, fun hX => ⟨⟨by omega, by have := rv.2; have := gg.2.1; have := v0.2.2.2; omega⟩, n.toNat - (j + 1), by omega, j + 1, by omega, by omega, rfl, fun i j' hi hj' => ?_⟩⟩⟩
  · rintro m2 v19 r19 ⟨i, rfl, i1, i2, hm2, hI2⟩
    refine ⟨fun y i' hi' => hI2 i' (by omega), fun y => ⟨fun y2 i' hi' => hI2 i' (by omega), fun y2 => ?_⟩⟩
    rw [xa_in (a := 64) ⟨by omega, by omega⟩]
    refine ⟨⟨by omega, by omega⟩, (y_cell gg (hv i y) ⟨by omega, z⟩).2, fun e => ⟨⟨by omega, by omega⟩, 4 - (i + 1), by omega, i + 1, by omega, by omega, by omega, rfl, fun i' hi' => ?_⟩, fun _ => k0⟩
    by_cases q : i' = i
    · rw [q]; exact e
    · exact hI2 i' (by omega)
  · by_cases q : j' = j
    · rw [q]; exact hX i hi
    · exact hI i j' hi (by omega)
end FRK
