/-! permute and divide. -/
section PRM
variable {σ : sg_S} {t n : Int} {Q : sg_S → Prop}
theorem x_invert {a : Nat} {Q : Int → sg_S → Prop} (ha : a ≤ 200) (k0 : ∀ σ', sg_F [76] σ σ' → Q 0 σ') (k1 : ∀ σ', sg_F [76] σ σ' → (∀ j : Nat, j < a → 0 ≤ sg_g σ' 76 j ∧ sg_g σ' 76 j < a) → Q 1 σ') : V_xInvert σ a Q := by
  unfold V_xInvert
  refine ⟨fun m v σ2 => ∃ j : Nat, v = j ∧ j ≤ a ∧ m = a - j ∧ ∀ i : Nat, i < j → sg_g σ2 76 i = -1, fun σ2 => ∀ i : Nat, i < a → sg_g σ2 76 i = -1, ⟨_, 0, rfl, by omega, rfl, fun i hi => by omega⟩, ?_, ?_⟩
  · rintro m v σ2 rv f2 ⟨j, rfl, hj, hm, h⟩
    refine ⟨fun z i hi => h i (by omega), fun z σ41 e41 => ⟨⟨by omega, by omega⟩, a - (j + 1), by omega, j + 1, by omega, by omega, rfl, fun i hi => ?_⟩⟩
    rw [e41, xp_in ⟨by omega, by omega⟩]
    by_cases e : i = j
    · subst e; rw [sg_gw_e _ _ _ _ (by decide)]
    · rw [sg_gw_k _ _ _ _ _ _ (by omega)]; exact h i (by omega)
  · intro σ2 f2 h
    refine ⟨fun m v σ17 => ∃ (j : Nat) (W : List Int), v = j ∧ j ≤ a ∧ m = a - j ∧ W.length = j ∧ W.Nodup ∧ (∀ x ∈ W, 0 ≤ x ∧ x < a) ∧ ∀ i : Nat, i < a → ((i : Int) ∈ W → 0 ≤ sg_g σ17 76 i ∧ sg_g σ17 76 i < a) ∧ ((i : Int) ∉ W → sg_g σ17 76 i = -1), fun σ17 => ∀ j : Nat, j < a → 0 ≤ sg_g σ17 76 j ∧ sg_g σ17 76 j < a, ⟨_, 0, [], rfl, by omega, rfl, rfl, List.nodup_nil, by simp, fun i hi => ⟨fun z => by simp at z, fun _ => h i hi⟩⟩, ?_, fun σ17 f17 h17 => k1 σ17 (sg_F_t f2 f17) h17⟩
    rintro m v σ17 rv f17 ⟨j, W, rfl, hj, hm, hl, hN, hW, hi⟩
    have f17' := sg_F_t f2 f17
    refine ⟨fun z i hi2 => ?_, fun z => ?_⟩
    · refine (hi i hi2).1 (Decidable.byContradiction fun hn => ?_)
      have := ndl a ((i : Int) :: W) (List.nodup_cons.mpr ⟨hn, hN⟩) (fun x hx => by
        rcases List.mem_cons.mp hx with e | e
        · rw [e]; omega
        · exact hW x e)
      simp only [List.length_cons] at this
      omega
    · rw [xa_in (a := 75) ⟨by omega, by omega⟩]
      generalize sg_g σ 75 j = w
      refine ⟨fun _ => k0 σ17 f17', fun w0 => ⟨fun _ => k0 σ17 f17', fun w1 => ?_⟩⟩
      rw [xa_in (a := 76) ⟨by omega, by omega⟩]
      refine ⟨fun y σ35 e35 => ⟨⟨by omega, by omega⟩, a - (j + 1), by omega, j + 1, w :: W, by omega, by omega, rfl, by simp [hl], ?_, ?_, ?_⟩, fun _ => k0 σ17 f17'⟩
      · refine List.nodup_cons.mpr ⟨fun hm => ?_, hN⟩
        have := (hi w.toNat (by omega)).1
        rw [show ((w.toNat : Nat) : Int) = w by omega] at this
        have := this hm
        omega
      · intro x hx
        rcases List.mem_cons.mp hx with e | e
        · rw [e]; omega
        · exact hW x e
      · intro i hi2
        rw [e35, xp_in ⟨by omega, by omega⟩]
        by_cases e : (i : Int) = w
        · rw [e, sg_gw_e _ _ _ _ ⟨by omega, by omega⟩]
          exact ⟨fun _ => by omega, fun hn => absurd (by simp) hn⟩
        · rw [sg_gw_k _ _ _ _ _ _ e]
          refine ⟨fun hm => (hi i hi2).1 ?_, fun hn => (hi i hi2).2 (fun q => hn (by simp [q]))⟩
          rcases List.mem_cons.mp hm with q | q
          · exact absurd q e
          · exact q
theorem f_ordered {s p j : Int} {Q : Int → sg_S → Prop} {d : Nat} (g : yG σ) (hs : yV σ (d + 1) s n) (hp : yV σ 1 p n) (hj : 0 ≤ j ∧ j < n) (k : ∀ q σ', sg_F [75, 76, 15077] σ σ' → (q = 0 ∨ (q = v_lCell σ s j ∧ ∀ i : Nat, (i : Int) < q → 0 ≤ sg_g σ' 76 i ∧ sg_g σ' 76 i < q)) → Q q σ') : V_fOrdered σ s p j Q := by
  obtain ⟨b1, b2, b3, b4, b5, b6, b7, b8, b9, b10⟩ := y_lane g hs hj
  obtain ⟨c1, c2, c3, c4, c5, c6, c7, c8, c9, c10⟩ := y_lane g hp hj
  have ip := y_it g hp
  have ic : ∀ x, 0 ≤ x → x < v_lCell σ p j → p_lCell σ (v_lItems σ p) (v_lStart σ p j + x) := fun x x1 x2 => (y_cell g ip (l := v_lStart σ p j + x) ⟨by omega, by omega⟩).2
  unfold V_fOrdered
  refine ⟨b8, c8, fun e => ?_, fun _ => y_miss (fun σ' f' _ => k 0 σ' (sg_F_m f' rfl) (Or.inl rfl))⟩
  obtain ⟨a, ea⟩ : ∃ a : Nat, v_lCell σ s j = a := ⟨(v_lCell σ s j).toNat, by omega⟩
  rw [ea] at k b1 e ⊢
  refine ⟨fun m v σ7 => ∃ i : Nat, v = i ∧ i ≤ a ∧ m = a - i, fun _ => True, ⟨_, 0, rfl, by omega, rfl⟩, ?_, ?_⟩
  · rintro m v σ7 rv f7 ⟨i, rfl, hi, hm⟩
    exact ⟨fun _ => trivial, fun z => ⟨y_pitems _ _, c9, ⟨by omega, by omega⟩, ic _ (by omega) (by omega), fun σ42 e42 => ⟨⟨by omega, by omega⟩, a - (i + 1), by omega, i + 1, by omega, by omega, rfl⟩⟩⟩
  · intro σ7 f7 _
    refine x_invert (by omega) (fun σ' f' _ f2 => ⟨fun z => absurd rfl z, fun _ => y_miss (fun σ29 f29 _ => k 0 σ29 (sg_F_t (sg_F_t (sg_F_m f7 rfl) (sg_F_m f' rfl)) (sg_F_m f29 rfl)) (Or.inl rfl))⟩) (fun σ' f' h' _ f2 => ⟨fun _ => k a σ' (sg_F_t (sg_F_m f7 rfl) (sg_F_m f' rfl)) (Or.inr ⟨rfl, fun i hi => h' i (by omega)⟩), fun z => absurd z (by decide)⟩)
theorem f_permute {d : Nat} {s p : Int} (h : fP σ t) (hd : d + 1 ≤ 3) (h9 : sg_g σ 61 9 = (d + 1 : Nat)) (hn : sg_g σ 61 23 = n) (hs : yV σ (d + 1) s n) (hp : yV σ 1 p n) (k : ∀ σ', sg_F opL σ σ' → gvR σ σ' (d + 1) n t → Q σ') : V_fPermute σ s p Q := by
  have n6 := h.2.2.2.2.2.2
  rw [hn] at n6
  have it := y_it h.1 hs
  have ir := (yV_r it).1
  have g1 := h.1.1
  unfold V_fPermute
  rw [hn]
  refine ⟨fun m v σ2 => ∃ j : Nat, v = j ∧ (j : Int) ≤ n ∧ m = n.toNat - j ∧ yC σ2 (201 * j) ∧ aC σ2 d j 0, fun σ2 => yC σ2 (201 * n) ∧ aC σ2 d n.toNat 0, ⟨_, 0, rfl, by omega, rfl, yC_0 h.2.1, aC_0 h.2.1 d⟩, ?_, ?_⟩
  · rintro m v σ2 rv f2 ⟨j, rfl, hj, hm, hc, hA⟩
    refine ⟨fun z => ⟨yC_m hc (by omega), by rw [show n.toNat = j by omega]; exact hA⟩, fun z => ?_⟩
    obtain ⟨b1, b2, b3, b4, b5, b6, b7, b8, b9, b10⟩ := y_lane h.1 hs (l := j) ⟨by omega, z⟩
    have ex2 : yEx σ σ2 := yEx_F f2 rfl
    have ce : v_lCell σ2 s j = v_lCell σ s j := by
      unfold v_lCell
      rw [sg_F_ga (a := 80) f2 rfl, sg_F_ga (a := 78) f2 rfl]
    refine f_ordered (yG_F h.1 f2 rfl) (yV_up ex2 hs) (yV_up ex2 hp) ⟨by omega, z⟩ (fun q σ24 f24 hq rq _ => ⟨b9, ?_⟩)
    rw [ce] at hq
    have q0 : 0 ≤ q ∧ q ≤ 200 := by rcases hq with e | ⟨e, -⟩ <;> omega
    refine aC_first (aC_F hA f24 (yEx_F f24 rfl) rfl) (yC_F hc f24 rfl) (by omega) q0 (fun σ32 f32 c32 a32 _ => ?_)
    have f32' := sg_F_t f2 (sg_F_t (sg_F_m f24 rfl) (sg_F_m f32 rfl))
    refine ⟨fun m2 v37 σ38 => ∃ i : Nat, v37 = i ∧ i ≤ q ∧ m2 = (q - i).toNat ∧ yC σ38 (201 * j + 1 + i) ∧ aC σ38 d (j + 1) (q - i), fun σ38 => yC σ38 (201 * (j + 1 : Nat)) ∧ aC σ38 d (j + 1) 0, ⟨_, 0, rfl, by omega, rfl, by rw [show (201 : Int) * j + 1 + (0 : Nat) = 201 * j + 1 by omega]; exact c32, by rw [show (0 : Int) + q = q - (0 : Nat) by omega] at a32; exact a32⟩, ?_, ?_⟩
    · rintro m2 v37 σ38 r37 f38 ⟨i, rfl, hi1, hm2, hc2, hA2⟩
      have ex38 : yEx σ σ38 := yEx_F (sg_F_t f32' (sg_F_m f38 rfl)) rfl
      refine ⟨fun y => ⟨yC_m hc2 (by omega), by rw [show q - (i : Int) = 0 by omega] at hA2; exact hA2⟩, fun y => ?_⟩
      have hq2 : q = v_lCell σ s j ∧ (0 ≤ sg_g σ24 76 i ∧ sg_g σ24 76 i < q) := by
        rcases hq with e | ⟨e, e2⟩
        · omega
        · exact ⟨e, e2 i y⟩
      rw [xa_in ⟨by omega, by omega⟩]
      generalize sg_g σ24 76 i = o at *
      refine ⟨y_pitems _ _, ⟨by omega, by omega⟩, ⟨by omega, by omega⟩, aC_pick hA2 hc2 (by omega) ⟨by omega, by omega⟩ ⟨by omega, Or.inr ⟨_, yV_up ex38 it, by omega⟩⟩ ⟨by omega, by omega⟩ (fun σ3 f3 c3 a3 _ => ⟨⟨by omega, by omega⟩, (q - (i + 1 : Nat)).toNat, by omega, i + 1, by omega, by omega, rfl, by rw [show (201 : Int) * j + 1 + (i + 1 : Nat) = 201 * j + 1 + i + 1 by omega]; exact c3, ?_⟩)⟩
      rw [show (q - (i : Int) - (v_lStart σ s ↑j + o + 1 - (v_lStart σ s ↑j + o))) = q - ((i + 1 : Nat) : Int) by omega] at a3
      exact a3
    · rintro σ38 f38 ⟨hc2, hA2⟩
      exact ⟨⟨by omega, by omega⟩, n.toNat - (j + 1), by omega, j + 1, by omega, by omega, rfl, hc2, hA2⟩
  · rintro σ2 f2 ⟨hc, ha⟩
    exact f_give (D := d + 1) (f := 1) h hd h9 (by omega) (sg_F_m f2 rfl) hc (aC_fd1 ha n6) (fun σ' f' r' _ => k σ' f' r')
theorem su_ge {g : Int → Int} {p : Int} : ∀ {i j : Nat}, (∀ k : Nat, k < i → 0 ≤ g (p + k)) → j < i → g (p + j) ≤ su g p i ∧ 0 ≤ su g p i
  | 0, j, _, hj => by omega
  | i + 1, j, h, hj => by
    simp only [su]
    have hi := h i (by omega)
    by_cases e : j = i
    · subst e
      cases j with
      | zero => simp only [su]; omega
      | succ q =>
        have := (su_ge (g := g) (p := p) (i := q + 1) (j := 0) (fun k hk => h k (by omega)) (by omega)).2
        omega
    · have := su_ge (g := g) (p := p) (i := i) (j := j) (fun k hk => h k (by omega)) (by omega)
      omega
theorem f_cannot {z it lo hi : Int} {Q : Int → sg_S → Prop} {m : Int} (g : yG σ) (hi' : yRw σ it m) (h0 : 0 ≤ lo ∧ lo ≤ hi ∧ hi ≤ m) (hl : hi - lo ≤ 200) (k0 : (∀ i : Nat, (i : Int) < hi - lo → 0 ≤ v_lCell σ it (lo + i)) → su (fun x => v_lCell σ it x) lo (hi - lo).toNat = z → Q 0 σ) (k1 : ∀ q, ¬ q = 0 → sg_R q → Q q σ) : V_fCannotDivide σ z it lo hi Q := by
  have m6 := hi'.2.2.2
  have g6 := g.2.1
  unfold V_fCannotDivide
  refine ⟨fun n' v1 v2 => ∃ i : Nat, v2 = lo + i ∧ lo + i ≤ hi ∧ n' = (hi - v2).toNat ∧ v1 = su (fun x => v_lCell σ it x) lo i ∧ (∀ i' : Nat, i' < i → 0 ≤ v_lCell σ it (lo + i')) ∧ (0 ≤ v1 ∧ v1 ≤ 2147483648 * i), fun v1 => v1 = su (fun x => v_lCell σ it x) lo (hi - lo).toNat ∧ ∀ i : Nat, (i : Int) < hi - lo → 0 ≤ v_lCell σ it (lo + i), ⟨_, 0, by omega, by omega, rfl, rfl, fun i hi => by omega, by omega⟩, ?_, ?_⟩
  · rintro n' v1 v2 r1 r2 ⟨i, rfl, hi1, hn', e1, e2, e3⟩
    refine ⟨fun y => ⟨by rw [show (hi - lo).toNat = i by omega]; exact e1, fun i' hi2 => e2 i' (by omega)⟩, fun y => ?_⟩
    obtain ⟨c1, c2⟩ := y_cell g hi' (l := lo + i) ⟨by omega, by omega⟩
    have rc : sg_R (v_lCell σ it (lo + i)) := by rw [c1]; exact sg_Rg _ _ _
    have rc2 := rc.2
    refine ⟨c2, fun y2 => ⟨⟨by omega, by omega⟩, ⟨by omega, by omega⟩, (hi - (lo + i + 1)).toNat, by omega, i + 1, by omega, by omega, rfl, by simp only [su]; rw [e1], fun i' hi2 => ?_, by omega⟩, fun _ => k1 5 (by decide) (by decide)⟩
    by_cases e : i' = i
    · rw [e]; exact y2
    · exact e2 i' (by omega)
  · rintro v1 r1 ⟨e1, e2⟩
    exact ⟨fun _ => k1 3 (by decide) (by decide), fun y => k0 e2 (by rw [← e1]; exact y)⟩
theorem f_divide {d : Nat} {s p : Int} (h : fP σ t) (hd : d + 2 ≤ 3) (h9 : sg_g σ 61 9 = (d + 2 : Nat)) (hn : sg_g σ 61 23 = n) (hs : yV σ (d + 1) s n) (hp : yV σ 1 p n) (k : ∀ σ', sg_F opL σ σ' → gvR σ σ' (d + 2) n t → Q σ') : V_fDivide σ s p Q := by
  have n6 := h.2.2.2.2.2.2
  rw [hn] at n6
  have it := y_it h.1 hs
  have ip := y_it h.1 hp
  have ir := (yV_r it).1
  have g1 := h.1.1
  unfold V_fDivide
  rw [hn]
  refine ⟨fun m v σ2 => ∃ j : Nat, v = j ∧ (j : Int) ≤ n ∧ m = n.toNat - j ∧ yC σ2 (203 * j) ∧ aE σ2 d j 0 0, fun σ2 => yC σ2 (203 * n) ∧ aE σ2 d n.toNat 0 0, ⟨_, 0, rfl, by omega, rfl, yC_0 h.2.1, aE_0 h.2.1 d⟩, ?_, ?_⟩
  · rintro m v σ2 rv f2 ⟨j, rfl, hj, hm, hc, hA⟩
    refine ⟨fun z => ⟨yC_m hc (by omega), by rw [show n.toNat = j by omega]; exact hA⟩, fun z => ?_⟩
    obtain ⟨b1, b2, b3, b4, b5, b6, b7, b8, b9, b10⟩ := y_lane h.1 hs (l := j) ⟨by omega, z⟩
    obtain ⟨c1, c2, c3, c4, c5, c6, c7, c8, c9, c10⟩ := y_lane h.1 hp (l := j) ⟨by omega, z⟩
    have ex2 : yEx σ σ2 := yEx_F f2 rfl
    have ce : ∀ v x, v_lCell σ2 v x = v_lCell σ v x := fun v x => by
      unfold v_lCell
      rw [sg_F_ga (a := 80) f2 rfl, sg_F_ga (a := 78) f2 rfl]
    have ic : ∀ x, v_lStart σ p j ≤ x → x < v_lEnd σ p j → p_lCell σ (v_lItems σ p) x := fun x x1 x2 => (y_cell h.1 ip (l := x) ⟨by omega, by omega⟩).2
    have fin : ∀ σ40, (yC σ40 (203 * (j + 1 : Nat)) ∧ aE σ40 d (j + 1) 0 0) → sg_R ((j : Int) + 1) ∧ ∃ m', m' < m ∧ ∃ j' : Nat, (j : Int) + 1 = j' ∧ (j' : Int) ≤ n ∧ m' = n.toNat - j' ∧ yC σ40 (203 * j') ∧ aE σ40 d j' 0 0 := fun σ40 h40 => ⟨⟨by omega, by omega⟩, n.toNat - (j + 1), by omega, j + 1, by omega, by omega, rfl, h40.1, h40.2⟩
    generalize v_lStart σ p j = lo at *
    generalize v_lEnd σ p j = hi at *
    generalize v_lItems σ p = itp at *
    refine ⟨c9, c10, b8, y_pitems _ _, f_cannot (yG_F h.1 f2 rfl) (yRw_up ex2 (yV_r ip)) ⟨by omega, by omega, by omega⟩ (by omega) (fun k1 k2 _ => ?_) (fun q hq rq _ => ?_)⟩
    · refine ⟨fun σ40 => yC σ40 (203 * (j + 1 : Nat)) ∧ aE σ40 d (j + 1) 0 0, ⟨fun _ => ⟨⟨by omega, by omega⟩, ?_⟩, fun y => absurd rfl y⟩, fun σ40 f40 h40 => fin σ40 h40⟩
      refine aE_first hA hc (by omega) (by omega) (fun σ47 f47 c47 a47 _ => ?_)
      have f47' := sg_F_t (sg_F_m (L := [83, 84, 85, 86, 87, 12077, 13077, 14077, 15077, 16077]) f2 rfl) (sg_F_m f47 rfl)
      refine ⟨fun m2 v52 σ53 => ∃ i : Nat, v52 = lo + i ∧ lo + i ≤ hi ∧ m2 = (hi - v52).toNat ∧ yC σ53 (203 * j + 1 + i) ∧ aE σ53 d (j + 1) (hi - lo - i) (su (fun x => v_lCell σ2 itp x) lo i), fun σ53 => yC σ53 (203 * j + 1 + 200) ∧ aE σ53 d (j + 1) 0 (v_lCell σ s j), ⟨_, 0, by omega, by omega, rfl, by rw [show (203 : Int) * j + 1 + (0 : Nat) = 203 * j + 1 by omega]; exact c47, by rw [show (0 : Int) + (hi - lo) = hi - lo - (0 : Nat) by omega] at a47; exact a47⟩, ?_, ?_⟩
      · rintro m2 v52 σ53 r52 f53 ⟨i, rfl, hi1, hm2, hc2, hA2⟩
        refine ⟨fun y => ⟨yC_m hc2 (by omega), ?_⟩, fun y => ?_⟩
        · rw [show hi - lo - (i : Int) = 0 by omega, show i = (hi - lo).toNat by omega, k2] at hA2
          exact hA2
        · have nn := k1 i (by omega)
          have gg := (su_ge (g := fun x => v_lCell σ2 itp x) (p := lo) (i := (hi - lo).toNat) (j := i) (fun k hk => k1 k (by omega)) (by omega)).1
          rw [k2] at gg
          rw [ce] at nn gg
          refine ⟨y_pitems _ _, ic _ (by omega) y, aE_second hA2 hc2 (by omega) ⟨nn, by omega⟩ (fun σ3 f3 c3 a3 _ => ⟨⟨by omega, by omega⟩, (hi - (lo + i + 1)).toNat, by omega, i + 1, by omega, by omega, rfl, by rw [show (203 : Int) * j + 1 + (i + 1 : Nat) = 203 * j + 1 + i + 1 by omega]; exact c3, ?_⟩)⟩
          simp only [su]
          rw [ce, show hi - lo - ((i + 1 : Nat) : Int) = hi - lo - i - 1 by omega]
          exact a3
      · rintro σ53 f53 ⟨hc2, hA2⟩
        have ex53 : yEx σ σ53 := yEx_F (sg_F_t f47' (sg_F_m f53 rfl)) rfl
        refine ⟨y_pitems _ _, b9, b10, aE_pick hA2 hc2 (by omega) ⟨by omega, by omega⟩ ⟨by omega, Or.inr ⟨_, yV_up ex53 it, by omega⟩⟩ ⟨by omega, by omega⟩ (fun σ3 f3 c3 a3 _ => ⟨yC_m c3 (by omega), ?_⟩)⟩
        rw [show v_lCell σ s j - (v_lEnd σ s j - v_lStart σ s j) = 0 by omega] at a3
        exact a3
    · refine ⟨fun σ40 => yC σ40 (203 * (j + 1 : Nat)) ∧ aE σ40 d (j + 1) 0 0, ⟨fun y => absurd y hq, fun _ => ?_⟩, fun σ40 f40 h40 => fin σ40 h40⟩
      exact y_miss (fun σ93 f93 _ => aE_first (aE_F hA f93) (yC_F hc f93 rfl) (by omega) (by omega) (fun σ99 f99 c99 a99 _ => ⟨yC_m c99 (by omega), a99⟩))
  · rintro σ2 f2 ⟨hc, ha⟩
    exact f_give (D := d + 2) (f := 2) h hd h9 (by omega) (sg_F_m f2 rfl) hc (aE_fd ha n6) (fun σ' f' r' _ => k σ' f' r')
end PRM
