/-! flat ops of the reference, exactly: CAT. -/
theorem exF_fr2 {d : Nat} {g h : Nat → List vaF} : ∀ n : Nat, exF d (frF (fun i => g i ++ h i) n) = exF d (frF g n) + exF d (frF h n)
  | 0 => by rw [frF_0, frF_0, frF_0, exF_z]; rfl
  | n + 1 => by
    rw [frF_s, frF_s, frF_s, exF_a, exF_a, exF_a, exF_a, exF_fr2 n]
    omega
theorem flF_g {f : Nat → Int ⊕ vaF} {L : Nat} : flF (((List.range L).map f).map fOv) = frF (fun i => itF (fOv (f i))) L := by
  unfold flF frF
  rw [List.map_map, List.map_map]
  rfl
section FXC
variable {σ : sg_S} {M v : Int} {d : Nat} {l : List vaF} {R : List (Int × Int)}
theorem m_listItemsX {a : Int} {L : Nat} {la : List vaF} {len : Nat → Int} {Q : sg_S → Prop} (ha : fX σ 6000 a (d + 1) la R) (hL : la.length = L) (hc : sg_g σ 88 91 ≤ 60000 ∧ sg_g σ 88 87 ≤ 30000) (h0 : lX σ []) (hz : ∀ i : Nat, i < L → sg_g σ 150 i = len i) (k : ∀ σ', lX σ' (frF (fun i => if 0 ≤ len i then rnF (ahF la i) (itF (la.getD i (nmF 0))).length else []) L) → Q σ') : V_listItems σ a (L : Int) Q := by
  obtain ⟨r, r', Ra, er, er1, er2, er3, er4, er5, er6, er7⟩ := fX_s ha
  have L6 : (L : Int) ≤ 6000 := by have := er6.2.2.1; omega
  have I6 : ((flF la).length : Int) ≤ 6000 := by have := er7.2.2.1; omega
  obtain ⟨na, ena⟩ : ∃ na : Nat → Nat, ∀ i, na i = (itF (la.getD i (nmF 0))).length := ⟨_, fun _ => rfl⟩
  obtain ⟨kl, ekl⟩ : ∃ kl : Nat → List Int, ∀ i, kl i = if 0 ≤ len i then rnF (ahF la i) (itF (la.getD i (nmF 0))).length else [] := ⟨_, fun _ => rfl⟩
  have ek : (fun i => if 0 ≤ len i then rnF (ahF la i) (itF (la.getD i (nmF 0))).length else []) = kl := funext (fun i => (ekl i).symm)
  rw [ek] at k
  have kll : ∀ i, (kl i).length ≤ na i := fun i => by
    rw [ekl i, ena i]
    by_cases c : 0 ≤ len i
    · rw [if_pos c, rnF_l]; exact Nat.le_refl _
    · rw [if_neg c]; exact Nat.zero_le _
  have hlen : ∀ i, i ≤ L → (frF kl i).length ≤ ahF la i := fun i hi => by
    have := frF_b (kl := kl) (b := ahF la) i (fun j hj => by
      have h1 := kll j
      have h2 := ahF_s (l := la) (i := j) (by omega)
      rw [ena j] at h1
      omega)
    rw [ahF_0] at this
    omega
  unfold V_listItems
  refine ⟨fun m at_ x σ3 => ∃ i : Nat, x = i ∧ m = L - i ∧ i ≤ L ∧ at_ = (ahF la i : Int) ∧ lX σ3 (frF kl i), fun σ3 => lX σ3 (frF kl L), ⟨_, 0, rfl, rfl, Nat.zero_le _, by rw [ahF_0]; rfl, h0⟩, ?_, fun σ3 f3 h3 => k σ3 h3⟩
  rintro m at_ x σ3 ra rx f3 ⟨i, rfl, en, hi, rfl, hl3⟩
  refine ⟨fun z => by rw [show L = i by omega]; exact hl3, fun z => ?_⟩
  have iL : i < L := by omega
  obtain ⟨pa, va⟩ := pRX ha hc (i := i) (by omega)
  obtain ⟨n0, m1, m2⟩ := er4 i (by omega)
  have il := it_len m1
  have hah := ahF_s (l := la) (i := i) (by omega)
  have hab := ahF_b (l := la) (i := i) (by omega)
  have eki := ekl i
  rw [← ena i] at il hah hab eki
  have hle := hlen i hi
  have zi : sg_g σ 150 (i : Int) = len i := hz i iL
  rw [va, zi]
  refine ⟨fun m y σ4 => ∃ j : Nat, y = j ∧ m = na i - j ∧ j ≤ na i ∧ lX σ4 (frF kl i ++ (if 0 ≤ len i then rnF (ahF la i) j else [])), fun σ4 => lX σ4 (frF kl (i + 1)), ⟨_, 0, rfl, rfl, Nat.zero_le _, lX_e hl3 ?_⟩, ?_, ?_⟩
  · by_cases c : 0 ≤ len i
    · rw [if_pos c]; exact List.append_nil _
    · rw [if_neg c]; exact List.append_nil _
  · rintro m' y σ4 ry f4 ⟨j, rfl, en', hj, h4⟩
    refine ⟨pa, fun c => lX_e h4 ?_, fun c => ⟨⟨by omega, by omega⟩, fun σ5 => lX σ5 (frF kl i ++ (if 0 ≤ len i then rnF (ahF la i) (j + 1) else [])), ⟨fun c2 => lX_e h4 ?_, fun c2 => ⟨⟨by omega, by omega⟩, m_listX h4 ?_ ⟨by omega, by omega⟩ (fun σ6 h6 f6 _ => lX_e h6 ?_)⟩⟩, fun σ5 f5 h5 => ⟨⟨by omega, by omega⟩, na i - (j + 1), by omega, j + 1, by omega, rfl, by omega, h5⟩⟩⟩
    · rw [frF_s, eki, show j = na i by omega]
    · rw [if_neg (by omega), if_neg (by omega)]
    · rw [if_pos c2, List.length_append, rnF_l]; omega
    · rw [if_pos c2, if_pos c2, rnF_s, List.append_assoc]
  · intro σ4 f4 h4
    exact ⟨pa, ⟨by omega, by omega⟩, ⟨by omega, by omega⟩, L - (i + 1), by omega, i + 1, by omega, rfl, by omega, by omega, h4⟩
theorem m_fCatX {a b : Int} {L : Nat} {la lb : List vaF} {R' : List (Int × Int)} {f : Nat → Int ⊕ vaF} {s : fSt} {Q : Int → sg_S → Prop} (hC : fC σ) (hs : fcX σ s) (ha : fX σ 6000 a (d + 1) la R) (hb : fX σ 6000 b (d + 1) lb R') (hL : la.length = L) (hL' : lb.length = L) (h70 : 0 ≤ sg_g σ 88 70 ∧ sg_g σ 88 70 ≤ 11990) (hq : fqX σ 0) (hf : ∀ i, i < L → f i = if (itF (la.getD i (nmF 0))).length + (itF (lb.getD i (nmF 0))).length ≤ 200 then .inr (mkF (itF (la.getD i (nmF 0)) ++ itF (lb.getD i (nmF 0)))) else .inl 5) (k : ∀ q σ', opX σ σ' (d + 1) ((List.range L).map f) s q → (∀ x, x < sg_g σ 88 70 → sg_g σ' 133 x = sg_g σ 133 x) → Q q σ') : V_flatCat σ a b (L : Int) Q := by
  obtain ⟨c1, c2, c3, c4⟩ := hC
  have s85 := hs.2.1
  have s0 := hs.2.2.2.2
  obtain ⟨r, r', Ra, er, er1, er2, er3, er4, er5, er6, er7⟩ := fX_s ha
  subst er
  obtain ⟨t, t', Rt, et, et1, et2, et3, et4, et5, et6, et7⟩ := fX_s hb
  subst et
  have d2 : d ≤ 2 := by have := ha.1.2.1.2; simp only [List.length_cons] at this; omega
  have L6 : (L : Int) ≤ 6000 := by have := er6.2.2.1; omega
  have I6 : ((flF la).length : Int) ≤ 6000 := by have := er7.2.2.1; omega
  have J6 : ((flF lb).length : Int) ≤ 6000 := by have := et7.2.2.1; omega
  obtain ⟨na, ena⟩ : ∃ na : Nat → Nat, ∀ i, na i = (itF (la.getD i (nmF 0))).length := ⟨_, fun _ => rfl⟩
  obtain ⟨nb, enb⟩ : ∃ nb : Nat → Nat, ∀ i, nb i = (itF (lb.getD i (nmF 0))).length := ⟨_, fun _ => rfl⟩
  obtain ⟨len, elen⟩ : ∃ len : Nat → Int, ∀ i, len i = if na i + nb i ≤ 200 then (na i : Int) + nb i else -1 := ⟨_, fun _ => rfl⟩
  have len0 : ∀ i, 0 ≤ len i ↔ na i + nb i ≤ 200 := fun i => by
    rw [elen i]
    by_cases c : na i + nb i ≤ 200
    · rw [if_pos c]; omega
    · rw [if_neg c]; omega
  obtain ⟨kl, ekl⟩ : ∃ kl : Nat → List Int, ∀ i, kl i = if 0 ≤ len i then rnF (ahF la i) (na i) ++ rnF (((flF la).length + ahF lb i : Nat) : Int) (nb i) else [] := ⟨_, fun _ => rfl⟩
  have itf : ∀ i, i < L → itF (fOv (f i)) = if 0 ≤ len i then itF (la.getD i (nmF 0)) ++ itF (lb.getD i (nmF 0)) else [] := fun i hi => by
    rw [hf i hi, ← ena i, ← enb i]
    by_cases c : na i + nb i ≤ 200
    · rw [if_pos c, if_pos ((len0 i).mpr c)]
      show itF (mkF _) = _
      rw [itF_mk]
    · rw [if_neg c, if_neg (fun w => c ((len0 i).mp w))]; rfl
  have itW : ∀ i, i < L → (kl i).map (lnF (flF la ++ flF lb)) = itF (fOv (f i)) := fun i hi => by
    rw [itf i hi, ekl i]
    by_cases c : 0 ≤ len i
    · rw [if_pos c, if_pos c, List.map_append]
      have e1 : flF la ++ flF lb = flF (la.take i) ++ (itF (la.getD i (nmF 0)) ++ (flF (la.drop (i + 1)) ++ flF lb)) := by
        rw [flF_at (l := la) (i := i) (by omega), List.append_assoc, List.append_assoc]
      have e2 : flF la ++ flF lb = (flF la ++ flF (lb.take i)) ++ (itF (lb.getD i (nmF 0)) ++ flF (lb.drop (i + 1))) := by
        rw [List.append_assoc, ← flF_at (l := lb) (i := i) (by omega)]
      have g1 : (rnF (ahF la i) (na i)).map (lnF (flF la ++ flF lb)) = itF (la.getD i (nmF 0)) := by
        rw [e1, ena i]
        unfold ahF
        rw [ln_seg _ (Nat.le_refl _), List.take_of_length_le (Nat.le_refl _)]
      have g2 : (rnF (((flF la).length + ahF lb i : Nat) : Int) (nb i)).map (lnF (flF la ++ flF lb)) = itF (lb.getD i (nmF 0)) := by
        rw [e2, enb i]
        have e3 : (flF la).length + ahF lb i = (flF la ++ flF (lb.take i)).length := by
          rw [List.length_append]; rfl
        rw [e3, ln_seg _ (Nat.le_refl _), List.take_of_length_le (Nat.le_refl _)]
      rw [g1, g2]
    · rw [if_neg c, if_neg c]; rfl
  have flW := fl_W (lin := flF la ++ flF lb) itW
  have lenW : ∀ i, i < L → (fOv (f i)) [] = (if 0 ≤ len i then len i else 0) := fun i hi => by
    have hl := elen i
    rw [hf i hi, ← ena i, ← enb i]
    by_cases c : na i + nb i ≤ 200
    · rw [if_pos c, if_pos ((len0 i).mpr c)]
      show mkF _ [] = _
      rw [mkF_0, List.length_append, ← ena i, ← enb i]
      rw [if_pos c] at hl
      omega
    · rw [if_neg c, if_neg (fun w => c ((len0 i).mp w))]; rfl
  obtain ⟨ka, eka⟩ : ∃ ka : Nat → List Int, ka = (fun i => if 0 ≤ len i then rnF (ahF la i) (itF (la.getD i (nmF 0))).length else []) := ⟨_, rfl⟩
  obtain ⟨kb, ekb⟩ : ∃ kb : Nat → List Int, kb = (fun i => if 0 ≤ len i then rnF (ahF lb i) (itF (lb.getD i (nmF 0))).length else []) := ⟨_, rfl⟩
  have ext : exF d (flF (((List.range L).map f).map fOv)) = exF d ((frF ka L).map (lnF (flF la))) + exF d ((frF kb L).map (lnF (flF lb))) := by
    rw [flF_g, frF_map, frF_map, ← exF_fr2]
    refine congrArg (exF d) (frF_e (fun i hi => ?_))
    rw [itf i hi, eka, ekb]
    by_cases c : 0 ≤ len i
    · simp only [if_pos c]
      rw [ln_all (by omega), ln_all (by omega)]
    · simp only [if_neg c]
      rfl
  have eL : exF (d + 1) (((List.range L).map f).map fOv) = (L : Int) + exF d ((frF ka L).map (lnF (flF la))) + exF d ((frF kb L).map (lnF (flF lb))) := by
    simp only [exF]
    rw [ext, List.length_map, List.length_map, List.length_range]
    omega
  have hm : ∀ (lx : List vaF) (kx : Nat → List Int), lx.length = L → kx = (fun i => if 0 ≤ len i then rnF (ahF lx i) (itF (lx.getD i (nmF 0))).length else []) → (∀ x ∈ frF kx L, x < ((flF lx).length : Int)) ∧ (frF kx L).length ≤ (flF lx).length := fun lx kx h1 h2 => by
    refine ⟨frF_m (fun i hi x hx => ?_), ?_⟩
    · rw [h2] at hx
      have hab := ahF_b (l := lx) (i := i) (by omega)
      by_cases c : 0 ≤ len i
      · simp only [if_pos c] at hx
        have := rnF_m hx
        omega
      · simp only [if_neg c] at hx
        cases hx
    · have := frF_b (kl := kx) (b := ahF lx) L (fun j hj => by
        have h3 := ahF_s (l := lx) (i := j) (by omega)
        rw [h2]
        by_cases c : 0 ≤ len j
        · simp only [if_pos c]
          rw [rnF_l]; omega
        · simp only [if_neg c, List.length_nil]
          omega)
      rw [ahF_0, ← h1, ahF_n] at this
      rw [← h1]
      omega
  unfold V_flatCat
  refine ⟨fun m x σ2 => ∃ i : Nat, x = i ∧ m = L - i ∧ i ≤ L ∧ fqX σ2 (fOe ((List.range i).map f)) ∧ ∀ j : Nat, j < i → sg_g σ2 150 j = len j, fun σ2 => fqX σ2 (fOe ((List.range L).map f)) ∧ ∀ j : Nat, j < L → sg_g σ2 150 j = len j, ⟨_, 0, rfl, rfl, Nat.zero_le _, hq, fun j hj => by omega⟩, ?_, ?_⟩
  · rintro m x σ2 rx f2 ⟨i, rfl, en, hi, hq2, hz⟩
    refine ⟨fun z => by rw [show L = i by omega]; exact ⟨hq2, hz⟩, fun z => ?_⟩
    have iL : i < L := by omega
    obtain ⟨pa, va⟩ := pRX ha ⟨by omega, by omega⟩ (i := i) (by omega)
    obtain ⟨pb, vb⟩ := pRX hb ⟨by omega, by omega⟩ (i := i) (by omega)
    obtain ⟨n0, m1, m2⟩ := er4 i (by omega)
    obtain ⟨n0', m1', m2'⟩ := et4 i (by omega)
    have il := it_len m1
    have jl := it_len m1'
    have hfi := hf i iL
    rw [← ena i] at il hfi
    rw [← enb i] at jl hfi
    have eli := elen i
    rw [va, vb]
    refine ⟨pa, pb, ⟨by omega, by omega⟩, ⟨by omega, by omega⟩, fun σ3 e3 => ?_⟩
    have f3 : sg_F [150] σ2 σ3 := by rw [e3]; exact sg_F_w (sg_F_r _ _) rfl _
    have l3 : sg_g σ3 150 (i : Int) = (la.getD i (nmF 0)) [] + (lb.getD i (nmF 0)) [] := by rw [e3, sg_gw_e _ _ _ _ ⟨by omega, by omega⟩]
    have o3 : ∀ j : Nat, j < i → sg_g σ3 150 j = sg_g σ2 150 j := fun j hj => by rw [e3, sg_gw_k _ _ _ _ _ _ (by omega)]
    rw [l3]
    refine ⟨fun σ4 => fqX σ4 (fOe ((List.range (i + 1)).map f)) ∧ ∀ j : Nat, j < i + 1 → sg_g σ4 150 j = len j, ⟨fun c => ?_, fun c => ?_⟩, fun σ4 f4 h4 => ⟨⟨by omega, by omega⟩, L - (i + 1), by omega, i + 1, by omega, rfl, by omega, h4⟩⟩
    · have c' : na i + nb i ≤ 200 := by omega
      rw [if_pos c'] at hfi eli
      refine ⟨fqX_i (fqX_F f3 rfl hq2) (fOe_n hfi), fun j hj => ?_⟩
      by_cases cj : j = i
      · rw [cj, l3]; omega
      · rw [o3 j (by omega)]; exact hz j (by omega)
    · have c' : ¬ na i + nb i ≤ 200 := by omega
      rw [if_neg c'] at hfi eli
      refine m_lacksX ⟨by omega, rx⟩ ⟨by decide, by decide, by decide⟩ (fqX_F f3 rfl hq2) (fun σ4 h4 f4 _ σ5 e5 => ⟨fqX_F (L := [150]) (by rw [e5]; exact sg_F_w (sg_F_r _ _) rfl _) rfl (fqX_i h4 (fOe_e hfi)), fun j hj => ?_⟩)
      by_cases cj : j = i
      · rw [cj, e5, sg_gw_e _ _ _ _ ⟨by decide, by decide⟩, eli]
      · rw [e5, sg_gw_k _ _ _ _ _ _ (by omega), sg_F_ga f4 rfl, o3 j (by omega)]; exact hz j (by omega)
  · rintro σ2 f2 ⟨hq2, hz⟩
    have ex2 := fEx_F f2 rfl
    have e91 : sg_g σ2 88 91 = sg_g σ 88 91 := sg_F_g f2 (by rfl)
    have e87 : sg_g σ2 88 87 = sg_g σ 88 87 := sg_F_g f2 (by rfl)
    refine m_innerX ⟨by omega, by omega⟩ (fX_up ex2 ha) (fun one σ3 eq1 ex3 fv3 g87 f3 r1 _ => ?_)
    have g91 : sg_g σ3 88 91 = sg_g σ 88 91 := by rw [sg_F_g f3 (by rfl)]; exact e91
    refine m_innerX ⟨by omega, by omega⟩ (fX_up (fEx_t ex2 ex3) hb) (fun tw σ4 eq2 ex4 fv4 h87 f4 r2 _ σ5 e5 => ?_)
    have f5 : sg_F [94088] σ4 σ5 := by rw [e5]; exact sg_F_w (sg_F_r _ _) rfl _
    have F25 : sg_F [139, 140, 141, 88088, 94088] σ2 σ5 := sg_F_t (sg_F_m f3 rfl) (sg_F_t (sg_F_m f4 rfl) (sg_F_m f5 rfl))
    have F5 : sg_F [139, 140, 141, 150, 88088, 94088, 103088, 104088] σ σ5 := sg_F_t (sg_F_m f2 rfl) (sg_F_m F25 rfl)
    have ex5 : fEx σ σ5 := fEx_t ex2 (fEx_t ex3 (fEx_t ex4 (fEx_F f5 rfl)))
    have i91 : sg_g σ5 88 91 = sg_g σ 88 91 := sg_F_g F5 (by rfl)
    have i87 : sg_g σ5 88 87 = sg_g σ 88 87 + 2 := by rw [sg_F_g f5 (by rfl)]; omega
    have l5 : ∀ i : Nat, i < L → sg_g σ5 150 i = len i := fun i hi => by rw [sg_F_ga F25 rfl]; exact hz i hi
    have ha5 := fX_up ex5 ha
    have hb5 := fX_up ex5 hb
    refine m_listItemsX (len := len) ha5 hL ⟨by omega, by omega⟩ (lX_0 e5) l5 (fun σ6 h6 f6 => ?_)
    rw [← eka] at h6
    have j91 : sg_g σ6 88 91 = sg_g σ 88 91 := by rw [sg_F_g f6 (by rfl)]; exact i91
    have j87 : sg_g σ6 88 87 = sg_g σ 88 87 + 2 := by rw [sg_F_g f6 (by rfl)]; exact i87
    have ex45 : fEx σ4 σ5 := fEx_F f5 rfl
    have fv6 := fX_up (fEx_F f6 rfl) (fX_up ex45 (fX_up ex4 fv3))
    obtain ⟨ma1, ma2⟩ := hm la ka hL eka
    obtain ⟨mb1, mb2⟩ := hm lb kb hL' ekb
    obtain ⟨xa0, xa1⟩ := exF_u fv6 h6 ma1 (by omega)
    refine m_extX fv6 ⟨by decide, by decide⟩ ⟨by omega, by omega⟩ h6 ma1 (by omega) (fun σ7 f7 rt _ => ?_)
    obtain ⟨xa, exa⟩ : ∃ xa, xa = exF d ((frF ka L).map (lnF (flF la))) := ⟨_, rfl⟩
    rw [← exa] at xa0 xa1 eL ext ⊢
    refine ⟨⟨by omega, by omega⟩, fun σ8 e8 => ?_⟩
    have f8 : sg_F [94088] σ7 σ8 := by rw [e8]; exact sg_F_w (sg_F_r _ _) rfl _
    have F58 : sg_F [143, 144, 94088] σ5 σ8 := sg_F_t (sg_F_m f6 rfl) (sg_F_t (sg_F_m f7 rfl) (sg_F_m f8 rfl))
    have k91 : sg_g σ8 88 91 = sg_g σ 88 91 := by rw [sg_F_g F58 (by rfl)]; exact i91
    have k87 : sg_g σ8 88 87 = sg_g σ 88 87 + 2 := by rw [sg_F_g F58 (by rfl)]; exact i87
    refine m_listItemsX (len := len) (fX_up (fEx_F F58 rfl) hb5) hL' ⟨by omega, by omega⟩ (lX_0 e8) (fun i hi => by rw [sg_F_ga F58 rfl]; exact l5 i hi) (fun σ9 h9 f9 => ?_)
    rw [← ekb] at h9
    have F59 : sg_F [143, 144, 94088] σ5 σ9 := sg_F_t F58 (sg_F_m f9 rfl)
    have fv9 := fX_up (fEx_F F59 rfl) (fX_up ex45 fv4)
    have p91 : sg_g σ9 88 91 = sg_g σ 88 91 := by rw [sg_F_g F59 (by rfl)]; exact i91
    have p87 : sg_g σ9 88 87 = sg_g σ 88 87 + 2 := by rw [sg_F_g F59 (by rfl)]; exact i87
    obtain ⟨xb0, xb1⟩ := exF_u fv9 h9 mb1 (by omega)
    refine m_extX fv9 ⟨by decide, by decide⟩ ⟨by omega, by omega⟩ h9 mb1 (by omega) (fun σ10 f10 rt' _ => ?_)
    obtain ⟨xb, exb⟩ : ∃ xb, xb = exF d ((frF kb L).map (lnF (flF lb))) := ⟨_, rfl⟩
    rw [← exb] at xb0 xb1 eL ext ⊢
    have F510 : sg_F [143, 144, 94088] σ5 σ10 := sg_F_t F59 (sg_F_m f10 rfl)
    have F10 : sg_F [139, 140, 141, 143, 144, 150, 88088, 94088, 103088, 104088] σ σ10 := sg_F_t (sg_F_m F5 rfl) (sg_F_m F510 rfl)
    refine ⟨⟨by omega, by omega⟩, m_stepX (fcX_F F10 rfl hs) ⟨by omega, by omega⟩ (fun h0 σ' e c F _ ff => ⟨fun z => absurd rfl z, fun _ => k _ _ (Or.inl ⟨by rw [eL]; exact h0, e, c⟩) (fun x _ => by rw [sg_F_ga ff rfl, sg_F_ga F10 rfl])⟩) (fun s' hs' σ11 c11 f11 _ _ => ⟨fun _ => ⟨⟨by omega, by omega⟩, fun σ12 e12 => ⟨⟨by omega, by omega⟩, ⟨by omega, by omega⟩, fun σ13 e13 => ?_⟩⟩, fun z => by omega⟩)⟩
    have st := fStp_s hs'
    have F1113 : sg_F [133] σ11 σ13 := by rw [e13, e12]; exact sg_F_w (sg_F_w (sg_F_r _ _) rfl _) rfl _
    have F513 : sg_F [133, 143, 144, 85088, 86088, 94088] σ5 σ13 := sg_F_t (sg_F_m F510 rfl) (sg_F_t (sg_F_m f11 rfl) (sg_F_m F1113 rfl))
    have q91 : sg_g σ13 88 91 = sg_g σ 88 91 := by rw [sg_F_g F513 (by rfl)]; exact i91
    have q87 : sg_g σ13 88 87 = sg_g σ 88 87 + 2 := by rw [sg_F_g F513 (by rfl)]; exact i87
    have v0 : sg_g σ13 133 (sg_g σ 88 70) = one := by rw [e13, sg_gw_k _ _ _ _ _ _ (by omega), e12, sg_gw_e _ _ _ _ r1]
    have v1 : sg_g σ13 133 (sg_g σ 88 70 + 1) = tw := by rw [e13, sg_gw_e _ _ _ _ r2]
    have vo : ∀ x, x < sg_g σ 88 70 → sg_g σ13 133 x = sg_g σ 133 x := fun x hx => by
      rw [e13, sg_gw_k _ _ _ _ _ _ (by omega), e12, sg_gw_k _ _ _ _ _ _ (by omega), sg_F_ga f11 rfl, sg_F_ga F10 rfl]
    have ex513 : fEx σ5 σ13 := fEx_F F513 rfl
    have fo := fX_up ex513 (fX_up ex45 (fX_up ex4 fv3))
    have ft := fX_up ex513 (fX_up ex45 fv4)
    obtain ⟨Ls, eLs⟩ : ∃ Ls : Nat → List vaF, Ls = fun k => if k = 0 then flF la else flF lb := ⟨_, rfl⟩
    have eap : apF Ls 2 = flF la ++ flF lb := by
      rw [eLs]
      rfl
    have ya := eX_b fo.1.2.2.2.2
    have yb := eX_b ft.1.2.2.2.2
    rw [fo.2.1, eX_F fo] at ya
    rw [ft.2.1, eX_F ft] at yb
    have exap : exF d (apF Ls 2) = exF d (flF la) + exF d (flF lb) := by rw [eap, exF_a]
    refine m_joinF (Ls := Ls) (RR := fun k => if k = 0 then r' :: Ra else t' :: Rt) (M := 6000) (m := 2) ⟨rfl, by decide⟩ ⟨h70.1, by omega⟩ (fun k' hk' => ?_) (by omega) ⟨by omega, by omega⟩ (by decide) (by rw [exap]; omega) (fun q σ14 eq ex14 fv14 e87' e91' f14 rq _ => ?_)
    · rcases (show k' = 0 ∨ k' = 1 by omega) with e | e
      · subst e
        rw [show sg_g σ 88 70 + ((0 : Nat) : Int) = sg_g σ 88 70 by omega, v0, eLs]
        exact fo
      · subst e
        rw [show sg_g σ 88 70 + ((1 : Nat) : Int) = sg_g σ 88 70 + 1 by omega, v1, eLs]
        exact ft
    have fv14' := fv14 12000 (fun j hj => by
      rw [eap, lvl_a, List.length_append]
      have a1 := (fo.2.2.2 j hj).1
      have a2 := (ft.2.2.2 j hj).1
      obtain ⟨x1, hx1⟩ : ∃ q, (r' :: Ra)[j]? = some q := ⟨_, List.getElem?_eq_getElem (by have := fo.2.1; omega)⟩
      obtain ⟨x2, hx2⟩ : ∃ q, (t' :: Rt)[j]? = some q := ⟨_, List.getElem?_eq_getElem (by have := ft.2.1; omega)⟩
      have b1 := (fCh_at fo.1.2.2.2.2 hx1).1.2.2.1
      have b2 := (fCh_at ft.1.2.2.2.2 hx2).1.2.2.1
      rw [List.getD_eq_getElem?_getD, hx1] at a1
      rw [List.getD_eq_getElem?_getD, hx2] at a2
      simp only [Option.getD_some] at a1 a2
      omega)
    rw [eap] at fv14'
    rw [exap] at e91'
    have fo14 := fX_up ex14 fo
    have z0 := fV_0 fo14.1
    have ob := fo14.1.1
    have vl : v_lanesOf σ14 one = (flF la).length := by
      unfold v_lanesOf
      rw [z0.2]
      exact er3
    rw [vl]
    refine ⟨⟨⟨by omega, by omega⟩, ⟨by omega, by omega⟩, trivial⟩, fun σ15 e15 => ?_⟩
    have f15 : sg_F [94088] σ14 σ15 := by rw [e15]; exact sg_F_w (sg_F_r _ _) rfl _
    have l14 : ∀ i : Nat, i < L → sg_g σ14 150 i = len i := fun i hi => by rw [sg_F_ga f14 rfl, sg_F_ga F513 rfl]; exact l5 i hi
    have ex1 : fEx σ σ14 := fEx_t ex5 (fEx_t ex513 ex14)
    have ha14 := fX_up ex1 ha
    have hb14 := fX_up ex1 hb
    have a91 := ex14.1.2
    have hlen : ∀ i, i ≤ L → (frF kl i).length ≤ ahF la i + ahF lb i := fun i hi => by
      have := frF_b (kl := kl) (b := fun i => ahF la i + ahF lb i) i (fun j hj => by
        have h3 := ahF_s (l := la) (i := j) (by omega)
        have h4 := ahF_s (l := lb) (i := j) (by omega)
        rw [← ena j] at h3
        rw [← enb j] at h4
        rw [ekl j]
        by_cases c : 0 ≤ len j
        · rw [if_pos c, List.length_append, rnF_l, rnF_l]; omega
        · rw [if_neg c, List.length_nil]; omega)
      simp only [ahF_0] at this
      omega
    have b91 : sg_g σ14 88 91 ≤ 60000 := by omega
    refine ⟨fun m at_ be x σ3 => ∃ i : Nat, x = i ∧ m = L - i ∧ i ≤ L ∧ at_ = (ahF la i : Int) ∧ be = (((flF la).length + ahF lb i : Nat) : Int) ∧ lX σ3 (frF kl i) ∧ (∀ j : Nat, j < i → sg_g σ3 150 j = (if 0 ≤ len j then len j else 0)) ∧ ∀ j : Nat, i ≤ j → j < L → sg_g σ3 150 j = len j, fun σ3 => lX σ3 (frF kl L) ∧ ∀ j : Nat, j < L → sg_g σ3 150 j = (if 0 ≤ len j then len j else 0), ⟨_, 0, rfl, rfl, Nat.zero_le _, by rw [ahF_0]; rfl, by rw [ahF_0]; rfl, lX_0 e15, fun j hj => by omega, fun j _ hj => by rw [sg_F_ga f15 rfl]; exact l14 j hj⟩, ?_, ?_⟩
    · rintro m at_ be x σ3 ra rb rx f3' ⟨i, rfl, en, hi, rfl, rfl, hl3, hz1, hz2⟩
      refine ⟨fun z => by rw [show L = i by omega]; exact ⟨hl3, hz1⟩, fun z => ?_⟩
      have iL : i < L := by omega
      obtain ⟨pa, va⟩ := pRX ha14 ⟨b91, by omega⟩ (i := i) (by omega)
      obtain ⟨pb, vb⟩ := pRX hb14 ⟨b91, by omega⟩ (i := i) (by omega)
      obtain ⟨n0, m1, m2⟩ := er4 i (by omega)
      obtain ⟨n0', m1', m2'⟩ := et4 i (by omega)
      have il := it_len m1
      have jl := it_len m1'
      have hah := ahF_s (l := la) (i := i) (by omega)
      have hab := ahF_b (l := la) (i := i) (by omega)
      have hbh := ahF_s (l := lb) (i := i) (by omega)
      have hbb := ahF_b (l := lb) (i := i) (by omega)
      rw [← ena i] at il hah hab
      rw [← enb i] at jl hbh hbb
      have hle := hlen i hi
      have eki := ekl i
      have lx : sg_g σ3 150 (i : Int) = len i := hz2 i (Nat.le_refl _) iL
      rw [va, vb, lx]
      refine ⟨fun m y σ4 => ∃ j : Nat, y = j ∧ m = na i - j ∧ j ≤ na i ∧ lX σ4 (frF kl i ++ (if 0 ≤ len i then rnF (ahF la i) j else [])), fun σ4 => lX σ4 (frF kl i ++ (if 0 ≤ len i then rnF (ahF la i) (na i) else [])), ⟨_, 0, rfl, rfl, Nat.zero_le _, lX_e hl3 ?_⟩, ?_, ?_⟩
      · by_cases c : 0 ≤ len i
        · rw [if_pos c]; exact List.append_nil _
        · rw [if_neg c]; exact List.append_nil _
      · rintro m' y σ4 ry f4' ⟨j, rfl, en', hj, h4⟩
        refine ⟨pa, fun c => lX_e h4 ?_, fun c => ⟨⟨by omega, by omega⟩, fun c2 => lX_e h4 ?_, fun c2 => ⟨⟨by omega, by omega⟩, m_listX h4 ?_ ⟨by omega, by omega⟩ (fun σ6 h6' f6' _ => ⟨⟨by omega, by omega⟩, na i - (j + 1), by omega, j + 1, by omega, rfl, by omega, lX_e h6' ?_⟩)⟩⟩⟩
        · rw [show j = na i by omega]
        · rw [if_neg (by omega), if_neg (by omega)]
        · rw [if_pos c2, List.length_append, rnF_l]; omega
        · rw [if_pos c2, if_pos c2, rnF_s, List.append_assoc]
      · intro σ4 f4' h4
        refine ⟨fun m y σ5' => ∃ j : Nat, y = j ∧ m = nb i - j ∧ j ≤ nb i ∧ lX σ5' (frF kl i ++ (if 0 ≤ len i then rnF (ahF la i) (na i) ++ rnF (((flF la).length + ahF lb i : Nat) : Int) j else [])), fun σ5' => lX σ5' (frF kl (i + 1)), ⟨_, 0, rfl, rfl, Nat.zero_le _, lX_e h4 ?_⟩, ?_, ?_⟩
        · by_cases c : 0 ≤ len i
          · rw [if_pos c, if_pos c]
            exact congrArg (frF kl i ++ ·) (List.append_nil _)
          · rw [if_neg c, if_neg c]
        · rintro m' y σ5' ry f5' ⟨j, rfl, en', hj, h5⟩
          refine ⟨pb, fun c => lX_e h5 ?_, fun c => ⟨⟨by omega, by omega⟩, fun c2 => lX_e h5 ?_, fun c2 => ⟨⟨by omega, by omega⟩, m_listX h5 ?_ ⟨by omega, by omega⟩ (fun σ6' h6' f6' _ => ⟨⟨by omega, by omega⟩, nb i - (j + 1), by omega, j + 1, by omega, rfl, by omega, lX_e h6' ?_⟩)⟩⟩⟩
          · rw [frF_s, eki, show j = nb i by omega]
          · rw [frF_s, eki, if_neg (by omega), if_neg (by omega)]
          · rw [if_pos c2, List.length_append, List.length_append, rnF_l, rnF_l]; omega
          · rw [if_pos c2, if_pos c2, rnF_s, List.append_assoc, List.append_assoc]
        · intro σ5' f5' h5
          refine ⟨pa, ⟨by omega, by omega⟩, pb, ⟨by omega, by omega⟩, ⟨by omega, by omega⟩, fun v164 e164 r164 σ6' e6' => ?_⟩
          have f6' : sg_F [150] σ5' σ6' := by rw [e6']; exact sg_F_w (sg_F_r _ _) rfl _
          refine ⟨⟨by omega, by omega⟩, L - (i + 1), by omega, i + 1, by omega, rfl, by omega, by omega, by omega, lX_F f6' rfl h5, fun j hj => ?_, fun j hj hjL => ?_⟩
          · by_cases c : j = i
            · rw [c, e6', sg_gw_e _ _ _ _ r164, e164]
            · rw [e6', sg_gw_k _ _ _ _ _ _ (by omega), sg_F_ga f5' rfl, sg_F_ga f4' rfl]; exact hz1 j (by omega)
          · rw [e6', sg_gw_k _ _ _ _ _ _ (by omega), sg_F_ga f5' rfl, sg_F_ga f4' rfl]; exact hz2 j (by omega) hjL
    · rintro σ16 f16 ⟨hl16, hz1⟩
      have F16 : sg_F [143, 150, 94088] σ14 σ16 := sg_F_t (sg_F_m f15 rfl) f16
      have y91 : sg_g σ16 88 91 = sg_g σ 88 91 + (exF d (flF la) + exF d (flF lb)) := by rw [sg_F_g F16 (by rfl), e91', q91]
      have y87 : sg_g σ16 88 87 = sg_g σ 88 87 + 3 := by rw [sg_F_g F16 (by rfl)]; omega
      have fv16 := fX_up (fEx_F F16 rfl) fv14'
      have hleL := hlen L (Nat.le_refl _)
      have aL : ahF la L = (flF la).length := by rw [← hL]; exact ahF_n la
      have bL : ahF lb L = (flF lb).length := by rw [← hL']; exact ahF_n lb
      rw [flW] at ext
      refine m_tailX (M := 12000) fv16 ⟨by decide, by decide⟩ d2 (by omega) ⟨by omega, by omega⟩ hl16 (frF_m (fun i hi x hx => ?_)) (by omega) (by rw [List.length_map, List.length_map, List.length_range]) (by omega) (fun i hi => ?_) flW (by omega) (by omega) (fun q' σ17 ex17 e91'' e87'' f17 hf17 => ?_)
      · rw [ekl i] at hx
        have hab := ahF_b (l := la) (i := i) (by omega)
        have hbb := ahF_b (l := lb) (i := i) (by omega)
        rw [← ena i] at hab
        rw [← enb i] at hbb
        rw [List.length_append]
        by_cases c : 0 ≤ len i
        · rw [if_pos c] at hx
          rcases List.mem_append.mp hx with w | w
          · have := rnF_m w; omega
          · have := rnF_m w; omega
        · rw [if_neg c] at hx
          cases hx
      · rw [W_D hi, lenW i hi, hz1 i hi]
        have hl := elen i
        refine ⟨rfl, ?_⟩
        by_cases c : na i + nb i ≤ 200
        · rw [if_pos c] at hl
          rw [if_pos (by omega)]; omega
        · rw [if_neg c] at hl
          rw [if_neg (by omega)]; omega
      · have F1117 : sg_F [133, 139, 140, 141, 142, 143, 144, 150, 88088, 92088, 94088] σ11 σ17 := sg_F_t (sg_F_m F1113 rfl) (sg_F_t (sg_F_m f14 rfl) (sg_F_t (sg_F_m F16 rfl) (sg_F_m f17 rfl)))
        have F217 : sg_F [139, 140, 141, 143, 144, 88088, 94088] σ2 σ10 := sg_F_t (sg_F_m F25 rfl) (sg_F_m F510 rfl)
        have v17 : ∀ x, x < sg_g σ 88 70 → sg_g σ17 133 x = sg_g σ 133 x := fun x hx => by
          rw [sg_F_ga f17 rfl, sg_F_ga F16 rfl, sg_F_ga f14 rfl]; exact vo x hx
        refine k q' σ17 (opX_m0 (σ1 := σ11) eL hs' c11 F1117 rfl (by rw [sg_F_g f11 (by rfl), sg_F_g F10 (by rfl)]) (fqX_F F1117 rfl (fqX_F f11 rfl (fqX_F F217 rfl hq2))) (fEx_t ex5 (fEx_t ex513 (fEx_t ex14 (fEx_t (fEx_F F16 rfl) ex17)))) (fun e0 => ?_) (by omega) (fun _ => hf17)) v17
        have all : ∀ i, i < L → 0 ≤ len i := fun i hi => by
          have h0 := fOe_0 e0 (f i) (List.mem_map.mpr ⟨i, List.mem_range.mpr hi, rfl⟩)
          rw [hf i hi, ← ena i, ← enb i] at h0
          by_cases c : na i + nb i ≤ 200
          · exact (len0 i).mpr c
          · rw [if_neg c, fOe_l] at h0
            cases h0
        have xA : exF d (flF la) = xa := by
          have e2 := flF_fr la
          rw [hL] at e2
          have e3 : (frF ka L).map (lnF (flF la)) = frF (fun i => itF (la.getD i (nmF 0))) L := by
            rw [frF_map]
            refine frF_e (fun i hi => ?_)
            rw [eka]
            simp only [if_pos (all i hi)]
            exact ln_all (by omega)
          rw [exa, e3, ← e2]
        have xB : exF d (flF lb) = xb := by
          have e2 := flF_fr lb
          rw [hL'] at e2
          have e3 : (frF kb L).map (lnF (flF lb)) = frF (fun i => itF (lb.getD i (nmF 0))) L := by
            rw [frF_map]
            refine frF_e (fun i hi => ?_)
            rw [ekb]
            simp only [if_pos (all i hi)]
            exact ln_all (by omega)
          rw [exb, e3, ← e2]
        omega
end FXC
