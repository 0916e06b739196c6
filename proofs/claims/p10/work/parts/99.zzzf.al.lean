/-! flat ops of the reference, exactly: DIST, REV. -/
section FXD
variable {σ : sg_S} {M v : Int} {d : Nat} {l : List vaF} {R : List (Int × Int)}
theorem m_fDistX {a b : Int} {L d' : Nat} {la lb : List vaF} {R' : List (Int × Int)} {f : Nat → Int ⊕ vaF} {s : fSt} {Q : Int → sg_S → Prop} (hC : fC σ) (hs : fcX σ s) (ha : fX σ 6000 a d la R) (hd : d ≤ 2) (hb : fX σ 6000 b d' lb R') (hL : la.length = L) (hL' : lb.length = L) (hq : fqX σ 0) (hf : ∀ i, i < L → f i = if 0 ≤ (lb.getD i (nmF 0)) [] ∧ (lb.getD i (nmF 0)) [] ≤ 200 then .inr (mkF (List.replicate ((lb.getD i (nmF 0)) []).toNat (la.getD i (nmF 0)))) else .inl 5) (k : ∀ q σ', opX σ σ' (d + 1) ((List.range L).map f) s q → Q q σ') : V_flatDist σ a b (L : Int) Q := by
  have hC' := hC
  obtain ⟨c1, c2, c3, c4⟩ := hC
  have s85 := hs.2.1
  have s0 := hs.2.2.2.2
  obtain ⟨r, Ra, er, er1, er2, er3, er4⟩ := fX_r ha
  have L6 : (L : Int) ≤ 6000 := by have := er3.2.2.1; omega
  obtain ⟨len, elen⟩ : ∃ len : Nat → Int, ∀ i, len i = if 0 ≤ (lb.getD i (nmF 0)) [] ∧ (lb.getD i (nmF 0)) [] ≤ 200 then (lb.getD i (nmF 0)) [] else 0 := ⟨_, fun _ => rfl⟩
  obtain ⟨il, eil⟩ : ∃ il : Nat → List Int, ∀ i, il i = List.replicate (len i).toNat (i : Int) := ⟨_, fun _ => rfl⟩
  have lbd : ∀ i, 0 ≤ len i ∧ len i ≤ 200 := fun i => by
    rw [elen i]
    by_cases c : 0 ≤ (lb.getD i (nmF 0)) [] ∧ (lb.getD i (nmF 0)) [] ≤ 200
    · rw [if_pos c]; exact c
    · rw [if_neg c]; exact ⟨by decide, by decide⟩
  have ill : ∀ i, ((il i).length : Int) = len i := fun i => by
    rw [eil i, List.length_replicate]
    have := lbd i
    omega
  have lenW : ∀ i, i < L → (fOv (f i)) [] = len i := fun i hi => by
    rw [hf i hi, elen i]
    by_cases c : 0 ≤ (lb.getD i (nmF 0)) [] ∧ (lb.getD i (nmF 0)) [] ≤ 200
    · rw [if_pos c, if_pos c]
      show mkF _ [] = _
      rw [mkF_0, List.length_replicate]
      omega
    · rw [if_neg c, if_neg c]; rfl
  have itW : ∀ i, i < L → (il i).map (lnF la) = itF (fOv (f i)) := fun i hi => by
    have eln : lnF la (i : Int) = la.getD i (nmF 0) := by
      unfold lnF
      rw [if_neg (by omega), Int.toNat_natCast]
    rw [hf i hi, eil i, elen i, List.map_replicate, eln]
    by_cases c : 0 ≤ (lb.getD i (nmF 0)) [] ∧ (lb.getD i (nmF 0)) [] ≤ 200
    · rw [if_pos c, if_pos c]
      show _ = itF (mkF _)
      rw [itF_mk]
    · rw [if_neg c, if_neg c]
      rfl
  have flW := fl_W (lin := la) itW
  have tot := frF_sm (kl := il) (len := len) L (fun i _ => ill i)
  have smb := smF_b (len := len) L (fun i _ => lbd i)
  unfold V_flatDist
  refine ⟨fun m sm x σ3 => ∃ i : Nat, x = i ∧ m = L - i ∧ i ≤ L ∧ sm = (L : Int) + smF len i ∧ fqX σ3 (fOe ((List.range i).map f)) ∧ ∀ j : Nat, j < i → sg_g σ3 150 j = len j, fun sm σ3 => sm = (L : Int) + smF len L ∧ fqX σ3 (fOe ((List.range L).map f)) ∧ ∀ j : Nat, j < L → sg_g σ3 150 j = len j, ⟨_, 0, rfl, rfl, Nat.zero_le _, by simp [smF, sumF], hq, fun j hj => by omega⟩, ?_, ?_⟩
  · rintro m sm x σ3 rs rx f3 ⟨i, rfl, en, hi, rfl, hq3, hz⟩
    refine ⟨fun z => by rw [show L = i by omega]; exact ⟨rfl, hq3, hz⟩, fun z => ?_⟩
    have iL : i < L := by omega
    obtain ⟨pa, va⟩ := pRX hb ⟨by omega, by omega⟩ (i := i) (by omega)
    have hfi := hf i iL
    have eli := elen i
    have smi := smF_b (len := len) i (fun i _ => lbd i)
    have lbi := lbd i
    rw [va]
    refine ⟨pa, fun σ4 => fqX σ4 (fOe ((List.range (i + 1)).map f)), ⟨fun c => ?_, fun c => ?_⟩, fun σ4 f4 hq4 => ⟨⟨fun _ => trivial, fun c => ⟨pa, trivial⟩⟩, fun v97 e97 r97 => ⟨⟨by omega, by omega⟩, fun σ5 e5 => ?_⟩⟩⟩
    · have c' := Decidable.byContradiction (fun u => c (v_in_n.mpr u))
      rw [if_pos c'] at hfi
      exact fqX_i hq3 (fOe_n hfi)
    · have c' := v_in_n.mp c
      rw [if_neg c'] at hfi
      exact m_lacksX ⟨by omega, rx⟩ ⟨by decide, by decide, by decide⟩ hq3 (fun σ5 h5 _ _ => fqX_i h5 (fOe_e hfi))
    · have ev : v97 = len i := by
        rw [eli, e97]
        by_cases c : v_in ((lb.getD i (nmF 0)) []) 0 200 = 0
        · rw [if_pos c, if_neg (v_in_n.mp c)]
        · rw [if_neg c, if_pos (Decidable.byContradiction (fun u => c (v_in_n.mpr u)))]
      have w3 : sg_g σ5 150 (i : Int) = len i := by rw [e5, sg_gw_e _ _ _ _ r97]; exact ev
      rw [w3]
      refine ⟨⟨by omega, by omega⟩, ⟨by omega, by omega⟩, L - (i + 1), by omega, i + 1, by omega, rfl, by omega, by rw [smF_s]; omega, fqX_F (L := [150]) (by rw [e5]; exact sg_F_w (sg_F_r _ _) rfl _) rfl hq4, fun j hj => ?_⟩
      by_cases c : j = i
      · rw [c]; exact w3
      · rw [e5, sg_gw_k _ _ _ _ _ _ (by omega), sg_F_ga f4 rfl]; exact hz j (by omega)
  · rintro sm σ3 rs f3 ⟨rfl, hq3, hz⟩
    refine ⟨fun z σ4 e4 => ?_, fun z => m_stepX (fcX_F f3 rfl hs) ⟨by omega, by omega⟩ (fun h0 σ' e c F _ _ => k _ _ (Or.inl ⟨?_, e, c⟩)) (fun s' hs' σ5 c5 f5 _ _ => ?_)⟩
    · have f4 : sg_F [94088] σ3 σ4 := by rw [e4]; exact sg_F_w (sg_F_r _ _) rfl _
      refine ⟨fun m x σ5 => ∃ i : Nat, x = i ∧ m = L - i ∧ i ≤ L ∧ lX σ5 (frF il i), fun σ5 => lX σ5 (frF il L), ⟨_, 0, rfl, rfl, Nat.zero_le _, lX_0 e4⟩, ?_, ?_⟩
      · rintro m x σ5 rx f5 ⟨i, rfl, en, hi, hl⟩
        refine ⟨fun z => by rw [show L = i by omega]; exact hl, fun z => ?_⟩
        have iL : i < L := by omega
        have fle := frF_le (kl := il) (i := i) L iL
        have illi := ill i
        have lbi := lbd i
        have zi : sg_g σ3 150 (i : Int) = len i := hz i iL
        rw [zi]
        refine ⟨fun m y σ6 => ∃ j : Nat, y = j ∧ m = (len i).toNat - j ∧ j ≤ (len i).toNat ∧ lX σ6 (frF il i ++ List.replicate j (i : Int)), fun σ6 => lX σ6 (frF il (i + 1)), ⟨_, 0, rfl, rfl, Nat.zero_le _, lX_e hl (by simp)⟩, ?_, ?_⟩
        · rintro m' y σ6 ry f6 ⟨j, rfl, en', hj, hl6⟩
          refine ⟨⟨by omega, by omega⟩, fun z' => lX_e hl6 ?_, fun z' => m_listX hl6 (by rw [List.length_append, List.length_replicate]; omega) rx (fun σ7 h7 _ _ => ⟨⟨by omega, by omega⟩, (len i).toNat - (j + 1), by omega, j + 1, by omega, rfl, by omega, lX_e h7 ?_⟩)⟩
          · rw [frF_s, eil i, show j = (len i).toNat by omega]
          · rw [List.replicate_succ', List.append_assoc]
        · intro σ6 f6 hl6
          exact ⟨⟨by omega, by omega⟩, L - (i + 1), by omega, i + 1, by omega, rfl, by omega, hl6⟩
      · intro σ5 f5 hl
        have F : sg_F [143, 150, 94088, 103088, 104088] σ σ5 := sg_F_t (sg_F_m f3 rfl) (sg_F_t (sg_F_m f4 rfl) (sg_F_m f5 rfl))
        have F35 : sg_F [143, 94088] σ3 σ5 := sg_F_t (sg_F_m f4 rfl) f5
        refine m_estX (σ0 := σ) (fX_up (fEx_F F rfl) ha) hd hC' (fcX_F F rfl hs) (fEx_F F rfl) (sg_F_g F (by rfl)) (sg_F_g F (by rfl)) (sg_F_g F (by rfl)) (by rw [sg_F_g F (by rfl)]; omega) (fqX_F F35 rfl hq3) hl (frF_m (fun i hi x hx => ?_)) (by omega) (by rw [List.length_map, List.length_range]) (by omega) (fun i hi => ?_) flW k
        · rw [eil i] at hx
          rw [(List.mem_replicate.mp hx).2]
          omega
        · rw [W_D hi, lenW i hi, sg_F_ga F35 rfl, hz i hi]
          exact ⟨rfl, lbd i⟩
    · have e1 : exF (d + 1) (((List.range L).map f).map fOv) = (L : Int) + exF d ((frF il L).map (lnF la)) := by
        simp only [exF, List.length_map, List.length_range]
        rw [flW]
      have e2 := exF_n d ((frF il L).map (lnF la))
      rw [List.length_map, tot] at e2
      unfold fStp
      rw [if_pos (Or.inr (by rw [e1]; omega))]
    · have st := fStp_s hs'
      omega
theorem m_fRevX {a : Int} {L : Nat} {la : List vaF} {f : Nat → Int ⊕ vaF} {s : fSt} {Q : Int → sg_S → Prop} (hC : fC σ) (hs : fcX σ s) (ha : fX σ 6000 a (d + 1) la R) (hL : la.length = L) (hq : fqX σ 0) (hf : ∀ i, i < L → f i = .inr (mkF (itF (la.getD i (nmF 0))).reverse)) (k : ∀ q σ', opX σ σ' (d + 1) ((List.range L).map f) s q → Q q σ') : V_flatRev σ a (L : Int) Q := by
  obtain ⟨c1, c2, c3, c4⟩ := hC
  have s85 := hs.2.1
  have s0 := hs.2.2.2.2
  obtain ⟨r, r', Ra, er, er1, er2, er3, er4, er5, er6, er7⟩ := fX_s ha
  subst er
  have d3 : d ≤ 2 := by have := ha.1.2.1.2; simp only [List.length_cons] at this; omega
  have L6 : (L : Int) ≤ 6000 := by have := er6.2.2.1; omega
  have I6 : ((flF la).length : Int) ≤ 6000 := by have := er7.2.2.1; omega
  obtain ⟨it, eit⟩ : ∃ it : Nat → List vaF, ∀ i, it i = itF (la.getD i (nmF 0)) := ⟨_, fun _ => rfl⟩
  obtain ⟨kl, ekl⟩ : ∃ kl : Nat → List Int, ∀ i, kl i = (List.range (it i).length).map (fun t : Nat => (ahF la i : Int) + (((it i).length : Int) - 1 - t)) := ⟨_, fun _ => rfl⟩
  have kll : ∀ i, (kl i).length = (it i).length := fun i => by rw [ekl i, List.length_map, List.length_range]
  have itl : ∀ i, i < L → ((it i).length : Int) = (la.getD i (nmF 0)) [] := fun i hi => by rw [eit i]; exact it_len (er4 i (by omega)).2.1
  have itW : ∀ i, i < L → (kl i).map (lnF (flF la)) = itF (fOv (f i)) := fun i hi => by
    rw [hf i hi, ekl i, List.map_map]
    show _ = itF (mkF _)
    rw [itF_mk, ← eit i]
    apply List.ext_getElem?
    intro t
    rw [List.getElem?_map]
    rcases Nat.lt_or_ge t (it i).length with q | q
    · rw [List.getElem?_range q, List.getElem?_reverse q, Option.map_some]
      have e := ln_it (l := la) (i := i) (k := (it i).length - 1 - t) (by omega) (by rw [← eit i]; omega)
      rw [← eit i] at e
      show some (lnF (flF la) ((ahF la i : Int) + (((it i).length : Int) - 1 - t))) = _
      rw [show (ahF la i : Int) + (((it i).length : Int) - 1 - t) = (ahF la i : Int) + (((it i).length - 1 - t : Nat) : Int) by omega, e, ← gD_i (by omega)]
    · rw [List.getElem?_eq_none (by rw [List.length_range]; exact q), List.getElem?_eq_none (by rw [List.length_reverse]; exact q)]
      rfl
  have flW := fl_W (lin := flF la) itW
  have lenW : ∀ i, i < L → (fOv (f i)) [] = (la.getD i (nmF 0)) [] := fun i hi => by
    rw [hf i hi]
    show mkF _ [] = _
    rw [mkF_0, List.length_reverse, ← eit i]
    exact itl i hi
  have exd : exF d ((frF kl L).map (lnF (flF la))) = exF d (flF la) := by
    rw [← flW, flF_fr la, hL]
    have e : flF (((List.range L).map f).map fOv) = frF (fun i => itF (fOv (f i))) L := by
      unfold flF frF
      rw [List.map_map, List.map_map]
      rfl
    rw [e]
    refine exF_fr L (fun i hi => ?_)
    rw [hf i hi]
    show exF d (itF (mkF _)) = _
    rw [itF_mk, exF_rev]
  have eL : exF (d + 1) (((List.range L).map f).map fOv) = exF (d + 1) la := by
    simp only [exF, List.length_map, List.length_range]
    rw [flW, exd, hL]
  have eLa : exF (d + 1) la = (L : Int) + exF d (flF la) := by
    simp only [exF]
    rw [hL]
  have x0 : 0 ≤ exF d (flF la) := by
    have := exF_n d (flF la)
    have h0 : (0 : Int) ≤ ((flF la).length : Int) := Int.natCast_nonneg _
    omega
  unfold V_flatRev
  refine m_extent ha.1 ⟨by decide, by decide⟩ (by omega) (fun _ => ?_)
  have xb := eX_b ha.1.2.2.2.2
  have xl : (6000 : Int) * ((r :: r' :: Ra).length : Int) ≤ 24000 := by simp only [List.length_cons]; omega
  rw [eX_F ha] at xb ⊢
  refine m_stepX hs ⟨by omega, by omega⟩ (fun h0 σ' e c F _ _ => ⟨fun z => absurd rfl z, fun _ => k _ _ (Or.inl ⟨by rw [eL]; exact h0, e, c⟩)⟩) (fun s' hs' σ5 c5 f5 _ _ => ⟨fun _ => ?_, fun z => by omega⟩)
  have st := fStp_s hs'
  intro σ7 e7
  have f57 : sg_F [94088] σ5 σ7 := by rw [e7]; exact sg_F_w (sg_F_r _ _) rfl _
  have f7 : sg_F [85088, 86088, 94088] σ σ7 := sg_F_t (sg_F_m f5 rfl) (sg_F_m f57 rfl)
  have hlen : ∀ i, i ≤ L → (frF kl i).length ≤ ahF la i := fun i hi => by
    have := frF_b (kl := kl) (b := ahF la) i (fun j hj => by rw [kll j, eit j, ahF_s (by omega)]; exact Nat.le_refl _)
    rw [ahF_0] at this
    omega
  refine ⟨fun m at_ x σ3 => ∃ i : Nat, x = i ∧ m = L - i ∧ i ≤ L ∧ at_ = (ahF la i : Int) ∧ lX σ3 (frF kl i), fun σ3 => lX σ3 (frF kl L), ⟨_, 0, rfl, rfl, Nat.zero_le _, by rw [ahF_0]; rfl, lX_0 e7⟩, ?_, ?_⟩
  · rintro m at_ x σ3 ra rx f3 ⟨i, rfl, en, hi, rfl, hl3⟩
    refine ⟨fun z => by rw [show L = i by omega]; exact hl3, fun z => ?_⟩
    have iL : i < L := by omega
    obtain ⟨pa, va⟩ := pRX ha ⟨by omega, by omega⟩ (i := i) (by omega)
    obtain ⟨n0, n1, n2⟩ := er4 i (by omega)
    have il := itl i iL
    have hah := ahF_s (l := la) (i := i) (by omega)
    have hab := ahF_b (l := la) (i := i) (by omega)
    rw [← eit i] at hah hab
    have hle := hlen i hi
    rw [va]
    refine ⟨pa, ⟨by omega, by omega⟩, fun m y σ4 => ∃ j : Nat, y = ((it i).length : Int) - 1 - j ∧ m = (it i).length - j ∧ j ≤ (it i).length ∧ lX σ4 (frF kl i ++ (List.range j).map (fun t : Nat => (ahF la i : Int) + (((it i).length : Int) - 1 - t))), fun σ4 => lX σ4 (frF kl (i + 1)), ⟨_, 0, by omega, rfl, Nat.zero_le _, lX_e hl3 (by simp)⟩, ?_, ?_⟩
    · rintro m' y σ4 ry f4 ⟨j, rfl, en', hj, hl4⟩
      refine ⟨fun z' => lX_e hl4 ?_, fun z' => ⟨⟨by omega, by omega⟩, m_listX hl4 (by rw [List.length_append, List.length_map, List.length_range]; omega) ⟨by omega, by omega⟩ (fun σ6 h6 f6 _ => ⟨⟨by omega, by omega⟩, (it i).length - (j + 1), by omega, j + 1, by omega, rfl, by omega, lX_e h6 ?_⟩)⟩⟩
      · rw [frF_s, ekl i, show j = (it i).length by omega]
      · rw [List.range_succ, List.map_append, List.append_assoc]
        rfl
    · intro σ4 f4 hl4
      exact ⟨pa, ⟨by omega, by omega⟩, ⟨by omega, by omega⟩, L - (i + 1), by omega, i + 1, by omega, rfl, by omega, by omega, hl4⟩
  · intro σ3 f3 hl3
    have F : sg_F [143, 85088, 86088, 94088] σ σ3 := sg_F_t (sg_F_m f7 rfl) (sg_F_m f3 rfl)
    have F53 : sg_F [143, 94088] σ5 σ3 := sg_F_t (sg_F_m f57 rfl) f3
    have exf := fEx_F F rfl
    have g91 : sg_g σ3 88 91 = sg_g σ 88 91 := sg_F_g F (by rfl)
    have g87 : sg_g σ3 88 87 = sg_g σ 88 87 := sg_F_g F (by rfl)
    refine m_innerX ⟨by omega, by omega⟩ (fX_up exf ha) (fun q σ4 eq ex4 fv4 e87 f4 _ _ => ?_)
    have h91 : sg_g σ4 88 91 = sg_g σ 88 91 := by rw [sg_F_g f4 (by rfl)]; exact g91
    have hleL := hlen L (Nat.le_refl _)
    have ahL : ahF la L = (flF la).length := by rw [← hL]; exact ahF_n la
    have hmem : ∀ x ∈ frF kl L, x < ((flF la).length : Int) := frF_m (fun i hi x hx => by
      rw [ekl i] at hx
      obtain ⟨t, ht, e⟩ := List.mem_map.mp hx
      have e' : (ahF la i : Int) + (((it i).length : Int) - 1 - t) = x := e
      have hab := ahF_b (l := la) (i := i) (by omega)
      rw [← eit i] at hab
      rw [List.mem_range] at ht
      omega)
    refine m_gathF fv4 ⟨by decide, by decide⟩ (by omega) ⟨by omega, by omega⟩ (lX_F f4 rfl hl3) hmem (by omega) (by rw [exd]; omega) (fun w σ6 ew ex6 fv6 e87' e91' f6 rw' _ => ?_)
    have fv6' := fv6 6000 (fun j hj => by
      have := lvl_ex d j ((frF kl L).map (lnF (flF la))) hj
      rw [exd] at this
      omega)
    rw [← flW] at fv6'
    rw [exd] at e91'
    obtain ⟨r0, R0, fr, fr1, fr2, fr3, fr4⟩ := fX_r fv6'
    rw [fr] at fv6'
    have ha6 := fX_up (fEx_t exf (fEx_t ex4 ex6)) ha
    have z0 := fV_0 ha6.1
    have ab := ha.1.1
    obtain ⟨y1, y2, y3⟩ := ha6.1.2.2.2.2
    rw [z0.1]
    refine ⟨⟨by omega, by omega⟩, ⟨by omega, by omega⟩, m_outerX (M := 6000) (L := ((List.range L).map f).map fOv) ⟨by omega, by omega⟩ fv6' (by omega) ⟨⟨by have := er6.1; omega, by have := er6.2.2.2; omega⟩, ⟨by omega, by omega⟩⟩ ?_ (by rw [List.length_map, List.length_map, List.length_range]) (fun i u hu => ?_) (fun q2 σ9 e9 ex9 fv9 e87'' f9 _ _ => ?_)⟩
    · rw [hL] at er2
      rw [← er2]; exact y1
    · have hi := lt_of_get hu
      have hD := gD_i hi
      rw [List.length_map, List.length_map, List.length_range] at hi
      rw [hu, W_D hi] at hD
      have eu : u = fOv (f i) := Option.some.inj hD
      rw [eu, lenW i hi]
      obtain ⟨r1, R1, q1, q2, q3, q4, q5⟩ := fX_r ha6
      cases q1
      exact ⟨q5 i (by omega), (er4 i (by omega)).2⟩
    · have j91 : sg_g σ9 88 91 = sg_g σ6 88 91 := sg_F_g f9 (by rfl)
      refine k q2 σ9 (opX_mk (σ1 := σ5) eL hs' c5 (sg_F_t (sg_F_m (L := [139, 140, 141, 142, 143, 144, 88088, 92088, 94088]) F53 rfl) (sg_F_t (sg_F_m f4 rfl) (sg_F_t (sg_F_m f6 rfl) (sg_F_m f9 rfl)))) rfl (sg_F_g f5 (by rfl)) ?_ (fEx_t exf (fEx_t ex4 (fEx_t ex6 ex9))) (by omega) (by omega) (fun _ => ⟨_, fv9⟩))
      have e0 : fOe ((List.range L).map f) = 0 := fOe_z L (fun i hi => by rw [hf i hi]; rfl)
      rw [e0]
      exact fqX_F f9 rfl (fqX_F f6 rfl (fqX_F f4 rfl (fqX_F F rfl hq)))
end FXD
