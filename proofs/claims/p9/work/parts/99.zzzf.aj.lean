/-! flat ops of the reference, exactly: numbers; lengths put; an outer row. -/
theorem fOe_0 : ∀ {l : List (Int ⊕ vaF)}, fOe l = 0 → ∀ r ∈ l, fOe [r] = 0
  | [], _, r, hr => by cases hr
  | .inl e :: t, h, r, hr => by
    by_cases c : e = 0
    · have h1 : fOe (.inl e :: t) = fOe t := by simp only [fOe]; rw [if_pos c]
      rw [h1] at h
      rcases List.mem_cons.mp hr with q | q
      · rw [q, fOe_l, c]
      · exact fOe_0 h r q
    · have h1 : fOe (.inl e :: t) = e := by simp only [fOe]; rw [if_neg c]
      rw [h1] at h
      exact absurd h c
  | .inr v :: t, h, r, hr => by
    have h1 : fOe (.inr v :: t) = fOe t := rfl
    rw [h1] at h
    rcases List.mem_cons.mp hr with q | q
    · rw [q]; rfl
    · exact fOe_0 h r q
theorem fOe_z {f : Nat → Int ⊕ vaF} : ∀ n : Nat, (∀ i, i < n → fOe [f i] = 0) → fOe ((List.range n).map f) = 0
  | 0, _ => rfl
  | n + 1, h => by
    rw [fOe_r, fOe_z n (fun i hi => h i (by omega)), if_pos rfl]
    exact h n (by omega)
theorem mp_e {α : Type} {f g : Nat → α} {n : Nat} (h : ∀ i, i < n → f i = g i) : (List.range n).map f = (List.range n).map g := List.map_congr_left (fun i hi => h i (List.mem_range.mp hi))
theorem mp_D {f : Nat → vaF} {n i : Nat} (h : i < n) : ((List.range n).map f).getD i (nmF 0) = f i := by
  rw [List.getD_eq_getElem?_getD, List.getElem?_map, List.getElem?_range h]; rfl
theorem gHX_r {σb σ : sg_S} {f t c : Int} {b : Prop} {i : Nat} {g : Nat → Int} (h : gHX σb f b ((i : Int) + 1) t ((List.range i).map g ++ [c]) σ) (e : g i = c) : gHX σb f b ((i + 1 : Nat) : Int) t ((List.range (i + 1)).map g) σ := by
  rw [List.range_succ, List.map_append, show ((i + 1 : Nat) : Int) = (i : Int) + 1 by omega, List.map_cons, List.map_nil, e]
  exact h
section FXT
variable {σ : sg_S} {M v : Int} {d : Nat} {l : List vaF} {R : List (Int × Int)}
theorem opX_m0 {σ1 σ' : sg_S} {K : Nat} {rs : List (Int ⊕ vaF)} {s s' : fSt} {q a : Int} {L : List Nat} (ea : exF K (rs.map fOv) = a) (h : fStp a s = some s') (h1 : fcX σ1 s') (F : sg_F L σ1 σ') (hL : (!sg_cv L 88 84 && !sg_cv L 88 85 && !sg_cv L 88 86 && !sg_cv L 88 73) = true) (h73 : sg_g σ1 88 73 = sg_g σ 88 73) (hq : fqX σ' (fOe rs)) (ex : fEx σ σ') (h91 : fOe rs = 0 → sg_g σ' 88 91 ≤ 2 * (s.2.1 + a)) (h87 : sg_g σ' 88 87 ≤ sg_g σ 88 87 + 8) (hf : fOe rs = 0 → ∃ R, fX σ' 6000 q K (rs.map fOv) R) : opX σ σ' K rs s q := by
  simp only [Bool.and_eq_true, Bool.not_eq_true'] at hL
  have c' : fcX σ' s' := fcX_F F (by simp only [Bool.and_eq_true, Bool.not_eq_true']; exact hL.1) h1
  have st := fStp_s h
  have e85 := c'.2.1
  refine Or.inr ⟨s', by rw [ea]; exact h, ⟨by rw [sg_F_g F hL.2]; exact h73, c', hq⟩, ex, ?_, h87, hf⟩
  intro e0
  rw [e85, st.2.1]
  exact h91 e0
theorem opX_mk {σ1 σ' : sg_S} {K : Nat} {rs : List (Int ⊕ vaF)} {s s' : fSt} {q a : Int} {L : List Nat} (ea : exF K (rs.map fOv) = a) (h : fStp a s = some s') (h1 : fcX σ1 s') (F : sg_F L σ1 σ') (hL : (!sg_cv L 88 84 && !sg_cv L 88 85 && !sg_cv L 88 86 && !sg_cv L 88 73) = true) (h73 : sg_g σ1 88 73 = sg_g σ 88 73) (hq : fqX σ' (fOe rs)) (ex : fEx σ σ') (h91 : sg_g σ' 88 91 ≤ 2 * (s.2.1 + a)) (h87 : sg_g σ' 88 87 ≤ sg_g σ 88 87 + 8) (hf : fOe rs = 0 → ∃ R, fX σ' 6000 q K (rs.map fOv) R) : opX σ σ' K rs s q := opX_m0 ea h h1 F hL h73 hq ex (fun _ => h91) h87 hf
theorem m_putLensX {L : Nat} {Q : Int → sg_S → Prop} (h : 0 ≤ sg_g σ 88 91 ∧ sg_g σ 88 91 + L ≤ 60000) (hL : L ≤ 13000) (hl : ∀ i : Nat, i < L → 0 ≤ sg_g σ 150 i ∧ sg_g σ 150 i ≤ 200) (k : ∀ σ', gHX σ (sg_g σ 88 91) True L (ls σ L) ((List.range L).map (fun i : Nat => sg_g σ 150 i)) σ' → sg_F [142, 92088] σ σ' → Q (sg_g σ 88 91) σ') : V_putLens σ (L : Int) Q := by
  unfold V_putLens
  refine ⟨fun n x σ2 => ∃ i : Nat, x = i ∧ n = L - i ∧ i ≤ L ∧ gHX σ (sg_g σ 88 91) True i (ls σ i) ((List.range i).map (fun i : Nat => sg_g σ 150 i)) σ2, fun σ2 => gHX σ (sg_g σ 88 91) True L (ls σ L) ((List.range L).map (fun i : Nat => sg_g σ 150 i)) σ2, ⟨_, 0, rfl, rfl, Nat.zero_le _, gHX_0 _ _⟩, ?_, fun σ2 f2 h2 => k σ2 h2 f2⟩
  rintro n x σ2 rx f2 ⟨i, rfl, en, hi, hG⟩
  refine ⟨fun z => by rw [show L = i by omega]; exact hG, fun z => ⟨⟨by omega, by omega⟩, ?_⟩⟩
  refine m_putX hG h.1 (by omega) (sg_Rg _ _ _) (fun _ => hl i (by omega)) (fun σ3 h3 f3 _ => ⟨⟨by omega, by omega⟩, L - (i + 1), by omega, i + 1, by omega, rfl, by omega, ?_⟩)
  have h4 := gHX_r (g := fun i : Nat => sg_g σ 150 i) h3 rfl
  exact h4
theorem m_tailX {L : Nat} {ks : List Int} {W : List vaF} {Q : Int → sg_S → Prop} (hv : fX σ M v d l R) (hM : 1 ≤ M ∧ M ≤ 12000) (hd : d ≤ 2) (hc : 0 ≤ sg_g σ 88 91) (hfl : 0 ≤ sg_g σ 88 87 ∧ sg_g σ 88 87 ≤ 29000) (hk : lX σ ks) (hl : ∀ x ∈ ks, x < l.length) (hn : ks.length ≤ 13000) (hL : W.length = L) (hL6 : L ≤ 6000) (hz : ∀ i : Nat, i < L → sg_g σ 150 i = (W.getD i (nmF 0)) [] ∧ 0 ≤ (W.getD i (nmF 0)) [] ∧ (W.getD i (nmF 0)) [] ≤ 200) (hW : flF W = ks.map (lnF l)) (hg : exF d (ks.map (lnF l)) ≤ 6000) (ht : sg_g σ 88 91 + exF d (ks.map (lnF l)) + L ≤ 60000) (k : ∀ q σ', fEx σ σ' → sg_g σ' 88 91 = sg_g σ 88 91 + exF d (ks.map (lnF l)) + L → sg_g σ' 88 87 = sg_g σ 88 87 + 2 → sg_F [139, 140, 141, 142, 144, 88088, 92088] σ σ' → (∃ R', fX σ' 6000 q (d + 1) W R') → Q q σ') : V_gathered σ v (fun q51 σ52 => sg_R q51 → sg_F [139, 140, 141, 142, 144, 88088, 92088] σ σ52 → V_putLens σ52 (L : Int) (fun q57 σ58 => sg_R q57 → sg_F [142, 92088] σ52 σ58 → V_outer σ58 q57 (L : Int) q51 (fun q63 σ64 => sg_R q63 → sg_F [139, 140, 141, 88088] σ58 σ64 → Q q63 σ64))) := by
  have x0 : 0 ≤ exF d (ks.map (lnF l)) := by
    have := exF_n d (ks.map (lnF l))
    have h0 : (0 : Int) ≤ ((ks.map (lnF l)).length : Int) := Int.natCast_nonneg _
    omega
  refine m_gathF hv hM hc ⟨hfl.1, by omega⟩ hk hl hn (by omega) (fun q σ' eq ex fv e87 e91 F rq f => ?_)
  have fv6 := fv 6000 (fun j hj => by
    have := lvl_ex d j (ks.map (lnF l)) hj
    omega)
  refine m_putLensX (L := L) ⟨by omega, by omega⟩ (by omega) (fun i hi => by
    obtain ⟨h1, h2, h3⟩ := hz i hi
    rw [sg_F_ga f rfl, h1]; exact ⟨h2, h3⟩) (fun σ58 h58 f58 r58 _ => ?_)
  have ex2 := gH_ex h58.1 f58
  have g58 := h58.1.1
  have e58 : sg_g σ58 88 87 = sg_g σ' 88 87 := sg_F_g f58 (by rfl)
  have fv58 := fX_up ex2 fv6
  rw [← hW] at fv58
  obtain ⟨r0, R0, er, er1, er2, er3, er4⟩ := fX_r fv58
  rw [er] at fv58
  refine m_outerX (M := 6000) (L := W) ⟨by omega, by omega⟩ fv58 (by omega) ⟨r58, ⟨by omega, by omega⟩⟩ ⟨by simp only; omega, by simp only; omega, by simp only; omega, by simp only; omega⟩ (by rw [hL]) (fun i u hu => ?_) (fun q2 σ3 e3 ex3 fv3 e87' f3 _ _ => ?_)
  · have hi := lt_of_get hu
    have hD := gD_i hi
    rw [hu] at hD
    have eu : u = W.getD i (nmF 0) := Option.some.inj hD
    obtain ⟨h1, h2, h3⟩ := hz i (by omega)
    rw [eu]
    refine ⟨?_, h2, h3⟩
    have h4 := h58.2.2 i (sg_g σ' 150 i) (by rw [List.getElem?_map, List.getElem?_range (by omega)]; rfl)
    rw [h4, sg_F_ga f rfl]
    exact h1
  · refine k q2 σ3 (fEx_t ex (fEx_t ex2 ex3)) ?_ (by omega) (sg_F_t f (sg_F_t (sg_F_m f58 rfl) (sg_F_m f3 rfl))) ⟨_, fv3⟩
    rw [sg_F_g f3 (by rfl)]
    omega
theorem m_estX {σ0 : sg_S} {L : Nat} {ks : List Int} {rs : List (Int ⊕ vaF)} {s : fSt} {Q : Int → sg_S → Prop} (hv : fX σ 6000 v d l R) (hd : d ≤ 2) (hC : fC σ0) (hs : fcX σ s) (ex : fEx σ0 σ) (h73 : sg_g σ 88 73 = sg_g σ0 88 73) (h91 : sg_g σ 88 91 = sg_g σ0 88 91) (h85 : sg_g σ 88 85 = sg_g σ0 88 85) (h87 : sg_g σ 88 87 ≤ sg_g σ0 88 87 + 3) (hq : fqX σ (fOe rs)) (hk : lX σ ks) (hl : ∀ x ∈ ks, x < l.length) (hn : ks.length ≤ 13000) (hL : rs.length = L) (hL6 : L ≤ 6000) (hz : ∀ i : Nat, i < L → sg_g σ 150 i = ((rs.map fOv).getD i (nmF 0)) [] ∧ 0 ≤ ((rs.map fOv).getD i (nmF 0)) [] ∧ ((rs.map fOv).getD i (nmF 0)) [] ≤ 200) (hW : flF (rs.map fOv) = ks.map (lnF l)) (k : ∀ q σ', opX σ0 σ' (d + 1) rs s q → Q q σ') : V_extentOfLanes σ v (fun q37 σ38 => sg_RL q37 → sg_F [144] σ σ38 → sg_RL ((L : Int) + q37) ∧ V_stepped σ38 ((L : Int) + q37) (fun q44 σ45 => (q44 = 0 ∨ q44 = 1) → sg_F [74088, 85088, 86088] σ38 σ45 → ((¬ q44 = 0 → V_gathered σ45 v (fun q51 σ52 => sg_R q51 → sg_F [139, 140, 141, 142, 144, 88088, 92088] σ45 σ52 → V_putLens σ52 (L : Int) (fun q57 σ58 => sg_R q57 → sg_F [142, 92088] σ52 σ58 → V_outer σ58 q57 (L : Int) q51 (fun q63 σ64 => sg_R q63 → sg_F [139, 140, 141, 88088] σ58 σ64 → Q q63 σ64)))) ∧ (q44 = 0 → Q 0 σ45)))) := by
  obtain ⟨c1, c2, c3, c4⟩ := hC
  have e87 := ex.1.1
  have lR := hv.2.1
  have eL : exF (d + 1) (rs.map fOv) = (L : Int) + exF d (ks.map (lnF l)) := by
    simp only [exF, List.length_map]
    rw [hW, hL]
  have tb : exF d (ks.map (lnF l)) ≤ 312000000 := by
    rw [← gT_X hv (by decide) hk hl hn]
    exact gT_u hv.1.2.2.2.2 (lnO_X hv hk hl hn) (by omega) (by rw [hk.1]; exact Int.le_refl _)
  have x0 : 0 ≤ exF d (ks.map (lnF l)) := by
    have := exF_n d (ks.map (lnF l))
    have h0 : (0 : Int) ≤ ((ks.map (lnF l)).length : Int) := Int.natCast_nonneg _
    omega
  have s85 := hs.2.1
  refine m_extX hv ⟨by decide, by decide⟩ ⟨by omega, by omega⟩ hk hl hn (fun σ4 f4 rt _ => ?_)
  obtain ⟨t, et⟩ : ∃ t, t = exF d (ks.map (lnF l)) := ⟨_, rfl⟩
  rw [← et] at eL tb x0 ⊢
  refine ⟨⟨by omega, by omega⟩, m_stepX (fcX_F f4 rfl hs) ⟨by omega, by omega⟩ (fun h0 σ' e c F _ _ => ⟨fun z => absurd rfl z, fun _ => k _ _ (Or.inl ⟨by rw [eL]; exact h0, e, c⟩)⟩) (fun s' hs' σ5 c5 f5 _ _ => ⟨fun _ => ?_, fun z => by omega⟩)⟩
  have st := fStp_s hs'
  have f45 : sg_F [144, 85088, 86088] σ σ5 := sg_F_t (sg_F_m f4 rfl) (sg_F_m f5 rfl)
  have i91 : sg_g σ5 88 91 = sg_g σ0 88 91 := by rw [sg_F_g f45 (by rfl)]; exact h91
  have i87 : sg_g σ5 88 87 = sg_g σ 88 87 := sg_F_g f45 (by rfl)
  refine m_tailX (fX_up (fEx_F f45 rfl) hv) ⟨by decide, by decide⟩ hd (by omega) ⟨by omega, by omega⟩ (lX_F f45 rfl hk) hl hn (by rw [List.length_map]; exact hL) hL6 (fun i hi => by rw [sg_F_ga f45 rfl]; exact hz i hi) hW (by omega) (by omega) (fun q σ6 ex6 e91 e87' f6 hf => k q σ6 (opX_mk (σ1 := σ5) eL hs' c5 f6 rfl (by rw [sg_F_g f45 (by rfl)]; exact h73) (fqX_F f6 rfl (fqX_F f45 rfl hq)) (fEx_t ex (fEx_t (fEx_F f45 rfl) ex6)) (by omega) (by omega) (fun _ => hf)))
theorem m_numsX {L : Nat} {f t : Int} {σb : sg_S} {cl : List Int} {Q : Int → sg_S → Prop} (h : gHX σb (sg_g σb 88 91) False L t cl σ) (F : sg_F [142, 92088, 103088, 104088] σb σ) (hf : f = sg_g σb 88 91) (h0 : 0 ≤ sg_g σb 88 91 ∧ sg_g σb 88 91 + L ≤ 60000) (hfl : 0 ≤ sg_g σ 88 87 ∧ sg_g σ 88 87 ≤ 29000) (hL : L ≤ 6000) (k : ∀ q σ', fEx σb σ' → sg_g σ' 88 91 = sg_g σb 88 91 + L → sg_g σ' 88 87 = sg_g σb 88 87 + 1 → sg_F [139, 140, 141, 88088] σ σ' → fX σ' 6000 q 0 (cl.map nmF) [(f, (L : Int))] → Q q σ') : V_numbers σ f Q := by
  obtain ⟨g1, g2, g3⟩ := h
  have h1 := g1.1.1
  have ex : fEx σb σ := ⟨⟨by rw [sg_F_g F (by rfl)]; exact Int.le_refl _, by omega⟩, fun v _ _ => sg_F_ga F rfl, fun x _ _ => ⟨sg_F_ga F rfl, sg_F_ga F rfl⟩, fun x y z => g1.2.1 x y z⟩
  have e87 : sg_g σ 88 87 = sg_g σb 88 87 := sg_F_g F (by rfl)
  subst hf
  refine m_numbersX (M := 6000) (l := cl.map nmF) ⟨by omega, by omega⟩ ⟨by omega, by omega, by omega⟩ (by omega) (by rw [List.length_map]; omega) (fun i v hv => ?_) (fun q σ' e1 e2 e3 e4 e5 => k q σ' (fEx_t ex e2) (by rw [sg_F_g e5 (by rfl)]; omega) (by omega) e5 ?_)
  · rw [List.getElem?_map] at hv
    cases hc : cl[i]? with
    | none => rw [hc] at hv; cases hv
    | some x =>
      rw [hc] at hv
      cases hv
      exact g3 i x hc
  · rwa [show sg_g σ 88 91 - sg_g σb 88 91 = (L : Int) by omega] at e3
theorem m_f0X {n : Int} {L : Nat} {f : Nat → Int ⊕ vaF} {s : fSt} {Q : Int → sg_S → Prop} (hC : fC σ) (hs : fcX σ s) (hL : L ≤ 6000) (hn : 0 ≤ n ∧ n < 210) (hq : fqX σ 0) (hf : ∀ i, i < L → f i = .inr (nmF (sg_n (sg_gl σ 95 n)))) (k : ∀ q σ', opX σ σ' 0 ((List.range L).map f) s q → sg_F [139, 140, 141, 142, 74088, 85088, 86088, 88088, 92088, 103088, 104088] σ σ' → Q q σ') : V_flatWorked_0 σ n (L : Int) Q := by
  obtain ⟨c1, c2, c3, c4⟩ := hC
  have s85 := hs.2.1
  have eL : exF 0 (((List.range L).map f).map fOv) = (L : Int) := by simp only [exF, List.length_map, List.length_range]
  unfold V_flatWorked_0
  refine m_stepX hs ⟨by omega, by omega⟩ (fun h0 σ' e c F _ ff => ⟨fun z => absurd rfl z, fun _ => k _ _ (Or.inl ⟨by rw [eL]; exact h0, e, c⟩) (sg_F_m ff rfl)⟩) (fun s' hs' σ1 c' f1 _ _ => ⟨fun _ => ?_, fun z => by omega⟩)
  have st := fStp_s hs'
  have e91 : sg_g σ1 88 91 = sg_g σ 88 91 := sg_F_g f1 (by rfl)
  have e87 : sg_g σ1 88 87 = sg_g σ 88 87 := sg_F_g f1 (by rfl)
  refine ⟨fun m x σ2 => ∃ i : Nat, x = i ∧ m = L - i ∧ i ≤ L ∧ ∃ t, gHX σ1 (sg_g σ1 88 91) False i t ((List.range i).map (fun _ : Nat => sg_n (sg_gl σ 95 n))) σ2, fun σ2 => ∃ t, gHX σ1 (sg_g σ1 88 91) False L t ((List.range L).map (fun _ : Nat => sg_n (sg_gl σ 95 n))) σ2, ⟨_, 0, rfl, rfl, Nat.zero_le _, 0, gHX_0 _ _⟩, ?_, ?_⟩
  · rintro m x σ2 rx f2 ⟨i, rfl, en, hi, t, hG⟩
    refine ⟨fun z => ⟨t, by rw [show L = i by omega]; exact hG⟩, fun z => ⟨hn, ?_⟩⟩
    refine m_putX hG (by omega) (by omega) (sg_Rn _) (fun b => b.elim) (fun σ3 h3 _ _ => ⟨⟨by omega, by omega⟩, L - (i + 1), by omega, i + 1, by omega, rfl, by omega, _, gHX_r h3 rfl⟩)
  · rintro σ2 f2 ⟨t, hG⟩
    have e0 : fOe ((List.range L).map f) = 0 := fOe_z L (fun i hi => by rw [hf i hi]; rfl)
    refine m_numsX hG (sg_F_m f2 rfl) (by omega) ⟨by omega, by omega⟩ ⟨by rw [sg_F_g f2 (by rfl)]; omega, by rw [sg_F_g f2 (by rfl)]; omega⟩ hL (fun q σ' x1 x2 x3 x4 x5 _ _ => k q σ' (opX_mk (σ1 := σ1) eL hs' c' (sg_F_t (sg_F_m (L := [139, 140, 141, 142, 88088, 92088]) f2 rfl) (sg_F_m x4 rfl)) rfl (sg_F_g f1 (by rfl)) (by rw [e0]; exact fqX_F x4 rfl (fqX_F f2 rfl (fqX_F f1 rfl hq))) (fEx_t (fEx_F f1 rfl) x1) (by omega) (by omega) (fun _ => ⟨[(sg_g σ 88 91, (L : Int))], ?_⟩)) (sg_F_t (sg_F_m f1 rfl) (sg_F_t (sg_F_m f2 rfl) (sg_F_m x4 rfl))))
    have e : ((List.range L).map f).map fOv = ((List.range L).map (fun _ : Nat => sg_n (sg_gl σ 95 n))).map nmF := by
      rw [List.map_map, List.map_map]
      exact mp_e (fun i hi => by
        show fOv (f i) = nmF (sg_n (sg_gl σ 95 n))
        rw [hf i hi]; rfl)
    rw [e]
    exact x5
theorem m_f11X {a : Int} {L : Nat} {la : List vaF} {f : Nat → Int ⊕ vaF} {s : fSt} {Q : Int → sg_S → Prop} (hC : fC σ) (hs : fcX σ s) (ha : fX σ 6000 a d la R) (hL : la.length = L) (hq : fqX σ 0) (hf : ∀ i, i < L → f i = .inr (nmF ((la.getD i (nmF 0)) []))) (k : ∀ q σ', opX σ σ' 0 ((List.range L).map f) s q → sg_F [139, 140, 141, 142, 74088, 85088, 86088, 88088, 92088, 103088, 104088] σ σ' → Q q σ') : V_flatWorked_11 σ (L : Int) a Q := by
  obtain ⟨c1, c2, c3, c4⟩ := hC
  have s85 := hs.2.1
  obtain ⟨r, R', er, er1, er2, er3, er4⟩ := fX_r ha
  have L6 : L ≤ 6000 := by have := er3.2.2.1; omega
  have eL : exF 0 (((List.range L).map f).map fOv) = (L : Int) := by simp only [exF, List.length_map, List.length_range]
  unfold V_flatWorked_11
  refine m_stepX hs ⟨by omega, by omega⟩ (fun h0 σ' e c F _ ff => ⟨fun z => absurd rfl z, fun _ => k _ _ (Or.inl ⟨by rw [eL]; exact h0, e, c⟩) (sg_F_m ff rfl)⟩) (fun s' hs' σ1 c' f1 _ _ => ⟨fun _ => ?_, fun z => by omega⟩)
  have st := fStp_s hs'
  have e91 : sg_g σ1 88 91 = sg_g σ 88 91 := sg_F_g f1 (by rfl)
  have e87 : sg_g σ1 88 87 = sg_g σ 88 87 := sg_F_g f1 (by rfl)
  have ha1 := fX_up (fEx_F f1 rfl) ha
  refine ⟨fun m x σ2 => ∃ i : Nat, x = i ∧ m = L - i ∧ i ≤ L ∧ ∃ t, gHX σ1 (sg_g σ1 88 91) False i t ((List.range i).map (fun i : Nat => (la.getD i (nmF 0)) [])) σ2, fun σ2 => ∃ t, gHX σ1 (sg_g σ1 88 91) False L t ((List.range L).map (fun i : Nat => (la.getD i (nmF 0)) [])) σ2, ⟨_, 0, rfl, rfl, Nat.zero_le _, 0, gHX_0 _ _⟩, ?_, ?_⟩
  · rintro m x σ2 rx f2 ⟨i, rfl, en, hi, t, hG⟩
    refine ⟨fun z => ⟨t, by rw [show L = i by omega]; exact hG⟩, fun z => ?_⟩
    obtain ⟨pa, va⟩ := pRX_h ha1 hG f2 rfl ⟨by omega, by omega⟩ (i := i) (by omega)
    have rv : sg_R (v_rowAt σ2 a (i : Int)) := sg_Rg _ _ _
    refine ⟨pa, m_putX hG (by omega) (by omega) rv (fun b => b.elim) (fun σ3 h3 _ _ => ⟨⟨by omega, by omega⟩, L - (i + 1), by omega, i + 1, by omega, rfl, by omega, _, gHX_r h3 va.symm⟩)⟩
  · rintro σ2 f2 ⟨t, hG⟩
    have e0 : fOe ((List.range L).map f) = 0 := fOe_z L (fun i hi => by rw [hf i hi]; rfl)
    refine m_numsX hG (sg_F_m f2 rfl) (by omega) ⟨by omega, by omega⟩ ⟨by rw [sg_F_g f2 (by rfl)]; omega, by rw [sg_F_g f2 (by rfl)]; omega⟩ L6 (fun q σ' x1 x2 x3 x4 x5 _ _ => k q σ' (opX_mk (σ1 := σ1) eL hs' c' (sg_F_t (sg_F_m (L := [139, 140, 141, 142, 88088, 92088]) f2 rfl) (sg_F_m x4 rfl)) rfl (sg_F_g f1 (by rfl)) (by rw [e0]; exact fqX_F x4 rfl (fqX_F f2 rfl (fqX_F f1 rfl hq))) (fEx_t (fEx_F f1 rfl) x1) (by omega) (by omega) (fun _ => ⟨[(sg_g σ 88 91, (L : Int))], ?_⟩)) (sg_F_t (sg_F_m f1 rfl) (sg_F_t (sg_F_m f2 rfl) (sg_F_m x4 rfl))))
    have e : ((List.range L).map f).map fOv = ((List.range L).map (fun i : Nat => (la.getD i (nmF 0)) [])).map nmF := by
      rw [List.map_map, List.map_map]
      exact mp_e (fun i hi => by
        show fOv (f i) = nmF ((la.getD i (nmF 0)) [])
        rw [hf i hi]; rfl)
    rw [e]
    exact x5
theorem m_fdX {n a b : Int} {L d' : Nat} {la lb : List vaF} {R' : List (Int × Int)} {f : Nat → Int ⊕ vaF} {s : fSt} {Q : Int → sg_S → Prop} (hC : fC σ) (hs : fcX σ s) (hn : 0 ≤ n ∧ n < 210) (ha : fX σ 6000 a d la R) (hb : fX σ 6000 b d' lb R') (hL : la.length = L) (hL' : lb.length = L) (hq : fqX σ 0) (hf : ∀ i, i < L → f i = if (sg_g σ 93 n = 9 ∨ sg_g σ 93 n = 10) ∧ (lb.getD i (nmF 0)) [] = 0 then .inl 1 else .inr (nmF (v_operated (sg_g σ 93 n) ((la.getD i (nmF 0)) []) ((lb.getD i (nmF 0)) [])))) (k : ∀ q σ', opX σ σ' 0 ((List.range L).map f) s q → sg_F [139, 140, 141, 142, 74088, 85088, 86088, 88088, 92088, 103088, 104088] σ σ' → Q q σ') : V_flatWorked_d σ n (L : Int) a b Q := by
  obtain ⟨c1, c2, c3, c4⟩ := hC
  have s85 := hs.2.1
  obtain ⟨r, Ra, er, er1, er2, er3, er4⟩ := fX_r ha
  have L6 : L ≤ 6000 := by have := er3.2.2.1; omega
  have eL : exF 0 (((List.range L).map f).map fOv) = (L : Int) := by simp only [exF, List.length_map, List.length_range]
  unfold V_flatWorked_d
  refine m_stepX hs ⟨by omega, by omega⟩ (fun h0 σ' e c F _ ff => ⟨fun z => absurd rfl z, fun _ => k _ _ (Or.inl ⟨by rw [eL]; exact h0, e, c⟩) (sg_F_m ff rfl)⟩) (fun s' hs' σ1 c' f1 _ _ => ⟨fun _ => ?_, fun z => by omega⟩)
  have st := fStp_s hs'
  have e91 : sg_g σ1 88 91 = sg_g σ 88 91 := sg_F_g f1 (by rfl)
  have e87 : sg_g σ1 88 87 = sg_g σ 88 87 := sg_F_g f1 (by rfl)
  have ha1 := fX_up (fEx_F f1 rfl) ha
  have hb1 := fX_up (fEx_F f1 rfl) hb
  obtain ⟨g, eg⟩ : ∃ g : Nat → Int, g = fun i : Nat => v_operated (sg_g σ 93 n) ((la.getD i (nmF 0)) []) ((lb.getD i (nmF 0)) []) := ⟨_, rfl⟩
  refine ⟨fun m x σ2 => ∃ i : Nat, x = i ∧ m = L - i ∧ i ≤ L ∧ fqX σ2 (fOe ((List.range i).map f)) ∧ ∃ t, gHX σ1 (sg_g σ1 88 91) False i t ((List.range i).map g) σ2, fun σ2 => fqX σ2 (fOe ((List.range L).map f)) ∧ ∃ t, gHX σ1 (sg_g σ1 88 91) False L t ((List.range L).map g) σ2, ⟨_, 0, rfl, rfl, Nat.zero_le _, fqX_F f1 rfl hq, 0, gHX_0 _ _⟩, ?_, ?_⟩
  · rintro m x σ2 rx f2 ⟨i, rfl, en, hi, hq2, t, hG⟩
    refine ⟨fun z => by rw [show L = i by omega]; exact ⟨hq2, t, hG⟩, fun z => ?_⟩
    obtain ⟨pa, va⟩ := pRX_h ha1 hG f2 rfl ⟨by omega, by omega⟩ (i := i) (by omega)
    obtain ⟨pb, vb⟩ := pRX_h hb1 hG f2 rfl ⟨by omega, by omega⟩ (i := i) (by omega)
    have hfi := hf i (by omega)
    have lk : (sg_g σ 93 n = 9 ∨ sg_g σ 93 n = 10) → (lb.getD i (nmF 0)) [] = 0 → V_lacks σ2 (i : Int) 1 (fun σ55 => sg_F [103088, 104088] σ2 σ55 → fqX σ55 (fOe ((List.range (i + 1)).map f))) := fun h1 h2 => by
      have e1 : f i = .inl 1 := by rw [hfi, if_pos (And.intro h1 h2)]
      exact m_lacksX ⟨by omega, rx⟩ ⟨by decide, by decide, by decide⟩ hq2 (fun σ5 h5 _ _ => fqX_i h5 (by rw [fOe_r, e1, fOe_l]))
    have no : ¬ ((sg_g σ 93 n = 9 ∨ sg_g σ 93 n = 10) ∧ (lb.getD i (nmF 0)) [] = 0) → fqX σ2 (fOe ((List.range (i + 1)).map f)) := fun h => fqX_i hq2 (by
      rw [fOe_r, hfi, if_neg h]
      by_cases c : fOe ((List.range i).map f) = 0
      · rw [if_pos c, c]; rfl
      · rw [if_neg c])
    rw [va, vb]
    refine ⟨hn, fun σ3 => fqX σ3 (fOe ((List.range (i + 1)).map f)), ⟨fun k9 => ⟨pb, fun y => no (fun w => y w.2), fun y => lk (Or.inl k9) y⟩, fun k9 => ⟨fun k10 => no (fun w => w.1.elim k9 k10), fun k10 => ⟨pb, fun y => no (fun w => y w.2), fun y => lk (Or.inr k10) y⟩⟩⟩, fun σ3 f3 hq3 => ⟨pa, pb, p_op _ _ _, ?_⟩⟩
    refine m_putX (gHX_F f3 rfl hG) (by omega) (by omega) (R_op _ _ _) (fun b => b.elim) (fun σ4 h4 f4 _ => ⟨⟨by omega, by omega⟩, L - (i + 1), by omega, i + 1, by omega, rfl, by omega, fqX_F f4 rfl hq3, _, gHX_r h4 (by rw [eg])⟩)
  · rintro σ2 f2 ⟨hq2, t, hG⟩
    refine m_numsX hG f2 (by omega) ⟨by omega, by omega⟩ ⟨by rw [sg_F_g f2 (by rfl)]; omega, by rw [sg_F_g f2 (by rfl)]; omega⟩ L6 (fun q σ' x1 x2 x3 x4 x5 _ _ => k q σ' (opX_mk (σ1 := σ1) eL hs' c' (sg_F_t (sg_F_m (L := [139, 140, 141, 142, 88088, 92088, 103088, 104088]) f2 rfl) (sg_F_m x4 rfl)) rfl (sg_F_g f1 (by rfl)) (fqX_F x4 rfl hq2) (fEx_t (fEx_F f1 rfl) x1) (by omega) (by omega) (fun e0 => ⟨[(sg_g σ 88 91, (L : Int))], ?_⟩)) (sg_F_t (sg_F_m f1 rfl) (sg_F_t (sg_F_m f2 rfl) (sg_F_m x4 rfl))))
    have e : ((List.range L).map f).map fOv = ((List.range L).map g).map nmF := by
      rw [List.map_map, List.map_map]
      refine mp_e (fun i hi => ?_)
      show fOv (f i) = nmF (g i)
      have h0 := fOe_0 e0 (f i) (List.mem_map.mpr ⟨i, List.mem_range.mpr hi, rfl⟩)
      rw [hf i hi] at h0 ⊢
      by_cases c : (sg_g σ 93 n = 9 ∨ sg_g σ 93 n = 10) ∧ (lb.getD i (nmF 0)) [] = 0
      · rw [if_pos c, fOe_l] at h0
        cases h0
      · rw [if_neg c, eg]; rfl
    rw [e]
    exact x5
end FXT
