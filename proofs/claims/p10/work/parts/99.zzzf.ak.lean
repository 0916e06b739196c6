/-! flat ops of the reference, exactly: INDEX, IOTA, DIST, REV. -/
def frF {α : Type} (kl : Nat → List α) (n : Nat) : List α := ((List.range n).map kl).flatten
theorem frF_s {α : Type} (kl : Nat → List α) (n : Nat) : frF kl (n + 1) = frF kl n ++ kl n := by
  unfold frF
  rw [List.range_succ, List.map_append, List.flatten_append]
  simp
theorem frF_0 {α : Type} (kl : Nat → List α) : frF kl 0 = [] := rfl
theorem frF_le {α : Type} {kl : Nat → List α} {i : Nat} : ∀ n : Nat, i < n → (frF kl i).length + (kl i).length ≤ (frF kl n).length
  | 0, h => by omega
  | n + 1, h => by
    rw [frF_s, List.length_append]
    by_cases c : i = n
    · subst c; omega
    · have := frF_le (kl := kl) (i := i) n (by omega)
      omega
theorem frF_b {α : Type} {kl : Nat → List α} {b : Nat → Nat} : ∀ n : Nat, (∀ i, i < n → b i + (kl i).length ≤ b (i + 1)) → (frF kl n).length + b 0 ≤ b n
  | 0, _ => by rw [frF_0]; simp
  | n + 1, h => by
    rw [frF_s, List.length_append]
    have a := frF_b (kl := kl) (b := b) n (fun i hi => h i (by omega))
    have c := h n (by omega)
    omega
theorem frF_m {α : Type} {kl : Nat → List α} {n : Nat} {P : α → Prop} (h : ∀ i, i < n → ∀ x ∈ kl i, P x) : ∀ x ∈ frF kl n, P x := fun x hx => by
  unfold frF at hx
  obtain ⟨l, hl, hxl⟩ := List.mem_flatten.mp hx
  obtain ⟨i, hi, e⟩ := List.mem_map.mp hl
  rw [← e] at hxl
  exact h i (List.mem_range.mp hi) x hxl
def smF (len : Nat → Int) (n : Nat) : Int := sumF ((List.range n).map len)
theorem smF_s (len : Nat → Int) (n : Nat) : smF len (n + 1) = smF len n + len n := by
  unfold smF
  rw [List.range_succ, List.map_append, sumF_a]
  simp [sumF]
theorem smF_b {len : Nat → Int} : ∀ n : Nat, (∀ i, i < n → 0 ≤ len i ∧ len i ≤ 200) → 0 ≤ smF len n ∧ smF len n ≤ 200 * n
  | 0, _ => by simp [smF, sumF]
  | n + 1, h => by
    have a := smF_b n (fun i hi => h i (by omega))
    have b := h n (by omega)
    rw [smF_s]
    omega
theorem frF_sm {α : Type} {kl : Nat → List α} {len : Nat → Int} : ∀ n : Nat, (∀ i, i < n → ((kl i).length : Int) = len i) → ((frF kl n).length : Int) = smF len n
  | 0, _ => rfl
  | n + 1, h => by
    have a := frF_sm n (fun i hi => h i (by omega))
    have b := h n (by omega)
    rw [frF_s, List.length_append, smF_s]
    omega
theorem fl_W {f : Nat → Int ⊕ vaF} {kl : Nat → List Int} {lin : List vaF} {L : Nat} (h : ∀ i, i < L → (kl i).map (lnF lin) = itF (fOv (f i))) : flF (((List.range L).map f).map fOv) = (frF kl L).map (lnF lin) := by
  unfold flF frF
  rw [List.map_flatten, List.map_map, List.map_map, List.map_map]
  congr 1
  exact mp_e (fun i hi => (h i hi).symm)
theorem li_r (l : List vaF) : l = (List.range l.length).map (fun i => l.getD i (nmF 0)) := by
  apply List.ext_getElem?
  intro i
  rw [List.getElem?_map]
  rcases Nat.lt_or_ge i l.length with q | q
  · rw [List.getElem?_range q, gD_i q]; rfl
  · rw [List.getElem?_eq_none q, List.getElem?_eq_none (by rw [List.length_range]; exact q)]; rfl
theorem flF_fr (l : List vaF) : flF l = frF (fun i => itF (l.getD i (nmF 0))) l.length := by
  have e : flF l = flF ((List.range l.length).map (fun i => l.getD i (nmF 0))) := congrArg flF (li_r l)
  rw [e]
  unfold flF frF
  rw [List.map_map]
  rfl
theorem exF_z (d : Nat) : exF d [] = 0 := by
  induction d with
  | zero => rfl
  | succ d ih =>
    simp only [exF, flF_0, ih]
    rfl
theorem exF_fr {d : Nat} {g g' : Nat → List vaF} : ∀ n : Nat, (∀ i, i < n → exF d (g i) = exF d (g' i)) → exF d (frF g n) = exF d (frF g' n)
  | 0, _ => by rw [frF_0, frF_0]
  | n + 1, h => by
    rw [frF_s, frF_s, exF_a, exF_a, exF_fr n (fun i hi => h i (by omega)), h n (by omega)]
theorem exF_rev (d : Nat) : ∀ l : List vaF, exF d l.reverse = exF d l
  | [] => rfl
  | v :: r => by
    have e : exF d (v :: r) = exF d [v] + exF d r := exF_a d [v] r
    rw [List.reverse_cons, exF_a, exF_rev d r, e]
    omega
theorem lX_r {σ : sg_S} {i : Nat} {g : Nat → Int} {c : Int} (h : lX σ ((List.range i).map g ++ [c])) (e : g i = c) : lX σ ((List.range (i + 1)).map g) := by
  rw [List.range_succ, List.map_append, List.map_cons, List.map_nil, e]
  exact h
theorem lX_e {σ : sg_S} {ks ks' : List Int} (h : lX σ ks) (e : ks' = ks) : lX σ ks' := by rw [e]; exact h
theorem gHX_c {σb σ : sg_S} {f s s' t : Int} {b : Prop} {cl cl' : List Int} (h : gHX σb f b s t cl σ) (e1 : s' = s) (e2 : cl' = cl) : gHX σb f b s' t cl' σ := by rw [e1, e2]; exact h
theorem fOe_n {f : Nat → Int ⊕ vaF} {n : Nat} {v : vaF} (h : f n = .inr v) : fOe ((List.range (n + 1)).map f) = fOe ((List.range n).map f) := by
  rw [fOe_r, h]
  by_cases c : fOe ((List.range n).map f) = 0
  · rw [if_pos c, c]; rfl
  · rw [if_neg c]
theorem fOe_e {f : Nat → Int ⊕ vaF} {n : Nat} {e : Int} (h : f n = .inl e) : fOe ((List.range (n + 1)).map f) = if fOe ((List.range n).map f) = 0 then e else fOe ((List.range n).map f) := by
  rw [fOe_r, h, fOe_l]
theorem W_D {f : Nat → Int ⊕ vaF} {L i : Nat} (h : i < L) : (((List.range L).map f).map fOv).getD i (nmF 0) = fOv (f i) := by
  rw [List.map_map, mp_D h]; rfl
section FXI
variable {σ : sg_S} {M v : Int} {d : Nat} {l : List vaF} {R : List (Int × Int)}
theorem exF_u {ks : List Int} (hv : fX σ 6000 v d l R) (hk : lX σ ks) (hl : ∀ x ∈ ks, x < l.length) (hn : ks.length ≤ 13000) : 0 ≤ exF d (ks.map (lnF l)) ∧ exF d (ks.map (lnF l)) ≤ 312000000 := by
  have lR := hv.2.1
  have l4 := hv.1.2.1.2
  refine ⟨?_, ?_⟩
  · have := exF_n d (ks.map (lnF l))
    have h0 : (0 : Int) ≤ ((ks.map (lnF l)).length : Int) := Int.natCast_nonneg _
    omega
  · rw [← gT_X hv (by decide) hk hl hn]
    exact gT_u hv.1.2.2.2.2 (lnO_X hv hk hl hn) (by omega) (by rw [hk.1]; exact Int.le_refl _)
theorem m_fIndexX {a b : Int} {L d' : Nat} {la lb : List vaF} {R' : List (Int × Int)} {f : Nat → Int ⊕ vaF} {s : fSt} {Q : Int → sg_S → Prop} (hC : fC σ) (hs : fcX σ s) (ha : fX σ 6000 a (d + 1) la R) (hb : fX σ 6000 b d' lb R') (hL : la.length = L) (hL' : lb.length = L) (hq : fqX σ 0) (hf : ∀ i, i < L → f i = if 0 ≤ (lb.getD i (nmF 0)) [] ∧ (lb.getD i (nmF 0)) [] < ((itF (la.getD i (nmF 0))).length : Int) then .inr ((itF (la.getD i (nmF 0))).getD ((lb.getD i (nmF 0)) []).toNat (nmF 0)) else .inl 2) (k : ∀ q σ', opX σ σ' d ((List.range L).map f) s q → Q q σ') : V_flatIndex σ a b (L : Int) Q := by
  obtain ⟨c1, c2, c3, c4⟩ := hC
  have s85 := hs.2.1
  obtain ⟨r, r', Ra, er, er1, er2, er3, er4, er5, er6, er7⟩ := fX_s ha
  subst er
  have L6 : (L : Int) ≤ 6000 := by have := er6.2.2.1; omega
  have I6 : ((flF la).length : Int) ≤ 6000 := by have := er7.2.2.1; omega
  unfold V_flatIndex
  refine m_innerX ⟨by omega, by omega⟩ ha (fun q σ2 eq ex2 fv2 e87 f2 _ _ σ7 e7 => ?_)
  have f7 : sg_F [94088] σ2 σ7 := by rw [e7]; exact sg_F_w (sg_F_r _ _) rfl _
  have e91 : sg_g σ2 88 91 = sg_g σ 88 91 := sg_F_g f2 (by rfl)
  have ha2 := fX_up ex2 ha
  have hb2 := fX_up ex2 hb
  obtain ⟨kf, ekf⟩ : ∃ kf : Nat → Int, ∀ i, kf i = if 0 ≤ (lb.getD i (nmF 0)) [] ∧ (lb.getD i (nmF 0)) [] < ((itF (la.getD i (nmF 0))).length : Int) then (ahF la i : Int) + (lb.getD i (nmF 0)) [] else -1 := ⟨_, fun _ => rfl⟩
  refine ⟨fun m at_ x σ3 => ∃ i : Nat, x = i ∧ m = L - i ∧ i ≤ L ∧ at_ = (ahF la i : Int) ∧ fqX σ3 (fOe ((List.range i).map f)) ∧ lX σ3 ((List.range i).map kf), fun σ3 => fqX σ3 (fOe ((List.range L).map f)) ∧ lX σ3 ((List.range L).map kf), ⟨_, 0, rfl, rfl, Nat.zero_le _, by rw [ahF_0]; rfl, fqX_F f7 rfl (fqX_F f2 rfl hq), lX_0 e7⟩, ?_, ?_⟩
  · rintro m at_ x σ3 ra rx f3 ⟨i, rfl, en, hi, rfl, hq3, hl3⟩
    refine ⟨fun z => by rw [show L = i by omega]; exact ⟨hq3, hl3⟩, fun z => ?_⟩
    have iL : i < L := by omega
    obtain ⟨pa, va⟩ := pRX ha2 ⟨by omega, by omega⟩ (i := i) (by omega)
    obtain ⟨pb, vb⟩ := pRX hb2 ⟨by omega, by omega⟩ (i := i) (by omega)
    obtain ⟨n0, n1, n2⟩ := er4 i (by omega)
    have il := it_len n1
    have hah := ahF_s (l := la) (i := i) (by omega)
    have hab := ahF_b (l := la) (i := i) (by omega)
    have hfi := hf i iL
    have eki := ekf i
    rw [va, vb]
    refine ⟨pb, pa, ⟨by omega, by omega⟩, fun σ4 => fqX σ4 (fOe ((List.range (i + 1)).map f)), ⟨fun c => ?_, fun c => ?_⟩, fun σ4 f4 hq4 => ⟨⟨fun _ => trivial, fun c => ?_⟩, fun v60 e60 r60 => ?_⟩⟩
    · have c' := Decidable.byContradiction (fun u => c (v_in_n.mpr u))
      rw [if_pos ⟨c'.1, by omega⟩] at hfi
      exact fqX_i hq3 (fOe_n hfi)
    · have c' := v_in_n.mp c
      rw [if_neg (fun w => c' ⟨w.1, by omega⟩)] at hfi
      exact m_lacksX ⟨by omega, rx⟩ ⟨by decide, by decide, by decide⟩ hq3 (fun σ5 h5 _ _ => fqX_i h5 (fOe_e hfi))
    · have c' := Decidable.byContradiction (fun u => c (v_in_n.mpr u))
      exact ⟨pb, ⟨by omega, by omega⟩, trivial⟩
    · have ek : kf i = v60 := by
        rw [eki, e60]
        by_cases c : v_in ((lb.getD i (nmF 0)) []) 0 ((la.getD i (nmF 0)) [] - 1) = 0
        · have c' := v_in_n.mp c
          rw [if_pos c, if_neg (fun w => c' ⟨w.1, by omega⟩)]
        · have c' := Decidable.byContradiction (fun u => c (v_in_n.mpr u))
          rw [if_neg c, if_pos ⟨c'.1, by omega⟩]
      exact m_listX (lX_F f4 rfl hl3) (by rw [List.length_map, List.length_range]; omega) r60 (fun σ5 h5 f5 _ => ⟨pa, ⟨by omega, by omega⟩, ⟨by omega, by omega⟩, L - (i + 1), by omega, i + 1, by omega, rfl, by omega, by omega, fqX_F f5 rfl hq4, lX_r h5 ek⟩)
  · rintro σ3 f3 ⟨hq3, hl3⟩
    have f37 := sg_F_t (sg_F_m (L := [143, 94088, 103088, 104088]) f7 rfl) f3
    have fv3 := fX_up (fEx_F f37 rfl) fv2
    have g91 : sg_g σ3 88 91 = sg_g σ 88 91 := by rw [sg_F_g f37 (by rfl)]; exact e91
    have g87 : sg_g σ3 88 87 = sg_g σ 88 87 + 1 := by rw [sg_F_g f37 (by rfl)]; exact e87
    have hl : ∀ x ∈ (List.range L).map kf, x < ((flF la).length : Int) := fun x hx => by
      obtain ⟨i, hi, e⟩ := List.mem_map.mp hx
      rw [List.mem_range] at hi
      have hab := ahF_b (l := la) (i := i) (by omega)
      rw [← e, ekf i]
      by_cases c : 0 ≤ (lb.getD i (nmF 0)) [] ∧ (lb.getD i (nmF 0)) [] < ((itF (la.getD i (nmF 0))).length : Int)
      · rw [if_pos c]; omega
      · rw [if_neg c]; omega
    have hn : ((List.range L).map kf).length ≤ 13000 := by rw [List.length_map, List.length_range]; omega
    have eW : ((List.range L).map f).map fOv = ((List.range L).map kf).map (lnF (flF la)) := by
      rw [List.map_map, List.map_map]
      refine mp_e (fun i hi => ?_)
      show fOv (f i) = lnF (flF la) (kf i)
      rw [hf i hi, ekf i]
      by_cases c : 0 ≤ (lb.getD i (nmF 0)) [] ∧ (lb.getD i (nmF 0)) [] < ((itF (la.getD i (nmF 0))).length : Int)
      · rw [if_pos c, if_pos c]
        have e := ln_it (l := la) (i := i) (k := ((lb.getD i (nmF 0)) []).toNat) (by omega) (by omega)
        rw [show ((((lb.getD i (nmF 0)) []).toNat : Nat) : Int) = (lb.getD i (nmF 0)) [] by omega] at e
        rw [e]; rfl
      · rw [if_neg c, if_neg c]; rfl
    obtain ⟨x0, tb⟩ := exF_u fv3 hl3 hl hn
    refine m_extX fv3 ⟨by decide, by decide⟩ ⟨by omega, by omega⟩ hl3 hl hn (fun σ4 f4 rt _ => ?_)
    obtain ⟨t, et⟩ : ∃ t, t = exF d (((List.range L).map kf).map (lnF (flF la))) := ⟨_, rfl⟩
    rw [← et] at x0 tb ⊢
    refine m_stepX (fcX_F f4 rfl (fcX_F f37 rfl (fcX_F f2 rfl hs))) ⟨x0, by omega⟩ (fun h0 σ' e c F _ _ => ⟨fun _ => k _ _ (Or.inl ⟨by rw [eW, ← et]; exact h0, e, c⟩), fun z => absurd rfl z⟩) (fun s' hs' σ5 c5 f5 _ _ => ⟨fun z => by omega, fun _ => ?_⟩)
    have st := fStp_s hs'
    have f45 : sg_F [144, 85088, 86088] σ3 σ5 := sg_F_t (sg_F_m f4 rfl) (sg_F_m f5 rfl)
    have i91 : sg_g σ5 88 91 = sg_g σ 88 91 := by rw [sg_F_g f45 (by rfl)]; exact g91
    have i87 : sg_g σ5 88 87 = sg_g σ 88 87 + 1 := by rw [sg_F_g f45 (by rfl)]; exact g87
    have i73 : sg_g σ5 88 73 = sg_g σ 88 73 := by rw [sg_F_g f45 (by rfl), sg_F_g f37 (by rfl), sg_F_g f2 (by rfl)]
    refine m_gathF (fX_up (fEx_F f45 rfl) fv3) ⟨by decide, by decide⟩ (by omega) ⟨by omega, by omega⟩ (lX_F f45 rfl hl3) hl hn (by omega) (fun w σ6 ew ex6 fv6 e87' e91' f6 rw' _ => ?_)
    refine k w σ6 (opX_mk (σ1 := σ5) (by rw [eW]) (by rw [← et]; exact hs') c5 f6 rfl i73 (fqX_F f6 rfl (fqX_F f45 rfl hq3)) (fEx_t (fEx_t ex2 (fEx_F f37 rfl)) (fEx_t (fEx_F f45 rfl) ex6)) (by omega) (by omega) (fun _ => ⟨_, by rw [eW]; exact fv6 6000 (fun j hj => by
      have := lvl_ex d j (((List.range L).map kf).map (lnF (flF la))) hj
      omega)⟩))
theorem m_fIotaX {a : Int} {L : Nat} {la : List vaF} {f : Nat → Int ⊕ vaF} {s : fSt} {Q : Int → sg_S → Prop} (hC : fC σ) (hs : fcX σ s) (ha : fX σ 6000 a d la R) (hL : la.length = L) (hq : fqX σ 0) (hf : ∀ i, i < L → f i = if 0 ≤ (la.getD i (nmF 0)) [] ∧ (la.getD i (nmF 0)) [] ≤ 200 then .inr (mkF ((List.range ((la.getD i (nmF 0)) []).toNat).map (fun i : Nat => nmF (i : Int)))) else .inl 5) (k : ∀ q σ', opX σ σ' 1 ((List.range L).map f) s q → Q q σ') : V_flatIota σ a (L : Int) Q := by
  obtain ⟨c1, c2, c3, c4⟩ := hC
  have s85 := hs.2.1
  obtain ⟨r, Ra, er, er1, er2, er3, er4⟩ := fX_r ha
  have L6 : (L : Int) ≤ 6000 := by have := er3.2.2.1; omega
  obtain ⟨len, elen⟩ : ∃ len : Nat → Int, ∀ i, len i = if 0 ≤ (la.getD i (nmF 0)) [] ∧ (la.getD i (nmF 0)) [] ≤ 200 then (la.getD i (nmF 0)) [] else 0 := ⟨_, fun _ => rfl⟩
  obtain ⟨il, eil⟩ : ∃ il : Nat → List Int, ∀ i, il i = (List.range (len i).toNat).map (fun k : Nat => (k : Int)) := ⟨_, fun _ => rfl⟩
  have lb : ∀ i, 0 ≤ len i ∧ len i ≤ 200 := fun i => by
    rw [elen i]
    by_cases c : 0 ≤ (la.getD i (nmF 0)) [] ∧ (la.getD i (nmF 0)) [] ≤ 200
    · rw [if_pos c]; exact c
    · rw [if_neg c]; exact ⟨by decide, by decide⟩
  have ill : ∀ i, ((il i).length : Int) = len i := fun i => by
    rw [eil i, List.length_map, List.length_range]
    have := lb i
    omega
  have lenW : ∀ i, i < L → (fOv (f i)) [] = len i := fun i hi => by
    rw [hf i hi, elen i]
    by_cases c : 0 ≤ (la.getD i (nmF 0)) [] ∧ (la.getD i (nmF 0)) [] ≤ 200
    · rw [if_pos c, if_pos c]
      show mkF _ [] = _
      rw [mkF_0, List.length_map, List.length_range]
      omega
    · rw [if_neg c, if_neg c]; rfl
  have itW : ∀ i, i < L → itF (fOv (f i)) = (il i).map nmF := fun i hi => by
    rw [hf i hi, eil i, elen i]
    by_cases c : 0 ≤ (la.getD i (nmF 0)) [] ∧ (la.getD i (nmF 0)) [] ≤ 200
    · rw [if_pos c, if_pos c]
      show itF (mkF _) = _
      rw [itF_mk, List.map_map]
      rfl
    · rw [if_neg c, if_neg c]
      rfl
  have flW : flF (((List.range L).map f).map fOv) = (frF il L).map nmF := by
    unfold flF frF
    rw [List.map_flatten, List.map_map, List.map_map, List.map_map]
    congr 1
    exact mp_e (fun i hi => itW i hi)
  have tot := frF_sm (kl := il) (len := len) L (fun i _ => ill i)
  have eL : exF 1 (((List.range L).map f).map fOv) = (L : Int) + smF len L := by
    simp only [exF, List.length_map, List.length_range]
    rw [flW, List.length_map, tot]
  have smb := smF_b (len := len) L (fun i _ => lb i)
  unfold V_flatIota
  refine ⟨fun m sm x σ3 => ∃ i : Nat, x = i ∧ m = L - i ∧ i ≤ L ∧ sm = (L : Int) + smF len i ∧ fqX σ3 (fOe ((List.range i).map f)) ∧ ∀ j : Nat, j < i → sg_g σ3 150 j = len j, fun sm σ3 => sm = (L : Int) + smF len L ∧ fqX σ3 (fOe ((List.range L).map f)) ∧ ∀ j : Nat, j < L → sg_g σ3 150 j = len j, ⟨_, 0, rfl, rfl, Nat.zero_le _, by simp [smF, sumF], hq, fun j hj => by omega⟩, ?_, ?_⟩
  · rintro m sm x σ3 rs rx f3 ⟨i, rfl, en, hi, rfl, hq3, hz⟩
    refine ⟨fun z => by rw [show L = i by omega]; exact ⟨rfl, hq3, hz⟩, fun z => ?_⟩
    have iL : i < L := by omega
    obtain ⟨pa, va⟩ := pRX ha ⟨by omega, by omega⟩ (i := i) (by omega)
    have hfi := hf i iL
    have eli := elen i
    have smi := smF_b (len := len) i (fun i _ => lb i)
    have lbi := lb i
    rw [va]
    refine ⟨pa, fun σ4 => fqX σ4 (fOe ((List.range (i + 1)).map f)), ⟨fun c => ?_, fun c => ?_⟩, fun σ4 f4 hq4 => ⟨⟨fun _ => trivial, fun c => ⟨pa, trivial⟩⟩, fun v97 e97 r97 => ⟨⟨by omega, by omega⟩, fun σ5 e5 => ?_⟩⟩⟩
    · have c' := Decidable.byContradiction (fun u => c (v_in_n.mpr u))
      rw [if_pos c'] at hfi
      exact fqX_i hq3 (fOe_n hfi)
    · have c' := v_in_n.mp c
      rw [if_neg c'] at hfi
      exact m_lacksX ⟨by omega, rx⟩ ⟨by decide, by decide, by decide⟩ hq3 (fun σ5 h5 _ _ => fqX_i h5 (fOe_e hfi))
    · have ev : v97 = len i := by
        rw [eli, e97]
        by_cases c : v_in ((la.getD i (nmF 0)) []) 0 200 = 0
        · rw [if_pos c, if_neg (v_in_n.mp c)]
        · rw [if_neg c, if_pos (Decidable.byContradiction (fun u => c (v_in_n.mpr u)))]
      have w3 : sg_g σ5 150 (i : Int) = len i := by rw [e5, sg_gw_e _ _ _ _ r97]; exact ev
      rw [w3]
      refine ⟨⟨by omega, by omega⟩, ⟨by omega, by omega⟩, L - (i + 1), by omega, i + 1, by omega, rfl, by omega, by rw [smF_s]; omega, fqX_F (L := [150]) (by rw [e5]; exact sg_F_w (sg_F_r _ _) rfl _) rfl hq4, fun j hj => ?_⟩
      by_cases c : j = i
      · rw [c]; exact w3
      · rw [e5, sg_gw_k _ _ _ _ _ _ (by omega), sg_F_ga f4 rfl]; exact hz j (by omega)
  · rintro sm σ3 rs f3 ⟨rfl, hq3, hz⟩
    have g91 : sg_g σ3 88 91 = sg_g σ 88 91 := sg_F_g f3 (by rfl)
    have g87 : sg_g σ3 88 87 = sg_g σ 88 87 := sg_F_g f3 (by rfl)
    refine m_stepX (fcX_F f3 rfl hs) ⟨by omega, by omega⟩ (fun h0 σ' e c F _ _ => ⟨fun z => absurd rfl z, fun _ => k _ _ (Or.inl ⟨by rw [eL]; exact h0, e, c⟩)⟩) (fun s' hs' σ5 c5 f5 _ _ => ⟨fun _ => ?_, fun z => by omega⟩)
    have st := fStp_s hs'
    have h91 : sg_g σ5 88 91 = sg_g σ 88 91 := by rw [sg_F_g f5 (by rfl)]; exact g91
    have h87 : sg_g σ5 88 87 = sg_g σ 88 87 := by rw [sg_F_g f5 (by rfl)]; exact g87
    have hz5 : ∀ j : Nat, j < L → sg_g σ5 150 j = len j := fun j hj => by rw [sg_F_ga f5 rfl]; exact hz j hj
    refine m_putLensX (L := L) ⟨by omega, by omega⟩ (by omega) (fun i hi => by rw [hz5 i hi]; exact lb i) (fun σ6 h6 f6 r6 _ => ?_)
    have ex6 := gH_ex h6.1 f6
    have p1 := h6.1.1.1
    have i87 : sg_g σ6 88 87 = sg_g σ 88 87 := by rw [sg_F_g f6 (by rfl)]; exact h87
    refine ⟨fun m x σ7 => ∃ i : Nat, x = i ∧ m = L - i ∧ i ≤ L ∧ ∃ t, gHX σ6 (sg_g σ6 88 91) False ((frF il i).length : Int) t (frF il i) σ7, fun σ7 => ∃ t, gHX σ6 (sg_g σ6 88 91) False ((frF il L).length : Int) t (frF il L) σ7, ⟨_, 0, rfl, rfl, Nat.zero_le _, 0, gHX_0 _ _⟩, ?_, ?_⟩
    · rintro m x σ7 rx f7 ⟨i, rfl, en, hi, t, hG⟩
      refine ⟨fun z => ⟨t, by rw [show L = i by omega]; exact hG⟩, fun z => ?_⟩
      have iL : i < L := by omega
      have fle := frF_le (kl := il) (i := i) L iL
      have illi := ill i
      have lbi := lb i
      have zi : sg_g σ3 150 (i : Int) = len i := hz i iL
      rw [zi]
      refine ⟨fun m y σ8 => ∃ j : Nat, y = j ∧ m = (len i).toNat - j ∧ j ≤ (len i).toNat ∧ ∃ t, gHX σ6 (sg_g σ6 88 91) False (((frF il i).length : Int) + j) t (frF il i ++ (List.range j).map (fun k : Nat => (k : Int))) σ8, fun σ8 => ∃ t, gHX σ6 (sg_g σ6 88 91) False ((frF il (i + 1)).length : Int) t (frF il (i + 1)) σ8, ⟨_, 0, rfl, rfl, Nat.zero_le _, t, gHX_c hG (by omega) (by simp)⟩, ?_, ?_⟩
      · rintro m' y σ8 ry f8 ⟨j, rfl, en', hj, t', hG8⟩
        refine ⟨⟨by omega, by omega⟩, fun z' => ⟨t', ?_⟩, fun z' => m_putX hG8 (by omega) (by omega) ry (fun b => b.elim) (fun σ9 h9 _ _ => ⟨⟨by omega, by omega⟩, (len i).toNat - (j + 1), by omega, j + 1, by omega, rfl, by omega, t' + j, ?_⟩)⟩
        · have ej : j = (len i).toNat := by omega
          refine gHX_c hG8 ?_ ?_
          · rw [frF_s, List.length_append]; omega
          · rw [frF_s, eil i, ej]
        · refine gHX_c h9 (by omega) ?_
          rw [List.range_succ, List.map_append, List.append_assoc]
          rfl
      · rintro σ8 f8 hG8
        exact ⟨⟨by omega, by omega⟩, L - (i + 1), by omega, i + 1, by omega, rfl, by omega, hG8⟩
    · rintro σ7 f7 ⟨t, hG⟩
      have j87 : sg_g σ7 88 87 = sg_g σ 88 87 := by rw [sg_F_g f7 (by rfl)]; exact i87
      refine m_numsX hG (sg_F_m f7 rfl) rfl ⟨by omega, by omega⟩ ⟨by omega, by omega⟩ (by omega) (fun q σ8 x1 x2 x3 x4 x5 _ _ => ?_)
      rw [← flW] at x5
      refine m_outerX (M := 6000) (L := ((List.range L).map f).map fOv) ⟨by omega, by omega⟩ x5 (by simp) ⟨r6, ⟨by omega, by omega⟩⟩ ⟨by simp only; omega, by simp only; omega, by simp only; omega, by simp only; omega⟩ (by rw [List.length_map, List.length_map, List.length_range]) (fun i u hu => ?_) (fun q2 σ9 e9 ex9 fv9 e87' f9 _ _ => ?_)
      · have hi := lt_of_get hu
        have hD := gD_i hi
        rw [List.length_map, List.length_map, List.length_range] at hi
        rw [hu, W_D hi] at hD
        have eu : u = fOv (f i) := Option.some.inj hD
        rw [eu, lenW i hi]
        refine ⟨?_, lb i⟩
        rw [x1.2.2.2 _ (by omega) (by omega)]
        have h4 := h6.2.2 i (sg_g σ5 150 i) (by rw [List.getElem?_map, List.getElem?_range (by omega)]; rfl)
        rw [h4]; exact hz5 i hi
      · have j91 : sg_g σ9 88 91 = sg_g σ8 88 91 := sg_F_g f9 (by rfl)
        refine k q2 σ9 (opX_mk (σ1 := σ5) eL hs' c5 (sg_F_t (sg_F_m (L := [139, 140, 141, 142, 88088, 92088]) f6 rfl) (sg_F_t (sg_F_m f7 rfl) (sg_F_t (sg_F_m x4 rfl) (sg_F_m f9 rfl)))) rfl (by rw [sg_F_g f5 (by rfl), sg_F_g f3 (by rfl)]) (fqX_F f9 rfl (fqX_F x4 rfl (fqX_F f7 rfl (fqX_F f6 rfl (fqX_F f5 rfl hq3))))) (fEx_t (fEx_F f3 rfl) (fEx_t (fEx_F f5 rfl) (fEx_t ex6 (fEx_t x1 ex9)))) (by omega) (by omega) (fun _ => ⟨_, fv9⟩))
end FXI
