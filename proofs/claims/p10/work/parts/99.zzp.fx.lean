/-! what is bound, seen below the saved; restore, carried, listWhere. -/
def undA (σ : sg_S) (b : Int) : Int → Nat → Int
  | _, 0 => sg_g σ 134 b
  | s, n + 1 => if sg_g σ 148 s = b then sg_g σ 149 s else undA σ b (s + 1) n
/-- what b is bound to once all saved from s on is put back -/
def und (σ : sg_S) (s b : Int) : Int := undA σ b s (sg_g σ 88 99 - s).toNat
def sB (σ : sg_S) : Prop := ∀ i, 0 ≤ i → i < sg_g σ 88 99 → 0 ≤ sg_g σ 148 i ∧ sg_g σ 148 i < 1200
theorem undA_e {σ σ' : sg_S} {b : Int} : ∀ {n : Nat} {s : Int}, (∀ i, s ≤ i → i < s + n → sg_g σ' 148 i = sg_g σ 148 i ∧ sg_g σ' 149 i = sg_g σ 149 i) → sg_g σ' 134 b = sg_g σ 134 b → undA σ' b s n = undA σ b s n
  | 0, s, _, h => h
  | n + 1, s, h1, h => by
    obtain ⟨a1, a2⟩ := h1 s (by omega) (by omega)
    simp only [undA]
    rw [a1, a2, undA_e (n := n) (s := s + 1) (fun i x y => h1 i (by omega) (by omega)) h]
theorem und_F {l : List Nat} {σ σ' : sg_S} (F : sg_F l σ σ') (hl : (!sg_cv l 88 99 && sg_ca l 134 && sg_ca l 148 && sg_ca l 149) = true) (s b : Int) : und σ' s b = und σ s b := by
  simp only [Bool.and_eq_true, Bool.not_eq_true'] at hl
  unfold und
  rw [sg_F_g F hl.1.1.1]
  exact undA_e (fun i _ _ => ⟨sg_F_ga F hl.1.2, sg_F_ga F hl.2⟩) (sg_F_ga F hl.1.1.2)
theorem und_w {σ σ' : sg_S} {b0 s b : Int} {l : List Nat} (F : sg_F l σ σ') (hl : (!sg_cv l 88 99 && sg_ca l 148 && sg_ca l 149) = true) (h : sg_g σ' 134 b = sg_g σ 134 b) : und σ' s b = und σ s b := by
  simp only [Bool.and_eq_true, Bool.not_eq_true'] at hl
  unfold und
  rw [sg_F_g F hl.1.1]
  exact undA_e (fun i _ _ => ⟨sg_F_ga F hl.1.2, sg_F_ga F hl.2⟩) h
theorem und_top {σ : sg_S} {b : Int} : und σ (sg_g σ 88 99) b = sg_g σ 134 b := by
  unfold und
  rw [show (sg_g σ 88 99 - sg_g σ 88 99).toNat = 0 by omega]
  rfl
theorem undA_push {σ σ' : sg_S} {b b0 : Int} : ∀ {n : Nat} {s : Int}, (∀ i, s ≤ i → i < s + n → sg_g σ' 148 i = sg_g σ 148 i ∧ sg_g σ' 149 i = sg_g σ 149 i) → sg_g σ' 148 (s + n) = b0 → sg_g σ' 149 (s + n) = sg_g σ 134 b0 → (¬ b = b0 → sg_g σ' 134 b = sg_g σ 134 b) → undA σ' b s (n + 1) = undA σ b s n
  | 0, s, _, h1, h2, h3 => by
    rw [show s + ((0 : Nat) : Int) = s by omega] at h1 h2
    simp only [undA]
    rw [h1, h2]
    by_cases c : b0 = b
    · rw [if_pos c, c]
    · rw [if_neg c]; exact h3 (fun e => c e.symm)
  | n + 1, s, h, h1, h2, h3 => by
    obtain ⟨a1, a2⟩ := h s (by omega) (by omega)
    have ih := undA_push (n := n) (s := s + 1) (b0 := b0) (fun i x y => h i (by omega) (by omega)) (by rw [← h1]; congr 1; omega) (by rw [← h2]; congr 1; omega) h3
    show (if sg_g σ' 148 s = b then sg_g σ' 149 s else undA σ' b (s + 1) (n + 1)) = (if sg_g σ 148 s = b then sg_g σ 149 s else undA σ b (s + 1) n)
    rw [a1, a2, ih]
theorem und_push {σ σ' : sg_S} {s b b0 : Int} (hs : s ≤ sg_g σ 88 99) (h : ∀ i, i < sg_g σ 88 99 → sg_g σ' 148 i = sg_g σ 148 i ∧ sg_g σ' 149 i = sg_g σ 149 i) (h1 : sg_g σ' 148 (sg_g σ 88 99) = b0) (h2 : sg_g σ' 149 (sg_g σ 88 99) = sg_g σ 134 b0) (h3 : ¬ b = b0 → sg_g σ' 134 b = sg_g σ 134 b) (h4 : sg_g σ' 88 99 = sg_g σ 88 99 + 1) : und σ' s b = und σ s b := by
  unfold und
  rw [h4, show (sg_g σ 88 99 + 1 - s).toNat = (sg_g σ 88 99 - s).toNat + 1 by omega]
  have e : s + (((sg_g σ 88 99 - s).toNat : Nat) : Int) = sg_g σ 88 99 := by omega
  exact undA_push (b0 := b0) (fun i x y => h i (by omega)) (by rw [e]; exact h1) (by rw [e]; exact h2) h3
theorem und_pop {σ σ' : sg_S} {s b b0 : Int} (hs : s < sg_g σ 88 99) (h : ∀ i, sg_g σ' 148 i = sg_g σ 148 i ∧ sg_g σ' 149 i = sg_g σ 149 i) (h1 : sg_g σ 148 (sg_g σ 88 99 - 1) = b0) (h2 : sg_g σ' 134 b0 = sg_g σ 149 (sg_g σ 88 99 - 1)) (h3 : ¬ b = b0 → sg_g σ' 134 b = sg_g σ 134 b) (h4 : sg_g σ' 88 99 = sg_g σ 88 99 - 1) : und σ' s b = und σ s b := by
  refine (und_push (b0 := b0) (by omega) (fun i _ => ⟨(h i).1.symm, (h i).2.symm⟩) (by rw [h4]; exact h1) (by rw [h4]; exact h2.symm) (fun c => (h3 c).symm) (by omega)).symm
section FX
variable {σ : sg_S}
theorem m_restore {to : Int} {Q : sg_S → Prop} (h0 : 0 ≤ to ∧ to ≤ sg_g σ 88 99 ∧ sg_g σ 88 99 ≤ 12000) (hB : sB σ) (k : ∀ σ', sg_g σ' 88 99 = to → (∀ s b, s ≤ to → und σ' s b = und σ s b) → sB σ' → sg_F [134, 100088] σ σ' → Q σ') : V_restore σ to Q := by
  unfold V_restore
  refine ⟨fun n σ1 => n = (sg_g σ1 88 99 - to).toNat ∧ (to ≤ sg_g σ1 88 99 ∧ sg_g σ1 88 99 ≤ sg_g σ 88 99) ∧ ∀ s b, s ≤ to → und σ1 s b = und σ s b, fun σ1 => sg_g σ1 88 99 = to ∧ ∀ s b, s ≤ to → und σ1 s b = und σ s b, ⟨_, rfl, ⟨by omega, by omega⟩, fun s b _ => rfl⟩, ?_, fun σ1 f1 ⟨p1, p2⟩ => k σ1 p1 p2 (fun i x y => by rw [sg_F_ga f1 rfl]; exact hB i x (by omega)) f1⟩
  rintro n σ1 f1 ⟨en, h1, h2⟩
  refine ⟨fun z => ⟨by omega, h2⟩, fun z => ⟨⟨by omega, by omega⟩, fun σ2 e2 => ⟨⟨by omega, by omega⟩, hB _ (by omega) (by omega), fun σ3 e3 => ?_⟩⟩⟩
  have c99 : sg_g σ3 88 99 = sg_g σ1 88 99 - 1 := by rw [e3, sg_gw_c _ _ _ _ _ _ (by decide), e2, sg_gw_e _ _ _ _ ⟨by omega, by omega⟩]
  have e148 : ∀ i, sg_g σ1 148 i = sg_g σ 148 i := fun i => sg_F_ga f1 rfl
  have e149 : ∀ i, sg_g σ1 149 i = sg_g σ 149 i := fun i => sg_F_ga f1 rfl
  refine ⟨_, by omega, rfl, ⟨by omega, by omega⟩, fun s b hs => ?_⟩
  rw [← h2 s b hs]
  refine und_pop (b0 := sg_g σ 148 (sg_g σ1 88 99 - 1)) (by omega) (fun i => ?_) (e148 _) ?_ (fun c => ?_) c99
  · rw [e3, sg_gw_c _ _ _ _ _ _ (by decide), sg_gw_c _ _ _ _ _ _ (by decide), e2, sg_gw_c _ _ _ _ _ _ (by decide), sg_gw_c _ _ _ _ _ _ (by decide)]
    exact ⟨rfl, rfl⟩
  · rw [e3, sg_gw_e _ _ _ _ (sg_Rg _ _ _), e149]
  · rw [e3, sg_gw_k _ _ _ _ _ _ c, e2, sg_gw_c _ _ _ _ _ _ (by decide)]
/-- counters of a flat run -/
def fI (σ : sg_S) : Prop := (0 ≤ sg_g σ 88 84 ∧ sg_g σ 88 84 ≤ 2000) ∧ (0 ≤ sg_g σ 88 85 ∧ sg_g σ 88 85 ≤ 6000) ∧ (0 ≤ sg_g σ 88 91 ∧ sg_g σ 88 91 ≤ 2 * sg_g σ 88 85) ∧ (0 ≤ sg_g σ 88 87 ∧ 0 ≤ sg_g σ 88 62 ∧ sg_g σ 88 87 + sg_g σ 88 62 ≤ 8 * sg_g σ 88 84) ∧ 0 ≤ sg_g σ 88 99 ∧ sg_g σ 88 99 ≤ sg_g σ 88 84
/-- the same, with room for a few values more -/
def fIw (σ : sg_S) : Prop := (0 ≤ sg_g σ 88 84 ∧ sg_g σ 88 84 ≤ 2000) ∧ (0 ≤ sg_g σ 88 85 ∧ sg_g σ 88 85 ≤ 6000) ∧ (0 ≤ sg_g σ 88 91 ∧ sg_g σ 88 91 ≤ 2 * sg_g σ 88 85) ∧ (0 ≤ sg_g σ 88 87 ∧ 0 ≤ sg_g σ 88 62 ∧ sg_g σ 88 87 + sg_g σ 88 62 ≤ 8 * sg_g σ 88 84 + 6) ∧ 0 ≤ sg_g σ 88 99 ∧ sg_g σ 88 99 ≤ sg_g σ 88 84
theorem m_carried {O : List Int} {Λ N : Int} {ty : Int → Nat} {Q : Int → sg_S → Prop} (hI : fI σ) (hB : sB σ) (hO : oR σ O) (hl : O.length ≤ 200) (hv : ∀ b ∈ O, fL σ (ty b) Λ (sg_g σ 134 b)) (hln : lO σ N Λ) (hN : N ≤ 6000) (k0 : ∀ σ', ¬ sg_g σ' 88 73 = 0 → Q 0 σ') (k1 : ∀ σ', fI σ' → sB σ' → fEx σ σ' → (∀ b ∈ O, fLx σ' (ty b) N (sg_g σ' 88 85 - sg_g σ 88 85) (sg_g σ' 134 b)) → (∀ b, b ∉ O → sg_g σ' 134 b = sg_g σ 134 b) → (∀ s b, s ≤ sg_g σ 88 99 → und σ' s b = und σ s b) → sg_g σ 88 99 ≤ sg_g σ' 88 99 → sg_g σ 88 84 ≤ sg_g σ' 88 84 ∧ sg_g σ 88 85 ≤ sg_g σ' 88 85 → sg_g σ' 88 73 = sg_g σ 88 73 → sg_F [134, 139, 140, 141, 142, 144, 148, 149, 85088, 86088, 88088, 92088, 100088] σ σ' → Q 1 σ') : V_carried σ Q := by
  obtain ⟨o1, o2, o3, o4⟩ := hO
  unfold V_carried
  rw [o1]
  refine ⟨fun n v σ2 => n = (O.length - v).toNat ∧ (0 ≤ v ∧ v ≤ O.length) ∧ (fI σ2 ∧ sB σ2 ∧ fEx σ σ2) ∧ (∀ b ∈ O.take v.toNat, fLx σ2 (ty b) N (sg_g σ2 88 85 - sg_g σ 88 85) (sg_g σ2 134 b)) ∧ (∀ b, b ∉ O.take v.toNat → sg_g σ2 134 b = sg_g σ 134 b) ∧ (∀ s b, s ≤ sg_g σ 88 99 → und σ2 s b = und σ s b) ∧ (sg_g σ 88 99 ≤ sg_g σ2 88 99 ∧ sg_g σ 88 84 ≤ sg_g σ2 88 84 ∧ sg_g σ 88 85 ≤ sg_g σ2 88 85) ∧ sg_F [134, 139, 140, 141, 142, 144, 148, 149, 85088, 86088, 88088, 92088, 100088] σ σ2, fun σ2 => (fI σ2 ∧ sB σ2 ∧ fEx σ σ2) ∧ (∀ b ∈ O, fLx σ2 (ty b) N (sg_g σ2 88 85 - sg_g σ 88 85) (sg_g σ2 134 b)) ∧ (∀ b, b ∉ O → sg_g σ2 134 b = sg_g σ 134 b) ∧ (∀ s b, s ≤ sg_g σ 88 99 → und σ2 s b = und σ s b) ∧ (sg_g σ 88 99 ≤ sg_g σ2 88 99 ∧ sg_g σ 88 84 ≤ sg_g σ2 88 84 ∧ sg_g σ 88 85 ≤ sg_g σ2 88 85) ∧ sg_F [134, 139, 140, 141, 142, 144, 148, 149, 85088, 86088, 88088, 92088, 100088] σ σ2, ⟨_, rfl, ⟨by omega, by omega⟩, ⟨hI, hB, fEx_r σ⟩, fun b hb => by simp at hb, fun b _ => rfl, fun s b _ => rfl, ⟨by omega, by omega, by omega⟩, sg_F_r _ _⟩, ?_, fun σ2 f2 ⟨⟨p1, p2, p3⟩, p4, p5, p6, p7, p8⟩ => k1 σ2 p1 p2 p3 p4 p5 p6 p7.1 p7.2 (sg_F_g p8 (by rfl)) p8⟩
  rintro n v σ2 rv - ⟨en, hv', ⟨p1, p2, p3⟩, p4, p5, p6, p7, p8⟩
  refine ⟨fun z => ?_, fun z => ?_⟩
  · rw [List.take_of_length_le (by omega)] at p4 p5
    exact ⟨⟨p1, p2, p3⟩, p4, p5, p6, p7, p8⟩
  obtain ⟨b, hb⟩ : ∃ q, O[v.toNat]? = some q := ⟨_, List.getElem?_eq_getElem (by omega)⟩
  have bO := List.mem_of_getElem? hb
  have eb := o2 v.toNat b hb
  rw [show ((v.toNat : Nat) : Int) = v by omega] at eb
  have tk : O.take (v + 1).toNat = O.take v.toNat ++ [b] := by
    rw [show (v + 1).toNat = v.toNat + 1 by omega, List.take_add_one, hb]; rfl
  have bn : b ∉ O.take v.toNat := fun w => by
    have nd := o3
    rw [← List.take_append_drop v.toNat O, List.nodup_append] at nd
    have : b ∈ O.drop v.toNat := by
      rw [List.mem_iff_getElem?]
      exact ⟨0, by rw [List.getElem?_drop]; exact hb⟩
    exact nd.2.2 b w b this rfl
  rw [eb, p5 b bn]
  have fb := fL_up p3 (hv b bO)
  obtain ⟨r, R, hR, lR, rL⟩ := fL_c fb
  have vR : sg_R (sg_g σ 134 b) := sg_Rg _ _ _
  have ln2 : lO σ2 N Λ := lO_F p8 rfl hln
  have lo : lnO σ2 (r :: R) := lnO_of ln2 (by omega) rL.symm
  have h93 := ln2.1
  have N0 := ln2.2.1
  obtain ⟨i1, i2, i3, i4, i5⟩ := p1
  refine ⟨⟨by omega, by omega⟩, o4 b bO, m_extL hR ⟨by decide, by decide⟩ ⟨by omega, by omega⟩ lo (fun t σ3 et f3 rt _ => ?_)⟩
  have R4 := hR.2.1.2
  have t0 : 0 ≤ t := by rw [et]; exact gT_b hR.2.2.2.2 lo (by decide) (by omega) (Nat.le_refl _)
  have tb : t ≤ 312000000 := by rw [et]; exact gT_u hR.2.2.2.2 lo R4 (by omega)
  have g84 : sg_g σ3 88 84 = sg_g σ2 88 84 := sg_F_g f3 (by rfl)
  have g85 : sg_g σ3 88 85 = sg_g σ2 88 85 := sg_F_g f3 (by rfl)
  refine m_stepped ⟨by omega, by omega⟩ ⟨by omega, by omega⟩ (fun σ' e _ _ => ⟨fun z => absurd rfl z, fun _ => k0 _ e⟩) (fun σ4 f4 s1 s2 s3 s4 _ _ => ⟨fun _ => ⟨⟨by omega, by omega⟩, fun σ5 e5 σ6 e6 => ⟨⟨by omega, by omega⟩, fun σ7 e7 => ?_⟩⟩, fun z => by omega⟩)
  have f34 : sg_F [144, 85088, 86088] σ2 σ4 := sg_F_t (sg_F_m f3 rfl) (sg_F_m f4 rfl)
  have f47 : sg_F [148, 149, 100088] σ4 σ7 := by rw [e7, e6, e5]; exact sg_F_w (sg_F_w (sg_F_w (sg_F_r _ _) rfl _) rfl _) rfl _
  have F7 : sg_F [144, 148, 149, 85088, 86088, 100088] σ2 σ7 := sg_F_t (sg_F_m f34 rfl) (sg_F_m f47 rfl)
  have g91 : sg_g σ7 88 91 = sg_g σ2 88 91 := sg_F_g F7 (by rfl)
  have g87 : sg_g σ7 88 87 = sg_g σ2 88 87 := sg_F_g F7 (by rfl)
  have g93 : sg_g σ7 88 93 = N := by rw [sg_F_g F7 (by rfl)]; exact h93
  have fv7 := fV_up (fEx_F F7 rfl) hR
  have lo7 : lnO σ7 (r :: R) := lnO_of (lO_F F7 rfl ln2) (by omega) rL.symm
  have et7 : gT σ7 (r :: R) (sg_g σ7 88 93).toNat (r :: R).length = t := by rw [et, gT_F F7 rfl rfl, g93, h93]
  have gl : ∀ l, l < (r :: R).length → gsum σ7 (r :: R) l (sg_g σ7 88 93).toNat ≤ 6000 := fun l h => by
    have a1 := gT_l fv7.2.2.2.2 lo7 (by decide) (j := (sg_g σ7 88 93).toNat) (by omega) h
    have a2 := gT_b fv7.2.2.2.2 lo7 (by decide) (j := (sg_g σ7 88 93).toNat) (by omega) (l := l) (by omega)
    omega
  refine m_gath fv7 ⟨by decide, by decide⟩ (by omega) ⟨by omega, by omega⟩ lo7 (by omega) (fun w σ8 ew ex8 fv8 e87 e91 f8 rw' _ σ9 e9 => ?_)
  obtain ⟨r0, R0, er, er2, el⟩ := gR_c (σ := σ7) (R := r :: R) (by simp)
  have f9 : sg_F [134] σ8 σ9 := by rw [e9]; exact sg_F_w (sg_F_r _ _) rfl _
  have F9 : sg_F [134, 139, 140, 141, 142, 144, 148, 149, 85088, 86088, 88088, 92088, 100088] σ2 σ9 := sg_F_t (sg_F_m F7 rfl) (sg_F_t (sg_F_m f8 rfl) (sg_F_m f9 rfl))
  have ex9 : fEx σ2 σ9 := fEx_t (fEx_F F7 rfl) (fEx_t ex8 (fEx_F f9 rfl))
  have h84 : sg_g σ9 88 84 = sg_g σ2 88 84 + 1 := by rw [sg_F_g f9 (by rfl), sg_F_g f8 (by rfl), sg_F_g f47 (by rfl)]; omega
  have h85 : sg_g σ9 88 85 = sg_g σ2 88 85 + t := by rw [sg_F_g f9 (by rfl), sg_F_g f8 (by rfl), sg_F_g f47 (by rfl)]; omega
  have h91 : sg_g σ9 88 91 = sg_g σ2 88 91 + t := by rw [sg_F_g f9 (by rfl)]; omega
  have h87 : sg_g σ9 88 87 = sg_g σ2 88 87 + 1 := by rw [sg_F_g f9 (by rfl)]; omega
  have h62 : sg_g σ9 88 62 = sg_g σ2 88 62 := sg_F_g F9 (by rfl)
  have h99 : sg_g σ9 88 99 = sg_g σ2 88 99 + 1 := by rw [sg_F_g f9 (by rfl), sg_F_g f8 (by rfl), e7, sg_gw_e _ _ _ _ ⟨by omega, by omega⟩]
  have c148 : ∀ i, sg_g σ9 148 i = sg_g σ7 148 i := fun i => by rw [sg_F_ga f9 rfl, sg_F_ga f8 rfl]
  have c149 : ∀ i, sg_g σ9 149 i = sg_g σ7 149 i := fun i => by rw [sg_F_ga f9 rfl, sg_F_ga f8 rfl]
  have c134 : ∀ u, ¬ u = b → sg_g σ9 134 u = sg_g σ2 134 u := fun u hu => by rw [e9, sg_gw_k _ _ _ _ _ _ hu, sg_F_ga f8 rfl, sg_F_ga F7 rfl]
  have s148 : sg_g σ7 148 (sg_g σ2 88 99) = b := by rw [e7, sg_gw_c _ _ _ _ _ _ (by decide), e6, sg_gw_c _ _ _ _ _ _ (by decide), e5, sg_gw_e _ _ _ _ ⟨by have := (o4 b bO).1; omega, by have := (o4 b bO).2; omega⟩]
  have s149 : sg_g σ7 149 (sg_g σ2 88 99) = sg_g σ 134 b := by rw [e7, sg_gw_c _ _ _ _ _ _ (by decide), e6, sg_gw_e _ _ _ _ vR]
  have o148 : ∀ i, ¬ i = sg_g σ2 88 99 → sg_g σ7 148 i = sg_g σ2 148 i := fun i hi => by rw [e7, sg_gw_c _ _ _ _ _ _ (by decide), e6, sg_gw_c _ _ _ _ _ _ (by decide), e5, sg_gw_k _ _ _ _ _ _ hi, sg_F_ga f34 rfl]
  have o149 : ∀ i, ¬ i = sg_g σ2 88 99 → sg_g σ7 149 i = sg_g σ2 149 i := fun i hi => by rw [e7, sg_gw_c _ _ _ _ _ _ (by decide), e6, sg_gw_k _ _ _ _ _ _ hi, e5, sg_gw_c _ _ _ _ _ _ (by decide), sg_F_ga f34 rfl]
  have vb : sg_g σ9 134 b = w := by rw [e9, sg_gw_e _ _ _ _ rw']
  refine ⟨⟨by omega, by omega⟩, _, by omega, rfl, ⟨by omega, by omega⟩, ⟨⟨⟨by omega, by omega⟩, ⟨by omega, by omega⟩, ⟨by omega, by omega⟩, ⟨by omega, by omega, by omega⟩, by omega, by omega⟩, fun i x y => ?_, fEx_t p3 ex9⟩, fun u hu => ?_, fun u hu => ?_, fun s u hs => ?_, ⟨by omega, by omega, by omega⟩, sg_F_t p8 F9⟩
  · rw [c148]
    by_cases c : i = sg_g σ2 88 99
    · rw [c, s148]; exact o4 b bO
    · rw [o148 i c]; exact p2 i x (by omega)
  · rw [tk] at hu
    rcases List.mem_append.mp hu with q | q
    · have ub : ¬ u = b := fun e => bn (by rw [← e]; exact q)
      rw [c134 u ub]
      exact fLx_up ex9 (by omega) (p4 u q)
    · have : u = b := by simpa using q
      rw [this, vb]
      refine fLx_up (fEx_F f9 rfl) (c := t) (by omega) ⟨_, fv8 6000 gl, ?_, ?_, by rw [eX_g]; omega⟩
      · rw [er]; simp only [List.length_cons] at el ⊢; omega
      · rw [er, List.getD_cons_zero, er2, g93]; omega
  · rw [tk] at hu
    have u1 : u ∉ O.take v.toNat := fun q => hu (by simp [q])
    have u2 : ¬ u = b := fun q => hu (by simp [q])
    rw [c134 u u2]; exact p5 u u1
  · rw [← p6 s u hs]
    exact und_push (b0 := b) (by omega) (fun i hi => ⟨by rw [c148, o148 i (by omega)], by rw [c149, o149 i (by omega)]⟩) (by rw [c148]; exact s148) (by rw [c149, s149, p5 b bn]) (fun c => c134 u c) h99
/-- how many of n cells are not 0 -/
def cw (σ : sg_S) (p : Int) : Nat → Int
  | 0 => 0
  | i + 1 => cw σ p i + (if sg_g σ 142 (p + i) = 0 then 0 else 1)
theorem cw_b {p : Int} : ∀ n : Nat, 0 ≤ cw σ p n ∧ cw σ p n ≤ n
  | 0 => ⟨Int.le_refl _, Int.le_refl _⟩
  | n + 1 => by
    have := cw_b (p := p) n
    simp only [cw]
    split <;> omega
theorem cw_e {σ' : sg_S} {p : Int} : ∀ {n : Nat}, (∀ j : Nat, j < n → sg_g σ' 142 (p + j) = sg_g σ 142 (p + j)) → cw σ' p n = cw σ p n
  | 0, _ => rfl
  | n + 1, h => by
    simp only [cw]
    rw [cw_e (n := n) (fun j x => h j (by omega)), h n (by omega)]
theorem cw_s {p x : Int} (h : 0 ≤ x) : cw σ p (x + 1).toNat = cw σ p x.toNat + (if sg_g σ 142 (p + x) = 0 then 0 else 1) := by
  rw [show (x + 1).toNat = x.toNat + 1 by omega]
  simp only [cw]
  rw [show ((x.toNat : Nat) : Int) = x by omega]
theorem m_where {v is : Int} {r : Int × Int} {R : List (Int × Int)} {Q : sg_S → Prop} (hv : fV σ 6000 v (r :: R)) (hc : sg_g σ 88 91 ≤ 60000 ∧ sg_g σ 88 87 ≤ 30000) (hi : is = 0 ∨ is = 1) (k : ∀ σ', lO σ' (if is = 1 then cw σ r.1 r.2.toNat else r.2 - cw σ r.1 r.2.toNat) r.2 → sg_F [143, 94088] σ σ' → Q σ') : V_listWhere σ v is Q := by
  have z0 := fV_0 hv
  have vb := hv.1
  obtain ⟨w1, w2, w3, w4⟩ := hv.2.2.2.2.1
  have vl : v_lanesOf σ v = r.2 := by unfold v_lanesOf; exact z0.2
  unfold V_listWhere
  intro σ1 e1
  have f1 : sg_F [94088] σ σ1 := by rw [e1]; exact sg_F_w (sg_F_r _ _) rfl _
  rw [vl]
  refine ⟨fun n x σ5 => n = (r.2 - x).toNat ∧ (0 ≤ x ∧ x ≤ r.2) ∧ lO σ5 (if is = 1 then cw σ r.1 x.toNat else x - cw σ r.1 x.toNat) r.2, fun σ5 => lO σ5 (if is = 1 then cw σ r.1 r.2.toNat else r.2 - cw σ r.1 r.2.toNat) r.2, ⟨_, rfl, ⟨by omega, by omega⟩, ?_⟩, ?_, fun σ5 f5 h5 => k σ5 h5 (sg_F_t (sg_F_m f1 rfl) f5)⟩
  · have : (if is = 1 then cw σ r.1 (0 : Int).toNat else 0 - cw σ r.1 (0 : Int).toNat) = 0 := by split <;> rfl
    rw [this]; exact lO_0 e1
  · rintro n x σ5 rx f5 ⟨en, hx, h5⟩
    refine ⟨⟨⟨by omega, by omega⟩, ⟨by omega, by omega⟩, trivial⟩, fun z => by rw [show r.2 = x by omega] at h5 ⊢; exact h5, fun z => ?_⟩
    obtain ⟨pa, va⟩ := pR hv hc (i := x) ⟨by omega, by omega⟩
    rw [va]
    have cb := cw_b (σ := σ) (p := r.1) x.toNat
    have css := cw_s (σ := σ) (p := r.1) hx.1
    refine ⟨pa, fun v26 e26 r26 => ⟨fun σ6 => lO σ6 (if is = 1 then cw σ r.1 (x + 1).toNat else x + 1 - cw σ r.1 (x + 1).toNat) r.2, ⟨fun c => ?_, fun c => m_list h5 ?_ rx z (fun σ6 h6 f6 => ?_)⟩, fun σ6 f6 h6 => ⟨⟨by omega, by omega⟩, _, by omega, rfl, ⟨by omega, by omega⟩, h6⟩⟩⟩
    · have : (if is = 1 then cw σ r.1 (x + 1).toNat else x + 1 - cw σ r.1 (x + 1).toNat) = (if is = 1 then cw σ r.1 x.toNat else x - cw σ r.1 x.toNat) := by
        rw [css]
        rcases hi with e | e <;> rw [e] at c ⊢ <;> split at e26 <;> simp <;> omega
      rw [this]; exact h5
    · split <;> omega
    · have : (if is = 1 then cw σ r.1 (x + 1).toNat else x + 1 - cw σ r.1 (x + 1).toNat) = (if is = 1 then cw σ r.1 x.toNat else x - cw σ r.1 x.toNat) + 1 := by
        rw [css]
        rcases hi with e | e <;> rw [e] at c ⊢ <;> split at e26 <;> simp <;> omega
      rw [this]; exact h6
end FX
/-! THE PILE of a flat run. -/
def vW (σ : sg_S) (b : Int) (tys : List (Int × Int × Int)) : Prop := ∀ (i : Nat) (x : Int × Int × Int), tys[i]? = some x → fLx σ x.1.toNat x.2.1 (sg_g σ 88 85 + x.2.2) (sg_g σ 133 (b + i))
/-- binders sc, none in W, are bound to values of their types with l lanes, once all saved from s on is put back; of so many cells at most as are told, and X -/
def scF (σ : sg_S) (s l X : Int) (W : Int → Prop) (sc : List (Int × Int)) : Prop := ∀ p ∈ sc, ¬ W p.1 ∧ fLx σ p.2.toNat l (sg_g σ 88 85 + X) (und σ s p.1)
def cwT (σ : sg_S) (b l : Int) : Int := cw σ (sg_g σ 140 (4 * sg_g σ 133 b)) l.toNat
def csT (σ : sg_S) (b l : Int) : Int := cs σ (sg_g σ 140 (4 * sg_g σ 133 b)) l.toNat
section FY
variable (A : aT) (D : List aDf) (T B : Int → Int) (lev : Int → Nat) (r : Int)
/-- node n at stage st, base b, l lanes, saved s and now sv, has values tys -/
def fK (σ : sg_S) (n st b l X s sv al : Int) (j : Nat) (L : List Int) (sc : List (Int × Int)) (W : Int → Prop) (tys : List (Int × Int × Int)) : Prop :=
  if A.2.1 n = 2 then sv = s ∧ ∃ a c, A.2.2.2.2.1 n = [a, c] ∧ ((st = 0 ∧ tys = [] ∧ scF σ s l X W sc) ∨ (st = 1 ∧ tys = [(T a, l, X)] ∧ scF σ s l X W sc) ∨ (st = 2 ∧ tys = [(T c, l, X)]))
  else if A.2.1 n = 3 then ∃ a c d, A.2.2.2.2.1 n = [a, c, d] ∧ ((st = 0 ∧ sv = s ∧ tys = [] ∧ scF σ s l X W sc) ∨ (st = 1 ∧ sv = s ∧ tys = [(T a, l, X)] ∧ scF σ s l X W sc) ∨ (st = 2 ∧ tys = [(T a, l, X), (T c, cwT σ b l, X)] ∧ scF σ s l X W sc) ∨ (st = 3 ∧ tys = [(T a, l, X), (T c, cwT σ b l, X), (T d, l - cwT σ b l, X)]))
  else if A.2.1 n = 15 then ∃ bd tl, A.2.2.2.2.1 n = bd :: tl ∧ ((∃ i : Nat, i ≤ (A.2.2.2.2.2 n).length ∧ st = i ∧ sv = s ∧ tys = (tl.take i).map (fun x => (T x, l, X)) ∧ scF σ s l X W sc) ∨ (∃ ts, st = (A.2.2.2.2.2 n).length + 1 ∧ tl.drop (A.2.2.2.2.2 n).length = [ts] ∧ tys = (tl.take (A.2.2.2.2.2 n).length).map (fun x => (T x, l, X)) ++ [(T ts, csT σ b l, X - l)] ∧ ∃ f' L' sc', stN A D T B lev j f' L' sc' bd ∧ (∀ y ∈ L', y ∈ L) ∧ scF σ sv (csT σ b l) (X - l) W sc') ∨ (∃ m, st = (A.2.2.2.2.2 n).length + 2 ∧ tys = (tl.take (A.2.2.2.2.2 n).length).map (fun x => (T x, l, X)) ++ [(T bd, m, X - l)] ∧ ((tl.length = 1 + (A.2.2.2.2.2 n).length ∧ fRw σ 6000 (al, l) ∧ fLn σ (al, l) ∧ m = cs σ al l.toNat) ∨ (tl.length = (A.2.2.2.2.2 n).length ∧ m = csT σ b l))))
  else sv = s ∧ ((∃ i : Nat, i ≤ (A.2.2.2.2.1 n).length ∧ st = i ∧ tys = ((A.2.2.2.2.1 n).take i).map (fun x => (T x, l, X)) ∧ scF σ s l X W sc) ∨ (A.2.1 n = 13 ∧ st = (A.2.2.2.2.1 n).length + 1 ∧ tys = [(T n, l, X)]))
/-- frames below: m of them; a value of type ty with l lanes comes to place tp; the frame above began at sv and may bind W -/
def fStk (σ : sg_S) : Nat → Int → Int → Int → Int → Int → (Int → Prop) → Prop
  | 0, tp, ty, l, Xa, sv, _ => tp = 0 ∧ ty = T r ∧ l = 1 ∧ Xa = 0 ∧ sv = 0
  | m + 1, tp, ty, l, Xa, sv, W => ∃ (j f : Nat) (L : List Int) (sc : List (Int × Int)) (tys : List (Int × Int × Int)) (X : Int), 0 ≤ sg_g σ 128 m ∧ tp = sg_g σ 128 m + tys.length ∧ vW σ (sg_g σ 128 m) tys ∧ stN A D T B lev j f L sc (sg_g σ 126 m) ∧ (0 ≤ sg_g σ 145 m ∧ sg_g σ 145 m ≤ 6000 ∧ 0 ≤ sg_g σ 88 85 + X) ∧ (0 ≤ sg_g σ 146 m ∧ sg_g σ 146 m ≤ sv) ∧ (∀ b, W b → ow lev j L b) ∧ fK A D T B lev σ (sg_g σ 126 m) (sg_g σ 127 m) (sg_g σ 128 m) (sg_g σ 145 m) X (sg_g σ 146 m) sv (sg_g σ 147 m) j L sc W (tys ++ [(ty, l, Xa)]) ∧ fStk σ m (sg_g σ 128 m) (T (sg_g σ 126 m)) (sg_g σ 145 m) X (sg_g σ 146 m) (ow lev j L)
def fTop (σ : sg_S) (m : Nat) (tys : List (Int × Int × Int)) : Prop := sg_g σ 88 62 = m + 1 ∧ ∃ (j f : Nat) (L : List Int) (sc : List (Int × Int)) (X : Int), 0 ≤ sg_g σ 128 m ∧ sg_g σ 88 70 = sg_g σ 128 m + tys.length ∧ vW σ (sg_g σ 128 m) tys ∧ stN A D T B lev j f L sc (sg_g σ 126 m) ∧ (0 ≤ sg_g σ 145 m ∧ sg_g σ 145 m ≤ 6000 ∧ 0 ≤ sg_g σ 88 85 + X) ∧ (0 ≤ sg_g σ 146 m ∧ sg_g σ 146 m ≤ sg_g σ 88 99) ∧ fK A D T B lev σ (sg_g σ 126 m) (sg_g σ 127 m) (sg_g σ 128 m) (sg_g σ 145 m) X (sg_g σ 146 m) (sg_g σ 88 99) (sg_g σ 147 m) j L sc (fun _ => False) tys ∧ fStk A D T B lev r σ m (sg_g σ 128 m) (T (sg_g σ 126 m)) (sg_g σ 145 m) X (sg_g σ 146 m) (ow lev j L)
def fN (σ : sg_S) : Prop := fI σ ∧ sB σ ∧ 0 ≤ sg_g σ 88 62 ∧ 0 ≤ sg_g σ 88 70 ∧ sg_g σ 88 70 + sg_g σ 88 62 ≤ sg_g σ 88 84
def fNw (σ : sg_S) : Prop := fIw σ ∧ sB σ ∧ 0 ≤ sg_g σ 88 62 ∧ 0 ≤ sg_g σ 88 70 ∧ sg_g σ 88 70 + sg_g σ 88 62 ≤ sg_g σ 88 84
theorem fN_w {σ : sg_S} (h : fN σ) : fNw σ := by
  obtain ⟨⟨i1, i2, i3, i4, i5⟩, h2⟩ := h
  exact ⟨⟨i1, i2, i3, ⟨i4.1, i4.2.1, by omega⟩, i5⟩, h2⟩
/-- a flat run that goes on, or has come to its value -/
def fIv (σ : sg_S) : Prop := fN σ ∧ ((sg_g σ 88 62 = 0 ∧ fLx σ (T r).toNat 1 (sg_g σ 88 85) (sg_g σ 133 0)) ∨ ∃ m tys, fTop A D T B lev r σ m tys)
def fM (σ : sg_S) : Int := 2 * (2000 - sg_g σ 88 84) + sg_g σ 88 62
def fQ (σ σ' : sg_S) : Prop := ¬ sg_g σ' 88 73 = 0 ∨ (sg_g σ' 88 73 = 0 ∧ fIv A D T B lev r σ' ∧ fM σ' < fM σ)
end FY
section FYU
variable {A : aT} {D : List aDf} {T B : Int → Int} {lev : Int → Nat} {r : Int}
theorem fL_row {σ σ' : sg_S} {K : Nat} {l v : Int} (h : fL σ K l v) (ex : fEx σ σ') : cw σ' (sg_g σ' 140 (4 * v)) l.toNat = cw σ (sg_g σ 140 (4 * v)) l.toNat ∧ cs σ' (sg_g σ' 140 (4 * v)) l.toNat = cs σ (sg_g σ 140 (4 * v)) l.toNat := by
  obtain ⟨q, R, h1, h2, h3⟩ := fL_c h
  have z := (fV_0 h1).1
  have z' := (fV_0 (fV_up ex h1)).1
  obtain ⟨w1, w2, w3, w4⟩ := h1.2.2.2.2.1
  rw [z, z']
  exact ⟨cw_e (fun j hj => ex.2.2.2 _ (by omega) (by omega)), cs_e (fun j hj => ex.2.2.2 _ (by omega) (by omega))⟩
theorem scF_up {σ σ' : sg_S} {s l X : Int} {W W' : Int → Prop} {sc : List (Int × Int)} (ex : fEx σ σ') (hc : sg_g σ 88 85 ≤ sg_g σ' 88 85) (hu : ∀ b, ¬ W b → und σ' s b = und σ s b) (hw : ∀ p ∈ sc, ¬ W p.1 → ¬ W' p.1) (h : scF σ s l X W sc) : scF σ' s l X W' sc := fun p hp => by
  obtain ⟨h1, h2⟩ := h p hp
  exact ⟨hw p hp h1, by rw [hu _ h1]; exact fLx_up ex (by omega) h2⟩
theorem vW_up {σ σ' : sg_S} {b : Int} {tys : List (Int × Int × Int)} (ex : fEx σ σ') (hc : sg_g σ 88 85 ≤ sg_g σ' 88 85) (hv : ∀ x, b ≤ x → x < b + tys.length → sg_g σ' 133 x = sg_g σ 133 x) (h : vW σ b tys) : vW σ' b tys := fun i x hx => by
  have hi := lt_of_get hx
  rw [hv _ (by omega) (by omega)]
  exact fLx_up ex (by omega) (h i x hx)
theorem vW_x {σ : sg_S} {b v ty l X : Int} {tys : List (Int × Int × Int)} (h : vW σ b tys) (hv : sg_g σ 133 (b + tys.length) = v) (hx : fLx σ ty.toNat l (sg_g σ 88 85 + X) v) : vW σ b (tys ++ [(ty, l, X)]) := fun i y hy => by
  rcases Nat.lt_or_ge i tys.length with q | q
  · rw [List.getElem?_append_left q] at hy; exact h i y hy
  · rw [List.getElem?_append_right q] at hy
    have : i - tys.length = 0 := by
      rcases Nat.eq_zero_or_pos (i - tys.length) with z | z
      · exact z
      · rw [List.getElem?_eq_none (by simp; omega)] at hy; cases hy
    rw [this] at hy
    simp only [List.getElem?_cons_zero, Option.some.injEq] at hy
    rw [show i = tys.length by omega, hv, ← hy]; exact hx
theorem vW_l {σ : sg_S} {b : Int} {tys tys' : List (Int × Int × Int)} (h : vW σ b (tys ++ tys')) : vW σ b tys := fun i x hx => h i x (by rw [List.getElem?_append_left (lt_of_get hx)]; exact hx)
theorem vW_0 {σ : sg_S} {b ty l X : Int} {tys : List (Int × Int × Int)} (h : vW σ b ((ty, l, X) :: tys)) : fLx σ ty.toNat l (sg_g σ 88 85 + X) (sg_g σ 133 b) := by
  have := h 0 (ty, l, X) rfl
  rwa [show b + ((0 : Nat) : Int) = b by omega] at this
theorem fK_up {σ σ' : sg_S} {n st b l X s sv al : Int} {j : Nat} {L : List Int} {sc : List (Int × Int)} {tys : List (Int × Int × Int)} {W W' : Int → Prop} (nw : nW A n) (ex : fEx σ σ') (hc : sg_g σ 88 85 ≤ sg_g σ' 88 85) (hs : s ≤ sv) (hu : ∀ s' b', s' ≤ sv → ¬ W b' → und σ' s' b' = und σ s' b') (hw : ∀ b', W' b' → W b') (hv : 2 ≤ tys.length → sg_g σ' 133 b = sg_g σ 133 b ∧ ∃ K, fL σ K l (sg_g σ 133 b)) (h : fK A D T B lev σ n st b l X s sv al j L sc W tys) : fK A D T B lev σ' n st b l X s sv al j L sc W' tys := by
  have up : ∀ (s' l' X' : Int) (sc' : List (Int × Int)), s' ≤ sv → scF σ s' l' X' W sc' → scF σ' s' l' X' W' sc' := fun s' l' X' sc' h1 h2 => scF_up ex hc (fun b' => hu s' b' h1) (fun p _ h3 h4 => h3 (hw _ h4)) h2
  have rows : 2 ≤ tys.length → cwT σ' b l = cwT σ b l ∧ csT σ' b l = csT σ b l := fun h2 => by
    obtain ⟨e, K, hK⟩ := hv h2
    unfold cwT csT
    rw [e]
    exact fL_row hK ex
  unfold fK at h ⊢
  split
  · rename_i k2
    rw [if_pos k2] at h
    obtain ⟨h0, a, c, ea, h1⟩ := h
    refine ⟨h0, a, c, ea, ?_⟩
    rcases h1 with ⟨p1, p2, p3⟩ | ⟨p1, p2, p3⟩ | p
    · exact Or.inl ⟨p1, p2, up _ _ _ _ hs p3⟩
    · exact Or.inr (Or.inl ⟨p1, p2, up _ _ _ _ hs p3⟩)
    · exact Or.inr (Or.inr p)
  · rename_i k2
    rw [if_neg k2] at h
    split
    · rename_i k3
      rw [if_pos k3] at h
      obtain ⟨a, c, d, ea, h1⟩ := h
      refine ⟨a, c, d, ea, ?_⟩
      rcases h1 with ⟨p1, p0, p2, p3⟩ | ⟨p1, p0, p2, p3⟩ | ⟨p1, p2, p3⟩ | ⟨p1, p2⟩
      · exact Or.inl ⟨p1, p0, p2, up _ _ _ _ hs p3⟩
      · exact Or.inr (Or.inl ⟨p1, p0, p2, up _ _ _ _ hs p3⟩)
      · have := (rows (by rw [p2]; simp)).1
        exact Or.inr (Or.inr (Or.inl ⟨p1, by rw [this]; exact p2, up _ _ _ _ hs p3⟩))
      · have := (rows (by rw [p2]; simp)).1
        exact Or.inr (Or.inr (Or.inr ⟨p1, by rw [this]; exact p2⟩))
    · rename_i k3
      rw [if_neg k3] at h
      split
      · rename_i k15
        rw [if_pos k15] at h
        obtain ⟨bd, tl, ea, h1⟩ := h
        refine ⟨bd, tl, ea, ?_⟩
        rcases h1 with ⟨i, p1, p2, p3, p4, p5⟩ | ⟨ts, p1, p2, p3, f', L', sc', p4, p5, p6⟩ | ⟨m, p1, p2, p3⟩
        · exact Or.inl ⟨i, p1, p2, p3, p4, up _ _ _ _ hs p5⟩
        · have l2 : 2 ≤ tys.length := by
            have g := (nw.2.2.2.2.2.2.1 k15).1
            have g1 := nw.2.2.2.2.2.2.2.2 k15
            rw [ea] at g
            simp only [List.length_cons] at g
            rw [p3]
            simp only [List.length_append, List.length_map, List.length_take, List.length_cons, List.length_nil]
            omega
          have q := (rows l2).2
          exact Or.inr (Or.inl ⟨ts, p1, p2, by rw [q]; exact p3, f', L', sc', p4, p5, by rw [q]; exact up _ _ _ _ (Int.le_refl _) p6⟩)
        · refine Or.inr (Or.inr ⟨m, p1, p2, ?_⟩)
          rcases p3 with ⟨q1, ⟨q2, q3, q4, q5⟩, q6, q7⟩ | ⟨q1, q2⟩
          · refine Or.inl ⟨q1, ⟨q2, q3, q4, by have := ex.1.2; omega⟩, fun i x y => ?_, ?_⟩
            · simp only at q2 q3 q5 x y ⊢
              rw [ex.2.2.2 _ (by omega) (by omega)]
              exact q6 i x y
            · simp only at q2 q3 q5
              rw [q7]
              exact (cs_up ex q2 (by omega)).symm
          · have l2 : 2 ≤ tys.length := by
              have g1 := nw.2.2.2.2.2.2.2.2 k15
              rw [p2]
              simp only [List.length_append, List.length_map, List.length_take, List.length_cons, List.length_nil]
              omega
            exact Or.inr ⟨q1, by rw [(rows l2).2]; exact q2⟩
      · rename_i k15
        rw [if_neg k15] at h
        obtain ⟨h0, h1⟩ := h
        refine ⟨h0, ?_⟩
        rcases h1 with ⟨i, p1, p2, p3, p4⟩ | p
        · exact Or.inl ⟨i, p1, p2, p3, up _ _ _ _ hs p4⟩
        · exact Or.inr p
end FYU
/-! the pile of a flat run: kept, begun, left. -/
section FZ
variable {A : aT} {D : List aDf} {T B : Int → Int} {lev : Int → Nat} {r : Int}
theorem map_0 {T : Int → Int} {l X : Int} {xs : List Int} {q : List (Int × Int × Int)} (h : 2 ≤ (xs.map (fun x => (T x, l, X)) ++ q).length) (hx : 1 ≤ xs.length) : ∃ t R, xs.map (fun x => (T x, l, X)) ++ q = (t, l, X) :: R := by
  cases xs with
  | nil => simp at hx
  | cons a b => exact ⟨T a, _, rfl⟩
theorem fK_0 {σ : sg_S} {n st b l X s sv al : Int} {j : Nat} {L : List Int} {sc : List (Int × Int)} {tys : List (Int × Int × Int)} {W : Int → Prop} (nw : nW A n) (h : fK A D T B lev σ n st b l X s sv al j L sc W tys) (h2 : 2 ≤ tys.length) : ∃ t R, tys = (t, l, X) :: R := by
  unfold fK at h
  split at h
  · obtain ⟨h0, a, c, ea, h1⟩ := h
    rcases h1 with ⟨p1, p2, p3⟩ | ⟨p1, p2, p3⟩ | ⟨p1, p2⟩ <;> rw [p2] at h2 <;> simp at h2
  · split at h
    · obtain ⟨a, c, d, ea, h1⟩ := h
      rcases h1 with ⟨p1, p0, p2, p3⟩ | ⟨p1, p0, p2, p3⟩ | ⟨p1, p2, p3⟩ | ⟨p1, p2⟩
      · rw [p2] at h2; simp at h2
      · rw [p2] at h2; simp at h2
      · exact ⟨_, _, p2⟩
      · exact ⟨_, _, p2⟩
    · split at h
      · rename_i k15
        obtain ⟨bd, tl, ea, h1⟩ := h
        have g := (nw.2.2.2.2.2.2.1 k15).1
        have g1 := nw.2.2.2.2.2.2.2.2 k15
        rw [ea] at g
        simp only [List.length_cons] at g
        rcases h1 with ⟨i, p1, p2, p3, p4, p5⟩ | ⟨ts, p1, p2, p3, _⟩ | ⟨m, p1, p2, p3⟩
        · rw [p4] at h2 ⊢
          rw [← List.append_nil (List.map _ _)] at h2 ⊢
          exact map_0 h2 (by simp only [List.append_nil, List.length_map, List.length_take] at h2 ⊢; omega)
        · rw [p3] at h2 ⊢
          exact map_0 h2 (by rw [List.length_take]; omega)
        · rw [p2] at h2 ⊢
          exact map_0 h2 (by rw [List.length_take]; omega)
      · obtain ⟨h0, h1⟩ := h
        rcases h1 with ⟨i, p1, p2, p3, p4⟩ | ⟨p1, p2, p3⟩
        · rw [p3] at h2 ⊢
          rw [← List.append_nil (List.map _ _)] at h2 ⊢
          exact map_0 h2 (by simp only [List.append_nil, List.length_map, List.length_take] at h2 ⊢; omega)
        · rw [p3] at h2; simp at h2
theorem fStk_up {σ σ' : sg_S} (ex : fEx σ σ') (hc : sg_g σ 88 85 ≤ sg_g σ' 88 85) : ∀ (m : Nat) (tp ty l Xa sv : Int) (W W' : Int → Prop), (∀ i : Nat, i < m → sg_g σ' 126 i = sg_g σ 126 i ∧ sg_g σ' 127 i = sg_g σ 127 i ∧ sg_g σ' 128 i = sg_g σ 128 i ∧ sg_g σ' 145 i = sg_g σ 145 i ∧ sg_g σ' 146 i = sg_g σ 146 i ∧ sg_g σ' 147 i = sg_g σ 147 i) → (∀ x, 0 ≤ x → x < tp → sg_g σ' 133 x = sg_g σ 133 x) → (∀ s b, s ≤ sv → ¬ W b → und σ' s b = und σ s b) → (∀ b, W' b → W b) → fStk A D T B lev r σ m tp ty l Xa sv W → fStk A D T B lev r σ' m tp ty l Xa sv W'
  | 0, tp, ty, l, Xa, sv, W, W', _, _, _, _, h => h
  | m + 1, tp, ty, l, Xa, sv, W, W', hr, hv, hu, hw, h => by
    obtain ⟨j, f, L, sc, tys, X, h1, h2, h3, h4, h5, h6, h7, h8, h9⟩ := h
    obtain ⟨e1, e2, e3, e4, e5, e6⟩ := hr m (by omega)
    refine ⟨j, f, L, sc, tys, X, ?_⟩
    rw [e1, e2, e3, e4, e5, e6]
    have nw := (stN_w h4).1
    refine ⟨h1, h2, vW_up ex hc (fun x a b => hv x (by omega) (by omega)) h3, h4, ⟨h5.1, h5.2.1, by omega⟩, h6, fun b hb => h7 b (hw b hb), fK_up nw ex hc h6.2 hu hw (fun z => ?_) h8, ?_⟩
    · have hz : 1 ≤ tys.length := by simp only [List.length_append, List.length_cons, List.length_nil] at z; omega
      refine ⟨hv _ (by omega) (by omega), ?_⟩
      obtain ⟨t, R, e⟩ := fK_0 nw h8 z
      cases tys with
      | nil => simp at hz
      | cons q ql =>
        simp only [List.cons_append, List.cons.injEq] at e
        obtain ⟨q1, q2, q2'⟩ := q
        have : q2 = sg_g σ 145 m := by have := congrArg (·.2.1) e.1; exact this
        rw [this] at h3
        exact ⟨_, fLx_L (vW_0 h3)⟩
    · exact fStk_up ex hc m _ _ _ _ _ _ _ (fun i hi => hr i (by omega)) (fun x a b => hv x a (by omega)) (fun s b hs hb => hu s b (by omega) (fun z => hb (h7 b z))) (fun b hb => hb) h9
theorem m_fBegin {σ : sg_S} {x l : Int} {Q : sg_S → Prop} (hs : (0 ≤ sg_g σ 88 84 ∧ sg_g σ 88 84 ≤ 2000) ∧ (0 ≤ sg_g σ 88 85 ∧ sg_g σ 88 85 ≤ 6000)) (hf : 0 ≤ sg_g σ 88 62 ∧ sg_g σ 88 62 < 4000) (hx : sg_R x) (hl : sg_R l) (k0 : ∀ σ', ¬ sg_g σ' 88 73 = 0 → Q σ') (k1 : ∀ σ', sg_g σ' 88 84 = sg_g σ 88 84 + 1 → sg_g σ' 88 84 ≤ 2000 → sg_g σ' 88 85 = sg_g σ 88 85 → sg_g σ' 88 62 = sg_g σ 88 62 + 1 → (sg_g σ' 126 (sg_g σ 88 62) = x ∧ sg_g σ' 127 (sg_g σ 88 62) = 0 ∧ sg_g σ' 128 (sg_g σ 88 62) = sg_g σ 88 70 ∧ sg_g σ' 145 (sg_g σ 88 62) = l ∧ sg_g σ' 146 (sg_g σ 88 62) = sg_g σ 88 99) → (∀ i, ¬ i = sg_g σ 88 62 → sg_g σ' 126 i = sg_g σ 126 i ∧ sg_g σ' 127 i = sg_g σ 127 i ∧ sg_g σ' 128 i = sg_g σ 128 i ∧ sg_g σ' 145 i = sg_g σ 145 i ∧ sg_g σ' 146 i = sg_g σ 146 i) → sg_F [126, 127, 128, 145, 146, 63088, 85088, 86088, 87088] σ σ' → Q σ') : V_flatBegin σ x l Q := by
  unfold V_flatBegin
  refine m_stepped hs ⟨by omega, by omega⟩ (fun σ' e _ _ => ⟨fun z => absurd rfl z, fun _ => k0 _ e⟩) (fun σ1 f1 s1 s2 s3 s4 _ _ => ⟨fun _ v10 e10 r10 σ13 e13 => ⟨hf, fun σ17 e17 σ20 e20 σ23 e23 σ26 e26 σ29 e29 => ⟨⟨by omega, by omega⟩, fun σ33 e33 => ?_⟩⟩, fun z => by omega⟩)
  have F1 : sg_F [126, 127, 128, 145, 146, 63088, 87088] σ1 σ33 := by
    rw [e33, e29, e26, e23, e20, e17, e13]
    exact sg_F_w (sg_F_w (sg_F_w (sg_F_w (sg_F_w (sg_F_w (sg_F_w (sg_F_r _ _) rfl _) rfl _) rfl _) rfl _) rfl _) rfl _) rfl _
  refine k1 σ33 (by rw [sg_F_g F1 (by rfl)]; exact s1) (by rw [sg_F_g F1 (by rfl)]; exact s2) (by rw [sg_F_g F1 (by rfl)]; omega) (by rw [e33, sg_gw_e _ _ _ _ ⟨by omega, by omega⟩]) ⟨?_, ?_, ?_, ?_, ?_⟩ (fun i hi => ⟨?_, ?_, ?_, ?_, ?_⟩) (sg_F_t (sg_F_m f1 rfl) (sg_F_m F1 rfl))
  · rw [e33, sg_gw_c _ _ _ _ _ _ (by decide), e29, sg_gw_c _ _ _ _ _ _ (by decide), e26, sg_gw_c _ _ _ _ _ _ (by decide), e23, sg_gw_c _ _ _ _ _ _ (by decide), e20, sg_gw_c _ _ _ _ _ _ (by decide), e17, sg_gw_e _ _ _ _ hx]
  · rw [e33, sg_gw_c _ _ _ _ _ _ (by decide), e29, sg_gw_c _ _ _ _ _ _ (by decide), e26, sg_gw_c _ _ _ _ _ _ (by decide), e23, sg_gw_c _ _ _ _ _ _ (by decide), e20, sg_gw_e _ _ _ _ ⟨by decide, by decide⟩]
  · rw [e33, sg_gw_c _ _ _ _ _ _ (by decide), e29, sg_gw_c _ _ _ _ _ _ (by decide), e26, sg_gw_c _ _ _ _ _ _ (by decide), e23, sg_gw_e _ _ _ _ (sg_Rg _ _ _)]
  · rw [e33, sg_gw_c _ _ _ _ _ _ (by decide), e29, sg_gw_c _ _ _ _ _ _ (by decide), e26, sg_gw_e _ _ _ _ hl]
  · rw [e33, sg_gw_c _ _ _ _ _ _ (by decide), e29, sg_gw_e _ _ _ _ (sg_Rg _ _ _)]
  · rw [e33, sg_gw_c _ _ _ _ _ _ (by decide), e29, sg_gw_c _ _ _ _ _ _ (by decide), e26, sg_gw_c _ _ _ _ _ _ (by decide), e23, sg_gw_c _ _ _ _ _ _ (by decide), e20, sg_gw_c _ _ _ _ _ _ (by decide), e17, sg_gw_k _ _ _ _ _ _ hi, e13, sg_gw_c _ _ _ _ _ _ (by decide), sg_F_ga f1 rfl]
  · rw [e33, sg_gw_c _ _ _ _ _ _ (by decide), e29, sg_gw_c _ _ _ _ _ _ (by decide), e26, sg_gw_c _ _ _ _ _ _ (by decide), e23, sg_gw_c _ _ _ _ _ _ (by decide), e20, sg_gw_k _ _ _ _ _ _ hi, e17, sg_gw_c _ _ _ _ _ _ (by decide), e13, sg_gw_c _ _ _ _ _ _ (by decide), sg_F_ga f1 rfl]
  · rw [e33, sg_gw_c _ _ _ _ _ _ (by decide), e29, sg_gw_c _ _ _ _ _ _ (by decide), e26, sg_gw_c _ _ _ _ _ _ (by decide), e23, sg_gw_k _ _ _ _ _ _ hi, e20, sg_gw_c _ _ _ _ _ _ (by decide), e17, sg_gw_c _ _ _ _ _ _ (by decide), e13, sg_gw_c _ _ _ _ _ _ (by decide), sg_F_ga f1 rfl]
  · rw [e33, sg_gw_c _ _ _ _ _ _ (by decide), e29, sg_gw_c _ _ _ _ _ _ (by decide), e26, sg_gw_k _ _ _ _ _ _ hi, e23, sg_gw_c _ _ _ _ _ _ (by decide), e20, sg_gw_c _ _ _ _ _ _ (by decide), e17, sg_gw_c _ _ _ _ _ _ (by decide), e13, sg_gw_c _ _ _ _ _ _ (by decide), sg_F_ga f1 rfl]
  · rw [e33, sg_gw_c _ _ _ _ _ _ (by decide), e29, sg_gw_k _ _ _ _ _ _ hi, e26, sg_gw_c _ _ _ _ _ _ (by decide), e23, sg_gw_c _ _ _ _ _ _ (by decide), e20, sg_gw_c _ _ _ _ _ _ (by decide), e17, sg_gw_c _ _ _ _ _ _ (by decide), e13, sg_gw_c _ _ _ _ _ _ (by decide), sg_F_ga f1 rfl]
theorem fK_new {σ : sg_S} {n b l X s al : Int} {j : Nat} {L : List Int} {sc : List (Int × Int)} {W : Int → Prop} (nw : nW A n) (h : scF σ s l X W sc) : fK A D T B lev σ n 0 b l X s s al j L sc W [] := by
  unfold fK
  split
  · rename_i k2
    obtain ⟨a, c, ea⟩ := kid2 (nw.2.2.1 (Or.inl k2))
    exact ⟨rfl, a, c, ea, Or.inl ⟨rfl, rfl, h⟩⟩
  · split
    · rename_i k3
      have l3 := nw.2.2.2.1 k3
      obtain ⟨a, c, d, ea⟩ : ∃ a c d, A.2.2.2.2.1 n = [a, c, d] := by
        match e : A.2.2.2.2.1 n, l3 with
        | [a, c, d], _ => exact ⟨a, c, d, rfl⟩
      exact ⟨a, c, d, ea, Or.inl ⟨rfl, rfl, rfl, h⟩⟩
    · split
      · rename_i k15
        have g := (nw.2.2.2.2.2.2.1 k15).1
        cases e : A.2.2.2.2.1 n with
        | nil => rw [e] at g; simp at g; omega
        | cons bd tl => exact ⟨bd, tl, rfl, Or.inl ⟨0, by omega, rfl, rfl, by simp, h⟩⟩
      · exact ⟨rfl, Or.inl ⟨0, by omega, rfl, by simp, h⟩⟩
theorem ev_B {σ : sg_S} {M j f : Nat} {x l X : Int} {L : List Int} {sc : List (Int × Int)} {Q : sg_S → Prop} (hN : fNw σ) (e0 : sg_g σ 88 73 = 0) (fm : sg_g σ 88 62 = M) (hx : stN A D T B lev j f L sc x) (hsc : scF σ (sg_g σ 88 99) l X (fun _ => False) sc) (hl : 0 ≤ l ∧ l ≤ 6000 ∧ 0 ≤ sg_g σ 88 85 + X) (hA : A.1 ≤ 200) (hK : fStk A D T B lev r σ M (sg_g σ 88 70) (T x) l X (sg_g σ 88 99) (ow lev j L)) (k : ∀ σ', (¬ sg_g σ' 88 73 = 0 ∨ (sg_g σ' 88 73 = 0 ∧ fIv A D T B lev r σ' ∧ sg_g σ' 88 84 = sg_g σ 88 84 + 1 ∧ sg_g σ' 88 62 = sg_g σ 88 62 + 1)) → Q σ') : V_flatBegin σ x l Q := by
  obtain ⟨hI, hB, n1, n2, n3⟩ := hN
  obtain ⟨i1, i2, i3, i4, i5⟩ := hI
  obtain ⟨w1, w2, w3, -⟩ := stN_w hx
  refine m_fBegin ⟨i1, i2⟩ ⟨by omega, by omega⟩ ⟨by omega, by omega⟩ ⟨by omega, by omega⟩ (fun σ' e => k σ' (Or.inl e)) (fun σ' s1 s2 s3 s4 ⟨c1, c2, c3, c4, c5⟩ co F => ?_)
  have ex : fEx σ σ' := fEx_F F rfl
  rw [fm] at c1 c2 c3 c4 c5 co
  have g99 : sg_g σ' 88 99 = sg_g σ 88 99 := sg_F_g F (by rfl)
  have g70 : sg_g σ' 88 70 = sg_g σ 88 70 := sg_F_g F (by rfl)
  have g91 : sg_g σ' 88 91 = sg_g σ 88 91 := sg_F_g F (by rfl)
  have g87 : sg_g σ' 88 87 = sg_g σ 88 87 := sg_F_g F (by rfl)
  have un : ∀ s b, und σ' s b = und σ s b := fun s b => und_F F rfl s b
  refine k σ' (Or.inr ⟨by rw [sg_F_g F (by rfl)]; exact e0, ⟨⟨⟨⟨by omega, by omega⟩, ⟨by omega, by omega⟩, ⟨by omega, by omega⟩, ⟨by omega, by omega, by omega⟩, by omega, by omega⟩, fun i a b => by rw [sg_F_ga F rfl]; exact hB i a (by omega), by omega, by omega, by omega⟩, Or.inr ⟨M, [], by omega, j, f, L, sc, X, ?_⟩⟩, s1, s4⟩)
  rw [c1, c2, c3, c4, c5, g99]
  refine ⟨n2, by simp [g70], fun i y hy => (by cases hy), hx, ⟨hl.1, hl.2.1, by omega⟩, ⟨by omega, by omega⟩, fK_new w1 (scF_up ex (by omega) (fun b _ => un _ b) (fun p _ h => h) hsc), fStk_up ex (by omega) M _ _ _ _ _ _ _ (fun i hi => ?_) (fun y _ _ => sg_F_ga F rfl) (fun s b _ _ => un s b) (fun b hb => hb) hK⟩
  obtain ⟨d1, d2, d3, d4, d5⟩ := co i (by omega)
  exact ⟨d1, d2, d3, d4, d5, sg_F_ga F rfl⟩
theorem ev_L {σ : sg_S} {m : Nat} {v X : Int} {W : Int → Prop} {Q : sg_S → Prop} (hN : fNw σ) (hr : sg_g σ 88 87 + sg_g σ 88 62 ≤ 8 * sg_g σ 88 84 + 1) (e0 : sg_g σ 88 73 = 0) (fm : sg_g σ 88 62 = m + 1) (hb : 0 ≤ sg_g σ 128 m ∧ sg_g σ 128 m ≤ sg_g σ 88 70) (hs : sg_g σ 88 99 = sg_g σ 146 m) (hK : fStk A D T B lev r σ m (sg_g σ 128 m) (T (sg_g σ 126 m)) (sg_g σ 145 m) X (sg_g σ 146 m) W) (hv : fLx σ (T (sg_g σ 126 m)).toNat (sg_g σ 145 m) (sg_g σ 88 85 + X) v) (rv : sg_R v) (k : ∀ σ', sg_g σ' 88 73 = 0 → fIv A D T B lev r σ' → sg_g σ' 88 84 = sg_g σ 88 84 → sg_g σ' 88 62 = m → Q σ') : V_flatLeave σ v Q := by
  obtain ⟨hI, hB, n1, n2, n3⟩ := hN
  have hI' := hI
  obtain ⟨i1, i2, i3, i4, i5⟩ := hI
  unfold V_flatLeave
  rw [fm, show (m : Int) + 1 - 1 = m by omega]
  refine ⟨⟨by omega, by omega⟩, fun σ2 e2 => ⟨⟨by omega, by omega⟩, fun σ6 e6 => ⟨⟨by omega, by omega⟩, fun σ10 e10 => ⟨⟨by omega, by omega⟩, fun σ14 e14 => ?_⟩⟩⟩⟩
  have F : sg_F [133, 63088, 71088] σ σ14 := by rw [e14, e10, e6, e2]; exact sg_F_w (sg_F_w (sg_F_w (sg_F_w (sg_F_r _ _) rfl _) rfl _) rfl _) rfl _
  have c62 : sg_g σ14 88 62 = m := by rw [e14, sg_gw_k _ _ _ _ _ _ (by decide), e10, sg_gw_c _ _ _ _ _ _ (by decide), e6, sg_gw_k _ _ _ _ _ _ (by decide), e2, sg_gw_e _ _ _ _ ⟨by omega, by omega⟩]
  have c70 : sg_g σ14 88 70 = sg_g σ 128 m + 1 := by rw [e14, sg_gw_e _ _ _ _ ⟨by omega, by omega⟩]
  have cv : sg_g σ14 133 (sg_g σ 128 m) = v := by rw [e14, sg_gw_c _ _ _ _ _ _ (by decide), e10, sg_gw_e _ _ _ _ rv]
  have co : ∀ x, ¬ x = sg_g σ 128 m → sg_g σ14 133 x = sg_g σ 133 x := fun x hx => by rw [e14, sg_gw_c _ _ _ _ _ _ (by decide), e10, sg_gw_k _ _ _ _ _ _ hx, e6, sg_gw_c _ _ _ _ _ _ (by decide), e2, sg_gw_c _ _ _ _ _ _ (by decide)]
  have ex : fEx σ σ14 := fEx_F F rfl
  have g84 : sg_g σ14 88 84 = sg_g σ 88 84 := sg_F_g F (by rfl)
  have g99 : sg_g σ14 88 99 = sg_g σ 88 99 := sg_F_g F (by rfl)
  have g85 : sg_g σ14 88 85 = sg_g σ 88 85 := sg_F_g F (by rfl)
  have un : ∀ s b, und σ14 s b = und σ s b := fun s b => und_F F rfl s b
  have I14 : fI σ14 := by
    unfold fI
    rw [g84, g99, sg_F_g (k := 85) F (by rfl), sg_F_g (k := 91) F (by rfl), sg_F_g (k := 87) F (by rfl), c62]
    exact ⟨i1, i2, i3, ⟨i4.1, by omega, by omega⟩, i5⟩
  have N14 : fN σ14 := ⟨I14, fun i a b => by rw [sg_F_ga F rfl]; exact hB i a (by omega), by omega, by omega, by omega⟩
  refine k σ14 (by rw [sg_F_g F (by rfl)]; exact e0) ⟨N14, ?_⟩ g84 c62
  cases m with
  | zero =>
    obtain ⟨k1, k2, k3, k4, k5⟩ := hK
    refine Or.inl ⟨by omega, ?_⟩
    rw [← k1, cv, ← k2, ← k3]
    exact fLx_up ex (by omega) hv
  | succ m =>
    obtain ⟨j, f, L, sc, tys, X', h1, h2, h3, h4, h5, h6, h7, h8, h9⟩ := hK
    have nw := (stN_w h4).1
    refine Or.inr ⟨m, tys ++ [(T (sg_g σ 126 (m + 1 : Nat)), sg_g σ 145 (m + 1 : Nat), X)], by omega, j, f, L, sc, X', ?_⟩
    rw [g99, hs, sg_F_ga (a := 128) F rfl, sg_F_ga (a := 126) F rfl, sg_F_ga (a := 127) F rfl, sg_F_ga (a := 145) F rfl, sg_F_ga (a := 146) F rfl, sg_F_ga (a := 147) F rfl]
    have v3 : vW σ14 (sg_g σ 128 m) tys := vW_up ex (by omega) (fun x a b => co x (by omega)) h3
    refine ⟨h1, by simp only [List.length_append, List.length_cons, List.length_nil]; omega, vW_x v3 (by rw [← h2]; exact cv) (fLx_up ex (by omega) hv), h4, ⟨h5.1, h5.2.1, by omega⟩, h6, fK_up nw ex (by omega) h6.2 (fun s b _ _ => un s b) (fun b hb => hb.elim) (fun z => ?_) h8, fStk_up ex (by omega) m _ _ _ _ _ _ _ (fun i hi => ⟨sg_F_ga F rfl, sg_F_ga F rfl, sg_F_ga F rfl, sg_F_ga F rfl, sg_F_ga F rfl, sg_F_ga F rfl⟩) (fun x a b => co x (by omega)) (fun s b _ _ => un s b) (fun b hb => hb) h9⟩
    have hz : 1 ≤ tys.length := by simp only [List.length_append, List.length_cons, List.length_nil] at z; omega
    refine ⟨co _ (by omega), ?_⟩
    obtain ⟨t, R, e⟩ := fK_0 nw h8 z
    cases tys with
    | nil => simp at hz
    | cons q ql =>
      simp only [List.cons_append, List.cons.injEq] at e
      obtain ⟨q1, q2, q2'⟩ := q
      have : q2 = sg_g σ 145 m := by have := congrArg (·.2.1) e.1; exact this
      rw [this] at h3
      exact ⟨_, fLx_L (vW_0 h3)⟩
end FZ
/-! goFlat: parts begun, values left. -/
section GA
variable {A : aT} {D : List aDf} {T B : Int → Int} {lev : Int → Nat} {r : Int}
theorem take_l {l X : Int} {ks : List Int} {i : Nat} {x : Int} (h : ks[i]? = some x) : (ks.take (i + 1)).map (fun x => (T x, l, X)) = (ks.take i).map (fun x => (T x, l, X)) ++ [(T x, l, X)] := by
  rw [List.take_add_one, h]; simp
theorem fK_g {σ : sg_S} {n st b l X s sv al : Int} {j : Nat} {L : List Int} {sc : List (Int × Int)} {tys : List (Int × Int × Int)} {W : Int → Prop} (h2 : ¬ A.2.1 n = 2) (h3 : ¬ A.2.1 n = 3) (h15 : ¬ A.2.1 n = 15) : fK A D T B lev σ n st b l X s sv al j L sc W tys = (sv = s ∧ ((∃ i : Nat, i ≤ (A.2.2.2.2.1 n).length ∧ st = i ∧ tys = ((A.2.2.2.2.1 n).take i).map (fun x => (T x, l, X)) ∧ scF σ s l X W sc) ∨ (A.2.1 n = 13 ∧ st = (A.2.2.2.2.1 n).length + 1 ∧ tys = [(T n, l, X)]))) := by
  unfold fK; rw [if_neg h2, if_neg h3, if_neg h15]
theorem fK_2 {σ : sg_S} {n st b l X s sv al : Int} {j : Nat} {L : List Int} {sc : List (Int × Int)} {tys : List (Int × Int × Int)} {W : Int → Prop} (h2 : A.2.1 n = 2) : fK A D T B lev σ n st b l X s sv al j L sc W tys = (sv = s ∧ ∃ a c, A.2.2.2.2.1 n = [a, c] ∧ ((st = 0 ∧ tys = [] ∧ scF σ s l X W sc) ∨ (st = 1 ∧ tys = [(T a, l, X)] ∧ scF σ s l X W sc) ∨ (st = 2 ∧ tys = [(T c, l, X)]))) := by
  unfold fK; rw [if_pos h2]
/-- a frame goes to its next part -/
theorem ev_next {σ σ3 : sg_S} {m j f j' f' : Nat} {x st' l' X X' : Int} {tys' : List (Int × Int × Int)} {L L' : List Int} {sc sc' : List (Int × Int)} {Q : sg_S → Prop} {fl : List Nat} (F : sg_F fl σ σ3) (hfl : (sg_ca fl 126 && sg_ca fl 128 && sg_ca fl 145 && sg_ca fl 146 && !sg_cv fl 88 62 && !sg_cv fl 88 73) = true) (ex : fEx σ σ3) (N3 : fNw σ3) (e0 : sg_g σ 88 73 = 0) (fm : sg_g σ 88 62 = m + 1) (r127 : ∀ i : Nat, i < m → sg_g σ3 127 i = sg_g σ 127 i) (r147 : ∀ i : Nat, i < m → sg_g σ3 147 i = sg_g σ 147 i) (e127 : sg_g σ3 127 m = st') (h0 : 0 ≤ sg_g σ 128 m) (h70 : sg_g σ3 88 70 = sg_g σ 128 m + tys'.length) (hv : ∀ y, 0 ≤ y → y < sg_g σ 128 m → sg_g σ3 133 y = sg_g σ 133 y) (hW : vW σ3 (sg_g σ 128 m) tys') (hst : stN A D T B lev j f L sc (sg_g σ 126 m)) (h145 : 0 ≤ sg_g σ 145 m ∧ sg_g σ 145 m ≤ 6000 ∧ 0 ≤ sg_g σ 88 85 + X) (h146 : 0 ≤ sg_g σ 146 m ∧ sg_g σ 146 m ≤ sg_g σ3 88 99) (hK : fStk A D T B lev r σ m (sg_g σ 128 m) (T (sg_g σ 126 m)) (sg_g σ 145 m) X (sg_g σ 146 m) (ow lev j L)) (hu : ∀ s b, s ≤ sg_g σ 146 m → ¬ ow lev j L b → und σ3 s b = und σ s b) (hx : stN A D T B lev j' f' L' sc' x) (hxs : ∀ b, ow lev j' L' b → ow lev j L b) (hsc : scF σ3 (sg_g σ3 88 99) l' X' (fun _ => False) sc') (hl' : 0 ≤ l' ∧ l' ≤ 6000 ∧ 0 ≤ sg_g σ3 88 85 + X') (hA : A.1 ≤ 200) (hF : fK A D T B lev σ3 (sg_g σ 126 m) st' (sg_g σ 128 m) (sg_g σ 145 m) X (sg_g σ 146 m) (sg_g σ3 88 99) (sg_g σ3 147 m) j L sc (ow lev j' L') (tys' ++ [(T x, l', X')])) (h84 : sg_g σ 88 84 ≤ sg_g σ3 88 84) (h85 : sg_g σ 88 85 ≤ sg_g σ3 88 85) (k : ∀ σ', fQ A D T B lev r σ σ' → Q σ') : V_flatBegin σ3 x l' Q := by
  simp only [Bool.and_eq_true, Bool.not_eq_true'] at hfl
  obtain ⟨⟨⟨⟨⟨l1, l2⟩, l3⟩, l4⟩, l5⟩, l6⟩ := hfl
  have g62 : sg_g σ3 88 62 = (m + 1 : Nat) := by rw [sg_F_g F l5, fm]; rfl
  refine ev_B (r := r) (M := m + 1) N3 (by rw [sg_F_g F l6]; exact e0) g62 hx hsc hl' hA ?_ (fun σ' h => k σ' ?_)
  · refine ⟨j, f, L, sc, tys', X, ?_⟩
    rw [sg_F_ga (a := 128) F l2, sg_F_ga (a := 126) F l1, sg_F_ga (a := 145) F l3, sg_F_ga (a := 146) F l4, e127]
    refine ⟨h0, h70, hW, hst, ⟨h145.1, h145.2.1, by omega⟩, h146, hxs, hF, fStk_up ex h85 m _ _ _ _ _ _ _ (fun i hi => ⟨sg_F_ga F l1, r127 i hi, sg_F_ga F l2, sg_F_ga F l3, sg_F_ga F l4, r147 i hi⟩) hv hu (fun b hb => hb) hK⟩
  · rcases h with h | ⟨h1, h2, h3, h4⟩
    · exact Or.inl h
    · refine Or.inr ⟨h1, h2, ?_⟩
      unfold fM
      rw [h4, sg_F_g F l5]
      omega
end GA
