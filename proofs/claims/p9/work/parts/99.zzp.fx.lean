/-! what is bound, seen below the saved; restore, carried, listWhere. -/
def undA (σ : sg_S) (b : Int) : Int → Nat → Int
  | _, 0 => sg_g σ 134 b
  | s, n + 1 => if sg_g σ 148 s = b then sg_g σ 149 s else undA σ b (s + 1) n
/-- what b is bound to once all saved from s on is put back -/
def und (σ : sg_S) (s b : Int) : Int := undA σ b s (sg_g σ 88 99 - s).toNat
def sB (σ : sg_S) : Prop := ∀ i, 0 ≤ i → i < sg_g σ 88 99 → 0 ≤ sg_g σ 148 i ∧ sg_g σ 148 i < 1200
theorem undA_e {σ σ' : sg_S} {b : Int} : ∀ {n : Nat} {s : Int}, (∀ i, s ≤ i → i < s + n → sg_g σ' 148 i = sg_g σ 148 i ∧ sg_g σ' 149 i = sg_g σ 149 i) → sg_g σ' 134 b = sg_g σ 134 b → undA σ' b s n = undA σ b s n
  | 0, s, _, h => h
  | n + 1, s, h1, h => by
    obtain ⟨a1, a2⟩ := h1 s (by omega) (by omega)
    simp only [undA]
    rw [a1, a2, undA_e (n := n) (s := s + 1) (fun i x y => h1 i (by omega) (by omega)) h]
theorem und_F {l : List Nat} {σ σ' : sg_S} (F : sg_F l σ σ') (hl : (!sg_cv l 88 99 && sg_ca l 134 && sg_ca l 148 && sg_ca l 149) = true) (s b : Int) : und σ' s b = und σ s b := by
  simp only [Bool.and_eq_true, Bool.not_eq_true'] at hl
  unfold und
  rw [sg_F_g F hl.1.1.1]
  exact undA_e (fun i _ _ => ⟨sg_F_ga F hl.1.2, sg_F_ga F hl.2⟩) (sg_F_ga F hl.1.1.2)
theorem und_w {σ σ' : sg_S} {b0 s b : Int} {l : List Nat} (F : sg_F l σ σ') (hl : (!sg_cv l 88 99 && sg_ca l 148 && sg_ca l 149) = true) (h : sg_g σ' 134 b = sg_g σ 134 b) : und σ' s b = und σ s b := by
  simp only [Bool.and_eq_true, Bool.not_eq_true'] at hl
  unfold und
  rw [sg_F_g F hl.1.1]
  exact undA_e (fun i _ _ => ⟨sg_F_ga F hl.1.2, sg_F_ga F hl.2⟩) h
theorem und_top {σ : sg_S} {b : Int} : und σ (sg_g σ 88 99) b = sg_g σ 134 b := by
  unfold und
  rw [show (sg_g σ 88 99 - sg_g σ 88 99).toNat = 0 by omega]
  rfl
theorem undA_push {σ σ' : sg_S} {b b0 : Int} : ∀ {n : Nat} {s : Int}, (∀ i, s ≤ i → i < s + n → sg_g σ' 148 i = sg_g σ 148 i ∧ sg_g σ' 149 i = sg_g σ 149 i) → sg_g σ' 148 (s + n) = b0 → sg_g σ' 149 (s + n) = sg_g σ 134 b0 → (¬ b = b0 → sg_g σ' 134 b = sg_g σ 134 b) → undA σ' b s (n + 1) = undA σ b s n
  | 0, s, _, h1, h2, h3 => by
    rw [show s + ((0 : Nat) : Int) = s by omega] at h1 h2
    simp only [undA]
    rw [h1, h2]
    by_cases c : b0 = b
    · rw [if_pos c, c]
    · rw [if_neg c]; exact h3 (fun e => c e.symm)
  | n + 1, s, h, h1, h2, h3 => by
    obtain ⟨a1, a2⟩ := h s (by omega) (by omega)
    have ih := undA_push (n := n) (s := s + 1) (b0 := b0) (fun i x y => h i (by omega) (by omega)) (by rw [← h1]; congr 1; omega) (by rw [← h2]; congr 1; omega) h3
    show (if sg_g σ' 148 s = b then sg_g σ' 149 s else undA σ' b (s + 1) (n + 1)) = (if sg_g σ 148 s = b then sg_g σ 149 s else undA σ b (s + 1) n)
    rw [a1, a2, ih]
theorem und_push {σ σ' : sg_S} {s b b0 : Int} (hs : s ≤ sg_g σ 88 99) (h : ∀ i, i < sg_g σ 88 99 → sg_g σ' 148 i = sg_g σ 148 i ∧ sg_g σ' 149 i = sg_g σ 149 i) (h1 : sg_g σ' 148 (sg_g σ 88 99) = b0) (h2 : sg_g σ' 149 (sg_g σ 88 99) = sg_g σ 134 b0) (h3 : ¬ b = b0 → sg_g σ' 134 b = sg_g σ 134 b) (h4 : sg_g σ' 88 99 = sg_g σ 88 99 + 1) : und σ' s b = und σ s b := by
  unfold und
  rw [h4, show (sg_g σ 88 99 + 1 - s).toNat = (sg_g σ 88 99 - s).toNat + 1 by omega]
  have e : s + (((sg_g σ 88 99 - s).toNat : Nat) : Int) = sg_g σ 88 99 := by omega
  exact undA_push (b0 := b0) (fun i x y => h i (by omega)) (by rw [e]; exact h1) (by rw [e]; exact h2) h3
theorem und_pop {σ σ' : sg_S} {s b b0 : Int} (hs : s < sg_g σ 88 99) (h : ∀ i, sg_g σ' 148 i = sg_g σ 148 i ∧ sg_g σ' 149 i = sg_g σ 149 i) (h1 : sg_g σ 148 (sg_g σ 88 99 - 1) = b0) (h2 : sg_g σ' 134 b0 = sg_g σ 149 (sg_g σ 88 99 - 1)) (h3 : ¬ b = b0 → sg_g σ' 134 b = sg_g σ 134 b) (h4 : sg_g σ' 88 99 = sg_g σ 88 99 - 1) : und σ' s b = und σ s b := by
  refine (und_push (b0 := b0) (by omega) (fun i _ => ⟨(h i).1.symm, (h i).2.symm⟩) (by rw [h4]; exact h1) (by rw [h4]; exact h2.symm) (fun c => (h3 c).symm) (by omega)).symm
section FX
variable {σ : sg_S}
theorem m_restore {to : Int} {Q : sg_S → Prop} (h0 : 0 ≤ to ∧ to ≤ sg_g σ 88 99 ∧ sg_g σ 88 99 ≤ 12000) (hB : sB σ) (k : ∀ σ', sg_g σ' 88 99 = to → (∀ s b, s ≤ to → und σ' s b = und σ s b) → sB σ' → sg_F [134, 100088] σ σ' → Q σ') : V_restore σ to Q := by
  unfold V_restore
  refine ⟨fun n σ1 => n = (sg_g σ1 88 99 - to).toNat ∧ (to ≤ sg_g σ1 88 99 ∧ sg_g σ1 88 99 ≤ sg_g σ 88 99) ∧ ∀ s b, s ≤ to → und σ1 s b = und σ s b, fun σ1 => sg_g σ1 88 99 = to ∧ ∀ s b, s ≤ to → und σ1 s b = und σ s b, ⟨_, rfl, ⟨by omega, by omega⟩, fun s b _ => rfl⟩, ?_, fun σ1 f1 ⟨p1, p2⟩ => k σ1 p1 p2 (fun i x y => by rw [sg_F_ga f1 rfl]; exact hB i x (by omega)) f1⟩
  rintro n σ1 f1 ⟨en, h1, h2⟩
  refine ⟨fun z => ⟨by omega, h2⟩, fun z => ⟨⟨by omega, by omega⟩, fun σ2 e2 => ⟨⟨by omega, by omega⟩, hB _ (by omega) (by omega), fun σ3 e3 => ?_⟩⟩⟩
  have c99 : sg_g σ3 88 99 = sg_g σ1 88 99 - 1 := by rw [e3, sg_gw_c _ _ _ _ _ _ (by decide), e2, sg_gw_e _ _ _ _ ⟨by omega, by omega⟩]
  have e148 : ∀ i, sg_g σ1 148 i = sg_g σ 148 i := fun i => sg_F_ga f1 rfl
  have e149 : ∀ i, sg_g σ1 149 i = sg_g σ 149 i := fun i => sg_F_ga f1 rfl
  refine ⟨_, by omega, rfl, ⟨by omega, by omega⟩, fun s b hs => ?_⟩
  rw [← h2 s b hs]
  refine und_pop (b0 := sg_g σ 148 (sg_g σ1 88 99 - 1)) (by omega) (fun i => ?_) (e148 _) ?_ (fun c => ?_) c99
  · rw [e3, sg_gw_c _ _ _ _ _ _ (by decide), sg_gw_c _ _ _ _ _ _ (by decide), e2, sg_gw_c _ _ _ _ _ _ (by decide), sg_gw_c _ _ _ _ _ _ (by decide)]
    exact ⟨rfl, rfl⟩
  · rw [e3, sg_gw_e _ _ _ _ (sg_Rg _ _ _), e149]
  · rw [e3, sg_gw_k _ _ _ _ _ _ c, e2, sg_gw_c _ _ _ _ _ _ (by decide)]
/-- counters of a flat run -/
def fI (σ : sg_S) : Prop := (0 ≤ sg_g σ 88 84 ∧ sg_g σ 88 84 ≤ 2000) ∧ (0 ≤ sg_g σ 88 85 ∧ sg_g σ 88 85 ≤ 6000) ∧ (0 ≤ sg_g σ 88 91 ∧ sg_g σ 88 91 ≤ 2 * sg_g σ 88 85) ∧ (0 ≤ sg_g σ 88 87 ∧ 0 ≤ sg_g σ 88 62 ∧ sg_g σ 88 87 + sg_g σ 88 62 ≤ 8 * sg_g σ 88 84) ∧ 0 ≤ sg_g σ 88 99 ∧ sg_g σ 88 99 ≤ sg_g σ 88 84
/-- the same, with room for a few values more -/
def fIw (σ : sg_S) : Prop := (0 ≤ sg_g σ 88 84 ∧ sg_g σ 88 84 ≤ 2000) ∧ (0 ≤ sg_g σ 88 85 ∧ sg_g σ 88 85 ≤ 6000) ∧ (0 ≤ sg_g σ 88 91 ∧ sg_g σ 88 91 ≤ 2 * sg_g σ 88 85) ∧ (0 ≤ sg_g σ 88 87 ∧ 0 ≤ sg_g σ 88 62 ∧ sg_g σ 88 87 + sg_g σ 88 62 ≤ 8 * sg_g σ 88 84 + 6) ∧ 0 ≤ sg_g σ 88 99 ∧ sg_g σ 88 99 ≤ sg_g σ 88 84
theorem m_carried {O : List Int} {Λ N : Int} {ty : Int → Nat} {Q : Int → sg_S → Prop} (hI : fI σ) (hB : sB σ) (hO : oR σ O) (hl : O.length ≤ 200) (hv : ∀ b ∈ O, fL σ (ty b) Λ (sg_g σ 134 b)) (hln : lO σ N Λ) (hN : N ≤ 6000) (k0 : ∀ σ', ¬ sg_g σ' 88 73 = 0 → Q 0 σ') (k1 : ∀ σ', fI σ' → sB σ' → fEx σ σ' → (∀ b ∈ O, fLx σ' (ty b) N (sg_g σ' 88 85 - sg_g σ 88 85) (sg_g σ' 134 b)) → (∀ b, b ∉ O → sg_g σ' 134 b = sg_g σ 134 b) → (∀ s b, s ≤ sg_g σ 88 99 → und σ' s b = und σ s b) → sg_g σ 88 99 ≤ sg_g σ' 88 99 → sg_g σ 88 84 ≤ sg_g σ' 88 84 ∧ sg_g σ 88 85 ≤ sg_g σ' 88 85 → sg_g σ' 88 73 = sg_g σ 88 73 → sg_F [134, 139, 140, 141, 142, 144, 148, 149, 85088, 86088, 88088, 92088, 100088] σ σ' → Q 1 σ') : V_carried σ Q := by
  obtain ⟨o1, o2, o3, o4⟩ := hO
  unfold V_carried
  rw [o1]
  refine ⟨fun n v σ2 => n = (O.length - v).toNat ∧ (0 ≤ v ∧ v ≤ O.length) ∧ (fI σ2 ∧ sB σ2 ∧ fEx σ σ2) ∧ (∀ b ∈ O.take v.toNat, fLx σ2 (ty b) N (sg_g σ2 88 85 - sg_g σ 88 85) (sg_g σ2 134 b)) ∧ (∀ b, b ∉ O.take v.toNat → sg_g σ2 134 b = sg_g σ 134 b) ∧ (∀ s b, s ≤ sg_g σ 88 99 → und σ2 s b = und σ s b) ∧ (sg_g σ 88 99 ≤ sg_g σ2 88 99 ∧ sg_g σ 88 84 ≤ sg_g σ2 88 84 ∧ sg_g σ 88 85 ≤ sg_g σ2 88 85) ∧ sg_F [134, 139, 140, 141, 142, 144, 148, 149, 85088, 86088, 88088, 92088, 100088] σ σ2, fun σ2 => (fI σ2 ∧ sB σ2 ∧ fEx σ σ2) ∧ (∀ b ∈ O, fLx σ2 (ty b) N (sg_g σ2 88 85 - sg_g σ 88 85) (sg_g σ2 134 b)) ∧ (∀ b, b ∉ O → sg_g σ2 134 b = sg_g σ 134 b) ∧ (∀ s b, s ≤ sg_g σ 88 99 → und σ2 s b = und σ s b) ∧ (sg_g σ 88 99 ≤ sg_g σ2 88 99 ∧ sg_g σ 88 84 ≤ sg_g σ2 88 84 ∧ sg_g σ 88 85 ≤ sg_g σ2 88 85) ∧ sg_F [134, 139, 140, 141, 142, 144, 148, 149, 85088, 86088, 88088, 92088, 100088] σ σ2, ⟨_, rfl, ⟨by omega, by omega⟩, ⟨hI, hB, fEx_r σ⟩, fun b hb => by simp at hb, fun b _ => rfl, fun s b _ => rfl, ⟨by omega, by omega, by omega⟩, sg_F_r _ _⟩, ?_, fun σ2 f2 ⟨⟨p1, p2, p3⟩, p4, p5, p6, p7, p8⟩ => k1 σ2 p1 p2 p3 p4 p5 p6 p7.1 p7.2 (sg_F_g p8 (by rfl)) p8⟩
  rintro n v σ2 rv - ⟨en, hv', ⟨p1, p2, p3⟩, p4, p5, p6, p7, p8⟩
  refine ⟨fun z => ?_, fun z => ?_⟩
  · rw [List.take_of_length_le (by omega)] at p4 p5
    exact ⟨⟨p1, p2, p3⟩, p4, p5, p6, p7, p8⟩
  obtain ⟨b, hb⟩ : ∃ q, O[v.toNat]? = some q := ⟨_, List.getElem?_eq_getElem (by omega)⟩
  have bO := List.mem_of_getElem? hb
  have eb := o2 v.toNat b hb
  rw [show ((v.toNat : Nat) : Int) = v by omega] at eb
  have tk : O.take (v + 1).toNat = O.take v.toNat ++ [b] := by
    rw [show (v + 1).toNat = v.toNat + 1 by omega, List.take_add_one, hb]; rfl
  have bn : b ∉ O.take v.toNat := fun w => by
    have nd := o3
    rw [← List.take_append_drop v.toNat O, List.nodup_append] at nd
    have : b ∈ O.drop v.toNat := by
      rw [List.mem_iff_getElem?]
      exact ⟨0, by rw [List.getElem?_drop]; exact hb⟩
    exact nd.2.2 b w b this rfl
  rw [eb, p5 b bn]
  have fb := fL_up p3 (hv b bO)
  obtain ⟨r, R, hR, lR, rL⟩ := fL_c fb
  have vR : sg_R (sg_g σ 134 b) := sg_Rg _ _ _
  have ln2 : lO σ2 N Λ := lO_F p8 rfl hln
  have lo : lnO σ2 (r :: R) := lnO_of ln2 (by omega) rL.symm
  have h93 := ln2.1
  have N0 := ln2.2.1
  obtain ⟨i1, i2, i3, i4, i5⟩ := p1
  refine ⟨⟨by omega, by omega⟩, o4 b bO, m_extL hR ⟨by decide, by decide⟩ ⟨by omega, by omega⟩ lo (fun t σ3 et f3 rt _ => ?_)⟩
  have R4 := hR.2.1.2
  have t0 : 0 ≤ t := by rw [et]; exact gT_b hR.2.2.2.2 lo (by decide) (by omega) (Nat.le_refl _)
  have tb : t ≤ 312000000 := by rw [et]; exact gT_u hR.2.2.2.2 lo R4 (by omega)
  have g84 : sg_g σ3 88 84 = sg_g σ2 88 84 := sg_F_g f3 (by rfl)
  have g85 : sg_g σ3 88 85 = sg_g σ2 88 85 := sg_F_g f3 (by rfl)
  refine m_stepped ⟨by omega, by omega⟩ ⟨by omega, by omega⟩ (fun σ' e _ _ => ⟨fun z => absurd rfl z, fun _ => k0 _ e⟩) (fun σ4 f4 s1 s2 s3 s4 _ _ => ⟨fun _ => ⟨⟨by omega, by omega⟩, fun σ5 e5 σ6 e6 => ⟨⟨by omega, by omega⟩, fun σ7 e7 => ?_⟩⟩, fun z => by omega⟩)
  have f34 : sg_F [144, 85088, 86088] σ2 σ4 := sg_F_t (sg_F_m f3 rfl) (sg_F_m f4 rfl)
  have f47 : sg_F [148, 149, 100088] σ4 σ7 := by rw [e7, e6, e5]; exact sg_F_w (sg_F_w (sg_F_w (sg_F_r _ _) rfl _) rfl _) rfl _
  have F7 : sg_F [144, 148, 149, 85088, 86088, 100088] σ2 σ7 := sg_F_t (sg_F_m f34 rfl) (sg_F_m f47 rfl)
  have g91 : sg_g σ7 88 91 = sg_g σ2 88 91 := sg_F_g F7 (by rfl)
  have g87 : sg_g σ7 88 87 = sg_g σ2 88 87 := sg_F_g F7 (by rfl)
  have g93 : sg_g σ7 88 93 = N := by rw [sg_F_g F7 (by rfl)]; exact h93
  have fv7 := fV_up (fEx_F F7 rfl) hR
  have lo7 : lnO σ7 (r :: R) := lnO_of (lO_F F7 rfl ln2) (by omega) rL.symm
  have et7 : gT σ7 (r :: R) (sg_g σ7 88 93).toNat (r :: R).length = t := by rw [et, gT_F F7 rfl rfl, g93, h93]
  have gl : ∀ l, l < (r :: R).length → gsum σ7 (r :: R) l (sg_g σ7 88 93).toNat ≤ 6000 := fun l h => by
    have a1 := gT_l fv7.2.2.2.2 lo7 (by decide) (j := (sg_g σ7 88 93).toNat) (by omega) h
    have a2 := gT_b fv7.2.2.2.2 lo7 (by decide) (j := (sg_g σ7 88 93).toNat) (by omega) (l := l) (by omega)
    omega
  refine m_gath fv7 ⟨by decide, by decide⟩ (by omega) ⟨by omega, by omega⟩ lo7 (by omega) (fun w σ8 ew ex8 fv8 e87 e91 f8 rw' _ σ9 e9 => ?_)
  obtain ⟨r0, R0, er, er2, el⟩ := gR_c (σ := σ7) (R := r :: R) (by simp)
  have f9 : sg_F [134] σ8 σ9 := by rw [e9]; exact sg_F_w (sg_F_r _ _) rfl _
  have F9 : sg_F [134, 139, 140, 141, 142, 144, 148, 149, 85088, 86088, 88088, 92088, 100088] σ2 σ9 := sg_F_t (sg_F_m F7 rfl) (sg_F_t (sg_F_m f8 rfl) (sg_F_m f9 rfl))
  have ex9 : fEx σ2 σ9 := fEx_t (fEx_F F7 rfl) (fEx_t ex8 (fEx_F f9 rfl))
  have h84 : sg_g σ9 88 84 = sg_g σ2 88 84 + 1 := by rw [sg_F_g f9 (by rfl), sg_F_g f8 (by rfl), sg_F_g f47 (by rfl)]; omega
  have h85 : sg_g σ9 88 85 = sg_g σ2 88 85 + t := by rw [sg_F_g f9 (by rfl), sg_F_g f8 (by rfl), sg_F_g f47 (by rfl)]; omega
  have h91 : sg_g σ9 88 91 = sg_g σ2 88 91 + t := by rw [sg_F_g f9 (by rfl)]; omega
  have h87 : sg_g σ9 88 87 = sg_g σ2 88 87 + 1 := by rw [sg_F_g f9 (by rfl)]; omega
  have h62 : sg_g σ9 88 62 = sg_g σ2 88 62 := sg_F_g F9 (by rfl)
  have h99 : sg_g σ9 88 99 = sg_g σ2 88 99 + 1 := by rw [sg_F_g f9 (by rfl), sg_F_g f8 (by rfl), e7, sg_gw_e _ _ _ _ ⟨by omega, by omega⟩]
  have c148 : ∀ i, sg_g σ9 148 i = sg_g σ7 148 i := fun i => by rw [sg_F_ga f9 rfl, sg_F_ga f8 rfl]
  have c149 : ∀ i, sg_g σ9 149 i = sg_g σ7 149 i := fun i => by rw [sg_F_ga f9 rfl, sg_F_ga f8 rfl]
  have c134 : ∀ u, ¬ u = b → sg_g σ9 134 u = sg_g σ2 134 u := fun u hu => by rw [e9, sg_gw_k _ _ _ _ _ _ hu, sg_F_ga f8 rfl, sg_F_ga F7 rfl]
  have s148 : sg_g σ7 148 (sg_g σ2 88 99) = b := by rw [e7, sg_gw_c _ _ _ _ _ _ (by decide), e6, sg_gw_c _ _ _ _ _ _ (by decide), e5, sg_gw_e _ _ _ _ ⟨by have := (o4 b bO).1; omega, by have := (o4 b bO).2; omega⟩]
  have s149 : sg_g σ7 149 (sg_g σ2 88 99) = sg_g σ 134 b := by rw [e7, sg_gw_c _ _ _ _ _ _ (by decide), e6, sg_gw_e _ _ _ _ vR]
  have o148 : ∀ i, ¬ i = sg_g σ2 88 99 → sg_g σ7 148 i = sg_g σ2 148 i := fun i hi => by rw [e7, sg_gw_c _ _ _ _ _ _ (by decide), e6, sg_gw_c _ _ _ _ _ _ (by decide), e5, sg_gw_k _ _ _ _ _ _ hi, sg_F_ga f34 rfl]
  have o149 : ∀ i, ¬ i = sg_g σ2 88 99 → sg_g σ7 149 i = sg_g σ2 149 i := fun i hi => by rw [e7, sg_gw_c _ _ _ _ _ _ (by decide), e6, sg_gw_k _ _ _ _ _ _ hi, e5, sg_gw_c _ _ _ _ _ _ (by decide), sg_F_ga f34 rfl]
  have vb : sg_g σ9 134 b = w := by rw [e9, sg_gw_e _ _ _ _ rw']
  refine ⟨⟨by omega, by omega⟩, _, by omega, rfl, ⟨by omega, by omega⟩, ⟨⟨⟨by omega, by omega⟩, ⟨by omega, by omega⟩, ⟨by omega, by omega⟩, ⟨by omega, by omega, by omega⟩, by omega, by omega⟩, fun i x y => ?_, fEx_t p3 ex9⟩, fun u hu => ?_, fun u hu => ?_, fun s u hs => ?_, ⟨by omega, by omega, by omega⟩, sg_F_t p8 F9⟩
  · rw [c148]
    by_cases c : i = sg_g σ2 88 99
    · rw [c, s148]; exact o4 b bO
    · rw [o148 i c]; exact p2 i x (by omega)
  · rw [tk] at hu
    rcases List.mem_append.mp hu with q | q
    · have ub : ¬ u = b := fun e => bn (by rw [← e]; exact q)
      rw [c134 u ub]
      exact fLx_up ex9 (by omega) (p4 u q)
    · have : u = b := by simpa using q
      rw [this, vb]
      refine fLx_up (fEx_F f9 rfl) (c := t) (by omega) ⟨_, fv8 6000 gl, ?_, ?_, by rw [eX_g]; omega⟩
      · rw [er]; simp only [List.length_cons] at el ⊢; omega
      · rw [er, List.getD_cons_zero, er2, g93]; omega
  · rw [tk] at hu
    have u1 : u ∉ O.take v.toNat := fun q => hu (by simp [q])
    have u2 : ¬ u = b := fun q => hu (by simp [q])
    rw [c134 u u2]; exact p5 u u1
  · rw [← p6 s u hs]
    exact und_push (b0 := b) (by omega) (fun i hi => ⟨by rw [c148, o148 i (by omega)], by rw [c149, o149 i (by omega)]⟩) (by rw [c148]; exact s148) (by rw [c149, s149, p5 b bn]) (fun c => c134 u c) h99
/-- how many of n cells are not 0 -/
def cw (σ : sg_S) (p : Int) : Nat → Int
  | 0 => 0
  | i + 1 => cw σ p i + (if sg_g σ 142 (p + i) = 0 then 0 else 1)
theorem cw_b {p : Int} : ∀ n : Nat, 0 ≤ cw σ p n ∧ cw σ p n ≤ n
  | 0 => ⟨Int.le_refl _, Int.le_refl _⟩
  | n + 1 => by
    have := cw_b (p := p) n
    simp only [cw]
    split <;> omega
theorem cw_e {σ' : sg_S} {p : Int} : ∀ {n : Nat}, (∀ j : Nat, j < n → sg_g σ' 142 (p + j) = sg_g σ 142 (p + j)) → cw σ' p n = cw σ p n
  | 0, _ => rfl
  | n + 1, h => by
    simp only [cw]
    rw [cw_e (n := n) (fun j x => h j (by omega)), h n (by omega)]
theorem cw_s {p x : Int} (h : 0 ≤ x) : cw σ p (x + 1).toNat = cw σ p x.toNat + (if sg_g σ 142 (p + x) = 0 then 0 else 1) := by
  rw [show (x + 1).toNat = x.toNat + 1 by omega]
  simp only [cw]
  rw [show ((x.toNat : Nat) : Int) = x by omega]
theorem m_where {v is : Int} {r : Int × Int} {R : List (Int × Int)} {Q : sg_S → Prop} (hv : fV σ 6000 v (r :: R)) (hc : sg_g σ 88 91 ≤ 60000 ∧ sg_g σ 88 87 ≤ 30000) (hi : is = 0 ∨ is = 1) (k : ∀ σ', lO σ' (if is = 1 then cw σ r.1 r.2.toNat else r.2 - cw σ r.1 r.2.toNat) r.2 → sg_F [143, 94088] σ σ' → Q σ') : V_listWhere σ v is Q := by
  have z0 := fV_0 hv
  have vb := hv.1
  obtain ⟨w1, w2, w3, w4⟩ := hv.2.2.2.2.1
  have vl : v_lanesOf σ v = r.2 := by unfold v_lanesOf; exact z0.2
  unfold V_listWhere
  intro σ1 e1
  have f1 : sg_F [94088] σ σ1 := by rw [e1]; exact sg_F_w (sg_F_r _ _) rfl _
  rw [vl]
  refine ⟨fun n x σ5 => n = (r.2 - x).toNat ∧ (0 ≤ x ∧ x ≤ r.2) ∧ lO σ5 (if is = 1 then cw σ r.1 x.toNat else x - cw σ r.1 x.toNat) r.2, fun σ5 => lO σ5 (if is = 1 then cw σ r.1 r.2.toNat else r.2 - cw σ r.1 r.2.toNat) r.2, ⟨_, rfl, ⟨by omega, by omega⟩, ?_⟩, ?_, fun σ5 f5 h5 => k σ5 h5 (sg_F_t (sg_F_m f1 rfl) f5)⟩
  · have : (if is = 1 then cw σ r.1 (0 : Int).toNat else 0 - cw σ r.1 (0 : Int).toNat) = 0 := by split <;> rfl
    rw [this]; exact lO_0 e1
  · rintro n x σ5 rx f5 ⟨en, hx, h5⟩
    refine ⟨⟨⟨by omega, by omega⟩, ⟨by omega, by omega⟩, trivial⟩, fun z => by rw [show r.2 = x by omega] at h5 ⊢; exact h5, fun z => ?_⟩
    obtain ⟨pa, va⟩ := pR hv hc (i := x) ⟨by omega, by omega⟩
    rw [va]
    have cb := cw_b (σ := σ) (p := r.1) x.toNat
    have css := cw_s (σ := σ) (p := r.1) hx.1
    refine ⟨pa, fun v26 e26 r26 => ⟨fun σ6 => lO σ6 (if is = 1 then cw σ r.1 (x + 1).toNat else x + 1 - cw σ r.1 (x + 1).toNat) r.2, ⟨fun c => ?_, fun c => m_list h5 ?_ rx z (fun σ6 h6 f6 => ?_)⟩, fun σ6 f6 h6 => ⟨⟨by omega, by omega⟩, _, by omega, rfl, ⟨by omega, by omega⟩, h6⟩⟩⟩
    · have : (if is = 1 then cw σ r.1 (x + 1).toNat else x + 1 - cw σ r.1 (x + 1).toNat) = (if is = 1 then cw σ r.1 x.toNat else x - cw σ r.1 x.toNat) := by
        rw [css]
        rcases hi with e | e <;> rw [e] at c ⊢ <;> split at e26 <;> simp <;> omega
      rw [this]; exact h5
    · split <;> omega
    · have : (if is = 1 then cw σ r.1 (x + 1).toNat else x + 1 - cw σ r.1 (x + 1).toNat) = (if is = 1 then cw σ r.1 x.toNat else x - cw σ r.1 x.toNat) + 1 := by
        rw [css]
        rcases hi with e | e <;> rw [e] at c ⊢ <;> split at e26 <;> simp <;> omega
      rw [this]; exact h6
end FX
