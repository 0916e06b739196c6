/-! extentOfLanes, gathered: the parts of listed lanes. -/
section FLC
variable (σ : sg_S) (R : List (Int × Int))
/-- what the lane listed j-th has in row l -/
def gd (l j : Nat) : Int := if sg_g σ 143 j < 0 then (if l = 0 then 1 else 0) else bg σ R l (sg_g σ 143 j + 1) - bg σ R l (sg_g σ 143 j)
def gsum (l : Nat) : Nat → Int
  | 0 => 0
  | j + 1 => gsum l j + gd σ R l j
/-- of the lane listed j-th, rows before l -/
def eT (j : Nat) : Nat → Int
  | 0 => 0
  | l + 1 => eT j l + gd σ R l j
/-- of J listed lanes, rows before l -/
def gT (J : Nat) : Nat → Int
  | 0 => 0
  | l + 1 => gT J l + gsum σ R l J
def lnO : Prop := (0 ≤ sg_g σ 88 93 ∧ sg_g σ 88 93 ≤ 13000) ∧ ∀ j, 0 ≤ j → j < sg_g σ 88 93 → sg_g σ 143 j < (R.getD 0 (0, 0)).2
end FLC
section FLD
variable {σ : sg_S} {M : Int} {R : List (Int × Int)}
theorem fCh_L (h : fCh σ M R) (hR : 1 ≤ R.length) : 0 ≤ (R.getD 0 (0, 0)).2 ∧ (R.getD 0 (0, 0)).2 ≤ M := by
  obtain ⟨r, hr⟩ : ∃ q, R[0]? = some q := ⟨_, List.getElem?_eq_getElem hR⟩
  rw [List.getD_eq_getElem?_getD, hr]
  obtain ⟨b1, b2, b3, b4⟩ := (fCh_at h hr).1
  exact ⟨b2, b3⟩
theorem gT_s (j : Nat) : ∀ l, gT σ R (j + 1) l = gT σ R j l + eT σ R j l
  | 0 => rfl
  | l + 1 => by simp only [gT, eT, gsum]; rw [gT_s j l]; omega
theorem gT_z : ∀ l, gT σ R 0 l = 0
  | 0 => rfl
  | l + 1 => by simp only [gT, gsum]; rw [gT_z l]; rfl
theorem gd_b (h : fCh σ M R) (hl : lnO σ R) {l j : Nat} (lR : l < R.length) (hj : (j : Int) < sg_g σ 88 93) (hM : 1 ≤ M) : 0 ≤ gd σ R l j ∧ gd σ R l j ≤ M := by
  obtain ⟨r, hr⟩ : ∃ q, R[l]? = some q := ⟨_, List.getElem?_eq_getElem lR⟩
  unfold gd
  by_cases c : sg_g σ 143 j < 0
  · rw [if_pos c]
    split <;> omega
  · rw [if_neg c]
    have b := bg_m h hr (sg_g σ 143 j) (sg_g σ 143 j + 1) (by omega) (by omega) (by have := hl.2 j (by omega) hj; omega)
    have := (fCh_at h hr).1.2.2.1
    omega
theorem eT_b (h : fCh σ M R) (hl : lnO σ R) {j : Nat} (hj : (j : Int) < sg_g σ 88 93) (hM : 1 ≤ M) : ∀ {l : Nat}, l ≤ R.length → 0 ≤ eT σ R j l ∧ eT σ R j l ≤ M * l
  | 0, _ => ⟨Int.le_refl _, by simp [eT]⟩
  | l + 1, lR => by
    have a := eT_b h hl hj hM (l := l) (by omega)
    have b := gd_b h hl (l := l) (j := j) (by omega) hj hM
    simp only [eT]
    have : M * ((l + 1 : Nat) : Int) = M * l + M := by rw [show ((l + 1 : Nat) : Int) = (l : Int) + 1 by omega, Int.mul_add, Int.mul_one]
    omega
theorem gsum_b (h : fCh σ M R) (hl : lnO σ R) {l : Nat} (lR : l < R.length) (hM : 1 ≤ M) : ∀ {j : Nat}, (j : Int) ≤ sg_g σ 88 93 → 0 ≤ gsum σ R l j
  | 0, _ => Int.le_refl _
  | j + 1, hj => by
    have a := gsum_b h hl lR hM (j := j) (by omega)
    have b := gd_b h hl (l := l) (j := j) lR (by omega) hM
    simp only [gsum]
    omega
theorem gsum_m (h : fCh σ M R) (hl : lnO σ R) {l : Nat} (lR : l < R.length) (hM : 1 ≤ M) : ∀ {i j : Nat}, i ≤ j → (j : Int) ≤ sg_g σ 88 93 → gsum σ R l i ≤ gsum σ R l j
  | i, 0, a, _ => by
    have : i = 0 := by omega
    subst this
    exact Int.le_refl _
  | i, j + 1, a, hj => by
    by_cases e : i = j + 1
    · subst e; exact Int.le_refl _
    · have c := gsum_m h hl lR hM (i := i) (j := j) (by omega) (by omega)
      have b := gd_b h hl (l := l) (j := j) lR (by omega) hM
      simp only [gsum]
      omega
theorem gT_b (h : fCh σ M R) (hl : lnO σ R) (hM : 1 ≤ M) {j : Nat} (hj : (j : Int) ≤ sg_g σ 88 93) : ∀ {l : Nat}, l ≤ R.length → 0 ≤ gT σ R j l
  | 0, _ => Int.le_refl _
  | l + 1, lR => by
    have a := gT_b h hl hM hj (l := l) (by omega)
    have b := gsum_b h hl (l := l) (by omega) hM hj
    simp only [gT]
    omega
theorem gT_m (h : fCh σ M R) (hl : lnO σ R) (hM : 1 ≤ M) {j : Nat} (hj : (j : Int) ≤ sg_g σ 88 93) : ∀ {l l' : Nat}, l ≤ l' → l' ≤ R.length → gT σ R j l ≤ gT σ R j l'
  | l, 0, a, _ => by
    have : l = 0 := by omega
    subst this
    exact Int.le_refl _
  | l, l' + 1, a, b => by
    by_cases e : l = l' + 1
    · subst e; exact Int.le_refl _
    · have c := gT_m h hl hM hj (l := l) (l' := l') (by omega) (by omega)
      have d := gsum_b h hl (l := l') (by omega) hM hj
      simp only [gT]
      omega
theorem gT_l (h : fCh σ M R) (hl : lnO σ R) (hM : 1 ≤ M) {j : Nat} (hj : (j : Int) ≤ sg_g σ 88 93) {l : Nat} (lR : l < R.length) : gT σ R j l + gsum σ R l j ≤ gT σ R j R.length := gT_m h hl hM hj (l := l + 1) (l' := R.length) (by omega) (Nat.le_refl _)
/-- a listed lane counts one in the first row -/
theorem gsum_0 : ∀ j : Nat, gsum σ R 0 j = j
  | 0 => rfl
  | j + 1 => by
    simp only [gsum]
    rw [gsum_0 j]
    unfold gd
    split
    · simp
    · simp only [bg]; omega
theorem m_extL {v : Int} {Q : Int → sg_S → Prop} (hv : fV σ M v R) (hM : 1 ≤ M ∧ M ≤ 12000) (hc : sg_g σ 88 91 ≤ 60000 ∧ sg_g σ 88 87 ≤ 30000) (hl : lnO σ R) (k : ∀ q σ', q = gT σ R (sg_g σ 88 93).toNat R.length → sg_F [144] σ σ' → Q q σ') : V_extentOfLanes σ v Q := by
  have hv' := hv
  obtain ⟨a1, a2, a3, a4, a5⟩ := hv
  have l1 := hl.1
  unfold V_extentOfLanes
  refine m_findB hv' hM.2 hc (fun σ2 f2 hb _ => ?_)
  refine ⟨fun n s j => n = (sg_g σ 88 93 - j).toNat ∧ (0 ≤ j ∧ j ≤ sg_g σ 88 93) ∧ s = gT σ R j.toNat R.length ∧ 0 ≤ s ∧ s ≤ 48000 * j, fun s => s = gT σ R (sg_g σ 88 93).toNat R.length, ⟨_, rfl, ⟨by omega, by omega⟩, by rw [show (0 : Int).toNat = 0 by rfl, gT_z], by omega, by omega⟩, ?_, fun s rs hs => k s σ2 hs f2⟩
  rintro n s j rs rj ⟨en, hj, es, s0, s1⟩
  refine ⟨fun z => by rw [es, show j = sg_g σ 88 93 by omega], fun z => ⟨⟨by omega, by omega⟩, fun v28 e28 r28 => ?_⟩⟩
  obtain ⟨J, rfl⟩ : ∃ J : Nat, j = J := ⟨j.toNat, by omega⟩
  rw [show ((J : Int)).toNat = J by omega] at es
  have eb := eT_b a5 hl (j := J) (by omega) hM.1 (l := R.length) (Nat.le_refl _)
  have eb2 : M * (R.length : Int) ≤ 48000 := by
    have : M * (R.length : Int) ≤ 12000 * 4 := Int.mul_le_mul hM.2 (by omega) (by omega) (by decide)
    omega
  have fin : ∀ s', s' = s + eT σ R J R.length → sg_R ((J : Int) + 1) ∧ ∃ m, m < n ∧ (m = (sg_g σ 88 93 - ((J : Int) + 1)).toNat ∧ (0 ≤ (J : Int) + 1 ∧ (J : Int) + 1 ≤ sg_g σ 88 93) ∧ s' = gT σ R ((J : Int) + 1).toNat R.length ∧ 0 ≤ s' ∧ s' ≤ 48000 * ((J : Int) + 1)) := fun s' h' => ⟨⟨by omega, by omega⟩, _, by omega, rfl, ⟨by omega, by omega⟩, by rw [show ((J : Int) + 1).toNat = J + 1 by omega, gT_s, h', es], by omega, by omega⟩
  by_cases c : sg_g σ 143 J < 0
  · rw [if_neg (by omega)] at e28
    have e1 : ∀ l, eT σ R J (l + 1) = 1 := fun l => by
      induction l with
      | zero => simp only [eT]; unfold gd; rw [if_pos c]; simp
      | succ l ih => rw [eT, ih]; unfold gd; rw [if_pos c]; simp
    refine ⟨⟨by omega, by omega⟩, fun n s' l => s' = s + 1, fun s' => s' = s + 1, ⟨0, by omega⟩, ?_, fun s' r' h' => fin s' (by rw [h', show R.length = (R.length - 1) + 1 by omega, e1])⟩
    rintro n' s' l r' rl h'
    exact ⟨⟨a1.1, by omega⟩, fun _ => h', fun _ => ⟨fun _ => h', fun z => by omega⟩⟩
  · rw [if_pos (by omega)] at e28
    have ll := hl.2 J (by omega) z
    have L12 := fCh_L a5 a2.1
    refine ⟨⟨by omega, by omega⟩, fun n s' l => n = (R.length - l).toNat ∧ (0 ≤ l ∧ l ≤ R.length) ∧ s' = s + eT σ R J l.toNat, fun s' => s' = s + eT σ R J R.length, ⟨_, rfl, ⟨by omega, by omega⟩, by rw [show (0 : Int).toNat = 0 by rfl]; simp only [eT]; omega⟩, ?_, fun s' r' h' => fin s' h'⟩
    rintro n' s' l r' rl ⟨en', hl', es'⟩
    refine ⟨⟨a1.1, by omega⟩, fun z' => by rw [es', show l.toNat = R.length by omega], fun z' => ⟨fun z'' => absurd z'' c, fun _ => ?_⟩⟩
    rw [a3] at z'
    have b1 := hb l.toNat (sg_g σ 143 J).toNat (by omega) (by omega)
    have b2 := hb l.toNat ((sg_g σ 143 J).toNat + 1) (by omega) (by omega)
    rw [show 13000 * ((l.toNat : Nat) : Int) + ((sg_g σ 143 J).toNat : Int) = 13000 * l + sg_g σ 143 J by omega, show (((sg_g σ 143 J).toNat : Nat) : Int) = sg_g σ 143 J by omega] at b1
    rw [show 13000 * ((l.toNat : Nat) : Int) + (((sg_g σ 143 J).toNat + 1 : Nat) : Int) = 13000 * l + sg_g σ 143 J + 1 by omega, show ((((sg_g σ 143 J).toNat + 1 : Nat)) : Int) = sg_g σ 143 J + 1 by omega] at b2
    rw [b1, b2]
    have gb := gd_b a5 hl (l := l.toNat) (j := J) (by omega) z hM.1
    have eb3 := eT_b a5 hl (j := J) z hM.1 (l := l.toNat) (by omega)
    have eb4 : M * ((l.toNat : Nat) : Int) ≤ 48000 := by
      have : M * ((l.toNat : Nat) : Int) ≤ 12000 * 4 := Int.mul_le_mul hM.2 (by omega) (by omega) (by decide)
      omega
    have eg : gd σ R l.toNat J = bg σ R l.toNat (sg_g σ 143 J + 1) - bg σ R l.toNat (sg_g σ 143 J) := by unfold gd; rw [if_neg c]
    refine ⟨⟨by omega, by omega⟩, ⟨by omega, by omega⟩, ⟨by omega, by omega⟩, ⟨by omega, by omega⟩, ⟨by omega, by omega⟩, ⟨by omega, by omega⟩, ⟨by omega, by omega⟩, ⟨by omega, by omega⟩, _, by omega, rfl, ⟨by omega, by omega⟩, ?_⟩
    rw [show (l + 1).toNat = l.toNat + 1 by omega]
    simp only [eT]
    omega
end FLD
