/-! joined: values of one depth, one behind the other. -/
section FLJ
variable (RR : Nat → List (Int × Int))
/-- cells of row l in the first values -/
def jS (l : Nat) : Nat → Int
  | 0 => 0
  | k + 1 => jS l k + ((RR k).getD l (0, 0)).2
/-- cells of rows before l in m values -/
def jT (m : Nat) : Nat → Int
  | 0 => 0
  | l + 1 => jT m l + jS RR l m
def jR (c : Int) (m K : Nat) : List (Int × Int) := (List.range K).map (fun l => (c + jT RR m l, jS RR l m))
end FLJ
section FLJ2
variable {σ : sg_S} {M : Int} {RR : Nat → List (Int × Int)}
theorem jR_l (c : Int) (m K : Nat) : (jR RR c m K).length = K := by simp [jR]
theorem jR_at {c : Int} {m K l : Nat} (h : l < K) : (jR RR c m K)[l]? = some (c + jT RR m l, jS RR l m) := by
  unfold jR
  rw [List.getElem?_map, List.getElem?_range h]
  rfl
theorem jS_m {l : Nat} {m : Nat} (h : ∀ k, k < m → 0 ≤ ((RR k).getD l (0, 0)).2) : ∀ {k k' : Nat}, k ≤ k' → k' ≤ m → jS RR l k ≤ jS RR l k'
  | k, 0, a, _ => by
    have : k = 0 := by omega
    subst this
    exact Int.le_refl _
  | k, k' + 1, a, b => by
    by_cases e : k = k' + 1
    · subst e; exact Int.le_refl _
    · have c := jS_m h (k := k) (k' := k') (by omega) (by omega)
      have d := h k' (by omega)
      simp only [jS]
      omega
theorem jS_0 {l : Nat} {m : Nat} (h : ∀ k, k < m → 0 ≤ ((RR k).getD l (0, 0)).2) {k : Nat} (hk : k ≤ m) : 0 ≤ jS RR l k := by
  have := jS_m h (k := 0) (k' := k) (Nat.zero_le _) hk
  simpa [jS] using this
theorem jT_m {m K : Nat} (h : ∀ l, l < K → 0 ≤ jS RR l m) : ∀ {l l' : Nat}, l ≤ l' → l' ≤ K → jT RR m l ≤ jT RR m l'
  | l, 0, a, _ => by
    have : l = 0 := by omega
    subst this
    exact Int.le_refl _
  | l, l' + 1, a, b => by
    by_cases e : l = l' + 1
    · subst e; exact Int.le_refl _
    · have c := jT_m h (l := l) (l' := l') (by omega) (by omega)
      have d := h l' (by omega)
      simp only [jT]
      omega
theorem cs_app {p : Int} {a : Nat} : ∀ {b : Nat}, cs σ p (a + b) = cs σ p a + cs σ (p + a) b
  | 0 => by simp [cs]
  | b + 1 => by
    rw [← Nat.add_assoc]
    simp only [cs]
    rw [cs_app (b := b), show p + ((a + b : Nat) : Int) = p + (a : Int) + (b : Int) by omega]
    omega
/-- what row l of the joined value holds -/
def jC (σ : sg_S) (RR : Nat → List (Int × Int)) (c : Int) (m : Nat) (l : Nat) (k : Nat) (i : Int) (σ' : sg_S) : Prop := (∀ k', k' < k → ∀ t, 0 ≤ t → t < ((RR k').getD l (0, 0)).2 → sg_g σ' 142 (c + jT RR m l + jS RR l k' + t) = sg_g σ 142 (((RR k').getD l (0, 0)).1 + t)) ∧ ∀ t, 0 ≤ t → t < i → sg_g σ' 142 (c + jT RR m l + jS RR l k + t) = sg_g σ 142 (((RR k).getD l (0, 0)).1 + t)
def jG (σ : sg_S) (RR : Nat → List (Int × Int)) (m : Nat) (w : Int) (l : Nat) (σ' : sg_S) : Prop := sg_g σ' 88 91 = sg_g σ 88 91 + jT RR m l ∧ (∀ x, 0 ≤ x → x < sg_g σ 88 91 → sg_g σ' 142 x = sg_g σ 142 x) ∧ (∀ y, y < 4 * w → sg_g σ' 140 y = sg_g σ 140 y ∧ sg_g σ' 141 y = sg_g σ 141 y) ∧ (∀ i : Nat, i < l → sg_g σ' 140 (4 * w + i) = sg_g σ 88 91 + jT RR m i ∧ sg_g σ' 141 (4 * w + i) = jS RR i m) ∧ ∀ i : Nat, i < l → jC σ RR (sg_g σ 88 91) m i m 0 σ'
theorem m_join {fr mn : Int} {m K : Nat} {Q : Int → sg_S → Prop} (hm : mn = m ∧ 1 ≤ m) (hfr : 0 ≤ fr ∧ fr + mn ≤ 12000) (hv : ∀ k : Nat, k < m → fV σ M (sg_g σ 133 (fr + k)) (RR k) ∧ (RR k).length = K) (hc : 0 ≤ sg_g σ 88 91) (hfl : 0 ≤ sg_g σ 88 87 ∧ sg_g σ 88 87 < 30000) (hM : M ≤ 12000) (ht : sg_g σ 88 91 + jT RR m K ≤ 60000) (k : ∀ q σ', q = sg_g σ 88 87 → fEx σ σ' → (∀ M', (∀ l : Nat, l < K → jS RR l m ≤ M') → fV σ' M' q (jR RR (sg_g σ 88 91) m K)) → (∀ l : Nat, l < K → jC σ RR (sg_g σ 88 91) m l m 0 σ') → sg_g σ' 88 87 = sg_g σ 88 87 + 1 → sg_g σ' 88 91 = sg_g σ 88 91 + jT RR m K → sg_F [139, 140, 141, 142, 88088, 92088] σ σ' → Q q σ') : V_joined σ fr mn Q := by
  obtain ⟨rfl, m1⟩ := hm
  obtain ⟨⟨a1, a2, a3, a4, a5⟩, aK⟩ := hv 0 (by omega)
  rw [show fr + ((0 : Nat) : Int) = fr by omega] at a1 a3 a4
  have row : ∀ k l : Nat, k < m → l < K → ∃ r, (RR k)[l]? = some r ∧ (RR k).getD l (0, 0) = r ∧ fRw σ M r := fun k l hk hl => by
    obtain ⟨⟨b1, b2, b3, b4, b5⟩, bK⟩ := hv k hk
    obtain ⟨r, hr⟩ : ∃ q, (RR k)[l]? = some q := ⟨_, List.getElem?_eq_getElem (by omega)⟩
    exact ⟨r, hr, by rw [List.getD_eq_getElem?_getD, hr]; rfl, (fCh_at b5 hr).1⟩
  have nn : ∀ k l : Nat, l < K → k < m → 0 ≤ ((RR k).getD l (0, 0)).2 := fun k l hl hk => by
    obtain ⟨r, r1, r2, r3⟩ := row k l hk hl
    rw [r2]; exact r3.2.1
  have jS0 : ∀ l k : Nat, l < K → k ≤ m → 0 ≤ jS RR l k := fun l k hl hk => jS_0 (fun k' h => nn k' l hl h) hk
  have jSm : ∀ l k : Nat, l < K → k ≤ m → jS RR l k ≤ jS RR l m := fun l k hl hk => jS_m (fun k' h => nn k' l hl h) hk (Nat.le_refl _)
  have jT0 : ∀ l : Nat, l ≤ K → 0 ≤ jT RR m l := fun l hl => by
    have := jT_m (RR := RR) (m := m) (K := K) (fun l' h => jS0 l' m h (Nat.le_refl _)) (l := 0) (l' := l) (Nat.zero_le _) hl
    simpa [jT] using this
  have jTl : ∀ l : Nat, l < K → jT RR m l + jS RR l m ≤ jT RR m K := fun l hl => jT_m (RR := RR) (m := m) (K := K) (fun l' h => jS0 l' m h (Nat.le_refl _)) (l := l + 1) (l' := K) (by omega) (Nat.le_refl _)
  unfold V_joined
  refine ⟨⟨by omega, by omega⟩, ⟨a1.1, by omega⟩, ?_⟩
  refine m_newF hfl (sg_Rg _ _ _) (fun σ4 f4 b1 b2 b3 _ _ => ?_)
  rw [a3, aK]
  have hw0 : sg_g σ 88 87 = sg_g σ 88 87 := rfl
  obtain ⟨w, hw⟩ : ∃ w, w = sg_g σ 88 87 := ⟨_, rfl⟩
  rw [← hw] at b1 b2 b3 hfl ⊢
  obtain ⟨c, hcc⟩ : ∃ c, c = sg_g σ 88 91 := ⟨_, rfl⟩
  have G0 : jG σ RR m w 0 σ4 := by
    refine ⟨?_, fun x _ _ => sg_F_ga f4 rfl, fun y _ => ⟨sg_F_ga f4 rfl, sg_F_ga f4 rfl⟩, fun i h => by omega, fun i h => by omega⟩
    rw [sg_F_g f4 (by rfl)]
    simp only [jT]
    omega
  refine ⟨fun n x σ15 => n = (K - x).toNat ∧ (0 ≤ x ∧ x ≤ K) ∧ jG σ RR m w x.toNat σ15, fun σ15 => jG σ RR m w K σ15, ⟨_, rfl, ⟨by omega, by omega⟩, G0⟩, ?_, ?_⟩
  · rintro n x σ15 rx f15 ⟨en, hx, hG⟩
    refine ⟨fun z => by rw [show K = x.toNat by omega]; exact hG, fun z => ?_⟩
    obtain ⟨X, rfl⟩ : ∃ X : Nat, x = X := ⟨x.toNat, by omega⟩
    rw [show ((X : Int)).toNat = X by omega] at hG
    obtain ⟨G1, G2, G3, G4, G5⟩ := hG
    have XR : X < K := by omega
    have bX := jT0 X (by omega)
    have bX2 := jTl X XR
    obtain ⟨f, hf⟩ : ∃ f, f = c + jT RR m X := ⟨_, rfl⟩
    rw [← hcc, ← hf] at G1
    refine ⟨⟨by omega, by omega⟩, ⟨by omega, by omega⟩, ⟨by omega, by omega⟩, fun σ28 e28 => ?_⟩
    have f28 : sg_F [140] σ15 σ28 := by rw [e28]; exact sg_F_w (sg_F_r _ _) rfl _
    have own : sg_g σ28 140 (4 * w + X) = f := by rw [e28, sg_gw_e _ _ _ _ (sg_Rg _ _ _)]; exact G1
    rw [own]
    refine ⟨fun n j σ32 => n = (fr + m - j).toNat ∧ (fr ≤ j ∧ j ≤ fr + m) ∧ sg_g σ32 88 91 = f + jS RR X (j - fr).toNat ∧ (∀ x, 0 ≤ x → x < f → sg_g σ32 142 x = sg_g σ15 142 x) ∧ jC σ RR c m X (j - fr).toNat 0 σ32, fun σ32 => sg_g σ32 88 91 = f + jS RR X m ∧ (∀ x, 0 ≤ x → x < f → sg_g σ32 142 x = sg_g σ15 142 x) ∧ jC σ RR c m X m 0 σ32, ⟨_, rfl, ⟨by omega, by omega⟩, ?_, fun x _ _ => sg_F_ga f28 rfl, ?_, ?_⟩, ?_, ?_⟩
    · rw [sg_F_g f28 (by rfl), G1, show (fr - fr).toNat = 0 by omega]
      simp only [jS]
      omega
    · intro k' h'
      omega
    · intro t t0 t1
      omega
    · rintro n' j σ32 rj f32 ⟨en', hj, i1, i2, i3⟩
      refine ⟨⟨by omega, by omega⟩, fun z' => by rw [show (j - fr).toNat = m by omega] at i1 i3; exact ⟨i1, i2, i3⟩, fun z' => ?_⟩
      obtain ⟨kk, hkk⟩ : ∃ kk : Nat, j = fr + kk := ⟨(j - fr).toNat, by omega⟩
      rw [show (j - fr).toNat = kk by omega] at i1 i3
      have hkm : kk < m := by omega
      obtain ⟨r, r1, r2, r3⟩ := row kk X hkm XR
      obtain ⟨⟨v1, v2, v3, v4, v5⟩, vK⟩ := hv kk hkm
      rw [← hkk] at v1 v4
      obtain ⟨z1, z2⟩ := v4 X r r1
      obtain ⟨r4, r5, r6, r7⟩ := r3
      have s1 := jSm X (kk + 1) XR (by omega)
      have s0 := jS0 X kk XR (by omega)
      simp only [jS] at s1
      rw [r2] at s1
      have o1 : sg_g σ15 141 (4 * sg_g σ 133 j + X) = r.2 := by rw [(G3 _ (by omega)).2]; exact z2
      have o0 : sg_g σ28 140 (4 * sg_g σ 133 j + X) = r.1 := by rw [e28, sg_gw_k _ _ _ _ _ _ (by omega), (G3 _ (by omega)).1]; exact z1
      rw [o1, o0]
      refine ⟨fun n i σ55 => n = (r.2 - i).toNat ∧ (0 ≤ i ∧ i ≤ r.2) ∧ sg_g σ55 88 91 = f + jS RR X kk + i ∧ (∀ x, 0 ≤ x → x < f → sg_g σ55 142 x = sg_g σ15 142 x) ∧ jC σ RR c m X kk i σ55, fun σ55 => sg_g σ55 88 91 = f + jS RR X kk + r.2 ∧ (∀ x, 0 ≤ x → x < f → sg_g σ55 142 x = sg_g σ15 142 x) ∧ jC σ RR c m X kk r.2 σ55, ⟨_, rfl, ⟨by omega, by omega⟩, by omega, i2, i3⟩, ?_, ?_⟩
      · rintro n'' i σ55 ri f55 ⟨en'', hi, j1, j2, j3⟩
        refine ⟨⟨by omega, by omega⟩, ⟨by omega, by omega⟩, ⟨by omega, by omega⟩, ⟨by omega, by omega⟩, fun y => by rw [show r.2 = i by omega]; exact ⟨j1, j2, j3⟩, fun y => ⟨⟨by omega, by omega⟩, ⟨by omega, by omega⟩, ⟨by omega, by omega⟩, fun σ79 e79 => ⟨⟨by omega, by omega⟩, fun σ83 e83 => ⟨⟨by omega, by omega⟩, _, by omega, rfl, ⟨by omega, by omega⟩, ?_⟩⟩⟩⟩
        have ce : sg_g σ83 142 (sg_g σ55 88 91) = sg_g σ55 142 (r.1 + i) := by rw [e83, sg_gw_c _ _ _ _ _ _ (by decide), e79, sg_gw_e _ _ _ _ (sg_Rg _ _ _)]
        have co : ∀ x, ¬ x = sg_g σ55 88 91 → sg_g σ83 142 x = sg_g σ55 142 x := fun x hx => by rw [e83, sg_gw_c _ _ _ _ _ _ (by decide), e79, sg_gw_k _ _ _ _ _ _ hx]
        have old : sg_g σ55 142 (r.1 + i) = sg_g σ 142 (r.1 + i) := by rw [j2 _ (by omega) (by omega)]; exact G2 _ (by omega) (by omega)
        refine ⟨by rw [e83, sg_gw_e _ _ _ _ ⟨by omega, by omega⟩]; omega, fun x x0 x1 => by rw [co x (by omega)]; exact j2 x x0 x1, fun k' hk' t t0 t1 => ?_, fun t t0 t1 => ?_⟩
        · have m3 := jS_m (RR := RR) (l := X) (m := m) (fun k' h => nn k' X XR h) (k := k' + 1) (k' := kk) (by omega) (by omega)
          have m4 := jS0 X k' XR (by omega)
          simp only [jS] at m3
          rw [co _ (by omega)]
          exact j3.1 k' hk' t t0 t1
        · by_cases e : t = i
          · rw [e, ← hf, ← j1, ce, old, r2]
          · rw [co _ (by omega)]
            exact j3.2 t t0 (by omega)
      · rintro σ55 f55 ⟨j1, j2, j3⟩
        refine ⟨⟨by omega, by omega⟩, _, by omega, rfl, ⟨by omega, by omega⟩, ?_, j2, fun k' hk' t t0 t1 => ?_, fun t t0 t1 => by omega⟩
        · rw [show (j + 1 - fr).toNat = kk + 1 by omega]
          simp only [jS]
          rw [r2]
          omega
        · by_cases e : k' = kk
          · subst e
            rw [r2] at t1
            exact j3.2 t t0 t1
          · exact j3.1 k' (by omega) t t0 t1
    · rintro σ32 f32 ⟨i1, i2, i3⟩
      have sb := jS0 X m XR (Nat.le_refl _)
      refine ⟨⟨by omega, by omega⟩, fun σ47 e47 => ⟨⟨by omega, by omega⟩, _, by omega, rfl, ⟨by omega, by omega⟩, ?_⟩⟩
      rw [show sg_g σ32 88 91 - f = jS RR X m by omega] at e47
      rw [show ((X : Int) + 1).toNat = X + 1 by omega]
      have F47 : sg_F [141] σ32 σ47 := by rw [e47]; exact sg_F_w (sg_F_r _ _) rfl _
      have c47 : ∀ x, sg_g σ47 142 x = sg_g σ32 142 x := fun x => sg_F_ga F47 rfl
      unfold jG
      rw [← hcc]
      refine ⟨?_, fun x x0 x1 => by rw [c47, i2 x x0 (by omega)]; exact G2 x x0 (by omega), fun y hy => ⟨?_, ?_⟩, fun i hi => ?_, fun i hi => ?_⟩
      · rw [sg_F_g F47 (by rfl), i1]
        simp only [jT]
        omega
      · rw [sg_F_ga F47 rfl, sg_F_ga f32 rfl, e28, sg_gw_k _ _ _ _ _ _ (by omega)]; exact (G3 y hy).1
      · rw [e47, sg_gw_k _ _ _ _ _ _ (by omega), sg_F_ga f32 rfl, sg_F_ga f28 rfl]; exact (G3 y hy).2
      · by_cases e : i = X
        · subst e
          refine ⟨?_, ?_⟩
          · rw [sg_F_ga F47 rfl, sg_F_ga f32 rfl, own, hf]
          · rw [e47, sg_gw_e _ _ _ _ ⟨by omega, by omega⟩]
        · obtain ⟨d1, d2⟩ := G4 i (by omega)
          refine ⟨?_, ?_⟩
          · rw [sg_F_ga F47 rfl, sg_F_ga f32 rfl, e28, sg_gw_k _ _ _ _ _ _ (by omega), hcc]; exact d1
          · rw [e47, sg_gw_k _ _ _ _ _ _ (by omega), sg_F_ga f32 rfl, sg_F_ga f28 rfl]; exact d2
      · by_cases e : i = X
        · subst e
          exact ⟨fun k' hk' t t0 t1 => by rw [c47]; exact i3.1 k' hk' t t0 t1, fun t t0 t1 => by omega⟩
        · obtain ⟨d1, d2⟩ := G5 i (by omega)
          rw [← hcc] at d1
          refine ⟨fun k' hk' t t0 t1 => ?_, fun t t0 t1 => by omega⟩
          have m1 := jT_m (RR := RR) (m := m) (K := K) (fun l' h => jS0 l' m h (Nat.le_refl _)) (l := i + 1) (l' := X) (by omega) (by omega)
          have m2 := jT0 i (by omega)
          have m3 := jS_m (RR := RR) (l := i) (m := m) (fun k' h => nn k' i (by omega) h) (k := k' + 1) (k' := m) (by omega) (Nat.le_refl _)
          have m4 := jS0 i k' (by omega) (by omega)
          simp only [jT] at m1
          simp only [jS] at m3
          rw [c47, i2 _ (by omega) (by omega)]
          exact d1 k' hk' t t0 t1
  · rintro σ15 f15 ⟨G1, G2, G3, G4, G5⟩
    have F15 : sg_F [139, 140, 141, 142, 88088, 92088] σ σ15 := sg_F_t (sg_F_m f4 rfl) (sg_F_m f15 rfl)
    have q87 : sg_g σ15 88 87 = w + 1 := by rw [sg_F_g f15 (by rfl)]; exact b1
    have bK := jT0 K (Nat.le_refl _)
    have ex : fEx σ σ15 := ⟨⟨by omega, by omega⟩, fun u x y => by rw [sg_F_ga f15 rfl]; exact b3 u (by omega), fun y _ hy => G3 y (by omega), G2⟩
    refine k w σ15 hw ex (fun M' hM' => ⟨⟨by omega, by omega⟩, by rw [jR_l]; omega, ?_, fun l r hr => ?_, fCh_mk (fun l r hr => ?_) (fun l r r' hr hr' => ?_)⟩) G5 (by omega) G1 F15
    · rw [jR_l, sg_F_ga f15 rfl, b2, a3]; omega
    · have hl' : l < K := by have := lt_of_get hr; rwa [jR_l] at this
      rw [jR_at hl'] at hr
      cases hr
      exact G4 l hl'
    · have hl' : l < K := by have := lt_of_get hr; rwa [jR_l] at this
      rw [jR_at hl'] at hr
      cases hr
      have z1 := hM' l hl'
      have z2 := jT0 l (by omega)
      have z3 := jTl l hl'
      have z4 := jS0 l m hl' (Nat.le_refl _)
      exact ⟨by simp only; omega, z4, z1, by simp only; omega⟩
    · have hl' : l + 1 < K := by have := lt_of_get hr'; rwa [jR_l] at this
      rw [jR_at (by omega)] at hr
      rw [jR_at hl'] at hr'
      cases hr
      cases hr'
      simp only
      have C := (G5 l (by omega)).1
      have part : ∀ k : Nat, k ≤ m → (∀ t, 0 ≤ t → t < jS RR l k → 0 ≤ sg_g σ15 142 (sg_g σ 88 91 + jT RR m l + t) ∧ sg_g σ15 142 (sg_g σ 88 91 + jT RR m l + t) ≤ 200) ∧ cs σ15 (sg_g σ 88 91 + jT RR m l) (jS RR l k).toNat = jS RR (l + 1) k := fun k => by
        induction k with
        | zero => exact fun _ => ⟨fun t t0 t1 => by simp only [jS] at t1; omega, rfl⟩
        | succ k ih =>
          intro hk
          obtain ⟨ih1, ih2⟩ := ih (by omega)
          obtain ⟨⟨v1, v2, v3, v4, v5⟩, vK⟩ := hv k (by omega)
          obtain ⟨r, r1, r2, r3⟩ := row k l (by omega) (by omega)
          obtain ⟨r', r1', r2', r3'⟩ := row k (l + 1) (by omega) hl'
          obtain ⟨y1, y2⟩ := (fCh_at v5 r1).2 r' r1'
          have s0 := jS0 l k (by omega) (by omega)
          have Ck := C k (by omega)
          rw [r2] at Ck
          have rr := r3.2.1
          simp only [jS]
          rw [r2, r2']
          refine ⟨fun t t0 t1 => ?_, ?_⟩
          · by_cases e : t < jS RR l k
            · exact ih1 t t0 e
            · have := Ck (t - jS RR l k) (by omega) (by omega)
              rw [show sg_g σ 88 91 + jT RR m l + jS RR l k + (t - jS RR l k) = sg_g σ 88 91 + jT RR m l + t by omega] at this
              rw [this]
              exact y1 _ (by omega) (by omega)
          · rw [show (jS RR l k + r.2).toNat = (jS RR l k).toNat + r.2.toNat by omega, cs_app, ih2, show sg_g σ 88 91 + jT RR m l + (((jS RR l k).toNat : Nat) : Int) = sg_g σ 88 91 + jT RR m l + jS RR l k by omega, y2]
            have : ∀ i : Nat, (i : Int) ≤ r.2 → cs σ15 (sg_g σ 88 91 + jT RR m l + jS RR l k) i = cs σ r.1 i := fun i => by
              induction i with
              | zero => exact fun _ => rfl
              | succ i ih =>
                intro hi
                simp only [cs]
                rw [ih (by omega), Ck i (by omega) (by omega)]
            rw [this r.2.toNat (by omega)]
      obtain ⟨p1, p2⟩ := part m (Nat.le_refl _)
      exact ⟨fun t t0 t1 => p1 t t0 t1, p2.symm⟩
end FLJ2
/-! flat ops of the reference: the small parts. -/
/-- no fault of a lane is without its word -/
def fq (σ : sg_S) : Prop := sg_g σ 88 102 < 0 ∨ ¬ sg_g σ 88 103 = 0
/-- N lanes are listed, all below L -/
def lO (σ : sg_S) (N L : Int) : Prop := sg_g σ 88 93 = N ∧ 0 ≤ N ∧ ∀ j, 0 ≤ j → j < N → sg_g σ 143 j < L
/-- N lanes are listed, no two alike, all P -/
def lD (σ : sg_S) (N : Int) (P : Int → Prop) : Prop := sg_g σ 88 93 = N ∧ 0 ≤ N ∧ (∀ j, 0 ≤ j → j < N → P (sg_g σ 143 j)) ∧ ∀ i j, 0 ≤ i → i < j → j < N → ¬ sg_g σ 143 i = sg_g σ 143 j
/-- lengths set aside, n of them together -/
def ls (σ : sg_S) : Nat → Int
  | 0 => 0
  | i + 1 => ls σ i + sg_g σ 150 i
theorem ls_e {σ σ' : sg_S} : ∀ {n : Nat}, (∀ i : Nat, i < n → sg_g σ' 150 i = sg_g σ 150 i) → ls σ' n = ls σ n
  | 0, _ => rfl
  | n + 1, h => by
    simp only [ls]
    rw [ls_e (n := n) (fun i x => h i (by omega)), h n (by omega)]
theorem ls_b {σ : sg_S} : ∀ {n : Nat}, (∀ i : Nat, i < n → 0 ≤ sg_g σ 150 i ∧ sg_g σ 150 i ≤ 200) → 0 ≤ ls σ n ∧ ls σ n ≤ 200 * n
  | 0, _ => ⟨Int.le_refl _, Int.le_refl _⟩
  | n + 1, h => by
    have a := ls_b (n := n) (fun i x => h i (by omega))
    have b := h n (by omega)
    simp only [ls]
    omega
theorem lO_F {L : List Nat} {σ σ' : sg_S} {N M : Int} (f : sg_F L σ σ') (hL : (!sg_cv L 88 93 && sg_ca L 143) = true) (h : lO σ N M) : lO σ' N M := by
  simp only [Bool.and_eq_true, Bool.not_eq_true'] at hL
  exact ⟨by rw [sg_F_g f hL.1]; exact h.1, h.2.1, fun j x y => by rw [sg_F_ga f hL.2]; exact h.2.2 j x y⟩
theorem lD_F {L : List Nat} {σ σ' : sg_S} {N : Int} {P : Int → Prop} (f : sg_F L σ σ') (hL : (!sg_cv L 88 93 && sg_ca L 143) = true) (h : lD σ N P) : lD σ' N P := by
  simp only [Bool.and_eq_true, Bool.not_eq_true'] at hL
  exact ⟨by rw [sg_F_g f hL.1]; exact h.1, h.2.1, fun j x y => by rw [sg_F_ga f hL.2]; exact h.2.2.1 j x y, fun i j x y z => by rw [sg_F_ga f hL.2, sg_F_ga f hL.2]; exact h.2.2.2 i j x y z⟩
theorem lD_w {σ : sg_S} {N : Int} {P P' : Int → Prop} (h : lD σ N P) (w : ∀ x, P x → P' x) : lD σ N P' := ⟨h.1, h.2.1, fun j x y => w _ (h.2.2.1 j x y), h.2.2.2⟩
theorem lD_O {σ : sg_S} {N L : Int} {P : Int → Prop} (h : lD σ N P) (w : ∀ x, P x → x < L) : lO σ N L := ⟨h.1, h.2.1, fun j x y => w _ (h.2.2.1 j x y)⟩
theorem lO_0 {σ σ' : sg_S} {L : Int} (e : σ' = sg_w σ 88 93 0) : lO σ' 0 L := ⟨by rw [e, sg_gw_e _ _ _ _ ⟨by decide, by decide⟩], Int.le_refl _, fun j x y => by omega⟩
theorem lD_0 {σ σ' : sg_S} {P : Int → Prop} (e : σ' = sg_w σ 88 93 0) : lD σ' 0 P := ⟨by rw [e, sg_gw_e _ _ _ _ ⟨by decide, by decide⟩], Int.le_refl _, fun j x y => by omega, fun i j x y z => by omega⟩
theorem lnO_of {σ : sg_S} {N L : Int} {R : List (Int × Int)} (h : lO σ N L) (hN : N ≤ 13000) (hL : L = (R.getD 0 (0, 0)).2) : lnO σ R := ⟨by rw [h.1]; exact ⟨h.2.1, hN⟩, fun j x y => by rw [h.1] at y; rw [← hL]; exact h.2.2 j x y⟩
section FF
variable {σ : sg_S} {M : Int}
theorem m_put {σb : sg_S} {f s t c : Int} {b : Prop} {Q : sg_S → Prop} (h : gH σb f b s t σ) (hf : 0 ≤ f) (h6 : f + s < 60000) (hc : sg_R c) (hb : b → 0 ≤ c ∧ c ≤ 200) (k : ∀ σ', gH σb f b (s + 1) (t + c) σ' → Q σ') : V_put σ c Q := by
  have h1 := h.1
  unfold V_put
  refine ⟨⟨by omega, by omega⟩, fun σ2 e2 => ⟨⟨by omega, by omega⟩, fun σ6 e6 => k σ6 (gH_p h hf (by omega) hc hb e2 e6)⟩⟩
theorem m_list {N L x : Int} {Q : sg_S → Prop} (h : lO σ N L) (hN : N < 13000) (hx : sg_R x) (hl : x < L) (k : ∀ σ', lO σ' (N + 1) L → Q σ') : V_list σ x Q := by
  obtain ⟨h1, h2, h3⟩ := h
  unfold V_list
  refine ⟨⟨by omega, by omega⟩, fun σ2 e2 => ⟨⟨by omega, by omega⟩, fun σ6 e6 => k σ6 ⟨?_, by omega, fun j x y => ?_⟩⟩⟩
  · rw [e6, sg_gw_e _ _ _ _ ⟨by omega, by omega⟩]; omega
  · rw [e6, sg_gw_c _ _ _ _ _ _ (by decide), e2]
    by_cases e : j = N
    · rw [e, h1, sg_gw_e _ _ _ _ hx]; exact hl
    · rw [sg_gw_k _ _ _ _ _ _ (by omega)]; exact h3 j x (by omega)
theorem m_listD {N x : Int} {P : Int → Prop} {Q : sg_S → Prop} (h : lD σ N P) (hN : N < 13000) (hx : sg_R x) (hl : ¬ P x) (k : ∀ σ', lD σ' (N + 1) (fun y => P y ∨ y = x) → Q σ') : V_list σ x Q := by
  obtain ⟨h1, h2, h3, h4⟩ := h
  unfold V_list
  refine ⟨⟨by omega, by omega⟩, fun σ2 e2 => ⟨⟨by omega, by omega⟩, fun σ6 e6 => ?_⟩⟩
  have ce : sg_g σ6 143 N = x := by rw [e6, sg_gw_c _ _ _ _ _ _ (by decide), e2, h1, sg_gw_e _ _ _ _ hx]
  have co : ∀ j, ¬ j = N → sg_g σ6 143 j = sg_g σ 143 j := fun j hj => by rw [e6, sg_gw_c _ _ _ _ _ _ (by decide), e2, h1, sg_gw_k _ _ _ _ _ _ hj]
  refine k σ6 ⟨?_, by omega, fun j x y => ?_, fun i j x y z => ?_⟩
  · rw [e6, sg_gw_e _ _ _ _ ⟨by omega, by omega⟩]; omega
  · by_cases e : j = N
    · rw [e, ce]; exact Or.inr rfl
    · rw [co j e]; exact Or.inl (h3 j x (by omega))
  · rw [co i (by omega)]
    by_cases e : j = N
    · rw [e, ce]
      intro w
      exact hl (by rw [← w]; exact h3 i x (by omega))
    · rw [co j e]; exact h4 i j x y (by omega)
theorem m_lacks {i f : Int} {Q : sg_S → Prop} (hi : 0 ≤ i ∧ sg_R i) (hf : ¬ f = 0 ∧ sg_R f) (h : fq σ) (k : ∀ σ', 0 ≤ sg_g σ' 88 102 → fq σ' → Q σ') : V_lacks σ i f Q := by
  unfold V_lacks
  refine ⟨fun z => k σ z h, fun z σ2 e2 σ5 e5 => ?_⟩
  refine k σ5 ?_ (Or.inr ?_)
  · rw [e5, sg_gw_k _ _ _ _ _ _ (by decide), e2, sg_gw_e _ _ _ _ hi.2]; exact hi.1
  · rw [e5, sg_gw_e _ _ _ _ hf.2]; exact hf.1
/-- counters of a flat run -/
def fC (σ : sg_S) : Prop := (0 ≤ sg_g σ 88 84 ∧ sg_g σ 88 84 ≤ 2000) ∧ (0 ≤ sg_g σ 88 85 ∧ sg_g σ 88 85 ≤ 6000) ∧ (0 ≤ sg_g σ 88 91 ∧ sg_g σ 88 91 ≤ 2 * sg_g σ 88 85) ∧ 0 ≤ sg_g σ 88 87 ∧ sg_g σ 88 87 ≤ 20000
theorem m_stepped {a : Int} {Q : Int → sg_S → Prop} (h : (0 ≤ sg_g σ 88 84 ∧ sg_g σ 88 84 ≤ 2000) ∧ (0 ≤ sg_g σ 88 85 ∧ sg_g σ 88 85 ≤ 6000)) (ha : 0 ≤ a ∧ a ≤ 1000000000) (k0 : ∀ σ', ¬ sg_g σ' 88 73 = 0 → Q 0 σ') (k1 : ∀ σ', sg_F [85088, 86088] σ σ' → sg_g σ' 88 84 = sg_g σ 88 84 + 1 → sg_g σ' 88 84 ≤ 2000 → sg_g σ' 88 85 = sg_g σ 88 85 + a → sg_g σ' 88 85 ≤ 6000 → Q 1 σ') : V_stepped σ a Q := by
  obtain ⟨h1, h2⟩ := h
  unfold V_stepped
  refine ⟨fun z σ2 e2 => k0 σ2 ?_, fun z => ⟨⟨by omega, by omega⟩, fun w => ⟨⟨by omega, by omega⟩, fun σ8 e8 => ⟨⟨by omega, by omega⟩, fun σ12 e12 => ?_⟩⟩, fun w σ2 e2 => k0 σ2 ?_⟩⟩
  · rw [e2, sg_gw_e _ _ _ _ ⟨by decide, by decide⟩]; decide
  · have q1 : sg_g σ12 88 84 = sg_g σ 88 84 + 1 := by rw [e12, sg_gw_k _ _ _ _ _ _ (by decide), e8, sg_gw_e _ _ _ _ ⟨by omega, by omega⟩]
    have q2 : sg_g σ12 88 85 = sg_g σ 88 85 + a := by rw [e12, sg_gw_e _ _ _ _ ⟨by omega, by omega⟩]
    exact k1 σ12 (by rw [e12, e8]; exact sg_F_w (sg_F_w (sg_F_r _ _) rfl _) rfl _) q1 (by omega) q2 (by omega)
  · rw [e2, sg_gw_e _ _ _ _ ⟨by decide, by decide⟩]; decide
theorem m_numbers {f : Int} {Q : Int → sg_S → Prop} (h : 0 ≤ sg_g σ 88 87 ∧ sg_g σ 88 87 < 30000) (hf : 0 ≤ f ∧ f ≤ sg_g σ 88 91 ∧ sg_g σ 88 91 ≤ 60000) (hM : sg_g σ 88 91 - f ≤ M) (k : ∀ q σ', q = sg_g σ 88 87 → fEx σ σ' → fV σ' M q [(f, sg_g σ 88 91 - f)] → sg_g σ' 88 87 = sg_g σ 88 87 + 1 → sg_F [139, 140, 141, 88088] σ σ' → Q q σ') : V_numbers σ f Q := by
  unfold V_numbers
  refine m_newF h ⟨by omega, by omega⟩ (fun σ4 f4 b1 b2 b3 _ _ => ⟨⟨by omega, by omega⟩, ⟨by omega, by omega⟩, fun σ9 e9 => ⟨⟨by omega, by omega⟩, fun σ13 e13 => ?_⟩⟩)
  obtain ⟨w, hw⟩ : ∃ w, w = sg_g σ 88 87 := ⟨_, rfl⟩
  rw [← hw] at e9 e13 b1 b2 b3 h ⊢
  have f13 : sg_F [140, 141] σ4 σ13 := by rw [e13, e9]; exact sg_F_w (sg_F_w (sg_F_r _ _) rfl _) rfl _
  have F : sg_F [139, 140, 141, 88088] σ σ13 := sg_F_t (sg_F_m f4 rfl) (sg_F_m f13 rfl)
  have g87 : sg_g σ13 88 87 = w + 1 := by rw [sg_F_g f13 (by rfl)]; exact b1
  have g91 : sg_g σ13 88 91 = sg_g σ 88 91 := sg_F_g F (by rfl)
  have ex : fEx σ σ13 := ⟨⟨by omega, by omega⟩, fun u x y => by rw [sg_F_ga f13 rfl]; exact b3 u (by omega), fun y _ z => by
    rw [e13, sg_gw_c _ _ _ _ _ _ (by decide), e9, sg_gw_k _ _ _ _ _ _ (by omega), sg_gw_k _ _ _ _ _ _ (by omega), sg_gw_c _ _ _ _ _ _ (by decide)]
    exact ⟨sg_F_ga f4 rfl, sg_F_ga f4 rfl⟩, fun x _ _ => sg_F_ga F rfl⟩
  refine k w σ13 hw ex ⟨⟨by omega, by omega⟩, ⟨by simp, by simp⟩, by rw [sg_F_ga f13 rfl, b2]; rfl, fun l r hr => ?_, ⟨⟨hf.1, by simp only; omega, hM, by simp only; omega⟩, trivial, trivial⟩⟩ (by omega) F
  cases l with
  | zero =>
    cases hr
    rw [show 4 * w + ((0 : Nat) : Int) = 4 * w by omega, e13, sg_gw_c _ _ _ _ _ _ (by decide), e9, sg_gw_e _ _ _ _ ⟨by omega, by omega⟩, sg_gw_e _ _ _ _ ⟨by omega, by omega⟩]
    exact ⟨rfl, rfl⟩
  | succ l => cases hr
theorem m_putLens {L : Int} {Q : Int → sg_S → Prop} (h : 0 ≤ sg_g σ 88 91 ∧ sg_g σ 88 91 + L ≤ 60000) (hL : 0 ≤ L ∧ L ≤ 13000) (hl : ∀ i : Nat, (i : Int) < L → 0 ≤ sg_g σ 150 i ∧ sg_g σ 150 i ≤ 200) (k : ∀ σ', gH σ (sg_g σ 88 91) True L (ls σ L.toNat) σ' → sg_F [142, 92088] σ σ' → Q (sg_g σ 88 91) σ') : V_putLens σ L Q := by
  unfold V_putLens
  refine ⟨fun n x σ2 => n = (L - x).toNat ∧ (0 ≤ x ∧ x ≤ L) ∧ gH σ (sg_g σ 88 91) True x (ls σ x.toNat) σ2, fun σ2 => gH σ (sg_g σ 88 91) True L (ls σ L.toNat) σ2, ⟨_, rfl, ⟨by omega, by omega⟩, gH_0 _ _⟩, ?_, fun σ2 f2 h2 => k σ2 h2 f2⟩
  rintro n x σ2 rx f2 ⟨en, hx, hG⟩
  refine ⟨fun z => by rw [show L = x by omega]; exact hG, fun z => ⟨⟨by omega, by omega⟩, ?_⟩⟩
  refine m_put hG h.1 (by omega) (sg_Rg _ _ _) (fun _ => ?_) (fun σ3 h3 _ => ⟨⟨by omega, by omega⟩, _, by omega, rfl, ⟨by omega, by omega⟩, ?_⟩)
  · have := hl x.toNat (by omega)
    rwa [show ((x.toNat : Nat) : Int) = x by omega] at this
  · rw [show (x + 1).toNat = x.toNat + 1 by omega]
    simp only [ls]
    rw [show ((x.toNat : Nat) : Int) = x by omega]
    exact h3
/-- rows together -/
def eX : List (Int × Int) → Int
  | [] => 0
  | r :: R => r.2 + eX R
theorem eX_d : ∀ {R : List (Int × Int)} {l : Nat} {r : Int × Int}, R[l]? = some r → eX (R.drop l) = r.2 + eX (R.drop (l + 1))
  | [], l, r, h => by cases h
  | x :: R, 0, r, h => by cases h; rfl
  | x :: R, l + 1, r, h => by
    rw [List.getElem?_cons_succ] at h
    simp only [List.drop_succ_cons]
    exact eX_d h
theorem eX_b : ∀ {R : List (Int × Int)}, fCh σ M R → 0 ≤ eX R ∧ eX R ≤ M * R.length
  | [], _ => ⟨Int.le_refl _, by simp [eX]⟩
  | x :: R, ⟨⟨a1, a2, a3, a4⟩, b, c⟩ => by
    have := eX_b c
    simp only [eX, List.length_cons]
    rw [show ((R.length + 1 : Nat) : Int) = (R.length : Int) + 1 by omega, Int.mul_add, Int.mul_one]
    omega
theorem fCh_drop : ∀ {R : List (Int × Int)} (l : Nat), fCh σ M R → fCh σ M (R.drop l)
  | [], l, h => by simp only [List.drop_nil]; exact h
  | x :: R, 0, h => h
  | x :: R, l + 1, h => by simp only [List.drop_succ_cons]; exact fCh_drop l h.2.2
theorem m_extent {v : Int} {R : List (Int × Int)} {Q : Int → sg_S → Prop} (hv : fV σ M v R) (hM : 0 ≤ M ∧ M ≤ 12000) (hfl : sg_g σ 88 87 ≤ 30000) (k : Q (eX R) σ) : V_extentOf σ v Q := by
  obtain ⟨a1, a2, a3, a4, a5⟩ := hv
  unfold V_extentOf
  have tot := eX_b a5
  have b4 : M * (R.length : Int) ≤ 12000 * 4 := Int.mul_le_mul hM.2 (by omega) (by omega) (by decide)
  refine ⟨fun n s l => n = (R.length - l).toNat ∧ (0 ≤ l ∧ l ≤ R.length) ∧ s + eX (R.drop l.toNat) = eX R ∧ 0 ≤ s, fun s => s = eX R, ⟨_, rfl, ⟨by omega, by omega⟩, by rw [show (0 : Int).toNat = 0 by rfl, List.drop_zero]; omega, by omega⟩, ?_, fun s rs h => by rw [h]; exact k⟩
  rintro n s l rs rl ⟨en, hl, es, s0⟩
  refine ⟨⟨by omega, by omega⟩, fun z => ?_, fun z => ?_⟩
  · rw [List.drop_of_length_le (by omega)] at es
    simp only [eX] at es
    omega
  · obtain ⟨r, hr⟩ : ∃ q, R[l.toNat]? = some q := ⟨_, List.getElem?_eq_getElem (by omega)⟩
    have c2 := (a4 _ r hr).2
    rw [show 4 * v + ((l.toNat : Nat) : Int) = 4 * v + l by omega] at c2
    rw [c2]
    rw [eX_d hr] at es
    have d := eX_b (fCh_drop (l.toNat + 1) a5)
    have e := (fCh_at a5 hr).1.2.1
    refine ⟨⟨by omega, by omega⟩, ⟨by omega, by omega⟩, ⟨by omega, by omega⟩, ⟨by omega, by omega⟩, ⟨by omega, by omega⟩, _, by omega, rfl, ⟨by omega, by omega⟩, ?_, by omega⟩
    rw [show (l + 1).toNat = l.toNat + 1 by omega]
    omega
theorem pR {v i : Int} {r : Int × Int} {R : List (Int × Int)} (h : fV σ M v (r :: R)) (hc : sg_g σ 88 91 ≤ 60000 ∧ sg_g σ 88 87 ≤ 30000) (hi : 0 ≤ i ∧ i < r.2) : p_rowAt σ v i ∧ v_rowAt σ v i = sg_g σ 142 (r.1 + i) := by
  have h0 := fV_0 h
  obtain ⟨a1, a2, a3, a4, ⟨b1, b2, b3, b4⟩, a6⟩ := h
  unfold p_rowAt v_rowAt
  rw [h0.1]
  exact ⟨⟨⟨by omega, by omega⟩, ⟨by omega, by omega⟩, ⟨by omega, by omega⟩, ⟨by omega, by omega⟩, trivial⟩, rfl⟩
end FF
