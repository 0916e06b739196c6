/-! joined: values of one depth, one behind the other. -/
section FLJ
variable (RR : Nat → List (Int × Int))
/-- cells of row l in the first values -/
def jS (l : Nat) : Nat → Int
  | 0 => 0
  | k + 1 => jS l k + ((RR k).getD l (0, 0)).2
/-- cells of rows before l in m values -/
def jT (m : Nat) : Nat → Int
  | 0 => 0
  | l + 1 => jT m l + jS RR l m
def jR (c : Int) (m K : Nat) : List (Int × Int) := (List.range K).map (fun l => (c + jT RR m l, jS RR l m))
end FLJ
section FLJ2
variable {σ : sg_S} {M : Int} {RR : Nat → List (Int × Int)}
theorem jR_l (c : Int) (m K : Nat) : (jR RR c m K).length = K := by simp [jR]
theorem jR_at {c : Int} {m K l : Nat} (h : l < K) : (jR RR c m K)[l]? = some (c + jT RR m l, jS RR l m) := by
  unfold jR
  rw [List.getElem?_map, List.getElem?_range h]
  rfl
theorem jS_m {l : Nat} {m : Nat} (h : ∀ k, k < m → 0 ≤ ((RR k).getD l (0, 0)).2) : ∀ {k k' : Nat}, k ≤ k' → k' ≤ m → jS RR l k ≤ jS RR l k'
  | k, 0, a, _ => by
    have : k = 0 := by omega
    subst this
    exact Int.le_refl _
  | k, k' + 1, a, b => by
    by_cases e : k = k' + 1
    · subst e; exact Int.le_refl _
    · have c := jS_m h (k := k) (k' := k') (by omega) (by omega)
      have d := h k' (by omega)
      simp only [jS]
      omega
theorem jS_0 {l : Nat} {m : Nat} (h : ∀ k, k < m → 0 ≤ ((RR k).getD l (0, 0)).2) {k : Nat} (hk : k ≤ m) : 0 ≤ jS RR l k := by
  have := jS_m h (k := 0) (k' := k) (Nat.zero_le _) hk
  simpa [jS] using this
theorem jT_m {m K : Nat} (h : ∀ l, l < K → 0 ≤ jS RR l m) : ∀ {l l' : Nat}, l ≤ l' → l' ≤ K → jT RR m l ≤ jT RR m l'
  | l, 0, a, _ => by
    have : l = 0 := by omega
    subst this
    exact Int.le_refl _
  | l, l' + 1, a, b => by
    by_cases e : l = l' + 1
    · subst e; exact Int.le_refl _
    · have c := jT_m h (l := l) (l' := l') (by omega) (by omega)
      have d := h l' (by omega)
      simp only [jT]
      omega
theorem cs_app {p : Int} {a : Nat} : ∀ {b : Nat}, cs σ p (a + b) = cs σ p a + cs σ (p + a) b
  | 0 => by simp [cs]
  | b + 1 => by
    rw [← Nat.add_assoc]
    simp only [cs]
    rw [cs_app (b := b), show p + ((a + b : Nat) : Int) = p + (a : Int) + (b : Int) by omega]
    omega
/-- what row l of the joined value holds -/
def jC (σ : sg_S) (RR : Nat → List (Int × Int)) (c : Int) (m : Nat) (l : Nat) (k : Nat) (i : Int) (σ' : sg_S) : Prop := (∀ k', k' < k → ∀ t, 0 ≤ t → t < ((RR k').getD l (0, 0)).2 → sg_g σ' 142 (c + jT RR m l + jS RR l k' + t) = sg_g σ 142 (((RR k').getD l (0, 0)).1 + t)) ∧ ∀ t, 0 ≤ t → t < i → sg_g σ' 142 (c + jT RR m l + jS RR l k + t) = sg_g σ 142 (((RR k).getD l (0, 0)).1 + t)
def jG (σ : sg_S) (RR : Nat → List (Int × Int)) (m : Nat) (w : Int) (l : Nat) (σ' : sg_S) : Prop := sg_g σ' 88 91 = sg_g σ 88 91 + jT RR m l ∧ (∀ x, 0 ≤ x → x < sg_g σ 88 91 → sg_g σ' 142 x = sg_g σ 142 x) ∧ (∀ y, y < 4 * w → sg_g σ' 140 y = sg_g σ 140 y ∧ sg_g σ' 141 y = sg_g σ 141 y) ∧ (∀ i : Nat, i < l → sg_g σ' 140 (4 * w + i) = sg_g σ 88 91 + jT RR m i ∧ sg_g σ' 141 (4 * w + i) = jS RR i m) ∧ ∀ i : Nat, i < l → jC σ RR (sg_g σ 88 91) m i m 0 σ'
theorem m_join {fr mn : Int} {m K : Nat} {Q : Int → sg_S → Prop} (hm : mn = m ∧ 1 ≤ m) (hfr : 0 ≤ fr ∧ fr + mn ≤ 12000) (hv : ∀ k : Nat, k < m → fV σ M (sg_g σ 133 (fr + k)) (RR k) ∧ (RR k).length = K) (hc : 0 ≤ sg_g σ 88 91) (hfl : 0 ≤ sg_g σ 88 87 ∧ sg_g σ 88 87 < 30000) (hM : M ≤ 12000) (ht : sg_g σ 88 91 + jT RR m K ≤ 60000) (k : ∀ q σ', q = sg_g σ 88 87 → fEx σ σ' → (∀ M', (∀ l : Nat, l < K → jS RR l m ≤ M') → fV σ' M' q (jR RR (sg_g σ 88 91) m K)) → (∀ l : Nat, l < K → jC σ RR (sg_g σ 88 91) m l m 0 σ') → sg_g σ' 88 87 = sg_g σ 88 87 + 1 → sg_g σ' 88 91 = sg_g σ 88 91 + jT RR m K → sg_F [139, 140, 141, 142, 88088, 92088] σ σ' → Q q σ') : V_joined σ fr mn Q := by
  obtain ⟨rfl, m1⟩ := hm
  obtain ⟨⟨a1, a2, a3, a4, a5⟩, aK⟩ := hv 0 (by omega)
  rw [show fr + ((0 : Nat) : Int) = fr by omega] at a1 a3 a4
  have row : ∀ k l : Nat, k < m → l < K → ∃ r, (RR k)[l]? = some r ∧ (RR k).getD l (0, 0) = r ∧ fRw σ M r := fun k l hk hl => by
    obtain ⟨⟨b1, b2, b3, b4, b5⟩, bK⟩ := hv k hk
    obtain ⟨r, hr⟩ : ∃ q, (RR k)[l]? = some q := ⟨_, List.getElem?_eq_getElem (by omega)⟩
    exact ⟨r, hr, by rw [List.getD_eq_getElem?_getD, hr]; rfl, (fCh_at b5 hr).1⟩
  have nn : ∀ k l : Nat, l < K → k < m → 0 ≤ ((RR k).getD l (0, 0)).2 := fun k l hl hk => by
    obtain ⟨r, r1, r2, r3⟩ := row k l hk hl
    rw [r2]; exact r3.2.1
  have jS0 : ∀ l k : Nat, l < K → k ≤ m → 0 ≤ jS RR l k := fun l k hl hk => jS_0 (fun k' h => nn k' l hl h) hk
  have jSm : ∀ l k : Nat, l < K → k ≤ m → jS RR l k ≤ jS RR l m := fun l k hl hk => jS_m (fun k' h => nn k' l hl h) hk (Nat.le_refl _)
  have jT0 : ∀ l : Nat, l ≤ K → 0 ≤ jT RR m l := fun l hl => by
    have := jT_m (RR := RR) (m := m) (K := K) (fun l' h => jS0 l' m h (Nat.le_refl _)) (l := 0) (l' := l) (Nat.zero_le _) hl
    simpa [jT] using this
  have jTl : ∀ l : Nat, l < K → jT RR m l + jS RR l m ≤ jT RR m K := fun l hl => jT_m (RR := RR) (m := m) (K := K) (fun l' h => jS0 l' m h (Nat.le_refl _)) (l := l + 1) (l' := K) (by omega) (Nat.le_refl _)
  unfold V_joined
  refine ⟨⟨by omega, by omega⟩, ⟨a1.1, by omega⟩, ?_⟩
  refine m_newF hfl (sg_Rg _ _ _) (fun σ4 f4 b1 b2 b3 _ _ => ?_)
  rw [a3, aK]
  have hw0 : sg_g σ 88 87 = sg_g σ 88 87 := rfl
  obtain ⟨w, hw⟩ : ∃ w, w = sg_g σ 88 87 := ⟨_, rfl⟩
  rw [← hw] at b1 b2 b3 hfl ⊢
  obtain ⟨c, hcc⟩ : ∃ c, c = sg_g σ 88 91 := ⟨_, rfl⟩
  have G0 : jG σ RR m w 0 σ4 := by
    refine ⟨?_, fun x _ _ => sg_F_ga f4 rfl, fun y _ => ⟨sg_F_ga f4 rfl, sg_F_ga f4 rfl⟩, fun i h => by omega, fun i h => by omega⟩
    rw [sg_F_g f4 (by rfl)]
    simp only [jT]
    omega
  refine ⟨fun n x σ15 => n = (K - x).toNat ∧ (0 ≤ x ∧ x ≤ K) ∧ jG σ RR m w x.toNat σ15, fun σ15 => jG σ RR m w K σ15, ⟨_, rfl, ⟨by omega, by omega⟩, G0⟩, ?_, ?_⟩
  · rintro n x σ15 rx f15 ⟨en, hx, hG⟩
    refine ⟨fun z => by rw [show K = x.toNat by omega]; exact hG, fun z => ?_⟩
    obtain ⟨X, rfl⟩ : ∃ X : Nat, x = X := ⟨x.toNat, by omega⟩
    rw [show ((X : Int)).toNat = X by omega] at hG
    obtain ⟨G1, G2, G3, G4, G5⟩ := hG
    have XR : X < K := by omega
    have bX := jT0 X (by omega)
    have bX2 := jTl X XR
    obtain ⟨f, hf⟩ : ∃ f, f = c + jT RR m X := ⟨_, rfl⟩
    rw [← hcc, ← hf] at G1
    refine ⟨⟨by omega, by omega⟩, ⟨by omega, by omega⟩, ⟨by omega, by omega⟩, fun σ28 e28 => ?_⟩
    have f28 : sg_F [140] σ15 σ28 := by rw [e28]; exact sg_F_w (sg_F_r _ _) rfl _
    have own : sg_g σ28 140 (4 * w + X) = f := by rw [e28, sg_gw_e _ _ _ _ (sg_Rg _ _ _)]; exact G1
    rw [own]
    refine ⟨fun n j σ32 => n = (fr + m - j).toNat ∧ (fr ≤ j ∧ j ≤ fr + m) ∧ sg_g σ32 88 91 = f + jS RR X (j - fr).toNat ∧ (∀ x, 0 ≤ x → x < f → sg_g σ32 142 x = sg_g σ15 142 x) ∧ jC σ RR c m X (j - fr).toNat 0 σ32, fun σ32 => sg_g σ32 88 91 = f + jS RR X m ∧ (∀ x, 0 ≤ x → x < f → sg_g σ32 142 x = sg_g σ15 142 x) ∧ jC σ RR c m X m 0 σ32, ⟨_, rfl, ⟨by omega, by omega⟩, ?_, fun x _ _ => sg_F_ga f28 rfl, ?_, ?_⟩, ?_, ?_⟩
    · rw [sg_F_g f28 (by rfl), G1, show (fr - fr).toNat = 0 by omega]
      simp only [jS]
      omega
    · intro k' h'
      omega
    · intro t t0 t1
      omega
    · rintro n' j σ32 rj f32 ⟨en', hj, i1, i2, i3⟩
      refine ⟨⟨by omega, by omega⟩, fun z' => by rw [show (j - fr).toNat = m by omega] at i1 i3; exact ⟨i1, i2, i3⟩, fun z' => ?_⟩
      obtain ⟨kk, hkk⟩ : ∃ kk : Nat, j = fr + kk := ⟨(j - fr).toNat, by omega⟩
      rw [show (j - fr).toNat = kk by omega] at i1 i3
      have hkm : kk < m := by omega
      obtain ⟨r, r1, r2, r3⟩ := row kk X hkm XR
      obtain ⟨⟨v1, v2, v3, v4, v5⟩, vK⟩ := hv kk hkm
      rw [← hkk] at v1 v4
      obtain ⟨z1, z2⟩ := v4 X r r1
      obtain ⟨r4, r5, r6, r7⟩ := r3
      have s1 := jSm X (kk + 1) XR (by omega)
      have s0 := jS0 X kk XR (by omega)
      simp only [jS] at s1
      rw [r2] at s1
      have o1 : sg_g σ15 141 (4 * sg_g σ 133 j + X) = r.2 := by rw [(G3 _ (by omega)).2]; exact z2
      have o0 : sg_g σ28 140 (4 * sg_g σ 133 j + X) = r.1 := by rw [e28, sg_gw_k _ _ _ _ _ _ (by omega), (G3 _ (by omega)).1]; exact z1
      rw [o1, o0]
      refine ⟨fun n i σ55 => n = (r.2 - i).toNat ∧ (0 ≤ i ∧ i ≤ r.2) ∧ sg_g σ55 88 91 = f + jS RR X kk + i ∧ (∀ x, 0 ≤ x → x < f → sg_g σ55 142 x = sg_g σ15 142 x) ∧ jC σ RR c m X kk i σ55, fun σ55 => sg_g σ55 88 91 = f + jS RR X kk + r.2 ∧ (∀ x, 0 ≤ x → x < f → sg_g σ55 142 x = sg_g σ15 142 x) ∧ jC σ RR c m X kk r.2 σ55, ⟨_, rfl, ⟨by omega, by omega⟩, by omega, i2, i3⟩, ?_, ?_⟩
      · rintro n'' i σ55 ri f55 ⟨en'', hi, j1, j2, j3⟩
        refine ⟨⟨by omega, by omega⟩, ⟨by omega, by omega⟩, ⟨by omega, by omega⟩, ⟨by omega, by omega⟩, fun y => by rw [show r.2 = i by omega]; exact ⟨j1, j2, j3⟩, fun y => ⟨⟨by omega, by omega⟩, ⟨by omega, by omega⟩, ⟨by omega, by omega⟩, fun σ79 e79 => ⟨⟨by omega, by omega⟩, fun σ83 e83 => ⟨⟨by omega, by omega⟩, _, by omega, rfl, ⟨by omega, by omega⟩, ?_⟩⟩⟩⟩
        have ce : sg_g σ83 142 (sg_g σ55 88 91) = sg_g σ55 142 (r.1 + i) := by rw [e83, sg_gw_c _ _ _ _ _ _ (by decide), e79, sg_gw_e _ _ _ _ (sg_Rg _ _ _)]
        have co : ∀ x, ¬ x = sg_g σ55 88 91 → sg_g σ83 142 x = sg_g σ55 142 x := fun x hx => by rw [e83, sg_gw_c _ _ _ _ _ _ (by decide), e79, sg_gw_k _ _ _ _ _ _ hx]
        have old : sg_g σ55 142 (r.1 + i) = sg_g σ 142 (r.1 + i) := by rw [j2 _ (by omega) (by omega)]; exact G2 _ (by omega) (by omega)
        refine ⟨by rw [e83, sg_gw_e _ _ _ _ ⟨by omega, by omega⟩]; omega, fun x x0 x1 => by rw [co x (by omega)]; exact j2 x x0 x1, fun k' hk' t t0 t1 => ?_, fun t t0 t1 => ?_⟩
        · have m3 := jS_m (RR := RR) (l := X) (m := m) (fun k' h => nn k' X XR h) (k := k' + 1) (k' := kk) (by omega) (by omega)
          have m4 := jS0 X k' XR (by omega)
          simp only [jS] at m3
          rw [co _ (by omega)]
          exact j3.1 k' hk' t t0 t1
        · by_cases e : t = i
          · rw [e, ← hf, ← j1, ce, old, r2]
          · rw [co _ (by omega)]
            exact j3.2 t t0 (by omega)
      · rintro σ55 f55 ⟨j1, j2, j3⟩
        refine ⟨⟨by omega, by omega⟩, _, by omega, rfl, ⟨by omega, by omega⟩, ?_, j2, fun k' hk' t t0 t1 => ?_, fun t t0 t1 => by omega⟩
        · rw [show (j + 1 - fr).toNat = kk + 1 by omega]
          simp only [jS]
          rw [r2]
          omega
        · by_cases e : k' = kk
          · subst e
            rw [r2] at t1
            exact j3.2 t t0 t1
          · exact j3.1 k' (by omega) t t0 t1
    · rintro σ32 f32 ⟨i1, i2, i3⟩
      have sb := jS0 X m XR (Nat.le_refl _)
      refine ⟨⟨by omega, by omega⟩, fun σ47 e47 => ⟨⟨by omega, by omega⟩, _, by omega, rfl, ⟨by omega, by omega⟩, ?_⟩⟩
      rw [show sg_g σ32 88 91 - f = jS RR X m by omega] at e47
      rw [show ((X : Int) + 1).toNat = X + 1 by omega]
      have F47 : sg_F [141] σ32 σ47 := by rw [e47]; exact sg_F_w (sg_F_r _ _) rfl _
      have c47 : ∀ x, sg_g σ47 142 x = sg_g σ32 142 x := fun x => sg_F_ga F47 rfl
      unfold jG
      rw [← hcc]
      refine ⟨?_, fun x x0 x1 => by rw [c47, i2 x x0 (by omega)]; exact G2 x x0 (by omega), fun y hy => ⟨?_, ?_⟩, fun i hi => ?_, fun i hi => ?_⟩
      · rw [sg_F_g F47 (by rfl), i1]
        simp only [jT]
        omega
      · rw [sg_F_ga F47 rfl, sg_F_ga f32 rfl, e28, sg_gw_k _ _ _ _ _ _ (by omega)]; exact (G3 y hy).1
      · rw [e47, sg_gw_k _ _ _ _ _ _ (by omega), sg_F_ga f32 rfl, sg_F_ga f28 rfl]; exact (G3 y hy).2
      · by_cases e : i = X
        · subst e
          refine ⟨?_, ?_⟩
          · rw [sg_F_ga F47 rfl, sg_F_ga f32 rfl, own, hf]
          · rw [e47, sg_gw_e _ _ _ _ ⟨by omega, by omega⟩]
        · obtain ⟨d1, d2⟩ := G4 i (by omega)
          refine ⟨?_, ?_⟩
          · rw [sg_F_ga F47 rfl, sg_F_ga f32 rfl, e28, sg_gw_k _ _ _ _ _ _ (by omega), hcc]; exact d1
          · rw [e47, sg_gw_k _ _ _ _ _ _ (by omega), sg_F_ga f32 rfl, sg_F_ga f28 rfl]; exact d2
      · by_cases e : i = X
        · subst e
          exact ⟨fun k' hk' t t0 t1 => by rw [c47]; exact i3.1 k' hk' t t0 t1, fun t t0 t1 => by omega⟩
        · obtain ⟨d1, d2⟩ := G5 i (by omega)
          rw [← hcc] at d1
          refine ⟨fun k' hk' t t0 t1 => ?_, fun t t0 t1 => by omega⟩
          have m1 := jT_m (RR := RR) (m := m) (K := K) (fun l' h => jS0 l' m h (Nat.le_refl _)) (l := i + 1) (l' := X) (by omega) (by omega)
          have m2 := jT0 i (by omega)
          have m3 := jS_m (RR := RR) (l := i) (m := m) (fun k' h => nn k' i (by omega) h) (k := k' + 1) (k' := m) (by omega) (Nat.le_refl _)
          have m4 := jS0 i k' (by omega) (by omega)
          simp only [jT] at m1
          simp only [jS] at m3
          rw [c47, i2 _ (by omega) (by omega)]
          exact d1 k' hk' t t0 t1
  · rintro σ15 f15 ⟨G1, G2, G3, G4, G5⟩
    have F15 : sg_F [139, 140, 141, 142, 88088, 92088] σ σ15 := sg_F_t (sg_F_m f4 rfl) (sg_F_m f15 rfl)
    have q87 : sg_g σ15 88 87 = w + 1 := by rw [sg_F_g f15 (by rfl)]; exact b1
    have bK := jT0 K (Nat.le_refl _)
    have ex : fEx σ σ15 := ⟨⟨by omega, by omega⟩, fun u x y => by rw [sg_F_ga f15 rfl]; exact b3 u (by omega), fun y _ hy => G3 y (by omega), G2⟩
    refine k w σ15 hw ex (fun M' hM' => ⟨⟨by omega, by omega⟩, by rw [jR_l]; omega, ?_, fun l r hr => ?_, fCh_mk (fun l r hr => ?_) (fun l r r' hr hr' => ?_)⟩) G5 (by omega) G1 F15
    · rw [jR_l, sg_F_ga f15 rfl, b2, a3]; omega
    · have hl' : l < K := by have := lt_of_get hr; rwa [jR_l] at this
      rw [jR_at hl'] at hr
      cases hr
      exact G4 l hl'
    · have hl' : l < K := by have := lt_of_get hr; rwa [jR_l] at this
      rw [jR_at hl'] at hr
      cases hr
      have z1 := hM' l hl'
      have z2 := jT0 l (by omega)
      have z3 := jTl l hl'
      have z4 := jS0 l m hl' (Nat.le_refl _)
      exact ⟨by simp only; omega, z4, z1, by simp only; omega⟩
    · have hl' : l + 1 < K := by have := lt_of_get hr'; rwa [jR_l] at this
      rw [jR_at (by omega)] at hr
      rw [jR_at hl'] at hr'
      cases hr
      cases hr'
      simp only
      have C := (G5 l (by omega)).1
      have part : ∀ k : Nat, k ≤ m → (∀ t, 0 ≤ t → t < jS RR l k → 0 ≤ sg_g σ15 142 (sg_g σ 88 91 + jT RR m l + t) ∧ sg_g σ15 142 (sg_g σ 88 91 + jT RR m l + t) ≤ 200) ∧ cs σ15 (sg_g σ 88 91 + jT RR m l) (jS RR l k).toNat = jS RR (l + 1) k := fun k => by
        induction k with
        | zero => exact fun _ => ⟨fun t t0 t1 => by simp only [jS] at t1; omega, rfl⟩
        | succ k ih =>
          intro hk
          obtain ⟨ih1, ih2⟩ := ih (by omega)
          obtain ⟨⟨v1, v2, v3, v4, v5⟩, vK⟩ := hv k (by omega)
          obtain ⟨r, r1, r2, r3⟩ := row k l (by omega) (by omega)
          obtain ⟨r', r1', r2', r3'⟩ := row k (l + 1) (by omega) hl'
          obtain ⟨y1, y2⟩ := (fCh_at v5 r1).2 r' r1'
          have s0 := jS0 l k (by omega) (by omega)
          have Ck := C k (by omega)
          rw [r2] at Ck
          have rr := r3.2.1
          simp only [jS]
          rw [r2, r2']
          refine ⟨fun t t0 t1 => ?_, ?_⟩
          · by_cases e : t < jS RR l k
            · exact ih1 t t0 e
            · have := Ck (t - jS RR l k) (by omega) (by omega)
              rw [show sg_g σ 88 91 + jT RR m l + jS RR l k + (t - jS RR l k) = sg_g σ 88 91 + jT RR m l + t by omega] at this
              rw [this]
              exact y1 _ (by omega) (by omega)
          · rw [show (jS RR l k + r.2).toNat = (jS RR l k).toNat + r.2.toNat by omega, cs_app, ih2, show sg_g σ 88 91 + jT RR m l + (((jS RR l k).toNat : Nat) : Int) = sg_g σ 88 91 + jT RR m l + jS RR l k by omega, y2]
            have : ∀ i : Nat, (i : Int) ≤ r.2 → cs σ15 (sg_g σ 88 91 + jT RR m l + jS RR l k) i = cs σ r.1 i := fun i => by
              induction i with
              | zero => exact fun _ => rfl
              | succ i ih =>
                intro hi
                simp only [cs]
                rw [ih (by omega), Ck i (by omega) (by omega)]
            rw [this r.2.toNat (by omega)]
      obtain ⟨p1, p2⟩ := part m (Nat.le_refl _)
      exact ⟨fun t t0 t1 => p1 t t0 t1, p2.symm⟩
end FLJ2
