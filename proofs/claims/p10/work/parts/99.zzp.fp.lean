/-! flat ops: ROW. -/
def eD (R : List (Int × Int)) : Nat → Int
  | 0 => 0
  | l + 1 => eD R l + (R.getD l (0, 0)).2
theorem eX_D (R : List (Int × Int)) : eX R = eD R R.length := by
  have : ∀ l, l ≤ R.length → eD R l + eX (R.drop l) = eX R := fun l => by
    induction l with
    | zero => intro _; simp only [eD, List.drop_zero]; omega
    | succ l ih =>
      intro h
      have a := ih (by omega)
      obtain ⟨r, hr⟩ : ∃ q, R[l]? = some q := ⟨_, List.getElem?_eq_getElem (by omega)⟩
      rw [eX_d hr] at a
      simp only [eD]
      rw [List.getD_eq_getElem?_getD, hr, Option.getD_some]
      omega
  have := this _ (Nat.le_refl _)
  rw [List.drop_of_length_le (Nat.le_refl _)] at this
  simp only [eX] at this
  omega
section FP
variable {RR : Nat → List (Int × Int)}
theorem jT_s (m : Nat) : ∀ l, jT RR (m + 1) l = jT RR m l + eD (RR m) l
  | 0 => rfl
  | l + 1 => by simp only [jT, eD, jS]; rw [jT_s m l]; omega
theorem jT_z : ∀ l, jT RR 0 l = 0
  | 0 => rfl
  | l + 1 => by simp only [jT, jS]; rw [jT_z l]; rfl
def sX (RR : Nat → List (Int × Int)) : Nat → Int
  | 0 => 0
  | k + 1 => sX RR k + eX (RR k)
theorem jT_X {K : Nat} : ∀ {m : Nat}, (∀ k, k < m → (RR k).length = K) → jT RR m K = sX RR m
  | 0, _ => jT_z K
  | m + 1, h => by
    rw [jT_s, jT_X (m := m) (fun k x => h k (by omega))]
    simp only [sX]
    rw [eX_D, h m (by omega)]
theorem eX_j {c : Int} {m K : Nat} : eX (jR RR c m K) = jT RR m K := by
  rw [eX_D, jR_l]
  have : ∀ l, l ≤ K → eD (jR RR c m K) l = jT RR m l := fun l => by
    induction l with
    | zero => intro _; rfl
    | succ l ih =>
      intro h
      simp only [eD, jT]
      rw [ih (by omega), List.getD_eq_getElem?_getD, jR_at (by omega)]
      rfl
  exact this K (Nat.le_refl _)
theorem jS_L {L : Int} : ∀ {m : Nat}, (∀ k, k < m → ((RR k).getD 0 (0, 0)).2 = L) → jS RR 0 m = L * m
  | 0, _ => by simp [jS]
  | m + 1, h => by
    simp only [jS]
    rw [jS_L (m := m) (fun k x => h k (by omega)), h m (by omega), show ((m + 1 : Nat) : Int) = (m : Int) + 1 by omega, Int.mul_add, Int.mul_one]
theorem dm_u {L y x k i : Int} (hx : 0 ≤ x ∧ x < L) (hi : 0 ≤ i ∧ i < L) (e : L * y + x = L * k + i) : y = k ∧ x = i := by
  have q : ∀ a b : Int, a < b → L * a + L ≤ L * b := fun a b h => by
    have := Int.mul_le_mul_of_nonneg_left (show a + 1 ≤ b by omega) (show (0 : Int) ≤ L by omega)
    rwa [Int.mul_add, Int.mul_one] at this
  rcases Int.lt_trichotomy y k with h | h | h
  · have := q y k h; omega
  · subst h; exact ⟨rfl, by omega⟩
  · have := q k y h; omega
theorem m_fRow {σ : sg_S} {n base L : Int} {K m : Nat} {Q : Int → sg_S → Prop} (hC : fC σ) (hn : 0 ≤ n ∧ n < 210) (hm : 1 ≤ m ∧ m ≤ 200) (h96 : sg_g σ 96 n = m) (hb : 0 ≤ base ∧ base + m ≤ 12000) (hv : ∀ k : Nat, k < m → fL σ K L (sg_g σ 133 (base + k))) (hK : K ≤ 2) (hq : fq σ) (k : ∀ q σ', opR σ σ' (K + 1) L q → Q q σ') : V_flatRow σ n base L Q := by
  have hL := fL_L (hv 0 (by omega))
  have hC' := hC
  obtain ⟨c1, c2, c3, c4⟩ := hC
  obtain ⟨RR, hRR⟩ : ∃ RR : Nat → List (Int × Int), ∀ k : Nat, k < m → fV σ 6000 (sg_g σ 133 (base + k)) (RR k) ∧ (RR k).length = K + 1 ∧ ((RR k).getD 0 (0, 0)).2 = L := by
    refine ⟨fun k => if h : k < m then (hv k h).choose else [], fun k h => ?_⟩
    simp only [dif_pos h]
    exact (hv k h).choose_spec
  have xb : ∀ k, k < m → 0 ≤ eX (RR k) ∧ eX (RR k) ≤ 24000 := fun k h => by
    have a := eX_b (hRR k h).1.2.2.2.2
    rw [(hRR k h).2.1] at a
    omega
  have sxb : ∀ k, k ≤ m → 0 ≤ sX RR k ∧ sX RR k ≤ 24000 * k := fun k => by
    induction k with
    | zero => intro _; exact ⟨Int.le_refl _, Int.le_refl _⟩
    | succ k ih =>
      intro h
      have a := ih (by omega)
      have b := xb k (by omega)
      simp only [sX]
      omega
  unfold V_flatRow
  rw [h96]
  refine ⟨fun p v1 v2 => p = (m - v2).toNat ∧ (0 ≤ v2 ∧ v2 ≤ m) ∧ v1 = L + sX RR v2.toNat, fun v1 => v1 = L + sX RR m, ⟨_, rfl, ⟨by omega, by omega⟩, by simp only [show (0 : Int).toNat = 0 by rfl, sX]; omega⟩, ?_, ?_⟩
  · rintro p v1 v2 r1 r2 ⟨en, h2, e1⟩
    refine ⟨hn, fun c => by rw [e1, show v2.toNat = m by omega], fun c => ⟨⟨by omega, by omega⟩, ⟨by omega, by omega⟩, ?_⟩⟩
    have h := hRR v2.toNat (by omega)
    rw [show ((v2.toNat : Nat) : Int) = v2 by omega] at h
    have x1 := xb v2.toNat (by omega)
    have x2 := sxb v2.toNat (by omega)
    refine m_extent h.1 ⟨by decide, by decide⟩ (by omega) (fun _ => ⟨⟨by omega, by omega⟩, ⟨by omega, by omega⟩, _, by omega, rfl, ⟨by omega, by omega⟩, ?_⟩)
    rw [show (v2 + 1).toNat = v2.toNat + 1 by omega]
    simp only [sX]
    omega
  · rintro v1 r1 e1
    have x2 := sxb m (Nat.le_refl _)
    refine m_stepped ⟨c1, c2⟩ ⟨by omega, by omega⟩ (fun σ' e _ _ => ⟨fun z => absurd rfl z, fun _ => k _ _ (Or.inl e)⟩) (fun σ5 f5 s1 s2 s3 s4 _ _ => ⟨fun _ => ⟨hn, ?_⟩, fun z => by omega⟩)
    have e91 : sg_g σ5 88 91 = sg_g σ 88 91 := sg_F_g f5 (by rfl)
    have e87 : sg_g σ5 88 87 = sg_g σ 88 87 := sg_F_g f5 (by rfl)
    have jx : jT RR m (K + 1) = sX RR m := jT_X (fun k h => (hRR k h).2.1)
    have nn : ∀ l k, k < m → 0 ≤ ((RR k).getD l (0, 0)).2 := fun l k h => by
      by_cases c : l < K + 1
      · obtain ⟨r, hr⟩ : ∃ q, (RR k)[l]? = some q := ⟨_, List.getElem?_eq_getElem (by have := (hRR k h).2.1; omega)⟩
        rw [List.getD_eq_getElem?_getD, hr]
        exact (fCh_at (hRR k h).1.2.2.2.2 hr).1.2.1
      · rw [List.getD_eq_getElem?_getD, List.getElem?_eq_none (by have := (hRR k h).2.1; omega)]
        exact Int.le_refl _
    have jl : ∀ l, l < K + 1 → jS RR l m ≤ 6000 := fun l h => by
      have a := jT_m (RR := RR) (m := m) (K := K + 1) (fun l' _ => jS_0 (m := m) (fun k' h' => nn l' k' h') (Nat.le_refl _)) (l := l + 1) (l' := K + 1) (by omega) (Nat.le_refl _)
      have b := jT_m (RR := RR) (m := m) (K := K + 1) (fun l' _ => jS_0 (m := m) (fun k' h' => nn l' k' h') (Nat.le_refl _)) (l := 0) (l' := l) (by omega) (by omega)
      have a1 : jT RR m (l + 1) = jT RR m l + jS RR l m := rfl
      have b1 : jT RR m 0 = 0 := rfl
      omega
    refine m_join (RR := RR) (M := 6000) (m := m) (K := K + 1) ⟨rfl, hm.1⟩ ⟨hb.1, by omega⟩ (fun k h => ⟨?_, (hRR k h).2.1⟩) (by omega) ⟨by omega, by omega⟩ (by decide) (by rw [jx]; omega) (fun q σ6 eq ex6 fv6 _ e87' e91' f6 rq _ σ7 e7 => ?_)
    · have := fV_up (fEx_F f5 rfl) (hRR k h).1
      rwa [← sg_F_ga f5 (a := 133) rfl] at this
    have fv6' := fv6 6000 jl
    have f7 : sg_F [94088] σ6 σ7 := by rw [e7]; exact sg_F_w (sg_F_r _ _) rfl _
    have LR : ((jR RR (sg_g σ5 88 91) m (K + 1)).getD 0 (0, 0)).2 = L * m := by
      rw [List.getD_eq_getElem?_getD, jR_at (by omega)]
      exact jS_L (fun k h => (hRR k h).2.2)
    have Lm6 : L * (m : Int) ≤ 6000 := by
      have := jl 0 (by omega)
      rwa [jS_L (fun k h => (hRR k h).2.2)] at this
    have mL : ∀ x : Int, 0 ≤ x → x < L → (m : Int) * x + m ≤ L * m ∧ 0 ≤ (m : Int) * x := fun x x0 x1 => by
      have a := Int.mul_le_mul_of_nonneg_left (show x + 1 ≤ L by omega) (show (0 : Int) ≤ m by omega)
      rw [Int.mul_add, Int.mul_one, Int.mul_comm (m : Int) L] at a
      exact ⟨a, Int.mul_nonneg (by omega) x0⟩
    have kL : ∀ y x : Int, 0 ≤ y → y < m → 0 ≤ x → x < L → 0 ≤ L * y ∧ L * y + x < L * m := fun y x y0 y1 x0 x1 => by
      have a := Int.mul_le_mul_of_nonneg_left (show y + 1 ≤ (m : Int) by omega) (show (0 : Int) ≤ L by omega)
      rw [Int.mul_add, Int.mul_one] at a
      exact ⟨Int.mul_nonneg (by omega) y0, by omega⟩
    refine ⟨fun p x σ8 => p = (L - x).toNat ∧ (0 ≤ x ∧ x ≤ L) ∧ lD σ8 (m * x) (fun u => ∃ i k' : Int, (0 ≤ i ∧ i < L) ∧ (0 ≤ k' ∧ k' < m) ∧ i < x ∧ u = L * k' + i) ∧ (∀ i : Nat, (i : Int) < x → sg_g σ8 150 i = m), fun σ8 => lD σ8 (m * L) (fun u => ∃ i k' : Int, (0 ≤ i ∧ i < L) ∧ (0 ≤ k' ∧ k' < m) ∧ i < L ∧ u = L * k' + i) ∧ (∀ i : Nat, (i : Int) < L → sg_g σ8 150 i = m), ⟨_, rfl, ⟨by omega, by omega⟩, by rw [Int.mul_zero]; exact lD_0 e7, fun i h => by omega⟩, ?_, ?_⟩
    · rintro p x σ8 rx f8 ⟨en, hx, hd, hz⟩
      refine ⟨fun z => by rw [show x = L by omega] at hd hz; exact ⟨hd, hz⟩, fun z => ⟨⟨by omega, by omega⟩, fun σ9 e9 => ?_⟩⟩
      obtain ⟨m1, m2⟩ := mL x hx.1 z
      have f9 : sg_F [150] σ8 σ9 := by rw [e9]; exact sg_F_w (sg_F_r _ _) rfl _
      refine ⟨fun p y σ1 => p = (m - y).toNat ∧ (0 ≤ y ∧ y ≤ m) ∧ lD σ1 (m * x + y) (fun u => ∃ i k' : Int, (0 ≤ i ∧ i < L) ∧ (0 ≤ k' ∧ k' < m) ∧ (i < x ∨ (i = x ∧ k' < y)) ∧ u = L * k' + i), fun σ1 => lD σ1 (m * x + m) (fun u => ∃ i k' : Int, (0 ≤ i ∧ i < L) ∧ (0 ≤ k' ∧ k' < m) ∧ i < x + 1 ∧ u = L * k' + i), ⟨_, rfl, ⟨by omega, by omega⟩, ?_⟩, ?_, ?_⟩
      · rw [Int.add_zero]
        refine lD_w (lD_F f9 rfl hd) (fun u hu => ?_)
        obtain ⟨i, k', p1, p2, p3, p4⟩ := hu
        exact ⟨i, k', p1, p2, Or.inl p3, p4⟩
      · rintro p' y σ1 ry f1 ⟨en', hy, hd1⟩
        refine ⟨fun c => ?_, fun c => ?_⟩
        · rw [show (m : Int) = y by omega] at hd1 ⊢
          refine lD_w hd1 (fun u hu => ?_)
          obtain ⟨i, k', p1, p2, p3, p4⟩ := hu
          exact ⟨i, k', p1, p2, by omega, p4⟩
        · obtain ⟨q1, q2⟩ := kL y x hy.1 c hx.1 z
          refine ⟨⟨by omega, by omega⟩, ⟨by omega, by omega⟩, m_listD hd1 (by omega) ⟨by omega, by omega⟩ ?_ (fun σ2 h2 f2 => ⟨⟨by omega, by omega⟩, _, by omega, rfl, ⟨by omega, by omega⟩, ?_⟩)⟩
          · rintro ⟨i, k', p1, p2, p3, p4⟩
            obtain ⟨d1, d2⟩ := dm_u ⟨hx.1, z⟩ p1 p4
            omega
          · rw [← Int.add_assoc]
            refine lD_w h2 (fun u hu => ?_)
            rcases hu with ⟨i, k', p1, p2, p3, p4⟩ | e
            · exact ⟨i, k', p1, p2, by omega, p4⟩
            · exact ⟨x, y, ⟨hx.1, z⟩, ⟨hy.1, c⟩, by omega, e⟩
      · intro σ1 f1 hd1
        refine ⟨⟨by omega, by omega⟩, _, by omega, rfl, ⟨by omega, by omega⟩, by rw [Int.mul_add, Int.mul_one]; exact hd1, fun i hi => ?_⟩
        by_cases c : (i : Int) = x
        · rw [sg_F_ga f1 rfl, c, e9, sg_gw_e _ _ _ _ ⟨by omega, by omega⟩]
        · rw [sg_F_ga f1 rfl, e9, sg_gw_k _ _ _ _ _ _ (by omega)]; exact hz i (by omega)
    · rintro σ8 f8 ⟨hd, hz⟩
      have F8 : sg_F [143, 150, 94088] σ6 σ8 := sg_F_t (sg_F_m f7 rfl) f8
      have g91 : sg_g σ8 88 91 = sg_g σ 88 91 + sX RR m := by rw [sg_F_g F8 (by rfl), e91', e91, jx]
      have g87 : sg_g σ8 88 87 = sg_g σ 88 87 + 1 := by rw [sg_F_g F8 (by rfl)]; omega
      have fv8 := fV_up (fEx_F F8 rfl) fv6'
      have hP : ∀ u, (∃ i k' : Int, (0 ≤ i ∧ i < L) ∧ (0 ≤ k' ∧ k' < m) ∧ i < L ∧ u = L * k' + i) → 0 ≤ u ∧ u < L * m := fun u hu => by
        obtain ⟨i, k', p1, p2, p3, p4⟩ := hu
        obtain ⟨q1, q2⟩ := kL k' i p2.1 p2.2 p1.1 p1.2
        omega
      have gt := gT_d fv8.2.2.2.2 hd hP LR.symm
      rw [eX_j, jx] at gt
      have mLc : (m : Int) * L = L * m := Int.mul_comm _ _
      have lse : ∀ x : Nat, (x : Int) ≤ L → ls σ8 x = m * x := fun x => by
        induction x with
        | zero => intro _; simp [ls]
        | succ x ih =>
          intro h
          simp only [ls]
          rw [ih (by omega), hz x (by omega), show ((x + 1 : Nat) : Int) = (x : Int) + 1 by omega, Int.mul_add, Int.mul_one]
      have lseL := lse L.toNat (by omega)
      rw [show ((L.toNat : Nat) : Int) = L by omega] at lseL
      have ht : sg_g σ8 88 91 + gT σ8 (jR RR (sg_g σ5 88 91) m (K + 1)) ((m : Int) * L).toNat (jR RR (sg_g σ5 88 91) m (K + 1)).length + L ≤ 60000 := by omega
      refine m_tail (M := 6000) fv8 (by rw [jR_l]; omega) ⟨by decide, by decide⟩ (by omega) ⟨by omega, by omega⟩ (by rw [LR]; exact lD_O hd (fun u hu => (hP u hu).2)) (by omega) hL lseL.symm (fun i hi => by rw [hz i hi]; omega) (by omega) ht (fun q' σ9 ex9 e91'' e87'' f9 hf => ?_)
      obtain ⟨R', y1, y2, y3, y4⟩ := hf
      rw [jR_l] at y2 y4
      exact k q' σ9 (opR_mk (σ1 := σ5) (a := v1) (by omega) s2 (by omega) s4 (by omega) (sg_F_t (sg_F_m (L := [139, 140, 141, 142, 143, 144, 150, 88088, 92088, 94088]) f6 rfl) (sg_F_t (sg_F_m F8 rfl) (sg_F_m f9 rfl))) rfl (fq_F f9 rfl (fq_F F8 rfl (fq_F f6 rfl (fq_F f5 rfl hq)))) (fEx_t (fEx_F f5 rfl) (fEx_t ex6 (fEx_t (fEx_F F8 rfl) ex9))) (by omega) (by omega) ⟨R', y1, by omega, y3, by rw [jR_l] at gt; omega⟩)
end FP
/-! flat ops: CAT. -/
theorem cs_sh {σ σ' : sg_S} {p p' : Int} : ∀ {n : Nat}, (∀ t, 0 ≤ t → t < (n : Int) → sg_g σ' 142 (p + t) = sg_g σ 142 (p' + t)) → cs σ' p n = cs σ p' n
  | 0, _ => rfl
  | n + 1, h => by
    simp only [cs]
    rw [cs_sh (n := n) (fun t x y => h t x (by omega)), h n (by omega) (by omega)]
/-- two values joined: where lanes begin -/
def two (R1 R2 : List (Int × Int)) : Nat → List (Int × Int) := fun k => if k = 0 then R1 else R2
theorem two_T {R1 R2 : List (Int × Int)} {K : Nat} (h1 : R1.length = K) (h2 : R2.length = K) : jT (two R1 R2) 2 K = eX R1 + eX R2 := by
  rw [jT_X (fun k _ => by unfold two; split <;> assumption)]
  simp only [sX, two]
  simp
theorem bg_j {σ σ' : sg_S} {R1 R2 : List (Int × Int)} {M c : Int} {K : Nat} (h1 : fCh σ M R1) (h2 : fCh σ M R2) (l1 : R1.length = K) (l2 : R2.length = K) (hj : ∀ l : Nat, l < K → jC σ (two R1 R2) c 2 l 2 0 σ') : ∀ l, l < K → (∀ j, 0 ≤ j → j ≤ (R1.getD 0 (0, 0)).2 → bg σ' (jR (two R1 R2) c 2 K) l j = bg σ R1 l j) ∧ ∀ j, 0 ≤ j → j ≤ (R2.getD 0 (0, 0)).2 → bg σ' (jR (two R1 R2) c 2 K) l ((R1.getD 0 (0, 0)).2 + j) = (R1.getD l (0, 0)).2 + bg σ R2 l j
  | 0, h => ⟨fun j _ _ => rfl, fun j _ _ => rfl⟩
  | l + 1, h => by
    obtain ⟨i1, i2⟩ := bg_j h1 h2 l1 l2 hj l (by omega)
    obtain ⟨r, hr⟩ : ∃ q, R1[l]? = some q := ⟨_, List.getElem?_eq_getElem (by omega)⟩
    obtain ⟨r', hr'⟩ : ∃ q, R1[l + 1]? = some q := ⟨_, List.getElem?_eq_getElem (by omega)⟩
    obtain ⟨s, hs⟩ : ∃ q, R2[l]? = some q := ⟨_, List.getElem?_eq_getElem (by omega)⟩
    have er : R1.getD l (0, 0) = r := by rw [List.getD_eq_getElem?_getD, hr]; rfl
    have er' : R1.getD (l + 1) (0, 0) = r' := by rw [List.getD_eq_getElem?_getD, hr']; rfl
    have es : R2.getD l (0, 0) = s := by rw [List.getD_eq_getElem?_getD, hs]; rfl
    have eb : ((jR (two R1 R2) c 2 K).getD l (0, 0)).1 = c + jT (two R1 R2) 2 l := by rw [List.getD_eq_getElem?_getD, jR_at (by omega)]; rfl
    obtain ⟨j1, -⟩ := hj l (by omega)
    have c0 := j1 0 (by omega)
    have c1 := j1 1 (by omega)
    simp only [two, jS] at c0 c1
    simp only [if_true] at c0
    rw [if_neg (by decide)] at c1
    simp only [if_true] at c1
    rw [er] at c0 c1
    rw [es] at c1
    obtain ⟨w1, w2⟩ := fCh_at h1 hr
    obtain ⟨w3, w4⟩ := w2 r' hr'
    have rn := w1.2.1
    simp only [bg]
    rw [eb, er, er', es]
    refine ⟨fun j x y => ?_, fun j x y => ?_⟩
    · rw [i1 j x y]
      have b := bg_m h1 hr j j x (Int.le_refl _) y
      exact cs_sh (fun t t0 t1 => by
        have := c0 t t0 (by omega)
        rwa [Int.add_zero] at this)
    · rw [i2 j x y, er]
      have b := bg_m h2 hs j j x (Int.le_refl _) y
      rw [show (r.2 + bg σ R2 l j).toNat = r.2.toNat + (bg σ R2 l j).toNat by omega, cs_app, w4]
      congr 1
      · exact cs_sh (fun t t0 t1 => by
          have := c0 t t0 (by omega)
          rwa [Int.add_zero] at this)
      · refine cs_sh (fun t t0 t1 => ?_)
        have := c1 t t0 (by omega)
        rw [Int.zero_add] at this
        rw [show c + jT (two R1 R2) 2 l + ((r.2.toNat : Nat) : Int) + t = c + jT (two R1 R2) 2 l + r.2 + t by omega]
        exact this
/-- rows together of G -/
def gFs (G : Nat → Int) : Nat → Int
  | 0 => 0
  | l + 1 => gFs G l + G l
theorem gT_G {σ : sg_S} {R : List (Int × Int)} {J : Nat} {G : Nat → Int} : ∀ {n : Nat}, (∀ l, l < n → gsum σ R l J = G l) → gT σ R J n = gFs G n
  | 0, _ => rfl
  | n + 1, h => by simp only [gT, gFs]; rw [gT_G (n := n) (fun l x => h l (by omega)), h n (by omega)]
theorem gFs_a {A B G : Nat → Int} : ∀ {n : Nat}, (∀ l, l < n → G l = A l + B l) → gFs G n = gFs A n + gFs B n
  | 0, _ => rfl
  | n + 1, h => by simp only [gFs]; rw [gFs_a (n := n) (fun l x => h l (by omega)), h n (by omega)]; omega
theorem gFs_D {R : List (Int × Int)} {G : Nat → Int} : ∀ {n : Nat}, (∀ l, l < n → G l = (R.getD l (0, 0)).2) → gFs G n = eD R n
  | 0, _ => rfl
  | n + 1, h => by simp only [gFs, eD]; rw [gFs_D (n := n) (fun l x => h l (by omega)), h n (by omega)]
/-- all lanes listed: all that there is -/
theorem oG_all {σ : sg_S} {R : List (Int × Int)} {p : Int} {l : Nat} : ∀ {n : Nat}, (∀ i : Nat, i < n → 0 ≤ sg_g σ 150 i) → oG σ R p l n = bg σ R l (cs σ p n)
  | 0, _ => (bg_0 l).symm
  | n + 1, h => by
    simp only [oG]
    rw [oG_all (n := n) (fun i x => h i (by omega)), if_pos (h n (by omega))]
    omega
theorem oG_e {σ σ' : sg_S} {R : List (Int × Int)} {p : Int} {l : Nat} (hc : ∀ y, sg_g σ' 142 y = sg_g σ 142 y) (hl : ∀ i : Int, sg_g σ' 150 i = sg_g σ 150 i) : ∀ n : Nat, oG σ' R p l n = oG σ R p l n
  | 0 => rfl
  | n + 1 => by
    simp only [oG]
    rw [oG_e hc hl n, hl, bg_e hc, bg_e hc, cs_e (σ := σ) (fun j _ => hc _), cs_e (σ := σ) (fun j _ => hc _)]
/-- what the joined lanes hold -/
def oB (σ σb : sg_S) (RB : List (Int × Int)) (p p' n1 : Int) (l : Nat) : Nat → Int
  | 0 => 0
  | i + 1 => oB σ σb RB p p' n1 l i + (if 0 ≤ sg_g σ 150 i then (bg σb RB l (cs σ p (i + 1)) - bg σb RB l (cs σ p i)) + (bg σb RB l (n1 + cs σ p' (i + 1)) - bg σb RB l (n1 + cs σ p' i)) else 0)
theorem oB_s {σ σb : sg_S} {RB : List (Int × Int)} {p p' n1 x : Int} {l : Nat} (h : 0 ≤ x) : oB σ σb RB p p' n1 l (x + 1).toNat = oB σ σb RB p p' n1 l x.toNat + (if 0 ≤ sg_g σ 150 x then (bg σb RB l (cs σ p (x + 1).toNat) - bg σb RB l (cs σ p x.toNat)) + (bg σb RB l (n1 + cs σ p' (x + 1).toNat) - bg σb RB l (n1 + cs σ p' x.toNat)) else 0) := by
  rw [show (x + 1).toNat = x.toNat + 1 by omega]
  simp only [oB]
  rw [show ((x.toNat : Nat) : Int) = x by omega]
theorem oB_o {σ σb : sg_S} {RB R1 R2 : List (Int × Int)} {p p' n1 n2 c0 : Int} {l : Nat} (h1 : ∀ j, 0 ≤ j → j ≤ n1 → bg σb RB l j = bg σ R1 l j) (h2 : ∀ j, 0 ≤ j → j ≤ n2 → bg σb RB l (n1 + j) = c0 + bg σ R2 l j) : ∀ n : Nat, (∀ i : Nat, i ≤ n → (0 ≤ cs σ p i ∧ cs σ p i ≤ n1) ∧ 0 ≤ cs σ p' i ∧ cs σ p' i ≤ n2) → oB σ σb RB p p' n1 l n = oG σ R1 p l n + oG σ R2 p' l n
  | 0, _ => rfl
  | n + 1, h => by
    have a := h n (by omega)
    have b := h (n + 1) (by omega)
    simp only [oB, oG]
    rw [oB_o h1 h2 n (fun i x => h i (by omega)), h1 _ a.1.1 a.1.2, h1 _ b.1.1 b.1.2, h2 _ a.2.1 a.2.2, h2 _ b.2.1 b.2.2]
    split <;> omega
