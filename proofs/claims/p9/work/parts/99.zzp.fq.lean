/-! flat ops: CAT. -/
theorem cs_sh {σ σ' : sg_S} {p p' : Int} : ∀ {n : Nat}, (∀ t, 0 ≤ t → t < (n : Int) → sg_g σ' 142 (p + t) = sg_g σ 142 (p' + t)) → cs σ' p n = cs σ p' n
  | 0, _ => rfl
  | n + 1, h => by
    simp only [cs]
    rw [cs_sh (n := n) (fun t x y => h t x (by omega)), h n (by omega) (by omega)]
/-- two values joined: where lanes begin -/
def two (R1 R2 : List (Int × Int)) : Nat → List (Int × Int) := fun k => if k = 0 then R1 else R2
theorem two_T {R1 R2 : List (Int × Int)} {K : Nat} (h1 : R1.length = K) (h2 : R2.length = K) : jT (two R1 R2) 2 K = eX R1 + eX R2 := by
  rw [jT_X (fun k _ => by unfold two; split <;> assumption)]
  simp only [sX, two]
  simp
theorem bg_j {σ σ' : sg_S} {R1 R2 : List (Int × Int)} {M c : Int} {K : Nat} (h1 : fCh σ M R1) (h2 : fCh σ M R2) (l1 : R1.length = K) (l2 : R2.length = K) (hj : ∀ l : Nat, l < K → jC σ (two R1 R2) c 2 l 2 0 σ') : ∀ l, l < K → (∀ j, 0 ≤ j → j ≤ (R1.getD 0 (0, 0)).2 → bg σ' (jR (two R1 R2) c 2 K) l j = bg σ R1 l j) ∧ ∀ j, 0 ≤ j → j ≤ (R2.getD 0 (0, 0)).2 → bg σ' (jR (two R1 R2) c 2 K) l ((R1.getD 0 (0, 0)).2 + j) = (R1.getD l (0, 0)).2 + bg σ R2 l j
  | 0, h => ⟨fun j _ _ => rfl, fun j _ _ => rfl⟩
  | l + 1, h => by
    obtain ⟨i1, i2⟩ := bg_j h1 h2 l1 l2 hj l (by omega)
    obtain ⟨r, hr⟩ : ∃ q, R1[l]? = some q := ⟨_, List.getElem?_eq_getElem (by omega)⟩
    obtain ⟨r', hr'⟩ : ∃ q, R1[l + 1]? = some q := ⟨_, List.getElem?_eq_getElem (by omega)⟩
    obtain ⟨s, hs⟩ : ∃ q, R2[l]? = some q := ⟨_, List.getElem?_eq_getElem (by omega)⟩
    have er : R1.getD l (0, 0) = r := by rw [List.getD_eq_getElem?_getD, hr]; rfl
    have er' : R1.getD (l + 1) (0, 0) = r' := by rw [List.getD_eq_getElem?_getD, hr']; rfl
    have es : R2.getD l (0, 0) = s := by rw [List.getD_eq_getElem?_getD, hs]; rfl
    have eb : ((jR (two R1 R2) c 2 K).getD l (0, 0)).1 = c + jT (two R1 R2) 2 l := by rw [List.getD_eq_getElem?_getD, jR_at (by omega)]; rfl
    obtain ⟨j1, -⟩ := hj l (by omega)
    have c0 := j1 0 (by omega)
    have c1 := j1 1 (by omega)
    simp only [two, jS] at c0 c1
    simp only [if_true] at c0
    rw [if_neg (by decide)] at c1
    simp only [if_true] at c1
    rw [er] at c0 c1
    rw [es] at c1
    obtain ⟨w1, w2⟩ := fCh_at h1 hr
    obtain ⟨w3, w4⟩ := w2 r' hr'
    have rn := w1.2.1
    simp only [bg]
    rw [eb, er, er', es]
    refine ⟨fun j x y => ?_, fun j x y => ?_⟩
    · rw [i1 j x y]
      have b := bg_m h1 hr j j x (Int.le_refl _) y
      exact cs_sh (fun t t0 t1 => by
        have := c0 t t0 (by omega)
        rwa [Int.add_zero] at this)
    · rw [i2 j x y, er]
      have b := bg_m h2 hs j j x (Int.le_refl _) y
      rw [show (r.2 + bg σ R2 l j).toNat = r.2.toNat + (bg σ R2 l j).toNat by omega, cs_app, w4]
      congr 1
      · exact cs_sh (fun t t0 t1 => by
          have := c0 t t0 (by omega)
          rwa [Int.add_zero] at this)
      · refine cs_sh (fun t t0 t1 => ?_)
        have := c1 t t0 (by omega)
        rw [Int.zero_add] at this
        rw [show c + jT (two R1 R2) 2 l + ((r.2.toNat : Nat) : Int) + t = c + jT (two R1 R2) 2 l + r.2 + t by omega]
        exact this
/-- rows together of G -/
def gFs (G : Nat → Int) : Nat → Int
  | 0 => 0
  | l + 1 => gFs G l + G l
theorem gT_G {σ : sg_S} {R : List (Int × Int)} {J : Nat} {G : Nat → Int} : ∀ {n : Nat}, (∀ l, l < n → gsum σ R l J = G l) → gT σ R J n = gFs G n
  | 0, _ => rfl
  | n + 1, h => by simp only [gT, gFs]; rw [gT_G (n := n) (fun l x => h l (by omega)), h n (by omega)]
theorem gFs_a {A B G : Nat → Int} : ∀ {n : Nat}, (∀ l, l < n → G l = A l + B l) → gFs G n = gFs A n + gFs B n
  | 0, _ => rfl
  | n + 1, h => by simp only [gFs]; rw [gFs_a (n := n) (fun l x => h l (by omega)), h n (by omega)]; omega
theorem gFs_D {R : List (Int × Int)} {G : Nat → Int} : ∀ {n : Nat}, (∀ l, l < n → G l = (R.getD l (0, 0)).2) → gFs G n = eD R n
  | 0, _ => rfl
  | n + 1, h => by simp only [gFs, eD]; rw [gFs_D (n := n) (fun l x => h l (by omega)), h n (by omega)]
/-- all lanes listed: all that there is -/
theorem oG_all {σ : sg_S} {R : List (Int × Int)} {p : Int} {l : Nat} : ∀ {n : Nat}, (∀ i : Nat, i < n → 0 ≤ sg_g σ 150 i) → oG σ R p l n = bg σ R l (cs σ p n)
  | 0, _ => (bg_0 l).symm
  | n + 1, h => by
    simp only [oG]
    rw [oG_all (n := n) (fun i x => h i (by omega)), if_pos (h n (by omega))]
    omega
theorem oG_e {σ σ' : sg_S} {R : List (Int × Int)} {p : Int} {l : Nat} (hc : ∀ y, sg_g σ' 142 y = sg_g σ 142 y) (hl : ∀ i : Int, sg_g σ' 150 i = sg_g σ 150 i) : ∀ n : Nat, oG σ' R p l n = oG σ R p l n
  | 0 => rfl
  | n + 1 => by
    simp only [oG]
    rw [oG_e hc hl n, hl, bg_e hc, bg_e hc, cs_e (σ := σ) (fun j _ => hc _), cs_e (σ := σ) (fun j _ => hc _)]
/-- what the joined lanes hold -/
def oB (σ σb : sg_S) (RB : List (Int × Int)) (p p' n1 : Int) (l : Nat) : Nat → Int
  | 0 => 0
  | i + 1 => oB σ σb RB p p' n1 l i + (if 0 ≤ sg_g σ 150 i then (bg σb RB l (cs σ p (i + 1)) - bg σb RB l (cs σ p i)) + (bg σb RB l (n1 + cs σ p' (i + 1)) - bg σb RB l (n1 + cs σ p' i)) else 0)
theorem oB_s {σ σb : sg_S} {RB : List (Int × Int)} {p p' n1 x : Int} {l : Nat} (h : 0 ≤ x) : oB σ σb RB p p' n1 l (x + 1).toNat = oB σ σb RB p p' n1 l x.toNat + (if 0 ≤ sg_g σ 150 x then (bg σb RB l (cs σ p (x + 1).toNat) - bg σb RB l (cs σ p x.toNat)) + (bg σb RB l (n1 + cs σ p' (x + 1).toNat) - bg σb RB l (n1 + cs σ p' x.toNat)) else 0) := by
  rw [show (x + 1).toNat = x.toNat + 1 by omega]
  simp only [oB]
  rw [show ((x.toNat : Nat) : Int) = x by omega]
theorem oB_o {σ σb : sg_S} {RB R1 R2 : List (Int × Int)} {p p' n1 n2 c0 : Int} {l : Nat} (h1 : ∀ j, 0 ≤ j → j ≤ n1 → bg σb RB l j = bg σ R1 l j) (h2 : ∀ j, 0 ≤ j → j ≤ n2 → bg σb RB l (n1 + j) = c0 + bg σ R2 l j) : ∀ n : Nat, (∀ i : Nat, i ≤ n → (0 ≤ cs σ p i ∧ cs σ p i ≤ n1) ∧ 0 ≤ cs σ p' i ∧ cs σ p' i ≤ n2) → oB σ σb RB p p' n1 l n = oG σ R1 p l n + oG σ R2 p' l n
  | 0, _ => rfl
  | n + 1, h => by
    have a := h n (by omega)
    have b := h (n + 1) (by omega)
    simp only [oB, oG]
    rw [oB_o h1 h2 n (fun i x => h i (by omega)), h1 _ a.1.1 a.1.2, h1 _ b.1.1 b.1.2, h2 _ a.2.1 a.2.2, h2 _ b.2.1 b.2.2]
    split <;> omega
