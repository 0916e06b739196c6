/-! WHAT IS SHOWN: images and texts of values. -/
/-- k digits, the highest first -/
def dgs : Nat → Int → List Int
  | 0, _ => []
  | k + 1, s => (48 + s / 10 ^ k % 10) :: dgs k s
/-- how many digits -/
def nDg (s : Int) : Nat := if s < 10 then 1 else if s < 100 then 2 else if s < 1000 then 3 else if s < 10000 then 4 else if s < 100000 then 5 else if s < 1000000 then 6 else if s < 10000000 then 7 else if s < 100000000 then 8 else if s < 1000000000 then 9 else 10
theorem nDg_e {s : Int} {k : Nat} (hs : s ≤ 2147483648) (h1 : 1 ≤ k) (ha : s < 10 ^ k) (hb : k = 1 ∨ (10 : Int) ^ (k - 1) ≤ s) : nDg s = k := by
  have hk : k ≤ 10 := by
    rcases hb with q | q
    · omega
    · have := pow10 (c := k - 1) (by omega)
      omega
  have c : k = 1 ∨ k = 2 ∨ k = 3 ∨ k = 4 ∨ k = 5 ∨ k = 6 ∨ k = 7 ∨ k = 8 ∨ k = 9 ∨ k = 10 := by omega
  rcases c with rfl | rfl | rfl | rfl | rfl | rfl | rfl | rfl | rfl | rfl
  · rw [show (10 : Int) ^ 1 = 10 from rfl] at ha
    unfold nDg
    rw [if_pos ha]
  · rw [show (10 : Int) ^ 2 = 100 from rfl] at ha
    rw [show (10 : Int) ^ (2 - 1) = 10 from rfl] at hb
    unfold nDg
    rw [if_neg (by omega), if_pos ha]
  · rw [show (10 : Int) ^ 3 = 1000 from rfl] at ha
    rw [show (10 : Int) ^ (3 - 1) = 100 from rfl] at hb
    unfold nDg
    rw [if_neg (by omega), if_neg (by omega), if_pos ha]
  · rw [show (10 : Int) ^ 4 = 10000 from rfl] at ha
    rw [show (10 : Int) ^ (4 - 1) = 1000 from rfl] at hb
    unfold nDg
    rw [if_neg (by omega), if_neg (by omega), if_neg (by omega), if_pos ha]
  · rw [show (10 : Int) ^ 5 = 100000 from rfl] at ha
    rw [show (10 : Int) ^ (5 - 1) = 10000 from rfl] at hb
    unfold nDg
    rw [if_neg (by omega), if_neg (by omega), if_neg (by omega), if_neg (by omega), if_pos ha]
  · rw [show (10 : Int) ^ 6 = 1000000 from rfl] at ha
    rw [show (10 : Int) ^ (6 - 1) = 100000 from rfl] at hb
    unfold nDg
    rw [if_neg (by omega), if_neg (by omega), if_neg (by omega), if_neg (by omega), if_neg (by omega), if_pos ha]
  · rw [show (10 : Int) ^ 7 = 10000000 from rfl] at ha
    rw [show (10 : Int) ^ (7 - 1) = 1000000 from rfl] at hb
    unfold nDg
    rw [if_neg (by omega), if_neg (by omega), if_neg (by omega), if_neg (by omega), if_neg (by omega), if_neg (by omega), if_pos ha]
  · rw [show (10 : Int) ^ 8 = 100000000 from rfl] at ha
    rw [show (10 : Int) ^ (8 - 1) = 10000000 from rfl] at hb
    unfold nDg
    rw [if_neg (by omega), if_neg (by omega), if_neg (by omega), if_neg (by omega), if_neg (by omega), if_neg (by omega), if_neg (by omega), if_pos ha]
  · rw [show (10 : Int) ^ 9 = 1000000000 from rfl] at ha
    rw [show (10 : Int) ^ (9 - 1) = 100000000 from rfl] at hb
    unfold nDg
    rw [if_neg (by omega), if_neg (by omega), if_neg (by omega), if_neg (by omega), if_neg (by omega), if_neg (by omega), if_neg (by omega), if_neg (by omega), if_pos ha]
  · rw [show (10 : Int) ^ (10 - 1) = 1000000000 from rfl] at hb
    unfold nDg
    rw [if_neg (by omega), if_neg (by omega), if_neg (by omega), if_neg (by omega), if_neg (by omega), if_neg (by omega), if_neg (by omega), if_neg (by omega), if_neg (by omega)]
theorem nDg_r (s : Int) : 1 ≤ nDg s ∧ nDg s ≤ 10 := by
  unfold nDg
  repeat (first | (constructor <;> omega) | split)
theorem dgs_l : ∀ (k : Nat) (s : Int), (dgs k s).length = k
  | 0, _ => rfl
  | k + 1, s => by simp only [dgs, List.length_cons, dgs_l k s]
theorem dgs_r : ∀ {k : Nat} {s x : Int}, x ∈ dgs k s → 48 ≤ x ∧ x ≤ 57
  | 0, _, _, h => by cases h
  | k + 1, s, x, h => by
    rcases List.mem_cons.mp h with q | q
    · rw [q]
      generalize s / 10 ^ k = y
      omega
    · exact dgs_r q
/-- a number's text -/
def txN (x : Int) : List Int := if x < 0 then 45 :: dgs (nDg (-x)) (-x) else dgs (nDg x) x
theorem txN_l (x : Int) : 1 ≤ (txN x).length ∧ (txN x).length ≤ 11 := by
  unfold txN
  split
  · rw [List.length_cons, dgs_l]
    have := nDg_r (-x)
    omega
  · rw [dgs_l]
    have := nDg_r x
    omega
/-- images one behind the other -/
def imL (f : vaF → List Int) : List vaF → List Int
  | [] => []
  | v :: r => f v ++ imL f r
/-- a value's image -/
def imF : Nat → vaF → List Int
  | 0, v => [v []]
  | d + 1, v => ((itF v).length : Int) :: imL (imF d) (itF v)
/-- texts, a comma ahead of each -/
def txR (f : vaF → List Int) : List vaF → List Int
  | [] => []
  | v :: r => 44 :: (f v ++ txR f r)
def txL (f : vaF → List Int) : List vaF → List Int
  | [] => []
  | v :: r => f v ++ txR f r
/-- a value's text -/
def txF : Nat → vaF → List Int
  | 0, v => txN (v [])
  | d + 1, v => 91 :: (txL (txF d) (itF v) ++ [93])
theorem imL_a (f : vaF → List Int) : ∀ (l m : List vaF), imL f (l ++ m) = imL f l ++ imL f m
  | [], m => rfl
  | v :: r, m => by simp only [List.cons_append, imL, imL_a f r m, List.append_assoc]
theorem imL_s (f : vaF → List Int) (l : List vaF) (w : vaF) : imL f (l ++ [w]) = imL f l ++ f w := by rw [imL_a]; simp only [imL, List.append_nil]
theorem txR_a (f : vaF → List Int) : ∀ (l m : List vaF), txR f (l ++ m) = txR f l ++ txR f m
  | [], m => rfl
  | v :: r, m => by simp only [List.cons_append, txR, txR_a f r m, List.append_assoc]
theorem txL_s (f : vaF → List Int) (l : List vaF) (w : vaF) (h : ¬ l = []) : txL f (l ++ [w]) = txL f l ++ 44 :: f w := by
  cases l with
  | nil => exact absurd rfl h
  | cons v r =>
    simp only [List.cons_append, txL, txR_a, txR, List.append_nil, List.append_assoc]
theorem txL_1 (f : vaF → List Int) (w : vaF) : txL f ([] ++ [w]) = f w := by simp only [List.nil_append, txL, txR, List.append_nil]
/-- lengths that may be shown -/
def vkF : Nat → vaF → Prop
  | 0, v => sg_R (v [])
  | d + 1, v => (itF v).length ≤ 200 ∧ ∀ w ∈ itF v, vkF d w
theorem imF_1 (d : Nat) (v : vaF) : 1 ≤ (imF d v).length := by
  cases d with
  | zero => exact Nat.le_refl _
  | succ d => simp only [imF, List.length_cons]; omega
theorem tx_R {f g : vaF → List Int} : ∀ {l : List vaF}, (∀ v ∈ l, (f v).length + 1 ≤ 12 * (g v).length) → (txR f l).length ≤ 12 * (imL g l).length
  | [], _ => Nat.le_refl _
  | v :: r, h => by
    have a := h v (by simp)
    have b := tx_R (l := r) (fun w hw => h w (by simp [hw]))
    simp only [txR, imL, List.length_cons, List.length_append]
    omega
theorem tx_b : ∀ (d : Nat) (v : vaF), (txF d v).length + 1 ≤ 12 * (imF d v).length
  | 0, v => by
    have := txN_l (v [])
    simp only [txF, imF, List.length_cons, List.length_nil]
    omega
  | d + 1, v => by
    have e : (txL (txF d) (itF v)).length ≤ 12 * (imL (imF d) (itF v)).length := by
      cases itF v with
      | nil => exact Nat.le_refl _
      | cons w r =>
        have a := tx_b d w
        have b := tx_R (f := txF d) (g := imF d) (l := r) (fun w _ => tx_b d w)
        simp only [txL, imL, List.length_append]
        omega
    simp only [txF, imF, List.length_cons, List.length_append, List.length_nil]
    omega
/-- images are as long as what a value counts -/
theorem imL_c {d : Nat} (h : ∀ v, ((imF d v).length : Int) = 1 + cnvF d v) : ∀ l : List vaF, ((imL (imF d) l).length : Int) = cnL d l
  | [] => rfl
  | v :: r => by
    have a := h v
    have b := imL_c h r
    unfold cnL at b ⊢
    simp only [imL, List.length_append, List.length_cons, List.map_cons, sumF]
    omega
theorem imF_c : ∀ (d : Nat) (v : vaF), ((imF d v).length : Int) = 1 + cnvF d v
  | 0, v => rfl
  | d + 1, v => by
    have := imL_c (imF_c d) (itF v)
    unfold cnL at this
    simp only [imF, cnvF, List.length_cons]
    omega
/-- letters behind what stands there; I: the object, X: its text -/
def aTx (I X : Nat) (σ σ' : sg_S) (l : List Int) : Prop := sg_g σ' I 5 = sg_g σ I 5 + l.length ∧ (∀ i, i < sg_g σ I 5 → sg_g σ' X i = sg_g σ X i) ∧ ∀ (i : Nat) (x : Int), l[i]? = some x → sg_g σ I 5 + i < 2000 → sg_g σ' X (sg_g σ I 5 + i) = x
theorem aTx_0 (I X : Nat) (σ : sg_S) : aTx I X σ σ [] := ⟨by simp, fun _ _ => rfl, fun i x h => (by cases h)⟩
theorem aTx_t {I X : Nat} {σ σ1 σ2 : sg_S} {l m : List Int} (h : aTx I X σ σ1 l) (g : aTx I X σ1 σ2 m) : aTx I X σ σ2 (l ++ m) := by
  obtain ⟨a1, a2, a3⟩ := h
  obtain ⟨b1, b2, b3⟩ := g
  refine ⟨by rw [b1, a1, List.length_append]; omega, fun i hi => by rw [b2 i (by omega), a2 i hi], fun i x hx hl => ?_⟩
  by_cases c : i < l.length
  · rw [List.getElem?_append_left c] at hx
    rw [b2 _ (by omega)]
    exact a3 i x hx hl
  · rw [List.getElem?_append_right (by omega)] at hx
    have := b3 (i - l.length) x hx (by omega)
    rw [show sg_g σ1 I 5 + ((i - l.length : Nat) : Int) = sg_g σ I 5 + i by omega] at this
    exact this
theorem aTx_F {I X : Nat} {K : List Nat} {σ σ1 σ2 : sg_S} {l : List Int} (h : aTx I X σ σ1 l) (f : sg_F K σ1 σ2) (h1 : sg_cv K I 5 = false) (h2 : sg_ca K X = true) (hI : I < 1000 := by decide) (hX : X < 1000 := by decide) : aTx I X σ σ2 l := by
  obtain ⟨a1, a2, a3⟩ := h
  exact ⟨by rw [sg_F_g f h1 hI]; exact a1, fun i hi => by rw [sg_F_g f (sg_ca_cv h2 hX i) hX]; exact a2 i hi, fun i x hx hl => by rw [sg_F_g f (sg_ca_cv h2 hX _) hX]; exact a3 i x hx hl⟩
/-- values behind what stands there; V: the row of values -/
def aIm (I V : Nat) (σ σ' : sg_S) (l : List Int) : Prop := sg_g σ' I 2 = sg_g σ I 2 + l.length ∧ (∀ i, i < sg_g σ I 2 → sg_g σ' V i = sg_g σ V i) ∧ ∀ (i : Nat) (x : Int), l[i]? = some x → sg_g σ' V (sg_g σ I 2 + i) = x
theorem aIm_0 (I V : Nat) (σ : sg_S) : aIm I V σ σ [] := ⟨by simp, fun _ _ => rfl, fun i x h => (by cases h)⟩
theorem aIm_t {I V : Nat} {σ σ1 σ2 : sg_S} {l m : List Int} (h : aIm I V σ σ1 l) (g : aIm I V σ1 σ2 m) : aIm I V σ σ2 (l ++ m) := by
  obtain ⟨a1, a2, a3⟩ := h
  obtain ⟨b1, b2, b3⟩ := g
  refine ⟨by rw [b1, a1, List.length_append]; omega, fun i hi => by rw [b2 i (by omega), a2 i hi], fun i x hx => ?_⟩
  by_cases c : i < l.length
  · rw [List.getElem?_append_left c] at hx
    rw [b2 _ (by omega)]
    exact a3 i x hx
  · rw [List.getElem?_append_right (by omega)] at hx
    have := b3 (i - l.length) x hx
    rw [show sg_g σ1 I 2 + ((i - l.length : Nat) : Int) = sg_g σ I 2 + i by omega] at this
    exact this
/-- what a letter is as a byte, a digit as a letter -/
theorem nb7 {c : Int} (h : 0 ≤ c ∧ c < 128) : (am_nb 1 (sg_i ((((sg_i c).toInt8.toInt32).toInt)))).toInt = c := by
  have k : ∀ n : Nat, n < 128 → (am_nb 1 (sg_i ((((sg_i (n : Int)).toInt8.toInt32).toInt)))).toInt = (n : Int) := by decide +kernel
  have := k c.toNat (by omega)
  rw [show ((c.toNat : Nat) : Int) = c by omega] at this
  exact this
theorem ch16 {c : Int} (h : 0 ≤ c ∧ c < 128) : ((((sg_i c).toUInt32 % 65536).toInt32).toInt) = c := by
  have k : ∀ n : Nat, n < 128 → ((((sg_i (n : Int)).toUInt32 % 65536).toInt32).toInt) = (n : Int) := by decide +kernel
  have := k c.toNat (by omega)
  rw [show ((c.toNat : Nat) : Int) = c by omega] at this
  exact this
