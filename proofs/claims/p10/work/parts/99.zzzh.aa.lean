/-! WHAT IS SHOWN: images and texts of values. -/
/-- k digits, the highest first -/
def dgs : Nat → Int → List Int
  | 0, _ => []
  | k + 1, s => (48 + s / 10 ^ k % 10) :: dgs k s
/-- how many digits -/
def nDg (s : Int) : Nat := if s < 10 then 1 else if s < 100 then 2 else if s < 1000 then 3 else if s < 10000 then 4 else if s < 100000 then 5 else if s < 1000000 then 6 else if s < 10000000 then 7 else if s < 100000000 then 8 else if s < 1000000000 then 9 else 10
theorem nDg_e {s : Int} {k : Nat} (hs : s ≤ 2147483648) (h1 : 1 ≤ k) (ha : s < 10 ^ k) (hb : k = 1 ∨ (10 : Int) ^ (k - 1) ≤ s) : nDg s = k := by
  have hk : k ≤ 10 := by
    rcases hb with q | q
    · omega
    · have := pow10 (c := k - 1) (by omega)
      omega
  have c : k = 1 ∨ k = 2 ∨ k = 3 ∨ k = 4 ∨ k = 5 ∨ k = 6 ∨ k = 7 ∨ k = 8 ∨ k = 9 ∨ k = 10 := by omega
  rcases c with rfl | rfl | rfl | rfl | rfl | rfl | rfl | rfl | rfl | rfl
  · rw [show (10 : Int) ^ 1 = 10 from rfl] at ha
    unfold nDg
    rw [if_pos ha]
  · rw [show (10 : Int) ^ 2 = 100 from rfl] at ha
    rw [show (10 : Int) ^ (2 - 1) = 10 from rfl] at hb
    unfold nDg
    rw [if_neg (by omega), if_pos ha]
  · rw [show (10 : Int) ^ 3 = 1000 from rfl] at ha
    rw [show (10 : Int) ^ (3 - 1) = 100 from rfl] at hb
    unfold nDg
    rw [if_neg (by omega), if_neg (by omega), if_pos ha]
  · rw [show (10 : Int) ^ 4 = 10000 from rfl] at ha
    rw [show (10 : Int) ^ (4 - 1) = 1000 from rfl] at hb
    unfold nDg
    rw [if_neg (by omega), if_neg (by omega), if_neg (by omega), if_pos ha]
  · rw [show (10 : Int) ^ 5 = 100000 from rfl] at ha
    rw [show (10 : Int) ^ (5 - 1) = 10000 from rfl] at hb
    unfold nDg
    rw [if_neg (by omega), if_neg (by omega), if_neg (by omega), if_neg (by omega), if_pos ha]
  · rw [show (10 : Int) ^ 6 = 1000000 from rfl] at ha
    rw [show (10 : Int) ^ (6 - 1) = 100000 from rfl] at hb
    unfold nDg
    rw [if_neg (by omega), if_neg (by omega), if_neg (by omega), if_neg (by omega), if_neg (by omega), if_pos ha]
  · rw [show (10 : Int) ^ 7 = 10000000 from rfl] at ha
    rw [show (10 : Int) ^ (7 - 1) = 1000000 from rfl] at hb
    unfold nDg
    rw [if_neg (by omega), if_neg (by omega), if_neg (by omega), if_neg (by omega), if_neg (by omega), if_neg (by omega), if_pos ha]
  · rw [show (10 : Int) ^ 8 = 100000000 from rfl] at ha
    rw [show (10 : Int) ^ (8 - 1) = 10000000 from rfl] at hb
    unfold nDg
    rw [if_neg (by omega), if_neg (by omega), if_neg (by omega), if_neg (by omega), if_neg (by omega), if_neg (by omega), if_neg (by omega), if_pos ha]
  · rw [show (10 : Int) ^ 9 = 1000000000 from rfl] at ha
    rw [show (10 : Int) ^ (9 - 1) = 100000000 from rfl] at hb
    unfold nDg
    rw [if_neg (by omega), if_neg (by omega), if_neg (by omega), if_neg (by omega), if_neg (by omega), if_neg (by omega), if_neg (by omega), if_neg (by omega), if_pos ha]
  · rw [show (10 : Int) ^ (10 - 1) = 1000000000 from rfl] at hb
    unfold nDg
    rw [if_neg (by omega), if_neg (by omega), if_neg (by omega), if_neg (by omega), if_neg (by omega), if_neg (by omega), if_neg (by omega), if_neg (by omega), if_neg (by omega)]
theorem nDg_r (s : Int) : 1 ≤ nDg s ∧ nDg s ≤ 10 := by
  unfold nDg
  repeat (first | (constructor <;> omega) | split)
theorem dgs_l : ∀ (k : Nat) (s : Int), (dgs k s).length = k
  | 0, _ => rfl
  | k + 1, s => by simp only [dgs, List.length_cons, dgs_l k s]
theorem dgs_r : ∀ {k : Nat} {s x : Int}, x ∈ dgs k s → 48 ≤ x ∧ x ≤ 57
  | 0, _, _, h => by cases h
  | k + 1, s, x, h => by
    rcases List.mem_cons.mp h with q | q
    · rw [q]
      generalize s / 10 ^ k = y
      omega
    · exact dgs_r q
/-- a number's text -/
def txN (x : Int) : List Int := if x < 0 then 45 :: dgs (nDg (-x)) (-x) else dgs (nDg x) x
theorem txN_l (x : Int) : 1 ≤ (txN x).length ∧ (txN x).length ≤ 11 := by
  unfold txN
  split
  · rw [List.length_cons, dgs_l]
    have := nDg_r (-x)
    omega
  · rw [dgs_l]
    have := nDg_r x
    omega
/-- images one behind the other -/
def imL (f : vaF → List Int) : List vaF → List Int
  | [] => []
  | v :: r => f v ++ imL f r
/-- a value's image -/
def imF : Nat → vaF → List Int
  | 0, v => [v []]
  | d + 1, v => ((itF v).length : Int) :: imL (imF d) (itF v)
/-- texts, a comma ahead of each -/
def txR (f : vaF → List Int) : List vaF → List Int
  | [] => []
  | v :: r => 44 :: (f v ++ txR f r)
def txL (f : vaF → List Int) : List vaF → List Int
  | [] => []
  | v :: r => f v ++ txR f r
/-- a value's text -/
def txF : Nat → vaF → List Int
  | 0, v => txN (v [])
  | d + 1, v => 91 :: (txL (txF d) (itF v) ++ [93])
theorem imL_a (f : vaF → List Int) : ∀ (l m : List vaF), imL f (l ++ m) = imL f l ++ imL f m
  | [], m => rfl
  | v :: r, m => by simp only [List.cons_append, imL, imL_a f r m, List.append_assoc]
theorem imL_s (f : vaF → List Int) (l : List vaF) (w : vaF) : imL f (l ++ [w]) = imL f l ++ f w := by rw [imL_a]; simp only [imL, List.append_nil]
theorem txR_a (f : vaF → List Int) : ∀ (l m : List vaF), txR f (l ++ m) = txR f l ++ txR f m
  | [], m => rfl
  | v :: r, m => by simp only [List.cons_append, txR, txR_a f r m, List.append_assoc]
theorem txL_s (f : vaF → List Int) (l : List vaF) (w : vaF) (h : ¬ l = []) : txL f (l ++ [w]) = txL f l ++ 44 :: f w := by
  cases l with
  | nil => exact absurd rfl h
  | cons v r =>
    simp only [List.cons_append, txL, txR_a, txR, List.append_nil, List.append_assoc]
theorem txL_1 (f : vaF → List Int) (w : vaF) : txL f ([] ++ [w]) = f w := by simp only [List.nil_append, txL, txR, List.append_nil]
/-- lengths that may be shown -/
def vkF : Nat → vaF → Prop
  | 0, v => sg_R (v [])
  | d + 1, v => (itF v).length ≤ 200 ∧ ∀ w ∈ itF v, vkF d w
theorem imF_1 (d : Nat) (v : vaF) : 1 ≤ (imF d v).length := by
  cases d with
  | zero => exact Nat.le_refl _
  | succ d => simp only [imF, List.length_cons]; omega
theorem tx_R {f g : vaF → List Int} : ∀ {l : List vaF}, (∀ v ∈ l, (f v).length + 1 ≤ 12 * (g v).length) → (txR f l).length ≤ 12 * (imL g l).length
  | [], _ => Nat.le_refl _
  | v :: r, h => by
    have a := h v (by simp)
    have b := tx_R (l := r) (fun w hw => h w (by simp [hw]))
    simp only [txR, imL, List.length_cons, List.length_append]
    omega
theorem tx_b : ∀ (d : Nat) (v : vaF), (txF d v).length + 1 ≤ 12 * (imF d v).length
  | 0, v => by
    have := txN_l (v [])
    simp only [txF, imF, List.length_cons, List.length_nil]
    omega
  | d + 1, v => by
    have e : (txL (txF d) (itF v)).length ≤ 12 * (imL (imF d) (itF v)).length := by
      cases itF v with
      | nil => exact Nat.le_refl _
      | cons w r =>
        have a := tx_b d w
        have b := tx_R (f := txF d) (g := imF d) (l := r) (fun w _ => tx_b d w)
        simp only [txL, imL, List.length_append]
        omega
    simp only [txF, imF, List.length_cons, List.length_append, List.length_nil]
    omega
/-- images are as long as what a value counts -/
theorem imL_c {d : Nat} (h : ∀ v, ((imF d v).length : Int) = 1 + cnvF d v) : ∀ l : List vaF, ((imL (imF d) l).length : Int) = cnL d l
  | [] => rfl
  | v :: r => by
    have a := h v
    have b := imL_c h r
    unfold cnL at b ⊢
    simp only [imL, List.length_append, List.length_cons, List.map_cons, sumF]
    omega
theorem imF_c : ∀ (d : Nat) (v : vaF), ((imF d v).length : Int) = 1 + cnvF d v
  | 0, v => rfl
  | d + 1, v => by
    have := imL_c (imF_c d) (itF v)
    unfold cnL at this
    simp only [imF, cnvF, List.length_cons]
    omega
/-- letters behind what stands there; I: the object, X: its text -/
def aTx (I X : Nat) (σ σ' : sg_S) (l : List Int) : Prop := sg_g σ' I 5 = sg_g σ I 5 + l.length ∧ (∀ i, i < sg_g σ I 5 → sg_g σ' X i = sg_g σ X i) ∧ ∀ (i : Nat) (x : Int), l[i]? = some x → sg_g σ I 5 + i < 2000 → sg_g σ' X (sg_g σ I 5 + i) = x
theorem aTx_0 (I X : Nat) (σ : sg_S) : aTx I X σ σ [] := ⟨by simp, fun _ _ => rfl, fun i x h => (by cases h)⟩
theorem aTx_t {I X : Nat} {σ σ1 σ2 : sg_S} {l m : List Int} (h : aTx I X σ σ1 l) (g : aTx I X σ1 σ2 m) : aTx I X σ σ2 (l ++ m) := by
  obtain ⟨a1, a2, a3⟩ := h
  obtain ⟨b1, b2, b3⟩ := g
  refine ⟨by rw [b1, a1, List.length_append]; omega, fun i hi => by rw [b2 i (by omega), a2 i hi], fun i x hx hl => ?_⟩
  by_cases c : i < l.length
  · rw [List.getElem?_append_left c] at hx
    rw [b2 _ (by omega)]
    exact a3 i x hx hl
  · rw [List.getElem?_append_right (by omega)] at hx
    have := b3 (i - l.length) x hx (by omega)
    rw [show sg_g σ1 I 5 + ((i - l.length : Nat) : Int) = sg_g σ I 5 + i by omega] at this
    exact this
theorem aTx_F {I X : Nat} {K : List Nat} {σ σ1 σ2 : sg_S} {l : List Int} (h : aTx I X σ σ1 l) (f : sg_F K σ1 σ2) (h1 : sg_cv K I 5 = false) (h2 : sg_ca K X = true) (hI : I < 1000 := by decide) (hX : X < 1000 := by decide) : aTx I X σ σ2 l := by
  obtain ⟨a1, a2, a3⟩ := h
  exact ⟨by rw [sg_F_g f h1 hI]; exact a1, fun i hi => by rw [sg_F_g f (sg_ca_cv h2 hX i) hX]; exact a2 i hi, fun i x hx hl => by rw [sg_F_g f (sg_ca_cv h2 hX _) hX]; exact a3 i x hx hl⟩
/-- values behind what stands there; V: the row of values -/
def aIm (I V : Nat) (σ σ' : sg_S) (l : List Int) : Prop := sg_g σ' I 2 = sg_g σ I 2 + l.length ∧ (∀ i, i < sg_g σ I 2 → sg_g σ' V i = sg_g σ V i) ∧ ∀ (i : Nat) (x : Int), l[i]? = some x → sg_g σ' V (sg_g σ I 2 + i) = x
theorem aIm_0 (I V : Nat) (σ : sg_S) : aIm I V σ σ [] := ⟨by simp, fun _ _ => rfl, fun i x h => (by cases h)⟩
theorem aIm_t {I V : Nat} {σ σ1 σ2 : sg_S} {l m : List Int} (h : aIm I V σ σ1 l) (g : aIm I V σ1 σ2 m) : aIm I V σ σ2 (l ++ m) := by
  obtain ⟨a1, a2, a3⟩ := h
  obtain ⟨b1, b2, b3⟩ := g
  refine ⟨by rw [b1, a1, List.length_append]; omega, fun i hi => by rw [b2 i (by omega), a2 i hi], fun i x hx => ?_⟩
  by_cases c : i < l.length
  · rw [List.getElem?_append_left c] at hx
    rw [b2 _ (by omega)]
    exact a3 i x hx
  · rw [List.getElem?_append_right (by omega)] at hx
    have := b3 (i - l.length) x hx
    rw [show sg_g σ1 I 2 + ((i - l.length : Nat) : Int) = sg_g σ I 2 + i by omega] at this
    exact this
/-- what a letter is as a byte, a digit as a letter -/
theorem nb7 {c : Int} (h : 0 ≤ c ∧ c < 128) : (am_nb 1 (sg_i ((((sg_i c).toInt8.toInt32).toInt)))).toInt = c := by
  have k : ∀ n : Nat, n < 128 → (am_nb 1 (sg_i ((((sg_i (n : Int)).toInt8.toInt32).toInt)))).toInt = (n : Int) := by decide +kernel
  have := k c.toNat (by omega)
  rw [show ((c.toNat : Nat) : Int) = c by omega] at this
  exact this
theorem ch16 {c : Int} (h : 0 ≤ c ∧ c < 128) : ((((sg_i c).toUInt32 % 65536).toInt32).toInt) = c := by
  have k : ∀ n : Nat, n < 128 → ((((sg_i (n : Int)).toUInt32 % 65536).toInt32).toInt) = (n : Int) := by decide +kernel
  have := k c.toNat (by omega)
  rw [show ((c.toNat : Nat) : Int) = c by omega] at this
  exact this
/-! THE CLASS'S IMAGE 65, exactly: letters, numbers, values, texts. -/
set_option maxRecDepth 8000 in
theorem i65_let (z : Value) (σ : sg_S) (c : Int) (h5 : 0 ≤ sg_g σ 65 5 ∧ sg_g σ 65 5 < 2147483647) (hc : 0 ≤ c ∧ c < 128) : wx z 0 93 0 [(0, .inr (.inr (.ref 65))), (1, .inl (c))] [] σ (fun v σ' => v = none ∧ sg_F [6065, 67] σ σ' ∧ aTx 65 67 σ σ' [c]) := by
  have n5 := sg_id (z := sg_g σ 65 5) (sg_Rg _ _ _)
  refine wk_b tt_93 2 (pc' := 4) (ls' := [(0, .inr (.inr (.ref 65))), (1, .inl (c))]) (st' := [.inl ((sg_g σ 65 5))]) (σ' := σ) rfl ?_
  refine wk_ifn tt_93 (tgt := 30) rfl rfl (fun h1 => ?_) (fun h1 => ?_)
  · simp only [sg_c, sg_nc] at h1
    exfalso; omega
  · simp only [sg_c, sg_nc] at h1
    refine wk_b tt_93 5 (pc' := 16) (ls' := [(0, .inr (.inr (.ref 65))), (1, .inl (c))]) (st' := [.inl (2000), .inl ((sg_g σ 65 5))]) (σ' := σ) rfl ?_
    refine wk_if2n tt_93 (tgt := 30) rfl rfl (fun h4 => ?_) (fun h4 => ?_)
    · have h4_l := sg_id (z := 2000) (by decide)
      simp only [sg_c, sg_nc] at h4
      refine wk_b tt_93 6 (pc' := 40) (ls' := [(0, .inr (.inr (.ref 65))), (1, .inl (c))]) (st' := []) (σ' := (sg_w σ 65 5 (((sg_g σ 65 5) + 1)))) rfl ?_
      refine wk_rV tt_93 rfl rfl ⟨rfl, sg_F_w (sg_F_r _ _) rfl _, ?_⟩
      refine ⟨by rw [sg_gw_e _ _ _ _ ⟨by omega, by omega⟩]; rfl, fun i hi => by rw [sg_gw_c _ _ _ _ _ _ (by decide)], fun i x hx hl => ?_⟩
      exfalso; omega
    · have h4_l := sg_id (z := 2000) (by decide)
      simp only [sg_c, sg_nc] at h4
      refine wk_b tt_93 6 (pc' := 29) (ls' := [(0, .inr (.inr (.ref 65))), (1, .inl (c))]) (st' := [.inl ((((sg_i (c)).toInt8.toInt32).toInt)), .inl ((sg_g σ 65 5)), .inr (.inr (.ref 67))]) (σ' := σ) rfl ?_
      refine wk_bs (Or.inl rfl) tt_93 rfl rfl (by omega) (by omega) (sg_Rg _ _ _) ?_
      rw [nb7 hc]
      generalize e8 : sg_w σ 67 (sg_g σ 65 5) c = σ8
      have f8 : sg_F [6065, 67] σ σ8 := by rw [← e8]; exact sg_F_w (sg_F_r _ _) rfl _
      have g8 : sg_g σ8 65 5 = sg_g σ 65 5 := by rw [← e8, sg_gw_c _ _ _ _ _ _ (by decide)]
      refine wk_b tt_93 6 (pc' := 40) (ls' := [(0, .inr (.inr (.ref 65))), (1, .inl (c))]) (st' := []) (σ' := (sg_w σ8 65 5 (((sg_g σ8 65 5) + 1)))) rfl ?_
      refine wk_rV tt_93 rfl rfl ⟨rfl, sg_F_w f8 rfl _, ?_⟩
      rw [g8]
      refine ⟨by rw [sg_gw_e _ _ _ _ ⟨by omega, by omega⟩]; rfl, fun i hi => by rw [sg_gw_c _ _ _ _ _ _ (by decide), ← e8, sg_gw_k _ _ _ _ _ _ (by omega)], fun i x hx hl => ?_⟩
      cases i with
      | zero =>
        cases hx
        rw [sg_gw_c _ _ _ _ _ _ (by decide), ← e8]
        simp only [Int.ofNat_zero, Int.cast_ofNat_Int, Int.add_zero]
        exact sg_gw_e _ _ _ _ ⟨by omega, by omega⟩
      | succ i => cases hx
set_option maxRecDepth 8000 in
theorem i65_out (z : Value) (s : Int) : ∀ (k : Nat) (σ : sg_S) (v8 : Int), v8 = (k : Int) - 1 → k ≤ 10 → (∀ i : Nat, i < k → sg_g σ 66 i = s / 10 ^ i % 10) → (0 ≤ sg_g σ 65 5 ∧ sg_g σ 65 5 + k < 2147483647) → wx z 1 94 62 [(0, .inr (.inr (.ref 65))), (5, .inl (v8))] [] σ (fun v σ' => v = none ∧ sg_F [6065, 67] σ σ' ∧ aTx 65 67 σ σ' (dgs k s))
  | 0, σ, v8, hv, hk, hd, h5 => by
    have n8 := sg_id (z := v8) ⟨by omega, by omega⟩
    refine wk_b tt_94 1 (pc' := 64) (ls' := [(0, .inr (.inr (.ref 65))), (5, .inl (v8))]) (st' := [.inl (v8)]) (σ' := σ) rfl ?_
    refine wk_ifn tt_94 (tgt := 90) rfl rfl (fun h17 => ?_) (fun h17 => ?_)
    · exact wk_rV tt_94 rfl rfl ⟨rfl, sg_F_r _ _, aTx_0 _ _ _⟩
    · simp only [sg_c, sg_nc] at h17
      exfalso; omega
  | k + 1, σ, v8, hv, hk, hd, h5 => by
    have n8 := sg_id (z := v8) ⟨by omega, by omega⟩
    refine wk_b tt_94 1 (pc' := 64) (ls' := [(0, .inr (.inr (.ref 65))), (5, .inl (v8))]) (st' := [.inl (v8)]) (σ' := σ) rfl ?_
    refine wk_ifn tt_94 (tgt := 90) rfl rfl (fun h17 => ?_) (fun h17 => ?_)
    · simp only [sg_c, sg_nc] at h17
      exfalso; omega
    · refine wk_b tt_94 5 (pc' := 76) (ls' := [(0, .inr (.inr (.ref 65))), (5, .inl (v8))]) (st' := [.inl (v8), .inr (.inr (.ref 66)), .inl (48), .inr (.inr (.ref 65))]) (σ' := σ) rfl ?_
      refine wk_callp tt_94 rfl rfl rfl rfl rfl tt_5 rfl (by decide) (at_i z σ 66 10 (v8) rfl (by decide)) ?_
      generalize e21 : sx_at σ 66 10 (sg_n (v8)) = q21
      have d21 : q21 = s / 10 ^ k % 10 := by
        rw [← e21, n8, xa_in ⟨by omega, by omega⟩, show v8 = (k : Int) by omega]
        exact hd k (by omega)
      have r21 : 0 ≤ q21 ∧ q21 < 10 := by
        rw [d21]
        generalize s / 10 ^ k = y
        omega
      refine wk_b tt_94 2 (pc' := 81) (ls' := [(0, .inr (.inr (.ref 65))), (5, .inl (v8))]) (st' := [.inl (((((sg_i ((48 + q21))).toUInt32 % 65536).toInt32).toInt)), .inr (.inr (.ref 65))]) (σ' := σ) rfl ?_
      rw [ch16 (c := 48 + q21) ⟨by omega, by omega⟩]
      refine wk_call tt_94 rfl rfl rfl rfl rfl tt_93 rfl (by decide) (i65_let z σ (48 + q21) ⟨by omega, by omega⟩ ⟨by omega, by omega⟩) (fun w22 σ23 hq24 => ?_)
      obtain ⟨rfl, f23, t23⟩ := hq24
      refine wk_b tt_94 2 (pc' := 62) (ls' := [(5, .inl ((v8 + (-1)))), (0, .inr (.inr (.ref 65)))]) (st' := []) (σ' := σ23) rfl ?_
      refine wk_ls [(0, .inr (.inr (.ref 65))), (5, .inl ((v8 + (-1))))] rfl ⟨rfl, rfl, trivial⟩ ?_
      have l23 := t23.1
      simp only [List.length_cons, List.length_nil] at l23
      refine wk_post (i65_out z s k σ23 (v8 + (-1)) (by omega) (by omega) (fun i hi => by rw [sg_F_ga f23 rfl]; exact hd i (by omega)) ⟨by omega, by omega⟩) ?_
      rintro v σ' ⟨rfl, f', t'⟩
      refine ⟨rfl, sg_F_t f23 f', ?_⟩
      have := aTx_t t23 t'
      rw [d21] at this
      exact this
set_option maxRecDepth 8000 in
theorem i65_dig (z : Value) (s : Int) (hs : 0 ≤ s ∧ s ≤ 2147483648) : ∀ (m n : Nat) (σ : sg_S) (v3 v4 : Int), n + m = 9 → v4 = (n : Int) → v3 = s / 10 ^ n → (n = 0 ∨ 0 < v3) → (∀ i : Nat, i < n → sg_g σ 66 i = s / 10 ^ i % 10) → (0 ≤ sg_g σ 65 5 ∧ sg_g σ 65 5 + 10 < 2147483647) → wx z 1 94 19 [(0, .inr (.inr (.ref 65))), (2, .inr (.inl (v3))), (4, .inl (v4))] [] σ (fun v σ' => v = none ∧ sg_F [6065, 66, 67] σ σ' ∧ aTx 65 67 σ σ' (dgs (nDg s) s)) := by
  intro m
  induction m using Nat.strongRecOn with
  | _ m ih =>
    intro n σ v3 v4 hnm h4 h3 hp hd h5
    have n4 := sg_id (z := v4) ⟨by omega, by omega⟩
    have pw : (0 : Int) < 10 ^ n := Int.pow_pos (by decide)
    have b3 : 0 ≤ v3 ∧ v3 ≤ 2147483648 := by
      have q0 : 0 ≤ s / 10 ^ n := Int.ediv_nonneg hs.1 (by omega)
      have q1 : s / 10 ^ n ≤ s := Int.ediv_le_self _ hs.1
      omega
    have dd : s / 10 ^ (n + 1) = v3 / 10 := by rw [h3, Int.pow_succ, Int.ediv_ediv_of_nonneg (by omega)]
    refine wk_b tt_94 5 (pc' := 29) (ls' := [(0, .inr (.inr (.ref 65))), (2, .inr (.inl (v3))), (4, .inl (v4))]) (st' := [.inr (.inl (10)), .inr (.inl (v3)), .inl (v4), .inr (.inr (.ref 66))]) (σ' := σ) rfl ?_
    refine wk_lrem tt_94 rfl (by decide) ?_
    rw [rml (a := v3) ⟨by omega, by omega⟩]
    generalize e32 : v3 % 10 = q32
    refine wk_b tt_94 1 (pc' := 31) (ls' := [(0, .inr (.inr (.ref 65))), (2, .inr (.inl (v3))), (4, .inl (v4))]) (st' := [.inl (q32), .inl (v4), .inr (.inr (.ref 66))]) (σ' := σ) rfl ?_
    refine wk_callp tt_94 rfl rfl rfl rfl rfl tt_21 rfl (by decide) (pt_i z σ 66 10 (v4) (q32) rfl (by decide)) ?_
    rw [n4, xp_in ⟨by omega, by omega⟩]
    generalize e37 : sg_w σ 66 v4 q32 = σ37
    have f37 : sg_F [6065, 66, 67] σ σ37 := by rw [← e37]; exact sg_F_w (sg_F_r _ _) rfl _
    have f37' : sg_F [66] σ σ37 := by rw [← e37]; exact sg_F_w (sg_F_r _ _) rfl _
    have g5 : sg_g σ37 65 5 = sg_g σ 65 5 := sg_F_g f37' (by rfl)
    have hd' : ∀ i : Nat, i < n + 1 → sg_g σ37 66 i = s / 10 ^ i % 10 := fun i hi => by
      by_cases c : i = n
      · rw [c, ← e37, ← h4, sg_gw_e _ _ _ _ ⟨by omega, by omega⟩, ← e32, h3]
      · rw [← e37, sg_gw_k _ _ _ _ _ _ (by omega)]
        exact hd i (by omega)
    have tx : ∀ σ', aTx 65 67 σ37 σ' (dgs (nDg s) s) → aTx 65 67 σ σ' (dgs (nDg s) s) := fun σ' h => by
      have := aTx_t (aTx_F (aTx_0 65 67 σ) f37' (by rfl) rfl) h
      exact this
    have fin : s < 10 ^ (n + 1) → wx z 1 94 56 [(0, .inr (.inr (.ref 65))), (4, .inl ((v4 + 1)))] [] σ37 (fun v σ' => v = none ∧ sg_F [6065, 66, 67] σ σ' ∧ aTx 65 67 σ σ' (dgs (nDg s) s)) := fun hz => by
      have ek : nDg s = n + 1 := nDg_e hs.2 (by omega) hz (by
        rcases hp with q | q
        · exact Or.inl (by omega)
        · right
          rw [show n + 1 - 1 = n by omega]
          rw [h3] at q
          by_cases w : (10 : Int) ^ n ≤ s
          · exact w
          · rw [Int.ediv_eq_zero_of_lt hs.1 (by omega)] at q
            omega)
      refine wk_b tt_94 4 (pc' := 62) (ls' := [(5, .inl (((v4 + 1) - 1))), (0, .inr (.inr (.ref 65))), (4, .inl ((v4 + 1)))]) (st' := []) (σ' := σ37) rfl ?_
      refine wk_ls [(0, .inr (.inr (.ref 65))), (5, .inl (((v4 + 1) - 1)))] rfl ⟨rfl, rfl, trivial⟩ ?_
      refine wk_post (i65_out z s (n + 1) σ37 ((v4 + 1) - 1) (by omega) (by omega) hd' (by rw [g5]; omega)) ?_
      rintro v σ' ⟨rfl, f', t'⟩
      exact ⟨rfl, sg_F_t f37 (sg_F_m f' rfl), tx σ' (by rw [ek]; exact t')⟩
    refine wk_b tt_94 2 (pc' := 38) (ls' := [(0, .inr (.inr (.ref 65))), (2, .inr (.inl (v3))), (4, .inl (v4))]) (st' := [.inr (.inl (10)), .inr (.inl (v3))]) (σ' := σ37) rfl ?_
    refine wk_ldiv tt_94 rfl (by decide) ?_
    rw [dvl (a := v3) (b := 10) ⟨by omega, by omega⟩ ⟨by decide, by decide⟩]
    generalize e38 : v3 / 10 = q38
    rw [e38] at dd
    refine wk_b tt_94 4 (pc' := 45) (ls' := [(4, .inl ((v4 + 1))), (2, .inr (.inl (q38))), (0, .inr (.inr (.ref 65)))]) (st' := [.inr (.inl (0)), .inr (.inl (q38))]) (σ' := σ37) rfl ?_
    refine wk_lcif tt_94 (tgt := 56) rfl rfl rfl ⟨by omega, by omega⟩ (by decide) (fun h39 => ?_) (fun h39 => ?_)
    · simp only [sg_c, sg_nc] at h39
      refine wk_ls [(0, .inr (.inr (.ref 65))), (4, .inl ((v4 + 1)))] rfl ⟨rfl, rfl, trivial⟩ (fin ?_)
      have z0 : s / 10 ^ (n + 1) = 0 := by rw [dd]; omega
      have pw' : (0 : Int) < 10 ^ (n + 1) := Int.pow_pos (by decide)
      by_cases w : s < 10 ^ (n + 1)
      · exact w
      · have := Int.ediv_le_ediv pw' (show (10 : Int) ^ (n + 1) ≤ s by omega)
        rw [Int.ediv_self (by omega), z0] at this
        omega
    · simp only [sg_c, sg_nc] at h39
      refine wk_b tt_94 2 (pc' := 53) (ls' := [(4, .inl ((v4 + 1))), (2, .inr (.inl (q38))), (0, .inr (.inr (.ref 65)))]) (st' := [.inl (10), .inl ((v4 + 1))]) (σ' := σ37) rfl ?_
      refine wk_if2n tt_94 (tgt := 19) rfl rfl (fun h40 => ?_) (fun h40 => ?_)
      · have h40_l := sg_id (z := 10) (by decide)
        have h40_x := sg_id (z := (v4 + 1)) ⟨by omega, by omega⟩
        simp only [sg_c, sg_nc] at h40
        refine wk_ls [(0, .inr (.inr (.ref 65))), (2, .inr (.inl (q38))), (4, .inl ((v4 + 1)))] rfl ⟨rfl, rfl, rfl, trivial⟩ ?_
        refine wk_post (ih (m - 1) (by omega) (n + 1) σ37 q38 (v4 + 1) (by omega) (by omega) dd.symm (Or.inr (by omega)) hd' (by rw [g5]; exact h5)) ?_
        rintro v σ' ⟨rfl, f', t'⟩
        exact ⟨rfl, sg_F_t f37 f', tx σ' t'⟩
      · have h40_l := sg_id (z := 10) (by decide)
        have h40_x := sg_id (z := (v4 + 1)) ⟨by omega, by omega⟩
        simp only [sg_c, sg_nc] at h40
        refine wk_ls [(0, .inr (.inr (.ref 65))), (4, .inl ((v4 + 1)))] rfl ⟨rfl, rfl, trivial⟩ (fin ?_)
        have n9 : n = 9 := by omega
        rw [n9, show (10 : Int) ^ (9 + 1) = 10000000000 from rfl]
        omega
set_option maxRecDepth 8000 in
theorem i65_num (z : Value) (σ : sg_S) (a1 : Int) (ra : sg_R a1) (h5 : 0 ≤ sg_g σ 65 5 ∧ sg_g σ 65 5 + 11 < 2147483647) : wx z 1 94 0 [(0, .inr (.inr (.ref 65))), (1, .inl (a1))] [] σ (fun v σ' => v = none ∧ sg_F [6065, 66, 67] σ σ' ∧ aTx 65 67 σ σ' (txN a1)) := by
  have na := sg_id (z := a1) ra
  have ra1 := ra.1
  have ra2 := ra.2
  have go : ∀ (σ2 : sg_S) (s : Int), s = (if a1 < 0 then -a1 else a1) → (0 ≤ sg_g σ2 65 5 ∧ sg_g σ2 65 5 + 10 < 2147483647) → wx z 1 94 10 [(0, .inr (.inr (.ref 65))), (1, .inl (a1))] [] σ2 (fun v σ' => v = none ∧ sg_F [6065, 66, 67] σ2 σ' ∧ aTx 65 67 σ2 σ' (dgs (nDg s) s)) := fun σ2 s hs h2 => by
    have bs : 0 ≤ s ∧ s ≤ 2147483648 := by
      rw [hs]
      split <;> omega
    refine wk_b tt_94 2 (pc' := 12) (ls' := [(0, .inr (.inr (.ref 65))), (1, .inl (a1))]) (st' := [.inr (.inl ((sg_n (a1))))]) (σ' := σ2) rfl ?_
    rw [na]
    refine wk_abs (k0 := 0) tt_94 rfl ⟨by omega, by omega⟩ rfl ?_
    have es : (if 0 < a1 then a1 else -a1) = s := by
      rw [hs]
      by_cases c : 0 < a1
      · rw [if_pos c, if_neg (by omega)]
      · by_cases c2 : a1 < 0
        · rw [if_neg c, if_pos c2]
        · rw [if_neg c, if_neg c2]; omega
    rw [es]
    refine wk_b tt_94 3 (pc' := 19) (ls' := [(4, .inl (0)), (2, .inr (.inl (s))), (0, .inr (.inr (.ref 65))), (1, .inl (a1))]) (st' := []) (σ' := σ2) rfl ?_
    refine wk_ls [(0, .inr (.inr (.ref 65))), (2, .inr (.inl (s))), (4, .inl (0))] rfl ⟨rfl, rfl, rfl, trivial⟩ ?_
    exact i65_dig z s bs 9 0 σ2 s 0 rfl rfl (by simp) (Or.inl rfl) (fun i hi => by omega) h2
  refine wk_b tt_94 1 (pc' := 1) (ls' := [(0, .inr (.inr (.ref 65))), (1, .inl (a1))]) (st' := [.inl (a1)]) (σ' := σ) rfl ?_
  refine wk_ifn tt_94 (tgt := 10) rfl rfl (fun h1 => ?_) (fun h1 => ?_)
  · simp only [sg_c, sg_nc] at h1
    have e : txN a1 = dgs (nDg a1) a1 := by unfold txN; rw [if_neg (by omega)]
    rw [e]
    exact go σ a1 (by rw [if_neg (by omega)]) ⟨by omega, by omega⟩
  · simp only [sg_c, sg_nc] at h1
    have e : txN a1 = [45] ++ dgs (nDg (-a1)) (-a1) := by unfold txN; rw [if_pos (by omega)]; rfl
    rw [e]
    refine wk_b tt_94 2 (pc' := 7) (ls' := [(0, .inr (.inr (.ref 65))), (1, .inl (a1))]) (st' := [.inl (45), .inr (.inr (.ref 65))]) (σ' := σ) rfl ?_
    refine wk_call tt_94 rfl rfl rfl rfl rfl tt_93 rfl (by decide) (i65_let z σ (45) ⟨by omega, by omega⟩ ⟨by decide, by decide⟩) (fun w41 σ42 hq43 => ?_)
    obtain ⟨rfl, f42, t42⟩ := hq43
    have l42 := t42.1
    simp only [List.length_cons, List.length_nil] at l42
    refine wk_post (go σ42 (-a1) (by rw [if_pos (by omega)]) ⟨by omega, by omega⟩) ?_
    rintro v σ' ⟨rfl, f', t'⟩
    exact ⟨rfl, sg_F_t (sg_F_m f42 rfl) f', aTx_t t42 t'⟩
set_option maxRecDepth 8000 in
theorem i65_add (z : Value) (σ : sg_S) (a1 : Int) (ra : sg_R a1) (h2 : 0 ≤ sg_g σ 65 2 ∧ sg_g σ 65 2 < 6001) : wx z 1 91 0 [(0, .inr (.inr (.ref 65))), (1, .inl (a1))] [] σ (fun v σ' => v = none ∧ sg_F [3065, 68] σ σ' ∧ aIm 65 68 σ σ' [a1]) := by
  have n2 := sg_id (z := sg_g σ 65 2) (sg_Rg _ _ _)
  refine wk_b tt_91 5 (pc' := 9) (ls' := [(0, .inr (.inr (.ref 65))), (1, .inl (a1))]) (st' := [.inl (a1), .inl ((sg_g σ 65 2)), .inr (.inr (.ref 68))]) (σ' := σ) rfl ?_
  refine wk_callp tt_91 rfl rfl rfl rfl rfl tt_21 rfl (by decide) (pt_i z σ 68 6001 ((sg_g σ 65 2)) (a1) rfl (by decide)) ?_
  rw [n2, xp_in ⟨by omega, by omega⟩]
  generalize e5 : sg_w σ 68 (sg_g σ 65 2) a1 = σ5
  have f5 : sg_F [3065, 68] σ σ5 := by rw [← e5]; exact sg_F_w (sg_F_r _ _) rfl _
  have g5 : sg_g σ5 65 2 = sg_g σ 65 2 := by rw [← e5, sg_gw_c _ _ _ _ _ _ (by decide)]
  refine wk_b tt_91 6 (pc' := 22) (ls' := [(0, .inr (.inr (.ref 65))), (1, .inl (a1))]) (st' := []) (σ' := (sg_w σ5 65 2 (((sg_g σ5 65 2) + 1)))) rfl ?_
  refine wk_rV tt_91 rfl rfl ⟨rfl, sg_F_w f5 rfl _, ?_⟩
  rw [g5]
  refine ⟨by rw [sg_gw_e _ _ _ _ ⟨by omega, by omega⟩]; rfl, fun i hi => by rw [sg_gw_c _ _ _ _ _ _ (by decide), ← e5, sg_gw_k _ _ _ _ _ _ (by omega)], fun i x hx => ?_⟩
  cases i with
  | zero =>
    cases hx
    rw [sg_gw_c _ _ _ _ _ _ (by decide), ← e5]
    simp only [Int.ofNat_zero, Int.cast_ofNat_Int, Int.add_zero]
    exact sg_gw_e _ _ _ _ ra
  | succ i => cases hx
set_option maxRecDepth 8000 in
theorem i65_wr0 (z : Value) (σ : sg_S) (v : vaF) (p : Int) (hv : vkF 0 v) (hp : sg_g σ 65 3 = p) (h0 : 0 ≤ p ∧ p + (imF 0 v).length ≤ 6001) (hi : ∀ (i : Nat) (x : Int), (imF 0 v)[i]? = some x → sg_g σ 68 (p + i) = x) (h5 : 0 ≤ sg_g σ 65 5 ∧ sg_g σ 65 5 + (txF 0 v).length < 2147483600) : wx z 2 97 0 [(0, .inr (.inr (.ref 65))), (1, .inl (0))] [] σ (fun w σ' => w = none ∧ sg_F [4065, 6065, 66, 67] σ σ' ∧ sg_g σ' 65 3 = p + (imF 0 v).length ∧ aTx 65 67 σ σ' (txF 0 v)) := by
  have l1 := imF_1 0 v
  have np := sg_id (z := p) ⟨by omega, by omega⟩
  have x0 : sg_g σ 68 p = v [] := by
    have := hi 0 (v []) (by simp only [imF, List.getElem?_cons_zero])
    simp only [Int.ofNat_zero, Int.cast_ofNat_Int, Int.add_zero] at this
    exact this
  refine wk_b tt_97 4 (pc' := 8) (ls' := [(0, .inr (.inr (.ref 65))), (1, .inl (0))]) (st' := [.inl ((sg_g σ 65 3)), .inr (.inr (.ref 68))]) (σ' := σ) rfl ?_
  refine wk_callp tt_97 rfl rfl rfl rfl rfl tt_5 rfl (by decide) (at_i z σ 68 6001 ((sg_g σ 65 3)) rfl (by decide)) ?_
  generalize e4 : sx_at σ 68 6001 (sg_n ((sg_g σ 65 3))) = q4
  have d4 : q4 = v [] := by rw [← e4, hp, np, xa_in ⟨by omega, by omega⟩]; exact x0
  refine wk_b tt_97 8 (pc' := 23) (ls' := [(2, .inl (q4)), (0, .inr (.inr (.ref 65))), (1, .inl (0))]) (st' := [.inl (0)]) (σ' := (sg_w σ 65 3 (((sg_g σ 65 3) + 1)))) rfl ?_
  generalize e6 : (sg_w σ 65 3 (((sg_g σ 65 3) + 1))) = σ6
  have f6 : sg_F [4065] σ σ6 := by rw [← e6]; exact sg_F_w (sg_F_r _ _) rfl _
  have F6 : sg_F [4065, 6065, 66, 67] σ σ6 := sg_F_m f6 rfl
  have g6 : sg_g σ6 65 3 = p + 1 := by rw [← e6, sg_gw_e _ _ _ _ (by rw [hp]; exact ⟨by omega, by omega⟩), hp]
  have g65 : sg_g σ6 65 5 = sg_g σ 65 5 := sg_F_g f6 (by rfl)
  have t6 : aTx 65 67 σ σ6 [] := aTx_F (aTx_0 65 67 σ) f6 (by rfl) rfl
  refine wk_if tt_97 (tgt := 32) rfl rfl (by decide) (fun h7 => ?_) (fun h7 => ?_)
  · simp only [sg_c, sg_nc] at h7
    exfalso; omega
  · refine wk_b tt_97 2 (pc' := 28) (ls' := [(2, .inl (q4)), (0, .inr (.inr (.ref 65))), (1, .inl (0))]) (st' := [.inl (q4), .inr (.inr (.ref 65))]) (σ' := σ6) rfl ?_
    have ht := txN_l (v [])
    have hl : (txF 0 v).length = (txN (v [])).length := rfl
    refine wk_call tt_97 rfl rfl rfl rfl rfl tt_94 rfl (by decide) (i65_num z σ6 (q4) (by rw [d4]; exact hv) (by rw [g65]; omega)) (fun w35 σ36 hq37 => ?_)
    obtain ⟨rfl, f36, t36⟩ := hq37
    rw [d4] at t36
    refine wk_rV tt_97 rfl rfl ⟨rfl, sg_F_t F6 (sg_F_m f36 rfl), ?_, aTx_t t6 t36⟩
    rw [sg_F_g f36 (by rfl), g6]
    rfl
set_option maxRecDepth 8000 in
theorem i65_wr1 (z : Value) (σ : sg_S) (v : vaF) (p : Int) (hv : vkF 1 v) (hp : sg_g σ 65 3 = p) (h0 : 0 ≤ p ∧ p + (imF 1 v).length ≤ 6001) (hi : ∀ (i : Nat) (x : Int), (imF 1 v)[i]? = some x → sg_g σ 68 (p + i) = x) (h5 : 0 ≤ sg_g σ 65 5 ∧ sg_g σ 65 5 + (txF 1 v).length < 2147483600) : wx z 3 97 0 [(0, .inr (.inr (.ref 65))), (1, .inl (1))] [] σ (fun w σ' => w = none ∧ sg_F [4065, 6065, 66, 67] σ σ' ∧ sg_g σ' 65 3 = p + (imF 1 v).length ∧ aTx 65 67 σ σ' (txF 1 v)) := by
  have l1 := imF_1 1 v
  have np := sg_id (z := p) ⟨by omega, by omega⟩
  have x0 : sg_g σ 68 p = ((itF v).length : Int) := by
    have := hi 0 (((itF v).length : Int)) (by simp only [imF, List.getElem?_cons_zero])
    simp only [Int.ofNat_zero, Int.cast_ofNat_Int, Int.add_zero] at this
    exact this
  refine wk_b tt_97 4 (pc' := 8) (ls' := [(0, .inr (.inr (.ref 65))), (1, .inl (1))]) (st' := [.inl ((sg_g σ 65 3)), .inr (.inr (.ref 68))]) (σ' := σ) rfl ?_
  refine wk_callp tt_97 rfl rfl rfl rfl rfl tt_5 rfl (by decide) (at_i z σ 68 6001 ((sg_g σ 65 3)) rfl (by decide)) ?_
  generalize e4 : sx_at σ 68 6001 (sg_n ((sg_g σ 65 3))) = q4
  have d4 : q4 = ((itF v).length : Int) := by rw [← e4, hp, np, xa_in ⟨by omega, by omega⟩]; exact x0
  refine wk_b tt_97 8 (pc' := 23) (ls' := [(2, .inl (q4)), (0, .inr (.inr (.ref 65))), (1, .inl (1))]) (st' := [.inl (1)]) (σ' := (sg_w σ 65 3 (((sg_g σ 65 3) + 1)))) rfl ?_
  generalize e6 : (sg_w σ 65 3 (((sg_g σ 65 3) + 1))) = σ6
  have f6 : sg_F [4065] σ σ6 := by rw [← e6]; exact sg_F_w (sg_F_r _ _) rfl _
  have F6 : sg_F [4065, 6065, 66, 67] σ σ6 := sg_F_m f6 rfl
  have g6 : sg_g σ6 65 3 = p + 1 := by rw [← e6, sg_gw_e _ _ _ _ (by rw [hp]; exact ⟨by omega, by omega⟩), hp]
  have g65 : sg_g σ6 65 5 = sg_g σ 65 5 := sg_F_g f6 (by rfl)
  have t6 : aTx 65 67 σ σ6 [] := aTx_F (aTx_0 65 67 σ) f6 (by rfl) rfl
  refine wk_if tt_97 (tgt := 32) rfl rfl (by decide) (fun h7 => ?_) (fun h7 => ?_)
  rotate_left
  · simp only [sg_c, sg_nc] at h7
    exfalso; omega
  · obtain ⟨v1, hw⟩ := hv
    have elt : (txF 1 v).length = (txL (txF 0) (itF v)).length + 2 := by simp only [txF, List.length_cons, List.length_append, List.length_nil]
    have eli : (imF 1 v).length = (imL (imF 0) (itF v)).length + 1 := by simp only [imF, List.length_cons]
    refine wk_b tt_97 2 (pc' := 35) (ls' := [(2, .inl (q4)), (0, .inr (.inr (.ref 65))), (1, .inl (1))]) (st' := [.inl (91), .inr (.inr (.ref 65))]) (σ' := σ6) rfl ?_
    refine wk_call tt_97 rfl rfl rfl rfl rfl tt_93 rfl (by decide) (i65_let z σ6 (91) (by rw [g65]; omega) ⟨by decide, by decide⟩) (fun w8 σ9 hq10 => ?_)
    obtain ⟨rfl, f9, t9⟩ := hq10
    have F9 : sg_F [4065, 6065, 66, 67] σ σ9 := sg_F_t F6 (sg_F_m f9 rfl)
    have T9 : aTx 65 67 σ σ9 [91] := aTx_t t6 t9
    have g9 : sg_g σ9 65 3 = p + 1 := by rw [sg_F_g f9 (by rfl)]; exact g6
    refine wk_b tt_97 2 (pc' := 40) (ls' := [(3, .inl (0)), (2, .inl (q4)), (0, .inr (.inr (.ref 65))), (1, .inl (1))]) (st' := []) (σ' := σ9) rfl ?_
    -- items one by one
    have lp : ∀ (r dn : List vaF) (i : Int) (σ14 : sg_S), dn ++ r = itF v → i = dn.length → sg_F [4065, 6065, 66, 67] σ σ14 → sg_g σ14 65 3 = p + 1 + (imL (imF 0) dn).length → aTx 65 67 σ σ14 (91 :: txL (txF 0) dn) → wx z 3 97 40 [(0, .inr (.inr (.ref 65))), (1, .inl (1)), (2, .inl (q4)), (3, .inl (i))] [] σ14 (fun w σ' => w = none ∧ sg_F [4065, 6065, 66, 67] σ σ' ∧ sg_g σ' 65 3 = p + (imF 1 v).length ∧ aTx 65 67 σ σ' (txF 1 v)) := fun r => by
      induction r with
      | nil =>
        intro dn i σ14 ed ei F14 g14 T14
        rw [List.append_nil] at ed
        rw [ed] at g14 T14 ei
        have ni := sg_id (z := i) ⟨by omega, by omega⟩
        refine wk_b tt_97 2 (pc' := 42) (ls' := [(0, .inr (.inr (.ref 65))), (1, .inl (1)), (2, .inl (q4)), (3, .inl (i))]) (st' := [.inl (q4), .inl (i)]) (σ' := σ14) rfl ?_
        refine wk_if2 tt_97 (tgt := 75) rfl rfl ⟨by omega, by omega⟩ ⟨by omega, by omega⟩ (fun h27 => ?_) (fun h27 => ?_)
        · refine wk_b tt_97 2 (pc' := 78) (ls' := [(0, .inr (.inr (.ref 65))), (1, .inl (1)), (2, .inl (q4)), (3, .inl (i))]) (st' := [.inl (93), .inr (.inr (.ref 65))]) (σ' := σ14) rfl ?_
          have l14 := T14.1
          simp only [List.length_cons] at l14
          refine wk_call tt_97 rfl rfl rfl rfl rfl tt_93 rfl (by decide) (i65_let z σ14 (93) (by omega) ⟨by decide, by decide⟩) (fun w17 σ18 hq19 => ?_)
          obtain ⟨rfl, f18, t18⟩ := hq19
          refine wk_rV tt_97 rfl rfl ⟨rfl, sg_F_t F14 (sg_F_m f18 rfl), ?_, aTx_t T14 t18⟩
          rw [sg_F_g f18 (by rfl), g14, eli]
          omega
        · simp only [sg_c, sg_nc] at h27
          exfalso; omega
      | cons w r ih =>
        intro dn i σ14 ed ei F14 g14 T14
        have ew : (dn ++ [w]) ++ r = itF v := by rw [List.append_assoc]; exact ed
        have wm : w ∈ itF v := by rw [← ed]; simp
        have lb : dn.length + 1 + r.length = (itF v).length := by rw [← ed, List.length_append, List.length_cons]; omega
        have eb : imL (imF 0) (itF v) = imL (imF 0) dn ++ (imF 0 w ++ imL (imF 0) r) := by rw [← ed, imL_a]; rfl
        have ebl : (imL (imF 0) (itF v)).length = (imL (imF 0) dn).length + (imF 0 w).length + (imL (imF 0) r).length := by rw [eb, List.length_append, List.length_append]; omega
        have etl : (txL (txF 0) dn).length + 1 + (txF 0 w).length ≤ (txL (txF 0) (itF v)).length + 1 := by
          rw [← ed]
          cases dn with
          | nil => simp only [List.nil_append, txL, List.length_nil, List.length_append]; omega
          | cons y dn => simp only [List.cons_append, txL, txR_a, txR, List.length_append, List.length_cons]; omega
        have hi' : ∀ (j : Nat) (x : Int), (imF 0 w)[j]? = some x → sg_g σ 68 (p + 1 + (imL (imF 0) dn).length + j) = x := fun j x hx => by
          have hj := gE_l hx
          have := hi ((imL (imF 0) dn).length + j + 1) x (by
            show (((itF v).length : Int) :: imL (imF 0) (itF v))[(imL (imF 0) dn).length + j + 1]? = some x
            rw [List.getElem?_cons_succ, eb, List.getElem?_append_right (by omega), show (imL (imF 0) dn).length + j - (imL (imF 0) dn).length = j by omega, List.getElem?_append_left hj]
            exact hx)
          rw [show p + (((imL (imF 0) dn).length + j + 1 : Nat) : Int) = p + 1 + (imL (imF 0) dn).length + j by omega] at this
          exact this
        have l14 := T14.1
        simp only [List.length_cons] at l14
        -- the item itself
        have go : ∀ (σ15 : sg_S) (t : List Int), sg_F [4065, 6065, 66, 67] σ σ15 → sg_g σ15 65 3 = p + 1 + (imL (imF 0) dn).length → aTx 65 67 σ σ15 t → t ++ txF 0 w = 91 :: txL (txF 0) (dn ++ [w]) → t.length ≤ 1 + (txL (txF 0) dn).length + 1 → wx z 3 97 62 [(0, .inr (.inr (.ref 65))), (1, .inl (1)), (2, .inl (q4)), (3, .inl (i))] [] σ15 (fun w σ' => w = none ∧ sg_F [4065, 6065, 66, 67] σ σ' ∧ sg_g σ' 65 3 = p + (imF 1 v).length ∧ aTx 65 67 σ σ' (txF 1 v)) := fun σ15 t F15 g15 T15 et lt => by
          have l15 := T15.1
          refine wk_b tt_97 4 (pc' := 66) (ls' := [(0, .inr (.inr (.ref 65))), (1, .inl (1)), (2, .inl (q4)), (3, .inl (i))]) (st' := [.inl (((1 : Int) - 1)), .inr (.inr (.ref 65))]) (σ' := σ15) rfl ?_
          rw [show ((1 : Int) - 1) = 0 from rfl]
          refine wk_call tt_97 rfl rfl rfl rfl rfl tt_97 rfl (by decide) (i65_wr0 z σ15 w (p + 1 + (imL (imF 0) dn).length) (hw w wm) g15 ⟨by omega, by omega⟩ (fun j x hx => by rw [sg_F_ga F15 rfl]; exact hi' j x hx) ⟨by omega, by omega⟩) (fun w30 σ31 hq32 => ?_)
          obtain ⟨rfl, f31, g31, t31⟩ := hq32
          refine wk_b tt_97 2 (pc' := 40) (ls' := [(3, .inl ((i + 1))), (0, .inr (.inr (.ref 65))), (1, .inl (1)), (2, .inl (q4))]) (st' := []) (σ' := σ31) rfl ?_
          refine wk_ls [(0, .inr (.inr (.ref 65))), (1, .inl (1)), (2, .inl (q4)), (3, .inl ((i + 1)))] rfl ⟨rfl, rfl, rfl, rfl, trivial⟩ ?_
          refine ih (dn ++ [w]) (i + 1) σ31 ew (by rw [List.length_append, List.length_cons, List.length_nil]; omega) (sg_F_t F15 f31) ?_ ?_
          · rw [g31, imL_s, List.length_append]; omega
          · have := aTx_t T15 t31
            rw [et] at this
            exact this
        refine wk_b tt_97 2 (pc' := 42) (ls' := [(0, .inr (.inr (.ref 65))), (1, .inl (1)), (2, .inl (q4)), (3, .inl (i))]) (st' := [.inl (q4), .inl (i)]) (σ' := σ14) rfl ?_
        refine wk_if2 tt_97 (tgt := 75) rfl rfl ⟨by omega, by omega⟩ ⟨by omega, by omega⟩ (fun h27 => ?_) (fun h27 => ?_)
        · simp only [sg_c, sg_nc] at h27
          exfalso; omega
        · refine wk_b tt_97 2 (pc' := 49) (ls' := [(0, .inr (.inr (.ref 65))), (1, .inl (1)), (2, .inl (q4)), (3, .inl (i))]) (st' := [.inl (200), .inl (i)]) (σ' := σ14) rfl ?_
          refine wk_if2 tt_97 (tgt := 75) rfl rfl ⟨by omega, by omega⟩ (by decide) (fun h28 => ?_) (fun h28 => ?_)
          · simp only [sg_c, sg_nc] at h28
            exfalso; omega
          · refine wk_b tt_97 1 (pc' := 53) (ls' := [(0, .inr (.inr (.ref 65))), (1, .inl (1)), (2, .inl (q4)), (3, .inl (i))]) (st' := [.inl (i)]) (σ' := σ14) rfl ?_
            refine wk_if tt_97 (tgt := 62) rfl rfl ⟨by omega, by omega⟩ (fun h29 => ?_) (fun h29 => ?_)
            · simp only [sg_c, sg_nc] at h29
              have dn0 : dn = [] := by
                cases dn with
                | nil => rfl
                | cons a l => exfalso; rw [List.length_cons] at ei; omega
              subst dn0
              exact go σ14 _ F14 g14 T14 (by rw [txL_1]; rfl) (by simp only [List.length_cons]; omega)
            · simp only [sg_c, sg_nc] at h29
              have dn0 : ¬ dn = [] := fun e => by rw [e] at ei; simp only [List.length_nil] at ei; omega
              refine wk_b tt_97 2 (pc' := 59) (ls' := [(0, .inr (.inr (.ref 65))), (1, .inl (1)), (2, .inl (q4)), (3, .inl (i))]) (st' := [.inl (44), .inr (.inr (.ref 65))]) (σ' := σ14) rfl ?_
              refine wk_call tt_97 rfl rfl rfl rfl rfl tt_93 rfl (by decide) (i65_let z σ14 (44) (by omega) ⟨by decide, by decide⟩) (fun w30 σ31 hq32 => ?_)
              obtain ⟨rfl, f31, t31⟩ := hq32
              refine go σ31 _ (sg_F_t F14 (sg_F_m f31 rfl)) (by rw [sg_F_g f31 (by rfl)]; exact g14) (aTx_t T14 t31) ?_ ?_
              · rw [txL_s _ _ _ dn0]
                simp only [List.cons_append, List.append_assoc, List.nil_append]
              · simp only [List.length_append, List.length_cons, List.length_nil]
                omega
    refine wk_ls [(0, .inr (.inr (.ref 65))), (1, .inl (1)), (2, .inl (q4)), (3, .inl (0))] rfl ⟨rfl, rfl, rfl, rfl, trivial⟩ ?_
    refine lp (itF v) [] 0 σ9 rfl rfl F9 ?_ T9
    rw [g9]
    simp only [imL, List.length_nil]
    omega
set_option maxRecDepth 8000 in
theorem i65_wr2 (z : Value) (σ : sg_S) (v : vaF) (p : Int) (hv : vkF 2 v) (hp : sg_g σ 65 3 = p) (h0 : 0 ≤ p ∧ p + (imF 2 v).length ≤ 6001) (hi : ∀ (i : Nat) (x : Int), (imF 2 v)[i]? = some x → sg_g σ 68 (p + i) = x) (h5 : 0 ≤ sg_g σ 65 5 ∧ sg_g σ 65 5 + (txF 2 v).length < 2147483600) : wx z 4 97 0 [(0, .inr (.inr (.ref 65))), (1, .inl (2))] [] σ (fun w σ' => w = none ∧ sg_F [4065, 6065, 66, 67] σ σ' ∧ sg_g σ' 65 3 = p + (imF 2 v).length ∧ aTx 65 67 σ σ' (txF 2 v)) := by
  have l1 := imF_1 2 v
  have np := sg_id (z := p) ⟨by omega, by omega⟩
  have x0 : sg_g σ 68 p = ((itF v).length : Int) := by
    have := hi 0 (((itF v).length : Int)) (by simp only [imF, List.getElem?_cons_zero])
    simp only [Int.ofNat_zero, Int.cast_ofNat_Int, Int.add_zero] at this
    exact this
  refine wk_b tt_97 4 (pc' := 8) (ls' := [(0, .inr (.inr (.ref 65))), (1, .inl (2))]) (st' := [.inl ((sg_g σ 65 3)), .inr (.inr (.ref 68))]) (σ' := σ) rfl ?_
  refine wk_callp tt_97 rfl rfl rfl rfl rfl tt_5 rfl (by decide) (at_i z σ 68 6001 ((sg_g σ 65 3)) rfl (by decide)) ?_
  generalize e4 : sx_at σ 68 6001 (sg_n ((sg_g σ 65 3))) = q4
  have d4 : q4 = ((itF v).length : Int) := by rw [← e4, hp, np, xa_in ⟨by omega, by omega⟩]; exact x0
  refine wk_b tt_97 8 (pc' := 23) (ls' := [(2, .inl (q4)), (0, .inr (.inr (.ref 65))), (1, .inl (2))]) (st' := [.inl (2)]) (σ' := (sg_w σ 65 3 (((sg_g σ 65 3) + 1)))) rfl ?_
  generalize e6 : (sg_w σ 65 3 (((sg_g σ 65 3) + 1))) = σ6
  have f6 : sg_F [4065] σ σ6 := by rw [← e6]; exact sg_F_w (sg_F_r _ _) rfl _
  have F6 : sg_F [4065, 6065, 66, 67] σ σ6 := sg_F_m f6 rfl
  have g6 : sg_g σ6 65 3 = p + 1 := by rw [← e6, sg_gw_e _ _ _ _ (by rw [hp]; exact ⟨by omega, by omega⟩), hp]
  have g65 : sg_g σ6 65 5 = sg_g σ 65 5 := sg_F_g f6 (by rfl)
  have t6 : aTx 65 67 σ σ6 [] := aTx_F (aTx_0 65 67 σ) f6 (by rfl) rfl
  refine wk_if tt_97 (tgt := 32) rfl rfl (by decide) (fun h7 => ?_) (fun h7 => ?_)
  rotate_left
  · simp only [sg_c, sg_nc] at h7
    exfalso; omega
  · obtain ⟨v1, hw⟩ := hv
    have elt : (txF 2 v).length = (txL (txF 1) (itF v)).length + 2 := by simp only [txF, List.length_cons, List.length_append, List.length_nil]
    have eli : (imF 2 v).length = (imL (imF 1) (itF v)).length + 1 := by simp only [imF, List.length_cons]
    refine wk_b tt_97 2 (pc' := 35) (ls' := [(2, .inl (q4)), (0, .inr (.inr (.ref 65))), (1, .inl (2))]) (st' := [.inl (91), .inr (.inr (.ref 65))]) (σ' := σ6) rfl ?_
    refine wk_call tt_97 rfl rfl rfl rfl rfl tt_93 rfl (by decide) (i65_let z σ6 (91) (by rw [g65]; omega) ⟨by decide, by decide⟩) (fun w8 σ9 hq10 => ?_)
    obtain ⟨rfl, f9, t9⟩ := hq10
    have F9 : sg_F [4065, 6065, 66, 67] σ σ9 := sg_F_t F6 (sg_F_m f9 rfl)
    have T9 : aTx 65 67 σ σ9 [91] := aTx_t t6 t9
    have g9 : sg_g σ9 65 3 = p + 1 := by rw [sg_F_g f9 (by rfl)]; exact g6
    refine wk_b tt_97 2 (pc' := 40) (ls' := [(3, .inl (0)), (2, .inl (q4)), (0, .inr (.inr (.ref 65))), (1, .inl (2))]) (st' := []) (σ' := σ9) rfl ?_
    -- items one by one
    have lp : ∀ (r dn : List vaF) (i : Int) (σ14 : sg_S), dn ++ r = itF v → i = dn.length → sg_F [4065, 6065, 66, 67] σ σ14 → sg_g σ14 65 3 = p + 1 + (imL (imF 1) dn).length → aTx 65 67 σ σ14 (91 :: txL (txF 1) dn) → wx z 4 97 40 [(0, .inr (.inr (.ref 65))), (1, .inl (2)), (2, .inl (q4)), (3, .inl (i))] [] σ14 (fun w σ' => w = none ∧ sg_F [4065, 6065, 66, 67] σ σ' ∧ sg_g σ' 65 3 = p + (imF 2 v).length ∧ aTx 65 67 σ σ' (txF 2 v)) := fun r => by
      induction r with
      | nil =>
        intro dn i σ14 ed ei F14 g14 T14
        rw [List.append_nil] at ed
        rw [ed] at g14 T14 ei
        have ni := sg_id (z := i) ⟨by omega, by omega⟩
        refine wk_b tt_97 2 (pc' := 42) (ls' := [(0, .inr (.inr (.ref 65))), (1, .inl (2)), (2, .inl (q4)), (3, .inl (i))]) (st' := [.inl (q4), .inl (i)]) (σ' := σ14) rfl ?_
        refine wk_if2 tt_97 (tgt := 75) rfl rfl ⟨by omega, by omega⟩ ⟨by omega, by omega⟩ (fun h27 => ?_) (fun h27 => ?_)
        · refine wk_b tt_97 2 (pc' := 78) (ls' := [(0, .inr (.inr (.ref 65))), (1, .inl (2)), (2, .inl (q4)), (3, .inl (i))]) (st' := [.inl (93), .inr (.inr (.ref 65))]) (σ' := σ14) rfl ?_
          have l14 := T14.1
          simp only [List.length_cons] at l14
          refine wk_call tt_97 rfl rfl rfl rfl rfl tt_93 rfl (by decide) (i65_let z σ14 (93) (by omega) ⟨by decide, by decide⟩) (fun w17 σ18 hq19 => ?_)
          obtain ⟨rfl, f18, t18⟩ := hq19
          refine wk_rV tt_97 rfl rfl ⟨rfl, sg_F_t F14 (sg_F_m f18 rfl), ?_, aTx_t T14 t18⟩
          rw [sg_F_g f18 (by rfl), g14, eli]
          omega
        · simp only [sg_c, sg_nc] at h27
          exfalso; omega
      | cons w r ih =>
        intro dn i σ14 ed ei F14 g14 T14
        have ew : (dn ++ [w]) ++ r = itF v := by rw [List.append_assoc]; exact ed
        have wm : w ∈ itF v := by rw [← ed]; simp
        have lb : dn.length + 1 + r.length = (itF v).length := by rw [← ed, List.length_append, List.length_cons]; omega
        have eb : imL (imF 1) (itF v) = imL (imF 1) dn ++ (imF 1 w ++ imL (imF 1) r) := by rw [← ed, imL_a]; rfl
        have ebl : (imL (imF 1) (itF v)).length = (imL (imF 1) dn).length + (imF 1 w).length + (imL (imF 1) r).length := by rw [eb, List.length_append, List.length_append]; omega
        have etl : (txL (txF 1) dn).length + 1 + (txF 1 w).length ≤ (txL (txF 1) (itF v)).length + 1 := by
          rw [← ed]
          cases dn with
          | nil => simp only [List.nil_append, txL, List.length_nil, List.length_append]; omega
          | cons y dn => simp only [List.cons_append, txL, txR_a, txR, List.length_append, List.length_cons]; omega
        have hi' : ∀ (j : Nat) (x : Int), (imF 1 w)[j]? = some x → sg_g σ 68 (p + 1 + (imL (imF 1) dn).length + j) = x := fun j x hx => by
          have hj := gE_l hx
          have := hi ((imL (imF 1) dn).length + j + 1) x (by
            show (((itF v).length : Int) :: imL (imF 1) (itF v))[(imL (imF 1) dn).length + j + 1]? = some x
            rw [List.getElem?_cons_succ, eb, List.getElem?_append_right (by omega), show (imL (imF 1) dn).length + j - (imL (imF 1) dn).length = j by omega, List.getElem?_append_left hj]
            exact hx)
          rw [show p + (((imL (imF 1) dn).length + j + 1 : Nat) : Int) = p + 1 + (imL (imF 1) dn).length + j by omega] at this
          exact this
        have l14 := T14.1
        simp only [List.length_cons] at l14
        -- the item itself
        have go : ∀ (σ15 : sg_S) (t : List Int), sg_F [4065, 6065, 66, 67] σ σ15 → sg_g σ15 65 3 = p + 1 + (imL (imF 1) dn).length → aTx 65 67 σ σ15 t → t ++ txF 1 w = 91 :: txL (txF 1) (dn ++ [w]) → t.length ≤ 1 + (txL (txF 1) dn).length + 1 → wx z 4 97 62 [(0, .inr (.inr (.ref 65))), (1, .inl (2)), (2, .inl (q4)), (3, .inl (i))] [] σ15 (fun w σ' => w = none ∧ sg_F [4065, 6065, 66, 67] σ σ' ∧ sg_g σ' 65 3 = p + (imF 2 v).length ∧ aTx 65 67 σ σ' (txF 2 v)) := fun σ15 t F15 g15 T15 et lt => by
          have l15 := T15.1
          refine wk_b tt_97 4 (pc' := 66) (ls' := [(0, .inr (.inr (.ref 65))), (1, .inl (2)), (2, .inl (q4)), (3, .inl (i))]) (st' := [.inl (((2 : Int) - 1)), .inr (.inr (.ref 65))]) (σ' := σ15) rfl ?_
          rw [show ((2 : Int) - 1) = 1 from rfl]
          refine wk_call tt_97 rfl rfl rfl rfl rfl tt_97 rfl (by decide) (i65_wr1 z σ15 w (p + 1 + (imL (imF 1) dn).length) (hw w wm) g15 ⟨by omega, by omega⟩ (fun j x hx => by rw [sg_F_ga F15 rfl]; exact hi' j x hx) ⟨by omega, by omega⟩) (fun w30 σ31 hq32 => ?_)
          obtain ⟨rfl, f31, g31, t31⟩ := hq32
          refine wk_b tt_97 2 (pc' := 40) (ls' := [(3, .inl ((i + 1))), (0, .inr (.inr (.ref 65))), (1, .inl (2)), (2, .inl (q4))]) (st' := []) (σ' := σ31) rfl ?_
          refine wk_ls [(0, .inr (.inr (.ref 65))), (1, .inl (2)), (2, .inl (q4)), (3, .inl ((i + 1)))] rfl ⟨rfl, rfl, rfl, rfl, trivial⟩ ?_
          refine ih (dn ++ [w]) (i + 1) σ31 ew (by rw [List.length_append, List.length_cons, List.length_nil]; omega) (sg_F_t F15 f31) ?_ ?_
          · rw [g31, imL_s, List.length_append]; omega
          · have := aTx_t T15 t31
            rw [et] at this
            exact this
        refine wk_b tt_97 2 (pc' := 42) (ls' := [(0, .inr (.inr (.ref 65))), (1, .inl (2)), (2, .inl (q4)), (3, .inl (i))]) (st' := [.inl (q4), .inl (i)]) (σ' := σ14) rfl ?_
        refine wk_if2 tt_97 (tgt := 75) rfl rfl ⟨by omega, by omega⟩ ⟨by omega, by omega⟩ (fun h27 => ?_) (fun h27 => ?_)
        · simp only [sg_c, sg_nc] at h27
          exfalso; omega
        · refine wk_b tt_97 2 (pc' := 49) (ls' := [(0, .inr (.inr (.ref 65))), (1, .inl (2)), (2, .inl (q4)), (3, .inl (i))]) (st' := [.inl (200), .inl (i)]) (σ' := σ14) rfl ?_
          refine wk_if2 tt_97 (tgt := 75) rfl rfl ⟨by omega, by omega⟩ (by decide) (fun h28 => ?_) (fun h28 => ?_)
          · simp only [sg_c, sg_nc] at h28
            exfalso; omega
          · refine wk_b tt_97 1 (pc' := 53) (ls' := [(0, .inr (.inr (.ref 65))), (1, .inl (2)), (2, .inl (q4)), (3, .inl (i))]) (st' := [.inl (i)]) (σ' := σ14) rfl ?_
            refine wk_if tt_97 (tgt := 62) rfl rfl ⟨by omega, by omega⟩ (fun h29 => ?_) (fun h29 => ?_)
            · simp only [sg_c, sg_nc] at h29
              have dn0 : dn = [] := by
                cases dn with
                | nil => rfl
                | cons a l => exfalso; rw [List.length_cons] at ei; omega
              subst dn0
              exact go σ14 _ F14 g14 T14 (by rw [txL_1]; rfl) (by simp only [List.length_cons]; omega)
            · simp only [sg_c, sg_nc] at h29
              have dn0 : ¬ dn = [] := fun e => by rw [e] at ei; simp only [List.length_nil] at ei; omega
              refine wk_b tt_97 2 (pc' := 59) (ls' := [(0, .inr (.inr (.ref 65))), (1, .inl (2)), (2, .inl (q4)), (3, .inl (i))]) (st' := [.inl (44), .inr (.inr (.ref 65))]) (σ' := σ14) rfl ?_
              refine wk_call tt_97 rfl rfl rfl rfl rfl tt_93 rfl (by decide) (i65_let z σ14 (44) (by omega) ⟨by decide, by decide⟩) (fun w30 σ31 hq32 => ?_)
              obtain ⟨rfl, f31, t31⟩ := hq32
              refine go σ31 _ (sg_F_t F14 (sg_F_m f31 rfl)) (by rw [sg_F_g f31 (by rfl)]; exact g14) (aTx_t T14 t31) ?_ ?_
              · rw [txL_s _ _ _ dn0]
                simp only [List.cons_append, List.append_assoc, List.nil_append]
              · simp only [List.length_append, List.length_cons, List.length_nil]
                omega
    refine wk_ls [(0, .inr (.inr (.ref 65))), (1, .inl (2)), (2, .inl (q4)), (3, .inl (0))] rfl ⟨rfl, rfl, rfl, rfl, trivial⟩ ?_
    refine lp (itF v) [] 0 σ9 rfl rfl F9 ?_ T9
    rw [g9]
    simp only [imL, List.length_nil]
    omega
set_option maxRecDepth 8000 in
theorem i65_wr3 (z : Value) (σ : sg_S) (v : vaF) (p : Int) (hv : vkF 3 v) (hp : sg_g σ 65 3 = p) (h0 : 0 ≤ p ∧ p + (imF 3 v).length ≤ 6001) (hi : ∀ (i : Nat) (x : Int), (imF 3 v)[i]? = some x → sg_g σ 68 (p + i) = x) (h5 : 0 ≤ sg_g σ 65 5 ∧ sg_g σ 65 5 + (txF 3 v).length < 2147483600) : wx z 5 97 0 [(0, .inr (.inr (.ref 65))), (1, .inl (3))] [] σ (fun w σ' => w = none ∧ sg_F [4065, 6065, 66, 67] σ σ' ∧ sg_g σ' 65 3 = p + (imF 3 v).length ∧ aTx 65 67 σ σ' (txF 3 v)) := by
  have l1 := imF_1 3 v
  have np := sg_id (z := p) ⟨by omega, by omega⟩
  have x0 : sg_g σ 68 p = ((itF v).length : Int) := by
    have := hi 0 (((itF v).length : Int)) (by simp only [imF, List.getElem?_cons_zero])
    simp only [Int.ofNat_zero, Int.cast_ofNat_Int, Int.add_zero] at this
    exact this
  refine wk_b tt_97 4 (pc' := 8) (ls' := [(0, .inr (.inr (.ref 65))), (1, .inl (3))]) (st' := [.inl ((sg_g σ 65 3)), .inr (.inr (.ref 68))]) (σ' := σ) rfl ?_
  refine wk_callp tt_97 rfl rfl rfl rfl rfl tt_5 rfl (by decide) (at_i z σ 68 6001 ((sg_g σ 65 3)) rfl (by decide)) ?_
  generalize e4 : sx_at σ 68 6001 (sg_n ((sg_g σ 65 3))) = q4
  have d4 : q4 = ((itF v).length : Int) := by rw [← e4, hp, np, xa_in ⟨by omega, by omega⟩]; exact x0
  refine wk_b tt_97 8 (pc' := 23) (ls' := [(2, .inl (q4)), (0, .inr (.inr (.ref 65))), (1, .inl (3))]) (st' := [.inl (3)]) (σ' := (sg_w σ 65 3 (((sg_g σ 65 3) + 1)))) rfl ?_
  generalize e6 : (sg_w σ 65 3 (((sg_g σ 65 3) + 1))) = σ6
  have f6 : sg_F [4065] σ σ6 := by rw [← e6]; exact sg_F_w (sg_F_r _ _) rfl _
  have F6 : sg_F [4065, 6065, 66, 67] σ σ6 := sg_F_m f6 rfl
  have g6 : sg_g σ6 65 3 = p + 1 := by rw [← e6, sg_gw_e _ _ _ _ (by rw [hp]; exact ⟨by omega, by omega⟩), hp]
  have g65 : sg_g σ6 65 5 = sg_g σ 65 5 := sg_F_g f6 (by rfl)
  have t6 : aTx 65 67 σ σ6 [] := aTx_F (aTx_0 65 67 σ) f6 (by rfl) rfl
  refine wk_if tt_97 (tgt := 32) rfl rfl (by decide) (fun h7 => ?_) (fun h7 => ?_)
  rotate_left
  · simp only [sg_c, sg_nc] at h7
    exfalso; omega
  · obtain ⟨v1, hw⟩ := hv
    have elt : (txF 3 v).length = (txL (txF 2) (itF v)).length + 2 := by simp only [txF, List.length_cons, List.length_append, List.length_nil]
    have eli : (imF 3 v).length = (imL (imF 2) (itF v)).length + 1 := by simp only [imF, List.length_cons]
    refine wk_b tt_97 2 (pc' := 35) (ls' := [(2, .inl (q4)), (0, .inr (.inr (.ref 65))), (1, .inl (3))]) (st' := [.inl (91), .inr (.inr (.ref 65))]) (σ' := σ6) rfl ?_
    refine wk_call tt_97 rfl rfl rfl rfl rfl tt_93 rfl (by decide) (i65_let z σ6 (91) (by rw [g65]; omega) ⟨by decide, by decide⟩) (fun w8 σ9 hq10 => ?_)
    obtain ⟨rfl, f9, t9⟩ := hq10
    have F9 : sg_F [4065, 6065, 66, 67] σ σ9 := sg_F_t F6 (sg_F_m f9 rfl)
    have T9 : aTx 65 67 σ σ9 [91] := aTx_t t6 t9
    have g9 : sg_g σ9 65 3 = p + 1 := by rw [sg_F_g f9 (by rfl)]; exact g6
    refine wk_b tt_97 2 (pc' := 40) (ls' := [(3, .inl (0)), (2, .inl (q4)), (0, .inr (.inr (.ref 65))), (1, .inl (3))]) (st' := []) (σ' := σ9) rfl ?_
    -- items one by one
    have lp : ∀ (r dn : List vaF) (i : Int) (σ14 : sg_S), dn ++ r = itF v → i = dn.length → sg_F [4065, 6065, 66, 67] σ σ14 → sg_g σ14 65 3 = p + 1 + (imL (imF 2) dn).length → aTx 65 67 σ σ14 (91 :: txL (txF 2) dn) → wx z 5 97 40 [(0, .inr (.inr (.ref 65))), (1, .inl (3)), (2, .inl (q4)), (3, .inl (i))] [] σ14 (fun w σ' => w = none ∧ sg_F [4065, 6065, 66, 67] σ σ' ∧ sg_g σ' 65 3 = p + (imF 3 v).length ∧ aTx 65 67 σ σ' (txF 3 v)) := fun r => by
      induction r with
      | nil =>
        intro dn i σ14 ed ei F14 g14 T14
        rw [List.append_nil] at ed
        rw [ed] at g14 T14 ei
        have ni := sg_id (z := i) ⟨by omega, by omega⟩
        refine wk_b tt_97 2 (pc' := 42) (ls' := [(0, .inr (.inr (.ref 65))), (1, .inl (3)), (2, .inl (q4)), (3, .inl (i))]) (st' := [.inl (q4), .inl (i)]) (σ' := σ14) rfl ?_
        refine wk_if2 tt_97 (tgt := 75) rfl rfl ⟨by omega, by omega⟩ ⟨by omega, by omega⟩ (fun h27 => ?_) (fun h27 => ?_)
        · refine wk_b tt_97 2 (pc' := 78) (ls' := [(0, .inr (.inr (.ref 65))), (1, .inl (3)), (2, .inl (q4)), (3, .inl (i))]) (st' := [.inl (93), .inr (.inr (.ref 65))]) (σ' := σ14) rfl ?_
          have l14 := T14.1
          simp only [List.length_cons] at l14
          refine wk_call tt_97 rfl rfl rfl rfl rfl tt_93 rfl (by decide) (i65_let z σ14 (93) (by omega) ⟨by decide, by decide⟩) (fun w17 σ18 hq19 => ?_)
          obtain ⟨rfl, f18, t18⟩ := hq19
          refine wk_rV tt_97 rfl rfl ⟨rfl, sg_F_t F14 (sg_F_m f18 rfl), ?_, aTx_t T14 t18⟩
          rw [sg_F_g f18 (by rfl), g14, eli]
          omega
        · simp only [sg_c, sg_nc] at h27
          exfalso; omega
      | cons w r ih =>
        intro dn i σ14 ed ei F14 g14 T14
        have ew : (dn ++ [w]) ++ r = itF v := by rw [List.append_assoc]; exact ed
        have wm : w ∈ itF v := by rw [← ed]; simp
        have lb : dn.length + 1 + r.length = (itF v).length := by rw [← ed, List.length_append, List.length_cons]; omega
        have eb : imL (imF 2) (itF v) = imL (imF 2) dn ++ (imF 2 w ++ imL (imF 2) r) := by rw [← ed, imL_a]; rfl
        have ebl : (imL (imF 2) (itF v)).length = (imL (imF 2) dn).length + (imF 2 w).length + (imL (imF 2) r).length := by rw [eb, List.length_append, List.length_append]; omega
        have etl : (txL (txF 2) dn).length + 1 + (txF 2 w).length ≤ (txL (txF 2) (itF v)).length + 1 := by
          rw [← ed]
          cases dn with
          | nil => simp only [List.nil_append, txL, List.length_nil, List.length_append]; omega
          | cons y dn => simp only [List.cons_append, txL, txR_a, txR, List.length_append, List.length_cons]; omega
        have hi' : ∀ (j : Nat) (x : Int), (imF 2 w)[j]? = some x → sg_g σ 68 (p + 1 + (imL (imF 2) dn).length + j) = x := fun j x hx => by
          have hj := gE_l hx
          have := hi ((imL (imF 2) dn).length + j + 1) x (by
            show (((itF v).length : Int) :: imL (imF 2) (itF v))[(imL (imF 2) dn).length + j + 1]? = some x
            rw [List.getElem?_cons_succ, eb, List.getElem?_append_right (by omega), show (imL (imF 2) dn).length + j - (imL (imF 2) dn).length = j by omega, List.getElem?_append_left hj]
            exact hx)
          rw [show p + (((imL (imF 2) dn).length + j + 1 : Nat) : Int) = p + 1 + (imL (imF 2) dn).length + j by omega] at this
          exact this
        have l14 := T14.1
        simp only [List.length_cons] at l14
        -- the item itself
        have go : ∀ (σ15 : sg_S) (t : List Int), sg_F [4065, 6065, 66, 67] σ σ15 → sg_g σ15 65 3 = p + 1 + (imL (imF 2) dn).length → aTx 65 67 σ σ15 t → t ++ txF 2 w = 91 :: txL (txF 2) (dn ++ [w]) → t.length ≤ 1 + (txL (txF 2) dn).length + 1 → wx z 5 97 62 [(0, .inr (.inr (.ref 65))), (1, .inl (3)), (2, .inl (q4)), (3, .inl (i))] [] σ15 (fun w σ' => w = none ∧ sg_F [4065, 6065, 66, 67] σ σ' ∧ sg_g σ' 65 3 = p + (imF 3 v).length ∧ aTx 65 67 σ σ' (txF 3 v)) := fun σ15 t F15 g15 T15 et lt => by
          have l15 := T15.1
          refine wk_b tt_97 4 (pc' := 66) (ls' := [(0, .inr (.inr (.ref 65))), (1, .inl (3)), (2, .inl (q4)), (3, .inl (i))]) (st' := [.inl (((3 : Int) - 1)), .inr (.inr (.ref 65))]) (σ' := σ15) rfl ?_
          rw [show ((3 : Int) - 1) = 2 from rfl]
          refine wk_call tt_97 rfl rfl rfl rfl rfl tt_97 rfl (by decide) (i65_wr2 z σ15 w (p + 1 + (imL (imF 2) dn).length) (hw w wm) g15 ⟨by omega, by omega⟩ (fun j x hx => by rw [sg_F_ga F15 rfl]; exact hi' j x hx) ⟨by omega, by omega⟩) (fun w30 σ31 hq32 => ?_)
          obtain ⟨rfl, f31, g31, t31⟩ := hq32
          refine wk_b tt_97 2 (pc' := 40) (ls' := [(3, .inl ((i + 1))), (0, .inr (.inr (.ref 65))), (1, .inl (3)), (2, .inl (q4))]) (st' := []) (σ' := σ31) rfl ?_
          refine wk_ls [(0, .inr (.inr (.ref 65))), (1, .inl (3)), (2, .inl (q4)), (3, .inl ((i + 1)))] rfl ⟨rfl, rfl, rfl, rfl, trivial⟩ ?_
          refine ih (dn ++ [w]) (i + 1) σ31 ew (by rw [List.length_append, List.length_cons, List.length_nil]; omega) (sg_F_t F15 f31) ?_ ?_
          · rw [g31, imL_s, List.length_append]; omega
          · have := aTx_t T15 t31
            rw [et] at this
            exact this
        refine wk_b tt_97 2 (pc' := 42) (ls' := [(0, .inr (.inr (.ref 65))), (1, .inl (3)), (2, .inl (q4)), (3, .inl (i))]) (st' := [.inl (q4), .inl (i)]) (σ' := σ14) rfl ?_
        refine wk_if2 tt_97 (tgt := 75) rfl rfl ⟨by omega, by omega⟩ ⟨by omega, by omega⟩ (fun h27 => ?_) (fun h27 => ?_)
        · simp only [sg_c, sg_nc] at h27
          exfalso; omega
        · refine wk_b tt_97 2 (pc' := 49) (ls' := [(0, .inr (.inr (.ref 65))), (1, .inl (3)), (2, .inl (q4)), (3, .inl (i))]) (st' := [.inl (200), .inl (i)]) (σ' := σ14) rfl ?_
          refine wk_if2 tt_97 (tgt := 75) rfl rfl ⟨by omega, by omega⟩ (by decide) (fun h28 => ?_) (fun h28 => ?_)
          · simp only [sg_c, sg_nc] at h28
            exfalso; omega
          · refine wk_b tt_97 1 (pc' := 53) (ls' := [(0, .inr (.inr (.ref 65))), (1, .inl (3)), (2, .inl (q4)), (3, .inl (i))]) (st' := [.inl (i)]) (σ' := σ14) rfl ?_
            refine wk_if tt_97 (tgt := 62) rfl rfl ⟨by omega, by omega⟩ (fun h29 => ?_) (fun h29 => ?_)
            · simp only [sg_c, sg_nc] at h29
              have dn0 : dn = [] := by
                cases dn with
                | nil => rfl
                | cons a l => exfalso; rw [List.length_cons] at ei; omega
              subst dn0
              exact go σ14 _ F14 g14 T14 (by rw [txL_1]; rfl) (by simp only [List.length_cons]; omega)
            · simp only [sg_c, sg_nc] at h29
              have dn0 : ¬ dn = [] := fun e => by rw [e] at ei; simp only [List.length_nil] at ei; omega
              refine wk_b tt_97 2 (pc' := 59) (ls' := [(0, .inr (.inr (.ref 65))), (1, .inl (3)), (2, .inl (q4)), (3, .inl (i))]) (st' := [.inl (44), .inr (.inr (.ref 65))]) (σ' := σ14) rfl ?_
              refine wk_call tt_97 rfl rfl rfl rfl rfl tt_93 rfl (by decide) (i65_let z σ14 (44) (by omega) ⟨by decide, by decide⟩) (fun w30 σ31 hq32 => ?_)
              obtain ⟨rfl, f31, t31⟩ := hq32
              refine go σ31 _ (sg_F_t F14 (sg_F_m f31 rfl)) (by rw [sg_F_g f31 (by rfl)]; exact g14) (aTx_t T14 t31) ?_ ?_
              · rw [txL_s _ _ _ dn0]
                simp only [List.cons_append, List.append_assoc, List.nil_append]
              · simp only [List.length_append, List.length_cons, List.length_nil]
                omega
    refine wk_ls [(0, .inr (.inr (.ref 65))), (1, .inl (3)), (2, .inl (q4)), (3, .inl (0))] rfl ⟨rfl, rfl, rfl, rfl, trivial⟩ ?_
    refine lp (itF v) [] 0 σ9 rfl rfl F9 ?_ T9
    rw [g9]
    simp only [imL, List.length_nil]
    omega
set_option maxRecDepth 8000 in
theorem i65_rn0 (z : Value) (σ : sg_S) (v : vaF) (hv : vkF 0 v) (h0 : (imF 0 v).length ≤ 6001) (hi : ∀ (i : Nat) (x : Int), (imF 0 v)[i]? = some x → sg_g σ 68 i = x) : wx z 3 95 0 [(0, .inr (.inr (.ref 65))), (1, .inl (0))] [] σ (fun w σ' => w = none ∧ sg_F [4065, 6065, 66, 67] σ σ' ∧ sg_g σ' 65 5 = (txF 0 v).length ∧ ∀ (i : Nat) (x : Int), (txF 0 v)[i]? = some x → i < 2000 → sg_g σ' 67 i = x) := by
  have tb := tx_b 0 v
  refine wk_b tt_95 8 (pc' := 12) (ls' := [(0, .inr (.inr (.ref 65))), (1, .inl (0))]) (st' := [.inl (0), .inr (.inr (.ref 65))]) (σ' := (sg_w (sg_w σ 65 3 (0)) 65 5 (0))) rfl ?_
  generalize e2 : (sg_w (sg_w σ 65 3 (0)) 65 5 (0)) = σ2
  have f2 : sg_F [4065, 6065] σ σ2 := by rw [← e2]; exact sg_F_w (sg_F_w (sg_F_r _ _) rfl _) rfl _
  have g3 : sg_g σ2 65 3 = 0 := by rw [← e2, sg_gw_k _ _ _ _ _ _ (by decide), sg_gw_e _ _ _ _ (by decide)]
  have g5 : sg_g σ2 65 5 = 0 := by rw [← e2, sg_gw_e _ _ _ _ (by decide)]
  refine wk_call tt_95 rfl rfl rfl rfl rfl tt_97 rfl (by decide) (i65_wr0 z σ2 v 0 hv g3 ⟨by decide, by omega⟩ (fun i x hx => by rw [sg_F_ga f2 rfl, Int.zero_add]; exact hi i x hx) (by rw [g5]; omega)) (fun w3 σ4 hq5 => ?_)
  obtain ⟨rfl, f4, -, t1, -, t3⟩ := hq5
  refine wk_rV tt_95 rfl rfl ⟨rfl, sg_F_t (sg_F_m f2 rfl) f4, by rw [t1, g5, Int.zero_add], fun i x hx hl => ?_⟩
  have := t3 i x hx (by rw [g5]; omega)
  rw [g5, Int.zero_add] at this
  exact this
set_option maxRecDepth 8000 in
theorem i65_rn1 (z : Value) (σ : sg_S) (v : vaF) (hv : vkF 1 v) (h0 : (imF 1 v).length ≤ 6001) (hi : ∀ (i : Nat) (x : Int), (imF 1 v)[i]? = some x → sg_g σ 68 i = x) : wx z 4 95 0 [(0, .inr (.inr (.ref 65))), (1, .inl (1))] [] σ (fun w σ' => w = none ∧ sg_F [4065, 6065, 66, 67] σ σ' ∧ sg_g σ' 65 5 = (txF 1 v).length ∧ ∀ (i : Nat) (x : Int), (txF 1 v)[i]? = some x → i < 2000 → sg_g σ' 67 i = x) := by
  have tb := tx_b 1 v
  refine wk_b tt_95 8 (pc' := 12) (ls' := [(0, .inr (.inr (.ref 65))), (1, .inl (1))]) (st' := [.inl (1), .inr (.inr (.ref 65))]) (σ' := (sg_w (sg_w σ 65 3 (0)) 65 5 (0))) rfl ?_
  generalize e2 : (sg_w (sg_w σ 65 3 (0)) 65 5 (0)) = σ2
  have f2 : sg_F [4065, 6065] σ σ2 := by rw [← e2]; exact sg_F_w (sg_F_w (sg_F_r _ _) rfl _) rfl _
  have g3 : sg_g σ2 65 3 = 0 := by rw [← e2, sg_gw_k _ _ _ _ _ _ (by decide), sg_gw_e _ _ _ _ (by decide)]
  have g5 : sg_g σ2 65 5 = 0 := by rw [← e2, sg_gw_e _ _ _ _ (by decide)]
  refine wk_call tt_95 rfl rfl rfl rfl rfl tt_97 rfl (by decide) (i65_wr1 z σ2 v 0 hv g3 ⟨by decide, by omega⟩ (fun i x hx => by rw [sg_F_ga f2 rfl, Int.zero_add]; exact hi i x hx) (by rw [g5]; omega)) (fun w3 σ4 hq5 => ?_)
  obtain ⟨rfl, f4, -, t1, -, t3⟩ := hq5
  refine wk_rV tt_95 rfl rfl ⟨rfl, sg_F_t (sg_F_m f2 rfl) f4, by rw [t1, g5, Int.zero_add], fun i x hx hl => ?_⟩
  have := t3 i x hx (by rw [g5]; omega)
  rw [g5, Int.zero_add] at this
  exact this
set_option maxRecDepth 8000 in
theorem i65_rn2 (z : Value) (σ : sg_S) (v : vaF) (hv : vkF 2 v) (h0 : (imF 2 v).length ≤ 6001) (hi : ∀ (i : Nat) (x : Int), (imF 2 v)[i]? = some x → sg_g σ 68 i = x) : wx z 5 95 0 [(0, .inr (.inr (.ref 65))), (1, .inl (2))] [] σ (fun w σ' => w = none ∧ sg_F [4065, 6065, 66, 67] σ σ' ∧ sg_g σ' 65 5 = (txF 2 v).length ∧ ∀ (i : Nat) (x : Int), (txF 2 v)[i]? = some x → i < 2000 → sg_g σ' 67 i = x) := by
  have tb := tx_b 2 v
  refine wk_b tt_95 8 (pc' := 12) (ls' := [(0, .inr (.inr (.ref 65))), (1, .inl (2))]) (st' := [.inl (2), .inr (.inr (.ref 65))]) (σ' := (sg_w (sg_w σ 65 3 (0)) 65 5 (0))) rfl ?_
  generalize e2 : (sg_w (sg_w σ 65 3 (0)) 65 5 (0)) = σ2
  have f2 : sg_F [4065, 6065] σ σ2 := by rw [← e2]; exact sg_F_w (sg_F_w (sg_F_r _ _) rfl _) rfl _
  have g3 : sg_g σ2 65 3 = 0 := by rw [← e2, sg_gw_k _ _ _ _ _ _ (by decide), sg_gw_e _ _ _ _ (by decide)]
  have g5 : sg_g σ2 65 5 = 0 := by rw [← e2, sg_gw_e _ _ _ _ (by decide)]
  refine wk_call tt_95 rfl rfl rfl rfl rfl tt_97 rfl (by decide) (i65_wr2 z σ2 v 0 hv g3 ⟨by decide, by omega⟩ (fun i x hx => by rw [sg_F_ga f2 rfl, Int.zero_add]; exact hi i x hx) (by rw [g5]; omega)) (fun w3 σ4 hq5 => ?_)
  obtain ⟨rfl, f4, -, t1, -, t3⟩ := hq5
  refine wk_rV tt_95 rfl rfl ⟨rfl, sg_F_t (sg_F_m f2 rfl) f4, by rw [t1, g5, Int.zero_add], fun i x hx hl => ?_⟩
  have := t3 i x hx (by rw [g5]; omega)
  rw [g5, Int.zero_add] at this
  exact this
set_option maxRecDepth 8000 in
theorem i65_rn3 (z : Value) (σ : sg_S) (v : vaF) (hv : vkF 3 v) (h0 : (imF 3 v).length ≤ 6001) (hi : ∀ (i : Nat) (x : Int), (imF 3 v)[i]? = some x → sg_g σ 68 i = x) : wx z 6 95 0 [(0, .inr (.inr (.ref 65))), (1, .inl (3))] [] σ (fun w σ' => w = none ∧ sg_F [4065, 6065, 66, 67] σ σ' ∧ sg_g σ' 65 5 = (txF 3 v).length ∧ ∀ (i : Nat) (x : Int), (txF 3 v)[i]? = some x → i < 2000 → sg_g σ' 67 i = x) := by
  have tb := tx_b 3 v
  refine wk_b tt_95 8 (pc' := 12) (ls' := [(0, .inr (.inr (.ref 65))), (1, .inl (3))]) (st' := [.inl (3), .inr (.inr (.ref 65))]) (σ' := (sg_w (sg_w σ 65 3 (0)) 65 5 (0))) rfl ?_
  generalize e2 : (sg_w (sg_w σ 65 3 (0)) 65 5 (0)) = σ2
  have f2 : sg_F [4065, 6065] σ σ2 := by rw [← e2]; exact sg_F_w (sg_F_w (sg_F_r _ _) rfl _) rfl _
  have g3 : sg_g σ2 65 3 = 0 := by rw [← e2, sg_gw_k _ _ _ _ _ _ (by decide), sg_gw_e _ _ _ _ (by decide)]
  have g5 : sg_g σ2 65 5 = 0 := by rw [← e2, sg_gw_e _ _ _ _ (by decide)]
  refine wk_call tt_95 rfl rfl rfl rfl rfl tt_97 rfl (by decide) (i65_wr3 z σ2 v 0 hv g3 ⟨by decide, by omega⟩ (fun i x hx => by rw [sg_F_ga f2 rfl, Int.zero_add]; exact hi i x hx) (by rw [g5]; omega)) (fun w3 σ4 hq5 => ?_)
  obtain ⟨rfl, f4, -, t1, -, t3⟩ := hq5
  refine wk_rV tt_95 rfl rfl ⟨rfl, sg_F_t (sg_F_m f2 rfl) f4, by rw [t1, g5, Int.zero_add], fun i x hx hl => ?_⟩
  have := t3 i x hx (by rw [g5]; omega)
  rw [g5, Int.zero_add] at this
  exact this
