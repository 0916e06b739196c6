/-! Work only grows, and a span is no more than the work. -/
def gB (go : Int → eV → Int → eR) : Prop := ∀ (x : Int) (ρ : eV) (w : Int) (v : vaF) (w' s' : Int) (ρ' : eV), w ≤ 3000 → go x ρ w = .inr (v, w', s', ρ') → w ≤ w' ∧ w' ≤ 3000 ∧ 0 ≤ s' ∧ s' ≤ w' - w
theorem eS_b {go : Int → eV → Int → eR} (hg : gB go) : ∀ (R : List Int) (ρ : eV) (w : Int) (vs : List vaF) (w' s' : Int) (ρ' : eV), w ≤ 3000 → eS go R ρ w = .inr (vs, w', s', ρ') → (w ≤ w' ∧ w' ≤ 3000 ∧ 0 ≤ s' ∧ s' ≤ w' - w) ∧ vs.length = R.length
  | [], ρ, w, vs, w', s', ρ', hw, h => by
    simp only [eS, Sum.inr.injEq, Prod.mk.injEq] at h
    obtain ⟨rfl, rfl, rfl, rfl⟩ := h
    exact ⟨⟨by omega, hw, by omega, by omega⟩, rfl⟩
  | x :: R, ρ, w, vs, w', s', ρ', hw, h => by
    simp only [eS] at h
    split at h
    · cases h
    · rename_i v w1 s1 ρ1 e1
      split at h
      · cases h
      · rename_i vs2 w2 s2 ρ2 e2
        simp only [Sum.inr.injEq, Prod.mk.injEq] at h
        obtain ⟨rfl, rfl, rfl, rfl⟩ := h
        have a := hg x ρ w v w1 s1 ρ1 hw e1
        have b := eS_b hg R ρ1 w1 vs2 w2 s2 ρ2 a.2.1 e2
        exact ⟨⟨by omega, by omega, by omega, by omega⟩, by simp only [List.length_cons]; omega⟩
theorem evT_b {go : Int → eV → Int → eR} (hg : gB go) {gd : List Int} {bd : Int} {ρ : eV} {w : Int} {vs : List vaF} {w' s' : Int} {ρ' : eV} (hw : w ≤ 3000) (h : evT go gd bd ρ w = .inr (vs, w', s', ρ')) : (w ≤ w' ∧ w' ≤ 3000 ∧ 0 ≤ s' ∧ s' ≤ w' - w) ∧ vs.length ≤ 1 := by
  unfold evT at h
  split at h
  · split at h
    · cases h
    · rename_i v w1 s1 ρ1 e1
      simp only [Sum.inr.injEq, Prod.mk.injEq] at h
      obtain ⟨rfl, rfl, rfl, rfl⟩ := h
      exact ⟨hg _ _ _ _ _ _ _ hw e1, by simp⟩
  · split at h
    · cases h
    · rename_i v w1 s1 ρ1 e1
      have a := hg _ _ _ _ _ _ _ hw e1
      split at h
      · simp only [Sum.inr.injEq, Prod.mk.injEq] at h
        obtain ⟨rfl, rfl, rfl, rfl⟩ := h
        exact ⟨a, by simp⟩
      · split at h
        · cases h
        · rename_i v2 w2 s2 ρ2 e2
          simp only [Sum.inr.injEq, Prod.mk.injEq] at h
          obtain ⟨rfl, rfl, rfl, rfl⟩ := h
          have b := hg _ _ _ _ _ _ _ a.2.1 e2
          exact ⟨⟨by omega, by omega, by omega, by omega⟩, by simp⟩
theorem eP_b {one : Nat → eV → Int → eRs} (ho : ∀ i ρ w vs w' s' ρ', w ≤ 3000 → one i ρ w = .inr (vs, w', s', ρ') → w ≤ w' ∧ w' ≤ 3000 ∧ 0 ≤ s' ∧ s' ≤ w' - w) : ∀ (k i : Nat) (ρ : eV) (w bs : Int) (acc vs : List vaF) (w' bs' : Int) (ρ' : eV), w ≤ 3000 → 0 ≤ bs → eP one k i ρ w bs acc = .inr (vs, w', bs', ρ') → w ≤ w' ∧ w' ≤ 3000 ∧ 0 ≤ bs' ∧ (bs' ≤ bs ∨ bs' ≤ w' - w)
  | 0, i, ρ, w, bs, acc, vs, w', bs', ρ', hw, hb, h => by
    simp only [eP, Sum.inr.injEq, Prod.mk.injEq] at h
    obtain ⟨rfl, rfl, rfl, rfl⟩ := h
    exact ⟨by omega, hw, hb, by omega⟩
  | k + 1, i, ρ, w, bs, acc, vs, w', bs', ρ', hw, hb, h => by
    simp only [eP] at h
    split at h
    · cases h
    · rename_i vs1 w1 s1 ρ1 e1
      have a := ho _ _ _ _ _ _ _ hw e1
      have b := eP_b ho k (i + 1) ρ1 w1 (if bs < s1 then s1 else bs) (acc ++ vs1) vs w' bs' ρ' a.2.1 (by split <;> omega) h
      refine ⟨by omega, b.2.1, b.2.2.1, ?_⟩
      rcases b.2.2.2 with z | z
      · split at z <;> omega
      · omega
/-- what an operation may come to -/
def eOG (k ty : Int) (r : Int ⊕ (vaF × Int)) : Prop := (∃ e, r = .inl e ∧ ¬ e = 0) ∨ ∃ v c, r = .inr (v, c) ∧ 0 ≤ c ∧ (16 ≤ k → ¬ (k = 18 ∨ k = 19 ∨ k = 20) → 1 ≤ ty → (k = 16 ∨ k = 21 → ty = 1) → c = cnvF ty.toNat v)
theorem eOG_l {k ty : Int} {e : Int} (h : ¬ e = 0) : eOG k ty (.inl e) := Or.inl ⟨e, rfl, h⟩
theorem eOG_s {k ty : Int} {v : vaF} {c : Int} (h : 0 ≤ c) (hk : k < 16 ∨ k = 18 ∨ k = 19 ∨ k = 20) : eOG k ty (.inr (v, c)) := Or.inr ⟨v, c, rfl, h, fun a b => by omega⟩
theorem eOG_m {k ty : Int} (l : List vaF) (hk : ¬ (k = 16 ∨ k = 21)) : eOG k ty (.inr (mkF l, cnL (ty - 1).toNat l)) := Or.inr ⟨_, _, rfl, Int.le_trans (Int.natCast_nonneg _) (cnL_l _ l), fun _ _ h1 _ => by rw [show ty.toNat = (ty - 1).toNat + 1 by omega, cnF_mk]⟩
theorem eOG_1 {k ty : Int} (l : List vaF) (hk : k = 16 ∨ k = 21) : eOG k ty (.inr (mkF l, cnL 0 l)) := Or.inr ⟨_, _, rfl, Int.le_trans (Int.natCast_nonneg _) (cnL_l _ l), fun _ _ _ h2 => by rw [h2 hk, show (1 : Int).toNat = 0 + 1 by rfl, cnF_mk]⟩
theorem eO_g (k ty x : Int) (vs : List vaF) : eOG k ty (eO k ty x vs) := by
  unfold eO
  simp only
  by_cases c0 : k = 0
  · rw [if_pos c0]; exact eOG_s (by omega) (by omega)
  rw [if_neg c0]
  by_cases c1 : k < 11
  · rw [if_pos c1]
    by_cases d : (k = 9 ∨ k = 10) ∧ vs.getD 1 (nmF 0) [] = 0
    · rw [if_pos d]; exact eOG_l (by decide)
    · rw [if_neg d]; exact eOG_s (by omega) (by omega)
  rw [if_neg c1]
  by_cases c2 : k = 11
  · rw [if_pos c2]; exact eOG_s (by omega) (by omega)
  rw [if_neg c2]
  by_cases c3 : k = 12
  · rw [if_pos c3]
    by_cases d : 0 ≤ vs.getD 1 (nmF 0) [] ∧ vs.getD 1 (nmF 0) [] < (itF (vs.getD 0 (nmF 0))).length
    · rw [if_pos d]; exact eOG_s (by omega) (by omega)
    · rw [if_neg d]; exact eOG_l (by decide)
  rw [if_neg c3]
  by_cases c4 : k = 14
  · rw [if_pos c4]; exact eOG_s (Int.le_trans (Int.natCast_nonneg _) (cnL_l _ vs)) (by omega)
  rw [if_neg c4]
  by_cases c5 : k = 16
  · rw [if_pos c5]
    by_cases d : 0 ≤ vs.getD 0 (nmF 0) [] ∧ vs.getD 0 (nmF 0) [] ≤ 200
    · rw [if_pos d]; exact eOG_1 _ (by omega)
    · rw [if_neg d]; exact eOG_l (by decide)
  rw [if_neg c5]
  by_cases c6 : k = 17
  · rw [if_pos c6]
    by_cases d : 0 ≤ vs.getD 1 (nmF 0) [] ∧ vs.getD 1 (nmF 0) [] ≤ 200
    · rw [if_pos d]; exact eOG_m _ (by omega)
    · rw [if_neg d]; exact eOG_l (by decide)
  rw [if_neg c6]
  by_cases c7 : k = 18
  · rw [if_pos c7]; exact eOG_s (by omega) (by omega)
  rw [if_neg c7]
  by_cases c8 : k = 19 ∨ k = 20
  · rw [if_pos c8]
    cases nuF (vs.getD 0 (nmF 0)) with
    | nil => exact eOG_l (by decide)
    | cons y r => exact eOG_s (by omega) (by omega)
  rw [if_neg c8]
  by_cases c9 : k = 21
  · rw [if_pos c9]; exact eOG_1 _ (by omega)
  rw [if_neg c9]
  by_cases c10 : k = 22
  · rw [if_pos c10]; exact eOG_m _ (by omega)
  rw [if_neg c10]
  by_cases c11 : k = 23
  · rw [if_pos c11]
    by_cases d : (itF (vs.getD 0 (nmF 0))).length + (itF (vs.getD 1 (nmF 0))).length ≤ 200
    · rw [if_pos d]; exact eOG_m _ (by omega)
    · rw [if_neg d]; exact eOG_l (by decide)
  rw [if_neg c11]
  by_cases c12 : k = 24
  · rw [if_pos c12]
    by_cases d : sumF ((itF (vs.getD 0 (nmF 0))).map (fun v => ((itF v).length : Int))) ≤ 200
    · rw [if_pos d]; exact eOG_m _ (by omega)
    · rw [if_neg d]; exact eOG_l (by decide)
  rw [if_neg c12]
  by_cases c13 : k = 25
  · rw [if_pos c13]
    by_cases d : (itF (vs.getD 0 (nmF 0))).length = (itF (vs.getD 1 (nmF 0))).length
    · rw [if_pos d]; exact eOG_m _ (by omega)
    · rw [if_neg d]; exact eOG_l (by decide)
  rw [if_neg c13]
  by_cases c14 : k = 26
  · rw [if_pos c14]
    by_cases d : (itF (vs.getD 0 (nmF 0))).length = (itF (vs.getD 1 (nmF 0))).length
    · rw [if_pos d]
      cases ivF (itF (vs.getD 1 (nmF 0))).length 0 (nuF (vs.getD 1 (nmF 0))) (fun _ => -1) with
      | none => exact eOG_l (by decide)
      | some g => exact eOG_m _ (by omega)
    · rw [if_neg d]; exact eOG_l (by decide)
  rw [if_neg c14]
  by_cases d : (nuF (vs.getD 1 (nmF 0))).any (fun x => decide (x < 0)) = true
  · rw [if_pos d]; exact eOG_l (by decide)
  rw [if_neg d]
  by_cases d2 : sumF (nuF (vs.getD 1 (nmF 0))) = (itF (vs.getD 0 (nmF 0))).length
  · rw [if_pos d2]; exact eOG_m _ (by omega)
  · rw [if_neg d2]; exact eOG_l (by decide)
theorem eO_c {k ty x : Int} {vs : List vaF} {v : vaF} {c : Int} (h : eO k ty x vs = .inr (v, c)) : 0 ≤ c := by
  have g := eO_g k ty x vs
  rw [h] at g
  rcases g with ⟨e, e1, -⟩ | ⟨v', c', e1, e2, -⟩
  · cases e1
  · cases e1; exact e2
theorem ePay_b {r : Int ⊕ (vaF × Int)} {w s : Int} {ρ : eV} {v : vaF} {w' s' : Int} {ρ' : eV} (hr : ∀ v c, r = .inr (v, c) → 0 ≤ c) (h : ePay r w s ρ = .inr (v, w', s', ρ')) : w ≤ w' ∧ w' ≤ 3000 ∧ s' = s := by
  unfold ePay at h
  split at h
  · cases h
  · rename_i v1 c
    have := hr v1 c rfl
    split at h
    · simp only [Sum.inr.injEq, Prod.mk.injEq] at h
      obtain ⟨-, rfl, rfl, -⟩ := h
      exact ⟨by omega, by assumption, rfl⟩
    · cases h
theorem eN_b {A : aT} {T B : Int → Int} {call : Int → eV → Int → eR} (hc : gB call) : ∀ f, gB (evN A T B call f)
  | 0 => fun x ρ w v w' s' ρ' hw h => by simp only [evN] at h; cases h
  | f + 1 => fun n ρ w v w' s' ρ' hw h => by
    have ih := eN_b (A := A) (T := T) (B := B) hc f
    simp only [evN] at h
    split at h
    rotate_left
    · cases h
    rename_i hw1
    split at h
    · simp only [Sum.inr.injEq, Prod.mk.injEq] at h
      obtain ⟨-, rfl, rfl, -⟩ := h
      exact ⟨by omega, hw1, by omega, by omega⟩
    split at h
    · split at h
      · cases h
      · rename_i v1 w1 s1 ρ1 e1
        have a := ih _ _ _ _ _ _ _ hw1 e1
        split at h
        · cases h
        · rename_i v2 w2 s2 ρ2 e2
          have b := ih _ _ _ _ _ _ _ a.2.1 e2
          simp only [Sum.inr.injEq, Prod.mk.injEq] at h
          obtain ⟨-, rfl, rfl, -⟩ := h
          exact ⟨by omega, by omega, by omega, by omega⟩
    split at h
    · split at h
      · cases h
      · rename_i v1 w1 s1 ρ1 e1
        have a := ih _ _ _ _ _ _ _ hw1 e1
        split at h
        · cases h
        · rename_i v2 w2 s2 ρ2 e2
          have b := ih _ _ _ _ _ _ _ a.2.1 e2
          simp only [Sum.inr.injEq, Prod.mk.injEq] at h
          obtain ⟨-, rfl, rfl, -⟩ := h
          exact ⟨by omega, by omega, by omega, by omega⟩
    split at h
    · split at h
      · cases h
      · rename_i v1 w1 s1 ρ1 e1
        have a := (eS_b ih _ _ _ _ _ _ _ hw1 e1).1
        split at h
        · cases h
        · rename_i v2 w2 s2 ρ2 e2
          have b := hc _ _ _ _ _ _ _ a.2.1 e2
          simp only [Sum.inr.injEq, Prod.mk.injEq] at h
          obtain ⟨-, rfl, rfl, -⟩ := h
          exact ⟨by omega, by omega, by omega, by omega⟩
    split at h
    · split at h
      · cases h
      · rename_i vs1 w1 s1 ρ1 e1
        have a := (eS_b ih _ _ _ _ _ _ _ hw1 e1).1
        split at h
        · cases h
        split at h
        · cases h
        · rename_i acc w2 bs ρ2 e2
          have b := eP_b (fun i ρ w vs w' s' ρ' hw h => (evT_b ih hw h).1) _ _ _ _ _ _ _ _ _ _ a.2.1 (Int.le_refl _) e2
          have p := ePay_b (fun v c e => by
            simp only [Sum.inr.injEq, Prod.mk.injEq] at e
            obtain ⟨-, rfl⟩ := e
            exact Int.le_trans (Int.natCast_nonneg _) (cnL_l _ _)) h
          refine ⟨by omega, p.2.1, by omega, ?_⟩
          rcases b.2.2.2 with z | z <;> omega
    · split at h
      · cases h
      · rename_i vs1 w1 s1 ρ1 e1
        have a := (eS_b ih _ _ _ _ _ _ _ hw1 e1).1
        have p := ePay_b (fun v c e => eO_c e) h
        exact ⟨by omega, p.2.1, by omega, by omega⟩
theorem eC_b (A : aT) (D : List aDf) (T B : Int → Int) : ∀ k, gB (eC A D T B k)
  | 0 => fun x ρ w v w' s' ρ' hw h => by simp only [eC] at h; cases h
  | k + 1 => fun x ρ w v w' s' ρ' hw h => by
    simp only [eC] at h
    split at h
    · exact eN_b (eC_b A D T B k) _ _ _ _ _ _ _ _ hw h
    · exact eC_b A D T B k _ _ _ _ _ _ _ hw h
