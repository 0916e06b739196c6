/-! lanes listed once each: what is gathered is no more than what there is. -/
def sNn (d : Int → Int) (x : Nat → Int) : Nat → Int
  | 0 => 0
  | n + 1 => sNn d x n + d (x n)
def sI (d : Int → Int) : Nat → Int
  | 0 => 0
  | n + 1 => sI d n + d n
def rmv (x : Nat → Int) (j : Nat) : Nat → Int := fun i => if i < j then x i else x (i + 1)
theorem sN_e {d : Int → Int} {x y : Nat → Int} : ∀ {n : Nat}, (∀ i, i < n → x i = y i) → sNn d x n = sNn d y n
  | 0, _ => rfl
  | n + 1, h => by simp only [sNn]; rw [sN_e (n := n) (fun i z => h i (by omega)), h n (by omega)]
theorem sN_rm {d : Int → Int} {x : Nat → Int} {j : Nat} : ∀ {n : Nat}, j ≤ n → sNn d x (n + 1) = sNn d (rmv x j) n + d (x j)
  | 0, h => by
    have : j = 0 := by omega
    subst this
    rfl
  | n + 1, h => by
    by_cases e : j = n + 1
    · subst e
      rw [sNn, sN_e (x := rmv x (n + 1)) (y := x) (fun i z => by unfold rmv; rw [if_pos z])]
    · rw [sNn, sN_rm (j := j) (n := n) (by omega)]
      have hnj : ¬ n < j := by omega
      have : rmv x j n = x (n + 1) := by simp only [rmv, if_neg hnj]
      simp only [sNn]
      rw [this]
      omega
theorem sN_le {d : Int → Int} : ∀ {L : Nat} {N : Nat} {x : Nat → Int}, (∀ i, i < N → 0 ≤ x i ∧ x i < L) → (∀ i j, i < j → j < N → ¬ x i = x j) → (∀ i : Nat, i < L → 0 ≤ d i) → sNn d x N ≤ sI d L
  | 0, 0, x, h1, h2, h3 => Int.le_refl _
  | 0, N + 1, x, h1, h2, h3 => by have := h1 0 (by omega); omega
  | L + 1, N, x, h1, h2, h3 => by
    have dL := h3 L (by omega)
    by_cases c : ∃ j, j < N ∧ x j = L
    · obtain ⟨j, hj, ej⟩ := c
      obtain ⟨n, rfl⟩ : ∃ n, N = n + 1 := ⟨N - 1, by omega⟩
      rw [sN_rm (j := j) (by omega), ej]
      have := sN_le (L := L) (N := n) (x := rmv x j) (fun i hi => ?_) (fun i k hik hk => ?_) (fun i hi => h3 i (by omega))
      · simp only [sI]; omega
      · unfold rmv
        split
        · have a := h1 i (by omega)
          have b := h2 i j (by omega) (by omega)
          omega
        · have a := h1 (i + 1) (by omega)
          have b := h2 j (i + 1) (by omega) (by omega)
          omega
      · unfold rmv
        split <;> split
        · exact h2 _ _ (by omega) (by omega)
        · exact h2 _ _ (by omega) (by omega)
        · omega
        · exact h2 _ _ (by omega) (by omega)
    · have := sN_le (L := L) (N := N) (x := x) (fun i hi => ?_) h2 (fun i hi => h3 i (by omega))
      · simp only [sI]; omega
      · have a := h1 i hi
        have b : ¬ x i = L := fun e => c ⟨i, hi, e⟩
        omega
section FJ
variable {σ : sg_S} {M : Int} {R : List (Int × Int)}
theorem bg_0 : ∀ (l : Nat), bg σ R l 0 = 0
  | 0 => rfl
  | l + 1 => by simp only [bg]; rw [bg_0 l]; rfl
theorem sI_bg (l : Nat) : ∀ n : Nat, sI (fun i => bg σ R l (i + 1) - bg σ R l i) n = bg σ R l n
  | 0 => by simp only [sI]; exact (bg_0 l).symm
  | n + 1 => by
    simp only [sI]
    rw [sI_bg l n, show ((n + 1 : Nat) : Int) = (n : Int) + 1 by omega]
    omega
theorem gsum_d (h : fCh σ M R) {l : Nat} {r : Int × Int} (hr : R[l]? = some r) {N L : Int} {P : Int → Prop} (hd : lD σ N P) (hP : ∀ x, P x → 0 ≤ x ∧ x < L) (hL : L = (R.getD 0 (0, 0)).2) : gsum σ R l N.toNat ≤ r.2 := by
  have L0 := (fCh_L h (by have := lt_of_get hr; omega)).1
  have e : ∀ n : Nat, (n : Int) ≤ N → gsum σ R l n = sNn (fun i => bg σ R l (i + 1) - bg σ R l i) (fun j => sg_g σ 143 j) n := fun n => by
    induction n with
    | zero => intro _; rfl
    | succ n ih =>
      intro hn
      simp only [gsum, sNn]
      rw [ih (by omega)]
      unfold gd
      have := hP _ (hd.2.2.1 n (by omega) (by omega))
      rw [if_neg (by omega)]
  have N0 := hd.2.1
  rw [e N.toNat (by omega)]
  have := sN_le (d := fun i => bg σ R l (i + 1) - bg σ R l i) (L := L.toNat) (N := N.toNat) (x := fun j => sg_g σ 143 j) (fun i hi => by have := hP _ (hd.2.2.1 i (by omega) (by omega)); omega) (fun i j x y => hd.2.2.2 i j (by omega) (by omega) (by omega)) (fun i hi => by
    have := bg_m h hr i (i + 1) (by omega) (by omega) (by omega)
    omega)
  rw [sI_bg, show ((L.toNat : Nat) : Int) = L by omega, hL, bg_L h hr] at this
  exact this
theorem gT_d (h : fCh σ M R) {N L : Int} {P : Int → Prop} (hd : lD σ N P) (hP : ∀ x, P x → 0 ≤ x ∧ x < L) (hL : L = (R.getD 0 (0, 0)).2) : gT σ R N.toNat R.length ≤ eX R := by
  have : ∀ l, l ≤ R.length → gT σ R N.toNat l + eX (R.drop l) ≤ eX R := fun l => by
    induction l with
    | zero => intro _; simp only [gT, List.drop_zero]; omega
    | succ l ih =>
      intro hl
      obtain ⟨r, hr⟩ : ∃ q, R[l]? = some q := ⟨_, List.getElem?_eq_getElem (by omega)⟩
      have a := ih (by omega)
      have b := gsum_d h hr hd hP hL
      rw [eX_d hr] at a
      simp only [gT]
      omega
  have := this _ (Nat.le_refl _)
  rw [List.drop_of_length_le (Nat.le_refl _)] at this
  simp only [eX] at this
  omega
end FJ
