/-! joined: values one behind the other. -/
/-- the first m lists, one behind the other -/
def apF (Ls : Nat → List vaF) : Nat → List vaF
  | 0 => []
  | m + 1 => apF Ls m ++ Ls m
theorem okF_ap {d : Nat} {Ls : Nat → List vaF} : ∀ m : Nat, (∀ k, k < m → okF d (Ls k)) → okF d (apF Ls m)
  | 0, _ => okF_0 d
  | m + 1, h => (okF_a d _ _).mpr ⟨okF_ap m (fun k x => h k (by omega)), h m (by omega)⟩
section FXJ
variable {σ : sg_S} {M : Int} {d : Nat} {Ls : Nat → List vaF} {RR : Nat → List (Int × Int)}
theorem jS_X {m : Nat} (hv : ∀ k : Nat, k < m → ∀ j : Nat, j ≤ d → ((lvl j (Ls k)).length : Int) = ((RR k).getD j (0, 0)).2) {j : Nat} (hj : j ≤ d) : ∀ m' : Nat, m' ≤ m → jS RR j m' = ((lvl j (apF Ls m')).length : Int)
  | 0, _ => by simp only [jS, apF]; rw [lvl_0]; rfl
  | m' + 1, h => by
    simp only [jS, apF]
    rw [jS_X hv hj m' (by omega), lvl_a, List.length_append, ← hv m' (by omega) j hj]
    omega
theorem jT_Y {m : Nat} (hv : ∀ k : Nat, k < m → ∀ j : Nat, j ≤ d → ((lvl j (Ls k)).length : Int) = ((RR k).getD j (0, 0)).2) : jT RR m (d + 1) = exF d (apF Ls m) := by
  have key : ∀ (n j : Nat), j + n ≤ d → jT RR m (j + n + 1) = jT RR m j + lvS n (apF Ls m) j := fun n => by
    induction n with
    | zero =>
      intro j hj
      simp only [jT, lvS, Nat.add_zero]
      rw [jS_X hv (by omega) m (Nat.le_refl _)]
    | succ n ih =>
      intro j hj
      have := ih (j + 1) (by omega)
      rw [show j + (n + 1) + 1 = j + 1 + n + 1 by omega, this]
      simp only [jT, lvS]
      rw [jS_X hv (by omega) m (Nat.le_refl _)]
      omega
  have := key d 0 (by omega)
  rw [exF_l, show d + 1 = 0 + d + 1 by omega, this]
  simp only [jT]
  omega
theorem m_joinF {fr mn : Int} {m : Nat} {Q : Int → sg_S → Prop} (hm : mn = m ∧ 1 ≤ m) (hfr : 0 ≤ fr ∧ fr + mn ≤ 12000) (hv : ∀ k : Nat, k < m → fX σ M (sg_g σ 133 (fr + k)) d (Ls k) (RR k)) (hc : 0 ≤ sg_g σ 88 91) (hfl : 0 ≤ sg_g σ 88 87 ∧ sg_g σ 88 87 < 30000) (hM : M ≤ 12000) (ht : sg_g σ 88 91 + exF d (apF Ls m) ≤ 60000) (k : ∀ q σ', q = sg_g σ 88 87 → fEx σ σ' → (∀ M', (∀ j : Nat, j ≤ d → ((lvl j (apF Ls m)).length : Int) ≤ M') → fX σ' M' q d (apF Ls m) (jR RR (sg_g σ 88 91) m (d + 1))) → sg_g σ' 88 87 = sg_g σ 88 87 + 1 → sg_g σ' 88 91 = sg_g σ 88 91 + exF d (apF Ls m) → sg_F [139, 140, 141, 142, 88088, 92088] σ σ' → Q q σ') : V_joined σ fr mn Q := by
  have hs : ∀ k : Nat, k < m → ∀ j : Nat, j ≤ d → ((lvl j (Ls k)).length : Int) = ((RR k).getD j (0, 0)).2 := fun k hk j hj => ((hv k hk).2.2.2 j hj).1
  have eT := jT_Y hs
  refine m_join (RR := RR) (K := d + 1) hm hfr (fun k hk => ⟨(hv k hk).1, (hv k hk).2.1⟩) hc hfl hM (by rw [eT]; exact ht) (fun q σ' e ex fv jc e87 e91 F => k q σ' e ex (fun M' hM' => ?_) e87 (by rw [e91, eT]) F)
  refine ⟨fv M' (fun lv hlv => by rw [jS_X hs (by omega) m (Nat.le_refl _)]; exact hM' lv (by omega)), by rw [jR_l], okF_ap m (fun k hk => (hv k hk).2.2.1), fun j hj => ?_⟩
  have er : (jR RR (sg_g σ 88 91) m (d + 1)).getD j (0, 0) = (sg_g σ 88 91 + jT RR m j, jS RR j m) := by
    rw [List.getD_eq_getElem?_getD, jR_at (by omega)]
    rfl
  rw [er]
  simp only
  refine ⟨(jS_X hs hj m (Nat.le_refl _)).symm, ?_⟩
  obtain ⟨c1, -⟩ := jc j (by omega)
  have key : ∀ m' : Nat, m' ≤ m → ∀ (i : Nat) (x : Int), (lvl j (apF Ls m'))[i]? = some x → sg_g σ' 142 (sg_g σ 88 91 + jT RR m j + i) = x := fun m' => by
    induction m' with
    | zero =>
      intro _ i x hx
      simp only [apF] at hx
      rw [lvl_0] at hx
      simp at hx
    | succ m' ih =>
      intro hm' i x hx
      simp only [apF] at hx
      rw [lvl_a] at hx
      rcases Nat.lt_or_ge i (lvl j (apF Ls m')).length with q | q
      · rw [List.getElem?_append_left q] at hx
        exact ih (by omega) i x hx
      · rw [List.getElem?_append_right q] at hx
        have hl := lt_of_get hx
        have e1 := jS_X hs hj m' (by omega)
        have e2 := hs m' (by omega) j hj
        have cc := c1 m' (by omega) ((i - (lvl j (apF Ls m')).length : Nat) : Int) (Int.natCast_nonneg _) (by omega)
        rw [show sg_g σ 88 91 + jT RR m j + jS RR j m' + ((i - (lvl j (apF Ls m')).length : Nat) : Int) = sg_g σ 88 91 + jT RR m j + i by omega] at cc
        rw [cc]
        exact ((hv m' (by omega)).2.2.2 j hj).2 _ x hx
  exact key m (Nat.le_refl _)
end FXJ
