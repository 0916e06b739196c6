/-! DEFS by number, and what their PARAMS bind. -/
theorem kDl_rev : ∀ (D : List aDf) (ds : kD), (kDl D ds).reverse = ds.reverse ++ D.map (fun x => (x.1, x.2.2.1.map (·.2.2), x.2.2.2))
  | [], ds => by simp [kDl]
  | x :: D, ds => by simp only [kDl]; rw [kDl_rev D]; simp
theorem kDx_at : ∀ (l : kD) (w d : Int) (y : List Int × Int), kDx l w = some d → kDef l w = some y → 0 ≤ d ∧ ∃ c, l.reverse[d.toNat]? = some c ∧ c.2 = y
  | [], w, d, y, h, _ => by cases h
  | x :: l, w, d, y, h, g => by
    unfold kDx at h
    unfold kDef at g
    by_cases c : x.1 = w
    · rw [if_pos c] at h g
      cases h
      cases g
      exact ⟨by omega, x, by simp, rfl⟩
    · rw [if_neg c] at h g
      obtain ⟨a, b, b1, b2⟩ := kDx_at l w d y h g
      refine ⟨a, b, ?_, b2⟩
      have hl : d.toNat < l.reverse.length := by
        rcases Nat.lt_or_ge d.toNat l.reverse.length with q | q
        · exact q
        · rw [List.getElem?_eq_none q] at b1; cases b1
      rw [List.reverse_cons, List.getElem?_append_left hl]; exact b1
theorem kD_at {D : List aDf} {j : Nat} {w d : Int} {y : List Int × Int} (h : kDx (kDl (D.take j) []) w = some d) (g : kDef (kDl (D.take j) []) w = some y) : 0 ≤ d ∧ ∃ x, D[d.toNat]? = some x ∧ y = (x.2.2.1.map (·.2.2), x.2.2.2) := by
  obtain ⟨a, c, c1, c2⟩ := kDx_at _ _ _ _ h g
  refine ⟨a, ?_⟩
  rw [kDl_rev, List.reverse_nil, List.nil_append, List.getElem?_map] at c1
  cases e : (D.take j)[d.toNat]? with
  | none => rw [e] at c1; cases c1
  | some x =>
    rw [e] at c1
    refine ⟨x, ?_, ?_⟩
    · rw [List.getElem?_take] at e
      split at e
      · exact e
      · cases e
    · cases c1
      exact c2.symm
theorem scZ_p {d : Int} : ∀ (ps : List (Int × Int × Int)) (j : Nat) (e eb : kE) (p : Int × Int), p ∈ scZ (ps.reverse.map (fun p => (p.1, p.2.2)) ++ e) (kPb d j ps eb) → (∃ (k : Nat) (y : Int × Int × Int), ps[k]? = some y ∧ p = (1100 + 6 * d + (j + k : Nat), y.2.2)) ∨ p ∈ scZ e eb
  | [], j, e, eb, p, h => Or.inr (by simpa [kPb] using h)
  | q :: ps, j, e, eb, p, h => by
    have e1 : (q :: ps).reverse.map (fun p => (p.1, p.2.2)) ++ e = ps.reverse.map (fun p => (p.1, p.2.2)) ++ ((q.1, q.2.2) :: e) := by simp
    rw [e1] at h
    simp only [kPb] at h
    rcases scZ_p ps (j + 1) _ _ p h with ⟨k, y, h1, h2⟩ | h
    · refine Or.inl ⟨k + 1, y, by simpa using h1, ?_⟩
      rw [h2]
      simp only [Prod.mk.injEq, and_true]
      omega
    · simp only [scZ, List.zipWith_cons_cons] at h
      rcases List.mem_cons.mp h with h | h
      · exact Or.inl ⟨0, q, rfl, by rw [h]; simp only [Prod.mk.injEq, and_true]; omega⟩
      · exact Or.inr h
section NDF
variable {A : aT} {D : List aDf} {T B : Int → Int} {r : Int}
theorem bTy_p {d k : Nat} {x : aDf} {y : Int × Int × Int} (h : D[d]? = some x) (hk : x.2.2.1[k]? = some y) (h6 : k < 6) : bTy A D T (1100 + 6 * (d : Int) + k) = y.2.2 := by
  unfold bTy
  rw [if_neg (by omega), if_neg (by omega)]
  have e1 : ((1100 + 6 * (d : Int) + k - 1100) / 6).toNat = d := by omega
  have e2 : ((1100 + 6 * (d : Int) + k - 1100) % 6).toNat = k := by omega
  rw [e1, e2, List.getD_eq_getElem?_getD, List.getD_eq_getElem?_getD, h, Option.getD_some, List.getElem?_map, hk]
  rfl
theorem bTy_l {n a c : Int} (h : A.2.2.2.2.1 n = [a, c]) (hn : n < 210) : bTy A D T n = T a := by
  unfold bTy
  rw [if_pos hn, h]
  rfl
theorem bTy_g {n bd x : Int} {tl : List Int} {j : Nat} (h : A.2.2.2.2.1 n = bd :: tl) (hx : tl[j]? = some x) (hn : 0 ≤ n ∧ n < 200) (hj : j < 4) : bTy A D T (210 + 4 * n + j) = T x - 1 := by
  unfold bTy
  rw [if_neg (by omega), if_pos (by omega)]
  have e1 : (210 + 4 * n + (j : Int) - 210) / 4 = n := by omega
  have e2 : ((210 + 4 * n + (j : Int) - 210) % 4).toNat = j := by omega
  rw [e1, e2, h, List.getD_eq_getElem?_getD, show 1 + j = j + 1 by omega, List.getElem?_cons_succ, hx]
  rfl
/-- the EXPR of a DEF, its PARAMS being bound -/
theorem fO_d {σ : sg_S} {d : Nat} {x : aDf} (hd : tyN A (kDl (D.take d) []) T B 201 (scZ (kPe x) (kPb d 0 x.2.2.1 [])) x.2.2.2) (hx : D[d]? = some x) (h12 : d < 12) (h6 : x.2.2.1.length ≤ 6) (hb : ∀ (k : Nat) (y : Int × Int × Int), x.2.2.1[k]? = some y → vU σ y.2.2.toNat (sg_g σ 134 (1100 + 6 * d + k))) : fO A D T B σ x.2.2.2 := by
  refine ⟨d, 201, _, hd, fun p hp => ?_⟩
  have hp' : p ∈ scZ (x.2.2.1.reverse.map (fun p => (p.1, p.2.2)) ++ []) (kPb d 0 x.2.2.1 []) := by rw [List.append_nil]; exact hp
  rcases scZ_p x.2.2.1 0 [] [] p hp' with ⟨k, y, h1, h2⟩ | h
  · have hk : k < x.2.2.1.length := by
      rcases Nat.lt_or_ge k x.2.2.1.length with q | q
      · exact q
      · rw [List.getElem?_eq_none q] at h1; cases h1
    rw [h2]
    simp only [Nat.zero_add]
    exact ⟨⟨by omega, by omega⟩, (bTy_p hx h1 (by omega)).symm, hb k y h1⟩
  · cases h
end NDF
