/-! goFlat: parts begun, values left. -/
section GA
variable {A : aT} {D : List aDf} {T B : Int → Int} {lev : Int → Nat} {r : Int}
theorem take_l {l X : Int} {ks : List Int} {i : Nat} {x : Int} (h : ks[i]? = some x) : (ks.take (i + 1)).map (fun x => (T x, l, X)) = (ks.take i).map (fun x => (T x, l, X)) ++ [(T x, l, X)] := by
  rw [List.take_add_one, h]; simp
theorem fK_g {σ : sg_S} {n st b l X s sv al : Int} {j : Nat} {L : List Int} {sc : List (Int × Int)} {tys : List (Int × Int × Int)} {W : Int → Prop} (h2 : ¬ A.2.1 n = 2) (h3 : ¬ A.2.1 n = 3) (h15 : ¬ A.2.1 n = 15) : fK A D T B lev σ n st b l X s sv al j L sc W tys = (sv = s ∧ ((∃ i : Nat, i ≤ (A.2.2.2.2.1 n).length ∧ st = i ∧ tys = ((A.2.2.2.2.1 n).take i).map (fun x => (T x, l, X)) ∧ scF σ s l X W sc) ∨ (A.2.1 n = 13 ∧ st = (A.2.2.2.2.1 n).length + 1 ∧ tys = [(T n, l, X)]))) := by
  unfold fK; rw [if_neg h2, if_neg h3, if_neg h15]
theorem fK_2 {σ : sg_S} {n st b l X s sv al : Int} {j : Nat} {L : List Int} {sc : List (Int × Int)} {tys : List (Int × Int × Int)} {W : Int → Prop} (h2 : A.2.1 n = 2) : fK A D T B lev σ n st b l X s sv al j L sc W tys = (sv = s ∧ ∃ a c, A.2.2.2.2.1 n = [a, c] ∧ ((st = 0 ∧ tys = [] ∧ scF σ s l X W sc) ∨ (st = 1 ∧ tys = [(T a, l, X)] ∧ scF σ s l X W sc) ∨ (st = 2 ∧ tys = [(T c, l, X)]))) := by
  unfold fK; rw [if_pos h2]
/-- a frame goes to its next part -/
theorem ev_next {σ σ3 : sg_S} {m j f j' f' : Nat} {x st' l' X X' : Int} {tys' : List (Int × Int × Int)} {L L' : List Int} {sc sc' : List (Int × Int)} {Q : sg_S → Prop} {fl : List Nat} (F : sg_F fl σ σ3) (hfl : (sg_ca fl 126 && sg_ca fl 128 && sg_ca fl 145 && sg_ca fl 146 && !sg_cv fl 88 62 && !sg_cv fl 88 73) = true) (ex : fEx σ σ3) (N3 : fNw σ3) (e0 : sg_g σ 88 73 = 0) (fm : sg_g σ 88 62 = m + 1) (r127 : ∀ i : Nat, i < m → sg_g σ3 127 i = sg_g σ 127 i) (r147 : ∀ i : Nat, i < m → sg_g σ3 147 i = sg_g σ 147 i) (e127 : sg_g σ3 127 m = st') (h0 : 0 ≤ sg_g σ 128 m) (h70 : sg_g σ3 88 70 = sg_g σ 128 m + tys'.length) (hv : ∀ y, 0 ≤ y → y < sg_g σ 128 m → sg_g σ3 133 y = sg_g σ 133 y) (hW : vW σ3 (sg_g σ 128 m) tys') (hst : stN A D T B lev j f L sc (sg_g σ 126 m)) (h145 : 0 ≤ sg_g σ 145 m ∧ sg_g σ 145 m ≤ 6000 ∧ 0 ≤ sg_g σ 88 85 + X) (h146 : 0 ≤ sg_g σ 146 m ∧ sg_g σ 146 m ≤ sg_g σ3 88 99) (hK : fStk A D T B lev r σ m (sg_g σ 128 m) (T (sg_g σ 126 m)) (sg_g σ 145 m) X (sg_g σ 146 m) (ow lev j L)) (hu : ∀ s b, s ≤ sg_g σ 146 m → ¬ ow lev j L b → und σ3 s b = und σ s b) (hx : stN A D T B lev j' f' L' sc' x) (hxs : ∀ b, ow lev j' L' b → ow lev j L b) (hsc : scF σ3 (sg_g σ3 88 99) l' X' (fun _ => False) sc') (hl' : 0 ≤ l' ∧ l' ≤ 6000 ∧ 0 ≤ sg_g σ3 88 85 + X') (hA : A.1 ≤ 200) (hF : fK A D T B lev σ3 (sg_g σ 126 m) st' (sg_g σ 128 m) (sg_g σ 145 m) X (sg_g σ 146 m) (sg_g σ3 88 99) (sg_g σ3 147 m) j L sc (ow lev j' L') (tys' ++ [(T x, l', X')])) (h84 : sg_g σ 88 84 ≤ sg_g σ3 88 84) (h85 : sg_g σ 88 85 ≤ sg_g σ3 88 85) (k : ∀ σ', fQ A D T B lev r σ σ' → Q σ') : V_flatBegin σ3 x l' Q := by
  simp only [Bool.and_eq_true, Bool.not_eq_true'] at hfl
  obtain ⟨⟨⟨⟨⟨l1, l2⟩, l3⟩, l4⟩, l5⟩, l6⟩ := hfl
  have g62 : sg_g σ3 88 62 = (m + 1 : Nat) := by rw [sg_F_g F l5, fm]; rfl
  refine ev_B (r := r) (M := m + 1) N3 (by rw [sg_F_g F l6]; exact e0) g62 hx hsc hl' hA ?_ (fun σ' h => k σ' ?_)
  · refine ⟨j, f, L, sc, tys', X, ?_⟩
    rw [sg_F_ga (a := 128) F l2, sg_F_ga (a := 126) F l1, sg_F_ga (a := 145) F l3, sg_F_ga (a := 146) F l4, e127]
    refine ⟨h0, h70, hW, hst, ⟨h145.1, h145.2.1, by omega⟩, h146, hxs, hF, fStk_up ex h85 m _ _ _ _ _ _ _ (fun i hi => ⟨sg_F_ga F l1, r127 i hi, sg_F_ga F l2, sg_F_ga F l3, sg_F_ga F l4, r147 i hi⟩) hv hu (fun b hb => hb) hK⟩
  · rcases h with h | ⟨h1, h2, h3, h4⟩
    · exact Or.inl h
    · refine Or.inr ⟨h1, h2, ?_⟩
      unfold fM
      rw [h4, sg_F_g F l5]
      omega
end GA
