/-! The types of a PROGRAM are the same, whatever the rows held before. -/
def kO2 (A : aT) (go : kE → Int → (Int → Int) → Option (Int → Int)) (ds : kD) : Prop := ∀ e n T T' T1 T1' L, kAg ds T T' → fT A [n] L → go e n T = some T1 → go e n T' = some T1' → ∀ x, (T x = T' x ∨ x ∈ L) → T1 x = T1' x
theorem kRow_e2 {A : aT} {go : kE → Int → (Int → Int) → Option (Int → Int)} {ds : kD} (hg : kO2 A go ds) (e : kE) : ∀ (l L : List Int) (T T' T1 T1' : Int → Int), kAg ds T T' → fT A l L → kRow go e l T = some T1 → kRow go e l T' = some T1' → ∀ x, (T x = T' x ∨ x ∈ L) → T1 x = T1' x
  | [], L, T, T', T1, T1', h, hf, h1, h2, x, hx => by
    have e0 := fT_nil hf
    subst e0
    simp only [kRow] at h1 h2
    cases h1
    cases h2
    rcases hx with q | q
    · exact q
    · cases q
  | y :: r, L, T, T', T1, T1', h, hf, h1, h2, x, hx => by
    obtain ⟨La, Lb, e3, fa, fb⟩ := fT_spl [y] r L hf
    subst e3
    unfold kRow at h1 h2
    split at h1
    · cases h1
    · rename_i T2 g1
      split at h2
      · cases h2
      · rename_i T2' g2
        have a := hg e y T T' T2 T2' La h fa g1 g2
        refine kRow_e2 hg e r Lb T2 T2' T1 T1' (fun d hd => a _ (Or.inl (h d hd))) fb h1 h2 x ?_
        rcases hx with q | q
        · exact Or.inl (a x (Or.inl q))
        · rcases List.mem_append.mp q with q | q
          · exact Or.inl (a x (Or.inr q))
          · exact Or.inr q
theorem kParts_e2 {A : aT} {go : kE → Int → (Int → Int) → Option (Int → Int)} {ds : kD} (hg : kO2 A go ds) (e : kE) (n : Int) (T T' T1 T1' : Int → Int) (L : List Int) (h : kAg ds T T') (hf : fT A (A.2.2.2.2.1 n) L) (h1 : kParts A go e n T = some T1) (h2 : kParts A go e n T' = some T1') : ∀ x, (T x = T' x ∨ x ∈ L) → T1 x = T1' x := by
  unfold kParts at h1 h2
  simp only at h1 h2
  by_cases c1 : A.2.1 n = 2
  · rw [if_pos c1] at h1 h2
    cases hk : A.2.2.2.2.1 n with
    | nil =>
      rw [hk] at h1 h2 hf
      have e0 := fT_nil hf
      subst e0
      cases h1
      cases h2
      intro x hx
      rcases hx with q | q
      · exact q
      · cases q
    | cons a r =>
      rw [hk] at h1 h2 hf
      simp only at h1 h2
      obtain ⟨La, Lb, e3, fa, fb⟩ := fT_spl [a] r L hf
      subst e3
      split at h1
      · cases h1
      · rename_i T2 g1
        split at h2
        · cases h2
        · rename_i T2' g2
          have q := hg e a T T' T2 T2' La h fa g1 g2
          rw [q a (Or.inr (fT_sub fa a (by simp)))] at h1
          intro x hx
          refine kRow_e2 hg _ r Lb T2 T2' T1 T1' (fun d hd => q _ (Or.inl (h d hd))) fb h1 h2 x ?_
          rcases hx with w | w
          · exact Or.inl (q x (Or.inl w))
          · rcases List.mem_append.mp w with w | w
            · exact Or.inl (q x (Or.inr w))
            · exact Or.inr w
  · rw [if_neg c1] at h1 h2
    by_cases c2 : A.2.1 n = 15
    · rw [if_pos c2] at h1 h2
      cases hk : A.2.2.2.2.1 n with
      | nil =>
        rw [hk] at h1 h2 hf
        have e0 := fT_nil hf
        subst e0
        cases h1
        cases h2
        intro x hx
        rcases hx with q | q
        · exact q
        · cases q
      | cons a r =>
        rw [hk] at h1 h2 hf
        simp only at h1 h2
        obtain ⟨Lb, Lt, e3, fb, ft⟩ := fT_spl [a] r L hf
        rw [← List.take_append_drop (A.2.2.2.2.2 n).length r] at ft
        obtain ⟨La, Ld, e4, fa, fd⟩ := fT_spl _ _ Lt ft
        subst e4
        subst e3
        split at h1
        · cases h1
        · rename_i T2 g1
          split at h2
          · cases h2
          · rename_i T2' g2
            have q := kRow_e2 hg e _ La T T' T2 T2' h fa g1 g2
            have q1 : ∀ x ∈ r.take (A.2.2.2.2.2 n).length, T2 x = T2' x := fun x hx => q x (Or.inr (fT_sub fa x hx))
            rw [kGens_ag q1, kBind_ag _ _ e q1] at h1
            split at h1
            · rename_i gg
              rw [if_pos gg] at h2
              intro x hx
              refine kRow_e2 hg _ _ (Ld ++ Lb) T2 T2' T1 T1' (fun d hd => q _ (Or.inl (h d hd))) (fT_app fd fb) h1 h2 x ?_
              rcases hx with w | w
              · exact Or.inl (q x (Or.inl w))
              · rcases List.mem_append.mp w with w | w
                · exact Or.inr (List.mem_append_right _ w)
                · rcases List.mem_append.mp w with w | w
                  · exact Or.inl (q x (Or.inr w))
                  · exact Or.inr (List.mem_append_left _ w)
            · cases h1
    · rw [if_neg c2] at h1 h2
      exact kRow_e2 hg e _ L T T' T1 T1' h hf h1 h2
theorem kGo_e2 (A : aT) (ds : kD) : ∀ f, kO2 A (kGo A ds f) ds
  | 0 => fun e n T T' T1 T1' L h hf h1 => by cases h1
  | f + 1 => fun e n T T' T1 T1' L h hf h1 h2 x hx => by
    obtain ⟨L1, L2, e1, w1, w2, w3⟩ := fT_inv hf
    have e2 := fT_nil w3
    subst e2
    rw [List.append_nil] at e1
    subst e1
    unfold kGo at h1 h2
    split at h1
    · cases h1
    · rename_i P g1
      split at h2
      · cases h2
      · rename_i P' g2
        have q := kParts_e2 (kGo_e2 A ds f) e n T T' P P' L1 h w2 g1 g2
        have qk : (A.2.2.2.2.1 n).map P = (A.2.2.2.2.1 n).map P' := List.map_congr_left (fun y hy => q y (Or.inr (fT_sub w2 y hy)))
        have qt : kAg ds P P' := fun d hd => q _ (Or.inl (h d hd))
        rw [kTy_ag qt, qk] at h1
        cases ht : kTy A ds P' e n ((A.2.2.2.2.1 n).map P') with
        | none => rw [ht] at h1; cases h1
        | some ty =>
          rw [ht] at h1 h2
          cases h1
          cases h2
          by_cases ex : x = n
          · simp only [aU, ex, if_true]
          · simp only [aU, ex, if_false]
            refine q x ?_
            rcases hx with w | w
            · exact Or.inl w
            · rcases List.mem_cons.mp w with w | w
              · exact absurd w ex
              · exact Or.inr w
theorem kDf_e2 {A : aT} {ds d1 d1' : kD} {T T' T1 T1' : Int → Int} {y : aDf} {L : List Int} (h : kAg ds T T') (hf : fT A [y.2.2.2] L) (h1 : kDf A ds y T = some (T1, d1)) (h2 : kDf A ds y T' = some (T1', d1')) : d1 = d1' ∧ kAg d1 T1 T1' ∧ ∀ x, (T x = T' x ∨ x ∈ L) → T1 x = T1' x := by
  unfold kDf at h1 h2
  split at h1
  · rename_i gg
    rw [if_pos gg] at h2
    split at h1
    · cases h1
    · rename_i P g1
      split at h2
      · cases h2
      · rename_i P' g2
        have q := kGo_e2 A ds 201 _ _ T T' P P' L h hf g1 g2
        cases h1
        cases h2
        refine ⟨rfl, fun d hd => ?_, q⟩
        rcases List.mem_cons.mp hd with w | w
        · subst w
          exact q _ (Or.inr (fT_sub hf _ (by simp)))
        · exact q _ (Or.inl (h d w))
  · cases h1
theorem kDs_e2 {A : aT} : ∀ (D : List aDf) (ds d1 d1' : kD) (T T' T1 T1' : Int → Int) (L : List Int), kAg ds T T' → fT A (aRt D) L → kDs A D ds T = some (T1, d1) → kDs A D ds T' = some (T1', d1') → d1 = d1' ∧ kAg d1 T1 T1' ∧ ∀ x, (T x = T' x ∨ x ∈ L) → T1 x = T1' x
  | [], ds, d1, d1', T, T', T1, T1', L, h, hf, h1, h2 => by
    have e0 := fT_nil hf
    subst e0
    unfold kDs at h1 h2
    cases h1
    cases h2
    refine ⟨rfl, h, fun x hx => ?_⟩
    rcases hx with q | q
    · exact q
    · cases q
  | y :: r, ds, d1, d1', T, T', T1, T1', L, h, hf, h1, h2 => by
    obtain ⟨La, Lb, e3, fa, fb⟩ := fT_spl [y.2.2.2] (aRt r) L hf
    subst e3
    unfold kDs at h1 h2
    split at h1
    · cases h1
    · rename_i P p g1
      split at h2
      · cases h2
      · rename_i P' p' g2
        obtain ⟨e1, a1, a2⟩ := kDf_e2 h fa g1 g2
        subst e1
        obtain ⟨b0, b1, b2⟩ := kDs_e2 r p d1 d1' P P' T1 T1' Lb a1 fb h1 h2
        refine ⟨b0, b1, fun x hx => b2 x ?_⟩
        rcases hx with w | w
        · exact Or.inl (a2 x (Or.inl w))
        · rcases List.mem_append.mp w with w | w
          · exact Or.inl (a2 x (Or.inr w))
          · exact Or.inr w
theorem kPg_e2 {A : aT} {D : List aDf} {q : Int} {T T' Tf Tf' : Int → Int} {L : List Int} (hf : fT A (aRt D ++ [q]) L) (h1 : kPg A D q T = some Tf) (h2 : kPg A D q T' = some Tf') : ∀ x ∈ L, Tf x = Tf' x := by
  obtain ⟨La, Lb, e3, fa, fb⟩ := fT_spl (aRt D) [q] L hf
  subst e3
  unfold kPg at h1 h2
  split at h1
  · cases h1
  · rename_i P p g1
    split at h2
    · cases h2
    · rename_i P' p' g2
      obtain ⟨e1, a1, a2⟩ := kDs_e2 D [] p p' T T' P P' La (fun d hd => by simp at hd) fa g1 g2
      subst e1
      intro x hx
      refine kGo_e2 A p 201 [] q P P' Tf Tf' Lb a1 fb h1 h2 x ?_
      rcases List.mem_append.mp hx with w | w
      · exact Or.inl (a2 x (Or.inr w))
      · exact Or.inr w
