/-! THE READER of the reference: TYPES, PARAMS, DEFS. -/
abbrev aDf : Type := Int × Int × List (Int × Int × Int) × Int
section AD
variable (t : aK)
def aTyL : Nat → Int → Nat → Nat × Int
  | 0, n, i => (i, n)
  | m + 1, n, i => if aSg t i 91 = true then aTyL m (n + 1) (i + 1) else (i, n)
def aTyR : Nat → Nat → Option Nat
  | 0, i => some i
  | m + 1, i => if aSg t i 93 = true then aTyR m (i + 1) else none
def aTy (N i : Nat) : Option (Nat × Int) := if aWo t (aTyL t (N - i) 0 i).1 14980 = true then (match aTyR t (aTyL t (N - i) 0 i).2.toNat ((aTyL t (N - i) 0 i).1 + 1) with
  | none => none
  | some i2 => some (i2, (aTyL t (N - i) 0 i).2)) else none
def aPaL (N : Nat) : Nat → List (Int × Int × Int) → Nat → Option (Nat × List (Int × Int × Int))
  | 0, _, _ => none
  | m + 1, ps, i => if aNm t i = true then (if aSg t (i + 1) 58 = true then (match aTy t N (i + 2) with
    | none => none
    | some (i1, ty) => if aSg t i1 44 = true then aPaL N m (ps ++ [(t.2.1 i, t.2.2 i, ty)]) (i1 + 1) else some (i1, ps ++ [(t.2.1 i, t.2.2 i, ty)])) else none) else none
def aPas (N i : Nat) : Option (Nat × List (Int × Int × Int)) := if aSg t i 41 = true then some (i, []) else aPaL t N 6 [] i
/-- what stands behind the def of a DEF -/
def aDf1 (N i : Nat) (A : aT) : Option (Nat × aT × aDf) := if aNm t (i + 1) = true then (if aSg t (i + 2) 40 = true then (match aPas t N (i + 3) with
  | none => none
  | some (i1, ps) => if aSg t i1 41 = true then (if aSg t (i1 + 1) 61 = true then (match (aLv t 12).1 (i1 + 2) A with
    | none => none
    | some (i2, A2, q) => if aSg t i2 59 = true then some (i2 + 1, A2, (t.2.1 (i + 1), t.2.2 (i + 1), ps, q)) else none) else none) else none) else none) else none
def aDfs (N : Nat) : Nat → List aDf → Nat → aT → Option (Nat × aT × List aDf)
  | 0, D, i, A => if aWo t i 6606 = true then none else some (i, A, D)
  | m + 1, D, i, A => if aWo t i 6606 = true then (match aDf1 t N i A with
    | none => none
    | some (i1, A1, x) => aDfs N m (D ++ [x]) i1 A1) else some (i, A, D)
def aPg (N : Nat) (A : aT) : Option (aT × List aDf × Int) := match aDfs t N 12 [] 0 A with
  | none => none
  | some (i, A1, D) => match (aLv t 12).1 i A1 with
    | none => none
    | some (i2, A2, q) => if t.1 i2 = 0 then some (A2, D, q) else none
end AD
/-- tokens, fault, token, tree -/
def Rq (t : aK) (N : Nat) (σ : sg_S) (F : Int) (i : Nat) (A : aT) : Prop := tkR t N (sg_g σ 90) (sg_g σ 91) (sg_gl σ 92) ∧ sg_g σ 88 29 = F ∧ sg_g σ 88 7 = i ∧ i ≤ N ∧ trR A (sg_g σ 88 8) (sg_g σ 93) (sg_g σ 94) (sg_gl σ 95) (sg_g σ 96) (sg_g σ 97) (sg_g σ 98) (sg_gl σ 99) (sg_g σ 100) ∧ aB A A.1 ∧ fpl σ
section RQS
variable {t : aK} {N : Nat} {σ : sg_S} {F : Int} {i : Nat} {A : aT}
theorem Rq_t (h : Rq t N σ F i A) : sg_g σ 90 (sg_g σ 88 7) = t.1 i ∧ sg_g σ 91 (sg_g σ 88 7) = t.2.2 i ∧ sg_gl σ 92 (sg_g σ 88 7) = t.2.1 i ∧ 0 ≤ sg_g σ 88 7 ∧ sg_g σ 88 7 < 1210 ∧ i ≤ N ∧ N < 1210 := by
  obtain ⟨h1, h2, h3, h4, h5, h6, h10⟩ := h
  rw [h3]
  have h9 := h1.1
  obtain ⟨e1, e2, e3⟩ := h1.2.1 i h4
  exact ⟨e1, e2, e3, by omega, by omega, h4, h9⟩
theorem Rq_p (h : Rq t N σ F i A) : 0 ≤ sg_g σ 91 (sg_g σ 88 7) ∧ sg_g σ 91 (sg_g σ 88 7) ≤ 1200 := by
  rw [(Rq_t h).2.1]
  exact h.1.2.2.2.2 i h.2.2.2.1
theorem Rq_i (h : Rq t N σ F i A) (hs : 1 ≤ t.1 i ∧ t.1 i ≤ 3) : i < N := by
  obtain ⟨h1, h2, h3, h4, h5, h6, h10⟩ := h
  have := h1.2.2.2.1
  by_cases e : i = N
  · subst e; omega
  · omega
theorem pq_sg (h : Rq t N σ F i A) (ch : Int) : p_isSignNow σ ch := by
  have h1 := Rq_t h
  unfold p_isSignNow
  exact ⟨⟨h1.2.2.2.1, h1.2.2.2.2.1⟩, fun _ => trivial, fun _ => ⟨fun _ => trivial, fun _ => trivial⟩⟩
theorem vq_sg (h : Rq t N σ F i A) (ch : Int) : v_isSignNow σ ch = if aSg t i ch = true then 1 else 0 := by
  have h1 := Rq_t h
  unfold v_isSignNow aSg
  rw [h1.1, h1.2.2.1]
  by_cases a : t.1 i = 3 <;> by_cases b : t.2.1 i = ch <;> simp [a, b]
theorem pq_nm (h : Rq t N σ F i A) : p_isName σ := by
  have h1 := Rq_t h
  unfold p_isName
  exact ⟨⟨h1.2.2.2.1, h1.2.2.2.2.1⟩, fun _ => trivial, fun _ => ⟨fun _ => trivial, fun _ => trivial⟩⟩
theorem vq_nm (h : Rq t N σ F i A) : v_isName σ = if aNm t i = true then 1 else 0 := by
  have h1 := Rq_t h
  unfold v_isName aNm
  rw [h1.1, h1.2.2.1]
  by_cases a : t.1 i = 2 <;> by_cases b : v_isReserved (t.2.1 i) = 0 <;> simp [a, b]
theorem pq_wo (h : Rq t N σ F i A) {L : Int} (hL : p_told L) : p_isWord σ L := by
  have h1 := Rq_t h
  unfold p_isWord
  exact ⟨⟨h1.2.2.2.1, h1.2.2.2.2.1⟩, fun _ => trivial, fun _ => ⟨hL, fun _ => trivial, fun _ => trivial⟩⟩
theorem vq_wo (h : Rq t N σ F i A) (L w : Int) (hw : v_told L = w) : v_isWord σ L = if aWo t i w = true then 1 else 0 := by
  have h1 := Rq_t h
  unfold v_isWord aWo
  rw [h1.1, h1.2.2.1, hw]
  by_cases a : t.1 i = 2 <;> by_cases b : t.2.1 i = w <;> simp [a, b]
theorem sq_wrong {Q : sg_S → Prop} {p : Int} (h : Rq t N σ F i A) (hp : 0 ≤ p ∧ p ≤ 1200) (k : ∀ σ' F', ¬ F' = 0 → Rq t N σ' F' i A → Q σ') : V_wrong σ 1 p Q := by
  unfold V_wrong
  refine ⟨fun e => k σ F (by rw [← h.2.1]; exact e) h, fun _ => ?_⟩
  obtain ⟨h1, h2, h3, h4, h5, h6, h10⟩ := h
  rintro σ2 rfl σ5 rfl
  refine k _ 1 (by decide) ?_
  refine ⟨?_, ?_, ?_, ?_, ?_, h6, ?_⟩
  all_goals try simp only [fpl, rg_w, rg_w', Nat.reduceEqDiff, if_false, if_true, reduceIte, Int.reduceEq]
  · exact h1
  · exact sg_id (by decide)
  · exact h3
  · exact h4
  · exact h5
  · rw [sg_id (z := p) ⟨by omega, by omega⟩]; exact ⟨by omega, by omega⟩
theorem sq_want {Q : sg_S → Prop} {b : Int} (h : Rq t N σ F i A) (hi : F = 0 → ¬ b = 0 → i < N) (k : ∀ σ' F', (F' = 0 ↔ F = 0 ∧ ¬ b = 0) → Rq t N σ' F' (if F' = 0 then i + 1 else i) A → Q σ') : V_want σ b Q := by
  have ht := Rq_t h
  unfold V_want
  refine ⟨fun σ4 => ∃ F', (F' = 0 ↔ F = 0 ∧ ¬ b = 0) ∧ Rq t N σ4 F' i A, ⟨fun hb => ⟨F, by omega, h⟩, fun hb => ⟨⟨ht.2.2.2.1, ht.2.2.2.2.1⟩, sq_wrong h (Rq_p h) (fun σ' F' hF hR _ => ⟨F', by omega, hR⟩)⟩⟩, ?_⟩
  rintro σ4 - ⟨F', hF', hR⟩
  have e7 : sg_g σ 88 7 = i := h.2.2.1
  obtain ⟨h1, h2, h3, h4, h5, h6, h10⟩ := hR
  rw [h2]
  refine ⟨fun e => k σ4 F' hF' ?_, fun e => ⟨⟨by omega, by omega⟩, ?_⟩⟩
  · rw [if_neg e]
    exact ⟨h1, h2, h3, h4, h5, h6, h10⟩
  · rintro σ9 rfl
    refine k _ F' hF' ?_
    rw [if_pos e]
    have hi2 := hi (hF'.mp e).1 (hF'.mp e).2
    refine ⟨?_, ?_, ?_, ?_, ?_, h6, ?_⟩
    all_goals try simp only [fpl, rg_w, rg_w', Nat.reduceEqDiff, if_false, if_true, reduceIte, Int.reduceEq]
    · exact h1
    · exact h2
    · rw [sg_id (z := sg_g σ 88 7 + 1) ⟨by omega, by omega⟩, e7]
      omega
    · exact hi2
    · exact h5
    · exact h10
theorem Rq_F {L : List Nat} {σ' : sg_S} (h : Rq t N σ F i A) (hF : sg_F L σ σ') (h1 : sg_ca L 90 = true ∧ sg_ca L 91 = true ∧ sg_ca L 92 = true ∧ sg_ca L 93 = true ∧ sg_ca L 94 = true ∧ sg_ca L 95 = true ∧ sg_ca L 96 = true ∧ sg_ca L 97 = true ∧ sg_ca L 98 = true ∧ sg_ca L 99 = true ∧ sg_ca L 100 = true) (h2 : sg_cv L 88 29 = false ∧ sg_cv L 88 7 = false ∧ sg_cv L 88 8 = false ∧ sg_cv L 88 30 = false) : Rq t N σ' F i A := by
  obtain ⟨c1, c2, c3, c4, c5, c6, c7, c8, c9, c10, c11⟩ := h1
  have r : ∀ {a : Nat}, sg_ca L a = true → a < 1000 → sg_g σ' a = sg_g σ a := fun ha hc => funext (fun k => sg_F_ga hF ha hc)
  have rl : ∀ {a : Nat}, sg_ca L a = true → a < 1000 → sg_gl σ' a = sg_gl σ a := fun ha hc => funext (fun k => sg_F_gal hF ha hc)
  unfold Rq fpl
  rw [r c1 (by decide), r c2 (by decide), rl c3 (by decide), r c4 (by decide), r c5 (by decide), rl c6 (by decide), r c7 (by decide), r c8 (by decide), r c9 (by decide), rl c10 (by decide), r c11 (by decide), sg_F_g hF h2.1, sg_F_g hF h2.2.1, sg_F_g hF h2.2.2.1, sg_F_g hF h2.2.2.2]
  exact h
theorem s_type {Q : Int → sg_S → Prop} (h : Rq t N σ 0 i A) (k1 : ∀ i' ty, aTy t N i = some (i', ty) → 0 ≤ ty ∧ ty ≤ 1300 → ∀ σ', Rq t N σ' 0 i' A → Q ty σ') (k2 : aTy t N i = none → ∀ q σ' F' i', ¬ F' = 0 → Rq t N σ' F' i' A → Q q σ') : V_readType σ Q := by
  have hN := (Rq_t h).2.2.2.2.2
  unfold V_readType
  refine ⟨fun m n s => 0 ≤ n ∧ n ≤ 1300 ∧ ∃ j, Rq t N s 0 j A ∧ i ≤ j ∧ n + (N - j) ≤ N ∧ N - j = m ∧ aTyL t (N - i) 0 i = aTyL t m n j, fun n s => 0 ≤ n ∧ n ≤ 1300 ∧ ∃ j, Rq t N s 0 j A ∧ aTyL t (N - i) 0 i = (j, n), ⟨N - i, by omega, by omega, i, h, by omega, by omega, rfl, rfl⟩, ?_, ?_⟩
  · rintro m n s hn - ⟨n0, n1, j, hj, hij, hle, rfl, he⟩
    rw [vq_sg hj]
    refine ⟨pq_sg hj 91, fun c => ⟨n0, n1, j, hj, ?_⟩, fun c => ⟨fun c2 => absurd hj.2.1 c2, fun _ => ?_⟩⟩
    · rw [he]
      cases N - j with
      | zero => rfl
      | succ g => simp [aTyL, (if01n _).mp c]
    · have hlt := Rq_i hj (by have := sg_t ((if01 _).mp c); omega)
      refine sq_want hj (fun _ _ => hlt) (fun s' F' e' h' _ => ⟨⟨by omega, by omega⟩, N - (j + 1), by omega, by omega, by omega, j + 1, ?_, by omega, by omega, rfl, ?_⟩)
      · have e : F' = 0 := by omega
        subst e
        exact h'
      · rw [he, show N - j = (N - (j + 1)) + 1 by omega]
        simp [aTyL, (if01 _).mp c]
  · rintro n s hn - ⟨n0, n1, j, hj, he⟩
    rw [vq_wo hj 6909556 14980 (by decide)]
    refine ⟨pq_wo hj (by unfold p_told; decide), sq_want hj (fun _ c => Rq_i hj (by have := wo_t ((if01 _).mp c); omega)) (fun s2 F2 e2 h2 _ => ?_)⟩
    rw [if01] at e2
    refine ⟨fun m v s => 0 ≤ v ∧ v ≤ n ∧ (n - v).toNat = m ∧ ∃ F3 j3, Rq t N s F3 j3 A ∧ (¬ F3 = 0 → aTy t N i = none) ∧ (F3 = 0 → aTy t N i = (match aTyR t (n - v).toNat j3 with
      | none => none
      | some i2 => some (i2, n))), fun s => ∃ F3 j3, Rq t N s F3 j3 A ∧ (¬ F3 = 0 → aTy t N i = none) ∧ (F3 = 0 → aTy t N i = some (j3, n)), ⟨n.toNat, by omega, by omega, by omega, F2, _, h2, fun e => ?_, fun e => ?_⟩, ?_, ?_⟩
    · have c : aWo t j 14980 = false := bF (fun c => e (e2.mpr ⟨rfl, c⟩))
      simp [aTy, he, c]
    · rw [if_pos e]
      simp [aTy, he, (e2.mp e).2]
    · rintro m v s4 hv - ⟨v0, v1, v2, F3, j3, h3, b1, b2⟩
      refine ⟨fun c => ⟨F3, j3, h3, b1, fun e => ?_⟩, fun c => ⟨fun c2 => ⟨F3, j3, h3, b1, fun e => absurd (h3.2.1.trans e) c2⟩, fun c2 => ?_⟩⟩
      · rw [b2 e, show (n - v).toNat = 0 by omega]
        rfl
      · have e : F3 = 0 := h3.2.1.symm.trans c2
        have b3 := b2 e
        subst e
        rw [vq_sg h3]
        refine ⟨pq_sg h3 93, sq_want h3 (fun _ c => Rq_i h3 (by have := sg_t ((if01 _).mp c); omega)) (fun s5 F5 e5 h5 _ => ⟨⟨by omega, by omega⟩, (n - (v + 1)).toNat, by omega, by omega, by omega, rfl, F5, _, h5, fun e => ?_, fun e => ?_⟩)⟩
        · rw [if01] at e5
          have c : aSg t j3 93 = false := bF (fun c => e (e5.mpr ⟨rfl, c⟩))
          rw [b3, show (n - v).toNat = (n - (v + 1)).toNat + 1 by omega]
          simp [aTyR, c]
        · rw [if01] at e5
          rw [if_pos e, b3, show (n - v).toNat = (n - (v + 1)).toNat + 1 by omega]
          simp [aTyR, (e5.mp e).2]
    · rintro s4 - ⟨F3, j3, h3, b1, b2⟩
      by_cases e : F3 = 0
      · subst e
        exact k1 _ _ (b2 rfl) ⟨n0, n1⟩ s4 h3
      · exact k2 (b1 e) n s4 F3 j3 e h3
end RQS
