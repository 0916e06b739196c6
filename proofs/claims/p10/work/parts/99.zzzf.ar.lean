/-! flatWorked of the reference, exactly: by the kind of the node. -/
theorem unw_if (c : Prop) [Decidable c] (a b : Int ⊕ (vaF × Int)) : unw (if c then a else b) = if c then unw a else unw b := by
  split <;> rfl
theorem gm (vs : List (List vaF)) (i j : Nat) : (vs.map (fun l => l.getD i (nmF 0))).getD j (nmF 0) = (vs.getD j []).getD i (nmF 0) := by
  cases h : vs[j]? with
  | none => simp [List.getD_eq_getElem?_getD, List.getElem?_map, h]
  | some l => simp [List.getD_eq_getElem?_getD, List.getElem?_map, h]
section FOK
variable {ty x : Int} {vs : List (List vaF)} {i : Nat}
theorem fO_op {k : Int} (hk : 4 ≤ k ∧ k < 11) : fO1 k ty x vs i = if (k = 9 ∨ k = 10) ∧ ((vs.getD 1 []).getD i (nmF 0)) [] = 0 then .inl 1 else .inr (nmF (v_operated k (((vs.getD 0 []).getD i (nmF 0)) []) (((vs.getD 1 []).getD i (nmF 0)) []))) := by
  rw [← gm vs i 0, ← gm vs i 1]
  unfold fO1 eO
  simp only
  rw [if_neg (by omega), if_pos (by omega), unw_if]
  rfl
theorem fO_11 : fO1 11 ty x vs i = .inr (nmF ((itF ((vs.getD 0 []).getD i (nmF 0))).length : Int)) := by
  rw [← gm vs i 0]
  rfl
theorem fO_12 : fO1 12 ty x vs i = if 0 ≤ ((vs.getD 1 []).getD i (nmF 0)) [] ∧ ((vs.getD 1 []).getD i (nmF 0)) [] < ((itF ((vs.getD 0 []).getD i (nmF 0))).length : Int) then .inr ((itF ((vs.getD 0 []).getD i (nmF 0))).getD (((vs.getD 1 []).getD i (nmF 0)) []).toNat (nmF 0)) else .inl 2 := by
  rw [← gm vs i 0, ← gm vs i 1]
  unfold fO1 eO
  simp only
  rw [if_neg (by decide), if_neg (by decide), if_neg (by decide), if_pos trivial, unw_if]
  rfl
theorem fO_14 : fO1 14 ty x vs i = .inr (mkF (vs.map (fun l => l.getD i (nmF 0)))) := by
  unfold fO1
  rw [eO_14]
  rfl
theorem fO_16 : fO1 16 ty x vs i = if 0 ≤ ((vs.getD 0 []).getD i (nmF 0)) [] ∧ ((vs.getD 0 []).getD i (nmF 0)) [] ≤ 200 then .inr (mkF ((List.range (((vs.getD 0 []).getD i (nmF 0)) []).toNat).map (fun i : Nat => nmF (i : Int)))) else .inl 5 := by
  rw [← gm vs i 0]
  unfold fO1 eO
  simp only
  rw [if_neg (by decide), if_neg (by decide), if_neg (by decide), if_neg (by decide), if_neg (by decide), if_pos trivial, unw_if]
  rfl
theorem fO_17 : fO1 17 ty x vs i = if 0 ≤ ((vs.getD 1 []).getD i (nmF 0)) [] ∧ ((vs.getD 1 []).getD i (nmF 0)) [] ≤ 200 then .inr (mkF (List.replicate (((vs.getD 1 []).getD i (nmF 0)) []).toNat ((vs.getD 0 []).getD i (nmF 0)))) else .inl 5 := by
  rw [← gm vs i 0, ← gm vs i 1]
  unfold fO1 eO
  simp only
  rw [if_neg (by decide), if_neg (by decide), if_neg (by decide), if_neg (by decide), if_neg (by decide), if_neg (by decide), if_pos trivial, unw_if]
  rfl
theorem nu_nil {v : vaF} (h : 0 ≤ v []) : nuF v = [] ↔ v [] = 0 := by
  have e : (nuF v).length = (v []).toNat := by unfold nuF; rw [List.length_map, itF_l]
  constructor
  · intro q
    rw [q] at e
    simp only [List.length_nil] at e
    omega
  · intro q
    exact List.eq_nil_of_length_eq_zero (by omega)
theorem fO_gn {k : Int} (hk : k = 18 ∨ k = 19 ∨ k = 20 ∨ k = 21) (h0 : 0 ≤ ((vs.getD 0 []).getD i (nmF 0)) []) : fO1 k ty x vs i = if k = 21 then .inr (mkF ((scnF 0 (nuF ((vs.getD 0 []).getD i (nmF 0)))).map nmF)) else if (k = 19 ∨ k = 20) ∧ ((vs.getD 0 []).getD i (nmF 0)) [] = 0 then .inl 4 else .inr (nmF (gnF k (nuF ((vs.getD 0 []).getD i (nmF 0))))) := by
  have hn := nu_nil h0
  rw [← gm vs i 0] at hn ⊢
  rcases hk with e | e | e | e
  · subst e
    rw [if_neg (by decide), if_neg (fun w => absurd w.1 (by decide))]
    rfl
  · subst e
    rw [if_neg (by decide)]
    have h : fO1 19 ty x vs i = unw (match nuF ((vs.map (fun l => l.getD i (nmF 0))).getD 0 (nmF 0)) with
      | [] => .inl 4
      | y :: r => .inr (nmF (foF 19 y r), ((itF ((vs.map (fun l => l.getD i (nmF 0))).getD 0 (nmF 0))).length : Int))) := rfl
    rw [h]
    unfold gnF
    rw [if_pos (Or.inl rfl)]
    cases e2 : nuF ((vs.map (fun l => l.getD i (nmF 0))).getD 0 (nmF 0)) with
    | nil => rw [if_pos ⟨Or.inl rfl, hn.mp e2⟩]; rfl
    | cons y r =>
      rw [if_neg (fun w => by have := hn.mpr w.2; rw [e2] at this; cases this)]
      rfl
  · subst e
    rw [if_neg (by decide)]
    have h : fO1 20 ty x vs i = unw (match nuF ((vs.map (fun l => l.getD i (nmF 0))).getD 0 (nmF 0)) with
      | [] => .inl 4
      | y :: r => .inr (nmF (foF 20 y r), ((itF ((vs.map (fun l => l.getD i (nmF 0))).getD 0 (nmF 0))).length : Int))) := rfl
    rw [h]
    unfold gnF
    rw [if_pos (Or.inr rfl)]
    cases e2 : nuF ((vs.map (fun l => l.getD i (nmF 0))).getD 0 (nmF 0)) with
    | nil => rw [if_pos ⟨Or.inr rfl, hn.mp e2⟩]; rfl
    | cons y r =>
      rw [if_neg (fun w => by have := hn.mpr w.2; rw [e2] at this; cases this)]
      rfl
  · subst e
    rw [if_pos rfl]
    rfl
theorem fO_22 : fO1 22 ty x vs i = .inr (mkF (itF ((vs.getD 0 []).getD i (nmF 0))).reverse) := by
  rw [← gm vs i 0]
  rfl
theorem fO_23 : fO1 23 ty x vs i = if (itF ((vs.getD 0 []).getD i (nmF 0))).length + (itF ((vs.getD 1 []).getD i (nmF 0))).length ≤ 200 then .inr (mkF (itF ((vs.getD 0 []).getD i (nmF 0)) ++ itF ((vs.getD 1 []).getD i (nmF 0)))) else .inl 5 := by
  rw [← gm vs i 0, ← gm vs i 1]
  have h : fO1 23 ty x vs i = unw (if (itF ((vs.map (fun l => l.getD i (nmF 0))).getD 0 (nmF 0))).length + (itF ((vs.map (fun l => l.getD i (nmF 0))).getD 1 (nmF 0))).length ≤ 200 then .inr (mkF (itF ((vs.map (fun l => l.getD i (nmF 0))).getD 0 (nmF 0)) ++ itF ((vs.map (fun l => l.getD i (nmF 0))).getD 1 (nmF 0))), cnL (ty - 1).toNat (itF ((vs.map (fun l => l.getD i (nmF 0))).getD 0 (nmF 0)) ++ itF ((vs.map (fun l => l.getD i (nmF 0))).getD 1 (nmF 0)))) else .inl 5) := rfl
  rw [h, unw_if]
  rfl
theorem fO_24 : fO1 24 ty x vs i = if ((flF (itF ((vs.getD 0 []).getD i (nmF 0)))).length : Int) ≤ 200 then .inr (mkF (flF (itF ((vs.getD 0 []).getD i (nmF 0))))) else .inl 5 := by
  rw [← gm vs i 0, ← sumF_fl]
  have h : fO1 24 ty x vs i = unw (if sumF ((itF ((vs.map (fun l => l.getD i (nmF 0))).getD 0 (nmF 0))).map (fun v => ((itF v).length : Int))) ≤ 200 then .inr (mkF (flF (itF ((vs.map (fun l => l.getD i (nmF 0))).getD 0 (nmF 0)))), cnL (ty - 1).toNat (flF (itF ((vs.map (fun l => l.getD i (nmF 0))).getD 0 (nmF 0))))) else .inl 5) := rfl
  rw [h, unw_if]
  rfl
theorem fO_25 : fO1 25 ty x vs i = if (itF ((vs.getD 0 []).getD i (nmF 0))).length = (itF ((vs.getD 1 []).getD i (nmF 0))).length then .inr (mkF (pkF (itF ((vs.getD 0 []).getD i (nmF 0))) (nuF ((vs.getD 1 []).getD i (nmF 0))))) else .inl 3 := by
  rw [← gm vs i 0, ← gm vs i 1]
  have h : fO1 25 ty x vs i = unw (if (itF ((vs.map (fun l => l.getD i (nmF 0))).getD 0 (nmF 0))).length = (itF ((vs.map (fun l => l.getD i (nmF 0))).getD 1 (nmF 0))).length then .inr (mkF (pkF (itF ((vs.map (fun l => l.getD i (nmF 0))).getD 0 (nmF 0))) (nuF ((vs.map (fun l => l.getD i (nmF 0))).getD 1 (nmF 0)))), cnL (ty - 1).toNat (pkF (itF ((vs.map (fun l => l.getD i (nmF 0))).getD 0 (nmF 0))) (nuF ((vs.map (fun l => l.getD i (nmF 0))).getD 1 (nmF 0))))) else .inl 3) := rfl
  rw [h, unw_if]
  rfl
theorem fO_26 : fO1 26 ty x vs i = if (itF ((vs.getD 0 []).getD i (nmF 0))).length = (itF ((vs.getD 1 []).getD i (nmF 0))).length then (match ivF (itF ((vs.getD 1 []).getD i (nmF 0))).length 0 (nuF ((vs.getD 1 []).getD i (nmF 0))) (fun _ => -1) with
    | none => .inl 6
    | some g => .inr (mkF ((List.range (itF ((vs.getD 0 []).getD i (nmF 0))).length).map (fun j : Nat => (itF ((vs.getD 0 []).getD i (nmF 0))).getD (g j).toNat (nmF 0))))) else .inl 3 := by
  rw [← gm vs i 0, ← gm vs i 1]
  obtain ⟨a, ea⟩ : ∃ a, a = (vs.map (fun l => l.getD i (nmF 0))).getD 0 (nmF 0) := ⟨_, rfl⟩
  obtain ⟨b, eb⟩ : ∃ b, b = (vs.map (fun l => l.getD i (nmF 0))).getD 1 (nmF 0) := ⟨_, rfl⟩
  have h : fO1 26 ty x vs i = unw (if (itF ((vs.map (fun l => l.getD i (nmF 0))).getD 0 (nmF 0))).length = (itF ((vs.map (fun l => l.getD i (nmF 0))).getD 1 (nmF 0))).length then (match ivF (itF ((vs.map (fun l => l.getD i (nmF 0))).getD 1 (nmF 0))).length 0 (nuF ((vs.map (fun l => l.getD i (nmF 0))).getD 1 (nmF 0))) (fun _ => -1) with
    | none => .inl 6
    | some g => .inr (mkF ((List.range (itF ((vs.map (fun l => l.getD i (nmF 0))).getD 0 (nmF 0))).length).map (fun j : Nat => (itF ((vs.map (fun l => l.getD i (nmF 0))).getD 0 (nmF 0))).getD (g j).toNat (nmF 0))), cnL (ty - 1).toNat ((List.range (itF ((vs.map (fun l => l.getD i (nmF 0))).getD 0 (nmF 0))).length).map (fun j : Nat => (itF ((vs.map (fun l => l.getD i (nmF 0))).getD 0 (nmF 0))).getD (g j).toNat (nmF 0))))) else .inl 3) := rfl
  rw [h, unw_if, ← ea, ← eb]
  by_cases c : (itF a).length = (itF b).length
  · rw [if_pos c, if_pos c]
    cases ivF (itF b).length 0 (nuF b) (fun _ => -1) with
    | none => rfl
    | some g => rfl
  · rw [if_neg c, if_neg c]; rfl
theorem fO_27 : fO1 27 ty x vs i = if (nuF ((vs.getD 1 []).getD i (nmF 0))).any (fun x => decide (x < 0)) = true then .inl 5 else if sumF (nuF ((vs.getD 1 []).getD i (nmF 0))) = ((itF ((vs.getD 0 []).getD i (nmF 0))).length : Int) then .inr (mkF (ptF (itF ((vs.getD 0 []).getD i (nmF 0))) (nuF ((vs.getD 1 []).getD i (nmF 0))))) else .inl 3 := by
  rw [← gm vs i 0, ← gm vs i 1]
  have h : fO1 27 ty x vs i = unw (if (nuF ((vs.map (fun l => l.getD i (nmF 0))).getD 1 (nmF 0))).any (fun x => decide (x < 0)) = true then .inl 5 else if sumF (nuF ((vs.map (fun l => l.getD i (nmF 0))).getD 1 (nmF 0))) = ((itF ((vs.map (fun l => l.getD i (nmF 0))).getD 0 (nmF 0))).length : Int) then .inr (mkF (ptF (itF ((vs.map (fun l => l.getD i (nmF 0))).getD 0 (nmF 0))) (nuF ((vs.map (fun l => l.getD i (nmF 0))).getD 1 (nmF 0)))), cnL (ty - 1).toNat (ptF (itF ((vs.map (fun l => l.getD i (nmF 0))).getD 0 (nmF 0))) (nuF ((vs.map (fun l => l.getD i (nmF 0))).getD 1 (nmF 0))))) else .inl 3) := rfl
  rw [h, unw_if, unw_if]
  rfl
end FOK
/-- values that stand for lists of L lanes stand from b on -/
def vX (σ : sg_S) (L : Nat) (b : Int) (ty : List Int) (vs : List (List vaF)) : Prop := vs.length = ty.length ∧ ∀ (i : Nat) (x : Int), ty[i]? = some x → ∃ R, fX σ 6000 (sg_g σ 133 (b + i)) x.toNat (vs.getD i []) R ∧ (vs.getD i []).length = L
section FSX
variable {A : aT} {T : Int → Int} {ds : kD} {σ : sg_S}
theorem opX_K {σ σ' : sg_S} {K K' : Nat} {rs : List (Int ⊕ vaF)} {s : fSt} {q : Int} (h : opX σ σ' K rs s q) (e : K' = K) : opX σ σ' K' rs s q := by rw [e]; exact h
abbrev wkL : List Nat := [133, 135, 139, 140, 141, 142, 143, 144, 150, 74088, 85088, 86088, 88088, 92088, 94088, 103088, 104088]
set_option maxHeartbeats 4000000 in
theorem m_fWkX {n b : Int} {L : Nat} {vs : List (List vaF)} {s : fSt} {Q : Int → sg_S → Prop} (hn : 0 ≤ n ∧ n < 210) (w1 : nW A n) (t1 : sg_g σ 93 n = A.2.1 n) (t2 : sg_g σ 96 n = (A.2.2.2.2.1 n).length) (t3 : (A.2.2.2.2.1 n).length ≤ 200) (tw : sg_gl σ 95 n = A.2.2.2.1 n) (g : kTy A ds T [] n ((A.2.2.2.2.1 n).map T) = some (T n)) (hin : ∀ x ∈ A.2.2.2.2.1 n, kIn (T x)) (hk : ¬ A.2.1 n = 1 ∧ ¬ A.2.1 n = 2 ∧ ¬ A.2.1 n = 3 ∧ ¬ A.2.1 n = 13 ∧ ¬ A.2.1 n = 15) (h5 : vX σ L b ((A.2.2.2.2.1 n).map T) vs) (hb : 0 ≤ b) (h70 : sg_g σ 88 70 = b + (A.2.2.2.2.1 n).length) (h70' : sg_g σ 88 70 ≤ 6000) (hC : fC σ) (hs : fcX σ s) (hq : fqX σ 0) (hL : L ≤ 6000) (k : ∀ q σ', sg_R q → opX σ σ' (T n).toNat (fOl (A.2.1 n) (T n) (sg_n (A.2.2.2.1 n)) vs L) s q → (∀ x, x < sg_g σ 88 70 → sg_g σ' 133 x = sg_g σ 133 x) → sg_F wkL σ σ' → Q q σ') : V_flatWorked σ n b (L : Int) (fun q σ' => sg_R q → sg_F wkL σ σ' → Q q σ') := by
  have done : ∀ (l : List Nat) (q : Int) (σ' : sg_S), sg_ca l 133 = true → sg_F l σ σ' → opX σ σ' (T n).toNat (fOl (A.2.1 n) (T n) (sg_n (A.2.2.2.1 n)) vs L) s q → sg_R q → sg_F wkL σ σ' → Q q σ' := fun l q σ' hl F h r f => k q σ' r h (fun x _ => sg_F_ga F hl) f
  have tin : ∀ (i : Nat) (x : Int), ((A.2.2.2.2.1 n).map T)[i]? = some x → kIn x := fun i x hx => by
    obtain ⟨y, hy, e⟩ := List.mem_map.mp (List.mem_of_getElem? hx)
    rw [← e]; exact hin y hy
  have l0 : ((A.2.2.2.2.1 n).map T).length = (A.2.2.2.2.1 n).length := by simp
  obtain ⟨ty, ety⟩ : ∃ ty, ty = (A.2.2.2.2.1 n).map T := ⟨_, rfl⟩
  rw [← ety] at g h5 tin l0
  obtain ⟨hvl, h5⟩ := h5
  have hgt : ∀ j, 0 ≤ ty.getD j 0 ∧ ty.getD j 0 ≤ 3 := fun j => by
    rw [List.getD_eq_getElem?_getD]
    cases e : ty[j]? with
    | none => simp
    | some y => exact tin j y e
  have g0 := hgt 0
  have g1 := hgt 1
  have a1 : 1 ≤ ty.length → ∃ R, fX σ 6000 (sg_g σ 133 b) (ty.getD 0 0).toNat (vs.getD 0 []) R ∧ (vs.getD 0 []).length = L := fun h => by
    obtain ⟨x, hx⟩ : ∃ x, ty[0]? = some x := ⟨_, List.getElem?_eq_getElem (by omega)⟩
    have u := h5 0 x hx
    rw [show b + ((0 : Nat) : Int) = b by omega] at u
    rw [List.getD_eq_getElem?_getD (l := ty), hx]
    exact u
  have a2 : 2 ≤ ty.length → ∃ R, fX σ 6000 (sg_g σ 133 (b + 1)) (ty.getD 1 0).toNat (vs.getD 1 []) R ∧ (vs.getD 1 []).length = L := fun h => by
    obtain ⟨x, hx⟩ : ∃ x, ty[1]? = some x := ⟨_, List.getElem?_eq_getElem (by omega)⟩
    have u := h5 1 x hx
    rw [List.getD_eq_getElem?_getD (l := ty), hx]
    exact u
  have act : 16 ≤ A.2.1 n → kAct (A.2.1 n) ty = some (T n) := fun h => by rw [← kTy_act h]; exact g
  obtain ⟨A0, hA0⟩ : ∃ A0, A0 = ty.getD 0 0 := ⟨_, rfl⟩
  obtain ⟨B0, hB0⟩ : ∃ B0, B0 = ty.getD 1 0 := ⟨_, rfl⟩
  rw [← hA0] at a1 g0
  rw [← hB0] at a2 g1
  simp only [kAct, ← hA0, ← hB0] at act
  unfold fOl at k done
  obtain ⟨ff, eff⟩ : ∃ ff, ff = fO1 (A.2.1 n) (T n) (sg_n (A.2.2.2.1 n)) vs := ⟨_, rfl⟩
  rw [← eff] at k done
  unfold V_flatWorked
  rw [t1]
  refine ⟨⟨by omega, by omega⟩, ⟨by omega, by omega⟩, ⟨by omega, by omega⟩, hn, fun z => ?_, fun z0 => ⟨fun z => ?_, fun z11 => ⟨fun z => ?_, fun z12 => ⟨fun z => ?_, fun z14 => ⟨fun z => ?_, fun z16 => ⟨fun z => ?_, fun z17 => ⟨fun z => ?_, fun z18 => ⟨fun z => ?_, fun z19 => ⟨fun z => ?_, fun z20 => ⟨fun z => ?_, fun z21 => ⟨fun z => ?_, fun z22 => ⟨fun z => ?_, fun z23 => ⟨fun z => ?_, fun z24 => ⟨fun z => ?_, fun z25 => ⟨fun z => ?_, fun z26 => ⟨fun z => ?_, fun z27 => ?_⟩⟩⟩⟩⟩⟩⟩⟩⟩⟩⟩⟩⟩⟩⟩⟩
  · rw [kTy_0 z, Option.some.injEq] at g
    refine m_f0X (f := ff) hC hs hL hn hq (fun i hi => ?_) (fun q σ' h F r f => done _ q σ' rfl F (opX_K h (by omega)) r f)
    rw [eff, z, tw]; rfl
  · rw [kTy_11 z, ← hA0] at g
    obtain ⟨e1, e2, e3⟩ := kIs_in g
    obtain ⟨R, u, ul⟩ := a1 (by have := w1.2.2.2.2.1 z; omega)
    simp only [Bool.and_eq_true, decide_eq_true_eq] at e3
    have u' := u
    rw [show A0.toNat = (A0.toNat - 1) + 1 by omega] at u'
    obtain ⟨r, r', Ra, er, er1, er2, er3, er4, -⟩ := fX_s u'
    refine m_f11X (f := ff) hC hs u ul hq (fun i hi => ?_) (fun q σ' h F r f => done _ q σ' rfl F (opX_K h (by omega)) r f)
    rw [eff, z, fO_11, it_len (er4 i (by omega)).2.1]
  · rw [kTy_12 z, ← hA0, ← hB0] at g
    obtain ⟨e1, e2, e3⟩ := kIs_in g
    simp only [Bool.and_eq_true, decide_eq_true_eq] at e3
    have l2 := w1.2.2.1 (Or.inr (Or.inr z))
    obtain ⟨R, u, ul⟩ := a1 (by omega)
    obtain ⟨R', v, vl⟩ := a2 (by omega)
    rw [show A0.toNat = (T n).toNat + 1 by omega] at u
    unfold V_flatWorked_12
    exact m_fIndexX (f := ff) hC hs u v ul vl hq (fun i hi => by rw [eff, z]; exact fO_12) (fun q σ' h _ F r f => done _ q σ' rfl F h r f)
  · rw [kTy_14 z, ← hA0] at g
    obtain ⟨e1, e2, e3⟩ := kIs_in g
    rw [List.all_eq_true] at e3
    have m1 := w1.2.2.2.2.2.1 z
    unfold V_flatWorked_14
    refine m_fRowX (f := ff) (m := (A.2.2.2.2.1 n).length) (d := A0.toNat) (vs := vs) hC hs hn ⟨m1, t3⟩ (by omega) t2 ⟨hb, by omega⟩ (fun k' hk' => ?_) (by omega) hq (fun i hi => by rw [eff, z]; exact fO_14) (fun q σ' h _ F r f => done _ q σ' rfl F (opX_K h (by omega)) r f)
    obtain ⟨x, hx⟩ : ∃ x, ty[k']? = some x := ⟨_, List.getElem?_eq_getElem (by omega)⟩
    have u := h5 k' x hx
    have := e3 x (List.mem_of_getElem? hx)
    rw [decide_eq_true_eq] at this
    rwa [this] at u
  · have c := act (by omega)
    simp only [z] at c
    obtain ⟨e1, e2, e3⟩ := kIs_in c
    simp only [Bool.and_eq_true, decide_eq_true_eq] at e3
    obtain ⟨R, u, ul⟩ := a1 (by omega)
    unfold V_flatWorked_16
    exact m_fIotaX (f := ff) hC hs u ul hq (fun i hi => by rw [eff, z]; exact fO_16) (fun q σ' h _ F r f => done _ q σ' rfl F (opX_K h (by omega)) r f)
  · have c := act (by omega)
    simp only [z] at c
    obtain ⟨e1, e2, e3⟩ := kIs_in c
    simp only [Bool.and_eq_true, decide_eq_true_eq] at e3
    obtain ⟨R, u, ul⟩ := a1 (by omega)
    obtain ⟨R', v, vl⟩ := a2 (by omega)
    unfold V_flatWorked_17
    exact m_fDistX (f := ff) hC hs u (by omega) v ul vl hq (fun i hi => by rw [eff, z]; exact fO_17) (fun q σ' h _ F r f => done _ q σ' rfl F (opX_K h (by omega)) r f)
  · have c := act (by omega)
    simp only [z] at c
    obtain ⟨e1, e2, e3⟩ := kIs_in c
    simp only [Bool.and_eq_true, decide_eq_true_eq] at e3
    obtain ⟨R, u, ul⟩ := a1 (by omega)
    rw [show A0.toNat = 1 by omega] at u
    obtain ⟨r, r', Ra, er, er1, er2, er3, er4, -⟩ := fX_s (d := 0) u
    unfold V_flatWorked_18
    refine m_fGoneX (f := ff) hC hs hn u ul hq (fun i hi => by rw [eff, t1]; exact fO_gn (by omega) (er4 i (by omega)).2.1) (fun q σ' h _ F r f => done _ q σ' rfl F ?_ r f)
    rw [if_neg (by omega)] at h
    exact opX_K h (by omega)
  · have c := act (by omega)
    simp only [z] at c
    obtain ⟨e1, e2, e3⟩ := kIs_in c
    simp only [Bool.and_eq_true, decide_eq_true_eq] at e3
    obtain ⟨R, u, ul⟩ := a1 (by omega)
    rw [show A0.toNat = 1 by omega] at u
    obtain ⟨r, r', Ra, er, er1, er2, er3, er4, -⟩ := fX_s (d := 0) u
    unfold V_flatWorked_18
    refine m_fGoneX (f := ff) hC hs hn u ul hq (fun i hi => by rw [eff, t1]; exact fO_gn (by omega) (er4 i (by omega)).2.1) (fun q σ' h _ F r f => done _ q σ' rfl F ?_ r f)
    rw [if_neg (by omega)] at h
    exact opX_K h (by omega)
  · have c := act (by omega)
    simp only [z] at c
    obtain ⟨e1, e2, e3⟩ := kIs_in c
    simp only [Bool.and_eq_true, decide_eq_true_eq] at e3
    obtain ⟨R, u, ul⟩ := a1 (by omega)
    rw [show A0.toNat = 1 by omega] at u
    obtain ⟨r, r', Ra, er, er1, er2, er3, er4, -⟩ := fX_s (d := 0) u
    unfold V_flatWorked_18
    refine m_fGoneX (f := ff) hC hs hn u ul hq (fun i hi => by rw [eff, t1]; exact fO_gn (by omega) (er4 i (by omega)).2.1) (fun q σ' h _ F r f => done _ q σ' rfl F ?_ r f)
    rw [if_neg (by omega)] at h
    exact opX_K h (by omega)
  · have c := act (by omega)
    simp only [z] at c
    obtain ⟨e1, e2, e3⟩ := kIs_in c
    simp only [Bool.and_eq_true, decide_eq_true_eq] at e3
    obtain ⟨R, u, ul⟩ := a1 (by omega)
    rw [show A0.toNat = 1 by omega] at u
    obtain ⟨r, r', Ra, er, er1, er2, er3, er4, -⟩ := fX_s (d := 0) u
    unfold V_flatWorked_18
    refine m_fGoneX (f := ff) hC hs hn u ul hq (fun i hi => by rw [eff, t1]; exact fO_gn (by omega) (er4 i (by omega)).2.1) (fun q σ' h _ F r f => done _ q σ' rfl F ?_ r f)
    rw [if_pos (by omega)] at h
    exact opX_K h (by omega)
  · have c := act (by omega)
    simp only [z] at c
    obtain ⟨e1, e2, e3⟩ := kIs_in c
    simp only [Bool.and_eq_true, decide_eq_true_eq] at e3
    obtain ⟨R, u, ul⟩ := a1 (by omega)
    rw [show A0.toNat = (A0.toNat - 1) + 1 by omega] at u
    unfold V_flatWorked_22
    exact m_fRevX (f := ff) hC hs u ul hq (fun i hi => by rw [eff, z]; exact fO_22) (fun q σ' h _ F r f => done _ q σ' rfl F (opX_K h (by omega)) r f)
  · have c := act (by omega)
    simp only [z] at c
    obtain ⟨e1, e2, e3⟩ := kIs_in c
    simp only [Bool.and_eq_true, decide_eq_true_eq] at e3
    obtain ⟨R, u, ul⟩ := a1 (by omega)
    obtain ⟨R', v, vl⟩ := a2 (by omega)
    rw [show A0.toNat = (A0.toNat - 1) + 1 by omega] at u
    rw [show B0.toNat = (A0.toNat - 1) + 1 by omega] at v
    unfold V_flatWorked_23
    exact m_fCatX (f := ff) hC hs u v ul vl ⟨by omega, by omega⟩ hq (fun i hi => by rw [eff, z]; exact fO_23) (fun q σ' h hx _ F r f => k q σ' r (opX_K h (by omega)) hx f)
  · have c := act (by omega)
    simp only [z] at c
    obtain ⟨e1, e2, e3⟩ := kIs_in c
    simp only [Bool.and_eq_true, decide_eq_true_eq] at e3
    obtain ⟨R, u, ul⟩ := a1 (by omega)
    rw [show A0.toNat = (A0.toNat - 2) + 2 by omega] at u
    unfold V_flatWorked_24
    exact m_fFlatX (f := ff) hC hs u ul hq (fun i hi => by rw [eff, z]; exact fO_24) (fun q σ' h _ F r f => done _ q σ' rfl F (opX_K h (by omega)) r f)
  · have c := act (by omega)
    simp only [z] at c
    obtain ⟨e1, e2, e3⟩ := kIs_in c
    simp only [Bool.and_eq_true, decide_eq_true_eq] at e3
    obtain ⟨R, u, ul⟩ := a1 (by omega)
    obtain ⟨R', v, vl⟩ := a2 (by omega)
    rw [show A0.toNat = (A0.toNat - 1) + 1 by omega] at u
    rw [show B0.toNat = 1 by omega] at v
    unfold V_flatWorked_25
    exact m_fChosenX (f := ff) hC hs hn u v ul vl hq (fun _ i hi => by rw [eff, z]; exact fO_25) (fun w => absurd (t1.trans z) w) (fun q σ' h _ F r f => done _ q σ' rfl F (opX_K h (by omega)) r f)
  · have c := act (by omega)
    simp only [z] at c
    obtain ⟨e1, e2, e3⟩ := kIs_in c
    simp only [Bool.and_eq_true, decide_eq_true_eq] at e3
    obtain ⟨R, u, ul⟩ := a1 (by omega)
    obtain ⟨R', v, vl⟩ := a2 (by omega)
    rw [show A0.toNat = (A0.toNat - 1) + 1 by omega] at u
    rw [show B0.toNat = 1 by omega] at v
    unfold V_flatWorked_25
    exact m_fChosenX (f := ff) hC hs hn u v ul vl hq (fun w => absurd (w.symm.trans (t1.trans z)) (by decide)) (fun _ i hi => by rw [eff, z]; exact fO_26) (fun q σ' h _ F r f => done _ q σ' rfl F (opX_K h (by omega)) r f)
  · have c := act (by omega)
    simp only [z] at c
    obtain ⟨e1, e2, e3⟩ := kIs_in c
    simp only [Bool.and_eq_true, decide_eq_true_eq] at e3
    obtain ⟨R, u, ul⟩ := a1 (by omega)
    obtain ⟨R', v, vl⟩ := a2 (by omega)
    rw [show A0.toNat = (A0.toNat - 1) + 1 by omega] at u
    rw [show B0.toNat = 1 by omega] at v
    unfold V_flatWorked_27
    exact m_fPartX (f := ff) hC hs u (by omega) v ul vl hq (fun i hi => by rw [eff, z]; exact fO_27) (fun q σ' h _ F r f => done _ q σ' rfl F (opX_K h (by omega)) r f)
  · have w0 := w1.1
    have kk : 4 ≤ A.2.1 n ∧ A.2.1 n < 11 := by omega
    rw [kTy_op kk, ← hA0, ← hB0] at g
    obtain ⟨e1, e2, e3⟩ := kIs_in g
    have l2 := w1.2.2.1 (Or.inr (Or.inl ⟨kk.1, by omega⟩))
    obtain ⟨R, u, ul⟩ := a1 (by omega)
    obtain ⟨R', v, vl⟩ := a2 (by omega)
    exact m_fdX (f := ff) hC hs hn u v ul vl hq (fun i hi => by rw [eff, t1]; exact fO_op kk) (fun q σ' h F r f => done _ q σ' rfl F (opX_K h (by omega)) r f)
end FSX
/-! flat runs of the reference, exactly: variables carried along, put back; lanes where a row is not 0. -/
theorem undA_r {σ : sg_S} {b : Int} {w : Int → Int} : ∀ (O : List Int) (s : Int), (∀ (i : Nat) (x : Int), O[i]? = some x → sg_g σ 148 (s + i) = x ∧ sg_g σ 149 (s + i) = w x) → undA σ b s O.length = if b ∈ O then w b else sg_g σ 134 b
  | [], s, _ => by simp [undA]
  | x :: O, s, h => by
    have h0 := h 0 x rfl
    rw [show s + ((0 : Nat) : Int) = s by omega] at h0
    have ih := undA_r (b := b) O (s + 1) (fun i y hy => by
      have := h (i + 1) y hy
      rw [show s + ((i + 1 : Nat) : Int) = s + 1 + (i : Int) by omega] at this
      exact this)
    rw [List.length_cons]
    simp only [undA]
    rw [h0.1, h0.2, ih]
    by_cases c : x = b
    · rw [if_pos c, if_pos (by simp [c]), c]
    · rw [if_neg c]
      by_cases c2 : b ∈ O
      · rw [if_pos c2, if_pos (by simp [c2])]
      · rw [if_neg c2, if_neg (by
          intro z
          rcases List.mem_cons.mp z with q | q
          · exact c q.symm
          · exact c2 q)]
theorem m_restoreX {σ : sg_S} {to : Int} {O : List Int} {w : Int → Int} {Q : sg_S → Prop} (h0 : 0 ≤ to ∧ sg_g σ 88 99 = to + O.length ∧ sg_g σ 88 99 ≤ 12000) (hB : sB σ) (hr : ∀ (i : Nat) (x : Int), O[i]? = some x → sg_g σ 148 (to + i) = x ∧ sg_g σ 149 (to + i) = w x) (k : ∀ σ', sg_g σ' 88 99 = to → (∀ b, sg_g σ' 134 b = if b ∈ O then w b else sg_g σ 134 b) → sB σ' → sg_F [134, 100088] σ σ' → Q σ') : V_restore σ to Q := by
  refine m_restore ⟨h0.1, by omega, h0.2.2⟩ hB (fun σ' e1 e2 e3 F => k σ' e1 (fun b => ?_) e3 F)
  have a := e2 to b (Int.le_refl _)
  have t : und σ' to b = sg_g σ' 134 b := by
    have := und_top (σ := σ') (b := b)
    rw [e1] at this
    exact this
  rw [t] at a
  rw [a]
  unfold und
  rw [h0.2.1, show (to + (O.length : Int) - to).toNat = O.length by omega]
  exact undA_r O to hr
/-- lanes in which a row is not 0 (b), or is 0 -/
theorem fWh_s (b : Bool) (c : List vaF) (n : Nat) : (List.range (n + 1)).filter (fun i : Nat => decide ((c.getD i (nmF 0)) [] = 0) != b) = (List.range n).filter (fun i : Nat => decide ((c.getD i (nmF 0)) [] = 0) != b) ++ (if (decide ((c.getD n (nmF 0)) [] = 0) != b) = true then [n] else []) := by
  rw [List.range_succ, List.filter_append]
  congr 1
  rw [List.filter_cons, List.filter_nil]
theorem m_whereX {σ : sg_S} {v is : Int} {l : List vaF} {R : List (Int × Int)} {b : Bool} {Q : sg_S → Prop} (hv : fX σ 6000 v 0 l R) (hc : sg_g σ 88 91 ≤ 60000 ∧ sg_g σ 88 87 ≤ 30000) (hi : is = if b = true then 1 else 0) (k : ∀ σ', lX σ' ((fWh b l).map (fun n : Nat => (n : Int))) → sg_F [143, 94088] σ σ' → Q σ') : V_listWhere σ v is Q := by
  obtain ⟨r, R', er, er1, er2, er3, er4⟩ := fX_r hv
  subst er
  have z0 := fV_0 hv.1
  have vb := hv.1.1
  have vl : v_lanesOf σ v = l.length := by unfold v_lanesOf; rw [z0.2]; exact er2
  have l6 : (l.length : Int) ≤ 6000 := by have := er3.2.2.1; omega
  unfold V_listWhere
  intro σ1 e1
  have f1 : sg_F [94088] σ σ1 := by rw [e1]; exact sg_F_w (sg_F_r _ _) rfl _
  rw [vl]
  obtain ⟨p, ep⟩ : ∃ p : Nat → Bool, p = fun i : Nat => decide ((l.getD i (nmF 0)) [] = 0) != b := ⟨_, rfl⟩
  refine ⟨fun n x σ5 => ∃ i : Nat, x = i ∧ n = l.length - i ∧ i ≤ l.length ∧ lX σ5 (((List.range i).filter p).map (fun n : Nat => (n : Int))), fun σ5 => lX σ5 ((fWh b l).map (fun n : Nat => (n : Int))), ⟨_, 0, rfl, rfl, Nat.zero_le _, lX_0 e1⟩, ?_, fun σ5 f5 h5 => k σ5 h5 (sg_F_t (sg_F_m f1 rfl) f5)⟩
  rintro n x σ5 rx f5 ⟨i, rfl, en, hi', h5⟩
  refine ⟨⟨⟨by omega, by omega⟩, ⟨by omega, by omega⟩, trivial⟩, fun z => ?_, fun z => ?_⟩
  · have ei : i = l.length := by omega
    rw [ei, ep] at h5
    exact h5
  obtain ⟨pa, va⟩ := pRX hv hc (i := i) (by omega)
  rw [va]
  have fs : (List.range (i + 1)).filter p = (List.range i).filter p ++ (if p i = true then [i] else []) := by
    rw [ep]; exact fWh_s b l i
  have fl : ((List.range i).filter p).length ≤ i := by
    have := List.length_filter_le p (List.range i)
    rw [List.length_range] at this
    exact this
  refine ⟨pa, fun v26 e26 r26 => ⟨fun σ6 => lX σ6 (((List.range (i + 1)).filter p).map (fun n : Nat => (n : Int))), ⟨fun c => lX_e h5 ?_, fun c => m_listX h5 (by rw [List.length_map]; omega) rx (fun σ6 h6 f6 _ => lX_e h6 ?_)⟩, fun σ6 f6 h6 => ⟨⟨by omega, by omega⟩, l.length - (i + 1), by omega, i + 1, by omega, rfl, by omega, h6⟩⟩⟩
  · rw [fs, if_neg, List.append_nil]
    intro pi
    apply c
    rw [e26, hi]
    have pi' : (decide ((l.getD i (nmF 0)) [] = 0) != b) = true := by rw [ep] at pi; exact pi
    by_cases cz : (l.getD i (nmF 0)) [] = 0
    · rw [if_pos cz]
      rw [decide_eq_true cz] at pi'
      cases b with
      | false => rfl
      | true => cases pi'
    · rw [if_neg cz]
      rw [decide_eq_false cz] at pi'
      cases b with
      | true => rfl
      | false => cases pi'
  · rw [fs, if_pos, List.map_append]
    · rfl
    · rw [ep]
      show (decide ((l.getD i (nmF 0)) [] = 0) != b) = true
      rw [e26, hi] at c
      by_cases cz : (l.getD i (nmF 0)) [] = 0
      · rw [if_pos cz] at c
        rw [decide_eq_true cz]
        cases b with
        | false => rfl
        | true => exact absurd c (by decide)
      · rw [if_neg cz] at c
        rw [decide_eq_false cz]
        cases b with
        | true => rfl
        | false => exact absurd c (by decide)
section FXCA
variable {σ : sg_S}
abbrev caL : List Nat := [134, 139, 140, 141, 142, 144, 148, 149, 85088, 86088, 88088, 92088, 100088]
theorem fPk_ln {l : List vaF} {kn : List Nat} : fPk l kn = (kn.map (fun n : Nat => (n : Int))).map (lnF l) := by
  unfold fPk
  rw [List.map_map]
  refine List.map_congr_left (fun n _ => ?_)
  show l.getD n (nmF 0) = lnF l (n : Int)
  unfold lnF
  rw [if_neg (by omega), Int.toNat_natCast]
theorem m_carriedX {O : List Int} {kn : List Nat} {Λ : Nat} {ty : Int → Int} {ρ : fEv} {s : fSt} {Q : Int → sg_S → Prop} (hI : fI σ) (hs : fcX σ s) (hB : sB σ) (hO : oR σ O) (hl : O.length ≤ 200) (hv : ∀ b ∈ O, ∃ R, fX σ 6000 (sg_g σ 134 b) (ty b).toNat (ρ b) R ∧ (ρ b).length = Λ) (hk : lX σ (kn.map (fun n : Nat => (n : Int)))) (hkl : ∀ x ∈ kn, x < Λ) (hn : kn.length ≤ 6000) (k0 : ∀ s', fCa ty kn O s ρ = .inl (8, s') → ∀ σ', sg_g σ' 88 73 = 8 → fcX σ' s' → sg_F [134, 139, 140, 141, 142, 144, 148, 149, 74088, 85088, 86088, 88088, 92088, 100088] σ σ' → Q 0 σ') (k1 : ∀ s' ρ', fCa ty kn O s ρ = .inr (s', ρ') → (∀ b, ρ' b = if b ∈ O then fPk (ρ b) kn else ρ b) → ∀ σ', fI σ' → fcX σ' s' → sB σ' → fEx σ σ' → (∀ b ∈ O, ∃ R, fX σ' 6000 (sg_g σ' 134 b) (ty b).toNat (fPk (ρ b) kn) R) → (∀ b, b ∉ O → sg_g σ' 134 b = sg_g σ 134 b) → sg_g σ' 88 99 = sg_g σ 88 99 + O.length → (∀ (i : Nat) (x : Int), O[i]? = some x → sg_g σ' 148 (sg_g σ 88 99 + i) = x ∧ sg_g σ' 149 (sg_g σ 88 99 + i) = sg_g σ 134 x) → (∀ i, i < sg_g σ 88 99 → sg_g σ' 148 i = sg_g σ 148 i ∧ sg_g σ' 149 i = sg_g σ 149 i) → sg_F caL σ σ' → Q 1 σ') : V_carried σ Q := by
  obtain ⟨o1, o2, o3, o4⟩ := hO
  obtain ⟨ρi, eρ⟩ : ∃ ρi : Nat → fEv, ∀ i b, ρi i b = if b ∈ O.take i then fPk (ρ b) kn else ρ b := ⟨fun i b => if b ∈ O.take i then fPk (ρ b) kn else ρ b, fun _ _ => rfl⟩
  have ρ0 : ρi 0 = ρ := funext (fun b => by rw [eρ 0 b, List.take_zero, if_neg (by simp)])
  unfold V_carried
  rw [o1]
  refine ⟨fun n v σ2 => ∃ (i : Nat) (si : fSt), v = i ∧ n = O.length - i ∧ i ≤ O.length ∧ (fI σ2 ∧ fcX σ2 si ∧ sB σ2 ∧ fEx σ σ2) ∧ fCa ty kn (O.drop i) si (ρi i) = fCa ty kn O s ρ ∧ (∀ b ∈ O.take i, ∃ R, fX σ2 6000 (sg_g σ2 134 b) (ty b).toNat (fPk (ρ b) kn) R) ∧ (∀ b, b ∉ O.take i → sg_g σ2 134 b = sg_g σ 134 b) ∧ sg_g σ2 88 99 = sg_g σ 88 99 + i ∧ (∀ (j : Nat) (x : Int), j < i → O[j]? = some x → sg_g σ2 148 (sg_g σ 88 99 + j) = x ∧ sg_g σ2 149 (sg_g σ 88 99 + j) = sg_g σ 134 x) ∧ (∀ j, j < sg_g σ 88 99 → sg_g σ2 148 j = sg_g σ 148 j ∧ sg_g σ2 149 j = sg_g σ 149 j) ∧ sg_F caL σ σ2, fun σ2 => ∃ si : fSt, (fI σ2 ∧ fcX σ2 si ∧ sB σ2 ∧ fEx σ σ2) ∧ fCa ty kn O s ρ = .inr (si, ρi O.length) ∧ (∀ b ∈ O, ∃ R, fX σ2 6000 (sg_g σ2 134 b) (ty b).toNat (fPk (ρ b) kn) R) ∧ (∀ b, b ∉ O → sg_g σ2 134 b = sg_g σ 134 b) ∧ sg_g σ2 88 99 = sg_g σ 88 99 + O.length ∧ (∀ (j : Nat) (x : Int), O[j]? = some x → sg_g σ2 148 (sg_g σ 88 99 + j) = x ∧ sg_g σ2 149 (sg_g σ 88 99 + j) = sg_g σ 134 x) ∧ (∀ j, j < sg_g σ 88 99 → sg_g σ2 148 j = sg_g σ 148 j ∧ sg_g σ2 149 j = sg_g σ 149 j) ∧ sg_F caL σ σ2, ⟨_, 0, s, rfl, rfl, Nat.zero_le _, ⟨hI, hs, hB, fEx_r σ⟩, by rw [ρ0, List.drop_zero], fun b hb => by simp at hb, fun b _ => rfl, by omega, fun j x hj => by omega, fun j _ => ⟨rfl, rfl⟩, sg_F_r _ _⟩, ?_, ?_⟩
  · rintro n v σ2 rv fV2 ⟨i, si, rfl, en, hi, ⟨p1, p0, p2, p3⟩, pc, p4, p5, p6, p7, p8, p9⟩
    refine ⟨fun z => ?_, fun z => ?_⟩
    · have ei : i = O.length := by omega
      subst ei
      rw [List.drop_of_length_le (Nat.le_refl _)] at pc
      rw [List.take_of_length_le (Nat.le_refl _)] at p4 p5
      exact ⟨si, ⟨p1, p0, p2, p3⟩, pc.symm, p4, p5, p6, fun j x hx => p7 j x (lt_of_get hx) hx, p8, p9⟩
    obtain ⟨b, hb⟩ : ∃ q, O[i]? = some q := ⟨_, List.getElem?_eq_getElem (by omega)⟩
    have bO := List.mem_of_getElem? hb
    have eb := o2 i b hb
    have tk : O.take (i + 1) = O.take i ++ [b] := by
      rw [List.take_add_one, hb]; rfl
    have bn : b ∉ O.take i := fun w => by
      have nd := o3
      rw [← List.take_append_drop i O, List.nodup_append] at nd
      have : b ∈ O.drop i := by
        rw [List.mem_iff_getElem?]
        exact ⟨0, by rw [List.getElem?_drop]; exact hb⟩
      exact nd.2.2 b w b this rfl
    have dr : O.drop i = b :: O.drop (i + 1) := by
      rw [List.drop_eq_getElem_cons (by omega)]
      congr 1
      have := List.getElem?_eq_getElem (l := O) (i := i) (by omega)
      rw [hb] at this
      exact (Option.some.inj this).symm
    rw [eb, p5 b bn]
    obtain ⟨R, hX0, lX0⟩ := hv b bO
    have hX := fX_up p3 hX0
    have vR : sg_R (sg_g σ 134 b) := sg_Rg _ _ _
    have lk2 := lX_F p9 rfl hk
    obtain ⟨i1, i2, i3, i4, i5⟩ := p1
    have s85 := p0.2.1
    have s84 := p0.1
    have hm : ∀ x ∈ kn.map (fun n : Nat => (n : Int)), x < ((ρ b).length : Int) := fun x hx => by
      obtain ⟨n, hn', e⟩ := List.mem_map.mp hx
      have e' : ((n : Nat) : Int) = x := e
      have := hkl n hn'
      omega
    have hlen : (kn.map (fun n : Nat => (n : Int))).length ≤ 13000 := by rw [List.length_map]; omega
    obtain ⟨x0, x1⟩ := exF_u hX lk2 hm hlen
    have ρb : ρi i b = ρ b := by rw [eρ i b, if_neg bn]
    have eca : fCa ty kn O s ρ = (match fStp (exF (ty b).toNat ((kn.map (fun n : Nat => (n : Int))).map (lnF (ρ b)))) si with
      | none => .inl (8, si)
      | some s1 => fCa ty kn (O.drop (i + 1)) s1 (ρi (i + 1))) := by
      rw [← pc, dr]
      simp only [fCa]
      rw [ρb, fPk_ln]
      have eu : (fun x => if x = b then (kn.map (fun n : Nat => (n : Int))).map (lnF (ρ b)) else ρi i x) = ρi (i + 1) := funext (fun x => by
        rw [eρ (i + 1) x, eρ i x, tk]
        by_cases cx : x = b
        · rw [if_pos cx, if_pos (by simp [cx]), fPk_ln, cx]
        · rw [if_neg cx]
          by_cases cm : x ∈ O.take i
          · rw [if_pos cm, if_pos (by simp [cm])]
          · rw [if_neg cm, if_neg (by simp [cm, cx])])
      rw [eu]
      cases fStp (exF (ty b).toNat ((kn.map (fun n : Nat => (n : Int))).map (lnF (ρ b)))) si <;> rfl
    refine ⟨⟨by omega, by omega⟩, o4 b bO, m_extX hX ⟨by decide, by decide⟩ ⟨by omega, by omega⟩ lk2 hm hlen (fun σ3 f3 rt _ => ?_)⟩
    obtain ⟨t, et⟩ : ∃ t, t = exF (ty b).toNat ((kn.map (fun n : Nat => (n : Int))).map (lnF (ρ b))) := ⟨_, rfl⟩
    rw [← et] at x0 x1 eca ⊢
    refine m_stepX (fcX_F f3 rfl p0) ⟨x0, by omega⟩ (fun h0 σ' e c F _ _ => ⟨fun z => absurd rfl z, fun _ => k0 si (by rw [eca, h0]) σ' e c (sg_F_t (sg_F_m p9 rfl) (sg_F_t (sg_F_m f3 rfl) (sg_F_m F rfl)))⟩) (fun s' hs' σ4 c4 f4 _ _ => ⟨fun _ => ⟨⟨by omega, by omega⟩, fun σ5 e5 σ6 e6 => ⟨⟨by omega, by omega⟩, fun σ7 e7 => ?_⟩⟩, fun z => by omega⟩)
    have st := fStp_s hs'
    rw [hs'] at eca
    have f34 : sg_F [144, 85088, 86088] σ2 σ4 := sg_F_t (sg_F_m f3 rfl) (sg_F_m f4 rfl)
    have f47 : sg_F [148, 149, 100088] σ4 σ7 := by rw [e7, e6, e5]; exact sg_F_w (sg_F_w (sg_F_w (sg_F_r _ _) rfl _) rfl _) rfl _
    have F7 : sg_F [144, 148, 149, 85088, 86088, 100088] σ2 σ7 := sg_F_t (sg_F_m f34 rfl) (sg_F_m f47 rfl)
    have g91 : sg_g σ7 88 91 = sg_g σ2 88 91 := sg_F_g F7 (by rfl)
    have g87 : sg_g σ7 88 87 = sg_g σ2 88 87 := sg_F_g F7 (by rfl)
    refine m_gathF (fX_up (fEx_F F7 rfl) hX) ⟨by decide, by decide⟩ (by omega) ⟨by omega, by omega⟩ (lX_F F7 rfl lk2) hm hlen (by rw [← et]; omega) (fun w σ8 ew ex8 fv8 e87 e91 f8 rw' _ σ9 e9 => ?_)
    rw [← et] at e91
    have fv8' := fv8 6000 (fun j hj => by
      have := lvl_ex (ty b).toNat j ((kn.map (fun n : Nat => (n : Int))).map (lnF (ρ b))) hj
      rw [← et] at this
      omega)
    have f9 : sg_F [134] σ8 σ9 := by rw [e9]; exact sg_F_w (sg_F_r _ _) rfl _
    have F9 : sg_F caL σ2 σ9 := sg_F_t (sg_F_m F7 rfl) (sg_F_t (sg_F_m f8 rfl) (sg_F_m f9 rfl))
    have F79 : sg_F [134, 139, 140, 141, 142, 144, 88088, 92088] σ7 σ9 := sg_F_t (sg_F_m f8 rfl) (sg_F_m f9 rfl)
    have ex9 : fEx σ2 σ9 := fEx_t (fEx_F F7 rfl) (fEx_t ex8 (fEx_F f9 rfl))
    have c9 : fcX σ9 s' := fcX_F F79 rfl (fcX_F f47 rfl c4)
    have h84 : sg_g σ9 88 84 = sg_g σ2 88 84 + 1 := by rw [c9.1, st.1, p0.1]
    have h85 : sg_g σ9 88 85 = sg_g σ2 88 85 + t := by rw [c9.2.1, st.2.1, p0.2.1]
    have h91 : sg_g σ9 88 91 = sg_g σ2 88 91 + t := by rw [sg_F_g f9 (by rfl)]; omega
    have h87 : sg_g σ9 88 87 = sg_g σ2 88 87 + 1 := by rw [sg_F_g f9 (by rfl)]; omega
    have h62 : sg_g σ9 88 62 = sg_g σ2 88 62 := sg_F_g F9 (by rfl)
    have h99 : sg_g σ9 88 99 = sg_g σ2 88 99 + 1 := by rw [sg_F_g F79 (by rfl), e7, sg_gw_e _ _ _ _ ⟨by omega, by omega⟩]
    have c148 : ∀ j, sg_g σ9 148 j = sg_g σ7 148 j := fun j => sg_F_ga F79 rfl
    have c149 : ∀ j, sg_g σ9 149 j = sg_g σ7 149 j := fun j => sg_F_ga F79 rfl
    have c134 : ∀ u, ¬ u = b → sg_g σ9 134 u = sg_g σ2 134 u := fun u hu => by rw [e9, sg_gw_k _ _ _ _ _ _ hu, sg_F_ga f8 rfl, sg_F_ga F7 rfl]
    have s148 : sg_g σ7 148 (sg_g σ2 88 99) = b := by rw [e7, sg_gw_c _ _ _ _ _ _ (by decide), e6, sg_gw_c _ _ _ _ _ _ (by decide), e5, sg_gw_e _ _ _ _ ⟨by have := (o4 b bO).1; omega, by have := (o4 b bO).2; omega⟩]
    have s149 : sg_g σ7 149 (sg_g σ2 88 99) = sg_g σ 134 b := by rw [e7, sg_gw_c _ _ _ _ _ _ (by decide), e6, sg_gw_e _ _ _ _ vR]
    have o148 : ∀ j, ¬ j = sg_g σ2 88 99 → sg_g σ7 148 j = sg_g σ2 148 j := fun j hj => by rw [e7, sg_gw_c _ _ _ _ _ _ (by decide), e6, sg_gw_c _ _ _ _ _ _ (by decide), e5, sg_gw_k _ _ _ _ _ _ hj, sg_F_ga f34 rfl]
    have o149 : ∀ j, ¬ j = sg_g σ2 88 99 → sg_g σ7 149 j = sg_g σ2 149 j := fun j hj => by rw [e7, sg_gw_c _ _ _ _ _ _ (by decide), e6, sg_gw_k _ _ _ _ _ _ hj, e5, sg_gw_c _ _ _ _ _ _ (by decide), sg_F_ga f34 rfl]
    have vb : sg_g σ9 134 b = w := by rw [e9, sg_gw_e _ _ _ _ rw']
    refine ⟨⟨by omega, by omega⟩, O.length - (i + 1), by omega, i + 1, s', by omega, rfl, by omega, ⟨⟨⟨by omega, by omega⟩, ⟨by omega, by omega⟩, ⟨by omega, by omega⟩, ⟨by omega, by omega, by omega⟩, by omega, by omega⟩, c9, fun j x y => ?_, fEx_t p3 ex9⟩, eca.symm, fun u hu => ?_, fun u hu => ?_, by omega, fun j x hj hx => ?_, fun j hj => ?_, sg_F_t p9 F9⟩
    · rw [c148]
      by_cases c : j = sg_g σ2 88 99
      · rw [c, s148]; exact o4 b bO
      · rw [o148 j c]; exact p2 j x (by omega)
    · rw [tk] at hu
      rcases List.mem_append.mp hu with q | q
      · have ub : ¬ u = b := fun e => bn (by rw [← e]; exact q)
        rw [c134 u ub]
        obtain ⟨R1, h1⟩ := p4 u q
        exact ⟨R1, fX_up ex9 h1⟩
      · have : u = b := by simpa using q
        rw [this, vb, fPk_ln]
        exact ⟨_, fX_up (fEx_F f9 rfl) fv8'⟩
    · rw [tk] at hu
      have u1 : u ∉ O.take i := fun q => hu (by simp [q])
      have u2 : ¬ u = b := fun q => hu (by simp [q])
      rw [c134 u u2]; exact p5 u u1
    · rw [c148, c149]
      by_cases c : j = i
      · subst c
        rw [hb] at hx
        cases hx
        rw [← p6, s148, s149]
        exact ⟨rfl, rfl⟩
      · rw [o148 _ (by omega), o149 _ (by omega)]
        exact p7 j x (by omega) hx
    · rw [c148, c149, o148 _ (by omega), o149 _ (by omega)]
      exact p8 j hj
  · rintro σ2 fV2 ⟨si, ⟨p1, p0, p2, p3⟩, pc, p4, p5, p6, p7, p8, p9⟩
    exact k1 si (ρi O.length) pc (fun b => by rw [eρ O.length b, List.take_of_length_le (Nat.le_refl _)]) σ2 p1 p0 p2 p3 p4 p5 p6 p7 p8 p9
end FXCA
/-! THE FLAT RUN of a PROGRAM, told as a function: nodes. -/
/-- a node is begun in m lanes -/
def fBg (m : Nat) (s : fSt) : Option fSt := match fStp 0 s with
  | none => none
  | some s0 => some (s0.1, s0.2.1, if s0.2.2 < (m : Int) then (m : Int) else s0.2.2)
section FEX
variable (go : Int → Nat → fEv → fSt → fRs) (bt : Int → Int)
/-- if -/
def fIfN (tn : Int) (O1 O2 : List Int) (a c d : Int) (m : Nat) (ρ : fEv) (s1 : fSt) : fRs := match go a m ρ s1 with
  | .inl e => .inl e
  | .inr (cv, s2, ρ2) => match fCa bt (fWh true cv) O1 s2 ρ2 with
    | .inl e => .inl e
    | .inr (s3, ρ3) => match go c (fWh true cv).length ρ3 s3 with
      | .inl e => .inl e
      | .inr (v1, s4, ρ4) => match fCa bt (fWh false cv) O2 s4 (fBk O1 ρ2 ρ4) with
        | .inl e => .inl e
        | .inr (s5, ρ5) => match go d (fWh false cv).length ρ5 s5 with
          | .inl e => .inl e
          | .inr (v2, s6, ρ6) => match fStp (exF tn.toNat v1 + exF tn.toNat v2) s6 with
            | none => .inl (8, s6)
            | some s7 => .inr (fMg cv v1 v2, s7, fBk O2 (fBk O1 ρ2 ρ4) ρ6)
/-- each lane as often as it has items -/
def fRp (m : Nat) (ln : List Nat) : List Nat := ((List.range m).map (fun i : Nat => List.replicate (ln.getD i 0) i)).flatten
/-- { } behind its GENS -/
def fEbN (n : Int) (O0 O1 : List Int) (bd : Int) (ts : List Int) (m : Nat) (vs : List (List vaF)) (ρ2 : fEv) (s2 : fSt) : fRs :=
  if (List.range m).any (fun i : Nat => vs.any (fun l => decide ((l.getD i (nmF 0)) [] ≠ ((vs.getD 0 []).getD i (nmF 0)) []))) = true then .inl (3, s2)
  else match fCa bt (fRp m ((vs.getD 0 []).map (fun v => (itF v).length))) O0 s2 ρ2 with
    | .inl e => .inl e
    | .inr (s3, ρ3) => match ts with
      | [] => (match go bd (fRp m ((vs.getD 0 []).map (fun v => (itF v).length))).length (fUs ρ3 (210 + 4 * n) 0 (vs.map flF)) s3 with
        | .inl e => .inl e
        | .inr (v, s4, ρ5) => .inr (fCt ((vs.getD 0 []).map (fun v => (itF v).length)) v, s4, fBk O0 ρ2 ρ5))
      | t :: _ => match go t (fRp m ((vs.getD 0 []).map (fun v => (itF v).length))).length (fUs ρ3 (210 + 4 * n) 0 (vs.map flF)) s3 with
        | .inl e => .inl e
        | .inr (c, s4, ρ5) => match fCa bt (fWh true c) O1 s4 ρ5 with
          | .inl e => .inl e
          | .inr (s5, ρ6) => match fStp (m : Int) s5 with
            | none => .inl (8, s5)
            | some s6 => match go bd (fWh true c).length ρ6 s6 with
              | .inl e => .inl e
              | .inr (v, s7, ρ7) => .inr (fCt ((fCt ((vs.getD 0 []).map (fun v => (itF v).length)) c).map (fun w => ((itF w).filter (fun u => decide (u [] ≠ 0))).length)) v, s7, fBk O0 ρ2 (fBk O1 ρ5 ρ7))
end FEX
section FEV
variable (A : aT) (D : List aDf) (T B : Int → Int) (O : Int → Nat → List Int) (call : Int → Nat → fEv → fSt → fRs)
/-- a node is worked out in m lanes; O tells which variables are carried along at a stage of a node -/
def fxN : Nat → Int → Nat → fEv → fSt → fRs
  | 0, _, _, _, s => .inl (8, s)
  | f + 1, n, m, ρ, s => match fBg m s with
    | none => .inl (8, s)
    | some s1 =>
      if A.2.1 n = 1 then .inr (ρ (B n), s1, ρ)
      else if A.2.1 n = 2 then (match fxN f ((A.2.2.2.2.1 n).getD 0 0) m ρ s1 with
        | .inl e => .inl e
        | .inr (v, s2, ρ2) => fxN f ((A.2.2.2.2.1 n).getD 1 0) m (fun x => if x = n then v else ρ2 x) s2)
      else if A.2.1 n = 3 then fIfN (fxN f) (bTy A D T) (T n) (O n 1) (O n 2) ((A.2.2.2.2.1 n).getD 0 0) ((A.2.2.2.2.1 n).getD 1 0) ((A.2.2.2.2.1 n).getD 2 0) m ρ s1
      else if A.2.1 n = 13 then (match fSq (fun x => fxN f x m) (A.2.2.2.2.1 n) ρ s1 with
        | .inl e => .inl e
        | .inr (vs, s2, ρ2) => call (B n) m (fUs ρ2 (1100 + 6 * B n) 0 vs) s2)
      else if A.2.1 n = 15 then (match fSq (fun x => fxN f x m) (kGs A n) ρ s1 with
        | .inl e => .inl e
        | .inr (vs, s2, ρ2) => fEbN (fxN f) (bTy A D T) n (O n 0) (O n 1) ((A.2.2.2.2.1 n).getD 0 0) ((A.2.2.2.2.1 n).drop (1 + (A.2.2.2.2.2 n).length)) m vs ρ2 s2)
      else match fSq (fun x => fxN f x m) (A.2.2.2.2.1 n) ρ s1 with
        | .inl e => .inl e
        | .inr (vs, s2, ρ2) => fWk (A.2.1 n) (T n) (sg_n (A.2.2.2.1 n)) vs m s2 ρ2
end FEV
/-- DEFS below k -/
def fxC (A : aT) (D : List aDf) (T B : Int → Int) (O : Int → Nat → List Int) : Nat → Int → Nat → fEv → fSt → fRs
  | 0, _, _, _, s => .inl (8, s)
  | k + 1, q, m, ρ, s => if q = (k : Int) then fxN A D T B O (fxC A D T B O k) 201 ((D.getD k (0, 0, [], 0)).2.2.2) m ρ s else fxC A D T B O k q m ρ s
theorem fxC_e (A : aT) (D : List aDf) (T B : Int → Int) (O : Int → Nat → List Int) : ∀ (k q : Nat), q < k → ∀ m ρ s, fxC A D T B O k (q : Int) m ρ s = fxN A D T B O (fxC A D T B O q) 201 ((D.getD q (0, 0, [], 0)).2.2.2) m ρ s
  | 0, q, h, m, ρ, s => by omega
  | k + 1, q, h, m, ρ, s => by
    simp only [fxC]
    by_cases e : q = k
    · subst e; rw [if_pos rfl]
    · rw [if_neg (by omega), fxC_e A D T B O k q (by omega)]
/-! lengths of what is worked out; what is bound outside stays. -/
theorem fUs_no {b : Int} : ∀ {vs : List (List vaF)} {ρ : fEv} {i : Nat} {x : Int}, (x < b + i ∨ b + i + vs.length ≤ x) → fUs ρ b i vs x = ρ x
  | [], ρ, i, x, _ => rfl
  | v :: r, ρ, i, x, h => by
    simp only [fUs]
    simp only [List.length_cons] at h
    rw [fUs_no (vs := r) (i := i + 1) (by omega), if_neg (by omega)]
theorem fUs_at {b : Int} : ∀ {vs : List (List vaF)} {ρ : fEv} {i j : Nat} {v : List vaF}, vs[j]? = some v → fUs ρ b i vs (b + i + j) = v
  | [], ρ, i, j, v, h => by cases h
  | u :: r, ρ, i, 0, v, h => by
    cases h
    simp only [fUs]
    rw [fUs_no (vs := r) (i := i + 1) (by omega), if_pos (by omega)]
  | u :: r, ρ, i, j + 1, v, h => by
    rw [List.getElem?_cons_succ] at h
    simp only [fUs]
    have := fUs_at (b := b) (ρ := fun x => if x = b + i then u else ρ x) (i := i + 1) (j := j) h
    rw [show b + ((i + 1 : Nat) : Int) + (j : Int) = b + (i : Int) + ((j + 1 : Nat) : Int) by omega] at this
    exact this
theorem fCa_e {bt : Int → Int} {ks : List Nat} : ∀ {Ob : List Int} {s s' : fSt} {ρ ρ' : fEv}, Ob.Nodup → fCa bt ks Ob s ρ = .inr (s', ρ') → ∀ b, ρ' b = if b ∈ Ob then fPk (ρ b) ks else ρ b
  | [], s, s', ρ, ρ', _, h, b => by
    simp only [fCa, Sum.inr.injEq, Prod.mk.injEq] at h
    rw [← h.2, if_neg (by simp)]
  | y :: r, s, s', ρ, ρ', hn, h, b => by
    simp only [fCa] at h
    cases hs : fStp (exF (bt y).toNat (fPk (ρ y) ks)) s with
    | none => rw [hs] at h; cases h
    | some s1 =>
      rw [hs] at h
      have nd := List.nodup_cons.mp hn
      have ih := fCa_e nd.2 h b
      rw [ih]
      by_cases c : b ∈ r
      · have cb : ¬ b = y := fun e => nd.1 (by rw [← e]; exact c)
        rw [if_pos c, if_neg cb, if_pos (List.mem_cons_of_mem _ c)]
      · rw [if_neg c]
        by_cases cb : b = y
        · rw [if_pos cb, if_pos (List.mem_cons.mpr (Or.inl cb)), cb]
        · rw [if_neg cb, if_neg (fun w => (List.mem_cons.mp w).elim cb c)]
theorem fMg_l : ∀ (c a b : List vaF), (fMg c a b).length = c.length
  | [], a, b => rfl
  | x :: r, a, b => by
    simp only [fMg]
    by_cases h : x [] = 0
    · rw [if_pos h, List.length_cons, List.length_cons, fMg_l r]
    · rw [if_neg h, List.length_cons, List.length_cons, fMg_l r]
theorem fCt_l : ∀ (ln : List Nat) (l : List vaF), (fCt ln l).length = ln.length
  | [], l => rfl
  | n :: r, l => by simp only [fCt, List.length_cons]; rw [fCt_l r]
theorem fPk_l (l : List vaF) (ks : List Nat) : (fPk l ks).length = ks.length := by unfold fPk; rw [List.length_map]
/-! parts of a node with their fuel; parts one after another: lanes, and what is bound outside stays. -/
section AUS
variable {A : aT} {D : List aDf} {T B : Int → Int} {lev : Int → Nat}
theorem stN_k {j f : Nat} {L : List Int} {sc : List (Int × Int)} {x z : Int} (h : stN A D T B lev j (f + 1) L sc x) (k2 : ¬ A.2.1 x = 2) (k15 : ¬ A.2.1 x = 15) (hz : z ∈ A.2.2.2.2.1 x) : ∃ L', stN A D T B lev j f L' sc z ∧ ∀ y ∈ L', y ∈ L := by
  obtain ⟨L', a, b, -⟩ := stN_sub h hz f (h.1.2.2.2.2.2.2.2.2 k2 k15 z hz) (fun p hp => Or.inl hp)
  exact ⟨L', a, b⟩
theorem stN_l {j f : Nat} {L : List Int} {sc : List (Int × Int)} {x a c : Int} (hA : A.1 ≤ 200) (h : stN A D T B lev j (f + 1) L sc x) (k2 : A.2.1 x = 2) (ea : A.2.2.2.2.1 x = [a, c]) : (∃ L', stN A D T B lev j f L' sc a ∧ ∀ y ∈ L', y ∈ L) ∧ ∃ L', stN A D T B lev j f L' ((x, T a) :: sc) c ∧ ∀ y ∈ L', y ∈ L := by
  have h1 := h.1
  obtain ⟨b1, b2⟩ := h1.2.2.2.2.2.2.1 k2 a c ea
  have hx := h1.2.1
  obtain ⟨L', p1, p2, -⟩ := stN_sub h (z := a) (by rw [ea]; simp) f b1 (fun p hp => Or.inl hp)
  obtain ⟨L2, q1, q2, -⟩ := stN_sub h (z := c) (sc' := (x, T a) :: sc) (by rw [ea]; simp) f b2 (fun p hp => by
    rcases List.mem_cons.mp hp with e | e
    · rw [e]; exact Or.inr ⟨⟨⟨hx.1, by simp only; omega⟩, fun _ => hx.2, fun z => by simp only at z; omega⟩, Or.inl ⟨rfl, by simp only; omega⟩⟩
    · exact Or.inl e)
  exact ⟨⟨L', p1, p2⟩, L2, q1, q2⟩
/-- which variables are carried along: those of a part that are bound outside of it -/
def okO (A : aT) (B : Int → Int) (O : Int → Nat → List Int) : Prop := ∀ n, (∀ st, (O n st).Nodup) ∧ (A.2.1 n = 3 → ∀ (st : Nat) (x : Int) (L : List Int), (st = 1 ∨ st = 2) → (A.2.2.2.2.1 n)[st]? = some x → fT A [x] L → ∀ z, z ∈ O n st ↔ ∃ y ∈ L, A.2.1 y = 1 ∧ B y = z ∧ ¬ insL L z) ∧ (A.2.1 n = 15 → ∀ (bd : Int) (tl Lb Lt : List Int), A.2.2.2.2.1 n = bd :: tl → fT A [bd] Lb → fT A (tl.drop (A.2.2.2.2.2 n).length) Lt → (∀ z, z ∈ O n 0 ↔ ∃ y ∈ Lb ++ Lt, A.2.1 y = 1 ∧ B y = z ∧ ¬ insL (Lb ++ Lt) z ∧ ¬ isG n z) ∧ ∀ z, z ∈ O n 1 ↔ ∃ y ∈ Lb, A.2.1 y = 1 ∧ B y = z ∧ ¬ insL Lb z)
theorem fx_sq {O : Int → Nat → List Int} {call : Int → Nat → fEv → fSt → fRs} {f j m : Nat} {L : List Int} {sc : List (Int × Int)} (ih : ∀ (x : Int) (L' : List Int), stN A D T B lev j f L' sc x → ∀ ρ s v s' ρ', (∀ p ∈ sc, (ρ p.1).length = m) → fxN A D T B O call f x m ρ s = .inr (v, s', ρ') → v.length = m ∧ ∀ b, ¬ ow lev j L' b → ρ' b = ρ b) : ∀ (R : List Int), (∀ x ∈ R, ∃ L', stN A D T B lev j f L' sc x ∧ ∀ y ∈ L', y ∈ L) → (∀ p ∈ sc, ¬ ow lev j L p.1) → ∀ ρ s vs s' ρ', (∀ p ∈ sc, (ρ p.1).length = m) → fSq (fun x => fxN A D T B O call f x m) R ρ s = .inr (vs, s', ρ') → vs.length = R.length ∧ (∀ l ∈ vs, l.length = m) ∧ ∀ b, ¬ ow lev j L b → ρ' b = ρ b
  | [], hR, hs, ρ, s, vs, s', ρ', hl, h => by
    simp only [fSq, Sum.inr.injEq, Prod.mk.injEq] at h
    obtain ⟨rfl, -, rfl⟩ := h
    exact ⟨rfl, fun l hl => (by cases hl), fun b _ => rfl⟩
  | x :: R, hR, hs, ρ, s, vs, s', ρ', hl, h => by
    simp only [fSq] at h
    cases e1 : fxN A D T B O call f x m ρ s with
    | inl e => rw [e1] at h; cases h
    | inr p =>
      obtain ⟨v, s1, ρ1⟩ := p
      rw [e1] at h
      simp only at h
      cases e2 : fSq (fun x => fxN A D T B O call f x m) R ρ1 s1 with
      | inl e => rw [e2] at h; cases h
      | inr p2 =>
        obtain ⟨vs1, s2, ρ2⟩ := p2
        rw [e2] at h
        simp only [Sum.inr.injEq, Prod.mk.injEq] at h
        obtain ⟨rfl, rfl, rfl⟩ := h
        obtain ⟨L', hx, sub⟩ := hR x (by simp)
        obtain ⟨lv, kv⟩ := ih x L' hx ρ s v s1 ρ1 hl e1
        have kp : ∀ b, ¬ ow lev j L b → ρ1 b = ρ b := fun b hb => kv b (fun w => hb (ow_s sub w))
        obtain ⟨a1, a2, a3⟩ := fx_sq ih R (fun y hy => hR y (by simp [hy])) hs ρ1 s1 _ _ _ (fun p hp => by rw [kp p.1 (hs p hp)]; exact hl p hp) e2
        refine ⟨by rw [List.length_cons, List.length_cons, a1], fun l hl' => ?_, fun b hb => (a3 b hb).trans (kp b hb)⟩
        rcases List.mem_cons.mp hl' with q | q
        · rw [q]; exact lv
        · exact a2 l q
end AUS
