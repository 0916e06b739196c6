/-! flatWorked of the reference, exactly: by the kind of the node. -/
theorem unw_if (c : Prop) [Decidable c] (a b : Int ⊕ (vaF × Int)) : unw (if c then a else b) = if c then unw a else unw b := by
  split <;> rfl
theorem gm (vs : List (List vaF)) (i j : Nat) : (vs.map (fun l => l.getD i (nmF 0))).getD j (nmF 0) = (vs.getD j []).getD i (nmF 0) := by
  cases h : vs[j]? with
  | none => simp [List.getD_eq_getElem?_getD, List.getElem?_map, h]
  | some l => simp [List.getD_eq_getElem?_getD, List.getElem?_map, h]
section FOK
variable {ty x : Int} {vs : List (List vaF)} {i : Nat}
theorem fO_op {k : Int} (hk : 4 ≤ k ∧ k < 11) : fO1 k ty x vs i = if (k = 9 ∨ k = 10) ∧ ((vs.getD 1 []).getD i (nmF 0)) [] = 0 then .inl 1 else .inr (nmF (v_operated k (((vs.getD 0 []).getD i (nmF 0)) []) (((vs.getD 1 []).getD i (nmF 0)) []))) := by
  rw [← gm vs i 0, ← gm vs i 1]
  unfold fO1 eO
  simp only
  rw [if_neg (by omega), if_pos (by omega), unw_if]
  rfl
theorem fO_11 : fO1 11 ty x vs i = .inr (nmF ((itF ((vs.getD 0 []).getD i (nmF 0))).length : Int)) := by
  rw [← gm vs i 0]
  rfl
theorem fO_12 : fO1 12 ty x vs i = if 0 ≤ ((vs.getD 1 []).getD i (nmF 0)) [] ∧ ((vs.getD 1 []).getD i (nmF 0)) [] < ((itF ((vs.getD 0 []).getD i (nmF 0))).length : Int) then .inr ((itF ((vs.getD 0 []).getD i (nmF 0))).getD (((vs.getD 1 []).getD i (nmF 0)) []).toNat (nmF 0)) else .inl 2 := by
  rw [← gm vs i 0, ← gm vs i 1]
  unfold fO1 eO
  simp only
  rw [if_neg (by decide), if_neg (by decide), if_neg (by decide), if_pos trivial, unw_if]
  rfl
theorem fO_14 : fO1 14 ty x vs i = .inr (mkF (vs.map (fun l => l.getD i (nmF 0)))) := by
  unfold fO1
  rw [eO_14]
  rfl
theorem fO_16 : fO1 16 ty x vs i = if 0 ≤ ((vs.getD 0 []).getD i (nmF 0)) [] ∧ ((vs.getD 0 []).getD i (nmF 0)) [] ≤ 200 then .inr (mkF ((List.range (((vs.getD 0 []).getD i (nmF 0)) []).toNat).map (fun i : Nat => nmF (i : Int)))) else .inl 5 := by
  rw [← gm vs i 0]
  unfold fO1 eO
  simp only
  rw [if_neg (by decide), if_neg (by decide), if_neg (by decide), if_neg (by decide), if_neg (by decide), if_pos trivial, unw_if]
  rfl
theorem fO_17 : fO1 17 ty x vs i = if 0 ≤ ((vs.getD 1 []).getD i (nmF 0)) [] ∧ ((vs.getD 1 []).getD i (nmF 0)) [] ≤ 200 then .inr (mkF (List.replicate (((vs.getD 1 []).getD i (nmF 0)) []).toNat ((vs.getD 0 []).getD i (nmF 0)))) else .inl 5 := by
  rw [← gm vs i 0, ← gm vs i 1]
  unfold fO1 eO
  simp only
  rw [if_neg (by decide), if_neg (by decide), if_neg (by decide), if_neg (by decide), if_neg (by decide), if_neg (by decide), if_pos trivial, unw_if]
  rfl
theorem nu_nil {v : vaF} (h : 0 ≤ v []) : nuF v = [] ↔ v [] = 0 := by
  have e : (nuF v).length = (v []).toNat := by unfold nuF; rw [List.length_map, itF_l]
  constructor
  · intro q
    rw [q] at e
    simp only [List.length_nil] at e
    omega
  · intro q
    exact List.eq_nil_of_length_eq_zero (by omega)
theorem fO_gn {k : Int} (hk : k = 18 ∨ k = 19 ∨ k = 20 ∨ k = 21) (h0 : 0 ≤ ((vs.getD 0 []).getD i (nmF 0)) []) : fO1 k ty x vs i = if k = 21 then .inr (mkF ((scnF 0 (nuF ((vs.getD 0 []).getD i (nmF 0)))).map nmF)) else if (k = 19 ∨ k = 20) ∧ ((vs.getD 0 []).getD i (nmF 0)) [] = 0 then .inl 4 else .inr (nmF (gnF k (nuF ((vs.getD 0 []).getD i (nmF 0))))) := by
  have hn := nu_nil h0
  rw [← gm vs i 0] at hn ⊢
  rcases hk with e | e | e | e
  · subst e
    rw [if_neg (by decide), if_neg (fun w => absurd w.1 (by decide))]
    rfl
  · subst e
    rw [if_neg (by decide)]
    have h : fO1 19 ty x vs i = unw (match nuF ((vs.map (fun l => l.getD i (nmF 0))).getD 0 (nmF 0)) with
      | [] => .inl 4
      | y :: r => .inr (nmF (foF 19 y r), ((itF ((vs.map (fun l => l.getD i (nmF 0))).getD 0 (nmF 0))).length : Int))) := rfl
    rw [h]
    unfold gnF
    rw [if_pos (Or.inl rfl)]
    cases e2 : nuF ((vs.map (fun l => l.getD i (nmF 0))).getD 0 (nmF 0)) with
    | nil => rw [if_pos ⟨Or.inl rfl, hn.mp e2⟩]; rfl
    | cons y r =>
      rw [if_neg (fun w => by have := hn.mpr w.2; rw [e2] at this; cases this)]
      rfl
  · subst e
    rw [if_neg (by decide)]
    have h : fO1 20 ty x vs i = unw (match nuF ((vs.map (fun l => l.getD i (nmF 0))).getD 0 (nmF 0)) with
      | [] => .inl 4
      | y :: r => .inr (nmF (foF 20 y r), ((itF ((vs.map (fun l => l.getD i (nmF 0))).getD 0 (nmF 0))).length : Int))) := rfl
    rw [h]
    unfold gnF
    rw [if_pos (Or.inr rfl)]
    cases e2 : nuF ((vs.map (fun l => l.getD i (nmF 0))).getD 0 (nmF 0)) with
    | nil => rw [if_pos ⟨Or.inr rfl, hn.mp e2⟩]; rfl
    | cons y r =>
      rw [if_neg (fun w => by have := hn.mpr w.2; rw [e2] at this; cases this)]
      rfl
  · subst e
    rw [if_pos rfl]
    rfl
theorem fO_22 : fO1 22 ty x vs i = .inr (mkF (itF ((vs.getD 0 []).getD i (nmF 0))).reverse) := by
  rw [← gm vs i 0]
  rfl
theorem fO_23 : fO1 23 ty x vs i = if (itF ((vs.getD 0 []).getD i (nmF 0))).length + (itF ((vs.getD 1 []).getD i (nmF 0))).length ≤ 200 then .inr (mkF (itF ((vs.getD 0 []).getD i (nmF 0)) ++ itF ((vs.getD 1 []).getD i (nmF 0)))) else .inl 5 := by
  rw [← gm vs i 0, ← gm vs i 1]
  have h : fO1 23 ty x vs i = unw (if (itF ((vs.map (fun l => l.getD i (nmF 0))).getD 0 (nmF 0))).length + (itF ((vs.map (fun l => l.getD i (nmF 0))).getD 1 (nmF 0))).length ≤ 200 then .inr (mkF (itF ((vs.map (fun l => l.getD i (nmF 0))).getD 0 (nmF 0)) ++ itF ((vs.map (fun l => l.getD i (nmF 0))).getD 1 (nmF 0))), cnL (ty - 1).toNat (itF ((vs.map (fun l => l.getD i (nmF 0))).getD 0 (nmF 0)) ++ itF ((vs.map (fun l => l.getD i (nmF 0))).getD 1 (nmF 0)))) else .inl 5) := rfl
  rw [h, unw_if]
  rfl
theorem fO_24 : fO1 24 ty x vs i = if ((flF (itF ((vs.getD 0 []).getD i (nmF 0)))).length : Int) ≤ 200 then .inr (mkF (flF (itF ((vs.getD 0 []).getD i (nmF 0))))) else .inl 5 := by
  rw [← gm vs i 0, ← sumF_fl]
  have h : fO1 24 ty x vs i = unw (if sumF ((itF ((vs.map (fun l => l.getD i (nmF 0))).getD 0 (nmF 0))).map (fun v => ((itF v).length : Int))) ≤ 200 then .inr (mkF (flF (itF ((vs.map (fun l => l.getD i (nmF 0))).getD 0 (nmF 0)))), cnL (ty - 1).toNat (flF (itF ((vs.map (fun l => l.getD i (nmF 0))).getD 0 (nmF 0))))) else .inl 5) := rfl
  rw [h, unw_if]
  rfl
theorem fO_25 : fO1 25 ty x vs i = if (itF ((vs.getD 0 []).getD i (nmF 0))).length = (itF ((vs.getD 1 []).getD i (nmF 0))).length then .inr (mkF (pkF (itF ((vs.getD 0 []).getD i (nmF 0))) (nuF ((vs.getD 1 []).getD i (nmF 0))))) else .inl 3 := by
  rw [← gm vs i 0, ← gm vs i 1]
  have h : fO1 25 ty x vs i = unw (if (itF ((vs.map (fun l => l.getD i (nmF 0))).getD 0 (nmF 0))).length = (itF ((vs.map (fun l => l.getD i (nmF 0))).getD 1 (nmF 0))).length then .inr (mkF (pkF (itF ((vs.map (fun l => l.getD i (nmF 0))).getD 0 (nmF 0))) (nuF ((vs.map (fun l => l.getD i (nmF 0))).getD 1 (nmF 0)))), cnL (ty - 1).toNat (pkF (itF ((vs.map (fun l => l.getD i (nmF 0))).getD 0 (nmF 0))) (nuF ((vs.map (fun l => l.getD i (nmF 0))).getD 1 (nmF 0))))) else .inl 3) := rfl
  rw [h, unw_if]
  rfl
theorem fO_26 : fO1 26 ty x vs i = if (itF ((vs.getD 0 []).getD i (nmF 0))).length = (itF ((vs.getD 1 []).getD i (nmF 0))).length then (match ivF (itF ((vs.getD 1 []).getD i (nmF 0))).length 0 (nuF ((vs.getD 1 []).getD i (nmF 0))) (fun _ => -1) with
    | none => .inl 6
    | some g => .inr (mkF ((List.range (itF ((vs.getD 0 []).getD i (nmF 0))).length).map (fun j : Nat => (itF ((vs.getD 0 []).getD i (nmF 0))).getD (g j).toNat (nmF 0))))) else .inl 3 := by
  rw [← gm vs i 0, ← gm vs i 1]
  obtain ⟨a, ea⟩ : ∃ a, a = (vs.map (fun l => l.getD i (nmF 0))).getD 0 (nmF 0) := ⟨_, rfl⟩
  obtain ⟨b, eb⟩ : ∃ b, b = (vs.map (fun l => l.getD i (nmF 0))).getD 1 (nmF 0) := ⟨_, rfl⟩
  have h : fO1 26 ty x vs i = unw (if (itF ((vs.map (fun l => l.getD i (nmF 0))).getD 0 (nmF 0))).length = (itF ((vs.map (fun l => l.getD i (nmF 0))).getD 1 (nmF 0))).length then (match ivF (itF ((vs.map (fun l => l.getD i (nmF 0))).getD 1 (nmF 0))).length 0 (nuF ((vs.map (fun l => l.getD i (nmF 0))).getD 1 (nmF 0))) (fun _ => -1) with
    | none => .inl 6
    | some g => .inr (mkF ((List.range (itF ((vs.map (fun l => l.getD i (nmF 0))).getD 0 (nmF 0))).length).map (fun j : Nat => (itF ((vs.map (fun l => l.getD i (nmF 0))).getD 0 (nmF 0))).getD (g j).toNat (nmF 0))), cnL (ty - 1).toNat ((List.range (itF ((vs.map (fun l => l.getD i (nmF 0))).getD 0 (nmF 0))).length).map (fun j : Nat => (itF ((vs.map (fun l => l.getD i (nmF 0))).getD 0 (nmF 0))).getD (g j).toNat (nmF 0))))) else .inl 3) := rfl
  rw [h, unw_if, ← ea, ← eb]
  by_cases c : (itF a).length = (itF b).length
  · rw [if_pos c, if_pos c]
    cases ivF (itF b).length 0 (nuF b) (fun _ => -1) with
    | none => rfl
    | some g => rfl
  · rw [if_neg c, if_neg c]; rfl
theorem fO_27 : fO1 27 ty x vs i = if (nuF ((vs.getD 1 []).getD i (nmF 0))).any (fun x => decide (x < 0)) = true then .inl 5 else if sumF (nuF ((vs.getD 1 []).getD i (nmF 0))) = ((itF ((vs.getD 0 []).getD i (nmF 0))).length : Int) then .inr (mkF (ptF (itF ((vs.getD 0 []).getD i (nmF 0))) (nuF ((vs.getD 1 []).getD i (nmF 0))))) else .inl 3 := by
  rw [← gm vs i 0, ← gm vs i 1]
  have h : fO1 27 ty x vs i = unw (if (nuF ((vs.map (fun l => l.getD i (nmF 0))).getD 1 (nmF 0))).any (fun x => decide (x < 0)) = true then .inl 5 else if sumF (nuF ((vs.map (fun l => l.getD i (nmF 0))).getD 1 (nmF 0))) = ((itF ((vs.map (fun l => l.getD i (nmF 0))).getD 0 (nmF 0))).length : Int) then .inr (mkF (ptF (itF ((vs.map (fun l => l.getD i (nmF 0))).getD 0 (nmF 0))) (nuF ((vs.map (fun l => l.getD i (nmF 0))).getD 1 (nmF 0)))), cnL (ty - 1).toNat (ptF (itF ((vs.map (fun l => l.getD i (nmF 0))).getD 0 (nmF 0))) (nuF ((vs.map (fun l => l.getD i (nmF 0))).getD 1 (nmF 0))))) else .inl 3) := rfl
  rw [h, unw_if, unw_if]
  rfl
end FOK
/-- values that stand for lists of L lanes stand from b on -/
def vX (σ : sg_S) (L : Nat) (b : Int) (ty : List Int) (vs : List (List vaF)) : Prop := vs.length = ty.length ∧ ∀ (i : Nat) (x : Int), ty[i]? = some x → ∃ R, fX σ 6000 (sg_g σ 133 (b + i)) x.toNat (vs.getD i []) R ∧ (vs.getD i []).length = L
section FSX
variable {A : aT} {T : Int → Int} {ds : kD} {σ : sg_S}
theorem opX_K {σ σ' : sg_S} {K K' : Nat} {rs : List (Int ⊕ vaF)} {s : fSt} {q : Int} (h : opX σ σ' K rs s q) (e : K' = K) : opX σ σ' K' rs s q := by rw [e]; exact h
abbrev wkL : List Nat := [133, 135, 139, 140, 141, 142, 143, 144, 150, 74088, 85088, 86088, 88088, 92088, 94088, 103088, 104088]
set_option maxHeartbeats 4000000 in
theorem m_fWkX {n b : Int} {L : Nat} {vs : List (List vaF)} {s : fSt} {Q : Int → sg_S → Prop} (hn : 0 ≤ n ∧ n < 210) (w1 : nW A n) (t1 : sg_g σ 93 n = A.2.1 n) (t2 : sg_g σ 96 n = (A.2.2.2.2.1 n).length) (t3 : (A.2.2.2.2.1 n).length ≤ 200) (tw : sg_gl σ 95 n = A.2.2.2.1 n) (g : kTy A ds T [] n ((A.2.2.2.2.1 n).map T) = some (T n)) (hin : ∀ x ∈ A.2.2.2.2.1 n, kIn (T x)) (hk : ¬ A.2.1 n = 1 ∧ ¬ A.2.1 n = 2 ∧ ¬ A.2.1 n = 3 ∧ ¬ A.2.1 n = 13 ∧ ¬ A.2.1 n = 15) (h5 : vX σ L b ((A.2.2.2.2.1 n).map T) vs) (hb : 0 ≤ b) (h70 : sg_g σ 88 70 = b + (A.2.2.2.2.1 n).length) (h70' : sg_g σ 88 70 ≤ 6000) (hC : fC σ) (hs : fcX σ s) (hq : fqX σ 0) (hL : L ≤ 6000) (k : ∀ q σ', sg_R q → opX σ σ' (T n).toNat (fOl (A.2.1 n) (T n) (sg_n (A.2.2.2.1 n)) vs L) s q → (∀ x, x < sg_g σ 88 70 → sg_g σ' 133 x = sg_g σ 133 x) → sg_F wkL σ σ' → Q q σ') : V_flatWorked σ n b (L : Int) (fun q σ' => sg_R q → sg_F wkL σ σ' → Q q σ') := by
  have done : ∀ (l : List Nat) (q : Int) (σ' : sg_S), sg_ca l 133 = true → sg_F l σ σ' → opX σ σ' (T n).toNat (fOl (A.2.1 n) (T n) (sg_n (A.2.2.2.1 n)) vs L) s q → sg_R q → sg_F wkL σ σ' → Q q σ' := fun l q σ' hl F h r f => k q σ' r h (fun x _ => sg_F_ga F hl) f
  have tin : ∀ (i : Nat) (x : Int), ((A.2.2.2.2.1 n).map T)[i]? = some x → kIn x := fun i x hx => by
    obtain ⟨y, hy, e⟩ := List.mem_map.mp (List.mem_of_getElem? hx)
    rw [← e]; exact hin y hy
  have l0 : ((A.2.2.2.2.1 n).map T).length = (A.2.2.2.2.1 n).length := by simp
  obtain ⟨ty, ety⟩ : ∃ ty, ty = (A.2.2.2.2.1 n).map T := ⟨_, rfl⟩
  rw [← ety] at g h5 tin l0
  obtain ⟨hvl, h5⟩ := h5
  have hgt : ∀ j, 0 ≤ ty.getD j 0 ∧ ty.getD j 0 ≤ 3 := fun j => by
    rw [List.getD_eq_getElem?_getD]
    cases e : ty[j]? with
    | none => simp
    | some y => exact tin j y e
  have g0 := hgt 0
  have g1 := hgt 1
  have a1 : 1 ≤ ty.length → ∃ R, fX σ 6000 (sg_g σ 133 b) (ty.getD 0 0).toNat (vs.getD 0 []) R ∧ (vs.getD 0 []).length = L := fun h => by
    obtain ⟨x, hx⟩ : ∃ x, ty[0]? = some x := ⟨_, List.getElem?_eq_getElem (by omega)⟩
    have u := h5 0 x hx
    rw [show b + ((0 : Nat) : Int) = b by omega] at u
    rw [List.getD_eq_getElem?_getD (l := ty), hx]
    exact u
  have a2 : 2 ≤ ty.length → ∃ R, fX σ 6000 (sg_g σ 133 (b + 1)) (ty.getD 1 0).toNat (vs.getD 1 []) R ∧ (vs.getD 1 []).length = L := fun h => by
    obtain ⟨x, hx⟩ : ∃ x, ty[1]? = some x := ⟨_, List.getElem?_eq_getElem (by omega)⟩
    have u := h5 1 x hx
    rw [List.getD_eq_getElem?_getD (l := ty), hx]
    exact u
  have act : 16 ≤ A.2.1 n → kAct (A.2.1 n) ty = some (T n) := fun h => by rw [← kTy_act h]; exact g
  obtain ⟨A0, hA0⟩ : ∃ A0, A0 = ty.getD 0 0 := ⟨_, rfl⟩
  obtain ⟨B0, hB0⟩ : ∃ B0, B0 = ty.getD 1 0 := ⟨_, rfl⟩
  rw [← hA0] at a1 g0
  rw [← hB0] at a2 g1
  simp only [kAct, ← hA0, ← hB0] at act
  unfold fOl at k done
  obtain ⟨ff, eff⟩ : ∃ ff, ff = fO1 (A.2.1 n) (T n) (sg_n (A.2.2.2.1 n)) vs := ⟨_, rfl⟩
  rw [← eff] at k done
  unfold V_flatWorked
  rw [t1]
  refine ⟨⟨by omega, by omega⟩, ⟨by omega, by omega⟩, ⟨by omega, by omega⟩, hn, fun z => ?_, fun z0 => ⟨fun z => ?_, fun z11 => ⟨fun z => ?_, fun z12 => ⟨fun z => ?_, fun z14 => ⟨fun z => ?_, fun z16 => ⟨fun z => ?_, fun z17 => ⟨fun z => ?_, fun z18 => ⟨fun z => ?_, fun z19 => ⟨fun z => ?_, fun z20 => ⟨fun z => ?_, fun z21 => ⟨fun z => ?_, fun z22 => ⟨fun z => ?_, fun z23 => ⟨fun z => ?_, fun z24 => ⟨fun z => ?_, fun z25 => ⟨fun z => ?_, fun z26 => ⟨fun z => ?_, fun z27 => ?_⟩⟩⟩⟩⟩⟩⟩⟩⟩⟩⟩⟩⟩⟩⟩⟩
  · rw [kTy_0 z, Option.some.injEq] at g
    refine m_f0X (f := ff) hC hs hL hn hq (fun i hi => ?_) (fun q σ' h F r f => done _ q σ' rfl F (opX_K h (by omega)) r f)
    rw [eff, z, tw]; rfl
  · rw [kTy_11 z, ← hA0] at g
    obtain ⟨e1, e2, e3⟩ := kIs_in g
    obtain ⟨R, u, ul⟩ := a1 (by have := w1.2.2.2.2.1 z; omega)
    simp only [Bool.and_eq_true, decide_eq_true_eq] at e3
    have u' := u
    rw [show A0.toNat = (A0.toNat - 1) + 1 by omega] at u'
    obtain ⟨r, r', Ra, er, er1, er2, er3, er4, -⟩ := fX_s u'
    refine m_f11X (f := ff) hC hs u ul hq (fun i hi => ?_) (fun q σ' h F r f => done _ q σ' rfl F (opX_K h (by omega)) r f)
    rw [eff, z, fO_11, it_len (er4 i (by omega)).2.1]
  · rw [kTy_12 z, ← hA0, ← hB0] at g
    obtain ⟨e1, e2, e3⟩ := kIs_in g
    simp only [Bool.and_eq_true, decide_eq_true_eq] at e3
    have l2 := w1.2.2.1 (Or.inr (Or.inr z))
    obtain ⟨R, u, ul⟩ := a1 (by omega)
    obtain ⟨R', v, vl⟩ := a2 (by omega)
    rw [show A0.toNat = (T n).toNat + 1 by omega] at u
    unfold V_flatWorked_12
    exact m_fIndexX (f := ff) hC hs u v ul vl hq (fun i hi => by rw [eff, z]; exact fO_12) (fun q σ' h _ F r f => done _ q σ' rfl F h r f)
  · rw [kTy_14 z, ← hA0] at g
    obtain ⟨e1, e2, e3⟩ := kIs_in g
    rw [List.all_eq_true] at e3
    have m1 := w1.2.2.2.2.2.1 z
    unfold V_flatWorked_14
    refine m_fRowX (f := ff) (m := (A.2.2.2.2.1 n).length) (d := A0.toNat) (vs := vs) hC hs hn ⟨m1, t3⟩ (by omega) t2 ⟨hb, by omega⟩ (fun k' hk' => ?_) (by omega) hq (fun i hi => by rw [eff, z]; exact fO_14) (fun q σ' h _ F r f => done _ q σ' rfl F (opX_K h (by omega)) r f)
    obtain ⟨x, hx⟩ : ∃ x, ty[k']? = some x := ⟨_, List.getElem?_eq_getElem (by omega)⟩
    have u := h5 k' x hx
    have := e3 x (List.mem_of_getElem? hx)
    rw [decide_eq_true_eq] at this
    rwa [this] at u
  · have c := act (by omega)
    simp only [z] at c
    obtain ⟨e1, e2, e3⟩ := kIs_in c
    simp only [Bool.and_eq_true, decide_eq_true_eq] at e3
    obtain ⟨R, u, ul⟩ := a1 (by omega)
    unfold V_flatWorked_16
    exact m_fIotaX (f := ff) hC hs u ul hq (fun i hi => by rw [eff, z]; exact fO_16) (fun q σ' h _ F r f => done _ q σ' rfl F (opX_K h (by omega)) r f)
  · have c := act (by omega)
    simp only [z] at c
    obtain ⟨e1, e2, e3⟩ := kIs_in c
    simp only [Bool.and_eq_true, decide_eq_true_eq] at e3
    obtain ⟨R, u, ul⟩ := a1 (by omega)
    obtain ⟨R', v, vl⟩ := a2 (by omega)
    unfold V_flatWorked_17
    exact m_fDistX (f := ff) hC hs u (by omega) v ul vl hq (fun i hi => by rw [eff, z]; exact fO_17) (fun q σ' h _ F r f => done _ q σ' rfl F (opX_K h (by omega)) r f)
  · have c := act (by omega)
    simp only [z] at c
    obtain ⟨e1, e2, e3⟩ := kIs_in c
    simp only [Bool.and_eq_true, decide_eq_true_eq] at e3
    obtain ⟨R, u, ul⟩ := a1 (by omega)
    rw [show A0.toNat = 1 by omega] at u
    obtain ⟨r, r', Ra, er, er1, er2, er3, er4, -⟩ := fX_s (d := 0) u
    unfold V_flatWorked_18
    refine m_fGoneX (f := ff) hC hs hn u ul hq (fun i hi => by rw [eff, t1]; exact fO_gn (by omega) (er4 i (by omega)).2.1) (fun q σ' h _ F r f => done _ q σ' rfl F ?_ r f)
    rw [if_neg (by omega)] at h
    exact opX_K h (by omega)
  · have c := act (by omega)
    simp only [z] at c
    obtain ⟨e1, e2, e3⟩ := kIs_in c
    simp only [Bool.and_eq_true, decide_eq_true_eq] at e3
    obtain ⟨R, u, ul⟩ := a1 (by omega)
    rw [show A0.toNat = 1 by omega] at u
    obtain ⟨r, r', Ra, er, er1, er2, er3, er4, -⟩ := fX_s (d := 0) u
    unfold V_flatWorked_18
    refine m_fGoneX (f := ff) hC hs hn u ul hq (fun i hi => by rw [eff, t1]; exact fO_gn (by omega) (er4 i (by omega)).2.1) (fun q σ' h _ F r f => done _ q σ' rfl F ?_ r f)
    rw [if_neg (by omega)] at h
    exact opX_K h (by omega)
  · have c := act (by omega)
    simp only [z] at c
    obtain ⟨e1, e2, e3⟩ := kIs_in c
    simp only [Bool.and_eq_true, decide_eq_true_eq] at e3
    obtain ⟨R, u, ul⟩ := a1 (by omega)
    rw [show A0.toNat = 1 by omega] at u
    obtain ⟨r, r', Ra, er, er1, er2, er3, er4, -⟩ := fX_s (d := 0) u
    unfold V_flatWorked_18
    refine m_fGoneX (f := ff) hC hs hn u ul hq (fun i hi => by rw [eff, t1]; exact fO_gn (by omega) (er4 i (by omega)).2.1) (fun q σ' h _ F r f => done _ q σ' rfl F ?_ r f)
    rw [if_neg (by omega)] at h
    exact opX_K h (by omega)
  · have c := act (by omega)
    simp only [z] at c
    obtain ⟨e1, e2, e3⟩ := kIs_in c
    simp only [Bool.and_eq_true, decide_eq_true_eq] at e3
    obtain ⟨R, u, ul⟩ := a1 (by omega)
    rw [show A0.toNat = 1 by omega] at u
    obtain ⟨r, r', Ra, er, er1, er2, er3, er4, -⟩ := fX_s (d := 0) u
    unfold V_flatWorked_18
    refine m_fGoneX (f := ff) hC hs hn u ul hq (fun i hi => by rw [eff, t1]; exact fO_gn (by omega) (er4 i (by omega)).2.1) (fun q σ' h _ F r f => done _ q σ' rfl F ?_ r f)
    rw [if_pos (by omega)] at h
    exact opX_K h (by omega)
  · have c := act (by omega)
    simp only [z] at c
    obtain ⟨e1, e2, e3⟩ := kIs_in c
    simp only [Bool.and_eq_true, decide_eq_true_eq] at e3
    obtain ⟨R, u, ul⟩ := a1 (by omega)
    rw [show A0.toNat = (A0.toNat - 1) + 1 by omega] at u
    unfold V_flatWorked_22
    exact m_fRevX (f := ff) hC hs u ul hq (fun i hi => by rw [eff, z]; exact fO_22) (fun q σ' h _ F r f => done _ q σ' rfl F (opX_K h (by omega)) r f)
  · have c := act (by omega)
    simp only [z] at c
    obtain ⟨e1, e2, e3⟩ := kIs_in c
    simp only [Bool.and_eq_true, decide_eq_true_eq] at e3
    obtain ⟨R, u, ul⟩ := a1 (by omega)
    obtain ⟨R', v, vl⟩ := a2 (by omega)
    rw [show A0.toNat = (A0.toNat - 1) + 1 by omega] at u
    rw [show B0.toNat = (A0.toNat - 1) + 1 by omega] at v
    unfold V_flatWorked_23
    exact m_fCatX (f := ff) hC hs u v ul vl ⟨by omega, by omega⟩ hq (fun i hi => by rw [eff, z]; exact fO_23) (fun q σ' h hx _ F r f => k q σ' r (opX_K h (by omega)) hx f)
  · have c := act (by omega)
    simp only [z] at c
    obtain ⟨e1, e2, e3⟩ := kIs_in c
    simp only [Bool.and_eq_true, decide_eq_true_eq] at e3
    obtain ⟨R, u, ul⟩ := a1 (by omega)
    rw [show A0.toNat = (A0.toNat - 2) + 2 by omega] at u
    unfold V_flatWorked_24
    exact m_fFlatX (f := ff) hC hs u ul hq (fun i hi => by rw [eff, z]; exact fO_24) (fun q σ' h _ F r f => done _ q σ' rfl F (opX_K h (by omega)) r f)
  · have c := act (by omega)
    simp only [z] at c
    obtain ⟨e1, e2, e3⟩ := kIs_in c
    simp only [Bool.and_eq_true, decide_eq_true_eq] at e3
    obtain ⟨R, u, ul⟩ := a1 (by omega)
    obtain ⟨R', v, vl⟩ := a2 (by omega)
    rw [show A0.toNat = (A0.toNat - 1) + 1 by omega] at u
    rw [show B0.toNat = 1 by omega] at v
    unfold V_flatWorked_25
    exact m_fChosenX (f := ff) hC hs hn u v ul vl hq (fun _ i hi => by rw [eff, z]; exact fO_25) (fun w => absurd (t1.trans z) w) (fun q σ' h _ F r f => done _ q σ' rfl F (opX_K h (by omega)) r f)
  · have c := act (by omega)
    simp only [z] at c
    obtain ⟨e1, e2, e3⟩ := kIs_in c
    simp only [Bool.and_eq_true, decide_eq_true_eq] at e3
    obtain ⟨R, u, ul⟩ := a1 (by omega)
    obtain ⟨R', v, vl⟩ := a2 (by omega)
    rw [show A0.toNat = (A0.toNat - 1) + 1 by omega] at u
    rw [show B0.toNat = 1 by omega] at v
    unfold V_flatWorked_25
    exact m_fChosenX (f := ff) hC hs hn u v ul vl hq (fun w => absurd (w.symm.trans (t1.trans z)) (by decide)) (fun _ i hi => by rw [eff, z]; exact fO_26) (fun q σ' h _ F r f => done _ q σ' rfl F (opX_K h (by omega)) r f)
  · have c := act (by omega)
    simp only [z] at c
    obtain ⟨e1, e2, e3⟩ := kIs_in c
    simp only [Bool.and_eq_true, decide_eq_true_eq] at e3
    obtain ⟨R, u, ul⟩ := a1 (by omega)
    obtain ⟨R', v, vl⟩ := a2 (by omega)
    rw [show A0.toNat = (A0.toNat - 1) + 1 by omega] at u
    rw [show B0.toNat = 1 by omega] at v
    unfold V_flatWorked_27
    exact m_fPartX (f := ff) hC hs u (by omega) v ul vl hq (fun i hi => by rw [eff, z]; exact fO_27) (fun q σ' h _ F r f => done _ q σ' rfl F (opX_K h (by omega)) r f)
  · have w0 := w1.1
    have kk : 4 ≤ A.2.1 n ∧ A.2.1 n < 11 := by omega
    rw [kTy_op kk, ← hA0, ← hB0] at g
    obtain ⟨e1, e2, e3⟩ := kIs_in g
    have l2 := w1.2.2.1 (Or.inr (Or.inl ⟨kk.1, by omega⟩))
    obtain ⟨R, u, ul⟩ := a1 (by omega)
    obtain ⟨R', v, vl⟩ := a2 (by omega)
    exact m_fdX (f := ff) hC hs hn u v ul vl hq (fun i hi => by rw [eff, t1]; exact fO_op kk) (fun q σ' h F r f => done _ q σ' rfl F (opX_K h (by omega)) r f)
end FSX
