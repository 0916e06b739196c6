/-! Flat values of the reference stand for lists of values. -/
def fX (σ : sg_S) (M v : Int) (d : Nat) (l : List vaF) (R : List (Int × Int)) : Prop := fV σ M v R ∧ R.length = d + 1 ∧ okF d l ∧ ∀ j : Nat, j ≤ d → ((lvl j l).length : Int) = (R.getD j (0, 0)).2 ∧ ∀ (i : Nat) (x : Int), (lvl j l)[i]? = some x → sg_g σ 142 ((R.getD j (0, 0)).1 + i) = x
theorem sumF_t : ∀ (c : List Int) (i : Nat) (x : Int), c[i]? = some x → sumF (c.take (i + 1)) = sumF (c.take i) + x
  | [], i, x, h => by cases h
  | y :: r, 0, x, h => by
    cases h
    simp [sumF]
  | y :: r, i + 1, x, h => by
    rw [List.getElem?_cons_succ] at h
    simp only [List.take_succ_cons, sumF]
    rw [sumF_t r i x h]
    omega
theorem cs_sum {σ : sg_S} {p : Int} {c : List Int} (h : ∀ (i : Nat) (x : Int), c[i]? = some x → sg_g σ 142 (p + i) = x) : ∀ i : Nat, i ≤ c.length → cs σ p i = sumF (c.take i)
  | 0, _ => by simp [cs, sumF]
  | i + 1, hi => by
    obtain ⟨x, hx⟩ : ∃ x, c[i]? = some x := ⟨_, List.getElem?_eq_getElem (by omega)⟩
    simp only [cs]
    rw [cs_sum h i (by omega), h i x hx, sumF_t c i x hx]
theorem bgF_le (j : Nat) (l : List vaF) (i : Nat) : bgF j l i ≤ (lvl j l).length := by
  have e : lvl j l = lvl j (l.take i) ++ lvl j (l.drop i) := by rw [← lvl_a, List.take_append_drop]
  unfold bgF
  rw [e, List.length_append]
  omega
section FXS
variable {σ : sg_S} {M v : Int} {d : Nat} {l : List vaF} {R : List (Int × Int)}
theorem fX_n (h : fX σ M v d l R) : (R.getD 0 (0, 0)).2 = l.length := by
  have := (h.2.2.2 0 (Nat.zero_le _)).1
  simp only [lvl, List.length_map] at this
  exact this.symm
theorem bg_X (h : fX σ M v d l R) : ∀ j : Nat, j ≤ d → ∀ i : Nat, i ≤ l.length → bg σ R j i = bgF j l i
  | 0, _, i, hi => by rw [bgF_0 l i hi]; rfl
  | j + 1, hj, i, hi => by
    have ih := bg_X h j (by omega) i hi
    obtain ⟨-, -, hok, hr⟩ := h
    simp only [bg]
    rw [ih, Int.toNat_natCast, cs_sum (hr j (by omega)).2 _ (bgF_le j l i), bgF_s i (by omega) hok]
/-- the lanes that are listed -/
def sel (σ : sg_S) (l : List vaF) (j : Nat) : vaF := if sg_g σ 143 j < 0 then nmF 0 else l.getD (sg_g σ 143 j).toNat (nmF 0)
theorem lvl_z : ∀ j : Nat, lvl j [nmF 0] = if j = 0 then [0] else []
  | 0 => rfl
  | j + 1 => by
    have e : itF (nmF 0) = [] := by simp [itF, nmF]
    simp only [lvl, flF_1, e]
    rw [lvl_0, if_neg (by omega)]
theorem gC1_F (h : fX σ M v d l R) {lv j : Nat} (hlv : lv ≤ d) (hj : sg_g σ 143 j < l.length) : gC1 σ R lv j = lvl lv [sel σ l j] := by
  unfold gC1 sel
  by_cases c : sg_g σ 143 j < 0
  · rw [if_pos c, if_pos c, lvl_z]
  · rw [if_neg c, if_neg c]
    obtain ⟨k, ek⟩ : ∃ k : Nat, sg_g σ 143 j = k := ⟨(sg_g σ 143 j).toNat, by omega⟩
    have hk : k < l.length := by omega
    have hx : l[k]? = some l[k] := List.getElem?_eq_getElem hk
    rw [ek, Int.toNat_natCast, List.getD_eq_getElem?_getD, hx, Option.getD_some]
    obtain ⟨b1, b2⟩ := bgF_i lv l k l[k] hx
    have g1 := bg_X h lv hlv k (by omega)
    have g2 := bg_X h lv hlv (k + 1) (by omega)
    have e : (gd σ R lv j).toNat = (lvl lv [l[k]]).length := by
      unfold gd
      rw [if_neg c, ek, g1, show ((k : Int) + 1) = ((k + 1 : Nat) : Int) by omega, g2, b1]
      omega
    rw [e]
    have hr := (h.2.2.2 lv hlv).2
    apply List.ext_getElem?
    intro i
    unfold gCt
    rw [List.getElem?_map]
    rcases Nat.lt_or_ge i (lvl lv [l[k]]).length with q | q
    · rw [List.getElem?_range q, Option.map_some, g1]
      have y : (lvl lv l)[bgF lv l k + i]? = (lvl lv [l[k]])[i]? := by
        have := congrArg (fun c : List Int => c[i]?) b2
        rw [List.getElem?_take, if_pos q, List.getElem?_drop] at this
        exact this
      rw [List.getElem?_eq_getElem q] at y ⊢
      have z := hr _ _ y
      rw [← z, show (R.getD lv (0, 0)).1 + ((bgF lv l k : Nat) : Int) + (i : Int) = (R.getD lv (0, 0)).1 + ((bgF lv l k + i : Nat) : Int) by omega]
    · rw [List.getElem?_eq_none (by rw [List.length_range]; exact q), List.getElem?_eq_none q]
      rfl
theorem gCl_F (h : fX σ M v d l R) {lv : Nat} (hlv : lv ≤ d) : ∀ J : Nat, (∀ j : Nat, j < J → sg_g σ 143 j < l.length) → gCl σ R lv J = lvl lv ((List.range J).map (sel σ l))
  | 0, _ => (lvl_0 lv).symm
  | J + 1, hj => by
    simp only [gCl]
    rw [gCl_F h hlv J (fun j x => hj j (by omega)), gC1_F h hlv (hj J (by omega)), List.range_succ, List.map_append, lvl_a]
    rfl
end FXS
