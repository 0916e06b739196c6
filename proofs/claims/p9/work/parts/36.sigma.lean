/-! STATES: the cells have a fixed shape; what they hold is a function of the cell and the place. Numbers are told as whole numbers; what the machine has is their rest by 32 (64) bits. -/
abbrev sg_S : Type := (Nat → Int → Int32) × (Nat → Int → Int64)
abbrev sg_Sh : Type := (Nat × Nat) ⊕ (Nat × List Value)
def sg_i (z : Int) : Int32 := Int32.ofInt z
def sg_l (z : Int) : Int64 := Int64.ofInt z
abbrev sg_R (z : Int) : Prop := -2147483648 ≤ z ∧ z ≤ 2147483647
abbrev sg_RL (z : Int) : Prop := -9223372036854775808 ≤ z ∧ z ≤ 9223372036854775807
def sg_n (z : Int) : Int := (sg_i z).toInt
def sg_nl (z : Int) : Int := (sg_l z).toInt
def sg_g (σ : sg_S) (a : Nat) (k : Int) : Int := (σ.1 a k).toInt
def sg_gl (σ : sg_S) (a : Nat) (k : Int) : Int := (σ.2 a k).toInt
def sg_w (σ : sg_S) (a : Nat) (k : Int) (z : Int) : sg_S := (fun c j => if c = a ∧ j = k then sg_i z else σ.1 c j, σ.2)
def sg_wl (σ : sg_S) (a : Nat) (k : Int) (z : Int) : sg_S := (σ.1, fun c j => if c = a ∧ j = k then sg_l z else σ.2 c j)
theorem sg_Rr (x : Int32) : sg_R x.toInt := ⟨by have := Int32.le_toInt x; omega, by have := Int32.toInt_lt x; omega⟩
theorem sg_RLr (x : Int64) : sg_RL x.toInt := ⟨by have := Int64.le_toInt x; omega, by have := Int64.toInt_lt x; omega⟩
theorem sg_Rg (σ : sg_S) (a : Nat) (k : Int) : sg_R (sg_g σ a k) := sg_Rr _
theorem sg_Rgl (σ : sg_S) (a : Nat) (k : Int) : sg_RL (sg_gl σ a k) := sg_RLr _
theorem sg_Rn (z : Int) : sg_R (sg_n z) := sg_Rr _
theorem sg_Rnl (z : Int) : sg_RL (sg_nl z) := sg_RLr _
theorem sg_id {z : Int} (h : sg_R z) : sg_n z = z := by
  obtain ⟨h1, h2⟩ := h
  unfold sg_n sg_i
  exact Int32.toInt_ofInt_of_le (by omega) (by omega)
theorem sg_idl {z : Int} (h : sg_RL z) : sg_nl z = z := by
  obtain ⟨h1, h2⟩ := h
  unfold sg_nl sg_l
  exact Int64.toInt_ofInt_of_le (by omega) (by omega)
theorem sg_in (z : Int) : sg_i (sg_n z) = sg_i z := by
  unfold sg_n
  exact Int32.ofInt_toInt _
theorem sg_lnl (z : Int) : sg_l (sg_nl z) = sg_l z := by
  unfold sg_nl
  exact Int64.ofInt_toInt _
theorem sg_ig (σ : sg_S) (a : Nat) (k : Int) : sg_i (sg_g σ a k) = σ.1 a k := Int32.ofInt_toInt _
theorem sg_lg (σ : sg_S) (a : Nat) (k : Int) : sg_l (sg_gl σ a k) = σ.2 a k := Int64.ofInt_toInt _
theorem sg_gw (σ : sg_S) (a b : Nat) (k j z : Int) : sg_g (sg_w σ a k z) b j = if b = a ∧ j = k then sg_n z else sg_g σ b j := by
  unfold sg_g sg_w sg_n
  by_cases h : b = a ∧ j = k
  · simp only [h, and_self, if_true]
  · simp only [h, if_false]
theorem sg_gwl (σ : sg_S) (a b : Nat) (k j z : Int) : sg_gl (sg_wl σ a k z) b j = if b = a ∧ j = k then sg_nl z else sg_gl σ b j := by
  unfold sg_gl sg_wl sg_nl
  by_cases h : b = a ∧ j = k
  · simp only [h, and_self, if_true]
  · simp only [h, if_false]
theorem sg_gw' (σ : sg_S) (a b : Nat) (k j z : Int) : sg_gl (sg_w σ a k z) b j = sg_gl σ b j := rfl
theorem sg_gwl' (σ : sg_S) (a b : Nat) (k j z : Int) : sg_g (sg_wl σ a k z) b j = sg_g σ b j := rfl
theorem sg_gw_c (σ : sg_S) (a b : Nat) (k j z : Int) (h : b ≠ a) : sg_g (sg_w σ a k z) b j = sg_g σ b j := by rw [sg_gw, if_neg (fun q => h q.1)]
theorem sg_gw_k (σ : sg_S) (a b : Nat) (k j z : Int) (h : j ≠ k) : sg_g (sg_w σ a k z) b j = sg_g σ b j := by rw [sg_gw, if_neg (fun q => h q.2)]
theorem sg_gw_e (σ : sg_S) (a : Nat) (k z : Int) (h : sg_R z) : sg_g (sg_w σ a k z) a k = z := by rw [sg_gw, if_pos ⟨rfl, rfl⟩, sg_id h]
theorem sg_gwl_c (σ : sg_S) (a b : Nat) (k j z : Int) (h : b ≠ a) : sg_gl (sg_wl σ a k z) b j = sg_gl σ b j := by rw [sg_gwl, if_neg (fun q => h q.1)]
theorem sg_gwl_k (σ : sg_S) (a b : Nat) (k j z : Int) (h : j ≠ k) : sg_gl (sg_wl σ a k z) b j = sg_gl σ b j := by rw [sg_gwl, if_neg (fun q => h q.2)]
theorem sg_gwl_e (σ : sg_S) (a : Nat) (k z : Int) (h : sg_RL z) : sg_gl (sg_wl σ a k z) a k = z := by rw [sg_gwl, if_pos ⟨rfl, rfl⟩, sg_idl h]
/-! THE CELLS OF A STATE -/
def sg_fd (σ : sg_S) (a k : Nat) (v : Value) : Value := match v with
  | .int _ => .int (σ.1 a (k : Int))
  | .long _ => .long (σ.2 a (k : Int))
  | v => v
def sg_cell (σ : sg_S) (a : Nat) (s : sg_Sh) : am_C := match s with
  | .inl (t, n) => if t = 2 then .inr (.inl (n, fun i => σ.2 a (i : Int))) else .inl (t, n, fun i => σ.1 a (i : Int))
  | .inr (ci, tp) => .inr (.inr (ci, tp.mapIdx (fun k v => sg_fd σ a k v)))
def sg_H (Sh : List sg_Sh) (σ : sg_S) : am_H := Sh.mapIdx (fun a s => sg_cell σ a s)
def sg_sh : List sg_Sh → Nat → Option sg_Sh
  | [], _ => none
  | x :: _, 0 => some x
  | _ :: r, n + 1 => sg_sh r n
theorem sg_sh_eq : ∀ (Sh : List sg_Sh) (a : Nat), sg_sh Sh a = Sh[a]?
  | [], _ => by simp [sg_sh]
  | _ :: _, 0 => by simp [sg_sh]
  | _ :: r, n + 1 => by simp [sg_sh, sg_sh_eq r n]
theorem sg_at {Sh : List sg_Sh} {σ : sg_S} {a : Nat} {s : sg_Sh} (h : sg_sh Sh a = some s) : (sg_H Sh σ)[a]? = some (sg_cell σ a s) := by
  rw [sg_sh_eq] at h
  unfold sg_H
  rw [List.getElem?_mapIdx, h]
  rfl
theorem sg_len (Sh : List sg_Sh) (σ : sg_S) : (sg_H Sh σ).length = Sh.length := by
  unfold sg_H
  rw [List.length_mapIdx]
theorem sg_set {Sh : List sg_Sh} {σ σ' : sg_S} {a : Nat} {s : sg_Sh} {x : am_C} (h : sg_sh Sh a = some s) (hx : x = sg_cell σ' a s) (ho : ∀ c s', c ≠ a → sg_cell σ' c s' = sg_cell σ c s') : (sg_H Sh σ).set a x = sg_H Sh σ' := by
  apply List.ext_getElem?
  intro c
  have hl : a < (sg_H Sh σ).length := by rw [sg_len]; rw [sg_sh_eq] at h; exact (List.getElem?_eq_some_iff.mp h).1
  by_cases e : c = a
  · subst e
    rw [List.getElem?_set_self hl, sg_at h, hx]
  · rw [List.getElem?_set_ne (Ne.symm e)]
    cases hs : Sh[c]? with
    | none =>
      have h1 : (sg_H Sh σ)[c]? = none := by rw [List.getElem?_eq_none_iff, sg_len]; exact List.getElem?_eq_none_iff.mp hs
      have h2 : (sg_H Sh σ')[c]? = none := by rw [List.getElem?_eq_none_iff, sg_len]; exact List.getElem?_eq_none_iff.mp hs
      rw [h1, h2]
    | some s' => rw [sg_at ((sg_sh_eq Sh c).trans hs), sg_at ((sg_sh_eq Sh c).trans hs), ho c s' e]
theorem sg_cell_w (σ : sg_S) (a : Nat) (k z : Int) (c : Nat) (s : sg_Sh) (h : c ≠ a) : sg_cell (sg_w σ a k z) c s = sg_cell σ c s := by
  have e1 : (sg_w σ a k z).1 c = σ.1 c := by funext j; simp only [sg_w]; rw [if_neg (fun q => h q.1)]
  have e2 : (sg_w σ a k z).2 = σ.2 := rfl
  rcases s with ⟨t, n⟩ | ⟨ci, tp⟩
  · simp only [sg_cell, e1, e2]
  · simp only [sg_cell]
    congr 4
    funext j v
    cases v <;> simp only [sg_fd, e1, e2]
theorem sg_cell_wl (σ : sg_S) (a : Nat) (k z : Int) (c : Nat) (s : sg_Sh) (h : c ≠ a) : sg_cell (sg_wl σ a k z) c s = sg_cell σ c s := by
  have e1 : (sg_wl σ a k z).2 c = σ.2 c := by funext j; simp only [sg_wl]; rw [if_neg (fun q => h q.1)]
  have e2 : (sg_wl σ a k z).1 = σ.1 := rfl
  rcases s with ⟨t, n⟩ | ⟨ci, tp⟩
  · simp only [sg_cell, e1, e2]
  · simp only [sg_cell]
    congr 4
    funext j v
    cases v <;> simp only [sg_fd, e1, e2]
theorem sg_row (σ : sg_S) (a k : Nat) (z : Int) : (fun i : Nat => (sg_w σ a (k : Int) z).1 a (i : Int)) = upd (fun i : Nat => σ.1 a (i : Int)) k (sg_i z) := by
  funext j
  simp only [sg_w, upd]
  by_cases h : j = k
  · subst h
    simp
  · have h' : ¬ ((j : Int) = (k : Int)) := by omega
    simp [h, h']
theorem sg_rowl (σ : sg_S) (a k : Nat) (z : Int) : (fun i : Nat => (sg_wl σ a (k : Int) z).2 a (i : Int)) = vp_updL (fun i : Nat => σ.2 a (i : Int)) k (sg_l z) := by
  funext j
  simp only [sg_wl, vp_updL]
  by_cases h : j = k
  · subst h
    simp
  · have h' : ¬ ((j : Int) = (k : Int)) := by omega
    simp [h, h']
theorem sg_setI {Sh : List sg_Sh} {σ : sg_S} {a t n k : Nat} {z : Int} (h : sg_sh Sh a = some (.inl (t, n))) (ht : ¬ t = 2) : (sg_H Sh σ).set a (.inl (t, n, upd (fun i : Nat => σ.1 a (i : Int)) k (sg_i z))) = sg_H Sh (sg_w σ a (k : Int) z) :=
  sg_set h (by simp only [sg_cell, if_neg ht, sg_row]) (fun c s' e => sg_cell_w σ a k z c s' e)
theorem sg_setL {Sh : List sg_Sh} {σ : sg_S} {a n k : Nat} {z : Int} (h : sg_sh Sh a = some (.inl (2, n))) : (sg_H Sh σ).set a (.inr (.inl (n, vp_updL (fun i : Nat => σ.2 a (i : Int)) k (sg_l z)))) = sg_H Sh (sg_wl σ a (k : Int) z) :=
  sg_set h (by simp only [sg_cell, if_true, sg_rowl]) (fun c s' e => sg_cell_wl σ a k z c s' e)
theorem sg_setF {Sh : List sg_Sh} {σ : sg_S} {a ci k : Nat} {tp : List Value} {z : Int} {y : Int32} (h : sg_sh Sh a = some (.inr (ci, tp))) (hk : tp[k]? = some (.int y)) : (sg_H Sh σ).set a (.inr (.inr (ci, (tp.mapIdx (fun k v => sg_fd σ a k v)).set k (.int (sg_i z))))) = sg_H Sh (sg_w σ a (k : Int) z) := by
  refine sg_set h ?_ (fun c s' e => sg_cell_w σ a k z c s' e)
  simp only [sg_cell]
  congr 3
  apply List.ext_getElem?
  intro j
  have hl : k < tp.length := (List.getElem?_eq_some_iff.mp hk).1
  by_cases e : j = k
  · subst e
    rw [List.getElem?_set_self (by rw [List.length_mapIdx]; exact hl), List.getElem?_mapIdx, hk]
    simp [sg_fd, sg_w]
  · rw [List.getElem?_set_ne (Ne.symm e), List.getElem?_mapIdx, List.getElem?_mapIdx]
    have h' : ¬ ((j : Int) = (k : Int)) := by omega
    cases tp[j]? with
    | none => rfl
    | some v => cases v <;> simp [sg_fd, sg_w, h']
theorem sg_setFl {Sh : List sg_Sh} {σ : sg_S} {a ci k : Nat} {tp : List Value} {z : Int} {y : Int64} (h : sg_sh Sh a = some (.inr (ci, tp))) (hk : tp[k]? = some (.long y)) : (sg_H Sh σ).set a (.inr (.inr (ci, (tp.mapIdx (fun k v => sg_fd σ a k v)).set k (.long (sg_l z))))) = sg_H Sh (sg_wl σ a (k : Int) z) := by
  refine sg_set h ?_ (fun c s' e => sg_cell_wl σ a k z c s' e)
  simp only [sg_cell]
  congr 3
  apply List.ext_getElem?
  intro j
  have hl : k < tp.length := (List.getElem?_eq_some_iff.mp hk).1
  by_cases e : j = k
  · subst e
    rw [List.getElem?_set_self (by rw [List.length_mapIdx]; exact hl), List.getElem?_mapIdx, hk]
    simp [sg_fd, sg_wl]
  · rw [List.getElem?_set_ne (Ne.symm e), List.getElem?_mapIdx, List.getElem?_mapIdx]
    have h' : ¬ ((j : Int) = (k : Int)) := by omega
    cases tp[j]? with
    | none => rfl
    | some v => cases v <;> simp [sg_fd, sg_wl, h']
