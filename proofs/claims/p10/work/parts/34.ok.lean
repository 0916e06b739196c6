theorem am_lay_good {C : String} {F : u_T} {N : Nat} {w : Cond} (h : w ∈ u_ws C F N) : goodWord w = true := by
  obtain ⟨k, -, rfl⟩ := List.mem_map.mp h
  unfold u_lay
  split <;> rfl
theorem am_inl_0 : ∀ w ∈ u_ws RX0 TX0 14, w ∈ am_Tc0.flatten := by
  intro w hw
  rw [wsX0_at] at hw
  obtain ⟨i, -, hi⟩ := List.mem_filterMap.mp hw
  exact am_at_mem hi
theorem am_inl_1 : ∀ w ∈ u_ws RX1 TX1 9, w ∈ am_Tc0.flatten := by
  intro w hw
  rw [wsX1_at] at hw
  obtain ⟨i, -, hi⟩ := List.mem_filterMap.mp hw
  exact am_at_mem hi
theorem am_inl_2 : ∀ w ∈ u_ws RX2 TX2 25, w ∈ am_Tc0.flatten := by
  intro w hw
  rw [wsX2_at] at hw
  obtain ⟨i, -, hi⟩ := List.mem_filterMap.mp hw
  exact am_at_mem hi
theorem am_inl_3 : ∀ w ∈ u_ws RX3 TX3 6, w ∈ am_Tc0.flatten := by
  intro w hw
  rw [wsX3_at] at hw
  obtain ⟨i, -, hi⟩ := List.mem_filterMap.mp hw
  exact am_at_mem hi
theorem am_inl_4 : ∀ w ∈ u_ws RX4 TX4 19, w ∈ am_Tc0.flatten := by
  intro w hw
  rw [wsX4_at] at hw
  obtain ⟨i, -, hi⟩ := List.mem_filterMap.mp hw
  exact am_at_mem hi
theorem am_inl_5 : ∀ w ∈ u_ws RX6 TX6 24, w ∈ am_Tc0.flatten := by
  intro w hw
  rw [wsX6_at] at hw
  obtain ⟨i, -, hi⟩ := List.mem_filterMap.mp hw
  exact am_at_mem hi
theorem am_inl_6 : ∀ w ∈ u_ws RX7 TX7 5, w ∈ am_Tc0.flatten := by
  intro w hw
  rw [wsX7_at] at hw
  obtain ⟨i, -, hi⟩ := List.mem_filterMap.mp hw
  exact am_at_mem hi
theorem am_inl_7 : ∀ w ∈ u_ws RX8 TX8 7, w ∈ am_Tc0.flatten := by
  intro w hw
  rw [wsX8_at] at hw
  obtain ⟨i, -, hi⟩ := List.mem_filterMap.mp hw
  exact am_at_mem hi
theorem am_inl_8 : ∀ w ∈ u_ws RX9 TX9 8, w ∈ am_Tc0.flatten := by
  intro w hw
  rw [wsX9_at] at hw
  obtain ⟨i, -, hi⟩ := List.mem_filterMap.mp hw
  exact am_at_mem hi
theorem am_inl_9 : ∀ w ∈ u_ws RX10 TX10 17, w ∈ am_Tc0.flatten := by
  intro w hw
  rw [wsX10_at] at hw
  obtain ⟨i, -, hi⟩ := List.mem_filterMap.mp hw
  exact am_at_mem hi
theorem am_inl_10 : ∀ w ∈ u_ws RX11 TX11 13, w ∈ am_Tc0.flatten := by
  intro w hw
  rw [wsX11_at] at hw
  obtain ⟨i, -, hi⟩ := List.mem_filterMap.mp hw
  exact am_at_mem hi
theorem am_inl_11 : ∀ w ∈ u_ws RX12 TX12 106, w ∈ am_Tc0.flatten := by
  intro w hw
  rw [wsX12_at] at hw
  obtain ⟨i, -, hi⟩ := List.mem_filterMap.mp hw
  exact am_at_mem hi
theorem am_CL0 (z : Value) (sc : Option (Nat × (Nat → Int32))) : am_CL am_G0 am_cls0 (am_E0 z sc).1 := by
  intro ci C F N h
  match ci, h with
  | 0, h =>
    cases h
    refine ⟨fun w hw => am_gin (am_inl_0 w hw) (am_lay_good hw), ⟨tyX0, tyX0_ok, fun fs hfs => ?_⟩, nmX0⟩
    cases hfs
    exact ⟨rfl, by decide +kernel, fun b sa => rfl⟩
  | 1, h =>
    cases h
    refine ⟨fun w hw => am_gin (am_inl_1 w hw) (am_lay_good hw), ⟨tyX1, tyX1_ok, fun fs hfs => ?_⟩, nmX1⟩
    cases hfs
    exact ⟨rfl, by decide +kernel, fun b sa => rfl⟩
  | 2, h =>
    cases h
    refine ⟨fun w hw => am_gin (am_inl_2 w hw) (am_lay_good hw), ⟨tyX2, tyX2_ok, fun fs hfs => ?_⟩, nmX2⟩
    cases hfs
    exact ⟨rfl, by decide +kernel, fun b sa => rfl⟩
  | 3, h =>
    cases h
    refine ⟨fun w hw => am_gin (am_inl_3 w hw) (am_lay_good hw), ⟨tyX3, tyX3_ok, fun fs hfs => ?_⟩, nmX3⟩
    cases hfs
    exact ⟨rfl, by decide +kernel, fun b sa => rfl⟩
  | 4, h =>
    cases h
    refine ⟨fun w hw => am_gin (am_inl_4 w hw) (am_lay_good hw), ⟨tyX4, tyX4_ok, fun fs hfs => ?_⟩, nmX4⟩
    cases hfs
    exact ⟨rfl, by decide +kernel, fun b sa => rfl⟩
  | 5, h =>
    cases h
    refine ⟨fun w hw => am_gin (am_inl_5 w hw) (am_lay_good hw), ⟨tyX6, tyX6_ok, fun fs hfs => ?_⟩, nmX6⟩
    cases hfs
    exact ⟨rfl, by decide +kernel, fun b sa => rfl⟩
  | 6, h =>
    cases h
    refine ⟨fun w hw => am_gin (am_inl_6 w hw) (am_lay_good hw), ⟨tyX7, tyX7_ok, fun fs hfs => ?_⟩, nmX7⟩
    cases hfs
    exact ⟨rfl, by decide +kernel, fun b sa => rfl⟩
  | 7, h =>
    cases h
    refine ⟨fun w hw => am_gin (am_inl_7 w hw) (am_lay_good hw), ⟨tyX8, tyX8_ok, fun fs hfs => ?_⟩, nmX8⟩
    cases hfs
    exact ⟨rfl, by decide +kernel, fun b sa => rfl⟩
  | 8, h =>
    cases h
    refine ⟨fun w hw => am_gin (am_inl_8 w hw) (am_lay_good hw), ⟨tyX9, tyX9_ok, fun fs hfs => ?_⟩, nmX9⟩
    cases hfs
    exact ⟨rfl, by decide +kernel, fun b sa => rfl⟩
  | 9, h =>
    cases h
    refine ⟨fun w hw => am_gin (am_inl_9 w hw) (am_lay_good hw), ⟨tyX10, tyX10_ok, fun fs hfs => ?_⟩, nmX10⟩
    cases hfs
    exact ⟨rfl, by decide +kernel, fun b sa => rfl⟩
  | 10, h =>
    cases h
    refine ⟨fun w hw => am_gin (am_inl_10 w hw) (am_lay_good hw), ⟨tyX11, tyX11_ok, fun fs hfs => ?_⟩, nmX11⟩
    cases hfs
    exact ⟨rfl, by decide +kernel, fun b sa => rfl⟩
  | 11, h =>
    cases h
    refine ⟨fun w hw => am_gin (am_inl_11 w hw) (am_lay_good hw), ⟨tyX12, tyX12_ok, fun fs hfs => ?_⟩, nmX12⟩
    cases hfs
    exact ⟨rfl, by decide +kernel, fun b sa => rfl⟩
  | k + 12, h => simp [am_cls0] at h
theorem am_OK0 (z : Value) (sc : Option (Nat × (Nat → Int32))) : am_OK (am_E0 z sc) am_T0 am_cls0 am_Tc0 am_G0 am_Ns0 am_Rs0 am_Zs0 := by
  refine ⟨fun w h g => am_gin h g, fun w h => (List.mem_filter.mp h).2, by decide +kernel, am_CL0 z sc, by decide, ⟨am_gin (am_at_mem (p := 3098) rfl) rfl, am_gin (am_at_mem (p := 3099) rfl) rfl⟩, ?_, ?_⟩
  · intro j M hj hM
    match j, hM with
    | 0, _ => exact absurd hj (Nat.lt_irrefl 0)
    | k + 1, hM => exact am_TB_w M (List.mem_of_getElem? (show am_TB[k]? = some M from hM))
  · intro j M hM q hq
    match j, hM with
    | 0, hM => cases hM; exact List.all_eq_true.mp tk_0 q hq
    | k + 1, hM => exact am_TB_q M (List.mem_of_getElem? (show am_TB[k]? = some M from hM)) q hq
/-! STATES: the cells have a fixed shape; what they hold is a function of the cell and the place. Numbers are told as whole numbers; what the machine has is their rest by 32 (64) bits. -/
abbrev sg_S : Type := (Nat → Int → Int32) × (Nat → Int → Int64)
abbrev sg_Sh : Type := (Nat × Nat) ⊕ (Nat × List Value)
def sg_i (z : Int) : Int32 := Int32.ofInt z
def sg_l (z : Int) : Int64 := Int64.ofInt z
abbrev sg_R (z : Int) : Prop := -2147483648 ≤ z ∧ z ≤ 2147483647
abbrev sg_RL (z : Int) : Prop := -9223372036854775808 ≤ z ∧ z ≤ 9223372036854775807
def sg_n (z : Int) : Int := (sg_i z).toInt
def sg_nl (z : Int) : Int := (sg_l z).toInt
def sg_g (σ : sg_S) (a : Nat) (k : Int) : Int := (σ.1 a k).toInt
def sg_gl (σ : sg_S) (a : Nat) (k : Int) : Int := (σ.2 a k).toInt
def sg_w (σ : sg_S) (a : Nat) (k : Int) (z : Int) : sg_S := (fun c j => if c = a ∧ j = k then sg_i z else σ.1 c j, σ.2)
def sg_wl (σ : sg_S) (a : Nat) (k : Int) (z : Int) : sg_S := (σ.1, fun c j => if c = a ∧ j = k then sg_l z else σ.2 c j)
theorem sg_Rr (x : Int32) : sg_R x.toInt := ⟨by have := Int32.le_toInt x; omega, by have := Int32.toInt_lt x; omega⟩
theorem sg_RLr (x : Int64) : sg_RL x.toInt := ⟨by have := Int64.le_toInt x; omega, by have := Int64.toInt_lt x; omega⟩
theorem sg_Rg (σ : sg_S) (a : Nat) (k : Int) : sg_R (sg_g σ a k) := sg_Rr _
theorem sg_Rgl (σ : sg_S) (a : Nat) (k : Int) : sg_RL (sg_gl σ a k) := sg_RLr _
theorem sg_Rn (z : Int) : sg_R (sg_n z) := sg_Rr _
theorem sg_Rnl (z : Int) : sg_RL (sg_nl z) := sg_RLr _
theorem sg_id {z : Int} (h : sg_R z) : sg_n z = z := by
  obtain ⟨h1, h2⟩ := h
  unfold sg_n sg_i
  exact Int32.toInt_ofInt_of_le (by omega) (by omega)
theorem sg_idl {z : Int} (h : sg_RL z) : sg_nl z = z := by
  obtain ⟨h1, h2⟩ := h
  unfold sg_nl sg_l
  exact Int64.toInt_ofInt_of_le (by omega) (by omega)
theorem sg_in (z : Int) : sg_i (sg_n z) = sg_i z := by
  unfold sg_n
  exact Int32.ofInt_toInt _
theorem sg_lnl (z : Int) : sg_l (sg_nl z) = sg_l z := by
  unfold sg_nl
  exact Int64.ofInt_toInt _
theorem sg_ig (σ : sg_S) (a : Nat) (k : Int) : sg_i (sg_g σ a k) = σ.1 a k := Int32.ofInt_toInt _
theorem sg_lg (σ : sg_S) (a : Nat) (k : Int) : sg_l (sg_gl σ a k) = σ.2 a k := Int64.ofInt_toInt _
theorem sg_gw (σ : sg_S) (a b : Nat) (k j z : Int) : sg_g (sg_w σ a k z) b j = if b = a ∧ j = k then sg_n z else sg_g σ b j := by
  unfold sg_g sg_w sg_n
  by_cases h : b = a ∧ j = k
  · simp only [h, and_self, if_true]
  · simp only [h, if_false]
theorem sg_gwl (σ : sg_S) (a b : Nat) (k j z : Int) : sg_gl (sg_wl σ a k z) b j = if b = a ∧ j = k then sg_nl z else sg_gl σ b j := by
  unfold sg_gl sg_wl sg_nl
  by_cases h : b = a ∧ j = k
  · simp only [h, and_self, if_true]
  · simp only [h, if_false]
theorem sg_gw' (σ : sg_S) (a b : Nat) (k j z : Int) : sg_gl (sg_w σ a k z) b j = sg_gl σ b j := rfl
theorem sg_gwl' (σ : sg_S) (a b : Nat) (k j z : Int) : sg_g (sg_wl σ a k z) b j = sg_g σ b j := rfl
theorem sg_gw_c (σ : sg_S) (a b : Nat) (k j z : Int) (h : b ≠ a) : sg_g (sg_w σ a k z) b j = sg_g σ b j := by rw [sg_gw, if_neg (fun q => h q.1)]
theorem sg_gw_k (σ : sg_S) (a b : Nat) (k j z : Int) (h : j ≠ k) : sg_g (sg_w σ a k z) b j = sg_g σ b j := by rw [sg_gw, if_neg (fun q => h q.2)]
theorem sg_gw_e (σ : sg_S) (a : Nat) (k z : Int) (h : sg_R z) : sg_g (sg_w σ a k z) a k = z := by rw [sg_gw, if_pos ⟨rfl, rfl⟩, sg_id h]
theorem sg_gwl_c (σ : sg_S) (a b : Nat) (k j z : Int) (h : b ≠ a) : sg_gl (sg_wl σ a k z) b j = sg_gl σ b j := by rw [sg_gwl, if_neg (fun q => h q.1)]
theorem sg_gwl_k (σ : sg_S) (a b : Nat) (k j z : Int) (h : j ≠ k) : sg_gl (sg_wl σ a k z) b j = sg_gl σ b j := by rw [sg_gwl, if_neg (fun q => h q.2)]
theorem sg_gwl_e (σ : sg_S) (a : Nat) (k z : Int) (h : sg_RL z) : sg_gl (sg_wl σ a k z) a k = z := by rw [sg_gwl, if_pos ⟨rfl, rfl⟩, sg_idl h]
/-! THE CELLS OF A STATE -/
def sg_fd (σ : sg_S) (a k : Nat) (v : Value) : Value := match v with
  | .int _ => .int (σ.1 a (k : Int))
  | .long _ => .long (σ.2 a (k : Int))
  | v => v
def sg_cell (σ : sg_S) (a : Nat) (s : sg_Sh) : am_C := match s with
  | .inl (t, n) => if t = 2 then .inr (.inl (n, fun i => σ.2 a (i : Int))) else .inl (t, n, fun i => σ.1 a (i : Int))
  | .inr (ci, tp) => .inr (.inr (ci, tp.mapIdx (fun k v => sg_fd σ a k v)))
def sg_H (Sh : List sg_Sh) (σ : sg_S) : am_H := Sh.mapIdx (fun a s => sg_cell σ a s)
def sg_sh : List sg_Sh → Nat → Option sg_Sh
  | [], _ => none
  | x :: _, 0 => some x
  | _ :: r, n + 1 => sg_sh r n
theorem sg_sh_eq : ∀ (Sh : List sg_Sh) (a : Nat), sg_sh Sh a = Sh[a]?
  | [], _ => by simp [sg_sh]
  | _ :: _, 0 => by simp [sg_sh]
  | _ :: r, n + 1 => by simp [sg_sh, sg_sh_eq r n]
theorem sg_at {Sh : List sg_Sh} {σ : sg_S} {a : Nat} {s : sg_Sh} (h : sg_sh Sh a = some s) : (sg_H Sh σ)[a]? = some (sg_cell σ a s) := by
  rw [sg_sh_eq] at h
  unfold sg_H
  rw [List.getElem?_mapIdx, h]
  rfl
theorem sg_len (Sh : List sg_Sh) (σ : sg_S) : (sg_H Sh σ).length = Sh.length := by
  unfold sg_H
  rw [List.length_mapIdx]
theorem sg_set {Sh : List sg_Sh} {σ σ' : sg_S} {a : Nat} {s : sg_Sh} {x : am_C} (h : sg_sh Sh a = some s) (hx : x = sg_cell σ' a s) (ho : ∀ c s', c ≠ a → sg_cell σ' c s' = sg_cell σ c s') : (sg_H Sh σ).set a x = sg_H Sh σ' := by
  apply List.ext_getElem?
  intro c
  have hl : a < (sg_H Sh σ).length := by rw [sg_len]; rw [sg_sh_eq] at h; exact (List.getElem?_eq_some_iff.mp h).1
  by_cases e : c = a
  · subst e
    rw [List.getElem?_set_self hl, sg_at h, hx]
  · rw [List.getElem?_set_ne (Ne.symm e)]
    cases hs : Sh[c]? with
    | none =>
      have h1 : (sg_H Sh σ)[c]? = none := by rw [List.getElem?_eq_none_iff, sg_len]; exact List.getElem?_eq_none_iff.mp hs
      have h2 : (sg_H Sh σ')[c]? = none := by rw [List.getElem?_eq_none_iff, sg_len]; exact List.getElem?_eq_none_iff.mp hs
      rw [h1, h2]
    | some s' => rw [sg_at ((sg_sh_eq Sh c).trans hs), sg_at ((sg_sh_eq Sh c).trans hs), ho c s' e]
theorem sg_cell_w (σ : sg_S) (a : Nat) (k z : Int) (c : Nat) (s : sg_Sh) (h : c ≠ a) : sg_cell (sg_w σ a k z) c s = sg_cell σ c s := by
  have e1 : (sg_w σ a k z).1 c = σ.1 c := by funext j; simp only [sg_w]; rw [if_neg (fun q => h q.1)]
  have e2 : (sg_w σ a k z).2 = σ.2 := rfl
  rcases s with ⟨t, n⟩ | ⟨ci, tp⟩
  · simp only [sg_cell, e1, e2]
  · simp only [sg_cell]
    congr 4
    funext j v
    cases v <;> simp only [sg_fd, e1, e2]
theorem sg_cell_wl (σ : sg_S) (a : Nat) (k z : Int) (c : Nat) (s : sg_Sh) (h : c ≠ a) : sg_cell (sg_wl σ a k z) c s = sg_cell σ c s := by
  have e1 : (sg_wl σ a k z).2 c = σ.2 c := by funext j; simp only [sg_wl]; rw [if_neg (fun q => h q.1)]
  have e2 : (sg_wl σ a k z).1 = σ.1 := rfl
  rcases s with ⟨t, n⟩ | ⟨ci, tp⟩
  · simp only [sg_cell, e1, e2]
  · simp only [sg_cell]
    congr 4
    funext j v
    cases v <;> simp only [sg_fd, e1, e2]
theorem sg_row (σ : sg_S) (a k : Nat) (z : Int) : (fun i : Nat => (sg_w σ a (k : Int) z).1 a (i : Int)) = upd (fun i : Nat => σ.1 a (i : Int)) k (sg_i z) := by
  funext j
  simp only [sg_w, upd]
  by_cases h : j = k
  · subst h
    simp
  · have h' : ¬ ((j : Int) = (k : Int)) := by omega
    simp [h, h']
theorem sg_rowl (σ : sg_S) (a k : Nat) (z : Int) : (fun i : Nat => (sg_wl σ a (k : Int) z).2 a (i : Int)) = vp_updL (fun i : Nat => σ.2 a (i : Int)) k (sg_l z) := by
  funext j
  simp only [sg_wl, vp_updL]
  by_cases h : j = k
  · subst h
    simp
  · have h' : ¬ ((j : Int) = (k : Int)) := by omega
    simp [h, h']
theorem sg_setI {Sh : List sg_Sh} {σ : sg_S} {a t n k : Nat} {z : Int} (h : sg_sh Sh a = some (.inl (t, n))) (ht : ¬ t = 2) : (sg_H Sh σ).set a (.inl (t, n, upd (fun i : Nat => σ.1 a (i : Int)) k (sg_i z))) = sg_H Sh (sg_w σ a (k : Int) z) :=
  sg_set h (by simp only [sg_cell, if_neg ht, sg_row]) (fun c s' e => sg_cell_w σ a k z c s' e)
theorem sg_setL {Sh : List sg_Sh} {σ : sg_S} {a n k : Nat} {z : Int} (h : sg_sh Sh a = some (.inl (2, n))) : (sg_H Sh σ).set a (.inr (.inl (n, vp_updL (fun i : Nat => σ.2 a (i : Int)) k (sg_l z)))) = sg_H Sh (sg_wl σ a (k : Int) z) :=
  sg_set h (by simp only [sg_cell, if_true, sg_rowl]) (fun c s' e => sg_cell_wl σ a k z c s' e)
theorem sg_setF {Sh : List sg_Sh} {σ : sg_S} {a ci k : Nat} {tp : List Value} {z : Int} {y : Int32} (h : sg_sh Sh a = some (.inr (ci, tp))) (hk : tp[k]? = some (.int y)) : (sg_H Sh σ).set a (.inr (.inr (ci, (tp.mapIdx (fun k v => sg_fd σ a k v)).set k (.int (sg_i z))))) = sg_H Sh (sg_w σ a (k : Int) z) := by
  refine sg_set h ?_ (fun c s' e => sg_cell_w σ a k z c s' e)
  simp only [sg_cell]
  congr 3
  apply List.ext_getElem?
  intro j
  have hl : k < tp.length := (List.getElem?_eq_some_iff.mp hk).1
  by_cases e : j = k
  · subst e
    rw [List.getElem?_set_self (by rw [List.length_mapIdx]; exact hl), List.getElem?_mapIdx, hk]
    simp [sg_fd, sg_w]
  · rw [List.getElem?_set_ne (Ne.symm e), List.getElem?_mapIdx, List.getElem?_mapIdx]
    have h' : ¬ ((j : Int) = (k : Int)) := by omega
    cases tp[j]? with
    | none => rfl
    | some v => cases v <;> simp [sg_fd, sg_w, h']
theorem sg_setFl {Sh : List sg_Sh} {σ : sg_S} {a ci k : Nat} {tp : List Value} {z : Int} {y : Int64} (h : sg_sh Sh a = some (.inr (ci, tp))) (hk : tp[k]? = some (.long y)) : (sg_H Sh σ).set a (.inr (.inr (ci, (tp.mapIdx (fun k v => sg_fd σ a k v)).set k (.long (sg_l z))))) = sg_H Sh (sg_wl σ a (k : Int) z) := by
  refine sg_set h ?_ (fun c s' e => sg_cell_wl σ a k z c s' e)
  simp only [sg_cell]
  congr 3
  apply List.ext_getElem?
  intro j
  have hl : k < tp.length := (List.getElem?_eq_some_iff.mp hk).1
  by_cases e : j = k
  · subst e
    rw [List.getElem?_set_self (by rw [List.length_mapIdx]; exact hl), List.getElem?_mapIdx, hk]
    simp [sg_fd, sg_wl]
  · rw [List.getElem?_set_ne (Ne.symm e), List.getElem?_mapIdx, List.getElem?_mapIdx]
    have h' : ¬ ((j : Int) = (k : Int)) := by omega
    cases tp[j]? with
    | none => rfl
    | some v => cases v <;> simp [sg_fd, sg_wl, h']
/-! STRAIGHT CODE over states: numbers as whole numbers, references as they are. -/
abbrev bm_V : Type := Int ⊕ Int ⊕ Value
abbrev bm_L : Type := List (Nat × bm_V)
abbrev bm_R : Type := Option (Nat × bm_L × List bm_V × sg_S)
def bm_v : bm_V → Value
  | .inl z => .int (sg_i z)
  | .inr (.inl z) => .long (sg_l z)
  | .inr (.inr v) => v
def bm_ls (ls : bm_L) : am_L := ls.map (fun q => (q.1, bm_v q.2))
def bm_st (st : List bm_V) : List Value := st.map bm_v
def bm_get : bm_L → Nat → Option bm_V
  | [], _ => none
  | q :: r, i => if q.1 = i then some q.2 else bm_get r i
def bm_cat : bm_V → Nat
  | .inl _ => 1
  | .inr (.inl _) => 2
  | .inr (.inr v) => v.category
def bm_put1 (ls : bm_L) (i : Nat) (v : bm_V) : bm_L := (i, v) :: ls.filter (fun q => !(q.1 == i) && !(q.1 + 1 == i && bm_cat q.2 == 2))
def bm_put2 (ls : bm_L) (i : Nat) (v : bm_V) : bm_L := (i, v) :: ls.filter (fun q => !(q.1 == i) && (!(q.1 == i + 1) && !(q.1 + 1 == i && bm_cat q.2 == 2)))
theorem bm_cat_eq (v : bm_V) : bm_cat v = (bm_v v).category := by
  rcases v with z | z | v <;> rfl
theorem bm_get_eq : ∀ (ls : bm_L) (i : Nat), am_get (bm_ls ls) i = (bm_get ls i).map bm_v
  | [], _ => rfl
  | q :: r, i => by
    have ih := bm_get_eq r i
    unfold bm_ls at ih ⊢
    simp only [List.map_cons, am_get, bm_get]
    split
    · rfl
    · exact ih
theorem bm_put1_eq (ls : bm_L) (i : Nat) (v : bm_V) : bm_ls (bm_put1 ls i v) = am_put1 (bm_ls ls) i (bm_v v) := by
  unfold bm_ls bm_put1 am_put1
  simp only [List.map_cons, List.filter_map]
  congr 3
  funext q
  simp only [Function.comp, bm_cat_eq]
theorem bm_put2_eq (ls : bm_L) (i : Nat) (v : bm_V) : bm_ls (bm_put2 ls i v) = am_put2 (bm_ls ls) i (bm_v v) := by
  unfold bm_ls bm_put2 am_put2
  simp only [List.map_cons, List.filter_map]
  congr 3
  funext q
  simp only [Function.comp, bm_cat_eq]
def bm_isI : bm_V → Bool
  | .inl _ => true
  | _ => false
def bm_isL : bm_V → Bool
  | .inr (.inl _) => true
  | _ => false
def bm_isA : bm_V → Bool
  | .inr (.inr v) => am_isA v
  | _ => false
def bm_ld (np : Nat) (t : bm_V → Bool) (ls : bm_L) (i : Nat) (st : List bm_V) (σ : sg_S) : bm_R := match bm_get ls i with
  | some v => if t v = true then some (np, ls, v :: st, σ) else none
  | none => none
def bm_st1 (np : Nat) (t : bm_V → Bool) (ls : bm_L) (i : Nat) (st : List bm_V) (σ : sg_S) : bm_R := match st with
  | v :: r => if t v = true then some (np, bm_put1 ls i v, r, σ) else none
  | [] => none
def bm_st2 (np : Nat) (ls : bm_L) (i : Nat) (st : List bm_V) (σ : sg_S) : bm_R := match st with
  | v :: r => if bm_isL v = true then some (np, bm_put2 ls i v, r, σ) else none
  | [] => none
def bm_i2 (np : Nat) (ls : bm_L) (f : Int → Int → Int) (st : List bm_V) (σ : sg_S) : bm_R := match st with
  | .inl y :: .inl x :: r => some (np, ls, .inl (f x y) :: r, σ)
  | _ => none
def bm_l2 (np : Nat) (ls : bm_L) (f : Int → Int → Int) (st : List bm_V) (σ : sg_S) : bm_R := match st with
  | .inr (.inl y) :: .inr (.inl x) :: r => some (np, ls, .inr (.inl (f x y)) :: r, σ)
  | _ => none
def bm_s2 (np : Nat) (ls : bm_L) (f : Int → Int → Int) (st : List bm_V) (σ : sg_S) : bm_R := match st with
  | .inl y :: .inr (.inl x) :: r => some (np, ls, .inr (.inl (f x y)) :: r, σ)
  | _ => none
def bm_i1 (np : Nat) (ls : bm_L) (f : Int → Int) (st : List bm_V) (σ : sg_S) : bm_R := match st with
  | .inl x :: r => some (np, ls, .inl (f x) :: r, σ)
  | _ => none
def bm_l1 (np : Nat) (ls : bm_L) (f : Int → Int) (st : List bm_V) (σ : sg_S) : bm_R := match st with
  | .inr (.inl x) :: r => some (np, ls, .inr (.inl (f x)) :: r, σ)
  | _ => none
def bm_il (np : Nat) (ls : bm_L) (st : List bm_V) (σ : sg_S) : bm_R := match st with
  | .inl x :: r => some (np, ls, .inr (.inl (sg_n x)) :: r, σ)
  | _ => none
def bm_li (np : Nat) (ls : bm_L) (st : List bm_V) (σ : sg_S) : bm_R := match st with
  | .inr (.inl x) :: r => some (np, ls, .inl x :: r, σ)
  | _ => none
def bm_lc (x y : Int) : Int := if sg_nl y < sg_nl x then 1 else if sg_nl x = sg_nl y then 0 else -1
def bm_c2 (np : Nat) (ls : bm_L) (st : List bm_V) (σ : sg_S) : bm_R := match st with
  | .inr (.inl y) :: .inr (.inl x) :: r => some (np, ls, .inl (bm_lc x y) :: r, σ)
  | _ => none
def bm_inc (np : Nat) (ls : bm_L) (i : Nat) (n : Int) (st : List bm_V) (σ : sg_S) : bm_R := match bm_get ls i with
  | some (.inl x) => some (np, bm_put1 ls i (.inl (x + n)), st, σ)
  | _ => none
def bm_dup (np : Nat) (ls : bm_L) (st : List bm_V) (σ : sg_S) : bm_R := match st with
  | a :: r => if bm_cat a = 1 then some (np, ls, a :: a :: r, σ) else none
  | [] => none
def bm_pop (np : Nat) (ls : bm_L) (st : List bm_V) (σ : sg_S) : bm_R := match st with
  | a :: r => if bm_cat a = 1 then some (np, ls, r, σ) else none
  | [] => none
def bm_pop2 (np : Nat) (ls : bm_L) (st : List bm_V) (σ : sg_S) : bm_R := match st with
  | a :: r => if bm_cat a = 2 then some (np, ls, r, σ) else none
  | [] => none
def bm_dupx1 (np : Nat) (ls : bm_L) (st : List bm_V) (σ : sg_S) : bm_R := match st with
  | a :: b :: r => if bm_cat a = 1 ∧ bm_cat b = 1 then some (np, ls, a :: b :: a :: r, σ) else none
  | _ => none
def bm_dupx2 (np : Nat) (ls : bm_L) (st : List bm_V) (σ : sg_S) : bm_R := match st with
  | a :: b :: c :: r => if bm_cat a = 1 ∧ bm_cat b = 1 ∧ bm_cat c = 1 then some (np, ls, a :: b :: c :: a :: r, σ) else none
  | _ => none
def bm_dup2 (np : Nat) (ls : bm_L) (st : List bm_V) (σ : sg_S) : bm_R := match st with
  | a :: b :: r => if bm_cat a = 1 ∧ bm_cat b = 1 then some (np, ls, a :: b :: a :: b :: r, σ) else none
  | _ => none
def bm_jp (pc : Nat) (ls : bm_L) (off : Int) (st : List bm_V) (σ : sg_S) : bm_R := if 0 ≤ (pc : Int) + off then some (((pc : Int) + off).toNat, ls, st, σ) else none
def bm_ldc (E : am_E) (pc : Nat) (num : Int) (lk : am_K) (ls : bm_L) (st : List bm_V) (σ : sg_S) : bm_R := match lk with
  | (0, _) :: _ => some (pc + 2, ls, .inl num :: st, σ)
  | (1, _) :: _ => if num.toNat < E.2.1.length ∧ num.toNat < 1000 then some (pc + 2, ls, .inr (.inr (.retAddr num.toNat)) :: st, σ) else none
  | _ => none
def bm_alen (E : am_E) (Sh : List sg_Sh) (np : Nat) (ls : bm_L) (st : List bm_V) (σ : sg_S) : bm_R := match st with
  | .inr (.inr (.ref a)) :: r => match sg_sh Sh a with
    | some (.inl (t, n)) => if t < 4 then some (np, ls, .inl (n : Int) :: r, σ) else none
    | _ => none
  | .inr (.inr (.retAddr k)) :: r => if k = 9999 then none else if k < 1000 then none else match E.2.1[k - 1000]? with
    | some bs => some (np, ls, .inl (bs.length : Int) :: r, σ)
    | none => none
  | _ => none
def bm_rf (σ : sg_S) (a k : Nat) (v : Value) : bm_V := match v with
  | .int _ => .inl (sg_g σ a (k : Int))
  | .long _ => .inr (.inl (sg_gl σ a (k : Int)))
  | v => .inr (.inr v)
def bm_gf (E : am_E) (Sh : List sg_Sh) (np : Nat) (lk : am_K) (ls : bm_L) (st : List bm_V) (σ : sg_S) : bm_R := match st with
  | .inr (.inr (.ref a)) :: r => match sg_sh Sh a with
    | some (.inr (ci, tp)) => match am_key lk ci with
      | some (k :: _) => match tp[k]? with
        | some w => some (np, ls, bm_rf σ a k w :: r, σ)
        | none => none
      | _ => none
    | _ => none
  | .inr (.inr (.retAddr k)) :: r => if k < E.2.1.length ∧ k < 1000 then match am_key lk 1000 with
      | some (0 :: _) => some (np, ls, .inl 0 :: r, σ)
      | some (1 :: _) => some (np, ls, .inr (.inr (.retAddr (1000 + k))) :: r, σ)
      | _ => none
    else none
  | _ => none
def bm_pfv (tag : Nat) (v : bm_V) (w : Value) (σ : sg_S) (a : Nat) (k : Int) : Option sg_S := match tag, v, w with
  | 0, .inl z, .int _ => some (sg_w σ a k z)
  | 1, .inl z, .int _ => if z = 0 ∨ z = 1 then some (sg_w σ a k z) else none
  | 2, .inr (.inl z), .long _ => some (sg_wl σ a k z)
  | _, _, _ => none
def bm_pf (Sh : List sg_Sh) (np : Nat) (lk : am_K) (ls : bm_L) (st : List bm_V) (σ : sg_S) : bm_R := match st with
  | v :: .inr (.inr (.ref a)) :: r => match sg_sh Sh a with
    | some (.inr (ci, tp)) => match am_key lk ci with
      | some (k :: tag :: _) => match tp[k]? with
        | some w => match bm_pfv tag v w σ a (k : Int) with
          | some σ' => some (np, ls, r, σ')
          | none => none
        | none => none
      | _ => none
    | _ => none
  | _ => none
def bm_gs (E : am_E) (pc : Nat) (num : Int) (ls : bm_L) (st : List bm_V) (σ : sg_S) : bm_R := match E.2.2.1[num.toNat]? with
  | some v => some (pc + 3, ls, .inr (.inr v) :: st, σ)
  | none => none
def bm_step (E : am_E) (Sh : List sg_Sh) (pc : Nat) (i : Instr) (num : Int) (lk : am_K) (ls : bm_L) (st : List bm_V) (σ : sg_S) : bm_R := match i with
  | .iconst n => some (pc + 1, ls, .inl n :: st, σ)
  | .bipush n => if -128 ≤ n ∧ n ≤ 127 then some (pc + 2, ls, .inl n :: st, σ) else none
  | .sipush n => if -32768 ≤ n ∧ n ≤ 32767 then some (pc + 3, ls, .inl n :: st, σ) else none
  | .lconst n => some (pc + 1, ls, .inr (.inl ((n : Nat) : Int)) :: st, σ)
  | .aconst_null => some (pc + 1, ls, .inr (.inr .null) :: st, σ)
  | .ldc _ => bm_ldc E pc num lk ls st σ
  | .ldc_w _ => some (pc + 3, ls, .inl num :: st, σ)
  | .ldc2_w _ => some (pc + 3, ls, .inr (.inl num) :: st, σ)
  | .iload_n k => bm_ld (pc + 1) bm_isI ls k st σ
  | .iload k => bm_ld (pc + 2) bm_isI ls k st σ
  | .lload_n k => bm_ld (pc + 1) bm_isL ls k st σ
  | .lload k => bm_ld (pc + 2) bm_isL ls k st σ
  | .aload_n k => bm_ld (pc + 1) bm_isA ls k st σ
  | .aload k => bm_ld (pc + 2) bm_isA ls k st σ
  | .istore_n k => bm_st1 (pc + 1) bm_isI ls k st σ
  | .istore k => bm_st1 (pc + 2) bm_isI ls k st σ
  | .lstore_n k => bm_st2 (pc + 1) ls k st σ
  | .lstore k => bm_st2 (pc + 2) ls k st σ
  | .astore_n k => bm_st1 (pc + 1) bm_isA ls k st σ
  | .astore k => bm_st1 (pc + 2) bm_isA ls k st σ
  | .iinc k n => bm_inc (pc + 3) ls k n st σ
  | .iadd => bm_i2 (pc + 1) ls (fun x y => x + y) st σ
  | .isub => bm_i2 (pc + 1) ls (fun x y => x - y) st σ
  | .imul => bm_i2 (pc + 1) ls (fun x y => x * y) st σ
  | .iand => bm_i2 (pc + 1) ls (fun x y => (sg_i x &&& sg_i y).toInt) st σ
  | .ior => bm_i2 (pc + 1) ls (fun x y => (sg_i x ||| sg_i y).toInt) st σ
  | .ixor => bm_i2 (pc + 1) ls (fun x y => (sg_i x ^^^ sg_i y).toInt) st σ
  | .ishl => bm_i2 (pc + 1) ls (fun x y => (sg_i x <<< (sg_i y &&& 31)).toInt) st σ
  | .ishr => bm_i2 (pc + 1) ls (fun x y => (sg_i x >>> (sg_i y &&& 31)).toInt) st σ
  | .ineg => bm_i1 (pc + 1) ls (fun x => -x) st σ
  | .i2b => bm_i1 (pc + 1) ls (fun x => ((sg_i x).toInt8.toInt32).toInt) st σ
  | .i2c => bm_i1 (pc + 1) ls (fun x => (((sg_i x).toUInt32 % 65536).toInt32).toInt) st σ
  | .i2l => bm_il (pc + 1) ls st σ
  | .l2i => bm_li (pc + 1) ls st σ
  | .ladd => bm_l2 (pc + 1) ls (fun x y => x + y) st σ
  | .lsub => bm_l2 (pc + 1) ls (fun x y => x - y) st σ
  | .lmul => bm_l2 (pc + 1) ls (fun x y => x * y) st σ
  | .land => bm_l2 (pc + 1) ls (fun x y => (sg_l x &&& sg_l y).toInt) st σ
  | .lor => bm_l2 (pc + 1) ls (fun x y => (sg_l x ||| sg_l y).toInt) st σ
  | .lneg => bm_l1 (pc + 1) ls (fun x => -x) st σ
  | .lshl => bm_s2 (pc + 1) ls (fun x y => (sg_l x <<< ((sg_i y).toInt64 &&& 63)).toInt) st σ
  | .lshr => bm_s2 (pc + 1) ls (fun x y => (sg_l x >>> ((sg_i y).toInt64 &&& 63)).toInt) st σ
  | .lushr => bm_s2 (pc + 1) ls (fun x y => (((sg_l x).toUInt64 >>> ((sg_i y).toInt64.toUInt64 &&& Int64.toUInt64 63)).toInt64).toInt) st σ
  | .lcmp => bm_c2 (pc + 1) ls st σ
  | .dup => bm_dup (pc + 1) ls st σ
  | .pop => bm_pop (pc + 1) ls st σ
  | .pop2 => bm_pop2 (pc + 1) ls st σ
  | .dup_x1 => bm_dupx1 (pc + 1) ls st σ
  | .dup_x2 => bm_dupx2 (pc + 1) ls st σ
  | .dup2 => bm_dup2 (pc + 1) ls st σ
  | .goto off => bm_jp pc ls off st σ
  | .arraylength => bm_alen E Sh (pc + 1) ls st σ
  | .getfield _ => bm_gf E Sh (pc + 3) lk ls st σ
  | .putfield _ => bm_pf Sh (pc + 3) lk ls st σ
  | .getstatic _ => bm_gs E pc num ls st σ
  | _ => none
section BMS
variable {E : am_E} {Sh : List sg_Sh} {np pc : Nat} {ls : bm_L} {st : List bm_V} {σ : sg_S} {S : Nat × bm_L × List bm_V × sg_S}
theorem bm_vI {t : Value → Bool} {v : bm_V} (h : bm_isI v = true) : am_isI (bm_v v) = true := by rcases v with z | z | v <;> first | rfl | cases h
theorem bm_vL {t : Value → Bool} {v : bm_V} (h : bm_isL v = true) : am_isL (bm_v v) = true := by rcases v with z | z | v <;> first | rfl | cases h
theorem bm_vA {t : Value → Bool} {v : bm_V} (h : bm_isA v = true) : am_isA (bm_v v) = true := by rcases v with z | z | v <;> first | exact h | cases h
def bm_same (np : Nat) (ls : bm_L) (st : List bm_V) (σ : sg_S) (S : Nat × bm_L × List bm_V × sg_S) (r : am_R) : Prop := S.2.2.2 = σ ∧ r = some (S.1, bm_ls S.2.1, bm_st S.2.2.1)
theorem bm_ld_ok {t : bm_V → Bool} {t' : Value → Bool} {i : Nat} (ht : ∀ v, t v = true → t' (bm_v v) = true) (h : bm_ld np t ls i st σ = some S) : S.2.2.2 = σ ∧ am_ld np t' (bm_ls ls) i (bm_st st) = some (S.1, bm_ls S.2.1, bm_st S.2.2.1) := by
  unfold bm_ld at h
  split at h
  · rename_i v hv
    split at h
    · rename_i hx
      cases h
      refine ⟨rfl, ?_⟩
      simp only [am_ld, bm_get_eq, hv, Option.map_some, ht _ hx, if_true]
      rfl
    · cases h
  · cases h
theorem bm_st1_ok {t : bm_V → Bool} {t' : Value → Bool} {i : Nat} (ht : ∀ v, t v = true → t' (bm_v v) = true) (h : bm_st1 np t ls i st σ = some S) : S.2.2.2 = σ ∧ am_st1 np t' (bm_ls ls) i (bm_st st) = some (S.1, bm_ls S.2.1, bm_st S.2.2.1) := by
  unfold bm_st1 at h
  split at h
  · rename_i v r
    split at h
    · rename_i hx
      cases h
      refine ⟨rfl, ?_⟩
      simp only [bm_st, List.map_cons, am_st1, ht _ hx, if_true, bm_put1_eq]
    · cases h
  · cases h
theorem bm_st2_ok {i : Nat} (h : bm_st2 np ls i st σ = some S) : S.2.2.2 = σ ∧ am_st2 np (bm_ls ls) i (bm_st st) = some (S.1, bm_ls S.2.1, bm_st S.2.2.1) := by
  unfold bm_st2 at h
  split at h
  · rename_i v r
    split at h
    · rename_i hx
      cases h
      refine ⟨rfl, ?_⟩
      simp only [bm_st, List.map_cons, am_st2, bm_vL (t := fun _ => true) hx, if_true, bm_put2_eq]
    · cases h
  · cases h
theorem bm_i2_ok {f : Int → Int → Int} {f' : Int32 → Int32 → Int32} (hf : ∀ x y, sg_i (f x y) = f' (sg_i x) (sg_i y)) (h : bm_i2 np ls f st σ = some S) : S.2.2.2 = σ ∧ am_i2 np (bm_ls ls) f' (bm_st st) = some (S.1, bm_ls S.2.1, bm_st S.2.2.1) := by
  unfold bm_i2 at h
  split at h
  · cases h
    refine ⟨rfl, ?_⟩
    simp only [bm_st, List.map_cons, bm_v, am_i2, hf]
  · cases h
theorem bm_l2_ok {f : Int → Int → Int} {f' : Int64 → Int64 → Int64} (hf : ∀ x y, sg_l (f x y) = f' (sg_l x) (sg_l y)) (h : bm_l2 np ls f st σ = some S) : S.2.2.2 = σ ∧ am_l2 np (bm_ls ls) f' (bm_st st) = some (S.1, bm_ls S.2.1, bm_st S.2.2.1) := by
  unfold bm_l2 at h
  split at h
  · cases h
    refine ⟨rfl, ?_⟩
    simp only [bm_st, List.map_cons, bm_v, am_l2, hf]
  · cases h
theorem bm_s2_ok {f : Int → Int → Int} {f' : Int64 → Int32 → Int64} (hf : ∀ x y, sg_l (f x y) = f' (sg_l x) (sg_i y)) (h : bm_s2 np ls f st σ = some S) : S.2.2.2 = σ ∧ am_s2 np (bm_ls ls) f' (bm_st st) = some (S.1, bm_ls S.2.1, bm_st S.2.2.1) := by
  unfold bm_s2 at h
  split at h
  · cases h
    refine ⟨rfl, ?_⟩
    simp only [bm_st, List.map_cons, bm_v, am_s2, hf]
  · cases h
theorem bm_i1_ok {f : Int → Int} {f' : Int32 → Int32} (hf : ∀ x, sg_i (f x) = f' (sg_i x)) (h : bm_i1 np ls f st σ = some S) : S.2.2.2 = σ ∧ am_i1 np (bm_ls ls) f' (bm_st st) = some (S.1, bm_ls S.2.1, bm_st S.2.2.1) := by
  unfold bm_i1 at h
  split at h
  · cases h
    refine ⟨rfl, ?_⟩
    simp only [bm_st, List.map_cons, bm_v, am_i1, hf]
  · cases h
theorem bm_l1_ok {f : Int → Int} {f' : Int64 → Int64} (hf : ∀ x, sg_l (f x) = f' (sg_l x)) (h : bm_l1 np ls f st σ = some S) : S.2.2.2 = σ ∧ am_l1 np (bm_ls ls) f' (bm_st st) = some (S.1, bm_ls S.2.1, bm_st S.2.2.1) := by
  unfold bm_l1 at h
  split at h
  · cases h
    refine ⟨rfl, ?_⟩
    simp only [bm_st, List.map_cons, bm_v, am_l1, hf]
  · cases h
theorem bm_il_eq (x : Int) : (sg_i x).toInt64 = sg_l (sg_n x) := by
  unfold sg_l sg_n
  rw [← Int64.toInt_inj, Int32.toInt_toInt64, Int64.toInt_ofInt_of_le]
  · have := Int32.le_toInt (sg_i x); omega
  · have := Int32.toInt_lt (sg_i x); omega
theorem bm_il_ok (h : bm_il np ls st σ = some S) : S.2.2.2 = σ ∧ am_il np (bm_ls ls) (bm_st st) = some (S.1, bm_ls S.2.1, bm_st S.2.2.1) := by
  unfold bm_il at h
  split at h
  · cases h
    refine ⟨rfl, ?_⟩
    simp only [bm_st, List.map_cons, bm_v, am_il, bm_il_eq]
  · cases h
theorem bm_li_ok (h : bm_li np ls st σ = some S) : S.2.2.2 = σ ∧ am_li np (bm_ls ls) (bm_st st) = some (S.1, bm_ls S.2.1, bm_st S.2.2.1) := by
  unfold bm_li at h
  split at h
  · cases h
    refine ⟨rfl, ?_⟩
    simp only [bm_st, List.map_cons, bm_v, am_li, sg_l, sg_i, Int64.toInt32_ofInt]
  · cases h
theorem bm_lc_eq (x y : Int) : lg_cmp (sg_l x) (sg_l y) = sg_i (bm_lc x y) := by
  unfold lg_cmp bm_lc sg_nl
  simp only [gt_iff_lt, Int64.lt_iff_toInt_lt, ← Int64.toInt_inj]
  split
  · rfl
  · split <;> rfl
theorem bm_c2_ok (h : bm_c2 np ls st σ = some S) : S.2.2.2 = σ ∧ am_c2 np (bm_ls ls) (bm_st st) = some (S.1, bm_ls S.2.1, bm_st S.2.2.1) := by
  unfold bm_c2 at h
  split at h
  · cases h
    refine ⟨rfl, ?_⟩
    simp only [bm_st, List.map_cons, bm_v, am_c2, bm_lc_eq]
  · cases h
theorem bm_inc_ok {i : Nat} {n : Int} (h : bm_inc np ls i n st σ = some S) : S.2.2.2 = σ ∧ am_inc np (bm_ls ls) i n (bm_st st) = some (S.1, bm_ls S.2.1, bm_st S.2.2.1) := by
  unfold bm_inc at h
  split at h
  · rename_i x hx
    cases h
    refine ⟨rfl, ?_⟩
    simp only [am_inc, bm_get_eq, hx, Option.map_some, bm_v, bm_put1_eq, sg_i, Int32.ofInt_add]
  · cases h
theorem bm_dup_ok (h : bm_dup np ls st σ = some S) : S.2.2.2 = σ ∧ am_dup np (bm_ls ls) (bm_st st) = some (S.1, bm_ls S.2.1, bm_st S.2.2.1) := by
  unfold bm_dup at h
  split at h
  · split at h
    · rename_i hx
      cases h
      refine ⟨rfl, ?_⟩
      rw [bm_cat_eq] at hx
      simp only [bm_st, List.map_cons, am_dup, hx, if_true]
    · cases h
  · cases h
theorem bm_pop_ok (h : bm_pop np ls st σ = some S) : S.2.2.2 = σ ∧ am_pop np (bm_ls ls) (bm_st st) = some (S.1, bm_ls S.2.1, bm_st S.2.2.1) := by
  unfold bm_pop at h
  split at h
  · split at h
    · rename_i hx
      cases h
      refine ⟨rfl, ?_⟩
      rw [bm_cat_eq] at hx
      simp only [bm_st, List.map_cons, am_pop, hx, if_true]
    · cases h
  · cases h
theorem bm_pop2_ok (h : bm_pop2 np ls st σ = some S) : S.2.2.2 = σ ∧ am_pop2 np (bm_ls ls) (bm_st st) = some (S.1, bm_ls S.2.1, bm_st S.2.2.1) := by
  unfold bm_pop2 at h
  split at h
  · split at h
    · rename_i hx
      cases h
      refine ⟨rfl, ?_⟩
      rw [bm_cat_eq] at hx
      simp only [bm_st, List.map_cons, am_pop2, hx, if_true]
    · cases h
  · cases h
theorem bm_dupx1_ok (h : bm_dupx1 np ls st σ = some S) : S.2.2.2 = σ ∧ am_dupx1 np (bm_ls ls) (bm_st st) = some (S.1, bm_ls S.2.1, bm_st S.2.2.1) := by
  unfold bm_dupx1 at h
  split at h
  · split at h
    · rename_i hx
      cases h
      refine ⟨rfl, ?_⟩
      rw [bm_cat_eq, bm_cat_eq] at hx
      simp only [bm_st, List.map_cons, am_dupx1, hx, and_self, if_true]
    · cases h
  · cases h
theorem bm_dupx2_ok (h : bm_dupx2 np ls st σ = some S) : S.2.2.2 = σ ∧ am_dupx2 np (bm_ls ls) (bm_st st) = some (S.1, bm_ls S.2.1, bm_st S.2.2.1) := by
  unfold bm_dupx2 at h
  split at h
  · split at h
    · rename_i hx
      cases h
      refine ⟨rfl, ?_⟩
      rw [bm_cat_eq, bm_cat_eq, bm_cat_eq] at hx
      simp only [bm_st, List.map_cons, am_dupx2, hx, and_self, if_true]
    · cases h
  · cases h
theorem bm_dup2_ok (h : bm_dup2 np ls st σ = some S) : S.2.2.2 = σ ∧ am_dup2 np (bm_ls ls) (bm_st st) = some (S.1, bm_ls S.2.1, bm_st S.2.2.1) := by
  unfold bm_dup2 at h
  split at h
  · split at h
    · rename_i hx
      cases h
      refine ⟨rfl, ?_⟩
      rw [bm_cat_eq, bm_cat_eq] at hx
      simp only [bm_st, List.map_cons, am_dup2, hx, and_self, if_true]
    · cases h
  · cases h
theorem bm_jp_ok {off : Int} (h : bm_jp pc ls off st σ = some S) : S.2.2.2 = σ ∧ am_jp pc (bm_ls ls) off (bm_st st) = some (S.1, bm_ls S.2.1, bm_st S.2.2.1) := by
  unfold bm_jp at h
  split at h
  · rename_i hx
    cases h
    refine ⟨rfl, ?_⟩
    simp only [am_jp, if_pos hx]
  · cases h
theorem bm_ldc_ok {num : Int} {lk : am_K} (h : bm_ldc E pc num lk ls st σ = some S) : S.2.2.2 = σ ∧ am_ldc E pc num lk (bm_ls ls) (bm_st st) = some (S.1, bm_ls S.2.1, bm_st S.2.2.1) := by
  unfold bm_ldc at h
  split at h
  · cases h
    exact ⟨rfl, rfl⟩
  · split at h
    · rename_i hx
      cases h
      refine ⟨rfl, ?_⟩
      simp only [am_ldc, if_pos hx]
      rfl
    · cases h
  · cases h
theorem bm_nat (n : Nat) : Int32.ofNat n = sg_i (n : Int) := by
  unfold sg_i
  exact (Int32.ofInt_eq_ofNat).symm
theorem bm_alen_ok (h : bm_alen E Sh np ls st σ = some S) : S.2.2.2 = σ ∧ am_alen E np (bm_ls ls) (sg_H Sh σ) (bm_st st) = some (S.1, bm_ls S.2.1, bm_st S.2.2.1) := by
  unfold bm_alen at h
  split at h
  · split at h
    · rename_i t n hs
      split at h
      · rename_i ht
        cases h
        refine ⟨rfl, ?_⟩
        simp only [bm_st, List.map_cons, bm_v, am_alen, am_len0, sg_at hs, sg_cell]
        rcases (show t = 2 ∨ (t = 0 ∨ t = 1 ∨ t = 3) by omega) with h2 | h2
        · simp only [h2, if_true, bm_nat]
        · simp only [if_neg (show ¬ t = 2 by omega), h2, if_true, bm_nat]
      · cases h
    · cases h
  · split at h
    · cases h
    · rename_i h9
      split at h
      · cases h
      · rename_i h10
        split at h
        · rename_i bs hb
          cases h
          refine ⟨rfl, ?_⟩
          simp only [bm_st, List.map_cons, bm_v, am_alen, am_len0, if_neg h9, if_neg h10, hb, bm_nat]
        · cases h
  · cases h
theorem bm_rf_eq (a k : Nat) (w : Value) : bm_v (bm_rf σ a k w) = sg_fd σ a k w := by
  cases w <;> simp only [bm_rf, bm_v, sg_fd, sg_ig, sg_lg]
theorem bm_gf_ok {lk : am_K} (h : bm_gf E Sh np lk ls st σ = some S) : S.2.2.2 = σ ∧ am_gf E np lk (bm_ls ls) (sg_H Sh σ) (bm_st st) = some (S.1, bm_ls S.2.1, bm_st S.2.2.1) := by
  unfold bm_gf at h
  split at h
  · split at h
    · rename_i ci tp hs
      split at h
      · rename_i k dat hk
        split at h
        · rename_i w hw
          cases h
          refine ⟨rfl, ?_⟩
          simp only [bm_st, List.map_cons, bm_rf_eq]
          simp only [bm_v, am_gf, am_fld, sg_at hs, sg_cell, hk, List.getElem?_mapIdx, hw, Option.map_some]
        · cases h
      · cases h
    · cases h
  · split at h
    · rename_i hx
      split at h
      · rename_i hk
        cases h
        refine ⟨rfl, ?_⟩
        simp only [bm_st, List.map_cons, bm_v, am_gf, am_fld, if_pos hx, hk]
        rfl
      · rename_i hk
        cases h
        refine ⟨rfl, ?_⟩
        simp only [bm_st, List.map_cons, bm_v, am_gf, am_fld, if_pos hx, hk]
      · cases h
    · cases h
  · cases h
theorem bm_i01 {z : Int} (h : z = 0 ∨ z = 1) : sg_i z = 0 ∨ sg_i z = 1 := by
  rcases h with h | h
  · subst h; exact Or.inl rfl
  · subst h; exact Or.inr rfl
theorem bm_pf_ok {lk : am_K} (h : bm_pf Sh np lk ls st σ = some S) : S.1 = np ∧ S.2.1 = ls ∧ am_pf lk (bm_st st) (sg_H Sh σ) = some (bm_st S.2.2.1, sg_H Sh S.2.2.2) := by
  unfold bm_pf at h
  split at h
  · rename_i v a r
    split at h
    · rename_i ci tp hs
      split at h
      · rename_i k tag dat hk
        split at h
        · rename_i w hw
          have hl : k < (tp.mapIdx (fun k v => sg_fd σ a k v)).length := by rw [List.length_mapIdx]; exact (List.getElem?_eq_some_iff.mp hw).1
          split at h
          · rename_i σ' hv
            cases h
            refine ⟨rfl, rfl, ?_⟩
            unfold bm_pfv at hv
            split at hv
            · cases hv
              simp only [bm_st, List.map_cons, bm_v, am_pf, sg_at hs, sg_cell, hk, am_fit, hl, and_self, if_true, sg_setF hs hw]
            · split at hv
              · rename_i hz
                cases hv
                simp only [bm_st, List.map_cons, bm_v, am_pf, sg_at hs, sg_cell, hk, am_fit, bm_i01 hz, decide_true, hl, and_self, if_true, sg_setF hs hw]
              · cases hv
            · cases hv
              simp only [bm_st, List.map_cons, bm_v, am_pf, sg_at hs, sg_cell, hk, am_fit, hl, and_self, if_true, sg_setFl hs hw]
            · cases hv
          · cases h
        · cases h
      · cases h
    · cases h
  · cases h
theorem bm_gs_ok {num : Int} (h : bm_gs E pc num ls st σ = some S) : S.2.2.2 = σ ∧ am_gs E pc num (bm_ls ls) (bm_st st) = some (S.1, bm_ls S.2.1, bm_st S.2.2.1) := by
  unfold bm_gs at h
  split at h
  · rename_i v hv
    cases h
    refine ⟨rfl, ?_⟩
    simp only [am_gs, hv]
    rfl
  · cases h
theorem bm_i8 {n : Int} (h : -128 ≤ n ∧ n ≤ 127) : (Int8.ofInt n).toInt32 = sg_i n := by
  unfold sg_i
  rw [← Int32.toInt_inj, Int8.toInt_toInt32, Int8.toInt_ofInt_of_le (by omega) (by omega), Int32.toInt_ofInt_of_le (by omega) (by omega)]
theorem bm_i16 {n : Int} (h : -32768 ≤ n ∧ n ≤ 32767) : (Int16.ofInt n).toInt32 = sg_i n := by
  unfold sg_i
  rw [← Int32.toInt_inj, Int16.toInt_toInt32, Int16.toInt_ofInt_of_le (by omega) (by omega), Int32.toInt_ofInt_of_le (by omega) (by omega)]
theorem bm_ti (x : Int32) : sg_i x.toInt = x := Int32.ofInt_toInt x
theorem bm_tl (x : Int64) : sg_l x.toInt = x := Int64.ofInt_toInt x
end BMS
