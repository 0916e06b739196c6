/-! want, saveWanted, restore. -/
theorem wit_ex {f : Int → Int} {a b : Int} : ∀ (W : List Int), (∀ x ∈ W, ∃ j, a ≤ j ∧ j ≤ b ∧ f j = x) → ∃ J : List Int, J.map f = W ∧ ∀ j ∈ J, a ≤ j ∧ j ≤ b
  | [], _ => ⟨[], rfl, by simp⟩
  | x :: W, h => by
    obtain ⟨J, e, hJ⟩ := wit_ex W (fun y hy => h y (by simp [hy]))
    obtain ⟨j, j1, j2, j3⟩ := h x (by simp)
    refine ⟨j :: J, by simp [e, j3], fun y hy => ?_⟩
    rcases List.mem_cons.mp hy with q | q
    · rw [q]; exact ⟨j1, j2⟩
    · exact hJ y q
theorem nd_map {f : Int → Int} : ∀ {J : List Int}, (J.map f).Nodup → J.Nodup
  | [], _ => List.nodup_nil
  | j :: J, h => by
    simp only [List.map_cons, List.nodup_cons] at h
    exact List.nodup_cons.mpr ⟨fun q => h.1 (List.mem_map.mpr ⟨j, q, rfl⟩), nd_map h.2⟩
theorem nd_sh {J : List Int} {a : Int} (h : J.Nodup) : (J.map (fun x => x - a)).Nodup := by
  induction J with
  | nil => exact List.nodup_nil
  | cons j J ih =>
    simp only [List.map_cons, List.nodup_cons] at h ⊢
    refine ⟨fun q => ?_, ih h.2⟩
    obtain ⟨y, y1, y2⟩ := List.mem_map.mp q
    have : y = j := by omega
    rw [this] at y1; exact h.1 y1
theorem wit_len {f : Int → Int} {a b : Int} {W : List Int} (hN : W.Nodup) (h : ∀ x ∈ W, ∃ j, a ≤ j ∧ j ≤ b ∧ f j = x) : (W.length : Int) ≤ b - a + 1 ∨ W = [] := by
  obtain ⟨J, e, hJ⟩ := wit_ex W h
  cases W with
  | nil => exact Or.inr rfl
  | cons x W =>
    left
    obtain ⟨j, j1, j2, j3⟩ := h x (by simp)
    rw [← e] at hN
    have := ndl (b - a + 1).toNat (J.map (fun x => x - a)) (nd_sh (nd_map hN)) (fun y hy => by
      obtain ⟨z, z1, z2⟩ := List.mem_map.mp hy
      have := hJ z z1
      omega)
    rw [List.length_map] at this
    have l : J.length = (x :: W).length := by rw [← e, List.length_map]
    rw [← l]; omega
section CTM
variable {σ : sg_S} {Q : sg_S → Prop}
/-- slots of variables of nodes lo .. hi, below the bound -/
def wnt (σ : sg_S) (lo hi bd x : Int) : Prop := ∃ j, lo ≤ j ∧ j ≤ hi ∧ sg_g σ 3 j = 258 ∧ sg_g σ 16 j = x ∧ x < bd
theorem f_want {W0 : List Int} {a bd lo hi : Int} (ha : 0 ≤ a ∧ a < 200) (h11 : sg_g σ 11 a = lo) (h12 : sg_g σ 12 a = hi) (hl : 0 ≤ lo ∧ hi < 200) (hw : wl σ W0) (hW : ∀ x ∈ W0, ∃ j, 0 ≤ j ∧ j ≤ 199 ∧ sg_g σ 16 j = x) (k : ∀ σ' W, sg_F [74, 22061] σ σ' → wl σ' W → (∀ x, x ∈ W ↔ (x ∈ W0 ∨ wnt σ lo hi bd x)) → Q σ') : V_fWant σ a bd Q := by
  have hll := sg_Rg σ 11 a
  rw [h11] at hll
  unfold V_fWant
  rw [xa_in ha, xa_in ha, h11, h12]
  have len : ∀ W : List Int, W.Nodup → (∀ x ∈ W, x ∈ W0 ∨ wnt σ lo hi bd x) → W.length ≤ 200 := fun W hN h => by
    rcases wit_len (f := sg_g σ 16) (a := 0) (b := 199) hN (fun x hx => by
      rcases h x hx with q | ⟨j, q1, q2, q3, q4, q5⟩
      · exact hW x q
      · exact ⟨j, by omega, by omega, q4⟩) with q | q
    · omega
    · rw [q]; simp
  refine ⟨fun m v σ2 => ∃ W, m = (hi + 1 - v).toNat ∧ lo ≤ v ∧ (v ≤ hi + 1 ∨ v = lo) ∧ wl σ2 W ∧ ∀ x, x ∈ W ↔ (x ∈ W0 ∨ wnt σ lo (v - 1) bd x), fun σ2 => ∃ W, wl σ2 W ∧ ∀ x, x ∈ W ↔ (x ∈ W0 ∨ wnt σ lo hi bd x), ⟨_, W0, rfl, Int.le_refl _, Or.inr rfl, hw, fun x => ⟨fun q => Or.inl q, fun q => q.resolve_right (fun ⟨j, q1, q2, _⟩ => by omega)⟩⟩, ?_, fun σ2 f2 ⟨W, h1, h2⟩ => k σ2 W f2 h1 h2⟩
  rintro m v σ2 rv f2 ⟨W, hm, hv, hv2, hwl, hmem⟩
  refine ⟨fun z => ⟨W, hwl, fun x => ?_⟩, fun z => ⟨fun y => by omega, fun y => ?_⟩⟩
  · rw [hmem x]
    refine ⟨fun q => ?_, fun q => ?_⟩ <;> rcases q with q | ⟨j, q1, q2, q3⟩
    · exact Or.inl q
    · exact Or.inr ⟨j, q1, by omega, q3⟩
    · exact Or.inl q
    · exact Or.inr ⟨j, q1, by omega, q3⟩
  · rw [xa_in (a := 3) ⟨by omega, by omega⟩, xa_in (a := 16) ⟨by omega, by omega⟩]
    have same : ¬ (sg_g σ 3 v = 258 ∧ sg_g σ 16 v < bd) → ∀ x, (x ∈ W0 ∨ wnt σ lo (v - 1) bd x) ↔ (x ∈ W0 ∨ wnt σ lo (v + 1 - 1) bd x) := fun q x => by
      refine ⟨fun r => ?_, fun r => ?_⟩ <;> rcases r with r | ⟨j, q1, q2, q3, q4, q5⟩
      · exact Or.inl r
      · exact Or.inr ⟨j, q1, by omega, q3, q4, q5⟩
      · exact Or.inl r
      · by_cases e : j = v
        · subst e; exact absurd ⟨q3, by omega⟩ q
        · exact Or.inr ⟨j, q1, by omega, q3, q4, q5⟩
    refine ⟨fun σ21 => ∃ W', wl σ21 W' ∧ ∀ x, x ∈ W' ↔ (x ∈ W0 ∨ wnt σ lo (v + 1 - 1) bd x), ⟨fun q => ⟨W, hwl, fun x => by rw [hmem x, same (fun r => q r.1)]⟩, fun q => ⟨fun q2 => ⟨W, hwl, fun x => by rw [hmem x, same (fun r => by omega)]⟩, fun q2 => ?_⟩⟩, fun σ21 f21 ⟨W', w1, w2⟩ => ⟨⟨by omega, by omega⟩, (hi + 1 - (v + 1)).toNat, by omega, W', rfl, by omega, by omega, w1, w2⟩⟩
    have iff1 : ∀ x, (x = sg_g σ 16 v ∨ x ∈ W) ↔ (x ∈ W0 ∨ wnt σ lo (v + 1 - 1) bd x) := fun x => by
      rw [hmem x]
      refine ⟨fun r => ?_, fun r => ?_⟩
      · rcases r with r | r | ⟨j, q1, q2, q3, q4, q5⟩
        · exact Or.inr ⟨v, hv, by omega, q, r.symm, by omega⟩
        · exact Or.inl r
        · exact Or.inr ⟨j, q1, by omega, q3, q4, q5⟩
      · rcases r with r | ⟨j, q1, q2, q3, q4, q5⟩
        · exact Or.inr (Or.inl r)
        · by_cases e : j = v
          · subst e; exact Or.inl q4.symm
          · exact Or.inr (Or.inr ⟨j, q1, by omega, q3, q4, q5⟩)
    have up : ∀ x, (x ∈ W0 ∨ wnt σ lo (v + 1 - 1) bd x) → x ∈ W0 ∨ wnt σ lo hi bd x := fun x r => by
      rcases r with r | ⟨j, q1, q2, q3⟩
      · exact Or.inl r
      · exact Or.inr ⟨j, q1, by omega, q3⟩
    refine f_insert hwl ?_ (len W (wl_nd hwl.2.2) (fun x hx => up x ((iff1 x).mp (Or.inr hx)))) (sg_Rg _ _ _) (fun σ' W' f' w' m' _ => ⟨W', w', fun x => by rw [m' x, iff1]⟩)
    by_cases e : sg_g σ 16 v ∈ W
    · exact Or.inr e
    · left
      have := len (sg_g σ 16 v :: W) (List.nodup_cons.mpr ⟨e, wl_nd hwl.2.2⟩) (fun x hx => up x ((iff1 x).mp (List.mem_cons.mp hx)))
      simp only [List.length_cons] at this
      omega
theorem f_save {W : List Int} {a sv : Int} (ha : 0 ≤ a ∧ a < 200) (hw : wl σ W) (h200 : W.length ≤ 200) (hW : ∀ x ∈ W, 0 ≤ x ∧ x < 272) (hs : sg_g σ 61 22 = sv) (h0 : 0 ≤ sv ∧ sv + W.length ≤ 2400) (k : ∀ σ', sg_F [71, 72, 73, 23061] σ σ' → sg_g σ' 61 22 = sv + W.length → sg_g σ' 71 a = sv → (∀ i, ¬ i = a → sg_g σ' 71 i = sg_g σ 71 i) → (∀ (i : Nat) (x : Int), W[i]? = some x → sg_g σ' 72 (sv + i) = x ∧ sg_g σ' 73 (sv + i) = sg_g σ 62 x) → (∀ i, i < sv → sg_g σ' 72 i = sg_g σ 72 i ∧ sg_g σ' 73 i = sg_g σ 73 i) → Q σ') : V_fSaveWanted σ a Q := by
  obtain ⟨w1, w2, w3⟩ := hw
  unfold V_fSaveWanted
  rw [w1]
  intro σ1 e1
  rw [xp_in ha, hs] at e1
  have f1 : sg_F [71] σ σ1 := by rw [e1]; exact sg_F_w (sg_F_r _ _) rfl _
  refine ⟨fun m v σ5 => ∃ j : Nat, v = j ∧ j ≤ W.length ∧ m = W.length - j ∧ sg_g σ5 61 22 = sv + j ∧ (∀ (i : Nat) (x : Int), i < j → W[i]? = some x → sg_g σ5 72 (sv + i) = x ∧ sg_g σ5 73 (sv + i) = sg_g σ 62 x) ∧ (∀ i, i < sv → sg_g σ5 72 i = sg_g σ 72 i ∧ sg_g σ5 73 i = sg_g σ 73 i), fun σ5 => sg_g σ5 61 22 = sv + W.length ∧ (∀ (i : Nat) (x : Int), W[i]? = some x → sg_g σ5 72 (sv + i) = x ∧ sg_g σ5 73 (sv + i) = sg_g σ 62 x) ∧ (∀ i, i < sv → sg_g σ5 72 i = sg_g σ 72 i ∧ sg_g σ5 73 i = sg_g σ 73 i), ⟨_, 0, rfl, Nat.zero_le _, rfl, by rw [sg_F_g f1 (by rfl)]; omega, fun i x hi => by omega, fun i hi => ⟨sg_F_ga f1 rfl, sg_F_ga f1 rfl⟩⟩, ?_, ?_⟩
  · rintro m v σ5 rv f5 ⟨j, rfl, hj, hm, h1, h2, h3⟩
    refine ⟨fun z => ⟨by rw [h1, show j = W.length by omega], fun i x hx => h2 i x ?_ hx, h3⟩, fun z => ?_⟩
    · have : i < W.length := by
        rcases Nat.lt_or_ge i W.length with q | q
        · exact q
        · rw [List.getElem?_eq_none q] at hx; cases hx
      omega
    · have hx0 : W[j]? = some (W[j]'(by omega)) := List.getElem?_eq_getElem _
      generalize W[j]'(by omega) = x at hx0
      have xr := hW x (List.mem_of_getElem? hx0)
      rw [xa_in (a := 74) ⟨by omega, by omega⟩, w2 j x hx0, xa_in (a := 62) xr, h1]
      intro σ20 e20 σ23 e23
      rw [xp_in ⟨by omega, by omega⟩] at e20 e23
      refine ⟨⟨by omega, by omega⟩, fun σ27 e27 => ⟨⟨by omega, by omega⟩, W.length - (j + 1), by omega, j + 1, by omega, by omega, rfl, ?_, fun i y hi hy => ?_, fun i hi => ?_⟩⟩
      · rw [e27, sg_gw_e _ _ _ _ ⟨by omega, by omega⟩]; omega
      · by_cases e : i = j
        · subst e
          rw [hx0] at hy
          cases hy
          refine ⟨?_, ?_⟩
          · rw [e27, sg_gw_c _ _ _ _ _ _ (by decide), e23, sg_gw_c _ _ _ _ _ _ (by decide), e20, sg_gw_e _ _ _ _ ⟨by omega, by omega⟩]
          · rw [e27, sg_gw_c _ _ _ _ _ _ (by decide), e23, sg_gw_e _ _ _ _ (sg_Rg _ _ _)]
        · obtain ⟨t1, t2⟩ := h2 i y (by omega) hy
          refine ⟨?_, ?_⟩
          · rw [e27, sg_gw_c _ _ _ _ _ _ (by decide), e23, sg_gw_c _ _ _ _ _ _ (by decide), e20, sg_gw_k _ _ _ _ _ _ (by omega)]; exact t1
          · rw [e27, sg_gw_c _ _ _ _ _ _ (by decide), e23, sg_gw_k _ _ _ _ _ _ (by omega), e20, sg_gw_c _ _ _ _ _ _ (by decide)]; exact t2
      · obtain ⟨t1, t2⟩ := h3 i hi
        refine ⟨?_, ?_⟩
        · rw [e27, sg_gw_c _ _ _ _ _ _ (by decide), e23, sg_gw_c _ _ _ _ _ _ (by decide), e20, sg_gw_k _ _ _ _ _ _ (by omega)]; exact t1
        · rw [e27, sg_gw_c _ _ _ _ _ _ (by decide), e23, sg_gw_k _ _ _ _ _ _ (by omega), e20, sg_gw_c _ _ _ _ _ _ (by decide)]; exact t2
  · rintro σ5 f5 ⟨h1, h2, h3⟩
    refine k σ5 (sg_F_t (sg_F_m f1 rfl) (sg_F_m f5 rfl)) h1 ?_ (fun i hi => ?_) h2 h3
    · rw [sg_F_ga f5 rfl, e1, sg_gw_e _ _ _ _ ⟨by omega, by omega⟩]
    · rw [sg_F_ga f5 rfl, e1, sg_gw_k _ _ _ _ _ _ hi]
theorem f_restore {W : List Int} {a sb : Int} (ha : 0 ≤ a ∧ a < 200) (h71 : sg_g σ 71 a = sb) (hs : sg_g σ 61 22 = sb + W.length) (h0 : 0 ≤ sb ∧ sb + W.length ≤ 2400) (hN : W.Nodup) (hW : ∀ x ∈ W, 0 ≤ x ∧ x < 272) (h72 : ∀ (i : Nat) (x : Int), W[i]? = some x → sg_g σ 72 (sb + i) = x) (k : ∀ σ', sg_F [62, 23061] σ σ' → sg_g σ' 61 22 = sb → (∀ (i : Nat) (x : Int), W[i]? = some x → sg_g σ' 62 x = sg_g σ 73 (sb + i)) → (∀ x, x ∉ W → sg_g σ' 62 x = sg_g σ 62 x) → Q σ') : V_fRestore σ a Q := by
  unfold V_fRestore
  rw [xa_in ha, h71, hs]
  intro v1 e1 r1
  rw [if_neg (by omega)] at e1
  rw [e1]
  refine ⟨⟨by omega, by omega⟩, fun m v σ6 => ∃ j : Nat, v = sb + j - 1 ∧ j ≤ W.length ∧ m = j ∧ (∀ (i : Nat) (x : Int), j ≤ i → W[i]? = some x → sg_g σ6 62 x = sg_g σ 73 (sb + i)) ∧ (∀ x, x ∉ W.drop j → sg_g σ6 62 x = sg_g σ 62 x), fun σ6 => (∀ (i : Nat) (x : Int), W[i]? = some x → sg_g σ6 62 x = sg_g σ 73 (sb + i)) ∧ (∀ x, x ∉ W → sg_g σ6 62 x = sg_g σ 62 x), ⟨_, W.length, by omega, Nat.le_refl _, rfl, fun i x hi hx => ?_, fun x _ => rfl⟩, ?_, ?_⟩
  · rw [List.getElem?_eq_none hi] at hx; cases hx
  · rintro m v σ6 rv f6 ⟨j, rfl, hj, hm, h1, h2⟩
    have fin : j = 0 → (∀ (i : Nat) (x : Int), W[i]? = some x → sg_g σ6 62 x = sg_g σ 73 (sb + i)) ∧ (∀ x, x ∉ W → sg_g σ6 62 x = sg_g σ 62 x) := fun e => by
      subst e
      exact ⟨fun i x hx => h1 i x (Nat.zero_le _) hx, fun x hx => h2 x (by simpa using hx)⟩
    refine ⟨fun z => fin (by omega), fun z => ⟨fun y => fin (by omega), fun y σ25 e25 => ⟨⟨by omega, by omega⟩, j - 1, by omega, j - 1, by omega, by omega, rfl, fun i x hi hx => ?_, fun x hx => ?_⟩⟩⟩
    all_goals
      have hx0 : W[j - 1]? = some (W[j - 1]'(by omega)) := List.getElem?_eq_getElem _
      have dr := List.drop_eq_getElem_cons (l := W) (i := j - 1) (by omega)
      generalize W[j - 1]'(by omega) = x0 at hx0 dr
      rw [show j - 1 + 1 = j by omega] at dr
      have x0r := hW x0 (List.mem_of_getElem? hx0)
      have t72 := h72 (j - 1) x0 hx0
      rw [show sb + ((j - 1 : Nat) : Int) = sb + j - 1 by omega] at t72
      rw [xa_in (a := 72) ⟨by omega, by omega⟩, xa_in (a := 73) ⟨by omega, by omega⟩, t72, xp_in x0r] at e25
    · by_cases e : i = j - 1
      · subst e
        rw [hx0] at hx
        cases hx
        rw [e25, sg_gw_e _ _ _ _ (sg_Rg _ _ _), show sb + ((j - 1 : Nat) : Int) = sb + j - 1 by omega]
      · have hil : i < W.length := by
          rcases Nat.lt_or_ge i W.length with q | q
          · exact q
          · rw [List.getElem?_eq_none q] at hx; cases hx
        have ne : ¬ x = x0 := fun q => by
          subst q
          rw [List.getElem?_eq_getElem hil] at hx
          rw [List.getElem?_eq_getElem (show j - 1 < W.length by omega)] at hx0
          have := (List.getElem_inj hN).mp ((Option.some.inj hx).trans (Option.some.inj hx0).symm)
          omega
        rw [e25, sg_gw_k _ _ _ _ _ _ ne]
        exact h1 i x (by omega) hx
    · rw [dr] at hx
      have ne : ¬ x = x0 := fun q => hx (by simp [q])
      rw [e25, sg_gw_k _ _ _ _ _ _ ne]
      exact h2 x (fun q => hx (by simp [q]))
  · rintro σ6 f6 ⟨h1, h2⟩ σ20 e20
    have f20 : sg_F [23061] σ6 σ20 := by rw [e20]; exact sg_F_w (sg_F_r _ _) rfl _
    refine k σ20 (sg_F_t (sg_F_m f6 rfl) (sg_F_m f20 rfl)) ?_ (fun i x hx => by rw [sg_F_ga f20 rfl]; exact h1 i x hx) (fun x hx => by rw [sg_F_ga f20 rfl]; exact h2 x hx)
    rw [e20, sg_gw_e _ _ _ _ ⟨by omega, by omega⟩]
end CTM
