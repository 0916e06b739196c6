/-! VALUES of nested runs of the reference, exactly. -/
def rvF (σ : sg_S) : Nat → vaF → Int → Prop
  | 0, v, x => v [] = x
  | d + 1, v, x => (0 ≤ x ∧ x < sg_g σ 88 56) ∧ (itF v).length ≤ 200 ∧ (0 ≤ sg_g σ 122 x ∧ sg_g σ 122 x + (itF v).length ≤ sg_g σ 88 60) ∧ (sg_g σ 123 x = (itF v).length ∧ sg_gl σ 124 x = cnvF (d + 1) v) ∧ ∀ (i : Nat) (w : vaF), (itF v)[i]? = some w → rvF σ d w (sg_g σ 125 (sg_g σ 122 x + i))
theorem rvF_up {σ σ' : sg_S} (h : nEx σ σ') : ∀ {d : Nat} {v : vaF} {x : Int}, rvF σ d v x → rvF σ' d v x
  | 0, _, _, a => a
  | d + 1, v, x, ⟨a1, a2, a3, a4, a5⟩ => by
    obtain ⟨⟨b1, b2⟩, b3, b4⟩ := h
    obtain ⟨c1, c2, c3⟩ := b3 x a1.1 a1.2
    refine ⟨⟨a1.1, by omega⟩, a2, by rw [c1]; omega, by rw [c2, c3]; exact a4, fun i w hw => ?_⟩
    have hi := gE_l hw
    rw [c1, b4 _ (by omega) (by omega)]
    exact rvF_up ⟨⟨b1, b2⟩, b3, b4⟩ (a5 i w hw)
theorem rvF_F {L : List Nat} {σ σ' : sg_S} {d : Nat} {v : vaF} {x : Int} (a : rvF σ d v x) (f : sg_F L σ σ') (hL : (!sg_cv L 88 56 && !sg_cv L 88 60 && sg_ca L 122 && sg_ca L 123 && sg_ca L 124 && sg_ca L 125) = true) : rvF σ' d v x := rvF_up (nEx_F f hL) a
theorem sC_sum {σ : sg_S} {d : Nat} {L : List vaF} {p : Int} (h : ∀ (i : Nat) (w : vaF), L[i]? = some w → sg_gl σ 124 (sg_g σ 125 (p + i)) = cnvF d w) : ∀ i : Nat, i ≤ L.length → sC σ p i = sumF ((L.take i).map (cnvF d))
  | 0, _ => rfl
  | i + 1, hi => by
    obtain ⟨w, hw⟩ := gE_x (l := L) (i := i) (by omega)
    simp only [sC]
    rw [sC_sum h i (by omega), h i w hw, tkF_1 hw, List.map_append, sumF_a]
    simp [sumF]
theorem sK_sum {σ : sg_S} {d : Nat} {L : List vaF} {p : Int} (h : 1 ≤ d → ∀ (i : Nat) (w : vaF), L[i]? = some w → sg_gl σ 124 (sg_g σ 125 (p + i)) = cnvF d w) : (L.length : Int) + sK σ p L.length d = cnL d L := by
  cases d with
  | zero => rw [cnL_1]; simp only [sK]; omega
  | succ d =>
    simp only [sK]
    rw [sC_sum (h (by omega)) L.length (Nat.le_refl _), List.take_length]
    rfl
theorem rv_cn {σ : sg_S} : ∀ {d : Nat} {v : vaF} {x : Int}, rvF σ d v x → cnvF d v ≤ cB d
  | 0, _, _, _ => Int.le_refl _
  | d + 1, v, x, ⟨a1, a2, a3, a4, a5⟩ => by
    have c0 := cB_0 d
    have s : ∀ i : Nat, i ≤ (itF v).length → sumF (((itF v).take i).map (cnvF d)) ≤ i * cB d := fun i => by
      induction i with
      | zero => intro _; simp [sumF]
      | succ i ih =>
        intro hi
        obtain ⟨w, hw⟩ := gE_x (l := itF v) (i := i) (by omega)
        have a := ih (by omega)
        have b := rv_cn (a5 i w hw)
        rw [tkF_1 hw, List.map_append, sumF_a]
        simp only [List.map_cons, List.map_nil, sumF]
        have e : ((i + 1 : Nat) : Int) * cB d = i * cB d + cB d := by
          rw [show ((i + 1 : Nat) : Int) = (i : Int) + 1 by omega, Int.add_mul, Int.one_mul]
        omega
    have s1 := s (itF v).length (Nat.le_refl _)
    rw [List.take_length] at s1
    have s2 : ((itF v).length : Int) * cB d ≤ 200 * cB d := Int.mul_le_mul_of_nonneg_right (by omega) c0
    simp only [cnvF, cB]
    omega
theorem rv_vT {σ : sg_S} : ∀ {d : Nat} {v : vaF} {x : Int}, rvF σ d v x → vT σ d x
  | 0, _, _, _ => trivial
  | d + 1, v, x, h => by
    have cb := rv_cn h
    obtain ⟨a1, a2, a3, a4, a5⟩ := h
    have sk := sK_sum (σ := σ) (d := d) (L := itF v) (p := sg_g σ 122 x) (fun hd i w hw => by
      obtain ⟨d', rfl⟩ : ∃ d', d = d' + 1 := ⟨d - 1, by omega⟩
      exact (a5 i w hw).2.2.2.1.2)
    have e1 : cnvF (d + 1) v = cnL d (itF v) := rfl
    have cl := cnL_l d (itF v)
    refine ⟨a1, ⟨a3.1, by omega, by omega, by omega⟩, ⟨by omega, by omega, ?_⟩, fun i x1 x2 => ?_⟩
    · rw [a4.2, e1, a4.1, Int.toNat_natCast]; exact sk.symm
    · obtain ⟨w, hw⟩ := gE_x (l := itF v) (i := i.toNat) (by omega)
      have := rv_vT (a5 i.toNat w hw)
      rw [show ((i.toNat : Nat) : Int) = i by omega] at this
      exact this
section RVA
variable {σ : sg_S} {d : Nat} {v w : vaF} {x : Int} {i : Nat}
theorem rv_it (hs : sg_g σ 88 56 ≤ 9000) (hi12 : sg_g σ 88 60 ≤ 12000) (h : rvF σ (d + 1) v x) (hi : (itF v)[i]? = some w) : p_itemAt σ x (i : Int) ∧ rvF σ d w (v_itemAt σ x (i : Int)) := by
  have t := rv_vT h
  obtain ⟨a1, a2, a3, a4, a5⟩ := h
  have hl := gE_l hi
  exact ⟨(vT_it hs hi12 t (by omega) (by omega)).1, a5 i w hi⟩
theorem rv_x (hs : sg_g σ 88 56 ≤ 9000) (h : rvF σ (d + 1) v x) : (0 ≤ x ∧ x < 9000) ∧ sg_g σ 123 x = (itF v).length ∧ (itF v).length ≤ 200 ∧ sg_gl σ 124 x = cnvF (d + 1) v := by
  obtain ⟨a1, a2, a3, a4, a5⟩ := h
  exact ⟨⟨a1.1, by omega⟩, a4.1, a2, a4.2⟩
theorem rx_nu (hs : sg_g σ 88 56 ≤ 9000) (hi12 : sg_g σ 88 60 ≤ 12000) (h : rvF σ 1 v x) (hi : i < (itF v).length) : (nuF v)[i]? = some (v_itemAt σ x (i : Int)) ∧ p_itemAt σ x (i : Int) := by
  obtain ⟨u, hu⟩ := gE_x hi
  obtain ⟨q1, q2⟩ := rv_it hs hi12 h hu
  refine ⟨?_, q1⟩
  unfold nuF
  rw [List.getElem?_map, hu]
  show some (u []) = _
  rw [q2]
end RVA
/-- items that were added -/
def nAX (σ σ3 : sg_S) (k : Nat) (L : List vaF) : Prop := nEx σ σ3 ∧ sg_g σ3 88 56 = sg_g σ 88 56 ∧ sg_g σ3 88 60 = sg_g σ 88 60 + L.length ∧ ∀ (i : Nat) (w : vaF), L[i]? = some w → rvF σ3 k w (sg_g σ3 125 (sg_g σ 88 60 + i))
theorem nAX_0 (σ : sg_S) (k : Nat) : nAX σ σ k [] := ⟨nEx_r σ, rfl, by simp, fun i w hw => by simp at hw⟩
theorem m_addX {σ σ3 : sg_S} {k : Nat} {L : List vaF} {u : vaF} {v : Int} {Q : sg_S → Prop} (hB : nB σ) (hj : L.length < 400) (hA : nAX σ σ3 k L) (hv : sg_R v) (ht : rvF σ3 k u v) (kk : ∀ σ', nAX σ σ' k (L ++ [u]) → nEx σ3 σ' → sg_F [125, 61088] σ3 σ' → Q σ') : V_add σ3 v Q := by
  obtain ⟨⟨b1, b2⟩, b3, b4⟩ := hB
  obtain ⟨a1, a2, a3, a4⟩ := hA
  refine m_add (by omega) hv (fun σ' x1 x2 x3 x4 => kk σ' ⟨nEx_t a1 x1, by rw [sg_F_g x4 (by rfl)]; exact a2, by rw [List.length_append, List.length_cons, List.length_nil]; omega, fun i w hw => ?_⟩ x1 x4)
  rcases Nat.lt_or_ge i L.length with q | q
  · rw [List.getElem?_append_left q] at hw
    rw [x1.2.2 _ (by omega) (by omega)]
    exact rvF_up x1 (a4 i w hw)
  · rw [List.getElem?_append_right q] at hw
    have z : i - L.length = 0 := by
      have := gE_l hw
      simp only [List.length_cons, List.length_nil] at this
      omega
    rw [z] at hw
    simp only [List.getElem?_cons_zero, Option.some.injEq] at hw
    subst hw
    rw [show i = L.length by omega, ← a3, x3]
    exact rvF_up x1 ht
theorem m_seqX {σ : sg_S} {fr mn ty : Int} {k : Nat} {L : List vaF} {Q : Int → sg_S → Prop} (hs : 0 ≤ sg_g σ 88 56 ∧ sg_g σ 88 56 < 9000) (hi : sg_g σ 88 60 ≤ 12000) (hf : 0 ≤ fr) (hl : L.length ≤ 200) (hm : mn = L.length) (hfm : fr + mn ≤ sg_g σ 88 60) (hk : ty = ((k + 1 : Nat) : Int)) (hk3 : k ≤ 2) (ht : ∀ (i : Nat) (w : vaF), L[i]? = some w → rvF σ k w (sg_g σ 125 (fr + i))) (kk : ∀ σ', nEx σ σ' → sg_g σ' 88 56 = sg_g σ 88 56 + 1 → sg_g σ' 88 60 = sg_g σ 88 60 → rvF σ' (k + 1) (mkF L) (sg_g σ 88 56) → sg_F [122, 123, 124, 57088] σ σ' → Q (sg_g σ 88 56) σ') : V_seq σ fr mn ty Q := by
  subst hm
  refine m_seq (k := k) hs hi hf ⟨by omega, by omega⟩ hfm hk hk3 (fun i x1 x2 => ?_) (fun σ' y1 y2 y3 y4 y5 y6 y7 y8 => kk σ' y1 y2 y3 ?_ y8)
  · obtain ⟨w, hw⟩ := gE_x (l := L) (i := i.toNat) (by omega)
    have := rv_vT (ht i.toNat w hw)
    rw [show ((i.toNat : Nat) : Int) = i by omega] at this
    exact this
  · have il : itF (mkF L) = L := itF_mk L
    have it : ∀ (i : Nat) (w : vaF), L[i]? = some w → rvF σ' k w (sg_g σ' 125 (fr + i)) := fun i w hw => by
      have hi' := gE_l hw
      rw [y1.2.2 _ (by omega) (by omega)]
      exact rvF_up y1 (ht i w hw)
    have ct := y4.2.2.1.2.2
    rw [y6, y7, Int.toNat_natCast] at ct
    have sk := sK_sum (σ := σ') (d := k) (L := L) (p := fr) (fun hd i w hw => by
      obtain ⟨d', rfl⟩ : ∃ d', k = d' + 1 := ⟨k - 1, by omega⟩
      exact (it i w hw).2.2.2.1.2)
    refine ⟨⟨hs.1, by omega⟩, by rw [il]; exact hl, by rw [y7, il]; omega, ⟨by rw [y6, il], by rw [cnF_mk, ct]; exact sk⟩, fun i w hw => ?_⟩
    rw [il] at hw
    rw [y7]
    exact it i w hw
abbrev acX : List Nat := [122, 123, 124, 125, 135, 57088, 61088, 74088]
/-- what an ACT is to be followed by -/
def aX (σ : sg_S) (d : Nat) (Q : Int → sg_S → Prop) : Int ⊕ (vaF × Int) → Prop
  | .inl e => ∀ q σ', sg_g σ' 88 73 = e → sg_F acX σ σ' → Q q σ'
  | .inr (v, _) => ∀ q σ', rvF σ' d v q → nEx σ σ' → (sg_g σ' 88 60 ≤ sg_g σ 88 60 + cnvF d v ∧ (d = 0 → sg_g σ' 88 56 = sg_g σ 88 56) ∧ sg_g σ' 88 56 ≤ sg_g σ 88 56 + 1 + cnvF d v ∧ sg_g σ' 88 56 ≤ sg_g σ 88 56 + 201) → sg_g σ' 88 73 = sg_g σ 88 73 → sg_F acX σ σ' → Q q σ'
theorem m_endsX {σ : sg_S} {a : Int} {Q : sg_S → Prop} (h0 : sg_g σ 88 73 = 0) (ha : sg_R a) (k : ∀ σ', sg_g σ' 88 73 = a → sg_F [74088] σ σ' → Q σ') : V_ends σ a Q := by
  unfold V_ends
  refine ⟨fun h => absurd h0 h, fun h σ5 e5 => k σ5 ?_ ?_⟩
  · rw [e5, sg_gw_e _ _ _ _ ha]
  · rw [e5]; exact sg_F_w (sg_F_r _ _) rfl _
section ACX
variable {σ : sg_S} {n a b : Int} {k : Nat} {u v : vaF} {Q : Int → sg_S → Prop}
theorem aX_f {e q : Int} (h0 : sg_g σ 88 73 = 0) (h : aX σ k Q (.inl e)) (he : sg_R e) : V_ends σ e (fun σ' => sg_F [74088] σ σ' → Q q σ') := m_endsX h0 he (fun σ' x1 x2 _ => h q σ' x1 (sg_F_m x2 rfl))
theorem m_seqY {σ3 : sg_S} {L : List vaF} {mn ty c : Int} (hB : nB σ) (hl : L.length ≤ 200) (f3 : sg_F [125, 135, 61088] σ σ3) (hA : nAX σ σ3 k L) (hm : mn = L.length) (hk : ty = ((k + 1 : Nat) : Int)) (hk2 : k ≤ 2) (h : aX σ (k + 1) Q (.inr (mkF L, c))) : V_seq σ3 (sg_g σ 88 60) mn ty (fun q σ' => sg_R q → sg_F [122, 123, 124, 57088] σ3 σ' → Q q σ') := by
  obtain ⟨⟨b1, b2⟩, b3, b4⟩ := hB
  obtain ⟨a1, a2, a3, a4⟩ := hA
  refine m_seqX (k := k) (L := L) (by omega) (by omega) b3 hl hm (by omega) hk hk2 a4 (fun σ' x1 x2 x3 x4 x5 _ _ => ?_)
  have cl := cnL_l k L
  refine h _ σ' x4 (nEx_t a1 x1) ⟨by rw [cnF_mk]; omega, fun z => by omega, by rw [cnF_mk]; omega, by omega⟩ ?_ (sg_F_t (sg_F_m f3 rfl) (sg_F_m x5 rfl))
  rw [sg_F_g x5 (by rfl), sg_F_g f3 (by rfl)]
theorem nAX_s {σ3 : sg_S} {k' : Nat} {L : List vaF} (hA : nAX σ σ3 k' L) (ha : rvF σ (k + 1) v a) : sg_g σ3 123 a = sg_g σ 123 a ∧ sg_g σ3 122 a = sg_g σ 122 a := by
  obtain ⟨a1, -⟩ := ha
  exact ⟨(hA.1.2.1 a a1.1 a1.2).2.1, (hA.1.2.1 a a1.1 a1.2).1⟩
theorem mX_it {σ3 : sg_S} {i : Nat} {k' : Nat} {L : List vaF} {w : vaF} (hB : nB σ) (hj : L.length < 400) (hA : nAX σ σ3 k' L) (ha : rvF σ (k + 1) v a) (hi : (itF v)[i]? = some w) : p_itemAt σ3 a (i : Int) ∧ rvF σ3 k w (v_itemAt σ3 a (i : Int)) := by
  obtain ⟨⟨b1, b2⟩, b3, b4⟩ := hB
  exact rv_it (by rw [hA.2.1]; omega) (by rw [hA.2.2.1]; omega) (rvF_up hA.1 ha) hi
theorem nB_9 (hB : nB σ) : sg_g σ 88 56 ≤ 9000 ∧ sg_g σ 88 60 ≤ 12000 := by
  obtain ⟨⟨b1, b2⟩, b3, b4⟩ := hB
  exact ⟨by omega, by omega⟩
theorem x_iota (h0 : sg_g σ 88 73 = 0) (hB : nB σ) (h : aX σ 1 Q (if 0 ≤ a ∧ a ≤ 200 then .inr (mkF ((List.range a.toNat).map (fun i : Nat => nmF (i : Int))), cnL 0 ((List.range a.toNat).map (fun i : Nat => nmF (i : Int)))) else .inl 5)) : V_acted_16 σ a (sg_g σ 88 60) Q := by
  unfold V_acted_16
  refine ⟨fun c => ?_, fun c => ?_⟩
  · have ca : 0 ≤ a ∧ a ≤ 200 := Decidable.byContradiction (fun z => c (v_in_n.mpr z))
    rw [if_pos ca] at h
    refine ⟨fun m v σ3 => ∃ i : Nat, v = i ∧ m = a.toNat - i ∧ i ≤ a.toNat ∧ nAX σ σ3 0 ((List.range i).map (fun i : Nat => nmF (i : Int))), fun σ3 => nAX σ σ3 0 ((List.range a.toNat).map (fun i : Nat => nmF (i : Int))), ⟨_, 0, rfl, rfl, Nat.zero_le _, nAX_0 σ 0⟩, ?_, fun σ3 f3 h3 => m_seqY hB (by rw [List.length_map, List.length_range]; omega) (sg_F_m f3 rfl) h3 (by rw [List.length_map, List.length_range]; omega) rfl (by decide) h⟩
    rintro m v σ3 rv f3 ⟨i, rfl, em, hi, hA⟩
    refine ⟨fun z => ?_, fun z => m_addX (u := nmF (i : Int)) hB (by rw [List.length_map, List.length_range]; omega) hA rv rfl (fun σ' x1 _ x2 _ => ⟨⟨by omega, by omega⟩, a.toNat - (i + 1), by omega, i + 1, by omega, rfl, by omega, ?_⟩)⟩
    · rw [show a.toNat = i by omega]; exact hA
    · rw [List.range_succ, List.map_append]; exact x1
  · rw [if_neg (v_in_n.mp c)] at h
    exact aX_f h0 h (by decide)
theorem x_dist (h0 : sg_g σ 88 73 = 0) (hB : nB σ) (hn : 0 ≤ n ∧ n < 210) (hra : sg_R a) (hk : k ≤ 2) (hT : sg_g σ 101 n = ((k + 1 : Nat) : Int)) (ha : rvF σ k v a) (h : aX σ (k + 1) Q (if 0 ≤ b ∧ b ≤ 200 then .inr (mkF (List.replicate b.toNat v), cnL k (List.replicate b.toNat v)) else .inl 5)) : V_acted_17 σ n a b (sg_g σ 88 60) Q := by
  unfold V_acted_17
  refine ⟨fun c => ?_, fun c => ?_⟩
  · have ca : 0 ≤ b ∧ b ≤ 200 := Decidable.byContradiction (fun z => c (v_in_n.mpr z))
    rw [if_pos ca] at h
    refine ⟨fun m v2 σ3 => ∃ i : Nat, v2 = i ∧ m = b.toNat - i ∧ i ≤ b.toNat ∧ nAX σ σ3 k (List.replicate i v), fun σ3 => nAX σ σ3 k (List.replicate b.toNat v), ⟨_, 0, rfl, rfl, Nat.zero_le _, nAX_0 σ k⟩, ?_, fun σ3 f3 h3 => ⟨hn, m_seqY hB (by rw [List.length_replicate]; omega) (sg_F_m f3 rfl) h3 (by rw [List.length_replicate]; omega) hT hk h⟩⟩
    rintro m v2 σ3 rv f3 ⟨i, rfl, em, hi, hA⟩
    refine ⟨fun z => ?_, fun z => m_addX (u := v) hB (by rw [List.length_replicate]; omega) hA hra (rvF_up hA.1 ha) (fun σ' x1 _ x2 _ => ⟨⟨by omega, by omega⟩, b.toNat - (i + 1), by omega, i + 1, by omega, rfl, by omega, ?_⟩)⟩
    · rw [show b.toNat = i by omega]; exact hA
    · rw [List.replicate_succ']; exact x1
  · rw [if_neg (v_in_n.mp c)] at h
    exact aX_f h0 h (by decide)
theorem aX_0 {w c : Int} (h : aX σ 0 Q (.inr (nmF w, c))) : Q w σ := h w σ rfl (nEx_r σ) ⟨by simp [cnvF], fun _ => rfl, by simp only [cnvF]; omega, by omega⟩ rfl (sg_F_r _ _)
theorem x_sum (hB : nB σ) (ha : rvF σ 1 v a) (h : aX σ 0 Q (.inr (nmF (foF 18 0 (nuF v)), (itF v).length))) : V_acted_18 σ a Q := by
  obtain ⟨n1, n2⟩ := nB_9 hB
  obtain ⟨r1, r2, r3, r4⟩ := rv_x n1 ha
  have lu := nu_l v
  unfold V_acted_18
  rw [r2]
  refine ⟨fun m v1 v2 => ∃ i : Nat, v2 = i ∧ m = (itF v).length - i ∧ i ≤ (itF v).length ∧ foF 18 v1 ((nuF v).drop i) = foF 18 0 (nuF v), fun v1 => v1 = foF 18 0 (nuF v), ⟨_, 0, rfl, rfl, Nat.zero_le _, rfl⟩, ?_, ?_⟩
  · rintro m v1 v2 r1' r2' ⟨i, rfl, em, hi, ef⟩
    refine ⟨r1, fun z => ?_, fun z => ?_⟩
    · rw [List.drop_of_length_le (by omega)] at ef; exact ef
    · obtain ⟨q1, q2⟩ := rx_nu n1 n2 ha (i := i) (by omega)
      refine ⟨q2, ⟨by omega, by omega⟩, (itF v).length - (i + 1), by omega, i + 1, by omega, rfl, by omega, ?_⟩
      rw [dr_c q1, fo_s, if_pos rfl] at ef
      exact ef
  · rintro v1 r1' rfl
    exact aX_0 h
theorem x_max {kk : Int} (h0 : sg_g σ 88 73 = 0) (hB : nB σ) (hn : 0 ≤ n ∧ n < 210) (hkk : sg_g σ 93 n = kk) (hk : kk = 19 ∨ kk = 20) (ha : rvF σ 1 v a) (h : aX σ 0 Q (match nuF v with
    | [] => .inl 4
    | y :: r => .inr (nmF (foF kk y r), (itF v).length))) : V_acted_19 σ n a Q := by
  obtain ⟨n1, n2⟩ := nB_9 hB
  obtain ⟨r1, r2, r3, r4⟩ := rv_x n1 ha
  have lu := nu_l v
  unfold V_acted_19
  rw [r2, hkk]
  refine ⟨r1, fun z => ?_, fun z => ?_⟩
  · obtain ⟨q1, q2⟩ := rx_nu n1 n2 ha (i := 0) (by omega)
    have nc := nu_c (i := 1) q1 rfl
    have e0 : v_itemAt σ a ((0 : Nat) : Int) = v_itemAt σ a 0 := rfl
    rw [e0] at q1 nc
    have hR : aX σ 0 Q (.inr (nmF (foF kk (v_itemAt σ a 0) ((nuF v).drop 1)), (itF v).length)) := by
      rw [nc] at h
      rw [nc]
      simp only [List.drop_succ_cons, List.drop_zero]
      exact h
    refine ⟨q2, fun m v5 v6 => ∃ i : Nat, v6 = (i + 1 : Nat) ∧ m = (itF v).length - (i + 1) ∧ foF kk v5 ((nuF v).drop (i + 1)) = foF kk (v_itemAt σ a 0) ((nuF v).drop 1), fun v5 => v5 = foF kk (v_itemAt σ a 0) ((nuF v).drop 1), ⟨_, 0, rfl, rfl, rfl⟩, ?_, ?_⟩
    · rintro m v5 v6 r5 r6 ⟨i, rfl, em, ef⟩
      refine ⟨fun y => ?_, fun y => ?_⟩
      · rw [List.drop_of_length_le (by omega)] at ef; exact ef
      · obtain ⟨p1, p2⟩ := rx_nu n1 n2 ha (i := i + 1) (by omega)
        refine ⟨p2, hn, ⟨fun _ => ⟨fun _ => trivial, fun _ => trivial⟩, fun _ => ⟨fun _ => trivial, fun _ => trivial⟩⟩, fun v28 e28 r28 => ⟨⟨by omega, by omega⟩, (itF v).length - (i + 1 + 1), by omega, i + 1, by omega, rfl, ?_⟩⟩
        rw [dr_c p1, fo_s] at ef
        rw [← ef, e28]
        congr 1
        rcases hk with e | e
        · subst e
          rw [if_neg (fun q => q rfl), if_neg (show ¬ (19 : Int) = 18 by decide), if_pos (show (19 : Int) = 19 from rfl)]
          by_cases c : v_itemAt σ a ((i + 1 : Nat) : Int) ≤ v5
          · rw [if_pos c, if_neg (by omega)]
          · rw [if_neg c, if_pos (by omega)]
        · subst e
          rw [if_pos (show ¬ (20 : Int) = 19 by decide), if_neg (show ¬ (20 : Int) = 18 by decide), if_neg (show ¬ (20 : Int) = 19 by decide)]
          by_cases c : v5 ≤ v_itemAt σ a ((i + 1 : Nat) : Int)
          · rw [if_pos c, if_neg (by omega)]
          · rw [if_neg c, if_pos (by omega)]
    · rintro v5 r5 rfl
      exact aX_0 hR
  · have n0 : nuF v = [] := List.eq_nil_of_length_eq_zero (by omega)
    rw [n0] at h
    exact aX_f h0 h (by decide)
theorem x_scan (hB : nB σ) (ha : rvF σ 1 v a) (h : aX σ 1 Q (.inr (mkF ((scnF 0 (nuF v)).map nmF), cnL 0 ((scnF 0 (nuF v)).map nmF)))) : V_acted_21 σ a (sg_g σ 88 60) Q := by
  obtain ⟨n1, n2⟩ := nB_9 hB
  obtain ⟨r1, r2, r3, r4⟩ := rv_x n1 ha
  have sl : (scnF 0 (nuF v)).length = (itF v).length := by rw [sc_l, nu_l]
  unfold V_acted_21
  rw [r2]
  refine ⟨fun m v1 v2 σ3 => ∃ i : Nat, v2 = i ∧ m = (itF v).length - i ∧ i ≤ (itF v).length ∧ (scnF 0 (nuF v)).drop i = scnF v1 ((nuF v).drop i) ∧ nAX σ σ3 0 (((scnF 0 (nuF v)).take i).map nmF), fun σ3 => nAX σ σ3 0 ((scnF 0 (nuF v)).map nmF), ⟨_, 0, rfl, rfl, Nat.zero_le _, rfl, nAX_0 σ 0⟩, ?_, fun σ3 f3 h3 => ⟨r1, m_seqY hB (by rw [List.length_map]; omega) (sg_F_m f3 rfl) h3 (by rw [List.length_map]; omega) rfl (by decide) h⟩⟩
  rintro m v1 v2 σ3 r1' r2' f3 ⟨i, rfl, em, hi, ed, hA⟩
  refine ⟨r1, fun z => ?_, fun z => ?_⟩
  · have : (scnF 0 (nuF v)).take i = scnF 0 (nuF v) := List.take_of_length_le (by omega)
    rw [this] at hA; exact hA
  · obtain ⟨q1, q2⟩ := rx_nu n1 n2 ha (i := i) (by omega)
    rw [dr_c q1] at ed
    simp only [scnF] at ed
    have g1 : (scnF 0 (nuF v))[i]? = some v1 := by rw [← List.head?_drop, ed]; rfl
    refine m_addX (u := nmF v1) hB (by rw [List.length_map, List.length_take]; omega) hA r1' rfl (fun σ' x1 _ x2 _ => ?_)
    obtain ⟨w, hw⟩ := gE_x (l := itF v) (i := i) (by omega)
    have it' := mX_it hB (by rw [List.length_append, List.length_map, List.length_take, List.length_cons, List.length_nil]; omega) x1 ha hw
    have it0 := rv_it n1 n2 ha hw
    have ev : v_itemAt σ' a (i : Int) = v_itemAt σ a (i : Int) := it'.2.symm.trans it0.2
    rw [ev]
    refine ⟨it'.1, ⟨by omega, by omega⟩, (itF v).length - (i + 1), by omega, i + 1, by omega, rfl, by omega, ?_, ?_⟩
    · have := dr_c g1
      rw [ed] at this
      injection this with _ this
      exact this.symm
    · rw [tkF_1 g1, List.map_append]; exact x1
theorem x_rev (hB : nB σ) (hn : 0 ≤ n ∧ n < 210) (hk : k ≤ 2) (hT : sg_g σ 101 n = ((k + 1 : Nat) : Int)) (ha : rvF σ (k + 1) v a) (h : aX σ (k + 1) Q (.inr (mkF (itF v).reverse, cnL k (itF v).reverse))) : V_acted_22 σ n a (sg_g σ 88 60) Q := by
  obtain ⟨n1, n2⟩ := nB_9 hB
  obtain ⟨r1, r2, r3, r4⟩ := rv_x n1 ha
  unfold V_acted_22
  rw [r2]
  refine ⟨r1, ⟨by omega, by omega⟩, fun m v3 σ4 => ∃ j : Nat, v3 = (itF v).length - 1 - j ∧ m = (itF v).length - j ∧ j ≤ (itF v).length ∧ nAX σ σ4 k ((itF v).reverse.take j), fun σ4 => nAX σ σ4 k (itF v).reverse, ⟨_, 0, by omega, rfl, Nat.zero_le _, nAX_0 σ k⟩, ?_, fun σ3 f3 h3 => ⟨hn, m_seqY hB (by rw [List.length_reverse]; omega) (sg_F_m f3 rfl) h3 (by rw [List.length_reverse]) hT hk h⟩⟩
  rintro m v3 σ4 r3' f4 ⟨j, e3, em, hj, hA⟩
  refine ⟨fun z => ?_, fun z => ?_⟩
  · have : (itF v).reverse.take j = (itF v).reverse := List.take_of_length_le (by rw [List.length_reverse]; omega)
    rw [this] at hA; exact hA
  · obtain ⟨u, hu⟩ := gE_x (l := itF v) (i := (itF v).length - 1 - j) (by omega)
    have q := mX_it hB (by rw [List.length_take, List.length_reverse]; omega) hA ha hu
    rw [show (((itF v).length - 1 - j : Nat) : Int) = v3 by omega] at q
    have hr : (itF v).reverse[j]? = some u := by rw [List.getElem?_reverse (by omega)]; exact hu
    refine ⟨q.1, m_addX hB (by rw [List.length_take, List.length_reverse]; omega) hA (sg_Rg _ _ _) q.2 (fun σ' x1 _ x2 _ => ⟨⟨by omega, by omega⟩, (itF v).length - (j + 1), by omega, j + 1, by omega, rfl, by omega, ?_⟩)⟩
    rw [tkF_1 hr]; exact x1
theorem x_cat (h0 : sg_g σ 88 73 = 0) (hB : nB σ) (hn : 0 ≤ n ∧ n < 210) (hk : k ≤ 2) (hT : sg_g σ 101 n = ((k + 1 : Nat) : Int)) (ha : rvF σ (k + 1) v a) (hb : rvF σ (k + 1) u b) (h : aX σ (k + 1) Q (if (itF v).length + (itF u).length ≤ 200 then .inr (mkF (itF v ++ itF u), cnL k (itF v ++ itF u)) else .inl 5)) : V_acted_23 σ n a b (sg_g σ 88 60) Q := by
  obtain ⟨n1, n2⟩ := nB_9 hB
  obtain ⟨r1, r2, r3, r4⟩ := rv_x n1 ha
  obtain ⟨s1, s2, s3, s4⟩ := rv_x n1 hb
  unfold V_acted_23
  rw [r2, s2]
  refine ⟨r1, s1, ⟨by omega, by omega⟩, fun c => ?_, fun c => ?_⟩
  · rw [if_pos (by omega)] at h
    have tl : (itF v ++ itF u).length = (itF v).length + (itF u).length := List.length_append
    refine ⟨fun m v5 σ6 => ∃ i : Nat, v5 = i ∧ m = (itF v).length + (itF u).length - i ∧ i ≤ (itF v).length + (itF u).length ∧ nAX σ σ6 k ((itF v ++ itF u).take i), fun σ6 => nAX σ σ6 k (itF v ++ itF u), ⟨_, 0, rfl, rfl, Nat.zero_le _, nAX_0 σ k⟩, ?_, fun σ3 f3 h3 => ⟨hn, m_seqY hB (by omega) (sg_F_m f3 rfl) h3 (by omega) hT hk h⟩⟩
    rintro m v5 σ6 r5 f6 ⟨i, rfl, em, hi, hA⟩
    refine ⟨fun z => ?_, fun z => ?_⟩
    · have : (itF v ++ itF u).take i = itF v ++ itF u := List.take_of_length_le (by omega)
      rw [this] at hA; exact hA
    · have hA4 : ((itF v ++ itF u).take i).length < 400 := by rw [List.length_take]; omega
      by_cases y : (itF v).length ≤ i
      · obtain ⟨w, hw⟩ := gE_x (l := itF u) (i := i - (itF v).length) (by omega)
        have q := mX_it hB hA4 hA hb hw
        rw [show ((i - (itF v).length : Nat) : Int) = (i : Int) - (itF v).length by omega] at q
        have hcc : (itF v ++ itF u)[i]? = some w := by rw [List.getElem?_append_right y]; exact hw
        refine ⟨⟨fun _ => ⟨⟨by omega, by omega⟩, q.1, trivial⟩, fun y2 => by omega⟩, fun v30 e30 r30 => m_addX (u := w) hB hA4 hA r30 ?_ (fun σ' x1 _ x2 _ => ⟨⟨by omega, by omega⟩, (itF v).length + (itF u).length - (i + 1), by omega, i + 1, by omega, rfl, by omega, ?_⟩)⟩
        · rw [e30, if_pos (by omega)]; exact q.2
        · rw [tkF_1 hcc]; exact x1
      · obtain ⟨w, hw⟩ := gE_x (l := itF v) (i := i) (by omega)
        have q := mX_it hB hA4 hA ha hw
        have hcc : (itF v ++ itF u)[i]? = some w := by rw [List.getElem?_append_left (by omega)]; exact hw
        refine ⟨⟨fun y2 => by omega, fun _ => ⟨q.1, trivial⟩⟩, fun v30 e30 r30 => m_addX (u := w) hB hA4 hA r30 ?_ (fun σ' x1 _ x2 _ => ⟨⟨by omega, by omega⟩, (itF v).length + (itF u).length - (i + 1), by omega, i + 1, by omega, rfl, by omega, ?_⟩)⟩
        · rw [e30, if_neg (by omega)]; exact q.2
        · rw [tkF_1 hcc]; exact x1
  · rw [if_neg (by omega)] at h
    exact aX_f h0 h (by decide)
theorem x_pack (h0 : sg_g σ 88 73 = 0) (hB : nB σ) (hn : 0 ≤ n ∧ n < 210) (hk : k ≤ 2) (hT : sg_g σ 101 n = ((k + 1 : Nat) : Int)) (ha : rvF σ (k + 1) v a) (hb : rvF σ 1 u b) (h : aX σ (k + 1) Q (if (itF v).length = (itF u).length then .inr (mkF (pkF (itF v) (nuF u)), cnL k (pkF (itF v) (nuF u))) else .inl 3)) : V_acted_25 σ n a b (sg_g σ 88 60) Q := by
  obtain ⟨n1, n2⟩ := nB_9 hB
  obtain ⟨r1, r2, r3, r4⟩ := rv_x n1 ha
  obtain ⟨s1, s2, s3, s4⟩ := rv_x n1 hb
  have b3 := hB.2
  have lu := nu_l u
  unfold V_acted_25
  rw [r2, s2]
  refine ⟨r1, s1, fun c => ?_, fun c => ?_⟩
  · rw [if_pos (by omega)] at h
    refine ⟨fun m v4 σ5 => ∃ i : Nat, v4 = i ∧ m = (itF v).length - i ∧ i ≤ (itF v).length ∧ nAX σ σ5 k (pkF ((itF v).take i) ((nuF u).take i)), fun σ5 => nAX σ σ5 k (pkF (itF v) (nuF u)), ⟨_, 0, rfl, rfl, Nat.zero_le _, nAX_0 σ k⟩, ?_, fun σ3 f3 h3 => ?_⟩
    · rintro m v4 σ5 r4' f5 ⟨i, rfl, em, hi, hA⟩
      have pl4 : (pkF ((itF v).take i) ((nuF u).take i)).length < 400 := by
        have := pk_l ((itF v).take i) ((nuF u).take i)
        rw [List.length_take] at this
        omega
      refine ⟨fun z => ?_, fun z => ?_⟩
      · have e1 : (itF v).take i = itF v := List.take_of_length_le (by omega)
        have e2 : (nuF u).take i = nuF u := List.take_of_length_le (by omega)
        rw [e1, e2] at hA; exact hA
      · obtain ⟨w, hw⟩ := gE_x (l := itF v) (i := i) (by omega)
        obtain ⟨x, hx⟩ := gE_x (l := itF u) (i := i) (by omega)
        have qa := mX_it hB pl4 hA ha hw
        have qb := mX_it hB pl4 hA hb hx
        have nx : (nuF u)[i]? = some (v_itemAt σ5 b (i : Int)) := by
          unfold nuF
          rw [List.getElem?_map, hx]
          show some (x []) = _
          rw [qb.2]
        have st := pk_s hw nx
        refine ⟨qb.1, fun σ33 => nAX σ σ33 k (pkF ((itF v).take (i + 1)) ((nuF u).take (i + 1))), ⟨fun y => ?_, fun y => ⟨qa.1, m_addX (u := w) hB pl4 hA (sg_Rg _ _ _) qa.2 (fun σ' x1 _ x2 _ => ?_)⟩⟩, fun σ33 f33 h33 => ⟨⟨by omega, by omega⟩, (itF v).length - (i + 1), by omega, i + 1, by omega, rfl, by omega, h33⟩⟩
        · rw [st, if_pos y, List.append_nil]; exact hA
        · rw [st, if_neg y]; exact x1
    · have pl := pk_l (itF v) (nuF u)
      have e := h3.2.2.1
      refine ⟨⟨by omega, by omega⟩, hn, m_seqY hB (by omega) (sg_F_m f3 rfl) h3 (by omega) hT hk h⟩
  · rw [if_neg (by omega)] at h
    exact aX_f h0 h (by decide)
end ACX
/-! flat, perm, part of nested runs of the reference, exactly; all ACTS. -/
section ACY
variable {σ : sg_S} {n a b : Int} {k : Nat} {u v : vaF} {Q : Int → sg_S → Prop}
theorem x_flat (h0 : sg_g σ 88 73 = 0) (hB : nB σ) (hn : 0 ≤ n ∧ n < 210) (hk : k ≤ 1) (hT : sg_g σ 101 n = ((k + 1 : Nat) : Int)) (ha : rvF σ (k + 2) v a) (h : aX σ (k + 1) Q (if sumF ((itF v).map (fun v => ((itF v).length : Int))) ≤ 200 then .inr (mkF ((itF v).map itF).flatten, cnL k ((itF v).map itF).flatten) else .inl 5)) : V_flattened σ n a Q := by
  obtain ⟨n1, n2⟩ := nB_9 hB
  obtain ⟨r1, r2, r3, r4⟩ := rv_x n1 ha
  have it : ∀ (i : Nat) (z : vaF), (itF v)[i]? = some z → p_itemAt σ a (i : Int) ∧ (0 ≤ v_itemAt σ a (i : Int) ∧ v_itemAt σ a (i : Int) < 9000) ∧ sg_g σ 123 (v_itemAt σ a (i : Int)) = (itF z).length ∧ (itF z).length ≤ 200 ∧ rvF σ (k + 1) z (v_itemAt σ a (i : Int)) := fun i z hz => by
    have q := rv_it n1 n2 ha hz
    obtain ⟨p1, p2, p3, p4⟩ := rv_x n1 q.2
    exact ⟨q.1, p1, p2, p3, q.2⟩
  have sm : ∀ i : Nat, i ≤ (itF v).length → 0 ≤ sumF (((itF v).take i).map (fun v => ((itF v).length : Int))) ∧ sumF (((itF v).take i).map (fun v => ((itF v).length : Int))) ≤ 200 * i := fun i => by
    induction i with
    | zero => intro _; simp [sumF]
    | succ i ih =>
      intro hi
      obtain ⟨z, hz⟩ := gE_x (l := itF v) (i := i) (by omega)
      have a := ih (by omega)
      have b := (it i z hz).2.2.2.1
      rw [tkF_1 hz, List.map_append, sumF_a]
      simp only [List.map_cons, List.map_nil, sumF]
      omega
  unfold V_flattened
  rw [r2]
  refine ⟨fun m v1 v2 => ∃ i : Nat, v2 = i ∧ m = (itF v).length - i ∧ i ≤ (itF v).length ∧ v1 = sumF (((itF v).take i).map (fun v => ((itF v).length : Int))), fun v1 => v1 = sumF ((itF v).map (fun v => ((itF v).length : Int))), ⟨_, 0, rfl, rfl, Nat.zero_le _, rfl⟩, ?_, ?_⟩
  · rintro m v1 v2 r1' r2' ⟨i, rfl, em, hi, e1⟩
    have sb := sm i hi
    refine ⟨r1, fun c => ?_, fun c => ?_⟩
    · have : (itF v).take i = itF v := List.take_of_length_le (by omega)
      rw [this] at e1; exact e1
    · obtain ⟨z, hz⟩ := gE_x (l := itF v) (i := i) (by omega)
      obtain ⟨p1, p2, p3, p4, p5⟩ := it i z hz
      rw [p3]
      refine ⟨p1, p2, ⟨by omega, by omega⟩, ⟨by omega, by omega⟩, (itF v).length - (i + 1), by omega, i + 1, by omega, rfl, by omega, ?_⟩
      rw [tkF_1 hz, List.map_append, sumF_a, e1]
      simp only [List.map_cons, List.map_nil, sumF]
      omega
  · rintro v1 r1' rfl
    have s1 := sm (itF v).length (Nat.le_refl _)
    rw [List.take_length] at s1
    refine ⟨fun c => ?_, fun c => ?_⟩
    · rw [if_pos c] at h
      have fl := fl_l (itF v)
      have sub : ∀ i : Nat, (((itF v).take i).map itF).flatten.length ≤ 200 := fun i => by
        have e2 := List.take_append_drop i (itF v)
        have e3 : ((itF v).map itF).flatten.length = (((itF v).take i).map itF).flatten.length + (((itF v).drop i).map itF).flatten.length := by
          rw [← List.length_append, ← List.flatten_append, ← List.map_append, e2]
        omega
      refine ⟨fun m v19 σ20 => ∃ i : Nat, v19 = i ∧ m = (itF v).length - i ∧ i ≤ (itF v).length ∧ nAX σ σ20 k (((itF v).take i).map itF).flatten, fun σ20 => nAX σ σ20 k ((itF v).map itF).flatten, ⟨_, 0, rfl, rfl, Nat.zero_le _, nAX_0 σ k⟩, ?_, fun σ3 f3 h3 => ⟨hn, m_seqY hB (by omega) (sg_F_m f3 rfl) h3 (by omega) hT (by omega) h⟩⟩
      rintro m v19 σ20 r19 f20 ⟨i, rfl, em, hi, hA⟩
      refine ⟨r1, fun z => ?_, fun z => ?_⟩
      · have : (itF v).take i = itF v := List.take_of_length_le (by omega)
        rw [this] at hA; exact hA
      · obtain ⟨w, hw⟩ := gE_x (l := itF v) (i := i) (by omega)
        obtain ⟨p1, p2, p3, p4, p5⟩ := it i w hw
        have sbi := sub i
        have sbi1 := sub (i + 1)
        have t := mX_it hB (by omega) hA ha hw
        have ev : v_itemAt σ20 a (i : Int) = v_itemAt σ a (i : Int) := by
          have e := nAX_s hA ha
          unfold v_itemAt
          rw [e.2]
          have a2 := ha.2.2.1
          exact hA.1.2.2 _ (by omega) (by omega)
        have hl : (((itF v).take (i + 1)).map itF).flatten = (((itF v).take i).map itF).flatten ++ itF w := by
          rw [tkF_1 hw, List.map_append, List.flatten_append]; simp
        rw [hl, List.length_append] at sbi1
        rw [ev] at t ⊢
        rw [p3]
        refine ⟨t.1, fun m2 v45 σ46 => ∃ j : Nat, v45 = j ∧ m2 = (itF w).length - j ∧ j ≤ (itF w).length ∧ nAX σ σ46 k ((((itF v).take i).map itF).flatten ++ (itF w).take j), fun σ46 => nAX σ σ46 k ((((itF v).take i).map itF).flatten ++ itF w), ⟨_, 0, rfl, rfl, Nat.zero_le _, by rw [List.take_zero, List.append_nil]; exact hA⟩, ?_, fun σ46 f46 h46 => ⟨⟨by omega, by omega⟩, (itF v).length - (i + 1), by omega, i + 1, by omega, rfl, by omega, by rw [hl]; exact h46⟩⟩
        rintro m2 v45 σ46 r45 f46 ⟨j, rfl, em2, hj, hA2⟩
        have la : ((((itF v).take i).map itF).flatten ++ (itF w).take j).length < 400 := by rw [List.length_append, List.length_take]; omega
        refine ⟨p2, fun y => ?_, fun y => ?_⟩
        · have : (itF w).take j = itF w := List.take_of_length_le (by omega)
          rw [this] at hA2; exact hA2
        · obtain ⟨z', hz'⟩ := gE_x (l := itF w) (i := j) (by omega)
          have q := mX_it hB la hA2 p5 hz'
          refine ⟨q.1, m_addX (u := z') hB la hA2 (sg_Rg _ _ _) q.2 (fun σ' x1 _ x2 _ => ⟨⟨by omega, by omega⟩, (itF w).length - (j + 1), by omega, j + 1, by omega, rfl, by omega, ?_⟩)⟩
          rw [tkF_1 hz', ← List.append_assoc]; exact x1
    · rw [if_neg (by omega)] at h
      exact aX_f h0 h (by decide)
theorem x_order {fr : Int} {m : Nat} {nu : List Int} {Q : Int → sg_S → Prop} (hn : nu.length = m) (h200 : m ≤ 200) (hf : 0 ≤ fr) (hfm : fr + m ≤ 12000) (h125 : ∀ (i : Nat) (z : Int), nu[i]? = some z → sg_g σ 125 (fr + i) = z) (k0 : ivF m 0 nu (fun _ => -1) = none → ∀ σ', sg_F [135] σ σ' → Q 0 σ') (k1 : ∀ g, ivF m 0 nu (fun _ => -1) = some g → ∀ σ', sg_F [135] σ σ' → (∀ p, 0 ≤ p → p < m → sg_g σ' 135 p = g p) → Q 1 σ') : V_isOrder σ fr (m : Int) 1 Q := by
  unfold V_isOrder
  refine ⟨fun q v σ2 => ∃ i : Nat, v = i ∧ q = m - i ∧ i ≤ m ∧ ∀ p, 0 ≤ p → p < (i : Int) → sg_g σ2 135 p = -1, fun σ2 => ∀ p, 0 ≤ p → p < (m : Int) → sg_g σ2 135 p = -1, ⟨_, 0, rfl, rfl, Nat.zero_le _, fun p a b => by omega⟩, ?_, ?_⟩
  · rintro q v σ2 rv f2 ⟨i, rfl, em, hi, hp⟩
    refine ⟨fun c p x y => hp p x (by omega), fun c => ⟨⟨by omega, by omega⟩, fun σ66 e66 => ⟨⟨by omega, by omega⟩, m - (i + 1), by omega, i + 1, by omega, rfl, by omega, fun p x y => ?_⟩⟩⟩
    by_cases e : p = i
    · rw [e, e66, sg_gw_e _ _ _ _ (by decide)]
    · rw [e66, sg_gw_k _ _ _ _ _ _ e]; exact hp p x (by omega)
  · intro σ2 f2 h2
    refine ⟨fun q is v σ18 => ∃ i : Nat, v = i ∧ q = m - i ∧ i ≤ m ∧ ((is = 0 ∧ ivF m 0 nu (fun _ => -1) = none) ∨ (is = 1 ∧ ∃ g : Int → Int, ivF m i (nu.drop i) g = ivF m 0 nu (fun _ => -1) ∧ (∀ p, 0 ≤ p → p < (m : Int) → sg_g σ18 135 p = g p))), fun is σ18 => (is = 0 ∧ ivF m 0 nu (fun _ => -1) = none) ∨ (is = 1 ∧ ∃ g : Int → Int, ivF m 0 nu (fun _ => -1) = some g ∧ ∀ p, 0 ≤ p → p < (m : Int) → sg_g σ18 135 p = g p), ⟨_, 0, rfl, rfl, Nat.zero_le _, Or.inr ⟨rfl, fun _ => -1, rfl, fun p a b => h2 p a b⟩⟩, ?_, ?_⟩
    · rintro q is v σ18 ris rv f18 ⟨i, rfl, em, hi, hh⟩
      have fin : (m : Int) ≤ i → (is = 0 ∧ ivF m 0 nu (fun _ => -1) = none) ∨ (is = 1 ∧ ∃ g : Int → Int, ivF m 0 nu (fun _ => -1) = some g ∧ ∀ p, 0 ≤ p → p < (m : Int) → sg_g σ18 135 p = g p) := fun c => by
        rcases hh with z | ⟨z, g, z1, z2⟩
        · exact Or.inl z
        · rw [List.drop_of_length_le (by omega)] at z1
          exact Or.inr ⟨z, g, z1.symm, z2⟩
      refine ⟨fin, fun c => ⟨fun z => ?_, fun z => ?_⟩⟩
      · rcases hh with y | ⟨y, -⟩
        · exact Or.inl y
        · omega
      · rcases hh with ⟨y, -⟩ | ⟨y, g, g1, g2⟩
        · exact absurd y z
        obtain ⟨w, hw⟩ := gE_x (l := nu) (i := i) (by omega)
        have e125 := h125 i w hw
        rw [dr_c hw] at g1
        simp only [ivF] at g1
        refine ⟨⟨fun w' => absurd w' (by decide), fun _ => ⟨⟨by omega, by omega⟩, ⟨by omega, by omega⟩, trivial⟩⟩, fun v37 e37 r37 => ?_⟩
        rw [if_neg (by decide), e125] at e37
        subst e37
        refine ⟨⟨by omega, by omega⟩, ⟨fun _ => trivial, fun w' => ?_⟩, fun v43 e43 r43 => ?_⟩
        · have w2 : 0 ≤ v37 ∧ v37 ≤ (m : Int) - 1 := Decidable.byContradiction (fun u => w' (v_in_n.mpr u))
          exact ⟨⟨w2.1, by omega⟩, fun _ => trivial, fun _ => trivial⟩
        · by_cases w' : v_in v37 0 ((m : Int) - 1) = 0
          · rw [if_pos w'] at e43
            have nw := v_in_n.mp w'
            refine ⟨fun _ => True, ⟨fun _ => trivial, fun u => absurd e43 u⟩, fun σ49 f49 _ => ⟨⟨by omega, by omega⟩, m - (i + 1), by omega, i + 1, by omega, rfl, by omega, Or.inl ⟨e43, by rw [← g1, if_neg (by omega)]⟩⟩⟩
          · have w2 : 0 ≤ v37 ∧ v37 ≤ (m : Int) - 1 := Decidable.byContradiction (fun u => w' (v_in_n.mpr u))
            rw [if_neg w'] at e43
            have gv := g2 v37 w2.1 (by omega)
            by_cases u : sg_g σ18 135 v37 = -1
            · rw [if_neg (fun t => t u)] at e43
              rw [gv] at u
              refine ⟨fun σ49 => ∀ p, 0 ≤ p → p < (m : Int) → sg_g σ49 135 p = (if p = v37 then (i : Int) else g p), ⟨fun t => absurd t (by omega), fun _ => ⟨⟨w2.1, by omega⟩, fun σ55 e55 p p0 p1 => ?_⟩⟩, fun σ49 f49 h49 => ⟨⟨by omega, by omega⟩, m - (i + 1), by omega, i + 1, by omega, rfl, by omega, Or.inr ⟨e43, fun y => if y = v37 then (i : Int) else g y, by rw [← g1, if_pos ⟨w2.1, by omega, u⟩], h49⟩⟩⟩
              by_cases cp : p = v37
              · rw [if_pos cp, cp, e55, sg_gw_e _ _ _ _ rv]
              · rw [if_neg cp, e55, sg_gw_k _ _ _ _ _ _ cp]; exact g2 p p0 p1
            · rw [if_pos u] at e43
              rw [gv] at u
              refine ⟨fun _ => True, ⟨fun _ => trivial, fun t => absurd e43 t⟩, fun σ49 f49 _ => ⟨⟨by omega, by omega⟩, m - (i + 1), by omega, i + 1, by omega, rfl, by omega, Or.inl ⟨e43, by rw [← g1, if_neg (fun t => u t.2.2)]⟩⟩⟩
    · rintro is σ18 ris f18 (⟨z, hz⟩ | ⟨z, g, hg, hz⟩)
      · rw [z]; exact ⟨Or.inl rfl, k0 hz σ18 (sg_F_t f2 f18)⟩
      · rw [z]; exact ⟨Or.inr rfl, k1 g hg σ18 (sg_F_t f2 f18) (fun p a b => hz p (by omega) (by omega))⟩
theorem x_perm (h0 : sg_g σ 88 73 = 0) (hB : nB σ) (hn : 0 ≤ n ∧ n < 210) (hk : k ≤ 2) (hT : sg_g σ 101 n = ((k + 1 : Nat) : Int)) (ha : rvF σ (k + 1) v a) (hb : rvF σ 1 u b) (h : aX σ (k + 1) Q (if (itF v).length = (itF u).length then (match ivF (itF u).length 0 (nuF u) (fun _ => -1) with
    | none => .inl 6
    | some g => .inr (mkF ((List.range (itF v).length).map (fun i : Nat => (itF v).getD (g i).toNat (nmF 0))), cnL k ((List.range (itF v).length).map (fun i : Nat => (itF v).getD (g i).toNat (nmF 0))))) else .inl 3)) : V_permuted σ n a b Q := by
  obtain ⟨n1, n2⟩ := nB_9 hB
  obtain ⟨r1, r2, r3, r4⟩ := rv_x n1 ha
  obtain ⟨s1, s2, s3, s4⟩ := rv_x n1 hb
  have hb2 := hb.2.2.1
  have hB2 := hB.2
  have lu := nu_l u
  unfold V_permuted
  rw [r2, s2]
  refine ⟨r1, s1, fun c => ?_, fun c => ?_⟩
  · have zl : (itF v).length = (itF u).length := by omega
    rw [if_pos zl] at h
    refine x_order (nu := nuF u) lu s3 hb2.1 (by omega) (fun i z hz => ?_) (fun e σ5 f5 _ _ => ⟨fun z => absurd rfl z, fun _ => ?_⟩) (fun g e σ5 f5 hg _ _ => ⟨fun _ => ?_, fun z => absurd z (by decide)⟩)
    · have hi := gE_l hz
      obtain ⟨q1, q2⟩ := rx_nu n1 n2 hb (i := i) (by omega)
      rw [q1] at hz
      exact Option.some.inj hz
    · rw [e] at h
      exact m_endsX (by rw [sg_F_g f5 (by rfl)]; exact h0) (by decide) (fun σ' x1 x2 _ => h 0 σ' x1 (sg_F_t (sg_F_m f5 rfl) (sg_F_m x2 rfl)))
    · rw [e] at h
      have n5 : nAX σ σ5 k [] := ⟨nEx_F f5 rfl, sg_F_g f5 rfl, by rw [sg_F_g f5 (by rfl)]; simp, fun i w hw => by simp at hw⟩
      refine ⟨fun m v11 σ12 => ∃ i : Nat, v11 = i ∧ m = (itF v).length - i ∧ i ≤ (itF v).length ∧ nAX σ σ12 k ((List.range i).map (fun i : Nat => (itF v).getD (g i).toNat (nmF 0))), fun σ12 => nAX σ σ12 k ((List.range (itF v).length).map (fun i : Nat => (itF v).getD (g i).toNat (nmF 0))), ⟨_, 0, rfl, rfl, Nat.zero_le _, n5⟩, ?_, fun σ3 f3 h3 => ⟨hn, m_seqY hB (by rw [List.length_map, List.length_range]; omega) (sg_F_t (sg_F_m f5 rfl) (sg_F_m f3 rfl)) h3 (by rw [List.length_map, List.length_range]) hT hk h⟩⟩
      rintro m v11 σ12 r11 f12 ⟨i, rfl, em, hi, hA⟩
      have l4 : ((List.range i).map (fun i : Nat => (itF v).getD (g i).toNat (nmF 0))).length < 400 := by rw [List.length_map, List.length_range]; omega
      refine ⟨fun z => ?_, fun z => ?_⟩
      · rw [show (itF v).length = i by omega]; exact hA
      · have gi := iv_all lu e (p := (i : Int)) ⟨by omega, by omega⟩
        obtain ⟨w, hw⟩ := gE_x (l := itF v) (i := (g i).toNat) (by omega)
        have q := mX_it hB l4 hA ha hw
        rw [show (((g i).toNat : Nat) : Int) = g i by omega] at q
        rw [hg i (by omega) (by omega)]
        refine ⟨⟨by omega, by omega⟩, q.1, m_addX (u := w) hB l4 hA (sg_Rg _ _ _) q.2 (fun σ' x1 _ x2 _ => ⟨⟨by omega, by omega⟩, (itF v).length - (i + 1), by omega, i + 1, by omega, rfl, by omega, ?_⟩)⟩
        rw [List.range_succ, List.map_append]
        simp only [List.map_cons, List.map_nil]
        rw [List.getD_eq_getElem?_getD (l := itF v) (i := (g i).toNat), hw, Option.getD_some]
        exact x1
  · rw [if_neg (by omega)] at h
    exact aX_f h0 h (by decide)
theorem x_part (h0 : sg_g σ 88 73 = 0) (hB : (0 ≤ sg_g σ 88 56 ∧ sg_g σ 88 56 ≤ 3000) ∧ 0 ≤ sg_g σ 88 60 ∧ sg_g σ 88 60 ≤ 3000) (hn : 0 ≤ n ∧ n < 210) (hk : k ≤ 1) (hT : sg_g σ 101 n = ((k + 2 : Nat) : Int)) (ha : rvF σ (k + 1) v a) (hb : rvF σ 1 u b) (h : aX σ (k + 2) Q (if (nuF u).any (fun x => decide (x < 0)) = true then .inl 5 else if sumF (nuF u) = (itF v).length then .inr (mkF (ptF (itF v) (nuF u)), cnL (k + 1) (ptF (itF v) (nuF u))) else .inl 3)) : V_parted σ n a b Q := by
  have hB' : nB σ := by unfold nB; omega
  obtain ⟨n1, n2⟩ := nB_9 hB'
  obtain ⟨r1, r2, r3, r4⟩ := rv_x n1 ha
  obtain ⟨s1, s2, s3, s4⟩ := rv_x n1 hb
  have ha2 := ha.2.2.1
  have hb2 := hb.2.2.1
  have lu := nu_l u
  unfold V_parted
  rw [r2, s2]
  refine ⟨fun m v1 v2 σ3 => ∃ i : Nat, v2 = i ∧ m = (itF u).length - i ∧ i ≤ (itF u).length ∧ v1 = sumF ((nuF u).take i) ∧ (∀ q ∈ (nuF u).take i, 0 ≤ q) ∧ v1 ≤ i * 2147483647 ∧ σ3 = σ, fun v1 σ3 => v1 = sumF (nuF u) ∧ (∀ q ∈ nuF u, 0 ≤ q) ∧ σ3 = σ, ⟨_, 0, rfl, rfl, Nat.zero_le _, rfl, fun q hq => by simp at hq, by omega, rfl⟩, ?_, ?_⟩
  · rintro m v1 v2 σ3 r1' r2' f3 ⟨i, rfl, em, hi, e1, hl, hv, rfl⟩
    refine ⟨s1, fun c => ?_, fun c => ?_⟩
    · have et : (nuF u).take i = nuF u := List.take_of_length_le (by omega)
      rw [et] at e1 hl
      exact ⟨e1, hl, rfl⟩
    · obtain ⟨q1, q2⟩ := rx_nu n1 n2 hb (i := i) (by omega)
      have rr : sg_R (v_itemAt σ3 b (i : Int)) := sg_Rg _ _ _
      have rr2 := rr.2
      have s0 := sm_0 _ hl
      refine ⟨q2, fun z => ⟨q2, ⟨by omega, by omega⟩, ⟨by omega, by omega⟩, (itF u).length - (i + 1), by omega, i + 1, by omega, rfl, by omega, ?_, fun q hq => ?_, by omega, rfl⟩, fun z => ?_⟩
      · rw [tkF_1 q1, sumF_a, e1]; simp [sumF]
      · rw [tkF_1 q1] at hq
        rcases List.mem_append.mp hq with y | y
        · exact hl q y
        · simp at y; rw [y]; exact z
      · rw [if_pos (List.any_eq_true.mpr ⟨_, List.mem_of_getElem? q1, by simpa using z⟩)] at h
        exact m_endsX h0 (by decide) (fun σ' x1 x2 _ => h 0 σ' x1 (sg_F_m x2 rfl))
  · rintro v1 σ3 r1' f3 ⟨e1, hl, rfl⟩
    have na : ¬ (nuF u).any (fun x => decide (x < 0)) = true := fun z => by
      obtain ⟨q, hm, hd⟩ := List.any_eq_true.mp z
      have := hl q hm
      simp at hd
      omega
    rw [if_neg na] at h
    refine ⟨r1, fun c => ?_, fun c => ?_⟩
    · have hs : sumF (nuF u) = (itF v).length := by rw [← e1]; exact c
      rw [if_pos hs] at h
      have pcn := pt_cn k (nuF u) (itF v) hl hs
      have plen := ptF_l (itF v) (nuF u)
      have itb : ∀ σ22, nEx σ3 σ22 → sg_g σ22 88 56 ≤ 9000 → sg_g σ22 88 60 ≤ 12000 → ∀ i : Nat, i < (itF u).length → (nuF u)[i]? = some (v_itemAt σ22 b (i : Int)) ∧ p_itemAt σ22 b (i : Int) := fun σ22 x y1 y2 i hi => rx_nu y1 y2 (rvF_up x hb) hi
      have s123 : ∀ σ22, nEx σ3 σ22 → sg_g σ22 123 b = (itF u).length := fun σ22 x => by rw [(x.2.1 b hb.1.1 hb.1.2).2.1]; exact s2
      refine ⟨fun m v20 v21 σ22 => ∃ i : Nat, v21 = i ∧ m = (itF u).length - i ∧ i ≤ (itF u).length ∧ v20 = sg_g σ3 122 a + sumF ((nuF u).take i) ∧ nEx σ3 σ22 ∧ sg_g σ22 88 56 = sg_g σ3 88 56 + i ∧ sg_g σ22 88 60 = sg_g σ3 88 60 ∧ ∀ (l : Nat) (z : vaF), l < i → (ptF (itF v) (nuF u))[l]? = some z → rvF σ22 (k + 1) z (sg_g σ3 88 56 + l), fun σ22 => nEx σ3 σ22 ∧ sg_g σ22 88 56 = sg_g σ3 88 56 + (itF u).length ∧ sg_g σ22 88 60 = sg_g σ3 88 60 ∧ ∀ (l : Nat) (z : vaF), (ptF (itF v) (nuF u))[l]? = some z → rvF σ22 (k + 1) z (sg_g σ3 88 56 + l), ⟨_, 0, rfl, rfl, Nat.zero_le _, by simp [sumF], nEx_r _, by omega, rfl, fun l z hz => by omega⟩, ?_, ?_⟩
      · rintro m v20 v21 σ22 r20 r21 f22 ⟨i, rfl, em, hi, e20, x1, x2, x3, x4⟩
        rw [s123 σ22 x1]
        refine ⟨s1, fun z => ?_, fun z => ?_⟩
        · have ei : i = (itF u).length := by omega
          rw [ei] at x2
          exact ⟨x1, x2, x3, fun l z' hz => x4 l z' (by have := gE_l hz; omega) hz⟩
        · obtain ⟨q1, q2⟩ := itb σ22 x1 (by omega) (by omega) i (by omega)
          have v0 := hl _ (List.mem_of_getElem? q1)
          have st := sm_t hl i
          have st1 := sm_t hl (i + 1)
          rw [tkF_1 q1, sumF_a] at st1
          simp only [sumF] at st1
          generalize hc : v_itemAt σ22 b (i : Int) = w at *
          generalize hfr : sumF ((nuF u).take i) = fr at *
          have ll : (((itF v).drop fr.toNat).take w.toNat).length = w.toNat := by rw [List.length_take, List.length_drop]; omega
          refine ⟨q2, hn, ⟨by omega, by omega⟩, m_seqX (k := k) (L := ((itF v).drop fr.toNat).take w.toNat) (by omega) (by omega) (by omega) (by omega) (by omega) (by omega) (by omega) (by omega) (fun l z' hz => ?_) (fun σ' y1 y2 y3 y4 y5 _ _ => ?_)⟩
          · have hl' := gE_l hz
            rw [List.getElem?_take, if_pos (by omega), List.getElem?_drop] at hz
            have t := ha.2.2.2.2 (fr.toNat + l) z' hz
            rw [e20, show sg_g σ3 122 a + fr + (l : Int) = sg_g σ3 122 a + ((fr.toNat + l : Nat) : Int) by omega, x1.2.2 _ (by omega) (by omega)]
            exact rvF_up x1 t
          · have x1' := nEx_t x1 y1
            obtain ⟨q1', q2'⟩ := itb σ' x1' (by omega) (by omega) i (by omega)
            have ew : v_itemAt σ' b (i : Int) = w := by rw [q1] at q1'; exact (Option.some.inj q1').symm
            rw [ew]
            refine ⟨q2', ⟨by omega, by omega⟩, ⟨by omega, by omega⟩, (itF u).length - (i + 1), by omega, i + 1, by omega, rfl, by omega, ?_, x1', by omega, by omega, fun l z' hl' hz => ?_⟩
            · rw [tkF_1 q1, sumF_a, hfr]; simp only [sumF]; omega
            · by_cases e : l = i
              · subst e
                have pa := pt_at (nuF u) (itF v) l w hl q1
                rw [hfr] at pa
                rw [pa] at hz
                rw [← Option.some.inj hz, ← x2]
                exact y4
              · exact rvF_up y1 (x4 l z' (by omega) hz)
      · rintro σ22 f22 ⟨x1, x2, x3, x4⟩
        have hB22 : nB σ22 := by unfold nB; omega
        rw [s123 σ22 x1]
        refine ⟨fun m v37 σ38 => ∃ i : Nat, v37 = i ∧ m = (itF u).length - i ∧ i ≤ (itF u).length ∧ nAX σ22 σ38 (k + 1) ((ptF (itF v) (nuF u)).take i), fun σ38 => nAX σ22 σ38 (k + 1) (ptF (itF v) (nuF u)), ⟨_, 0, rfl, rfl, Nat.zero_le _, nAX_0 σ22 (k + 1)⟩, ?_, ?_⟩
        · rintro m v37 σ38 r37 f38 ⟨i, rfl, em, hi, hA⟩
          refine ⟨s1, fun z => ?_, fun z => ⟨⟨by omega, by omega⟩, ?_⟩⟩
          · have : (ptF (itF v) (nuF u)).take i = ptF (itF v) (nuF u) := List.take_of_length_le (by omega)
            rw [this] at hA; exact hA
          · obtain ⟨w, hw⟩ := gE_x (l := ptF (itF v) (nuF u)) (i := i) (by omega)
            refine m_addX (u := w) hB22 (by rw [List.length_take]; omega) hA ⟨by omega, by omega⟩ (rvF_up hA.1 (x4 i w hw)) (fun σ' y1 _ y2 _ => ⟨⟨by omega, by omega⟩, (itF u).length - (i + 1), by omega, i + 1, by omega, rfl, by omega, ?_⟩)
            rw [tkF_1 hw]; exact y1
        · intro σ38 f38 h38
          rw [← x3]
          obtain ⟨y1, y2, y3, y4⟩ := h38
          refine ⟨s1, hn, m_seqX (k := k + 1) (L := ptF (itF v) (nuF u)) (by omega) (by omega) (by omega) (by omega) (by omega) (by omega) hT (by omega) y4 (fun σ' z1 z2 z3 z4 z5 _ _ => ?_)⟩
          refine h _ σ' z4 (nEx_t x1 (nEx_t y1 z1)) ⟨?_, fun z => by omega, ?_, by omega⟩ ?_ (sg_F_t (sg_F_t (sg_F_m f22 rfl) (sg_F_m f38 rfl)) (sg_F_m z5 rfl))
          · rw [cnF_mk, pcn]
            have := cnL_l k (itF v)
            omega
          · rw [cnF_mk, pcn]
            have := cnL_l k (itF v)
            omega
          · rw [sg_F_g z5 (by rfl), sg_F_g f38 (by rfl), sg_F_g f22 (by rfl)]
    · rw [if_neg (by rw [← e1]; exact c)] at h
      exact m_endsX h0 (by decide) (fun σ' x1 x2 _ => h 0 σ' x1 (sg_F_m x2 rfl))
end ACY
