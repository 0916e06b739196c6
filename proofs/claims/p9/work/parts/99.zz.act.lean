/-! flat, perm, part of nested runs. -/
/-- how many items the first i sequences of a hold -/
def sMn (σ : sg_S) (a : Int) : Nat → Int
  | 0 => 0
  | i + 1 => sMn σ a i + sg_g σ 123 (v_itemAt σ a i)
section ACU
variable {σ : sg_S} {n a b : Int} {k : Nat} {Q : Int → sg_S → Prop}
theorem sMn_b (ha : vT σ (k + 2) a) : ∀ i : Nat, (i : Int) ≤ sg_g σ 123 a → 0 ≤ sMn σ a i ∧ sMn σ a i ≤ 200 * i
  | 0, _ => by simp [sMn]
  | i + 1, h => by
    have ih := sMn_b ha i (by omega)
    have t := ha.2.2.2 i (by omega) (by omega)
    have e : v_itemAt σ a i = sg_g σ 125 (sg_g σ 122 a + i) := rfl
    simp only [sMn]
    rw [e]
    have t2 := t.2.1
    omega
theorem sMn_m (ha : vT σ (k + 2) a) : ∀ (j i : Nat), i ≤ j → (j : Int) ≤ sg_g σ 123 a → sMn σ a i ≤ sMn σ a j
  | 0, i, h, _ => by have : i = 0 := by omega
                     subst this; exact Int.le_refl _
  | j + 1, i, h, hj => by
    by_cases e : i = j + 1
    · subst e; exact Int.le_refl _
    · have ih := sMn_m ha j i (by omega) (by omega)
      have t := (ha.2.2.2 j (by omega) (by omega)).2.1
      have e : v_itemAt σ a j = sg_g σ 125 (sg_g σ 122 a + j) := rfl
      simp only [sMn]
      rw [e]
      omega
theorem m_flat (hB : nB σ) (hn : 0 ≤ n ∧ n < 210) (hk : k ≤ 1) (hT : sg_g σ 101 n = ((k + 1 : Nat) : Int)) (ha : vT σ (k + 2) a) (h : aQ σ (k + 1) Q) : V_flattened σ n a Q := by
  have h9 := vT_9 hB ha
  have hs : sg_g σ 88 56 ≤ 9000 := by have := hB.1; omega
  have hi12 : sg_g σ 88 60 ≤ 12000 := by have := hB.2; omega
  unfold V_flattened
  refine ⟨fun m v1 v2 => ∃ i : Nat, v2 = i ∧ m = (sg_g σ 123 a - v2).toNat ∧ (i : Int) ≤ sg_g σ 123 a ∧ v1 = sMn σ a i, fun v1 => v1 = sMn σ a (sg_g σ 123 a).toNat, ⟨_, 0, rfl, rfl, by omega, rfl⟩, ?_, ?_⟩
  · rintro m v1 v2 r1 r2 ⟨i, rfl, em, hi, e1⟩
    have sb := sMn_b ha i hi
    refine ⟨h9.1, fun c => ?_, fun c => ?_⟩
    · rw [e1, show (sg_g σ 123 a).toNat = i by omega]
    · have t := vT_it hs hi12 ha (by omega) c
      have t2 := vT_9 hB t.2
      refine ⟨t.1, t2.1, ⟨by omega, by omega⟩, ⟨by omega, by omega⟩, _, ?_, i + 1, by omega, rfl, by omega, ?_⟩
      · omega
      · rw [e1]; rfl
  · rintro v1 r1 e1
    have cn : ((sg_g σ 123 a).toNat : Int) = sg_g σ 123 a := by omega
    have sb := sMn_b ha (sg_g σ 123 a).toNat (by omega)
    refine ⟨fun c => ?_, fun _ => aQ_f h (by decide)⟩
    refine ⟨fun m v19 σ20 => ∃ i : Nat, v19 = i ∧ m = (sg_g σ 123 a - v19).toNat ∧ (i : Int) ≤ sg_g σ 123 a ∧ nAd σ σ20 k (sMn σ a i), fun σ20 => nAd σ σ20 k v1, ⟨_, 0, rfl, rfl, by omega, nAd_0 σ k⟩, ?_, fun σ3 f3 h3 => ⟨hn, m_seqA hB ⟨by omega, c⟩ h3 hT (by omega) (fun q σ' x1 x2 _ _ => h.2 q σ' x1 ?_ ?_)⟩⟩
    · rintro m v19 σ20 r19 f20 ⟨i, rfl, em, hi, hA⟩
      have si := sMn_b ha i hi
      have sm := sMn_m ha (sg_g σ 123 a).toNat i (by omega) (by omega)
      refine ⟨h9.1, fun z => ?_, fun z => ?_⟩
      · rw [e1, show (sg_g σ 123 a).toNat = i by omega]; exact hA
      · have t := m_it hB (by omega) hA ha (by omega) z
        have t0 := vT_it hs hi12 ha (by omega) z
        have ev : v_itemAt σ20 a i = v_itemAt σ a i := by
          have e := nEx_s hA.1 ha
          unfold v_itemAt
          rw [e.2]
          have a2 := ha.2.1
          exact hA.1.2.2 _ (by omega) (by omega)
        have sm2 := sMn_m ha (sg_g σ 123 a).toNat (i + 1) (by omega) (by omega)
        have es : sMn σ a (i + 1) = sMn σ a i + sg_g σ 123 (v_itemAt σ a i) := rfl
        have t9 := vT_9 hB t0.2
        rw [ev]
        refine ⟨t.1, fun m2 v45 σ46 => m2 = (sg_g σ 123 (v_itemAt σ a i) - v45).toNat ∧ (0 ≤ v45 ∧ v45 ≤ sg_g σ 123 (v_itemAt σ a i)) ∧ nAd σ σ46 k (sMn σ a i + v45), fun σ46 => nAd σ σ46 k (sMn σ a (i + 1)), ⟨_, rfl, ⟨by omega, by omega⟩, by rw [show sMn σ a i + 0 = sMn σ a i by omega]; exact hA⟩, ?_, fun σ46 f46 h46 => ⟨⟨by omega, by omega⟩, _, ?_, i + 1, by omega, rfl, by omega, h46⟩⟩
        · rintro m2 v45 σ46 r45 f46 ⟨em2, hv, hA2⟩
          refine ⟨t9.1, fun y => ?_, fun y => ?_⟩
          · rw [es, show sg_g σ 123 (v_itemAt σ a i) = v45 by omega]; exact hA2
          · have u := m_it hB (by omega) hA2 t0.2 hv.1 y
            refine ⟨u.1, m_addA hB (by omega) hA2 (sg_Rg _ _ _) u.2 (fun σ' x1 _ x2 _ => ⟨⟨by omega, by omega⟩, _, ?_, rfl, ⟨by omega, by omega⟩, ?_⟩)⟩
            · omega
            · rw [show sMn σ a i + (v45 + 1) = sMn σ a i + v45 + 1 by omega]; exact x1
        · omega
    · rw [sg_F_g x2 (by rfl), sg_F_g f3 (by rfl)]
    · exact sg_F_t (sg_F_m f3 rfl) (sg_F_m x2 rfl)
/-- an order of many places: each is taken -/
theorem m_order {fr mn : Int} {Q : Int → sg_S → Prop} (hf : 0 ≤ fr) (hm : 0 ≤ mn ∧ mn ≤ 200) (hfm : fr + mn ≤ 12000) (k0 : ∀ σ', sg_F [135] σ σ' → Q 0 σ') (k1 : ∀ σ', (∀ p, 0 ≤ p → p < mn → 0 ≤ sg_g σ' 135 p ∧ sg_g σ' 135 p < mn) → sg_F [135] σ σ' → Q 1 σ') : V_isOrder σ fr mn 1 Q := by
  unfold V_isOrder
  refine ⟨fun m v σ2 => m = (mn - v).toNat ∧ 0 ≤ v ∧ ∀ p, 0 ≤ p → p < v → sg_g σ2 135 p = -1, fun σ2 => ∀ p, 0 ≤ p → p < mn → sg_g σ2 135 p = -1, ⟨_, rfl, Int.le_refl _, fun p a b => by omega⟩, ?_, ?_⟩
  · rintro m v σ2 rv f2 ⟨em, h0, hp⟩
    refine ⟨fun c p x y => hp p x (by omega), fun c => ⟨⟨h0, by omega⟩, fun σ66 e66 => ⟨⟨by omega, by omega⟩, _, ?_, rfl, by omega, fun p x y => ?_⟩⟩⟩
    · omega
    · by_cases e : p = v
      · rw [e, e66, sg_gw_e _ _ _ _ (by decide)]
      · rw [e66, sg_gw_k _ _ _ _ _ _ e]; exact hp p x (by omega)
  · intro σ2 f2 h2
    refine ⟨fun m is v σ18 => m = (mn - v).toNat ∧ (0 ≤ v ∧ v ≤ mn) ∧ (is = 0 ∨ (is = 1 ∧ ∃ ps : List Int, (ps.length : Int) = v ∧ ps.Nodup ∧ (∀ p ∈ ps, 0 ≤ p ∧ p < mn ∧ 0 ≤ sg_g σ18 135 p ∧ sg_g σ18 135 p < mn) ∧ ∀ p, 0 ≤ p → p < mn → p ∉ ps → sg_g σ18 135 p = -1)), fun is σ18 => is = 0 ∨ (is = 1 ∧ ∀ p, 0 ≤ p → p < mn → 0 ≤ sg_g σ18 135 p ∧ sg_g σ18 135 p < mn), ⟨_, rfl, ⟨by omega, by omega⟩, Or.inr ⟨rfl, [], rfl, List.nodup_nil, by simp, fun p x y _ => h2 p x y⟩⟩, ?_, ?_⟩
    · rintro m is v σ18 ris rv f18 ⟨em, hv, hi⟩
      have fin : mn ≤ v → is = 0 ∨ (is = 1 ∧ ∀ p, 0 ≤ p → p < mn → 0 ≤ sg_g σ18 135 p ∧ sg_g σ18 135 p < mn) := fun c => by
        rcases hi with z | ⟨z, ps, q1, q2, q3, q4⟩
        · exact Or.inl z
        · refine Or.inr ⟨z, fun p x y => ?_⟩
          by_cases e : p ∈ ps
          · exact (q3 p e).2.2
          · exfalso
            have := ndl mn.toNat (p :: ps) (List.nodup_cons.mpr ⟨e, q2⟩) (fun w hw => by
              rcases List.mem_cons.mp hw with u | u
              · rw [u]; omega
              · have := q3 w u; omega)
            simp only [List.length_cons] at this
            omega
      refine ⟨fin, fun c => ⟨fun z => Or.inl z, fun z => ⟨⟨fun w => absurd w (by decide), fun _ => ⟨⟨by omega, by omega⟩, ⟨by omega, by omega⟩, trivial⟩⟩, fun v37 e37 r37 => ⟨⟨by omega, by omega⟩, ⟨fun _ => trivial, fun w => ?_⟩, fun v43 e43 r43 => ?_⟩⟩⟩⟩
      · have w2 : 0 ≤ v37 ∧ v37 ≤ mn - 1 := Decidable.byContradiction (fun u => w (v_in_n.mpr u))
        exact ⟨⟨w2.1, by omega⟩, fun _ => trivial, fun _ => trivial⟩
      · rcases hi with y | ⟨y, ps, q1, q2, q3, q4⟩
        · exact absurd y z
        by_cases w : v_in v37 0 (mn - 1) = 0
        · rw [if_pos w] at e43
          refine ⟨fun _ => True, ⟨fun _ => trivial, fun u => absurd e43 u⟩, fun σ49 f49 _ => ⟨⟨by omega, by omega⟩, _, ?_, rfl, ⟨by omega, by omega⟩, Or.inl e43⟩⟩
          omega
        · have w2 : 0 ≤ v37 ∧ v37 ≤ mn - 1 := Decidable.byContradiction (fun u => w (v_in_n.mpr u))
          rw [if_neg w] at e43
          by_cases u : sg_g σ18 135 v37 = -1
          · rw [if_neg (fun t => t u)] at e43
            have np : v37 ∉ ps := fun t => by have := q3 v37 t; omega
            refine ⟨fun σ49 => ∃ ps : List Int, (ps.length : Int) = v + 1 ∧ ps.Nodup ∧ (∀ p ∈ ps, 0 ≤ p ∧ p < mn ∧ 0 ≤ sg_g σ49 135 p ∧ sg_g σ49 135 p < mn) ∧ ∀ p, 0 ≤ p → p < mn → p ∉ ps → sg_g σ49 135 p = -1, ⟨fun t => absurd t (by omega), fun _ => ⟨⟨w2.1, by omega⟩, fun σ55 e55 => ⟨v37 :: ps, by simp only [List.length_cons]; omega, List.nodup_cons.mpr ⟨np, q2⟩, fun p hp => ?_, fun p x1 x2 x3 => ?_⟩⟩⟩, fun σ49 f49 h49 => ⟨⟨by omega, by omega⟩, _, ?_, rfl, ⟨by omega, by omega⟩, Or.inr ⟨e43, h49⟩⟩⟩
            · rcases List.mem_cons.mp hp with t | t
              · rw [t, e55, sg_gw_e _ _ _ _ rv]; omega
              · rw [e55, sg_gw_k _ _ _ _ _ _ (fun s => np (by rw [← s]; exact t))]; exact q3 p t
            · rw [e55, sg_gw_k _ _ _ _ _ _ (fun s => x3 (by simp [s]))]
              exact q4 p x1 x2 (fun t => x3 (by simp [t]))
            · omega
          · rw [if_pos u] at e43
            refine ⟨fun _ => True, ⟨fun _ => trivial, fun t => absurd e43 t⟩, fun σ49 f49 _ => ⟨⟨by omega, by omega⟩, _, ?_, rfl, ⟨by omega, by omega⟩, Or.inl e43⟩⟩
            omega
    · rintro is σ18 ris f18 (z | ⟨z, hz⟩)
      · rw [z]; exact ⟨Or.inl rfl, k0 σ18 (sg_F_t f2 f18)⟩
      · rw [z]; exact ⟨Or.inr rfl, k1 σ18 hz (sg_F_t f2 f18)⟩
theorem m_perm (hB : nB σ) (hn : 0 ≤ n ∧ n < 210) (hk : k ≤ 2) (hT : sg_g σ 101 n = ((k + 1 : Nat) : Int)) (ha : vT σ (k + 1) a) (hb : vT σ 1 b) (h : aQ σ (k + 1) Q) : V_permuted σ n a b Q := by
  have h9 := vT_9 hB ha
  have g9 := vT_9 hB hb
  have hb2 := hb.2.1
  have hB2 := hB.2
  unfold V_permuted
  refine ⟨h9.1, g9.1, fun c => m_order hb2.1 g9.2 (by omega) (fun σ5 f5 _ _ => ⟨fun z => absurd rfl z, fun _ => m_ends (by decide) (fun σ' x1 x2 _ => h.1 0 σ' x1 (nEx_t (nEx_F f5 rfl) (nEx_F x2 rfl)) (sg_F_t (sg_F_m f5 rfl) (sg_F_m x2 rfl)))⟩) (fun σ5 hp f5 _ _ => ⟨fun _ => ?_, fun z => absurd z (by decide)⟩), fun _ => aQ_f h (by decide)⟩
  have n5 : nAd σ σ5 k 0 := ⟨nEx_F f5 rfl, sg_F_g f5 rfl, by rw [sg_F_g f5 (by rfl)]; omega, fun i a b => by omega⟩
  refine ⟨fun m v σ3 => m = (sg_g σ 123 a - v).toNat ∧ (0 ≤ v ∧ v ≤ sg_g σ 123 a) ∧ nAd σ σ3 k v, fun σ3 => nAd σ σ3 k (sg_g σ 123 a), ⟨_, rfl, ⟨by omega, by omega⟩, n5⟩, ?_, fun σ3 f3 h3 => ⟨hn, m_seqA hB h9.2 h3 hT hk (fun q σ' x1 x2 _ _ => h.2 q σ' x1 ?_ ?_)⟩⟩
  · rintro m v σ3 rv f3 ⟨em, hv, hA⟩
    refine ⟨fun z => ?_, fun z => ?_⟩
    · rw [show sg_g σ 123 a = v by omega]; exact hA
    · have hpv := hp v hv.1 (by omega)
      have t := m_it hB (by omega) hA ha hpv.1 (by omega)
      refine ⟨⟨hv.1, by omega⟩, t.1, m_addA hB (by omega) hA (sg_Rg _ _ _) t.2 (fun σ' x1 _ x2 _ => ⟨⟨by omega, by omega⟩, _, ?_, rfl, ⟨by omega, by omega⟩, x1⟩)⟩
      omega
  · rw [sg_F_g x2 (by rfl), sg_F_g f3 (by rfl), sg_F_g f5 (by rfl)]
  · exact sg_F_t (sg_F_t (sg_F_m f5 rfl) (sg_F_m f3 rfl)) (sg_F_m x2 rfl)
end ACU
