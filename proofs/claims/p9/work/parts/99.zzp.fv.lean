/-! which names come from outside a part: clearInside, markInside, outsider, gatherOutside. -/
theorem dvi {a : Int} (ha : 0 ≤ a ∧ a ≤ 1000000000) : (sg_i a / sg_i 4).toInt = a / 4 := by
  have e1 : (sg_i a).toInt = a := sg_id (z := a) ⟨by omega, by omega⟩
  have e2 : (sg_i 4).toInt = 4 := by decide
  rw [Int32.toInt_div, e1, e2, Int.tdiv_eq_ediv_of_nonneg ha.1, Int.bmod_eq_of_le (by omega) (by omega)]
/-- just the nodes of L are inside -/
def iM (σ : sg_S) (A : aT) (L : List Int) : Prop := ∀ k, 0 ≤ k → k < A.1 → (k ∈ L → sg_g σ 120 k = 1) ∧ (k ∉ L → sg_g σ 120 k = 0)
section FV
variable {A : aT} {σ : sg_S}
theorem m_clear {Q : sg_S → Prop} (h8 : sg_g σ 88 8 = A.1) (hA : 0 ≤ A.1 ∧ A.1 ≤ 200) (k : ∀ σ', iM σ' A [] → sg_g σ' 88 46 = 0 → sg_F [120, 47088] σ σ' → Q σ') : V_clearInside σ Q := by
  unfold V_clearInside
  intro σ1 e1
  have f1 : sg_F [47088] σ σ1 := by rw [e1]; exact sg_F_w (sg_F_r _ _) rfl _
  rw [h8]
  refine ⟨fun n x σ5 => n = (A.1 - x).toNat ∧ (0 ≤ x ∧ x ≤ A.1) ∧ ∀ j, 0 ≤ j → j < x → sg_g σ5 120 j = 0, fun σ5 => ∀ j, 0 ≤ j → j < A.1 → sg_g σ5 120 j = 0, ⟨_, rfl, ⟨by omega, by omega⟩, fun j a b => by omega⟩, ?_, fun σ5 f5 h5 => k σ5 (fun j a b => ⟨fun z => (by cases z), fun _ => h5 j a b⟩) ?_ (sg_F_t (sg_F_m f1 rfl) (sg_F_m f5 rfl))⟩
  · rintro n x σ5 rx f5 ⟨en, hx, h5⟩
    refine ⟨fun z j a b => h5 j a (by omega), fun z => ⟨⟨by omega, by omega⟩, fun σ6 e6 => ⟨⟨by omega, by omega⟩, _, by omega, rfl, ⟨by omega, by omega⟩, fun j a b => ?_⟩⟩⟩
    by_cases c : j = x
    · rw [c, e6, sg_gw_e _ _ _ _ ⟨by decide, by decide⟩]
    · rw [e6, sg_gw_k _ _ _ _ _ _ c]; exact h5 j a (by omega)
  · rw [sg_F_g f5 (by rfl), e1, sg_gw_e _ _ _ _ ⟨by decide, by decide⟩]
theorem m_mark {x : Int} {L0 L : List Int} {Q : sg_S → Prop} (hP : trT σ A) (hA : A.1 ≤ 200) (hi : iM σ A L0) (hf : fT A [x] L) (hn : L.Nodup) (hr : ∀ y ∈ L, 0 ≤ y ∧ y < A.1) (k : ∀ σ', iM σ' A (L0 ++ L) → sg_F [120, 121, 50088] σ σ' → Q σ') : V_markInside σ x Q := by
  have Ll : L.length ≤ 200 := by
    have := ndl 200 L hn (fun y hy => by have := hr y hy; omega)
    exact this
  unfold V_markInside
  intro σ1 e1 σ4 e4
  have f4 : sg_F [121, 50088] σ σ4 := by rw [e4, e1]; exact sg_F_w (sg_F_w (sg_F_r _ _) rfl _) rfl _
  have hx := hr x (fT_sub hf x (by simp))
  refine ⟨fun n σ7 => ∃ P Lr : List Int, n = Lr.length ∧ sg_g σ7 88 49 = P.length ∧ (∀ (i : Nat) (y : Int), P[i]? = some y → sg_g σ7 121 i = y) ∧ fT A P Lr ∧ (∀ y ∈ Lr, y ∈ L) ∧ Lr.length ≤ 200 ∧ ∀ j, 0 ≤ j → j < A.1 → (j ∈ L0 ∨ (j ∈ L ∧ j ∉ Lr) → sg_g σ7 120 j = 1) ∧ (j ∉ L0 → j ∉ L → sg_g σ7 120 j = 0), fun σ7 => iM σ7 A (L0 ++ L), ⟨_, [x], L, rfl, ?_, ?_, hf, fun y hy => hy, Ll, fun j a b => ⟨fun z => ?_, fun z1 z2 => ?_⟩⟩, ?_, fun σ7 f7 h7 => k σ7 h7 (sg_F_t (sg_F_m f4 rfl) f7)⟩
  · rw [e4, sg_gw_c _ _ _ _ _ _ (by decide), e1, sg_gw_e _ _ _ _ ⟨by decide, by decide⟩]; rfl
  · intro i y hy
    have : i = 0 := by have := lt_of_get hy; simp at this; omega
    subst this
    cases hy
    rw [e4]
    exact sg_gw_e _ _ _ _ ⟨by omega, by omega⟩
  · rcases z with z | z
    · rw [sg_F_ga f4 rfl]; exact (hi j a b).1 z
    · exact absurd z.1 z.2
  · rw [sg_F_ga f4 rfl]; exact (hi j a b).2 z1
  · rintro n σ7 f7 ⟨P, Lr, en, h1, h2, h3, h4, h5, h6⟩
    refine ⟨fun z => ?_, fun z => ?_⟩
    · have : P = [] := List.eq_nil_of_length_eq_zero (by omega)
      subst this
      have := fT_nil h3
      subst this
      intro j a b
      refine ⟨fun z => ?_, fun z => ?_⟩
      · rcases List.mem_append.mp z with q | q
        · exact (h6 j a b).1 (Or.inl q)
        · exact (h6 j a b).1 (Or.inr ⟨q, fun w => by cases w⟩)
      · exact (h6 j a b).2 (fun w => z (by simp [w])) (fun w => z (by simp [w]))
    · have Pl := fT_len h3
      obtain ⟨P0, y, eP⟩ : ∃ P0 y, P = P0 ++ [y] := by
        rcases List.eq_nil_or_concat P with q | ⟨a, b, q⟩
        · rw [q] at h1; simp at h1; omega
        · exact ⟨a, b, by rw [q, List.concat_eq_append]⟩
      subst eP
      obtain ⟨La, Ly, e3, g1, g2⟩ := fT_spl P0 [y] Lr h3
      subst e3
      obtain ⟨L1, L2, e5, w1, w2, w3⟩ := fT_inv g2
      have e6 := fT_nil w3
      subst e6
      rw [List.append_nil] at e5
      subst e5
      have hy := hr y (h4 y (by simp))
      simp only [List.length_append, List.length_cons, List.length_nil] at h1 Pl h5 en
      have top : sg_g σ7 121 (sg_g σ7 88 49 - 1) = y := by
        have := h2 P0.length y (by rw [List.getElem?_append_right (Nat.le_refl _)]; simp)
        rw [h1, show ((P0.length + (0 + 1) : Nat) : Int) - 1 = (P0.length : Int) by omega]
        exact this
      rw [top]
      obtain ⟨t1, t2, t3, t4, t5⟩ := tr_k hP hy
      have fl := fT_len (fT_app g1 w2)
      simp only [List.length_append] at fl
      refine ⟨⟨by omega, by omega⟩, fun σ8 e8 => ⟨⟨by omega, by omega⟩, ⟨by omega, by omega⟩, fun σ9 e9 => ?_⟩⟩
      rw [t2]
      have f9 : sg_F [120, 50088] σ7 σ9 := by rw [e9, e8]; exact sg_F_w (sg_F_w (sg_F_r _ _) rfl _) rfl _
      have g9 : sg_g σ9 88 49 = P0.length := by rw [e9, sg_gw_c _ _ _ _ _ _ (by decide), e8, sg_gw_e _ _ _ _ ⟨by omega, by omega⟩]; omega
      refine ⟨fun m v σ5 => m = ((A.2.2.2.2.1 y).length - v).toNat ∧ (0 ≤ v ∧ v ≤ (A.2.2.2.2.1 y).length) ∧ sg_g σ5 88 49 = P0.length + v ∧ ∀ (i : Nat) (u : Int), (P0 ++ (A.2.2.2.2.1 y).take v.toNat)[i]? = some u → sg_g σ5 121 i = u, fun σ5 => sg_g σ5 88 49 = P0.length + (A.2.2.2.2.1 y).length ∧ ∀ (i : Nat) (u : Int), (P0 ++ A.2.2.2.2.1 y)[i]? = some u → sg_g σ5 121 i = u, ⟨_, rfl, ⟨by omega, by omega⟩, by omega, fun i u hu => ?_⟩, ?_, ?_⟩
      · rw [sg_F_ga f9 rfl]
        simp only [show (0 : Int).toNat = 0 by rfl, List.take_zero, List.append_nil] at hu
        exact h2 i u (by rw [List.getElem?_append_left (lt_of_get hu)]; exact hu)
      · rintro m v σ5 rv f5 ⟨en', hv, q1, q2⟩
        refine ⟨fun c => ⟨by omega, fun i u hu => q2 i u (by rw [List.take_of_length_le (by omega)]; exact hu)⟩, fun c => ?_⟩
        obtain ⟨u, hu⟩ : ∃ q, (A.2.2.2.2.1 y)[v.toNat]? = some q := ⟨_, List.getElem?_eq_getElem (by omega)⟩
        have tu := t4 v.toNat u hu
        rw [show 200 * y + ((v.toNat : Nat) : Int) = 200 * y + v by omega] at tu
        rw [tu]
        refine ⟨⟨by omega, by omega⟩, ⟨by omega, by omega⟩, ⟨by omega, by omega⟩, ⟨by omega, by omega⟩, fun σ6 e6 => ⟨⟨by omega, by omega⟩, fun σ3 e3 => ⟨⟨by omega, by omega⟩, _, by omega, rfl, ⟨by omega, by omega⟩, ?_, fun i w hw => ?_⟩⟩⟩
        · rw [e3, sg_gw_e _ _ _ _ ⟨by omega, by omega⟩]; omega
        · have ur : sg_R u := by rw [← tu]; exact sg_Rg _ _ _
          rw [show (v + 1).toNat = v.toNat + 1 by omega, List.take_add_one, hu] at hw
          simp only [Option.toList_some] at hw
          rw [← List.append_assoc] at hw
          have ll : (P0 ++ (A.2.2.2.2.1 y).take v.toNat).length = P0.length + v.toNat := by rw [List.length_append, List.length_take]; omega
          by_cases ci : i < P0.length + v.toNat
          · rw [List.getElem?_append_left (by omega)] at hw
            rw [e3, sg_gw_c _ _ _ _ _ _ (by decide), e6, sg_gw_k _ _ _ _ _ _ (by omega)]
            exact q2 i w hw
          · have hi' := lt_of_get hw
            simp only [List.length_append, List.length_cons, List.length_nil] at hi' ll
            have ei : i = P0.length + v.toNat := by omega
            rw [List.getElem?_append_right (by simp only [List.length_append]; omega)] at hw
            have : i - (P0 ++ (A.2.2.2.2.1 y).take v.toNat).length = 0 := by simp only [List.length_append]; omega
            rw [this] at hw
            cases hw
            rw [e3, sg_gw_c _ _ _ _ _ _ (by decide), e6, show (i : Int) = sg_g σ5 88 49 by omega, sg_gw_e _ _ _ _ ur]
      · rintro σ5 f5 ⟨q1, q2⟩
        refine ⟨(La ++ L1).length, by simp only [List.length_append]; omega, P0 ++ A.2.2.2.2.1 y, La ++ L1, rfl, by rw [q1]; simp, q2, fT_app g1 w2, fun z hz => h4 z (by rcases List.mem_append.mp hz with q | q <;> simp [q]), by simp only [List.length_append]; omega, fun j a b => ?_⟩
        obtain ⟨r1, r2⟩ := h6 j a b
        have cell : ¬ j = y → sg_g σ5 120 j = sg_g σ7 120 j := fun c => by rw [sg_F_ga f5 rfl, e9, sg_gw_k _ _ _ _ _ _ c, e8, sg_gw_c _ _ _ _ _ _ (by decide)]
        have cy : j = y → sg_g σ5 120 j = 1 := fun c => by rw [sg_F_ga f5 rfl, e9, c, sg_gw_e _ _ _ _ ⟨by decide, by decide⟩]
        refine ⟨fun z => ?_, fun z1 z2 => ?_⟩
        · by_cases c : j = y
          · exact cy c
          · rw [cell c]
            refine r1 ?_
            rcases z with z | ⟨z, z'⟩
            · exact Or.inl z
            · refine Or.inr ⟨z, fun w => z' ?_⟩
              rcases List.mem_append.mp w with w | w
              · simp [w]
              · rcases List.mem_cons.mp w with w | w
                · exact absurd w c
                · simp [w]
        · rw [cell (fun c => z2 (by rw [c]; exact h4 y (by simp)))]
          exact r2 z1 z2
end FV
