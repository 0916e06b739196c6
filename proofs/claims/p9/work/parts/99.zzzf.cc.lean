/-! copyPicks, seal of the class, exactly. -/
/-- picks of depth d stand for lists -/
def pkR (σ : sg_S) (d : Nat) (qs : List (List vaF)) : Prop := sg_g σ 77 13 = qs.length ∧ qs.length ≤ 6000 ∧ ∀ (i : Nat) (q : List vaF), qs[i]? = some q → pkX σ d (sg_g σ 85 i) (sg_g σ 86 i) (sg_g σ 87 i) q
theorem pkR_F {L : List Nat} {σ σ' : sg_S} {d : Nat} {qs : List (List vaF)} (h : pkR σ d qs) (f : sg_F L σ σ') (ex : yEx σ σ') (hL : (!sg_cv L 77 13 && sg_ca L 85 && sg_ca L 86 && sg_ca L 87) = true) : pkR σ' d qs := by
  simp only [Bool.and_eq_true, Bool.not_eq_true'] at hL
  obtain ⟨⟨⟨l1, l2⟩, l3⟩, l4⟩ := hL
  refine ⟨by rw [sg_F_g f l1]; exact h.1, h.2.1, fun i q hq => ?_⟩
  rw [sg_F_ga f l2, sg_F_ga f l3, sg_F_ga f l4]
  exact pkX_up ex (h.2.2 i q hq)
theorem fl_fl : ∀ qs : List (List vaF), (qs.map flF).flatten = flF qs.flatten
  | [] => rfl
  | q :: r => by rw [List.map_cons, List.flatten_cons, List.flatten_cons, flF_a, fl_fl r]
theorem fl_tk {qs : List (List vaF)} {j : Nat} {q : List vaF} (h : qs[j]? = some q) : (qs.take (j + 1)).flatten = (qs.take j).flatten ++ q := by
  rw [tkA h, List.flatten_append, List.flatten_cons, List.flatten_nil, List.append_nil]
section CCS
variable {σ : sg_S} {Q : sg_S → Prop}
theorem x_copyPicks {d : Nat} {qs : List (List vaF)} (g : yG σ) (ho : sg_g σ 77 15 = 0) (hp : pkR σ d qs) (k : ∀ σ', sg_F [78, 85, 86, 87, 16077, 17077] σ σ' → stX σ σ' (qs.flatten.map (fun v => v [])) → yG σ' → (sg_g σ' 77 15 = 0 → ∀ d', d = d' + 1 → pkR σ' d' (qs.map flF)) → Q σ') : V_lCopyPicks σ Q := by
  obtain ⟨p1, p2, p3⟩ := hp
  have hu := g.2.1
  unfold V_lCopyPicks
  rw [p1]
  have up : ∀ σ2 xs, sg_F [78, 85, 86, 87, 16077, 17077] σ σ2 → stX σ σ2 xs → yEx σ σ2 ∧ yG σ2 := fun σ2 xs f s => ⟨stX_ex s f rfl, stX_g g s f rfl⟩
  refine ⟨fun n v σ2 => ∃ j : Nat, v = j ∧ j ≤ qs.length ∧ n = qs.length - j ∧ stX σ σ2 ((qs.take j).flatten.map (fun v => v [])) ∧ (∀ i : Nat, j ≤ i → sg_g σ2 85 i = sg_g σ 85 i ∧ sg_g σ2 86 i = sg_g σ 86 i ∧ sg_g σ2 87 i = sg_g σ 87 i) ∧ (∀ d', d = d' + 1 → ∀ (i : Nat) (q : List vaF), i < j → qs[i]? = some q → pkX σ2 d' (sg_g σ2 85 i) (sg_g σ2 86 i) (sg_g σ2 87 i) (flF q)), fun σ2 => stX σ σ2 (qs.flatten.map (fun v => v [])) ∧ (sg_g σ2 77 15 = 0 → ∀ d', d = d' + 1 → ∀ (i : Nat) (q : List vaF), qs[i]? = some q → pkX σ2 d' (sg_g σ2 85 i) (sg_g σ2 86 i) (sg_g σ2 87 i) (flF q)), ⟨_, 0, rfl, Nat.zero_le _, rfl, stX_0 hu.2 ho, fun i _ => ⟨rfl, rfl, rfl⟩, fun d' _ i q hi => by omega⟩, ?_, ?_⟩
  · rintro n v σ2 rv f2 ⟨j, rfl, hj, hn, hs, hr, hz⟩
    obtain ⟨ex2, g2⟩ := up σ2 _ f2 hs
    refine ⟨fun z => ?_, fun z => ⟨fun y => ⟨?_, fun y2 => absurd y2 y⟩, fun y => ?_⟩⟩
    · rw [List.take_of_length_le (by omega)] at hs
      exact ⟨hs, fun _ d' hd i q hq => hz d' hd i q (by have := gE_l hq; omega) hq⟩
    · have := stX_o hs y ((qs.drop j).flatten.map (fun v => v []))
      rwa [← List.map_append, ← List.flatten_append, List.take_append_drop] at this
    · obtain ⟨q, hq⟩ : ∃ q, qs[j]? = some q := ⟨_, List.getElem?_eq_getElem (by omega)⟩
      obtain ⟨r1, r2, r3⟩ := hr j (Nat.le_refl _)
      have pj := p3 j q hq
      have j6 : 0 ≤ (j : Int) ∧ (j : Int) < 6000 := by omega
      rw [xa_in (a := 85) j6, xa_in (a := 86) j6, xa_in (a := 87) j6, r1, r2, r3]
      generalize hv : sg_g σ 85 j = v at *
      generalize hlo : sg_g σ 86 j = lo at *
      generalize hhi : sg_g σ 87 j = hi at *
      obtain ⟨b1, b2, b3⟩ := pkX_l pj
      have pg := pkX_g pj
      have rlo : sg_R lo := by rw [← hlo]; exact sg_Rg _ _ _
      have rhi : sg_R hi := by rw [← hhi]; exact sg_Rg _ _ _
      refine ⟨fun n' v18 σ19 => ∃ i : Nat, v18 = lo + i ∧ i ≤ q.length ∧ n' = q.length - i ∧ stX σ2 σ19 ((q.take i).map (fun v => v [])), fun σ19 => stX σ2 σ19 (q.map (fun v => v [])), ⟨_, 0, by omega, Nat.zero_le _, rfl, stX_0 g2.2.1.2 y⟩, ?_, ?_⟩
      · rintro n' v18 σ19 r18 f19 ⟨i, rfl, hi1, hn', hs'⟩
        refine ⟨fun c => ?_, fun c => ⟨fun c2 => ?_, fun c2 => ?_⟩⟩
        · rw [List.take_of_length_le (by omega)] at hs'; exact hs'
        · have := stX_o hs' c2 ((q.drop i).map (fun v => v []))
          rwa [← List.map_append, List.take_append_drop] at this
        · obtain ⟨ex19, g19⟩ := up σ19 _ (sg_F_t f2 (sg_F_m f19 rfl)) (stX_t hs y hs')
          have ce := pk_cell_up g g19 ex19 pg (l := lo + i) ⟨by omega, c⟩
          have cv := pkX_c g pj (i := i) (by omega)
          refine ⟨(pk_cell g19 (pkg_up ex19 pg) ⟨by omega, c⟩).1, ?_⟩
          have hrc : sg_R (v_lCell σ19 v (lo + i)) := by
            unfold v_lCell
            repeat' split
            all_goals first | exact sg_Rg _ _ _ | decide
          refine x_store g19.2.1 c2 hrc (fun σ' f' s' _ => ⟨⟨by omega, by omega⟩, q.length - (i + 1), by omega, i + 1, by omega, by omega, rfl, ?_⟩)
          rw [tk_D (by omega : i < q.length), List.map_append]
          have e : [v_lCell σ19 v (lo + i)] = [q.getD i (nmF 0)].map (fun v => v []) := by rw [ce, cv]; rfl
          rw [← e]
          exact stX_t hs' c2 s'
      · intro σ19 f19 hs'
        have f19' := sg_F_t f2 (sg_F_m f19 rfl)
        have st19 := stX_t hs y hs'
        obtain ⟨ex19, g19⟩ := up σ19 _ f19' st19
        have ps : lo < hi → p_lStart σ v lo ∧ p_lStart σ v (hi - 1) ∧ p_lCell σ19 v (hi - 1) ∧ v_lCell σ19 v (hi - 1) = v_lCell σ v (hi - 1) := fun c => by
          refine ⟨?_, ?_, (pk_cell g19 (pkg_up ex19 pg) ⟨by omega, by omega⟩).1, pk_cell_up g g19 ex19 pg ⟨by omega, by omega⟩⟩
          · rcases pg.2 with ⟨e, -⟩ | ⟨n0, a, b⟩
            · exact (y_cellN (by omega)).2.2.2.1
            · exact (y_start g (yV_r a) ⟨by omega, by omega⟩).2
          · rcases pg.2 with ⟨e, -⟩ | ⟨n0, a, b⟩
            · exact (y_cellN (by omega)).2.2.2.1
            · exact (y_start g (yV_r a) ⟨by omega, by omega⟩).2
        refine ⟨y_pitems _ _, fun σ35 e35 => ⟨⟨fun _ => trivial, fun c => ⟨(ps c).1, trivial⟩⟩, fun v40 e40 r40 σ43 e43 => ⟨⟨fun _ => trivial, fun c => ⟨⟨by omega, by omega⟩, (ps c).2.1, (ps c).2.2.1, trivial⟩⟩, fun v48 e48 r48 σ51 e51 => ⟨⟨by omega, by omega⟩, qs.length - (j + 1), by omega, j + 1, by omega, by omega, rfl, ?_, fun i hi2 => ?_, fun d' hd i q' hi2 hq' => ?_⟩⟩⟩⟩
        all_goals rw [xp_in j6] at e35 e43 e51
        all_goals have f51 : sg_F [85, 86, 87] σ19 σ51 := by rw [e51, e43, e35]; exact sg_F_w (sg_F_w (sg_F_w (sg_F_r _ _) rfl _) rfl _) rfl _
        · rw [fl_tk hq, List.map_append]
          exact stX_F st19 f51 rfl
        · have hij : ¬ (i : Int) = j := by omega
          obtain ⟨t1, t2, t3⟩ := hr i (by omega)
          refine ⟨?_, ?_, ?_⟩
          · rw [e51, sg_gw_c _ _ _ _ _ _ (by decide), e43, sg_gw_c _ _ _ _ _ _ (by decide), e35, sg_gw_k _ _ _ _ _ _ hij, sg_F_ga f19 rfl, t1]
          · rw [e51, sg_gw_c _ _ _ _ _ _ (by decide), e43, sg_gw_k _ _ _ _ _ _ hij, e35, sg_gw_c _ _ _ _ _ _ (by decide), sg_F_ga f19 rfl, t2]
          · rw [e51, sg_gw_k _ _ _ _ _ _ hij, e43, sg_gw_c _ _ _ _ _ _ (by decide), e35, sg_gw_c _ _ _ _ _ _ (by decide), sg_F_ga f19 rfl, t3]
        · have ex51 : yEx σ19 σ51 := yEx_F f51 rfl
          have ex2' : yEx σ2 σ51 := yEx_t (stX_ex hs' f19 rfl) ex51
          subst hd
          by_cases e : i = j
          · subst e
            rw [hq] at hq'
            cases hq'
            have rit : sg_R (v_lItems σ v) := by
              unfold v_lItems
              repeat' split
              all_goals first | exact sg_Rg _ _ _ | decide
            have i85 : sg_g σ51 85 i = v_lItems σ v := by
              rw [e51, sg_gw_c _ _ _ _ _ _ (by decide), e43, sg_gw_c _ _ _ _ _ _ (by decide), e35, sg_gw_e _ _ _ _ rit]
            have i86 : sg_g σ51 86 i = v40 := by rw [e51, sg_gw_c _ _ _ _ _ _ (by decide), e43, sg_gw_e _ _ _ _ r40]
            have i87 : sg_g σ51 87 i = v48 := by rw [e51, sg_gw_e _ _ _ _ r48]
            rw [i85, i86, i87]
            refine pkX_up (yEx_t ex19 ex51) (pkX_n g pj e40 ?_)
            by_cases c : lo < hi
            · rw [if_neg (by omega)] at e48 ⊢
              obtain ⟨n1, n2, n3, n4, n5, n6⟩ := pk_next g pg c
              rw [(ps c).2.2.2, sg_id ⟨by have := n1.1; omega, by omega⟩] at e48
              exact e48
            · rw [if_pos (by omega)] at e48 ⊢
              exact e48
          · have hij : ¬ (i : Int) = j := by omega
            have t1 : sg_g σ51 85 i = sg_g σ2 85 i := by rw [e51, sg_gw_c _ _ _ _ _ _ (by decide), e43, sg_gw_c _ _ _ _ _ _ (by decide), e35, sg_gw_k _ _ _ _ _ _ hij, sg_F_ga f19 rfl]
            have t2 : sg_g σ51 86 i = sg_g σ2 86 i := by rw [e51, sg_gw_c _ _ _ _ _ _ (by decide), e43, sg_gw_k _ _ _ _ _ _ hij, e35, sg_gw_c _ _ _ _ _ _ (by decide), sg_F_ga f19 rfl]
            have t3 : sg_g σ51 87 i = sg_g σ2 87 i := by rw [e51, sg_gw_k _ _ _ _ _ _ hij, e43, sg_gw_c _ _ _ _ _ _ (by decide), e35, sg_gw_c _ _ _ _ _ _ (by decide), sg_F_ga f19 rfl]
            rw [t1, t2, t3]
            exact pkX_up ex2' (hz d' rfl i q' (by omega) hq')
  · rintro σ2 f2 ⟨h1, h2⟩
    refine k σ2 f2 h1 (up σ2 _ f2 h1).2 (fun z d' hd => ⟨by rw [sg_F_g f2 (by rfl), List.length_map]; exact p1, by rw [List.length_map]; exact p2, fun i q hq => ?_⟩)
    rw [List.getElem?_map] at hq
    cases e : qs[i]? with
    | none => rw [e] at hq; cases hq
    | some q' =>
      rw [e] at hq
      cases hq
      exact h2 z d' hd i q' e
end CCS
