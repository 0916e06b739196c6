/-! Runs of one method from one state end alike; read of the reference. -/
theorem wk_det {E : am_E} {T : List am_M} {Sh : List sg_Sh} {d j pc : Nat} {ls : bm_L} {st : List bm_V} {σ : sg_S} {Q1 Q2 : Option bm_V → sg_S → Prop} (h1 : wk E T Sh d j pc ls st σ Q1) (h2 : wk E T Sh d j pc ls st σ Q2) : ∃ v1 σ1 v2 σ2, Q1 v1 σ1 ∧ Q2 v2 σ2 ∧ sg_H Sh σ1 = sg_H Sh σ2 := by
  obtain ⟨v1, σ1, ⟨n1, r1⟩, q1⟩ := h1
  obtain ⟨v2, σ2, ⟨n2, r2⟩, q2⟩ := h2
  have a := am_ex_same (n' := max n1 n2) (d' := d) (Nat.le_max_left ..) (Nat.le_refl _) r1
  have b := am_ex_same (n' := max n1 n2) (d' := d) (Nat.le_max_right ..) (Nat.le_refl _) r2
  rw [a] at b
  have e := Option.some.inj b
  exact ⟨v1, σ1, v2, σ2, q1, q2, (Prod.mk.inj e).2⟩
theorem sgH_p {σ1 σ2 : sg_S} (h : sg_H am_Sh0 σ1 = sg_H am_Sh0 σ2) : sg_g σ1 0 10 = sg_g σ2 0 10 := by
  have e : ∀ σ : sg_S, (sg_H am_Sh0 σ)[0]? = some (sg_cell σ 0 (.inr (10, [.ref 1, .ref 2, .ref 19, .ref 28, .ref 35, .ref 38, .ref 45, .ref 61, .int 0, .int 0, .int 0, .int 0, .int 0]))) := fun σ => sg_at rfl
  have q := (e σ1).symm.trans ((congrArg (fun (H : am_H) => H[0]?) h).trans (e σ2))
  have q2 := Option.some.inj q
  simp only [sg_cell] at q2
  have q3 := Sum.inr.inj (Sum.inr.inj q2)
  have q4 := (Prod.mk.inj q3).2
  have q5 := congrArg (fun l : List Value => l[10]?) q4
  have f : ∀ σ : sg_S, (List.mapIdx (fun k v => sg_fd σ 0 k v) [Value.ref 1, .ref 2, .ref 19, .ref 28, .ref 35, .ref 38, .ref 45, .ref 61, .int 0, .int 0, .int 0, .int 0, .int 0])[10]? = some (.int (σ.1 0 10)) := fun σ => by
    rw [List.getElem?_mapIdx]; rfl
  have q6 := (f σ1).symm.trans (q5.trans (f σ2))
  have q7 := Value.int.inj (Option.some.inj q6)
  unfold sg_g
  rw [q7]
theorem accP_eq {σ : sg_S} {c : tkC} {t1 t2 : aK} {N1 N2 : Nat} (hB1 : tkB c t1 N1) (hV1 : wT t1) (hB2 : tkB c t2 N2) (hV2 : wT t2) (hb : tb σ = c.1) (hg : sg_gl σ 37 = c.2.2.1) (hn : sg_g σ 0 8 = c.2.1) (h7 : (sg_gl σ 36 7, sg_g σ 36 6) = c.2.2.2) : accP t1 N1 ↔ accP t2 N2 := by
  have r1 := w_cRead (.int 0) σ (fun _ σ' => (sg_g σ' 0 10 = 1 ∧ accP t1 N1) ∨ (sg_g σ' 0 10 = 0 ∧ ¬ accP t1 N1)) (c_read hB1 hV1 hb hg hn h7 (fun q σ' a b c => Or.inr ⟨b, a⟩) (fun q σ' A D k a b c d e => Or.inl ⟨d, c⟩))
  have r2 := w_cRead (.int 0) σ (fun _ σ' => (sg_g σ' 0 10 = 1 ∧ accP t2 N2) ∨ (sg_g σ' 0 10 = 0 ∧ ¬ accP t2 N2)) (c_read hB2 hV2 hb hg hn h7 (fun q σ' a b c => Or.inr ⟨b, a⟩) (fun q σ' A D k a b c d e => Or.inl ⟨d, c⟩))
  obtain ⟨v1, σ1, v2, σ2, ⟨_, _, _, _, q1⟩, ⟨_, _, _, _, q2⟩, e⟩ := wk_det r1 r2
  have e2 := sgH_p e
  rcases q1 with ⟨a1, a2⟩ | ⟨a1, a2⟩
  · rcases q2 with ⟨b1, b2⟩ | ⟨b1, b2⟩
    · exact ⟨fun _ => b2, fun _ => a2⟩
    · rw [e2, b1] at a1; cases a1
  · rcases q2 with ⟨b1, b2⟩ | ⟨b1, b2⟩
    · rw [e2, b1] at a1; cases a1
    · exact ⟨fun x => absurd x a2, fun x => absurd x b2⟩
/-- the tokens, and nothing behind them -/
def tkU (t : aK) (N : Nat) : aK := (fun i => if i ≤ N then t.1 i else 0, fun i => if i ≤ N then t.2.1 i else 0, fun i => if i ≤ N then t.2.2 i else 0)
theorem tkU_R {t : aK} {N : Nat} {s p w : Int → Int} (h : tkR t N s p w) : tkR (tkU t N) N s p w := by
  obtain ⟨h1, h2, h3, h4, h5⟩ := h
  refine ⟨h1, fun i hi => ?_, fun i hi => ?_, ?_, fun i hi => ?_⟩
  · simp only [tkU, if_pos hi]; exact h2 i hi
  · simp only [tkU, if_pos (Nat.le_of_lt hi)]; exact h3 i hi
  · simp only [tkU, if_pos (Nat.le_refl N)]; exact h4
  · simp only [tkU, if_pos hi]; exact h5 i hi
theorem tkU_B {c : tkC} {t : aK} {N : Nat} {s p w : Int → Int} (hc : tkOK c) (hr : rsv c.2.2.1) (h : tkR t N s p w) (hT : tkT c t N) : tkB c (tkU t N) N ∧ wT (tkU t N) := by
  have hR := tkU_R h
  have hT2 : tkT c (tkU t N) N := by
    refine ⟨fun i hi => ?_, fun i hi => ?_⟩
    · simp only [tkU, if_pos hi]; exact hT.1 i hi
    · simp only [tkU, if_pos (Nat.le_of_lt hi)]; exact hT.2 i hi
  refine ⟨⟨hc, hr, hT2, hR.2.2.1, hR.2.2.2.1, fun i hi => by simp only [tkU, if_neg (show ¬ i ≤ N by omega)]⟩, fun i hi => ?_, fun i => ?_⟩
  · by_cases hN : i ≤ N
    · have hlt : i < N := by
        rcases Nat.lt_or_ge i N with q | q
        · exact q
        · have : i = N := by omega
          subst this
          rcases hR.2.2.2.1 with z | z <;> (rw [hi] at z; cases z)
      have e1 := (hT2.1 i hN).1
      rw [hi] at e1
      have hk : tK c i = 258 ∨ 261 ≤ tK c i := by
        unfold rS at e1
        repeat' split at e1
        all_goals first | assumption | (exfalso; revert e1; decide)
      obtain ⟨n, n8, na, nw, -⟩ := tok_w hc hT2 hlt hk
      have b := lx_cd_b n na
      rw [nw]
      refine ⟨b.1, Int.lt_of_lt_of_le b.2 ?_⟩
      have n9 : n = 0 ∨ n = 1 ∨ n = 2 ∨ n = 3 ∨ n = 4 ∨ n = 5 ∨ n = 6 ∨ n = 7 ∨ n = 8 := by omega
      rcases n9 with z | z | z | z | z | z | z | z | z <;> (rw [z]; decide)
    · simp only [tkU, if_neg hN] at hi
      cases hi
  · by_cases hN : i ≤ N
    · exact (hR.2.2.2.2 i hN).1
    · simp only [tkU, if_neg hN]; exact Int.le_refl _
theorem tk_ex {c : tkC} {σ : sg_S} (hb : bY c σ) (hr : rsv c.2.2.1) : ∃ t N, tkB c t N ∧ wT t := by
  have h := w_cutTokens (.int 0) σ (fun _ => ∃ t N, tkB c t N ∧ wT t) (s_cut hb (fun t N σ' h1 h2 => ⟨tkU t N, N, tkU_B hb.1 hr h1 h2⟩))
  obtain ⟨v, σ', -, -, -, q⟩ := h
  exact q
