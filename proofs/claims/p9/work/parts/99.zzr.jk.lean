/-! THE WALK of the checker: all nodes. -/
section WK4
variable {σ : sg_S} {A : aT} {X : sg_S → Prop}
theorem kB_all {cl : Int} {Lw : List Int} (hX : ∀ σ', ¬ sg_g σ' 38 13 = 0 → X σ') (h : ckW σ A) (hcl : sg_g σ 38 11 = cl) (hr : ∀ x ∈ Lw, 0 ≤ x ∧ x < A.1) : ∀ f, kB σ A X cl Lw f
  | 0 => fun n L es e b p σ15 m hf hN hLw hlf => by
    have := fT_len hf
    simp only [List.length_cons, List.length_nil] at this
    omega
  | f + 1 => fun n L es e b p σ15 m hf hN hLw hlf f15 hS hp0 h16 ⟨h43, h44, h41⟩ hE hD he hb hp k => by
    obtain ⟨L1, L2, e1, w1, w2, w3⟩ := fT_inv hf
    have e2 := fT_nil w3
    subst e2
    rw [List.append_nil] at e1
    subst e1
    obtain ⟨L', k1, k2⟩ := fT_perm (kOrd_p A n) w2
    have ll := k2.length_eq
    have hn : 0 ≤ n ∧ n < A.1 := hr n (hLw n (by simp))
    have hnw : n ∈ Lw := hLw n (by simp)
    have hnL : n ∉ L1 := (List.nodup_cons.mp hN).1
    have hN1 : L1.Nodup := (List.nodup_cons.mp hN).2
    have m1 : ∀ y, y ∈ L' ↔ y ∈ L1 := fun y => k2.mem_iff.symm
    obtain ⟨p0, p1, p2, p3, p4, p5, p6⟩ := ckW_p h hn
    have o := oR_le w1
    have z0 : od A n 0 = 0 := by
      unfold od
      rw [if_neg (by omega)]
      split <;> rfl
    simp only [List.length_cons] at he hb hp hlf ⊢
    rw [show m + (2 * (L1.length + 1) - 1) = (m + 1) + 2 * L'.length by omega]
    refine kStg hX h hn w1 hnw (kB_all hX h hcl hr f) (kOrd A n) L' 0 es e b (p + 1) σ15 (m + 1) rfl (Nat.zero_le _) k1 (k2.nodup_iff.mp hN1) (fun y hy => hLw y (List.mem_cons_of_mem _ ((m1 y).mp hy))) (fun z => hnL ((m1 n).mp z)) (by simp) (by omega) f15 hS (by rw [h44]; rfl) (fun y hy => by rw [h43]; exact p3 y (by rw [← List.head?_eq_getElem?]; exact hy)) (by simp) hE hD (by rw [z0]; omega) (by rw [z0]; omega) (by omega) (fun σ1 es1 e1 b1 f1 S1 q1 q2 u1 q3 q4 q5 q6 q7 q8 => ?_)
    have cdl := cdS_len (n := n) (fun x L => cd_len f x L) (kOrd A n) 0 L' k1
    have nl : ∀ y ∈ n :: L', y ∈ n :: L1 := fun y hy => by
      rcases List.mem_cons.mp hy with q | q
      · rw [q]; exact List.mem_cons_self
      · exact List.mem_cons_of_mem _ ((m1 y).mp q)
    have D1 := cD_u hD f15 f1 u1 (fun y hy => hLw y (nl y hy))
    have kids : ∀ x ∈ A.2.2.2.2.1 n, kIn (sg_g σ1 6 x) ∧ ¬ x = n := fun x hx => ⟨q7 x ((kOrd_p A n).mem_iff.mp hx), fun z => hnL (by rw [← z]; exact fT_sub w2 x hx)⟩
    have es1' : ∀ i, 0 ≤ i → i < e → sg_g σ1 40 i ∈ es := fun i a c => by rw [u1.2.2.1 i c]; exact hS.2.2.1 i a c
    have hE1 : hEs σ1 es b := fun s hs => by
      have := hE s hs
      exact ⟨this.1, by rw [u1.2.1 s this.1.2]; exact this.2⟩
    have e0 := hS.2.2.2.1
    have b0 := hS.2.2.2.2.1
    refine w_pop (e0 := e) (es0 := es) hX h f1 hn w1 q4 kids S1 (by rw [q3.1]; exact h41) ⟨e0, q1.1, q1.2⟩ es1' (fun s hs => ⟨⟨(hE1 s hs).1.1, by have := (hE1 s hs).1.2; omega⟩, (hE1 s hs).2⟩) hcl D1 hnw (by omega) (fun σ2 f2 S2 g2 u2 r1 r2 r3 r4 r5 => ?_)
    rw [q3.2]
    have nw : ∀ y ∈ [n], y ∈ Lw := fun y hy => by simp at hy; rw [hy]; exact hnw
    have st12 : stb σ1 σ2 cl b1 L1 := stb_u D1 f1 f2 u2 nw (fun y hy z => by simp at z; rw [z] at hy; exact hnL hy)
    have U : kU σ15 σ2 e b (p + 1) (n :: L1) := kU_t u1 u2 ⟨Int.le_refl _, by omega⟩ ⟨Int.le_refl _, by omega⟩ ⟨Int.le_refl _, by omega⟩ nl (fun y hy => by simp at hy; rw [hy]; exact List.mem_cons_self)
    have c16 : ¬ A.2.1 n = 1 → ¬ A.2.1 n = 13 → sg_g σ2 16 n = sg_g σ1 16 n := r5
    have sc : scS σ2 A (scN σ2 A cl f) n 0 es b (kOrd A n) b1 := by
      refine scS_st (σ := σ1) (LL := L1) ?_ (fun x hx => fT_sub w2 x hx) w1 (fun es x b b' => scN_le f es x b b') (fun es x b b' L => scN_st f es x b b' L) (kOrd A n) 0 es b b1 L' k1 (fun y hy => (m1 y).mp hy) (fun y hy => (hE1 y hy).1.2) st12 q6
      by_cases c1 : A.2.1 n = 1 ∨ A.2.1 n = 13
      · exact Or.inl (fun j => ⟨by omega, by omega⟩)
      · exact Or.inr (r5 (fun z => c1 (Or.inl z)) (fun z => c1 (Or.inr z)))
    have cde : cd A (f + 1) n = (0, n) :: (cdS A (cd A f) n 0 (kOrd A n) ++ cnc A n) := rfl
    have hsc : scN σ2 A cl (f + 1) es n b b1 := by
      refine ⟨fun c => ?_, r3, r4, sc⟩
      rw [r5 (by omega) (by omega), q8 (fun j _ => ⟨by omega, by omega⟩)]
      exact h16
    refine k σ2 b1 f2 ?_ U ?_ hsc r2
    · rw [cde, List.length_cons, List.length_append, show p + (((cdS A (cd A f) n 0 (kOrd A n)).length + (cnc A n).length + 1 : Nat) : Int) = p + 1 + (cdS A (cd A f) n 0 (kOrd A n)).length + (cnc A n).length by omega]
      exact S2
    · rw [cde]
      refine pC_a (C := [(0, n)]) (pC_1 ?_ ?_) (pC_a ?_ ?_)
      · rw [(U.2.2.2 p (by omega)).1]; exact hp0.1
      · rw [(U.2.2.2 p (by omega)).2]; exact hp0.2
      · exact pC_e q5 (Int.le_refl _) u2.2.2.2
      · exact r1
end WK4
