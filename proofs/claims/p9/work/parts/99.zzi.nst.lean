/-! A frame goes to its next stage, and a part begins; DEFS by number. -/
section NST2
variable {A : aT} {D : List aDf} {T B : Int → Int} {r : Int}
theorem ev_st {σ σ3 : sg_S} {m : Nat} {x s' : Int} {tys : List Int} {Q : sg_S → Prop} (F : sg_F [127, 131, 134, 71088] σ σ3) (hb : bOk A D T σ σ3) (r127 : ∀ i, ¬ i = (m : Int) → sg_g σ3 127 i = sg_g σ 127 i) (e127 : sg_g σ3 127 m = s') (hC : nC σ) (fm : sg_g σ 88 62 = m + 1) (h0 : 0 ≤ sg_g σ 128 m) (hv : sg_g σ3 88 70 = sg_g σ 128 m + tys.length) (hv2 : sg_g σ3 88 70 ≤ sg_g σ 88 70) (hS : vS σ (sg_g σ 128 m) tys) (hO : fO A D T B σ (sg_g σ 126 m)) (hF : fS A D T σ3 (sg_g σ 126 m) s' (sg_g σ 130 m) (sg_g σ 128 m) (tys ++ [T x])) (h15 : A.2.1 (sg_g σ 126 m) = 15 → ¬ s' = (A.2.2.2.2.2 (sg_g σ 126 m)).length + 1) (hK : nStk A D T B r σ m (sg_g σ 128 m) (T (sg_g σ 126 m))) (hx : fO A D T B σ3 x) (hA : A.1 ≤ 200) (k : ∀ σ', nQ A D T B r σ σ' → Q σ') : V_begin σ3 x (fun σ10 => sg_F [126, 127, 128, 129, 130, 131, 132, 55088, 63088, 74088] σ3 σ10 → Q σ10) := by
  obtain ⟨⟨c1, c2, c3, c4⟩, c5, c6, c7, c8⟩ := hC
  have g54 : sg_g σ3 88 54 = sg_g σ 88 54 := sg_F_g F (by rfl)
  have g56 : sg_g σ3 88 56 = sg_g σ 88 56 := sg_F_g F (by rfl)
  have g60 : sg_g σ3 88 60 = sg_g σ 88 60 := sg_F_g F (by rfl)
  have g62 : sg_g σ3 88 62 = sg_g σ 88 62 := sg_F_g F (by rfl)
  have e6 : ∀ i, sg_g σ3 126 i = sg_g σ 126 i := fun i => sg_F_ga F rfl
  have e8 : ∀ i, sg_g σ3 128 i = sg_g σ 128 i := fun i => sg_F_ga F rfl
  have e30 : ∀ i, sg_g σ3 130 i = sg_g σ 130 i := fun i => sg_F_ga F rfl
  have ex : nEx σ σ3 := nEx_F F rfl
  have hM := nM_le A σ
  refine ev_begin (A := A) (D := D) (T := T) (B := B) (r := r) (m := m) ⟨⟨by omega, by omega, by omega, by omega⟩, by omega, by omega, by omega, by omega⟩ (by omega) ⟨tys, by rw [e8]; exact h0, by rw [e8]; exact hv, ?_, by rw [e6]; exact fO_up ex hb hO, ?_, by rw [e6, e127]; exact h15, ?_⟩ hx hA (fun σ' x1 _ _ => k σ' ?_)
  · rw [e8]; exact vS_up ex (fun y _ _ => sg_F_ga F rfl) hS
  · rw [e6, e8, e30, e127]
    exact hF
  · rw [e6, e8]
    exact nStk_up ex hb m _ _ (fun i hi => ⟨e6 i, r127 i (by omega), e8 i, e30 i⟩) (fun y _ _ => sg_F_ga F rfl) hK
  · rcases x1 with x1 | ⟨x1, x2, x3⟩
    · exact Or.inl x1
    · exact Or.inr ⟨x1, x2, by omega⟩
theorem ev_part {σ σ9 : sg_S} {m : Nat} {x n part : Int} {tys : List Int} {Q : sg_S → Prop} (F : sg_F [134, 71088] σ σ9) (hb : bOk A D T σ σ9) (hP : trT σ A) (hC : nC σ) (en : sg_g σ 126 m = n) (fm : sg_g σ 88 62 = m + 1) (h0 : 0 ≤ sg_g σ 128 m) (hv : sg_g σ9 88 70 = sg_g σ 128 m + tys.length) (hv2 : sg_g σ9 88 70 ≤ sg_g σ 88 70) (hS : vS σ (sg_g σ 128 m) tys) (hO : fO A D T B σ n) (hs : 0 ≤ sg_g σ 127 m ∧ sg_g σ 127 m ≤ 300) (hF : fS A D T σ n (sg_g σ 127 m + 1) (sg_g σ 130 m) (sg_g σ 128 m) (tys ++ [T x])) (h15 : A.2.1 n = 15 → ¬ sg_g σ 127 m = (A.2.2.2.2.2 n).length) (hK : nStk A D T B r σ m (sg_g σ 128 m) (T n)) (hx : fO A D T B σ9 x) (hp : 0 ≤ part ∧ (A.2.2.2.2.1 n)[part.toNat]? = some x) (hA : A.1 ≤ 200) (k : ∀ σ', nQ A D T B r σ σ' → Q σ') : V_goPart σ9 m part (fun σ10 => sg_F [126, 127, 128, 129, 130, 131, 132, 55088, 63088, 74088] σ9 σ10 → Q σ10) := by
  obtain ⟨w1, w2, w3⟩ := fO_w hO
  obtain ⟨t1, t2, t3, t4, t5⟩ := tr_k hP w2
  have hl : part.toNat < (A.2.2.2.2.1 n).length := by
    rcases Nat.lt_or_ge part.toNat (A.2.2.2.2.1 n).length with q | q
    · exact q
    · rw [List.getElem?_eq_none q] at hp; cases hp.2
  have e127 : ∀ i, sg_g σ9 127 i = sg_g σ 127 i := fun i => sg_F_ga F rfl
  have e126 : ∀ i, sg_g σ9 126 i = sg_g σ 126 i := fun i => sg_F_ga F rfl
  have e97 := t4 part.toNat x hp.2
  rw [show ((part.toNat : Nat) : Int) = part by omega] at e97
  have c := hC
  obtain ⟨⟨c1, c2, c3, c4⟩, c5, c6, c7, c8⟩ := c
  unfold V_goPart
  refine ⟨⟨by omega, by omega⟩, by rw [e127]; exact ⟨by omega, by omega⟩, fun σ3 e3 => ?_⟩
  rw [e126, en, sg_F_ga F rfl, e97]
  have F3 : sg_F [127, 131, 134, 71088] σ σ3 := by rw [e3]; exact sg_F_w (sg_F_m F rfl) rfl _
  have fx : fO A D T B σ3 x := by
    refine fO_up (σ := σ9) ?_ (fun b => Or.inl ?_) hx
    · rw [e3]; exact nEx_F (L := [127]) (sg_F_w (sg_F_r _ _) rfl _) rfl
    · rw [e3, sg_gw_c _ _ _ _ _ _ (by decide)]
  refine ⟨⟨by omega, by omega⟩, ⟨by omega, by omega⟩, ⟨by omega, by omega⟩, ?_⟩
  have b3 : bOk A D T σ σ3 := fun b => by
    rcases hb b with e | e
    · left; rw [e3, sg_gw_c _ _ _ _ _ _ (by decide)]; exact e
    · right
      rw [e3, sg_gw_c _ _ _ _ _ _ (by decide)]
      exact vU_up (by rw [← e3]; rw [e3]; exact nEx_F (L := [127]) (sg_F_w (sg_F_r _ _) rfl _) rfl) e
  have be := ev_st (A := A) (D := D) (T := T) (B := B) (r := r) (x := x) (Q := Q) (s' := sg_g σ 127 m + 1) (tys := tys) F3 b3 (fun i hi => by rw [e3, sg_gw_k _ _ _ _ _ _ hi]; exact e127 i) (by rw [e3, sg_gw_e _ _ _ _ (by rw [e127]; exact ⟨by omega, by omega⟩), e127]) hC fm h0 (by rw [e3, sg_gw_c _ _ _ _ _ _ (by decide)]; exact hv) (by rw [e3, sg_gw_c _ _ _ _ _ _ (by decide)]; exact hv2) hS (by rw [en]; exact hO) (by rw [en]; exact fS_up (nEx_F F3 rfl) b3 (fun _ _ y _ _ => sg_F_ga F3 rfl) hF) (by rw [en]; intro z y; exact h15 z (by omega)) (by rw [en]; exact hK) fx hA k
  have wk : ∀ (P Q : sg_S → Prop), (∀ s, P s → Q s) → V_begin σ3 x P → V_begin σ3 x Q := fun P Q h v => by
    unfold V_begin V_works at v ⊢
    obtain ⟨P4, v1, v2⟩ := v
    refine ⟨P4, v1, fun s f p => ?_⟩
    have := v2 s f p
    exact ⟨fun z => ⟨(this.1 z).1, fun s9 e9 F9 => ⟨((this.1 z).2 s9 e9 F9).1, fun a1 b1 a2 b2 a3 b3 a4 b4 a5 b5 a6 b6 a7 b7 => ⟨(((this.1 z).2 s9 e9 F9).2 a1 b1 a2 b2 a3 b3 a4 b4 a5 b5 a6 b6 a7 b7).1, fun a8 b8 => h _ ((((this.1 z).2 s9 e9 F9).2 a1 b1 a2 b2 a3 b3 a4 b4 a5 b5 a6 b6 a7 b7).2 a8 b8)⟩⟩⟩, fun z => ⟨(this.2 z).1, (this.2 z).2.1, fun s9 e9 F9 => ⟨((this.2 z).2.2 s9 e9 F9).1, fun a1 b1 a2 b2 a3 b3 a4 b4 a5 b5 a6 b6 a7 b7 => ⟨(((this.2 z).2.2 s9 e9 F9).2 a1 b1 a2 b2 a3 b3 a4 b4 a5 b5 a6 b6 a7 b7).1, fun a8 b8 => h _ ((((this.2 z).2.2 s9 e9 F9).2 a1 b1 a2 b2 a3 b3 a4 b4 a5 b5 a6 b6 a7 b7).2 a8 b8)⟩⟩⟩⟩
  exact wk _ _ (fun s p f _ => p f) be
end NST2
