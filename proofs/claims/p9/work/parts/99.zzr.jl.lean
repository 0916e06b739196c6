/-! walk of the checker once more. -/
section WK5
variable {σ : sg_S} {A : aT} {Q : sg_S → Prop}
theorem d_walk {d n e b p cl : Int} {es L : List Int} (h : ckW σ A) (hf : fT A [n] L) (hN : L.Nodup) (hr : ∀ x ∈ L, 0 ≤ x ∧ x < A.1) (hl : L.length ≤ 200) (hd : 0 ≤ d ∧ d < 13) (hS : kS σ es e b p) (hE : hEs σ es b) (hcl : sg_g σ 38 11 = cl) (hD : cDq σ A cl L) (he : e + L.length ≤ 272) (hb : b + L.length ≤ 272) (hp : p + 5 * L.length + 1 ≤ 1013) (k1 : ∀ σ', ¬ sg_g σ' 38 13 = 0 → Q σ') (k2 : ∀ σ' b', sg_F kwL σ σ' → kS σ' es e b' (p + (cd A 201 n).length + 1) → kU σ σ' e b p L → sg_g σ' 31 d = p → (∀ i, ¬ i = d → sg_g σ' 31 i = sg_g σ 31 i) → pC σ' p (cd A 201 n ++ [(6, d)]) → scN σ' A cl 201 es n b b' → kIn (sg_g σ' 6 n) → Q σ') : V_kWalk σ d n Q := by
  have hA := h.1
  have hn : 0 ≤ n ∧ n < A.1 := hr n (fT_sub hf n (by simp))
  have n200 : 0 ≤ n ∧ n < 200 := by omega
  have hL1 := fT_len hf
  simp only [List.length_cons, List.length_nil] at hL1
  obtain ⟨s1, ⟨s2, s3, s4⟩, s5, s6, s7, s8⟩ := id hS
  unfold V_kWalk
  intro σ1 e1 σ4 e4
  rw [xp_in hd, s4] at e1
  rw [xp_in n200] at e4
  have f4 : sg_F [31, 42] σ σ4 := by rw [e4, e1]; exact sg_F_w (sg_F_w (sg_F_r _ _) rfl _) rfl _
  have S4 : kS σ4 es e b p := ⟨by rw [sg_F_g f4 (by rfl)]; exact s1, ⟨by rw [sg_F_g f4 (by rfl)]; exact s2, by rw [sg_F_g f4 (by rfl)]; exact s3, by rw [sg_F_g f4 (by rfl)]; exact s4⟩, fun i a c => by rw [sg_F_ga f4 rfl]; exact s5 i a c, s6, s7, s8⟩
  refine d_enter n200 S4 (by omega) (fun σ8 S8 f8 u8 c1 c2 c3 _ => ?_)
  have F8 : sg_F kwL σ σ8 := sg_F_t (sg_F_m f4 rfl) (sg_F_m f8 rfl)
  have g42 : sg_g σ8 42 n = -1 := by rw [sg_F_ga f8 rfl, e4, sg_gw_e _ _ _ _ (by decide)]
  have nL : n ∈ L := fT_sub hf n (by simp)
  have u4 : kU σ σ4 e b p L := ⟨fun x hx => by
    have xn : ¬ x = n := fun z => hx (by rw [z]; exact nL)
    refine ⟨⟨sg_F_ga f4 rfl, sg_F_ga f4 rfl⟩, sg_F_ga f4 rfl, ?_, sg_F_ga f4 rfl, sg_F_ga f4 rfl⟩
    rw [e4, sg_gw_k _ _ _ _ _ _ xn, e1, sg_gw_c _ _ _ _ _ _ (by decide)], fun s _ => sg_F_ga f4 rfl, fun i _ => sg_F_ga f4 rfl, fun i _ => ⟨sg_F_ga f4 rfl, sg_F_ga f4 rfl⟩⟩
  have U8 : kU σ σ8 e b p L := kU_t u4 u8 ⟨Int.le_refl _, Int.le_refl _⟩ ⟨Int.le_refl _, Int.le_refl _⟩ ⟨Int.le_refl _, Int.le_refl _⟩ (fun _ h => h) (fun x hx => by simp at hx; rw [hx]; exact nL)
  have E8 : hEs σ8 es b := fun s hs => by
    have := hE s hs
    exact ⟨this.1, by rw [U8.2.1 s this.1.2]; exact this.2⟩
  have D8 : cDq σ8 A cl L := cD_u (σ := σ) hD (sg_F_r _ _) F8 U8 (fun _ h => h)
  let X : sg_S → Prop := fun σ15 => ¬ sg_g σ15 38 13 = 0 ∨ ∃ b', sg_F kwL σ σ15 ∧ kS σ15 es e b' (p + (cd A 201 n).length) ∧ kU σ8 σ15 e b (p + 1) L ∧ pC σ15 p (cd A 201 n) ∧ scN σ15 A cl 201 es n b b' ∧ kIn (sg_g σ15 6 n)
  have hX : ∀ σ', ¬ sg_g σ' 38 13 = 0 → X σ' := fun σ' z => Or.inl z
  have W : kWk σ X 401 n σ8 := by
    rw [show (401 : Nat) = (401 - (2 * L.length - 1)) + (2 * L.length - 1) by omega]
    refine kB_all hX h hcl hr 201 n L es e b p σ8 _ hf hN (fun _ h => h) (by omega) F8 S8 c1 c2 ⟨by rw [c3.1, sg_F_ga f4 rfl], c3.2⟩ E8 D8 he hb (by omega) (fun σ' b' q1 q2 q3 q4 q5 q6 => ?_)
    rw [g42]
    have x : X σ' := Or.inr ⟨b', q1, q2, q3, q4, q5, q6⟩
    generalize 401 - (2 * L.length - 1) = m
    cases m with
    | zero => exact ⟨fun _ => x, fun _ => x, fun z => by omega⟩
    | succ m => exact ⟨fun _ => x, fun _ => x, fun z => by omega⟩
  refine ⟨fun m v13 v14 σ15 => v14 = 401 - (m : Int) ∧ m ≤ 401 ∧ kWk σ X m v13 σ15, X, ⟨401, rfl, Nat.le_refl _, W⟩, ?_, ?_⟩
  · rintro m v13 v14 σ15 r13 r14 f15 ⟨ev, hm, hk⟩
    cases m with
    | zero =>
      have x : X σ15 := by
        by_cases c : v13 < 0
        · exact hk.1 c
        · by_cases c' : sg_g σ15 38 13 = 0
          · exact (hk.2.2 (by omega) c').elim
          · exact hk.2.1 c'
      exact ⟨fun _ => x, fun _ => ⟨fun _ => x, fun _ => ⟨fun _ => x, fun c => (hk.2.2 (by omega) c).elim⟩⟩⟩
    | succ m =>
      refine ⟨fun z => by omega, fun _ => ⟨fun z => hk.1 z, fun z => ⟨fun z2 => hk.2.1 z2, fun z2 => ⟨kWk σ X m, hk.2.2 z z2, fun v44 σ42 _ _ h42 => ⟨⟨by omega, by omega⟩, m, by omega, by omega, by omega, h42⟩⟩⟩⟩⟩
  · intro σ15 f15 x
    rcases x with z | ⟨b', x1, x2, x3, x4, x5, x6⟩
    · exact c_add (fun σ31 f31 _ => k1 σ31 (by rw [sg_F_g f31 (by rfl)]; exact z))
    · have cl5 := cd_len 201 n L hf
      obtain ⟨y1, ⟨y2, y3, y4⟩, y5, y6, y7, y8⟩ := id x2
      refine d_add (p := p + (cd A 201 n).length) y4 ⟨y8, by omega⟩ (by decide) ⟨by omega, by omega⟩ (fun σ31 f31 d1 d2 d3 d4 _ => ?_)
      have FF : sg_F kwL σ σ31 := sg_F_t x1 (sg_F_m f31 rfl)
      have U : kU σ σ31 e b p L := kU_t U8 (kU_t x3 (⟨fun x _ => ⟨⟨sg_F_ga f31 rfl, sg_F_ga f31 rfl⟩, sg_F_ga f31 rfl, sg_F_ga f31 rfl, sg_F_ga f31 rfl, sg_F_ga f31 rfl⟩, fun s _ => sg_F_ga f31 rfl, fun i _ => sg_F_ga f31 rfl, fun i hi => d4 i (by omega)⟩ : kU σ15 σ31 e b (p + (cd A 201 n).length) L) (L := L) (e := e) (b := b) (p := p) ⟨Int.le_refl _, Int.le_refl _⟩ ⟨Int.le_refl _, Int.le_refl _⟩ ⟨by omega, by omega⟩ (fun _ h => h) (fun _ h => h)) ⟨Int.le_refl _, Int.le_refl _⟩ ⟨Int.le_refl _, Int.le_refl _⟩ ⟨Int.le_refl _, Int.le_refl _⟩ (fun _ h => h) (fun _ h => h)
      have g31 : ∀ i, sg_g σ31 31 i = sg_g σ4 31 i := fun i => by rw [sg_F_ga f31 rfl, sg_F_ga f15 rfl, sg_F_ga f8 rfl]
      have rp : sg_R p := by rw [← s4]; exact sg_Rg _ _ _
      refine k2 σ31 b' FF ⟨by rw [sg_F_g f31 (by rfl)]; exact y1, ⟨by rw [sg_F_g f31 (by rfl)]; exact y2, by rw [sg_F_g f31 (by rfl)]; exact y3, d1⟩, fun i a c => by rw [sg_F_ga f31 rfl]; exact y5 i a c, y6, y7, by omega⟩ U ?_ (fun i hi => ?_) (pC_a (pC_e x4 (Int.le_refl _) (fun i hi => d4 i (by omega))) (pC_1 d2 d3)) ?_ (by rw [sg_F_ga f31 rfl]; exact x6)
      · rw [g31, e4, sg_gw_c _ _ _ _ _ _ (by decide), e1, sg_gw_e _ _ _ _ rp]
      · rw [g31, e4, sg_gw_c _ _ _ _ _ _ (by decide), e1, sg_gw_k _ _ _ _ _ _ hi]
      · refine scN_st (σ := σ15) (LL := L) 201 es n b b' L hf (fun _ h => h) (fun y hy => (hE y hy).1.2) ⟨fun x _ => ⟨sg_F_ga f31 rfl, sg_F_ga f31 rfl⟩, fun s _ => sg_F_ga f31 rfl, fun i => ⟨sg_F_ga f31 rfl, sg_F_ga f31 rfl, sg_F_ga f31 rfl⟩, fun q _ _ => sg_F_ga f31 rfl⟩ x5
end WK5
