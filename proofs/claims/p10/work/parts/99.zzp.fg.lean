/-! flat ops: what they come to; gathered, lengths put, made outer. -/
theorem gH_ex {σ σ' : sg_S} {b : Prop} {s t : Int} (h : gH σ (sg_g σ 88 91) b s t σ') (F : sg_F [142, 92088] σ σ') : fEx σ σ' := by
  obtain ⟨⟨h1, h2⟩, h3, h4⟩ := h
  exact ⟨⟨by rw [sg_F_g F (by rfl)]; exact Int.le_refl _, by omega⟩, fun v _ _ => sg_F_ga F rfl, fun x _ _ => ⟨sg_F_ga F rfl, sg_F_ga F rfl⟩, fun x y z => h3 x y z⟩
/-- what an op comes to: the run ends, a lane is at fault, or a value of K rows below the first, with L lanes -/
def opR (σ σ' : sg_S) (K : Nat) (L q : Int) : Prop := ¬ sg_g σ' 88 73 = 0 ∨ (fq σ' ∧ (0 ≤ sg_g σ' 88 102 ∨ (fEx σ σ' ∧ (sg_g σ' 88 84 = sg_g σ 88 84 + 1 ∧ sg_g σ' 88 84 ≤ 2000) ∧ (sg_g σ 88 85 ≤ sg_g σ' 88 85 ∧ sg_g σ' 88 85 ≤ 6000) ∧ sg_g σ' 88 91 ≤ 2 * sg_g σ' 88 85 ∧ sg_g σ' 88 87 ≤ sg_g σ 88 87 + 8 ∧ ∃ R, fV σ' 6000 q R ∧ R.length = K + 1 ∧ (R.getD 0 (0, 0)).2 = L ∧ eX R ≤ sg_g σ' 88 85 - sg_g σ 88 85)))
section FG
variable {σ : sg_S} {M : Int} {R : List (Int × Int)}
theorem eX_g : eX (gR σ R) = gT σ R (sg_g σ 88 93).toNat R.length := by
  have key : ∀ l, l ≤ R.length → gT σ R (sg_g σ 88 93).toNat l + eX ((gR σ R).drop l) = eX (gR σ R) := fun l => by
    induction l with
    | zero => intro _; simp only [gT, List.drop_zero]; omega
    | succ l ih =>
      intro h
      have a := ih (by omega)
      rw [eX_d (gR_at (by omega))] at a
      simp only [gT]
      simp only at a
      omega
  have k := key _ (Nat.le_refl _)
  rw [List.drop_of_length_le (by rw [gR_l]; exact Nat.le_refl _)] at k
  simp only [eX] at k
  omega
theorem gR_c (h : 1 ≤ R.length) : ∃ r R', gR σ R = r :: R' ∧ r.2 = ((sg_g σ 88 93).toNat : Int) ∧ R'.length + 1 = R.length := by
  have l := gR_l σ R
  have a := gR_at (σ := σ) (R := R) (l := 0) h
  cases e : gR σ R with
  | nil => rw [e] at l; simp at l; omega
  | cons r R' =>
    rw [e] at a l
    simp only [List.getElem?_cons_zero, Option.some.injEq] at a
    exact ⟨r, R', rfl, by rw [a]; exact gsum_0 _, by simpa using l⟩
/-- gathered, then lengths put and an outer row made of them -/
theorem m_tail {v L N : Int} {Q : Int → sg_S → Prop} (hv : fV σ M v R) (hR : R.length ≤ 3) (hM : 1 ≤ M ∧ M ≤ 12000) (hc : 0 ≤ sg_g σ 88 91) (hfl : 0 ≤ sg_g σ 88 87 ∧ sg_g σ 88 87 ≤ 29000) (hl : lO σ N (R.getD 0 (0, 0)).2) (hN : N ≤ 13000) (hL : 0 ≤ L ∧ L ≤ 6000) (hn : N = ls σ L.toNat) (hz : ∀ i : Nat, (i : Int) < L → 0 ≤ sg_g σ 150 i ∧ sg_g σ 150 i ≤ 200) (hg : gT σ R N.toNat R.length ≤ 6000) (ht : sg_g σ 88 91 + gT σ R N.toNat R.length + L ≤ 60000) (k : ∀ q σ', fEx σ σ' → sg_g σ' 88 91 = sg_g σ 88 91 + gT σ R N.toNat R.length + L → sg_g σ' 88 87 = sg_g σ 88 87 + 2 → sg_F [139, 140, 141, 142, 144, 88088, 92088] σ σ' → (∃ R', fV σ' 6000 q R' ∧ R'.length = R.length + 1 ∧ (R'.getD 0 (0, 0)).2 = L ∧ eX R' = L + gT σ R N.toNat R.length) → Q q σ') : V_gathered σ v (fun q51 σ52 => sg_R q51 → sg_F [139, 140, 141, 142, 144, 88088, 92088] σ σ52 → V_putLens σ52 L (fun q57 σ58 => sg_R q57 → sg_F [142, 92088] σ52 σ58 → V_outer σ58 q57 L q51 (fun q63 σ64 => sg_R q63 → sg_F [139, 140, 141, 88088] σ58 σ64 → Q q63 σ64))) := by
  have lo := lnO_of hl hN rfl
  have h93 := hl.1
  have h0 := hl.2.1
  have R1 := hv.2.1.1
  have ch := hv.2.2.2.2
  have gsm : ∀ l, l < R.length → gsum σ R l N.toNat ≤ 6000 := fun l h => by
    have a := gT_l ch lo hM.1 (j := N.toNat) (by omega) h
    have b := gT_b ch lo hM.1 (j := N.toNat) (by omega) (l := l) (by omega)
    omega
  refine m_gath hv hM hc ⟨by omega, by omega⟩ lo (by rw [h93]; have := hL.1; omega) (fun q σ' eq ex fv e87 e91 _ rq f => ?_)
  rw [h93] at e91 fv
  have fv6 := fv 6000 gsm
  have g0 : 0 ≤ gT σ R N.toNat R.length := gT_b ch lo hM.1 (by omega) (Nat.le_refl _)
  obtain ⟨r, R', er, er2, el⟩ := gR_c (σ := σ) (R := R) R1
  rw [er] at fv6
  rw [h93] at er2
  refine m_putLens ⟨by omega, by omega⟩ ⟨by omega, by omega⟩ (fun i hi => by rw [sg_F_ga f rfl]; exact hz i hi) (fun σ58 h58 f58 _ _ => ?_)
  have ex2 := gH_ex h58 f58
  obtain ⟨⟨p1, p2⟩, p3, p4⟩ := h58
  obtain ⟨p5, p6⟩ := p4 trivial
  have e58 : sg_g σ58 88 87 = sg_g σ' 88 87 := sg_F_g f58 (by rfl)
  have lse : ls σ' L.toNat = N := by rw [ls_e (σ := σ) (fun i _ => sg_F_ga f rfl), hn]
  refine m_outer (M := 6000) ⟨by omega, by omega⟩ (fV_up ex2 fv6) (by omega) ⟨⟨by omega, by omega⟩, ⟨by omega, by omega⟩⟩ ⟨by simp only; omega, by simp only; omega, by simp only; omega, by simp only; omega⟩ (fun i x y => p5 i x y) (by rw [p6, lse, er2]; omega) (fun q2 σ3 e3 ex3 fv3 e87' f3 _ _ => ?_)
  refine k q2 σ3 (fEx_t ex (fEx_t ex2 ex3)) ?_ (by omega) (sg_F_t f (sg_F_t (sg_F_m f58 rfl) (sg_F_m f3 rfl))) ⟨_, fv3, by simp only [List.length_cons]; omega, rfl, ?_⟩
  · rw [sg_F_g f3 (by rfl)]
    omega
  · have e := eX_g (σ := σ) (R := R)
    rw [er, h93] at e
    simp only [eX] at e ⊢
    omega
/-- an op that puts one number a lane -/
theorem m_nums {L f : Int} {σb : sg_S} {Q : Int → sg_S → Prop} {t : Int} (h : gH σb (sg_g σb 88 91) False L t σ) (F : sg_F [142, 92088, 103088, 104088] σb σ) (hf : f = sg_g σb 88 91) (h0 : 0 ≤ sg_g σb 88 91 ∧ sg_g σb 88 91 + L ≤ 60000) (hfl : 0 ≤ sg_g σ 88 87 ∧ sg_g σ 88 87 ≤ 29000) (hL : 0 ≤ L ∧ L ≤ 6000) (k : ∀ q σ', fEx σb σ' → sg_g σ' 88 91 = sg_g σb 88 91 + L → sg_g σ' 88 87 = sg_g σb 88 87 + 1 → sg_F [139, 140, 141, 88088] σ σ' → fV σ' 6000 q [(f, L)] → Q q σ') : V_numbers σ f Q := by
  have h1 := h.1.1
  have ex : fEx σb σ := ⟨⟨by rw [sg_F_g F (by rfl)]; exact Int.le_refl _, by omega⟩, fun v _ _ => sg_F_ga F rfl, fun x _ _ => ⟨sg_F_ga F rfl, sg_F_ga F rfl⟩, fun x y z => h.2.1 x y z⟩
  have e87 : sg_g σ 88 87 = sg_g σb 88 87 := sg_F_g F (by rfl)
  subst hf
  refine m_numbers (M := 6000) ⟨by omega, by omega⟩ ⟨by omega, by omega, by omega⟩ (by omega) (fun q σ' e1 e2 e3 e4 e5 => k q σ' (fEx_t ex e2) (by rw [sg_F_g e5 (by rfl)]; omega) (by omega) e5 ?_)
  rwa [show sg_g σ 88 91 - sg_g σb 88 91 = L by omega] at e3
/-- a value of c cells at most -/
def fLx (σ : sg_S) (K : Nat) (L c v : Int) : Prop := ∃ R, fV σ 6000 v R ∧ R.length = K + 1 ∧ (R.getD 0 (0, 0)).2 = L ∧ eX R ≤ c
/-- lanes of a value -/
def fL (σ : sg_S) (K : Nat) (L v : Int) : Prop := ∃ R, fV σ 6000 v R ∧ R.length = K + 1 ∧ (R.getD 0 (0, 0)).2 = L
theorem fL_up {σ σ' : sg_S} {K : Nat} {L v : Int} (h : fEx σ σ') (a : fL σ K L v) : fL σ' K L v := by
  obtain ⟨R, a1, a2, a3⟩ := a
  exact ⟨R, fV_up h a1, a2, a3⟩
theorem fLx_L {K : Nat} {L c v : Int} (a : fLx σ K L c v) : fL σ K L v := by
  obtain ⟨R, a1, a2, a3, -⟩ := a
  exact ⟨R, a1, a2, a3⟩
theorem fLx_up {σ σ' : sg_S} {K : Nat} {L c c' v : Int} (h : fEx σ σ') (hc : c ≤ c') (a : fLx σ K L c v) : fLx σ' K L c' v := by
  obtain ⟨R, a1, a2, a3, a4⟩ := a
  exact ⟨R, fV_up h a1, a2, a3, by omega⟩
theorem fL_c {K : Nat} {L v : Int} (a : fL σ K L v) : ∃ r R, fV σ 6000 v (r :: R) ∧ R.length = K ∧ r.2 = L := by
  obtain ⟨R, a1, a2, a3⟩ := a
  cases R with
  | nil => simp at a2
  | cons r R => exact ⟨r, R, a1, by simpa using a2, a3⟩
theorem fL_L {K : Nat} {L v : Int} (a : fL σ K L v) : 0 ≤ L ∧ L ≤ 6000 := by
  obtain ⟨r, R, a1, a2, a3⟩ := fL_c a
  obtain ⟨b1, b2, b3, b4⟩ := a1.2.2.2.2.1
  omega
theorem opR_mk {σ σ1 σ' : sg_S} {K : Nat} {L q a : Int} {l : List Nat} (s1 : sg_g σ1 88 84 = sg_g σ 88 84 + 1) (s2 : sg_g σ1 88 84 ≤ 2000) (s3 : sg_g σ1 88 85 = sg_g σ 88 85 + a) (s4 : sg_g σ1 88 85 ≤ 6000) (a0 : 0 ≤ a) (F : sg_F l σ1 σ') (hl : (!sg_cv l 88 84 && !sg_cv l 88 85) = true) (hq : fq σ') (ex : fEx σ σ') (h91 : sg_g σ' 88 91 ≤ 2 * (sg_g σ 88 85 + a)) (h87 : sg_g σ' 88 87 ≤ sg_g σ 88 87 + 8) (hf : fLx σ' K L a q) : opR σ σ' K L q := by
  simp only [Bool.and_eq_true, Bool.not_eq_true'] at hl
  have e1 := sg_F_g F hl.1
  have e2 := sg_F_g F hl.2
  exact Or.inr ⟨hq, Or.inr ⟨ex, ⟨by omega, by omega⟩, ⟨by omega, by omega⟩, by omega, h87, by rw [show sg_g σ' 88 85 - sg_g σ 88 85 = a by omega]; exact hf⟩⟩
theorem fq_F {l : List Nat} {σ σ' : sg_S} (F : sg_F l σ σ') (hl : (!sg_cv l 88 102 && !sg_cv l 88 103) = true) (h : fq σ) : fq σ' := by
  simp only [Bool.and_eq_true, Bool.not_eq_true'] at hl
  unfold fq
  rw [sg_F_g F hl.1, sg_F_g F hl.2]
  exact h
theorem m_f0 {n L : Int} {Q : Int → sg_S → Prop} (hC : fC σ) (hL : 0 ≤ L ∧ L ≤ 6000) (hn : 0 ≤ n ∧ n < 210) (hq : fq σ) (k : ∀ q σ', opR σ σ' 0 L q → sg_F [139, 140, 141, 142, 74088, 85088, 86088, 88088, 92088, 103088, 104088] σ σ' → Q q σ') : V_flatWorked_0 σ n L Q := by
  obtain ⟨c1, c2, c3, c4⟩ := hC
  unfold V_flatWorked_0
  refine m_stepped ⟨c1, c2⟩ ⟨by omega, by omega⟩ (fun σ' e _ ff => ⟨fun z => absurd rfl z, fun _ => k _ _ (Or.inl e) (sg_F_m ff rfl)⟩) (fun σ1 f1 s1 s2 s3 s4 _ _ => ⟨fun _ => ?_, fun z => by omega⟩)
  have e91 : sg_g σ1 88 91 = sg_g σ 88 91 := sg_F_g f1 (by rfl)
  have e87 : sg_g σ1 88 87 = sg_g σ 88 87 := sg_F_g f1 (by rfl)
  refine ⟨fun m x σ2 => m = (L - x).toNat ∧ (0 ≤ x ∧ x ≤ L) ∧ ∃ t, gH σ1 (sg_g σ1 88 91) False x t σ2, fun σ2 => ∃ t, gH σ1 (sg_g σ1 88 91) False L t σ2, ⟨_, rfl, ⟨by omega, by omega⟩, 0, gH_0 _ _⟩, ?_, ?_⟩
  · rintro m x σ2 rx f2 ⟨en, hx, t, hG⟩
    refine ⟨fun z => ⟨t, by rw [show L = x by omega]; exact hG⟩, fun z => ⟨hn, ?_⟩⟩
    refine m_put hG (by omega) (by omega) (sg_Rn _) (fun b => b.elim) (fun σ3 h3 _ => ⟨⟨by omega, by omega⟩, _, by omega, rfl, ⟨by omega, by omega⟩, _, h3⟩)
  · rintro σ2 f2 ⟨t, hG⟩
    refine m_nums hG (sg_F_m f2 rfl) (by omega) ⟨by omega, by omega⟩ ⟨by rw [sg_F_g f2 (by rfl)]; omega, by rw [sg_F_g f2 (by rfl)]; omega⟩ hL (fun q σ' x1 x2 x3 x4 x5 _ _ => k q σ' (opR_mk s1 s2 s3 s4 hL.1 (sg_F_t (sg_F_m (L := [139, 140, 141, 142, 88088, 92088]) f2 rfl) (sg_F_m x4 rfl)) rfl (fq_F x4 rfl (fq_F f2 rfl (fq_F f1 rfl hq))) (fEx_t (fEx_F f1 rfl) x1) (by omega) (by omega) ⟨_, x5, rfl, rfl, by simp only [eX]; omega⟩) (sg_F_t (sg_F_m f1 rfl) (sg_F_t (sg_F_m f2 rfl) (sg_F_m x4 rfl))))
/-- a row of a value is read while cells are put behind -/
theorem pR_h {σb : sg_S} {v i s t : Int} {b : Prop} {r : Int × Int} {R : List (Int × Int)} {l : List Nat} (h : fV σb M v (r :: R)) (hG : gH σb (sg_g σb 88 91) b s t σ) (F : sg_F l σb σ) (hl : (sg_ca l 140 && !sg_cv l 88 87) = true) (hc : sg_g σb 88 91 + s ≤ 60000 ∧ sg_g σb 88 87 ≤ 30000) (hi : 0 ≤ i ∧ i < r.2) : p_rowAt σ v i ∧ v_rowAt σ v i = sg_g σb 142 (r.1 + i) := by
  simp only [Bool.and_eq_true, Bool.not_eq_true'] at hl
  have h0 := fV_0 h
  obtain ⟨⟨g1, g2⟩, g3, g4⟩ := hG
  obtain ⟨a1, a2, a3, a4, ⟨b1, b2, b3, b4⟩, a6⟩ := h
  unfold p_rowAt v_rowAt
  rw [sg_F_ga F hl.1, h0.1]
  exact ⟨⟨⟨by omega, by omega⟩, ⟨by omega, by omega⟩, ⟨by omega, by omega⟩, ⟨by omega, by omega⟩, trivial⟩, g3 _ (by omega) (by omega)⟩
theorem m_f11 {L a : Int} {K : Nat} {Q : Int → sg_S → Prop} (hC : fC σ) (ha : fL σ K L a) (hq : fq σ) (k : ∀ q σ', opR σ σ' 0 L q → sg_F [139, 140, 141, 142, 74088, 85088, 86088, 88088, 92088, 103088, 104088] σ σ' → Q q σ') : V_flatWorked_11 σ L a Q := by
  have hL := fL_L ha
  obtain ⟨c1, c2, c3, c4⟩ := hC
  unfold V_flatWorked_11
  refine m_stepped ⟨c1, c2⟩ ⟨by omega, by omega⟩ (fun σ' e _ ff => ⟨fun z => absurd rfl z, fun _ => k _ _ (Or.inl e) (sg_F_m ff rfl)⟩) (fun σ1 f1 s1 s2 s3 s4 _ _ => ⟨fun _ => ?_, fun z => by omega⟩)
  have e91 : sg_g σ1 88 91 = sg_g σ 88 91 := sg_F_g f1 (by rfl)
  have e87 : sg_g σ1 88 87 = sg_g σ 88 87 := sg_F_g f1 (by rfl)
  obtain ⟨r, R, hv, hR, rL⟩ := fL_c (fL_up (fEx_F f1 rfl) ha)
  refine ⟨fun m x σ2 => m = (L - x).toNat ∧ (0 ≤ x ∧ x ≤ L) ∧ ∃ t, gH σ1 (sg_g σ1 88 91) False x t σ2, fun σ2 => ∃ t, gH σ1 (sg_g σ1 88 91) False L t σ2, ⟨_, rfl, ⟨by omega, by omega⟩, 0, gH_0 _ _⟩, ?_, ?_⟩
  · rintro m x σ2 rx f2 ⟨en, hx, t, hG⟩
    refine ⟨fun z => ⟨t, by rw [show L = x by omega]; exact hG⟩, fun z => ⟨(pR_h hv hG f2 rfl ⟨by omega, by omega⟩ ⟨by omega, by omega⟩).1, ?_⟩⟩
    refine m_put hG (by omega) (by omega) (sg_Rg _ _ _) (fun b => b.elim) (fun σ3 h3 _ => ⟨⟨by omega, by omega⟩, _, by omega, rfl, ⟨by omega, by omega⟩, _, h3⟩)
  · rintro σ2 f2 ⟨t, hG⟩
    refine m_nums hG (sg_F_m f2 rfl) (by omega) ⟨by omega, by omega⟩ ⟨by rw [sg_F_g f2 (by rfl)]; omega, by rw [sg_F_g f2 (by rfl)]; omega⟩ hL (fun q σ' x1 x2 x3 x4 x5 _ _ => k q σ' (opR_mk s1 s2 s3 s4 hL.1 (sg_F_t (sg_F_m (L := [139, 140, 141, 142, 88088, 92088]) f2 rfl) (sg_F_m x4 rfl)) rfl (fq_F x4 rfl (fq_F f2 rfl (fq_F f1 rfl hq))) (fEx_t (fEx_F f1 rfl) x1) (by omega) (by omega) ⟨_, x5, rfl, rfl, by simp only [eX]; omega⟩) (sg_F_t (sg_F_m f1 rfl) (sg_F_t (sg_F_m f2 rfl) (sg_F_m x4 rfl))))
theorem m_fd {n L a b : Int} {K K' : Nat} {Q : Int → sg_S → Prop} (hC : fC σ) (hn : 0 ≤ n ∧ n < 210) (ha : fL σ K L a) (hb : fL σ K' L b) (hq : fq σ) (k : ∀ q σ', opR σ σ' 0 L q → sg_F [139, 140, 141, 142, 74088, 85088, 86088, 88088, 92088, 103088, 104088] σ σ' → Q q σ') : V_flatWorked_d σ n L a b Q := by
  have hL := fL_L ha
  obtain ⟨c1, c2, c3, c4⟩ := hC
  unfold V_flatWorked_d
  refine m_stepped ⟨c1, c2⟩ ⟨by omega, by omega⟩ (fun σ' e _ ff => ⟨fun z => absurd rfl z, fun _ => k _ _ (Or.inl e) (sg_F_m ff rfl)⟩) (fun σ1 f1 s1 s2 s3 s4 _ _ => ⟨fun _ => ?_, fun z => by omega⟩)
  have e91 : sg_g σ1 88 91 = sg_g σ 88 91 := sg_F_g f1 (by rfl)
  have e87 : sg_g σ1 88 87 = sg_g σ 88 87 := sg_F_g f1 (by rfl)
  obtain ⟨r, R, hv, hR, rL⟩ := fL_c (fL_up (fEx_F f1 rfl) ha)
  obtain ⟨r', R', hv', hR', rL'⟩ := fL_c (fL_up (fEx_F f1 rfl) hb)
  refine ⟨fun m x σ2 => m = (L - x).toNat ∧ (0 ≤ x ∧ x ≤ L) ∧ fq σ2 ∧ ∃ t, gH σ1 (sg_g σ1 88 91) False x t σ2, fun σ2 => fq σ2 ∧ ∃ t, gH σ1 (sg_g σ1 88 91) False L t σ2, ⟨_, rfl, ⟨by omega, by omega⟩, fq_F f1 rfl hq, 0, gH_0 _ _⟩, ?_, ?_⟩
  · rintro m x σ2 rx f2 ⟨en, hx, hq2, t, hG⟩
    refine ⟨fun z => ⟨hq2, t, by rw [show L = x by omega]; exact hG⟩, fun z => ⟨hn, fun σ3 => fq σ3, ?_, fun σ3 f3 hq3 => ?_⟩⟩
    · have pb := (pR_h hv' hG f2 rfl ⟨by omega, by omega⟩ (i := x) ⟨by omega, by omega⟩).1
      have lk : V_lacks σ2 x 1 (fun σ55 => sg_F [103088, 104088] σ2 σ55 → fq σ55) := m_lacks ⟨by omega, rx⟩ ⟨by decide, by decide, by decide⟩ hq2 (fun σ5 _ h5 _ => h5)
      exact ⟨fun _ => ⟨pb, fun _ => hq2, fun _ => lk⟩, fun _ => ⟨fun _ => hq2, fun _ => ⟨pb, fun _ => hq2, fun _ => lk⟩⟩⟩
    · have pa := (pR_h hv hG f2 rfl ⟨by omega, by omega⟩ (i := x) ⟨by omega, by omega⟩).1
      have pb := (pR_h hv' hG f2 rfl ⟨by omega, by omega⟩ (i := x) ⟨by omega, by omega⟩).1
      refine ⟨pa, pb, p_op _ _ _, m_put (gH_F f3 rfl hG) (by omega) (by omega) (R_op _ _ _) (fun b => b.elim) (fun σ4 h4 f4 => ⟨⟨by omega, by omega⟩, _, by omega, rfl, ⟨by omega, by omega⟩, fq_F f4 rfl hq3, _, h4⟩)⟩
  · rintro σ2 f2 ⟨hq2, t, hG⟩
    refine m_nums hG f2 (by omega) ⟨by omega, by omega⟩ ⟨by rw [sg_F_g f2 (by rfl)]; omega, by rw [sg_F_g f2 (by rfl)]; omega⟩ hL (fun q σ' x1 x2 x3 x4 x5 _ _ => k q σ' (opR_mk s1 s2 s3 s4 hL.1 (sg_F_t (sg_F_m (L := [139, 140, 141, 142, 88088, 92088, 103088, 104088]) f2 rfl) (sg_F_m x4 rfl)) rfl (fq_F x4 rfl hq2) (fEx_t (fEx_F f1 rfl) x1) (by omega) (by omega) ⟨_, x5, rfl, rfl, by simp only [eX]; omega⟩) (sg_F_t (sg_F_m f1 rfl) (sg_F_t (sg_F_m f2 rfl) (sg_F_m x4 rfl))))
end FG
/-! flat ops: INDEX, IOTA, DIST. -/
theorem bg_F {l : List Nat} {σ σ' : sg_S} {R : List (Int × Int)} (F : sg_F l σ σ') (hl : sg_ca l 142 = true) : ∀ (r : Nat) (i : Int), bg σ' R r i = bg σ R r i
  | 0, i => rfl
  | r + 1, i => by
    simp only [bg]
    rw [bg_F F hl r i]
    exact cs_e (fun j _ => sg_F_ga F hl)
theorem gd_F {l : List Nat} {σ σ' : sg_S} {R : List (Int × Int)} (F : sg_F l σ σ') (hl : sg_ca l 142 = true) (hk : sg_ca l 143 = true) (r j : Nat) : gd σ' R r j = gd σ R r j := by
  unfold gd
  rw [sg_F_ga F hk, bg_F F hl, bg_F F hl]
theorem gsum_F {l : List Nat} {σ σ' : sg_S} {R : List (Int × Int)} (F : sg_F l σ σ') (hl : sg_ca l 142 = true) (hk : sg_ca l 143 = true) (r : Nat) : ∀ j, gsum σ' R r j = gsum σ R r j
  | 0 => rfl
  | j + 1 => by simp only [gsum]; rw [gsum_F F hl hk r j, gd_F F hl hk]
theorem gT_F {l : List Nat} {σ σ' : sg_S} {R : List (Int × Int)} (F : sg_F l σ σ') (hl : sg_ca l 142 = true) (hk : sg_ca l 143 = true) (J : Nat) : ∀ r, gT σ' R J r = gT σ R J r
  | 0 => rfl
  | r + 1 => by simp only [gT]; rw [gT_F F hl hk J r, gsum_F F hl hk]
section FH
variable {σ : sg_S} {M : Int}
/-- a value with rows below -/
theorem fL_1 {K : Nat} {L v : Int} (a : fL σ (K + 1) L v) : ∃ r r' R, fV σ 6000 v (r :: r' :: R) ∧ R.length = K ∧ r.2 = L ∧ fLn σ r ∧ r'.2 = cs σ r.1 L.toNat ∧ fRw σ 6000 r ∧ fRw σ 6000 r' := by
  obtain ⟨r, R, a1, a2, a3⟩ := fL_c a
  cases R with
  | nil => simp at a2
  | cons r' R =>
    obtain ⟨b1, b2, b3⟩ := a1.2.2.2.2
    exact ⟨r, r', R, a1, by simpa using a2, a3, b2.1, by rw [← a3]; exact b2.2, b1, b3.1⟩
theorem cs_s {p i : Int} (h : 0 ≤ i) : cs σ p (i + 1).toNat = cs σ p i.toNat + sg_g σ 142 (p + i) := by
  rw [show (i + 1).toNat = i.toNat + 1 by omega]
  simp only [cs]
  rw [show ((i.toNat : Nat) : Int) = i by omega]
/-- lengths and their sums, of a row of lengths -/
theorem ln_b {r r' : Int × Int} {L i : Int} (h : fLn σ r) (e : r'.2 = cs σ r.1 L.toNat) (eL : r.2 = L) (hi : 0 ≤ i ∧ i < L) : (0 ≤ sg_g σ 142 (r.1 + i) ∧ sg_g σ 142 (r.1 + i) ≤ 200) ∧ 0 ≤ cs σ r.1 i.toNat ∧ cs σ r.1 (i + 1).toNat = cs σ r.1 i.toNat + sg_g σ 142 (r.1 + i) ∧ cs σ r.1 (i + 1).toNat ≤ r'.2 := by
  refine ⟨h i hi.1 (by omega), cs_0 h (by omega), cs_s hi.1, ?_⟩
  rw [e]
  exact (cs_m h (by omega) (by omega)).1
theorem m_fIndex {L a b : Int} {K K' : Nat} {Q : Int → sg_S → Prop} (hC : fC σ) (ha : fL σ (K + 1) L a) (hb : fL σ K' L b) (hq : fq σ) (k : ∀ q σ', opR σ σ' K L q → Q q σ') : V_flatIndex σ a b L Q := by
  have hL := fL_L ha
  obtain ⟨c1, c2, c3, c4⟩ := hC
  obtain ⟨r, r', R, hv, hR, rL, ln, e1, w1, w2⟩ := fL_1 ha
  obtain ⟨s, S, hu, hS, sL⟩ := fL_c hb
  have K3 : K ≤ 2 := by have := hv.2.1.2; simp only [List.length_cons] at this; omega
  unfold V_flatIndex
  refine m_inner ⟨by omega, by omega⟩ hv (by simp) (fun q σ2 eq ex2 fv2 e87 f2 _ _ σ7 e7 => ?_)
  have f7 : sg_F [94088] σ2 σ7 := by rw [e7]; exact sg_F_w (sg_F_r _ _) rfl _
  have e91 : sg_g σ2 88 91 = sg_g σ 88 91 := sg_F_g f2 (by rfl)
  have hv2 := fV_up ex2 hv
  have hu2 := fV_up ex2 hu
  have ln2 : fLn σ2 r := hv2.2.2.2.2.2.1.1
  have e12 : r'.2 = cs σ2 r.1 L.toNat := by rw [← rL]; exact hv2.2.2.2.2.2.1.2
  have w22 := w2.2
  refine ⟨fun m at_ x σ3 => m = (L - x).toNat ∧ (0 ≤ x ∧ x ≤ L) ∧ at_ = cs σ2 r.1 x.toNat ∧ fq σ3 ∧ lO σ3 x r'.2, fun σ3 => fq σ3 ∧ lO σ3 L r'.2, ⟨_, rfl, ⟨by omega, by omega⟩, rfl, fq_F f7 rfl (fq_F f2 rfl hq), lO_0 e7⟩, ?_, ?_⟩
  · rintro m at_ x σ3 ra rx f3 ⟨en, hx, ea, hq3, hl3⟩
    refine ⟨fun z => by rw [show L = x by omega]; exact ⟨hq3, hl3⟩, fun z => ?_⟩
    obtain ⟨pa, va⟩ := pR hv2 ⟨by omega, by omega⟩ (i := x) ⟨by omega, by omega⟩
    obtain ⟨pb, vb⟩ := pR hu2 ⟨by omega, by omega⟩ (i := x) ⟨by omega, by omega⟩
    obtain ⟨n1, n2, n3, n4⟩ := ln_b ln2 e12 rL (i := x) ⟨by omega, by omega⟩
    rw [va, vb]
    refine ⟨pb, pa, ⟨by omega, by omega⟩, fun σ4 => fq σ4, ⟨fun _ => hq3, fun _ => m_lacks ⟨by omega, rx⟩ ⟨by decide, by decide, by decide⟩ hq3 (fun σ5 _ h5 _ => h5)⟩, fun σ4 f4 hq4 => ⟨⟨fun _ => trivial, fun c => ?_⟩, fun v60 e60 r60 => ?_⟩⟩
    · unfold v_in at c
      refine ⟨pb, ⟨?_, ?_⟩, trivial⟩ <;> (split at c; · omega) <;> (split at c <;> omega)
    · have : v60 < r'.2 := by
        rw [e60]
        unfold v_in
        split <;> split <;> (try split) <;> omega
      refine m_list (lO_F f4 rfl hl3) (by omega) r60 this (fun σ5 h5 f5 => ⟨pa, ⟨by omega, by omega⟩, ⟨by omega, by omega⟩, _, by omega, rfl, ⟨by omega, by omega⟩, by omega, fq_F f5 rfl hq4, h5⟩)
  · rintro σ3 f3 ⟨hq3, hl3⟩
    have f37 := sg_F_t (sg_F_m (L := [143, 94088, 103088, 104088]) f7 rfl) f3
    have lo : lnO σ3 (r' :: R) := lnO_of hl3 (by omega) rfl
    have fv3 := fV_up (fEx_F f37 rfl) fv2
    have g91 : sg_g σ3 88 91 = sg_g σ 88 91 := by rw [sg_F_g f37 (by rfl)]; exact e91
    have g87 : sg_g σ3 88 87 = sg_g σ 88 87 + 1 := by rw [sg_F_g f37 (by rfl)]; exact e87
    have g84 : sg_g σ3 88 84 = sg_g σ 88 84 := by rw [sg_F_g f37 (by rfl)]; exact sg_F_g f2 (by rfl)
    have g85 : sg_g σ3 88 85 = sg_g σ 88 85 := by rw [sg_F_g f37 (by rfl)]; exact sg_F_g f2 (by rfl)
    have h93 := hl3.1
    refine m_extL fv3 ⟨by decide, by decide⟩ ⟨by omega, by omega⟩ lo (fun t σ4 et f4 rt _ => ?_)
    have t0 : 0 ≤ t := by rw [et]; exact gT_b fv3.2.2.2.2 lo (by decide) (by omega) (Nat.le_refl _)
    have h84 : sg_g σ4 88 84 = sg_g σ 88 84 := by rw [sg_F_g f4 (by rfl)]; exact g84
    have h85 : sg_g σ4 88 85 = sg_g σ 88 85 := by rw [sg_F_g f4 (by rfl)]; exact g85
    by_cases tb : t ≤ 1000000000
    rotate_left
    · exfalso
      have hj : (sg_g σ3 88 93).toNat ≤ 6000 := by omega
      have hb : ∀ l : Nat, l ≤ (r' :: R).length → ∀ j : Nat, (j : Int) ≤ sg_g σ3 88 93 → gT σ3 (r' :: R) j l ≤ 6000 * l * j := fun l hl j => by
        induction j with
        | zero => intro _; rw [gT_z]; simp
        | succ j ih =>
          intro hj
          have i1 := ih (by omega)
          have i2 := eT_b fv3.2.2.2.2 lo (j := j) (by omega) (by decide) hl
          rw [gT_s, show ((j + 1 : Nat) : Int) = (j : Int) + 1 by omega, Int.mul_add, Int.mul_one]
          omega
      have hb1 := hb _ (Nat.le_refl _) (sg_g σ3 88 93).toNat (by omega)
      have l3 : (r' :: R).length ≤ 3 := by simp only [List.length_cons]; omega
      have : (6000 : Int) * ((r' :: R).length : Int) * ((sg_g σ3 88 93).toNat : Int) ≤ 18000 * 6000 := Int.mul_le_mul (by omega) (by omega) (by omega) (by omega)
      omega
    refine m_stepped ⟨by omega, by omega⟩ ⟨t0, tb⟩ (fun σ' e _ _ => ⟨fun _ => k _ _ (Or.inl e), fun z => absurd rfl z⟩) (fun σ5 f5 s1 s2 s3 s4 _ _ => ⟨fun z => by omega, fun _ => ?_⟩)
    have f45 : sg_F [144, 85088, 86088] σ3 σ5 := sg_F_t (sg_F_m f4 rfl) (sg_F_m f5 rfl)
    have i91 : sg_g σ5 88 91 = sg_g σ 88 91 := by rw [sg_F_g f45 (by rfl)]; exact g91
    have i87 : sg_g σ5 88 87 = sg_g σ 88 87 + 1 := by rw [sg_F_g f45 (by rfl)]; exact g87
    have i93 : sg_g σ5 88 93 = L := by rw [sg_F_g f45 (by rfl)]; exact h93
    have lo5 : lnO σ5 (r' :: R) := lnO_of (lO_F f45 rfl hl3) (by omega) rfl
    have fv5 := fV_up (fEx_F f45 rfl) fv3
    have et5 : gT σ5 (r' :: R) (sg_g σ5 88 93).toNat (r' :: R).length = t := by rw [et, gT_F f45 rfl rfl, i93, h93]
    have gl : ∀ l, l < (r' :: R).length → gsum σ5 (r' :: R) l (sg_g σ5 88 93).toNat ≤ 6000 := fun l h => by
      have a1 := gT_l fv5.2.2.2.2 lo5 (by decide) (j := (sg_g σ5 88 93).toNat) (by omega) h
      have a2 := gT_b fv5.2.2.2.2 lo5 (by decide) (j := (sg_g σ5 88 93).toNat) (by omega) (l := l) (by omega)
      omega
    refine m_gath fv5 ⟨by decide, by decide⟩ (by omega) ⟨by omega, by omega⟩ lo5 (by omega) (fun w σ6 ew ex6 fv6 e87' e91' f6 rw' _ => ?_)
    obtain ⟨r0, R0, er, er2, el⟩ := gR_c (σ := σ5) (R := r' :: R) (by simp)
    have ex35 := fEx_F f45 rfl
    refine k w σ6 (opR_mk (σ1 := σ5) (a := t) (by omega) s2 (by omega) s4 t0 f6 rfl (fq_F f6 rfl (fq_F f45 rfl hq3)) (fEx_t (fEx_t ex2 (fEx_F f37 rfl)) (fEx_t ex35 ex6)) (by omega) (by omega) ⟨_, fv6 6000 gl, by rw [er]; simp only [List.length_cons]; simp only [List.length_cons] at el; omega, by rw [er]; simp only [List.getD_cons_zero]; omega, by rw [eX_g]; omega⟩)
end FH
/-! flat ops: lanes told, stepped, gathered, lengths put; IOTA, DIST. -/
section FI
variable {σ : sg_S} {M : Int} {R : List (Int × Int)}
theorem gT_u (h : fCh σ 6000 R) (lo : lnO σ R) (h4 : R.length ≤ 4) {J : Nat} (hJ : (J : Int) ≤ sg_g σ 88 93) : gT σ R J R.length ≤ 312000000 := by
  have hb : ∀ j : Nat, (j : Int) ≤ sg_g σ 88 93 → gT σ R j R.length ≤ 6000 * R.length * j := fun j => by
    induction j with
    | zero => intro _; rw [gT_z]; simp
    | succ j ih =>
      intro hj
      have i1 := ih (by omega)
      have i2 := eT_b h lo (j := j) (by omega) (by decide) (Nat.le_refl R.length)
      rw [gT_s, show ((j + 1 : Nat) : Int) = (j : Int) + 1 by omega, Int.mul_add, Int.mul_one]
      omega
  have h1 := hb J hJ
  have l0 := lo.1
  have : (6000 : Int) * (R.length : Int) * (J : Int) ≤ 24000 * 13000 := Int.mul_le_mul (by omega) (by omega) (by omega) (by omega)
  omega
theorem m_est {σ0 : sg_S} {v L N : Int} {Q : Int → sg_S → Prop} (hv : fV σ 6000 v R) (hR : R.length ≤ 3) (hC : fC σ0) (ex : fEx σ0 σ) (h91 : sg_g σ 88 91 = sg_g σ0 88 91) (h84 : sg_g σ 88 84 = sg_g σ0 88 84) (h85 : sg_g σ 88 85 = sg_g σ0 88 85) (h87 : sg_g σ 88 87 ≤ sg_g σ0 88 87 + 3) (hq : fq σ) (hl : lO σ N (R.getD 0 (0, 0)).2) (hN : N ≤ 13000) (hL : 0 ≤ L ∧ L ≤ 6000) (hn : N = ls σ L.toNat) (hz : ∀ i : Nat, (i : Int) < L → 0 ≤ sg_g σ 150 i ∧ sg_g σ 150 i ≤ 200) (k : ∀ q σ', opR σ0 σ' R.length L q → Q q σ') : V_extentOfLanes σ v (fun q37 σ38 => sg_RL q37 → sg_F [144] σ σ38 → sg_RL (L + q37) ∧ V_stepped σ38 (L + q37) (fun q44 σ45 => (q44 = 0 ∨ q44 = 1) → sg_F [74088, 85088, 86088] σ38 σ45 → ((¬ q44 = 0 → V_gathered σ45 v (fun q51 σ52 => sg_R q51 → sg_F [139, 140, 141, 142, 144, 88088, 92088] σ45 σ52 → V_putLens σ52 L (fun q57 σ58 => sg_R q57 → sg_F [142, 92088] σ52 σ58 → V_outer σ58 q57 L q51 (fun q63 σ64 => sg_R q63 → sg_F [139, 140, 141, 88088] σ58 σ64 → Q q63 σ64)))) ∧ (q44 = 0 → Q 0 σ45)))) := by
  obtain ⟨c1, c2, c3, c4⟩ := hC
  have h93 := hl.1
  have N0 := hl.2.1
  have lo : lnO σ R := lnO_of hl hN rfl
  have e87 := ex.1.1
  refine m_extL hv ⟨by decide, by decide⟩ ⟨by omega, by omega⟩ lo (fun t σ4 et f4 rt _ => ?_)
  have t0 : 0 ≤ t := by rw [et]; exact gT_b hv.2.2.2.2 lo (by decide) (by omega) (Nat.le_refl _)
  have tb : t ≤ 312000000 := by rw [et]; exact gT_u hv.2.2.2.2 lo (by omega) (by omega)
  have g84 : sg_g σ4 88 84 = sg_g σ0 88 84 := by rw [sg_F_g f4 (by rfl)]; exact h84
  have g85 : sg_g σ4 88 85 = sg_g σ0 88 85 := by rw [sg_F_g f4 (by rfl)]; exact h85
  refine ⟨⟨by omega, by omega⟩, m_stepped ⟨by omega, by omega⟩ ⟨by omega, by omega⟩ (fun σ' e _ _ => ⟨fun z => absurd rfl z, fun _ => k _ _ (Or.inl e)⟩) (fun σ5 f5 s1 s2 s3 s4 _ _ => ⟨fun _ => ?_, fun z => by omega⟩)⟩
  have f45 : sg_F [144, 85088, 86088] σ σ5 := sg_F_t (sg_F_m f4 rfl) (sg_F_m f5 rfl)
  have i91 : sg_g σ5 88 91 = sg_g σ0 88 91 := by rw [sg_F_g f45 (by rfl)]; exact h91
  have i87 : sg_g σ5 88 87 = sg_g σ 88 87 := sg_F_g f45 (by rfl)
  have et5 : gT σ5 R N.toNat R.length = t := by rw [et, gT_F f45 rfl rfl, h93]
  refine m_tail (fV_up (fEx_F f45 rfl) hv) hR ⟨by decide, by decide⟩ (by omega) ⟨by omega, by omega⟩ (lO_F f45 rfl hl) hN hL (by rw [hn]; exact (ls_e (fun i _ => sg_F_ga f45 rfl)).symm) (fun i hi => by rw [sg_F_ga f45 rfl]; exact hz i hi) (by omega) (by omega) (fun q σ6 ex6 e91 e87' f6 hf => k q σ6 (opR_mk (σ1 := σ5) (a := L + t) (by omega) s2 (by omega) s4 (by omega) f6 rfl (fq_F f6 rfl (fq_F f45 rfl hq)) (fEx_t ex (fEx_t (fEx_F f45 rfl) ex6)) (by omega) (by omega) ?_))
  obtain ⟨R', y1, y2, y3, y4⟩ := hf
  exact ⟨R', y1, by omega, y3, by omega⟩
theorem ls_w {σ1 σ2 : sg_S} {i c : Int} (e : σ2 = sg_w σ1 150 i c) (hi : 0 ≤ i) (hc : sg_R c) : ls σ2 (i + 1).toNat = ls σ1 i.toNat + c ∧ (∀ j : Nat, (j : Int) < i → sg_g σ2 150 j = sg_g σ1 150 j) ∧ sg_g σ2 150 i = c := by
  have o : ∀ j : Nat, (j : Int) < i → sg_g σ2 150 j = sg_g σ1 150 j := fun j hj => by rw [e, sg_gw_k _ _ _ _ _ _ (by omega)]
  have n : sg_g σ2 150 i = c := by rw [e, sg_gw_e _ _ _ _ hc]
  refine ⟨?_, o, n⟩
  rw [show (i + 1).toNat = i.toNat + 1 by omega]
  simp only [ls]
  rw [ls_e (σ := σ1) (fun j hj => o j (by omega)), show ((i.toNat : Nat) : Int) = i by omega, n]
theorem m_fDist {L a b : Int} {K K' : Nat} {Q : Int → sg_S → Prop} (hC : fC σ) (ha : fL σ K L a) (hK : K ≤ 2) (hb : fL σ K' L b) (hq : fq σ) (k : ∀ q σ', opR σ σ' (K + 1) L q → Q q σ') : V_flatDist σ a b L Q := by
  have hL := fL_L ha
  have hC' := hC
  obtain ⟨c1, c2, c3, c4⟩ := hC
  obtain ⟨r, R, hv, hR, rL⟩ := fL_c ha
  obtain ⟨s, S, hu, hS, sL⟩ := fL_c hb
  unfold V_flatDist
  refine ⟨fun m sm x σ3 => m = (L - x).toNat ∧ (0 ≤ x ∧ x ≤ L) ∧ sm = L + ls σ3 x.toNat ∧ fq σ3 ∧ ∀ i : Nat, (i : Int) < x → 0 ≤ sg_g σ3 150 i ∧ sg_g σ3 150 i ≤ 200, fun sm σ3 => sm = L + ls σ3 L.toNat ∧ fq σ3 ∧ ∀ i : Nat, (i : Int) < L → 0 ≤ sg_g σ3 150 i ∧ sg_g σ3 150 i ≤ 200, ⟨_, rfl, ⟨by omega, by omega⟩, by simp only [show (0 : Int).toNat = 0 by rfl, ls]; omega, hq, fun i hi => by omega⟩, ?_, ?_⟩
  · rintro m sm x σ3 rs rx f3 ⟨en, hx, es, hq3, hz⟩
    refine ⟨fun z => by rw [show L = x by omega]; exact ⟨by omega, hq3, hz⟩, fun z => ?_⟩
    obtain ⟨pb, vb⟩ := pR hu ⟨by omega, by omega⟩ (i := x) ⟨by omega, by omega⟩
    rw [vb]
    refine ⟨pb, fun σ4 => fq σ4, ⟨fun _ => hq3, fun _ => m_lacks ⟨by omega, rx⟩ ⟨by decide, by decide, by decide⟩ hq3 (fun σ5 _ h5 _ => h5)⟩, fun σ4 f4 hq4 => ⟨⟨fun _ => trivial, fun c => ⟨pb, trivial⟩⟩, fun v97 e97 r97 => ⟨⟨by omega, by omega⟩, fun σ5 e5 => ?_⟩⟩⟩
    have vb2 : 0 ≤ v97 ∧ v97 ≤ 200 := by
      rw [e97]
      unfold v_in
      constructor <;> split <;> split <;> (try split) <;> omega
    obtain ⟨w1, w2, w3⟩ := ls_w e5 (by omega) r97
    have l4 : ls σ4 x.toNat = ls σ3 x.toNat := ls_e (fun i _ => sg_F_ga f4 rfl)
    have lb := ls_b (σ := σ3) (n := x.toNat) (fun i hi => hz i (by omega))
    rw [w3]
    refine ⟨⟨by omega, by omega⟩, ⟨by omega, by omega⟩, _, by omega, rfl, ⟨by omega, by omega⟩, by omega, fq_F (l := [150]) (by rw [e5]; exact sg_F_w (sg_F_r _ _) rfl _) rfl hq4, fun i hi => ?_⟩
    by_cases c : (i : Int) = x
    · rw [c, w3]; exact vb2
    · rw [w2 i (by omega), sg_F_ga f4 rfl]; exact hz i (by omega)
  · rintro sm σ3 rs f3 ⟨es, hq3, hz⟩
    have lb := ls_b (σ := σ3) (n := L.toNat) (fun i hi => hz i (by omega))
    have g84 : sg_g σ3 88 84 = sg_g σ 88 84 := sg_F_g f3 (by rfl)
    have g85 : sg_g σ3 88 85 = sg_g σ 88 85 := sg_F_g f3 (by rfl)
    refine ⟨fun z σ4 e4 => ?_, fun z => m_stepped ⟨by omega, by omega⟩ ⟨by omega, by omega⟩ (fun σ' e _ _ => k _ _ (Or.inl e)) (fun σ5 f5 s1 s2 s3 s4 _ _ => by omega)⟩
    have f4 : sg_F [94088] σ3 σ4 := by rw [e4]; exact sg_F_w (sg_F_r _ _) rfl _
    have lm : ∀ x : Int, 0 ≤ x → x < L → 0 ≤ ls σ3 x.toNat ∧ ls σ3 (x + 1).toNat = ls σ3 x.toNat + sg_g σ3 150 x ∧ ls σ3 (x + 1).toNat ≤ ls σ3 L.toNat := fun x h1 h2 => by
      refine ⟨(ls_b (n := x.toNat) (fun i hi => hz i (by omega))).1, ?_, ?_⟩
      · rw [show (x + 1).toNat = x.toNat + 1 by omega]
        simp only [ls]
        rw [show ((x.toNat : Nat) : Int) = x by omega]
      · have : ∀ d : Nat, x.toNat + 1 + d ≤ L.toNat → ls σ3 (x + 1).toNat ≤ ls σ3 (x.toNat + 1 + d) := fun d => by
          induction d with
          | zero => intro _; rw [show (x + 1).toNat = x.toNat + 1 + 0 by omega]; exact Int.le_refl _
          | succ d ih =>
            intro h
            have i1 := ih (by omega)
            have i2 := (hz (x.toNat + 1 + d) (by omega)).1
            rw [show x.toNat + 1 + (d + 1) = (x.toNat + 1 + d) + 1 by omega]
            simp only [ls]
            omega
        have h := this (L.toNat - (x.toNat + 1)) (by omega)
        rwa [show x.toNat + 1 + (L.toNat - (x.toNat + 1)) = L.toNat by omega] at h
    refine ⟨fun m x σ5 => m = (L - x).toNat ∧ (0 ≤ x ∧ x ≤ L) ∧ lO σ5 (ls σ3 x.toNat) L, fun σ5 => lO σ5 (ls σ3 L.toNat) L, ⟨_, rfl, ⟨by omega, by omega⟩, lO_0 e4⟩, ?_, ?_⟩
    · rintro m x σ5 rx f5 ⟨en, hx, hl⟩
      refine ⟨fun z => by rw [show L = x by omega]; rw [show L = x by omega] at hl; exact hl, fun z => ?_⟩
      obtain ⟨l1, l2, l3⟩ := lm x (by omega) z
      have hz0 := hz x.toNat (by omega)
      rw [show ((x.toNat : Nat) : Int) = x by omega] at hz0
      refine ⟨fun m y σ6 => m = (sg_g σ3 150 x - y).toNat ∧ (0 ≤ y ∧ y ≤ sg_g σ3 150 x) ∧ lO σ6 (ls σ3 x.toNat + y) L, fun σ6 => lO σ6 (ls σ3 (x + 1).toNat) L, ⟨_, rfl, ⟨by omega, by omega⟩, by rw [Int.add_zero]; exact hl⟩, ?_, ?_⟩
      · rintro m' y σ6 ry f6 ⟨en', hy, hl6⟩
        refine ⟨⟨by omega, by omega⟩, fun z' => ?_, fun z' => m_list hl6 (by omega) rx z (fun σ7 h7 f7 => ⟨⟨by omega, by omega⟩, _, by omega, rfl, ⟨by omega, by omega⟩, ?_⟩)⟩
        · rw [l2, show sg_g σ3 150 x = y by omega]; exact hl6
        · rw [← Int.add_assoc]; exact h7
      · intro σ6 f6 hl6
        exact ⟨⟨by omega, by omega⟩, _, by omega, rfl, ⟨by omega, by omega⟩, hl6⟩
    · intro σ5 f5 hl
      have F : sg_F [143, 150, 94088, 103088, 104088] σ σ5 := sg_F_t (sg_F_m f3 rfl) (sg_F_t (sg_F_m f4 rfl) (sg_F_m f5 rfl))
      have F35 : sg_F [143, 94088] σ3 σ5 := sg_F_t (sg_F_m f4 rfl) f5
      exact m_est (fV_up (fEx_F F rfl) hv) (by simp only [List.length_cons]; omega) hC' (fEx_F F rfl) (sg_F_g F (by rfl)) (sg_F_g F (by rfl)) (sg_F_g F (by rfl)) (by rw [sg_F_g F (by rfl)]; omega) (fq_F F35 rfl hq3) (by rw [List.getD_cons_zero, rL]; exact hl) (by omega) hL (ls_e (fun i _ => sg_F_ga F35 rfl)).symm (fun i hi => by rw [sg_F_ga F35 rfl]; exact hz i hi) (fun q σ' h => k q σ' (by simp only [List.length_cons, hR] at h; exact h))
end FI
/-! lanes listed once each: what is gathered is no more than what there is. -/
def sNn (d : Int → Int) (x : Nat → Int) : Nat → Int
  | 0 => 0
  | n + 1 => sNn d x n + d (x n)
def sI (d : Int → Int) : Nat → Int
  | 0 => 0
  | n + 1 => sI d n + d n
def rmv (x : Nat → Int) (j : Nat) : Nat → Int := fun i => if i < j then x i else x (i + 1)
theorem sN_e {d : Int → Int} {x y : Nat → Int} : ∀ {n : Nat}, (∀ i, i < n → x i = y i) → sNn d x n = sNn d y n
  | 0, _ => rfl
  | n + 1, h => by simp only [sNn]; rw [sN_e (n := n) (fun i z => h i (by omega)), h n (by omega)]
theorem sN_rm {d : Int → Int} {x : Nat → Int} {j : Nat} : ∀ {n : Nat}, j ≤ n → sNn d x (n + 1) = sNn d (rmv x j) n + d (x j)
  | 0, h => by
    have : j = 0 := by omega
    subst this
    rfl
  | n + 1, h => by
    by_cases e : j = n + 1
    · subst e
      rw [sNn, sN_e (x := rmv x (n + 1)) (y := x) (fun i z => by unfold rmv; rw [if_pos z])]
    · rw [sNn, sN_rm (j := j) (n := n) (by omega)]
      have hnj : ¬ n < j := by omega
      have : rmv x j n = x (n + 1) := by simp only [rmv, if_neg hnj]
      simp only [sNn]
      rw [this]
      omega
theorem sN_le {d : Int → Int} : ∀ {L : Nat} {N : Nat} {x : Nat → Int}, (∀ i, i < N → 0 ≤ x i ∧ x i < L) → (∀ i j, i < j → j < N → ¬ x i = x j) → (∀ i : Nat, i < L → 0 ≤ d i) → sNn d x N ≤ sI d L
  | 0, 0, x, h1, h2, h3 => Int.le_refl _
  | 0, N + 1, x, h1, h2, h3 => by have := h1 0 (by omega); omega
  | L + 1, N, x, h1, h2, h3 => by
    have dL := h3 L (by omega)
    by_cases c : ∃ j, j < N ∧ x j = L
    · obtain ⟨j, hj, ej⟩ := c
      obtain ⟨n, rfl⟩ : ∃ n, N = n + 1 := ⟨N - 1, by omega⟩
      rw [sN_rm (j := j) (by omega), ej]
      have := sN_le (L := L) (N := n) (x := rmv x j) (fun i hi => ?_) (fun i k hik hk => ?_) (fun i hi => h3 i (by omega))
      · simp only [sI]; omega
      · unfold rmv
        split
        · have a := h1 i (by omega)
          have b := h2 i j (by omega) (by omega)
          omega
        · have a := h1 (i + 1) (by omega)
          have b := h2 j (i + 1) (by omega) (by omega)
          omega
      · unfold rmv
        split <;> split
        · exact h2 _ _ (by omega) (by omega)
        · exact h2 _ _ (by omega) (by omega)
        · omega
        · exact h2 _ _ (by omega) (by omega)
    · have := sN_le (L := L) (N := N) (x := x) (fun i hi => ?_) h2 (fun i hi => h3 i (by omega))
      · simp only [sI]; omega
      · have a := h1 i hi
        have b : ¬ x i = L := fun e => c ⟨i, hi, e⟩
        omega
section FJ
variable {σ : sg_S} {M : Int} {R : List (Int × Int)}
theorem bg_0 : ∀ (l : Nat), bg σ R l 0 = 0
  | 0 => rfl
  | l + 1 => by simp only [bg]; rw [bg_0 l]; rfl
theorem sI_bg (l : Nat) : ∀ n : Nat, sI (fun i => bg σ R l (i + 1) - bg σ R l i) n = bg σ R l n
  | 0 => by simp only [sI]; exact (bg_0 l).symm
  | n + 1 => by
    simp only [sI]
    rw [sI_bg l n, show ((n + 1 : Nat) : Int) = (n : Int) + 1 by omega]
    omega
theorem gsum_d (h : fCh σ M R) {l : Nat} {r : Int × Int} (hr : R[l]? = some r) {N L : Int} {P : Int → Prop} (hd : lD σ N P) (hP : ∀ x, P x → 0 ≤ x ∧ x < L) (hL : L = (R.getD 0 (0, 0)).2) : gsum σ R l N.toNat ≤ r.2 := by
  have L0 := (fCh_L h (by have := lt_of_get hr; omega)).1
  have e : ∀ n : Nat, (n : Int) ≤ N → gsum σ R l n = sNn (fun i => bg σ R l (i + 1) - bg σ R l i) (fun j => sg_g σ 143 j) n := fun n => by
    induction n with
    | zero => intro _; rfl
    | succ n ih =>
      intro hn
      simp only [gsum, sNn]
      rw [ih (by omega)]
      unfold gd
      have := hP _ (hd.2.2.1 n (by omega) (by omega))
      rw [if_neg (by omega)]
  have N0 := hd.2.1
  rw [e N.toNat (by omega)]
  have := sN_le (d := fun i => bg σ R l (i + 1) - bg σ R l i) (L := L.toNat) (N := N.toNat) (x := fun j => sg_g σ 143 j) (fun i hi => by have := hP _ (hd.2.2.1 i (by omega) (by omega)); omega) (fun i j x y => hd.2.2.2 i j (by omega) (by omega) (by omega)) (fun i hi => by
    have := bg_m h hr i (i + 1) (by omega) (by omega) (by omega)
    omega)
  rw [sI_bg, show ((L.toNat : Nat) : Int) = L by omega, hL, bg_L h hr] at this
  exact this
theorem gT_d (h : fCh σ M R) {N L : Int} {P : Int → Prop} (hd : lD σ N P) (hP : ∀ x, P x → 0 ≤ x ∧ x < L) (hL : L = (R.getD 0 (0, 0)).2) : gT σ R N.toNat R.length ≤ eX R := by
  have : ∀ l, l ≤ R.length → gT σ R N.toNat l + eX (R.drop l) ≤ eX R := fun l => by
    induction l with
    | zero => intro _; simp only [gT, List.drop_zero]; omega
    | succ l ih =>
      intro hl
      obtain ⟨r, hr⟩ : ∃ q, R[l]? = some q := ⟨_, List.getElem?_eq_getElem (by omega)⟩
      have a := ih (by omega)
      have b := gsum_d h hr hd hP hL
      rw [eX_d hr] at a
      simp only [gT]
      omega
  have := this _ (Nat.le_refl _)
  rw [List.drop_of_length_le (Nat.le_refl _)] at this
  simp only [eX] at this
  omega
end FJ
