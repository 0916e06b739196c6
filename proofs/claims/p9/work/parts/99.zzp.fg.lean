/-! flat ops: what they come to; gathered, lengths put, made outer. -/
theorem gH_ex {σ σ' : sg_S} {b : Prop} {s t : Int} (h : gH σ (sg_g σ 88 91) b s t σ') (F : sg_F [142, 92088] σ σ') : fEx σ σ' := by
  obtain ⟨⟨h1, h2⟩, h3, h4⟩ := h
  exact ⟨⟨by rw [sg_F_g F (by rfl)]; exact Int.le_refl _, by omega⟩, fun v _ _ => sg_F_ga F rfl, fun x _ _ => ⟨sg_F_ga F rfl, sg_F_ga F rfl⟩, fun x y z => h3 x y z⟩
/-- what an op comes to: the run ends, a lane is at fault, or a value of K rows below the first, with L lanes -/
def opR (σ σ' : sg_S) (K : Nat) (L q : Int) : Prop := ¬ sg_g σ' 88 73 = 0 ∨ (fq σ' ∧ (0 ≤ sg_g σ' 88 102 ∨ (fEx σ σ' ∧ (sg_g σ' 88 84 = sg_g σ 88 84 + 1 ∧ sg_g σ' 88 84 ≤ 2000) ∧ (sg_g σ 88 85 ≤ sg_g σ' 88 85 ∧ sg_g σ' 88 85 ≤ 6000) ∧ sg_g σ' 88 91 ≤ 2 * sg_g σ' 88 85 ∧ sg_g σ' 88 87 ≤ sg_g σ 88 87 + 8 ∧ ∃ R, fV σ' 6000 q R ∧ R.length = K + 1 ∧ (R.getD 0 (0, 0)).2 = L ∧ eX R ≤ sg_g σ' 88 85 - sg_g σ 88 85)))
section FG
variable {σ : sg_S} {M : Int} {R : List (Int × Int)}
theorem eX_g : eX (gR σ R) = gT σ R (sg_g σ 88 93).toNat R.length := by
  have key : ∀ l, l ≤ R.length → gT σ R (sg_g σ 88 93).toNat l + eX ((gR σ R).drop l) = eX (gR σ R) := fun l => by
    induction l with
    | zero => intro _; simp only [gT, List.drop_zero]; omega
    | succ l ih =>
      intro h
      have a := ih (by omega)
      rw [eX_d (gR_at (by omega))] at a
      simp only [gT]
      simp only at a
      omega
  have k := key _ (Nat.le_refl _)
  rw [List.drop_of_length_le (by rw [gR_l]; exact Nat.le_refl _)] at k
  simp only [eX] at k
  omega
theorem gR_c (h : 1 ≤ R.length) : ∃ r R', gR σ R = r :: R' ∧ r.2 = ((sg_g σ 88 93).toNat : Int) ∧ R'.length + 1 = R.length := by
  have l := gR_l σ R
  have a := gR_at (σ := σ) (R := R) (l := 0) h
  cases e : gR σ R with
  | nil => rw [e] at l; simp at l; omega
  | cons r R' =>
    rw [e] at a l
    simp only [List.getElem?_cons_zero, Option.some.injEq] at a
    exact ⟨r, R', rfl, by rw [a]; exact gsum_0 _, by simpa using l⟩
/-- gathered, then lengths put and an outer row made of them -/
theorem m_tail {v L N : Int} {Q : Int → sg_S → Prop} (hv : fV σ M v R) (hR : R.length ≤ 3) (hM : 1 ≤ M ∧ M ≤ 12000) (hc : 0 ≤ sg_g σ 88 91) (hfl : 0 ≤ sg_g σ 88 87 ∧ sg_g σ 88 87 ≤ 29000) (hl : lO σ N (R.getD 0 (0, 0)).2) (hN : N ≤ 13000) (hL : 0 ≤ L ∧ L ≤ 6000) (hn : N = ls σ L.toNat) (hz : ∀ i : Nat, (i : Int) < L → 0 ≤ sg_g σ 150 i ∧ sg_g σ 150 i ≤ 200) (hg : gT σ R N.toNat R.length ≤ 6000) (ht : sg_g σ 88 91 + gT σ R N.toNat R.length + L ≤ 60000) (k : ∀ q σ', fEx σ σ' → sg_g σ' 88 91 = sg_g σ 88 91 + gT σ R N.toNat R.length + L → sg_g σ' 88 87 = sg_g σ 88 87 + 2 → sg_F [139, 140, 141, 142, 144, 88088, 92088] σ σ' → (∃ R', fV σ' 6000 q R' ∧ R'.length = R.length + 1 ∧ (R'.getD 0 (0, 0)).2 = L ∧ eX R' = L + gT σ R N.toNat R.length) → Q q σ') : V_gathered σ v (fun q51 σ52 => sg_R q51 → sg_F [139, 140, 141, 142, 144, 88088, 92088] σ σ52 → V_putLens σ52 L (fun q57 σ58 => sg_R q57 → sg_F [142, 92088] σ52 σ58 → V_outer σ58 q57 L q51 (fun q63 σ64 => sg_R q63 → sg_F [139, 140, 141, 88088] σ58 σ64 → Q q63 σ64))) := by
  have lo := lnO_of hl hN rfl
  have h93 := hl.1
  have h0 := hl.2.1
  have R1 := hv.2.1.1
  have ch := hv.2.2.2.2
  have gsm : ∀ l, l < R.length → gsum σ R l N.toNat ≤ 6000 := fun l h => by
    have a := gT_l ch lo hM.1 (j := N.toNat) (by omega) h
    have b := gT_b ch lo hM.1 (j := N.toNat) (by omega) (l := l) (by omega)
    omega
  refine m_gath hv hM hc ⟨by omega, by omega⟩ lo (by rw [h93]; have := hL.1; omega) (fun q σ' eq ex fv e87 e91 _ rq f => ?_)
  rw [h93] at e91 fv
  have fv6 := fv 6000 gsm
  have g0 : 0 ≤ gT σ R N.toNat R.length := gT_b ch lo hM.1 (by omega) (Nat.le_refl _)
  obtain ⟨r, R', er, er2, el⟩ := gR_c (σ := σ) (R := R) R1
  rw [er] at fv6
  rw [h93] at er2
  refine m_putLens ⟨by omega, by omega⟩ ⟨by omega, by omega⟩ (fun i hi => by rw [sg_F_ga f rfl]; exact hz i hi) (fun σ58 h58 f58 _ _ => ?_)
  have ex2 := gH_ex h58 f58
  obtain ⟨⟨p1, p2⟩, p3, p4⟩ := h58
  obtain ⟨p5, p6⟩ := p4 trivial
  have e58 : sg_g σ58 88 87 = sg_g σ' 88 87 := sg_F_g f58 (by rfl)
  have lse : ls σ' L.toNat = N := by rw [ls_e (σ := σ) (fun i _ => sg_F_ga f rfl), hn]
  refine m_outer (M := 6000) ⟨by omega, by omega⟩ (fV_up ex2 fv6) (by omega) ⟨⟨by omega, by omega⟩, ⟨by omega, by omega⟩⟩ ⟨by simp only; omega, by simp only; omega, by simp only; omega, by simp only; omega⟩ (fun i x y => p5 i x y) (by rw [p6, lse, er2]; omega) (fun q2 σ3 e3 ex3 fv3 e87' f3 _ _ => ?_)
  refine k q2 σ3 (fEx_t ex (fEx_t ex2 ex3)) ?_ (by omega) (sg_F_t f (sg_F_t (sg_F_m f58 rfl) (sg_F_m f3 rfl))) ⟨_, fv3, by simp only [List.length_cons]; omega, rfl, ?_⟩
  · rw [sg_F_g f3 (by rfl)]
    omega
  · have e := eX_g (σ := σ) (R := R)
    rw [er, h93] at e
    simp only [eX] at e ⊢
    omega
/-- an op that puts one number a lane -/
theorem m_nums {L f : Int} {σb : sg_S} {Q : Int → sg_S → Prop} {t : Int} (h : gH σb (sg_g σb 88 91) False L t σ) (F : sg_F [142, 92088, 103088, 104088] σb σ) (hf : f = sg_g σb 88 91) (h0 : 0 ≤ sg_g σb 88 91 ∧ sg_g σb 88 91 + L ≤ 60000) (hfl : 0 ≤ sg_g σ 88 87 ∧ sg_g σ 88 87 ≤ 29000) (hL : 0 ≤ L ∧ L ≤ 6000) (k : ∀ q σ', fEx σb σ' → sg_g σ' 88 91 = sg_g σb 88 91 + L → sg_g σ' 88 87 = sg_g σb 88 87 + 1 → sg_F [139, 140, 141, 88088] σ σ' → fV σ' 6000 q [(f, L)] → Q q σ') : V_numbers σ f Q := by
  have h1 := h.1.1
  have ex : fEx σb σ := ⟨⟨by rw [sg_F_g F (by rfl)]; exact Int.le_refl _, by omega⟩, fun v _ _ => sg_F_ga F rfl, fun x _ _ => ⟨sg_F_ga F rfl, sg_F_ga F rfl⟩, fun x y z => h.2.1 x y z⟩
  have e87 : sg_g σ 88 87 = sg_g σb 88 87 := sg_F_g F (by rfl)
  subst hf
  refine m_numbers (M := 6000) ⟨by omega, by omega⟩ ⟨by omega, by omega, by omega⟩ (by omega) (fun q σ' e1 e2 e3 e4 e5 => k q σ' (fEx_t ex e2) (by rw [sg_F_g e5 (by rfl)]; omega) (by omega) e5 ?_)
  rwa [show sg_g σ 88 91 - sg_g σb 88 91 = L by omega] at e3
/-- a value of c cells at most -/
def fLx (σ : sg_S) (K : Nat) (L c v : Int) : Prop := ∃ R, fV σ 6000 v R ∧ R.length = K + 1 ∧ (R.getD 0 (0, 0)).2 = L ∧ eX R ≤ c
/-- lanes of a value -/
def fL (σ : sg_S) (K : Nat) (L v : Int) : Prop := ∃ R, fV σ 6000 v R ∧ R.length = K + 1 ∧ (R.getD 0 (0, 0)).2 = L
theorem fL_up {σ σ' : sg_S} {K : Nat} {L v : Int} (h : fEx σ σ') (a : fL σ K L v) : fL σ' K L v := by
  obtain ⟨R, a1, a2, a3⟩ := a
  exact ⟨R, fV_up h a1, a2, a3⟩
theorem fLx_L {K : Nat} {L c v : Int} (a : fLx σ K L c v) : fL σ K L v := by
  obtain ⟨R, a1, a2, a3, -⟩ := a
  exact ⟨R, a1, a2, a3⟩
theorem fLx_up {σ σ' : sg_S} {K : Nat} {L c c' v : Int} (h : fEx σ σ') (hc : c ≤ c') (a : fLx σ K L c v) : fLx σ' K L c' v := by
  obtain ⟨R, a1, a2, a3, a4⟩ := a
  exact ⟨R, fV_up h a1, a2, a3, by omega⟩
theorem fL_c {K : Nat} {L v : Int} (a : fL σ K L v) : ∃ r R, fV σ 6000 v (r :: R) ∧ R.length = K ∧ r.2 = L := by
  obtain ⟨R, a1, a2, a3⟩ := a
  cases R with
  | nil => simp at a2
  | cons r R => exact ⟨r, R, a1, by simpa using a2, a3⟩
theorem fL_L {K : Nat} {L v : Int} (a : fL σ K L v) : 0 ≤ L ∧ L ≤ 6000 := by
  obtain ⟨r, R, a1, a2, a3⟩ := fL_c a
  obtain ⟨b1, b2, b3, b4⟩ := a1.2.2.2.2.1
  omega
theorem opR_mk {σ σ1 σ' : sg_S} {K : Nat} {L q a : Int} {l : List Nat} (s1 : sg_g σ1 88 84 = sg_g σ 88 84 + 1) (s2 : sg_g σ1 88 84 ≤ 2000) (s3 : sg_g σ1 88 85 = sg_g σ 88 85 + a) (s4 : sg_g σ1 88 85 ≤ 6000) (a0 : 0 ≤ a) (F : sg_F l σ1 σ') (hl : (!sg_cv l 88 84 && !sg_cv l 88 85) = true) (hq : fq σ') (ex : fEx σ σ') (h91 : sg_g σ' 88 91 ≤ 2 * (sg_g σ 88 85 + a)) (h87 : sg_g σ' 88 87 ≤ sg_g σ 88 87 + 8) (hf : fLx σ' K L a q) : opR σ σ' K L q := by
  simp only [Bool.and_eq_true, Bool.not_eq_true'] at hl
  have e1 := sg_F_g F hl.1
  have e2 := sg_F_g F hl.2
  exact Or.inr ⟨hq, Or.inr ⟨ex, ⟨by omega, by omega⟩, ⟨by omega, by omega⟩, by omega, h87, by rw [show sg_g σ' 88 85 - sg_g σ 88 85 = a by omega]; exact hf⟩⟩
theorem fq_F {l : List Nat} {σ σ' : sg_S} (F : sg_F l σ σ') (hl : (!sg_cv l 88 102 && !sg_cv l 88 103) = true) (h : fq σ) : fq σ' := by
  simp only [Bool.and_eq_true, Bool.not_eq_true'] at hl
  unfold fq
  rw [sg_F_g F hl.1, sg_F_g F hl.2]
  exact h
theorem m_f0 {n L : Int} {Q : Int → sg_S → Prop} (hC : fC σ) (hL : 0 ≤ L ∧ L ≤ 6000) (hn : 0 ≤ n ∧ n < 210) (hq : fq σ) (k : ∀ q σ', opR σ σ' 0 L q → sg_F [139, 140, 141, 142, 74088, 85088, 86088, 88088, 92088, 103088, 104088] σ σ' → Q q σ') : V_flatWorked_0 σ n L Q := by
  obtain ⟨c1, c2, c3, c4⟩ := hC
  unfold V_flatWorked_0
  refine m_stepped ⟨c1, c2⟩ ⟨by omega, by omega⟩ (fun σ' e _ ff => ⟨fun z => absurd rfl z, fun _ => k _ _ (Or.inl e) (sg_F_m ff rfl)⟩) (fun σ1 f1 s1 s2 s3 s4 _ _ => ⟨fun _ => ?_, fun z => by omega⟩)
  have e91 : sg_g σ1 88 91 = sg_g σ 88 91 := sg_F_g f1 (by rfl)
  have e87 : sg_g σ1 88 87 = sg_g σ 88 87 := sg_F_g f1 (by rfl)
  refine ⟨fun m x σ2 => m = (L - x).toNat ∧ (0 ≤ x ∧ x ≤ L) ∧ ∃ t, gH σ1 (sg_g σ1 88 91) False x t σ2, fun σ2 => ∃ t, gH σ1 (sg_g σ1 88 91) False L t σ2, ⟨_, rfl, ⟨by omega, by omega⟩, 0, gH_0 _ _⟩, ?_, ?_⟩
  · rintro m x σ2 rx f2 ⟨en, hx, t, hG⟩
    refine ⟨fun z => ⟨t, by rw [show L = x by omega]; exact hG⟩, fun z => ⟨hn, ?_⟩⟩
    refine m_put hG (by omega) (by omega) (sg_Rn _) (fun b => b.elim) (fun σ3 h3 _ => ⟨⟨by omega, by omega⟩, _, by omega, rfl, ⟨by omega, by omega⟩, _, h3⟩)
  · rintro σ2 f2 ⟨t, hG⟩
    refine m_nums hG (sg_F_m f2 rfl) (by omega) ⟨by omega, by omega⟩ ⟨by rw [sg_F_g f2 (by rfl)]; omega, by rw [sg_F_g f2 (by rfl)]; omega⟩ hL (fun q σ' x1 x2 x3 x4 x5 _ _ => k q σ' (opR_mk s1 s2 s3 s4 hL.1 (sg_F_t (sg_F_m (L := [139, 140, 141, 142, 88088, 92088]) f2 rfl) (sg_F_m x4 rfl)) rfl (fq_F x4 rfl (fq_F f2 rfl (fq_F f1 rfl hq))) (fEx_t (fEx_F f1 rfl) x1) (by omega) (by omega) ⟨_, x5, rfl, rfl, by simp only [eX]; omega⟩) (sg_F_t (sg_F_m f1 rfl) (sg_F_t (sg_F_m f2 rfl) (sg_F_m x4 rfl))))
/-- a row of a value is read while cells are put behind -/
theorem pR_h {σb : sg_S} {v i s t : Int} {b : Prop} {r : Int × Int} {R : List (Int × Int)} {l : List Nat} (h : fV σb M v (r :: R)) (hG : gH σb (sg_g σb 88 91) b s t σ) (F : sg_F l σb σ) (hl : (sg_ca l 140 && !sg_cv l 88 87) = true) (hc : sg_g σb 88 91 + s ≤ 60000 ∧ sg_g σb 88 87 ≤ 30000) (hi : 0 ≤ i ∧ i < r.2) : p_rowAt σ v i ∧ v_rowAt σ v i = sg_g σb 142 (r.1 + i) := by
  simp only [Bool.and_eq_true, Bool.not_eq_true'] at hl
  have h0 := fV_0 h
  obtain ⟨⟨g1, g2⟩, g3, g4⟩ := hG
  obtain ⟨a1, a2, a3, a4, ⟨b1, b2, b3, b4⟩, a6⟩ := h
  unfold p_rowAt v_rowAt
  rw [sg_F_ga F hl.1, h0.1]
  exact ⟨⟨⟨by omega, by omega⟩, ⟨by omega, by omega⟩, ⟨by omega, by omega⟩, ⟨by omega, by omega⟩, trivial⟩, g3 _ (by omega) (by omega)⟩
theorem m_f11 {L a : Int} {K : Nat} {Q : Int → sg_S → Prop} (hC : fC σ) (ha : fL σ K L a) (hq : fq σ) (k : ∀ q σ', opR σ σ' 0 L q → sg_F [139, 140, 141, 142, 74088, 85088, 86088, 88088, 92088, 103088, 104088] σ σ' → Q q σ') : V_flatWorked_11 σ L a Q := by
  have hL := fL_L ha
  obtain ⟨c1, c2, c3, c4⟩ := hC
  unfold V_flatWorked_11
  refine m_stepped ⟨c1, c2⟩ ⟨by omega, by omega⟩ (fun σ' e _ ff => ⟨fun z => absurd rfl z, fun _ => k _ _ (Or.inl e) (sg_F_m ff rfl)⟩) (fun σ1 f1 s1 s2 s3 s4 _ _ => ⟨fun _ => ?_, fun z => by omega⟩)
  have e91 : sg_g σ1 88 91 = sg_g σ 88 91 := sg_F_g f1 (by rfl)
  have e87 : sg_g σ1 88 87 = sg_g σ 88 87 := sg_F_g f1 (by rfl)
  obtain ⟨r, R, hv, hR, rL⟩ := fL_c (fL_up (fEx_F f1 rfl) ha)
  refine ⟨fun m x σ2 => m = (L - x).toNat ∧ (0 ≤ x ∧ x ≤ L) ∧ ∃ t, gH σ1 (sg_g σ1 88 91) False x t σ2, fun σ2 => ∃ t, gH σ1 (sg_g σ1 88 91) False L t σ2, ⟨_, rfl, ⟨by omega, by omega⟩, 0, gH_0 _ _⟩, ?_, ?_⟩
  · rintro m x σ2 rx f2 ⟨en, hx, t, hG⟩
    refine ⟨fun z => ⟨t, by rw [show L = x by omega]; exact hG⟩, fun z => ⟨(pR_h hv hG f2 rfl ⟨by omega, by omega⟩ ⟨by omega, by omega⟩).1, ?_⟩⟩
    refine m_put hG (by omega) (by omega) (sg_Rg _ _ _) (fun b => b.elim) (fun σ3 h3 _ => ⟨⟨by omega, by omega⟩, _, by omega, rfl, ⟨by omega, by omega⟩, _, h3⟩)
  · rintro σ2 f2 ⟨t, hG⟩
    refine m_nums hG (sg_F_m f2 rfl) (by omega) ⟨by omega, by omega⟩ ⟨by rw [sg_F_g f2 (by rfl)]; omega, by rw [sg_F_g f2 (by rfl)]; omega⟩ hL (fun q σ' x1 x2 x3 x4 x5 _ _ => k q σ' (opR_mk s1 s2 s3 s4 hL.1 (sg_F_t (sg_F_m (L := [139, 140, 141, 142, 88088, 92088]) f2 rfl) (sg_F_m x4 rfl)) rfl (fq_F x4 rfl (fq_F f2 rfl (fq_F f1 rfl hq))) (fEx_t (fEx_F f1 rfl) x1) (by omega) (by omega) ⟨_, x5, rfl, rfl, by simp only [eX]; omega⟩) (sg_F_t (sg_F_m f1 rfl) (sg_F_t (sg_F_m f2 rfl) (sg_F_m x4 rfl))))
theorem m_fd {n L a b : Int} {K K' : Nat} {Q : Int → sg_S → Prop} (hC : fC σ) (hn : 0 ≤ n ∧ n < 210) (ha : fL σ K L a) (hb : fL σ K' L b) (hq : fq σ) (k : ∀ q σ', opR σ σ' 0 L q → sg_F [139, 140, 141, 142, 74088, 85088, 86088, 88088, 92088, 103088, 104088] σ σ' → Q q σ') : V_flatWorked_d σ n L a b Q := by
  have hL := fL_L ha
  obtain ⟨c1, c2, c3, c4⟩ := hC
  unfold V_flatWorked_d
  refine m_stepped ⟨c1, c2⟩ ⟨by omega, by omega⟩ (fun σ' e _ ff => ⟨fun z => absurd rfl z, fun _ => k _ _ (Or.inl e) (sg_F_m ff rfl)⟩) (fun σ1 f1 s1 s2 s3 s4 _ _ => ⟨fun _ => ?_, fun z => by omega⟩)
  have e91 : sg_g σ1 88 91 = sg_g σ 88 91 := sg_F_g f1 (by rfl)
  have e87 : sg_g σ1 88 87 = sg_g σ 88 87 := sg_F_g f1 (by rfl)
  obtain ⟨r, R, hv, hR, rL⟩ := fL_c (fL_up (fEx_F f1 rfl) ha)
  obtain ⟨r', R', hv', hR', rL'⟩ := fL_c (fL_up (fEx_F f1 rfl) hb)
  refine ⟨fun m x σ2 => m = (L - x).toNat ∧ (0 ≤ x ∧ x ≤ L) ∧ fq σ2 ∧ ∃ t, gH σ1 (sg_g σ1 88 91) False x t σ2, fun σ2 => fq σ2 ∧ ∃ t, gH σ1 (sg_g σ1 88 91) False L t σ2, ⟨_, rfl, ⟨by omega, by omega⟩, fq_F f1 rfl hq, 0, gH_0 _ _⟩, ?_, ?_⟩
  · rintro m x σ2 rx f2 ⟨en, hx, hq2, t, hG⟩
    refine ⟨fun z => ⟨hq2, t, by rw [show L = x by omega]; exact hG⟩, fun z => ⟨hn, fun σ3 => fq σ3, ?_, fun σ3 f3 hq3 => ?_⟩⟩
    · have pb := (pR_h hv' hG f2 rfl ⟨by omega, by omega⟩ (i := x) ⟨by omega, by omega⟩).1
      have lk : V_lacks σ2 x 1 (fun σ55 => sg_F [103088, 104088] σ2 σ55 → fq σ55) := m_lacks ⟨by omega, rx⟩ ⟨by decide, by decide, by decide⟩ hq2 (fun σ5 _ h5 _ => h5)
      exact ⟨fun _ => ⟨pb, fun _ => hq2, fun _ => lk⟩, fun _ => ⟨fun _ => hq2, fun _ => ⟨pb, fun _ => hq2, fun _ => lk⟩⟩⟩
    · have pa := (pR_h hv hG f2 rfl ⟨by omega, by omega⟩ (i := x) ⟨by omega, by omega⟩).1
      have pb := (pR_h hv' hG f2 rfl ⟨by omega, by omega⟩ (i := x) ⟨by omega, by omega⟩).1
      refine ⟨pa, pb, p_op _ _ _, m_put (gH_F f3 rfl hG) (by omega) (by omega) (R_op _ _ _) (fun b => b.elim) (fun σ4 h4 f4 => ⟨⟨by omega, by omega⟩, _, by omega, rfl, ⟨by omega, by omega⟩, fq_F f4 rfl hq3, _, h4⟩)⟩
  · rintro σ2 f2 ⟨hq2, t, hG⟩
    refine m_nums hG f2 (by omega) ⟨by omega, by omega⟩ ⟨by rw [sg_F_g f2 (by rfl)]; omega, by rw [sg_F_g f2 (by rfl)]; omega⟩ hL (fun q σ' x1 x2 x3 x4 x5 _ _ => k q σ' (opR_mk s1 s2 s3 s4 hL.1 (sg_F_t (sg_F_m (L := [139, 140, 141, 142, 88088, 92088, 103088, 104088]) f2 rfl) (sg_F_m x4 rfl)) rfl (fq_F x4 rfl hq2) (fEx_t (fEx_F f1 rfl) x1) (by omega) (by omega) ⟨_, x5, rfl, rfl, by simp only [eX]; omega⟩) (sg_F_t (sg_F_m f1 rfl) (sg_F_t (sg_F_m f2 rfl) (sg_F_m x4 rfl))))
end FG
