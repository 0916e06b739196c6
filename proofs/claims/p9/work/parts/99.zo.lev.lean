/-! leave, walk of the class. -/
theorem kTy_1 {A : aT} {ds : kD} {T : Int → Int} {e : kE} {n : Int} {ts : List Int} (hk : A.2.1 n = 1) : kTy A ds T e n ts = kFind e (A.2.2.2.1 n) := by simp only [kTy, hk]; rfl
theorem kTy_13 {A : aT} {ds : kD} {T : Int → Int} {e : kE} {n : Int} {ts : List Int} (hk : A.2.1 n = 13) (hd : kDef ds (A.2.2.2.1 n) = none) : kTy A ds T e n ts = none := by simp only [kTy, hk, hd]; rfl
section LEV
variable {σ : sg_S} {A : aT} {ds : kD} {e : kE} {n : Int} {c s : Nat} {Q : sg_S → Prop}
theorem c_leave (h : ckW σ A) (hn : 0 ≤ n ∧ n < A.1) (hw : nW A n) (ht : ∀ x ∈ A.2.2.2.2.1 n, kIn (sg_g σ 6 x)) (hF : cZ σ) (he : ckE σ (sg_g σ 38 9) e) (hel : e.length ≤ 250) (hc : sg_g σ 38 10 ≤ 272) (hd : dsC σ (sg_g σ 38 11) ds) (hl : ds.length ≤ 12) (hr : ∀ d ∈ ds, 0 ≤ d.2.2 ∧ d.2.2 < A.1) (hb : kBn A n ≤ e.length) (hkb : sg_g σ 41 n + (kBn A n : Nat) = e.length) (hei : ∀ q ∈ e.drop (kBn A n), kIn q.2) (hdi : kDi ds (sg_g σ 6)) (k1 : ∀ σ', kTy A ds (sg_g σ 6) (e.drop (kBn A n)) n ((A.2.2.2.2.1 n).map (sg_g σ 6)) = none → cF σ' → sg_F [6, 16, 29, 30, 32, 33, 7028, 10038, 13038, 14038] σ σ' → Q σ') (k2 : ∀ σ' ty, kTy A ds (sg_g σ 6) (e.drop (kBn A n)) n ((A.2.2.2.2.1 n).map (sg_g σ 6)) = some ty → cZ σ' → sg_g σ' 6 = aU (sg_g σ 6) n ty → ckE σ' (sg_g σ' 38 9) (e.drop (kBn A n)) → sg_F [6, 16, 29, 30, 32, 33, 7028, 10038, 13038, 14038] σ σ' → Q σ') : V_kLeave σ n Q := by
  obtain ⟨p0, p1, p2, p3, p4, p5, p6⟩ := ckW_p h hn
  have hA := h.1.2
  have n200 : 0 ≤ n ∧ n < 200 := by omega
  have en := ckE_n he
  obtain ⟨q2, q3, q15, q1, q13⟩ := kmp_q hw.1
  have hkd : sx_at σ 3 200 n = kmp (A.2.1 n) := by rw [p1 3 200 rfl]; exact (h.2.2 n hn.1 hn.2).1.1
  have hpl : sg_g σ 4 n = A.2.2.1 n := (h.2.2 n hn.1 hn.2).1.2.1
  have pl : 0 ≤ sx_at σ 4 200 n ∧ sg_R (sx_at σ 4 200 n) := by
    rw [p1 4 200 rfl]
    exact ⟨by rw [hpl]; exact (h.2.1 n).2.2, sg_Rg _ _ _⟩
  unfold V_kLeave
  intro σ1 e1
  rw [p1 41 200 rfl] at e1
  have f1 : sg_F [10038] σ σ1 := by rw [e1]; exact sg_F_w (sg_F_r _ _) rfl _
  have kn1 : sg_g σ1 38 9 = sg_g σ 38 9 - (kBn A n : Nat) := by rw [e1, sg_gw_e _ _ _ _ (sg_Rg _ _ _)]; omega
  have h1 := ckW_F h f1 rfl
  have F1 : cZ σ1 := cZ_F hF f1 rfl
  have he1 : ckE σ1 (sg_g σ1 38 9) (e.drop (kBn A n)) := by
    rw [kn1]; exact ckE_d (kBn A n) (ckE_F he f1 rfl) hb
  generalize e.drop (kBn A n) = e' at *
  have hel' : e'.length ≤ 250 := by have := ckE_n he1; omega
  have T1 : sg_g σ1 6 = sg_g σ 6 := funext fun _ => sg_F_ga f1 rfl
  have D1 : dsC σ1 (sg_g σ1 38 11) ds := by
    rw [sg_F_g f1 (by rfl)]
    exact dsC_F f1 rfl hd
  rw [hkd]
  have rs : ∀ P : sg_S → Prop, (A.2.1 n = 1 ∨ A.2.1 n = 13) → (∀ σ', (cF σ' ∧ kTy A ds (sg_g σ 6) e' n ((A.2.2.2.2.1 n).map (sg_g σ 6)) = none) ∨ (cZ σ' ∧ rsC σ' A ds e' n) → P σ') → V_kResolve σ1 n (kmp (A.2.1 n)) (fun σ46 => sg_F [16, 13038, 14038] σ1 σ46 → P σ46) := fun P hk hP => by
    refine c_resolve h1 hn hk F1 he1 hel' (by rw [sg_F_g f1 (by rfl)]; exact hc) D1 hl (fun σ' x1 x2 x3 _ => hP σ' (Or.inl ⟨x2, ?_⟩)) (fun σ' x1 x2 x3 _ => hP σ' (Or.inr ⟨x2, x1⟩))
    rcases x1 with ⟨a, b⟩ | ⟨a, b⟩
    · rw [kTy_1 a]; exact b
    · exact kTy_13 a b
  refine ⟨fun σ7 => (cF σ7 ∧ kTy A ds (sg_g σ 6) e' n ((A.2.2.2.2.1 n).map (sg_g σ 6)) = none) ∨ (cZ σ7 ∧ rsC σ7 A ds e' n), ⟨fun z => rs _ (Or.inl (q1.mp z)) (fun σ' x => x), fun z => ⟨fun z2 => Or.inr ⟨F1, fun y => absurd (q1.mpr y) z, fun y => absurd (q13.mpr y) z2⟩, fun z2 => rs _ (Or.inr (q13.mp z2)) (fun σ' x => x)⟩⟩, ?_⟩
  intro σ7 fr7 h7
  have f7 : sg_F [16, 10038, 13038, 14038] σ σ7 := sg_F_t (sg_F_m f1 rfl) (sg_F_m fr7 rfl)
  have F7 : sg_F [6, 16, 29, 30, 32, 33, 7028, 10038, 13038, 14038] σ σ7 := sg_F_m f7 rfl
  refine ⟨fun z => ?_, fun z => ?_⟩
  rotate_left
  · rcases h7 with ⟨a, b⟩ | ⟨a, -⟩
    · exact k1 σ7 b a F7
    · exact absurd a.1 z
  rcases h7 with ⟨a, -⟩ | ⟨zz, r1, r2⟩
  · exact absurd z a.1
  have T7 : sg_g σ7 6 = sg_g σ 6 := funext fun _ => sg_F_ga f7 rfl
  have he7 : ckE σ7 (sg_g σ7 38 9) e' := by rw [sg_F_g fr7 (by rfl)]; exact ckE_F he1 fr7 rfl
  refine c_depth (ds := ds) (e := e') (ckW_F h f7 rfl) hn hw (by rw [T7]; exact ht) (fun y => ?_) (fun y => ?_) (fun q hq rq => ?_)
  · obtain ⟨s, s1, s2, s3⟩ := r1 y
    exact ⟨s, s1, s2, s3, kFind_in hei s3⟩
  · obtain ⟨q, ps, r, s1, s2, s3, s4⟩ := r2 y
    obtain ⟨d, d1, d2⟩ := kDef_in s3
    have := hr d d1
    refine ⟨q, ps, r, s1, s2, s3, s4, by omega, ?_⟩
    rw [T7, ← d2]; exact hdi d d1
  · rw [T7] at hq
    have fault : (kTy A ds (sg_g σ 6) e' n ((A.2.2.2.2.1 n).map (sg_g σ 6)) = none) → ∀ P : sg_S → Prop, (∀ σ', cF σ' → sg_F [13038, 14038] σ7 σ' → P σ') → V_kBlame σ7 3 (sx_at σ 4 200 n) (fun σ33 => sg_F [13038, 14038] σ7 σ33 → P σ33) := fun _ P hP => c_blame (fun y => absurd z y) (by decide) pl (fun σ' t1 t2 _ => hP σ' t1 t2)
    refine ⟨fun σ20 => (cF σ20 ∧ kTy A ds (sg_g σ 6) e' n ((A.2.2.2.2.1 n).map (sg_g σ 6)) = none) ∨ (σ20 = σ7 ∧ kTy A ds (sg_g σ 6) e' n ((A.2.2.2.2.1 n).map (sg_g σ 6)) = some q), ⟨fun y => ?_, fun y => ⟨fun y2 => ?_, fun y2 => ?_⟩⟩, fun σ20 f20 h20 σ23 e23 => c_conclude (fun σ27 f27 _ => ?_)⟩
    · rcases hq with ⟨a, -⟩ | ⟨-, a, -⟩
      · exact fault a _ (fun σ' t1 _ => Or.inl ⟨t1, a⟩)
      · omega
    · rcases hq with ⟨-, a⟩ | ⟨a, -⟩
      · omega
      · exact Or.inr ⟨rfl, a⟩
    · rcases hq with ⟨a, -⟩ | ⟨-, -, a⟩
      · exact fault a _ (fun σ' t1 _ => Or.inl ⟨t1, a⟩)
      · omega
    · have f23 : sg_F [6] σ20 σ23 := by rw [e23]; exact xF_p (sg_F_r _ _) rfl _ _ _
      have f27' : sg_F [6, 29, 30, 32, 33, 7028] σ20 σ27 := sg_F_t (sg_F_m f23 rfl) (sg_F_m f27 rfl)
      have FF : sg_F [6, 16, 29, 30, 32, 33, 7028, 10038, 13038, 14038] σ σ27 := sg_F_t (sg_F_t F7 (sg_F_m f20 rfl)) (sg_F_m f27' rfl)
      rcases h20 with ⟨a, b⟩ | ⟨a, b⟩
      · refine k1 σ27 b ?_ FF
        unfold cF at a ⊢
        rw [sg_F_g f27' (by rfl), sg_F_g f27' (by rfl)]; exact a
      · subst a
        refine k2 σ27 q b ?_ ?_ ?_ FF
        · exact cZ_F zz f27' rfl
        · rw [show sg_g σ27 6 = sg_g σ23 6 from funext fun _ => sg_F_ga f27 rfl, e23, xp_in n200]
          funext j
          by_cases y : j = n
          · rw [y, sg_gw_e _ _ _ _ rq]; simp only [aU, if_true]
          · rw [sg_gw_k _ _ _ _ _ _ y, T7]; simp only [aU, y, if_false]
        · rw [sg_F_g f27' (by rfl)]; exact ckE_F he7 f27' rfl
end LEV
