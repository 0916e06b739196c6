/-! What is laid out stays while its rows stay. -/
def rwE (σ σ' : sg_S) : Prop := ∀ k, sg_g σ' 6 k = sg_g σ 6 k ∧ sg_g σ' 16 k = sg_g σ 16 k ∧ sg_g σ' 22 k = sg_g σ 22 k ∧ sg_g σ' 23 k = sg_g σ 23 k ∧ sg_g σ' 24 k = sg_g σ 24 k ∧ sg_g σ' 27 k = sg_g σ 27 k ∧ sg_g σ' 29 k = sg_g σ 29 k ∧ sg_g σ' 30 k = sg_g σ 30 k ∧ sg_g σ' 31 k = sg_g σ 31 k ∧ sg_g σ' 34 k = sg_g σ 34 k
theorem rwE_F {L : List Nat} {σ σ' : sg_S} (f : sg_F L σ σ') (hL : (sg_ca L 6 && sg_ca L 16 && sg_ca L 22 && sg_ca L 23 && sg_ca L 24 && sg_ca L 27 && sg_ca L 29 && sg_ca L 30 && sg_ca L 31 && sg_ca L 34) = true) : rwE σ σ' := by
  simp only [Bool.and_eq_true] at hL
  obtain ⟨⟨⟨⟨⟨⟨⟨⟨⟨l1, l2⟩, l3⟩, l4⟩, l5⟩, l6⟩, l7⟩, l8⟩, l9⟩, l10⟩ := hL
  exact fun k => ⟨sg_F_ga f l1, sg_F_ga f l2, sg_F_ga f l3, sg_F_ga f l4, sg_F_ga f l5, sg_F_ga f l6, sg_F_ga f l7, sg_F_ga f l8, sg_F_ga f l9, sg_F_ga f l10⟩
theorem cA_c {σ σ' : sg_S} {A : aT} {n b : Int} {s : Nat} (e : rwE σ σ') (h : cA σ A n s b) : cA σ' A n s b := by
  refine ⟨fun a c => ?_, fun a c => ?_⟩
  · rw [(e n).2.1, (e b).2.2.2.2.2.2.2.2.2, (e _).1]; exact h.1 a c
  · refine ⟨by rw [(e n).2.1]; exact (h.2 a c).1, fun i x hx => ?_⟩
    rw [(e _).2.2.2.2.2.2.2.2.2, (e _).1]; exact (h.2 a c).2 i x hx
theorem scS_c {σ σ' : sg_S} {A : aT} {n : Int} {go go' : List Int → Int → Int → Int → Prop} (e : rwE σ σ') (hg : ∀ es x b b', go es x b b' → go' es x b b') : ∀ (R : List Int) (s : Nat) (es : List Int) (b b' : Int), scS σ A go n s es b R b' → scS σ' A go' n s es b R b'
  | [], s, es, b, b', h => by simp only [scS] at h ⊢; exact h
  | x :: R, s, es, b, b', h => by
    simp only [scS] at h ⊢
    obtain ⟨h1, b2, h2, h3⟩ := h
    exact ⟨cA_c e h1, b2, hg _ _ _ _ h2, scS_c e hg R _ _ _ _ h3⟩
theorem scN_c {σ σ' : sg_S} {A : aT} {cl : Int} (e : rwE σ σ') : ∀ (f : Nat) (es : List Int) (n b b' : Int), scN σ A cl f es n b b' → scN σ' A cl f es n b b'
  | 0, _, _, _, _, h => h.elim
  | f + 1, es, n, b, b', h => by
    obtain ⟨h1, h2, h3, h4⟩ := h
    refine ⟨fun c => by rw [(e n).2.1]; exact h1 c, fun c => ?_, fun c => ?_, scS_c e (fun es x b b' => scN_c e f es x b b') _ _ _ _ _ h4⟩
    · rw [(e n).2.1, (e _).2.2.2.2.2.2.2.2.2, (e n).1]; exact h2 c
    · obtain ⟨y1, y2, y3, y4⟩ := h3 c
      unfold clF
      rw [(e n).2.1, (e n).1, (e (sg_g σ 16 n)).2.2.2.1, (e (sg_g σ 16 n)).2.2.1, (e _).1]
      exact ⟨y1, y2, fun i x hx => by rw [(e x).1, (e _).2.2.2.2.2.1]; exact y3 i x hx, y4⟩
theorem pC_c {σ σ' : sg_S} {p : Int} {C : List (Int × Int)} (e : rwE σ σ') (h : pC σ p C) : pC σ' p C := fun i z hz => by
  rw [(e _).2.2.2.2.2.2.1, (e _).2.2.2.2.2.2.2.1]; exact h i z hz
theorem ckA_c {σ σ' : sg_S} {A : aT} {M r : Int} (e : rwE σ σ') (h : ckA σ A M r) : ckA σ' A M r := by
  obtain ⟨H, fs, Ld, a1, a2, a3, a4, a5⟩ := h
  refine ⟨H, fs, Ld, fun q z1 z2 => ?_, a2, scN_c e _ _ _ _ _ a3, a4, ?_⟩
  · obtain ⟨⟨L, b1, b2, b3, b4, b5, b6, b7, b8, b9⟩, ord⟩ := a1 q z1 z2
    refine ⟨⟨L, by rw [(e q).2.2.1]; exact b1, b2, ?_, ?_, ?_, ?_, fun i hi => ?_, ?_, ?_⟩, fun q' w1 w2 => by rw [(e q).2.2.2.2.1]; exact ord q' w1 w2⟩
    · rw [(e q).2.2.2.2.1, (e q).2.2.2.1, (e q).2.2.1]; exact scN_c e _ _ _ _ _ b3
    · rw [(e q).2.2.2.2.2.2.2.2.1, (e q).2.2.1]; exact pC_c e b4
    · rw [(e q).2.2.2.2.2.2.2.2.1, (e q).2.2.1]; exact b5
    · rw [(e q).2.2.2.2.1]; exact b6
    · rw [(e q).2.2.2.1] at hi
      rw [(e q).2.2.2.2.1, (e _).2.2.2.2.2.2.2.2.2, (e _).2.2.2.2.2.1]; exact b7 i hi
    · rw [(e q).2.2.1, (e _).1]; exact b8
    · rw [(e q).2.2.2.1]; exact b9
  · rw [(e 12).2.2.2.2.2.2.2.2.1]
    exact ⟨a5.1, pC_c e a5.2⟩
theorem ckA_F {L : List Nat} {σ σ' : sg_S} {A : aT} {M r : Int} (h : ckA σ A M r) (f : sg_F L σ σ') (hL : (sg_ca L 6 && sg_ca L 16 && sg_ca L 22 && sg_ca L 23 && sg_ca L 24 && sg_ca L 27 && sg_ca L 29 && sg_ca L 30 && sg_ca L 31 && sg_ca L 34) = true) : ckA σ' A M r := ckA_c (rwE_F f hL) h
