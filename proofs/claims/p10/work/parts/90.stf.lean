/-! STEPS of the reader (6): WORDS, GENS. -/
theorem act_v (w : Int) : v_actOf w = 0 ∨ (16 ≤ v_actOf w ∧ v_actOf w ≤ 27) := by
  unfold v_actOf
  repeat (first | exact Or.inl rfl | exact Or.inr ⟨by decide, by decide⟩ | split)
section STF
variable {t : aK} {N : Nat} {σ : sg_S} {F : Int} {i : Nat} {A : aT} {vs : List Int} {d : Int} {P : aP} {f : Nat} {n : Int}
/-- a node of kind kd for the WORD; then ( and its parts -/
theorem at_call (hR : Rp t N σ 0 i A vs d P) (hd : d = 12 - (f : Int)) (hI : aIn A vs f ((9, n) :: P)) (hi : i < N) {kd : Int} (hkd : 0 ≤ kd ∧ kd ≤ 27 ∧ ¬ kd = 14) (hr : ∀ g, f = g + 1 → ¬ A.1 = 200 → aSg t (i + 1) 40 = true → den t ((9, n) :: P) i A vs f = match aArgs t (aLv t g).1 A.1 (i + 2) (aNew A kd (t.2.2 i) (t.2.1 i)) with
    | none => none
    | some (i', A', r) => den t P i' A' (r :: vs) (g + 1)) (hr0 : f = 0 ∨ A.1 = 200 ∨ aSg t (i + 1) 40 = false → den t ((9, n) :: P) i A vs f = none) {Q : sg_S → Prop} (hQ : ∀ σ', aPo t N (den t ((9, n) :: P) i A vs f) (40 * (N - i) + pwt ((9, n) :: P)) σ' → Q σ') {σ3 : sg_S} {F3 : Int} {A2 : aT} {q : Int} (e7 : F3 = 0 ↔ ¬ A.1 = 200) (e3 : ¬ A.1 = 200 → q = A.1 ∧ A2 = aNew A kd (t.2.2 i) (t.2.1 i)) (e5 : 0 ≤ q) (e6 : q < A2.1) (h3 : Rp t N σ3 F3 (if F3 = 0 then i + 1 else i) A2 vs d P) : p_isSignNow σ3 40 ∧ (∃ P140 : sg_S → Prop, ((v_isSignNow σ3 40 = 0 → P140 σ3) ∧ (¬ v_isSignNow σ3 40 = 0 → V_enter σ3 (fun σ159 => sg_F [30088, 31088, 37088] σ3 σ159 → P140 σ159))) ∧ (∀ (σ141 : sg_S), sg_F [30088, 31088, 37088] σ3 σ141 → P140 σ141 → p_isSignNow σ3 40 ∧ V_want σ141 (v_isSignNow σ3 40) (fun σ146 => sg_F [8088, 30088, 31088] σ141 σ146 → ((¬ sg_g σ146 88 29 = 0 → Q σ146) ∧ (sg_g σ146 88 29 = 0 → V_readList σ146 q (fun σ153 => sg_F [110, 111, 32088] σ146 σ153 → Q σ153)))))) := by
  have hl := aIn_l hI
  have hA := Rp_A hR
  have hf := hI.1
  have ok : F3 = 0 → aSg t (i + 1) 40 = true → d < 12 → ∃ g, f = g + 1 ∧ q = A.1 ∧ A2 = aNew A kd (t.2.2 i) (t.2.1 i) ∧ ¬ A.1 = 200 := by
    intro a b c
    obtain ⟨c1, c2⟩ := e3 (e7.mp a)
    exact ⟨f - 1, by omega, c1, c2, e7.mp a⟩
  have fin : ∀ σ', F3 = 0 → aSg t (i + 1) 40 = true → d < 12 → (aSg t (i + 2) 41 = true → Rp t N σ' 0 (i + 2) A2 vs (d + 1) ((15, q) :: P) → Q σ') ∧ (aSg t (i + 2) 41 = false → Rp t N σ' 0 (i + 2) A2 vs (d + 1) ((0, 0) :: (10, q) :: (15, q) :: P) → Q σ') := by
    intro σ' a b c
    obtain ⟨g, rfl, rfl, rfl, h200⟩ := ok a b c
    have hi2 : i + 1 < N := by
      rw [if_pos a] at h3
      exact Rp_i h3 (by have := sg_t b; omega)
    have h0 : ((aNew A kd (t.2.2 i) (t.2.1 i)).2.2.2.2.1 A.1).length = 0 := by simp only [aNew, aU_e, List.length_nil]
    have hk : ¬ (aNew A kd (t.2.2 i) (t.2.1 i)).2.1 A.1 = 14 := by simp only [aNew, aU_e]; exact hkd.2.2
    obtain ⟨i1, i2, i3, i4, i5, i6, m, i7, i8, i9⟩ := hI
    simp [pwf, pcn, pok, pnd, pow, pht, pcl, pgr] at i2 i3 i4 i5 i9
    have hcl := aIn_15 (f := g) (vs := vs) (P := P) (A := aNew A kd (t.2.2 i) (t.2.1 i)) (q := A.1) (by omega) i2.2 (by omega) i4 (pnd_m (by simp only [aNew_1]; omega) i5.2) (fun v hv => by have := i6 v hv; simp only [aNew_1]; omega) ⟨hA.1, by simp only [aNew_1]; omega⟩ (by simp only [aNew_1]; omega) i7 (aB_n i8 i7 _ _ _) (by simp only [aNew_1]; omega)
    have := po_args (t := t) (N := N) (σ' := σ') (d := d + 1) (u := 40 * (N - i) + pwt ((9, n) :: P)) (j := i + 2) (by simp only [aNew_1]; omega) ⟨hA.1, by simp only [aNew_1]; omega⟩ hk h0 hcl (by simp [pwt]; omega) (by omega) (hr g rfl h200 b)
    exact ⟨fun x y => hQ _ (this.1 x y), fun x y => hQ _ (this.2 x y)⟩
  refine s_cp h3 (by omega) ⟨e5, e6⟩ (by omega) ?_ ?_ ?_
  · intro σ' F' i' d' hF' hno h'
    refine hQ _ ⟨F', _, _, _, _, _, h', fun _ => hr0 ?_, fun c => absurd c hF'⟩
    by_cases a : A.1 = 200
    · exact Or.inr (Or.inl a)
    · have a3 := e7.mpr a
      rw [if_pos a3] at hno
      by_cases b : aSg t (i + 1) 40 = true
      · exact Or.inl (by have : ¬ d < 12 := fun c => hno ⟨a3, b, c⟩; omega)
      · exact Or.inr (Or.inr (bF b))
  · intro a b c _ _ _ e8 σ' h'
    rw [if_pos a] at b e8 h'
    exact (fin σ' a b c).1 e8 h'
  · intro a b c _ e8 σ' h'
    rw [if_pos a] at b e8 h'
    obtain ⟨g, c1, c2, c3, h200⟩ := ok a b c
    refine (fin σ' a b c).2 ?_ h'
    rcases e8 with e8 | e8 | e8
    · rw [c3, c2] at e8
      simp only [aNew, aU_e] at e8
      exact absurd e8 hkd.2.2
    · rw [c3, c2] at e8
      simp only [aNew, aU_e, List.length_nil] at e8
      exact absurd trivial e8
    · exact e8
theorem st_9 (hR : Rp t N σ 0 i A vs d P) (hd : d = 12 - (f : Int)) (n : Int) (hI : aIn A vs f ((9, n) :: P)) {Q : sg_S → Prop} (hQ : ∀ σ', aPo t N (den t ((9, n) :: P) i A vs f) (40 * (N - i) + pwt ((9, n) :: P)) σ' → Q σ') : V_goOn_9 σ Q := by
  have ht := Rp_t hR
  have hl := aIn_l hI
  have hA := Rp_A hR
  have e7 : sg_g σ 88 7 = i := hR.2.2.1
  unfold V_goOn_9 V_readAtom
  rw [ht.1, ht.2.2.1, vs_sg hR 40, vs_sg hR 91, vs_sg hR 123, vs_nm hR]
  refine ⟨⟨ht.2.2.2.1, ht.2.2.2.2.1⟩, fun h1 => ⟨fun h2 => ⟨p_sg hR 40, fun h3 => ⟨p_sg hR 91, fun h4 => ⟨p_sg hR 123, fun h5 => ?_, fun h5 => ?_⟩, fun h4 => ?_⟩, fun h3 => ?_⟩, fun h2 => ?_⟩, fun h1 => ?_⟩
  · rw [if01n] at h3 h4 h5
    exact at_no hR (by simp [den, aDe, aAtm, h1, h2, h3, h4, h5, aPu]) (fun σ' h _ => hQ _ h)
  · exact at_each hR hd hI ((if01 _).mp h5) (fun σ' h _ => hQ _ h)
  · exact at_row hR hd hI ((if01 _).mp h4) (fun σ' h _ => hQ _ h)
  · exact at_par hR hd hI ((if01 _).mp h3) (fun σ' h _ => hQ _ h)
  · have hi := Rp_i hR (by omega)
    have e90 : sg_g σ 90 (sg_g σ 88 7 + 1) = t.1 (i + 1) := by
      rw [e7]
      exact (hR.1.2.1 (i + 1) (by omega)).1
    have e92 : sg_gl σ 92 (sg_g σ 88 7 + 1) = t.2.1 (i + 1) := by
      rw [e7]
      exact (hR.1.2.1 (i + 1) (by omega)).2.2
    rw [e90, e92]
    have hact := act_r (t.2.1 i)
    refine ⟨⟨fun _ => trivial, fun _ => ⟨⟨by omega, by omega⟩, ⟨by omega, by omega⟩, fun _ => trivial, fun _ => ⟨fun _ => trivial, fun _ => trivial⟩⟩⟩, ?_⟩
    rintro v115 e115 -
    refine ⟨fun h3 => ?_, fun h3 => ⟨p_nm hR, fun h4 => ?_, fun h4 => ?_⟩⟩
    · -- a RESERVED WORD from iota on
      rintro v121 e121 -
      rw [if_neg h3] at e121
      subst e121
      have hk14 : ¬ v_actOf (t.2.1 i) = 14 := by
        have := act_v (t.2.1 i)
        omega
      refine s_newNode hR ⟨by omega, by omega⟩ (fun σ2 F2 A2 q e2 e3 e4 e5 e6 h2' _ _ => ?_)
      refine s_want h2' (fun _ _ => hi) (fun σ3 F3 e8 h3' _ => ?_)
      refine ⟨fun _ => ?_, fun c => absurd c h3⟩
      refine at_call (Q := fun σ' => sg_F [93, 94, 95, 96, 98, 110, 111, 112, 8088, 9088, 30088, 31088, 32088, 35088, 37088] σ σ' → Q σ') hR hd hI hi (kd := v_actOf (t.2.1 i)) ⟨hact.1, hact.2, hk14⟩ ?_ ?_ (fun σ' h _ => hQ _ h) (by omega) e3 e5 e6 h3'
      · rintro g rfl h200 h40
        simp only [den, aDe, aAtm, h2, aWrd]
        simp [h3, aMk, h200, h40, aW, aI, aPu]
        cases aArgs t (aLv t g).1 A.1 (i + 2) (aNew A (v_actOf (t.2.1 i)) (t.2.2 i) (t.2.1 i)) with
        | none => rfl
        | some r => rfl
      · intro c
        simp only [den, aDe, aAtm, h2, aWrd]
        by_cases c1 : A.1 = 200
        · simp [h3, aMk, c1, aPu]
        · by_cases c2 : aSg t (i + 1) 40 = true
          · have c3 : f = 0 := by
              rcases c with c | c | c
              · exact c
              · exact absurd c c1
              · rw [c2] at c; cases c
            subst c3
            simp [h3, aMk, c1, c2, aW, aPu]
          · simp [h3, aMk, c1, c2, aPu]
    · -- a NAME
      rw [if01] at h4
      rintro v203 e203 -
      rw [if_pos h3] at e203
      have hc : v115 = if aSg t (i + 1) 40 = true then 1 else 0 := by
        rw [e115]
        unfold aSg
        by_cases a : t.1 (i + 1) = 3 <;> by_cases b : t.2.1 (i + 1) = 40 <;> simp [h3, a, b]
      by_cases c40 : aSg t (i + 1) 40 = true
      · rw [c40] at hc
        simp at hc
        subst hc
        simp at e203
        subst e203
        refine s_newNode hR (by decide) (fun σ2 F2 A2 q e2 e3 e4 e5 e6 h2' _ _ => ?_)
        refine s_want h2' (fun _ _ => hi) (fun σ3 F3 e8 h3' _ => ?_)
        refine ⟨fun c => absurd h3 c, fun _ => ⟨fun _ => ?_, fun c => absurd c (by decide)⟩⟩
        refine at_call (Q := fun σ' => sg_F [93, 94, 95, 96, 98, 110, 111, 112, 8088, 9088, 30088, 31088, 32088, 35088, 37088] σ σ' → Q σ') hR hd hI hi (kd := 13) (by omega) ?_ ?_ (fun σ' h _ => hQ _ h) (by omega) e3 e5 e6 h3'
        · rintro g rfl h200 h40
          simp only [den, aDe, aAtm, h2, aWrd]
          simp [h3, h4, aMk, h200, h40, aW, aI, aPu]
          cases aArgs t (aLv t g).1 A.1 (i + 2) (aNew A 13 (t.2.2 i) (t.2.1 i)) with
          | none => rfl
          | some r => rfl
        · intro c
          simp only [den, aDe, aAtm, h2, aWrd]
          by_cases c1 : A.1 = 200
          · simp [h3, h4, aMk, c1, c40, aPu]
          · have c3 : f = 0 := by
              rcases c with c | c | c
              · exact c
              · exact absurd c c1
              · rw [c40] at c; cases c
            subst c3
            simp [h3, h4, aMk, c1, c40, aW, aPu]
      · have c40 := bF c40
        rw [c40] at hc
        simp at hc
        subst hc
        simp at e203
        subst e203
        refine s_newNode hR (by decide) (fun σ2 F2 A2 q e2 e3 e4 e5 e6 h2' _ _ => ?_)
        have hA2 := Rp_A h2'
        refine s_want h2' (fun _ _ => hi) (fun σ3 F3 e8 h3' _ => ?_)
        refine ⟨fun c => absurd h3 c, fun _ => ⟨fun c => absurd rfl c, fun _ => ?_⟩⟩
        refine s_pushed h3' ⟨by omega, by omega⟩ (by omega) (fun σ4 h4' _ _ => ?_)
        refine hQ _ ⟨F3, _, _, _, _, _, h4', fun e => ?_, fun e => ?_⟩
        · have c1 : A.1 = 200 := by omega
          simp [den, aDe, aAtm, h2, aWrd, h3, h4, aMk, c1, c40, aPu]
        · obtain ⟨c1, c2⟩ := e3 (by omega)
          subst c1 c2
          rw [if_pos e]
          refine ⟨f, hd, ?_, ?_, ?_⟩
          · obtain ⟨i1, i2, i3, i4, i5, i6, m, i7, i8, i9⟩ := hI
            simp [pwf, pcn, pok, pnd, pow, pht, pcl, pgr] at i2 i3 i4 i5 i9
            refine ⟨i1, i2.2, i3, i4, pnd_m (by simp only [aNew_1]; omega) i5.2, fun v hv => ?_, m, i7, aB_n i8 i7 _ _ _, ?_⟩
            · simp only [aNew_1]
              rcases List.mem_cons.mp hv with c | c
              · subst c; omega
              · have := i6 v c; omega
            · simp only [aNew_1, List.length_cons]; omega
          · simp [den, aDe, aAtm, h2, aWrd, h3, h4, aMk, show ¬ A.1 = 200 by omega, c40, aPu]
          · simp [pwt]; omega
    · rw [if01n] at h4
      exact at_no hR (by simp [den, aDe, aAtm, h2, aWrd, h3, h4, aPu]) (fun σ' h _ => hQ _ h)
  · exact at_num hR hd hI h1 (fun σ' h _ => hQ _ h)
end STF
