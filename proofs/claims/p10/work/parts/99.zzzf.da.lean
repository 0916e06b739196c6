/-! a { } of the class: scopes of its parts, what they want, what open leaves. -/
section DAA
variable {σ : sg_S} {A : aT} {D : List aDf} {vb : Int → Prop} {B : Int → Int} {lev : Int → Nat} {j : Nat} {dix nl : Int} {f : Nat}
theorem slQ_g {n b b1 : Int} {R : List Int} {sc : List (Int × Int)} {q : Int × Int → Bool} (hn : 0 ≤ n ∧ n < 200) (h16 : sg_g σ 16 n = b1) (h4 : R.length ≤ 4) (hSD : ∀ (i : Nat) (x : Int), R[i]? = some x → sg_g σ 34 (b1 + i) = sg_g σ 6 x - 1) (hk : ∀ x ∈ R, kIn (sg_g σ 6 x) ∧ 0 < sg_g σ 6 x) (hsl : slQ σ sc b) (hb : b ≤ b1) : slQ σ (gsc n (sg_g σ 6) 0 R ++ sc.filter q) (b1 + R.length) := fun p hp => by
  rcases List.mem_append.mp hp with w | w
  · obtain ⟨i, u, hu, ep⟩ := gsc_m _ _ _ w
    have hi := gE_l hu
    rw [ep]
    show slF σ (210 + 4 * n + ((0 + i : Nat) : Int)) < b1 + R.length ∧ sg_g σ 34 (slF σ (210 + 4 * n + ((0 + i : Nat) : Int))) = sg_g σ 6 u - 1 ∧ kIn (sg_g σ 6 u - 1)
    rw [Nat.zero_add, sl_gen (by omega) (by omega), h16]
    have k1 := hk u (List.mem_of_getElem? hu)
    refine ⟨by omega, hSD i u hu, ?_⟩
    unfold kIn at k1 ⊢
    omega
  · have := hsl p (List.mem_filter.mp w).1
    exact ⟨by omega, this.2⟩
/-- what a part of a { } wants from outside of it -/
theorem w_each {n b b1 z bz bz' : Int} {L Lz LL es R : List Int} {sc : List (Int × Int)} {q : Int × Int → Bool} (hW : ckW σ A) (hz : 0 ≤ z ∧ z < A.1) (hg : gRq σ A L) (hzL : z ∈ L) (stz : stN A D (sg_g σ 6) B lev j f Lz (gsc n (sg_g σ 6) 0 R ++ sc.filter q) z) (hs : scN σ A dix f es z bz bz') (hsl : slQ σ sc b) (hb : b ≤ b1) (hS1 : slQ σ (gsc n (sg_g σ 6) 0 R ++ sc.filter q) (b1 + R.length)) (hbz : b1 + R.length ≤ bz) (hly : ∀ y ∈ Lz, lyQ σ A D B dix y) (hn : 0 ≤ n ∧ n < 200) (h16 : sg_g σ 16 n = b1) (h4 : R.length ≤ 4) (hLL : ∀ y ∈ Lz, y ∈ LL) (hown : ∀ p ∈ sc, ¬ insL LL p.1 ∧ ¬ isG n p.1) (s : Int) : (∃ w, (∃ y ∈ Lz, A.2.1 y = 1 ∧ B y = w ∧ ¬ insL LL w ∧ ¬ isG n w) ∧ slF σ w = s) ↔ wnt σ (sg_g σ 11 z) (sg_g σ 12 z) b1 s := by
  have hA := hW.1.2
  have W := w_out hW hz hg hzL stz hs hS1 hbz hly s
  constructor
  · rintro ⟨w, ⟨y, hy, ky, e, n1, n2⟩, es'⟩
    obtain ⟨y', a1, a2, a3, a4, -⟩ := W.mp ⟨w, ⟨y, hy, ky, e, fun q => n1 (insL_s hLL q)⟩, es'⟩
    refine ⟨y', a1, a2, a3, a4, ?_⟩
    rcases stN_v hA stz hy ky with ⟨q1, -⟩ | q1
    · rcases List.mem_append.mp q1 with q2 | q2
      · obtain ⟨i, u, hu, ep⟩ := gsc_m _ _ _ q2
        have hi := gE_l hu
        have e1 : B y = 210 + 4 * n + ((0 + i : Nat) : Int) := congrArg (·.1) ep
        exact absurd (show isG n w from ⟨hn.1, by omega, by omega, by omega⟩) n2
      · have := (hsl _ (List.mem_filter.mp q2).1).1
        simp only at this
        rw [e, es'] at this
        omega
    · rw [e] at q1
      exact absurd (insL_s hLL q1) n1
  · rintro ⟨y', a1, a2, a3, a4, a5⟩
    obtain ⟨w, ⟨y, hy, ky, e, ni⟩, es'⟩ := W.mpr ⟨y', a1, a2, a3, a4, by omega⟩
    have key : ¬ insL LL w ∧ ¬ isG n w := by
      rcases stN_v hA stz hy ky with ⟨q1, -⟩ | q1
      · rcases List.mem_append.mp q1 with q2 | q2
        · obtain ⟨i, u, hu, ep⟩ := gsc_m _ _ _ q2
          have hi := gE_l hu
          have e1 : B y = 210 + 4 * n + ((0 + i : Nat) : Int) := congrArg (·.1) ep
          rw [← e, e1, Nat.zero_add, sl_gen (by omega) (by omega), h16] at es'
          omega
        · have := hown _ (List.mem_filter.mp q2).1
          simp only at this
          rw [e] at this
          exact this
      · rw [e] at q1
        exact absurd q1 ni
    exact ⟨w, ⟨y, hy, ky, e, key⟩, es'⟩
/-- what open leaves -/
theorem op_I {σ2 σ3 : sg_S} {n g t sv c bd : Int} {N : Nat} {dg : Nat → Nat} {Ob : List Int} {ks : List Nat} {vs : List (List vaF)} {s3 : fSt} {ρ2 ρ3 : fEv} (hSl : slA σ vb) (hOb : ∀ y ∈ Ob, vb y ∧ ¬ isG n y) (hn : 0 ≤ n ∧ n < 200) (h16 : sg_g σ 16 n = bd) (hgl : (vs.length : Int) = g) (h4 : g ≤ 4) (h1 : 1 ≤ g) (hvb : ∀ i : Nat, i < vs.length → vb (210 + 4 * n + i)) (hdg : ∀ i : Nat, i < vs.length → dg i = (bTy A D (sg_g σ 6) (210 + 4 * n + i)).toNat) (hr : opX2 σ2 σ3 n g t sv c bd dg Ob (slF σ) (bTy A D (sg_g σ 6)) vs s3 ρ3) (h3 : ∀ b, ρ3 b = if b ∈ Ob then fPk (ρ2 b) ks else ρ2 b) (rows : ∀ i, sg_g σ3 64 i = sg_g σ2 64 i ∧ sg_g σ3 63 i = sg_g σ2 63 i ∧ sg_g σ3 69 i = sg_g σ2 69 i) (h69 : sg_g σ2 69 n = N) (hG : yX σ2 (dg 0 + 1) (sg_g σ2 64 t) (vs.getD 0 [])) (hGl : (vs.getD 0 []).length = N) : bIX σ A D vb lev j σ2 σ3 ρ2 (fUs ρ3 (210 + 4 * n) 0 (vs.map flF)) t sv nl dix n Ob [] ((vs.getD 0 []).map (fun v => (itF v).length)) ∧ (∀ i : Nat, i < vs.length → rlY σ A D σ3 (fUs ρ3 (210 + 4 * n) 0 (vs.map flF)) (210 + 4 * n + i) ∧ fUs ρ3 (210 + 4 * n) 0 (vs.map flF) (210 + 4 * n + i) = flF (vs.getD i [])) ∧ ∀ y ∈ Ob, rlY σ A D σ3 (fUs ρ3 (210 + 4 * n) 0 (vs.map flF)) y ∧ fUs ρ3 (210 + 4 * n) 0 (vs.map flF) y = fPk (ρ2 y) ks := by
  obtain ⟨r1, r2, r3, r4, r5, r6, r7, r8, r9, r10, r11, r12, r13, r14, r15⟩ := hr
  have vml : (vs.map flF).length = vs.length := List.length_map _
  have out : ∀ b, (b < 210 + 4 * n ∨ 210 + 4 * n + vs.length ≤ b) → fUs ρ3 (210 + 4 * n) 0 (vs.map flF) b = ρ3 b := fun b hb => fUs_no (ρ := ρ3) (i := 0) (by rw [vml]; simp only [Int.ofNat_zero, Int.cast_ofNat_Int, Int.add_zero]; exact hb)
  have gen : ∀ i : Nat, i < vs.length → fUs ρ3 (210 + 4 * n) 0 (vs.map flF) (210 + 4 * n + i) = flF (vs.getD i []) := fun i hi => by
    have hv : (vs.map flF)[i]? = some (flF (vs.getD i [])) := by
      rw [List.getElem?_map, List.getD_eq_getElem?_getD, List.getElem?_eq_getElem hi]; rfl
    have := fUs_at (b := 210 + 4 * n) (ρ := ρ3) (i := 0) hv
    simp only [Int.ofNat_zero, Int.cast_ofNat_Int, Int.add_zero] at this
    exact this
  have sg : ∀ i : Nat, i < vs.length → slF σ (210 + 4 * n + i) = bd + i := fun i hi => by rw [sl_gen (by omega) (by omega), h16]
  refine ⟨⟨r2, fun i _ => (rows i).1, fun b hb ho hnO hrl => ?_, r15, fun x q r => ?_, fun q _ => (rows q).2.1, r14, ⟨by rw [(rows n).2.2, h69, List.length_map, hGl], r12⟩, by rw [r9]; exact yX_rw (d := dg 0) r1.1 (yX_up r2 hG)⟩, fun i hi => ⟨?_, gen i hi⟩, fun y hy => ?_⟩
  · have nin : b < 210 + 4 * n ∨ 210 + 4 * n + vs.length ≤ b := by
      rcases Int.lt_or_le b (210 + 4 * n) with w | w
      · exact Or.inl w
      · rcases Int.lt_or_le b (210 + 4 * n + vs.length) with w2 | w2
        · exact absurd (Or.inl (Or.inr ⟨by omega, by omega, by rw [show (b - 210) / 4 = n by omega]; simp⟩)) ho
        · exact Or.inr w2
    unfold rlY
    rw [out b nin, h3 b, if_neg hnO, r6 _ (fun w => ?_) (fun w => ?_)]
    · exact yX_up r2 hrl
    · obtain ⟨y, hy, e⟩ := List.mem_map.mp w
      exact hnO (by rw [← hSl.2 y b (hOb y hy).1 hb e]; exact hy)
    · have hi : (slF σ b - bd).toNat < vs.length := by omega
      have := hSl.2 b _ hb (hvb _ hi) (by rw [sg _ hi]; omega)
      omega
  · have xn : ¬ x = n := fun z => r (by simp [z])
    exact ⟨(rows x).2.2, r10 x xn, r13 x xn⟩
  · unfold rlY
    rw [gen i hi, sg i hi, ← hdg i hi]
    exact r5 i hi
  · have nin : y < 210 + 4 * n ∨ 210 + 4 * n + vs.length ≤ y := by
      rcases Int.lt_or_le y (210 + 4 * n) with w | w
      · exact Or.inl w
      · rcases Int.lt_or_le y (210 + 4 * n + vs.length) with w2 | w2
        · exact absurd (show isG n y from ⟨hn.1, by omega, by omega, by omega⟩) (hOb y hy).2
        · exact Or.inr w2
    refine ⟨?_, by rw [out y nin, h3 y, if_pos hy]⟩
    unfold rlY
    rw [out y nin]
    exact r4 y hy
end DAA
