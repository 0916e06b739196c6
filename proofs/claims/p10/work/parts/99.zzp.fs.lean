/-! flatWorked: by the kind of the node. -/
/-- values of types ty with L lanes stand from b on -/
def vF (σ : sg_S) (L b : Int) (ty : List Int) : Prop := ∀ (i : Nat) (x : Int), ty[i]? = some x → fL σ x.toNat L (sg_g σ 133 (b + i))
theorem vF_0 {σ : sg_S} {L b x : Int} {ty : List Int} (h : vF σ L b (x :: ty)) : fL σ x.toNat L (sg_g σ 133 b) := by
  have := h 0 x rfl
  rwa [show b + ((0 : Nat) : Int) = b by omega] at this
theorem vF_1 {σ : sg_S} {L b x y : Int} {ty : List Int} (h : vF σ L b (x :: y :: ty)) : fL σ y.toNat L (sg_g σ 133 (b + 1)) := h 1 y rfl
section FS
variable {A : aT} {T : Int → Int} {ds : kD} {σ : sg_S}
theorem m_fWk {n b L : Int} {Q : Int → sg_S → Prop} (hn : 0 ≤ n ∧ n < 210) (w1 : nW A n) (t1 : sg_g σ 93 n = A.2.1 n) (t2 : sg_g σ 96 n = (A.2.2.2.2.1 n).length) (t3 : (A.2.2.2.2.1 n).length ≤ 200) (g : kTy A ds T [] n ((A.2.2.2.2.1 n).map T) = some (T n)) (hin : ∀ x ∈ A.2.2.2.2.1 n, kIn (T x)) (hk : ¬ A.2.1 n = 1 ∧ ¬ A.2.1 n = 2 ∧ ¬ A.2.1 n = 3 ∧ ¬ A.2.1 n = 13 ∧ ¬ A.2.1 n = 15) (h5 : vF σ L b ((A.2.2.2.2.1 n).map T)) (hb : 0 ≤ b) (h70 : sg_g σ 88 70 = b + (A.2.2.2.2.1 n).length) (h70' : sg_g σ 88 70 ≤ 6000) (hC : fC σ) (hq : fq σ) (hL : 0 ≤ L ∧ L ≤ 6000) (k : ∀ q σ', sg_R q → opR σ σ' (T n).toNat L q → (∀ x, x < sg_g σ 88 70 → sg_g σ' 133 x = sg_g σ 133 x) → sg_F [133, 135, 139, 140, 141, 142, 143, 144, 150, 74088, 85088, 86088, 88088, 92088, 94088, 103088, 104088] σ σ' → Q q σ') : V_flatWorked σ n b L (fun q σ' => sg_R q → sg_F [133, 135, 139, 140, 141, 142, 143, 144, 150, 74088, 85088, 86088, 88088, 92088, 94088, 103088, 104088] σ σ' → Q q σ') := by
  have done : ∀ (l : List Nat) (q : Int) (σ' : sg_S), sg_ca l 133 = true → sg_F l σ σ' → opR σ σ' (T n).toNat L q → sg_R q → sg_F [133, 135, 139, 140, 141, 142, 143, 144, 150, 74088, 85088, 86088, 88088, 92088, 94088, 103088, 104088] σ σ' → Q q σ' := fun l q σ' hl F h r f => k q σ' r h (fun x _ => sg_F_ga F hl) f
  have tin : ∀ (i : Nat) (x : Int), ((A.2.2.2.2.1 n).map T)[i]? = some x → kIn x := fun i x hx => by
    obtain ⟨y, hy, e⟩ := List.mem_map.mp (List.mem_of_getElem? hx)
    rw [← e]; exact hin y hy
  have l0 : ((A.2.2.2.2.1 n).map T).length = (A.2.2.2.2.1 n).length := by simp
  obtain ⟨ty, ety⟩ : ∃ ty, ty = (A.2.2.2.2.1 n).map T := ⟨_, rfl⟩
  rw [← ety] at g h5 tin l0
  have hgt : ∀ j, 0 ≤ ty.getD j 0 ∧ ty.getD j 0 ≤ 3 := fun j => by
    rw [List.getD_eq_getElem?_getD]
    cases e : ty[j]? with
    | none => simp
    | some y => exact tin j y e
  have g0 := hgt 0
  have g1 := hgt 1
  have a1 : 1 ≤ ty.length → fL σ (ty.getD 0 0).toNat L (sg_g σ 133 b) := fun h => by
    match e : ty, h, h5 with
    | x :: l, _, h5 => exact vF_0 h5
  have a2 : 2 ≤ ty.length → fL σ (ty.getD 1 0).toNat L (sg_g σ 133 (b + 1)) := fun h => by
    match e : ty, h, h5 with
    | x :: y :: l, _, h5 => exact vF_1 h5
  have act : 16 ≤ A.2.1 n → kAct (A.2.1 n) ty = some (T n) := fun h => by rw [← kTy_act h]; exact g
  obtain ⟨A0, hA0⟩ : ∃ A0, A0 = ty.getD 0 0 := ⟨_, rfl⟩
  obtain ⟨B0, hB0⟩ : ∃ B0, B0 = ty.getD 1 0 := ⟨_, rfl⟩
  rw [← hA0] at a1 g0
  rw [← hB0] at a2 g1
  simp only [kAct, ← hA0, ← hB0] at act
  unfold V_flatWorked
  rw [t1]
  refine ⟨⟨by omega, by omega⟩, ⟨by omega, by omega⟩, ⟨by omega, by omega⟩, hn, fun z => ?_, fun z0 => ⟨fun z => ?_, fun z11 => ⟨fun z => ?_, fun z12 => ⟨fun z => ?_, fun z14 => ⟨fun z => ?_, fun z16 => ⟨fun z => ?_, fun z17 => ⟨fun z => ?_, fun z18 => ⟨fun z => ?_, fun z19 => ⟨fun z => ?_, fun z20 => ⟨fun z => ?_, fun z21 => ⟨fun z => ?_, fun z22 => ⟨fun z => ?_, fun z23 => ⟨fun z => ?_, fun z24 => ⟨fun z => ?_, fun z25 => ⟨fun z => ?_, fun z26 => ⟨fun z => ?_, fun z27 => ?_⟩⟩⟩⟩⟩⟩⟩⟩⟩⟩⟩⟩⟩⟩⟩⟩
  · rw [kTy_0 z, Option.some.injEq] at g
    exact m_f0 hC hL hn hq (fun q σ' h F r f => done _ q σ' rfl F (by rw [← g]; exact h) r f)
  · rw [kTy_11 z, ← hA0] at g
    obtain ⟨e1, e2, e3⟩ := kIs_in g
    exact m_f11 hC (a1 (by have := w1.2.2.2.2.1 z; omega)) hq (fun q σ' h F r f => done _ q σ' rfl F (by rw [e1]; exact h) r f)
  · rw [kTy_12 z, ← hA0, ← hB0] at g
    obtain ⟨e1, e2, e3⟩ := kIs_in g
    simp only [Bool.and_eq_true, decide_eq_true_eq] at e3
    have l2 := w1.2.2.1 (Or.inr (Or.inr z))
    have u := a1 (by omega)
    rw [show A0.toNat = (T n).toNat + 1 by omega] at u
    unfold V_flatWorked_12
    exact m_fIndex hC u (a2 (by omega)) hq (fun q σ' h _ F r f => done _ q σ' rfl F h r f)
  · rw [kTy_14 z, ← hA0] at g
    obtain ⟨e1, e2, e3⟩ := kIs_in g
    rw [List.all_eq_true] at e3
    have m1 := w1.2.2.2.2.2.1 z
    unfold V_flatWorked_14
    refine m_fRow (m := (A.2.2.2.2.1 n).length) (K := A0.toNat) hC hn ⟨m1, t3⟩ t2 ⟨hb, by omega⟩ (fun k' hk' => ?_) (by omega) hq (fun q σ' h _ F r f => done _ q σ' rfl F (by rw [e1, show (A0 + 1).toNat = A0.toNat + 1 by omega]; exact h) r f)
    obtain ⟨x, hx⟩ : ∃ x, ty[k']? = some x := ⟨_, List.getElem?_eq_getElem (by omega)⟩
    have u := h5 k' x hx
    have := e3 x (List.mem_of_getElem? hx)
    rw [decide_eq_true_eq] at this
    rwa [this] at u
  · have c := act (by omega)
    simp only [z] at c
    obtain ⟨e1, e2, e3⟩ := kIs_in c
    simp only [Bool.and_eq_true, decide_eq_true_eq] at e3
    unfold V_flatWorked_16
    exact m_fIota hC (a1 (by omega)) hq (fun q σ' h _ F r f => done _ q σ' rfl F (by rw [e1]; exact h) r f)
  · have c := act (by omega)
    simp only [z] at c
    obtain ⟨e1, e2, e3⟩ := kIs_in c
    simp only [Bool.and_eq_true, decide_eq_true_eq] at e3
    unfold V_flatWorked_17
    exact m_fDist hC (a1 (by omega)) (by omega) (a2 (by omega)) hq (fun q σ' h _ F r f => done _ q σ' rfl F (by rw [e1, show (A0 + 1).toNat = A0.toNat + 1 by omega]; exact h) r f)
  · have c := act (by omega)
    simp only [z] at c
    obtain ⟨e1, e2, e3⟩ := kIs_in c
    simp only [Bool.and_eq_true, decide_eq_true_eq] at e3
    have u := a1 (by omega)
    rw [show A0.toNat = 1 by omega] at u
    unfold V_flatWorked_18
    refine m_fGone hC hn u hq (fun q σ' h _ F r f => done _ q σ' rfl F ?_ r f)
    rw [if_neg (by omega)] at h
    rw [e1]; exact h
  · have c := act (by omega)
    simp only [z] at c
    obtain ⟨e1, e2, e3⟩ := kIs_in c
    simp only [Bool.and_eq_true, decide_eq_true_eq] at e3
    have u := a1 (by omega)
    rw [show A0.toNat = 1 by omega] at u
    unfold V_flatWorked_18
    refine m_fGone hC hn u hq (fun q σ' h _ F r f => done _ q σ' rfl F ?_ r f)
    rw [if_neg (by omega)] at h
    rw [e1]; exact h
  · have c := act (by omega)
    simp only [z] at c
    obtain ⟨e1, e2, e3⟩ := kIs_in c
    simp only [Bool.and_eq_true, decide_eq_true_eq] at e3
    have u := a1 (by omega)
    rw [show A0.toNat = 1 by omega] at u
    unfold V_flatWorked_18
    refine m_fGone hC hn u hq (fun q σ' h _ F r f => done _ q σ' rfl F ?_ r f)
    rw [if_neg (by omega)] at h
    rw [e1]; exact h
  · have c := act (by omega)
    simp only [z] at c
    obtain ⟨e1, e2, e3⟩ := kIs_in c
    simp only [Bool.and_eq_true, decide_eq_true_eq] at e3
    have u := a1 (by omega)
    rw [show A0.toNat = 1 by omega] at u
    unfold V_flatWorked_18
    refine m_fGone hC hn u hq (fun q σ' h _ F r f => done _ q σ' rfl F ?_ r f)
    rw [if_pos (by omega)] at h
    rw [e1]; exact h
  · have c := act (by omega)
    simp only [z] at c
    obtain ⟨e1, e2, e3⟩ := kIs_in c
    simp only [Bool.and_eq_true, decide_eq_true_eq] at e3
    have u := a1 (by omega)
    rw [show A0.toNat = (A0.toNat - 1) + 1 by omega] at u
    unfold V_flatWorked_22
    exact m_fRev hC u hq (fun q σ' h _ F r f => done _ q σ' rfl F (by rw [e1, show A0.toNat = (A0.toNat - 1) + 1 by omega]; exact h) r f)
  · have c := act (by omega)
    simp only [z] at c
    obtain ⟨e1, e2, e3⟩ := kIs_in c
    simp only [Bool.and_eq_true, decide_eq_true_eq] at e3
    have u := a1 (by omega)
    have v := a2 (by omega)
    rw [show A0.toNat = (A0.toNat - 1) + 1 by omega] at u
    rw [show B0.toNat = (A0.toNat - 1) + 1 by omega] at v
    unfold V_flatWorked_23
    exact m_fCat hC u v ⟨by omega, by omega⟩ hq (fun q σ' h hx _ F r f => k q σ' r (by rw [e1, show A0.toNat = (A0.toNat - 1) + 1 by omega]; exact h) hx f)
  · have c := act (by omega)
    simp only [z] at c
    obtain ⟨e1, e2, e3⟩ := kIs_in c
    simp only [Bool.and_eq_true, decide_eq_true_eq] at e3
    have u := a1 (by omega)
    rw [show A0.toNat = (A0.toNat - 2) + 2 by omega] at u
    unfold V_flatWorked_24
    exact m_fFlat hC u hq (fun q σ' h _ F r f => done _ q σ' rfl F (by rw [e1, show (A0 - 1).toNat = (A0.toNat - 2) + 1 by omega]; exact h) r f)
  · have c := act (by omega)
    simp only [z] at c
    obtain ⟨e1, e2, e3⟩ := kIs_in c
    simp only [Bool.and_eq_true, decide_eq_true_eq] at e3
    have u := a1 (by omega)
    have v := a2 (by omega)
    rw [show A0.toNat = (A0.toNat - 1) + 1 by omega] at u
    rw [show B0.toNat = 1 by omega] at v
    unfold V_flatWorked_25
    exact m_fChosen hC hn u v hq (fun q σ' h _ F r f => done _ q σ' rfl F (by rw [e1, show A0.toNat = (A0.toNat - 1) + 1 by omega]; exact h) r f)
  · have c := act (by omega)
    simp only [z] at c
    obtain ⟨e1, e2, e3⟩ := kIs_in c
    simp only [Bool.and_eq_true, decide_eq_true_eq] at e3
    have u := a1 (by omega)
    have v := a2 (by omega)
    rw [show A0.toNat = (A0.toNat - 1) + 1 by omega] at u
    rw [show B0.toNat = 1 by omega] at v
    unfold V_flatWorked_25
    exact m_fChosen hC hn u v hq (fun q σ' h _ F r f => done _ q σ' rfl F (by rw [e1, show A0.toNat = (A0.toNat - 1) + 1 by omega]; exact h) r f)
  · have c := act (by omega)
    simp only [z] at c
    obtain ⟨e1, e2, e3⟩ := kIs_in c
    simp only [Bool.and_eq_true, decide_eq_true_eq] at e3
    have u := a1 (by omega)
    have v := a2 (by omega)
    rw [show A0.toNat = (A0.toNat - 1) + 1 by omega] at u
    rw [show B0.toNat = 1 by omega] at v
    unfold V_flatWorked_27
    exact m_fPart hC u (by omega) v hq (fun q σ' h _ F r f => done _ q σ' rfl F (by rw [e1, show (A0 + 1).toNat = (A0.toNat - 1) + 2 by omega]; exact h) r f)
  · have w0 := w1.1
    have kk : 4 ≤ A.2.1 n ∧ A.2.1 n < 11 := by omega
    rw [kTy_op kk, ← hA0, ← hB0] at g
    obtain ⟨e1, e2, e3⟩ := kIs_in g
    have l2 := w1.2.2.1 (Or.inr (Or.inl ⟨kk.1, by omega⟩))
    exact m_fd hC hn (a1 (by omega)) (a2 (by omega)) hq (fun q σ' h F r f => done _ q σ' rfl F (by rw [e1]; exact h) r f)
end FS
/-! WHAT A FLAT RUN KEEPS: nodes with their trees, binders they may bind, binders in scope. -/
theorem fT_mem {A : aT} {x : Int} {R L : List Int} (hx : x ∈ R) (h : fT A R L) : ∃ L', fT A [x] L' ∧ (∀ y ∈ L', y ∈ L) ∧ (L.Nodup → L'.Nodup) := by
  obtain ⟨R1, R2, e⟩ := List.append_of_mem hx
  subst e
  obtain ⟨La, Lb, e1, f1, f2⟩ := fT_spl R1 (x :: R2) L h
  obtain ⟨Lc, Ld, e2, f3, f4⟩ := fT_spl [x] R2 Lb f2
  subst e2
  subst e1
  refine ⟨Lc, f3, fun y hy => by simp [hy], fun n => ?_⟩
  exact (List.nodup_append.mp (List.nodup_append.mp n).2.1).1
theorem fT_in {A : aT} {R L : List Int} (h : fT A R L) : ∀ y ∈ L, ∃ z ∈ R, ∃ L', fT A [z] L' ∧ y ∈ L' ∧ ∀ w ∈ L', w ∈ L := by
  refine fT_ind (M := fun R L => ∀ y ∈ L, ∃ z ∈ R, ∃ L', fT A [z] L' ∧ y ∈ L' ∧ ∀ w ∈ L', w ∈ L) (fun y hy => by cases hy) (fun n ns L1 L2 hw h1 h2 _ ih2 y hy => ?_) h
  rcases List.mem_cons.mp hy with e | e
  · exact ⟨n, by simp, n :: L1, fT_one hw h1, by simp [e], fun w hw => by rcases List.mem_cons.mp hw with q | q <;> simp [q]⟩
  · rcases List.mem_append.mp e with e | e
    · exact ⟨n, by simp, n :: L1, fT_one hw h1, by simp [e], fun w hw => by rcases List.mem_cons.mp hw with q | q <;> simp [q]⟩
    · obtain ⟨z, z1, L', z2, z3, z4⟩ := ih2 y e
      exact ⟨z, by simp [z1], L', z2, z3, fun w hw => by simp [z4 w hw]⟩
/-- binder b belongs to a node of L -/
def insL (L : List Int) (b : Int) : Prop := (b < 210 ∧ b ∈ L) ∨ (210 ≤ b ∧ b < 1100 ∧ (b - 210) / 4 ∈ L)
theorem insL_s {L L' : List Int} {b : Int} (h : ∀ y ∈ L', y ∈ L) (a : insL L' b) : insL L b := by
  rcases a with ⟨a1, a2⟩ | ⟨a1, a2, a3⟩
  · exact Or.inl ⟨a1, h _ a2⟩
  · exact Or.inr ⟨a1, a2, h _ a3⟩
section FTS
variable {A : aT} {ds : kD} {T B : Int → Int}
theorem tyN_v (hA : A.1 ≤ 200) : ∀ (f : Nat) (sc : List (Int × Int)) (x : Int) (L : List Int), tyN A ds T B f sc x → fT A [x] L → ∀ y ∈ L, A.2.1 y = 1 → (B y, T y) ∈ sc ∨ insL L (B y)
  | 0, sc, x, L, h, _, _, _, _ => by cases h
  | f + 1, sc, x, L, h, hf, y, hy, ky => by
    obtain ⟨a1, a2, a3, a4, a5, a6, a7, a8, a9⟩ := h
    obtain ⟨L1, L2, e1, w1, w2, w3⟩ := fT_inv hf
    have e2 := fT_nil w3
    subst e2
    rw [List.append_nil] at e1
    subst e1
    rcases List.mem_cons.mp hy with e | e
    · rw [e] at ky ⊢
      exact Or.inl (a4 ky)
    · obtain ⟨z, z1, L', z2, z3, z4⟩ := fT_in w2 y e
      have sub : ∀ w ∈ L', w ∈ x :: L1 := fun w hw => by simp [z4 w hw]
      by_cases k2 : A.2.1 x = 2
      · obtain ⟨a, c, ea⟩ : ∃ a c, A.2.2.2.2.1 x = [a, c] := kid2 (a1.2.2.1 (Or.inl k2))
        obtain ⟨b1, b2⟩ := a7 k2 a c ea
        rw [ea] at z1
        rcases List.mem_cons.mp z1 with q | q
        · subst q
          rcases tyN_v hA f _ _ _ b1 z2 y z3 ky with r | r
          · exact Or.inl r
          · exact Or.inr (insL_s sub r)
        · have q' : z = c := by simpa using q
          subst q'
          rcases tyN_v hA f _ _ _ b2 z2 y z3 ky with r | r
          · rcases List.mem_cons.mp r with r | r
            · have : B y = x := by have := congrArg (·.1) r; exact this
              refine Or.inr (Or.inl ⟨by omega, by rw [this]; simp⟩)
            · exact Or.inl r
          · exact Or.inr (insL_s sub r)
      · by_cases k15 : A.2.1 x = 15
        · have l7 := a1.2.2.2.2.2.2.1 k15
          obtain ⟨bd, tl, ea⟩ : ∃ bd tl, A.2.2.2.2.1 x = bd :: tl := by
            cases e : A.2.2.2.2.1 x with
            | nil => rw [e] at l7; simp at l7; omega
            | cons p q => exact ⟨p, q, rfl⟩
          obtain ⟨b1, b2⟩ := a8 k15 bd tl ea
          rw [ea] at z1
          have hz : z ∈ tl.take (A.2.2.2.2.2 x).length ∨ z ∈ tl.drop (A.2.2.2.2.2 x).length ++ [bd] := by
            rcases List.mem_cons.mp z1 with q | q
            · exact Or.inr (by simp [q])
            · rw [← List.take_append_drop (A.2.2.2.2.2 x).length tl] at q
              rcases List.mem_append.mp q with q | q
              · exact Or.inl q
              · exact Or.inr (by simp [q])
          rcases hz with q | q
          · rcases tyN_v hA f _ _ _ (b1 z q).1 z2 y z3 ky with r | r
            · exact Or.inl r
            · exact Or.inr (insL_s sub r)
          · rcases tyN_v hA f _ _ _ (b2 z q) z2 y z3 ky with r | r
            · rcases List.mem_append.mp r with r | r
              · obtain ⟨i, u, hu, ep⟩ := gsc_m _ _ _ r
                have hi := lt_of_get hu
                rw [List.length_take] at hi
                have : B y = 210 + 4 * x + i := by
                  have := congrArg (·.1) ep
                  simp only at this
                  omega
                refine Or.inr (Or.inr ⟨by omega, by omega, ?_⟩)
                rw [show (B y - 210) / 4 = x by omega]
                simp
              · exact Or.inl r
            · exact Or.inr (insL_s sub r)
        · rcases tyN_v hA f _ _ _ (a9 k2 k15 z z1) z2 y z3 ky with r | r
          · exact Or.inl r
          · exact Or.inr (insL_s sub r)
theorem tyN_res : ∀ (f : Nat) (I sc sc' : List (Int × Int)) (x : Int) (L : List Int), tyN A ds T B f (I ++ sc) x → fT A [x] L → (∀ y ∈ L, A.2.1 y = 1 → ∀ p ∈ sc, p.1 = B y → p ∈ sc') → tyN A ds T B f (I ++ sc') x
  | 0, I, sc, sc', x, L, h, _, _ => h
  | f + 1, I, sc, sc', x, L, h, hf, hk => by
    obtain ⟨a1, a2, a3, a4, a5, a6, a7, a8, a9⟩ := h
    obtain ⟨L1, L2, e1, w1, w2, w3⟩ := fT_inv hf
    have e2 := fT_nil w3
    subst e2
    rw [List.append_nil] at e1
    subst e1
    have kid : ∀ z ∈ A.2.2.2.2.1 x, ∃ L', fT A [z] L' ∧ ∀ y ∈ L', A.2.1 y = 1 → ∀ p ∈ sc, p.1 = B y → p ∈ sc' := fun z hz => by
      obtain ⟨L', f1, f2, -⟩ := fT_mem hz w2
      exact ⟨L', f1, fun y hy => hk y (by simp [f2 y hy])⟩
    refine ⟨a1, a2, a3, fun z => ?_, a5, a6, fun z a b ea => ?_, fun z bd tl ea => ⟨fun y hy => ?_, fun y hy => ?_⟩, fun z1 z2 y hy => ?_⟩
    · rcases List.mem_append.mp (a4 z) with q | q
      · exact List.mem_append_left _ q
      · exact List.mem_append_right _ (hk x (by simp) z _ q rfl)
    · obtain ⟨La, fa, ka⟩ := kid a (by rw [ea]; simp)
      obtain ⟨Lb, fb, kb⟩ := kid b (by rw [ea]; simp)
      obtain ⟨b1, b2⟩ := a7 z a b ea
      exact ⟨tyN_res f I sc sc' a La b1 fa ka, tyN_res f ((x, T a) :: I) sc sc' b Lb b2 fb kb⟩
    · obtain ⟨Ly, fy, ky⟩ := kid y (by rw [ea]; exact List.mem_cons_of_mem _ (List.mem_of_mem_take hy))
      obtain ⟨b1, b2⟩ := (a8 z bd tl ea).1 y hy
      exact ⟨tyN_res f I sc sc' y Ly b1 fy ky, b2⟩
    · obtain ⟨Ly, fy, ky⟩ := kid y (by
        rw [ea]
        rcases List.mem_append.mp hy with q | q
        · exact List.mem_cons_of_mem _ (List.mem_of_mem_drop q)
        · have : y = bd := by simpa using q
          simp [this])
      have b2 := (a8 z bd tl ea).2 y hy
      rw [← List.append_assoc] at b2 ⊢
      exact tyN_res f _ sc sc' y Ly b2 fy ky
    · obtain ⟨Ly, fy, ky⟩ := kid y hy
      exact tyN_res f I sc sc' y Ly (a9 z1 z2 y hy) fy ky
end FTS
/-- binder b may be bound while a node of DEF j with tree L runs -/
def ow (lev : Int → Nat) (j : Nat) (L : List Int) (b : Int) : Prop := insL L b ∨ (b < 210 ∧ lev b < j) ∨ (210 ≤ b ∧ b < 1100 ∧ lev ((b - 210) / 4) < j) ∨ (1100 ≤ b ∧ (b - 1100) / 6 < j)
theorem ow_s {lev : Int → Nat} {j : Nat} {L L' : List Int} {b : Int} (h : ∀ y ∈ L', y ∈ L) (a : ow lev j L' b) : ow lev j L b := by
  rcases a with a | a
  · exact Or.inl (insL_s h a)
  · exact Or.inr a
theorem ow_d {lev : Int → Nat} {j d : Nat} {L L' : List Int} {b : Int} (hd : d < j) (h : ∀ y ∈ L', lev y = d) (a : ow lev d L' b) : ow lev j L b := by
  rcases a with a | a | a | a
  · rcases a with ⟨a1, a2⟩ | ⟨a1, a2, a3⟩
    · exact Or.inr (Or.inl ⟨a1, by rw [h _ a2]; exact hd⟩)
    · exact Or.inr (Or.inr (Or.inl ⟨a1, a2, by rw [h _ a3]; exact hd⟩))
  · exact Or.inr (Or.inl ⟨a.1, by omega⟩)
  · exact Or.inr (Or.inr (Or.inl ⟨a.1, a.2.1, by omega⟩))
  · exact Or.inr (Or.inr (Or.inr ⟨a.1, by omega⟩))
/-- a binder's number -/
def rb (A : aT) (b : Int) : Prop := (0 ≤ b ∧ b < 1200) ∧ (b < 210 → b < A.1) ∧ (210 ≤ b → b < 1100 → (b - 210) / 4 < A.1)
section FTD
variable (A : aT) (D : List aDf) (T B : Int → Int) (lev : Int → Nat)
def stN (j f : Nat) (L : List Int) (sc : List (Int × Int)) (x : Int) : Prop := tyN A (kDl (D.take j) []) T B f sc x ∧ fT A [x] L ∧ L.Nodup ∧ (∀ y ∈ L, (0 ≤ y ∧ y < A.1) ∧ lev y = j) ∧ ∀ p ∈ sc, rb A p.1 ∧ ¬ ow lev j L p.1
/-- each tree has its DEF's number -/
def lvP (d : Nat) (r : Int) : Prop := (∀ (j : Nat) (x : aDf), D[j]? = some x → ∃ L, fT A [x.2.2.2] L ∧ L.Nodup ∧ ∀ y ∈ L, (0 ≤ y ∧ y < A.1) ∧ lev y = d + j) ∧ ∃ L, fT A [r] L ∧ L.Nodup ∧ ∀ y ∈ L, (0 ≤ y ∧ y < A.1) ∧ lev y = d + D.length
end FTD
section FTE
variable {A : aT} {T B : Int → Int} {lev : Int → Nat}
theorem lv_ex {r : Int} : ∀ (D : List aDf) (d : Nat) (La : List Int), fT A (aRt D ++ [r]) La → La.Nodup → (∀ y ∈ La, 0 ≤ y ∧ y < A.1) → ∃ lev : Int → Nat, (∀ (j : Nat) (x : aDf), D[j]? = some x → ∃ L, fT A [x.2.2.2] L ∧ L.Nodup ∧ ∀ y ∈ L, y ∈ La ∧ lev y = d + j) ∧ ∃ L, fT A [r] L ∧ L.Nodup ∧ ∀ y ∈ L, y ∈ La ∧ lev y = d + D.length
  | [], d, La, hf, hn, hr => ⟨fun _ => d, fun j x h => (by cases h), La, hf, hn, fun y hy => ⟨hy, rfl⟩⟩
  | x :: D, d, La, hf, hn, hr => by
    obtain ⟨L1, L2, e, f1, f2⟩ := fT_spl [x.2.2.2] (aRt D ++ [r]) La hf
    subst e
    have nd := List.nodup_append.mp hn
    obtain ⟨lev, h1, L, h2, h3, h4⟩ := lv_ex D (d + 1) L2 f2 nd.2.1 (fun y hy => hr y (by simp [hy]))
    have nl : ∀ y, y ∈ L2 → y ∉ L1 := fun y a b => nd.2.2 y b y a rfl
    refine ⟨fun y => if y ∈ L1 then d else lev y, fun j y hj => ?_, L, h2, h3, fun y hy => ?_⟩
    · cases j with
      | zero =>
        simp only [List.getElem?_cons_zero, Option.some.injEq] at hj
        subst hj
        exact ⟨L1, f1, nd.1, fun z hz => ⟨by simp [hz], by simp [hz]⟩⟩
      | succ j =>
        obtain ⟨L', g1, g2, g3⟩ := h1 j y hj
        refine ⟨L', g1, g2, fun z hz => ⟨by simp [(g3 z hz).1], ?_⟩⟩
        simp only
        rw [if_neg (nl z (g3 z hz).1), (g3 z hz).2]
        omega
    · refine ⟨by simp [(h4 y hy).1], ?_⟩
      simp only
      rw [if_neg (nl y (h4 y hy).1), (h4 y hy).2]
      simp only [List.length_cons]
      omega
theorem lvP_ex {D : List aDf} {r : Int} (h : frA A (aRt D ++ [r])) : ∃ lev, lvP A D lev 0 r := by
  obtain ⟨La, h1, h2, h3, -⟩ := h
  obtain ⟨lev, g1, L, g2, g3, g4⟩ := lv_ex D 0 La h1 h2 h3
  refine ⟨lev, fun j x hj => ?_, L, g2, g3, fun y hy => ⟨h3 y (g4 y hy).1, (g4 y hy).2⟩⟩
  obtain ⟨L', k1, k2, k3⟩ := g1 j x hj
  exact ⟨L', k1, k2, fun y hy => ⟨h3 y (k3 y hy).1, (k3 y hy).2⟩⟩
end FTE
/-! parts of a node, with their trees and scopes. -/
section FU
variable {A : aT} {D : List aDf} {T B : Int → Int} {lev : Int → Nat}
theorem stN_w {j f : Nat} {L : List Int} {sc : List (Int × Int)} {x : Int} (h : stN A D T B lev j f L sc x) : nW A x ∧ (0 ≤ x ∧ x < A.1) ∧ kIn (T x) ∧ (A.2.1 x = 1 → (B x, T x) ∈ sc) ∧ (¬ A.2.1 x = 1 → kTy A (kDl (D.take j) []) T [] x ((A.2.2.2.2.1 x).map T) = some (T x)) ∧ (A.2.1 x = 13 → kDx (kDl (D.take j) []) (A.2.2.2.1 x) = some (B x)) := by
  obtain ⟨h1, -⟩ := h
  cases f with
  | zero => cases h1
  | succ f => exact ⟨h1.1, h1.2.1, h1.2.2.1, h1.2.2.2.1, h1.2.2.2.2.1, h1.2.2.2.2.2.1⟩
/-- a part of x, with its own tree -/
theorem stN_sub {j f : Nat} {L : List Int} {sc sc' : List (Int × Int)} {x z : Int} (h : stN A D T B lev j f L sc x) (hz : z ∈ A.2.2.2.2.1 x) (f' : Nat) (ht : tyN A (kDl (D.take j) []) T B f' sc' z) (hs : ∀ p ∈ sc', p ∈ sc ∨ (rb A p.1 ∧ ((p.1 = x ∧ p.1 < 210) ∨ (210 ≤ p.1 ∧ p.1 < 1100 ∧ (p.1 - 210) / 4 = x)))) : ∃ L', stN A D T B lev j f' L' sc' z ∧ (∀ y ∈ L', y ∈ L) ∧ x ∉ L' := by
  obtain ⟨h1, h2, h3, h4, h5⟩ := h
  obtain ⟨L1, L2, e1, w1, w2, w3⟩ := fT_inv h2
  have e2 := fT_nil w3
  subst e2
  rw [List.append_nil] at e1
  subst e1
  obtain ⟨L', g1, g2, g3⟩ := fT_mem hz w2
  have nx := (List.nodup_cons.mp h3).1
  have n1 := (List.nodup_cons.mp h3).2
  have lx := h4 x (by simp)
  have sub : ∀ y ∈ L', y ∈ x :: L1 := fun y hy => by simp [g2 y hy]
  have xn : x ∉ L' := fun z => nx (g2 x z)
  refine ⟨L', ⟨ht, g1, g3 n1, fun y hy => h4 y (sub y hy), fun p hp => ?_⟩, sub, xn⟩
  rcases hs p hp with q | ⟨q1, q2⟩
  · obtain ⟨a, b⟩ := h5 p q
    exact ⟨a, fun o => b (ow_s sub o)⟩
  · refine ⟨q1, fun o => ?_⟩
    rcases q2 with ⟨q2, q3⟩ | ⟨q2, q3, q4⟩
    · rcases o with o | o | o | o
      · rcases o with ⟨o1, o2⟩ | ⟨o1, o2, o3⟩
        · rw [q2] at o2; exact xn o2
        · omega
      · have := o.2; rw [q2, lx.2] at this; omega
      · omega
      · omega
    · rcases o with o | o | o | o
      · rcases o with ⟨o1, o2⟩ | ⟨o1, o2, o3⟩
        · omega
        · rw [q4] at o3; exact xn o3
      · omega
      · have := o.2.2; rw [q4, lx.2] at this; omega
      · omega
theorem stN_kid {j f : Nat} {L : List Int} {sc : List (Int × Int)} {x z : Int} (h : stN A D T B lev j f L sc x) (k2 : ¬ A.2.1 x = 2) (k15 : ¬ A.2.1 x = 15) (hz : z ∈ A.2.2.2.2.1 x) : ∃ f' L', stN A D T B lev j f' L' sc z ∧ ∀ y ∈ L', y ∈ L := by
  have h1 := h.1
  cases f with
  | zero => cases h1
  | succ f =>
    obtain ⟨L', a, b, -⟩ := stN_sub h hz f (h1.2.2.2.2.2.2.2.2 k2 k15 z hz) (fun p hp => Or.inl hp)
    exact ⟨f, L', a, b⟩
theorem stN_let {j f : Nat} {L : List Int} {sc : List (Int × Int)} {x a c : Int} (hA : A.1 ≤ 200) (h : stN A D T B lev j f L sc x) (k2 : A.2.1 x = 2) (ea : A.2.2.2.2.1 x = [a, c]) : (∃ f' L', stN A D T B lev j f' L' sc a ∧ ∀ y ∈ L', y ∈ L) ∧ ∃ f' L', stN A D T B lev j f' L' ((x, T a) :: sc) c ∧ ∀ y ∈ L', y ∈ L := by
  have h1 := h.1
  cases f with
  | zero => cases h1
  | succ f =>
    obtain ⟨b1, b2⟩ := h1.2.2.2.2.2.2.1 k2 a c ea
    have hx := h1.2.1
    obtain ⟨L', p1, p2, -⟩ := stN_sub h (z := a) (by rw [ea]; simp) f b1 (fun p hp => Or.inl hp)
    obtain ⟨L2, q1, q2, -⟩ := stN_sub h (z := c) (sc' := (x, T a) :: sc) (by rw [ea]; simp) f b2 (fun p hp => by
      rcases List.mem_cons.mp hp with e | e
      · rw [e]; exact Or.inr ⟨⟨⟨hx.1, by simp only; omega⟩, fun _ => hx.2, fun z => by simp only at z; omega⟩, Or.inl ⟨rfl, by simp only; omega⟩⟩
      · exact Or.inl e)
    exact ⟨⟨f, L', p1, p2⟩, f, L2, q1, q2⟩
theorem stN_each {j f : Nat} {L : List Int} {sc : List (Int × Int)} {x bd : Int} {tl : List Int} (hA : A.1 ≤ 200) (h : stN A D T B lev j f L sc x) (k15 : A.2.1 x = 15) (ea : A.2.2.2.2.1 x = bd :: tl) : (∀ z ∈ tl.take (A.2.2.2.2.2 x).length, (∃ f' L', stN A D T B lev j f' L' sc z ∧ ∀ y ∈ L', y ∈ L) ∧ 0 < T z) ∧ ∀ z ∈ tl.drop (A.2.2.2.2.2 x).length ++ [bd], ∃ f' L', stN A D T B lev j f' L' (gsc x T 0 (tl.take (A.2.2.2.2.2 x).length) ++ sc) z ∧ (∀ y ∈ L', y ∈ L) ∧ x ∉ L' := by
  have h1 := h.1
  cases f with
  | zero => cases h1
  | succ f =>
    obtain ⟨b1, b2⟩ := h1.2.2.2.2.2.2.2.1 k15 bd tl ea
    have hx := h1.2.1
    have l7 := (h1.1.2.2.2.2.2.2.1 k15).2
    refine ⟨fun z hz => ⟨?_, (b1 z hz).2⟩, fun z hz => ?_⟩
    · obtain ⟨L', p1, p2, -⟩ := stN_sub h (z := z) (by rw [ea]; exact List.mem_cons_of_mem _ (List.mem_of_mem_take hz)) f (b1 z hz).1 (fun p hp => Or.inl hp)
      exact ⟨f, L', p1, p2⟩
    · obtain ⟨L', p1, p2, p3⟩ := stN_sub h (z := z) (sc' := gsc x T 0 (tl.take (A.2.2.2.2.2 x).length) ++ sc) (by
        rw [ea]
        rcases List.mem_append.mp hz with q | q
        · exact List.mem_cons_of_mem _ (List.mem_of_mem_drop q)
        · have : z = bd := by simpa using q
          simp [this]) f (b2 z hz) (fun p hp => by
        rcases List.mem_append.mp hp with q | q
        · obtain ⟨i, u, hu, ep⟩ := gsc_m _ _ _ q
          have hi := lt_of_get hu
          rw [List.length_take] at hi
          have e1 : p.1 = 210 + 4 * x + i := by rw [ep]; simp only; omega
          exact Or.inr ⟨⟨⟨by omega, by omega⟩, fun z => by omega, fun _ _ => by omega⟩, Or.inr ⟨by omega, by omega, by omega⟩⟩
        · exact Or.inl q)
      exact ⟨f, L', p1, p2, p3⟩
/-- less may be in scope -/
theorem stN_res {j f : Nat} {L : List Int} {I sc sc' : List (Int × Int)} {x : Int} (h : stN A D T B lev j f L (I ++ sc) x) (hk : ∀ y ∈ L, A.2.1 y = 1 → ∀ p ∈ sc, p.1 = B y → p ∈ sc') (hs : ∀ p ∈ sc', p ∈ sc) : stN A D T B lev j f L (I ++ sc') x := by
  obtain ⟨h1, h2, h3, h4, h5⟩ := h
  refine ⟨tyN_res f I sc sc' x L h1 h2 hk, h2, h3, h4, fun p hp => h5 p ?_⟩
  rcases List.mem_append.mp hp with q | q
  · exact List.mem_append_left _ q
  · exact List.mem_append_right _ (hs p q)
theorem stN_v {j f : Nat} {L : List Int} {sc : List (Int × Int)} {x : Int} (hA : A.1 ≤ 200) (h : stN A D T B lev j f L sc x) {y : Int} (hy : y ∈ L) (ky : A.2.1 y = 1) : ((B y, T y) ∈ sc ∧ ¬ insL L (B y)) ∨ insL L (B y) := by
  rcases tyN_v hA f sc x L h.1 h.2.1 y hy ky with q | q
  · exact Or.inl ⟨q, fun z => (h.2.2.2.2 _ q).2 (Or.inl z)⟩
  · exact Or.inr q
/-- the tree of a DEF that is called -/
theorem stN_call {σ : sg_S} {j f : Nat} {L : List Int} {sc : List (Int × Int)} {x r : Int} (hX : pgX σ A D T B) (hlv : lvP A D lev 0 r) (h : stN A D T B lev j f L sc x) (k13 : A.2.1 x = 13) (h12 : D.length ≤ 12) (h6 : ∀ (d : Nat) (y : aDf), D[d]? = some y → y.2.2.1.length ≤ 6) : ∃ (d : Nat) (y : aDf) (L' : List Int), B x = d ∧ D[d]? = some y ∧ d < j ∧ stN A D T B lev d 201 L' (scZ (kPe y) (kPb d 0 y.2.2.1 [])) y.2.2.2 ∧ (∀ b, ow lev d L' b → ow lev j L b) ∧ (A.2.2.2.2.1 x).map T = y.2.2.1.map (·.2.2) ∧ T x = T y.2.2.2 ∧ ∀ p ∈ scZ (kPe y) (kPb d 0 y.2.2.1 []), ∃ (k : Nat) (u : Int × Int × Int), y.2.2.1[k]? = some u ∧ p = (1100 + 6 * (d : Int) + (k : Int), u.2.2) := by
  obtain ⟨w1, w2, w3, w4, w5, w6⟩ := stN_w h
  have g := w5 (by omega)
  have gx := w6 k13
  rw [kTy_c k13] at g
  cases hd : kDef (kDl (D.take j) []) (A.2.2.2.1 x) with
  | none => rw [hd] at g; cases g
  | some v =>
    obtain ⟨d0, y, hy, ev⟩ := kD_at gx hd
    have dj : B x < j := by
      obtain ⟨q1, c, q2, q3⟩ := kDx_at _ _ _ _ gx hd
      have q4 := lt_of_get q2
      rw [List.length_reverse] at q4
      have : (kDl (D.take j) []).length = (D.take j).length := by
        have := congrArg List.length (kDl_rev (D.take j) [])
        simpa using this
      rw [this, List.length_take] at q4
      omega
    rw [hd] at g
    simp only at g
    rw [ev] at g
    obtain ⟨g1, g2, g3⟩ := kIs_in g
    obtain ⟨L', l1, l2, l3⟩ := hlv.1 (B x).toNat y hy
    have bd : B x = ((B x).toNat : Int) := by omega
    have dl := lt_of_get hy
    have ty := hX.2.2.2.2.2 (B x).toNat y hy
    have pr : ∀ p ∈ scZ (kPe y) (kPb ((B x).toNat : Int) 0 y.2.2.1 []), ∃ (k : Nat) (u : Int × Int × Int), y.2.2.1[k]? = some u ∧ p = (1100 + 6 * ((B x).toNat : Int) + k, u.2.2) := fun p hp => by
      have hp' : p ∈ scZ (y.2.2.1.reverse.map (fun p => (p.1, p.2.2)) ++ []) (kPb ((B x).toNat : Int) 0 y.2.2.1 []) := by rw [List.append_nil]; exact hp
      rcases scZ_p y.2.2.1 0 [] [] p hp' with ⟨k, u, a, b⟩ | q
      · exact ⟨k, u, a, by rw [b]; simp⟩
      · cases q
    refine ⟨(B x).toNat, y, L', bd, hy, by omega, ⟨ty, l1, l2, fun z hz => ⟨(l3 z hz).1, by have := (l3 z hz).2; omega⟩, fun p hp => ?_⟩, fun b hb => ow_d (by omega) (fun z hz => by have := (l3 z hz).2; omega) hb, ?_, ?_, pr⟩
    · obtain ⟨k, u, a, b⟩ := pr p hp
      have k6 := lt_of_get a
      have l6 := h6 _ _ hy
      have e1 : p.1 = 1100 + 6 * ((B x).toNat : Int) + k := by rw [b]
      refine ⟨⟨⟨by omega, by omega⟩, fun z => by omega, fun _ z => by omega⟩, fun o => ?_⟩
      rcases o with o | o | o | o
      · rcases o with o | o <;> omega
      · omega
      · omega
      · omega
    · have := g3
      simpa using this
    · exact g1
end FU
/-! which names come from outside a part: clearInside, markInside, outsider, gatherOutside. -/
theorem dvi {a : Int} (ha : 0 ≤ a ∧ a ≤ 1000000000) : (sg_i a / sg_i 4).toInt = a / 4 := by
  have e1 : (sg_i a).toInt = a := sg_id (z := a) ⟨by omega, by omega⟩
  have e2 : (sg_i 4).toInt = 4 := by decide
  rw [Int32.toInt_div, e1, e2, Int.tdiv_eq_ediv_of_nonneg ha.1, Int.bmod_eq_of_le (by omega) (by omega)]
/-- just the nodes of L are inside -/
def iM (σ : sg_S) (A : aT) (L : List Int) : Prop := ∀ k, 0 ≤ k → k < A.1 → (k ∈ L → sg_g σ 120 k = 1) ∧ (k ∉ L → sg_g σ 120 k = 0)
section FV
variable {A : aT} {σ : sg_S}
theorem m_clear {Q : sg_S → Prop} (h8 : sg_g σ 88 8 = A.1) (hA : 0 ≤ A.1 ∧ A.1 ≤ 200) (k : ∀ σ', iM σ' A [] → sg_g σ' 88 46 = 0 → sg_F [120, 47088] σ σ' → Q σ') : V_clearInside σ Q := by
  unfold V_clearInside
  intro σ1 e1
  have f1 : sg_F [47088] σ σ1 := by rw [e1]; exact sg_F_w (sg_F_r _ _) rfl _
  rw [h8]
  refine ⟨fun n x σ5 => n = (A.1 - x).toNat ∧ (0 ≤ x ∧ x ≤ A.1) ∧ ∀ j, 0 ≤ j → j < x → sg_g σ5 120 j = 0, fun σ5 => ∀ j, 0 ≤ j → j < A.1 → sg_g σ5 120 j = 0, ⟨_, rfl, ⟨by omega, by omega⟩, fun j a b => by omega⟩, ?_, fun σ5 f5 h5 => k σ5 (fun j a b => ⟨fun z => (by cases z), fun _ => h5 j a b⟩) ?_ (sg_F_t (sg_F_m f1 rfl) (sg_F_m f5 rfl))⟩
  · rintro n x σ5 rx f5 ⟨en, hx, h5⟩
    refine ⟨fun z j a b => h5 j a (by omega), fun z => ⟨⟨by omega, by omega⟩, fun σ6 e6 => ⟨⟨by omega, by omega⟩, _, by omega, rfl, ⟨by omega, by omega⟩, fun j a b => ?_⟩⟩⟩
    by_cases c : j = x
    · rw [c, e6, sg_gw_e _ _ _ _ ⟨by decide, by decide⟩]
    · rw [e6, sg_gw_k _ _ _ _ _ _ c]; exact h5 j a (by omega)
  · rw [sg_F_g f5 (by rfl), e1, sg_gw_e _ _ _ _ ⟨by decide, by decide⟩]
theorem m_mark {x : Int} {L0 L : List Int} {Q : sg_S → Prop} (hP : trT σ A) (hA : A.1 ≤ 200) (hi : iM σ A L0) (hf : fT A [x] L) (hn : L.Nodup) (hr : ∀ y ∈ L, 0 ≤ y ∧ y < A.1) (k : ∀ σ', iM σ' A (L0 ++ L) → sg_F [120, 121, 50088] σ σ' → Q σ') : V_markInside σ x Q := by
  have Ll : L.length ≤ 200 := by
    have := ndl 200 L hn (fun y hy => by have := hr y hy; omega)
    exact this
  unfold V_markInside
  intro σ1 e1 σ4 e4
  have f4 : sg_F [121, 50088] σ σ4 := by rw [e4, e1]; exact sg_F_w (sg_F_w (sg_F_r _ _) rfl _) rfl _
  have hx := hr x (fT_sub hf x (by simp))
  refine ⟨fun n σ7 => ∃ P Lr : List Int, n = Lr.length ∧ sg_g σ7 88 49 = P.length ∧ (∀ (i : Nat) (y : Int), P[i]? = some y → sg_g σ7 121 i = y) ∧ fT A P Lr ∧ (∀ y ∈ Lr, y ∈ L) ∧ Lr.length ≤ 200 ∧ ∀ j, 0 ≤ j → j < A.1 → (j ∈ L0 ∨ (j ∈ L ∧ j ∉ Lr) → sg_g σ7 120 j = 1) ∧ (j ∉ L0 → j ∉ L → sg_g σ7 120 j = 0), fun σ7 => iM σ7 A (L0 ++ L), ⟨_, [x], L, rfl, ?_, ?_, hf, fun y hy => hy, Ll, fun j a b => ⟨fun z => ?_, fun z1 z2 => ?_⟩⟩, ?_, fun σ7 f7 h7 => k σ7 h7 (sg_F_t (sg_F_m f4 rfl) f7)⟩
  · rw [e4, sg_gw_c _ _ _ _ _ _ (by decide), e1, sg_gw_e _ _ _ _ ⟨by decide, by decide⟩]; rfl
  · intro i y hy
    have : i = 0 := by have := lt_of_get hy; simp at this; omega
    subst this
    cases hy
    rw [e4]
    exact sg_gw_e _ _ _ _ ⟨by omega, by omega⟩
  · rcases z with z | z
    · rw [sg_F_ga f4 rfl]; exact (hi j a b).1 z
    · exact absurd z.1 z.2
  · rw [sg_F_ga f4 rfl]; exact (hi j a b).2 z1
  · rintro n σ7 f7 ⟨P, Lr, en, h1, h2, h3, h4, h5, h6⟩
    refine ⟨fun z => ?_, fun z => ?_⟩
    · have : P = [] := List.eq_nil_of_length_eq_zero (by omega)
      subst this
      have := fT_nil h3
      subst this
      intro j a b
      refine ⟨fun z => ?_, fun z => ?_⟩
      · rcases List.mem_append.mp z with q | q
        · exact (h6 j a b).1 (Or.inl q)
        · exact (h6 j a b).1 (Or.inr ⟨q, fun w => by cases w⟩)
      · exact (h6 j a b).2 (fun w => z (by simp [w])) (fun w => z (by simp [w]))
    · have Pl := fT_len h3
      obtain ⟨P0, y, eP⟩ : ∃ P0 y, P = P0 ++ [y] := by
        rcases List.eq_nil_or_concat P with q | ⟨a, b, q⟩
        · rw [q] at h1; simp at h1; omega
        · exact ⟨a, b, by rw [q, List.concat_eq_append]⟩
      subst eP
      obtain ⟨La, Ly, e3, g1, g2⟩ := fT_spl P0 [y] Lr h3
      subst e3
      obtain ⟨L1, L2, e5, w1, w2, w3⟩ := fT_inv g2
      have e6 := fT_nil w3
      subst e6
      rw [List.append_nil] at e5
      subst e5
      have hy := hr y (h4 y (by simp))
      simp only [List.length_append, List.length_cons, List.length_nil] at h1 Pl h5 en
      have top : sg_g σ7 121 (sg_g σ7 88 49 - 1) = y := by
        have := h2 P0.length y (by rw [List.getElem?_append_right (Nat.le_refl _)]; simp)
        rw [h1, show ((P0.length + (0 + 1) : Nat) : Int) - 1 = (P0.length : Int) by omega]
        exact this
      rw [top]
      obtain ⟨t1, t2, t3, t4, t5⟩ := tr_k hP hy
      have fl := fT_len (fT_app g1 w2)
      simp only [List.length_append] at fl
      refine ⟨⟨by omega, by omega⟩, fun σ8 e8 => ⟨⟨by omega, by omega⟩, ⟨by omega, by omega⟩, fun σ9 e9 => ?_⟩⟩
      rw [t2]
      have f9 : sg_F [120, 50088] σ7 σ9 := by rw [e9, e8]; exact sg_F_w (sg_F_w (sg_F_r _ _) rfl _) rfl _
      have g9 : sg_g σ9 88 49 = P0.length := by rw [e9, sg_gw_c _ _ _ _ _ _ (by decide), e8, sg_gw_e _ _ _ _ ⟨by omega, by omega⟩]; omega
      refine ⟨fun m v σ5 => m = ((A.2.2.2.2.1 y).length - v).toNat ∧ (0 ≤ v ∧ v ≤ (A.2.2.2.2.1 y).length) ∧ sg_g σ5 88 49 = P0.length + v ∧ ∀ (i : Nat) (u : Int), (P0 ++ (A.2.2.2.2.1 y).take v.toNat)[i]? = some u → sg_g σ5 121 i = u, fun σ5 => sg_g σ5 88 49 = P0.length + (A.2.2.2.2.1 y).length ∧ ∀ (i : Nat) (u : Int), (P0 ++ A.2.2.2.2.1 y)[i]? = some u → sg_g σ5 121 i = u, ⟨_, rfl, ⟨by omega, by omega⟩, by omega, fun i u hu => ?_⟩, ?_, ?_⟩
      · rw [sg_F_ga f9 rfl]
        simp only [show (0 : Int).toNat = 0 by rfl, List.take_zero, List.append_nil] at hu
        exact h2 i u (by rw [List.getElem?_append_left (lt_of_get hu)]; exact hu)
      · rintro m v σ5 rv f5 ⟨en', hv, q1, q2⟩
        refine ⟨fun c => ⟨by omega, fun i u hu => q2 i u (by rw [List.take_of_length_le (by omega)]; exact hu)⟩, fun c => ?_⟩
        obtain ⟨u, hu⟩ : ∃ q, (A.2.2.2.2.1 y)[v.toNat]? = some q := ⟨_, List.getElem?_eq_getElem (by omega)⟩
        have tu := t4 v.toNat u hu
        rw [show 200 * y + ((v.toNat : Nat) : Int) = 200 * y + v by omega] at tu
        rw [tu]
        refine ⟨⟨by omega, by omega⟩, ⟨by omega, by omega⟩, ⟨by omega, by omega⟩, ⟨by omega, by omega⟩, fun σ6 e6 => ⟨⟨by omega, by omega⟩, fun σ3 e3 => ⟨⟨by omega, by omega⟩, _, by omega, rfl, ⟨by omega, by omega⟩, ?_, fun i w hw => ?_⟩⟩⟩
        · rw [e3, sg_gw_e _ _ _ _ ⟨by omega, by omega⟩]; omega
        · have ur : sg_R u := by rw [← tu]; exact sg_Rg _ _ _
          rw [show (v + 1).toNat = v.toNat + 1 by omega, List.take_add_one, hu] at hw
          simp only [Option.toList_some] at hw
          rw [← List.append_assoc] at hw
          have ll : (P0 ++ (A.2.2.2.2.1 y).take v.toNat).length = P0.length + v.toNat := by rw [List.length_append, List.length_take]; omega
          by_cases ci : i < P0.length + v.toNat
          · rw [List.getElem?_append_left (by omega)] at hw
            rw [e3, sg_gw_c _ _ _ _ _ _ (by decide), e6, sg_gw_k _ _ _ _ _ _ (by omega)]
            exact q2 i w hw
          · have hi' := lt_of_get hw
            simp only [List.length_append, List.length_cons, List.length_nil] at hi' ll
            have ei : i = P0.length + v.toNat := by omega
            rw [List.getElem?_append_right (by simp only [List.length_append]; omega)] at hw
            have : i - (P0 ++ (A.2.2.2.2.1 y).take v.toNat).length = 0 := by simp only [List.length_append]; omega
            rw [this] at hw
            cases hw
            rw [e3, sg_gw_c _ _ _ _ _ _ (by decide), e6, show (i : Int) = sg_g σ5 88 49 by omega, sg_gw_e _ _ _ _ ur]
      · rintro σ5 f5 ⟨q1, q2⟩
        refine ⟨(La ++ L1).length, by simp only [List.length_append]; omega, P0 ++ A.2.2.2.2.1 y, La ++ L1, rfl, by rw [q1]; simp, q2, fT_app g1 w2, fun z hz => h4 z (by rcases List.mem_append.mp hz with q | q <;> simp [q]), by simp only [List.length_append]; omega, fun j a b => ?_⟩
        obtain ⟨r1, r2⟩ := h6 j a b
        have cell : ¬ j = y → sg_g σ5 120 j = sg_g σ7 120 j := fun c => by rw [sg_F_ga f5 rfl, e9, sg_gw_k _ _ _ _ _ _ c, e8, sg_gw_c _ _ _ _ _ _ (by decide)]
        have cy : j = y → sg_g σ5 120 j = 1 := fun c => by rw [sg_F_ga f5 rfl, e9, c, sg_gw_e _ _ _ _ ⟨by decide, by decide⟩]
        refine ⟨fun z => ?_, fun z1 z2 => ?_⟩
        · by_cases c : j = y
          · exact cy c
          · rw [cell c]
            refine r1 ?_
            rcases z with z | ⟨z, z'⟩
            · exact Or.inl z
            · refine Or.inr ⟨z, fun w => z' ?_⟩
              rcases List.mem_append.mp w with w | w
              · simp [w]
              · rcases List.mem_cons.mp w with w | w
                · exact absurd w c
                · simp [w]
        · rw [cell (fun c => z2 (by rw [c]; exact h4 y (by simp)))]
          exact r2 z1 z2
end FV
/-! outsider, gatherOutside. -/
/-- names from outside: O, each once -/
def oR (σ : sg_S) (O : List Int) : Prop := sg_g σ 88 46 = O.length ∧ (∀ (i : Nat) (x : Int), O[i]? = some x → sg_g σ 119 i = x) ∧ O.Nodup ∧ ∀ x ∈ O, 0 ≤ x ∧ x < 1200
section FW
variable {A : aT} {σ : sg_S}
theorem m_outsider {b : Int} {O : List Int} {Q : sg_S → Prop} (h : oR σ O) (hl : O.length ≤ 250) (hb : 0 ≤ b ∧ b < 1200) (k : ∀ σ' O', oR σ' O' → (∀ z, z ∈ O' ↔ z = b ∨ z ∈ O) → O'.length ≤ O.length + 1 → Q σ') : V_outsider σ b Q := by
  obtain ⟨h1, h2, h3, h4⟩ := h
  unfold V_outsider
  rw [h1]
  refine ⟨fun n v => n = (O.length - v).toNat ∧ (0 ≤ v ∧ v ≤ O.length) ∧ ∀ (i : Nat) (x : Int), O[i]? = some x → (i : Int) < v → ¬ x = b, b ∉ O, ⟨_, rfl, ⟨by omega, by omega⟩, fun i x _ z => by omega⟩, ?_, fun nb => ?_⟩
  · rintro n v rv ⟨en, hv, hn⟩
    refine ⟨fun z w => ?_, fun z => ⟨⟨by omega, by omega⟩, fun c => ⟨⟨by omega, by omega⟩, _, by omega, rfl, ⟨by omega, by omega⟩, fun i x hx hi => ?_⟩, fun c => k σ O ⟨h1, h2, h3, h4⟩ (fun z => ⟨fun w => Or.inr w, fun w => ?_⟩) (by omega)⟩⟩
    · obtain ⟨i, hi⟩ := List.mem_iff_getElem?.mp w
      exact hn i b hi (by have := lt_of_get hi; omega) rfl
    · by_cases e : (i : Int) = v
      · intro e2
        have := h2 i x hx
        rw [e] at this
        exact c (by rw [this]; exact e2)
      · exact hn i x hx (by omega)
    · rcases w with w | w
      · rw [w]
        obtain ⟨x, hx⟩ : ∃ q, O[v.toNat]? = some q := ⟨_, List.getElem?_eq_getElem (by omega)⟩
        have := h2 v.toNat x hx
        rw [show ((v.toNat : Nat) : Int) = v by omega, c] at this
        rw [this]
        exact List.mem_of_getElem? hx
      · exact w
  · have ox : ∀ i : Nat, i < O.length → ∃ x, O[i]? = some x ∧ sg_g σ 119 i = x ∧ 0 ≤ x ∧ x < 1200 := fun i hi => by
      obtain ⟨x, hx⟩ : ∃ q, O[i]? = some q := ⟨_, List.getElem?_eq_getElem hi⟩
      exact ⟨x, hx, h2 i x hx, h4 x (List.mem_of_getElem? hx)⟩
    let J : Int → sg_S → Prop := fun at_ σ' => (0 ≤ at_ ∧ at_ ≤ O.length) ∧ (∀ (i : Nat) (x : Int), O[i]? = some x → (i : Int) < at_ → sg_g σ' 119 i = x) ∧ ∀ (i : Nat) (x : Int), O[i]? = some x → at_ ≤ (i : Int) → sg_g σ' 119 (i + 1) = x
    have shift : ∀ (at_ : Int) (σ1 σ2 : sg_S), J at_ σ1 → 0 < at_ → σ2 = sg_w σ1 119 at_ (sg_g σ1 119 (at_ - 1)) → J (at_ + -1) σ2 := fun at_ σ1 σ2 hJ h0 e => by
      obtain ⟨j1, j2, j3⟩ := hJ
      refine ⟨⟨by omega, by omega⟩, fun i x hx hi => ?_, fun i x hx hi => ?_⟩
      · rw [e, sg_gw_k _ _ _ _ _ _ (by omega)]; exact j2 i x hx (by omega)
      · by_cases c : (i : Int) + 1 = at_
        · rw [c, e, sg_gw_e _ _ _ _ (sg_Rg _ _ _), show at_ - 1 = (i : Int) by omega]
          exact j2 i x hx (by omega)
        · rw [e, sg_gw_k _ _ _ _ _ _ c]; exact j3 i x hx (by omega)
    have J0 : J O.length σ := ⟨⟨by omega, by omega⟩, fun i x hx _ => h2 i x hx, fun i x hx hi => by have := lt_of_get hx; omega⟩
    refine ⟨fun at_ σ' => J at_ σ', ⟨fun _ => J0, fun z => ?_⟩, fun at_ σ5 ra f5 hJ => ?_⟩
    · obtain ⟨x, x1, x2, x3⟩ := ox (O.length - 1) (by omega)
      have lt : sg_g σ 119 ((O.length : Int) - 1) = x := by rw [← x2]; congr 1; omega
      refine ⟨⟨by omega, by omega⟩, ⟨by omega, by omega⟩, by rw [lt]; exact x3, hb, fun _ => J0, fun _ => ⟨⟨by omega, by omega⟩, fun σ6 e6 => ⟨⟨by omega, by omega⟩, fun n at_ σ7 => n = at_.toNat ∧ J at_ σ7, ⟨_, rfl, shift _ _ _ J0 z e6⟩, ?_⟩⟩⟩
      rintro n at_ σ7 ra f7 ⟨en, hJ⟩
      refine ⟨fun _ => hJ, fun c => ?_⟩
      have hJ1 := hJ.1
      obtain ⟨y, y1, y2, y3⟩ := ox (at_ - 1).toNat (by omega)
      have ly : sg_g σ7 119 (at_ - 1) = y := by
        have := hJ.2.1 _ y y1 (by omega)
        rwa [show (((at_ - 1).toNat : Nat) : Int) = at_ - 1 by omega] at this
      exact ⟨⟨by omega, by omega⟩, ⟨by omega, by omega⟩, by rw [ly]; exact y3, fun _ => hJ, fun _ => ⟨⟨by omega, by omega⟩, fun σ8 e8 => ⟨⟨by omega, by omega⟩, _, by omega, rfl, shift _ _ _ hJ c e8⟩⟩⟩
    · obtain ⟨j1, j2, j3⟩ := hJ
      refine ⟨⟨by omega, by omega⟩, fun σ6 e6 => ⟨⟨by omega, by omega⟩, fun σ7 e7 => ?_⟩⟩
      have pm : (O.take at_.toNat ++ b :: O.drop at_.toNat).Perm (b :: O) := by
        have := List.perm_middle (l₁ := O.take at_.toNat) (a := b) (l₂ := O.drop at_.toNat)
        rwa [List.take_append_drop] at this
      have lt : (O.take at_.toNat).length = at_.toNat := by rw [List.length_take]; omega
      refine k σ7 (O.take at_.toNat ++ b :: O.drop at_.toNat) ⟨?_, fun i x hx => ?_, ?_, fun x hx => ?_⟩ (fun z => ?_) ?_
      · rw [pm.length_eq, e7, sg_gw_e _ _ _ _ ⟨by omega, by omega⟩]; simp
      · have c7 : sg_g σ7 119 i = sg_g σ6 119 i := by rw [e7, sg_gw_c _ _ _ _ _ _ (by decide)]
        rw [c7]
        by_cases c : i < at_.toNat
        · rw [List.getElem?_append_left (by omega), List.getElem?_take_of_lt c] at hx
          rw [e6, sg_gw_k _ _ _ _ _ _ (by omega)]
          exact j2 i x hx (by omega)
        · rw [List.getElem?_append_right (by omega), lt] at hx
          by_cases c2 : i = at_.toNat
          · rw [show i - at_.toNat = 0 by omega] at hx
            cases hx
            rw [e6, show (i : Int) = at_ by omega, sg_gw_e _ _ _ _ ⟨by omega, by omega⟩]
          · rw [show i - at_.toNat = (i - at_.toNat - 1) + 1 by omega, List.getElem?_cons_succ, List.getElem?_drop, show at_.toNat + (i - at_.toNat - 1) = i - 1 by omega] at hx
            have := j3 (i - 1) x hx (by omega)
            rw [e6, sg_gw_k _ _ _ _ _ _ (by omega)]
            rwa [show (((i - 1 : Nat) : Int) + 1) = (i : Int) by omega] at this
      · exact pm.nodup_iff.mpr (List.nodup_cons.mpr ⟨nb, h3⟩)
      · have := pm.mem_iff.mp hx
        rcases List.mem_cons.mp this with e | e
        · rw [e]; exact hb
        · exact h4 x e
      · rw [pm.mem_iff, List.mem_cons]
      · rw [pm.length_eq]; simp
/-- a name bound by the node but -/
def isG (but b : Int) : Prop := 0 ≤ but ∧ 210 ≤ b ∧ b < 1100 ∧ (b - 210) / 4 = but
def gO (A : aT) (L : List Int) (B : Int → Int) (but v : Int) (σ : sg_S) : Prop := ∃ O, oR σ O ∧ (O.length : Int) ≤ v ∧ ∀ z, z ∈ O ↔ ∃ y, (0 ≤ y ∧ y < v) ∧ y ∈ L ∧ A.2.1 y = 1 ∧ B y = z ∧ ¬ insL L z ∧ ¬ isG but z
theorem m_gatherO {but : Int} {L : List Int} {B : Int → Int} {Q : sg_S → Prop} (hP : trT σ A) (eB : ∀ n, sg_g σ 102 n = B n) (hA : A.1 ≤ 200) (h0 : sg_g σ 88 46 = 0) (hi : iM σ A L) (hL : ∀ y ∈ L, A.2.1 y = 1 → rb A (B y)) (k : ∀ σ' O, oR σ' O → (∀ z, z ∈ O ↔ ∃ y, (0 ≤ y ∧ y < A.1) ∧ y ∈ L ∧ A.2.1 y = 1 ∧ B y = z ∧ ¬ insL L z ∧ ¬ isG but z) → O.length ≤ 200 → sg_F [119, 47088] σ σ' → Q σ') : V_gatherOutside σ but Q := by
  have h8 : sg_g σ 88 8 = A.1 := hP.1.1
  unfold V_gatherOutside
  rw [h8]
  have a0 : 0 ≤ A.1 := hP.1.2.1
  refine ⟨fun n v σ2 => n = (A.1 - v).toNat ∧ (0 ≤ v ∧ v ≤ A.1) ∧ gO A L B but v σ2, fun σ2 => gO A L B but A.1 σ2, ⟨_, rfl, ⟨by omega, by omega⟩, [], ⟨h0, fun i x h => (by cases h), List.nodup_nil, fun x h => (by cases h)⟩, by simp, fun z => ⟨fun w => (by cases w), fun ⟨y, hy, _⟩ => by omega⟩⟩, ?_, fun σ2 f2 ⟨O, o1, o2, o3⟩ => k σ2 O o1 o3 (by omega) f2⟩
  rintro n v σ2 rv f2 ⟨en, hv, O, o1, o2, o3⟩
  refine ⟨fun z => ⟨O, o1, by omega, by rw [show A.1 = v by omega]; exact o3⟩, fun z => ?_⟩
  obtain ⟨t1, -⟩ := tr_k hP (n := v) ⟨hv.1, z⟩
  rw [t1, eB]
  have hM := hi v hv.1 z
  have same : (¬ (v ∈ L ∧ A.2.1 v = 1 ∧ ¬ insL L (B v) ∧ ¬ isG but (B v))) → gO A L B but (v + 1) σ2 := fun hn => by
    refine ⟨O, o1, by omega, fun z => ⟨fun w => ?_, fun ⟨y, y1, y2, y3, y4, y5, y6⟩ => ?_⟩⟩
    · obtain ⟨y, y1, y2⟩ := (o3 z).mp w
      exact ⟨y, ⟨y1.1, by omega⟩, y2⟩
    · refine (o3 z).mpr ⟨y, ⟨y1.1, ?_⟩, y2, y3, y4, y5, y6⟩
      by_cases c : y = v
      · subst c
        exact absurd ⟨y2, y3, by rw [y4]; exact y5, by rw [y4]; exact y6⟩ hn
      · omega
  refine ⟨⟨by omega, by omega⟩, fun σ3 => gO A L B but (v + 1) σ3, ⟨fun c => same (fun h => by rw [hM.1 h.1] at c; omega), fun c => ⟨fun c2 => same (fun h => c2 h.2.1), fun c2 => ?_⟩⟩, fun σ3 f3 h3 => ⟨⟨by omega, by omega⟩, _, by omega, rfl, ⟨by omega, by omega⟩, h3⟩⟩
  have vL : v ∈ L := Decidable.byContradiction (fun w => c (hM.2 w))
  obtain ⟨b1, b2, b3⟩ := hL v vL c2
  obtain ⟨b, hb⟩ : ∃ b, b = B v := ⟨_, rfl⟩
  rw [← hb] at b1 b2 b3 ⊢
  have cell : ∀ j, sg_g σ2 120 j = sg_g σ 120 j := fun j => sg_F_ga f2 rfl
  have go : ∀ q27 : Int, (q27 = 0 ↔ ¬ insL L b) → ((¬ q27 = 0 → gO A L B but (v + 1) σ2) ∧ (q27 = 0 → ((but < 0 → True) ∧ (0 ≤ but → ((b < 210 → True) ∧ (210 ≤ b → ((1100 ≤ b → True) ∧ (b < 1100 → sg_R (b - 210) ∧ ((¬ (sg_i (b - 210) / sg_i 4).toInt = but → True) ∧ ((sg_i (b - 210) / sg_i 4).toInt = but → True)))))))) ∧ ∀ v36 : Int, v36 = (if but < 0 then (0 : Int) else (if b < 210 then (0 : Int) else (if 1100 ≤ b then (0 : Int) else (if ¬ (sg_i (b - 210) / sg_i 4).toInt = but then (0 : Int) else (1 : Int))))) → sg_R v36 → ((¬ v36 = 0 → gO A L B but (v + 1) σ2) ∧ (v36 = 0 → V_outsider σ2 b (fun σ41 => sg_F [119, 47088] σ2 σ41 → gO A L B but (v + 1) σ41))))) := fun q27 hq => by
    refine ⟨fun w => same (fun h => w (hq.mpr (by rw [hb]; exact h.2.2.1))), fun w => ⟨⟨fun _ => trivial, fun _ => ⟨fun _ => trivial, fun _ => ⟨fun _ => trivial, fun _ => ⟨⟨by omega, by omega⟩, fun _ => trivial, fun _ => trivial⟩⟩⟩⟩, fun v36 e36 r36 => ?_⟩⟩
    have nI := hq.mp w
    have g36 : v36 = 0 ↔ ¬ isG but b := by
      rw [e36]
      unfold isG
      by_cases d1 : but < 0
      · rw [if_pos d1]; exact ⟨fun _ h => by omega, fun _ => rfl⟩
      · rw [if_neg d1]
        by_cases d2 : b < 210
        · rw [if_pos d2]; exact ⟨fun _ h => by omega, fun _ => rfl⟩
        · rw [if_neg d2]
          by_cases d3 : 1100 ≤ b
          · rw [if_pos d3]; exact ⟨fun _ h => by omega, fun _ => rfl⟩
          · rw [if_neg d3, dvi ⟨by omega, by omega⟩]
            by_cases d4 : (b - 210) / 4 = but
            · rw [if_neg (fun h => h d4)]; exact ⟨fun h => by omega, fun h => absurd ⟨by omega, by omega, by omega, d4⟩ h⟩
            · rw [if_pos d4]; exact ⟨fun _ h => d4 h.2.2.2, fun _ => rfl⟩
    refine ⟨fun c3 => same (fun h => c3 (g36.mpr (by rw [hb]; exact h.2.2.2))), fun c3 => m_outsider o1 (by omega) b1 (fun σ4 O' p1 p2 p3 _ => ⟨O', p1, by omega, fun z => ⟨fun hz => ?_, fun ⟨y, y1, y2, y3, y4, y5, y6⟩ => ?_⟩⟩)⟩
    · rcases (p2 z).mp hz with e | e
      · exact ⟨v, ⟨hv.1, by omega⟩, vL, c2, by rw [← hb]; exact e.symm, by rw [e]; exact nI, by rw [e]; exact g36.mp c3⟩
      · obtain ⟨y, y1, y2⟩ := (o3 z).mp e
        exact ⟨y, ⟨y1.1, by omega⟩, y2⟩
    · refine (p2 z).mpr ?_
      by_cases c4 : y = v
      · subst c4
        exact Or.inl (by rw [← y4, hb])
      · exact Or.inr ((o3 z).mpr ⟨y, ⟨y1.1, by omega⟩, y2, y3, y4, y5, y6⟩)
  unfold V_isBoundInside
  refine ⟨fun d1 => ⟨fun d2 _ => go 0 ⟨fun _ h => ?_, fun _ => rfl⟩, fun d2 => ?_⟩, fun d1 => ?_⟩
  · rcases h with h | h <;> omega
  · rw [dvi ⟨by omega, by omega⟩, cell]
    have e := hi ((b - 210) / 4) (by omega) (b3 d1 d2)
    have iff0 : insL L b ↔ (b - 210) / 4 ∈ L := ⟨fun h => by rcases h with h | h; omega; exact h.2.2, fun h => Or.inr ⟨d1, d2, h⟩⟩
    have q0 : insL L b → sg_g σ 120 ((b - 210) / 4) = 0 → False := fun h c3 => by rw [e.1 (iff0.mp h)] at c3; omega
    have q1 : ¬ insL L b → sg_g σ 120 ((b - 210) / 4) = 0 := fun h => e.2 (fun w => h (iff0.mpr w))
    refine ⟨⟨by omega, by omega⟩, ⟨by omega, by omega⟩, fun c3 _ => ?_, fun c3 _ => ?_⟩
    · have g := go 0 ⟨fun _ h => q0 h c3, fun _ => rfl⟩
      rw [dvi ⟨by omega, by omega⟩] at g
      exact g
    · have g := go 1 ⟨fun h => absurd h (by decide), fun h => absurd (q1 h) c3⟩
      rw [dvi ⟨by omega, by omega⟩] at g
      exact g
  · rw [cell]
    have e := hi b b1.1 (b2 d1)
    have iff0 : insL L b ↔ b ∈ L := ⟨fun h => by rcases h with h | h; exact h.2; omega, fun h => Or.inl ⟨d1, h⟩⟩
    by_cases c3 : b ∈ L
    · rw [e.1 c3]
      exact ⟨⟨by omega, by omega⟩, Or.inr rfl, fun _ => go 1 ⟨fun h => by omega, fun h => absurd (iff0.mpr c3) h⟩⟩
    · rw [e.2 c3]
      exact ⟨⟨by omega, by omega⟩, Or.inl rfl, fun _ => go 0 ⟨fun _ h => c3 (iff0.mp h), fun _ => rfl⟩⟩
end FW
