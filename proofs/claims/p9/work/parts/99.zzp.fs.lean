/-! flatWorked: by the kind of the node. -/
/-- values of types ty with L lanes stand from b on -/
def vF (σ : sg_S) (L b : Int) (ty : List Int) : Prop := ∀ (i : Nat) (x : Int), ty[i]? = some x → fL σ x.toNat L (sg_g σ 133 (b + i))
theorem vF_0 {σ : sg_S} {L b x : Int} {ty : List Int} (h : vF σ L b (x :: ty)) : fL σ x.toNat L (sg_g σ 133 b) := by
  have := h 0 x rfl
  rwa [show b + ((0 : Nat) : Int) = b by omega] at this
theorem vF_1 {σ : sg_S} {L b x y : Int} {ty : List Int} (h : vF σ L b (x :: y :: ty)) : fL σ y.toNat L (sg_g σ 133 (b + 1)) := h 1 y rfl
section FS
variable {A : aT} {T : Int → Int} {ds : kD} {σ : sg_S}
theorem m_fWk {n b L : Int} {Q : Int → sg_S → Prop} (hn : 0 ≤ n ∧ n < 210) (w1 : nW A n) (t1 : sg_g σ 93 n = A.2.1 n) (t2 : sg_g σ 96 n = (A.2.2.2.2.1 n).length) (t3 : (A.2.2.2.2.1 n).length ≤ 200) (g : kTy A ds T [] n ((A.2.2.2.2.1 n).map T) = some (T n)) (hin : ∀ x ∈ A.2.2.2.2.1 n, kIn (T x)) (hk : ¬ A.2.1 n = 1 ∧ ¬ A.2.1 n = 2 ∧ ¬ A.2.1 n = 3 ∧ ¬ A.2.1 n = 13 ∧ ¬ A.2.1 n = 15) (h5 : vF σ L b ((A.2.2.2.2.1 n).map T)) (hb : 0 ≤ b) (h70 : sg_g σ 88 70 = b + (A.2.2.2.2.1 n).length) (h70' : sg_g σ 88 70 ≤ 6000) (hC : fC σ) (hq : fq σ) (hL : 0 ≤ L ∧ L ≤ 6000) (k : ∀ q σ', sg_R q → opR σ σ' (T n).toNat L q → (∀ x, x < sg_g σ 88 70 → sg_g σ' 133 x = sg_g σ 133 x) → sg_F [133, 135, 139, 140, 141, 142, 143, 144, 150, 74088, 85088, 86088, 88088, 92088, 94088, 103088, 104088] σ σ' → Q q σ') : V_flatWorked σ n b L (fun q σ' => sg_R q → sg_F [133, 135, 139, 140, 141, 142, 143, 144, 150, 74088, 85088, 86088, 88088, 92088, 94088, 103088, 104088] σ σ' → Q q σ') := by
  have done : ∀ (l : List Nat) (q : Int) (σ' : sg_S), sg_ca l 133 = true → sg_F l σ σ' → opR σ σ' (T n).toNat L q → sg_R q → sg_F [133, 135, 139, 140, 141, 142, 143, 144, 150, 74088, 85088, 86088, 88088, 92088, 94088, 103088, 104088] σ σ' → Q q σ' := fun l q σ' hl F h r f => k q σ' r h (fun x _ => sg_F_ga F hl) f
  have tin : ∀ (i : Nat) (x : Int), ((A.2.2.2.2.1 n).map T)[i]? = some x → kIn x := fun i x hx => by
    obtain ⟨y, hy, e⟩ := List.mem_map.mp (List.mem_of_getElem? hx)
    rw [← e]; exact hin y hy
  have l0 : ((A.2.2.2.2.1 n).map T).length = (A.2.2.2.2.1 n).length := by simp
  obtain ⟨ty, ety⟩ : ∃ ty, ty = (A.2.2.2.2.1 n).map T := ⟨_, rfl⟩
  rw [← ety] at g h5 tin l0
  have hgt : ∀ j, 0 ≤ ty.getD j 0 ∧ ty.getD j 0 ≤ 3 := fun j => by
    rw [List.getD_eq_getElem?_getD]
    cases e : ty[j]? with
    | none => simp
    | some y => exact tin j y e
  have g0 := hgt 0
  have g1 := hgt 1
  have a1 : 1 ≤ ty.length → fL σ (ty.getD 0 0).toNat L (sg_g σ 133 b) := fun h => by
    match e : ty, h, h5 with
    | x :: l, _, h5 => exact vF_0 h5
  have a2 : 2 ≤ ty.length → fL σ (ty.getD 1 0).toNat L (sg_g σ 133 (b + 1)) := fun h => by
    match e : ty, h, h5 with
    | x :: y :: l, _, h5 => exact vF_1 h5
  have act : 16 ≤ A.2.1 n → kAct (A.2.1 n) ty = some (T n) := fun h => by rw [← kTy_act h]; exact g
  obtain ⟨A0, hA0⟩ : ∃ A0, A0 = ty.getD 0 0 := ⟨_, rfl⟩
  obtain ⟨B0, hB0⟩ : ∃ B0, B0 = ty.getD 1 0 := ⟨_, rfl⟩
  rw [← hA0] at a1 g0
  rw [← hB0] at a2 g1
  simp only [kAct, ← hA0, ← hB0] at act
  unfold V_flatWorked
  rw [t1]
  refine ⟨⟨by omega, by omega⟩, ⟨by omega, by omega⟩, ⟨by omega, by omega⟩, hn, fun z => ?_, fun z0 => ⟨fun z => ?_, fun z11 => ⟨fun z => ?_, fun z12 => ⟨fun z => ?_, fun z14 => ⟨fun z => ?_, fun z16 => ⟨fun z => ?_, fun z17 => ⟨fun z => ?_, fun z18 => ⟨fun z => ?_, fun z19 => ⟨fun z => ?_, fun z20 => ⟨fun z => ?_, fun z21 => ⟨fun z => ?_, fun z22 => ⟨fun z => ?_, fun z23 => ⟨fun z => ?_, fun z24 => ⟨fun z => ?_, fun z25 => ⟨fun z => ?_, fun z26 => ⟨fun z => ?_, fun z27 => ?_⟩⟩⟩⟩⟩⟩⟩⟩⟩⟩⟩⟩⟩⟩⟩⟩
  · rw [kTy_0 z, Option.some.injEq] at g
    exact m_f0 hC hL hn hq (fun q σ' h F r f => done _ q σ' rfl F (by rw [← g]; exact h) r f)
  · rw [kTy_11 z, ← hA0] at g
    obtain ⟨e1, e2, e3⟩ := kIs_in g
    exact m_f11 hC (a1 (by have := w1.2.2.2.2.1 z; omega)) hq (fun q σ' h F r f => done _ q σ' rfl F (by rw [e1]; exact h) r f)
  · rw [kTy_12 z, ← hA0, ← hB0] at g
    obtain ⟨e1, e2, e3⟩ := kIs_in g
    simp only [Bool.and_eq_true, decide_eq_true_eq] at e3
    have l2 := w1.2.2.1 (Or.inr (Or.inr z))
    have u := a1 (by omega)
    rw [show A0.toNat = (T n).toNat + 1 by omega] at u
    unfold V_flatWorked_12
    exact m_fIndex hC u (a2 (by omega)) hq (fun q σ' h _ F r f => done _ q σ' rfl F h r f)
  · rw [kTy_14 z, ← hA0] at g
    obtain ⟨e1, e2, e3⟩ := kIs_in g
    rw [List.all_eq_true] at e3
    have m1 := w1.2.2.2.2.2.1 z
    unfold V_flatWorked_14
    refine m_fRow (m := (A.2.2.2.2.1 n).length) (K := A0.toNat) hC hn ⟨m1, t3⟩ t2 ⟨hb, by omega⟩ (fun k' hk' => ?_) (by omega) hq (fun q σ' h _ F r f => done _ q σ' rfl F (by rw [e1, show (A0 + 1).toNat = A0.toNat + 1 by omega]; exact h) r f)
    obtain ⟨x, hx⟩ : ∃ x, ty[k']? = some x := ⟨_, List.getElem?_eq_getElem (by omega)⟩
    have u := h5 k' x hx
    have := e3 x (List.mem_of_getElem? hx)
    rw [decide_eq_true_eq] at this
    rwa [this] at u
  · have c := act (by omega)
    simp only [z] at c
    obtain ⟨e1, e2, e3⟩ := kIs_in c
    simp only [Bool.and_eq_true, decide_eq_true_eq] at e3
    unfold V_flatWorked_16
    exact m_fIota hC (a1 (by omega)) hq (fun q σ' h _ F r f => done _ q σ' rfl F (by rw [e1]; exact h) r f)
  · have c := act (by omega)
    simp only [z] at c
    obtain ⟨e1, e2, e3⟩ := kIs_in c
    simp only [Bool.and_eq_true, decide_eq_true_eq] at e3
    unfold V_flatWorked_17
    exact m_fDist hC (a1 (by omega)) (by omega) (a2 (by omega)) hq (fun q σ' h _ F r f => done _ q σ' rfl F (by rw [e1, show (A0 + 1).toNat = A0.toNat + 1 by omega]; exact h) r f)
  · have c := act (by omega)
    simp only [z] at c
    obtain ⟨e1, e2, e3⟩ := kIs_in c
    simp only [Bool.and_eq_true, decide_eq_true_eq] at e3
    have u := a1 (by omega)
    rw [show A0.toNat = 1 by omega] at u
    unfold V_flatWorked_18
    refine m_fGone hC hn u hq (fun q σ' h _ F r f => done _ q σ' rfl F ?_ r f)
    rw [if_neg (by omega)] at h
    rw [e1]; exact h
  · have c := act (by omega)
    simp only [z] at c
    obtain ⟨e1, e2, e3⟩ := kIs_in c
    simp only [Bool.and_eq_true, decide_eq_true_eq] at e3
    have u := a1 (by omega)
    rw [show A0.toNat = 1 by omega] at u
    unfold V_flatWorked_18
    refine m_fGone hC hn u hq (fun q σ' h _ F r f => done _ q σ' rfl F ?_ r f)
    rw [if_neg (by omega)] at h
    rw [e1]; exact h
  · have c := act (by omega)
    simp only [z] at c
    obtain ⟨e1, e2, e3⟩ := kIs_in c
    simp only [Bool.and_eq_true, decide_eq_true_eq] at e3
    have u := a1 (by omega)
    rw [show A0.toNat = 1 by omega] at u
    unfold V_flatWorked_18
    refine m_fGone hC hn u hq (fun q σ' h _ F r f => done _ q σ' rfl F ?_ r f)
    rw [if_neg (by omega)] at h
    rw [e1]; exact h
  · have c := act (by omega)
    simp only [z] at c
    obtain ⟨e1, e2, e3⟩ := kIs_in c
    simp only [Bool.and_eq_true, decide_eq_true_eq] at e3
    have u := a1 (by omega)
    rw [show A0.toNat = 1 by omega] at u
    unfold V_flatWorked_18
    refine m_fGone hC hn u hq (fun q σ' h _ F r f => done _ q σ' rfl F ?_ r f)
    rw [if_pos (by omega)] at h
    rw [e1]; exact h
  · have c := act (by omega)
    simp only [z] at c
    obtain ⟨e1, e2, e3⟩ := kIs_in c
    simp only [Bool.and_eq_true, decide_eq_true_eq] at e3
    have u := a1 (by omega)
    rw [show A0.toNat = (A0.toNat - 1) + 1 by omega] at u
    unfold V_flatWorked_22
    exact m_fRev hC u hq (fun q σ' h _ F r f => done _ q σ' rfl F (by rw [e1, show A0.toNat = (A0.toNat - 1) + 1 by omega]; exact h) r f)
  · have c := act (by omega)
    simp only [z] at c
    obtain ⟨e1, e2, e3⟩ := kIs_in c
    simp only [Bool.and_eq_true, decide_eq_true_eq] at e3
    have u := a1 (by omega)
    have v := a2 (by omega)
    rw [show A0.toNat = (A0.toNat - 1) + 1 by omega] at u
    rw [show B0.toNat = (A0.toNat - 1) + 1 by omega] at v
    unfold V_flatWorked_23
    exact m_fCat hC u v ⟨by omega, by omega⟩ hq (fun q σ' h hx _ F r f => k q σ' r (by rw [e1, show A0.toNat = (A0.toNat - 1) + 1 by omega]; exact h) hx f)
  · have c := act (by omega)
    simp only [z] at c
    obtain ⟨e1, e2, e3⟩ := kIs_in c
    simp only [Bool.and_eq_true, decide_eq_true_eq] at e3
    have u := a1 (by omega)
    rw [show A0.toNat = (A0.toNat - 2) + 2 by omega] at u
    unfold V_flatWorked_24
    exact m_fFlat hC u hq (fun q σ' h _ F r f => done _ q σ' rfl F (by rw [e1, show (A0 - 1).toNat = (A0.toNat - 2) + 1 by omega]; exact h) r f)
  · have c := act (by omega)
    simp only [z] at c
    obtain ⟨e1, e2, e3⟩ := kIs_in c
    simp only [Bool.and_eq_true, decide_eq_true_eq] at e3
    have u := a1 (by omega)
    have v := a2 (by omega)
    rw [show A0.toNat = (A0.toNat - 1) + 1 by omega] at u
    rw [show B0.toNat = 1 by omega] at v
    unfold V_flatWorked_25
    exact m_fChosen hC hn u v hq (fun q σ' h _ F r f => done _ q σ' rfl F (by rw [e1, show A0.toNat = (A0.toNat - 1) + 1 by omega]; exact h) r f)
  · have c := act (by omega)
    simp only [z] at c
    obtain ⟨e1, e2, e3⟩ := kIs_in c
    simp only [Bool.and_eq_true, decide_eq_true_eq] at e3
    have u := a1 (by omega)
    have v := a2 (by omega)
    rw [show A0.toNat = (A0.toNat - 1) + 1 by omega] at u
    rw [show B0.toNat = 1 by omega] at v
    unfold V_flatWorked_25
    exact m_fChosen hC hn u v hq (fun q σ' h _ F r f => done _ q σ' rfl F (by rw [e1, show A0.toNat = (A0.toNat - 1) + 1 by omega]; exact h) r f)
  · have c := act (by omega)
    simp only [z] at c
    obtain ⟨e1, e2, e3⟩ := kIs_in c
    simp only [Bool.and_eq_true, decide_eq_true_eq] at e3
    have u := a1 (by omega)
    have v := a2 (by omega)
    rw [show A0.toNat = (A0.toNat - 1) + 1 by omega] at u
    rw [show B0.toNat = 1 by omega] at v
    unfold V_flatWorked_27
    exact m_fPart hC u (by omega) v hq (fun q σ' h _ F r f => done _ q σ' rfl F (by rw [e1, show (A0 + 1).toNat = (A0.toNat - 1) + 2 by omega]; exact h) r f)
  · have w0 := w1.1
    have kk : 4 ≤ A.2.1 n ∧ A.2.1 n < 11 := by omega
    rw [kTy_op kk, ← hA0, ← hB0] at g
    obtain ⟨e1, e2, e3⟩ := kIs_in g
    have l2 := w1.2.2.1 (Or.inr (Or.inl ⟨kk.1, by omega⟩))
    exact m_fd hC hn (a1 (by omega)) (a2 (by omega)) hq (fun q σ' h F r f => done _ q σ' rfl F (by rw [e1]; exact h) r f)
end FS
