/-! THE FLAT RUN of the class in steps, exactly: what is kept; one turn each. -/
section CTD
variable (σ : sg_S) (A : aT) (D : List aDf) (vb : Int → Prop) (lev : Int → Nat) (j : Nat)
/-- what is bound -/
def rlY (σ8 : sg_S) (ρ : fEv) (b : Int) : Prop := yX σ8 (bTy A D (sg_g σ 6) b).toNat (sg_g σ8 62 (slF σ b)) (ρ b)
def scY (σ8 : sg_S) (ρ : fEv) (N : Nat) (sc : List (Int × Int)) : Prop := ∀ p ∈ sc, vb p.1 ∧ p.2 = bTy A D (sg_g σ 6) p.1 ∧ rlY σ A D σ8 ρ p.1 ∧ (ρ p.1).length = N
/-- what stays -/
def yU (σ8 σ' : sg_S) (ρ ρ' : fEv) (t sv nl dix : Int) (L : List Int) : Prop := yEx σ8 σ' ∧ (∀ i, i < t → sg_g σ' 64 i = sg_g σ8 64 i) ∧ (∀ b, vb b → ¬ ow lev j L b → rlY σ A D σ8 ρ b → rlY σ A D σ' ρ' b) ∧ (∀ i, i < sv → sg_g σ' 72 i = sg_g σ8 72 i ∧ sg_g σ' 73 i = sg_g σ8 73 i) ∧ (∀ x, nl ≤ x → x ∉ L → sg_g σ' 69 x = sg_g σ8 69 x ∧ sg_g σ' 70 x = sg_g σ8 70 x ∧ sg_g σ' 71 x = sg_g σ8 71 x) ∧ ∀ q, dix ≤ q → sg_g σ' 63 q = sg_g σ8 63 q
/-- what a node is followed by -/
def kY (X : sg_S → Prop) (σ8 : sg_S) (ρ : fEv) (t sv c p cr nl dix : Int) (L : List Int) (N d : Nat) : fRs → Prop
  | .inl e => ∀ σ', sg_F bRL σ σ' → sg_g σ' 61 10 = e.1 → ctX σ' e.2 → ¬ e.1 = 0 → X σ'
  | .inr r => ∀ (σ' : sg_S) (m' : Nat), 6 * (2001 - r.2.1.1) + cr ≤ (m' : Int) → bP σ σ' (t + 1) sv N c p → ctX σ' r.2.1 → yU σ A D vb lev j σ8 σ' ρ r.2.2 t sv nl dix L → yX σ' d (sg_g σ' 64 t) r.1 → Ry σ X m' σ'
end CTD
section CTS
variable {σ : sg_S} {A : aT} {D : List aDf} {vb : Int → Prop} {X : sg_S → Prop} {lev : Int → Nat} {j : Nat}
theorem ow_l {lev : Int → Nat} {j1 j : Nat} {L1 L : List Int} {b : Int} (hj : j1 ≤ j) (hL : ∀ y ∈ L1, y ∈ L ∨ lev y < j) (h : ow lev j1 L1 b) : ow lev j L b := by
  rcases h with (⟨a, c⟩ | ⟨a, a', c⟩) | ⟨a, c⟩ | ⟨a, a', c⟩ | ⟨a, c⟩
  · rcases hL _ c with q | q
    · exact Or.inl (Or.inl ⟨a, q⟩)
    · exact Or.inr (Or.inl ⟨a, q⟩)
  · rcases hL _ c with q | q
    · exact Or.inl (Or.inr ⟨a, a', q⟩)
    · exact Or.inr (Or.inr (Or.inl ⟨a, a', q⟩))
  · exact Or.inr (Or.inl ⟨a, by omega⟩)
  · exact Or.inr (Or.inr (Or.inl ⟨a, a', by omega⟩))
  · exact Or.inr (Or.inr (Or.inr ⟨a, by omega⟩))
theorem yU_r {σ8 : sg_S} {ρ : fEv} {t sv nl dix : Int} {L : List Int} : yU σ A D vb lev j σ8 σ8 ρ ρ t sv nl dix L := ⟨yEx_r _, fun _ _ => rfl, fun _ _ _ h => h, fun _ _ => ⟨rfl, rfl⟩, fun _ _ _ => ⟨rfl, rfl, rfl⟩, fun _ _ => rfl⟩
theorem yU_t {σ8 σ1 σ2 : sg_S} {ρ ρ1 ρ2 : fEv} {t t1 t2 sv sv1 sv2 nl dix : Int} {L L1 L2 : List Int} (h : yU σ A D vb lev j σ8 σ1 ρ ρ1 t1 sv1 nl dix L1) (g : yU σ A D vb lev j σ1 σ2 ρ1 ρ2 t2 sv2 nl dix L2) (ht : t ≤ t1 ∧ t ≤ t2) (hs : sv ≤ sv1 ∧ sv ≤ sv2) (h1 : ∀ x ∈ L1, x ∈ L) (h2 : ∀ x ∈ L2, x ∈ L) : yU σ A D vb lev j σ8 σ2 ρ ρ2 t sv nl dix L := by
  obtain ⟨a1, a2, a3, a4, a5, a6⟩ := h
  obtain ⟨c1, c2, c3, c4, c5, c6⟩ := g
  refine ⟨yEx_t a1 c1, fun i hi => by rw [c2 i (by omega), a2 i (by omega)], fun b hb ho hr => c3 b hb (fun w => ho (ow_s h2 w)) (a3 b hb (fun w => ho (ow_s h1 w)) hr), fun i hi => ?_, fun x q r => ?_, fun q hq => by rw [c6 q hq, a6 q hq]⟩
  · obtain ⟨e1, e2⟩ := c4 i (by omega)
    obtain ⟨e3, e4⟩ := a4 i (by omega)
    exact ⟨e1.trans e3, e2.trans e4⟩
  · obtain ⟨e1, e2, e3⟩ := c5 x q (fun z => r (h2 x z))
    obtain ⟨e4, e5, e6⟩ := a5 x q (fun z => r (h1 x z))
    exact ⟨e1.trans e4, e2.trans e5, e3.trans e6⟩
theorem yU_w {σ8 σ1 : sg_S} {ρ ρ1 : fEv} {t t1 sv sv1 nl nl1 dix dix1 : Int} {L L1 : List Int} {j1 : Nat} (h : yU σ A D vb lev j1 σ8 σ1 ρ ρ1 t1 sv1 nl1 dix1 L1) (hl : nl1 ≤ nl ∧ dix1 ≤ dix) (ht : t ≤ t1) (hs : sv ≤ sv1) (h1 : ∀ x ∈ L1, nl ≤ x → x ∈ L) (how : ∀ b, ow lev j1 L1 b → ow lev j L b) : yU σ A D vb lev j σ8 σ1 ρ ρ1 t sv nl dix L := by
  obtain ⟨c1, c2, c3, c4, c5, c6⟩ := h
  exact ⟨c1, fun i hi => c2 i (by omega), fun b hb ho hr => c3 b hb (fun w => ho (how b w)) hr, fun i hi => c4 i (by omega), fun x q r => c5 x (by omega) (fun z => r (h1 x z q)), fun q hq => c6 q (by omega)⟩
theorem rlY_X {σ8 σ1 : sg_S} {ρ : fEv} {b : Int} (h : rlY σ A D σ8 ρ b) (x : yEx σ8 σ1) (h62 : sg_g σ1 62 (slF σ b) = sg_g σ8 62 (slF σ b)) : rlY σ A D σ1 ρ b := by
  unfold rlY
  rw [h62]
  exact yX_up x h
theorem yU_F {K : List Nat} {σ8 σ1 : sg_S} {ρ : fEv} {t sv nl dix : Int} {L : List Int} (f : sg_F K σ8 σ1) (ex : yEx σ8 σ1) (hK : (sg_ca K 62 && sg_ca K 63 && sg_ca K 69 && sg_ca K 70 && sg_ca K 71 && sg_ca K 72 && sg_ca K 73) = true) (h64 : ∀ i, i < t → sg_g σ1 64 i = sg_g σ8 64 i) : yU σ A D vb lev j σ8 σ1 ρ ρ t sv nl dix L := by
  simp only [Bool.and_eq_true] at hK
  obtain ⟨⟨⟨⟨⟨⟨k1, k2⟩, k3⟩, k4⟩, k5⟩, k6⟩, k7⟩ := hK
  exact ⟨ex, h64, fun b _ _ h => rlY_X h ex (sg_F_ga f k1), fun i _ => ⟨sg_F_ga f k6, sg_F_ga f k7⟩, fun x _ _ => ⟨sg_F_ga f k3, sg_F_ga f k4, sg_F_ga f k5⟩, fun q _ => sg_F_ga f k2⟩
theorem scY_u {σ8 σ1 : sg_S} {ρ ρ1 : fEv} {t sv nl dix : Int} {L : List Int} {N : Nat} {sc : List (Int × Int)} (h : scY σ A D vb σ8 ρ N sc) (u : yU σ A D vb lev j σ8 σ1 ρ ρ1 t sv nl dix L) (hk : ∀ p ∈ sc, ρ1 p.1 = ρ p.1) (ho : ∀ p ∈ sc, ¬ ow lev j L p.1) : scY σ A D vb σ1 ρ1 N sc := fun p hp => by
  obtain ⟨a1, a2, a3, a4⟩ := h p hp
  exact ⟨a1, a2, u.2.2.1 p.1 a1 (ho p hp) a3, by rw [hk p hp]; exact a4⟩
variable {σ8 : sg_S} {m N : Nat} {t sv c p n cr nl dix : Int} {C : List (Int × Int)} {s : fSt} {ρ : fEv}
/-- BEGIN -/
theorem zy_begin (h : bP σ σ8 t sv N c p) (hs : ctX σ8 s) (hp : pl σ p ((0, n) :: C)) (hn : 0 ≤ n ∧ n < 200) (k0 : fBg N s = none → ∀ σ', sg_F bRL σ σ' → sg_g σ' 61 10 = 8 → ctX σ' s → X σ') (k : ∀ s1, fBg N s = some s1 → ∀ σ', bP σ σ' t sv N (c + 4) (p + 1) → ctX σ' s1 → yU σ A D vb lev j σ8 σ' ρ ρ t sv nl dix [n] → sg_g σ' 69 n = N → (∀ x, sg_g σ' 64 x = sg_g σ8 64 x) → Ry σ X m σ') : Ry σ X (m + 1) σ8 := by
  obtain ⟨p0, p1, p2, p3⟩ := pl_c hp
  refine ry_0 (p := p) (k := n) h.2.2.1.2.2.2 p0 h.2.1.2.2.1 p1 p2 (fun σ32 e32 => ?_)
  obtain ⟨h32, f32⟩ := bP_32 h ⟨p0.2, p0.1⟩ e32
  obtain ⟨a1, a2, ⟨a3, a4, a5, a6⟩, a7, a8, a9, a10⟩ := h32
  obtain ⟨m1, m2, m3, m4, m5⟩ := a2
  refine f_beginX hn a5 m3 (ctX_F f32 rfl hs) (fun z σ' f' z1 z2 _ => ry_s (by rw [z1]; decide) (k0 z σ' (sg_F_t a1 (sg_F_m f' rfl)) z1 z2)) (fun s1 z σ' f' z1 z2 z3 z4 _ => ?_)
  have st : s1.1 = s.1 + 1 := by
    unfold fBg at z
    cases e : fStp 0 s with
    | none => rw [e] at z; cases z
    | some s0 => rw [e] at z; cases z; exact (fStp_s e).1
  have g : sg_F [69, 9061, 18077, 19077, 25061] σ8 σ' := sg_F_t (sg_F_m f32 rfl) (sg_F_m f' rfl)
  have b1 := (ctX_F (σ' := σ32) f32 rfl hs).1
  have b2 := z2.1
  have b3 := z2.2.2.2.1
  refine k s1 z σ' ⟨sg_F_t a1 (sg_F_m f' rfl), ⟨yG_F m1 f' rfl, y0_F m2 f' rfl, z1, by rw [sg_F_g (a := 77) (k := 10) f' (by rfl)]; omega, by omega⟩, ⟨by rw [sg_F_g f' (by rfl)]; exact a3, by rw [sg_F_g f' (by rfl)]; exact a4, by rw [sg_F_g f' (by rfl)]; exact a5, by rw [sg_F_g f' (by rfl)]; exact a6⟩, a7, a8, a9, by omega⟩ z2 ?_ z3 (fun x => sg_F_ga g rfl)
  refine ⟨yEx_F g rfl, fun i _ => sg_F_ga g rfl, fun b _ _ hr => rlY_X hr (yEx_F g rfl) (sg_F_ga g rfl), fun i _ => ⟨sg_F_ga g rfl, sg_F_ga g rfl⟩, fun x _ hx => ⟨?_, sg_F_ga g rfl, sg_F_ga g rfl⟩, fun q _ => sg_F_ga g rfl⟩
  rw [z4 x (by simpa using hx), sg_F_ga f32 rfl]
/-- what an operation comes to -/
theorem zy_fn {σ32 σ' : sg_S} {k ty x a : Int} {vs : List (List vaF)} (h : bP σ σ8 (t + a) sv N c p) (h0 : 0 ≤ t ∧ 0 ≤ a) (h32 : bP σ σ32 (t + a) sv N c (p + 1)) (f32 : sg_F [9061] σ8 σ32) (f' : sg_F fnL σ32 σ') (r : fnX σ32 σ' ty.toNat (fOl k ty x vs N) t c s) (hm : 6 * (2001 - s.1) + cr ≤ (m : Int) + 1) (kk : kY σ A D vb lev j X σ8 ρ t sv c (p + 1) cr nl dix [] N ty.toNat (fWk k ty x vs N s ρ)) : Ry σ X m σ' := by
  obtain ⟨a1, a2, ⟨a3, a4, a5, a6⟩, a7, a8, a9, a10⟩ := h32
  have FF : sg_F bRL σ σ' := sg_F_t a1 (sg_F_m f' rfl)
  unfold fWk at kk
  rcases r with ⟨z1, z2, z3⟩ | ⟨s1, z1, z2, z3, z4⟩
  · rw [z1] at kk
    exact ry_s (by rw [z2]; decide) (kk σ' FF z2 z3 (by show ¬ (8 : Int) = 0; decide))
  · rw [z1] at kk
    have st := (fStp_s z1).1
    by_cases e : fOe (fOl k ty x vs N) = 0
    · simp only [e, if_true] at kk
      obtain ⟨q1, q2, q3, q4, q5⟩ := z4 e
      have q : sg_F (9061 :: fnL) σ8 σ' := sg_F_t (sg_F_m f32 rfl) (sg_F_m f' rfl)
      exact kk σ' m (by show 6 * (2001 - s1.1) + cr ≤ (m : Int); omega) ⟨FF, q1, ⟨q4, by rw [sg_F_g f' (by rfl)]; exact a4, by rw [sg_F_g f' (by rfl)]; exact a5, by rw [sg_F_g f' (by rfl)]; exact a6⟩, a7, by omega, a9, a10⟩ z2 (yU_F q (yEx_t (yEx_F f32 rfl) q2) rfl (fun i hi => by rw [q5 i hi, sg_F_ga f32 rfl])) q3
    · simp only [e, if_false] at kk
      exact ry_s (by rw [z3]; exact e) (kk σ' FF z3 z2 e)
theorem zy_one {k ta x : Int} {la : List vaF} (h : bP σ σ8 (t + 1) sv N c p) (hs : ctX σ8 s) (hc : 4 ≤ c) (ht : t < 400 ∧ 0 ≤ t) (hp : pl σ p ((2, n) :: C)) (hn : 0 ≤ n ∧ n < 200) (h3 : sg_g σ 3 n = kmp k) (h6 : sg_g σ 6 n ≤ 3) (hta : 0 ≤ ta ∧ ta ≤ 3) (hv : yX σ8 ta.toNat (sg_g σ8 64 t) la) (hla : la.length = N) (ho : op1 k ta (sg_g σ 6 n)) (hm : 6 * (2001 - s.1) + cr ≤ (m : Int) + 1) (kk : kY σ A D vb lev j X σ8 ρ t sv c (p + 1) cr nl dix [] N (sg_g σ 6 n).toNat (fWk k (sg_g σ 6 n) x [la] N s ρ)) : Ry σ X (m + 1) σ8 := by
  obtain ⟨p0, p1, p2, p3⟩ := pl_c hp
  refine ry_2 (p := p) (k := n) h.2.2.1.2.2.2 p0 h.2.1.2.2.1 p1 p2 (fun σ32 e32 => ?_)
  obtain ⟨h32, f32⟩ := bP_32 h ⟨p0.2, p0.1⟩ e32
  obtain ⟨a1, a2, ⟨a3, a4, a5, a6⟩, a7, a8, a9, a10⟩ := id h32
  exact fin1X (k := k) (ta := ta) (ty := sg_g σ 6 n) (x := x) (s := s) hn a2 (ctX_F f32 rfl hs) hc a3 ⟨by omega, by omega⟩ a5 (by omega) (by rw [sg_F_ga a1 rfl]; exact h3) (sg_F_ga a1 rfl) h6 hta (by rw [sg_F_ga f32 rfl]; exact yX_up (yEx_F f32 rfl) hv) hla ho (fun σ' f' r' _ => zy_fn (a := 1) h ⟨ht.2, by omega⟩ h32 f32 f' r' hm kk)
theorem zy_two {k ta tb x : Int} {la lb : List vaF} (h : bP σ σ8 (t + 2) sv N c p) (hs : ctX σ8 s) (hc : 4 ≤ c) (ht : t + 2 ≤ 400 ∧ 0 ≤ t) (hp : pl σ p ((3, n) :: C)) (hn : 0 ≤ n ∧ n < 200) (h3 : sg_g σ 3 n = kmp k) (h6 : sg_g σ 6 n ≤ 3) (hta : 0 ≤ ta ∧ ta ≤ 3) (hv : yX σ8 ta.toNat (sg_g σ8 64 t) la) (hw : yX σ8 tb.toNat (sg_g σ8 64 (t + 1)) lb) (hla : la.length = N) (hlb : lb.length = N) (ho : op2 k ta tb (sg_g σ 6 n)) (hm : 6 * (2001 - s.1) + cr ≤ (m : Int) + 1) (kk : kY σ A D vb lev j X σ8 ρ t sv c (p + 1) cr nl dix [] N (sg_g σ 6 n).toNat (fWk k (sg_g σ 6 n) x [la, lb] N s ρ)) : Ry σ X (m + 1) σ8 := by
  obtain ⟨p0, p1, p2, p3⟩ := pl_c hp
  refine ry_3 (p := p) (k := n) h.2.2.1.2.2.2 p0 h.2.1.2.2.1 p1 p2 (fun σ32 e32 => ?_)
  obtain ⟨h32, f32⟩ := bP_32 h ⟨p0.2, p0.1⟩ e32
  obtain ⟨a1, a2, ⟨a3, a4, a5, a6⟩, a7, a8, a9, a10⟩ := id h32
  exact fin2X (k := k) (ta := ta) (tb := tb) (ty := sg_g σ 6 n) (x := x) (s := s) hn a2 (ctX_F f32 rfl hs) hc a3 ⟨by omega, by omega⟩ a5 (by omega) (by rw [sg_F_ga a1 rfl]; exact h3) (sg_F_ga a1 rfl) h6 hta (by rw [sg_F_ga f32 rfl]; exact yX_up (yEx_F f32 rfl) hv) (by rw [sg_F_ga f32 rfl]; exact yX_up (yEx_F f32 rfl) hw) hla hlb ho (fun σ' f' r' _ => zy_fn (a := 2) h ⟨ht.2, by omega⟩ h32 f32 f' r' hm kk)
/-- a NUMBER -/
theorem zy_num {x : Int} (h : bP σ σ8 t sv N c p) (hs : ctX σ8 s) (hc : 4 ≤ c) (ht : t < 400 ∧ 0 ≤ t) (hp : pl σ p ((1, n) :: C)) (hn : 0 ≤ n ∧ n < 200) (h3 : sg_g σ 3 n = 257) (h6 : sg_g σ 6 n = 0) (h5 : sg_g σ 5 n = x) (hm : 6 * (2001 - s.1) + cr ≤ (m : Int) + 1) (kk : kY σ A D vb lev j X σ8 ρ t sv c (p + 1) cr nl dix [] N (sg_g σ 6 n).toNat (fWk 0 (sg_g σ 6 n) x [] N s ρ)) : Ry σ X (m + 1) σ8 := by
  obtain ⟨p0, p1, p2, p3⟩ := pl_c hp
  refine ry_1 (p := p) (k := n) h.2.2.1.2.2.2 p0 h.2.1.2.2.1 p1 p2 (fun σ32 e32 => ?_)
  obtain ⟨h32, f32⟩ := bP_32 h ⟨p0.2, p0.1⟩ e32
  obtain ⟨a1, a2, ⟨a3, a4, a5, a6⟩, a7, a8, a9, a10⟩ := id h32
  obtain ⟨m1, m2, m3, m4, m5⟩ := id a2
  have hs32 := ctX_F (σ' := σ32) f32 rfl hs
  unfold V_mFinish
  rw [xa_in (a := 6) hn, xa_in (a := 3) hn, xa_in (a := 5) hn, show sg_g σ32 6 n = 0 by rw [sg_F_ga a1 rfl]; exact h6, show sg_g σ32 3 n = 257 by rw [sg_F_ga a1 rfl]; exact h3, show sg_g σ32 5 n = x by rw [sg_F_ga a1 rfl]; exact h5]
  intro σ1 e1
  have f1 : sg_F [10061] σ32 σ1 := by rw [e1]; exact sg_F_w (sg_F_r _ _) rfl _
  refine ⟨fun _ => ?_, fun z => absurd rfl z⟩
  refine o_constant (t := t) (n := N) (s := s) (f := fO1 0 (sg_g σ 6 n) x []) (fP_mk (t := t) ⟨m1, m2, by omega, m5, by omega⟩ f1 (by rw [sg_F_g f1 (by rfl)]; exact a3) ⟨by omega, by omega⟩ rfl) (ctX_F f1 rfl hs32) (by rw [e1, sg_gw_e _ _ _ _ (by decide)]) (by rw [sg_F_g f1 (by rfl)]; exact a5) (by rw [← h5]; exact sg_Rg _ _ _) (fun i hi => rfl) (fun σ' f' r' _ _ => ?_)
  refine zy_fn (a := 0) (t := t) (k := 0) (ty := sg_g σ 6 n) (x := x) (vs := []) (by rw [Int.add_zero]; exact h) ⟨ht.2, by omega⟩ (by rw [Int.add_zero]; exact h32) f32 (sg_F_t (sg_F_m f1 rfl) (sg_F_m f' rfl)) ?_ hm kk
  rw [show (sg_g σ 6 n).toNat = 0 by omega]
  exact gw_fn a2 hs32 f1 rfl r'
/-- a ROW -/
theorem zy_row {x : Int} {d : Nat} {vs : List (List vaF)} (h : bP σ σ8 (t + vs.length) sv N c p) (hs : ctX σ8 s) (hc : 4 ≤ c) (ht : t + vs.length ≤ 400 ∧ 0 ≤ t) (ha : 1 ≤ vs.length ∧ vs.length ≤ 200) (hp : pl σ p ((1, n) :: C)) (hn : 0 ≤ n ∧ n < 200) (h3 : sg_g σ 3 n = 279) (h10 : sg_g σ 10 n = vs.length) (h6 : sg_g σ 6 n = (d + 1 : Nat)) (hd : d + 1 ≤ 3) (hv : ∀ i : Nat, i < vs.length → yX σ8 d (sg_g σ8 64 (t + i)) (vs.getD i []) ∧ (vs.getD i []).length = N) (hm : 6 * (2001 - s.1) + cr ≤ (m : Int) + 1) (kk : kY σ A D vb lev j X σ8 ρ t sv c (p + 1) cr nl dix [] N (sg_g σ 6 n).toNat (fWk 14 (sg_g σ 6 n) x vs N s ρ)) : Ry σ X (m + 1) σ8 := by
  obtain ⟨p0, p1, p2, p3⟩ := pl_c hp
  refine ry_1 (p := p) (k := n) h.2.2.1.2.2.2 p0 h.2.1.2.2.1 p1 p2 (fun σ32 e32 => ?_)
  obtain ⟨h32, f32⟩ := bP_32 h ⟨p0.2, p0.1⟩ e32
  obtain ⟨a1, a2, ⟨a3, a4, a5, a6⟩, a7, a8, a9, a10⟩ := id h32
  obtain ⟨m1, m2, m3, m4, m5⟩ := id a2
  have hs32 := ctX_F (σ' := σ32) f32 rfl hs
  unfold V_mFinish
  rw [xa_in (a := 6) hn, xa_in (a := 3) hn, xa_in (a := 10) hn, show sg_g σ32 6 n = (d + 1 : Nat) by rw [sg_F_ga a1 rfl]; exact h6, show sg_g σ32 3 n = 279 by rw [sg_F_ga a1 rfl]; exact h3, show sg_g σ32 10 n = vs.length by rw [sg_F_ga a1 rfl]; exact h10]
  intro σ1 e1
  have f1 : sg_F [10061] σ32 σ1 := by rw [e1]; exact sg_F_w (sg_F_r _ _) rfl _
  refine ⟨fun z => absurd z (by decide), fun _ => ⟨fun z => absurd z (by decide), fun _ => ⟨fun _ => ?_, fun z => absurd rfl z⟩⟩⟩
  refine o_row (t := t) (n := N) (d := d) (s := s) (f := fO1 14 (sg_g σ 6 n) x vs) ⟨yG_F m1 f1 rfl, y0_F m2 f1 rfl, by rw [sg_F_g f1 (by rfl), sg_F_g f1 (by rfl)]; omega, by rw [sg_F_g f1 (by rfl)]; exact m5, by rw [sg_F_g f1 (by rfl)]; omega⟩ (ctX_F f1 rfl hs32) (by rw [sg_F_g f1 (by rfl)]; exact a3) ⟨by omega, by omega⟩ ha hd (by rw [e1, sg_gw_e _ _ _ _ ⟨by omega, by omega⟩]) (by rw [sg_F_g f1 (by rfl)]; exact a5) (fun i hi => ⟨by rw [sg_F_ga f1 rfl, sg_F_ga f32 rfl]; exact yX_up (yEx_F f1 rfl) (yX_up (yEx_F f32 rfl) (hv i hi).1), (hv i hi).2⟩) (fun i hi => fO_14) (fun σ' f' r' _ _ => ?_)
  refine zy_fn (a := vs.length) (t := t) (k := 14) (ty := sg_g σ 6 n) (x := x) (vs := vs) h ⟨ht.2, by omega⟩ h32 f32 (sg_F_t (sg_F_m f1 rfl) (sg_F_m f' rfl)) ?_ hm kk
  rw [show (sg_g σ 6 n).toNat = d + 1 by omega]
  exact gw_fn a2 hs32 f1 rfl r'
/-- a NAME -/
theorem zy_name {sl : Int} {v : List vaF} (h : bP σ σ8 t sv N c p) (hs : ctX σ8 s) (ht : t < 400 ∧ 0 ≤ t) (hp : pl σ p ((1, n) :: C)) (hn : 0 ≤ n ∧ n < 200) (h3 : sg_g σ 3 n = 258) (h16 : sg_g σ 16 n = sl) (hsl : 0 ≤ sl ∧ sl < 272) (hv : yX σ8 (sg_g σ 6 n).toNat (sg_g σ8 62 sl) v) (hm : 6 * (2001 - s.1) + cr ≤ (m : Int)) (kk : kY σ A D vb lev j X σ8 ρ t sv c (p + 1) cr nl dix [] N (sg_g σ 6 n).toNat (.inr (v, s, ρ))) : Ry σ X (m + 1) σ8 := by
  obtain ⟨p0, p1, p2, p3⟩ := pl_c hp
  refine ry_1 (p := p) (k := n) h.2.2.1.2.2.2 p0 h.2.1.2.2.1 p1 p2 (fun σ32 e32 => ?_)
  obtain ⟨h32, f32⟩ := bP_32 h ⟨p0.2, p0.1⟩ e32
  obtain ⟨a1, a2, ⟨a3, a4, a5, a6⟩, a7, a8, a9, a10⟩ := id h32
  unfold V_mFinish
  rw [xa_in (a := 16) hn, xa_in (a := 3) hn, show sg_g σ32 16 n = sl by rw [sg_F_ga a1 rfl]; exact h16, show sg_g σ32 3 n = 258 by rw [sg_F_ga a1 rfl]; exact h3, xa_in (a := 62) hsl]
  intro σ1 e1
  have f1 : sg_F [10061] σ32 σ1 := by rw [e1]; exact sg_F_w (sg_F_r _ _) rfl _
  refine ⟨fun z => absurd z (by decide), fun _ => ⟨fun _ => ?_, fun z => absurd rfl z⟩⟩
  refine y_push (t := t) (by rw [sg_F_g f1 (by rfl)]; exact a3) ⟨ht.2, ht.1⟩ (sg_Rg _ _ _) (fun σ' f' z1 z2 z3 _ _ => ?_)
  have F : sg_F [64, 8061, 9061, 10061] σ8 σ' := sg_F_t (sg_F_t (sg_F_m f32 rfl) (sg_F_m f1 rfl)) (sg_F_m f' rfl)
  have F2 : sg_F [64, 8061, 10061] σ32 σ' := sg_F_t (sg_F_m f1 rfl) (sg_F_m f' rfl)
  refine kk σ' m hm ⟨sg_F_t h.1 (sg_F_m F rfl), mC_F h.2.1 F rfl, ⟨z1, by rw [sg_F_g F2 (by rfl)]; exact a4, by rw [sg_F_g F2 (by rfl)]; exact a5, by rw [sg_F_g F2 (by rfl)]; exact a6⟩, a7, by omega, a9, a10⟩ (ctX_F F rfl hs) (yU_F F (yEx_F F rfl) rfl (fun i hi => by rw [z3 i (by omega), sg_F_ga f1 rfl, sg_F_ga f32 rfl])) ?_
  rw [z2, sg_F_ga f32 rfl]
  exact yX_up (yEx_F F rfl) hv
end CTS
/-! BIG STEPS of the class's flat run, exactly: a node, parts one after another, operations. -/
/-- slots of a scope -/
def slQ (σ : sg_S) (sc : List (Int × Int)) (b : Int) : Prop := ∀ q ∈ sc, slF σ q.1 < b ∧ sg_g σ 34 (slF σ q.1) = q.2 ∧ kIn q.2
theorem slQ_m {σ : sg_S} {sc : List (Int × Int)} {b b2 : Int} (h : slQ σ sc b) (hb : b ≤ b2) : slQ σ sc b2 := fun q hq => ⟨by have := (h q hq).1; omega, (h q hq).2⟩
section CUD
variable (σ : sg_S) (A : aT) (D : List aDf) (vb : Int → Prop) (X : sg_S → Prop)
/-- what parts are followed by -/
def kYr (lev : Int → Nat) (j : Nat) (σ8 : sg_S) (ρ : fEv) (t sv c p cr nl dix : Int) (L R : List Int) (N : Nat) : fRl → Prop
  | .inl e => ∀ σ', sg_F bRL σ σ' → sg_g σ' 61 10 = e.1 → ctX σ' e.2 → ¬ e.1 = 0 → X σ'
  | .inr r => ∀ (σ' : sg_S) (m' : Nat), r.1.length = R.length → 6 * (2001 - r.2.1.1) + cr ≤ (m' : Int) → bP σ σ' (t + R.length) sv N c p → ctX σ' r.2.1 → yU σ A D vb lev j σ8 σ' ρ r.2.2 t sv nl dix L → (∀ (i : Nat) (x : Int), R[i]? = some x → yX σ' (sg_g σ 6 x).toNat (sg_g σ' 64 (t + i)) (r.1.getD i []) ∧ (r.1.getD i []).length = N) → Ry σ X m' σ'
/-- the big step of a node -/
def yN (B : Int → Int) (lev : Int → Nat) (O : Int → Nat → List Int) (call : Int → Nat → fEv → fSt → fRs) (j : Nat) (nl dix : Int) (f : Nat) : Prop := ∀ (n : Int) (L es : List Int) (sc : List (Int × Int)) (b b' p : Int) (h : Nat), stN A D (sg_g σ 6) B lev j f L sc n → (∀ x ∈ L, nl ≤ x ∧ lyQ σ A D B dix x) → gRq σ A L → scN σ A dix f es n b b' → slQ σ sc b → htN A f n ≤ h → pl σ p (cd A f n) → b' ≤ 272 → ∀ (σ8 : sg_S) (m : Nat) (ρ : fEv) (t sv c cr : Int) (N : Nat) (s : fSt), bP σ σ8 t sv N c p → ctX σ8 s → scY σ A D vb σ8 ρ N sc → t + L.length + nl ≤ 400 → sv + ((h * L.length : Nat) : Int) + 12 * nl ≤ 2400 → 6 * (2001 - s.1) + cr ≤ (m : Int) → 0 ≤ cr → kY σ A D vb lev j X σ8 ρ t sv c (p + (cd A f n).length) cr nl dix L N (sg_g σ 6 n).toNat (fxN A D (sg_g σ 6) B O call f n N ρ s) → Ry σ X m σ8
end CUD
section CUS
variable {σ : sg_S} {A : aT} {D : List aDf} {vb : Int → Prop} {X : sg_S → Prop} {B : Int → Int} {lev : Int → Nat} {O : Int → Nat → List Int} {call : Int → Nat → fEv → fSt → fRs} {j : Nat} {nl dix : Int} {f : Nat}
theorem yRow (hnl : 0 ≤ nl) (hP : fPu A D (sg_g σ 6) B lev O call j f) (F : yN σ A D vb X B lev O call j nl dix f) {n0 : Int} {es : List Int} {sc : List (Int × Int)} {h N : Nat} : ∀ (R L : List Int) (st : Nat) (b b' p : Int), fT A R L → L.Nodup → (∀ y ∈ L, (0 ≤ y ∧ y < A.1) ∧ lev y = j) → (∀ q ∈ sc, rb A q.1 ∧ ¬ ow lev j L q.1) → (∀ x ∈ L, nl ≤ x ∧ lyQ σ A D B dix x) → gRq σ A L → (∀ x ∈ R, tyN A (kDl (D.take j) []) (sg_g σ 6) B f sc x) → scS σ A (scN σ A dix f) n0 st es b R b' → (∀ i, st ≤ i → i < st + R.length → kQ A n0 i) → slQ σ sc b → (∀ x ∈ R, htN A f x ≤ h) → pl σ p (cdS A (cd A f) n0 st R) → b' ≤ 272 → ∀ (σ8 : sg_S) (m : Nat) (ρ : fEv) (t sv c cr : Int) (s : fSt), bP σ σ8 t sv N c p → ctX σ8 s → scY σ A D vb σ8 ρ N sc → t + L.length + nl ≤ 400 → sv + ((h * L.length : Nat) : Int) + 12 * nl ≤ 2400 → 6 * (2001 - s.1) + cr ≤ (m : Int) → 0 ≤ cr → kYr σ A D vb X lev j σ8 ρ t sv c (p + (cdS A (cd A f) n0 st R).length) cr nl dix L R N (fSq (fun x => fxN A D (sg_g σ 6) B O call f x N) R ρ s) → Ry σ X m σ8
  | [], L, st, b, b', p, hf, hN, hlv, hsc, hL, hg, hty, hss, hq, hsl, hh, hp, hb, σ8, m, ρ, t, sv, c, cr, s, h8, h9, hS, ht, hv, hm, hcr, k => by
    simp only [fSq, kYr, cdS, List.length_nil, Int.ofNat_zero, Int.cast_ofNat_Int, Int.add_zero] at k
    exact k σ8 m trivial hm h8 h9 yU_r (fun i x hx => by simp at hx)
  | x :: R, L, st, b, b', p, hf, hN, hlv, hsc, hL, hg, hty, hss, hq, hsl, hh, hp, hb, σ8, m, ρ, t, sv, c, cr, s, h8, h9, hS, ht, hv, hm, hcr, k => by
    obtain ⟨L1, L2, e1, w1, w2, w3⟩ := fT_inv hf
    subst e1
    obtain ⟨q1, q2⟩ := hq st (Nat.le_refl _) (by simp)
    simp only [scS] at hss
    obtain ⟨-, b2, s2, s3⟩ := hss
    obtain ⟨e1, e2⟩ := esA_no q2 es b
    rw [e1, e2] at s2
    rw [e1] at s3
    simp only [cdS] at hp k
    rw [q1, List.nil_append] at hp k
    obtain ⟨p1, p2⟩ := pl_a hp
    have l1 := scN_le _ _ _ _ _ s2
    have l2 := scS_le (fun es x b b' => scN_le f es x b b') _ _ _ _ _ s3
    have i1 : ∀ y, y ∈ x :: L1 → y ∈ x :: (L1 ++ L2) := fun y hy => by rw [← List.cons_append]; exact List.mem_append_left _ hy
    have i2 : ∀ y, y ∈ L2 → y ∈ x :: (L1 ++ L2) := fun y hy => by rw [← List.cons_append]; exact List.mem_append_right _ hy
    have hN1 : (x :: L1).Nodup := List.Nodup.sublist (by rw [← List.cons_append]; exact List.sublist_append_left _ _) hN
    have hN2 : L2.Nodup := List.Nodup.sublist (by rw [← List.cons_append]; exact List.sublist_append_right _ _) hN
    have hl : (x :: (L1 ++ L2)).length = (x :: L1).length + L2.length := by rw [← List.cons_append, List.length_append]
    have hl1 : 1 ≤ (x :: L1).length := by simp
    have hx : stN A D (sg_g σ 6) B lev j f (x :: L1) sc x := ⟨hty x (by simp), fT_one w1 w2, hN1, fun y hy => hlv y (i1 y hy), fun q hq' => ⟨(hsc q hq').1, fun w => (hsc q hq').2 (ow_s i1 w)⟩⟩
    have pu := hP x (x :: L1) sc hx N ρ s
    refine F x (x :: L1) es sc b b2 p h hx (fun y hy => hL y (i1 y hy)) (gR_s hg i1) s2 hsl (hh x (by simp)) p1 (by omega) σ8 m ρ t sv c cr N s h8 h9 hS (by omega) ?_ hm hcr ?_
    · have := Nat.mul_le_mul_left h (show (x :: L1).length ≤ (x :: (L1 ++ L2)).length by omega)
      omega
    simp only [fSq] at k
    generalize er : fxN A D (sg_g σ 6) B O call f x N ρ s = r at k pu
    match r, k, pu with
    | .inl e, k, _ => exact k
    | .inr (v, s1, ρ1), k, pu =>
      obtain ⟨lv, kv⟩ := pu v s1 ρ1 (fun q hq' => (hS q hq').2.2.2) rfl
      intro σ1 m1 hm1 h1 c1 u1 v1
      have S1 := scY_u hS u1 (fun q hq' => kv q.1 (fun w => (hsc q hq').2 (ow_s i1 w))) (fun q hq' w => (hsc q hq').2 (ow_s i1 w))
      refine yRow hnl hP F R L2 (st + 1) b2 b' (p + (cd A f x).length) w3 hN2 (fun y hy => hlv y (i2 y hy)) (fun q hq' => ⟨(hsc q hq').1, fun w => (hsc q hq').2 (ow_s i2 w)⟩) (fun y hy => hL y (i2 y hy)) (gR_s hg i2) (fun y hy => hty y (by simp [hy])) s3 (fun i a b => hq i (by omega) (by simp only [List.length_cons]; omega)) (slQ_m hsl l1) (fun y hy => hh y (by simp [hy])) p2 hb σ1 m1 ρ1 (t + 1) sv c cr s1 h1 c1 S1 (by omega) ?_ hm1 hcr ?_
      · have := Nat.mul_le_mul_left h (show L2.length ≤ (x :: (L1 ++ L2)).length by omega)
        omega
      simp only at k
      generalize fSq (fun x => fxN A D (sg_g σ 6) B O call f x N) R ρ1 s1 = r2 at k
      match r2, k with
      | .inl e, k => exact k
      | .inr (vs, s2', ρ2), k =>
        intro σ2 m2 le2 hm2 h2 c2 u2 v2
        refine k σ2 m2 (by simp only [List.length_cons] at le2 ⊢; omega) hm2 ?_ c2 (yU_t u1 u2 ⟨Int.le_refl _, by omega⟩ ⟨Int.le_refl _, Int.le_refl _⟩ i1 i2) (fun i y hy => ?_)
        · simp only [List.length_cons, List.length_append]
          rw [show t + ((R.length + 1 : Nat) : Int) = t + 1 + R.length by omega, show p + (((cd A f x).length + (cdS A (cd A f) n0 (st + 1) R).length : Nat) : Int) = p + (cd A f x).length + (cdS A (cd A f) n0 (st + 1) R).length by omega]
          exact h2
        · cases i with
          | zero =>
            simp only [List.getElem?_cons_zero, Option.some.injEq] at hy
            subst hy
            simp only [Int.ofNat_zero, Int.cast_ofNat_Int, Int.add_zero]
            rw [u2.2.1 t (by omega)]
            exact ⟨yX_up u2.1 v1, lv⟩
          | succ i =>
            simp only [List.getElem?_cons_succ] at hy
            have := v2 i y hy
            rw [show t + 1 + (i : Int) = t + ((i + 1 : Nat) : Int) by omega] at this
            exact this
/-- an operation at the end of a node -/
theorem kY_m {σ8 σ2 : sg_S} {ρ ρ2 : fEv} {t sv c c' p p' cr : Int} {L : List Int} {N d : Nat} {r : fRs} (hk : kY σ A D vb lev j X σ8 ρ t sv c p cr nl dix L N d r) (hu : yU σ A D vb lev j σ8 σ2 ρ ρ2 t sv nl dix L) (hc : 0 ≤ c ∧ c ≤ c') (hp : p' = p) : kY σ A D vb lev j X σ2 ρ2 t sv c' p' cr nl dix [] N d r := by
  subst hp
  cases r with
  | inl e => exact hk
  | inr r => exact fun σ' m' hm h1 h2 h3 h4 => hk σ' m' hm (bP_m h1 hc) h2 (yU_t hu h3 ⟨Int.le_refl _, Int.le_refl _⟩ ⟨Int.le_refl _, Int.le_refl _⟩ (fun _ hx => hx) (by simp)) h4
end CUS
/-! BIG STEPS of the class's flat run, exactly: operations, let. -/
section CVS
variable {σ : sg_S} {A : aT} {D : List aDf} {vb : Int → Prop} {X : sg_S → Prop} {B : Int → Int} {lev : Int → Nat} {O : Int → Nat → List Int} {call : Int → Nat → fEv → fSt → fRs} {j : Nat} {nl dix : Int} {f : Nat}
theorem vs_1 {vs : List (List vaF)} (h : vs.length = 1) : vs = [vs.getD 0 []] := by
  match vs, h with
  | [a], _ => rfl
theorem vs_2 {vs : List (List vaF)} (h : vs.length = 2) : vs = [vs.getD 0 [], vs.getD 1 []] := by
  match vs, h with
  | [a, b], _ => rfl
theorem fBg_s {N : Nat} {s s1 : fSt} (h : fBg N s = some s1) : s1.1 = s.1 + 1 := by
  unfold fBg at h
  cases e : fStp 0 s with
  | none => rw [e] at h; cases h
  | some s0 => rw [e] at h; cases h; exact (fStp_s e).1
theorem yN_op (hW : ckW σ A) (hSl : slA σ vb) (hnl : 0 ≤ nl) (hP : fPu A D (sg_g σ 6) B lev O call j f) (F : yN σ A D vb X B lev O call j nl dix f) {n : Int} {L1 es : List Int} {sc : List (Int × Int)} {b b' p : Int} {h : Nat} (hk : A.2.1 n = 0 ∨ A.2.1 n = 1 ∨ A.2.1 n = 14 ∨ (4 ≤ A.2.1 n ∧ A.2.1 n ≤ 12) ∨ 16 ≤ A.2.1 n) (hf : fT A (A.2.2.2.2.1 n) L1) (hst : stN A D (sg_g σ 6) B lev j (f + 1) (n :: L1) sc n) (hL : ∀ x ∈ n :: L1, nl ≤ x ∧ lyQ σ A D B dix x) (hg : gRq σ A (n :: L1)) (hsc : scN σ A dix (f + 1) es n b b') (hsl : slQ σ sc b) (hh : htN A (f + 1) n ≤ h) (hp : pl σ p (cd A (f + 1) n)) (hb : b' ≤ 272) {σ8 : sg_S} {m : Nat} {ρ : fEv} {t sv c cr : Int} {N : Nat} {s : fSt} (h8 : bP σ σ8 t sv N c p) (h9 : ctX σ8 s) (hS : scY σ A D vb σ8 ρ N sc) (ht : t + (n :: L1).length + nl ≤ 400) (hv : sv + ((h * (n :: L1).length : Nat) : Int) + 12 * nl ≤ 2400) (hm : 6 * (2001 - s.1) + cr ≤ (m : Int)) (hcr : 0 ≤ cr) (k : kY σ A D vb lev j X σ8 ρ t sv c (p + (cd A (f + 1) n).length) cr nl dix (n :: L1) N (sg_g σ 6 n).toNat (fxN A D (sg_g σ 6) B O call (f + 1) n N ρ s)) : Ry σ X m σ8 := by
  obtain ⟨hty, -, hN0, hlv, hsco⟩ := hst
  obtain ⟨t1, t2, t3, t4, t5, t6, t7, t8, t9⟩ := hty
  obtain ⟨c1, c2⟩ := ck3 hW t2
  have hN := (List.nodup_cons.mp hN0).2
  have n2 : ¬ A.2.1 n = 2 := by omega
  have n3 : ¬ A.2.1 n = 3 := by omega
  have n15 : ¬ A.2.1 n = 15 := by omega
  have n13 : ¬ A.2.1 n = 13 := by omega
  have ho : kOrd A n = A.2.2.2.2.1 n := by unfold kOrd; rw [if_neg n15]
  have ly := (hL n (by simp)).2
  obtain ⟨-, s1', -, s2⟩ := hsc
  rw [ho] at s2
  simp only [cd] at hp k
  rw [ho] at hp k
  have p0 := pl_c hp
  obtain ⟨p1, p2⟩ := pl_a p0.2.2.2
  obtain ⟨g1, g2⟩ := t3
  have ll := fT_len hf
  simp only [List.length_cons] at ht hv
  have hmul : sv + ((h * L1.length : Nat) : Int) + 12 * nl ≤ 2400 := by
    have := Nat.mul_le_mul_left h (show L1.length ≤ L1.length + 1 by omega)
    omega
  obtain ⟨w1, w2, w3, w4, w5, w6, w7, w8⟩ := id t1
  have hty0 : ¬ A.2.1 n = 1 → kTy A (kDl (D.take j) []) (sg_g σ 6) [] n ((A.2.2.2.2.1 n).map (sg_g σ 6)) = some (sg_g σ 6 n) := t5
  have kin : ∀ x ∈ A.2.2.2.2.1 n, kIn (sg_g σ 6 x) := fun x hx => by
    have := t9 n2 n15 x hx
    cases f with
    | zero => exact this.elim
    | succ f => exact this.2.2.1
  have c0 := h8.2.2.2.2.2.2
  have tb := h8.2.2.2.2.1
  have sb := h9.2.2.2.1
  obtain ⟨m, rfl⟩ : ∃ m', m = m' + 1 := ⟨m - 1, by omega⟩
  simp only [fxN] at k
  refine zy_begin (A := A) (D := D) (vb := vb) (lev := lev) (j := j) (ρ := ρ) (nl := nl) (dix := dix) h8 h9 hp ⟨t2.1, c2⟩ (fun z σ' f' e' w' => ?_) (fun s1 z σ1 h1 x1 u1 e69 v64 => ?_)
  · rw [z] at k
    exact k σ' f' e' w' (by show ¬ (8 : Int) = 0; decide)
  have st1 := fBg_s z
  rw [z] at k
  simp only at k
  have u1' : yU σ A D vb lev j σ8 σ1 ρ ρ t sv nl dix (n :: L1) := yU_w u1 ⟨Int.le_refl _, Int.le_refl _⟩ (Int.le_refl _) (Int.le_refl _) (fun x hx _ => by simp at hx; simp [hx]) (fun b w => ow_s (fun y hy => by simp at hy; simp [hy]) w)
  by_cases k1 : A.2.1 n = 1
  · -- NAME
    rw [if_pos k1] at k
    have hl : A.2.2.2.2.1 n = [] := List.eq_nil_of_length_eq_zero (w2 (by omega))
    have hcn : cnc A n = [(1, n)] := by unfold cnc; rw [if_neg n2, if_neg n3, if_neg n13, if_neg n15, if_pos (Or.inr (Or.inl k1))]
    rw [hcn, hl] at p2
    rw [hcn, hl] at k
    simp only [cdS, List.length_nil, List.nil_append, List.length_cons, Int.ofNat_zero, Int.cast_ofNat_Int, Int.add_zero] at p2 k
    obtain ⟨q1, q2, q3, q4⟩ := hS _ (t4 k1)
    have v1 := u1.2.2.1 _ q1 (fun w => (hsco _ (t4 k1)).2 (ow_s (fun y hy => by simp at hy; simp [hy]) w)) q3
    unfold rlY at v1
    rw [← q2] at v1
    obtain ⟨m, rfl⟩ : ∃ m', m = m' + 1 := ⟨m - 1, by omega⟩
    exact zy_name (A := A) (D := D) (vb := vb) (sl := slF σ (B n)) (v := ρ (B n)) (cr := cr) (nl := nl) (dix := dix) h1 x1 ⟨by omega, tb⟩ p2 ⟨t2.1, c2⟩ (by rw [c1, k1]; rfl) (ly.2.1 k1) (hSl.1 _ q1) v1 (by omega) (kY_m k u1' ⟨c0, by omega⟩ (by omega))
  · rw [if_neg k1, if_neg n2, if_neg n3, if_neg n13, if_neg n15] at k
    refine yRow hnl hP F (A.2.2.2.2.1 n) L1 0 b b' (p + 1) hf hN (fun y hy => hlv y (by simp [hy])) (fun q hq => ⟨(hsco q hq).1, fun w => (hsco q hq).2 (ow_s (fun y hy => by simp [hy]) w)⟩) (fun x hx => hL x (by simp [hx])) (gR_s hg (fun x hx => by simp [hx])) (t9 n2 n15) s2 (fun i _ _ => kQ_o n2 n3 n15) hsl (fun x hx => ht_k hh hx) p1 hb σ1 m ρ t sv (c + 4) (cr + 5) s1 h1 x1 (scY_u hS u1 (fun _ _ => rfl) (fun q hq w => (hsco q hq).2 (ow_s (fun y hy => by simp at hy; simp [hy]) w))) (by omega) hmul (by omega) (by omega) ?_
    generalize fSq (fun x => fxN A D (sg_g σ 6) B O call f x N) (A.2.2.2.2.1 n) ρ s1 = r at k
    match r, k with
    | .inl e, k => exact k
    | .inr (vs, s2', ρ1), k =>
      intro σ2 m2 l2 hm2 h2 x2 u2 v2
      simp only at k l2 hm2 h2 x2 u2 v2
      have sb2 := x2.2.2.2.1
      have u12 : yU σ A D vb lev j σ8 σ2 ρ ρ1 t sv nl dix (n :: L1) := yU_t u1' u2 ⟨Int.le_refl _, Int.le_refl _⟩ ⟨Int.le_refl _, Int.le_refl _⟩ (fun x hx => hx) (fun x hx => by simp [hx])
      have lc : ∀ o, cnc A n = [(o, n)] → p + 1 + (cdS A (cd A f) n 0 (A.2.2.2.2.1 n)).length + 1 = p + ((((0, n) :: (cdS A (cd A f) n 0 (A.2.2.2.2.1 n) ++ cnc A n)).length : Nat) : Int) := fun o ho => by
        rw [ho]; simp only [List.length_cons, List.length_append, List.length_nil]; omega
      obtain ⟨m2, rfl⟩ : ∃ m', m2 = m' + 1 := ⟨m2 - 1, by omega⟩
      have vg : ∀ i : Nat, (hi : i < (A.2.2.2.2.1 n).length) → yX σ2 (sg_g σ 6 ((A.2.2.2.2.1 n)[i])).toNat (sg_g σ2 64 (t + i)) (vs.getD i []) ∧ (vs.getD i []).length = N := fun i hi => v2 i _ (List.getElem?_eq_getElem hi)
      by_cases k0 : A.2.1 n = 0
      · -- NUMBER
        have hl := w2 (by omega)
        have hcn : cnc A n = [(1, n)] := by unfold cnc; rw [if_neg n2, if_neg n3, if_neg n13, if_neg n15, if_pos (Or.inl k0)]
        have ev : vs = [] := List.eq_nil_of_length_eq_zero (by omega)
        rw [k0, ev] at k
        have lc1 := lc 1 hcn
        rw [hcn] at p2
        rw [hl, show t + ((0 : Nat) : Int) = t by omega] at h2
        have t6' : sg_g σ 6 n = 0 := by
          have := hty0 (by omega)
          rw [kTy_0 k0] at this
          exact (Option.some.inj this).symm
        exact zy_num (A := A) (D := D) (vb := vb) (x := sg_n (A.2.2.2.1 n)) (ρ := ρ1) (cr := cr) (nl := nl) (dix := dix) h2 x2 (by omega) ⟨by omega, tb⟩ p2 ⟨t2.1, c2⟩ (by rw [c1, k0]; rfl) t6' (ly.1 k0) (by omega) (kY_m k u12 ⟨c0, by omega⟩ lc1)
      · by_cases k14 : A.2.1 n = 14
        · -- ROW
          have hl := w6 k14
          have hcn : cnc A n = [(1, n)] := by unfold cnc; rw [if_neg n2, if_neg n3, if_neg n13, if_neg n15, if_pos (Or.inr (Or.inr k14))]
          have lc1 := lc 1 hcn
          rw [hcn] at p2
          have tt := hty0 k1
          rw [kTy_14 k14] at tt
          obtain ⟨i1, i2, i3⟩ := kIs_in tt
          generalize hA0 : ((A.2.2.2.2.1 n).map (sg_g σ 6)).getD 0 0 = a0 at i1 i2 i3
          have all0 : ∀ x ∈ A.2.2.2.2.1 n, sg_g σ 6 x = a0 := fun x hx => by
            have := List.all_eq_true.mp i3 (sg_g σ 6 x) (List.mem_map_of_mem hx)
            simpa using this
          have a00 : 0 ≤ a0 := by
            obtain ⟨y, r, hy⟩ : ∃ y r, A.2.2.2.2.1 n = y :: r := by
              match hh : A.2.2.2.2.1 n with
              | [] => rw [hh] at hl; simp at hl
              | y :: r => exact ⟨y, r, rfl⟩
            have m0 : y ∈ A.2.2.2.2.1 n := by rw [hy]; simp
            rw [← all0 y m0]
            exact (kin y m0).1
          have c10 : sg_g σ 10 n = (A.2.2.2.2.1 n).length := by
            have := (hW.2.2 n t2.1 t2.2).1.2.2.2.1.1
            unfold pts at this
            rw [if_neg n15] at this
            exact this
          have l200 : (A.2.2.2.2.1 n).length ≤ 200 := by
            have q := (hW.2.2 n t2.1 t2.2).1.2.2.2.1.2.2.2
            unfold pts at q
            rw [if_neg n15] at q
            rcases wit_len (f := id) (a := 0) (b := 199) q.1 (fun x hx => ⟨x, (q.2 x hx).1, by have := (q.2 x hx).2; omega, rfl⟩) with z | z
            · omega
            · rw [z]; exact Nat.zero_le _
          rw [k14] at k
          rw [← l2] at h2
          refine zy_row (A := A) (D := D) (vb := vb) (x := sg_n (A.2.2.2.1 n)) (d := a0.toNat) (vs := vs) (ρ := ρ1) (cr := cr) (nl := nl) (dix := dix) h2 x2 (by omega) ⟨by omega, tb⟩ ⟨by omega, by omega⟩ p2 ⟨t2.1, c2⟩ (by rw [c1, k14]; rfl) (by rw [c10, l2]) (by omega) (by omega) (fun i hi => ?_) (by omega) (kY_m k u12 ⟨c0, by omega⟩ lc1)
          have q := vg i (by omega)
          rw [all0 _ (List.getElem_mem _)] at q
          exact q
        · -- ACTS
          have hw := t1
          unfold nW at hw
          have tt := kTy_o (A := A) (ds := kDl (D.take j) []) (T := sg_g σ 6) (n := n) (ty := sg_g σ 6 n) (ts := (A.2.2.2.2.1 n).map (sg_g σ 6)) (by rw [List.length_map]; exact hw) (hty0 k1) (by omega) n13 k14 n15 (fun x hx => by
            obtain ⟨y, hy, rfl⟩ := List.mem_map.mp hx
            exact (kin y hy).1)
          rw [List.length_map] at tt
          have gd : ∀ i : Nat, (hi : i < (A.2.2.2.2.1 n).length) → ((A.2.2.2.2.1 n).map (sg_g σ 6)).getD i 0 = sg_g σ 6 ((A.2.2.2.2.1 n)[i]) := fun i hi => by
            rw [List.getD_eq_getElem?_getD, List.getElem?_map, List.getElem?_eq_getElem hi]; rfl
          rcases tt with ⟨l1, o1⟩ | ⟨l2', o2⟩
          · have hcn : cnc A n = [(2, n)] := by
              unfold cnc
              rw [if_neg n2, if_neg n3, if_neg n13, if_neg n15, if_neg (by omega), if_pos]
              unfold op1 at o1
              omega
            have lc1 := lc 2 hcn
            rw [hcn] at p2
            rw [l1] at h2
            rw [gd 0 (by omega)] at o1
            have kx := kin _ (List.getElem_mem (h := show 0 < (A.2.2.2.2.1 n).length by omega))
            obtain ⟨v0, v0l⟩ := vg 0 (by omega)
            simp only [Int.ofNat_zero, Int.cast_ofNat_Int, Int.add_zero] at v0
            rw [vs_1 (by omega : vs.length = 1)] at k
            exact zy_one (k := A.2.1 n) (x := sg_n (A.2.2.2.1 n)) (ρ := ρ1) (cr := cr) (nl := nl) (dix := dix) h2 x2 (by omega) ⟨by omega, tb⟩ p2 ⟨t2.1, c2⟩ c1 g2 kx v0 v0l o1 (by omega) (kY_m k u12 ⟨c0, by omega⟩ lc1)
          · have hcn : cnc A n = [(3, n)] := by
              unfold cnc
              rw [if_neg n2, if_neg n3, if_neg n13, if_neg n15, if_neg (by omega), if_neg]
              unfold op2 at o2
              omega
            have lc1 := lc 3 hcn
            rw [hcn] at p2
            rw [l2'] at h2
            rw [gd 0 (by omega), gd 1 (by omega)] at o2
            have kx := kin _ (List.getElem_mem (h := show 0 < (A.2.2.2.2.1 n).length by omega))
            obtain ⟨v0, v0l⟩ := vg 0 (by omega)
            obtain ⟨v1, v1l⟩ := vg 1 (by omega)
            simp only [Int.ofNat_zero, Int.cast_ofNat_Int, Int.add_zero] at v0
            rw [vs_2 (by omega : vs.length = 2)] at k
            exact zy_two (k := A.2.1 n) (x := sg_n (A.2.2.2.1 n)) (ρ := ρ1) (cr := cr) (nl := nl) (dix := dix) h2 x2 (by omega) ⟨by omega, tb⟩ p2 ⟨t2.1, c2⟩ c1 g2 kx v0 v1 v0l v1l o2 (by omega) (kY_m k u12 ⟨c0, by omega⟩ lc1)
/-- BIND -/
theorem zy_bind {σ8 : sg_S} {m N : Nat} {ρ : fEv} {t sv c p n : Int} {s : fSt} {v : List vaF} {C : List (Int × Int)} (h : bP σ σ8 (t + 1) sv N c p) (hs : ctX σ8 s) (ht : t < 400 ∧ 0 ≤ t) (hp : pl σ p ((4, n) :: C)) (hn : 0 ≤ n ∧ n < 200) (hSl : slA σ vb) (hb : vb n) (hv : yX σ8 (bTy A D (sg_g σ 6) n).toNat (sg_g σ8 64 t) v) (kk : ∀ σ', bP σ σ' t sv N c (p + 1) → ctX σ' s → yU σ A D vb lev j σ8 σ' ρ (fun x => if x = n then v else ρ x) t sv nl dix [] → rlY σ A D σ' (fun x => if x = n then v else ρ x) n → Ry σ X m σ') : Ry σ X (m + 1) σ8 := by
  obtain ⟨p0, p1, p2, p3⟩ := pl_c hp
  refine ry_4 (p := p) (k := n) h.2.2.1.2.2.2 p0 h.2.1.2.2.1 p1 p2 (fun σ32 e32 => ?_)
  obtain ⟨h32, f32⟩ := bP_32 h ⟨p0.2, p0.1⟩ e32
  obtain ⟨a1, a2, ⟨a3, a4, a5, a6⟩, a7, a8, a9, a10⟩ := id h32
  have hs' := hSl.1 n hb
  have e16 : sg_g σ 16 n = slF σ n := (sl_let (by omega)).symm
  rw [xa_in (a := 16) hn, e16]
  refine y_pop (t := t) a3 ⟨ht.2, ht.1⟩ (fun σ2 f2 t2 r2 _ σ82 e82 => ?_)
  rw [xp_in hs', sg_F_ga f32 rfl] at e82
  have f82 : sg_F [62] σ2 σ82 := by rw [e82]; exact sg_F_w (sg_F_r _ _) rfl _
  have F2 : sg_F [62, 8061] σ32 σ82 := sg_F_t (sg_F_m f2 rfl) (sg_F_m f82 rfl)
  have F : sg_F [62, 8061, 9061] σ8 σ82 := sg_F_t (sg_F_m f32 rfl) (sg_F_m F2 rfl)
  have sv' : sg_g σ82 62 (slF σ n) = sg_g σ8 64 t := by rw [e82, sg_gw_e _ _ _ _ (sg_Rg _ _ _)]
  have so : ∀ x, ¬ x = slF σ n → sg_g σ82 62 x = sg_g σ8 62 x := fun x hx => by rw [e82, sg_gw_k _ _ _ _ _ _ hx, sg_F_ga f2 rfl, sg_F_ga f32 rfl]
  have ex : yEx σ8 σ82 := yEx_F F rfl
  have rn : rlY σ A D σ82 (fun x => if x = n then v else ρ x) n := by
    show yX σ82 _ _ (if n = n then v else ρ n)
    rw [sv', if_pos rfl]
    exact yX_up ex hv
  refine kk σ82 ⟨sg_F_t a1 (sg_F_m F2 rfl), mC_F a2 F2 rfl, ⟨by rw [sg_F_g f82 (by rfl)]; exact t2, by rw [sg_F_g F2 (by rfl)]; exact a4, by rw [sg_F_g F2 (by rfl)]; exact a5, by rw [sg_F_g F2 (by rfl)]; exact a6⟩, a7, ht.2, a9, a10⟩ (ctX_F F rfl hs) ⟨ex, fun i _ => sg_F_ga F rfl, fun b hb' _ hr => ?_, fun i _ => ⟨sg_F_ga F rfl, sg_F_ga F rfl⟩, fun x _ _ => ⟨sg_F_ga F rfl, sg_F_ga F rfl, sg_F_ga F rfl⟩, fun q _ => sg_F_ga F rfl⟩ rn
  by_cases cb : b = n
  · rw [cb]; exact rn
  · show yX σ82 _ (sg_g σ82 62 (slF σ b)) (if b = n then v else ρ b)
    rw [if_neg cb, so _ (fun z => cb (hSl.2 b n hb' hb z))]
    exact yX_up ex hr
theorem yN_let (hW : ckW σ A) (hSl : slA σ vb) (hVb : ∀ b, vbF A D b → vb b) (hnl : 0 ≤ nl) (hP : fPu A D (sg_g σ 6) B lev O call j f) (F : yN σ A D vb X B lev O call j nl dix f) {n : Int} {L1 es : List Int} {sc : List (Int × Int)} {b b' p : Int} {h : Nat} (hk : A.2.1 n = 2) (hf : fT A (A.2.2.2.2.1 n) L1) (hst : stN A D (sg_g σ 6) B lev j (f + 1) (n :: L1) sc n) (hL : ∀ x ∈ n :: L1, nl ≤ x ∧ lyQ σ A D B dix x) (hg : gRq σ A (n :: L1)) (hsc : scN σ A dix (f + 1) es n b b') (hsl : slQ σ sc b) (hh : htN A (f + 1) n ≤ h) (hp : pl σ p (cd A (f + 1) n)) (hb : b' ≤ 272) {σ8 : sg_S} {m : Nat} {ρ : fEv} {t sv c cr : Int} {N : Nat} {s : fSt} (h8 : bP σ σ8 t sv N c p) (h9 : ctX σ8 s) (hS : scY σ A D vb σ8 ρ N sc) (ht : t + (n :: L1).length + nl ≤ 400) (hv : sv + ((h * (n :: L1).length : Nat) : Int) + 12 * nl ≤ 2400) (hm : 6 * (2001 - s.1) + cr ≤ (m : Int)) (hcr : 0 ≤ cr) (k : kY σ A D vb lev j X σ8 ρ t sv c (p + (cd A (f + 1) n).length) cr nl dix (n :: L1) N (sg_g σ 6 n).toNat (fxN A D (sg_g σ 6) B O call (f + 1) n N ρ s)) : Ry σ X m σ8 := by
  have hA := hW.1.2
  obtain ⟨hty, -, hN0, hlv, hsco⟩ := id hst
  obtain ⟨t1, t2, t3, t4, t5, t6, t7, t8, t9⟩ := hty
  obtain ⟨c1, c2⟩ := ck3 hW t2
  obtain ⟨w1, w2, w3, w4, w5, w6, w7, w8⟩ := id t1
  have hN := (List.nodup_cons.mp hN0).2
  have hl := w3 (Or.inl hk)
  obtain ⟨a, d, hk2⟩ : ∃ a d, A.2.2.2.2.1 n = [a, d] := by
    match hh : A.2.2.2.2.1 n with
    | [a, d] => exact ⟨a, d, rfl⟩
    | [] => rw [hh] at hl; simp at hl
    | [_] => rw [hh] at hl; simp at hl
    | _ :: _ :: _ :: _ => rw [hh] at hl; simp at hl
  have ho : kOrd A n = [a, d] := by unfold kOrd; rw [if_neg (by omega), hk2]
  obtain ⟨ta, td⟩ := t7 hk a d hk2
  have e6 : sg_g σ 6 d = sg_g σ 6 n := by
    have := t5 (by omega)
    unfold kTy at this
    rw [hk2] at this
    simp only [hk] at this
    simpa using this
  obtain ⟨-, -, -, s2⟩ := hsc
  rw [ho] at s2
  have hcn : cnc A n = [] := by unfold cnc; rw [if_pos hk]
  have ah0 : ahd A n 0 = [] := by unfold ahd; rw [if_neg (by omega), if_neg (by omega), if_neg (by omega), if_neg (by omega)]
  have ah1 : ahd A n 1 = [(4, n)] := by unfold ahd; rw [if_pos ⟨hk, rfl⟩]
  have hcd : cd A (f + 1) n = (0, n) :: (cd A f a ++ (4, n) :: cd A f d) := by
    simp only [cd]
    rw [ho, hcn, List.append_nil]
    simp only [cdS, ah0, ah1, List.nil_append, List.append_nil, List.cons_append]
  rw [hcd] at hp k
  simp only [scS] at s2
  obtain ⟨-, b1, q1, ⟨q2, -⟩, b3, q3, q4⟩ := s2
  obtain ⟨q5, q6⟩ := q2 hk (by rfl)
  have es0 := esA_no (A := A) (n := n) (s := 0) ⟨by omega, by omega⟩ es b
  rw [es0.1, es0.2] at q1
  rw [es0.1] at q3
  have es1 : esA A n (0 + 1) es b1 = b1 :: es := by unfold esA; rw [if_pos ⟨hk, rfl⟩]
  have ba1 : bA A n (0 + 1) b1 = b1 + 1 := by unfold bA; rw [if_pos ⟨hk, rfl⟩]
  rw [es1, ba1] at q3
  subst q4
  have lb1 := scN_le _ _ _ _ _ q1
  have lb2 := scN_le _ _ _ _ _ q3
  have p0 := pl_c hp
  obtain ⟨p1, p2⟩ := pl_a p0.2.2.2
  have p3 := pl_c p2
  rw [hk2] at hf
  obtain ⟨La, Ld, e3, fa, fd⟩ := fT_spl [a] [d] L1 hf
  simp only [List.length_cons] at ht hv
  have e3l : L1.length = La.length + Ld.length := by rw [e3, List.length_append]
  have ia : ∀ x, x ∈ La → x ∈ n :: L1 := fun x hx => by rw [e3]; simp [hx]
  have id' : ∀ x, x ∈ Ld → x ∈ n :: L1 := fun x hx => by rw [e3]; simp [hx]
  have hNa : La.Nodup := List.Nodup.sublist (by rw [e3]; exact List.sublist_append_left _ _) hN
  have hNd : Ld.Nodup := List.Nodup.sublist (by rw [e3]; exact List.sublist_append_right _ _) hN
  obtain ⟨⟨La', sa, -⟩, ⟨Ld', sd, -⟩⟩ := stN_l hA hst hk hk2
  have ea' : La' = La := fT_det sa.2.1 fa
  have ed' : Ld' = Ld := fT_det sd.2.1 fd
  subst ea' ed'
  have m1' := Nat.mul_le_mul_left h (show La'.length ≤ L1.length + 1 by omega)
  have m2' := Nat.mul_le_mul_left h (show Ld'.length ≤ L1.length + 1 by omega)
  have c0 := h8.2.2.2.2.2.2
  have tb := h8.2.2.2.2.1
  have sb := h9.2.2.2.1
  have hha : htN A f a ≤ h := ht_k hh (by rw [hk2]; simp)
  have hhd : htN A f d ≤ h := ht_k hh (by rw [hk2]; simp)
  have vbn : vb n := hVb n (Or.inl ⟨t2, hk⟩)
  have btn : bTy A D (sg_g σ 6) n = sg_g σ 6 a := by rw [bTw_l (by omega), hk2]; rfl
  obtain ⟨m, rfl⟩ : ∃ m', m = m' + 1 := ⟨m - 1, by omega⟩
  simp only [fxN] at k
  refine zy_begin (A := A) (D := D) (vb := vb) (lev := lev) (j := j) (ρ := ρ) (nl := nl) (dix := dix) h8 h9 hp ⟨t2.1, c2⟩ (fun z σ' f' e' w' => ?_) (fun s1 z σ1 h1 x1 u1 e69 v64 => ?_)
  · rw [z] at k
    exact k σ' f' e' w' (by show ¬ (8 : Int) = 0; decide)
  have st1 := fBg_s z
  rw [z] at k
  simp only at k
  rw [if_neg (by omega), if_pos hk, hk2] at k
  simp only [List.getD_cons_zero, List.getD_cons_succ] at k
  have u1' : yU σ A D vb lev j σ8 σ1 ρ ρ t sv nl dix (n :: L1) := yU_w u1 ⟨Int.le_refl _, Int.le_refl _⟩ (Int.le_refl _) (Int.le_refl _) (fun x hx _ => by simp at hx; simp [hx]) (fun b w => ow_s (fun y hy => by simp at hy; simp [hy]) w)
  have S1 := scY_u hS u1 (fun _ _ => rfl) (fun q hq w => (hsco q hq).2 (ow_s (fun y hy => by simp at hy; simp [hy]) w))
  have pua := hP a La' sc sa N ρ s1
  refine F a La' es sc b b1 (p + 1) h sa (fun x hx => hL x (ia x hx)) (gR_s hg ia) q1 hsl hha p1 (by omega) σ1 m ρ t sv (c + 4) (cr + 5) N s1 h1 x1 S1 (by omega) (by omega) (by omega) (by omega) ?_
  generalize fxN A D (sg_g σ 6) B O call f a N ρ s1 = r at k pua
  match r, k, pua with
  | .inl e, k, _ => exact fun σ' q1 q2 q3 q4 => k σ' q1 q2 q3 q4
  | .inr (v, s2', ρ1), k, pua =>
    obtain ⟨lv, kv⟩ := pua v s2' ρ1 (fun q hq => (hS q hq).2.2.2) rfl
    intro σ2 m2 hm2 h2 x2 u2 v2
    simp only at k hm2 h2 x2 u2 v2
    have sb2 := x2.2.2.2.1
    obtain ⟨m2, rfl⟩ : ∃ m', m2 = m' + 1 := ⟨m2 - 1, by omega⟩
    refine zy_bind (A := A) (D := D) (vb := vb) (lev := lev) (j := j) (ρ := ρ1) (nl := nl) (dix := dix) (v := v) h2 x2 ⟨by omega, tb⟩ p2 ⟨t2.1, c2⟩ hSl vbn (by rw [btn]; exact v2) (fun σ3 h3 x3 u3 r3 => ?_)
    have u12 : yU σ A D vb lev j σ8 σ2 ρ ρ1 t sv nl dix (n :: L1) := yU_t u1' u2 ⟨Int.le_refl _, Int.le_refl _⟩ ⟨Int.le_refl _, Int.le_refl _⟩ (fun _ hx => hx) ia
    have u13 : yU σ A D vb lev j σ8 σ3 ρ (fun x => if x = n then v else ρ1 x) t sv nl dix (n :: L1) := yU_t u12 u3 ⟨Int.le_refl _, Int.le_refl _⟩ ⟨Int.le_refl _, Int.le_refl _⟩ (fun _ hx => hx) (by simp)
    have hne : ∀ q ∈ sc, ¬ q.1 = n := fun q hq w => by
      have := (sd.2.2.2.2 (n, sg_g σ 6 a) (by simp)).1
      exact (hsco q hq).2 (Or.inl (Or.inl ⟨by rw [w]; omega, by rw [w]; simp⟩))
    have S3 : scY σ A D vb σ3 (fun x => if x = n then v else ρ1 x) N ((n, sg_g σ 6 a) :: sc) := fun q hq => by
      rcases List.mem_cons.mp hq with e | e
      · subst e
        exact ⟨vbn, btn.symm, r3, by show (if n = n then v else ρ1 n).length = N; rw [if_pos rfl]; exact lv⟩
      · exact scY_u hS u13 (fun q' hq' => by
          show (if q'.1 = n then v else ρ1 q'.1) = ρ q'.1
          rw [if_neg (hne q' hq')]
          exact kv q'.1 (fun w => (hsco q' hq').2 (ow_s ia w))) (fun q' hq' => (hsco q' hq').2) q e
    refine F d Ld' (b1 :: es) _ (b1 + 1) b' (p + 1 + (cd A f a).length + 1) h sd (fun x hx => hL x (id' x hx)) (gR_s hg id') q3 (fun q hq => ?_) hhd p3.2.2.2 hb σ3 m2 (fun x => if x = n then v else ρ1 x) t sv (c + 4) (cr + 4) N s2' h3 x3 S3 (by omega) (by omega) (by omega) (by omega) ?_
    · rcases List.mem_cons.mp hq with e | e
      · subst e
        show slF σ n < b1 + 1 ∧ sg_g σ 34 (slF σ n) = sg_g σ 6 a ∧ kIn (sg_g σ 6 a)
        rw [sl_let (by omega), q5]
        refine ⟨by omega, ?_, (stN_w sa).2.2.1⟩
        rw [q6, hk2]
        rfl
      · exact slQ_m hsl (by omega) q e
    · generalize fxN A D (sg_g σ 6) B O call f d N (fun x => if x = n then v else ρ1 x) s2' = r2 at k
      match r2, k with
      | .inl e, k => exact fun σ' q1 q2 q3 q4 => k σ' q1 q2 q3 q4
      | .inr (v3, s3', ρ2), k =>
        intro σ4 m4 hm4 h4 x4 u4 v4
        simp only at hm4 h4 x4 u4 v4
        refine k σ4 m4 (by show 6 * (2001 - s3'.1) + cr ≤ (m4 : Int); omega) ?_ x4 (yU_t u13 u4 ⟨Int.le_refl _, Int.le_refl _⟩ ⟨Int.le_refl _, Int.le_refl _⟩ (fun _ hx => hx) id') (by rw [← e6]; exact v4)
        simp only [List.length_cons, List.length_append]
        rw [show p + (((cd A f a).length + ((cd A f d).length + 1) + 1 : Nat) : Int) = p + 1 + (cd A f a).length + 1 + (cd A f d).length by omega]
        exact bP_m h4 ⟨c0, by omega⟩
end CVS
