/-! THE FLAT RUN of the class in steps, exactly: what is kept; one turn each. -/
section CTD
variable (σ : sg_S) (A : aT) (D : List aDf) (vb : Int → Prop) (lev : Int → Nat) (j : Nat)
/-- what is bound -/
def rlY (σ8 : sg_S) (ρ : fEv) (b : Int) : Prop := yX σ8 (bTy A D (sg_g σ 6) b).toNat (sg_g σ8 62 (slF σ b)) (ρ b)
def scY (σ8 : sg_S) (ρ : fEv) (N : Nat) (sc : List (Int × Int)) : Prop := ∀ p ∈ sc, vb p.1 ∧ p.2 = bTy A D (sg_g σ 6) p.1 ∧ rlY σ A D σ8 ρ p.1 ∧ (ρ p.1).length = N
/-- what stays -/
def yU (σ8 σ' : sg_S) (ρ ρ' : fEv) (t sv nl dix : Int) (L : List Int) : Prop := yEx σ8 σ' ∧ (∀ i, i < t → sg_g σ' 64 i = sg_g σ8 64 i) ∧ (∀ b, vb b → ¬ ow lev j L b → rlY σ A D σ8 ρ b → rlY σ A D σ' ρ' b) ∧ (∀ i, i < sv → sg_g σ' 72 i = sg_g σ8 72 i ∧ sg_g σ' 73 i = sg_g σ8 73 i) ∧ (∀ x, nl ≤ x → x ∉ L → sg_g σ' 69 x = sg_g σ8 69 x ∧ sg_g σ' 70 x = sg_g σ8 70 x ∧ sg_g σ' 71 x = sg_g σ8 71 x) ∧ ∀ q, dix ≤ q → sg_g σ' 63 q = sg_g σ8 63 q
/-- what a node is followed by -/
def kY (X : sg_S → Prop) (σ8 : sg_S) (ρ : fEv) (t sv c p cr nl dix : Int) (L : List Int) (N d : Nat) : fRs → Prop
  | .inl e => ∀ σ', sg_F bRL σ σ' → sg_g σ' 61 10 = e.1 → ctX σ' e.2 → ¬ e.1 = 0 → X σ'
  | .inr r => ∀ (σ' : sg_S) (m' : Nat), 6 * (2001 - r.2.1.1) + cr ≤ (m' : Int) → bP σ σ' (t + 1) sv N c p → ctX σ' r.2.1 → yU σ A D vb lev j σ8 σ' ρ r.2.2 t sv nl dix L → yX σ' d (sg_g σ' 64 t) r.1 → Ry σ X m' σ'
end CTD
section CTS
variable {σ : sg_S} {A : aT} {D : List aDf} {vb : Int → Prop} {X : sg_S → Prop} {lev : Int → Nat} {j : Nat}
theorem ow_l {lev : Int → Nat} {j1 j : Nat} {L1 L : List Int} {b : Int} (hj : j1 ≤ j) (hL : ∀ y ∈ L1, y ∈ L ∨ lev y < j) (h : ow lev j1 L1 b) : ow lev j L b := by
  rcases h with (⟨a, c⟩ | ⟨a, a', c⟩) | ⟨a, c⟩ | ⟨a, a', c⟩ | ⟨a, c⟩
  · rcases hL _ c with q | q
    · exact Or.inl (Or.inl ⟨a, q⟩)
    · exact Or.inr (Or.inl ⟨a, q⟩)
  · rcases hL _ c with q | q
    · exact Or.inl (Or.inr ⟨a, a', q⟩)
    · exact Or.inr (Or.inr (Or.inl ⟨a, a', q⟩))
  · exact Or.inr (Or.inl ⟨a, by omega⟩)
  · exact Or.inr (Or.inr (Or.inl ⟨a, a', by omega⟩))
  · exact Or.inr (Or.inr (Or.inr ⟨a, by omega⟩))
theorem yU_r {σ8 : sg_S} {ρ : fEv} {t sv nl dix : Int} {L : List Int} : yU σ A D vb lev j σ8 σ8 ρ ρ t sv nl dix L := ⟨yEx_r _, fun _ _ => rfl, fun _ _ _ h => h, fun _ _ => ⟨rfl, rfl⟩, fun _ _ _ => ⟨rfl, rfl, rfl⟩, fun _ _ => rfl⟩
theorem yU_t {σ8 σ1 σ2 : sg_S} {ρ ρ1 ρ2 : fEv} {t t1 t2 sv sv1 sv2 nl dix : Int} {L L1 L2 : List Int} (h : yU σ A D vb lev j σ8 σ1 ρ ρ1 t1 sv1 nl dix L1) (g : yU σ A D vb lev j σ1 σ2 ρ1 ρ2 t2 sv2 nl dix L2) (ht : t ≤ t1 ∧ t ≤ t2) (hs : sv ≤ sv1 ∧ sv ≤ sv2) (h1 : ∀ x ∈ L1, x ∈ L) (h2 : ∀ x ∈ L2, x ∈ L) : yU σ A D vb lev j σ8 σ2 ρ ρ2 t sv nl dix L := by
  obtain ⟨a1, a2, a3, a4, a5, a6⟩ := h
  obtain ⟨c1, c2, c3, c4, c5, c6⟩ := g
  refine ⟨yEx_t a1 c1, fun i hi => by rw [c2 i (by omega), a2 i (by omega)], fun b hb ho hr => c3 b hb (fun w => ho (ow_s h2 w)) (a3 b hb (fun w => ho (ow_s h1 w)) hr), fun i hi => ?_, fun x q r => ?_, fun q hq => by rw [c6 q hq, a6 q hq]⟩
  · obtain ⟨e1, e2⟩ := c4 i (by omega)
    obtain ⟨e3, e4⟩ := a4 i (by omega)
    exact ⟨e1.trans e3, e2.trans e4⟩
  · obtain ⟨e1, e2, e3⟩ := c5 x q (fun z => r (h2 x z))
    obtain ⟨e4, e5, e6⟩ := a5 x q (fun z => r (h1 x z))
    exact ⟨e1.trans e4, e2.trans e5, e3.trans e6⟩
theorem yU_w {σ8 σ1 : sg_S} {ρ ρ1 : fEv} {t t1 sv sv1 nl nl1 dix dix1 : Int} {L L1 : List Int} {j1 : Nat} (h : yU σ A D vb lev j1 σ8 σ1 ρ ρ1 t1 sv1 nl1 dix1 L1) (hl : nl1 ≤ nl ∧ dix1 ≤ dix) (ht : t ≤ t1) (hs : sv ≤ sv1) (h1 : ∀ x ∈ L1, nl ≤ x → x ∈ L) (how : ∀ b, ow lev j1 L1 b → ow lev j L b) : yU σ A D vb lev j σ8 σ1 ρ ρ1 t sv nl dix L := by
  obtain ⟨c1, c2, c3, c4, c5, c6⟩ := h
  exact ⟨c1, fun i hi => c2 i (by omega), fun b hb ho hr => c3 b hb (fun w => ho (how b w)) hr, fun i hi => c4 i (by omega), fun x q r => c5 x (by omega) (fun z => r (h1 x z q)), fun q hq => c6 q (by omega)⟩
theorem rlY_X {σ8 σ1 : sg_S} {ρ : fEv} {b : Int} (h : rlY σ A D σ8 ρ b) (x : yEx σ8 σ1) (h62 : sg_g σ1 62 (slF σ b) = sg_g σ8 62 (slF σ b)) : rlY σ A D σ1 ρ b := by
  unfold rlY
  rw [h62]
  exact yX_up x h
theorem yU_F {K : List Nat} {σ8 σ1 : sg_S} {ρ : fEv} {t sv nl dix : Int} {L : List Int} (f : sg_F K σ8 σ1) (ex : yEx σ8 σ1) (hK : (sg_ca K 62 && sg_ca K 63 && sg_ca K 69 && sg_ca K 70 && sg_ca K 71 && sg_ca K 72 && sg_ca K 73) = true) (h64 : ∀ i, i < t → sg_g σ1 64 i = sg_g σ8 64 i) : yU σ A D vb lev j σ8 σ1 ρ ρ t sv nl dix L := by
  simp only [Bool.and_eq_true] at hK
  obtain ⟨⟨⟨⟨⟨⟨k1, k2⟩, k3⟩, k4⟩, k5⟩, k6⟩, k7⟩ := hK
  exact ⟨ex, h64, fun b _ _ h => rlY_X h ex (sg_F_ga f k1), fun i _ => ⟨sg_F_ga f k6, sg_F_ga f k7⟩, fun x _ _ => ⟨sg_F_ga f k3, sg_F_ga f k4, sg_F_ga f k5⟩, fun q _ => sg_F_ga f k2⟩
theorem scY_u {σ8 σ1 : sg_S} {ρ ρ1 : fEv} {t sv nl dix : Int} {L : List Int} {N : Nat} {sc : List (Int × Int)} (h : scY σ A D vb σ8 ρ N sc) (u : yU σ A D vb lev j σ8 σ1 ρ ρ1 t sv nl dix L) (hk : ∀ p ∈ sc, ρ1 p.1 = ρ p.1) (ho : ∀ p ∈ sc, ¬ ow lev j L p.1) : scY σ A D vb σ1 ρ1 N sc := fun p hp => by
  obtain ⟨a1, a2, a3, a4⟩ := h p hp
  exact ⟨a1, a2, u.2.2.1 p.1 a1 (ho p hp) a3, by rw [hk p hp]; exact a4⟩
variable {σ8 : sg_S} {m N : Nat} {t sv c p n cr nl dix : Int} {C : List (Int × Int)} {s : fSt} {ρ : fEv}
/-- BEGIN -/
theorem zy_begin (h : bP σ σ8 t sv N c p) (hs : ctX σ8 s) (hp : pl σ p ((0, n) :: C)) (hn : 0 ≤ n ∧ n < 200) (k0 : fBg N s = none → ∀ σ', sg_F bRL σ σ' → sg_g σ' 61 10 = 8 → ctX σ' s → X σ') (k : ∀ s1, fBg N s = some s1 → ∀ σ', bP σ σ' t sv N (c + 4) (p + 1) → ctX σ' s1 → yU σ A D vb lev j σ8 σ' ρ ρ t sv nl dix [n] → sg_g σ' 69 n = N → (∀ x, sg_g σ' 64 x = sg_g σ8 64 x) → Ry σ X m σ') : Ry σ X (m + 1) σ8 := by
  obtain ⟨p0, p1, p2, p3⟩ := pl_c hp
  refine ry_0 (p := p) (k := n) h.2.2.1.2.2.2 p0 h.2.1.2.2.1 p1 p2 (fun σ32 e32 => ?_)
  obtain ⟨h32, f32⟩ := bP_32 h ⟨p0.2, p0.1⟩ e32
  obtain ⟨a1, a2, ⟨a3, a4, a5, a6⟩, a7, a8, a9, a10⟩ := h32
  obtain ⟨m1, m2, m3, m4, m5⟩ := a2
  refine f_beginX hn a5 m3 (ctX_F f32 rfl hs) (fun z σ' f' z1 z2 _ => ry_s (by rw [z1]; decide) (k0 z σ' (sg_F_t a1 (sg_F_m f' rfl)) z1 z2)) (fun s1 z σ' f' z1 z2 z3 z4 _ => ?_)
  have st : s1.1 = s.1 + 1 := by
    unfold fBg at z
    cases e : fStp 0 s with
    | none => rw [e] at z; cases z
    | some s0 => rw [e] at z; cases z; exact (fStp_s e).1
  have g : sg_F [69, 9061, 18077, 19077, 25061] σ8 σ' := sg_F_t (sg_F_m f32 rfl) (sg_F_m f' rfl)
  have b1 := (ctX_F (σ' := σ32) f32 rfl hs).1
  have b2 := z2.1
  have b3 := z2.2.2.2.1
  refine k s1 z σ' ⟨sg_F_t a1 (sg_F_m f' rfl), ⟨yG_F m1 f' rfl, y0_F m2 f' rfl, z1, by rw [sg_F_g (a := 77) (k := 10) f' (by rfl)]; omega, by omega⟩, ⟨by rw [sg_F_g f' (by rfl)]; exact a3, by rw [sg_F_g f' (by rfl)]; exact a4, by rw [sg_F_g f' (by rfl)]; exact a5, by rw [sg_F_g f' (by rfl)]; exact a6⟩, a7, a8, a9, by omega⟩ z2 ?_ z3 (fun x => sg_F_ga g rfl)
  refine ⟨yEx_F g rfl, fun i _ => sg_F_ga g rfl, fun b _ _ hr => rlY_X hr (yEx_F g rfl) (sg_F_ga g rfl), fun i _ => ⟨sg_F_ga g rfl, sg_F_ga g rfl⟩, fun x _ hx => ⟨?_, sg_F_ga g rfl, sg_F_ga g rfl⟩, fun q _ => sg_F_ga g rfl⟩
  rw [z4 x (by simpa using hx), sg_F_ga f32 rfl]
/-- what an operation comes to -/
theorem zy_fn {σ32 σ' : sg_S} {k ty x a : Int} {vs : List (List vaF)} (h : bP σ σ8 (t + a) sv N c p) (h0 : 0 ≤ t ∧ 0 ≤ a) (h32 : bP σ σ32 (t + a) sv N c (p + 1)) (f32 : sg_F [9061] σ8 σ32) (f' : sg_F fnL σ32 σ') (r : fnX σ32 σ' ty.toNat (fOl k ty x vs N) t c s) (hm : 6 * (2001 - s.1) + cr ≤ (m : Int) + 1) (kk : kY σ A D vb lev j X σ8 ρ t sv c (p + 1) cr nl dix [] N ty.toNat (fWk k ty x vs N s ρ)) : Ry σ X m σ' := by
  obtain ⟨a1, a2, ⟨a3, a4, a5, a6⟩, a7, a8, a9, a10⟩ := h32
  have FF : sg_F bRL σ σ' := sg_F_t a1 (sg_F_m f' rfl)
  unfold fWk at kk
  rcases r with ⟨z1, z2, z3⟩ | ⟨s1, z1, z2, z3, z4⟩
  · rw [z1] at kk
    exact ry_s (by rw [z2]; decide) (kk σ' FF z2 z3 (by show ¬ (8 : Int) = 0; decide))
  · rw [z1] at kk
    have st := (fStp_s z1).1
    by_cases e : fOe (fOl k ty x vs N) = 0
    · simp only [e, if_true] at kk
      obtain ⟨q1, q2, q3, q4, q5⟩ := z4 e
      have q : sg_F (9061 :: fnL) σ8 σ' := sg_F_t (sg_F_m f32 rfl) (sg_F_m f' rfl)
      exact kk σ' m (by show 6 * (2001 - s1.1) + cr ≤ (m : Int); omega) ⟨FF, q1, ⟨q4, by rw [sg_F_g f' (by rfl)]; exact a4, by rw [sg_F_g f' (by rfl)]; exact a5, by rw [sg_F_g f' (by rfl)]; exact a6⟩, a7, by omega, a9, a10⟩ z2 (yU_F q (yEx_t (yEx_F f32 rfl) q2) rfl (fun i hi => by rw [q5 i hi, sg_F_ga f32 rfl])) q3
    · simp only [e, if_false] at kk
      exact ry_s (by rw [z3]; exact e) (kk σ' FF z3 z2 e)
theorem zy_one {k ta x : Int} {la : List vaF} (h : bP σ σ8 (t + 1) sv N c p) (hs : ctX σ8 s) (hc : 4 ≤ c) (ht : t < 400 ∧ 0 ≤ t) (hp : pl σ p ((2, n) :: C)) (hn : 0 ≤ n ∧ n < 200) (h3 : sg_g σ 3 n = kmp k) (h6 : sg_g σ 6 n ≤ 3) (hta : 0 ≤ ta ∧ ta ≤ 3) (hv : yX σ8 ta.toNat (sg_g σ8 64 t) la) (hla : la.length = N) (ho : op1 k ta (sg_g σ 6 n)) (hm : 6 * (2001 - s.1) + cr ≤ (m : Int) + 1) (kk : kY σ A D vb lev j X σ8 ρ t sv c (p + 1) cr nl dix [] N (sg_g σ 6 n).toNat (fWk k (sg_g σ 6 n) x [la] N s ρ)) : Ry σ X (m + 1) σ8 := by
  obtain ⟨p0, p1, p2, p3⟩ := pl_c hp
  refine ry_2 (p := p) (k := n) h.2.2.1.2.2.2 p0 h.2.1.2.2.1 p1 p2 (fun σ32 e32 => ?_)
  obtain ⟨h32, f32⟩ := bP_32 h ⟨p0.2, p0.1⟩ e32
  obtain ⟨a1, a2, ⟨a3, a4, a5, a6⟩, a7, a8, a9, a10⟩ := id h32
  exact fin1X (k := k) (ta := ta) (ty := sg_g σ 6 n) (x := x) (s := s) hn a2 (ctX_F f32 rfl hs) hc a3 ⟨by omega, by omega⟩ a5 (by omega) (by rw [sg_F_ga a1 rfl]; exact h3) (sg_F_ga a1 rfl) h6 hta (by rw [sg_F_ga f32 rfl]; exact yX_up (yEx_F f32 rfl) hv) hla ho (fun σ' f' r' _ => zy_fn (a := 1) h ⟨ht.2, by omega⟩ h32 f32 f' r' hm kk)
theorem zy_two {k ta tb x : Int} {la lb : List vaF} (h : bP σ σ8 (t + 2) sv N c p) (hs : ctX σ8 s) (hc : 4 ≤ c) (ht : t + 2 ≤ 400 ∧ 0 ≤ t) (hp : pl σ p ((3, n) :: C)) (hn : 0 ≤ n ∧ n < 200) (h3 : sg_g σ 3 n = kmp k) (h6 : sg_g σ 6 n ≤ 3) (hta : 0 ≤ ta ∧ ta ≤ 3) (hv : yX σ8 ta.toNat (sg_g σ8 64 t) la) (hw : yX σ8 tb.toNat (sg_g σ8 64 (t + 1)) lb) (hla : la.length = N) (hlb : lb.length = N) (ho : op2 k ta tb (sg_g σ 6 n)) (hm : 6 * (2001 - s.1) + cr ≤ (m : Int) + 1) (kk : kY σ A D vb lev j X σ8 ρ t sv c (p + 1) cr nl dix [] N (sg_g σ 6 n).toNat (fWk k (sg_g σ 6 n) x [la, lb] N s ρ)) : Ry σ X (m + 1) σ8 := by
  obtain ⟨p0, p1, p2, p3⟩ := pl_c hp
  refine ry_3 (p := p) (k := n) h.2.2.1.2.2.2 p0 h.2.1.2.2.1 p1 p2 (fun σ32 e32 => ?_)
  obtain ⟨h32, f32⟩ := bP_32 h ⟨p0.2, p0.1⟩ e32
  obtain ⟨a1, a2, ⟨a3, a4, a5, a6⟩, a7, a8, a9, a10⟩ := id h32
  exact fin2X (k := k) (ta := ta) (tb := tb) (ty := sg_g σ 6 n) (x := x) (s := s) hn a2 (ctX_F f32 rfl hs) hc a3 ⟨by omega, by omega⟩ a5 (by omega) (by rw [sg_F_ga a1 rfl]; exact h3) (sg_F_ga a1 rfl) h6 hta (by rw [sg_F_ga f32 rfl]; exact yX_up (yEx_F f32 rfl) hv) (by rw [sg_F_ga f32 rfl]; exact yX_up (yEx_F f32 rfl) hw) hla hlb ho (fun σ' f' r' _ => zy_fn (a := 2) h ⟨ht.2, by omega⟩ h32 f32 f' r' hm kk)
/-- a NUMBER -/
theorem zy_num {x : Int} (h : bP σ σ8 t sv N c p) (hs : ctX σ8 s) (hc : 4 ≤ c) (ht : t < 400 ∧ 0 ≤ t) (hp : pl σ p ((1, n) :: C)) (hn : 0 ≤ n ∧ n < 200) (h3 : sg_g σ 3 n = 257) (h6 : sg_g σ 6 n = 0) (h5 : sg_g σ 5 n = x) (hm : 6 * (2001 - s.1) + cr ≤ (m : Int) + 1) (kk : kY σ A D vb lev j X σ8 ρ t sv c (p + 1) cr nl dix [] N (sg_g σ 6 n).toNat (fWk 0 (sg_g σ 6 n) x [] N s ρ)) : Ry σ X (m + 1) σ8 := by
  obtain ⟨p0, p1, p2, p3⟩ := pl_c hp
  refine ry_1 (p := p) (k := n) h.2.2.1.2.2.2 p0 h.2.1.2.2.1 p1 p2 (fun σ32 e32 => ?_)
  obtain ⟨h32, f32⟩ := bP_32 h ⟨p0.2, p0.1⟩ e32
  obtain ⟨a1, a2, ⟨a3, a4, a5, a6⟩, a7, a8, a9, a10⟩ := id h32
  obtain ⟨m1, m2, m3, m4, m5⟩ := id a2
  have hs32 := ctX_F (σ' := σ32) f32 rfl hs
  unfold V_mFinish
  rw [xa_in (a := 6) hn, xa_in (a := 3) hn, xa_in (a := 5) hn, show sg_g σ32 6 n = 0 by rw [sg_F_ga a1 rfl]; exact h6, show sg_g σ32 3 n = 257 by rw [sg_F_ga a1 rfl]; exact h3, show sg_g σ32 5 n = x by rw [sg_F_ga a1 rfl]; exact h5]
  intro σ1 e1
  have f1 : sg_F [10061] σ32 σ1 := by rw [e1]; exact sg_F_w (sg_F_r _ _) rfl _
  refine ⟨fun _ => ?_, fun z => absurd rfl z⟩
  refine o_constant (t := t) (n := N) (s := s) (f := fO1 0 (sg_g σ 6 n) x []) (fP_mk (t := t) ⟨m1, m2, by omega, m5, by omega⟩ f1 (by rw [sg_F_g f1 (by rfl)]; exact a3) ⟨by omega, by omega⟩ rfl) (ctX_F f1 rfl hs32) (by rw [e1, sg_gw_e _ _ _ _ (by decide)]) (by rw [sg_F_g f1 (by rfl)]; exact a5) (by rw [← h5]; exact sg_Rg _ _ _) (fun i hi => rfl) (fun σ' f' r' _ _ => ?_)
  refine zy_fn (a := 0) (t := t) (k := 0) (ty := sg_g σ 6 n) (x := x) (vs := []) (by rw [Int.add_zero]; exact h) ⟨ht.2, by omega⟩ (by rw [Int.add_zero]; exact h32) f32 (sg_F_t (sg_F_m f1 rfl) (sg_F_m f' rfl)) ?_ hm kk
  rw [show (sg_g σ 6 n).toNat = 0 by omega]
  exact gw_fn a2 hs32 f1 rfl r'
/-- a ROW -/
theorem zy_row {x : Int} {d : Nat} {vs : List (List vaF)} (h : bP σ σ8 (t + vs.length) sv N c p) (hs : ctX σ8 s) (hc : 4 ≤ c) (ht : t + vs.length ≤ 400 ∧ 0 ≤ t) (ha : 1 ≤ vs.length ∧ vs.length ≤ 200) (hp : pl σ p ((1, n) :: C)) (hn : 0 ≤ n ∧ n < 200) (h3 : sg_g σ 3 n = 279) (h10 : sg_g σ 10 n = vs.length) (h6 : sg_g σ 6 n = (d + 1 : Nat)) (hd : d + 1 ≤ 3) (hv : ∀ i : Nat, i < vs.length → yX σ8 d (sg_g σ8 64 (t + i)) (vs.getD i []) ∧ (vs.getD i []).length = N) (hm : 6 * (2001 - s.1) + cr ≤ (m : Int) + 1) (kk : kY σ A D vb lev j X σ8 ρ t sv c (p + 1) cr nl dix [] N (sg_g σ 6 n).toNat (fWk 14 (sg_g σ 6 n) x vs N s ρ)) : Ry σ X (m + 1) σ8 := by
  obtain ⟨p0, p1, p2, p3⟩ := pl_c hp
  refine ry_1 (p := p) (k := n) h.2.2.1.2.2.2 p0 h.2.1.2.2.1 p1 p2 (fun σ32 e32 => ?_)
  obtain ⟨h32, f32⟩ := bP_32 h ⟨p0.2, p0.1⟩ e32
  obtain ⟨a1, a2, ⟨a3, a4, a5, a6⟩, a7, a8, a9, a10⟩ := id h32
  obtain ⟨m1, m2, m3, m4, m5⟩ := id a2
  have hs32 := ctX_F (σ' := σ32) f32 rfl hs
  unfold V_mFinish
  rw [xa_in (a := 6) hn, xa_in (a := 3) hn, xa_in (a := 10) hn, show sg_g σ32 6 n = (d + 1 : Nat) by rw [sg_F_ga a1 rfl]; exact h6, show sg_g σ32 3 n = 279 by rw [sg_F_ga a1 rfl]; exact h3, show sg_g σ32 10 n = vs.length by rw [sg_F_ga a1 rfl]; exact h10]
  intro σ1 e1
  have f1 : sg_F [10061] σ32 σ1 := by rw [e1]; exact sg_F_w (sg_F_r _ _) rfl _
  refine ⟨fun z => absurd z (by decide), fun _ => ⟨fun z => absurd z (by decide), fun _ => ⟨fun _ => ?_, fun z => absurd rfl z⟩⟩⟩
  refine o_row (t := t) (n := N) (d := d) (s := s) (f := fO1 14 (sg_g σ 6 n) x vs) ⟨yG_F m1 f1 rfl, y0_F m2 f1 rfl, by rw [sg_F_g f1 (by rfl), sg_F_g f1 (by rfl)]; omega, by rw [sg_F_g f1 (by rfl)]; exact m5, by rw [sg_F_g f1 (by rfl)]; omega⟩ (ctX_F f1 rfl hs32) (by rw [sg_F_g f1 (by rfl)]; exact a3) ⟨by omega, by omega⟩ ha hd (by rw [e1, sg_gw_e _ _ _ _ ⟨by omega, by omega⟩]) (by rw [sg_F_g f1 (by rfl)]; exact a5) (fun i hi => ⟨by rw [sg_F_ga f1 rfl, sg_F_ga f32 rfl]; exact yX_up (yEx_F f1 rfl) (yX_up (yEx_F f32 rfl) (hv i hi).1), (hv i hi).2⟩) (fun i hi => fO_14) (fun σ' f' r' _ _ => ?_)
  refine zy_fn (a := vs.length) (t := t) (k := 14) (ty := sg_g σ 6 n) (x := x) (vs := vs) h ⟨ht.2, by omega⟩ h32 f32 (sg_F_t (sg_F_m f1 rfl) (sg_F_m f' rfl)) ?_ hm kk
  rw [show (sg_g σ 6 n).toNat = d + 1 by omega]
  exact gw_fn a2 hs32 f1 rfl r'
/-- a NAME -/
theorem zy_name {sl : Int} {v : List vaF} (h : bP σ σ8 t sv N c p) (hs : ctX σ8 s) (ht : t < 400 ∧ 0 ≤ t) (hp : pl σ p ((1, n) :: C)) (hn : 0 ≤ n ∧ n < 200) (h3 : sg_g σ 3 n = 258) (h16 : sg_g σ 16 n = sl) (hsl : 0 ≤ sl ∧ sl < 272) (hv : yX σ8 (sg_g σ 6 n).toNat (sg_g σ8 62 sl) v) (hm : 6 * (2001 - s.1) + cr ≤ (m : Int)) (kk : kY σ A D vb lev j X σ8 ρ t sv c (p + 1) cr nl dix [] N (sg_g σ 6 n).toNat (.inr (v, s, ρ))) : Ry σ X (m + 1) σ8 := by
  obtain ⟨p0, p1, p2, p3⟩ := pl_c hp
  refine ry_1 (p := p) (k := n) h.2.2.1.2.2.2 p0 h.2.1.2.2.1 p1 p2 (fun σ32 e32 => ?_)
  obtain ⟨h32, f32⟩ := bP_32 h ⟨p0.2, p0.1⟩ e32
  obtain ⟨a1, a2, ⟨a3, a4, a5, a6⟩, a7, a8, a9, a10⟩ := id h32
  unfold V_mFinish
  rw [xa_in (a := 16) hn, xa_in (a := 3) hn, show sg_g σ32 16 n = sl by rw [sg_F_ga a1 rfl]; exact h16, show sg_g σ32 3 n = 258 by rw [sg_F_ga a1 rfl]; exact h3, xa_in (a := 62) hsl]
  intro σ1 e1
  have f1 : sg_F [10061] σ32 σ1 := by rw [e1]; exact sg_F_w (sg_F_r _ _) rfl _
  refine ⟨fun z => absurd z (by decide), fun _ => ⟨fun _ => ?_, fun z => absurd rfl z⟩⟩
  refine y_push (t := t) (by rw [sg_F_g f1 (by rfl)]; exact a3) ⟨ht.2, ht.1⟩ (sg_Rg _ _ _) (fun σ' f' z1 z2 z3 _ _ => ?_)
  have F : sg_F [64, 8061, 9061, 10061] σ8 σ' := sg_F_t (sg_F_t (sg_F_m f32 rfl) (sg_F_m f1 rfl)) (sg_F_m f' rfl)
  have F2 : sg_F [64, 8061, 10061] σ32 σ' := sg_F_t (sg_F_m f1 rfl) (sg_F_m f' rfl)
  refine kk σ' m hm ⟨sg_F_t h.1 (sg_F_m F rfl), mC_F h.2.1 F rfl, ⟨z1, by rw [sg_F_g F2 (by rfl)]; exact a4, by rw [sg_F_g F2 (by rfl)]; exact a5, by rw [sg_F_g F2 (by rfl)]; exact a6⟩, a7, by omega, a9, a10⟩ (ctX_F F rfl hs) (yU_F F (yEx_F F rfl) rfl (fun i hi => by rw [z3 i (by omega), sg_F_ga f1 rfl, sg_F_ga f32 rfl])) ?_
  rw [z2, sg_F_ga f32 rfl]
  exact yX_up (yEx_F F rfl) hv
end CTS
