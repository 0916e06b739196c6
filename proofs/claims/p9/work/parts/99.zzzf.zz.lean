/-! THE FLAT RUN of the class in steps, exactly: what is kept; one turn each. -/
section CTD
variable (σ : sg_S) (A : aT) (D : List aDf) (vb : Int → Prop) (lev : Int → Nat) (j : Nat)
/-- what is bound -/
def rlY (σ8 : sg_S) (ρ : fEv) (b : Int) : Prop := yX σ8 (bTy A D (sg_g σ 6) b).toNat (sg_g σ8 62 (slF σ b)) (ρ b)
def scY (σ8 : sg_S) (ρ : fEv) (N : Nat) (sc : List (Int × Int)) : Prop := ∀ p ∈ sc, vb p.1 ∧ p.2 = bTy A D (sg_g σ 6) p.1 ∧ rlY σ A D σ8 ρ p.1 ∧ (ρ p.1).length = N
/-- what stays -/
def yU (σ8 σ' : sg_S) (ρ ρ' : fEv) (t sv nl dix : Int) (L : List Int) : Prop := yEx σ8 σ' ∧ (∀ i, i < t → sg_g σ' 64 i = sg_g σ8 64 i) ∧ (∀ b, vb b → ¬ ow lev j L b → rlY σ A D σ8 ρ b → rlY σ A D σ' ρ' b) ∧ (∀ i, i < sv → sg_g σ' 72 i = sg_g σ8 72 i ∧ sg_g σ' 73 i = sg_g σ8 73 i) ∧ (∀ x, nl ≤ x → x ∉ L → sg_g σ' 69 x = sg_g σ8 69 x ∧ sg_g σ' 70 x = sg_g σ8 70 x ∧ sg_g σ' 71 x = sg_g σ8 71 x) ∧ ∀ q, dix ≤ q → sg_g σ' 63 q = sg_g σ8 63 q
/-- what a node is followed by -/
def kY (X : sg_S → Prop) (σ8 : sg_S) (ρ : fEv) (t sv c p cr nl dix : Int) (L : List Int) (N d : Nat) : fRs → Prop
  | .inl e => ∀ σ', sg_F bRL σ σ' → sg_g σ' 61 10 = e.1 → ctX σ' e.2 → ¬ e.1 = 0 → X σ'
  | .inr r => ∀ (σ' : sg_S) (m' : Nat), 6 * (2001 - r.2.1.1) + cr ≤ (m' : Int) → bP σ σ' (t + 1) sv N c p → ctX σ' r.2.1 → yU σ A D vb lev j σ8 σ' ρ r.2.2 t sv nl dix L → yX σ' d (sg_g σ' 64 t) r.1 → Ry σ X m' σ'
end CTD
section CTS
variable {σ : sg_S} {A : aT} {D : List aDf} {vb : Int → Prop} {X : sg_S → Prop} {lev : Int → Nat} {j : Nat}
theorem ow_l {lev : Int → Nat} {j1 j : Nat} {L1 L : List Int} {b : Int} (hj : j1 ≤ j) (hL : ∀ y ∈ L1, y ∈ L ∨ lev y < j) (h : ow lev j1 L1 b) : ow lev j L b := by
  rcases h with (⟨a, c⟩ | ⟨a, a', c⟩) | ⟨a, c⟩ | ⟨a, a', c⟩ | ⟨a, c⟩
  · rcases hL _ c with q | q
    · exact Or.inl (Or.inl ⟨a, q⟩)
    · exact Or.inr (Or.inl ⟨a, q⟩)
  · rcases hL _ c with q | q
    · exact Or.inl (Or.inr ⟨a, a', q⟩)
    · exact Or.inr (Or.inr (Or.inl ⟨a, a', q⟩))
  · exact Or.inr (Or.inl ⟨a, by omega⟩)
  · exact Or.inr (Or.inr (Or.inl ⟨a, a', by omega⟩))
  · exact Or.inr (Or.inr (Or.inr ⟨a, by omega⟩))
theorem yU_r {σ8 : sg_S} {ρ : fEv} {t sv nl dix : Int} {L : List Int} : yU σ A D vb lev j σ8 σ8 ρ ρ t sv nl dix L := ⟨yEx_r _, fun _ _ => rfl, fun _ _ _ h => h, fun _ _ => ⟨rfl, rfl⟩, fun _ _ _ => ⟨rfl, rfl, rfl⟩, fun _ _ => rfl⟩
theorem yU_t {σ8 σ1 σ2 : sg_S} {ρ ρ1 ρ2 : fEv} {t t1 t2 sv sv1 sv2 nl dix : Int} {L L1 L2 : List Int} (h : yU σ A D vb lev j σ8 σ1 ρ ρ1 t1 sv1 nl dix L1) (g : yU σ A D vb lev j σ1 σ2 ρ1 ρ2 t2 sv2 nl dix L2) (ht : t ≤ t1 ∧ t ≤ t2) (hs : sv ≤ sv1 ∧ sv ≤ sv2) (h1 : ∀ x ∈ L1, x ∈ L) (h2 : ∀ x ∈ L2, x ∈ L) : yU σ A D vb lev j σ8 σ2 ρ ρ2 t sv nl dix L := by
  obtain ⟨a1, a2, a3, a4, a5, a6⟩ := h
  obtain ⟨c1, c2, c3, c4, c5, c6⟩ := g
  refine ⟨yEx_t a1 c1, fun i hi => by rw [c2 i (by omega), a2 i (by omega)], fun b hb ho hr => c3 b hb (fun w => ho (ow_s h2 w)) (a3 b hb (fun w => ho (ow_s h1 w)) hr), fun i hi => ?_, fun x q r => ?_, fun q hq => by rw [c6 q hq, a6 q hq]⟩
  · obtain ⟨e1, e2⟩ := c4 i (by omega)
    obtain ⟨e3, e4⟩ := a4 i (by omega)
    exact ⟨e1.trans e3, e2.trans e4⟩
  · obtain ⟨e1, e2, e3⟩ := c5 x q (fun z => r (h2 x z))
    obtain ⟨e4, e5, e6⟩ := a5 x q (fun z => r (h1 x z))
    exact ⟨e1.trans e4, e2.trans e5, e3.trans e6⟩
theorem yU_w {σ8 σ1 : sg_S} {ρ ρ1 : fEv} {t t1 sv sv1 nl nl1 dix dix1 : Int} {L L1 : List Int} {j1 : Nat} (h : yU σ A D vb lev j1 σ8 σ1 ρ ρ1 t1 sv1 nl1 dix1 L1) (hl : nl1 ≤ nl ∧ dix1 ≤ dix) (ht : t ≤ t1) (hs : sv ≤ sv1) (h1 : ∀ x ∈ L1, nl ≤ x → x ∈ L) (how : ∀ b, ow lev j1 L1 b → ow lev j L b) : yU σ A D vb lev j σ8 σ1 ρ ρ1 t sv nl dix L := by
  obtain ⟨c1, c2, c3, c4, c5, c6⟩ := h
  exact ⟨c1, fun i hi => c2 i (by omega), fun b hb ho hr => c3 b hb (fun w => ho (how b w)) hr, fun i hi => c4 i (by omega), fun x q r => c5 x (by omega) (fun z => r (h1 x z q)), fun q hq => c6 q (by omega)⟩
theorem rlY_X {σ8 σ1 : sg_S} {ρ : fEv} {b : Int} (h : rlY σ A D σ8 ρ b) (x : yEx σ8 σ1) (h62 : sg_g σ1 62 (slF σ b) = sg_g σ8 62 (slF σ b)) : rlY σ A D σ1 ρ b := by
  unfold rlY
  rw [h62]
  exact yX_up x h
theorem yU_F {K : List Nat} {σ8 σ1 : sg_S} {ρ : fEv} {t sv nl dix : Int} {L : List Int} (f : sg_F K σ8 σ1) (ex : yEx σ8 σ1) (hK : (sg_ca K 62 && sg_ca K 63 && sg_ca K 69 && sg_ca K 70 && sg_ca K 71 && sg_ca K 72 && sg_ca K 73) = true) (h64 : ∀ i, i < t → sg_g σ1 64 i = sg_g σ8 64 i) : yU σ A D vb lev j σ8 σ1 ρ ρ t sv nl dix L := by
  simp only [Bool.and_eq_true] at hK
  obtain ⟨⟨⟨⟨⟨⟨k1, k2⟩, k3⟩, k4⟩, k5⟩, k6⟩, k7⟩ := hK
  exact ⟨ex, h64, fun b _ _ h => rlY_X h ex (sg_F_ga f k1), fun i _ => ⟨sg_F_ga f k6, sg_F_ga f k7⟩, fun x _ _ => ⟨sg_F_ga f k3, sg_F_ga f k4, sg_F_ga f k5⟩, fun q _ => sg_F_ga f k2⟩
theorem scY_u {σ8 σ1 : sg_S} {ρ ρ1 : fEv} {t sv nl dix : Int} {L : List Int} {N : Nat} {sc : List (Int × Int)} (h : scY σ A D vb σ8 ρ N sc) (u : yU σ A D vb lev j σ8 σ1 ρ ρ1 t sv nl dix L) (hk : ∀ p ∈ sc, ρ1 p.1 = ρ p.1) (ho : ∀ p ∈ sc, ¬ ow lev j L p.1) : scY σ A D vb σ1 ρ1 N sc := fun p hp => by
  obtain ⟨a1, a2, a3, a4⟩ := h p hp
  exact ⟨a1, a2, u.2.2.1 p.1 a1 (ho p hp) a3, by rw [hk p hp]; exact a4⟩
variable {σ8 : sg_S} {m N : Nat} {t sv c p n cr nl dix : Int} {C : List (Int × Int)} {s : fSt} {ρ : fEv}
/-- BEGIN -/
theorem zy_begin (h : bP σ σ8 t sv N c p) (hs : ctX σ8 s) (hp : pl σ p ((0, n) :: C)) (hn : 0 ≤ n ∧ n < 200) (k0 : fBg N s = none → ∀ σ', sg_F bRL σ σ' → sg_g σ' 61 10 = 8 → ctX σ' s → X σ') (k : ∀ s1, fBg N s = some s1 → ∀ σ', bP σ σ' t sv N (c + 4) (p + 1) → ctX σ' s1 → yU σ A D vb lev j σ8 σ' ρ ρ t sv nl dix [n] → sg_g σ' 69 n = N → (∀ x, sg_g σ' 64 x = sg_g σ8 64 x) → Ry σ X m σ') : Ry σ X (m + 1) σ8 := by
  obtain ⟨p0, p1, p2, p3⟩ := pl_c hp
  refine ry_0 (p := p) (k := n) h.2.2.1.2.2.2 p0 h.2.1.2.2.1 p1 p2 (fun σ32 e32 => ?_)
  obtain ⟨h32, f32⟩ := bP_32 h ⟨p0.2, p0.1⟩ e32
  obtain ⟨a1, a2, ⟨a3, a4, a5, a6⟩, a7, a8, a9, a10⟩ := h32
  obtain ⟨m1, m2, m3, m4, m5⟩ := a2
  refine f_beginX hn a5 m3 (ctX_F f32 rfl hs) (fun z σ' f' z1 z2 _ => ry_s (by rw [z1]; decide) (k0 z σ' (sg_F_t a1 (sg_F_m f' rfl)) z1 z2)) (fun s1 z σ' f' z1 z2 z3 z4 _ => ?_)
  have st : s1.1 = s.1 + 1 := by
    unfold fBg at z
    cases e : fStp 0 s with
    | none => rw [e] at z; cases z
    | some s0 => rw [e] at z; cases z; exact (fStp_s e).1
  have g : sg_F [69, 9061, 18077, 19077, 25061] σ8 σ' := sg_F_t (sg_F_m f32 rfl) (sg_F_m f' rfl)
  have b1 := (ctX_F (σ' := σ32) f32 rfl hs).1
  have b2 := z2.1
  have b3 := z2.2.2.2.1
  refine k s1 z σ' ⟨sg_F_t a1 (sg_F_m f' rfl), ⟨yG_F m1 f' rfl, y0_F m2 f' rfl, z1, by rw [sg_F_g (a := 77) (k := 10) f' (by rfl)]; omega, by omega⟩, ⟨by rw [sg_F_g f' (by rfl)]; exact a3, by rw [sg_F_g f' (by rfl)]; exact a4, by rw [sg_F_g f' (by rfl)]; exact a5, by rw [sg_F_g f' (by rfl)]; exact a6⟩, a7, a8, a9, by omega⟩ z2 ?_ z3 (fun x => sg_F_ga g rfl)
  refine ⟨yEx_F g rfl, fun i _ => sg_F_ga g rfl, fun b _ _ hr => rlY_X hr (yEx_F g rfl) (sg_F_ga g rfl), fun i _ => ⟨sg_F_ga g rfl, sg_F_ga g rfl⟩, fun x _ hx => ⟨?_, sg_F_ga g rfl, sg_F_ga g rfl⟩, fun q _ => sg_F_ga g rfl⟩
  rw [z4 x (by simpa using hx), sg_F_ga f32 rfl]
/-- what an operation comes to -/
theorem zy_fn {σ32 σ' : sg_S} {k ty x a : Int} {vs : List (List vaF)} (h : bP σ σ8 (t + a) sv N c p) (h0 : 0 ≤ t ∧ 0 ≤ a) (h32 : bP σ σ32 (t + a) sv N c (p + 1)) (f32 : sg_F [9061] σ8 σ32) (f' : sg_F fnL σ32 σ') (r : fnX σ32 σ' ty.toNat (fOl k ty x vs N) t c s) (hm : 6 * (2001 - s.1) + cr ≤ (m : Int) + 1) (kk : kY σ A D vb lev j X σ8 ρ t sv c (p + 1) cr nl dix [] N ty.toNat (fWk k ty x vs N s ρ)) : Ry σ X m σ' := by
  obtain ⟨a1, a2, ⟨a3, a4, a5, a6⟩, a7, a8, a9, a10⟩ := h32
  have FF : sg_F bRL σ σ' := sg_F_t a1 (sg_F_m f' rfl)
  unfold fWk at kk
  rcases r with ⟨z1, z2, z3⟩ | ⟨s1, z1, z2, z3, z4⟩
  · rw [z1] at kk
    exact ry_s (by rw [z2]; decide) (kk σ' FF z2 z3 (by show ¬ (8 : Int) = 0; decide))
  · rw [z1] at kk
    have st := (fStp_s z1).1
    by_cases e : fOe (fOl k ty x vs N) = 0
    · simp only [e, if_true] at kk
      obtain ⟨q1, q2, q3, q4, q5⟩ := z4 e
      have q : sg_F (9061 :: fnL) σ8 σ' := sg_F_t (sg_F_m f32 rfl) (sg_F_m f' rfl)
      exact kk σ' m (by show 6 * (2001 - s1.1) + cr ≤ (m : Int); omega) ⟨FF, q1, ⟨q4, by rw [sg_F_g f' (by rfl)]; exact a4, by rw [sg_F_g f' (by rfl)]; exact a5, by rw [sg_F_g f' (by rfl)]; exact a6⟩, a7, by omega, a9, a10⟩ z2 (yU_F q (yEx_t (yEx_F f32 rfl) q2) rfl (fun i hi => by rw [q5 i hi, sg_F_ga f32 rfl])) q3
    · simp only [e, if_false] at kk
      exact ry_s (by rw [z3]; exact e) (kk σ' FF z3 z2 e)
theorem zy_one {k ta x : Int} {la : List vaF} (h : bP σ σ8 (t + 1) sv N c p) (hs : ctX σ8 s) (hc : 4 ≤ c) (ht : t < 400 ∧ 0 ≤ t) (hp : pl σ p ((2, n) :: C)) (hn : 0 ≤ n ∧ n < 200) (h3 : sg_g σ 3 n = kmp k) (h6 : sg_g σ 6 n ≤ 3) (hta : 0 ≤ ta ∧ ta ≤ 3) (hv : yX σ8 ta.toNat (sg_g σ8 64 t) la) (hla : la.length = N) (ho : op1 k ta (sg_g σ 6 n)) (hm : 6 * (2001 - s.1) + cr ≤ (m : Int) + 1) (kk : kY σ A D vb lev j X σ8 ρ t sv c (p + 1) cr nl dix [] N (sg_g σ 6 n).toNat (fWk k (sg_g σ 6 n) x [la] N s ρ)) : Ry σ X (m + 1) σ8 := by
  obtain ⟨p0, p1, p2, p3⟩ := pl_c hp
  refine ry_2 (p := p) (k := n) h.2.2.1.2.2.2 p0 h.2.1.2.2.1 p1 p2 (fun σ32 e32 => ?_)
  obtain ⟨h32, f32⟩ := bP_32 h ⟨p0.2, p0.1⟩ e32
  obtain ⟨a1, a2, ⟨a3, a4, a5, a6⟩, a7, a8, a9, a10⟩ := id h32
  exact fin1X (k := k) (ta := ta) (ty := sg_g σ 6 n) (x := x) (s := s) hn a2 (ctX_F f32 rfl hs) hc a3 ⟨by omega, by omega⟩ a5 (by omega) (by rw [sg_F_ga a1 rfl]; exact h3) (sg_F_ga a1 rfl) h6 hta (by rw [sg_F_ga f32 rfl]; exact yX_up (yEx_F f32 rfl) hv) hla ho (fun σ' f' r' _ => zy_fn (a := 1) h ⟨ht.2, by omega⟩ h32 f32 f' r' hm kk)
theorem zy_two {k ta tb x : Int} {la lb : List vaF} (h : bP σ σ8 (t + 2) sv N c p) (hs : ctX σ8 s) (hc : 4 ≤ c) (ht : t + 2 ≤ 400 ∧ 0 ≤ t) (hp : pl σ p ((3, n) :: C)) (hn : 0 ≤ n ∧ n < 200) (h3 : sg_g σ 3 n = kmp k) (h6 : sg_g σ 6 n ≤ 3) (hta : 0 ≤ ta ∧ ta ≤ 3) (hv : yX σ8 ta.toNat (sg_g σ8 64 t) la) (hw : yX σ8 tb.toNat (sg_g σ8 64 (t + 1)) lb) (hla : la.length = N) (hlb : lb.length = N) (ho : op2 k ta tb (sg_g σ 6 n)) (hm : 6 * (2001 - s.1) + cr ≤ (m : Int) + 1) (kk : kY σ A D vb lev j X σ8 ρ t sv c (p + 1) cr nl dix [] N (sg_g σ 6 n).toNat (fWk k (sg_g σ 6 n) x [la, lb] N s ρ)) : Ry σ X (m + 1) σ8 := by
  obtain ⟨p0, p1, p2, p3⟩ := pl_c hp
  refine ry_3 (p := p) (k := n) h.2.2.1.2.2.2 p0 h.2.1.2.2.1 p1 p2 (fun σ32 e32 => ?_)
  obtain ⟨h32, f32⟩ := bP_32 h ⟨p0.2, p0.1⟩ e32
  obtain ⟨a1, a2, ⟨a3, a4, a5, a6⟩, a7, a8, a9, a10⟩ := id h32
  exact fin2X (k := k) (ta := ta) (tb := tb) (ty := sg_g σ 6 n) (x := x) (s := s) hn a2 (ctX_F f32 rfl hs) hc a3 ⟨by omega, by omega⟩ a5 (by omega) (by rw [sg_F_ga a1 rfl]; exact h3) (sg_F_ga a1 rfl) h6 hta (by rw [sg_F_ga f32 rfl]; exact yX_up (yEx_F f32 rfl) hv) (by rw [sg_F_ga f32 rfl]; exact yX_up (yEx_F f32 rfl) hw) hla hlb ho (fun σ' f' r' _ => zy_fn (a := 2) h ⟨ht.2, by omega⟩ h32 f32 f' r' hm kk)
/-- a NUMBER -/
theorem zy_num {x : Int} (h : bP σ σ8 t sv N c p) (hs : ctX σ8 s) (hc : 4 ≤ c) (ht : t < 400 ∧ 0 ≤ t) (hp : pl σ p ((1, n) :: C)) (hn : 0 ≤ n ∧ n < 200) (h3 : sg_g σ 3 n = 257) (h6 : sg_g σ 6 n = 0) (h5 : sg_g σ 5 n = x) (hm : 6 * (2001 - s.1) + cr ≤ (m : Int) + 1) (kk : kY σ A D vb lev j X σ8 ρ t sv c (p + 1) cr nl dix [] N (sg_g σ 6 n).toNat (fWk 0 (sg_g σ 6 n) x [] N s ρ)) : Ry σ X (m + 1) σ8 := by
  obtain ⟨p0, p1, p2, p3⟩ := pl_c hp
  refine ry_1 (p := p) (k := n) h.2.2.1.2.2.2 p0 h.2.1.2.2.1 p1 p2 (fun σ32 e32 => ?_)
  obtain ⟨h32, f32⟩ := bP_32 h ⟨p0.2, p0.1⟩ e32
  obtain ⟨a1, a2, ⟨a3, a4, a5, a6⟩, a7, a8, a9, a10⟩ := id h32
  obtain ⟨m1, m2, m3, m4, m5⟩ := id a2
  have hs32 := ctX_F (σ' := σ32) f32 rfl hs
  unfold V_mFinish
  rw [xa_in (a := 6) hn, xa_in (a := 3) hn, xa_in (a := 5) hn, show sg_g σ32 6 n = 0 by rw [sg_F_ga a1 rfl]; exact h6, show sg_g σ32 3 n = 257 by rw [sg_F_ga a1 rfl]; exact h3, show sg_g σ32 5 n = x by rw [sg_F_ga a1 rfl]; exact h5]
  intro σ1 e1
  have f1 : sg_F [10061] σ32 σ1 := by rw [e1]; exact sg_F_w (sg_F_r _ _) rfl _
  refine ⟨fun _ => ?_, fun z => absurd rfl z⟩
  refine o_constant (t := t) (n := N) (s := s) (f := fO1 0 (sg_g σ 6 n) x []) (fP_mk (t := t) ⟨m1, m2, by omega, m5, by omega⟩ f1 (by rw [sg_F_g f1 (by rfl)]; exact a3) ⟨by omega, by omega⟩ rfl) (ctX_F f1 rfl hs32) (by rw [e1, sg_gw_e _ _ _ _ (by decide)]) (by rw [sg_F_g f1 (by rfl)]; exact a5) (by rw [← h5]; exact sg_Rg _ _ _) (fun i hi => rfl) (fun σ' f' r' _ _ => ?_)
  refine zy_fn (a := 0) (t := t) (k := 0) (ty := sg_g σ 6 n) (x := x) (vs := []) (by rw [Int.add_zero]; exact h) ⟨ht.2, by omega⟩ (by rw [Int.add_zero]; exact h32) f32 (sg_F_t (sg_F_m f1 rfl) (sg_F_m f' rfl)) ?_ hm kk
  rw [show (sg_g σ 6 n).toNat = 0 by omega]
  exact gw_fn a2 hs32 f1 rfl r'
/-- a ROW -/
theorem zy_row {x : Int} {d : Nat} {vs : List (List vaF)} (h : bP σ σ8 (t + vs.length) sv N c p) (hs : ctX σ8 s) (hc : 4 ≤ c) (ht : t + vs.length ≤ 400 ∧ 0 ≤ t) (ha : 1 ≤ vs.length ∧ vs.length ≤ 200) (hp : pl σ p ((1, n) :: C)) (hn : 0 ≤ n ∧ n < 200) (h3 : sg_g σ 3 n = 279) (h10 : sg_g σ 10 n = vs.length) (h6 : sg_g σ 6 n = (d + 1 : Nat)) (hd : d + 1 ≤ 3) (hv : ∀ i : Nat, i < vs.length → yX σ8 d (sg_g σ8 64 (t + i)) (vs.getD i []) ∧ (vs.getD i []).length = N) (hm : 6 * (2001 - s.1) + cr ≤ (m : Int) + 1) (kk : kY σ A D vb lev j X σ8 ρ t sv c (p + 1) cr nl dix [] N (sg_g σ 6 n).toNat (fWk 14 (sg_g σ 6 n) x vs N s ρ)) : Ry σ X (m + 1) σ8 := by
  obtain ⟨p0, p1, p2, p3⟩ := pl_c hp
  refine ry_1 (p := p) (k := n) h.2.2.1.2.2.2 p0 h.2.1.2.2.1 p1 p2 (fun σ32 e32 => ?_)
  obtain ⟨h32, f32⟩ := bP_32 h ⟨p0.2, p0.1⟩ e32
  obtain ⟨a1, a2, ⟨a3, a4, a5, a6⟩, a7, a8, a9, a10⟩ := id h32
  obtain ⟨m1, m2, m3, m4, m5⟩ := id a2
  have hs32 := ctX_F (σ' := σ32) f32 rfl hs
  unfold V_mFinish
  rw [xa_in (a := 6) hn, xa_in (a := 3) hn, xa_in (a := 10) hn, show sg_g σ32 6 n = (d + 1 : Nat) by rw [sg_F_ga a1 rfl]; exact h6, show sg_g σ32 3 n = 279 by rw [sg_F_ga a1 rfl]; exact h3, show sg_g σ32 10 n = vs.length by rw [sg_F_ga a1 rfl]; exact h10]
  intro σ1 e1
  have f1 : sg_F [10061] σ32 σ1 := by rw [e1]; exact sg_F_w (sg_F_r _ _) rfl _
  refine ⟨fun z => absurd z (by decide), fun _ => ⟨fun z => absurd z (by decide), fun _ => ⟨fun _ => ?_, fun z => absurd rfl z⟩⟩⟩
  refine o_row (t := t) (n := N) (d := d) (s := s) (f := fO1 14 (sg_g σ 6 n) x vs) ⟨yG_F m1 f1 rfl, y0_F m2 f1 rfl, by rw [sg_F_g f1 (by rfl), sg_F_g f1 (by rfl)]; omega, by rw [sg_F_g f1 (by rfl)]; exact m5, by rw [sg_F_g f1 (by rfl)]; omega⟩ (ctX_F f1 rfl hs32) (by rw [sg_F_g f1 (by rfl)]; exact a3) ⟨by omega, by omega⟩ ha hd (by rw [e1, sg_gw_e _ _ _ _ ⟨by omega, by omega⟩]) (by rw [sg_F_g f1 (by rfl)]; exact a5) (fun i hi => ⟨by rw [sg_F_ga f1 rfl, sg_F_ga f32 rfl]; exact yX_up (yEx_F f1 rfl) (yX_up (yEx_F f32 rfl) (hv i hi).1), (hv i hi).2⟩) (fun i hi => fO_14) (fun σ' f' r' _ _ => ?_)
  refine zy_fn (a := vs.length) (t := t) (k := 14) (ty := sg_g σ 6 n) (x := x) (vs := vs) h ⟨ht.2, by omega⟩ h32 f32 (sg_F_t (sg_F_m f1 rfl) (sg_F_m f' rfl)) ?_ hm kk
  rw [show (sg_g σ 6 n).toNat = d + 1 by omega]
  exact gw_fn a2 hs32 f1 rfl r'
/-- a NAME -/
theorem zy_name {sl : Int} {v : List vaF} (h : bP σ σ8 t sv N c p) (hs : ctX σ8 s) (ht : t < 400 ∧ 0 ≤ t) (hp : pl σ p ((1, n) :: C)) (hn : 0 ≤ n ∧ n < 200) (h3 : sg_g σ 3 n = 258) (h16 : sg_g σ 16 n = sl) (hsl : 0 ≤ sl ∧ sl < 272) (hv : yX σ8 (sg_g σ 6 n).toNat (sg_g σ8 62 sl) v) (hm : 6 * (2001 - s.1) + cr ≤ (m : Int)) (kk : kY σ A D vb lev j X σ8 ρ t sv c (p + 1) cr nl dix [] N (sg_g σ 6 n).toNat (.inr (v, s, ρ))) : Ry σ X (m + 1) σ8 := by
  obtain ⟨p0, p1, p2, p3⟩ := pl_c hp
  refine ry_1 (p := p) (k := n) h.2.2.1.2.2.2 p0 h.2.1.2.2.1 p1 p2 (fun σ32 e32 => ?_)
  obtain ⟨h32, f32⟩ := bP_32 h ⟨p0.2, p0.1⟩ e32
  obtain ⟨a1, a2, ⟨a3, a4, a5, a6⟩, a7, a8, a9, a10⟩ := id h32
  unfold V_mFinish
  rw [xa_in (a := 16) hn, xa_in (a := 3) hn, show sg_g σ32 16 n = sl by rw [sg_F_ga a1 rfl]; exact h16, show sg_g σ32 3 n = 258 by rw [sg_F_ga a1 rfl]; exact h3, xa_in (a := 62) hsl]
  intro σ1 e1
  have f1 : sg_F [10061] σ32 σ1 := by rw [e1]; exact sg_F_w (sg_F_r _ _) rfl _
  refine ⟨fun z => absurd z (by decide), fun _ => ⟨fun _ => ?_, fun z => absurd rfl z⟩⟩
  refine y_push (t := t) (by rw [sg_F_g f1 (by rfl)]; exact a3) ⟨ht.2, ht.1⟩ (sg_Rg _ _ _) (fun σ' f' z1 z2 z3 _ _ => ?_)
  have F : sg_F [64, 8061, 9061, 10061] σ8 σ' := sg_F_t (sg_F_t (sg_F_m f32 rfl) (sg_F_m f1 rfl)) (sg_F_m f' rfl)
  have F2 : sg_F [64, 8061, 10061] σ32 σ' := sg_F_t (sg_F_m f1 rfl) (sg_F_m f' rfl)
  refine kk σ' m hm ⟨sg_F_t h.1 (sg_F_m F rfl), mC_F h.2.1 F rfl, ⟨z1, by rw [sg_F_g F2 (by rfl)]; exact a4, by rw [sg_F_g F2 (by rfl)]; exact a5, by rw [sg_F_g F2 (by rfl)]; exact a6⟩, a7, by omega, a9, a10⟩ (ctX_F F rfl hs) (yU_F F (yEx_F F rfl) rfl (fun i hi => by rw [z3 i (by omega), sg_F_ga f1 rfl, sg_F_ga f32 rfl])) ?_
  rw [z2, sg_F_ga f32 rfl]
  exact yX_up (yEx_F F rfl) hv
end CTS
/-! BIG STEPS of the class's flat run, exactly: a node, parts one after another, operations. -/
/-- slots of a scope -/
def slQ (σ : sg_S) (sc : List (Int × Int)) (b : Int) : Prop := ∀ q ∈ sc, slF σ q.1 < b ∧ sg_g σ 34 (slF σ q.1) = q.2 ∧ kIn q.2
theorem slQ_m {σ : sg_S} {sc : List (Int × Int)} {b b2 : Int} (h : slQ σ sc b) (hb : b ≤ b2) : slQ σ sc b2 := fun q hq => ⟨by have := (h q hq).1; omega, (h q hq).2⟩
section CUD
variable (σ : sg_S) (A : aT) (D : List aDf) (vb : Int → Prop) (X : sg_S → Prop)
/-- what parts are followed by -/
def kYr (lev : Int → Nat) (j : Nat) (σ8 : sg_S) (ρ : fEv) (t sv c p cr nl dix : Int) (L R : List Int) (N : Nat) : fRl → Prop
  | .inl e => ∀ σ', sg_F bRL σ σ' → sg_g σ' 61 10 = e.1 → ctX σ' e.2 → ¬ e.1 = 0 → X σ'
  | .inr r => ∀ (σ' : sg_S) (m' : Nat), r.1.length = R.length → 6 * (2001 - r.2.1.1) + cr ≤ (m' : Int) → bP σ σ' (t + R.length) sv N c p → ctX σ' r.2.1 → yU σ A D vb lev j σ8 σ' ρ r.2.2 t sv nl dix L → (∀ (i : Nat) (x : Int), R[i]? = some x → yX σ' (sg_g σ 6 x).toNat (sg_g σ' 64 (t + i)) (r.1.getD i []) ∧ (r.1.getD i []).length = N) → Ry σ X m' σ'
/-- the big step of a node -/
def yN (B : Int → Int) (lev : Int → Nat) (O : Int → Nat → List Int) (call : Int → Nat → fEv → fSt → fRs) (j : Nat) (nl dix : Int) (f : Nat) : Prop := ∀ (n : Int) (L es : List Int) (sc : List (Int × Int)) (b b' p : Int) (h : Nat), stN A D (sg_g σ 6) B lev j f L sc n → (∀ x ∈ L, nl ≤ x ∧ lyQ σ A D B dix x) → gRq σ A L → scN σ A dix f es n b b' → slQ σ sc b → htN A f n ≤ h → pl σ p (cd A f n) → b' ≤ 272 → ∀ (σ8 : sg_S) (m : Nat) (ρ : fEv) (t sv c cr : Int) (N : Nat) (s : fSt), bP σ σ8 t sv N c p → ctX σ8 s → scY σ A D vb σ8 ρ N sc → t + L.length + nl ≤ 400 → sv + ((h * L.length : Nat) : Int) + 12 * nl ≤ 2400 → 6 * (2001 - s.1) + cr ≤ (m : Int) → 0 ≤ cr → kY σ A D vb lev j X σ8 ρ t sv c (p + (cd A f n).length) cr nl dix L N (sg_g σ 6 n).toNat (fxN A D (sg_g σ 6) B O call f n N ρ s) → Ry σ X m σ8
end CUD
section CUS
variable {σ : sg_S} {A : aT} {D : List aDf} {vb : Int → Prop} {X : sg_S → Prop} {B : Int → Int} {lev : Int → Nat} {O : Int → Nat → List Int} {call : Int → Nat → fEv → fSt → fRs} {j : Nat} {nl dix : Int} {f : Nat}
theorem yRow (hnl : 0 ≤ nl) (hP : fPu A D (sg_g σ 6) B lev O call j f) (F : yN σ A D vb X B lev O call j nl dix f) {n0 : Int} {es : List Int} {sc : List (Int × Int)} {h N : Nat} : ∀ (R L : List Int) (st : Nat) (b b' p : Int), fT A R L → L.Nodup → (∀ y ∈ L, (0 ≤ y ∧ y < A.1) ∧ lev y = j) → (∀ q ∈ sc, rb A q.1 ∧ ¬ ow lev j L q.1) → (∀ x ∈ L, nl ≤ x ∧ lyQ σ A D B dix x) → gRq σ A L → (∀ x ∈ R, tyN A (kDl (D.take j) []) (sg_g σ 6) B f sc x) → scS σ A (scN σ A dix f) n0 st es b R b' → (∀ i, st ≤ i → i < st + R.length → kQ A n0 i) → slQ σ sc b → (∀ x ∈ R, htN A f x ≤ h) → pl σ p (cdS A (cd A f) n0 st R) → b' ≤ 272 → ∀ (σ8 : sg_S) (m : Nat) (ρ : fEv) (t sv c cr : Int) (s : fSt), bP σ σ8 t sv N c p → ctX σ8 s → scY σ A D vb σ8 ρ N sc → t + L.length + nl ≤ 400 → sv + ((h * L.length : Nat) : Int) + 12 * nl ≤ 2400 → 6 * (2001 - s.1) + cr ≤ (m : Int) → 0 ≤ cr → kYr σ A D vb X lev j σ8 ρ t sv c (p + (cdS A (cd A f) n0 st R).length) cr nl dix L R N (fSq (fun x => fxN A D (sg_g σ 6) B O call f x N) R ρ s) → Ry σ X m σ8
  | [], L, st, b, b', p, hf, hN, hlv, hsc, hL, hg, hty, hss, hq, hsl, hh, hp, hb, σ8, m, ρ, t, sv, c, cr, s, h8, h9, hS, ht, hv, hm, hcr, k => by
    simp only [fSq, kYr, cdS, List.length_nil, Int.ofNat_zero, Int.cast_ofNat_Int, Int.add_zero] at k
    exact k σ8 m trivial hm h8 h9 yU_r (fun i x hx => by simp at hx)
  | x :: R, L, st, b, b', p, hf, hN, hlv, hsc, hL, hg, hty, hss, hq, hsl, hh, hp, hb, σ8, m, ρ, t, sv, c, cr, s, h8, h9, hS, ht, hv, hm, hcr, k => by
    obtain ⟨L1, L2, e1, w1, w2, w3⟩ := fT_inv hf
    subst e1
    obtain ⟨q1, q2⟩ := hq st (Nat.le_refl _) (by simp)
    simp only [scS] at hss
    obtain ⟨-, b2, s2, s3⟩ := hss
    obtain ⟨e1, e2⟩ := esA_no q2 es b
    rw [e1, e2] at s2
    rw [e1] at s3
    simp only [cdS] at hp k
    rw [q1, List.nil_append] at hp k
    obtain ⟨p1, p2⟩ := pl_a hp
    have l1 := scN_le _ _ _ _ _ s2
    have l2 := scS_le (fun es x b b' => scN_le f es x b b') _ _ _ _ _ s3
    have i1 : ∀ y, y ∈ x :: L1 → y ∈ x :: (L1 ++ L2) := fun y hy => by rw [← List.cons_append]; exact List.mem_append_left _ hy
    have i2 : ∀ y, y ∈ L2 → y ∈ x :: (L1 ++ L2) := fun y hy => by rw [← List.cons_append]; exact List.mem_append_right _ hy
    have hN1 : (x :: L1).Nodup := List.Nodup.sublist (by rw [← List.cons_append]; exact List.sublist_append_left _ _) hN
    have hN2 : L2.Nodup := List.Nodup.sublist (by rw [← List.cons_append]; exact List.sublist_append_right _ _) hN
    have hl : (x :: (L1 ++ L2)).length = (x :: L1).length + L2.length := by rw [← List.cons_append, List.length_append]
    have hl1 : 1 ≤ (x :: L1).length := by simp
    have hx : stN A D (sg_g σ 6) B lev j f (x :: L1) sc x := ⟨hty x (by simp), fT_one w1 w2, hN1, fun y hy => hlv y (i1 y hy), fun q hq' => ⟨(hsc q hq').1, fun w => (hsc q hq').2 (ow_s i1 w)⟩⟩
    have pu := hP x (x :: L1) sc hx N ρ s
    refine F x (x :: L1) es sc b b2 p h hx (fun y hy => hL y (i1 y hy)) (gR_s hg i1) s2 hsl (hh x (by simp)) p1 (by omega) σ8 m ρ t sv c cr N s h8 h9 hS (by omega) ?_ hm hcr ?_
    · have := Nat.mul_le_mul_left h (show (x :: L1).length ≤ (x :: (L1 ++ L2)).length by omega)
      omega
    simp only [fSq] at k
    generalize er : fxN A D (sg_g σ 6) B O call f x N ρ s = r at k pu
    match r, k, pu with
    | .inl e, k, _ => exact k
    | .inr (v, s1, ρ1), k, pu =>
      obtain ⟨lv, kv⟩ := pu v s1 ρ1 (fun q hq' => (hS q hq').2.2.2) rfl
      intro σ1 m1 hm1 h1 c1 u1 v1
      have S1 := scY_u hS u1 (fun q hq' => kv q.1 (fun w => (hsc q hq').2 (ow_s i1 w))) (fun q hq' w => (hsc q hq').2 (ow_s i1 w))
      refine yRow hnl hP F R L2 (st + 1) b2 b' (p + (cd A f x).length) w3 hN2 (fun y hy => hlv y (i2 y hy)) (fun q hq' => ⟨(hsc q hq').1, fun w => (hsc q hq').2 (ow_s i2 w)⟩) (fun y hy => hL y (i2 y hy)) (gR_s hg i2) (fun y hy => hty y (by simp [hy])) s3 (fun i a b => hq i (by omega) (by simp only [List.length_cons]; omega)) (slQ_m hsl l1) (fun y hy => hh y (by simp [hy])) p2 hb σ1 m1 ρ1 (t + 1) sv c cr s1 h1 c1 S1 (by omega) ?_ hm1 hcr ?_
      · have := Nat.mul_le_mul_left h (show L2.length ≤ (x :: (L1 ++ L2)).length by omega)
        omega
      simp only at k
      generalize fSq (fun x => fxN A D (sg_g σ 6) B O call f x N) R ρ1 s1 = r2 at k
      match r2, k with
      | .inl e, k => exact k
      | .inr (vs, s2', ρ2), k =>
        intro σ2 m2 le2 hm2 h2 c2 u2 v2
        refine k σ2 m2 (by simp only [List.length_cons] at le2 ⊢; omega) hm2 ?_ c2 (yU_t u1 u2 ⟨Int.le_refl _, by omega⟩ ⟨Int.le_refl _, Int.le_refl _⟩ i1 i2) (fun i y hy => ?_)
        · simp only [List.length_cons, List.length_append]
          rw [show t + ((R.length + 1 : Nat) : Int) = t + 1 + R.length by omega, show p + (((cd A f x).length + (cdS A (cd A f) n0 (st + 1) R).length : Nat) : Int) = p + (cd A f x).length + (cdS A (cd A f) n0 (st + 1) R).length by omega]
          exact h2
        · cases i with
          | zero =>
            simp only [List.getElem?_cons_zero, Option.some.injEq] at hy
            subst hy
            simp only [Int.ofNat_zero, Int.cast_ofNat_Int, Int.add_zero]
            rw [u2.2.1 t (by omega)]
            exact ⟨yX_up u2.1 v1, lv⟩
          | succ i =>
            simp only [List.getElem?_cons_succ] at hy
            have := v2 i y hy
            rw [show t + 1 + (i : Int) = t + ((i + 1 : Nat) : Int) by omega] at this
            exact this
/-- an operation at the end of a node -/
theorem kY_m {σ8 σ2 : sg_S} {ρ ρ2 : fEv} {t sv c c' p p' cr : Int} {L : List Int} {N d : Nat} {r : fRs} (hk : kY σ A D vb lev j X σ8 ρ t sv c p cr nl dix L N d r) (hu : yU σ A D vb lev j σ8 σ2 ρ ρ2 t sv nl dix L) (hc : 0 ≤ c ∧ c ≤ c') (hp : p' = p) : kY σ A D vb lev j X σ2 ρ2 t sv c' p' cr nl dix [] N d r := by
  subst hp
  cases r with
  | inl e => exact hk
  | inr r => exact fun σ' m' hm h1 h2 h3 h4 => hk σ' m' hm (bP_m h1 hc) h2 (yU_t hu h3 ⟨Int.le_refl _, Int.le_refl _⟩ ⟨Int.le_refl _, Int.le_refl _⟩ (fun _ hx => hx) (by simp)) h4
end CUS
/-! BIG STEPS of the class's flat run, exactly: operations, let. -/
section CVS
variable {σ : sg_S} {A : aT} {D : List aDf} {vb : Int → Prop} {X : sg_S → Prop} {B : Int → Int} {lev : Int → Nat} {O : Int → Nat → List Int} {call : Int → Nat → fEv → fSt → fRs} {j : Nat} {nl dix : Int} {f : Nat}
theorem vs_1 {vs : List (List vaF)} (h : vs.length = 1) : vs = [vs.getD 0 []] := by
  match vs, h with
  | [a], _ => rfl
theorem vs_2 {vs : List (List vaF)} (h : vs.length = 2) : vs = [vs.getD 0 [], vs.getD 1 []] := by
  match vs, h with
  | [a, b], _ => rfl
theorem fBg_s {N : Nat} {s s1 : fSt} (h : fBg N s = some s1) : s1.1 = s.1 + 1 := by
  unfold fBg at h
  cases e : fStp 0 s with
  | none => rw [e] at h; cases h
  | some s0 => rw [e] at h; cases h; exact (fStp_s e).1
theorem yN_op (hW : ckW σ A) (hSl : slA σ vb) (hnl : 0 ≤ nl) (hP : fPu A D (sg_g σ 6) B lev O call j f) (F : yN σ A D vb X B lev O call j nl dix f) {n : Int} {L1 es : List Int} {sc : List (Int × Int)} {b b' p : Int} {h : Nat} (hk : A.2.1 n = 0 ∨ A.2.1 n = 1 ∨ A.2.1 n = 14 ∨ (4 ≤ A.2.1 n ∧ A.2.1 n ≤ 12) ∨ 16 ≤ A.2.1 n) (hf : fT A (A.2.2.2.2.1 n) L1) (hst : stN A D (sg_g σ 6) B lev j (f + 1) (n :: L1) sc n) (hL : ∀ x ∈ n :: L1, nl ≤ x ∧ lyQ σ A D B dix x) (hg : gRq σ A (n :: L1)) (hsc : scN σ A dix (f + 1) es n b b') (hsl : slQ σ sc b) (hh : htN A (f + 1) n ≤ h) (hp : pl σ p (cd A (f + 1) n)) (hb : b' ≤ 272) {σ8 : sg_S} {m : Nat} {ρ : fEv} {t sv c cr : Int} {N : Nat} {s : fSt} (h8 : bP σ σ8 t sv N c p) (h9 : ctX σ8 s) (hS : scY σ A D vb σ8 ρ N sc) (ht : t + (n :: L1).length + nl ≤ 400) (hv : sv + ((h * (n :: L1).length : Nat) : Int) + 12 * nl ≤ 2400) (hm : 6 * (2001 - s.1) + cr ≤ (m : Int)) (hcr : 0 ≤ cr) (k : kY σ A D vb lev j X σ8 ρ t sv c (p + (cd A (f + 1) n).length) cr nl dix (n :: L1) N (sg_g σ 6 n).toNat (fxN A D (sg_g σ 6) B O call (f + 1) n N ρ s)) : Ry σ X m σ8 := by
  obtain ⟨hty, -, hN0, hlv, hsco⟩ := hst
  obtain ⟨t1, t2, t3, t4, t5, t6, t7, t8, t9⟩ := hty
  obtain ⟨c1, c2⟩ := ck3 hW t2
  have hN := (List.nodup_cons.mp hN0).2
  have n2 : ¬ A.2.1 n = 2 := by omega
  have n3 : ¬ A.2.1 n = 3 := by omega
  have n15 : ¬ A.2.1 n = 15 := by omega
  have n13 : ¬ A.2.1 n = 13 := by omega
  have ho : kOrd A n = A.2.2.2.2.1 n := by unfold kOrd; rw [if_neg n15]
  have ly := (hL n (by simp)).2
  obtain ⟨-, s1', -, s2⟩ := hsc
  rw [ho] at s2
  simp only [cd] at hp k
  rw [ho] at hp k
  have p0 := pl_c hp
  obtain ⟨p1, p2⟩ := pl_a p0.2.2.2
  obtain ⟨g1, g2⟩ := t3
  have ll := fT_len hf
  simp only [List.length_cons] at ht hv
  have hmul : sv + ((h * L1.length : Nat) : Int) + 12 * nl ≤ 2400 := by
    have := Nat.mul_le_mul_left h (show L1.length ≤ L1.length + 1 by omega)
    omega
  obtain ⟨w1, w2, w3, w4, w5, w6, w7, w8⟩ := id t1
  have hty0 : ¬ A.2.1 n = 1 → kTy A (kDl (D.take j) []) (sg_g σ 6) [] n ((A.2.2.2.2.1 n).map (sg_g σ 6)) = some (sg_g σ 6 n) := t5
  have kin : ∀ x ∈ A.2.2.2.2.1 n, kIn (sg_g σ 6 x) := fun x hx => by
    have := t9 n2 n15 x hx
    cases f with
    | zero => exact this.elim
    | succ f => exact this.2.2.1
  have c0 := h8.2.2.2.2.2.2
  have tb := h8.2.2.2.2.1
  have sb := h9.2.2.2.1
  obtain ⟨m, rfl⟩ : ∃ m', m = m' + 1 := ⟨m - 1, by omega⟩
  simp only [fxN] at k
  refine zy_begin (A := A) (D := D) (vb := vb) (lev := lev) (j := j) (ρ := ρ) (nl := nl) (dix := dix) h8 h9 hp ⟨t2.1, c2⟩ (fun z σ' f' e' w' => ?_) (fun s1 z σ1 h1 x1 u1 e69 v64 => ?_)
  · rw [z] at k
    exact k σ' f' e' w' (by show ¬ (8 : Int) = 0; decide)
  have st1 := fBg_s z
  rw [z] at k
  simp only at k
  have u1' : yU σ A D vb lev j σ8 σ1 ρ ρ t sv nl dix (n :: L1) := yU_w u1 ⟨Int.le_refl _, Int.le_refl _⟩ (Int.le_refl _) (Int.le_refl _) (fun x hx _ => by simp at hx; simp [hx]) (fun b w => ow_s (fun y hy => by simp at hy; simp [hy]) w)
  by_cases k1 : A.2.1 n = 1
  · -- NAME
    rw [if_pos k1] at k
    have hl : A.2.2.2.2.1 n = [] := List.eq_nil_of_length_eq_zero (w2 (by omega))
    have hcn : cnc A n = [(1, n)] := by unfold cnc; rw [if_neg n2, if_neg n3, if_neg n13, if_neg n15, if_pos (Or.inr (Or.inl k1))]
    rw [hcn, hl] at p2
    rw [hcn, hl] at k
    simp only [cdS, List.length_nil, List.nil_append, List.length_cons, Int.ofNat_zero, Int.cast_ofNat_Int, Int.add_zero] at p2 k
    obtain ⟨q1, q2, q3, q4⟩ := hS _ (t4 k1)
    have v1 := u1.2.2.1 _ q1 (fun w => (hsco _ (t4 k1)).2 (ow_s (fun y hy => by simp at hy; simp [hy]) w)) q3
    unfold rlY at v1
    rw [← q2] at v1
    obtain ⟨m, rfl⟩ : ∃ m', m = m' + 1 := ⟨m - 1, by omega⟩
    exact zy_name (A := A) (D := D) (vb := vb) (sl := slF σ (B n)) (v := ρ (B n)) (cr := cr) (nl := nl) (dix := dix) h1 x1 ⟨by omega, tb⟩ p2 ⟨t2.1, c2⟩ (by rw [c1, k1]; rfl) (ly.2.1 k1) (hSl.1 _ q1) v1 (by omega) (kY_m k u1' ⟨c0, by omega⟩ (by omega))
  · rw [if_neg k1, if_neg n2, if_neg n3, if_neg n13, if_neg n15] at k
    refine yRow hnl hP F (A.2.2.2.2.1 n) L1 0 b b' (p + 1) hf hN (fun y hy => hlv y (by simp [hy])) (fun q hq => ⟨(hsco q hq).1, fun w => (hsco q hq).2 (ow_s (fun y hy => by simp [hy]) w)⟩) (fun x hx => hL x (by simp [hx])) (gR_s hg (fun x hx => by simp [hx])) (t9 n2 n15) s2 (fun i _ _ => kQ_o n2 n3 n15) hsl (fun x hx => ht_k hh hx) p1 hb σ1 m ρ t sv (c + 4) (cr + 5) s1 h1 x1 (scY_u hS u1 (fun _ _ => rfl) (fun q hq w => (hsco q hq).2 (ow_s (fun y hy => by simp at hy; simp [hy]) w))) (by omega) hmul (by omega) (by omega) ?_
    generalize fSq (fun x => fxN A D (sg_g σ 6) B O call f x N) (A.2.2.2.2.1 n) ρ s1 = r at k
    match r, k with
    | .inl e, k => exact k
    | .inr (vs, s2', ρ1), k =>
      intro σ2 m2 l2 hm2 h2 x2 u2 v2
      simp only at k l2 hm2 h2 x2 u2 v2
      have sb2 := x2.2.2.2.1
      have u12 : yU σ A D vb lev j σ8 σ2 ρ ρ1 t sv nl dix (n :: L1) := yU_t u1' u2 ⟨Int.le_refl _, Int.le_refl _⟩ ⟨Int.le_refl _, Int.le_refl _⟩ (fun x hx => hx) (fun x hx => by simp [hx])
      have lc : ∀ o, cnc A n = [(o, n)] → p + 1 + (cdS A (cd A f) n 0 (A.2.2.2.2.1 n)).length + 1 = p + ((((0, n) :: (cdS A (cd A f) n 0 (A.2.2.2.2.1 n) ++ cnc A n)).length : Nat) : Int) := fun o ho => by
        rw [ho]; simp only [List.length_cons, List.length_append, List.length_nil]; omega
      obtain ⟨m2, rfl⟩ : ∃ m', m2 = m' + 1 := ⟨m2 - 1, by omega⟩
      have vg : ∀ i : Nat, (hi : i < (A.2.2.2.2.1 n).length) → yX σ2 (sg_g σ 6 ((A.2.2.2.2.1 n)[i])).toNat (sg_g σ2 64 (t + i)) (vs.getD i []) ∧ (vs.getD i []).length = N := fun i hi => v2 i _ (List.getElem?_eq_getElem hi)
      by_cases k0 : A.2.1 n = 0
      · -- NUMBER
        have hl := w2 (by omega)
        have hcn : cnc A n = [(1, n)] := by unfold cnc; rw [if_neg n2, if_neg n3, if_neg n13, if_neg n15, if_pos (Or.inl k0)]
        have ev : vs = [] := List.eq_nil_of_length_eq_zero (by omega)
        rw [k0, ev] at k
        have lc1 := lc 1 hcn
        rw [hcn] at p2
        rw [hl, show t + ((0 : Nat) : Int) = t by omega] at h2
        have t6' : sg_g σ 6 n = 0 := by
          have := hty0 (by omega)
          rw [kTy_0 k0] at this
          exact (Option.some.inj this).symm
        exact zy_num (A := A) (D := D) (vb := vb) (x := sg_n (A.2.2.2.1 n)) (ρ := ρ1) (cr := cr) (nl := nl) (dix := dix) h2 x2 (by omega) ⟨by omega, tb⟩ p2 ⟨t2.1, c2⟩ (by rw [c1, k0]; rfl) t6' (ly.1 k0) (by omega) (kY_m k u12 ⟨c0, by omega⟩ lc1)
      · by_cases k14 : A.2.1 n = 14
        · -- ROW
          have hl := w6 k14
          have hcn : cnc A n = [(1, n)] := by unfold cnc; rw [if_neg n2, if_neg n3, if_neg n13, if_neg n15, if_pos (Or.inr (Or.inr k14))]
          have lc1 := lc 1 hcn
          rw [hcn] at p2
          have tt := hty0 k1
          rw [kTy_14 k14] at tt
          obtain ⟨i1, i2, i3⟩ := kIs_in tt
          generalize hA0 : ((A.2.2.2.2.1 n).map (sg_g σ 6)).getD 0 0 = a0 at i1 i2 i3
          have all0 : ∀ x ∈ A.2.2.2.2.1 n, sg_g σ 6 x = a0 := fun x hx => by
            have := List.all_eq_true.mp i3 (sg_g σ 6 x) (List.mem_map_of_mem hx)
            simpa using this
          have a00 : 0 ≤ a0 := by
            obtain ⟨y, r, hy⟩ : ∃ y r, A.2.2.2.2.1 n = y :: r := by
              match hh : A.2.2.2.2.1 n with
              | [] => rw [hh] at hl; simp at hl
              | y :: r => exact ⟨y, r, rfl⟩
            have m0 : y ∈ A.2.2.2.2.1 n := by rw [hy]; simp
            rw [← all0 y m0]
            exact (kin y m0).1
          have c10 : sg_g σ 10 n = (A.2.2.2.2.1 n).length := by
            have := (hW.2.2 n t2.1 t2.2).1.2.2.2.1.1
            unfold pts at this
            rw [if_neg n15] at this
            exact this
          have l200 : (A.2.2.2.2.1 n).length ≤ 200 := by
            have q := (hW.2.2 n t2.1 t2.2).1.2.2.2.1.2.2.2
            unfold pts at q
            rw [if_neg n15] at q
            rcases wit_len (f := id) (a := 0) (b := 199) q.1 (fun x hx => ⟨x, (q.2 x hx).1, by have := (q.2 x hx).2; omega, rfl⟩) with z | z
            · omega
            · rw [z]; exact Nat.zero_le _
          rw [k14] at k
          rw [← l2] at h2
          refine zy_row (A := A) (D := D) (vb := vb) (x := sg_n (A.2.2.2.1 n)) (d := a0.toNat) (vs := vs) (ρ := ρ1) (cr := cr) (nl := nl) (dix := dix) h2 x2 (by omega) ⟨by omega, tb⟩ ⟨by omega, by omega⟩ p2 ⟨t2.1, c2⟩ (by rw [c1, k14]; rfl) (by rw [c10, l2]) (by omega) (by omega) (fun i hi => ?_) (by omega) (kY_m k u12 ⟨c0, by omega⟩ lc1)
          have q := vg i (by omega)
          rw [all0 _ (List.getElem_mem _)] at q
          exact q
        · -- ACTS
          have hw := t1
          unfold nW at hw
          have tt := kTy_o (A := A) (ds := kDl (D.take j) []) (T := sg_g σ 6) (n := n) (ty := sg_g σ 6 n) (ts := (A.2.2.2.2.1 n).map (sg_g σ 6)) (by rw [List.length_map]; exact hw) (hty0 k1) (by omega) n13 k14 n15 (fun x hx => by
            obtain ⟨y, hy, rfl⟩ := List.mem_map.mp hx
            exact (kin y hy).1)
          rw [List.length_map] at tt
          have gd : ∀ i : Nat, (hi : i < (A.2.2.2.2.1 n).length) → ((A.2.2.2.2.1 n).map (sg_g σ 6)).getD i 0 = sg_g σ 6 ((A.2.2.2.2.1 n)[i]) := fun i hi => by
            rw [List.getD_eq_getElem?_getD, List.getElem?_map, List.getElem?_eq_getElem hi]; rfl
          rcases tt with ⟨l1, o1⟩ | ⟨l2', o2⟩
          · have hcn : cnc A n = [(2, n)] := by
              unfold cnc
              rw [if_neg n2, if_neg n3, if_neg n13, if_neg n15, if_neg (by omega), if_pos]
              unfold op1 at o1
              omega
            have lc1 := lc 2 hcn
            rw [hcn] at p2
            rw [l1] at h2
            rw [gd 0 (by omega)] at o1
            have kx := kin _ (List.getElem_mem (h := show 0 < (A.2.2.2.2.1 n).length by omega))
            obtain ⟨v0, v0l⟩ := vg 0 (by omega)
            simp only [Int.ofNat_zero, Int.cast_ofNat_Int, Int.add_zero] at v0
            rw [vs_1 (by omega : vs.length = 1)] at k
            exact zy_one (k := A.2.1 n) (x := sg_n (A.2.2.2.1 n)) (ρ := ρ1) (cr := cr) (nl := nl) (dix := dix) h2 x2 (by omega) ⟨by omega, tb⟩ p2 ⟨t2.1, c2⟩ c1 g2 kx v0 v0l o1 (by omega) (kY_m k u12 ⟨c0, by omega⟩ lc1)
          · have hcn : cnc A n = [(3, n)] := by
              unfold cnc
              rw [if_neg n2, if_neg n3, if_neg n13, if_neg n15, if_neg (by omega), if_neg]
              unfold op2 at o2
              omega
            have lc1 := lc 3 hcn
            rw [hcn] at p2
            rw [l2'] at h2
            rw [gd 0 (by omega), gd 1 (by omega)] at o2
            have kx := kin _ (List.getElem_mem (h := show 0 < (A.2.2.2.2.1 n).length by omega))
            obtain ⟨v0, v0l⟩ := vg 0 (by omega)
            obtain ⟨v1, v1l⟩ := vg 1 (by omega)
            simp only [Int.ofNat_zero, Int.cast_ofNat_Int, Int.add_zero] at v0
            rw [vs_2 (by omega : vs.length = 2)] at k
            exact zy_two (k := A.2.1 n) (x := sg_n (A.2.2.2.1 n)) (ρ := ρ1) (cr := cr) (nl := nl) (dix := dix) h2 x2 (by omega) ⟨by omega, tb⟩ p2 ⟨t2.1, c2⟩ c1 g2 kx v0 v1 v0l v1l o2 (by omega) (kY_m k u12 ⟨c0, by omega⟩ lc1)
/-- BIND -/
theorem zy_bind {σ8 : sg_S} {m N : Nat} {ρ : fEv} {t sv c p n : Int} {s : fSt} {v : List vaF} {C : List (Int × Int)} (h : bP σ σ8 (t + 1) sv N c p) (hs : ctX σ8 s) (ht : t < 400 ∧ 0 ≤ t) (hp : pl σ p ((4, n) :: C)) (hn : 0 ≤ n ∧ n < 200) (hSl : slA σ vb) (hb : vb n) (hv : yX σ8 (bTy A D (sg_g σ 6) n).toNat (sg_g σ8 64 t) v) (kk : ∀ σ', bP σ σ' t sv N c (p + 1) → ctX σ' s → yU σ A D vb lev j σ8 σ' ρ (fun x => if x = n then v else ρ x) t sv nl dix [] → rlY σ A D σ' (fun x => if x = n then v else ρ x) n → Ry σ X m σ') : Ry σ X (m + 1) σ8 := by
  obtain ⟨p0, p1, p2, p3⟩ := pl_c hp
  refine ry_4 (p := p) (k := n) h.2.2.1.2.2.2 p0 h.2.1.2.2.1 p1 p2 (fun σ32 e32 => ?_)
  obtain ⟨h32, f32⟩ := bP_32 h ⟨p0.2, p0.1⟩ e32
  obtain ⟨a1, a2, ⟨a3, a4, a5, a6⟩, a7, a8, a9, a10⟩ := id h32
  have hs' := hSl.1 n hb
  have e16 : sg_g σ 16 n = slF σ n := (sl_let (by omega)).symm
  rw [xa_in (a := 16) hn, e16]
  refine y_pop (t := t) a3 ⟨ht.2, ht.1⟩ (fun σ2 f2 t2 r2 _ σ82 e82 => ?_)
  rw [xp_in hs', sg_F_ga f32 rfl] at e82
  have f82 : sg_F [62] σ2 σ82 := by rw [e82]; exact sg_F_w (sg_F_r _ _) rfl _
  have F2 : sg_F [62, 8061] σ32 σ82 := sg_F_t (sg_F_m f2 rfl) (sg_F_m f82 rfl)
  have F : sg_F [62, 8061, 9061] σ8 σ82 := sg_F_t (sg_F_m f32 rfl) (sg_F_m F2 rfl)
  have sv' : sg_g σ82 62 (slF σ n) = sg_g σ8 64 t := by rw [e82, sg_gw_e _ _ _ _ (sg_Rg _ _ _)]
  have so : ∀ x, ¬ x = slF σ n → sg_g σ82 62 x = sg_g σ8 62 x := fun x hx => by rw [e82, sg_gw_k _ _ _ _ _ _ hx, sg_F_ga f2 rfl, sg_F_ga f32 rfl]
  have ex : yEx σ8 σ82 := yEx_F F rfl
  have rn : rlY σ A D σ82 (fun x => if x = n then v else ρ x) n := by
    show yX σ82 _ _ (if n = n then v else ρ n)
    rw [sv', if_pos rfl]
    exact yX_up ex hv
  refine kk σ82 ⟨sg_F_t a1 (sg_F_m F2 rfl), mC_F a2 F2 rfl, ⟨by rw [sg_F_g f82 (by rfl)]; exact t2, by rw [sg_F_g F2 (by rfl)]; exact a4, by rw [sg_F_g F2 (by rfl)]; exact a5, by rw [sg_F_g F2 (by rfl)]; exact a6⟩, a7, ht.2, a9, a10⟩ (ctX_F F rfl hs) ⟨ex, fun i _ => sg_F_ga F rfl, fun b hb' _ hr => ?_, fun i _ => ⟨sg_F_ga F rfl, sg_F_ga F rfl⟩, fun x _ _ => ⟨sg_F_ga F rfl, sg_F_ga F rfl, sg_F_ga F rfl⟩, fun q _ => sg_F_ga F rfl⟩ rn
  by_cases cb : b = n
  · rw [cb]; exact rn
  · show yX σ82 _ (sg_g σ82 62 (slF σ b)) (if b = n then v else ρ b)
    rw [if_neg cb, so _ (fun z => cb (hSl.2 b n hb' hb z))]
    exact yX_up ex hr
theorem yN_let (hW : ckW σ A) (hSl : slA σ vb) (hVb : ∀ b, vbF A D b → vb b) (hnl : 0 ≤ nl) (hP : fPu A D (sg_g σ 6) B lev O call j f) (F : yN σ A D vb X B lev O call j nl dix f) {n : Int} {L1 es : List Int} {sc : List (Int × Int)} {b b' p : Int} {h : Nat} (hk : A.2.1 n = 2) (hf : fT A (A.2.2.2.2.1 n) L1) (hst : stN A D (sg_g σ 6) B lev j (f + 1) (n :: L1) sc n) (hL : ∀ x ∈ n :: L1, nl ≤ x ∧ lyQ σ A D B dix x) (hg : gRq σ A (n :: L1)) (hsc : scN σ A dix (f + 1) es n b b') (hsl : slQ σ sc b) (hh : htN A (f + 1) n ≤ h) (hp : pl σ p (cd A (f + 1) n)) (hb : b' ≤ 272) {σ8 : sg_S} {m : Nat} {ρ : fEv} {t sv c cr : Int} {N : Nat} {s : fSt} (h8 : bP σ σ8 t sv N c p) (h9 : ctX σ8 s) (hS : scY σ A D vb σ8 ρ N sc) (ht : t + (n :: L1).length + nl ≤ 400) (hv : sv + ((h * (n :: L1).length : Nat) : Int) + 12 * nl ≤ 2400) (hm : 6 * (2001 - s.1) + cr ≤ (m : Int)) (hcr : 0 ≤ cr) (k : kY σ A D vb lev j X σ8 ρ t sv c (p + (cd A (f + 1) n).length) cr nl dix (n :: L1) N (sg_g σ 6 n).toNat (fxN A D (sg_g σ 6) B O call (f + 1) n N ρ s)) : Ry σ X m σ8 := by
  have hA := hW.1.2
  obtain ⟨hty, -, hN0, hlv, hsco⟩ := id hst
  obtain ⟨t1, t2, t3, t4, t5, t6, t7, t8, t9⟩ := hty
  obtain ⟨c1, c2⟩ := ck3 hW t2
  obtain ⟨w1, w2, w3, w4, w5, w6, w7, w8⟩ := id t1
  have hN := (List.nodup_cons.mp hN0).2
  have hl := w3 (Or.inl hk)
  obtain ⟨a, d, hk2⟩ : ∃ a d, A.2.2.2.2.1 n = [a, d] := by
    match hh : A.2.2.2.2.1 n with
    | [a, d] => exact ⟨a, d, rfl⟩
    | [] => rw [hh] at hl; simp at hl
    | [_] => rw [hh] at hl; simp at hl
    | _ :: _ :: _ :: _ => rw [hh] at hl; simp at hl
  have ho : kOrd A n = [a, d] := by unfold kOrd; rw [if_neg (by omega), hk2]
  obtain ⟨ta, td⟩ := t7 hk a d hk2
  have e6 : sg_g σ 6 d = sg_g σ 6 n := by
    have := t5 (by omega)
    unfold kTy at this
    rw [hk2] at this
    simp only [hk] at this
    simpa using this
  obtain ⟨-, -, -, s2⟩ := hsc
  rw [ho] at s2
  have hcn : cnc A n = [] := by unfold cnc; rw [if_pos hk]
  have ah0 : ahd A n 0 = [] := by unfold ahd; rw [if_neg (by omega), if_neg (by omega), if_neg (by omega), if_neg (by omega)]
  have ah1 : ahd A n 1 = [(4, n)] := by unfold ahd; rw [if_pos ⟨hk, rfl⟩]
  have hcd : cd A (f + 1) n = (0, n) :: (cd A f a ++ (4, n) :: cd A f d) := by
    simp only [cd]
    rw [ho, hcn, List.append_nil]
    simp only [cdS, ah0, ah1, List.nil_append, List.append_nil, List.cons_append]
  rw [hcd] at hp k
  simp only [scS] at s2
  obtain ⟨-, b1, q1, ⟨q2, -⟩, b3, q3, q4⟩ := s2
  obtain ⟨q5, q6⟩ := q2 hk (by rfl)
  have es0 := esA_no (A := A) (n := n) (s := 0) ⟨by omega, by omega⟩ es b
  rw [es0.1, es0.2] at q1
  rw [es0.1] at q3
  have es1 : esA A n (0 + 1) es b1 = b1 :: es := by unfold esA; rw [if_pos ⟨hk, rfl⟩]
  have ba1 : bA A n (0 + 1) b1 = b1 + 1 := by unfold bA; rw [if_pos ⟨hk, rfl⟩]
  rw [es1, ba1] at q3
  subst q4
  have lb1 := scN_le _ _ _ _ _ q1
  have lb2 := scN_le _ _ _ _ _ q3
  have p0 := pl_c hp
  obtain ⟨p1, p2⟩ := pl_a p0.2.2.2
  have p3 := pl_c p2
  rw [hk2] at hf
  obtain ⟨La, Ld, e3, fa, fd⟩ := fT_spl [a] [d] L1 hf
  simp only [List.length_cons] at ht hv
  have e3l : L1.length = La.length + Ld.length := by rw [e3, List.length_append]
  have ia : ∀ x, x ∈ La → x ∈ n :: L1 := fun x hx => by rw [e3]; simp [hx]
  have id' : ∀ x, x ∈ Ld → x ∈ n :: L1 := fun x hx => by rw [e3]; simp [hx]
  have hNa : La.Nodup := List.Nodup.sublist (by rw [e3]; exact List.sublist_append_left _ _) hN
  have hNd : Ld.Nodup := List.Nodup.sublist (by rw [e3]; exact List.sublist_append_right _ _) hN
  obtain ⟨⟨La', sa, -⟩, ⟨Ld', sd, -⟩⟩ := stN_l hA hst hk hk2
  have ea' : La' = La := fT_det sa.2.1 fa
  have ed' : Ld' = Ld := fT_det sd.2.1 fd
  subst ea' ed'
  have m1' := Nat.mul_le_mul_left h (show La'.length ≤ L1.length + 1 by omega)
  have m2' := Nat.mul_le_mul_left h (show Ld'.length ≤ L1.length + 1 by omega)
  have c0 := h8.2.2.2.2.2.2
  have tb := h8.2.2.2.2.1
  have sb := h9.2.2.2.1
  have hha : htN A f a ≤ h := ht_k hh (by rw [hk2]; simp)
  have hhd : htN A f d ≤ h := ht_k hh (by rw [hk2]; simp)
  have vbn : vb n := hVb n (Or.inl ⟨t2, hk⟩)
  have btn : bTy A D (sg_g σ 6) n = sg_g σ 6 a := by rw [bTw_l (by omega), hk2]; rfl
  obtain ⟨m, rfl⟩ : ∃ m', m = m' + 1 := ⟨m - 1, by omega⟩
  simp only [fxN] at k
  refine zy_begin (A := A) (D := D) (vb := vb) (lev := lev) (j := j) (ρ := ρ) (nl := nl) (dix := dix) h8 h9 hp ⟨t2.1, c2⟩ (fun z σ' f' e' w' => ?_) (fun s1 z σ1 h1 x1 u1 e69 v64 => ?_)
  · rw [z] at k
    exact k σ' f' e' w' (by show ¬ (8 : Int) = 0; decide)
  have st1 := fBg_s z
  rw [z] at k
  simp only at k
  rw [if_neg (by omega), if_pos hk, hk2] at k
  simp only [List.getD_cons_zero, List.getD_cons_succ] at k
  have u1' : yU σ A D vb lev j σ8 σ1 ρ ρ t sv nl dix (n :: L1) := yU_w u1 ⟨Int.le_refl _, Int.le_refl _⟩ (Int.le_refl _) (Int.le_refl _) (fun x hx _ => by simp at hx; simp [hx]) (fun b w => ow_s (fun y hy => by simp at hy; simp [hy]) w)
  have S1 := scY_u hS u1 (fun _ _ => rfl) (fun q hq w => (hsco q hq).2 (ow_s (fun y hy => by simp at hy; simp [hy]) w))
  have pua := hP a La' sc sa N ρ s1
  refine F a La' es sc b b1 (p + 1) h sa (fun x hx => hL x (ia x hx)) (gR_s hg ia) q1 hsl hha p1 (by omega) σ1 m ρ t sv (c + 4) (cr + 5) N s1 h1 x1 S1 (by omega) (by omega) (by omega) (by omega) ?_
  generalize fxN A D (sg_g σ 6) B O call f a N ρ s1 = r at k pua
  match r, k, pua with
  | .inl e, k, _ => exact fun σ' q1 q2 q3 q4 => k σ' q1 q2 q3 q4
  | .inr (v, s2', ρ1), k, pua =>
    obtain ⟨lv, kv⟩ := pua v s2' ρ1 (fun q hq => (hS q hq).2.2.2) rfl
    intro σ2 m2 hm2 h2 x2 u2 v2
    simp only at k hm2 h2 x2 u2 v2
    have sb2 := x2.2.2.2.1
    obtain ⟨m2, rfl⟩ : ∃ m', m2 = m' + 1 := ⟨m2 - 1, by omega⟩
    refine zy_bind (A := A) (D := D) (vb := vb) (lev := lev) (j := j) (ρ := ρ1) (nl := nl) (dix := dix) (v := v) h2 x2 ⟨by omega, tb⟩ p2 ⟨t2.1, c2⟩ hSl vbn (by rw [btn]; exact v2) (fun σ3 h3 x3 u3 r3 => ?_)
    have u12 : yU σ A D vb lev j σ8 σ2 ρ ρ1 t sv nl dix (n :: L1) := yU_t u1' u2 ⟨Int.le_refl _, Int.le_refl _⟩ ⟨Int.le_refl _, Int.le_refl _⟩ (fun _ hx => hx) ia
    have u13 : yU σ A D vb lev j σ8 σ3 ρ (fun x => if x = n then v else ρ1 x) t sv nl dix (n :: L1) := yU_t u12 u3 ⟨Int.le_refl _, Int.le_refl _⟩ ⟨Int.le_refl _, Int.le_refl _⟩ (fun _ hx => hx) (by simp)
    have hne : ∀ q ∈ sc, ¬ q.1 = n := fun q hq w => by
      have := (sd.2.2.2.2 (n, sg_g σ 6 a) (by simp)).1
      exact (hsco q hq).2 (Or.inl (Or.inl ⟨by rw [w]; omega, by rw [w]; simp⟩))
    have S3 : scY σ A D vb σ3 (fun x => if x = n then v else ρ1 x) N ((n, sg_g σ 6 a) :: sc) := fun q hq => by
      rcases List.mem_cons.mp hq with e | e
      · subst e
        exact ⟨vbn, btn.symm, r3, by show (if n = n then v else ρ1 n).length = N; rw [if_pos rfl]; exact lv⟩
      · exact scY_u hS u13 (fun q' hq' => by
          show (if q'.1 = n then v else ρ1 q'.1) = ρ q'.1
          rw [if_neg (hne q' hq')]
          exact kv q'.1 (fun w => (hsco q' hq').2 (ow_s ia w))) (fun q' hq' => (hsco q' hq').2) q e
    refine F d Ld' (b1 :: es) _ (b1 + 1) b' (p + 1 + (cd A f a).length + 1) h sd (fun x hx => hL x (id' x hx)) (gR_s hg id') q3 (fun q hq => ?_) hhd p3.2.2.2 hb σ3 m2 (fun x => if x = n then v else ρ1 x) t sv (c + 4) (cr + 4) N s2' h3 x3 S3 (by omega) (by omega) (by omega) (by omega) ?_
    · rcases List.mem_cons.mp hq with e | e
      · subst e
        show slF σ n < b1 + 1 ∧ sg_g σ 34 (slF σ n) = sg_g σ 6 a ∧ kIn (sg_g σ 6 a)
        rw [sl_let (by omega), q5]
        refine ⟨by omega, ?_, (stN_w sa).2.2.1⟩
        rw [q6, hk2]
        rfl
      · exact slQ_m hsl (by omega) q e
    · generalize fxN A D (sg_g σ 6) B O call f d N (fun x => if x = n then v else ρ1 x) s2' = r2 at k
      match r2, k with
      | .inl e, k => exact fun σ' q1 q2 q3 q4 => k σ' q1 q2 q3 q4
      | .inr (v3, s3', ρ2), k =>
        intro σ4 m4 hm4 h4 x4 u4 v4
        simp only at hm4 h4 x4 u4 v4
        refine k σ4 m4 (by show 6 * (2001 - s3'.1) + cr ≤ (m4 : Int); omega) ?_ x4 (yU_t u13 u4 ⟨Int.le_refl _, Int.le_refl _⟩ ⟨Int.le_refl _, Int.le_refl _⟩ (fun _ hx => hx) id') (by rw [← e6]; exact v4)
        simp only [List.length_cons, List.length_append]
        rw [show p + (((cd A f a).length + ((cd A f d).length + 1) + 1 : Nat) : Int) = p + 1 + (cd A f a).length + 1 + (cd A f d).length by omega]
        exact bP_m h4 ⟨c0, by omega⟩
end CVS
/-! BIG STEPS of the class's flat run, exactly: calls. -/
section CWD
variable (σ : sg_S) (A : aT) (D : List aDf) (vb : Int → Prop) (lev : Int → Nat) (X : sg_S → Prop) (call : Int → Nat → fEv → fSt → fRs)
/-- a call of DEF q, once it is entered -/
def cLy (q : Int) : Prop := ∀ (σ8 : sg_S) (m : Nat) (ρ : fEv) (t sv c cr r : Int) (N : Nat) (s : fSt), bP σ σ8 t sv N c (sg_g σ 31 q) → ctX σ8 s → sg_g σ8 63 q = r → (∀ j : Nat, (j : Int) < sg_g σ 23 q → rlY σ A D σ8 ρ (1100 + 6 * q + j) ∧ (ρ (1100 + 6 * q + j)).length = N) → t + nxq σ q ≤ 400 → sv + 12 * nxq σ q ≤ 2400 → 6 * (2001 - s.1) + cr ≤ (m : Int) → 1 ≤ cr → kY σ A D vb lev (q.toNat + 1) X σ8 ρ t sv c r (cr - 1) (nxq σ q) q [] N (sg_g σ 6 (sg_g σ 22 q)).toNat (call q N ρ s) → Ry σ X m σ8
/-- the DEFS before -/
def dDy (nl dix : Int) : Prop := ∀ q, 0 ≤ q → q < dix → q < 12 ∧ cLy σ A D vb lev X call q ∧ nxq σ q ≤ nl ∧ (0 ≤ sg_g σ 23 q ∧ sg_g σ 23 q ≤ 6) ∧ (0 ≤ sg_g σ 24 q ∧ sg_g σ 24 q + sg_g σ 23 q ≤ 272) ∧ ∃ y, D[q.toNat]? = some y ∧ (y.2.2.1.length : Int) = sg_g σ 23 q ∧ y.2.2.2 = sg_g σ 22 q
end CWD
section CWS
variable {σ : sg_S} {A : aT} {D : List aDf} {vb : Int → Prop} {X : sg_S → Prop} {B : Int → Int} {lev : Int → Nat} {O : Int → Nat → List Int} {call : Int → Nat → fEv → fSt → fRs} {j : Nat} {nl dix : Int} {f : Nat}
/-- what is bound at once, from binder b on -/
theorem rlY_us {σ8 σ1 : sg_S} {ρ : fEv} {b fs : Int} {vs : List (List vaF)} (hSl : slA σ vb) (hv : ∀ j : Nat, j < vs.length → vb (b + j) ∧ slF σ (b + j) = fs + j) (ex : yEx σ8 σ1) (hi : ∀ (j : Nat) (v : List vaF), vs[j]? = some v → yX σ1 (bTy A D (sg_g σ 6) (b + j)).toNat (sg_g σ1 62 (fs + j)) v) (ho : ∀ x, ¬ (fs ≤ x ∧ x < fs + vs.length) → sg_g σ1 62 x = sg_g σ8 62 x) : (∀ j : Nat, j < vs.length → rlY σ A D σ1 (fUs ρ b 0 vs) (b + j)) ∧ ∀ x, vb x → rlY σ A D σ8 ρ x → rlY σ A D σ1 (fUs ρ b 0 vs) x := by
  have h1 : ∀ j : Nat, j < vs.length → rlY σ A D σ1 (fUs ρ b 0 vs) (b + j) := fun j hj => by
    obtain ⟨v, hv'⟩ : ∃ v, vs[j]? = some v := ⟨_, List.getElem?_eq_getElem hj⟩
    have := fUs_at (b := b) (ρ := ρ) (i := 0) hv'
    simp only [Int.ofNat_zero, Int.cast_ofNat_Int, Int.add_zero] at this
    unfold rlY
    rw [this, (hv j hj).2]
    exact hi j v hv'
  refine ⟨h1, fun x hx hr => ?_⟩
  by_cases c : b ≤ x ∧ x < b + vs.length
  · have := h1 (x - b).toNat (by omega)
    rw [show b + (((x - b).toNat : Nat) : Int) = x by omega] at this
    exact this
  · have e : fUs ρ b 0 vs x = ρ x := fUs_no (ρ := ρ) (i := 0) (by simp only [Int.ofNat_zero, Int.cast_ofNat_Int, Int.add_zero]; omega)
    unfold rlY
    rw [e, ho _ (fun z => ?_)]
    · exact yX_up ex hr
    · have hj : (slF σ x - fs).toNat < vs.length := by omega
      obtain ⟨q1, q2⟩ := hv _ hj
      have := hSl.2 x _ hx q1 (by rw [q2]; omega)
      omega
theorem yN_call (hD : dDy σ A D vb lev X call nl dix) (hdj : dix ≤ (j : Int)) (hW : ckW σ A) (hSl : slA σ vb) (hVb : ∀ b, vbF A D b → vb b) (hnl : 0 ≤ nl) (hP : fPu A D (sg_g σ 6) B lev O call j f) (F : yN σ A D vb X B lev O call j nl dix f) {n : Int} {L1 es : List Int} {sc : List (Int × Int)} {b b' p : Int} {h : Nat} (hk : A.2.1 n = 13) (hf : fT A (A.2.2.2.2.1 n) L1) (hst : stN A D (sg_g σ 6) B lev j (f + 1) (n :: L1) sc n) (hL : ∀ x ∈ n :: L1, nl ≤ x ∧ lyQ σ A D B dix x) (hg : gRq σ A (n :: L1)) (hsc : scN σ A dix (f + 1) es n b b') (hsl : slQ σ sc b) (hh : htN A (f + 1) n ≤ h) (hp : pl σ p (cd A (f + 1) n)) (hb : b' ≤ 272) {σ8 : sg_S} {m : Nat} {ρ : fEv} {t sv c cr : Int} {N : Nat} {s : fSt} (h8 : bP σ σ8 t sv N c p) (h9 : ctX σ8 s) (hS : scY σ A D vb σ8 ρ N sc) (ht : t + (n :: L1).length + nl ≤ 400) (hv : sv + ((h * (n :: L1).length : Nat) : Int) + 12 * nl ≤ 2400) (hm : 6 * (2001 - s.1) + cr ≤ (m : Int)) (hcr : 0 ≤ cr) (k : kY σ A D vb lev j X σ8 ρ t sv c (p + (cd A (f + 1) n).length) cr nl dix (n :: L1) N (sg_g σ 6 n).toNat (fxN A D (sg_g σ 6) B O call (f + 1) n N ρ s)) : Ry σ X m σ8 := by
  obtain ⟨hty, -, hN0, hlv, hsco⟩ := hst
  obtain ⟨t1, t2, t3, t4, t5, t6, t7, t8, t9⟩ := hty
  obtain ⟨c1, c2⟩ := ck3 hW t2
  have hN := (List.nodup_cons.mp hN0).2
  have n1 : ¬ A.2.1 n = 1 := by omega
  have n2 : ¬ A.2.1 n = 2 := by omega
  have n3 : ¬ A.2.1 n = 3 := by omega
  have n15 : ¬ A.2.1 n = 15 := by omega
  have ho : kOrd A n = A.2.2.2.2.1 n := by unfold kOrd; rw [if_neg n15]
  obtain ⟨l1, l2, l3, y, ly1, ly2, ly3⟩ := (hL n (by simp)).2.2.2 hk
  obtain ⟨d1, d2, d3, d4, d5, y', dy1, dy2, dy3⟩ := hD (B n) l2.1 l2.2
  rw [ly1] at dy1
  have ey := Option.some.inj dy1
  subst ey
  have hcn : cnc A n = [(5, n)] := by unfold cnc; rw [if_neg n2, if_neg n3, if_pos hk]
  obtain ⟨-, s1', -, s2⟩ := hsc
  rw [ho] at s2
  simp only [cd] at hp k
  rw [ho, hcn] at hp k
  have p0 := pl_c hp
  obtain ⟨p1, p2⟩ := pl_a p0.2.2.2
  have ll := fT_len hf
  simp only [List.length_cons] at ht hv
  have hmul : sv + ((h * L1.length : Nat) : Int) + 12 * nl ≤ 2400 := by
    have := Nat.mul_le_mul_left h (show L1.length ≤ L1.length + 1 by omega)
    omega
  have hsv12 : sv + 12 * nl ≤ 2400 := by omega
  have c0 := h8.2.2.2.2.2.2
  have tb := h8.2.2.2.2.1
  have sb := h9.2.2.2.1
  obtain ⟨m, rfl⟩ : ∃ m', m = m' + 1 := ⟨m - 1, by omega⟩
  simp only [fxN] at k
  refine zy_begin (A := A) (D := D) (vb := vb) (lev := lev) (j := j) (ρ := ρ) (nl := nl) (dix := dix) h8 h9 hp ⟨t2.1, c2⟩ (fun z σ' f' e' w' => ?_) (fun s1 z σ1 h1 x1 u1 e69 v64 => ?_)
  · rw [z] at k
    exact k σ' f' e' w' (by show ¬ (8 : Int) = 0; decide)
  have st1 := fBg_s z
  rw [z] at k
  simp only at k
  rw [if_neg n1, if_neg n2, if_neg n3, if_pos hk] at k
  have u1' : yU σ A D vb lev j σ8 σ1 ρ ρ t sv nl dix (n :: L1) := yU_w u1 ⟨Int.le_refl _, Int.le_refl _⟩ (Int.le_refl _) (Int.le_refl _) (fun x hx _ => by simp at hx; simp [hx]) (fun b w => ow_s (fun y hy => by simp at hy; simp [hy]) w)
  refine yRow hnl hP F (A.2.2.2.2.1 n) L1 0 b b' (p + 1) hf hN (fun y hy => hlv y (by simp [hy])) (fun q hq => ⟨(hsco q hq).1, fun w => (hsco q hq).2 (ow_s (fun y hy => by simp [hy]) w)⟩) (fun x hx => hL x (by simp [hx])) (gR_s hg (fun x hx => by simp [hx])) (t9 n2 n15) s2 (fun i _ _ => kQ_o n2 n3 n15) hsl (fun x hx => ht_k hh hx) p1 hb σ1 m ρ t sv (c + 4) (cr + 5) s1 h1 x1 (scY_u hS u1 (fun _ _ => rfl) (fun q hq w => (hsco q hq).2 (ow_s (fun y hy => by simp at hy; simp [hy]) w))) (by omega) hmul (by omega) (by omega) ?_
  generalize fSq (fun x => fxN A D (sg_g σ 6) B O call f x N) (A.2.2.2.2.1 n) ρ s1 = r at k
  match r, k with
  | .inl e, k => exact fun σ' q1 q2 q3 q4 => k σ' q1 q2 q3 q4
  | .inr (vs, s2', ρ1), k =>
    intro σ2 m2 lv hm2 h2 x2 u2 v2
    simp only at k lv hm2 h2 x2 u2 v2
    have sb2 := x2.2.2.2.1
    have u12 : yU σ A D vb lev j σ8 σ2 ρ ρ1 t sv nl dix (n :: L1) := yU_t u1' u2 ⟨Int.le_refl _, Int.le_refl _⟩ ⟨Int.le_refl _, Int.le_refl _⟩ (fun x hx => hx) (fun x hx => by simp [hx])
    obtain ⟨m2, rfl⟩ : ∃ m', m2 = m' + 1 := ⟨m2 - 1, by omega⟩
    obtain ⟨q0, q1, q2, q3⟩ := pl_c p2
    refine ry_5 (p := p + 1 + (cdS A (cd A f) n 0 (A.2.2.2.2.1 n)).length) (k := n) h2.2.2.1.2.2.2 q0 h2.2.1.2.2.1 q1 q2 (fun σ32 e32 => ?_)
    obtain ⟨h32, f32⟩ := bP_32 h2 ⟨q0.2, q0.1⟩ e32
    obtain ⟨b1, b2, ⟨b3, b4, b5, b6⟩, b7, b8, b9, b10⟩ := id h32
    rw [xa_in (a := 16) ⟨t2.1, c2⟩, l1]
    rw [l3] at b3
    refine m_enter (q := B n) (p := sg_g σ 23 (B n)) (fs := sg_g σ 24 (B n)) (t := t) (pc := p + 1 + (cdS A (cd A f) n 0 (A.2.2.2.2.1 n)).length + 1) (E := sg_g σ 31 (B n)) ⟨l2.1, d1⟩ (sg_F_ga b1 rfl) d4 (sg_F_ga b1 rfl) d5 b3 ⟨tb, by omega⟩ b6 (sg_F_ga b1 rfl) (fun σ3 f3 z1 z2 z3 z4 z5 z6 _ => ?_)
    have F3 : sg_F [62, 63, 8061, 9061] σ2 σ3 := sg_F_t (sg_F_m f32 rfl) (sg_F_m f3 rfl)
    have ex : yEx σ2 σ3 := yEx_F F3 rfl
    have vl : (vs.length : Int) = sg_g σ 23 (B n) := by omega
    have pv : ∀ j : Nat, j < vs.length → vb (1100 + 6 * B n + j) ∧ slF σ (1100 + 6 * B n + j) = sg_g σ 24 (B n) + j := fun j hj => by
      refine ⟨hVb _ (Or.inr (Or.inr ⟨(B n).toNat, j, y, ly1, by omega, by omega⟩)), sl_par l2.1 (by omega)⟩
    have bt : ∀ (j : Nat) (x : Int), (A.2.2.2.2.1 n)[j]? = some x → bTy A D (sg_g σ 6) (1100 + 6 * B n + j) = sg_g σ 6 x := fun j x hx => by
      have hj := gE_l hx
      rw [bTw_p l2.1 (by omega), List.getD_eq_getElem?_getD (l := D), ly1, Option.getD_some, ← ly2, List.getD_eq_getElem?_getD, List.getElem?_map, hx]
      rfl
    have vget : ∀ (j : Nat) (v : List vaF), vs[j]? = some v → ∃ x, (A.2.2.2.2.1 n)[j]? = some x ∧ yX σ2 (sg_g σ 6 x).toNat (sg_g σ2 64 (t + j)) v ∧ v.length = N := fun j v hv' => by
      have hj := gE_l hv'
      obtain ⟨x, hx⟩ : ∃ x, (A.2.2.2.2.1 n)[j]? = some x := ⟨_, List.getElem?_eq_getElem (by omega)⟩
      have ev : vs.getD j [] = v := by rw [List.getD_eq_getElem?_getD, hv']; rfl
      have := v2 j x hx
      rw [ev] at this
      exact ⟨x, hx, this⟩
    obtain ⟨r1, r2⟩ := rlY_us (A := A) (D := D) (ρ := ρ1) (b := 1100 + 6 * B n) (fs := sg_g σ 24 (B n)) (vs := vs) hSl pv ex (fun j v hv' => by
      have hj := gE_l hv'
      obtain ⟨x, hx, hy, -⟩ := vget j v hv'
      rw [bt j x hx, z5 j (by omega), sg_F_ga f32 rfl]
      exact yX_up ex hy) (fun x hx => by rw [z6 x (by rw [← vl]; exact hx), sg_F_ga f32 rfl])
    have u23 : yU σ A D vb lev j σ2 σ3 ρ1 (fUs ρ1 (1100 + 6 * B n) 0 vs) t sv nl dix [] := ⟨ex, fun i _ => sg_F_ga F3 rfl, fun x hx _ hr => r2 x hx hr, fun i _ => ⟨sg_F_ga F3 rfl, sg_F_ga F3 rfl⟩, fun x _ _ => ⟨sg_F_ga F3 rfl, sg_F_ga F3 rfl, sg_F_ga F3 rfl⟩, fun q hq => by rw [z4 q (by omega), sg_F_ga f32 rfl]⟩
    have u13 : yU σ A D vb lev j σ8 σ3 ρ (fUs ρ1 (1100 + 6 * B n) 0 vs) t sv nl dix (n :: L1) := yU_t u12 u23 ⟨Int.le_refl _, Int.le_refl _⟩ ⟨Int.le_refl _, Int.le_refl _⟩ (fun _ hx => hx) (by simp)
    refine d2 σ3 m2 (fUs ρ1 (1100 + 6 * B n) 0 vs) t sv (c + 4) (cr + 4) _ N s2' ⟨sg_F_t b1 (sg_F_m f3 rfl), mC_F b2 f3 rfl, ⟨z1, by rw [sg_F_g f3 (by rfl)]; exact b4, by rw [sg_F_g f3 (by rfl)]; exact b5, z2⟩, b7, tb, b9, b10⟩ (ctX_F F3 rfl x2) z3 (fun j hj => ⟨r1 j (by omega), ?_⟩) (by omega) (by omega) (by omega) (by omega) ?_
    · obtain ⟨v, hv'⟩ : ∃ v, vs[j]? = some v := ⟨_, List.getElem?_eq_getElem (by omega)⟩
      have := fUs_at (b := 1100 + 6 * B n) (ρ := ρ1) (i := 0) hv'
      simp only [Int.ofNat_zero, Int.cast_ofNat_Int, Int.add_zero] at this
      rw [this]
      obtain ⟨x, -, -, e⟩ := vget j v hv'
      exact e
    generalize call (B n) N (fUs ρ1 (1100 + 6 * B n) 0 vs) s2' = r2' at k
    match r2', k with
    | .inl e, k => exact fun σ' q1 q2 q3 q4 => k σ' q1 q2 q3 q4
    | .inr (v3, s3', ρ2), k =>
      intro σ4 m4 hm4 h4 x4 u4 v4
      simp only at hm4 h4 x4 u4 v4
      refine k σ4 m4 (by show 6 * (2001 - s3'.1) + cr ≤ (m4 : Int); omega) ?_ x4 (yU_t u13 (yU_w (L := []) u4 ⟨d3, by omega⟩ (Int.le_refl _) (Int.le_refl _) (by simp) (fun b w => ow_l (by omega) (by simp) w)) ⟨Int.le_refl _, Int.le_refl _⟩ ⟨Int.le_refl _, Int.le_refl _⟩ (fun _ hx => hx) (by simp)) (by rw [ly3, dy3]; exact v4)
      simp only [List.length_cons, List.length_append, List.length_nil]
      rw [show p + (((cdS A (cd A f) n 0 (A.2.2.2.2.1 n)).length + (0 + 1) + 1 : Nat) : Int) = p + 1 + (cdS A (cd A f) n 0 (A.2.2.2.2.1 n)).length + 1 by omega]
      exact bP_m h4 ⟨c0, by omega⟩
end CWS
/-! which variables the class carries along; fork, turn, join in one turn each, exactly. -/
section CXA
variable {A : aT} {ds : kD} {T B : Int → Int}
theorem tyN_b (hA : A.1 ≤ 200) : ∀ (f : Nat) (sc : List (Int × Int)) (x : Int) (L : List Int), tyN A ds T B f sc x → fT A [x] L → ∀ y ∈ L, A.2.1 y = 1 → (B y, T y) ∈ sc ∨ bIn A L (B y)
  | 0, sc, x, L, h, _, _, _, _ => by cases h
  | f + 1, sc, x, L, h, hf, y, hy, ky => by
    obtain ⟨a1, a2, a3, a4, a5, a6, a7, a8, a9⟩ := h
    obtain ⟨L1, L2, e1, w1, w2, w3⟩ := fT_inv hf
    have e2 := fT_nil w3
    subst e2
    rw [List.append_nil] at e1
    subst e1
    rcases List.mem_cons.mp hy with e | e
    · rw [e] at ky ⊢
      exact Or.inl (a4 ky)
    · obtain ⟨z, z1, L', z2, z3, z4⟩ := fT_in w2 y e
      have sub : ∀ w ∈ L', w ∈ x :: L1 := fun w hw => by simp [z4 w hw]
      by_cases k2 : A.2.1 x = 2
      · obtain ⟨a, c, ea⟩ : ∃ a c, A.2.2.2.2.1 x = [a, c] := kid2 (a1.2.2.1 (Or.inl k2))
        obtain ⟨b1, b2⟩ := a7 k2 a c ea
        rw [ea] at z1
        rcases List.mem_cons.mp z1 with q | q
        · subst q
          rcases tyN_b hA f _ _ _ b1 z2 y z3 ky with r | r
          · exact Or.inl r
          · exact Or.inr (bIn_m sub r)
        · have q' : z = c := by simpa using q
          subst q'
          rcases tyN_b hA f _ _ _ b2 z2 y z3 ky with r | r
          · rcases List.mem_cons.mp r with r | r
            · have : B y = x := by have := congrArg (·.1) r; exact this
              refine Or.inr (Or.inl ⟨by rw [this]; simp, by rw [this]; exact k2⟩)
            · exact Or.inl r
          · exact Or.inr (bIn_m sub r)
      · by_cases k15 : A.2.1 x = 15
        · have l7 := a1.2.2.2.2.2.2.1 k15
          obtain ⟨bd, tl, ea⟩ : ∃ bd tl, A.2.2.2.2.1 x = bd :: tl := by
            cases e : A.2.2.2.2.1 x with
            | nil => rw [e] at l7; simp at l7; omega
            | cons p q => exact ⟨p, q, rfl⟩
          obtain ⟨b1, b2⟩ := a8 k15 bd tl ea
          rw [ea] at z1
          have hz : z ∈ tl.take (A.2.2.2.2.2 x).length ∨ z ∈ tl.drop (A.2.2.2.2.2 x).length ++ [bd] := by
            rcases List.mem_cons.mp z1 with q | q
            · exact Or.inr (by simp [q])
            · rw [← List.take_append_drop (A.2.2.2.2.2 x).length tl] at q
              rcases List.mem_append.mp q with q | q
              · exact Or.inl q
              · exact Or.inr (by simp [q])
          rcases hz with q | q
          · rcases tyN_b hA f _ _ _ (b1 z q).1 z2 y z3 ky with r | r
            · exact Or.inl r
            · exact Or.inr (bIn_m sub r)
          · rcases tyN_b hA f _ _ _ (b2 z q) z2 y z3 ky with r | r
            · rcases List.mem_append.mp r with r | r
              · obtain ⟨i, u, hu, ep⟩ := gsc_m _ _ _ r
                have hi := lt_of_get hu
                rw [List.length_take] at hi
                have : B y = 210 + 4 * x + i := by
                  have := congrArg (·.1) ep
                  simp only at this
                  omega
                exact Or.inr (Or.inr ⟨x, by simp, k15, i, by omega, this⟩)
              · exact Or.inl r
            · exact Or.inr (bIn_m sub r)
        · rcases tyN_b hA f _ _ _ (a9 k2 k15 z z1) z2 y z3 ky with r | r
          · exact Or.inl r
          · exact Or.inr (bIn_m sub r)
end CXA
section CXB
variable {σ : sg_S} {A : aT} {D : List aDf} {vb : Int → Prop} {X : sg_S → Prop} {B : Int → Int} {lev : Int → Nat} {O : Int → Nat → List Int} {j : Nat} {dix : Int} {f : Nat}
/-- the slots that a part wants are those of the names bound outside of it -/
theorem w_out {x b bx bx' : Int} {L Lx es : List Int} {sc : List (Int × Int)} (hW : ckW σ A) (hx : 0 ≤ x ∧ x < A.1) (hg : gRq σ A L) (hxL : x ∈ L) (stx : stN A D (sg_g σ 6) B lev j f Lx sc x) (hs : scN σ A dix f es x bx bx') (hsl : slQ σ sc b) (hb : b ≤ bx) (hly : ∀ y ∈ Lx, lyQ σ A D B dix y) (s : Int) : (∃ z, (∃ y ∈ Lx, A.2.1 y = 1 ∧ B y = z ∧ ¬ insL Lx z) ∧ slF σ z = s) ↔ wnt σ (sg_g σ 11 x) (sg_g σ 12 x) b s := by
  have hA := hW.1.2
  have fx := stx.2.1
  constructor
  · rintro ⟨z, ⟨y, hy, ky, e, ni⟩, es'⟩
    have l16 := (hly y hy).2.1 ky
    rcases stN_v hA stx hy ky with ⟨q, -⟩ | q
    · have sb := (hsl _ q).1
      simp only at sb
      rw [← es', ← e, ← l16]
      exact wnt_i (es := es) hW hx hg hxL fx hy ky (by rw [l16]; exact sb)
    · rw [e] at q; exact absurd q ni
  · intro h
    have h5 : s < b := by obtain ⟨_, _, _, _, _, h5⟩ := h; exact h5
    obtain ⟨y, j1, j2, j3, j4, -⟩ := h
    have jL := (hg x hxL Lx fx y).mpr ⟨j1, j2⟩
    have jr := fT_inq (fun k a b => (hW.2.2 k a b).2) fx (by intro y hy; simp at hy; rw [hy]; exact hx) _ jL
    have c := (ck3 hW jr).1
    rw [j3] at c
    have ky := kmp_n c.symm
    have l16 := (hly y jL).2.1 ky
    refine ⟨B y, ⟨y, jL, ky, rfl, ?_⟩, by rw [← l16]; exact j4⟩
    rcases tyN_b hA f sc x Lx stx.1 fx y jL ky with q | q
    · exact fun w => (stx.2.2.2.2 _ q).2 (Or.inl w)
    · have r := (scN_sR f es x bx bx' Lx fx stx.2.2.1 (fun w hw => by have := (stx.2.2.2.1 w hw).1; omega) hs).1 _ q
      omega
/-- after a branch -/
def bBX (σ8 σ' : sg_S) (n sv : Int) (Ob : List Int) (sl ty : Int → Int) (ρ' : fEv) : Prop := yEx σ8 σ' ∧ (∀ y ∈ Ob, yX σ' (ty y).toNat (sg_g σ' 62 (sl y)) (ρ' y)) ∧ (∀ s, s ∉ Ob.map sl → sg_g σ' 62 s = sg_g σ8 62 s) ∧ (∀ i, sg_g σ' 64 i = sg_g σ8 64 i ∧ sg_g σ' 63 i = sg_g σ8 63 i ∧ sg_g σ' 69 i = sg_g σ8 69 i) ∧ (∀ i, ¬ i = n → sg_g σ' 70 i = sg_g σ8 70 i ∧ sg_g σ' 71 i = sg_g σ8 71 i) ∧ sg_g σ' 71 n = sv ∧ svd σ8 σ' sv (Ob.map sl) ∧ ∀ i, i < sv → sg_g σ' 72 i = sg_g σ8 72 i ∧ sg_g σ' 73 i = sg_g σ8 73 i
variable {σ8 : sg_S} {m N : Nat} {t sv c p n : Int} {C : List (Int × Int)} {s : fSt} {ρ : fEv} {Ob : List Int} {sl ty : Int → Int} {cv : List vaF}
theorem zy_fork {x lo hi bd : Int} (h : bP σ σ8 (t + 1) sv N c p) (hs : ctX σ8 s) (hc : 4 ≤ c) (ht : t < 400 ∧ 0 ≤ t) (hp : pl σ p ((7, n) :: C)) (hn : 0 ≤ n ∧ n < 200) (hx : 0 ≤ x ∧ x < 200) (h2 : v_tSecond σ n = x) (h11 : sg_g σ 11 x = lo) (h12 : sg_g σ 12 x = hi) (hl : 0 ≤ lo ∧ hi < 200) (h16 : sg_g σ 16 n = bd) (h69 : sg_g σ8 69 n = N) (hch : yX σ8 0 (sg_g σ8 64 t) cv) (hcl : cv.length = N) (hs0 : sv ≤ 2400 ∧ sv + (hi - lo + 1) ≤ 2400) (hOs : (Ob.map sl).Pairwise (· < ·)) (hOm : ∀ s, s ∈ Ob.map sl ↔ wnt σ lo hi bd s) (hT : ∀ y ∈ Ob, cyT σ8 sl ty ρ N y) (k0 : ∀ e, fCa ty (fWh true cv) Ob s ρ = .inl e → ∀ σ', sg_F bRL σ σ' → sg_g σ' 61 10 = e.1 → ctX σ' e.2 → ¬ e.1 = 0 → X σ') (k : ∀ s3 ρ3, fCa ty (fWh true cv) Ob s ρ = .inr (s3, ρ3) → ∀ σ', bP σ σ' t (sv + Ob.length) (fWh true cv).length c (p + 1) → ctX σ' s3 → bBX σ8 σ' n sv Ob sl ty ρ3 → ((Ob.length : Int) ≤ hi - lo + 1 ∨ Ob = []) → sg_g σ' 70 n = sg_g σ8 64 t → Ry σ X m σ') : Ry σ X (m + 1) σ8 := by
  obtain ⟨p0, p1, p2, p3⟩ := pl_c hp
  refine ry_7 (p := p) (k := n) h.2.2.1.2.2.2 p0 h.2.1.2.2.1 p1 p2 (fun σ32 e32 => ?_)
  obtain ⟨h32, f32⟩ := bP_32 h ⟨p0.2, p0.1⟩ e32
  obtain ⟨a1, a2, ⟨a3, a4, a5, a6⟩, a7, a8, a9, a10⟩ := id h32
  have e8 : yEx σ8 σ32 := yEx_F f32 rfl
  have e64 : sg_g σ32 64 t = sg_g σ8 64 t := sg_F_ga f32 rfl
  refine f_forkX (a := n) (x := x) (lo := lo) (hi := hi) (bd := bd) (n := N) (sv := sv) (c := c) (t := t) (cv := cv) (Ob := Ob) (sl := sl) (ty := ty) (ρ := ρ) (s := s) hn hx ?_ a2 (ctX_F f32 rfl hs) hc a3 ⟨ht.2, ht.1⟩ (by rw [sg_F_ga a1 rfl]; exact h11) (by rw [sg_F_ga a1 rfl]; exact h12) hl (by rw [sg_F_ga a1 rfl]; exact h16) (by rw [sg_F_ga f32 rfl]; exact h69) (by omega) (by rw [e64]; exact yX_up e8 hch) hcl a4 ⟨a9, hs0.1, hs0.2⟩ hOs (fun s => by rw [hOm s, wnt_F a1 rfl]) (fun y hy => cyT_F f32 e8 rfl (hT y hy)) (fun σ' f' r' w3 w5 w6 w7 _ => ?_)
  · rw [← h2]
    unfold v_tSecond
    rw [xa_in (a := 7) hn, xa_in (a := 7) hn, sg_F_ga a1 rfl]
    unfold sx_at
    split
    · exact sg_F_ga a1 rfl
    · rfl
  have FF : sg_F bRL σ σ' := sg_F_t a1 (sg_F_m f' rfl)
  obtain ⟨r1, r2, r3, r4, r5, r6, r7⟩ := r'
  cases e : fCa ty (fWh true cv) Ob s ρ with
  | inl q =>
    rw [e] at r1
    obtain ⟨q1, q2, q3⟩ := r1
    exact ry_s (by rw [q2]; exact q1) (k0 q e σ' FF q2 q3 q1)
  | inr q =>
    obtain ⟨s3, ρ3⟩ := q
    rw [e] at r1
    obtain ⟨q1, q2, q3, q4, q5⟩ := r1
    have wl := cwF_le true cv
    rw [← fWh_l] at wl
    refine k s3 ρ3 e σ' ⟨FF, q1, ⟨w5, r3, r2 q1.2.2.1, by rw [sg_F_g f' (by rfl)]; exact a6⟩, ⟨by omega, by omega⟩, ht.2, by omega, a10⟩ q3 ⟨yEx_t e8 q2, q4, fun s hs => by rw [q5 s hs, sg_F_ga f32 rfl], fun i => ⟨by rw [sg_F_ga f' rfl, sg_F_ga f32 rfl], by rw [sg_F_ga f' rfl, sg_F_ga f32 rfl], by rw [sg_F_ga f' rfl, sg_F_ga f32 rfl]⟩, fun i hi => ⟨by rw [w7 i hi, sg_F_ga f32 rfl], by rw [r5 i hi, sg_F_ga f32 rfl]⟩, r4, fun i y hy => ?_, fun i hi => ?_⟩ w3 (by rw [w6, e64])
    · obtain ⟨c1, c2⟩ := r6 i y hy
      exact ⟨c1, by rw [c2, sg_F_ga f32 rfl]⟩
    · obtain ⟨c1, c2⟩ := r7 i hi
      exact ⟨by rw [c1, sg_F_ga f32 rfl], by rw [c2, sg_F_ga f32 rfl]⟩
theorem zy_turn {x lo hi bd ch m0 : Int} {W1 : List Int} {dc : Nat} (h : bP σ σ8 t (sv + W1.length) m0 c p) (hs : ctX σ8 s) (h0 : 0 ≤ sv) (hc : 4 ≤ c) (hp : pl σ p ((8, n) :: C)) (hn : 0 ≤ n ∧ n < 200) (hx : 0 ≤ x ∧ x < 200) (h8' : sg_g σ 8 n = x) (h11 : sg_g σ 11 x = lo) (h12 : sg_g σ 12 x = hi) (hl : 0 ≤ lo ∧ hi < 200) (h16 : sg_g σ 16 n = bd) (h69 : sg_g σ8 69 n = N) (hN : N ≤ 6000) (h70 : sg_g σ8 70 n = ch) (hch : yX σ8 dc ch cv) (hcl : cv.length = N) (h71 : sg_g σ8 71 n = sv) (hs0 : sv ≤ 2400 ∧ sv + (hi - lo + 1) ≤ 2400 ∧ sv + W1.length ≤ 2400) (hN1 : W1.Nodup) (hW1 : ∀ x ∈ W1, 0 ≤ x ∧ x < 272) (h72 : ∀ (i : Nat) (x : Int), W1[i]? = some x → sg_g σ8 72 (sv + i) = x) (hOs : (Ob.map sl).Pairwise (· < ·)) (hOm : ∀ s, s ∈ Ob.map sl ↔ wnt σ lo hi bd s) (hT : ∀ σ2, rsW σ8 σ2 sv W1 → ∀ y ∈ Ob, cyT σ2 sl ty ρ N y) (k0 : ∀ e, fCa ty (fWh false cv) Ob s ρ = .inl e → ∀ σ', sg_F bRL σ σ' → sg_g σ' 61 10 = e.1 → ctX σ' e.2 → ¬ e.1 = 0 → X σ') (k : ∀ s3 ρ3, fCa ty (fWh false cv) Ob s ρ = .inr (s3, ρ3) → ∀ σ2 σ', rsW σ8 σ2 sv W1 → bP σ σ' t (sv + Ob.length) (fWh false cv).length c (p + 1) → ctX σ' s3 → bBX σ2 σ' n sv Ob sl ty ρ3 → ((Ob.length : Int) ≤ hi - lo + 1 ∨ Ob = []) → sg_g σ' 70 n = ch → Ry σ X m σ') : Ry σ X (m + 1) σ8 := by
  obtain ⟨p0, p1, p2, p3⟩ := pl_c hp
  refine ry_8 (p := p) (k := n) h.2.2.1.2.2.2 p0 h.2.1.2.2.1 p1 p2 (fun σ32 e32 => ?_)
  obtain ⟨h32, f32⟩ := bP_32 h ⟨p0.2, p0.1⟩ e32
  obtain ⟨a1, a2, ⟨a3, a4, a5, a6⟩, a7, a8, a9, a10⟩ := id h32
  have e8 : yEx σ8 σ32 := yEx_F f32 rfl
  have rs : ∀ σ2, sg_F [62, 23061] σ32 σ2 → (∀ (i : Nat) (x : Int), W1[i]? = some x → sg_g σ2 62 x = sg_g σ32 73 (sv + i)) → (∀ x, x ∉ W1 → sg_g σ2 62 x = sg_g σ32 62 x) → rsW σ8 σ2 sv W1 := fun σ2 g1 g2 g3 => ⟨sg_F_t (sg_F_m f32 rfl) (sg_F_m g1 rfl), fun i x hx => by rw [g2 i x hx, sg_F_ga f32 rfl], fun x hx => by rw [g3 x hx, sg_F_ga f32 rfl]⟩
  refine f_turnX (W1 := W1) (a := n) (x := x) (lo := lo) (hi := hi) (bd := bd) (n := N) (sv := sv) (c := c) (ch := ch) (cv := cv) (Ob := Ob) (sl := sl) (ty := ty) (ρ := ρ) (s := s) hn hx (by rw [sg_F_ga a1 rfl]; exact h8') a2 (ctX_F f32 rfl hs) hc (by rw [sg_F_ga a1 rfl]; exact h11) (by rw [sg_F_ga a1 rfl]; exact h12) hl (by rw [sg_F_ga a1 rfl]; exact h16) (by rw [sg_F_ga f32 rfl]; exact h69) hN (by rw [sg_F_ga f32 rfl]; exact h70) (yX_up e8 hch) hcl (by rw [sg_F_ga f32 rfl]; exact h71) a4 ⟨h0, hs0⟩ hN1 hW1 (fun i x hx => by rw [sg_F_ga f32 rfl]; exact h72 i x hx) hOs (fun s => by rw [hOm s, wnt_F a1 rfl]) (fun σ2 g1 g2 g3 y hy => hT σ2 (rs σ2 g1 g2 g3) y hy) (fun σ2 σ' f' g1 g2 g3 r' w3 _ => ?_)
  have R2 := rs σ2 g1 g2 g3
  have FF : sg_F bRL σ σ' := sg_F_t a1 (sg_F_m f' rfl)
  obtain ⟨r1, r2, r3, r4, r5, r6, r7⟩ := r'
  cases e : fCa ty (fWh false cv) Ob s ρ with
  | inl q =>
    rw [e] at r1
    obtain ⟨q1, q2, q3⟩ := r1
    exact ry_s (by rw [q2]; exact q1) (k0 q e σ' FF q2 q3 q1)
  | inr q =>
    obtain ⟨s3, ρ3⟩ := q
    rw [e] at r1
    obtain ⟨q1, q2, q3, q4, q5⟩ := r1
    have wl := cwF_le false cv
    rw [← fWh_l] at wl
    exact k s3 ρ3 e σ2 σ' R2 ⟨FF, q1, ⟨by rw [sg_F_g f' (by rfl)]; exact a3, r3, r2 q1.2.2.1, by rw [sg_F_g f' (by rfl)]; exact a6⟩, ⟨by omega, by omega⟩, a8, by omega, a10⟩ q3 ⟨q2, q4, q5, fun i => ⟨by rw [sg_F_ga f' rfl, sg_F_ga g1 rfl], by rw [sg_F_ga f' rfl, sg_F_ga g1 rfl], by rw [sg_F_ga f' rfl, sg_F_ga g1 rfl]⟩, fun i hi => ⟨by rw [sg_F_ga f' rfl, sg_F_ga g1 rfl], r5 i hi⟩, r4, r6, r7⟩ w3 (by rw [sg_F_ga f' rfl, sg_F_ga f32 rfl]; exact h70)
theorem zy_join {ch m0 : Int} {dD dc : Nat} {W : List Int} {v1 v2 : List vaF} (h : bP σ σ8 (t + 2) (sv + W.length) m0 c p) (hs : ctX σ8 s) (h0 : 0 ≤ sv) (ht : t + 2 ≤ 400 ∧ 0 ≤ t) (hc : 4 ≤ c) (hp : pl σ p ((9, n) :: C)) (hn : 0 ≤ n ∧ n < 200) (h6 : sg_g σ 6 n = dD) (hD : dD ≤ 3) (h69 : sg_g σ8 69 n = N) (hN : N ≤ 6000) (h70 : sg_g σ8 70 n = ch) (hch : yX σ8 dc ch cv) (hcl : cv.length = N) (hA : yX σ8 dD (sg_g σ8 64 t) v1) (hB : yX σ8 dD (sg_g σ8 64 (t + 1)) v2) (l1 : cwF true cv = v1.length) (l2 : cwF false cv = v2.length) (h71 : sg_g σ8 71 n = sv) (hs0 : sv + W.length ≤ 2400) (hN1 : W.Nodup) (hW1 : ∀ x ∈ W, 0 ≤ x ∧ x < 272) (h72 : ∀ (i : Nat) (x : Int), W[i]? = some x → sg_g σ8 72 (sv + i) = x) (k0 : fStp (exF dD v1 + exF dD v2) s = none → ∀ σ', sg_F bRL σ σ' → sg_g σ' 61 10 = 8 → ctX σ' s → X σ') (k : ∀ s7, fStp (exF dD v1 + exF dD v2) s = some s7 → ∀ σ', bP σ σ' (t + 1) sv N c (p + 1) → ctX σ' s7 → yEx σ8 σ' → yX σ' dD (sg_g σ' 64 t) (fMg cv v1 v2) → (∀ i, i < t → sg_g σ' 64 i = sg_g σ8 64 i) → (∀ (i : Nat) (x : Int), W[i]? = some x → sg_g σ' 62 x = sg_g σ8 73 (sv + i)) → (∀ x, x ∉ W → sg_g σ' 62 x = sg_g σ8 62 x) → (∀ i, sg_g σ' 63 i = sg_g σ8 63 i ∧ sg_g σ' 69 i = sg_g σ8 69 i ∧ sg_g σ' 70 i = sg_g σ8 70 i ∧ sg_g σ' 71 i = sg_g σ8 71 i ∧ sg_g σ' 72 i = sg_g σ8 72 i ∧ sg_g σ' 73 i = sg_g σ8 73 i) → Ry σ X m σ') : Ry σ X (m + 1) σ8 := by
  obtain ⟨p0, p1, p2, p3⟩ := pl_c hp
  refine ry_9 (p := p) (k := n) h.2.2.1.2.2.2 p0 h.2.1.2.2.1 p1 p2 (fun σ32 e32 => ?_)
  obtain ⟨h32, f32⟩ := bP_32 h ⟨p0.2, p0.1⟩ e32
  obtain ⟨a1, a2, ⟨a3, a4, a5, a6⟩, a7, a8, a9, a10⟩ := id h32
  have e8 : yEx σ8 σ32 := yEx_F f32 rfl
  refine f_joinX (W := W) (a := n) (sb := sv) (n := N) (t := t) (c := c) (ch := ch) (D := dD) (cv := cv) (v1 := v1) (v2 := v2) (s := s) hn a2 (ctX_F f32 rfl hs) hc hD (by rw [sg_F_ga a1 rfl]; exact h6) (by rw [sg_F_ga f32 rfl]; exact h69) hN (by rw [sg_F_ga f32 rfl]; exact h70) (yX_up e8 hch) hcl a3 ⟨ht.2, ht.1⟩ (by rw [sg_F_ga f32 rfl]; exact yX_up e8 hA) (by rw [sg_F_ga f32 rfl]; exact yX_up e8 hB) l1 l2 (by rw [sg_F_ga f32 rfl]; exact h71) a4 ⟨h0, hs0⟩ hN1 hW1 (fun i x hx => by rw [sg_F_ga f32 rfl]; exact h72 i x hx) (fun z σ' f' z1 z2 _ => ry_s (by rw [z1]; decide) (k0 z σ' (sg_F_t a1 (sg_F_m f' rfl)) z1 z2)) (fun s7 z σ' f' z1 z2 z3 z4 z5 z6 z7 z8 z9 z10 _ => ?_)
  exact k s7 z σ' ⟨sg_F_t a1 (sg_F_m f' rfl), z1, ⟨z6, z5, z4, by rw [sg_F_g f' (by rfl)]; exact a6⟩, ⟨by omega, by omega⟩, by omega, h0, a10⟩ z2 (yEx_t e8 z3) z7 (fun i hi => by rw [z8 i hi, sg_F_ga f32 rfl]) (fun i x hx => by rw [z9 i x hx, sg_F_ga f32 rfl]) (fun x hx => by rw [z10 x hx, sg_F_ga f32 rfl]) (fun i => ⟨by rw [sg_F_ga f' rfl, sg_F_ga f32 rfl], by rw [sg_F_ga f' rfl, sg_F_ga f32 rfl], by rw [sg_F_ga f' rfl, sg_F_ga f32 rfl], by rw [sg_F_ga f' rfl, sg_F_ga f32 rfl], by rw [sg_F_ga f' rfl, sg_F_ga f32 rfl], by rw [sg_F_ga f' rfl, sg_F_ga f32 rfl]⟩)
end CXB
/-! BIG STEPS of the class's flat run, exactly: if. -/
section CYA
variable {σ : sg_S} {A : aT} {D : List aDf} {vb : Int → Prop} {X : sg_S → Prop} {B : Int → Int} {lev : Int → Nat} {O : Int → Nat → List Int} {call : Int → Nat → fEv → fSt → fRs} {j : Nat} {nl dix : Int} {f : Nat}
/-- a branch from its beginning to where its slots are put back -/
theorem br_Y {σa σb σc σd : sg_S} {n sv t t1 : Int} {Ob Lx : List Int} {ks : List Nat} {ρ ρ3 ρ4 : fEv} (hSl : slA σ vb) (hOb : ∀ y ∈ Ob, vb y) (hB : bBX σa σb n sv Ob (slF σ) (bTy A D (sg_g σ 6)) ρ3) (h3 : ∀ b, ρ3 b = if b ∈ Ob then fPk (ρ b) ks else ρ b) (hU : yU σ A D vb lev j σb σc ρ3 ρ4 t1 (sv + Ob.length) nl dix Lx) (he : yEx σc σd) (ht : t ≤ t1) (h64 : ∀ i, i < t → sg_g σd 64 i = sg_g σc 64 i) (hi : ∀ i, sg_g σd 63 i = sg_g σc 63 i ∧ sg_g σd 69 i = sg_g σc 69 i ∧ sg_g σd 70 i = sg_g σc 70 i ∧ sg_g σd 71 i = sg_g σc 71 i ∧ sg_g σd 72 i = sg_g σc 72 i ∧ sg_g σd 73 i = sg_g σc 73 i) (hr : rs σc σd sv (Ob.map (slF σ))) : yU σ A D vb lev j σa σd ρ (fBk Ob ρ ρ4) t sv nl dix (n :: Lx) := by
  obtain ⟨b1, b2, b3, b4, b5, b6, b7, b8⟩ := hB
  obtain ⟨u1, u2, u3, u4, u5, u6⟩ := hU
  have ex := yEx_t b1 (yEx_t u1 he)
  refine ⟨ex, fun i x => by rw [h64 i x, u2 i (by omega), (b4 i).1], fun b hb ho hrl => ?_, fun i x => ?_, fun x q r => ?_, fun q hq => by rw [(hi q).1, u6 q hq, (b4 q).2.1]⟩
  · show yX σd _ (sg_g σd 62 (slF σ b)) (if b ∈ Ob then ρ b else ρ4 b)
    by_cases c : b ∈ Ob
    · rw [if_pos c]
      obtain ⟨i, hi'⟩ := List.mem_iff_getElem?.mp c
      have g : (Ob.map (slF σ))[i]? = some (slF σ b) := by rw [List.getElem?_map, hi']; rfl
      have il := gE_l hi'
      rw [hr.1 i _ g, (u4 (sv + i) (by omega)).2, (b7 i _ g).2]
      exact yX_up ex hrl
    · rw [if_neg c]
      have ns : slF σ b ∉ Ob.map (slF σ) := fun w => by
        obtain ⟨y, hy, e⟩ := List.mem_map.mp w
        exact c (by rw [← hSl.2 y b (hOb y hy) hb e]; exact hy)
      rw [hr.2 _ ns]
      have r3 : rlY σ A D σb ρ3 b := by
        unfold rlY
        rw [h3 b, if_neg c, b3 _ ns]
        exact yX_up b1 hrl
      exact yX_up he (u3 b hb (fun w => ho (ow_s (fun y hy => by simp [hy]) w)) r3)
  · obtain ⟨-, -, -, -, i5, i6⟩ := hi i
    rw [i5, i6, (u4 i (by omega)).1, (u4 i (by omega)).2]
    exact b8 i x
  · obtain ⟨-, i2, i3, i4, -, -⟩ := hi x
    have xn : ¬ x = n := fun z => r (by simp [z])
    obtain ⟨v1, v2, v3⟩ := u5 x q (fun z => r (by simp [z]))
    rw [i2, i3, i4, v1, v2, v3, (b4 x).2.2, (b5 x xn).1, (b5 x xn).2]
    exact ⟨rfl, rfl, rfl⟩
/-- what is carried is of the scope -/
theorem cy_sc {σ8 : sg_S} {ρ : fEv} {N : Nat} {b : Int} {sc : List (Int × Int)} {Ob : List Int} (f8 : sg_F bRL σ σ8) (hSl : slA σ vb) (hS : scY σ A D vb σ8 ρ N sc) (hq : slQ σ sc b) (hO : ∀ z ∈ Ob, ∃ p ∈ sc, p.1 = z) : (∀ y ∈ Ob, cyT σ8 (slF σ) (bTy A D (sg_g σ 6)) ρ N y) ∧ ∀ y ∈ Ob, vb y := by
  refine ⟨fun y hy => ?_, fun y hy => ?_⟩
  · obtain ⟨q, hq', e⟩ := hO y hy
    subst e
    obtain ⟨a1, a2, a3, a4⟩ := hS q hq'
    obtain ⟨q1, q2, q3⟩ := hq q hq'
    unfold kIn at q3
    refine ⟨hSl.1 _ a1, by omega, ?_, a3, a4⟩
    rw [sg_F_ga f8 rfl, q2]
    omega
  · obtain ⟨q, hq', e⟩ := hO y hy
    subst e
    exact (hS q hq').1
/-- the scope of a part behind a branch -/
theorem sc_br {σ8 σ' : sg_S} {ρ ρ3 : fEv} {N : Nat} {n sv : Int} {sc : List (Int × Int)} {Ob : List Int} {ks : List Nat} (hS : scY σ A D vb σ8 ρ N sc) (hB : bBX σ8 σ' n sv Ob (slF σ) (bTy A D (sg_g σ 6)) ρ3) (h3 : ∀ b, ρ3 b = if b ∈ Ob then fPk (ρ b) ks else ρ b) : scY σ A D vb σ' ρ3 ks.length (sc.filter (fun q => decide (q.1 ∈ Ob))) := fun q hq => by
  obtain ⟨h1, h2⟩ := List.mem_filter.mp hq
  rw [decide_eq_true_eq] at h2
  obtain ⟨a1, a2, a3, a4⟩ := hS q h1
  exact ⟨a1, a2, hB.2.1 q.1 h2, by rw [h3 q.1, if_pos h2, fPk_l]⟩
theorem slQ_f {sc : List (Int × Int)} {b b2 : Int} {g : Int × Int → Bool} (h : slQ σ sc b) (hb : b ≤ b2) : slQ σ (sc.filter g) b2 := fun q hq => slQ_m h hb q (List.mem_filter.mp hq).1
theorem yN_if (hW : ckW σ A) (hSl : slA σ vb) (hO : okO A B O) (hOs : ∀ n st, ((O n st).map (slF σ)).Pairwise (· < ·)) (hnl : 0 ≤ nl) (hP : fPu A D (sg_g σ 6) B lev O call j f) (F : yN σ A D vb X B lev O call j nl dix f) {n : Int} {L1 es : List Int} {sc : List (Int × Int)} {b b' p : Int} {h : Nat} (hk : A.2.1 n = 3) (hf : fT A (A.2.2.2.2.1 n) L1) (hst : stN A D (sg_g σ 6) B lev j (f + 1) (n :: L1) sc n) (hL : ∀ x ∈ n :: L1, nl ≤ x ∧ lyQ σ A D B dix x) (hg : gRq σ A (n :: L1)) (hsc : scN σ A dix (f + 1) es n b b') (hsl : slQ σ sc b) (hh : htN A (f + 1) n ≤ h) (hp : pl σ p (cd A (f + 1) n)) (hb : b' ≤ 272) {σ8 : sg_S} {m : Nat} {ρ : fEv} {t sv c cr : Int} {N : Nat} {s : fSt} (h8 : bP σ σ8 t sv N c p) (h9 : ctX σ8 s) (hS : scY σ A D vb σ8 ρ N sc) (ht : t + (n :: L1).length + nl ≤ 400) (hv : sv + ((h * (n :: L1).length : Nat) : Int) + 12 * nl ≤ 2400) (hm : 6 * (2001 - s.1) + cr ≤ (m : Int)) (hcr : 0 ≤ cr) (k : kY σ A D vb lev j X σ8 ρ t sv c (p + (cd A (f + 1) n).length) cr nl dix (n :: L1) N (sg_g σ 6 n).toNat (fxN A D (sg_g σ 6) B O call (f + 1) n N ρ s)) : Ry σ X m σ8 := by
  have hA := hW.1.2
  obtain ⟨hty, -, hNn, hlv, hsco⟩ := id hst
  obtain ⟨t1, t2, t3, t4, t5, t6, t7, t8, t9⟩ := hty
  obtain ⟨c1, c2⟩ := ck3 hW t2
  obtain ⟨w1, w2, w3, w4, w5, w6, w7, w8⟩ := id t1
  have n1 : ¬ A.2.1 n = 1 := by omega
  have n2 : ¬ A.2.1 n = 2 := by omega
  have n15 : ¬ A.2.1 n = 15 := by omega
  have hl := w4 hk
  obtain ⟨a, x, y, hk2⟩ : ∃ a x y, A.2.2.2.2.1 n = [a, x, y] := by
    match hh : A.2.2.2.2.1 n with
    | [a, x, y] => exact ⟨a, x, y, rfl⟩
    | [] => rw [hh] at hl; simp at hl
    | [_] => rw [hh] at hl; simp at hl
    | [_, _] => rw [hh] at hl; simp at hl
    | _ :: _ :: _ :: _ :: _ => rw [hh] at hl; simp at hl
  have ho : kOrd A n = [a, x, y] := by unfold kOrd; rw [if_neg n15, hk2]
  obtain ⟨e6a, e6x, e6n⟩ : sg_g σ 6 a = 0 ∧ sg_g σ 6 x = sg_g σ 6 y ∧ sg_g σ 6 n = sg_g σ 6 x := by
    have := t5 (by omega)
    unfold kTy at this
    rw [hk2] at this
    simp only [hk] at this
    rw [if_neg (by decide), if_neg (by decide), if_neg (by decide), if_pos trivial] at this
    obtain ⟨i1, i2, i3⟩ := kIs_in this
    simp only [Bool.and_eq_true, decide_eq_true_eq] at i3
    exact ⟨i3.1, i3.2, i1⟩
  obtain ⟨s0, -, -, s2⟩ := hsc
  rw [ho] at s2
  have h16 := s0 hk
  have hcn : cnc A n = [(9, n)] := by unfold cnc; rw [if_neg n2, if_pos hk]
  have ah0 : ahd A n 0 = [] := by unfold ahd; rw [if_neg (by omega), if_neg (by omega), if_neg (by omega), if_neg (by omega)]
  have ah1 : ahd A n 1 = [(7, n)] := by unfold ahd; rw [if_neg (by omega), if_pos ⟨hk, by omega⟩, if_pos rfl]
  have ah2 : ahd A n 2 = [(8, n)] := by unfold ahd; rw [if_neg (by omega), if_pos ⟨hk, by omega⟩, if_neg (by decide)]
  have hcd : cd A (f + 1) n = (0, n) :: (cd A f a ++ ((7, n) :: (cd A f x ++ ((8, n) :: (cd A f y ++ [(9, n)]))))) := by
    simp only [cd, ho, hcn, cdS, ah0, ah1, ah2, List.nil_append, List.append_nil, List.append_assoc, List.cons_append]
  rw [hcd] at hp k
  have no : ∀ s, kNo A n s := fun s => ⟨fun z => n2 z.1, fun z => n15 z.1⟩
  simp only [scS] at s2
  obtain ⟨-, b1, q1, -, b2, q2, -, b3, q3, q4⟩ := s2
  have ex := fun s bb => (esA_no (no s) es bb).1
  have bx := fun s bb => (esA_no (no s) es bb).2
  simp only [ex, bx] at q1 q2 q3
  subst q4
  have p0 := pl_c hp
  obtain ⟨p1, p2⟩ := pl_a p0.2.2.2
  have p3 := pl_c p2
  obtain ⟨p4, p5⟩ := pl_a p3.2.2.2
  have p6 := pl_c p5
  obtain ⟨p7, p8⟩ := pl_a p6.2.2.2
  have kidr := (hW.2.2 n t2.1 t2.2).2
  have pts' := (hW.2.2 n t2.1 t2.2).1.2.2.2.1
  unfold pts at pts'
  rw [if_neg n15, hk2] at pts'
  obtain ⟨La0, sta, sua⟩ := stN_k hst n2 n15 (z := a) (by rw [hk2]; simp)
  obtain ⟨Lx0, stx, sux⟩ := stN_k hst n2 n15 (z := x) (by rw [hk2]; simp)
  obtain ⟨Ly0, sty, suy⟩ := stN_k hst n2 n15 (z := y) (by rw [hk2]; simp)
  obtain ⟨stx1, ox⟩ := stN_p (L := n :: L1) (st := 1) hA hO hk (Or.inl rfl) (by rw [hk2]; rfl) stx
  obtain ⟨sty1, oy⟩ := stN_p (L := n :: L1) (st := 2) hA hO hk (Or.inr rfl) (by rw [hk2]; rfl) sty
  have hk2x : (A.2.2.2.2.1 n)[1]? = some x := by rw [hk2]; rfl
  have hk2y : (A.2.2.2.2.1 n)[2]? = some y := by rw [hk2]; rfl
  rw [hk2] at hf kidr
  have ra := kidr a (by simp)
  have rx := kidr x (by simp)
  have ry := kidr y (by simp)
  have hsec : v_tSecond σ n = x := by
    have := pts'.2.1
    simp only [lkc] at this
    obtain ⟨z1, z2⟩ := this
    rcases z2 with z2 | ⟨z2, -⟩
    · cases z2
    · unfold v_tSecond
      rw [xa_in (a := 7) ⟨t2.1, c2⟩, z1, xa_in (a := 9) ⟨by omega, by omega⟩]
      exact z2
  have h8y : sg_g σ 8 n = y := pts'.2.2.1 y rfl
  obtain ⟨La, Lxy, e3, fa, fxy⟩ := fT_spl [a] [x, y] L1 hf
  obtain ⟨Lx, Ly, e4, fx, fy⟩ := fT_spl [x] [y] Lxy fxy
  have ea0 : La0 = La := fT_det sta.2.1 fa
  have ex0 : Lx0 = Lx := fT_det stx.2.1 fx
  have ey0 : Ly0 = Ly := fT_det sty.2.1 fy
  rw [ea0] at sta
  rw [ex0] at stx stx1
  rw [ey0] at sty sty1
  have hla := fT_len fa
  have hlx := fT_len fx
  have hly := fT_len fy
  simp only [List.length_cons, List.length_nil] at hla hlx hly ht hv
  have e3l : L1.length = La.length + (Lx.length + Ly.length) := by rw [e3, e4, List.length_append, List.length_append]
  have ia : ∀ z, z ∈ La → z ∈ n :: L1 := fun z hz => by rw [e3]; simp [hz]
  have ix : ∀ z, z ∈ Lx → z ∈ n :: L1 := fun z hz => by rw [e3, e4]; simp [hz]
  have iy : ∀ z, z ∈ Ly → z ∈ n :: L1 := fun z hz => by rw [e3, e4]; simp [hz]
  have hnL := (List.nodup_cons.mp hNn).1
  have na : n ∉ La := fun z => hnL (by rw [e3]; simp [z])
  have nx : n ∉ Lx := fun z => hnL (by rw [e3, e4]; simp [z])
  have ny : n ∉ Ly := fun z => hnL (by rw [e3, e4]; simp [z])
  have l1 := scN_le _ _ _ _ _ q1
  have l2 := scN_le _ _ _ _ _ q2
  have l3 := scN_le _ _ _ _ _ q3
  have tb := h8.2.2.2.2.1
  have svb := h8.2.2.2.2.2.1
  have c0 := h8.2.2.2.2.2.2
  have N0 := h8.2.2.2.1
  have sb := h9.2.2.2.1
  have nln : nl ≤ n := (hL n (by simp)).1
  have xL : x ∈ n :: L1 := ix x (fT_sub fx x (by simp))
  have yL : y ∈ n :: L1 := iy y (fT_sub fy y (by simp))
  obtain ⟨rx1, rx2, rx3⟩ := rg_b hW hnl rx hg xL fx (fun z hz => (hL z (ix z hz)).1)
  obtain ⟨ry1, ry2, ry3⟩ := rg_b hW hnl ry hg yL fy (fun z hz => (hL z (iy z hz)).1)
  have hh1 := ht_k1 hh (Or.inl hk) (show x ∈ A.2.2.2.2.1 n by rw [hk2]; simp)
  have hh2 := ht_k1 hh (Or.inl hk) (show y ∈ A.2.2.2.2.1 n by rw [hk2]; simp)
  have ha1 := ht_k hh (show a ∈ A.2.2.2.2.1 n by rw [hk2]; simp)
  obtain ⟨h', rfl⟩ : ∃ h', h = h' + 1 := ⟨h - 1, by omega⟩
  have hm0 : (h' + 1) * (L1.length + 1) = h' * (L1.length + 1) + (L1.length + 1) := Nat.succ_mul _ _
  rw [hm0] at hv
  have hmx := Nat.mul_le_mul_left h' (show Lx.length ≤ L1.length + 1 by omega)
  have hmy := Nat.mul_le_mul_left h' (show Ly.length ≤ L1.length + 1 by omega)
  have hma := Nat.mul_le_mul_left (h' + 1) (show La.length ≤ L1.length + 1 by omega)
  rw [hm0] at hma
  have hOm : ∀ (st : Nat) (z : Int) (Lz : List Int) (bz bz' : Int), (st = 1 ∨ st = 2) → (A.2.2.2.2.1 n)[st]? = some z → (0 ≤ z ∧ z < A.1) → z ∈ n :: L1 → stN A D (sg_g σ 6) B lev j f Lz sc z → scN σ A dix f es z bz bz' → b ≤ bz → (∀ w ∈ Lz, w ∈ n :: L1) → ∀ s, s ∈ (O n st).map (slF σ) ↔ wnt σ (sg_g σ 11 z) (sg_g σ 12 z) b s := fun st z Lz bz bz' hst' hkz hz zL stz scz hbz iz s => by
    rw [← w_out hW hz hg zL stz scz hsl hbz (fun w hw => (hL w (iz w hw)).2) s, List.mem_map]
    have o := (hO n).2.1 hk st z Lz hst' hkz stz.2.1
    exact ⟨fun ⟨w, hw, e⟩ => ⟨w, (o w).mp hw, e⟩, fun ⟨w, hw, e⟩ => ⟨w, (o w).mpr hw, e⟩⟩
  obtain ⟨m, rfl⟩ : ∃ m', m = m' + 1 := ⟨m - 1, by omega⟩
  simp only [fxN] at k
  refine zy_begin (A := A) (D := D) (vb := vb) (lev := lev) (j := j) (ρ := ρ) (nl := nl) (dix := dix) h8 h9 hp ⟨t2.1, c2⟩ (fun z σ' f' e' w' => ?_) (fun s1 z σ1 h1 x1 u1 e69 v64 => ?_)
  · rw [z] at k
    exact k σ' f' e' w' (by show ¬ (8 : Int) = 0; decide)
  have st1 := fBg_s z
  rw [z] at k
  simp only at k
  rw [if_neg n1, if_neg n2, if_pos hk, hk2] at k
  unfold fIfN at k
  simp only [List.getD_cons_zero, List.getD_cons_succ] at k
  have u1' : yU σ A D vb lev j σ8 σ1 ρ ρ t sv nl dix (n :: L1) := yU_w u1 ⟨Int.le_refl _, Int.le_refl _⟩ (Int.le_refl _) (Int.le_refl _) (fun x hx _ => by simp at hx; simp [hx]) (fun b w => ow_s (fun y hy => by simp at hy; simp [hy]) w)
  have pua := hP a La sc sta N ρ s1
  refine F a La es sc b b1 (p + 1) (h' + 1) sta (fun z hz => hL z (ia z hz)) (gR_s hg ia) q1 hsl ha1 p1 (by omega) σ1 m ρ t sv (c + 4) (cr + 5) N s1 h1 x1 (scY_u hS u1 (fun _ _ => rfl) (fun q hq w => (hsco q hq).2 (ow_s (fun y hy => by simp at hy; simp [hy]) w))) (by omega) (by omega) (by omega) (by omega) ?_
  generalize fxN A D (sg_g σ 6) B O call f a N ρ s1 = r at k pua
  match r, k, pua with
  | .inl e, k, _ => exact fun σ' q1 q2 q3 q4 => k σ' q1 q2 q3 q4
  | .inr (cv, s2', ρ2), k, pua =>
    obtain ⟨lcv, kv⟩ := pua cv s2' ρ2 (fun q hq => (hS q hq).2.2.2) rfl
    intro σ2 m2 hm2 h2 x2 u2 v2
    simp only at k hm2 h2 x2 u2 v2
    have sb2 := x2.2.2.2.1
    rw [show (sg_g σ 6 a).toNat = 0 by omega] at v2
    have u12 : yU σ A D vb lev j σ8 σ2 ρ ρ2 t sv nl dix (n :: L1) := yU_t u1' u2 ⟨Int.le_refl _, Int.le_refl _⟩ ⟨Int.le_refl _, Int.le_refl _⟩ (fun _ hx => hx) ia
    have kvs : ∀ q ∈ sc, ρ2 q.1 = ρ q.1 := fun q hq => kv q.1 (fun w => (hsco q hq).2 (ow_s ia w))
    have S2 := scY_u hS u12 kvs (fun q hq => (hsco q hq).2)
    have n2' : sg_g σ2 69 n = N := by rw [(u2.2.2.2.2.1 n nln na).1]; exact e69
    obtain ⟨cT1, vO1⟩ := cy_sc h2.1 hSl S2 hsl ox
    obtain ⟨m2, rfl⟩ : ∃ m', m2 = m' + 1 := ⟨m2 - 1, by omega⟩
    refine zy_fork (cv := cv) (Ob := O n 1) (sl := slF σ) (ty := bTy A D (sg_g σ 6)) (ρ := ρ2) (s := s2') h2 x2 (by omega) ⟨by omega, tb⟩ p2 ⟨t2.1, c2⟩ ⟨rx.1, by omega⟩ hsec rfl rfl rx1 h16 n2' v2 lcv ⟨by omega, by omega⟩ (hOs n 1) (hOm 1 x Lx b1 b2 (Or.inl rfl) hk2x rx xL stx q2 (by omega) ix) cT1 (fun e ef σ' g1 g2 g3 g4 => ?_) (fun s3 ρ3 ef σ3 h3 x3 B3 wO1 v70 => ?_)
    · rw [ef] at k; exact k σ' g1 g2 g3 g4
    rw [ef] at k
    simp only at k
    have r3 := fCa_e ((hO n).1 1) ef
    have s3s := (fCa_s ef).1
    have sb3 := x3.2.2.2.1
    have W1l : (O n 1).length ≤ Lx.length := by
      rcases wO1 with z | z
      · omega
      · rw [z]; exact Nat.zero_le _
    have S3 := sc_br S2 B3 r3
    have pux := hP x Lx _ stx1 (fWh true cv).length ρ3 s3
    refine F x Lx es _ b1 b2 (p + 1 + (cd A f a).length + 1) h' stx1 (fun z hz => hL z (ix z hz)) (gR_s hg ix) q2 (slQ_f hsl l1) (by omega) p4 (by omega) σ3 m2 ρ3 t (sv + (O n 1).length) (c + 4) (cr + 4) (fWh true cv).length s3 h3 x3 S3 (by omega) (by omega) (by omega) (by omega) ?_
    generalize fxN A D (sg_g σ 6) B O call f x (fWh true cv).length ρ3 s3 = r at k pux
    match r, k, pux with
    | .inl e, k, _ => exact fun σ' q1 q2 q3 q4 => k σ' q1 q2 q3 q4
    | .inr (v1, s4', ρ4), k, pux =>
      obtain ⟨lv1, kv1⟩ := pux v1 s4' ρ4 (fun q hq => (S3 q hq).2.2.2) rfl
      intro σ4 m4 hm4 h4 x4 u4 v4
      simp only at k hm4 h4 x4 u4 v4
      have sb4 := x4.2.2.2.1
      have n4 : sg_g σ4 69 n = N ∧ sg_g σ4 70 n = sg_g σ2 64 t ∧ sg_g σ4 71 n = sv := by
        obtain ⟨z1, z2, z3⟩ := u4.2.2.2.2.1 n nln nx
        rw [z1, z2, z3, (B3.2.2.2.1 n).2.2]
        exact ⟨n2', v70, B3.2.2.2.2.2.1⟩
      have e24 : yEx σ2 σ4 := yEx_t B3.1 u4.1
      have ml : ∀ st, ((O n st).map (slF σ)).length = (O n st).length := fun st => List.length_map _
      have W272 : ∀ z ∈ (O n 1).map (slF σ), 0 ≤ z ∧ z < 272 := fun z hz => by
        obtain ⟨w, hw, e⟩ := List.mem_map.mp hz
        rw [← e]; exact hSl.1 w (vO1 w hw)
      have s72 : ∀ (i : Nat) (z : Int), ((O n 1).map (slF σ))[i]? = some z → sg_g σ4 72 (sv + i) = z := fun i z hz => by
        have hi := gE_l hz
        rw [ml] at hi
        rw [(u4.2.2.2.1 (sv + i) (by omega)).1]
        exact (B3.2.2.2.2.2.2.1 i z hz).1
      have U24 : ∀ σt, rsW σ4 σt sv ((O n 1).map (slF σ)) → yU σ A D vb lev j σ2 σt ρ2 (fBk (O n 1) ρ2 ρ4) t sv nl dix (n :: Lx) := fun σt R => br_Y hSl vO1 B3 r3 u4 (yEx_F R.1 rfl) (Int.le_refl _) (fun i _ => sg_F_ga R.1 rfl) (fun i => ⟨sg_F_ga R.1 rfl, sg_F_ga R.1 rfl, sg_F_ga R.1 rfl, sg_F_ga R.1 rfl, sg_F_ga R.1 rfl, sg_F_ga R.1 rfl⟩) R.2
      have bk1 : ∀ q ∈ sc, fBk (O n 1) ρ2 ρ4 q.1 = ρ2 q.1 := fun q hq => by
        unfold fBk
        by_cases w : q.1 ∈ O n 1
        · rw [if_pos w]
        · rw [if_neg w, kv1 q.1 (fun z => (hsco q hq).2 (ow_s ix z)), r3 q.1, if_neg w]
      have St : ∀ σt, rsW σ4 σt sv ((O n 1).map (slF σ)) → scY σ A D vb σt (fBk (O n 1) ρ2 ρ4) N sc := fun σt R => scY_u S2 (U24 σt R) bk1 (fun q hq w => (hsco q hq).2 (ow_s (fun z hz => by
        rcases List.mem_cons.mp hz with q | q
        · simp [q]
        · exact ix z q) w))
      obtain ⟨m4, rfl⟩ : ∃ m', m4 = m' + 1 := ⟨m4 - 1, by omega⟩
      refine zy_turn (W1 := (O n 1).map (slF σ)) (cv := cv) (Ob := O n 2) (sl := slF σ) (ty := bTy A D (sg_g σ 6)) (ρ := fBk (O n 1) ρ2 ρ4) (s := s4') (by rw [ml]; exact h4) x4 svb (by omega) p5 ⟨t2.1, c2⟩ ⟨ry.1, by omega⟩ h8y rfl rfl ry1 h16 n4.1 (by omega) n4.2.1 (yX_up e24 v2) lcv n4.2.2 ⟨by omega, by omega, by rw [ml]; omega⟩ (wl_nd (hOs n 1)) W272 s72 (hOs n 2) (hOm 2 y Ly b2 b' (Or.inr rfl) hk2y ry yL sty q3 (by omega) iy) (fun σt R => (cy_sc (sg_F_t h4.1 (sg_F_m R.1 rfl)) hSl (St σt R) hsl oy).1) (fun e ef2 σ' g1 g2 g3 g4 => ?_) (fun s5 ρ5 ef2 σt σ5 Rt h5 x5 B5 wO2 v70' => ?_)
      · rw [ef2] at k; exact k σ' g1 g2 g3 g4
      rw [ef2] at k
      simp only at k
      have r5 := fCa_e ((hO n).1 2) ef2
      have s5s := (fCa_s ef2).1
      have sb5 := x5.2.2.2.1
      have W2l : (O n 2).length ≤ Ly.length := by
        rcases wO2 with z | z
        · omega
        · rw [z]; exact Nat.zero_le _
      have vO2 := (cy_sc (sg_F_t h4.1 (sg_F_m Rt.1 rfl)) hSl (St σt Rt) hsl oy).2
      have S5 := sc_br (St σt Rt) B5 r5
      have puy := hP y Ly _ sty1 (fWh false cv).length ρ5 s5
      refine F y Ly es _ b2 b' (p + 1 + (cd A f a).length + 1 + (cd A f x).length + 1) h' sty1 (fun z hz => hL z (iy z hz)) (gR_s hg iy) q3 (slQ_f hsl (by omega)) (by omega) p7 hb σ5 m4 ρ5 (t + 1) (sv + (O n 2).length) (c + 4) (cr + 3) (fWh false cv).length s5 h5 x5 S5 (by omega) (by omega) (by omega) (by omega) ?_
      generalize fxN A D (sg_g σ 6) B O call f y (fWh false cv).length ρ5 s5 = r at k puy
      match r, k, puy with
      | .inl e, k, _ => exact fun σ' q1 q2 q3 q4 => k σ' q1 q2 q3 q4
      | .inr (v2', s6', ρ6), k, puy =>
        obtain ⟨lv2, kv2⟩ := puy v2' s6' ρ6 (fun q hq => (S5 q hq).2.2.2) rfl
        intro σ6 m6 hm6 h6 x6 u6 v6
        simp only at k hm6 h6 x6 u6 v6
        have sb6 := x6.2.2.2.1
        have n6 : sg_g σ6 69 n = N ∧ sg_g σ6 70 n = sg_g σ2 64 t ∧ sg_g σ6 71 n = sv := by
          obtain ⟨z1, z2, z3⟩ := u6.2.2.2.2.1 n nln ny
          rw [z1, z2, z3, (B5.2.2.2.1 n).2.2]
          refine ⟨?_, v70', B5.2.2.2.2.2.1⟩
          rw [sg_F_ga Rt.1 rfl]; exact n4.1
        have e46 : yEx σ4 σ6 := yEx_t (yEx_F Rt.1 rfl) (yEx_t B5.1 u6.1)
        have W272' : ∀ z ∈ (O n 2).map (slF σ), 0 ≤ z ∧ z < 272 := fun z hz => by
          obtain ⟨w, hw, e⟩ := List.mem_map.mp hz
          rw [← e]; exact hSl.1 w (vO2 w hw)
        have s72' : ∀ (i : Nat) (z : Int), ((O n 2).map (slF σ))[i]? = some z → sg_g σ6 72 (sv + i) = z := fun i z hz => by
          have hi := gE_l hz
          rw [ml] at hi
          rw [(u6.2.2.2.1 (sv + i) (by omega)).1]
          exact (B5.2.2.2.2.2.2.1 i z hz).1
        have t64 : sg_g σ6 64 t = sg_g σ4 64 t := by
          rw [u6.2.1 t (by omega), (B5.2.2.2.1 t).1, sg_F_ga Rt.1 rfl]
        obtain ⟨k0, k3⟩ := t3
        obtain ⟨m6, rfl⟩ : ∃ m', m6 = m' + 1 := ⟨m6 - 1, by omega⟩
        refine zy_join (W := (O n 2).map (slF σ)) (dD := (sg_g σ 6 n).toNat) (ch := sg_g σ2 64 t) (N := N) (cv := cv) (v1 := v1) (v2 := v2') (s := s6') (by rw [ml, show t + 2 = t + 1 + 1 by omega]; exact h6) x6 svb ⟨by omega, tb⟩ (by omega) p8 ⟨t2.1, c2⟩ (by omega) (by omega) n6.1 (by omega) n6.2.1 (yX_up (yEx_t e24 e46) v2) lcv ?_ ?_ (by rw [lv1, fWh_l]) (by rw [lv2, fWh_l]) n6.2.2 (by rw [ml]; omega) (wl_nd (hOs n 2)) W272' s72' (fun ef3 σ' g1 g2 g3 => ?_) (fun s7 ef3 σ7 h7 x7 e67 v7 z64 z62 z62' zr => ?_)
        · rw [t64, e6n]; exact yX_up e46 v4
        · rw [e6n, e6x]; exact v6
        · rw [ef3] at k
          exact k σ' g1 g2 g3 (by show ¬ (8 : Int) = 0; decide)
        · rw [ef3] at k
          simp only at k
          have s7s := (fStp_s ef3).1
          have u7 := br_Y hSl vO2 B5 r5 u6 e67 (show t ≤ t + 1 by omega) z64 zr ⟨z62, z62'⟩
          have U1 : yU σ A D vb lev j σ8 σt ρ (fBk (O n 1) ρ2 ρ4) t sv nl dix (n :: L1) := yU_t u12 (U24 σt Rt) ⟨by omega, by omega⟩ ⟨by omega, by omega⟩ (fun z hz => hz) (fun z hz => by
            rcases List.mem_cons.mp hz with q | q
            · simp [q]
            · exact ix z q)
          have U2 : yU σ A D vb lev j σ8 σ7 ρ (fBk (O n 2) (fBk (O n 1) ρ2 ρ4) ρ6) t sv nl dix (n :: L1) := yU_t U1 u7 ⟨by omega, by omega⟩ ⟨by omega, by omega⟩ (fun z hz => hz) (fun z hz => by
            rcases List.mem_cons.mp hz with q | q
            · simp [q]
            · exact iy z q)
          refine k σ7 m6 (by show 6 * (2001 - s7.1) + cr ≤ (m6 : Int); omega) ?_ x7 U2 v7
          simp only [List.length_cons, List.length_append, List.length_nil]
          rw [show p + (((cd A f a).length + ((cd A f x).length + ((cd A f y).length + (0 + 1) + 1) + 1) + 1 : Nat) : Int) = p + 1 + (cd A f a).length + 1 + (cd A f x).length + 1 + (cd A f y).length + 1 by omega]
          exact bP_m h7 ⟨c0, by omega⟩
end CYA
/-! BIG STEPS of the class's flat run, exactly: open, sift, collect in one turn each; within a { }. -/
section CZA
variable {σ : sg_S} {A : aT} {D : List aDf} {vb : Int → Prop} {X : sg_S → Prop} {lev : Int → Nat} {j : Nat}
theorem opX2_l {K : List Nat} {σ0 σ1 σ' : sg_S} {a g t sv c bd : Int} {dg : Nat → Nat} {Ob : List Int} {sl ty : Int → Int} {vs : List (List vaF)} {s3 : fSt} {ρ3 : fEv} (f : sg_F K σ0 σ1) (ex : yEx σ0 σ1) (hK : (sg_ca K 62 && sg_ca K 64 && sg_ca K 70 && sg_ca K 71 && sg_ca K 72 && sg_ca K 73) = true) (h : opX2 σ1 σ' a g t sv c bd dg Ob sl ty vs s3 ρ3) : opX2 σ0 σ' a g t sv c bd dg Ob sl ty vs s3 ρ3 := by
  simp only [Bool.and_eq_true] at hK
  obtain ⟨⟨⟨⟨⟨k1, k2⟩, k3⟩, k4⟩, k5⟩, k6⟩ := hK
  obtain ⟨h1, h2, h3, h4, h5, h6, h7, h8, h9, h10, h11, h12, h13, h14, h15⟩ := h
  refine ⟨h1, yEx_t ex h2, h3, h4, h5, fun s a b => by rw [h6 s a b, sg_F_ga f k1], h7, h8, by rw [h9, sg_F_ga f k2], fun i hi => by rw [h10 i hi, sg_F_ga f k3], h11, h12, fun i hi => by rw [h13 i hi, sg_F_ga f k4], fun i y hy => ?_, fun i hi => ?_⟩
  · obtain ⟨u1, u2⟩ := h14 i y hy
    exact ⟨u1, by rw [u2, sg_F_ga f k1]⟩
  · obtain ⟨u1, u2⟩ := h15 i hi
    exact ⟨by rw [u1, sg_F_ga f k5], by rw [u2, sg_F_ga f k6]⟩
variable {σ8 : sg_S} {m N : Nat} {t sv c p n : Int} {C : List (Int × Int)} {s : fSt} {ρ : fEv} {Ob : List Int} {sl ty : Int → Int}
/-- OPEN -/
theorem zy_open {g bd gd plo phi x : Int} {dg : Nat → Nat} {vs : List (List vaF)} (h : bP σ σ8 (t + g) sv N c p) (hs : ctX σ8 s) (hc : 4 ≤ c) (h0 : t + g ≤ 400 ∧ 0 ≤ t) (hp : pl σ p ((10, n) :: C)) (hn : 0 ≤ n ∧ n < 200) (hx : 0 ≤ x ∧ x < 200) (h13 : sg_g σ 13 n = g) (hg : 1 ≤ g ∧ g ≤ 4) (h8' : sg_g σ 8 n = x) (h14 : sg_g σ 14 n = gd) (hgd : 0 ≤ gd → gd < 200 ∧ plo ≤ sg_g σ 11 gd ∧ sg_g σ 12 gd ≤ phi) (hpp : plo ≤ sg_g σ 11 x ∧ sg_g σ 12 x ≤ phi ∧ 0 ≤ plo ∧ phi < 200) (h16 : sg_g σ 16 n = bd) (hbd : 0 ≤ bd ∧ bd + g ≤ 272) (hgl : (vs.length : Int) = g) (hv : ∀ i : Nat, (i : Int) < g → yX σ8 (dg i + 1) (sg_g σ8 64 (t + i)) (vs.getD i []) ∧ (vs.getD i []).length = N) (hs0 : sv ≤ 2400 ∧ sv + (phi - plo + 1) ≤ 2400) (hOs : (Ob.map sl).Pairwise (· < ·)) (hOm : ∀ s, s ∈ Ob.map sl ↔ opU σ (sg_g σ 11 x) (sg_g σ 12 x) gd (sg_g σ 11 gd) (sg_g σ 12 gd) bd s) (hT : ∀ y ∈ Ob, cyT σ8 sl ty ρ N y) (k3 : ¬ eaE N vs → ∀ σ', sg_F bRL σ σ' → sg_g σ' 61 10 = 3 → ctX σ' s → X σ') (k0 : eaE N vs → ∀ e, fCa ty (fRp N ((vs.getD 0 []).map (fun v => (itF v).length))) Ob s ρ = .inl e → ∀ σ', sg_F bRL σ σ' → sg_g σ' 61 10 = e.1 → ctX σ' e.2 → ¬ e.1 = 0 → X σ') (k : eaE N vs → ∀ s3 ρ3, fCa ty (fRp N ((vs.getD 0 []).map (fun v => (itF v).length))) Ob s ρ = .inr (s3, ρ3) → ∀ σ', bP σ σ' t (sv + Ob.length) (((vs.getD 0 []).map (fun v => (itF v).length)).sum : Nat) c (p + 1) → opX2 σ8 σ' n g t sv c bd dg Ob sl ty vs s3 ρ3 → ((Ob.length : Int) ≤ phi - plo + 1 ∨ Ob = []) → (∀ i, sg_g σ' 64 i = sg_g σ8 64 i ∧ sg_g σ' 63 i = sg_g σ8 63 i ∧ sg_g σ' 69 i = sg_g σ8 69 i) → Ry σ X m σ') : Ry σ X (m + 1) σ8 := by
  obtain ⟨p0, p1, p2, p3⟩ := pl_c hp
  refine ry_10 (p := p) (k := n) h.2.2.1.2.2.2 p0 h.2.1.2.2.1 p1 p2 (fun σ32 e32 => ?_)
  obtain ⟨h32, f32⟩ := bP_32 h ⟨p0.2, p0.1⟩ e32
  obtain ⟨a1, a2, ⟨a3, a4, a5, a6⟩, a7, a8, a9, a10⟩ := id h32
  have e8 : yEx σ8 σ32 := yEx_F f32 rfl
  refine f_openX (a := n) (g := g) (n := N) (t := t) (sv := sv) (c := c) (bd := bd) (lo := sg_g σ 11 x) (hi := sg_g σ 12 x) (gd := gd) (glo := sg_g σ 11 gd) (ghi := sg_g σ 12 gd) (plo := plo) (phi := phi) (x := x) (dg := dg) (vs := vs) (Ob := Ob) (sl := sl) (ty := ty) (ρ := ρ) (s := s) hn hx (by rw [sg_F_ga a1 rfl]; exact h13) hg (by rw [sg_F_ga a1 rfl]; exact h8') (sg_F_ga a1 rfl) (sg_F_ga a1 rfl) (by rw [sg_F_ga a1 rfl]; exact h14) (fun z => ⟨(hgd z).1, sg_F_ga a1 rfl, sg_F_ga a1 rfl, (hgd z).2⟩) ⟨hpp.1, hpp.2.1, hpp.2.2⟩ (by rw [sg_F_ga a1 rfl]; exact h16) hbd a2 (ctX_F f32 rfl hs) hc a3 ⟨h0.2, h0.1⟩ a5 (by omega) hgl (fun i hi => ⟨by rw [sg_F_ga f32 rfl]; exact yX_up e8 (hv i hi).1, (hv i hi).2⟩) a4 ⟨a9, hs0⟩ hOs (fun s => by rw [hOm s, opU_F a1 rfl]) (fun y hy => cyT_F f32 e8 rfl (hT y hy)) (fun hE σ' f' z1 z2 _ => ry_s (by rw [z1]; decide) (k3 hE σ' (sg_F_t a1 (sg_F_m f' rfl)) z1 z2)) (fun hE e ef σ' f' z0 z1 z2 _ => ry_s (by rw [z1]; exact z0) (k0 hE e ef σ' (sg_F_t a1 (sg_F_m f' rfl)) z1 z2 z0)) (fun hE s3 ρ3 ef σ' f' r' w _ => ?_)
  obtain ⟨r1, r2, r3, r4, r5, r6, r7, r8, r9, r10, r11, r12, r13, r14, r15⟩ := id r'
  have y0' := (yX_c (r5 0 (by omega))).1
  have g6 := r1.1.2.1
  have M6 : (((vs.getD 0 []).map (fun v => (itF v).length)).sum : Int) ≤ 6000 := by
    rw [← flF_l]
    have := y0'.2.2
    omega
  exact k hE s3 ρ3 ef σ' ⟨sg_F_t a1 (sg_F_m f' rfl), r1, ⟨r8, r11, r7, by rw [sg_F_g f' (by rfl)]; exact a6⟩, ⟨by omega, by omega⟩, h0.2, by omega, a10⟩ (opX2_l f32 e8 rfl r') w (fun i => ⟨by rw [sg_F_ga f' rfl, sg_F_ga f32 rfl], by rw [sg_F_ga f' rfl, sg_F_ga f32 rfl], by rw [sg_F_ga f' rfl, sg_F_ga f32 rfl]⟩)
/-- SIFT -/
theorem zy_sift {x bd g : Int} {M dg dc : Nat} {v0 cv : List vaF} (h : bP σ σ8 (t + 1) sv M c p) (hs : ctX σ8 s) (hc : 4 ≤ c) (h0 : t < 400 ∧ 0 ≤ t) (hp : pl σ p ((11, n) :: C)) (hn : 0 ≤ n ∧ n < 200) (hx : 0 ≤ x ∧ x < 200) (h8' : sg_g σ 8 n = x) (hl : 0 ≤ sg_g σ 11 x ∧ sg_g σ 12 x < 200) (h16 : sg_g σ 16 n = bd) (h13 : sg_g σ 13 n = g) (hbd : 0 ≤ bd ∧ 0 ≤ g ∧ bd + g ≤ 272) (h69 : sg_g σ8 69 n = N) (hN : N ≤ 6000) (hG : yX σ8 (dg + 1) (sg_g σ8 70 n) v0) (hv0 : v0.length = N) (hmm : (v0.map (fun v => (itF v).length)).sum = cv.length) (hch : yX σ8 dc (sg_g σ8 64 t) cv) (hcl : cv.length = M) (hOs : (Ob.map sl).Pairwise (· < ·)) (hOm : ∀ s, s ∈ Ob.map sl ↔ wnt σ (sg_g σ 11 x) (sg_g σ 12 x) (bd + g) s) (hT : ∀ y ∈ Ob, cyT σ8 sl ty ρ M y) (k0 : ∀ e, fCa ty (fWh true cv) Ob s ρ = .inl e → ∀ σ', sg_F bRL σ σ' → sg_g σ' 61 10 = e.1 → ctX σ' e.2 → ¬ e.1 = 0 → X σ') (k1 : ∀ s5 ρ6, fCa ty (fWh true cv) Ob s ρ = .inr (s5, ρ6) → fStp (N : Int) s5 = none → ∀ σ', sg_F bRL σ σ' → sg_g σ' 61 10 = 8 → ctX σ' s5 → X σ') (k : ∀ s5 ρ6, fCa ty (fWh true cv) Ob s ρ = .inr (s5, ρ6) → ∀ s6, fStp (N : Int) s5 = some s6 → ∀ σ', bP σ σ' t sv (fWh true cv).length c (p + 1) → ctX σ' s6 → yEx σ8 σ' → (∀ y ∈ Ob, yX σ' (ty y).toNat (sg_g σ' 62 (sl y)) (ρ6 y)) → (∀ s, s ∉ Ob.map sl → sg_g σ' 62 s = sg_g σ8 62 s) → (∀ i, sg_g σ' 64 i = sg_g σ8 64 i ∧ sg_g σ' 63 i = sg_g σ8 63 i ∧ sg_g σ' 69 i = sg_g σ8 69 i ∧ sg_g σ' 71 i = sg_g σ8 71 i ∧ sg_g σ' 72 i = sg_g σ8 72 i ∧ sg_g σ' 73 i = sg_g σ8 73 i) → (∀ i, ¬ i = n → sg_g σ' 70 i = sg_g σ8 70 i) → rwX σ' (sg_g σ' 70 n) (ctL (v0.map (fun v => (itF v).length)) cv) → Ry σ X m σ') : Ry σ X (m + 1) σ8 := by
  obtain ⟨p0, p1, p2, p3⟩ := pl_c hp
  refine ry_11 (p := p) (k := n) h.2.2.1.2.2.2 p0 h.2.1.2.2.1 p1 p2 (fun σ32 e32 => ?_)
  obtain ⟨h32, f32⟩ := bP_32 h ⟨p0.2, p0.1⟩ e32
  obtain ⟨a1, a2, ⟨a3, a4, a5, a6⟩, a7, a8, a9, a10⟩ := id h32
  have e8 : yEx σ8 σ32 := yEx_F f32 rfl
  have wl := cwF_le true cv
  rw [← fWh_l] at wl
  refine f_siftX (a := n) (x := x) (lo := sg_g σ 11 x) (hi := sg_g σ 12 x) (bd := bd) (g := g) (n := M) (n0 := N) (c := c) (t := t) (dg := dg) (v0 := v0) (cv := cv) (Ob := Ob) (sl := sl) (ty := ty) (ρ := ρ) (s := s) hn hx (by rw [sg_F_ga a1 rfl]; exact h8') (sg_F_ga a1 rfl) (sg_F_ga a1 rfl) hl (by rw [sg_F_ga a1 rfl]; exact h16) (by rw [sg_F_ga a1 rfl]; exact h13) hbd a2 (ctX_F f32 rfl hs) hc a3 ⟨h0.2, h0.1⟩ a5 (by omega) (by rw [sg_F_ga f32 rfl]; exact h69) hN (by rw [sg_F_ga f32 rfl]; exact yX_up e8 hG) hv0 hmm (by rw [sg_F_ga f32 rfl]; exact yX_up e8 hch) hcl hOs (fun s => by rw [hOm s, wnt_F a1 rfl]) (fun y hy => cyT_F f32 e8 rfl (hT y hy)) (fun e ef σ' f' z0 z1 z2 _ => ry_s (by rw [z1]; exact z0) (k0 e ef σ' (sg_F_t a1 (sg_F_m f' rfl)) z1 z2 z0)) (fun s5 ρ6 ef z σ' f' z1 z2 _ => ry_s (by rw [z1]; decide) (k1 s5 ρ6 ef z σ' (sg_F_t a1 (sg_F_m f' rfl)) z1 z2)) (fun s5 ρ6 ef s6 z σ' f' r' w1 w2 w3 w4 _ => ?_)
  obtain ⟨r1, r2, r3, r4, r5⟩ := r'
  exact k s5 ρ6 ef s6 z σ' ⟨sg_F_t a1 (sg_F_m f' rfl), r1, ⟨w2, by rw [sg_F_g f' (by rfl)]; exact a4, w1, by rw [sg_F_g f' (by rfl)]; exact a6⟩, ⟨by omega, by omega⟩, h0.2, a9, a10⟩ r3 (yEx_t e8 r2) r4 (fun s hs => by rw [r5 s hs, sg_F_ga f32 rfl]) (fun i => ⟨by rw [sg_F_ga f' rfl, sg_F_ga f32 rfl], by rw [sg_F_ga f' rfl, sg_F_ga f32 rfl], by rw [sg_F_ga f' rfl, sg_F_ga f32 rfl], by rw [sg_F_ga f' rfl, sg_F_ga f32 rfl], by rw [sg_F_ga f' rfl, sg_F_ga f32 rfl], by rw [sg_F_ga f' rfl, sg_F_ga f32 rfl]⟩) (fun i hi => by rw [w3 i hi, sg_F_ga f32 rfl]) w4
/-- within a { }: Ob are the variables saved, ln the lengths -/
def bIX (σ : sg_S) (A : aT) (D : List aDf) (vb : Int → Prop) (lev : Int → Nat) (j : Nat) (σ2 σ5 : sg_S) (ρ2 ρ5 : fEv) (t sv nl dix n : Int) (Ob L : List Int) (ln : List Nat) : Prop := yEx σ2 σ5 ∧ (∀ i, i < t → sg_g σ5 64 i = sg_g σ2 64 i) ∧ (∀ b, vb b → ¬ ow lev j (n :: L) b → b ∉ Ob → rlY σ A D σ2 ρ2 b → rlY σ A D σ5 ρ5 b) ∧ (∀ i, i < sv → sg_g σ5 72 i = sg_g σ2 72 i ∧ sg_g σ5 73 i = sg_g σ2 73 i) ∧ (∀ x, nl ≤ x → x ∉ n :: L → sg_g σ5 69 x = sg_g σ2 69 x ∧ sg_g σ5 70 x = sg_g σ2 70 x ∧ sg_g σ5 71 x = sg_g σ2 71 x) ∧ (∀ q, dix ≤ q → sg_g σ5 63 q = sg_g σ2 63 q) ∧ svd σ2 σ5 sv (Ob.map (slF σ)) ∧ (sg_g σ5 69 n = ln.length ∧ sg_g σ5 71 n = sv) ∧ rwX σ5 (sg_g σ5 70 n) ln
theorem bIX_u {σ2 σ5 σ6 : sg_S} {ρ2 ρ5 ρ6 : fEv} {nl dix t1 : Int} {L Lx L' : List Int} {ln : List Nat} (h : bIX σ A D vb lev j σ2 σ5 ρ2 ρ5 t sv nl dix n Ob L ln) (u : yU σ A D vb lev j σ5 σ6 ρ5 ρ6 t1 (sv + Ob.length) nl dix Lx) (hn : nl ≤ n) (hx : n ∉ Lx) (ht : t ≤ t1) (hL : ∀ x ∈ L, x ∈ L') (hLx : ∀ x ∈ Lx, x ∈ L') : bIX σ A D vb lev j σ2 σ6 ρ2 ρ6 t sv nl dix n Ob L' ln := by
  obtain ⟨i1, i2, i3, i4, i5, i6, i7, ⟨i8, i9⟩, i10⟩ := h
  obtain ⟨u1, u2, u3, u4, u5, u6⟩ := u
  obtain ⟨z1, z2, z3⟩ := u5 n hn hx
  refine ⟨yEx_t i1 u1, fun i hi => by rw [u2 i (by omega), i2 i hi], fun b hb ho hn' hr => u3 b hb (fun w => ho (ow_s (fun y hy => by simp [hLx y hy]) w)) (i3 b hb (fun w => ho (ow_s (fun y hy => by
    rcases List.mem_cons.mp hy with q | q
    · simp [q]
    · simp [hL y q]) w)) hn' hr), fun i hi => ?_, fun x q r => ?_, fun q hq => by rw [u6 q hq, i6 q hq], fun i x hx => ?_, ⟨by rw [z1]; exact i8, by rw [z3]; exact i9⟩, by rw [z2]; exact rwX_up u1 i10⟩
  · obtain ⟨v1, v2⟩ := u4 i (by omega)
    rw [v1, v2]; exact i4 i hi
  · obtain ⟨v1, v2, v3⟩ := u5 x q (fun z => r (by simp [hLx x z]))
    rw [v1, v2, v3]
    exact i5 x q (fun z => r (by
      rcases List.mem_cons.mp z with y | y
      · simp [y]
      · simp [hL x y]))
  · have hi := gE_l hx
    rw [List.length_map] at hi
    obtain ⟨v1, v2⟩ := u4 (sv + i) (by omega)
    rw [v1, v2]; exact i7 i x hx
/-- NEXT, and the end of a { } -/
theorem zy_coll {σ2 : sg_S} {M nl dix : Int} {d : Nat} {L : List Int} {ρ2 ρ5 : fEv} {ln : List Nat} {v : List vaF} (h : bP σ σ8 (t + 1) (sv + Ob.length) M c p) (hs : ctX σ8 s) (hSl : slA σ vb) (hOb : ∀ y ∈ Ob, vb y) (hNd : (Ob.map (slF σ)).Nodup) (h0 : t < 400 ∧ 0 ≤ t) (hsv : 0 ≤ sv ∧ sv + Ob.length ≤ 2400) (hN : ln.length ≤ 6000) (hc : 1 ≤ c) (hp : pl σ p ((12, n) :: (1, n) :: C)) (hn : 0 ≤ n ∧ n < 200) (h3 : sg_g σ 3 n = 123) (hI : bIX σ A D vb lev j σ2 σ8 ρ2 ρ5 t sv nl dix n Ob L ln) (hit : yX σ8 d (sg_g σ8 64 t) v) (hsum : ln.sum = v.length) (k : ∀ σ', bP σ σ' (t + 1) sv ln.length (c - 1) (p + 2) → ctX σ' s → yU σ A D vb lev j σ2 σ' ρ2 (fBk Ob ρ2 ρ5) t sv nl dix (n :: L) → yX σ' (d + 1) (sg_g σ' 64 t) (fCt ln v) → Ry σ X m σ') : Ry σ X (m + 2) σ8 := by
  obtain ⟨p0, p1, p2, p3⟩ := pl_c hp
  refine ry_12 (p := p) (k := n) h.2.2.1.2.2.2 p0 h.2.1.2.2.1 p1 p2 (fun σ30 e30 => ?_)
  obtain ⟨h30, f30⟩ := bP_32 h ⟨p0.2, p0.1⟩ e30
  unfold V_fNext
  intro _
  obtain ⟨p4, p5, p6, p7⟩ := pl_c p3
  refine ry_1 (p := p + 1) (k := n) h30.2.2.1.2.2.2 p4 h30.2.1.2.2.1 p5 p6 (fun σ32 e32 => ?_)
  obtain ⟨h32, f31⟩ := bP_32 h30 ⟨p4.2, p4.1⟩ e32
  have f32 : sg_F [9061] σ8 σ32 := sg_F_t (sg_F_m f30 rfl) (sg_F_m f31 rfl)
  obtain ⟨a1, a2, ⟨a3, a4, a5, a6⟩, a7, a8, a9, a10⟩ := id h32
  unfold V_mFinish
  rw [xa_in (a := 3) hn, show sg_g σ32 3 n = 123 by rw [sg_F_ga a1 rfl]; exact h3]
  intro σ1 e1
  have f1 : sg_F [10061] σ32 σ1 := by rw [e1]; exact sg_F_w (sg_F_r _ _) rfl _
  refine ⟨fun z => absurd z (by decide), fun _ => ⟨fun z => absurd z (by decide), fun _ => ⟨fun z => absurd z (by decide), fun _ => ?_⟩⟩⟩
  have F1 : sg_F [9061, 10061] σ8 σ1 := sg_F_t (sg_F_m f32 rfl) (sg_F_m f1 rfl)
  have e8 : yEx σ8 σ1 := yEx_F F1 rfl
  obtain ⟨i1, i2, i3, i4, i5, i6, i7, ⟨i8, i9⟩, i10⟩ := hI
  have ml : ((Ob.map (slF σ)).length : Int) = Ob.length := by rw [List.length_map]
  refine f_collectX (W := Ob.map (slF σ)) (a := n) (sb := sv) (t := t) (c := c) (d := d) (ln := ln) (v := v) (s := s) hn (mC_F a2 f1 rfl) (ctX_F F1 rfl hs) hc (by rw [sg_F_g f1 (by rfl)]; exact a3) ⟨h0.2, h0.1⟩ (by rw [sg_F_ga F1 rfl]; exact i8) (by rw [sg_F_ga F1 rfl]; exact rwX_up e8 i10) (by rw [sg_F_ga F1 rfl]; exact yX_up e8 hit) hsum (by rw [sg_F_ga F1 rfl]; exact i9) (by rw [sg_F_g f1 (by rfl), ml]; exact a4) (by rw [ml]; exact hsv) hNd (fun x hx => by
    obtain ⟨y, hy, e⟩ := List.mem_map.mp hx
    rw [← e]; exact hSl.1 y (hOb y hy)) (fun i x hx => by rw [sg_F_ga F1 rfl]; exact (i7 i x hx).1) (fun σ' f' z1 z1' z2 z3 z4 z5 z6 z7 z8 z9 _ _ => ?_)
  have ex := yEx_t i1 (yEx_t e8 z2)
  refine k σ' ⟨sg_F_t a1 (sg_F_t (sg_F_m f1 rfl) (sg_F_m f' rfl)), z1, ⟨z5, z4, z3, by rw [sg_F_g f' (by rfl), sg_F_g f1 (by rfl), a6]; omega⟩, ⟨by omega, by omega⟩, by omega, hsv.1, by omega⟩ z1' ⟨ex, fun i hi => by rw [z7 i hi, sg_F_ga F1 rfl, i2 i hi], fun b hb ho hr => ?_, fun i hi => ?_, fun x q r => ?_, fun q hq => by rw [sg_F_ga f' rfl, sg_F_ga F1 rfl, i6 q hq]⟩ z6
  · show yX σ' _ (sg_g σ' 62 (slF σ b)) (if b ∈ Ob then ρ2 b else ρ5 b)
    by_cases cc : b ∈ Ob
    · rw [if_pos cc]
      obtain ⟨i, hi'⟩ := List.mem_iff_getElem?.mp cc
      have gg : (Ob.map (slF σ))[i]? = some (slF σ b) := by rw [List.getElem?_map, hi']; rfl
      rw [z8 i _ gg, sg_F_ga F1 rfl, (i7 i _ gg).2]
      exact yX_up ex hr
    · rw [if_neg cc]
      have ns : slF σ b ∉ Ob.map (slF σ) := fun w => by
        obtain ⟨y, hy, e⟩ := List.mem_map.mp w
        exact cc (by rw [← hSl.2 y b (hOb y hy) hb e]; exact hy)
      rw [z9 _ ns, sg_F_ga F1 rfl]
      exact yX_up (yEx_t e8 z2) (i3 b hb ho cc hr)
  · rw [sg_F_ga f' rfl, sg_F_ga F1 rfl, sg_F_ga f' rfl, sg_F_ga F1 rfl]
    exact i4 i hi
  · rw [sg_F_ga f' rfl, sg_F_ga F1 rfl, sg_F_ga f' rfl, sg_F_ga F1 rfl, sg_F_ga f' rfl, sg_F_ga F1 rfl]
    exact i5 x q r
end CZA
