/-! THE FLAT RUN of the class in steps, exactly: what is kept; one turn each. -/
section CTD
variable (σ : sg_S) (A : aT) (D : List aDf) (vb : Int → Prop)
/-- what is bound -/
def rlY (σ8 : sg_S) (ρ : fEv) (b : Int) : Prop := yX σ8 (bTy A D (sg_g σ 6) b).toNat (sg_g σ8 62 (slF σ b)) (ρ b)
def scY (σ8 : sg_S) (ρ : fEv) (N : Nat) (sc : List (Int × Int)) : Prop := ∀ p ∈ sc, vb p.1 ∧ p.2 = bTy A D (sg_g σ 6) p.1 ∧ rlY σ A D σ8 ρ p.1 ∧ (ρ p.1).length = N
/-- what stays -/
def yU (σ8 σ' : sg_S) (ρ ρ' : fEv) (t sv nl dix : Int) (L : List Int) : Prop := yEx σ8 σ' ∧ (∀ i, i < t → sg_g σ' 64 i = sg_g σ8 64 i) ∧ (∀ b, vb b → rlY σ A D σ8 ρ b → rlY σ A D σ' ρ' b) ∧ (∀ i, i < sv → sg_g σ' 72 i = sg_g σ8 72 i ∧ sg_g σ' 73 i = sg_g σ8 73 i) ∧ (∀ x, nl ≤ x → x ∉ L → sg_g σ' 69 x = sg_g σ8 69 x ∧ sg_g σ' 70 x = sg_g σ8 70 x ∧ sg_g σ' 71 x = sg_g σ8 71 x) ∧ ∀ q, dix ≤ q → sg_g σ' 63 q = sg_g σ8 63 q
/-- what a node is followed by -/
def kY (X : sg_S → Prop) (σ8 : sg_S) (ρ : fEv) (t sv c p cr nl dix : Int) (L : List Int) (N d : Nat) : fRs → Prop
  | .inl e => ∀ σ', sg_F bRL σ σ' → sg_g σ' 61 10 = e.1 → ctX σ' e.2 → ¬ e.1 = 0 → X σ'
  | .inr r => ∀ (σ' : sg_S) (m' : Nat), 6 * (2001 - r.2.1.1) + cr ≤ (m' : Int) → bP σ σ' (t + 1) sv N c p → ctX σ' r.2.1 → yU σ A D vb σ8 σ' ρ r.2.2 t sv nl dix L → yX σ' d (sg_g σ' 64 t) r.1 → Ry σ X m' σ'
end CTD
section CTS
variable {σ : sg_S} {A : aT} {D : List aDf} {vb : Int → Prop} {X : sg_S → Prop}
theorem yU_r {σ8 : sg_S} {ρ : fEv} {t sv nl dix : Int} {L : List Int} : yU σ A D vb σ8 σ8 ρ ρ t sv nl dix L := ⟨yEx_r _, fun _ _ => rfl, fun _ _ h => h, fun _ _ => ⟨rfl, rfl⟩, fun _ _ _ => ⟨rfl, rfl, rfl⟩, fun _ _ => rfl⟩
theorem yU_t {σ8 σ1 σ2 : sg_S} {ρ ρ1 ρ2 : fEv} {t t1 t2 sv sv1 sv2 nl dix : Int} {L L1 L2 : List Int} (h : yU σ A D vb σ8 σ1 ρ ρ1 t1 sv1 nl dix L1) (g : yU σ A D vb σ1 σ2 ρ1 ρ2 t2 sv2 nl dix L2) (ht : t ≤ t1 ∧ t ≤ t2) (hs : sv ≤ sv1 ∧ sv ≤ sv2) (h1 : ∀ x ∈ L1, x ∈ L) (h2 : ∀ x ∈ L2, x ∈ L) : yU σ A D vb σ8 σ2 ρ ρ2 t sv nl dix L := by
  obtain ⟨a1, a2, a3, a4, a5, a6⟩ := h
  obtain ⟨c1, c2, c3, c4, c5, c6⟩ := g
  refine ⟨yEx_t a1 c1, fun i hi => by rw [c2 i (by omega), a2 i (by omega)], fun b hb hr => c3 b hb (a3 b hb hr), fun i hi => ?_, fun x q r => ?_, fun q hq => by rw [c6 q hq, a6 q hq]⟩
  · obtain ⟨e1, e2⟩ := c4 i (by omega)
    obtain ⟨e3, e4⟩ := a4 i (by omega)
    exact ⟨e1.trans e3, e2.trans e4⟩
  · obtain ⟨e1, e2, e3⟩ := c5 x q (fun z => r (h2 x z))
    obtain ⟨e4, e5, e6⟩ := a5 x q (fun z => r (h1 x z))
    exact ⟨e1.trans e4, e2.trans e5, e3.trans e6⟩
theorem yU_w {σ8 σ1 : sg_S} {ρ ρ1 : fEv} {t t1 sv sv1 nl nl1 dix dix1 : Int} {L L1 : List Int} (h : yU σ A D vb σ8 σ1 ρ ρ1 t1 sv1 nl1 dix1 L1) (hl : nl1 ≤ nl ∧ dix1 ≤ dix) (ht : t ≤ t1) (hs : sv ≤ sv1) (h1 : ∀ x ∈ L1, nl ≤ x → x ∈ L) : yU σ A D vb σ8 σ1 ρ ρ1 t sv nl dix L := by
  obtain ⟨c1, c2, c3, c4, c5, c6⟩ := h
  exact ⟨c1, fun i hi => c2 i (by omega), c3, fun i hi => c4 i (by omega), fun x q r => c5 x (by omega) (fun z => r (h1 x z q)), fun q hq => c6 q (by omega)⟩
theorem rlY_X {σ8 σ1 : sg_S} {ρ : fEv} {b : Int} (h : rlY σ A D σ8 ρ b) (x : yEx σ8 σ1) (h62 : sg_g σ1 62 (slF σ b) = sg_g σ8 62 (slF σ b)) : rlY σ A D σ1 ρ b := by
  unfold rlY
  rw [h62]
  exact yX_up x h
theorem yU_F {K : List Nat} {σ8 σ1 : sg_S} {ρ : fEv} {t sv nl dix : Int} {L : List Int} (f : sg_F K σ8 σ1) (ex : yEx σ8 σ1) (hK : (sg_ca K 62 && sg_ca K 63 && sg_ca K 69 && sg_ca K 70 && sg_ca K 71 && sg_ca K 72 && sg_ca K 73) = true) (h64 : ∀ i, i < t → sg_g σ1 64 i = sg_g σ8 64 i) : yU σ A D vb σ8 σ1 ρ ρ t sv nl dix L := by
  simp only [Bool.and_eq_true] at hK
  obtain ⟨⟨⟨⟨⟨⟨k1, k2⟩, k3⟩, k4⟩, k5⟩, k6⟩, k7⟩ := hK
  exact ⟨ex, h64, fun b _ h => rlY_X h ex (sg_F_ga f k1), fun i _ => ⟨sg_F_ga f k6, sg_F_ga f k7⟩, fun x _ _ => ⟨sg_F_ga f k3, sg_F_ga f k4, sg_F_ga f k5⟩, fun q _ => sg_F_ga f k2⟩
theorem scY_u {σ8 σ1 : sg_S} {ρ ρ1 : fEv} {t sv nl dix : Int} {L : List Int} {N : Nat} {sc : List (Int × Int)} (h : scY σ A D vb σ8 ρ N sc) (u : yU σ A D vb σ8 σ1 ρ ρ1 t sv nl dix L) (hk : ∀ p ∈ sc, ρ1 p.1 = ρ p.1) : scY σ A D vb σ1 ρ1 N sc := fun p hp => by
  obtain ⟨a1, a2, a3, a4⟩ := h p hp
  exact ⟨a1, a2, u.2.2.1 p.1 a1 a3, by rw [hk p hp]; exact a4⟩
variable {σ8 : sg_S} {m N : Nat} {t sv c p n cr nl dix : Int} {C : List (Int × Int)} {s : fSt} {ρ : fEv}
/-- BEGIN -/
theorem zy_begin (h : bP σ σ8 t sv N c p) (hs : ctX σ8 s) (hp : pl σ p ((0, n) :: C)) (hn : 0 ≤ n ∧ n < 200) (k0 : fBg N s = none → ∀ σ', sg_F bRL σ σ' → sg_g σ' 61 10 = 8 → ctX σ' s → X σ') (k : ∀ s1, fBg N s = some s1 → ∀ σ', bP σ σ' t sv N (c + 4) (p + 1) → ctX σ' s1 → yU σ A D vb σ8 σ' ρ ρ t sv nl dix [n] → sg_g σ' 69 n = N → (∀ x, sg_g σ' 64 x = sg_g σ8 64 x) → Ry σ X m σ') : Ry σ X (m + 1) σ8 := by
  obtain ⟨p0, p1, p2, p3⟩ := pl_c hp
  refine ry_0 (p := p) (k := n) h.2.2.1.2.2.2 p0 h.2.1.2.2.1 p1 p2 (fun σ32 e32 => ?_)
  obtain ⟨h32, f32⟩ := bP_32 h ⟨p0.2, p0.1⟩ e32
  obtain ⟨a1, a2, ⟨a3, a4, a5, a6⟩, a7, a8, a9, a10⟩ := h32
  obtain ⟨m1, m2, m3, m4, m5⟩ := a2
  refine f_beginX hn a5 m3 (ctX_F f32 rfl hs) (fun z σ' f' z1 z2 _ => ry_s (by rw [z1]; decide) (k0 z σ' (sg_F_t a1 (sg_F_m f' rfl)) z1 z2)) (fun s1 z σ' f' z1 z2 z3 z4 _ => ?_)
  have st : s1.1 = s.1 + 1 := by
    unfold fBg at z
    cases e : fStp 0 s with
    | none => rw [e] at z; cases z
    | some s0 => rw [e] at z; cases z; exact (fStp_s e).1
  have g : sg_F [69, 9061, 18077, 19077, 25061] σ8 σ' := sg_F_t (sg_F_m f32 rfl) (sg_F_m f' rfl)
  have b1 := (ctX_F (σ' := σ32) f32 rfl hs).1
  have b2 := z2.1
  have b3 := z2.2.2.2.1
  refine k s1 z σ' ⟨sg_F_t a1 (sg_F_m f' rfl), ⟨yG_F m1 f' rfl, y0_F m2 f' rfl, z1, by rw [sg_F_g (a := 77) (k := 10) f' (by rfl)]; omega, by omega⟩, ⟨by rw [sg_F_g f' (by rfl)]; exact a3, by rw [sg_F_g f' (by rfl)]; exact a4, by rw [sg_F_g f' (by rfl)]; exact a5, by rw [sg_F_g f' (by rfl)]; exact a6⟩, a7, a8, a9, by omega⟩ z2 ?_ z3 (fun x => sg_F_ga g rfl)
  refine ⟨yEx_F g rfl, fun i _ => sg_F_ga g rfl, fun b _ hr => rlY_X hr (yEx_F g rfl) (sg_F_ga g rfl), fun i _ => ⟨sg_F_ga g rfl, sg_F_ga g rfl⟩, fun x _ hx => ⟨?_, sg_F_ga g rfl, sg_F_ga g rfl⟩, fun q _ => sg_F_ga g rfl⟩
  rw [z4 x (by simpa using hx), sg_F_ga f32 rfl]
/-- what an operation comes to -/
theorem zy_fn {σ32 σ' : sg_S} {k ty x a : Int} {vs : List (List vaF)} (h : bP σ σ8 (t + a) sv N c p) (h0 : 0 ≤ t ∧ 0 ≤ a) (h32 : bP σ σ32 (t + a) sv N c (p + 1)) (f32 : sg_F [9061] σ8 σ32) (f' : sg_F fnL σ32 σ') (r : fnX σ32 σ' ty.toNat (fOl k ty x vs N) t c s) (hm : 6 * (2001 - s.1) + cr ≤ (m : Int) + 1) (kk : kY σ A D vb X σ8 ρ t sv c (p + 1) cr nl dix [] N ty.toNat (fWk k ty x vs N s ρ)) : Ry σ X m σ' := by
  obtain ⟨a1, a2, ⟨a3, a4, a5, a6⟩, a7, a8, a9, a10⟩ := h32
  have FF : sg_F bRL σ σ' := sg_F_t a1 (sg_F_m f' rfl)
  unfold fWk at kk
  rcases r with ⟨z1, z2, z3⟩ | ⟨s1, z1, z2, z3, z4⟩
  · rw [z1] at kk
    exact ry_s (by rw [z2]; decide) (kk σ' FF z2 z3 (by show ¬ (8 : Int) = 0; decide))
  · rw [z1] at kk
    have st := (fStp_s z1).1
    by_cases e : fOe (fOl k ty x vs N) = 0
    · simp only [e, if_true] at kk
      obtain ⟨q1, q2, q3, q4, q5⟩ := z4 e
      have q : sg_F (9061 :: fnL) σ8 σ' := sg_F_t (sg_F_m f32 rfl) (sg_F_m f' rfl)
      exact kk σ' m (by show 6 * (2001 - s1.1) + cr ≤ (m : Int); omega) ⟨FF, q1, ⟨q4, by rw [sg_F_g f' (by rfl)]; exact a4, by rw [sg_F_g f' (by rfl)]; exact a5, by rw [sg_F_g f' (by rfl)]; exact a6⟩, a7, by omega, a9, a10⟩ z2 (yU_F q (yEx_t (yEx_F f32 rfl) q2) rfl (fun i hi => by rw [q5 i hi, sg_F_ga f32 rfl])) q3
    · simp only [e, if_false] at kk
      exact ry_s (by rw [z3]; exact e) (kk σ' FF z3 z2 e)
theorem zy_one {k ta x : Int} {la : List vaF} (h : bP σ σ8 (t + 1) sv N c p) (hs : ctX σ8 s) (hc : 4 ≤ c) (ht : t < 400 ∧ 0 ≤ t) (hp : pl σ p ((2, n) :: C)) (hn : 0 ≤ n ∧ n < 200) (h3 : sg_g σ 3 n = kmp k) (h6 : sg_g σ 6 n ≤ 3) (hta : 0 ≤ ta ∧ ta ≤ 3) (hv : yX σ8 ta.toNat (sg_g σ8 64 t) la) (hla : la.length = N) (ho : op1 k ta (sg_g σ 6 n)) (hm : 6 * (2001 - s.1) + cr ≤ (m : Int) + 1) (kk : kY σ A D vb X σ8 ρ t sv c (p + 1) cr nl dix [] N (sg_g σ 6 n).toNat (fWk k (sg_g σ 6 n) x [la] N s ρ)) : Ry σ X (m + 1) σ8 := by
  obtain ⟨p0, p1, p2, p3⟩ := pl_c hp
  refine ry_2 (p := p) (k := n) h.2.2.1.2.2.2 p0 h.2.1.2.2.1 p1 p2 (fun σ32 e32 => ?_)
  obtain ⟨h32, f32⟩ := bP_32 h ⟨p0.2, p0.1⟩ e32
  obtain ⟨a1, a2, ⟨a3, a4, a5, a6⟩, a7, a8, a9, a10⟩ := id h32
  exact fin1X (k := k) (ta := ta) (ty := sg_g σ 6 n) (x := x) (s := s) hn a2 (ctX_F f32 rfl hs) hc a3 ⟨by omega, by omega⟩ a5 (by omega) (by rw [sg_F_ga a1 rfl]; exact h3) (sg_F_ga a1 rfl) h6 hta (by rw [sg_F_ga f32 rfl]; exact yX_up (yEx_F f32 rfl) hv) hla ho (fun σ' f' r' _ => zy_fn (a := 1) h ⟨ht.2, by omega⟩ h32 f32 f' r' hm kk)
theorem zy_two {k ta tb x : Int} {la lb : List vaF} (h : bP σ σ8 (t + 2) sv N c p) (hs : ctX σ8 s) (hc : 4 ≤ c) (ht : t + 2 ≤ 400 ∧ 0 ≤ t) (hp : pl σ p ((3, n) :: C)) (hn : 0 ≤ n ∧ n < 200) (h3 : sg_g σ 3 n = kmp k) (h6 : sg_g σ 6 n ≤ 3) (hta : 0 ≤ ta ∧ ta ≤ 3) (hv : yX σ8 ta.toNat (sg_g σ8 64 t) la) (hw : yX σ8 tb.toNat (sg_g σ8 64 (t + 1)) lb) (hla : la.length = N) (hlb : lb.length = N) (ho : op2 k ta tb (sg_g σ 6 n)) (hm : 6 * (2001 - s.1) + cr ≤ (m : Int) + 1) (kk : kY σ A D vb X σ8 ρ t sv c (p + 1) cr nl dix [] N (sg_g σ 6 n).toNat (fWk k (sg_g σ 6 n) x [la, lb] N s ρ)) : Ry σ X (m + 1) σ8 := by
  obtain ⟨p0, p1, p2, p3⟩ := pl_c hp
  refine ry_3 (p := p) (k := n) h.2.2.1.2.2.2 p0 h.2.1.2.2.1 p1 p2 (fun σ32 e32 => ?_)
  obtain ⟨h32, f32⟩ := bP_32 h ⟨p0.2, p0.1⟩ e32
  obtain ⟨a1, a2, ⟨a3, a4, a5, a6⟩, a7, a8, a9, a10⟩ := id h32
  exact fin2X (k := k) (ta := ta) (tb := tb) (ty := sg_g σ 6 n) (x := x) (s := s) hn a2 (ctX_F f32 rfl hs) hc a3 ⟨by omega, by omega⟩ a5 (by omega) (by rw [sg_F_ga a1 rfl]; exact h3) (sg_F_ga a1 rfl) h6 hta (by rw [sg_F_ga f32 rfl]; exact yX_up (yEx_F f32 rfl) hv) (by rw [sg_F_ga f32 rfl]; exact yX_up (yEx_F f32 rfl) hw) hla hlb ho (fun σ' f' r' _ => zy_fn (a := 2) h ⟨ht.2, by omega⟩ h32 f32 f' r' hm kk)
/-- a NUMBER -/
theorem zy_num {x : Int} (h : bP σ σ8 t sv N c p) (hs : ctX σ8 s) (hc : 4 ≤ c) (ht : t < 400 ∧ 0 ≤ t) (hp : pl σ p ((1, n) :: C)) (hn : 0 ≤ n ∧ n < 200) (h3 : sg_g σ 3 n = 257) (h6 : sg_g σ 6 n = 0) (h5 : sg_g σ 5 n = x) (hm : 6 * (2001 - s.1) + cr ≤ (m : Int) + 1) (kk : kY σ A D vb X σ8 ρ t sv c (p + 1) cr nl dix [] N (sg_g σ 6 n).toNat (fWk 0 (sg_g σ 6 n) x [] N s ρ)) : Ry σ X (m + 1) σ8 := by
  obtain ⟨p0, p1, p2, p3⟩ := pl_c hp
  refine ry_1 (p := p) (k := n) h.2.2.1.2.2.2 p0 h.2.1.2.2.1 p1 p2 (fun σ32 e32 => ?_)
  obtain ⟨h32, f32⟩ := bP_32 h ⟨p0.2, p0.1⟩ e32
  obtain ⟨a1, a2, ⟨a3, a4, a5, a6⟩, a7, a8, a9, a10⟩ := id h32
  obtain ⟨m1, m2, m3, m4, m5⟩ := id a2
  have hs32 := ctX_F (σ' := σ32) f32 rfl hs
  unfold V_mFinish
  rw [xa_in (a := 6) hn, xa_in (a := 3) hn, xa_in (a := 5) hn, show sg_g σ32 6 n = 0 by rw [sg_F_ga a1 rfl]; exact h6, show sg_g σ32 3 n = 257 by rw [sg_F_ga a1 rfl]; exact h3, show sg_g σ32 5 n = x by rw [sg_F_ga a1 rfl]; exact h5]
  intro σ1 e1
  have f1 : sg_F [10061] σ32 σ1 := by rw [e1]; exact sg_F_w (sg_F_r _ _) rfl _
  refine ⟨fun _ => ?_, fun z => absurd rfl z⟩
  refine o_constant (t := t) (n := N) (s := s) (f := fO1 0 (sg_g σ 6 n) x []) (fP_mk (t := t) ⟨m1, m2, by omega, m5, by omega⟩ f1 (by rw [sg_F_g f1 (by rfl)]; exact a3) ⟨by omega, by omega⟩ rfl) (ctX_F f1 rfl hs32) (by rw [e1, sg_gw_e _ _ _ _ (by decide)]) (by rw [sg_F_g f1 (by rfl)]; exact a5) (by rw [← h5]; exact sg_Rg _ _ _) (fun i hi => rfl) (fun σ' f' r' _ _ => ?_)
  refine zy_fn (a := 0) (t := t) (k := 0) (ty := sg_g σ 6 n) (x := x) (vs := []) (by rw [Int.add_zero]; exact h) ⟨ht.2, by omega⟩ (by rw [Int.add_zero]; exact h32) f32 (sg_F_t (sg_F_m f1 rfl) (sg_F_m f' rfl)) ?_ hm kk
  rw [show (sg_g σ 6 n).toNat = 0 by omega]
  exact gw_fn a2 hs32 f1 rfl r'
/-- a ROW -/
theorem zy_row {x : Int} {d : Nat} {vs : List (List vaF)} (h : bP σ σ8 (t + vs.length) sv N c p) (hs : ctX σ8 s) (hc : 4 ≤ c) (ht : t + vs.length ≤ 400 ∧ 0 ≤ t) (ha : 1 ≤ vs.length ∧ vs.length ≤ 200) (hp : pl σ p ((1, n) :: C)) (hn : 0 ≤ n ∧ n < 200) (h3 : sg_g σ 3 n = 279) (h10 : sg_g σ 10 n = vs.length) (h6 : sg_g σ 6 n = (d + 1 : Nat)) (hd : d + 1 ≤ 3) (hv : ∀ i : Nat, i < vs.length → yX σ8 d (sg_g σ8 64 (t + i)) (vs.getD i []) ∧ (vs.getD i []).length = N) (hm : 6 * (2001 - s.1) + cr ≤ (m : Int) + 1) (kk : kY σ A D vb X σ8 ρ t sv c (p + 1) cr nl dix [] N (sg_g σ 6 n).toNat (fWk 14 (sg_g σ 6 n) x vs N s ρ)) : Ry σ X (m + 1) σ8 := by
  obtain ⟨p0, p1, p2, p3⟩ := pl_c hp
  refine ry_1 (p := p) (k := n) h.2.2.1.2.2.2 p0 h.2.1.2.2.1 p1 p2 (fun σ32 e32 => ?_)
  obtain ⟨h32, f32⟩ := bP_32 h ⟨p0.2, p0.1⟩ e32
  obtain ⟨a1, a2, ⟨a3, a4, a5, a6⟩, a7, a8, a9, a10⟩ := id h32
  obtain ⟨m1, m2, m3, m4, m5⟩ := id a2
  have hs32 := ctX_F (σ' := σ32) f32 rfl hs
  unfold V_mFinish
  rw [xa_in (a := 6) hn, xa_in (a := 3) hn, xa_in (a := 10) hn, show sg_g σ32 6 n = (d + 1 : Nat) by rw [sg_F_ga a1 rfl]; exact h6, show sg_g σ32 3 n = 279 by rw [sg_F_ga a1 rfl]; exact h3, show sg_g σ32 10 n = vs.length by rw [sg_F_ga a1 rfl]; exact h10]
  intro σ1 e1
  have f1 : sg_F [10061] σ32 σ1 := by rw [e1]; exact sg_F_w (sg_F_r _ _) rfl _
  refine ⟨fun z => absurd z (by decide), fun _ => ⟨fun z => absurd z (by decide), fun _ => ⟨fun _ => ?_, fun z => absurd rfl z⟩⟩⟩
  refine o_row (t := t) (n := N) (d := d) (s := s) (f := fO1 14 (sg_g σ 6 n) x vs) ⟨yG_F m1 f1 rfl, y0_F m2 f1 rfl, by rw [sg_F_g f1 (by rfl), sg_F_g f1 (by rfl)]; omega, by rw [sg_F_g f1 (by rfl)]; exact m5, by rw [sg_F_g f1 (by rfl)]; omega⟩ (ctX_F f1 rfl hs32) (by rw [sg_F_g f1 (by rfl)]; exact a3) ⟨by omega, by omega⟩ ha hd (by rw [e1, sg_gw_e _ _ _ _ ⟨by omega, by omega⟩]) (by rw [sg_F_g f1 (by rfl)]; exact a5) (fun i hi => ⟨by rw [sg_F_ga f1 rfl, sg_F_ga f32 rfl]; exact yX_up (yEx_F f1 rfl) (yX_up (yEx_F f32 rfl) (hv i hi).1), (hv i hi).2⟩) (fun i hi => fO_14) (fun σ' f' r' _ _ => ?_)
  refine zy_fn (a := vs.length) (t := t) (k := 14) (ty := sg_g σ 6 n) (x := x) (vs := vs) h ⟨ht.2, by omega⟩ h32 f32 (sg_F_t (sg_F_m f1 rfl) (sg_F_m f' rfl)) ?_ hm kk
  rw [show (sg_g σ 6 n).toNat = d + 1 by omega]
  exact gw_fn a2 hs32 f1 rfl r'
/-- a NAME -/
theorem zy_name {sl : Int} {v : List vaF} (h : bP σ σ8 t sv N c p) (hs : ctX σ8 s) (ht : t < 400 ∧ 0 ≤ t) (hp : pl σ p ((1, n) :: C)) (hn : 0 ≤ n ∧ n < 200) (h3 : sg_g σ 3 n = 258) (h16 : sg_g σ 16 n = sl) (hsl : 0 ≤ sl ∧ sl < 272) (hv : yX σ8 (sg_g σ 6 n).toNat (sg_g σ8 62 sl) v) (hm : 6 * (2001 - s.1) + cr ≤ (m : Int)) (kk : kY σ A D vb X σ8 ρ t sv c (p + 1) cr nl dix [] N (sg_g σ 6 n).toNat (.inr (v, s, ρ))) : Ry σ X (m + 1) σ8 := by
  obtain ⟨p0, p1, p2, p3⟩ := pl_c hp
  refine ry_1 (p := p) (k := n) h.2.2.1.2.2.2 p0 h.2.1.2.2.1 p1 p2 (fun σ32 e32 => ?_)
  obtain ⟨h32, f32⟩ := bP_32 h ⟨p0.2, p0.1⟩ e32
  obtain ⟨a1, a2, ⟨a3, a4, a5, a6⟩, a7, a8, a9, a10⟩ := id h32
  unfold V_mFinish
  rw [xa_in (a := 16) hn, xa_in (a := 3) hn, show sg_g σ32 16 n = sl by rw [sg_F_ga a1 rfl]; exact h16, show sg_g σ32 3 n = 258 by rw [sg_F_ga a1 rfl]; exact h3, xa_in (a := 62) hsl]
  intro σ1 e1
  have f1 : sg_F [10061] σ32 σ1 := by rw [e1]; exact sg_F_w (sg_F_r _ _) rfl _
  refine ⟨fun z => absurd z (by decide), fun _ => ⟨fun _ => ?_, fun z => absurd rfl z⟩⟩
  refine y_push (t := t) (by rw [sg_F_g f1 (by rfl)]; exact a3) ⟨ht.2, ht.1⟩ (sg_Rg _ _ _) (fun σ' f' z1 z2 z3 _ _ => ?_)
  have F : sg_F [64, 8061, 9061, 10061] σ8 σ' := sg_F_t (sg_F_t (sg_F_m f32 rfl) (sg_F_m f1 rfl)) (sg_F_m f' rfl)
  have F2 : sg_F [64, 8061, 10061] σ32 σ' := sg_F_t (sg_F_m f1 rfl) (sg_F_m f' rfl)
  refine kk σ' m hm ⟨sg_F_t h.1 (sg_F_m F rfl), mC_F h.2.1 F rfl, ⟨z1, by rw [sg_F_g F2 (by rfl)]; exact a4, by rw [sg_F_g F2 (by rfl)]; exact a5, by rw [sg_F_g F2 (by rfl)]; exact a6⟩, a7, by omega, a9, a10⟩ (ctX_F F rfl hs) (yU_F F (yEx_F F rfl) rfl (fun i hi => by rw [z3 i (by omega), sg_F_ga f1 rfl, sg_F_ga f32 rfl])) ?_
  rw [z2, sg_F_ga f32 rfl]
  exact yX_up (yEx_F F rfl) hv
end CTS
/-! BIG STEPS of the class's flat run, exactly: a node, parts one after another, operations. -/
section CUD
variable (σ : sg_S) (A : aT) (D : List aDf) (vb : Int → Prop) (X : sg_S → Prop)
/-- what parts are followed by -/
def kYr (σ8 : sg_S) (ρ : fEv) (t sv c p cr nl dix : Int) (L R : List Int) (N : Nat) : fRl → Prop
  | .inl e => ∀ σ', sg_F bRL σ σ' → sg_g σ' 61 10 = e.1 → ctX σ' e.2 → ¬ e.1 = 0 → X σ'
  | .inr r => ∀ (σ' : sg_S) (m' : Nat), r.1.length = R.length → 6 * (2001 - r.2.1.1) + cr ≤ (m' : Int) → bP σ σ' (t + R.length) sv N c p → ctX σ' r.2.1 → yU σ A D vb σ8 σ' ρ r.2.2 t sv nl dix L → (∀ (i : Nat) (x : Int), R[i]? = some x → yX σ' (sg_g σ 6 x).toNat (sg_g σ' 64 (t + i)) (r.1.getD i []) ∧ (r.1.getD i []).length = N) → Ry σ X m' σ'
/-- the big step of a node -/
def yN (B : Int → Int) (lev : Int → Nat) (O : Int → Nat → List Int) (call : Int → Nat → fEv → fSt → fRs) (j : Nat) (nl dix : Int) (f : Nat) : Prop := ∀ (n : Int) (L es : List Int) (sc : List (Int × Int)) (b b' p : Int) (h : Nat), stN A D (sg_g σ 6) B lev j f L sc n → (∀ x ∈ L, nl ≤ x ∧ lyQ σ A D B dix x) → gRq σ A L → scN σ A dix f es n b b' → (∀ q ∈ sc, slF σ q.1 < b) → htN A f n ≤ h → pl σ p (cd A f n) → b' ≤ 272 → ∀ (σ8 : sg_S) (m : Nat) (ρ : fEv) (t sv c cr : Int) (N : Nat) (s : fSt), bP σ σ8 t sv N c p → ctX σ8 s → scY σ A D vb σ8 ρ N sc → t + L.length + nl ≤ 400 → sv + ((h * L.length : Nat) : Int) + 12 * nl ≤ 2400 → 6 * (2001 - s.1) + cr ≤ (m : Int) → 0 ≤ cr → kY σ A D vb X σ8 ρ t sv c (p + (cd A f n).length) cr nl dix L N (sg_g σ 6 n).toNat (fxN A D (sg_g σ 6) B O call f n N ρ s) → Ry σ X m σ8
end CUD
section CUS
variable {σ : sg_S} {A : aT} {D : List aDf} {vb : Int → Prop} {X : sg_S → Prop} {B : Int → Int} {lev : Int → Nat} {O : Int → Nat → List Int} {call : Int → Nat → fEv → fSt → fRs} {j : Nat} {nl dix : Int} {f : Nat}
theorem yRow (hnl : 0 ≤ nl) (hP : fPu A D (sg_g σ 6) B lev O call j f) (F : yN σ A D vb X B lev O call j nl dix f) {n0 : Int} {es : List Int} {sc : List (Int × Int)} {h N : Nat} : ∀ (R L : List Int) (st : Nat) (b b' p : Int), fT A R L → L.Nodup → (∀ y ∈ L, (0 ≤ y ∧ y < A.1) ∧ lev y = j) → (∀ q ∈ sc, rb A q.1 ∧ ¬ ow lev j L q.1) → (∀ x ∈ L, nl ≤ x ∧ lyQ σ A D B dix x) → gRq σ A L → (∀ x ∈ R, tyN A (kDl (D.take j) []) (sg_g σ 6) B f sc x) → scS σ A (scN σ A dix f) n0 st es b R b' → (∀ i, st ≤ i → i < st + R.length → kQ A n0 i) → (∀ q ∈ sc, slF σ q.1 < b) → (∀ x ∈ R, htN A f x ≤ h) → pl σ p (cdS A (cd A f) n0 st R) → b' ≤ 272 → ∀ (σ8 : sg_S) (m : Nat) (ρ : fEv) (t sv c cr : Int) (s : fSt), bP σ σ8 t sv N c p → ctX σ8 s → scY σ A D vb σ8 ρ N sc → t + L.length + nl ≤ 400 → sv + ((h * L.length : Nat) : Int) + 12 * nl ≤ 2400 → 6 * (2001 - s.1) + cr ≤ (m : Int) → 0 ≤ cr → kYr σ A D vb X σ8 ρ t sv c (p + (cdS A (cd A f) n0 st R).length) cr nl dix L R N (fSq (fun x => fxN A D (sg_g σ 6) B O call f x N) R ρ s) → Ry σ X m σ8
  | [], L, st, b, b', p, hf, hN, hlv, hsc, hL, hg, hty, hss, hq, hsl, hh, hp, hb, σ8, m, ρ, t, sv, c, cr, s, h8, h9, hS, ht, hv, hm, hcr, k => by
    simp only [fSq, kYr, cdS, List.length_nil, Int.ofNat_zero, Int.cast_ofNat_Int, Int.add_zero] at k
    exact k σ8 m trivial hm h8 h9 yU_r (fun i x hx => by simp at hx)
  | x :: R, L, st, b, b', p, hf, hN, hlv, hsc, hL, hg, hty, hss, hq, hsl, hh, hp, hb, σ8, m, ρ, t, sv, c, cr, s, h8, h9, hS, ht, hv, hm, hcr, k => by
    obtain ⟨L1, L2, e1, w1, w2, w3⟩ := fT_inv hf
    subst e1
    obtain ⟨q1, q2⟩ := hq st (Nat.le_refl _) (by simp)
    simp only [scS] at hss
    obtain ⟨-, b2, s2, s3⟩ := hss
    obtain ⟨e1, e2⟩ := esA_no q2 es b
    rw [e1, e2] at s2
    rw [e1] at s3
    simp only [cdS] at hp k
    rw [q1, List.nil_append] at hp k
    obtain ⟨p1, p2⟩ := pl_a hp
    have l1 := scN_le _ _ _ _ _ s2
    have l2 := scS_le (fun es x b b' => scN_le f es x b b') _ _ _ _ _ s3
    have i1 : ∀ y, y ∈ x :: L1 → y ∈ x :: (L1 ++ L2) := fun y hy => by rw [← List.cons_append]; exact List.mem_append_left _ hy
    have i2 : ∀ y, y ∈ L2 → y ∈ x :: (L1 ++ L2) := fun y hy => by rw [← List.cons_append]; exact List.mem_append_right _ hy
    have hN1 : (x :: L1).Nodup := List.Nodup.sublist (by rw [← List.cons_append]; exact List.sublist_append_left _ _) hN
    have hN2 : L2.Nodup := List.Nodup.sublist (by rw [← List.cons_append]; exact List.sublist_append_right _ _) hN
    have hl : (x :: (L1 ++ L2)).length = (x :: L1).length + L2.length := by rw [← List.cons_append, List.length_append]
    have hl1 : 1 ≤ (x :: L1).length := by simp
    have hx : stN A D (sg_g σ 6) B lev j f (x :: L1) sc x := ⟨hty x (by simp), fT_one w1 w2, hN1, fun y hy => hlv y (i1 y hy), fun q hq' => ⟨(hsc q hq').1, fun w => (hsc q hq').2 (ow_s i1 w)⟩⟩
    have pu := hP x (x :: L1) sc hx N ρ s
    refine F x (x :: L1) es sc b b2 p h hx (fun y hy => hL y (i1 y hy)) (gR_s hg i1) s2 hsl (hh x (by simp)) p1 (by omega) σ8 m ρ t sv c cr N s h8 h9 hS (by omega) ?_ hm hcr ?_
    · have := Nat.mul_le_mul_left h (show (x :: L1).length ≤ (x :: (L1 ++ L2)).length by omega)
      omega
    simp only [fSq] at k
    generalize er : fxN A D (sg_g σ 6) B O call f x N ρ s = r at k pu
    match r, k, pu with
    | .inl e, k, _ => exact k
    | .inr (v, s1, ρ1), k, pu =>
      obtain ⟨lv, kv⟩ := pu v s1 ρ1 (fun q hq' => (hS q hq').2.2.2) rfl
      intro σ1 m1 hm1 h1 c1 u1 v1
      have S1 := scY_u hS u1 (fun q hq' => kv q.1 (fun w => (hsc q hq').2 (ow_s i1 w)))
      refine yRow hnl hP F R L2 (st + 1) b2 b' (p + (cd A f x).length) w3 hN2 (fun y hy => hlv y (i2 y hy)) (fun q hq' => ⟨(hsc q hq').1, fun w => (hsc q hq').2 (ow_s i2 w)⟩) (fun y hy => hL y (i2 y hy)) (gR_s hg i2) (fun y hy => hty y (by simp [hy])) s3 (fun i a b => hq i (by omega) (by simp only [List.length_cons]; omega)) (fun q hq' => by have := hsl q hq'; omega) (fun y hy => hh y (by simp [hy])) p2 hb σ1 m1 ρ1 (t + 1) sv c cr s1 h1 c1 S1 (by omega) ?_ hm1 hcr ?_
      · have := Nat.mul_le_mul_left h (show L2.length ≤ (x :: (L1 ++ L2)).length by omega)
        omega
      simp only at k
      generalize fSq (fun x => fxN A D (sg_g σ 6) B O call f x N) R ρ1 s1 = r2 at k
      match r2, k with
      | .inl e, k => exact k
      | .inr (vs, s2', ρ2), k =>
        intro σ2 m2 le2 hm2 h2 c2 u2 v2
        refine k σ2 m2 (by simp only [List.length_cons] at le2 ⊢; omega) hm2 ?_ c2 (yU_t u1 u2 ⟨Int.le_refl _, by omega⟩ ⟨Int.le_refl _, Int.le_refl _⟩ i1 i2) (fun i y hy => ?_)
        · simp only [List.length_cons, List.length_append]
          rw [show t + ((R.length + 1 : Nat) : Int) = t + 1 + R.length by omega, show p + (((cd A f x).length + (cdS A (cd A f) n0 (st + 1) R).length : Nat) : Int) = p + (cd A f x).length + (cdS A (cd A f) n0 (st + 1) R).length by omega]
          exact h2
        · cases i with
          | zero =>
            simp only [List.getElem?_cons_zero, Option.some.injEq] at hy
            subst hy
            simp only [Int.ofNat_zero, Int.cast_ofNat_Int, Int.add_zero]
            rw [u2.2.1 t (by omega)]
            exact ⟨yX_up u2.1 v1, lv⟩
          | succ i =>
            simp only [List.getElem?_cons_succ] at hy
            have := v2 i y hy
            rw [show t + 1 + (i : Int) = t + ((i + 1 : Nat) : Int) by omega] at this
            exact this
/-- an operation at the end of a node -/
theorem kY_m {σ8 σ2 : sg_S} {ρ ρ2 : fEv} {t sv c c' p p' cr : Int} {L : List Int} {N d : Nat} {r : fRs} (hk : kY σ A D vb X σ8 ρ t sv c p cr nl dix L N d r) (hu : yU σ A D vb σ8 σ2 ρ ρ2 t sv nl dix L) (hc : 0 ≤ c ∧ c ≤ c') (hp : p' = p) : kY σ A D vb X σ2 ρ2 t sv c' p' cr nl dix [] N d r := by
  subst hp
  cases r with
  | inl e => exact hk
  | inr r => exact fun σ' m' hm h1 h2 h3 h4 => hk σ' m' hm (bP_m h1 hc) h2 (yU_t hu h3 ⟨Int.le_refl _, Int.le_refl _⟩ ⟨Int.le_refl _, Int.le_refl _⟩ (fun _ hx => hx) (by simp)) h4
end CUS
