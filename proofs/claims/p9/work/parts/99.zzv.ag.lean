/-! THE NESTED RUN in steps: what is kept. -/
abbrev nRL : List Nat := [46, 47, 48, 53, 54, 55, 56, 57, 58, 59, 60, 8045, 9045, 10045, 11045, 21045, 22045, 23045, 24045]
/-- the slot of a binder -/
def slF (σ : sg_S) (b : Int) : Int := if b < 210 then sg_g σ 16 b else if b < 1100 then sg_g σ 16 ((b - 210) / 4) + (b - 210) % 4 else sg_g σ 24 ((b - 1100) / 6) + (b - 1100) % 6
theorem sl_let {σ : sg_S} {n : Int} (h : n < 210) : slF σ n = sg_g σ 16 n := by unfold slF; rw [if_pos h]
theorem sl_gen {σ : sg_S} {n : Int} {j : Nat} (h : 0 ≤ n ∧ n < 210) (hj : j < 4) : slF σ (210 + 4 * n + j) = sg_g σ 16 n + j := by
  unfold slF
  rw [if_neg (by omega), if_pos (by omega), show (210 + 4 * n + (j : Int) - 210) / 4 = n by omega, show (210 + 4 * n + (j : Int) - 210) % 4 = j by omega]
theorem sl_par {σ : sg_S} {q : Int} {j : Nat} (h : 0 ≤ q) (hj : j < 6) : slF σ (1100 + 6 * q + j) = sg_g σ 24 q + j := by
  unfold slF
  rw [if_neg (by omega), if_neg (by omega), show (1100 + 6 * q + (j : Int) - 1100) / 6 = q by omega, show (1100 + 6 * q + (j : Int) - 1100) % 6 = j by omega]
section NMK
variable (σ : sg_S) (A : aT) (D : List aDf) (vb : Int → Prop)
/-- what is bound -/
def rlC (σ8 : sg_S) (ρ : eV) (b : Int) : Prop := cvF σ8 (bTy A D (sg_g σ 6) b).toNat (ρ b) (sg_g σ8 46 (slF σ b))
def scP (σ8 : sg_S) (ρ : eV) (sc : List (Int × Int)) : Prop := ∀ p ∈ sc, vb p.1 ∧ p.2 = bTy A D (sg_g σ 6) p.1 ∧ rlC σ A D σ8 ρ p.1
/-- slots are apart -/
def slA : Prop := (∀ b, vb b → 0 ≤ slF σ b ∧ slF σ b < 272) ∧ ∀ b b', vb b → vb b' → slF σ b = slF σ b' → b = b'
/-- between orders: place of the stack, work, span, nodes begun, place of the plan -/
def nP (σ8 : sg_S) (t w s c p : Int) : Prop := sg_F nRL σ σ8 ∧ (sg_g σ8 45 10 = 0 ∧ sg_g σ8 45 21 = 0) ∧ (sg_g σ8 45 7 = t ∧ sg_g σ8 45 22 = w ∧ sg_g σ8 45 23 = s ∧ sg_g σ8 45 8 = p) ∧ (0 ≤ t ∧ t + c ≤ w) ∧ (0 ≤ w ∧ w ≤ 3000) ∧ (0 ≤ s ∧ s ≤ w) ∧ (0 ≤ sg_g σ8 45 20 ∧ sg_g σ8 45 20 + 3 * c ≤ 3 * w) ∧ 0 ≤ c
/-- what stays -/
def nU (σ8 σ' : sg_S) (ρ ρ' : eV) (t nl dix : Int) (L : List Int) : Prop := cEx σ8 σ' ∧ (∀ i, i < t → sg_g σ' 48 i = sg_g σ8 48 i) ∧ (∀ b, vb b → rlC σ A D σ8 ρ b → rlC σ A D σ' ρ' b) ∧ (∀ x, nl ≤ x → x ∉ L → sg_g σ' 56 x = sg_g σ8 56 x ∧ sg_g σ' 57 x = sg_g σ8 57 x ∧ sg_g σ' 58 x = sg_g σ8 58 x ∧ sg_g σ' 59 x = sg_g σ8 59 x ∧ sg_g σ' 60 x = sg_g σ8 60 x) ∧ ∀ q, dix ≤ q → sg_g σ' 47 q = sg_g σ8 47 q
/-- what an operation is to be followed by -/
def oC (X : sg_S → Prop) (m : Nat) (σ8 : sg_S) (ρ : eV) (t w s c p nl dix : Int) (d : Nat) : (Int × Int) ⊕ (vaF × Int) → Prop
  | .inl (e, w') => ∀ σ', sg_F nRL σ σ' → sg_g σ' 45 10 = e → ¬ e = 0 → sg_g σ' 45 22 = w' → X σ'
  | .inr (v, w') => ∀ σ' m', w ≤ w' → nP σ σ' (t + 1) w' s c p → nU σ A D vb σ8 σ' ρ ρ t nl dix [] → cvF σ' d v (sg_g σ' 48 t) → m' + 1 = m → Rn σ X m' σ'
end NMK
section NMS
variable {σ : sg_S} {A : aT} {D : List aDf} {vb : Int → Prop} {X : sg_S → Prop}
theorem nU_r {σ8 : sg_S} {ρ : eV} {t nl dix : Int} {L : List Int} : nU σ A D vb σ8 σ8 ρ ρ t nl dix L := ⟨cEx_r _, fun _ _ => rfl, fun _ _ h => h, fun _ _ _ => ⟨rfl, rfl, rfl, rfl, rfl⟩, fun _ _ => rfl⟩
theorem nU_t {σ8 σ1 σ2 : sg_S} {ρ ρ1 ρ2 : eV} {t t1 t2 nl dix : Int} {L L1 L2 : List Int} (h : nU σ A D vb σ8 σ1 ρ ρ1 t1 nl dix L1) (g : nU σ A D vb σ1 σ2 ρ1 ρ2 t2 nl dix L2) (ht : t ≤ t1 ∧ t ≤ t2) (h1 : ∀ x ∈ L1, x ∈ L) (h2 : ∀ x ∈ L2, x ∈ L) : nU σ A D vb σ8 σ2 ρ ρ2 t nl dix L := by
  obtain ⟨a1, a2, a3, a4, a5⟩ := h
  obtain ⟨c1, c2, c3, c4, c5⟩ := g
  refine ⟨cEx_t a1 c1, fun i hi => by rw [c2 i (by omega), a2 i (by omega)], fun b hb hr => c3 b hb (a3 b hb hr), fun x q r => ?_, fun q hq => by rw [c5 q hq, a5 q hq]⟩
  obtain ⟨e1, e2, e3, e4, e5⟩ := c4 x q (fun z => r (h2 x z))
  obtain ⟨e6, e7, e8, e9, e10⟩ := a4 x q (fun z => r (h1 x z))
  exact ⟨e1.trans e6, e2.trans e7, e3.trans e8, e4.trans e9, e5.trans e10⟩
theorem nU_w {σ8 σ1 : sg_S} {ρ ρ1 : eV} {t t1 nl nl1 dix dix1 : Int} {L L1 : List Int} (h : nU σ A D vb σ8 σ1 ρ ρ1 t1 nl1 dix1 L1) (hl : nl1 ≤ nl ∧ dix1 ≤ dix) (ht : t ≤ t1) (h1 : ∀ x ∈ L1, nl ≤ x → x ∈ L) : nU σ A D vb σ8 σ1 ρ ρ1 t nl dix L := by
  obtain ⟨c1, c2, c3, c4, c5⟩ := h
  exact ⟨c1, fun i hi => c2 i (by omega), c3, fun x q r => c4 x (by omega) (fun z => r (h1 x z q)), fun q hq => c5 q (by omega)⟩
theorem rl_F {K : List Nat} {σ8 σ1 : sg_S} {ρ : eV} {b : Int} (h : rlC σ A D σ8 ρ b) (f : sg_F K σ8 σ1) (hK : (!sg_cv K 45 20 && sg_ca K 53 && sg_ca K 46) = true) : rlC σ A D σ1 ρ b := by
  simp only [Bool.and_eq_true, Bool.not_eq_true'] at hK
  obtain ⟨⟨k1, k2⟩, k3⟩ := hK
  unfold rlC
  rw [sg_F_ga f k3]
  exact cvF_F h f (by rw [k1, k2]; rfl)
theorem rl_X {σ8 σ1 : sg_S} {ρ : eV} {b : Int} (h : rlC σ A D σ8 ρ b) (x : cEx σ8 σ1) (h46 : sg_g σ1 46 (slF σ b) = sg_g σ8 46 (slF σ b)) : rlC σ A D σ1 ρ b := by
  unfold rlC
  rw [h46]
  exact cvF_up x h
theorem nU_F {K : List Nat} {σ8 σ1 : sg_S} {ρ : eV} {t nl dix : Int} {L : List Int} (f : sg_F K σ8 σ1) (hK : (!sg_cv K 45 20 && sg_ca K 53 && sg_ca K 46 && sg_ca K 47 && sg_ca K 48 && sg_ca K 56 && sg_ca K 57 && sg_ca K 58 && sg_ca K 59 && sg_ca K 60) = true) : nU σ A D vb σ8 σ1 ρ ρ t nl dix L := by
  simp only [Bool.and_eq_true, Bool.not_eq_true'] at hK
  obtain ⟨⟨⟨⟨⟨⟨⟨⟨⟨k1, k2⟩, k3⟩, k4⟩, k5⟩, k6⟩, k7⟩, k8⟩, k9⟩, k10⟩ := hK
  exact ⟨cEx_F f (by rw [k1, k2]; rfl), fun i _ => sg_F_ga f k5, fun b _ h => rl_F h f (by rw [k1, k2, k3]; rfl), fun x _ _ => ⟨sg_F_ga f k6, sg_F_ga f k7, sg_F_ga f k8, sg_F_ga f k9, sg_F_ga f k10⟩, fun q _ => sg_F_ga f k4⟩
theorem scP_u {σ8 σ1 : sg_S} {ρ ρ1 : eV} {t nl dix : Int} {L : List Int} {sc : List (Int × Int)} (h : scP σ A D vb σ8 ρ sc) (u : nU σ A D vb σ8 σ1 ρ ρ1 t nl dix L) : scP σ A D vb σ1 ρ1 sc := fun p hp => by
  obtain ⟨a1, a2, a3⟩ := h p hp
  exact ⟨a1, a2, u.2.2.1 p.1 a1 a3⟩
theorem nP_32 {σ8 σ32 : sg_S} {t w s c p : Int} (h : nP σ σ8 t w s c p) (hp : p < 1013 ∧ 0 ≤ p) (e : σ32 = sg_w σ8 45 8 (p + 1)) : nP σ σ32 t w s c (p + 1) ∧ sg_F [9045] σ8 σ32 := by
  have f : sg_F [9045] σ8 σ32 := by rw [e]; exact sg_F_w (sg_F_r _ _) rfl _
  obtain ⟨a1, ⟨a2, a3⟩, ⟨a4, a5, a6, a7⟩, a8, a9, a10, a11, a12⟩ := h
  refine ⟨⟨sg_F_t a1 (sg_F_m f rfl), ⟨by rw [sg_F_g f (by rfl)]; exact a2, by rw [sg_F_g f (by rfl)]; exact a3⟩, ⟨by rw [sg_F_g f (by rfl)]; exact a4, by rw [sg_F_g f (by rfl)]; exact a5, by rw [sg_F_g f (by rfl)]; exact a6, ?_⟩, a8, a9, a10, by rw [sg_F_g f (by rfl)]; exact a11, a12⟩, f⟩
  rw [e, sg_gw_e _ _ _ _ ⟨by omega, by omega⟩]
theorem nP_O {σ8 : sg_S} {t w s c p : Int} (h : nP σ σ8 t w s c p) (hc : 1 ≤ c) : nO σ8 t w := by
  obtain ⟨a1, ⟨a2, a3⟩, ⟨a4, a5, a6, a7⟩, a8, a9, a10, a11, a12⟩ := h
  exact ⟨a2, a4, a5, ⟨a8.1, by omega⟩, a9, a11.1, by omega⟩
theorem nP_m {σ8 : sg_S} {t w s c c' p : Int} (h : nP σ σ8 t w s c p) (hc : 0 ≤ c' ∧ c' ≤ c) : nP σ σ8 t w s c' p := by
  obtain ⟨a1, a2, a3, a8, a9, a10, a11, a12⟩ := h
  exact ⟨a1, a2, a3, ⟨a8.1, by omega⟩, a9, a10, ⟨a11.1, by omega⟩, hc.1⟩
section NZS
variable {σ8 : sg_S} {m : Nat} {ρ : eV} {t w s c p n nl dix : Int} {C : List (Int × Int)}
theorem m_pos {cr : Int} (h : nP σ σ8 t w s c p) (hm : 8 * (3001 - w) + cr ≤ m) (hcr : 0 ≤ cr) : ∃ m', m = m' + 1 := ⟨m - 1, by have := h.2.2.2.2.1; omega⟩
/-- BEGIN -/
theorem zn_begin (h : nP σ σ8 t w s c p) (hm : 1 ≤ m) (hp : pl σ p ((0, n) :: C)) (kF : ¬ w + 1 ≤ 3000 → ∀ σ', sg_F nRL σ σ' → sg_g σ' 45 10 = 7 → sg_g σ' 45 22 = w → X σ') (kS : w + 1 ≤ 3000 → ∀ σ' m', nP σ σ' t (w + 1) (s + 1) (c + 1) (p + 1) → sg_F [9045, 11045, 23045, 24045] σ8 σ' → m' + 1 = m → Rn σ X m' σ') : Rn σ X m σ8 := by
  obtain ⟨m, rfl⟩ : ∃ m', m = m' + 1 := ⟨m - 1, by omega⟩
  obtain ⟨p0, p1, p2, p3⟩ := pl_c hp
  refine rn_0 (p := p) (k := n) h.2.2.1.2.2.2 p0 h.2.1.1 p1 p2 (fun σ32 e32 => ?_)
  obtain ⟨h32, f32⟩ := nP_32 h ⟨p0.2, p0.1⟩ e32
  obtain ⟨a1, ⟨a2, a3⟩, ⟨a4, a5, a6, a7⟩, a8, a9, a10, a11, a12⟩ := h32
  unfold V_nBegin V_nSpend
  rw [a5, a6]
  refine ⟨⟨by omega, by omega⟩, fun z σ3 e3 _ f3 => ⟨fun q => absurd q (by decide), fun _ => ⟨⟨by omega, by omega⟩, fun σ9 e9 f9 => ?_⟩⟩, fun z σ6 e6 _ f6 => ⟨fun _ f45 => ?_, fun q => absurd rfl q⟩⟩
  · have g9 : sg_F [23045, 24045] σ32 σ9 := by rw [e9, e3]; exact sg_F_w (sg_F_w (sg_F_r _ _) rfl _) rfl _
    refine kS z σ9 m ⟨sg_F_t a1 (sg_F_m g9 rfl), ⟨by rw [sg_F_g g9 (by rfl)]; exact a2, by rw [sg_F_g g9 (by rfl)]; exact a3⟩, ⟨by rw [sg_F_g g9 (by rfl)]; exact a4, ?_, ?_, by rw [sg_F_g g9 (by rfl)]; exact a7⟩, ⟨a8.1, by omega⟩, ⟨by omega, z⟩, ⟨by omega, by omega⟩, by rw [sg_F_g g9 (by rfl)]; exact ⟨a11.1, by omega⟩, by omega⟩ (sg_F_t (sg_F_m f32 rfl) (sg_F_m g9 rfl)) rfl
    · rw [e9, sg_gw_k _ _ _ _ _ _ (by decide), e3, sg_gw_e _ _ _ _ ⟨by omega, by omega⟩]
    · rw [e9, sg_gw_e _ _ _ _ ⟨by omega, by omega⟩]
  · have g6 : sg_F [11045] σ32 σ6 := by rw [e6]; exact sg_F_w (sg_F_r _ _) rfl _
    have e7 : sg_g σ6 45 10 = 7 := by rw [e6, sg_gw_e _ _ _ _ (by decide)]
    exact rn_s (by rw [e7]; decide) (kF (by omega) σ6 (sg_F_t a1 (sg_F_m g6 rfl)) e7 (by rw [sg_F_g g6 (by rfl)]; exact a5))
/-- what comes of an operation -/
theorem zn_fin {σ32 σ' : sg_S} {d : Nat} {a : Int} {r : Int ⊕ (vaF × Int)} (h : nP σ σ8 (t + a) w s (c + 1) p) (h0 : 0 ≤ t ∧ 0 ≤ a) (h32 : nP σ σ32 (t + a) w s (c + 1) (p + 1)) (f32 : sg_F [9045] σ8 σ32) (f' : sg_F nfL σ32 σ') (hr : cR σ32 σ' d t w (pyF r w)) (hc : 0 ≤ c) (k : oC σ A D vb X (m + 1) σ8 ρ t w s c (p + 1) nl dix d (pyF r w)) : Rn σ X m σ' := by
  obtain ⟨a1, ⟨a2, a3⟩, ⟨a4, a5, a6, a7⟩, a8, a9, a10, a11, a12⟩ := h32
  generalize pyF r w = q at hr k
  match q, hr, k with
  | .inl (e, w'), hr, k =>
    obtain ⟨z1, z2, z3⟩ := hr
    exact rn_s (by rw [z1]; exact z2) (k σ' (sg_F_t a1 (sg_F_m f' rfl)) z1 z2 z3)
  | .inr (v, w'), hr, k =>
    obtain ⟨z1, z2, z3, z4, z5, z6, z7, z8, z9⟩ := hr
    refine k σ' m z3.1 ⟨sg_F_t a1 (sg_F_m f' rfl), ⟨z1, z5⟩, ⟨z4, z2, by rw [sg_F_g f' (by rfl)]; exact a6, by rw [sg_F_g f' (by rfl)]; exact a7⟩, ⟨by omega, by omega⟩, ⟨by omega, z3.2⟩, ⟨a10.1, by omega⟩, ⟨by have := z6.1; omega, by omega⟩, hc⟩ ⟨cEx_t (cEx_F f32 rfl) z6, fun i hi => by rw [z9 i hi, sg_F_ga f32 rfl], fun b _ hb => rl_X (rl_F hb f32 rfl) z6 (sg_F_ga f' rfl), fun x _ _ => ?_, fun q _ => by rw [sg_F_ga f' rfl, sg_F_ga f32 rfl]⟩ z8 rfl
    exact ⟨by rw [sg_F_ga f' rfl, sg_F_ga f32 rfl], by rw [sg_F_ga f' rfl, sg_F_ga f32 rfl], by rw [sg_F_ga f' rfl, sg_F_ga f32 rfl], by rw [sg_F_ga f' rfl, sg_F_ga f32 rfl], by rw [sg_F_ga f' rfl, sg_F_ga f32 rfl]⟩
theorem zn_one {k ta x : Int} {v : vaF} (h : nP σ σ8 (t + 1) w s (c + 1) p) (hc : 0 ≤ c) (t0 : 0 ≤ t) (hm : 1 ≤ m) (hp : pl σ p ((2, n) :: C)) (hn : 0 ≤ n ∧ n < 200) (h3 : sg_g σ 3 n = kmp k) (h6 : sg_g σ 6 n ≤ 3) (hta : 0 ≤ ta ∧ ta ≤ 3) (hv : cvF σ8 ta.toNat v (sg_g σ8 48 t)) (ho : op1 k ta (sg_g σ 6 n)) (kk : oC σ A D vb X m σ8 ρ t w s c (p + 1) nl dix (sg_g σ 6 n).toNat (pyF (eO k (sg_g σ 6 n) x [v]) w)) : Rn σ X m σ8 := by
  obtain ⟨m, rfl⟩ : ∃ m', m = m' + 1 := ⟨m - 1, by omega⟩
  obtain ⟨p0, p1, p2, p3⟩ := pl_c hp
  refine rn_2 (p := p) (k := n) h.2.2.1.2.2.2 p0 h.2.1.1 p1 p2 (fun σ32 e32 => ?_)
  obtain ⟨h32, f32⟩ := nP_32 h ⟨p0.2, p0.1⟩ e32
  refine nf_one (k := k) (ta := ta) (ty := sg_g σ 6 n) (x := x) (v := v) hn (nP_O h32 (by omega)) t0 h32.2.1.2 (by rw [sg_F_ga h32.1 rfl]; exact h3) (sg_F_ga h32.1 rfl) h6 hta (by rw [sg_F_ga f32 rfl]; exact cvF_F hv f32 rfl) ho (fun σ' f' r' _ => ?_)
  exact zn_fin (a := 1) h ⟨t0, by omega⟩ h32 f32 f' r' hc kk
theorem zn_two {k ta tb x : Int} {u v : vaF} (h : nP σ σ8 (t + 2) w s (c + 1) p) (hc : 0 ≤ c) (t0 : 0 ≤ t) (hm : 1 ≤ m) (hp : pl σ p ((3, n) :: C)) (hn : 0 ≤ n ∧ n < 200) (h3 : sg_g σ 3 n = kmp k) (h6 : sg_g σ 6 n ≤ 3) (hta : 0 ≤ ta ∧ ta ≤ 3) (hv : cvF σ8 ta.toNat v (sg_g σ8 48 t)) (hu : cvF σ8 tb.toNat u (sg_g σ8 48 (t + 1))) (ho : op2 k ta tb (sg_g σ 6 n)) (kk : oC σ A D vb X m σ8 ρ t w s c (p + 1) nl dix (sg_g σ 6 n).toNat (pyF (eO k (sg_g σ 6 n) x [v, u]) w)) : Rn σ X m σ8 := by
  obtain ⟨m, rfl⟩ : ∃ m', m = m' + 1 := ⟨m - 1, by omega⟩
  obtain ⟨p0, p1, p2, p3⟩ := pl_c hp
  refine rn_3 (p := p) (k := n) h.2.2.1.2.2.2 p0 h.2.1.1 p1 p2 (fun σ32 e32 => ?_)
  obtain ⟨h32, f32⟩ := nP_32 h ⟨p0.2, p0.1⟩ e32
  refine nf_two (k := k) (ta := ta) (tb := tb) (ty := sg_g σ 6 n) (x := x) (v := v) (u := u) hn (nP_O h32 (by omega)) t0 h32.2.1.2 (by rw [sg_F_ga h32.1 rfl]; exact h3) (sg_F_ga h32.1 rfl) h6 hta (by rw [sg_F_ga f32 rfl]; exact cvF_F hv f32 rfl) (by rw [sg_F_ga f32 rfl]; exact cvF_F hu f32 rfl) ho (fun σ' f' r' _ => ?_)
  exact zn_fin (a := 2) h ⟨t0, by omega⟩ h32 f32 f' r' hc kk
theorem zn_num {x : Int} (h : nP σ σ8 t w s (c + 1) p) (hc : 0 ≤ c) (t0 : 0 ≤ t) (hm : 1 ≤ m) (hp : pl σ p ((1, n) :: C)) (hn : 0 ≤ n ∧ n < 200) (h3 : sg_g σ 3 n = 257) (h5 : sg_g σ 5 n = x) (kk : oC σ A D vb X m σ8 ρ t w s c (p + 1) nl dix 0 (pyF (.inr (nmF x, 0)) w)) : Rn σ X m σ8 := by
  obtain ⟨m, rfl⟩ : ∃ m', m = m' + 1 := ⟨m - 1, by omega⟩
  obtain ⟨p0, p1, p2, p3⟩ := pl_c hp
  refine rn_1 (p := p) (k := n) h.2.2.1.2.2.2 p0 h.2.1.1 p1 p2 (fun σ32 e32 => ?_)
  obtain ⟨h32, f32⟩ := nP_32 h ⟨p0.2, p0.1⟩ e32
  refine nf_num (x := x) (t := t) (w := w) hn (nP_O h32 (by omega)) h32.2.1.2 (by rw [sg_F_ga h32.1 rfl]; exact h3) (by rw [sg_F_ga h32.1 rfl]; exact h5) (fun σ' f' r' _ => ?_)
  exact zn_fin (a := 0) (t := t) (by rw [Int.add_zero]; exact h) ⟨t0, Int.le_refl _⟩ (by rw [Int.add_zero]; exact h32) f32 f' r' hc kk
theorem zn_name {sl : Int} {d : Nat} {v : vaF} (h : nP σ σ8 t w s (c + 1) p) (hc : 0 ≤ c) (t0 : 0 ≤ t) (hm : 1 ≤ m) (hp : pl σ p ((1, n) :: C)) (hn : 0 ≤ n ∧ n < 200) (h3 : sg_g σ 3 n = 258) (h16 : sg_g σ 16 n = sl) (hs : 0 ≤ sl ∧ sl < 272) (hv : cvF σ8 d v (sg_g σ8 46 sl)) (kk : oC σ A D vb X m σ8 ρ t w s c (p + 1) nl dix d (pyF (.inr (v, 0)) w)) : Rn σ X m σ8 := by
  obtain ⟨m, rfl⟩ : ∃ m', m = m' + 1 := ⟨m - 1, by omega⟩
  obtain ⟨p0, p1, p2, p3⟩ := pl_c hp
  refine rn_1 (p := p) (k := n) h.2.2.1.2.2.2 p0 h.2.1.1 p1 p2 (fun σ32 e32 => ?_)
  obtain ⟨h32, f32⟩ := nP_32 h ⟨p0.2, p0.1⟩ e32
  refine nf_name (s := sl) (d := d) (v := v) (t := t) (w := w) hn (nP_O h32 (by omega)) h32.2.1.2 (by rw [sg_F_ga h32.1 rfl]; exact h3) (by rw [sg_F_ga h32.1 rfl]; exact h16) hs (by rw [sg_F_ga f32 rfl]; exact cvF_F hv f32 rfl) (fun σ' f' r' _ => ?_)
  exact zn_fin (a := 0) (t := t) (by rw [Int.add_zero]; exact h) ⟨t0, Int.le_refl _⟩ (by rw [Int.add_zero]; exact h32) f32 f' r' hc kk
theorem zn_row {a : Int} {d : Nat} {M : List vaF} (h : nP σ σ8 (t + a) w s (c + 1) p) (hc : 0 ≤ c) (t0 : 0 ≤ t) (hm : 1 ≤ m) (hp : pl σ p ((1, n) :: C)) (hn : 0 ≤ n ∧ n < 200) (h3 : sg_g σ 3 n = 279) (h10 : sg_g σ 10 n = a) (h6 : sg_g σ 6 n = (d + 1 : Nat)) (hd : d ≤ 2) (hM : (M.length : Int) = a) (hl : M.length ≤ 200) (hv : ∀ (i : Nat) (z : vaF), M[i]? = some z → cvF σ8 d z (sg_g σ8 48 (t + i))) (kk : oC σ A D vb X m σ8 ρ t w s c (p + 1) nl dix (d + 1) (pyF (.inr (mkF M, cnL d M)) w)) : Rn σ X m σ8 := by
  obtain ⟨m, rfl⟩ : ∃ m', m = m' + 1 := ⟨m - 1, by omega⟩
  obtain ⟨p0, p1, p2, p3⟩ := pl_c hp
  refine rn_1 (p := p) (k := n) h.2.2.1.2.2.2 p0 h.2.1.1 p1 p2 (fun σ32 e32 => ?_)
  obtain ⟨h32, f32⟩ := nP_32 h ⟨p0.2, p0.1⟩ e32
  refine nf_row (a := a) (d := d) (M := M) (t := t) (w := w) hn (nP_O h32 (by omega)) t0 h32.2.1.2 (by rw [sg_F_ga h32.1 rfl]; exact h3) (by rw [sg_F_ga h32.1 rfl]; exact h10) (by rw [sg_F_ga h32.1 rfl]; exact h6) hd hM hl (fun i z hz => by rw [sg_F_ga f32 rfl]; exact cvF_F (hv i z hz) f32 rfl) (fun σ' f' r' _ => ?_)
  exact zn_fin (a := a) (t := t) h ⟨t0, by omega⟩ h32 f32 f' r' hc kk
end NZS
end NMS
