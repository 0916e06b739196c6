/-! BIG STEPS of the nested run: calls. -/
section NCL
variable {σ : sg_S} {Q : sg_S → Prop}
theorem n_enter {q p fs t pc E : Int} (hq : 0 ≤ q ∧ q < 12) (h23 : sg_g σ 23 q = p) (hp : 0 ≤ p ∧ p ≤ 6) (h24 : sg_g σ 24 q = fs) (hfs : 0 ≤ fs ∧ fs + p ≤ 272) (ht : sg_g σ 45 7 = t + p) (h0 : 0 ≤ t ∧ t + p ≤ 3200) (hpc : sg_g σ 45 8 = pc) (hE : sg_g σ 31 q = E) (k : ∀ σ', sg_F [46, 47, 8045, 9045] σ σ' → sg_g σ' 45 7 = t → sg_g σ' 45 8 = E → sg_g σ' 47 q = pc → (∀ i, ¬ i = q → sg_g σ' 47 i = sg_g σ 47 i) → (∀ i : Nat, (i : Int) < p → sg_g σ' 46 (fs + i) = sg_g σ 48 (t + i)) → (∀ s, ¬ (fs ≤ s ∧ s < fs + p) → sg_g σ' 46 s = sg_g σ 46 s) → Q σ') : V_mnEnter σ q Q := by
  unfold V_mnEnter
  rw [xa_in (a := 23) hq, xa_in (a := 24) hq, xa_in (a := 31) ⟨by omega, by omega⟩, h23, h24, ht, hpc, hE, show t + p - p = t by omega]
  refine ⟨fun m v σ2 => ∃ j : Nat, v = j ∧ (j : Int) ≤ p ∧ m = 6 - j ∧ (∀ i : Nat, i < j → sg_g σ2 46 (fs + i) = sg_g σ 48 (t + i)) ∧ (∀ s, ¬ (fs ≤ s ∧ s < fs + j) → sg_g σ2 46 s = sg_g σ 46 s), fun σ2 => (∀ i : Nat, (i : Int) < p → sg_g σ2 46 (fs + i) = sg_g σ 48 (t + i)) ∧ (∀ s, ¬ (fs ≤ s ∧ s < fs + p) → sg_g σ2 46 s = sg_g σ 46 s), ⟨_, 0, rfl, by omega, rfl, fun i hi => by omega, fun s _ => rfl⟩, ?_, ?_⟩
  · rintro m v σ2 rv f2 ⟨j, rfl, hj, hm', q1, q2⟩
    refine ⟨fun z => ⟨fun i hi => q1 i (by omega), fun s hs => q2 s (by omega)⟩, fun z => ⟨fun y => ⟨fun i hi => q1 i (by omega), fun s hs => q2 s (by omega)⟩, fun y => ⟨⟨by omega, by omega⟩, ⟨by omega, by omega⟩, ⟨by omega, by omega⟩, fun σ31 e31 => ?_⟩⟩⟩
    rw [xa_in ⟨by omega, by omega⟩, xp_in ⟨by omega, by omega⟩] at e31
    refine ⟨⟨by omega, by omega⟩, 6 - (j + 1), by omega, j + 1, by omega, by omega, rfl, fun i hi => ?_, fun s hs => ?_⟩
    · rw [e31]
      by_cases e : i = j
      · subst e; rw [sg_gw_e _ _ _ _ (sg_Rg _ _ _)]
      · rw [sg_gw_k _ _ _ _ _ _ (by omega)]; exact q1 i (by omega)
    · rw [e31, sg_gw_k _ _ _ _ _ _ (by omega)]; exact q2 s (by omega)
  · rintro σ2 f2 ⟨q1, q2⟩
    refine ⟨⟨by omega, by omega⟩, fun σ17 e17 σ20 e20 σ23 e23 => ?_⟩
    rw [xp_in ⟨by omega, by omega⟩] at e20
    have f17 : sg_F [8045] σ2 σ17 := by rw [e17]; exact sg_F_w (sg_F_r _ _) rfl _
    have f20 : sg_F [47] σ17 σ20 := by rw [e20]; exact sg_F_w (sg_F_r _ _) rfl _
    have f23 : sg_F [9045] σ20 σ23 := by rw [e23]; exact sg_F_w (sg_F_r _ _) rfl _
    have rE : sg_R E := by rw [← hE]; exact sg_Rg _ _ _
    have rp : sg_R pc := by rw [← hpc]; exact sg_Rg _ _ _
    refine k σ23 (sg_F_t (sg_F_t (sg_F_t (sg_F_m f2 rfl) (sg_F_m f17 rfl)) (sg_F_m f20 rfl)) (sg_F_m f23 rfl)) ?_ ?_ ?_ (fun i hi => ?_) (fun i hi => ?_) (fun s hs => ?_)
    · rw [sg_F_g f23 (by rfl), sg_F_g f20 (by rfl), e17, sg_gw_e _ _ _ _ ⟨by omega, by omega⟩]
    · rw [e23, sg_gw_e _ _ _ _ rE]
    · rw [sg_F_ga f23 rfl, e20, sg_gw_e _ _ _ _ rp]
    · rw [sg_F_ga f23 rfl, e20, sg_gw_k _ _ _ _ _ _ hi, sg_F_ga f17 rfl, sg_F_ga f2 rfl]
    · rw [sg_F_ga f23 rfl, sg_F_ga f20 rfl, sg_F_ga f17 rfl]; exact q1 i hi
    · rw [sg_F_ga f23 rfl, sg_F_ga f20 rfl, sg_F_ga f17 rfl]; exact q2 s hs
end NCL
section NCM
variable (σ : sg_S) (A : aT) (D : List aDf) (vb : Int → Prop) (X : sg_S → Prop) (call : Int → eV → Int → eR)
/-- a call of DEF q, once it is entered -/
def cLn (q : Int) : Prop := ∀ (σ8 : sg_S) (m : Nat) (ρ : eV) (t w s c cr r : Int), nP σ σ8 t w s c (sg_g σ 31 q) → sg_g σ8 47 q = r → (∀ j : Nat, (j : Int) < sg_g σ 23 q → rlC σ A D σ8 ρ (1100 + 6 * q + j)) → 8 * (3001 - w) + cr ≤ (m : Int) → 0 ≤ cr → kN σ A D vb X σ8 ρ t s c r (cr - 1) (nxq σ q) q [] (sg_g σ 6 (sg_g σ 22 q)).toNat (call q ρ w) → Rn σ X m σ8
/-- the DEFS before -/
def dDn (nl dix : Int) : Prop := ∀ q, 0 ≤ q → q < dix → q < 12 ∧ cLn σ A D vb X call q ∧ nxq σ q ≤ nl ∧ (0 ≤ sg_g σ 23 q ∧ sg_g σ 23 q ≤ 6) ∧ (0 ≤ sg_g σ 24 q ∧ sg_g σ 24 q + sg_g σ 23 q ≤ 272) ∧ ∃ y, D[q.toNat]? = some y ∧ (y.2.2.1.length : Int) = sg_g σ 23 q ∧ y.2.2.2 = sg_g σ 22 q
end NCM
section NCN
variable {σ : sg_S} {A : aT} {D : List aDf} {vb : Int → Prop} {X : sg_S → Prop} {B : Int → Int} {call : Int → eV → Int → eR} {ds : kD} {nl dix : Int} {f : Nat}
/-- what is bound at once, from binder b on -/
theorem rl_us {σ8 σ1 : sg_S} {ρ : eV} {b fs : Int} {vs : List vaF} (hSl : slA σ vb) (hv : ∀ j : Nat, j < vs.length → vb (b + j) ∧ slF σ (b + j) = fs + j) (ex : cEx σ8 σ1) (hi : ∀ (j : Nat) (v : vaF), vs[j]? = some v → cvF σ1 (bTy A D (sg_g σ 6) (b + j)).toNat v (sg_g σ1 46 (fs + j))) (ho : ∀ x, ¬ (fs ≤ x ∧ x < fs + vs.length) → sg_g σ1 46 x = sg_g σ8 46 x) : (∀ j : Nat, j < vs.length → rlC σ A D σ1 (eUs ρ b 0 vs) (b + j)) ∧ ∀ x, vb x → rlC σ A D σ8 ρ x → rlC σ A D σ1 (eUs ρ b 0 vs) x := by
  have h1 : ∀ j : Nat, j < vs.length → rlC σ A D σ1 (eUs ρ b 0 vs) (b + j) := fun j hj => by
    obtain ⟨v, hv'⟩ := gE_x hj
    have := eUs_at (b := b) (ρ := ρ) (i := 0) hv'
    simp only [Int.ofNat_zero, Int.cast_ofNat_Int, Int.add_zero] at this
    unfold rlC
    rw [this, (hv j hj).2]
    exact hi j v hv'
  refine ⟨h1, fun x hx hr => ?_⟩
  by_cases c : b ≤ x ∧ x < b + vs.length
  · have := h1 (x - b).toNat (by omega)
    rw [show b + (((x - b).toNat : Nat) : Int) = x by omega] at this
    exact this
  · have e : eUs ρ b 0 vs x = ρ x := eUs_no (ρ := ρ) (i := 0) (by simp only [Int.ofNat_zero, Int.cast_ofNat_Int, Int.add_zero]; omega)
    unfold rlC
    rw [e, ho _ (fun z => ?_)]
    · exact cvF_up ex hr
    · have hj : (slF σ x - fs).toNat < vs.length := by omega
      obtain ⟨q1, q2⟩ := hv _ hj
      have := hSl.2 x _ hx q1 (by rw [q2]; omega)
      omega
theorem nN_call (hD : dDn σ A D vb X call nl dix) (hW : ckW σ A) (hSl : slA σ vb) (hVb : ∀ b, vbF A D b → vb b) (F : nN σ A D vb X B call ds nl dix f) {n : Int} {L1 : List Int} {sc : List (Int × Int)} {p : Int} (hk : A.2.1 n = 13) (hf : fT A (A.2.2.2.2.1 n) L1) (hN : L1.Nodup) (hL : ∀ x ∈ n :: L1, nl ≤ x ∧ lyQ σ A D B dix x) (hty : tyN A ds (sg_g σ 6) B (f + 1) sc n) (hp : pl σ p (cd A (f + 1) n)) (hj : jpN σ A (f + 1) n p) {σ8 : sg_S} {m : Nat} {ρ : eV} {t w s c cr : Int} (h8 : nP σ σ8 t w s c p) (hS : scP σ A D vb σ8 ρ sc) (hm : 8 * (3001 - w) + cr ≤ (m : Int)) (hcr : 0 ≤ cr) (k : kN σ A D vb X σ8 ρ t s c (p + (cd A (f + 1) n).length) cr nl dix (n :: L1) (sg_g σ 6 n).toNat (evN A (sg_g σ 6) B call (f + 1) n ρ w)) : Rn σ X m σ8 := by
  obtain ⟨t1, t2, t3, t4, t5, t6, t7, t8, t9⟩ := hty
  obtain ⟨c1, c2⟩ := ck3 hW t2
  have n2 : ¬ A.2.1 n = 2 := by omega
  have n3 : ¬ A.2.1 n = 3 := by omega
  have n15 : ¬ A.2.1 n = 15 := by omega
  have ho : kOrd A n = A.2.2.2.2.1 n := by unfold kOrd; rw [if_neg n15]
  obtain ⟨l1, l2, l3, y, ly1, ly2, ly3⟩ := (hL n (by simp)).2.2.2 hk
  obtain ⟨d1, d2, d3, d4, d5, y', dy1, dy2, dy3⟩ := hD (B n) l2.1 l2.2
  rw [ly1] at dy1
  have ey := Option.some.inj dy1
  subst ey
  have hcn : cnc A n = [(5, n)] := by unfold cnc; rw [if_neg n2, if_neg n3, if_pos hk]
  simp only [cd] at hp k
  rw [ho, hcn] at hp k
  have hj1 := hj.1
  rw [ho] at hj1
  have p0 := pl_c hp
  obtain ⟨p1, p2⟩ := pl_a p0.2.2.2
  obtain ⟨a1, a2, a3, a8, a9, a10, a11, a12⟩ := id h8
  rw [eN_13 hk] at k
  refine zn_begin h8 (by omega) hp (fun z σ' f' e' w' => ?_) (fun z σ1 m1 h1 f1 hm1 => ?_)
  · rw [if_neg z] at k; exact k σ' f' e' (by decide) w'
  rw [if_pos z] at k
  have u1 : nU σ A D vb σ8 σ1 ρ ρ t nl dix (n :: L1) := nU_F f1 rfl
  refine nRow F (A.2.2.2.2.1 n) L1 0 (p + 1) hf hN (fun x hx => hL x (by simp [hx])) (t9 n2 n15) (fun j _ _ => (kQ_o n2 n3 n15).1) p1 hj1 σ1 m1 ρ t (w + 1) (s + 1) (c + 1) (cr + 7) h1 (scP_u hS u1) (by omega) (by omega) ?_
  generalize eS (evN A (sg_g σ 6) B call f) (A.2.2.2.2.1 n) ρ (w + 1) = r at k
  match r, k with
  | .inl (e, w'), k => exact fun σ' q1 q2 q3 q4 => k σ' q1 q2 q3 q4
  | .inr (vs, w1', s1, ρ1), k =>
    intro σ2 m2 lv h2 u2 v2 hm2
    simp only at k
    have u12 : nU σ A D vb σ8 σ2 ρ ρ1 t nl dix (n :: L1) := nU_t u1 u2 ⟨Int.le_refl _, Int.le_refl _⟩ (fun x hx => hx) (fun x hx => by simp [hx])
    have w29 := h2.2.2.2.2.1
    obtain ⟨m2, rfl⟩ : ∃ m', m2 = m' + 1 := ⟨m2 - 1, by omega⟩
    obtain ⟨q0, q1, q2, q3⟩ := pl_c p2
    refine rn_5 (p := p + 1 + (cdS A (cd A f) n 0 (A.2.2.2.2.1 n)).length) (k := n) h2.2.2.1.2.2.2 q0 h2.2.1.1 q1 q2 (fun σ32 e32 => ?_)
    obtain ⟨h32, f32⟩ := nP_32 h2 ⟨q0.2, q0.1⟩ e32
    obtain ⟨b1, ⟨b2, b3⟩, ⟨b4, b5, b6, b7⟩, b8, b9, b10, b11, b12⟩ := id h32
    rw [xa_in (a := 16) ⟨t2.1, c2⟩, l1]
    rw [l3] at b4 b8
    refine n_enter (q := B n) (p := sg_g σ 23 (B n)) (fs := sg_g σ 24 (B n)) (t := t) (pc := p + 1 + (cdS A (cd A f) n 0 (A.2.2.2.2.1 n)).length + 1) (E := sg_g σ 31 (B n)) ⟨l2.1, d1⟩ (sg_F_ga b1 rfl) d4 (sg_F_ga b1 rfl) d5 b4 ⟨a8.1, by omega⟩ b7 (sg_F_ga b1 rfl) (fun σ3 f3 z1 z2 z3 z4 z5 z6 _ => ?_)
    have F3 : sg_F [46, 47, 8045, 9045] σ2 σ3 := sg_F_t (sg_F_m f32 rfl) (sg_F_m f3 rfl)
    have ex : cEx σ2 σ3 := cEx_F F3 rfl
    have vl : (vs.length : Int) = sg_g σ 23 (B n) := by omega
    have pv : ∀ j : Nat, j < vs.length → vb (1100 + 6 * B n + j) ∧ slF σ (1100 + 6 * B n + j) = sg_g σ 24 (B n) + j := fun j hj => by
      refine ⟨hVb _ (Or.inr (Or.inr ⟨(B n).toNat, j, y, ly1, by omega, by omega⟩)), sl_par l2.1 (by omega)⟩
    have bt : ∀ (j : Nat) (x : Int), (A.2.2.2.2.1 n)[j]? = some x → bTy A D (sg_g σ 6) (1100 + 6 * B n + j) = sg_g σ 6 x := fun j x hx => by
      have hj := gE_l hx
      rw [bTw_p l2.1 (by omega), List.getD_eq_getElem?_getD (l := D), ly1, Option.getD_some, ← ly2, List.getD_eq_getElem?_getD, List.getElem?_map, hx]
      rfl
    obtain ⟨r1, r2⟩ := rl_us (A := A) (D := D) (ρ := ρ1) (b := 1100 + 6 * B n) (fs := sg_g σ 24 (B n)) (vs := vs) hSl pv ex (fun j v hv => by
      have hj := gE_l hv
      obtain ⟨x, hx⟩ := gE_x (l := A.2.2.2.2.1 n) (i := j) (by omega)
      rw [bt j x hx, z5 j (by omega), sg_F_ga f32 rfl]
      exact cvF_up ex (v2 j x v hx hv)) (fun x hx => by rw [z6 x (by rw [← vl]; exact hx), sg_F_ga f32 rfl])
    have u23 : nU σ A D vb σ2 σ3 ρ1 (eUs ρ1 (1100 + 6 * B n) 0 vs) t nl dix [] := ⟨ex, fun i _ => sg_F_ga F3 rfl, r2, fun x _ _ => ⟨sg_F_ga F3 rfl, sg_F_ga F3 rfl, sg_F_ga F3 rfl, sg_F_ga F3 rfl, sg_F_ga F3 rfl⟩, fun q hq => by rw [z4 q (by omega), sg_F_ga f32 rfl]⟩
    have u13 : nU σ A D vb σ8 σ3 ρ (eUs ρ1 (1100 + 6 * B n) 0 vs) t nl dix (n :: L1) := nU_t u12 u23 ⟨Int.le_refl _, Int.le_refl _⟩ (fun _ hx => hx) (by simp)
    refine d2 σ3 m2 (eUs ρ1 (1100 + 6 * B n) 0 vs) t w1' (s + 1 + s1) (c + 1) (cr + 6) _ ⟨sg_F_t b1 (sg_F_m f3 rfl), ⟨by rw [sg_F_g f3 (by rfl)]; exact b2, by rw [sg_F_g f3 (by rfl)]; exact b3⟩, ⟨z1, by rw [sg_F_g f3 (by rfl)]; exact b5, by rw [sg_F_g f3 (by rfl)]; exact b6, z2⟩, ⟨a8.1, by omega⟩, b9, b10, by rw [sg_F_g f3 (by rfl)]; exact b11, b12⟩ z3 (fun j hj => r1 j (by omega)) (by omega) (by omega) ?_
    generalize call (B n) (eUs ρ1 (1100 + 6 * B n) 0 vs) w1' = r2' at k
    match r2', k with
    | .inl (e, w'), k => exact fun σ' q1 q2 q3 q4 => k σ' q1 q2 q3 q4
    | .inr (v3, w2', s2, ρ2), k =>
      intro σ4 m4 h4 u4 v4 hm4
      simp only at k
      refine k σ4 m4 ?_ (nU_t u13 (nU_w (L := []) u4 ⟨d3, by omega⟩ (Int.le_refl _) (by simp)) ⟨Int.le_refl _, Int.le_refl _⟩ (fun _ hx => hx) (by simp)) (by rw [ly3, dy3]; exact v4) (by omega)
      simp only [List.length_cons, List.length_append, List.length_nil]
      rw [show p + (((cdS A (cd A f) n 0 (A.2.2.2.2.1 n)).length + (0 + 1) + 1 : Nat) : Int) = p + 1 + (cdS A (cd A f) n 0 (A.2.2.2.2.1 n)).length + 1 by omega, show s + (1 + s1 + s2) = s + 1 + s1 + s2 by omega]
      exact nP_m h4 ⟨a12, by omega⟩
end NCN
