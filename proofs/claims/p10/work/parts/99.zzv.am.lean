/-! BIG STEPS of the nested run: { }. -/
section NEC
variable {σ : sg_S} {A : aT} {D : List aDf} {vb : Int → Prop} {X : sg_S → Prop} {B : Int → Int} {call : Int → eV → Int → eR} {ds : kD} {nl dix : Int} {f : Nat}
theorem n_open {σ : sg_S} {Q : sg_S → Prop} {n t : Int} {g : Nat} {vs : List vaF} {xs : List Nat} (hn : 0 ≤ n ∧ n < 200) (h13 : sg_g σ 13 n = g) (hg : 1 ≤ g ∧ g ≤ 4) (ht : sg_g σ 45 7 = t + g) (t0 : 0 ≤ t ∧ t + g ≤ 3200) (hB : sg_g σ 45 20 ≤ 9003) (hvl : vs.length = g) (hv : ∀ (j : Nat) (v : vaF), vs[j]? = some v → ∃ d : Nat, cvF σ (d + 1) v (sg_g σ 48 (t + j))) (kF : vs.any (fun v => decide ((itF v).length ≠ (itF (vs.getD 0 (nmF 0))).length)) = true → ∀ σ', σ' = sg_w σ 45 10 3 → Q σ') (kS : ¬ vs.any (fun v => decide ((itF v).length ≠ (itF (vs.getD 0 (nmF 0))).length)) = true → ∀ σ', sg_F [56, 57, 58, 59, 60] σ σ' → sg_g σ' 56 n = t + g → sg_g σ' 57 n = 0 → sg_g σ' 58 n = (itF (vs.getD 0 (nmF 0))).length → sg_g σ' 59 n = sg_g σ 45 23 → sg_g σ' 60 n = 0 → (∀ x, ¬ x = n → sg_g σ' 56 x = sg_g σ 56 x ∧ sg_g σ' 57 x = sg_g σ 57 x ∧ sg_g σ' 58 x = sg_g σ 58 x ∧ sg_g σ' 59 x = sg_g σ 59 x ∧ sg_g σ' 60 x = sg_g σ 60 x) → V_nVisit σ' n (fun σ34 => sg_F [46, 9045, 24045] σ' σ34 → Q σ34)) : V_nOpen σ n Q := by
  obtain ⟨v0, hv0⟩ := gE_x (l := vs) (i := 0) (by omega)
  have e0 : vs.getD 0 (nmF 0) = v0 := by rw [List.getD_eq_getElem?_getD, hv0, Option.getD_some]
  have len : ∀ (j : Nat) (v : vaF), vs[j]? = some v → v_nLengthOf σ (sg_g σ 48 (t + j)) = (itF v).length ∧ (itF v).length ≤ 200 := fun j v hj => by
    obtain ⟨d, q⟩ := hv j v hj
    exact ⟨cv_len hB q, (cv_x q hB).2.2.1⟩
  have l0 := len 0 v0 hv0
  simp only [Int.ofNat_zero, Int.cast_ofNat_Int, Int.add_zero] at l0
  rw [e0] at kF kS
  have al : (∀ (j : Nat) (v : vaF), vs[j]? = some v → (itF v).length = (itF v0).length) → ¬ vs.any (fun v => decide ((itF v).length ≠ (itF v0).length)) = true := fun h z => by
    obtain ⟨v, hm, hd⟩ := List.any_eq_true.mp z
    obtain ⟨j, hj⟩ := List.getElem?_of_mem hm
    have := h j v hj
    simp at hd
    exact hd this
  unfold V_nOpen
  rw [xa_in (a := 13) hn, h13, ht, show t + (g : Int) - g = t by omega, xa_in (a := 48) (k := t) ⟨t0.1, by omega⟩, l0.1]
  refine ⟨⟨by omega, by omega⟩, fun m v3 σ4 => ∃ j : Nat, v3 = j ∧ m = 4 - j ∧ (1 ≤ j ∧ j ≤ g) ∧ σ4 = σ ∧ ∀ (j' : Nat) (v : vaF), j' < j → vs[j']? = some v → (itF v).length = (itF v0).length, fun σ4 => σ4 = σ ∧ ∀ (j' : Nat) (v : vaF), vs[j']? = some v → (itF v).length = (itF v0).length, ⟨_, 1, rfl, rfl, ⟨by omega, by omega⟩, rfl, fun j' v hj hv' => ?_⟩, ?_, ?_⟩
  · have : j' = 0 := by omega
    subst this
    rw [hv0] at hv'
    rw [Option.some.inj hv']
  · rintro m v3 σ4 r3 f4 ⟨j, rfl, em, hj, rfl, hh⟩
    have fin : (g : Int) ≤ j → σ4 = σ4 ∧ ∀ (j' : Nat) (v : vaF), vs[j']? = some v → (itF v).length = (itF v0).length := fun y => ⟨rfl, fun j' v hv' => hh j' v (by have := gE_l hv'; omega) hv'⟩
    refine ⟨fun y => fin y, fun y => ⟨fun y2 => fin (by omega), fun y2 => ⟨⟨by omega, by omega⟩, ?_⟩⟩⟩
    obtain ⟨v, hv'⟩ := gE_x (l := vs) (i := j) (by omega)
    rw [xa_in (a := 48) (k := t + j) ⟨by omega, by omega⟩, (len j v hv').1]
    refine ⟨fun z => ⟨⟨by omega, by omega⟩, 4 - (j + 1), by omega, j + 1, by omega, rfl, ⟨by omega, by omega⟩, rfl, fun j' v' hj' hv2 => ?_⟩, fun z σ46 e46 => kF ?_ σ46 e46⟩
    · by_cases c : j' = j
      · subst c; rw [hv'] at hv2; rw [← Option.some.inj hv2]; omega
      · exact hh j' v' (by omega) hv2
    · refine List.any_eq_true.mpr ⟨v, List.mem_of_getElem? hv', ?_⟩
      simp only [ne_eq, decide_eq_true_eq]
      omega
  · rintro σ4 f4 ⟨rfl, hh⟩ σ18 e18 σ21 e21 σ24 e24 σ27 e27 σ30 e30
    rw [xp_in hn] at e18 e21 e24 e27 e30
    have l200 := l0.2
    refine kS (al hh) σ30 ?_ ?_ ?_ ?_ ?_ ?_ (fun x hx => ⟨?_, ?_, ?_, ?_, ?_⟩)
    · rw [e30, e27, e24, e21, e18]; exact sg_F_w (sg_F_w (sg_F_w (sg_F_w (sg_F_w (sg_F_r _ _) rfl _) rfl _) rfl _) rfl _) rfl _
    · rw [e30, sg_gw_c _ _ _ _ _ _ (by decide), e27, sg_gw_c _ _ _ _ _ _ (by decide), e24, sg_gw_c _ _ _ _ _ _ (by decide), e21, sg_gw_c _ _ _ _ _ _ (by decide), e18, sg_gw_e _ _ _ _ ⟨by omega, by omega⟩]
    · rw [e30, sg_gw_c _ _ _ _ _ _ (by decide), e27, sg_gw_c _ _ _ _ _ _ (by decide), e24, sg_gw_e _ _ _ _ (by decide)]
    · rw [e30, sg_gw_c _ _ _ _ _ _ (by decide), e27, sg_gw_c _ _ _ _ _ _ (by decide), e24, sg_gw_c _ _ _ _ _ _ (by decide), e21, sg_gw_e _ _ _ _ ⟨by omega, by omega⟩]
    · rw [e30, sg_gw_c _ _ _ _ _ _ (by decide), e27, sg_gw_e _ _ _ _ (sg_Rg _ _ _)]
    · rw [e30, sg_gw_e _ _ _ _ (by decide)]
    · rw [e30, sg_gw_c _ _ _ _ _ _ (by decide), e27, sg_gw_c _ _ _ _ _ _ (by decide), e24, sg_gw_c _ _ _ _ _ _ (by decide), e21, sg_gw_c _ _ _ _ _ _ (by decide), e18, sg_gw_k _ _ _ _ _ _ hx]
    · rw [e30, sg_gw_c _ _ _ _ _ _ (by decide), e27, sg_gw_c _ _ _ _ _ _ (by decide), e24, sg_gw_k _ _ _ _ _ _ hx, e21, sg_gw_c _ _ _ _ _ _ (by decide), e18, sg_gw_c _ _ _ _ _ _ (by decide)]
    · rw [e30, sg_gw_c _ _ _ _ _ _ (by decide), e27, sg_gw_c _ _ _ _ _ _ (by decide), e24, sg_gw_c _ _ _ _ _ _ (by decide), e21, sg_gw_k _ _ _ _ _ _ hx, e18, sg_gw_c _ _ _ _ _ _ (by decide)]
    · rw [e30, sg_gw_c _ _ _ _ _ _ (by decide), e27, sg_gw_k _ _ _ _ _ _ hx, e24, sg_gw_c _ _ _ _ _ _ (by decide), e21, sg_gw_c _ _ _ _ _ _ (by decide), e18, sg_gw_c _ _ _ _ _ _ (by decide)]
    · rw [e30, sg_gw_k _ _ _ _ _ _ hx, e27, sg_gw_c _ _ _ _ _ _ (by decide), e24, sg_gw_c _ _ _ _ _ _ (by decide), e21, sg_gw_c _ _ _ _ _ _ (by decide), e18, sg_gw_c _ _ _ _ _ _ (by decide)]
/-- FINISH of a { } -/
theorem zn_each {σ8 : sg_S} {m : Nat} {ρ : eV} {t w s c p n g : Int} {d : Nat} {M : List vaF} {C : List (Int × Int)} (h : nP σ σ8 (t + g + M.length) w s (c + 1) p) (hc : 0 ≤ c) (t0 : 0 ≤ t) (hg : 0 ≤ g ∧ g ≤ 4) (hm : 1 ≤ m) (hp : pl σ p ((1, n) :: C)) (hn : 0 ≤ n ∧ n < 200) (h3 : sg_g σ 3 n = 123) (h13 : sg_g σ 13 n = g) (h56 : sg_g σ8 56 n = t + g) (h6 : sg_g σ 6 n = (d + 1 : Nat)) (hd : d ≤ 2) (hl : M.length ≤ 200) (hv : ∀ (i : Nat) (z : vaF), M[i]? = some z → cvF σ8 d z (sg_g σ8 48 (t + g + i))) (kk : oC σ A D vb X m σ8 ρ t w s c (p + 1) nl dix (d + 1) (pyF (.inr (mkF M, cnL d M)) w)) : Rn σ X m σ8 := by
  obtain ⟨m, rfl⟩ : ∃ m', m = m' + 1 := ⟨m - 1, by omega⟩
  obtain ⟨p0, p1, p2, p3⟩ := pl_c hp
  refine rn_1 (p := p) (k := n) h.2.2.1.2.2.2 p0 h.2.1.1 p1 p2 (fun σ32 e32 => ?_)
  obtain ⟨h32, f32⟩ := nP_32 h ⟨p0.2, p0.1⟩ e32
  refine nf_each (g := g) (d := d) (M := M) (t := t) (w := w) hn (nP_O h32 (by omega)) t0 hg h32.2.1.2 (by rw [sg_F_ga h32.1 rfl]; exact h3) (by rw [sg_F_ga h32.1 rfl]; exact h13) (by rw [sg_F_ga f32 rfl]; exact h56) (by rw [sg_F_ga h32.1 rfl]; exact h6) hd hl (fun i z hz => by rw [sg_F_ga f32 rfl]; exact cvF_F (hv i z hz) f32 rfl) (fun σ' f' r' _ => ?_)
  refine zn_fin (a := g + M.length) (t := t) (by rw [← Int.add_assoc]; exact h) ⟨t0, by omega⟩ (by rw [← Int.add_assoc]; exact h32) f32 f' r' hc kk
theorem jp_app {n0 : Int} {go : Int → Int → Prop} : ∀ (R R' : List Int) (s : Nat) (p : Int), jpS σ A f go n0 s p (R ++ R') → jpS σ A f go n0 s p R ∧ jpS σ A f go n0 (s + R.length) (p + (cdS A (cd A f) n0 s R).length) R'
  | [], R', s, p, h => by
    simp only [cdS, List.length_nil, Int.ofNat_zero, Int.cast_ofNat_Int, Int.add_zero, Nat.add_zero]
    exact ⟨trivial, h⟩
  | x :: R, R', s, p, h => by
    simp only [List.cons_append, jpS] at h
    obtain ⟨h1, h2, h3⟩ := h
    obtain ⟨k1, k2⟩ := jp_app R R' (s + 1) _ h3
    refine ⟨⟨h1, h2, k1⟩, ?_⟩
    simp only [cdS, List.length_append, List.length_cons]
    rw [show s + (R.length + 1) = s + 1 + R.length by omega, show p + (((ahd A n0 s).length + ((cd A f x).length + (cdS A (cd A f) n0 (s + 1) R).length) : Nat) : Int) = p + (ahd A n0 s).length + (cd A f x).length + (cdS A (cd A f) n0 (s + 1) R).length by omega]
    exact k2
theorem nN_each (hcB : gB (evN A (sg_g σ 6) B call f)) (hW : ckW σ A) (hSl : slA σ vb) (hVb : ∀ b, vbF A D b → vb b) (F : nN σ A D vb X B call ds nl dix f) {n : Int} {L1 : List Int} {sc : List (Int × Int)} {p : Int} (hk : A.2.1 n = 15) (hf : fT A (A.2.2.2.2.1 n) L1) (hNn : (n :: L1).Nodup) (hL : ∀ x ∈ n :: L1, nl ≤ x ∧ lyQ σ A D B dix x) (hty : tyN A ds (sg_g σ 6) B (f + 1) sc n) (hp : pl σ p (cd A (f + 1) n)) (hj : jpN σ A (f + 1) n p) {σ8 : sg_S} {m : Nat} {ρ : eV} {t w s c cr : Int} (h8 : nP σ σ8 t w s c p) (hS : scP σ A D vb σ8 ρ sc) (hm : 8 * (3001 - w) + cr ≤ (m : Int)) (hcr : 0 ≤ cr) (k : kN σ A D vb X σ8 ρ t s c (p + (cd A (f + 1) n).length) cr nl dix (n :: L1) (sg_g σ 6 n).toNat (evN A (sg_g σ 6) B call (f + 1) n ρ w)) : Rn σ X m σ8 := by
  obtain ⟨t1, t2, t3, t4, t5, t6, t7, t8, t9⟩ := hty
  obtain ⟨c1, c2⟩ := ck3 hW t2
  obtain ⟨w1, w2, w3, w4, w5, w6, w7, w8⟩ := id t1
  have n2 : ¬ A.2.1 n = 2 := by omega
  have n3 : ¬ A.2.1 n = 3 := by omega
  have w7' := w7 hk
  have w8' := w8.2 hk
  obtain ⟨bd, tl, hk2⟩ : ∃ bd tl, A.2.2.2.2.1 n = bd :: tl := by
    match hh : A.2.2.2.2.1 n with
    | bd :: tl => exact ⟨bd, tl, rfl⟩
    | [] => rw [hh] at w7'; simp only [List.length_nil] at w7'; omega
  have tyk := t8 hk bd tl hk2
  have e6 := t5 (by omega)
  rw [kTy_15 hk, hk2] at e6
  obtain ⟨i6, i6', i6''⟩ := kIs_in e6
  have e6n : sg_g σ 6 n = sg_g σ 6 bd + 1 := i6
  have ho : kOrd A n = tl.take (A.2.2.2.2.2 n).length ++ (tl.drop (A.2.2.2.2.2 n).length ++ [bd]) := by
    unfold kOrd; rw [if_pos hk, hk2, ← List.append_assoc, List.take_append_drop]; rfl
  have hgs : kGs A n = tl.take (A.2.2.2.2.2 n).length := by unfold kGs; rw [hk2]; rfl
  have hcn : cnc A n = [(12, n), (1, n)] := by unfold cnc; rw [if_neg n2, if_neg n3, if_neg (by omega), if_pos hk]
  have en := (hW.2.2 n t2.1 t2.2).1.2.2.2.2 hk
  unfold evN at en
  have ahg : ahd A n (A.2.2.2.2.2 n).length = [(10, n)] := by unfold ahd; rw [if_neg (fun z => n2 z.1), if_neg (fun z => n3 z.1), if_pos ⟨hk, rfl⟩]
  have ahg1 : ahd A n ((A.2.2.2.2.2 n).length + 1) = [(11, n)] := by unfold ahd; rw [if_neg (fun z => n2 z.1), if_neg (fun z => n3 z.1), if_neg (by omega), if_pos ⟨hk, by omega⟩]
  have kq : ∀ j, j < (A.2.2.2.2.2 n).length → ahd A n j = [] := fun j hj => by unfold ahd; rw [if_neg (fun z => n2 z.1), if_neg (fun z => n3 z.1), if_neg (by omega), if_neg (by omega)]
  have hvbg : ∀ j : Nat, j < (A.2.2.2.2.2 n).length → vb (210 + 4 * n + j) := fun j hj => hVb _ (Or.inr (Or.inl ⟨n, j, t2, hk, hj, rfl⟩))
  have hcd0 : cd A (f + 1) n = (0, n) :: (cdS A (cd A f) n 0 (tl.take (A.2.2.2.2.2 n).length) ++ (cdS A (cd A f) n (0 + (tl.take (A.2.2.2.2.2 n).length).length) (tl.drop (A.2.2.2.2.2 n).length ++ [bd]) ++ cnc A n)) := by
    simp only [cd]
    rw [ho, cdS_app, List.append_assoc]
  have hj33 := hj.2.2 hk
  have hj1 := hj.1
  rw [ho] at hj1
  obtain ⟨hja, hjb⟩ := jp_app _ _ _ _ hj1
  rw [eN_15 hk, hgs, hk2] at k
  have btg : ∀ (j : Nat), j < 4 → bTy A D (sg_g σ 6) (210 + 4 * n + j) = sg_g σ 6 ((bd :: tl).getD (1 + j) 0) - 1 := fun j hj => by rw [bTw_g ⟨t2.1, by omega⟩ hj, hk2]
  simp only [List.getD_cons_zero] at k
  generalize hgl : (A.2.2.2.2.2 n).length = g at *
  have en1 := en.1
  rw [hgl] at en1
  rw [hk2] at hf w7' en
  simp only [List.length_cons] at w7'
  have lt : (tl.take g).length = g := by rw [List.length_take]; omega
  rw [lt, Nat.zero_add] at hcd0
  rw [lt, Nat.zero_add] at hjb
  rw [hcd0] at hp k hj33
  obtain ⟨Lb, Lt, e3, fb, ft⟩ := fT_spl [bd] tl L1 hf
  rw [← List.take_append_drop g tl] at ft
  obtain ⟨La, Ld, e4, fa, fd⟩ := fT_spl _ _ Lt ft
  have ia : ∀ z, z ∈ La → z ∈ n :: L1 := fun z hz => by rw [e3, e4]; simp [hz]
  have ib : ∀ z, z ∈ Lb → z ∈ n :: L1 := fun z hz => by rw [e3, e4]; simp [hz]
  have id' : ∀ z, z ∈ Ld → z ∈ n :: L1 := fun z hz => by rw [e3, e4]; simp [hz]
  have hN := (List.nodup_cons.mp hNn).2
  have hnL := (List.nodup_cons.mp hNn).1
  have na : n ∉ La := fun z => hnL (by rw [e3, e4]; simp [z])
  have nb : n ∉ Lb := fun z => hnL (by rw [e3, e4]; simp [z])
  have nd : n ∉ Ld := fun z => hnL (by rw [e3, e4]; simp [z])
  have hNt : Lt.Nodup := List.Nodup.sublist (by rw [e3]; exact List.sublist_append_right _ _) hN
  have hNb : Lb.Nodup := List.Nodup.sublist (by rw [e3]; exact List.sublist_append_left _ _) hN
  have hNa : La.Nodup := List.Nodup.sublist (by rw [e4]; exact List.sublist_append_left _ _) hNt
  have hNd : Ld.Nodup := List.Nodup.sublist (by rw [e4]; exact List.sublist_append_right _ _) hNt
  have tb := h8.2.2.2.1.1
  have w9 := h8.2.2.2.2.1
  have c0 := h8.2.2.2.2.2.2.2
  have nln : nl ≤ n := (hL n (by simp)).1
  have kg : ∀ x ∈ tl.take g, kIn (sg_g σ 6 x) := fun x hx => by
    have := (tyk.1 x hx).1
    cases f with
    | zero => exact this.elim
    | succ f => exact this.2.2.1
  have tybd := tyk.2 bd (by simp)
  have kbd : kIn (sg_g σ 6 bd) := by
    cases f with
    | zero => exact tybd.elim
    | succ f => exact tybd.2.2.1
  have kbd1 := kbd.1
  have kn2 := t3.2
  have p0 := pl_c hp
  obtain ⟨p1, p2⟩ := pl_a p0.2.2.2
  refine zn_begin h8 (by omega) hp (fun z σ' f' e' w' => ?_) (fun z σ1 m1 h1 f1 hm1 => ?_)
  · rw [if_neg z] at k; exact k σ' f' e' (by decide) w'
  rw [if_pos z] at k
  have u1 : nU σ A D vb σ8 σ1 ρ ρ t nl dix (n :: L1) := nU_F f1 rfl
  refine nRow F (tl.take g) La 0 (p + 1) fa hNa (fun x hx => hL x (ia x hx)) (fun x hx => (tyk.1 x hx).1) (fun j _ hj => kq j (by rw [lt] at hj; omega)) p1 hja σ1 m1 ρ t (w + 1) (s + 1) (c + 1) (cr + 7) h1 (scP_u hS u1) (by omega) (by omega) ?_
  have eb := eS_b hcB (tl.take g) ρ (w + 1)
  generalize eS (evN A (sg_g σ 6) B call f) (tl.take g) ρ (w + 1) = r at k eb
  match r, k, eb with
  | .inl (e, w'), k, _ => exact k
  | .inr (vs, w1', s1, ρ1), k, eb =>
    intro σ2 m2 l2 h2 u2 v2 hm2
    obtain ⟨eb1, eb2⟩ := eb vs w1' s1 ρ1 z rfl
    simp only at k
    rw [lt] at h2 l2
    have u12 : nU σ A D vb σ8 σ2 ρ ρ1 t nl dix (n :: L1) := nU_t u1 u2 ⟨Int.le_refl _, Int.le_refl _⟩ (fun x hx => hx) ia
    have w29 := h2.2.2.2.2.1
    obtain ⟨m2, rfl⟩ : ∃ m', m2 = m' + 1 := ⟨m2 - 1, by omega⟩
    -- the plan
    have x0 : ∃ x0 R0, tl.drop g ++ [bd] = x0 :: R0 := by
      cases tl.drop g with
      | nil => exact ⟨bd, [], rfl⟩
      | cons x R => exact ⟨x, R ++ [bd], rfl⟩
    have p2' : pl σ (p + 1 + (cdS A (cd A f) n 0 (tl.take g)).length) ((10, n) :: (match tl.drop g with
        | [] => cd A f bd ++ [(12, n), (1, n)]
        | x :: _ => cd A f x ++ (11, n) :: (cd A f bd ++ [(12, n), (1, n)]))) ∧ (cdS A (cd A f) n g (tl.drop g ++ [bd]) ++ cnc A n).length = 1 + (match tl.drop g with
        | [] => 0
        | x :: _ => (cd A f x).length + 1) + (cd A f bd).length + 2 ∧ sg_g σ 32 n = p + 1 + (cdS A (cd A f) n 0 (tl.take g)).length + 1 ∧ (match tl.drop g with
        | [] => jpN σ A f bd (sg_g σ 32 n)
        | x :: _ => jpN σ A f x (sg_g σ 32 n) ∧ jpN σ A f bd (sg_g σ 32 n + (cd A f x).length + 1)) := by
      have dl : (tl.drop g).length ≤ 1 := by rw [List.length_drop]; omega
      match hd : tl.drop g, dl with
      | [], _ =>
        rw [hd] at p2 hjb
        simp only [List.nil_append, cdS, ahg, hcn, List.cons_append, List.append_nil] at p2 ⊢
        simp only [List.nil_append, jpS, ahg, List.length_cons, List.length_nil, Nat.zero_add, and_true] at hjb
        obtain ⟨⟨-, q1⟩, q2⟩ := hjb
        have q3 := q1 hk hgl.symm
        refine ⟨p2, by simp only [List.length_cons, List.length_append, List.length_nil]; omega, q3, ?_⟩
        rw [q3]; exact q2
      | [x], _ =>
        rw [hd] at p2 hjb
        simp only [List.nil_append, cdS, ahg, ahg1, hcn, List.cons_append, List.append_nil, List.append_assoc] at p2 ⊢
        simp only [List.cons_append, List.nil_append, jpS, ahg, ahg1, List.length_cons, List.length_nil, Nat.zero_add, and_true] at hjb
        obtain ⟨⟨-, q1⟩, q2, -, q4⟩ := hjb
        have q3 := q1 hk hgl.symm
        refine ⟨p2, by simp only [List.length_cons, List.length_append, List.length_nil]; omega, q3, ?_⟩
        rw [q3]; exact ⟨q2, q4⟩
    obtain ⟨pp1, pp2, pp3, pp4⟩ := p2'
    obtain ⟨q0, q1, q2, q3⟩ := pl_c pp1
    refine rn_10 (p := p + 1 + (cdS A (cd A f) n 0 (tl.take g)).length) (k := n) h2.2.2.1.2.2.2 q0 h2.2.1.1 q1 q2 (fun σ32 e32 => ?_)
    obtain ⟨h32, f32⟩ := nP_32 h2 ⟨q0.2, q0.1⟩ e32
    obtain ⟨b1, ⟨b2, b3⟩, ⟨b4, b5, b6, b7⟩, b8, b9, b10, b11, b12⟩ := id h32
    have v32 : ∀ (j : Nat) (x : Int) (v : vaF), (tl.take g)[j]? = some x → vs[j]? = some v → cvF σ32 (sg_g σ 6 x).toNat v (sg_g σ32 48 (t + j)) := fun j x v hx hv => by
      rw [sg_F_ga f32 rfl]; exact cvF_F (v2 j x v hx hv) f32 rfl
    refine n_open (g := g) (t := t) (vs := vs) (xs := []) ⟨t2.1, c2⟩ (by rw [sg_F_ga b1 rfl]; exact en1) ⟨by omega, by omega⟩ b4 ⟨tb, by omega⟩ (by omega) (by omega) (fun j v hv => ?_) (fun za σ' e' f' => ?_) (fun za σ7 f7 r1 r2 r3 r4 r5 r6 => ?_)
    · have hjv := gE_l hv
      obtain ⟨x, hx⟩ := gE_x (l := tl.take g) (i := j) (by omega)
      have pos := (tyk.1 x (List.mem_of_getElem? hx)).2
      have := v32 j x v hx hv
      rw [show (sg_g σ 6 x).toNat = (sg_g σ 6 x - 1).toNat + 1 by omega] at this
      exact ⟨_, this⟩
    · rw [if_pos za] at k
      have g' : sg_F [11045] σ32 σ' := by rw [e']; exact sg_F_w (sg_F_r _ _) rfl _
      have e3' : sg_g σ' 45 10 = 3 := by rw [e', sg_gw_e _ _ _ _ (by decide)]
      exact rn_s (by rw [e3']; decide) (k σ' (sg_F_t b1 (sg_F_m g' rfl)) e3' (by decide) (by rw [sg_F_g g' (by rfl)]; exact b5))
    · rw [if_neg za] at k
      have al : ∀ (j : Nat) (v : vaF), vs[j]? = some v → ((itF v).length : Int) = (itF (vs.getD 0 (nmF 0))).length := fun j v hv => by
        have h0 : (itF v).length = (itF (vs.getD 0 (nmF 0))).length := Decidable.byContradiction (fun q => za (List.any_eq_true.mpr ⟨v, List.mem_of_getElem? hv, decide_eq_true q⟩))
        rw [h0]
      have ex7 : cEx σ2 σ7 := cEx_t (cEx_F f32 rfl) (cEx_F f7 rfl)
      have F7 : sg_F [56, 57, 58, 59, 60, 9045] σ2 σ7 := sg_F_t (sg_F_m f32 rfl) (sg_F_m f7 rfl)
      have u27 : nU σ A D vb σ2 σ7 ρ1 ρ1 t nl dix (n :: L1) := ⟨ex7, fun j _ => sg_F_ga F7 rfl, fun b _ hr => rl_F hr F7 rfl, fun x _ hx => by
        have xn : ¬ x = n := fun q => hx (by simp [q])
        obtain ⟨y1, y2, y3, y4, y5⟩ := r6 x xn
        exact ⟨by rw [y1, sg_F_ga f32 rfl], by rw [y2, sg_F_ga f32 rfl], by rw [y3, sg_F_ga f32 rfl], by rw [y4, sg_F_ga f32 rfl], by rw [y5, sg_F_ga f32 rfl]⟩, fun q _ => sg_F_ga F7 rfl⟩
      have N200 : ((itF (vs.getD 0 (nmF 0))).length : Int) ≤ 200 := by
        obtain ⟨v0, hv0⟩ := gE_x (l := vs) (i := 0) (by omega)
        obtain ⟨x, hx⟩ := gE_x (l := tl.take g) (i := 0) (by omega)
        have pos := (tyk.1 x (List.mem_of_getElem? hx)).2
        have q := v32 0 x v0 hx hv0
        rw [show (sg_g σ 6 x).toNat = (sg_g σ 6 x - 1).toNat + 1 by omega] at q
        have := (cv_x q (by omega)).2.2.1
        rw [← al 0 v0 hv0]
        omega
      have hs16 : ∀ j : Nat, j < g → slF σ (210 + 4 * n + j) = sg_g σ 16 n + j := fun j hj => sl_gen ⟨t2.1, by omega⟩ (by omega)
      have sl0 := hSl.1 _ (hvbg 0 (by omega))
      have slg := hSl.1 _ (hvbg (g - 1) (by omega))
      rw [hs16 0 (by omega)] at sl0
      rw [hs16 (g - 1) (by omega)] at slg
      have s59 : sg_g σ7 59 n = s + 1 + s1 := by rw [r4]; exact b6
      have I7 : eI σ σ7 n t w1' (c + 1) g (itF (vs.getD 0 (nmF 0))).length (s + 1 + s1) 0 0 (tl.take g) vs [] (sg_g σ 6 bd).toNat := by
        refine ⟨sg_F_t b1 (sg_F_m f7 rfl), ⟨by rw [sg_F_g f7 (by rfl)]; exact b2, by rw [sg_F_g f7 (by rfl)]; exact b3⟩, ⟨by rw [sg_F_g f7 (by rfl), b4]; simp only [List.length_nil]; omega, by rw [sg_F_g f7 (by rfl)]; exact b5⟩, ⟨tb, by simp only [List.length_nil]; omega⟩, b9, by rw [sg_F_g f7 (by rfl)]; exact b11, ⟨r1, r2, r3, s59, r5⟩, ⟨b10.1, Int.le_refl _, by omega⟩, fun j x v hx hv => by rw [sg_F_ga f7 rfl]; exact cvF_F (v32 j x v hx hv) f7 rfl, fun j v hv => by simp at hv⟩
      -- guard, body
      have gdf : (((bd :: tl).drop (1 + g) = [] ∧ sg_g σ 32 n + 0 = sg_g σ 32 n) ∧ pl σ (sg_g σ 32 n) (cd A f bd ++ [(12, n), (1, n)]) ∧ jpN σ A f bd (sg_g σ 32 n) ∧ tl.drop g = []) ∨ ∃ g0, (bd :: tl).drop (1 + g) = [g0] ∧ tl.drop g = [g0] ∧ pl σ (sg_g σ 32 n) (cd A f g0 ++ (11, n) :: (cd A f bd ++ [(12, n), (1, n)])) ∧ jpN σ A f g0 (sg_g σ 32 n) ∧ jpN σ A f bd (sg_g σ 32 n + (cd A f g0).length + 1) ∧ sg_g σ 6 g0 = 0 := by
        have dl : (tl.drop g).length ≤ 1 := by rw [List.length_drop]; omega
        have dr : (bd :: tl).drop (1 + g) = tl.drop g := by rw [Nat.add_comm 1 g, List.drop_succ_cons]
        rw [dr]
        rw [← pp3] at q3
        match hd : tl.drop g, dl with
        | [], _ =>
          rw [hd] at q3 pp4
          exact Or.inl ⟨⟨rfl, by omega⟩, q3, pp4, rfl⟩
        | [g0], _ =>
          rw [hd] at q3 pp4
          refine Or.inr ⟨g0, rfl, rfl, q3, pp4.1, pp4.2, ?_⟩
          have tlg : tl.length = g + 1 := by
            have : (tl.drop g).length = 1 := by rw [hd]; rfl
            rw [List.length_drop] at this
            omega
          simp only [List.length_map, List.length_cons, Bool.or_eq_true, decide_eq_true_eq, ne_eq] at i6''
          rcases i6'' with q | q
          · omega
          · rw [show tl.length + 1 - 1 = g + 1 by omega, List.getD_eq_getElem?_getD, List.getElem?_map, List.getElem?_cons_succ] at q
            have : tl[g]? = some g0 := by rw [← List.head?_drop, hd]; rfl
            rw [this] at q
            exact q
      have hxt : ∀ (j : Nat) (x : Int), (tl.take g)[j]? = some x → 0 < sg_g σ 6 x ∧ bTy A D (sg_g σ 6) (210 + 4 * n + j) = sg_g σ 6 x - 1 := fun j x hx => by
        have hj := gE_l hx
        refine ⟨(tyk.1 x (List.mem_of_getElem? hx)).2, ?_⟩
        rw [btg j (by omega), List.getD_eq_getElem?_getD, Nat.add_comm 1 j, List.getElem?_cons_succ]
        rw [List.getElem?_take, if_pos (by omega)] at hx
        rw [hx]; rfl
      have fin : ∀ pbb : Int, (hpe : sg_g σ 33 n = pbb + (cd A f bd).length + 1) → pl σ pbb (cd A f bd ++ [(12, n), (1, n)]) → ∀ r2 : eRs, (match r2 with
            | .inl e => kN σ A D vb X σ8 ρ t s c (p + (((0, n) :: (cdS A (cd A f) n 0 (tl.take g) ++ (cdS A (cd A f) n g (tl.drop g ++ [bd]) ++ cnc A n))).length : Nat)) cr nl dix (n :: L1) (sg_g σ 6 n).toNat (.inl e)
            | .inr (acc, w2, bs, ρ2) => kN σ A D vb X σ8 ρ t s c (p + (((0, n) :: (cdS A (cd A f) n 0 (tl.take g) ++ (cdS A (cd A f) n g (tl.drop g ++ [bd]) ++ cnc A n))).length : Nat)) cr nl dix (n :: L1) (sg_g σ 6 n).toNat (ePay (.inr (mkF acc, cnL (sg_g σ 6 n - 1).toNat acc)) w2 (1 + s1 + bs) ρ2)) → kEc σ A D vb X σ2 ρ1 n t (s + 1 + s1) (c + 1) (cr + 6) g nl dix (n :: L1) (sg_g σ 6 bd).toNat r2 := by
        intro pbb hpe hpl r2 kr
        match r2, kr with
        | .inl (e, w'), kr => exact kr
        | .inr (acc, w2, bs, ρ2), kr =>
          intro σ9 m9 h9 q56 l200 va9 u9 hm9
          simp only at kr
          have w99 := h9.2.2.2.2.1
          obtain ⟨pq1, pq2⟩ := pl_a hpl
          have pq3 := pl_c pq2
          have u89 : nU σ A D vb σ8 σ9 ρ ρ2 t nl dix (n :: L1) := nU_t u12 u9 ⟨Int.le_refl _, Int.le_refl _⟩ (fun _ hx => hx) (fun _ hx => hx)
          rw [show (sg_g σ 6 n - 1).toNat = (sg_g σ 6 bd).toNat by omega, show (sg_g σ 6 n).toNat = (sg_g σ 6 bd).toNat + 1 by omega] at kr
          rw [hpe] at h9
          refine zn_each (g := g) (d := (sg_g σ 6 bd).toNat) (M := acc) (ρ := ρ2) (nl := nl) (dix := dix) (A := A) (D := D) (vb := vb) h9 c0 tb ⟨by omega, by omega⟩ (by omega) pq3.2.2.2 ⟨t2.1, c2⟩ (by rw [c1, hk]; rfl) en1 q56 (by omega) (by omega) l200 va9 (oC_k (L := n :: L1) (s0 := s) (s' := 1 + s1 + bs) (cr := cr) ?_ u89 (by omega) (by omega))
          have ep : p + (((0, n) :: (cdS A (cd A f) n 0 (tl.take g) ++ (cdS A (cd A f) n g (tl.drop g ++ [bd]) ++ cnc A n))).length : Nat) = pbb + (cd A f bd).length + 1 + 1 := by
            have := hj33
            rw [hpe] at this
            omega
          rw [← ep]
          exact kr
      have kk2 : ∀ r2 : eRs, r2 = eP (fun i ρ w => evT (evN A (sg_g σ 6) B call f) ((bd :: tl).drop (1 + g)) bd (eUs ρ (210 + 4 * n) 0 (vs.map (fun v => (itF v).getD i (nmF 0)))) w) (itF (vs.getD 0 (nmF 0))).length 0 ρ1 w1' 0 [] → (match r2 with
            | .inl e => kN σ A D vb X σ8 ρ t s c (p + (((0, n) :: (cdS A (cd A f) n 0 (tl.take g) ++ (cdS A (cd A f) n g (tl.drop g ++ [bd]) ++ cnc A n))).length : Nat)) cr nl dix (n :: L1) (sg_g σ 6 n).toNat (.inl e)
            | .inr (acc, w2, bs, ρ2) => kN σ A D vb X σ8 ρ t s c (p + (((0, n) :: (cdS A (cd A f) n 0 (tl.take g) ++ (cdS A (cd A f) n g (tl.drop g ++ [bd]) ++ cnc A n))).length : Nat)) cr nl dix (n :: L1) (sg_g σ 6 n).toNat (ePay (.inr (mkF acc, cnL (sg_g σ 6 n - 1).toNat acc)) w2 (1 + s1 + bs) ρ2)) := by
        intro r2 hr2
        rw [← hr2] at k
        match r2, k with
        | .inl (e, w'), k => exact fun σ' q1 q2 q3 q4 => k σ' q1 q2 q3 q4
        | .inr (acc, w2, bs, ρ2), k => exact k
      have pe33 : ∀ pbb : Int, pbb = sg_g σ 32 n + (match tl.drop g with
          | [] => 0
          | x :: _ => ((cd A f x).length : Int) + 1) → sg_g σ 33 n = pbb + (cd A f bd).length + 1 := fun pbb hpb => by
        have := hj33
        simp only [List.length_cons, List.length_append] at this pp2
        rw [hpb, pp3]
        match hd : tl.drop g with
        | [] => rw [hd] at pp2; simp only at pp2 ⊢; rw [hd] at this; omega
        | x :: R => rw [hd] at pp2; simp only at pp2 ⊢; rw [hd] at this; omega
      rcases gdf with ⟨⟨gd0, -⟩, plb, jpb, dg⟩ | ⟨g0, gd0, dg, plg, jpg, jpb, tg0⟩
      · have pe := pe33 (sg_g σ 32 n) (by rw [dg]; simp)
        exact zn_vis (N := (itF (vs.getD 0 (nmF 0))).length) (c := c + 1) (cr := cr + 6) (L := n :: L1) (Lg := Ld) (pb := sg_g σ 32 n) (σ2 := σ2) (ρ2 := ρ1) (sc := sc) hcB F hSl ⟨t2.1, c2⟩ nln ⟨by omega, by omega⟩ en1 rfl ⟨by omega, by omega⟩ (fun j hj => ⟨hvbg j hj, hs16 j hj⟩) lt (by omega) hxt al N200 (by omega) (by simp) fb hNb (fun x hx => ⟨hL x (ib x hx), ib x hx, fun q => nb (by rw [← q]; exact hx)⟩) tybd plb jpb rfl (Or.inl ⟨gd0, rfl⟩) (scP_u hS u12) pe (itF (vs.getD 0 (nmF 0))).length 0 ρ1 w1' 0 [] σ7 m2 (by omega) (by simp) I7 u27 (by omega) (by omega) (fin _ pe plb _ (kk2 _ rfl)) _ (fun σ' hR _ _ => hR)
      · have pe := pe33 (sg_g σ 32 n + (cd A f g0).length + 1) (by rw [dg]; simp only; omega)
        obtain ⟨-, plg2⟩ := pl_a plg
        have plb := (pl_c plg2).2.2.2
        have fg : fT A [g0] Ld := by rw [dg] at fd; exact fd
        have tyg := tyk.2 g0 (by rw [dg]; simp)
        exact zn_vis (N := (itF (vs.getD 0 (nmF 0))).length) (c := c + 1) (cr := cr + 6) (L := n :: L1) (Lg := Ld) (pb := sg_g σ 32 n + (cd A f g0).length + 1) (σ2 := σ2) (ρ2 := ρ1) (sc := sc) hcB F hSl ⟨t2.1, c2⟩ nln ⟨by omega, by omega⟩ en1 rfl ⟨by omega, by omega⟩ (fun j hj => ⟨hvbg j hj, hs16 j hj⟩) lt (by omega) hxt al N200 (by omega) (by simp) fb hNb (fun x hx => ⟨hL x (ib x hx), ib x hx, fun q => nb (by rw [← q]; exact hx)⟩) tybd plb jpb rfl (Or.inr ⟨g0, gd0, fg, hNd, fun x hx => ⟨hL x (id' x hx), id' x hx, fun q => nd (by rw [← q]; exact hx)⟩, tyg, plg, jpg, tg0, rfl⟩) (scP_u hS u12) pe (itF (vs.getD 0 (nmF 0))).length 0 ρ1 w1' 0 [] σ7 m2 (by omega) (by simp) I7 u27 (by omega) (by omega) (fin _ pe plb _ (kk2 _ rfl)) _ (fun σ' hR _ _ => hR)
end NEC
/-! BIG STEPS of the nested run: all nodes, all DEFS, the run. -/
section NAL
variable {σ : sg_S} {A : aT} {D : List aDf} {vb : Int → Prop} {X : sg_S → Prop} {B : Int → Int} {call : Int → eV → Int → eR} {ds : kD} {nl dix : Int}
theorem nN_all (hD : dDn σ A D vb X call nl dix) (hcB : gB call) (hW : ckW σ A) (hSl : slA σ vb) (hVb : ∀ b, vbF A D b → vb b) : ∀ f, nN σ A D vb X B call ds nl dix f
  | 0 => fun n L sc p hf hN hL hty => hty.elim
  | f + 1 => fun n L sc p hf hN hL hty hp hj σ8 m ρ t w s c cr h8 hS hm hcr k => by
    obtain ⟨L1, L2, e1, w1, w2, w3⟩ := fT_inv hf
    have e2 := fT_nil w3
    subst e2
    rw [List.append_nil] at e1
    subst e1
    have F := nN_all hD hcB hW hSl hVb f
    have hN1 := (List.nodup_cons.mp hN).2
    have r := w1.1
    by_cases c2 : A.2.1 n = 2
    · exact nN_let hW hSl hVb F c2 w2 hN1 hL hty hp hj h8 hS hm hcr k
    by_cases c3 : A.2.1 n = 3
    · exact nN_if hW F c3 w2 hN1 hL hty hp hj h8 hS hm hcr k
    by_cases c13 : A.2.1 n = 13
    · exact nN_call hD hW hSl hVb F c13 w2 hN1 hL hty hp hj h8 hS hm hcr k
    by_cases c15 : A.2.1 n = 15
    · exact nN_each (eN_b hcB f) hW hSl hVb F c15 w2 hN hL hty hp hj h8 hS hm hcr k
    exact nN_op hW hSl F (by omega) w2 hN1 hL hty hp hj h8 hS hm hcr k
/-- LEAVE -/
theorem zn_leave {σ8 : sg_S} {m : Nat} {t w s c p q r : Int} {C : List (Int × Int)} (h : nP σ σ8 t w s c p) (hm : 1 ≤ m) (hp : pl σ p ((6, q) :: C)) (hq : 0 ≤ q ∧ q < 13) (h47 : sg_g σ8 47 q = r) (kk : ∀ σ' m', nP σ σ' t w s c r → sg_F [9045] σ8 σ' → m' + 1 = m → Rn σ X m' σ') : Rn σ X m σ8 := by
  obtain ⟨m, rfl⟩ : ∃ m', m = m' + 1 := ⟨m - 1, by omega⟩
  obtain ⟨p0, p1, p2, p3⟩ := pl_c hp
  refine rn_6 (p := p) (k := q) h.2.2.1.2.2.2 p0 h.2.1.1 p1 p2 (fun σ32 e32 σ95 e95 => ?_)
  obtain ⟨h32, f32⟩ := nP_32 h ⟨p0.2, p0.1⟩ e32
  rw [xa_in (a := 47) hq, h47] at e95
  have f95 : sg_F [9045] σ32 σ95 := by rw [e95]; exact sg_F_w (sg_F_r _ _) rfl _
  have hr : sg_R r := by rw [← h47]; exact sg_Rg _ _ _
  obtain ⟨a1, ⟨a2, a3⟩, ⟨a4, a5, a6, a7⟩, a8, a9, a10, a11, a12⟩ := h32
  exact kk σ95 m ⟨sg_F_t a1 (sg_F_m f95 rfl), ⟨by rw [sg_F_g f95 (by rfl)]; exact a2, by rw [sg_F_g f95 (by rfl)]; exact a3⟩, ⟨by rw [sg_F_g f95 (by rfl)]; exact a4, by rw [sg_F_g f95 (by rfl)]; exact a5, by rw [sg_F_g f95 (by rfl)]; exact a6, by rw [e95, sg_gw_e _ _ _ _ hr]⟩, a8, a9, a10, by rw [sg_F_g f95 (by rfl)]; exact a11, a12⟩ (sg_F_t f32 f95) rfl
/-- what is known of a DEF (or of the PROGRAM's EXPR) with root r, number q, k PARAMS -/
def dIn (σ : sg_S) (A : aT) (D : List aDf) (B : Int → Int) (cl q r k : Int) : Prop := ∃ (L : List Int) (ds : kD) (sc : List (Int × Int)), (0 ≤ r ∧ r < A.1) ∧ fT A [r] L ∧ L.Nodup ∧ gRq σ A L ∧ tyN A ds (sg_g σ 6) B 201 sc r ∧ pl σ (sg_g σ 31 q) (cd A 201 r ++ [(6, q)]) ∧ jpN σ A 201 r (sg_g σ 31 q) ∧ (∀ x ∈ L, lyQ σ A D B cl x) ∧ ∀ p ∈ sc, ∃ j : Nat, (j : Int) < k ∧ p = (1100 + 6 * q + j, bTy A D (sg_g σ 6) (1100 + 6 * q + j))
theorem dIn_run {cl q r kp : Int} (hW : ckW σ A) (hSl : slA σ vb) (hVb : ∀ b, vbF A D b → vb b) (hcB : gB call) (hq : 0 ≤ q ∧ q < 13) (hcl : cl ≤ q) (h : dIn σ A D B cl q r kp) (hvp : ∀ j : Nat, (j : Int) < kp → vb (1100 + 6 * q + j)) (hD : dDn σ A D vb X call (sg_g σ 11 r) cl) {σ8 : sg_S} {m : Nat} {ρ : eV} {t w s c cr rt : Int} (h8 : nP σ σ8 t w s c (sg_g σ 31 q)) (h47 : sg_g σ8 47 q = rt) (hv : ∀ j : Nat, (j : Int) < kp → rlC σ A D σ8 ρ (1100 + 6 * q + j)) (hm : 8 * (3001 - w) + cr ≤ (m : Int)) (hcr : 0 ≤ cr) (kk : kN σ A D vb X σ8 ρ t s c rt (cr - 1) (sg_g σ 12 r + 1) q [] (sg_g σ 6 r).toNat (evN A (sg_g σ 6) B call 201 r ρ w)) : Rn σ X m σ8 := by
  obtain ⟨L, ds, sc, hr, f1, f2, f3, f4, f5, f6, f7, f8⟩ := h
  have rr := f3 r (fT_sub f1 r (by simp)) L f1
  obtain ⟨p1, p2⟩ := pl_a f5
  refine nN_all (ds := ds) (B := B) hD hcB hW hSl hVb 201 r L sc (sg_g σ 31 q) f1 f2 (fun x hx => ⟨((rr x).mp hx).1, f7 x hx⟩) f4 p1 f6 σ8 m ρ t w s c cr h8 (fun p hp => ?_) hm hcr ?_
  · obtain ⟨j, hj, rfl⟩ := f8 p hp
    exact ⟨hvp j hj, rfl, hv j hj⟩
  · generalize evN A (sg_g σ 6) B call 201 r ρ w = q' at kk
    match q', kk with
    | .inl (e, w'), kk => exact fun σ' q1 q2 q3 q4 => kk σ' q1 q2 q3 q4
    | .inr (v, w', s', ρ'), kk =>
      intro σ1 m1 h1 u1 v1 hm1
      have w19 := h1.2.2.2.2.1
      refine zn_leave (r := rt) h1 (by omega) p2 hq (by rw [u1.2.2.2.2 q hcl]; exact h47) (fun σ2 m2 h2 g2 hm2 => ?_)
      refine kk σ2 m2 h2 ?_ (by rw [sg_F_ga g2 rfl]; exact cvF_F v1 g2 rfl) (by omega)
      have u2 : nU σ A D vb σ8 σ1 ρ ρ' t (sg_g σ 12 r + 1) q [] := nU_w u1 ⟨by have := (rr r).mp (fT_sub f1 r (by simp)); omega, hcl⟩ (Int.le_refl _) (fun x hx hy => by have := ((rr x).mp hx).2; omega)
      exact nU_t u2 (nU_F (L := []) g2 rfl) ⟨Int.le_refl _, Int.le_refl _⟩ (fun x hx => hx) (fun x hx => hx)
/-- all DEFS below M -/
def dAn (σ : sg_S) (A : aT) (D : List aDf) (B : Int → Int) (M : Int) : Prop := M ≤ 12 ∧ ∀ q, 0 ≤ q → q < M → dIn σ A D B q q (sg_g σ 22 q) (sg_g σ 23 q) ∧ (0 ≤ sg_g σ 23 q ∧ sg_g σ 23 q ≤ 6) ∧ (0 ≤ sg_g σ 24 q ∧ sg_g σ 24 q + sg_g σ 23 q ≤ 272) ∧ (∃ y, D[q.toNat]? = some y ∧ (y.2.2.1.length : Int) = sg_g σ 23 q ∧ y.2.2.2 = sg_g σ 22 q) ∧ ∀ q', 0 ≤ q' → q' < q → nxq σ q' ≤ sg_g σ 11 (sg_g σ 22 q)
set_option maxRecDepth 10000 in
theorem cLn_all {M : Int} (hW : ckW σ A) (hSl : slA σ vb) (hVb : ∀ b, vbF A D b → vb b) (h : dAn σ A D B M) : ∀ (j : Nat), (j : Int) < M → ∀ k : Nat, j < k → cLn σ A D vb X (eC A D (sg_g σ 6) B k) (j : Int) := by
  intro j
  induction j using Nat.strongRecOn with
  | ind j ih =>
    intro hM k hjk σ8 m ρ t w s c cr r h8 h47 hv hm hcr kk
    obtain ⟨d1, d2, d3, ⟨y, d4, d5, d6⟩, d7⟩ := h.2 j (by omega) hM
    rw [Int.toNat_natCast] at d4
    have hD : dDn σ A D vb X (eC A D (sg_g σ 6) B j) (sg_g σ 11 (sg_g σ 22 j)) j := fun q' a b => by
      obtain ⟨e1, e2, e3, e4, e5⟩ := h.2 q' a (by omega)
      refine ⟨by have := h.1; omega, ?_, d7 q' a b, e2, e3, e4⟩
      have := ih q'.toNat (by omega) (by omega) j (by omega)
      rw [show ((q'.toNat : Nat) : Int) = q' by omega] at this
      exact this
    rw [eC_e A D (sg_g σ 6) B k j hjk, List.getD_eq_getElem?_getD, d4, Option.getD_some, d6] at kk
    have hv1 : ∀ i : Nat, (i : Int) < sg_g σ 23 j → vb (1100 + 6 * (j : Int) + i) := fun i hi => hVb _ (Or.inr (Or.inr ⟨j, i, y, d4, by clear kk; omega, rfl⟩))
    have hj13 : (0 : Int) ≤ j ∧ (j : Int) < 13 := ⟨by clear kk; omega, by have := h.1; clear kk; omega⟩
    exact dIn_run (cl := (j : Int)) (q := (j : Int)) (r := sg_g σ 22 j) (kp := sg_g σ 23 j) (σ8 := σ8) (m := m) (ρ := ρ) (t := t) (w := w) (s := s) (c := c) (cr := cr) (rt := r) (call := eC A D (sg_g σ 6) B j) hW hSl hVb (eC_b A D (sg_g σ 6) B j) hj13 (Int.le_refl _) d1 hv1 hD h8 h47 hv hm hcr kk
theorem dDn_all {M nl : Int} (hW : ckW σ A) (hSl : slA σ vb) (hVb : ∀ b, vbF A D b → vb b) (h : dAn σ A D B M) (hl : ∀ q, 0 ≤ q → q < M → nxq σ q ≤ nl) : dDn σ A D vb X (eC A D (sg_g σ 6) B M.toNat) nl M := fun q a b => by
  obtain ⟨e1, e2, e3, e4, e5⟩ := h.2 q a b
  refine ⟨by have := h.1; omega, ?_, hl q a b, e2, e3, e4⟩
  have := cLn_all (X := X) hW hSl hVb h q.toNat (by omega) M.toNat (by omega)
  rw [show ((q.toNat : Nat) : Int) = q by omega] at this
  exact this
set_option maxRecDepth 10000 in
/-- the run as a whole -/
theorem n_run {M r a1 : Int} {Q : Int → sg_S → Prop} (hW : ckW σ A) (hSl : slA σ vb) (hVb : ∀ b, vbF A D b → vb b) (h : dAn σ A D B M) (hP : dIn σ A D B M 12 r 0) (hl : ∀ q, 0 ≤ q → q < M → nxq σ q ≤ sg_g σ 11 r) (kc : match evN A (sg_g σ 6) B (eC A D (sg_g σ 6) B M.toNat) 201 r (fun _ => nmF 0) 0 with
    | .inl (e, w') => ∀ σ8, sg_F nRL σ σ8 → sg_g σ8 45 10 = e → ¬ e = 0 → sg_g σ8 45 22 = w' → V_mnConclude σ8 a1 (fun σ23 => sg_F [49, 50, 51, 52, 8045, 12045] σ8 σ23 → Q (sg_g σ8 45 10) σ23)
    | .inr (v, w', s', _) => ∀ σ8, sg_F nRL σ σ8 → (sg_g σ8 45 10 = 0 ∧ sg_g σ8 45 22 = w' ∧ sg_g σ8 45 23 = s' ∧ sg_g σ8 45 7 = 1) → (0 ≤ sg_g σ8 45 20 ∧ sg_g σ8 45 20 ≤ 9000) → cvF σ8 (sg_g σ 6 r).toNat v (sg_g σ8 48 0) → V_mnConclude σ8 a1 (fun σ23 => sg_F [49, 50, 51, 52, 8045, 12045] σ8 σ23 → Q (sg_g σ8 45 10) σ23)) : V_mnRun σ a1 Q := by
  unfold V_mnRun V_mnStart V_nPrepare
  intro σ1 e1 σ4 e4 s1 f1 s2 f2 s3 f3 s4 f4 _ s5 f5 s6 f6 FF
  rw [xp_in ⟨by decide, by decide⟩] at f5
  rw [xa_in (a := 31) (n := 13) (k := 12) ⟨by decide, by decide⟩] at f6
  have z0 : sg_n 0 = 0 := sg_id ⟨by decide, by decide⟩
  have zm : sg_n (-1) = -1 := sg_id ⟨by decide, by decide⟩
  have zE : sg_n (sg_g σ 31 12) = sg_g σ 31 12 := sg_id (sg_Rg _ _ _)
  have a7 : sg_g s6 45 7 = 0 := by rw [f6, f5, f4, f3, f2, f1, e4, e1]; simp [sg_gw, z0]
  have a10 : sg_g s6 45 10 = 0 := by rw [f6, f5, f4, f3, f2, f1, e4]; simp [sg_gw, z0]
  have a20 : sg_g s6 45 20 = 0 := by rw [f6, f5, f4, f3, f2, f1]; simp [sg_gw, z0]
  have a21 : sg_g s6 45 21 = 0 := by rw [f6, f5, f4, f3, f2]; simp [sg_gw, z0]
  have a22 : sg_g s6 45 22 = 0 := by rw [f6, f5, f4, f3]; simp [sg_gw, z0]
  have a23 : sg_g s6 45 23 = 0 := by rw [f6, f5, f4]; simp [sg_gw, z0]
  have a8 : sg_g s6 45 8 = sg_g σ 31 12 := by rw [f6]; simp [sg_gw, zE]
  have a47 : sg_g s6 47 12 = -1 := by rw [f6, f5]; simp [sg_gw, zm]
  have hB : nP σ s6 0 0 0 0 (sg_g σ 31 12) := ⟨sg_F_m FF rfl, ⟨a10, a21⟩, ⟨a7, a22, a23, a8⟩, ⟨by decide, by decide⟩, ⟨by decide, by decide⟩, ⟨by decide, by decide⟩, by rw [a20]; decide, by decide⟩
  have hM := h.1
  have hD : dDn σ A D vb (fun σ8 => V_mnConclude σ8 a1 (fun σ23 => sg_F [49, 50, 51, 52, 8045, 12045] σ8 σ23 → Q (sg_g σ8 45 10) σ23)) (eC A D (sg_g σ 6) B M.toNat) (sg_g σ 11 r) M := dDn_all hW hSl hVb h hl
  have R : Rn σ (fun σ8 => V_mnConclude σ8 a1 (fun σ23 => sg_F [49, 50, 51, 52, 8045, 12045] σ8 σ23 → Q (sg_g σ8 45 10) σ23)) 100000 s6 := by
    refine dIn_run (kp := 0) (cr := 0) (ρ := fun _ => nmF 0) (call := eC A D (sg_g σ 6) B M.toNat) hW hSl hVb (eC_b A D (sg_g σ 6) B M.toNat) ⟨by decide, by decide⟩ hM hP (fun j hj => absurd hj (Int.not_lt.mpr (Int.natCast_nonneg _))) hD hB a47 (fun j hj => absurd hj (Int.not_lt.mpr (Int.natCast_nonneg _))) (by decide) (Int.le_refl _) ?_
    generalize evN A (sg_g σ 6) B (eC A D (sg_g σ 6) B M.toNat) 201 r (fun _ => nmF 0) 0 = q' at kc
    match q', kc with
    | .inl (e, w'), kc => exact kc
    | .inr (v, w', s', ρ'), kc =>
      intro σ' m' h1 _ v1 _
      obtain ⟨b1, ⟨b2, b3⟩, ⟨b4, b5, b6, b7⟩, b8, b9, b10, b11, b12⟩ := h1
      exact rn_e (by rw [b7]; decide) (kc σ' b1 ⟨b2, b5, by rw [b6]; omega, b4⟩ ⟨b11.1, by omega⟩ v1)
  refine ⟨fun n v σ8 => v = 100000 - (n : Int) ∧ Rn σ (fun σ8 => V_mnConclude σ8 a1 (fun σ23 => sg_F [49, 50, 51, 52, 8045, 12045] σ8 σ23 → Q (sg_g σ8 45 10) σ23)) n σ8, fun σ8 => V_mnConclude σ8 a1 (fun σ23 => sg_F [49, 50, 51, 52, 8045, 12045] σ8 σ23 → Q (sg_g σ8 45 10) σ23), ⟨100000, rfl, R⟩, ?_, fun σ8 _ h8 => h8⟩
  rintro n v σ8 rv f8' ⟨hv, hR⟩
  cases n with
  | zero => exact ⟨fun _ => hR, fun q => by omega⟩
  | succ n =>
    obtain ⟨y1, y2, y3⟩ := hR
    refine ⟨fun q => by omega, fun q => ⟨y1, fun q2 => ⟨y2, fun q3 => ?_⟩⟩⟩
    obtain ⟨y4, y5⟩ := y3 q2 q3
    exact ⟨y4, fun σ32 e32 => ⟨Rn σ _ n, y5 σ32 e32, fun σ36 _ h36 => ⟨⟨by omega, by omega⟩, n, by omega, by omega, h36⟩⟩⟩
end NAL
