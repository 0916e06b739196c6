/-! BIG STEPS of the nested run: let, if, calls. -/
/-- binders of a PROGRAM -/
def vbF (A : aT) (D : List aDf) (b : Int) : Prop := ((0 ≤ b ∧ b < A.1) ∧ A.2.1 b = 2) ∨ (∃ (n : Int) (j : Nat), (0 ≤ n ∧ n < A.1) ∧ A.2.1 n = 15 ∧ j < (A.2.2.2.2.2 n).length ∧ b = 210 + 4 * n + j) ∨ ∃ (q j : Nat) (y : aDf), D[q]? = some y ∧ j < y.2.2.1.length ∧ b = 1100 + 6 * (q : Int) + j
theorem bTw_l {A : aT} {D : List aDf} {T : Int → Int} {n : Int} (h : n < 210) : bTy A D T n = T ((A.2.2.2.2.1 n).getD 0 0) := by unfold bTy; rw [if_pos h]
theorem bTw_g {A : aT} {D : List aDf} {T : Int → Int} {n : Int} {j : Nat} (h : 0 ≤ n ∧ n < 210) (hj : j < 4) : bTy A D T (210 + 4 * n + j) = T ((A.2.2.2.2.1 n).getD (1 + j) 0) - 1 := by
  unfold bTy
  rw [if_neg (by omega), if_pos (by omega), show (210 + 4 * n + (j : Int) - 210) / 4 = n by omega, show (210 + 4 * n + (j : Int) - 210) % 4 = j by omega, Int.toNat_natCast]
theorem bTw_p {A : aT} {D : List aDf} {T : Int → Int} {q : Int} {j : Nat} (h : 0 ≤ q) (hj : j < 6) : bTy A D T (1100 + 6 * q + j) = ((D.getD q.toNat (0, 0, [], 0)).2.2.1.map (·.2.2)).getD j 0 := by
  unfold bTy
  rw [if_neg (by omega), if_neg (by omega), show (1100 + 6 * q + (j : Int) - 1100) / 6 = q by omega, show (1100 + 6 * q + (j : Int) - 1100) % 6 = j by omega, Int.toNat_natCast]
theorem eUs_no {b x : Int} : ∀ {r : List vaF} {ρ : eV} {i : Nat}, (x < b + i ∨ b + i + r.length ≤ x) → eUs ρ b i r x = ρ x
  | [], ρ, i, _ => rfl
  | v :: r, ρ, i, h => by
    simp only [eUs]
    simp only [List.length_cons] at h
    rw [eUs_no (r := r) (i := i + 1) (by omega)]
    unfold eUp
    rw [if_neg (by omega)]
theorem eUs_at {b : Int} : ∀ {r : List vaF} {ρ : eV} {i j : Nat} {v : vaF}, r[j]? = some v → eUs ρ b i r (b + i + j) = v
  | [], ρ, i, j, v, h => by simp at h
  | u :: r, ρ, i, 0, v, h => by
    simp only [List.getElem?_cons_zero, Option.some.injEq] at h
    subst h
    simp only [eUs]
    rw [eUs_no (r := r) (i := i + 1) (by omega)]
    unfold eUp
    rw [if_pos (by omega)]
  | u :: r, ρ, i, j + 1, v, h => by
    simp only [List.getElem?_cons_succ] at h
    simp only [eUs]
    have := eUs_at (b := b) (ρ := eUp ρ (b + i) u) (i := i + 1) h
    rw [show b + ((i + 1 : Nat) : Int) + (j : Int) = b + (i : Int) + ((j + 1 : Nat) : Int) by omega] at this
    exact this
section NLT
variable {σ : sg_S} {A : aT} {D : List aDf} {vb : Int → Prop} {X : sg_S → Prop} {B : Int → Int} {call : Int → eV → Int → eR} {ds : kD} {nl dix : Int} {f : Nat}
/-- BIND -/
theorem zn_bind {σ8 : sg_S} {m : Nat} {ρ : eV} {t w s c p n : Int} {d : Nat} {v : vaF} {C : List (Int × Int)} (h : nP σ σ8 (t + 1) w s c p) (t0 : 0 ≤ t) (hm : 1 ≤ m) (hp : pl σ p ((4, n) :: C)) (hn : 0 ≤ n ∧ n < 200) (hSl : slA σ vb) (hb : vb n) (hbt : (bTy A D (sg_g σ 6) n).toNat = d) (hv : cvF σ8 d v (sg_g σ8 48 t)) (kk : ∀ σ' m', nP σ σ' t w s c (p + 1) → nU σ A D vb σ8 σ' ρ (eUp ρ n v) t nl dix [] → rlC σ A D σ' (eUp ρ n v) n → m' + 1 = m → Rn σ X m' σ') : Rn σ X m σ8 := by
  obtain ⟨m, rfl⟩ : ∃ m', m = m' + 1 := ⟨m - 1, by omega⟩
  obtain ⟨p0, p1, p2, p3⟩ := pl_c hp
  refine rn_4 (p := p) (k := n) h.2.2.1.2.2.2 p0 h.2.1.1 p1 p2 (fun σ32 e32 => ?_)
  obtain ⟨h32, f32⟩ := nP_32 h ⟨p0.2, p0.1⟩ e32
  obtain ⟨a1, ⟨a2, a3⟩, ⟨a4, a5, a6, a7⟩, a8, a9, a10, a11, a12⟩ := id h32
  have hs := hSl.1 n hb
  have e16 : sg_g σ 16 n = slF σ n := (sl_let (by omega)).symm
  rw [xa_in (a := 16) hn, e16]
  refine n_pop (t := t) a4 ⟨t0, by omega⟩ (fun σ2 f2 t2 r2 _ _ σ82 e82 => ?_)
  rw [xp_in hs, sg_F_ga f32 rfl] at e82
  have f82 : sg_F [46] σ2 σ82 := by rw [e82]; exact sg_F_w (sg_F_r _ _) rfl _
  have F2 : sg_F [46, 8045] σ32 σ82 := sg_F_t (sg_F_m f2 rfl) (sg_F_m f82 rfl)
  have F : sg_F [46, 8045, 9045] σ8 σ82 := sg_F_t (sg_F_m f32 rfl) (sg_F_m F2 rfl)
  have sv : sg_g σ82 46 (slF σ n) = sg_g σ8 48 t := by rw [e82, sg_gw_e _ _ _ _ (sg_Rg _ _ _)]
  have so : ∀ x, ¬ x = slF σ n → sg_g σ82 46 x = sg_g σ8 46 x := fun x hx => by rw [e82, sg_gw_k _ _ _ _ _ _ hx, sg_F_ga f2 rfl, sg_F_ga f32 rfl]
  have ex : cEx σ8 σ82 := cEx_F F rfl
  have rn : rlC σ A D σ82 (eUp ρ n v) n := by
    unfold rlC
    rw [sv, hbt]
    unfold eUp
    rw [if_pos rfl]
    exact cvF_up ex hv
  refine kk σ82 m ⟨sg_F_t a1 (sg_F_m F2 rfl), ⟨by rw [sg_F_g F2 (by rfl)]; exact a2, by rw [sg_F_g F2 (by rfl)]; exact a3⟩, ⟨by rw [sg_F_g f82 (by rfl)]; exact t2, by rw [sg_F_g F2 (by rfl)]; exact a5, by rw [sg_F_g F2 (by rfl)]; exact a6, by rw [sg_F_g F2 (by rfl)]; exact a7⟩, ⟨t0, by omega⟩, a9, a10, by rw [sg_F_g F2 (by rfl)]; exact a11, a12⟩ ⟨ex, fun i _ => sg_F_ga F rfl, fun b hb' hr => ?_, fun x _ _ => ⟨sg_F_ga F rfl, sg_F_ga F rfl, sg_F_ga F rfl, sg_F_ga F rfl, sg_F_ga F rfl⟩, fun q _ => sg_F_ga F rfl⟩ rn rfl
  by_cases cb : b = n
  · subst cb; exact rn
  · have e : eUp ρ n v b = ρ b := by unfold eUp; rw [if_neg cb]
    unfold rlC
    rw [e, so _ (fun z => cb (hSl.2 b n hb' hb z))]
    exact cvF_up ex hr

theorem nN_let (hW : ckW σ A) (hSl : slA σ vb) (hVb : ∀ b, vbF A D b → vb b) (F : nN σ A D vb X B call ds nl dix f) {n : Int} {L1 : List Int} {sc : List (Int × Int)} {p : Int} (hk : A.2.1 n = 2) (hf : fT A (A.2.2.2.2.1 n) L1) (hN : L1.Nodup) (hL : ∀ x ∈ n :: L1, nl ≤ x ∧ lyQ σ A D B dix x) (hty : tyN A ds (sg_g σ 6) B (f + 1) sc n) (hp : pl σ p (cd A (f + 1) n)) (hj : jpN σ A (f + 1) n p) {σ8 : sg_S} {m : Nat} {ρ : eV} {t w s c cr : Int} (h8 : nP σ σ8 t w s c p) (hS : scP σ A D vb σ8 ρ sc) (hm : 8 * (3001 - w) + cr ≤ (m : Int)) (hcr : 0 ≤ cr) (k : kN σ A D vb X σ8 ρ t s c (p + (cd A (f + 1) n).length) cr nl dix (n :: L1) (sg_g σ 6 n).toNat (evN A (sg_g σ 6) B call (f + 1) n ρ w)) : Rn σ X m σ8 := by
  obtain ⟨t1, t2, t3, t4, t5, t6, t7, t8, t9⟩ := hty
  obtain ⟨c1, c2⟩ := ck3 hW t2
  obtain ⟨w1, w2, w3, w4, w5, w6, w7, w8⟩ := id t1
  obtain ⟨a, d, hk2⟩ := kid2 (w3 (Or.inl hk))
  have ho : kOrd A n = [a, d] := by unfold kOrd; rw [if_neg (by omega), hk2]
  obtain ⟨ta, td⟩ := t7 hk a d hk2
  have e6 : sg_g σ 6 d = sg_g σ 6 n := by
    have := t5 (by omega)
    rw [kTy_2 hk, hk2] at this
    simpa using this
  have hcn : cnc A n = [] := by unfold cnc; rw [if_pos hk]
  have ah0 : ahd A n 0 = [] := by unfold ahd; rw [if_neg (by omega), if_neg (by omega), if_neg (by omega), if_neg (by omega)]
  have ah1 : ahd A n 1 = [(4, n)] := by unfold ahd; rw [if_pos ⟨hk, rfl⟩]
  have hcd : cd A (f + 1) n = (0, n) :: (cd A f a ++ (4, n) :: cd A f d) := by
    simp only [cd]
    rw [ho, hcn, List.append_nil]
    simp only [cdS, ah0, ah1, List.nil_append, List.append_nil, List.cons_append]
  have hj1 := hj.1
  rw [ho] at hj1
  simp only [jpS, ah0, ah1, List.length_nil, List.length_cons, Int.ofNat_zero, Int.cast_ofNat_Int, Int.add_zero, Nat.zero_add, and_true] at hj1
  obtain ⟨-, j1, -, j2⟩ := hj1
  rw [hcd] at hp k
  have p0 := pl_c hp
  obtain ⟨p1, p2⟩ := pl_a p0.2.2.2
  have p3 := pl_c p2
  rw [eN_2 hk, hk2] at k
  simp only [List.getD_cons_zero, List.getD_cons_succ] at k
  rw [hk2] at hf
  obtain ⟨La, Ld, e3, fa, fd⟩ := fT_spl [a] [d] L1 hf
  have ia : ∀ x, x ∈ La → x ∈ n :: L1 := fun x hx => by rw [e3]; simp [hx]
  have id' : ∀ x, x ∈ Ld → x ∈ n :: L1 := fun x hx => by rw [e3]; simp [hx]
  have hNa : La.Nodup := List.Nodup.sublist (by rw [e3]; exact List.sublist_append_left _ _) hN
  have hNd : Ld.Nodup := List.Nodup.sublist (by rw [e3]; exact List.sublist_append_right _ _) hN
  have tb := h8.2.2.2.1.1
  have w9 := h8.2.2.2.2.1
  have vbn : vb n := hVb n (Or.inl ⟨t2, hk⟩)
  have btn : bTy A D (sg_g σ 6) n = sg_g σ 6 a := by rw [bTw_l (by omega), hk2]; rfl
  refine zn_begin h8 (by omega) hp (fun z σ' f' e' w' => ?_) (fun z σ1 m1 h1 f1 hm1 => ?_)
  · rw [if_neg z] at k; exact k σ' f' e' (by decide) w'
  rw [if_pos z] at k
  have u1 : nU σ A D vb σ8 σ1 ρ ρ t nl dix (n :: L1) := nU_F f1 rfl
  refine F a La sc (p + 1) fa hNa (fun x hx => hL x (ia x hx)) ta p1 j1 σ1 m1 ρ t (w + 1) (s + 1) (c + 1) (cr + 7) h1 (scP_u hS u1) (by omega) (by omega) ?_
  generalize evN A (sg_g σ 6) B call f a ρ (w + 1) = r at k
  match r, k with
  | .inl (e, w'), k => exact fun σ' q1 q2 q3 q4 => k σ' q1 q2 q3 q4
  | .inr (v, w1', s1, ρ1), k =>
    intro σ2 m2 h2 u2 v2 hm2
    simp only at k
    have w29 := h2.2.2.2.2.1
    refine zn_bind (ρ := ρ1) (nl := nl) (dix := dix) (A := A) (D := D) (d := (sg_g σ 6 a).toNat) (v := v) h2 tb (by omega) p2 ⟨t2.1, c2⟩ hSl vbn (by rw [btn]) v2 (fun σ3 m3 h3 u3 r3 hm3 => ?_)
    have u12 : nU σ A D vb σ8 σ2 ρ ρ1 t nl dix (n :: L1) := nU_t u1 u2 ⟨Int.le_refl _, Int.le_refl _⟩ (fun _ hx => hx) ia
    have u13 : nU σ A D vb σ8 σ3 ρ (eUp ρ1 n v) t nl dix (n :: L1) := nU_t u12 u3 ⟨Int.le_refl _, Int.le_refl _⟩ (fun _ hx => hx) (by simp)
    refine F d Ld _ (p + 1 + (cd A f a).length + 1) fd hNd (fun x hx => hL x (id' x hx)) td p3.2.2.2 j2 σ3 m3 (eUp ρ1 n v) t w1' (s + 1 + s1) (c + 1) (cr + 9) h3 (fun q hq => ?_) (by omega) (by omega) ?_
    · rcases List.mem_cons.mp hq with e | e
      · subst e; exact ⟨vbn, btn.symm, r3⟩
      · exact scP_u hS u13 q e
    · generalize evN A (sg_g σ 6) B call f d (eUp ρ1 n v) w1' = r2 at k
      match r2, k with
      | .inl (e, w'), k => exact fun σ' q1 q2 q3 q4 => k σ' q1 q2 q3 q4
      | .inr (v2, w2', s2, ρ2), k =>
        intro σ4 m4 h4 u4 v4 hm4
        simp only at k
        refine k σ4 m4 ?_ (nU_t u13 u4 ⟨Int.le_refl _, Int.le_refl _⟩ (fun _ hx => hx) id') (by rw [← e6]; exact v4) (by omega)
        simp only [List.length_cons, List.length_append]
        rw [show p + (((cd A f a).length + ((cd A f d).length + 1) + 1 : Nat) : Int) = p + 1 + (cd A f a).length + 1 + (cd A f d).length by omega, show s + (1 + s1 + s2) = s + 1 + s1 + s2 by omega]
        exact nP_m h4 ⟨h8.2.2.2.2.2.2.2, by omega⟩
/-- FORK, TURN, JOIN -/
theorem zn_fork {σ8 : sg_S} {m : Nat} {ρ : eV} {t w s c p n e : Int} {v : vaF} {C : List (Int × Int)} (h : nP σ σ8 (t + 1) w s c p) (t0 : 0 ≤ t) (hm : 1 ≤ m) (hp : pl σ p ((7, n) :: C)) (hn : 0 ≤ n ∧ n < 200) (hv : cvF σ8 0 v (sg_g σ8 48 t)) (h32e : sg_g σ 32 n = e) (k1 : ¬ v [] = 0 → ∀ σ' m', nP σ σ' t w s c (p + 1) → nU σ A D vb σ8 σ' ρ ρ t nl dix [] → m' + 1 = m → Rn σ X m' σ') (k0 : v [] = 0 → ∀ σ' m', nP σ σ' t w s c e → nU σ A D vb σ8 σ' ρ ρ t nl dix [] → m' + 1 = m → Rn σ X m' σ') : Rn σ X m σ8 := by
  obtain ⟨m, rfl⟩ : ∃ m', m = m' + 1 := ⟨m - 1, by omega⟩
  obtain ⟨p0, p1, p2, p3⟩ := pl_c hp
  refine rn_7 (p := p) (k := n) h.2.2.1.2.2.2 p0 h.2.1.1 p1 p2 (fun σ32 e32 => ?_)
  obtain ⟨h32, f32⟩ := nP_32 h ⟨p0.2, p0.1⟩ e32
  obtain ⟨a1, ⟨a2, a3⟩, ⟨a4, a5, a6, a7⟩, a8, a9, a10, a11, a12⟩ := id h32
  unfold V_nFork
  rw [xa_in (a := 32) hn, sg_F_ga a1 (a := 32) rfl, h32e]
  have ev : sg_g σ32 48 t = v [] := by rw [sg_F_ga f32 rfl]; exact hv.symm
  refine n_pop (t := t) a4 ⟨t0, by omega⟩ (fun σ2 f2 t2 r2 _ _ => ?_)
  rw [ev]
  have F2 : sg_F [8045, 9045] σ8 σ2 := sg_F_t (sg_F_m f32 rfl) (sg_F_m f2 rfl)
  refine ⟨fun z _ => k1 z σ2 m ⟨sg_F_t a1 (sg_F_m f2 rfl), ⟨by rw [sg_F_g f2 (by rfl)]; exact a2, by rw [sg_F_g f2 (by rfl)]; exact a3⟩, ⟨t2, by rw [sg_F_g f2 (by rfl)]; exact a5, by rw [sg_F_g f2 (by rfl)]; exact a6, by rw [sg_F_g f2 (by rfl)]; exact a7⟩, ⟨t0, by omega⟩, a9, a10, by rw [sg_F_g f2 (by rfl)]; exact a11, a12⟩ (nU_F F2 rfl) rfl, fun z σ3 e3 _ => ?_⟩
  have f3 : sg_F [9045] σ2 σ3 := by rw [e3]; exact sg_F_w (sg_F_r _ _) rfl _
  have F3 : sg_F [8045, 9045] σ32 σ3 := sg_F_t (sg_F_m f2 rfl) (sg_F_m f3 rfl)
  have re : sg_R e := by rw [← h32e]; exact sg_Rg _ _ _
  exact k0 z σ3 m ⟨sg_F_t a1 (sg_F_m F3 rfl), ⟨by rw [sg_F_g F3 (by rfl)]; exact a2, by rw [sg_F_g F3 (by rfl)]; exact a3⟩, ⟨by rw [sg_F_g f3 (by rfl)]; exact t2, by rw [sg_F_g F3 (by rfl)]; exact a5, by rw [sg_F_g F3 (by rfl)]; exact a6, by rw [e3, sg_gw_e _ _ _ _ re]⟩, ⟨t0, by omega⟩, a9, a10, by rw [sg_F_g F3 (by rfl)]; exact a11, a12⟩ (nU_F (sg_F_t (sg_F_m f32 rfl) (sg_F_m F3 rfl) : sg_F [8045, 9045] σ8 σ3) rfl) rfl
theorem zn_turn {σ8 : sg_S} {m : Nat} {ρ : eV} {t w s c p n e : Int} {C : List (Int × Int)} (h : nP σ σ8 t w s c p) (hm : 1 ≤ m) (hp : pl σ p ((8, n) :: C)) (hn : 0 ≤ n ∧ n < 200) (h33 : sg_g σ 33 n = e) (kk : ∀ σ' m', nP σ σ' t w s c e → nU σ A D vb σ8 σ' ρ ρ t nl dix [] → (∀ i, sg_g σ' 48 i = sg_g σ8 48 i) → m' + 1 = m → Rn σ X m' σ') : Rn σ X m σ8 := by
  obtain ⟨m, rfl⟩ : ∃ m', m = m' + 1 := ⟨m - 1, by omega⟩
  obtain ⟨p0, p1, p2, p3⟩ := pl_c hp
  refine rn_8 (p := p) (k := n) h.2.2.1.2.2.2 p0 h.2.1.1 p1 p2 (fun σ32 e32 => ?_)
  obtain ⟨h32, f32⟩ := nP_32 h ⟨p0.2, p0.1⟩ e32
  obtain ⟨a1, ⟨a2, a3⟩, ⟨a4, a5, a6, a7⟩, a8, a9, a10, a11, a12⟩ := id h32
  unfold V_nTurn
  rw [xa_in (a := 33) hn, sg_F_ga a1 (a := 33) rfl, h33]
  intro σ1 e1 _
  have f1 : sg_F [9045] σ32 σ1 := by rw [e1]; exact sg_F_w (sg_F_r _ _) rfl _
  have F1 : sg_F [9045] σ8 σ1 := sg_F_t f32 f1
  have re : sg_R e := by rw [← h33]; exact sg_Rg _ _ _
  exact kk σ1 m ⟨sg_F_t a1 (sg_F_m f1 rfl), ⟨by rw [sg_F_g f1 (by rfl)]; exact a2, by rw [sg_F_g f1 (by rfl)]; exact a3⟩, ⟨by rw [sg_F_g f1 (by rfl)]; exact a4, by rw [sg_F_g f1 (by rfl)]; exact a5, by rw [sg_F_g f1 (by rfl)]; exact a6, by rw [e1, sg_gw_e _ _ _ _ re]⟩, a8, a9, a10, by rw [sg_F_g f1 (by rfl)]; exact a11, a12⟩ (nU_F F1 rfl) (fun i => sg_F_ga F1 rfl) rfl
theorem zn_join {σ8 : sg_S} {m : Nat} {ρ : eV} {t w s c p n : Int} {C : List (Int × Int)} (h : nP σ σ8 t w s c p) (hm : 1 ≤ m) (hp : pl σ p ((9, n) :: C)) (kk : ∀ σ' m', nP σ σ' t w s c (p + 1) → nU σ A D vb σ8 σ' ρ ρ t nl dix [] → (∀ i, sg_g σ' 48 i = sg_g σ8 48 i) → m' + 1 = m → Rn σ X m' σ') : Rn σ X m σ8 := by
  obtain ⟨m, rfl⟩ : ∃ m', m = m' + 1 := ⟨m - 1, by omega⟩
  obtain ⟨p0, p1, p2, p3⟩ := pl_c hp
  refine rn_9 (p := p) (k := n) h.2.2.1.2.2.2 p0 h.2.1.1 p1 p2 (fun σ32 e32 => ?_)
  obtain ⟨h32, f32⟩ := nP_32 h ⟨p0.2, p0.1⟩ e32
  unfold V_nJoin
  exact fun _ => kk σ32 m h32 (nU_F f32 rfl) (fun i => sg_F_ga f32 rfl) rfl

theorem nN_if (hW : ckW σ A) (F : nN σ A D vb X B call ds nl dix f) {n : Int} {L1 : List Int} {sc : List (Int × Int)} {p : Int} (hk : A.2.1 n = 3) (hf : fT A (A.2.2.2.2.1 n) L1) (hN : L1.Nodup) (hL : ∀ x ∈ n :: L1, nl ≤ x ∧ lyQ σ A D B dix x) (hty : tyN A ds (sg_g σ 6) B (f + 1) sc n) (hp : pl σ p (cd A (f + 1) n)) (hj : jpN σ A (f + 1) n p) {σ8 : sg_S} {m : Nat} {ρ : eV} {t w s c cr : Int} (h8 : nP σ σ8 t w s c p) (hS : scP σ A D vb σ8 ρ sc) (hm : 8 * (3001 - w) + cr ≤ (m : Int)) (hcr : 0 ≤ cr) (k : kN σ A D vb X σ8 ρ t s c (p + (cd A (f + 1) n).length) cr nl dix (n :: L1) (sg_g σ 6 n).toNat (evN A (sg_g σ 6) B call (f + 1) n ρ w)) : Rn σ X m σ8 := by
  obtain ⟨t1, t2, t3, t4, t5, t6, t7, t8, t9⟩ := hty
  obtain ⟨c1, c2⟩ := ck3 hW t2
  obtain ⟨w1, w2, w3, w4, w5, w6, w7, w8⟩ := id t1
  have hl3 := w4 hk
  obtain ⟨a, b, d, hk2⟩ : ∃ a b d, A.2.2.2.2.1 n = [a, b, d] := by
    match hh : A.2.2.2.2.1 n, hl3 with
    | [a, b, d], _ => exact ⟨a, b, d, rfl⟩
  have n2 : ¬ A.2.1 n = 2 := by omega
  have n15 : ¬ A.2.1 n = 15 := by omega
  have ho : kOrd A n = [a, b, d] := by unfold kOrd; rw [if_neg n15, hk2]
  have tk := t9 n2 n15
  rw [hk2] at tk
  have e6 := t5 (by omega)
  rw [kTy_3 hk, hk2] at e6
  obtain ⟨i1, i2, i3⟩ := kIs_in e6
  simp only [List.map_cons, List.map_nil, List.getD_cons_zero, List.getD_cons_succ, Bool.and_eq_true, decide_eq_true_eq] at i1 i3
  have hcn : cnc A n = [(9, n)] := by unfold cnc; rw [if_neg n2, if_pos hk]
  have ah0 : ahd A n 0 = [] := by unfold ahd; rw [if_neg (by omega), if_neg (by omega), if_neg (by omega), if_neg (by omega)]
  have ah1 : ahd A n 1 = [(7, n)] := by unfold ahd; rw [if_neg (by omega), if_pos ⟨hk, by omega⟩, if_pos rfl]
  have ah2 : ahd A n 2 = [(8, n)] := by unfold ahd; rw [if_neg (by omega), if_pos ⟨hk, by omega⟩, if_neg (by omega)]
  have hcd : cd A (f + 1) n = (0, n) :: (cd A f a ++ (7, n) :: (cd A f b ++ (8, n) :: (cd A f d ++ [(9, n)]))) := by
    simp only [cd]
    rw [ho, hcn]
    simp only [cdS, ah0, ah1, ah2, List.nil_append, List.append_nil, List.cons_append, List.append_assoc, Nat.zero_add, Nat.reduceAdd]
  have hj33 := hj.2.1 hk
  have hj1 := hj.1
  rw [ho] at hj1
  simp only [jpS, ah0, ah1, ah2, List.length_nil, List.length_cons, Int.ofNat_zero, Int.cast_ofNat_Int, Int.add_zero, Nat.zero_add, Nat.reduceAdd, and_true] at hj1
  obtain ⟨-, j1, -, j2, ⟨j32, -⟩, j3⟩ := hj1
  have j32' := j32 hk trivial
  rw [hcd] at hp k hj33
  have p0 := pl_c hp
  obtain ⟨p1, p2⟩ := pl_a p0.2.2.2
  have p3 := pl_c p2
  obtain ⟨p4, p5⟩ := pl_a p3.2.2.2
  have p6 := pl_c p5
  obtain ⟨p7, p8⟩ := pl_a p6.2.2.2
  rw [eN_3 hk, hk2] at k
  rw [hk2] at hf
  obtain ⟨La, Lr, e3, fa, fr⟩ := fT_spl [a] [b, d] L1 hf
  obtain ⟨Lb, Ld, e4, fb, fd⟩ := fT_spl [b] [d] Lr fr
  have ia : ∀ x, x ∈ La → x ∈ n :: L1 := fun x hx => by rw [e3]; simp [hx]
  have ib : ∀ x, x ∈ Lb → x ∈ n :: L1 := fun x hx => by rw [e3, e4]; simp [hx]
  have id' : ∀ x, x ∈ Ld → x ∈ n :: L1 := fun x hx => by rw [e3, e4]; simp [hx]
  have hNa : La.Nodup := List.Nodup.sublist (by rw [e3]; exact List.sublist_append_left _ _) hN
  have hNr : Lr.Nodup := List.Nodup.sublist (by rw [e3]; exact List.sublist_append_right _ _) hN
  have hNb : Lb.Nodup := List.Nodup.sublist (by rw [e4]; exact List.sublist_append_left _ _) hNr
  have hNd : Ld.Nodup := List.Nodup.sublist (by rw [e4]; exact List.sublist_append_right _ _) hNr
  have tb := h8.2.2.2.1.1
  have w9 := h8.2.2.2.2.1
  have c0 := h8.2.2.2.2.2.2.2
  refine zn_begin h8 (by omega) hp (fun z σ' f' e' w' => ?_) (fun z σ1 m1 h1 f1 hm1 => ?_)
  · rw [if_neg z] at k; exact k σ' f' e' (by decide) w'
  rw [if_pos z] at k
  simp only [List.getD_cons_zero] at k
  have u1 : nU σ A D vb σ8 σ1 ρ ρ t nl dix (n :: L1) := nU_F f1 rfl
  refine F a La sc (p + 1) fa hNa (fun x hx => hL x (ia x hx)) (tk a (by simp)) p1 j1 σ1 m1 ρ t (w + 1) (s + 1) (c + 1) (cr + 7) h1 (scP_u hS u1) (by omega) (by omega) ?_
  generalize evN A (sg_g σ 6) B call f a ρ (w + 1) = r at k
  match r, k with
  | .inl (e, w'), k => exact fun σ' q1 q2 q3 q4 => k σ' q1 q2 q3 q4
  | .inr (v, w1', s1, ρ1), k =>
    intro σ2 m2 h2 u2 v2 hm2
    simp only at k
    have w29 := h2.2.2.2.2.1
    rw [i3.1] at v2
    have u12 : nU σ A D vb σ8 σ2 ρ ρ1 t nl dix (n :: L1) := nU_t u1 u2 ⟨Int.le_refl _, Int.le_refl _⟩ (fun _ hx => hx) ia
    refine zn_fork (ρ := ρ1) (nl := nl) (dix := dix) (A := A) (D := D) (vb := vb) (v := v) h2 tb (by omega) p2 ⟨t2.1, c2⟩ v2 j32' (fun z2 σ3 m3 h3 u3 hm3 => ?_) (fun z2 σ3 m3 h3 u3 hm3 => ?_)
    · rw [if_neg z2] at k
      simp only [List.getD_cons_succ, List.getD_cons_zero] at k
      have u13 : nU σ A D vb σ8 σ3 ρ ρ1 t nl dix (n :: L1) := nU_t u12 u3 ⟨Int.le_refl _, Int.le_refl _⟩ (fun _ hx => hx) (by simp)
      refine F b Lb sc (p + 1 + (cd A f a).length + 1) fb hNb (fun x hx => hL x (ib x hx)) (tk b (by simp)) p4 j2 σ3 m3 ρ1 t w1' (s + 1 + s1) (c + 1) (cr + 9) h3 (scP_u hS u13) (by omega) (by omega) ?_
      generalize evN A (sg_g σ 6) B call f b ρ1 w1' = r2 at k
      match r2, k with
      | .inl (e, w'), k => exact fun σ' q1 q2 q3 q4 => k σ' q1 q2 q3 q4
      | .inr (v3, w2', s2, ρ2), k =>
        intro σ4 m4 h4 u4 v4 hm4
        simp only at k
        have w49 := h4.2.2.2.2.1
        refine zn_turn (ρ := ρ2) (nl := nl) (dix := dix) (A := A) (D := D) (vb := vb) h4 (by omega) p5 ⟨t2.1, c2⟩ hj33 (fun σ5 m5 h5 u5 g5 hm5 => ?_)
        refine k σ5 m5 ?_ (nU_t (nU_t u13 u4 ⟨Int.le_refl _, Int.le_refl _⟩ (fun _ hx => hx) ib) u5 ⟨Int.le_refl _, by omega⟩ (fun _ hx => hx) (by simp)) (by rw [g5, i1]; exact cvF_up u5.1 v4) (by omega)
        rw [show s + (1 + s1 + s2) = s + 1 + s1 + s2 by omega]
        exact nP_m h5 ⟨c0, by omega⟩
    · rw [if_pos z2] at k
      simp only [List.getD_cons_succ, List.getD_cons_zero] at k
      have u13 : nU σ A D vb σ8 σ3 ρ ρ1 t nl dix (n :: L1) := nU_t u12 u3 ⟨Int.le_refl _, Int.le_refl _⟩ (fun _ hx => hx) (by simp)
      refine F d Ld sc (p + 1 + (cd A f a).length + 1 + (cd A f b).length + 1) fd hNd (fun x hx => hL x (id' x hx)) (tk d (by simp)) p7 j3 σ3 m3 ρ1 t w1' (s + 1 + s1) (c + 1) (cr + 9) h3 (scP_u hS u13) (by omega) (by omega) ?_
      generalize evN A (sg_g σ 6) B call f d ρ1 w1' = r2 at k
      match r2, k with
      | .inl (e, w'), k => exact fun σ' q1 q2 q3 q4 => k σ' q1 q2 q3 q4
      | .inr (v3, w2', s2, ρ2), k =>
        intro σ4 m4 h4 u4 v4 hm4
        simp only at k
        have w49 := h4.2.2.2.2.1
        refine zn_join (ρ := ρ2) (nl := nl) (dix := dix) (A := A) (D := D) (vb := vb) h4 (by omega) p8 (fun σ5 m5 h5 u5 g5 hm5 => ?_)
        refine k σ5 m5 ?_ (nU_t (nU_t u13 u4 ⟨Int.le_refl _, Int.le_refl _⟩ (fun _ hx => hx) id') u5 ⟨Int.le_refl _, by omega⟩ (fun _ hx => hx) (by simp)) (by rw [g5, i1, i3.2]; exact cvF_up u5.1 v4) (by omega)
        simp only [List.length_cons, List.length_append, List.length_nil]
        rw [show p + (((cd A f a).length + ((cd A f b).length + ((cd A f d).length + (0 + 1) + 1) + 1) + 1 : Nat) : Int) = p + 1 + (cd A f a).length + 1 + (cd A f b).length + 1 + (cd A f d).length + 1 by omega, show s + (1 + s1 + s2) = s + 1 + s1 + s2 by omega]
        exact nP_m h5 ⟨c0, by omega⟩
end NLT
