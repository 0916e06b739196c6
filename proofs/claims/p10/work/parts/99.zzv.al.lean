/-! BIG STEPS of the nested run: the places of a { }. -/
section NVS
variable {σ : sg_S} {Q : sg_S → Prop}
theorem n_visit {n i N g b1 t s0 bs pt pe : Int} (hn : 0 ≤ n ∧ n < 200) (h13 : sg_g σ 13 n = g) (hg : 1 ≤ g ∧ g ≤ 4) (h16 : sg_g σ 16 n = b1) (hb : 0 ≤ b1 ∧ b1 + g ≤ 272) (h56 : sg_g σ 56 n = t + g) (h57 : sg_g σ 57 n = i) (h58 : sg_g σ 58 n = N) (h59 : sg_g σ 59 n = s0) (h60 : sg_g σ 60 n = bs) (h32 : sg_g σ 32 n = pt) (h33 : sg_g σ 33 n = pe) (t0 : 0 ≤ t ∧ t + g ≤ 3200) (hs : sg_R (s0 + bs)) (hit : i < N → ∀ j : Nat, (j : Int) < g → p_nItemOf σ (sg_g σ 48 (t + j)) i ∧ sg_R (v_nItemOf σ (sg_g σ 48 (t + j)) i)) (k1 : i < N → ∀ σ', sg_F [46, 9045, 24045] σ σ' → (∀ j : Nat, (j : Int) < g → sg_g σ' 46 (b1 + j) = v_nItemOf σ (sg_g σ 48 (t + j)) i) → (∀ x, ¬ (b1 ≤ x ∧ x < b1 + g) → sg_g σ' 46 x = sg_g σ 46 x) → sg_g σ' 45 23 = 0 → sg_g σ' 45 8 = pt → Q σ') (k2 : N ≤ i → ∀ σ', sg_F [9045, 24045] σ σ' → sg_g σ' 45 23 = s0 + bs → sg_g σ' 45 8 = pe → Q σ') : V_nVisit σ n Q := by
  unfold V_nVisit
  rw [xa_in (a := 57) hn, xa_in (a := 58) hn, xa_in (a := 13) hn, xa_in (a := 56) hn, xa_in (a := 16) hn, xa_in (a := 32) hn, xa_in (a := 33) hn, xa_in (a := 59) hn, xa_in (a := 60) hn, h57, h58, h13, h56, h16, h32, h33, h59, h60, show t + g - g = t by omega]
  have rt : sg_R pt := by rw [← h32]; exact sg_Rg _ _ _
  have re : sg_R pe := by rw [← h33]; exact sg_Rg _ _ _
  refine ⟨fun z => ?_, fun z => ⟨hs, fun σ36 e36 σ39 e39 => k2 z σ39 ?_ ?_ ?_⟩⟩
  · refine ⟨fun m v2 σ3 => ∃ j : Nat, v2 = j ∧ m = 4 - j ∧ (j : Int) ≤ g ∧ (∀ j' : Nat, j' < j → sg_g σ3 46 (b1 + j') = v_nItemOf σ (sg_g σ 48 (t + j')) i) ∧ ∀ x, ¬ (b1 ≤ x ∧ x < b1 + j) → sg_g σ3 46 x = sg_g σ 46 x, fun σ3 => (∀ j : Nat, (j : Int) < g → sg_g σ3 46 (b1 + j) = v_nItemOf σ (sg_g σ 48 (t + j)) i) ∧ ∀ x, ¬ (b1 ≤ x ∧ x < b1 + g) → sg_g σ3 46 x = sg_g σ 46 x, ⟨_, 0, rfl, rfl, by omega, fun j hj => by omega, fun x _ => rfl⟩, ?_, ?_⟩
    · rintro m v2 σ3 r2 f3 ⟨j, rfl, em, hj, a1, a2⟩
      have fin : g ≤ (j : Int) → (∀ j : Nat, (j : Int) < g → sg_g σ3 46 (b1 + j) = v_nItemOf σ (sg_g σ 48 (t + j)) i) ∧ ∀ x, ¬ (b1 ≤ x ∧ x < b1 + g) → sg_g σ3 46 x = sg_g σ 46 x := fun y => ⟨fun j' hj' => a1 j' (by omega), fun x hx => a2 x (by omega)⟩
      refine ⟨fun y => fin y, fun y => ⟨fun y2 => fin (by omega), fun y2 => ?_⟩⟩
      obtain ⟨q1, q2⟩ := hit z j y
      rw [xa_in (a := 48) ⟨by omega, by omega⟩]
      refine ⟨⟨by omega, by omega⟩, ⟨by omega, by omega⟩, ⟨by omega, by omega⟩, q1, fun σ30 e30 => ⟨⟨by omega, by omega⟩, 4 - (j + 1), by omega, j + 1, by omega, rfl, by omega, fun j' hj' => ?_, fun x hx => ?_⟩⟩
      · rw [xp_in ⟨by omega, by omega⟩] at e30
        by_cases c : j' = j
        · subst c; rw [e30, sg_gw_e _ _ _ _ q2]
        · rw [e30, sg_gw_k _ _ _ _ _ _ (by omega)]; exact a1 j' (by omega)
      · rw [xp_in ⟨by omega, by omega⟩] at e30
        rw [e30, sg_gw_k _ _ _ _ _ _ (by omega)]; exact a2 x (by omega)
    · rintro σ3 f3 ⟨a1, a2⟩ σ17 e17 σ20 e20
      refine k1 z σ20 ?_ (fun j hj => ?_) (fun x hx => ?_) ?_ ?_
      · rw [e20, e17]; exact sg_F_w (sg_F_w (sg_F_m f3 rfl) rfl _) rfl _
      · rw [e20, sg_gw_c _ _ _ _ _ _ (by decide), e17, sg_gw_c _ _ _ _ _ _ (by decide)]; exact a1 j hj
      · rw [e20, sg_gw_c _ _ _ _ _ _ (by decide), e17, sg_gw_c _ _ _ _ _ _ (by decide)]; exact a2 x hx
      · rw [e20, sg_gw_k _ _ _ _ _ _ (by decide), e17, sg_gw_e _ _ _ _ (by decide)]
      · rw [e20, sg_gw_e _ _ _ _ rt]
  · rw [e39, e36]; exact sg_F_w (sg_F_w (sg_F_r _ _) rfl _) rfl _
  · rw [e39, sg_gw_k _ _ _ _ _ _ (by decide), e36, sg_gw_e _ _ _ _ hs]
  · rw [e39, sg_gw_e _ _ _ _ re]
end NVS
/-- before a place is visited -/
def eI (σ : sg_S) (σ7 : sg_S) (n t w c g N s0 bs : Int) (i : Nat) (xs : List Int) (vs acc : List vaF) (dB : Nat) : Prop := sg_F nRL σ σ7 ∧ (sg_g σ7 45 10 = 0 ∧ sg_g σ7 45 21 = 0) ∧ (sg_g σ7 45 7 = t + g + acc.length ∧ sg_g σ7 45 22 = w) ∧ (0 ≤ t ∧ t + g + acc.length + c ≤ w) ∧ (0 ≤ w ∧ w ≤ 3000) ∧ (0 ≤ sg_g σ7 45 20 ∧ sg_g σ7 45 20 + 3 * c ≤ 3 * w) ∧ (sg_g σ7 56 n = t + g ∧ sg_g σ7 57 n = i ∧ sg_g σ7 58 n = N ∧ sg_g σ7 59 n = s0 ∧ sg_g σ7 60 n = bs) ∧ (0 ≤ s0 ∧ 0 ≤ bs ∧ s0 + bs ≤ w) ∧ (∀ (j : Nat) (x : Int) (v : vaF), xs[j]? = some x → vs[j]? = some v → cvF σ7 (sg_g σ 6 x).toNat v (sg_g σ7 48 (t + j))) ∧ ∀ (j : Nat) (v : vaF), acc[j]? = some v → cvF σ7 dB v (sg_g σ7 48 (t + g + j))
section NPL
variable (σ : sg_S) (A : aT) (D : List aDf) (vb : Int → Prop) (X : sg_S → Prop)
/-- what all places are to be followed by -/
def kEc (σ2 : sg_S) (ρ2 : eV) (n t s0 c cr g nl dix : Int) (L : List Int) (dB : Nat) : eRs → Prop
  | .inl (e, w') => ∀ σ', sg_F nRL σ σ' → sg_g σ' 45 10 = e → ¬ e = 0 → sg_g σ' 45 22 = w' → X σ'
  | .inr (acc, w', bs, ρ') => ∀ σ' m', nP σ σ' (t + g + acc.length) w' (s0 + bs) c (sg_g σ 33 n) → sg_g σ' 56 n = t + g → acc.length ≤ 200 → (∀ (j : Nat) (v : vaF), acc[j]? = some v → cvF σ' dB v (sg_g σ' 48 (t + g + j))) → nU σ A D vb σ2 σ' ρ2 ρ' t nl dix L → 8 * (3001 - w') + cr ≤ ((m' : Nat) : Int) → Rn σ X m' σ'
end NPL
theorem gscF_m {n : Int} {T : Int → Int} : ∀ {xs : List Int} {j : Nat} {p : Int × Int}, p ∈ gsc n T j xs → ∃ (i : Nat) (x : Int), xs[i]? = some x ∧ p = (210 + 4 * n + ((j + i : Nat) : Int), T x - 1)
  | [], j, p, h => by simp [gsc] at h
  | x :: xs, j, p, h => by
    simp only [gsc] at h
    rcases List.mem_cons.mp h with e | e
    · exact ⟨0, x, rfl, by rw [e]; rfl⟩
    · obtain ⟨i, y, h1, h2⟩ := gscF_m e
      exact ⟨i + 1, y, h1, by rw [h2, show j + 1 + i = j + (i + 1) by omega]⟩
section NPK
variable {σ : sg_S} {A : aT} {D : List aDf} {vb : Int → Prop} {X : sg_S → Prop} {B : Int → Int} {call : Int → eV → Int → eR} {ds : kD} {nl dix : Int} {f : Nat}
/-- a part within a { } leaves what stands before a place -/
theorem eI_u {σ7 σ9 : sg_S} {ρ ρ9 : eV} {n t w w9 c g N s0 bs p s9 : Int} {i : Nat} {xs L : List Int} {vs acc acc9 : List vaF} {dB : Nat} (h : eI σ σ7 n t w c g N s0 bs i xs vs acc dB) (hg : 0 ≤ g) (hx : xs.length = vs.length ∧ (vs.length : Int) = g) (h9 : nP σ σ9 (t + g + acc9.length) w9 s9 c p) (u : nU σ A D vb σ7 σ9 ρ ρ9 (t + g + acc.length) nl dix L) (hn : nl ≤ n) (hL : n ∉ L) (hw : w ≤ w9) (ha : ∀ (j : Nat) (v : vaF), acc9[j]? = some v → cvF σ9 dB v (sg_g σ9 48 (t + g + j))) : eI σ σ9 n t w9 c g N s0 bs i xs vs acc9 dB := by
  obtain ⟨a1, ⟨a2, a3⟩, ⟨a4, a5⟩, a6, a7, a8, ⟨b1, b2, b3, b4, b5⟩, a9, a10, a11⟩ := h
  obtain ⟨c1, c2, ⟨c3, c4, c5, c6⟩, c7, c8, c9, c10, c11⟩ := h9
  obtain ⟨e1, e2, e3, e4, e5⟩ := u.2.2.2.1 n hn hL
  refine ⟨c1, c2, ⟨c3, c4⟩, ⟨a6.1, c7.2⟩, c8, c10, ⟨e1.trans b1, e2.trans b2, e3.trans b3, e4.trans b4, e5.trans b5⟩, ⟨a9.1, a9.2.1, by omega⟩, fun j x v hx' hv => ?_, ha⟩
  have := gE_l hv
  rw [u.2.1 _ (by omega)]
  exact cvF_up u.1 (a10 j x v hx' hv)
theorem zn_vis (hc : gB (evN A (sg_g σ 6) B call f)) (F : nN σ A D vb X B call ds nl dix f) (hSl : slA σ vb) {n t s0 c cr b1 N : Int} {g : Nat} {gd xs Lb Lg L : List Int} {bd pb : Int} {sc : List (Int × Int)} {vs : List vaF} {dB : Nat} {σ2 : sg_S} {ρ2 : eV} (hn : 0 ≤ n ∧ n < 200) (hnl : nl ≤ n) (hg : 1 ≤ g ∧ g ≤ 4) (h13 : sg_g σ 13 n = g) (h16 : sg_g σ 16 n = b1) (hb1 : 0 ≤ b1 ∧ b1 + g ≤ 272) (hpv : ∀ j : Nat, j < g → vb (210 + 4 * n + j) ∧ slF σ (210 + 4 * n + j) = b1 + j) (hxl : xs.length = g) (hvl : vs.length = g) (hxt : ∀ (j : Nat) (x : Int), xs[j]? = some x → 0 < sg_g σ 6 x ∧ bTy A D (sg_g σ 6) (210 + 4 * n + j) = sg_g σ 6 x - 1) (hvN : ∀ (j : Nat) (v : vaF), vs[j]? = some v → ((itF v).length : Int) = N) (hN : N ≤ 200) (hcr : 0 ≤ cr) (hnL : n ∈ L) (fb : fT A [bd] Lb) (hNb : Lb.Nodup) (hLb : ∀ x ∈ Lb, (nl ≤ x ∧ lyQ σ A D B dix x) ∧ x ∈ L ∧ ¬ x = n) (tyb : tyN A ds (sg_g σ 6) B f (gsc n (sg_g σ 6) 0 xs ++ sc) bd) (plb : pl σ pb (cd A f bd ++ [(12, n), (1, n)])) (jpb : jpN σ A f bd pb) (hdB : (sg_g σ 6 bd).toNat = dB) (hgd : (gd = [] ∧ pb = sg_g σ 32 n) ∨ ∃ g0, gd = [g0] ∧ fT A [g0] Lg ∧ Lg.Nodup ∧ (∀ x ∈ Lg, (nl ≤ x ∧ lyQ σ A D B dix x) ∧ x ∈ L ∧ ¬ x = n) ∧ tyN A ds (sg_g σ 6) B f (gsc n (sg_g σ 6) 0 xs ++ sc) g0 ∧ pl σ (sg_g σ 32 n) (cd A f g0 ++ (11, n) :: (cd A f bd ++ [(12, n), (1, n)])) ∧ jpN σ A f g0 (sg_g σ 32 n) ∧ sg_g σ 6 g0 = 0 ∧ pb = sg_g σ 32 n + (cd A f g0).length + 1) (hS2 : scP σ A D vb σ2 ρ2 sc) (h33 : sg_g σ 33 n = pb + (cd A f bd).length + 1) : ∀ (k i : Nat) (ρ : eV) (w bs : Int) (acc : List vaF) (σ7 : sg_S) (m : Nat), (i : Int) + k = N → acc.length ≤ i → eI σ σ7 n t w c g N s0 bs i xs vs acc dB → nU σ A D vb σ2 σ7 ρ2 ρ t nl dix L → 8 * (3001 - w) + cr ≤ (m : Int) → 0 ≤ c → kEc σ A D vb X σ2 ρ2 n t s0 c cr g nl dix L dB (eP (fun i ρ w => evT (evN A (sg_g σ 6) B call f) gd bd (eUs ρ (210 + 4 * n) 0 (vs.map (fun v => (itF v).getD i (nmF 0)))) w) k i ρ w bs acc) → ∀ Q : sg_S → Prop, (∀ σ', Rn σ X m σ' → Q σ') → V_nVisit σ7 n Q := by
  intro k
  induction k with
  | zero =>
    intro i ρ w bs acc σ7 m hik hai h7 hu hm hc0 kk Q hQ
    obtain ⟨a1, ⟨a2, a3⟩, ⟨a4, a5⟩, a6, a7, a8, ⟨c1, c2, c3, c4, c5⟩, a9, a10, a11⟩ := id h7
    refine n_visit (t := t) (g := g) (b1 := b1) (i := i) (N := N) hn (by rw [sg_F_ga a1 rfl]; exact h13) ⟨by omega, by omega⟩ (by rw [sg_F_ga a1 rfl]; exact h16) hb1 c1 c2 c3 c4 c5 (sg_F_ga a1 rfl) (sg_F_ga a1 rfl) ⟨a6.1, by omega⟩ ⟨by omega, by omega⟩ (fun z => by omega) (fun z => by omega) (fun z σ' f' q1 q2 => hQ σ' ?_)
    simp only [eP, kEc] at kk
    refine kk σ' m ⟨sg_F_t a1 (sg_F_m f' rfl), ⟨by rw [sg_F_g f' (by rfl)]; exact a2, by rw [sg_F_g f' (by rfl)]; exact a3⟩, ⟨by rw [sg_F_g f' (by rfl)]; exact a4, by rw [sg_F_g f' (by rfl)]; exact a5, q1, q2⟩, ⟨by omega, a6.2⟩, a7, ⟨by omega, a9.2.2⟩, by rw [sg_F_g f' (by rfl)]; exact a8, hc0⟩ (by rw [sg_F_ga f' rfl]; exact c1) (by omega) (fun j v hv => by rw [sg_F_ga f' rfl]; exact cvF_F (a11 j v hv) f' rfl) (nU_t hu (nU_F (L := []) f' rfl) ⟨Int.le_refl _, Int.le_refl _⟩ (fun _ hx => hx) (by simp)) hm
  | succ k ih =>
    intro i ρ w bs acc σ7 m hik hai h7 hu hm hc0 kk Q hQ
    obtain ⟨a1, ⟨a2, a3⟩, ⟨a4, a5⟩, a6, a7, a8, ⟨c1, c2, c3, c4, c5⟩, a9, a10, a11⟩ := id h7
    have hB7 : sg_g σ7 45 20 ≤ 9003 := by omega
    -- NEXT
    have nx : ∀ (σ9 : sg_S) (ρ9 : eV) (w9 s9 : Int) (acc9 : List vaF) (m9 : Nat) (Q9 : sg_S → Prop), acc9.length ≤ i + 1 → eI σ σ9 n t w9 c g N s0 bs i xs vs acc9 dB → sg_g σ9 45 23 = s9 → 0 ≤ s9 ∧ s0 + s9 ≤ w9 → nU σ A D vb σ2 σ9 ρ2 ρ9 t nl dix L → 8 * (3001 - w9) + cr ≤ (m9 : Int) → kEc σ A D vb X σ2 ρ2 n t s0 c cr g nl dix L dB (eP (fun i ρ w => evT (evN A (sg_g σ 6) B call f) gd bd (eUs ρ (210 + 4 * n) 0 (vs.map (fun v => (itF v).getD i (nmF 0)))) w) k (i + 1) ρ9 w9 (if bs < s9 then s9 else bs) acc9) → (∀ σ', Rn σ X m9 σ' → Q9 σ') → V_nNext σ9 n Q9 := by
      intro σ9 ρ9 w9 s9 acc9 m9 Q9 ha9 h9 hs9 hs0 hu9 hm9 kk9 hQ9
      obtain ⟨d1, ⟨d2, d3⟩, ⟨d4, d5⟩, d6, d7, d8, ⟨e1, e2, e3, e4, e5⟩, d9, d10, d11⟩ := id h9
      unfold V_nNext
      rw [xa_in (a := 60) hn, xa_in (a := 57) hn, e5, e2, hs9]
      intro v1 ev1 rv1 σ4 e4'
      rw [xp_in hn] at e4'
      refine ⟨⟨by omega, by omega⟩, fun σ8 e8 => ?_⟩
      rw [xp_in hn] at e8
      have f8 : sg_F [57, 60] σ9 σ8 := by rw [e8, e4']; exact sg_F_w (sg_F_w (sg_F_r _ _) rfl _) rfl _
      have g57 : sg_g σ8 57 n = ((i + 1 : Nat) : Int) := by rw [e8, sg_gw_e _ _ _ _ ⟨by omega, by omega⟩]; omega
      have g60 : sg_g σ8 60 n = v1 := by rw [e8, sg_gw_c _ _ _ _ _ _ (by decide), e4', sg_gw_e _ _ _ _ rv1]
      have o57 : ∀ x, ¬ x = n → sg_g σ8 57 x = sg_g σ9 57 x ∧ sg_g σ8 60 x = sg_g σ9 60 x := fun x hx => by
        constructor
        · rw [e8, sg_gw_k _ _ _ _ _ _ hx, e4', sg_gw_c _ _ _ _ _ _ (by decide)]
        · rw [e8, sg_gw_c _ _ _ _ _ _ (by decide), e4', sg_gw_k _ _ _ _ _ _ hx]
      have v1b : 0 ≤ v1 ∧ s0 + v1 ≤ w9 := by rw [ev1]; split <;> omega
      have u8 : nU σ A D vb σ9 σ8 ρ9 ρ9 t nl dix [n] := ⟨cEx_F f8 rfl, fun j _ => sg_F_ga f8 rfl, fun b _ hr => rl_F hr f8 rfl, fun x _ hx => ⟨sg_F_ga f8 rfl, (o57 x (by simpa using hx)).1, sg_F_ga f8 rfl, sg_F_ga f8 rfl, (o57 x (by simpa using hx)).2⟩, fun q _ => sg_F_ga f8 rfl⟩
      rw [← ev1] at kk9
      refine ih (i + 1) ρ9 w9 v1 acc9 σ8 m9 (by omega) ha9 ⟨sg_F_t d1 (sg_F_m f8 rfl), ⟨by rw [sg_F_g f8 (by rfl)]; exact d2, by rw [sg_F_g f8 (by rfl)]; exact d3⟩, ⟨by rw [sg_F_g f8 (by rfl)]; exact d4, by rw [sg_F_g f8 (by rfl)]; exact d5⟩, d6, d7, by rw [sg_F_g f8 (by rfl)]; exact d8, ⟨by rw [sg_F_ga f8 rfl]; exact e1, g57, by rw [sg_F_ga f8 rfl]; exact e3, by rw [sg_F_ga f8 rfl]; exact e4, g60⟩, ⟨d9.1, v1b.1, v1b.2⟩, fun j x v hx hv => by rw [sg_F_ga f8 rfl]; exact cvF_F (d10 j x v hx hv) f8 rfl, fun j v hv => by rw [sg_F_ga f8 rfl]; exact cvF_F (d11 j v hv) f8 rfl⟩ (nU_t hu9 u8 ⟨Int.le_refl _, Int.le_refl _⟩ (fun _ hx => hx) (fun x hx => by simp at hx; rw [hx]; exact hnL)) hm9 hc0 kk9 _ (fun σ' hR _ => hQ9 σ' hR)
    have iN : (i : Int) < N := by omega
    have item : ∀ (j : Nat) (x : Int) (v : vaF), xs[j]? = some x → vs[j]? = some v → p_nItemOf σ7 (sg_g σ7 48 (t + j)) i ∧ sg_R (v_nItemOf σ7 (sg_g σ7 48 (t + j)) i) ∧ cvF σ7 (sg_g σ 6 x - 1).toNat ((itF v).getD i (nmF 0)) (v_nItemOf σ7 (sg_g σ7 48 (t + j)) i) := fun j x v hx hv => by
      have q := a10 j x v hx hv
      have pos := (hxt j x hx).1
      obtain ⟨d, hd⟩ : ∃ d : Nat, sg_g σ 6 x = (d + 1 : Nat) := ⟨(sg_g σ 6 x - 1).toNat, by omega⟩
      rw [hd, Int.toNat_natCast] at q
      have len := hvN j v hv
      obtain ⟨u, hu'⟩ := gE_x (l := itF v) (i := i) (by omega)
      have r := cv_item hB7 q hu'
      rw [show (sg_g σ 6 x - 1).toNat = d by omega, List.getD_eq_getElem?_getD, hu', Option.getD_some]
      exact r
    refine n_visit (t := t) (g := g) (b1 := b1) (i := i) (N := N) hn (by rw [sg_F_ga a1 rfl]; exact h13) ⟨by omega, by omega⟩ (by rw [sg_F_ga a1 rfl]; exact h16) hb1 c1 c2 c3 c4 c5 (sg_F_ga a1 rfl) (sg_F_ga a1 rfl) ⟨a6.1, by omega⟩ ⟨by omega, by omega⟩ (fun _ j hj => ?_) (fun _ σ3 f3 q1 q2 q3 q4 => hQ σ3 ?_) (fun z => by omega)
    · obtain ⟨x, hx⟩ := gE_x (l := xs) (i := j) (by omega)
      obtain ⟨v, hv⟩ := gE_x (l := vs) (i := j) (by omega)
      exact ⟨(item j x v hx hv).1, (item j x v hx hv).2.1⟩
    -- bound
    have ex3 : cEx σ7 σ3 := cEx_F f3 rfl
    obtain ⟨ws, hws⟩ : ∃ ws, vs.map (fun v => (itF v).getD i (nmF 0)) = ws := ⟨_, rfl⟩
    have wl : ws.length = g := by rw [← hws, List.length_map]; exact hvl
    obtain ⟨r1, r2⟩ := rl_us (A := A) (D := D) (ρ := ρ) (b := 210 + 4 * n) (fs := b1) (vs := ws) hSl (fun j hj => hpv j (by omega)) ex3 (fun j u hj => by
      rw [← hws, List.getElem?_map] at hj
      cases hvj : vs[j]? with
      | none => rw [hvj] at hj; cases hj
      | some v =>
        rw [hvj] at hj
        have hjl := gE_l hvj
        obtain ⟨x, hx⟩ := gE_x (l := xs) (i := j) (by omega)
        have e : (itF v).getD i (nmF 0) = u := Option.some.inj hj
        rw [(hxt j x hx).2, q1 j (by omega), ← e]
        exact cvF_up ex3 (item j x v hx hvj).2.2) (fun x hx => q2 x (by rw [wl] at hx; exact hx))
    have u37 : nU σ A D vb σ7 σ3 ρ (eUs ρ (210 + 4 * n) 0 ws) (t + g + acc.length) nl dix [] := ⟨ex3, fun j _ => sg_F_ga f3 rfl, r2, fun x _ _ => ⟨sg_F_ga f3 rfl, sg_F_ga f3 rfl, sg_F_ga f3 rfl, sg_F_ga f3 rfl, sg_F_ga f3 rfl⟩, fun q _ => sg_F_ga f3 rfl⟩
    have u23 : nU σ A D vb σ2 σ3 ρ2 (eUs ρ (210 + 4 * n) 0 ws) t nl dix L := nU_t hu u37 ⟨Int.le_refl _, by omega⟩ (fun _ hx => hx) (by simp)
    have P3 : nP σ σ3 (t + g + acc.length) w 0 c (sg_g σ 32 n) := ⟨sg_F_t a1 (sg_F_m f3 rfl), ⟨by rw [sg_F_g f3 (by rfl)]; exact a2, by rw [sg_F_g f3 (by rfl)]; exact a3⟩, ⟨by rw [sg_F_g f3 (by rfl)]; exact a4, by rw [sg_F_g f3 (by rfl)]; exact a5, q3, q4⟩, ⟨by omega, a6.2⟩, a7, ⟨Int.le_refl _, a7.1⟩, by rw [sg_F_g f3 (by rfl)]; exact a8, hc0⟩
    have S3 : scP σ A D vb σ3 (eUs ρ (210 + 4 * n) 0 ws) (gsc n (sg_g σ 6) 0 xs ++ sc) := fun q hq => by
      rcases List.mem_append.mp hq with e | e
      · obtain ⟨j, x, hx, rfl⟩ := gscF_m e
        have hj := gE_l hx
        simp only [Nat.zero_add]
        exact ⟨(hpv j (by omega)).1, ((hxt j x hx).2).symm, r1 j (by omega)⟩
      · exact scP_u hS2 u23 q e
    have I3 : eI σ σ3 n t w c g N s0 bs i xs vs acc dB := eI_u (A := A) (D := D) (vb := vb) (nl := nl) (dix := dix) h7 (by omega) ⟨by omega, by omega⟩ P3 u37 hnl (by simp) (Int.le_refl _) (fun j v hv => by rw [sg_F_ga f3 rfl]; exact cvF_up ex3 (a11 j v hv))
    -- the body, then NEXT
    have body : ∀ (σ5 : sg_S) (ρ5 : eV) (w5 s5 : Int) (m5 : Nat) (cr5 : Int), nP σ σ5 (t + g + acc.length) w5 s5 c pb → eI σ σ5 n t w5 c g N s0 bs i xs vs acc dB → w ≤ w5 → s5 ≤ w5 - w → scP σ A D vb σ5 ρ5 (gsc n (sg_g σ 6) 0 xs ++ sc) → nU σ A D vb σ2 σ5 ρ2 ρ5 t nl dix L → 8 * (3001 - w5) + cr5 ≤ (m5 : Int) → cr ≤ cr5 → (match evN A (sg_g σ 6) B call f bd ρ5 w5 with
        | .inl e => kEc σ A D vb X σ2 ρ2 n t s0 c cr g nl dix L dB (.inl e)
        | .inr (v2, w2, s2, ρ6) => kEc σ A D vb X σ2 ρ2 n t s0 c cr g nl dix L dB (eP (fun i ρ w => evT (evN A (sg_g σ 6) B call f) gd bd (eUs ρ (210 + 4 * n) 0 (vs.map (fun v => (itF v).getD i (nmF 0)))) w) k (i + 1) ρ6 w2 (if bs < s5 + s2 then s5 + s2 else bs) (acc ++ [v2]))) → Rn σ X m5 σ5 := by
      intro σ5 ρ5 w5 s5 m5 cr5 h5 I5 hw5 hs5 S5 u5 hm5 hcr5 k5
      obtain ⟨pa, pb'⟩ := pl_a plb
      refine F bd Lb _ pb fb hNb (fun x hx => (hLb x hx).1) tyb pa jpb σ5 m5 ρ5 (t + g + acc.length) w5 s5 c cr5 h5 S5 hm5 (by omega) ?_
      have bnd := hc bd ρ5 w5
      generalize evN A (sg_g σ 6) B call f bd ρ5 w5 = r at k5 bnd
      match r, k5, bnd with
      | .inl (e, w'), k5, _ => exact k5
      | .inr (v2, w2, s2, ρ6), k5, bnd =>
        intro σ6 m6 h6 u6 v6 hm6
        have bb := bnd v2 w2 s2 ρ6 h5.2.2.2.2.1.2 rfl
        simp only at k5
        have w69 := h6.2.2.2.2.1
        obtain ⟨m6, rfl⟩ : ∃ m', m6 = m' + 1 := ⟨m6 - 1, by omega⟩
        obtain ⟨q0, q1', q2', q3'⟩ := pl_c pb'
        refine rn_12 (p := pb + (cd A f bd).length) (k := n) h6.2.2.1.2.2.2 q0 h6.2.1.1 q1' q2' (fun σ32 e32 => ?_)
        obtain ⟨h32, f32⟩ := nP_32 h6 ⟨q0.2, q0.1⟩ e32
        have al : (acc ++ [v2]).length = acc.length + 1 := by simp
        have h32' : nP σ σ32 (t + g + (acc ++ [v2]).length) w2 (s5 + s2) c (pb + (cd A f bd).length + 1) := by
          rw [al, show t + g + ((acc.length + 1 : Nat) : Int) = t + g + acc.length + 1 by omega]; exact h32
        have u632 : nU σ A D vb σ5 σ32 ρ5 ρ6 (t + g + acc.length) nl dix Lb := nU_t u6 (nU_F (L := []) f32 rfl) ⟨Int.le_refl _, Int.le_refl _⟩ (fun _ hx => hx) (by simp)
        have I32 : eI σ σ32 n t w2 c g N s0 bs i xs vs (acc ++ [v2]) dB := eI_u (A := A) (D := D) (vb := vb) (nl := nl) (dix := dix) I5 (by omega) ⟨by omega, by omega⟩ h32' u632 hnl (fun z => (hLb n z).2.2 rfl) bb.1 (fun j v hv => by
          rcases Nat.lt_or_ge j acc.length with q | q
          · rw [List.getElem?_append_left q] at hv
            rw [u632.2.1 _ (by omega)]
            exact cvF_up u632.1 (I5.2.2.2.2.2.2.2.2.2 j v hv)
          · rw [List.getElem?_append_right q] at hv
            have z : j - acc.length = 0 := by
              have := gE_l hv
              simp only [List.length_cons, List.length_nil] at this
              omega
            rw [z] at hv
            simp only [List.getElem?_cons_zero, Option.some.injEq] at hv
            subst hv
            rw [show j = acc.length by omega, sg_F_ga f32 rfl, ← hdB]
            exact cvF_F v6 f32 rfl)
        refine nx σ32 ρ6 w2 (s5 + s2) (acc ++ [v2]) m6 _ (by rw [al]; omega) I32 h32.2.2.1.2.2.1 ⟨by have := h6.2.2.2.2.2.1.1; omega, by omega⟩ (nU_t u5 u632 ⟨Int.le_refl _, by omega⟩ (fun _ hx => hx) (fun x hx => (hLb x hx).2.1)) (by omega) k5 (fun σ' hR _ => hR)
    simp only [eP] at kk
    rcases hgd with ⟨gd0, gp⟩ | ⟨g0, gd0, fg, hNg, hLg, tyg, plg, jpg, tg0, gp⟩
    · -- no guard
      rw [gp] at body
      refine body σ3 (eUs ρ (210 + 4 * n) 0 ws) w 0 m cr P3 I3 (Int.le_refl _) (by omega) S3 u23 hm (Int.le_refl _) ?_
      rw [hws] at kk
      rw [gd0] at kk ⊢
      simp only [evT] at kk
      generalize evN A (sg_g σ 6) B call f bd (eUs ρ (210 + 4 * n) 0 ws) w = r at kk ⊢
      match r, kk with
      | .inl (e, w'), kk => exact fun σ' q1 q2 q3 q4 => kk σ' q1 q2 q3 q4
      | .inr (v2, w2, s2, ρ6), kk =>
        simp only at kk ⊢
        rw [show (0 : Int) + s2 = s2 by omega]
        exact kk
    · -- a guard
      obtain ⟨pa, pb'⟩ := pl_a plg
      rw [hws] at kk
      refine F g0 Lg _ (sg_g σ 32 n) fg hNg (fun x hx => (hLg x hx).1) tyg pa jpg σ3 m (eUs ρ (210 + 4 * n) 0 ws) (t + g + acc.length) w 0 c cr P3 S3 hm hcr ?_
      rw [gd0] at kk
      simp only [evT] at kk
      have bnd := hc g0 (eUs ρ (210 + 4 * n) 0 ws) w
      generalize evN A (sg_g σ 6) B call f g0 (eUs ρ (210 + 4 * n) 0 ws) w = r at kk bnd
      match r, kk, bnd with
      | .inl (e, w'), kk, _ => exact kk
      | .inr (v1, w1, s1, ρ4), kk, bnd =>
        intro σ4 m4 h4 u4 v4 hm4
        have bb := bnd v1 w1 s1 ρ4 a7.2 rfl
        simp only at kk
        have w49 := h4.2.2.2.2.1
        rw [tg0] at v4
        obtain ⟨m4, rfl⟩ : ∃ m', m4 = m' + 1 := ⟨m4 - 1, by omega⟩
        obtain ⟨q0, q1', q2', q3'⟩ := pl_c pb'
        refine rn_11 (p := sg_g σ 32 n + (cd A f g0).length) (k := n) h4.2.2.1.2.2.2 q0 h4.2.1.1 q1' q2' (fun σ32 e32 => ?_)
        obtain ⟨h32, f32⟩ := nP_32 h4 ⟨q0.2, q0.1⟩ e32
        obtain ⟨d1, ⟨d2, d3⟩, ⟨d4, d5, d6, d7⟩, d8, d9, d10, d11, d12⟩ := id h32
        unfold V_nSift
        refine n_pop (t := t + g + acc.length) d4 ⟨by omega, by omega⟩ (fun σ5 f5 t5 r5 _ _ => ?_)
        have ev : sg_g σ32 48 (t + g + acc.length) = v1 [] := by rw [sg_F_ga f32 rfl]; exact v4.symm
        rw [ev]
        have F5 : sg_F [8045, 9045] σ4 σ5 := sg_F_t (sg_F_m f32 rfl) (sg_F_m f5 rfl)
        have h5 : nP σ σ5 (t + g + acc.length) w1 (0 + s1) c pb := ⟨sg_F_t d1 (sg_F_m f5 rfl), ⟨by rw [sg_F_g f5 (by rfl)]; exact d2, by rw [sg_F_g f5 (by rfl)]; exact d3⟩, ⟨t5, by rw [sg_F_g f5 (by rfl)]; exact d5, by rw [sg_F_g f5 (by rfl)]; exact d6, by rw [sg_F_g f5 (by rfl), gp]; exact d7⟩, ⟨by omega, by omega⟩, d9, d10, by rw [sg_F_g f5 (by rfl)]; exact d11, d12⟩
        have u45 : nU σ A D vb σ3 σ5 (eUs ρ (210 + 4 * n) 0 ws) ρ4 (t + g + acc.length) nl dix Lg := nU_t u4 (nU_F (L := []) F5 rfl) ⟨Int.le_refl _, Int.le_refl _⟩ (fun _ hx => hx) (by simp)
        have u25 : nU σ A D vb σ2 σ5 ρ2 ρ4 t nl dix L := nU_t u23 u45 ⟨Int.le_refl _, by omega⟩ (fun _ hx => hx) (fun x hx => (hLg x hx).2.1)
        have I5 : eI σ σ5 n t w1 c g N s0 bs i xs vs acc dB := eI_u (A := A) (D := D) (vb := vb) (nl := nl) (dix := dix) I3 (by omega) ⟨by omega, by omega⟩ h5 u45 hnl (fun z => (hLg n z).2.2 rfl) bb.1 (fun j v hv => by
          have hj := gE_l hv
          rw [u45.2.1 _ (by omega)]
          exact cvF_up u45.1 (I3.2.2.2.2.2.2.2.2.2 j v hv))
        refine ⟨fun z _ => ?_, fun z => ?_⟩
        · rw [if_neg z] at kk
          refine body σ5 ρ4 w1 (0 + s1) m4 (cr + 2) h5 I5 bb.1 (by omega) (scP_u S3 u45) u25 (by omega) (by omega) ?_
          generalize evN A (sg_g σ 6) B call f bd ρ4 w1 = r2 at kk ⊢
          match r2, kk with
          | .inl (e, w'), kk => exact fun σ' q1 q2 q3 q4 => kk σ' q1 q2 q3 q4
          | .inr (v2, w2, s2, ρ6), kk =>
            simp only at kk ⊢
            rw [show (0 : Int) + s1 + s2 = s1 + s2 by omega]
            rw [gd0]
            exact kk
        · rw [if_pos z] at kk
          refine nx σ5 ρ4 w1 s1 acc m4 _ (by omega) I5 (by rw [h5.2.2.1.2.2.1]; omega) ⟨by omega, by omega⟩ u25 (by omega) ?_ (fun σ' hR _ _ => hR)
          simp only [List.append_nil] at kk
          rw [gd0]
          exact kk
end NPK
