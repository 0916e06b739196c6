/-! walk of the class comes to kGo. -/
/-- names bound at n, stage s being the next -/
def kBs (A : aT) (n s : Int) : Int := if A.2.1 n = 2 ∧ 2 ≤ s then 1 else if A.2.1 n = 15 ∧ ((A.2.2.2.2.2 n).length : Int) < s then ((A.2.2.2.2.2 n).length : Int) else 0
/-- the walk's links: from node k up to the root; l: names known now -/
def cCh (σ : sg_S) (A : aT) : Int → List (Int × Int) → Int → Prop
  | k, [], _ => k = -1
  | k, y :: r, l => k = y.1 ∧ (0 ≤ y.1 ∧ y.1 < 200) ∧ sg_g σ 44 y.1 = y.2 ∧ (∀ x, (kOrd A y.1)[y.2.toNat]? = some x → sg_g σ 43 y.1 = x) ∧ sg_g σ 41 y.1 + kBs A y.1 y.2 = l ∧ cCh σ A (sg_g σ 42 y.1) r (sg_g σ 41 y.1)
theorem cCh_e {σ σ' : sg_S} {A : aT} : ∀ {k : Int} {p : List (Int × Int)} {l : Int}, cCh σ A k p l → (∀ y ∈ p, sg_g σ' 41 y.1 = sg_g σ 41 y.1 ∧ sg_g σ' 42 y.1 = sg_g σ 42 y.1 ∧ sg_g σ' 43 y.1 = sg_g σ 43 y.1 ∧ sg_g σ' 44 y.1 = sg_g σ 44 y.1) → cCh σ' A k p l
  | k, [], l, h, _ => h
  | k, y :: r, l, h, hq => by
    obtain ⟨a1, a2, a3, a4, a5, a6⟩ := h
    obtain ⟨b1, b2, b3, b4⟩ := hq y (by simp)
    refine ⟨a1, a2, by rw [b4]; exact a3, fun x hx => by rw [b3]; exact a4 x hx, by rw [b1]; exact a5, ?_⟩
    rw [b1, b2]
    exact cCh_e a6 (fun z hz => hq z (by simp [hz]))
theorem kBs_2 {A : aT} {n s : Int} (h : A.2.1 n = 2) : kBs A n s = if 2 ≤ s then 1 else 0 := by
  unfold kBs
  by_cases c : 2 ≤ s
  · rw [if_pos ⟨h, c⟩, if_pos c]
  · rw [if_neg (show ¬ (A.2.1 n = 2 ∧ 2 ≤ s) from fun z => c z.2), if_neg (show ¬ (A.2.1 n = 15 ∧ ((A.2.2.2.2.2 n).length : Int) < s) from fun z => by omega), if_neg c]
theorem kBs_15 {A : aT} {n s : Int} (h : A.2.1 n = 15) : kBs A n s = if ((A.2.2.2.2.2 n).length : Int) < s then ((A.2.2.2.2.2 n).length : Int) else 0 := by
  unfold kBs
  rw [if_neg (show ¬ (A.2.1 n = 2 ∧ 2 ≤ s) from fun z => by omega)]
  by_cases c : ((A.2.2.2.2.2 n).length : Int) < s
  · rw [if_pos ⟨h, c⟩, if_pos c]
  · rw [if_neg (show ¬ (A.2.1 n = 15 ∧ ((A.2.2.2.2.2 n).length : Int) < s) from fun z => c z.2), if_neg c]
theorem kBs_o {A : aT} {n s : Int} (h2 : ¬ A.2.1 n = 2) (h15 : ¬ A.2.1 n = 15) : kBs A n s = 0 := by
  unfold kBs
  rw [if_neg (show ¬ (A.2.1 n = 2 ∧ 2 ≤ s) from fun z => h2 z.1), if_neg (show ¬ (A.2.1 n = 15 ∧ ((A.2.2.2.2.2 n).length : Int) < s) from fun z => h15 z.1)]
theorem kBs_up {A : aT} {T : Int → Int} {e : kE} {n : Int} {s : Nat} (hw : nW A n) (hs : s < (kOrd A n).length) (hl : e.length ≤ (kBd A T e n s).length) : kBs A n ((s + 1 : Nat) : Int) = kBs A n s + (((kBd A T e n s).length : Int) - e.length) := by
  obtain ⟨n1, n2, n3, n4, n5, n6, n7, n8⟩ := hw
  have hkl := kOrd_len A n
  by_cases c2 : A.2.1 n = 2
  · have l2 := n3 (Or.inl c2)
    rw [kBs_2 c2, kBs_2 c2]
    by_cases c1 : s = 1
    · have kb : (kBd A T e n s).length = e.length + 1 := by unfold kBd; rw [if_pos ⟨c2, c1⟩]; rfl
      rw [kb, if_pos (by omega), if_neg (by omega)]; omega
    · have kb := kBd_no (A := A) (n := n) (s := s) ⟨fun z => c1 z.2, fun z => by omega⟩ T e
      rw [kb, if_neg (by omega), if_neg (by omega)]; omega
  · by_cases c15 : A.2.1 n = 15
    · have l7 := n7 c15
      rw [kBs_15 c15, kBs_15 c15]
      by_cases c1 : s = (A.2.2.2.2.2 n).length
      · have hgl : (kGs A n).length = (A.2.2.2.2.2 n).length := by unfold kGs; rw [List.length_take, List.length_drop]; omega
        have kb : (kBd A T e n s).length = e.length + (A.2.2.2.2.2 n).length := by
          unfold kBd; rw [if_neg (fun z => c2 z.1), if_pos ⟨c15, c1⟩]
          exact (kBind_len (A.2.2.2.2.2 n) (kGs A n) e hgl.symm).1
        rw [kb, if_pos (by omega), if_neg (by omega)]; omega
      · have kb := kBd_no (A := A) (n := n) (s := s) ⟨fun z => c2 z.1, fun z => c1 z.2⟩ T e
        rw [kb]
        by_cases c3 : (A.2.2.2.2.2 n).length < s
        · rw [if_pos (by omega), if_pos (by omega)]; omega
        · rw [if_neg (by omega), if_neg (by omega)]; omega
    · have kb := kBd_no (A := A) (n := n) (s := s) ⟨fun z => c2 z.1, fun z => c15 z.1⟩ T e
      rw [kb, kBs_o c2 c15, kBs_o c2 c15]; omega
theorem kBs_end {A : aT} {n : Int} {s : Nat} (hw : nW A n) (hs : s = (kOrd A n).length) : kBs A n s = (kBn A n : Nat) := by
  obtain ⟨n1, n2, n3, n4, n5, n6, n7, n8⟩ := hw
  have hkl := kOrd_len A n
  unfold kBn
  by_cases c2 : A.2.1 n = 2
  · have l2 := n3 (Or.inl c2)
    rw [kBs_2 c2, if_pos (by omega), if_pos c2]; rfl
  · by_cases c15 : A.2.1 n = 15
    · have l7 := n7 c15
      rw [kBs_15 c15, if_pos (by omega), if_neg c2, if_pos c15]
    · rw [kBs_o c2 c15, if_neg c2, if_neg c15]; rfl
theorem kBs_0 (A : aT) (n : Int) : kBs A n 0 = 0 := by
  by_cases c2 : A.2.1 n = 2
  · rw [kBs_2 c2]; rfl
  · by_cases c15 : A.2.1 n = 15
    · rw [kBs_15 c15, if_neg (by omega)]
    · exact kBs_o c2 c15
/-- the cells of the class's walk -/
def ckI (A : aT) (ds : kD) (r : Option ((Int → Int) × (Int → Int))) (cm : Nat) (i : Nat) (k t : Int) (σ : sg_S) : Prop := (cZ σ ∧ 0 ≤ t ∧ ∃ m c p e eb B, i = m + 1 ∧ t + m ≤ 400 ∧ (p.map (·.1)).Nodup ∧ cCh σ A k p ((e.length : Nat) : Int) ∧ ckE σ (sg_g σ 38 9) e ∧ sg_g σ 38 10 = (c : Nat) ∧ c ≤ 272 ∧ kRun A ds r cm m c p e (sg_g σ 6) eb B) ∨ (cF σ ∧ r = none ∧ 0 ≤ t ∧ t ≤ 401)
section WLK
variable {σ : sg_S} {A : aT} {ds : kD} {e : kE} {n : Int} {c : Nat} {Q : sg_S → Prop}
theorem c_walk {d : Int} {L : List Int} (h : ckW σ A) (hL1 : fT A [n] L) (hL2 : L.Nodup) (hL3 : ∀ x ∈ L, 0 ≤ x ∧ x < A.1) (hLl : L.length ≤ 200) (hF : cZ σ) (he : ckE σ (sg_g σ 38 9) e) (hel : e.length ≤ 50) (hei : ∀ q ∈ e, kIn q.2) (hdi : kDi ds (sg_g σ 6)) (hc : sg_g σ 38 10 = c) (hc2 : c + L.length ≤ 272) (hd : dsC σ (sg_g σ 38 11) ds) (hl : ds.length ≤ 12) (hr : ∀ d ∈ ds, 0 ≤ d.2.2 ∧ d.2.2 < A.1) (k1 : ∀ σ', kGo A ds 201 e n (sg_g σ 6) = none → cF σ' → sg_F [6, 16, 29, 30, 31, 32, 33, 34, 39, 40, 41, 42, 43, 44, 7028, 10038, 11038, 13038, 14038] σ σ' → Q σ') (k2 : ∀ σ', kGo A ds 201 e n (sg_g σ 6) = some (sg_g σ' 6) → cZ σ' → (∃ c' : Nat, sg_g σ' 38 10 = c' ∧ c' ≤ c + L.length) → sg_F [6, 16, 29, 30, 31, 32, 33, 34, 39, 40, 41, 42, 43, 44, 7028, 10038, 11038, 13038, 14038] σ σ' → Q σ') : V_kWalk σ d n Q := by
  have hA := h.1.2
  have hnn : 0 ≤ n ∧ n < A.1 := hL3 n (fT_sub hL1 n (by simp))
  obtain ⟨r, hr1, hr2, hr3⟩ : ∃ r : Option ((Int → Int) × (Int → Int)), (kGo A ds 201 e n (sg_g σ 6) = none → r = none) ∧ (∀ T1, kGo A ds 201 e n (sg_g σ 6) = some T1 → r = some (T1, kBo A ds 201 [] n (fun _ => 0))) ∧ (r = none → kGo A ds 201 e n (sg_g σ 6) = none) := by
    cases kGo A ds 201 e n (sg_g σ 6) with
    | none => exact ⟨none, fun _ => rfl, fun T1 z => (by cases z), fun _ => rfl⟩
    | some T1 => exact ⟨some (T1, kBo A ds 201 [] n (fun _ => 0)), fun z => (by cases z), fun T2 z => (by cases z; rfl), fun z => (by cases z)⟩
  have run0 : kRun A ds r (c + L.length) (0 + (2 * L.length - 1)) c [(n, 0)] e (sg_g σ 6) [] (fun _ => 0) := kNL_all A ds 201 _ (c + L.length) 0 c n L [] e (sg_g σ 6) [] (fun _ => 0) hL1 hL3 hL2 (by simp) (by omega) (by omega) (by simp only [List.length_nil]; omega) hc2 hdi hei hr1 (fun T1 c' x _ _ => kRun_nil 0 c' e T1 [] _ (by omega) (hr2 T1 x))
  have k1' : ∀ σ', r = none → cF σ' → sg_F [6, 16, 29, 30, 31, 32, 33, 34, 39, 40, 41, 42, 43, 44, 7028, 10038, 11038, 13038, 14038] σ σ' → Q σ' := fun σ' z => k1 σ' (hr3 z)
  have k2' : ∀ σ' B, r = some (sg_g σ' 6, B) → cZ σ' → (∃ c' : Nat, sg_g σ' 38 10 = c' ∧ c' ≤ c + L.length) → sg_F [6, 16, 29, 30, 31, 32, 33, 34, 39, 40, 41, 42, 43, 44, 7028, 10038, 11038, 13038, 14038] σ σ' → Q σ' := fun σ' B z => by
    cases hg : kGo A ds 201 e n (sg_g σ 6) with
    | none => rw [hr1 hg] at z; cases z
    | some T1 =>
      have z2 := hr2 T1 hg
      rw [z] at z2
      have z3 := Prod.mk.inj (Option.some.inj z2)
      exact k2 σ' (by rw [hg, z3.1])
  clear k1 k2 hr1 hr2 hr3
  have hll := fT_len hL1
  simp only [List.length_cons, List.length_nil] at hll
  have n200 : 0 ≤ n ∧ n < 200 := by omega
  unfold V_kWalk
  intro σ1 e1 σ4 e4
  rw [xp_in n200] at e4
  have f4 : sg_F [31, 42] σ σ4 := by rw [e4, e1]; exact sg_F_w (xF_p (sg_F_r _ _) rfl _ _ _) rfl _
  have F4 : cZ σ4 := cZ_F hF f4 rfl
  refine c_enter n200 F4 (fun σ8 en8 f8 _ => ?_)
  have f8' : sg_F [16, 29, 30, 31, 32, 33, 41, 42, 43, 44, 7028] σ σ8 := sg_F_t (sg_F_m f4 rfl) (sg_F_m f8 rfl)
  have T8 : sg_g σ8 6 = sg_g σ 6 := funext fun _ => sg_F_ga f8' rfl
  have he8 : ckE σ8 (sg_g σ8 38 9) e := by rw [sg_F_g f8' (by rfl)]; exact ckE_F he f8' rfl
  have en := ckE_n he
  obtain ⟨q1, q2, q3, q4⟩ := en8
  refine ⟨ckI A ds r (c + L.length), fun σ15 => (cZ σ15 ∧ (∃ B, r = some (sg_g σ15 6, B)) ∧ ∃ c' : Nat, sg_g σ15 38 10 = c' ∧ c' ≤ c + L.length) ∨ (cF σ15 ∧ r = none), ⟨(0 + (2 * L.length - 1)) + 1, Or.inl ⟨?_, Int.le_refl _, 0 + (2 * L.length - 1), c, [(n, 0)], e, [], (fun _ => 0), rfl, by omega, by simp, ⟨rfl, n200, q2, fun x hx => ?_, ?_, ?_⟩, he8, ?_, by omega, ?_⟩⟩, ?_, ?_⟩
  · exact cZ_F hF f8' rfl
  · rw [q1, sg_F_ga f4 rfl]
    obtain ⟨p0, p1, p2, p3, p4, p5, p6⟩ := ckW_p h hnn
    exact p3 x hx
  · rw [kBs_0, q3, sg_F_g f4 (by rfl), en]; omega
  · show sg_g σ8 42 n = -1
    rw [sg_F_ga f8 rfl, e4, sg_gw_e _ _ _ _ (by decide)]
  · rw [sg_F_g f8' (by rfl)]; exact hc
  · rw [T8]; exact run0
  · rintro i k t σ15 rk rt fr hI
    have f15 : sg_F [6, 16, 29, 30, 31, 32, 33, 34, 39, 40, 41, 42, 43, 44, 7028, 10038, 11038, 13038, 14038] σ σ15 := sg_F_t (sg_F_m f8' rfl) (sg_F_m fr rfl)
    refine ⟨fun c0 => ?_, fun c0 => ⟨fun c1 => ?_, fun c1 => ⟨fun c3 => ?_, fun c3 => ?_⟩⟩⟩
    · rcases hI with ⟨-, -, m, c', p, e', eb', B', -, i2, -⟩ | ⟨i1, i2, -⟩
      · omega
      · exact Or.inr ⟨i1, i2⟩
    · rcases hI with ⟨i0, -, m, c', p, e', eb', B', -, i2, i3, i4, i5, i6, i7, i8⟩ | ⟨i1, i2, -⟩
      · cases p with
        | nil => exact Or.inl ⟨i0, ⟨B', (kRun_0 i8).1⟩, c', i6, (kRun_0 i8).2⟩
        | cons y p => have := i4.1; have := i4.2.1; omega
      · exact Or.inr ⟨i1, i2⟩
    · rcases hI with ⟨i0, -⟩ | ⟨i1, i2, -⟩
      · exact absurd i0.1 c3
      · exact Or.inr ⟨i1, i2⟩
    · rcases hI with ⟨z15, it, m, c', p0, e', eb', B', rfl, i2, i3, i4, i5, i6, i7, i8⟩ | ⟨i1, -⟩
      rotate_left
      · exact absurd c3 i1.1
      cases p0 with
      | nil => have := i4; simp only [cCh] at this; omega
      | cons y p =>
        obtain ⟨q, s'⟩ := y
        obtain ⟨s, rfl, hnd, b1, b2, g1, g2⟩ := kRun_inv i8
        obtain ⟨hq, hw, hso, hst⟩ := hnd
        obtain ⟨a1, a2, a3, a4, a5, a6⟩ := i4
        simp only at a1 a2 a3 a4 a5 a6
        subst a1
        rw [Int.toNat_natCast] at a4
        have h15 := ckW_F h f15 rfl
        obtain ⟨p0, p1, p2, p3, p4, p5, p6⟩ := ckW_p h hq
        have hkl := kOrd_len A k
        have k200 : 0 ≤ k ∧ k < 200 := a2
        have rl := sg_Rg σ 10 k
        rw [p2] at rl
        have en15 := ckE_n i5
        have kp : k ∉ p.map (·.1) := (List.nodup_cons.mp i3).1
        have pnd : (p.map (·.1)).Nodup := (List.nodup_cons.mp i3).2
        rw [xa_in (a := 44) k200, a3, p1 10 200 rfl, p2, xa_in (a := 43) k200, xa_in (a := 42) k200]
        refine ⟨fun k' σ42 => ckI A ds r (c + L.length) m k' (t + 1) σ42 ∨ (cF σ42 ∧ r = none), ⟨fun c4 => ?_, fun c4 => ?_⟩, ?_⟩
        · -- one more part
          have hs : s < (kOrd A k).length := by omega
          obtain ⟨x, hx⟩ : ∃ x, (kOrd A k)[s]? = some x := ⟨_, List.getElem?_eq_getElem hs⟩
          have x43 := a4 x hx
          rw [x43]
          have xr200 := p6 x (List.mem_of_getElem? hx)
          have kbl : (kBd A (sg_g σ15 6) e' k s).length + c' ≤ 272 + e'.length := by
            by_cases gg : (A.2.1 k = 15 ∧ s = (A.2.2.2.2.2 k).length ∧ kGens (sg_g σ15 6) (A.2.2.2.2.2 k) (kGs A k) = false)
            · exact (g1 gg).2
            · rcases g2 gg with ⟨x', m', -, -, -, -, -, x5, -⟩ | ⟨x1, -⟩
              · exact x5
              · omega
          refine c_ahead h15 hq hw hs z15 hst i5 b1 i6 kbl (fun σ50 x1 x2 x3 _ => ⟨⟨by omega, by omega⟩, fun σ56 e56 σ59 e59 σ62 e62 => ?_⟩) (fun σ50 x1 x2 x3 x4 x5 _ => ⟨⟨by omega, by omega⟩, fun σ56 e56 σ59 e59 σ62 e62 => ?_⟩)
          · have f62 : sg_F [42, 43, 44] σ50 σ62 := by rw [e62, e59, e56]; exact xF_p (xF_p (xF_p (sg_F_r _ _) rfl _ _ _) rfl _ _ _) rfl _ _ _
            have F62 : cF σ62 := by
              unfold cF at x2 ⊢
              rw [sg_F_g f62 (by rfl), sg_F_g f62 (by rfl)]; exact x2
            unfold V_kEnter
            exact ⟨fun z => absurd z F62.1, fun _ _ => Or.inr ⟨F62, (g1 x1).1⟩⟩
          · rcases g2 x1 with ⟨x', m', em', hx', nx, np, le1, le2, hrun⟩ | ⟨y1, -⟩
            rotate_left
            · omega
            rw [hx] at hx'
            cases hx'
            rw [xp_in k200] at e56 e59
            rw [xp_in xr200] at e62
            have f62 : sg_F [42, 43, 44] σ50 σ62 := by rw [e62, e59, e56]; exact sg_F_w (sg_F_w (sg_F_w (sg_F_r _ _) rfl _) rfl _) rfl _
            have F62 : cZ σ62 := cZ_F x2 f62 rfl
            refine c_enter xr200 F62 (fun σ66 en66 f66 _ => Or.inl (Or.inl ⟨?_, by omega, m', c' + ((kBd A (sg_g σ15 6) e' k s).length - e'.length), (x, 0) :: (k, ((s + 1 : Nat) : Int)) :: p, kBd A (sg_g σ15 6) e' k s, kBb A eb' k s, B', em', by omega, ?_, ?_, ?_, ?_, by omega, ?_⟩))
            · exact cZ_F F62 f66 rfl
            · simp only [List.map_cons]
              refine List.nodup_cons.mpr ⟨fun z => ?_, i3⟩
              rcases List.mem_cons.mp z with z | z
              · exact nx z
              · obtain ⟨y, y1, y2⟩ := List.mem_map.mp z
                exact np y y1 y2
            · obtain ⟨w1, w2, w3, w4⟩ := en66
              have xA : 0 ≤ x ∧ x < A.1 := by
                have : x ∈ A.2.2.2.2.1 k := by
                  have := List.mem_of_getElem? hx
                  unfold kOrd at this
                  split at this
                  · rcases List.mem_append.mp this with z | z
                    · exact List.mem_of_mem_drop z
                    · exact List.mem_of_mem_take z
                  · exact this
                exact (h.2.2 k hq.1 hq.2).2 x this
              have h62 : sg_F [6, 16, 29, 30, 31, 32, 33, 34, 39, 40, 41, 42, 43, 44, 7028, 10038, 11038, 13038, 14038] σ σ62 := sg_F_t (sg_F_t f15 (sg_F_m x5 rfl)) (sg_F_m f62 rfl)
              have kn62 : sg_g σ62 38 9 = ((kBd A (sg_g σ15 6) e' k s).length : Nat) := by rw [sg_F_g f62 (by rfl)]; exact ckE_n x3
              have nk := w4 k (fun z => nx z.symm)
              have e41 : ∀ j, sg_g σ62 41 j = sg_g σ15 41 j := fun j => by rw [sg_F_ga f62 rfl, sg_F_ga x5 rfl]
              have e42 : ∀ j, ¬ j = x → sg_g σ66 42 j = sg_g σ15 42 j := fun j hj => by rw [sg_F_ga f66 rfl, e62, sg_gw_k _ _ _ _ _ _ hj, e59, sg_gw_c _ _ _ _ _ _ (by decide), e56, sg_gw_c _ _ _ _ _ _ (by decide), sg_F_ga x5 rfl]
              have e43 : ∀ j, ¬ j = k → sg_g σ62 43 j = sg_g σ15 43 j := fun j hj => by rw [e62, sg_gw_c _ _ _ _ _ _ (by decide), e59, sg_gw_k _ _ _ _ _ _ hj, e56, sg_gw_c _ _ _ _ _ _ (by decide), sg_F_ga x5 rfl]
              have e44 : ∀ j, ¬ j = k → sg_g σ62 44 j = sg_g σ15 44 j := fun j hj => by rw [e62, sg_gw_c _ _ _ _ _ _ (by decide), e59, sg_gw_c _ _ _ _ _ _ (by decide), e56, sg_gw_k _ _ _ _ _ _ hj, sg_F_ga x5 rfl]
              have up := kBs_up (T := sg_g σ15 6) (e := e') hw hs le1
              refine ⟨rfl, xr200, w2, fun y hy => ?_, ?_, ?_⟩
              · rw [w1, sg_F_ga h62 rfl]
                exact (ckW_p h xA).2.2.2.1 y hy
              · simp only
                rw [kBs_0, w3, kn62]; omega
              · simp only
                rw [w3, kn62, show sg_g σ66 42 x = k from by rw [sg_F_ga f66 rfl, e62, sg_gw_e _ _ _ _ rk]]
                refine ⟨rfl, k200, ?_, fun y hy => ?_, ?_, ?_⟩
                · simp only
                  rw [nk.2.1, e62, sg_gw_c _ _ _ _ _ _ (by decide), e59, sg_gw_c _ _ _ _ _ _ (by decide), e56, sg_gw_e _ _ _ _ ⟨by omega, by omega⟩]; omega
                · simp only [Int.toNat_natCast] at hy
                  simp only
                  rw [nk.1, e62, sg_gw_c _ _ _ _ _ _ (by decide), e59, sg_gw_e _ _ _ _ (sx_R ..), xa_in xr200]
                  exact p5 s x y hx hy
                · simp only
                  rw [nk.2.2, e41, up]; omega
                · simp only
                  rw [e42 k (fun z => nx z.symm), nk.2.2, e41]
                  refine cCh_e a6 (fun y hy => ?_)
                  have yx := np y hy
                  have yk : ¬ y.1 = k := fun z => kp (List.mem_map.mpr ⟨y, hy, z⟩)
                  have wy := w4 y.1 yx
                  exact ⟨by rw [wy.2.2, e41], e42 _ yx, by rw [wy.1, e43 _ yk], by rw [wy.2.1, e44 _ yk]⟩
            · rw [sg_F_g f66 (by rfl), sg_F_g f62 (by rfl)]
              exact ckE_F (ckE_F x3 f62 rfl) f66 rfl
            · rw [sg_F_g f66 (by rfl), sg_F_g f62 (by rfl)]; exact x4
            · rw [show sg_g σ66 6 = sg_g σ15 6 from funext fun _ => by rw [sg_F_ga f66 rfl, sg_F_ga f62 rfl, sg_F_ga x5 rfl]]
              exact hrun
        · -- all parts are done
          have hs : s = (kOrd A k).length := by omega
          have ng : ¬ (A.2.1 k = 15 ∧ s = (A.2.2.2.2.2 k).length ∧ kGens (sg_g σ15 6) (A.2.2.2.2.2 k) (kGs A k) = false) := fun z => by
            obtain ⟨n1, n2, n3, n4, n5, n6, n7, n8⟩ := hw
            have := n7 z.1
            have := z.2.1
            omega
          rcases g2 ng with ⟨x', m', -, hx', -⟩ | ⟨-, kb, ⟨hei', hdi'⟩, hty⟩
          · rw [hs, List.getElem?_eq_none (Nat.le_refl _)] at hx'; cases hx'
          have kend := kBs_end hw hs
          refine c_leave h15 hq hw (fun z hz => hst z (by rw [hs, List.take_length]; exact kOrd_mem hz)) z15 i5 b1 (by rw [i6]; omega) (by rw [sg_F_g f15 (by rfl)]; exact dsC_F f15 rfl hd) hl hr kb (by rw [← kend]; exact a5) hei' hdi' (fun σ72 x1 x2 x3 _ => ?_) (fun σ72 ty x1 x2 x3 x4 x5 _ => ?_)
          · right
            refine ⟨x2, ?_⟩
            rcases hty with ⟨-, z⟩ | ⟨ty, m', -, z, -⟩
            · exact z
            · rw [x1] at z; cases z
          · rcases hty with ⟨z, -⟩ | ⟨ty', m', em', z, hrun⟩
            · rw [x1] at z; cases z
            · rw [x1] at z
              cases z
              left
              refine Or.inl ⟨x2, by omega, m', c', p, e'.drop (kBn A k), eb'.drop (kBn A k), kUp A ds (eb'.drop (kBn A k)) k B', em', by omega, pnd, ?_, x4, ?_, i7, by rw [x3]; exact hrun⟩
              · rw [List.length_drop, show (((e'.length - kBn A k : Nat)) : Int) = sg_g σ15 41 k from by rw [kend] at a5; omega]
                exact cCh_e a6 (fun y hy => ⟨sg_F_ga x5 rfl, sg_F_ga x5 rfl, sg_F_ga x5 rfl, sg_F_ga x5 rfl⟩)
              · rw [sg_F_g x5 (by rfl)]; exact i6
        · rintro k' σ42 rk' f42 (hz | ⟨hz1, hz2⟩)
          · exact ⟨⟨by omega, by omega⟩, m, by omega, hz⟩
          · exact ⟨⟨by omega, by omega⟩, 0, by omega, Or.inr ⟨hz1, hz2, by omega, by omega⟩⟩
  · rintro σ15 fr h15
    have f15 : sg_F [6, 16, 29, 30, 31, 32, 33, 34, 39, 40, 41, 42, 43, 44, 7028, 10038, 11038, 13038, 14038] σ σ15 := sg_F_t (sg_F_m f8' rfl) (sg_F_m fr rfl)
    refine c_add (fun σ31 f31 _ => ?_)
    have F31 : sg_F [6, 16, 29, 30, 31, 32, 33, 34, 39, 40, 41, 42, 43, 44, 7028, 10038, 11038, 13038, 14038] σ σ31 := sg_F_t f15 (sg_F_m f31 rfl)
    rcases h15 with ⟨x1, ⟨B', x2⟩, c', x3, x4⟩ | ⟨x1, x2⟩
    · refine k2' σ31 B' ?_ ?_ ⟨c', ?_, x4⟩ F31
      · rw [x2, show sg_g σ31 6 = sg_g σ15 6 from funext fun _ => sg_F_ga f31 rfl]
      · exact cZ_F x1 f31 rfl
      · rw [sg_F_g f31 (by rfl)]; exact x3
    · refine k1' σ31 x2 ?_ F31
      unfold cF at x1 ⊢
      rw [sg_F_g f31 (by rfl), sg_F_g f31 (by rfl)]; exact x1
end WLK
