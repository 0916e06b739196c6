/-! BIG STEPS of the class's flat run, exactly: bodies, all DEFS. -/
/-- a state whose types are the class's; binders outside of the tree are y0's -/
def sT6 (σ : sg_S) (M y0 : Int) : sg_S := (fun c j => if c = 101 then σ.1 6 j else if c = 102 then σ.1 102 (if 0 ≤ j ∧ j < M then j else y0) else σ.1 c j, σ.2)
theorem sT6_g (σ : sg_S) (M y0 n : Int) : sg_g (sT6 σ M y0) 101 n = sg_g σ 6 n := by simp [sg_g, sT6]
theorem sT6_b (σ : sg_S) (M y0 n : Int) : sg_g (sT6 σ M y0) 102 n = sg_g σ 102 (if 0 ≤ n ∧ n < M then n else y0) := by simp [sg_g, sT6]
theorem sT6_F (σ : sg_S) (M y0 : Int) : sg_F [101, 102] σ (sT6 σ M y0) := fun c k hc hv => by
  have n1 : ¬ c = 101 := fun e => by
    rw [e] at hv
    exact absurd hv (by simp [sg_cv])
  have n2 : ¬ c = 102 := fun e => by
    rw [e] at hv
    exact absurd hv (by simp [sg_cv])
  exact ⟨by simp [sT6, n1, n2], rfl⟩
theorem pgX_6 {σ : sg_S} {A : aT} {D : List aDf} {T B : Int → Int} {y0 : Int} (h : pgX σ A D T B) (hty : ∀ (j : Nat) (x : aDf), D[j]? = some x → tyN A (kDl (D.take j) []) (sg_g σ 6) (sg_g (sT6 σ A.1 y0) 102) 201 (scZ (kPe x) (kPb j 0 x.2.2.1 [])) x.2.2.2) : pgX (sT6 σ A.1 y0) A D (sg_g σ 6) (sg_g (sT6 σ A.1 y0) 102) := by
  obtain ⟨a1, a2, a3, a4, a5, a6⟩ := h
  have f := sT6_F σ A.1 y0
  refine ⟨trT_F a1 f rfl, ?_, fun n => sT6_g σ A.1 y0 n, fun _ => rfl, a5, hty⟩
  obtain ⟨b1, b2, b3⟩ := a2
  refine ⟨by rw [sg_F_g f (by rfl)]; exact b1, b2, fun d x hx => ?_⟩
  obtain ⟨c1, c2, c3, c4, c5, c6⟩ := b3 d x hx
  refine ⟨by rw [sg_F_gal f rfl]; exact c1, by rw [sg_F_ga f rfl]; exact c2, by rw [sg_F_ga f rfl]; exact c3, by rw [sg_F_ga f rfl]; exact c4, c5, fun j y hy => ?_⟩
  obtain ⟨d1, d2, d3⟩ := c6 j y hy
  exact ⟨by rw [sg_F_gal f rfl]; exact d1, by rw [sg_F_ga f rfl]; exact d2, by rw [sg_F_ga f rfl]; exact d3⟩
/-- the class's types -/
theorem ty8 {σ : sg_S} {A : aT} {D : List aDf} {k : Int} {B B0 : Int → Int} (h : clR σ A D k) (hB : ∀ x, 0 ≤ x → x < A.1 → B x = kPB A D k B0 x) : (∀ (j : Nat) (x : aDf), D[j]? = some x → tyN A (kDl (D.take j) []) (sg_g σ 6) B 201 (scZ (kPe x) (kPb j 0 x.2.2.1 [])) x.2.2.2) ∧ tyN A (kDl D []) (sg_g σ 6) B 201 [] k := by
  obtain ⟨b2, b3, b4, b5, ⟨T, Tf, t1, t2⟩, -⟩ := h
  obtain ⟨LA, f1, f2, f3, -⟩ := id b4
  have ty := tyP (T2 := sg_g σ 6) (B2 := B) D [] 0 T Tf B0 LA f1 f2 f3 (fun d hd => by simp at hd) (fun c hc => by simp at hc) b5 t1 (fun x hx => t2 x (f3 x hx).1) (fun x hx => hB x (f3 x hx).1 (f3 x hx).2) (fun c hc => by simp at hc)
  refine ⟨fun j x hx => ?_, ty.2⟩
  have t := (ty.1 j x hx).1
  rw [Nat.zero_add] at t
  exact t
section DGS
variable {σ σx : sg_S} {A : aT} {D : List aDf} {vb : Int → Prop} {X : sg_S → Prop} {T B : Int → Int} {lev : Int → Nat} {O : Int → Nat → List Int} {call : Int → Nat → fEv → fSt → fRs} {j : Nat}
/-- PARAMS -/
theorem pr_sc {d : Nat} {y : aDf} : ∀ p ∈ scZ (kPe y) (kPb d 0 y.2.2.1 []), ∃ (k : Nat) (u : Int × Int × Int), y.2.2.1[k]? = some u ∧ p = (1100 + 6 * (d : Int) + (k : Int), u.2.2) := fun p hp => by
  have hp' : p ∈ scZ (y.2.2.1.reverse.map (fun p => (p.1, p.2.2)) ++ []) (kPb (d : Int) 0 y.2.2.1 []) := by rw [List.append_nil]; exact hp
  rcases scZ_p y.2.2.1 0 [] [] p hp' with ⟨k, u, a, b⟩ | q
  · exact ⟨k, u, a, by rw [b]; simp⟩
  · cases q
/-- the tree of a DEF -/
theorem stN_d {r : Int} (hX : pgX σx A D T B) (hlv : lvP A D lev 0 r) {d : Nat} {y : aDf} (hy : D[d]? = some y) : ∃ L', stN A D T B lev d 201 L' (scZ (kPe y) (kPb d 0 y.2.2.1 [])) y.2.2.2 := by
  obtain ⟨L', l1, l2, l3⟩ := hlv.1 d y hy
  have dl := gE_l hy
  have d12 := hX.2.1.2.1
  have l6 := (hX.2.1.2.2 d y hy).2.2.2.2.1
  refine ⟨L', hX.2.2.2.2.2 d y hy, l1, l2, fun z hz => ⟨(l3 z hz).1, by have := (l3 z hz).2; omega⟩, fun p hp => ?_⟩
  obtain ⟨k, u, a, b⟩ := pr_sc p hp
  have k6 := gE_l a
  have e1 : p.1 = 1100 + 6 * (d : Int) + k := by rw [b]
  refine ⟨⟨⟨by omega, by omega⟩, fun z => by omega, fun _ z => by omega⟩, fun o => ?_⟩
  rcases o with o | o | o | o
  · rcases o with o | o <;> omega
  · omega
  · omega
  · omega
/-- a body from its entry to behind its LEAVE -/
theorem y_body {H : Int → Int} {cl q r fs kp : Int} {sc : List (Int × Int)} {L0 : List Int} (hW : ckW σ A) (hSl : slA σ vb) (hVb : ∀ b, vbF A D b → vb b) (hO : okO A B O) (hOs : ∀ n st, ((O n st).map (slF σ)).Pairwise (· < ·)) (hP : ∀ f, fPu A D (sg_g σ 6) B lev O call j f) (hq : 0 ≤ q ∧ q < 13) (hcl : cl ≤ q) (hcj : cl ≤ (j : Int)) (h1 : dI σ A H cl q r fs kp) (h2 : dIn σ A D B cl q r kp) (hst : stN A D (sg_g σ 6) B lev j 201 L0 sc r) (hsl : slQ σ sc (fs + kp)) (hD : dDy σ A D vb lev X call (sg_g σ 11 r) cl) {σ8 : sg_S} {m : Nat} {ρ : fEv} {t sv c cr rt : Int} {N : Nat} {s : fSt} (h8 : bP σ σ8 t sv N c (sg_g σ 31 q)) (h9 : ctX σ8 s) (h63 : sg_g σ8 63 q = rt) (hS : scY σ A D vb σ8 ρ N sc) (ht : t + (sg_g σ 12 r + 1) ≤ 400) (hs : sv + 12 * (sg_g σ 12 r + 1) ≤ 2400) (hm : 6 * (2001 - s.1) + cr ≤ (m : Int)) (hcr : 1 ≤ cr) (kk : kY σ A D vb lev (j + 1) X σ8 ρ t sv c rt (cr - 1) (sg_g σ 12 r + 1) q [] N (sg_g σ 6 r).toNat (fxN A D (sg_g σ 6) B O call 201 r N ρ s)) : Ry σ X m σ8 := by
  obtain ⟨L, ds, B', sc', hr, f1, f2, f3, f4, f5, f6, f7, f8, f9, f10, f11⟩ := h1
  obtain ⟨L', ds', sc'', -, g1, -, -, -, -, -, g7, -⟩ := h2
  rw [fT_det g1 f1] at g7
  rw [fT_det hst.2.1 f1] at hst
  have rr := f3 r (fT_sub f1 r (by simp)) L f1
  have r0 := (rr r).mp (fT_sub f1 r (by simp))
  have lw := (rr (sg_g σ 11 r)).mpr ⟨Int.le_refl _, Int.le_trans r0.1 r0.2⟩
  have inr := fT_inq (fun k a b => (hW.2.2 k a b).2) f1 (by intro y hy; simp at hy; rw [hy]; exact hr)
  have l0 := (inr _ lw).1
  have hl : (L.length : Int) ≤ sg_g σ 12 r - sg_g σ 11 r + 1 := by
    clear kk
    rcases wit_len (f := id) (a := sg_g σ 11 r) (b := sg_g σ 12 r) f2 (fun x hx => ⟨x, ((rr x).mp hx).1, ((rr x).mp hx).2, rfl⟩) with z | z
    · exact z
    · rw [z]; simp only [List.length_nil]; omega
  obtain ⟨p1, p2⟩ := pl_a f7
  have ht' : t + (L.length : Int) + sg_g σ 11 r ≤ 400 := by clear kk; omega
  have hs' : sv + ((12 * L.length : Nat) : Int) + 12 * sg_g σ 11 r ≤ 2400 := by clear kk; omega
  have hcr' : 0 ≤ cr := by clear kk; omega
  refine yN_all hD hcj hW hSl hVb hO hOs l0 hP 201 r L (gsl fs kp.toNat) sc (fs + kp) (H q) (sg_g σ 31 q) 12 hst (fun x hx => ⟨((rr x).mp hx).1, g7 x hx⟩) f3 f5 hsl f6 p1 f10 σ8 m ρ t sv c cr N s h8 h9 hS ht' hs' hm hcr' ?_
  generalize fxN A D (sg_g σ 6) B O call 201 r N ρ s = res at kk
  match res, kk with
  | .inl e, kk => exact fun σ' q1 q2 q3 q4 => kk σ' q1 q2 q3 q4
  | .inr (v, s', ρ'), kk =>
    intro σ1 m1 hm1 h1' c1 u1 v1
    simp only at hm1 h1' c1 u1 v1
    have sb := c1.2.2.2.1
    obtain ⟨m1, rfl⟩ : ∃ m', m1 = m' + 1 := ⟨m1 - 1, by clear kk; omega⟩
    refine zy_leave (r := rt) h1' c1 p2 hq (by rw [u1.2.2.2.2.2 q hcl]; exact h63) (fun σ2 h2' c2 g2 => ?_)
    have hm2 : 6 * (2001 - s'.1) + (cr - 1) ≤ (m1 : Int) := by clear kk; omega
    have hnl : sg_g σ 11 r ≤ sg_g σ 12 r + 1 := by clear kk; omega
    have u2 : yU σ A D vb lev (j + 1) σ8 σ1 ρ ρ' t sv (sg_g σ 12 r + 1) q [] := yU_w u1 ⟨hnl, hcl⟩ (Int.le_refl _) (Int.le_refl _) (fun x hx hy => by have := ((rr x).mp hx).2; clear kk; omega) (fun b w => ow_l (Nat.le_succ _) (fun y hy => Or.inr (by rw [(hst.2.2.2.1 y hy).2]; exact Nat.lt_succ_self _)) w)
    exact kk σ2 m1 hm2 h2' c2 (yU_t u2 (yU_F (L := []) g2 (yEx_F g2 rfl) rfl (fun i _ => sg_F_ga g2 rfl)) ⟨Int.le_refl _, Int.le_refl _⟩ ⟨Int.le_refl _, Int.le_refl _⟩ (fun x hx => hx) (fun x hx => hx)) (by rw [sg_F_ga g2 rfl]; exact yX_up (yEx_F g2 rfl) v1)
/-- all DEFS -/
theorem cLy_all {H : Int → Int} {M r0 : Int} (hW : ckW σ A) (hD2 : cD2 σ D) (hSl : slA σ vb) (hVb : ∀ b, vbF A D b → vb b) (hO : okO A B O) (hOs : ∀ n st, ((O n st).map (slF σ)).Pairwise (· < ·)) (hX : pgX σx A D (sg_g σ 6) B) (hlv : lvP A D lev 0 r0) (h1 : dA σ A H M) (h2 : dAn σ A D B M) : ∀ (j : Nat), (j : Int) < M → ∀ k : Nat, j < k → cLy σ A D vb lev X (fxC A D (sg_g σ 6) B O k) (j : Int) := by
  intro j
  induction j using Nat.strongRecOn with
  | ind j ih =>
    intro hM k hjk σ8 m ρ t sv c cr r N s h8 h9 h63 hv ht hs hm hcr
    obtain ⟨d1, d2⟩ := h1.2 j (by omega) hM
    obtain ⟨e1, e2, e3, ⟨y, e4, e5, e6⟩, e7⟩ := h2.2 j (by omega) hM
    rw [Int.toNat_natCast] at e4
    obtain ⟨L', st⟩ := stN_d hX hlv e4
    have st' : stN A D (sg_g σ 6) B lev j 201 L' (scZ (kPe y) (kPb j 0 y.2.2.1 [])) (sg_g σ 22 j) := by rw [← e6]; exact st
    have hD : dDy σ A D vb lev X (fxC A D (sg_g σ 6) B O j) (sg_g σ 11 (sg_g σ 22 j)) j := fun q' a b => by
      obtain ⟨f1, f2, f3, f4, f5⟩ := h2.2 q' a (by omega)
      refine ⟨by have := h2.1; omega, ?_, e7 q' a b, f2, f3, f4⟩
      have := ih q'.toNat (by omega) (by omega) j (by omega)
      rw [show ((q'.toNat : Nat) : Int) = q' by omega] at this
      exact this
    obtain ⟨-, -, -, c4, c5, c6⟩ := hD2.2.2 j y e4
    have f11 : ∀ i : Nat, (i : Int) < sg_g σ 23 j → sg_g σ 34 (sg_g σ 24 j + i) = sg_g σ 27 (6 * (j : Int) + i) ∧ kIn (sg_g σ 34 (sg_g σ 24 j + i)) := by
      obtain ⟨L, ds, B', sc', hr, f1, f2, f3, f4, f5, f6, f7, f8, f9, f10, f11⟩ := id d1
      exact f11
    have sl : slQ σ (scZ (kPe y) (kPb j 0 y.2.2.1 [])) (sg_g σ 24 j + sg_g σ 23 j) := fun p hp => by
      obtain ⟨i, u, hu, ep⟩ := pr_sc p hp
      have hi := gE_l hu
      have sp : slF σ p.1 = sg_g σ 24 j + i := by rw [ep]; exact sl_par (Int.natCast_nonneg _) (by omega)
      have w := (c6 i u hu).2.2
      obtain ⟨z1, z2⟩ := f11 i (by omega)
      rw [z1, w] at z2
      exact ⟨by rw [sp]; omega, by rw [sp, z1, w, ep], by rw [ep]; exact z2⟩
    have hS : scY σ A D vb σ8 ρ N (scZ (kPe y) (kPb j 0 y.2.2.1 [])) := fun p hp => by
      obtain ⟨i, u, hu, rfl⟩ := pr_sc p hp
      have hi := gE_l hu
      have z := hv i (by rw [c4]; exact Int.ofNat_lt.mpr hi)
      have i6 : i < 6 := Nat.lt_of_lt_of_le hi c5
      have bt : bTy A D (sg_g σ 6) (1100 + 6 * (j : Int) + (i : Int)) = u.2.2 := bTy_p e4 hu i6
      generalize hb : 1100 + 6 * (j : Int) + (i : Int) = b at z bt
      have vbb : vb b := hVb _ (Or.inr (Or.inr ⟨j, i, y, e4, hi, hb.symm⟩))
      exact ⟨vbb, bt.symm, z.1, z.2⟩
    have hq : (0 : Int) ≤ (j : Int) ∧ (j : Int) < 13 := ⟨by omega, by have := h1.1; omega⟩
    intro kk
    rw [fxC_e A D (sg_g σ 6) B O k j hjk, List.getD_eq_getElem?_getD, e4, Option.getD_some, e6, Int.toNat_natCast] at kk
    exact y_body (j := j) (cl := (j : Int)) (q := (j : Int)) (r := sg_g σ 22 j) (fs := sg_g σ 24 j) (kp := sg_g σ 23 j) (L0 := L') hW hSl hVb hO hOs (fun f => fx_ok hX hlv hO (fxC_ok hX hlv hO j) f) hq (Int.le_refl _) (Int.le_refl _) d1 e1 st' sl hD h8 h9 h63 hS ht hs hm hcr kk
theorem dDy_all {H : Int → Int} {M r0 nl : Int} (hW : ckW σ A) (hD2 : cD2 σ D) (hSl : slA σ vb) (hVb : ∀ b, vbF A D b → vb b) (hO : okO A B O) (hOs : ∀ n st, ((O n st).map (slF σ)).Pairwise (· < ·)) (hX : pgX σx A D (sg_g σ 6) B) (hlv : lvP A D lev 0 r0) (h1 : dA σ A H M) (h2 : dAn σ A D B M) (hl : ∀ q, 0 ≤ q → q < M → nxq σ q ≤ nl) : dDy σ A D vb lev X (fxC A D (sg_g σ 6) B O M.toNat) nl M := fun q a b => by
  obtain ⟨e1, e2, e3, e4, e5⟩ := h2.2 q a b
  refine ⟨by have := h2.1; omega, ?_, hl q a b, e2, e3, e4⟩
  have := cLy_all (X := X) hW hD2 hSl hVb hO hOs hX hlv h1 h2 q.toNat (by omega) M.toNat (by omega)
  rw [show ((q.toNat : Nat) : Int) = q by omega] at this
  exact this
end DGS
