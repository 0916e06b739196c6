/-! The class's flat run answers what the reference's does. -/
theorem fT_nod {A : aT} {x : Int} : ∀ (m : Nat) (R L : List Int), L.length ≤ m → fT A R L → x ∈ L → ∃ Lx, fT A [x] Lx ∧ ∀ y ∈ Lx, y ∈ L
  | m, [], L, hm, h, hx => by
    have e := fT_nil h
    rw [e] at hx
    cases hx
  | 0, r :: R, L, hm, h, hx => by
    cases L with
    | nil => cases hx
    | cons a l => simp at hm
  | m + 1, r :: R, L, hm, h, hx => by
    obtain ⟨L1, L2, e1, w1, w2, w3⟩ := fT_inv h
    subst e1
    have hl : (r :: (L1 ++ L2)).length = 1 + L1.length + L2.length := by rw [List.length_cons, List.length_append]; omega
    rcases List.mem_cons.mp hx with q | q
    · rw [q]
      refine ⟨r :: L1, fT_one w1 w2, fun y hy => ?_⟩
      rcases List.mem_cons.mp hy with p | p
      · rw [p]; exact List.mem_cons_self
      · exact List.mem_cons_of_mem _ (List.mem_append_left _ p)
    · rcases List.mem_append.mp q with p | p
      · obtain ⟨Lx, a, b⟩ := fT_nod m _ L1 (by omega) w2 p
        exact ⟨Lx, a, fun y hy => List.mem_cons_of_mem _ (List.mem_append_left _ (b y hy))⟩
      · obtain ⟨Lx, a, b⟩ := fT_nod m R L2 (by omega) w3 p
        exact ⟨Lx, a, fun y hy => List.mem_cons_of_mem _ (List.mem_append_right _ (b y hy))⟩
section DIS
variable {A : aT} {D : List aDf} {T B : Int → Int} {k : Int}
/-- what NAMES are bound to -/
theorem nm_vb (tyD : ∀ (j : Nat) (x : aDf), D[j]? = some x → tyN A (kDl (D.take j) []) T B 201 (scZ (kPe x) (kPb j 0 x.2.2.1 [])) x.2.2.2) (tyK : tyN A (kDl D []) T B 201 [] k) {LA : List Int} (hf : fT A (aRt D ++ [k]) LA) : ∀ y ∈ LA, A.2.1 y = 1 → vbF A D (B y) := fun y hy k1 => by
  obtain ⟨r, hr, Lr, a1, a2, -⟩ := fT_in hf y hy
  rcases List.mem_append.mp hr with q | q
  · unfold aRt at q
    obtain ⟨x, hx, e⟩ := List.mem_map.mp q
    obtain ⟨j, hj⟩ := List.getElem?_of_mem hx
    rw [← e] at a1
    exact ty_vb (D := D) 201 _ _ Lr a1 (tyD j x hj) (fun p hp => by
      obtain ⟨i, u, hu, ep⟩ := pr_sc p hp
      rw [ep]
      exact Or.inr (Or.inr ⟨j, i, x, hj, gE_l hu, rfl⟩)) y a2 k1
  · have e : r = k := by simpa using q
    rw [e] at a1
    exact ty_vb (D := D) 201 [] k Lr a1 tyK (fun p hp => (by cases hp)) y a2 k1
/-- slots tell binders apart, outside of the tree too -/
theorem hi_6 {σ : sg_S} (hSl : slA σ (vbF A D)) (hv : ∀ y, 0 ≤ y → y < A.1 → A.2.1 y = 1 → vbF A D (sg_g σ 102 y)) : ∃ y0, ∀ y y', A.2.1 y = 1 → A.2.1 y' = 1 → slF σ (sg_g (sT6 σ A.1 y0) 102 y) = slF σ (sg_g (sT6 σ A.1 y0) 102 y') → sg_g (sT6 σ A.1 y0) 102 y = sg_g (sT6 σ A.1 y0) 102 y' := by
  by_cases ex : ∃ y, (0 ≤ y ∧ y < A.1) ∧ A.2.1 y = 1
  · obtain ⟨y0, h0, h1⟩ := ex
    refine ⟨y0, fun y y' q q' e => ?_⟩
    have g : ∀ y, A.2.1 y = 1 → vbF A D (sg_g (sT6 σ A.1 y0) 102 y) := fun y ky => by
      rw [sT6_b]
      by_cases c : 0 ≤ y ∧ y < A.1
      · rw [if_pos c]; exact hv y c.1 c.2 ky
      · rw [if_neg c]; exact hv y0 h0.1 h0.2 h1
    exact hSl.2 _ _ (g y q) (g y' q') e
  · refine ⟨0, fun y y' q q' _ => ?_⟩
    rw [sT6_b, sT6_b, if_neg (fun c => ex ⟨y, c, q⟩), if_neg (fun c => ex ⟨y', c, q'⟩)]
end DIS
/-- the class's run -/
theorem cF9 {σ : sg_S} {A : aT} {D : List aDf} {k : Int} {B0 : Int → Int} {O : Int → Nat → List Int} {Q : Int → sg_S → Prop} (h : clR σ A D k) (hX : pgX σ A D (sg_g σ 101) (sg_g σ 102)) (hB : ∀ x, 0 ≤ x → x < A.1 → sg_g σ 102 x = kPB A D k B0 x) (hT6 : ∀ n, 0 ≤ n → n < A.1 → sg_g σ 6 n = sg_g σ 101 n) (hO : okO A (sg_g σ 102) O) (kk : ∀ σ', Q (fRe (fxA A D (sg_g σ 101) (sg_g σ 102) O k)) σ') : V_mRun σ (sg_g σ 6 k) Q := by
  obtain ⟨b2, b3, b4, b5, ⟨T, Tf, t1, t2⟩, b6, b7, b8, b9, b10⟩ := id h
  obtain ⟨LA, f1, f2, f3, f4⟩ := id b4
  obtain ⟨td, tk⟩ := ty8 h hB
  have vb := nm_vb td tk f1
  obtain ⟨-, -, -, a4⟩ := asm8 b2 b3 b4 b5 t1 t2 b6 b7 b8 b9 hB
  obtain ⟨y0, hi⟩ := hi_6 a4 (fun y z1 z2 ky => vb y (f4 y z1 z2) ky)
  have eB : ∀ x, 0 ≤ x → x < A.1 → sg_g (sT6 σ A.1 y0) 102 x = sg_g σ 102 x := fun x z1 z2 => by rw [sT6_b, if_pos ⟨z1, z2⟩]
  have hB' : ∀ x, 0 ≤ x → x < A.1 → sg_g (sT6 σ A.1 y0) 102 x = kPB A D k B0 x := fun x z1 z2 => (eB x z1 z2).trans (hB x z1 z2)
  obtain ⟨td', tk'⟩ := ty8 h hB'
  have hX' := pgX_6 (y0 := y0) hX td'
  obtain ⟨c1, c2, c3, -⟩ := asm8 b2 b3 b4 b5 t1 t2 b6 b7 b8 b9 hB'
  obtain ⟨H, fs, d1, d2, d3⟩ := asm b2 b3 b4 ⟨fun j x hx => ⟨_, _, _, td' j x hx⟩, _, _, _, tk'⟩ b6 b7
  obtain ⟨O', o1, o2⟩ := S_ex A (sg_g (sT6 σ A.1 y0) 102) (slF σ) hi
  have ha : sg_n (sg_g σ 6 k) ≤ 3 := by rw [sg_id (sg_Rg _ _ _)]; exact tk.2.2.1.2
  have hA := hX.2.2.2.2.1
  have hk : ∀ n, 0 ≤ n → n < A.1 → nW A n ∧ ∀ y ∈ A.2.2.2.2.1 n, 0 ≤ y ∧ y < A.1 := fun n z1 z2 => by
    obtain ⟨Lx, u1, -⟩ := fT_nod LA.length _ LA (Nat.le_refl _) f1 (f4 n z1 z2)
    obtain ⟨L1, L2, e1, w1, w2, w3⟩ := fT_inv u1
    exact ⟨w1, (b2.2.2 n z1 z2).2⟩
  have eq : fRe (fxA A D (sg_g σ 6) (sg_g (sT6 σ A.1 y0) 102) O' k) = fRe (fxA A D (sg_g σ 101) (sg_g σ 102) O k) := by
    refine fRe_r (fxA_pm f1 (fun x hx => ⟨hT6 x (f3 x hx).1 (f3 x hx).2, eB x (f3 x hx).1 (f3 x hx).2, ?_⟩))
    obtain ⟨Lx, u1, u2⟩ := fT_nod LA.length _ LA (Nat.le_refl _) f1 hx
    refine oPm_ok u1 o1 hO (fun y hy => eB y (f3 y (u2 y hy)).1 (f3 y (u2 y hy)).2) (fun y hy ky => bTy_T hA hk hT6 ?_)
    rw [eB y (f3 y (u2 y hy)).1 (f3 y (u2 y hy)).2]
    exact vb y (u2 y hy) ky
  refine y_run (vb := vbF A D) b2 b3 a4 (fun b hb => hb) o1 o2 hX' b4 tk' d1 c1 d2 c2 c3 (fun σ8 f8 e10 _ _ _ => ?_)
  refine y_conc ha (fun σ23 f23 _ => ?_)
  rw [sg_F_g f23 (by rfl), e10, eq]
  exact kk σ23
