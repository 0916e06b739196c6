/-! { } are read alike. -/
section EAC
variable {c : tkC} {t : aK} {N : Nat} {τ τ' : sg_S} {A A' : aT} {b n q l r : Int} {L R : List Int} {i : Nat} {K Pl W G U : Int}
/-- the name and the place of a GEN stand at its sequence -/
theorem bS_g (h : bS τ A b n L (r :: R)) (w p : Int) : bS (sg_w (sg_wl τ 18 r w) 15 r p) A b n L (r :: R) ∧ fB τ (sg_w (sg_wl τ 18 r w) 15 r p) b := by
  obtain ⟨h1, h2, h3, h4, h5, h6⟩ := h
  have hr := h6 r (by simp)
  have e : ∀ (a : Nat) (j : Int), ¬ (a = 15 ∧ j = r) → sg_g (sg_w (sg_wl τ 18 r w) 15 r p) a j = sg_g τ a j := fun a j q => by rw [sg_gw, if_neg q, sg_gwl']
  have el : ∀ (a : Nat) (j : Int), ¬ (a = 18 ∧ j = r) → sg_gl (sg_w (sg_wl τ 18 r w) 15 r p) a j = sg_gl τ a j := fun a j q => by rw [sg_gw', sg_gwl, if_neg q]
  refine ⟨⟨by rw [e 2 16 (by omega)]; exact h1, h2, oN_e h3 (e 10 n (by omega)) (e 7 n (by omega)) (e 8 n (by omega)) (fun x _ => e 9 x (by omega)), fun k a0 a1 a2 => ⟨cN_x (h4 k a0 a1 a2).1 ⟨rfl, rfl, rfl, rfl, rfl⟩ (fun a ha => e a k (by omega)) (el 17 k (by omega)) (fun x hx => ?_), (h4 k a0 a1 a2).2⟩, h5, h6⟩, fB_w (fB_wl (fB_r _ _) (by decide) hr.1.1) (by decide) hr.1.1⟩
  have hx2 : ¬ x = r := fun q => ((h4 k a0 a1 a2).2 x hx).2.1 (by simp [q])
  exact ⟨e 9 x (by omega), e 15 x (by omega), el 18 x (by omega)⟩
/-- a row of the open node's own -/
theorem bS_o (h : bS τ A b n L R) {a0 : Nat} (ha : a0 = 13 ∨ a0 = 14) (v : Int) : bS (sg_w τ a0 n v) A b n L R ∧ fB τ (sg_w τ a0 n v) b := by
  obtain ⟨h1, h2, h3, h4, h5, h6⟩ := h
  have e : ∀ (a : Nat) (j : Int), ¬ (a = a0 ∧ j = n) → sg_g (sg_w τ a0 n v) a j = sg_g τ a j := fun a j q => by rw [sg_gw, if_neg q]
  refine ⟨⟨by rw [e 2 16 (by omega)]; exact h1, h2, oN_e h3 (e 10 n (by omega)) (e 7 n (by omega)) (e 8 n (by omega)) (fun x _ => e 9 x (by omega)), fun k b0 b1 b2 => ⟨cN_x (h4 k b0 b1 b2).1 ⟨rfl, rfl, rfl, rfl, rfl⟩ (fun a ha => e a k (by omega)) rfl (fun x hx => ⟨e 9 x (by omega), e 15 x (by omega), rfl⟩), (h4 k b0 b1 b2).2⟩, h5, h6⟩, fB_w (fB_r _ _) (by omega) h2.2.1⟩
/-- the GENS so far: their names and places at their sequences -/
def gN (τ : sg_S) (L : List Int) (Gs : List (Int × Int)) : Prop := L.length = Gs.length ∧ ∀ (j : Nat) (x : Int × Int) (y : Int), Gs[j]? = some x → L[j]? = some y → sg_gl τ 18 y = uv x.1 ∧ sg_g τ 15 y = x.2
theorem gN_e {Gs : List (Int × Int)} (h : gN τ L Gs) (e : ∀ y ∈ L, sg_gl τ' 18 y = sg_gl τ 18 y ∧ sg_g τ' 15 y = sg_g τ 15 y) : gN τ' L Gs := ⟨h.1, fun j x y hx hy => by
  have hm := List.mem_of_getElem? hy
  rw [(e y hm).1, (e y hm).2]
  exact h.2 j x y hx hy⟩
theorem gen_ok (hB : tkB c t N) {E : pF} {E' : aF} (hE : sF c t N E E') (gE : gF E') {body : Int} : ∀ (m : Nat) (i : Nat) (τ : sg_S) (A : aT) (L : List Int) (Gs : List (Int × Int)), i ≤ N → bS τ A b n L [body] → sN τ n K Pl W Gs.length U → A.2.2.2.2.1 n = body :: L → A.2.2.2.2.2 n = Gs → gN τ L Gs → Gs.length + m = 4 → (pGenL c E n (m + 1) i τ = none ∧ aGenL t E' n m i A = none) ∨ ∃ i1 τ1 A1 L1 Gs1, pGenL c E n (m + 1) i τ = some (i1, τ1) ∧ aGenL t E' n m i A = some (i1, A1) ∧ i1 ≤ N ∧ bS τ1 A1 b n L1 [body] ∧ sN τ1 n K Pl W Gs1.length U ∧ A1.2.2.2.2.1 n = body :: L1 ∧ A1.2.2.2.2.2 n = Gs1 ∧ gN τ1 L1 Gs1 ∧ fB τ τ1 b ∧ (A1.2.1 n = A.2.1 n ∧ A1.2.2.1 n = A.2.2.1 n)
  | 0, i, τ, A, L, Gs, hi, h, hs, hL, hG, hg, hm => by
    left
    simp [pGenL, aGenL]
  | m + 1, i, τ, A, L, Gs, hi, h, hs, hL, hG, hg, hm => by
    have hA := h.2.1
    by_cases c1 : tK c i = 258
    · have a1 := (b_nm hB hi).mpr c1
      have hlt := b_lt hB hi (by have := nm_t a1; omega)
      by_cases c2 : tK c (i + 1) = 263
      · have a2 := (b_in hB (i := i + 1) (by omega)).mpr c2
        have hlt2 := b_lt hB (i := i + 1) (by omega) (by have := wo_t a2; omega)
        have key : pGenL c E n (m + 1 + 1) i τ = match E (i + 1 + 1) τ with
            | none => none
            | some (i1, τ1, r) => if tK c i1 = 44 then pGenL c E n (m + 1) (i1 + 1) (sx_put (pAttach (sx_put (sx_putl τ1 18 200 r (tW c i)) 15 200 r (tPl c i)) n r) 13 200 n (5 - ((m + 1 : Nat) : Int))) else some (i1, sx_put (pAttach (sx_put (sx_putl τ1 18 200 r (tW c i)) 15 200 r (tPl c i)) n r) 13 200 n (5 - ((m + 1 : Nat) : Int))) := by
          rw [pGenL]
          rw [if_pos ⟨c1, by omega⟩, if_pos c2]
          rfl
        rw [key]
        simp only [aGenL, a1, a2, if_true]
        have hA' : (aGn A n (t.2.1 i) (t.2.2 i)).1 = A.1 ∧ ∀ k, ¬ k = n → (aGn A n (t.2.1 i) (t.2.2 i)).2.1 k = A.2.1 k ∧ (aGn A n (t.2.1 i) (t.2.2 i)).2.2.1 k = A.2.2.1 k ∧ (aGn A n (t.2.1 i) (t.2.2 i)).2.2.2.1 k = A.2.2.2.1 k ∧ (aGn A n (t.2.1 i) (t.2.2 i)).2.2.2.2.1 k = A.2.2.2.2.1 k ∧ (aGn A n (t.2.1 i) (t.2.2 i)).2.2.2.2.2 k = A.2.2.2.2.2 k := ⟨rfl, fun k hk => by simp only [aGn, aU_n _ _ hk, and_self]⟩
        have h' := bS_A h hA'
        rcases hE (i + 1 + 1) τ (aGn A n (t.2.1 i) (t.2.2 i)) (by omega) h'.1 (by simp only [aGn_1]; omega) with ⟨x1, x2⟩ | ⟨i1, τ1, A1, r, x1, x2, x3, x4, x5⟩
        · left
          rw [show i + 1 + 1 = i + 2 by omega] at x1 x2
          rw [show i + 1 + 1 = i + 2 by omega, x1, x2]
          exact ⟨rfl, rfl⟩
        rw [show i + 1 + 1 = i + 2 by omega] at x1 x2
        rw [show i + 1 + 1 = i + 2 by omega, x1, x2]
        simp only
        have g := gE _ _ _ _ _ x2 (by simp only [aGn_1]; omega)
        have g1 := g.1.1
        simp only [aGn_1] at g1
        have b1 := bS_E h' x4 x5 g.1
        have s1 := sN_f hs x5 (by simp only [aGn_1]; omega)
        have hr0 := b1.2.2.2.2.2 r (by simp)
        have hr : 0 ≤ r ∧ r < 200 := by have := b1.2.1; omega
        have hkk : 0 ≤ n ∧ n < 200 := by omega
        rw [px_in hkk, px_in hr, plx_in hr]
        obtain ⟨b2, f2⟩ := bS_g b1 (tW c i) (tPl c i)
        obtain ⟨b3, f3, w3, v3⟩ := bS_at (A' := aKid A1 n r) b2 (kid_o A1 n r)
        obtain ⟨b4, f4⟩ := bS_o b3 (a0 := 13) (Or.inl rfl) (5 - ((m + 1 : Nat) : Int))
        have kn := g.1.2 n (by simp only [aGn_1]; omega)
        have hpr := tPl_r hB.1 i
        have hc2 := hB.1.2.1
        have e5 : (5 : Int) - ((m + 1 : Nat) : Int) = ((Gs ++ [(t.2.1 i, t.2.2 i)]).length : Nat) := by simp; omega
        have s4 : sN (sg_w (pAttach (sg_w (sg_wl τ1 18 r (tW c i)) 15 r (tPl c i)) n r) 13 n (5 - ((m + 1 : Nat) : Int))) n K Pl W (Gs ++ [(t.2.1 i, t.2.2 i)]).length U := by
          obtain ⟨q1, q2, q3, q4, q5⟩ := s1
          refine ⟨?_, ?_, ?_, ?_, ?_⟩
          · rw [sg_gw_c _ _ _ _ _ _ (by decide), w3 3 n (by omega), sg_gw_c _ _ _ _ _ _ (by decide), sg_gwl']; exact q1
          · rw [sg_gw_c _ _ _ _ _ _ (by decide), w3 4 n (by omega), sg_gw_c _ _ _ _ _ _ (by decide), sg_gwl']; exact q2
          · rw [sg_gw', v3, sg_gw', sg_gwl_c _ _ _ _ _ _ (by decide)]; exact q3
          · rw [sg_gw, if_pos ⟨rfl, rfl⟩, sg_id ⟨by omega, by omega⟩]; exact e5
          · rw [sg_gw_c _ _ _ _ _ _ (by decide), w3 14 n (by omega), sg_gw_c _ _ _ _ _ _ (by decide), sg_gwl']; exact q5
        have eks : (aKid A1 n r).2.2.2.2.1 n = body :: (L ++ [r]) := by rw [kn_k, kn.2.2.2.1]; simp only [aGn]; rw [hL]; rfl
        have egs : (aKid A1 n r).2.2.2.2.2 n = Gs ++ [(t.2.1 i, t.2.2 i)] := by simp only [aKid]; rw [kn.2.2.2.2]; simp only [aGn, aU_e]; rw [hG]
        have hrL : r ∉ L := fun hc => by
          have := b1.2.2.2.2.1
          rw [List.nodup_append] at this
          exact this.2.2 r hc r (by simp) rfl
        have gn : gN (sg_w (pAttach (sg_w (sg_wl τ1 18 r (tW c i)) 15 r (tPl c i)) n r) 13 n (5 - ((m + 1 : Nat) : Int))) (L ++ [r]) (Gs ++ [(t.2.1 i, t.2.2 i)]) := by
          refine ⟨by simp [hg.1], fun j x y hx hy => ?_⟩
          rw [sg_gw', v3, sg_gw_c _ _ _ _ _ _ (by decide), w3 15 y (by omega), sg_gw', sg_gwl, sg_gw, sg_gwl']
          by_cases ej : j = L.length
          · subst ej
            rw [List.getElem?_append_right (Nat.le_refl _)] at hy
            rw [hg.1, List.getElem?_append_right (Nat.le_refl _)] at hx
            simp at hx hy
            subst hy
            rw [← hx, if_pos ⟨rfl, rfl⟩, if_pos ⟨rfl, rfl⟩, tW_r hB hlt (Or.inl c1), sg_id ⟨by omega, by omega⟩]
            exact ⟨(tok_u hB.1 hB.2.2.1 hlt (Or.inl c1)).symm, ((hB.2.2.1.1 i hi).2).symm⟩
          · have hjl : j < L.length := by
              have := (List.getElem?_eq_some_iff.mp hy).1
              simp at this
              omega
            rw [List.getElem?_append_left hjl] at hy
            rw [List.getElem?_append_left (by rw [← hg.1]; exact hjl)] at hx
            have hm2 := List.mem_of_getElem? hy
            have hyr : ¬ y = r := fun e => hrL (e ▸ hm2)
            have hyA := (h.2.2.2.2.2 y (by simp [hm2])).1
            rw [if_neg (fun e => hyr e.2), if_neg (fun e => hyr e.2), (x5.1 18 y (by omega) (by simp only [aGn_1]; omega)).2, (x5.1 15 y (by omega) (by simp only [aGn_1]; omega)).1]
            exact hg.2 j x y hx hy
        have ff : fB τ (sg_w (pAttach (sg_w (sg_wl τ1 18 r (tW c i)) 15 r (tPl c i)) n r) 13 n (5 - ((m + 1 : Nat) : Int))) b := fB_t (fB_t (fB_t (fB_m x5 (by simp only [aGn_1]; omega)) f2) f3) f4
        have ck : (aKid A1 n r).2.1 n = A.2.1 n ∧ (aKid A1 n r).2.2.1 n = A.2.2.1 n := ⟨by simp only [aKid]; rw [kn.1]; rfl, by simp only [aKid]; rw [kn.2.1]; rfl⟩
        have hcnt : ((aKid A1 n r).2.2.2.2.1 n).length = 1 + ((aKid A1 n r).2.2.2.2.2 n).length := by
          rw [eks, egs]
          simp only [List.length_cons, List.length_append, List.length_nil]
          have := hg.1
          omega
        by_cases c44 : tK c i1 = 44
        · have a44 := (b_sg hB x3 (ch := 44) (by decide)).mpr c44
          have hlt3 := b_lt hB x3 (by have := sg_t a44; omega)
          simp only [if_pos c44, if_pos (And.intro a44 hcnt)]
          rcases gen_ok hB hE gE m (i1 + 1) _ _ (L ++ [r]) (Gs ++ [(t.2.1 i, t.2.2 i)]) (by omega) b4 s4 eks egs gn (by simp only [List.length_append, List.length_cons, List.length_nil]; omega) with y | ⟨i3, τ3, A3, L3, Gs3, y1, y2, y3, y4, y5, y6, y7, y8, y9, y10⟩
          · exact Or.inl y
          · refine Or.inr ⟨i3, τ3, A3, L3, Gs3, y1, y2, y3, y4, y5, y6, y7, y8, fB_t ff y9, ?_⟩
            rw [y10.1, y10.2]
            exact ck
        · have a44 : ¬ aSg t i1 44 = true := fun x => c44 ((b_sg hB x3 (by decide)).mp x)
          simp only [if_neg c44, if_neg (show ¬ (aSg t i1 44 = true ∧ ((aKid A1 n r).2.2.2.2.1 n).length = 1 + ((aKid A1 n r).2.2.2.2.2 n).length) from fun x => a44 x.1)]
          exact Or.inr ⟨i1, _, _, _, _, rfl, rfl, x3, b4, s4, eks, egs, gn, ff, ck⟩
      · left
        have a2 : ¬ aWo t (i + 1) 374 = true := fun x => c2 ((b_in hB (by omega)).mp x)
        simp only [pGenL, aGenL, a1, c1, if_neg c2, if_neg a2, if_true]
        refine ⟨?_, trivial⟩
        split <;> rfl
    · left
      have a1 : ¬ aNm t i = true := fun x => c1 ((b_nm hB hi).mp x)
      simp only [pGenL, aGenL, if_neg a1, and_true]
      rw [if_neg (fun x => c1 x.1)]
end EAC
