/-! DEFS are read alike. -/
section DLP
variable {c : tkC} {t : aK} {N : Nat} {τ τ' : sg_S} {A A' : aT} {b q : Int} {R : List Int} {i : Nat}
/-- several EXPRS, one behind the other -/
theorem cS_E (h : cS τ A b R) (hs : cS τ' A' A.1 [q]) (hf : fB τ τ' A.1) (hg : gr A A') : cS τ' A' b (q :: R) := by
  obtain ⟨h1, h2, h3, h4, h5⟩ := h
  obtain ⟨s1, s2, s3, s4, s5⟩ := hs
  have hg1 := hg.1
  have hq := s5 q (by simp)
  have hqn : q ∉ R := fun hc => by have := h5 q hc; omega
  refine ⟨s1, ⟨h2.1, by omega, s2.2.2⟩, fun k hk0 hk1 => ?_, List.nodup_cons.mpr ⟨hqn, h4⟩, fun x hx => ?_⟩
  · by_cases e : k < A.1
    · obtain ⟨c1, c2⟩ := h3 k hk0 e
      have ek := hg.2 k e
      refine ⟨cN_x c1 ek (fun a ha => (hf.1 a k (by omega) e).1) (hf.1 17 k (by omega) e).2 (fun x hx => ⟨(hf.1 9 x (by omega) (c2 x hx).1.2).1, (hf.1 15 x (by omega) (c2 x hx).1.2).1, (hf.1 18 x (by omega) (c2 x hx).1.2).2⟩), ?_⟩
      rw [ek.2.2.2.1]
      intro x hx
      have := c2 x hx
      refine ⟨by omega, fun hc => ?_⟩
      rcases List.mem_cons.mp hc with e | e
      · omega
      · exact this.2 e
    · obtain ⟨c1, c2⟩ := s3 k (by omega) hk1
      refine ⟨c1, fun x hx => ?_⟩
      have := c2 x hx
      refine ⟨by omega, fun hc => ?_⟩
      rcases List.mem_cons.mp hc with e | e
      · exact this.2 (by simp [e])
      · have := h5 x e; omega
  · rcases List.mem_cons.mp hx with e | e
    · subst e; omega
    · have := h5 x e; omega
/-- the class's rows of one DEF's PARAMS -/
def cP (τ : sg_S) (d : Int) (ps : List (Int × Int × Int)) : Prop := sg_g τ 23 d = ps.length ∧ ps.length ≤ 6 ∧ ∀ (j : Nat) (y : Int × Int × Int), ps[j]? = some y → sg_gl τ 25 (6 * d + j) = uv y.1 ∧ sg_g τ 26 (6 * d + j) = y.2.1 ∧ sg_g τ 27 (6 * d + j) = y.2.2
/-- the class's rows of the DEFS -/
def cD2 (τ : sg_S) (D : List aDf) : Prop := sg_g τ 19 8 = D.length ∧ D.length ≤ 12 ∧ ∀ (d : Nat) (x : aDf), D[d]? = some x → sg_gl τ 20 d = uv x.1 ∧ sg_g τ 21 d = x.2.1 ∧ sg_g τ 22 d = x.2.2.2 ∧ cP τ d x.2.2.1
/-- the rows of DEFS alone changed -/
def dF (τ τ' : sg_S) (d : Int) : Prop := (∀ (a : Nat) (k : Int), a ≤ 18 → sg_g τ' a k = sg_g τ a k ∧ sg_gl τ' a k = sg_gl τ a k) ∧ (∀ k, ¬ k = d → sg_gl τ' 20 k = sg_gl τ 20 k ∧ sg_g τ' 21 k = sg_g τ 21 k ∧ sg_g τ' 22 k = sg_g τ 22 k ∧ sg_g τ' 23 k = sg_g τ 23 k) ∧ (∀ k, k < 6 * d → sg_gl τ' 25 k = sg_gl τ 25 k ∧ sg_g τ' 26 k = sg_g τ 26 k ∧ sg_g τ' 27 k = sg_g τ 27 k)
theorem dF_r (τ : sg_S) (d : Int) : dF τ τ d := ⟨fun _ _ _ => ⟨rfl, rfl⟩, fun _ _ => ⟨rfl, rfl, rfl, rfl⟩, fun _ _ => ⟨rfl, rfl, rfl⟩⟩
theorem dF_t {τ1 τ2 : sg_S} {d : Int} (h : dF τ τ1 d) (g : dF τ1 τ2 d) : dF τ τ2 d := ⟨fun a k ha => ⟨(g.1 a k ha).1.trans (h.1 a k ha).1, (g.1 a k ha).2.trans (h.1 a k ha).2⟩, fun k hk => ⟨(g.2.1 k hk).1.trans (h.2.1 k hk).1, (g.2.1 k hk).2.1.trans (h.2.1 k hk).2.1, (g.2.1 k hk).2.2.1.trans (h.2.1 k hk).2.2.1, (g.2.1 k hk).2.2.2.trans (h.2.1 k hk).2.2.2⟩, fun k hk => ⟨(g.2.2 k hk).1.trans (h.2.2 k hk).1, (g.2.2 k hk).2.1.trans (h.2.2 k hk).2.1, (g.2.2 k hk).2.2.trans (h.2.2 k hk).2.2⟩⟩
theorem cS_d {d : Int} (h : cS τ A b R) (hd : dF τ τ' d) : cS τ' A b R := by
  obtain ⟨h1, h2, h3, h4, h5⟩ := h
  refine ⟨by rw [(hd.1 2 16 (by omega)).1]; exact h1, h2, fun k a0 a1 => ⟨cN_x (h3 k a0 a1).1 ⟨rfl, rfl, rfl, rfl, rfl⟩ (fun a ha => (hd.1 a k (by omega)).1) (hd.1 17 k (by omega)).2 (fun x hx => ⟨(hd.1 9 x (by omega)).1, (hd.1 15 x (by omega)).1, (hd.1 18 x (by omega)).2⟩), (h3 k a0 a1).2⟩, h4, h5⟩
theorem pz_in {a n : Nat} {k v : Int} (h : 0 ≤ k ∧ k < (n : Int)) : sx_put τ a n k v = sg_w τ a k v := by unfold sx_put; rw [if_pos h]
theorem pzl_in {a n : Nat} {k v : Int} (h : 0 ≤ k ∧ k < (n : Int)) : sx_putl τ a n k v = sg_wl τ a k v := by unfold sx_putl; rw [if_pos h]
theorem az_in {a n : Nat} {k : Int} (h : 0 ≤ k ∧ k < (n : Int)) : sx_at τ a n k = sg_g τ a k := by unfold sx_at; rw [if_pos h]
/-- one PARAM more -/
theorem par_1 {d : Nat} (hd : d < 12) {ps : List (Int × Int × Int)} (h : cP τ d ps) (hl : ps.length < 6) {w p ty w0 : Int} (hw : sg_RL w) (huw : w = uv w0) (hp : sg_R p) (hty : sg_R ty) : cP (sx_put (pDPar τ d w p) 27 72 ((d : Int) * 6 + ps.length) ty) d (ps ++ [(w0, p, ty)]) ∧ dF τ (sx_put (pDPar τ d w p) 27 72 ((d : Int) * 6 + ps.length) ty) d := by
  obtain ⟨h1, h2, h3⟩ := h
  have e23 : sx_at τ 23 12 (d : Int) = ps.length := by rw [show (12 : Int) = ((12 : Nat) : Int) from rfl, az_in ⟨by omega, by omega⟩]; exact h1
  have ex : sg_n ((d : Int) * 6 + sx_at τ 23 12 (d : Int)) = (d : Int) * 6 + ps.length := by rw [e23, sg_id ⟨by omega, by omega⟩]
  unfold pDPar
  rw [ex]
  have i72 : 0 ≤ (d : Int) * 6 + ps.length ∧ (d : Int) * 6 + ps.length < ((72 : Nat) : Int) := by omega
  have i12 : 0 ≤ (d : Int) ∧ (d : Int) < ((12 : Nat) : Int) := by omega
  rw [show (72 : Int) = ((72 : Nat) : Int) from rfl, show (12 : Int) = ((12 : Nat) : Int) from rfl]
  simp only [pz_in i72, pzl_in i72, pz_in i12, az_in i12]
  have r23 : sg_g (sg_w (sg_wl τ 25 ((d : Int) * 6 + ps.length) w) 26 ((d : Int) * 6 + ps.length) p) 23 d = ps.length := by rw [sg_gw_c _ _ _ _ _ _ (by decide), sg_gwl']; exact h1
  rw [r23]
  refine ⟨⟨?_, ?_, fun j y hy => ?_⟩, fun a k ha => ⟨?_, ?_⟩, fun k hk => ⟨?_, ?_, ?_, ?_⟩, fun k hk => ⟨?_, ?_, ?_⟩⟩
  · rw [sg_gw_c _ _ _ _ _ _ (by decide), sg_gw, if_pos ⟨rfl, rfl⟩, sg_id ⟨by omega, by omega⟩]
    simp
  · simp; omega
  · simp only [rg_w, rg_w', rg_wl, rg_wl', Nat.reduceEqDiff, if_false, if_true, reduceIte]
    by_cases e : j = ps.length
    · subst e
      rw [List.getElem?_append_right (Nat.le_refl _)] at hy
      simp at hy
      rw [← hy, if_pos (by omega), if_pos (by omega), if_pos (by omega), sg_idl hw, sg_id hp, sg_id hty]
      exact ⟨huw, rfl, rfl⟩
    · have hj : j < ps.length := by
        have := (List.getElem?_eq_some_iff.mp hy).1
        simp at this
        omega
      rw [List.getElem?_append_left hj] at hy
      rw [if_neg (by omega), if_neg (by omega), if_neg (by omega)]
      exact h3 j y hy
  · rw [sg_gw_c _ _ _ _ _ _ (by omega), sg_gw_c _ _ _ _ _ _ (by omega), sg_gw_c _ _ _ _ _ _ (by omega), sg_gwl']
  · rw [sg_gw', sg_gw', sg_gw', sg_gwl_c _ _ _ _ _ _ (by omega)]
  · rw [sg_gw', sg_gw', sg_gw', sg_gwl_c _ _ _ _ _ _ (by decide)]
  · rw [sg_gw_c _ _ _ _ _ _ (by decide), sg_gw_c _ _ _ _ _ _ (by decide), sg_gw_c _ _ _ _ _ _ (by decide), sg_gwl']
  · rw [sg_gw_c _ _ _ _ _ _ (by decide), sg_gw_c _ _ _ _ _ _ (by decide), sg_gw_c _ _ _ _ _ _ (by decide), sg_gwl']
  · rw [sg_gw_c _ _ _ _ _ _ (by decide), sg_gw_k _ _ _ _ _ _ hk, sg_gw_c _ _ _ _ _ _ (by decide), sg_gwl']
  · rw [sg_gw', sg_gw', sg_gw', sg_gwl_k _ _ _ _ _ _ (by omega)]
  · rw [sg_gw_c _ _ _ _ _ _ (by decide), sg_gw_c _ _ _ _ _ _ (by decide), sg_gw_k _ _ _ _ _ _ (by omega), sg_gwl']
  · rw [sg_gw_k _ _ _ _ _ _ (by omega), sg_gw_c _ _ _ _ _ _ (by decide), sg_gw_c _ _ _ _ _ _ (by decide), sg_gwl']
end DLP
/-! DEFS and PROGRAMS are read alike, but for TYPES more than 12 deep. -/
section DMP
variable {c : tkC} {t : aK} {N : Nat} {τ τ' : sg_S} {A A' : aT} {b q : Int} {R : List Int} {i : Nat}
def badP (ps : List (Int × Int × Int)) : Prop := ∃ y ∈ ps, 12 < y.2.2
/-- names and places of the DEFS stay -/
def kpD (τ τ' : sg_S) : Prop := sg_g τ' 19 8 = sg_g τ 19 8 ∧ ∀ k, sg_gl τ' 20 k = sg_gl τ 20 k ∧ sg_g τ' 21 k = sg_g τ 21 k
theorem kpD_t {τ1 τ2 : sg_S} (h : kpD τ τ1) (g : kpD τ1 τ2) : kpD τ τ2 := ⟨g.1.trans h.1, fun k => ⟨(g.2 k).1.trans (h.2 k).1, (g.2 k).2.trans (h.2 k).2⟩⟩
theorem ty_i (hB : tkB c t N) (hi : i ≤ N) {i' : Nat} {ty : Int} (h : aTy t N i = some (i', ty)) : i' ≤ N := by
  rcases ty_ok hB hi with ⟨-, x | ⟨i2, ty2, x1, x2, x3⟩⟩ | ⟨i2, ty2, -, x1, x2, -⟩
  · rw [x] at h; cases h
  · rw [x1] at h; cases h; exact x3
  · rw [x1] at h; cases h; exact x2
theorem paL_pre (hB : tkB c t N) : ∀ (m : Nat) (ps : List (Int × Int × Int)) (i i' : Nat) (ps' : List (Int × Int × Int)), i ≤ N → aPaL t N m ps i = some (i', ps') → (∀ y ∈ ps, y ∈ ps') ∧ i' ≤ N
  | 0, ps, i, i', ps', hi, h => by simp [aPaL] at h
  | m + 1, ps, i, i', ps', hi, h => by
    simp only [aPaL] at h
    split at h
    · rename_i a1
      have hlt := b_lt hB hi (by have := nm_t a1; omega)
      split at h
      · rename_i a2
        have hlt2 := b_lt hB (i := i + 1) (by omega) (by have := sg_t a2; omega)
        split at h
        · cases h
        · rename_i i1 ty hty
          have h1 := ty_i hB (i := i + 2) (by omega) hty
          split at h
          · rename_i a3
            have hlt3 := b_lt hB h1 (by have := sg_t a3; omega)
            obtain ⟨x1, x2⟩ := paL_pre hB m _ _ _ _ (by omega) h
            exact ⟨fun y hy => x1 y (List.mem_append_left _ hy), x2⟩
          · cases h
            exact ⟨fun y hy => List.mem_append_left _ hy, h1⟩
      · cases h
    · cases h
theorem pa_ok (hB : tkB c t N) {d : Nat} (hd : d < 12) : ∀ (m : Nat) (ps : List (Int × Int × Int)) (i : Nat) (τ : sg_S), i ≤ N → cP τ d ps → ps.length + m = 6 → (pParL c d (m + 1) i τ = none ∧ (aPaL t N m ps i = none ∨ ∃ i' ps', aPaL t N m ps i = some (i', ps') ∧ badP ps' ∧ i' ≤ N)) ∨ ∃ i' τ' ps', pParL c d (m + 1) i τ = some (i', τ') ∧ aPaL t N m ps i = some (i', ps') ∧ i' ≤ N ∧ cP τ' d ps' ∧ dF τ τ' d ∧ kpD τ τ'
  | 0, ps, i, τ, hi, h, hm => by
    left
    simp [pParL, aPaL]
  | m + 1, ps, i, τ, hi, h, hm => by
    by_cases c1 : tK c i = 258
    · have a1 := (b_nm hB hi).mpr c1
      have hlt := b_lt hB hi (by have := nm_t a1; omega)
      by_cases c2 : tK c (i + 1) = 58
      · have a2 := (b_sg hB (i := i + 1) (ch := 58) (by omega) (by decide)).mpr c2
        have hlt2 := b_lt hB (i := i + 1) (by omega) (by have := sg_t a2; omega)
        have key : pParL c d (m + 1 + 1) i τ = match pType c (i + 2) with
            | none => none
            | some (i1, dp) => if tK c i1 = 44 then pParL c d (m + 1) (i1 + 1) (sx_put (pDPar τ d (tW c i) (tPl c i)) 27 72 (d * 6 + (6 - ((m + 1 : Nat) : Int))) dp) else some (i1, sx_put (pDPar τ d (tW c i) (tPl c i)) 27 72 (d * 6 + (6 - ((m + 1 : Nat) : Int))) dp) := by
          rw [pParL]
          rw [if_pos ⟨c1, by omega⟩, if_pos c2]
          rfl
        rw [key]
        simp only [aPaL, a1, a2, if_true]
        rcases ty_ok hB (i := i + 2) (by omega) with ⟨x1, x2⟩ | ⟨i1, ty, x1, x2, x3, x4, x5⟩
        · left
          rw [x1]
          refine ⟨rfl, ?_⟩
          rcases x2 with x2 | ⟨i1, ty, x2, x3, x4⟩
          · left; rw [x2]
          · rw [x2]
            simp only
            have hbad : badP (ps ++ [(t.2.1 i, t.2.2 i, ty)]) := ⟨(t.2.1 i, t.2.2 i, ty), List.mem_append_right _ (by simp), x3⟩
            by_cases a3 : aSg t i1 44 = true
            · have hlt3 := b_lt hB x4 (by have := sg_t a3; omega)
              rw [if_pos a3]
              cases hr : aPaL t N m (ps ++ [(t.2.1 i, t.2.2 i, ty)]) (i1 + 1) with
              | none => exact Or.inl rfl
              | some r =>
                obtain ⟨i9, ps9⟩ := r
                obtain ⟨p1, p2⟩ := paL_pre hB m _ _ _ _ (by omega) hr
                obtain ⟨y, hy1, hy2⟩ := hbad
                exact Or.inr ⟨i9, ps9, rfl, ⟨y, p1 y hy1, hy2⟩, p2⟩
            · rw [if_neg a3]
              exact Or.inr ⟨i1, _, rfl, hbad, x4⟩
        · rw [x1, x2]
          simp only
          have hpr := tPl_r hB.1 i
          have hc2 := hB.1.2.1
          have hpt : tPl c i = t.2.2 i := ((hB.2.2.1.1 i hi).2).symm
          have hwr : sg_RL (tW c i) := by rw [← tW_r hB hlt (Or.inl c1)]; exact sg_Rnl _
          have e6 : (6 : Int) - ((m + 1 : Nat) : Int) = ps.length := by omega
          rw [e6]
          obtain ⟨q1, q2⟩ := par_1 (τ := τ) hd h (by omega) (w := tW c i) (p := tPl c i) (ty := ty) (w0 := t.2.1 i) hwr (tok_u hB.1 hB.2.2.1 hlt (Or.inl c1)).symm ⟨by omega, by omega⟩ ⟨by omega, by omega⟩
          rw [hpt] at q1 q2 ⊢
          have q3 : kpD τ (sx_put (pDPar τ d (tW c i) (t.2.2 i)) 27 72 ((d : Int) * 6 + ps.length) ty) := by
            unfold pDPar
            refine ⟨?_, fun k => ⟨?_, ?_⟩⟩
            · rw [sx_put_c _ _ _ _ _ _ _ (by decide), sx_put_c _ _ _ _ _ _ _ (by decide), sx_put_c _ _ _ _ _ _ _ (by decide), sx_putlx_c _ _ _ _ _ _ _ (by decide)]
            · rw [sx_putx_c _ _ _ _ _ _ _ (by decide), sx_putx_c _ _ _ _ _ _ _ (by decide), sx_putx_c _ _ _ _ _ _ _ (by decide), sx_putl_c _ _ _ _ _ _ _ (by decide)]
            · rw [sx_put_c _ _ _ _ _ _ _ (by decide), sx_put_c _ _ _ _ _ _ _ (by decide), sx_put_c _ _ _ _ _ _ _ (by decide), sx_putlx_c _ _ _ _ _ _ _ (by decide)]
          by_cases c3 : tK c i1 = 44
          · have a3 := (b_sg hB x3 (ch := 44) (by decide)).mpr c3
            have hlt3 := b_lt hB x3 (by have := sg_t a3; omega)
            rw [if_pos c3, if_pos a3]
            rcases pa_ok hB hd m (ps ++ [(t.2.1 i, t.2.2 i, ty)]) (i1 + 1) _ (by omega) q1 (by simp only [List.length_append, List.length_cons, List.length_nil]; omega) with y | ⟨i9, τ9, ps9, y1, y2, y3, y4, y5, y6⟩
            · exact Or.inl y
            · exact Or.inr ⟨i9, τ9, ps9, y1, y2, y3, y4, dF_t q2 y5, kpD_t q3 y6⟩
          · rw [if_neg c3, if_neg (fun x => c3 ((b_sg hB x3 (by decide)).mp x))]
            exact Or.inr ⟨i1, _, _, rfl, rfl, x3, q1, q2, q3⟩
      · left
        have a2 : ¬ aSg t (i + 1) 58 = true := fun x => c2 ((b_sg hB (by omega) (by decide)).mp x)
        refine ⟨?_, Or.inl ?_⟩
        · simp only [pParL, if_neg c2]
          split <;> rfl
        · simp only [aPaL, a1, if_true, if_neg a2]
    · left
      have a1 : ¬ aNm t i = true := fun x => c1 ((b_nm hB hi).mp x)
      refine ⟨?_, Or.inl ?_⟩
      · rw [pParL, if_neg (fun x => c1 x.1)]
      · simp only [aPaL, if_neg a1]
/-- a DEF in both -/
def pDf1 (c : tkC) (E : pF) (d : Int) (i : Nat) (τ : sg_S) : Option (Nat × sg_S) :=
  match pTitle c d i τ with
  | none => none
  | some (i1, τ1) => match pPars c d i1 τ1 with
    | none => none
    | some (i2, τ2) => pMean c E d i2 τ2
theorem df_ok (hB : tkB c t N) {E : pF} (hE : sF c t N E (aLv t 12).1) {D : List aDf} {Rs : List Int} (hi : i ≤ N) (hk : tK c i = 261) (hd : D.length < 12) (h : cS τ A 0 Rs) (hD : cD2 τ D) : (pDf1 c E (D.length : Int) i τ = none ∧ (aDf1 t N i A = none ∨ ∃ i' A' x, aDf1 t N i A = some (i', A', x) ∧ badP x.2.2.1 ∧ i' ≤ N)) ∨ ∃ i' τ' A' x, pDf1 c E (D.length : Int) i τ = some (i', τ') ∧ aDf1 t N i A = some (i', A', x) ∧ i' ≤ N ∧ cS τ' A' 0 (x.2.2.2 :: Rs) ∧ cD2 τ' (D ++ [x]) := by
  have h2 := h.2.1
  have hlt := b_lt hB hi (by have := (b_s hB hi).2.2.1.mpr (by omega); omega)
  unfold pDf1 pTitle aDf1
  rw [if_neg (by omega)]
  by_cases c1 : tK c (i + 1) = 258
  · have a1 := (b_nm hB (i := i + 1) (by omega)).mpr c1
    have hlt1 := b_lt hB (i := i + 1) (by omega) (by have := nm_t a1; omega)
    rw [if_pos c1, if_pos a1]
    by_cases c2 : tK c (i + 1 + 1) = 40
    · have a2 := (b_sg hB (i := i + 1 + 1) (ch := 40) (by omega) (by decide)).mpr c2
      have hlt2 := b_lt hB (i := i + 1 + 1) (by omega) (by have := sg_t a2; omega)
      rw [if_pos c2, if_pos (show aSg t (i + 2) 40 = true from a2)]
      simp only
      have hpr := tPl_r hB.1 (i + 1)
      have hc2 := hB.1.2.1
      have hpt : tPl c (i + 1) = t.2.2 (i + 1) := ((hB.2.2.1.1 (i + 1) (by omega)).2).symm
      have hwr := tW_r hB hlt1 (Or.inl c1)
      have huw := tok_u hB.1 hB.2.2.1 hlt1 (Or.inl c1)
      have i12 : 0 ≤ (D.length : Int) ∧ (D.length : Int) < ((12 : Nat) : Int) := by omega
      have e1 : pDAdd τ (tW c (i + 1)) (tPl c (i + 1)) = sg_w (sg_w (sg_w (sg_wl τ 20 D.length (tW c (i + 1))) 21 D.length (tPl c (i + 1))) 23 D.length 0) 19 8 (D.length + 1) := by
        unfold pDAdd
        rw [hD.1, show (12 : Int) = ((12 : Nat) : Int) from rfl, pzl_in i12, pz_in i12, pz_in i12]
      rw [e1]
      generalize hτ1 : sg_w (sg_w (sg_w (sg_wl τ 20 D.length (tW c (i + 1))) 21 D.length (tPl c (i + 1))) 23 D.length 0) 19 8 (D.length + 1) = τ1
      have f1 : dF τ τ1 D.length ∧ sg_gl τ1 20 D.length = tW c (i + 1) ∧ sg_g τ1 21 D.length = tPl c (i + 1) ∧ cP τ1 D.length [] ∧ sg_g τ1 19 8 = D.length + 1 := by
        rw [← hτ1]
        refine ⟨⟨fun a k ha => ⟨?_, ?_⟩, fun k hk => ⟨?_, ?_, ?_, ?_⟩, fun k hk => ⟨?_, ?_, ?_⟩⟩, ?_, ?_, ⟨?_, by simp, fun j y hy => by simp at hy⟩, ?_⟩
        · rw [sg_gw_c _ _ _ _ _ _ (by omega), sg_gw_c _ _ _ _ _ _ (by omega), sg_gw_c _ _ _ _ _ _ (by omega), sg_gwl']
        · rw [sg_gw', sg_gw', sg_gw', sg_gwl_c _ _ _ _ _ _ (by omega)]
        · rw [sg_gw', sg_gw', sg_gw', sg_gwl_k _ _ _ _ _ _ hk]
        · rw [sg_gw_c _ _ _ _ _ _ (by decide), sg_gw_c _ _ _ _ _ _ (by decide), sg_gw_k _ _ _ _ _ _ hk, sg_gwl']
        · rw [sg_gw_c _ _ _ _ _ _ (by decide), sg_gw_c _ _ _ _ _ _ (by decide), sg_gw_c _ _ _ _ _ _ (by decide), sg_gwl']
        · rw [sg_gw_c _ _ _ _ _ _ (by decide), sg_gw_k _ _ _ _ _ _ hk, sg_gw_c _ _ _ _ _ _ (by decide), sg_gwl']
        · rw [sg_gw', sg_gw', sg_gw', sg_gwl_c _ _ _ _ _ _ (by decide)]
        · rw [sg_gw_c _ _ _ _ _ _ (by decide), sg_gw_c _ _ _ _ _ _ (by decide), sg_gw_c _ _ _ _ _ _ (by decide), sg_gwl']
        · rw [sg_gw_c _ _ _ _ _ _ (by decide), sg_gw_c _ _ _ _ _ _ (by decide), sg_gw_c _ _ _ _ _ _ (by decide), sg_gwl']
        · rw [sg_gw', sg_gw', sg_gw', sg_gwl, if_pos ⟨rfl, rfl⟩, hwr]
        · rw [sg_gw_c _ _ _ _ _ _ (by decide), sg_gw_c _ _ _ _ _ _ (by decide), sg_gw, if_pos ⟨rfl, rfl⟩, sg_id ⟨by omega, by omega⟩]
        · rw [sg_gw_c _ _ _ _ _ _ (by decide), sg_gw, if_pos ⟨rfl, rfl⟩]; rfl
        · rw [sg_gw, if_pos ⟨rfl, rfl⟩, sg_id ⟨by omega, by omega⟩]
      clear hτ1 e1
      obtain ⟨g1, g2, g3, g4, g5⟩ := f1
      -- PARAMS
      have pp : (pPars c (D.length : Int) (i + 1 + 1 + 1) τ1 = none ∧ (aPas t N (i + 3) = none ∨ (∃ i1 ps, aPas t N (i + 3) = some (i1, ps) ∧ ((badP ps ∧ i1 ≤ N) ∨ (i1 ≤ N ∧ ¬ aSg t i1 41 = true))))) ∨ ∃ i1 τ2 ps, pPars c (D.length : Int) (i + 1 + 1 + 1) τ1 = some (i1 + 1, τ2) ∧ aPas t N (i + 3) = some (i1, ps) ∧ aSg t i1 41 = true ∧ i1 < N ∧ cP τ2 D.length ps ∧ dF τ1 τ2 D.length ∧ kpD τ1 τ2 := by
        unfold pPars pParE aPas
        by_cases d1 : tK c (i + 1 + 1 + 1) = 41
        · have a3 := (b_sg hB (i := i + 1 + 1 + 1) (ch := 41) (by omega) (by decide)).mpr d1
          have hlt3 := b_lt hB (i := i + 1 + 1 + 1) (by omega) (by have := sg_t a3; omega)
          right
          simp only [d1, if_true, show aSg t (i + 3) 41 = true from a3]
          exact ⟨i + 3, τ1, [], rfl, rfl, a3, hlt3, g4, dF_r _ _, rfl, fun _ => ⟨rfl, rfl⟩⟩
        · have a3 : ¬ aSg t (i + 3) 41 = true := fun x => d1 ((b_sg hB (i := i + 3) (by omega) (by decide)).mp x)
          simp only [if_neg d1, if_neg a3]
          rcases pa_ok hB hd 6 [] (i + 1 + 1 + 1) τ1 (by omega) g4 rfl with ⟨x1, x2⟩ | ⟨i1, τ2, ps, x1, x2, x3, x4, x5, x6⟩
          · left
            rw [x1]
            refine ⟨rfl, ?_⟩
            rcases x2 with x2 | ⟨i1, ps, x2, x3, x4⟩
            · exact Or.inl x2
            · exact Or.inr ⟨i1, ps, x2, Or.inl ⟨x3, x4⟩⟩
          · rw [x1]
            simp only
            by_cases d2 : tK c i1 = 41
            · have a4 := (b_sg hB x3 (ch := 41) (by decide)).mpr d2
              have hlt4 := b_lt hB x3 (by have := sg_t a4; omega)
              right
              rw [if_pos d2]
              exact ⟨i1, τ2, ps, rfl, x2, a4, hlt4, x4, x5, x6⟩
            · left
              rw [if_neg d2]
              exact ⟨rfl, Or.inr ⟨i1, ps, x2, Or.inr ⟨x3, fun x => d2 ((b_sg hB x3 (by decide)).mp x)⟩⟩⟩
      rcases pp with ⟨x1, x2⟩ | ⟨i1, τ2, ps, x1, x2, x3, x4, x5, x6, x7⟩
      · left
        rw [x1]
        refine ⟨rfl, ?_⟩
        rcases x2 with x2 | ⟨i1, ps, x2, x3⟩
        · left; rw [x2]
        · rw [x2]
          simp only
          rcases x3 with ⟨hb, hi1⟩ | ⟨-, hn⟩
          · -- a TYPE too deep: whatever follows
            by_cases a4 : aSg t i1 41 = true
            · have hlt4 := b_lt hB hi1 (by have := sg_t a4; omega)
              rw [if_pos a4]
              by_cases a5 : aSg t (i1 + 1) 61 = true
              · have hlt5 := b_lt hB (i := i1 + 1) (by omega) (by have := sg_t a5; omega)
                rw [if_pos a5]
                cases hr : (aLv t 12).1 (i1 + 2) A with
                | none => exact Or.inl rfl
                | some r =>
                  obtain ⟨i9, A9, q9⟩ := r
                  have hi9 : i9 ≤ N := by
                    rcases hE (i1 + 2) τ A (by omega) h.1 (by omega) with ⟨u1, u2⟩ | ⟨i8, τ8, A8, q8, u1, u2, u3, -⟩
                    · rw [u2] at hr; cases hr
                    · rw [u2] at hr; cases hr; exact u3
                  simp only
                  by_cases a6 : aSg t i9 59 = true
                  · have hlt6 := b_lt hB hi9 (by have := sg_t a6; omega)
                    rw [if_pos a6]
                    exact Or.inr ⟨i9 + 1, A9, _, rfl, hb, by omega⟩
                  · rw [if_neg a6]; exact Or.inl rfl
              · rw [if_neg a5]; exact Or.inl rfl
            · rw [if_neg a4]; exact Or.inl rfl
          · left; rw [if_neg hn]
      · rw [x1, x2]
        simp only
        rw [if_pos x3]
        unfold pMean
        by_cases c5 : tK c (i1 + 1) = 61
        · have a5 := (b_sg hB (i := i1 + 1) (ch := 61) (by omega) (by decide)).mpr c5
          have hlt5 := b_lt hB (i := i1 + 1) (by omega) (by have := sg_t a5; omega)
          rw [if_pos c5, if_pos a5]
          have fd : dF τ τ2 D.length := dF_t g1 x6
          have cs2 := cS_d h fd
          rcases hE (i1 + 1 + 1) τ2 A (by omega) cs2.1 (by omega) with ⟨y1, y2⟩ | ⟨i3, τ3, A3, q, y1, y2, y3, y4, y5⟩
          · left
            rw [y1, show i1 + 2 = i1 + 1 + 1 by omega, y2]
            exact ⟨rfl, Or.inl rfl⟩
          · rw [y1, show i1 + 2 = i1 + 1 + 1 by omega, y2]
            simp only
            by_cases c6 : tK c i3 = 59
            · have a6 := (b_sg hB y3 (ch := 59) (by decide)).mpr c6
              have hlt6 := b_lt hB y3 (by have := sg_t a6; omega)
              rw [if_pos c6, if_pos a6]
              right
              have gg := (gF_lv 12).1 _ _ _ _ _ y2 (by omega)
              have cs3 := cS_E cs2 y4 y5 gg.1
              rw [show (12 : Int) = ((12 : Nat) : Int) from rfl, pz_in i12]
              have f22 : dF τ3 (sg_w τ3 22 D.length q) D.length := ⟨fun a k ha => ⟨by rw [sg_gw_c _ _ _ _ _ _ (by omega)], rfl⟩, fun k hk => ⟨rfl, by rw [sg_gw_c _ _ _ _ _ _ (by decide)], by rw [sg_gw_k _ _ _ _ _ _ hk], by rw [sg_gw_c _ _ _ _ _ _ (by decide)]⟩, fun k hk => ⟨rfl, by rw [sg_gw_c _ _ _ _ _ _ (by decide)], by rw [sg_gw_c _ _ _ _ _ _ (by decide)]⟩⟩
              have e23 : ∀ (a : Nat) (k : Int), 19 ≤ a ∧ a ≤ 27 → ¬ a = 22 → sg_g (sg_w τ3 22 D.length q) a k = sg_g τ2 a k ∧ sg_gl (sg_w τ3 22 D.length q) a k = sg_gl τ2 a k := fun a k ha h22 => ⟨by rw [sg_gw_c _ _ _ _ _ _ h22]; exact (y5.2 a k ha).1, (y5.2 a k ha).2⟩
              refine ⟨i3 + 1, _, A3, (t.2.1 (i + 1), t.2.2 (i + 1), ps, q), rfl, rfl, by omega, cS_d cs3 f22, ?_, ?_, fun dd x hx => ?_⟩
              · rw [(e23 19 8 (by omega) (by omega)).1, x7.1, g5]; simp
              · simp; omega
              · by_cases ed : dd = D.length
                · subst ed
                  rw [List.getElem?_append_right (Nat.le_refl _)] at hx
                  simp at hx
                  rw [← hx]
                  refine ⟨?_, ?_, ?_, ?_⟩
                  · rw [(e23 20 _ (by omega) (by omega)).2, (x7.2 _).1, g2]; exact huw.symm
                  · rw [(e23 21 _ (by omega) (by omega)).1, (x7.2 _).2, g3]; exact hpt
                  · have hq := y4.2.2.2.2 q (by simp)
                    have h200 := y4.2.1
                    rw [sg_gw, if_pos ⟨rfl, rfl⟩, sg_id ⟨by omega, by omega⟩]
                  · exact ⟨by rw [(e23 23 _ (by omega) (by omega)).1]; exact x5.1, x5.2.1, fun j y hy => by
                      rw [(e23 25 _ (by omega) (by omega)).2, (e23 26 _ (by omega) (by omega)).1, (e23 27 _ (by omega) (by omega)).1]
                      exact x5.2.2 j y hy⟩
                · have hdl : dd < D.length := by
                    have := (List.getElem?_eq_some_iff.mp hx).1
                    simp at this
                    omega
                  rw [List.getElem?_append_left hdl] at hx
                  obtain ⟨z1, z2, z3, z4⟩ := hD.2.2 dd x hx
                  have hkk : ¬ ((dd : Int) = (D.length : Int)) := by omega
                  have fk := fd.2.1 (dd : Int) hkk
                  refine ⟨?_, ?_, ?_, ?_, z4.2.1, fun j y hy => ?_⟩
                  · rw [(e23 20 _ (by omega) (by omega)).2, fk.1]; exact z1
                  · rw [(e23 21 _ (by omega) (by omega)).1, fk.2.1]; exact z2
                  · rw [sg_gw_k _ _ _ _ _ _ hkk, (y5.2 22 _ (by omega)).1, fk.2.2.1]; exact z3
                  · rw [(e23 23 _ (by omega) (by omega)).1, fk.2.2.2]; exact z4.1
                  · have hjj := (List.getElem?_eq_some_iff.mp hy).1
                    have h6 := z4.2.1
                    have fk2 := fd.2.2 (6 * (dd : Int) + j) (by omega)
                    rw [(e23 25 _ (by omega) (by omega)).2, (e23 26 _ (by omega) (by omega)).1, (e23 27 _ (by omega) (by omega)).1, fk2.1, fk2.2.1, fk2.2.2]
                    exact z4.2.2 j y hy
            · left
              rw [if_neg c6, if_neg (fun x => c6 ((b_sg hB y3 (by decide)).mp x))]
              exact ⟨rfl, Or.inl rfl⟩
        · left
          rw [if_neg c5, if_neg (fun x => c5 ((b_sg hB (i := i1 + 1) (by omega) (by decide)).mp x))]
          exact ⟨rfl, Or.inl rfl⟩
    · left
      rw [if_neg c2, if_neg (fun x => c2 ((b_sg hB (i := i + 1 + 1) (by omega) (by decide)).mp x))]
      exact ⟨rfl, Or.inl rfl⟩
  · left
    rw [if_neg c1, if_neg (fun x => c1 ((b_nm hB (i := i + 1) (by omega)).mp x))]
    exact ⟨rfl, Or.inl rfl⟩
end DMP
/-! PROGRAMS are read alike, but for TYPES more than 12 deep. -/
section PRG
variable {c : tkC} {t : aK} {N : Nat} {τ τ' : sg_S} {A A' : aT} {q : Int} {i : Nat}
theorem lv_i (hB : tkB c t N) {f i' : Nat} (hi : i ≤ N) (h0 : 0 ≤ A.1 ∧ A.1 ≤ 200) (h : (aLv t f).1 i A = some (i', A', q)) : i' ≤ N ∧ (0 ≤ A'.1 ∧ A'.1 ≤ 200) := by
  have hg := (gF_lv f).1 _ _ _ _ _ h h0
  have hg1 := hg.1.1
  refine ⟨?_, by omega⟩
  rcases (sF_lv hB f).1 i (sg_w (fun _ _ => 0, fun _ _ => 0) 2 16 A.1) A hi (by rw [sg_gw, if_pos ⟨rfl, rfl⟩, sg_id ⟨by omega, by omega⟩]) h0 with ⟨-, x⟩ | ⟨i2, τ2, A2, q2, -, x, y, -⟩
  · rw [x] at h; cases h
  · rw [x] at h; cases h; exact y
theorem pas_i (hB : tkB c t N) (hi : i ≤ N) {i' : Nat} {ps : List (Int × Int × Int)} (h : aPas t N i = some (i', ps)) : i' ≤ N := by
  unfold aPas at h
  split at h
  · cases h; exact hi
  · exact (paL_pre hB 6 _ _ _ _ hi h).2
theorem df1_i (hB : tkB c t N) (hi : i < N) (h0 : 0 ≤ A.1 ∧ A.1 ≤ 200) {i' : Nat} {x : aDf} (h : aDf1 t N i A = some (i', A', x)) : i' ≤ N ∧ (0 ≤ A'.1 ∧ A'.1 ≤ 200) := by
  unfold aDf1 at h
  split at h
  · rename_i a1
    have l1 := b_lt hB (i := i + 1) (by omega) (by have := nm_t a1; omega)
    split at h
    · rename_i a2
      have l2 := b_lt hB (i := i + 2) (by omega) (by have := sg_t a2; omega)
      split at h
      · cases h
      · rename_i i1 ps hp
        have l3 := pas_i hB (i := i + 3) (by omega) hp
        split at h
        · rename_i a4
          have l4 := b_lt hB l3 (by have := sg_t a4; omega)
          split at h
          · rename_i a5
            have l5 := b_lt hB (i := i1 + 1) (by omega) (by have := sg_t a5; omega)
            split at h
            · cases h
            · rename_i i2 A2 q hE
              have l6 := lv_i hB (i := i1 + 2) (by omega) h0 hE
              split at h
              · rename_i a7
                have l7 := b_lt hB l6.1 (by have := sg_t a7; omega)
                cases h
                exact ⟨by omega, l6.2⟩
              · cases h
          · cases h
        · cases h
    · cases h
  · cases h
theorem dfs_pre (hB : tkB c t N) : ∀ (m : Nat) (D : List aDf) (i : Nat) (A : aT) (i' : Nat) (A' : aT) (D' : List aDf), i ≤ N → 0 ≤ A.1 ∧ A.1 ≤ 200 → aDfs t N m D i A = some (i', A', D') → (∀ x ∈ D, x ∈ D') ∧ i' ≤ N ∧ (0 ≤ A'.1 ∧ A'.1 ≤ 200)
  | 0, D, i, A, i', A', D', hi, h0, h => by
    simp only [aDfs] at h
    split at h
    · cases h
    · cases h
      exact ⟨fun x hx => hx, hi, h0⟩
  | m + 1, D, i, A, i', A', D', hi, h0, h => by
    simp only [aDfs] at h
    split at h
    · rename_i a1
      have l1 := b_lt hB hi (by have := wo_t a1; omega)
      split at h
      · cases h
      · rename_i i1 A1 x hx
        have l2 := df1_i hB l1 h0 hx
        obtain ⟨y1, y2, y3⟩ := dfs_pre hB m _ _ _ _ _ _ l2.1 l2.2 h
        exact ⟨fun z hz => y1 z (List.mem_append_left _ hz), y2, y3⟩
    · cases h
      exact ⟨fun x hx => hx, hi, h0⟩
def badD (D : List aDf) : Prop := ∃ x ∈ D, badP x.2.2.1
theorem dfs_ok (hB : tkB c t N) {E : pF} (hE : sF c t N E (aLv t 12).1) : ∀ (m : Nat) (D : List aDf) (i : Nat) (τ : sg_S) (A : aT) (Rs : List Int), i ≤ N → cS τ A 0 Rs → cD2 τ D → (∀ x ∈ D, x.2.2.2 ∈ Rs) → D.length + m = 12 → (pDefs c E (m + 1) i τ = none ∧ (aDfs t N m D i A = none ∨ ∃ i' A' D', aDfs t N m D i A = some (i', A', D') ∧ badD D')) ∨ ∃ i' τ' A' D' Rs', pDefs c E (m + 1) i τ = some (i', τ') ∧ aDfs t N m D i A = some (i', A', D') ∧ i' ≤ N ∧ cS τ' A' 0 Rs' ∧ cD2 τ' D' ∧ (∀ x ∈ D', x.2.2.2 ∈ Rs')
  | m, D, i, τ, A, Rs, hi, h, hD, hr, hm => by
    have bd := b_def hB hi
    by_cases c1 : tK c i = 261
    · have a1 := bd.mpr c1
      have l1 := b_lt hB hi (by have := wo_t a1; omega)
      cases m with
      | zero =>
        left
        have e12 : D.length = 12 := by omega
        refine ⟨?_, Or.inl ?_⟩
        · rw [pDefs, if_pos c1]
          unfold pTitle
          rw [if_pos (by omega)]
        · simp only [aDfs, a1, if_true]
      | succ m =>
        have hd : D.length < 12 := by omega
        have e12 : (12 : Int) - ((m + 1 : Nat) : Int) = (D.length : Int) := by omega
        have key : pDefs c E (m + 1 + 1) i τ = match pDf1 c E (D.length : Int) i τ with
            | none => none
            | some (i3, τ3) => pDefs c E (m + 1) i3 τ3 := by
          rw [pDefs, if_pos c1, e12]
          unfold pDf1
          cases pTitle c (D.length : Int) i τ with
          | none => rfl
          | some x =>
            obtain ⟨i1, τ1⟩ := x
            simp only
            cases pPars c (D.length : Int) i1 τ1 with
            | none => rfl
            | some x =>
              obtain ⟨i2, τ2⟩ := x
              simp only
              cases pMean c E (D.length : Int) i2 τ2 with
              | none => rfl
              | some x => rfl
        rw [key]
        simp only [aDfs, a1, if_true]
        have h200 := h.2.1
        rcases df_ok hB hE hi c1 hd h hD with ⟨x1, x2⟩ | ⟨i1, τ1, A1, x, x1, x2, x3, x4, x5⟩
        · left
          rw [x1]
          refine ⟨rfl, ?_⟩
          rcases x2 with x2 | ⟨i1, A1, x, x2, x3, x4⟩
          · left; rw [x2]
          · rw [x2]
            simp only
            cases hrr : aDfs t N m (D ++ [x]) i1 A1 with
            | none => exact Or.inl rfl
            | some r =>
              obtain ⟨i9, A9, D9⟩ := r
              have hb := df1_i hB l1 (by omega) x2
              obtain ⟨p1, -⟩ := dfs_pre hB m _ _ _ _ _ _ x4 hb.2 hrr
              exact Or.inr ⟨i9, A9, D9, rfl, x, p1 x (by simp), x3⟩
        · rw [x1, x2]
          simp only
          exact dfs_ok hB hE m (D ++ [x]) i1 τ1 A1 (x.2.2.2 :: Rs) x3 x4 x5 (fun y hy => by
            rcases List.mem_append.mp hy with e | e
            · exact List.mem_cons_of_mem _ (hr y e)
            · simp at e; subst e; simp) (by simp only [List.length_append, List.length_cons, List.length_nil]; omega)
    · right
      have a1 : ¬ aWo t i 6606 = true := fun x => c1 (bd.mp x)
      refine ⟨i, τ, A, D, Rs, ?_, ?_, hi, h, hD, hr⟩
      · rw [pDefs, if_neg c1]
      · cases m with
        | zero => simp only [aDfs, if_neg a1]
        | succ m => simp only [aDfs, if_neg a1]
/-- no node yet -/
def aE0 : aT := (0, fun _ => 0, fun _ => 0, fun _ => 0, fun _ => [], fun _ => [])
theorem pg_ok (hB : tkB c t N) (τ : sg_S) : (pParse c (pLv c 12).1 τ = none ∧ (aPg t N aE0 = none ∨ ∃ A D q, aPg t N aE0 = some (A, D, q) ∧ badD D)) ∨ ∃ τ' A D q Rs, pParse c (pLv c 12).1 τ = some (τ', q) ∧ aPg t N aE0 = some (A, D, q) ∧ cS τ' A 0 (q :: Rs) ∧ cD2 τ' D ∧ ∀ x ∈ D, x.2.2.2 ∈ Rs := by
  have hE := (sF_lv hB 12).1
  have h0 : cS (sg_w (sg_w τ 2 16 0) 19 8 0) aE0 0 [] := ⟨by rw [sg_gw_c _ _ _ _ _ _ (by decide), sg_gw, if_pos ⟨rfl, rfl⟩]; rfl, by decide, fun k a b => by simp only [aE0] at b; omega, by simp, fun x hx => by simp at hx⟩
  have hD0 : cD2 (sg_w (sg_w τ 2 16 0) 19 8 0) [] := ⟨by rw [sg_gw, if_pos ⟨rfl, rfl⟩]; rfl, by simp, fun d x hx => by simp at hx⟩
  unfold pParse pRest aPg
  rcases dfs_ok hB hE 12 [] 0 (sg_w (sg_w τ 2 16 0) 19 8 0) aE0 [] (Nat.zero_le _) h0 hD0 (fun x hx => by simp at hx) rfl with ⟨x1, x2⟩ | ⟨i1, τ1, A1, D1, Rs1, x1, x2, x3, x4, x5, x6⟩
  · left
    rw [x1]
    refine ⟨rfl, ?_⟩
    rcases x2 with x2 | ⟨i1, A1, D1, x2, x3⟩
    · left; rw [x2]
    · rw [x2]
      simp only
      cases (aLv t 12).1 i1 A1 with
      | none => exact Or.inl rfl
      | some r =>
        obtain ⟨i2, A2, q2⟩ := r
        simp only
        split
        · exact Or.inr ⟨A2, D1, q2, rfl, x3⟩
        · exact Or.inl rfl
  · rw [x1, x2]
    simp only
    have h200 := x4.2.1
    rcases hE i1 τ1 A1 x3 x4.1 (by omega) with ⟨y1, y2⟩ | ⟨i2, τ2, A2, q, y1, y2, y3, y4, y5⟩
    · left; rw [y1, y2]; exact ⟨rfl, Or.inl rfl⟩
    · rw [y1, y2]
      simp only
      have be := (b_s hB y3).1
      by_cases ce : tK c i2 = 256
      · rw [if_pos ce, if_pos (be.mpr ce)]
        right
        have gg := (gF_lv 12).1 _ _ _ _ _ y2 (by omega)
        refine ⟨τ2, A2, D1, q, Rs1, rfl, rfl, cS_E x4 y4 y5 gg.1, ?_, x6⟩
        obtain ⟨z1, z2, z3⟩ := x5
        refine ⟨by rw [(y5.2 19 8 (by omega)).1]; exact z1, z2, fun d x hx => ?_⟩
        obtain ⟨w1, w2, w3, w4, w5, w6⟩ := z3 d x hx
        refine ⟨by rw [(y5.2 20 _ (by omega)).2]; exact w1, by rw [(y5.2 21 _ (by omega)).1]; exact w2, by rw [(y5.2 22 _ (by omega)).1]; exact w3, by rw [(y5.2 23 _ (by omega)).1]; exact w4, w5, fun j y hy => ?_⟩
        rw [(y5.2 25 _ (by omega)).2, (y5.2 26 _ (by omega)).1, (y5.2 27 _ (by omega)).1]
        exact w6 j y hy
      · left
        rw [if_neg ce, if_neg (fun x => ce (be.mp x))]
        exact ⟨rfl, Or.inl rfl⟩
end PRG
/-! The class's parse is pParse. -/
theorem tk_st (z : Value) (σ : sg_S) (b : Int) (c : tkC) (hc : tkOK c) (hb : tb σ = c.1) (hg : sg_gl σ 37 = c.2.2.1) (hn : b = c.2.1) (h7 : (sg_gl σ 36 7, sg_g σ 36 6) = c.2.2.2) (h8 : sg_g σ 35 3 = -1) : wx z 5 199 0 [(0, .inr (.inr (.ref 36))), (1, .inl b)] [] σ (fun v σ' => v = none ∧ sg_F [3036, 4036, 5036, 6036, 7036, 8036] σ σ' ∧ tk c σ' 0) := by
  have hc1 := hc.1
  have hc2 := hc.2.1
  refine wk_b tt_199 10 (pc' := 18) (ls' := [(0, .inr (.inr (.ref 36))), (1, .inl b)]) (st' := [.inr (.inr (.ref 36))]) (σ' := sg_w (sg_w (sg_w σ 36 2 b) 36 3 0) 36 4 256) rfl ?_
  generalize hσ : sg_w (sg_w (sg_w σ 36 2 b) 36 3 0) 36 4 256 = σ1
  have hF1 : sg_F [3036, 4036, 5036] σ σ1 := by rw [← hσ]; exact sg_F_w (sg_F_w (sg_F_w (sg_F_r _ σ) rfl _) rfl _) rfl _
  have e2 : sg_g σ1 36 2 = b := by rw [← hσ, sg_gw_k _ _ _ _ _ _ (by decide), sg_gw_k _ _ _ _ _ _ (by decide), sg_gw_e _ _ _ _ ⟨by omega, by omega⟩]
  have e3 : sg_g σ1 36 3 = 0 := by rw [← hσ, sg_gw_k _ _ _ _ _ _ (by decide), sg_gw_e _ _ _ _ (by decide)]
  have e4 : sg_g σ1 36 4 = 256 := by rw [← hσ, sg_gw_e _ _ _ _ (by decide)]
  have hb1 : tb σ1 = c.1 := by rw [← hb]; exact tb_eq (fun q => sg_F_ga hF1 rfl)
  have hg1 : sg_gl σ1 37 = c.2.2.1 := by rw [← hg]; exact funext (fun q => sg_F_gal hF1 rfl)
  have h71 : sg_gl σ1 36 7 = c.2.2.2.1 := by rw [← h7]; exact sg_F_gl hF1 rfl
  have h72 : sg_g σ1 36 6 = c.2.2.2.2 := by rw [← h7]; exact sg_F_g hF1 rfl
  have h81 : sg_g σ1 35 3 = -1 := by rw [← h8]; exact sg_F_ga hF1 rfl
  refine wk_call tt_199 rfl rfl rfl rfl rfl tt_195 rfl (by decide) (tk_adv z σ1 (by omega) (by omega) (by omega) (by omega)) (fun w σ' hq => ?_)
  obtain ⟨rfl, hF, g1, g2, g3, g4, g5, g6⟩ := hq
  refine wk_rV tt_199 rfl rfl ?_
  rw [hb1, e2, hn, e3] at g1 g2 g3 g4 g5 g6
  rw [hg1] at g2
  refine ⟨rfl, sg_F_t (sg_F_m hF1 rfl) (sg_F_m hF rfl), ?_, ?_, ?_, g3, g2, g1, fun hn9 => ?_, ?_, ?_⟩
  · rw [← hb1]; exact tb_eq (fun q => sg_F_ga hF rfl)
  · rw [← hg1]; exact funext (fun q => sg_F_gal hF rfl)
  · rw [sg_F_g hF rfl, e2, hn]
  · show sg_gl σ' 36 7 = tWd c 0 c.2.2.2.1
    unfold tWd
    by_cases e : tPl c 0 < c.2.1 ∧ lx_l (c.1 (tPl c 0)) = true
    · rw [if_pos e]
      refine g4 e.1 e.2 ?_
      refine Decidable.byContradiction (fun h8 => hn9 ?_)
      have hd : ¬ lx_d (c.1 (tPl c 0)) = true := fun q => by
        have q1 := of_decide_eq_true q
        have q2 := of_decide_eq_true e.2
        omega
      unfold tK lx_kind
      rw [if_neg (by have := e.1; omega), if_neg hd, if_pos e.2, if_pos (show lx_end c.1 c.2.1 lx_a (tPl c 0) - tPl c 0 > 8 from by have h9 : ¬ (lx_end c.1 c.2.1 lx_a (tPl c 0) - tPl c 0 ≤ 8) := h8; omega)]
    · rw [if_neg e, g5 e, h71]
  · rw [sg_F_ga hF rfl, h81]
  · rw [g6, h72]; rfl
/-- expect END -/
theorem px_expE (z : Value) (σ : sg_S) (c : tkC) (hc : tkOK c) (i : Nat) (hk : tk c σ i) : wx z 5 173 0 [(0, .inr (.inr (.ref 35))), (1, .inl 256)] [] σ (fun v σ' => v = none ∧ sg_F [4035, 5036] σ σ' ∧ ((tK c i = 256 ∧ tk c σ' i) ∨ (¬ tK c i = 256 ∧ jm σ'))) := by
  refine wk_b tt_173 4 (pc' := 8) (ls' := [(0, .inr (.inr (.ref 35))), (1, .inl 256)]) (st' := [.inl 256, .inl ((sg_g σ 36 4))]) (σ' := σ) rfl ?_
  have r1 := tK_r hc (i)
  rw [show (sg_g σ 36 4) = (tK c (i)) from by rw [hk.2.2.2.2.1]]
  refine wk_if2 tt_173 (tgt := 18) rfl rfl (by omega) (by decide) (fun (h2 : (tK c (i)) = 256) => ?_) (fun (h2 : ¬ (tK c (i)) = 256) => ?_)
  ·
    refine wk_b tt_173 2 (pc' := 22) (ls' := [(0, .inr (.inr (.ref 35))), (1, .inl 256)]) (st' := [.inl (256), .inl 256]) (σ' := σ) rfl ?_
    refine wk_if2 tt_173 (tgt := 32) rfl rfl (by decide) (by decide) (fun _ => ?_) (fun (h3 : ¬ (256 : Int) = 256) => absurd rfl h3)
    refine wk_rV tt_173 rfl rfl ?_
    exact ⟨rfl, sg_F_r _ σ, Or.inl ⟨h2, hk⟩⟩
  ·
    refine wk_b tt_173 1 (pc' := 12) (ls' := [(0, .inr (.inr (.ref 35))), (1, .inl 256)]) (st' := [.inr (.inr (.ref 35))]) (σ' := σ) rfl ?_
    refine wk_call tt_173 rfl rfl rfl rfl rfl tt_175 rfl (by decide) (px_failR z σ c hc (i) hk) (fun w9 σ10 hq11 => ?_)
    obtain ⟨rfl, hF12, hj13⟩ := hq11
    refine wk_b tt_173 1 (pc' := 32) (ls' := [(0, .inr (.inr (.ref 35))), (1, .inl 256)]) (st' := []) (σ' := σ10) rfl ?_
    refine wk_rV tt_173 rfl rfl ?_
    exact ⟨rfl, sg_F_m hF12 rfl, Or.inr ⟨h2, hj13⟩⟩
abbrev pL2 : List Nat := [3, 4, 5, 6, 7, 8, 9, 10, 11, 12, 13, 14, 15, 16, 17, 18, 20, 21, 22, 23, 24, 25, 26, 27, 4035, 5035, 3036, 4036, 5036, 6036, 7036, 8036, 9019, 17002]
def prQ (c : tkC) (r : Option (sg_S × Int)) (σ : sg_S) (v : Option bm_V) (σ' : sg_S) : Prop := ∃ q, v = some (.inl q) ∧ sg_F pL2 σ σ' ∧ ((∃ τ' k, r = some (τ', k) ∧ sg_R k ∧ q = -1 ∧ te σ' τ' ∧ sg_g σ' 35 4 = k) ∨ (r = none ∧ 0 ≤ q ∧ sg_R q))
/-- parse from EXPR on, past a fault -/
theorem pr_J (z : Value) (σ σ5 : sg_S) (b v : Int) (c : tkC) (d : Nat) (hF : sg_F pL2 σ σ5) (hj : jm σ5) : wx z (d + 10) 183 71 [(0, .inr (.inr (.ref 35))), (1, .inl b), (2, .inl v)] [] σ5 (prQ c none σ) := by
  refine wk_b tt_183 3 (pc' := 74) (ls' := [(0, .inr (.inr (.ref 35))), (1, .inl b), (2, .inl v)]) (st' := [.inl 0, .inr (.inr (.ref 35)), .inr (.inr (.ref 35))]) (σ' := σ5) rfl ?_
  refine wk_call tt_183 rfl rfl rfl rfl rfl tt_174 rfl (by omega) (pj_expression z σ5 (0) hj) (fun w29 σ6 hq31 => ?_)
  obtain ⟨q, rfl, hF6, hj6⟩ := hq31
  refine wk_b tt_183 3 (pc' := 84) (ls' := [(0, .inr (.inr (.ref 35))), (1, .inl b), (2, .inl v)]) (st' := [.inl 256, .inr (.inr (.ref 35))]) (σ' := sg_w σ6 35 4 q) rfl ?_
  refine wk_call tt_183 rfl rfl rfl rfl rfl tt_173 rfl (by omega) (pj_exp z (sg_w σ6 35 4 q) 256 ⟨by rw [sg_gw_c _ _ _ _ _ _ (by decide)]; exact hj6.1, by rw [sg_gw_k _ _ _ _ _ _ (by decide)]; exact hj6.2⟩ (by decide)) (fun w σ7 hq => ?_)
  obtain ⟨rfl, hF7, hj7⟩ := hq
  refine wk_b tt_183 2 (pc' := 91) (ls' := [(0, .inr (.inr (.ref 35))), (1, .inl b), (2, .inl v)]) (st' := [.inl (sg_g σ7 35 3)]) (σ' := σ7) rfl ?_
  refine wk_rI tt_183 rfl rfl ?_
  exact ⟨_, rfl, sg_F_t (sg_F_w (sg_F_t hF (sg_F_m hF6 rfl)) rfl _) (sg_F_m hF7 rfl), Or.inr ⟨rfl, hj7.2, sg_Rg _ _ _⟩⟩
/-- parse from EXPR on -/
theorem pr_R (z : Value) (σ σ5 τ5 : sg_S) (b v : Int) (c : tkC) (hc : tkOK c) (i : Nat) (d : Nat) (E : pF) (hE : cE c d 174 0 (fun _ => True) E) (hF : sg_F pL2 σ σ5) (ht : te σ5 τ5) (hk : tk c σ5 i) : wx z (d + 10) 183 71 [(0, .inr (.inr (.ref 35))), (1, .inl b), (2, .inl v)] [] σ5 (prQ c (pRest c E (some (i, τ5))) σ) := by
  refine wk_b tt_183 3 (pc' := 74) (ls' := [(0, .inr (.inr (.ref 35))), (1, .inl b), (2, .inl v)]) (st' := [.inl 0, .inr (.inr (.ref 35)), .inr (.inr (.ref 35))]) (σ' := σ5) rfl ?_
  refine wk_call tt_183 rfl rfl rfl rfl rfl tt_174 rfl (by omega) (hE z σ5 i τ5 ht hk trivial) (fun w29 σ6 hq31 => ?_)
  obtain ⟨q, rfl, hF6, hq⟩ := hq31
  refine wk_b tt_183 3 (pc' := 84) (ls' := [(0, .inr (.inr (.ref 35))), (1, .inl b), (2, .inl v)]) (st' := [.inl 256, .inr (.inr (.ref 35))]) (σ' := sg_w σ6 35 4 q) rfl ?_
  have hFw : sg_F [5035] σ6 (sg_w σ6 35 4 q) := sg_F_w (sg_F_r _ _) rfl _
  have hF8 : sg_F pL2 σ (sg_w σ6 35 4 q) := sg_F_w (sg_F_t hF (sg_F_m hF6 rfl)) rfl _
  rcases hq with ⟨i1, τ1, he, rq, ht1, hk1⟩ | ⟨he, hj6⟩
  · have hk2 : tk c (sg_w σ6 35 4 q) i1 := by
      obtain ⟨k1, k2, k3, k4, k5, k6, k7, k8, k9⟩ := hk1
      exact ⟨(tb_eq (fun q => sg_F_ga hFw rfl)).trans k1, k2, by rw [sg_F_ga hFw rfl]; exact k3, by rw [sg_F_ga hFw rfl]; exact k4, by rw [sg_F_ga hFw rfl]; exact k5, by rw [sg_F_ga hFw rfl]; exact k6, fun h => by rw [sg_F_gal hFw rfl]; exact k7 h, by rw [sg_F_g hFw rfl]; exact k8, by rw [sg_F_ga hFw rfl]; exact k9⟩
    refine wk_call tt_183 rfl rfl rfl rfl rfl tt_173 rfl (by omega) (px_expE z (sg_w σ6 35 4 q) c hc i1 hk2) (fun w σ7 hq => ?_)
    obtain ⟨rfl, hF7, hq⟩ := hq
    refine wk_b tt_183 2 (pc' := 91) (ls' := [(0, .inr (.inr (.ref 35))), (1, .inl b), (2, .inl v)]) (st' := [.inl (sg_g σ7 35 3)]) (σ' := σ7) rfl ?_
    refine wk_rI tt_183 rfl rfl ?_
    refine ⟨_, rfl, sg_F_t hF8 (sg_F_m hF7 rfl), ?_⟩
    rcases hq with ⟨h256, hk7⟩ | ⟨h256, hj7⟩
    · left
      refine ⟨τ1, q, by simp only [pRest, he, h256, if_true], rq, hk7.2.2.2.2.2.2.2.1, te_F (te_F ht1 hFw rfl) hF7 rfl, ?_⟩
      rw [sg_F_g hF7 rfl, sg_gw_e _ _ _ _ rq]
    · right
      exact ⟨by simp only [pRest, he, h256, if_false], hj7.2, sg_Rg _ _ _⟩
  · refine wk_call tt_183 rfl rfl rfl rfl rfl tt_173 rfl (by omega) (pj_exp z (sg_w σ6 35 4 q) 256 ⟨by rw [sg_gw_c _ _ _ _ _ _ (by decide)]; exact hj6.1, by rw [sg_gw_k _ _ _ _ _ _ (by decide)]; exact hj6.2⟩ (by decide)) (fun w σ7 hq => ?_)
    obtain ⟨rfl, hF7, hj7⟩ := hq
    refine wk_b tt_183 2 (pc' := 91) (ls' := [(0, .inr (.inr (.ref 35))), (1, .inl b), (2, .inl v)]) (st' := [.inl (sg_g σ7 35 3)]) (σ' := σ7) rfl ?_
    refine wk_rI tt_183 rfl rfl ?_
    exact ⟨_, rfl, sg_F_t hF8 (sg_F_m hF7 rfl), Or.inr ⟨by simp only [pRest, he], hj7.2, sg_Rg _ _ _⟩⟩
/-- the loop's test past a fault -/
theorem pr_K (z : Value) (σ σ5 : sg_S) (b v : Int) (c : tkC) (d : Nat) (hv : 0 ≤ v ∧ v ≤ 13) (hF : sg_F pL2 σ σ5) (hj : jm σ5) : wx z (d + 10) 183 31 [(0, .inr (.inr (.ref 35))), (1, .inl b), (2, .inl v)] [] σ5 (prQ c none σ) := by
  refine wk_b tt_183 2 (pc' := 34) (ls' := [(0, .inr (.inr (.ref 35))), (1, .inl b), (2, .inl v)]) (st' := [.inl 12, .inl v]) (σ' := σ5) rfl ?_
  refine wk_if2 tt_183 (tgt := 71) rfl rfl (by omega) (by decide) (fun _ => pr_J z σ σ5 b v c d hF hj) (fun _ => ?_)
  refine wk_b tt_183 4 (pc' := 47) (ls' := [(0, .inr (.inr (.ref 35))), (1, .inl b), (2, .inl v)]) (st' := [.inl 261, .inl (sg_g σ5 36 4)]) (σ' := σ5) rfl ?_
  rw [hj.1]
  exact wk_if2 tt_183 (tgt := 71) rfl rfl (by decide) (by decide) (fun _ => pr_J z σ σ5 b v c d hF hj) (fun (h : (260 : Int) = 261) => absurd h (by decide))
/-- round again past a fault -/
theorem pr_L (z : Value) (σ σ5 : sg_S) (b v : Int) (c : tkC) (d : Nat) (hv : 0 ≤ v ∧ v ≤ 12) (hF : sg_F pL2 σ σ5) (hj : jm σ5) : wx z (d + 10) 183 65 [(0, .inr (.inr (.ref 35))), (1, .inl b), (2, .inl v)] [] σ5 (prQ c none σ) := by
  refine wk_b tt_183 2 (pc' := 31) (ls' := [(2, .inl (v + 1)), (0, .inr (.inr (.ref 35))), (1, .inl b)]) (st' := []) (σ' := σ5) rfl ?_
  exact wk_ls [(0, .inr (.inr (.ref 35))), (1, .inl b), (2, .inl (v + 1))] rfl ⟨rfl, rfl, rfl, trivial⟩ (pr_K z σ σ5 b (v + 1) c d (by omega) hF hj)
theorem pr_lp (z : Value) (σ : sg_S) (b : Int) (c : tkC) (hc : tkOK c) (d : Nat) (E : pF) (hE : cE c d 174 0 (fun _ => True) E) : ∀ (m : Nat) (σ5 : sg_S) (v : Int) (i : Nat) (τ5 : sg_S), sg_F pL2 σ σ5 → te σ5 τ5 → tk c σ5 i → v + m = 13 → 0 ≤ v → wx z (d + 10) 183 31 [(0, .inr (.inr (.ref 35))), (1, .inl b), (2, .inl v)] [] σ5 (prQ c (pRest c E (pDefs c E m i τ5)) σ)
  | 0, σ5, v, i, τ5, hF, ht, hk, hm, h0 => by
    refine wk_b tt_183 2 (pc' := 34) (ls' := [(0, .inr (.inr (.ref 35))), (1, .inl b), (2, .inl v)]) (st' := [.inl 12, .inl v]) (σ' := σ5) rfl ?_
    refine wk_if2 tt_183 (tgt := 71) rfl rfl (by omega) (by decide) (fun _ => ?_) (fun (h : v ≤ 12) => absurd h (by omega))
    exact pr_R z σ σ5 τ5 b v c hc i d E hE hF ht hk
  | m + 1, σ5, v, i, τ5, hF, ht, hk, hm, h0 => by
    have ev : v = 12 - (m : Int) := by omega
    refine wk_b tt_183 2 (pc' := 34) (ls' := [(0, .inr (.inr (.ref 35))), (1, .inl b), (2, .inl v)]) (st' := [.inl 12, .inl v]) (σ' := σ5) rfl ?_
    refine wk_if2 tt_183 (tgt := 71) rfl rfl (by omega) (by decide) (fun (h : 12 < v) => absurd h (by omega)) (fun (h : v ≤ 12) => ?_)
    refine wk_b tt_183 4 (pc' := 47) (ls' := [(0, .inr (.inr (.ref 35))), (1, .inl b), (2, .inl v)]) (st' := [.inl 261, .inl (sg_g σ5 36 4)]) (σ' := σ5) rfl ?_
    have r1 := tK_r hc i
    rw [show (sg_g σ5 36 4) = (tK c i) from by rw [hk.2.2.2.2.1]]
    refine wk_if2 tt_183 (tgt := 71) rfl rfl (by omega) (by decide) (fun (h1 : ¬ tK c i = 261) => ?_) (fun (h1 : tK c i = 261) => ?_)
    · rw [pDefs, if_neg h1]
      exact pr_R z σ σ5 τ5 b v c hc i d E hE hF ht hk
    · rw [pDefs, if_pos h1, ← ev]
      refine wk_b tt_183 2 (pc' := 52) (ls' := [(0, .inr (.inr (.ref 35))), (1, .inl b), (2, .inl v)]) (st' := [.inl v, .inr (.inr (.ref 35))]) (σ' := σ5) rfl ?_
      refine wk_call tt_183 rfl rfl rfl rfl rfl tt_187 rfl (by omega) (px_ttl c hc d v (by omega) z σ5 i τ5 ht hk h1) (fun w σ6 hq => ?_)
      obtain ⟨rfl, hF6, hq⟩ := hq
      have hG6 : sg_F pL2 σ σ6 := sg_F_t hF (sg_F_m hF6 rfl)
      refine wk_b tt_183 2 (pc' := 57) (ls' := [(0, .inr (.inr (.ref 35))), (1, .inl b), (2, .inl v)]) (st' := [.inl v, .inr (.inr (.ref 35))]) (σ' := σ6) rfl ?_
      rcases hq with ⟨i6, τ6, e6, ht6, hk6⟩ | ⟨e6, hj6⟩
      · rw [e6]
        simp only
        refine wk_call tt_183 rfl rfl rfl rfl rfl tt_182 rfl (by omega) (px_prm c hc d v (by omega) z σ6 i6 τ6 ht6 hk6 trivial) (fun w σ7 hq => ?_)
        obtain ⟨rfl, hF7, hq⟩ := hq
        have hG7 : sg_F pL2 σ σ7 := sg_F_t hG6 (sg_F_m hF7 rfl)
        refine wk_b tt_183 2 (pc' := 62) (ls' := [(0, .inr (.inr (.ref 35))), (1, .inl b), (2, .inl v)]) (st' := [.inl v, .inr (.inr (.ref 35))]) (σ' := σ7) rfl ?_
        rcases hq with ⟨i7, τ7, e7, ht7, hk7⟩ | ⟨e7, hj7⟩
        · rw [e7]
          simp only
          refine wk_call tt_183 rfl rfl rfl rfl rfl tt_181 rfl (by omega) (px_mea c hc d v (by omega) E hE z σ7 i7 τ7 ht7 hk7 trivial) (fun w σ8 hq => ?_)
          obtain ⟨rfl, hF8, hq⟩ := hq
          have hG8 : sg_F pL2 σ σ8 := sg_F_t hG7 (sg_F_m hF8 rfl)
          rcases hq with ⟨i8, τ8, e8, ht8, hk8⟩ | ⟨e8, hj8⟩
          · rw [e8]
            simp only
            refine wk_b tt_183 2 (pc' := 31) (ls' := [(2, .inl (v + 1)), (0, .inr (.inr (.ref 35))), (1, .inl b)]) (st' := []) (σ' := σ8) rfl ?_
            exact wk_ls [(0, .inr (.inr (.ref 35))), (1, .inl b), (2, .inl (v + 1))] rfl ⟨rfl, rfl, rfl, trivial⟩ (pr_lp z σ b c hc d E hE m σ8 (v + 1) i8 τ8 hG8 ht8 hk8 (by omega) (by omega))
          · rw [e8]
            exact pr_L z σ σ8 b v c d (by omega) hG8 hj8
        · rw [e7]
          refine wk_call tt_183 rfl rfl rfl rfl rfl tt_181 rfl (by omega) (pj_mea z σ7 v hj7) (fun w σ8 hq => ?_)
          obtain ⟨rfl, hF8, hj8⟩ := hq
          exact pr_L z σ σ8 b v c d (by omega) (sg_F_t hG7 (sg_F_m hF8 rfl)) hj8
      · rw [e6]
        refine wk_call tt_183 rfl rfl rfl rfl rfl tt_182 rfl (by omega) (pj_prm z σ6 v hj6) (fun w σ7 hq => ?_)
        obtain ⟨rfl, hF7, hj7⟩ := hq
        have hG7 : sg_F pL2 σ σ7 := sg_F_t hG6 (sg_F_m hF7 rfl)
        refine wk_b tt_183 2 (pc' := 62) (ls' := [(0, .inr (.inr (.ref 35))), (1, .inl b), (2, .inl v)]) (st' := [.inl v, .inr (.inr (.ref 35))]) (σ' := σ7) rfl ?_
        refine wk_call tt_183 rfl rfl rfl rfl rfl tt_181 rfl (by omega) (pj_mea z σ7 v hj7) (fun w σ8 hq => ?_)
        obtain ⟨rfl, hF8, hj8⟩ := hq
        exact pr_L z σ σ8 b v c d (by omega) (sg_F_t hG7 (sg_F_m hF8 rfl)) hj8
theorem px_prs (z : Value) (σ : sg_S) (b : Int) (c : tkC) (hc : tkOK c) (d : Nat) (E : pF) (hE : cE c d 174 0 (fun _ => True) E) (τ : sg_S) (ht : te σ τ) (hb : tb σ = c.1) (hg : sg_gl σ 37 = c.2.2.1) (hn : b = c.2.1) (h7 : (sg_gl σ 36 7, sg_g σ 36 6) = c.2.2.2) : wx z (d + 10) 183 0 [(0, .inr (.inr (.ref 35))), (1, .inl b)] [] σ (prQ c (pParse c E τ) σ) := by
  refine wk_b tt_183 14 (pc' := 26) (ls' := [(0, .inr (.inr (.ref 35))), (1, .inl b)]) (st' := [.inl b, .inr (.inr (.ref 36))]) (σ' := sg_w (sg_w (sg_w σ 2 16 0) 19 8 0) 35 3 (-1)) rfl ?_
  generalize hσ : sg_w (sg_w (sg_w σ 2 16 0) 19 8 0) 35 3 (-1) = σ1
  have hF1 : sg_F [17002, 9019, 4035] σ σ1 := by rw [← hσ]; exact sg_F_w (sg_F_w (sg_F_w (sg_F_r _ σ) rfl _) rfl _) rfl _
  have ht1 : te σ1 (sg_w (sg_w τ 2 16 0) 19 8 0) := by
    rw [← hσ]
    exact te_F (L := [4035]) (ag_w (ag_w ht _ _ _) _ _ _) (sg_F_w (sg_F_r _ _) rfl _) rfl
  have e3 : sg_g σ1 35 3 = -1 := by rw [← hσ, sg_gw_e _ _ _ _ (by decide)]
  refine wk_call tt_183 rfl rfl rfl rfl rfl tt_199 rfl (by omega) (tk_st z σ1 b c hc (by rw [← hb]; exact tb_eq (fun q => sg_F_ga hF1 rfl)) (by rw [← hg]; exact funext (fun q => sg_F_gal hF1 rfl)) hn (by rw [← h7]; exact Prod.ext (sg_F_gal hF1 rfl) (sg_F_ga hF1 rfl)) e3) (fun w σ2 hq => ?_)
  obtain ⟨rfl, hF2, hk2⟩ := hq
  refine wk_b tt_183 2 (pc' := 31) (ls' := [(2, .inl 0), (0, .inr (.inr (.ref 35))), (1, .inl b)]) (st' := []) (σ' := σ2) rfl ?_
  exact wk_ls [(0, .inr (.inr (.ref 35))), (1, .inl b), (2, .inl 0)] rfl ⟨rfl, rfl, rfl, trivial⟩ (pr_lp z σ b c hc d E hE 13 σ2 0 0 _ (sg_F_t (sg_F_m hF1 rfl) (sg_F_m hF2 rfl)) (te_F ht1 hF2 rfl) hk2 (by decide) (by decide))
/-! The class's parse over the reference's tokens. -/
theorem prs_ok (z : Value) (σ : sg_S) (b : Int) {c : tkC} {t : aK} {N : Nat} (hB : tkB c t N) (hb : tb σ = c.1) (hg : sg_gl σ 37 = c.2.2.1) (hn : b = c.2.1) (h7 : (sg_gl σ 36 7, sg_g σ 36 6) = c.2.2.2) : wx z 894 183 0 [(0, .inr (.inr (.ref 35))), (1, .inl b)] [] σ (fun v σ' => ∃ q, v = some (.inl q) ∧ sg_F pL2 σ σ' ∧ ((∃ τ' A D k Rs, aPg t N aE0 = some (A, D, k) ∧ q = -1 ∧ te σ' τ' ∧ sg_g σ' 35 4 = k ∧ cS τ' A 0 (k :: Rs) ∧ cD2 τ' D ∧ ∀ x ∈ D, x.2.2.2 ∈ Rs) ∨ ((aPg t N aE0 = none ∨ ∃ A D k, aPg t N aE0 = some (A, D, k) ∧ badD D) ∧ 0 ≤ q ∧ sg_R q))) := by
  have hE := (px_lv c hB.1 12 (Nat.le_refl _)).1
  refine wk_post (px_prs z σ b c hB.1 884 (pLv c 12).1 hE σ (fun _ _ _ => ⟨rfl, rfl⟩) hb hg hn h7) ?_
  rintro v σ' ⟨q, rfl, hF, hq⟩
  refine ⟨q, rfl, hF, ?_⟩
  rcases pg_ok hB σ with ⟨x1, x2⟩ | ⟨τ', A, D, k, Rs, x1, x2, x3, x4, x5⟩
  · rcases hq with ⟨τ', k, y1, -⟩ | ⟨-, y2⟩
    · rw [x1] at y1; cases y1
    · exact Or.inr ⟨x2, y2⟩
  · rcases hq with ⟨τ2, k2, y1, y2, y3, y4, y5⟩ | ⟨y1, -⟩
    · rw [x1] at y1; cases y1
      exact Or.inl ⟨τ', A, D, k, Rs, x2, y3, y4, y5, x3, x4, x5⟩
    · rw [x1] at y1; cases y1
/-! WHAT LOOK ASKS, told over the tree as lists: names known (word, type; the newest first), types of nodes (T), DEFS before (word, types of PARAMS, node). None: a fault. -/
abbrev kE : Type := List (Int × Int)
abbrev kD : Type := List (Int × List Int × Int)
def kFind (e : kE) (w : Int) : Option Int := match e with
  | [] => none
  | x :: r => if x.1 = w then some x.2 else kFind r w
/-- the newest DEF of that name: ds has the newest first -/
def kDef (ds : kD) (w : Int) : Option (List Int × Int) := match ds with
  | [] => none
  | x :: r => if x.1 = w then some x.2 else kDef r w
def kIs (is : Bool) (ty : Int) : Option Int := if is = true ∧ ty ≤ 3 then some ty else none
/-- the type of an ACT of kind k with parts of types ts -/
def kAct (k : Int) (ts : List Int) : Option Int :=
  let a := ts.getD 0 0
  let b := ts.getD 1 0
  let h1 := decide (ts.length = 1)
  let h2 := decide (ts.length = 2)
  if k = 16 then kIs (h1 && decide (a = 0)) 1
  else if k = 17 then kIs (h2 && decide (b = 0)) (a + 1)
  else if k = 18 ∨ k = 19 ∨ k = 20 then kIs (h1 && decide (a = 1)) 0
  else if k = 21 then kIs (h1 && decide (a = 1)) 1
  else if k = 22 then kIs (h1 && decide (0 < a)) a
  else if k = 23 then kIs (h2 && decide (0 < a) && decide (a = b)) a
  else if k = 24 then kIs (h1 && decide (1 < a)) (a - 1)
  else if k = 25 ∨ k = 26 then kIs (h2 && decide (0 < a) && decide (b = 1)) a
  else kIs (h2 && decide (0 < a) && decide (b = 1)) (a + 1)
/-- the type of node n, the types of its parts (in the order of kids) being ts -/
def kTy (A : aT) (ds : kD) (T : Int → Int) (e : kE) (n : Int) (ts : List Int) : Option Int :=
  let k := A.2.1 n
  let a := ts.getD 0 0
  let b := ts.getD 1 0
  if k = 0 then some 0
  else if k = 1 then kFind e (A.2.2.2.1 n)
  else if k = 2 then some b
  else if k = 3 then kIs (decide (a = 0) && decide (b = ts.getD 2 0)) b
  else if k < 11 then kIs (decide (a = 0) && decide (b = 0)) 0
  else if k = 11 then kIs (decide (0 < a)) 0
  else if k = 12 then kIs (decide (0 < a) && decide (b = 0)) (a - 1)
  else if k = 13 then (match kDef ds (A.2.2.2.1 n) with
    | none => none
    | some (ps, r) => kIs (decide (ts = ps)) (T r))
  else if k = 14 then kIs (ts.all (fun x => decide (x = a))) (a + 1)
  else if k = 15 then kIs (decide (ts.length ≠ 2 + (A.2.2.2.2.2 n).length) || decide (ts.getD (ts.length - 1) 0 = 0)) (a + 1)
  else kAct k ts
/-- nodes one after another under the same names -/
def kRow (go : kE → Int → (Int → Int) → Option (Int → Int)) (e : kE) : List Int → (Int → Int) → Option (Int → Int)
  | [], T => some T
  | x :: r, T => match go e x T with
    | none => none
    | some T1 => kRow go e r T1
/-- names that GENS bind, the newest first, before e -/
def kBind (T : Int → Int) : List (Int × Int) → List Int → kE → kE
  | g :: gs, x :: xs, e => kBind T gs xs ((g.1, T x - 1) :: e)
  | _, _, e => e
def kGens (T : Int → Int) (gs : List (Int × Int)) (xs : List Int) : Bool := decide ((gs.map (·.1)).Nodup) && xs.all (fun x => decide (0 < T x))
/-- parts of n, and what they bind -/
def kParts (A : aT) (go : kE → Int → (Int → Int) → Option (Int → Int)) (e : kE) (n : Int) (T : Int → Int) : Option (Int → Int) :=
  let ks := A.2.2.2.2.1 n
  let gs := A.2.2.2.2.2 n
  if A.2.1 n = 2 then (match ks with
    | a :: r => (match go e a T with
      | none => none
      | some T1 => kRow go ((A.2.2.2.1 n, T1 a) :: e) r T1)
    | [] => some T)
  else if A.2.1 n = 15 then (match ks with
    | body :: r => (match kRow go e (r.take gs.length) T with
      | none => none
      | some T1 => if kGens T1 gs (r.take gs.length) = true then kRow go (kBind T1 gs (r.take gs.length) e) (r.drop gs.length ++ [body]) T1 else none)
    | [] => some T)
  else kRow go e ks T
/-- node n with all below it: f levels -/
def kGo (A : aT) (ds : kD) : Nat → kE → Int → (Int → Int) → Option (Int → Int)
  | 0, _, _, _ => none
  | f + 1, e, n, T => match kParts A (kGo A ds f) e n T with
    | none => none
    | some T1 => match kTy A ds T1 e n ((A.2.2.2.2.1 n).map T1) with
      | none => none
      | some ty => some (aU T1 n ty)
/-- the number of the newest DEF of that name -/
def kDx (ds : kD) (w : Int) : Option Int := match ds with
  | [] => none
  | x :: r => if x.1 = w then some (r.length : Int) else kDx r w
/-- binders of GENS, the newest first, before eb -/
def kGb (n : Int) : Nat → List (Int × Int) → kE → kE
  | _, [], eb => eb
  | j, g :: gs, eb => kGb n (j + 1) gs ((g.1, 210 + 4 * n + j) :: eb)
/-- binders of nodes (B) once n is looked at, under names bound by binders eb -/
def kUp (A : aT) (ds : kD) (eb : kE) (n : Int) (B : Int → Int) : Int → Int :=
  if A.2.1 n = 1 then (match kFind eb (A.2.2.2.1 n) with
    | none => B
    | some b => aU B n b)
  else if A.2.1 n = 13 then (match kDx ds (A.2.2.2.1 n) with
    | none => B
    | some d => aU B n d)
  else B
def kBoR (go : kE → Int → (Int → Int) → (Int → Int)) (eb : kE) : List Int → (Int → Int) → (Int → Int)
  | [], B => B
  | x :: r, B => kBoR go eb r (go eb x B)
def kBo (A : aT) (ds : kD) : Nat → kE → Int → (Int → Int) → (Int → Int)
  | 0, _, _, B => B
  | f + 1, eb, n, B => kUp A ds eb n (if A.2.1 n = 2 then (match A.2.2.2.2.1 n with
      | a :: r => kBoR (kBo A ds f) ((A.2.2.2.1 n, n) :: eb) r (kBo A ds f eb a B)
      | [] => B)
    else if A.2.1 n = 15 then (match A.2.2.2.2.1 n with
      | body :: r => kBoR (kBo A ds f) (kGb n 0 (A.2.2.2.2.2 n) eb) (r.drop (A.2.2.2.2.2 n).length ++ [body]) (kBoR (kBo A ds f) eb (r.take (A.2.2.2.2.2 n).length) B)
      | [] => B)
    else kBoR (kBo A ds f) eb (A.2.2.2.2.1 n) B)
/-- turns of a walk over n and all below it -/
def kSz (A : aT) : Nat → Int → Nat
  | 0, _ => 0
  | f + 1, n => 1 + ((A.2.2.2.2.1 n).map (fun x => 1 + kSz A f x)).sum
/-- a DEF: its PARAMS, then its EXPR -/
def kDf (A : aT) (ds : kD) (x : aDf) (T : Int → Int) : Option ((Int → Int) × kD) :=
  if (kDef ds x.1 = none) ∧ (x.2.2.1.map (·.1)).Nodup ∧ (∀ p ∈ x.2.2.1, p.2.2 ≤ 3) then (match kGo A ds 201 (x.2.2.1.reverse.map (fun p => (p.1, p.2.2))) x.2.2.2 T with
    | none => none
    | some T1 => some (T1, (x.1, x.2.2.1.map (·.2.2), x.2.2.2) :: ds)) else none
def kDs (A : aT) : List aDf → kD → (Int → Int) → Option ((Int → Int) × kD)
  | [], ds, T => some (T, ds)
  | x :: r, ds, T => match kDf A ds x T with
    | none => none
    | some (T1, ds1) => kDs A r ds1 T1
/-- the whole PROGRAM -/
def kPg (A : aT) (D : List aDf) (q : Int) (T : Int → Int) : Option (Int → Int) := match kDs A D [] T with
  | none => none
  | some (T1, ds) => kGo A ds 201 [] q T1
/-- a TYPE more than 3 deep is a fault: so where the readers differ, look says no -/
theorem kDf_bad {A : aT} {ds : kD} {x : aDf} {T : Int → Int} (h : ∃ p ∈ x.2.2.1, 3 < p.2.2) : kDf A ds x T = none := by
  obtain ⟨p, h1, h2⟩ := h
  unfold kDf
  rw [if_neg]
  rintro ⟨-, -, h3⟩
  have := h3 p h1
  omega
theorem kDs_bad {A : aT} : ∀ (D : List aDf) (ds : kD) (T : Int → Int), (∃ x ∈ D, ∃ p ∈ x.2.2.1, 3 < p.2.2) → kDs A D ds T = none
  | [], _, _, h => by obtain ⟨x, h, -⟩ := h; simp at h
  | x :: r, ds, T, h => by
    obtain ⟨y, h1, h2⟩ := h
    unfold kDs
    rcases List.mem_cons.mp h1 with e | e
    · subst e
      rw [kDf_bad h2]
    · cases hh : kDf A ds x T with
      | none => rfl
      | some v => exact kDs_bad r _ _ ⟨y, e, h2⟩
