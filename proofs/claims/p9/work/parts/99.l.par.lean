/-! DEFS are read alike. -/
section DLP
variable {c : tkC} {t : aK} {N : Nat} {τ τ' : sg_S} {A A' : aT} {b q : Int} {R : List Int} {i : Nat}
/-- several EXPRS, one behind the other -/
theorem cS_E (h : cS τ A b R) (hs : cS τ' A' A.1 [q]) (hf : fB τ τ' A.1) (hg : gr A A') : cS τ' A' b (q :: R) := by
  obtain ⟨h1, h2, h3, h4, h5⟩ := h
  obtain ⟨s1, s2, s3, s4, s5⟩ := hs
  have hg1 := hg.1
  have hq := s5 q (by simp)
  have hqn : q ∉ R := fun hc => by have := h5 q hc; omega
  refine ⟨s1, ⟨h2.1, by omega, s2.2.2⟩, fun k hk0 hk1 => ?_, List.nodup_cons.mpr ⟨hqn, h4⟩, fun x hx => ?_⟩
  · by_cases e : k < A.1
    · obtain ⟨c1, c2⟩ := h3 k hk0 e
      have ek := hg.2 k e
      refine ⟨cN_x c1 ek (fun a ha => (hf.1 a k (by omega) e).1) (hf.1 17 k (by omega) e).2 (fun x hx => ⟨(hf.1 9 x (by omega) (c2 x hx).1.2).1, (hf.1 15 x (by omega) (c2 x hx).1.2).1, (hf.1 18 x (by omega) (c2 x hx).1.2).2⟩), ?_⟩
      rw [ek.2.2.2.1]
      intro x hx
      have := c2 x hx
      refine ⟨by omega, fun hc => ?_⟩
      rcases List.mem_cons.mp hc with e | e
      · omega
      · exact this.2 e
    · obtain ⟨c1, c2⟩ := s3 k (by omega) hk1
      refine ⟨c1, fun x hx => ?_⟩
      have := c2 x hx
      refine ⟨by omega, fun hc => ?_⟩
      rcases List.mem_cons.mp hc with e | e
      · exact this.2 (by simp [e])
      · have := h5 x e; omega
  · rcases List.mem_cons.mp hx with e | e
    · subst e; omega
    · have := h5 x e; omega
/-- the class's rows of one DEF's PARAMS -/
def cP (τ : sg_S) (d : Int) (ps : List (Int × Int × Int)) : Prop := sg_g τ 23 d = ps.length ∧ ps.length ≤ 6 ∧ ∀ (j : Nat) (y : Int × Int × Int), ps[j]? = some y → sg_gl τ 25 (6 * d + j) = uv y.1 ∧ sg_g τ 26 (6 * d + j) = y.2.1 ∧ sg_g τ 27 (6 * d + j) = y.2.2
/-- the class's rows of the DEFS -/
def cD2 (τ : sg_S) (D : List aDf) : Prop := sg_g τ 19 8 = D.length ∧ D.length ≤ 12 ∧ ∀ (d : Nat) (x : aDf), D[d]? = some x → sg_gl τ 20 d = uv x.1 ∧ sg_g τ 21 d = x.2.1 ∧ sg_g τ 22 d = x.2.2.2 ∧ cP τ d x.2.2.1
/-- the rows of DEFS alone changed -/
def dF (τ τ' : sg_S) (d : Int) : Prop := (∀ (a : Nat) (k : Int), a ≤ 18 → sg_g τ' a k = sg_g τ a k ∧ sg_gl τ' a k = sg_gl τ a k) ∧ (∀ k, ¬ k = d → sg_gl τ' 20 k = sg_gl τ 20 k ∧ sg_g τ' 21 k = sg_g τ 21 k ∧ sg_g τ' 22 k = sg_g τ 22 k ∧ sg_g τ' 23 k = sg_g τ 23 k) ∧ (∀ k, k < 6 * d → sg_gl τ' 25 k = sg_gl τ 25 k ∧ sg_g τ' 26 k = sg_g τ 26 k ∧ sg_g τ' 27 k = sg_g τ 27 k)
theorem dF_r (τ : sg_S) (d : Int) : dF τ τ d := ⟨fun _ _ _ => ⟨rfl, rfl⟩, fun _ _ => ⟨rfl, rfl, rfl, rfl⟩, fun _ _ => ⟨rfl, rfl, rfl⟩⟩
theorem dF_t {τ1 τ2 : sg_S} {d : Int} (h : dF τ τ1 d) (g : dF τ1 τ2 d) : dF τ τ2 d := ⟨fun a k ha => ⟨(g.1 a k ha).1.trans (h.1 a k ha).1, (g.1 a k ha).2.trans (h.1 a k ha).2⟩, fun k hk => ⟨(g.2.1 k hk).1.trans (h.2.1 k hk).1, (g.2.1 k hk).2.1.trans (h.2.1 k hk).2.1, (g.2.1 k hk).2.2.1.trans (h.2.1 k hk).2.2.1, (g.2.1 k hk).2.2.2.trans (h.2.1 k hk).2.2.2⟩, fun k hk => ⟨(g.2.2 k hk).1.trans (h.2.2 k hk).1, (g.2.2 k hk).2.1.trans (h.2.2 k hk).2.1, (g.2.2 k hk).2.2.trans (h.2.2 k hk).2.2⟩⟩
theorem cS_d {d : Int} (h : cS τ A b R) (hd : dF τ τ' d) : cS τ' A b R := by
  obtain ⟨h1, h2, h3, h4, h5⟩ := h
  refine ⟨by rw [(hd.1 2 16 (by omega)).1]; exact h1, h2, fun k a0 a1 => ⟨cN_x (h3 k a0 a1).1 ⟨rfl, rfl, rfl, rfl, rfl⟩ (fun a ha => (hd.1 a k (by omega)).1) (hd.1 17 k (by omega)).2 (fun x hx => ⟨(hd.1 9 x (by omega)).1, (hd.1 15 x (by omega)).1, (hd.1 18 x (by omega)).2⟩), (h3 k a0 a1).2⟩, h4, h5⟩
theorem pz_in {a n : Nat} {k v : Int} (h : 0 ≤ k ∧ k < (n : Int)) : sx_put τ a n k v = sg_w τ a k v := by unfold sx_put; rw [if_pos h]
theorem pzl_in {a n : Nat} {k v : Int} (h : 0 ≤ k ∧ k < (n : Int)) : sx_putl τ a n k v = sg_wl τ a k v := by unfold sx_putl; rw [if_pos h]
theorem az_in {a n : Nat} {k : Int} (h : 0 ≤ k ∧ k < (n : Int)) : sx_at τ a n k = sg_g τ a k := by unfold sx_at; rw [if_pos h]
/-- one PARAM more -/
theorem par_1 {d : Nat} (hd : d < 12) {ps : List (Int × Int × Int)} (h : cP τ d ps) (hl : ps.length < 6) {w p ty w0 : Int} (hw : sg_RL w) (huw : w = uv w0) (hp : sg_R p) (hty : sg_R ty) : cP (sx_put (pDPar τ d w p) 27 72 ((d : Int) * 6 + ps.length) ty) d (ps ++ [(w0, p, ty)]) ∧ dF τ (sx_put (pDPar τ d w p) 27 72 ((d : Int) * 6 + ps.length) ty) d := by
  obtain ⟨h1, h2, h3⟩ := h
  have e23 : sx_at τ 23 12 (d : Int) = ps.length := by rw [show (12 : Int) = ((12 : Nat) : Int) from rfl, az_in ⟨by omega, by omega⟩]; exact h1
  have ex : sg_n ((d : Int) * 6 + sx_at τ 23 12 (d : Int)) = (d : Int) * 6 + ps.length := by rw [e23, sg_id ⟨by omega, by omega⟩]
  unfold pDPar
  rw [ex]
  have i72 : 0 ≤ (d : Int) * 6 + ps.length ∧ (d : Int) * 6 + ps.length < ((72 : Nat) : Int) := by omega
  have i12 : 0 ≤ (d : Int) ∧ (d : Int) < ((12 : Nat) : Int) := by omega
  rw [show (72 : Int) = ((72 : Nat) : Int) from rfl, show (12 : Int) = ((12 : Nat) : Int) from rfl]
  simp only [pz_in i72, pzl_in i72, pz_in i12, az_in i12]
  have r23 : sg_g (sg_w (sg_wl τ 25 ((d : Int) * 6 + ps.length) w) 26 ((d : Int) * 6 + ps.length) p) 23 d = ps.length := by rw [sg_gw_c _ _ _ _ _ _ (by decide), sg_gwl']; exact h1
  rw [r23]
  refine ⟨⟨?_, ?_, fun j y hy => ?_⟩, fun a k ha => ⟨?_, ?_⟩, fun k hk => ⟨?_, ?_, ?_, ?_⟩, fun k hk => ⟨?_, ?_, ?_⟩⟩
  · rw [sg_gw_c _ _ _ _ _ _ (by decide), sg_gw, if_pos ⟨rfl, rfl⟩, sg_id ⟨by omega, by omega⟩]
    simp
  · simp; omega
  · simp only [rg_w, rg_w', rg_wl, rg_wl', Nat.reduceEqDiff, if_false, if_true, reduceIte]
    by_cases e : j = ps.length
    · subst e
      rw [List.getElem?_append_right (Nat.le_refl _)] at hy
      simp at hy
      rw [← hy, if_pos (by omega), if_pos (by omega), if_pos (by omega), sg_idl hw, sg_id hp, sg_id hty]
      exact ⟨huw, rfl, rfl⟩
    · have hj : j < ps.length := by
        have := (List.getElem?_eq_some_iff.mp hy).1
        simp at this
        omega
      rw [List.getElem?_append_left hj] at hy
      rw [if_neg (by omega), if_neg (by omega), if_neg (by omega)]
      exact h3 j y hy
  · rw [sg_gw_c _ _ _ _ _ _ (by omega), sg_gw_c _ _ _ _ _ _ (by omega), sg_gw_c _ _ _ _ _ _ (by omega), sg_gwl']
  · rw [sg_gw', sg_gw', sg_gw', sg_gwl_c _ _ _ _ _ _ (by omega)]
  · rw [sg_gw', sg_gw', sg_gw', sg_gwl_c _ _ _ _ _ _ (by decide)]
  · rw [sg_gw_c _ _ _ _ _ _ (by decide), sg_gw_c _ _ _ _ _ _ (by decide), sg_gw_c _ _ _ _ _ _ (by decide), sg_gwl']
  · rw [sg_gw_c _ _ _ _ _ _ (by decide), sg_gw_c _ _ _ _ _ _ (by decide), sg_gw_c _ _ _ _ _ _ (by decide), sg_gwl']
  · rw [sg_gw_c _ _ _ _ _ _ (by decide), sg_gw_k _ _ _ _ _ _ hk, sg_gw_c _ _ _ _ _ _ (by decide), sg_gwl']
  · rw [sg_gw', sg_gw', sg_gw', sg_gwl_k _ _ _ _ _ _ (by omega)]
  · rw [sg_gw_c _ _ _ _ _ _ (by decide), sg_gw_c _ _ _ _ _ _ (by decide), sg_gw_k _ _ _ _ _ _ (by omega), sg_gwl']
  · rw [sg_gw_k _ _ _ _ _ _ (by omega), sg_gw_c _ _ _ _ _ _ (by decide), sg_gw_c _ _ _ _ _ _ (by decide), sg_gwl']
end DLP
