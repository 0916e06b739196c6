/-! spread of the class, exactly; bundle. -/
theorem ln_g {v0 : List vaF} {j : Nat} (h : j < v0.length) : (v0.map (fun v => (itF v).length)).getD j 0 = (itF (v0.getD j (nmF 0))).length := by
  rw [List.getD_eq_getElem?_getD, List.getElem?_map, gD_i h]
  rfl
theorem rp_l {ln : List Nat} : ∀ {j : Nat}, (∀ i, i < j → ln.getD i 0 ≤ 200) → (fRp j ln).length ≤ 200 * j
  | 0, _ => Nat.le_refl _
  | j + 1, h => by
    have a := rp_l (ln := ln) (j := j) (fun i hi => h i (by omega))
    have b := h j (by omega)
    rw [fRp_s, List.length_append, List.length_replicate]
    omega
theorem rp_pre {ln : List Nat} {j : Nat} : ∀ {n : Nat}, j ≤ n → ∃ r, fRp n ln = fRp j ln ++ r
  | 0, h => ⟨[], by rw [show j = 0 by omega, List.append_nil]⟩
  | n + 1, h => by
    by_cases e : j = n + 1
    · exact ⟨[], by rw [e, List.append_nil]⟩
    · obtain ⟨r, hr⟩ := rp_pre (ln := ln) (j := j) (n := n) (by omega)
      exact ⟨r ++ List.replicate (ln.getD n 0) n, by rw [fRp_s, hr, List.append_assoc]⟩
theorem fPk_r (l : List vaF) (n k : Nat) : fPk l (List.replicate n k) = List.replicate n (l.getD k (nmF 0)) := by unfold fPk; rw [List.map_replicate]
section COS
variable {σ : sg_S} {Q : sg_S → Prop}
theorem f_spreadX {W Ob : List Int} {sl ty : Int → Int} {g c : Int} {n dg : Nat} {v0 : List vaF} {s : fSt} {ρ : fEv} (hm : mC σ c) (hs : ctX σ s) (hc : 4 ≤ c) (hn : n ≤ 6000) (h23 : sg_g σ 61 23 = n) (hg : yX σ (dg + 1) g v0) (hgl : v0.length = n) (hw : wl σ W) (h200 : W.length ≤ 200) (hOW : Ob.map sl = W) (hT : ∀ y ∈ Ob, (0 ≤ sl y ∧ sl y < 272) ∧ (ty y).toNat ≤ 3 ∧ sg_g σ 34 (sl y) = (ty y).toNat ∧ yX σ (ty y).toNat (sg_g σ 62 (sl y)) (ρ y) ∧ (ρ y).length = n) (k : ∀ σ', sg_F nrL σ σ' → nrX σ σ' Ob W sl ty c (fCa ty (fRp n (v0.map (fun v => (itF v).length))) Ob s ρ) → Q σ') : V_fSpread σ g Q := by
  obtain ⟨w1, w2, w3⟩ := id hw
  have gg := hm.1
  have lenO : Ob.length = W.length := by rw [← hOW, List.length_map]
  have hgr := (yX_c hg).1
  obtain ⟨ln, hln⟩ : ∃ ln, ln = v0.map (fun v => (itF v).length) := ⟨_, rfl⟩
  rw [← hln] at k
  have lg : ∀ j, j < n → ln.getD j 0 = (itF (v0.getD j (nmF 0))).length := fun j hj => by rw [hln]; exact ln_g (by omega)
  have l200 : ∀ j, j < n → ln.getD j 0 ≤ 200 := fun j hj => by
    rw [lg j hj]
    exact (yX_ln gg hg (j := j) (by omega)).2.2.2.1
  unfold V_fSpread
  rw [w1, h23]
  refine ⟨fun m v σ2 => ∃ i : Nat, v = i ∧ i ≤ W.length ∧ m = W.length - i ∧ nrI σ σ2 Ob W sl ty c g (fRp n ln) s ρ i, fun σ2 => ∃ i, (Ob.length ≤ i ∨ ¬ sg_g σ2 61 10 = 0) ∧ nrI σ σ2 Ob W sl ty c g (fRp n ln) s ρ i, ⟨_, 0, rfl, Nat.zero_le _, rfl, nrI_0 hm hs⟩, ?_, fun σ2 f2 ⟨i, hi, hI⟩ => k σ2 f2 (nrI_e hi lenO hI)⟩
  rintro m v σ2 rv f2 ⟨i, rfl, hi, hm', hI⟩
  refine ⟨fun z => ⟨i, Or.inl (by omega), hI⟩, fun z => ⟨fun y => ⟨i, Or.inr y, hI⟩, fun y0' => ?_⟩⟩
  rcases hI with ⟨s', -, q, -⟩ | ⟨s2, ρ2, e1, e2, e3, e4, e5, e6, e7⟩
  · rw [q] at y0'; exact absurd y0' (by decide)
  obtain ⟨y, hy⟩ : ∃ y, Ob[i]? = some y := ⟨_, List.getElem?_eq_getElem (by omega)⟩
  have hx : W[i]? = some (sl y) := by rw [← hOW, List.getElem?_map, hy]; rfl
  obtain ⟨t1, t2, t3, t4, t5⟩ := hT y (List.mem_of_getElem? hy)
  have v62 := e6 (sl y) (nin_t (wl_nd w3) hx)
  rw [xa_in (a := 74) ⟨by omega, by omega⟩, w2 i (sl y) hx, xa_in (a := 62) t1, xa_in (a := 34) t1, v62, t3]
  have xv := yX_up e3 t4
  have g10 := e2.1.1
  have hg2 := yX_up e3 hg
  refine ⟨fun m2 v18 σ19 => ∃ j : Nat, v18 = j ∧ j ≤ n ∧ m2 = n - j ∧ toX σ19 (ty y).toNat [] [] (fPk (ρ y) (fRp j ln)) 0, fun σ19 => toX σ19 (ty y).toNat [] [] (fPk (ρ y) (fRp n ln)) 0 ∨ (¬ sg_g σ19 77 15 = 0 ∧ 6000 < exF (ty y).toNat (fPk (ρ y) (fRp n ln))), ⟨_, 0, rfl, Nat.zero_le _, rfl, toX_0 e2.2.1 _⟩, ?_, ?_⟩
  · rintro m2 v18 σ19 r18 f19 ⟨j, rfl, hj, hm2, hA⟩
    refine ⟨fun q => Or.inl (by rw [show n = j by omega]; exact hA), fun q => ⟨fun o => Or.inr ⟨o, ?_⟩, fun o => ?_⟩⟩
    · obtain ⟨q1, q2, q3, q4⟩ := toX_s (f := 0) (D := (ty y).toNat) (L := fPk (ρ y) (fRp j ln)) hA (Or.inl ⟨rfl, rfl, rfl, rfl⟩) (Or.inl rfl)
      have a := q2 (by omega)
      obtain ⟨r, hr⟩ := rp_pre (ln := ln) hj
      rw [hr, fPk_a, exF_a]
      have b := exF_n (ty y).toNat (fPk (ρ y) r)
      omega
    · obtain ⟨x1, x2⟩ := yX_cell e2.1 hg2 (i := j) (by omega)
      have x3 := (yX_ln e2.1 hg2 (j := j) (by omega)).1
      have x4 : v_lCell σ2 g j = (ln.getD j 0 : Nat) := by rw [x3, lg j (by omega)]
      have rl := rp_l (ln := ln) (j := j) (fun i hi => l200 i (by omega))
      have l2 := l200 j (by omega)
      rw [x4]
      refine ⟨x2, fun m3 v51 σ52 => ∃ i2 : Nat, v51 = i2 ∧ i2 ≤ ln.getD j 0 ∧ m3 = ln.getD j 0 - i2 ∧ toX σ52 (ty y).toNat [] [] (fPk (ρ y) (fRp j ln) ++ List.replicate i2 ((ρ y).getD j (nmF 0))) 0, fun σ52 => toX σ52 (ty y).toNat [] [] (fPk (ρ y) (fRp (j + 1) ln)) 0, ⟨_, 0, rfl, Nat.zero_le _, rfl, by rw [List.replicate_zero, List.append_nil]; exact hA⟩, ?_, fun σ52 f52 h52 => ⟨⟨by omega, by omega⟩, n - (j + 1), by omega, j + 1, by omega, by omega, rfl, h52⟩⟩
      rintro m3 v51 σ52 r51 f52 ⟨i2, rfl, hi2, hm3, hA3⟩
      have ex52 : yEx σ2 σ52 := yEx_F (sg_F_t f19 f52) rfl
      refine ⟨fun r => ?_, fun r => ⟨⟨by omega, by omega⟩, ?_⟩⟩
      · rw [fRp_s, fPk_a, fPk_r, show ln.getD j 0 = i2 by omega]; exact hA3
      · have pk : pkX σ2 (ty y).toNat (sg_g σ 62 (sl y)) (j : Int) ((j : Int) + 1) [(ρ y).getD j (nmF 0)] := by
          refine Or.inr ⟨ρ y, xv, by omega, by omega, by omega, ?_⟩
          rw [Int.toNat_natCast, show ((j : Int) + 1 - j).toNat = 1 by omega, dr_D (by omega : j < (ρ y).length)]
          rfl
        refine t_pick hA3 (by rw [List.length_append, fPk_l, List.length_replicate]; omega) (pkX_up ex52 pk) (sg_Rg _ _ _) ⟨by omega, by omega⟩ (fun σ3 t3 f3 _ => ⟨⟨by omega, by omega⟩, ln.getD j 0 - (i2 + 1), by omega, i2 + 1, by omega, by omega, rfl, ?_⟩)
        rw [List.replicate_succ', ← List.append_assoc]
        exact t3
  · intro σ19 f19 hA
    exact nrI_s hc hgr.1 hOW (wl_nd w3) hy t1 t2 e1 e2 e3 e4 e5 e6 e7 f2 f19 hA (fun σ73 F73 h73 => ⟨⟨by omega, by omega⟩, W.length - (i + 1), by omega, i + 1, by omega, by omega, rfl, h73⟩)
end COS
