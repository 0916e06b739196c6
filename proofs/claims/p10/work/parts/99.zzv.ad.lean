/-! perm and part of the nested run. -/
theorem iv_ps (n : Nat) : ∀ (l : List Int) (i : Nat) (g g' : Int → Int) (ps : List Int), ps.length = i → ps.Nodup → (∀ p ∈ ps, 0 ≤ p ∧ p < n ∧ 0 ≤ g p ∧ g p < n) → i + l.length = n → ivF n i l g = some g' → ∃ ps' : List Int, ps'.length = n ∧ ps'.Nodup ∧ ∀ p ∈ ps', 0 ≤ p ∧ p < n ∧ 0 ≤ g' p ∧ g' p < n
  | [], i, g, g', ps, h1, h2, h3, h4, h => by
    simp only [ivF, Option.some.injEq] at h
    subst h
    exact ⟨ps, by simp only [List.length_nil] at h4; omega, h2, h3⟩
  | x :: l, i, g, g', ps, h1, h2, h3, h4, h => by
    simp only [ivF] at h
    simp only [List.length_cons] at h4
    split at h
    · rename_i c
      have np : x ∉ ps := fun z => by have := h3 x z; omega
      refine iv_ps n l (i + 1) _ g' (x :: ps) (by simp only [List.length_cons]; omega) (List.nodup_cons.mpr ⟨np, h2⟩) (fun p hp => ?_) (by omega) h
      rcases List.mem_cons.mp hp with e | e
      · subst e
        rw [if_pos rfl]; omega
      · have := h3 p e
        rw [if_neg (fun z => np (by rw [← z]; exact e))]
        exact this
    · cases h
theorem iv_all {n : Nat} {l : List Int} {g : Int → Int} (hl : l.length = n) (h : ivF n 0 l (fun _ => -1) = some g) {p : Int} (hp : 0 ≤ p ∧ p < n) : 0 ≤ g p ∧ g p < n := by
  obtain ⟨ps, q1, q2, q3⟩ := iv_ps n l 0 _ g [] rfl List.nodup_nil (by simp) (by omega) h
  by_cases c : p ∈ ps
  · exact (q3 p c).2.2
  · exfalso
    have := ndl n (p :: ps) (List.nodup_cons.mpr ⟨c, q2⟩) (fun w hw => by
      rcases List.mem_cons.mp hw with u | u
      · rw [u]; omega
      · have := q3 w u; omega)
    simp only [List.length_cons] at this
    omega
section NPR
variable {σ : sg_S} {d : Nat} {t w x y : Int} {u v : vaF} {Q : sg_S → Prop}
theorem n_invert {n : Nat} {nu : List Int} {Q : Int → sg_S → Prop} (hn : nu.length = n) (h200 : n ≤ 200) (h54 : ∀ (i : Nat) (z : Int), nu[i]? = some z → sg_g σ 54 i = z) (k0 : ivF n 0 nu (fun _ => -1) = none → ∀ σ', sg_F [55] σ σ' → Q 0 σ') (k1 : ∀ g, ivF n 0 nu (fun _ => -1) = some g → ∀ σ', sg_F [55] σ σ' → (∀ p, 0 ≤ p → p < n → sg_g σ' 55 p = g p) → Q 1 σ') : V_yInvert σ (n : Int) Q := by
  unfold V_yInvert
  refine ⟨fun m v1 σ2 => ∃ i : Nat, v1 = i ∧ m = n - i ∧ i ≤ n ∧ ∀ p, 0 ≤ p → p < (i : Int) → sg_g σ2 55 p = -1, fun σ2 => ∀ p, 0 ≤ p → p < (n : Int) → sg_g σ2 55 p = -1, ⟨_, 0, rfl, rfl, Nat.zero_le _, fun p a b => by omega⟩, ?_, ?_⟩
  · rintro m v1 σ2 r1 f2 ⟨i, rfl, em, hi, hp⟩
    refine ⟨fun z p a b => hp p a (by omega), fun z σ41 e41 => ⟨⟨by omega, by omega⟩, n - (i + 1), by omega, i + 1, by omega, rfl, by omega, fun p a b => ?_⟩⟩
    rw [xp_in ⟨by omega, by omega⟩] at e41
    by_cases c : p = i
    · rw [c, e41, sg_gw_e _ _ _ _ (by decide)]
    · rw [e41, sg_gw_k _ _ _ _ _ _ c]; exact hp p a (by omega)
  · intro σ2 f2 h2
    refine ⟨fun m v16 σ17 => ∃ (i : Nat) (g : Int → Int), v16 = i ∧ m = n - i ∧ i ≤ n ∧ ivF n i (nu.drop i) g = ivF n 0 nu (fun _ => -1) ∧ (∀ p, 0 ≤ p → p < (n : Int) → sg_g σ17 55 p = g p) ∧ ∀ p, g p = -1 ∨ 0 ≤ g p, fun σ17 => ∃ g, ivF n 0 nu (fun _ => -1) = some g ∧ ∀ p, 0 ≤ p → p < (n : Int) → sg_g σ17 55 p = g p, ⟨_, 0, fun _ => -1, rfl, rfl, Nat.zero_le _, rfl, fun p a b => h2 p a b, fun p => Or.inl rfl⟩, ?_, ?_⟩
    · rintro m v16 σ17 r16 f17 ⟨i, g, rfl, em, hi, ei, hg, hb⟩
      refine ⟨fun z => ?_, fun z => ?_⟩
      · rw [List.drop_of_length_le (by omega)] at ei
        exact ⟨g, ei.symm, hg⟩
      · obtain ⟨c, hc⟩ := gE_x (l := nu) (i := i) (by omega)
        rw [dr_c hc] at ei
        simp only [ivF] at ei
        have e54 : sx_at σ 54 200 (i : Int) = c := by rw [xa_in ⟨by omega, by omega⟩]; exact h54 i c hc
        rw [e54]
        have F := sg_F_t f2 f17
        refine ⟨fun z1 => k0 (by rw [← ei, if_neg (by omega)]) σ17 F, fun z1 => ⟨fun z2 => k0 (by rw [← ei, if_neg (by omega)]) σ17 F, fun z2 => ?_⟩⟩
        rw [xa_in (a := 55) ⟨z1, by omega⟩, hg c z1 z2]
        refine ⟨fun z3 σ35 e35 => ⟨⟨by omega, by omega⟩, n - (i + 1), by omega, i + 1, fun y => if y = c then (i : Int) else g y, by omega, rfl, by omega, ?_, fun p a b => ?_, fun p => ?_⟩, fun z3 => k0 (by rw [← ei, if_neg (fun q => by have := q.2.2; omega)]) σ17 F⟩
        · rw [← ei, if_pos]
          rcases hb c with q | q
          · exact ⟨z1, z2, q⟩
          · omega
        · rw [xp_in ⟨z1, by omega⟩] at e35
          by_cases cp : p = c
          · show sg_g σ35 55 p = if p = c then (i : Int) else g p
            rw [if_pos cp, cp, e35, sg_gw_e _ _ _ _ r16]
          · show sg_g σ35 55 p = if p = c then (i : Int) else g p
            rw [if_neg cp, e35, sg_gw_k _ _ _ _ _ _ cp]; exact hg p a b
        · by_cases cp : p = c
          · show (if p = c then (i : Int) else g p) = -1 ∨ 0 ≤ if p = c then (i : Int) else g p
            rw [if_pos cp]; right; omega
          · show (if p = c then (i : Int) else g p) = -1 ∨ 0 ≤ if p = c then (i : Int) else g p
            rw [if_neg cp]; exact hb p
    · rintro σ17 f17 ⟨g, e, hg⟩
      exact k1 g e σ17 (sg_F_t f2 f17) (fun p a b => hg p (by omega) (by omega))
theorem n_permute (hO : nO σ t w) (h21 : sg_g σ 45 21 = 0) (h9 : sg_g σ 45 9 = (d + 1 : Nat)) (hv : cvF σ (d + 1) v x) (hu : cvF σ 1 u y) (k : ∀ σ', sg_F ngL σ σ' → cR σ σ' (d + 1) t w (pyF (if (itF v).length = (itF u).length then (match ivF (itF u).length 0 (nuF u) (fun _ => -1) with
    | none => .inl 6
    | some g => .inr (mkF ((List.range (itF v).length).map (fun i : Nat => (itF v).getD (g i).toNat (nmF 0))), cnL d ((List.range (itF v).length).map (fun i : Nat => (itF v).getD (g i).toNat (nmF 0))))) else .inl 3) w) → Q σ') : V_nPermute σ x y Q := by
  have hB : sg_g σ 45 20 ≤ 9003 := by have := hO.2.2.2.2; omega
  have l2 := (cv_x hv hB).2.2.1
  have lu := nu_l u
  unfold V_nPermute
  rw [cv_len hB hv, cv_len hB hu]
  refine ⟨fun z => ?_, fun z σ2 e2 => ?_⟩
  · have zl : (itF v).length = (itF u).length := by omega
    rw [if_pos zl] at k
    refine n_addAll (L := []) hB (cO_0 h21) hu (by simp only [List.length_nil]; omega) (fun σ5 h5 f5 _ => ?_)
    rw [List.nil_append] at h5
    rw [zl]
    refine n_invert (nu := nuF u) lu (by omega) (fun i c hc => ?_) (fun e σ11 f11 _ _ => ⟨fun q => absurd rfl q, fun _ σ52 e52 => ?_⟩) (fun g e σ11 f11 hg _ _ => ⟨fun _ σ17 e17 => ?_, fun q => absurd q (by decide)⟩)
    · unfold nuF at hc
      rw [List.getElem?_map] at hc
      cases hh : (itF u)[i]? with
      | none => rw [hh] at hc; cases hc
      | some c' =>
        rw [hh] at hc
        have := h5.2.2 i c' hh
        have e1 : c' [] = c := Option.some.inj hc
        rw [← e1]
        exact this.symm
    · rw [e] at k
      obtain ⟨a, b⟩ := n_flt (d := d + 1) hO (sg_F_t (sg_F_m f5 rfl) (sg_F_m f11 rfl)) (by decide) e52
      exact k σ52 a b
    · rw [e] at k
      have f17 : sg_F [22045] σ11 σ17 := by rw [e17]; exact sg_F_w (sg_F_r _ _) rfl _
      have F17 : sg_F [54, 55, 22045] σ σ17 := sg_F_t (sg_F_t (sg_F_m f5 rfl) (sg_F_m f11 rfl)) (sg_F_m f17 rfl)
      have z17 : sg_g σ17 45 21 = 0 := by rw [e17, sg_gw_e _ _ _ _ (by decide)]
      have it : ∀ i : Nat, i < (itF u).length → ∃ c, (itF v).getD (g i).toNat (nmF 0) = c ∧ p_nItemOf σ x (sx_at σ11 55 200 i) ∧ sg_R (v_nItemOf σ x (sx_at σ11 55 200 i)) ∧ cvF σ d c (v_nItemOf σ x (sx_at σ11 55 200 i)) := fun i hi => by
        have gi := iv_all lu e (p := (i : Int)) ⟨by omega, by omega⟩
        obtain ⟨c, hc⟩ := gE_x (l := itF v) (i := (g i).toNat) (by omega)
        obtain ⟨q1, q2, q3⟩ := cv_item hB hv hc
        rw [xa_in ⟨by omega, by omega⟩, hg i (by omega) (by omega)]
        rw [show (((g i).toNat : Nat) : Int) = g i by omega] at q1 q2 q3
        exact ⟨c, by rw [List.getD_eq_getElem?_getD, hc, Option.getD_some], q1, q2, q3⟩
      refine ⟨fun n v20 σ21 => ∃ i : Nat, v20 = i ∧ n = (itF u).length - i ∧ i ≤ (itF u).length ∧ cO σ21 d ((List.range i).map (fun i : Nat => (itF v).getD (g i).toNat (nmF 0))), fun σ21 => cO σ21 d ((List.range (itF u).length).map (fun i : Nat => (itF v).getD (g i).toNat (nmF 0))), ⟨_, 0, rfl, rfl, Nat.zero_le _, cO_0 z17⟩, ?_, fun σ3 f3 h3 => n_giveA hO h9 (sg_F_t F17 (sg_F_m f3 rfl)) h3 (by rw [zl] at k; exact k)⟩
      rintro n v20 σ21 r20 f21 ⟨i, rfl, en, hi, hc⟩
      refine ⟨fun z => ?_, fun z => ?_⟩
      · rw [show (itF u).length = i by omega]; exact hc
      · obtain ⟨c, c1, c2, c3, c4⟩ := it i (by omega)
        refine ⟨c2, n_add hc (by rw [List.length_map, List.length_range]; omega) (cvF_F (cvF_F c4 F17 rfl) f21 rfl) c3 (fun σ' h' f' _ => ⟨⟨by omega, by omega⟩, (itF u).length - (i + 1), by omega, i + 1, by omega, rfl, by omega, ?_⟩)⟩
        rw [List.range_succ, List.map_append]
        simp only [List.map_cons, List.map_nil]
        rw [c1]; exact h'
  · rw [if_neg (by omega)] at k
    obtain ⟨a, b⟩ := n_flt (d := d + 1) hO (sg_F_r _ _) (by decide) e2
    exact k σ2 a b
theorem n_gather {L M : List vaF} {a : Int} (h : cO σ d L) (hM : (M.length : Int) = a) (hl : L.length + M.length ≤ 200) (ht : sg_g σ 45 7 = t + a) (t0 : 0 ≤ t ∧ t + a ≤ 3200) (hv : ∀ (i : Nat) (z : vaF), M[i]? = some z → cvF σ d z (sg_g σ 48 (t + i))) (k : ∀ σ', cO σ' d (L ++ M) → sg_g σ' 45 7 = t → sg_F [54, 8045, 22045] σ σ' → Q σ') : V_nGather σ a Q := by
  unfold V_nGather
  rw [ht, show t + a - a = t by omega]
  refine ⟨⟨by omega, by omega⟩, fun σ2 e2 => ?_⟩
  have f2 : sg_F [8045] σ σ2 := by rw [e2]; exact sg_F_w (sg_F_r _ _) rfl _
  have t2 : sg_g σ2 45 7 = t := by rw [e2, sg_gw_e _ _ _ _ ⟨by omega, by omega⟩]
  refine ⟨fun n v5 σ6 => ∃ i : Nat, v5 = i ∧ n = M.length - i ∧ i ≤ M.length ∧ cO σ6 d (L ++ M.take i), fun σ6 => cO σ6 d (L ++ M), ⟨_, 0, rfl, rfl, Nat.zero_le _, by rw [List.take_zero, List.append_nil]; exact cO_F h f2 rfl⟩, ?_, fun σ6 f6 h6 => k σ6 h6 (by rw [sg_F_g f6 (by rfl)]; exact t2) (sg_F_t (sg_F_m f2 rfl) (sg_F_m f6 rfl))⟩
  rintro n v5 σ6 r5 f6 ⟨i, rfl, en, hi, hc⟩
  refine ⟨fun z => ?_, fun z => ?_⟩
  · have : M.take i = M := List.take_of_length_le (by omega)
    rw [this] at hc; exact hc
  · obtain ⟨c, hcc⟩ := gE_x (l := M) (i := i) (by omega)
    have e48 : sx_at σ 48 3200 (t + i) = sg_g σ 48 (t + i) := xa_in ⟨by omega, by omega⟩
    have := n_add (x := sg_g σ 48 (t + i)) (Q := fun σ26 => sg_R ((i : Int) + 1) ∧ ∃ m, m < n ∧ ∃ i' : Nat, (i : Int) + 1 = i' ∧ m = M.length - i' ∧ i' ≤ M.length ∧ cO σ26 d (L ++ M.take i')) hc (by rw [List.length_append, List.length_take]; omega) (cvF_F (cvF_F (hv i c hcc) f2 rfl) f6 rfl) (sg_Rg _ _ _) (fun σ' h' f' => ⟨⟨by omega, by omega⟩, M.length - (i + 1), by omega, i + 1, by omega, rfl, by omega, by rw [tkF_1 hcc, ← List.append_assoc]; exact h'⟩)
    unfold V_nAdd at this
    rw [e48]
    exact ⟨⟨by omega, by omega⟩, this⟩
theorem n_row {M : List vaF} {a : Int} (hO : nO σ (t + a) w) (h21 : sg_g σ 45 21 = 0) (h9 : sg_g σ 45 9 = (d + 1 : Nat)) (hM : (M.length : Int) = a) (hl : M.length ≤ 200) (t0 : 0 ≤ t) (hv : ∀ (i : Nat) (z : vaF), M[i]? = some z → cvF σ d z (sg_g σ 48 (t + i))) (k : ∀ σ', sg_F ngL σ σ' → cR σ σ' (d + 1) t w (pyF (.inr (mkF M, cnL d M)) w) → Q σ') : V_nRow σ a Q := by
  obtain ⟨o1, o2, o3, o4, o5, o6, o7⟩ := id hO
  unfold V_nRow
  refine n_gather (L := []) (t := t) (cO_0 h21) hM (by simp only [List.length_nil]; omega) o2 ⟨t0, by omega⟩ hv (fun σ2 h2 t2 f2 _ => ?_)
  rw [List.nil_append] at h2
  have O2 : nO σ2 t w := ⟨by rw [sg_F_g f2 (by rfl)]; exact o1, t2, by rw [sg_F_g f2 (by rfl)]; exact o3, ⟨t0, by omega⟩, o5, by rw [sg_F_g f2 (by rfl)]; exact o6, by rw [sg_F_g f2 (by rfl)]; exact o7⟩
  exact n_give O2 (by rw [sg_F_g f2 (by rfl)]; exact h9) h2 (fun σ' f' r' _ => k σ' (sg_F_t (sg_F_m f2 rfl) (sg_F_m f' rfl)) (cR_F f2 rfl r'))
/-- sums of lengths -/
theorem ptF_l : ∀ (l : List vaF) (m : List Int), (ptF l m).length = m.length
  | _, [] => rfl
  | l, y :: m => by simp only [ptF, List.length_cons, ptF_l]
theorem pt_at : ∀ (m : List Int) (l : List vaF) (i : Nat) (z : Int), (∀ y ∈ m, 0 ≤ y) → m[i]? = some z → (ptF l m)[i]? = some (mkF ((l.drop (sumF (m.take i)).toNat).take z.toNat))
  | y :: m, l, 0, z, h0, h => by
    simp only [List.getElem?_cons_zero, Option.some.injEq] at h
    subst h
    simp [ptF, sumF]
  | y :: m, l, i + 1, z, h0, h => by
    simp only [List.getElem?_cons_succ] at h
    simp only [ptF, List.getElem?_cons_succ, List.take_succ_cons, sumF]
    rw [pt_at m (l.drop y.toNat) i z (fun q hq => h0 q (by simp [hq])) h, List.drop_drop]
    have y0 := h0 y (by simp)
    have s0 : 0 ≤ sumF (m.take i) := by
      have : ∀ k : List Int, (∀ q ∈ k, 0 ≤ q) → 0 ≤ sumF k := fun k => by
        induction k with
        | nil => intro _; exact Int.le_refl _
        | cons a r ih => intro hq; simp only [sumF]; have := hq a (by simp); have := ih (fun q hq' => hq q (by simp [hq'])); omega
      exact this _ (fun q hq => h0 q (by simp [List.mem_of_mem_take hq]))
    rw [show (y + sumF (m.take i)).toNat = y.toNat + (sumF (m.take i)).toNat by omega]
  | [], l, i, z, h0, h => by simp at h
theorem sm_0 : ∀ (k : List Int), (∀ q ∈ k, 0 ≤ q) → 0 ≤ sumF k
  | [], _ => Int.le_refl _
  | a :: r, h => by
    have := h a (by simp)
    have := sm_0 r (fun q hq => h q (by simp [hq]))
    simp only [sumF]; omega
theorem sm_t {m : List Int} (h : ∀ q ∈ m, 0 ≤ q) (i : Nat) : 0 ≤ sumF (m.take i) ∧ sumF (m.take i) ≤ sumF m := by
  have a := sm_0 (m.take i) (fun q hq => h q (List.mem_of_mem_take hq))
  have b := sm_0 (m.drop i) (fun q hq => h q (List.mem_of_mem_drop hq))
  have c := sumF_a (m.take i) (m.drop i)
  rw [List.take_append_drop] at c
  omega
theorem pt_cn (d : Nat) : ∀ (m : List Int) (l : List vaF), (∀ y ∈ m, 0 ≤ y) → sumF m = l.length → cnL (d + 1) (ptF l m) = m.length + cnL d l
  | [], l, h, hs => by
    simp only [sumF] at hs
    have : l = [] := List.eq_nil_of_length_eq_zero (by omega)
    subst this
    simp [ptF, cnL, sumF]
  | y :: m, l, h, hs => by
    have y0 := h y (by simp)
    have m0 := sm_0 m (fun q hq => h q (by simp [hq]))
    simp only [sumF] at hs
    have ih := pt_cn d m (l.drop y.toNat) (fun q hq => h q (by simp [hq])) (by rw [List.length_drop]; omega)
    have e1 : cnL (d + 1) (mkF (l.take y.toNat) :: ptF (l.drop y.toNat) m) = 1 + cnvF (d + 1) (mkF (l.take y.toNat)) + cnL (d + 1) (ptF (l.drop y.toNat) m) := by
      simp only [cnL, List.length_cons, List.map_cons, sumF]; omega
    have e2 : cnL d l = cnL d (l.take y.toNat) + cnL d (l.drop y.toNat) := by rw [← cnL_a, List.take_append_drop]
    simp only [ptF, List.length_cons]
    rw [e1, cnF_mk, ih, e2]
    omega
theorem tk_d {α : Type} {l : List α} {a i : Nat} {z : α} (h : l[a + i]? = some z) : (l.drop a).take (i + 1) = (l.drop a).take i ++ [z] := tkF_1 (by rw [List.getElem?_drop]; exact h)
theorem cn_tk {l : List vaF} {a i : Nat} {z : vaF} (h : l[a + i]? = some z) : sumF (((l.drop a).take (i + 1)).map (cnvF d)) = sumF (((l.drop a).take i).map (cnvF d)) + cnvF d z := by
  rw [tk_d h, List.map_append, sumF_a]; simp [sumF]
theorem cn_sub (l : List vaF) (a i : Nat) : cnL d ((l.drop a).take i) ≤ cnL d l := by
  have e1 : cnL d l = cnL d (l.take a) + cnL d (l.drop a) := by rw [← cnL_a, List.take_append_drop]
  have e2 : cnL d (l.drop a) = cnL d ((l.drop a).take i) + cnL d ((l.drop a).drop i) := by rw [← cnL_a, List.take_append_drop]
  have := cnL_l d (l.take a)
  have := cnL_l d ((l.drop a).drop i)
  omega
theorem cn_it (h : cvF σ (d + 1) v x) : cnL d (itF v) ≤ 3000 := h.2.2.1
theorem n_keepParts {a3 : Int} (hB : sg_g σ 45 20 + 3 * (itF u).length + (itF v).length + 2 ≤ 9003) (h20 : 0 ≤ sg_g σ 45 20) (h21 : sg_g σ 45 21 = 0) (ht : sg_g σ 45 7 = t) (t0 : 0 ≤ t ∧ t ≤ 3000) (ha3 : a3 = 0 ↔ d = 0) (hv : cvF σ (d + 1) v x) (hu : cvF σ 1 u y) (hn : ∀ q ∈ nuF u, 0 ≤ q) (hs : sumF (nuF u) = (itF v).length) (hc3 : cnL (d + 1) (ptF (itF v) (nuF u)) ≤ 3000) (k : ∀ σ', sg_F [48, 53, 54, 8045, 21045, 22045] σ σ' → cEx σ σ' → sg_g σ' 45 20 = sg_g σ 45 20 + 3 * (itF u).length + (itF v).length + 2 → sg_g σ' 45 21 = 0 → sg_g σ' 45 7 = t + 1 → (∀ i, i < t → sg_g σ' 48 i = sg_g σ 48 i) → cvF σ' (d + 2) (mkF (ptF (itF v) (nuF u))) (sg_g σ' 48 t) → Q σ') : V_nKeepParts σ x y a3 Q := by
  have hB' : sg_g σ 45 20 ≤ 9003 := by omega
  have l2 := (cv_x hv hB').2.2.1
  have l3 := (cv_x hu hB').2.2.1
  have cv3 := (cv_x hv hB').2.2.2
  have lu := nu_l u
  have cit := cn_it hv
  have pcn := pt_cn d (nuF u) (itF v) hn hs
  unfold V_nKeepParts
  rw [cv_len hB' hu]
  refine ⟨fun n v2 v3 σ4 => ∃ i : Nat, v3 = i ∧ n = (itF u).length - i ∧ i ≤ (itF u).length ∧ v2 = sumF ((nuF u).take i) ∧ cEx σ σ4 ∧ sg_g σ4 45 20 = sg_g σ 45 20 + 2 * i + v2 ∧ sg_g σ4 45 21 = 0 ∧ sg_g σ4 45 7 = t + i ∧ (∀ j, j < t → sg_g σ4 48 j = sg_g σ 48 j) ∧ ∀ (j : Nat) (z : vaF), j < i → (ptF (itF v) (nuF u))[j]? = some z → cvF σ4 (d + 1) z (sg_g σ4 48 (t + j)), fun σ4 => cEx σ σ4 ∧ sg_g σ4 45 20 = sg_g σ 45 20 + 2 * (itF u).length + (itF v).length ∧ sg_g σ4 45 21 = 0 ∧ sg_g σ4 45 7 = t + (itF u).length ∧ (∀ j, j < t → sg_g σ4 48 j = sg_g σ 48 j) ∧ ∀ (j : Nat) (z : vaF), (ptF (itF v) (nuF u))[j]? = some z → cvF σ4 (d + 1) z (sg_g σ4 48 (t + j)), ⟨_, 0, rfl, rfl, Nat.zero_le _, rfl, cEx_r _, by omega, h21, by omega, fun _ _ => rfl, fun j z hj => by omega⟩, ?_, ?_⟩
  · rintro n v2 v3 σ4 r2 r3 f4 ⟨i, rfl, en, hi, rfl, a1, a2, a3', a4, a5, a6⟩
    have st := sm_t hn i
    refine ⟨fun z => ?_, fun z => ?_⟩
    · have ei : i = (itF u).length := by omega
      have et : (nuF u).take i = nuF u := List.take_of_length_le (by omega)
      rw [et, hs] at a2
      refine ⟨a1, by rw [a2, ei], a3', by rw [a4, ei], a5, fun j c hj => a6 j c ?_ hj⟩
      have := gE_l hj
      rw [ptF_l] at this
      omega
    · have B4 : sg_g σ4 45 20 ≤ 9003 := by omega
      have u4 := cvF_up a1 hu
      have v4 := cvF_up a1 hv
      obtain ⟨p1, p2, p3⟩ := nu_at B4 u4 (i := i) (by omega)
      have n0 := hn _ (List.mem_of_getElem? p1)
      have st1 := sm_t hn (i + 1)
      rw [tkF_1 p1, sumF_a] at st1
      simp only [sumF] at st1
      generalize hit : v_nItemOf σ4 y (i : Int) = c at *
      refine ⟨p2, ⟨by omega, by omega⟩, ⟨by omega, by omega⟩, ?_⟩
      rw [show sumF ((nuF u).take i) + c - sumF ((nuF u).take i) = c by omega]
      generalize hfr : sumF ((nuF u).take i) = fr at *
      refine ⟨fun m v39 v40 σ41 => ∃ j : Nat, v40 = fr + j ∧ m = c.toNat - j ∧ j ≤ c.toNat ∧ v39 = c + sumF ((((itF v).drop fr.toNat).take j).map (cnvF d)) ∧ cO σ41 d (((itF v).drop fr.toNat).take j), fun v39 σ41 => v39 = cnL d (((itF v).drop fr.toNat).take c.toNat) ∧ cO σ41 d (((itF v).drop fr.toNat).take c.toNat), ⟨_, 0, by omega, rfl, Nat.zero_le _, by simp [sumF], cO_0 a3'⟩, ?_, ?_⟩
      · rintro m v39 v40 σ41 r39 r40 f41 ⟨j, e40, em, hj, e39, hc⟩
        refine ⟨fun z2 => ?_, fun z2 => ?_⟩
        · have ej : j = c.toNat := by omega
          subst ej
          refine ⟨?_, hc⟩
          unfold cnL
          rw [e39, List.length_take, List.length_drop]
          omega
        · obtain ⟨b, hb⟩ := gE_x (l := itF v) (i := fr.toNat + j) (by omega)
          obtain ⟨q1, q2, q3⟩ := cv_item B4 v4 hb
          rw [show ((fr.toNat + j : Nat) : Int) = v40 by omega] at q1 q2 q3
          have stp := cn_tk (d := d) hb
          have sub := cn_sub (d := d) (itF v) fr.toNat (j + 1)
          have sub0 := sum_0 d (((itF v).drop fr.toNat).take (j + 1))
          have sub1 := sum_0 d (((itF v).drop fr.toNat).take j)
          have cb0 := cnF_0 d b
          unfold cnL at sub cit
          have l1 : 0 ≤ ((((itF v).drop fr.toNat).take (j + 1)).length : Int) := Int.natCast_nonneg _
          refine ⟨q1, n_add hc (by rw [List.length_take]; omega) (cvF_F q3 f41 rfl) q2 (fun σ' h' f' _ => ⟨⟨fun _ => trivial, fun z3 => ?_⟩, fun v75 e75 r75 => ?_⟩)⟩
          · obtain ⟨d', rfl⟩ : ∃ d', d = d' + 1 := ⟨d - 1, by have := fun e => z3 (ha3.mpr e); omega⟩
            exact ⟨q1, (cv_cnt B4 q3).1, trivial⟩
          · have ev : v75 = cnvF d b := by
              rw [e75]
              by_cases d0 : d = 0
              · rw [if_pos (ha3.mpr d0)]; subst d0; rfl
              · rw [if_neg (fun q => d0 (ha3.mp q))]
                obtain ⟨d', rfl⟩ : ∃ d', d = d' + 1 := ⟨d - 1, by omega⟩
                exact (cv_cnt B4 q3).2
            refine ⟨⟨by omega, by omega⟩, ⟨by omega, by omega⟩, c.toNat - (j + 1), by omega, j + 1, by omega, rfl, by omega, by rw [stp, ev, e39]; omega, ?_⟩
            rw [tk_d hb]; exact h'
      · rintro v39 σ41 r39 f41 ⟨e39, hc⟩
        have sub := cn_sub (d := d) (itF v) fr.toNat c.toNat
        have ll : (((itF v).drop fr.toNat).take c.toNat).length = c.toNat := by rw [List.length_take, List.length_drop]; omega
        refine n_keep (hs := sg_g σ4 45 20) (t := t + i) hc e39 (by omega) (sg_F_g f41 (by rfl)) ⟨by omega, by rw [ll]; omega⟩ (by rw [sg_F_g f41 (by rfl)]; exact a4) ⟨by omega, by omega⟩ (fun σ' f' k1 k2 k3 k4 k5 k6 k7 _ => ⟨⟨by omega, by omega⟩, (itF u).length - (i + 1), by omega, i + 1, by omega, rfl, by omega, ?_, ?_, ?_, k3, by rw [k4]; omega, fun j hj => ?_, fun j b hj hb => ?_⟩)
        · rw [tkF_1 p1, sumF_a, hfr]; simp [sumF]
        · exact cEx_t a1 (cEx_t (cEx_F f41 rfl) k1)
        · rw [k2, ll]; omega
        · rw [k6 j (by omega), sg_F_ga f41 rfl]; exact a5 j hj
        · by_cases cj : j = i
          · subst cj
            have pa := pt_at (nuF u) (itF v) j c hn p1
            rw [hfr] at pa
            rw [pa] at hb
            rw [← Option.some.inj hb, k5]
            exact k7
          · rw [k6 _ (by omega), sg_F_ga f41 rfl]
            exact cvF_up (cEx_t (cEx_F f41 rfl) k1) (a6 j b (by omega) hb)
  · rintro σ4 f4 ⟨a1, a2, a3', a4, a5, a6⟩
    have B4 : sg_g σ4 45 20 ≤ 9003 := by omega
    have v4 := cvF_up a1 hv
    have cc := cv_cnt B4 v4
    have plen := ptF_l (itF v) (nuF u)
    refine n_gather (L := []) (M := ptF (itF v) (nuF u)) (t := t) (cO_0 a3') (by omega) (by simp only [List.length_nil]; omega) a4 ⟨t0.1, by omega⟩ a6 (fun σ20 h20' t20 f20 _ => ⟨cc.1, ?_, ?_⟩)
    · rw [cc.2]; exact ⟨by have := cnF_0 (d + 1) v; omega, by omega⟩
    · rw [List.nil_append] at h20'
      rw [cc.2]
      have e1 : cnvF (d + 1) v = cnL d (itF v) := rfl
      refine n_keep (hs := sg_g σ4 45 20) (t := t) h20' (by rw [e1]; omega) (by rw [e1]; omega) (sg_F_g f20 (by rfl)) ⟨by omega, by omega⟩ t20 ⟨t0.1, by omega⟩ (fun σ' f' k1 k2 k3 k4 k5 k6 k7 _ => k σ' (sg_F_t (sg_F_t f4 (sg_F_m f20 rfl)) (sg_F_m f' rfl)) (cEx_t a1 (cEx_t (cEx_F f20 rfl) k1)) (by rw [k2]; omega) k3 k4 (fun i hi => by rw [k6 i (by omega), sg_F_ga f20 rfl]; exact a5 i hi) (by rw [k5]; exact k7))
theorem an_t {m : List Int} {i : Nat} {z : Int} (h : m[i]? = some z) : (m.take (i + 1)).any (fun x => decide (x < 0)) = ((m.take i).any (fun x => decide (x < 0)) || decide (z < 0)) := by
  rw [tkF_1 h, List.any_append]; simp
theorem n_divide (hO : nO σ t w) (h21 : sg_g σ 45 21 = 0) (h9 : sg_g σ 45 9 = (d + 2 : Nat)) (hv : cvF σ (d + 1) v x) (hu : cvF σ 1 u y) (k : ∀ σ', sg_F ngL σ σ' → cR σ σ' (d + 2) t w (pyF (if (nuF u).any (fun x => decide (x < 0)) = true then .inl 5 else if sumF (nuF u) = (itF v).length then .inr (mkF (ptF (itF v) (nuF u)), cnL (d + 1) (ptF (itF v) (nuF u))) else .inl 3) w) → Q σ') : V_nDivide σ x y Q := by
  obtain ⟨o1, o2, o3, o4, o5, o6, o7⟩ := id hO
  have hB : sg_g σ 45 20 ≤ 9003 := by omega
  have l2 := (cv_x hv hB).2.2.1
  have l3 := (cv_x hu hB).2.2.1
  have cv3 := (cv_x hv hB).2.2.2
  have lu := nu_l u
  unfold V_nDivide
  rw [cv_len hB hv, cv_len hB hu]
  refine ⟨fun n v2 v3 v4 => ∃ i : Nat, v4 = i ∧ n = (itF u).length - i ∧ i ≤ (itF u).length ∧ v2 = sumF ((nuF u).take i) ∧ (v2 ≤ 2147483648 * i ∧ -2147483648 * (i : Int) ≤ v2) ∧ (v3 = if ((nuF u).take i).any (fun x => decide (x < 0)) = true then 1 else 0), fun v2 v3 => v2 = sumF (nuF u) ∧ v3 = (if (nuF u).any (fun x => decide (x < 0)) = true then 1 else 0), ⟨_, 0, rfl, rfl, Nat.zero_le _, rfl, ⟨by omega, by omega⟩, rfl⟩, ?_, ?_⟩
  · rintro n v2 v3 v4 r2 r3 r4 ⟨i, rfl, en, hi, e2, b2, e3⟩
    refine ⟨fun z => ?_, fun z => ?_⟩
    · have et : (nuF u).take i = nuF u := List.take_of_length_le (by omega)
      rw [et] at e2 e3
      exact ⟨e2, e3⟩
    · obtain ⟨p1, p2, p3⟩ := nu_at hB hu (i := i) (by omega)
      have p3' := p3.1
      have p3'' := p3.2
      refine ⟨⟨fun _ => trivial, fun _ => ⟨p2, fun _ => trivial, fun _ => trivial⟩⟩, fun v62 e62 r62 => ⟨p2, ⟨by omega, by omega⟩, ⟨by omega, by omega⟩, (itF u).length - (i + 1), by omega, i + 1, by omega, rfl, by omega, ?_, ⟨by omega, by omega⟩, ?_⟩⟩
      · rw [tkF_1 p1, sumF_a, e2]; simp [sumF]
      · rw [e62, an_t p1, e3]
        by_cases c : ((nuF u).take i).any (fun x => decide (x < 0)) = true
        · rw [c]; simp
        · rw [if_neg c]
          have cf : ((nuF u).take i).any (fun x => decide (x < 0)) = false := by simpa using c
          rw [cf, Bool.false_or, if_neg (fun q => q rfl)]
          by_cases c2 : 0 ≤ v_nItemOf σ y (i : Int)
          · rw [if_pos c2, if_neg (by simp; omega)]
          · rw [if_neg c2, if_pos (by simp; omega)]
  · rintro v2 v3 r2 r3 ⟨e2, e3⟩
    have flt : ∀ e σ', sg_R e ∧ ¬ e = 0 → σ' = sg_w σ 45 10 e → (if (nuF u).any (fun x => decide (x < 0)) = true then (.inl 5 : Int ⊕ (vaF × Int)) else if sumF (nuF u) = (itF v).length then .inr (mkF (ptF (itF v) (nuF u)), cnL (d + 1) (ptF (itF v) (nuF u))) else .inl 3) = .inl e → Q σ' := fun e σ' he e' h => by
      rw [h] at k
      obtain ⟨a, b⟩ := n_flt (d := d + 2) hO (sg_F_r _ _) he e'
      exact k σ' a b
    by_cases c : (nuF u).any (fun x => decide (x < 0)) = true
    · rw [if_pos c] at e3
      subst e3
      exact ⟨fun _ => ⟨fun q => absurd q (by decide), fun _ σ26 e26 => flt 5 σ26 (by decide) e26 (by rw [if_pos c])⟩, fun q => absurd q (by decide)⟩
    · rw [if_neg c] at e3
      subst e3
      refine ⟨fun q => absurd rfl q, fun _ => ⟨fun z => ?_, fun z => ⟨fun _ σ53 e53 => flt 3 σ53 (by decide) e53 (by rw [if_neg c, if_neg (by rw [← e2]; exact z)]), fun q => absurd rfl q⟩⟩⟩
      have hs : sumF (nuF u) = (itF v).length := by rw [← e2]; exact z
      rw [if_neg c, if_pos hs] at k
      have hn : ∀ q ∈ nuF u, 0 ≤ q := fun q hq => by
        rcases Int.lt_or_le q 0 with h | h
        · exact absurd (List.any_eq_true.mpr ⟨q, hq, by simpa using h⟩) c
        · exact h
      have pcn := pt_cn d (nuF u) (itF v) hn hs
      have cc := cv_cnt hB hv
      have e1 : cnvF (d + 1) v = cnL d (itF v) := rfl
      have cl := cnL_l d (itF v)
      rw [cc.2]
      refine ⟨cc.1, ⟨by omega, by omega⟩, ?_⟩
      unfold V_nSpend
      rw [o3]
      refine ⟨⟨by omega, by omega⟩, fun z2 σ3 e3 _ f3 => ⟨fun q => absurd q (by decide), fun _ v43 e43 r43 => ?_⟩, fun z2 σ6 e6 _ f6 => ⟨fun _ => ?_, fun q => absurd rfl q⟩⟩
      · have f3' : sg_F [23045] σ σ3 := by rw [e3]; exact sg_F_w (sg_F_r _ _) rfl _
        refine n_keepParts (t := t) (d := d) (v := v) (u := u) (by rw [sg_F_g f3' (by rfl)]; omega) (by rw [sg_F_g f3' (by rfl)]; exact o6) (by rw [sg_F_g f3' (by rfl)]; exact h21) (by rw [sg_F_g f3' (by rfl)]; exact o2) o4 ?_ (cvF_F hv f3' rfl) (cvF_F hu f3' rfl) hn hs (by omega) (fun σ' f' k1 k2 k3 k4 k5 k6 _ => k σ' (sg_F_t (sg_F_m f3' rfl) (sg_F_m f' rfl)) ?_)
        · rw [e43, h9]
          by_cases d0 : d = 0
          · subst d0; exact ⟨fun _ => rfl, fun _ => rfl⟩
          · rw [if_neg (by omega)]; exact ⟨fun q => absurd q (by decide), fun q => absurd q d0⟩
        · unfold pyF
          simp only
          rw [if_pos (by omega)]
          refine ⟨by rw [sg_F_g f' (by rfl), sg_F_g f3' (by rfl)]; exact o1, by rw [sg_F_g f' (by rfl), e3, sg_gw_e _ _ _ _ ⟨by omega, by omega⟩]; omega, ⟨by omega, by omega⟩, k4, k3, cEx_t (cEx_F f3' rfl) k1, by rw [k2, sg_F_g f3' (by rfl)]; omega, k6, fun i hi => by rw [k5 i hi, sg_F_ga f3' rfl]⟩
      · have f6' : sg_F [11045] σ σ6 := by rw [e6]; exact sg_F_w (sg_F_r _ _) rfl _
        refine k σ6 (sg_F_m f6' rfl) ?_
        unfold pyF
        simp only
        rw [if_neg (by omega)]
        exact ⟨by rw [e6, sg_gw_e _ _ _ _ (by decide)], by decide, by rw [sg_F_g f6' (by rfl)]; exact o3⟩
end NPR
/-! THE NESTED RUN, turn by turn. -/
def nStp (σ σ8 σ32 : sg_S) (P35 : sg_S → Prop) : Prop := (((sx_at σ 29 1013 ((sg_g σ8 45 8))) = 0 → V_nBegin σ32 ((sx_at σ 30 1013 ((sg_g σ8 45 8)))) (fun σ45 => sg_F [11045, 23045, 24045] σ32 σ45 → P35 σ45)) ∧ (¬ (sx_at σ 29 1013 ((sg_g σ8 45 8))) = 0 → (((sx_at σ 29 1013 ((sg_g σ8 45 8))) = 1 → V_mnFinish σ32 ((sx_at σ 30 1013 ((sg_g σ8 45 8)))) (fun σ53 => sg_F [48, 53, 54, 8045, 10045, 11045, 21045, 22045, 23045] σ32 σ53 → P35 σ53)) ∧ (¬ (sx_at σ 29 1013 ((sg_g σ8 45 8))) = 1 → (((sx_at σ 29 1013 ((sg_g σ8 45 8))) = 2 → V_mnFinishOne σ32 ((sx_at σ 30 1013 ((sg_g σ8 45 8)))) (fun σ61 => sg_F [48, 53, 54, 8045, 10045, 11045, 21045, 22045, 23045] σ32 σ61 → P35 σ61)) ∧ (¬ (sx_at σ 29 1013 ((sg_g σ8 45 8))) = 2 → (((sx_at σ 29 1013 ((sg_g σ8 45 8))) = 3 → V_mnFinishTwo σ32 ((sx_at σ 30 1013 ((sg_g σ8 45 8)))) (fun σ69 => sg_F [48, 53, 54, 55, 8045, 10045, 11045, 21045, 22045, 23045] σ32 σ69 → P35 σ69)) ∧ (¬ (sx_at σ 29 1013 ((sg_g σ8 45 8))) = 3 → (((sx_at σ 29 1013 ((sg_g σ8 45 8))) = 4 → V_mnPop σ32  (fun q76 σ77 => sg_R q76 → sg_F [8045] σ32 σ77 → ∀ σ82, σ82 = (sx_put σ77 46 272 ((sx_at σ 16 200 ((sx_at σ 30 1013 ((sg_g σ8 45 8)))))) (q76)) → P35 σ82)) ∧ (¬ (sx_at σ 29 1013 ((sg_g σ8 45 8))) = 4 → (((sx_at σ 29 1013 ((sg_g σ8 45 8))) = 5 → V_mnEnter σ32 ((sx_at σ 16 200 ((sx_at σ 30 1013 ((sg_g σ8 45 8)))))) (fun σ88 => sg_F [46, 47, 8045, 9045] σ32 σ88 → P35 σ88)) ∧ (¬ (sx_at σ 29 1013 ((sg_g σ8 45 8))) = 5 → (((sx_at σ 29 1013 ((sg_g σ8 45 8))) = 6 → ∀ σ95, σ95 = (sg_w σ32 45 8 ((sx_at σ8 47 13 ((sx_at σ 30 1013 ((sg_g σ8 45 8))))))) → P35 σ95) ∧ (¬ (sx_at σ 29 1013 ((sg_g σ8 45 8))) = 6 → (((sx_at σ 29 1013 ((sg_g σ8 45 8))) = 7 → V_nFork σ32 ((sx_at σ 30 1013 ((sg_g σ8 45 8)))) (fun σ101 => sg_F [8045, 9045] σ32 σ101 → P35 σ101)) ∧ (¬ (sx_at σ 29 1013 ((sg_g σ8 45 8))) = 7 → (((sx_at σ 29 1013 ((sg_g σ8 45 8))) = 8 → V_nTurn σ32 ((sx_at σ 30 1013 ((sg_g σ8 45 8)))) (fun σ109 => sg_F [9045] σ32 σ109 → P35 σ109)) ∧ (¬ (sx_at σ 29 1013 ((sg_g σ8 45 8))) = 8 → (((sx_at σ 29 1013 ((sg_g σ8 45 8))) = 9 → V_nJoin σ32 ((sx_at σ 30 1013 ((sg_g σ8 45 8)))) (fun σ117 => sg_F [] σ32 σ117 → P35 σ117)) ∧ (¬ (sx_at σ 29 1013 ((sg_g σ8 45 8))) = 9 → (((sx_at σ 29 1013 ((sg_g σ8 45 8))) = 10 → V_nOpen σ32 ((sx_at σ 30 1013 ((sg_g σ8 45 8)))) (fun σ125 => sg_F [46, 56, 57, 58, 59, 60, 9045, 11045, 24045] σ32 σ125 → P35 σ125)) ∧ (¬ (sx_at σ 29 1013 ((sg_g σ8 45 8))) = 10 → (((sx_at σ 29 1013 ((sg_g σ8 45 8))) = 11 → V_nSift σ32 ((sx_at σ 30 1013 ((sg_g σ8 45 8)))) (fun σ133 => sg_F [46, 57, 60, 8045, 9045, 24045] σ32 σ133 → P35 σ133)) ∧ (¬ (sx_at σ 29 1013 ((sg_g σ8 45 8))) = 11 → V_nNext σ32 ((sx_at σ 30 1013 ((sg_g σ8 45 8)))) (fun σ139 => sg_F [46, 57, 60, 9045, 24045] σ32 σ139 → P35 σ139)))))))))))))))))))))))))
def Rn (σ : sg_S) (X : sg_S → Prop) : Nat → sg_S → Prop
  | 0, σ8 => X σ8
  | n + 1, σ8 => (sg_g σ8 45 8 < 0 → X σ8) ∧ (¬ sg_g σ8 45 10 = 0 → X σ8) ∧ (0 ≤ sg_g σ8 45 8 → sg_g σ8 45 10 = 0 → sg_R (sg_g σ8 45 8 + 1) ∧ ∀ σ32, σ32 = (sg_w σ8 45 8 (((sg_g σ8 45 8) + 1))) → nStp σ σ8 σ32 (Rn σ X n))
theorem rn_s {σ σ8 : sg_S} {X : sg_S → Prop} {m : Nat} (h : ¬ sg_g σ8 45 10 = 0) (hX : X σ8) : Rn σ X m σ8 := by
  cases m with
  | zero => exact hX
  | succ m => exact ⟨fun _ => hX, fun _ => hX, fun _ z => absurd z h⟩
theorem rn_e {σ σ8 : sg_S} {X : sg_S → Prop} {m : Nat} (h : sg_g σ8 45 8 < 0) (hX : X σ8) : Rn σ X m σ8 := by
  cases m with
  | zero => exact hX
  | succ m => exact ⟨fun _ => hX, fun _ => hX, fun z _ => absurd z (by omega)⟩
theorem rn_0 {σ σ8 : sg_S} {X : sg_S → Prop} {m : Nat} {p k : Int} (hp : sg_g σ8 45 8 = p) (h0 : 0 ≤ p ∧ p < 1013) (hz : sg_g σ8 45 10 = 0) (h29 : sg_g σ 29 p = 0) (h30 : sg_g σ 30 p = k) (h : ∀ σ32, σ32 = sg_w σ8 45 8 (p + 1) → V_nBegin σ32 (k) (fun σ45 => sg_F [11045, 23045, 24045] σ32 σ45 → (Rn σ X m) σ45)) : Rn σ X (m + 1) σ8 := by
  refine ⟨fun z => by omega, fun z => absurd hz z, fun _ _ => ?_⟩
  refine ⟨⟨by omega, by omega⟩, fun σ32 e32 => ?_⟩
  unfold nStp
  rw [hp] at e32 ⊢
  rw [xa_in (a := 29) h0, xa_in (a := 30) h0, h29, h30]
  exact ⟨fun _ => h σ32 e32, fun z => absurd rfl z⟩
theorem rn_1 {σ σ8 : sg_S} {X : sg_S → Prop} {m : Nat} {p k : Int} (hp : sg_g σ8 45 8 = p) (h0 : 0 ≤ p ∧ p < 1013) (hz : sg_g σ8 45 10 = 0) (h29 : sg_g σ 29 p = 1) (h30 : sg_g σ 30 p = k) (h : ∀ σ32, σ32 = sg_w σ8 45 8 (p + 1) → V_mnFinish σ32 (k) (fun σ53 => sg_F [48, 53, 54, 8045, 10045, 11045, 21045, 22045, 23045] σ32 σ53 → (Rn σ X m) σ53)) : Rn σ X (m + 1) σ8 := by
  refine ⟨fun z => by omega, fun z => absurd hz z, fun _ _ => ?_⟩
  refine ⟨⟨by omega, by omega⟩, fun σ32 e32 => ?_⟩
  unfold nStp
  rw [hp] at e32 ⊢
  rw [xa_in (a := 29) h0, xa_in (a := 30) h0, h29, h30]
  exact ⟨fun z => absurd z (by decide), fun _ => ⟨fun _ => h σ32 e32, fun z => absurd rfl z⟩⟩
theorem rn_2 {σ σ8 : sg_S} {X : sg_S → Prop} {m : Nat} {p k : Int} (hp : sg_g σ8 45 8 = p) (h0 : 0 ≤ p ∧ p < 1013) (hz : sg_g σ8 45 10 = 0) (h29 : sg_g σ 29 p = 2) (h30 : sg_g σ 30 p = k) (h : ∀ σ32, σ32 = sg_w σ8 45 8 (p + 1) → V_mnFinishOne σ32 (k) (fun σ61 => sg_F [48, 53, 54, 8045, 10045, 11045, 21045, 22045, 23045] σ32 σ61 → (Rn σ X m) σ61)) : Rn σ X (m + 1) σ8 := by
  refine ⟨fun z => by omega, fun z => absurd hz z, fun _ _ => ?_⟩
  refine ⟨⟨by omega, by omega⟩, fun σ32 e32 => ?_⟩
  unfold nStp
  rw [hp] at e32 ⊢
  rw [xa_in (a := 29) h0, xa_in (a := 30) h0, h29, h30]
  exact ⟨fun z => absurd z (by decide), fun _ => ⟨fun z => absurd z (by decide), fun _ => ⟨fun _ => h σ32 e32, fun z => absurd rfl z⟩⟩⟩
theorem rn_3 {σ σ8 : sg_S} {X : sg_S → Prop} {m : Nat} {p k : Int} (hp : sg_g σ8 45 8 = p) (h0 : 0 ≤ p ∧ p < 1013) (hz : sg_g σ8 45 10 = 0) (h29 : sg_g σ 29 p = 3) (h30 : sg_g σ 30 p = k) (h : ∀ σ32, σ32 = sg_w σ8 45 8 (p + 1) → V_mnFinishTwo σ32 (k) (fun σ69 => sg_F [48, 53, 54, 55, 8045, 10045, 11045, 21045, 22045, 23045] σ32 σ69 → (Rn σ X m) σ69)) : Rn σ X (m + 1) σ8 := by
  refine ⟨fun z => by omega, fun z => absurd hz z, fun _ _ => ?_⟩
  refine ⟨⟨by omega, by omega⟩, fun σ32 e32 => ?_⟩
  unfold nStp
  rw [hp] at e32 ⊢
  rw [xa_in (a := 29) h0, xa_in (a := 30) h0, h29, h30]
  exact ⟨fun z => absurd z (by decide), fun _ => ⟨fun z => absurd z (by decide), fun _ => ⟨fun z => absurd z (by decide), fun _ => ⟨fun _ => h σ32 e32, fun z => absurd rfl z⟩⟩⟩⟩
theorem rn_4 {σ σ8 : sg_S} {X : sg_S → Prop} {m : Nat} {p k : Int} (hp : sg_g σ8 45 8 = p) (h0 : 0 ≤ p ∧ p < 1013) (hz : sg_g σ8 45 10 = 0) (h29 : sg_g σ 29 p = 4) (h30 : sg_g σ 30 p = k) (h : ∀ σ32, σ32 = sg_w σ8 45 8 (p + 1) → V_mnPop σ32  (fun q76 σ77 => sg_R q76 → sg_F [8045] σ32 σ77 → ∀ σ82, σ82 = (sx_put σ77 46 272 ((sx_at σ 16 200 (k))) (q76)) → (Rn σ X m) σ82)) : Rn σ X (m + 1) σ8 := by
  refine ⟨fun z => by omega, fun z => absurd hz z, fun _ _ => ?_⟩
  refine ⟨⟨by omega, by omega⟩, fun σ32 e32 => ?_⟩
  unfold nStp
  rw [hp] at e32 ⊢
  rw [xa_in (a := 29) h0, xa_in (a := 30) h0, h29, h30]
  exact ⟨fun z => absurd z (by decide), fun _ => ⟨fun z => absurd z (by decide), fun _ => ⟨fun z => absurd z (by decide), fun _ => ⟨fun z => absurd z (by decide), fun _ => ⟨fun _ => h σ32 e32, fun z => absurd rfl z⟩⟩⟩⟩⟩
theorem rn_5 {σ σ8 : sg_S} {X : sg_S → Prop} {m : Nat} {p k : Int} (hp : sg_g σ8 45 8 = p) (h0 : 0 ≤ p ∧ p < 1013) (hz : sg_g σ8 45 10 = 0) (h29 : sg_g σ 29 p = 5) (h30 : sg_g σ 30 p = k) (h : ∀ σ32, σ32 = sg_w σ8 45 8 (p + 1) → V_mnEnter σ32 ((sx_at σ 16 200 (k))) (fun σ88 => sg_F [46, 47, 8045, 9045] σ32 σ88 → (Rn σ X m) σ88)) : Rn σ X (m + 1) σ8 := by
  refine ⟨fun z => by omega, fun z => absurd hz z, fun _ _ => ?_⟩
  refine ⟨⟨by omega, by omega⟩, fun σ32 e32 => ?_⟩
  unfold nStp
  rw [hp] at e32 ⊢
  rw [xa_in (a := 29) h0, xa_in (a := 30) h0, h29, h30]
  exact ⟨fun z => absurd z (by decide), fun _ => ⟨fun z => absurd z (by decide), fun _ => ⟨fun z => absurd z (by decide), fun _ => ⟨fun z => absurd z (by decide), fun _ => ⟨fun z => absurd z (by decide), fun _ => ⟨fun _ => h σ32 e32, fun z => absurd rfl z⟩⟩⟩⟩⟩⟩
theorem rn_6 {σ σ8 : sg_S} {X : sg_S → Prop} {m : Nat} {p k : Int} (hp : sg_g σ8 45 8 = p) (h0 : 0 ≤ p ∧ p < 1013) (hz : sg_g σ8 45 10 = 0) (h29 : sg_g σ 29 p = 6) (h30 : sg_g σ 30 p = k) (h : ∀ σ32, σ32 = sg_w σ8 45 8 (p + 1) → ∀ σ95, σ95 = (sg_w σ32 45 8 ((sx_at σ8 47 13 (k)))) → (Rn σ X m) σ95) : Rn σ X (m + 1) σ8 := by
  refine ⟨fun z => by omega, fun z => absurd hz z, fun _ _ => ?_⟩
  refine ⟨⟨by omega, by omega⟩, fun σ32 e32 => ?_⟩
  unfold nStp
  rw [hp] at e32 ⊢
  rw [xa_in (a := 29) h0, xa_in (a := 30) h0, h29, h30]
  exact ⟨fun z => absurd z (by decide), fun _ => ⟨fun z => absurd z (by decide), fun _ => ⟨fun z => absurd z (by decide), fun _ => ⟨fun z => absurd z (by decide), fun _ => ⟨fun z => absurd z (by decide), fun _ => ⟨fun z => absurd z (by decide), fun _ => ⟨fun _ => h σ32 e32, fun z => absurd rfl z⟩⟩⟩⟩⟩⟩⟩
theorem rn_7 {σ σ8 : sg_S} {X : sg_S → Prop} {m : Nat} {p k : Int} (hp : sg_g σ8 45 8 = p) (h0 : 0 ≤ p ∧ p < 1013) (hz : sg_g σ8 45 10 = 0) (h29 : sg_g σ 29 p = 7) (h30 : sg_g σ 30 p = k) (h : ∀ σ32, σ32 = sg_w σ8 45 8 (p + 1) → V_nFork σ32 (k) (fun σ101 => sg_F [8045, 9045] σ32 σ101 → (Rn σ X m) σ101)) : Rn σ X (m + 1) σ8 := by
  refine ⟨fun z => by omega, fun z => absurd hz z, fun _ _ => ?_⟩
  refine ⟨⟨by omega, by omega⟩, fun σ32 e32 => ?_⟩
  unfold nStp
  rw [hp] at e32 ⊢
  rw [xa_in (a := 29) h0, xa_in (a := 30) h0, h29, h30]
  exact ⟨fun z => absurd z (by decide), fun _ => ⟨fun z => absurd z (by decide), fun _ => ⟨fun z => absurd z (by decide), fun _ => ⟨fun z => absurd z (by decide), fun _ => ⟨fun z => absurd z (by decide), fun _ => ⟨fun z => absurd z (by decide), fun _ => ⟨fun z => absurd z (by decide), fun _ => ⟨fun _ => h σ32 e32, fun z => absurd rfl z⟩⟩⟩⟩⟩⟩⟩⟩
theorem rn_8 {σ σ8 : sg_S} {X : sg_S → Prop} {m : Nat} {p k : Int} (hp : sg_g σ8 45 8 = p) (h0 : 0 ≤ p ∧ p < 1013) (hz : sg_g σ8 45 10 = 0) (h29 : sg_g σ 29 p = 8) (h30 : sg_g σ 30 p = k) (h : ∀ σ32, σ32 = sg_w σ8 45 8 (p + 1) → V_nTurn σ32 (k) (fun σ109 => sg_F [9045] σ32 σ109 → (Rn σ X m) σ109)) : Rn σ X (m + 1) σ8 := by
  refine ⟨fun z => by omega, fun z => absurd hz z, fun _ _ => ?_⟩
  refine ⟨⟨by omega, by omega⟩, fun σ32 e32 => ?_⟩
  unfold nStp
  rw [hp] at e32 ⊢
  rw [xa_in (a := 29) h0, xa_in (a := 30) h0, h29, h30]
  exact ⟨fun z => absurd z (by decide), fun _ => ⟨fun z => absurd z (by decide), fun _ => ⟨fun z => absurd z (by decide), fun _ => ⟨fun z => absurd z (by decide), fun _ => ⟨fun z => absurd z (by decide), fun _ => ⟨fun z => absurd z (by decide), fun _ => ⟨fun z => absurd z (by decide), fun _ => ⟨fun z => absurd z (by decide), fun _ => ⟨fun _ => h σ32 e32, fun z => absurd rfl z⟩⟩⟩⟩⟩⟩⟩⟩⟩
theorem rn_9 {σ σ8 : sg_S} {X : sg_S → Prop} {m : Nat} {p k : Int} (hp : sg_g σ8 45 8 = p) (h0 : 0 ≤ p ∧ p < 1013) (hz : sg_g σ8 45 10 = 0) (h29 : sg_g σ 29 p = 9) (h30 : sg_g σ 30 p = k) (h : ∀ σ32, σ32 = sg_w σ8 45 8 (p + 1) → V_nJoin σ32 (k) (fun σ117 => sg_F [] σ32 σ117 → (Rn σ X m) σ117)) : Rn σ X (m + 1) σ8 := by
  refine ⟨fun z => by omega, fun z => absurd hz z, fun _ _ => ?_⟩
  refine ⟨⟨by omega, by omega⟩, fun σ32 e32 => ?_⟩
  unfold nStp
  rw [hp] at e32 ⊢
  rw [xa_in (a := 29) h0, xa_in (a := 30) h0, h29, h30]
  exact ⟨fun z => absurd z (by decide), fun _ => ⟨fun z => absurd z (by decide), fun _ => ⟨fun z => absurd z (by decide), fun _ => ⟨fun z => absurd z (by decide), fun _ => ⟨fun z => absurd z (by decide), fun _ => ⟨fun z => absurd z (by decide), fun _ => ⟨fun z => absurd z (by decide), fun _ => ⟨fun z => absurd z (by decide), fun _ => ⟨fun z => absurd z (by decide), fun _ => ⟨fun _ => h σ32 e32, fun z => absurd rfl z⟩⟩⟩⟩⟩⟩⟩⟩⟩⟩
theorem rn_10 {σ σ8 : sg_S} {X : sg_S → Prop} {m : Nat} {p k : Int} (hp : sg_g σ8 45 8 = p) (h0 : 0 ≤ p ∧ p < 1013) (hz : sg_g σ8 45 10 = 0) (h29 : sg_g σ 29 p = 10) (h30 : sg_g σ 30 p = k) (h : ∀ σ32, σ32 = sg_w σ8 45 8 (p + 1) → V_nOpen σ32 (k) (fun σ125 => sg_F [46, 56, 57, 58, 59, 60, 9045, 11045, 24045] σ32 σ125 → (Rn σ X m) σ125)) : Rn σ X (m + 1) σ8 := by
  refine ⟨fun z => by omega, fun z => absurd hz z, fun _ _ => ?_⟩
  refine ⟨⟨by omega, by omega⟩, fun σ32 e32 => ?_⟩
  unfold nStp
  rw [hp] at e32 ⊢
  rw [xa_in (a := 29) h0, xa_in (a := 30) h0, h29, h30]
  exact ⟨fun z => absurd z (by decide), fun _ => ⟨fun z => absurd z (by decide), fun _ => ⟨fun z => absurd z (by decide), fun _ => ⟨fun z => absurd z (by decide), fun _ => ⟨fun z => absurd z (by decide), fun _ => ⟨fun z => absurd z (by decide), fun _ => ⟨fun z => absurd z (by decide), fun _ => ⟨fun z => absurd z (by decide), fun _ => ⟨fun z => absurd z (by decide), fun _ => ⟨fun z => absurd z (by decide), fun _ => ⟨fun _ => h σ32 e32, fun z => absurd rfl z⟩⟩⟩⟩⟩⟩⟩⟩⟩⟩⟩
theorem rn_11 {σ σ8 : sg_S} {X : sg_S → Prop} {m : Nat} {p k : Int} (hp : sg_g σ8 45 8 = p) (h0 : 0 ≤ p ∧ p < 1013) (hz : sg_g σ8 45 10 = 0) (h29 : sg_g σ 29 p = 11) (h30 : sg_g σ 30 p = k) (h : ∀ σ32, σ32 = sg_w σ8 45 8 (p + 1) → V_nSift σ32 (k) (fun σ133 => sg_F [46, 57, 60, 8045, 9045, 24045] σ32 σ133 → (Rn σ X m) σ133)) : Rn σ X (m + 1) σ8 := by
  refine ⟨fun z => by omega, fun z => absurd hz z, fun _ _ => ?_⟩
  refine ⟨⟨by omega, by omega⟩, fun σ32 e32 => ?_⟩
  unfold nStp
  rw [hp] at e32 ⊢
  rw [xa_in (a := 29) h0, xa_in (a := 30) h0, h29, h30]
  exact ⟨fun z => absurd z (by decide), fun _ => ⟨fun z => absurd z (by decide), fun _ => ⟨fun z => absurd z (by decide), fun _ => ⟨fun z => absurd z (by decide), fun _ => ⟨fun z => absurd z (by decide), fun _ => ⟨fun z => absurd z (by decide), fun _ => ⟨fun z => absurd z (by decide), fun _ => ⟨fun z => absurd z (by decide), fun _ => ⟨fun z => absurd z (by decide), fun _ => ⟨fun z => absurd z (by decide), fun _ => ⟨fun z => absurd z (by decide), fun _ => ⟨fun _ => h σ32 e32, fun z => absurd rfl z⟩⟩⟩⟩⟩⟩⟩⟩⟩⟩⟩⟩
theorem rn_12 {σ σ8 : sg_S} {X : sg_S → Prop} {m : Nat} {p k : Int} (hp : sg_g σ8 45 8 = p) (h0 : 0 ≤ p ∧ p < 1013) (hz : sg_g σ8 45 10 = 0) (h29 : sg_g σ 29 p = 12) (h30 : sg_g σ 30 p = k) (h : ∀ σ32, σ32 = sg_w σ8 45 8 (p + 1) → V_nNext σ32 (k) (fun σ139 => sg_F [46, 57, 60, 9045, 24045] σ32 σ139 → (Rn σ X m) σ139)) : Rn σ X (m + 1) σ8 := by
  refine ⟨fun z => by omega, fun z => absurd hz z, fun _ _ => ?_⟩
  refine ⟨⟨by omega, by omega⟩, fun σ32 e32 => ?_⟩
  unfold nStp
  rw [hp] at e32 ⊢
  rw [xa_in (a := 29) h0, xa_in (a := 30) h0, h29, h30]
  exact ⟨fun z => absurd z (by decide), fun _ => ⟨fun z => absurd z (by decide), fun _ => ⟨fun z => absurd z (by decide), fun _ => ⟨fun z => absurd z (by decide), fun _ => ⟨fun z => absurd z (by decide), fun _ => ⟨fun z => absurd z (by decide), fun _ => ⟨fun z => absurd z (by decide), fun _ => ⟨fun z => absurd z (by decide), fun _ => ⟨fun z => absurd z (by decide), fun _ => ⟨fun z => absurd z (by decide), fun _ => ⟨fun z => absurd z (by decide), fun _ => ⟨fun z => absurd z (by decide), fun _ => h σ32 e32⟩⟩⟩⟩⟩⟩⟩⟩⟩⟩⟩⟩
/-! finish, finishOne, finishTwo of the nested run. -/
abbrev nfL : List Nat := 10045 :: ngL
section NFN
variable {σ : sg_S} {Q : sg_S → Prop} {n k ta tb ty t w x : Int} {u v : vaF}
theorem cv_s {d : Nat} {k : Int} {y : Int} (h : cvF σ k.toNat v y) (hd : k = d) : cvF σ d v y := by subst hd; exact h
theorem nO_d {σ2 σ7 : sg_S} {t' d : Int} (h : nO σ t' w) (f2 : sg_F [8045] σ σ2) (t2 : sg_g σ2 45 7 = t) (ht : 0 ≤ t ∧ t ≤ t') (e7 : σ7 = sg_w σ2 45 9 d) : nO σ7 t w ∧ sg_F [8045, 10045] σ σ7 := by
  have f7 : sg_F [10045] σ2 σ7 := by rw [e7]; exact sg_F_w (sg_F_r _ _) rfl _
  have F7 : sg_F [8045, 10045] σ σ7 := sg_F_t (sg_F_m f2 rfl) (sg_F_m f7 rfl)
  obtain ⟨o1, o2, o3, o4, o5, o6, o7⟩ := h
  refine ⟨⟨by rw [sg_F_g F7 (by rfl)]; exact o1, by rw [sg_F_g f7 (by rfl)]; exact t2, by rw [sg_F_g F7 (by rfl)]; exact o3, ⟨ht.1, by omega⟩, o5, by rw [sg_F_g F7 (by rfl)]; exact o6, by rw [sg_F_g F7 (by rfl)]; exact o7⟩, F7⟩
theorem nf_one (hn : 0 ≤ n ∧ n < 200) (hO : nO σ (t + 1) w) (t0 : 0 ≤ t) (h21 : sg_g σ 45 21 = 0) (h3 : sg_g σ 3 n = kmp k) (h6 : sg_g σ 6 n = ty) (hty : ty ≤ 3) (hta : 0 ≤ ta ∧ ta ≤ 3) (hv : cvF σ ta.toNat v (sg_g σ 48 t)) (ho : op1 k ta ty) (kk : ∀ σ', sg_F nfL σ σ' → cR σ σ' ty.toNat t w (pyF (eO k ty x [v]) w) → Q σ') : V_mnFinishOne σ n Q := by
  have o4 := hO.2.2.2.1
  unfold V_mnFinishOne
  rw [xa_in (a := 6) hn, xa_in (a := 3) hn, h6, h3]
  refine n_pop (t := t) hO.2.1 ⟨t0, by omega⟩ (fun σ2 f2 t2 rx _ _ σ7 e7 => ?_)
  obtain ⟨O7, F7⟩ := nO_d (t := t) hO f2 t2 ⟨t0, by omega⟩ e7
  have z21 : sg_g σ7 45 21 = 0 := by rw [sg_F_g F7 (by rfl)]; exact h21
  have d9 : ∀ d : Nat, ty = d → sg_g σ7 45 9 = d := fun d hd => by rw [e7, sg_gw_e _ _ _ _ ⟨by omega, by omega⟩]; exact hd
  have vv : ∀ d : Nat, ta = d → cvF σ7 d v (sg_g σ 48 t) := fun d hd => cvF_F (cv_s hv hd) F7 rfl
  have fin : ∀ (d : Nat) (r : Int ⊕ (vaF × Int)) (σ' : sg_S), ty = d → eO k ty x [v] = r → sg_F ngL σ7 σ' → cR σ7 σ' d t w (pyF r w) → Q σ' := fun d r σ' hd he f' r' => by
    refine kk σ' (sg_F_t (sg_F_m F7 rfl) (sg_F_m f' rfl)) ?_
    rw [he, hd, Int.toNat_natCast]
    exact cR_F F7 rfl r'
  rcases ho with ⟨e, q1, q2⟩ | ⟨e, q1, q2⟩ | ⟨e, q1, q2⟩ | ⟨e, q1, q2⟩ | ⟨e, q1, q2⟩ | ⟨e, q1, q2⟩
  · subst e
    refine ⟨fun _ => ?_, fun z => absurd rfl z⟩
    unfold V_mnFinishOne_35
    obtain ⟨d, hd⟩ : ∃ d : Nat, ta = (d + 1 : Nat) := ⟨(ta - 1).toNat, by omega⟩
    exact n_measure (d := d) O7 z21 (vv (d + 1) hd) (fun σ' f' r' _ => fin 0 _ σ' q2 rfl f' r')
  · subst e
    refine ⟨fun z => absurd z (by decide), fun _ => ⟨fun _ => ?_, fun z => absurd rfl z⟩⟩
    unfold V_mnFinishOne_267
    have e0 : sg_g σ 48 t = v [] := (vv 0 q1).symm
    rw [e0]
    exact n_countUp O7 z21 (d9 1 q2) (fun σ' f' r' _ => fin 1 _ σ' q2 rfl f' r')
  · have kd : V_mnFinishOne_d σ7 (kmp k) (sg_g σ 48 t) Q := by
      unfold V_mnFinishOne_d
      refine n_reduce e O7 z21 (vv 1 q1) (fun σ' f' r' _ => fin 0 _ σ' q2 ?_ f' r')
      rcases e with e | e | e <;> subst e <;> rfl
    rcases e with e | e | e <;> subst e <;> exact ⟨fun z => absurd z (by decide), fun _ => ⟨fun z => absurd z (by decide), fun _ => ⟨fun z => absurd z (by decide), fun _ => ⟨fun z => absurd z (by decide), fun _ => ⟨fun z => absurd z (by decide), fun _ => kd⟩⟩⟩⟩⟩
  · subst e
    refine ⟨fun z => absurd z (by decide), fun _ => ⟨fun z => absurd z (by decide), fun _ => ⟨fun _ => ?_, fun z => absurd rfl z⟩⟩⟩
    unfold V_mnFinishOne_272
    exact n_sumUp O7 z21 (d9 1 q2) (vv 1 q1) (fun σ' f' r' _ => fin 1 _ σ' q2 rfl f' r')
  · subst e
    refine ⟨fun z => absurd z (by decide), fun _ => ⟨fun z => absurd z (by decide), fun _ => ⟨fun z => absurd z (by decide), fun _ => ⟨fun _ => ?_, fun z => absurd rfl z⟩⟩⟩⟩
    unfold V_mnFinishOne_273
    obtain ⟨d, hd⟩ : ∃ d : Nat, ta = (d + 1 : Nat) := ⟨(ta - 1).toNat, by omega⟩
    refine n_reverse (d := d) O7 z21 (d9 (d + 1) (by omega)) (vv (d + 1) hd) (fun σ' f' r' _ => fin (d + 1) _ σ' (by omega) ?_ f' r')
    rw [show d = (ty - 1).toNat by omega]; rfl
  · subst e
    refine ⟨fun z => absurd z (by decide), fun _ => ⟨fun z => absurd z (by decide), fun _ => ⟨fun z => absurd z (by decide), fun _ => ⟨fun z => absurd z (by decide), fun _ => ⟨fun _ => ?_, fun z => absurd rfl z⟩⟩⟩⟩⟩
    unfold V_mnFinishOne_275
    obtain ⟨d, hd⟩ : ∃ d : Nat, ta = (d + 2 : Nat) := ⟨(ta - 2).toNat, by omega⟩
    refine n_flatten (d := d) O7 z21 (d9 (d + 1) (by omega)) (vv (d + 2) hd) (fun σ' f' r' _ => fin (d + 1) _ σ' (by omega) ?_ f' r')
    rw [show d = (ty - 1).toNat by omega]; rfl
theorem nf_two (hn : 0 ≤ n ∧ n < 200) (hO : nO σ (t + 2) w) (t0 : 0 ≤ t) (h21 : sg_g σ 45 21 = 0) (h3 : sg_g σ 3 n = kmp k) (h6 : sg_g σ 6 n = ty) (hty : ty ≤ 3) (hta : 0 ≤ ta ∧ ta ≤ 3) (hv : cvF σ ta.toNat v (sg_g σ 48 t)) (hu : cvF σ tb.toNat u (sg_g σ 48 (t + 1))) (ho : op2 k ta tb ty) (kk : ∀ σ', sg_F nfL σ σ' → cR σ σ' ty.toNat t w (pyF (eO k ty x [v, u]) w) → Q σ') : V_mnFinishTwo σ n Q := by
  have o4 := hO.2.2.2.1
  unfold V_mnFinishTwo
  rw [xa_in (a := 6) hn, xa_in (a := 3) hn, h6, h3]
  refine n_pop (t := t + 1) (by rw [hO.2.1]; omega) ⟨by omega, by omega⟩ (fun σ2 f2 t2 rb _ _ => ?_)
  refine n_pop (t := t) t2 ⟨t0, by omega⟩ (fun σ8 f8 t8 ra _ _ σ13 e13 => ?_)
  rw [sg_F_ga f2 rfl] at ra ⊢
  obtain ⟨O7, F7⟩ := nO_d (t := t) hO (sg_F_t f2 f8) t8 ⟨t0, by omega⟩ e13
  have z21 : sg_g σ13 45 21 = 0 := by rw [sg_F_g F7 (by rfl)]; exact h21
  have d9 : ∀ d : Nat, ty = d → sg_g σ13 45 9 = d := fun d hd => by rw [e13, sg_gw_e _ _ _ _ ⟨by omega, by omega⟩]; exact hd
  have vv : ∀ d : Nat, ta = d → cvF σ13 d v (sg_g σ 48 t) := fun d hd => cvF_F (cv_s hv hd) F7 rfl
  have uu : ∀ d : Nat, tb = d → cvF σ13 d u (sg_g σ 48 (t + 1)) := fun d hd => cvF_F (cv_s hu hd) F7 rfl
  have fin : ∀ (d : Nat) (r : Int ⊕ (vaF × Int)) (σ' : sg_S), ty = d → eO k ty x [v, u] = r → sg_F ngL σ13 σ' → cR σ13 σ' d t w (pyF r w) → Q σ' := fun d r σ' hd he f' r' => by
    refine kk σ' (sg_F_t (sg_F_m F7 rfl) (sg_F_m f' rfl)) ?_
    rw [he, hd, Int.toNat_natCast]
    exact cR_F F7 rfl r'
  rcases ho with ⟨e, q1, q2, q3⟩ | ⟨e, q1, q2, q3⟩ | ⟨e, q1, q2⟩ | ⟨e, q1, q2, q3⟩ | ⟨e, q1, q2, q3⟩ | ⟨e, q1, q2, q3⟩
  · have kd : V_mnFinishTwo_d σ13 (kmp k) (sg_g σ 48 (t + 1)) (sg_g σ 48 t) Q := by
      unfold V_mnFinishTwo_d
      have e1 : sg_g σ 48 t = v [] := (vv 0 q1).symm
      have e2 : sg_g σ 48 (t + 1) = u [] := (uu 0 q2).symm
      rw [e1, e2]
      refine n_combine e O7 z21 (fun σ' f' r' _ => fin 0 _ σ' q3 ?_ f' r')
      have c : k = 4 ∨ k = 5 ∨ k = 6 ∨ k = 7 ∨ k = 8 ∨ k = 9 ∨ k = 10 := by omega
      rcases c with e | e | e | e | e | e | e <;> subst e <;> rfl
    have c : k = 4 ∨ k = 5 ∨ k = 6 ∨ k = 7 ∨ k = 8 ∨ k = 9 ∨ k = 10 := by omega
    rcases c with e | e | e | e | e | e | e <;> subst e <;> exact ⟨fun z => absurd z (by decide), fun _ => ⟨fun z => absurd z (by decide), fun _ => ⟨fun z => absurd z (by decide), fun _ => ⟨fun z => absurd z (by decide), fun _ => ⟨fun z => absurd z (by decide), fun _ => ⟨fun z => absurd z (by decide), fun _ => kd⟩⟩⟩⟩⟩⟩
  · subst e
    refine ⟨fun _ => ?_, fun z => absurd rfl z⟩
    unfold V_mnFinishTwo_91
    obtain ⟨d, hd⟩ : ∃ d : Nat, ta = (d + 1 : Nat) := ⟨(ta - 1).toNat, by omega⟩
    have e2 : sg_g σ 48 (t + 1) = u [] := (uu 0 q2).symm
    rw [e2]
    exact n_select (d := d) O7 z21 (vv (d + 1) hd) (fun σ' f' r' _ => fin d _ σ' (by omega) rfl f' r')
  · subst e
    refine ⟨fun z => absurd z (by decide), fun _ => ⟨fun _ => ?_, fun z => absurd rfl z⟩⟩
    unfold V_mnFinishTwo_268
    have e2 : sg_g σ 48 (t + 1) = u [] := (uu 0 q1).symm
    rw [e2]
    refine n_repeat (d := ta.toNat) O7 z21 (d9 (ta.toNat + 1) (by omega)) (vv ta.toNat (by omega)) (sg_Rg _ _ _) (fun σ' f' r' _ => fin (ta.toNat + 1) _ σ' (by omega) ?_ f' r')
    rw [show ta.toNat = (ty - 1).toNat by omega]; rfl
  · subst e
    refine ⟨fun z => absurd z (by decide), fun _ => ⟨fun z => absurd z (by decide), fun _ => ⟨fun _ => ?_, fun z => absurd rfl z⟩⟩⟩
    unfold V_mnFinishTwo_274
    obtain ⟨d, hd⟩ : ∃ d : Nat, ta = (d + 1 : Nat) := ⟨(ta - 1).toNat, by omega⟩
    refine n_append (d := d) O7 z21 (d9 (d + 1) (by omega)) (vv (d + 1) hd) (uu (d + 1) (by omega)) (fun σ' f' r' _ => fin (d + 1) _ σ' (by omega) ?_ f' r')
    rw [show d = (ty - 1).toNat by omega]; rfl
  · obtain ⟨d, hd⟩ : ∃ d : Nat, ta = (d + 1 : Nat) := ⟨(ta - 1).toNat, by omega⟩
    rcases e with e | e
    · subst e
      refine ⟨fun z => absurd z (by decide), fun _ => ⟨fun z => absurd z (by decide), fun _ => ⟨fun z => absurd z (by decide), fun _ => ⟨fun _ => ?_, fun z => absurd rfl z⟩⟩⟩⟩
      unfold V_mnFinishTwo_276
      refine n_pack (d := d) O7 z21 (d9 (d + 1) (by omega)) (vv (d + 1) hd) (uu 1 q2) (fun σ' f' r' _ => fin (d + 1) _ σ' (by omega) ?_ f' r')
      rw [show d = (ty - 1).toNat by omega]; rfl
    · subst e
      refine ⟨fun z => absurd z (by decide), fun _ => ⟨fun z => absurd z (by decide), fun _ => ⟨fun z => absurd z (by decide), fun _ => ⟨fun z => absurd z (by decide), fun _ => ⟨fun _ => ?_, fun z => absurd rfl z⟩⟩⟩⟩⟩
      unfold V_mnFinishTwo_277
      refine n_permute (d := d) O7 z21 (d9 (d + 1) (by omega)) (vv (d + 1) hd) (uu 1 q2) (fun σ' f' r' _ => fin (d + 1) _ σ' (by omega) ?_ f' r')
      rw [show d = (ty - 1).toNat by omega]; rfl
  · subst e
    refine ⟨fun z => absurd z (by decide), fun _ => ⟨fun z => absurd z (by decide), fun _ => ⟨fun z => absurd z (by decide), fun _ => ⟨fun z => absurd z (by decide), fun _ => ⟨fun z => absurd z (by decide), fun _ => ⟨fun _ => ?_, fun z => absurd rfl z⟩⟩⟩⟩⟩⟩
    unfold V_mnFinishTwo_278
    obtain ⟨d, hd⟩ : ∃ d : Nat, ta = (d + 1 : Nat) := ⟨(ta - 1).toNat, by omega⟩
    refine n_divide (d := d) O7 z21 (d9 (d + 2) (by omega)) (vv (d + 1) hd) (uu 1 q2) (fun σ' f' r' _ => fin (d + 2) _ σ' (by omega) ?_ f' r')
    rw [show d + 1 = (ty - 1).toNat by omega]; rfl
/-- NUMBER, NAME, ROW, { } -/
theorem nf_num (hn : 0 ≤ n ∧ n < 200) (hO : nO σ t w) (h21 : sg_g σ 45 21 = 0) (h3 : sg_g σ 3 n = 257) (h5 : sg_g σ 5 n = x) (kk : ∀ σ', sg_F nfL σ σ' → cR σ σ' 0 t w (pyF (.inr (nmF x, 0)) w) → Q σ') : V_mnFinish σ n Q := by
  unfold V_mnFinish
  rw [xa_in (a := 6) hn, xa_in (a := 3) hn, xa_in (a := 5) hn, h3, h5]
  intro σ1 e1
  have f1 : sg_F [10045] σ σ1 := by rw [e1]; exact sg_F_w (sg_F_r _ _) rfl _
  have O1 := nO_F hO f1 rfl
  refine ⟨fun _ => ?_, fun z => absurd rfl z⟩
  unfold V_nConstant
  exact n_val (d := 0) (v := nmF x) O1 (by rw [sg_F_g f1 (by rfl)]; exact h21) rfl (by rw [← h5]; exact sg_Rg _ _ _) (fun σ' f' r' _ => kk σ' (sg_F_t (sg_F_m f1 rfl) (sg_F_m f' rfl)) (cR_F f1 rfl r'))
theorem nf_name {s : Int} {d : Nat} (hn : 0 ≤ n ∧ n < 200) (hO : nO σ t w) (h21 : sg_g σ 45 21 = 0) (h3 : sg_g σ 3 n = 258) (h16 : sg_g σ 16 n = s) (hs : 0 ≤ s ∧ s < 272) (hv : cvF σ d v (sg_g σ 46 s)) (kk : ∀ σ', sg_F nfL σ σ' → cR σ σ' d t w (pyF (.inr (v, 0)) w) → Q σ') : V_mnFinish σ n Q := by
  unfold V_mnFinish
  rw [xa_in (a := 6) hn, xa_in (a := 3) hn, xa_in (a := 16) hn, h3, h16, xa_in (a := 46) hs]
  intro σ1 e1
  have f1 : sg_F [10045] σ σ1 := by rw [e1]; exact sg_F_w (sg_F_r _ _) rfl _
  have O1 := nO_F hO f1 rfl
  refine ⟨fun z => absurd z (by decide), fun _ => ⟨fun _ => ?_, fun z => absurd rfl z⟩⟩
  exact n_val (d := d) (v := v) O1 (by rw [sg_F_g f1 (by rfl)]; exact h21) (cvF_F hv f1 rfl) (sg_Rg _ _ _) (fun σ' f' r' => kk σ' (sg_F_t (sg_F_m f1 rfl) (sg_F_m f' rfl)) (cR_F f1 rfl r'))
theorem nf_row {a : Int} {d : Nat} {M : List vaF} (hn : 0 ≤ n ∧ n < 200) (hO : nO σ (t + a) w) (t0 : 0 ≤ t) (h21 : sg_g σ 45 21 = 0) (h3 : sg_g σ 3 n = 279) (h10 : sg_g σ 10 n = a) (h6 : sg_g σ 6 n = (d + 1 : Nat)) (hd : d ≤ 2) (hM : (M.length : Int) = a) (hl : M.length ≤ 200) (hv : ∀ (i : Nat) (z : vaF), M[i]? = some z → cvF σ d z (sg_g σ 48 (t + i))) (kk : ∀ σ', sg_F nfL σ σ' → cR σ σ' (d + 1) t w (pyF (.inr (mkF M, cnL d M)) w) → Q σ') : V_mnFinish σ n Q := by
  unfold V_mnFinish
  rw [xa_in (a := 6) hn, xa_in (a := 3) hn, xa_in (a := 10) hn, h3, h10, h6]
  intro σ1 e1
  have f1 : sg_F [10045] σ σ1 := by rw [e1]; exact sg_F_w (sg_F_r _ _) rfl _
  have O1 := nO_F hO f1 rfl
  refine ⟨fun z => absurd z (by decide), fun _ => ⟨fun z => absurd z (by decide), fun _ => ⟨fun _ => ?_, fun z => absurd rfl z⟩⟩⟩
  exact n_row (M := M) (d := d) (t := t) O1 (by rw [sg_F_g f1 (by rfl)]; exact h21) (by rw [e1, sg_gw_e _ _ _ _ ⟨by omega, by omega⟩]) hM hl t0 (fun i z hz => by rw [sg_F_ga f1 rfl]; exact cvF_F (hv i z hz) f1 rfl) (fun σ' f' r' _ => kk σ' (sg_F_t (sg_F_m f1 rfl) (sg_F_m f' rfl)) (cR_F f1 rfl r'))
theorem nf_each {g : Int} {d : Nat} {M : List vaF} (hn : 0 ≤ n ∧ n < 200) (hO : nO σ (t + g + M.length) w) (t0 : 0 ≤ t) (hg : 0 ≤ g ∧ g ≤ 4) (h21 : sg_g σ 45 21 = 0) (h3 : sg_g σ 3 n = 123) (h13 : sg_g σ 13 n = g) (h56 : sg_g σ 56 n = t + g) (h6 : sg_g σ 6 n = (d + 1 : Nat)) (hd : d ≤ 2) (hl : M.length ≤ 200) (hv : ∀ (i : Nat) (z : vaF), M[i]? = some z → cvF σ d z (sg_g σ 48 (t + g + i))) (kk : ∀ σ', sg_F nfL σ σ' → cR σ σ' (d + 1) t w (pyF (.inr (mkF M, cnL d M)) w) → Q σ') : V_mnFinish σ n Q := by
  unfold V_mnFinish
  rw [xa_in (a := 6) hn, xa_in (a := 3) hn, h3, h6]
  intro σ1 e1
  have f1 : sg_F [10045] σ σ1 := by rw [e1]; exact sg_F_w (sg_F_r _ _) rfl _
  have O1 := nO_F hO f1 rfl
  obtain ⟨o1, o2, o3, o4, o5, o6, o7⟩ := id O1
  refine ⟨fun z => absurd z (by decide), fun _ => ⟨fun z => absurd z (by decide), fun _ => ⟨fun z => absurd z (by decide), fun _ => ?_⟩⟩⟩
  unfold V_nCollect
  rw [xa_in (a := 56) hn, xa_in (a := 13) hn, sg_F_ga f1 (a := 56) rfl, h56, o2, sg_F_ga f1 (a := 13) rfl, h13, show t + g + (M.length : Int) - (t + g) = M.length by omega]
  refine ⟨⟨by omega, by omega⟩, ?_⟩
  refine n_gather (L := []) (M := M) (d := d) (t := t + g) (cO_0 (by rw [sg_F_g f1 (by rfl)]; exact h21)) rfl (by simp only [List.length_nil]; omega) o2 ⟨by omega, by omega⟩ (fun i z hz => by rw [sg_F_ga f1 rfl]; exact cvF_F (hv i z hz) f1 rfl) (fun σ3 h3' t3 f3 _ => ?_)
  rw [t3, show t + g - g = t by omega]
  refine ⟨⟨by omega, by omega⟩, fun σ9 e9 => ?_⟩
  rw [List.nil_append] at h3'
  have f9 : sg_F [8045] σ3 σ9 := by rw [e9]; exact sg_F_w (sg_F_r _ _) rfl _
  have F9 : sg_F [54, 8045, 22045] σ1 σ9 := sg_F_t f3 (sg_F_m f9 rfl)
  have O9 : nO σ9 t w := ⟨by rw [sg_F_g F9 (by rfl)]; exact o1, by rw [e9, sg_gw_e _ _ _ _ ⟨by omega, by omega⟩], by rw [sg_F_g F9 (by rfl)]; exact o3, ⟨t0, by omega⟩, o5, by rw [sg_F_g F9 (by rfl)]; exact o6, by rw [sg_F_g F9 (by rfl)]; exact o7⟩
  refine n_give (d := d) (L := M) (t := t) (w := w) O9 (by rw [sg_F_g F9 (by rfl), e1, sg_gw_e _ _ _ _ ⟨by omega, by omega⟩]) (cO_F h3' f9 rfl) (fun σ' f' r' _ _ => ?_)
  exact kk σ' (sg_F_t (sg_F_t (sg_F_m f1 rfl) (sg_F_m F9 rfl)) (sg_F_m f' rfl)) (cR_F f1 rfl (cR_F F9 rfl r'))
end NFN
/-! THE NESTED RUN in steps: what is kept. -/
abbrev nRL : List Nat := [46, 47, 48, 53, 54, 55, 56, 57, 58, 59, 60, 8045, 9045, 10045, 11045, 21045, 22045, 23045, 24045]
/-- the slot of a binder -/
def slF (σ : sg_S) (b : Int) : Int := if b < 210 then sg_g σ 16 b else if b < 1100 then sg_g σ 16 ((b - 210) / 4) + (b - 210) % 4 else sg_g σ 24 ((b - 1100) / 6) + (b - 1100) % 6
theorem sl_let {σ : sg_S} {n : Int} (h : n < 210) : slF σ n = sg_g σ 16 n := by unfold slF; rw [if_pos h]
theorem sl_gen {σ : sg_S} {n : Int} {j : Nat} (h : 0 ≤ n ∧ n < 210) (hj : j < 4) : slF σ (210 + 4 * n + j) = sg_g σ 16 n + j := by
  unfold slF
  rw [if_neg (by omega), if_pos (by omega), show (210 + 4 * n + (j : Int) - 210) / 4 = n by omega, show (210 + 4 * n + (j : Int) - 210) % 4 = j by omega]
theorem sl_par {σ : sg_S} {q : Int} {j : Nat} (h : 0 ≤ q) (hj : j < 6) : slF σ (1100 + 6 * q + j) = sg_g σ 24 q + j := by
  unfold slF
  rw [if_neg (by omega), if_neg (by omega), show (1100 + 6 * q + (j : Int) - 1100) / 6 = q by omega, show (1100 + 6 * q + (j : Int) - 1100) % 6 = j by omega]
section NMK
variable (σ : sg_S) (A : aT) (D : List aDf) (vb : Int → Prop)
/-- what is bound -/
def rlC (σ8 : sg_S) (ρ : eV) (b : Int) : Prop := cvF σ8 (bTy A D (sg_g σ 6) b).toNat (ρ b) (sg_g σ8 46 (slF σ b))
def scP (σ8 : sg_S) (ρ : eV) (sc : List (Int × Int)) : Prop := ∀ p ∈ sc, vb p.1 ∧ p.2 = bTy A D (sg_g σ 6) p.1 ∧ rlC σ A D σ8 ρ p.1
/-- slots are apart -/
def slA : Prop := (∀ b, vb b → 0 ≤ slF σ b ∧ slF σ b < 272) ∧ ∀ b b', vb b → vb b' → slF σ b = slF σ b' → b = b'
/-- between orders: place of the stack, work, span, nodes begun, place of the plan -/
def nP (σ8 : sg_S) (t w s c p : Int) : Prop := sg_F nRL σ σ8 ∧ (sg_g σ8 45 10 = 0 ∧ sg_g σ8 45 21 = 0) ∧ (sg_g σ8 45 7 = t ∧ sg_g σ8 45 22 = w ∧ sg_g σ8 45 23 = s ∧ sg_g σ8 45 8 = p) ∧ (0 ≤ t ∧ t + c ≤ w) ∧ (0 ≤ w ∧ w ≤ 3000) ∧ (0 ≤ s ∧ s ≤ w) ∧ (0 ≤ sg_g σ8 45 20 ∧ sg_g σ8 45 20 + 3 * c ≤ 3 * w) ∧ 0 ≤ c
/-- what stays -/
def nU (σ8 σ' : sg_S) (ρ ρ' : eV) (t nl dix : Int) (L : List Int) : Prop := cEx σ8 σ' ∧ (∀ i, i < t → sg_g σ' 48 i = sg_g σ8 48 i) ∧ (∀ b, vb b → rlC σ A D σ8 ρ b → rlC σ A D σ' ρ' b) ∧ (∀ x, nl ≤ x → x ∉ L → sg_g σ' 56 x = sg_g σ8 56 x ∧ sg_g σ' 57 x = sg_g σ8 57 x ∧ sg_g σ' 58 x = sg_g σ8 58 x ∧ sg_g σ' 59 x = sg_g σ8 59 x ∧ sg_g σ' 60 x = sg_g σ8 60 x) ∧ ∀ q, dix ≤ q → sg_g σ' 47 q = sg_g σ8 47 q
/-- what an operation is to be followed by -/
def oC (X : sg_S → Prop) (m : Nat) (σ8 : sg_S) (ρ : eV) (t w s c p nl dix : Int) (d : Nat) : (Int × Int) ⊕ (vaF × Int) → Prop
  | .inl (e, w') => ∀ σ', sg_F nRL σ σ' → sg_g σ' 45 10 = e → ¬ e = 0 → sg_g σ' 45 22 = w' → X σ'
  | .inr (v, w') => ∀ σ' m', w ≤ w' → nP σ σ' (t + 1) w' s c p → nU σ A D vb σ8 σ' ρ ρ t nl dix [] → cvF σ' d v (sg_g σ' 48 t) → m' + 1 = m → Rn σ X m' σ'
end NMK
section NMS
variable {σ : sg_S} {A : aT} {D : List aDf} {vb : Int → Prop} {X : sg_S → Prop}
theorem nU_r {σ8 : sg_S} {ρ : eV} {t nl dix : Int} {L : List Int} : nU σ A D vb σ8 σ8 ρ ρ t nl dix L := ⟨cEx_r _, fun _ _ => rfl, fun _ _ h => h, fun _ _ _ => ⟨rfl, rfl, rfl, rfl, rfl⟩, fun _ _ => rfl⟩
theorem nU_t {σ8 σ1 σ2 : sg_S} {ρ ρ1 ρ2 : eV} {t t1 t2 nl dix : Int} {L L1 L2 : List Int} (h : nU σ A D vb σ8 σ1 ρ ρ1 t1 nl dix L1) (g : nU σ A D vb σ1 σ2 ρ1 ρ2 t2 nl dix L2) (ht : t ≤ t1 ∧ t ≤ t2) (h1 : ∀ x ∈ L1, x ∈ L) (h2 : ∀ x ∈ L2, x ∈ L) : nU σ A D vb σ8 σ2 ρ ρ2 t nl dix L := by
  obtain ⟨a1, a2, a3, a4, a5⟩ := h
  obtain ⟨c1, c2, c3, c4, c5⟩ := g
  refine ⟨cEx_t a1 c1, fun i hi => by rw [c2 i (by omega), a2 i (by omega)], fun b hb hr => c3 b hb (a3 b hb hr), fun x q r => ?_, fun q hq => by rw [c5 q hq, a5 q hq]⟩
  obtain ⟨e1, e2, e3, e4, e5⟩ := c4 x q (fun z => r (h2 x z))
  obtain ⟨e6, e7, e8, e9, e10⟩ := a4 x q (fun z => r (h1 x z))
  exact ⟨e1.trans e6, e2.trans e7, e3.trans e8, e4.trans e9, e5.trans e10⟩
theorem nU_w {σ8 σ1 : sg_S} {ρ ρ1 : eV} {t t1 nl nl1 dix dix1 : Int} {L L1 : List Int} (h : nU σ A D vb σ8 σ1 ρ ρ1 t1 nl1 dix1 L1) (hl : nl1 ≤ nl ∧ dix1 ≤ dix) (ht : t ≤ t1) (h1 : ∀ x ∈ L1, nl ≤ x → x ∈ L) : nU σ A D vb σ8 σ1 ρ ρ1 t nl dix L := by
  obtain ⟨c1, c2, c3, c4, c5⟩ := h
  exact ⟨c1, fun i hi => c2 i (by omega), c3, fun x q r => c4 x (by omega) (fun z => r (h1 x z q)), fun q hq => c5 q (by omega)⟩
theorem rl_F {K : List Nat} {σ8 σ1 : sg_S} {ρ : eV} {b : Int} (h : rlC σ A D σ8 ρ b) (f : sg_F K σ8 σ1) (hK : (!sg_cv K 45 20 && sg_ca K 53 && sg_ca K 46) = true) : rlC σ A D σ1 ρ b := by
  simp only [Bool.and_eq_true, Bool.not_eq_true'] at hK
  obtain ⟨⟨k1, k2⟩, k3⟩ := hK
  unfold rlC
  rw [sg_F_ga f k3]
  exact cvF_F h f (by rw [k1, k2]; rfl)
theorem rl_X {σ8 σ1 : sg_S} {ρ : eV} {b : Int} (h : rlC σ A D σ8 ρ b) (x : cEx σ8 σ1) (h46 : sg_g σ1 46 (slF σ b) = sg_g σ8 46 (slF σ b)) : rlC σ A D σ1 ρ b := by
  unfold rlC
  rw [h46]
  exact cvF_up x h
theorem nU_F {K : List Nat} {σ8 σ1 : sg_S} {ρ : eV} {t nl dix : Int} {L : List Int} (f : sg_F K σ8 σ1) (hK : (!sg_cv K 45 20 && sg_ca K 53 && sg_ca K 46 && sg_ca K 47 && sg_ca K 48 && sg_ca K 56 && sg_ca K 57 && sg_ca K 58 && sg_ca K 59 && sg_ca K 60) = true) : nU σ A D vb σ8 σ1 ρ ρ t nl dix L := by
  simp only [Bool.and_eq_true, Bool.not_eq_true'] at hK
  obtain ⟨⟨⟨⟨⟨⟨⟨⟨⟨k1, k2⟩, k3⟩, k4⟩, k5⟩, k6⟩, k7⟩, k8⟩, k9⟩, k10⟩ := hK
  exact ⟨cEx_F f (by rw [k1, k2]; rfl), fun i _ => sg_F_ga f k5, fun b _ h => rl_F h f (by rw [k1, k2, k3]; rfl), fun x _ _ => ⟨sg_F_ga f k6, sg_F_ga f k7, sg_F_ga f k8, sg_F_ga f k9, sg_F_ga f k10⟩, fun q _ => sg_F_ga f k4⟩
theorem scP_u {σ8 σ1 : sg_S} {ρ ρ1 : eV} {t nl dix : Int} {L : List Int} {sc : List (Int × Int)} (h : scP σ A D vb σ8 ρ sc) (u : nU σ A D vb σ8 σ1 ρ ρ1 t nl dix L) : scP σ A D vb σ1 ρ1 sc := fun p hp => by
  obtain ⟨a1, a2, a3⟩ := h p hp
  exact ⟨a1, a2, u.2.2.1 p.1 a1 a3⟩
theorem nP_32 {σ8 σ32 : sg_S} {t w s c p : Int} (h : nP σ σ8 t w s c p) (hp : p < 1013 ∧ 0 ≤ p) (e : σ32 = sg_w σ8 45 8 (p + 1)) : nP σ σ32 t w s c (p + 1) ∧ sg_F [9045] σ8 σ32 := by
  have f : sg_F [9045] σ8 σ32 := by rw [e]; exact sg_F_w (sg_F_r _ _) rfl _
  obtain ⟨a1, ⟨a2, a3⟩, ⟨a4, a5, a6, a7⟩, a8, a9, a10, a11, a12⟩ := h
  refine ⟨⟨sg_F_t a1 (sg_F_m f rfl), ⟨by rw [sg_F_g f (by rfl)]; exact a2, by rw [sg_F_g f (by rfl)]; exact a3⟩, ⟨by rw [sg_F_g f (by rfl)]; exact a4, by rw [sg_F_g f (by rfl)]; exact a5, by rw [sg_F_g f (by rfl)]; exact a6, ?_⟩, a8, a9, a10, by rw [sg_F_g f (by rfl)]; exact a11, a12⟩, f⟩
  rw [e, sg_gw_e _ _ _ _ ⟨by omega, by omega⟩]
theorem nP_O {σ8 : sg_S} {t w s c p : Int} (h : nP σ σ8 t w s c p) (hc : 1 ≤ c) : nO σ8 t w := by
  obtain ⟨a1, ⟨a2, a3⟩, ⟨a4, a5, a6, a7⟩, a8, a9, a10, a11, a12⟩ := h
  exact ⟨a2, a4, a5, ⟨a8.1, by omega⟩, a9, a11.1, by omega⟩
theorem nP_m {σ8 : sg_S} {t w s c c' p : Int} (h : nP σ σ8 t w s c p) (hc : 0 ≤ c' ∧ c' ≤ c) : nP σ σ8 t w s c' p := by
  obtain ⟨a1, a2, a3, a8, a9, a10, a11, a12⟩ := h
  exact ⟨a1, a2, a3, ⟨a8.1, by omega⟩, a9, a10, ⟨a11.1, by omega⟩, hc.1⟩
section NZS
variable {σ8 : sg_S} {m : Nat} {ρ : eV} {t w s c p n nl dix : Int} {C : List (Int × Int)}
theorem m_pos {cr : Int} (h : nP σ σ8 t w s c p) (hm : 8 * (3001 - w) + cr ≤ m) (hcr : 0 ≤ cr) : ∃ m', m = m' + 1 := ⟨m - 1, by have := h.2.2.2.2.1; omega⟩
/-- BEGIN -/
theorem zn_begin (h : nP σ σ8 t w s c p) (hm : 1 ≤ m) (hp : pl σ p ((0, n) :: C)) (kF : ¬ w + 1 ≤ 3000 → ∀ σ', sg_F nRL σ σ' → sg_g σ' 45 10 = 7 → sg_g σ' 45 22 = w → X σ') (kS : w + 1 ≤ 3000 → ∀ σ' m', nP σ σ' t (w + 1) (s + 1) (c + 1) (p + 1) → sg_F [9045, 11045, 23045, 24045] σ8 σ' → m' + 1 = m → Rn σ X m' σ') : Rn σ X m σ8 := by
  obtain ⟨m, rfl⟩ : ∃ m', m = m' + 1 := ⟨m - 1, by omega⟩
  obtain ⟨p0, p1, p2, p3⟩ := pl_c hp
  refine rn_0 (p := p) (k := n) h.2.2.1.2.2.2 p0 h.2.1.1 p1 p2 (fun σ32 e32 => ?_)
  obtain ⟨h32, f32⟩ := nP_32 h ⟨p0.2, p0.1⟩ e32
  obtain ⟨a1, ⟨a2, a3⟩, ⟨a4, a5, a6, a7⟩, a8, a9, a10, a11, a12⟩ := h32
  unfold V_nBegin V_nSpend
  rw [a5, a6]
  refine ⟨⟨by omega, by omega⟩, fun z σ3 e3 _ f3 => ⟨fun q => absurd q (by decide), fun _ => ⟨⟨by omega, by omega⟩, fun σ9 e9 f9 => ?_⟩⟩, fun z σ6 e6 _ f6 => ⟨fun _ f45 => ?_, fun q => absurd rfl q⟩⟩
  · have g9 : sg_F [23045, 24045] σ32 σ9 := by rw [e9, e3]; exact sg_F_w (sg_F_w (sg_F_r _ _) rfl _) rfl _
    refine kS z σ9 m ⟨sg_F_t a1 (sg_F_m g9 rfl), ⟨by rw [sg_F_g g9 (by rfl)]; exact a2, by rw [sg_F_g g9 (by rfl)]; exact a3⟩, ⟨by rw [sg_F_g g9 (by rfl)]; exact a4, ?_, ?_, by rw [sg_F_g g9 (by rfl)]; exact a7⟩, ⟨a8.1, by omega⟩, ⟨by omega, z⟩, ⟨by omega, by omega⟩, by rw [sg_F_g g9 (by rfl)]; exact ⟨a11.1, by omega⟩, by omega⟩ (sg_F_t (sg_F_m f32 rfl) (sg_F_m g9 rfl)) rfl
    · rw [e9, sg_gw_k _ _ _ _ _ _ (by decide), e3, sg_gw_e _ _ _ _ ⟨by omega, by omega⟩]
    · rw [e9, sg_gw_e _ _ _ _ ⟨by omega, by omega⟩]
  · have g6 : sg_F [11045] σ32 σ6 := by rw [e6]; exact sg_F_w (sg_F_r _ _) rfl _
    have e7 : sg_g σ6 45 10 = 7 := by rw [e6, sg_gw_e _ _ _ _ (by decide)]
    exact rn_s (by rw [e7]; decide) (kF (by omega) σ6 (sg_F_t a1 (sg_F_m g6 rfl)) e7 (by rw [sg_F_g g6 (by rfl)]; exact a5))
/-- what comes of an operation -/
theorem zn_fin {σ32 σ' : sg_S} {d : Nat} {a : Int} {r : Int ⊕ (vaF × Int)} (h : nP σ σ8 (t + a) w s (c + 1) p) (h0 : 0 ≤ t ∧ 0 ≤ a) (h32 : nP σ σ32 (t + a) w s (c + 1) (p + 1)) (f32 : sg_F [9045] σ8 σ32) (f' : sg_F nfL σ32 σ') (hr : cR σ32 σ' d t w (pyF r w)) (hc : 0 ≤ c) (k : oC σ A D vb X (m + 1) σ8 ρ t w s c (p + 1) nl dix d (pyF r w)) : Rn σ X m σ' := by
  obtain ⟨a1, ⟨a2, a3⟩, ⟨a4, a5, a6, a7⟩, a8, a9, a10, a11, a12⟩ := h32
  generalize pyF r w = q at hr k
  match q, hr, k with
  | .inl (e, w'), hr, k =>
    obtain ⟨z1, z2, z3⟩ := hr
    exact rn_s (by rw [z1]; exact z2) (k σ' (sg_F_t a1 (sg_F_m f' rfl)) z1 z2 z3)
  | .inr (v, w'), hr, k =>
    obtain ⟨z1, z2, z3, z4, z5, z6, z7, z8, z9⟩ := hr
    refine k σ' m z3.1 ⟨sg_F_t a1 (sg_F_m f' rfl), ⟨z1, z5⟩, ⟨z4, z2, by rw [sg_F_g f' (by rfl)]; exact a6, by rw [sg_F_g f' (by rfl)]; exact a7⟩, ⟨by omega, by omega⟩, ⟨by omega, z3.2⟩, ⟨a10.1, by omega⟩, ⟨by have := z6.1; omega, by omega⟩, hc⟩ ⟨cEx_t (cEx_F f32 rfl) z6, fun i hi => by rw [z9 i hi, sg_F_ga f32 rfl], fun b _ hb => rl_X (rl_F hb f32 rfl) z6 (sg_F_ga f' rfl), fun x _ _ => ?_, fun q _ => by rw [sg_F_ga f' rfl, sg_F_ga f32 rfl]⟩ z8 rfl
    exact ⟨by rw [sg_F_ga f' rfl, sg_F_ga f32 rfl], by rw [sg_F_ga f' rfl, sg_F_ga f32 rfl], by rw [sg_F_ga f' rfl, sg_F_ga f32 rfl], by rw [sg_F_ga f' rfl, sg_F_ga f32 rfl], by rw [sg_F_ga f' rfl, sg_F_ga f32 rfl]⟩
theorem zn_one {k ta x : Int} {v : vaF} (h : nP σ σ8 (t + 1) w s (c + 1) p) (hc : 0 ≤ c) (t0 : 0 ≤ t) (hm : 1 ≤ m) (hp : pl σ p ((2, n) :: C)) (hn : 0 ≤ n ∧ n < 200) (h3 : sg_g σ 3 n = kmp k) (h6 : sg_g σ 6 n ≤ 3) (hta : 0 ≤ ta ∧ ta ≤ 3) (hv : cvF σ8 ta.toNat v (sg_g σ8 48 t)) (ho : op1 k ta (sg_g σ 6 n)) (kk : oC σ A D vb X m σ8 ρ t w s c (p + 1) nl dix (sg_g σ 6 n).toNat (pyF (eO k (sg_g σ 6 n) x [v]) w)) : Rn σ X m σ8 := by
  obtain ⟨m, rfl⟩ : ∃ m', m = m' + 1 := ⟨m - 1, by omega⟩
  obtain ⟨p0, p1, p2, p3⟩ := pl_c hp
  refine rn_2 (p := p) (k := n) h.2.2.1.2.2.2 p0 h.2.1.1 p1 p2 (fun σ32 e32 => ?_)
  obtain ⟨h32, f32⟩ := nP_32 h ⟨p0.2, p0.1⟩ e32
  refine nf_one (k := k) (ta := ta) (ty := sg_g σ 6 n) (x := x) (v := v) hn (nP_O h32 (by omega)) t0 h32.2.1.2 (by rw [sg_F_ga h32.1 rfl]; exact h3) (sg_F_ga h32.1 rfl) h6 hta (by rw [sg_F_ga f32 rfl]; exact cvF_F hv f32 rfl) ho (fun σ' f' r' _ => ?_)
  exact zn_fin (a := 1) h ⟨t0, by omega⟩ h32 f32 f' r' hc kk
theorem zn_two {k ta tb x : Int} {u v : vaF} (h : nP σ σ8 (t + 2) w s (c + 1) p) (hc : 0 ≤ c) (t0 : 0 ≤ t) (hm : 1 ≤ m) (hp : pl σ p ((3, n) :: C)) (hn : 0 ≤ n ∧ n < 200) (h3 : sg_g σ 3 n = kmp k) (h6 : sg_g σ 6 n ≤ 3) (hta : 0 ≤ ta ∧ ta ≤ 3) (hv : cvF σ8 ta.toNat v (sg_g σ8 48 t)) (hu : cvF σ8 tb.toNat u (sg_g σ8 48 (t + 1))) (ho : op2 k ta tb (sg_g σ 6 n)) (kk : oC σ A D vb X m σ8 ρ t w s c (p + 1) nl dix (sg_g σ 6 n).toNat (pyF (eO k (sg_g σ 6 n) x [v, u]) w)) : Rn σ X m σ8 := by
  obtain ⟨m, rfl⟩ : ∃ m', m = m' + 1 := ⟨m - 1, by omega⟩
  obtain ⟨p0, p1, p2, p3⟩ := pl_c hp
  refine rn_3 (p := p) (k := n) h.2.2.1.2.2.2 p0 h.2.1.1 p1 p2 (fun σ32 e32 => ?_)
  obtain ⟨h32, f32⟩ := nP_32 h ⟨p0.2, p0.1⟩ e32
  refine nf_two (k := k) (ta := ta) (tb := tb) (ty := sg_g σ 6 n) (x := x) (v := v) (u := u) hn (nP_O h32 (by omega)) t0 h32.2.1.2 (by rw [sg_F_ga h32.1 rfl]; exact h3) (sg_F_ga h32.1 rfl) h6 hta (by rw [sg_F_ga f32 rfl]; exact cvF_F hv f32 rfl) (by rw [sg_F_ga f32 rfl]; exact cvF_F hu f32 rfl) ho (fun σ' f' r' _ => ?_)
  exact zn_fin (a := 2) h ⟨t0, by omega⟩ h32 f32 f' r' hc kk
theorem zn_num {x : Int} (h : nP σ σ8 t w s (c + 1) p) (hc : 0 ≤ c) (t0 : 0 ≤ t) (hm : 1 ≤ m) (hp : pl σ p ((1, n) :: C)) (hn : 0 ≤ n ∧ n < 200) (h3 : sg_g σ 3 n = 257) (h5 : sg_g σ 5 n = x) (kk : oC σ A D vb X m σ8 ρ t w s c (p + 1) nl dix 0 (pyF (.inr (nmF x, 0)) w)) : Rn σ X m σ8 := by
  obtain ⟨m, rfl⟩ : ∃ m', m = m' + 1 := ⟨m - 1, by omega⟩
  obtain ⟨p0, p1, p2, p3⟩ := pl_c hp
  refine rn_1 (p := p) (k := n) h.2.2.1.2.2.2 p0 h.2.1.1 p1 p2 (fun σ32 e32 => ?_)
  obtain ⟨h32, f32⟩ := nP_32 h ⟨p0.2, p0.1⟩ e32
  refine nf_num (x := x) (t := t) (w := w) hn (nP_O h32 (by omega)) h32.2.1.2 (by rw [sg_F_ga h32.1 rfl]; exact h3) (by rw [sg_F_ga h32.1 rfl]; exact h5) (fun σ' f' r' _ => ?_)
  exact zn_fin (a := 0) (t := t) (by rw [Int.add_zero]; exact h) ⟨t0, Int.le_refl _⟩ (by rw [Int.add_zero]; exact h32) f32 f' r' hc kk
theorem zn_name {sl : Int} {d : Nat} {v : vaF} (h : nP σ σ8 t w s (c + 1) p) (hc : 0 ≤ c) (t0 : 0 ≤ t) (hm : 1 ≤ m) (hp : pl σ p ((1, n) :: C)) (hn : 0 ≤ n ∧ n < 200) (h3 : sg_g σ 3 n = 258) (h16 : sg_g σ 16 n = sl) (hs : 0 ≤ sl ∧ sl < 272) (hv : cvF σ8 d v (sg_g σ8 46 sl)) (kk : oC σ A D vb X m σ8 ρ t w s c (p + 1) nl dix d (pyF (.inr (v, 0)) w)) : Rn σ X m σ8 := by
  obtain ⟨m, rfl⟩ : ∃ m', m = m' + 1 := ⟨m - 1, by omega⟩
  obtain ⟨p0, p1, p2, p3⟩ := pl_c hp
  refine rn_1 (p := p) (k := n) h.2.2.1.2.2.2 p0 h.2.1.1 p1 p2 (fun σ32 e32 => ?_)
  obtain ⟨h32, f32⟩ := nP_32 h ⟨p0.2, p0.1⟩ e32
  refine nf_name (s := sl) (d := d) (v := v) (t := t) (w := w) hn (nP_O h32 (by omega)) h32.2.1.2 (by rw [sg_F_ga h32.1 rfl]; exact h3) (by rw [sg_F_ga h32.1 rfl]; exact h16) hs (by rw [sg_F_ga f32 rfl]; exact cvF_F hv f32 rfl) (fun σ' f' r' _ => ?_)
  exact zn_fin (a := 0) (t := t) (by rw [Int.add_zero]; exact h) ⟨t0, Int.le_refl _⟩ (by rw [Int.add_zero]; exact h32) f32 f' r' hc kk
theorem zn_row {a : Int} {d : Nat} {M : List vaF} (h : nP σ σ8 (t + a) w s (c + 1) p) (hc : 0 ≤ c) (t0 : 0 ≤ t) (hm : 1 ≤ m) (hp : pl σ p ((1, n) :: C)) (hn : 0 ≤ n ∧ n < 200) (h3 : sg_g σ 3 n = 279) (h10 : sg_g σ 10 n = a) (h6 : sg_g σ 6 n = (d + 1 : Nat)) (hd : d ≤ 2) (hM : (M.length : Int) = a) (hl : M.length ≤ 200) (hv : ∀ (i : Nat) (z : vaF), M[i]? = some z → cvF σ8 d z (sg_g σ8 48 (t + i))) (kk : oC σ A D vb X m σ8 ρ t w s c (p + 1) nl dix (d + 1) (pyF (.inr (mkF M, cnL d M)) w)) : Rn σ X m σ8 := by
  obtain ⟨m, rfl⟩ : ∃ m', m = m' + 1 := ⟨m - 1, by omega⟩
  obtain ⟨p0, p1, p2, p3⟩ := pl_c hp
  refine rn_1 (p := p) (k := n) h.2.2.1.2.2.2 p0 h.2.1.1 p1 p2 (fun σ32 e32 => ?_)
  obtain ⟨h32, f32⟩ := nP_32 h ⟨p0.2, p0.1⟩ e32
  refine nf_row (a := a) (d := d) (M := M) (t := t) (w := w) hn (nP_O h32 (by omega)) t0 h32.2.1.2 (by rw [sg_F_ga h32.1 rfl]; exact h3) (by rw [sg_F_ga h32.1 rfl]; exact h10) (by rw [sg_F_ga h32.1 rfl]; exact h6) hd hM hl (fun i z hz => by rw [sg_F_ga f32 rfl]; exact cvF_F (hv i z hz) f32 rfl) (fun σ' f' r' _ => ?_)
  exact zn_fin (a := a) (t := t) h ⟨t0, by omega⟩ h32 f32 f' r' hc kk
end NZS
end NMS
