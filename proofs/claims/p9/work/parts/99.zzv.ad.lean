/-! perm and part of the nested run. -/
theorem iv_ps (n : Nat) : ∀ (l : List Int) (i : Nat) (g g' : Int → Int) (ps : List Int), ps.length = i → ps.Nodup → (∀ p ∈ ps, 0 ≤ p ∧ p < n ∧ 0 ≤ g p ∧ g p < n) → i + l.length = n → ivF n i l g = some g' → ∃ ps' : List Int, ps'.length = n ∧ ps'.Nodup ∧ ∀ p ∈ ps', 0 ≤ p ∧ p < n ∧ 0 ≤ g' p ∧ g' p < n
  | [], i, g, g', ps, h1, h2, h3, h4, h => by
    simp only [ivF, Option.some.injEq] at h
    subst h
    exact ⟨ps, by simp only [List.length_nil] at h4; omega, h2, h3⟩
  | x :: l, i, g, g', ps, h1, h2, h3, h4, h => by
    simp only [ivF] at h
    simp only [List.length_cons] at h4
    split at h
    · rename_i c
      have np : x ∉ ps := fun z => by have := h3 x z; omega
      refine iv_ps n l (i + 1) _ g' (x :: ps) (by simp only [List.length_cons]; omega) (List.nodup_cons.mpr ⟨np, h2⟩) (fun p hp => ?_) (by omega) h
      rcases List.mem_cons.mp hp with e | e
      · subst e
        rw [if_pos rfl]; omega
      · have := h3 p e
        rw [if_neg (fun z => np (by rw [← z]; exact e))]
        exact this
    · cases h
theorem iv_all {n : Nat} {l : List Int} {g : Int → Int} (hl : l.length = n) (h : ivF n 0 l (fun _ => -1) = some g) {p : Int} (hp : 0 ≤ p ∧ p < n) : 0 ≤ g p ∧ g p < n := by
  obtain ⟨ps, q1, q2, q3⟩ := iv_ps n l 0 _ g [] rfl List.nodup_nil (by simp) (by omega) h
  by_cases c : p ∈ ps
  · exact (q3 p c).2.2
  · exfalso
    have := ndl n (p :: ps) (List.nodup_cons.mpr ⟨c, q2⟩) (fun w hw => by
      rcases List.mem_cons.mp hw with u | u
      · rw [u]; omega
      · have := q3 w u; omega)
    simp only [List.length_cons] at this
    omega
section NPR
variable {σ : sg_S} {d : Nat} {t w x y : Int} {u v : vaF} {Q : sg_S → Prop}
theorem n_invert {n : Nat} {nu : List Int} {Q : Int → sg_S → Prop} (hn : nu.length = n) (h200 : n ≤ 200) (h54 : ∀ (i : Nat) (z : Int), nu[i]? = some z → sg_g σ 54 i = z) (k0 : ivF n 0 nu (fun _ => -1) = none → ∀ σ', sg_F [55] σ σ' → Q 0 σ') (k1 : ∀ g, ivF n 0 nu (fun _ => -1) = some g → ∀ σ', sg_F [55] σ σ' → (∀ p, 0 ≤ p → p < n → sg_g σ' 55 p = g p) → Q 1 σ') : V_yInvert σ (n : Int) Q := by
  unfold V_yInvert
  refine ⟨fun m v1 σ2 => ∃ i : Nat, v1 = i ∧ m = n - i ∧ i ≤ n ∧ ∀ p, 0 ≤ p → p < (i : Int) → sg_g σ2 55 p = -1, fun σ2 => ∀ p, 0 ≤ p → p < (n : Int) → sg_g σ2 55 p = -1, ⟨_, 0, rfl, rfl, Nat.zero_le _, fun p a b => by omega⟩, ?_, ?_⟩
  · rintro m v1 σ2 r1 f2 ⟨i, rfl, em, hi, hp⟩
    refine ⟨fun z p a b => hp p a (by omega), fun z σ41 e41 => ⟨⟨by omega, by omega⟩, n - (i + 1), by omega, i + 1, by omega, rfl, by omega, fun p a b => ?_⟩⟩
    rw [xp_in ⟨by omega, by omega⟩] at e41
    by_cases c : p = i
    · rw [c, e41, sg_gw_e _ _ _ _ (by decide)]
    · rw [e41, sg_gw_k _ _ _ _ _ _ c]; exact hp p a (by omega)
  · intro σ2 f2 h2
    refine ⟨fun m v16 σ17 => ∃ (i : Nat) (g : Int → Int), v16 = i ∧ m = n - i ∧ i ≤ n ∧ ivF n i (nu.drop i) g = ivF n 0 nu (fun _ => -1) ∧ (∀ p, 0 ≤ p → p < (n : Int) → sg_g σ17 55 p = g p) ∧ ∀ p, g p = -1 ∨ 0 ≤ g p, fun σ17 => ∃ g, ivF n 0 nu (fun _ => -1) = some g ∧ ∀ p, 0 ≤ p → p < (n : Int) → sg_g σ17 55 p = g p, ⟨_, 0, fun _ => -1, rfl, rfl, Nat.zero_le _, rfl, fun p a b => h2 p a b, fun p => Or.inl rfl⟩, ?_, ?_⟩
    · rintro m v16 σ17 r16 f17 ⟨i, g, rfl, em, hi, ei, hg, hb⟩
      refine ⟨fun z => ?_, fun z => ?_⟩
      · rw [List.drop_of_length_le (by omega)] at ei
        exact ⟨g, ei.symm, hg⟩
      · obtain ⟨c, hc⟩ := gE_x (l := nu) (i := i) (by omega)
        rw [dr_c hc] at ei
        simp only [ivF] at ei
        have e54 : sx_at σ 54 200 (i : Int) = c := by rw [xa_in ⟨by omega, by omega⟩]; exact h54 i c hc
        rw [e54]
        have F := sg_F_t f2 f17
        refine ⟨fun z1 => k0 (by rw [← ei, if_neg (by omega)]) σ17 F, fun z1 => ⟨fun z2 => k0 (by rw [← ei, if_neg (by omega)]) σ17 F, fun z2 => ?_⟩⟩
        rw [xa_in (a := 55) ⟨z1, by omega⟩, hg c z1 z2]
        refine ⟨fun z3 σ35 e35 => ⟨⟨by omega, by omega⟩, n - (i + 1), by omega, i + 1, fun y => if y = c then (i : Int) else g y, by omega, rfl, by omega, ?_, fun p a b => ?_, fun p => ?_⟩, fun z3 => k0 (by rw [← ei, if_neg (fun q => by have := q.2.2; omega)]) σ17 F⟩
        · rw [← ei, if_pos]
          rcases hb c with q | q
          · exact ⟨z1, z2, q⟩
          · omega
        · rw [xp_in ⟨z1, by omega⟩] at e35
          by_cases cp : p = c
          · show sg_g σ35 55 p = if p = c then (i : Int) else g p
            rw [if_pos cp, cp, e35, sg_gw_e _ _ _ _ r16]
          · show sg_g σ35 55 p = if p = c then (i : Int) else g p
            rw [if_neg cp, e35, sg_gw_k _ _ _ _ _ _ cp]; exact hg p a b
        · by_cases cp : p = c
          · show (if p = c then (i : Int) else g p) = -1 ∨ 0 ≤ if p = c then (i : Int) else g p
            rw [if_pos cp]; right; omega
          · show (if p = c then (i : Int) else g p) = -1 ∨ 0 ≤ if p = c then (i : Int) else g p
            rw [if_neg cp]; exact hb p
    · rintro σ17 f17 ⟨g, e, hg⟩
      exact k1 g e σ17 (sg_F_t f2 f17) (fun p a b => hg p (by omega) (by omega))
theorem n_permute (hO : nO σ t w) (h21 : sg_g σ 45 21 = 0) (h9 : sg_g σ 45 9 = (d + 1 : Nat)) (hv : cvF σ (d + 1) v x) (hu : cvF σ 1 u y) (k : ∀ σ', sg_F ngL σ σ' → cR σ σ' (d + 1) t w (pyF (if (itF v).length = (itF u).length then (match ivF (itF u).length 0 (nuF u) (fun _ => -1) with
    | none => .inl 6
    | some g => .inr (mkF ((List.range (itF v).length).map (fun i : Nat => (itF v).getD (g i).toNat (nmF 0))), cnL d ((List.range (itF v).length).map (fun i : Nat => (itF v).getD (g i).toNat (nmF 0))))) else .inl 3) w) → Q σ') : V_nPermute σ x y Q := by
  have hB : sg_g σ 45 20 ≤ 9003 := by have := hO.2.2.2.2; omega
  have l2 := (cv_x hv hB).2.2.1
  have lu := nu_l u
  unfold V_nPermute
  rw [cv_len hB hv, cv_len hB hu]
  refine ⟨fun z => ?_, fun z σ2 e2 => ?_⟩
  · have zl : (itF v).length = (itF u).length := by omega
    rw [if_pos zl] at k
    refine n_addAll (L := []) hB (cO_0 h21) hu (by simp only [List.length_nil]; omega) (fun σ5 h5 f5 _ => ?_)
    rw [List.nil_append] at h5
    rw [zl]
    refine n_invert (nu := nuF u) lu (by omega) (fun i c hc => ?_) (fun e σ11 f11 _ _ => ⟨fun q => absurd rfl q, fun _ σ52 e52 => ?_⟩) (fun g e σ11 f11 hg _ _ => ⟨fun _ σ17 e17 => ?_, fun q => absurd q (by decide)⟩)
    · unfold nuF at hc
      rw [List.getElem?_map] at hc
      cases hh : (itF u)[i]? with
      | none => rw [hh] at hc; cases hc
      | some c' =>
        rw [hh] at hc
        have := h5.2.2 i c' hh
        have e1 : c' [] = c := Option.some.inj hc
        rw [← e1]
        exact this.symm
    · rw [e] at k
      obtain ⟨a, b⟩ := n_flt (d := d + 1) hO (sg_F_t (sg_F_m f5 rfl) (sg_F_m f11 rfl)) (by decide) e52
      exact k σ52 a b
    · rw [e] at k
      have f17 : sg_F [22045] σ11 σ17 := by rw [e17]; exact sg_F_w (sg_F_r _ _) rfl _
      have F17 : sg_F [54, 55, 22045] σ σ17 := sg_F_t (sg_F_t (sg_F_m f5 rfl) (sg_F_m f11 rfl)) (sg_F_m f17 rfl)
      have z17 : sg_g σ17 45 21 = 0 := by rw [e17, sg_gw_e _ _ _ _ (by decide)]
      have it : ∀ i : Nat, i < (itF u).length → ∃ c, (itF v).getD (g i).toNat (nmF 0) = c ∧ p_nItemOf σ x (sx_at σ11 55 200 i) ∧ sg_R (v_nItemOf σ x (sx_at σ11 55 200 i)) ∧ cvF σ d c (v_nItemOf σ x (sx_at σ11 55 200 i)) := fun i hi => by
        have gi := iv_all lu e (p := (i : Int)) ⟨by omega, by omega⟩
        obtain ⟨c, hc⟩ := gE_x (l := itF v) (i := (g i).toNat) (by omega)
        obtain ⟨q1, q2, q3⟩ := cv_item hB hv hc
        rw [xa_in ⟨by omega, by omega⟩, hg i (by omega) (by omega)]
        rw [show (((g i).toNat : Nat) : Int) = g i by omega] at q1 q2 q3
        exact ⟨c, by rw [List.getD_eq_getElem?_getD, hc, Option.getD_some], q1, q2, q3⟩
      refine ⟨fun n v20 σ21 => ∃ i : Nat, v20 = i ∧ n = (itF u).length - i ∧ i ≤ (itF u).length ∧ cO σ21 d ((List.range i).map (fun i : Nat => (itF v).getD (g i).toNat (nmF 0))), fun σ21 => cO σ21 d ((List.range (itF u).length).map (fun i : Nat => (itF v).getD (g i).toNat (nmF 0))), ⟨_, 0, rfl, rfl, Nat.zero_le _, cO_0 z17⟩, ?_, fun σ3 f3 h3 => n_giveA hO h9 (sg_F_t F17 (sg_F_m f3 rfl)) h3 (by rw [zl] at k; exact k)⟩
      rintro n v20 σ21 r20 f21 ⟨i, rfl, en, hi, hc⟩
      refine ⟨fun z => ?_, fun z => ?_⟩
      · rw [show (itF u).length = i by omega]; exact hc
      · obtain ⟨c, c1, c2, c3, c4⟩ := it i (by omega)
        refine ⟨c2, n_add hc (by rw [List.length_map, List.length_range]; omega) (cvF_F (cvF_F c4 F17 rfl) f21 rfl) c3 (fun σ' h' f' _ => ⟨⟨by omega, by omega⟩, (itF u).length - (i + 1), by omega, i + 1, by omega, rfl, by omega, ?_⟩)⟩
        rw [List.range_succ, List.map_append]
        simp only [List.map_cons, List.map_nil]
        rw [c1]; exact h'
  · rw [if_neg (by omega)] at k
    obtain ⟨a, b⟩ := n_flt (d := d + 1) hO (sg_F_r _ _) (by decide) e2
    exact k σ2 a b
theorem n_gather {L M : List vaF} {a : Int} (h : cO σ d L) (hM : (M.length : Int) = a) (hl : L.length + M.length ≤ 200) (ht : sg_g σ 45 7 = t + a) (t0 : 0 ≤ t ∧ t + a ≤ 3200) (hv : ∀ (i : Nat) (z : vaF), M[i]? = some z → cvF σ d z (sg_g σ 48 (t + i))) (k : ∀ σ', cO σ' d (L ++ M) → sg_g σ' 45 7 = t → sg_F [54, 8045, 22045] σ σ' → Q σ') : V_nGather σ a Q := by
  unfold V_nGather
  rw [ht, show t + a - a = t by omega]
  refine ⟨⟨by omega, by omega⟩, fun σ2 e2 => ?_⟩
  have f2 : sg_F [8045] σ σ2 := by rw [e2]; exact sg_F_w (sg_F_r _ _) rfl _
  have t2 : sg_g σ2 45 7 = t := by rw [e2, sg_gw_e _ _ _ _ ⟨by omega, by omega⟩]
  refine ⟨fun n v5 σ6 => ∃ i : Nat, v5 = i ∧ n = M.length - i ∧ i ≤ M.length ∧ cO σ6 d (L ++ M.take i), fun σ6 => cO σ6 d (L ++ M), ⟨_, 0, rfl, rfl, Nat.zero_le _, by rw [List.take_zero, List.append_nil]; exact cO_F h f2 rfl⟩, ?_, fun σ6 f6 h6 => k σ6 h6 (by rw [sg_F_g f6 (by rfl)]; exact t2) (sg_F_t (sg_F_m f2 rfl) (sg_F_m f6 rfl))⟩
  rintro n v5 σ6 r5 f6 ⟨i, rfl, en, hi, hc⟩
  refine ⟨fun z => ?_, fun z => ?_⟩
  · have : M.take i = M := List.take_of_length_le (by omega)
    rw [this] at hc; exact hc
  · obtain ⟨c, hcc⟩ := gE_x (l := M) (i := i) (by omega)
    have e48 : sx_at σ 48 3200 (t + i) = sg_g σ 48 (t + i) := xa_in ⟨by omega, by omega⟩
    have := n_add (x := sg_g σ 48 (t + i)) (Q := fun σ26 => sg_R ((i : Int) + 1) ∧ ∃ m, m < n ∧ ∃ i' : Nat, (i : Int) + 1 = i' ∧ m = M.length - i' ∧ i' ≤ M.length ∧ cO σ26 d (L ++ M.take i')) hc (by rw [List.length_append, List.length_take]; omega) (cvF_F (cvF_F (hv i c hcc) f2 rfl) f6 rfl) (sg_Rg _ _ _) (fun σ' h' f' => ⟨⟨by omega, by omega⟩, M.length - (i + 1), by omega, i + 1, by omega, rfl, by omega, by rw [tkF_1 hcc, ← List.append_assoc]; exact h'⟩)
    unfold V_nAdd at this
    rw [e48]
    exact ⟨⟨by omega, by omega⟩, this⟩
theorem n_row {M : List vaF} {a : Int} (hO : nO σ (t + a) w) (h21 : sg_g σ 45 21 = 0) (h9 : sg_g σ 45 9 = (d + 1 : Nat)) (hM : (M.length : Int) = a) (hl : M.length ≤ 200) (t0 : 0 ≤ t) (hv : ∀ (i : Nat) (z : vaF), M[i]? = some z → cvF σ d z (sg_g σ 48 (t + i))) (k : ∀ σ', sg_F ngL σ σ' → cR σ σ' (d + 1) t w (pyF (.inr (mkF M, cnL d M)) w) → Q σ') : V_nRow σ a Q := by
  obtain ⟨o1, o2, o3, o4, o5, o6, o7⟩ := id hO
  unfold V_nRow
  refine n_gather (L := []) (t := t) (cO_0 h21) hM (by simp only [List.length_nil]; omega) o2 ⟨t0, by omega⟩ hv (fun σ2 h2 t2 f2 _ => ?_)
  rw [List.nil_append] at h2
  have O2 : nO σ2 t w := ⟨by rw [sg_F_g f2 (by rfl)]; exact o1, t2, by rw [sg_F_g f2 (by rfl)]; exact o3, ⟨t0, by omega⟩, o5, by rw [sg_F_g f2 (by rfl)]; exact o6, by rw [sg_F_g f2 (by rfl)]; exact o7⟩
  exact n_give O2 (by rw [sg_F_g f2 (by rfl)]; exact h9) h2 (fun σ' f' r' _ => k σ' (sg_F_t (sg_F_m f2 rfl) (sg_F_m f' rfl)) (cR_F f2 rfl r'))
/-- sums of lengths -/
theorem ptF_l : ∀ (l : List vaF) (m : List Int), (ptF l m).length = m.length
  | _, [] => rfl
  | l, y :: m => by simp only [ptF, List.length_cons, ptF_l]
theorem pt_at : ∀ (m : List Int) (l : List vaF) (i : Nat) (z : Int), (∀ y ∈ m, 0 ≤ y) → m[i]? = some z → (ptF l m)[i]? = some (mkF ((l.drop (sumF (m.take i)).toNat).take z.toNat))
  | y :: m, l, 0, z, h0, h => by
    simp only [List.getElem?_cons_zero, Option.some.injEq] at h
    subst h
    simp [ptF, sumF]
  | y :: m, l, i + 1, z, h0, h => by
    simp only [List.getElem?_cons_succ] at h
    simp only [ptF, List.getElem?_cons_succ, List.take_succ_cons, sumF]
    rw [pt_at m (l.drop y.toNat) i z (fun q hq => h0 q (by simp [hq])) h, List.drop_drop]
    have y0 := h0 y (by simp)
    have s0 : 0 ≤ sumF (m.take i) := by
      have : ∀ k : List Int, (∀ q ∈ k, 0 ≤ q) → 0 ≤ sumF k := fun k => by
        induction k with
        | nil => intro _; exact Int.le_refl _
        | cons a r ih => intro hq; simp only [sumF]; have := hq a (by simp); have := ih (fun q hq' => hq q (by simp [hq'])); omega
      exact this _ (fun q hq => h0 q (by simp [List.mem_of_mem_take hq]))
    rw [show (y + sumF (m.take i)).toNat = y.toNat + (sumF (m.take i)).toNat by omega]
  | [], l, i, z, h0, h => by simp at h
theorem sm_0 : ∀ (k : List Int), (∀ q ∈ k, 0 ≤ q) → 0 ≤ sumF k
  | [], _ => Int.le_refl _
  | a :: r, h => by
    have := h a (by simp)
    have := sm_0 r (fun q hq => h q (by simp [hq]))
    simp only [sumF]; omega
theorem sm_t {m : List Int} (h : ∀ q ∈ m, 0 ≤ q) (i : Nat) : 0 ≤ sumF (m.take i) ∧ sumF (m.take i) ≤ sumF m := by
  have a := sm_0 (m.take i) (fun q hq => h q (List.mem_of_mem_take hq))
  have b := sm_0 (m.drop i) (fun q hq => h q (List.mem_of_mem_drop hq))
  have c := sumF_a (m.take i) (m.drop i)
  rw [List.take_append_drop] at c
  omega
theorem pt_cn (d : Nat) : ∀ (m : List Int) (l : List vaF), (∀ y ∈ m, 0 ≤ y) → sumF m = l.length → cnL (d + 1) (ptF l m) = m.length + cnL d l
  | [], l, h, hs => by
    simp only [sumF] at hs
    have : l = [] := List.eq_nil_of_length_eq_zero (by omega)
    subst this
    simp [ptF, cnL, sumF]
  | y :: m, l, h, hs => by
    have y0 := h y (by simp)
    have m0 := sm_0 m (fun q hq => h q (by simp [hq]))
    simp only [sumF] at hs
    have ih := pt_cn d m (l.drop y.toNat) (fun q hq => h q (by simp [hq])) (by rw [List.length_drop]; omega)
    have e1 : cnL (d + 1) (mkF (l.take y.toNat) :: ptF (l.drop y.toNat) m) = 1 + cnvF (d + 1) (mkF (l.take y.toNat)) + cnL (d + 1) (ptF (l.drop y.toNat) m) := by
      simp only [cnL, List.length_cons, List.map_cons, sumF]; omega
    have e2 : cnL d l = cnL d (l.take y.toNat) + cnL d (l.drop y.toNat) := by rw [← cnL_a, List.take_append_drop]
    simp only [ptF, List.length_cons]
    rw [e1, cnF_mk, ih, e2]
    omega
theorem tk_d {α : Type} {l : List α} {a i : Nat} {z : α} (h : l[a + i]? = some z) : (l.drop a).take (i + 1) = (l.drop a).take i ++ [z] := tkF_1 (by rw [List.getElem?_drop]; exact h)
theorem cn_tk {l : List vaF} {a i : Nat} {z : vaF} (h : l[a + i]? = some z) : sumF (((l.drop a).take (i + 1)).map (cnvF d)) = sumF (((l.drop a).take i).map (cnvF d)) + cnvF d z := by
  rw [tk_d h, List.map_append, sumF_a]; simp [sumF]
theorem cn_sub (l : List vaF) (a i : Nat) : cnL d ((l.drop a).take i) ≤ cnL d l := by
  have e1 : cnL d l = cnL d (l.take a) + cnL d (l.drop a) := by rw [← cnL_a, List.take_append_drop]
  have e2 : cnL d (l.drop a) = cnL d ((l.drop a).take i) + cnL d ((l.drop a).drop i) := by rw [← cnL_a, List.take_append_drop]
  have := cnL_l d (l.take a)
  have := cnL_l d ((l.drop a).drop i)
  omega
theorem cn_it (h : cvF σ (d + 1) v x) : cnL d (itF v) ≤ 3000 := h.2.2.1
theorem n_keepParts {a3 : Int} (hB : sg_g σ 45 20 + 3 * (itF u).length + (itF v).length + 2 ≤ 9003) (h20 : 0 ≤ sg_g σ 45 20) (h21 : sg_g σ 45 21 = 0) (ht : sg_g σ 45 7 = t) (t0 : 0 ≤ t ∧ t ≤ 3000) (ha3 : a3 = 0 ↔ d = 0) (hv : cvF σ (d + 1) v x) (hu : cvF σ 1 u y) (hn : ∀ q ∈ nuF u, 0 ≤ q) (hs : sumF (nuF u) = (itF v).length) (hc3 : cnL (d + 1) (ptF (itF v) (nuF u)) ≤ 3000) (k : ∀ σ', sg_F [48, 53, 54, 8045, 21045, 22045] σ σ' → cEx σ σ' → sg_g σ' 45 20 = sg_g σ 45 20 + 3 * (itF u).length + (itF v).length + 2 → sg_g σ' 45 21 = 0 → sg_g σ' 45 7 = t + 1 → (∀ i, i < t → sg_g σ' 48 i = sg_g σ 48 i) → cvF σ' (d + 2) (mkF (ptF (itF v) (nuF u))) (sg_g σ' 48 t) → Q σ') : V_nKeepParts σ x y a3 Q := by
  have hB' : sg_g σ 45 20 ≤ 9003 := by omega
  have l2 := (cv_x hv hB').2.2.1
  have l3 := (cv_x hu hB').2.2.1
  have cv3 := (cv_x hv hB').2.2.2
  have lu := nu_l u
  have cit := cn_it hv
  have pcn := pt_cn d (nuF u) (itF v) hn hs
  unfold V_nKeepParts
  rw [cv_len hB' hu]
  refine ⟨fun n v2 v3 σ4 => ∃ i : Nat, v3 = i ∧ n = (itF u).length - i ∧ i ≤ (itF u).length ∧ v2 = sumF ((nuF u).take i) ∧ cEx σ σ4 ∧ sg_g σ4 45 20 = sg_g σ 45 20 + 2 * i + v2 ∧ sg_g σ4 45 21 = 0 ∧ sg_g σ4 45 7 = t + i ∧ (∀ j, j < t → sg_g σ4 48 j = sg_g σ 48 j) ∧ ∀ (j : Nat) (z : vaF), j < i → (ptF (itF v) (nuF u))[j]? = some z → cvF σ4 (d + 1) z (sg_g σ4 48 (t + j)), fun σ4 => cEx σ σ4 ∧ sg_g σ4 45 20 = sg_g σ 45 20 + 2 * (itF u).length + (itF v).length ∧ sg_g σ4 45 21 = 0 ∧ sg_g σ4 45 7 = t + (itF u).length ∧ (∀ j, j < t → sg_g σ4 48 j = sg_g σ 48 j) ∧ ∀ (j : Nat) (z : vaF), (ptF (itF v) (nuF u))[j]? = some z → cvF σ4 (d + 1) z (sg_g σ4 48 (t + j)), ⟨_, 0, rfl, rfl, Nat.zero_le _, rfl, cEx_r _, by omega, h21, by omega, fun _ _ => rfl, fun j z hj => by omega⟩, ?_, ?_⟩
  · rintro n v2 v3 σ4 r2 r3 f4 ⟨i, rfl, en, hi, rfl, a1, a2, a3', a4, a5, a6⟩
    have st := sm_t hn i
    refine ⟨fun z => ?_, fun z => ?_⟩
    · have ei : i = (itF u).length := by omega
      have et : (nuF u).take i = nuF u := List.take_of_length_le (by omega)
      rw [et, hs] at a2
      refine ⟨a1, by rw [a2, ei], a3', by rw [a4, ei], a5, fun j c hj => a6 j c ?_ hj⟩
      have := gE_l hj
      rw [ptF_l] at this
      omega
    · have B4 : sg_g σ4 45 20 ≤ 9003 := by omega
      have u4 := cvF_up a1 hu
      have v4 := cvF_up a1 hv
      obtain ⟨p1, p2, p3⟩ := nu_at B4 u4 (i := i) (by omega)
      have n0 := hn _ (List.mem_of_getElem? p1)
      have st1 := sm_t hn (i + 1)
      rw [tkF_1 p1, sumF_a] at st1
      simp only [sumF] at st1
      generalize hit : v_nItemOf σ4 y (i : Int) = c at *
      refine ⟨p2, ⟨by omega, by omega⟩, ⟨by omega, by omega⟩, ?_⟩
      rw [show sumF ((nuF u).take i) + c - sumF ((nuF u).take i) = c by omega]
      generalize hfr : sumF ((nuF u).take i) = fr at *
      refine ⟨fun m v39 v40 σ41 => ∃ j : Nat, v40 = fr + j ∧ m = c.toNat - j ∧ j ≤ c.toNat ∧ v39 = c + sumF ((((itF v).drop fr.toNat).take j).map (cnvF d)) ∧ cO σ41 d (((itF v).drop fr.toNat).take j), fun v39 σ41 => v39 = cnL d (((itF v).drop fr.toNat).take c.toNat) ∧ cO σ41 d (((itF v).drop fr.toNat).take c.toNat), ⟨_, 0, by omega, rfl, Nat.zero_le _, by simp [sumF], cO_0 a3'⟩, ?_, ?_⟩
      · rintro m v39 v40 σ41 r39 r40 f41 ⟨j, e40, em, hj, e39, hc⟩
        refine ⟨fun z2 => ?_, fun z2 => ?_⟩
        · have ej : j = c.toNat := by omega
          subst ej
          refine ⟨?_, hc⟩
          unfold cnL
          rw [e39, List.length_take, List.length_drop]
          omega
        · obtain ⟨b, hb⟩ := gE_x (l := itF v) (i := fr.toNat + j) (by omega)
          obtain ⟨q1, q2, q3⟩ := cv_item B4 v4 hb
          rw [show ((fr.toNat + j : Nat) : Int) = v40 by omega] at q1 q2 q3
          have stp := cn_tk (d := d) hb
          have sub := cn_sub (d := d) (itF v) fr.toNat (j + 1)
          have sub0 := sum_0 d (((itF v).drop fr.toNat).take (j + 1))
          have sub1 := sum_0 d (((itF v).drop fr.toNat).take j)
          have cb0 := cnF_0 d b
          unfold cnL at sub cit
          have l1 : 0 ≤ ((((itF v).drop fr.toNat).take (j + 1)).length : Int) := Int.natCast_nonneg _
          refine ⟨q1, n_add hc (by rw [List.length_take]; omega) (cvF_F q3 f41 rfl) q2 (fun σ' h' f' _ => ⟨⟨fun _ => trivial, fun z3 => ?_⟩, fun v75 e75 r75 => ?_⟩)⟩
          · obtain ⟨d', rfl⟩ : ∃ d', d = d' + 1 := ⟨d - 1, by have := fun e => z3 (ha3.mpr e); omega⟩
            exact ⟨q1, (cv_cnt B4 q3).1, trivial⟩
          · have ev : v75 = cnvF d b := by
              rw [e75]
              by_cases d0 : d = 0
              · rw [if_pos (ha3.mpr d0)]; subst d0; rfl
              · rw [if_neg (fun q => d0 (ha3.mp q))]
                obtain ⟨d', rfl⟩ : ∃ d', d = d' + 1 := ⟨d - 1, by omega⟩
                exact (cv_cnt B4 q3).2
            refine ⟨⟨by omega, by omega⟩, ⟨by omega, by omega⟩, c.toNat - (j + 1), by omega, j + 1, by omega, rfl, by omega, by rw [stp, ev, e39]; omega, ?_⟩
            rw [tk_d hb]; exact h'
      · rintro v39 σ41 r39 f41 ⟨e39, hc⟩
        have sub := cn_sub (d := d) (itF v) fr.toNat c.toNat
        have ll : (((itF v).drop fr.toNat).take c.toNat).length = c.toNat := by rw [List.length_take, List.length_drop]; omega
        refine n_keep (hs := sg_g σ4 45 20) (t := t + i) hc e39 (by omega) (sg_F_g f41 (by rfl)) ⟨by omega, by rw [ll]; omega⟩ (by rw [sg_F_g f41 (by rfl)]; exact a4) ⟨by omega, by omega⟩ (fun σ' f' k1 k2 k3 k4 k5 k6 k7 _ => ⟨⟨by omega, by omega⟩, (itF u).length - (i + 1), by omega, i + 1, by omega, rfl, by omega, ?_, ?_, ?_, k3, by rw [k4]; omega, fun j hj => ?_, fun j b hj hb => ?_⟩)
        · rw [tkF_1 p1, sumF_a, hfr]; simp [sumF]
        · exact cEx_t a1 (cEx_t (cEx_F f41 rfl) k1)
        · rw [k2, ll]; omega
        · rw [k6 j (by omega), sg_F_ga f41 rfl]; exact a5 j hj
        · by_cases cj : j = i
          · subst cj
            have pa := pt_at (nuF u) (itF v) j c hn p1
            rw [hfr] at pa
            rw [pa] at hb
            rw [← Option.some.inj hb, k5]
            exact k7
          · rw [k6 _ (by omega), sg_F_ga f41 rfl]
            exact cvF_up (cEx_t (cEx_F f41 rfl) k1) (a6 j b (by omega) hb)
  · rintro σ4 f4 ⟨a1, a2, a3', a4, a5, a6⟩
    have B4 : sg_g σ4 45 20 ≤ 9003 := by omega
    have v4 := cvF_up a1 hv
    have cc := cv_cnt B4 v4
    have plen := ptF_l (itF v) (nuF u)
    refine n_gather (L := []) (M := ptF (itF v) (nuF u)) (t := t) (cO_0 a3') (by omega) (by simp only [List.length_nil]; omega) a4 ⟨t0.1, by omega⟩ a6 (fun σ20 h20' t20 f20 _ => ⟨cc.1, ?_, ?_⟩)
    · rw [cc.2]; exact ⟨by have := cnF_0 (d + 1) v; omega, by omega⟩
    · rw [List.nil_append] at h20'
      rw [cc.2]
      have e1 : cnvF (d + 1) v = cnL d (itF v) := rfl
      refine n_keep (hs := sg_g σ4 45 20) (t := t) h20' (by rw [e1]; omega) (by rw [e1]; omega) (sg_F_g f20 (by rfl)) ⟨by omega, by omega⟩ t20 ⟨t0.1, by omega⟩ (fun σ' f' k1 k2 k3 k4 k5 k6 k7 _ => k σ' (sg_F_t (sg_F_t f4 (sg_F_m f20 rfl)) (sg_F_m f' rfl)) (cEx_t a1 (cEx_t (cEx_F f20 rfl) k1)) (by rw [k2]; omega) k3 k4 (fun i hi => by rw [k6 i (by omega), sg_F_ga f20 rfl]; exact a5 i hi) (by rw [k5]; exact k7))
theorem an_t {m : List Int} {i : Nat} {z : Int} (h : m[i]? = some z) : (m.take (i + 1)).any (fun x => decide (x < 0)) = ((m.take i).any (fun x => decide (x < 0)) || decide (z < 0)) := by
  rw [tkF_1 h, List.any_append]; simp
theorem n_divide (hO : nO σ t w) (h21 : sg_g σ 45 21 = 0) (h9 : sg_g σ 45 9 = (d + 2 : Nat)) (hv : cvF σ (d + 1) v x) (hu : cvF σ 1 u y) (k : ∀ σ', sg_F ngL σ σ' → cR σ σ' (d + 2) t w (pyF (if (nuF u).any (fun x => decide (x < 0)) = true then .inl 5 else if sumF (nuF u) = (itF v).length then .inr (mkF (ptF (itF v) (nuF u)), cnL (d + 1) (ptF (itF v) (nuF u))) else .inl 3) w) → Q σ') : V_nDivide σ x y Q := by
  obtain ⟨o1, o2, o3, o4, o5, o6, o7⟩ := id hO
  have hB : sg_g σ 45 20 ≤ 9003 := by omega
  have l2 := (cv_x hv hB).2.2.1
  have l3 := (cv_x hu hB).2.2.1
  have cv3 := (cv_x hv hB).2.2.2
  have lu := nu_l u
  unfold V_nDivide
  rw [cv_len hB hv, cv_len hB hu]
  refine ⟨fun n v2 v3 v4 => ∃ i : Nat, v4 = i ∧ n = (itF u).length - i ∧ i ≤ (itF u).length ∧ v2 = sumF ((nuF u).take i) ∧ (v2 ≤ 2147483648 * i ∧ -2147483648 * (i : Int) ≤ v2) ∧ (v3 = if ((nuF u).take i).any (fun x => decide (x < 0)) = true then 1 else 0), fun v2 v3 => v2 = sumF (nuF u) ∧ v3 = (if (nuF u).any (fun x => decide (x < 0)) = true then 1 else 0), ⟨_, 0, rfl, rfl, Nat.zero_le _, rfl, ⟨by omega, by omega⟩, rfl⟩, ?_, ?_⟩
  · rintro n v2 v3 v4 r2 r3 r4 ⟨i, rfl, en, hi, e2, b2, e3⟩
    refine ⟨fun z => ?_, fun z => ?_⟩
    · have et : (nuF u).take i = nuF u := List.take_of_length_le (by omega)
      rw [et] at e2 e3
      exact ⟨e2, e3⟩
    · obtain ⟨p1, p2, p3⟩ := nu_at hB hu (i := i) (by omega)
      have p3' := p3.1
      have p3'' := p3.2
      refine ⟨⟨fun _ => trivial, fun _ => ⟨p2, fun _ => trivial, fun _ => trivial⟩⟩, fun v62 e62 r62 => ⟨p2, ⟨by omega, by omega⟩, ⟨by omega, by omega⟩, (itF u).length - (i + 1), by omega, i + 1, by omega, rfl, by omega, ?_, ⟨by omega, by omega⟩, ?_⟩⟩
      · rw [tkF_1 p1, sumF_a, e2]; simp [sumF]
      · rw [e62, an_t p1, e3]
        by_cases c : ((nuF u).take i).any (fun x => decide (x < 0)) = true
        · rw [c]; simp
        · rw [if_neg c]
          have cf : ((nuF u).take i).any (fun x => decide (x < 0)) = false := by simpa using c
          rw [cf, Bool.false_or, if_neg (fun q => q rfl)]
          by_cases c2 : 0 ≤ v_nItemOf σ y (i : Int)
          · rw [if_pos c2, if_neg (by simp; omega)]
          · rw [if_neg c2, if_pos (by simp; omega)]
  · rintro v2 v3 r2 r3 ⟨e2, e3⟩
    have flt : ∀ e σ', sg_R e ∧ ¬ e = 0 → σ' = sg_w σ 45 10 e → (if (nuF u).any (fun x => decide (x < 0)) = true then (.inl 5 : Int ⊕ (vaF × Int)) else if sumF (nuF u) = (itF v).length then .inr (mkF (ptF (itF v) (nuF u)), cnL (d + 1) (ptF (itF v) (nuF u))) else .inl 3) = .inl e → Q σ' := fun e σ' he e' h => by
      rw [h] at k
      obtain ⟨a, b⟩ := n_flt (d := d + 2) hO (sg_F_r _ _) he e'
      exact k σ' a b
    by_cases c : (nuF u).any (fun x => decide (x < 0)) = true
    · rw [if_pos c] at e3
      subst e3
      exact ⟨fun _ => ⟨fun q => absurd q (by decide), fun _ σ26 e26 => flt 5 σ26 (by decide) e26 (by rw [if_pos c])⟩, fun q => absurd q (by decide)⟩
    · rw [if_neg c] at e3
      subst e3
      refine ⟨fun q => absurd rfl q, fun _ => ⟨fun z => ?_, fun z => ⟨fun _ σ53 e53 => flt 3 σ53 (by decide) e53 (by rw [if_neg c, if_neg (by rw [← e2]; exact z)]), fun q => absurd rfl q⟩⟩⟩
      have hs : sumF (nuF u) = (itF v).length := by rw [← e2]; exact z
      rw [if_neg c, if_pos hs] at k
      have hn : ∀ q ∈ nuF u, 0 ≤ q := fun q hq => by
        rcases Int.lt_or_le q 0 with h | h
        · exact absurd (List.any_eq_true.mpr ⟨q, hq, by simpa using h⟩) c
        · exact h
      have pcn := pt_cn d (nuF u) (itF v) hn hs
      have cc := cv_cnt hB hv
      have e1 : cnvF (d + 1) v = cnL d (itF v) := rfl
      have cl := cnL_l d (itF v)
      rw [cc.2]
      refine ⟨cc.1, ⟨by omega, by omega⟩, ?_⟩
      unfold V_nSpend
      rw [o3]
      refine ⟨⟨by omega, by omega⟩, fun z2 σ3 e3 _ f3 => ⟨fun q => absurd q (by decide), fun _ v43 e43 r43 => ?_⟩, fun z2 σ6 e6 _ f6 => ⟨fun _ => ?_, fun q => absurd rfl q⟩⟩
      · have f3' : sg_F [23045] σ σ3 := by rw [e3]; exact sg_F_w (sg_F_r _ _) rfl _
        refine n_keepParts (t := t) (d := d) (v := v) (u := u) (by rw [sg_F_g f3' (by rfl)]; omega) (by rw [sg_F_g f3' (by rfl)]; exact o6) (by rw [sg_F_g f3' (by rfl)]; exact h21) (by rw [sg_F_g f3' (by rfl)]; exact o2) o4 ?_ (cvF_F hv f3' rfl) (cvF_F hu f3' rfl) hn hs (by omega) (fun σ' f' k1 k2 k3 k4 k5 k6 _ => k σ' (sg_F_t (sg_F_m f3' rfl) (sg_F_m f' rfl)) ?_)
        · rw [e43, h9]
          by_cases d0 : d = 0
          · subst d0; exact ⟨fun _ => rfl, fun _ => rfl⟩
          · rw [if_neg (by omega)]; exact ⟨fun q => absurd q (by decide), fun q => absurd q d0⟩
        · unfold pyF
          simp only
          rw [if_pos (by omega)]
          refine ⟨by rw [sg_F_g f' (by rfl), sg_F_g f3' (by rfl)]; exact o1, by rw [sg_F_g f' (by rfl), e3, sg_gw_e _ _ _ _ ⟨by omega, by omega⟩]; omega, ⟨by omega, by omega⟩, k4, k3, cEx_t (cEx_F f3' rfl) k1, by rw [k2, sg_F_g f3' (by rfl)]; omega, k6, fun i hi => by rw [k5 i hi, sg_F_ga f3' rfl]⟩
      · have f6' : sg_F [11045] σ σ6 := by rw [e6]; exact sg_F_w (sg_F_r _ _) rfl _
        refine k σ6 (sg_F_m f6' rfl) ?_
        unfold pyF
        simp only
        rw [if_neg (by omega)]
        exact ⟨by rw [e6, sg_gw_e _ _ _ _ (by decide)], by decide, by rw [sg_F_g f6' (by rfl)]; exact o3⟩
end NPR
