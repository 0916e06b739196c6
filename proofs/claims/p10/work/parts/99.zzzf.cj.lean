/-! More operations of the class, exactly: permute, divide. -/
section CJS
variable {σ : sg_S}
theorem xn_invert {n : Nat} {nu : List Int} {Q : Int → sg_S → Prop} (hn : nu.length = n) (h200 : n ≤ 200) (h54 : ∀ (i : Nat) (z : Int), nu[i]? = some z → sg_g σ 75 i = z) (k0 : ivF n 0 nu (fun _ => -1) = none → ∀ σ', sg_F [76] σ σ' → Q 0 σ') (k1 : ∀ g, ivF n 0 nu (fun _ => -1) = some g → ∀ σ', sg_F [76] σ σ' → (∀ p, 0 ≤ p → p < n → sg_g σ' 76 p = g p) → Q 1 σ') : V_xInvert σ (n : Int) Q := by
  unfold V_xInvert
  refine ⟨fun m v1 σ2 => ∃ i : Nat, v1 = i ∧ m = n - i ∧ i ≤ n ∧ ∀ p, 0 ≤ p → p < (i : Int) → sg_g σ2 76 p = -1, fun σ2 => ∀ p, 0 ≤ p → p < (n : Int) → sg_g σ2 76 p = -1, ⟨_, 0, rfl, rfl, Nat.zero_le _, fun p a b => by omega⟩, ?_, ?_⟩
  · rintro m v1 σ2 r1 f2 ⟨i, rfl, em, hi, hp⟩
    refine ⟨fun z p a b => hp p a (by omega), fun z σ41 e41 => ⟨⟨by omega, by omega⟩, n - (i + 1), by omega, i + 1, by omega, rfl, by omega, fun p a b => ?_⟩⟩
    rw [xp_in ⟨by omega, by omega⟩] at e41
    by_cases c : p = i
    · rw [c, e41, sg_gw_e _ _ _ _ (by decide)]
    · rw [e41, sg_gw_k _ _ _ _ _ _ c]; exact hp p a (by omega)
  · intro σ2 f2 h2
    refine ⟨fun m v16 σ17 => ∃ (i : Nat) (g : Int → Int), v16 = i ∧ m = n - i ∧ i ≤ n ∧ ivF n i (nu.drop i) g = ivF n 0 nu (fun _ => -1) ∧ (∀ p, 0 ≤ p → p < (n : Int) → sg_g σ17 76 p = g p) ∧ ∀ p, g p = -1 ∨ 0 ≤ g p, fun σ17 => ∃ g, ivF n 0 nu (fun _ => -1) = some g ∧ ∀ p, 0 ≤ p → p < (n : Int) → sg_g σ17 76 p = g p, ⟨_, 0, fun _ => -1, rfl, rfl, Nat.zero_le _, rfl, fun p a b => h2 p a b, fun p => Or.inl rfl⟩, ?_, ?_⟩
    · rintro m v16 σ17 r16 f17 ⟨i, g, rfl, em, hi, ei, hg, hb⟩
      refine ⟨fun z => ?_, fun z => ?_⟩
      · rw [List.drop_of_length_le (by omega)] at ei
        exact ⟨g, ei.symm, hg⟩
      · obtain ⟨c, hc⟩ := gE_x (l := nu) (i := i) (by omega)
        rw [dr_c hc] at ei
        simp only [ivF] at ei
        have e54 : sx_at σ 75 200 (i : Int) = c := by rw [xa_in ⟨by omega, by omega⟩]; exact h54 i c hc
        rw [e54]
        have F := sg_F_t f2 f17
        refine ⟨fun z1 => k0 (by rw [← ei, if_neg (by omega)]) σ17 F, fun z1 => ⟨fun z2 => k0 (by rw [← ei, if_neg (by omega)]) σ17 F, fun z2 => ?_⟩⟩
        rw [xa_in (a := 76) ⟨z1, by omega⟩, hg c z1 z2]
        refine ⟨fun z3 σ35 e35 => ⟨⟨by omega, by omega⟩, n - (i + 1), by omega, i + 1, fun y => if y = c then (i : Int) else g y, by omega, rfl, by omega, ?_, fun p a b => ?_, fun p => ?_⟩, fun z3 => k0 (by rw [← ei, if_neg (fun q => by have := q.2.2; omega)]) σ17 F⟩
        · rw [← ei, if_pos]
          rcases hb c with q | q
          · exact ⟨z1, z2, q⟩
          · omega
        · rw [xp_in ⟨z1, by omega⟩] at e35
          by_cases cp : p = c
          · show sg_g σ35 76 p = if p = c then (i : Int) else g p
            rw [if_pos cp, cp, e35, sg_gw_e _ _ _ _ r16]
          · show sg_g σ35 76 p = if p = c then (i : Int) else g p
            rw [if_neg cp, e35, sg_gw_k _ _ _ _ _ _ cp]; exact hg p a b
        · by_cases cp : p = c
          · show (if p = c then (i : Int) else g p) = -1 ∨ 0 ≤ if p = c then (i : Int) else g p
            rw [if_pos cp]; right; omega
          · show (if p = c then (i : Int) else g p) = -1 ∨ 0 ≤ if p = c then (i : Int) else g p
            rw [if_neg cp]; exact hb p
    · rintro σ17 f17 ⟨g, e, hg⟩
      exact k1 g e σ17 (sg_F_t f2 f17) (fun p a b => hg p (by omega) (by omega))
end CJS
/-- what miss is followed by may be less -/
theorem vl_m {σ : sg_S} {x : Int} {Q Q' : sg_S → Prop} (h : V_lMiss σ x Q) (hq : ∀ σ', Q σ' → Q' σ') : V_lMiss σ x Q' := by
  unfold V_lMiss at h ⊢
  exact ⟨fun z => hq _ (h.1 z), fun z σ2 e2 => hq _ (h.2 z σ2 e2)⟩
theorem sum_p : ∀ {N : List Int}, (∀ x ∈ N, 0 ≤ x) → 0 ≤ sumF N
  | [], _ => Int.le_refl _
  | x :: r, h => by
    have a := h x (by simp)
    have b := sum_p (N := r) (fun y hy => h y (by simp [hy]))
    simp only [sumF]
    omega
theorem pt_nu : ∀ (N : List Int) (I : List vaF), (∀ x ∈ N, 0 ≤ x) → sumF N = (I.length : Int) → (ptF I N).map (fun v => v []) = N ∧ flF (ptF I N) = I ∧ ∀ v ∈ ptF I N, 0 ≤ v [] ∧ v [] ≤ (I.length : Int)
  | [], I, _, h => by
    have : I = [] := List.eq_nil_of_length_eq_zero (by simp only [sumF] at h; omega)
    rw [this]
    exact ⟨rfl, rfl, fun v hv => by cases hv⟩
  | x :: r, I, hx, h => by
    simp only [sumF] at h
    have x0 := hx x (by simp)
    have r0 : 0 ≤ sumF r := sum_p (fun y hy => hx y (by simp [hy]))
    obtain ⟨a, b, c⟩ := pt_nu r (I.drop x.toNat) (fun y hy => hx y (by simp [hy])) (by rw [List.length_drop]; omega)
    simp only [ptF]
    have l1 : (mkF (I.take x.toNat)) [] = x := by rw [mkF_0, List.length_take]; omega
    refine ⟨by rw [List.map_cons, a, l1], by rw [flF_c, itF_mk, b, List.take_append_drop], fun v hv => ?_⟩
    rcases List.mem_cons.mp hv with e | e
    · rw [e, l1]; omega
    · have := c v e
      rw [List.length_drop] at this
      omega
section CJT
variable {σ : sg_S} {t : Int} {n d : Nat} {f : Nat → Int ⊕ vaF} {s : fSt} {Q : sg_S → Prop}
theorem o_permute {a b : Int} {la lb : List vaF} (h : fP σ t) (hs : ctX σ s) (hD : d + 1 ≤ 3) (h9 : sg_g σ 61 9 = (d + 1 : Nat)) (hn : sg_g σ 61 23 = n) (ha : yX σ (d + 1) a la) (hb : yX σ 1 b lb) (hla : la.length = n) (hlb : lb.length = n) (hf : ∀ i, i < n → f i = if (itF (la.getD i (nmF 0))).length = (itF (lb.getD i (nmF 0))).length then (match ivF (itF (lb.getD i (nmF 0))).length 0 (nuF (lb.getD i (nmF 0))) (fun _ => -1) with
    | none => .inl 6
    | some g => .inr (mkF ((List.range (itF (la.getD i (nmF 0))).length).map (fun j : Nat => (itF (la.getD i (nmF 0))).getD (g j).toNat (nmF 0))))) else .inl 3) (k : ∀ σ', sg_F opL σ σ' → gwX σ σ' (d + 1) ((List.range n).map f) t s → Q σ') : V_fPermute σ a b Q := by
  have n6 := h.2.2.2.2.2.2
  rw [hn] at n6
  have hbd : ∀ i, i < n → 0 ≤ (fOv (f i)) [] ∧ (fOv (f i)) [] ≤ 200 := fun i hi => by
    have q2 := (yX_ln h.1 ha (j := i) (by omega)).2.2.2.1
    rw [hf i hi]
    by_cases c : (itF (la.getD i (nmF 0))).length = (itF (lb.getD i (nmF 0))).length
    · rw [if_pos c]
      cases ivF (itF (lb.getD i (nmF 0))).length 0 (nuF (lb.getD i (nmF 0))) (fun _ => -1) with
      | none =>
        show (0 : Int) ≤ 0 ∧ (0 : Int) ≤ 200
        exact ⟨by decide, by decide⟩
      | some g =>
        show 0 ≤ mkF _ [] ∧ mkF _ [] ≤ 200
        rw [mkF_0, List.length_map, List.length_range]
        omega
    · rw [if_neg c]
      exact ⟨by decide, by decide⟩
  unfold V_fPermute
  rw [hn]
  refine ⟨fun m v σ2 => ∃ j : Nat, v = j ∧ j ≤ n ∧ m = n - j ∧ toX σ2 d ((List.range j).map (fun i => (fOv (f i)) [])) [] (flF ((List.range j).map (fun i => fOv (f i)))) (fOe ((List.range j).map f)), fun σ2 => toX σ2 d ((List.range n).map (fun i => (fOv (f i)) [])) [] (flF ((List.range n).map (fun i => fOv (f i)))) (fOe ((List.range n).map f)), ⟨_, 0, rfl, Nat.zero_le _, rfl, toX_0 h.2.1 d⟩, ?_, fun σ2 f2 ht => str_X h hs hD h9 (sg_F_m f2 rfl) (Or.inl ht) hbd (fun σ' f' r' _ => k σ' f' r')⟩
  rintro m v' σ2 rv f2 ⟨j, rfl, hj, hm, ht⟩
  refine ⟨fun z => by rw [show n = j by omega]; exact ht, fun z => ?_⟩
  have jl : j < la.length := by omega
  have jb : j < lb.length := by omega
  have ex2 : yEx σ σ2 := yEx_F f2 rfl
  have g2 : yG σ2 := yG_F h.1 f2 rfl
  obtain ⟨l1, l2, l3, l4, l5, l6, l7, l8⟩ := yX_ln h.1 ha jl
  obtain ⟨m1, m2, m3, m4, m5, m6, m7, m8⟩ := yX_ln g2 (yX_up ex2 ha) jl
  obtain ⟨k1, k2, k3, k4, k5, k6, k7, k8⟩ := yX_ln g2 (yX_up ex2 hb) jb
  have hfj := hf j (by omega)
  have fl6 := flw_l (w := fun i => fOv (f i)) (j := j) (fun i hi => (hbd i (by omega)).2)
  have nu := fun i hi => yX_nu g2 (yX_up ex2 hb) (j := j) (i := i) jb hi
  have nl := nu_l (lb.getD j (nmF 0))
  have pk1 := fun i hi => pkX_1 h.1 ha (j := j) (a := i) jl hi
  generalize hN : nuF (lb.getD j (nmF 0)) = N at *
  generalize hI : itF (la.getD j (nmF 0)) = I at *
  -- a size q behind what was told, and its picks
  have go : ∀ (q : Nat) (σ24 : sg_S) (e' : Int) (g : Int → Int), q ≤ 200 → sg_F [75, 76, 83, 85, 86, 87, 12077, 14077, 15077, 16077] σ σ24 → toX σ24 d ((List.range j).map (fun i => (fOv (f i)) [])) [] (flF ((List.range j).map (fun i => fOv (f i)))) e' → (∀ p : Nat, p < q → 0 ≤ g p ∧ g p < I.length ∧ sg_g σ24 76 p = g p) → (fOv (f j)) [] = (q : Int) → itF (fOv (f j)) = (List.range q).map (fun p : Nat => I.getD (g p).toNat (nmF 0)) → e' = fOe ((List.range (j + 1)).map f) → p_lStart σ a (j : Int) ∧ V_lFirst σ24 (q : Int) (fun σ32 => sg_F [83, 12077, 16077] σ24 σ32 → (∃ (I40 : Nat → Int → sg_S → Prop) (X42 : sg_S → Prop), (∃ n, I40 n (0) σ32) ∧ (∀ (n50 : Nat) (v37 : Int) (σ38 : sg_S), sg_R v37 → sg_F [85, 86, 87, 14077, 16077] σ32 σ38 → I40 n50 v37 σ38 → (((q : Int) ≤ v37 → X42 σ38) ∧ (v37 < (q : Int) → p_lItems σ (a) ∧ sg_R ((v_lStart σ (a) (j : Int)) + (sx_at σ24 76 200 (v37))) ∧ sg_R (((v_lStart σ (a) (j : Int)) + (sx_at σ24 76 200 (v37))) + 1) ∧ V_lPick σ38 ((v_lItems σ (a))) (((v_lStart σ (a) (j : Int)) + (sx_at σ24 76 200 (v37)))) ((((v_lStart σ (a) (j : Int)) + (sx_at σ24 76 200 (v37))) + 1)) (fun σ60 => sg_F [85, 86, 87, 14077, 16077] σ38 σ60 → sg_R (v37 + 1) ∧ (∃ m, m < n50 ∧ I40 m ((v37 + 1)) σ60))))) ∧ (∀ (σ38 : sg_S), sg_F [85, 86, 87, 14077, 16077] σ32 σ38 → X42 σ38 → sg_R ((j : Int) + 1) ∧ ∃ m', m' < m ∧ ∃ j' : Nat, ((j : Int) + 1) = j' ∧ j' ≤ n ∧ m' = n - j' ∧ toX σ38 d ((List.range j').map (fun i => (fOv (f i)) [])) [] (flF ((List.range j').map (fun i => fOv (f i)))) (fOe ((List.range j').map f))))) := fun q σ24 e' g hq f24 t24 hg e1 e2 e3 => by
    refine ⟨l7, t_first t24 (by rw [List.length_map, List.length_range]; omega) ⟨by omega, by omega⟩ (fun σ32 t32 f32 _ => ?_)⟩
    rw [← e1, ← mrs, e3] at t32
    refine ⟨fun m2 v37 σ38 => ∃ i : Nat, v37 = i ∧ i ≤ q ∧ m2 = q - i ∧ toX σ38 d ((List.range (j + 1)).map (fun i => (fOv (f i)) [])) [] (flF ((List.range j).map (fun i => fOv (f i))) ++ (List.range i).map (fun p : Nat => I.getD (g p).toNat (nmF 0))) (fOe ((List.range (j + 1)).map f)), fun σ38 => toX σ38 d ((List.range (j + 1)).map (fun i => (fOv (f i)) [])) [] (flF ((List.range (j + 1)).map (fun i => fOv (f i)))) (fOe ((List.range (j + 1)).map f)), ⟨_, 0, rfl, Nat.zero_le _, rfl, by rw [List.range_zero, List.map_nil, List.append_nil]; exact t32⟩, ?_, fun σ38 f38 h38 => ⟨⟨by omega, by omega⟩, n - (j + 1), by omega, j + 1, by omega, by omega, rfl, h38⟩⟩
    rintro m2 v37 σ38 r37 f38 ⟨i, rfl, hi1, hm2, ht2⟩
    have ex38 : yEx σ σ38 := yEx_F (sg_F_t f24 (sg_F_t (sg_F_m f32 rfl) (sg_F_m f38 rfl))) rfl
    refine ⟨fun c => ?_, fun c => ?_⟩
    · rw [flw_s, e2, show q = i by omega]; exact ht2
    · obtain ⟨p1, p2, p3⟩ := hg i (by omega)
      have pk := pk1 (g i).toNat (by omega)
      rw [show ((ahF la j + (g i).toNat : Nat) : Int) = (ahF la j : Int) + g i by omega] at pk
      rw [xa_in ⟨by omega, by omega⟩, p3, l2]
      refine ⟨y_pitems _ _, ⟨by omega, by omega⟩, ⟨by omega, by omega⟩, t_pick ht2 (by rw [List.length_append, List.length_map, List.length_range]; omega) (pkX_up ex38 pk) itR ⟨by omega, by omega⟩ (fun σ3 t3 f3 _ => ⟨⟨by omega, by omega⟩, q - (i + 1), by omega, i + 1, by omega, by omega, rfl, ?_⟩)⟩
      rw [mrs (fun p : Nat => I.getD (g p).toNat (nmF 0)), ← List.append_assoc]
      exact t3
  have flt : ∀ (x : Int) (σ7 : sg_S), sg_F [75, 76] σ2 σ7 → sg_R x → f j = .inl x → V_lMiss σ7 x (fun σ29 => sg_F [15077] σ7 σ29 → ∀ Z : Prop, (p_lStart σ a (j : Int) ∧ V_lFirst σ29 0 (fun σ32 => sg_F [83, 12077, 16077] σ29 σ32 → (∃ (I40 : Nat → Int → sg_S → Prop) (X42 : sg_S → Prop), (∃ n, I40 n (0) σ32) ∧ (∀ (n50 : Nat) (v37 : Int) (σ38 : sg_S), sg_R v37 → sg_F [85, 86, 87, 14077, 16077] σ32 σ38 → I40 n50 v37 σ38 → (((0 : Int) ≤ v37 → X42 σ38) ∧ (v37 < (0 : Int) → p_lItems σ (a) ∧ sg_R ((v_lStart σ (a) (j : Int)) + (sx_at σ29 76 200 (v37))) ∧ sg_R (((v_lStart σ (a) (j : Int)) + (sx_at σ29 76 200 (v37))) + 1) ∧ V_lPick σ38 ((v_lItems σ (a))) (((v_lStart σ (a) (j : Int)) + (sx_at σ29 76 200 (v37)))) ((((v_lStart σ (a) (j : Int)) + (sx_at σ29 76 200 (v37))) + 1)) (fun σ60 => sg_F [85, 86, 87, 14077, 16077] σ38 σ60 → sg_R (v37 + 1) ∧ (∃ m, m < n50 ∧ I40 m ((v37 + 1)) σ60))))) ∧ (∀ (σ38 : sg_S), sg_F [85, 86, 87, 14077, 16077] σ32 σ38 → X42 σ38 → sg_R ((j : Int) + 1) ∧ ∃ m', m' < m ∧ ∃ j' : Nat, ((j : Int) + 1) = j' ∧ j' ≤ n ∧ m' = n - j' ∧ toX σ38 d ((List.range j').map (fun i => (fOv (f i)) [])) [] (flF ((List.range j').map (fun i => fOv (f i)))) (fOe ((List.range j').map f))))) → Z) → Z) := fun x σ7 f7 rx ex => t_miss (toX_F ht f7 (yEx_F f7 rfl) rfl) rx (fun σ' t' f' _ Z kz => kz (go 0 σ' _ (fun _ => 0) (by decide) (sg_F_t f2 (sg_F_t (sg_F_m f7 rfl) (sg_F_m f' rfl))) t' (fun p hp => by omega) (by rw [ex]; rfl) (by rw [ex]; show itF (nmF 0) = []; simp [itF, nmF]) (fOe_f ex).symm))
  unfold V_fOrdered
  rw [m1, k1]
  refine ⟨m6, k6, fun c => ?_, fun c => ?_⟩
  · have cl : I.length = (itF (lb.getD j (nmF 0))).length := by omega
    rw [if_pos cl] at hfj
    refine ⟨fun p v6 σ7 => ∃ i : Nat, v6 = i ∧ i ≤ I.length ∧ p = I.length - i ∧ ∀ (q : Nat) (x : Int), q < i → N[q]? = some x → sg_g σ7 75 q = x, fun σ7 => ∀ (q : Nat) (x : Int), N[q]? = some x → sg_g σ7 75 q = x, ⟨_, 0, rfl, Nat.zero_le _, rfl, fun q x hq => by omega⟩, ?_, ?_⟩
    · rintro p v6 σ7 r6 f7 ⟨i, rfl, hi, hp, hw⟩
      refine ⟨fun c2 q x hx => hw q x (by have := gE_l hx; omega) hx, fun c2 => ?_⟩
      obtain ⟨c1, c2', c3, c4⟩ := nu i (by omega)
      rw [k2, c1]
      refine ⟨y_pitems _ _, k7, ⟨by omega, by omega⟩, c2', fun σ42 e42 => ⟨⟨by omega, by omega⟩, I.length - (i + 1), by omega, i + 1, by omega, by omega, rfl, fun q x hq hx => ?_⟩⟩
      rw [xp_in ⟨by omega, by omega⟩] at e42
      by_cases cq : q = i
      · rw [cq] at hx ⊢
        rw [c3] at hx
        cases hx
        rw [e42, sg_gw_e _ _ _ _ c4]
      · rw [e42, sg_gw_k _ _ _ _ _ _ (by omega)]
        exact hw q x (by omega) hx
    · intro σ7 f7 hw
      have nN : N.length = I.length := by omega
      rw [← cl] at hfj
      refine xn_invert (nu := N) nN (by omega) hw (fun e σ22 f22 _ _ => ⟨fun w => absurd rfl w, fun _ => ?_⟩) (fun g e σ22 f22 hg _ _ => ⟨fun _ => ?_, fun w => absurd w (by decide)⟩)
      · rw [e] at hfj
        have F7 : sg_F [75, 76] σ2 σ22 := sg_F_t (sg_F_m f7 rfl) (sg_F_m f22 rfl)
        exact vl_m (flt 6 σ22 F7 (by decide) hfj) (fun σ29 hz f29 _ _ => hz f29 _ id)
      · rw [e] at hfj
        intro _ _
        have F7 : sg_F [75, 76] σ2 σ22 := sg_F_t (sg_F_m f7 rfl) (sg_F_m f22 rfl)
        refine go I.length σ22 _ g (by omega) (sg_F_t f2 (sg_F_m F7 rfl)) (toX_F ht F7 (yEx_F F7 rfl) rfl) (fun p hp => ?_) ?_ ?_ (fOe_nx hfj).symm
        · have gi := iv_all nN e (p := (p : Int)) ⟨by omega, by omega⟩
          exact ⟨gi.1, gi.2, hg p (by omega) (by omega)⟩
        · rw [hfj]
          show mkF _ [] = _
          rw [mkF_0, List.length_map, List.length_range]
        · rw [hfj]
          show itF (mkF _) = _
          rw [itF_mk]
  · have cl : ¬ I.length = (itF (lb.getD j (nmF 0))).length := by omega
    rw [if_neg cl] at hfj
    exact vl_m (flt 3 σ2 (sg_F_r _ _) (by decide) hfj) (fun σ29 hz f29 _ _ => hz f29 _ id)
end CJT
/-! More operations of the class, exactly: divide. -/
theorem flw_m {w : Nat → vaF} : ∀ {n : Nat} {v : vaF}, v ∈ flF ((List.range n).map w) → ∃ i, i < n ∧ v ∈ itF (w i)
  | 0, v, h => by rw [List.range_zero, List.map_nil] at h; exact absurd h (by simp [flF])
  | n + 1, v, h => by
    rw [flw_s] at h
    rcases List.mem_append.mp h with q | q
    · obtain ⟨i, a, b⟩ := flw_m q
      exact ⟨i, by omega, b⟩
    · exact ⟨n, by omega, q⟩
theorem fl_200 : ∀ {l : List vaF}, (∀ v ∈ l, v [] ≤ 200) → (flF l).length ≤ 200 * l.length
  | [], _ => Nat.le_refl _
  | v :: r, h => by
    have a := fl_200 (l := r) (fun w hw => h w (by simp [hw]))
    have b := h v (by simp)
    rw [flF_c, List.length_append, List.length_cons, itF_l]
    omega
theorem any_n {N : List Int} (c : ¬ N.any (fun x => decide (x < 0)) = true) : ∀ x ∈ N, 0 ≤ x := fun x hx => Decidable.byContradiction (fun q => c (List.any_eq_true.mpr ⟨x, hx, decide_eq_true (by omega)⟩))
theorem fOv_l (e : Int) : (0 ≤ (fOv (.inl e)) [] ∧ (fOv (.inl e)) [] ≤ 200) ∧ ∀ v ∈ itF (fOv (.inl e)), 0 ≤ v [] ∧ v [] ≤ 200 := by
  refine ⟨⟨?_, ?_⟩, fun v hv => ?_⟩
  · show (0 : Int) ≤ 0
    decide
  · show (0 : Int) ≤ 200
    decide
  · have : itF (fOv (.inl e)) = [] := by show itF (nmF 0) = []; simp [itF, nmF]
    rw [this] at hv
    cases hv
/-- what a division tells -/
def dvX (σ2 : sg_S) (d : Nat) (f : Nat → Int ⊕ vaF) (j : Nat) : Prop := toX σ2 d ((List.range j).map (fun i => (fOv (f i)) [])) ((flF ((List.range j).map (fun i => fOv (f i)))).map (fun v => v [])) (flF (flF ((List.range j).map (fun i => fOv (f i))))) (fOe ((List.range j).map f))
theorem div_X {σ σ2 : sg_S} {t : Int} {n d : Nat} {f : Nat → Int ⊕ vaF} {s : fSt} {Q : sg_S → Prop} (h : fP σ t) (hs : ctX σ s) (hD : d + 2 ≤ 3) (h9 : sg_g σ 61 9 = (d + 2 : Nat)) (f2 : sg_F acL σ σ2) (ht : dvX σ2 d f n) (hf : ∀ i, i < n → 0 ≤ (fOv (f i)) [] ∧ (fOv (f i)) [] ≤ 200) (hg : ∀ i, i < n → ∀ v ∈ itF (fOv (f i)), 0 ≤ v [] ∧ v [] ≤ 200) (k : ∀ σ', sg_F opL σ σ' → gwX σ σ' (d + 2) ((List.range n).map f) t s → Q σ') : V_fGive σ2 2 Q := by
  have eL : ((List.range n).map f).map fOv = (List.range n).map (fun i => fOv (f i)) := by rw [List.map_map]; rfl
  have fin : ∀ σ', sg_F opL σ σ' → gvX σ σ' (d + 2) ((List.range n).map (fun i => fOv (f i))) (fOe ((List.range n).map f)) t s → Q σ' := fun σ' f' r' => k σ' f' ⟨_, by rw [eL], fun _ => eL.symm, r'⟩
  have bd : ∀ v ∈ (List.range n).map (fun i => fOv (f i)), 0 ≤ v [] ∧ v [] ≤ 200 := fun v hv => by
    obtain ⟨i, hi, e⟩ := List.mem_map.mp hv
    rw [← e]
    exact hf i (List.mem_range.mp hi)
  have bd2 : ∀ v ∈ flF ((List.range n).map (fun i => fOv (f i))), 0 ≤ v [] ∧ v [] ≤ 200 := fun v hv => by
    obtain ⟨i, hi, e⟩ := flw_m hv
    exact hg i hi v e
  exact f_giveX (D := d + 2) (f := 2) (L := (List.range n).map (fun i => fOv (f i))) h hs hD h9 (by decide) f2 ht (Or.inr (Or.inr ⟨rfl, by omega, by rw [List.map_map]; rfl, rfl, bd, Or.inr ⟨by omega, rfl, bd2⟩⟩)) (Or.inl rfl) fin
section CKT
variable {σ : sg_S} {t : Int} {n d : Nat} {f : Nat → Int ⊕ vaF} {s : fSt} {Q : sg_S → Prop}
theorem o_divide {a b : Int} {la lb : List vaF} (h : fP σ t) (hs : ctX σ s) (hD : d + 2 ≤ 3) (h9 : sg_g σ 61 9 = (d + 2 : Nat)) (hn : sg_g σ 61 23 = n) (ha : yX σ (d + 1) a la) (hb : yX σ 1 b lb) (hla : la.length = n) (hlb : lb.length = n) (hf : ∀ i, i < n → f i = if (nuF (lb.getD i (nmF 0))).any (fun x => decide (x < 0)) = true then .inl 5 else if sumF (nuF (lb.getD i (nmF 0))) = ((itF (la.getD i (nmF 0))).length : Int) then .inr (mkF (ptF (itF (la.getD i (nmF 0))) (nuF (lb.getD i (nmF 0))))) else .inl 3) (k : ∀ σ', sg_F opL σ σ' → gwX σ σ' (d + 2) ((List.range n).map f) t s → Q σ') : V_fDivide σ a b Q := by
  have n6 := h.2.2.2.2.2.2
  rw [hn] at n6
  have inn : ∀ i, i < n → (0 ≤ (fOv (f i)) [] ∧ (fOv (f i)) [] ≤ 200) ∧ ∀ v ∈ itF (fOv (f i)), 0 ≤ v [] ∧ v [] ≤ 200 := fun i hi => by
    have q1 := (yX_ln h.1 ha (j := i) (by omega)).2.2.2.1
    have q2 := (yX_ln h.1 hb (j := i) (by omega)).2.2.2.1
    have nl := nu_l (lb.getD i (nmF 0))
    rw [hf i hi]
    by_cases c : (nuF (lb.getD i (nmF 0))).any (fun x => decide (x < 0)) = true
    · rw [if_pos c]; exact fOv_l 5
    · rw [if_neg c]
      by_cases c2 : sumF (nuF (lb.getD i (nmF 0))) = ((itF (la.getD i (nmF 0))).length : Int)
      · rw [if_pos c2]
        obtain ⟨p1, p2, p3⟩ := pt_nu _ _ (any_n c) c2
        refine ⟨?_, ?_⟩
        · show 0 ≤ mkF _ [] ∧ mkF _ [] ≤ 200
          rw [mkF_0, ptF_l]
          omega
        · show ∀ v ∈ itF (mkF _), _
          rw [itF_mk]
          intro v hv
          have := p3 v hv
          omega
      · rw [if_neg c2]; exact fOv_l 3
  unfold V_fDivide
  rw [hn]
  refine ⟨fun m v σ2 => ∃ j : Nat, v = j ∧ j ≤ n ∧ m = n - j ∧ dvX σ2 d f j, fun σ2 => dvX σ2 d f n, ⟨_, 0, rfl, Nat.zero_le _, rfl, toX_0 h.2.1 d⟩, ?_, fun σ2 f2 ht => div_X h hs hD h9 (sg_F_m f2 rfl) ht (fun i hi => (inn i hi).1) (fun i hi => (inn i hi).2) (fun σ' f' r' _ => k σ' f' r')⟩
  rintro m v' σ2 rv f2 ⟨j, rfl, hj, hm, ht⟩
  refine ⟨fun z => by rw [show n = j by omega]; exact ht, fun z => ?_⟩
  have jl : j < la.length := by omega
  have jb : j < lb.length := by omega
  have ex2 : yEx σ σ2 := yEx_F f2 rfl
  have g2 : yG σ2 := yG_F h.1 f2 rfl
  obtain ⟨l1, l2, l3, l4, l5, l6, l7, l8⟩ := yX_ln h.1 ha jl
  obtain ⟨k1, k2, k3, k4, k5, k6, k7, k8⟩ := yX_ln h.1 hb jb
  have hfj := hf j (by omega)
  have nu := fun i hi => yX_nu h.1 hb (j := j) (i := i) jb hi
  have nu2 := fun i hi => yX_nu g2 (yX_up ex2 hb) (j := j) (i := i) jb hi
  rw [vF_lItems f2 rfl] at nu2
  have nl := nu_l (lb.getD j (nmF 0))
  have pkj := pkX_it h.1 ha (j := j) (a := 0) (b := (itF (la.getD j (nmF 0))).length) jl (Nat.zero_le _) (Nat.le_refl _)
  rw [Nat.add_zero, List.drop_zero, Nat.sub_zero, List.take_length] at pkj
  have fl6 := flw_l (w := fun i => fOv (f i)) (j := j) (fun i hi => (inn i (by omega)).1.2)
  have fl7 := fl_200 (l := flF ((List.range j).map (fun i => fOv (f i)))) (fun v hv => by
    obtain ⟨i, hi, e⟩ := flw_m hv
    exact ((inn i (by omega)).2 v e).2)
  rw [l1, k2, k3, l2, l3]
  generalize hN : nuF (lb.getD j (nmF 0)) = N at *
  generalize hI : itF (la.getD j (nmF 0)) = I at *
  rw [← nl] at k3 k4 k5 ⊢
  rw [show ((ahF lb j + N.length : Nat) : Int) - (ahF lb j : Int) = (N.length : Int) by omega]
  have mis : ∀ x, sg_R x → f j = .inl x → V_lMiss σ2 x (fun σ93 => sg_F [15077] σ2 σ93 → V_lFirst σ93 0 (fun σ99 => sg_F [83, 12077, 16077] σ93 σ99 → dvX σ99 d f (j + 1))) := fun x rx ex => t_miss ht rx (fun σ' t' f' _ => t_first t' (by rw [List.length_map, List.length_range]; omega) (by decide) (fun σ3 t3 f3 _ => by
    unfold dvX
    rw [mrs (fun i => (fOv (f i)) []), flw_s, fOe_f ex, ex]
    show toX σ3 d (_ ++ [0]) (List.map _ (_ ++ itF (nmF 0))) (flF (_ ++ itF (nmF 0))) _
    rw [show itF (nmF 0) = [] by simp [itF, nmF], List.append_nil]
    exact t3))
  have lst : ∀ σ40, sg_F [83, 84, 85, 86, 87, 12077, 13077, 14077, 15077, 16077] σ2 σ40 → dvX σ40 d f (j + 1) → sg_R ((j : Int) + 1) ∧ ∃ m', m' < m ∧ ∃ j' : Nat, ((j : Int) + 1) = j' ∧ j' ≤ n ∧ m' = n - j' ∧ dvX σ40 d f j' := fun σ40 f40 h40 => ⟨⟨by omega, by omega⟩, n - (j + 1), by omega, j + 1, by omega, by omega, rfl, h40⟩
  refine ⟨k7, k8, l6, y_pitems _ _, ?_⟩
  unfold V_fCannotDivide
  refine ⟨fun p v1 v2 => ∃ i : Nat, v2 = (ahF lb j : Int) + i ∧ i ≤ N.length ∧ p = N.length - i ∧ v1 = sumF (N.take i) ∧ (∀ x ∈ N.take i, 0 ≤ x) ∧ v1 ≤ 2147483647 * (i : Int), fun v1 => v1 = sumF N ∧ ∀ x ∈ N, 0 ≤ x, ⟨_, 0, by omega, Nat.zero_le _, rfl, rfl, fun x hx => by simp at hx, by omega⟩, ?_, ?_⟩
  · rintro p v1 v2 rv1 rv2 ⟨i, rfl, hi, hp, e1, e2, e3⟩
    refine ⟨fun c => ?_, fun c => ?_⟩
    · have ei : i = N.length := by omega
      rw [ei, List.take_length] at e1 e2
      exact ⟨e1, e2⟩
    · obtain ⟨c1, c2, c3, c4⟩ := nu2 i (by omega)
      rw [c1]
      generalize N.getD i 0 = x at *
      have tk : N.take (i + 1) = N.take i ++ [x] := by rw [List.take_succ, c3]; rfl
      have s0 := sum_p e2
      rw [← e1] at s0
      have c4' := c4.2
      refine ⟨c2, fun y => ⟨⟨by omega, by omega⟩, ⟨by omega, by omega⟩, N.length - (i + 1), by omega, i + 1, by omega, by omega, rfl, ?_, ?_, by omega⟩, fun y _ => ?_⟩
      · rw [tk, sumF_a, ← e1]
        simp only [sumF]
        omega
      · intro w hw
        rw [tk] at hw
        rcases List.mem_append.mp hw with q | q
        · exact e2 w q
        · rw [List.mem_singleton.mp q]; exact y
      · have an : N.any (fun x => decide (x < 0)) = true := List.any_eq_true.mpr ⟨x, List.mem_of_getElem? c3, decide_eq_true y⟩
        rw [if_pos an] at hfj
        exact ⟨fun σ40 => dvX σ40 d f (j + 1), ⟨fun w => absurd w (by decide), fun _ => mis 5 (by decide) hfj⟩, lst⟩
  · rintro v1 rv1 ⟨e1, e2⟩
    have na : ¬ N.any (fun x => decide (x < 0)) = true := fun q => by
      obtain ⟨x, hx, y⟩ := List.any_eq_true.mp q
      have := e2 x hx
      have := of_decide_eq_true y
      omega
    rw [if_neg na] at hfj
    refine ⟨fun c _ => ?_, fun c _ => ?_⟩
    · rw [if_neg (by rw [← e1]; exact c)] at hfj
      exact ⟨fun σ40 => dvX σ40 d f (j + 1), ⟨fun w => absurd w (by decide), fun _ => mis 3 (by decide) hfj⟩, lst⟩
    · have sm : sumF N = (I.length : Int) := by rw [← e1]; exact c
      rw [if_pos sm] at hfj
      obtain ⟨p1, p2, -⟩ := pt_nu N I e2 sm
      have w1 : (fOv (f j)) [] = (N.length : Int) := by
        rw [hfj]
        show mkF _ [] = _
        rw [mkF_0, ptF_l]
      have w2 : itF (fOv (f j)) = ptF I N := by
        rw [hfj]
        show itF (mkF _) = _
        rw [itF_mk]
      refine ⟨fun σ40 => dvX σ40 d f (j + 1), ⟨fun _ => ⟨⟨by omega, by omega⟩, t_first ht (by rw [List.length_map, List.length_range]; omega) ⟨by omega, by omega⟩ (fun σ47 t47 f47 _ => ?_)⟩, fun w => absurd rfl w⟩, lst⟩
      have t48 : toX σ47 d ((List.range (j + 1)).map (fun i => (fOv (f i)) [])) ((flF ((List.range j).map (fun i => fOv (f i)))).map (fun v => v [])) (flF (flF ((List.range j).map (fun i => fOv (f i))))) (fOe ((List.range j).map f)) := by
        rw [mrs (fun i => (fOv (f i)) []), w1]
        exact t47
      refine ⟨fun m2 v52 σ53 => ∃ i : Nat, v52 = (ahF lb j : Int) + i ∧ i ≤ N.length ∧ m2 = N.length - i ∧ toX σ53 d ((List.range (j + 1)).map (fun i => (fOv (f i)) [])) ((flF ((List.range j).map (fun i => fOv (f i)))).map (fun v => v []) ++ N.take i) (flF (flF ((List.range j).map (fun i => fOv (f i))))) (fOe ((List.range j).map f)), fun σ53 => toX σ53 d ((List.range (j + 1)).map (fun i => (fOv (f i)) [])) ((flF ((List.range j).map (fun i => fOv (f i)))).map (fun v => v []) ++ N) (flF (flF ((List.range j).map (fun i => fOv (f i))))) (fOe ((List.range j).map f)), ⟨_, 0, by omega, Nat.zero_le _, rfl, by rw [List.take_zero, List.append_nil]; exact t48⟩, ?_, ?_⟩
      · rintro m2 v52 σ53 r52 f53 ⟨i, rfl, hi, hp, h53⟩
        refine ⟨fun c => ?_, fun c => ?_⟩
        · have ei : i = N.length := by omega
          rw [ei, List.take_length] at h53
          exact h53
        · obtain ⟨c1, c2, c3, c4⟩ := nu i (by omega)
          rw [c1]
          generalize N.getD i 0 = x at *
          refine ⟨y_pitems _ _, c2, t_second h53 (by rw [List.length_append, List.length_map, List.length_take]; omega) c4 (fun σ3 t3 f3 _ => ⟨⟨by omega, by omega⟩, N.length - (i + 1), by omega, i + 1, by omega, by omega, rfl, ?_⟩)⟩
          rw [List.take_succ, c3, ← List.append_assoc]
          exact t3
      · intro σ53 f53 h53
        have ex53 : yEx σ σ53 := yEx_F (sg_F_t f2 (sg_F_t (sg_F_m f47 rfl) (sg_F_m f53 rfl))) rfl
        refine ⟨y_pitems _ _, l7, l8, t_pick h53 (by omega) (pkX_up ex53 pkj) itR ⟨by omega, by omega⟩ (fun σ74 t74 f74 _ => ?_)⟩
        unfold dvX
        rw [flw_s, fOe_nx hfj, List.map_append, flF_a, w2, p1, p2]
        exact t74
end CKT
/-! THE FLAT RUN of the class, turn by turn, to an end X. -/
def Ry (σ : sg_S) (X : sg_S → Prop) : Nat → sg_S → Prop
  | 0, σ8 => X σ8
  | n + 1, σ8 => (sg_g σ8 61 8 < 0 → X σ8) ∧ (¬ sg_g σ8 61 10 = 0 → X σ8) ∧ (0 ≤ sg_g σ8 61 8 → sg_g σ8 61 10 = 0 → sg_R (sg_g σ8 61 8 + 1) ∧ ∀ σ32, σ32 = (sg_w σ8 61 8 (((sg_g σ8 61 8) + 1))) → mStp σ σ8 σ32 (Ry σ X n))
theorem ry_s {σ σ8 : sg_S} {X : sg_S → Prop} {m : Nat} (h : ¬ sg_g σ8 61 10 = 0) (hX : X σ8) : Ry σ X m σ8 := by
  cases m with
  | zero => exact hX
  | succ m => exact ⟨fun _ => hX, fun _ => hX, fun _ z => absurd z h⟩
theorem ry_z {σ σ8 : sg_S} {X : sg_S → Prop} {m : Nat} (h : sg_g σ8 61 8 < 0) (hX : X σ8) : Ry σ X m σ8 := by
  cases m with
  | zero => exact hX
  | succ m => exact ⟨fun _ => hX, fun _ => hX, fun z _ => absurd z (by omega)⟩
theorem ry_0 {σ σ8 : sg_S} {X : sg_S → Prop} {m : Nat} {p k : Int} (hp : sg_g σ8 61 8 = p) (h0 : 0 ≤ p ∧ p < 1013) (hz : sg_g σ8 61 10 = 0) (h29 : sg_g σ 29 p = 0) (h30 : sg_g σ 30 p = k) (h : ∀ σ32, σ32 = sg_w σ8 61 8 (p + 1) → V_fBegin σ32 (k) (fun σ45 => sg_F [69, 11061, 18077, 19077, 25061] σ32 σ45 → (Ry σ X m) σ45)) : Ry σ X (m + 1) σ8 := by
  refine ⟨fun z => by omega, fun z => absurd hz z, fun _ _ => ?_⟩
  refine ⟨⟨by omega, by omega⟩, fun σ32 e32 => ?_⟩
  unfold mStp
  rw [hp] at e32 ⊢
  rw [xa_in (a := 29) h0, xa_in (a := 30) h0, h29, h30]
  exact ⟨fun _ => h σ32 e32, fun z => absurd rfl z⟩
theorem ry_1 {σ σ8 : sg_S} {X : sg_S → Prop} {m : Nat} {p k : Int} (hp : sg_g σ8 61 8 = p) (h0 : 0 ≤ p ∧ p < 1013) (hz : sg_g σ8 61 10 = 0) (h29 : sg_g σ 29 p = 1) (h30 : sg_g σ 30 p = k) (h : ∀ σ32, σ32 = sg_w σ8 61 8 (p + 1) → V_mFinish σ32 (k) (fun σ53 => sg_F [62, 64, 78, 79, 80, 81, 82, 83, 85, 86, 87, 8061, 10061, 11061, 11077, 12077, 13077, 14077, 15077, 16077, 17077, 18077, 19077, 23061, 24061] σ32 σ53 → (Ry σ X m) σ53)) : Ry σ X (m + 1) σ8 := by
  refine ⟨fun z => by omega, fun z => absurd hz z, fun _ _ => ?_⟩
  refine ⟨⟨by omega, by omega⟩, fun σ32 e32 => ?_⟩
  unfold mStp
  rw [hp] at e32 ⊢
  rw [xa_in (a := 29) h0, xa_in (a := 30) h0, h29, h30]
  exact ⟨fun z => absurd z (by decide), fun _ => ⟨fun _ => h σ32 e32, fun z => absurd rfl z⟩⟩
theorem ry_2 {σ σ8 : sg_S} {X : sg_S → Prop} {m : Nat} {p k : Int} (hp : sg_g σ8 61 8 = p) (h0 : 0 ≤ p ∧ p < 1013) (hz : sg_g σ8 61 10 = 0) (h29 : sg_g σ 29 p = 2) (h30 : sg_g σ 30 p = k) (h : ∀ σ32, σ32 = sg_w σ8 61 8 (p + 1) → V_mFinishOne σ32 (k) (fun σ61 => sg_F [64, 78, 79, 80, 81, 82, 83, 84, 85, 86, 87, 8061, 10061, 11061, 11077, 12077, 13077, 14077, 15077, 16077, 17077, 18077, 19077] σ32 σ61 → (Ry σ X m) σ61)) : Ry σ X (m + 1) σ8 := by
  refine ⟨fun z => by omega, fun z => absurd hz z, fun _ _ => ?_⟩
  refine ⟨⟨by omega, by omega⟩, fun σ32 e32 => ?_⟩
  unfold mStp
  rw [hp] at e32 ⊢
  rw [xa_in (a := 29) h0, xa_in (a := 30) h0, h29, h30]
  exact ⟨fun z => absurd z (by decide), fun _ => ⟨fun z => absurd z (by decide), fun _ => ⟨fun _ => h σ32 e32, fun z => absurd rfl z⟩⟩⟩
theorem ry_3 {σ σ8 : sg_S} {X : sg_S → Prop} {m : Nat} {p k : Int} (hp : sg_g σ8 61 8 = p) (h0 : 0 ≤ p ∧ p < 1013) (hz : sg_g σ8 61 10 = 0) (h29 : sg_g σ 29 p = 3) (h30 : sg_g σ 30 p = k) (h : ∀ σ32, σ32 = sg_w σ8 61 8 (p + 1) → V_mFinishTwo σ32 (k) (fun σ69 => sg_F [64, 75, 76, 78, 79, 80, 81, 82, 83, 84, 85, 86, 87, 8061, 10061, 11061, 11077, 12077, 13077, 14077, 15077, 16077, 17077, 18077, 19077] σ32 σ69 → (Ry σ X m) σ69)) : Ry σ X (m + 1) σ8 := by
  refine ⟨fun z => by omega, fun z => absurd hz z, fun _ _ => ?_⟩
  refine ⟨⟨by omega, by omega⟩, fun σ32 e32 => ?_⟩
  unfold mStp
  rw [hp] at e32 ⊢
  rw [xa_in (a := 29) h0, xa_in (a := 30) h0, h29, h30]
  exact ⟨fun z => absurd z (by decide), fun _ => ⟨fun z => absurd z (by decide), fun _ => ⟨fun z => absurd z (by decide), fun _ => ⟨fun _ => h σ32 e32, fun z => absurd rfl z⟩⟩⟩⟩
theorem ry_4 {σ σ8 : sg_S} {X : sg_S → Prop} {m : Nat} {p k : Int} (hp : sg_g σ8 61 8 = p) (h0 : 0 ≤ p ∧ p < 1013) (hz : sg_g σ8 61 10 = 0) (h29 : sg_g σ 29 p = 4) (h30 : sg_g σ 30 p = k) (h : ∀ σ32, σ32 = sg_w σ8 61 8 (p + 1) → V_mPop σ32  (fun q76 σ77 => sg_R q76 → sg_F [8061] σ32 σ77 → ∀ σ82, σ82 = (sx_put σ77 62 272 ((sx_at σ 16 200 (k))) (q76)) → (Ry σ X m) σ82)) : Ry σ X (m + 1) σ8 := by
  refine ⟨fun z => by omega, fun z => absurd hz z, fun _ _ => ?_⟩
  refine ⟨⟨by omega, by omega⟩, fun σ32 e32 => ?_⟩
  unfold mStp
  rw [hp] at e32 ⊢
  rw [xa_in (a := 29) h0, xa_in (a := 30) h0, h29, h30]
  exact ⟨fun z => absurd z (by decide), fun _ => ⟨fun z => absurd z (by decide), fun _ => ⟨fun z => absurd z (by decide), fun _ => ⟨fun z => absurd z (by decide), fun _ => ⟨fun _ => h σ32 e32, fun z => absurd rfl z⟩⟩⟩⟩⟩
theorem ry_5 {σ σ8 : sg_S} {X : sg_S → Prop} {m : Nat} {p k : Int} (hp : sg_g σ8 61 8 = p) (h0 : 0 ≤ p ∧ p < 1013) (hz : sg_g σ8 61 10 = 0) (h29 : sg_g σ 29 p = 5) (h30 : sg_g σ 30 p = k) (h : ∀ σ32, σ32 = sg_w σ8 61 8 (p + 1) → V_mEnter σ32 ((sx_at σ 16 200 (k))) (fun σ88 => sg_F [62, 63, 8061, 9061] σ32 σ88 → (Ry σ X m) σ88)) : Ry σ X (m + 1) σ8 := by
  refine ⟨fun z => by omega, fun z => absurd hz z, fun _ _ => ?_⟩
  refine ⟨⟨by omega, by omega⟩, fun σ32 e32 => ?_⟩
  unfold mStp
  rw [hp] at e32 ⊢
  rw [xa_in (a := 29) h0, xa_in (a := 30) h0, h29, h30]
  exact ⟨fun z => absurd z (by decide), fun _ => ⟨fun z => absurd z (by decide), fun _ => ⟨fun z => absurd z (by decide), fun _ => ⟨fun z => absurd z (by decide), fun _ => ⟨fun z => absurd z (by decide), fun _ => ⟨fun _ => h σ32 e32, fun z => absurd rfl z⟩⟩⟩⟩⟩⟩
theorem ry_6 {σ σ8 : sg_S} {X : sg_S → Prop} {m : Nat} {p k : Int} (hp : sg_g σ8 61 8 = p) (h0 : 0 ≤ p ∧ p < 1013) (hz : sg_g σ8 61 10 = 0) (h29 : sg_g σ 29 p = 6) (h30 : sg_g σ 30 p = k) (h : ∀ σ32, σ32 = sg_w σ8 61 8 (p + 1) → ∀ σ95, σ95 = (sg_w σ32 61 8 ((sx_at σ8 63 13 (k)))) → (Ry σ X m) σ95) : Ry σ X (m + 1) σ8 := by
  refine ⟨fun z => by omega, fun z => absurd hz z, fun _ _ => ?_⟩
  refine ⟨⟨by omega, by omega⟩, fun σ32 e32 => ?_⟩
  unfold mStp
  rw [hp] at e32 ⊢
  rw [xa_in (a := 29) h0, xa_in (a := 30) h0, h29, h30]
  exact ⟨fun z => absurd z (by decide), fun _ => ⟨fun z => absurd z (by decide), fun _ => ⟨fun z => absurd z (by decide), fun _ => ⟨fun z => absurd z (by decide), fun _ => ⟨fun z => absurd z (by decide), fun _ => ⟨fun z => absurd z (by decide), fun _ => ⟨fun _ => h σ32 e32, fun z => absurd rfl z⟩⟩⟩⟩⟩⟩⟩
theorem ry_7 {σ σ8 : sg_S} {X : sg_S → Prop} {m : Nat} {p k : Int} (hp : sg_g σ8 61 8 = p) (h0 : 0 ≤ p ∧ p < 1013) (hz : sg_g σ8 61 10 = 0) (h29 : sg_g σ 29 p = 7) (h30 : sg_g σ 30 p = k) (h : ∀ σ32, σ32 = sg_w σ8 61 8 (p + 1) → V_fFork σ32 (k) (fun σ101 => sg_F [62, 70, 71, 72, 73, 74, 78, 79, 80, 81, 82, 85, 86, 87, 8061, 11061, 11077, 12077, 13077, 14077, 15077, 16077, 17077, 18077, 19077, 22061, 23061, 24061] σ32 σ101 → (Ry σ X m) σ101)) : Ry σ X (m + 1) σ8 := by
  refine ⟨fun z => by omega, fun z => absurd hz z, fun _ _ => ?_⟩
  refine ⟨⟨by omega, by omega⟩, fun σ32 e32 => ?_⟩
  unfold mStp
  rw [hp] at e32 ⊢
  rw [xa_in (a := 29) h0, xa_in (a := 30) h0, h29, h30]
  exact ⟨fun z => absurd z (by decide), fun _ => ⟨fun z => absurd z (by decide), fun _ => ⟨fun z => absurd z (by decide), fun _ => ⟨fun z => absurd z (by decide), fun _ => ⟨fun z => absurd z (by decide), fun _ => ⟨fun z => absurd z (by decide), fun _ => ⟨fun z => absurd z (by decide), fun _ => ⟨fun _ => h σ32 e32, fun z => absurd rfl z⟩⟩⟩⟩⟩⟩⟩⟩
theorem ry_8 {σ σ8 : sg_S} {X : sg_S → Prop} {m : Nat} {p k : Int} (hp : sg_g σ8 61 8 = p) (h0 : 0 ≤ p ∧ p < 1013) (hz : sg_g σ8 61 10 = 0) (h29 : sg_g σ 29 p = 8) (h30 : sg_g σ 30 p = k) (h : ∀ σ32, σ32 = sg_w σ8 61 8 (p + 1) → V_fTurn σ32 (k) (fun σ109 => sg_F [62, 71, 72, 73, 74, 78, 79, 80, 81, 82, 85, 86, 87, 11061, 11077, 12077, 13077, 14077, 15077, 16077, 17077, 18077, 19077, 22061, 23061, 24061] σ32 σ109 → (Ry σ X m) σ109)) : Ry σ X (m + 1) σ8 := by
  refine ⟨fun z => by omega, fun z => absurd hz z, fun _ _ => ?_⟩
  refine ⟨⟨by omega, by omega⟩, fun σ32 e32 => ?_⟩
  unfold mStp
  rw [hp] at e32 ⊢
  rw [xa_in (a := 29) h0, xa_in (a := 30) h0, h29, h30]
  exact ⟨fun z => absurd z (by decide), fun _ => ⟨fun z => absurd z (by decide), fun _ => ⟨fun z => absurd z (by decide), fun _ => ⟨fun z => absurd z (by decide), fun _ => ⟨fun z => absurd z (by decide), fun _ => ⟨fun z => absurd z (by decide), fun _ => ⟨fun z => absurd z (by decide), fun _ => ⟨fun z => absurd z (by decide), fun _ => ⟨fun _ => h σ32 e32, fun z => absurd rfl z⟩⟩⟩⟩⟩⟩⟩⟩⟩
theorem ry_9 {σ σ8 : sg_S} {X : sg_S → Prop} {m : Nat} {p k : Int} (hp : sg_g σ8 61 8 = p) (h0 : 0 ≤ p ∧ p < 1013) (hz : sg_g σ8 61 10 = 0) (h29 : sg_g σ 29 p = 9) (h30 : sg_g σ 30 p = k) (h : ∀ σ32, σ32 = sg_w σ8 61 8 (p + 1) → V_fJoin σ32 (k) (fun σ117 => sg_F [62, 64, 78, 79, 80, 81, 82, 85, 86, 87, 8061, 10061, 11061, 11077, 12077, 13077, 14077, 15077, 16077, 17077, 18077, 19077, 23061, 24061] σ32 σ117 → (Ry σ X m) σ117)) : Ry σ X (m + 1) σ8 := by
  refine ⟨fun z => by omega, fun z => absurd hz z, fun _ _ => ?_⟩
  refine ⟨⟨by omega, by omega⟩, fun σ32 e32 => ?_⟩
  unfold mStp
  rw [hp] at e32 ⊢
  rw [xa_in (a := 29) h0, xa_in (a := 30) h0, h29, h30]
  exact ⟨fun z => absurd z (by decide), fun _ => ⟨fun z => absurd z (by decide), fun _ => ⟨fun z => absurd z (by decide), fun _ => ⟨fun z => absurd z (by decide), fun _ => ⟨fun z => absurd z (by decide), fun _ => ⟨fun z => absurd z (by decide), fun _ => ⟨fun z => absurd z (by decide), fun _ => ⟨fun z => absurd z (by decide), fun _ => ⟨fun z => absurd z (by decide), fun _ => ⟨fun _ => h σ32 e32, fun z => absurd rfl z⟩⟩⟩⟩⟩⟩⟩⟩⟩⟩
theorem ry_10 {σ σ8 : sg_S} {X : sg_S → Prop} {m : Nat} {p k : Int} (hp : sg_g σ8 61 8 = p) (h0 : 0 ≤ p ∧ p < 1013) (hz : sg_g σ8 61 10 = 0) (h29 : sg_g σ 29 p = 10) (h30 : sg_g σ 30 p = k) (h : ∀ σ32, σ32 = sg_w σ8 61 8 (p + 1) → V_fOpen σ32 (k) (fun σ125 => sg_F [62, 70, 71, 72, 73, 74, 78, 79, 80, 81, 82, 85, 86, 87, 8061, 11061, 11077, 12077, 13077, 14077, 15077, 16077, 17077, 18077, 19077, 22061, 23061, 24061] σ32 σ125 → (Ry σ X m) σ125)) : Ry σ X (m + 1) σ8 := by
  refine ⟨fun z => by omega, fun z => absurd hz z, fun _ _ => ?_⟩
  refine ⟨⟨by omega, by omega⟩, fun σ32 e32 => ?_⟩
  unfold mStp
  rw [hp] at e32 ⊢
  rw [xa_in (a := 29) h0, xa_in (a := 30) h0, h29, h30]
  exact ⟨fun z => absurd z (by decide), fun _ => ⟨fun z => absurd z (by decide), fun _ => ⟨fun z => absurd z (by decide), fun _ => ⟨fun z => absurd z (by decide), fun _ => ⟨fun z => absurd z (by decide), fun _ => ⟨fun z => absurd z (by decide), fun _ => ⟨fun z => absurd z (by decide), fun _ => ⟨fun z => absurd z (by decide), fun _ => ⟨fun z => absurd z (by decide), fun _ => ⟨fun z => absurd z (by decide), fun _ => ⟨fun _ => h σ32 e32, fun z => absurd rfl z⟩⟩⟩⟩⟩⟩⟩⟩⟩⟩⟩
theorem ry_11 {σ σ8 : sg_S} {X : sg_S → Prop} {m : Nat} {p k : Int} (hp : sg_g σ8 61 8 = p) (h0 : 0 ≤ p ∧ p < 1013) (hz : sg_g σ8 61 10 = 0) (h29 : sg_g σ 29 p = 11) (h30 : sg_g σ 30 p = k) (h : ∀ σ32, σ32 = sg_w σ8 61 8 (p + 1) → V_fSift σ32 (k) (fun σ133 => sg_F [62, 70, 74, 78, 79, 80, 81, 82, 83, 85, 86, 87, 8061, 11061, 11077, 12077, 13077, 14077, 15077, 16077, 17077, 18077, 19077, 22061, 24061] σ32 σ133 → (Ry σ X m) σ133)) : Ry σ X (m + 1) σ8 := by
  refine ⟨fun z => by omega, fun z => absurd hz z, fun _ _ => ?_⟩
  refine ⟨⟨by omega, by omega⟩, fun σ32 e32 => ?_⟩
  unfold mStp
  rw [hp] at e32 ⊢
  rw [xa_in (a := 29) h0, xa_in (a := 30) h0, h29, h30]
  exact ⟨fun z => absurd z (by decide), fun _ => ⟨fun z => absurd z (by decide), fun _ => ⟨fun z => absurd z (by decide), fun _ => ⟨fun z => absurd z (by decide), fun _ => ⟨fun z => absurd z (by decide), fun _ => ⟨fun z => absurd z (by decide), fun _ => ⟨fun z => absurd z (by decide), fun _ => ⟨fun z => absurd z (by decide), fun _ => ⟨fun z => absurd z (by decide), fun _ => ⟨fun z => absurd z (by decide), fun _ => ⟨fun z => absurd z (by decide), fun _ => ⟨fun _ => h σ32 e32, fun z => absurd rfl z⟩⟩⟩⟩⟩⟩⟩⟩⟩⟩⟩⟩
theorem ry_12 {σ σ8 : sg_S} {X : sg_S → Prop} {m : Nat} {p k : Int} (hp : sg_g σ8 61 8 = p) (h0 : 0 ≤ p ∧ p < 1013) (hz : sg_g σ8 61 10 = 0) (h29 : sg_g σ 29 p = 12) (h30 : sg_g σ 30 p = k) (h : ∀ σ32, σ32 = sg_w σ8 61 8 (p + 1) → V_fNext σ32 (k) (fun σ139 => sg_F [] σ32 σ139 → (Ry σ X m) σ139)) : Ry σ X (m + 1) σ8 := by
  refine ⟨fun z => by omega, fun z => absurd hz z, fun _ _ => ?_⟩
  refine ⟨⟨by omega, by omega⟩, fun σ32 e32 => ?_⟩
  unfold mStp
  rw [hp] at e32 ⊢
  rw [xa_in (a := 29) h0, xa_in (a := 30) h0, h29, h30]
  exact ⟨fun z => absurd z (by decide), fun _ => ⟨fun z => absurd z (by decide), fun _ => ⟨fun z => absurd z (by decide), fun _ => ⟨fun z => absurd z (by decide), fun _ => ⟨fun z => absurd z (by decide), fun _ => ⟨fun z => absurd z (by decide), fun _ => ⟨fun z => absurd z (by decide), fun _ => ⟨fun z => absurd z (by decide), fun _ => ⟨fun z => absurd z (by decide), fun _ => ⟨fun z => absurd z (by decide), fun _ => ⟨fun z => absurd z (by decide), fun _ => ⟨fun z => absurd z (by decide), fun _ => h σ32 e32⟩⟩⟩⟩⟩⟩⟩⟩⟩⟩⟩⟩
/-! finish, finishOne, finishTwo of the class, exactly. -/
def fnX (σ σ' : sg_S) (D : Nat) (rs : List (Int ⊕ vaF)) (t c : Int) (s : fSt) : Prop := (fStp (exF D (rs.map fOv)) s = none ∧ sg_g σ' 61 10 = 8 ∧ ctX σ' s) ∨ ∃ s1, fStp (exF D (rs.map fOv)) s = some s1 ∧ ctX σ' s1 ∧ sg_g σ' 61 10 = fOe rs ∧ (fOe rs = 0 → mC σ' c ∧ yEx σ σ' ∧ yX σ' D (sg_g σ' 64 t) (rs.map fOv) ∧ sg_g σ' 61 7 = t + 1 ∧ ∀ i, i < t → sg_g σ' 64 i = sg_g σ 64 i)
theorem gw_fn {L : List Nat} {σ σ7 σ' : sg_S} {D : Nat} {rs : List (Int ⊕ vaF)} {t c : Int} {s : fSt} (hm : mC σ c) (hs : ctX σ s) (f7 : sg_F L σ σ7) (hL : (sg_ca L 77 && sg_ca L 78 && sg_ca L 79 && sg_ca L 80 && sg_ca L 81 && sg_ca L 82 && sg_ca L 64) = true) (r : gwX σ7 σ' D rs t s) : fnX σ σ' D rs t c s := by
  simp only [Bool.and_eq_true] at hL
  obtain ⟨⟨⟨⟨⟨⟨l1, l2⟩, l3⟩, l4⟩, l5⟩, l6⟩, l7⟩ := hL
  obtain ⟨L', x1, x2, r⟩ := r
  rcases r with ⟨z1, z2, z3⟩ | ⟨s1, z1, z2, z3, z4, z5, z6, z7, z8, z9, z10⟩
  · exact Or.inl ⟨by rw [← x1]; exact z1, z2, z3⟩
  · refine Or.inr ⟨s1, by rw [← x1]; exact z1, z3, z2, fun e0 => ?_⟩
    obtain ⟨m1, m2, m3, m4, m5⟩ := hm
    have q : ∀ k, sg_g σ7 77 k = sg_g σ 77 k := fun k => sg_F_ga f7 l1
    rw [q] at z10
    have ex : yEx σ σ7 := yEx_x (q _) (q _) (fun v _ _ => ⟨sg_F_ga f7 l4, sg_F_ga f7 l5, sg_F_ga f7 l6⟩) (fun x _ => ⟨sg_F_ga f7 l2, sg_F_ga f7 l3⟩)
    have st := (fStp_s z1).1
    obtain ⟨c1, c2, c3, c4, c5⟩ := id z3
    obtain ⟨d1, d2, d3, d4, d5⟩ := id hs
    rw [x2 e0] at z7
    exact ⟨⟨z5, z6, z2.trans e0, by omega, by omega⟩, yEx_t ex z4, z7, z8, fun i hi => by rw [z9 i (by omega), sg_F_ga f7 l7]⟩
section FNX
variable {σ : sg_S} {Q : sg_S → Prop}
theorem fin1X {a k ta ty t c x : Int} {n : Nat} {la : List vaF} {s : fSt} (ha : 0 ≤ a ∧ a < 200) (hm : mC σ c) (hs : ctX σ s) (hc : 4 ≤ c) (ht : sg_g σ 61 7 = t + 1) (h0 : 0 ≤ t ∧ t < 400) (h23 : sg_g σ 61 23 = n) (hn : n ≤ 6000) (h3 : sg_g σ 3 a = kmp k) (h6 : sg_g σ 6 a = ty) (hty : ty ≤ 3) (hta : 0 ≤ ta ∧ ta ≤ 3) (hv : yX σ ta.toNat (sg_g σ 64 t) la) (hla : la.length = n) (ho : op1 k ta ty) (kk : ∀ σ', sg_F fnL σ σ' → fnX σ σ' ty.toNat (fOl k ty x [la] n) t c s → Q σ') : V_mFinishOne σ a Q := by
  unfold V_mFinishOne
  rw [xa_in (a := 6) ha, xa_in (a := 3) ha, h6, h3]
  refine y_pop ht h0 (fun σ2 f2 t2 _ _ σ7 e7 => ?_)
  have f7 : sg_F [10061] σ2 σ7 := by rw [e7]; exact sg_F_w (sg_F_r _ _) rfl _
  have F7 : sg_F [8061, 10061] σ σ7 := sg_F_t (sg_F_m f2 rfl) (sg_F_m f7 rfl)
  have ex7 : yEx σ σ7 := yEx_F F7 rfl
  obtain ⟨m1, m2, m3, m4, m5⟩ := id hm
  have hP : fP σ7 t := fP_mk ⟨m1, m2, by omega, m5, by omega⟩ F7 (by rw [sg_F_g f7 (by rfl)]; exact t2) h0 rfl
  have hs7 : ctX σ7 s := ctX_F F7 rfl hs
  have d9 : ∀ d : Nat, ty = d → sg_g σ7 61 9 = d := fun d hd => by rw [e7, sg_gw_e _ _ _ _ ⟨by omega, by omega⟩]; exact hd
  have n7 : sg_g σ7 61 23 = n := by rw [sg_F_g F7 (by rfl)]; exact h23
  have fin : ∀ (d : Nat) (σ' : sg_S), ty = d → sg_F opL σ7 σ' → gwX σ7 σ' d ((List.range n).map (fO1 k ty x [la])) t s → Q σ' := fun d σ' hd f' r' => by
    refine kk σ' (sg_F_t (sg_F_m F7 rfl) (sg_F_m f' rfl)) ?_
    rw [show ty.toNat = d by omega]
    exact gw_fn hm hs F7 rfl r'
  have vv : ∀ d : Nat, ta = d → yX σ7 d (sg_g σ 64 t) la := fun d hd => by
    rw [show ta.toNat = d by omega] at hv
    exact yX_up ex7 hv
  have nn : ∀ d : Nat, ta = (d + 1 : Nat) → ∀ i, i < n → ((itF (la.getD i (nmF 0))).length : Int) = (la.getD i (nmF 0)) [] := fun d hd i hi => by
    have v := vv (d + 1) hd
    rw [← (yX_ln hP.1 v (j := i) (by omega)).1]
    exact (yX_cell hP.1 v (i := i) (by omega)).1
  rcases ho with ⟨e, q1, q2⟩ | ⟨e, q1, q2⟩ | ⟨e, q1, q2⟩ | ⟨e, q1, q2⟩ | ⟨e, q1, q2⟩ | ⟨e, q1, q2⟩
  · subst e
    refine ⟨fun _ => ?_, fun z => absurd rfl z⟩
    unfold V_mFinishOne_35
    obtain ⟨d, hd⟩ : ∃ d : Nat, ta = (d + 1 : Nat) := ⟨(ta - 1).toNat, by omega⟩
    refine o_measure (f := fO1 11 ty x [la]) hP hs7 (d9 0 q2) n7 (vv (d + 1) hd) hla (fun i hi => ?_) (fun σ' f' r' _ => fin 0 σ' q2 f' r')
    rw [fO_11, ← nn d hd i hi]
    exact rfl
  · subst e
    refine ⟨fun z => absurd z (by decide), fun _ => ⟨fun _ => ?_, fun z => absurd rfl z⟩⟩
    unfold V_mFinishOne_267
    exact o_countUp (f := fO1 16 ty x [la]) hP hs7 (d9 1 q2) n7 (vv 0 q1) hla (fun i hi => fO_16 (vs := [la])) (fun σ' f' r' _ => fin 1 σ' q2 f' r')
  · have kd : V_mFinishOne_d σ7 (kmp k) (sg_g σ 64 t) Q := by
      unfold V_mFinishOne_d
      exact o_reduce (f := fO1 k ty x [la]) e hP hs7 (d9 0 q2) n7 (vv 1 q1) hla (fun i hi => Eq.trans (fO_gn (vs := [la]) (by omega) (show 0 ≤ (la.getD i (nmF 0)) [] by rw [← nn 0 (by omega) i hi]; omega)) (if_neg (by omega))) (fun σ' f' r' _ => fin 0 σ' q2 f' r')
    rcases e with e | e | e <;> subst e <;> exact ⟨fun z => absurd z (by decide), fun _ => ⟨fun z => absurd z (by decide), fun _ => ⟨fun z => absurd z (by decide), fun _ => ⟨fun z => absurd z (by decide), fun _ => ⟨fun z => absurd z (by decide), fun _ => kd⟩⟩⟩⟩⟩
  · subst e
    refine ⟨fun z => absurd z (by decide), fun _ => ⟨fun z => absurd z (by decide), fun _ => ⟨fun _ => ?_, fun z => absurd rfl z⟩⟩⟩
    unfold V_mFinishOne_272
    exact o_sumUp (f := fO1 21 ty x [la]) hP hs7 (d9 1 q2) n7 (vv 1 q1) hla (fun i hi => Eq.trans (fO_gn (vs := [la]) (by omega) (show 0 ≤ (la.getD i (nmF 0)) [] by rw [← nn 0 (by omega) i hi]; omega)) (if_pos rfl)) (fun σ' f' r' _ => fin 1 σ' q2 f' r')
  · subst e
    refine ⟨fun z => absurd z (by decide), fun _ => ⟨fun z => absurd z (by decide), fun _ => ⟨fun z => absurd z (by decide), fun _ => ⟨fun _ => ?_, fun z => absurd rfl z⟩⟩⟩⟩
    unfold V_mFinishOne_273
    obtain ⟨d, hd⟩ : ∃ d : Nat, ta = (d + 1 : Nat) := ⟨(ta - 1).toNat, by omega⟩
    exact o_reverse (d := d) (f := fO1 22 ty x [la]) hP hs7 (by omega) (d9 (d + 1) (by omega)) n7 (vv (d + 1) hd) hla (fun i hi => fO_22 (vs := [la])) (fun σ' f' r' _ => fin (d + 1) σ' (by omega) f' r')
  · subst e
    refine ⟨fun z => absurd z (by decide), fun _ => ⟨fun z => absurd z (by decide), fun _ => ⟨fun z => absurd z (by decide), fun _ => ⟨fun z => absurd z (by decide), fun _ => ⟨fun _ => ?_, fun z => absurd rfl z⟩⟩⟩⟩⟩
    unfold V_mFinishOne_275
    obtain ⟨d, hd⟩ : ∃ d : Nat, ta = (d + 2 : Nat) := ⟨(ta - 2).toNat, by omega⟩
    exact o_flatten (d := d) (f := fO1 24 ty x [la]) hP hs7 (by omega) (d9 (d + 1) (by omega)) n7 (vv (d + 2) hd) hla (fun i hi => fO_24 (vs := [la])) (fun σ' f' r' _ => fin (d + 1) σ' (by omega) f' r')
theorem fin2X {a k ta tb ty t c x : Int} {n : Nat} {la lb : List vaF} {s : fSt} (ha : 0 ≤ a ∧ a < 200) (hm : mC σ c) (hs : ctX σ s) (hc : 4 ≤ c) (ht : sg_g σ 61 7 = t + 2) (h0 : 0 ≤ t ∧ t + 2 ≤ 400) (h23 : sg_g σ 61 23 = n) (hn : n ≤ 6000) (h3 : sg_g σ 3 a = kmp k) (h6 : sg_g σ 6 a = ty) (hty : ty ≤ 3) (hta : 0 ≤ ta ∧ ta ≤ 3) (hv : yX σ ta.toNat (sg_g σ 64 t) la) (hw : yX σ tb.toNat (sg_g σ 64 (t + 1)) lb) (hla : la.length = n) (hlb : lb.length = n) (ho : op2 k ta tb ty) (kk : ∀ σ', sg_F fnL σ σ' → fnX σ σ' ty.toNat (fOl k ty x [la, lb] n) t c s → Q σ') : V_mFinishTwo σ a Q := by
  unfold V_mFinishTwo
  rw [xa_in (a := 6) ha, xa_in (a := 3) ha, h6, h3]
  refine y_pop (t := t + 1) (by omega) (by omega) (fun σ2 f2 t2 _ _ => y_pop (t := t) t2 (by omega) (fun σ8 f8 t8 _ _ σ7 e7 => ?_))
  rw [show sg_g σ2 64 t = sg_g σ 64 t from sg_F_ga f2 rfl]
  have f7 : sg_F [10061] σ8 σ7 := by rw [e7]; exact sg_F_w (sg_F_r _ _) rfl _
  have F7 : sg_F [8061, 10061] σ σ7 := sg_F_t (sg_F_t (sg_F_m f2 rfl) (sg_F_m f8 rfl)) (sg_F_m f7 rfl)
  have ex7 : yEx σ σ7 := yEx_F F7 rfl
  obtain ⟨m1, m2, m3, m4, m5⟩ := id hm
  have hP : fP σ7 t := fP_mk ⟨m1, m2, by omega, m5, by omega⟩ F7 (by rw [sg_F_g f7 (by rfl)]; exact t8) (by omega) rfl
  have hs7 : ctX σ7 s := ctX_F F7 rfl hs
  have ty0 : 0 ≤ ty := by
    unfold op2 at ho; omega
  have d9 : ∀ d : Nat, ty = d → sg_g σ7 61 9 = d := fun d hd => by rw [e7, sg_gw_e _ _ _ _ ⟨by omega, by omega⟩]; exact hd
  have n7 : sg_g σ7 61 23 = n := by rw [sg_F_g F7 (by rfl)]; exact h23
  have fin : ∀ (d : Nat) (σ' : sg_S), ty = d → sg_F opL σ7 σ' → gwX σ7 σ' d ((List.range n).map (fO1 k ty x [la, lb])) t s → Q σ' := fun d σ' hd f' r' => by
    refine kk σ' (sg_F_t (sg_F_m F7 rfl) (sg_F_m f' rfl)) ?_
    rw [show ty.toNat = d by omega]
    exact gw_fn hm hs F7 rfl r'
  have vv : ∀ d : Nat, ta = d → yX σ7 d (sg_g σ 64 t) la := fun d hd => by
    rw [show ta.toNat = d by omega] at hv
    exact yX_up ex7 hv
  have ww : ∀ d : Nat, tb = d → yX σ7 d (sg_g σ 64 (t + 1)) lb := fun d hd => by
    rw [show tb.toNat = d by omega] at hw
    exact yX_up ex7 hw
  rcases ho with ⟨e, q1, q2, q3⟩ | ⟨e, q1, q2, q3⟩ | ⟨e, q2, q3⟩ | ⟨e, q1, q2, q3⟩ | ⟨e, q1, q2, q3⟩ | ⟨e, q1, q2, q3⟩
  · have kd : V_mFinishTwo_d σ7 (kmp k) (sg_g σ 64 (t + 1)) (sg_g σ 64 t) Q := by
      unfold V_mFinishTwo_d
      exact o_combine (f := fO1 k ty x [la, lb]) e hP hs7 (d9 0 q3) n7 (vv 0 q1) (ww 0 q2) hla hlb (fun i hi => fO_op (vs := [la, lb]) (by omega)) (fun σ' f' r' _ => fin 0 σ' q3 f' r')
    have c : k = 4 ∨ k = 5 ∨ k = 6 ∨ k = 7 ∨ k = 8 ∨ k = 9 ∨ k = 10 := by omega
    rcases c with e | e | e | e | e | e | e <;> subst e <;> exact ⟨fun z => absurd z (by decide), fun _ => ⟨fun z => absurd z (by decide), fun _ => ⟨fun z => absurd z (by decide), fun _ => ⟨fun z => absurd z (by decide), fun _ => ⟨fun z => absurd z (by decide), fun _ => ⟨fun z => absurd z (by decide), fun _ => kd⟩⟩⟩⟩⟩⟩
  · subst e
    refine ⟨fun _ => ?_, fun z => absurd rfl z⟩
    unfold V_mFinishTwo_91
    obtain ⟨d, hd⟩ : ∃ d : Nat, ta = (d + 1 : Nat) := ⟨(ta - 1).toNat, by omega⟩
    exact o_select (d := d) (f := fO1 12 ty x [la, lb]) hP hs7 (by omega) (d9 d (by omega)) n7 (vv (d + 1) hd) (ww 0 q2) hla hlb (fun i hi => fO_12 (vs := [la, lb])) (fun σ' f' r' _ => fin d σ' (by omega) f' r')
  · subst e
    refine ⟨fun z => absurd z (by decide), fun _ => ⟨fun _ => ?_, fun z => absurd rfl z⟩⟩
    unfold V_mFinishTwo_268
    obtain ⟨d, hd⟩ : ∃ d : Nat, ta = (d : Nat) := ⟨ta.toNat, by omega⟩
    exact o_repeat (d := d) (f := fO1 17 ty x [la, lb]) hP hs7 (by omega) (d9 (d + 1) (by omega)) n7 (vv d hd) (ww 0 q2) hla hlb (fun i hi => fO_17 (vs := [la, lb])) (fun σ' f' r' _ => fin (d + 1) σ' (by omega) f' r')
  · subst e
    refine ⟨fun z => absurd z (by decide), fun _ => ⟨fun z => absurd z (by decide), fun _ => ⟨fun _ => ?_, fun z => absurd rfl z⟩⟩⟩
    unfold V_mFinishTwo_274
    obtain ⟨d, hd⟩ : ∃ d : Nat, ta = (d + 1 : Nat) := ⟨(ta - 1).toNat, by omega⟩
    exact o_append (d := d) (f := fO1 23 ty x [la, lb]) hP hs7 (by omega) (d9 (d + 1) (by omega)) n7 (vv (d + 1) hd) (ww (d + 1) (by omega)) hla hlb (fun i hi => fO_23 (vs := [la, lb])) (fun σ' f' r' _ => fin (d + 1) σ' (by omega) f' r')
  · obtain ⟨d, hd⟩ : ∃ d : Nat, ta = (d + 1 : Nat) := ⟨(ta - 1).toNat, by omega⟩
    rcases e with e | e
    · subst e
      refine ⟨fun z => absurd z (by decide), fun _ => ⟨fun z => absurd z (by decide), fun _ => ⟨fun z => absurd z (by decide), fun _ => ⟨fun _ => ?_, fun z => absurd rfl z⟩⟩⟩⟩
      unfold V_mFinishTwo_276
      exact o_pack (d := d) (f := fO1 25 ty x [la, lb]) hP hs7 (by omega) (d9 (d + 1) (by omega)) n7 (vv (d + 1) hd) (ww 1 q2) hla hlb (fun i hi => fO_25 (vs := [la, lb])) (fun σ' f' r' _ => fin (d + 1) σ' (by omega) f' r')
    · subst e
      refine ⟨fun z => absurd z (by decide), fun _ => ⟨fun z => absurd z (by decide), fun _ => ⟨fun z => absurd z (by decide), fun _ => ⟨fun z => absurd z (by decide), fun _ => ⟨fun _ => ?_, fun z => absurd rfl z⟩⟩⟩⟩⟩
      unfold V_mFinishTwo_277
      exact o_permute (d := d) (f := fO1 26 ty x [la, lb]) hP hs7 (by omega) (d9 (d + 1) (by omega)) n7 (vv (d + 1) hd) (ww 1 q2) hla hlb (fun i hi => fO_26 (vs := [la, lb])) (fun σ' f' r' _ => fin (d + 1) σ' (by omega) f' r')
  · subst e
    obtain ⟨d, hd⟩ : ∃ d : Nat, ta = (d + 1 : Nat) := ⟨(ta - 1).toNat, by omega⟩
    refine ⟨fun z => absurd z (by decide), fun _ => ⟨fun z => absurd z (by decide), fun _ => ⟨fun z => absurd z (by decide), fun _ => ⟨fun z => absurd z (by decide), fun _ => ⟨fun z => absurd z (by decide), fun _ => ⟨fun _ => ?_, fun z => absurd rfl z⟩⟩⟩⟩⟩⟩
    unfold V_mFinishTwo_278
    exact o_divide (d := d) (f := fO1 27 ty x [la, lb]) hP hs7 (by omega) (d9 (d + 2) (by omega)) n7 (vv (d + 1) hd) (ww 1 q2) hla hlb (fun i hi => fO_27 (vs := [la, lb])) (fun σ' f' r' _ => fin (d + 2) σ' (by omega) f' r')
/-- a node is begun in n lanes, exactly -/
theorem f_beginX {a : Int} {n : Nat} {s : fSt} (ha : 0 ≤ a ∧ a < 200) (hn : sg_g σ 61 23 = n) (h10 : sg_g σ 61 10 = 0) (hs : ctX σ s) (k1 : fBg n s = none → ∀ σ', sg_F [69, 11061, 18077, 19077, 25061] σ σ' → sg_g σ' 61 10 = 8 → ctX σ' s → Q σ') (k2 : ∀ s1, fBg n s = some s1 → ∀ σ', sg_F [69, 18077, 19077, 25061] σ σ' → sg_g σ' 61 10 = 0 → ctX σ' s1 → sg_g σ' 69 a = n → (∀ i, ¬ i = a → sg_g σ' 69 i = sg_g σ 69 i) → Q σ') : V_fBegin σ a Q := by
  obtain ⟨c1, c2, c3, c4, c5⟩ := id hs
  have rn := sg_Rg σ 61 23
  rw [hn] at rn
  unfold V_fBegin
  intro σ1 e1
  rw [xp_in ha, hn] at e1
  have f1 : sg_F [69] σ σ1 := by rw [e1]; exact sg_F_w (sg_F_r _ _) rfl _
  have s1 : sg_g σ1 77 17 = s.1 := by rw [sg_F_g f1 (by rfl)]; exact c1
  unfold V_lStep
  refine ⟨fun z => ⟨⟨by omega, by omega⟩, fun σ3 e3 _ f3 => ⟨fun y => absurd y (by decide), fun _ v14 e14 r14 σ17 e17 => ?_⟩⟩, fun z σ6 e6 _ f6 => ⟨fun _ σ11 e11 => ?_, fun y => absurd rfl y⟩⟩
  · have f17 : sg_F [25061] σ3 σ17 := by rw [e17]; exact sg_F_w (sg_F_r _ _) rfl _
    have F : sg_F [69, 18077, 19077, 25061] σ σ17 := sg_F_t (sg_F_t (sg_F_m f1 rfl) (sg_F_m f3 rfl)) (sg_F_m f17 rfl)
    have e0 : fStp 0 s = some (s.1 + 1, s.2.1 + 0, s.2.2) := fStp_e (by omega)
    have g17 : sg_g σ17 77 17 = s.1 + 1 := by rw [sg_F_g f17 (by rfl), e3, sg_gw_e _ _ _ _ ⟨by omega, by omega⟩, s1]
    have g16 : sg_g σ17 77 16 = s.2.1 := by rw [sg_F_g F (by rfl)]; exact c2
    have g24 : sg_g σ17 61 24 = if s.2.2 < (n : Int) then (n : Int) else s.2.2 := by
      rw [e17, sg_gw_e _ _ _ _ r14, e14, c3, hn]
    refine k2 (s.1 + 1, s.2.1 + 0, if s.2.2 < (n : Int) then (n : Int) else s.2.2) (by unfold fBg; rw [e0]) σ17 F (by rw [sg_F_g F (by rfl)]; exact h10) ⟨g17, by rw [g16]; show s.2.1 = s.2.1 + 0; omega, g24, ⟨by show 0 ≤ s.1 + 1; omega, by show s.1 + 1 ≤ 2000; omega⟩, by show 0 ≤ s.2.1 + 0; omega, by show s.2.1 + 0 ≤ 6000; omega⟩ ?_ (fun i hi => ?_)
    · rw [sg_F_ga f17 rfl, sg_F_ga f3 rfl, e1, sg_gw_e _ _ _ _ rn]
    · rw [sg_F_ga f17 rfl, sg_F_ga f3 rfl, e1, sg_gw_k _ _ _ _ _ _ hi]
  · have f11 : sg_F [11061] σ6 σ11 := by rw [e11]; exact sg_F_w (sg_F_r _ _) rfl _
    have F : sg_F [69, 11061, 18077, 19077, 25061] σ σ11 := sg_F_t (sg_F_t (sg_F_m f1 rfl) (sg_F_m f6 rfl)) (sg_F_m f11 rfl)
    refine k1 ?_ σ11 F ?_ (ctX_F (L := [69, 11061, 19077]) ?_ rfl hs)
    · unfold fBg
      rw [fStp_n.mpr (Or.inl (by omega))]
    · rw [e11, sg_gw_e _ _ _ _ (by decide)]
    · have f6' : sg_F [19077] σ1 σ6 := by rw [e6]; exact sg_F_w (sg_F_r _ _) rfl _
      exact sg_F_t (sg_F_t (sg_F_m f1 rfl) (sg_F_m f6' rfl)) (sg_F_m f11 rfl)
end FNX
