/-! More operations of the class, exactly: permute, divide. -/
section CJS
variable {σ : sg_S}
theorem xn_invert {n : Nat} {nu : List Int} {Q : Int → sg_S → Prop} (hn : nu.length = n) (h200 : n ≤ 200) (h54 : ∀ (i : Nat) (z : Int), nu[i]? = some z → sg_g σ 75 i = z) (k0 : ivF n 0 nu (fun _ => -1) = none → ∀ σ', sg_F [76] σ σ' → Q 0 σ') (k1 : ∀ g, ivF n 0 nu (fun _ => -1) = some g → ∀ σ', sg_F [76] σ σ' → (∀ p, 0 ≤ p → p < n → sg_g σ' 76 p = g p) → Q 1 σ') : V_xInvert σ (n : Int) Q := by
  unfold V_xInvert
  refine ⟨fun m v1 σ2 => ∃ i : Nat, v1 = i ∧ m = n - i ∧ i ≤ n ∧ ∀ p, 0 ≤ p → p < (i : Int) → sg_g σ2 76 p = -1, fun σ2 => ∀ p, 0 ≤ p → p < (n : Int) → sg_g σ2 76 p = -1, ⟨_, 0, rfl, rfl, Nat.zero_le _, fun p a b => by omega⟩, ?_, ?_⟩
  · rintro m v1 σ2 r1 f2 ⟨i, rfl, em, hi, hp⟩
    refine ⟨fun z p a b => hp p a (by omega), fun z σ41 e41 => ⟨⟨by omega, by omega⟩, n - (i + 1), by omega, i + 1, by omega, rfl, by omega, fun p a b => ?_⟩⟩
    rw [xp_in ⟨by omega, by omega⟩] at e41
    by_cases c : p = i
    · rw [c, e41, sg_gw_e _ _ _ _ (by decide)]
    · rw [e41, sg_gw_k _ _ _ _ _ _ c]; exact hp p a (by omega)
  · intro σ2 f2 h2
    refine ⟨fun m v16 σ17 => ∃ (i : Nat) (g : Int → Int), v16 = i ∧ m = n - i ∧ i ≤ n ∧ ivF n i (nu.drop i) g = ivF n 0 nu (fun _ => -1) ∧ (∀ p, 0 ≤ p → p < (n : Int) → sg_g σ17 76 p = g p) ∧ ∀ p, g p = -1 ∨ 0 ≤ g p, fun σ17 => ∃ g, ivF n 0 nu (fun _ => -1) = some g ∧ ∀ p, 0 ≤ p → p < (n : Int) → sg_g σ17 76 p = g p, ⟨_, 0, fun _ => -1, rfl, rfl, Nat.zero_le _, rfl, fun p a b => h2 p a b, fun p => Or.inl rfl⟩, ?_, ?_⟩
    · rintro m v16 σ17 r16 f17 ⟨i, g, rfl, em, hi, ei, hg, hb⟩
      refine ⟨fun z => ?_, fun z => ?_⟩
      · rw [List.drop_of_length_le (by omega)] at ei
        exact ⟨g, ei.symm, hg⟩
      · obtain ⟨c, hc⟩ := gE_x (l := nu) (i := i) (by omega)
        rw [dr_c hc] at ei
        simp only [ivF] at ei
        have e54 : sx_at σ 75 200 (i : Int) = c := by rw [xa_in ⟨by omega, by omega⟩]; exact h54 i c hc
        rw [e54]
        have F := sg_F_t f2 f17
        refine ⟨fun z1 => k0 (by rw [← ei, if_neg (by omega)]) σ17 F, fun z1 => ⟨fun z2 => k0 (by rw [← ei, if_neg (by omega)]) σ17 F, fun z2 => ?_⟩⟩
        rw [xa_in (a := 76) ⟨z1, by omega⟩, hg c z1 z2]
        refine ⟨fun z3 σ35 e35 => ⟨⟨by omega, by omega⟩, n - (i + 1), by omega, i + 1, fun y => if y = c then (i : Int) else g y, by omega, rfl, by omega, ?_, fun p a b => ?_, fun p => ?_⟩, fun z3 => k0 (by rw [← ei, if_neg (fun q => by have := q.2.2; omega)]) σ17 F⟩
        · rw [← ei, if_pos]
          rcases hb c with q | q
          · exact ⟨z1, z2, q⟩
          · omega
        · rw [xp_in ⟨z1, by omega⟩] at e35
          by_cases cp : p = c
          · show sg_g σ35 76 p = if p = c then (i : Int) else g p
            rw [if_pos cp, cp, e35, sg_gw_e _ _ _ _ r16]
          · show sg_g σ35 76 p = if p = c then (i : Int) else g p
            rw [if_neg cp, e35, sg_gw_k _ _ _ _ _ _ cp]; exact hg p a b
        · by_cases cp : p = c
          · show (if p = c then (i : Int) else g p) = -1 ∨ 0 ≤ if p = c then (i : Int) else g p
            rw [if_pos cp]; right; omega
          · show (if p = c then (i : Int) else g p) = -1 ∨ 0 ≤ if p = c then (i : Int) else g p
            rw [if_neg cp]; exact hb p
    · rintro σ17 f17 ⟨g, e, hg⟩
      exact k1 g e σ17 (sg_F_t f2 f17) (fun p a b => hg p (by omega) (by omega))
end CJS
/-- what miss is followed by may be less -/
theorem vl_m {σ : sg_S} {x : Int} {Q Q' : sg_S → Prop} (h : V_lMiss σ x Q) (hq : ∀ σ', Q σ' → Q' σ') : V_lMiss σ x Q' := by
  unfold V_lMiss at h ⊢
  exact ⟨fun z => hq _ (h.1 z), fun z σ2 e2 => hq _ (h.2 z σ2 e2)⟩
theorem sum_p : ∀ {N : List Int}, (∀ x ∈ N, 0 ≤ x) → 0 ≤ sumF N
  | [], _ => Int.le_refl _
  | x :: r, h => by
    have a := h x (by simp)
    have b := sum_p (N := r) (fun y hy => h y (by simp [hy]))
    simp only [sumF]
    omega
theorem pt_nu : ∀ (N : List Int) (I : List vaF), (∀ x ∈ N, 0 ≤ x) → sumF N = (I.length : Int) → (ptF I N).map (fun v => v []) = N ∧ flF (ptF I N) = I ∧ ∀ v ∈ ptF I N, 0 ≤ v [] ∧ v [] ≤ (I.length : Int)
  | [], I, _, h => by
    have : I = [] := List.eq_nil_of_length_eq_zero (by simp only [sumF] at h; omega)
    rw [this]
    exact ⟨rfl, rfl, fun v hv => by cases hv⟩
  | x :: r, I, hx, h => by
    simp only [sumF] at h
    have x0 := hx x (by simp)
    have r0 : 0 ≤ sumF r := sum_p (fun y hy => hx y (by simp [hy]))
    obtain ⟨a, b, c⟩ := pt_nu r (I.drop x.toNat) (fun y hy => hx y (by simp [hy])) (by rw [List.length_drop]; omega)
    simp only [ptF]
    have l1 : (mkF (I.take x.toNat)) [] = x := by rw [mkF_0, List.length_take]; omega
    refine ⟨by rw [List.map_cons, a, l1], by rw [flF_c, itF_mk, b, List.take_append_drop], fun v hv => ?_⟩
    rcases List.mem_cons.mp hv with e | e
    · rw [e, l1]; omega
    · have := c v e
      rw [List.length_drop] at this
      omega
section CJT
variable {σ : sg_S} {t : Int} {n d : Nat} {f : Nat → Int ⊕ vaF} {s : fSt} {Q : sg_S → Prop}
theorem o_permute {a b : Int} {la lb : List vaF} (h : fP σ t) (hs : ctX σ s) (hD : d + 1 ≤ 3) (h9 : sg_g σ 61 9 = (d + 1 : Nat)) (hn : sg_g σ 61 23 = n) (ha : yX σ (d + 1) a la) (hb : yX σ 1 b lb) (hla : la.length = n) (hlb : lb.length = n) (hf : ∀ i, i < n → f i = if (itF (la.getD i (nmF 0))).length = (itF (lb.getD i (nmF 0))).length then (match ivF (itF (lb.getD i (nmF 0))).length 0 (nuF (lb.getD i (nmF 0))) (fun _ => -1) with
    | none => .inl 6
    | some g => .inr (mkF ((List.range (itF (la.getD i (nmF 0))).length).map (fun j : Nat => (itF (la.getD i (nmF 0))).getD (g j).toNat (nmF 0))))) else .inl 3) (k : ∀ σ', sg_F opL σ σ' → gwX σ σ' (d + 1) ((List.range n).map f) t s → Q σ') : V_fPermute σ a b Q := by
  have n6 := h.2.2.2.2.2.2
  rw [hn] at n6
  have hbd : ∀ i, i < n → 0 ≤ (fOv (f i)) [] ∧ (fOv (f i)) [] ≤ 200 := fun i hi => by
    have q2 := (yX_ln h.1 ha (j := i) (by omega)).2.2.2.1
    rw [hf i hi]
    by_cases c : (itF (la.getD i (nmF 0))).length = (itF (lb.getD i (nmF 0))).length
    · rw [if_pos c]
      cases ivF (itF (lb.getD i (nmF 0))).length 0 (nuF (lb.getD i (nmF 0))) (fun _ => -1) with
      | none =>
        show (0 : Int) ≤ 0 ∧ (0 : Int) ≤ 200
        exact ⟨by decide, by decide⟩
      | some g =>
        show 0 ≤ mkF _ [] ∧ mkF _ [] ≤ 200
        rw [mkF_0, List.length_map, List.length_range]
        omega
    · rw [if_neg c]
      exact ⟨by decide, by decide⟩
  unfold V_fPermute
  rw [hn]
  refine ⟨fun m v σ2 => ∃ j : Nat, v = j ∧ j ≤ n ∧ m = n - j ∧ toX σ2 d ((List.range j).map (fun i => (fOv (f i)) [])) [] (flF ((List.range j).map (fun i => fOv (f i)))) (fOe ((List.range j).map f)), fun σ2 => toX σ2 d ((List.range n).map (fun i => (fOv (f i)) [])) [] (flF ((List.range n).map (fun i => fOv (f i)))) (fOe ((List.range n).map f)), ⟨_, 0, rfl, Nat.zero_le _, rfl, toX_0 h.2.1 d⟩, ?_, fun σ2 f2 ht => str_X h hs hD h9 (sg_F_m f2 rfl) (Or.inl ht) hbd (fun σ' f' r' _ => k σ' f' r')⟩
  rintro m v' σ2 rv f2 ⟨j, rfl, hj, hm, ht⟩
  refine ⟨fun z => by rw [show n = j by omega]; exact ht, fun z => ?_⟩
  have jl : j < la.length := by omega
  have jb : j < lb.length := by omega
  have ex2 : yEx σ σ2 := yEx_F f2 rfl
  have g2 : yG σ2 := yG_F h.1 f2 rfl
  obtain ⟨l1, l2, l3, l4, l5, l6, l7, l8⟩ := yX_ln h.1 ha jl
  obtain ⟨m1, m2, m3, m4, m5, m6, m7, m8⟩ := yX_ln g2 (yX_up ex2 ha) jl
  obtain ⟨k1, k2, k3, k4, k5, k6, k7, k8⟩ := yX_ln g2 (yX_up ex2 hb) jb
  have hfj := hf j (by omega)
  have fl6 := flw_l (w := fun i => fOv (f i)) (j := j) (fun i hi => (hbd i (by omega)).2)
  have nu := fun i hi => yX_nu g2 (yX_up ex2 hb) (j := j) (i := i) jb hi
  have nl := nu_l (lb.getD j (nmF 0))
  have pk1 := fun i hi => pkX_1 h.1 ha (j := j) (a := i) jl hi
  generalize hN : nuF (lb.getD j (nmF 0)) = N at *
  generalize hI : itF (la.getD j (nmF 0)) = I at *
  -- a size q behind what was told, and its picks
  have go : ∀ (q : Nat) (σ24 : sg_S) (e' : Int) (g : Int → Int), q ≤ 200 → sg_F [75, 76, 83, 85, 86, 87, 12077, 14077, 15077, 16077] σ σ24 → toX σ24 d ((List.range j).map (fun i => (fOv (f i)) [])) [] (flF ((List.range j).map (fun i => fOv (f i)))) e' → (∀ p : Nat, p < q → 0 ≤ g p ∧ g p < I.length ∧ sg_g σ24 76 p = g p) → (fOv (f j)) [] = (q : Int) → itF (fOv (f j)) = (List.range q).map (fun p : Nat => I.getD (g p).toNat (nmF 0)) → e' = fOe ((List.range (j + 1)).map f) → p_lStart σ a (j : Int) ∧ V_lFirst σ24 (q : Int) (fun σ32 => sg_F [83, 12077, 16077] σ24 σ32 → (∃ (I40 : Nat → Int → sg_S → Prop) (X42 : sg_S → Prop), (∃ n, I40 n (0) σ32) ∧ (∀ (n50 : Nat) (v37 : Int) (σ38 : sg_S), sg_R v37 → sg_F [85, 86, 87, 14077, 16077] σ32 σ38 → I40 n50 v37 σ38 → (((q : Int) ≤ v37 → X42 σ38) ∧ (v37 < (q : Int) → p_lItems σ (a) ∧ sg_R ((v_lStart σ (a) (j : Int)) + (sx_at σ24 76 200 (v37))) ∧ sg_R (((v_lStart σ (a) (j : Int)) + (sx_at σ24 76 200 (v37))) + 1) ∧ V_lPick σ38 ((v_lItems σ (a))) (((v_lStart σ (a) (j : Int)) + (sx_at σ24 76 200 (v37)))) ((((v_lStart σ (a) (j : Int)) + (sx_at σ24 76 200 (v37))) + 1)) (fun σ60 => sg_F [85, 86, 87, 14077, 16077] σ38 σ60 → sg_R (v37 + 1) ∧ (∃ m, m < n50 ∧ I40 m ((v37 + 1)) σ60))))) ∧ (∀ (σ38 : sg_S), sg_F [85, 86, 87, 14077, 16077] σ32 σ38 → X42 σ38 → sg_R ((j : Int) + 1) ∧ ∃ m', m' < m ∧ ∃ j' : Nat, ((j : Int) + 1) = j' ∧ j' ≤ n ∧ m' = n - j' ∧ toX σ38 d ((List.range j').map (fun i => (fOv (f i)) [])) [] (flF ((List.range j').map (fun i => fOv (f i)))) (fOe ((List.range j').map f))))) := fun q σ24 e' g hq f24 t24 hg e1 e2 e3 => by
    refine ⟨l7, t_first t24 (by rw [List.length_map, List.length_range]; omega) ⟨by omega, by omega⟩ (fun σ32 t32 f32 _ => ?_)⟩
    rw [← e1, ← mrs, e3] at t32
    refine ⟨fun m2 v37 σ38 => ∃ i : Nat, v37 = i ∧ i ≤ q ∧ m2 = q - i ∧ toX σ38 d ((List.range (j + 1)).map (fun i => (fOv (f i)) [])) [] (flF ((List.range j).map (fun i => fOv (f i))) ++ (List.range i).map (fun p : Nat => I.getD (g p).toNat (nmF 0))) (fOe ((List.range (j + 1)).map f)), fun σ38 => toX σ38 d ((List.range (j + 1)).map (fun i => (fOv (f i)) [])) [] (flF ((List.range (j + 1)).map (fun i => fOv (f i)))) (fOe ((List.range (j + 1)).map f)), ⟨_, 0, rfl, Nat.zero_le _, rfl, by rw [List.range_zero, List.map_nil, List.append_nil]; exact t32⟩, ?_, fun σ38 f38 h38 => ⟨⟨by omega, by omega⟩, n - (j + 1), by omega, j + 1, by omega, by omega, rfl, h38⟩⟩
    rintro m2 v37 σ38 r37 f38 ⟨i, rfl, hi1, hm2, ht2⟩
    have ex38 : yEx σ σ38 := yEx_F (sg_F_t f24 (sg_F_t (sg_F_m f32 rfl) (sg_F_m f38 rfl))) rfl
    refine ⟨fun c => ?_, fun c => ?_⟩
    · rw [flw_s, e2, show q = i by omega]; exact ht2
    · obtain ⟨p1, p2, p3⟩ := hg i (by omega)
      have pk := pk1 (g i).toNat (by omega)
      rw [show ((ahF la j + (g i).toNat : Nat) : Int) = (ahF la j : Int) + g i by omega] at pk
      rw [xa_in ⟨by omega, by omega⟩, p3, l2]
      refine ⟨y_pitems _ _, ⟨by omega, by omega⟩, ⟨by omega, by omega⟩, t_pick ht2 (by rw [List.length_append, List.length_map, List.length_range]; omega) (pkX_up ex38 pk) itR ⟨by omega, by omega⟩ (fun σ3 t3 f3 _ => ⟨⟨by omega, by omega⟩, q - (i + 1), by omega, i + 1, by omega, by omega, rfl, ?_⟩)⟩
      rw [mrs (fun p : Nat => I.getD (g p).toNat (nmF 0)), ← List.append_assoc]
      exact t3
  have flt : ∀ (x : Int) (σ7 : sg_S), sg_F [75, 76] σ2 σ7 → sg_R x → f j = .inl x → V_lMiss σ7 x (fun σ29 => sg_F [15077] σ7 σ29 → ∀ Z : Prop, (p_lStart σ a (j : Int) ∧ V_lFirst σ29 0 (fun σ32 => sg_F [83, 12077, 16077] σ29 σ32 → (∃ (I40 : Nat → Int → sg_S → Prop) (X42 : sg_S → Prop), (∃ n, I40 n (0) σ32) ∧ (∀ (n50 : Nat) (v37 : Int) (σ38 : sg_S), sg_R v37 → sg_F [85, 86, 87, 14077, 16077] σ32 σ38 → I40 n50 v37 σ38 → (((0 : Int) ≤ v37 → X42 σ38) ∧ (v37 < (0 : Int) → p_lItems σ (a) ∧ sg_R ((v_lStart σ (a) (j : Int)) + (sx_at σ29 76 200 (v37))) ∧ sg_R (((v_lStart σ (a) (j : Int)) + (sx_at σ29 76 200 (v37))) + 1) ∧ V_lPick σ38 ((v_lItems σ (a))) (((v_lStart σ (a) (j : Int)) + (sx_at σ29 76 200 (v37)))) ((((v_lStart σ (a) (j : Int)) + (sx_at σ29 76 200 (v37))) + 1)) (fun σ60 => sg_F [85, 86, 87, 14077, 16077] σ38 σ60 → sg_R (v37 + 1) ∧ (∃ m, m < n50 ∧ I40 m ((v37 + 1)) σ60))))) ∧ (∀ (σ38 : sg_S), sg_F [85, 86, 87, 14077, 16077] σ32 σ38 → X42 σ38 → sg_R ((j : Int) + 1) ∧ ∃ m', m' < m ∧ ∃ j' : Nat, ((j : Int) + 1) = j' ∧ j' ≤ n ∧ m' = n - j' ∧ toX σ38 d ((List.range j').map (fun i => (fOv (f i)) [])) [] (flF ((List.range j').map (fun i => fOv (f i)))) (fOe ((List.range j').map f))))) → Z) → Z) := fun x σ7 f7 rx ex => t_miss (toX_F ht f7 (yEx_F f7 rfl) rfl) rx (fun σ' t' f' _ Z kz => kz (go 0 σ' _ (fun _ => 0) (by decide) (sg_F_t f2 (sg_F_t (sg_F_m f7 rfl) (sg_F_m f' rfl))) t' (fun p hp => by omega) (by rw [ex]; rfl) (by rw [ex]; show itF (nmF 0) = []; simp [itF, nmF]) (fOe_f ex).symm))
  unfold V_fOrdered
  rw [m1, k1]
  refine ⟨m6, k6, fun c => ?_, fun c => ?_⟩
  · have cl : I.length = (itF (lb.getD j (nmF 0))).length := by omega
    rw [if_pos cl] at hfj
    refine ⟨fun p v6 σ7 => ∃ i : Nat, v6 = i ∧ i ≤ I.length ∧ p = I.length - i ∧ ∀ (q : Nat) (x : Int), q < i → N[q]? = some x → sg_g σ7 75 q = x, fun σ7 => ∀ (q : Nat) (x : Int), N[q]? = some x → sg_g σ7 75 q = x, ⟨_, 0, rfl, Nat.zero_le _, rfl, fun q x hq => by omega⟩, ?_, ?_⟩
    · rintro p v6 σ7 r6 f7 ⟨i, rfl, hi, hp, hw⟩
      refine ⟨fun c2 q x hx => hw q x (by have := gE_l hx; omega) hx, fun c2 => ?_⟩
      obtain ⟨c1, c2', c3, c4⟩ := nu i (by omega)
      rw [k2, c1]
      refine ⟨y_pitems _ _, k7, ⟨by omega, by omega⟩, c2', fun σ42 e42 => ⟨⟨by omega, by omega⟩, I.length - (i + 1), by omega, i + 1, by omega, by omega, rfl, fun q x hq hx => ?_⟩⟩
      rw [xp_in ⟨by omega, by omega⟩] at e42
      by_cases cq : q = i
      · rw [cq] at hx ⊢
        rw [c3] at hx
        cases hx
        rw [e42, sg_gw_e _ _ _ _ c4]
      · rw [e42, sg_gw_k _ _ _ _ _ _ (by omega)]
        exact hw q x (by omega) hx
    · intro σ7 f7 hw
      have nN : N.length = I.length := by omega
      rw [← cl] at hfj
      refine xn_invert (nu := N) nN (by omega) hw (fun e σ22 f22 _ _ => ⟨fun w => absurd rfl w, fun _ => ?_⟩) (fun g e σ22 f22 hg _ _ => ⟨fun _ => ?_, fun w => absurd w (by decide)⟩)
      · rw [e] at hfj
        have F7 : sg_F [75, 76] σ2 σ22 := sg_F_t (sg_F_m f7 rfl) (sg_F_m f22 rfl)
        exact vl_m (flt 6 σ22 F7 (by decide) hfj) (fun σ29 hz f29 _ _ => hz f29 _ id)
      · rw [e] at hfj
        intro _ _
        have F7 : sg_F [75, 76] σ2 σ22 := sg_F_t (sg_F_m f7 rfl) (sg_F_m f22 rfl)
        refine go I.length σ22 _ g (by omega) (sg_F_t f2 (sg_F_m F7 rfl)) (toX_F ht F7 (yEx_F F7 rfl) rfl) (fun p hp => ?_) ?_ ?_ (fOe_nx hfj).symm
        · have gi := iv_all nN e (p := (p : Int)) ⟨by omega, by omega⟩
          exact ⟨gi.1, gi.2, hg p (by omega) (by omega)⟩
        · rw [hfj]
          show mkF _ [] = _
          rw [mkF_0, List.length_map, List.length_range]
        · rw [hfj]
          show itF (mkF _) = _
          rw [itF_mk]
  · have cl : ¬ I.length = (itF (lb.getD j (nmF 0))).length := by omega
    rw [if_neg cl] at hfj
    exact vl_m (flt 3 σ2 (sg_F_r _ _) (by decide) hfj) (fun σ29 hz f29 _ _ => hz f29 _ id)
end CJT
