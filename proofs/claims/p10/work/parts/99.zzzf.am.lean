/-! flat ops of the reference, exactly: FLAT, PACK, PERM. -/
section FXO0
variable {σ : sg_S}
theorem x_order0 {fr : Int} {m : Nat} {nu : List Int} {Q : Int → sg_S → Prop} (hn : nu.length = m) (h200 : m ≤ 200) (hf : 0 ≤ fr) (hfm : fr + m ≤ 60000) (h125 : ∀ (i : Nat) (z : Int), nu[i]? = some z → sg_g σ 142 (fr + i) = z) (k0 : ivF m 0 nu (fun _ => -1) = none → ∀ σ', sg_F [135] σ σ' → Q 0 σ') (k1 : ∀ g, ivF m 0 nu (fun _ => -1) = some g → ∀ σ', sg_F [135] σ σ' → (∀ p, 0 ≤ p → p < m → sg_g σ' 135 p = g p) → Q 1 σ') : V_isOrder σ fr (m : Int) 0 Q := by
  unfold V_isOrder
  refine ⟨fun q v σ2 => ∃ i : Nat, v = i ∧ q = m - i ∧ i ≤ m ∧ ∀ p, 0 ≤ p → p < (i : Int) → sg_g σ2 135 p = -1, fun σ2 => ∀ p, 0 ≤ p → p < (m : Int) → sg_g σ2 135 p = -1, ⟨_, 0, rfl, rfl, Nat.zero_le _, fun p a b => by omega⟩, ?_, ?_⟩
  · rintro q v σ2 rv f2 ⟨i, rfl, em, hi, hp⟩
    refine ⟨fun c p x y => hp p x (by omega), fun c => ⟨⟨by omega, by omega⟩, fun σ66 e66 => ⟨⟨by omega, by omega⟩, m - (i + 1), by omega, i + 1, by omega, rfl, by omega, fun p x y => ?_⟩⟩⟩
    by_cases e : p = i
    · rw [e, e66, sg_gw_e _ _ _ _ (by decide)]
    · rw [e66, sg_gw_k _ _ _ _ _ _ e]; exact hp p x (by omega)
  · intro σ2 f2 h2
    refine ⟨fun q is v σ18 => ∃ i : Nat, v = i ∧ q = m - i ∧ i ≤ m ∧ ((is = 0 ∧ ivF m 0 nu (fun _ => -1) = none) ∨ (is = 1 ∧ ∃ g : Int → Int, ivF m i (nu.drop i) g = ivF m 0 nu (fun _ => -1) ∧ (∀ p, 0 ≤ p → p < (m : Int) → sg_g σ18 135 p = g p))), fun is σ18 => (is = 0 ∧ ivF m 0 nu (fun _ => -1) = none) ∨ (is = 1 ∧ ∃ g : Int → Int, ivF m 0 nu (fun _ => -1) = some g ∧ ∀ p, 0 ≤ p → p < (m : Int) → sg_g σ18 135 p = g p), ⟨_, 0, rfl, rfl, Nat.zero_le _, Or.inr ⟨rfl, fun _ => -1, rfl, fun p a b => h2 p a b⟩⟩, ?_, ?_⟩
    · rintro q is v σ18 ris rv f18 ⟨i, rfl, em, hi, hh⟩
      have fin : (m : Int) ≤ i → (is = 0 ∧ ivF m 0 nu (fun _ => -1) = none) ∨ (is = 1 ∧ ∃ g : Int → Int, ivF m 0 nu (fun _ => -1) = some g ∧ ∀ p, 0 ≤ p → p < (m : Int) → sg_g σ18 135 p = g p) := fun c => by
        rcases hh with z | ⟨z, g, z1, z2⟩
        · exact Or.inl z
        · rw [List.drop_of_length_le (by omega)] at z1
          exact Or.inr ⟨z, g, z1.symm, z2⟩
      refine ⟨fin, fun c => ⟨fun z => ?_, fun z => ?_⟩⟩
      · rcases hh with y | ⟨y, -⟩
        · exact Or.inl y
        · omega
      · rcases hh with ⟨y, -⟩ | ⟨y, g, g1, g2⟩
        · exact absurd y z
        obtain ⟨w, hw⟩ := gE_x (l := nu) (i := i) (by omega)
        have e125 := h125 i w hw
        rw [dr_c hw] at g1
        simp only [ivF] at g1
        refine ⟨⟨fun _ => ⟨⟨by omega, by omega⟩, ⟨by omega, by omega⟩, trivial⟩, fun w' => absurd rfl w'⟩, fun v37 e37 r37 => ?_⟩
        rw [if_pos rfl, e125] at e37
        subst e37
        refine ⟨⟨by omega, by omega⟩, ⟨fun _ => trivial, fun w' => ?_⟩, fun v43 e43 r43 => ?_⟩
        · have w2 : 0 ≤ v37 ∧ v37 ≤ (m : Int) - 1 := Decidable.byContradiction (fun u => w' (v_in_n.mpr u))
          exact ⟨⟨w2.1, by omega⟩, fun _ => trivial, fun _ => trivial⟩
        · by_cases w' : v_in v37 0 ((m : Int) - 1) = 0
          · rw [if_pos w'] at e43
            have nw := v_in_n.mp w'
            refine ⟨fun _ => True, ⟨fun _ => trivial, fun u => absurd e43 u⟩, fun σ49 f49 _ => ⟨⟨by omega, by omega⟩, m - (i + 1), by omega, i + 1, by omega, rfl, by omega, Or.inl ⟨e43, by rw [← g1, if_neg (by omega)]⟩⟩⟩
          · have w2 : 0 ≤ v37 ∧ v37 ≤ (m : Int) - 1 := Decidable.byContradiction (fun u => w' (v_in_n.mpr u))
            rw [if_neg w'] at e43
            have gv := g2 v37 w2.1 (by omega)
            by_cases u : sg_g σ18 135 v37 = -1
            · rw [if_neg (fun t => t u)] at e43
              rw [gv] at u
              refine ⟨fun σ49 => ∀ p, 0 ≤ p → p < (m : Int) → sg_g σ49 135 p = (if p = v37 then (i : Int) else g p), ⟨fun t => absurd t (by omega), fun _ => ⟨⟨w2.1, by omega⟩, fun σ55 e55 p p0 p1 => ?_⟩⟩, fun σ49 f49 h49 => ⟨⟨by omega, by omega⟩, m - (i + 1), by omega, i + 1, by omega, rfl, by omega, Or.inr ⟨e43, fun y => if y = v37 then (i : Int) else g y, by rw [← g1, if_pos ⟨w2.1, by omega, u⟩], h49⟩⟩⟩
              by_cases cp : p = v37
              · rw [if_pos cp, cp, e55, sg_gw_e _ _ _ _ rv]
              · rw [if_neg cp, e55, sg_gw_k _ _ _ _ _ _ cp]; exact g2 p p0 p1
            · rw [if_pos u] at e43
              rw [gv] at u
              refine ⟨fun _ => True, ⟨fun _ => trivial, fun t => absurd e43 t⟩, fun σ49 f49 _ => ⟨⟨by omega, by omega⟩, m - (i + 1), by omega, i + 1, by omega, rfl, by omega, Or.inl ⟨e43, by rw [← g1, if_neg (fun t => u t.2.2)]⟩⟩⟩
    · rintro is σ18 ris f18 (⟨z, hz⟩ | ⟨z, g, hg, hz⟩)
      · rw [z]; exact ⟨Or.inl rfl, k0 hz σ18 (sg_F_t f2 f18)⟩
      · rw [z]; exact ⟨Or.inr rfl, k1 g hg σ18 (sg_F_t f2 f18) (fun p a b => hz p (by omega) (by omega))⟩
end FXO0
theorem frF_c {α : Type} (g : Nat → List α) (n : Nat) : frF g (n + 1) = g 0 ++ frF (fun k => g (k + 1)) n := by
  unfold frF
  rw [List.range_succ_eq_map, List.map_cons, List.flatten_cons, List.map_map]
  rfl
theorem pkF_fr : ∀ (l : List vaF) (xs : List Int), l.length = xs.length → pkF l xs = frF (fun k => if xs.getD k 0 = 0 then [] else [l.getD k (nmF 0)]) l.length
  | [], xs, h => by
    cases xs with
    | nil => rfl
    | cons x r => simp at h
  | v :: l, xs, h => by
    cases xs with
    | nil => simp at h
    | cons x r =>
      have ih := pkF_fr l r (by simpa using h)
      rw [List.length_cons, frF_c]
      simp only [pkF, List.getD_cons_zero, List.getD_cons_succ]
      by_cases c : x = 0
      · rw [if_pos c, if_pos c, ih]; rfl
      · rw [if_neg c, if_neg c, ih]; rfl
theorem frF_map {α β : Type} (h : α → β) (g : Nat → List α) (n : Nat) : (frF g n).map h = frF (fun k => (g k).map h) n := by
  unfold frF
  rw [List.map_flatten, List.map_map]
  rfl
theorem frF_e {α : Type} {g g' : Nat → List α} {n : Nat} (h : ∀ k, k < n → g k = g' k) : frF g n = frF g' n := by
  unfold frF
  rw [mp_e h]
/-- places of a stretch of a list -/
theorem ln_seg {P S T : List vaF} : ∀ n : Nat, n ≤ S.length → (rnF (P.length : Int) n).map (lnF (P ++ (S ++ T))) = S.take n
  | 0, _ => rfl
  | n + 1, h => by
    rw [rnF_s, List.map_append, ln_seg n (by omega), List.take_add_one, gD_i (by omega)]
    congr 1
    rw [List.map_cons, List.map_nil]
    unfold lnF
    rw [if_neg (by omega), show ((P.length : Int) + n).toNat = P.length + n by omega, List.getD_eq_getElem?_getD, List.getElem?_append_right (by omega), Nat.add_sub_cancel_left, List.getElem?_append_left (by omega), ← List.getD_eq_getElem?_getD]
    rfl
/-- items of items ahead of lane i -/
def a2F (l : List vaF) (i : Nat) : Nat := (flF (flF (l.take i))).length
theorem a2F_0 (l : List vaF) : a2F l 0 = 0 := by
  unfold a2F
  rw [List.take_zero, flF_0, flF_0]; rfl
theorem a2F_at {l : List vaF} {i : Nat} (h : i < l.length) : flF (flF l) = flF (flF (l.take i)) ++ (flF (itF (l.getD i (nmF 0))) ++ flF (flF (l.drop (i + 1)))) := by
  rw [flF_at h, flF_a, flF_a]
theorem a2F_s {l : List vaF} {i : Nat} (h : i < l.length) : a2F l (i + 1) = a2F l i + (flF (itF (l.getD i (nmF 0)))).length := by
  have e : l.take (i + 1) = l.take i ++ [l.getD i (nmF 0)] := by rw [List.take_add_one, gD_i h]; rfl
  unfold a2F
  rw [e, flF_a, flF_1, flF_a, List.length_append]
theorem a2F_b {l : List vaF} {i : Nat} (h : i < l.length) : a2F l i + (flF (itF (l.getD i (nmF 0)))).length ≤ (flF (flF l)).length := by
  have e := congrArg List.length (a2F_at h)
  simp only [List.length_append] at e
  unfold a2F
  omega
theorem a2F_n (l : List vaF) : a2F l l.length = (flF (flF l)).length := by
  unfold a2F
  rw [List.take_length]
theorem ln_a2 {l : List vaF} {i : Nat} (h : i < l.length) : (rnF (a2F l i) (flF (itF (l.getD i (nmF 0)))).length).map (lnF (flF (flF l))) = flF (itF (l.getD i (nmF 0))) := by
  rw [a2F_at h]
  unfold a2F
  rw [ln_seg _ (Nat.le_refl _), List.take_of_length_le (Nat.le_refl _)]
theorem ahF_le (l : List vaF) (j : Nat) : ahF l j ≤ (flF l).length := by
  have e : flF l = flF (l.take j) ++ flF (l.drop j) := by rw [← flF_a, List.take_append_drop]
  have e' := congrArg List.length e
  rw [List.length_append] at e'
  unfold ahF
  omega
theorem sumF_fl : ∀ l : List vaF, sumF (l.map (fun v => ((itF v).length : Int))) = ((flF l).length : Int)
  | [] => rfl
  | v :: r => by
    rw [List.map_cons, flF_c, List.length_append]
    simp only [sumF]
    rw [sumF_fl r]
    omega
theorem fl_D {l : List vaF} {i k : Nat} (h : i < l.length) (hk : k < (itF (l.getD i (nmF 0))).length) : (flF l).getD (ahF l i + k) (nmF 0) = (itF (l.getD i (nmF 0))).getD k (nmF 0) := by
  have e := fl_g h hk
  rw [gD_i hk] at e
  have hb := ahF_b h
  rw [gD_i (by omega)] at e
  exact Option.some.inj e
theorem nu_D {v : vaF} {y : Nat} (hy : y < (itF v).length) : (nuF v).getD y 0 = ((itF v).getD y (nmF 0)) [] := by
  have e : (nuF v)[y]? = some (((itF v).getD y (nmF 0)) []) := by
    unfold nuF
    rw [List.getElem?_map, gD_i hy]; rfl
  rw [List.getD_eq_getElem?_getD (a := (0 : Int)), e]
  rfl
section FXF
variable {σ : sg_S} {M v : Int} {d : Nat} {l : List vaF} {R : List (Int × Int)}
theorem m_fFlatX {a : Int} {L : Nat} {la : List vaF} {f : Nat → Int ⊕ vaF} {s : fSt} {Q : Int → sg_S → Prop} (hC : fC σ) (hs : fcX σ s) (ha : fX σ 6000 a (d + 2) la R) (hL : la.length = L) (hq : fqX σ 0) (hf : ∀ i, i < L → f i = if ((flF (itF (la.getD i (nmF 0)))).length : Int) ≤ 200 then .inr (mkF (flF (itF (la.getD i (nmF 0))))) else .inl 5) (k : ∀ q σ', opX σ σ' (d + 1) ((List.range L).map f) s q → Q q σ') : V_flatFlat σ a (L : Int) Q := by
  have hC' := hC
  obtain ⟨c1, c2, c3, c4⟩ := hC
  obtain ⟨r, r', Ra, er, er1, er2, er3, er4, er5, er6, er7⟩ := fX_s ha
  subst er
  have d1 : d ≤ 1 := by have := ha.1.2.1.2; simp only [List.length_cons] at this; omega
  have L6 : (L : Int) ≤ 6000 := by have := er6.2.2.1; omega
  have I6 : ((flF la).length : Int) ≤ 6000 := by have := er7.2.2.1; omega
  unfold V_flatFlat
  refine m_innerX ⟨by omega, by omega⟩ ha (fun q σ2 eq ex2 fv2 e87 f2 _ _ => ?_)
  obtain ⟨t, t', Rt, et, et1, et2, et3, et4, et5, et6, et7⟩ := fX_s fv2
  cases et
  have J6 : ((flF (flF la)).length : Int) ≤ 6000 := by have := et7.2.2.1; omega
  refine m_innerX ⟨by omega, by omega⟩ fv2 (fun q2 σ3 eq2 ex3 fv3 e87' f3 _ _ σ4 e4 => ?_)
  have f4 : sg_F [94088] σ3 σ4 := by rw [e4]; exact sg_F_w (sg_F_r _ _) rfl _
  have F3 : sg_F [139, 140, 141, 88088] σ σ3 := sg_F_t f2 f3
  have e91 : sg_g σ3 88 91 = sg_g σ 88 91 := sg_F_g F3 (by rfl)
  have ex23 := fEx_t ex2 ex3
  have ha3 := fX_up ex23 ha
  have hm3 := fX_up ex3 fv2
  obtain ⟨n1, en1⟩ : ∃ n1 : Nat → Nat, ∀ i, n1 i = (flF (itF (la.getD i (nmF 0)))).length := ⟨_, fun _ => rfl⟩
  obtain ⟨kl, ekl⟩ : ∃ kl : Nat → List Int, ∀ i, kl i = if (n1 i : Int) ≤ 200 then rnF (a2F la i) (n1 i) else [] := ⟨_, fun _ => rfl⟩
  have kll : ∀ i, (kl i).length ≤ n1 i := fun i => by
    rw [ekl i]
    by_cases c : (n1 i : Int) ≤ 200
    · rw [if_pos c, rnF_l]; exact Nat.le_refl _
    · rw [if_neg c]; exact Nat.zero_le _
  have itW : ∀ i, i < L → (kl i).map (lnF (flF (flF la))) = itF (fOv (f i)) := fun i hi => by
    rw [hf i hi, ekl i, en1 i]
    by_cases c : ((flF (itF (la.getD i (nmF 0)))).length : Int) ≤ 200
    · rw [if_pos c, if_pos c, ln_a2 (by omega)]
      show _ = itF (mkF _)
      rw [itF_mk]
    · rw [if_neg c, if_neg c]; rfl
  have flW := fl_W (lin := flF (flF la)) itW
  have lenW : ∀ i, i < L → (fOv (f i)) [] = (if (n1 i : Int) ≤ 200 then (n1 i : Int) else 0) := fun i hi => by
    rw [hf i hi, en1 i]
    by_cases c : ((flF (itF (la.getD i (nmF 0)))).length : Int) ≤ 200
    · rw [if_pos c, if_pos c]; rfl
    · rw [if_neg c, if_neg c]; rfl
  have hlen : ∀ i, i ≤ L → (frF kl i).length ≤ a2F la i := fun i hi => by
    have := frF_b (kl := kl) (b := a2F la) i (fun j hj => by
      have h1 := kll j
      have h2 := a2F_s (l := la) (i := j) (by omega)
      rw [en1 j] at h1
      omega)
    rw [a2F_0] at this
    omega
  refine ⟨fun m row at_ x σ5 => ∃ i : Nat, x = i ∧ m = L - i ∧ i ≤ L ∧ row = (ahF la i : Int) ∧ at_ = (a2F la i : Int) ∧ fqX σ5 (fOe ((List.range i).map f)) ∧ lX σ5 (frF kl i) ∧ ∀ j : Nat, j < i → sg_g σ5 150 j = (if (n1 j : Int) ≤ 200 then (n1 j : Int) else 0), fun σ5 => fqX σ5 (fOe ((List.range L).map f)) ∧ lX σ5 (frF kl L) ∧ ∀ j : Nat, j < L → sg_g σ5 150 j = (if (n1 j : Int) ≤ 200 then (n1 j : Int) else 0), ⟨_, 0, rfl, rfl, Nat.zero_le _, by rw [ahF_0]; rfl, by rw [a2F_0]; rfl, fqX_F f4 rfl (fqX_F F3 rfl hq), lX_0 e4, fun j hj => by omega⟩, ?_, ?_⟩
  · rintro m row at_ x σ5 rr ra rx f5 ⟨i, rfl, en, hi, rfl, rfl, hq5, hl5, hz⟩
    refine ⟨fun z => by rw [show L = i by omega]; exact ⟨hq5, hl5, hz⟩, fun z => ?_⟩
    have iL : i < L := by omega
    obtain ⟨pa, va⟩ := pRX ha3 ⟨by omega, by omega⟩ (i := i) (by omega)
    obtain ⟨n0, m1, m2⟩ := er4 i (by omega)
    have il := it_len m1
    have hah := ahF_s (l := la) (i := i) (by omega)
    have hab := ahF_b (l := la) (i := i) (by omega)
    have ha2 := a2F_s (l := la) (i := i) (by omega)
    have hb2 := a2F_b (l := la) (i := i) (by omega)
    have hfi := hf i iL
    have eki := ekl i
    have hle := hlen i hi
    obtain ⟨it, eit⟩ : ∃ it : List vaF, it = itF (la.getD i (nmF 0)) := ⟨_, rfl⟩
    rw [← en1 i] at ha2 hb2 hfi
    have en1i := en1 i
    rw [← eit] at il hah hab en1i
    rw [va]
    refine ⟨fun m rw' sm y => ∃ j : Nat, y = j ∧ m = it.length - j ∧ j ≤ it.length ∧ rw' = (ahF la i : Int) + j ∧ sm = (ahF it j : Int), fun rw' sm => rw' = (ahF la (i + 1) : Int) ∧ sm = (n1 i : Int), ⟨_, 0, rfl, rfl, Nat.zero_le _, by omega, by rw [ahF_0]; rfl⟩, ?_, ?_⟩
    · rintro m' rw' sm y r1 r2 r3 ⟨j, rfl, en', hj, rfl, rfl⟩
      refine ⟨pa, fun c => ⟨by omega, ?_⟩, fun c => ?_⟩
      · rw [show j = it.length by omega, ahF_n, en1i]
      · have jl : j < it.length := by omega
        obtain ⟨pb, vb⟩ := pRX hm3 ⟨by omega, by omega⟩ (i := ahF la i + j) (by omega)
        rw [show ((ahF la i + j : Nat) : Int) = (ahF la i : Int) + j by omega] at pb vb
        have eg : (flF la).getD (ahF la i + j) (nmF 0) = it.getD j (nmF 0) := by
          rw [List.getD_eq_getElem?_getD, fl_g (by omega) (by rw [← eit]; exact jl), ← eit, ← List.getD_eq_getElem?_getD]
        rw [eg] at vb
        have g4 := et4 (ahF la i + j) (by omega)
        rw [eg] at g4
        have jt := it_len g4.2.1
        have hs1 := ahF_s (l := it) (i := j) jl
        have hb1 := ahF_b (l := it) (i := j) jl
        rw [vb]
        exact ⟨pb, ⟨by omega, by omega⟩, ⟨by omega, by omega⟩, ⟨by omega, by omega⟩, it.length - (j + 1), by omega, j + 1, by omega, rfl, by omega, by omega, by omega⟩
    · rintro rw' sm r1 r2 ⟨rfl, rfl⟩
      refine ⟨fun σ6 => fqX σ6 (fOe ((List.range (i + 1)).map f)), ⟨fun c => ?_, fun c => ?_⟩, fun σ6 f6 hq6 => ?_⟩
      · rw [if_pos c] at hfi
        exact fqX_i hq5 (fOe_n hfi)
      · rw [if_neg (by omega)] at hfi
        exact m_lacksX ⟨by omega, rx⟩ ⟨by decide, by decide, by decide⟩ hq5 (fun σ5 h5 _ _ => fqX_i h5 (fOe_e hfi))
      · refine ⟨fun m y σ7 => ∃ j : Nat, y = j ∧ m = n1 i - j ∧ j ≤ n1 i ∧ lX σ7 (frF kl i ++ (if (n1 i : Int) ≤ 200 then rnF (a2F la i) j else [])), fun σ7 => lX σ7 (frF kl (i + 1)), ⟨_, 0, rfl, rfl, Nat.zero_le _, lX_e (lX_F f6 rfl hl5) ?_⟩, ?_, ?_⟩
        · by_cases c : (n1 i : Int) ≤ 200
          · rw [if_pos c]
            exact List.append_nil _
          · rw [if_neg c, List.append_nil]
        · rintro m' y σ7 ry f7 ⟨j, rfl, en', hj, h7⟩
          refine ⟨fun c => lX_e h7 ?_, fun c => ⟨fun c2 => lX_e h7 ?_, fun c2 => ⟨⟨by omega, by omega⟩, m_listX h7 ?_ ⟨by omega, by omega⟩ (fun σ8 h8 f8 _ => ⟨⟨by omega, by omega⟩, n1 i - (j + 1), by omega, j + 1, by omega, rfl, by omega, lX_e h8 ?_⟩)⟩⟩⟩
          · rw [frF_s, eki, show j = n1 i by omega]
          · rw [frF_s, eki, if_neg (by omega), if_neg (by omega)]
          · rw [if_pos c2, List.length_append, rnF_l]
            omega
          · rw [if_pos c2, if_pos c2, rnF_s, List.append_assoc]
        · intro σ7 f7 hl7
          refine ⟨⟨by omega, by omega⟩, fun v111 e111 r111 => ⟨⟨by omega, by omega⟩, fun σ8 e8 => ?_⟩⟩
          have f8 : sg_F [150] σ7 σ8 := by rw [e8]; exact sg_F_w (sg_F_r _ _) rfl _
          refine ⟨⟨by omega, by omega⟩, L - (i + 1), by omega, i + 1, by omega, rfl, by omega, rfl, by omega, fqX_F f8 rfl (fqX_F f7 rfl hq6), lX_F f8 rfl hl7, fun j hj => ?_⟩
          by_cases c : j = i
          · rw [c, e8, sg_gw_e _ _ _ _ r111]; exact e111
          · rw [e8, sg_gw_k _ _ _ _ _ _ (by omega), sg_F_ga f7 rfl, sg_F_ga f6 rfl]; exact hz j (by omega)
  · rintro σ5 f5 ⟨hq5, hl5, hz⟩
    have F5 : sg_F [143, 150, 94088, 103088, 104088] σ3 σ5 := sg_F_t (sg_F_m f4 rfl) (sg_F_m f5 rfl)
    have hleL := hlen L (Nat.le_refl _)
    have aL : a2F la L = (flF (flF la)).length := by rw [← hL]; exact a2F_n la
    refine m_estX (σ0 := σ) (fX_up (fEx_F F5 rfl) fv3) (by omega) hC' (fcX_F F5 rfl (fcX_F F3 rfl hs)) (fEx_t ex23 (fEx_F F5 rfl)) (by rw [sg_F_g F5 (by rfl)]; exact sg_F_g F3 (by rfl)) (by rw [sg_F_g F5 (by rfl)]; exact e91) (by rw [sg_F_g F5 (by rfl)]; exact sg_F_g F3 (by rfl)) (by rw [sg_F_g F5 (by rfl)]; omega) hq5 hl5 (frF_m (fun i hi x hx => ?_)) (by omega) (by rw [List.length_map, List.length_range]) (by omega) (fun i hi => ?_) flW k
    · rw [ekl i] at hx
      have hb2 := a2F_b (l := la) (i := i) (by omega)
      rw [← en1 i] at hb2
      by_cases c : (n1 i : Int) ≤ 200
      · rw [if_pos c] at hx
        have := rnF_m hx
        omega
      · rw [if_neg c] at hx
        cases hx
    · rw [W_D hi, lenW i hi, hz i hi]
      refine ⟨rfl, ?_⟩
      by_cases c : (n1 i : Int) ≤ 200
      · rw [if_pos c]; omega
      · rw [if_neg c]; omega
theorem m_fChosenX {n a b : Int} {L : Nat} {la lb : List vaF} {R' : List (Int × Int)} {f : Nat → Int ⊕ vaF} {s : fSt} {Q : Int → sg_S → Prop} (hC : fC σ) (hs : fcX σ s) (hn : 0 ≤ n ∧ n < 210) (ha : fX σ 6000 a (d + 1) la R) (hb : fX σ 6000 b 1 lb R') (hL : la.length = L) (hL' : lb.length = L) (hq : fqX σ 0) (hf5 : sg_g σ 93 n = 25 → ∀ i, i < L → f i = if (itF (la.getD i (nmF 0))).length = (itF (lb.getD i (nmF 0))).length then .inr (mkF (pkF (itF (la.getD i (nmF 0))) (nuF (lb.getD i (nmF 0))))) else .inl 3) (hf6 : ¬ sg_g σ 93 n = 25 → ∀ i, i < L → f i = if (itF (la.getD i (nmF 0))).length = (itF (lb.getD i (nmF 0))).length then (match ivF (itF (lb.getD i (nmF 0))).length 0 (nuF (lb.getD i (nmF 0))) (fun _ => -1) with
    | none => .inl 6
    | some g => .inr (mkF ((List.range (itF (la.getD i (nmF 0))).length).map (fun j : Nat => (itF (la.getD i (nmF 0))).getD (g j).toNat (nmF 0))))) else .inl 3) (k : ∀ q σ', opX σ σ' (d + 1) ((List.range L).map f) s q → Q q σ') : V_flatChosen σ n a b (L : Int) Q := by
  have hC' := hC
  obtain ⟨c1, c2, c3, c4⟩ := hC
  obtain ⟨r, r', Ra, er, er1, er2, er3, er4, er5, er6, er7⟩ := fX_s ha
  subst er
  obtain ⟨t, t', Rt, et, et1, et2, et3, et4, et5, et6, et7⟩ := fX_s hb
  subst et
  have d2 : d ≤ 2 := by have := ha.1.2.1.2; simp only [List.length_cons] at this; omega
  have L6 : (L : Int) ≤ 6000 := by have := er6.2.2.1; omega
  have I6 : ((flF la).length : Int) ≤ 6000 := by have := er7.2.2.1; omega
  have J6 : ((flF lb).length : Int) ≤ 6000 := by have := et7.2.2.1; omega
  have t0 := et7.1
  have t9 := et7.2.2.2
  obtain ⟨na, ena⟩ : ∃ na : Nat → Nat, ∀ i, na i = (itF (la.getD i (nmF 0))).length := ⟨_, fun _ => rfl⟩
  obtain ⟨nb, enb⟩ : ∃ nb : Nat → Nat, ∀ i, nb i = (itF (lb.getD i (nmF 0))).length := ⟨_, fun _ => rfl⟩
  obtain ⟨nu, enu⟩ : ∃ nu : Nat → List Int, ∀ i, nu i = nuF (lb.getD i (nmF 0)) := ⟨_, fun _ => rfl⟩
  have nul : ∀ i, (nu i).length = nb i := fun i => by rw [enu i, enb i]; unfold nuF; rw [List.length_map]
  obtain ⟨p5, ep5⟩ : ∃ p5 : Nat → Nat → List Int, ∀ i j, p5 i j = frF (fun y : Nat => if (nu i).getD y 0 = 0 then [] else [(ahF la i : Int) + y]) j := ⟨_, fun _ _ => rfl⟩
  obtain ⟨kl, ekl⟩ : ∃ kl : Nat → List Int, ∀ i, kl i = if na i = nb i then (if sg_g σ 93 n = 25 then p5 i (na i) else (match ivF (nb i) 0 (nu i) (fun _ => -1) with
    | none => []
    | some g => (List.range (na i)).map (fun j : Nat => (ahF la i : Int) + g j))) else [] := ⟨_, fun _ => rfl⟩
  have p5l : ∀ i j, (p5 i j).length ≤ j := fun i j => by
    rw [ep5 i j]
    have := frF_b (kl := fun y : Nat => if (nu i).getD y 0 = 0 then [] else [(ahF la i : Int) + y]) (b := fun y => y) j (fun y _ => by
      by_cases c : (nu i).getD y 0 = 0
      · simp only [if_pos c, List.length_nil]; omega
      · simp only [if_neg c, List.length_cons, List.length_nil]; omega)
    omega
  have kll : ∀ i, (kl i).length ≤ na i := fun i => by
    rw [ekl i]
    by_cases c : na i = nb i
    · rw [if_pos c]
      by_cases c5 : sg_g σ 93 n = 25
      · rw [if_pos c5]; exact p5l i _
      · rw [if_neg c5]
        cases ivF (nb i) 0 (nu i) (fun _ => -1) with
        | none => exact Nat.zero_le _
        | some g => simp only [List.length_map, List.length_range]; exact Nat.le_refl _
    · rw [if_neg c]; exact Nat.zero_le _
  have klm : ∀ i, i < L → ∀ x ∈ kl i, (ahF la i : Int) ≤ x ∧ x < (ahF la i : Int) + na i := fun i hi x hx => by
    rw [ekl i] at hx
    by_cases c : na i = nb i
    · rw [if_pos c] at hx
      by_cases c5 : sg_g σ 93 n = 25
      · rw [if_pos c5, ep5 i] at hx
        refine frF_m (P := fun x => (ahF la i : Int) ≤ x ∧ x < (ahF la i : Int) + na i) (fun y hy x hx => ?_) x hx
        by_cases c0 : (nu i).getD y 0 = 0
        · rw [if_pos c0] at hx; cases hx
        · rw [if_neg c0] at hx
          have : x = (ahF la i : Int) + y := by simpa using hx
          omega
      · rw [if_neg c5] at hx
        cases hv : ivF (nb i) 0 (nu i) (fun _ => -1) with
        | none => rw [hv] at hx; cases hx
        | some g =>
          rw [hv] at hx
          obtain ⟨j, hj, e⟩ := List.mem_map.mp hx
          have e' : (ahF la i : Int) + g j = x := e
          rw [List.mem_range] at hj
          have := iv_all (nul i) hv (p := (j : Int)) ⟨by omega, by omega⟩
          omega
    · rw [if_neg c] at hx; cases hx
  have itW : ∀ i, i < L → (kl i).map (lnF (flF la)) = itF (fOv (f i)) := fun i hi => by
    rw [ekl i]
    by_cases c : na i = nb i
    · have c' : (itF (la.getD i (nmF 0))).length = (itF (lb.getD i (nmF 0))).length := by rw [← ena i, ← enb i]; exact c
      rw [if_pos c]
      by_cases c5 : sg_g σ 93 n = 25
      · rw [if_pos c5, hf5 c5 i hi, if_pos c', ep5 i, frF_map]
        show _ = itF (mkF _)
        rw [itF_mk, pkF_fr _ _ (by unfold nuF; rw [List.length_map]; exact c'), ← ena i, ← enu i]
        refine frF_e (fun y hy => ?_)
        by_cases c0 : (nu i).getD y 0 = 0
        · simp only [if_pos c0, List.map_nil]
        · simp only [if_neg c0, List.map_cons, List.map_nil]
          rw [ln_it (by omega) (by rw [← ena i]; exact hy)]
      · rw [if_neg c5, hf6 c5 i hi, if_pos c', ← enb i, ← enu i]
        cases hv : ivF (nb i) 0 (nu i) (fun _ => -1) with
        | none => rfl
        | some g =>
          show _ = itF (mkF _)
          rw [itF_mk]
          show ((List.range (na i)).map (fun j : Nat => (ahF la i : Int) + g j)).map (lnF (flF la)) = _
          rw [List.map_map, ← ena i]
          refine mp_e (fun j hj => ?_)
          have g0 := iv_all (nul i) hv (p := (j : Int)) ⟨by omega, by omega⟩
          have e := ln_it (l := la) (i := i) (k := (g j).toNat) (by omega) (by rw [← ena i]; omega)
          rw [show (((g j).toNat : Nat) : Int) = g j by omega] at e
          exact e
    · have c' : ¬ (itF (la.getD i (nmF 0))).length = (itF (lb.getD i (nmF 0))).length := by rw [← ena i, ← enb i]; exact c
      rw [if_neg c]
      by_cases c5 : sg_g σ 93 n = 25
      · rw [hf5 c5 i hi, if_neg c']; rfl
      · rw [hf6 c5 i hi, if_neg c']; rfl
  have flW := fl_W (lin := flF la) itW
  have lenW : ∀ i, i < L → (fOv (f i)) [] = ((kl i).length : Int) := fun i hi => by
    have h1 := itW i hi
    have h2 := congrArg List.length h1
    rw [List.length_map, itF_l] at h2
    have h3 : 0 ≤ (fOv (f i)) [] := by
      by_cases c' : (itF (la.getD i (nmF 0))).length = (itF (lb.getD i (nmF 0))).length
      · by_cases c5 : sg_g σ 93 n = 25
        · rw [hf5 c5 i hi, if_pos c']; exact Int.natCast_nonneg _
        · rw [hf6 c5 i hi, if_pos c']
          cases ivF (itF (lb.getD i (nmF 0))).length 0 (nuF (lb.getD i (nmF 0))) (fun _ => -1) with
          | none => exact Int.le_refl _
          | some g => exact Int.natCast_nonneg _
      · by_cases c5 : sg_g σ 93 n = 25
        · rw [hf5 c5 i hi, if_neg c']; exact Int.le_refl _
        · rw [hf6 c5 i hi, if_neg c']; exact Int.le_refl _
    omega
  have hlen : ∀ i, i ≤ L → (frF kl i).length ≤ ahF la i := fun i hi => by
    have := frF_b (kl := kl) (b := ahF la) i (fun j hj => by
      have h1 := kll j
      have h2 := ahF_s (l := la) (i := j) (by omega)
      rw [ena j] at h1
      omega)
    rw [ahF_0] at this
    omega
  unfold V_flatChosen
  refine m_innerX ⟨by omega, by omega⟩ ha (fun q σ2 eq ex2 fv2 e87 f2 _ _ => ?_)
  have ha2 := fX_up ex2 ha
  have hb2 := fX_up ex2 hb
  have z1 := fV_1 hb2.1
  have ub := hb.1.1
  rw [z1.1]
  have e91 : sg_g σ2 88 91 = sg_g σ 88 91 := sg_F_g f2 (by rfl)
  refine ⟨⟨by omega, by omega⟩, ⟨by omega, by omega⟩, ⟨by omega, by omega⟩, fun σ4 e4 => ?_⟩
  have f4 : sg_F [94088] σ2 σ4 := by rw [e4]; exact sg_F_w (sg_F_r _ _) rfl _
  refine ⟨fun m at_ by_ x σ5 => ∃ i : Nat, x = i ∧ m = L - i ∧ i ≤ L ∧ at_ = (ahF la i : Int) ∧ by_ = t'.1 + (ahF lb i : Int) ∧ fqX σ5 (fOe ((List.range i).map f)) ∧ lX σ5 (frF kl i) ∧ ∀ j : Nat, j < i → sg_g σ5 150 j = ((kl j).length : Int), fun σ5 => fqX σ5 (fOe ((List.range L).map f)) ∧ lX σ5 (frF kl L) ∧ ∀ j : Nat, j < L → sg_g σ5 150 j = ((kl j).length : Int), ⟨_, 0, rfl, rfl, Nat.zero_le _, by rw [ahF_0]; rfl, by rw [ahF_0]; omega, fqX_F f4 rfl (fqX_F f2 rfl hq), lX_0 e4, fun j hj => by omega⟩, ?_, ?_⟩
  · rintro m at_ by_ x σ5 ra rb rx f5 ⟨i, rfl, en, hi, rfl, rfl, hq5, hl5, hz⟩
    refine ⟨fun z => by rw [show L = i by omega]; exact ⟨hq5, hl5, hz⟩, fun z => ?_⟩
    have iL : i < L := by omega
    obtain ⟨pa, va⟩ := pRX ha2 ⟨by omega, by omega⟩ (i := i) (by omega)
    obtain ⟨pb, vb⟩ := pRX hb2 ⟨by omega, by omega⟩ (i := i) (by omega)
    obtain ⟨n0, m1, m2⟩ := er4 i (by omega)
    obtain ⟨n0', m1', m2'⟩ := et4 i (by omega)
    have il := it_len m1
    have jl := it_len m1'
    have hah := ahF_s (l := la) (i := i) (by omega)
    have hab := ahF_b (l := la) (i := i) (by omega)
    have hbh := ahF_s (l := lb) (i := i) (by omega)
    have hbb := ahF_b (l := lb) (i := i) (by omega)
    rw [← ena i] at il hah hab
    rw [← enb i] at jl hbh hbb
    have hle := hlen i hi
    have eki := ekl i
    have kli := kll i
    have cell : ∀ y : Nat, y < nb i → sg_g σ 142 (t'.1 + (ahF lb i : Int) + y) = (nu i).getD y 0 := fun y hy => by
      have e1 := et5 (ahF lb i + y) (by omega)
      rw [show t'.1 + ((ahF lb i + y : Nat) : Int) = t'.1 + (ahF lb i : Int) + y by omega] at e1
      rw [e1, fl_D (by omega) (by rw [← enb i]; exact hy), enu i, nu_D (by rw [← enb i]; exact hy)]
    rw [va, vb]
    refine ⟨pa, pb, fun σ6 => fqX σ6 (fOe ((List.range (i + 1)).map f)) ∧ lX σ6 (frF kl i ++ kl i), ⟨fun c => ⟨hn, fun k5 => ?_, fun k5 => ?_⟩, fun c => ?_⟩, fun σ6 f6 h6 => ?_⟩
    · have cn : na i = nb i := by omega
      have cn' : (itF (la.getD i (nmF 0))).length = (itF (lb.getD i (nmF 0))).length := by rw [← ena i, ← enb i]; exact cn
      have hfi := hf6 k5 i iL
      rw [if_pos cn', ← enb i, ← enu i] at hfi
      rw [if_pos cn, if_neg k5] at eki
      rw [← il]
      refine x_order0 (nu := nu i) (by rw [nul i]; exact cn.symm) (by omega) (by omega) (by omega) (fun y w hy => ?_) (fun hv σ7 f7 _ _ => ⟨fun z' => absurd rfl z', fun _ => ?_⟩) (fun g hv σ7 f7 hp _ _ => ⟨fun _ => ?_, fun z' => by omega⟩)
      · have hyl := lt_of_get hy
        rw [nul i] at hyl
        rw [sg_F_ga f5 rfl, sg_F_ga f4 rfl, sg_F_ga f2 rfl, cell y hyl, List.getD_eq_getElem?_getD, hy]
        rfl
      · rw [cn] at hv
        rw [hv] at hfi eki
        refine m_lacksX ⟨by omega, rx⟩ ⟨by decide, by decide, by decide⟩ (fqX_F f7 rfl hq5) (fun σ8 h8 f8 _ => ⟨fqX_i h8 (fOe_e hfi), lX_e (lX_F f8 rfl (lX_F f7 rfl hl5)) ?_⟩)
        rw [eki]
        exact List.append_nil _
      · have hv' := hv
        rw [cn] at hv'
        rw [hv'] at hfi eki
        refine ⟨fun m y σ8 => ∃ j : Nat, y = j ∧ m = na i - j ∧ j ≤ na i ∧ fqX σ8 (fOe ((List.range (i + 1)).map f)) ∧ lX σ8 (frF kl i ++ (List.range j).map (fun j : Nat => (ahF la i : Int) + g j)), ⟨_, 0, rfl, rfl, Nat.zero_le _, fqX_i (fqX_F f7 rfl hq5) (fOe_n hfi), lX_e (lX_F f7 rfl hl5) (by simp)⟩, ?_⟩
        rintro m' y σ8 ry f8 ⟨j, rfl, en', hj, hq8, h8⟩
        refine ⟨fun c3 => ⟨hq8, lX_e h8 (by rw [eki, show j = na i by omega])⟩, fun c3 => ?_⟩
        have hpy := hp j (by omega) (by omega)
        have gb := iv_all (n := na i) (by rw [nul i]; exact cn.symm) hv (p := (j : Int)) ⟨by omega, by omega⟩
        rw [hpy]
        refine ⟨⟨by omega, by omega⟩, ⟨by omega, by omega⟩, m_listX h8 (by rw [List.length_append, List.length_map, List.length_range]; omega) ⟨by omega, by omega⟩ (fun σ9 h9 f9 _ => ⟨⟨by omega, by omega⟩, na i - (j + 1), by omega, j + 1, by omega, rfl, by omega, fqX_F f9 rfl hq8, lX_e h9 ?_⟩)⟩
        rw [List.range_succ, List.map_append, List.append_assoc]
        rfl
    · have cn : na i = nb i := by omega
      have cn' : (itF (la.getD i (nmF 0))).length = (itF (lb.getD i (nmF 0))).length := by rw [← ena i, ← enb i]; exact cn
      have hfi := hf5 k5 i iL
      rw [if_pos cn'] at hfi
      rw [if_pos cn, if_pos k5] at eki
      refine ⟨fun m y σ8 => ∃ j : Nat, y = j ∧ m = na i - j ∧ j ≤ na i ∧ fqX σ8 (fOe ((List.range (i + 1)).map f)) ∧ lX σ8 (frF kl i ++ p5 i j), fun σ8 => fqX σ8 (fOe ((List.range (i + 1)).map f)) ∧ lX σ8 (frF kl i ++ kl i), ⟨_, 0, rfl, rfl, Nat.zero_le _, fqX_i hq5 (fOe_n hfi), lX_e hl5 (by rw [ep5 i 0, frF_0, List.append_nil])⟩, ?_, fun σ8 f8 h8 => h8⟩
      rintro m' y σ8 ry f8 ⟨j, rfl, en', hj, hq8, h8⟩
      refine ⟨fun c3 => ⟨hq8, lX_e h8 (by rw [eki, show j = na i by omega])⟩, fun c3 => ?_⟩
      have jb : j < nb i := by omega
      have cj := cell j jb
      have ps : p5 i (j + 1) = p5 i j ++ (if (nu i).getD j 0 = 0 then [] else [(ahF la i : Int) + j]) := by rw [ep5 i, ep5 i, frF_s]
      have pl := p5l i j
      rw [cj]
      refine ⟨⟨by omega, by omega⟩, ⟨by omega, by omega⟩, fun σ9 => fqX σ9 (fOe ((List.range (i + 1)).map f)) ∧ lX σ9 (frF kl i ++ p5 i (j + 1)), ⟨fun c0 => ⟨hq8, lX_e h8 (by rw [ps, if_pos c0, List.append_nil])⟩, fun c0 => ⟨⟨by omega, by omega⟩, m_listX h8 (by rw [List.length_append]; omega) ⟨by omega, by omega⟩ (fun σ9 h9 f9 _ => ⟨fqX_F f9 rfl hq8, lX_e h9 (by rw [ps, if_neg c0, List.append_assoc])⟩)⟩⟩, fun σ9 f9 h9 => ⟨⟨by omega, by omega⟩, na i - (j + 1), by omega, j + 1, by omega, rfl, by omega, h9⟩⟩
    · have cn : ¬ na i = nb i := by omega
      have cn' : ¬ (itF (la.getD i (nmF 0))).length = (itF (lb.getD i (nmF 0))).length := by rw [← ena i, ← enb i]; exact cn
      rw [if_neg cn] at eki
      have hfi : f i = .inl 3 := by
        by_cases c5 : sg_g σ 93 n = 25
        · rw [hf5 c5 i iL, if_neg cn']
        · rw [hf6 c5 i iL, if_neg cn']
      exact m_lacksX ⟨by omega, rx⟩ ⟨by decide, by decide, by decide⟩ hq5 (fun σ8 h8 f8 _ => ⟨fqX_i h8 (fOe_e hfi), lX_e (lX_F f8 rfl hl5) (by rw [eki, List.append_nil])⟩)
    · obtain ⟨hq6, h6⟩ := h6
      have g5 := hl5.1
      have g6 := h6.1
      rw [List.length_append] at g6
      rw [show sg_g σ6 88 93 - sg_g σ5 88 93 = ((kl i).length : Int) by omega]
      refine ⟨⟨by omega, by omega⟩, ⟨by omega, by omega⟩, fun σ7 e7 => ?_⟩
      have f7 : sg_F [150] σ6 σ7 := by rw [e7]; exact sg_F_w (sg_F_r _ _) rfl _
      refine ⟨⟨by omega, by omega⟩, pb, ⟨by omega, by omega⟩, ⟨by omega, by omega⟩, L - (i + 1), by omega, i + 1, by omega, rfl, by omega, by omega, by omega, fqX_F f7 rfl hq6, lX_e (lX_F f7 rfl h6) (frF_s _ _), fun j hj => ?_⟩
      by_cases c : j = i
      · rw [c, e7, sg_gw_e _ _ _ _ ⟨by omega, by omega⟩]
      · rw [e7, sg_gw_k _ _ _ _ _ _ (by omega), sg_F_ga f6 rfl]; exact hz j (by omega)
  · rintro σ5 f5 ⟨hq5, hl5, hz⟩
    have F5 : sg_F [135, 143, 150, 94088, 103088, 104088] σ2 σ5 := sg_F_t (sg_F_m f4 rfl) f5
    have hleL := hlen L (Nat.le_refl _)
    have aL : ahF la L = (flF la).length := by rw [← hL]; exact ahF_n la
    refine m_estX (σ0 := σ) (fX_up (fEx_F F5 rfl) fv2) d2 hC' (fcX_F F5 rfl (fcX_F f2 rfl hs)) (fEx_t ex2 (fEx_F F5 rfl)) (by rw [sg_F_g F5 (by rfl)]; exact sg_F_g f2 (by rfl)) (by rw [sg_F_g F5 (by rfl)]; exact e91) (by rw [sg_F_g F5 (by rfl)]; exact sg_F_g f2 (by rfl)) (by rw [sg_F_g F5 (by rfl)]; omega) hq5 hl5 (frF_m (fun i hi x hx => ?_)) (by omega) (by rw [List.length_map, List.length_range]) (by omega) (fun i hi => ?_) flW k
    · have := klm i hi x hx
      have hab := ahF_b (l := la) (i := i) (by omega)
      rw [← ena i] at hab
      omega
    · rw [W_D hi, lenW i hi, hz i hi]
      have h1 := kll i
      have h2 := (er4 i (by omega)).2
      have h3 := it_len h2.1
      rw [← ena i] at h3
      exact ⟨rfl, by omega, by omega⟩
end FXF
