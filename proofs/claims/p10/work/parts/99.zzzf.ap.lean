/-! flat ops of the reference, exactly: ROW; SUM, MAX, MIN, SCAN. -/
theorem li_r2 (vs : List (List vaF)) : vs = (List.range vs.length).map (fun k => vs.getD k []) := by
  apply List.ext_getElem?
  intro i
  rw [List.getElem?_map]
  rcases Nat.lt_or_ge i vs.length with q | q
  · rw [List.getElem?_range q, List.getElem?_eq_getElem q, Option.map_some, List.getD_eq_getElem?_getD, List.getElem?_eq_getElem q]; rfl
  · rw [List.getElem?_eq_none q, List.getElem?_eq_none (by rw [List.length_range]; exact q)]; rfl
theorem apF_l {Ls : Nat → List vaF} {L : Nat} : ∀ m : Nat, (∀ k, k < m → (Ls k).length = L) → (apF Ls m).length = L * m
  | 0, _ => rfl
  | m + 1, h => by
    simp only [apF]
    rw [List.length_append, apF_l m (fun k hk => h k (by omega)), h m (by omega), Nat.mul_succ]
theorem mul_ltN {L k m i : Nat} (hk : k < m) (hi : i < L) : L * k + i < L * m := by
  have := Nat.mul_le_mul_left L (show k + 1 ≤ m by omega)
  rw [Nat.mul_succ] at this
  omega
theorem apF_g {Ls : Nat → List vaF} {L : Nat} : ∀ m : Nat, (∀ k, k < m → (Ls k).length = L) → ∀ k i : Nat, k < m → i < L → (apF Ls m)[L * k + i]? = (Ls k)[i]?
  | 0, _, k, i, hk, _ => by omega
  | m + 1, h, k, i, hk, hi => by
    have hl := apF_l m (fun k hk => h k (by omega))
    simp only [apF]
    by_cases c : k = m
    · subst c
      rw [List.getElem?_append_right (by omega), hl, Nat.add_sub_cancel_left]
    · have := mul_ltN (L := L) (k := k) (m := m) (i := i) (by omega) hi
      rw [List.getElem?_append_left (by omega)]
      exact apF_g m (fun k hk => h k (by omega)) k i (by omega) hi
theorem frF_one {α : Type} (h : Nat → α) : ∀ n : Nat, frF (fun i => [h i]) n = (List.range n).map h
  | 0 => rfl
  | n + 1 => by rw [frF_s, frF_one h n, List.range_succ, List.map_append]; rfl
theorem frF_nil {α : Type} : ∀ n : Nat, frF (fun _ => ([] : List α)) n = []
  | 0 => rfl
  | n + 1 => by rw [frF_s, frF_nil n]; rfl
theorem tr_ex {d : Nat} {Ls : Nat → List vaF} {L : Nat} : ∀ m : Nat, (∀ k, k < m → (Ls k).length = L) → exF d (frF (fun i => (List.range m).map (fun k => (Ls k).getD i (nmF 0))) L) = exF d (apF Ls m)
  | 0, _ => by
    have e : (fun i : Nat => (List.range 0).map (fun k => (Ls k).getD i (nmF 0))) = fun _ => [] := rfl
    rw [e, frF_nil]; rfl
  | m + 1, h => by
    have e : (fun i : Nat => (List.range (m + 1)).map (fun k => (Ls k).getD i (nmF 0))) = fun i => (List.range m).map (fun k => (Ls k).getD i (nmF 0)) ++ [(Ls m).getD i (nmF 0)] := funext (fun i => by rw [List.range_succ, List.map_append]; rfl)
    have hl := h m (by omega)
    have e2 : (List.range L).map (fun i => (Ls m).getD i (nmF 0)) = Ls m := by
      rw [← hl]; exact (li_r (Ls m)).symm
    rw [e, exF_fr2, tr_ex m (fun k hk => h k (by omega)), frF_one, e2]
    simp only [apF]
    rw [exF_a]
section FXR
variable {σ : sg_S} {M v : Int} {d : Nat} {l : List vaF} {R : List (Int × Int)}
theorem m_fRowX {n base : Int} {L m : Nat} {vs : List (List vaF)} {f : Nat → Int ⊕ vaF} {s : fSt} {Q : Int → sg_S → Prop} (hC : fC σ) (hs : fcX σ s) (hn : 0 ≤ n ∧ n < 210) (hm : 1 ≤ m ∧ m ≤ 200) (hvs : vs.length = m) (h96 : sg_g σ 96 n = m) (hb : 0 ≤ base ∧ base + m ≤ 12000) (hv : ∀ k : Nat, k < m → ∃ R, fX σ 6000 (sg_g σ 133 (base + k)) d (vs.getD k []) R ∧ (vs.getD k []).length = L) (hd : d ≤ 2) (hq : fqX σ 0) (hf : ∀ i, i < L → f i = .inr (mkF (vs.map (fun l => l.getD i (nmF 0))))) (k : ∀ q σ', opX σ σ' (d + 1) ((List.range L).map f) s q → Q q σ') : V_flatRow σ n base (L : Int) Q := by
  obtain ⟨c1, c2, c3, c4⟩ := hC
  have s85 := hs.2.1
  have s0 := hs.2.2.2.2
  obtain ⟨Ls, eLs⟩ : ∃ Ls : Nat → List vaF, ∀ k, Ls k = vs.getD k [] := ⟨_, fun _ => rfl⟩
  obtain ⟨RR, hRR⟩ : ∃ RR : Nat → List (Int × Int), ∀ k : Nat, k < m → fX σ 6000 (sg_g σ 133 (base + k)) d (Ls k) (RR k) := by
    refine ⟨fun k => if h : k < m then (hv k h).choose else [], fun k h => ?_⟩
    simp only [dif_pos h]
    rw [eLs k]
    exact (hv k h).choose_spec.1
  have lL : ∀ k, k < m → (Ls k).length = L := fun k h => by
    rw [eLs k]
    obtain ⟨R, -, h2⟩ := hv k h
    exact h2
  have L6 : (L : Int) ≤ 6000 := by
    obtain ⟨r, R', e, e2, e3, e4, e5⟩ := fX_r (hRR 0 (by omega))
    have := e4.2.2.1
    have := lL 0 (by omega)
    omega
  have xb : ∀ k, k < m → 0 ≤ exF d (Ls k) ∧ exF d (Ls k) ≤ 24000 := fun k h => by
    have a := eX_b (hRR k h).1.2.2.2.2
    rw [(hRR k h).2.1, eX_F (hRR k h)] at a
    omega
  have sxb : ∀ k, k ≤ m → 0 ≤ exF d (apF Ls k) ∧ exF d (apF Ls k) ≤ 24000 * k := fun k => by
    induction k with
    | zero => intro _; simp only [apF]; rw [exF_z]; exact ⟨by decide, by decide⟩
    | succ k ih =>
      intro h
      have a := ih (by omega)
      have b := xb k (by omega)
      simp only [apF]
      rw [exF_a]
      omega
  obtain ⟨kl, ekl⟩ : ∃ kl : Nat → List Int, ∀ i, kl i = (List.range m).map (fun k : Nat => (L : Int) * k + i) := ⟨_, fun _ => rfl⟩
  have vsr : ∀ i, vs.map (fun l => l.getD i (nmF 0)) = (List.range m).map (fun k => (Ls k).getD i (nmF 0)) := fun i => by
    have e := congrArg (List.map (fun l : List vaF => l.getD i (nmF 0))) (li_r2 vs)
    rw [e, List.map_map, hvs]
    exact mp_e (fun k _ => by
      show (vs.getD k []).getD i (nmF 0) = _
      rw [eLs k])
  have lnj : ∀ i j : Nat, i < L → j < m → lnF (apF Ls m) ((L : Int) * j + i) = (Ls j).getD i (nmF 0) := fun i j hi hj => by
    have e : (L : Int) * j + i = ((L * j + i : Nat) : Int) := by
      rw [Int.natCast_add, Int.natCast_mul]
    rw [e]
    unfold lnF
    rw [if_neg (by omega), Int.toNat_natCast, List.getD_eq_getElem?_getD, apF_g m lL j i hj hi, ← List.getD_eq_getElem?_getD]
  have itW : ∀ i, i < L → (kl i).map (lnF (apF Ls m)) = itF (fOv (f i)) := fun i hi => by
    rw [hf i hi, ekl i, List.map_map]
    show _ = itF (mkF _)
    rw [itF_mk, vsr i]
    exact mp_e (fun j hj => lnj i j hi hj)
  have flW := fl_W (lin := apF Ls m) itW
  have exd : exF d ((frF kl L).map (lnF (apF Ls m))) = exF d (apF Ls m) := by
    rw [← tr_ex m lL, frF_map]
    refine congrArg (exF d) (frF_e (fun i hi => ?_))
    rw [itW i hi, hf i hi]
    show itF (mkF _) = _
    rw [itF_mk, vsr i]
  have eL : exF (d + 1) (((List.range L).map f).map fOv) = (L : Int) + exF d (apF Ls m) := by
    simp only [exF]
    rw [flW, exd, List.length_map, List.length_map, List.length_range]
  have lenW : ∀ i, i < L → (fOv (f i)) [] = (m : Int) := fun i hi => by
    rw [hf i hi]
    show mkF _ [] = _
    rw [mkF_0, List.length_map, hvs]
  have apl := apF_l m lL
  have apn := exF_n d (apF Ls m)
  unfold V_flatRow
  rw [h96]
  refine ⟨fun p v1 v2 => ∃ j : Nat, v2 = j ∧ p = m - j ∧ j ≤ m ∧ v1 = (L : Int) + exF d (apF Ls j), fun v1 => v1 = (L : Int) + exF d (apF Ls m), ⟨_, 0, rfl, rfl, Nat.zero_le _, by simp only [apF]; rw [exF_z]; omega⟩, ?_, ?_⟩
  · rintro p v1 v2 r1 r2 ⟨j, rfl, en, hj, e1⟩
    refine ⟨hn, fun c => by rw [e1, show j = m by omega], fun c => ⟨⟨by omega, by omega⟩, ⟨by omega, by omega⟩, ?_⟩⟩
    have h := hRR j (by omega)
    have x1 := xb j (by omega)
    have x2 := sxb j (by omega)
    refine m_extent h.1 ⟨by decide, by decide⟩ (by omega) (fun _ => ?_)
    rw [eX_F h]
    refine ⟨⟨by omega, by omega⟩, ⟨by omega, by omega⟩, m - (j + 1), by omega, j + 1, by omega, rfl, by omega, ?_⟩
    simp only [apF]
    rw [exF_a]
    omega
  · rintro v1 r1 e1
    have x2 := sxb m (Nat.le_refl _)
    rw [e1]
    refine m_stepX hs ⟨by omega, by omega⟩ (fun h0 σ' e c F _ _ => ⟨fun z => absurd rfl z, fun _ => k _ _ (Or.inl ⟨by rw [eL]; exact h0, e, c⟩)⟩) (fun s' hs' σ5 c5 f5 _ _ => ⟨fun _ => ⟨hn, ?_⟩, fun z => by omega⟩)
    have st := fStp_s hs'
    have e91 : sg_g σ5 88 91 = sg_g σ 88 91 := sg_F_g f5 (by rfl)
    have e87 : sg_g σ5 88 87 = sg_g σ 88 87 := sg_F_g f5 (by rfl)
    have Lm6 : ((L * m : Nat) : Int) ≤ 6000 := by rw [← apl]; omega
    refine m_joinF (d := d) (Ls := Ls) (RR := RR) (M := 6000) (m := m) ⟨rfl, hm.1⟩ ⟨hb.1, by omega⟩ (fun k h => ?_) (by omega) ⟨by omega, by omega⟩ (by decide) (by omega) (fun q σ6 eq ex6 fv6 e87' e91' f6 rq _ σ7 e7 => ?_)
    · have := fX_up (fEx_F f5 rfl) (hRR k h)
      rwa [← sg_F_ga f5 (a := 133) rfl] at this
    have fv6' := fv6 6000 (fun j hj => by
      have := lvl_ex d j (apF Ls m) hj
      omega)
    have f7 : sg_F [94088] σ6 σ7 := by rw [e7]; exact sg_F_w (sg_F_r _ _) rfl _
    have hlen : ∀ i, (frF kl i).length = m * i := fun i => by
      induction i with
      | zero => rfl
      | succ i ih => rw [frF_s, List.length_append, ih, ekl i, List.length_map, List.length_range, Nat.mul_succ]
    have mL : ∀ i, i < L → m * i + m ≤ L * m := fun i hi => by
      have := Nat.mul_le_mul_left m (show i + 1 ≤ L by omega)
      rw [Nat.mul_succ, Nat.mul_comm m L] at this
      exact this
    have kL : ∀ i j : Nat, i < L → j < m → (L : Int) * j = ((L * j : Nat) : Int) ∧ L * j + i < L * m := fun i j hi hj => ⟨by rw [Int.natCast_mul], mul_ltN hj hi⟩
    refine ⟨fun p x σ8 => ∃ i : Nat, x = i ∧ p = L - i ∧ i ≤ L ∧ lX σ8 (frF kl i) ∧ ∀ j : Nat, j < i → sg_g σ8 150 j = (m : Int), fun σ8 => lX σ8 (frF kl L) ∧ ∀ j : Nat, j < L → sg_g σ8 150 j = (m : Int), ⟨_, 0, rfl, rfl, Nat.zero_le _, lX_0 e7, fun j hj => by omega⟩, ?_, ?_⟩
    · rintro p x σ8 rx f8 ⟨i, rfl, en, hi, hl8, hz⟩
      refine ⟨fun z => by rw [show L = i by omega]; exact ⟨hl8, hz⟩, fun z => ⟨⟨by omega, by omega⟩, fun σ9 e9 => ?_⟩⟩
      have iL : i < L := by omega
      have mi := mL i iL
      have hli := hlen i
      have eki := ekl i
      have f9 : sg_F [150] σ8 σ9 := by rw [e9]; exact sg_F_w (sg_F_r _ _) rfl _
      refine ⟨fun p y σ1 => ∃ j : Nat, y = j ∧ p = m - j ∧ j ≤ m ∧ lX σ1 (frF kl i ++ (List.range j).map (fun k : Nat => (L : Int) * k + i)), fun σ1 => lX σ1 (frF kl (i + 1)), ⟨_, 0, rfl, rfl, Nat.zero_le _, lX_e (lX_F f9 rfl hl8) (List.append_nil _)⟩, ?_, ?_⟩
      · rintro p' y σ1 ry f1 ⟨j, rfl, en', hj, hl1⟩
        refine ⟨fun c => lX_e hl1 ?_, fun c => ?_⟩
        · rw [frF_s, eki, show j = m by omega]
        · obtain ⟨q1, q2⟩ := kL i j iL (by omega)
          refine ⟨⟨by omega, by omega⟩, ⟨by omega, by omega⟩, m_listX hl1 (by rw [List.length_append, List.length_map, List.length_range]; omega) ⟨by omega, by omega⟩ (fun σ2 h2 f2 _ => ⟨⟨by omega, by omega⟩, m - (j + 1), by omega, j + 1, by omega, rfl, by omega, lX_e h2 ?_⟩)⟩
          rw [List.range_succ, List.map_append, List.append_assoc]
          rfl
      · intro σ1 f1 hl1
        refine ⟨⟨by omega, by omega⟩, L - (i + 1), by omega, i + 1, by omega, rfl, by omega, hl1, fun j hj => ?_⟩
        by_cases c : j = i
        · rw [sg_F_ga f1 rfl, c, e9, sg_gw_e _ _ _ _ ⟨by omega, by omega⟩]
        · rw [sg_F_ga f1 rfl, e9, sg_gw_k _ _ _ _ _ _ (by omega)]; exact hz j (by omega)
    · rintro σ8 f8 ⟨hl8, hz⟩
      have F8 : sg_F [143, 150, 94088] σ6 σ8 := sg_F_t (sg_F_m f7 rfl) f8
      have g91 : sg_g σ8 88 91 = sg_g σ 88 91 + exF d (apF Ls m) := by rw [sg_F_g F8 (by rfl), e91', e91]
      have g87 : sg_g σ8 88 87 = sg_g σ 88 87 + 1 := by rw [sg_F_g F8 (by rfl)]; omega
      have fv8 := fX_up (fEx_F F8 rfl) fv6'
      have hlL := hlen L
      have mLc : m * L = L * m := Nat.mul_comm _ _
      refine m_tailX (M := 6000) fv8 ⟨by decide, by decide⟩ hd (by omega) ⟨by omega, by omega⟩ hl8 (frF_m (fun i hi x hx => ?_)) (by omega) (by rw [List.length_map, List.length_map, List.length_range]) (by omega) (fun i hi => ?_) flW (by omega) (by omega) (fun q' σ9 ex9 e91'' e87'' f9 hf9 => ?_)
      · rw [ekl i] at hx
        obtain ⟨j, hj, e⟩ := List.mem_map.mp hx
        have e' : (L : Int) * j + i = x := e
        rw [List.mem_range] at hj
        obtain ⟨q1, q2⟩ := kL i j hi hj
        omega
      · rw [W_D hi, lenW i hi, hz i hi]
        exact ⟨rfl, by omega, by omega⟩
      · rw [exd] at e91''
        have e0 : fOe ((List.range L).map f) = 0 := fOe_z L (fun i hi => by rw [hf i hi]; rfl)
        exact k q' σ9 (opX_mk (σ1 := σ5) eL hs' c5 (sg_F_t (sg_F_m (L := [139, 140, 141, 142, 143, 144, 150, 88088, 92088, 94088]) f6 rfl) (sg_F_t (sg_F_m F8 rfl) (sg_F_m f9 rfl))) rfl (sg_F_g f5 (by rfl)) (by rw [e0]; exact fqX_F f9 rfl (fqX_F F8 rfl (fqX_F f6 rfl (fqX_F f5 rfl hq)))) (fEx_t (fEx_F f5 rfl) (fEx_t ex6 (fEx_t (fEx_F F8 rfl) ex9))) (by omega) (by omega) (fun _ => hf9))
end FXR
/-- what is come to, going through numbers -/
def gnF (k : Int) (xs : List Int) : Int := if k = 19 ∨ k = 20 then (match xs with
  | [] => 0
  | y :: r => foF k y r) else foF 18 0 xs
def stF (k m x : Int) : Int := if k = 18 then sg_n (m + x) else if k = 19 then (if m < x then x else m) else if x < m then x else m
theorem foF_a (k : Int) : ∀ (xs : List Int) (m x : Int), foF k m (xs ++ [x]) = stF k (foF k m xs) x
  | [], m, x => rfl
  | y :: r, m, x => by
    rw [List.cons_append]
    simp only [foF]
    exact foF_a k r _ x
theorem gnF_0 (k : Int) : gnF k [] = 0 := by
  unfold gnF
  by_cases c : k = 19 ∨ k = 20
  · rw [if_pos c]
  · rw [if_neg c]; rfl
theorem gnF_s (k : Int) (xs : List Int) (x : Int) : gnF k (xs ++ [x]) = if ¬ k = 19 then (if ¬ k = 20 then sg_n (gnF k xs + x) else (if (xs.length : Int) = 0 then x else (if gnF k xs ≤ x then gnF k xs else x))) else (if (xs.length : Int) = 0 then x else (if x ≤ gnF k xs then gnF k xs else x)) := by
  by_cases c9 : k = 19
  · subst c9
    rw [if_neg (by decide)]
    unfold gnF
    rw [if_pos (Or.inl rfl), if_pos (Or.inl rfl)]
    cases xs with
    | nil => rfl
    | cons y r =>
      rw [if_neg (by simp only [List.length_cons]; omega)]
      simp only [List.cons_append]
      rw [foF_a]
      unfold stF
      rw [if_neg (by decide), if_pos rfl]
      by_cases c : foF 19 y r < x
      · rw [if_pos c, if_neg (by omega)]
      · rw [if_neg c, if_pos (by omega)]
  · rw [if_pos c9]
    by_cases c0 : k = 20
    · subst c0
      rw [if_neg (fun w => w rfl)]
      unfold gnF
      rw [if_pos (Or.inr rfl), if_pos (Or.inr rfl)]
      cases xs with
      | nil => rfl
      | cons y r =>
        rw [if_neg (by simp only [List.length_cons]; omega)]
        simp only [List.cons_append]
        rw [foF_a]
        unfold stF
        rw [if_neg (by decide), if_neg (by decide)]
        by_cases c : x < foF 20 y r
        · rw [if_pos c, if_neg (by omega)]
        · rw [if_neg c, if_pos (by omega)]
    · rw [if_pos c0]
      have cn : ¬ (k = 19 ∨ k = 20) := fun w => w.elim c9 c0
      unfold gnF
      rw [if_neg cn, if_neg cn, foF_a]
      unfold stF
      rw [if_pos rfl]
theorem scn_r : ∀ (xs : List Int) (m : Int), scnF m xs = (List.range xs.length).map (fun j => foF 18 m (xs.take j))
  | [], m => rfl
  | x :: r, m => by
    rw [List.length_cons, List.range_succ_eq_map, List.map_cons, List.map_map]
    simp only [scnF]
    rw [scn_r r (sg_n (m + x))]
    rfl
