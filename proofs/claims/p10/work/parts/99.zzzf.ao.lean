/-! flat ops of the reference, exactly: PART. -/
theorem sumF_nn : ∀ xs : List Int, (∀ x ∈ xs, 0 ≤ x) → 0 ≤ sumF xs ∧ ∀ x ∈ xs, x ≤ sumF xs
  | [], _ => ⟨Int.le_refl _, fun x hx => by cases hx⟩
  | y :: r, h => by
    obtain ⟨a, b⟩ := sumF_nn r (fun x hx => h x (List.mem_cons_of_mem _ hx))
    have y0 := h y (by simp)
    simp only [sumF]
    refine ⟨by omega, fun x hx => ?_⟩
    rcases List.mem_cons.mp hx with q | q
    · omega
    · have := b x q; omega
theorem ptF_m : ∀ (xs : List Int) (l : List vaF), (∀ x ∈ xs, 0 ≤ x) → sumF xs ≤ l.length → (ptF l xs).map (fun v => v []) = xs
  | [], l, _, _ => rfl
  | x :: r, l, h, hs => by
    have x0 := h x (by simp)
    have r0 := (sumF_nn r (fun y hy => h y (List.mem_cons_of_mem _ hy))).1
    simp only [sumF] at hs
    have e1 : mkF (l.take x.toNat) [] = x := by
      rw [mkF_0, List.length_take]
      omega
    simp only [ptF, List.map_cons]
    rw [e1, ptF_m r (l.drop x.toNat) (fun y hy => h y (List.mem_cons_of_mem _ hy)) (by rw [List.length_drop]; omega)]
theorem ptF_f : ∀ (xs : List Int) (l : List vaF), (∀ x ∈ xs, 0 ≤ x) → sumF xs = l.length → flF (ptF l xs) = l
  | [], l, _, hs => by
    simp only [sumF] at hs
    have : l = [] := List.eq_nil_of_length_eq_zero (by omega)
    rw [this]; rfl
  | x :: r, l, h, hs => by
    have x0 := h x (by simp)
    have r0 := (sumF_nn r (fun y hy => h y (List.mem_cons_of_mem _ hy))).1
    simp only [sumF] at hs
    simp only [ptF]
    rw [flF_c, itF_mk, ptF_f r (l.drop x.toNat) (fun y hy => h y (List.mem_cons_of_mem _ hy)) (by rw [List.length_drop]; omega), List.take_append_drop]
theorem flF_frF (g : Nat → List vaF) : ∀ n : Nat, flF (frF g n) = frF (fun i => flF (g i)) n
  | 0 => rfl
  | n + 1 => by rw [frF_s, frF_s, flF_a, flF_frF g n]
theorem nu_cell {σ : sg_S} {M b : Int} {lb : List vaF} {t t' : Int × Int} {Rt : List (Int × Int)} {i y : Nat} (hb : fX σ M b 1 lb (t :: t' :: Rt)) (hi : i < lb.length) (hy : y < (itF (lb.getD i (nmF 0))).length) : sg_g σ 142 (t'.1 + (ahF lb i : Int) + y) = (nuF (lb.getD i (nmF 0))).getD y 0 := by
  obtain ⟨r, r', R', e, -, -, -, -, e5, -, -⟩ := fX_s hb
  cases e
  have hab := ahF_b (l := lb) (i := i) hi
  have e1 := e5 (ahF lb i + y) (by omega)
  rw [show t'.1 + ((ahF lb i + y : Nat) : Int) = t'.1 + (ahF lb i : Int) + y by omega] at e1
  rw [e1, fl_D hi hy, nu_D hy]
section FXPT
variable {σ : sg_S} {M v : Int} {d : Nat} {l : List vaF} {R : List (Int × Int)}
theorem m_fPartX {a b : Int} {L : Nat} {la lb : List vaF} {R' : List (Int × Int)} {f : Nat → Int ⊕ vaF} {s : fSt} {Q : Int → sg_S → Prop} (hC : fC σ) (hs : fcX σ s) (ha : fX σ 6000 a (d + 1) la R) (hd : d ≤ 1) (hb : fX σ 6000 b 1 lb R') (hL : la.length = L) (hL' : lb.length = L) (hq : fqX σ 0) (hf : ∀ i, i < L → f i = if (nuF (lb.getD i (nmF 0))).any (fun x => decide (x < 0)) = true then .inl 5 else if sumF (nuF (lb.getD i (nmF 0))) = ((itF (la.getD i (nmF 0))).length : Int) then .inr (mkF (ptF (itF (la.getD i (nmF 0))) (nuF (lb.getD i (nmF 0))))) else .inl 3) (k : ∀ q σ', opX σ σ' (d + 2) ((List.range L).map f) s q → Q q σ') : V_flatPart σ a b (L : Int) Q := by
  obtain ⟨c1, c2, c3, c4⟩ := hC
  have s85 := hs.2.1
  have s0 := hs.2.2.2.2
  obtain ⟨r, r', Ra, er, er1, er2, er3, er4, er5, er6, er7⟩ := fX_s ha
  subst er
  obtain ⟨t, t', Rt, et, et1, et2, et3, et4, et5, et6, et7⟩ := fX_s hb
  subst et
  have L6 : (L : Int) ≤ 6000 := by have := er6.2.2.1; omega
  have I6 : ((flF la).length : Int) ≤ 6000 := by have := er7.2.2.1; omega
  have J6 : ((flF lb).length : Int) ≤ 6000 := by have := et7.2.2.1; omega
  have t0 := et7.1
  have t9 := et7.2.2.2
  have z1 := fV_1 hb.1
  have ub := hb.1.1
  obtain ⟨na, ena⟩ : ∃ na : Nat → Nat, ∀ i, na i = (itF (la.getD i (nmF 0))).length := ⟨_, fun _ => rfl⟩
  obtain ⟨nb, enb⟩ : ∃ nb : Nat → Nat, ∀ i, nb i = (itF (lb.getD i (nmF 0))).length := ⟨_, fun _ => rfl⟩
  obtain ⟨nu, enu⟩ : ∃ nu : Nat → List Int, ∀ i, nu i = nuF (lb.getD i (nmF 0)) := ⟨_, fun _ => rfl⟩
  have nul : ∀ i, (nu i).length = nb i := fun i => by rw [enu i, enb i]; unfold nuF; rw [List.length_map]
  obtain ⟨ok, eok⟩ : ∃ ok : Nat → Bool, ∀ i, ok i = (!(nu i).any (fun x => decide (x < 0)) && decide (sumF (nu i) = (na i : Int))) := ⟨_, fun _ => rfl⟩
  have okp : ∀ i, ok i = true → (∀ x ∈ nu i, 0 ≤ x) ∧ sumF (nu i) = (na i : Int) := fun i h => by
    rw [eok i] at h
    simp only [Bool.and_eq_true, Bool.not_eq_true', decide_eq_true_eq] at h
    refine ⟨fun x hx => ?_, h.2⟩
    have h1 := List.any_eq_false.mp h.1 x hx
    simp only [decide_eq_true_eq] at h1
    omega
  have na2 : ∀ i, i < L → na i ≤ 200 := fun i hi => by
    have h2 := (er4 i (by omega)).2
    have h3 := it_len h2.1
    rw [← ena i] at h3
    omega
  have nb2 : ∀ i, i < L → nb i ≤ 200 := fun i hi => by
    have h2 := (et4 i (by omega)).2
    have h3 := it_len h2.1
    rw [← enb i] at h3
    omega
  have fok : ∀ i, i < L → ok i = true → f i = .inr (mkF (ptF (itF (la.getD i (nmF 0))) (nu i))) := fun i hi h => by
    have h2 := (okp i h).2
    rw [eok i] at h
    simp only [Bool.and_eq_true, Bool.not_eq_true', decide_eq_true_eq] at h
    rw [hf i hi, ← enu i, ← ena i, if_neg (by rw [h.1]; decide), if_pos h2]
  have fno : ∀ i, i < L → ¬ ok i = true → ∃ e, f i = .inl e ∧ e = (if (nu i).any (fun x => decide (x < 0)) = true then 5 else 3) := fun i hi h => by
    rw [hf i hi, ← enu i, ← ena i]
    by_cases c : (nu i).any (fun x => decide (x < 0)) = true
    · rw [if_pos c, if_pos c]; exact ⟨5, rfl, rfl⟩
    · rw [if_neg c, if_neg c]
      have c2 : ¬ sumF (nu i) = (na i : Int) := fun w => h (by
        rw [eok i, w]
        simp only [Bool.and_eq_true, Bool.not_eq_true', decide_eq_true_eq, and_true]
        exact Bool.eq_false_iff.mpr c)
      rw [if_neg c2]; exact ⟨3, rfl, rfl⟩
  obtain ⟨len, elen⟩ : ∃ len : Nat → Int, ∀ i, len i = if ok i = true then (nb i : Int) else -1 := ⟨_, fun _ => rfl⟩
  obtain ⟨pl, epl⟩ : ∃ pl : Nat → Int, ∀ i, pl i = if ok i = true then (nb i : Int) else 0 := ⟨_, fun _ => rfl⟩
  have len0 : ∀ i, 0 ≤ len i ↔ ok i = true := fun i => by
    rw [elen i]
    by_cases c : ok i = true
    · rw [if_pos c]; exact ⟨fun _ => c, fun _ => by omega⟩
    · rw [if_neg c]; exact ⟨fun w => absurd w (by decide), fun w => absurd w c⟩
  have plb : ∀ i, i < L → 0 ≤ pl i ∧ pl i ≤ 200 := fun i hi => by
    have := nb2 i hi
    rw [epl i]
    by_cases c : ok i = true
    · rw [if_pos c]; omega
    · rw [if_neg c]; omega
  have lenpl : ∀ i, (if 0 ≤ len i then len i else 0) = pl i := fun i => by
    rw [epl i]
    by_cases c : ok i = true
    · rw [if_pos c, if_pos ((len0 i).mpr c), elen i, if_pos c]
    · rw [if_neg c, if_neg (fun w => c ((len0 i).mp w))]
  have itf : ∀ i, i < L → itF (fOv (f i)) = if ok i = true then ptF (itF (la.getD i (nmF 0))) (nu i) else [] := fun i hi => by
    by_cases c : ok i = true
    · rw [if_pos c, fok i hi c]
      show itF (mkF _) = _
      rw [itF_mk]
    · rw [if_neg c]
      obtain ⟨e, h1, h2⟩ := fno i hi c
      rw [h1]; rfl
  have lenW : ∀ i, i < L → (fOv (f i)) [] = pl i := fun i hi => by
    rw [epl i]
    by_cases c : ok i = true
    · rw [if_pos c, fok i hi c]
      show mkF _ [] = _
      rw [mkF_0, ptF_l, nul i]
    · rw [if_neg c]
      obtain ⟨e, h1, h2⟩ := fno i hi c
      rw [h1]; rfl
  obtain ⟨ka, eka⟩ : ∃ ka : Nat → List Int, ka = (fun i => if 0 ≤ len i then rnF (ahF la i) (itF (la.getD i (nmF 0))).length else []) := ⟨_, rfl⟩
  obtain ⟨cl, ecl⟩ : ∃ cl : Nat → List Int, ∀ i, cl i = if ok i = true then nu i else [] := ⟨_, fun _ => rfl⟩
  have flW2 : flF (flF (((List.range L).map f).map fOv)) = (frF ka L).map (lnF (flF la)) := by
    rw [flF_g, flF_frF, frF_map]
    refine frF_e (fun i hi => ?_)
    rw [itf i hi, eka]
    by_cases c : ok i = true
    · simp only [if_pos c, if_pos ((len0 i).mpr c)]
      rw [ln_all (by omega), ptF_f _ _ (okp i c).1 (by rw [(okp i c).2, ena i])]
    · simp only [if_neg c, if_neg (fun w => c ((len0 i).mp w))]
      rfl
  have flWm : (flF (((List.range L).map f).map fOv)).map (fun v => v []) = frF cl L := by
    rw [flF_g, frF_map]
    refine frF_e (fun i hi => ?_)
    rw [itf i hi, ecl i]
    by_cases c : ok i = true
    · rw [if_pos c, if_pos c, ptF_m _ _ (okp i c).1 (by rw [(okp i c).2, ena i]; exact Int.le_refl _)]
    · rw [if_neg c, if_neg c]; rfl
  have cll : ∀ i, ((cl i).length : Int) = pl i := fun i => by
    rw [ecl i, epl i]
    by_cases c : ok i = true
    · rw [if_pos c, if_pos c, nul i]
    · rw [if_neg c, if_neg c]; rfl
  have tot := frF_sm (kl := cl) (len := pl) L (fun i _ => cll i)
  have flWl : ((flF (((List.range L).map f).map fOv)).length : Int) = smF pl L := by
    have := congrArg List.length flWm
    rw [List.length_map] at this
    omega
  have clb : ∀ x ∈ frF cl L, 0 ≤ x ∧ x ≤ 200 := frF_m (fun i hi x hx => by
    rw [ecl i] at hx
    by_cases c : ok i = true
    · rw [if_pos c] at hx
      have h1 := (okp i c).1
      have h2 := (sumF_nn _ h1).2 x hx
      rw [(okp i c).2] at h2
      have h3 := na2 i hi
      exact ⟨h1 x hx, by omega⟩
    · rw [if_neg c] at hx; cases hx)
  have eL : exF (d + 2) (((List.range L).map f).map fOv) = (L : Int) + smF pl L + exF d ((frF ka L).map (lnF (flF la))) := by
    simp only [exF]
    rw [flW2, flWl, List.length_map, List.length_map, List.length_range]
    omega
  have smb := smF_b (len := pl) L (fun i hi => plb i hi)
  unfold V_flatPart
  rw [z1.1]
  refine ⟨⟨by omega, by omega⟩, ⟨by omega, by omega⟩, ⟨by omega, by omega⟩, fun m by_ sm x σ7 => ∃ i : Nat, x = i ∧ m = L - i ∧ i ≤ L ∧ by_ = t'.1 + (ahF lb i : Int) ∧ sm = (L : Int) + smF pl i ∧ fqX σ7 (fOe ((List.range i).map f)) ∧ ∀ j : Nat, j < i → sg_g σ7 150 j = len j, fun sm σ7 => sm = (L : Int) + smF pl L ∧ fqX σ7 (fOe ((List.range L).map f)) ∧ ∀ j : Nat, j < L → sg_g σ7 150 j = len j, ⟨_, 0, rfl, rfl, Nat.zero_le _, by rw [ahF_0]; omega, by simp [smF, sumF], hq, fun j hj => by omega⟩, ?_, ?_⟩
  · rintro m by_ sm x σ7 rb rs rx f7 ⟨i, rfl, en, hi, rfl, rfl, hq7, hz⟩
    refine ⟨fun z => by rw [show L = i by omega]; exact ⟨rfl, hq7, hz⟩, fun z => ?_⟩
    have iL : i < L := by omega
    obtain ⟨pa, va⟩ := pRX ha ⟨by omega, by omega⟩ (i := i) (by omega)
    obtain ⟨pb, vb⟩ := pRX hb ⟨by omega, by omega⟩ (i := i) (by omega)
    obtain ⟨n0, m1, m2⟩ := er4 i (by omega)
    obtain ⟨n0', m1', m2'⟩ := et4 i (by omega)
    have il := it_len m1
    have jl := it_len m1'
    have hbh := ahF_s (l := lb) (i := i) (by omega)
    have hbb := ahF_b (l := lb) (i := i) (by omega)
    rw [← ena i] at il
    rw [← enb i] at jl hbh hbb
    have smi := smF_b (len := pl) i (fun j hj => plb j (by omega))
    have plbi := plb i iL
    have cell : ∀ (y : Nat) (w : Int), (nu i)[y]? = some w → sg_g σ 142 (t'.1 + (ahF lb i : Int) + y) = w := fun y w hy => by
      have hyl := lt_of_get hy
      rw [nul i, enb i] at hyl
      rw [nu_cell hb (by omega) hyl, ← enu i, List.getD_eq_getElem?_getD, hy]
      rfl
    have csn := cs_sum (σ := σ) (p := t'.1 + (ahF lb i : Int)) (c := nu i) cell
    rw [va, vb]
    refine ⟨fun m al bl y => ∃ j : Nat, y = j ∧ m = nb i - j ∧ j ≤ nb i ∧ al = cs σ (t'.1 + (ahF lb i : Int)) j ∧ bl = (if ((nu i).take j).any (fun x => decide (x < 0)) = true then 1 else 0), fun al bl => al = sumF (nu i) ∧ bl = (if (nu i).any (fun x => decide (x < 0)) = true then 1 else 0), ⟨_, 0, rfl, rfl, Nat.zero_le _, rfl, by simp⟩, ?_, ?_⟩
    · rintro m' al bl y r1 r2 r3 ⟨j, rfl, en', hj, rfl, ebl⟩
      refine ⟨pb, fun c => ?_, fun c => ?_⟩
      · have ej : j = nb i := by omega
        have tk : (nu i).take j = nu i := List.take_of_length_le (by rw [nul i]; omega)
        rw [csn j (by rw [nul i]; omega)]
        rw [tk] at ebl ⊢
        exact ⟨rfl, ebl⟩
      · have jl' : j < (nu i).length := by rw [nul i]; omega
        obtain ⟨w, hw⟩ := gE_x (l := nu i) (i := j) jl'
        have cw := cell j w hw
        have csr := cs_R (σ := σ) (p := t'.1 + (ahF lb i : Int)) j
        have cg := sg_Rg σ 142 (t'.1 + (ahF lb i : Int) + j)
        obtain ⟨cg1, cg2⟩ := cg
        have tk := tkF_1 hw
        refine ⟨⟨by omega, by omega⟩, ⟨by omega, by omega⟩, ⟨by omega, by omega⟩, ⟨fun _ => trivial, fun _ => ⟨fun _ => trivial, fun _ => trivial⟩⟩, fun v220 e220 r220 => ⟨⟨by omega, by omega⟩, nb i - (j + 1), by omega, j + 1, by omega, rfl, by omega, rfl, ?_⟩⟩
        rw [e220, tk, List.any_append, ebl, cw]
        by_cases ca : ((nu i).take j).any (fun x => decide (x < 0)) = true
        · rw [if_pos ca, if_pos (by decide), if_pos (by rw [ca]; rfl)]
        · have ca' := Bool.eq_false_iff.mpr ca
          rw [if_neg ca, if_neg (fun w => w rfl), ca', Bool.false_or]
          by_cases cw0 : 0 ≤ w
          · rw [if_pos cw0, if_neg]
            simp only [List.any_cons, List.any_nil, Bool.or_false, decide_eq_true_eq]
            omega
          · rw [if_neg cw0, if_pos]
            simp only [List.any_cons, List.any_nil, Bool.or_false, decide_eq_true_eq]
            omega
    · rintro al bl r1 r2 ⟨rfl, ebl⟩
      have okd : ok i = true ↔ (bl = 0 ∧ sumF (nu i) = (la.getD i (nmF 0)) []) := by
        rw [eok i, ebl, ← il]
        by_cases ca : (nu i).any (fun x => decide (x < 0)) = true
        · rw [if_pos ca, ca]; simp
        · rw [if_neg ca, Bool.eq_false_iff.mpr ca]; simp
      refine ⟨⟨fun _ => trivial, fun _ => ⟨pa, fun _ => trivial, fun _ => trivial⟩⟩, fun v165 e165 r165 => ?_⟩
      have v1 : ¬ v165 = 0 ↔ ok i = true := by
        rw [okd, e165]
        by_cases cb : bl = 0
        · rw [if_neg (fun w => w cb)]
          by_cases cc : sumF (nu i) = (la.getD i (nmF 0)) []
          · rw [if_neg (fun w => w cc)]; exact ⟨fun _ => ⟨cb, cc⟩, fun _ => by decide⟩
          · rw [if_pos cc]; exact ⟨fun w => absurd rfl w, fun w => absurd w.2 cc⟩
        · rw [if_pos cb]; exact ⟨fun w => absurd rfl w, fun w => absurd w.1 cb⟩
      refine ⟨fun σ8 => fqX σ8 (fOe ((List.range (i + 1)).map f)), ⟨fun c => fqX_i hq7 (fOe_n (fok i iL (v1.mp c))), fun c v200 e200 r200 => ?_⟩, fun σ8 f8 hq8 => ⟨⟨fun _ => trivial, fun _ => ⟨pb, trivial⟩⟩, fun v176 e176 r176 => ⟨⟨by omega, by omega⟩, fun σ9 e9 => ⟨⟨fun _ => trivial, fun _ => ⟨pb, trivial⟩⟩, fun v185 e185 r185 => ?_⟩⟩⟩⟩
      · obtain ⟨e, h1, h2⟩ := fno i iL (fun w => (v1.mpr w) c)
        have ev : v200 = e := by
          rw [e200, h2, ebl]
          by_cases ca : (nu i).any (fun x => decide (x < 0)) = true
          · rw [if_pos ca, if_pos ca]; rfl
          · rw [if_neg ca, if_neg ca]; rfl
        have e0 : ¬ v200 = 0 := by
          rw [e200]
          split <;> decide
        exact m_lacksX ⟨by omega, rx⟩ ⟨e0, r200⟩ hq7 (fun σ8 h8 _ _ => fqX_i h8 (by rw [fOe_e h1, ev]))
      · have w1 : v176 = len i := by
          rw [e176, elen i]
          by_cases c : ok i = true
          · rw [if_pos c, if_neg (v1.mpr c)]; exact jl.symm
          · rw [if_neg c, if_pos (Decidable.byContradiction (fun w => c (v1.mp w)))]
        have w2 : v185 = pl i := by
          rw [e185, epl i]
          by_cases c : ok i = true
          · rw [if_pos c, if_neg (v1.mpr c)]; exact jl.symm
          · rw [if_neg c, if_pos (Decidable.byContradiction (fun w => c (v1.mp w)))]
        have f9 : sg_F [150] σ8 σ9 := by rw [e9]; exact sg_F_w (sg_F_r _ _) rfl _
        refine ⟨⟨by omega, by omega⟩, pb, ⟨by omega, by omega⟩, ⟨by omega, by omega⟩, L - (i + 1), by omega, i + 1, by omega, rfl, by omega, by omega, by rw [smF_s]; omega, fqX_F f9 rfl hq8, fun j hj => ?_⟩
        by_cases c : j = i
        · rw [c, e9, sg_gw_e _ _ _ _ r176]; exact w1
        · rw [e9, sg_gw_k _ _ _ _ _ _ (by omega), sg_F_ga f8 rfl]; exact hz j (by omega)
  · rintro sm σ7 rs f7 ⟨rfl, hq7, hz⟩
    have ex7 := fEx_F f7 rfl
    have e91 : sg_g σ7 88 91 = sg_g σ 88 91 := sg_F_g f7 (by rfl)
    have e87 : sg_g σ7 88 87 = sg_g σ 88 87 := sg_F_g f7 (by rfl)
    refine m_innerX ⟨by omega, by omega⟩ (fX_up ex7 ha) (fun q σ8 eq ex8 fv8 e87' f8 _ _ σ9 e9 => ?_)
    have f9 : sg_F [94088] σ8 σ9 := by rw [e9]; exact sg_F_w (sg_F_r _ _) rfl _
    have F9 : sg_F [139, 140, 141, 150, 88088, 94088, 103088, 104088] σ σ9 := sg_F_t (sg_F_m f7 rfl) (sg_F_t (sg_F_m f8 rfl) (sg_F_m f9 rfl))
    have F79 : sg_F [139, 140, 141, 88088, 94088] σ7 σ9 := sg_F_t (sg_F_m f8 rfl) (sg_F_m f9 rfl)
    have ex9 : fEx σ σ9 := fEx_t ex7 (fEx_t ex8 (fEx_F f9 rfl))
    have g91 : sg_g σ9 88 91 = sg_g σ 88 91 := sg_F_g F9 (by rfl)
    have g87 : sg_g σ9 88 87 = sg_g σ 88 87 + 1 := by rw [sg_F_g f9 (by rfl)]; omega
    have l9 : ∀ i : Nat, i < L → sg_g σ9 150 i = len i := fun i hi => by rw [sg_F_ga F79 rfl]; exact hz i hi
    refine m_listItemsX (len := len) (fX_up ex9 ha) hL ⟨by omega, by omega⟩ (lX_0 e9) l9 (fun σ10 h10 f10 => ?_)
    rw [← eka] at h10
    have g91' : sg_g σ10 88 91 = sg_g σ 88 91 := by rw [sg_F_g f10 (by rfl)]; exact g91
    have g87' : sg_g σ10 88 87 = sg_g σ 88 87 + 1 := by rw [sg_F_g f10 (by rfl)]; exact g87
    have fv10 := fX_up (fEx_t (fEx_F f9 rfl) (fEx_F f10 rfl)) fv8
    have hm1 : ∀ x ∈ frF ka L, x < ((flF la).length : Int) := frF_m (fun i hi x hx => by
      rw [eka] at hx
      have hab := ahF_b (l := la) (i := i) (by omega)
      by_cases c : 0 ≤ len i
      · simp only [if_pos c] at hx
        have := rnF_m hx
        omega
      · simp only [if_neg c] at hx
        cases hx)
    have hm2 : (frF ka L).length ≤ (flF la).length := by
      have := frF_b (kl := ka) (b := ahF la) L (fun j hj => by
        have h3 := ahF_s (l := la) (i := j) (by omega)
        rw [eka]
        by_cases c : 0 ≤ len j
        · simp only [if_pos c]
          rw [rnF_l]; omega
        · simp only [if_neg c, List.length_nil]
          omega)
      rw [ahF_0, ← hL, ahF_n] at this
      rw [← hL]
      omega
    obtain ⟨xa0, xa1⟩ := exF_u fv10 h10 hm1 (by omega)
    refine m_extX fv10 ⟨by decide, by decide⟩ ⟨by omega, by omega⟩ h10 hm1 (by omega) (fun σ11 f11 rt _ => ?_)
    obtain ⟨xa, exa⟩ : ∃ xa, xa = exF d ((frF ka L).map (lnF (flF la))) := ⟨_, rfl⟩
    rw [← exa] at xa0 xa1 eL ⊢
    have F11 : sg_F [139, 140, 141, 143, 144, 150, 88088, 94088, 103088, 104088] σ σ11 := sg_F_t (sg_F_m F9 rfl) (sg_F_t (sg_F_m f10 rfl) (sg_F_m f11 rfl))
    refine ⟨⟨by omega, by omega⟩, m_stepX (fcX_F F11 rfl hs) ⟨by omega, by omega⟩ (fun h0 σ' e c F _ _ => ⟨fun z => absurd rfl z, fun _ => k _ _ (Or.inl ⟨by rw [eL]; exact h0, e, c⟩)⟩) (fun s' hs' σ5 c5 f5 _ _ => ⟨fun _ => ?_, fun z => by omega⟩)⟩
    have st := fStp_s hs'
    have f45 : sg_F [144, 85088, 86088] σ10 σ5 := sg_F_t (sg_F_m f11 rfl) (sg_F_m f5 rfl)
    have i91 : sg_g σ5 88 91 = sg_g σ 88 91 := by rw [sg_F_g f45 (by rfl)]; exact g91'
    have i87 : sg_g σ5 88 87 = sg_g σ 88 87 + 1 := by rw [sg_F_g f45 (by rfl)]; exact g87'
    refine m_gathF (fX_up (fEx_F f45 rfl) fv10) ⟨by decide, by decide⟩ (by omega) ⟨by omega, by omega⟩ (lX_F f45 rfl h10) hm1 (by omega) (by rw [← exa]; omega) (fun w σ6 ew ex6 fv6 j87 j91 f6 rw' _ => ?_)
    rw [← exa] at j91
    have fv6' := fv6 6000 (fun j hj => by
      have := lvl_ex d j ((frF ka L).map (lnF (flF la))) hj
      rw [← exa] at this
      omega)
    rw [← flW2] at fv6'
    have ex5 : fEx σ σ5 := fEx_t ex9 (fEx_t (fEx_F f10 rfl) (fEx_F f45 rfl))
    have exs6 : fEx σ σ6 := fEx_t ex5 ex6
    have hb6 := fX_up exs6 hb
    have z16 := fV_1 hb6.1
    have l6 : ∀ i : Nat, i < L → sg_g σ6 150 i = len i := fun i hi => by rw [sg_F_ga f6 rfl, sg_F_ga f45 rfl, sg_F_ga f10 rfl]; exact l9 i hi
    rw [z16.1]
    have hq6 : fqX σ6 (fOe ((List.range L).map f)) := fqX_F f6 rfl (fqX_F f45 rfl (fqX_F f10 rfl (fqX_F f9 rfl (fqX_F f8 rfl hq7))))
    have o91 := exs6.1.2
    refine ⟨fun m by_ x σ3 => ∃ i : Nat, x = i ∧ m = L - i ∧ i ≤ L ∧ by_ = t'.1 + (ahF lb i : Int) ∧ (∃ t, gHX σ6 (sg_g σ6 88 91) False ((frF cl i).length : Int) t (frF cl i) σ3) ∧ (∀ j : Nat, j < i → sg_g σ3 150 j = pl j) ∧ ∀ j : Nat, i ≤ j → j < L → sg_g σ3 150 j = len j, fun σ3 => (∃ t, gHX σ6 (sg_g σ6 88 91) False ((frF cl L).length : Int) t (frF cl L) σ3) ∧ ∀ j : Nat, j < L → sg_g σ3 150 j = pl j, ⟨_, 0, rfl, rfl, Nat.zero_le _, by rw [ahF_0]; omega, ⟨0, gHX_0 _ _⟩, fun j hj => by omega, fun j _ hj => l6 j hj⟩, ?_, ?_⟩
    · rintro m by_ x σ3 rb rx f3 ⟨i, rfl, en, hi, rfl, ⟨tt, hG⟩, hz1, hz2⟩
      refine ⟨fun z => by rw [show L = i by omega]; exact ⟨⟨tt, hG⟩, hz1⟩, fun z => ?_⟩
      have iL : i < L := by omega
      obtain ⟨n0', m1', m2'⟩ := et4 i (by omega)
      have jl := it_len m1'
      have hbh := ahF_s (l := lb) (i := i) (by omega)
      have hbb := ahF_b (l := lb) (i := i) (by omega)
      rw [← enb i] at jl hbh hbb
      have lx : sg_g σ3 150 (i : Int) = len i := hz2 i (Nat.le_refl _) iL
      have fle := frF_le (kl := cl) (i := i) L iL
      have clli := cll i
      have epi := epl i
      have ecli := ecl i
      rw [lx]
      refine ⟨fun m by2 y σ4 => ∃ j : Nat, y = j ∧ m = nb i - j ∧ j ≤ nb i ∧ by2 = t'.1 + (ahF lb i : Int) + j ∧ ∃ t, gHX σ6 (sg_g σ6 88 91) False (((frF cl i).length : Int) + (if ok i = true then (j : Int) else 0)) t (frF cl i ++ (if ok i = true then (nu i).take j else [])) σ4, fun by2 σ4 => by2 = t'.1 + (ahF lb (i + 1) : Int) ∧ ∃ t, gHX σ6 (sg_g σ6 88 91) False ((frF cl (i + 1)).length : Int) t (frF cl (i + 1)) σ4, ⟨_, 0, rfl, rfl, Nat.zero_le _, by omega, tt, gHX_c hG ?_ ?_⟩, ?_, ?_⟩
      · by_cases c : ok i = true
        · rw [if_pos c]; omega
        · rw [if_neg c]; omega
      · by_cases c : ok i = true
        · rw [if_pos c, List.take_zero, List.append_nil]
        · rw [if_neg c, List.append_nil]
      · rintro m' by2 y σ4 r1 ry f4 ⟨j, rfl, en', hj, rfl, t4, hG4⟩
        have F4 : sg_F [142, 150, 92088] σ6 σ4 := sg_F_t f3 (sg_F_m f4 rfl)
        have szb : (if ok i = true then (j : Int) else 0) ≤ ((cl i).length : Int) := by
          by_cases c : ok i = true
          · rw [if_pos c] at epi ⊢; omega
          · rw [if_neg c] at epi ⊢; omega
        obtain ⟨pb, vb⟩ := pRX_h hb6 hG4 F4 rfl ⟨by omega, by omega⟩ (i := i) (by omega)
        rw [vb]
        refine ⟨pb, fun c => ⟨by omega, t4, gHX_c hG4 ?_ ?_⟩, fun c => ⟨⟨by omega, by omega⟩, fun σ2 => ∃ t, gHX σ6 (sg_g σ6 88 91) False (((frF cl i).length : Int) + (if ok i = true then ((j : Int) + 1) else 0)) t (frF cl i ++ (if ok i = true then (nu i).take (j + 1) else [])) σ2, ⟨fun c2 => ⟨t4, ?_⟩, fun c2 => ⟨⟨by omega, by omega⟩, ?_⟩⟩, fun σ2 f2 h2 => ⟨⟨by omega, by omega⟩, ⟨by omega, by omega⟩, nb i - (j + 1), by omega, j + 1, by omega, rfl, by omega, by omega, h2⟩⟩⟩
        · rw [frF_s, List.length_append, ecli]
          by_cases c2 : ok i = true
          · rw [if_pos c2, if_pos c2, nul i]; omega
          · rw [if_neg c2, if_neg c2, List.length_nil]; omega
        · rw [frF_s, ecli]
          by_cases c2 : ok i = true
          · rw [if_pos c2, if_pos c2, List.take_of_length_le (by rw [nul i]; omega)]
          · rw [if_neg c2, if_neg c2]
        · have c3 : ¬ ok i = true := fun w => absurd ((len0 i).mpr w) (by omega)
          rw [if_neg c3] at hG4
          rw [if_neg c3, if_neg c3]
          rw [if_neg c3] at hG4
          exact hG4
        · have c3 := (len0 i).mp c2
          have jl' : j < (nu i).length := by rw [nul i]; omega
          obtain ⟨w', hw'⟩ := gE_x (l := nu i) (i := j) jl'
          have cv : sg_g σ4 142 (t'.1 + (ahF lb i : Int) + j) = w' := by
            rw [hG4.1.2.1 _ (by omega) (by omega), nu_cell hb6 (by omega) (by rw [← enb i]; omega), ← enu i, List.getD_eq_getElem?_getD, hw']
            rfl
          rw [if_pos c3] at hG4
          rw [if_pos c3] at hG4
          refine m_putX hG4 (by omega) (by omega) (sg_Rg _ _ _) (fun b => b.elim) (fun σ2 h2 f2 _ => ⟨_, gHX_c h2 ?_ ?_⟩)
          · rw [if_pos c3]; omega
          · rw [if_pos c3, tkF_1 hw', cv, List.append_assoc]
      · rintro by2 σ4 r1 f4 ⟨rfl, g4⟩
        refine ⟨⟨by omega, by omega⟩, fun v115 e115 r115 σ2 e2 => ?_⟩
        have f2 : sg_F [150] σ4 σ2 := by rw [e2]; exact sg_F_w (sg_F_r _ _) rfl _
        obtain ⟨t5, g5⟩ := g4
        refine ⟨⟨by omega, by omega⟩, L - (i + 1), by omega, i + 1, by omega, rfl, by omega, rfl, ⟨t5, gHX_F f2 rfl g5⟩, fun j hj => ?_, fun j hj hjL => ?_⟩
        · by_cases c : j = i
          · rw [c, e2, sg_gw_e _ _ _ _ r115, e115]; exact lenpl i
          · rw [e2, sg_gw_k _ _ _ _ _ _ (by omega), sg_F_ga f4 rfl]; exact hz1 j (by omega)
        · rw [e2, sg_gw_k _ _ _ _ _ _ (by omega), sg_F_ga f4 rfl]; exact hz2 j (by omega) hjL
    · rintro σ3 f3 ⟨⟨tt, hG⟩, hz1⟩
      have ex3 := gH_x hG.1 f3 rfl
      have p1 := hG.1.1.1
      have k87 : sg_g σ3 88 87 = sg_g σ6 88 87 := sg_F_g f3 (by rfl)
      have cnt : sg_g σ3 88 91 - sg_g σ6 88 91 = smF pl L := by omega
      rw [cnt]
      obtain ⟨r0, R0, fr, fr1, fr2, fr3, fr4⟩ := fX_r fv6'
      rw [fr] at fv6'
      refine ⟨⟨by omega, by omega⟩, m_outerX (M := 6000) (L := flF (((List.range L).map f).map fOv)) ⟨by omega, by omega⟩ (fX_up ex3 fv6') (by omega) ⟨⟨by omega, by omega⟩, ⟨by omega, by omega⟩⟩ ⟨by simp only; omega, by simp only; omega, by simp only; omega, by simp only; omega⟩ flWl (fun j u hu => ?_) (fun q2 σ4 e4 ex4 fv4 k87' f4 _ _ => ?_)⟩
      · have hc : (frF cl L)[j]? = some (u []) := by
          rw [← flWm, List.getElem?_map, hu]; rfl
        exact ⟨hG.2.2 j _ hc, clb _ (List.mem_of_getElem? hc)⟩
      · have k91 : sg_g σ4 88 91 = sg_g σ3 88 91 := sg_F_g f4 (by rfl)
        have hz4 : ∀ i : Nat, i < L → sg_g σ4 150 i = pl i := fun i hi => by rw [sg_F_ga f4 rfl]; exact hz1 i hi
        refine m_putLensX (L := L) ⟨by omega, by omega⟩ (by omega) (fun i hi => by rw [hz4 i hi]; exact plb i hi) (fun σ2 h2 f2 r2 _ => ?_)
        have ex2 := gH_ex h2.1 f2
        have q1 := h2.1.1.1
        have l87 : sg_g σ2 88 87 = sg_g σ4 88 87 := sg_F_g f2 (by rfl)
        refine m_outerX (M := 6000) (L := ((List.range L).map f).map fOv) ⟨by omega, by omega⟩ (fX_up ex2 fv4) (by simp only [List.length_cons]; omega) ⟨r2, ⟨by omega, by omega⟩⟩ ⟨by simp only; omega, by simp only; omega, by simp only; omega, by simp only; omega⟩ (by rw [List.length_map, List.length_map, List.length_range]) (fun i u hu => ?_) (fun q3' σ1 e1' ex1 fv1 l87' f1 _ _ => ?_)
        · have hi := lt_of_get hu
          have hD := gD_i hi
          rw [List.length_map, List.length_map, List.length_range] at hi
          rw [hu, W_D hi] at hD
          have eu : u = fOv (f i) := Option.some.inj hD
          rw [eu, lenW i hi]
          refine ⟨?_, plb i hi⟩
          have h4 := h2.2.2 i (sg_g σ4 150 i) (by rw [List.getElem?_map, List.getElem?_range (by omega)]; rfl)
          rw [h4]; exact hz4 i hi
        · have l91 : sg_g σ1 88 91 = sg_g σ2 88 91 := sg_F_g f1 (by rfl)
          have FF : sg_F [139, 140, 141, 142, 144, 150, 88088, 92088] σ5 σ1 := sg_F_t (sg_F_m f6 rfl) (sg_F_t (sg_F_m f3 rfl) (sg_F_t (sg_F_m f4 rfl) (sg_F_t (sg_F_m f2 rfl) (sg_F_m f1 rfl))))
          exact k q3' σ1 (opX_mk (σ1 := σ5) eL hs' c5 FF rfl (by rw [sg_F_g f5 (by rfl), sg_F_g F11 (by rfl)]) (fqX_F f1 rfl (fqX_F f2 rfl (fqX_F f4 rfl (fqX_F f3 rfl hq6)))) (fEx_t exs6 (fEx_t ex3 (fEx_t ex4 (fEx_t ex2 ex1)))) (by omega) (by omega) (fun _ => ⟨_, fv1⟩))
end FXPT
