/-! flat ops of the reference, exactly: SUM, MAX, MIN, SCAN. -/
section FXGN
variable {σ : sg_S} {M v : Int} {R : List (Int × Int)}
theorem m_fGoneX {n a : Int} {L : Nat} {la : List vaF} {f : Nat → Int ⊕ vaF} {s : fSt} {Q : Int → sg_S → Prop} (hC : fC σ) (hs : fcX σ s) (hn : 0 ≤ n ∧ n < 210) (ha : fX σ 6000 a 1 la R) (hL : la.length = L) (hq : fqX σ 0) (hf : ∀ i, i < L → f i = if sg_g σ 93 n = 21 then .inr (mkF ((scnF 0 (nuF (la.getD i (nmF 0)))).map nmF)) else if (sg_g σ 93 n = 19 ∨ sg_g σ 93 n = 20) ∧ (la.getD i (nmF 0)) [] = 0 then .inl 4 else .inr (nmF (gnF (sg_g σ 93 n) (nuF (la.getD i (nmF 0)))))) (k : ∀ q σ', opX σ σ' (if sg_g σ 93 n = 21 then 1 else 0) ((List.range L).map f) s q → Q q σ') : V_flatGone σ n a (L : Int) Q := by
  obtain ⟨c1, c2, c3, c4⟩ := hC
  have s85 := hs.2.1
  have s0 := hs.2.2.2.2
  obtain ⟨r, r', Ra, er, er1, er2, er3, er4, er5, er6, er7⟩ := fX_s ha
  have R0 : Ra = [] := List.eq_nil_of_length_eq_zero er1
  subst R0
  subst er
  have L6 : (L : Int) ≤ 6000 := by have := er6.2.2.1; omega
  have I6 : ((flF la).length : Int) ≤ 6000 := by have := er7.2.2.1; omega
  have t0 := er7.1
  have t9 := er7.2.2.2
  have u0 := er6.1
  have u9 := er6.2.2.2
  obtain ⟨na, ena⟩ : ∃ na : Nat → Nat, ∀ i, na i = (itF (la.getD i (nmF 0))).length := ⟨_, fun _ => rfl⟩
  obtain ⟨nu, enu⟩ : ∃ nu : Nat → List Int, ∀ i, nu i = nuF (la.getD i (nmF 0)) := ⟨_, fun _ => rfl⟩
  have nul : ∀ i, (nu i).length = na i := fun i => by rw [enu i, ena i]; unfold nuF; rw [List.length_map]
  unfold V_flatGone
  refine ⟨hn, fun v4 e4 r4 => ?_⟩
  have v4c : (v4 = 0 ∧ ¬ sg_g σ 93 n = 21) ∨ (v4 = 1 ∧ sg_g σ 93 n = 21) := by
    by_cases c : sg_g σ 93 n = 21
    · rw [if_neg (fun z => z c)] at e4; exact Or.inr ⟨e4, c⟩
    · rw [if_pos c] at e4; exact Or.inl ⟨e4, c⟩
  clear e4
  obtain ⟨cl, ecl⟩ : ∃ cl : Nat → List Int, ∀ i, cl i = if v4 = 0 then [gnF (sg_g σ 93 n) (nu i)] else (List.range (nu i).length).map (fun j => foF 18 0 ((nu i).take j)) := ⟨_, fun _ => rfl⟩
  have cl0 : v4 = 0 → frF cl L = (List.range L).map (fun i => gnF (sg_g σ 93 n) (nu i)) := fun c => by
    rw [← frF_one]
    exact frF_e (fun i _ => by rw [ecl i, if_pos c])
  have cl1 : ¬ v4 = 0 → frF cl L = frF (fun i => scnF 0 (nu i)) L := fun c => frF_e (fun i _ => by rw [ecl i, if_neg c, scn_r])
  have ahL : ahF la L = (flF la).length := by rw [← hL]; exact ahF_n la
  have scl : ∀ i, (scnF 0 (nu i)).length = na i := fun i => by rw [scn_r, List.length_map, List.length_range, nul i]
  have cln : ¬ v4 = 0 → ∀ i, i ≤ L → (frF cl i).length = ahF la i := fun c i => by
    induction i with
    | zero => intro _; rw [ahF_0]; rfl
    | succ i ih =>
      intro hi
      rw [frF_s, List.length_append, ih (by omega), ecl i, if_neg c, List.length_map, List.length_range, nul i, ahF_s (by omega), ena i]
  have cln0 : v4 = 0 → ∀ i, (frF cl i).length = i := fun c i => by
    induction i with
    | zero => rfl
    | succ i ih => rw [frF_s, List.length_append, ih, ecl i, if_pos c]; rfl
  have flW : ¬ v4 = 0 → flF (((List.range L).map f).map fOv) = (frF cl L).map nmF := fun c => by
    have kn : sg_g σ 93 n = 21 := by omega
    rw [cl1 c, flF_g, frF_map]
    refine frF_e (fun i hi => ?_)
    rw [hf i hi, if_pos kn, enu i]
    show itF (mkF _) = _
    rw [itF_mk]
  obtain ⟨tot, htot⟩ : ∃ tot : Int, tot = (if v4 = 0 then (L : Int) else (L : Int) + (flF la).length) := ⟨_, rfl⟩
  have eL : exF (if sg_g σ 93 n = 21 then 1 else 0) (((List.range L).map f).map fOv) = tot := by
    rw [htot]
    by_cases c : v4 = 0
    · rw [if_pos c, if_neg (by omega)]
      simp only [exF, List.length_map, List.length_range]
    · rw [if_neg c, if_pos (by omega)]
      simp only [exF]
      rw [flW c, List.length_map, List.length_map, List.length_map, List.length_range, cln c L (Nat.le_refl _), ahL]
  have exa := eX_F ha
  have exa' : exF 1 la = (L : Int) + (flF la).length := by simp only [exF]; rw [hL]
  refine ⟨fun x => x = tot, ⟨fun z => by rw [htot, if_pos z], fun z => m_extent ha.1 ⟨by decide, by decide⟩ (by omega) (fun _ => by rw [htot, if_neg z, exa, exa'])⟩, fun v12 r12 e12 => ?_⟩
  have b12 : (L : Int) ≤ tot ∧ tot ≤ 12000 := by
    rw [htot]
    by_cases c : v4 = 0
    · rw [if_pos c]; omega
    · rw [if_neg c]; omega
  subst e12
  refine m_stepX hs ⟨by omega, by omega⟩ (fun h0 σ' e c F _ _ => ⟨fun z => absurd rfl z, fun _ => k _ _ (Or.inl ⟨by rw [eL]; exact h0, e, c⟩)⟩) (fun s' hs' σ1 c' f1 _ _ => ⟨fun _ => ?_, fun z => by omega⟩)
  have st := fStp_s hs'
  have e91 : sg_g σ1 88 91 = sg_g σ 88 91 := sg_F_g f1 (by rfl)
  have e87 : sg_g σ1 88 87 = sg_g σ 88 87 := sg_F_g f1 (by rfl)
  have ex1 := fEx_F f1 (by rfl)
  have ha1 := fX_up ex1 ha
  have z1 := fV_1 ha.1
  have vb := ha.1.1
  rw [z1.1]
  have clb : ∀ i, i ≤ L → ((frF cl i).length : Int) ≤ 6000 := fun i hi => by
    by_cases c : v4 = 0
    · rw [cln0 c i]; omega
    · rw [cln c i hi]
      have := ahF_le la i
      omega
  refine ⟨⟨by omega, by omega⟩, ⟨by omega, by omega⟩, ⟨by omega, by omega⟩, fun m at_ x σ2 => ∃ i : Nat, x = i ∧ m = L - i ∧ i ≤ L ∧ at_ = r'.1 + (ahF la i : Int) ∧ fqX σ2 (fOe ((List.range i).map f)) ∧ ∃ t, gHX σ1 (sg_g σ1 88 91) False ((frF cl i).length : Int) t (frF cl i) σ2, fun σ2 => fqX σ2 (fOe ((List.range L).map f)) ∧ ∃ t, gHX σ1 (sg_g σ1 88 91) False ((frF cl L).length : Int) t (frF cl L) σ2, ⟨_, 0, rfl, rfl, Nat.zero_le _, by rw [ahF_0]; omega, fqX_F f1 rfl hq, 0, gHX_0 _ _⟩, ?_, ?_⟩
  · rintro m at_ x σ2 ra rx f2 ⟨i, rfl, en, hi, rfl, hq2, t, hG⟩
    refine ⟨fun z => by rw [show L = i by omega]; exact ⟨hq2, t, hG⟩, fun z => ?_⟩
    have iL : i < L := by omega
    obtain ⟨n0, m1, m2⟩ := er4 i (by omega)
    have il := it_len m1
    have hah := ahF_s (l := la) (i := i) (by omega)
    have hab := ahF_b (l := la) (i := i) (by omega)
    rw [← ena i] at il hah hab
    have fb := clb i hi
    have fb1 := clb (i + 1) (by omega)
    have fbs : (frF cl (i + 1)).length = (frF cl i).length + (cl i).length := by rw [frF_s, List.length_append]
    have ecli := ecl i
    have hfi := hf i iL
    refine ⟨fun m a' mm y σ3 => ∃ j : Nat, y = j ∧ m = na i - j ∧ j ≤ na i ∧ a' = r'.1 + (ahF la i : Int) + j ∧ mm = gnF (sg_g σ 93 n) ((nu i).take j) ∧ ∃ t, gHX σ1 (sg_g σ1 88 91) False (((frF cl i).length : Int) + (if v4 = 0 then 0 else (j : Int))) t (frF cl i ++ (if v4 = 0 then [] else (List.range j).map (fun t => foF 18 0 ((nu i).take t)))) σ3, fun a' mm σ3 => a' = r'.1 + (ahF la (i + 1) : Int) ∧ mm = gnF (sg_g σ 93 n) (nu i) ∧ ∃ t, gHX σ1 (sg_g σ1 88 91) False (((frF cl i).length : Int) + (if v4 = 0 then 0 else (na i : Int))) t (frF cl i ++ (if v4 = 0 then [] else cl i)) σ3, ⟨_, 0, rfl, rfl, Nat.zero_le _, by omega, by rw [List.take_zero, gnF_0], t, gHX_c hG ?_ ?_⟩, ?_, ?_⟩
    · by_cases c : v4 = 0
      · rw [if_pos c]; omega
      · rw [if_neg c]; omega
    · by_cases c : v4 = 0
      · rw [if_pos c, List.append_nil]
      · rw [if_neg c]; exact List.append_nil _
    · rintro m' a' mm y σ3 ra' rm ry f3 ⟨j, rfl, en', hj, rfl, rfl, t3, hG3⟩
      have F3 : sg_F [142, 92088, 103088, 104088] σ1 σ3 := sg_F_t f2 (sg_F_m f3 rfl)
      have sz : ((frF cl i).length : Int) + (if v4 = 0 then 0 else (j : Int)) ≤ 6000 := by
        by_cases c : v4 = 0
        · rw [if_pos c]; omega
        · rw [if_neg c]
          have := cln c i hi
          omega
      obtain ⟨pa, va⟩ := pRX_h ha1 hG3 F3 rfl ⟨by omega, by omega⟩ (i := i) (by omega)
      rw [va]
      refine ⟨pa, fun c => ?_, fun c => ?_⟩
      · have ej : j = na i := by omega
        have tk : (nu i).take j = nu i := List.take_of_length_le (by rw [nul i]; omega)
        rw [tk]
        refine ⟨by omega, rfl, t3, gHX_c hG3 (by rw [ej]) ?_⟩
        by_cases cv : v4 = 0
        · rw [if_pos cv, if_pos cv]
        · rw [if_neg cv, if_neg cv, ecli, if_neg cv, nul i, ej]
      · have jn : j < na i := by omega
        obtain ⟨w, hw⟩ := gE_x (l := nu i) (i := j) (by rw [nul i]; exact jn)
        have cv : sg_g σ3 142 (r'.1 + (ahF la i : Int) + j) = w := by
          rw [hG3.1.2.1 _ (by omega) (by omega), nu_cell ha1 (by omega) (by rw [← ena i]; exact jn), ← enu i, List.getD_eq_getElem?_getD, hw]
          rfl
        rw [cv]
        refine ⟨⟨by omega, by omega⟩, ⟨by omega, by omega⟩, fun σ4 => ∃ t, gHX σ1 (sg_g σ1 88 91) False (((frF cl i).length : Int) + (if v4 = 0 then 0 else ((j : Int) + 1))) t (frF cl i ++ (if v4 = 0 then [] else (List.range (j + 1)).map (fun t => foF 18 0 ((nu i).take t)))) σ4, ⟨fun c4 => ⟨t3, ?_⟩, fun c4 => ?_⟩, fun σ4 f4 h4 => ⟨⟨fun _ => ⟨fun _ => trivial, fun _ => ⟨fun _ => trivial, fun _ => ⟨fun _ => trivial, fun _ => trivial⟩⟩⟩, fun _ => ⟨fun _ => trivial, fun _ => ⟨fun _ => trivial, fun _ => trivial⟩⟩⟩, fun v128 e128 r128 => ⟨⟨by omega, by omega⟩, na i - (j + 1), by omega, j + 1, by omega, rfl, by omega, by omega, ?_, h4⟩⟩⟩
        · rw [if_pos c4] at hG3
          rw [if_pos c4] at hG3
          rw [if_pos c4, if_pos c4]
          exact hG3
        · rw [if_neg c4] at hG3
          rw [if_neg c4] at hG3
          have kn : sg_g σ 93 n = 21 := by omega
          have eg : gnF (sg_g σ 93 n) ((nu i).take j) = foF 18 0 ((nu i).take j) := by
            unfold gnF
            rw [if_neg (by omega)]
          have sz' := cln c4 i hi
          refine m_putX hG3 (by omega) (by omega) rm (fun b => b.elim) (fun σ5 h5 f5 _ => ⟨_, gHX_c h5 ?_ ?_⟩)
          · rw [if_neg c4]; omega
          · rw [if_neg c4, List.range_succ, List.map_append, eg, List.append_assoc]
            rfl
        · have gs := gnF_s (sg_g σ 93 n) ((nu i).take j) w
          rw [show ((((nu i).take j).length : Nat) : Int) = j by rw [List.length_take, nul i]; omega] at gs
          rw [tkF_1 hw, gs]
          exact e128
    · rintro a' mm σ3 ra' rm f3 ⟨rfl, rfl, t3, hG3⟩
      have F3 : sg_F [142, 92088, 103088, 104088] σ1 σ3 := sg_F_t f2 (sg_F_m f3 rfl)
      have sz : ((frF cl i).length : Int) + (if v4 = 0 then 0 else (na i : Int)) ≤ 6000 := by
        by_cases c : v4 = 0
        · rw [if_pos c]; omega
        · rw [if_neg c]
          have := cln c i hi
          omega
      obtain ⟨pa, va⟩ := pRX_h ha1 hG3 F3 rfl ⟨by omega, by omega⟩ (i := i) (by omega)
      have hq3 : fqX σ3 (fOe ((List.range i).map f)) := fqX_F f3 rfl hq2
      have no : ¬ ((sg_g σ 93 n = 19 ∨ sg_g σ 93 n = 20) ∧ (la.getD i (nmF 0)) [] = 0) → fqX σ3 (fOe ((List.range (i + 1)).map f)) := fun h => by
        by_cases c : sg_g σ 93 n = 21
        · rw [if_pos c] at hfi
          exact fqX_i hq3 (fOe_n hfi)
        · rw [if_neg c, if_neg h] at hfi
          exact fqX_i hq3 (fOe_n hfi)
      have lk : (sg_g σ 93 n = 19 ∨ sg_g σ 93 n = 20) → (la.getD i (nmF 0)) [] = 0 → V_lacks σ3 (i : Int) 4 (fun σ100 => sg_F [103088, 104088] σ3 σ100 → fqX σ100 (fOe ((List.range (i + 1)).map f))) := fun h1 h2 => by
        rw [if_neg (by omega), if_pos ⟨h1, h2⟩] at hfi
        exact m_lacksX ⟨by omega, rx⟩ ⟨by decide, by decide, by decide⟩ hq3 (fun σ5 h5 _ _ => fqX_i h5 (fOe_e hfi))
      rw [va]
      refine ⟨fun σ4 => fqX σ4 (fOe ((List.range (i + 1)).map f)), ⟨fun k9 => ⟨pa, fun y => no (fun w => y w.2), fun y => lk (Or.inl k9) y⟩, fun k9 => ⟨fun k10 => no (fun w => w.1.elim k9 k10), fun k10 => ⟨pa, fun y => no (fun w => y w.2), fun y => lk (Or.inr k10) y⟩⟩⟩, fun σ4 f4 hq4 => ⟨fun σ5 => fqX σ5 (fOe ((List.range (i + 1)).map f)) ∧ ∃ t, gHX σ1 (sg_g σ1 88 91) False ((frF cl (i + 1)).length : Int) t (frF cl (i + 1)) σ5, ⟨fun c4 => ⟨hq4, t3, ?_⟩, fun c4 => ?_⟩, fun σ5 f5 h5 => ⟨⟨by omega, by omega⟩, L - (i + 1), by omega, i + 1, by omega, rfl, by omega, rfl, h5⟩⟩⟩
      · rw [if_neg c4] at hG3
        rw [if_neg c4] at hG3
        refine gHX_c (gHX_F f4 rfl hG3) ?_ (frF_s _ _)
        rw [if_neg c4] at ecli
        rw [fbs, ecli, List.length_map, List.length_range, nul i]
        omega
      · rw [if_pos c4] at hG3
        rw [if_pos c4] at hG3
        rw [if_pos c4] at ecli
        refine m_putX (gHX_F f4 rfl hG3) (by omega) (by omega) rm (fun b => b.elim) (fun σ5 h5 f5 _ => ⟨fqX_F f5 rfl hq4, _, gHX_c h5 ?_ ?_⟩)
        · rw [fbs, ecli]
          simp only [List.length_cons, List.length_nil]
          omega
        · rw [frF_s, ecli, List.append_nil]
  · rintro σ2 f2 ⟨hq2, t, hG⟩
    have g87 : sg_g σ2 88 87 = sg_g σ1 88 87 := sg_F_g f2 (by rfl)
    have fbL := clb L (Nat.le_refl _)
    refine m_numsX hG f2 e91.symm ⟨by omega, by omega⟩ ⟨by omega, by omega⟩ (by omega) (fun q σ' x1 x2 x3 x4 x5 _ _ => ?_)
    have F : sg_F [139, 140, 141, 142, 88088, 92088, 103088, 104088] σ1 σ' := sg_F_t (sg_F_m f2 rfl) (sg_F_m x4 rfl)
    refine ⟨fun cz => ?_, fun cz => ?_⟩
    · have kn : ¬ sg_g σ 93 n = 21 := by omega
      have hl := cln0 cz L
      rw [if_neg kn] at k eL
      rw [if_pos cz] at htot
      refine k q σ' (opX_mk eL hs' c' F rfl (sg_F_g f1 (by rfl)) (fqX_F x4 rfl hq2) (fEx_t ex1 x1) (by omega) (by omega) (fun e0 => ⟨[(sg_g σ 88 91, ((frF cl L).length : Int))], ?_⟩))
      have e : ((List.range L).map f).map fOv = (frF cl L).map nmF := by
        rw [cl0 cz, List.map_map, List.map_map]
        refine mp_e (fun i hi => ?_)
        show fOv (f i) = nmF (gnF (sg_g σ 93 n) (nu i))
        have h0 := fOe_0 e0 (f i) (List.mem_map.mpr ⟨i, List.mem_range.mpr hi, rfl⟩)
        rw [hf i hi, if_neg kn] at h0 ⊢
        by_cases c : (sg_g σ 93 n = 19 ∨ sg_g σ 93 n = 20) ∧ (la.getD i (nmF 0)) [] = 0
        · rw [if_pos c, fOe_l] at h0
          cases h0
        · rw [if_neg c, enu i]; rfl
      rw [e]
      exact x5
    · have kn : sg_g σ 93 n = 21 := by omega
      have hl := cln cz L (Nat.le_refl _)
      rw [if_pos kn] at k eL
      rw [if_neg cz] at htot
      have ha3 := fX_up (fEx_t ex1 x1) ha
      have z0 := fV_0 ha3.1
      rw [z0.1]
      obtain ⟨y1, y2, y3⟩ := ha3.1.2.2.2.2
      rw [← flW cz] at x5
      refine ⟨⟨by omega, by omega⟩, m_outerX (M := 6000) (L := ((List.range L).map f).map fOv) ⟨by omega, by omega⟩ x5 (by simp) ⟨⟨by omega, by omega⟩, ⟨by omega, by omega⟩⟩ ?_ (by rw [List.length_map, List.length_map, List.length_range]) (fun i u hu => ?_) (fun q2 σ9 e9 ex9 fv9 e87'' f9 _ _ => ?_)⟩
      · rw [hL] at er2
        rw [← er2]; exact y1
      · have hi := lt_of_get hu
        have hD := gD_i hi
        rw [List.length_map, List.length_map, List.length_range] at hi
        rw [hu, W_D hi] at hD
        have eu : u = fOv (f i) := Option.some.inj hD
        have il := it_len (er4 i (by omega)).2.1
        rw [← ena i] at il
        have lw : (fOv (f i)) [] = (la.getD i (nmF 0)) [] := by
          rw [hf i hi, if_pos kn]
          show mkF _ [] = _
          rw [mkF_0, List.length_map, ← enu i, scl i]
          exact il
        rw [eu, lw]
        obtain ⟨r1, R1, q1, q2, q3, q4, q5⟩ := fX_r ha3
        cases q1
        exact ⟨q5 i (by omega), (er4 i (by omega)).2⟩
      · have j91 : sg_g σ9 88 91 = sg_g σ' 88 91 := sg_F_g f9 (by rfl)
        exact k q2 σ9 (opX_mk eL hs' c' (sg_F_t F (sg_F_m f9 rfl)) rfl (sg_F_g f1 (by rfl)) (fqX_F f9 rfl (fqX_F x4 rfl hq2)) (fEx_t ex1 (fEx_t x1 ex9)) (by omega) (by omega) (fun _ => ⟨_, fv9⟩))
end FXGN
