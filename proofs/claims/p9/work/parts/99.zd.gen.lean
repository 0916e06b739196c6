/-! lookGens of the reference: kGens, kBind. -/
theorem nd_take {ws : List Int} {v : Nat} {w : Int} (h : ws[v]? = some w) : (ws.take (v + 1)).Nodup ↔ (ws.take v).Nodup ∧ ∀ i : Nat, i < v → ¬ ws[i]? = some w := by
  have hv : v < ws.length := by
    rcases Nat.lt_or_ge v ws.length with q | q
    · exact q
    · rw [List.getElem?_eq_none q] at h; cases h
  rw [List.take_add_one, h, List.nodup_append]
  constructor
  · rintro ⟨a, -, b⟩
    refine ⟨a, fun i hi he => b w ?_ w (by simp) rfl⟩
    rw [List.mem_take_iff_getElem]
    have hl : i < ws.length := by omega
    refine ⟨i, by omega, ?_⟩
    rw [List.getElem?_eq_getElem hl] at he
    exact Option.some.inj he
  · rintro ⟨a, b⟩
    refine ⟨a, by simp, fun x hx y hy he => ?_⟩
    simp at hy
    subst hy
    subst he
    rw [List.mem_take_iff_getElem] at hx
    obtain ⟨i, hi, e⟩ := hx
    exact b i (by omega) (by rw [List.getElem?_eq_getElem (by omega), e])
theorem nd_sub {ws : List Int} {v : Nat} (h : ¬ (ws.take v).Nodup) : ¬ ws.Nodup := fun q => h (List.Nodup.sublist (List.take_sublist v ws) q)
theorem kPs_F {L : List Nat} {σ σ' : sg_S} {e eb : kE} (h : kPs σ e eb) (f : sg_F L σ σ') (hL : (!sg_cv L 88 37 && sg_ca L 113 && sg_ca L 114 && sg_ca L 115) = true) : kPs σ' e eb := by
  simp only [Bool.and_eq_true, Bool.not_eq_true'] at hL
  obtain ⟨⟨⟨l1, l2⟩, l3⟩, l4⟩ := hL
  refine ⟨?_, ?_⟩
  · rw [sg_F_g f l1]; exact pst_e h.1 (fun j _ _ => ⟨sg_F_gal f l2, sg_F_ga f l4⟩)
  · rw [sg_F_g f l1]; exact pst_e h.2 (fun j _ _ => ⟨sg_F_gal f l2, sg_F_ga f l3⟩)
theorem q_lookGens {σ : sg_S} {A : aT} {e eb : kE} {n : Int} {Q : sg_S → Prop} (h : trT σ A) (hn : 0 ≤ n ∧ n < A.1) (hF : sg_g σ 88 29 = 0) (hk : (A.2.2.2.2.2 n).length + 1 ≤ (A.2.2.2.2.1 n).length) (ht : ∀ x ∈ kGs A n, kIn (sg_g σ 101 x)) (he : kPs σ e eb) (hel : e.length ≤ 250) (k1 : ∀ σ', kGens (sg_g σ 101) (A.2.2.2.2.2 n) (kGs A n) = false → ¬ sg_g σ' 88 29 = 0 → sg_F [113, 114, 115, 116, 30088, 31088, 38088] σ σ' → Q σ') (k2 : ∀ σ', kGens (sg_g σ 101) (A.2.2.2.2.2 n) (kGs A n) = true → sg_g σ' 88 29 = 0 → kPs σ' (kBind (sg_g σ 101) (A.2.2.2.2.2 n) (kGs A n) e) (kGb n 0 (A.2.2.2.2.2 n) eb) → sg_F [113, 114, 115, 116, 30088, 31088, 38088] σ σ' → Q σ') : V_lookGens σ n Q := by
  have h200 := h.1.2.2.1
  obtain ⟨a1, a2, a3, a4, a5, a6, a7, a8, a9⟩ := h.1.2.2.2 n hn.1 hn.2
  have hn2 : 0 ≤ n ∧ n < 210 := by omega
  generalize hgs : A.2.2.2.2.2 n = gs at *
  generalize hxs : kGs A n = xs at *
  have hxl : xs.length = gs.length := by
    rw [← hxs]; unfold kGs; rw [hgs, List.length_take, List.length_drop]; omega
  have hxj : ∀ (j : Nat) (x : Int), xs[j]? = some x → (A.2.2.2.2.1 n)[1 + j]? = some x := fun j x hj => by
    rw [← hxs] at hj
    unfold kGs at hj
    rw [List.getElem?_take] at hj
    split at hj
    · rw [List.getElem?_drop] at hj; exact hj
    · cases hj
  have hkt : ∀ (j : Nat) (x : Int), xs[j]? = some x → p_kidType σ n (1 + (j : Int)) ∧ v_kidType σ n (1 + (j : Int)) = sg_g σ 101 x := fun j x hj => by
    have hj2 := hxj j x hj
    have hl : 1 + j < (A.2.2.2.2.1 n).length := by
      rcases Nat.lt_or_ge (1 + j) (A.2.2.2.2.1 n).length with q | q
      · exact q
      · rw [List.getElem?_eq_none q] at hj2; cases hj2
    have t := trT_kid h hn hl
    rw [show ((1 + j : Nat) : Int) = 1 + (j : Int) by omega] at t
    refine ⟨t.1, ?_⟩
    have t2 := t.2
    rw [List.getElem?_map, hj2] at t2
    exact (Option.some.inj t2).symm
  have hws : ∀ (j : Nat), (gs.map (·.1))[j]? = if j < gs.length then some (sg_gl σ 99 (4 * n + j)) else none := fun j => by
    by_cases c : j < gs.length
    · rw [if_pos c, List.getElem?_map, List.getElem?_eq_getElem c]
      rw [(a9 j _ (List.getElem?_eq_getElem c)).1]; rfl
    · rw [if_neg c]; exact List.getElem?_eq_none (by rw [List.length_map]; omega)
  have hwl : (gs.map (·.1)).length = gs.length := List.length_map _
  generalize hw : gs.map (·.1) = ws at *
  unfold V_lookGens
  rw [a7]
  refine ⟨fun m v1 σ2 => ∃ v : Nat, v1 = v ∧ m = gs.length - v ∧ 1 ≤ v ∧ (v ≤ gs.length ∨ v = 1) ∧ ((sg_g σ2 88 29 = 0 ∧ (ws.take v).Nodup) ∨ (¬ sg_g σ2 88 29 = 0 ∧ ¬ ws.Nodup)), fun σ2 => (sg_g σ2 88 29 = 0 ∧ ws.Nodup) ∨ (¬ sg_g σ2 88 29 = 0 ∧ ¬ ws.Nodup), ⟨_, 1, rfl, rfl, Nat.le_refl _, Or.inr rfl, Or.inl ⟨hF, ?_⟩⟩, ?_, ?_⟩
  · match ws with
    | [] => simp
    | _ :: _ => simp
  · rintro m v1 σ2 rv fr ⟨v, rfl, em, v1, v2, hi⟩
    refine ⟨hn2, fun c => ?_, fun c => ?_⟩
    · rw [List.take_of_length_le (by omega)] at hi
      exact hi
    · have hwv := hws v
      rw [if_pos (by omega)] at hwv
      refine ⟨fun m' x σ3 => ∃ i : Nat, x = i ∧ m' = v - i ∧ i ≤ v ∧ ((sg_g σ3 88 29 = 0 ∧ (ws.take v).Nodup ∧ ∀ j : Nat, j < i → ¬ ws[j]? = some (sg_gl σ 99 (4 * n + v))) ∨ (¬ sg_g σ3 88 29 = 0 ∧ ¬ ws.Nodup)), fun σ3 => ((sg_g σ3 88 29 = 0 ∧ (ws.take (v + 1)).Nodup) ∨ (¬ sg_g σ3 88 29 = 0 ∧ ¬ ws.Nodup)), ⟨_, 0, rfl, rfl, Nat.zero_le _, ?_⟩, ?_, ?_⟩
      · rcases hi with ⟨x1, x2⟩ | x
        · exact Or.inl ⟨x1, x2, fun j hj => by omega⟩
        · exact Or.inr x
      · rintro m' x σ3 rx fr3 ⟨i, rfl, em', hiv, hi3⟩
        refine ⟨fun c2 => ?_, fun c2 => ⟨⟨by omega, by omega⟩, ⟨by omega, by omega⟩, ⟨by omega, by omega⟩, ⟨by omega, by omega⟩, ⟨by omega, by omega⟩, fun d => ⟨⟨by omega, by omega⟩, _, ?_, i + 1, by omega, rfl, by omega, ?_⟩, fun d => q_wrong (by decide) (fun σ4 y1 y2 _ => ⟨⟨by omega, by omega⟩, _, ?_, i + 1, by omega, rfl, by omega, Or.inr ⟨y1, ?_⟩⟩)⟩⟩
        · rcases hi3 with ⟨x1, x2, x3⟩ | x
          · exact Or.inl ⟨x1, (nd_take hwv).mpr ⟨x2, fun j hj => x3 j (by omega)⟩⟩
          · exact Or.inr x
        · omega
        · rcases hi3 with ⟨x1, x2, x3⟩ | x
          · refine Or.inl ⟨x1, x2, fun j hj => ?_⟩
            by_cases e2 : j = i
            · subst e2
              rw [hws j, if_pos (by omega)]
              exact fun z => d (Option.some.inj z)
            · exact x3 j (by omega)
          · exact Or.inr x
        · omega
        · refine nd_sub (v := v + 1) (fun z => ((nd_take hwv).mp z).2 i (by omega) ?_)
          rw [hws i, if_pos (by omega), d]
      · intro σ3 fr3 hx
        exact ⟨⟨by omega, by omega⟩, _, (by omega : gs.length - (v + 1) < m), v + 1, by omega, rfl, by omega, Or.inl (by omega), hx⟩
  · intro σ2 fr hx
    refine ⟨fun m v1 σ3 => ∃ v : Nat, v1 = v ∧ m = gs.length - v ∧ v ≤ gs.length ∧ ((sg_g σ3 88 29 = 0 ∧ ws.Nodup ∧ ∀ (j : Nat) (x : Int), j < v → xs[j]? = some x → 0 < sg_g σ 101 x) ∨ (¬ sg_g σ3 88 29 = 0 ∧ kGens (sg_g σ 101) gs xs = false)), fun σ3 => (sg_g σ3 88 29 = 0 ∧ kGens (sg_g σ 101) gs xs = true) ∨ (¬ sg_g σ3 88 29 = 0 ∧ kGens (sg_g σ 101) gs xs = false), ⟨_, 0, rfl, rfl, Nat.zero_le _, ?_⟩, ?_, ?_⟩
    · rcases hx with ⟨x1, x2⟩ | ⟨x1, x2⟩
      · exact Or.inl ⟨x1, x2, fun j x hj => by omega⟩
      · refine Or.inr ⟨x1, ?_⟩
        unfold kGens
        rw [hw, decide_eq_false x2]; rfl
    · rintro m v1 σ3 rv fr3 ⟨v, rfl, em, hv, hi⟩
      refine ⟨hn2, fun c => ?_, fun c => ?_⟩
      · rcases hi with ⟨x1, x2, x3⟩ | x
        · refine Or.inl ⟨x1, ?_⟩
          unfold kGens
          rw [hw, decide_eq_true x2, Bool.true_and, List.all_eq_true]
          intro x hx
          obtain ⟨j, hj⟩ := List.getElem?_of_mem hx
          have hj2 : j < xs.length := by
            rcases Nat.lt_or_ge j xs.length with q | q
            · exact q
            · rw [List.getElem?_eq_none q] at hj; cases hj
          exact decide_eq_true (x3 j x (by omega) hj)
        · exact Or.inr x
      · obtain ⟨x, hx⟩ : ∃ x, xs[v]? = some x := ⟨_, List.getElem?_eq_getElem (by omega)⟩
        obtain ⟨t1, t2⟩ := hkt v x hx
        have tx := ht x (List.mem_of_getElem? hx)
        have fin : ∀ σ4, ((sg_g σ4 88 29 = 0 ∧ ws.Nodup ∧ ∀ (j : Nat) (x : Int), j < v + 1 → xs[j]? = some x → 0 < sg_g σ 101 x) ∨ (¬ sg_g σ4 88 29 = 0 ∧ kGens (sg_g σ 101) gs xs = false)) → sg_R ((v : Int) + 1) ∧ ∃ m', m' < m ∧ ∃ w : Nat, (v : Int) + 1 = w ∧ m' = gs.length - w ∧ w ≤ gs.length ∧ ((sg_g σ4 88 29 = 0 ∧ ws.Nodup ∧ ∀ (j : Nat) (x : Int), j < w → xs[j]? = some x → 0 < sg_g σ 101 x) ∨ (¬ sg_g σ4 88 29 = 0 ∧ kGens (sg_g σ 101) gs xs = false)) := fun σ4 hh => ⟨⟨by omega, by omega⟩, gs.length - (v + 1), by omega, v + 1, by omega, rfl, by omega, hh⟩
        refine ⟨⟨by omega, by omega⟩, t1, fun σ4 => (sg_g σ4 88 29 = 0 ∧ ws.Nodup ∧ ∀ (j : Nat) (x : Int), j < v + 1 → xs[j]? = some x → 0 < sg_g σ 101 x) ∨ (¬ sg_g σ4 88 29 = 0 ∧ kGens (sg_g σ 101) gs xs = false), ⟨fun d => ?_, fun d => q_wrong (by decide) (fun σ4 y1 y2 _ => Or.inr ⟨y1, ?_⟩)⟩, fun σ4 _ hh => fin σ4 hh⟩
        · rcases hi with ⟨x1, x2, x3⟩ | y
          · refine Or.inl ⟨x1, x2, fun j y hj hy => ?_⟩
            by_cases e2 : j = v
            · subst e2
              rw [hx] at hy
              cases hy
              rw [t2] at d
              have := tx.1
              omega
            · exact x3 j y (by omega) hy
          · exact Or.inr y
        · unfold kGens
          rw [Bool.and_eq_false_iff]
          right
          rw [List.all_eq_false]
          refine ⟨x, List.mem_of_getElem? hx, ?_⟩
          rw [t2] at d
          rw [d]; decide
    · intro σ3 fr3 hx3
      have he3 : kPs σ3 e eb := kPs_F he (sg_F_t fr fr3) rfl
      refine ⟨fun m v1 σ4 => ∃ (v : Nat) (ev evb : kE), v1 = v ∧ m = gs.length - v ∧ v ≤ gs.length ∧ sg_g σ4 88 29 = sg_g σ3 88 29 ∧ kPs σ4 ev evb ∧ ev.length = e.length + v ∧ kBind (sg_g σ 101) (gs.drop v) (xs.drop v) ev = kBind (sg_g σ 101) gs xs e ∧ kGb n v (gs.drop v) evb = kGb n 0 gs eb, fun σ4 => sg_g σ4 88 29 = sg_g σ3 88 29 ∧ kPs σ4 (kBind (sg_g σ 101) gs xs e) (kGb n 0 gs eb), ⟨_, 0, e, eb, rfl, rfl, Nat.zero_le _, rfl, he3, rfl, rfl, rfl⟩, ?_, ?_⟩
      · rintro m v1 σ4 rv fr4 ⟨v, ev, evb, rfl, em, hv, hf4, hp, hl, hb, hbb⟩
        refine ⟨hn2, fun c => ?_, fun c => ?_⟩
        · refine ⟨hf4, ?_⟩
          rw [List.drop_eq_nil_of_le (show gs.length ≤ v by omega)] at hb hbb
          simp only [kBind] at hb
          simp only [kGb] at hbb
          rw [← hb, ← hbb]; exact hp
        · obtain ⟨x, hx⟩ : ∃ x, xs[v]? = some x := ⟨_, List.getElem?_eq_getElem (by omega)⟩
          obtain ⟨y, hy⟩ : ∃ y, gs[v]? = some y := ⟨_, List.getElem?_eq_getElem (by omega)⟩
          obtain ⟨t1, t2⟩ := hkt v x hx
          have tx := ht x (List.mem_of_getElem? hx)
          have dx : xs.drop v = x :: xs.drop (v + 1) := by
            have hl2 : v < xs.length := by omega
            rw [List.drop_eq_getElem_cons hl2]
            rw [List.getElem?_eq_getElem hl2] at hx
            rw [Option.some.inj hx]
          have dy : gs.drop v = y :: gs.drop (v + 1) := by
            have hl2 : v < gs.length := by omega
            rw [List.drop_eq_getElem_cons hl2]
            rw [List.getElem?_eq_getElem hl2] at hy
            rw [Option.some.inj hy]
          rw [dx, dy] at hb
          rw [dy] at hbb
          simp only [kBind] at hb
          simp only [kGb] at hbb
          have tx1 := tx.1
          have tx2 := tx.2
          rw [t2, (a9 v y hy).1]
          refine ⟨⟨by omega, by omega⟩, ⟨by omega, by omega⟩, ⟨by omega, by omega⟩, ⟨⟨by omega, by omega⟩, ⟨by omega, by omega⟩, ⟨by omega, by omega⟩, trivial⟩, ⟨by omega, by omega⟩, t1, ⟨by omega, by omega⟩, q_know hp (by omega) (by rw [← (a9 v y hy).1]; exact sg_Rgl _ _ _) ⟨by omega, by omega⟩ (by unfold v_ofGen; omega) (fun σ5 y1 y2 _ => ⟨⟨by omega, by omega⟩, gs.length - (v + 1), by omega, v + 1, _, _, by omega, rfl, by omega, ?_, y1, ?_, hb, ?_⟩)⟩
          · rw [sg_F_g y2 (by rfl)]; exact hf4
          · simp only [List.length_cons]; omega
          · unfold v_ofGen
            exact hbb
      · rintro σ4 fr4 ⟨hf4, hp⟩
        have f : sg_F [113, 114, 115, 116, 30088, 31088, 38088] σ σ4 := sg_F_t (sg_F_m (sg_F_t fr fr3) rfl) (sg_F_m fr4 rfl)
        rcases hx3 with ⟨x1, x2⟩ | ⟨x1, x2⟩
        · exact k2 σ4 x2 (hf4.trans x1) hp f
        · exact k1 σ4 x2 (fun z => x1 (hf4.symm.trans z)) f
