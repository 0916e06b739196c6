/-! know, lookGens, lookThrough of the reference, with cameAt. -/
theorem q_knowC {σ : sg_S} {e eb : kE} {w b ty : Int} {Q : sg_S → Prop} (hh : kPs σ e eb) (hl : e.length < 300) (hw : sg_RL w) (ht : sg_R ty) (hb : 0 ≤ b ∧ b < 1200) (k : ∀ σ', kPs σ' ((w, ty) :: e) ((w, b) :: eb) → sg_g σ' 116 = aU (sg_g σ 116) b (e.length : Int) → sg_F [113, 114, 115, 116, 38088] σ σ' → Q σ') : V_know σ w b ty Q := by
  have h := hh.1
  have hn := pst_n h
  unfold V_know
  refine ⟨by omega, fun σ2 e2 σ5 e5 σ8 e8 => ⟨hb, fun σ12 e12 => ⟨⟨by omega, by omega⟩, fun σ16 e16 => k σ16 ?_ ?_ ?_⟩⟩⟩
  · have r37 : sg_g σ16 88 37 = sg_g σ 88 37 + 1 := by rw [e16, sg_gw_e _ _ _ _ ⟨by omega, by omega⟩]
    refine ⟨⟨by omega, ?_, ?_, ?_⟩, ⟨by omega, ?_, ?_, ?_⟩⟩
    · rw [r37, show sg_g σ 88 37 + 1 - 1 = sg_g σ 88 37 by omega, e16, sg_gw', e12, sg_gw', e8, sg_gw', e5, sg_gw', e2, sg_gwl_e _ _ _ _ hw]
    · rw [r37, show sg_g σ 88 37 + 1 - 1 = sg_g σ 88 37 by omega, e16, sg_gw_c _ _ _ _ _ _ (by decide), e12, sg_gw_c _ _ _ _ _ _ (by decide), e8, sg_gw_e _ _ _ _ ht]
    · rw [r37, show sg_g σ 88 37 + 1 - 1 = sg_g σ 88 37 by omega]
      refine pst_e h (fun j a b => ⟨?_, ?_⟩)
      · rw [e16, sg_gw', e12, sg_gw', e8, sg_gw', e5, sg_gw', e2, sg_gwl_k _ _ _ _ _ _ (by omega)]
      · rw [e16, sg_gw_c _ _ _ _ _ _ (by decide), e12, sg_gw_c _ _ _ _ _ _ (by decide), e8, sg_gw_k _ _ _ _ _ _ (by omega), e5, sg_gw_c _ _ _ _ _ _ (by decide), e2, sg_gwl']
    · rw [r37, show sg_g σ 88 37 + 1 - 1 = sg_g σ 88 37 by omega, e16, sg_gw', e12, sg_gw', e8, sg_gw', e5, sg_gw', e2, sg_gwl_e _ _ _ _ hw]
    · rw [r37, show sg_g σ 88 37 + 1 - 1 = sg_g σ 88 37 by omega, e16, sg_gw_c _ _ _ _ _ _ (by decide), e12, sg_gw_c _ _ _ _ _ _ (by decide), e8, sg_gw_c _ _ _ _ _ _ (by decide), e5, sg_gw_e _ _ _ _ ⟨by omega, by omega⟩]
    · rw [r37, show sg_g σ 88 37 + 1 - 1 = sg_g σ 88 37 by omega]
      refine pst_e hh.2 (fun j a b => ⟨?_, ?_⟩)
      · rw [e16, sg_gw', e12, sg_gw', e8, sg_gw', e5, sg_gw', e2, sg_gwl_k _ _ _ _ _ _ (by omega)]
      · rw [e16, sg_gw_c _ _ _ _ _ _ (by decide), e12, sg_gw_c _ _ _ _ _ _ (by decide), e8, sg_gw_c _ _ _ _ _ _ (by decide), e5, sg_gw_k _ _ _ _ _ _ (by omega), e2, sg_gwl']
  · funext y
    rw [e16, sg_gw_c _ _ _ _ _ _ (by decide), e12]
    by_cases c : y = b
    · rw [c, sg_gw_e _ _ _ _ (sg_Rg _ _ _)]
      simp only [aU, if_true]
      omega
    · rw [sg_gw_k _ _ _ _ _ _ c, e8, sg_gw_c _ _ _ _ _ _ (by decide), e5, sg_gw_c _ _ _ _ _ _ (by decide), e2, sg_gwl']
      simp only [aU, c, if_false]
  · rw [e16, e12, e8, e5, e2]
    exact sg_F_w (sg_F_w (sg_F_w (sg_F_w (sg_F_wl (sg_F_r _ _) rfl _) rfl _) rfl _) rfl _) rfl _
theorem q_lookGensC {σ : sg_S} {A : aT} {e eb : kE} {n : Int} {Q : sg_S → Prop} (h : trT σ A) (hn : 0 ≤ n ∧ n < A.1) (hF : sg_g σ 88 29 = 0) (hk : (A.2.2.2.2.2 n).length + 1 ≤ (A.2.2.2.2.1 n).length) (ht : ∀ x ∈ kGs A n, kIn (sg_g σ 101 x)) (he : kPs σ e eb) (hel : e.length ≤ 250) (k1 : ∀ σ', kGens (sg_g σ 101) (A.2.2.2.2.2 n) (kGs A n) = false → ¬ sg_g σ' 88 29 = 0 → sg_F [113, 114, 115, 116, 30088, 31088, 38088] σ σ' → Q σ') (k2 : ∀ σ', kGens (sg_g σ 101) (A.2.2.2.2.2 n) (kGs A n) = true → sg_g σ' 88 29 = 0 → kPs σ' (kBind (sg_g σ 101) (A.2.2.2.2.2 n) (kGs A n) e) (kGb n 0 (A.2.2.2.2.2 n) eb) → sg_g σ' 116 = kCg n (A.2.2.2.2.2 n).length e.length (sg_g σ 116) → sg_F [113, 114, 115, 116, 30088, 31088, 38088] σ σ' → Q σ') : V_lookGens σ n Q := by
  have h200 := h.1.2.2.1
  obtain ⟨a1, a2, a3, a4, a5, a6, a7, a8, a9⟩ := h.1.2.2.2 n hn.1 hn.2
  have hn2 : 0 ≤ n ∧ n < 210 := by omega
  generalize hgs : A.2.2.2.2.2 n = gs at *
  generalize hxs : kGs A n = xs at *
  have hxl : xs.length = gs.length := by
    rw [← hxs]; unfold kGs; rw [hgs, List.length_take, List.length_drop]; omega
  have hxj : ∀ (j : Nat) (x : Int), xs[j]? = some x → (A.2.2.2.2.1 n)[1 + j]? = some x := fun j x hj => by
    rw [← hxs] at hj
    unfold kGs at hj
    rw [List.getElem?_take] at hj
    split at hj
    · rw [List.getElem?_drop] at hj; exact hj
    · cases hj
  have hkt : ∀ (j : Nat) (x : Int), xs[j]? = some x → p_kidType σ n (1 + (j : Int)) ∧ v_kidType σ n (1 + (j : Int)) = sg_g σ 101 x := fun j x hj => by
    have hj2 := hxj j x hj
    have hl : 1 + j < (A.2.2.2.2.1 n).length := by
      rcases Nat.lt_or_ge (1 + j) (A.2.2.2.2.1 n).length with q | q
      · exact q
      · rw [List.getElem?_eq_none q] at hj2; cases hj2
    have t := trT_kid h hn hl
    rw [show ((1 + j : Nat) : Int) = 1 + (j : Int) by omega] at t
    refine ⟨t.1, ?_⟩
    have t2 := t.2
    rw [List.getElem?_map, hj2] at t2
    exact (Option.some.inj t2).symm
  have hws : ∀ (j : Nat), (gs.map (·.1))[j]? = if j < gs.length then some (sg_gl σ 99 (4 * n + j)) else none := fun j => by
    by_cases c : j < gs.length
    · rw [if_pos c, List.getElem?_map, List.getElem?_eq_getElem c]
      rw [(a9 j _ (List.getElem?_eq_getElem c)).1]; rfl
    · rw [if_neg c]; exact List.getElem?_eq_none (by rw [List.length_map]; omega)
  have hwl : (gs.map (·.1)).length = gs.length := List.length_map _
  generalize hw : gs.map (·.1) = ws at *
  unfold V_lookGens
  rw [a7]
  refine ⟨fun m v1 σ2 => ∃ v : Nat, v1 = v ∧ m = gs.length - v ∧ 1 ≤ v ∧ (v ≤ gs.length ∨ v = 1) ∧ ((sg_g σ2 88 29 = 0 ∧ (ws.take v).Nodup) ∨ (¬ sg_g σ2 88 29 = 0 ∧ ¬ ws.Nodup)), fun σ2 => (sg_g σ2 88 29 = 0 ∧ ws.Nodup) ∨ (¬ sg_g σ2 88 29 = 0 ∧ ¬ ws.Nodup), ⟨_, 1, rfl, rfl, Nat.le_refl _, Or.inr rfl, Or.inl ⟨hF, ?_⟩⟩, ?_, ?_⟩
  · match ws with
    | [] => simp
    | _ :: _ => simp
  · rintro m v1 σ2 rv fr ⟨v, rfl, em, v1, v2, hi⟩
    refine ⟨hn2, fun c => ?_, fun c => ?_⟩
    · rw [List.take_of_length_le (by omega)] at hi
      exact hi
    · have hwv := hws v
      rw [if_pos (by omega)] at hwv
      refine ⟨fun m' x σ3 => ∃ i : Nat, x = i ∧ m' = v - i ∧ i ≤ v ∧ ((sg_g σ3 88 29 = 0 ∧ (ws.take v).Nodup ∧ ∀ j : Nat, j < i → ¬ ws[j]? = some (sg_gl σ 99 (4 * n + v))) ∨ (¬ sg_g σ3 88 29 = 0 ∧ ¬ ws.Nodup)), fun σ3 => ((sg_g σ3 88 29 = 0 ∧ (ws.take (v + 1)).Nodup) ∨ (¬ sg_g σ3 88 29 = 0 ∧ ¬ ws.Nodup)), ⟨_, 0, rfl, rfl, Nat.zero_le _, ?_⟩, ?_, ?_⟩
      · rcases hi with ⟨x1, x2⟩ | x
        · exact Or.inl ⟨x1, x2, fun j hj => by omega⟩
        · exact Or.inr x
      · rintro m' x σ3 rx fr3 ⟨i, rfl, em', hiv, hi3⟩
        refine ⟨fun c2 => ?_, fun c2 => ⟨⟨by omega, by omega⟩, ⟨by omega, by omega⟩, ⟨by omega, by omega⟩, ⟨by omega, by omega⟩, ⟨by omega, by omega⟩, fun d => ⟨⟨by omega, by omega⟩, _, ?_, i + 1, by omega, rfl, by omega, ?_⟩, fun d => q_wrong (by decide) (fun σ4 y1 y2 _ => ⟨⟨by omega, by omega⟩, _, ?_, i + 1, by omega, rfl, by omega, Or.inr ⟨y1, ?_⟩⟩)⟩⟩
        · rcases hi3 with ⟨x1, x2, x3⟩ | x
          · exact Or.inl ⟨x1, (nd_take hwv).mpr ⟨x2, fun j hj => x3 j (by omega)⟩⟩
          · exact Or.inr x
        · omega
        · rcases hi3 with ⟨x1, x2, x3⟩ | x
          · refine Or.inl ⟨x1, x2, fun j hj => ?_⟩
            by_cases e2 : j = i
            · subst e2
              rw [hws j, if_pos (by omega)]
              exact fun z => d (Option.some.inj z)
            · exact x3 j (by omega)
          · exact Or.inr x
        · omega
        · refine nd_sub (v := v + 1) (fun z => ((nd_take hwv).mp z).2 i (by omega) ?_)
          rw [hws i, if_pos (by omega), d]
      · intro σ3 fr3 hx
        exact ⟨⟨by omega, by omega⟩, _, (by omega : gs.length - (v + 1) < m), v + 1, by omega, rfl, by omega, Or.inl (by omega), hx⟩
  · intro σ2 fr hx
    refine ⟨fun m v1 σ3 => ∃ v : Nat, v1 = v ∧ m = gs.length - v ∧ v ≤ gs.length ∧ ((sg_g σ3 88 29 = 0 ∧ ws.Nodup ∧ ∀ (j : Nat) (x : Int), j < v → xs[j]? = some x → 0 < sg_g σ 101 x) ∨ (¬ sg_g σ3 88 29 = 0 ∧ kGens (sg_g σ 101) gs xs = false)), fun σ3 => (sg_g σ3 88 29 = 0 ∧ kGens (sg_g σ 101) gs xs = true) ∨ (¬ sg_g σ3 88 29 = 0 ∧ kGens (sg_g σ 101) gs xs = false), ⟨_, 0, rfl, rfl, Nat.zero_le _, ?_⟩, ?_, ?_⟩
    · rcases hx with ⟨x1, x2⟩ | ⟨x1, x2⟩
      · exact Or.inl ⟨x1, x2, fun j x hj => by omega⟩
      · refine Or.inr ⟨x1, ?_⟩
        unfold kGens
        rw [hw, decide_eq_false x2]; rfl
    · rintro m v1 σ3 rv fr3 ⟨v, rfl, em, hv, hi⟩
      refine ⟨hn2, fun c => ?_, fun c => ?_⟩
      · rcases hi with ⟨x1, x2, x3⟩ | x
        · refine Or.inl ⟨x1, ?_⟩
          unfold kGens
          rw [hw, decide_eq_true x2, Bool.true_and, List.all_eq_true]
          intro x hx
          obtain ⟨j, hj⟩ := List.getElem?_of_mem hx
          have hj2 : j < xs.length := by
            rcases Nat.lt_or_ge j xs.length with q | q
            · exact q
            · rw [List.getElem?_eq_none q] at hj; cases hj
          exact decide_eq_true (x3 j x (by omega) hj)
        · exact Or.inr x
      · obtain ⟨x, hx⟩ : ∃ x, xs[v]? = some x := ⟨_, List.getElem?_eq_getElem (by omega)⟩
        obtain ⟨t1, t2⟩ := hkt v x hx
        have tx := ht x (List.mem_of_getElem? hx)
        have fin : ∀ σ4, ((sg_g σ4 88 29 = 0 ∧ ws.Nodup ∧ ∀ (j : Nat) (x : Int), j < v + 1 → xs[j]? = some x → 0 < sg_g σ 101 x) ∨ (¬ sg_g σ4 88 29 = 0 ∧ kGens (sg_g σ 101) gs xs = false)) → sg_R ((v : Int) + 1) ∧ ∃ m', m' < m ∧ ∃ w : Nat, (v : Int) + 1 = w ∧ m' = gs.length - w ∧ w ≤ gs.length ∧ ((sg_g σ4 88 29 = 0 ∧ ws.Nodup ∧ ∀ (j : Nat) (x : Int), j < w → xs[j]? = some x → 0 < sg_g σ 101 x) ∨ (¬ sg_g σ4 88 29 = 0 ∧ kGens (sg_g σ 101) gs xs = false)) := fun σ4 hh => ⟨⟨by omega, by omega⟩, gs.length - (v + 1), by omega, v + 1, by omega, rfl, by omega, hh⟩
        refine ⟨⟨by omega, by omega⟩, t1, fun σ4 => (sg_g σ4 88 29 = 0 ∧ ws.Nodup ∧ ∀ (j : Nat) (x : Int), j < v + 1 → xs[j]? = some x → 0 < sg_g σ 101 x) ∨ (¬ sg_g σ4 88 29 = 0 ∧ kGens (sg_g σ 101) gs xs = false), ⟨fun d => ?_, fun d => q_wrong (by decide) (fun σ4 y1 y2 _ => Or.inr ⟨y1, ?_⟩)⟩, fun σ4 _ hh => fin σ4 hh⟩
        · rcases hi with ⟨x1, x2, x3⟩ | y
          · refine Or.inl ⟨x1, x2, fun j y hj hy => ?_⟩
            by_cases e2 : j = v
            · subst e2
              rw [hx] at hy
              cases hy
              rw [t2] at d
              have := tx.1
              omega
            · exact x3 j y (by omega) hy
          · exact Or.inr y
        · unfold kGens
          rw [Bool.and_eq_false_iff]
          right
          rw [List.all_eq_false]
          refine ⟨x, List.mem_of_getElem? hx, ?_⟩
          rw [t2] at d
          rw [d]; decide
    · intro σ3 fr3 hx3
      have he3 : kPs σ3 e eb := kPs_F he (sg_F_t fr fr3) rfl
      have c3 : sg_g σ3 116 = sg_g σ 116 := funext fun _ => sg_F_ga (sg_F_t fr fr3) rfl
      refine ⟨fun m v1 σ4 => ∃ (v : Nat) (ev evb : kE), v1 = v ∧ m = gs.length - v ∧ v ≤ gs.length ∧ sg_g σ4 88 29 = sg_g σ3 88 29 ∧ kPs σ4 ev evb ∧ ev.length = e.length + v ∧ kBind (sg_g σ 101) (gs.drop v) (xs.drop v) ev = kBind (sg_g σ 101) gs xs e ∧ kGb n v (gs.drop v) evb = kGb n 0 gs eb ∧ sg_g σ4 116 = kCg n v e.length (sg_g σ 116), fun σ4 => sg_g σ4 88 29 = sg_g σ3 88 29 ∧ kPs σ4 (kBind (sg_g σ 101) gs xs e) (kGb n 0 gs eb) ∧ sg_g σ4 116 = kCg n gs.length e.length (sg_g σ 116), ⟨_, 0, e, eb, rfl, rfl, Nat.zero_le _, rfl, he3, rfl, rfl, rfl, c3⟩, ?_, ?_⟩
      · rintro m v1 σ4 rv fr4 ⟨v, ev, evb, rfl, em, hv, hf4, hp, hl, hb, hbb, hC⟩
        refine ⟨hn2, fun c => ?_, fun c => ?_⟩
        · refine ⟨hf4, ?_, by rw [hC, show v = gs.length by omega]⟩
          rw [List.drop_eq_nil_of_le (show gs.length ≤ v by omega)] at hb hbb
          simp only [kBind] at hb
          simp only [kGb] at hbb
          rw [← hb, ← hbb]; exact hp
        · obtain ⟨x, hx⟩ : ∃ x, xs[v]? = some x := ⟨_, List.getElem?_eq_getElem (by omega)⟩
          obtain ⟨y, hy⟩ : ∃ y, gs[v]? = some y := ⟨_, List.getElem?_eq_getElem (by omega)⟩
          obtain ⟨t1, t2⟩ := hkt v x hx
          have tx := ht x (List.mem_of_getElem? hx)
          have dx : xs.drop v = x :: xs.drop (v + 1) := by
            have hl2 : v < xs.length := by omega
            rw [List.drop_eq_getElem_cons hl2]
            rw [List.getElem?_eq_getElem hl2] at hx
            rw [Option.some.inj hx]
          have dy : gs.drop v = y :: gs.drop (v + 1) := by
            have hl2 : v < gs.length := by omega
            rw [List.drop_eq_getElem_cons hl2]
            rw [List.getElem?_eq_getElem hl2] at hy
            rw [Option.some.inj hy]
          rw [dx, dy] at hb
          rw [dy] at hbb
          simp only [kBind] at hb
          simp only [kGb] at hbb
          have tx1 := tx.1
          have tx2 := tx.2
          rw [t2, (a9 v y hy).1]
          refine ⟨⟨by omega, by omega⟩, ⟨by omega, by omega⟩, ⟨by omega, by omega⟩, ⟨⟨by omega, by omega⟩, ⟨by omega, by omega⟩, ⟨by omega, by omega⟩, trivial⟩, ⟨by omega, by omega⟩, t1, ⟨by omega, by omega⟩, q_knowC hp (by omega) (by rw [← (a9 v y hy).1]; exact sg_Rgl _ _ _) ⟨by omega, by omega⟩ (by unfold v_ofGen; omega) (fun σ5 y1 yC y2 _ => ⟨⟨by omega, by omega⟩, gs.length - (v + 1), by omega, v + 1, _, _, by omega, rfl, by omega, ?_, y1, ?_, hb, ?_, ?_⟩)⟩
          · rw [sg_F_g y2 (by rfl)]; exact hf4
          · simp only [List.length_cons]; omega
          · unfold v_ofGen
            exact hbb
          · rw [yC, hC, hl]
            unfold v_ofGen
            rfl
      · rintro σ4 fr4 ⟨hf4, hp, hC⟩
        have f : sg_F [113, 114, 115, 116, 30088, 31088, 38088] σ σ4 := sg_F_t (sg_F_m (sg_F_t fr fr3) rfl) (sg_F_m fr4 rfl)
        rcases hx3 with ⟨x1, x2⟩ | ⟨x1, x2⟩
        · exact k2 σ4 x2 (hf4.trans x1) hp hC f
        · exact k1 σ4 x2 (fun z => x1 (hf4.symm.trans z)) f
theorem kCb_end {A : aT} {e : kE} {C : Int → Int} {n : Int} {s : Nat} (hw : nW A n) (hs : s = (kOrd A n).length) : kCb A e n s C = C := by
  obtain ⟨n1, n2, n3, n4, n5, n6, n7, n8⟩ := hw
  rw [kOrd_len] at hs
  refine kCb_no ⟨fun x => ?_, fun x => ?_⟩
  · have := n3 (Or.inl x.1); omega
  · have := n7 x.1; omega
def c4kI (A : aT) (ds : kD) (r : Option ((Int → Int) × (Int → Int))) (k : Nat) (σ : sg_S) : Prop := (sg_g σ 88 29 = 0 ∧ ∃ m c p e eb, k = m + 1 ∧ kRp σ p e eb ∧ c4kRun A ds r 272 m c p e (sg_g σ 101) (sg_g σ 116)) ∨ (¬ sg_g σ 88 29 = 0 ∧ r = none)
theorem c4kRun_inv {A : aT} {ds : kD} {r : Option ((Int → Int) × (Int → Int))} {cm m c : Nat} {n s' : Int} {p : List (Int × Int)} {e : kE} {T C : Int → Int} (h : c4kRun A ds r cm m c ((n, s') :: p) e T C) : ∃ s : Nat, s' = s ∧ kNd A T n s ∧ e.length ≤ 250 ∧ p.length ≤ 400 ∧ ((A.2.1 n = 15 ∧ s = (A.2.2.2.2.2 n).length ∧ kGens T (A.2.2.2.2.2 n) (kGs A n) = false) → r = none ∧ (kBd A T e n s).length + c ≤ 272 + e.length) ∧ (¬ (A.2.1 n = 15 ∧ s = (A.2.2.2.2.2 n).length ∧ kGens T (A.2.2.2.2.2 n) (kGs A n) = false) → (∃ x m', m = m' + 1 ∧ (kOrd A n)[s]? = some x ∧ ¬ x = n ∧ (∀ y ∈ p, ¬ y.1 = x) ∧ e.length ≤ (kBd A T e n s).length ∧ (kBd A T e n s).length + c ≤ 272 + e.length ∧ c4kRun A ds r cm m' (c + ((kBd A T e n s).length - e.length)) ((x, 0) :: (n, ((s + 1 : Nat) : Int)) :: p) (kBd A T e n s) T (kCb A e n s C)) ∨ (s = (kOrd A n).length ∧ kBn A n ≤ e.length ∧ ((∀ q ∈ e.drop (kBn A n), kIn q.2) ∧ kDi ds T) ∧ ((kTy A ds T (e.drop (kBn A n)) n ((A.2.2.2.2.1 n).map T) = none ∧ r = none) ∨ ∃ ty m', m = m' + 1 ∧ kTy A ds T (e.drop (kBn A n)) n ((A.2.2.2.2.1 n).map T) = some ty ∧ c4kRun A ds r cm m' c p (e.drop (kBn A n)) (aU T n ty) C))) := by
  have nog : ∀ s : Nat, kNd A T n s → s = (kOrd A n).length → ¬ (A.2.1 n = 15 ∧ s = (A.2.2.2.2.2 n).length ∧ kGens T (A.2.2.2.2.2 n) (kGs A n) = false) := fun s a d x => by
    obtain ⟨n1, n2, n3, n4, n5, n6, n7, n8⟩ := a.2.1
    have n7 := n7 x.1
    rw [kOrd_len] at d
    have := x.2.1
    omega
  have two : c4kSt A ds r cm c ((n, s') :: p) e T C ∨ ∃ m', m = m' + 1 ∧ c4kSp A ds (c4kRun A ds r cm m') c ((n, s') :: p) e T C := by
    cases m with
    | zero => exact Or.inl h
    | succ m' =>
      rcases h with h | h
      · exact Or.inl h
      · exact Or.inr ⟨m', rfl, h⟩
  clear h
  rcases two with h | ⟨m', rfl, n', s, p', h0, a, b, cc, h9⟩
  · rcases h with ⟨h, -⟩ | ⟨n', s, p', h0, a, b, cc, h9⟩
    · cases h
    · cases h0
      rcases h9 with ⟨d, e1, f, g, h⟩ | ⟨d, e0, e2, e1, f⟩
      · exact ⟨s, rfl, a, b, cc, fun _ => ⟨h, g⟩, fun x => absurd ⟨d, e1, f⟩ x⟩
      · exact ⟨s, rfl, a, b, cc, fun x => absurd x (nog s a d), fun _ => Or.inr ⟨d, e0, e2, Or.inl ⟨e1, f⟩⟩⟩
  · cases h0
    rcases h9 with ⟨x, d, e1, x1, x2, x3, x4, f⟩ | ⟨ty, d, e0, e2, e1, f⟩
    · exact ⟨s, rfl, a, b, cc, fun x => (by rw [d x.1 x.2.1] at x; cases x.2.2), fun _ => Or.inl ⟨x, m', rfl, e1, x1, x2, x3, x4, f⟩⟩
    · exact ⟨s, rfl, a, b, cc, fun x => absurd x (nog s a d), fun _ => Or.inr ⟨d, e0, e2, Or.inr ⟨ty, m', rfl, e1, f⟩⟩⟩
theorem c4kRun_0 {A : aT} {ds : kD} {r : Option ((Int → Int) × (Int → Int))} {cm m c : Nat} {e : kE} {T C : Int → Int} (h : c4kRun A ds r cm m c [] e T C) : r = some (T, C) ∧ c ≤ cm := by
  have stp : c4kSt A ds r cm c [] e T C → r = some (T, C) ∧ c ≤ cm := fun h => by
    rcases h with ⟨-, a, b⟩ | ⟨n', s, p', h0, -⟩
    · exact ⟨b, a⟩
    · cases h0
  cases m with
  | zero => exact stp h
  | succ m =>
    rcases h with h | ⟨n', s, p', h0, -⟩
    · exact stp h
    · cases h0
theorem q_lookThroughC {σ : sg_S} {A : aT} {ds : kD} {e eb : kE} {n : Int} {Q : sg_S → Prop} (h : trT σ A) (hc : cT A 0 n) (hlen : ∀ L : List Int, L.Nodup → (∀ x ∈ L, 0 ≤ x ∧ x < A.1) → L.length ≤ 200) (hF : sg_g σ 88 29 = 0) (he : kPs σ e eb) (hel : e.length ≤ 50) (hei : ∀ q ∈ e, kIn q.2) (hdi : kDi ds (sg_g σ 101)) (hd : dsR σ (sg_g σ 88 45) ds) (hl : ds.length ≤ 12) (hr : ∀ d ∈ ds, 0 ≤ d.2.2 ∧ d.2.2 < A.1) (k1 : ∀ σ', kGo A ds 201 e n (sg_g σ 101) = none → ¬ sg_g σ' 88 29 = 0 → sg_F [101, 102, 113, 114, 115, 116, 117, 118, 30088, 31088, 38088, 43088] σ σ' → Q σ') (k2 : ∀ σ', kGo A ds 201 e n (sg_g σ 101) = some (sg_g σ' 101) → sg_g σ' 116 = kCo A 201 e.length n (sg_g σ 116) → sg_g σ' 88 29 = 0 → sg_F [101, 102, 113, 114, 115, 116, 117, 118, 30088, 31088, 38088, 43088] σ σ' → Q σ') : V_lookThrough σ n Q := by
  have h200 := h.1.2.2.1
  obtain ⟨L, hL1, hL2, hL3⟩ := hc
  have hLl := hlen L hL2 hL3
  have hnn : 0 ≤ n ∧ n < A.1 := hL3 n (fT_sub hL1 n (by simp))
  obtain ⟨r, hr1, hr2, hr3⟩ : ∃ r : Option ((Int → Int) × (Int → Int)), (kGo A ds 201 e n (sg_g σ 101) = none → r = none) ∧ (∀ T1, kGo A ds 201 e n (sg_g σ 101) = some T1 → r = some (T1, kCo A 201 e.length n (sg_g σ 116))) ∧ (r = none → kGo A ds 201 e n (sg_g σ 101) = none) := by
    cases kGo A ds 201 e n (sg_g σ 101) with
    | none => exact ⟨none, fun _ => rfl, fun T1 z => (by cases z), fun _ => rfl⟩
    | some T1 => exact ⟨some (T1, kCo A 201 e.length n (sg_g σ 116)), fun z => (by cases z), fun T2 z => (by cases z; rfl), fun z => (by cases z)⟩
  have run0 : c4kRun A ds r 272 (0 + (2 * L.length - 1)) 0 [(n, 0)] e (sg_g σ 101) (sg_g σ 116) := c4kNL_all A ds 201 _ 272 0 0 n L [] e (sg_g σ 101) (sg_g σ 116) hL1 hL3 hL2 (by simp) (by omega) (by omega) (by simp only [List.length_nil]; omega) (by omega) hdi hei hr1 (fun T1 c' x _ _ => c4kRun_nil 0 c' e T1 _ (by omega) (hr2 T1 x))
  have k1' : ∀ σ', r = none → ¬ sg_g σ' 88 29 = 0 → sg_F [101, 102, 113, 114, 115, 116, 117, 118, 30088, 31088, 38088, 43088] σ σ' → Q σ' := fun σ' z => k1 σ' (hr3 z)
  have k2' : ∀ σ', r = some (sg_g σ' 101, sg_g σ' 116) → sg_g σ' 88 29 = 0 → sg_F [101, 102, 113, 114, 115, 116, 117, 118, 30088, 31088, 38088, 43088] σ σ' → Q σ' := fun σ' z => by
    cases hg : kGo A ds 201 e n (sg_g σ 101) with
    | none => rw [hr1 hg] at z; cases z
    | some T1 =>
      have z2 := hr2 T1 hg
      rw [z] at z2
      have z3 := Prod.mk.inj (Option.some.inj z2)
      exact k2 σ' (by rw [hg, z3.1]) z3.2
  clear k1 k2 hr1 hr2 hr3
  unfold V_lookThrough
  intro σ1 e1 σ4 e4 σ7 e7
  have f7 : sg_F [101, 102, 113, 114, 115, 116, 117, 118, 30088, 31088, 38088, 43088] σ σ7 := by
    rw [e7, e4, e1]; exact sg_F_w (sg_F_w (sg_F_w (sg_F_r _ _) rfl _) rfl _) rfl _
  have f7' : sg_F [117, 118, 43088] σ σ7 := by
    rw [e7, e4, e1]; exact sg_F_w (sg_F_w (sg_F_w (sg_F_r _ _) rfl _) rfl _) rfl _
  refine ⟨c4kI A ds r, fun σ10 => (sg_g σ10 88 29 = 0 ∧ r = some (sg_g σ10 101, sg_g σ10 116)) ∨ (¬ sg_g σ10 88 29 = 0 ∧ r = none), ⟨(0 + (2 * L.length - 1)) + 1, Or.inl ⟨?_, 0 + (2 * L.length - 1), 0, [(n, 0)], e, eb, rfl, ⟨⟨?_, ?_, ?_, ?_⟩, ?_⟩, ?_⟩⟩, ?_, ?_⟩
  · rw [sg_F_g f7' (by rfl)]; exact hF
  · rw [e7, sg_gw_c _ _ _ _ _ _ (by decide), e4, sg_gw_c _ _ _ _ _ _ (by decide), e1, sg_gw_e _ _ _ _ (by decide)]; decide
  · rw [e7, sg_gw_c _ 118 88 _ _ _ (by decide), sg_gw_c _ _ _ _ _ _ (by decide), e4, sg_gw_c _ 117 88 _ _ _ (by decide), e1, sg_gw_e _ _ _ _ (by decide)]
    exact sg_gw_e _ _ _ _ ⟨by omega, by omega⟩
  · rw [e7, sg_gw_c _ 118 88 _ _ _ (by decide), e4, sg_gw_c _ 117 88 _ _ _ (by decide), e1, sg_gw_e _ _ _ _ (by decide)]
    exact sg_gw_e _ _ _ _ (by decide)
  · rw [e7, sg_gw_c _ 118 88 _ _ _ (by decide), e4, sg_gw_c _ 117 88 _ _ _ (by decide), e1, sg_gw_e _ _ _ _ (by decide)]
    rfl
  · exact kPs_F he f7' rfl
  · rw [show sg_g σ7 101 = sg_g σ 101 from funext fun _ => sg_F_ga f7' rfl, show sg_g σ7 116 = sg_g σ 116 from funext fun _ => sg_F_ga f7' rfl]
    exact run0
  · rintro k σ10 fr hI
    have f10 := sg_F_t f7 fr
    refine ⟨fun c => ?_, fun c => ⟨fun d => ?_, fun d => ?_⟩⟩
    · rcases hI with ⟨i1, m, c0, p, ee, eeb, i2, ⟨i3, i4⟩, i5⟩ | i
      · have := pst_n i3
        cases p with
        | nil => exact Or.inl ⟨i1, (c4kRun_0 i5).1⟩
        | cons x p => simp only [List.length_cons] at this; omega
      · exact Or.inr i
    · rcases hI with ⟨i1, -⟩ | i
      · exact absurd i1 d
      · exact Or.inr i
    · rcases hI with ⟨i1, m, c0, p0, e0, eb0, rfl, ⟨i3, i4⟩, i5⟩ | ⟨i, -⟩
      rotate_left
      · exact absurd d i
      cases p0 with
      | nil => have := pst_n i3; simp only [List.length_nil] at this; omega
      | cons y p =>
        obtain ⟨q, s'⟩ := y
        obtain ⟨s, rfl, hnd, b1, b2, g1, g2⟩ := c4kRun_inv i5
        have pn := pst_n i3
        simp only [List.length_cons] at pn
        obtain ⟨p1, p2, p3, p4⟩ := i3
        simp only at p2 p3
        rw [p2, p3]
        obtain ⟨hq, hw, hso, hst⟩ := hnd
        have t10 := trT_F h f10 rfl
        obtain ⟨a1, a2, a3, a4, a5, a6, a7, a8, a9⟩ := h.1.2.2.2 q hq.1 hq.2
        obtain ⟨n1, n2, n3, n4, n5, n6, n7, n8⟩ := hw
        have hw : nW A q := ⟨n1, n2, n3, n4, n5, n6, n7, n8⟩
        have hkl := kOrd_len A q
        have hpt := q_part h hq hw hso
        rw [a1, a7]
        generalize hT : sg_g σ10 101 = T at *
        generalize hTB : sg_g σ10 116 = TB at *
        have en := pst_n i4.1
        refine ⟨⟨by omega, by omega⟩, ⟨by omega, by omega⟩, ⟨by omega, by omega⟩, fun σ31 => sg_g σ31 88 29 = 0 ∧ kPs σ31 (if A.2.1 q = 2 ∧ s = 1 then (A.2.2.2.1 q, T ((A.2.2.2.2.1 q).getD 0 0)) :: e0 else e0) (if A.2.1 q = 2 ∧ s = 1 then (A.2.2.2.1 q, q) :: eb0 else eb0) ∧ sg_g σ31 116 = (if A.2.1 q = 2 ∧ s = 1 then aU TB q (e0.length : Int) else TB), ⟨fun c2 => ⟨d, ?_, ?_⟩, fun c2 => ⟨fun c3 => ⟨d, ?_, ?_⟩, fun c3 => ?_⟩⟩, ?_⟩
        · rw [if_neg (fun x => c2 x.1), if_neg (fun x => c2 x.1)]; exact i4
        · rw [if_neg (fun x => c2 x.1)]; exact hTB
        · rw [if_neg (fun x => c3 (by omega)), if_neg (fun x => c3 (by omega))]; exact i4
        · rw [if_neg (fun x => c3 (by omega))]; exact hTB
        · have l2 := n3 (Or.inl c2)
          have t := trT_kid t10 hq (j := 0) (by omega)
          have t1 := t.1
          have t2 := t.2
          rw [show ((0 : Nat) : Int) = 0 from rfl] at t1 t2
          have e0' : v_kidType σ10 q 0 = T ((A.2.2.2.2.1 q).getD 0 0) := by
            rw [List.getElem?_map, hT] at t2
            cases hz : (A.2.2.2.2.1 q)[0]? with
            | none => rw [hz] at t2; cases t2
            | some z =>
              rw [hz] at t2
              rw [List.getD_eq_getElem?_getD, hz]
              exact (Option.some.inj t2).symm
          refine ⟨t1, q_knowC i4 (by omega) (sg_Rgl _ _ _) (sg_Rg _ _ _) ⟨by omega, by omega⟩ (fun σ98 x1 xC x2 _ => ⟨?_, ?_, ?_⟩)⟩
          · rw [sg_F_g x2 (by rfl)]; exact d
          · rw [if_pos ⟨c2, by omega⟩, if_pos ⟨c2, by omega⟩, ← e0', ← a3]; exact x1
          · rw [if_pos ⟨c2, by omega⟩, xC, hTB]
        · rintro σ31 fr31 ⟨d31, e31, C31⟩
          have t31 := trT_F t10 fr31 rfl
          have T31 : sg_g σ31 101 = T := by rw [← hT]; exact funext fun _ => sg_F_ga fr31 rfl
          refine ⟨fun σ37 => (sg_g σ37 88 29 = 0 ∧ (kPs σ37 (kBd A T e0 q s) (kBb A eb0 q s) ∧ sg_g σ37 116 = kCb A e0 q s TB) ∧ ¬ (A.2.1 q = 15 ∧ s = (A.2.2.2.2.2 q).length ∧ kGens T (A.2.2.2.2.2 q) (kGs A q) = false)) ∨ (¬ sg_g σ37 88 29 = 0 ∧ r = none), ⟨fun c2 => Or.inl ⟨d31, ⟨?_, ?_⟩, fun x => c2 x.1⟩, fun c2 => ⟨fun c3 => Or.inl ⟨d31, ⟨?_, ?_⟩, fun x => c3 (by omega)⟩, fun c3 => ?_⟩⟩, ?_⟩
          · unfold kBd kBb
            by_cases c : A.2.1 q = 2 ∧ s = 1
            · rw [if_pos c, if_pos c] at e31
              rw [if_pos c, if_pos c]; exact e31
            · rw [if_neg c, if_neg c] at e31
              rw [if_neg c, if_neg c, if_neg (fun x => c2 x.1), if_neg (fun x => c2 x.1)]; exact e31
          · rw [C31]
            unfold kCb
            by_cases c : A.2.1 q = 2 ∧ s = 1
            · rw [if_pos c, if_pos c]
            · rw [if_neg c, if_neg c, if_neg (fun x => c2 x.1)]
          · have c9 : ¬ (A.2.1 q = 2 ∧ s = 1) := fun x => by omega
            have c8 : ¬ (A.2.1 q = 15 ∧ s = (A.2.2.2.2.2 q).length) := fun x => c3 (by omega)
            unfold kBd kBb
            rw [if_neg c9, if_neg c9] at e31
            rw [if_neg c9, if_neg c9, if_neg c8, if_neg c8]; exact e31
          · have c9 : ¬ (A.2.1 q = 2 ∧ s = 1) := fun x => by omega
            have c8 : ¬ (A.2.1 q = 15 ∧ s = (A.2.2.2.2.2 q).length) := fun x => c3 (by omega)
            rw [C31]
            unfold kCb
            rw [if_neg c9, if_neg c9, if_neg c8]
          · have l7 := n7 c2
            have c9 : ¬ (A.2.1 q = 2 ∧ s = 1) := fun x => by omega
            rw [if_neg c9, if_neg c9] at e31
            have hgx : ∀ x ∈ kGs A q, x ∈ (kOrd A q).take s := fun x hx => by
              unfold kGs at hx
              unfold kOrd
              rw [if_pos c2, List.take_append_of_le_length (by rw [List.length_drop]; omega), show s = (A.2.2.2.2.2 q).length by omega]
              exact hx
            refine q_lookGensC t31 hq d31 (by omega) (fun x hx => by rw [T31]; exact hst x (hgx x hx)) e31 b1 (fun σ' x1 x2 x3 _ => ?_) (fun σ' x1 x2 x3 xC x4 _ => ?_)
            · rw [T31] at x1
              exact Or.inr ⟨x2, (g1 ⟨c2, by omega, x1⟩).1⟩
            · rw [T31] at x1 x3
              have c8 : A.2.1 q = 15 ∧ s = (A.2.2.2.2.2 q).length := ⟨c2, by omega⟩
              refine Or.inl ⟨x2, ⟨?_, by rw [xC, C31, if_neg c9]; unfold kCb; rw [if_neg c9, if_pos c8]⟩, fun z => by rw [x1] at z; cases z.2.2⟩
              unfold kBd kBb
              rw [if_neg c9, if_neg c9, if_pos c8, if_pos c8]
              exact x3
          · intro σ37 fr37 h37
            refine ⟨hpt.1, ⟨by omega, by omega⟩, fun σ43 e43 => ?_⟩
            have f37 : sg_F [113, 114, 115, 116, 30088, 31088, 38088] σ10 σ37 := sg_F_t (sg_F_m fr31 rfl) fr37
            have f43 : sg_F [113, 114, 115, 116, 30088, 31088, 38088, 118] σ10 σ43 := by rw [e43]; exact sg_F_w (sg_F_m f37 rfl) rfl _
            have F43 : sg_F [101, 102, 113, 114, 115, 116, 117, 118, 30088, 31088, 38088, 43088] σ σ43 := sg_F_t f10 (sg_F_m f43 rfl)
            refine ⟨fun d37 => ?_, fun d37 => ?_⟩
            rotate_left
            · rcases h37 with ⟨x, -⟩ | ⟨x1, x2⟩
              · exact absurd x d37
              · refine k1' σ43 x2 ?_ F43
                rw [e43, sg_gw_c _ _ _ _ _ _ (by decide)]; exact d37
            rcases h37 with ⟨-, ⟨e37, C37⟩, ng⟩ | ⟨x1, -⟩
            rotate_left
            · exact absurd d37 x1
            have d43 : sg_g σ43 88 29 = 0 := by rw [e43, sg_gw_c _ _ _ _ _ _ (by decide)]; exact d37
            have e43p : kPs σ43 (kBd A T e0 q s) (kBb A eb0 q s) := by
              refine kPs_F (L := [118]) e37 ?_ rfl
              rw [e43]; exact sg_F_w (sg_F_r _ _) rfl _
            have B43 : sg_g σ43 116 = kCb A e0 q s TB := by rw [← C37, e43]; exact funext fun _ => sg_gw_c _ _ _ _ _ _ (by decide)
            have T43 : sg_g σ43 101 = T := by rw [← hT]; exact funext fun _ => sg_F_ga f43 rfl
            have l43 : sg_g σ43 88 42 = sg_g σ10 88 42 := sg_F_g f43 rfl
            have p43 : pst (sg_g σ43 117) (sg_g σ43 118) (sg_g σ10 88 42) ((q, ((s + 1 : Nat) : Int)) :: p) := by
              refine ⟨p1, ?_, ?_, pst_e p4 (fun j x1 x2 => ⟨sg_F_ga f43 rfl, ?_⟩)⟩
              · rw [sg_F_ga f43 rfl]; exact p2
              · rw [e43, sg_gw_e _ _ _ _ ⟨by omega, by omega⟩]; simp only; omega
              · rw [e43, sg_gw_k _ _ _ _ _ _ (by omega)]
                exact sg_F_ga f37 rfl
            rcases g2 ng with ⟨x, m', rfl, hx, -, -, -, -, hrun⟩ | ⟨hs, kb, -, hty⟩
            · -- one more part
              rcases hpt.2 with ⟨x', hx', hv, hv2⟩ | ⟨hs, -⟩
              rotate_left
              · rw [hs, List.getElem?_eq_none (Nat.le_refl _)] at hx; cases hx
              rw [hx] at hx'
              cases hx'
              have xr : 0 ≤ x ∧ x < A.1 := by
                have : x ∈ A.2.2.2.2.1 q := by
                  have := List.mem_of_getElem? hx
                  unfold kOrd at this
                  split at this
                  · rcases List.mem_append.mp this with z | z
                    · exact List.mem_of_mem_drop z
                    · exact List.mem_of_mem_take z
                  · exact this
                exact h.2 q hq.1 hq.2 x this
              refine ⟨fun σ50 => sg_g σ50 88 29 = 0 ∧ kRp σ50 ((x, 0) :: (q, ((s + 1 : Nat) : Int)) :: p) (kBd A T e0 q s) (kBb A eb0 q s) ∧ sg_g σ50 101 = T ∧ sg_g σ50 116 = kCb A e0 q s TB, ⟨fun z => absurd hv.1 (by omega), fun _ => ⟨⟨by omega, by omega⟩, ⟨by omega, by omega⟩, ⟨by omega, by omega⟩, ⟨by omega, by omega⟩, fun σ77 e77 σ80 e80 => ⟨⟨by omega, by omega⟩, fun σ84 e84 => ?_⟩⟩⟩, ?_⟩
              · rw [hv2] at e77
                have f84 : sg_F [117, 118, 43088] σ43 σ84 := by
                  rw [e84, e80, e77]; exact sg_F_w (sg_F_w (sg_F_w (sg_F_r _ _) rfl _) rfl _) rfl _
                have l84 : sg_g σ84 88 42 = sg_g σ10 88 42 + 1 := by rw [e84, sg_gw_e _ _ _ _ ⟨by omega, by omega⟩]
                refine ⟨?_, ⟨⟨by omega, ?_, ?_, ?_⟩, ?_⟩, ?_, ?_⟩
                · rw [sg_F_g f84 (by rfl)]; exact d43
                · rw [l84, show sg_g σ10 88 42 + 1 - 1 = sg_g σ10 88 42 by omega, e84, sg_gw_c _ _ _ _ _ _ (by decide), e80, sg_gw_c _ _ _ _ _ _ (by decide), e77, sg_gw_e _ _ _ _ ⟨by omega, by omega⟩]
                · rw [l84, show sg_g σ10 88 42 + 1 - 1 = sg_g σ10 88 42 by omega, e84, sg_gw_c _ _ _ _ _ _ (by decide), e80, sg_gw_e _ _ _ _ (by decide)]
                · rw [l84, show sg_g σ10 88 42 + 1 - 1 = sg_g σ10 88 42 by omega]
                  refine pst_e p43 (fun j x1 x2 => ⟨?_, ?_⟩)
                  · rw [e84, sg_gw_c _ _ _ _ _ _ (by decide), e80, sg_gw_c _ _ _ _ _ _ (by decide), e77, sg_gw_k _ _ _ _ _ _ (by omega)]
                  · rw [e84, sg_gw_c _ _ _ _ _ _ (by decide), e80, sg_gw_k _ _ _ _ _ _ (by omega), e77, sg_gw_c _ _ _ _ _ _ (by decide)]
                · exact kPs_F e43p f84 rfl
                · rw [← T43]; exact funext fun _ => sg_F_ga f84 rfl
                · rw [← B43]; exact funext fun _ => sg_F_ga f84 rfl
              · rintro σ50 fr50 ⟨x1, x2, x3, x4⟩
                exact ⟨m' + 1, by omega, Or.inl ⟨x1, m', _, _, _, _, rfl, x2, by rw [x3, x4]; exact hrun⟩⟩
            · -- all parts are done
              rcases hpt.2 with ⟨x', hx', -⟩ | ⟨-, hv⟩
              · rw [hs, List.getElem?_eq_none (Nat.le_refl _)] at hx'; cases hx'
              rw [kBd_end hw hs, kBb_end hw hs] at e43p
              rw [kCb_end hw hs] at B43
              have kbn : ((kBn A q : Nat) : Int) = (if ¬ A.2.1 q = 2 then (if ¬ A.2.1 q = 15 then (0 : Int) else ((A.2.2.2.2.2 q).length : Int)) else 1) := by
                unfold kBn
                by_cases x1 : A.2.1 q = 2
                · rw [if_pos x1, if_neg (fun z => z x1)]; rfl
                · rw [if_neg x1, if_pos x1]
                  by_cases x2 : A.2.1 q = 15
                  · rw [if_pos x2, if_neg (fun z => z x2)]
                  · rw [if_neg x2, if_pos x2]; rfl
              have e37' := e37
              rw [kBd_end hw hs, kBb_end hw hs] at e37'
              have en37 := pst_n e37'.1
              have en37b := pst_n e37'.2
              refine ⟨fun σ50 => (sg_g σ50 88 29 = 0 ∧ ∃ ty m', m = m' + 1 ∧ kRp σ50 p (e0.drop (kBn A q)) (eb0.drop (kBn A q)) ∧ sg_g σ50 101 = aU T q ty ∧ sg_g σ50 116 = TB ∧ c4kRun A ds r 272 m' c0 p (e0.drop (kBn A q)) (aU T q ty) TB) ∨ (¬ sg_g σ50 88 29 = 0 ∧ r = none), ⟨fun _ => ⟨⟨fun _ => ⟨fun _ => trivial, fun _ => trivial⟩, fun _ => trivial⟩, fun v56 e56 r56 => ⟨⟨?_, ?_⟩, fun σ60 e60 => ?_⟩⟩, fun z => absurd z (by omega)⟩, ?_⟩
              · rw [e56, ← kbn]; unfold kBn; repeat' split
                all_goals omega
              · rw [e56, ← kbn]; unfold kBn; repeat' split
                all_goals omega
              · have e56' : v56 = ((kBn A q : Nat) : Int) := by rw [e56, kbn]
                have f60 : sg_F [38088] σ43 σ60 := by rw [e60]; exact sg_F_w (sg_F_r _ _) rfl _
                have t60 := trT_F (trT_F t10 f43 rfl) f60 rfl
                have T60 : sg_g σ60 101 = T := by rw [← T43]; exact funext fun _ => sg_F_ga f60 rfl
                have d60 : sg_g σ60 88 29 = 0 := by rw [sg_F_g f60 (by rfl)]; exact d43
                have F60 : sg_F [101, 102, 113, 114, 115, 116, 117, 118, 30088, 31088, 38088, 43088] σ σ60 := sg_F_t F43 (sg_F_m f60 rfl)
                have B60 : sg_g σ60 116 = TB := by rw [← B43]; exact funext fun _ => sg_F_ga f60 rfl
                have ep60 : kPs σ60 (e0.drop (kBn A q)) (eb0.drop (kBn A q)) := by
                  have y : sg_g σ60 88 37 = sg_g σ37 88 37 - ((kBn A q : Nat) : Int) := by
                    rw [e60, sg_gw_e _ _ _ _ ⟨by omega, by omega⟩, e56']
                  refine ⟨?_, ?_⟩
                  · rw [y]
                    refine pst_e (pst_d (kBn A q) e37'.1 kb) (fun j _ _ => ⟨?_, ?_⟩)
                    · rw [e60, sg_gw', e43, sg_gw']
                    · rw [e60, sg_gw_c _ _ _ _ _ _ (by decide), e43, sg_gw_c _ _ _ _ _ _ (by decide)]
                  · rw [y]
                    refine pst_e (pst_d (kBn A q) e37'.2 (by omega)) (fun j _ _ => ⟨?_, ?_⟩)
                    · rw [e60, sg_gw', e43, sg_gw']
                    · rw [e60, sg_gw_c _ _ _ _ _ _ (by decide), e43, sg_gw_c _ _ _ _ _ _ (by decide)]
                have D60 : dsR σ60 (sg_g σ60 88 45) ds := by
                  rw [sg_F_g F60 (by rfl)]; exact dsR_F hd F60 rfl
                have pil : ∀ σ64, sg_F [101, 102, 30088, 31088] σ60 σ64 → pst (sg_g (sg_w σ64 88 42 (sg_g σ10 88 42 - 1)) 117) (sg_g (sg_w σ64 88 42 (sg_g σ10 88 42 - 1)) 118) (sg_g (sg_w σ64 88 42 (sg_g σ10 88 42 - 1)) 88 42) p := fun σ64 f64 => by
                  rw [sg_gw_e _ _ _ _ ⟨by omega, by omega⟩]
                  refine pst_e p43.2.2.2 (fun j _ _ => ⟨?_, ?_⟩)
                  · rw [sg_gw_c _ _ _ _ _ _ (by decide), sg_F_ga f64 rfl, sg_F_ga f60 rfl]
                  · rw [sg_gw_c _ _ _ _ _ _ (by decide), sg_F_ga f64 rfl, sg_F_ga f60 rfl]
                refine q_lookAt t60 hq (fun y hy => ?_) ep60 (by rw [List.length_drop]; omega) D60 hl hr n4 n1.1 (fun σ64 x1 x2 x3 _ σ69 e69 => ?_) (fun σ64 ty x1 x2 x3 xB x4 _ σ69 e69 => ?_)
                · rw [kTs, T60] at hy
                  obtain ⟨z, hz, rfl⟩ := List.mem_map.mp hy
                  exact hst z (by rw [hs, List.take_length]; exact kOrd_mem hz)
                · rw [T60, kTs, T60] at x1
                  right
                  refine ⟨by rw [e69, sg_gw_k _ _ _ _ _ _ (by decide)]; exact x2, ?_⟩
                  rcases hty with ⟨-, z⟩ | ⟨ty, m', -, z, -⟩
                  · exact z
                  · rw [x1] at z; cases z
                · rw [T60, kTs, T60] at x1
                  left
                  rcases hty with ⟨z, -⟩ | ⟨ty', m', z1, z, z2⟩
                  · rw [x1] at z; cases z
                  · rw [x1] at z
                    cases z
                    refine ⟨?_, ty, m', z1, ⟨?_, ?_⟩, ?_, ?_, z2⟩
                    · rw [e69, sg_gw_k _ _ _ _ _ _ (by decide), sg_F_g x4 (by rfl)]; exact d60
                    · rw [e69]; exact pil σ64 (sg_F_m x4 rfl)
                    · refine kPs_F (L := [43088]) (kPs_F ep60 x4 rfl) ?_ rfl
                      rw [e69]; exact sg_F_w (sg_F_r _ _) rfl _
                    · rw [e69, show sg_g (sg_w σ64 88 42 (sg_g σ10 88 42 - 1)) 101 = sg_g σ64 101 from funext fun _ => sg_gw_c _ _ _ _ _ _ (by decide), x3]
                      funext j
                      by_cases c : j = q
                      · rw [c, sg_gw_e _ _ _ _ x2]; simp only [aU, if_true]
                      · rw [sg_gw_k _ _ _ _ _ _ c, T60]; simp only [aU, c, if_false]
                    · rw [e69, show sg_g (sg_w σ64 88 42 (sg_g σ10 88 42 - 1)) 116 = sg_g σ64 116 from funext fun _ => sg_gw_c _ _ _ _ _ _ (by decide), show sg_g σ64 116 = sg_g σ60 116 from funext fun _ => sg_F_ga x4 rfl, B60]
              · rintro σ50 fr50 (⟨x1, ty, m', rfl, x2, x3, x5, x4⟩ | x)
                · exact ⟨m' + 1, by omega, Or.inl ⟨x1, m', _, _, _, _, rfl, x2, by rw [x3, x5]; exact x4⟩⟩
                · exact ⟨0, by omega, Or.inr x⟩
  · rintro σ10 fr (⟨x1, x2⟩ | ⟨x1, x2⟩)
    · exact k2' σ10 x2 x1 (sg_F_t f7 fr)
    · exact k1' σ10 x2 x1 (sg_F_t f7 fr)
/-! lookDef, look of the reference, with cameAt. -/
/-- cameAt of the PARAMS of the DEF d -/
def kCp (d : Int) : Nat → (Int → Int) → (Int → Int)
  | 0, C => C
  | j + 1, C => aU (kCp d j C) (1100 + 6 * d + (j : Int)) (j : Int)
/-- cameAt behind DEFS -/
def kDC (A : aT) : List aDf → Nat → (Int → Int) → (Int → Int)
  | [], _, C => C
  | x :: r, d, C => kDC A r (d + 1) (kCo A 201 x.2.2.1.length x.2.2.2 (kCp d x.2.2.1.length C))
def kPC (A : aT) (D : List aDf) (q : Int) (C : Int → Int) : Int → Int := kCo A 201 0 q (kDC A D 0 C)
theorem q_lookDefC {σ : sg_S} {A : aT} {D : List aDf} {d : Nat} {x : aDf} {ds : kD} {Q : sg_S → Prop} (h : trT σ A) (hlen : ∀ L : List Int, L.Nodup → (∀ x ∈ L, 0 ≤ x ∧ x < A.1) → L.length ≤ 200) (hD : dfR σ D) (hx : D[d]? = some x) (hW : dW A x) (hd : dsR σ (d : Int) ds) (h45 : sg_g σ 88 45 = d) (hF : sg_g σ 88 29 = 0) (hdi : kDi ds (sg_g σ 101)) (hr : ∀ d ∈ ds, 0 ≤ d.2.2 ∧ d.2.2 < A.1) (k1 : ∀ σ', kDf A ds x (sg_g σ 101) = none → ¬ sg_g σ' 88 29 = 0 → Q σ') (k2 : ∀ σ', kDf A ds x (sg_g σ 101) = some (sg_g σ' 101, (x.1, x.2.2.1.map (·.2.2), x.2.2.2) :: ds) → sg_g σ' 116 = kCo A 201 x.2.2.1.length x.2.2.2 (kCp d x.2.2.1.length (sg_g σ 116)) → sg_g σ' 88 29 = 0 → Q σ') : V_lookDef σ d Q := by
  have hd12 : d < 12 := by
    have := hD.2.1
    rcases Nat.lt_or_ge d D.length with q | q
    · omega
    · rw [List.getElem?_eq_none q] at hx; cases hx
  have hdl := dsR_n hd
  obtain ⟨y1, y2, y3, y4, y5, y6⟩ := hD.2.2 d x hx
  obtain ⟨w1, w2, w3⟩ := hW
  have hno := dsR_no (w := x.1) hd
  have hpw : ∀ (j : Nat), (x.2.2.1.map (·.1))[j]? = if j < x.2.2.1.length then some (sg_gl σ 107 (6 * d + j)) else none := fun j => by
    by_cases c : j < x.2.2.1.length
    · rw [if_pos c, List.getElem?_map, List.getElem?_eq_getElem c]
      rw [(y6 j _ (List.getElem?_eq_getElem c)).1]; rfl
    · rw [if_neg c]; exact List.getElem?_eq_none (by rw [List.length_map]; omega)
  have hkd : kDf A ds x (sg_g σ 101) = (if kDef ds x.1 = none ∧ (x.2.2.1.map (·.1)).Nodup ∧ (∀ p ∈ x.2.2.1, p.2.2 ≤ 3) then (match kGo A ds 201 (kPe x) x.2.2.2 (sg_g σ 101) with
    | none => none
    | some T1 => some (T1, (x.1, x.2.2.1.map (·.2.2), x.2.2.2) :: ds)) else none) := rfl
  generalize hps : x.2.2.1 = ps at *
  have hwl : (ps.map (·.1)).length = ps.length := List.length_map _
  generalize hws : ps.map (·.1) = ws at *
  obtain ⟨ok, hbad, hkt, hkf⟩ : ∃ ok : Prop, (ok ↔ (kDef ds x.1 = none ∧ ws.Nodup ∧ (∀ p ∈ ps, p.2.2 ≤ 3))) ∧ (ok → kDf A ds x (sg_g σ 101) = (match kGo A ds 201 (kPe x) x.2.2.2 (sg_g σ 101) with
    | none => none
    | some T1 => some (T1, (x.1, ps.map (·.2.2), x.2.2.2) :: ds))) ∧ (¬ ok → kDf A ds x (sg_g σ 101) = none) := ⟨_, Iff.rfl, fun z => by rw [hkd, if_pos z], fun z => by rw [hkd, if_neg z]⟩
  unfold V_lookDef
  refine ⟨fun m v σ2 => ∃ j : Nat, v = j ∧ m = d - j ∧ j ≤ d ∧ ((sg_g σ2 88 29 = 0 ∧ ∀ i : Nat, i < j → ¬ sg_gl σ 103 i = x.1) ∨ (¬ sg_g σ2 88 29 = 0 ∧ ¬ kDef ds x.1 = none)), fun σ2 => (sg_g σ2 88 29 = 0 ∧ kDef ds x.1 = none) ∨ (¬ sg_g σ2 88 29 = 0 ∧ ¬ kDef ds x.1 = none), ⟨_, 0, rfl, rfl, Nat.zero_le _, Or.inl ⟨hF, fun i hi => by omega⟩⟩, ?_, ?_⟩
  · rintro m v σ2 rv fr ⟨j, rfl, em, hj, hi⟩
    rw [y1]
    refine ⟨fun c => ?_, fun c => ⟨⟨by omega, by omega⟩, ⟨by omega, by omega⟩, fun e => ⟨⟨by omega, by omega⟩, d - (j + 1), by omega, j + 1, by omega, rfl, by omega, ?_⟩, fun e => q_wrong (by decide) (fun σ3 z1 z2 _ => ⟨⟨by omega, by omega⟩, d - (j + 1), by omega, j + 1, by omega, rfl, by omega, Or.inr ⟨z1, fun z => ?_⟩⟩)⟩⟩
    · rcases hi with ⟨z1, z2⟩ | z
      · refine Or.inl ⟨z1, hno.mpr (fun i a b => ?_)⟩
        obtain ⟨i', rfl⟩ : ∃ i' : Nat, i = i' := ⟨i.toNat, by omega⟩
        exact z2 i' (by omega)
      · exact Or.inr z
    · rcases hi with ⟨z1, z2⟩ | z
      · refine Or.inl ⟨z1, fun i hi => ?_⟩
        by_cases e2 : i = j
        · subst e2; exact e
        · exact z2 i (by omega)
      · exact Or.inr z
    · exact hno.mp z j (by omega) (by omega) e
  · intro σ2 fr2 h2 σ16 e16
    have f16 : sg_F [30088, 31088, 38088] σ σ16 := by rw [e16]; exact sg_F_w (sg_F_m fr2 rfl) rfl _
    have d16 : sg_g σ16 88 29 = sg_g σ2 88 29 := by rw [e16, sg_gw_k _ _ _ _ _ _ (by decide)]
    refine ⟨fun m v σ20 => ∃ j : Nat, v = j ∧ m = ps.length - j ∧ j ≤ ps.length ∧ ((sg_g σ20 88 29 = 0 ∧ kDef ds x.1 = none ∧ (ws.take j).Nodup ∧ (∀ (i : Nat) (p : Int × Int × Int), i < j → ps[i]? = some p → p.2.2 ≤ 3) ∧ ∃ evb, kPs σ20 ((ps.take j).reverse.map (fun p => (p.1, p.2.2))) evb ∧ kPb d j (ps.drop j) evb = kPb d 0 ps [] ∧ sg_g σ20 116 = kCp d j (sg_g σ 116)) ∨ (¬ sg_g σ20 88 29 = 0 ∧ ¬ ok)), fun σ20 => (sg_g σ20 88 29 = 0 ∧ ok ∧ kPs σ20 (kPe x) (kPb d 0 ps []) ∧ sg_g σ20 116 = kCp d ps.length (sg_g σ 116)) ∨ (¬ sg_g σ20 88 29 = 0 ∧ ¬ ok), ⟨_, 0, rfl, rfl, Nat.zero_le _, ?_⟩, ?_, ?_⟩
    · rcases h2 with ⟨z1, z2⟩ | ⟨z1, z2⟩
      · refine Or.inl ⟨by rw [d16]; exact z1, z2, by simp, fun i p hi => by omega, [], ?_, rfl, funext fun _ => sg_F_ga f16 rfl⟩
        simp only [List.take_zero, List.reverse_nil, List.map_nil, kPs, pst]
        rw [e16, sg_gw_e _ _ _ _ (by decide)]
        exact ⟨rfl, rfl⟩
      · refine Or.inr ⟨by rw [d16]; exact z1, fun z => z2 ?_⟩
        exact (hbad.mp z).1
    · rintro m v σ20 rv fr20 ⟨j, rfl, em, hj, hi⟩
      rw [y4]
      refine ⟨⟨by omega, by omega⟩, fun c => ?_, fun c => ⟨fun e => ?_, fun e => ?_⟩⟩
      · rcases hi with ⟨z1, z2, z3, z4, evb, z5, z6, zC⟩ | z
        · rw [List.take_of_length_le (by omega)] at z3 z5
          rw [List.drop_eq_nil_of_le (by omega)] at z6
          simp only [kPb] at z6
          rw [z6] at z5
          refine Or.inl ⟨z1, ?_, ?_, by rw [zC, show j = ps.length by omega]⟩
          · refine hbad.mpr ⟨z2, z3, fun p hp => ?_⟩
            obtain ⟨i, hi⟩ := List.getElem?_of_mem hp
            have hi2 : i < ps.length := by
              rcases Nat.lt_or_ge i ps.length with q | q
              · exact q
              · rw [List.getElem?_eq_none q] at hi; cases hi
            exact z4 i p (by omega) hi
          · unfold kPe; rw [hps]; exact z5
        · exact Or.inr z
      · rcases hi with ⟨z1, -⟩ | z
        · exact absurd z1 e
        · exact Or.inr z
      · rcases hi with ⟨z1, z2, z3, z4, evb, z5, z6, zC⟩ | ⟨z, -⟩
        rotate_left
        · exact absurd e z
        have hwj := hpw j
        rw [if_pos (by omega)] at hwj
        obtain ⟨y, hy⟩ : ∃ y, ps[j]? = some y := ⟨_, List.getElem?_eq_getElem (by omega)⟩
        obtain ⟨u1, u2, u3⟩ := y6 j y hy
        refine ⟨fun m' v' σ46 => ∃ i : Nat, v' = i ∧ m' = j - i ∧ i ≤ j ∧ ((sg_g σ46 88 29 = 0 ∧ ∀ k : Nat, k < i → ¬ ws[k]? = some (sg_gl σ 107 (6 * d + j))) ∨ (¬ sg_g σ46 88 29 = 0 ∧ ¬ ok)), fun σ46 => ((sg_g σ46 88 29 = 0 ∧ (ws.take (j + 1)).Nodup) ∨ (¬ sg_g σ46 88 29 = 0 ∧ ¬ ok)), ⟨_, 0, rfl, rfl, Nat.zero_le _, Or.inl ⟨e, fun k hk => by omega⟩⟩, ?_, ?_⟩
        · rintro m' v' σ46 rv' fr46 ⟨i, rfl, em', hij, hi3⟩
          refine ⟨fun c2 => ?_, fun c2 => ⟨⟨by omega, by omega⟩, ⟨by omega, by omega⟩, ⟨by omega, by omega⟩, ⟨by omega, by omega⟩, ⟨by omega, by omega⟩, fun e2 => ⟨⟨by omega, by omega⟩, j - (i + 1), by omega, i + 1, by omega, rfl, by omega, ?_⟩, fun e2 => q_wrong (by decide) (fun σ4 t1 t2 _ => ⟨⟨by omega, by omega⟩, j - (i + 1), by omega, i + 1, by omega, rfl, by omega, Or.inr ⟨t1, ?_⟩⟩)⟩⟩
          · rcases hi3 with ⟨t1, t2⟩ | t
            · exact Or.inl ⟨t1, (nd_take hwj).mpr ⟨z3, fun k hk => t2 k (by omega)⟩⟩
            · exact Or.inr t
          · rcases hi3 with ⟨t1, t2⟩ | t
            · refine Or.inl ⟨t1, fun k hk => ?_⟩
              by_cases e3 : k = i
              · subst e3
                rw [hpw k, if_pos (by omega)]
                exact fun z => e2 (Option.some.inj z)
              · exact t2 k (by omega)
            · exact Or.inr t
          · refine fun z => nd_sub (v := j + 1) (fun z => ((nd_take hwj).mp z).2 i (by omega) ?_) (hbad.mp z).2.1
            rw [hpw i, if_pos (by omega), e2]
        · intro σ46 fr46 h46
          rw [u3, u1]
          refine ⟨⟨by omega, by omega⟩, ⟨by omega, by omega⟩, ⟨by omega, by omega⟩, fun σ66 => (sg_g σ66 88 29 = 0 ∧ (ws.take (j + 1)).Nodup ∧ y.2.2 ≤ 3) ∨ (¬ sg_g σ66 88 29 = 0 ∧ ¬ ok), ⟨fun c2 => ?_, fun c2 => q_wrong (by decide) (fun σ4 t1 t2 _ => Or.inr ⟨t1, ?_⟩)⟩, ?_⟩
          · rcases h46 with ⟨t1, t2⟩ | t
            · exact Or.inl ⟨t1, t2, c2⟩
            · exact Or.inr t
          · intro z
            have := (hbad.mp z).2.2 y (List.mem_of_getElem? hy)
            omega
          · intro σ66 fr66 h66
            have f66 := sg_F_t fr46 fr66
            have p66 : kPs σ66 ((ps.take j).reverse.map (fun p => (p.1, p.2.2))) evb := kPs_F z5 f66 rfl
            have dy : ps.drop j = y :: ps.drop (j + 1) := by
              have hl2 : j < ps.length := by omega
              rw [List.drop_eq_getElem_cons hl2]
              rw [List.getElem?_eq_getElem hl2] at hy
              rw [Option.some.inj hy]
            have z7 := z6
            rw [dy] at z7
            simp only [kPb] at z7
            refine ⟨⟨⟨by omega, by omega⟩, ⟨by omega, by omega⟩, ⟨by omega, by omega⟩, trivial⟩, q_knowC p66 ?_ (by rw [← u1]; exact sg_Rgl _ _ _) (by rw [← u3]; exact sg_Rg _ _ _) (by unfold v_ofParam; omega) (fun σ72 t1 tC t2 _ => ⟨⟨by omega, by omega⟩, ps.length - (j + 1), by omega, j + 1, by omega, rfl, by omega, ?_⟩)⟩
            · rw [List.length_map, List.length_reverse, List.length_take]; omega
            · rw [sg_F_g t2 (by rfl)]
              rcases h66 with ⟨t3, t4, t5⟩ | t
              · refine Or.inl ⟨t3, z2, t4, fun i p hi hp => ?_, _, ?_, z7, ?_⟩
                · by_cases e3 : i = j
                  · subst e3; rw [hy] at hp; cases hp; exact t5
                  · exact z4 i p (by omega) hp
                · rw [List.take_add_one, hy, List.reverse_append]
                  exact t1
                · rw [tC, show sg_g σ66 116 = sg_g σ20 116 from funext fun _ => sg_F_ga f66 rfl, zC, List.length_map, List.length_reverse, List.length_take, Nat.min_eq_left (by omega)]
                  unfold v_ofParam
                  rfl
              · exact Or.inr t
    · intro σ20 fr20 h20
      have f20 : sg_F [113, 114, 115, 116, 30088, 31088, 38088] σ σ20 := sg_F_t (sg_F_m f16 rfl) fr20
      have T20 : sg_g σ20 101 = sg_g σ 101 := funext fun _ => sg_F_ga f20 rfl
      refine ⟨fun e => ?_, fun e => ?_⟩
      · rcases h20 with ⟨z, -⟩ | ⟨-, z⟩
        · exact absurd z e
        · exact k1 σ20 (hkf z) e
      · rcases h20 with ⟨-, z1, z2, zC⟩ | ⟨z, -⟩
        rotate_left
        · exact absurd e z
        rw [y3]
        have pin : ∀ q ∈ kPe x, kIn q.2 := fun q hq => by
          unfold kPe at hq
          obtain ⟨p, hp, rfl⟩ := List.mem_map.mp hq
          rw [hps] at hp
          have hp2 := List.mem_reverse.mp hp
          exact ⟨w2 p hp2, (hbad.mp z1).2.2 p hp2⟩
        refine ⟨⟨by omega, by omega⟩, q_lookThroughC (trT_F h f20 rfl) w1 hlen e z2 ?_ pin (by rw [T20]; exact hdi) (by rw [sg_F_g f20 (by rfl), h45]; exact dsR_F hd f20 rfl) (by omega) hr (fun σ' t1 t2 t3 _ => k1 σ' ?_ t2) (fun σ' t1 tB t2 t3 _ => k2 σ' ?_ (by rw [tB, zC]; unfold kPe; rw [List.length_map, List.length_reverse, hps]) t2)⟩
        · unfold kPe; rw [List.length_map, List.length_reverse, hps]; omega
        · rw [hkt z1]; rw [T20] at t1; rw [t1]
        · rw [hkt z1]; rw [T20] at t1; rw [t1]
theorem q_lookC {σ : sg_S} {A : aT} {D : List aDf} {q : Int} {Q : sg_S → Prop} (h : trT σ A) (hlen : ∀ L : List Int, L.Nodup → (∀ x ∈ L, 0 ≤ x ∧ x < A.1) → L.length ≤ 200) (hD : dfR σ D) (hW : ∀ x ∈ D, dW A x) (hq : cT A 0 q) (hq2 : sg_g σ 88 27 = q) (hF : sg_g σ 88 29 = 0) (k1 : ∀ σ', kPg A D q (sg_g σ 101) = none → ¬ sg_g σ' 88 29 = 0 → Q σ') (k2 : ∀ σ', kPg A D q (sg_g σ 101) = some (sg_g σ' 101) → sg_g σ' 116 = kPC A D q (sg_g σ 116) → sg_g σ' 88 29 = 0 → Q σ') : V_look σ Q := by
  obtain ⟨y1, y2, y3⟩ := hD
  have hkp : ∀ x, kDs A D [] (sg_g σ 101) = x → kPg A D q (sg_g σ 101) = (match x with
    | none => none
    | some (T1, ds) => kGo A ds 201 [] q T1) := fun x hx => by subst hx; rfl
  unfold V_look
  intro σ1 e1
  have f1 : sg_F [46088] σ σ1 := by rw [e1]; exact sg_F_w (sg_F_r _ _) rfl _
  generalize hz : kDs A D [] (sg_g σ 101) = z at *
  rw [y1]
  refine ⟨fun m v σ5 => ∃ d : Nat, v = d ∧ m = D.length - d ∧ d ≤ D.length ∧ sg_g σ5 88 45 = d ∧ ((sg_g σ5 88 29 = 0 ∧ ∃ ds, dsR σ5 (d : Int) ds ∧ kDs A (D.drop d) ds (sg_g σ5 101) = z ∧ kDi ds (sg_g σ5 101) ∧ (∀ d ∈ ds, 0 ≤ d.2.2 ∧ d.2.2 < A.1) ∧ kDl (D.drop d) ds = kDl D [] ∧ kDC A (D.drop d) d (sg_g σ5 116) = kDC A D 0 (sg_g σ 116)) ∨ (¬ sg_g σ5 88 29 = 0 ∧ z = none)), fun σ5 => ((sg_g σ5 88 29 = 0 ∧ ∃ ds, dsR σ5 (D.length : Int) ds ∧ sg_g σ5 88 45 = D.length ∧ some (sg_g σ5 101, ds) = z ∧ kDi ds (sg_g σ5 101) ∧ (∀ d ∈ ds, 0 ≤ d.2.2 ∧ d.2.2 < A.1) ∧ ds = kDl D [] ∧ sg_g σ5 116 = kDC A D 0 (sg_g σ 116)) ∨ (¬ sg_g σ5 88 29 = 0 ∧ z = none)), ⟨_, 0, rfl, rfl, Nat.zero_le _, ?_, Or.inl ⟨?_, [], rfl, ?_, ?_, ?_, rfl, ?_⟩⟩, ?_, ?_⟩
  · rw [e1, sg_gw_e _ _ _ _ (by decide)]; rfl
  · rw [sg_F_g f1 (by rfl)]; exact hF
  · rw [show sg_g σ1 101 = sg_g σ 101 from funext fun _ => sg_F_ga f1 rfl]; exact hz
  · exact fun d hd => by simp at hd
  · exact fun d hd => by simp at hd
  · rw [show sg_g σ1 116 = sg_g σ 116 from funext fun _ => sg_F_ga f1 rfl]; rfl
  · rintro m v σ5 rv fr ⟨d, rfl, em, hd, h45, hi⟩
    refine ⟨fun c => ?_, fun c => ⟨fun e => ?_, fun e => ?_⟩⟩
    · rcases hi with ⟨t1, ds, t2, t3, t4, t5, t6, t7⟩ | t
      · have : d = D.length := by omega
        subst this
        rw [List.drop_length] at t3 t6 t7
        exact Or.inl ⟨t1, ds, t2, h45, t3, t4, t5, t6, t7⟩
      · exact Or.inr t
    · rcases hi with ⟨t1, -⟩ | t
      · exact absurd t1 e
      · exact Or.inr t
    · rcases hi with ⟨t1, ds, t2, t3, t4, t5, t6, t7⟩ | ⟨t, -⟩
      rotate_left
      · exact absurd e t
      have hd2 : d < D.length := by omega
      have hx : D[d]? = some D[d] := List.getElem?_eq_getElem hd2
      have hwx := hW D[d] (List.getElem_mem hd2)
      have f5 : sg_F [101, 102, 113, 114, 115, 116, 117, 118, 30088, 31088, 38088, 43088, 46088] σ σ5 := sg_F_t (sg_F_m f1 rfl) fr
      have D5 : dfR σ5 D := by
        refine ⟨by rw [sg_F_g f5 (by rfl)]; exact y1, y2, fun j x hj => ?_⟩
        obtain ⟨a1, a2, a3, a4, a5, a6⟩ := y3 j x hj
        refine ⟨by rw [sg_F_gal f5 rfl]; exact a1, by rw [sg_F_ga f5 rfl]; exact a2, by rw [sg_F_ga f5 rfl]; exact a3, by rw [sg_F_ga f5 rfl]; exact a4, a5, fun i y hy => ?_⟩
        rw [sg_F_gal f5 rfl, sg_F_ga f5 rfl, sg_F_ga f5 rfl]; exact a6 i y hy
      rw [List.drop_eq_getElem_cons hd2] at t3 t6 t7
      simp only [kDl] at t6
      simp only [kDC] at t7
      refine q_lookDefC (trT_F h f5 rfl) hlen D5 hx hwx t2 h45 e t4 t5 (fun σ' u1 u2 fr' => ⟨⟨by omega, by omega⟩, fun σ38 e38 => ⟨⟨by omega, by omega⟩, D.length - (d + 1), by omega, d + 1, by omega, rfl, by omega, ?_, Or.inr ⟨?_, ?_⟩⟩⟩) (fun σ' u1 uB u2 fr' => ⟨⟨by omega, by omega⟩, fun σ38 e38 => ⟨⟨by omega, by omega⟩, D.length - (d + 1), by omega, d + 1, by omega, rfl, by omega, ?_, Or.inl ⟨?_, (D[d].1, D[d].2.2.1.map (·.2.2), D[d].2.2.2) :: ds, ?_, ?_, ?_, ?_, t6, ?_⟩⟩⟩)
      · rw [e38, sg_gw_e _ _ _ _ ⟨by omega, by omega⟩]; omega
      · rw [e38, sg_gw_k _ _ _ _ _ _ (by decide)]; exact u2
      · rw [← t3]; unfold kDs; rw [u1]
      · rw [e38, sg_gw_e _ _ _ _ ⟨by omega, by omega⟩]; omega
      · rw [e38, sg_gw_k _ _ _ _ _ _ (by decide)]; exact u2
      · obtain ⟨a1, a2, a3, a4, a5, a6⟩ := D5.2.2 d D[d] hx
        have f38 : sg_F [101, 102, 113, 114, 115, 116, 117, 118, 30088, 31088, 38088, 43088, 46088] σ5 σ38 := by rw [e38]; exact sg_F_w (sg_F_m fr' rfl) rfl _
        have e0 : ((d + 1 : Nat) : Int) - 1 = d := by omega
        refine ⟨by omega, ?_, ?_, ?_, ?_, ?_, ?_⟩
        · rw [e0, sg_F_gal f38 rfl]; exact a1
        · rw [e0, sg_F_ga f38 rfl, a4]; simp only [List.length_map]
        · intro j y hy
          rw [List.getElem?_map] at hy
          cases hj : D[d].2.2.1[j]? with
          | none => rw [hj] at hy; cases hy
          | some p =>
            rw [hj] at hy
            rw [e0, sg_F_ga f38 rfl, (a6 j p hj).2.2]
            exact Option.some.inj hy
        · rw [e0, sg_F_ga f38 rfl]; exact a3
        · simp only [List.length_map]; exact a5
        · rw [e0]; exact dsR_F t2 f38 rfl
      · rw [← t3]
        rw [show sg_g σ38 101 = sg_g σ' 101 from by rw [e38]; exact funext fun _ => sg_gw_c _ _ _ _ _ _ (by decide)]
        simp only [kDs]
        rw [u1]
      · rw [show sg_g σ38 101 = sg_g σ' 101 from by rw [e38]; exact funext fun _ => sg_gw_c _ _ _ _ _ _ (by decide)]
        unfold kDf at u1
        split at u1
        · rename_i hc
          split at u1
          · cases u1
          · rename_i T1 hg
            have hT1 : T1 = sg_g σ' 101 := by
              have := Option.some.inj u1
              exact (Prod.mk.inj this).1
            subst hT1
            obtain ⟨r1, r2⟩ := kGo_rg A ds 201 _ _ _ _ t4 (fun p hp => by
              obtain ⟨p', hp', rfl⟩ := List.mem_map.mp hp
              have hp2 := List.mem_reverse.mp hp'
              exact ⟨hwx.2.1 p' hp2, hc.2.2 p' hp2⟩) hg
            intro y hy
            rcases List.mem_cons.mp hy with e2 | e2
            · subst e2; exact r1
            · exact r2 _ (t4 y e2)
        · cases u1
      · intro y hy
        rcases List.mem_cons.mp hy with e2 | e2
        · subst e2; exact cT_r hwx.1
        · exact t5 y e2
      · rw [show sg_g σ38 116 = sg_g σ' 116 from by rw [e38]; exact funext fun _ => sg_gw_c _ _ _ _ _ _ (by decide), uB]
        exact t7
  · intro σ5 fr h5 σ19 e19
    have f19 : sg_F [101, 102, 113, 114, 115, 116, 117, 118, 30088, 31088, 38088, 43088, 46088] σ σ19 := by rw [e19]; exact sg_F_w (sg_F_t (sg_F_m f1 rfl) (sg_F_m fr rfl)) rfl _
    have g19 : sg_F [38088] σ5 σ19 := by rw [e19]; exact sg_F_w (sg_F_r _ _) rfl _
    refine ⟨fun e => ?_, fun e => ?_⟩
    · rcases h5 with ⟨t, -⟩ | ⟨-, t⟩
      · exact absurd t e
      · refine k1 σ19 ?_ ?_
        · rw [hkp z rfl, t]
        · rw [sg_F_g g19 (by rfl)]; exact e
    · rcases h5 with ⟨-, ds, t2, t3, t4, t5, t6, t7, t8⟩ | ⟨t, -⟩
      rotate_left
      · exact absurd e t
      have T19 : sg_g σ19 101 = sg_g σ5 101 := funext fun _ => sg_F_ga g19 rfl
      have hdl := dsR_n t2
      have hkz : kPg A D q (sg_g σ 101) = kGo A ds 201 [] q (sg_g σ19 101) := by rw [hkp z rfl, ← t4, T19]
      rw [hq2]
      refine q_lookThroughC (e := []) (eb := []) (trT_F h f19 rfl) hq hlen ?_ ?_ (by simp) (fun p hp => by simp at hp) (by rw [T19]; exact t5) (by rw [sg_F_g g19 (by rfl), t3]; exact dsR_F t2 g19 rfl) (by omega) t6 (fun σ' u1 u2 u3 _ => k1 σ' (hkz.trans u1) u2) (fun σ' u1 uB u2 u3 _ => k2 σ' (hkz.trans u1) ?_ u2)
      · rw [sg_F_g g19 (by rfl)]; exact e
      · simp only [kPs, pst]; rw [e19, sg_gw_e _ _ _ _ (by decide)]; exact ⟨rfl, rfl⟩
      · rw [uB, show sg_g σ19 116 = sg_g σ5 116 from funext fun _ => sg_F_ga g19 rfl, t8]; rfl
/-! read of the reference, with cameAt. -/
theorem q_readC {σ : sg_S} {c : tkC} {Q : Int → sg_S → Prop} (hb : bY c σ) (hr : rsv c.2.2.1) (k1 : ∀ t N q σ', tkB c t N → wT t → ¬ accP t N → sg_g σ' 88 28 = 0 → sg_g σ' 88 2 = sg_g σ 88 2 → Q q σ') (k2 : ∀ t N A D r q σ', tkB c t N → wT t → accP t N → aPg t N aE0 = some (A, D, r) → trT σ' A → dfR σ' D → sg_g σ' 88 27 = r → (∃ T C, kPg A D r T = some (sg_g σ' 101) ∧ sg_g σ' 116 = kPC A D r C) → sg_g σ' 88 28 = 1 → sg_g σ' 88 2 = 0 → Q q σ') : V_readW σ Q := by
  unfold V_readW
  intro σ1 e1 σ4 e4 σ7 e7 σ10 e10 σ13 e13 σ16 e16 σ19 e19 σ22 e22
  have F22 : sg_F [1088, 8088, 9088, 20088, 29088, 30088, 52088, 82088] σ σ22 := by
    rw [e22, e19, e16, e13, e10, e7, e4, e1]
    exact sg_F_w (sg_F_w (sg_F_w (sg_F_w (sg_F_w (sg_F_w (sg_F_w (sg_F_w (sg_F_r _ _) rfl _) rfl _) rfl _) rfl _) rfl _) rfl _) rfl _) rfl _
  have b22 : bY c σ22 := ⟨hb.1, by rw [sg_F_g F22 (by rfl)]; exact hb.2.1, fun p a b => by rw [sg_F_ga F22 rfl]; exact hb.2.2 p a b⟩
  have g28 : sg_g σ22 88 28 = 0 := by
    rw [e22, sg_gw_k _ _ _ _ _ _ (by decide), e19, sg_gw_k _ _ _ _ _ _ (by decide), e16, sg_gw_k _ _ _ _ _ _ (by decide), e13, sg_gw_k _ _ _ _ _ _ (by decide), e10, sg_gw_k _ _ _ _ _ _ (by decide), e7, sg_gw_k _ _ _ _ _ _ (by decide), e4, sg_gw_e _ _ _ _ (by decide)]
  have g29 : sg_g σ22 88 29 = 0 := by
    rw [e22, sg_gw_k _ _ _ _ _ _ (by decide), e19, sg_gw_k _ _ _ _ _ _ (by decide), e16, sg_gw_k _ _ _ _ _ _ (by decide), e13, sg_gw_e _ _ _ _ (by decide)]
  have g8 : sg_g σ22 88 8 = 0 := by
    rw [e22, sg_gw_k _ _ _ _ _ _ (by decide), e19, sg_gw_k _ _ _ _ _ _ (by decide), e16, sg_gw_e _ _ _ _ (by decide)]
  have g19 : sg_g σ22 88 19 = 0 := by
    rw [e22, sg_gw_k _ _ _ _ _ _ (by decide), e19, sg_gw_e _ _ _ _ (by decide)]
  have g7 : sg_g σ22 88 7 = 0 := by rw [e22, sg_gw_e _ _ _ _ (by decide)]
  refine s_cut b22 (fun t0 N σ26 hR0 hT0 f26 => ?_)
  obtain ⟨hB, hV⟩ := tkU_B hb.1 hr hR0 hT0
  have hR := tkU_R hR0
  obtain ⟨t, ht⟩ : ∃ t, t = tkU t0 N := ⟨_, rfl⟩
  rw [← ht] at hB hV hR
  have hN0 := hB.2.2.2.2.1
  have R0 : Rq t N σ26 0 0 aE0 := by
    refine ⟨hR, by rw [sg_F_g f26 (by rfl)]; exact g29, by rw [sg_F_g f26 (by rfl)]; exact g7, Nat.zero_le _, ⟨by rw [sg_F_g f26 (by rfl)]; exact g8, Int.le_refl _, by decide, fun k a b => ?_⟩, fun k a b => ?_, sg_Rg _ _ _⟩
    · exact absurd b (by simp only [aE0]; omega)
    · exact absurd b (by simp only [aE0]; omega)
  have D0 : dfR σ26 [] := ⟨by rw [sg_F_g f26 (by rfl)]; exact g19, by decide, fun d x hx => by cases hx⟩
  have dn : p_told 6579558 := Or.inl rfl
  have dv : v_told 6579558 = 6606 := by decide
  generalize hz : aDfs t N 12 [] 0 aE0 = z
  refine ⟨fun k σ31 => (∃ i A D m, k = m + 1 ∧ D.length + m = 12 ∧ Rq t N σ31 0 i A ∧ dfR σ31 D ∧ aDfs t N m D i A = z) ∨ (¬ sg_g σ31 88 29 = 0 ∧ z = none), fun σ31 => (∃ i A D, Rq t N σ31 0 i A ∧ dfR σ31 D ∧ z = some (i, A, D)) ∨ (¬ sg_g σ31 88 29 = 0 ∧ z = none), ⟨13, Or.inl ⟨0, aE0, [], 12, rfl, rfl, R0, D0, hz⟩⟩, ?_, ?_⟩
  · rintro k σ31 fr hI
    refine ⟨fun d => ?_, fun d => ?_⟩
    · rcases hI with ⟨i, A, D, m, -, -, h1, -⟩ | h
      · exact absurd h1.2.1 d
      · exact Or.inr h
    · rcases hI with ⟨i, A, D, m, em, hm, h1, h2, h3⟩ | ⟨h, -⟩
      rotate_left
      · exact absurd d h
      have vw := vq_wo h1 6579558 6606 dv
      refine ⟨pq_wo h1 dn, fun y => ?_, fun y => ?_⟩
      · have wo : ¬ aWo t i 6606 = true := fun w => by rw [vw, if_pos w] at y; cases y
        left
        refine ⟨i, A, D, h1, h2, ?_⟩
        rw [← h3]
        cases m with
        | zero => unfold aDfs; rw [if_neg wo]
        | succ m => unfold aDfs; rw [if_neg wo]
      · have wo : aWo t i 6606 = true := by
          refine Decidable.byContradiction (fun w => y ?_)
          rw [vw, if_neg w]
        have hi : i < N := by
          have h4 := h1.2.2.2.1
          rcases Nat.lt_or_ge i N with q | q
          · exact q
          · have : i = N := by omega
            subst this
            have w2 := wo_2 wo
            rcases hN0 with w | w <;> (rw [w2] at w; cases w)
        refine s_def h1 h2 hi (fun i' A' x l12 hd hx σ' r' d' _ => ?_) (fun hno σ' f' _ _ => ⟨0, by omega, Or.inr ⟨f', ?_⟩⟩)
        · obtain ⟨m', rfl⟩ : ∃ m', m = m' + 1 := ⟨m - 1, by omega⟩
          refine ⟨m' + 1, by omega, Or.inl ⟨i', A', D ++ [x], m', rfl, by rw [List.length_append]; simp only [List.length_cons, List.length_nil]; omega, r', d', ?_⟩⟩
          rw [← h3]
          conv => rhs; unfold aDfs
          rw [if_pos wo, hd]
        · rw [← h3]
          cases m with
          | zero => unfold aDfs; rw [if_pos wo]
          | succ m =>
            unfold aDfs
            rw [if_pos wo]
            rcases hno with w | w
            · omega
            · rw [w]
  · intro σ31 fr31 h31
    have hpg : ∀ y, z = y → aPg t N aE0 = (match y with
      | none => none
      | some (i, A1, D) => match (aLv t 12).1 i A1 with
        | none => none
        | some (i2, A2, q) => if t.1 i2 = 0 then some (A2, D, q) else none) := fun y hy => by
      subst hy
      unfold aPg
      rw [hz]
      cases z with
      | none => rfl
      | some v =>
        obtain ⟨i, A1, D⟩ := v
        simp only
        cases (aLv t 12).1 i A1 with
        | none => rfl
        | some w => rfl
    refine ⟨fun σ47 => (∃ i A D q, Rq t N σ47 0 i A ∧ dfR σ47 D ∧ sg_g σ47 88 27 = q ∧ aPg t N aE0 = (if t.1 i = 0 then some (A, D, q) else none)) ∨ (¬ sg_g σ47 88 29 = 0 ∧ aPg t N aE0 = none), ⟨fun d => ?_, fun d => ?_⟩, ?_⟩
    · rcases h31 with ⟨i, A, D, h1, -⟩ | ⟨h, h2⟩
      · exact absurd h1.2.1 d
      · exact Or.inr ⟨h, hpg _ h2⟩
    · rcases h31 with ⟨i, A, D, h1, h2, h3⟩ | ⟨h, -⟩
      rotate_left
      · exact absurd d h
      refine s_whole (i := i) (A := A) h1 (fun i' A' q hq σ85 r85 hqr rq f85 σ90 e90 => ?_) (fun hq σ85 f85 _ rq f85' σ90 e90 => ?_)
      · left
        have f90 : sg_F [28088] σ85 σ90 := by rw [e90]; exact sg_F_w (sg_F_r _ _) rfl _
        have D85 : dfR σ85 D := by
          refine ⟨by rw [sg_F_g f85 (by rfl)]; exact h2.1, h2.2.1, fun j x hj => ?_⟩
          obtain ⟨a1, a2, a3, a4, a5, a6⟩ := h2.2.2 j x hj
          refine ⟨by rw [sg_F_gal f85 rfl]; exact a1, by rw [sg_F_ga f85 rfl]; exact a2, by rw [sg_F_ga f85 rfl]; exact a3, by rw [sg_F_ga f85 rfl]; exact a4, a5, fun i y hy => ?_⟩
          rw [sg_F_gal f85 rfl, sg_F_ga f85 rfl, sg_F_ga f85 rfl]; exact a6 i y hy
        have D90 : dfR σ90 D := by
          refine ⟨by rw [sg_F_g f90 (by rfl)]; exact D85.1, D85.2.1, fun j x hj => ?_⟩
          obtain ⟨a1, a2, a3, a4, a5, a6⟩ := D85.2.2 j x hj
          refine ⟨by rw [sg_F_gal f90 rfl]; exact a1, by rw [sg_F_ga f90 rfl]; exact a2, by rw [sg_F_ga f90 rfl]; exact a3, by rw [sg_F_ga f90 rfl]; exact a4, a5, fun i y hy => ?_⟩
          rw [sg_F_gal f90 rfl, sg_F_ga f90 rfl, sg_F_ga f90 rfl]; exact a6 i y hy
        refine ⟨i', A', D, q, ?_, D90, by rw [e90, sg_gw_e _ _ _ _ rq], ?_⟩
        · obtain ⟨r1, r2, r3, r4, r5, r6, r7⟩ := r85
          refine ⟨?_, by rw [sg_F_g f90 (by rfl)]; exact r2, by rw [sg_F_g f90 (by rfl)]; exact r3, r4, ?_, r6, sg_Rg _ _ _⟩
          · rw [show sg_g σ90 90 = sg_g σ85 90 from funext fun _ => sg_F_ga f90 rfl, show sg_g σ90 91 = sg_g σ85 91 from funext fun _ => sg_F_ga f90 rfl, show sg_gl σ90 92 = sg_gl σ85 92 from funext fun _ => sg_F_gal f90 rfl]
            exact r1
          · have tt : trT σ85 A' ∨ True := Or.inr trivial
            rw [sg_F_g f90 (by rfl), show sg_g σ90 93 = sg_g σ85 93 from funext fun _ => sg_F_ga f90 rfl, show sg_g σ90 94 = sg_g σ85 94 from funext fun _ => sg_F_ga f90 rfl, show sg_gl σ90 95 = sg_gl σ85 95 from funext fun _ => sg_F_gal f90 rfl, show sg_g σ90 96 = sg_g σ85 96 from funext fun _ => sg_F_ga f90 rfl, show sg_g σ90 97 = sg_g σ85 97 from funext fun _ => sg_F_ga f90 rfl, show sg_g σ90 98 = sg_g σ85 98 from funext fun _ => sg_F_ga f90 rfl, show sg_gl σ90 99 = sg_gl σ85 99 from funext fun _ => sg_F_gal f90 rfl, show sg_g σ90 100 = sg_g σ85 100 from funext fun _ => sg_F_ga f90 rfl]
            exact r5
        · rw [hpg _ h3]
          simp only
          rw [hq]
      · right
        refine ⟨by rw [e90, sg_gw_k _ _ _ _ _ _ (by decide)]; exact f85, ?_⟩
        rw [hpg _ h3]
        simp only
        rw [hq]
    · intro σ47 f47 h47
      refine ⟨fun σ53 => (sg_g σ53 88 29 = 0 ∧ ∃ i A D q, Rq t N σ53 0 i A ∧ dfR σ53 D ∧ sg_g σ53 88 27 = q ∧ aPg t N aE0 = some (A, D, q)) ∨ (¬ sg_g σ53 88 29 = 0 ∧ aPg t N aE0 = none), ⟨fun d => ?_, fun d => ?_⟩, ?_⟩
      · rcases h47 with ⟨i, A, D, q, h1, -⟩ | h
        · exact absurd h1.2.1 d
        · exact Or.inr h
      · rcases h47 with ⟨i, A, D, q, h1, h2, h3, h4⟩ | ⟨h, -⟩
        rotate_left
        · exact absurd d h
        obtain ⟨q1, q2, q3, q4, q5, q6, q7⟩ := Rq_t h1
        have e90 : sg_g σ26 90 (sg_g σ47 88 7) = t.1 i := by
          rw [h1.2.2.1]; exact (hR.2.1 i h1.2.2.2.1).1
        rw [e90]
        refine ⟨⟨q4, q5⟩, fun y => Or.inl ⟨d, i, A, D, q, h1, h2, h3, by rw [h4, if_pos y]⟩, fun y => q_wrong (by decide) (fun σ' w1 w2 _ => Or.inr ⟨w1, by rw [h4, if_neg y]⟩)⟩
      · intro σ53 f53 h53
        have base : ∀ σ59, sg_F [101, 102, 113, 114, 115, 116, 117, 118, 30088, 31088, 38088, 43088, 46088] σ53 σ59 → sg_g σ59 88 28 = 0 ∧ sg_g σ59 88 2 = sg_g σ 88 2 := fun σ59 f59 => by
          constructor
          · rw [sg_F_g f59 (by rfl), sg_F_g f53 (by rfl), sg_F_g f47 (by rfl), sg_F_g fr31 (by rfl), sg_F_g f26 (by rfl)]; exact g28
          · rw [sg_F_g f59 (by rfl), sg_F_g f53 (by rfl), sg_F_g f47 (by rfl), sg_F_g fr31 (by rfl), sg_F_g f26 (by rfl), sg_F_g F22 (by rfl)]
        refine ⟨fun σ59 => (sg_g σ59 88 29 = 0 ∧ ∃ A D q, trT σ59 A ∧ dfR σ59 D ∧ sg_g σ59 88 27 = q ∧ aPg t N aE0 = some (A, D, q) ∧ (∃ T C, kPg A D q T = some (sg_g σ59 101) ∧ sg_g σ59 116 = kPC A D q C) ∧ accP t N) ∨ (¬ sg_g σ59 88 29 = 0 ∧ ¬ accP t N), ⟨fun d => ?_, fun d => ?_⟩, ?_⟩
        · rcases h53 with ⟨h, -⟩ | ⟨h, h2⟩
          · exact absurd h d
          · refine Or.inr ⟨h, ?_⟩
            rintro ⟨A', D', k', z1, z2⟩
            rw [h2] at z1; cases z1
        · rcases h53 with ⟨-, i, A, D, q, h1, h2, h3, h4⟩ | ⟨h, -⟩
          rotate_left
          · exact absurd d h
          have hp := t_pg h4 ⟨Int.le_refl _, by decide⟩
          have hp2 := t_pg2 h4 ⟨Int.le_refl _, by decide⟩ rfl
          have tr : trT σ53 A := ⟨h1.2.2.2.2.1, frA_k hp2⟩
          refine q_lookC tr (fun L a b => ndl 200 L a (fun x hx => by have := b x hx; have := hp.2.2.2; omega)) h2 hp.1 hp.2.2.1 h3 d (fun σ' y1 y2 f' => Or.inr ⟨y2, ?_⟩) (fun σ' y1 yB y2 f' => Or.inl ⟨y2, A, D, q, trT_F tr f' rfl, ?_, by rw [sg_F_g f' (by rfl)]; exact h3, h4, ⟨_, _, y1, yB⟩, A, D, q, h4, fun y => ?_⟩)
          · rintro ⟨A', D', k', z1, z2⟩
            rw [h4] at z1
            cases z1
            exact z2 ((kPg_ag A D q _ _).mp y1)
          · refine ⟨by rw [sg_F_g f' (by rfl)]; exact h2.1, h2.2.1, fun j x hj => ?_⟩
            obtain ⟨a1, a2, a3, a4, a5, a6⟩ := h2.2.2 j x hj
            refine ⟨by rw [sg_F_gal f' rfl]; exact a1, by rw [sg_F_ga f' rfl]; exact a2, by rw [sg_F_ga f' rfl]; exact a3, by rw [sg_F_ga f' rfl]; exact a4, a5, fun i y hy => ?_⟩
            rw [sg_F_gal f' rfl, sg_F_ga f' rfl, sg_F_ga f' rfl]; exact a6 i y hy
          · have := (kPg_ag A D q _ (sg_g σ53 101)).mp y
            rw [this] at y1; cases y1
        · intro σ59 f59 h59
          obtain ⟨u1, u2⟩ := base σ59 f59
          refine ⟨fun d σ63 e63 σ66 e66 => ?_, fun d => ?_⟩
          · rcases h59 with ⟨-, A, D, q, w1, w2, w3, w4, w5, w6⟩ | ⟨h, -⟩
            rotate_left
            · exact absurd d h
            have f66 : sg_F [29088, 3088] σ59 σ66 := by rw [e66, e63]; exact sg_F_w (sg_F_w (sg_F_r _ _) rfl _) rfl _
            refine k2 t N A D q _ σ66 hB hV w6 w4 (trT_F w1 f66 rfl) ?_ (by rw [sg_F_g f66 (by rfl)]; exact w3) ?_ ?_ ?_
            · refine ⟨by rw [sg_F_g f66 (by rfl)]; exact w2.1, w2.2.1, fun j x hj => ?_⟩
              obtain ⟨a1, a2, a3, a4, a5, a6⟩ := w2.2.2 j x hj
              refine ⟨by rw [sg_F_gal f66 rfl]; exact a1, by rw [sg_F_ga f66 rfl]; exact a2, by rw [sg_F_ga f66 rfl]; exact a3, by rw [sg_F_ga f66 rfl]; exact a4, a5, fun i y hy => ?_⟩
              rw [sg_F_gal f66 rfl, sg_F_ga f66 rfl, sg_F_ga f66 rfl]; exact a6 i y hy
            · rw [show sg_g σ66 101 = sg_g σ59 101 from funext fun _ => sg_F_ga f66 rfl, show sg_g σ66 116 = sg_g σ59 116 from funext fun _ => sg_F_ga f66 rfl]; exact w5
            · rw [e66, sg_gw_k _ _ _ _ _ _ (by decide), e63, sg_gw_e _ _ _ _ (by decide)]
            · rw [e66, sg_gw_e _ _ _ _ (by decide)]
          · rcases h59 with ⟨h, -⟩ | ⟨-, h⟩
            · exact absurd h d
            · exact k1 t N _ σ59 hB hV h u1 u2
/-! a flat run looks at the tree alone: its types, binders and the lists of variables carried along. -/
theorem e9_c {α β : Type} {r r' : α ⊕ β} (h : r = r') : (∃ e, r = .inl e ∧ r' = .inl e) ∨ ∃ q, r = .inr q ∧ r' = .inr q := by
  subst h
  cases r with
  | inl e => exact Or.inl ⟨e, rfl, rfl⟩
  | inr q => exact Or.inr ⟨q, rfl, rfl⟩
/-- the same variables in the same order -/
def gEq (ty ty' : Int → Int) (l l' : List Int) : Prop := l = l' ∧ ∀ z ∈ l, ty z = ty' z
theorem fSq_eq {go go' : Int → fEv → fSt → fRs} : ∀ (R : List Int), (∀ x ∈ R, ∀ ρ s, go x ρ s = go' x ρ s) → ∀ ρ s, fSq go R ρ s = fSq go' R ρ s
  | [], _, ρ, s => rfl
  | x :: R, h, ρ, s => by
    simp only [fSq]
    rcases e9_c (h x (by simp) ρ s) with ⟨e, h1, h2⟩ | ⟨⟨v, s1, ρ1⟩, h1, h2⟩
    · simp only [h1, h2]
    · simp only [h1, h2, fSq_eq R (fun y hy => h y (by simp [hy])) ρ1 s1]
section ZKB
variable {go go' : Int → Nat → fEv → fSt → fRs} {bt bt' : Int → Int} {O1 O1' O2 O2' : List Int}
theorem fIfN_eq {a c d : Int} (ha : ∀ m ρ s, go a m ρ s = go' a m ρ s) (hc : ∀ m ρ s, go c m ρ s = go' c m ρ s) (hd : ∀ m ρ s, go d m ρ s = go' d m ρ s) (p1 : gEq bt bt' O1 O1') (p2 : gEq bt bt' O2 O2') (tn : Int) (m : Nat) (ρ : fEv) (s : fSt) : fIfN go bt tn O1 O2 a c d m ρ s = fIfN go' bt' tn O1' O2' a c d m ρ s := by
  obtain ⟨rfl, q1⟩ := p1
  obtain ⟨rfl, q2⟩ := p2
  unfold fIfN
  rcases e9_c (ha m ρ s) with ⟨e, h1, h2⟩ | ⟨⟨cv, s2, ρ2⟩, h1, h2⟩
  · simp only [h1, h2]
  simp only [h1, h2]
  rcases e9_c (fCa_ty (ks := fWh true cv) O1 q1 s2 ρ2) with ⟨e, h3, h4⟩ | ⟨⟨s3, ρ3⟩, h3, h4⟩
  · simp only [h3, h4]
  simp only [h3, h4]
  rcases e9_c (hc (fWh true cv).length ρ3 s3) with ⟨e, h5, h6⟩ | ⟨⟨v1, s4, ρ4⟩, h5, h6⟩
  · simp only [h5, h6]
  simp only [h5, h6]
  rcases e9_c (fCa_ty (ks := fWh false cv) O2 q2 s4 (fBk O1 ρ2 ρ4)) with ⟨e, h7, h8⟩ | ⟨⟨s5, ρ5⟩, h7, h8⟩
  · simp only [h7, h8]
  simp only [h7, h8, hd]
theorem fEbN_eq {bd : Int} {ts : List Int} (hb : ∀ m ρ s, go bd m ρ s = go' bd m ρ s) (ht : ∀ x ∈ ts, ∀ m ρ s, go x m ρ s = go' x m ρ s) (p1 : gEq bt bt' O1 O1') (p2 : gEq bt bt' O2 O2') (n : Int) (m : Nat) (vs : List (List vaF)) (ρ : fEv) (s : fSt) : fEbN go bt n O1 O2 bd ts m vs ρ s = fEbN go' bt' n O1' O2' bd ts m vs ρ s := by
  obtain ⟨rfl, q1⟩ := p1
  obtain ⟨rfl, q2⟩ := p2
  unfold fEbN
  refine congrArg _ ?_
  rcases e9_c (fCa_ty (ks := fRp m ((vs.getD 0 []).map (fun v => (itF v).length))) O1 q1 s ρ) with ⟨e, h1, h2⟩ | ⟨⟨s3, ρ3⟩, h1, h2⟩
  · simp only [h1, h2]
  rw [h1, h2]
  cases ts with
  | nil => simp only [hb]
  | cons t ts =>
    simp only
    rcases e9_c (ht t (by simp) (fRp m ((vs.getD 0 []).map (fun v => (itF v).length))).length (fUs ρ3 (210 + 4 * n) 0 (vs.map flF)) s3) with ⟨e, h3, h4⟩ | ⟨⟨cv, s4, ρ5⟩, h3, h4⟩
    · simp only [h3, h4]
    rw [h3, h4]
    simp only
    rcases e9_c (fCa_ty (ks := fWh true cv) O2 q2 s4 ρ5) with ⟨e, h5, h6⟩ | ⟨⟨s5, ρ6⟩, h5, h6⟩
    · simp only [h5, h6]
    rw [h5, h6]
    simp only
    cases fStp (m : Int) s5 with
    | none => rfl
    | some s6 => simp only [hb]
end ZKB
/-- what is carried along at node x is the same, in the same order -/
def oEq (A : aT) (D : List aDf) (T T' : Int → Int) (O O' : Int → Nat → List Int) (x : Int) : Prop := (A.2.1 x = 3 → gEq (bTy A D T) (bTy A D T') (O x 1) (O' x 1) ∧ gEq (bTy A D T) (bTy A D T') (O x 2) (O' x 2)) ∧ (A.2.1 x = 15 → gEq (bTy A D T) (bTy A D T') (O x 0) (O' x 0) ∧ gEq (bTy A D T) (bTy A D T') (O x 1) (O' x 1))
theorem fxN_eq {A : aT} {D : List aDf} {T T' B B' : Int → Int} {O O' : Int → Nat → List Int} {call call' : Int → Nat → fEv → fSt → fRs} (hc : ∀ q m ρ s, call q m ρ s = call' q m ρ s) : ∀ (f : Nat) (n : Int) (L : List Int), fT A [n] L → (∀ x ∈ L, T x = T' x ∧ B x = B' x ∧ oEq A D T T' O O' x) → ∀ (m : Nat) (ρ : fEv) (s : fSt), fxN A D T B O call f n m ρ s = fxN A D T' B' O' call' f n m ρ s
  | 0, n, L, hf, h, m, ρ, s => rfl
  | f + 1, n, L, hf, h, m, ρ, s => by
    obtain ⟨L1, L2, e1, w1, w2, w3⟩ := fT_inv hf
    obtain ⟨hT, hB, hO⟩ := h n (by rw [e1]; simp)
    have kd : ∀ x ∈ A.2.2.2.2.1 n, ∀ m ρ s, fxN A D T B O call f x m ρ s = fxN A D T' B' O' call' f x m ρ s := fun x hx => by
      obtain ⟨Lx, a1, a2⟩ := fT_kid w2 hx
      exact fxN_eq hc f x Lx a1 (fun y hy => h y (by rw [e1]; exact List.mem_cons_of_mem _ (List.mem_append_left _ (a2 y hy))))
    obtain ⟨n1, n2, n3, n4, n5, n6, n7, n8⟩ := w1
    simp only [fxN]
    cases fBg m s with
    | none => rfl
    | some s1 =>
      simp only
      rw [← hT, ← hB]
      by_cases c1 : A.2.1 n = 1
      · rw [if_pos c1, if_pos c1]
      rw [if_neg c1, if_neg c1]
      by_cases c2 : A.2.1 n = 2
      · have l := n3 (Or.inl c2)
        rw [if_pos c2, if_pos c2]
        rcases e9_c (kd _ (getD_in (i := 0) (by omega)) m ρ s1) with ⟨e, h1, h2⟩ | ⟨⟨v, s2, ρ2⟩, h1, h2⟩
        · simp only [h1, h2]
        rw [h1, h2]
        exact kd _ (getD_in (i := 1) (by omega)) _ _ _
      rw [if_neg c2, if_neg c2]
      by_cases c3 : A.2.1 n = 3
      · have l := n4 c3
        rw [if_pos c3, if_pos c3]
        exact fIfN_eq (kd _ (getD_in (i := 0) (by omega))) (kd _ (getD_in (i := 1) (by omega))) (kd _ (getD_in (i := 2) (by omega))) (hO.1 c3).1 (hO.1 c3).2 _ _ _ _
      rw [if_neg c3, if_neg c3]
      by_cases c13 : A.2.1 n = 13
      · rw [if_pos c13, if_pos c13]
        rcases e9_c (fSq_eq (go := fun x => fxN A D T B O call f x m) (go' := fun x => fxN A D T' B' O' call' f x m) (A.2.2.2.2.1 n) (fun x hx => kd x hx m) ρ s1) with ⟨e, h1, h2⟩ | ⟨⟨vs, s2, ρ2⟩, h1, h2⟩
        · simp only [h1, h2]
        rw [h1, h2]
        exact hc _ _ _ _
      rw [if_neg c13, if_neg c13]
      by_cases c15 : A.2.1 n = 15
      · have l := n7 c15
        rw [if_pos c15, if_pos c15]
        rcases e9_c (fSq_eq (go := fun x => fxN A D T B O call f x m) (go' := fun x => fxN A D T' B' O' call' f x m) (kGs A n) (fun x hx => kd x (by unfold kGs at hx; exact List.mem_of_mem_drop (List.mem_of_mem_take hx)) m) ρ s1) with ⟨e, h1, h2⟩ | ⟨⟨vs, s2, ρ2⟩, h1, h2⟩
        · simp only [h1, h2]
        rw [h1, h2]
        exact fEbN_eq (kd _ (getD_in (i := 0) (by omega))) (fun x hx => kd x (List.mem_of_mem_drop hx)) (hO.2 c15).1 (hO.2 c15).2 _ _ _ _ _
      rw [if_neg c15, if_neg c15]
      rw [fSq_eq (go := fun x => fxN A D T B O call f x m) (go' := fun x => fxN A D T' B' O' call' f x m) (A.2.2.2.2.1 n) (fun x hx => kd x hx m) ρ s1]
/-- DEFS -/
theorem fxC_eq {A : aT} {D : List aDf} {T T' B B' : Int → Int} {O O' : Int → Nat → List Int} {q : Int} {LA : List Int} (hf : fT A (aRt D ++ [q]) LA) (h : ∀ x ∈ LA, T x = T' x ∧ B x = B' x ∧ oEq A D T T' O O' x) : ∀ k, k ≤ D.length → ∀ q' m ρ s, fxC A D T B O k q' m ρ s = fxC A D T' B' O' k q' m ρ s
  | 0, _, q', m, ρ, s => rfl
  | k + 1, hk, q', m, ρ, s => by
    simp only [fxC]
    by_cases c : q' = (k : Int)
    · rw [if_pos c, if_pos c]
      have hk' : k < D.length := by omega
      obtain ⟨Lr, a1, a2⟩ := fT_kid hf (r := D[k].2.2.2) (List.mem_append_left _ (by unfold aRt; exact List.mem_map.mpr ⟨D[k], List.getElem_mem _, rfl⟩))
      rw [List.getD_eq_getElem?_getD, List.getElem?_eq_getElem hk', Option.getD_some]
      exact fxN_eq (fxC_eq hf h k (by omega)) 201 _ Lr a1 (fun x hx => h x (a2 x hx)) m ρ s
    · rw [if_neg c, if_neg c]
      exact fxC_eq hf h k (by omega) q' m ρ s
/-- the whole PROGRAM -/
theorem fxA_eq {A : aT} {D : List aDf} {T T' B B' : Int → Int} {O O' : Int → Nat → List Int} {q : Int} {LA : List Int} (hf : fT A (aRt D ++ [q]) LA) (h : ∀ x ∈ LA, T x = T' x ∧ B x = B' x ∧ oEq A D T T' O O' x) : fxA A D T B O q = fxA A D T' B' O' q := by
  obtain ⟨Lr, a1, a2⟩ := fT_kid hf (r := q) (List.mem_append_right _ (by simp))
  unfold fxA
  exact fxN_eq (fxC_eq hf h D.length (Nat.le_refl _)) 201 q Lr a1 (fun x hx => h x (a2 x hx)) _ _ _
