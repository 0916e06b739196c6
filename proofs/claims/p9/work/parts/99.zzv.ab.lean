/-! VALUES on the heap of the nested run. -/
def cvF (σ : sg_S) : Nat → vaF → Int → Prop
  | 0, v, x => v [] = x
  | d + 1, v, x => (0 ≤ x ∧ x + 2 + (itF v).length ≤ sg_g σ 45 20) ∧ (itF v).length ≤ 200 ∧ cnvF (d + 1) v ≤ 3000 ∧ (sg_g σ 53 x = (itF v).length ∧ sg_g σ 53 (x + 1) = cnvF (d + 1) v) ∧ ∀ (i : Nat) (w : vaF), (itF v)[i]? = some w → cvF σ d w (sg_g σ 53 (x + 2 + i))
/-- the heap only grows -/
def cEx (σ σ' : sg_S) : Prop := sg_g σ 45 20 ≤ sg_g σ' 45 20 ∧ ∀ i, 0 ≤ i → i < sg_g σ 45 20 → sg_g σ' 53 i = sg_g σ 53 i
theorem cEx_r (σ : sg_S) : cEx σ σ := ⟨Int.le_refl _, fun _ _ _ => rfl⟩
theorem cEx_t {σ σ1 σ2 : sg_S} (h : cEx σ σ1) (g : cEx σ1 σ2) : cEx σ σ2 := ⟨Int.le_trans h.1 g.1, fun i a b => (g.2 i a (by have := h.1; omega)).trans (h.2 i a b)⟩
theorem cEx_F {L : List Nat} {σ σ' : sg_S} (f : sg_F L σ σ') (hL : (!sg_cv L 45 20 && sg_ca L 53) = true) : cEx σ σ' := by
  simp only [Bool.and_eq_true, Bool.not_eq_true'] at hL
  exact ⟨by rw [sg_F_g f hL.1]; exact Int.le_refl _, fun i _ _ => sg_F_ga f hL.2⟩
theorem cvF_up {σ σ' : sg_S} (h : cEx σ σ') : ∀ {d : Nat} {v : vaF} {x : Int}, cvF σ d v x → cvF σ' d v x
  | 0, _, _, a => a
  | d + 1, v, x, ⟨a1, a2, a3, a4, a5⟩ => by
    have h1 := h.1
    refine ⟨⟨a1.1, by omega⟩, a2, a3, ⟨by rw [h.2 x (by omega) (by omega)]; exact a4.1, by rw [h.2 (x + 1) (by omega) (by omega)]; exact a4.2⟩, fun i w hw => ?_⟩
    have hi := gE_l hw
    rw [h.2 (x + 2 + i) (by omega) (by omega)]
    exact cvF_up h (a5 i w hw)
theorem cvF_F {L : List Nat} {σ σ' : sg_S} {d : Nat} {v : vaF} {x : Int} (a : cvF σ d v x) (f : sg_F L σ σ') (hL : (!sg_cv L 45 20 && sg_ca L 53) = true) : cvF σ' d v x := cvF_up (cEx_F f hL) a
section CVA
variable {σ : sg_S} {d : Nat} {v w : vaF} {x : Int} {i : Nat}
theorem cv_len (hB : sg_g σ 45 20 ≤ 9003) (h : cvF σ (d + 1) v x) : v_nLengthOf σ x = (itF v).length := by
  obtain ⟨a1, a2, a3, a4, a5⟩ := h
  unfold v_nLengthOf
  rw [xa_in ⟨a1.1, by omega⟩]; exact a4.1
theorem cv_cnt (hB : sg_g σ 45 20 ≤ 9003) (h : cvF σ (d + 1) v x) : p_nCountOf σ x ∧ v_nCountOf σ x = cnvF (d + 1) v := by
  obtain ⟨a1, a2, a3, a4, a5⟩ := h
  unfold v_nCountOf p_nCountOf
  rw [xa_in ⟨by omega, by omega⟩]
  exact ⟨⟨⟨by omega, by omega⟩, trivial⟩, a4.2⟩
theorem cv_item (hB : sg_g σ 45 20 ≤ 9003) (h : cvF σ (d + 1) v x) (hi : (itF v)[i]? = some w) : p_nItemOf σ x (i : Int) ∧ sg_R (v_nItemOf σ x (i : Int)) ∧ cvF σ d w (v_nItemOf σ x (i : Int)) := by
  obtain ⟨a1, a2, a3, a4, a5⟩ := h
  have hl := gE_l hi
  have e : v_nItemOf σ x (i : Int) = sg_g σ 53 (x + 2 + i) := by
    unfold v_nItemOf
    rw [xa_in ⟨by omega, by omega⟩]
  refine ⟨⟨⟨by omega, by omega⟩, ⟨by omega, by omega⟩, trivial⟩, by rw [e]; exact sg_Rg _ _ _, ?_⟩
  rw [e]
  exact a5 i w hi
theorem cv_x (h : cvF σ (d + 1) v x) (hB : sg_g σ 45 20 ≤ 9003) : 0 ≤ x ∧ x ≤ 9001 ∧ (itF v).length ≤ 200 ∧ cnvF (d + 1) v ≤ 3000 := by
  obtain ⟨a1, a2, a3, a4, a5⟩ := h
  exact ⟨a1.1, by omega, a2, a3⟩
end CVA
/-- what was added -/
def cO (σ : sg_S) (d : Nat) (L : List vaF) : Prop := sg_g σ 45 21 = L.length ∧ L.length ≤ 200 ∧ ∀ (i : Nat) (w : vaF), L[i]? = some w → cvF σ d w (sg_g σ 54 i)
theorem cO_F {K : List Nat} {σ σ' : sg_S} {d : Nat} {L : List vaF} (h : cO σ d L) (f : sg_F K σ σ') (hK : (!sg_cv K 45 20 && sg_ca K 53 && !sg_cv K 45 21 && sg_ca K 54) = true) : cO σ' d L := by
  simp only [Bool.and_eq_true, Bool.not_eq_true'] at hK
  obtain ⟨⟨⟨k1, k2⟩, k3⟩, k4⟩ := hK
  refine ⟨by rw [sg_F_g f k3]; exact h.1, h.2.1, fun i w hw => ?_⟩
  rw [sg_F_ga f k4]
  exact cvF_F (h.2.2 i w hw) f (by rw [k1, k2]; rfl)
theorem cO_0 {σ : sg_S} {d : Nat} (h : sg_g σ 45 21 = 0) : cO σ d [] := ⟨h, by simp, fun i w hw => by simp at hw⟩
theorem n_add {σ : sg_S} {d : Nat} {L : List vaF} {v : vaF} {x : Int} {Q : sg_S → Prop} (h : cO σ d L) (hl : L.length < 200) (hv : cvF σ d v x) (hx : sg_R x) (k : ∀ σ', cO σ' d (L ++ [v]) → sg_F [54, 22045] σ σ' → Q σ') : V_nAdd σ x Q := by
  obtain ⟨h1, h2, h3⟩ := h
  unfold V_nAdd
  intro σ1 e1
  rw [h1, xp_in ⟨by omega, by omega⟩] at e1
  rw [h1]
  refine ⟨⟨by omega, by omega⟩, fun σ5 e5 => ?_⟩
  have f : sg_F [54, 22045] σ σ5 := by rw [e5, e1]; exact sg_F_w (sg_F_w (sg_F_r _ _) rfl _) rfl _
  refine k σ5 ⟨?_, by rw [List.length_append, List.length_cons, List.length_nil]; omega, fun i w hw => ?_⟩ f
  · rw [e5, sg_gw_e _ _ _ _ ⟨by omega, by omega⟩, List.length_append, List.length_cons, List.length_nil]; omega
  · rcases Nat.lt_or_ge i L.length with q | q
    · rw [List.getElem?_append_left q] at hw
      rw [e5, sg_gw_c _ _ _ _ _ _ (by decide), e1, sg_gw_k _ _ _ _ _ _ (by omega)]
      rw [← e1, ← e5]
      exact cvF_F (h3 i w hw) f rfl
    · rw [List.getElem?_append_right q] at hw
      have z : i - L.length = 0 := by
        have := gE_l hw
        simp only [List.length_cons, List.length_nil] at this
        omega
      rw [z] at hw
      simp only [List.getElem?_cons_zero, Option.some.injEq] at hw
      subst hw
      have ei : i = L.length := by omega
      subst ei
      have : sg_g σ5 54 (L.length : Int) = x := by rw [e5, sg_gw_c _ _ _ _ _ _ (by decide), e1, sg_gw_e _ _ _ _ hx]
      rw [this]
      exact cvF_F hv f rfl
theorem tkF_1 {α : Type} {l : List α} {i : Nat} {w : α} (h : l[i]? = some w) : l.take (i + 1) = l.take i ++ [w] := by rw [List.take_add_one, h]; rfl
theorem gE_x {α : Type} {l : List α} {i : Nat} (h : i < l.length) : ∃ w, l[i]? = some w := ⟨_, List.getElem?_eq_getElem h⟩
theorem n_addAll {σ : sg_S} {d : Nat} {L : List vaF} {v : vaF} {x : Int} {Q : sg_S → Prop} (hB : sg_g σ 45 20 ≤ 9003) (h : cO σ d L) (hv : cvF σ (d + 1) v x) (hl : L.length + (itF v).length ≤ 200) (k : ∀ σ', cO σ' d (L ++ itF v) → sg_F [54, 22045] σ σ' → Q σ') : V_nAddAll σ x Q := by
  have hlen := cv_len hB hv
  unfold V_nAddAll
  rw [hlen]
  refine ⟨fun n v1 σ2 => ∃ i : Nat, v1 = i ∧ n = (itF v).length - i ∧ i ≤ (itF v).length ∧ cO σ2 d (L ++ (itF v).take i), fun σ2 => cO σ2 d (L ++ itF v), ⟨_, 0, rfl, rfl, Nat.zero_le _, by rw [List.take_zero, List.append_nil]; exact h⟩, ?_, fun σ2 f2 h2 => k σ2 h2 f2⟩
  rintro n v1 σ2 r1 f2 ⟨i, rfl, en, hi, hO⟩
  refine ⟨fun z => ?_, fun z => ?_⟩
  · have : (itF v).take i = itF v := List.take_of_length_le (by omega)
    rw [this] at hO; exact hO
  · obtain ⟨w, hw⟩ := gE_x (l := itF v) (i := i) (by omega)
    obtain ⟨q1, q2, q3⟩ := cv_item hB hv hw
    refine ⟨q1, n_add hO (by rw [List.length_append, List.length_take]; omega) (cvF_F q3 f2 rfl) q2 (fun σ' h' f' _ => ⟨⟨by omega, by omega⟩, (itF v).length - (i + 1), by omega, i + 1, by omega, rfl, by omega, ?_⟩)⟩
    rw [tkF_1 hw, ← List.append_assoc]; exact h'
/-- a new sequence on the heap -/
theorem n_keep {σ : sg_S} {d : Nat} {L : List vaF} {c t hs : Int} {Q : sg_S → Prop} (h : cO σ d L) (hc : c = cnL d L) (hc3 : c ≤ 3000) (hh : sg_g σ 45 20 = hs) (h0 : 0 ≤ hs ∧ hs + 2 + L.length ≤ 9003) (ht : sg_g σ 45 7 = t) (t0 : 0 ≤ t ∧ t < 3200) (k : ∀ σ', sg_F [48, 53, 8045, 21045, 22045] σ σ' → cEx σ σ' → sg_g σ' 45 20 = hs + 2 + L.length → sg_g σ' 45 21 = 0 → sg_g σ' 45 7 = t + 1 → sg_g σ' 48 t = hs → (∀ i, ¬ i = t → sg_g σ' 48 i = sg_g σ 48 i) → cvF σ' (d + 1) (mkF L) hs → Q σ') : V_nKeep σ c Q := by
  obtain ⟨h1, h2, h3⟩ := id h
  have cl := cnL_l d L
  unfold V_nKeep
  rw [hh, h1, ht]
  intro σ1 e1
  rw [xp_in ⟨h0.1, by omega⟩] at e1
  refine ⟨⟨by omega, by omega⟩, fun σ5 e5 => ?_⟩
  rw [xp_in ⟨by omega, by omega⟩] at e5
  have f5 : sg_F [53] σ σ5 := by rw [e5, e1]; exact sg_F_w (sg_F_w (sg_F_r _ _) rfl _) rfl _
  have g50 : sg_g σ5 53 hs = L.length := by rw [e5, sg_gw_k _ _ _ _ _ _ (by omega), e1, sg_gw_e _ _ _ _ ⟨by omega, by omega⟩]
  have g51 : sg_g σ5 53 (hs + 1) = c := by rw [e5, sg_gw_e _ _ _ _ ⟨by omega, by omega⟩]
  have g5o : ∀ i, i < hs → sg_g σ5 53 i = sg_g σ 53 i := fun i hi => by rw [e5, sg_gw_k _ _ _ _ _ _ (by omega), e1, sg_gw_k _ _ _ _ _ _ (by omega)]
  refine ⟨fun n v8 σ9 => ∃ i : Nat, v8 = i ∧ n = L.length - i ∧ i ≤ L.length ∧ (∀ j, j < hs + 2 → sg_g σ9 53 j = sg_g σ5 53 j) ∧ ∀ j : Nat, j < i → sg_g σ9 53 (hs + 2 + j) = sg_g σ 54 j, fun σ9 => (∀ j, j < hs + 2 → sg_g σ9 53 j = sg_g σ5 53 j) ∧ ∀ j : Nat, j < L.length → sg_g σ9 53 (hs + 2 + j) = sg_g σ 54 j, ⟨_, 0, rfl, rfl, Nat.zero_le _, fun _ _ => rfl, fun j hj => by omega⟩, ?_, ?_⟩
  · rintro n v8 σ9 r8 f9 ⟨i, rfl, en, hi, a1, a2⟩
    refine ⟨fun z => ⟨a1, fun j hj => a2 j (by omega)⟩, fun z => ⟨⟨by omega, by omega⟩, ⟨by omega, by omega⟩, fun σ41 e41 => ⟨⟨by omega, by omega⟩, L.length - (i + 1), by omega, i + 1, by omega, rfl, by omega, fun j hj => ?_, fun j hj => ?_⟩⟩⟩
    · rw [xp_in ⟨by omega, by omega⟩] at e41
      rw [e41, sg_gw_k _ _ _ _ _ _ (by omega)]; exact a1 j hj
    · rw [xp_in ⟨by omega, by omega⟩, xa_in ⟨by omega, by omega⟩] at e41
      by_cases c : j = i
      · subst c; rw [e41, sg_gw_e _ _ _ _ (sg_Rg _ _ _)]
      · rw [e41, sg_gw_k _ _ _ _ _ _ (by omega)]; exact a2 j (by omega)
  · rintro σ9 f9 ⟨a1, a2⟩
    refine ⟨⟨by omega, by omega⟩, ⟨by omega, by omega⟩, fun σ25 e25 σ28 e28 σ31 e31 => ⟨⟨by omega, by omega⟩, fun σ35 e35 => ?_⟩⟩
    rw [xp_in ⟨t0.1, t0.2⟩] at e31
    have F : sg_F [48, 53, 8045, 21045, 22045] σ σ35 := by
      rw [e35, e31, e28, e25]
      exact sg_F_w (sg_F_w (sg_F_w (sg_F_w (sg_F_t (sg_F_m f5 rfl) (sg_F_m f9 rfl)) rfl _) rfl _) rfl _) rfl _
    have g53 : ∀ i, sg_g σ35 53 i = sg_g σ9 53 i := fun i => by rw [e35, sg_gw_c _ _ _ _ _ _ (by decide), e31, sg_gw_c _ _ _ _ _ _ (by decide), e28, sg_gw_c _ _ _ _ _ _ (by decide), e25, sg_gw_c _ _ _ _ _ _ (by decide)]
    have g20 : sg_g σ35 45 20 = hs + 2 + L.length := by rw [e35, sg_gw_k _ _ _ _ _ _ (by decide), e31, sg_gw_c _ _ _ _ _ _ (by decide), e28, sg_gw_k _ _ _ _ _ _ (by decide), e25, sg_gw_e _ _ _ _ ⟨by omega, by omega⟩]
    have g21 : sg_g σ35 45 21 = 0 := by rw [e35, sg_gw_k _ _ _ _ _ _ (by decide), e31, sg_gw_c _ _ _ _ _ _ (by decide), e28, sg_gw_e _ _ _ _ (by decide)]
    have g7 : sg_g σ35 45 7 = t + 1 := by rw [e35, sg_gw_e _ _ _ _ ⟨by omega, by omega⟩]
    have g48 : sg_g σ35 48 t = hs := by rw [e35, sg_gw_c _ _ _ _ _ _ (by decide), e31, sg_gw_e _ _ _ _ ⟨by omega, by omega⟩]
    have o48 : ∀ i, ¬ i = t → sg_g σ35 48 i = sg_g σ 48 i := fun i hi => by
      rw [e35, sg_gw_c _ _ _ _ _ _ (by decide), e31, sg_gw_k _ _ _ _ _ _ hi, e28, sg_gw_c _ _ _ _ _ _ (by decide), e25, sg_gw_c _ _ _ _ _ _ (by decide), sg_F_ga f9 rfl, sg_F_ga f5 rfl]
    have ex : cEx σ σ35 := ⟨by rw [g20, hh]; omega, fun i a b => by rw [hh] at b; rw [g53, a1 i (by omega), g5o i b]⟩
    refine k σ35 F ex g20 g21 g7 g48 o48 ?_
    have il : itF (mkF L) = L := itF_mk L
    refine ⟨⟨h0.1, by rw [g20, il]; omega⟩, by rw [il]; exact h2, by rw [cnF_mk]; omega, ⟨by rw [g53, a1 hs (by omega), g50, il], by rw [g53, a1 (hs + 1) (by omega), g51, cnF_mk]; exact hc⟩, fun i w hw => ?_⟩
    rw [il] at hw
    rw [g53, a2 i (gE_l hw)]
    exact cvF_up ex (h3 i w hw)
/-- what an operation comes to -/
def pyF (r : Int ⊕ (vaF × Int)) (w : Int) : (Int × Int) ⊕ (vaF × Int) := match r with
  | .inl e => .inl (e, w)
  | .inr (v, c) => if w + c ≤ 3000 then .inr (v, w + c) else .inl (7, w)
def cR (σ σ' : sg_S) (d : Nat) (t w : Int) : (Int × Int) ⊕ (vaF × Int) → Prop
  | .inl (e, w') => sg_g σ' 45 10 = e ∧ ¬ e = 0 ∧ sg_g σ' 45 22 = w'
  | .inr (v, w') => sg_g σ' 45 10 = 0 ∧ sg_g σ' 45 22 = w' ∧ (w ≤ w' ∧ w' ≤ 3000) ∧ sg_g σ' 45 7 = t + 1 ∧ sg_g σ' 45 21 = 0 ∧ cEx σ σ' ∧ sg_g σ' 45 20 ≤ sg_g σ 45 20 + 3 * (w' - w) + 2 ∧ cvF σ' d v (sg_g σ' 48 t) ∧ ∀ i, i < t → sg_g σ' 48 i = sg_g σ 48 i
abbrev ngL : List Nat := [48, 53, 54, 55, 8045, 11045, 21045, 22045, 23045]
/-- before an operation's own work: its parts are popped -/
def nO (σ : sg_S) (t w : Int) : Prop := sg_g σ 45 10 = 0 ∧ sg_g σ 45 7 = t ∧ sg_g σ 45 22 = w ∧ (0 ≤ t ∧ t ≤ 3000) ∧ (0 ≤ w ∧ w ≤ 3000) ∧ 0 ≤ sg_g σ 45 20 ∧ sg_g σ 45 20 + 3 ≤ 3 * w
theorem n_give {σ : sg_S} {d : Nat} {L : List vaF} {t w : Int} {Q : sg_S → Prop} (hO : nO σ t w) (h9 : sg_g σ 45 9 = (d + 1 : Nat)) (h : cO σ d L) (k : ∀ σ', sg_F [48, 53, 8045, 11045, 21045, 22045, 23045] σ σ' → cR σ σ' (d + 1) t w (pyF (.inr (mkF L, cnL d L)) w) → Q σ') : V_nGive σ Q := by
  obtain ⟨o1, o2, o3, o4, o5, o6, o7⟩ := id hO
  obtain ⟨h1, h2, h3⟩ := id h
  have cl := cnL_l d L
  have it : ∀ (i : Nat) (v : vaF), L[i]? = some v → 1 ≤ d → p_nCountOf σ (sg_g σ 54 i) ∧ v_nCountOf σ (sg_g σ 54 i) = cnvF d v ∧ cnvF d v ≤ 3000 := fun i v hv hd => by
    obtain ⟨d', rfl⟩ : ∃ d', d = d' + 1 := ⟨d - 1, by omega⟩
    have q := cv_cnt (by omega) (h3 i v hv)
    exact ⟨q.1, q.2, (cv_x (h3 i v hv) (by omega)).2.2.2⟩
  have sm : ∀ i : Nat, i ≤ L.length → 1 ≤ d → sumF ((L.take i).map (cnvF d)) ≤ 3000 * i := fun i => by
    induction i with
    | zero => intro _ _; simp [sumF]
    | succ i ih =>
      intro hi hd
      obtain ⟨v, hv⟩ := gE_x (l := L) (i := i) (by omega)
      have a := ih (by omega) hd
      have b := (it i v hv hd).2.2
      rw [tkF_1 hv, List.map_append, sumF_a]
      simp only [List.map_cons, List.map_nil, sumF]
      omega
  unfold V_nGive
  rw [h1, h9]
  refine ⟨fun n v1 v2 => ∃ i : Nat, v2 = i ∧ n = L.length - i ∧ i ≤ L.length ∧ v1 = L.length + sumF ((L.take i).map (cnvF d)), fun v1 => v1 = cnL d L, ⟨_, 0, rfl, rfl, Nat.zero_le _, by simp [sumF]⟩, ?_, ?_⟩
  · rintro n v1 v2 r1 r2 ⟨i, rfl, en, hi, ev⟩
    refine ⟨fun z => ?_, fun z => ⟨fun z1 => ?_, fun z1 => ?_⟩⟩
    · have : L.take i = L := List.take_of_length_le (by omega)
      rw [this] at ev; exact ev
    · have d0 : d = 0 := by omega
      subst d0
      rw [cnL_1, ev]
      have : ∀ l : List vaF, sumF (l.map (cnvF 0)) = 0 := fun l => by
        have := cnL_1 l
        unfold cnL at this
        omega
      rw [this]; omega
    · obtain ⟨v, hv⟩ := gE_x (l := L) (i := i) (by omega)
      obtain ⟨q1, q2, q3⟩ := it i v hv (by omega)
      have s1 := sm i hi (by omega)
      have s0 := sum_0 d (L.take i)
      have c0 := cnF_0 d v
      rw [xa_in ⟨by omega, by omega⟩, q2]
      refine ⟨q1, ⟨by omega, by omega⟩, ⟨by omega, by omega⟩, L.length - (i + 1), by omega, i + 1, by omega, rfl, by omega, ?_⟩
      rw [tkF_1 hv, List.map_append, sumF_a, ev]
      simp only [List.map_cons, List.map_nil, sumF]
      omega
  · rintro v1 r1 rfl
    have r1' := r1.2
    unfold V_nSpend
    rw [o3]
    have cb : cnL d L ≤ 700000 := by
      by_cases hd : 1 ≤ d
      · have := sm L.length (Nat.le_refl _) hd
        rw [List.take_length] at this
        unfold cnL
        omega
      · have d0 : d = 0 := by omega
        subst d0
        rw [cnL_1]; omega
    refine ⟨⟨by omega, by omega⟩, fun z σ3 e3 _ f3 => ⟨fun q => absurd q (by decide), fun _ => ?_⟩, fun z σ6 e6 _ f6 => ⟨fun _ => ?_, fun q => absurd rfl q⟩⟩
    · have f3' : sg_F [23045] σ σ3 := by rw [e3]; exact sg_F_w (sg_F_r _ _) rfl _
      refine n_keep (hs := sg_g σ 45 20) (t := t) (cO_F h f3' rfl) rfl (by omega) (sg_F_g f3' (by rfl)) ⟨o6, by omega⟩ (by rw [sg_F_g f3' (by rfl)]; exact o2) ⟨by omega, by omega⟩ (fun σ' f' k1 k2 k3 k4 k5 k6 k7 _ => k σ' (sg_F_t (sg_F_m f3' rfl) (sg_F_m f' rfl)) ?_)
      unfold pyF
      simp only
      rw [if_pos z]
      refine ⟨by rw [sg_F_g f' (by rfl), sg_F_g f3' (by rfl)]; exact o1, by rw [sg_F_g f' (by rfl), e3, sg_gw_e _ _ _ _ ⟨by omega, by omega⟩], ⟨by omega, by omega⟩, k4, k3, cEx_t (cEx_F f3' rfl) k1, by rw [k2]; omega, by rw [k5]; exact k7, fun i hi => by rw [k6 i (by omega), sg_F_ga f3' rfl]⟩
    · have f6' : sg_F [11045] σ σ6 := by rw [e6]; exact sg_F_w (sg_F_r _ _) rfl _
      refine k σ6 (sg_F_m f6' rfl) ?_
      unfold pyF
      simp only
      rw [if_neg (by omega)]
      exact ⟨by rw [e6, sg_gw_e _ _ _ _ (by decide)], by decide, by rw [sg_F_g f6' (by rfl)]; exact o3⟩
