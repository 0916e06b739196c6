/-! flat ops of the reference, exactly: the small parts. -/
/-- the lanes ks are listed -/
def lX (σ : sg_S) (ks : List Int) : Prop := sg_g σ 88 93 = ks.length ∧ ∀ (i : Nat) (x : Int), ks[i]? = some x → sg_g σ 143 i = x
theorem lX_F {L : List Nat} {σ σ' : sg_S} {ks : List Int} (f : sg_F L σ σ') (hL : (!sg_cv L 88 93 && sg_ca L 143) = true) (h : lX σ ks) : lX σ' ks := by
  simp only [Bool.and_eq_true, Bool.not_eq_true'] at hL
  exact ⟨by rw [sg_F_g f hL.1]; exact h.1, fun i x hx => by rw [sg_F_ga f hL.2]; exact h.2 i x hx⟩
theorem lX_0 {σ σ' : sg_S} (e : σ' = sg_w σ 88 93 0) : lX σ' [] := ⟨by rw [e, sg_gw_e _ _ _ _ ⟨by decide, by decide⟩]; rfl, fun i x hx => by simp at hx⟩
theorem m_listX {σ : sg_S} {ks : List Int} {x : Int} {Q : sg_S → Prop} (h : lX σ ks) (hN : ks.length < 13000) (hx : sg_R x) (k : ∀ σ', lX σ' (ks ++ [x]) → sg_F [143, 94088] σ σ' → Q σ') : V_list σ x Q := by
  obtain ⟨h1, h2⟩ := h
  unfold V_list
  refine ⟨⟨by omega, by omega⟩, fun σ2 e2 => ⟨⟨by omega, by omega⟩, fun σ6 e6 => k σ6 ⟨?_, fun i y hy => ?_⟩ (by rw [e6, e2]; exact sg_F_w (sg_F_w (sg_F_r _ _) rfl _) rfl _)⟩⟩
  · rw [e6, sg_gw_e _ _ _ _ ⟨by omega, by omega⟩, List.length_append, List.length_cons, List.length_nil]; omega
  · rw [e6, sg_gw_c _ _ _ _ _ _ (by decide), e2, h1]
    rcases Nat.lt_or_ge i ks.length with q | q
    · rw [List.getElem?_append_left q] at hy
      rw [sg_gw_k _ _ _ _ _ _ (by omega)]
      exact h2 i y hy
    · rw [List.getElem?_append_right q] at hy
      have hl := lt_of_get hy
      simp only [List.length_cons, List.length_nil] at hl
      have ei : i = ks.length := by omega
      rw [ei, Nat.sub_self] at hy
      cases hy
      rw [ei, sg_gw_e _ _ _ _ hx]
/-- no lane lacks anything (0), or the least that does lacks e -/
def fqX (σ : sg_S) (e : Int) : Prop := (e = 0 ∧ sg_g σ 88 102 < 0) ∨ (¬ e = 0 ∧ 0 ≤ sg_g σ 88 102 ∧ sg_g σ 88 103 = e)
theorem m_lacksX {σ : sg_S} {i f e : Int} {Q : sg_S → Prop} (hi : 0 ≤ i ∧ sg_R i) (hf : ¬ f = 0 ∧ sg_R f) (h : fqX σ e) (k : ∀ σ', fqX σ' (if e = 0 then f else e) → sg_F [103088, 104088] σ σ' → Q σ') : V_lacks σ i f Q := by
  unfold V_lacks
  refine ⟨fun z => k σ ?_ (sg_F_r _ _), fun z σ2 e2 σ5 e5 => ?_⟩
  · rcases h with ⟨a, b⟩ | ⟨a, b, c⟩
    · omega
    · rw [if_neg a]; exact Or.inr ⟨a, b, c⟩
  · refine k σ5 ?_ (by rw [e5, e2]; exact sg_F_w (sg_F_w (sg_F_r _ _) rfl _) rfl _)
    rcases h with ⟨a, b⟩ | ⟨a, b, c⟩
    · rw [if_pos a]
      refine Or.inr ⟨hf.1, ?_, ?_⟩
      · rw [e5, sg_gw_k _ _ _ _ _ _ (by decide), e2, sg_gw_e _ _ _ _ hi.2]; exact hi.1
      · rw [e5, sg_gw_e _ _ _ _ hf.2]
    · omega
/-- counters: STEPS, CELLS, most LANES -/
def fcX (σ : sg_S) (s : fSt) : Prop := sg_g σ 88 84 = s.1 ∧ sg_g σ 88 85 = s.2.1 ∧ sg_g σ 88 86 = s.2.2 ∧ (0 ≤ s.1 ∧ s.1 ≤ 2000) ∧ 0 ≤ s.2.1 ∧ s.2.1 ≤ 6000
theorem m_stepX {σ : sg_S} {a : Int} {s : fSt} {Q : Int → sg_S → Prop} (h : fcX σ s) (ha : 0 ≤ a ∧ a ≤ 1000000000) (k0 : fStp a s = none → ∀ σ', sg_g σ' 88 73 = 8 → fcX σ' s → sg_F [74088] σ σ' → Q 0 σ') (k1 : ∀ s', fStp a s = some s' → ∀ σ', fcX σ' s' → sg_F [85088, 86088] σ σ' → Q 1 σ') : V_stepped σ a Q := by
  obtain ⟨h1, h2, h3, h4, h5⟩ := id h
  have z0 : ∀ σ2, σ2 = sg_w σ 88 73 8 → fStp a s = none → Q 0 σ2 := fun σ2 e2 hn => by
    have f2 : sg_F [74088] σ σ2 := by rw [e2]; exact sg_F_w (sg_F_r _ _) rfl _
    refine k0 hn σ2 (by rw [e2, sg_gw_e _ _ _ _ ⟨by decide, by decide⟩]) ⟨by rw [sg_F_g f2 (by rfl)]; exact h1, by rw [sg_F_g f2 (by rfl)]; exact h2, by rw [sg_F_g f2 (by rfl)]; exact h3, h4, h5⟩ f2
  unfold V_stepped
  refine ⟨fun z σ2 e2 => z0 σ2 e2 ?_, fun z => ⟨⟨by omega, by omega⟩, fun w => ⟨⟨by omega, by omega⟩, fun σ8 e8 => ⟨⟨by omega, by omega⟩, fun σ12 e12 => ?_⟩⟩, fun w σ2 e2 => z0 σ2 e2 ?_⟩⟩
  · unfold fStp
    rw [if_pos (Or.inl (by omega))]
  · have f12 : sg_F [85088, 86088] σ σ12 := by rw [e12, e8]; exact sg_F_w (sg_F_w (sg_F_r _ _) rfl _) rfl _
    refine k1 (s.1 + 1, s.2.1 + a, s.2.2) (by unfold fStp; rw [if_neg (by omega)]) σ12 ⟨?_, ?_, by rw [sg_F_g f12 (by rfl)]; exact h3, ⟨by simp only; omega, by simp only; omega⟩, by simp only; omega, by simp only; omega⟩ f12
    · rw [e12, sg_gw_k _ _ _ _ _ _ (by decide), e8, sg_gw_e _ _ _ _ ⟨by omega, by omega⟩, h1]
    · rw [e12, sg_gw_e _ _ _ _ ⟨by omega, by omega⟩, h2]
  · unfold fStp
    rw [if_pos (Or.inr (by omega))]
/-! flat ops of the reference, exactly: rows of numbers, inner and outer rows. -/
theorem m_putX {σ σb : sg_S} {f s t c : Int} {b : Prop} {cl : List Int} {Q : sg_S → Prop} (h : gHX σb f b s t cl σ) (hf : 0 ≤ f) (h6 : f + s < 60000) (hc : sg_R c) (hb : b → 0 ≤ c ∧ c ≤ 200) (k : ∀ σ', gHX σb f b (s + 1) (t + c) (cl ++ [c]) σ' → sg_F [142, 92088] σ σ' → Q σ') : V_put σ c Q := by
  have h1 := h.1.1
  unfold V_put
  refine ⟨⟨by omega, by omega⟩, fun σ2 e2 => ⟨⟨by omega, by omega⟩, fun σ6 e6 => k σ6 (gHX_p h hf (by omega) hc hb e2 e6) (by rw [e6, e2]; exact sg_F_w (sg_F_w (sg_F_r _ _) rfl _) rfl _)⟩⟩
theorem m_numbersX {σ : sg_S} {M f : Int} {l : List vaF} {Q : Int → sg_S → Prop} (h : 0 ≤ sg_g σ 88 87 ∧ sg_g σ 88 87 < 30000) (hf : 0 ≤ f ∧ f ≤ sg_g σ 88 91 ∧ sg_g σ 88 91 ≤ 60000) (hM : sg_g σ 88 91 - f ≤ M) (hl : (l.length : Int) = sg_g σ 88 91 - f) (hc : ∀ (i : Nat) (v : vaF), l[i]? = some v → sg_g σ 142 (f + i) = v []) (k : ∀ q σ', q = sg_g σ 88 87 → fEx σ σ' → fX σ' M q 0 l [(f, sg_g σ 88 91 - f)] → sg_g σ' 88 87 = sg_g σ 88 87 + 1 → sg_F [139, 140, 141, 88088] σ σ' → Q q σ') : V_numbers σ f Q := by
  refine m_numbers h hf hM (fun q σ' e ex fv e87 F => k q σ' e ex ⟨fv, rfl, trivial, fun j hj => ?_⟩ e87 F)
  have j0 : j = 0 := by omega
  subst j0
  refine ⟨by simp only [lvl, List.length_map]; exact hl, fun i x hx => ?_⟩
  have hi := lt_of_get hx
  simp only [lvl, List.length_map] at hi
  simp only [lvl, List.getElem?_map] at hx
  rw [List.getElem?_eq_getElem hi, Option.map_some] at hx
  show sg_g σ' 142 (f + i) = x
  rw [ex.2.2.2 _ (by omega) (by omega), hc i _ (List.getElem?_eq_getElem hi)]
  exact Option.some.inj hx
section FXO
variable {σ : sg_S} {M v : Int} {d : Nat} {l : List vaF} {R : List (Int × Int)}
theorem fX_up {σ' : sg_S} (h : fEx σ σ') (a : fX σ M v d l R) : fX σ' M v d l R := by
  obtain ⟨a1, a2, a3, a4⟩ := a
  refine ⟨fV_up h a1, a2, a3, fun j hj => ⟨(a4 j hj).1, fun i x hx => ?_⟩⟩
  obtain ⟨r, hr⟩ : ∃ r, R[j]? = some r := ⟨_, List.getElem?_eq_getElem (by omega)⟩
  obtain ⟨b1, b2, b3, b4⟩ := (fCh_at a1.2.2.2.2 hr).1
  have er : R.getD j (0, 0) = r := by rw [List.getD_eq_getElem?_getD, hr]; rfl
  have hl := (a4 j hj).1
  have hi := lt_of_get hx
  rw [er] at hl ⊢
  rw [h.2.2.2 _ (by omega) (by omega)]
  have := (a4 j hj).2 i x hx
  rw [er] at this
  exact this
theorem m_innerX {r : Int × Int} {Q : Int → sg_S → Prop} (h : 0 ≤ sg_g σ 88 87 ∧ sg_g σ 88 87 < 30000) (hv : fX σ M v (d + 1) l (r :: R)) (k : ∀ q σ', q = sg_g σ 88 87 → fEx σ σ' → fX σ' M q d (flF l) R → sg_g σ' 88 87 = sg_g σ 88 87 + 1 → sg_F [139, 140, 141, 88088] σ σ' → Q q σ') : V_inner σ v Q := by
  have hv' := hv
  obtain ⟨a1, a2, a3, a4⟩ := hv
  simp only [List.length_cons] at a2
  refine m_inner h a1 (by omega) (fun q σ' e ex fv e87 F => k q σ' e ex ⟨fv, by omega, a3.2, fun j hj => ?_⟩ e87 F)
  have b := (fX_up ex hv').2.2.2 (j + 1) (by omega)
  exact b
theorem m_outerX {f s : Int} {r : Int × Int} {L : List vaF} {Q : Int → sg_S → Prop} (h : 0 ≤ sg_g σ 88 87 ∧ sg_g σ 88 87 < 30000) (hv : fX σ M v d (flF L) (r :: R)) (hR : R.length ≤ 2) (hf : sg_R f ∧ sg_R s) (hw : fRw σ M (f, s)) (hs : (L.length : Int) = s) (hl : ∀ (i : Nat) (u : vaF), L[i]? = some u → sg_g σ 142 (f + i) = u [] ∧ 0 ≤ u [] ∧ u [] ≤ 200) (k : ∀ q σ', q = sg_g σ 88 87 → fEx σ σ' → fX σ' M q (d + 1) L ((f, s) :: r :: R) → sg_g σ' 88 87 = sg_g σ 88 87 + 1 → sg_F [139, 140, 141, 88088] σ σ' → Q q σ') : V_outer σ f s v Q := by
  have hv' := hv
  obtain ⟨a1, a2, a3, a4⟩ := hv
  have c0 : ∀ (i : Nat) (x : Int), (lvl 0 L)[i]? = some x → sg_g σ 142 (f + i) = x := fun i x hx => by
    have hi := lt_of_get hx
    simp only [lvl, List.length_map] at hi
    simp only [lvl, List.getElem?_map] at hx
    rw [List.getElem?_eq_getElem hi, Option.map_some] at hx
    rw [(hl i _ (List.getElem?_eq_getElem hi)).1]
    exact Option.some.inj hx
  have okL : ∀ u ∈ L, 0 ≤ u [] := fun u hu => by
    obtain ⟨i, hi⟩ := List.getElem?_of_mem hu
    exact (hl i u hi).2.1
  refine m_outer h a1 hR hf hw (fun i i0 i1 => ?_) ?_ (fun q σ' e ex fv e87 F => k q σ' e ex ⟨fv, by simp only [List.length_cons] at a2 ⊢; omega, ⟨okL, a3⟩, fun j hj => ?_⟩ e87 F)
  · have hi : i.toNat < L.length := by simp only at i1; omega
    have := hl i.toNat _ (List.getElem?_eq_getElem hi)
    rw [show ((i.toNat : Nat) : Int) = i by omega] at this
    simp only
    rw [this.1]
    exact this.2
  · have e0 := (a4 0 (Nat.zero_le _)).1
    simp only [lvl, List.length_map] at e0
    have e1 : r.2 = ((flF L).length : Int) := e0.symm
    have e2 := lvl_n L okL
    rw [e1, e2, cs_sum c0 s.toNat (by simp only [lvl, List.length_map]; omega), List.take_of_length_le (by simp only [lvl, List.length_map]; omega)]
  · cases j with
    | zero =>
      refine ⟨by simp only [lvl, List.length_map]; exact hs, fun i x hx => ?_⟩
      have hi := lt_of_get hx
      simp only [lvl, List.length_map] at hi
      obtain ⟨w1, w2, w3, w4⟩ := hw
      simp only at w1 w2 w3 w4
      show sg_g σ' 142 (f + i) = x
      rw [ex.2.2.2 _ (by omega) (by omega)]
      exact c0 i x hx
    | succ j => exact (fX_up ex hv').2.2.2 j (by omega)
end FXO
/-! gathered, extentOfLanes: lists of lanes. -/
/-- lane k, or nothing -/
def lnF (l : List vaF) (k : Int) : vaF := if k < 0 then nmF 0 else l.getD k.toNat (nmF 0)
theorem okF_z : ∀ d : Nat, okF d [nmF 0]
  | 0 => trivial
  | d + 1 => by
    have e : itF (nmF 0) = [] := by simp [itF, nmF]
    have z : ∀ d : Nat, okF d [] := fun d => by
      induction d with
      | zero => trivial
      | succ d ih => exact ⟨fun v hv => (by cases hv), by rw [flF_0]; exact ih⟩
    exact ⟨fun v hv => by
      have : v = nmF 0 := by simpa using hv
      rw [this]
      exact Int.le_refl _, by rw [flF_1, e]; exact z d⟩
theorem okF_0 (d : Nat) : okF d [] := by
  induction d with
  | zero => trivial
  | succ d ih => exact ⟨fun v hv => (by cases hv), by rw [flF_0]; exact ih⟩
theorem okF_i {d : Nat} {l : List vaF} (h : okF d l) {v : vaF} (hv : v ∈ l) : okF d [v] := by
  obtain ⟨l1, l2, e⟩ := List.append_of_mem hv
  rw [e] at h
  have h2 := ((okF_a d l1 (v :: l2)).mp h).2
  exact ((okF_a d [v] l2).mp h2).1
theorem okF_ln {d : Nat} {l : List vaF} (h : okF d l) (k : Int) : okF d [lnF l k] := by
  unfold lnF
  by_cases c : k < 0
  · rw [if_pos c]; exact okF_z d
  · rw [if_neg c, List.getD_eq_getElem?_getD]
    rcases Nat.lt_or_ge k.toNat l.length with q | q
    · rw [List.getElem?_eq_getElem q, Option.getD_some]
      exact okF_i h (List.getElem_mem q)
    · rw [List.getElem?_eq_none q, Option.getD_none]
      exact okF_z d
theorem okF_m {d : Nat} {l : List vaF} (h : okF d l) : ∀ ks : List Int, okF d (ks.map (lnF l))
  | [] => okF_0 d
  | k :: r => by
    rw [List.map_cons]
    exact (okF_a d [lnF l k] (r.map (lnF l))).mpr ⟨okF_ln h k, okF_m h r⟩
section FXG
variable {σ : sg_S} {M v : Int} {d : Nat} {l : List vaF} {R : List (Int × Int)} {ks : List Int}
theorem sel_k (hk : lX σ ks) : (List.range ks.length).map (sel σ l) = ks.map (lnF l) := by
  apply List.ext_getElem?
  intro i
  rw [List.getElem?_map, List.getElem?_map]
  rcases Nat.lt_or_ge i ks.length with q | q
  · rw [List.getElem?_range q, List.getElem?_eq_getElem q, Option.map_some, Option.map_some]
    unfold sel lnF
    rw [hk.2 i _ (List.getElem?_eq_getElem q)]
  · rw [List.getElem?_eq_none (by rw [List.length_range]; exact q), List.getElem?_eq_none q]
    rfl
theorem lnO_X (hv : fX σ M v d l R) (hk : lX σ ks) (hl : ∀ x ∈ ks, x < l.length) (hn : ks.length ≤ 13000) : lnO σ R := by
  refine ⟨by rw [hk.1]; exact ⟨Int.natCast_nonneg _, by omega⟩, fun j x y => ?_⟩
  rw [hk.1] at y
  rw [fX_n hv]
  have hj : j.toNat < ks.length := by omega
  have := hk.2 j.toNat _ (List.getElem?_eq_getElem hj)
  rw [show ((j.toNat : Nat) : Int) = j by omega] at this
  rw [this]
  exact hl _ (List.getElem_mem hj)
theorem gs_X (hv : fX σ M v d l R) (hM : 1 ≤ M) (hk : lX σ ks) (hl : ∀ x ∈ ks, x < l.length) (hn : ks.length ≤ 13000) {lv : Nat} (hlv : lv ≤ d) : gCl σ R lv ks.length = lvl lv (ks.map (lnF l)) ∧ gsum σ R lv ks.length = ((lvl lv (ks.map (lnF l))).length : Int) := by
  have h1 : ∀ j : Nat, j < ks.length → sg_g σ 143 j < l.length := fun j hj => by
    rw [hk.2 j _ (List.getElem?_eq_getElem hj)]
    exact hl _ (List.getElem_mem hj)
  have e := gCl_F hv hlv ks.length h1
  rw [sel_k hk] at e
  have e2 := gCl_l hv.1.2.2.2.2 (lnO_X hv hk hl hn) (l := lv) (by have := hv.2.1; omega) hM ks.length (by rw [hk.1]; exact Int.le_refl _)
  rw [e] at e2
  exact ⟨e, e2.symm⟩
theorem gT_X (hv : fX σ M v d l R) (hM : 1 ≤ M) (hk : lX σ ks) (hl : ∀ x ∈ ks, x < l.length) (hn : ks.length ≤ 13000) : gT σ R ks.length R.length = exF d (ks.map (lnF l)) := by
  have key : ∀ (n j : Nat), j + n ≤ d → gT σ R ks.length (j + n + 1) = gT σ R ks.length j + lvS n (ks.map (lnF l)) j := fun n => by
    induction n with
    | zero =>
      intro j hj
      simp only [gT, lvS, Nat.add_zero]
      rw [(gs_X hv hM hk hl hn (lv := j) (by omega)).2]
    | succ n ih =>
      intro j hj
      have := ih (j + 1) (by omega)
      rw [show j + (n + 1) + 1 = j + 1 + n + 1 by omega, this]
      simp only [gT, lvS]
      rw [(gs_X hv hM hk hl hn (lv := j) (by omega)).2]
      omega
  have := key d 0 (by omega)
  rw [hv.2.1, exF_l, show d + 1 = 0 + d + 1 by omega, this]
  simp only [gT]
  omega
theorem m_extX {Q : Int → sg_S → Prop} (hv : fX σ M v d l R) (hM : 1 ≤ M ∧ M ≤ 12000) (hc : sg_g σ 88 91 ≤ 60000 ∧ sg_g σ 88 87 ≤ 30000) (hk : lX σ ks) (hl : ∀ x ∈ ks, x < l.length) (hn : ks.length ≤ 13000) (k : ∀ σ', sg_F [144] σ σ' → Q (exF d (ks.map (lnF l))) σ') : V_extentOfLanes σ v Q := by
  refine m_extL hv.1 hM hc (lnO_X hv hk hl hn) (fun q σ' e F => ?_)
  rw [hk.1, Int.toNat_natCast, gT_X hv hM.1 hk hl hn] at e
  rw [e]
  exact k σ' F
theorem m_gathF {Q : Int → sg_S → Prop} (hv : fX σ M v d l R) (hM : 1 ≤ M ∧ M ≤ 12000) (hc : 0 ≤ sg_g σ 88 91) (hfl : 0 ≤ sg_g σ 88 87 ∧ sg_g σ 88 87 < 30000) (hk : lX σ ks) (hl : ∀ x ∈ ks, x < l.length) (hn : ks.length ≤ 13000) (ht : sg_g σ 88 91 + exF d (ks.map (lnF l)) ≤ 60000) (k : ∀ q σ', q = sg_g σ 88 87 → fEx σ σ' → (∀ M', (∀ j : Nat, j ≤ d → ((lvl j (ks.map (lnF l))).length : Int) ≤ M') → fX σ' M' q d (ks.map (lnF l)) (gR σ R)) → sg_g σ' 88 87 = sg_g σ 88 87 + 1 → sg_g σ' 88 91 = sg_g σ 88 91 + exF d (ks.map (lnF l)) → sg_F [139, 140, 141, 142, 144, 88088, 92088] σ σ' → Q q σ') : V_gathered σ v Q := by
  have eJ : (sg_g σ 88 93).toNat = ks.length := by rw [hk.1, Int.toNat_natCast]
  have eT := gT_X hv hM.1 hk hl hn
  have lR := hv.2.1
  refine m_gathX hv.1 hM hc hfl (lnO_X hv hk hl hn) (by rw [eJ, eT]; exact ht) (fun q σ' e ex fv cl e87 e91 F => k q σ' e ex (fun M' hM' => ?_) e87 (by rw [e91, eJ, eT]) F)
  refine ⟨fv M' (fun lv hlv => ?_), by rw [gR_l]; exact lR, okF_m hv.2.2.1 ks, fun j hj => ?_⟩
  · rw [eJ, (gs_X hv hM.1 hk hl hn (lv := lv) (by omega)).2]
    exact hM' lv (by omega)
  · have g := gs_X hv hM.1 hk hl hn (lv := j) hj
    have er : (gR σ R).getD j (0, 0) = (sg_g σ 88 91 + gT σ R (sg_g σ 88 93).toNat j, gsum σ R j (sg_g σ 88 93).toNat) := by
      rw [List.getD_eq_getElem?_getD, gR_at (by omega)]
      rfl
    rw [er]
    simp only
    rw [eJ] at cl ⊢
    refine ⟨g.2.symm, fun i x hx => ?_⟩
    exact cl j i x (by omega) (by rw [g.1]; exact hx)
end FXG
/-! joined: values one behind the other. -/
/-- the first m lists, one behind the other -/
def apF (Ls : Nat → List vaF) : Nat → List vaF
  | 0 => []
  | m + 1 => apF Ls m ++ Ls m
theorem okF_ap {d : Nat} {Ls : Nat → List vaF} : ∀ m : Nat, (∀ k, k < m → okF d (Ls k)) → okF d (apF Ls m)
  | 0, _ => okF_0 d
  | m + 1, h => (okF_a d _ _).mpr ⟨okF_ap m (fun k x => h k (by omega)), h m (by omega)⟩
section FXJ
variable {σ : sg_S} {M : Int} {d : Nat} {Ls : Nat → List vaF} {RR : Nat → List (Int × Int)}
theorem jS_X {m : Nat} (hv : ∀ k : Nat, k < m → ∀ j : Nat, j ≤ d → ((lvl j (Ls k)).length : Int) = ((RR k).getD j (0, 0)).2) {j : Nat} (hj : j ≤ d) : ∀ m' : Nat, m' ≤ m → jS RR j m' = ((lvl j (apF Ls m')).length : Int)
  | 0, _ => by simp only [jS, apF]; rw [lvl_0]; rfl
  | m' + 1, h => by
    simp only [jS, apF]
    rw [jS_X hv hj m' (by omega), lvl_a, List.length_append, ← hv m' (by omega) j hj]
    omega
theorem jT_Y {m : Nat} (hv : ∀ k : Nat, k < m → ∀ j : Nat, j ≤ d → ((lvl j (Ls k)).length : Int) = ((RR k).getD j (0, 0)).2) : jT RR m (d + 1) = exF d (apF Ls m) := by
  have key : ∀ (n j : Nat), j + n ≤ d → jT RR m (j + n + 1) = jT RR m j + lvS n (apF Ls m) j := fun n => by
    induction n with
    | zero =>
      intro j hj
      simp only [jT, lvS, Nat.add_zero]
      rw [jS_X hv (by omega) m (Nat.le_refl _)]
    | succ n ih =>
      intro j hj
      have := ih (j + 1) (by omega)
      rw [show j + (n + 1) + 1 = j + 1 + n + 1 by omega, this]
      simp only [jT, lvS]
      rw [jS_X hv (by omega) m (Nat.le_refl _)]
      omega
  have := key d 0 (by omega)
  rw [exF_l, show d + 1 = 0 + d + 1 by omega, this]
  simp only [jT]
  omega
theorem m_joinF {fr mn : Int} {m : Nat} {Q : Int → sg_S → Prop} (hm : mn = m ∧ 1 ≤ m) (hfr : 0 ≤ fr ∧ fr + mn ≤ 12000) (hv : ∀ k : Nat, k < m → fX σ M (sg_g σ 133 (fr + k)) d (Ls k) (RR k)) (hc : 0 ≤ sg_g σ 88 91) (hfl : 0 ≤ sg_g σ 88 87 ∧ sg_g σ 88 87 < 30000) (hM : M ≤ 12000) (ht : sg_g σ 88 91 + exF d (apF Ls m) ≤ 60000) (k : ∀ q σ', q = sg_g σ 88 87 → fEx σ σ' → (∀ M', (∀ j : Nat, j ≤ d → ((lvl j (apF Ls m)).length : Int) ≤ M') → fX σ' M' q d (apF Ls m) (jR RR (sg_g σ 88 91) m (d + 1))) → sg_g σ' 88 87 = sg_g σ 88 87 + 1 → sg_g σ' 88 91 = sg_g σ 88 91 + exF d (apF Ls m) → sg_F [139, 140, 141, 142, 88088, 92088] σ σ' → Q q σ') : V_joined σ fr mn Q := by
  have hs : ∀ k : Nat, k < m → ∀ j : Nat, j ≤ d → ((lvl j (Ls k)).length : Int) = ((RR k).getD j (0, 0)).2 := fun k hk j hj => ((hv k hk).2.2.2 j hj).1
  have eT := jT_Y hs
  refine m_join (RR := RR) (K := d + 1) hm hfr (fun k hk => ⟨(hv k hk).1, (hv k hk).2.1⟩) hc hfl hM (by rw [eT]; exact ht) (fun q σ' e ex fv jc e87 e91 F => k q σ' e ex (fun M' hM' => ?_) e87 (by rw [e91, eT]) F)
  refine ⟨fv M' (fun lv hlv => by rw [jS_X hs (by omega) m (Nat.le_refl _)]; exact hM' lv (by omega)), by rw [jR_l], okF_ap m (fun k hk => (hv k hk).2.2.1), fun j hj => ?_⟩
  have er : (jR RR (sg_g σ 88 91) m (d + 1)).getD j (0, 0) = (sg_g σ 88 91 + jT RR m j, jS RR j m) := by
    rw [List.getD_eq_getElem?_getD, jR_at (by omega)]
    rfl
  rw [er]
  simp only
  refine ⟨(jS_X hs hj m (Nat.le_refl _)).symm, ?_⟩
  obtain ⟨c1, -⟩ := jc j (by omega)
  have key : ∀ m' : Nat, m' ≤ m → ∀ (i : Nat) (x : Int), (lvl j (apF Ls m'))[i]? = some x → sg_g σ' 142 (sg_g σ 88 91 + jT RR m j + i) = x := fun m' => by
    induction m' with
    | zero =>
      intro _ i x hx
      simp only [apF] at hx
      rw [lvl_0] at hx
      simp at hx
    | succ m' ih =>
      intro hm' i x hx
      simp only [apF] at hx
      rw [lvl_a] at hx
      rcases Nat.lt_or_ge i (lvl j (apF Ls m')).length with q | q
      · rw [List.getElem?_append_left q] at hx
        exact ih (by omega) i x hx
      · rw [List.getElem?_append_right q] at hx
        have hl := lt_of_get hx
        have e1 := jS_X hs hj m' (by omega)
        have e2 := hs m' (by omega) j hj
        have cc := c1 m' (by omega) ((i - (lvl j (apF Ls m')).length : Nat) : Int) (Int.natCast_nonneg _) (by omega)
        rw [show sg_g σ 88 91 + jT RR m j + jS RR j m' + ((i - (lvl j (apF Ls m')).length : Nat) : Int) = sg_g σ 88 91 + jT RR m j + i by omega] at cc
        rw [cc]
        exact ((hv m' (by omega)).2.2.2 j hj).2 _ x hx
  exact key m (Nat.le_refl _)
end FXJ
/-! flat ops of the reference, exactly: lanes, items ahead of a lane, what an op comes to. -/
theorem gD_i {l : List vaF} {i : Nat} (h : i < l.length) : l[i]? = some (l.getD i (nmF 0)) := by
  rw [List.getD_eq_getElem?_getD, List.getElem?_eq_getElem h]; rfl
theorem lvl0_i {l : List vaF} {i : Nat} (h : i < l.length) : (lvl 0 l)[i]? = some ((l.getD i (nmF 0)) []) := by
  simp only [lvl, List.getElem?_map]
  rw [gD_i h]; rfl
theorem lvl_ex : ∀ (d j : Nat) (l : List vaF), j ≤ d → ((lvl j l).length : Int) ≤ exF d l
  | d, 0, l, _ => by
    have := exF_n d l
    simp only [lvl, List.length_map]
    exact this
  | 0, j + 1, l, h => by omega
  | d + 1, j + 1, l, h => by
    have a := lvl_ex d j (flF l) (by omega)
    have b : (0 : Int) ≤ (l.length : Int) := Int.natCast_nonneg _
    simp only [lvl, exF]
    omega
/-- items ahead of lane i -/
def ahF (l : List vaF) (i : Nat) : Nat := (flF (l.take i)).length
theorem dr_D {l : List vaF} {i : Nat} (h : i < l.length) : l.drop i = l.getD i (nmF 0) :: l.drop (i + 1) := by
  rw [List.drop_eq_getElem_cons h, List.getD_eq_getElem?_getD, List.getElem?_eq_getElem h]; rfl
theorem flF_at {l : List vaF} {i : Nat} (h : i < l.length) : flF l = flF (l.take i) ++ (itF (l.getD i (nmF 0)) ++ flF (l.drop (i + 1))) := by
  have e : flF l = flF (l.take i ++ l.drop i) := by rw [List.take_append_drop]
  rw [e, flF_a, dr_D h, flF_c]
theorem ahF_0 (l : List vaF) : ahF l 0 = 0 := by
  unfold ahF
  rw [List.take_zero, flF_0]; rfl
theorem ahF_n (l : List vaF) : ahF l l.length = (flF l).length := by
  unfold ahF
  rw [List.take_length]
theorem ahF_s {l : List vaF} {i : Nat} (h : i < l.length) : ahF l (i + 1) = ahF l i + (itF (l.getD i (nmF 0))).length := by
  have e : l.take (i + 1) = l.take i ++ [l.getD i (nmF 0)] := by rw [List.take_add_one, gD_i h]; rfl
  unfold ahF
  rw [e, flF_a, flF_1, List.length_append]
theorem ahF_b {l : List vaF} {i : Nat} (h : i < l.length) : ahF l i + (itF (l.getD i (nmF 0))).length ≤ (flF l).length := by
  have e := congrArg List.length (flF_at h)
  simp only [List.length_append] at e
  unfold ahF
  omega
theorem fl_g {l : List vaF} {i k : Nat} (h : i < l.length) (hk : k < (itF (l.getD i (nmF 0))).length) : (flF l)[ahF l i + k]? = (itF (l.getD i (nmF 0)))[k]? := by
  rw [flF_at h]
  unfold ahF
  rw [List.getElem?_append_right (by omega), Nat.add_sub_cancel_left, List.getElem?_append_left hk]
theorem ln_it {l : List vaF} {i k : Nat} (h : i < l.length) (hk : k < (itF (l.getD i (nmF 0))).length) : lnF (flF l) ((ahF l i : Int) + k) = (itF (l.getD i (nmF 0))).getD k (nmF 0) := by
  unfold lnF
  rw [if_neg (by omega), show ((ahF l i : Int) + k).toNat = ahF l i + k by omega, List.getD_eq_getElem?_getD, fl_g h hk, ← List.getD_eq_getElem?_getD]
/-- places from a on, n of them -/
def rnF (a : Int) (n : Nat) : List Int := (List.range n).map (fun k : Nat => a + k)
theorem rnF_s (a : Int) (n : Nat) : rnF a (n + 1) = rnF a n ++ [a + n] := by
  unfold rnF
  rw [List.range_succ, List.map_append]; rfl
theorem rnF_l (a : Int) (n : Nat) : (rnF a n).length = n := by
  unfold rnF
  rw [List.length_map, List.length_range]
theorem rnF_m {a x : Int} {n : Nat} (h : x ∈ rnF a n) : a ≤ x ∧ x < a + n := by
  unfold rnF at h
  obtain ⟨k, hk, e⟩ := List.mem_map.mp h
  have e' : a + (k : Int) = x := e
  rw [List.mem_range] at hk
  omega
theorem ln_run {l : List vaF} {i : Nat} (h : i < l.length) : ∀ n : Nat, n ≤ (itF (l.getD i (nmF 0))).length → (rnF (ahF l i) n).map (lnF (flF l)) = (itF (l.getD i (nmF 0))).take n
  | 0, _ => rfl
  | n + 1, hn => by
    rw [rnF_s, List.map_append, ln_run h n (by omega), List.map_cons, List.map_nil, ln_it h (by omega), List.take_add_one, gD_i (by omega)]
    rfl
theorem ln_all {l : List vaF} {i : Nat} (h : i < l.length) : (rnF (ahF l i) (itF (l.getD i (nmF 0))).length).map (lnF (flF l)) = itF (l.getD i (nmF 0)) := by
  rw [ln_run h _ (Nat.le_refl _), List.take_of_length_le (Nat.le_refl _)]
theorem fOe_a : ∀ (l : List (Int ⊕ vaF)) (r : Int ⊕ vaF), fOe (l ++ [r]) = if fOe l = 0 then fOe [r] else fOe l
  | [], r => by
    rw [List.nil_append, show fOe [] = 0 from rfl, if_pos rfl]
  | .inl e :: t, r => by
    have ih := fOe_a t r
    by_cases c : e = 0
    · have h1 : ∀ m : List (Int ⊕ vaF), fOe (.inl e :: m) = fOe m := fun m => by simp only [fOe]; rw [if_pos c]
      rw [List.cons_append, h1, h1, ih]
    · have h1 : ∀ m : List (Int ⊕ vaF), fOe (.inl e :: m) = e := fun m => by simp only [fOe]; rw [if_neg c]
      rw [List.cons_append, h1, h1, if_neg c]
  | .inr v :: t, r => by
    have h1 : ∀ m : List (Int ⊕ vaF), fOe (.inr v :: m) = fOe m := fun m => rfl
    rw [List.cons_append, h1, h1, fOe_a t r]
theorem fOe_r (f : Nat → Int ⊕ vaF) (n : Nat) : fOe ((List.range (n + 1)).map f) = if fOe ((List.range n).map f) = 0 then fOe [f n] else fOe ((List.range n).map f) := by
  rw [List.range_succ, List.map_append]
  exact fOe_a _ _
theorem fOe_l (e : Int) : fOe [.inl e] = e := by
  simp only [fOe]
  by_cases c : e = 0
  · rw [if_pos c, c]
  · rw [if_neg c]
/-- an op over lanes rs: ROOM; or a STEP more, and then the finding of the least lane that has one, or the value -/
def opX (σ σ' : sg_S) (K : Nat) (rs : List (Int ⊕ vaF)) (s : fSt) (q : Int) : Prop := (fStp (exF K (rs.map fOv)) s = none ∧ sg_g σ' 88 73 = 8 ∧ fcX σ' s) ∨ ∃ s1, fStp (exF K (rs.map fOv)) s = some s1 ∧ (sg_g σ' 88 73 = sg_g σ 88 73 ∧ fcX σ' s1 ∧ fqX σ' (fOe rs)) ∧ fEx σ σ' ∧ (fOe rs = 0 → sg_g σ' 88 91 ≤ 2 * sg_g σ' 88 85) ∧ sg_g σ' 88 87 ≤ sg_g σ 88 87 + 8 ∧ (fOe rs = 0 → ∃ R, fX σ' 6000 q K (rs.map fOv) R)
theorem fStp_s {a : Int} {s s' : fSt} (h : fStp a s = some s') : s'.1 = s.1 + 1 ∧ s'.2.1 = s.2.1 + a ∧ s'.2.2 = s.2.2 ∧ ¬ s.1 = 2000 ∧ s.2.1 + a ≤ 6000 := by
  unfold fStp at h
  by_cases c : s.1 = 2000 ∨ 6000 < s.2.1 + a
  · rw [if_pos c] at h; cases h
  · rw [if_neg c] at h
    cases h
    exact ⟨rfl, rfl, rfl, by omega, by omega⟩
theorem fcX_F {L : List Nat} {σ σ' : sg_S} {s : fSt} (f : sg_F L σ σ') (hL : (!sg_cv L 88 84 && !sg_cv L 88 85 && !sg_cv L 88 86) = true) (h : fcX σ s) : fcX σ' s := by
  simp only [Bool.and_eq_true, Bool.not_eq_true'] at hL
  obtain ⟨h1, h2, h3, h4⟩ := h
  exact ⟨by rw [sg_F_g f hL.1.1]; exact h1, by rw [sg_F_g f hL.1.2]; exact h2, by rw [sg_F_g f hL.2]; exact h3, h4⟩
theorem fqX_F {L : List Nat} {σ σ' : sg_S} {e : Int} (f : sg_F L σ σ') (hL : (!sg_cv L 88 102 && !sg_cv L 88 103) = true) (h : fqX σ e) : fqX σ' e := by
  simp only [Bool.and_eq_true, Bool.not_eq_true'] at hL
  unfold fqX
  rw [sg_F_g f hL.1, sg_F_g f hL.2]
  exact h
theorem fqX_i {σ : sg_S} {e e' : Int} (h : fqX σ e) (i : e' = e) : fqX σ e' := by rw [i]; exact h
section FXP
variable {σ : sg_S} {M v : Int} {d : Nat} {l : List vaF} {R : List (Int × Int)}
theorem fX_r (h : fX σ M v d l R) : ∃ r R', R = r :: R' ∧ R'.length = d ∧ r.2 = l.length ∧ fRw σ M r ∧ ∀ i : Nat, i < l.length → sg_g σ 142 (r.1 + i) = (l.getD i (nmF 0)) [] := by
  have hn := fX_n h
  obtain ⟨a1, a2, a3, a4⟩ := h
  cases R with
  | nil => simp at a2
  | cons r R' =>
    refine ⟨r, R', rfl, by simpa using a2, hn, a1.2.2.2.2.1, fun i hi => ?_⟩
    exact (a4 0 (Nat.zero_le _)).2 i _ (lvl0_i hi)
theorem fX_s (h : fX σ M v (d + 1) l R) : ∃ r r' R', R = r :: r' :: R' ∧ R'.length = d ∧ r.2 = l.length ∧ r'.2 = (flF l).length ∧ (∀ i : Nat, i < l.length → sg_g σ 142 (r.1 + i) = (l.getD i (nmF 0)) [] ∧ 0 ≤ (l.getD i (nmF 0)) [] ∧ (l.getD i (nmF 0)) [] ≤ 200) ∧ (∀ i : Nat, i < (flF l).length → sg_g σ 142 (r'.1 + i) = ((flF l).getD i (nmF 0)) []) ∧ fRw σ M r ∧ fRw σ M r' := by
  obtain ⟨r, R1, e, e2, e3, e4, e5⟩ := fX_r h
  subst e
  cases R1 with
  | nil => simp at e2
  | cons r' R' =>
    obtain ⟨a1, a2, a3, a4⟩ := h
    obtain ⟨b1, b2, b3⟩ := a1.2.2.2.2
    have n1 := (a4 1 (by omega)).1
    have c1 := (a4 1 (by omega)).2
    have n1' : ((flF l).length : Int) = r'.2 := by
      simp only [lvl, List.length_map] at n1
      exact n1
    refine ⟨r, r', R', rfl, by simpa using e2, e3, n1'.symm, fun i hi => ?_, fun i hi => c1 i _ (lvl0_i hi), b1, b3.1⟩
    have := b2.1 i (by omega) (by omega)
    rw [e5 i hi] at this
    exact ⟨e5 i hi, this⟩
theorem eX_F (h : fX σ M v d l R) : eX R = exF d l := by
  have key : ∀ (n j : Nat), j + n ≤ d → eD R (j + n + 1) = eD R j + lvS n l j := fun n => by
    induction n with
    | zero =>
      intro j hj
      simp only [eD, lvS, Nat.add_zero]
      rw [(h.2.2.2 j (by omega)).1]
    | succ n ih =>
      intro j hj
      have := ih (j + 1) (by omega)
      rw [show j + (n + 1) + 1 = j + 1 + n + 1 by omega, this]
      simp only [eD, lvS]
      rw [(h.2.2.2 j (by omega)).1]
      omega
  have := key d 0 (by omega)
  rw [eX_D, h.2.1, exF_l, show d + 1 = 0 + d + 1 by omega, this]
  simp only [eD]
  omega
theorem pRX {i : Nat} (h : fX σ M v d l R) (hc : sg_g σ 88 91 ≤ 60000 ∧ sg_g σ 88 87 ≤ 30000) (hi : i < l.length) : p_rowAt σ v (i : Int) ∧ v_rowAt σ v (i : Int) = (l.getD i (nmF 0)) [] := by
  obtain ⟨r, R', e, e2, e3, e4, e5⟩ := fX_r h
  subst e
  obtain ⟨pa, va⟩ := pR h.1 hc (i := (i : Int)) ⟨by omega, by omega⟩
  exact ⟨pa, va.trans (e5 i hi)⟩
theorem pRX_h {σb : sg_S} {i : Nat} {s t : Int} {b : Prop} {cl : List Int} {L : List Nat} (h : fX σb M v d l R) (hG : gHX σb (sg_g σb 88 91) b s t cl σ) (F : sg_F L σb σ) (hl : (sg_ca L 140 && !sg_cv L 88 87) = true) (hc : sg_g σb 88 91 + s ≤ 60000 ∧ sg_g σb 88 87 ≤ 30000) (hi : i < l.length) : p_rowAt σ v (i : Int) ∧ v_rowAt σ v (i : Int) = (l.getD i (nmF 0)) [] := by
  obtain ⟨r, R', e, e2, e3, e4, e5⟩ := fX_r h
  subst e
  obtain ⟨pa, va⟩ := pR_h h.1 hG.1 F hl hc (i := (i : Int)) ⟨by omega, by omega⟩
  exact ⟨pa, va.trans (e5 i hi)⟩
theorem it_len {v : vaF} (h : 0 ≤ v []) : ((itF v).length : Int) = v [] := by rw [itF_l]; omega
end FXP
/-! flat ops of the reference, exactly: numbers; lengths put; an outer row. -/
theorem fOe_0 : ∀ {l : List (Int ⊕ vaF)}, fOe l = 0 → ∀ r ∈ l, fOe [r] = 0
  | [], _, r, hr => by cases hr
  | .inl e :: t, h, r, hr => by
    by_cases c : e = 0
    · have h1 : fOe (.inl e :: t) = fOe t := by simp only [fOe]; rw [if_pos c]
      rw [h1] at h
      rcases List.mem_cons.mp hr with q | q
      · rw [q, fOe_l, c]
      · exact fOe_0 h r q
    · have h1 : fOe (.inl e :: t) = e := by simp only [fOe]; rw [if_neg c]
      rw [h1] at h
      exact absurd h c
  | .inr v :: t, h, r, hr => by
    have h1 : fOe (.inr v :: t) = fOe t := rfl
    rw [h1] at h
    rcases List.mem_cons.mp hr with q | q
    · rw [q]; rfl
    · exact fOe_0 h r q
theorem fOe_z {f : Nat → Int ⊕ vaF} : ∀ n : Nat, (∀ i, i < n → fOe [f i] = 0) → fOe ((List.range n).map f) = 0
  | 0, _ => rfl
  | n + 1, h => by
    rw [fOe_r, fOe_z n (fun i hi => h i (by omega)), if_pos rfl]
    exact h n (by omega)
theorem mp_e {α : Type} {f g : Nat → α} {n : Nat} (h : ∀ i, i < n → f i = g i) : (List.range n).map f = (List.range n).map g := List.map_congr_left (fun i hi => h i (List.mem_range.mp hi))
theorem mp_D {f : Nat → vaF} {n i : Nat} (h : i < n) : ((List.range n).map f).getD i (nmF 0) = f i := by
  rw [List.getD_eq_getElem?_getD, List.getElem?_map, List.getElem?_range h]; rfl
theorem gHX_r {σb σ : sg_S} {f t c : Int} {b : Prop} {i : Nat} {g : Nat → Int} (h : gHX σb f b ((i : Int) + 1) t ((List.range i).map g ++ [c]) σ) (e : g i = c) : gHX σb f b ((i + 1 : Nat) : Int) t ((List.range (i + 1)).map g) σ := by
  rw [List.range_succ, List.map_append, show ((i + 1 : Nat) : Int) = (i : Int) + 1 by omega, List.map_cons, List.map_nil, e]
  exact h
section FXT
variable {σ : sg_S} {M v : Int} {d : Nat} {l : List vaF} {R : List (Int × Int)}
theorem opX_m0 {σ1 σ' : sg_S} {K : Nat} {rs : List (Int ⊕ vaF)} {s s' : fSt} {q a : Int} {L : List Nat} (ea : exF K (rs.map fOv) = a) (h : fStp a s = some s') (h1 : fcX σ1 s') (F : sg_F L σ1 σ') (hL : (!sg_cv L 88 84 && !sg_cv L 88 85 && !sg_cv L 88 86 && !sg_cv L 88 73) = true) (h73 : sg_g σ1 88 73 = sg_g σ 88 73) (hq : fqX σ' (fOe rs)) (ex : fEx σ σ') (h91 : fOe rs = 0 → sg_g σ' 88 91 ≤ 2 * (s.2.1 + a)) (h87 : sg_g σ' 88 87 ≤ sg_g σ 88 87 + 8) (hf : fOe rs = 0 → ∃ R, fX σ' 6000 q K (rs.map fOv) R) : opX σ σ' K rs s q := by
  simp only [Bool.and_eq_true, Bool.not_eq_true'] at hL
  have c' : fcX σ' s' := fcX_F F (by simp only [Bool.and_eq_true, Bool.not_eq_true']; exact hL.1) h1
  have st := fStp_s h
  have e85 := c'.2.1
  refine Or.inr ⟨s', by rw [ea]; exact h, ⟨by rw [sg_F_g F hL.2]; exact h73, c', hq⟩, ex, ?_, h87, hf⟩
  intro e0
  rw [e85, st.2.1]
  exact h91 e0
theorem opX_mk {σ1 σ' : sg_S} {K : Nat} {rs : List (Int ⊕ vaF)} {s s' : fSt} {q a : Int} {L : List Nat} (ea : exF K (rs.map fOv) = a) (h : fStp a s = some s') (h1 : fcX σ1 s') (F : sg_F L σ1 σ') (hL : (!sg_cv L 88 84 && !sg_cv L 88 85 && !sg_cv L 88 86 && !sg_cv L 88 73) = true) (h73 : sg_g σ1 88 73 = sg_g σ 88 73) (hq : fqX σ' (fOe rs)) (ex : fEx σ σ') (h91 : sg_g σ' 88 91 ≤ 2 * (s.2.1 + a)) (h87 : sg_g σ' 88 87 ≤ sg_g σ 88 87 + 8) (hf : fOe rs = 0 → ∃ R, fX σ' 6000 q K (rs.map fOv) R) : opX σ σ' K rs s q := opX_m0 ea h h1 F hL h73 hq ex (fun _ => h91) h87 hf
theorem m_putLensX {L : Nat} {Q : Int → sg_S → Prop} (h : 0 ≤ sg_g σ 88 91 ∧ sg_g σ 88 91 + L ≤ 60000) (hL : L ≤ 13000) (hl : ∀ i : Nat, i < L → 0 ≤ sg_g σ 150 i ∧ sg_g σ 150 i ≤ 200) (k : ∀ σ', gHX σ (sg_g σ 88 91) True L (ls σ L) ((List.range L).map (fun i : Nat => sg_g σ 150 i)) σ' → sg_F [142, 92088] σ σ' → Q (sg_g σ 88 91) σ') : V_putLens σ (L : Int) Q := by
  unfold V_putLens
  refine ⟨fun n x σ2 => ∃ i : Nat, x = i ∧ n = L - i ∧ i ≤ L ∧ gHX σ (sg_g σ 88 91) True i (ls σ i) ((List.range i).map (fun i : Nat => sg_g σ 150 i)) σ2, fun σ2 => gHX σ (sg_g σ 88 91) True L (ls σ L) ((List.range L).map (fun i : Nat => sg_g σ 150 i)) σ2, ⟨_, 0, rfl, rfl, Nat.zero_le _, gHX_0 _ _⟩, ?_, fun σ2 f2 h2 => k σ2 h2 f2⟩
  rintro n x σ2 rx f2 ⟨i, rfl, en, hi, hG⟩
  refine ⟨fun z => by rw [show L = i by omega]; exact hG, fun z => ⟨⟨by omega, by omega⟩, ?_⟩⟩
  refine m_putX hG h.1 (by omega) (sg_Rg _ _ _) (fun _ => hl i (by omega)) (fun σ3 h3 f3 _ => ⟨⟨by omega, by omega⟩, L - (i + 1), by omega, i + 1, by omega, rfl, by omega, ?_⟩)
  have h4 := gHX_r (g := fun i : Nat => sg_g σ 150 i) h3 rfl
  exact h4
theorem m_tailX {L : Nat} {ks : List Int} {W : List vaF} {Q : Int → sg_S → Prop} (hv : fX σ M v d l R) (hM : 1 ≤ M ∧ M ≤ 12000) (hd : d ≤ 2) (hc : 0 ≤ sg_g σ 88 91) (hfl : 0 ≤ sg_g σ 88 87 ∧ sg_g σ 88 87 ≤ 29000) (hk : lX σ ks) (hl : ∀ x ∈ ks, x < l.length) (hn : ks.length ≤ 13000) (hL : W.length = L) (hL6 : L ≤ 6000) (hz : ∀ i : Nat, i < L → sg_g σ 150 i = (W.getD i (nmF 0)) [] ∧ 0 ≤ (W.getD i (nmF 0)) [] ∧ (W.getD i (nmF 0)) [] ≤ 200) (hW : flF W = ks.map (lnF l)) (hg : exF d (ks.map (lnF l)) ≤ 6000) (ht : sg_g σ 88 91 + exF d (ks.map (lnF l)) + L ≤ 60000) (k : ∀ q σ', fEx σ σ' → sg_g σ' 88 91 = sg_g σ 88 91 + exF d (ks.map (lnF l)) + L → sg_g σ' 88 87 = sg_g σ 88 87 + 2 → sg_F [139, 140, 141, 142, 144, 88088, 92088] σ σ' → (∃ R', fX σ' 6000 q (d + 1) W R') → Q q σ') : V_gathered σ v (fun q51 σ52 => sg_R q51 → sg_F [139, 140, 141, 142, 144, 88088, 92088] σ σ52 → V_putLens σ52 (L : Int) (fun q57 σ58 => sg_R q57 → sg_F [142, 92088] σ52 σ58 → V_outer σ58 q57 (L : Int) q51 (fun q63 σ64 => sg_R q63 → sg_F [139, 140, 141, 88088] σ58 σ64 → Q q63 σ64))) := by
  have x0 : 0 ≤ exF d (ks.map (lnF l)) := by
    have := exF_n d (ks.map (lnF l))
    have h0 : (0 : Int) ≤ ((ks.map (lnF l)).length : Int) := Int.natCast_nonneg _
    omega
  refine m_gathF hv hM hc ⟨hfl.1, by omega⟩ hk hl hn (by omega) (fun q σ' eq ex fv e87 e91 F rq f => ?_)
  have fv6 := fv 6000 (fun j hj => by
    have := lvl_ex d j (ks.map (lnF l)) hj
    omega)
  refine m_putLensX (L := L) ⟨by omega, by omega⟩ (by omega) (fun i hi => by
    obtain ⟨h1, h2, h3⟩ := hz i hi
    rw [sg_F_ga f rfl, h1]; exact ⟨h2, h3⟩) (fun σ58 h58 f58 r58 _ => ?_)
  have ex2 := gH_ex h58.1 f58
  have g58 := h58.1.1
  have e58 : sg_g σ58 88 87 = sg_g σ' 88 87 := sg_F_g f58 (by rfl)
  have fv58 := fX_up ex2 fv6
  rw [← hW] at fv58
  obtain ⟨r0, R0, er, er1, er2, er3, er4⟩ := fX_r fv58
  rw [er] at fv58
  refine m_outerX (M := 6000) (L := W) ⟨by omega, by omega⟩ fv58 (by omega) ⟨r58, ⟨by omega, by omega⟩⟩ ⟨by simp only; omega, by simp only; omega, by simp only; omega, by simp only; omega⟩ (by rw [hL]) (fun i u hu => ?_) (fun q2 σ3 e3 ex3 fv3 e87' f3 _ _ => ?_)
  · have hi := lt_of_get hu
    have hD := gD_i hi
    rw [hu] at hD
    have eu : u = W.getD i (nmF 0) := Option.some.inj hD
    obtain ⟨h1, h2, h3⟩ := hz i (by omega)
    rw [eu]
    refine ⟨?_, h2, h3⟩
    have h4 := h58.2.2 i (sg_g σ' 150 i) (by rw [List.getElem?_map, List.getElem?_range (by omega)]; rfl)
    rw [h4, sg_F_ga f rfl]
    exact h1
  · refine k q2 σ3 (fEx_t ex (fEx_t ex2 ex3)) ?_ (by omega) (sg_F_t f (sg_F_t (sg_F_m f58 rfl) (sg_F_m f3 rfl))) ⟨_, fv3⟩
    rw [sg_F_g f3 (by rfl)]
    omega
theorem m_estX {σ0 : sg_S} {L : Nat} {ks : List Int} {rs : List (Int ⊕ vaF)} {s : fSt} {Q : Int → sg_S → Prop} (hv : fX σ 6000 v d l R) (hd : d ≤ 2) (hC : fC σ0) (hs : fcX σ s) (ex : fEx σ0 σ) (h73 : sg_g σ 88 73 = sg_g σ0 88 73) (h91 : sg_g σ 88 91 = sg_g σ0 88 91) (h85 : sg_g σ 88 85 = sg_g σ0 88 85) (h87 : sg_g σ 88 87 ≤ sg_g σ0 88 87 + 3) (hq : fqX σ (fOe rs)) (hk : lX σ ks) (hl : ∀ x ∈ ks, x < l.length) (hn : ks.length ≤ 13000) (hL : rs.length = L) (hL6 : L ≤ 6000) (hz : ∀ i : Nat, i < L → sg_g σ 150 i = ((rs.map fOv).getD i (nmF 0)) [] ∧ 0 ≤ ((rs.map fOv).getD i (nmF 0)) [] ∧ ((rs.map fOv).getD i (nmF 0)) [] ≤ 200) (hW : flF (rs.map fOv) = ks.map (lnF l)) (k : ∀ q σ', opX σ0 σ' (d + 1) rs s q → Q q σ') : V_extentOfLanes σ v (fun q37 σ38 => sg_RL q37 → sg_F [144] σ σ38 → sg_RL ((L : Int) + q37) ∧ V_stepped σ38 ((L : Int) + q37) (fun q44 σ45 => (q44 = 0 ∨ q44 = 1) → sg_F [74088, 85088, 86088] σ38 σ45 → ((¬ q44 = 0 → V_gathered σ45 v (fun q51 σ52 => sg_R q51 → sg_F [139, 140, 141, 142, 144, 88088, 92088] σ45 σ52 → V_putLens σ52 (L : Int) (fun q57 σ58 => sg_R q57 → sg_F [142, 92088] σ52 σ58 → V_outer σ58 q57 (L : Int) q51 (fun q63 σ64 => sg_R q63 → sg_F [139, 140, 141, 88088] σ58 σ64 → Q q63 σ64)))) ∧ (q44 = 0 → Q 0 σ45)))) := by
  obtain ⟨c1, c2, c3, c4⟩ := hC
  have e87 := ex.1.1
  have lR := hv.2.1
  have eL : exF (d + 1) (rs.map fOv) = (L : Int) + exF d (ks.map (lnF l)) := by
    simp only [exF, List.length_map]
    rw [hW, hL]
  have tb : exF d (ks.map (lnF l)) ≤ 312000000 := by
    rw [← gT_X hv (by decide) hk hl hn]
    exact gT_u hv.1.2.2.2.2 (lnO_X hv hk hl hn) (by omega) (by rw [hk.1]; exact Int.le_refl _)
  have x0 : 0 ≤ exF d (ks.map (lnF l)) := by
    have := exF_n d (ks.map (lnF l))
    have h0 : (0 : Int) ≤ ((ks.map (lnF l)).length : Int) := Int.natCast_nonneg _
    omega
  have s85 := hs.2.1
  refine m_extX hv ⟨by decide, by decide⟩ ⟨by omega, by omega⟩ hk hl hn (fun σ4 f4 rt _ => ?_)
  obtain ⟨t, et⟩ : ∃ t, t = exF d (ks.map (lnF l)) := ⟨_, rfl⟩
  rw [← et] at eL tb x0 ⊢
  refine ⟨⟨by omega, by omega⟩, m_stepX (fcX_F f4 rfl hs) ⟨by omega, by omega⟩ (fun h0 σ' e c F _ _ => ⟨fun z => absurd rfl z, fun _ => k _ _ (Or.inl ⟨by rw [eL]; exact h0, e, c⟩)⟩) (fun s' hs' σ5 c5 f5 _ _ => ⟨fun _ => ?_, fun z => by omega⟩)⟩
  have st := fStp_s hs'
  have f45 : sg_F [144, 85088, 86088] σ σ5 := sg_F_t (sg_F_m f4 rfl) (sg_F_m f5 rfl)
  have i91 : sg_g σ5 88 91 = sg_g σ0 88 91 := by rw [sg_F_g f45 (by rfl)]; exact h91
  have i87 : sg_g σ5 88 87 = sg_g σ 88 87 := sg_F_g f45 (by rfl)
  refine m_tailX (fX_up (fEx_F f45 rfl) hv) ⟨by decide, by decide⟩ hd (by omega) ⟨by omega, by omega⟩ (lX_F f45 rfl hk) hl hn (by rw [List.length_map]; exact hL) hL6 (fun i hi => by rw [sg_F_ga f45 rfl]; exact hz i hi) hW (by omega) (by omega) (fun q σ6 ex6 e91 e87' f6 hf => k q σ6 (opX_mk (σ1 := σ5) eL hs' c5 f6 rfl (by rw [sg_F_g f45 (by rfl)]; exact h73) (fqX_F f6 rfl (fqX_F f45 rfl hq)) (fEx_t ex (fEx_t (fEx_F f45 rfl) ex6)) (by omega) (by omega) (fun _ => hf)))
theorem m_numsX {L : Nat} {f t : Int} {σb : sg_S} {cl : List Int} {Q : Int → sg_S → Prop} (h : gHX σb (sg_g σb 88 91) False L t cl σ) (F : sg_F [142, 92088, 103088, 104088] σb σ) (hf : f = sg_g σb 88 91) (h0 : 0 ≤ sg_g σb 88 91 ∧ sg_g σb 88 91 + L ≤ 60000) (hfl : 0 ≤ sg_g σ 88 87 ∧ sg_g σ 88 87 ≤ 29000) (hL : L ≤ 6000) (k : ∀ q σ', fEx σb σ' → sg_g σ' 88 91 = sg_g σb 88 91 + L → sg_g σ' 88 87 = sg_g σb 88 87 + 1 → sg_F [139, 140, 141, 88088] σ σ' → fX σ' 6000 q 0 (cl.map nmF) [(f, (L : Int))] → Q q σ') : V_numbers σ f Q := by
  obtain ⟨g1, g2, g3⟩ := h
  have h1 := g1.1.1
  have ex : fEx σb σ := ⟨⟨by rw [sg_F_g F (by rfl)]; exact Int.le_refl _, by omega⟩, fun v _ _ => sg_F_ga F rfl, fun x _ _ => ⟨sg_F_ga F rfl, sg_F_ga F rfl⟩, fun x y z => g1.2.1 x y z⟩
  have e87 : sg_g σ 88 87 = sg_g σb 88 87 := sg_F_g F (by rfl)
  subst hf
  refine m_numbersX (M := 6000) (l := cl.map nmF) ⟨by omega, by omega⟩ ⟨by omega, by omega, by omega⟩ (by omega) (by rw [List.length_map]; omega) (fun i v hv => ?_) (fun q σ' e1 e2 e3 e4 e5 => k q σ' (fEx_t ex e2) (by rw [sg_F_g e5 (by rfl)]; omega) (by omega) e5 ?_)
  · rw [List.getElem?_map] at hv
    cases hc : cl[i]? with
    | none => rw [hc] at hv; cases hv
    | some x =>
      rw [hc] at hv
      cases hv
      exact g3 i x hc
  · rwa [show sg_g σ 88 91 - sg_g σb 88 91 = (L : Int) by omega] at e3
theorem m_f0X {n : Int} {L : Nat} {f : Nat → Int ⊕ vaF} {s : fSt} {Q : Int → sg_S → Prop} (hC : fC σ) (hs : fcX σ s) (hL : L ≤ 6000) (hn : 0 ≤ n ∧ n < 210) (hq : fqX σ 0) (hf : ∀ i, i < L → f i = .inr (nmF (sg_n (sg_gl σ 95 n)))) (k : ∀ q σ', opX σ σ' 0 ((List.range L).map f) s q → sg_F [139, 140, 141, 142, 74088, 85088, 86088, 88088, 92088, 103088, 104088] σ σ' → Q q σ') : V_flatWorked_0 σ n (L : Int) Q := by
  obtain ⟨c1, c2, c3, c4⟩ := hC
  have s85 := hs.2.1
  have eL : exF 0 (((List.range L).map f).map fOv) = (L : Int) := by simp only [exF, List.length_map, List.length_range]
  unfold V_flatWorked_0
  refine m_stepX hs ⟨by omega, by omega⟩ (fun h0 σ' e c F _ ff => ⟨fun z => absurd rfl z, fun _ => k _ _ (Or.inl ⟨by rw [eL]; exact h0, e, c⟩) (sg_F_m ff rfl)⟩) (fun s' hs' σ1 c' f1 _ _ => ⟨fun _ => ?_, fun z => by omega⟩)
  have st := fStp_s hs'
  have e91 : sg_g σ1 88 91 = sg_g σ 88 91 := sg_F_g f1 (by rfl)
  have e87 : sg_g σ1 88 87 = sg_g σ 88 87 := sg_F_g f1 (by rfl)
  refine ⟨fun m x σ2 => ∃ i : Nat, x = i ∧ m = L - i ∧ i ≤ L ∧ ∃ t, gHX σ1 (sg_g σ1 88 91) False i t ((List.range i).map (fun _ : Nat => sg_n (sg_gl σ 95 n))) σ2, fun σ2 => ∃ t, gHX σ1 (sg_g σ1 88 91) False L t ((List.range L).map (fun _ : Nat => sg_n (sg_gl σ 95 n))) σ2, ⟨_, 0, rfl, rfl, Nat.zero_le _, 0, gHX_0 _ _⟩, ?_, ?_⟩
  · rintro m x σ2 rx f2 ⟨i, rfl, en, hi, t, hG⟩
    refine ⟨fun z => ⟨t, by rw [show L = i by omega]; exact hG⟩, fun z => ⟨hn, ?_⟩⟩
    refine m_putX hG (by omega) (by omega) (sg_Rn _) (fun b => b.elim) (fun σ3 h3 _ _ => ⟨⟨by omega, by omega⟩, L - (i + 1), by omega, i + 1, by omega, rfl, by omega, _, gHX_r h3 rfl⟩)
  · rintro σ2 f2 ⟨t, hG⟩
    have e0 : fOe ((List.range L).map f) = 0 := fOe_z L (fun i hi => by rw [hf i hi]; rfl)
    refine m_numsX hG (sg_F_m f2 rfl) (by omega) ⟨by omega, by omega⟩ ⟨by rw [sg_F_g f2 (by rfl)]; omega, by rw [sg_F_g f2 (by rfl)]; omega⟩ hL (fun q σ' x1 x2 x3 x4 x5 _ _ => k q σ' (opX_mk (σ1 := σ1) eL hs' c' (sg_F_t (sg_F_m (L := [139, 140, 141, 142, 88088, 92088]) f2 rfl) (sg_F_m x4 rfl)) rfl (sg_F_g f1 (by rfl)) (by rw [e0]; exact fqX_F x4 rfl (fqX_F f2 rfl (fqX_F f1 rfl hq))) (fEx_t (fEx_F f1 rfl) x1) (by omega) (by omega) (fun _ => ⟨[(sg_g σ 88 91, (L : Int))], ?_⟩)) (sg_F_t (sg_F_m f1 rfl) (sg_F_t (sg_F_m f2 rfl) (sg_F_m x4 rfl))))
    have e : ((List.range L).map f).map fOv = ((List.range L).map (fun _ : Nat => sg_n (sg_gl σ 95 n))).map nmF := by
      rw [List.map_map, List.map_map]
      exact mp_e (fun i hi => by
        show fOv (f i) = nmF (sg_n (sg_gl σ 95 n))
        rw [hf i hi]; rfl)
    rw [e]
    exact x5
theorem m_f11X {a : Int} {L : Nat} {la : List vaF} {f : Nat → Int ⊕ vaF} {s : fSt} {Q : Int → sg_S → Prop} (hC : fC σ) (hs : fcX σ s) (ha : fX σ 6000 a d la R) (hL : la.length = L) (hq : fqX σ 0) (hf : ∀ i, i < L → f i = .inr (nmF ((la.getD i (nmF 0)) []))) (k : ∀ q σ', opX σ σ' 0 ((List.range L).map f) s q → sg_F [139, 140, 141, 142, 74088, 85088, 86088, 88088, 92088, 103088, 104088] σ σ' → Q q σ') : V_flatWorked_11 σ (L : Int) a Q := by
  obtain ⟨c1, c2, c3, c4⟩ := hC
  have s85 := hs.2.1
  obtain ⟨r, R', er, er1, er2, er3, er4⟩ := fX_r ha
  have L6 : L ≤ 6000 := by have := er3.2.2.1; omega
  have eL : exF 0 (((List.range L).map f).map fOv) = (L : Int) := by simp only [exF, List.length_map, List.length_range]
  unfold V_flatWorked_11
  refine m_stepX hs ⟨by omega, by omega⟩ (fun h0 σ' e c F _ ff => ⟨fun z => absurd rfl z, fun _ => k _ _ (Or.inl ⟨by rw [eL]; exact h0, e, c⟩) (sg_F_m ff rfl)⟩) (fun s' hs' σ1 c' f1 _ _ => ⟨fun _ => ?_, fun z => by omega⟩)
  have st := fStp_s hs'
  have e91 : sg_g σ1 88 91 = sg_g σ 88 91 := sg_F_g f1 (by rfl)
  have e87 : sg_g σ1 88 87 = sg_g σ 88 87 := sg_F_g f1 (by rfl)
  have ha1 := fX_up (fEx_F f1 rfl) ha
  refine ⟨fun m x σ2 => ∃ i : Nat, x = i ∧ m = L - i ∧ i ≤ L ∧ ∃ t, gHX σ1 (sg_g σ1 88 91) False i t ((List.range i).map (fun i : Nat => (la.getD i (nmF 0)) [])) σ2, fun σ2 => ∃ t, gHX σ1 (sg_g σ1 88 91) False L t ((List.range L).map (fun i : Nat => (la.getD i (nmF 0)) [])) σ2, ⟨_, 0, rfl, rfl, Nat.zero_le _, 0, gHX_0 _ _⟩, ?_, ?_⟩
  · rintro m x σ2 rx f2 ⟨i, rfl, en, hi, t, hG⟩
    refine ⟨fun z => ⟨t, by rw [show L = i by omega]; exact hG⟩, fun z => ?_⟩
    obtain ⟨pa, va⟩ := pRX_h ha1 hG f2 rfl ⟨by omega, by omega⟩ (i := i) (by omega)
    have rv : sg_R (v_rowAt σ2 a (i : Int)) := sg_Rg _ _ _
    refine ⟨pa, m_putX hG (by omega) (by omega) rv (fun b => b.elim) (fun σ3 h3 _ _ => ⟨⟨by omega, by omega⟩, L - (i + 1), by omega, i + 1, by omega, rfl, by omega, _, gHX_r h3 va.symm⟩)⟩
  · rintro σ2 f2 ⟨t, hG⟩
    have e0 : fOe ((List.range L).map f) = 0 := fOe_z L (fun i hi => by rw [hf i hi]; rfl)
    refine m_numsX hG (sg_F_m f2 rfl) (by omega) ⟨by omega, by omega⟩ ⟨by rw [sg_F_g f2 (by rfl)]; omega, by rw [sg_F_g f2 (by rfl)]; omega⟩ L6 (fun q σ' x1 x2 x3 x4 x5 _ _ => k q σ' (opX_mk (σ1 := σ1) eL hs' c' (sg_F_t (sg_F_m (L := [139, 140, 141, 142, 88088, 92088]) f2 rfl) (sg_F_m x4 rfl)) rfl (sg_F_g f1 (by rfl)) (by rw [e0]; exact fqX_F x4 rfl (fqX_F f2 rfl (fqX_F f1 rfl hq))) (fEx_t (fEx_F f1 rfl) x1) (by omega) (by omega) (fun _ => ⟨[(sg_g σ 88 91, (L : Int))], ?_⟩)) (sg_F_t (sg_F_m f1 rfl) (sg_F_t (sg_F_m f2 rfl) (sg_F_m x4 rfl))))
    have e : ((List.range L).map f).map fOv = ((List.range L).map (fun i : Nat => (la.getD i (nmF 0)) [])).map nmF := by
      rw [List.map_map, List.map_map]
      exact mp_e (fun i hi => by
        show fOv (f i) = nmF ((la.getD i (nmF 0)) [])
        rw [hf i hi]; rfl)
    rw [e]
    exact x5
theorem m_fdX {n a b : Int} {L d' : Nat} {la lb : List vaF} {R' : List (Int × Int)} {f : Nat → Int ⊕ vaF} {s : fSt} {Q : Int → sg_S → Prop} (hC : fC σ) (hs : fcX σ s) (hn : 0 ≤ n ∧ n < 210) (ha : fX σ 6000 a d la R) (hb : fX σ 6000 b d' lb R') (hL : la.length = L) (hL' : lb.length = L) (hq : fqX σ 0) (hf : ∀ i, i < L → f i = if (sg_g σ 93 n = 9 ∨ sg_g σ 93 n = 10) ∧ (lb.getD i (nmF 0)) [] = 0 then .inl 1 else .inr (nmF (v_operated (sg_g σ 93 n) ((la.getD i (nmF 0)) []) ((lb.getD i (nmF 0)) [])))) (k : ∀ q σ', opX σ σ' 0 ((List.range L).map f) s q → sg_F [139, 140, 141, 142, 74088, 85088, 86088, 88088, 92088, 103088, 104088] σ σ' → Q q σ') : V_flatWorked_d σ n (L : Int) a b Q := by
  obtain ⟨c1, c2, c3, c4⟩ := hC
  have s85 := hs.2.1
  obtain ⟨r, Ra, er, er1, er2, er3, er4⟩ := fX_r ha
  have L6 : L ≤ 6000 := by have := er3.2.2.1; omega
  have eL : exF 0 (((List.range L).map f).map fOv) = (L : Int) := by simp only [exF, List.length_map, List.length_range]
  unfold V_flatWorked_d
  refine m_stepX hs ⟨by omega, by omega⟩ (fun h0 σ' e c F _ ff => ⟨fun z => absurd rfl z, fun _ => k _ _ (Or.inl ⟨by rw [eL]; exact h0, e, c⟩) (sg_F_m ff rfl)⟩) (fun s' hs' σ1 c' f1 _ _ => ⟨fun _ => ?_, fun z => by omega⟩)
  have st := fStp_s hs'
  have e91 : sg_g σ1 88 91 = sg_g σ 88 91 := sg_F_g f1 (by rfl)
  have e87 : sg_g σ1 88 87 = sg_g σ 88 87 := sg_F_g f1 (by rfl)
  have ha1 := fX_up (fEx_F f1 rfl) ha
  have hb1 := fX_up (fEx_F f1 rfl) hb
  obtain ⟨g, eg⟩ : ∃ g : Nat → Int, g = fun i : Nat => v_operated (sg_g σ 93 n) ((la.getD i (nmF 0)) []) ((lb.getD i (nmF 0)) []) := ⟨_, rfl⟩
  refine ⟨fun m x σ2 => ∃ i : Nat, x = i ∧ m = L - i ∧ i ≤ L ∧ fqX σ2 (fOe ((List.range i).map f)) ∧ ∃ t, gHX σ1 (sg_g σ1 88 91) False i t ((List.range i).map g) σ2, fun σ2 => fqX σ2 (fOe ((List.range L).map f)) ∧ ∃ t, gHX σ1 (sg_g σ1 88 91) False L t ((List.range L).map g) σ2, ⟨_, 0, rfl, rfl, Nat.zero_le _, fqX_F f1 rfl hq, 0, gHX_0 _ _⟩, ?_, ?_⟩
  · rintro m x σ2 rx f2 ⟨i, rfl, en, hi, hq2, t, hG⟩
    refine ⟨fun z => by rw [show L = i by omega]; exact ⟨hq2, t, hG⟩, fun z => ?_⟩
    obtain ⟨pa, va⟩ := pRX_h ha1 hG f2 rfl ⟨by omega, by omega⟩ (i := i) (by omega)
    obtain ⟨pb, vb⟩ := pRX_h hb1 hG f2 rfl ⟨by omega, by omega⟩ (i := i) (by omega)
    have hfi := hf i (by omega)
    have lk : (sg_g σ 93 n = 9 ∨ sg_g σ 93 n = 10) → (lb.getD i (nmF 0)) [] = 0 → V_lacks σ2 (i : Int) 1 (fun σ55 => sg_F [103088, 104088] σ2 σ55 → fqX σ55 (fOe ((List.range (i + 1)).map f))) := fun h1 h2 => by
      have e1 : f i = .inl 1 := by rw [hfi, if_pos (And.intro h1 h2)]
      exact m_lacksX ⟨by omega, rx⟩ ⟨by decide, by decide, by decide⟩ hq2 (fun σ5 h5 _ _ => fqX_i h5 (by rw [fOe_r, e1, fOe_l]))
    have no : ¬ ((sg_g σ 93 n = 9 ∨ sg_g σ 93 n = 10) ∧ (lb.getD i (nmF 0)) [] = 0) → fqX σ2 (fOe ((List.range (i + 1)).map f)) := fun h => fqX_i hq2 (by
      rw [fOe_r, hfi, if_neg h]
      by_cases c : fOe ((List.range i).map f) = 0
      · rw [if_pos c, c]; rfl
      · rw [if_neg c])
    rw [va, vb]
    refine ⟨hn, fun σ3 => fqX σ3 (fOe ((List.range (i + 1)).map f)), ⟨fun k9 => ⟨pb, fun y => no (fun w => y w.2), fun y => lk (Or.inl k9) y⟩, fun k9 => ⟨fun k10 => no (fun w => w.1.elim k9 k10), fun k10 => ⟨pb, fun y => no (fun w => y w.2), fun y => lk (Or.inr k10) y⟩⟩⟩, fun σ3 f3 hq3 => ⟨pa, pb, p_op _ _ _, ?_⟩⟩
    refine m_putX (gHX_F f3 rfl hG) (by omega) (by omega) (R_op _ _ _) (fun b => b.elim) (fun σ4 h4 f4 _ => ⟨⟨by omega, by omega⟩, L - (i + 1), by omega, i + 1, by omega, rfl, by omega, fqX_F f4 rfl hq3, _, gHX_r h4 (by rw [eg])⟩)
  · rintro σ2 f2 ⟨hq2, t, hG⟩
    refine m_numsX hG f2 (by omega) ⟨by omega, by omega⟩ ⟨by rw [sg_F_g f2 (by rfl)]; omega, by rw [sg_F_g f2 (by rfl)]; omega⟩ L6 (fun q σ' x1 x2 x3 x4 x5 _ _ => k q σ' (opX_mk (σ1 := σ1) eL hs' c' (sg_F_t (sg_F_m (L := [139, 140, 141, 142, 88088, 92088, 103088, 104088]) f2 rfl) (sg_F_m x4 rfl)) rfl (sg_F_g f1 (by rfl)) (fqX_F x4 rfl hq2) (fEx_t (fEx_F f1 rfl) x1) (by omega) (by omega) (fun e0 => ⟨[(sg_g σ 88 91, (L : Int))], ?_⟩)) (sg_F_t (sg_F_m f1 rfl) (sg_F_t (sg_F_m f2 rfl) (sg_F_m x4 rfl))))
    have e : ((List.range L).map f).map fOv = ((List.range L).map g).map nmF := by
      rw [List.map_map, List.map_map]
      refine mp_e (fun i hi => ?_)
      show fOv (f i) = nmF (g i)
      have h0 := fOe_0 e0 (f i) (List.mem_map.mpr ⟨i, List.mem_range.mpr hi, rfl⟩)
      rw [hf i hi] at h0 ⊢
      by_cases c : (sg_g σ 93 n = 9 ∨ sg_g σ 93 n = 10) ∧ (lb.getD i (nmF 0)) [] = 0
      · rw [if_pos c, fOe_l] at h0
        cases h0
      · rw [if_neg c, eg]; rfl
    rw [e]
    exact x5
end FXT
