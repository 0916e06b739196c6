/-! gathered, extentOfLanes: lists of lanes. -/
/-- lane k, or nothing -/
def lnF (l : List vaF) (k : Int) : vaF := if k < 0 then nmF 0 else l.getD k.toNat (nmF 0)
theorem okF_z : ∀ d : Nat, okF d [nmF 0]
  | 0 => trivial
  | d + 1 => by
    have e : itF (nmF 0) = [] := by simp [itF, nmF]
    have z : ∀ d : Nat, okF d [] := fun d => by
      induction d with
      | zero => trivial
      | succ d ih => exact ⟨fun v hv => (by cases hv), by rw [flF_0]; exact ih⟩
    exact ⟨fun v hv => by
      have : v = nmF 0 := by simpa using hv
      rw [this]
      exact Int.le_refl _, by rw [flF_1, e]; exact z d⟩
theorem okF_0 (d : Nat) : okF d [] := by
  induction d with
  | zero => trivial
  | succ d ih => exact ⟨fun v hv => (by cases hv), by rw [flF_0]; exact ih⟩
theorem okF_i {d : Nat} {l : List vaF} (h : okF d l) {v : vaF} (hv : v ∈ l) : okF d [v] := by
  obtain ⟨l1, l2, e⟩ := List.append_of_mem hv
  rw [e] at h
  have h2 := ((okF_a d l1 (v :: l2)).mp h).2
  exact ((okF_a d [v] l2).mp h2).1
theorem okF_ln {d : Nat} {l : List vaF} (h : okF d l) (k : Int) : okF d [lnF l k] := by
  unfold lnF
  by_cases c : k < 0
  · rw [if_pos c]; exact okF_z d
  · rw [if_neg c, List.getD_eq_getElem?_getD]
    rcases Nat.lt_or_ge k.toNat l.length with q | q
    · rw [List.getElem?_eq_getElem q, Option.getD_some]
      exact okF_i h (List.getElem_mem q)
    · rw [List.getElem?_eq_none q, Option.getD_none]
      exact okF_z d
theorem okF_m {d : Nat} {l : List vaF} (h : okF d l) : ∀ ks : List Int, okF d (ks.map (lnF l))
  | [] => okF_0 d
  | k :: r => by
    rw [List.map_cons]
    exact (okF_a d [lnF l k] (r.map (lnF l))).mpr ⟨okF_ln h k, okF_m h r⟩
section FXG
variable {σ : sg_S} {M v : Int} {d : Nat} {l : List vaF} {R : List (Int × Int)} {ks : List Int}
theorem sel_k (hk : lX σ ks) : (List.range ks.length).map (sel σ l) = ks.map (lnF l) := by
  apply List.ext_getElem?
  intro i
  rw [List.getElem?_map, List.getElem?_map]
  rcases Nat.lt_or_ge i ks.length with q | q
  · rw [List.getElem?_range q, List.getElem?_eq_getElem q, Option.map_some, Option.map_some]
    unfold sel lnF
    rw [hk.2 i _ (List.getElem?_eq_getElem q)]
  · rw [List.getElem?_eq_none (by rw [List.length_range]; exact q), List.getElem?_eq_none q]
    rfl
theorem lnO_X (hv : fX σ M v d l R) (hk : lX σ ks) (hl : ∀ x ∈ ks, x < l.length) (hn : ks.length ≤ 13000) : lnO σ R := by
  refine ⟨by rw [hk.1]; exact ⟨Int.natCast_nonneg _, by omega⟩, fun j x y => ?_⟩
  rw [hk.1] at y
  rw [fX_n hv]
  have hj : j.toNat < ks.length := by omega
  have := hk.2 j.toNat _ (List.getElem?_eq_getElem hj)
  rw [show ((j.toNat : Nat) : Int) = j by omega] at this
  rw [this]
  exact hl _ (List.getElem_mem hj)
theorem gs_X (hv : fX σ M v d l R) (hM : 1 ≤ M) (hk : lX σ ks) (hl : ∀ x ∈ ks, x < l.length) (hn : ks.length ≤ 13000) {lv : Nat} (hlv : lv ≤ d) : gCl σ R lv ks.length = lvl lv (ks.map (lnF l)) ∧ gsum σ R lv ks.length = ((lvl lv (ks.map (lnF l))).length : Int) := by
  have h1 : ∀ j : Nat, j < ks.length → sg_g σ 143 j < l.length := fun j hj => by
    rw [hk.2 j _ (List.getElem?_eq_getElem hj)]
    exact hl _ (List.getElem_mem hj)
  have e := gCl_F hv hlv ks.length h1
  rw [sel_k hk] at e
  have e2 := gCl_l hv.1.2.2.2.2 (lnO_X hv hk hl hn) (l := lv) (by have := hv.2.1; omega) hM ks.length (by rw [hk.1]; exact Int.le_refl _)
  rw [e] at e2
  exact ⟨e, e2.symm⟩
theorem gT_X (hv : fX σ M v d l R) (hM : 1 ≤ M) (hk : lX σ ks) (hl : ∀ x ∈ ks, x < l.length) (hn : ks.length ≤ 13000) : gT σ R ks.length R.length = exF d (ks.map (lnF l)) := by
  have key : ∀ (n j : Nat), j + n ≤ d → gT σ R ks.length (j + n + 1) = gT σ R ks.length j + lvS n (ks.map (lnF l)) j := fun n => by
    induction n with
    | zero =>
      intro j hj
      simp only [gT, lvS, Nat.add_zero]
      rw [(gs_X hv hM hk hl hn (lv := j) (by omega)).2]
    | succ n ih =>
      intro j hj
      have := ih (j + 1) (by omega)
      rw [show j + (n + 1) + 1 = j + 1 + n + 1 by omega, this]
      simp only [gT, lvS]
      rw [(gs_X hv hM hk hl hn (lv := j) (by omega)).2]
      omega
  have := key d 0 (by omega)
  rw [hv.2.1, exF_l, show d + 1 = 0 + d + 1 by omega, this]
  simp only [gT]
  omega
theorem m_extX {Q : Int → sg_S → Prop} (hv : fX σ M v d l R) (hM : 1 ≤ M ∧ M ≤ 12000) (hc : sg_g σ 88 91 ≤ 60000 ∧ sg_g σ 88 87 ≤ 30000) (hk : lX σ ks) (hl : ∀ x ∈ ks, x < l.length) (hn : ks.length ≤ 13000) (k : ∀ σ', sg_F [144] σ σ' → Q (exF d (ks.map (lnF l))) σ') : V_extentOfLanes σ v Q := by
  refine m_extL hv.1 hM hc (lnO_X hv hk hl hn) (fun q σ' e F => ?_)
  rw [hk.1, Int.toNat_natCast, gT_X hv hM.1 hk hl hn] at e
  rw [e]
  exact k σ' F
theorem m_gathF {Q : Int → sg_S → Prop} (hv : fX σ M v d l R) (hM : 1 ≤ M ∧ M ≤ 12000) (hc : 0 ≤ sg_g σ 88 91) (hfl : 0 ≤ sg_g σ 88 87 ∧ sg_g σ 88 87 < 30000) (hk : lX σ ks) (hl : ∀ x ∈ ks, x < l.length) (hn : ks.length ≤ 13000) (ht : sg_g σ 88 91 + exF d (ks.map (lnF l)) ≤ 60000) (k : ∀ q σ', q = sg_g σ 88 87 → fEx σ σ' → (∀ M', (∀ j : Nat, j ≤ d → ((lvl j (ks.map (lnF l))).length : Int) ≤ M') → fX σ' M' q d (ks.map (lnF l)) (gR σ R)) → sg_g σ' 88 87 = sg_g σ 88 87 + 1 → sg_g σ' 88 91 = sg_g σ 88 91 + exF d (ks.map (lnF l)) → sg_F [139, 140, 141, 142, 144, 88088, 92088] σ σ' → Q q σ') : V_gathered σ v Q := by
  have eJ : (sg_g σ 88 93).toNat = ks.length := by rw [hk.1, Int.toNat_natCast]
  have eT := gT_X hv hM.1 hk hl hn
  have lR := hv.2.1
  refine m_gathX hv.1 hM hc hfl (lnO_X hv hk hl hn) (by rw [eJ, eT]; exact ht) (fun q σ' e ex fv cl e87 e91 F => k q σ' e ex (fun M' hM' => ?_) e87 (by rw [e91, eJ, eT]) F)
  refine ⟨fv M' (fun lv hlv => ?_), by rw [gR_l]; exact lR, okF_m hv.2.2.1 ks, fun j hj => ?_⟩
  · rw [eJ, (gs_X hv hM.1 hk hl hn (lv := lv) (by omega)).2]
    exact hM' lv (by omega)
  · have g := gs_X hv hM.1 hk hl hn (lv := j) hj
    have er : (gR σ R).getD j (0, 0) = (sg_g σ 88 91 + gT σ R (sg_g σ 88 93).toNat j, gsum σ R j (sg_g σ 88 93).toNat) := by
      rw [List.getD_eq_getElem?_getD, gR_at (by omega)]
      rfl
    rw [er]
    simp only
    rw [eJ] at cl ⊢
    refine ⟨g.2.symm, fun i x hx => ?_⟩
    exact cl j i x (by omega) (by rw [g.1]; exact hx)
end FXG
