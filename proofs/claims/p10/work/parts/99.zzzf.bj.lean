/-! THE FLAT RUN of the reference in big steps: a { }; lengths, GENS begun, names from outside. -/
theorem fRp_s (x : Nat) (ln : List Nat) : fRp (x + 1) ln = fRp x ln ++ List.replicate (ln.getD x 0) x := by
  unfold fRp
  rw [List.range_succ, List.map_append, List.flatten_append]
  simp
theorem fRp_le (ln : List Nat) {x : Nat} : ∀ {y : Nat}, x ≤ y → (fRp x ln).length ≤ (fRp y ln).length
  | 0, h => by rw [show x = 0 by omega]; exact Nat.le_refl _
  | y + 1, h => by
    by_cases e : x = y + 1
    · rw [e]; exact Nat.le_refl _
    · rw [fRp_s, List.length_append]
      have := fRp_le ln (x := x) (y := y) (by omega)
      omega
theorem fRp_m {m : Nat} {ln : List Nat} : ∀ x ∈ fRp m ln, x < m := fun x hx => by
  unfold fRp at hx
  obtain ⟨l, hl, hx⟩ := List.mem_flatten.mp hx
  obtain ⟨i, hi, e⟩ := List.mem_map.mp hl
  rw [← e] at hx
  rw [(List.mem_replicate.mp hx).2]
  exact List.mem_range.mp hi
theorem fCt_f : ∀ (ln : List Nat) (l : List vaF), ln.sum = l.length → flF (fCt ln l) = l
  | [], l, h => by
    have : l = [] := List.eq_nil_of_length_eq_zero h.symm
    rw [this]; rfl
  | n :: r, l, h => by
    rw [List.sum_cons] at h
    simp only [fCt]
    rw [flF_c, itF_mk, fCt_f r (l.drop n) (by rw [List.length_drop]; omega), List.take_append_drop]
theorem fCt_w : ∀ (ln : List Nat) (l : List vaF) (i : Nat) (u : vaF), ln.sum = l.length → (fCt ln l)[i]? = some u → i < ln.length ∧ u = mkF ((l.drop (ln.take i).sum).take (ln.getD i 0)) ∧ u [] = (ln.getD i 0 : Nat)
  | [], l, i, u, h, hu => by simp [fCt] at hu
  | n :: r, l, 0, u, h, hu => by
    rw [List.sum_cons] at h
    simp only [fCt, List.getElem?_cons_zero, Option.some.injEq] at hu
    refine ⟨by simp, by rw [← hu]; rfl, ?_⟩
    rw [← hu, mkF_0, List.length_take]
    simp only [List.getD_cons_zero]
    omega
  | n :: r, l, i + 1, u, h, hu => by
    rw [List.sum_cons] at h
    simp only [fCt, List.getElem?_cons_succ] at hu
    obtain ⟨a, b, c⟩ := fCt_w r (l.drop n) i u (by rw [List.length_drop]; omega) hu
    refine ⟨by rw [List.length_cons]; omega, ?_, ?_⟩
    · rw [b, List.drop_drop, List.take_succ_cons, List.sum_cons, List.getD_cons_succ]
    · rw [c, List.getD_cons_succ]
/-- how many of the items of each lane are chosen -/
def ctL (ln : List Nat) (c : List vaF) : List Nat := (fCt ln c).map (fun w => ((itF w).filter (fun u => decide (u [] ≠ 0))).length)
theorem fl_cw : ∀ l : List vaF, (l.filter (fun u => decide (u [] ≠ 0))).length = cwF true l
  | [] => rfl
  | v :: r => by
    rw [cwF_c, ← fl_cw r]
    by_cases h : v [] = 0
    · simp [h]
    · simp [h]
theorem cw_fl : ∀ L : List vaF, (L.map (fun w => cwF true (itF w))).sum = cwF true (flF L)
  | [] => rfl
  | v :: r => by rw [List.map_cons, List.sum_cons, cw_fl r, flF_c, cwF_a]
theorem ctL_s {ln : List Nat} {c : List vaF} (h : ln.sum = c.length) : (ctL ln c).sum = cwF true c := by
  unfold ctL
  have e : (fun w : vaF => ((itF w).filter (fun u => decide (u [] ≠ 0))).length) = fun w => cwF true (itF w) := by
    funext w; exact fl_cw _
  rw [e, cw_fl, fCt_f ln c h]
theorem ctL_i {ln : List Nat} {c : List vaF} (h : ln.sum = c.length) {i : Nat} (hi : i < ln.length) : (ctL ln c).getD i 0 = cwF true ((c.drop (ln.take i).sum).take (ln.getD i 0)) := by
  have l1 : (fCt ln c).length = ln.length := fCt_l ln c
  obtain ⟨u, hu⟩ : ∃ u, (fCt ln c)[i]? = some u := ⟨_, List.getElem?_eq_getElem (by omega)⟩
  obtain ⟨a, b, -⟩ := fCt_w ln c i u h hu
  unfold ctL
  rw [List.getD_eq_getElem?_getD, List.getElem?_map, hu, Option.map_some, Option.getD_some, b, itF_mk, fl_cw]
theorem ctL_l (ln : List Nat) (c : List vaF) : (ctL ln c).length = ln.length := by unfold ctL; rw [List.length_map, fCt_l]
theorem cwF_le (b : Bool) (l : List vaF) : cwF b l ≤ l.length := by unfold cwF; exact List.countP_le_length
theorem tk_sum : ∀ (ln : List Nat) (i : Nat), i < ln.length → (ln.take (i + 1)).sum = (ln.take i).sum + ln.getD i 0
  | [], i, h => by simp at h
  | n :: r, 0, h => by simp
  | n :: r, i + 1, h => by
    rw [List.length_cons] at h
    rw [List.take_succ_cons, List.take_succ_cons, List.sum_cons, List.sum_cons, tk_sum r i (by omega), List.getD_cons_succ]
    omega
theorem tk_sle : ∀ (ln : List Nat) (i : Nat), (ln.take i).sum ≤ ln.sum
  | [], i => by simp
  | n :: r, 0 => by simp
  | n :: r, i + 1 => by
    rw [List.take_succ_cons, List.sum_cons, List.sum_cons]
    have := tk_sle r i
    omega
section BJS
variable {A : aT} {D : List aDf} {T B c : Int → Int} {lev : Int → Nat}
theorem gof_each {n sv bd : Int} {tl : List Int} {l : Nat} (hn : 0 ≤ n ∧ n < A.1) (hl : l ≤ 6000) (k15 : A.2.1 n = 15) (ea : A.2.2.2.2.1 n = bd :: tl) (σ : sg_S) (st : Nat) (b fr x : Int) (Q : sg_S → Prop) (hX : pgX σ A D T B) (hf : sg_g σ 88 62 = fr + 1) (f0 : 0 ≤ fr ∧ fr < 4000) (hT : gfT σ fr n st b l sv) (h15 : A.2.1 n = 15 → st < (A.2.2.2.2.2 n).length) (hx : (A.2.2.2.2.1 n)[1 + st]? = some x) (k : ∀ σ3, σ3 = sg_w σ 127 fr (st + 1) → ∀ Q' : sg_S → Prop, (∀ σ', Q σ' → Q' σ') → V_flatBegin σ3 x (l : Int) Q') : V_goFlat σ (fun σ' => sg_F flL σ σ' → Q σ') := by
  obtain ⟨t1, t2, t3, t4, t5⟩ := tr_k hX.1 hn
  have hA := hX.2.2.2.2.1
  have hst := h15 k15
  have hj := gE_l hx
  obtain ⟨p1, p2, p3, p4, p5⟩ := hT
  refine gf_each hX hn hf f0 p1 k15 (fun Q' hQ' => ?_)
  unfold V_flatEach
  rw [p1, p2, p4, t5]
  refine ⟨f0, ⟨by omega, by omega⟩, ⟨by omega, by omega⟩, fun σ4 e4 => ⟨fun z => by omega, fun _ => ?_⟩⟩
  have tz := t4 (1 + st) x hx
  rw [show 200 * n + ((1 + st : Nat) : Int) = 200 * n + 1 + (st : Int) by omega] at tz
  rw [tz]
  exact ⟨⟨by omega, by omega⟩, ⟨by omega, by omega⟩, ⟨by omega, by omega⟩, ⟨by omega, by omega⟩, k σ4 e4 _ (fun σ' hq _ => hQ' σ' (fun _ => hq))⟩
/-- the names from outside of a { } are of its scope -/
theorem ea_out {O : Int → Nat → List Int} {j f : Nat} {L : List Int} {sc : List (Int × Int)} {n bd : Int} {tl : List Int} (hA : A.1 ≤ 200) (hO : okO A B O) (h : stN A D T B lev j (f + 1) L sc n) (k15 : A.2.1 n = 15) (ea : A.2.2.2.2.1 n = bd :: tl) : ∃ Lb Lt, fT A [bd] Lb ∧ fT A (tl.drop (A.2.2.2.2.2 n).length) Lt ∧ Lb.Nodup ∧ (∀ y ∈ Lb ++ Lt, 0 ≤ y ∧ y < A.1) ∧ (∀ y ∈ Lb ++ Lt, A.2.1 y = 1 → rb A (B y)) ∧ (∀ t, tl.drop (A.2.2.2.2.2 n).length = [t] → fT A [t] Lt ∧ Lt.Nodup) ∧ (tl.drop (A.2.2.2.2.2 n).length = [] → Lt = []) ∧ ∀ z ∈ O n 0, ∃ p ∈ sc, p.1 = z := by
  obtain ⟨-, g2⟩ := stN_e hA h k15 ea
  obtain ⟨g1, tk, g4, gt⟩ := ea_ts h.1.1 k15 ea
  have w2 := (stN_w h).2.1
  obtain ⟨Lb, hb, sb, -⟩ := g2 bd (by simp)
  have key : ∀ {x : Int} {Lx : List Int}, stN A D T B lev j f Lx (gsc n T 0 (tl.take (A.2.2.2.2.2 n).length) ++ sc) x → ∀ y ∈ Lx, A.2.1 y = 1 → ∀ z, B y = z → ¬ insL Lx z → ¬ isG n z → ∃ p ∈ sc, p.1 = z := fun {x Lx} hx y hy ky z e ni ng => by
    rcases stN_v hA hx hy ky with ⟨u, -⟩ | u
    · rcases List.mem_append.mp u with u | u
      · obtain ⟨i', w, hw, ep⟩ := gsc_m _ _ _ u
        have hi' := lt_of_get hw
        rw [tk] at hi'
        have : B y = 210 + 4 * n + i' := by
          have := congrArg (·.1) ep
          simp only at this
          omega
        exact absurd ⟨by omega, by omega, by omega, by omega⟩ ng
      · exact ⟨_, u, e⟩
    · rw [e] at u; exact absurd u ni
  rcases gt with et | ⟨t, et⟩
  · refine ⟨Lb, [], hb.2.1, by rw [et]; exact fT_z A, hb.2.2.1, fun y hy => ?_, fun y hy ky => ?_, fun t q => ?_, fun _ => rfl, fun z hz => ?_⟩
    · rw [List.append_nil] at hy
      exact (hb.2.2.2.1 y hy).1
    · rw [List.append_nil] at hy
      exact rbX_L hA hb y hy ky
    · rw [et] at q; cases q
    · obtain ⟨y, y1, y2, y3, y4, y5⟩ := (((hO n).2.2 k15 bd tl Lb [] ea hb.2.1 (by rw [et]; exact fT_z A)).1 z).mp hz
      rw [List.append_nil] at y1 y4
      exact key hb y y1 y2 z y3 y4 y5
  · obtain ⟨Lt, ht, st, -⟩ := g2 t (by rw [et]; simp)
    refine ⟨Lb, Lt, hb.2.1, by rw [et]; exact ht.2.1, hb.2.2.1, fun y hy => ?_, fun y hy ky => ?_, fun t' q => ?_, fun q => ?_, fun z hz => ?_⟩
    · rcases List.mem_append.mp hy with q | q
      · exact (hb.2.2.2.1 y q).1
      · exact (ht.2.2.2.1 y q).1
    · rcases List.mem_append.mp hy with q | q
      · exact rbX_L hA hb y q ky
      · exact rbX_L hA ht y q ky
    · rw [et] at q
      cases q
      exact ⟨ht.2.1, ht.2.2.1⟩
    · rw [et] at q; cases q
    · obtain ⟨y, y1, y2, y3, y4, y5⟩ := (((hO n).2.2 k15 bd tl Lb Lt ea hb.2.1 (by rw [et]; exact ht.2.1)).1 z).mp hz
      rcases List.mem_append.mp y1 with q | q
      · exact key hb y q y2 z y3 (fun w => y4 (insL_s (fun y hy => by simp [hy]) w)) y5
      · exact key ht y q y2 z y3 (fun w => y4 (insL_s (fun y hy => by simp [hy]) w)) y5
/-- clearInside, markInside, gatherOutside of the parts of a { } -/
theorem m_ch2 {σ : sg_S} {n bd t ht : Int} {Lb Lt : List Int} {pp : Prop} {Q : sg_S → Prop} (hX : pgX σ A D T B) (hc : ∀ y, sg_g σ 116 y = c y) (hb : fT A [bd] Lb) (nb : Lb.Nodup) (hr : ∀ y ∈ Lb ++ Lt, 0 ≤ y ∧ y < A.1) (hrb : ∀ y ∈ Lb ++ Lt, A.2.1 y = 1 → rb A (B y)) (hpp : pp) (hh : (ht = 0 ∧ Lt = []) ∨ (ht = 1 ∧ fT A [t] Lt ∧ Lt.Nodup)) (k : ∀ σ', oR σ' (gaO A B c (Lb ++ Lt) n A.1.toNat) → sg_F [119, 120, 121, 47088, 50088] σ σ' → Q σ') : V_clearInside σ (fun σ179 => sg_F [120, 47088] σ σ179 → V_markInside σ179 bd (fun σ185 => sg_F [120, 121, 50088] σ179 σ185 → pp ∧ (∃ P193 : sg_S → Prop, ((ht = 0 → P193 σ185) ∧ (¬ ht = 0 → V_markInside σ185 t (fun σ314 => sg_F [120, 121, 50088] σ185 σ314 → P193 σ314))) ∧ (∀ (σ194 : sg_S), sg_F [120, 121, 50088] σ185 σ194 → P193 σ194 → V_gatherOutside σ194 n (fun σ198 => sg_F [119, 47088] σ194 σ198 → Q σ198))))) := by
  have hA := hX.2.2.2.2.1
  have P7 := trT_X (sg_F_r [] σ) rfl hX
  refine m_clear P7.1.1.1 ⟨P7.1.1.2.1, hA⟩ (fun σ8 m8 o8 f8 _ => ?_)
  refine m_mark (trT_X f8 rfl hX).1 hA m8 hb nb (fun y hy => hr y (by simp [hy])) (fun σ9 m9 f9 _ => ⟨hpp, fun σ' => iM σ' A (Lb ++ Lt), ?_, fun σ10 f10 m10 => ?_⟩)
  · rw [List.nil_append] at m9
    have F9 : sg_F [120, 121, 47088, 50088] σ σ9 := sg_F_t (sg_F_m f8 rfl) (sg_F_m f9 rfl)
    rcases hh with ⟨e, eL⟩ | ⟨e, h1, h2⟩
    · refine ⟨fun _ => by rw [eL, List.append_nil]; exact m9, fun z => absurd e z⟩
    · refine ⟨fun z => by omega, fun _ => m_mark (trT_X F9 rfl hX).1 hA m9 h1 h2 (fun y hy => hr y (by simp [hy])) (fun σ10 m10 f10 _ => m10)⟩
  · have F10 : sg_F [120, 121, 47088, 50088] σ σ10 := sg_F_t (sg_F_m f8 rfl) (sg_F_t (sg_F_m f9 rfl) (sg_F_m f10 rfl))
    have P10 := trT_X F10 rfl hX
    exact m_gatherX P10.1 P10.2 (fun y => by rw [sg_F_ga F10 rfl]; exact hc y) hA (by rw [sg_F_g f10 (by rfl), sg_F_g f9 (by rfl)]; exact o8) m10 hrb (fun σ11 o1 f11 _ => k σ11 o1 (sg_F_t (sg_F_m F10 rfl) (sg_F_m f11 rfl)))
end BJS
