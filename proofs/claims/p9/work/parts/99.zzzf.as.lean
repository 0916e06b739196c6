/-! flat runs of the reference, exactly: variables carried along, put back; lanes where a row is not 0. -/
theorem undA_r {σ : sg_S} {b : Int} {w : Int → Int} : ∀ (O : List Int) (s : Int), (∀ (i : Nat) (x : Int), O[i]? = some x → sg_g σ 148 (s + i) = x ∧ sg_g σ 149 (s + i) = w x) → undA σ b s O.length = if b ∈ O then w b else sg_g σ 134 b
  | [], s, _ => by simp [undA]
  | x :: O, s, h => by
    have h0 := h 0 x rfl
    rw [show s + ((0 : Nat) : Int) = s by omega] at h0
    have ih := undA_r (b := b) O (s + 1) (fun i y hy => by
      have := h (i + 1) y hy
      rw [show s + ((i + 1 : Nat) : Int) = s + 1 + (i : Int) by omega] at this
      exact this)
    rw [List.length_cons]
    simp only [undA]
    rw [h0.1, h0.2, ih]
    by_cases c : x = b
    · rw [if_pos c, if_pos (by simp [c]), c]
    · rw [if_neg c]
      by_cases c2 : b ∈ O
      · rw [if_pos c2, if_pos (by simp [c2])]
      · rw [if_neg c2, if_neg (by
          intro z
          rcases List.mem_cons.mp z with q | q
          · exact c q.symm
          · exact c2 q)]
theorem m_restoreX {σ : sg_S} {to : Int} {O : List Int} {w : Int → Int} {Q : sg_S → Prop} (h0 : 0 ≤ to ∧ sg_g σ 88 99 = to + O.length ∧ sg_g σ 88 99 ≤ 12000) (hB : sB σ) (hr : ∀ (i : Nat) (x : Int), O[i]? = some x → sg_g σ 148 (to + i) = x ∧ sg_g σ 149 (to + i) = w x) (k : ∀ σ', sg_g σ' 88 99 = to → (∀ b, sg_g σ' 134 b = if b ∈ O then w b else sg_g σ 134 b) → sB σ' → sg_F [134, 100088] σ σ' → Q σ') : V_restore σ to Q := by
  refine m_restore ⟨h0.1, by omega, h0.2.2⟩ hB (fun σ' e1 e2 e3 F => k σ' e1 (fun b => ?_) e3 F)
  have a := e2 to b (Int.le_refl _)
  have t : und σ' to b = sg_g σ' 134 b := by
    have := und_top (σ := σ') (b := b)
    rw [e1] at this
    exact this
  rw [t] at a
  rw [a]
  unfold und
  rw [h0.2.1, show (to + (O.length : Int) - to).toNat = O.length by omega]
  exact undA_r O to hr
/-- lanes in which a row is not 0 (b), or is 0 -/
theorem fWh_s (b : Bool) (c : List vaF) (n : Nat) : (List.range (n + 1)).filter (fun i : Nat => decide ((c.getD i (nmF 0)) [] = 0) != b) = (List.range n).filter (fun i : Nat => decide ((c.getD i (nmF 0)) [] = 0) != b) ++ (if (decide ((c.getD n (nmF 0)) [] = 0) != b) = true then [n] else []) := by
  rw [List.range_succ, List.filter_append]
  congr 1
  rw [List.filter_cons, List.filter_nil]
theorem m_whereX {σ : sg_S} {v is : Int} {l : List vaF} {R : List (Int × Int)} {b : Bool} {Q : sg_S → Prop} (hv : fX σ 6000 v 0 l R) (hc : sg_g σ 88 91 ≤ 60000 ∧ sg_g σ 88 87 ≤ 30000) (hi : is = if b = true then 1 else 0) (k : ∀ σ', lX σ' ((fWh b l).map (fun n : Nat => (n : Int))) → sg_F [143, 94088] σ σ' → Q σ') : V_listWhere σ v is Q := by
  obtain ⟨r, R', er, er1, er2, er3, er4⟩ := fX_r hv
  subst er
  have z0 := fV_0 hv.1
  have vb := hv.1.1
  have vl : v_lanesOf σ v = l.length := by unfold v_lanesOf; rw [z0.2]; exact er2
  have l6 : (l.length : Int) ≤ 6000 := by have := er3.2.2.1; omega
  unfold V_listWhere
  intro σ1 e1
  have f1 : sg_F [94088] σ σ1 := by rw [e1]; exact sg_F_w (sg_F_r _ _) rfl _
  rw [vl]
  obtain ⟨p, ep⟩ : ∃ p : Nat → Bool, p = fun i : Nat => decide ((l.getD i (nmF 0)) [] = 0) != b := ⟨_, rfl⟩
  refine ⟨fun n x σ5 => ∃ i : Nat, x = i ∧ n = l.length - i ∧ i ≤ l.length ∧ lX σ5 (((List.range i).filter p).map (fun n : Nat => (n : Int))), fun σ5 => lX σ5 ((fWh b l).map (fun n : Nat => (n : Int))), ⟨_, 0, rfl, rfl, Nat.zero_le _, lX_0 e1⟩, ?_, fun σ5 f5 h5 => k σ5 h5 (sg_F_t (sg_F_m f1 rfl) f5)⟩
  rintro n x σ5 rx f5 ⟨i, rfl, en, hi', h5⟩
  refine ⟨⟨⟨by omega, by omega⟩, ⟨by omega, by omega⟩, trivial⟩, fun z => ?_, fun z => ?_⟩
  · have ei : i = l.length := by omega
    rw [ei, ep] at h5
    exact h5
  obtain ⟨pa, va⟩ := pRX hv hc (i := i) (by omega)
  rw [va]
  have fs : (List.range (i + 1)).filter p = (List.range i).filter p ++ (if p i = true then [i] else []) := by
    rw [ep]; exact fWh_s b l i
  have fl : ((List.range i).filter p).length ≤ i := by
    have := List.length_filter_le p (List.range i)
    rw [List.length_range] at this
    exact this
  refine ⟨pa, fun v26 e26 r26 => ⟨fun σ6 => lX σ6 (((List.range (i + 1)).filter p).map (fun n : Nat => (n : Int))), ⟨fun c => lX_e h5 ?_, fun c => m_listX h5 (by rw [List.length_map]; omega) rx (fun σ6 h6 f6 _ => lX_e h6 ?_)⟩, fun σ6 f6 h6 => ⟨⟨by omega, by omega⟩, l.length - (i + 1), by omega, i + 1, by omega, rfl, by omega, h6⟩⟩⟩
  · rw [fs, if_neg, List.append_nil]
    intro pi
    apply c
    rw [e26, hi]
    have pi' : (decide ((l.getD i (nmF 0)) [] = 0) != b) = true := by rw [ep] at pi; exact pi
    by_cases cz : (l.getD i (nmF 0)) [] = 0
    · rw [if_pos cz]
      rw [decide_eq_true cz] at pi'
      cases b with
      | false => rfl
      | true => cases pi'
    · rw [if_neg cz]
      rw [decide_eq_false cz] at pi'
      cases b with
      | true => rfl
      | false => cases pi'
  · rw [fs, if_pos, List.map_append]
    · rfl
    · rw [ep]
      show (decide ((l.getD i (nmF 0)) [] = 0) != b) = true
      rw [e26, hi] at c
      by_cases cz : (l.getD i (nmF 0)) [] = 0
      · rw [if_pos cz] at c
        rw [decide_eq_true cz]
        cases b with
        | false => rfl
        | true => exact absurd c (by decide)
      · rw [if_neg cz] at c
        rw [decide_eq_false cz]
        cases b with
        | true => rfl
        | false => exact absurd c (by decide)
section FXCA
variable {σ : sg_S}
abbrev caL : List Nat := [134, 139, 140, 141, 142, 144, 148, 149, 85088, 86088, 88088, 92088, 100088]
theorem fPk_ln {l : List vaF} {kn : List Nat} : fPk l kn = (kn.map (fun n : Nat => (n : Int))).map (lnF l) := by
  unfold fPk
  rw [List.map_map]
  refine List.map_congr_left (fun n _ => ?_)
  show l.getD n (nmF 0) = lnF l (n : Int)
  unfold lnF
  rw [if_neg (by omega), Int.toNat_natCast]
theorem m_carriedX {O : List Int} {kn : List Nat} {Λ : Nat} {ty : Int → Int} {ρ : fEv} {s : fSt} {Q : Int → sg_S → Prop} (hI : fI σ) (hs : fcX σ s) (hB : sB σ) (hO : oR σ O) (hl : O.length ≤ 200) (hv : ∀ b ∈ O, ∃ R, fX σ 6000 (sg_g σ 134 b) (ty b).toNat (ρ b) R ∧ (ρ b).length = Λ) (hk : lX σ (kn.map (fun n : Nat => (n : Int)))) (hkl : ∀ x ∈ kn, x < Λ) (hn : kn.length ≤ 6000) (k0 : ∀ s', fCa ty kn O s ρ = .inl (8, s') → ∀ σ', sg_g σ' 88 73 = 8 → fcX σ' s' → sg_F [134, 139, 140, 141, 142, 144, 148, 149, 74088, 85088, 86088, 88088, 92088, 100088] σ σ' → Q 0 σ') (k1 : ∀ s' ρ', fCa ty kn O s ρ = .inr (s', ρ') → (∀ b, ρ' b = if b ∈ O then fPk (ρ b) kn else ρ b) → ∀ σ', fI σ' → fcX σ' s' → sB σ' → fEx σ σ' → (∀ b ∈ O, ∃ R, fX σ' 6000 (sg_g σ' 134 b) (ty b).toNat (fPk (ρ b) kn) R) → (∀ b, b ∉ O → sg_g σ' 134 b = sg_g σ 134 b) → sg_g σ' 88 99 = sg_g σ 88 99 + O.length → (∀ (i : Nat) (x : Int), O[i]? = some x → sg_g σ' 148 (sg_g σ 88 99 + i) = x ∧ sg_g σ' 149 (sg_g σ 88 99 + i) = sg_g σ 134 x) → (∀ i, i < sg_g σ 88 99 → sg_g σ' 148 i = sg_g σ 148 i ∧ sg_g σ' 149 i = sg_g σ 149 i) → sg_F caL σ σ' → Q 1 σ') : V_carried σ Q := by
  obtain ⟨o1, o2, o3, o4⟩ := hO
  obtain ⟨ρi, eρ⟩ : ∃ ρi : Nat → fEv, ∀ i b, ρi i b = if b ∈ O.take i then fPk (ρ b) kn else ρ b := ⟨fun i b => if b ∈ O.take i then fPk (ρ b) kn else ρ b, fun _ _ => rfl⟩
  have ρ0 : ρi 0 = ρ := funext (fun b => by rw [eρ 0 b, List.take_zero, if_neg (by simp)])
  unfold V_carried
  rw [o1]
  refine ⟨fun n v σ2 => ∃ (i : Nat) (si : fSt), v = i ∧ n = O.length - i ∧ i ≤ O.length ∧ (fI σ2 ∧ fcX σ2 si ∧ sB σ2 ∧ fEx σ σ2) ∧ fCa ty kn (O.drop i) si (ρi i) = fCa ty kn O s ρ ∧ (∀ b ∈ O.take i, ∃ R, fX σ2 6000 (sg_g σ2 134 b) (ty b).toNat (fPk (ρ b) kn) R) ∧ (∀ b, b ∉ O.take i → sg_g σ2 134 b = sg_g σ 134 b) ∧ sg_g σ2 88 99 = sg_g σ 88 99 + i ∧ (∀ (j : Nat) (x : Int), j < i → O[j]? = some x → sg_g σ2 148 (sg_g σ 88 99 + j) = x ∧ sg_g σ2 149 (sg_g σ 88 99 + j) = sg_g σ 134 x) ∧ (∀ j, j < sg_g σ 88 99 → sg_g σ2 148 j = sg_g σ 148 j ∧ sg_g σ2 149 j = sg_g σ 149 j) ∧ sg_F caL σ σ2, fun σ2 => ∃ si : fSt, (fI σ2 ∧ fcX σ2 si ∧ sB σ2 ∧ fEx σ σ2) ∧ fCa ty kn O s ρ = .inr (si, ρi O.length) ∧ (∀ b ∈ O, ∃ R, fX σ2 6000 (sg_g σ2 134 b) (ty b).toNat (fPk (ρ b) kn) R) ∧ (∀ b, b ∉ O → sg_g σ2 134 b = sg_g σ 134 b) ∧ sg_g σ2 88 99 = sg_g σ 88 99 + O.length ∧ (∀ (j : Nat) (x : Int), O[j]? = some x → sg_g σ2 148 (sg_g σ 88 99 + j) = x ∧ sg_g σ2 149 (sg_g σ 88 99 + j) = sg_g σ 134 x) ∧ (∀ j, j < sg_g σ 88 99 → sg_g σ2 148 j = sg_g σ 148 j ∧ sg_g σ2 149 j = sg_g σ 149 j) ∧ sg_F caL σ σ2, ⟨_, 0, s, rfl, rfl, Nat.zero_le _, ⟨hI, hs, hB, fEx_r σ⟩, by rw [ρ0, List.drop_zero], fun b hb => by simp at hb, fun b _ => rfl, by omega, fun j x hj => by omega, fun j _ => ⟨rfl, rfl⟩, sg_F_r _ _⟩, ?_, ?_⟩
  · rintro n v σ2 rv fV2 ⟨i, si, rfl, en, hi, ⟨p1, p0, p2, p3⟩, pc, p4, p5, p6, p7, p8, p9⟩
    refine ⟨fun z => ?_, fun z => ?_⟩
    · have ei : i = O.length := by omega
      subst ei
      rw [List.drop_of_length_le (Nat.le_refl _)] at pc
      rw [List.take_of_length_le (Nat.le_refl _)] at p4 p5
      exact ⟨si, ⟨p1, p0, p2, p3⟩, pc.symm, p4, p5, p6, fun j x hx => p7 j x (lt_of_get hx) hx, p8, p9⟩
    obtain ⟨b, hb⟩ : ∃ q, O[i]? = some q := ⟨_, List.getElem?_eq_getElem (by omega)⟩
    have bO := List.mem_of_getElem? hb
    have eb := o2 i b hb
    have tk : O.take (i + 1) = O.take i ++ [b] := by
      rw [List.take_add_one, hb]; rfl
    have bn : b ∉ O.take i := fun w => by
      have nd := o3
      rw [← List.take_append_drop i O, List.nodup_append] at nd
      have : b ∈ O.drop i := by
        rw [List.mem_iff_getElem?]
        exact ⟨0, by rw [List.getElem?_drop]; exact hb⟩
      exact nd.2.2 b w b this rfl
    have dr : O.drop i = b :: O.drop (i + 1) := by
      rw [List.drop_eq_getElem_cons (by omega)]
      congr 1
      have := List.getElem?_eq_getElem (l := O) (i := i) (by omega)
      rw [hb] at this
      exact (Option.some.inj this).symm
    rw [eb, p5 b bn]
    obtain ⟨R, hX0, lX0⟩ := hv b bO
    have hX := fX_up p3 hX0
    have vR : sg_R (sg_g σ 134 b) := sg_Rg _ _ _
    have lk2 := lX_F p9 rfl hk
    obtain ⟨i1, i2, i3, i4, i5⟩ := p1
    have s85 := p0.2.1
    have s84 := p0.1
    have hm : ∀ x ∈ kn.map (fun n : Nat => (n : Int)), x < ((ρ b).length : Int) := fun x hx => by
      obtain ⟨n, hn', e⟩ := List.mem_map.mp hx
      have e' : ((n : Nat) : Int) = x := e
      have := hkl n hn'
      omega
    have hlen : (kn.map (fun n : Nat => (n : Int))).length ≤ 13000 := by rw [List.length_map]; omega
    obtain ⟨x0, x1⟩ := exF_u hX lk2 hm hlen
    have ρb : ρi i b = ρ b := by rw [eρ i b, if_neg bn]
    have eca : fCa ty kn O s ρ = (match fStp (exF (ty b).toNat ((kn.map (fun n : Nat => (n : Int))).map (lnF (ρ b)))) si with
      | none => .inl (8, si)
      | some s1 => fCa ty kn (O.drop (i + 1)) s1 (ρi (i + 1))) := by
      rw [← pc, dr]
      simp only [fCa]
      rw [ρb, fPk_ln]
      have eu : (fun x => if x = b then (kn.map (fun n : Nat => (n : Int))).map (lnF (ρ b)) else ρi i x) = ρi (i + 1) := funext (fun x => by
        rw [eρ (i + 1) x, eρ i x, tk]
        by_cases cx : x = b
        · rw [if_pos cx, if_pos (by simp [cx]), fPk_ln, cx]
        · rw [if_neg cx]
          by_cases cm : x ∈ O.take i
          · rw [if_pos cm, if_pos (by simp [cm])]
          · rw [if_neg cm, if_neg (by simp [cm, cx])])
      rw [eu]
      cases fStp (exF (ty b).toNat ((kn.map (fun n : Nat => (n : Int))).map (lnF (ρ b)))) si <;> rfl
    refine ⟨⟨by omega, by omega⟩, o4 b bO, m_extX hX ⟨by decide, by decide⟩ ⟨by omega, by omega⟩ lk2 hm hlen (fun σ3 f3 rt _ => ?_)⟩
    obtain ⟨t, et⟩ : ∃ t, t = exF (ty b).toNat ((kn.map (fun n : Nat => (n : Int))).map (lnF (ρ b))) := ⟨_, rfl⟩
    rw [← et] at x0 x1 eca ⊢
    refine m_stepX (fcX_F f3 rfl p0) ⟨x0, by omega⟩ (fun h0 σ' e c F _ _ => ⟨fun z => absurd rfl z, fun _ => k0 si (by rw [eca, h0]) σ' e c (sg_F_t (sg_F_m p9 rfl) (sg_F_t (sg_F_m f3 rfl) (sg_F_m F rfl)))⟩) (fun s' hs' σ4 c4 f4 _ _ => ⟨fun _ => ⟨⟨by omega, by omega⟩, fun σ5 e5 σ6 e6 => ⟨⟨by omega, by omega⟩, fun σ7 e7 => ?_⟩⟩, fun z => by omega⟩)
    have st := fStp_s hs'
    rw [hs'] at eca
    have f34 : sg_F [144, 85088, 86088] σ2 σ4 := sg_F_t (sg_F_m f3 rfl) (sg_F_m f4 rfl)
    have f47 : sg_F [148, 149, 100088] σ4 σ7 := by rw [e7, e6, e5]; exact sg_F_w (sg_F_w (sg_F_w (sg_F_r _ _) rfl _) rfl _) rfl _
    have F7 : sg_F [144, 148, 149, 85088, 86088, 100088] σ2 σ7 := sg_F_t (sg_F_m f34 rfl) (sg_F_m f47 rfl)
    have g91 : sg_g σ7 88 91 = sg_g σ2 88 91 := sg_F_g F7 (by rfl)
    have g87 : sg_g σ7 88 87 = sg_g σ2 88 87 := sg_F_g F7 (by rfl)
    refine m_gathF (fX_up (fEx_F F7 rfl) hX) ⟨by decide, by decide⟩ (by omega) ⟨by omega, by omega⟩ (lX_F F7 rfl lk2) hm hlen (by rw [← et]; omega) (fun w σ8 ew ex8 fv8 e87 e91 f8 rw' _ σ9 e9 => ?_)
    rw [← et] at e91
    have fv8' := fv8 6000 (fun j hj => by
      have := lvl_ex (ty b).toNat j ((kn.map (fun n : Nat => (n : Int))).map (lnF (ρ b))) hj
      rw [← et] at this
      omega)
    have f9 : sg_F [134] σ8 σ9 := by rw [e9]; exact sg_F_w (sg_F_r _ _) rfl _
    have F9 : sg_F caL σ2 σ9 := sg_F_t (sg_F_m F7 rfl) (sg_F_t (sg_F_m f8 rfl) (sg_F_m f9 rfl))
    have F79 : sg_F [134, 139, 140, 141, 142, 144, 88088, 92088] σ7 σ9 := sg_F_t (sg_F_m f8 rfl) (sg_F_m f9 rfl)
    have ex9 : fEx σ2 σ9 := fEx_t (fEx_F F7 rfl) (fEx_t ex8 (fEx_F f9 rfl))
    have c9 : fcX σ9 s' := fcX_F F79 rfl (fcX_F f47 rfl c4)
    have h84 : sg_g σ9 88 84 = sg_g σ2 88 84 + 1 := by rw [c9.1, st.1, p0.1]
    have h85 : sg_g σ9 88 85 = sg_g σ2 88 85 + t := by rw [c9.2.1, st.2.1, p0.2.1]
    have h91 : sg_g σ9 88 91 = sg_g σ2 88 91 + t := by rw [sg_F_g f9 (by rfl)]; omega
    have h87 : sg_g σ9 88 87 = sg_g σ2 88 87 + 1 := by rw [sg_F_g f9 (by rfl)]; omega
    have h62 : sg_g σ9 88 62 = sg_g σ2 88 62 := sg_F_g F9 (by rfl)
    have h99 : sg_g σ9 88 99 = sg_g σ2 88 99 + 1 := by rw [sg_F_g F79 (by rfl), e7, sg_gw_e _ _ _ _ ⟨by omega, by omega⟩]
    have c148 : ∀ j, sg_g σ9 148 j = sg_g σ7 148 j := fun j => sg_F_ga F79 rfl
    have c149 : ∀ j, sg_g σ9 149 j = sg_g σ7 149 j := fun j => sg_F_ga F79 rfl
    have c134 : ∀ u, ¬ u = b → sg_g σ9 134 u = sg_g σ2 134 u := fun u hu => by rw [e9, sg_gw_k _ _ _ _ _ _ hu, sg_F_ga f8 rfl, sg_F_ga F7 rfl]
    have s148 : sg_g σ7 148 (sg_g σ2 88 99) = b := by rw [e7, sg_gw_c _ _ _ _ _ _ (by decide), e6, sg_gw_c _ _ _ _ _ _ (by decide), e5, sg_gw_e _ _ _ _ ⟨by have := (o4 b bO).1; omega, by have := (o4 b bO).2; omega⟩]
    have s149 : sg_g σ7 149 (sg_g σ2 88 99) = sg_g σ 134 b := by rw [e7, sg_gw_c _ _ _ _ _ _ (by decide), e6, sg_gw_e _ _ _ _ vR]
    have o148 : ∀ j, ¬ j = sg_g σ2 88 99 → sg_g σ7 148 j = sg_g σ2 148 j := fun j hj => by rw [e7, sg_gw_c _ _ _ _ _ _ (by decide), e6, sg_gw_c _ _ _ _ _ _ (by decide), e5, sg_gw_k _ _ _ _ _ _ hj, sg_F_ga f34 rfl]
    have o149 : ∀ j, ¬ j = sg_g σ2 88 99 → sg_g σ7 149 j = sg_g σ2 149 j := fun j hj => by rw [e7, sg_gw_c _ _ _ _ _ _ (by decide), e6, sg_gw_k _ _ _ _ _ _ hj, e5, sg_gw_c _ _ _ _ _ _ (by decide), sg_F_ga f34 rfl]
    have vb : sg_g σ9 134 b = w := by rw [e9, sg_gw_e _ _ _ _ rw']
    refine ⟨⟨by omega, by omega⟩, O.length - (i + 1), by omega, i + 1, s', by omega, rfl, by omega, ⟨⟨⟨by omega, by omega⟩, ⟨by omega, by omega⟩, ⟨by omega, by omega⟩, ⟨by omega, by omega, by omega⟩, by omega, by omega⟩, c9, fun j x y => ?_, fEx_t p3 ex9⟩, eca.symm, fun u hu => ?_, fun u hu => ?_, by omega, fun j x hj hx => ?_, fun j hj => ?_, sg_F_t p9 F9⟩
    · rw [c148]
      by_cases c : j = sg_g σ2 88 99
      · rw [c, s148]; exact o4 b bO
      · rw [o148 j c]; exact p2 j x (by omega)
    · rw [tk] at hu
      rcases List.mem_append.mp hu with q | q
      · have ub : ¬ u = b := fun e => bn (by rw [← e]; exact q)
        rw [c134 u ub]
        obtain ⟨R1, h1⟩ := p4 u q
        exact ⟨R1, fX_up ex9 h1⟩
      · have : u = b := by simpa using q
        rw [this, vb, fPk_ln]
        exact ⟨_, fX_up (fEx_F f9 rfl) fv8'⟩
    · rw [tk] at hu
      have u1 : u ∉ O.take i := fun q => hu (by simp [q])
      have u2 : ¬ u = b := fun q => hu (by simp [q])
      rw [c134 u u2]; exact p5 u u1
    · rw [c148, c149]
      by_cases c : j = i
      · subst c
        rw [hb] at hx
        cases hx
        rw [← p6, s148, s149]
        exact ⟨rfl, rfl⟩
      · rw [o148 _ (by omega), o149 _ (by omega)]
        exact p7 j x (by omega) hx
    · rw [c148, c149, o148 _ (by omega), o149 _ (by omega)]
      exact p8 j hj
  · rintro σ2 fV2 ⟨si, ⟨p1, p0, p2, p3⟩, pc, p4, p5, p6, p7, p8, p9⟩
    exact k1 si (ρi O.length) pc (fun b => by rw [eρ O.length b, List.take_of_length_le (Nat.le_refl _)]) σ2 p1 p0 p2 p3 p4 p5 p6 p7 p8 p9
end FXCA
