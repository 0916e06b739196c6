/-! goFlat, but for IF and EACH. -/
section GB
variable {A : aT} {D : List aDf} {T B : Int → Int} {lev : Int → Nat} {r : Int}
/-- a value is there, or the run ends -/
def wR (σ σ' : sg_S) (K : Nat) (l X v : Int) : Prop := ¬ sg_g σ' 88 73 = 0 ∨ (fq σ' ∧ (0 ≤ sg_g σ' 88 102 ∨ (fEx σ σ' ∧ (sg_g σ 88 84 ≤ sg_g σ' 88 84 ∧ sg_g σ' 88 84 ≤ 2000) ∧ (sg_g σ 88 85 ≤ sg_g σ' 88 85 ∧ sg_g σ' 88 85 ≤ 6000) ∧ (0 ≤ sg_g σ' 88 91 ∧ sg_g σ' 88 91 ≤ 2 * sg_g σ' 88 85) ∧ (0 ≤ sg_g σ' 88 87 ∧ sg_g σ' 88 87 + sg_g σ 88 62 ≤ 8 * sg_g σ' 88 84) ∧ fLx σ' K l (sg_g σ' 88 85 + X) v)))
theorem wR_o {σ σ' : sg_S} {K : Nat} {l X v : Int} (hI : fI σ) (hX : 0 ≤ sg_g σ 88 85 + X) (h : opR σ σ' K l v) : wR σ σ' K l X v := by
  obtain ⟨i1, i2, i3, i4, i5⟩ := hI
  rcases h with h | ⟨h1, h⟩
  · exact Or.inl h
  · refine Or.inr ⟨h1, ?_⟩
    rcases h with h | ⟨ex, p1, p2, p3, p4, R, p5, p6, p7, p8⟩
    · exact Or.inl h
    · have := ex.1
      exact Or.inr ⟨ex, ⟨by omega, by omega⟩, ⟨by omega, by omega⟩, ⟨by omega, by omega⟩, ⟨by omega, by omega⟩, R, p5, p6, p7, by omega⟩
theorem wR_v {σ σ' : sg_S} {K : Nat} {l X v : Int} (hI : fI σ) (e : σ' = sg_w σ 88 102 (-1)) (h : fLx σ K l (sg_g σ 88 85 + X) v) : wR σ σ' K l X v := by
  obtain ⟨i1, i2, i3, i4, i5⟩ := hI
  have F : sg_F [103088] σ σ' := by rw [e]; exact sg_F_w (sg_F_r _ _) rfl _
  refine Or.inr ⟨Or.inl (by rw [e, sg_gw_e _ _ _ _ ⟨by decide, by decide⟩]; decide), Or.inr ⟨fEx_F F rfl, ?_, ?_, ?_, ?_, ?_⟩⟩
  · rw [sg_F_g (k := 84) F (by rfl)]; omega
  · rw [sg_F_g (k := 85) F (by rfl)]; omega
  · rw [sg_F_g (k := 91) F (by rfl), sg_F_g (k := 85) F (by rfl)]; omega
  · rw [sg_F_g (k := 87) F (by rfl), sg_F_g (k := 84) F (by rfl)]; omega
  · rw [sg_F_g (k := 85) F (by rfl)]; exact fLx_up (fEx_F F rfl) (Int.le_refl _) h
/-- the end of a node's turn: a fault, or it leaves its value -/
theorem ev_end {σ σ8 σ9 : sg_S} {m : Nat} {v X : Int} {W : Int → Prop} {Q : sg_S → Prop} (hN : fN σ) (e0 : sg_g σ 88 73 = 0) (fm : sg_g σ 88 62 = m + 1) (hb : 0 ≤ sg_g σ 128 m ∧ sg_g σ 128 m ≤ sg_g σ 88 70) (hs : sg_g σ 88 99 = sg_g σ 146 m) (hK : fStk A D T B lev r σ m (sg_g σ 128 m) (T (sg_g σ 126 m)) (sg_g σ 145 m) X (sg_g σ 146 m) W) (F8 : sg_F [127, 103088] σ σ8) (r127 : ∀ i : Nat, i < m → sg_g σ8 127 i = sg_g σ 127 i) (F9 : sg_F [133, 135, 139, 140, 141, 142, 143, 144, 150, 74088, 85088, 86088, 88088, 92088, 94088, 103088, 104088] σ8 σ9) (hv : ∀ x, x < sg_g σ 88 70 → sg_g σ9 133 x = sg_g σ 133 x) (hw : wR σ σ9 (T (sg_g σ 126 m)).toNat (sg_g σ 145 m) X v) (rv : sg_R v) (k : ∀ σ', fQ A D T B lev r σ σ' → Q σ') : ∃ P31 : sg_S → Prop, ((¬ sg_g σ9 88 73 = 0 → P31 σ9) ∧ (sg_g σ9 88 73 = 0 → ((sg_g σ9 88 102 < 0 → P31 σ9) ∧ (0 ≤ sg_g σ9 88 102 → ∀ σ43, σ43 = sg_w σ9 88 73 (sg_g σ9 88 103) → P31 σ43)))) ∧ (∀ (σ32 : sg_S), sg_F [74088] σ9 σ32 → P31 σ32 → ((¬ sg_g σ32 88 73 = 0 → Q σ32) ∧ (sg_g σ32 88 73 = 0 → V_flatLeave σ32 v (fun σ37 => sg_F [133, 63088, 71088] σ32 σ37 → Q σ37)))) := by
  refine ⟨fun σ' => ¬ sg_g σ' 88 73 = 0 ∨ (σ' = σ9 ∧ sg_g σ9 88 102 < 0), ⟨fun z => Or.inl z, fun z => ⟨fun z2 => Or.inr ⟨rfl, z2⟩, fun z2 σ43 e43 => Or.inl ?_⟩⟩, fun σ32 _ h32 => ⟨fun z => k σ32 (Or.inl z), fun z => ?_⟩⟩
  · rw [e43, sg_gw_e _ _ _ _ (sg_Rg _ _ _)]
    rcases hw with h | ⟨h1, -⟩
    · exact absurd z h
    · rcases h1 with h | h
      · omega
      · exact h
  · rcases h32 with h | ⟨h, h2⟩
    · exact absurd z h
    subst h
    rcases hw with h | ⟨h1, h | ⟨ex, p1, p2, p3, p4, p5⟩⟩
    · exact absurd z h
    · omega
    have F : sg_F [127, 133, 135, 139, 140, 141, 142, 143, 144, 150, 74088, 85088, 86088, 88088, 92088, 94088, 103088, 104088] σ σ32 := sg_F_t (sg_F_m F8 rfl) (sg_F_m F9 rfl)
    obtain ⟨hI, hB, n1, n2, n3⟩ := hN
    obtain ⟨i1, i2, i3, i4, i5⟩ := hI
    have g99 : sg_g σ32 88 99 = sg_g σ 88 99 := sg_F_g F (by rfl)
    have g62 : sg_g σ32 88 62 = sg_g σ 88 62 := sg_F_g F (by rfl)
    have g70 : sg_g σ32 88 70 = sg_g σ 88 70 := sg_F_g F (by rfl)
    have e128 : sg_g σ32 128 m = sg_g σ 128 m := sg_F_ga F rfl
    have e126 : sg_g σ32 126 m = sg_g σ 126 m := sg_F_ga F rfl
    have e145 : sg_g σ32 145 m = sg_g σ 145 m := sg_F_ga F rfl
    have e146 : sg_g σ32 146 m = sg_g σ 146 m := sg_F_ga F rfl
    refine ev_L (m := m) (W := W) (X := X) ⟨⟨⟨by omega, by omega⟩, ⟨by omega, p2.2⟩, p3, ⟨p4.1, by omega, by omega⟩, by omega, by omega⟩, fun i a b => by rw [sg_F_ga F rfl]; exact hB i a (by omega), by omega, by omega, by omega⟩ (by omega) z (by omega) (by omega) (by omega) ?_ (by rw [e126, e145]; exact p5) rv (fun σ' q1 q2 q3 q4 _ => k σ' (Or.inr ⟨q1, q2, ?_⟩))
    · rw [e128, e126, e145, e146]
      refine fStk_up ex p2.1 m _ _ _ _ _ _ _ (fun i hi => ⟨sg_F_ga F rfl, ?_, sg_F_ga F rfl, sg_F_ga F rfl, sg_F_ga F rfl, sg_F_ga F rfl⟩) (fun x a b => hv x (by omega)) (fun s b _ _ => und_F F rfl s b) (fun b hb => hb) hK
      rw [sg_F_ga F9 rfl]; exact r127 i hi
    · unfold fM
      omega
theorem wR_t {σ0 σ σ' : sg_S} {K : Nat} {l X v : Int} (ex : fEx σ0 σ) (e : sg_g σ 88 84 = sg_g σ0 88 84) (e' : sg_g σ 88 62 = sg_g σ0 88 62) (e'' : sg_g σ 88 85 = sg_g σ0 88 85) (h : wR σ σ' K l X v) : wR σ0 σ' K l X v := by
  rcases h with q | ⟨q1, q | ⟨q2, q3, q4⟩⟩
  · exact Or.inl q
  · exact Or.inr ⟨q1, Or.inl q⟩
  · rw [e', e''] at q4
    exact Or.inr ⟨q1, Or.inr ⟨fEx_t ex q2, ⟨by omega, q3.2⟩, q4⟩⟩
theorem vF_W {σ : sg_S} {b l X : Int} {ks : List Int} (h : vW σ b (ks.map (fun x => (T x, l, X)))) : vF σ l b (ks.map T) := fun i x hx => by
  rw [List.getElem?_map] at hx
  cases e : ks[i]? with
  | none => rw [e] at hx; cases hx
  | some y =>
    rw [e] at hx
    cases hx
    exact fLx_L (h i (T y, l, X) (by rw [List.getElem?_map, e]; rfl))
theorem fN_F {l : List Nat} {σ σ' : sg_S} (F : sg_F l σ σ') (hl : (!sg_cv l 88 84 && !sg_cv l 88 85 && !sg_cv l 88 91 && !sg_cv l 88 87 && !sg_cv l 88 99 && !sg_cv l 88 62 && sg_ca l 148) = true) (h70 : 0 ≤ sg_g σ' 88 70 ∧ sg_g σ' 88 70 ≤ sg_g σ 88 70) (h : fN σ) : fN σ' := by
  simp only [Bool.and_eq_true, Bool.not_eq_true'] at hl
  obtain ⟨⟨⟨⟨⟨⟨l1, l2⟩, l3⟩, l4⟩, l5⟩, l6⟩, l7⟩ := hl
  obtain ⟨hI, hB, n1, n2, n3⟩ := h
  have e84 := sg_F_g F l1
  have e99 := sg_F_g F l5
  have e62 := sg_F_g F l6
  refine ⟨?_, fun i a b => ?_, by omega, by omega, by omega⟩
  · unfold fI
    rw [e84, e99, sg_F_g F l2, sg_F_g F l3, sg_F_g F l4, e62]
    exact hI
  · rw [sg_F_ga F l7]; exact hB i a (by omega)
theorem m_goF {σ : sg_S} {m : Nat} {tys : List (Int × Int × Int)} {Q : sg_S → Prop} (hX : pgX σ A D T B) (hlv : lvP A D lev 0 r) (hN : fN σ) (h : fTop A D T B lev r σ m tys) (e0 : sg_g σ 88 73 = 0) (hIf : A.2.1 (sg_g σ 126 m) = 3 → V_flatIf σ m (fun σ152 => sg_F [119, 120, 121, 126, 127, 128, 133, 134, 139, 140, 141, 142, 143, 144, 145, 146, 148, 149, 47088, 50088, 63088, 71088, 74088, 85088, 86088, 87088, 88088, 92088, 94088, 100088] σ σ152 → Q σ152)) (hEa : A.2.1 (sg_g σ 126 m) = 15 → V_flatEach σ m (fun σ158 => sg_F [119, 120, 121, 126, 127, 128, 133, 134, 139, 140, 141, 142, 143, 144, 145, 146, 147, 148, 149, 47088, 50088, 63088, 71088, 74088, 85088, 86088, 87088, 88088, 92088, 94088, 100088] σ σ158 → Q σ158)) (k : ∀ σ', fQ A D T B lev r σ σ' → Q σ') : V_goFlat σ Q := by
  have hN' := hN
  obtain ⟨hI, hB, n1, n2, n3⟩ := hN
  have hI' := hI
  obtain ⟨i1, i2, i3, i4, i5⟩ := hI
  obtain ⟨fm, j, f, L, sc, X, h1, h2, h3, h4, h5, h6, h7, h8⟩ := h
  obtain ⟨hP, hD, eT, eB, hA, hdt⟩ := id hX
  obtain ⟨w1, w2, w3, w4, w5, w6⟩ := stN_w h4
  obtain ⟨t1, t2, t3, t4, t5⟩ := tr_k hP w2
  unfold V_goFlat
  rw [fm, show (m : Int) + 1 - 1 = m by omega]
  obtain ⟨n, en⟩ : ∃ n, n = sg_g σ 126 m := ⟨_, rfl⟩
  obtain ⟨st, est⟩ : ∃ st, st = sg_g σ 127 m := ⟨_, rfl⟩
  obtain ⟨b, eb⟩ : ∃ b, b = sg_g σ 128 m := ⟨_, rfl⟩
  obtain ⟨l, el⟩ : ∃ l, l = sg_g σ 145 m := ⟨_, rfl⟩
  obtain ⟨s, es⟩ : ∃ s, s = sg_g σ 146 m := ⟨_, rfl⟩
  have tl : tys.length ≤ 2000 := by omega
  refine ⟨⟨by omega, by omega⟩, ⟨by omega, by omega⟩, ⟨by omega, by omega⟩, fun c15 => ⟨fun c3 => ?_, fun c3 => hIf (by rw [← t1]; exact c3)⟩, fun c15 => hEa (by rw [← t1]; exact c15)⟩
  rw [t1] at c15 c3
  by_cases cl : A.2.1 (sg_g σ 126 m) = 2 ∧ sg_g σ 127 m = 1
  · obtain ⟨k2, st1⟩ := cl
    rw [fK_2 k2] at h7
    obtain ⟨q0, a, c, ea, q⟩ := h7
    rcases q with ⟨q1, -⟩ | ⟨-, q2, q3⟩ | ⟨q1, -⟩
    · omega
    · subst q2
      have v0 := vW_0 h3
      simp only [List.length_cons, List.length_nil] at h2
      rw [t1, st1, t2, ea]
      obtain ⟨-, f', L', hc, hcs⟩ := stN_let hA h4 k2 ea
      have tc := t4 1 c (by rw [ea]; rfl)
      have nL : sg_g σ 126 m ∈ L := fT_sub h4.2.1 _ (by simp)
      refine ⟨fun σ9 => σ9 = sg_w (sg_w σ 88 70 (sg_g σ 88 70 - 1)) 134 (sg_g σ 126 m) (sg_g σ 133 (sg_g σ 88 70 - 1)), ⟨fun z => absurd k2 z, fun _ => ⟨fun z => absurd rfl z, fun _ => ⟨⟨by omega, by omega⟩, fun σ144 e144 => ⟨⟨by omega, by omega⟩, fun σ148 e148 => by rw [e148, e144]⟩⟩⟩⟩, fun σ9 _ e9 => ⟨⟨by omega, by omega⟩, fun σ13 e13 => ⟨fun z => by simp at z, fun _ => ⟨⟨by omega, by omega⟩, ⟨by omega, by omega⟩, ⟨by omega, by omega⟩, ?_⟩⟩⟩⟩
      have F13 : sg_F [127, 134, 71088] σ σ13 := by rw [e13, e9]; exact sg_F_w (sg_F_w (sg_F_w (sg_F_r _ _) rfl _) rfl _) rfl _
      have b70 : sg_g σ 88 70 - 1 = sg_g σ 128 m := by omega
      have g70 : sg_g σ13 88 70 = sg_g σ 128 m := by rw [e13, sg_gw_c _ _ _ _ _ _ (by decide), e9, sg_gw_c _ _ _ _ _ _ (by decide), sg_gw_e _ _ _ _ ⟨by omega, by omega⟩]; exact b70
      have g99 : sg_g σ13 88 99 = sg_g σ 88 99 := sg_F_g F13 (by rfl)
      have cn : sg_g σ13 134 (sg_g σ 126 m) = sg_g σ 133 (sg_g σ 128 m) := by rw [e13, sg_gw_c _ _ _ _ _ _ (by decide), e9, sg_gw_e _ _ _ _ (sg_Rg _ _ _), b70]
      have co : ∀ u, ¬ u = sg_g σ 126 m → sg_g σ13 134 u = sg_g σ 134 u := fun u hu => by rw [e13, sg_gw_c _ _ _ _ _ _ (by decide), e9, sg_gw_k _ _ _ _ _ _ hu, sg_gw_c _ _ _ _ _ _ (by decide)]
      have unw : ∀ u, ¬ ow lev j L u → ∀ s', und σ13 s' u = und σ s' u := fun u hu s' => und_w (b0 := 0) F13 rfl (co u (fun e => hu (Or.inl (Or.inl ⟨by rw [e]; omega, by rw [e]; exact nL⟩))))
      have ex := fEx_F F13 rfl
      rw [show (200 : Int) * sg_g σ 126 m + 1 = 200 * sg_g σ 126 m + ((1 : Nat) : Int) by omega, tc]
      refine ev_next (σ := σ) (m := m) (tys' := []) (st' := 2) F13 rfl ex (fN_w (fN_F F13 rfl ⟨by omega, by omega⟩ hN')) e0 fm (fun i hi => by rw [e13, sg_gw_k _ _ _ _ _ _ (by omega), e9, sg_gw_c _ _ _ _ _ _ (by decide), sg_gw_c _ _ _ _ _ _ (by decide)]) (fun i _ => sg_F_ga F13 rfl) (by rw [e13, sg_gw_e _ _ _ _ ⟨by decide, by decide⟩]; rfl) h1 (by simp [g70]) (fun y _ _ => sg_F_ga F13 rfl) (fun i x hx => (by cases hx)) h4 h5 ⟨h6.1, by omega⟩ h8 (fun s' u _ hu => unw u hu s') hc (fun u hu => ow_s hcs hu) (fun p hp => ⟨fun z => z, ?_⟩) ⟨h5.1, h5.2.1, by rw [sg_F_g F13 (by rfl)]; exact h5.2.2⟩ hA ?_ (by rw [sg_F_g F13 (by rfl)]; omega) (by rw [sg_F_g F13 (by rfl)]; omega) (fun σ' hq _ => k σ' hq)
      · rcases List.mem_cons.mp hp with e | e
        · rw [e, und_top]
          simp only
          rw [cn]
          exact fLx_up ex (by rw [sg_F_g F13 (by rfl)]; exact Int.le_refl _) v0
        · have hp4 := (h4.2.2.2.2 p e).2
          rw [unw p.1 hp4, g99, q0]
          exact fLx_up ex (by rw [sg_F_g F13 (by rfl)]; exact Int.le_refl _) (q3 p e).2
      · rw [fK_2 k2]
        exact ⟨by omega, a, c, ea, Or.inr (Or.inr ⟨rfl, rfl⟩)⟩
    · omega
  refine ⟨fun σ9 => σ9 = σ, ⟨fun _ => rfl, fun z => ⟨fun _ => rfl, fun z2 => absurd ⟨by rw [← t1]; exact z, z2⟩ cl⟩⟩, fun σ9 _ e9 => ?_⟩
  subst e9
  have stb : 0 ≤ sg_g σ9 127 m ∧ sg_g σ9 127 m ≤ 300 := by
    by_cases c2 : A.2.1 (sg_g σ9 126 m) = 2
    · rw [fK_2 c2] at h7
      obtain ⟨q0, a, c, ea, q⟩ := h7
      rcases q with ⟨q1, -⟩ | ⟨q1, -⟩ | ⟨q1, -⟩ <;> omega
    · rw [fK_g c2 c3 c15] at h7
      obtain ⟨q0, ⟨i, q1, q2, -⟩ | ⟨q1, q2, -⟩⟩ := h7 <;> omega
  refine ⟨⟨by omega, by omega⟩, fun σ13 e13 => ?_⟩
  have f13 : sg_F [127] σ9 σ13 := by rw [e13]; exact sg_F_w (sg_F_r _ _) rfl _
  have r13 : ∀ i : Nat, i < m → sg_g σ13 127 i = sg_g σ9 127 i := fun i hi => by rw [e13, sg_gw_k _ _ _ _ _ _ (by omega)]
  have s13 : sg_g σ13 127 m = sg_g σ9 127 m + 1 := by rw [e13, sg_gw_e _ _ _ _ ⟨by omega, by omega⟩]
  have ex13 : fEx σ9 σ13 := fEx_F f13 rfl
  have g70 : sg_g σ13 88 70 = sg_g σ9 88 70 := sg_F_g f13 (by rfl)
  have g99 : sg_g σ13 88 99 = sg_g σ9 88 99 := sg_F_g f13 (by rfl)
  have N13 : fN σ13 := fN_F f13 rfl ⟨by omega, by omega⟩ hN'
  refine ⟨fun cg => ?_, fun cg => ?_⟩
  · rw [t2] at cg
    have fin : ∀ (σ8 : sg_S) (v : Int) (σ24 : sg_S), σ8 = sg_w σ13 88 102 (-1) → sg_g σ9 88 99 = sg_g σ9 146 m → sg_F [133, 135, 139, 140, 141, 142, 143, 144, 150, 74088, 85088, 86088, 88088, 92088, 94088, 103088, 104088] σ8 σ24 → (∀ x, x < sg_g σ9 88 70 → sg_g σ24 133 x = sg_g σ9 133 x) → wR σ9 σ24 (T (sg_g σ9 126 m)).toNat (sg_g σ9 145 m) X v → sg_R v → ∃ P31 : sg_S → Prop, ((¬ sg_g σ24 88 73 = 0 → P31 σ24) ∧ (sg_g σ24 88 73 = 0 → ((sg_g σ24 88 102 < 0 → P31 σ24) ∧ (0 ≤ sg_g σ24 88 102 → ∀ σ43, σ43 = sg_w σ24 88 73 (sg_g σ24 88 103) → P31 σ43)))) ∧ (∀ (σ32 : sg_S), sg_F [74088] σ24 σ32 → P31 σ32 → ((¬ sg_g σ32 88 73 = 0 → Q σ32) ∧ (sg_g σ32 88 73 = 0 → V_flatLeave σ32 v (fun σ37 => sg_F [133, 63088, 71088] σ32 σ37 → Q σ37)))) := fun σ8 v σ24 e8 hs F hv hw rv => by
      have F8 : sg_F [127, 103088] σ9 σ8 := by rw [e8]; exact sg_F_w (sg_F_m f13 rfl) rfl _
      exact ev_end hN' e0 fm ⟨h1, by omega⟩ hs h8 F8 (fun i hi => by rw [e8, sg_gw_c _ _ _ _ _ _ (by decide)]; exact r13 i hi) F hv hw rv k
    have val : ∀ (σ8 : sg_S) (v : Int), σ8 = sg_w σ13 88 102 (-1) → fLx σ9 (T (sg_g σ9 126 m)).toNat (sg_g σ9 145 m) (sg_g σ9 88 85 + X) v → wR σ9 σ8 (T (sg_g σ9 126 m)).toNat (sg_g σ9 145 m) X v := fun σ8 v e8 hv => by
      have := wR_v (σ := σ13) (X := X) N13.1 e8 (fLx_up ex13 (by rw [sg_F_g f13 (by rfl)]; exact Int.le_refl _) hv)
      rcases this with q | ⟨q1, q | ⟨q2, q3, q4⟩⟩
      · exact Or.inl q
      · exact Or.inr ⟨q1, Or.inl q⟩
      · rw [sg_F_g (k := 62) f13 (by rfl), sg_F_g (k := 85) f13 (by rfl)] at q4
        exact Or.inr ⟨q1, Or.inr ⟨fEx_t ex13 q2, by rw [sg_F_g (k := 84) f13 (by rfl)] at q3; exact q3, q4⟩⟩
    have kin : ¬ A.2.1 (sg_g σ9 126 m) = 2 → ∀ x ∈ A.2.2.2.2.1 (sg_g σ9 126 m), kIn (T x) := fun c2 x hx => by
      obtain ⟨f', L', a1, -⟩ := stN_kid h4 c2 c15 hx
      exact (stN_w a1).2.2.1
    rw [t1]
    refine ⟨fun c13 σ18 e18 => ?_, fun c13 => ⟨fun cs σ18 e18 => ?_, fun cs => ?_⟩⟩
    · have F18 : sg_F [127, 103088] σ9 σ18 := by rw [e18]; exact sg_F_w (sg_F_m f13 rfl) rfl _
      have ex18 : fEx σ9 σ18 := fEx_F F18 rfl
      have fs : sg_g σ9 88 99 = sg_g σ9 146 m := by
        by_cases c2 : A.2.1 (sg_g σ9 126 m) = 2
        · rw [fK_2 c2] at h7; exact h7.1
        · rw [fK_g c2 c3 c15] at h7; exact h7.1
      refine ⟨fun v σ24 => (∀ x, x < sg_g σ9 88 70 → sg_g σ24 133 x = sg_g σ9 133 x) ∧ wR σ9 σ24 (T (sg_g σ9 126 m)).toNat (sg_g σ9 145 m) X v, ⟨fun c1 => ⟨fun c2 => ?_, fun c2 => ⟨fun _ => ?_, fun z => absurd z c13⟩⟩, fun c1 => ?_⟩, fun v26 σ24 rv f24 h24 => fin σ18 v26 σ24 e18 fs f24 h24.1 h24.2 rv⟩
      · rw [fK_2 c2] at h7
        obtain ⟨q0, a, c, ea, q⟩ := h7
        rw [ea] at cg
        simp only [List.length_cons, List.length_nil] at cg
        rcases q with ⟨q1, -⟩ | ⟨q1, -⟩ | ⟨q1, q2⟩
        · omega
        · omega
        · subst q2
          have g := w5 (by omega)
          rw [kTy_2 c2, ea] at g
          simp only [List.map_cons, List.getD_cons_succ, List.getD_cons_zero, Option.some.injEq] at g
          refine ⟨⟨h1, by omega⟩, fun x _ => sg_F_ga F18 rfl, val σ18 _ e18 ?_⟩
          rw [← g]; exact vW_0 h3
      · rw [fK_g c2 c3 c15] at h7
        obtain ⟨q0, ⟨i, q1, q2, q3, q4⟩ | ⟨q1, -⟩⟩ := h7
        · have il : i = (A.2.2.2.2.1 (sg_g σ9 126 m)).length := by omega
          subst il
          rw [List.take_length] at q3
          subst q3
          simp only [List.length_map] at h2
          have I18 : fI σ18 := by
            unfold fI
            rw [sg_F_g (k := 84) F18 (by rfl), sg_F_g (k := 85) F18 (by rfl), sg_F_g (k := 91) F18 (by rfl), sg_F_g (k := 87) F18 (by rfl), sg_F_g (k := 99) F18 (by rfl), sg_F_g (k := 62) F18 (by rfl)]
            exact hI'
          have C18 : fC σ18 := by
            obtain ⟨u1, u2, u3, u4, u5⟩ := I18
            exact ⟨u1, u2, u3, by omega, by omega⟩
          have v18 : vW σ18 (sg_g σ9 128 m) ((A.2.2.2.2.1 (sg_g σ9 126 m)).map (fun x => (T x, sg_g σ9 145 m, X))) := vW_up ex18 (by rw [sg_F_g F18 (by rfl)]; exact Int.le_refl _) (fun x _ _ => sg_F_ga F18 rfl) h3
          have g18 : sg_g σ18 88 70 = sg_g σ9 88 70 := sg_F_g F18 (by rfl)
          refine m_fWk (A := A) (T := T) (ds := kDl (D.take j) []) ⟨w2.1, by omega⟩ w1 (by rw [sg_F_ga F18 rfl]; exact t1) (by rw [sg_F_ga F18 rfl]; exact t2) t3 (w5 c1) (kin c2) ⟨c1, c2, c3, c13, c15⟩ (vF_W v18) h1 (by omega) (by omega) C18 (Or.inl (by rw [e18, sg_gw_e _ _ _ _ ⟨by decide, by decide⟩]; decide)) ⟨h5.1, h5.2.1⟩ (fun q σ' _ ho hx _ => ⟨fun x hx' => ?_, wR_t ex18 (sg_F_g F18 (by rfl)) (sg_F_g F18 (by rfl)) (sg_F_g F18 (by rfl)) (wR_o I18 (by rw [sg_F_g F18 (by rfl)]; exact h5.2.2) ho)⟩)
          rw [hx x (by omega), sg_F_ga F18 rfl]
        · exact absurd q1 c13
      · have sc1 := w4 c1
        rw [fK_g (by omega) c3 c15] at h7
        obtain ⟨q0, ⟨i, q1, q2, q3, q4⟩ | ⟨q1, -⟩⟩ := h7
        · have hp := q4 _ sc1
          have hr := (h4.2.2.2.2 _ sc1).1.1
          simp only at hp hr
          rw [eB]
          refine ⟨hr, fun x _ => sg_F_ga F18 rfl, val σ18 _ e18 ?_⟩
          have := hp.2
          rw [← q0, und_top] at this
          exact this
        · omega
    · have F18 : sg_F [127, 103088] σ9 σ18 := by rw [e18]; exact sg_F_w (sg_F_m f13 rfl) rfl _
      rw [fK_g (by omega) c3 c15] at h7
      rw [t2] at cs
      obtain ⟨q0, ⟨i, q1, q2, q3, q4⟩ | ⟨q1, q2, q3⟩⟩ := h7
      · omega
      · subst q3
        refine ⟨fun v σ24 => (∀ x, x < sg_g σ9 88 70 → sg_g σ24 133 x = sg_g σ9 133 x) ∧ wR σ9 σ24 (T (sg_g σ9 126 m)).toNat (sg_g σ9 145 m) X v, ⟨fun c1 => ⟨fun c2 => by omega, fun c2 => ⟨fun z => absurd c13 z, fun _ => ⟨⟨h1, by omega⟩, fun x _ => sg_F_ga F18 rfl, val σ18 _ e18 (vW_0 h3)⟩⟩⟩, fun c1 => by omega⟩, fun v26 σ24 rv f24 h24 => fin σ18 v26 σ24 e18 q0 f24 h24.1 h24.2 rv⟩
    · rw [fK_g (by omega) c3 c15] at h7
      rw [t2] at cs ⊢
      obtain ⟨q0, ⟨i, q1, q2, q3, q4⟩ | ⟨q1, q2, q3⟩⟩ := h7
      rotate_left
      · omega
      have il : i = (A.2.2.2.2.1 (sg_g σ9 126 m)).length := by omega
      subst il
      rw [List.take_length] at q3
      subst q3
      simp only [List.length_map] at h2
      have hD6 : ∀ (d : Nat) (y : aDf), D[d]? = some y → y.2.2.1.length ≤ 6 := fun d y hy => (hD.2.2 d y hy).2.2.2.2.1
      obtain ⟨d, y, L', ed, hy, dj, hst, how, hty, hTy, hsc⟩ := stN_call hX hlv h4 c13 hD.2.1 hD6
      have dl := lt_of_get hy
      have dl12 := hD.2.1
      rw [eB, ed]
      have klen : (A.2.2.2.2.1 (sg_g σ9 126 m)).length = y.2.2.1.length := by
        have := congrArg List.length hty
        simpa using this
      have k6 := hD6 d y hy
      refine ⟨fun p v σ98 => p = ((A.2.2.2.2.1 (sg_g σ9 126 m)).length - v).toNat ∧ (0 ≤ v ∧ v ≤ (A.2.2.2.2.1 (sg_g σ9 126 m)).length) ∧ (∀ i : Nat, (i : Int) < v → sg_g σ98 134 (1100 + 6 * d + i) = sg_g σ9 133 (sg_g σ9 128 m + i)) ∧ ∀ u : Int, ¬ (1100 ≤ u ∧ (u - 1100) / 6 = (d : Int)) → sg_g σ98 134 u = sg_g σ9 134 u, fun σ98 => (∀ i : Nat, i < (A.2.2.2.2.1 (sg_g σ9 126 m)).length → sg_g σ98 134 (1100 + 6 * d + i) = sg_g σ9 133 (sg_g σ9 128 m + i)) ∧ ∀ u : Int, ¬ (1100 ≤ u ∧ (u - 1100) / 6 = (d : Int)) → sg_g σ98 134 u = sg_g σ9 134 u, ⟨_, rfl, ⟨by omega, by omega⟩, fun i hi => by omega, fun u _ => sg_F_ga f13 rfl⟩, ?_, ?_⟩
      · rintro p v σ98 rv f98 ⟨ep, hv, u1, u2⟩
        have vo : v_ofParam (d : Int) v = 1100 + 6 * d + v := rfl
        refine ⟨fun z => ⟨fun i hi => u1 i (by omega), u2⟩, fun z => ⟨⟨⟨by omega, by omega⟩, ⟨by omega, by omega⟩, ⟨by omega, by omega⟩, trivial⟩, ⟨by omega, by omega⟩, ⟨by omega, by omega⟩, by rw [vo]; omega, fun σ8 e8 => ⟨⟨by omega, by omega⟩, _, by omega, rfl, ⟨by omega, by omega⟩, fun i hi => ?_, fun u hu => ?_⟩⟩⟩
        · rw [vo] at e8
          by_cases c : (i : Int) = v
          · rw [c, e8, sg_gw_e _ _ _ _ (sg_Rg _ _ _)]
          · rw [e8, sg_gw_k _ _ _ _ _ _ (by omega)]; exact u1 i (by omega)
        · rw [vo] at e8
          rw [e8, sg_gw_k _ _ _ _ _ _ (by omega)]; exact u2 u hu
      · rintro σ98 f98 ⟨u1, u2⟩ σ8 e8
        have e105 := (hD.2.2 d y hy).2.2.1
        rw [e105]
        have F98 : sg_F [127, 134] σ9 σ98 := sg_F_t (sg_F_m f13 rfl) (sg_F_m f98 rfl)
        have F8 : sg_F [127, 134, 71088] σ9 σ8 := by rw [e8]; exact sg_F_w (sg_F_m F98 rfl) rfl _
        have c134 : ∀ u, sg_g σ8 134 u = sg_g σ98 134 u := fun u => by rw [e8, sg_gw_c _ _ _ _ _ _ (by decide)]
        have c70 : sg_g σ8 88 70 = sg_g σ9 128 m := by rw [e8, sg_gw_e _ _ _ _ (sg_Rg _ _ _)]
        have c99 : sg_g σ8 88 99 = sg_g σ9 88 99 := sg_F_g F8 (by rfl)
        have ex8 := fEx_F F8 rfl
        have unw : ∀ u, ¬ ow lev j L u → ∀ s', und σ8 s' u = und σ9 s' u := fun u hu s' => und_w (b0 := 0) F8 rfl (by
          rw [c134]
          exact u2 u (fun z => hu (Or.inr (Or.inr (Or.inr ⟨z.1, by omega⟩)))))
        refine ⟨⟨by omega, by omega⟩, ev_next (σ := σ9) (m := m) (tys' := []) (st' := sg_g σ9 127 m + 1) F8 rfl ex8 (fN_w (fN_F F8 rfl ⟨by omega, by omega⟩ hN')) e0 fm (fun i hi => by rw [e8, sg_gw_c _ _ _ _ _ _ (by decide), sg_F_ga f98 rfl]; exact r13 i hi) (fun i _ => sg_F_ga F8 rfl) (by rw [e8, sg_gw_c _ _ _ _ _ _ (by decide), sg_F_ga f98 rfl]; exact s13) h1 (by simp [c70]) (fun x _ _ => sg_F_ga F8 rfl) (fun i x hx => (by cases hx)) h4 h5 ⟨h6.1, by omega⟩ h8 (fun s' u _ hu => unw u hu s') hst how (fun p hp => ⟨fun z => z, ?_⟩) ⟨h5.1, h5.2.1, by rw [sg_F_g F8 (by rfl)]; exact h5.2.2⟩ hA ?_ (by rw [sg_F_g F8 (by rfl)]; omega) (by rw [sg_F_g F8 (by rfl)]; omega) (fun σ' hq _ => k σ' hq)⟩
        · obtain ⟨i, w, hw, ep⟩ := hsc p hp
          have hi := lt_of_get hw
          rw [und_top, c134, ep]
          simp only
          rw [u1 i (by omega)]
          obtain ⟨z, hz⟩ : ∃ z, (A.2.2.2.2.1 (sg_g σ9 126 m))[i]? = some z := ⟨_, List.getElem?_eq_getElem (by omega)⟩
          have e1 : T z = w.2.2 := by
            have q := congrArg (fun q => q[i]?) hty
            simp only [List.getElem?_map, hz, hw] at q
            simpa using q
          have := h3 i (T z, sg_g σ9 145 m, X) (by rw [List.getElem?_map, hz]; rfl)
          simp only at this
          rw [← e1]
          exact fLx_up ex8 (by rw [sg_F_g F8 (by rfl)]; exact Int.le_refl _) this
        · rw [fK_g (by omega) c3 c15]
          exact ⟨by omega, Or.inr ⟨c13, by omega, by rw [hTy]; rfl⟩⟩
  · rw [t2] at cg
    have hlt : (sg_g σ9 127 m).toNat < (A.2.2.2.2.1 (sg_g σ9 126 m)).length := by omega
    obtain ⟨z, hz⟩ : ∃ z, (A.2.2.2.2.1 (sg_g σ9 126 m))[(sg_g σ9 127 m).toNat]? = some z := ⟨_, List.getElem?_eq_getElem hlt⟩
    have tz := t4 _ z hz
    rw [show (((sg_g σ9 127 m).toNat : Nat) : Int) = sg_g σ9 127 m by omega] at tz
    rw [tz]
    have un : ∀ s' u, und σ13 s' u = und σ9 s' u := fun s' u => und_F f13 rfl s' u
    refine ⟨⟨by omega, by omega⟩, ⟨by omega, by omega⟩, ⟨by omega, by omega⟩, ?_⟩
    by_cases c2 : A.2.1 (sg_g σ9 126 m) = 2
    · rw [fK_2 c2] at h7
      obtain ⟨q0, a, c, ea, q⟩ := h7
      obtain ⟨⟨f', L', ha, has⟩, -⟩ := stN_let hA h4 c2 ea
      rw [ea] at cg hlt
      simp only [List.length_cons, List.length_nil] at cg hlt
      rcases q with ⟨q1, q2, q3⟩ | ⟨q1, -⟩ | ⟨q1, -⟩
      · subst q2
        rw [q1, ea] at hz
        cases hz
        refine ev_next (σ := σ9) (m := m) (tys' := []) (st' := 1) f13 rfl ex13 (fN_w N13) e0 fm r13 (fun i _ => sg_F_ga f13 rfl) (by omega) h1 (by omega) (fun x _ _ => sg_F_ga f13 rfl) (fun i x hx => (by cases hx)) h4 h5 ⟨h6.1, by omega⟩ h8 (fun s' u _ _ => un s' u) ha (fun u hu => ow_s has hu) (fun p hp => ⟨fun z => z, ?_⟩) ⟨h5.1, h5.2.1, by rw [sg_F_g f13 (by rfl)]; exact h5.2.2⟩ hA ?_ (by rw [sg_F_g f13 (by rfl)]; omega) (by rw [sg_F_g f13 (by rfl)]; omega) (fun σ' hq _ => k σ' hq)
        · rw [un, g99, q0]; exact fLx_up ex13 (by rw [sg_F_g f13 (by rfl)]; exact Int.le_refl _) (q3 p hp).2
        · rw [fK_2 c2]
          exact ⟨by omega, _, c, ea, Or.inr (Or.inl ⟨rfl, rfl, fun p hp => ⟨(ha.2.2.2.2 p hp).2, by rw [un]; exact fLx_up ex13 (by rw [sg_F_g f13 (by rfl)]; exact Int.le_refl _) (q3 p hp).2⟩⟩)⟩
      · exact absurd ⟨c2, q1⟩ cl
      · omega
    · rw [fK_g c2 c3 c15] at h7
      obtain ⟨q0, ⟨i, q1, q2, q3, q4⟩ | ⟨q1, q2, q3⟩⟩ := h7
      · have ei : (sg_g σ9 127 m).toNat = i := by omega
        rw [ei] at hz
        obtain ⟨f', L', ha, has⟩ := stN_kid h4 c2 c15 (List.mem_of_getElem? hz)
        subst q3
        refine ev_next (σ := σ9) (m := m) (tys' := ((A.2.2.2.2.1 (sg_g σ9 126 m)).take i).map (fun x => (T x, sg_g σ9 145 m, X))) (st' := sg_g σ9 127 m + 1) f13 rfl ex13 (fN_w N13) e0 fm r13 (fun i _ => sg_F_ga f13 rfl) s13 h1 (by omega) (fun x _ _ => sg_F_ga f13 rfl) (vW_up ex13 (by rw [sg_F_g f13 (by rfl)]; exact Int.le_refl _) (fun x _ _ => sg_F_ga f13 rfl) h3) h4 h5 ⟨h6.1, by omega⟩ h8 (fun s' u _ _ => un s' u) ha (fun u hu => ow_s has hu) (fun p hp => ⟨fun z => z, ?_⟩) ⟨h5.1, h5.2.1, by rw [sg_F_g f13 (by rfl)]; exact h5.2.2⟩ hA ?_ (by rw [sg_F_g f13 (by rfl)]; omega) (by rw [sg_F_g f13 (by rfl)]; omega) (fun σ' hq _ => k σ' hq)
        · rw [un, g99, q0]; exact fLx_up ex13 (by rw [sg_F_g f13 (by rfl)]; exact Int.le_refl _) (q4 p hp).2
        · rw [fK_g c2 c3 c15]
          exact ⟨by omega, Or.inl ⟨i + 1, by omega, by omega, (take_l hz).symm, fun p hp => ⟨(ha.2.2.2.2 p hp).2, by rw [un]; exact fLx_up ex13 (by rw [sg_F_g f13 (by rfl)]; exact Int.le_refl _) (q4 p hp).2⟩⟩⟩
      · omega
end GB
/-! flatIf. -/
section GC
variable {A : aT} {D : List aDf} {T B : Int → Int} {lev : Int → Nat} {r : Int}
theorem fK_3 {σ : sg_S} {n st b l X s sv al : Int} {j : Nat} {L : List Int} {sc : List (Int × Int)} {tys : List (Int × Int × Int)} {W : Int → Prop} (h3 : A.2.1 n = 3) : fK A D T B lev σ n st b l X s sv al j L sc W tys = (∃ a c d, A.2.2.2.2.1 n = [a, c, d] ∧ ((st = 0 ∧ sv = s ∧ tys = [] ∧ scF σ s l X W sc) ∨ (st = 1 ∧ sv = s ∧ tys = [(T a, l, X)] ∧ scF σ s l X W sc) ∨ (st = 2 ∧ tys = [(T a, l, X), (T c, cwT σ b l, X)] ∧ scF σ s l X W sc) ∨ (st = 3 ∧ tys = [(T a, l, X), (T c, cwT σ b l, X), (T d, l - cwT σ b l, X)]))) := by
  unfold fK; rw [if_neg (by omega), if_pos h3]
theorem fL_K {σ : sg_S} {K : Nat} {l v : Int} (h : fL σ K l v) : K = (sg_g σ 139 v).toNat := by
  obtain ⟨R, h1, h2, -⟩ := h
  have := h1.2.2.1
  omega
/-- carried, by the scope -/
theorem m_car {σ : sg_S} {O : List Int} {S : List (Int × Int)} {Λ N : Int} {Q : Int → sg_S → Prop} (hI : fI σ) (hB : sB σ) (hO : oR σ O) (hl : O.length ≤ 200) (hS : ∀ p ∈ S, fL σ p.2.toNat Λ (sg_g σ 134 p.1)) (hOS : ∀ b ∈ O, ∃ p ∈ S, p.1 = b) (hln : lO σ N Λ) (hN : N ≤ 6000) (k0 : ∀ σ', ¬ sg_g σ' 88 73 = 0 → Q 0 σ') (k1 : ∀ σ', fI σ' → sB σ' → fEx σ σ' → (∀ p ∈ S, p.1 ∈ O → fLx σ' p.2.toNat N (sg_g σ' 88 85 - sg_g σ 88 85) (sg_g σ' 134 p.1)) → (∀ b, b ∉ O → sg_g σ' 134 b = sg_g σ 134 b) → (∀ s b, s ≤ sg_g σ 88 99 → und σ' s b = und σ s b) → sg_g σ 88 99 ≤ sg_g σ' 88 99 → sg_g σ 88 84 ≤ sg_g σ' 88 84 ∧ sg_g σ 88 85 ≤ sg_g σ' 88 85 → sg_g σ' 88 73 = sg_g σ 88 73 → sg_F [134, 139, 140, 141, 142, 144, 148, 149, 85088, 86088, 88088, 92088, 100088] σ σ' → Q 1 σ') : V_carried σ Q := by
  refine m_carried (ty := fun b => (sg_g σ 139 (sg_g σ 134 b)).toNat) hI hB hO hl (fun b hb => ?_) hln hN k0 (fun σ' a1 a2 a3 a4 a5 a6 a7 a8 a9 a10 => k1 σ' a1 a2 a3 (fun p hp hpO => ?_) a5 a6 a7 a8 a9 a10)
  · obtain ⟨p, hp, e⟩ := hOS b hb
    have := hS p hp
    have q := fL_K this
    rw [e] at this q
    rw [← q]; exact this
  · have := a4 p.1 hpO
    rw [← fL_K (hS p hp)] at this
    exact this
theorem fN_x {l : List Nat} {σ σ' : sg_S} (F : sg_F l σ σ') (hl : (!sg_cv l 88 62 && !sg_cv l 88 70) = true) (hI : fI σ') (hB : sB σ') (h84 : sg_g σ 88 84 ≤ sg_g σ' 88 84) (h : fN σ) : fN σ' := by
  simp only [Bool.and_eq_true, Bool.not_eq_true'] at hl
  obtain ⟨-, -, n1, n2, n3⟩ := h
  have e1 := sg_F_g F hl.1
  have e2 := sg_F_g F hl.2
  exact ⟨hI, hB, by omega, by omega, by omega⟩
theorem trT_X {l : List Nat} {σ σ' : sg_S} (F : sg_F l σ σ') (hl : okX l = true) (h : pgX σ A D T B) : trT σ' A ∧ ∀ n, sg_g σ' 102 n = B n := by
  have := pgX_F F hl h
  exact ⟨this.1, this.2.2.2.1⟩
/-- the names from outside a part, of its scope -/
theorem out_S {j f : Nat} {L : List Int} {sc : List (Int × Int)} {x but : Int} {O : List Int} (hA : A.1 ≤ 200) (h : stN A D T B lev j f L sc x) (hO : ∀ z, z ∈ O ↔ ∃ y, (0 ≤ y ∧ y < A.1) ∧ y ∈ L ∧ A.2.1 y = 1 ∧ B y = z ∧ ¬ insL L z ∧ ¬ isG but z) : (∀ z ∈ O, ∃ p ∈ sc, p.1 = z) ∧ (∀ y ∈ L, A.2.1 y = 1 → ∀ p ∈ sc, p.1 = B y → ¬ isG but p.1 → p.1 ∈ O) ∧ ∀ y ∈ L, A.2.1 y = 1 → rb A (B y) := by
  refine ⟨fun z hz => ?_, fun y hy ky p hp e hg => ?_, fun y hy ky => ?_⟩
  · obtain ⟨y, y1, y2, y3, y4, y5, y6⟩ := (hO z).mp hz
    rcases stN_v hA h y2 y3 with ⟨q, -⟩ | q
    · exact ⟨_, q, y4⟩
    · rw [y4] at q; exact absurd q y5
  · refine (hO p.1).mpr ⟨y, (h.2.2.2.1 y hy).1, hy, ky, e.symm, fun q => ?_, hg⟩
    exact (h.2.2.2.2 p hp).2 (Or.inl q)
  · rcases stN_v hA h hy ky with ⟨q, -⟩ | q
    · exact (h.2.2.2.2 _ q).1
    · rcases q with ⟨q1, q2⟩ | ⟨q1, q2, q3⟩
      · have := (h.2.2.2.1 _ q2).1
        exact ⟨⟨by omega, by omega⟩, fun _ => this.2, fun z => by omega⟩
      · have := (h.2.2.2.1 _ q3).1
        exact ⟨⟨by omega, by omega⟩, fun z => by omega, fun _ _ => this.2⟩
end GC
