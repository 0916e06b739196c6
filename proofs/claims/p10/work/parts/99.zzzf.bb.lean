/-! THE FLAT RUN of the reference, turn by turn: begin, leave, the end of a turn. -/
abbrev flL : List Nat := [119, 120, 121, 126, 127, 128, 133, 134, 135, 139, 140, 141, 142, 143, 144, 145, 146, 147, 148, 149, 150, 47088, 50088, 63088, 71088, 74088, 85088, 86088, 87088, 88088, 92088, 94088, 100088, 103088, 104088]
/-- m turns are left -/
def Rf (X : sg_S → Prop) : Nat → sg_S → Prop
  | 0, σ => (sg_g σ 88 62 ≤ 0 → X σ) ∧ (¬ sg_g σ 88 73 = 0 → X σ) ∧ (0 < sg_g σ 88 62 → sg_g σ 88 73 = 0 → False)
  | m + 1, σ => (sg_g σ 88 62 ≤ 0 → X σ) ∧ (¬ sg_g σ 88 73 = 0 → X σ) ∧ (0 < sg_g σ 88 62 → sg_g σ 88 73 = 0 → ∀ Q : sg_S → Prop, (∀ σ', Rf X m σ' → Q σ') → V_goFlat σ (fun σ' => sg_F flL σ σ' → Q σ'))
theorem rf_s {X : sg_S → Prop} {m : Nat} {σ : sg_S} (h : ¬ sg_g σ 88 73 = 0) (hX : X σ) : Rf X m σ := by
  cases m with
  | zero => exact ⟨fun _ => hX, fun _ => hX, fun _ z => absurd z h⟩
  | succ m => exact ⟨fun _ => hX, fun _ => hX, fun _ z => absurd z h⟩
theorem rf_e {X : sg_S → Prop} {m : Nat} {σ : sg_S} (h : sg_g σ 88 62 ≤ 0) (hX : X σ) : Rf X m σ := by
  cases m with
  | zero => exact ⟨fun _ => hX, fun _ => hX, fun z _ => by omega⟩
  | succ m => exact ⟨fun _ => hX, fun _ => hX, fun z _ => by omega⟩
theorem rf_g {X : sg_S → Prop} {m : Nat} {σ : sg_S} (h1 : 0 < sg_g σ 88 62) (h2 : sg_g σ 88 73 = 0) (h : ∀ Q : sg_S → Prop, (∀ σ', Rf X m σ' → Q σ') → V_goFlat σ (fun σ' => sg_F flL σ σ' → Q σ')) : Rf X (m + 1) σ := ⟨fun z => by omega, fun z => absurd h2 z, fun _ _ => h⟩
/-- a frame: its node, stage, values, lanes, what was saved -/
def gfT (σ : sg_S) (f n s b l sv : Int) : Prop := sg_g σ 126 f = n ∧ sg_g σ 127 f = s ∧ sg_g σ 128 f = b ∧ sg_g σ 145 f = l ∧ sg_g σ 146 f = sv
abbrev fbL : List Nat := [126, 127, 128, 145, 146, 63088, 74088, 85088, 86088, 87088]
theorem m_fBeginX {σ : sg_S} {x : Int} {l : Nat} {s : fSt} {Q : sg_S → Prop} (hs : fcX σ s) (hf : 0 ≤ sg_g σ 88 62 ∧ sg_g σ 88 62 < 4000) (hx : sg_R x) (hl : l ≤ 6000) (k0 : fBg l s = none → ∀ σ', sg_g σ' 88 73 = 8 → fcX σ' s → sg_F fbL σ σ' → Q σ') (k1 : ∀ s1, fBg l s = some s1 → ∀ σ', fcX σ' s1 → sg_g σ' 88 62 = sg_g σ 88 62 + 1 → gfT σ' (sg_g σ 88 62) x 0 (sg_g σ 88 70) l (sg_g σ 88 99) → (∀ i, ¬ i = sg_g σ 88 62 → sg_g σ' 126 i = sg_g σ 126 i ∧ sg_g σ' 127 i = sg_g σ 127 i ∧ sg_g σ' 128 i = sg_g σ 128 i ∧ sg_g σ' 145 i = sg_g σ 145 i ∧ sg_g σ' 146 i = sg_g σ 146 i) → sg_F [126, 127, 128, 145, 146, 63088, 85088, 86088, 87088] σ σ' → Q σ') : V_flatBegin σ x (l : Int) Q := by
  have h86 := hs.2.2.1
  unfold V_flatBegin
  refine m_stepX hs ⟨by omega, by omega⟩ (fun e σ' y1 y2 y3 _ _ => ⟨fun z => absurd rfl z, fun _ => k0 (by unfold fBg; rw [e]) σ' y1 y2 (sg_F_m y3 rfl)⟩) (fun s0 e σ1 c1 f1 _ _ => ⟨fun _ v10 e10 r10 σ13 e13 => ⟨hf, fun σ17 e17 σ20 e20 σ23 e23 σ26 e26 σ29 e29 => ⟨⟨by omega, by omega⟩, fun σ33 e33 => ?_⟩⟩, fun z => by omega⟩)
  have F1 : sg_F [126, 127, 128, 145, 146, 63088, 87088] σ1 σ33 := by
    rw [e33, e29, e26, e23, e20, e17, e13]
    exact sg_F_w (sg_F_w (sg_F_w (sg_F_w (sg_F_w (sg_F_w (sg_F_w (sg_F_r _ _) rfl _) rfl _) rfl _) rfl _) rfl _) rfl _) rfl _
  obtain ⟨z1, z2, z3, z4, z5⟩ := fStp_s e
  obtain ⟨c84, c85, c86, c0⟩ := c1
  have w86 : sg_g σ33 88 86 = v10 := by rw [e33, sg_gw_k _ _ _ _ _ _ (by decide), e29, sg_gw_c _ _ _ _ _ _ (by decide), e26, sg_gw_c _ _ _ _ _ _ (by decide), e23, sg_gw_c _ _ _ _ _ _ (by decide), e20, sg_gw_c _ _ _ _ _ _ (by decide), e17, sg_gw_c _ _ _ _ _ _ (by decide), e13, sg_gw_e _ _ _ _ r10]
  have ev : v10 = if s0.2.2 < (l : Int) then (l : Int) else s0.2.2 := by
    rw [e10, h86, z3]
    by_cases q : (l : Int) ≤ s.2.2
    · rw [if_pos q, if_neg (by omega)]
    · rw [if_neg q, if_pos (by omega)]
  refine k1 (s0.1, s0.2.1, if s0.2.2 < (l : Int) then (l : Int) else s0.2.2) (by unfold fBg; rw [e]) σ33 ⟨by rw [sg_F_g F1 (by rfl)]; exact c84, by rw [sg_F_g F1 (by rfl)]; exact c85, by rw [w86]; exact ev, c0⟩ (by rw [e33, sg_gw_e _ _ _ _ ⟨by omega, by omega⟩]) ⟨?_, ?_, ?_, ?_, ?_⟩ (fun i hi => ⟨?_, ?_, ?_, ?_, ?_⟩) (sg_F_t (sg_F_m f1 rfl) (sg_F_m F1 rfl))
  · rw [e33, sg_gw_c _ _ _ _ _ _ (by decide), e29, sg_gw_c _ _ _ _ _ _ (by decide), e26, sg_gw_c _ _ _ _ _ _ (by decide), e23, sg_gw_c _ _ _ _ _ _ (by decide), e20, sg_gw_c _ _ _ _ _ _ (by decide), e17, sg_gw_e _ _ _ _ hx]
  · rw [e33, sg_gw_c _ _ _ _ _ _ (by decide), e29, sg_gw_c _ _ _ _ _ _ (by decide), e26, sg_gw_c _ _ _ _ _ _ (by decide), e23, sg_gw_c _ _ _ _ _ _ (by decide), e20, sg_gw_e _ _ _ _ ⟨by decide, by decide⟩]
  · rw [e33, sg_gw_c _ _ _ _ _ _ (by decide), e29, sg_gw_c _ _ _ _ _ _ (by decide), e26, sg_gw_c _ _ _ _ _ _ (by decide), e23, sg_gw_e _ _ _ _ (sg_Rg _ _ _)]
  · rw [e33, sg_gw_c _ _ _ _ _ _ (by decide), e29, sg_gw_c _ _ _ _ _ _ (by decide), e26, sg_gw_e _ _ _ _ ⟨by omega, by omega⟩]
  · rw [e33, sg_gw_c _ _ _ _ _ _ (by decide), e29, sg_gw_e _ _ _ _ (sg_Rg _ _ _)]
  · rw [e33, sg_gw_c _ _ _ _ _ _ (by decide), e29, sg_gw_c _ _ _ _ _ _ (by decide), e26, sg_gw_c _ _ _ _ _ _ (by decide), e23, sg_gw_c _ _ _ _ _ _ (by decide), e20, sg_gw_c _ _ _ _ _ _ (by decide), e17, sg_gw_k _ _ _ _ _ _ hi, e13, sg_gw_c _ _ _ _ _ _ (by decide), sg_F_ga f1 rfl]
  · rw [e33, sg_gw_c _ _ _ _ _ _ (by decide), e29, sg_gw_c _ _ _ _ _ _ (by decide), e26, sg_gw_c _ _ _ _ _ _ (by decide), e23, sg_gw_c _ _ _ _ _ _ (by decide), e20, sg_gw_k _ _ _ _ _ _ hi, e17, sg_gw_c _ _ _ _ _ _ (by decide), e13, sg_gw_c _ _ _ _ _ _ (by decide), sg_F_ga f1 rfl]
  · rw [e33, sg_gw_c _ _ _ _ _ _ (by decide), e29, sg_gw_c _ _ _ _ _ _ (by decide), e26, sg_gw_c _ _ _ _ _ _ (by decide), e23, sg_gw_k _ _ _ _ _ _ hi, e20, sg_gw_c _ _ _ _ _ _ (by decide), e17, sg_gw_c _ _ _ _ _ _ (by decide), e13, sg_gw_c _ _ _ _ _ _ (by decide), sg_F_ga f1 rfl]
  · rw [e33, sg_gw_c _ _ _ _ _ _ (by decide), e29, sg_gw_c _ _ _ _ _ _ (by decide), e26, sg_gw_k _ _ _ _ _ _ hi, e23, sg_gw_c _ _ _ _ _ _ (by decide), e20, sg_gw_c _ _ _ _ _ _ (by decide), e17, sg_gw_c _ _ _ _ _ _ (by decide), e13, sg_gw_c _ _ _ _ _ _ (by decide), sg_F_ga f1 rfl]
  · rw [e33, sg_gw_c _ _ _ _ _ _ (by decide), e29, sg_gw_k _ _ _ _ _ _ hi, e26, sg_gw_c _ _ _ _ _ _ (by decide), e23, sg_gw_c _ _ _ _ _ _ (by decide), e20, sg_gw_c _ _ _ _ _ _ (by decide), e17, sg_gw_c _ _ _ _ _ _ (by decide), e13, sg_gw_c _ _ _ _ _ _ (by decide), sg_F_ga f1 rfl]
theorem m_fLeaveX {σ : sg_S} {f b v : Int} {Q : sg_S → Prop} (h62 : sg_g σ 88 62 = f + 1) (f0 : 0 ≤ f ∧ f < 4000) (h128 : sg_g σ 128 f = b) (hb : 0 ≤ b ∧ b < 12000) (hv : sg_R v) (k : ∀ σ', sg_g σ' 88 62 = f → sg_g σ' 88 70 = b + 1 → sg_g σ' 133 b = v → (∀ x, ¬ x = b → sg_g σ' 133 x = sg_g σ 133 x) → sg_F [133, 63088, 71088] σ σ' → Q σ') : V_flatLeave σ v Q := by
  unfold V_flatLeave
  rw [h62, show f + 1 - 1 = f by omega, h128]
  refine ⟨⟨by omega, by omega⟩, fun σ2 e2 => ⟨f0, fun σ6 e6 => ⟨hb, fun σ10 e10 => ⟨⟨by omega, by omega⟩, fun σ14 e14 => k σ14 ?_ ?_ ?_ (fun x hx => ?_) ?_⟩⟩⟩⟩
  · rw [e14, sg_gw_k _ _ _ _ _ _ (by decide), e10, sg_gw_c _ _ _ _ _ _ (by decide), e6, sg_gw_k _ _ _ _ _ _ (by decide), e2, sg_gw_e _ _ _ _ ⟨by omega, by omega⟩]
  · rw [e14, sg_gw_e _ _ _ _ ⟨by omega, by omega⟩]
  · rw [e14, sg_gw_c _ _ _ _ _ _ (by decide), e10, sg_gw_e _ _ _ _ hv]
  · rw [e14, sg_gw_c _ _ _ _ _ _ (by decide), e10, sg_gw_k _ _ _ _ _ _ hx, e6, sg_gw_c _ _ _ _ _ _ (by decide), e2, sg_gw_c _ _ _ _ _ _ (by decide)]
  · rw [e14, e10, e6, e2]; exact sg_F_w (sg_F_w (sg_F_w (sg_F_w (sg_F_r _ _) rfl _) rfl _) rfl _) rfl _
/-- the end of a node's turn -/
def gfE (σ24 : sg_S) (v : Int) (Q : sg_S → Prop) : Prop := ∃ P31 : sg_S → Prop, ((¬ sg_g σ24 88 73 = 0 → P31 σ24) ∧ (sg_g σ24 88 73 = 0 → ((sg_g σ24 88 102 < 0 → P31 σ24) ∧ (0 ≤ sg_g σ24 88 102 → ∀ σ43, σ43 = sg_w σ24 88 73 (sg_g σ24 88 103) → P31 σ43)))) ∧ (∀ (σ32 : sg_S), sg_F [74088] σ24 σ32 → P31 σ32 → ((¬ sg_g σ32 88 73 = 0 → Q σ32) ∧ (sg_g σ32 88 73 = 0 → V_flatLeave σ32 v (fun σ37 => sg_F [133, 63088, 71088] σ32 σ37 → Q σ37))))
section GFE
variable {σ24 : sg_S} {v : Int} {Q : sg_S → Prop}
theorem gfE_a (h : ¬ sg_g σ24 88 73 = 0) (hQ : Q σ24) : gfE σ24 v Q := ⟨fun σ' => σ' = σ24, ⟨fun _ => rfl, fun z => absurd z h⟩, fun σ32 _ e => by subst e; exact ⟨fun _ => hQ, fun z => absurd z h⟩⟩
theorem gfE_b {e : Int} (h : sg_g σ24 88 73 = 0) (h2 : fqX σ24 e) (he : ¬ e = 0) (hQ : ∀ σ43, sg_g σ43 88 73 = e → sg_F [74088] σ24 σ43 → Q σ43) : gfE σ24 v Q := by
  rcases h2 with ⟨q, -⟩ | ⟨q1, q2, q3⟩
  · exact absurd q he
  · refine ⟨fun σ' => σ' = sg_w σ24 88 73 (sg_g σ24 88 103), ⟨fun z => absurd h z, fun _ => ⟨fun z => by omega, fun _ σ43 e43 => e43⟩⟩, fun σ32 f32 e32 => ?_⟩
    have c : sg_g σ32 88 73 = e := by rw [e32, sg_gw_e _ _ _ _ (sg_Rg _ _ _)]; exact q3
    exact ⟨fun _ => hQ σ32 c f32, fun z => absurd (c.symm.trans z) he⟩
theorem gfE_c (h : sg_g σ24 88 73 = 0) (h2 : sg_g σ24 88 102 < 0) (hL : V_flatLeave σ24 v (fun σ37 => sg_F [133, 63088, 71088] σ24 σ37 → Q σ37)) : gfE σ24 v Q := ⟨fun σ' => σ' = σ24, ⟨fun z => absurd h z, fun _ => ⟨fun _ => rfl, fun z => by omega⟩⟩, fun σ32 _ e => by subst e; exact ⟨fun z => absurd h z, fun _ => hL⟩⟩
end GFE
section GFT
variable {σ : sg_S} {A : aT} {D : List aDf} {T B : Int → Int} {f n s b l sv : Int} {Q : sg_S → Prop}
/-- a part is begun -/
theorem gf_part {x : Int} {j : Nat} (hX : pgX σ A D T B) (hn : 0 ≤ n ∧ n < A.1) (hf : sg_g σ 88 62 = f + 1) (f0 : 0 ≤ f ∧ f < 4000) (h : gfT σ f n (j : Int) b l sv) (k15 : ¬ A.2.1 n = 15) (k3 : ¬ A.2.1 n = 3) (k2 : ¬ (A.2.1 n = 2 ∧ j = 1)) (hx : (A.2.2.2.2.1 n)[j]? = some x) (k : ∀ σ13, σ13 = sg_w σ 127 f (j + 1) → ∀ Q' : sg_S → Prop, (∀ σ', Q σ' → Q' σ') → V_flatBegin σ13 x l Q') : V_goFlat σ Q := by
  obtain ⟨h1, h2, h3, h4, h5⟩ := h
  obtain ⟨t1, t2, t3, t4, t5⟩ := tr_k hX.1 hn
  have hA := hX.2.2.2.2.1
  have ef : sg_g σ 88 62 - 1 = f := by omega
  have hj := gE_l hx
  unfold V_goFlat
  rw [ef, h1, h2, h3, h4, t1, t2]
  refine ⟨⟨by omega, by omega⟩, f0, ⟨hn.1, by omega⟩, fun _ => ⟨fun _ => ⟨fun σ9 => σ9 = σ, ⟨fun _ => rfl, fun z => ⟨fun _ => rfl, fun y => absurd ⟨z, by omega⟩ k2⟩⟩, fun σ9 _ e9 => ?_⟩, fun z3 => absurd z3 k3⟩, fun z => absurd z k15⟩
  subst e9
  refine ⟨⟨by omega, by omega⟩, fun σ13 e13 => ⟨fun z => by omega, fun _ => ?_⟩⟩
  rw [t4 j x hx]
  exact ⟨⟨by omega, by omega⟩, ⟨by omega, by omega⟩, ⟨by omega, by omega⟩, k σ13 e13 _ (fun σ' hq _ => hq)⟩
theorem gf_let {x c : Int} (hX : pgX σ A D T B) (hn : 0 ≤ n ∧ n < A.1) (hf : sg_g σ 88 62 = f + 1) (f0 : 0 ≤ f ∧ f < 4000) (h : gfT σ f n 1 b l sv) (k2 : A.2.1 n = 2) (hc : (A.2.2.2.2.1 n)[1]? = some c) (hv : sg_g σ 88 70 = x + 1) (hx : 0 ≤ x ∧ x < 12000) (k : ∀ σ9 σ13, σ9 = sg_w (sg_w σ 88 70 x) 134 n (sg_g σ 133 x) → σ13 = sg_w σ9 127 f 2 → ∀ Q' : sg_S → Prop, (∀ σ', Q σ' → Q' σ') → V_flatBegin σ13 c l Q') : V_goFlat σ Q := by
  obtain ⟨h1, h2, h3, h4, h5⟩ := h
  obtain ⟨t1, t2, t3, t4, t5⟩ := tr_k hX.1 hn
  have hA := hX.2.2.2.2.1
  have ef : sg_g σ 88 62 - 1 = f := by omega
  have ex : sg_g σ 88 70 - 1 = x := by omega
  have hj := gE_l hc
  unfold V_goFlat
  rw [ef, h1, h2, h3, h4, t1, t2, ex]
  refine ⟨⟨by omega, by omega⟩, f0, ⟨hn.1, by omega⟩, fun _ => ⟨fun _ => ⟨fun σ9 => σ9 = sg_w (sg_w σ 88 70 x) 134 n (sg_g σ 133 x), ⟨fun z => absurd k2 z, fun _ => ⟨fun y => absurd rfl y, fun _ => ⟨⟨by omega, by omega⟩, fun σ75 e75 => ⟨hx, fun σ79 e79 => by rw [e79, e75]⟩⟩⟩⟩, fun σ9 _ e9 => ?_⟩, fun z3 => by omega⟩, fun z => by omega⟩
  refine ⟨⟨by omega, by omega⟩, fun σ13 e13 => ⟨fun z => by omega, fun _ => ?_⟩⟩
  have tc := t4 1 c hc
  rw [show (200 : Int) * n + ((1 : Nat) : Int) = 200 * n + 1 by omega] at tc
  rw [tc]
  exact ⟨⟨by omega, by omega⟩, ⟨by omega, by omega⟩, ⟨by omega, by omega⟩, k σ9 σ13 e9 e13 _ (fun σ' hq _ => hq)⟩
/-- a node behind its parts -/
theorem gf_op (hX : pgX σ A D T B) (hn : 0 ≤ n ∧ n < A.1) (hf : sg_g σ 88 62 = f + 1) (f0 : 0 ≤ f ∧ f < 4000) (h : gfT σ f n s b l sv) (hk : ¬ A.2.1 n = 1 ∧ ¬ A.2.1 n = 2 ∧ ¬ A.2.1 n = 3 ∧ ¬ A.2.1 n = 13 ∧ ¬ A.2.1 n = 15) (hs : s = (A.2.2.2.2.1 n).length) (k : ∀ σ18, σ18 = sg_w (sg_w σ 127 f (s + 1)) 88 102 (-1) → ∀ P : Int → sg_S → Prop, (∀ q σ', sg_R q → sg_F wkL σ18 σ' → gfE σ' q Q → P q σ') → V_flatWorked σ18 n b l (fun q σ' => sg_R q → sg_F wkL σ18 σ' → P q σ')) : V_goFlat σ Q := by
  obtain ⟨h1, h2, h3, h4, h5⟩ := h
  obtain ⟨t1, t2, t3, t4, t5⟩ := tr_k hX.1 hn
  have hA := hX.2.2.2.2.1
  obtain ⟨k1, k2, k3, k13, k15⟩ := hk
  have ef : sg_g σ 88 62 - 1 = f := by omega
  unfold V_goFlat
  rw [ef, h1, h2, h3, h4, t1, t2]
  refine ⟨⟨by omega, by omega⟩, f0, ⟨hn.1, by omega⟩, fun _ => ⟨fun _ => ⟨fun σ9 => σ9 = σ, ⟨fun _ => rfl, fun z => absurd z k2⟩, fun σ9 _ e9 => ?_⟩, fun z3 => absurd z3 k3⟩, fun z => absurd z k15⟩
  subst e9
  refine ⟨⟨by omega, by omega⟩, fun σ13 e13 => ⟨fun _ => ⟨fun _ σ18 e18 => ?_, fun z => absurd z k13⟩, fun z => by omega⟩⟩
  exact ⟨fun q σ' => gfE σ' q Q, ⟨fun _ => ⟨fun z => absurd z k2, fun _ => ⟨fun _ => k σ18 (by rw [e18, e13]) _ (fun q σ' _ _ g => g), fun z => absurd z k13⟩⟩, fun z => absurd z k1⟩, fun v26 σ24 _ _ g => g⟩
/-- a variable -/
theorem gf_var (hX : pgX σ A D T B) (hn : 0 ≤ n ∧ n < A.1) (hf : sg_g σ 88 62 = f + 1) (f0 : 0 ≤ f ∧ f < 4000) (h : gfT σ f n 0 b l sv) (k1 : A.2.1 n = 1) (hl : (A.2.2.2.2.1 n).length = 0) (hB : 0 ≤ B n ∧ B n < 1200) (k : ∀ σ18, σ18 = sg_w (sg_w σ 127 f 1) 88 102 (-1) → gfE σ18 (sg_g σ 134 (B n)) Q) : V_goFlat σ Q := by
  obtain ⟨h1, h2, h3, h4, h5⟩ := h
  obtain ⟨t1, t2, t3, t4, t5⟩ := tr_k hX.1 hn
  have hA := hX.2.2.2.2.1
  have ef : sg_g σ 88 62 - 1 = f := by omega
  have eB : sg_g σ 102 n = B n := by rw [hX.2.2.2.1]
  unfold V_goFlat
  rw [ef, h1, h2, h3, h4, t1, t2, eB, hl]
  refine ⟨⟨by omega, by omega⟩, f0, ⟨hn.1, by omega⟩, fun _ => ⟨fun _ => ⟨fun σ9 => σ9 = σ, ⟨fun _ => rfl, fun z => by omega⟩, fun σ9 _ e9 => ?_⟩, fun z3 => by omega⟩, fun z => by omega⟩
  subst e9
  refine ⟨⟨by omega, by omega⟩, fun σ13 e13 => ⟨fun _ => ⟨fun _ σ18 e18 => ?_, fun z => by omega⟩, fun z => by omega⟩⟩
  exact ⟨fun q σ' => gfE σ' q Q, ⟨fun z => absurd k1 z, fun _ => ⟨hB, k σ18 (by rw [e18, e13]; rfl)⟩⟩, fun v26 σ24 _ _ g => g⟩
/-- let, call: the value that is there -/
theorem gf_val (hX : pgX σ A D T B) (hn : 0 ≤ n ∧ n < A.1) (hf : sg_g σ 88 62 = f + 1) (f0 : 0 ≤ f ∧ f < 4000) (h : gfT σ f n s b l sv) (hk : (A.2.1 n = 2 ∧ s = (A.2.2.2.2.1 n).length ∧ ¬ s = 1) ∨ (A.2.1 n = 13 ∧ s = (A.2.2.2.2.1 n).length + 1)) (hb : 0 ≤ b ∧ b < 12000) (k : ∀ σ18, σ18 = sg_w (sg_w σ 127 f (s + 1)) 88 102 (-1) → gfE σ18 (sg_g σ 133 b) Q) : V_goFlat σ Q := by
  obtain ⟨h1, h2, h3, h4, h5⟩ := h
  obtain ⟨t1, t2, t3, t4, t5⟩ := tr_k hX.1 hn
  have hA := hX.2.2.2.2.1
  have ef : sg_g σ 88 62 - 1 = f := by omega
  unfold V_goFlat
  rw [ef, h1, h2, h3, h4, t1, t2]
  refine ⟨⟨by omega, by omega⟩, f0, ⟨hn.1, by omega⟩, fun _ => ⟨fun _ => ⟨fun σ9 => σ9 = σ, ⟨fun _ => rfl, fun z => ⟨fun _ => rfl, fun y => by omega⟩⟩, fun σ9 _ e9 => ?_⟩, fun z3 => by omega⟩, fun z => by omega⟩
  subst e9
  refine ⟨⟨by omega, by omega⟩, fun σ13 e13 => ⟨fun _ => ⟨fun c13 σ18 e18 => ?_, fun c13 => ⟨fun _ σ18 e18 => ?_, fun z => by omega⟩⟩, fun z => by omega⟩⟩
  · have e := k σ18 (by rw [e18, e13])
    exact ⟨fun q σ' => gfE σ' q Q, ⟨fun _ => ⟨fun _ => ⟨hb, e⟩, fun z => by omega⟩, fun z => by omega⟩, fun v26 σ24 _ _ g => g⟩
  · have e := k σ18 (by rw [e18, e13])
    exact ⟨fun q σ' => gfE σ' q Q, ⟨fun _ => ⟨fun z => by omega, fun _ => ⟨fun z => absurd c13 z, fun _ => ⟨hb, e⟩⟩⟩, fun z => by omega⟩, fun v26 σ24 _ _ g => g⟩
theorem gf_call {q : Int} (hX : pgX σ A D T B) (hn : 0 ≤ n ∧ n < A.1) (hf : sg_g σ 88 62 = f + 1) (f0 : 0 ≤ f ∧ f < 4000) (h : gfT σ f n s b l sv) (k13 : A.2.1 n = 13) (hs : s = (A.2.2.2.2.1 n).length) (hl : (A.2.2.2.2.1 n).length ≤ 6) (hq : B n = q) (q0 : 0 ≤ q ∧ q < 12) (hb : 0 ≤ b ∧ b + (A.2.2.2.2.1 n).length ≤ 12000) (k : ∀ σ46, sg_F [127, 134, 71088] σ σ46 → (∀ j : Nat, j < (A.2.2.2.2.1 n).length → sg_g σ46 134 (1100 + 6 * q + j) = sg_g σ 133 (b + j)) → (∀ x, ¬ (1100 + 6 * q ≤ x ∧ x < 1100 + 6 * q + (A.2.2.2.2.1 n).length) → sg_g σ46 134 x = sg_g σ 134 x) → sg_g σ46 127 f = s + 1 → (∀ i, ¬ i = f → sg_g σ46 127 i = sg_g σ 127 i) → sg_g σ46 88 70 = b → ∀ Q' : sg_S → Prop, (∀ σ', Q σ' → Q' σ') → V_flatBegin σ46 (sg_g σ 105 q) l Q') : V_goFlat σ Q := by
  obtain ⟨h1, h2, h3, h4, h5⟩ := h
  obtain ⟨t1, t2, t3, t4, t5⟩ := tr_k hX.1 hn
  have hA := hX.2.2.2.2.1
  have ef : sg_g σ 88 62 - 1 = f := by omega
  have eB : sg_g σ 102 n = q := by rw [hX.2.2.2.1]; exact hq
  unfold V_goFlat
  rw [ef, h1, h2, h3, h4, t1, t2, eB]
  refine ⟨⟨by omega, by omega⟩, f0, ⟨hn.1, by omega⟩, fun _ => ⟨fun _ => ⟨fun σ9 => σ9 = σ, ⟨fun _ => rfl, fun z => by omega⟩, fun σ9 _ e9 => ?_⟩, fun z3 => by omega⟩, fun z => by omega⟩
  subst e9
  refine ⟨⟨by omega, by omega⟩, fun σ13 e13 => ⟨fun _ => ⟨fun c => absurd k13 c, fun _ => ⟨fun z => absurd hs z, fun _ => ?_⟩⟩, fun z => by omega⟩⟩
  have f13 : sg_F [127] σ9 σ13 := by rw [e13]; exact sg_F_w (sg_F_r _ _) rfl _
  refine ⟨fun m v27 σ28 => ∃ j : Nat, v27 = j ∧ m = (A.2.2.2.2.1 n).length - j ∧ j ≤ (A.2.2.2.2.1 n).length ∧ (∀ j' : Nat, j' < j → sg_g σ28 134 (1100 + 6 * q + j') = sg_g σ9 133 (b + j')) ∧ ∀ x, ¬ (1100 + 6 * q ≤ x ∧ x < 1100 + 6 * q + j) → sg_g σ28 134 x = sg_g σ9 134 x, fun σ28 => (∀ j' : Nat, j' < (A.2.2.2.2.1 n).length → sg_g σ28 134 (1100 + 6 * q + j') = sg_g σ9 133 (b + j')) ∧ ∀ x, ¬ (1100 + 6 * q ≤ x ∧ x < 1100 + 6 * q + (A.2.2.2.2.1 n).length) → sg_g σ28 134 x = sg_g σ9 134 x, ⟨_, 0, rfl, rfl, Nat.zero_le _, fun j' hj => by omega, fun x _ => sg_F_ga f13 rfl⟩, ?_, ?_⟩
  · rintro m v27 σ28 r27 f28 ⟨j, rfl, em, hj, a1, a2⟩
    have ep : v_ofParam q (j : Int) = 1100 + 6 * q + j := rfl
    refine ⟨fun z => ⟨fun j' hj' => a1 j' (by omega), fun x hx => a2 x (by omega)⟩, fun z => ⟨⟨⟨by omega, by omega⟩, ⟨by omega, by omega⟩, ⟨by omega, by omega⟩, trivial⟩, ⟨by omega, by omega⟩, ⟨by omega, by omega⟩, by rw [ep]; exact ⟨by omega, by omega⟩, fun σ62 e62 => ⟨⟨by omega, by omega⟩, (A.2.2.2.2.1 n).length - (j + 1), by omega, j + 1, by omega, rfl, by omega, fun j' hj' => ?_, fun x hx => ?_⟩⟩⟩
    · rw [ep] at e62
      by_cases c : j' = j
      · subst c; rw [e62, sg_gw_e _ _ _ _ (sg_Rg _ _ _)]
      · rw [e62, sg_gw_k _ _ _ _ _ _ (by omega)]; exact a1 j' (by omega)
    · rw [ep] at e62
      rw [e62, sg_gw_k _ _ _ _ _ _ (by omega)]; exact a2 x (by omega)
  · rintro σ28 f28 ⟨a1, a2⟩ σ46 e46
    refine ⟨q0, k σ46 ?_ (fun j hj => ?_) (fun x hx => ?_) ?_ (fun i hi => ?_) ?_ _ (fun σ' hq _ => hq)⟩
    · rw [e46]; exact sg_F_w (sg_F_t (sg_F_m f13 rfl) (sg_F_m f28 rfl)) rfl _
    · rw [e46, sg_gw_c _ _ _ _ _ _ (by decide)]; exact a1 j hj
    · rw [e46, sg_gw_c _ _ _ _ _ _ (by decide)]; exact a2 x hx
    · rw [e46, sg_gw_c _ _ _ _ _ _ (by decide), sg_F_ga f28 rfl, e13, sg_gw_e _ _ _ _ ⟨by omega, by omega⟩]
    · rw [e46, sg_gw_c _ _ _ _ _ _ (by decide), sg_F_ga f28 rfl, e13, sg_gw_k _ _ _ _ _ _ hi]
    · rw [e46, sg_gw_e _ _ _ _ ⟨by omega, by omega⟩]
theorem gf_if (hX : pgX σ A D T B) (hn : 0 ≤ n ∧ n < A.1) (hf : sg_g σ 88 62 = f + 1) (f0 : 0 ≤ f ∧ f < 4000) (h1 : sg_g σ 126 f = n) (k3 : A.2.1 n = 3) (k : ∀ Q' : sg_S → Prop, (∀ σ', Q σ' → Q' σ') → V_flatIf σ f Q') : V_goFlat σ Q := by
  obtain ⟨t1, t2, t3, t4, t5⟩ := tr_k hX.1 hn
  have hA := hX.2.2.2.2.1
  have ef : sg_g σ 88 62 - 1 = f := by omega
  unfold V_goFlat
  rw [ef, h1, t1]
  exact ⟨⟨by omega, by omega⟩, f0, ⟨hn.1, by omega⟩, fun _ => ⟨fun z => absurd k3 z, fun _ => k _ (fun σ' hq _ => hq)⟩, fun z => by omega⟩
theorem gf_each (hX : pgX σ A D T B) (hn : 0 ≤ n ∧ n < A.1) (hf : sg_g σ 88 62 = f + 1) (f0 : 0 ≤ f ∧ f < 4000) (h1 : sg_g σ 126 f = n) (k15 : A.2.1 n = 15) (k : ∀ Q' : sg_S → Prop, (∀ σ', Q σ' → Q' σ') → V_flatEach σ f Q') : V_goFlat σ Q := by
  obtain ⟨t1, t2, t3, t4, t5⟩ := tr_k hX.1 hn
  have hA := hX.2.2.2.2.1
  have ef : sg_g σ 88 62 - 1 = f := by omega
  unfold V_goFlat
  rw [ef, h1, t1]
  exact ⟨⟨by omega, by omega⟩, f0, ⟨hn.1, by omega⟩, fun z => absurd k15 z, fun _ => k _ (fun σ' hq _ => hq)⟩
end GFT
/-! THE FLAT RUN of the reference in big steps: what is kept. -/
section BCD
variable (A : aT) (D : List aDf) (T : Int → Int)
/-- what y is bound to -/
def rlF (σ : sg_S) (ρ : fEv) (y : Int) : Prop := ∃ R, fX σ 6000 (sg_g σ 134 y) (bTy A D T y).toNat (ρ y) R
/-- a scope in m lanes -/
def scFX (σ : sg_S) (ρ : fEv) (m : Nat) (sc : List (Int × Int)) : Prop := ∀ p ∈ sc, (0 ≤ p.1 ∧ p.1 < 1200) ∧ p.2 = bTy A D T p.1 ∧ rlF A D T σ ρ p.1 ∧ (ρ p.1).length = m
/-- between turns -/
def fSs (σb σ : sg_S) (fr b sv : Int) (s : fSt) : Prop := sg_F flL σb σ ∧ sg_g σ 88 73 = 0 ∧ (sg_g σ 88 62 = fr ∧ sg_g σ 88 70 = b ∧ sg_g σ 88 99 = sv) ∧ fcX σ s ∧ fN σ
/-- the same, with room for a few values more -/
def fSw (σb σ : sg_S) (fr b sv : Int) (s : fSt) : Prop := sg_F flL σb σ ∧ sg_g σ 88 73 = 0 ∧ (sg_g σ 88 62 = fr ∧ sg_g σ 88 70 = b ∧ sg_g σ 88 99 = sv) ∧ fcX σ s ∧ fNw σ
def rw6 (σ σ' : sg_S) (i : Int) : Prop := sg_g σ' 126 i = sg_g σ 126 i ∧ sg_g σ' 127 i = sg_g σ 127 i ∧ sg_g σ' 128 i = sg_g σ 128 i ∧ sg_g σ' 145 i = sg_g σ 145 i ∧ sg_g σ' 146 i = sg_g σ 146 i ∧ sg_g σ' 147 i = sg_g σ 147 i
/-- what stays while a node is worked out -/
def fKp (σ σ' : sg_S) (ρ ρ' : fEv) (fr b sv : Int) : Prop := fEx σ σ' ∧ (∀ x, x < b → sg_g σ' 133 x = sg_g σ 133 x) ∧ (∀ y, rlF A D T σ ρ y → rlF A D T σ' ρ' y) ∧ (∀ i, i < fr → rw6 σ σ' i) ∧ ∀ i, i < sv → sg_g σ' 148 i = sg_g σ 148 i ∧ sg_g σ' 149 i = sg_g σ 149 i
variable (σb : sg_S) (X : sg_S → Prop)
/-- what a node is to be followed by -/
def kF (σ : sg_S) (ρ : fEv) (fr b sv : Int) (d : Nat) : fRs → Prop
  | .inl (e, s') => ∀ σ', sg_F flL σb σ' → sg_g σ' 88 73 = e → ¬ e = 0 → fcX σ' s' → X σ'
  | .inr (v, s', ρ') => ∀ σ' m', fSs σb σ' fr (b + 1) sv s' → fKp A D T σ σ' ρ ρ' fr b sv → (∃ R, fX σ' 6000 (sg_g σ' 133 b) d v R) → 2 * (2000 - s'.1) + fr ≤ ((m' : Nat) : Int) → Rf X m' σ'
/-- the big step of a node, from its begin on -/
def gfN (B : Int → Int) (lev : Int → Nat) (O : Int → Nat → List Int) (call : Int → Nat → fEv → fSt → fRs) (j f : Nat) : Prop := ∀ (n : Int) (L : List Int) (sc : List (Int × Int)), stN A D T B lev j f L sc n → ∀ (σ : sg_S) (m l : Nat) (ρ : fEv) (fr b sv : Int) (s : fSt), fSw σb σ fr b sv s → l ≤ 6000 → scFX A D T σ ρ l sc → 2 * (2000 - s.1) + fr ≤ (m : Int) + 1 → kF A D T σb X σ ρ fr b sv (T n).toNat (fxN A D T B O call f n l ρ s) → ∀ Q : sg_S → Prop, (∀ σ', Rf X m σ' → Q σ') → V_flatBegin σ n (l : Int) Q
end BCD
section BCL
variable {A : aT} {D : List aDf} {T B : Int → Int} {σb : sg_S} {X : sg_S → Prop}
theorem rw6_r (σ : sg_S) (i : Int) : rw6 σ σ i := ⟨rfl, rfl, rfl, rfl, rfl, rfl⟩
theorem rw6_t {σ σ1 σ2 : sg_S} {i : Int} (h : rw6 σ σ1 i) (g : rw6 σ1 σ2 i) : rw6 σ σ2 i := by
  obtain ⟨a1, a2, a3, a4, a5, a6⟩ := h
  obtain ⟨b1, b2, b3, b4, b5, b6⟩ := g
  exact ⟨b1.trans a1, b2.trans a2, b3.trans a3, b4.trans a4, b5.trans a5, b6.trans a6⟩
theorem rw6_F {L : List Nat} {σ σ' : sg_S} (f : sg_F L σ σ') (hL : (sg_ca L 126 && sg_ca L 127 && sg_ca L 128 && sg_ca L 145 && sg_ca L 146 && sg_ca L 147) = true) (i : Int) : rw6 σ σ' i := by
  simp only [Bool.and_eq_true] at hL
  obtain ⟨⟨⟨⟨⟨l1, l2⟩, l3⟩, l4⟩, l5⟩, l6⟩ := hL
  exact ⟨sg_F_ga f l1, sg_F_ga f l2, sg_F_ga f l3, sg_F_ga f l4, sg_F_ga f l5, sg_F_ga f l6⟩
theorem rlF_up {σ σ' : sg_S} {ρ ρ' : fEv} {y : Int} (h : rlF A D T σ ρ y) (x : fEx σ σ') (e : sg_g σ' 134 y = sg_g σ 134 y) (e2 : ρ' y = ρ y) : rlF A D T σ' ρ' y := by
  obtain ⟨R, h⟩ := h
  unfold rlF
  rw [e, e2]
  exact ⟨R, fX_up x h⟩
theorem fKp_r (σ : sg_S) (ρ : fEv) (fr b sv : Int) : fKp A D T σ σ ρ ρ fr b sv := ⟨fEx_r σ, fun _ _ => rfl, fun _ h => h, fun i _ => rw6_r σ i, fun _ _ => ⟨rfl, rfl⟩⟩
theorem fKp_t {σ σ1 σ2 : sg_S} {ρ ρ1 ρ2 : fEv} {fr b sv fr1 b1 sv1 fr2 b2 sv2 : Int} (h : fKp A D T σ σ1 ρ ρ1 fr1 b1 sv1) (g : fKp A D T σ1 σ2 ρ1 ρ2 fr2 b2 sv2) (hf : fr ≤ fr1 ∧ fr ≤ fr2) (hb : b ≤ b1 ∧ b ≤ b2) (hs : sv ≤ sv1 ∧ sv ≤ sv2) : fKp A D T σ σ2 ρ ρ2 fr b sv := by
  obtain ⟨a1, a2, a3, a4, a5⟩ := h
  obtain ⟨c1, c2, c3, c4, c5⟩ := g
  refine ⟨fEx_t a1 c1, fun x hx => by rw [c2 x (by omega), a2 x (by omega)], fun y hy => c3 y (a3 y hy), fun i hi => rw6_t (a4 i (by omega)) (c4 i (by omega)), fun i hi => ?_⟩
  obtain ⟨p1, p2⟩ := a5 i (by omega)
  obtain ⟨q1, q2⟩ := c5 i (by omega)
  exact ⟨q1.trans p1, q2.trans p2⟩
/-- a write elsewhere -/
theorem fKp_F {L : List Nat} {σ σ' : sg_S} {ρ : fEv} {fr b sv : Int} (f : sg_F L σ σ') (hL : (sg_ca L 133 && sg_ca L 134 && sg_ca L 148 && sg_ca L 149) = true) (ex : fEx σ σ') (hr : ∀ i, i < fr → rw6 σ σ' i) : fKp A D T σ σ' ρ ρ fr b sv := by
  simp only [Bool.and_eq_true] at hL
  obtain ⟨⟨⟨l1, l2⟩, l3⟩, l4⟩ := hL
  exact ⟨ex, fun x _ => sg_F_ga f l1, fun y hy => rlF_up hy ex (sg_F_ga f l2) rfl, hr, fun i _ => ⟨sg_F_ga f l3, sg_F_ga f l4⟩⟩
theorem scFX_u {σ σ' : sg_S} {ρ ρ' : fEv} {fr b sv : Int} {m : Nat} {sc : List (Int × Int)} (h : scFX A D T σ ρ m sc) (u : fKp A D T σ σ' ρ ρ' fr b sv) (hk : ∀ p ∈ sc, ρ' p.1 = ρ p.1) : scFX A D T σ' ρ' m sc := fun p hp => by
  obtain ⟨a1, a2, a3, a4⟩ := h p hp
  exact ⟨a1, a2, u.2.2.1 _ a3, by rw [hk p hp]; exact a4⟩
theorem gFX (hX : pgX σb A D T B) {σ : sg_S} (f : sg_F flL σb σ) : pgX σ A D T B := pgX_F f rfl hX
theorem fS_b {σ : sg_S} {fr b sv : Int} {s : fSt} (h : fSs σb σ fr b sv s) : (0 ≤ fr ∧ fr ≤ 2000) ∧ (0 ≤ b ∧ b + fr ≤ 2000) ∧ (0 ≤ sv ∧ sv ≤ 2000) ∧ (0 ≤ s.1 ∧ s.1 ≤ 2000) ∧ b + fr ≤ s.1 ∧ sv ≤ s.1 := by
  obtain ⟨-, -, ⟨a3, a4, a5⟩, ⟨c1, c2, c3, c4, c5⟩, ⟨⟨i1, i2, i3, i4, i5⟩, hB, n1, n2, n3⟩⟩ := h
  exact ⟨⟨by omega, by omega⟩, ⟨by omega, by omega⟩, ⟨by omega, by omega⟩, c4, by omega, by omega⟩
theorem fS_wk {σ : sg_S} {fr b sv : Int} {s : fSt} (h : fSs σb σ fr b sv s) : fSw σb σ fr b sv s := ⟨h.1, h.2.1, h.2.2.1, h.2.2.2.1, fN_w h.2.2.2.2⟩
theorem fS_bw {σ : sg_S} {fr b sv : Int} {s : fSt} (h : fSw σb σ fr b sv s) : (0 ≤ fr ∧ fr ≤ 2000) ∧ (0 ≤ b ∧ b + fr ≤ 2000) ∧ (0 ≤ sv ∧ sv ≤ 2000) ∧ (0 ≤ s.1 ∧ s.1 ≤ 2000) ∧ b + fr ≤ s.1 ∧ sv ≤ s.1 := by
  obtain ⟨-, -, ⟨a3, a4, a5⟩, ⟨c1, c2, c3, c4, c5⟩, ⟨⟨i1, i2, i3, i4, i5⟩, hB, n1, n2, n3⟩⟩ := h
  exact ⟨⟨by omega, by omega⟩, ⟨by omega, by omega⟩, ⟨by omega, by omega⟩, c4, by omega, by omega⟩
theorem fS_h {σ : sg_S} {fr b sv : Int} {s : fSt} (h : fSs σb σ fr b sv s) : sg_g σ 88 87 + sg_g σ 88 62 ≤ 8 * sg_g σ 88 84 + 1 := by
  obtain ⟨-, -, -, -, ⟨⟨i1, i2, i3, i4, i5⟩, -⟩⟩ := h
  omega
theorem fS_c {σ : sg_S} {fr b sv : Int} {s : fSt} (h : fSs σb σ fr b sv s) : fC σ := by
  obtain ⟨-, -, -, -, ⟨⟨i1, i2, i3, i4, i5⟩, -⟩⟩ := h
  exact ⟨i1, i2, i3, by omega, by omega⟩
/-- a write to a frame, to what is bound, or to where values end -/
theorem fS_w {σ σ' : sg_S} {fr b sv b' : Int} {s : fSt} {K : List Nat} (h : fSs σb σ fr b sv s) (f : sg_F K σ σ') (hK : (!sg_cv K 88 84 && !sg_cv K 88 85 && !sg_cv K 88 91 && !sg_cv K 88 87 && !sg_cv K 88 99 && !sg_cv K 88 62 && sg_ca K 148) = true) (hK2 : (!sg_cv K 88 73 && !sg_cv K 88 86) = true) (hg : sg_F flL σ σ') (hb : sg_g σ' 88 70 = b') (b0 : 0 ≤ b' ∧ b' ≤ b) : fSs σb σ' fr b' sv s := by
  obtain ⟨a1, a2, ⟨a3, a4, a5⟩, c, hN⟩ := h
  have N := fN_F f hK (by omega) hN
  simp only [Bool.and_eq_true, Bool.not_eq_true'] at hK hK2
  obtain ⟨⟨⟨⟨⟨⟨l1, l2⟩, l3⟩, l4⟩, l5⟩, l6⟩, l7⟩ := hK
  exact ⟨sg_F_t a1 hg, by rw [sg_F_g f hK2.1]; exact a2, ⟨by rw [sg_F_g f l6]; exact a3, hb, by rw [sg_F_g f l5]; exact a5⟩, fcX_F f (by rw [l1, l2, hK2.2]; rfl) c, N⟩
/-- BEGIN of a node: its frame -/
theorem gfb_begin {σ : sg_S} {n fr b sv : Int} {s : fSt} {ρ : fEv} {m l : Nat} {Q : sg_S → Prop} (hS : fSw σb σ fr b sv s) (hn : 0 ≤ n ∧ n < 210) (hl : l ≤ 6000) (hQ : ∀ σ', Rf X m σ' → Q σ') (kX : fBg l s = none → ∀ σ', sg_F flL σb σ' → sg_g σ' 88 73 = 8 → ¬ (8 : Int) = 0 → fcX σ' s → X σ') (kS : ∀ s1, fBg l s = some s1 → s1.1 = s.1 + 1 → s1.2.1 = s.2.1 → ∀ σ', fSs σb σ' (fr + 1) b sv s1 → gfT σ' fr n 0 b l sv → fKp A D T σ σ' ρ ρ fr b sv → (∀ x, sg_g σ' 133 x = sg_g σ 133 x) → Rf X m σ') : V_flatBegin σ n (l : Int) Q := by
  have bb := fS_bw hS
  obtain ⟨a1, a2, ⟨a3, a4, a5⟩, c, hN⟩ := id hS
  refine m_fBeginX c (by omega) ⟨by omega, by omega⟩ hl (fun z σ' y1 y2 y3 => hQ σ' ?_) (fun s1 z σ' y1 y2 y3 y4 y5 => hQ σ' ?_)
  · exact rf_s (by rw [y1]; decide) (kX z σ' (sg_F_t a1 (sg_F_m y3 rfl)) y1 (by decide) y2)
  · rw [a3] at y2 y3 y4
    rw [a4, a5] at y3
    have ex : fEx σ σ' := fEx_F y5 rfl
    have es : s1.1 = s.1 + 1 ∧ s1.2.1 = s.2.1 := by
      unfold fBg at z
      cases e : fStp 0 s with
      | none => rw [e] at z; cases z
      | some s0 =>
        rw [e] at z
        obtain ⟨z1, z2, -⟩ := fStp_s e
        cases z
        exact ⟨z1, by simp only; omega⟩
    obtain ⟨hI, hB, n1, n2, n3⟩ := hN
    obtain ⟨i1, i2, i3, i4, i5⟩ := hI
    have g84 := y1.1
    have g85 := y1.2.1
    have o84 := c.1
    have o85 := c.2.1
    have c4 := y1.2.2.2.1
    have c5 := y1.2.2.2.2
    have g70 : sg_g σ' 88 70 = sg_g σ 88 70 := sg_F_g y5 (by rfl)
    have g91 : sg_g σ' 88 91 = sg_g σ 88 91 := sg_F_g y5 (by rfl)
    have g87 : sg_g σ' 88 87 = sg_g σ 88 87 := sg_F_g y5 (by rfl)
    have g99 : sg_g σ' 88 99 = sg_g σ 88 99 := sg_F_g y5 (by rfl)
    refine kS s1 z es.1 es.2 σ' ⟨sg_F_t a1 (sg_F_m y5 rfl), by rw [sg_F_g y5 (by rfl)]; exact a2, ⟨y2, by omega, by omega⟩, y1, ⟨⟨by omega, by omega⟩, ⟨by omega, by omega⟩, ⟨by omega, by omega⟩, ⟨by omega, by omega, by omega⟩, by omega, by omega⟩, fun i x y => by rw [sg_F_ga y5 rfl]; exact hB i x (by omega), by omega, by omega, by omega⟩ y3 (fKp_F y5 rfl ex (fun i hi => ?_)) (fun x => sg_F_ga y5 rfl)
    obtain ⟨d1, d2, d3, d4, d5⟩ := y4 i (by omega)
    exact ⟨d1, d2, d3, d4, d5, sg_F_ga y5 rfl⟩
/-- the end of a node: its value leaves -/
theorem gfl_leave {σ σ2 : sg_S} {ρ ρ2 : fEv} {fr b b2 sv v : Int} {s : fSt} {d m : Nat} {vf : List vaF} {Q : sg_S → Prop} (hS : fSw σb σ2 (fr + 1) b2 sv s) (hw : sg_g σ2 88 87 + sg_g σ2 88 62 ≤ 8 * sg_g σ2 88 84 + 1) (hb : 0 ≤ b ∧ b ≤ b2) (h128 : sg_g σ2 128 fr = b) (f0 : 0 ≤ fr) (hV : fKp A D T σ σ2 ρ ρ2 fr b sv) (hv : sg_R v) (hr : ∃ R, fX σ2 6000 v d vf R) (hm : 2 * (2000 - s.1) + fr ≤ (m : Int)) (k : kF A D T σb X σ ρ fr b sv d (.inr (vf, s, ρ2))) (hQ : ∀ σ', Rf X m σ' → Q σ') : V_flatLeave σ2 v Q := by
  have bb := fS_bw hS
  obtain ⟨a1, a2, ⟨a3, a4, a5⟩, c, hN⟩ := id hS
  refine m_fLeaveX (f := fr) (b := b) a3 ⟨f0, by omega⟩ h128 ⟨by omega, by omega⟩ hv (fun σ' y1 y2 y3 y4 y5 => hQ σ' ?_)
  have ex : fEx σ2 σ' := fEx_F y5 rfl
  obtain ⟨hI, hB, n1, n2, n3⟩ := hN
  obtain ⟨i1, i2, i3, i4, i5⟩ := hI
  have g84 : sg_g σ' 88 84 = sg_g σ2 88 84 := sg_F_g y5 (by rfl)
  have g85 : sg_g σ' 88 85 = sg_g σ2 88 85 := sg_F_g y5 (by rfl)
  have g91 : sg_g σ' 88 91 = sg_g σ2 88 91 := sg_F_g y5 (by rfl)
  have g87 : sg_g σ' 88 87 = sg_g σ2 88 87 := sg_F_g y5 (by rfl)
  have g99 : sg_g σ' 88 99 = sg_g σ2 88 99 := sg_F_g y5 (by rfl)
  obtain ⟨R, hR⟩ := hr
  refine k σ' m ⟨sg_F_t a1 (sg_F_m y5 rfl), by rw [sg_F_g y5 (by rfl)]; exact a2, ⟨y1, y2, by omega⟩, fcX_F y5 rfl c, ⟨⟨by omega, by omega⟩, ⟨by omega, by omega⟩, ⟨by omega, by omega⟩, ⟨by omega, by omega, by omega⟩, by omega, by omega⟩, fun i x y => by rw [sg_F_ga y5 rfl]; exact hB i x (by omega), by omega, by omega, by omega⟩ ?_ ⟨R, by rw [y3]; exact fX_up ex hR⟩ hm
  refine ⟨fEx_t hV.1 ex, fun x hx => by rw [y4 x (by omega)]; exact hV.2.1 x hx, fun y hy => rlF_up (hV.2.2.1 y hy) ex (sg_F_ga y5 rfl) rfl, fun i hi => rw6_t (hV.2.2.2.1 i hi) (rw6_F y5 rfl i), fun i hi => ?_⟩
  obtain ⟨p1, p2⟩ := hV.2.2.2.2 i hi
  exact ⟨by rw [sg_F_ga y5 rfl]; exact p1, by rw [sg_F_ga y5 rfl]; exact p2⟩
end BCL
/-! THE FLAT RUN of the reference in big steps: parts one after another. -/
/-- lanes, and what is bound outside stays -/
def fPu (A : aT) (D : List aDf) (T B : Int → Int) (lev : Int → Nat) (O : Int → Nat → List Int) (call : Int → Nat → fEv → fSt → fRs) (j f : Nat) : Prop := ∀ (n : Int) (L : List Int) (sc : List (Int × Int)), stN A D T B lev j f L sc n → ∀ (m : Nat) ρ s v s' ρ', (∀ p ∈ sc, (ρ p.1).length = m) → fxN A D T B O call f n m ρ s = .inr (v, s', ρ') → v.length = m ∧ ∀ b, ¬ ow lev j L b → ρ' b = ρ b
section BDS
variable {A : aT} {D : List aDf} {T B : Int → Int} {lev : Int → Nat} {σb : sg_S} {X : sg_S → Prop} {O : Int → Nat → List Int} {call : Int → Nat → fEv → fSt → fRs} {j f : Nat}
theorem fKp_mk {L : List Nat} {σ σ' : sg_S} {ρ : fEv} {fr b sv : Int} (F : sg_F L σ σ') (hL : (sg_ca L 134 && sg_ca L 148 && sg_ca L 149 && sg_ca L 126 && sg_ca L 128 && sg_ca L 145 && sg_ca L 146 && sg_ca L 147) = true) (ex : fEx σ σ') (h133 : ∀ x, x < b → sg_g σ' 133 x = sg_g σ 133 x) (h127 : ∀ i, i < fr → sg_g σ' 127 i = sg_g σ 127 i) : fKp A D T σ σ' ρ ρ fr b sv := by
  simp only [Bool.and_eq_true] at hL
  obtain ⟨⟨⟨⟨⟨⟨⟨l1, l2⟩, l3⟩, l4⟩, l5⟩, l6⟩, l7⟩, l8⟩ := hL
  exact ⟨ex, h133, fun y hy => rlF_up hy ex (sg_F_ga F l1) rfl, fun i hi => ⟨sg_F_ga F l4, h127 i hi, sg_F_ga F l5, sg_F_ga F l6, sg_F_ga F l7, sg_F_ga F l8⟩, fun i _ => ⟨sg_F_ga F l2, sg_F_ga F l3⟩⟩
/-- what parts are to be followed by -/
def kFr (A : aT) (D : List aDf) (T : Int → Int) (σb : sg_S) (X : sg_S → Prop) (σ : sg_S) (ρ : fEv) (n fr b sv : Int) (l st : Nat) (R : List Int) : fRl → Prop
  | .inl (e, s') => ∀ σ', sg_F flL σb σ' → sg_g σ' 88 73 = e → ¬ e = 0 → fcX σ' s' → X σ'
  | .inr (vs, s', ρ') => ∀ σ' m', vs.length = R.length → fSs σb σ' (fr + 1) (b + st + R.length) sv s' → gfT σ' fr n (st + R.length : Nat) b l sv → fKp A D T σ σ' ρ ρ' fr (b + st) sv → (∀ (i : Nat) (x : Int) (v : List vaF), R[i]? = some x → vs[i]? = some v → ∃ R', fX σ' 6000 (sg_g σ' 133 (b + st + i)) (T x).toNat v R') → 2 * (2000 - s'.1) + (fr + 1) ≤ ((m' : Nat) : Int) → Rf X m' σ'
theorem gfRow (hX : pgX σb A D T B) (hP : fPu A D T B lev O call j f) (F : gfN A D T σb X B lev O call j f) {n sv : Int} {sc : List (Int × Int)} {l off : Nat} (hn : 0 ≤ n ∧ n < A.1) (hl : l ≤ 6000) (go : ∀ (σ : sg_S) (st : Nat) (b fr x : Int) (Q : sg_S → Prop), pgX σ A D T B → sg_g σ 88 62 = fr + 1 → 0 ≤ fr ∧ fr < 4000 → gfT σ fr n st b l sv → (A.2.1 n = 15 → st < (A.2.2.2.2.2 n).length) → (A.2.2.2.2.1 n)[off + st]? = some x → (∀ σ3, σ3 = sg_w σ 127 fr (st + 1) → ∀ Q' : sg_S → Prop, (∀ σ', Q σ' → Q' σ') → V_flatBegin σ3 x (l : Int) Q') → V_goFlat σ (fun σ' => sg_F flL σ σ' → Q σ')) : ∀ (R : List Int) (st : Nat), (∀ (i : Nat) (x : Int), R[i]? = some x → (A.2.2.2.2.1 n)[off + (st + i)]? = some x) → (A.2.1 n = 15 → st + R.length ≤ (A.2.2.2.2.2 n).length) → (∀ x ∈ R, ∃ L', stN A D T B lev j f L' sc x) → ∀ (σ : sg_S) (m : Nat) (ρ : fEv) (fr b : Int) (s : fSt), fSs σb σ (fr + 1) (b + st) sv s → 0 ≤ fr → 0 ≤ b → gfT σ fr n st b l sv → scFX A D T σ ρ l sc → 2 * (2000 - s.1) + (fr + 1) ≤ (m : Int) → kFr A D T σb X σ ρ n fr b sv l st R (fSq (fun x => fxN A D T B O call f x l) R ρ s) → Rf X m σ
  | [], st, hR, h15, hty, σ, m, ρ, fr, b, s, hS, f0, b0, hT, hs, hm, k => by
    simp only [fSq, kFr, List.length_nil, Int.ofNat_zero, Int.cast_ofNat_Int, Int.add_zero, Nat.add_zero] at k
    exact k σ m trivial hS hT (fKp_r σ ρ _ _ _) (fun i x v hx => by simp at hx) hm
  | x :: R, st, hR, h15, hty, σ, m, ρ, fr, b, s, hS, f0, b0, hT, hs, hm, k => by
    have bb := fS_b hS
    obtain ⟨a1, a2, ⟨a3, a4, a5⟩, c, hN⟩ := id hS
    have hXσ := gFX hX a1
    have hA := hX.2.2.2.2.1
    obtain ⟨m, rfl⟩ : ∃ m', m = m' + 1 := ⟨m - 1, by omega⟩
    obtain ⟨L', hx⟩ := hty x (by simp)
    refine rf_g (by omega) a2 (fun Qz hz => go σ st b fr x Qz hXσ a3 ⟨f0, by omega⟩ hT (fun c => by have := h15 c; simp only [List.length_cons] at this; omega) (by have := hR 0 x rfl; rw [Nat.add_zero] at this; exact this) (fun σ3 e3 Q' hQ' => ?_))
    have f3 : sg_F [127] σ σ3 := by rw [e3]; exact sg_F_w (sg_F_r _ _) rfl _
    have S3 : fSs σb σ3 (fr + 1) (b + st) sv s := fS_w hS f3 rfl rfl (sg_F_m f3 rfl) (by rw [sg_F_g f3 (by rfl)]; exact a4) ⟨by omega, Int.le_refl _⟩
    have o127 : ∀ i, ¬ i = fr → sg_g σ3 127 i = sg_g σ 127 i := fun i hi => by rw [e3, sg_gw_k _ _ _ _ _ _ hi]
    have stb : st ≤ 200 := by
      have := gE_l (hR 0 x rfl)
      have := (tr_k hX.1 hn).2.2.1
      omega
    obtain ⟨p1, p2, p3, p4, p5⟩ := hT
    have T3 : gfT σ3 fr n (st + 1 : Nat) b l sv := ⟨by rw [sg_F_ga f3 rfl]; exact p1, by rw [e3, sg_gw_e _ _ _ _ ⟨by omega, by omega⟩]; omega, by rw [sg_F_ga f3 rfl]; exact p3, by rw [sg_F_ga f3 rfl]; exact p4, by rw [sg_F_ga f3 rfl]; exact p5⟩
    have V3 : fKp A D T σ σ3 ρ ρ fr (b + st) sv := fKp_mk f3 rfl (fEx_F f3 rfl) (fun y _ => sg_F_ga f3 rfl) (fun i hi => o127 i (by omega))
    refine F x L' sc hx σ3 m l ρ (fr + 1) (b + st) sv s (fS_wk S3) hl (scFX_u hs V3 (fun p _ => rfl)) (by omega) ?_ Q' (fun σ' h => hQ' σ' (hz σ' h))
    have pu := hP x L' sc hx l ρ s
    simp only [fSq] at k
    generalize fxN A D T B O call f x l ρ s = r at k pu
    match r, k, pu with
    | .inl (e, w'), k, _ => exact k
    | .inr (v, s1, ρ1), k, pu =>
      intro σ4 m4 S4 U4 v4 hm4
      obtain ⟨pl, pk⟩ := pu v s1 ρ1 (fun p hp => (hs p hp).2.2.2) rfl
      simp only at k
      obtain ⟨w1, w2, w3, w4, w5, w6⟩ := U4.2.2.2.1 fr (by omega)
      have T4 : gfT σ4 fr n (st + 1 : Nat) b l sv := ⟨w1.trans T3.1, w2.trans T3.2.1, w3.trans T3.2.2.1, w4.trans T3.2.2.2.1, w5.trans T3.2.2.2.2⟩
      have V4 : fKp A D T σ σ4 ρ ρ1 fr (b + st) sv := fKp_t V3 U4 ⟨Int.le_refl _, by omega⟩ ⟨Int.le_refl _, Int.le_refl _⟩ ⟨Int.le_refl _, Int.le_refl _⟩
      refine gfRow hX hP F hn hl go R (st + 1) (fun i y hy => ?_) (fun c => by have := h15 c; simp only [List.length_cons] at this; omega) (fun y hy => hty y (by simp [hy])) σ4 m4 ρ1 fr b s1 (by rw [show b + ((st + 1 : Nat) : Int) = b + st + 1 by omega]; exact S4) f0 b0 T4 (scFX_u hs V4 (fun p hp => pk p.1 (hx.2.2.2.2 p hp).2)) hm4 ?_
      · have := hR (i + 1) y hy
        rw [show off + (st + (i + 1)) = off + (st + 1 + i) by omega] at this
        exact this
      · generalize fSq (fun x => fxN A D T B O call f x l) R ρ1 s1 = r2 at k
        match r2, k with
        | .inl (e, w'), k => exact k
        | .inr (vs, s2, ρ2), k =>
          intro σ5 m5 l5 S5 T5 V5 v5 hm5
          refine k σ5 m5 (by simp only [List.length_cons]; omega) ?_ ?_ (fKp_t V4 V5 ⟨Int.le_refl _, Int.le_refl _⟩ ⟨Int.le_refl _, by omega⟩ ⟨Int.le_refl _, Int.le_refl _⟩) (fun i y v' hy hv' => ?_) hm5
          · simp only [List.length_cons]
            rw [show b + (st : Int) + ((R.length + 1 : Nat) : Int) = b + ((st + 1 : Nat) : Int) + R.length by omega]
            exact S5
          · simp only [List.length_cons]
            rw [show st + (R.length + 1) = st + 1 + R.length by omega]
            exact T5
          · cases i with
            | zero =>
              simp only [List.getElem?_cons_zero, Option.some.injEq] at hy hv'
              subst hy hv'
              simp only [Int.ofNat_zero, Int.cast_ofNat_Int, Int.add_zero]
              rw [V5.2.1 _ (by omega)]
              obtain ⟨R', hR'⟩ := v4
              exact ⟨R', fX_up V5.1 hR'⟩
            | succ i =>
              simp only [List.getElem?_cons_succ] at hy hv'
              have := v5 i y v' hy hv'
              rw [show b + ((st + 1 : Nat) : Int) + (i : Int) = b + (st : Int) + ((i + 1 : Nat) : Int) by omega] at this
              exact this
theorem gof_op {n sv : Int} {l : Nat} (hn : 0 ≤ n ∧ n < A.1) (k15 : ¬ A.2.1 n = 15) (k3 : ¬ A.2.1 n = 3) (k2 : ¬ A.2.1 n = 2) (σ : sg_S) (st : Nat) (b fr x : Int) (Q : sg_S → Prop) (hX : pgX σ A D T B) (hf : sg_g σ 88 62 = fr + 1) (f0 : 0 ≤ fr ∧ fr < 4000) (hT : gfT σ fr n st b l sv) (_ : A.2.1 n = 15 → st < (A.2.2.2.2.2 n).length) (hx : (A.2.2.2.2.1 n)[0 + st]? = some x) (k : ∀ σ3, σ3 = sg_w σ 127 fr (st + 1) → ∀ Q' : sg_S → Prop, (∀ σ', Q σ' → Q' σ') → V_flatBegin σ3 x (l : Int) Q') : V_goFlat σ (fun σ' => sg_F flL σ σ' → Q σ') := by
  rw [Nat.zero_add] at hx
  exact gf_part hX hn hf f0 hT k15 k3 (fun z => k2 z.1) hx (fun σ3 e3 Q' hQ' => k σ3 e3 Q' (fun σ' hq => hQ' σ' (fun _ => hq)))
end BDS
