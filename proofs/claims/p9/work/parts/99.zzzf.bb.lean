/-! THE FLAT RUN of the reference, turn by turn: begin, leave, the end of a turn. -/
abbrev flL : List Nat := [119, 120, 121, 126, 127, 128, 133, 134, 135, 139, 140, 141, 142, 143, 144, 145, 146, 147, 148, 149, 150, 47088, 50088, 63088, 71088, 74088, 85088, 86088, 87088, 88088, 92088, 94088, 100088, 103088, 104088]
/-- m turns are left -/
def Rf (X : sg_S → Prop) : Nat → sg_S → Prop
  | 0, σ => (sg_g σ 88 62 ≤ 0 → X σ) ∧ (¬ sg_g σ 88 73 = 0 → X σ) ∧ (0 < sg_g σ 88 62 → sg_g σ 88 73 = 0 → False)
  | m + 1, σ => (sg_g σ 88 62 ≤ 0 → X σ) ∧ (¬ sg_g σ 88 73 = 0 → X σ) ∧ (0 < sg_g σ 88 62 → sg_g σ 88 73 = 0 → ∀ Q : sg_S → Prop, (∀ σ', Rf X m σ' → Q σ') → V_goFlat σ (fun σ' => sg_F flL σ σ' → Q σ'))
theorem rf_s {X : sg_S → Prop} {m : Nat} {σ : sg_S} (h : ¬ sg_g σ 88 73 = 0) (hX : X σ) : Rf X m σ := by
  cases m with
  | zero => exact ⟨fun _ => hX, fun _ => hX, fun _ z => absurd z h⟩
  | succ m => exact ⟨fun _ => hX, fun _ => hX, fun _ z => absurd z h⟩
theorem rf_e {X : sg_S → Prop} {m : Nat} {σ : sg_S} (h : sg_g σ 88 62 ≤ 0) (hX : X σ) : Rf X m σ := by
  cases m with
  | zero => exact ⟨fun _ => hX, fun _ => hX, fun z _ => by omega⟩
  | succ m => exact ⟨fun _ => hX, fun _ => hX, fun z _ => by omega⟩
theorem rf_g {X : sg_S → Prop} {m : Nat} {σ : sg_S} (h1 : 0 < sg_g σ 88 62) (h2 : sg_g σ 88 73 = 0) (h : ∀ Q : sg_S → Prop, (∀ σ', Rf X m σ' → Q σ') → V_goFlat σ (fun σ' => sg_F flL σ σ' → Q σ')) : Rf X (m + 1) σ := ⟨fun z => by omega, fun z => absurd h2 z, fun _ _ => h⟩
/-- a frame: its node, stage, values, lanes, what was saved -/
def gfT (σ : sg_S) (f n s b l sv : Int) : Prop := sg_g σ 126 f = n ∧ sg_g σ 127 f = s ∧ sg_g σ 128 f = b ∧ sg_g σ 145 f = l ∧ sg_g σ 146 f = sv
abbrev fbL : List Nat := [126, 127, 128, 145, 146, 63088, 74088, 85088, 86088, 87088]
theorem m_fBeginX {σ : sg_S} {x : Int} {l : Nat} {s : fSt} {Q : sg_S → Prop} (hs : fcX σ s) (hf : 0 ≤ sg_g σ 88 62 ∧ sg_g σ 88 62 < 4000) (hx : sg_R x) (hl : l ≤ 6000) (k0 : fBg l s = none → ∀ σ', sg_g σ' 88 73 = 8 → fcX σ' s → sg_F fbL σ σ' → Q σ') (k1 : ∀ s1, fBg l s = some s1 → ∀ σ', fcX σ' s1 → sg_g σ' 88 62 = sg_g σ 88 62 + 1 → gfT σ' (sg_g σ 88 62) x 0 (sg_g σ 88 70) l (sg_g σ 88 99) → (∀ i, ¬ i = sg_g σ 88 62 → sg_g σ' 126 i = sg_g σ 126 i ∧ sg_g σ' 127 i = sg_g σ 127 i ∧ sg_g σ' 128 i = sg_g σ 128 i ∧ sg_g σ' 145 i = sg_g σ 145 i ∧ sg_g σ' 146 i = sg_g σ 146 i) → sg_F [126, 127, 128, 145, 146, 63088, 85088, 86088, 87088] σ σ' → Q σ') : V_flatBegin σ x (l : Int) Q := by
  have h86 := hs.2.2.1
  unfold V_flatBegin
  refine m_stepX hs ⟨by omega, by omega⟩ (fun e σ' y1 y2 y3 _ _ => ⟨fun z => absurd rfl z, fun _ => k0 (by unfold fBg; rw [e]) σ' y1 y2 (sg_F_m y3 rfl)⟩) (fun s0 e σ1 c1 f1 _ _ => ⟨fun _ v10 e10 r10 σ13 e13 => ⟨hf, fun σ17 e17 σ20 e20 σ23 e23 σ26 e26 σ29 e29 => ⟨⟨by omega, by omega⟩, fun σ33 e33 => ?_⟩⟩, fun z => by omega⟩)
  have F1 : sg_F [126, 127, 128, 145, 146, 63088, 87088] σ1 σ33 := by
    rw [e33, e29, e26, e23, e20, e17, e13]
    exact sg_F_w (sg_F_w (sg_F_w (sg_F_w (sg_F_w (sg_F_w (sg_F_w (sg_F_r _ _) rfl _) rfl _) rfl _) rfl _) rfl _) rfl _) rfl _
  obtain ⟨z1, z2, z3, z4, z5⟩ := fStp_s e
  obtain ⟨c84, c85, c86, c0⟩ := c1
  have w86 : sg_g σ33 88 86 = v10 := by rw [e33, sg_gw_k _ _ _ _ _ _ (by decide), e29, sg_gw_c _ _ _ _ _ _ (by decide), e26, sg_gw_c _ _ _ _ _ _ (by decide), e23, sg_gw_c _ _ _ _ _ _ (by decide), e20, sg_gw_c _ _ _ _ _ _ (by decide), e17, sg_gw_c _ _ _ _ _ _ (by decide), e13, sg_gw_e _ _ _ _ r10]
  have ev : v10 = if s0.2.2 < (l : Int) then (l : Int) else s0.2.2 := by
    rw [e10, h86, z3]
    by_cases q : (l : Int) ≤ s.2.2
    · rw [if_pos q, if_neg (by omega)]
    · rw [if_neg q, if_pos (by omega)]
  refine k1 (s0.1, s0.2.1, if s0.2.2 < (l : Int) then (l : Int) else s0.2.2) (by unfold fBg; rw [e]) σ33 ⟨by rw [sg_F_g F1 (by rfl)]; exact c84, by rw [sg_F_g F1 (by rfl)]; exact c85, by rw [w86]; exact ev, c0⟩ (by rw [e33, sg_gw_e _ _ _ _ ⟨by omega, by omega⟩]) ⟨?_, ?_, ?_, ?_, ?_⟩ (fun i hi => ⟨?_, ?_, ?_, ?_, ?_⟩) (sg_F_t (sg_F_m f1 rfl) (sg_F_m F1 rfl))
  · rw [e33, sg_gw_c _ _ _ _ _ _ (by decide), e29, sg_gw_c _ _ _ _ _ _ (by decide), e26, sg_gw_c _ _ _ _ _ _ (by decide), e23, sg_gw_c _ _ _ _ _ _ (by decide), e20, sg_gw_c _ _ _ _ _ _ (by decide), e17, sg_gw_e _ _ _ _ hx]
  · rw [e33, sg_gw_c _ _ _ _ _ _ (by decide), e29, sg_gw_c _ _ _ _ _ _ (by decide), e26, sg_gw_c _ _ _ _ _ _ (by decide), e23, sg_gw_c _ _ _ _ _ _ (by decide), e20, sg_gw_e _ _ _ _ ⟨by decide, by decide⟩]
  · rw [e33, sg_gw_c _ _ _ _ _ _ (by decide), e29, sg_gw_c _ _ _ _ _ _ (by decide), e26, sg_gw_c _ _ _ _ _ _ (by decide), e23, sg_gw_e _ _ _ _ (sg_Rg _ _ _)]
  · rw [e33, sg_gw_c _ _ _ _ _ _ (by decide), e29, sg_gw_c _ _ _ _ _ _ (by decide), e26, sg_gw_e _ _ _ _ ⟨by omega, by omega⟩]
  · rw [e33, sg_gw_c _ _ _ _ _ _ (by decide), e29, sg_gw_e _ _ _ _ (sg_Rg _ _ _)]
  · rw [e33, sg_gw_c _ _ _ _ _ _ (by decide), e29, sg_gw_c _ _ _ _ _ _ (by decide), e26, sg_gw_c _ _ _ _ _ _ (by decide), e23, sg_gw_c _ _ _ _ _ _ (by decide), e20, sg_gw_c _ _ _ _ _ _ (by decide), e17, sg_gw_k _ _ _ _ _ _ hi, e13, sg_gw_c _ _ _ _ _ _ (by decide), sg_F_ga f1 rfl]
  · rw [e33, sg_gw_c _ _ _ _ _ _ (by decide), e29, sg_gw_c _ _ _ _ _ _ (by decide), e26, sg_gw_c _ _ _ _ _ _ (by decide), e23, sg_gw_c _ _ _ _ _ _ (by decide), e20, sg_gw_k _ _ _ _ _ _ hi, e17, sg_gw_c _ _ _ _ _ _ (by decide), e13, sg_gw_c _ _ _ _ _ _ (by decide), sg_F_ga f1 rfl]
  · rw [e33, sg_gw_c _ _ _ _ _ _ (by decide), e29, sg_gw_c _ _ _ _ _ _ (by decide), e26, sg_gw_c _ _ _ _ _ _ (by decide), e23, sg_gw_k _ _ _ _ _ _ hi, e20, sg_gw_c _ _ _ _ _ _ (by decide), e17, sg_gw_c _ _ _ _ _ _ (by decide), e13, sg_gw_c _ _ _ _ _ _ (by decide), sg_F_ga f1 rfl]
  · rw [e33, sg_gw_c _ _ _ _ _ _ (by decide), e29, sg_gw_c _ _ _ _ _ _ (by decide), e26, sg_gw_k _ _ _ _ _ _ hi, e23, sg_gw_c _ _ _ _ _ _ (by decide), e20, sg_gw_c _ _ _ _ _ _ (by decide), e17, sg_gw_c _ _ _ _ _ _ (by decide), e13, sg_gw_c _ _ _ _ _ _ (by decide), sg_F_ga f1 rfl]
  · rw [e33, sg_gw_c _ _ _ _ _ _ (by decide), e29, sg_gw_k _ _ _ _ _ _ hi, e26, sg_gw_c _ _ _ _ _ _ (by decide), e23, sg_gw_c _ _ _ _ _ _ (by decide), e20, sg_gw_c _ _ _ _ _ _ (by decide), e17, sg_gw_c _ _ _ _ _ _ (by decide), e13, sg_gw_c _ _ _ _ _ _ (by decide), sg_F_ga f1 rfl]
theorem m_fLeaveX {σ : sg_S} {f b v : Int} {Q : sg_S → Prop} (h62 : sg_g σ 88 62 = f + 1) (f0 : 0 ≤ f ∧ f < 4000) (h128 : sg_g σ 128 f = b) (hb : 0 ≤ b ∧ b < 12000) (hv : sg_R v) (k : ∀ σ', sg_g σ' 88 62 = f → sg_g σ' 88 70 = b + 1 → sg_g σ' 133 b = v → (∀ x, ¬ x = b → sg_g σ' 133 x = sg_g σ 133 x) → sg_F [133, 63088, 71088] σ σ' → Q σ') : V_flatLeave σ v Q := by
  unfold V_flatLeave
  rw [h62, show f + 1 - 1 = f by omega, h128]
  refine ⟨⟨by omega, by omega⟩, fun σ2 e2 => ⟨f0, fun σ6 e6 => ⟨hb, fun σ10 e10 => ⟨⟨by omega, by omega⟩, fun σ14 e14 => k σ14 ?_ ?_ ?_ (fun x hx => ?_) ?_⟩⟩⟩⟩
  · rw [e14, sg_gw_k _ _ _ _ _ _ (by decide), e10, sg_gw_c _ _ _ _ _ _ (by decide), e6, sg_gw_k _ _ _ _ _ _ (by decide), e2, sg_gw_e _ _ _ _ ⟨by omega, by omega⟩]
  · rw [e14, sg_gw_e _ _ _ _ ⟨by omega, by omega⟩]
  · rw [e14, sg_gw_c _ _ _ _ _ _ (by decide), e10, sg_gw_e _ _ _ _ hv]
  · rw [e14, sg_gw_c _ _ _ _ _ _ (by decide), e10, sg_gw_k _ _ _ _ _ _ hx, e6, sg_gw_c _ _ _ _ _ _ (by decide), e2, sg_gw_c _ _ _ _ _ _ (by decide)]
  · rw [e14, e10, e6, e2]; exact sg_F_w (sg_F_w (sg_F_w (sg_F_w (sg_F_r _ _) rfl _) rfl _) rfl _) rfl _
/-- the end of a node's turn -/
def gfE (σ24 : sg_S) (v : Int) (Q : sg_S → Prop) : Prop := ∃ P31 : sg_S → Prop, ((¬ sg_g σ24 88 73 = 0 → P31 σ24) ∧ (sg_g σ24 88 73 = 0 → ((sg_g σ24 88 102 < 0 → P31 σ24) ∧ (0 ≤ sg_g σ24 88 102 → ∀ σ43, σ43 = sg_w σ24 88 73 (sg_g σ24 88 103) → P31 σ43)))) ∧ (∀ (σ32 : sg_S), sg_F [74088] σ24 σ32 → P31 σ32 → ((¬ sg_g σ32 88 73 = 0 → Q σ32) ∧ (sg_g σ32 88 73 = 0 → V_flatLeave σ32 v (fun σ37 => sg_F [133, 63088, 71088] σ32 σ37 → Q σ37))))
section GFE
variable {σ24 : sg_S} {v : Int} {Q : sg_S → Prop}
theorem gfE_a (h : ¬ sg_g σ24 88 73 = 0) (hQ : Q σ24) : gfE σ24 v Q := ⟨fun σ' => σ' = σ24, ⟨fun _ => rfl, fun z => absurd z h⟩, fun σ32 _ e => by subst e; exact ⟨fun _ => hQ, fun z => absurd z h⟩⟩
theorem gfE_b {e : Int} (h : sg_g σ24 88 73 = 0) (h2 : fqX σ24 e) (he : ¬ e = 0) (hQ : ∀ σ43, sg_g σ43 88 73 = e → sg_F [74088] σ24 σ43 → Q σ43) : gfE σ24 v Q := by
  rcases h2 with ⟨q, -⟩ | ⟨q1, q2, q3⟩
  · exact absurd q he
  · refine ⟨fun σ' => σ' = sg_w σ24 88 73 (sg_g σ24 88 103), ⟨fun z => absurd h z, fun _ => ⟨fun z => by omega, fun _ σ43 e43 => e43⟩⟩, fun σ32 f32 e32 => ?_⟩
    have c : sg_g σ32 88 73 = e := by rw [e32, sg_gw_e _ _ _ _ (sg_Rg _ _ _)]; exact q3
    exact ⟨fun _ => hQ σ32 c f32, fun z => absurd (c.symm.trans z) he⟩
theorem gfE_c (h : sg_g σ24 88 73 = 0) (h2 : sg_g σ24 88 102 < 0) (hL : V_flatLeave σ24 v (fun σ37 => sg_F [133, 63088, 71088] σ24 σ37 → Q σ37)) : gfE σ24 v Q := ⟨fun σ' => σ' = σ24, ⟨fun z => absurd h z, fun _ => ⟨fun _ => rfl, fun z => by omega⟩⟩, fun σ32 _ e => by subst e; exact ⟨fun z => absurd h z, fun _ => hL⟩⟩
end GFE
section GFT
variable {σ : sg_S} {A : aT} {D : List aDf} {T B : Int → Int} {f n s b l sv : Int} {Q : sg_S → Prop}
/-- a part is begun -/
theorem gf_part {x : Int} {j : Nat} (hX : pgX σ A D T B) (hn : 0 ≤ n ∧ n < A.1) (hf : sg_g σ 88 62 = f + 1) (f0 : 0 ≤ f ∧ f < 4000) (h : gfT σ f n (j : Int) b l sv) (k15 : ¬ A.2.1 n = 15) (k3 : ¬ A.2.1 n = 3) (k2 : ¬ (A.2.1 n = 2 ∧ j = 1)) (hx : (A.2.2.2.2.1 n)[j]? = some x) (k : ∀ σ13, σ13 = sg_w σ 127 f (j + 1) → ∀ Q' : sg_S → Prop, (∀ σ', Q σ' → Q' σ') → V_flatBegin σ13 x l Q') : V_goFlat σ Q := by
  obtain ⟨h1, h2, h3, h4, h5⟩ := h
  obtain ⟨t1, t2, t3, t4, t5⟩ := tr_k hX.1 hn
  have hA := hX.2.2.2.2.1
  have ef : sg_g σ 88 62 - 1 = f := by omega
  have hj := gE_l hx
  unfold V_goFlat
  rw [ef, h1, h2, h3, h4, t1, t2]
  refine ⟨⟨by omega, by omega⟩, f0, ⟨hn.1, by omega⟩, fun _ => ⟨fun _ => ⟨fun σ9 => σ9 = σ, ⟨fun _ => rfl, fun z => ⟨fun _ => rfl, fun y => absurd ⟨z, by omega⟩ k2⟩⟩, fun σ9 _ e9 => ?_⟩, fun z3 => absurd z3 k3⟩, fun z => absurd z k15⟩
  subst e9
  refine ⟨⟨by omega, by omega⟩, fun σ13 e13 => ⟨fun z => by omega, fun _ => ?_⟩⟩
  rw [t4 j x hx]
  exact ⟨⟨by omega, by omega⟩, ⟨by omega, by omega⟩, ⟨by omega, by omega⟩, k σ13 e13 _ (fun σ' hq _ => hq)⟩
theorem gf_let {x c : Int} (hX : pgX σ A D T B) (hn : 0 ≤ n ∧ n < A.1) (hf : sg_g σ 88 62 = f + 1) (f0 : 0 ≤ f ∧ f < 4000) (h : gfT σ f n 1 b l sv) (k2 : A.2.1 n = 2) (hc : (A.2.2.2.2.1 n)[1]? = some c) (hv : sg_g σ 88 70 = x + 1) (hx : 0 ≤ x ∧ x < 12000) (k : ∀ σ9 σ13, σ9 = sg_w (sg_w σ 88 70 x) 134 n (sg_g σ 133 x) → σ13 = sg_w σ9 127 f 2 → ∀ Q' : sg_S → Prop, (∀ σ', Q σ' → Q' σ') → V_flatBegin σ13 c l Q') : V_goFlat σ Q := by
  obtain ⟨h1, h2, h3, h4, h5⟩ := h
  obtain ⟨t1, t2, t3, t4, t5⟩ := tr_k hX.1 hn
  have hA := hX.2.2.2.2.1
  have ef : sg_g σ 88 62 - 1 = f := by omega
  have ex : sg_g σ 88 70 - 1 = x := by omega
  have hj := gE_l hc
  unfold V_goFlat
  rw [ef, h1, h2, h3, h4, t1, t2, ex]
  refine ⟨⟨by omega, by omega⟩, f0, ⟨hn.1, by omega⟩, fun _ => ⟨fun _ => ⟨fun σ9 => σ9 = sg_w (sg_w σ 88 70 x) 134 n (sg_g σ 133 x), ⟨fun z => absurd k2 z, fun _ => ⟨fun y => absurd rfl y, fun _ => ⟨⟨by omega, by omega⟩, fun σ75 e75 => ⟨hx, fun σ79 e79 => by rw [e79, e75]⟩⟩⟩⟩, fun σ9 _ e9 => ?_⟩, fun z3 => by omega⟩, fun z => by omega⟩
  refine ⟨⟨by omega, by omega⟩, fun σ13 e13 => ⟨fun z => by omega, fun _ => ?_⟩⟩
  have tc := t4 1 c hc
  rw [show (200 : Int) * n + ((1 : Nat) : Int) = 200 * n + 1 by omega] at tc
  rw [tc]
  exact ⟨⟨by omega, by omega⟩, ⟨by omega, by omega⟩, ⟨by omega, by omega⟩, k σ9 σ13 e9 e13 _ (fun σ' hq _ => hq)⟩
/-- a node behind its parts -/
theorem gf_op (hX : pgX σ A D T B) (hn : 0 ≤ n ∧ n < A.1) (hf : sg_g σ 88 62 = f + 1) (f0 : 0 ≤ f ∧ f < 4000) (h : gfT σ f n s b l sv) (hk : ¬ A.2.1 n = 1 ∧ ¬ A.2.1 n = 2 ∧ ¬ A.2.1 n = 3 ∧ ¬ A.2.1 n = 13 ∧ ¬ A.2.1 n = 15) (hs : s = (A.2.2.2.2.1 n).length) (k : ∀ σ18, σ18 = sg_w (sg_w σ 127 f (s + 1)) 88 102 (-1) → ∀ P : Int → sg_S → Prop, (∀ q σ', sg_R q → sg_F wkL σ18 σ' → gfE σ' q Q → P q σ') → V_flatWorked σ18 n b l (fun q σ' => sg_R q → sg_F wkL σ18 σ' → P q σ')) : V_goFlat σ Q := by
  obtain ⟨h1, h2, h3, h4, h5⟩ := h
  obtain ⟨t1, t2, t3, t4, t5⟩ := tr_k hX.1 hn
  have hA := hX.2.2.2.2.1
  obtain ⟨k1, k2, k3, k13, k15⟩ := hk
  have ef : sg_g σ 88 62 - 1 = f := by omega
  unfold V_goFlat
  rw [ef, h1, h2, h3, h4, t1, t2]
  refine ⟨⟨by omega, by omega⟩, f0, ⟨hn.1, by omega⟩, fun _ => ⟨fun _ => ⟨fun σ9 => σ9 = σ, ⟨fun _ => rfl, fun z => absurd z k2⟩, fun σ9 _ e9 => ?_⟩, fun z3 => absurd z3 k3⟩, fun z => absurd z k15⟩
  subst e9
  refine ⟨⟨by omega, by omega⟩, fun σ13 e13 => ⟨fun _ => ⟨fun _ σ18 e18 => ?_, fun z => absurd z k13⟩, fun z => by omega⟩⟩
  exact ⟨fun q σ' => gfE σ' q Q, ⟨fun _ => ⟨fun z => absurd z k2, fun _ => ⟨fun _ => k σ18 (by rw [e18, e13]) _ (fun q σ' _ _ g => g), fun z => absurd z k13⟩⟩, fun z => absurd z k1⟩, fun v26 σ24 _ _ g => g⟩
/-- a variable -/
theorem gf_var (hX : pgX σ A D T B) (hn : 0 ≤ n ∧ n < A.1) (hf : sg_g σ 88 62 = f + 1) (f0 : 0 ≤ f ∧ f < 4000) (h : gfT σ f n 0 b l sv) (k1 : A.2.1 n = 1) (hl : (A.2.2.2.2.1 n).length = 0) (hB : 0 ≤ B n ∧ B n < 1200) (k : ∀ σ18, σ18 = sg_w (sg_w σ 127 f 1) 88 102 (-1) → gfE σ18 (sg_g σ 134 (B n)) Q) : V_goFlat σ Q := by
  obtain ⟨h1, h2, h3, h4, h5⟩ := h
  obtain ⟨t1, t2, t3, t4, t5⟩ := tr_k hX.1 hn
  have hA := hX.2.2.2.2.1
  have ef : sg_g σ 88 62 - 1 = f := by omega
  have eB : sg_g σ 102 n = B n := by rw [hX.2.2.2.1]
  unfold V_goFlat
  rw [ef, h1, h2, h3, h4, t1, t2, eB, hl]
  refine ⟨⟨by omega, by omega⟩, f0, ⟨hn.1, by omega⟩, fun _ => ⟨fun _ => ⟨fun σ9 => σ9 = σ, ⟨fun _ => rfl, fun z => by omega⟩, fun σ9 _ e9 => ?_⟩, fun z3 => by omega⟩, fun z => by omega⟩
  subst e9
  refine ⟨⟨by omega, by omega⟩, fun σ13 e13 => ⟨fun _ => ⟨fun _ σ18 e18 => ?_, fun z => by omega⟩, fun z => by omega⟩⟩
  exact ⟨fun q σ' => gfE σ' q Q, ⟨fun z => absurd k1 z, fun _ => ⟨hB, k σ18 (by rw [e18, e13]; rfl)⟩⟩, fun v26 σ24 _ _ g => g⟩
/-- let, call: the value that is there -/
theorem gf_val (hX : pgX σ A D T B) (hn : 0 ≤ n ∧ n < A.1) (hf : sg_g σ 88 62 = f + 1) (f0 : 0 ≤ f ∧ f < 4000) (h : gfT σ f n s b l sv) (hk : (A.2.1 n = 2 ∧ s = (A.2.2.2.2.1 n).length ∧ ¬ s = 1) ∨ (A.2.1 n = 13 ∧ s = (A.2.2.2.2.1 n).length + 1)) (hb : 0 ≤ b ∧ b < 12000) (k : ∀ σ18, σ18 = sg_w (sg_w σ 127 f (s + 1)) 88 102 (-1) → gfE σ18 (sg_g σ 133 b) Q) : V_goFlat σ Q := by
  obtain ⟨h1, h2, h3, h4, h5⟩ := h
  obtain ⟨t1, t2, t3, t4, t5⟩ := tr_k hX.1 hn
  have hA := hX.2.2.2.2.1
  have ef : sg_g σ 88 62 - 1 = f := by omega
  unfold V_goFlat
  rw [ef, h1, h2, h3, h4, t1, t2]
  refine ⟨⟨by omega, by omega⟩, f0, ⟨hn.1, by omega⟩, fun _ => ⟨fun _ => ⟨fun σ9 => σ9 = σ, ⟨fun _ => rfl, fun z => ⟨fun _ => rfl, fun y => by omega⟩⟩, fun σ9 _ e9 => ?_⟩, fun z3 => by omega⟩, fun z => by omega⟩
  subst e9
  refine ⟨⟨by omega, by omega⟩, fun σ13 e13 => ⟨fun _ => ⟨fun c13 σ18 e18 => ?_, fun c13 => ⟨fun _ σ18 e18 => ?_, fun z => by omega⟩⟩, fun z => by omega⟩⟩
  · have e := k σ18 (by rw [e18, e13])
    exact ⟨fun q σ' => gfE σ' q Q, ⟨fun _ => ⟨fun _ => ⟨hb, e⟩, fun z => by omega⟩, fun z => by omega⟩, fun v26 σ24 _ _ g => g⟩
  · have e := k σ18 (by rw [e18, e13])
    exact ⟨fun q σ' => gfE σ' q Q, ⟨fun _ => ⟨fun z => by omega, fun _ => ⟨fun z => absurd c13 z, fun _ => ⟨hb, e⟩⟩⟩, fun z => by omega⟩, fun v26 σ24 _ _ g => g⟩
theorem gf_call {q : Int} (hX : pgX σ A D T B) (hn : 0 ≤ n ∧ n < A.1) (hf : sg_g σ 88 62 = f + 1) (f0 : 0 ≤ f ∧ f < 4000) (h : gfT σ f n s b l sv) (k13 : A.2.1 n = 13) (hs : s = (A.2.2.2.2.1 n).length) (hl : (A.2.2.2.2.1 n).length ≤ 6) (hq : B n = q) (q0 : 0 ≤ q ∧ q < 12) (hb : 0 ≤ b ∧ b + (A.2.2.2.2.1 n).length ≤ 12000) (k : ∀ σ46, sg_F [127, 134, 71088] σ σ46 → (∀ j : Nat, j < (A.2.2.2.2.1 n).length → sg_g σ46 134 (1100 + 6 * q + j) = sg_g σ 133 (b + j)) → (∀ x, ¬ (1100 + 6 * q ≤ x ∧ x < 1100 + 6 * q + (A.2.2.2.2.1 n).length) → sg_g σ46 134 x = sg_g σ 134 x) → sg_g σ46 127 f = s + 1 → (∀ i, ¬ i = f → sg_g σ46 127 i = sg_g σ 127 i) → sg_g σ46 88 70 = b → ∀ Q' : sg_S → Prop, (∀ σ', Q σ' → Q' σ') → V_flatBegin σ46 (sg_g σ 105 q) l Q') : V_goFlat σ Q := by
  obtain ⟨h1, h2, h3, h4, h5⟩ := h
  obtain ⟨t1, t2, t3, t4, t5⟩ := tr_k hX.1 hn
  have hA := hX.2.2.2.2.1
  have ef : sg_g σ 88 62 - 1 = f := by omega
  have eB : sg_g σ 102 n = q := by rw [hX.2.2.2.1]; exact hq
  unfold V_goFlat
  rw [ef, h1, h2, h3, h4, t1, t2, eB]
  refine ⟨⟨by omega, by omega⟩, f0, ⟨hn.1, by omega⟩, fun _ => ⟨fun _ => ⟨fun σ9 => σ9 = σ, ⟨fun _ => rfl, fun z => by omega⟩, fun σ9 _ e9 => ?_⟩, fun z3 => by omega⟩, fun z => by omega⟩
  subst e9
  refine ⟨⟨by omega, by omega⟩, fun σ13 e13 => ⟨fun _ => ⟨fun c => absurd k13 c, fun _ => ⟨fun z => absurd hs z, fun _ => ?_⟩⟩, fun z => by omega⟩⟩
  have f13 : sg_F [127] σ9 σ13 := by rw [e13]; exact sg_F_w (sg_F_r _ _) rfl _
  refine ⟨fun m v27 σ28 => ∃ j : Nat, v27 = j ∧ m = (A.2.2.2.2.1 n).length - j ∧ j ≤ (A.2.2.2.2.1 n).length ∧ (∀ j' : Nat, j' < j → sg_g σ28 134 (1100 + 6 * q + j') = sg_g σ9 133 (b + j')) ∧ ∀ x, ¬ (1100 + 6 * q ≤ x ∧ x < 1100 + 6 * q + j) → sg_g σ28 134 x = sg_g σ9 134 x, fun σ28 => (∀ j' : Nat, j' < (A.2.2.2.2.1 n).length → sg_g σ28 134 (1100 + 6 * q + j') = sg_g σ9 133 (b + j')) ∧ ∀ x, ¬ (1100 + 6 * q ≤ x ∧ x < 1100 + 6 * q + (A.2.2.2.2.1 n).length) → sg_g σ28 134 x = sg_g σ9 134 x, ⟨_, 0, rfl, rfl, Nat.zero_le _, fun j' hj => by omega, fun x _ => sg_F_ga f13 rfl⟩, ?_, ?_⟩
  · rintro m v27 σ28 r27 f28 ⟨j, rfl, em, hj, a1, a2⟩
    have ep : v_ofParam q (j : Int) = 1100 + 6 * q + j := rfl
    refine ⟨fun z => ⟨fun j' hj' => a1 j' (by omega), fun x hx => a2 x (by omega)⟩, fun z => ⟨⟨⟨by omega, by omega⟩, ⟨by omega, by omega⟩, ⟨by omega, by omega⟩, trivial⟩, ⟨by omega, by omega⟩, ⟨by omega, by omega⟩, by rw [ep]; exact ⟨by omega, by omega⟩, fun σ62 e62 => ⟨⟨by omega, by omega⟩, (A.2.2.2.2.1 n).length - (j + 1), by omega, j + 1, by omega, rfl, by omega, fun j' hj' => ?_, fun x hx => ?_⟩⟩⟩
    · rw [ep] at e62
      by_cases c : j' = j
      · subst c; rw [e62, sg_gw_e _ _ _ _ (sg_Rg _ _ _)]
      · rw [e62, sg_gw_k _ _ _ _ _ _ (by omega)]; exact a1 j' (by omega)
    · rw [ep] at e62
      rw [e62, sg_gw_k _ _ _ _ _ _ (by omega)]; exact a2 x (by omega)
  · rintro σ28 f28 ⟨a1, a2⟩ σ46 e46
    refine ⟨q0, k σ46 ?_ (fun j hj => ?_) (fun x hx => ?_) ?_ (fun i hi => ?_) ?_ _ (fun σ' hq _ => hq)⟩
    · rw [e46]; exact sg_F_w (sg_F_t (sg_F_m f13 rfl) (sg_F_m f28 rfl)) rfl _
    · rw [e46, sg_gw_c _ _ _ _ _ _ (by decide)]; exact a1 j hj
    · rw [e46, sg_gw_c _ _ _ _ _ _ (by decide)]; exact a2 x hx
    · rw [e46, sg_gw_c _ _ _ _ _ _ (by decide), sg_F_ga f28 rfl, e13, sg_gw_e _ _ _ _ ⟨by omega, by omega⟩]
    · rw [e46, sg_gw_c _ _ _ _ _ _ (by decide), sg_F_ga f28 rfl, e13, sg_gw_k _ _ _ _ _ _ hi]
    · rw [e46, sg_gw_e _ _ _ _ ⟨by omega, by omega⟩]
theorem gf_if (hX : pgX σ A D T B) (hn : 0 ≤ n ∧ n < A.1) (hf : sg_g σ 88 62 = f + 1) (f0 : 0 ≤ f ∧ f < 4000) (h1 : sg_g σ 126 f = n) (k3 : A.2.1 n = 3) (k : ∀ Q' : sg_S → Prop, (∀ σ', Q σ' → Q' σ') → V_flatIf σ f Q') : V_goFlat σ Q := by
  obtain ⟨t1, t2, t3, t4, t5⟩ := tr_k hX.1 hn
  have hA := hX.2.2.2.2.1
  have ef : sg_g σ 88 62 - 1 = f := by omega
  unfold V_goFlat
  rw [ef, h1, t1]
  exact ⟨⟨by omega, by omega⟩, f0, ⟨hn.1, by omega⟩, fun _ => ⟨fun z => absurd k3 z, fun _ => k _ (fun σ' hq _ => hq)⟩, fun z => by omega⟩
theorem gf_each (hX : pgX σ A D T B) (hn : 0 ≤ n ∧ n < A.1) (hf : sg_g σ 88 62 = f + 1) (f0 : 0 ≤ f ∧ f < 4000) (h1 : sg_g σ 126 f = n) (k15 : A.2.1 n = 15) (k : ∀ Q' : sg_S → Prop, (∀ σ', Q σ' → Q' σ') → V_flatEach σ f Q') : V_goFlat σ Q := by
  obtain ⟨t1, t2, t3, t4, t5⟩ := tr_k hX.1 hn
  have hA := hX.2.2.2.2.1
  have ef : sg_g σ 88 62 - 1 = f := by omega
  unfold V_goFlat
  rw [ef, h1, t1]
  exact ⟨⟨by omega, by omega⟩, f0, ⟨hn.1, by omega⟩, fun z => absurd k15 z, fun _ => k _ (fun σ' hq _ => hq)⟩
end GFT
