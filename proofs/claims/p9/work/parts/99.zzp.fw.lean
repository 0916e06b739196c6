/-! outsider, gatherOutside. -/
/-- names from outside: O, each once -/
def oR (σ : sg_S) (O : List Int) : Prop := sg_g σ 88 46 = O.length ∧ (∀ (i : Nat) (x : Int), O[i]? = some x → sg_g σ 119 i = x) ∧ O.Nodup ∧ ∀ x ∈ O, 0 ≤ x ∧ x < 1200
section FW
variable {A : aT} {σ : sg_S}
theorem m_outsider {b : Int} {O : List Int} {Q : sg_S → Prop} (h : oR σ O) (hl : O.length ≤ 250) (hb : 0 ≤ b ∧ b < 1200) (k : ∀ σ' O', oR σ' O' → (∀ z, z ∈ O' ↔ z = b ∨ z ∈ O) → O'.length ≤ O.length + 1 → Q σ') : V_outsider σ b Q := by
  obtain ⟨h1, h2, h3, h4⟩ := h
  unfold V_outsider
  rw [h1]
  refine ⟨fun n v => n = (O.length - v).toNat ∧ (0 ≤ v ∧ v ≤ O.length) ∧ ∀ (i : Nat) (x : Int), O[i]? = some x → (i : Int) < v → ¬ x = b, b ∉ O, ⟨_, rfl, ⟨by omega, by omega⟩, fun i x _ z => by omega⟩, ?_, fun nb => ?_⟩
  · rintro n v rv ⟨en, hv, hn⟩
    refine ⟨fun z w => ?_, fun z => ⟨⟨by omega, by omega⟩, fun c => ⟨⟨by omega, by omega⟩, _, by omega, rfl, ⟨by omega, by omega⟩, fun i x hx hi => ?_⟩, fun c => k σ O ⟨h1, h2, h3, h4⟩ (fun z => ⟨fun w => Or.inr w, fun w => ?_⟩) (by omega)⟩⟩
    · obtain ⟨i, hi⟩ := List.mem_iff_getElem?.mp w
      exact hn i b hi (by have := lt_of_get hi; omega) rfl
    · by_cases e : (i : Int) = v
      · intro e2
        have := h2 i x hx
        rw [e] at this
        exact c (by rw [this]; exact e2)
      · exact hn i x hx (by omega)
    · rcases w with w | w
      · rw [w]
        obtain ⟨x, hx⟩ : ∃ q, O[v.toNat]? = some q := ⟨_, List.getElem?_eq_getElem (by omega)⟩
        have := h2 v.toNat x hx
        rw [show ((v.toNat : Nat) : Int) = v by omega, c] at this
        rw [this]
        exact List.mem_of_getElem? hx
      · exact w
  · have ox : ∀ i : Nat, i < O.length → ∃ x, O[i]? = some x ∧ sg_g σ 119 i = x ∧ 0 ≤ x ∧ x < 1200 := fun i hi => by
      obtain ⟨x, hx⟩ : ∃ q, O[i]? = some q := ⟨_, List.getElem?_eq_getElem hi⟩
      exact ⟨x, hx, h2 i x hx, h4 x (List.mem_of_getElem? hx)⟩
    let J : Int → sg_S → Prop := fun at_ σ' => (0 ≤ at_ ∧ at_ ≤ O.length) ∧ (∀ (i : Nat) (x : Int), O[i]? = some x → (i : Int) < at_ → sg_g σ' 119 i = x) ∧ ∀ (i : Nat) (x : Int), O[i]? = some x → at_ ≤ (i : Int) → sg_g σ' 119 (i + 1) = x
    have shift : ∀ (at_ : Int) (σ1 σ2 : sg_S), J at_ σ1 → 0 < at_ → σ2 = sg_w σ1 119 at_ (sg_g σ1 119 (at_ - 1)) → J (at_ + -1) σ2 := fun at_ σ1 σ2 hJ h0 e => by
      obtain ⟨j1, j2, j3⟩ := hJ
      refine ⟨⟨by omega, by omega⟩, fun i x hx hi => ?_, fun i x hx hi => ?_⟩
      · rw [e, sg_gw_k _ _ _ _ _ _ (by omega)]; exact j2 i x hx (by omega)
      · by_cases c : (i : Int) + 1 = at_
        · rw [c, e, sg_gw_e _ _ _ _ (sg_Rg _ _ _), show at_ - 1 = (i : Int) by omega]
          exact j2 i x hx (by omega)
        · rw [e, sg_gw_k _ _ _ _ _ _ c]; exact j3 i x hx (by omega)
    have J0 : J O.length σ := ⟨⟨by omega, by omega⟩, fun i x hx _ => h2 i x hx, fun i x hx hi => by have := lt_of_get hx; omega⟩
    refine ⟨fun at_ σ' => J at_ σ', ⟨fun _ => J0, fun z => ?_⟩, fun at_ σ5 ra f5 hJ => ?_⟩
    · obtain ⟨x, x1, x2, x3⟩ := ox (O.length - 1) (by omega)
      have lt : sg_g σ 119 ((O.length : Int) - 1) = x := by rw [← x2]; congr 1; omega
      refine ⟨⟨by omega, by omega⟩, ⟨by omega, by omega⟩, by rw [lt]; exact x3, hb, fun _ => J0, fun _ => ⟨⟨by omega, by omega⟩, fun σ6 e6 => ⟨⟨by omega, by omega⟩, fun n at_ σ7 => n = at_.toNat ∧ J at_ σ7, ⟨_, rfl, shift _ _ _ J0 z e6⟩, ?_⟩⟩⟩
      rintro n at_ σ7 ra f7 ⟨en, hJ⟩
      refine ⟨fun _ => hJ, fun c => ?_⟩
      have hJ1 := hJ.1
      obtain ⟨y, y1, y2, y3⟩ := ox (at_ - 1).toNat (by omega)
      have ly : sg_g σ7 119 (at_ - 1) = y := by
        have := hJ.2.1 _ y y1 (by omega)
        rwa [show (((at_ - 1).toNat : Nat) : Int) = at_ - 1 by omega] at this
      exact ⟨⟨by omega, by omega⟩, ⟨by omega, by omega⟩, by rw [ly]; exact y3, fun _ => hJ, fun _ => ⟨⟨by omega, by omega⟩, fun σ8 e8 => ⟨⟨by omega, by omega⟩, _, by omega, rfl, shift _ _ _ hJ c e8⟩⟩⟩
    · obtain ⟨j1, j2, j3⟩ := hJ
      refine ⟨⟨by omega, by omega⟩, fun σ6 e6 => ⟨⟨by omega, by omega⟩, fun σ7 e7 => ?_⟩⟩
      have pm : (O.take at_.toNat ++ b :: O.drop at_.toNat).Perm (b :: O) := by
        have := List.perm_middle (l₁ := O.take at_.toNat) (a := b) (l₂ := O.drop at_.toNat)
        rwa [List.take_append_drop] at this
      have lt : (O.take at_.toNat).length = at_.toNat := by rw [List.length_take]; omega
      refine k σ7 (O.take at_.toNat ++ b :: O.drop at_.toNat) ⟨?_, fun i x hx => ?_, ?_, fun x hx => ?_⟩ (fun z => ?_) ?_
      · rw [pm.length_eq, e7, sg_gw_e _ _ _ _ ⟨by omega, by omega⟩]; simp
      · have c7 : sg_g σ7 119 i = sg_g σ6 119 i := by rw [e7, sg_gw_c _ _ _ _ _ _ (by decide)]
        rw [c7]
        by_cases c : i < at_.toNat
        · rw [List.getElem?_append_left (by omega), List.getElem?_take_of_lt c] at hx
          rw [e6, sg_gw_k _ _ _ _ _ _ (by omega)]
          exact j2 i x hx (by omega)
        · rw [List.getElem?_append_right (by omega), lt] at hx
          by_cases c2 : i = at_.toNat
          · rw [show i - at_.toNat = 0 by omega] at hx
            cases hx
            rw [e6, show (i : Int) = at_ by omega, sg_gw_e _ _ _ _ ⟨by omega, by omega⟩]
          · rw [show i - at_.toNat = (i - at_.toNat - 1) + 1 by omega, List.getElem?_cons_succ, List.getElem?_drop, show at_.toNat + (i - at_.toNat - 1) = i - 1 by omega] at hx
            have := j3 (i - 1) x hx (by omega)
            rw [e6, sg_gw_k _ _ _ _ _ _ (by omega)]
            rwa [show (((i - 1 : Nat) : Int) + 1) = (i : Int) by omega] at this
      · exact pm.nodup_iff.mpr (List.nodup_cons.mpr ⟨nb, h3⟩)
      · have := pm.mem_iff.mp hx
        rcases List.mem_cons.mp this with e | e
        · rw [e]; exact hb
        · exact h4 x e
      · rw [pm.mem_iff, List.mem_cons]
      · rw [pm.length_eq]; simp
/-- a name bound by the node but -/
def isG (but b : Int) : Prop := 0 ≤ but ∧ 210 ≤ b ∧ b < 1100 ∧ (b - 210) / 4 = but
def gO (A : aT) (L : List Int) (B : Int → Int) (but v : Int) (σ : sg_S) : Prop := ∃ O, oR σ O ∧ (O.length : Int) ≤ v ∧ ∀ z, z ∈ O ↔ ∃ y, (0 ≤ y ∧ y < v) ∧ y ∈ L ∧ A.2.1 y = 1 ∧ B y = z ∧ ¬ insL L z ∧ ¬ isG but z
theorem m_gatherO {but : Int} {L : List Int} {B : Int → Int} {Q : sg_S → Prop} (hP : trT σ A) (eB : ∀ n, sg_g σ 102 n = B n) (hA : A.1 ≤ 200) (h0 : sg_g σ 88 46 = 0) (hi : iM σ A L) (hL : ∀ y ∈ L, A.2.1 y = 1 → rb A (B y)) (k : ∀ σ' O, oR σ' O → (∀ z, z ∈ O ↔ ∃ y, (0 ≤ y ∧ y < A.1) ∧ y ∈ L ∧ A.2.1 y = 1 ∧ B y = z ∧ ¬ insL L z ∧ ¬ isG but z) → O.length ≤ 200 → sg_F [119, 47088] σ σ' → Q σ') : V_gatherOutside σ but Q := by
  have h8 : sg_g σ 88 8 = A.1 := hP.1.1
  unfold V_gatherOutside
  rw [h8]
  have a0 : 0 ≤ A.1 := hP.1.2.1
  refine ⟨fun n v σ2 => n = (A.1 - v).toNat ∧ (0 ≤ v ∧ v ≤ A.1) ∧ gO A L B but v σ2, fun σ2 => gO A L B but A.1 σ2, ⟨_, rfl, ⟨by omega, by omega⟩, [], ⟨h0, fun i x h => (by cases h), List.nodup_nil, fun x h => (by cases h)⟩, by simp, fun z => ⟨fun w => (by cases w), fun ⟨y, hy, _⟩ => by omega⟩⟩, ?_, fun σ2 f2 ⟨O, o1, o2, o3⟩ => k σ2 O o1 o3 (by omega) f2⟩
  rintro n v σ2 rv f2 ⟨en, hv, O, o1, o2, o3⟩
  refine ⟨fun z => ⟨O, o1, by omega, by rw [show A.1 = v by omega]; exact o3⟩, fun z => ?_⟩
  obtain ⟨t1, -⟩ := tr_k hP (n := v) ⟨hv.1, z⟩
  rw [t1, eB]
  have hM := hi v hv.1 z
  have same : (¬ (v ∈ L ∧ A.2.1 v = 1 ∧ ¬ insL L (B v) ∧ ¬ isG but (B v))) → gO A L B but (v + 1) σ2 := fun hn => by
    refine ⟨O, o1, by omega, fun z => ⟨fun w => ?_, fun ⟨y, y1, y2, y3, y4, y5, y6⟩ => ?_⟩⟩
    · obtain ⟨y, y1, y2⟩ := (o3 z).mp w
      exact ⟨y, ⟨y1.1, by omega⟩, y2⟩
    · refine (o3 z).mpr ⟨y, ⟨y1.1, ?_⟩, y2, y3, y4, y5, y6⟩
      by_cases c : y = v
      · subst c
        exact absurd ⟨y2, y3, by rw [y4]; exact y5, by rw [y4]; exact y6⟩ hn
      · omega
  refine ⟨⟨by omega, by omega⟩, fun σ3 => gO A L B but (v + 1) σ3, ⟨fun c => same (fun h => by rw [hM.1 h.1] at c; omega), fun c => ⟨fun c2 => same (fun h => c2 h.2.1), fun c2 => ?_⟩⟩, fun σ3 f3 h3 => ⟨⟨by omega, by omega⟩, _, by omega, rfl, ⟨by omega, by omega⟩, h3⟩⟩
  have vL : v ∈ L := Decidable.byContradiction (fun w => c (hM.2 w))
  obtain ⟨b1, b2, b3⟩ := hL v vL c2
  obtain ⟨b, hb⟩ : ∃ b, b = B v := ⟨_, rfl⟩
  rw [← hb] at b1 b2 b3 ⊢
  have cell : ∀ j, sg_g σ2 120 j = sg_g σ 120 j := fun j => sg_F_ga f2 rfl
  have go : ∀ q27 : Int, (q27 = 0 ↔ ¬ insL L b) → ((¬ q27 = 0 → gO A L B but (v + 1) σ2) ∧ (q27 = 0 → ((but < 0 → True) ∧ (0 ≤ but → ((b < 210 → True) ∧ (210 ≤ b → ((1100 ≤ b → True) ∧ (b < 1100 → sg_R (b - 210) ∧ ((¬ (sg_i (b - 210) / sg_i 4).toInt = but → True) ∧ ((sg_i (b - 210) / sg_i 4).toInt = but → True)))))))) ∧ ∀ v36 : Int, v36 = (if but < 0 then (0 : Int) else (if b < 210 then (0 : Int) else (if 1100 ≤ b then (0 : Int) else (if ¬ (sg_i (b - 210) / sg_i 4).toInt = but then (0 : Int) else (1 : Int))))) → sg_R v36 → ((¬ v36 = 0 → gO A L B but (v + 1) σ2) ∧ (v36 = 0 → V_outsider σ2 b (fun σ41 => sg_F [119, 47088] σ2 σ41 → gO A L B but (v + 1) σ41))))) := fun q27 hq => by
    refine ⟨fun w => same (fun h => w (hq.mpr (by rw [hb]; exact h.2.2.1))), fun w => ⟨⟨fun _ => trivial, fun _ => ⟨fun _ => trivial, fun _ => ⟨fun _ => trivial, fun _ => ⟨⟨by omega, by omega⟩, fun _ => trivial, fun _ => trivial⟩⟩⟩⟩, fun v36 e36 r36 => ?_⟩⟩
    have nI := hq.mp w
    have g36 : v36 = 0 ↔ ¬ isG but b := by
      rw [e36]
      unfold isG
      by_cases d1 : but < 0
      · rw [if_pos d1]; exact ⟨fun _ h => by omega, fun _ => rfl⟩
      · rw [if_neg d1]
        by_cases d2 : b < 210
        · rw [if_pos d2]; exact ⟨fun _ h => by omega, fun _ => rfl⟩
        · rw [if_neg d2]
          by_cases d3 : 1100 ≤ b
          · rw [if_pos d3]; exact ⟨fun _ h => by omega, fun _ => rfl⟩
          · rw [if_neg d3, dvi ⟨by omega, by omega⟩]
            by_cases d4 : (b - 210) / 4 = but
            · rw [if_neg (fun h => h d4)]; exact ⟨fun h => by omega, fun h => absurd ⟨by omega, by omega, by omega, d4⟩ h⟩
            · rw [if_pos d4]; exact ⟨fun _ h => d4 h.2.2.2, fun _ => rfl⟩
    refine ⟨fun c3 => same (fun h => c3 (g36.mpr (by rw [hb]; exact h.2.2.2))), fun c3 => m_outsider o1 (by omega) b1 (fun σ4 O' p1 p2 p3 _ => ⟨O', p1, by omega, fun z => ⟨fun hz => ?_, fun ⟨y, y1, y2, y3, y4, y5, y6⟩ => ?_⟩⟩)⟩
    · rcases (p2 z).mp hz with e | e
      · exact ⟨v, ⟨hv.1, by omega⟩, vL, c2, by rw [← hb]; exact e.symm, by rw [e]; exact nI, by rw [e]; exact g36.mp c3⟩
      · obtain ⟨y, y1, y2⟩ := (o3 z).mp e
        exact ⟨y, ⟨y1.1, by omega⟩, y2⟩
    · refine (p2 z).mpr ?_
      by_cases c4 : y = v
      · subst c4
        exact Or.inl (by rw [← y4, hb])
      · exact Or.inr ((o3 z).mpr ⟨y, ⟨y1.1, by omega⟩, y2, y3, y4, y5, y6⟩)
  unfold V_isBoundInside
  refine ⟨fun d1 => ⟨fun d2 _ => go 0 ⟨fun _ h => ?_, fun _ => rfl⟩, fun d2 => ?_⟩, fun d1 => ?_⟩
  · rcases h with h | h <;> omega
  · rw [dvi ⟨by omega, by omega⟩, cell]
    have e := hi ((b - 210) / 4) (by omega) (b3 d1 d2)
    have iff0 : insL L b ↔ (b - 210) / 4 ∈ L := ⟨fun h => by rcases h with h | h; omega; exact h.2.2, fun h => Or.inr ⟨d1, d2, h⟩⟩
    have q0 : insL L b → sg_g σ 120 ((b - 210) / 4) = 0 → False := fun h c3 => by rw [e.1 (iff0.mp h)] at c3; omega
    have q1 : ¬ insL L b → sg_g σ 120 ((b - 210) / 4) = 0 := fun h => e.2 (fun w => h (iff0.mpr w))
    refine ⟨⟨by omega, by omega⟩, ⟨by omega, by omega⟩, fun c3 _ => ?_, fun c3 _ => ?_⟩
    · have g := go 0 ⟨fun _ h => q0 h c3, fun _ => rfl⟩
      rw [dvi ⟨by omega, by omega⟩] at g
      exact g
    · have g := go 1 ⟨fun h => absurd h (by decide), fun h => absurd (q1 h) c3⟩
      rw [dvi ⟨by omega, by omega⟩] at g
      exact g
  · rw [cell]
    have e := hi b b1.1 (b2 d1)
    have iff0 : insL L b ↔ b ∈ L := ⟨fun h => by rcases h with h | h; exact h.2; omega, fun h => Or.inl ⟨d1, h⟩⟩
    by_cases c3 : b ∈ L
    · rw [e.1 c3]
      exact ⟨⟨by omega, by omega⟩, Or.inr rfl, fun _ => go 1 ⟨fun h => by omega, fun h => absurd (iff0.mpr c3) h⟩⟩
    · rw [e.2 c3]
      exact ⟨⟨by omega, by omega⟩, Or.inl rfl, fun _ => go 0 ⟨fun _ h => c3 (iff0.mp h), fun _ => rfl⟩⟩
end FW
