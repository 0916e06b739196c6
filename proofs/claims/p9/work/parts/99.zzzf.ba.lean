/-! which variables are carried along: outsider, gatherOutside of the reference, exactly. -/
/-- where a new one is put in: behind all that came before it -/
def poO (c : Int → Int) (b : Int) (O : List Int) : Nat → Nat
  | 0 => 0
  | n + 1 => if c b < c (O.getD n 0) then poO c b O n else n + 1
def insO (c : Int → Int) (b : Int) (O : List Int) : List Int := if b ∈ O then O else O.take (poO c b O O.length) ++ b :: O.drop (poO c b O O.length)
noncomputable def gaO (A : aT) (B c : Int → Int) (L : List Int) (but : Int) : Nat → List Int
  | 0 => []
  | v + 1 => @ite _ ((v : Int) ∈ L ∧ A.2.1 v = 1 ∧ ¬ insL L (B v) ∧ ¬ isG but (B v)) (Classical.propDecidable _) (insO c (B v) (gaO A B c L but v)) (gaO A B c L but v)
theorem poO_l (c : Int → Int) (b : Int) (O : List Int) : ∀ n : Nat, poO c b O n ≤ n
  | 0 => Nat.le_refl _
  | n + 1 => by
    simp only [poO]
    have := poO_l c b O n
    split <;> omega
theorem insO_m {c : Int → Int} {b : Int} {O : List Int} : ∀ z, z ∈ insO c b O ↔ z = b ∨ z ∈ O := by
  intro z
  unfold insO
  by_cases h : b ∈ O
  · rw [if_pos h]
    exact ⟨fun w => Or.inr w, fun w => w.elim (fun e => by rw [e]; exact h) id⟩
  · rw [if_neg h]
    have pm := List.perm_middle (l₁ := O.take (poO c b O O.length)) (a := b) (l₂ := O.drop (poO c b O O.length))
    rw [List.take_append_drop] at pm
    rw [pm.mem_iff, List.mem_cons]
theorem insO_n {c : Int → Int} {b : Int} {O : List Int} (h : O.Nodup) : (insO c b O).Nodup := by
  unfold insO
  by_cases hb : b ∈ O
  · rw [if_pos hb]; exact h
  · rw [if_neg hb]
    have pm := List.perm_middle (l₁ := O.take (poO c b O O.length)) (a := b) (l₂ := O.drop (poO c b O O.length))
    rw [List.take_append_drop] at pm
    exact pm.nodup_iff.mpr (List.nodup_cons.mpr ⟨hb, h⟩)
theorem insO_l {c : Int → Int} {b : Int} {O : List Int} : (insO c b O).length ≤ O.length + 1 := by
  unfold insO
  by_cases hb : b ∈ O
  · rw [if_pos hb]; omega
  · rw [if_neg hb]
    have pm := List.perm_middle (l₁ := O.take (poO c b O O.length)) (a := b) (l₂ := O.drop (poO c b O O.length))
    rw [List.take_append_drop] at pm
    rw [pm.length_eq, List.length_cons]
    omega
section GAO
variable {A : aT} {B c : Int → Int} {L : List Int} {but : Int}
theorem gaO_m : ∀ (v : Nat) (z : Int), z ∈ gaO A B c L but v ↔ ∃ y, (0 ≤ y ∧ y < (v : Int)) ∧ y ∈ L ∧ A.2.1 y = 1 ∧ B y = z ∧ ¬ insL L z ∧ ¬ isG but z
  | 0, z => ⟨fun h => (by cases h), fun ⟨y, hy, _⟩ => by omega⟩
  | v + 1, z => by
    have ih := gaO_m v z
    simp only [gaO]
    by_cases h : (v : Int) ∈ L ∧ A.2.1 v = 1 ∧ ¬ insL L (B v) ∧ ¬ isG but (B v)
    · rw [if_pos h, insO_m]
      refine ⟨fun w => ?_, fun ⟨y, y1, y2⟩ => ?_⟩
      · rcases w with w | w
        · exact ⟨v, ⟨by omega, by omega⟩, h.1, h.2.1, w.symm, by rw [w]; exact h.2.2.1, by rw [w]; exact h.2.2.2⟩
        · obtain ⟨y, y1, y2⟩ := ih.mp w
          exact ⟨y, ⟨y1.1, by omega⟩, y2⟩
      · by_cases e : y = (v : Int)
        · left; rw [← y2.2.2.1, e]
        · exact Or.inr (ih.mpr ⟨y, ⟨y1.1, by omega⟩, y2⟩)
    · rw [if_neg h]
      refine ⟨fun w => ?_, fun ⟨y, y1, y2⟩ => ?_⟩
      · obtain ⟨y, y1, y2⟩ := ih.mp w
        exact ⟨y, ⟨y1.1, by omega⟩, y2⟩
      · by_cases e : y = (v : Int)
        · rw [e] at y2
          exact absurd ⟨y2.1, y2.2.1, by rw [y2.2.2.1]; exact y2.2.2.2.1, by rw [y2.2.2.1]; exact y2.2.2.2.2⟩ h
        · exact ih.mpr ⟨y, ⟨y1.1, by omega⟩, y2⟩
theorem gaO_n : ∀ v : Nat, (gaO A B c L but v).Nodup
  | 0 => List.nodup_nil
  | v + 1 => by
    simp only [gaO]
    split
    · exact insO_n (gaO_n v)
    · exact gaO_n v
theorem gaO_l : ∀ v : Nat, (gaO A B c L but v).length ≤ v
  | 0 => Nat.le_refl _
  | v + 1 => by
    have := gaO_l v
    simp only [gaO]
    split
    · have := insO_l (c := c) (b := B v) (O := gaO A B c L but v)
      omega
    · omega
end GAO
section BAS
variable {A : aT} {σ : sg_S}
theorem m_outsiderX {b : Int} {O : List Int} {c : Int → Int} {Q : sg_S → Prop} (hc : ∀ x, sg_g σ 116 x = c x) (h : oR σ O) (hl : O.length ≤ 250) (hb : 0 ≤ b ∧ b < 1200) (k : ∀ σ', oR σ' (insO c b O) → Q σ') : V_outsider σ b Q := by
  obtain ⟨h1, h2, h3, h4⟩ := h
  unfold V_outsider
  rw [h1]
  refine ⟨fun n v => n = (O.length - v).toNat ∧ (0 ≤ v ∧ v ≤ O.length) ∧ ∀ (i : Nat) (x : Int), O[i]? = some x → (i : Int) < v → ¬ x = b, b ∉ O, ⟨_, rfl, ⟨by omega, by omega⟩, fun i x _ z => by omega⟩, ?_, fun nb => ?_⟩
  · rintro n v rv ⟨en, hv, hn⟩
    refine ⟨fun z w => ?_, fun z => ⟨⟨by omega, by omega⟩, fun c => ⟨⟨by omega, by omega⟩, _, by omega, rfl, ⟨by omega, by omega⟩, fun i x hx hi => ?_⟩, fun c => k σ ?_⟩⟩
    · obtain ⟨i, hi⟩ := List.mem_iff_getElem?.mp w
      exact hn i b hi (by have := lt_of_get hi; omega) rfl
    · by_cases e : (i : Int) = v
      · intro e2
        have := h2 i x hx
        rw [e] at this
        exact c (by rw [this]; exact e2)
      · exact hn i x hx (by omega)
    · have : b ∈ O := by
        obtain ⟨x, hx⟩ : ∃ q, O[v.toNat]? = some q := ⟨_, List.getElem?_eq_getElem (by omega)⟩
        have := h2 v.toNat x hx
        rw [show ((v.toNat : Nat) : Int) = v by omega, c] at this
        rw [this]
        exact List.mem_of_getElem? hx
      unfold insO
      rw [if_pos this]
      exact ⟨h1, h2, h3, h4⟩
  · have ox : ∀ i : Nat, i < O.length → ∃ x, O[i]? = some x ∧ sg_g σ 119 i = x ∧ 0 ≤ x ∧ x < 1200 := fun i hi => by
      obtain ⟨x, hx⟩ : ∃ q, O[i]? = some q := ⟨_, List.getElem?_eq_getElem hi⟩
      exact ⟨x, hx, h2 i x hx, h4 x (List.mem_of_getElem? hx)⟩
    let J : Int → sg_S → Prop := fun at_ σ' => (0 ≤ at_ ∧ at_ ≤ O.length) ∧ (∀ (i : Nat) (x : Int), O[i]? = some x → (i : Int) < at_ → sg_g σ' 119 i = x) ∧ (∀ (i : Nat) (x : Int), O[i]? = some x → at_ ≤ (i : Int) → sg_g σ' 119 (i + 1) = x) ∧ poO c b O O.length = poO c b O at_.toNat
    have shift : ∀ (at_ : Int) (σ1 σ2 : sg_S), J at_ σ1 → 0 < at_ → c b < c (O.getD (at_ - 1).toNat 0) → σ2 = sg_w σ1 119 at_ (sg_g σ1 119 (at_ - 1)) → J (at_ + -1) σ2 := fun at_ σ1 σ2 hJ h0 hc e => by
      obtain ⟨j1, j2, j3, j4⟩ := hJ
      refine ⟨⟨by omega, by omega⟩, fun i x hx hi => ?_, fun i x hx hi => ?_, ?_⟩
      · rw [e, sg_gw_k _ _ _ _ _ _ (by omega)]; exact j2 i x hx (by omega)
      · by_cases c : (i : Int) + 1 = at_
        · rw [c, e, sg_gw_e _ _ _ _ (sg_Rg _ _ _), show at_ - 1 = (i : Int) by omega]
          exact j2 i x hx (by omega)
        · rw [e, sg_gw_k _ _ _ _ _ _ c]; exact j3 i x hx (by omega)
      · rw [j4, show at_.toNat = (at_ - 1).toNat + 1 by omega]
        simp only [poO]
        rw [if_pos hc]
        rfl
    have J0 : J O.length σ := ⟨⟨by omega, by omega⟩, fun i x hx _ => h2 i x hx, fun i x hx hi => by have := lt_of_get hx; omega, by rw [Int.toNat_natCast]⟩
    have stop : ∀ (at_ : Int) (σ' : sg_S), J at_ σ' → (0 < at_ → ¬ c b < c (O.getD (at_ - 1).toNat 0)) → at_ = (poO c b O O.length : Nat) := fun at_ σ' hJ hs => by
      obtain ⟨j1, j2, j3, j4⟩ := hJ
      rw [j4]
      by_cases z : 0 < at_
      · rw [show at_.toNat = (at_ - 1).toNat + 1 by omega]
        simp only [poO]
        rw [if_neg (hs z)]
        omega
      · rw [show at_.toNat = 0 by omega]
        simp only [poO]
        omega
    refine ⟨fun at_ σ' => J at_ σ' ∧ at_ = (poO c b O O.length : Nat), ⟨fun z => ⟨J0, stop _ _ J0 (fun z2 => by omega)⟩, fun z => ?_⟩, fun at_ σ5 ra f5 ⟨hJ, hat⟩ => ?_⟩
    · obtain ⟨x, x1, x2, x3⟩ := ox (O.length - 1) (by omega)
      have lt : sg_g σ 119 ((O.length : Int) - 1) = x := by rw [← x2]; congr 1; omega
      have gx : O.getD ((O.length : Int) - 1).toNat 0 = x := by rw [List.getD_eq_getElem?_getD, show ((O.length : Int) - 1).toNat = O.length - 1 by omega, x1]; rfl
      refine ⟨⟨by omega, by omega⟩, ⟨by omega, by omega⟩, by rw [lt]; exact x3, hb, fun w => ⟨J0, stop _ _ J0 (fun _ => ?_)⟩, fun w => ⟨⟨by omega, by omega⟩, fun σ6 e6 => ⟨⟨by omega, by omega⟩, fun n at_ σ7 => n = at_.toNat ∧ J at_ σ7, ⟨_, rfl, shift _ _ _ J0 z ?_ e6⟩, ?_⟩⟩⟩
      · rw [lt, hc, hc] at w
        rw [gx]; omega
      · rw [lt, hc, hc] at w
        rw [gx]; exact w
      rintro n at_ σ7 ra f7 ⟨en, hJ⟩
      refine ⟨fun w => ⟨hJ, stop _ _ hJ (fun z2 => by omega)⟩, fun cz => ?_⟩
      have hJ1 := hJ.1
      obtain ⟨y, y1, y2, y3⟩ := ox (at_ - 1).toNat (by omega)
      have ly : sg_g σ7 119 (at_ - 1) = y := by
        have := hJ.2.1 _ y y1 (by omega)
        rwa [show (((at_ - 1).toNat : Nat) : Int) = at_ - 1 by omega] at this
      have gy : O.getD (at_ - 1).toNat 0 = y := by rw [List.getD_eq_getElem?_getD, y1]; rfl
      refine ⟨⟨by omega, by omega⟩, ⟨by omega, by omega⟩, by rw [ly]; exact y3, fun w => ⟨hJ, stop _ _ hJ (fun _ => ?_)⟩, fun w => ⟨⟨by omega, by omega⟩, fun σ8 e8 => ⟨⟨by omega, by omega⟩, _, by omega, rfl, shift _ _ _ hJ cz ?_ e8⟩⟩⟩
      · rw [ly, hc, hc] at w
        rw [gy]; omega
      · rw [ly, hc, hc] at w
        rw [gy]; exact w
    · obtain ⟨j1, j2, j3, j4⟩ := hJ
      refine ⟨⟨by omega, by omega⟩, fun σ6 e6 => ⟨⟨by omega, by omega⟩, fun σ7 e7 => ?_⟩⟩
      have ep : poO c b O O.length = at_.toNat := by omega
      have io : insO c b O = O.take at_.toNat ++ b :: O.drop at_.toNat := by unfold insO; rw [if_neg nb, ep]
      have pm : (O.take at_.toNat ++ b :: O.drop at_.toNat).Perm (b :: O) := by
        have := List.perm_middle (l₁ := O.take at_.toNat) (a := b) (l₂ := O.drop at_.toNat)
        rwa [List.take_append_drop] at this
      have lt : (O.take at_.toNat).length = at_.toNat := by rw [List.length_take]; omega
      refine k σ7 ?_
      rw [io]
      refine ⟨?_, fun i x hx => ?_, ?_, fun x hx => ?_⟩
      · rw [pm.length_eq, e7, sg_gw_e _ _ _ _ ⟨by omega, by omega⟩]; simp
      · have c7 : sg_g σ7 119 i = sg_g σ6 119 i := by rw [e7, sg_gw_c _ _ _ _ _ _ (by decide)]
        rw [c7]
        by_cases c : i < at_.toNat
        · rw [List.getElem?_append_left (by omega), List.getElem?_take_of_lt c] at hx
          rw [e6, sg_gw_k _ _ _ _ _ _ (by omega)]
          exact j2 i x hx (by omega)
        · rw [List.getElem?_append_right (by omega), lt] at hx
          by_cases c2 : i = at_.toNat
          · rw [show i - at_.toNat = 0 by omega] at hx
            cases hx
            rw [e6, show (i : Int) = at_ by omega, sg_gw_e _ _ _ _ ⟨by omega, by omega⟩]
          · rw [show i - at_.toNat = (i - at_.toNat - 1) + 1 by omega, List.getElem?_cons_succ, List.getElem?_drop, show at_.toNat + (i - at_.toNat - 1) = i - 1 by omega] at hx
            have := j3 (i - 1) x hx (by omega)
            rw [e6, sg_gw_k _ _ _ _ _ _ (by omega)]
            rwa [show (((i - 1 : Nat) : Int) + 1) = (i : Int) by omega] at this
      · exact pm.nodup_iff.mpr (List.nodup_cons.mpr ⟨nb, h3⟩)
      · have := pm.mem_iff.mp hx
        rcases List.mem_cons.mp this with e | e
        · rw [e]; exact hb
        · exact h4 x e
def gOx (A : aT) (L : List Int) (B c : Int → Int) (but v : Int) (σ : sg_S) : Prop := oR σ (gaO A B c L but v.toNat)
theorem m_gatherX {but : Int} {L : List Int} {B c : Int → Int} {Q : sg_S → Prop} (hP : trT σ A) (eB : ∀ n, sg_g σ 102 n = B n) (hc : ∀ x, sg_g σ 116 x = c x) (hA : A.1 ≤ 200) (h0 : sg_g σ 88 46 = 0) (hi : iM σ A L) (hL : ∀ y ∈ L, A.2.1 y = 1 → rb A (B y)) (k : ∀ σ', oR σ' (gaO A B c L but A.1.toNat) → sg_F [119, 47088] σ σ' → Q σ') : V_gatherOutside σ but Q := by
  have h8 : sg_g σ 88 8 = A.1 := hP.1.1
  unfold V_gatherOutside
  rw [h8]
  have a0 : 0 ≤ A.1 := hP.1.2.1
  refine ⟨fun n v σ2 => n = (A.1 - v).toNat ∧ (0 ≤ v ∧ v ≤ A.1) ∧ gOx A L B c but v σ2, fun σ2 => gOx A L B c but A.1 σ2, ⟨_, rfl, ⟨by omega, by omega⟩, h0, fun i x h => (by cases h), List.nodup_nil, fun x h => (by cases h)⟩, ?_, fun σ2 f2 o1 => k σ2 o1 f2⟩
  rintro n v σ2 rv f2 ⟨en, hv, o1⟩
  refine ⟨fun z => by rw [show A.1 = v by omega]; exact o1, fun z => ?_⟩
  obtain ⟨t1, -⟩ := tr_k hP (n := v) ⟨hv.1, z⟩
  rw [t1, eB]
  have hM := hi v hv.1 z
  have vn : (v + 1).toNat = v.toNat + 1 := by omega
  have ev : ((v.toNat : Nat) : Int) = v := by omega
  have same : (¬ (v ∈ L ∧ A.2.1 v = 1 ∧ ¬ insL L (B v) ∧ ¬ isG but (B v))) → gOx A L B c but (v + 1) σ2 := fun hn => by
    unfold gOx
    rw [vn]
    simp only [gaO]
    rw [ev, if_neg hn]
    exact o1
  refine ⟨⟨by omega, by omega⟩, fun σ3 => gOx A L B c but (v + 1) σ3, ⟨fun c0 => same (fun h => by rw [hM.1 h.1] at c0; omega), fun c0 => ⟨fun c2 => same (fun h => c2 h.2.1), fun c2 => ?_⟩⟩, fun σ3 f3 h3 => ⟨⟨by omega, by omega⟩, _, by omega, rfl, ⟨by omega, by omega⟩, h3⟩⟩
  have vL : v ∈ L := Decidable.byContradiction (fun w => c0 (hM.2 w))
  obtain ⟨b1, b2, b3⟩ := hL v vL c2
  obtain ⟨b, hb⟩ : ∃ b, b = B v := ⟨_, rfl⟩
  rw [← hb] at b1 b2 b3 ⊢
  have cell : ∀ j, sg_g σ2 120 j = sg_g σ 120 j := fun j => sg_F_ga f2 rfl
  have go : ∀ q27 : Int, (q27 = 0 ↔ ¬ insL L b) → ((¬ q27 = 0 → gOx A L B c but (v + 1) σ2) ∧ (q27 = 0 → ((but < 0 → True) ∧ (0 ≤ but → ((b < 210 → True) ∧ (210 ≤ b → ((1100 ≤ b → True) ∧ (b < 1100 → sg_R (b - 210) ∧ ((¬ (sg_i (b - 210) / sg_i 4).toInt = but → True) ∧ ((sg_i (b - 210) / sg_i 4).toInt = but → True)))))))) ∧ ∀ v36 : Int, v36 = (if but < 0 then (0 : Int) else (if b < 210 then (0 : Int) else (if 1100 ≤ b then (0 : Int) else (if ¬ (sg_i (b - 210) / sg_i 4).toInt = but then (0 : Int) else (1 : Int))))) → sg_R v36 → ((¬ v36 = 0 → gOx A L B c but (v + 1) σ2) ∧ (v36 = 0 → V_outsider σ2 b (fun σ41 => sg_F [119, 47088] σ2 σ41 → gOx A L B c but (v + 1) σ41))))) := fun q27 hq => by
    refine ⟨fun w => same (fun h => w (hq.mpr (by rw [hb]; exact h.2.2.1))), fun w => ⟨⟨fun _ => trivial, fun _ => ⟨fun _ => trivial, fun _ => ⟨fun _ => trivial, fun _ => ⟨⟨by omega, by omega⟩, fun _ => trivial, fun _ => trivial⟩⟩⟩⟩, fun v36 e36 r36 => ?_⟩⟩
    have nI := hq.mp w
    have g36 : v36 = 0 ↔ ¬ isG but b := by
      rw [e36]
      unfold isG
      by_cases d1 : but < 0
      · rw [if_pos d1]; exact ⟨fun _ h => by omega, fun _ => rfl⟩
      · rw [if_neg d1]
        by_cases d2 : b < 210
        · rw [if_pos d2]; exact ⟨fun _ h => by omega, fun _ => rfl⟩
        · rw [if_neg d2]
          by_cases d3 : 1100 ≤ b
          · rw [if_pos d3]; exact ⟨fun _ h => by omega, fun _ => rfl⟩
          · rw [if_neg d3, dvi ⟨by omega, by omega⟩]
            by_cases d4 : (b - 210) / 4 = but
            · rw [if_neg (fun h => h d4)]; exact ⟨fun h => by omega, fun h => absurd ⟨by omega, by omega, by omega, d4⟩ h⟩
            · rw [if_pos d4]; exact ⟨fun _ h => d4 h.2.2.2, fun _ => rfl⟩
    have gl := gaO_l (A := A) (B := B) (c := c) (L := L) (but := but) v.toNat
    refine ⟨fun c3 => same (fun h => c3 (g36.mpr (by rw [hb]; exact h.2.2.2))), fun c3 => m_outsiderX (c := c) (fun x => by rw [sg_F_ga f2 rfl]; exact hc x) o1 (by omega) b1 (fun σ4 p1 _ => ?_)⟩
    unfold gOx
    rw [vn]
    simp only [gaO]
    rw [ev, if_pos ⟨vL, c2, by rw [← hb]; exact nI, by rw [← hb]; exact g36.mp c3⟩, ← hb]
    exact p1
  unfold V_isBoundInside
  refine ⟨fun d1 => ⟨fun d2 _ => go 0 ⟨fun _ h => ?_, fun _ => rfl⟩, fun d2 => ?_⟩, fun d1 => ?_⟩
  · rcases h with h | h <;> omega
  · rw [dvi ⟨by omega, by omega⟩, cell]
    have e := hi ((b - 210) / 4) (by omega) (b3 d1 d2)
    have iff0 : insL L b ↔ (b - 210) / 4 ∈ L := ⟨fun h => by rcases h with h | h; omega; exact h.2.2, fun h => Or.inr ⟨d1, d2, h⟩⟩
    have q0 : insL L b → sg_g σ 120 ((b - 210) / 4) = 0 → False := fun h c3 => by rw [e.1 (iff0.mp h)] at c3; omega
    have q1 : ¬ insL L b → sg_g σ 120 ((b - 210) / 4) = 0 := fun h => e.2 (fun w => h (iff0.mpr w))
    refine ⟨⟨by omega, by omega⟩, ⟨by omega, by omega⟩, fun c3 _ => ?_, fun c3 _ => ?_⟩
    · have g := go 0 ⟨fun _ h => q0 h c3, fun _ => rfl⟩
      rw [dvi ⟨by omega, by omega⟩] at g
      exact g
    · have g := go 1 ⟨fun h => absurd h (by decide), fun h => absurd (q1 h) c3⟩
      rw [dvi ⟨by omega, by omega⟩] at g
      exact g
  · rw [cell]
    have e := hi b b1.1 (b2 d1)
    have iff0 : insL L b ↔ b ∈ L := ⟨fun h => by rcases h with h | h; exact h.2; omega, fun h => Or.inl ⟨d1, h⟩⟩
    by_cases c3 : b ∈ L
    · rw [e.1 c3]
      exact ⟨⟨by omega, by omega⟩, Or.inr rfl, fun _ => go 1 ⟨fun h => by omega, fun h => absurd (iff0.mpr c3) h⟩⟩
    · rw [e.2 c3]
      exact ⟨⟨by omega, by omega⟩, Or.inl rfl, fun _ => go 0 ⟨fun _ h => c3 (iff0.mp h), fun _ => rfl⟩⟩
end BAS
