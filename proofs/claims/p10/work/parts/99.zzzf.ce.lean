/-! what was told, in one; give of the class, exactly. -/
def pX (σ : sg_S) (d : Nat) (P : List (Int × Int × Int)) (qs : List (List vaF)) : Prop := P.length = qs.length ∧ ∀ (i : Nat) (x : Int × Int × Int) (q : List vaF), P[i]? = some x → qs[i]? = some q → pkX σ d x.1 x.2.1 x.2.2 q ∧ 1 ≤ q.length
/-- firsts F, seconds S, lanes of depth d picked: fl, a FINDING e -/
def toX (σ : sg_S) (d : Nat) (F S : List Int) (fl : List vaF) (e : Int) : Prop := ∃ P qs, tlX σ F S P e ∧ pX σ d P qs ∧ qs.flatten = fl
theorem toX_0 {σ : sg_S} (h : y0 σ) (d : Nat) : toX σ d [] [] [] 0 := ⟨[], [], tlX_0 h, ⟨rfl, fun i x q hx => by simp at hx⟩, rfl⟩
theorem fl_len : ∀ {qs : List (List vaF)}, (∀ q ∈ qs, 1 ≤ q.length) → qs.length ≤ qs.flatten.length
  | [], _ => Nat.le_refl _
  | q :: r, h => by
    have a := h q (by simp)
    have b := fl_len (qs := r) (fun q hq => h q (by simp [hq]))
    rw [List.flatten_cons, List.length_append, List.length_cons]
    omega
theorem pX_l {σ : sg_S} {d : Nat} {P : List (Int × Int × Int)} {qs : List (List vaF)} (h : pX σ d P qs) : P.length ≤ qs.flatten.length := by
  rw [h.1]
  refine fl_len (fun q hq => ?_)
  obtain ⟨i, hi⟩ := List.mem_iff_getElem?.mp hq
  have := gE_l hi
  obtain ⟨x, hx⟩ : ∃ x, P[i]? = some x := ⟨_, List.getElem?_eq_getElem (by rw [h.1]; exact this)⟩
  exact (h.2 i x q hx hi).2
theorem pX_up {σ σ' : sg_S} (ex : yEx σ σ') {d : Nat} {P : List (Int × Int × Int)} {qs : List (List vaF)} (h : pX σ d P qs) : pX σ' d P qs := ⟨h.1, fun i x q hx hq => ⟨pkX_up ex (h.2 i x q hx hq).1, (h.2 i x q hx hq).2⟩⟩
theorem toX_F {L : List Nat} {σ σ' : sg_S} {d : Nat} {F S : List Int} {fl : List vaF} {e : Int} (h : toX σ d F S fl e) (f : sg_F L σ σ') (ex : yEx σ σ') (hL : (!sg_cv L 77 11 && !sg_cv L 77 12 && !sg_cv L 77 13 && !sg_cv L 77 14 && !sg_cv L 77 15 && sg_ca L 83 && sg_ca L 84 && sg_ca L 85 && sg_ca L 86 && sg_ca L 87) = true) : toX σ' d F S fl e := by
  obtain ⟨P, qs, h1, h2, h3⟩ := h
  exact ⟨P, qs, tlX_F h1 f hL, pX_up ex h2, h3⟩
section CES
variable {σ : sg_S} {d : Nat} {F S : List Int} {fl : List vaF} {e x : Int} {Q : sg_S → Prop}
theorem t_miss (h : toX σ d F S fl e) (hx : sg_R x) (k : ∀ σ', toX σ' d F S fl (if e = 0 then x else e) → sg_F [15077] σ σ' → Q σ') : V_lMiss σ x Q := by
  obtain ⟨P, qs, h1, h2, h3⟩ := h
  exact x_miss h1 hx (fun σ' t f => k σ' ⟨P, qs, t, pX_up (yEx_F f rfl) h2, h3⟩ f)
theorem t_first (h : toX σ d F S fl e) (hb : F.length ≤ 1000000000) (hx : sg_R x) (k : ∀ σ', toX σ' d (F ++ [x]) S fl e → sg_F [83, 12077, 16077] σ σ' → Q σ') : V_lFirst σ x Q := by
  obtain ⟨P, qs, h1, h2, h3⟩ := h
  exact x_first h1 hb hx (fun σ' t f => k σ' ⟨P, qs, t, pX_up (yEx_F f rfl) h2, h3⟩ f)
theorem t_second (h : toX σ d F S fl e) (hb : S.length ≤ 1000000000) (hx : sg_R x) (k : ∀ σ', toX σ' d F (S ++ [x]) fl e → sg_F [84, 13077, 16077] σ σ' → Q σ') : V_lSecond σ x Q := by
  obtain ⟨P, qs, h1, h2, h3⟩ := h
  exact x_second h1 hb hx (fun σ' t f => k σ' ⟨P, qs, t, pX_up (yEx_F f rfl) h2, h3⟩ f)
theorem t_pick {lo hi : Int} {q : List vaF} (h : toX σ d F S fl e) (hb : fl.length ≤ 1000000000) (hp : pkX σ d x lo hi q) (hx : sg_R x) (hhi : sg_R hi) (k : ∀ σ', toX σ' d F S (fl ++ q) e → sg_F [85, 86, 87, 14077, 16077] σ σ' → Q σ') : V_lPick σ x lo hi Q := by
  obtain ⟨P, qs, h1, h2, h3⟩ := h
  obtain ⟨b1, b2, b3⟩ := pkX_l hp
  have pl := pX_l h2
  rw [h3] at pl
  refine x_pick h1 (by omega) hx ⟨by omega, by have := hhi.2; omega⟩ hhi (fun σ' t f => ?_)
  have ex : yEx σ σ' := yEx_F f rfl
  by_cases c : lo < hi
  · rw [if_pos c] at t
    refine k σ' ⟨P ++ [(x, lo, hi)], qs ++ [q], t, ⟨by rw [List.length_append, List.length_append, h2.1]; rfl, fun i y w hy hw => ?_⟩, by rw [List.flatten_append, h3, List.flatten_cons, List.flatten_nil, List.append_nil]⟩ f
    rcases Nat.lt_or_ge i P.length with z | z
    · rw [List.getElem?_append_left z] at hy
      rw [List.getElem?_append_left (by rw [← h2.1]; exact z)] at hw
      exact ⟨pkX_up ex (h2.2 i y w hy hw).1, (h2.2 i y w hy hw).2⟩
    · rw [List.getElem?_append_right z] at hy
      rw [List.getElem?_append_right (by rw [← h2.1]; exact z), ← h2.1] at hw
      have ei : i - P.length = 0 := by
        rcases Nat.eq_zero_or_pos (i - P.length) with u | u
        · exact u
        · rw [List.getElem?_eq_none (by simp; omega)] at hy; cases hy
      rw [ei] at hy hw
      cases hy
      cases hw
      exact ⟨pkX_up ex hp, by omega⟩
  · rw [if_neg c] at t
    have eq : q = [] := List.eq_nil_of_length_eq_zero (by omega)
    refine k σ' ⟨P, qs, t, pX_up ex h2, by rw [h3, eq, List.append_nil]⟩ f
end CES
/-- STEPS and CELLS of the class -/
def ctX (σ : sg_S) (s : fSt) : Prop := sg_g σ 77 17 = s.1 ∧ sg_g σ 77 16 = s.2.1 ∧ sg_g σ 61 24 = s.2.2 ∧ (0 ≤ s.1 ∧ s.1 ≤ 2000) ∧ 0 ≤ s.2.1 ∧ s.2.1 ≤ 6000
theorem ctX_F {L : List Nat} {σ σ' : sg_S} {s : fSt} (f : sg_F L σ σ') (hL : (!sg_cv L 77 17 && !sg_cv L 77 16 && !sg_cv L 61 24) = true) (h : ctX σ s) : ctX σ' s := by
  simp only [Bool.and_eq_true, Bool.not_eq_true'] at hL
  exact ⟨by rw [sg_F_g f hL.1.1]; exact h.1, by rw [sg_F_g f hL.1.2]; exact h.2.1, by rw [sg_F_g f hL.2]; exact h.2.2.1, h.2.2.2⟩
/-- what an operation comes to -/
def gvX (σ σ' : sg_S) (D : Nat) (L : List vaF) (e t : Int) (s : fSt) : Prop := (fStp (exF D L) s = none ∧ sg_g σ' 61 10 = 8 ∧ ctX σ' s) ∨ ∃ s1, fStp (exF D L) s = some s1 ∧ sg_g σ' 61 10 = e ∧ ctX σ' s1 ∧ yEx σ σ' ∧ yG σ' ∧ y0 σ' ∧ yX σ' D (sg_g σ' 64 t) L ∧ sg_g σ' 61 7 = t + 1 ∧ (∀ i, ¬ i = t → sg_g σ' 64 i = sg_g σ 64 i) ∧ sg_g σ' 77 10 ≤ sg_g σ 77 10 + 4
/-- what was told stands for L -/
def tsF (f D : Nat) (F S : List Int) (fl L : List vaF) : Prop := (f = 0 ∧ F = [] ∧ S = [] ∧ fl = L) ∨ (f = 1 ∧ F = L.map (fun v => v []) ∧ S = [] ∧ ((D = 0 ∧ fl = []) ∨ (1 ≤ D ∧ fl = flF L ∧ ∀ v ∈ L, 0 ≤ v [] ∧ v [] ≤ 200))) ∨ (f = 2 ∧ 1 ≤ D ∧ F = L.map (fun v => v []) ∧ S = (flF L).map (fun v => v []) ∧ (∀ v ∈ L, 0 ≤ v [] ∧ v [] ≤ 200) ∧ ((D = 1 ∧ fl = []) ∨ (2 ≤ D ∧ fl = flF (flF L) ∧ ∀ v ∈ flF L, 0 ≤ v [] ∧ v [] ≤ 200)))
theorem mem_D {L : List vaF} {p : vaF → Prop} (h : ∀ v ∈ L, p v) (i : Nat) (hi : i < L.length) : p (L.getD i (nmF 0)) := h _ (List.mem_of_getElem? (gD_i hi))
theorem row_D {σ : sg_S} {a : Nat} {L : List vaF} (h6 : L.length ≤ 6000) (h : ∀ (i : Nat) (x : Int), (L.map (fun v => v []))[i]? = some x → i < 6000 → sg_g σ a i = x) : ∀ i : Nat, i < L.length → sg_g σ a i = (L.getD i (nmF 0)) [] := fun i hi => h i _ (getD_m hi) (by omega)
/-- what was told is what is to be stored; or there is no room for it -/
theorem toX_s {σ : sg_S} {f D d : Nat} {F S : List Int} {fl L : List vaF} {e : Int} (h : toX σ d F S fl e) (hs : tsF f D F S fl L) (hd : D = d + f ∨ (D < d + f ∧ fl = [])) : (sg_g σ 77 15 = 0 → srX σ f 0 D L) ∧ (sg_g σ 77 15 = 1 → 6000 < exF D L) ∧ (sg_g σ 77 15 = 0 ∨ sg_g σ 77 15 = 1) ∧ sg_g σ 77 14 = e := by
  obtain ⟨P, qs, ⟨⟨a1, a2, a3, a4⟩, a5, a6, a7, a8⟩, h2, h3⟩ := h
  have pl := pX_l h2
  rw [h3] at pl
  have xn := exF_n D L
  have pk : P.length ≤ 6000 → ∀ d', d' = d ∨ fl = [] → srP σ d' fl := fun p6 d' hd' => by
    refine ⟨qs, ⟨by rw [a3, h2.1], by rw [← h2.1]; exact p6, fun i q hq => ?_⟩, h3⟩
    have hi := gE_l hq
    obtain ⟨x, hx⟩ : ∃ x, P[i]? = some x := ⟨_, List.getElem?_eq_getElem (by rw [h2.1]; exact hi)⟩
    obtain ⟨r1, r2, r3⟩ := a8 i x hx (by have := h2.1; omega)
    obtain ⟨k1, k2⟩ := h2.2 i x q hx hq
    rcases hd' with z | z
    · rw [z, r1, r2, r3]; exact k1
    · rw [z] at pl
      simp only [List.length_nil] at pl
      have := h2.1
      omega
  refine ⟨fun z => ?_, fun z => ?_, ?_, a4⟩
  · rw [a5] at z
    have c : F.length ≤ 6000 ∧ S.length ≤ 6000 ∧ P.length ≤ 6000 := Decidable.byContradiction (fun c => by rw [if_neg c] at z; omega)
    unfold srX
    rcases hs with ⟨f0, e1, e2, e3⟩ | ⟨f1, e1, e2, e3⟩ | ⟨f2, D1, e1, e2, e3, e4⟩
    · rw [if_pos (by omega), ← e3]
      exact pk c.2.2 D (by rcases hd with w | w; left; omega; exact Or.inr w.2)
    · rw [if_neg (by omega), if_pos rfl]
      have l6 : L.length ≤ 6000 := by have := c.1; rw [e1, List.length_map] at this; exact this
      rw [e1] at a1 a6
      rw [List.length_map] at a1
      refine ⟨⟨a1, l6, row_D l6 a6⟩, fun d' hd' => ?_⟩
      rcases e3 with ⟨q, -⟩ | ⟨q1, q2, q3⟩
      · omega
      · rw [if_pos f1, ← q2]
        exact ⟨mem_D q3, pk c.2.2 d' (by rcases hd with w | w; left; omega; exact Or.inr w.2)⟩
    · rw [if_neg (by omega), if_pos rfl]
      have l6 : L.length ≤ 6000 := by have := c.1; rw [e1, List.length_map] at this; exact this
      have m6 : (flF L).length ≤ 6000 := by have := c.2.1; rw [e2, List.length_map] at this; exact this
      rw [e1] at a1 a6
      rw [e2] at a2 a7
      rw [List.length_map] at a1 a2
      refine ⟨⟨a1, l6, row_D l6 a6⟩, fun d' hd' => ?_⟩
      rw [if_neg (by omega)]
      refine ⟨mem_D e3, ⟨a2, m6, row_D m6 a7⟩, fun d2 hd2 => ?_⟩
      rcases e4 with ⟨q, -⟩ | ⟨q1, q2, q3⟩
      · omega
      · rw [← q2]
        exact ⟨mem_D q3, pk c.2.2 d2 (by rcases hd with w | w; left; omega; exact Or.inr w.2)⟩
  · rw [a5] at z
    have c : ¬ (F.length ≤ 6000 ∧ S.length ≤ 6000 ∧ P.length ≤ 6000) := fun c => by rw [if_pos c] at z; omega
    rcases hs with ⟨f0, e1, e2, e3⟩ | ⟨f1, e1, e2, e3⟩ | ⟨f2, D1, e1, e2, e3, e4⟩
    · rw [e1, e2] at c
      rw [e3] at pl
      simp only [List.length_nil] at c
      omega
    · rw [e1, e2, List.length_map] at c
      simp only [List.length_nil] at c
      rcases e3 with ⟨q, q2⟩ | ⟨q1, q2, q3⟩
      · rw [q2] at pl
        simp only [List.length_nil] at pl
        omega
      · obtain ⟨D', rfl⟩ : ∃ D', D = D' + 1 := ⟨D - 1, by omega⟩
        rw [q2] at pl
        rw [exF_s] at xn ⊢
        have := exF_n D' (flF L)
        omega
    · rw [e1, e2, List.length_map, List.length_map] at c
      obtain ⟨D', rfl⟩ : ∃ D', D = D' + 1 := ⟨D - 1, by omega⟩
      rw [exF_s] at xn ⊢
      have x2 := exF_n D' (flF L)
      rcases e4 with ⟨q, q2⟩ | ⟨q1, q2, q3⟩
      · rw [q2] at pl
        simp only [List.length_nil] at pl
        omega
      · obtain ⟨D2, rfl⟩ : ∃ D2, D' = D2 + 1 := ⟨D' - 1, by omega⟩
        rw [q2] at pl
        rw [exF_s] at x2 ⊢
        have := exF_n D2 (flF (flF L))
        omega
  · rw [a5]
    by_cases c : F.length ≤ 6000 ∧ S.length ≤ 6000 ∧ P.length ≤ 6000
    · rw [if_pos c]; exact Or.inl rfl
    · rw [if_neg c]; exact Or.inr rfl
theorem fStp_n {a : Int} {s : fSt} : fStp a s = none ↔ s.1 = 2000 ∨ 6000 < s.2.1 + a := by
  unfold fStp
  by_cases c : s.1 = 2000 ∨ 6000 < s.2.1 + a
  · rw [if_pos c]; exact ⟨fun _ => c, fun _ => rfl⟩
  · rw [if_neg c]; exact ⟨fun h => (by cases h), fun h => absurd h c⟩
theorem fStp_e {a : Int} {s : fSt} (h : ¬ (s.1 = 2000 ∨ 6000 < s.2.1 + a)) : fStp a s = some (s.1 + 1, s.2.1 + a, s.2.2) := by
  unfold fStp
  rw [if_neg h]
theorem x_sealO {σ : sg_S} {D f : Int} {Q : Int → sg_S → Prop} (oo : ¬ sg_g σ 77 15 = 0) (hD : 0 ≤ D) (k : ∀ σ', sg_F seL σ σ' → sg_g σ' 77 18 = 8 → sg_g σ' 77 17 = sg_g σ 77 17 → sg_g σ' 77 16 = sg_g σ 77 16 → Q (sg_g σ 77 10) σ') : V_lSeal σ D f Q := by
  unfold V_lSeal
  refine ⟨fun m v σ2 => σ2 = σ ∧ v = 0, fun σ2 => σ2 = σ, ⟨0, rfl, rfl⟩, ?_, ?_⟩
  · rintro m v σ2 rv f2 ⟨e, -⟩
    subst e
    exact ⟨fun _ => rfl, fun _ => ⟨fun _ => rfl, fun y => absurd y oo⟩⟩
  · rintro σ2 f2 e
    subst e
    refine ⟨fun σ19 => sg_g σ19 77 18 = 8 ∧ sg_g σ19 77 17 = sg_g σ2 77 17 ∧ sg_g σ19 77 16 = sg_g σ2 77 16, ⟨fun z σ28 e28 σ31 e31 => ⟨?_, ?_, ?_⟩, fun z => absurd z oo⟩, fun σ19 f19 h19 => ?_⟩
    · rw [e31, sg_gw_k _ _ _ _ _ _ (by decide), e28, sg_gw_e _ _ _ _ (by decide)]
    · rw [e31, sg_gw_k _ _ _ _ _ _ (by decide), e28, sg_gw_k _ _ _ _ _ _ (by decide)]
    · rw [e31, sg_gw_e _ _ _ _ (sg_Rg _ _ _)]
    · refine x_reset (fun σ13 _ f13 _ => k σ13 (sg_F_t (sg_F_m f19 rfl) (sg_F_m f13 rfl)) ?_ ?_ ?_)
      · rw [sg_F_g f13 (by rfl)]; exact h19.1
      · rw [sg_F_g f13 (by rfl)]; exact h19.2.1
      · rw [sg_F_g f13 (by rfl)]; exact h19.2.2
theorem f_giveG {σ σ2 : sg_S} {t : Int} {D f : Nat} {L : List vaF} {e : Int} {s : fSt} {Q : sg_S → Prop} (h : fP σ t) (hs : ctX σ s) (hD : D ≤ 3) (h9 : sg_g σ 61 9 = D) (hf2 : f ≤ 2) (f2 : sg_F acL σ σ2) (ht : (sg_g σ2 77 15 = 0 ∧ srX σ2 f 0 D L ∧ sg_g σ2 77 14 = e) ∨ (¬ sg_g σ2 77 15 = 0 ∧ 6000 < exF D L)) (k : ∀ σ', sg_F opL σ σ' → gvX σ σ' D L e t s → Q σ') : V_fGive σ2 (f : Int) Q := by
  obtain ⟨h1, h2, h3, h4, h5, h6, h7⟩ := h
  have ex2 : yEx σ σ2 := yEx_F f2 rfl
  have g2 : yG σ2 := yG_F h1 f2 rfl
  have w2 : sg_g σ2 77 10 = sg_g σ 77 10 := sg_F_g f2 rfl
  have s2 : sg_g σ2 77 17 = sg_g σ 77 17 := sg_F_g f2 rfl
  have t2 : sg_g σ2 61 7 = t := by rw [sg_F_g f2 (by rfl)]; exact h5
  have c2 : ctX σ2 s := ctX_F f2 rfl hs
  have fin : ∀ σ3 q1, sg_R q1 → q1 = sg_g σ2 77 10 → sg_F seL σ2 σ3 → (y0 σ3 ∧ seR σ2 σ3 D L e) ∨ (6000 < exF D L ∧ sg_g σ3 77 18 = 8 ∧ sg_g σ3 77 17 = sg_g σ2 77 17 ∧ sg_g σ3 77 16 = sg_g σ2 77 16) → V_mPush σ3 q1 (fun σ8 => sg_F [64, 8061] σ3 σ8 → ∀ σ13, σ13 = sg_w σ8 61 10 (sg_g σ3 77 18) → Q σ13) := fun σ3 q1 r1 eq f3 h3' => by
    have t3 : sg_g σ3 61 7 = t := by rw [sg_F_g f3 (by rfl)]; exact t2
    refine y_push t3 h6 r1 (fun σ8 f8 p1 p2 p3 _ σ13 e13 => ?_)
    have f13 : sg_F [11061] σ8 σ13 := by rw [e13]; exact sg_F_w (sg_F_r _ _) rfl _
    have FF : sg_F opL σ σ13 := sg_F_t (sg_F_t (sg_F_t (sg_F_m f2 rfl) (sg_F_m f3 rfl)) (sg_F_m f8 rfl)) (sg_F_m f13 rfl)
    have e10 : sg_g σ13 61 10 = sg_g σ3 77 18 := by rw [e13, sg_gw_e _ _ _ _ (sg_Rg _ _ _)]
    have f38 : sg_F [64, 8061, 11061] σ3 σ13 := sg_F_t (sg_F_m f8 rfl) (sg_F_m f13 rfl)
    have e24 : sg_g σ13 61 24 = s.2.2 := by rw [sg_F_g FF (by rfl)]; exact hs.2.2.1
    have room : (s.1 = 2000 ∨ 6000 < s.2.1 + exF D L) → sg_g σ3 77 18 = 8 → sg_g σ3 77 17 = s.1 → sg_g σ3 77 16 = s.2.1 → Q σ13 := fun z1 z2 z3 z4 => k σ13 FF (Or.inl ⟨fStp_n.mpr z1, by rw [e10]; exact z2, by rw [sg_F_g f38 (by rfl)]; exact z3, by rw [sg_F_g f38 (by rfl)]; exact z4, e24, hs.2.2.2⟩)
    have c4 := hs.2.2.2
    rcases h3' with ⟨y3, h3'⟩ | ⟨z1, z2, z3, z4⟩
    · unfold seR at h3'
      rw [c2.1, c2.2.1] at h3'
      rcases h3' with ⟨z1, z2, z3, z4⟩ | ⟨z1, z2, z3, z4, z5, z6, z7, z8⟩
      · exact room z1 z2 z3 z4
      · refine k σ13 FF (Or.inr ?_)
        have ex3 : yEx σ3 σ13 := yEx_F f38 rfl
        have xn := exF_n D L
        refine ⟨_, fStp_e z1, by rw [e10]; exact z2, ⟨by rw [sg_F_g f38 (by rfl)]; exact z3, by rw [sg_F_g f38 (by rfl)]; exact z4, e24, by simp only; omega, by simp only; omega⟩, yEx_t ex2 (yEx_t z5 ex3), yG_F z6 f38 rfl, y0_F y3 f38 rfl, ?_, ?_, fun i hi => ?_, ?_⟩
        · rw [sg_F_ga f13 rfl, p2, eq]; exact yX_up ex3 z7
        · rw [sg_F_g f13 (by rfl)]; exact p1
        · rw [sg_F_ga f13 rfl, p3 i hi, sg_F_ga f3 rfl, sg_F_ga f2 rfl]
        · rw [sg_F_g f38 (by rfl)]; omega
    · exact room (Or.inr (by omega)) z2 (z3.trans c2.1) (z4.trans c2.2.1)
  unfold V_fGive
  rw [show sg_g σ2 61 9 = (D : Int) from by rw [sg_F_g f2 (by rfl)]; exact h9]
  rcases ht with ⟨o, q1, q4⟩ | ⟨o, q2⟩
  · exact x_seal g2 (by omega) (by omega) hD q4 (Or.inl o) (fun _ => q1) (fun z => by omega) hf2 (fun σ3 f3 y3 h3' _ r3 _ => fin σ3 _ r3 rfl f3 (Or.inl ⟨y3, h3'⟩))
  · exact x_sealO o (by omega) (fun σ3 f3 z1 z2 z3 r3 _ => fin σ3 _ r3 rfl f3 (Or.inr ⟨q2, z1, z2, z3⟩))
theorem f_giveX {σ σ2 : sg_S} {t : Int} {D f d : Nat} {F S : List Int} {fl L : List vaF} {e : Int} {s : fSt} {Q : sg_S → Prop} (h : fP σ t) (hs : ctX σ s) (hD : D ≤ 3) (h9 : sg_g σ 61 9 = D) (hf2 : f ≤ 2) (f2 : sg_F acL σ σ2) (ht : toX σ2 d F S fl e) (hl : tsF f D F S fl L) (hd : D = d + f ∨ (D < d + f ∧ fl = [])) (k : ∀ σ', sg_F opL σ σ' → gvX σ σ' D L e t s → Q σ') : V_fGive σ2 (f : Int) Q := by
  obtain ⟨q1, q2, q3, q4⟩ := toX_s ht hl hd
  refine f_giveG h hs hD h9 hf2 f2 ?_ k
  rcases q3 with o | o
  · exact Or.inl ⟨o, q1 o, q4⟩
  · exact Or.inr ⟨by omega, q2 o⟩
/-! Operations of the class that give numbers, exactly. -/
/-- what an operation comes to, lane by lane -/
def gwX (σ σ' : sg_S) (D : Nat) (rs : List (Int ⊕ vaF)) (t : Int) (s : fSt) : Prop := ∃ L, exF D L = exF D (rs.map fOv) ∧ (fOe rs = 0 → L = rs.map fOv) ∧ gvX σ σ' D L (fOe rs) t s
theorem axr_b {σ : sg_S} {k a b : Int} (hk : 4 ≤ k ∧ k ≤ 10) {R : Int → sg_S → Prop} (kk : R (v_operated k a b) σ) : V_xCompute σ (kmp k) a b R := by
  have c : k = 4 ∨ k = 5 ∨ k = 6 ∨ k = 7 ∨ k = 8 ∨ k = 9 ∨ k = 10 := by omega
  unfold V_xCompute
  rcases c with e | e | e | e | e | e | e <;> subst e
  · refine ⟨fun z => absurd z (by decide), fun _ => ⟨fun z => absurd z (by decide), fun _ => ⟨fun z => absurd z (by decide), fun _ => ⟨fun z => absurd z (by decide), fun _ => ⟨fun z => absurd z (by decide), fun _ => ⟨fun _ => ?_, fun z => absurd rfl z⟩⟩⟩⟩⟩⟩
    unfold V_xCompute_60
    unfold v_operated at kk
    rw [if_pos rfl] at kk
    exact ⟨fun z => by rw [if_pos z] at kk; exact kk, fun z => by rw [if_neg (by omega)] at kk; exact kk⟩
  · refine ⟨fun z => absurd z (by decide), fun _ => ⟨fun z => absurd z (by decide), fun _ => ⟨fun z => absurd z (by decide), fun _ => ⟨fun z => absurd z (by decide), fun _ => ⟨fun z => absurd z (by decide), fun _ => ⟨fun z => absurd z (by decide), fun _ => ⟨fun _ => ?_, fun z => absurd rfl z⟩⟩⟩⟩⟩⟩⟩
    unfold V_xCompute_61
    unfold v_operated at kk
    rw [if_neg (by decide), if_pos rfl] at kk
    exact ⟨fun z => by rw [if_pos z] at kk; exact kk, fun z => by rw [if_neg (fun q => q z)] at kk; exact kk⟩
  · refine ⟨fun z => absurd z (by decide), fun _ => ⟨fun z => absurd z (by decide), fun _ => ⟨fun _ => ?_, fun z => absurd rfl z⟩⟩⟩
    exact kk
  · refine ⟨fun z => absurd z (by decide), fun _ => ⟨fun z => absurd z (by decide), fun _ => ⟨fun z => absurd z (by decide), fun _ => ⟨fun _ => ?_, fun z => absurd rfl z⟩⟩⟩⟩
    exact kk
  · refine ⟨fun z => absurd z (by decide), fun _ => ⟨fun _ => ?_, fun z => absurd rfl z⟩⟩
    exact kk
  · refine ⟨fun z => absurd z (by decide), fun _ => ⟨fun z => absurd z (by decide), fun _ => ⟨fun z => absurd z (by decide), fun _ => ⟨fun z => absurd z (by decide), fun _ => ⟨fun _ => ?_, fun z => absurd rfl z⟩⟩⟩⟩⟩
    unfold V_xCompute_47
    unfold v_operated at kk
    rw [if_neg (by decide), if_neg (by decide), if_neg (by decide), if_neg (by decide), if_neg (by decide)] at kk
    exact ⟨fun z => ⟨z, by rw [if_pos z, if_neg (fun q => q rfl)] at kk; exact kk⟩, fun z => by rw [if_neg (fun q => q z)] at kk; exact kk⟩
  · refine ⟨fun _ => ?_, fun z => absurd rfl z⟩
    unfold V_xCompute_37
    unfold v_operated at kk
    rw [if_neg (by decide), if_neg (by decide), if_neg (by decide), if_neg (by decide), if_neg (by decide)] at kk
    exact ⟨fun z => ⟨z, by rw [if_pos z, if_pos (by decide)] at kk; exact kk⟩, fun z => by rw [if_neg (fun q => q z)] at kk; exact kk⟩
theorem dxz_b {k b : Int} (hk : 4 ≤ k ∧ k ≤ 10) : v_xDividesByZero (kmp k) b = 0 ↔ ¬ ((k = 9 ∨ k = 10) ∧ b = 0) := by
  unfold v_xDividesByZero
  by_cases cb : b = 0
  · rw [if_neg (fun q => q cb)]
    have c : k = 4 ∨ k = 5 ∨ k = 6 ∨ k = 7 ∨ k = 8 ∨ k = 9 ∨ k = 10 := by omega
    rcases c with e | e | e | e | e | e | e <;> subst e <;> simp [kmp, cb]
  · rw [if_pos cb]; exact ⟨fun _ q => cb q.2, fun _ => rfl⟩
theorem fxo_b {σ : sg_S} {k a b : Int} (hk : k = 18 ∨ k = 19 ∨ k = 20) {R : Int → sg_S → Prop} (kk : ∀ q, q = (if k = 18 then sg_n (a + b) else if k = 19 then (if a < b then b else a) else if b < a then b else a) → R q σ) : V_xFold σ (kmp k) a b R := by
  unfold V_xFold
  rcases hk with e | e | e <;> subst e
  · exact ⟨fun z => absurd rfl z, fun _ => kk _ rfl⟩
  · refine ⟨fun _ => ⟨fun z => absurd rfl z, fun _ v6 e6 _ => kk v6 ?_⟩, fun z => absurd z (by decide)⟩
    rw [e6]; rfl
  · refine ⟨fun _ => ⟨fun _ v3 e3 _ => kk v3 ?_, fun z => absurd z (by decide)⟩, fun z => absurd z (by decide)⟩
    rw [e3]; rfl
/-- numbers of n lanes were told -/
theorem num_X {σ σ2 : sg_S} {t : Int} {n : Nat} {f : Nat → Int ⊕ vaF} {g : Nat → Int} {s : fSt} {Q : sg_S → Prop} (h : fP σ t) (hs : ctX σ s) (h9 : sg_g σ 61 9 = 0) (f2 : sg_F acL σ σ2) (ht : toX σ2 0 ((List.range n).map g) [] [] (fOe ((List.range n).map f))) (hf : ∀ i, i < n → fOe [f i] = 0 → f i = .inr (nmF (g i))) (k : ∀ σ', sg_F opL σ σ' → gwX σ σ' 0 ((List.range n).map f) t s → Q σ') : V_fGive σ2 1 Q := by
  refine f_giveX (D := 0) (f := 1) (L := (List.range n).map (fun i => nmF (g i))) h hs (by decide) h9 (by decide) f2 ht (Or.inr (Or.inl ⟨rfl, ?_, rfl, Or.inl ⟨rfl, rfl⟩⟩)) (Or.inr ⟨by decide, rfl⟩) (fun σ' f' r' => k σ' f' ⟨_, ?_, fun e0 => ?_, r'⟩)
  · rw [List.map_map]; rfl
  · show (((List.range n).map _).length : Int) = ((((List.range n).map f).map fOv).length : Int)
    rw [List.length_map, List.length_map, List.length_map]
  · rw [List.map_map]
    refine mp_e (fun i hi => ?_)
    have := hf i hi (fOe_0 e0 _ (List.mem_map.mpr ⟨i, List.mem_range.mpr hi, rfl⟩))
    show nmF (g i) = fOv (f i)
    rw [this]; rfl
theorem mrs {α : Type} (g : Nat → α) (j : Nat) : (List.range (j + 1)).map g = (List.range j).map g ++ [g j] := by rw [List.range_succ, List.map_append]; rfl
section CFS
variable {σ : sg_S} {t : Int} {n : Nat} {f : Nat → Int ⊕ vaF} {s : fSt} {Q : sg_S → Prop}
theorem o_constant {x : Int} (h : fP σ t) (hs : ctX σ s) (h9 : sg_g σ 61 9 = 0) (hn : sg_g σ 61 23 = n) (hx : sg_R x) (hf : ∀ i, i < n → f i = .inr (nmF x)) (k : ∀ σ', sg_F opL σ σ' → gwX σ σ' 0 ((List.range n).map f) t s → Q σ') : V_fConstant σ x Q := by
  have n6 := h.2.2.2.2.2.2
  rw [hn] at n6
  have e0 : ∀ j, j ≤ n → fOe ((List.range j).map f) = 0 := fun j hj => fOe_z j (fun i hi => by rw [hf i (by omega)]; rfl)
  unfold V_fConstant
  rw [hn]
  refine ⟨fun m v σ2 => ∃ j : Nat, v = j ∧ j ≤ n ∧ m = n - j ∧ toX σ2 0 ((List.range j).map (fun _ => x)) [] [] (fOe ((List.range j).map f)), fun σ2 => toX σ2 0 ((List.range n).map (fun _ => x)) [] [] (fOe ((List.range n).map f)), ⟨_, 0, rfl, Nat.zero_le _, rfl, toX_0 h.2.1 0⟩, ?_, fun σ2 f2 ht => num_X h hs h9 (sg_F_m f2 rfl) ht (fun i hi _ => hf i hi) (fun σ' f' r' _ => k σ' f' r')⟩
  rintro m v σ2 rv f2 ⟨j, rfl, hj, hm, ht⟩
  refine ⟨fun z => by rw [show n = j by omega]; exact ht, fun z => t_first ht (by rw [List.length_map, List.length_range]; omega) hx (fun σ' t' f' _ => ⟨⟨by omega, by omega⟩, n - (j + 1), by omega, j + 1, by omega, by omega, rfl, ?_⟩)⟩
  rw [mrs, e0 (j + 1) (by omega)]
  rw [e0 j hj] at t'
  exact t'
theorem o_measure {d : Nat} {v : Int} {la : List vaF} (h : fP σ t) (hs : ctX σ s) (h9 : sg_g σ 61 9 = 0) (hn : sg_g σ 61 23 = n) (hv : yX σ d v la) (hla : la.length = n) (hf : ∀ i, i < n → f i = .inr (nmF ((la.getD i (nmF 0)) []))) (k : ∀ σ', sg_F opL σ σ' → gwX σ σ' 0 ((List.range n).map f) t s → Q σ') : V_fMeasure σ v Q := by
  have n6 := h.2.2.2.2.2.2
  rw [hn] at n6
  have e0 : ∀ j, j ≤ n → fOe ((List.range j).map f) = 0 := fun j hj => fOe_z j (fun i hi => by rw [hf i (by omega)]; rfl)
  unfold V_fMeasure
  rw [hn]
  refine ⟨fun m v σ2 => ∃ j : Nat, v = j ∧ j ≤ n ∧ m = n - j ∧ toX σ2 0 ((List.range j).map (fun i => (la.getD i (nmF 0)) [])) [] [] (fOe ((List.range j).map f)), fun σ2 => toX σ2 0 ((List.range n).map (fun i => (la.getD i (nmF 0)) [])) [] [] (fOe ((List.range n).map f)), ⟨_, 0, rfl, Nat.zero_le _, rfl, toX_0 h.2.1 0⟩, ?_, fun σ2 f2 ht => num_X h hs h9 (sg_F_m f2 rfl) ht (fun i hi _ => hf i hi) (fun σ' f' r' _ => k σ' f' r')⟩
  rintro m v' σ2 rv f2 ⟨j, rfl, hj, hm, ht⟩
  refine ⟨fun z => by rw [show n = j by omega]; exact ht, fun z => ?_⟩
  obtain ⟨c1, c2⟩ := yX_cell h.1 hv (i := j) (by omega)
  have rc : sg_R (v_lCell σ v j) := by
    rw [(y_cell h.1 (yX_c hv).1 (l := (j : Int)) ⟨by omega, by omega⟩).1]; exact sg_Rg _ _ _
  rw [c1] at rc ⊢
  refine ⟨c2, t_first ht (by rw [List.length_map, List.length_range]; omega) rc (fun σ' t' f' _ => ⟨⟨by omega, by omega⟩, n - (j + 1), by omega, j + 1, by omega, by omega, rfl, ?_⟩)⟩
  rw [mrs, e0 (j + 1) (by omega)]
  rw [e0 j hj] at t'
  exact t'
theorem o_combine {kk a b : Int} {da db : Nat} {la lb : List vaF} (hk : 4 ≤ kk ∧ kk ≤ 10) (h : fP σ t) (hs : ctX σ s) (h9 : sg_g σ 61 9 = 0) (hn : sg_g σ 61 23 = n) (ha : yX σ da a la) (hb : yX σ db b lb) (hla : la.length = n) (hlb : lb.length = n) (hf : ∀ i, i < n → f i = if (kk = 9 ∨ kk = 10) ∧ (lb.getD i (nmF 0)) [] = 0 then .inl 1 else .inr (nmF (v_operated kk ((la.getD i (nmF 0)) []) ((lb.getD i (nmF 0)) [])))) (k : ∀ σ', sg_F opL σ σ' → gwX σ σ' 0 ((List.range n).map f) t s → Q σ') : V_fCombine σ (kmp kk) a b Q := by
  have n6 := h.2.2.2.2.2.2
  rw [hn] at n6
  unfold V_fCombine
  rw [hn]
  refine ⟨fun m v σ2 => ∃ j : Nat, v = j ∧ j ≤ n ∧ m = n - j ∧ toX σ2 0 ((List.range j).map (fun i => v_operated kk ((la.getD i (nmF 0)) []) ((lb.getD i (nmF 0)) []))) [] [] (fOe ((List.range j).map f)), fun σ2 => toX σ2 0 ((List.range n).map (fun i => v_operated kk ((la.getD i (nmF 0)) []) ((lb.getD i (nmF 0)) []))) [] [] (fOe ((List.range n).map f)), ⟨_, 0, rfl, Nat.zero_le _, rfl, toX_0 h.2.1 0⟩, ?_, fun σ2 f2 ht => num_X h hs h9 (sg_F_m f2 rfl) ht (fun i hi e => ?_) (fun σ' f' r' _ => k σ' f' r')⟩
  · rintro m v' σ2 rv f2 ⟨j, rfl, hj, hm, ht⟩
    refine ⟨fun z => by rw [show n = j by omega]; exact ht, fun z => ?_⟩
    obtain ⟨c1, c2⟩ := yX_cell h.1 ha (i := j) (by omega)
    obtain ⟨b1, b2⟩ := yX_cell h.1 hb (i := j) (by omega)
    have hfj := hf j (by omega)
    rw [c1, b1]
    refine ⟨b2, fun σ28 => toX σ28 0 ((List.range j).map (fun i => v_operated kk ((la.getD i (nmF 0)) []) ((lb.getD i (nmF 0)) []))) [] [] (fOe ((List.range (j + 1)).map f)), ⟨fun q => ?_, fun q => t_miss ht (by decide) (fun σ' t' f' _ => ?_)⟩, fun σ28 f28 h28 => ⟨c2, axr_b hk (fun rx => t_first h28 (by rw [List.length_map, List.length_range]; omega) rx (fun σ' t' f' _ => ⟨⟨by omega, by omega⟩, n - (j + 1), by omega, j + 1, by omega, by omega, rfl, by rw [mrs]; exact t'⟩))⟩⟩
    · rw [if_neg ((dxz_b hk).mp q)] at hfj
      rw [fOe_r, hfj]
      have : fOe [(.inr (nmF (v_operated kk ((la.getD j (nmF 0)) []) ((lb.getD j (nmF 0)) []))) : Int ⊕ vaF)] = 0 := rfl
      rw [this]
      by_cases c : fOe ((List.range j).map f) = 0
      · rw [if_pos c]; rw [c] at ht; exact ht
      · rw [if_neg c]; exact ht
    · have c : (kk = 9 ∨ kk = 10) ∧ (lb.getD j (nmF 0)) [] = 0 := Decidable.byContradiction (fun w => q ((dxz_b hk).mpr w))
      rw [if_pos c] at hfj
      rw [fOe_r, hfj, fOe_l]
      exact t'
  · have hfi := hf i hi
    by_cases c : (kk = 9 ∨ kk = 10) ∧ (lb.getD i (nmF 0)) [] = 0
    · rw [if_pos c] at hfi
      rw [hfi, fOe_l] at e
      exact absurd e (by decide)
    · rw [if_neg c] at hfi
      exact hfi
end CFS
/-! Operations of the class that pick, exactly. -/
section CGS
variable {w : Nat → vaF}
theorem flw_s (j : Nat) : flF ((List.range (j + 1)).map w) = flF ((List.range j).map w) ++ itF (w j) := by
  rw [mrs, flF_a, flF_1]
theorem flw_l : ∀ {j : Nat}, (∀ i, i < j → (w i) [] ≤ 200) → (flF ((List.range j).map w)).length ≤ 200 * j
  | 0, _ => by simp [flF]
  | j + 1, h => by
    have a := flw_l (j := j) (fun i hi => h i (by omega))
    have b := h j (by omega)
    rw [flw_s, List.length_append, itF_l]
    omega
theorem exF_pre (D : Nat) {j n : Nat} (h : j ≤ n) : exF D ((List.range j).map w) ≤ exF D ((List.range n).map w) := by
  obtain ⟨m, rfl⟩ : ∃ m, n = j + m := ⟨n - j, by omega⟩
  have e : (List.range (j + m)).map w = (List.range j).map w ++ (List.range m).map (fun i => w (j + i)) := by
    rw [List.range_add, List.map_append, List.map_map]; rfl
  rw [e, exF_a]
  have := exF_p D ((List.range m).map (fun i => w (j + i)))
  omega
end CGS
/-- items a .. b of lane j -/
theorem pkX_it {σ : sg_S} (g : yG σ) {d : Nat} {s : Int} {la : List vaF} (h : yX σ (d + 1) s la) {j a b : Nat} (hj : j < la.length) (ab : a ≤ b) (hb : b ≤ (itF (la.getD j (nmF 0))).length) : pkX σ d (v_lItems σ s) ((ahF la j + a : Nat) : Int) ((ahF la j + b : Nat) : Int) (((itF (la.getD j (nmF 0))).drop a).take (b - a)) := by
  right
  have nx := h.2.2.2
  rw [← y_items g h.1] at nx
  have le := ahF_b hj
  refine ⟨flF la, nx, by omega, by omega, by omega, ?_⟩
  rw [Int.toNat_natCast, show (((ahF la j + b : Nat) : Int) - ((ahF la j + a : Nat) : Int)).toNat = b - a by omega, flF_at hj]
  have e5 : ahF la j = (flF (la.take j)).length := rfl
  rw [e5, ← List.drop_drop, List.drop_left, List.drop_append_of_le_length (by omega), List.take_append_of_le_length (by rw [List.length_drop]; omega)]
theorem pkX_1 {σ : sg_S} (g : yG σ) {d : Nat} {s : Int} {la : List vaF} (h : yX σ (d + 1) s la) {j a : Nat} (hj : j < la.length) (ha : a < (itF (la.getD j (nmF 0))).length) : pkX σ d (v_lItems σ s) ((ahF la j + a : Nat) : Int) (((ahF la j + a : Nat) : Int) + 1) [(itF (la.getD j (nmF 0))).getD a (nmF 0)] := by
  have := pkX_it g h hj (a := a) (b := a + 1) (by omega) (by omega)
  rw [show ((ahF la j + (a + 1) : Nat) : Int) = ((ahF la j + a : Nat) : Int) + 1 by omega, show a + 1 - a = 1 by omega, dr_D ha] at this
  exact this
theorem itR {σ : sg_S} {v : Int} : sg_R (v_lItems σ v) := by
  unfold v_lItems
  repeat' split
  all_goals first | exact sg_Rg _ _ _ | decide
/-- cells, starts, ends of lane j of a sequence -/
theorem yX_ln {σ : sg_S} (g : yG σ) {d : Nat} {s : Int} {la : List vaF} (h : yX σ (d + 1) s la) {j : Nat} (hj : j < la.length) : v_lCell σ s j = ((itF (la.getD j (nmF 0))).length : Int) ∧ v_lStart σ s j = (ahF la j : Int) ∧ v_lEnd σ s j = ((ahF la j + (itF (la.getD j (nmF 0))).length : Nat) : Int) ∧ (itF (la.getD j (nmF 0))).length ≤ 200 ∧ ahF la j + (itF (la.getD j (nmF 0))).length ≤ 6000 ∧ p_lCell σ s j ∧ p_lStart σ s j ∧ p_lEnd σ s j := by
  obtain ⟨b1, b2, b3, b4, b5, b6, b7, b8, b9, b10⟩ := y_lane g (yX_V h) (l := (j : Int)) ⟨by omega, by omega⟩
  obtain ⟨c1, c2⟩ := yX_cell g h hj
  obtain ⟨s1, s2, s3⟩ := yX_st g h hj
  have q := (h.2.1 j hj).2
  rw [ahF_s hj] at s3
  have il := itF_l (la.getD j (nmF 0))
  refine ⟨by rw [c1]; omega, s1, s3, by omega, ?_, c2, s2, b10⟩
  rw [s3] at b6
  omega
/-- what was told of n lanes of sequences -/
theorem str_X {σ σ2 : sg_S} {t : Int} {n d : Nat} {f : Nat → Int ⊕ vaF} {s : fSt} {Q : sg_S → Prop} (h : fP σ t) (hs : ctX σ s) (hD : d + 1 ≤ 3) (h9 : sg_g σ 61 9 = (d + 1 : Nat)) (f2 : sg_F acL σ σ2) (ht : toX σ2 d ((List.range n).map (fun i => (fOv (f i)) [])) [] (flF ((List.range n).map (fun i => fOv (f i)))) (fOe ((List.range n).map f)) ∨ (¬ sg_g σ2 77 15 = 0 ∧ 6000 < exF (d + 1) ((List.range n).map (fun i => fOv (f i))))) (hf : ∀ i, i < n → 0 ≤ (fOv (f i)) [] ∧ (fOv (f i)) [] ≤ 200) (k : ∀ σ', sg_F opL σ σ' → gwX σ σ' (d + 1) ((List.range n).map f) t s → Q σ') : V_fGive σ2 1 Q := by
  have eL : ((List.range n).map f).map fOv = (List.range n).map (fun i => fOv (f i)) := by rw [List.map_map]; rfl
  have fin : ∀ σ', sg_F opL σ σ' → gvX σ σ' (d + 1) ((List.range n).map (fun i => fOv (f i))) (fOe ((List.range n).map f)) t s → Q σ' := fun σ' f' r' => k σ' f' ⟨_, by rw [eL], fun _ => eL.symm, r'⟩
  rcases ht with ht | ht
  · refine f_giveX (D := d + 1) (f := 1) (L := (List.range n).map (fun i => fOv (f i))) h hs hD h9 (by decide) f2 ht (Or.inr (Or.inl ⟨rfl, by rw [List.map_map]; rfl, rfl, Or.inr ⟨by omega, rfl, fun v hv => ?_⟩⟩)) (Or.inl (by omega)) fin
    obtain ⟨i, hi, e⟩ := List.mem_map.mp hv
    rw [← e]
    exact hf i (List.mem_range.mp hi)
  · exact f_giveG (D := d + 1) (f := 1) h hs hD h9 (by decide) f2 (Or.inr ht) fin
/-- there is no room in the first j lanes, so there is none in n -/
theorem str_O {σ2 : sg_S} {n d j : Nat} {f : Nat → Int ⊕ vaF} (ht : toX σ2 d ((List.range j).map (fun i => (fOv (f i)) [])) [] (flF ((List.range j).map (fun i => fOv (f i)))) (fOe ((List.range j).map f))) (hf : ∀ i, i < n → 0 ≤ (fOv (f i)) [] ∧ (fOv (f i)) [] ≤ 200) (hj : j ≤ n) (o : ¬ sg_g σ2 77 15 = 0) : 6000 < exF (d + 1) ((List.range n).map (fun i => fOv (f i))) := by
  obtain ⟨q1, q2, q3, q4⟩ := toX_s (f := 1) (D := d + 1) (L := (List.range j).map (fun i => fOv (f i))) ht (Or.inr (Or.inl ⟨rfl, by rw [List.map_map]; rfl, rfl, Or.inr ⟨by omega, rfl, fun v hv => by
    obtain ⟨i, hi, e⟩ := List.mem_map.mp hv
    rw [← e]
    exact hf i (by have := List.mem_range.mp hi; omega)⟩⟩)) (Or.inl (by omega))
  have a := q2 (by omega)
  have b := exF_pre (w := fun i => fOv (f i)) (d + 1) hj
  omega
/-- lanes were picked -/
theorem pic_X {σ σ2 : sg_S} {t : Int} {n d : Nat} {f : Nat → Int ⊕ vaF} {s : fSt} {Q : sg_S → Prop} (h : fP σ t) (hs : ctX σ s) (hD : d ≤ 3) (h9 : sg_g σ 61 9 = d) (f2 : sg_F acL σ σ2) (ht : toX σ2 d [] [] ((List.range n).map (fun i => fOv (f i))) (fOe ((List.range n).map f))) (k : ∀ σ', sg_F opL σ σ' → gwX σ σ' d ((List.range n).map f) t s → Q σ') : V_fGive σ2 0 Q := by
  have eL : ((List.range n).map f).map fOv = (List.range n).map (fun i => fOv (f i)) := by rw [List.map_map]; rfl
  exact f_giveX (D := d) (f := 0) (L := (List.range n).map (fun i => fOv (f i))) h hs hD h9 (by decide) f2 ht (Or.inl ⟨rfl, rfl, rfl, rfl⟩) (Or.inl (by omega)) (fun σ' f' r' => k σ' f' ⟨_, by rw [eL], fun _ => eL.symm, r'⟩)
theorem bad_x {x : Int} (h : 0 ≤ x ∧ x ≤ 200) : v_xBadSize x = 0 := by
  unfold v_xBadSize
  rw [if_neg (by omega), if_pos (by omega)]
theorem fOe_nx {f : Nat → Int ⊕ vaF} {j : Nat} {v : vaF} (h : f j = .inr v) : fOe ((List.range (j + 1)).map f) = fOe ((List.range j).map f) := by
  rw [fOe_r, h]
  by_cases c : fOe ((List.range j).map f) = 0
  · rw [if_pos c, c]; rfl
  · rw [if_neg c]
theorem fOe_f {f : Nat → Int ⊕ vaF} {j : Nat} {e : Int} (h : f j = .inl e) : fOe ((List.range (j + 1)).map f) = if fOe ((List.range j).map f) = 0 then e else fOe ((List.range j).map f) := by
  rw [fOe_r, h, fOe_l]
section CGT
variable {σ : sg_S} {t : Int} {n d : Nat} {f : Nat → Int ⊕ vaF} {s : fSt} {Q : sg_S → Prop}
theorem o_select {db : Nat} {a b : Int} {la lb : List vaF} (h : fP σ t) (hs : ctX σ s) (hD : d ≤ 3) (h9 : sg_g σ 61 9 = d) (hn : sg_g σ 61 23 = n) (ha : yX σ (d + 1) a la) (hb : yX σ db b lb) (hla : la.length = n) (hlb : lb.length = n) (hf : ∀ i, i < n → f i = if 0 ≤ (lb.getD i (nmF 0)) [] ∧ (lb.getD i (nmF 0)) [] < ((itF (la.getD i (nmF 0))).length : Int) then .inr ((itF (la.getD i (nmF 0))).getD ((lb.getD i (nmF 0)) []).toNat (nmF 0)) else .inl 2) (k : ∀ σ', sg_F opL σ σ' → gwX σ σ' d ((List.range n).map f) t s → Q σ') : V_fSelect σ a b Q := by
  have n6 := h.2.2.2.2.2.2
  rw [hn] at n6
  unfold V_fSelect
  rw [hn]
  refine ⟨fun m v σ2 => ∃ j : Nat, v = j ∧ j ≤ n ∧ m = n - j ∧ toX σ2 d [] [] ((List.range j).map (fun i => fOv (f i))) (fOe ((List.range j).map f)), fun σ2 => toX σ2 d [] [] ((List.range n).map (fun i => fOv (f i))) (fOe ((List.range n).map f)), ⟨_, 0, rfl, Nat.zero_le _, rfl, toX_0 h.2.1 d⟩, ?_, fun σ2 f2 ht => pic_X h hs hD h9 (sg_F_m f2 rfl) ht (fun σ' f' r' _ => k σ' f' r')⟩
  rintro m v' σ2 rv f2 ⟨j, rfl, hj, hm, ht⟩
  refine ⟨fun z => by rw [show n = j by omega]; exact ht, fun z => ?_⟩
  have jl : j < la.length := by omega
  obtain ⟨l1, l2, l3, l4, l5, l6, l7, l8⟩ := yX_ln h.1 ha jl
  obtain ⟨b1, b2⟩ := yX_cell h.1 hb (i := j) (by omega)
  have hfj := hf j (by omega)
  have ex2 : yEx σ σ2 := yEx_F f2 rfl
  have fl6 : ((List.range j).map (fun i => fOv (f i))).length ≤ 1000000000 := by rw [List.length_map, List.length_range]; omega
  rw [b1, l1, l2]
  generalize hy : (lb.getD j (nmF 0)) [] = y at hfj
  have fault : ¬ (0 ≤ y ∧ y < ((itF (la.getD j (nmF 0))).length : Int)) → V_lMiss σ2 2 (fun σ34 => sg_F [15077] σ2 σ34 → V_lPick σ34 (-1) 0 1 (fun σ40 => sg_F [85, 86, 87, 14077, 16077] σ34 σ40 → toX σ40 d [] [] ((List.range (j + 1)).map (fun i => fOv (f i))) (fOe ((List.range (j + 1)).map f)))) := fun c => by
    rw [if_neg c] at hfj
    refine t_miss ht (by decide) (fun σ' t' f' _ => t_pick t' fl6 (Or.inl ⟨rfl, rfl, Or.inl ⟨rfl, rfl⟩⟩) (by decide) (by decide) (fun σ3 t3 f3 _ => ?_))
    rw [mrs, fOe_f hfj, hfj]
    exact t3
  refine ⟨b2, fun σ28 => toX σ28 d [] [] ((List.range (j + 1)).map (fun i => fOv (f i))) (fOe ((List.range (j + 1)).map f)), ⟨fun c => fault (by omega), fun c => ⟨l6, fun c2 => ?_, fun c2 => fault (by omega)⟩⟩, fun σ28 f28 h28 => ⟨⟨by omega, by omega⟩, n - (j + 1), by omega, j + 1, by omega, by omega, rfl, h28⟩⟩
  rw [if_pos ⟨c, c2⟩] at hfj
  have pk := pkX_1 h.1 ha jl (a := y.toNat) (by omega)
  rw [show ((ahF la j + y.toNat : Nat) : Int) = (ahF la j : Int) + y by omega] at pk
  refine ⟨l7, ⟨by omega, by omega⟩, y_pitems _ _, ⟨by omega, by omega⟩, t_pick ht fl6 (pkX_up ex2 pk) itR ⟨by omega, by omega⟩ (fun σ3 t3 f3 _ => ?_)⟩
  rw [mrs, fOe_nx hfj, hfj]
  exact t3
theorem o_reverse {a : Int} {la : List vaF} (h : fP σ t) (hs : ctX σ s) (hD : d + 1 ≤ 3) (h9 : sg_g σ 61 9 = (d + 1 : Nat)) (hn : sg_g σ 61 23 = n) (ha : yX σ (d + 1) a la) (hla : la.length = n) (hf : ∀ i, i < n → f i = .inr (mkF (itF (la.getD i (nmF 0))).reverse)) (k : ∀ σ', sg_F opL σ σ' → gwX σ σ' (d + 1) ((List.range n).map f) t s → Q σ') : V_fReverse σ a Q := by
  have n6 := h.2.2.2.2.2.2
  rw [hn] at n6
  have hb : ∀ i, i < n → 0 ≤ (fOv (f i)) [] ∧ (fOv (f i)) [] ≤ 200 := fun i hi => by
    rw [hf i hi]
    show 0 ≤ mkF _ [] ∧ mkF _ [] ≤ 200
    rw [mkF_0, List.length_reverse]
    have := (yX_ln h.1 ha (j := i) (by omega)).2.2.2.1
    omega
  unfold V_fReverse
  rw [hn]
  refine ⟨fun m v σ2 => ∃ j : Nat, v = j ∧ j ≤ n ∧ m = n - j ∧ toX σ2 d ((List.range j).map (fun i => (fOv (f i)) [])) [] (flF ((List.range j).map (fun i => fOv (f i)))) (fOe ((List.range j).map f)), fun σ2 => toX σ2 d ((List.range n).map (fun i => (fOv (f i)) [])) [] (flF ((List.range n).map (fun i => fOv (f i)))) (fOe ((List.range n).map f)), ⟨_, 0, rfl, Nat.zero_le _, rfl, toX_0 h.2.1 d⟩, ?_, fun σ2 f2 ht => str_X h hs hD h9 (sg_F_m f2 rfl) (Or.inl ht) hb (fun σ' f' r' _ => k σ' f' r')⟩
  rintro m v' σ2 rv f2 ⟨j, rfl, hj, hm, ht⟩
  refine ⟨fun z => by rw [show n = j by omega]; exact ht, fun z => ?_⟩
  have jl : j < la.length := by omega
  obtain ⟨l1, l2, l3, l4, l5, l6, l7, l8⟩ := yX_ln h.1 ha jl
  have hfj := hf j (by omega)
  have fl6 := flw_l (w := fun i => fOv (f i)) (j := j) (fun i hi => (hb i (by omega)).2)
  rw [l1, l2, l3]
  generalize hI : itF (la.getD j (nmF 0)) = I at *
  refine ⟨l7, l6, t_first ht (by rw [List.length_map, List.length_range]; omega) ⟨by omega, by omega⟩ (fun σ28 t28 f28 _ => ⟨l8, ⟨by omega, by omega⟩, ?_⟩)⟩
  have f28' := sg_F_t (sg_F_m (L := [83, 85, 86, 87, 12077, 14077, 16077]) f2 rfl) (sg_F_m f28 rfl)
  have e1 : (List.range j).map (fun i => (fOv (f i)) []) ++ [((I.length : Nat) : Int)] = (List.range (j + 1)).map (fun i => (fOv (f i)) []) := by
    rw [mrs, hfj]
    show _ = _ ++ [mkF I.reverse []]
    rw [mkF_0, List.length_reverse]
  rw [e1] at t28
  refine ⟨fun m2 v36 σ37 => ∃ i : Nat, v36 = ((ahF la j + I.length : Nat) : Int) - 1 - i ∧ i ≤ I.length ∧ m2 = I.length - i ∧ toX σ37 d ((List.range (j + 1)).map (fun i => (fOv (f i)) [])) [] (flF ((List.range j).map (fun i => fOv (f i))) ++ I.reverse.take i) (fOe ((List.range j).map f)), fun σ37 => toX σ37 d ((List.range (j + 1)).map (fun i => (fOv (f i)) [])) [] (flF ((List.range (j + 1)).map (fun i => fOv (f i)))) (fOe ((List.range (j + 1)).map f)), ⟨_, 0, by omega, Nat.zero_le _, rfl, by rw [List.take_zero, List.append_nil]; exact t28⟩, ?_, fun σ37 f37 h37 => ⟨⟨by omega, by omega⟩, n - (j + 1), by omega, j + 1, by omega, by omega, rfl, h37⟩⟩
  rintro m2 v36 σ37 r36 f37 ⟨i, rfl, hi1, hm2, ht2⟩
  have ex37 : yEx σ σ37 := yEx_F (sg_F_t f28' (sg_F_m f37 rfl)) rfl
  refine ⟨fun y => ?_, fun y => ?_⟩
  · have ei : i = I.length := by omega
    rw [flw_s, fOe_nx hfj, hfj]
    show toX σ37 d _ [] (_ ++ itF (mkF I.reverse)) _
    rw [itF_mk]
    rw [ei, List.take_of_length_le (by rw [List.length_reverse]; exact Nat.le_refl _)] at ht2
    exact ht2
  · have il : i < I.length := by omega
    have pk := pkX_1 h.1 ha jl (a := I.length - 1 - i) (by rw [hI]; omega)
    rw [hI, show ((ahF la j + (I.length - 1 - i) : Nat) : Int) = ((ahF la j + I.length : Nat) : Int) - 1 - i by omega] at pk
    refine ⟨y_pitems _ _, ⟨by omega, by omega⟩, t_pick ht2 (by rw [List.length_append, List.length_take]; omega) (pkX_up ex37 pk) itR ⟨by omega, by omega⟩ (fun σ3 t3 f3 _ => ⟨⟨by omega, by omega⟩, I.length - (i + 1), by omega, i + 1, by omega, by omega, rfl, ?_⟩)⟩
    have e2 : I.reverse[i]? = some (I.getD (I.length - 1 - i) (nmF 0)) := by
      rw [List.getElem?_reverse il, gD_i (by omega)]
    rw [tkA e2, ← List.append_assoc]
    exact t3
theorem o_append {a b : Int} {la lb : List vaF} (h : fP σ t) (hs : ctX σ s) (hD : d + 1 ≤ 3) (h9 : sg_g σ 61 9 = (d + 1 : Nat)) (hn : sg_g σ 61 23 = n) (ha : yX σ (d + 1) a la) (hb : yX σ (d + 1) b lb) (hla : la.length = n) (hlb : lb.length = n) (hf : ∀ i, i < n → f i = if (itF (la.getD i (nmF 0))).length + (itF (lb.getD i (nmF 0))).length ≤ 200 then .inr (mkF (itF (la.getD i (nmF 0)) ++ itF (lb.getD i (nmF 0)))) else .inl 5) (k : ∀ σ', sg_F opL σ σ' → gwX σ σ' (d + 1) ((List.range n).map f) t s → Q σ') : V_fAppend σ a b Q := by
  have n6 := h.2.2.2.2.2.2
  rw [hn] at n6
  have hbd : ∀ i, i < n → 0 ≤ (fOv (f i)) [] ∧ (fOv (f i)) [] ≤ 200 := fun i hi => by
    rw [hf i hi]
    by_cases c : (itF (la.getD i (nmF 0))).length + (itF (lb.getD i (nmF 0))).length ≤ 200
    · rw [if_pos c]
      show 0 ≤ mkF _ [] ∧ mkF _ [] ≤ 200
      rw [mkF_0, List.length_append]
      omega
    · rw [if_neg c]
      exact ⟨by decide, by decide⟩
  unfold V_fAppend
  rw [hn]
  refine ⟨fun m v σ2 => ∃ j : Nat, v = j ∧ j ≤ n ∧ m = n - j ∧ toX σ2 d ((List.range j).map (fun i => (fOv (f i)) [])) [] (flF ((List.range j).map (fun i => fOv (f i)))) (fOe ((List.range j).map f)), fun σ2 => toX σ2 d ((List.range n).map (fun i => (fOv (f i)) [])) [] (flF ((List.range n).map (fun i => fOv (f i)))) (fOe ((List.range n).map f)), ⟨_, 0, rfl, Nat.zero_le _, rfl, toX_0 h.2.1 d⟩, ?_, fun σ2 f2 ht => str_X h hs hD h9 (sg_F_m f2 rfl) (Or.inl ht) hbd (fun σ' f' r' _ => k σ' f' r')⟩
  rintro m v' σ2 rv f2 ⟨j, rfl, hj, hm, ht⟩
  refine ⟨fun z => by rw [show n = j by omega]; exact ht, fun z => ?_⟩
  obtain ⟨l1, l2, l3, l4, l5, l6, l7, l8⟩ := yX_ln h.1 ha (j := j) (by omega)
  obtain ⟨k1, k2, k3, k4, k5, k6, k7, k8⟩ := yX_ln h.1 hb (j := j) (by omega)
  have hfj := hf j (by omega)
  have fl6 := flw_l (w := fun i => fOv (f i)) (j := j) (fun i hi => (hbd i (by omega)).2)
  have pa := pkX_it h.1 ha (j := j) (a := 0) (b := (itF (la.getD j (nmF 0))).length) (by omega) (by omega) (Nat.le_refl _)
  have pb := pkX_it h.1 hb (j := j) (a := 0) (b := (itF (lb.getD j (nmF 0))).length) (by omega) (by omega) (Nat.le_refl _)
  rw [Nat.add_zero, List.drop_zero, Nat.sub_zero, List.take_length] at pa pb
  rw [l1, l2, l3, k1, k2, k3]
  generalize itF (la.getD j (nmF 0)) = I at *
  generalize itF (lb.getD j (nmF 0)) = K at *
  refine ⟨l6, k6, ⟨by omega, by omega⟩, fun σ31 => toX σ31 d ((List.range (j + 1)).map (fun i => (fOv (f i)) [])) [] (flF ((List.range (j + 1)).map (fun i => fOv (f i)))) (fOe ((List.range (j + 1)).map f)), ⟨fun y => ?_, fun y => ?_⟩, fun σ31 f31 h31 => ⟨⟨by omega, by omega⟩, n - (j + 1), by omega, j + 1, by omega, by omega, rfl, h31⟩⟩
  · have bx := x_bad y
    rw [if_pos (by omega)] at hfj
    refine t_first ht (by rw [List.length_map, List.length_range]; omega) ⟨by omega, by omega⟩ (fun σ37 t37 f37 _ => ⟨y_pitems _ _, l7, l8, ?_⟩)
    have ex37 : yEx σ σ37 := yEx_F (sg_F_t f2 (sg_F_m f37 rfl)) rfl
    refine t_pick t37 (by omega) (pkX_up ex37 pa) itR ⟨by omega, by omega⟩ (fun σ49 t49 f49 _ => ⟨y_pitems _ _, k7, k8, ?_⟩)
    have ex49 : yEx σ σ49 := yEx_t ex37 (yEx_F f49 rfl)
    refine t_pick t49 (by rw [List.length_append]; omega) (pkX_up ex49 pb) itR ⟨by omega, by omega⟩ (fun σ61 t61 f61 _ => ?_)
    rw [mrs, flw_s, fOe_nx hfj, hfj]
    show toX σ61 d (_ ++ [mkF (I ++ K) []]) [] (_ ++ itF (mkF (I ++ K))) _
    rw [itF_mk, mkF_0, List.length_append, ← List.append_assoc]
    rw [show ((I.length + K.length : Nat) : Int) = (I.length : Int) + (K.length : Int) by omega]
    exact t61
  · have nb : ¬ I.length + K.length ≤ 200 := fun c => y (bad_x (by omega))
    rw [if_neg nb] at hfj
    refine t_miss ht (by decide) (fun σ67 t67 f67 _ => t_first t67 (by rw [List.length_map, List.length_range]; omega) (by decide) (fun σ73 t73 f73 _ => ?_))
    rw [mrs, flw_s, fOe_f hfj, hfj]
    show toX σ73 d (_ ++ [0]) [] (_ ++ itF (nmF 0)) _
    rw [show itF (nmF 0) = [] by simp [itF, nmF], List.append_nil]
    exact t73
end CGT
