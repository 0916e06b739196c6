/-! what was told, in one; give of the class, exactly. -/
def pX (σ : sg_S) (d : Nat) (P : List (Int × Int × Int)) (qs : List (List vaF)) : Prop := P.length = qs.length ∧ ∀ (i : Nat) (x : Int × Int × Int) (q : List vaF), P[i]? = some x → qs[i]? = some q → pkX σ d x.1 x.2.1 x.2.2 q ∧ 1 ≤ q.length
/-- firsts F, seconds S, lanes of depth d picked: fl, a FINDING e -/
def toX (σ : sg_S) (d : Nat) (F S : List Int) (fl : List vaF) (e : Int) : Prop := ∃ P qs, tlX σ F S P e ∧ pX σ d P qs ∧ qs.flatten = fl
theorem toX_0 {σ : sg_S} (h : y0 σ) (d : Nat) : toX σ d [] [] [] 0 := ⟨[], [], tlX_0 h, ⟨rfl, fun i x q hx => by simp at hx⟩, rfl⟩
theorem fl_len : ∀ {qs : List (List vaF)}, (∀ q ∈ qs, 1 ≤ q.length) → qs.length ≤ qs.flatten.length
  | [], _ => Nat.le_refl _
  | q :: r, h => by
    have a := h q (by simp)
    have b := fl_len (qs := r) (fun q hq => h q (by simp [hq]))
    rw [List.flatten_cons, List.length_append, List.length_cons]
    omega
theorem pX_l {σ : sg_S} {d : Nat} {P : List (Int × Int × Int)} {qs : List (List vaF)} (h : pX σ d P qs) : P.length ≤ qs.flatten.length := by
  rw [h.1]
  refine fl_len (fun q hq => ?_)
  obtain ⟨i, hi⟩ := List.mem_iff_getElem?.mp hq
  have := gE_l hi
  obtain ⟨x, hx⟩ : ∃ x, P[i]? = some x := ⟨_, List.getElem?_eq_getElem (by rw [h.1]; exact this)⟩
  exact (h.2 i x q hx hi).2
theorem pX_up {σ σ' : sg_S} (ex : yEx σ σ') {d : Nat} {P : List (Int × Int × Int)} {qs : List (List vaF)} (h : pX σ d P qs) : pX σ' d P qs := ⟨h.1, fun i x q hx hq => ⟨pkX_up ex (h.2 i x q hx hq).1, (h.2 i x q hx hq).2⟩⟩
theorem toX_F {L : List Nat} {σ σ' : sg_S} {d : Nat} {F S : List Int} {fl : List vaF} {e : Int} (h : toX σ d F S fl e) (f : sg_F L σ σ') (ex : yEx σ σ') (hL : (!sg_cv L 77 11 && !sg_cv L 77 12 && !sg_cv L 77 13 && !sg_cv L 77 14 && !sg_cv L 77 15 && sg_ca L 83 && sg_ca L 84 && sg_ca L 85 && sg_ca L 86 && sg_ca L 87) = true) : toX σ' d F S fl e := by
  obtain ⟨P, qs, h1, h2, h3⟩ := h
  exact ⟨P, qs, tlX_F h1 f hL, pX_up ex h2, h3⟩
section CES
variable {σ : sg_S} {d : Nat} {F S : List Int} {fl : List vaF} {e x : Int} {Q : sg_S → Prop}
theorem t_miss (h : toX σ d F S fl e) (hx : sg_R x) (k : ∀ σ', toX σ' d F S fl (if e = 0 then x else e) → sg_F [15077] σ σ' → Q σ') : V_lMiss σ x Q := by
  obtain ⟨P, qs, h1, h2, h3⟩ := h
  exact x_miss h1 hx (fun σ' t f => k σ' ⟨P, qs, t, pX_up (yEx_F f rfl) h2, h3⟩ f)
theorem t_first (h : toX σ d F S fl e) (hb : F.length ≤ 1000000000) (hx : sg_R x) (k : ∀ σ', toX σ' d (F ++ [x]) S fl e → sg_F [83, 12077, 16077] σ σ' → Q σ') : V_lFirst σ x Q := by
  obtain ⟨P, qs, h1, h2, h3⟩ := h
  exact x_first h1 hb hx (fun σ' t f => k σ' ⟨P, qs, t, pX_up (yEx_F f rfl) h2, h3⟩ f)
theorem t_second (h : toX σ d F S fl e) (hb : S.length ≤ 1000000000) (hx : sg_R x) (k : ∀ σ', toX σ' d F (S ++ [x]) fl e → sg_F [84, 13077, 16077] σ σ' → Q σ') : V_lSecond σ x Q := by
  obtain ⟨P, qs, h1, h2, h3⟩ := h
  exact x_second h1 hb hx (fun σ' t f => k σ' ⟨P, qs, t, pX_up (yEx_F f rfl) h2, h3⟩ f)
theorem t_pick {lo hi : Int} {q : List vaF} (h : toX σ d F S fl e) (hb : fl.length ≤ 1000000000) (hp : pkX σ d x lo hi q) (hx : sg_R x) (hhi : sg_R hi) (k : ∀ σ', toX σ' d F S (fl ++ q) e → sg_F [85, 86, 87, 14077, 16077] σ σ' → Q σ') : V_lPick σ x lo hi Q := by
  obtain ⟨P, qs, h1, h2, h3⟩ := h
  obtain ⟨b1, b2, b3⟩ := pkX_l hp
  have pl := pX_l h2
  rw [h3] at pl
  refine x_pick h1 (by omega) hx ⟨by omega, by have := hhi.2; omega⟩ hhi (fun σ' t f => ?_)
  have ex : yEx σ σ' := yEx_F f rfl
  by_cases c : lo < hi
  · rw [if_pos c] at t
    refine k σ' ⟨P ++ [(x, lo, hi)], qs ++ [q], t, ⟨by rw [List.length_append, List.length_append, h2.1]; rfl, fun i y w hy hw => ?_⟩, by rw [List.flatten_append, h3, List.flatten_cons, List.flatten_nil, List.append_nil]⟩ f
    rcases Nat.lt_or_ge i P.length with z | z
    · rw [List.getElem?_append_left z] at hy
      rw [List.getElem?_append_left (by rw [← h2.1]; exact z)] at hw
      exact ⟨pkX_up ex (h2.2 i y w hy hw).1, (h2.2 i y w hy hw).2⟩
    · rw [List.getElem?_append_right z] at hy
      rw [List.getElem?_append_right (by rw [← h2.1]; exact z), ← h2.1] at hw
      have ei : i - P.length = 0 := by
        rcases Nat.eq_zero_or_pos (i - P.length) with u | u
        · exact u
        · rw [List.getElem?_eq_none (by simp; omega)] at hy; cases hy
      rw [ei] at hy hw
      cases hy
      cases hw
      exact ⟨pkX_up ex hp, by omega⟩
  · rw [if_neg c] at t
    have eq : q = [] := List.eq_nil_of_length_eq_zero (by omega)
    refine k σ' ⟨P, qs, t, pX_up ex h2, by rw [h3, eq, List.append_nil]⟩ f
end CES
/-- STEPS and CELLS of the class -/
def ctX (σ : sg_S) (s : fSt) : Prop := sg_g σ 77 17 = s.1 ∧ sg_g σ 77 16 = s.2.1 ∧ sg_g σ 61 24 = s.2.2 ∧ (0 ≤ s.1 ∧ s.1 ≤ 2000) ∧ 0 ≤ s.2.1 ∧ s.2.1 ≤ 6000
theorem ctX_F {L : List Nat} {σ σ' : sg_S} {s : fSt} (f : sg_F L σ σ') (hL : (!sg_cv L 77 17 && !sg_cv L 77 16 && !sg_cv L 61 24) = true) (h : ctX σ s) : ctX σ' s := by
  simp only [Bool.and_eq_true, Bool.not_eq_true'] at hL
  exact ⟨by rw [sg_F_g f hL.1.1]; exact h.1, by rw [sg_F_g f hL.1.2]; exact h.2.1, by rw [sg_F_g f hL.2]; exact h.2.2.1, h.2.2.2⟩
/-- what an operation comes to -/
def gvX (σ σ' : sg_S) (D : Nat) (L : List vaF) (e t : Int) (s : fSt) : Prop := (fStp (exF D L) s = none ∧ sg_g σ' 61 10 = 8 ∧ ctX σ' s) ∨ ∃ s1, fStp (exF D L) s = some s1 ∧ sg_g σ' 61 10 = e ∧ ctX σ' s1 ∧ yEx σ σ' ∧ yG σ' ∧ y0 σ' ∧ yX σ' D (sg_g σ' 64 t) L ∧ sg_g σ' 61 7 = t + 1 ∧ (∀ i, ¬ i = t → sg_g σ' 64 i = sg_g σ 64 i) ∧ sg_g σ' 77 10 ≤ sg_g σ 77 10 + 4
/-- what was told stands for L -/
def tsF (f D : Nat) (F S : List Int) (fl L : List vaF) : Prop := (f = 0 ∧ F = [] ∧ S = [] ∧ fl = L) ∨ (f = 1 ∧ F = L.map (fun v => v []) ∧ S = [] ∧ ((D = 0 ∧ fl = []) ∨ (1 ≤ D ∧ fl = flF L ∧ ∀ v ∈ L, 0 ≤ v [] ∧ v [] ≤ 200))) ∨ (f = 2 ∧ 1 ≤ D ∧ F = L.map (fun v => v []) ∧ S = (flF L).map (fun v => v []) ∧ (∀ v ∈ L, 0 ≤ v [] ∧ v [] ≤ 200) ∧ ((D = 1 ∧ fl = []) ∨ (2 ≤ D ∧ fl = flF (flF L) ∧ ∀ v ∈ flF L, 0 ≤ v [] ∧ v [] ≤ 200)))
theorem mem_D {L : List vaF} {p : vaF → Prop} (h : ∀ v ∈ L, p v) (i : Nat) (hi : i < L.length) : p (L.getD i (nmF 0)) := h _ (List.mem_of_getElem? (gD_i hi))
theorem row_D {σ : sg_S} {a : Nat} {L : List vaF} (h6 : L.length ≤ 6000) (h : ∀ (i : Nat) (x : Int), (L.map (fun v => v []))[i]? = some x → i < 6000 → sg_g σ a i = x) : ∀ i : Nat, i < L.length → sg_g σ a i = (L.getD i (nmF 0)) [] := fun i hi => h i _ (getD_m hi) (by omega)
/-- what was told is what is to be stored; or there is no room for it -/
theorem toX_s {σ : sg_S} {f D d : Nat} {F S : List Int} {fl L : List vaF} {e : Int} (h : toX σ d F S fl e) (hs : tsF f D F S fl L) (hd : D = d + f ∨ (D < d + f ∧ fl = [])) : (sg_g σ 77 15 = 0 → srX σ f 0 D L) ∧ (sg_g σ 77 15 = 1 → 6000 < exF D L) ∧ (sg_g σ 77 15 = 0 ∨ sg_g σ 77 15 = 1) ∧ sg_g σ 77 14 = e := by
  obtain ⟨P, qs, ⟨⟨a1, a2, a3, a4⟩, a5, a6, a7, a8⟩, h2, h3⟩ := h
  have pl := pX_l h2
  rw [h3] at pl
  have xn := exF_n D L
  have pk : P.length ≤ 6000 → ∀ d', d' = d ∨ fl = [] → srP σ d' fl := fun p6 d' hd' => by
    refine ⟨qs, ⟨by rw [a3, h2.1], by rw [← h2.1]; exact p6, fun i q hq => ?_⟩, h3⟩
    have hi := gE_l hq
    obtain ⟨x, hx⟩ : ∃ x, P[i]? = some x := ⟨_, List.getElem?_eq_getElem (by rw [h2.1]; exact hi)⟩
    obtain ⟨r1, r2, r3⟩ := a8 i x hx (by have := h2.1; omega)
    obtain ⟨k1, k2⟩ := h2.2 i x q hx hq
    rcases hd' with z | z
    · rw [z, r1, r2, r3]; exact k1
    · rw [z] at pl
      simp only [List.length_nil] at pl
      have := h2.1
      omega
  refine ⟨fun z => ?_, fun z => ?_, ?_, a4⟩
  · rw [a5] at z
    have c : F.length ≤ 6000 ∧ S.length ≤ 6000 ∧ P.length ≤ 6000 := Decidable.byContradiction (fun c => by rw [if_neg c] at z; omega)
    unfold srX
    rcases hs with ⟨f0, e1, e2, e3⟩ | ⟨f1, e1, e2, e3⟩ | ⟨f2, D1, e1, e2, e3, e4⟩
    · rw [if_pos (by omega), ← e3]
      exact pk c.2.2 D (by rcases hd with w | w; left; omega; exact Or.inr w.2)
    · rw [if_neg (by omega), if_pos rfl]
      have l6 : L.length ≤ 6000 := by have := c.1; rw [e1, List.length_map] at this; exact this
      rw [e1] at a1 a6
      rw [List.length_map] at a1
      refine ⟨⟨a1, l6, row_D l6 a6⟩, fun d' hd' => ?_⟩
      rcases e3 with ⟨q, -⟩ | ⟨q1, q2, q3⟩
      · omega
      · rw [if_pos f1, ← q2]
        exact ⟨mem_D q3, pk c.2.2 d' (by rcases hd with w | w; left; omega; exact Or.inr w.2)⟩
    · rw [if_neg (by omega), if_pos rfl]
      have l6 : L.length ≤ 6000 := by have := c.1; rw [e1, List.length_map] at this; exact this
      have m6 : (flF L).length ≤ 6000 := by have := c.2.1; rw [e2, List.length_map] at this; exact this
      rw [e1] at a1 a6
      rw [e2] at a2 a7
      rw [List.length_map] at a1 a2
      refine ⟨⟨a1, l6, row_D l6 a6⟩, fun d' hd' => ?_⟩
      rw [if_neg (by omega)]
      refine ⟨mem_D e3, ⟨a2, m6, row_D m6 a7⟩, fun d2 hd2 => ?_⟩
      rcases e4 with ⟨q, -⟩ | ⟨q1, q2, q3⟩
      · omega
      · rw [← q2]
        exact ⟨mem_D q3, pk c.2.2 d2 (by rcases hd with w | w; left; omega; exact Or.inr w.2)⟩
  · rw [a5] at z
    have c : ¬ (F.length ≤ 6000 ∧ S.length ≤ 6000 ∧ P.length ≤ 6000) := fun c => by rw [if_pos c] at z; omega
    rcases hs with ⟨f0, e1, e2, e3⟩ | ⟨f1, e1, e2, e3⟩ | ⟨f2, D1, e1, e2, e3, e4⟩
    · rw [e1, e2] at c
      rw [e3] at pl
      simp only [List.length_nil] at c
      omega
    · rw [e1, e2, List.length_map] at c
      simp only [List.length_nil] at c
      rcases e3 with ⟨q, q2⟩ | ⟨q1, q2, q3⟩
      · rw [q2] at pl
        simp only [List.length_nil] at pl
        omega
      · obtain ⟨D', rfl⟩ : ∃ D', D = D' + 1 := ⟨D - 1, by omega⟩
        rw [q2] at pl
        rw [exF_s] at xn ⊢
        have := exF_n D' (flF L)
        omega
    · rw [e1, e2, List.length_map, List.length_map] at c
      obtain ⟨D', rfl⟩ : ∃ D', D = D' + 1 := ⟨D - 1, by omega⟩
      rw [exF_s] at xn ⊢
      have x2 := exF_n D' (flF L)
      rcases e4 with ⟨q, q2⟩ | ⟨q1, q2, q3⟩
      · rw [q2] at pl
        simp only [List.length_nil] at pl
        omega
      · obtain ⟨D2, rfl⟩ : ∃ D2, D' = D2 + 1 := ⟨D' - 1, by omega⟩
        rw [q2] at pl
        rw [exF_s] at x2 ⊢
        have := exF_n D2 (flF (flF L))
        omega
  · rw [a5]
    by_cases c : F.length ≤ 6000 ∧ S.length ≤ 6000 ∧ P.length ≤ 6000
    · rw [if_pos c]; exact Or.inl rfl
    · rw [if_neg c]; exact Or.inr rfl
theorem fStp_n {a : Int} {s : fSt} : fStp a s = none ↔ s.1 = 2000 ∨ 6000 < s.2.1 + a := by
  unfold fStp
  by_cases c : s.1 = 2000 ∨ 6000 < s.2.1 + a
  · rw [if_pos c]; exact ⟨fun _ => c, fun _ => rfl⟩
  · rw [if_neg c]; exact ⟨fun h => (by cases h), fun h => absurd h c⟩
theorem fStp_e {a : Int} {s : fSt} (h : ¬ (s.1 = 2000 ∨ 6000 < s.2.1 + a)) : fStp a s = some (s.1 + 1, s.2.1 + a, s.2.2) := by
  unfold fStp
  rw [if_neg h]
theorem x_sealO {σ : sg_S} {D f : Int} {Q : Int → sg_S → Prop} (oo : ¬ sg_g σ 77 15 = 0) (hD : 0 ≤ D) (k : ∀ σ', sg_F seL σ σ' → sg_g σ' 77 18 = 8 → sg_g σ' 77 17 = sg_g σ 77 17 → sg_g σ' 77 16 = sg_g σ 77 16 → Q (sg_g σ 77 10) σ') : V_lSeal σ D f Q := by
  unfold V_lSeal
  refine ⟨fun m v σ2 => σ2 = σ ∧ v = 0, fun σ2 => σ2 = σ, ⟨0, rfl, rfl⟩, ?_, ?_⟩
  · rintro m v σ2 rv f2 ⟨e, -⟩
    subst e
    exact ⟨fun _ => rfl, fun _ => ⟨fun _ => rfl, fun y => absurd y oo⟩⟩
  · rintro σ2 f2 e
    subst e
    refine ⟨fun σ19 => sg_g σ19 77 18 = 8 ∧ sg_g σ19 77 17 = sg_g σ2 77 17 ∧ sg_g σ19 77 16 = sg_g σ2 77 16, ⟨fun z σ28 e28 σ31 e31 => ⟨?_, ?_, ?_⟩, fun z => absurd z oo⟩, fun σ19 f19 h19 => ?_⟩
    · rw [e31, sg_gw_k _ _ _ _ _ _ (by decide), e28, sg_gw_e _ _ _ _ (by decide)]
    · rw [e31, sg_gw_k _ _ _ _ _ _ (by decide), e28, sg_gw_k _ _ _ _ _ _ (by decide)]
    · rw [e31, sg_gw_e _ _ _ _ (sg_Rg _ _ _)]
    · refine x_reset (fun σ13 _ f13 _ => k σ13 (sg_F_t (sg_F_m f19 rfl) (sg_F_m f13 rfl)) ?_ ?_ ?_)
      · rw [sg_F_g f13 (by rfl)]; exact h19.1
      · rw [sg_F_g f13 (by rfl)]; exact h19.2.1
      · rw [sg_F_g f13 (by rfl)]; exact h19.2.2
theorem f_giveG {σ σ2 : sg_S} {t : Int} {D f : Nat} {L : List vaF} {e : Int} {s : fSt} {Q : sg_S → Prop} (h : fP σ t) (hs : ctX σ s) (hD : D ≤ 3) (h9 : sg_g σ 61 9 = D) (hf2 : f ≤ 2) (f2 : sg_F acL σ σ2) (ht : (sg_g σ2 77 15 = 0 ∧ srX σ2 f 0 D L ∧ sg_g σ2 77 14 = e) ∨ (¬ sg_g σ2 77 15 = 0 ∧ 6000 < exF D L)) (k : ∀ σ', sg_F opL σ σ' → gvX σ σ' D L e t s → Q σ') : V_fGive σ2 (f : Int) Q := by
  obtain ⟨h1, h2, h3, h4, h5, h6, h7⟩ := h
  have ex2 : yEx σ σ2 := yEx_F f2 rfl
  have g2 : yG σ2 := yG_F h1 f2 rfl
  have w2 : sg_g σ2 77 10 = sg_g σ 77 10 := sg_F_g f2 rfl
  have s2 : sg_g σ2 77 17 = sg_g σ 77 17 := sg_F_g f2 rfl
  have t2 : sg_g σ2 61 7 = t := by rw [sg_F_g f2 (by rfl)]; exact h5
  have c2 : ctX σ2 s := ctX_F f2 rfl hs
  have fin : ∀ σ3 q1, sg_R q1 → q1 = sg_g σ2 77 10 → sg_F seL σ2 σ3 → (y0 σ3 ∧ seR σ2 σ3 D L e) ∨ (6000 < exF D L ∧ sg_g σ3 77 18 = 8 ∧ sg_g σ3 77 17 = sg_g σ2 77 17 ∧ sg_g σ3 77 16 = sg_g σ2 77 16) → V_mPush σ3 q1 (fun σ8 => sg_F [64, 8061] σ3 σ8 → ∀ σ13, σ13 = sg_w σ8 61 10 (sg_g σ3 77 18) → Q σ13) := fun σ3 q1 r1 eq f3 h3' => by
    have t3 : sg_g σ3 61 7 = t := by rw [sg_F_g f3 (by rfl)]; exact t2
    refine y_push t3 h6 r1 (fun σ8 f8 p1 p2 p3 _ σ13 e13 => ?_)
    have f13 : sg_F [11061] σ8 σ13 := by rw [e13]; exact sg_F_w (sg_F_r _ _) rfl _
    have FF : sg_F opL σ σ13 := sg_F_t (sg_F_t (sg_F_t (sg_F_m f2 rfl) (sg_F_m f3 rfl)) (sg_F_m f8 rfl)) (sg_F_m f13 rfl)
    have e10 : sg_g σ13 61 10 = sg_g σ3 77 18 := by rw [e13, sg_gw_e _ _ _ _ (sg_Rg _ _ _)]
    have f38 : sg_F [64, 8061, 11061] σ3 σ13 := sg_F_t (sg_F_m f8 rfl) (sg_F_m f13 rfl)
    have e24 : sg_g σ13 61 24 = s.2.2 := by rw [sg_F_g FF (by rfl)]; exact hs.2.2.1
    have room : (s.1 = 2000 ∨ 6000 < s.2.1 + exF D L) → sg_g σ3 77 18 = 8 → sg_g σ3 77 17 = s.1 → sg_g σ3 77 16 = s.2.1 → Q σ13 := fun z1 z2 z3 z4 => k σ13 FF (Or.inl ⟨fStp_n.mpr z1, by rw [e10]; exact z2, by rw [sg_F_g f38 (by rfl)]; exact z3, by rw [sg_F_g f38 (by rfl)]; exact z4, e24, hs.2.2.2⟩)
    have c4 := hs.2.2.2
    rcases h3' with ⟨y3, h3'⟩ | ⟨z1, z2, z3, z4⟩
    · unfold seR at h3'
      rw [c2.1, c2.2.1] at h3'
      rcases h3' with ⟨z1, z2, z3, z4⟩ | ⟨z1, z2, z3, z4, z5, z6, z7, z8⟩
      · exact room z1 z2 z3 z4
      · refine k σ13 FF (Or.inr ?_)
        have ex3 : yEx σ3 σ13 := yEx_F f38 rfl
        have xn := exF_n D L
        refine ⟨_, fStp_e z1, by rw [e10]; exact z2, ⟨by rw [sg_F_g f38 (by rfl)]; exact z3, by rw [sg_F_g f38 (by rfl)]; exact z4, e24, by simp only; omega, by simp only; omega⟩, yEx_t ex2 (yEx_t z5 ex3), yG_F z6 f38 rfl, y0_F y3 f38 rfl, ?_, ?_, fun i hi => ?_, ?_⟩
        · rw [sg_F_ga f13 rfl, p2, eq]; exact yX_up ex3 z7
        · rw [sg_F_g f13 (by rfl)]; exact p1
        · rw [sg_F_ga f13 rfl, p3 i hi, sg_F_ga f3 rfl, sg_F_ga f2 rfl]
        · rw [sg_F_g f38 (by rfl)]; omega
    · exact room (Or.inr (by omega)) z2 (z3.trans c2.1) (z4.trans c2.2.1)
  unfold V_fGive
  rw [show sg_g σ2 61 9 = (D : Int) from by rw [sg_F_g f2 (by rfl)]; exact h9]
  rcases ht with ⟨o, q1, q4⟩ | ⟨o, q2⟩
  · exact x_seal g2 (by omega) (by omega) hD q4 (Or.inl o) (fun _ => q1) (fun z => by omega) hf2 (fun σ3 f3 y3 h3' _ r3 _ => fin σ3 _ r3 rfl f3 (Or.inl ⟨y3, h3'⟩))
  · exact x_sealO o (by omega) (fun σ3 f3 z1 z2 z3 r3 _ => fin σ3 _ r3 rfl f3 (Or.inr ⟨q2, z1, z2, z3⟩))
theorem f_giveX {σ σ2 : sg_S} {t : Int} {D f d : Nat} {F S : List Int} {fl L : List vaF} {e : Int} {s : fSt} {Q : sg_S → Prop} (h : fP σ t) (hs : ctX σ s) (hD : D ≤ 3) (h9 : sg_g σ 61 9 = D) (hf2 : f ≤ 2) (f2 : sg_F acL σ σ2) (ht : toX σ2 d F S fl e) (hl : tsF f D F S fl L) (hd : D = d + f ∨ (D < d + f ∧ fl = [])) (k : ∀ σ', sg_F opL σ σ' → gvX σ σ' D L e t s → Q σ') : V_fGive σ2 (f : Int) Q := by
  obtain ⟨q1, q2, q3, q4⟩ := toX_s ht hl hd
  refine f_giveG h hs hD h9 hf2 f2 ?_ k
  rcases q3 with o | o
  · exact Or.inl ⟨o, q1 o, q4⟩
  · exact Or.inr ⟨by omega, q2 o⟩
