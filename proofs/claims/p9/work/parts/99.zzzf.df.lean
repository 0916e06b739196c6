/-! the class's list of variables carried along: by slot; it holds just the reference's. -/
def insS (c : Int → Int) (b : Int) : List Int → List Int
  | [] => [b]
  | z :: r => if b = z then z :: r else if c b < c z then b :: z :: r else z :: insS c b r
theorem insS_m {c : Int → Int} {b : Int} : ∀ (l : List Int) (z : Int), z ∈ insS c b l ↔ z = b ∨ z ∈ l
  | [], z => by simp only [insS, List.mem_cons, List.not_mem_nil, or_false]
  | y :: r, z => by
    have ih := insS_m (c := c) (b := b) r z
    simp only [insS]
    by_cases h : b = y
    · rw [if_pos h]
      refine ⟨fun w => Or.inr w, fun w => ?_⟩
      rcases w with w | w
      · rw [w, h]; simp
      · exact w
    · rw [if_neg h]
      by_cases h2 : c b < c y
      · rw [if_pos h2, List.mem_cons]
      · rw [if_neg h2, List.mem_cons, ih, List.mem_cons]
        refine ⟨fun w => ?_, fun w => ?_⟩
        · rcases w with w | w | w
          · exact Or.inr (Or.inl w)
          · exact Or.inl w
          · exact Or.inr (Or.inr w)
        · rcases w with w | w | w
          · exact Or.inr (Or.inl w)
          · exact Or.inl w
          · exact Or.inr (Or.inr w)
theorem insS_p {c : Int → Int} {b : Int} : ∀ (l : List Int), (l.map c).Pairwise (· < ·) → (∀ z ∈ l, c b = c z → b = z) → ((insS c b l).map c).Pairwise (· < ·)
  | [], _, _ => by simp [insS]
  | y :: r, h, hi => by
    have h0 := h
    rw [List.map_cons, List.pairwise_cons] at h
    obtain ⟨h1, h2⟩ := h
    simp only [insS]
    by_cases e : b = y
    · rw [if_pos e]; exact h0
    · rw [if_neg e]
      by_cases h3 : c b < c y
      · rw [if_pos h3, List.map_cons, List.pairwise_cons]
        refine ⟨fun a ha => ?_, h0⟩
        rw [List.map_cons] at ha
        rcases List.mem_cons.mp ha with q | q
        · rw [q]; exact h3
        · have := h1 a q; omega
      · rw [if_neg h3, List.map_cons, List.pairwise_cons]
        refine ⟨fun a ha => ?_, insS_p r h2 (fun z hz => hi z (by simp [hz]))⟩
        obtain ⟨z, hz, ez⟩ := List.mem_map.mp ha
        rw [← ez]
        rcases (insS_m r z).mp hz with q | q
        · rw [q]
          have : ¬ c b = c y := fun w => e (hi y (by simp) w)
          omega
        · exact h1 _ (List.mem_map.mpr ⟨z, q, rfl⟩)
theorem srt_n {c : Int → Int} {l : List Int} (h : (l.map c).Pairwise (· < ·)) : l.Nodup := by
  have h2 : l.Pairwise (fun a b => c a < c b) := List.pairwise_map.mp h
  exact h2.imp (fun {a b} hab e => by rw [e] at hab; omega)
noncomputable def saL (A : aT) (B c : Int → Int) (L0 : List Int) (but : Int) : List Int → List Int
  | [] => []
  | y :: r => @ite _ (A.2.1 y = 1 ∧ ¬ insL L0 (B y) ∧ ¬ isG but (B y)) (Classical.propDecidable _) (insS c (B y) (saL A B c L0 but r)) (saL A B c L0 but r)
section DFS
variable {A : aT} {B c : Int → Int} {L0 : List Int} {but : Int}
theorem saL_m : ∀ (L : List Int) (z : Int), z ∈ saL A B c L0 but L ↔ ∃ y ∈ L, A.2.1 y = 1 ∧ B y = z ∧ ¬ insL L0 z ∧ ¬ isG but z
  | [], z => ⟨fun h => (by cases h), fun ⟨y, hy, _⟩ => (by cases hy)⟩
  | y :: r, z => by
    have ih := saL_m r z
    simp only [saL]
    by_cases h : A.2.1 y = 1 ∧ ¬ insL L0 (B y) ∧ ¬ isG but (B y)
    · rw [if_pos h, insS_m]
      refine ⟨fun w => ?_, fun ⟨u, u1, u2⟩ => ?_⟩
      · rcases w with w | w
        · exact ⟨y, by simp, h.1, w.symm, by rw [w]; exact h.2.1, by rw [w]; exact h.2.2⟩
        · obtain ⟨u, u1, u2⟩ := ih.mp w
          exact ⟨u, by simp [u1], u2⟩
      · rcases List.mem_cons.mp u1 with e | e
        · left; rw [← u2.2.1, e]
        · exact Or.inr (ih.mpr ⟨u, e, u2⟩)
    · rw [if_neg h]
      refine ⟨fun w => ?_, fun ⟨u, u1, u2⟩ => ?_⟩
      · obtain ⟨u, u1, u2⟩ := ih.mp w
        exact ⟨u, by simp [u1], u2⟩
      · rcases List.mem_cons.mp u1 with e | e
        · rw [e] at u2
          exact absurd ⟨u2.1, by rw [u2.2.1]; exact u2.2.2.1, by rw [u2.2.1]; exact u2.2.2.2⟩ h
        · exact ih.mpr ⟨u, e, u2⟩
theorem saL_p (hi : ∀ y y', A.2.1 y = 1 → A.2.1 y' = 1 → c (B y) = c (B y') → B y = B y') : ∀ L : List Int, ((saL A B c L0 but L).map c).Pairwise (· < ·)
  | [] => by simp [saL]
  | y :: r => by
    have ih := saL_p hi r
    simp only [saL]
    split
    · rename_i h
      refine insS_p _ ih (fun z hz e => ?_)
      obtain ⟨u, u1, u2, u3, -⟩ := (saL_m r z).mp hz
      rw [← u3] at e ⊢
      exact hi y u h.1 u2 e
    · exact ih
/-- the class's list of variables -/
theorem S_ex (A : aT) (B c : Int → Int) (hi : ∀ y y', A.2.1 y = 1 → A.2.1 y' = 1 → c (B y) = c (B y') → B y = B y') : ∃ O, okO A B O ∧ ∀ n st, ((O n st).map c).Pairwise (· < ·) := by
  classical
  obtain ⟨lT, lT_e⟩ : ∃ lT : List Int → List Int, ∀ R L, fT A R L → lT R = L := ⟨fun R => if h : ∃ L, fT A R L then Classical.choose h else [], fun R L hL => by
    have ex : ∃ L, fT A R L := ⟨L, hL⟩
    simp only [dif_pos ex]
    exact fT_det (Classical.choose_spec ex) hL⟩
  obtain ⟨gX, gX_p, gX_m⟩ : ∃ gX : List Int → Int → List Int, (∀ L but, ((gX L but).map c).Pairwise (· < ·)) ∧ (∀ L but z, z ∈ gX L but ↔ ∃ y ∈ L, A.2.1 y = 1 ∧ B y = z ∧ ¬ insL L z ∧ ¬ isG but z) := ⟨fun L but => saL A B c L but L, fun L but => saL_p hi L, fun L but z => saL_m L z⟩
  have ng : ∀ z, ¬ isG (-1) z := fun z h => by have := h.1; omega
  obtain ⟨O, hOd⟩ : ∃ O : Int → Nat → List Int, O = fun n st => if A.2.1 n = 3 then gX (lT [(A.2.2.2.2.1 n).getD st 0]) (-1) else if st = 0 then gX (lT [(A.2.2.2.2.1 n).headD 0] ++ lT ((A.2.2.2.2.1 n).tail.drop (A.2.2.2.2.2 n).length)) n else gX (lT [(A.2.2.2.2.1 n).headD 0]) (-1) := ⟨_, rfl⟩
  have hp : ∀ n st, ((O n st).map c).Pairwise (· < ·) := fun n st => by
    rw [hOd]
    simp only
    split
    · exact gX_p _ _
    · split
      · exact gX_p _ _
      · exact gX_p _ _
  refine ⟨O, fun n => ⟨fun st => srt_n (hp n st), fun k3 st x L hst hx hL z => ?_, fun k15 bd tl Lb Lt ea hb ht => ⟨fun z => ?_, fun z => ?_⟩⟩, hp⟩
  · have e : (A.2.2.2.2.1 n).getD st 0 = x := by rw [List.getD_eq_getElem?_getD, hx]; rfl
    rw [hOd]
    simp only
    rw [if_pos k3, e, lT_e _ L hL, gX_m]
    exact ⟨fun ⟨y, y1, y2, y3, y4, _⟩ => ⟨y, y1, y2, y3, y4⟩, fun ⟨y, y1, y2, y3, y4⟩ => ⟨y, y1, y2, y3, y4, ng z⟩⟩
  · rw [hOd]
    simp only
    rw [if_neg (by omega), if_pos True.intro, ea]
    simp only [List.headD_cons, List.tail_cons]
    rw [lT_e _ Lb hb, lT_e _ Lt ht, gX_m]
  · rw [hOd]
    simp only
    rw [if_neg (by omega), if_neg (by decide), ea]
    simp only [List.headD_cons]
    rw [lT_e _ Lb hb, gX_m]
    exact ⟨fun ⟨y, y1, y2, y3, y4, _⟩ => ⟨y, y1, y2, y3, y4⟩, fun ⟨y, y1, y2, y3, y4⟩ => ⟨y, y1, y2, y3, y4, ng z⟩⟩
end DFS
/-- both lists hold the same -/
theorem oPm_ok {A : aT} {D : List aDf} {T T' B B' : Int → Int} {O O' : Int → Nat → List Int} {x : Int} {Lx : List Int} (hf : fT A [x] Lx) (hO : okO A B O) (hO' : okO A B' O') (hB : ∀ y ∈ Lx, B y = B' y) (hT : ∀ y ∈ Lx, A.2.1 y = 1 → bTy A D T (B y) = bTy A D T' (B y)) : oPm A D T T' O O' x := by
  obtain ⟨L1, L2, e1, w1, w2, w3⟩ := fT_inv hf
  have s1 : ∀ y ∈ L1, y ∈ Lx := fun y hy => by rw [e1]; exact List.mem_cons_of_mem _ (List.mem_append_left _ hy)
  have key : ∀ (l l' S : List Int) (P : Int → Prop), l.Nodup → l'.Nodup → (∀ y ∈ S, y ∈ Lx) → (∀ z, z ∈ l ↔ ∃ y ∈ S, A.2.1 y = 1 ∧ B y = z ∧ P z) → (∀ z, z ∈ l' ↔ ∃ y ∈ S, A.2.1 y = 1 ∧ B' y = z ∧ P z) → gPm (bTy A D T) (bTy A D T') l l' := fun l l' S P n1 n2 hS m1 m2 => by
    refine ⟨(List.perm_ext_iff_of_nodup n1 n2).mpr (fun z => ?_), n1, fun z hz => ?_⟩
    · rw [m1, m2]
      exact ⟨fun ⟨y, a, b, c, d⟩ => ⟨y, a, b, by rw [← hB y (hS y a)]; exact c, d⟩, fun ⟨y, a, b, c, d⟩ => ⟨y, a, b, by rw [hB y (hS y a)]; exact c, d⟩⟩
    · obtain ⟨y, a, b, c, d⟩ := (m1 z).mp hz
      rw [← c]
      exact hT y (hS y a) b
  obtain ⟨n1, n2, n3, n4, n5, n6, n7, n8⟩ := w1
  refine ⟨fun k3 => ?_, fun k15 => ?_⟩
  · have l := n4 k3
    have one : ∀ st : Nat, (st = 1 ∨ st = 2) → gPm (bTy A D T) (bTy A D T') (O x st) (O' x st) := fun st hst => by
      have hl : st < (A.2.2.2.2.1 x).length := by omega
      have hx : (A.2.2.2.2.1 x)[st]? = some (A.2.2.2.2.1 x)[st] := List.getElem?_eq_getElem hl
      obtain ⟨Lc, a1, a2⟩ := fT_kid w2 (List.getElem_mem hl)
      exact key _ _ Lc (fun z => ¬ insL Lc z) ((hO x).1 st) ((hO' x).1 st) (fun y hy => s1 y (a2 y hy)) ((hO x).2.1 k3 st _ Lc hst hx a1) ((hO' x).2.1 k3 st _ Lc hst hx a1)
    exact ⟨one 1 (Or.inl rfl), one 2 (Or.inr rfl)⟩
  · have l7 := n7 k15
    obtain ⟨bd, tl, ea⟩ : ∃ bd tl, A.2.2.2.2.1 x = bd :: tl := by
      cases e : A.2.2.2.2.1 x with
      | nil => rw [e] at l7; simp at l7; omega
      | cons p q => exact ⟨p, q, rfl⟩
    rw [ea] at w2
    obtain ⟨Lb, Lr, e2, f1, f2⟩ := fT_spl [bd] tl L1 w2
    rw [← List.take_append_drop (A.2.2.2.2.2 x).length tl] at f2
    obtain ⟨Lg, Lt, e3, f3, f4⟩ := fT_spl _ _ Lr f2
    obtain ⟨p1, p2⟩ := (hO x).2.2 k15 bd tl Lb Lt ea f1 f4
    obtain ⟨q1, q2⟩ := (hO' x).2.2 k15 bd tl Lb Lt ea f1 f4
    have sb : ∀ y ∈ Lb, y ∈ Lx := fun y hy => s1 y (by rw [e2]; simp [hy])
    have st : ∀ y ∈ Lt, y ∈ Lx := fun y hy => s1 y (by rw [e2, e3]; simp [hy])
    exact ⟨key _ _ (Lb ++ Lt) (fun z => ¬ insL (Lb ++ Lt) z ∧ ¬ isG x z) ((hO x).1 0) ((hO' x).1 0) (fun y hy => (List.mem_append.mp hy).elim (sb y) (st y)) p1 q1, key _ _ Lb (fun z => ¬ insL Lb z) ((hO x).1 1) ((hO' x).1 1) sb p2 q2⟩
/-- types of binders -/
theorem bTy_T {A : aT} {D : List aDf} {T T' : Int → Int} {b : Int} (hA : A.1 ≤ 200) (hk : ∀ n, 0 ≤ n → n < A.1 → nW A n ∧ ∀ y ∈ A.2.2.2.2.1 n, 0 ≤ y ∧ y < A.1) (hT : ∀ x, 0 ≤ x → x < A.1 → T x = T' x) (hb : vbF A D b) : bTy A D T b = bTy A D T' b := by
  have gd : ∀ n, 0 ≤ n → n < A.1 → ∀ i, T ((A.2.2.2.2.1 n).getD i 0) = T' ((A.2.2.2.2.1 n).getD i 0) := fun n n0 n1 i => by
    by_cases h : i < (A.2.2.2.2.1 n).length
    · have := (hk n n0 n1).2 _ (getD_in h)
      exact hT _ this.1 this.2
    · rw [List.getD_eq_getElem?_getD, List.getElem?_eq_none (by omega), Option.getD_none]
      exact hT 0 (by omega) (by omega)
  rcases hb with ⟨h1, h2⟩ | ⟨n, j, h1, h2, h3, rfl⟩ | ⟨q, j, y, h1, h2, rfl⟩
  · rw [bTw_l (by omega), bTw_l (by omega)]
    exact gd b h1.1 h1.2 0
  · have n7 := (hk n h1.1 h1.2).1.2.2.2.2.2.2.1 h2
    rw [bTw_g ⟨h1.1, by omega⟩ (by omega), bTw_g ⟨h1.1, by omega⟩ (by omega), gd n h1.1 h1.2 (1 + j)]
  · unfold bTy
    rw [if_neg (by omega), if_neg (by omega), if_neg (by omega), if_neg (by omega)]
/-- what a NAME of a typed tree is bound to -/
theorem ty_vb {A : aT} {D : List aDf} {ds : kD} {T B : Int → Int} : ∀ (f : Nat) (sc : List (Int × Int)) (n : Int) (L : List Int), fT A [n] L → tyN A ds T B f sc n → (∀ p ∈ sc, vbF A D p.1) → ∀ y ∈ L, A.2.1 y = 1 → vbF A D (B y)
  | 0, sc, n, L, hf, h, hs, x, hx, k1 => h.elim
  | f + 1, sc, n, L, hf, h, hs, x, hx, k1 => by
    obtain ⟨a1, a2, a3, a4, a5, a6, a7, a8, a9⟩ := h
    obtain ⟨L1, L2, e1, w1, w2, w3⟩ := fT_inv hf
    have e2 := fT_nil w3
    subst e2
    rw [List.append_nil] at e1
    subst e1
    rcases List.mem_cons.mp hx with q | q
    · rw [q] at k1 ⊢
      exact hs _ (a4 k1)
    · have kd : ∀ y ∈ A.2.2.2.2.1 n, ∃ sc', (∀ p ∈ sc', vbF A D p.1) ∧ tyN A ds T B f sc' y := fun y hy => by
        obtain ⟨n1, n2, n3, n4, n5, n6, n7, n8⟩ := w1
        by_cases c2 : A.2.1 n = 2
        · obtain ⟨a, b, hk⟩ := kid2 (n3 (Or.inl c2))
          rw [hk] at hy
          rcases List.mem_cons.mp hy with z | z
          · rw [z]; exact ⟨_, hs, (a7 c2 a b hk).1⟩
          · have z' : y = b := by simpa using z
            rw [z']
            refine ⟨_, fun p hp => ?_, (a7 c2 a b hk).2⟩
            rcases List.mem_cons.mp hp with e | e
            · rw [e]; exact Or.inl ⟨a2, c2⟩
            · exact hs p e
        · by_cases c15 : A.2.1 n = 15
          · have l7 := n7 c15
            obtain ⟨bd, tl, hk⟩ : ∃ bd tl, A.2.2.2.2.1 n = bd :: tl := by
              match hh : A.2.2.2.2.1 n with
              | bd :: tl => exact ⟨bd, tl, rfl⟩
              | [] => rw [hh] at l7; simp only [List.length_nil] at l7; omega
            have hg : ∀ p ∈ gsc n T 0 (tl.take (A.2.2.2.2.2 n).length) ++ sc, vbF A D p.1 := fun p hp => by
              rcases List.mem_append.mp hp with e | e
              · obtain ⟨i, u, hi, rfl⟩ := gscF_m e
                have := gE_l hi
                rw [List.length_take] at this
                exact Or.inr (Or.inl ⟨n, i, a2, c15, by omega, by simp only [Nat.zero_add]⟩)
              · exact hs p e
            rw [hk] at hy
            rcases List.mem_cons.mp hy with z | z
            · rw [z]; exact ⟨_, hg, (a8 c15 bd tl hk).2 bd (by simp)⟩
            · rw [← List.take_append_drop (A.2.2.2.2.2 n).length tl] at z
              rcases List.mem_append.mp z with z | z
              · exact ⟨_, hs, ((a8 c15 bd tl hk).1 y z).1⟩
              · exact ⟨_, hg, (a8 c15 bd tl hk).2 y (List.mem_append_left _ z)⟩
          · exact ⟨_, hs, a9 c2 c15 y hy⟩
      obtain ⟨r, hr, Lr, b1, b2, -⟩ := fT_in w2 x q
      obtain ⟨sc', b3, b4⟩ := kd r hr
      exact ty_vb f sc' r Lr b1 b4 b3 x b2 k1
