/-! the class's list of variables carried along: by slot; it holds just the reference's. -/
def insS (c : Int → Int) (b : Int) : List Int → List Int
  | [] => [b]
  | z :: r => if b = z then z :: r else if c b < c z then b :: z :: r else z :: insS c b r
theorem insS_m {c : Int → Int} {b : Int} : ∀ (l : List Int) (z : Int), z ∈ insS c b l ↔ z = b ∨ z ∈ l
  | [], z => by simp only [insS, List.mem_cons, List.not_mem_nil, or_false]
  | y :: r, z => by
    have ih := insS_m (c := c) (b := b) r z
    simp only [insS]
    by_cases h : b = y
    · rw [if_pos h]
      refine ⟨fun w => Or.inr w, fun w => ?_⟩
      rcases w with w | w
      · rw [w, h]; simp
      · exact w
    · rw [if_neg h]
      by_cases h2 : c b < c y
      · rw [if_pos h2, List.mem_cons]
      · rw [if_neg h2, List.mem_cons, ih, List.mem_cons]
        refine ⟨fun w => ?_, fun w => ?_⟩
        · rcases w with w | w | w
          · exact Or.inr (Or.inl w)
          · exact Or.inl w
          · exact Or.inr (Or.inr w)
        · rcases w with w | w | w
          · exact Or.inr (Or.inl w)
          · exact Or.inl w
          · exact Or.inr (Or.inr w)
theorem insS_p {c : Int → Int} {b : Int} : ∀ (l : List Int), (l.map c).Pairwise (· < ·) → (∀ z ∈ l, c b = c z → b = z) → ((insS c b l).map c).Pairwise (· < ·)
  | [], _, _ => by simp [insS]
  | y :: r, h, hi => by
    have h0 := h
    rw [List.map_cons, List.pairwise_cons] at h
    obtain ⟨h1, h2⟩ := h
    simp only [insS]
    by_cases e : b = y
    · rw [if_pos e]; exact h0
    · rw [if_neg e]
      by_cases h3 : c b < c y
      · rw [if_pos h3, List.map_cons, List.pairwise_cons]
        refine ⟨fun a ha => ?_, h0⟩
        rw [List.map_cons] at ha
        rcases List.mem_cons.mp ha with q | q
        · rw [q]; exact h3
        · have := h1 a q; omega
      · rw [if_neg h3, List.map_cons, List.pairwise_cons]
        refine ⟨fun a ha => ?_, insS_p r h2 (fun z hz => hi z (by simp [hz]))⟩
        obtain ⟨z, hz, ez⟩ := List.mem_map.mp ha
        rw [← ez]
        rcases (insS_m r z).mp hz with q | q
        · rw [q]
          have : ¬ c b = c y := fun w => e (hi y (by simp) w)
          omega
        · exact h1 _ (List.mem_map.mpr ⟨z, q, rfl⟩)
theorem srt_n {c : Int → Int} {l : List Int} (h : (l.map c).Pairwise (· < ·)) : l.Nodup := by
  have h2 : l.Pairwise (fun a b => c a < c b) := List.pairwise_map.mp h
  exact h2.imp (fun {a b} hab e => by rw [e] at hab; omega)
noncomputable def saL (A : aT) (B c : Int → Int) (L0 : List Int) (but : Int) : List Int → List Int
  | [] => []
  | y :: r => @ite _ (A.2.1 y = 1 ∧ ¬ insL L0 (B y) ∧ ¬ isG but (B y)) (Classical.propDecidable _) (insS c (B y) (saL A B c L0 but r)) (saL A B c L0 but r)
section DFS
variable {A : aT} {B c : Int → Int} {L0 : List Int} {but : Int}
theorem saL_m : ∀ (L : List Int) (z : Int), z ∈ saL A B c L0 but L ↔ ∃ y ∈ L, A.2.1 y = 1 ∧ B y = z ∧ ¬ insL L0 z ∧ ¬ isG but z
  | [], z => ⟨fun h => (by cases h), fun ⟨y, hy, _⟩ => (by cases hy)⟩
  | y :: r, z => by
    have ih := saL_m r z
    simp only [saL]
    by_cases h : A.2.1 y = 1 ∧ ¬ insL L0 (B y) ∧ ¬ isG but (B y)
    · rw [if_pos h, insS_m]
      refine ⟨fun w => ?_, fun ⟨u, u1, u2⟩ => ?_⟩
      · rcases w with w | w
        · exact ⟨y, by simp, h.1, w.symm, by rw [w]; exact h.2.1, by rw [w]; exact h.2.2⟩
        · obtain ⟨u, u1, u2⟩ := ih.mp w
          exact ⟨u, by simp [u1], u2⟩
      · rcases List.mem_cons.mp u1 with e | e
        · left; rw [← u2.2.1, e]
        · exact Or.inr (ih.mpr ⟨u, e, u2⟩)
    · rw [if_neg h]
      refine ⟨fun w => ?_, fun ⟨u, u1, u2⟩ => ?_⟩
      · obtain ⟨u, u1, u2⟩ := ih.mp w
        exact ⟨u, by simp [u1], u2⟩
      · rcases List.mem_cons.mp u1 with e | e
        · rw [e] at u2
          exact absurd ⟨u2.1, by rw [u2.2.1]; exact u2.2.2.1, by rw [u2.2.1]; exact u2.2.2.2⟩ h
        · exact ih.mpr ⟨u, e, u2⟩
theorem saL_p (hi : ∀ y y', A.2.1 y = 1 → A.2.1 y' = 1 → c (B y) = c (B y') → B y = B y') : ∀ L : List Int, ((saL A B c L0 but L).map c).Pairwise (· < ·)
  | [] => by simp [saL]
  | y :: r => by
    have ih := saL_p hi r
    simp only [saL]
    split
    · rename_i h
      refine insS_p _ ih (fun z hz e => ?_)
      obtain ⟨u, u1, u2, u3, -⟩ := (saL_m r z).mp hz
      rw [← u3] at e ⊢
      exact hi y u h.1 u2 e
    · exact ih
/-- the class's list of variables -/
theorem S_ex (A : aT) (B c : Int → Int) (hi : ∀ y y', A.2.1 y = 1 → A.2.1 y' = 1 → c (B y) = c (B y') → B y = B y') : ∃ O, okO A B O ∧ ∀ n st, ((O n st).map c).Pairwise (· < ·) := by
  classical
  obtain ⟨lT, lT_e⟩ : ∃ lT : List Int → List Int, ∀ R L, fT A R L → lT R = L := ⟨fun R => if h : ∃ L, fT A R L then Classical.choose h else [], fun R L hL => by
    have ex : ∃ L, fT A R L := ⟨L, hL⟩
    simp only [dif_pos ex]
    exact fT_det (Classical.choose_spec ex) hL⟩
  obtain ⟨gX, gX_p, gX_m⟩ : ∃ gX : List Int → Int → List Int, (∀ L but, ((gX L but).map c).Pairwise (· < ·)) ∧ (∀ L but z, z ∈ gX L but ↔ ∃ y ∈ L, A.2.1 y = 1 ∧ B y = z ∧ ¬ insL L z ∧ ¬ isG but z) := ⟨fun L but => saL A B c L but L, fun L but => saL_p hi L, fun L but z => saL_m L z⟩
  have ng : ∀ z, ¬ isG (-1) z := fun z h => by have := h.1; omega
  obtain ⟨O, hOd⟩ : ∃ O : Int → Nat → List Int, O = fun n st => if A.2.1 n = 3 then gX (lT [(A.2.2.2.2.1 n).getD st 0]) (-1) else if st = 0 then gX (lT [(A.2.2.2.2.1 n).headD 0] ++ lT ((A.2.2.2.2.1 n).tail.drop (A.2.2.2.2.2 n).length)) n else gX (lT [(A.2.2.2.2.1 n).headD 0]) (-1) := ⟨_, rfl⟩
  have hp : ∀ n st, ((O n st).map c).Pairwise (· < ·) := fun n st => by
    rw [hOd]
    simp only
    split
    · exact gX_p _ _
    · split
      · exact gX_p _ _
      · exact gX_p _ _
  refine ⟨O, fun n => ⟨fun st => srt_n (hp n st), fun k3 st x L hst hx hL z => ?_, fun k15 bd tl Lb Lt ea hb ht => ⟨fun z => ?_, fun z => ?_⟩⟩, hp⟩
  · have e : (A.2.2.2.2.1 n).getD st 0 = x := by rw [List.getD_eq_getElem?_getD, hx]; rfl
    rw [hOd]
    simp only
    rw [if_pos k3, e, lT_e _ L hL, gX_m]
    exact ⟨fun ⟨y, y1, y2, y3, y4, _⟩ => ⟨y, y1, y2, y3, y4⟩, fun ⟨y, y1, y2, y3, y4⟩ => ⟨y, y1, y2, y3, y4, ng z⟩⟩
  · rw [hOd]
    simp only
    rw [if_neg (by omega), if_pos True.intro, ea]
    simp only [List.headD_cons, List.tail_cons]
    rw [lT_e _ Lb hb, lT_e _ Lt ht, gX_m]
  · rw [hOd]
    simp only
    rw [if_neg (by omega), if_neg (by decide), ea]
    simp only [List.headD_cons]
    rw [lT_e _ Lb hb, gX_m]
    exact ⟨fun ⟨y, y1, y2, y3, y4, _⟩ => ⟨y, y1, y2, y3, y4⟩, fun ⟨y, y1, y2, y3, y4⟩ => ⟨y, y1, y2, y3, y4, ng z⟩⟩
end DFS
/-- both lists hold the same -/
theorem oPm_ok {A : aT} {D : List aDf} {T T' B B' : Int → Int} {O O' : Int → Nat → List Int} {x : Int} {Lx : List Int} (hf : fT A [x] Lx) (hO : okO A B O) (hO' : okO A B' O') (hB : ∀ y ∈ Lx, B y = B' y) (hT : ∀ y ∈ Lx, A.2.1 y = 1 → bTy A D T (B y) = bTy A D T' (B y)) : oPm A D T T' O O' x := by
  obtain ⟨L1, L2, e1, w1, w2, w3⟩ := fT_inv hf
  have s1 : ∀ y ∈ L1, y ∈ Lx := fun y hy => by rw [e1]; exact List.mem_cons_of_mem _ (List.mem_append_left _ hy)
  have key : ∀ (l l' S : List Int) (P : Int → Prop), l.Nodup → l'.Nodup → (∀ y ∈ S, y ∈ Lx) → (∀ z, z ∈ l ↔ ∃ y ∈ S, A.2.1 y = 1 ∧ B y = z ∧ P z) → (∀ z, z ∈ l' ↔ ∃ y ∈ S, A.2.1 y = 1 ∧ B' y = z ∧ P z) → gPm (bTy A D T) (bTy A D T') l l' := fun l l' S P n1 n2 hS m1 m2 => by
    refine ⟨(List.perm_ext_iff_of_nodup n1 n2).mpr (fun z => ?_), n1, fun z hz => ?_⟩
    · rw [m1, m2]
      exact ⟨fun ⟨y, a, b, c, d⟩ => ⟨y, a, b, by rw [← hB y (hS y a)]; exact c, d⟩, fun ⟨y, a, b, c, d⟩ => ⟨y, a, b, by rw [hB y (hS y a)]; exact c, d⟩⟩
    · obtain ⟨y, a, b, c, d⟩ := (m1 z).mp hz
      rw [← c]
      exact hT y (hS y a) b
  obtain ⟨n1, n2, n3, n4, n5, n6, n7, n8⟩ := w1
  refine ⟨fun k3 => ?_, fun k15 => ?_⟩
  · have l := n4 k3
    have one : ∀ st : Nat, (st = 1 ∨ st = 2) → gPm (bTy A D T) (bTy A D T') (O x st) (O' x st) := fun st hst => by
      have hl : st < (A.2.2.2.2.1 x).length := by omega
      have hx : (A.2.2.2.2.1 x)[st]? = some (A.2.2.2.2.1 x)[st] := List.getElem?_eq_getElem hl
      obtain ⟨Lc, a1, a2⟩ := fT_kid w2 (List.getElem_mem hl)
      exact key _ _ Lc (fun z => ¬ insL Lc z) ((hO x).1 st) ((hO' x).1 st) (fun y hy => s1 y (a2 y hy)) ((hO x).2.1 k3 st _ Lc hst hx a1) ((hO' x).2.1 k3 st _ Lc hst hx a1)
    exact ⟨one 1 (Or.inl rfl), one 2 (Or.inr rfl)⟩
  · have l7 := n7 k15
    obtain ⟨bd, tl, ea⟩ : ∃ bd tl, A.2.2.2.2.1 x = bd :: tl := by
      cases e : A.2.2.2.2.1 x with
      | nil => rw [e] at l7; simp at l7; omega
      | cons p q => exact ⟨p, q, rfl⟩
    rw [ea] at w2
    obtain ⟨Lb, Lr, e2, f1, f2⟩ := fT_spl [bd] tl L1 w2
    rw [← List.take_append_drop (A.2.2.2.2.2 x).length tl] at f2
    obtain ⟨Lg, Lt, e3, f3, f4⟩ := fT_spl _ _ Lr f2
    obtain ⟨p1, p2⟩ := (hO x).2.2 k15 bd tl Lb Lt ea f1 f4
    obtain ⟨q1, q2⟩ := (hO' x).2.2 k15 bd tl Lb Lt ea f1 f4
    have sb : ∀ y ∈ Lb, y ∈ Lx := fun y hy => s1 y (by rw [e2]; simp [hy])
    have st : ∀ y ∈ Lt, y ∈ Lx := fun y hy => s1 y (by rw [e2, e3]; simp [hy])
    exact ⟨key _ _ (Lb ++ Lt) (fun z => ¬ insL (Lb ++ Lt) z ∧ ¬ isG x z) ((hO x).1 0) ((hO' x).1 0) (fun y hy => (List.mem_append.mp hy).elim (sb y) (st y)) p1 q1, key _ _ Lb (fun z => ¬ insL Lb z) ((hO x).1 1) ((hO' x).1 1) sb p2 q2⟩
/-- types of binders -/
theorem bTy_T {A : aT} {D : List aDf} {T T' : Int → Int} {b : Int} (hA : A.1 ≤ 200) (hk : ∀ n, 0 ≤ n → n < A.1 → nW A n ∧ ∀ y ∈ A.2.2.2.2.1 n, 0 ≤ y ∧ y < A.1) (hT : ∀ x, 0 ≤ x → x < A.1 → T x = T' x) (hb : vbF A D b) : bTy A D T b = bTy A D T' b := by
  have gd : ∀ n, 0 ≤ n → n < A.1 → ∀ i, T ((A.2.2.2.2.1 n).getD i 0) = T' ((A.2.2.2.2.1 n).getD i 0) := fun n n0 n1 i => by
    by_cases h : i < (A.2.2.2.2.1 n).length
    · have := (hk n n0 n1).2 _ (getD_in h)
      exact hT _ this.1 this.2
    · rw [List.getD_eq_getElem?_getD, List.getElem?_eq_none (by omega), Option.getD_none]
      exact hT 0 (by omega) (by omega)
  rcases hb with ⟨h1, h2⟩ | ⟨n, j, h1, h2, h3, rfl⟩ | ⟨q, j, y, h1, h2, rfl⟩
  · rw [bTw_l (by omega), bTw_l (by omega)]
    exact gd b h1.1 h1.2 0
  · have n7 := (hk n h1.1 h1.2).1.2.2.2.2.2.2.1 h2
    rw [bTw_g ⟨h1.1, by omega⟩ (by omega), bTw_g ⟨h1.1, by omega⟩ (by omega), gd n h1.1 h1.2 (1 + j)]
  · unfold bTy
    rw [if_neg (by omega), if_neg (by omega), if_neg (by omega), if_neg (by omega)]
/-- what a NAME of a typed tree is bound to -/
theorem ty_vb {A : aT} {D : List aDf} {ds : kD} {T B : Int → Int} : ∀ (f : Nat) (sc : List (Int × Int)) (n : Int) (L : List Int), fT A [n] L → tyN A ds T B f sc n → (∀ p ∈ sc, vbF A D p.1) → ∀ y ∈ L, A.2.1 y = 1 → vbF A D (B y)
  | 0, sc, n, L, hf, h, hs, x, hx, k1 => h.elim
  | f + 1, sc, n, L, hf, h, hs, x, hx, k1 => by
    obtain ⟨a1, a2, a3, a4, a5, a6, a7, a8, a9⟩ := h
    obtain ⟨L1, L2, e1, w1, w2, w3⟩ := fT_inv hf
    have e2 := fT_nil w3
    subst e2
    rw [List.append_nil] at e1
    subst e1
    rcases List.mem_cons.mp hx with q | q
    · rw [q] at k1 ⊢
      exact hs _ (a4 k1)
    · have kd : ∀ y ∈ A.2.2.2.2.1 n, ∃ sc', (∀ p ∈ sc', vbF A D p.1) ∧ tyN A ds T B f sc' y := fun y hy => by
        obtain ⟨n1, n2, n3, n4, n5, n6, n7, n8⟩ := w1
        by_cases c2 : A.2.1 n = 2
        · obtain ⟨a, b, hk⟩ := kid2 (n3 (Or.inl c2))
          rw [hk] at hy
          rcases List.mem_cons.mp hy with z | z
          · rw [z]; exact ⟨_, hs, (a7 c2 a b hk).1⟩
          · have z' : y = b := by simpa using z
            rw [z']
            refine ⟨_, fun p hp => ?_, (a7 c2 a b hk).2⟩
            rcases List.mem_cons.mp hp with e | e
            · rw [e]; exact Or.inl ⟨a2, c2⟩
            · exact hs p e
        · by_cases c15 : A.2.1 n = 15
          · have l7 := n7 c15
            obtain ⟨bd, tl, hk⟩ : ∃ bd tl, A.2.2.2.2.1 n = bd :: tl := by
              match hh : A.2.2.2.2.1 n with
              | bd :: tl => exact ⟨bd, tl, rfl⟩
              | [] => rw [hh] at l7; simp only [List.length_nil] at l7; omega
            have hg : ∀ p ∈ gsc n T 0 (tl.take (A.2.2.2.2.2 n).length) ++ sc, vbF A D p.1 := fun p hp => by
              rcases List.mem_append.mp hp with e | e
              · obtain ⟨i, u, hi, rfl⟩ := gscF_m e
                have := gE_l hi
                rw [List.length_take] at this
                exact Or.inr (Or.inl ⟨n, i, a2, c15, by omega, by simp only [Nat.zero_add]⟩)
              · exact hs p e
            rw [hk] at hy
            rcases List.mem_cons.mp hy with z | z
            · rw [z]; exact ⟨_, hg, (a8 c15 bd tl hk).2 bd (by simp)⟩
            · rw [← List.take_append_drop (A.2.2.2.2.2 n).length tl] at z
              rcases List.mem_append.mp z with z | z
              · exact ⟨_, hs, ((a8 c15 bd tl hk).1 y z).1⟩
              · exact ⟨_, hg, (a8 c15 bd tl hk).2 y (List.mem_append_left _ z)⟩
          · exact ⟨_, hs, a9 c2 c15 y hy⟩
      obtain ⟨r, hr, Lr, b1, b2, -⟩ := fT_in w2 x q
      obtain ⟨sc', b3, b4⟩ := kd r hr
      exact ty_vb f sc' r Lr b1 b4 b3 x b2 k1
/-! BIG STEPS of the class's flat run, exactly: bodies, all DEFS. -/
/-- a state whose types are the class's; binders outside of the tree are y0's -/
def sT6 (σ : sg_S) (M y0 : Int) : sg_S := (fun c j => if c = 101 then σ.1 6 j else if c = 102 then σ.1 102 (if 0 ≤ j ∧ j < M then j else y0) else σ.1 c j, σ.2)
theorem sT6_g (σ : sg_S) (M y0 n : Int) : sg_g (sT6 σ M y0) 101 n = sg_g σ 6 n := by simp [sg_g, sT6]
theorem sT6_b (σ : sg_S) (M y0 n : Int) : sg_g (sT6 σ M y0) 102 n = sg_g σ 102 (if 0 ≤ n ∧ n < M then n else y0) := by simp [sg_g, sT6]
theorem sT6_F (σ : sg_S) (M y0 : Int) : sg_F [101, 102] σ (sT6 σ M y0) := fun c k hc hv => by
  have n1 : ¬ c = 101 := fun e => by
    rw [e] at hv
    exact absurd hv (by simp [sg_cv])
  have n2 : ¬ c = 102 := fun e => by
    rw [e] at hv
    exact absurd hv (by simp [sg_cv])
  exact ⟨by simp [sT6, n1, n2], rfl⟩
theorem pgX_6 {σ : sg_S} {A : aT} {D : List aDf} {T B : Int → Int} {y0 : Int} (h : pgX σ A D T B) (hty : ∀ (j : Nat) (x : aDf), D[j]? = some x → tyN A (kDl (D.take j) []) (sg_g σ 6) (sg_g (sT6 σ A.1 y0) 102) 201 (scZ (kPe x) (kPb j 0 x.2.2.1 [])) x.2.2.2) : pgX (sT6 σ A.1 y0) A D (sg_g σ 6) (sg_g (sT6 σ A.1 y0) 102) := by
  obtain ⟨a1, a2, a3, a4, a5, a6⟩ := h
  have f := sT6_F σ A.1 y0
  refine ⟨trT_F a1 f rfl, ?_, fun n => sT6_g σ A.1 y0 n, fun _ => rfl, a5, hty⟩
  obtain ⟨b1, b2, b3⟩ := a2
  refine ⟨by rw [sg_F_g f (by rfl)]; exact b1, b2, fun d x hx => ?_⟩
  obtain ⟨c1, c2, c3, c4, c5, c6⟩ := b3 d x hx
  refine ⟨by rw [sg_F_gal f rfl]; exact c1, by rw [sg_F_ga f rfl]; exact c2, by rw [sg_F_ga f rfl]; exact c3, by rw [sg_F_ga f rfl]; exact c4, c5, fun j y hy => ?_⟩
  obtain ⟨d1, d2, d3⟩ := c6 j y hy
  exact ⟨by rw [sg_F_gal f rfl]; exact d1, by rw [sg_F_ga f rfl]; exact d2, by rw [sg_F_ga f rfl]; exact d3⟩
/-- the class's types -/
theorem ty8 {σ : sg_S} {A : aT} {D : List aDf} {k : Int} {B B0 : Int → Int} (h : clR σ A D k) (hB : ∀ x, 0 ≤ x → x < A.1 → B x = kPB A D k B0 x) : (∀ (j : Nat) (x : aDf), D[j]? = some x → tyN A (kDl (D.take j) []) (sg_g σ 6) B 201 (scZ (kPe x) (kPb j 0 x.2.2.1 [])) x.2.2.2) ∧ tyN A (kDl D []) (sg_g σ 6) B 201 [] k := by
  obtain ⟨b2, b3, b4, b5, ⟨T, Tf, t1, t2⟩, -⟩ := h
  obtain ⟨LA, f1, f2, f3, -⟩ := id b4
  have ty := tyP (T2 := sg_g σ 6) (B2 := B) D [] 0 T Tf B0 LA f1 f2 f3 (fun d hd => by simp at hd) (fun c hc => by simp at hc) b5 t1 (fun x hx => t2 x (f3 x hx).1) (fun x hx => hB x (f3 x hx).1 (f3 x hx).2) (fun c hc => by simp at hc)
  refine ⟨fun j x hx => ?_, ty.2⟩
  have t := (ty.1 j x hx).1
  rw [Nat.zero_add] at t
  exact t
section DGS
variable {σ σx : sg_S} {A : aT} {D : List aDf} {vb : Int → Prop} {X : sg_S → Prop} {T B : Int → Int} {lev : Int → Nat} {O : Int → Nat → List Int} {call : Int → Nat → fEv → fSt → fRs} {j : Nat}
/-- PARAMS -/
theorem pr_sc {d : Nat} {y : aDf} : ∀ p ∈ scZ (kPe y) (kPb d 0 y.2.2.1 []), ∃ (k : Nat) (u : Int × Int × Int), y.2.2.1[k]? = some u ∧ p = (1100 + 6 * (d : Int) + (k : Int), u.2.2) := fun p hp => by
  have hp' : p ∈ scZ (y.2.2.1.reverse.map (fun p => (p.1, p.2.2)) ++ []) (kPb (d : Int) 0 y.2.2.1 []) := by rw [List.append_nil]; exact hp
  rcases scZ_p y.2.2.1 0 [] [] p hp' with ⟨k, u, a, b⟩ | q
  · exact ⟨k, u, a, by rw [b]; simp⟩
  · cases q
/-- the tree of a DEF -/
theorem stN_d {r : Int} (hX : pgX σx A D T B) (hlv : lvP A D lev 0 r) {d : Nat} {y : aDf} (hy : D[d]? = some y) : ∃ L', stN A D T B lev d 201 L' (scZ (kPe y) (kPb d 0 y.2.2.1 [])) y.2.2.2 := by
  obtain ⟨L', l1, l2, l3⟩ := hlv.1 d y hy
  have dl := gE_l hy
  have d12 := hX.2.1.2.1
  have l6 := (hX.2.1.2.2 d y hy).2.2.2.2.1
  refine ⟨L', hX.2.2.2.2.2 d y hy, l1, l2, fun z hz => ⟨(l3 z hz).1, by have := (l3 z hz).2; omega⟩, fun p hp => ?_⟩
  obtain ⟨k, u, a, b⟩ := pr_sc p hp
  have k6 := gE_l a
  have e1 : p.1 = 1100 + 6 * (d : Int) + k := by rw [b]
  refine ⟨⟨⟨by omega, by omega⟩, fun z => by omega, fun _ z => by omega⟩, fun o => ?_⟩
  rcases o with o | o | o | o
  · rcases o with o | o <;> omega
  · omega
  · omega
  · omega
/-- a body from its entry to behind its LEAVE -/
theorem y_body {H : Int → Int} {cl q r fs kp : Int} {sc : List (Int × Int)} {L0 : List Int} (hW : ckW σ A) (hSl : slA σ vb) (hVb : ∀ b, vbF A D b → vb b) (hO : okO A B O) (hOs : ∀ n st, ((O n st).map (slF σ)).Pairwise (· < ·)) (hP : ∀ f, fPu A D (sg_g σ 6) B lev O call j f) (hq : 0 ≤ q ∧ q < 13) (hcl : cl ≤ q) (hcj : cl ≤ (j : Int)) (h1 : dI σ A H cl q r fs kp) (h2 : dIn σ A D B cl q r kp) (hst : stN A D (sg_g σ 6) B lev j 201 L0 sc r) (hsl : slQ σ sc (fs + kp)) (hD : dDy σ A D vb lev X call (sg_g σ 11 r) cl) {σ8 : sg_S} {m : Nat} {ρ : fEv} {t sv c cr rt : Int} {N : Nat} {s : fSt} (h8 : bP σ σ8 t sv N c (sg_g σ 31 q)) (h9 : ctX σ8 s) (h63 : sg_g σ8 63 q = rt) (hS : scY σ A D vb σ8 ρ N sc) (ht : t + (sg_g σ 12 r + 1) ≤ 400) (hs : sv + 12 * (sg_g σ 12 r + 1) ≤ 2400) (hm : 6 * (2001 - s.1) + cr ≤ (m : Int)) (hcr : 1 ≤ cr) (kk : kY σ A D vb lev (j + 1) X σ8 ρ t sv c rt (cr - 1) (sg_g σ 12 r + 1) q [] N (sg_g σ 6 r).toNat (fxN A D (sg_g σ 6) B O call 201 r N ρ s)) : Ry σ X m σ8 := by
  obtain ⟨L, ds, B', sc', hr, f1, f2, f3, f4, f5, f6, f7, f8, f9, f10, f11⟩ := h1
  obtain ⟨L', ds', sc'', -, g1, -, -, -, -, -, g7, -⟩ := h2
  rw [fT_det g1 f1] at g7
  rw [fT_det hst.2.1 f1] at hst
  have rr := f3 r (fT_sub f1 r (by simp)) L f1
  have r0 := (rr r).mp (fT_sub f1 r (by simp))
  have lw := (rr (sg_g σ 11 r)).mpr ⟨Int.le_refl _, Int.le_trans r0.1 r0.2⟩
  have inr := fT_inq (fun k a b => (hW.2.2 k a b).2) f1 (by intro y hy; simp at hy; rw [hy]; exact hr)
  have l0 := (inr _ lw).1
  have hl : (L.length : Int) ≤ sg_g σ 12 r - sg_g σ 11 r + 1 := by
    clear kk
    rcases wit_len (f := id) (a := sg_g σ 11 r) (b := sg_g σ 12 r) f2 (fun x hx => ⟨x, ((rr x).mp hx).1, ((rr x).mp hx).2, rfl⟩) with z | z
    · exact z
    · rw [z]; simp only [List.length_nil]; omega
  obtain ⟨p1, p2⟩ := pl_a f7
  have ht' : t + (L.length : Int) + sg_g σ 11 r ≤ 400 := by clear kk; omega
  have hs' : sv + ((12 * L.length : Nat) : Int) + 12 * sg_g σ 11 r ≤ 2400 := by clear kk; omega
  have hcr' : 0 ≤ cr := by clear kk; omega
  refine yN_all hD hcj hW hSl hVb hO hOs l0 hP 201 r L (gsl fs kp.toNat) sc (fs + kp) (H q) (sg_g σ 31 q) 12 hst (fun x hx => ⟨((rr x).mp hx).1, g7 x hx⟩) f3 f5 hsl f6 p1 f10 σ8 m ρ t sv c cr N s h8 h9 hS ht' hs' hm hcr' ?_
  generalize fxN A D (sg_g σ 6) B O call 201 r N ρ s = res at kk
  match res, kk with
  | .inl e, kk => exact fun σ' q1 q2 q3 q4 => kk σ' q1 q2 q3 q4
  | .inr (v, s', ρ'), kk =>
    intro σ1 m1 hm1 h1' c1 u1 v1
    simp only at hm1 h1' c1 u1 v1
    have sb := c1.2.2.2.1
    obtain ⟨m1, rfl⟩ : ∃ m', m1 = m' + 1 := ⟨m1 - 1, by clear kk; omega⟩
    refine zy_leave (r := rt) h1' c1 p2 hq (by rw [u1.2.2.2.2.2 q hcl]; exact h63) (fun σ2 h2' c2 g2 => ?_)
    have hm2 : 6 * (2001 - s'.1) + (cr - 1) ≤ (m1 : Int) := by clear kk; omega
    have hnl : sg_g σ 11 r ≤ sg_g σ 12 r + 1 := by clear kk; omega
    have u2 : yU σ A D vb lev (j + 1) σ8 σ1 ρ ρ' t sv (sg_g σ 12 r + 1) q [] := yU_w u1 ⟨hnl, hcl⟩ (Int.le_refl _) (Int.le_refl _) (fun x hx hy => by have := ((rr x).mp hx).2; clear kk; omega) (fun b w => ow_l (Nat.le_succ _) (fun y hy => Or.inr (by rw [(hst.2.2.2.1 y hy).2]; exact Nat.lt_succ_self _)) w)
    exact kk σ2 m1 hm2 h2' c2 (yU_t u2 (yU_F (L := []) g2 (yEx_F g2 rfl) rfl (fun i _ => sg_F_ga g2 rfl)) ⟨Int.le_refl _, Int.le_refl _⟩ ⟨Int.le_refl _, Int.le_refl _⟩ (fun x hx => hx) (fun x hx => hx)) (by rw [sg_F_ga g2 rfl]; exact yX_up (yEx_F g2 rfl) v1)
/-- all DEFS -/
theorem cLy_all {H : Int → Int} {M r0 : Int} (hW : ckW σ A) (hD2 : cD2 σ D) (hSl : slA σ vb) (hVb : ∀ b, vbF A D b → vb b) (hO : okO A B O) (hOs : ∀ n st, ((O n st).map (slF σ)).Pairwise (· < ·)) (hX : pgX σx A D (sg_g σ 6) B) (hlv : lvP A D lev 0 r0) (h1 : dA σ A H M) (h2 : dAn σ A D B M) : ∀ (j : Nat), (j : Int) < M → ∀ k : Nat, j < k → cLy σ A D vb lev X (fxC A D (sg_g σ 6) B O k) (j : Int) := by
  intro j
  induction j using Nat.strongRecOn with
  | ind j ih =>
    intro hM k hjk σ8 m ρ t sv c cr r N s h8 h9 h63 hv ht hs hm hcr
    obtain ⟨d1, d2⟩ := h1.2 j (by omega) hM
    obtain ⟨e1, e2, e3, ⟨y, e4, e5, e6⟩, e7⟩ := h2.2 j (by omega) hM
    rw [Int.toNat_natCast] at e4
    obtain ⟨L', st⟩ := stN_d hX hlv e4
    have st' : stN A D (sg_g σ 6) B lev j 201 L' (scZ (kPe y) (kPb j 0 y.2.2.1 [])) (sg_g σ 22 j) := by rw [← e6]; exact st
    have hD : dDy σ A D vb lev X (fxC A D (sg_g σ 6) B O j) (sg_g σ 11 (sg_g σ 22 j)) j := fun q' a b => by
      obtain ⟨f1, f2, f3, f4, f5⟩ := h2.2 q' a (by omega)
      refine ⟨by have := h2.1; omega, ?_, e7 q' a b, f2, f3, f4⟩
      have := ih q'.toNat (by omega) (by omega) j (by omega)
      rw [show ((q'.toNat : Nat) : Int) = q' by omega] at this
      exact this
    obtain ⟨-, -, -, c4, c5, c6⟩ := hD2.2.2 j y e4
    have f11 : ∀ i : Nat, (i : Int) < sg_g σ 23 j → sg_g σ 34 (sg_g σ 24 j + i) = sg_g σ 27 (6 * (j : Int) + i) ∧ kIn (sg_g σ 34 (sg_g σ 24 j + i)) := by
      obtain ⟨L, ds, B', sc', hr, f1, f2, f3, f4, f5, f6, f7, f8, f9, f10, f11⟩ := id d1
      exact f11
    have sl : slQ σ (scZ (kPe y) (kPb j 0 y.2.2.1 [])) (sg_g σ 24 j + sg_g σ 23 j) := fun p hp => by
      obtain ⟨i, u, hu, ep⟩ := pr_sc p hp
      have hi := gE_l hu
      have sp : slF σ p.1 = sg_g σ 24 j + i := by rw [ep]; exact sl_par (Int.natCast_nonneg _) (by omega)
      have w := (c6 i u hu).2.2
      obtain ⟨z1, z2⟩ := f11 i (by omega)
      rw [z1, w] at z2
      exact ⟨by rw [sp]; omega, by rw [sp, z1, w, ep], by rw [ep]; exact z2⟩
    have hS : scY σ A D vb σ8 ρ N (scZ (kPe y) (kPb j 0 y.2.2.1 [])) := fun p hp => by
      obtain ⟨i, u, hu, rfl⟩ := pr_sc p hp
      have hi := gE_l hu
      have z := hv i (by rw [c4]; exact Int.ofNat_lt.mpr hi)
      have i6 : i < 6 := Nat.lt_of_lt_of_le hi c5
      have bt : bTy A D (sg_g σ 6) (1100 + 6 * (j : Int) + (i : Int)) = u.2.2 := bTy_p e4 hu i6
      generalize hb : 1100 + 6 * (j : Int) + (i : Int) = b at z bt
      have vbb : vb b := hVb _ (Or.inr (Or.inr ⟨j, i, y, e4, hi, hb.symm⟩))
      exact ⟨vbb, bt.symm, z.1, z.2⟩
    have hq : (0 : Int) ≤ (j : Int) ∧ (j : Int) < 13 := ⟨by omega, by have := h1.1; omega⟩
    intro kk
    rw [fxC_e A D (sg_g σ 6) B O k j hjk, List.getD_eq_getElem?_getD, e4, Option.getD_some, e6, Int.toNat_natCast] at kk
    exact y_body (j := j) (cl := (j : Int)) (q := (j : Int)) (r := sg_g σ 22 j) (fs := sg_g σ 24 j) (kp := sg_g σ 23 j) (L0 := L') hW hSl hVb hO hOs (fun f => fx_ok hX hlv hO (fxC_ok hX hlv hO j) f) hq (Int.le_refl _) (Int.le_refl _) d1 e1 st' sl hD h8 h9 h63 hS ht hs hm hcr kk
theorem dDy_all {H : Int → Int} {M r0 nl : Int} (hW : ckW σ A) (hD2 : cD2 σ D) (hSl : slA σ vb) (hVb : ∀ b, vbF A D b → vb b) (hO : okO A B O) (hOs : ∀ n st, ((O n st).map (slF σ)).Pairwise (· < ·)) (hX : pgX σx A D (sg_g σ 6) B) (hlv : lvP A D lev 0 r0) (h1 : dA σ A H M) (h2 : dAn σ A D B M) (hl : ∀ q, 0 ≤ q → q < M → nxq σ q ≤ nl) : dDy σ A D vb lev X (fxC A D (sg_g σ 6) B O M.toNat) nl M := fun q a b => by
  obtain ⟨e1, e2, e3, e4, e5⟩ := h2.2 q a b
  refine ⟨by have := h2.1; omega, ?_, hl q a b, e2, e3, e4⟩
  have := cLy_all (X := X) hW hD2 hSl hVb hO hOs hX hlv h1 h2 q.toNat (by omega) M.toNat (by omega)
  rw [show ((q.toNat : Nat) : Int) = q by omega] at this
  exact this
end DGS
/-! THE FLAT RUN of the class, whole, exactly. -/
-- NestedVectors$Machine.pop x.flatRun
set_option maxRecDepth 8000 in
theorem bx_1 (z : Value) (σ : sg_S) : wx z 1 124 0 [(0, .inr (.inr (.ref 61)))] [] σ (fun v σ' => (∃ q, v = some (.inl q)) ∧ sg_F [8061] σ σ') := by
  have hF0 := sg_F_r [8061] σ
  refine wk_b tt_124 10 (pc' := 18) (ls' := [(0, .inr (.inr (.ref 61)))]) (st' := [.inl ((sg_g (sg_w σ 61 7 (((sg_g σ 61 7) - 1))) 61 7)), .inr (.inr (.ref 64))]) (σ' := (sg_w σ 61 7 (((sg_g σ 61 7) - 1)))) rfl ?_
  have hF1 : sg_F [8061] σ (sg_w σ 61 7 (((sg_g σ 61 7) - 1))) := (sg_F_w hF0 rfl _)
  generalize (sg_w σ 61 7 (((sg_g σ 61 7) - 1))) = σ2 at hF1 ⊢
  refine wk_callp tt_124 rfl rfl rfl rfl rfl tt_5 rfl (by decide) (at_i z σ2 64 400 ((sg_g σ2 61 7)) rfl (by decide)) ?_
  generalize sx_at σ2 64 400 (sg_n ((sg_g σ2 61 7))) = q6
  exact wk_rI tt_124 rfl rfl ⟨⟨_, rfl⟩, hF1⟩
-- NestedVectors$Machine.conclude x.flatRun a1
set_option maxRecDepth 8000 in
theorem bx_18 (z : Value) (σ : sg_S) (a1 : Int) (hp : sg_n a1 ≤ 3) : wx z 7 118 0 [(0, .inr (.inr (.ref 61))), (1, .inl (a1))] [] σ (fun v σ' => v = none ∧ sg_F [8061, 12061, 65, 66, 67, 68] σ σ') := by
  have hF0 := sg_F_r [8061, 12061, 65, 66, 67, 68] σ
  refine wk_b tt_118 5 (pc' := 9) (ls' := [(0, .inr (.inr (.ref 61))), (1, .inl (a1))]) (st' := [.inr (.inr (.ref 65))]) (σ' := (sg_w σ 61 11 (1))) rfl ?_
  have hF1 : sg_F [8061, 12061, 65, 66, 67, 68] σ (sg_w σ 61 11 (1)) := (sg_F_w hF0 rfl _)
  generalize (sg_w σ 61 11 (1)) = σ2 at hF1 ⊢
  refine wk_call tt_118 rfl rfl rfl rfl rfl tt_92 rfl (by decide) (bw_0 z σ2) (fun w3 σ4 hq5 => ?_)
  obtain ⟨rfl, hF6⟩ := hq5
  have hF7 := sg_F_t hF1 (sg_F_m (L := [8061, 12061, 65, 66, 67, 68]) hF6 rfl)
  refine wk_b tt_118 2 (pc' := 16) (ls' := [(0, .inr (.inr (.ref 61))), (1, .inl (a1))]) (st' := [.inl ((sg_g σ4 61 10))]) (σ' := σ4) rfl ?_
  refine wk_ifb tt_118 (tgt := 36) rfl rfl ?_ ?_
  ·
    exact wk_rV tt_118 rfl rfl ⟨rfl, hF7⟩
  ·
    refine wk_b tt_118 2 (pc' := 21) (ls' := [(0, .inr (.inr (.ref 61))), (1, .inl (a1))]) (st' := [.inr (.inr (.ref 61)), .inr (.inr (.ref 61))]) (σ' := σ4) rfl ?_
    refine wk_call tt_118 rfl rfl rfl rfl rfl tt_124 rfl (by decide) (bx_1 z σ4) (fun w9 σ10 hq11 => ?_)
    obtain ⟨⟨q13, rfl⟩, hF12⟩ := hq11
    have hF14 := sg_F_t hF7 (sg_F_m (L := [8061, 12061, 65, 66, 67, 68]) hF12 rfl)
    refine wk_b tt_118 1 (pc' := 25) (ls' := [(0, .inr (.inr (.ref 61))), (1, .inl (a1))]) (st' := [.inl (a1), .inl (q13), .inr (.inr (.ref 61))]) (σ' := σ10) rfl ?_
    refine wk_call tt_118 rfl rfl rfl rfl rfl tt_61 rfl (by decide) (bw_10 z σ10 (q13) (a1) hp) (fun w15 σ16 hq17 => ?_)
    obtain ⟨rfl, hF18⟩ := hq17
    have hF19 := sg_F_t hF14 (sg_F_m (L := [8061, 12061, 65, 66, 67, 68]) hF18 rfl)
    refine wk_b tt_118 3 (pc' := 33) (ls' := [(0, .inr (.inr (.ref 61))), (1, .inl (a1))]) (st' := [.inl (a1), .inr (.inr (.ref 65))]) (σ' := σ16) rfl ?_
    refine wk_call tt_118 rfl rfl rfl rfl rfl tt_95 rfl (by decide) (bw_17 z σ16 (a1) hp) (fun w20 σ21 hq22 => ?_)
    obtain ⟨rfl, hF23⟩ := hq22
    have hF24 := sg_F_t hF19 (sg_F_m (L := [8061, 12061, 65, 66, 67, 68]) hF23 rfl)
    exact wk_rV tt_118 rfl rfl ⟨rfl, hF24⟩
theorem y_conc {σ : sg_S} {a1 : Int} {Q : sg_S → Prop} (ha : sg_n a1 ≤ 3) (k : ∀ σ', sg_F [8061, 12061, 65, 66, 67, 68] σ σ' → Q σ') : V_fConcl σ a1 Q := by
  unfold V_fConcl
  intro z
  refine wk_post (bx_18 z σ a1 ha) ?_
  rintro v σ' ⟨rfl, g⟩
  exact ⟨rfl, sg_F_m g rfl, k σ' g⟩
section DHS
variable {σ σx : sg_S} {A : aT} {D : List aDf} {vb : Int → Prop} {B : Int → Int} {O : Int → Nat → List Int}
theorem y_run {H : Int → Int} {r fs a1 : Int} {Q : Int → sg_S → Prop} (hW : ckW σ A) (hD2 : cD2 σ D) (hSl : slA σ vb) (hVb : ∀ b, vbF A D b → vb b) (hO : okO A B O) (hOs : ∀ n st, ((O n st).map (slF σ)).Pairwise (· < ·)) (hX : pgX σx A D (sg_g σ 6) B) (hfr : frA A (aRt D ++ [r])) (hty : tyN A (kDl D []) (sg_g σ 6) B 201 [] r) (h1 : dA σ A H D.length) (h2 : dAn σ A D B D.length) (hP1 : dI σ A H D.length 12 r fs 0) (hP2 : dIn σ A D B D.length 12 r 0) (hl : ∀ q, 0 ≤ q → q < (D.length : Int) → nxq σ q ≤ sg_g σ 11 r) (kc : ∀ σ8, sg_F bRL σ σ8 → sg_g σ8 61 10 = fRe (fxA A D (sg_g σ 6) B O r) → ctX σ8 (fRt (fxA A D (sg_g σ 6) B O r)) → (∀ v s' ρ', fxA A D (sg_g σ 6) B O r = .inr (v, s', ρ') → sg_g σ8 61 7 = 1 ∧ v.length = 1 ∧ yG σ8 ∧ yX σ8 (sg_g σ 6 r).toNat (sg_g σ8 64 0) v ∧ exF (sg_g σ 6 r).toNat v ≤ 6000) → (∀ e, fxA A D (sg_g σ 6) B O r = .inl e → ¬ e.1 = 0) → V_fConcl σ8 a1 (fun σ23 => sg_F [61, 65, 66, 67, 68] σ8 σ23 → Q (sg_g σ23 61 10) σ23)) : V_mRun σ a1 Q := by
  obtain ⟨lev, hlv⟩ := lvP_ex hfr
  obtain ⟨L0, g1, g2, g3⟩ := hlv.2
  have hst : stN A D (sg_g σ 6) B lev D.length 201 L0 [] r := ⟨by rw [List.take_of_length_le (Nat.le_refl _)]; exact hty, g1, g2, fun y hy => ⟨(g3 y hy).1, by have := (g3 y hy).2; omega⟩, fun p hp => (by cases hp)⟩
  have d12 := hD2.2.1
  have w200 := hW.1
  obtain ⟨X, hXd⟩ : ∃ X : sg_S → Prop, X = fun σ8 => V_fConcl σ8 a1 (fun σ23 => sg_F [61, 65, 66, 67, 68] σ8 σ23 → Q (sg_g σ23 61 10) σ23) := ⟨_, rfl⟩
  have kX : ∀ σ8, sg_F bRL σ σ8 → sg_g σ8 61 10 = fRe (fxA A D (sg_g σ 6) B O r) → ctX σ8 (fRt (fxA A D (sg_g σ 6) B O r)) → (∀ v s' ρ', fxA A D (sg_g σ 6) B O r = .inr (v, s', ρ') → sg_g σ8 61 7 = 1 ∧ v.length = 1 ∧ yG σ8 ∧ yX σ8 (sg_g σ 6 r).toNat (sg_g σ8 64 0) v ∧ exF (sg_g σ 6 r).toNat v ≤ 6000) → (∀ e, fxA A D (sg_g σ 6) B O r = .inl e → ¬ e.1 = 0) → X σ8 := fun σ8 x1 x2 x3 x4 x5 => by rw [hXd]; exact kc σ8 x1 x2 x3 x4 x5
  have hD : dDy σ A D vb lev X (fxC A D (sg_g σ 6) B O D.length) (sg_g σ 11 r) D.length := by
    have := dDy_all (X := X) hW hD2 hSl hVb hO hOs hX hlv h1 h2 hl
    rw [Int.toNat_natCast] at this
    exact this
  have u12 : sg_g σ 12 r < 200 := by
    obtain ⟨L, ds, B', sc', hr, f1, f2, f3, -⟩ := id hP1
    have rr := f3 r (fT_sub f1 r (by simp)) L f1
    have r0 := (rr r).mp (fT_sub f1 r (by simp))
    have up := (rr (sg_g σ 12 r)).mpr ⟨Int.le_trans r0.1 r0.2, Int.le_refl _⟩
    have inr := fT_inq (fun k a b => (hW.2.2 k a b).2) f1 (by intro y hy; simp at hy; rw [hy]; exact hr)
    have := (inr _ up).2
    omega
  unfold V_mRun V_mStart
  intro σ1 e1 σ4 e4
  unfold V_fPrepare V_lClear V_lReset
  intro s1 f1 s2 f2 s3 f3 s4 f4 s5 f5 s6 f6 s7 f7 s8 f8 s9 f9 _ _ s10 f10 s11 f11 s12 f12 _ s13 f13 s14 f14 FF
  rw [xp_in ⟨by decide, by decide⟩] at f13
  rw [xa_in (a := 31) (n := 13) (k := 12) ⟨by decide, by decide⟩] at f14
  have z0 : sg_n 0 = 0 := sg_id ⟨by decide, by decide⟩
  have z1 : sg_n 1 = 1 := sg_id ⟨by decide, by decide⟩
  have zm : sg_n (-1) = -1 := sg_id ⟨by decide, by decide⟩
  have zE : sg_n (sg_g σ 31 12) = sg_g σ 31 12 := sg_id (sg_Rg _ _ _)
  have a7 : sg_g s14 61 7 = 0 := by rw [f14, f13, f12, f11, f10, f9, f8, f7, f6, f5, f4, f3, f2, f1, e4, e1]; simp [sg_gw, z0]
  have a10 : sg_g s14 61 10 = 0 := by rw [f14, f13, f12, f11, f10, f9, f8, f7, f6, f5, f4, f3, f2, f1, e4]; simp [sg_gw, z0]
  have a22 : sg_g s14 61 22 = 0 := by rw [f14, f13, f12, f11, f10]; simp [sg_gw, z0]
  have a23 : sg_g s14 61 23 = 1 := by rw [f14, f13, f12, f11]; simp [sg_gw, z1]
  have a24 : sg_g s14 61 24 = 0 := by rw [f14, f13, f12]; simp [sg_gw, z0]
  have a8 : sg_g s14 61 8 = sg_g σ 31 12 := by rw [f14]; simp [sg_gw, zE]
  have a63 : sg_g s14 63 12 = -1 := by rw [f14, f13]; simp [sg_gw, zm]
  have b10 : sg_g s14 77 10 = 0 := by rw [f14, f13, f12, f11, f10, f9, f8, f7, f6, f5, f4, f3, f2, f1]; simp [sg_gw, z0]
  have b16 : sg_g s14 77 16 = 0 := by rw [f14, f13, f12, f11, f10, f9, f8, f7, f6, f5, f4, f3, f2]; simp [sg_gw, z0]
  have b17 : sg_g s14 77 17 = 0 := by rw [f14, f13, f12, f11, f10, f9, f8, f7, f6, f5, f4, f3]; simp [sg_gw, z0]
  have b11 : sg_g s14 77 11 = 0 := by rw [f14, f13, f12, f11, f10, f9, f8, f7, f6, f5]; simp [sg_gw, z0]
  have b12 : sg_g s14 77 12 = 0 := by rw [f14, f13, f12, f11, f10, f9, f8, f7, f6]; simp [sg_gw, z0]
  have b13 : sg_g s14 77 13 = 0 := by rw [f14, f13, f12, f11, f10, f9, f8, f7]; simp [sg_gw, z0]
  have b14 : sg_g s14 77 14 = 0 := by rw [f14, f13, f12, f11, f10, f9, f8]; simp [sg_gw, z0]
  have b15 : sg_g s14 77 15 = 0 := by rw [f14, f13, f12, f11, f10, f9]; simp [sg_gw, z0]
  have hB : bP σ s14 0 0 1 0 (sg_g σ 31 12) := ⟨sg_F_m FF rfl, ⟨⟨⟨by omega, by omega⟩, ⟨by omega, by omega⟩, fun v a b => by omega, fun v v' a b => by omega⟩, ⟨b11, b12, b13, b14, b15⟩, a10, by omega, by omega⟩, ⟨a7, a22, a23, a8⟩, ⟨by decide, by decide⟩, by decide, by decide, by decide⟩
  have hct : ctX s14 (0, 0, 0) := ⟨b17, b16, a24, ⟨by decide, by decide⟩, by decide, by decide⟩
  have hB' : bP σ s14 0 0 ((1 : Nat) : Int) 0 (sg_g σ 31 12) := hB
  have R : Ry σ X 100000 s14 := by
    refine y_body (j := D.length) (cl := (D.length : Int)) (q := 12) (r := r) (fs := fs) (kp := 0) (sc := []) (L0 := L0) (N := 1) (cr := 1) (ρ := fun _ => []) (s := (0, 0, 0)) (rt := -1) hW hSl hVb hO hOs (fun f => fx_ok hX hlv hO (fxC_ok hX hlv hO D.length) f) ⟨by decide, by decide⟩ (by omega) (Int.le_refl _) hP1 hP2 hst (fun q hq => (by cases hq)) hD hB' hct a63 (fun p hp => (by cases hp)) (by omega) (by omega) (by decide) (by decide) ?_
    have kX' := kX
    unfold fxA at kX'
    have pk := fx_ok hX hlv hO (fxC_ok hX hlv hO D.length) 201 r L0 [] hst 1 (fun _ => []) (0, 0, 0)
    have pe := fe_ok hX hlv hO (fxC_ok hX hlv hO D.length) (cXk_all hX hlv hO D.length) 201 r L0 [] hst 1 (fun _ => []) (0, 0, 0)
    generalize fxN A D (sg_g σ 6) B O (fxC A D (sg_g σ 6) B O D.length) 201 r 1 (fun _ => []) (0, 0, 0) = res at kX' pk pe
    match res, kX', pk, pe with
    | .inl (e, s'), kX', _, _ => exact fun σ' q1 q2 q3 q4 => kX' σ' q1 q2 q3 (fun v s1 ρ1 q5 => by cases q5) (fun e1 q5 => by cases q5; exact q4)
    | .inr (v, s', ρ'), kX', pk, pe =>
      intro σ' m' _ q1 q2 _ q4
      obtain ⟨pl, -⟩ := pk v s' ρ' (fun p hp => (by cases hp)) rfl
      obtain ⟨px, -⟩ := pe v s' ρ' 0 (fun p hp => (by cases hp)) (by decide) rfl
      have c5 := q2.2.2.2.2.2
      simp only at c5
      refine ry_z (by rw [q1.2.2.1.2.2.2]; decide) (kX' σ' q1.1 q1.2.1.2.2.1 q2 (fun v1 s1 ρ1 q5 => ?_) (fun e1 q5 => by cases q5))
      cases q5
      exact ⟨q1.2.2.1.1, pl, q1.2.1.1, q4, by omega⟩
  refine ⟨fun n v σ8 => v = 100000 - (n : Int) ∧ Ry σ X n σ8, X, ⟨100000, rfl, R⟩, ?_, fun σ8 _ h8 => by rw [hXd] at h8; exact h8⟩
  rintro n v σ8 rv f8' ⟨hv, hR⟩
  cases n with
  | zero => exact ⟨fun _ => hR, fun q => by omega⟩
  | succ n =>
    obtain ⟨y1, y2, y3⟩ := hR
    refine ⟨fun q => by omega, fun q => ⟨y1, fun q2 => ⟨y2, fun q3 => ?_⟩⟩⟩
    obtain ⟨y4, y5⟩ := y3 q2 q3
    exact ⟨y4, fun σ32 e32 => ⟨Ry σ X n, y5 σ32 e32, fun σ36 _ h36 => ⟨⟨by omega, by omega⟩, n, by omega, by omega, h36⟩⟩⟩
end DHS
/-! The class's flat run answers what the reference's does. -/
theorem fT_nod {A : aT} {x : Int} : ∀ (m : Nat) (R L : List Int), L.length ≤ m → fT A R L → x ∈ L → ∃ Lx, fT A [x] Lx ∧ ∀ y ∈ Lx, y ∈ L
  | m, [], L, hm, h, hx => by
    have e := fT_nil h
    rw [e] at hx
    cases hx
  | 0, r :: R, L, hm, h, hx => by
    cases L with
    | nil => cases hx
    | cons a l => simp at hm
  | m + 1, r :: R, L, hm, h, hx => by
    obtain ⟨L1, L2, e1, w1, w2, w3⟩ := fT_inv h
    subst e1
    have hl : (r :: (L1 ++ L2)).length = 1 + L1.length + L2.length := by rw [List.length_cons, List.length_append]; omega
    rcases List.mem_cons.mp hx with q | q
    · rw [q]
      refine ⟨r :: L1, fT_one w1 w2, fun y hy => ?_⟩
      rcases List.mem_cons.mp hy with p | p
      · rw [p]; exact List.mem_cons_self
      · exact List.mem_cons_of_mem _ (List.mem_append_left _ p)
    · rcases List.mem_append.mp q with p | p
      · obtain ⟨Lx, a, b⟩ := fT_nod m _ L1 (by omega) w2 p
        exact ⟨Lx, a, fun y hy => List.mem_cons_of_mem _ (List.mem_append_left _ (b y hy))⟩
      · obtain ⟨Lx, a, b⟩ := fT_nod m R L2 (by omega) w3 p
        exact ⟨Lx, a, fun y hy => List.mem_cons_of_mem _ (List.mem_append_right _ (b y hy))⟩
section DIS
variable {A : aT} {D : List aDf} {T B : Int → Int} {k : Int}
/-- what NAMES are bound to -/
theorem nm_vb (tyD : ∀ (j : Nat) (x : aDf), D[j]? = some x → tyN A (kDl (D.take j) []) T B 201 (scZ (kPe x) (kPb j 0 x.2.2.1 [])) x.2.2.2) (tyK : tyN A (kDl D []) T B 201 [] k) {LA : List Int} (hf : fT A (aRt D ++ [k]) LA) : ∀ y ∈ LA, A.2.1 y = 1 → vbF A D (B y) := fun y hy k1 => by
  obtain ⟨r, hr, Lr, a1, a2, -⟩ := fT_in hf y hy
  rcases List.mem_append.mp hr with q | q
  · unfold aRt at q
    obtain ⟨x, hx, e⟩ := List.mem_map.mp q
    obtain ⟨j, hj⟩ := List.getElem?_of_mem hx
    rw [← e] at a1
    exact ty_vb (D := D) 201 _ _ Lr a1 (tyD j x hj) (fun p hp => by
      obtain ⟨i, u, hu, ep⟩ := pr_sc p hp
      rw [ep]
      exact Or.inr (Or.inr ⟨j, i, x, hj, gE_l hu, rfl⟩)) y a2 k1
  · have e : r = k := by simpa using q
    rw [e] at a1
    exact ty_vb (D := D) 201 [] k Lr a1 tyK (fun p hp => (by cases hp)) y a2 k1
/-- slots tell binders apart, outside of the tree too -/
theorem hi_6 {σ : sg_S} (hSl : slA σ (vbF A D)) (hv : ∀ y, 0 ≤ y → y < A.1 → A.2.1 y = 1 → vbF A D (sg_g σ 102 y)) : ∃ y0, ∀ y y', A.2.1 y = 1 → A.2.1 y' = 1 → slF σ (sg_g (sT6 σ A.1 y0) 102 y) = slF σ (sg_g (sT6 σ A.1 y0) 102 y') → sg_g (sT6 σ A.1 y0) 102 y = sg_g (sT6 σ A.1 y0) 102 y' := by
  by_cases ex : ∃ y, (0 ≤ y ∧ y < A.1) ∧ A.2.1 y = 1
  · obtain ⟨y0, h0, h1⟩ := ex
    refine ⟨y0, fun y y' q q' e => ?_⟩
    have g : ∀ y, A.2.1 y = 1 → vbF A D (sg_g (sT6 σ A.1 y0) 102 y) := fun y ky => by
      rw [sT6_b]
      by_cases c : 0 ≤ y ∧ y < A.1
      · rw [if_pos c]; exact hv y c.1 c.2 ky
      · rw [if_neg c]; exact hv y0 h0.1 h0.2 h1
    exact hSl.2 _ _ (g y q) (g y' q') e
  · refine ⟨0, fun y y' q q' _ => ?_⟩
    rw [sT6_b, sT6_b, if_neg (fun c => ex ⟨y, c, q⟩), if_neg (fun c => ex ⟨y', c, q'⟩)]
end DIS
/-- the class's run -/
theorem cF9 {σ : sg_S} {A : aT} {D : List aDf} {k : Int} {B0 : Int → Int} {O : Int → Nat → List Int} {Q : Int → sg_S → Prop} (h : clR σ A D k) (hX : pgX σ A D (sg_g σ 101) (sg_g σ 102)) (hB : ∀ x, 0 ≤ x → x < A.1 → sg_g σ 102 x = kPB A D k B0 x) (hT6 : ∀ n, 0 ≤ n → n < A.1 → sg_g σ 6 n = sg_g σ 101 n) (hO : okO A (sg_g σ 102) O) (kk : ∀ σ', Q (fRe (fxA A D (sg_g σ 101) (sg_g σ 102) O k)) σ') : V_mRun σ (sg_g σ 6 k) Q := by
  obtain ⟨b2, b3, b4, b5, ⟨T, Tf, t1, t2⟩, b6, b7, b8, b9, b10⟩ := id h
  obtain ⟨LA, f1, f2, f3, f4⟩ := id b4
  obtain ⟨td, tk⟩ := ty8 h hB
  have vb := nm_vb td tk f1
  obtain ⟨-, -, -, a4⟩ := asm8 b2 b3 b4 b5 t1 t2 b6 b7 b8 b9 hB
  obtain ⟨y0, hi⟩ := hi_6 a4 (fun y z1 z2 ky => vb y (f4 y z1 z2) ky)
  have eB : ∀ x, 0 ≤ x → x < A.1 → sg_g (sT6 σ A.1 y0) 102 x = sg_g σ 102 x := fun x z1 z2 => by rw [sT6_b, if_pos ⟨z1, z2⟩]
  have hB' : ∀ x, 0 ≤ x → x < A.1 → sg_g (sT6 σ A.1 y0) 102 x = kPB A D k B0 x := fun x z1 z2 => (eB x z1 z2).trans (hB x z1 z2)
  obtain ⟨td', tk'⟩ := ty8 h hB'
  have hX' := pgX_6 (y0 := y0) hX td'
  obtain ⟨c1, c2, c3, -⟩ := asm8 b2 b3 b4 b5 t1 t2 b6 b7 b8 b9 hB'
  obtain ⟨H, fs, d1, d2, d3⟩ := asm b2 b3 b4 ⟨fun j x hx => ⟨_, _, _, td' j x hx⟩, _, _, _, tk'⟩ b6 b7
  obtain ⟨O', o1, o2⟩ := S_ex A (sg_g (sT6 σ A.1 y0) 102) (slF σ) hi
  have ha : sg_n (sg_g σ 6 k) ≤ 3 := by rw [sg_id (sg_Rg _ _ _)]; exact tk.2.2.1.2
  have hA := hX.2.2.2.2.1
  have hk : ∀ n, 0 ≤ n → n < A.1 → nW A n ∧ ∀ y ∈ A.2.2.2.2.1 n, 0 ≤ y ∧ y < A.1 := fun n z1 z2 => by
    obtain ⟨Lx, u1, -⟩ := fT_nod LA.length _ LA (Nat.le_refl _) f1 (f4 n z1 z2)
    obtain ⟨L1, L2, e1, w1, w2, w3⟩ := fT_inv u1
    exact ⟨w1, (b2.2.2 n z1 z2).2⟩
  have eq : fRe (fxA A D (sg_g σ 6) (sg_g (sT6 σ A.1 y0) 102) O' k) = fRe (fxA A D (sg_g σ 101) (sg_g σ 102) O k) := by
    refine fRe_r (fxA_pm f1 (fun x hx => ⟨hT6 x (f3 x hx).1 (f3 x hx).2, eB x (f3 x hx).1 (f3 x hx).2, ?_⟩))
    obtain ⟨Lx, u1, u2⟩ := fT_nod LA.length _ LA (Nat.le_refl _) f1 hx
    refine oPm_ok u1 o1 hO (fun y hy => eB y (f3 y (u2 y hy)).1 (f3 y (u2 y hy)).2) (fun y hy ky => bTy_T hA hk hT6 ?_)
    rw [eB y (f3 y (u2 y hy)).1 (f3 y (u2 y hy)).2]
    exact vb y (u2 y hy) ky
  refine y_run (vb := vbF A D) b2 b3 a4 (fun b hb => hb) o1 o2 hX' b4 tk' d1 c1 d2 c2 c3 (fun σ8 f8 e10 _ _ _ => ?_)
  refine y_conc ha (fun σ23 f23 _ => ?_)
  rw [sg_F_g f23 (by rfl), e10, eq]
  exact kk σ23
/-! THE LAW'S STATE, fourth: as many nested and as many flat runs on both sides. -/
def lkZ (σ : sg_S) : Prop := lkR σ ∧ (sg_g σ 0 11 = sg_g σ 88 52 ∧ sg_g σ 0 12 = sg_g σ 88 82) ∧ (sg_g σ 88 28 = 0 ∨ lyR σ)
def okZ8 (L : List Nat) : Bool := okK8 L && (!sg_cv L 0 12 && !sg_cv L 88 82)
theorem lkZ_F {L : List Nat} {σ σ' : sg_S} (h : lkZ σ) (f : sg_F L σ σ') (hL : okZ8 L = true) : lkZ σ' := by
  unfold okZ8 at hL
  simp only [Bool.and_eq_true, Bool.not_eq_true'] at hL
  obtain ⟨l1, l2, l3⟩ := hL
  obtain ⟨a1, ⟨a2, a3⟩, a4⟩ := h
  obtain ⟨b1, b2, b3⟩ := lkK_F ⟨a1, a2, a4⟩ f l1
  exact ⟨b1, ⟨b2, by rw [sg_F_g f l2, sg_F_g f l3]; exact a3⟩, b3⟩
def lwZ (σ : sg_S) : Prop := lwI σ ∧ lkZ σ
/-! The small calls of both sides keep the fourth state. -/
section LZC
variable {σ : sg_S}
theorem lz_c_fault (z : Value) (h : lwZ σ) : wx z 0 13 0 [(0, .inr (.inr (.ref 0)))] [] σ (lwA (fun _ σ' => lwZ σ')) := wk_post (w_cFault z σ) (by rintro v σ' ⟨rfl, rfl⟩; exact ⟨_, rfl, sg_Rg _ _ _, h⟩)
theorem lz_r_fault (z : Value) (h : lwZ σ) : wx z 0 228 0 [(0, .inr (.inr (.ref 88)))] [] σ (lwA (fun _ σ' => lwZ σ')) := by
  have hK := h.2
  replace h := h.1
  exact wk_post (w_fault z σ (fun _ σ' => lwI σ') (by
    unfold V_fault
    intro σ1 e1
    exact lwI_F h (L := [1088]) (by rw [e1]; exact sg_F_w (sg_F_r _ _) rfl _) rfl)) (by rintro v σ' ⟨q, e, r, f9, w⟩; exact ⟨q, e, r, w, lkZ_F hK f9 rfl⟩)
theorem lz_v {j : Nat} {d : Nat} {ls : bm_L} {x : Int} (z : Value) (h : lwZ σ) (w : wx z d j 0 ls [] σ (fun v σ' => v = some (.inl x) ∧ σ' = σ)) : wx z d j 0 ls [] σ (lwA (fun _ σ' => lwZ σ')) := wk_rg (wk_post w (by rintro v σ' ⟨rfl, rfl⟩; exact ⟨⟨_, rfl⟩, h⟩))
theorem lz_c_about (z : Value) {a : Int} (ra : sg_R a) (h : lwZ σ) : wx z 1 2 0 [(0, .inr (.inr (.ref 0))), (1, .inl (a))] [] σ (lwA (fun _ σ' => lwZ σ')) := lz_v z h (w_cAbout z σ a ra)
theorem lz_c_node (z : Value) {a b : Int} (ra : sg_R a) (rb : sg_R b) (h : lwZ σ) : wx z 1 20 0 [(0, .inr (.inr (.ref 0))), (1, .inl (a)), (2, .inl (b))] [] σ (lwA (fun _ σ' => lwZ σ')) := lz_v z h (w_cNode z σ a b ra rb)
theorem lz_c_meter (z : Value) {a : Int} (ra : sg_R a) (h : lwZ σ) : wx z 0 18 0 [(0, .inr (.inr (.ref 0))), (1, .inl (a))] [] σ (lwA (fun _ σ' => lwZ σ')) := lz_v z h (w_cMeter z σ a ra)
theorem lz_c_shown (z : Value) {a : Int} (ra : sg_R a) (h : lwZ σ) : wx z 0 24 0 [(0, .inr (.inr (.ref 0))), (1, .inl (a))] [] σ (lwA (fun _ σ' => lwZ σ')) := lz_v z h (w_cShown z σ a ra)
theorem lz_r_about (z : Value) {a : Int} (ra : sg_R a) (h : lwZ σ) : wx z 1 209 0 [(0, .inr (.inr (.ref 88))), (1, .inl a)] [] σ (lwA (fun _ σ' => lwZ σ')) := by
  have hK := h.2
  replace h := h.1
  exact wk_post (w_about z σ a (fun _ σ' => lwI σ') ra (by
    unfold V_about
    intro σ1 e1
    have h1 := lw_1088 h e1
    exact ⟨fun _ => ⟨fun _ => ⟨fun y => ⟨fun _ => ⟨fun _ => ⟨(lw_root h.2.2.2.2.2.1 y).1, h1⟩, fun _ => h1⟩, fun _ => h1⟩, fun _ => h1⟩, fun _ => h1⟩, fun _ => h1⟩)) (by rintro v σ' ⟨q, e, r, f9, w⟩; exact ⟨q, e, r, w, lkZ_F hK f9 rfl⟩)
theorem lz_r_node (z : Value) {a b : Int} (ra : sg_R a) (rb : sg_R b) (h : lwZ σ) : wx z 1 295 0 [(0, .inr (.inr (.ref 88))), (1, .inl a), (2, .inl b)] [] σ (lwA (fun _ σ' => lwZ σ')) := by
  have hK := h.2
  replace h := h.1
  exact wk_post (w_node z σ a b (fun _ σ' => lwI σ') ra rb (by
    unfold V_node
    intro σ1 e1
    have h1 := lw_1088 h e1
    refine ⟨fun y => ?_, fun _ => h1⟩
    have r := lw_root h.2.2.2.2.2.1 y
    have ii : ¬ v_in a 0 (sg_g σ 88 8 - 1) = 0 → 0 ≤ a ∧ a < 210 := fun w => by
      unfold v_in at w
      split at w
      · exact absurd rfl w
      · split at w
        · exact absurd rfl w
        · omega
    exact ⟨⟨by omega, by omega⟩, fun w => ⟨fun _ => ⟨fun _ => h1, fun _ => ⟨ii w, h1⟩⟩, fun _ => ⟨ii w, h1⟩⟩, fun _ => h1⟩)) (by rintro v σ' ⟨q, e, r, f9, w⟩; exact ⟨q, e, r, w, lkZ_F hK f9 rfl⟩)
theorem lz_r_meter (z : Value) {a : Int} (ra : sg_R a) (h : lwZ σ) : wx z 1 291 0 [(0, .inr (.inr (.ref 88))), (1, .inl a)] [] σ (lwA (fun _ σ' => lwZ σ')) := by
  have hK := h.2
  replace h := h.1
  exact wk_post (w_meter z σ a (fun _ σ' => lwI σ') ra (by
    unfold V_meter
    intro σ1 e1
    have h1 := lw_1088 h e1
    exact ⟨fun _ => ⟨fun _ => ⟨fun _ => ⟨fun _ => ⟨fun _ => h1, fun _ => h1⟩, fun _ => h1⟩, fun _ => h1⟩, fun _ => ⟨fun _ => h1, fun _ => ⟨fun _ => ⟨fun _ => h1, fun _ => h1⟩, fun _ => ⟨fun _ => ⟨fun _ => h1, fun _ => h1⟩, fun _ => h1⟩⟩⟩⟩, fun _ => h1⟩)) (by rintro v σ' ⟨q, e, r, f9, w⟩; exact ⟨q, e, r, w, lkZ_F hK f9 rfl⟩)
theorem lz_r_shown (z : Value) {a : Int} (ra : sg_R a) (h : lwZ σ) : wx z 1 328 0 [(0, .inr (.inr (.ref 88))), (1, .inl a)] [] σ (lwA (fun _ σ' => lwZ σ')) := by
  have hK := h.2
  replace h := h.1
  exact wk_post (w_shown z σ a (fun _ σ' => lwI σ') ra (by
    unfold V_shown
    intro σ1 e1
    have h1 := lw_1088 h e1
    exact ⟨fun _ => ⟨fun _ => h1, fun _ => h1⟩, fun _ => h1⟩)) (by rintro v σ' ⟨q, e, r, f9, w⟩; exact ⟨q, e, r, w, lkZ_F hK f9 rfl⟩)
theorem lz_r_byteAt (z : Value) {a b : Int} (ra : sg_R a) (rb : sg_R b) (h : lwZ σ) : wx z 1 215 0 [(0, .inr (.inr (.ref 88))), (1, .inl a), (2, .inl b)] [] σ (lwA (fun _ σ' => lwZ σ')) := by
  have hK := h.2
  replace h := h.1
  exact wk_post (w_byteAt z σ a b (fun _ σ' => lwI σ') ra rb (by
    unfold V_byteAt
    intro σ1 e1
    have h1 := lw_1088 h e1
    have h76 := h.2.2.2.2.2.2.2.2.1
    have h77 := h.2.2.2.2.2.2.2.2.2
    refine ⟨fun _ v7 e7 r7 => ?_, fun _ => h1⟩
    have b7 : 0 ≤ v7 ∧ v7 ≤ 80000 := by rw [e7]; split <;> assumption
    refine ⟨⟨by omega, by omega⟩, fun _ => h1, fun w => ⟨fun _ => h1, fun w2 v15 e15 r15 => ?_⟩⟩
    have b0 : 0 ≤ b := by
      unfold v_in at w
      split at w
      · exact absurd rfl w
      · omega
    have b15 : v15 = 0 ∨ v15 = 80000 := by rw [e15]; split <;> simp
    exact ⟨⟨by omega, by omega⟩, ⟨by omega, by omega⟩, h1⟩)) (by rintro v σ' ⟨q, e, r, f9, w⟩; exact ⟨q, e, r, w, lkZ_F hK f9 rfl⟩)
theorem lz_r_alike (z : Value) (h : lwZ σ) : wx z 0 213 0 [(0, .inr (.inr (.ref 88)))] [] σ (lwA (fun _ σ' => lwZ σ')) := by
  have hK := h.2
  replace h := h.1
  exact wk_post (w_alike z σ (fun _ σ' => lwI σ') (by
    unfold V_alike
    intro σ1 e1
    have h1 := lw_1088 h e1
    have h76 := h.2.2.2.2.2.2.2.2.1
    refine ⟨fun _ => h1, fun _ => ⟨fun _ => h1, fun _ => ⟨fun _ => h1, fun _ => ⟨fun _ => ⟨fun _ => ⟨fun _ => h1, fun _ => ⟨fun _ => h1, fun _ => h1⟩⟩, fun _ => ⟨fun _ v14 e14 r14 => ?_, fun _ => ⟨fun _ => h1, fun _ => ⟨fun _ => h1, fun _ => h1⟩⟩⟩⟩, fun _ => h1⟩⟩⟩⟩
    refine ⟨fun m v w => m = (80000 - w).toNat ∧ 0 ≤ w ∧ w ≤ 80000, fun _ => True, ⟨_, rfl, by omega, by omega⟩, ?_, fun v17 r17 _ => ⟨fun _ => h1, fun _ => h1⟩⟩
    rintro m v w rv rw' ⟨em, w1, w2⟩
    exact ⟨fun _ => trivial, fun y => ⟨fun _ => trivial, fun _ => ⟨⟨by omega, by omega⟩, ⟨by omega, by omega⟩, ⟨by omega, by omega⟩, fun v42 _ _ => ⟨⟨by omega, by omega⟩, _, by omega, rfl, by omega, by omega⟩⟩⟩⟩)) (by rintro v σ' ⟨q, e, r, f9, w⟩; exact ⟨q, e, r, w, lkZ_F hK f9 rfl⟩)
theorem lz_c_byteAt (z : Value) {a b : Int} (ra : sg_R a) (rb : sg_R b) (h : lwZ σ) : wx z 1 8 0 [(0, .inr (.inr (.ref 0))), (1, .inl a), (2, .inl b)] [] σ (lwA (fun _ σ' => lwZ σ')) := by
  have hK := h.2
  replace h := h.1
  exact wk_post (w_cByteAt z σ a b (fun _ σ' => lwI σ') ra rb (by
    unfold V_cByteAt
    have p1 : p_cAt51 σ b := ⟨fun _ => trivial, fun y => ⟨fun _ => trivial, fun y2 => ⟨⟨y, y2⟩, trivial⟩⟩⟩
    have p2 : p_cAt67 σ b := ⟨fun _ => trivial, fun y => ⟨fun _ => trivial, fun y2 => ⟨⟨y, y2⟩, trivial⟩⟩⟩
    exact ⟨fun _ => ⟨fun _ => h, fun _ => ⟨fun _ => ⟨fun _ => h, fun _ v5 _ _ => ⟨fun _ => ⟨p1, h⟩, fun _ => h⟩⟩, fun _ => h⟩⟩, fun _ => ⟨fun _ => h, fun _ => ⟨fun _ => ⟨fun _ => h, fun _ v5 _ _ => ⟨fun _ => ⟨p2, h⟩, fun _ => h⟩⟩, fun _ => h⟩⟩⟩)) (by rintro v σ' ⟨q, e, r, f9, w⟩; exact ⟨q, e, r, w, by rw [← f9]; exact hK⟩)
theorem lz_c_alike (z : Value) (h : lwZ σ) : wx z 2 3 0 [(0, .inr (.inr (.ref 0)))] [] σ (lwA (fun _ σ' => lwZ σ')) := by
  have hK := h.2
  replace h := h.1
  exact wk_post (w_cAlike z σ (fun _ σ' => lwI σ') (by
    have sm : ∀ R : Int → sg_S → Prop, R 0 σ → R 1 σ → V_iSame4965 σ R := fun R r0 r1 => by
      unfold V_iSame4965
      have r := sg_Rg σ 49 2
      refine ⟨fun _ => ⟨fun m v => m = (2147483647 - v).toNat ∧ 0 ≤ v, True, ⟨_, rfl, by omega⟩, ?_, fun _ => r1⟩, fun _ => r0⟩
      rintro m v rv ⟨em, v0⟩
      exact ⟨fun _ => trivial, fun y => ⟨fun _ => ⟨⟨by omega, by have := r.2; omega⟩, _, by have := r.2; omega, rfl, by omega⟩, fun _ => r0⟩⟩
    unfold V_cAlike
    have s1 : ∀ (P : Prop), V_iSame4965 σ (fun q8 _ => (q8 = 0 ∨ q8 = 1) → ((q8 = 0 → lwI σ) ∧ (¬ q8 = 0 → lwI σ))) := fun _ => sm _ (fun _ => ⟨fun _ => h, fun _ => h⟩) (fun _ => ⟨fun _ => h, fun _ => h⟩)
    exact ⟨fun _ => h, fun _ => ⟨fun _ => h, fun _ => ⟨fun _ => h, fun _ => ⟨fun _ => ⟨fun _ => ⟨fun _ => h, fun _ => ⟨fun _ => s1 True, fun _ => h⟩⟩, fun _ => ⟨fun _ => ⟨fun _ => h, fun _ => ⟨fun _ => s1 True, fun _ => h⟩⟩, fun _ => h⟩⟩, fun _ => h⟩⟩⟩⟩)) (by rintro v σ' ⟨q, e, r, f9, w⟩; exact ⟨q, e, r, w, by rw [← f9]; exact hK⟩)
end LZC
/-! feed, cut, read of both sides keep the fourth state. -/
abbrev lwP4 (z : Value) (d1 j1 : Nat) (l1 : bm_L) (d2 j2 : Nat) (l2 : bm_L) (σ : sg_S) (R : Int → Int → Prop) : Prop := wx z d1 j1 0 l1 [] σ (lwA (fun q σ1 => wx z d2 j2 0 l2 [] σ1 (lwA (fun q' σ2 => R q q' ∧ lwZ σ2))))
theorem lz_feed (z : Value) {σ : sg_S} {a : Int} (ra : sg_RL a) (h : lwZ σ) : lwP4 z 1 14 [(0, .inr (.inr (.ref 0))), (1, .inr (.inl a))] 0 229 [(0, .inr (.inr (.ref 88))), (1, .inr (.inl a))] σ (fun q q' => q' = q) := by
  have hK := h.2
  replace h := h.1
  obtain ⟨n, hn, h1, h2⟩ := bt_n a
  obtain ⟨a1, a2, a3, -⟩ := id h
  refine wk_post (w_cFeed z σ a (fun q σ1 => wx z 0 229 0 [(0, .inr (.inr (.ref 88))), (1, .inr (.inl a))] [] σ1 (lwA (fun q' σ2 => q' = q ∧ lwZ σ2))) ra (c_feed hn h1 h2 a1 (fun hb => ?_) (fun hb σ1 f1 e8 o1 o2 => ?_))) (by rintro v σ' ⟨q, e, r, -, w⟩; exact ⟨q, e, r, w⟩)
  · refine wk_post (w_feed z σ a (fun q' σ2 => q' = -3 ∧ lwI σ2) ra (q_feed hn h1 h2 (by rw [a2]; exact a1) (fun _ σ2 f => ⟨rfl, lwI_F h f rfl⟩) (fun hc => absurd hc (by rw [a2]; omega)))) (by rintro v σ' ⟨q, e, r, f9, w⟩; exact ⟨q, e, r, w.1, w.2, lkZ_F hK f9 rfl⟩)
  · have e2 : sg_g σ1 88 2 = sg_g σ 0 8 := by rw [sg_F_g f1 (by rfl)]; exact a2
    refine wk_post (w_feed z σ1 a (fun q' σ2 => q' = sg_g σ 0 8 + n ∧ lwI σ2) ra (q_feed hn h1 h2 (by rw [e2]; exact a1) (fun hc => absurd hc (by rw [e2]; omega)) (fun _ σ2 f2 g1 g2 g3 => ⟨by rw [e2], ?_⟩))) (by rintro v σ' ⟨q, e, r, f9, w⟩; exact ⟨q, e, r, w.1, w.2, lkZ_F (lkZ_F hK f1 rfl) f9 rfl⟩)
    have F : sg_F [1, 89, 9000, 1088, 3088] σ σ2 := sg_F_t (sg_F_m f1 rfl) (sg_F_m f2 rfl)
    have e8' : sg_g σ2 0 8 = sg_g σ 0 8 + n := by rw [sg_F_g f2 (by rfl)]; exact e8
    have tt : ∀ p, tb σ2 p = tb σ1 p := fun p => by unfold tb; rw [sg_F_ga f2 rfl]
    refine lw_tape h F rfl rfl rfl ⟨by omega, by omega⟩ (by rw [g1, e2, e8']) (fun p p0 p1 => ?_)
    rw [tt]
    by_cases c : p < sg_g σ 0 8
    · rw [g2 p (by rw [e2]; exact c), sg_F_ga f1 rfl, o1 p c]
      exact a3 p p0 c
    · obtain ⟨k, ek⟩ : ∃ k : Nat, p = sg_g σ 0 8 + k := ⟨(p - sg_g σ 0 8).toNat, by omega⟩
      have kn : k < n := by omega
      have u := g3 k kn
      rw [e2, ← ek] at u
      rw [u, ek, o2 k kn]
theorem lz_cut (z : Value) {σ : sg_S} {a : Int} (ra : sg_R a) (h : lwZ σ) : lwP4 z 0 11 [(0, .inr (.inr (.ref 0))), (1, .inl a)] 1 219 [(0, .inr (.inr (.ref 88))), (1, .inl a)] σ (fun q q' => q' = q) := by
  have hK := h.2
  replace h := h.1
  obtain ⟨a1, a2, a3, -⟩ := id h
  have no : v_in a 0 (sg_g σ 88 2) = 0 → wx z 1 219 0 [(0, .inr (.inr (.ref 88))), (1, .inl a)] [] σ (lwA (fun q' σ2 => q' = -2 ∧ lwZ σ2)) := fun hv => by
    refine wk_post (w_cut z σ a (fun q' σ2 => q' = -2 ∧ lwI σ2) ra ?_) (by rintro v σ' ⟨q, e, r, f9, w⟩; exact ⟨q, e, r, w.1, w.2, lkZ_F hK f9 rfl⟩)
    unfold V_cut
    intro σ1 e1
    exact ⟨fun y => absurd hv y, fun _ => ⟨rfl, lw_1088 h e1⟩⟩
  refine wk_post (w_cCut z σ a (fun q σ1 => wx z 1 219 0 [(0, .inr (.inr (.ref 88))), (1, .inl a)] [] σ1 (lwA (fun q' σ2 => q' = q ∧ lwZ σ2))) ra ?_) (by rintro v σ' ⟨q, e, r, -, w⟩; exact ⟨q, e, r, w⟩)
  unfold V_cCut
  refine ⟨fun y => no (by unfold v_in; rw [if_pos y]), fun y => ⟨fun y2 => ⟨⟨by omega, by omega⟩, fun σ4 e4 => ?_⟩, fun y2 => no (by unfold v_in; rw [if_neg (by omega), if_pos (by omega)])⟩⟩
  have f4 : sg_F [9000] σ σ4 := by rw [e4]; exact sg_F_w (sg_F_r _ _) rfl _
  have g2 : sg_g σ4 88 2 = sg_g σ 0 8 := by rw [sg_F_g f4 (by rfl)]; exact a2
  have g8 : sg_g σ4 0 8 = a := by rw [e4, sg_gw_e _ _ _ _ ra]
  refine wk_post (w_cut z σ4 a (fun q' σ2 => q' = sg_g σ 0 8 - a ∧ lwI σ2) ra ?_) (by rintro v σ' ⟨q, e, r, f9, w⟩; exact ⟨q, e, r, w.1, w.2, lkZ_F (lkZ_F hK f4 rfl) f9 rfl⟩)
  unfold V_cut
  rw [g2]
  refine fun σ1 e1 => ⟨fun _ => ⟨⟨by omega, by omega⟩, fun σ6 e6 => ⟨rfl, ?_⟩⟩, fun y3 => absurd y3 (by unfold v_in; rw [if_neg (by omega), if_neg (by omega)]; decide)⟩
  have f6 : sg_F [1088, 3088] σ4 σ6 := by rw [e6, e1]; exact sg_F_w (sg_F_w (sg_F_r _ _) rfl _) rfl _
  have F : sg_F [9000, 1088, 3088] σ σ6 := sg_F_t (sg_F_m f4 rfl) (sg_F_m f6 rfl)
  have k8 : sg_g σ6 0 8 = a := by rw [sg_F_g f6 (by rfl)]; exact g8
  refine lw_tape h F rfl rfl rfl ⟨by omega, by omega⟩ (by rw [e6, sg_gw_e _ _ _ _ ra, ← e6, k8]) (fun p p0 p1 => ?_)
  have t1 : tb σ6 p = tb σ p := by unfold tb; rw [sg_F_ga F rfl]
  rw [t1, sg_F_ga F rfl]
  exact a3 p p0 (by omega)
theorem lz_of (z : Value) {σ : sg_S} {d1 j1 d2 j2 : Nat} {l1 l2 : bm_L} (h1 : wx z d1 j1 0 l1 [] σ (lwA (fun _ σ' => lwZ σ'))) (h2 : ∀ σ1, lwZ σ1 → wx z d2 j2 0 l2 [] σ1 (lwA (fun _ σ' => lwZ σ'))) : lwP4 z d1 j1 l1 d2 j2 l2 σ (fun _ _ => True) :=
  wk_post h1 (by rintro v σ' ⟨q, e, r, w⟩; exact ⟨q, e, r, wk_post (h2 σ' w) (by rintro v2 σ2 ⟨q2, e2, r2, w2⟩; exact ⟨q2, e2, r2, trivial, w2⟩)⟩)
theorem lz_read (z : Value) {σ : sg_S} (h : lwZ σ) : lwP4 z 895 23 [(0, .inr (.inr (.ref 0)))] 10 310 [(0, .inr (.inr (.ref 88)))] σ (fun _ _ => True) := by
  obtain ⟨a1, a2, a3, a4, a5, a6, a7, a8, a9, a10⟩ := h.1
  have hC := h.2.2.1
  obtain ⟨c, ec⟩ : ∃ c : tkC, c = (tb σ, sg_g σ 0 8, sg_gl σ 37, (sg_gl σ 36 7, sg_g σ 36 6)) := ⟨_, rfl⟩
  have c1 : tb σ = c.1 := by rw [ec]
  have c2 : sg_g σ 0 8 = c.2.1 := by rw [ec]
  have c3 : sg_gl σ 37 = c.2.2.1 := by rw [ec]
  have c4 : (sg_gl σ 36 7, sg_g σ 36 6) = c.2.2.2 := by rw [ec]
  have hok : tkOK c := ⟨by rw [← c2]; exact a1.1, by rw [← c2]; exact a1.2, fun p => by rw [← c1]; exact tb_r σ p⟩
  have hb : bY c σ := ⟨hok, by rw [← c2]; exact a2, fun p p0 p1 => by rw [← c1]; exact a3 p p0 (by rw [c2]; exact p1)⟩
  have hr : rsv c.2.2.1 := by rw [← c3]; exact a4
  obtain ⟨t, N, hB, hV⟩ := tk_ex hb hr
  refine wk_post (cr8 z σ hB hV c1 c3 c2 c4) ?_
  rintro v σ1 ⟨⟨q, e, rq, f1, hR⟩, hLk⟩
  refine ⟨q, e, rq, ?_⟩
  have b1 : bY c σ1 := ⟨hok, by rw [sg_F_g f1 (by rfl)]; exact hb.2.1, fun p p0 p1 => by rw [sg_F_ga f1 rfl]; exact hb.2.2 p p0 p1⟩
  refine wk_post (w_readW z σ1 (fun _ σ2 => (¬ accP t N ∧ sg_g σ2 88 28 = 0 ∧ sg_g σ2 88 2 = sg_g σ1 88 2) ∨ (accP t N ∧ sg_g σ2 88 2 = 0 ∧ rfR σ2 ∧ lkS8 c σ2)) (q_read b1 hr ?_ ?_)) ?_
  · intro t' N' q' σ2 hB' hV' na g28 g2
    exact Or.inl ⟨fun y => na ((accP_eq hB hV hB' hV' c1 c3 c2 c4).mp y), g28, g2⟩
  · rintro t' N' A D r q' σ2 hB' hV' ya hp tr df g27 ⟨T, B, hk, hBo⟩ g28 g2
    have p1 := t_pg hp ⟨Int.le_refl _, by decide⟩
    have p2 := t_pg2 hp ⟨Int.le_refl _, by decide⟩ rfl
    obtain ⟨L, x1, x2, x3, -⟩ := id p2
    have ty := tyP (T2 := sg_g σ2 101) (B2 := sg_g σ2 102) D [] 0 T (sg_g σ2 101) B L x1 x2 x3 (fun d hd => by simp at hd) (fun c hc => by simp at hc) (fun x hx => (p1.1 x hx).2.1) hk (fun _ _ => rfl) (fun x _ => congrFun hBo x) (fun c hc => by simp at hc)
    have hX : pgX σ2 A D (sg_g σ2 101) (sg_g σ2 102) := ⟨tr, df, fun _ => rfl, fun _ => rfl, p1.2.2.2.2, fun j x hj => by
      have w := (ty.1 j x hj).1
      rw [Nat.zero_add] at w
      exact w⟩
    exact Or.inr ⟨(accP_eq hB hV hB' hV' c1 c3 c2 c4).mpr ya, g2, Or.inr ⟨g28, A, D, r, hX, g27, ty.2, p2⟩, t', N', A, D, r, T, B, hB', hV', hp, tr, df, g27, hk, g28, hBo, hX, ty.2⟩
  · rintro v' σ2 ⟨q', e', rq', f2, hQ⟩
    refine ⟨q', e', rq', trivial, ?_⟩
    have e37 : sg_gl σ2 37 = sg_gl σ 37 := funext fun x => by rw [sg_F_gal f2 rfl, sg_F_gal f1 rfl]
    have k8 : sg_g σ2 0 8 = sg_g σ1 0 8 := sg_F_g f2 (by rfl)
    have k10 : sg_g σ2 0 10 = sg_g σ1 0 10 := sg_F_g f2 (by rfl)
    have rest : ((0 ≤ sg_g σ2 88 52 ∧ sg_g σ2 88 52 ≤ 20) ∧ (0 ≤ sg_g σ2 88 82 ∧ sg_g σ2 88 82 ≤ 20) ∧ (0 ≤ sg_g σ2 88 76 ∧ sg_g σ2 88 76 ≤ 80000) ∧ (0 ≤ sg_g σ2 88 77 ∧ sg_g σ2 88 77 ≤ 80000)) := by
      rw [sg_F_g f2 (a := 88) (k := 52) (by rfl), sg_F_g f2 (a := 88) (k := 82) (by rfl), sg_F_g f2 (a := 88) (k := 76) (by rfl), sg_F_g f2 (a := 88) (k := 77) (by rfl), sg_F_g f1 (a := 88) (k := 52) (by rfl), sg_F_g f1 (a := 88) (k := 82) (by rfl), sg_F_g f1 (a := 88) (k := 76) (by rfl), sg_F_g f1 (a := 88) (k := 77) (by rfl)]
      exact ⟨a7, a8, a9, a10⟩
    have hC2 : sg_g σ2 0 11 = sg_g σ2 88 52 ∧ sg_g σ2 0 12 = sg_g σ2 88 82 := by
      rw [sg_F_g f2 (a := 0) (k := 11) (by rfl), sg_F_g f2 (a := 88) (k := 52) (by rfl), sg_F_g f1 (a := 0) (k := 11) (by rfl), sg_F_g f1 (a := 88) (k := 52) (by rfl), sg_F_g f2 (a := 0) (k := 12) (by rfl), sg_F_g f2 (a := 88) (k := 82) (by rfl), sg_F_g f1 (a := 0) (k := 12) (by rfl), sg_F_g f1 (a := 88) (k := 82) (by rfl)]
      exact hC
    rcases hR with ⟨n1, n2, n3⟩ | ⟨n1, n2, n3, A1, D1, q1, n4, n5⟩
    · rcases hQ with ⟨-, m2, m3⟩ | ⟨m1, -, -, -⟩
      · refine ⟨?_, ⟨by rw [k10, n2, m2], Or.inl m2⟩, hC2, Or.inl m2⟩
        refine ⟨by rw [k8, n3]; exact a1, by rw [m3, k8, n3, sg_F_g f1 (by rfl)]; exact a2, fun p p0 p1 => ?_, by rw [e37]; exact a4, Or.inl (by rw [k10]; exact n2), Or.inl m2, rest⟩
        rw [k8, n3] at p1
        have t1 : tb σ2 p = tb σ p := by unfold tb; rw [sg_F_ga f2 rfl, sg_F_ga f1 rfl]
        rw [t1, sg_F_ga f2 rfl, sg_F_ga f1 rfl]
        exact a3 p p0 p1
      · exact absurd m1 n1
    · rcases hQ with ⟨m1, -⟩ | ⟨-, m2, m3, m4⟩
      · exact absurd n1 m1
      · have n10 : ¬ sg_g σ1 0 10 = 0 := by rw [n2]; decide
        refine ⟨?_, lkS_of (lkS8_lk m4) f2 n2 (fun t' N' b1 b2 => (hLk t' N' b1 b2).resolve_left n10), hC2, Or.inr ?_⟩
        rotate_left
        · obtain ⟨t2, N2, A, D, r, T, B, s1, s2, s3, s4, s5, s6, s7, s8, s9, s10, s11⟩ := m4
          have e := pg_same hB s1 aE0
          rw [n4, s3] at e
          cases e
          have C2 := clR_F n5 f2 rfl
          refine ⟨_, _, _, C2, s10, s6, s11, ⟨B, fun x _ _ => congrFun s9 x⟩, fun n z1 z2 => ?_⟩
          obtain ⟨-, -, ⟨L, x1, x2, x3, x4⟩, -, ⟨T1, Tf, u1, u2⟩, -⟩ := C2
          rw [u2 n z1]
          exact kPg_e2 x1 u1 s7 n (x4 n z1 z2)
        refine ⟨by rw [k8, n3]; decide, by rw [m2, k8, n3], fun p p0 p1 => ?_, by rw [e37]; exact a4, Or.inr ⟨by rw [k10]; exact n2, flR_F (clR_fl n5) f2 rfl⟩, m3, rest⟩
        rw [k8, n3] at p1
        omega
/-! nested of both sides, over the fourth state. -/
set_option maxRecDepth 10000 in
theorem lz_nested (z : Value) {σ : sg_S} (h : lwZ σ) : lwP4 z 9 19 [(0, .inr (.inr (.ref 0)))] 6 292 [(0, .inr (.inr (.ref 88)))] σ (fun q q' => q' = q) := by
  obtain ⟨hI, hR, ⟨hC, hC12⟩, hY⟩ := h
  have h52 := hI.2.2.2.2.2.2.1
  -- the reference's run, once the class has run
  have ref : ∀ (σ1 : sg_S) (a : Int), sg_F [45, 46, 47, 48, 49, 50, 51, 52, 53, 54, 55, 56, 57, 58, 59, 60, 12000] σ σ1 → ((sg_g σ 88 28 = 0 ∧ a = -4 ∧ sg_g σ1 0 11 = sg_g σ 0 11) ∨ (¬ sg_g σ 88 28 = 0 ∧ sg_g σ 88 52 = 20 ∧ a = -3 ∧ sg_g σ1 0 11 = sg_g σ 0 11) ∨ (¬ sg_g σ 88 28 = 0 ∧ ¬ sg_g σ 88 52 = 20 ∧ sg_g σ1 0 11 = sg_g σ 0 11 + 1 ∧ ∃ A D k, pgX σ A D (sg_g σ 101) (sg_g σ 102) ∧ sg_g σ 88 27 = k ∧ tyN A (kDl D []) (sg_g σ 101) (sg_g σ 102) 201 [] k ∧ a = ansF (evN A (sg_g σ 101) (sg_g σ 102) (eC A D (sg_g σ 101) (sg_g σ 102) D.length) 201 k (fun _ => nmF 0) 0))) → wx z 6 292 0 [(0, .inr (.inr (.ref 88)))] [] σ1 (lwA (fun q' σ2 => q' = a ∧ lwZ σ2)) := fun σ1 a f1 hc => by
    have I1 : lwI σ1 := lwI_F hI f1 rfl
    have R1 : lkR σ1 := lkR_F hR f1 rfl
    have Y1 : sg_g σ1 88 28 = 0 ∨ lyR σ1 := by
      rw [sg_F_g f1 (by rfl)]
      exact hY.imp id (fun w => lyR_F w f1 rfl)
    have e52 : sg_g σ1 88 52 = sg_g σ 88 52 := sg_F_g f1 (by rfl)
    have e28 : sg_g σ1 88 28 = sg_g σ 88 28 := sg_F_g f1 (by rfl)
    have e27 : sg_g σ1 88 27 = sg_g σ 88 27 := sg_F_g f1 (by rfl)
    have e101 : sg_g σ1 101 = sg_g σ 101 := funext fun x => sg_F_ga f1 rfl
    have e102 : sg_g σ1 102 = sg_g σ 102 := funext fun x => sg_F_ga f1 rfl
    -- what the end keeps
    have fin : ∀ σ2, sg_F [122, 123, 124, 125, 126, 127, 128, 129, 130, 131, 132, 133, 134, 135, 136, 137, 138, 1088, 52088, 53088, 54088, 55088, 56088, 57088, 61088, 63088, 71088, 74088, 77088, 79088] σ1 σ2 → sg_g σ1 0 11 = sg_g σ2 88 52 → (0 ≤ sg_g σ2 88 52 ∧ sg_g σ2 88 52 ≤ 20) → (0 ≤ sg_g σ2 88 76 ∧ sg_g σ2 88 76 ≤ 80000) → lwZ σ2 := fun σ2 f g1 b1 b2 => by
      obtain ⟨a1, c2, c3, c4, c5, c6, a7, a8, a9, a10⟩ := I1
      have e37 : sg_gl σ2 37 = sg_gl σ1 37 := funext fun x => sg_F_gal f rfl
      refine ⟨⟨by rw [sg_F_g f (by rfl)]; exact a1, by rw [sg_F_g f (by rfl), sg_F_g f (by rfl)]; exact c2, fun p z1 z2 => ?_, by rw [e37]; exact c4, ?_, rfR_F c6 f rfl rfl rfl rfl rfl, b1, by rw [sg_F_g f (by rfl)]; exact a8, b2, by rw [sg_F_g f (by rfl)]; exact a10⟩, lkR_F R1 f rfl, ⟨by rw [sg_F_g f (by rfl)]; exact g1, by rw [sg_F_g f (a := 0) (k := 12) (by rfl), sg_F_g f (a := 88) (k := 82) (by rfl), sg_F_g f1 (a := 0) (k := 12) (by rfl), sg_F_g f1 (a := 88) (k := 82) (by rfl)]; exact hC12⟩, ?_⟩
      · rw [sg_F_g f (by rfl)] at z2
        rw [sg_F_ga f rfl, c3 p z1 z2]
        unfold tb
        rw [sg_F_ga f rfl]
      · rw [sg_F_g f (by rfl)]
        rcases c5 with q | ⟨q1, q2⟩
        · exact Or.inl q
        · exact Or.inr ⟨q1, flR_F q2 f rfl⟩
      · rw [sg_F_g f (by rfl)]
        exact Y1.imp id (fun w => lyR_F w f rfl)
    have b76 := I1.2.2.2.2.2.2.2.2.1
    rcases hc with ⟨h28, rfl, h11⟩ | ⟨h28, h20, rfl, h11⟩ | ⟨h28, h20, h11, A, D, k, hX, hk, hr, rfl⟩
    · refine wk_post (w_nested z σ1 (fun q' σ2 => q' = -4 ∧ lwZ σ2) (x_nested (A := aE0) (D := []) (T := fun _ => 0) (B := fun _ => 0) (r := 0) (fun _ σ2 e2 => ⟨rfl, ?_⟩) (fun q => absurd (e28.trans h28) q) (fun q => absurd (e28.trans h28) q) (by rw [e52]; exact h52) (fun q => absurd (e28.trans h28) q))) (by rintro v σ' ⟨q, e, r, -, w⟩; exact ⟨q, e, r, w⟩)
      have f2 : sg_F [1088] σ1 σ2 := by rw [e2]; exact sg_F_w (sg_F_r _ _) rfl _
      exact fin σ2 (sg_F_m f2 rfl) (by rw [h11, hC, ← e52, sg_F_g f2 (by rfl)]) (by rw [sg_F_g f2 (by rfl), e52]; exact h52) (by rw [sg_F_g f2 (by rfl)]; exact b76)
    · obtain ⟨A, D, k, y1, y2, y3, y4, y5, y6⟩ := Y1.resolve_left (fun q => h28 (e28.symm.trans q))
      refine wk_post (w_nested z σ1 (fun q' σ2 => q' = -3 ∧ lwZ σ2) (x_nested (A := A) (D := D) (T := sg_g σ1 101) (B := sg_g σ1 102) (r := k) (fun q => absurd (e28.symm.trans q) h28) (fun _ _ σ2 e2 => ⟨rfl, ?_⟩) (fun _ => ⟨y2, y3, y4⟩) (by rw [e52]; exact h52) (fun _ q => absurd (e52.trans h20) q))) (by rintro v σ' ⟨q, e, r, -, w⟩; exact ⟨q, e, r, w⟩)
      have f2 : sg_F [1088] σ1 σ2 := by rw [e2]; exact sg_F_w (sg_F_r _ _) rfl _
      exact fin σ2 (sg_F_m f2 rfl) (by rw [h11, hC, ← e52, sg_F_g f2 (by rfl)]) (by rw [sg_F_g f2 (by rfl), e52]; exact h52) (by rw [sg_F_g f2 (by rfl)]; exact b76)
    · have hX1 : pgX σ1 A D (sg_g σ 101) (sg_g σ 102) := pgX_F f1 rfl hX
      refine wk_post (w_nested z σ1 (fun q' σ2 => q' = ansF (evN A (sg_g σ 101) (sg_g σ 102) (eC A D (sg_g σ 101) (sg_g σ 102) D.length) 201 k (fun _ => nmF 0) 0) ∧ lwZ σ2) (x_nested (A := A) (D := D) (T := sg_g σ 101) (B := sg_g σ 102) (r := k) (fun q => absurd (e28.symm.trans q) h28) (fun _ q => absurd (e52.symm.trans q) h20) (fun _ => ⟨hX1, e27.trans hk, hr⟩) (by rw [e52]; exact h52) (fun _ _ => ?_))) (by rintro v σ' ⟨q, e, r, -, w⟩; exact ⟨q, e, r, w⟩)
      have hJ : ∀ v w' s' ρ', evN A (sg_g σ 101) (sg_g σ 102) (eC A D (sg_g σ 101) (sg_g σ 102) D.length) 201 k (fun _ => nmF 0) 0 = .inr (v, w', s', ρ') → cnvF (sg_g σ 101 k).toNat v ≤ 3000 := fun v w' s' ρ' e => ev_J hX.2.2.2.2.1 (fun j x hx => (hX.2.1.2.2 j x hx).2.2.2.2.1) hX.2.2.2.2.2 hr e
      have kin := hr.2.2.1
      have kr := hr.2.1
      have hA := hX.2.2.2.2.1
      have s50 : ∀ σ37 σ50 σ54, sg_F nsL σ1 σ37 → σ50 = sg_w σ37 88 53 (sg_g σ37 88 73) → sg_F shL σ50 σ54 → sg_g σ37 88 52 = sg_g σ1 88 52 + 1 → (0 ≤ sg_g σ54 88 76 ∧ sg_g σ54 88 76 ≤ 80000) → lwZ σ54 := fun σ37 σ50 σ54 f37 e50 f54 g52 b => by
        have f50 : sg_F [54088] σ37 σ50 := by rw [e50]; exact sg_F_w (sg_F_r _ _) rfl _
        have F : sg_F [122, 123, 124, 125, 126, 127, 128, 129, 130, 131, 132, 133, 134, 135, 136, 137, 138, 1088, 52088, 53088, 54088, 55088, 56088, 57088, 61088, 63088, 71088, 74088, 77088, 79088] σ1 σ54 := sg_F_t (sg_F_m f37 rfl) (sg_F_t (sg_F_m f50 rfl) (sg_F_m f54 rfl))
        have e : sg_g σ54 88 52 = sg_g σ 88 52 + 1 := by rw [sg_F_g f54 (by rfl), sg_F_g f50 (by rfl), g52, e52]
        exact fin σ54 F (by rw [h11, hC, e]) (by rw [e]; omega) b
      generalize evN A (sg_g σ 101) (sg_g σ 102) (eC A D (sg_g σ 101) (sg_g σ 102) D.length) 201 k (fun _ => nmF 0) 0 = r at hJ
      match r, hJ with
      | .inl (e, w'), hJ =>
        intro σ37 σ50 f37 g73 g0 _ g52 _ e50
        refine m_showZ (by rw [e50, sg_gw_e _ _ _ _ (sg_Rg _ _ _), g73]; exact g0) (fun σ54 b f54 _ => ⟨g73, s50 σ37 σ50 σ54 f37 e50 f54 g52 b⟩)
      | .inr (v, w', s', ρ'), hJ =>
        intro σ37 σ50 f37 g73 _ _ g52 _ g56 gv e50
        have f50 : sg_F [54088] σ37 σ50 := by rw [e50]; exact sg_F_w (sg_F_r _ _) rfl _
        have g27 : sg_g σ50 88 27 = k := by rw [sg_F_g f50 (by rfl), sg_F_g f37 (by rfl), e27]; exact hk
        refine m_showV (K := (sg_g σ 101 k).toNat) (by rw [e50, sg_gw_e _ _ _ _ (sg_Rg _ _ _), g73]) (by rw [g27]; omega) ?_ (by have := kin.2; omega) (by rw [sg_F_g f50 (a := 88) (k := 56) (by rfl), sg_F_g f50 (a := 88) (k := 60) (by rfl)]; exact g56) ?_ (fun σ54 b f54 _ => ⟨g73, s50 σ37 σ50 σ54 f37 e50 f54 g52 b⟩)
        · rw [g27, sg_F_ga f50 rfl, sg_F_ga f37 rfl, e101]
          have := kin.1
          omega
        · rw [sg_F_ga f50 rfl]
          exact rv_U (rvF_F gv f50 rfl) (hJ v w' s' ρ' rfl)
  -- the class's run
  have rD : sg_R (sg_g σ 0 11) := sg_Rg _ _ _
  refine wk_post (w_cNested z σ (fun q σ1 => sg_F [45, 46, 47, 48, 49, 50, 51, 52, 53, 54, 55, 56, 57, 58, 59, 60, 12000] σ σ1 → wx z 6 292 0 [(0, .inr (.inr (.ref 88)))] [] σ1 (lwA (fun q' σ2 => q' = q ∧ lwZ σ2))) ?_) (by rintro v σ' ⟨q, e, r, f9, w⟩; exact ⟨q, e, r, w f9⟩)
  unfold V_cNested
  have e10 := hR.1
  refine ⟨fun h10 => ⟨fun h11 => ⟨⟨by have := rD.1; omega, by omega⟩, fun σ4 e4 => ?_⟩, fun h11 f1 => ?_⟩, fun h10 f1 => ?_⟩
  · have h28 : ¬ sg_g σ 88 28 = 0 := by rw [← e10]; exact h10
    obtain ⟨A, D, k, a1, a2, a3, a4, ⟨B0, a5⟩, a6⟩ := hY.resolve_left h28
    have f4 : sg_F [12000] σ σ4 := by rw [e4]; exact sg_F_w (sg_F_r _ _) rfl _
    have c4 := clR_F a1 f4 rfl
    have kr := a4.2.1
    have hA := a2.2.2.2.2.1
    have e35 : sg_g σ 35 4 = k := a1.2.2.2.2.2.2.2.2.2
    have e6 : sx_at σ 6 200 (sg_g σ 35 4) = sg_g σ4 6 k := by rw [e35, xa_in ⟨kr.1, by omega⟩, sg_F_ga f4 rfl]
    rw [e6]
    obtain ⟨L, x1, x2, x3, x4⟩ := a1.2.2.1
    have eT : evN A (sg_g σ4 6) (sg_g σ 102) (eC A D (sg_g σ4 6) (sg_g σ 102) D.length) 201 k = evN A (sg_g σ 101) (sg_g σ 102) (eC A D (sg_g σ 101) (sg_g σ 102) D.length) 201 k := ev_T x1 (fun x hx => by rw [sg_F_ga f4 rfl]; exact a6 x (x3 x hx).1 (x3 x hx).2)
    unfold V_nRun
    intro z'
    refine wk_post (w_mnRun z' σ4 (sg_g σ4 6 k) (fun q σ8 => q = ansF (evN A (sg_g σ 101) (sg_g σ 102) (eC A D (sg_g σ 101) (sg_g σ 102) D.length) 201 k (fun _ => nmF 0) 0)) (sg_Rg _ _ _) (cN8 (B := sg_g σ 102) c4 a5 (fun σ' => by rw [eT]))) ?_
    rintro v σ8 ⟨q, rfl, rq, f8, hq⟩
    refine ⟨q, rfl, rq, sg_F_m f8 rfl, fun _ f9 f1 => ?_⟩
    rw [hq]
    refine ref σ8 _ f1 (Or.inr (Or.inr ⟨h28, by omega, ?_, A, D, k, a2, a3, a4, rfl⟩))
    rw [sg_F_g f9 (by rfl), e4, sg_gw_e _ _ _ _ ⟨by have := rD.1; omega, by omega⟩]
  · have h28 : ¬ sg_g σ 88 28 = 0 := by rw [← e10]; exact h10
    exact ref σ (-3) f1 (Or.inr (Or.inl ⟨h28, by omega, rfl, rfl⟩))
  · have h28 : sg_g σ 88 28 = 0 := by rw [← e10]; exact h10
    exact ref σ (-4) f1 (Or.inl ⟨h28, rfl, rfl⟩)
/-! flat of both sides: the answers are alike. -/
abbrev cfL : List Nat := [61, 62, 63, 64, 65, 66, 67, 68, 69, 70, 71, 72, 73, 74, 75, 76, 78, 79, 80, 81, 82, 83, 84, 85, 86, 87, 8061, 9061, 10061, 11061, 11077, 12077, 13000, 13077, 14077, 15077, 16077, 17077, 18077, 19077, 22061, 23061, 24061, 25061]
abbrev rfL : List Nat := [119, 120, 121, 126, 127, 128, 133, 134, 135, 136, 137, 138, 139, 140, 141, 142, 143, 144, 145, 146, 147, 148, 149, 150, 151, 1088, 47088, 50088, 63088, 71088, 74088, 78088, 79088, 82088, 83088, 84088, 85088, 86088, 87088, 88088, 92088, 94088, 100088, 103088, 104088]
theorem lz_flat (z : Value) {σ : sg_S} (h : lwZ σ) : lwP4 z 9 15 [(0, .inr (.inr (.ref 0)))] 6 231 [(0, .inr (.inr (.ref 88)))] σ (fun q q' => q' = q) := by
  obtain ⟨hI, hR, ⟨hC11, hC⟩, hY⟩ := h
  have h82 := hI.2.2.2.2.2.2.2.1
  -- the reference's run, once the class has run
  have ref : ∀ (σ1 : sg_S) (a : Int), sg_F cfL σ σ1 → ((sg_g σ 88 28 = 0 ∧ a = -4 ∧ sg_g σ1 0 12 = sg_g σ 0 12) ∨ (¬ sg_g σ 88 28 = 0 ∧ sg_g σ 88 82 = 20 ∧ a = -3 ∧ sg_g σ1 0 12 = sg_g σ 0 12) ∨ (¬ sg_g σ 88 28 = 0 ∧ ¬ sg_g σ 88 82 = 20 ∧ sg_g σ1 0 12 = sg_g σ 0 12 + 1 ∧ ∃ A D k O, pgX σ A D (sg_g σ 101) (sg_g σ 102) ∧ sg_g σ 88 27 = k ∧ tyN A (kDl D []) (sg_g σ 101) (sg_g σ 102) 201 [] k ∧ frA A (aRt D ++ [k]) ∧ okO A (sg_g σ 102) O ∧ gaH A (sg_g σ 102) (sg_g σ 116) O ∧ a = fRe (fxA A D (sg_g σ 101) (sg_g σ 102) O k))) → wx z 6 231 0 [(0, .inr (.inr (.ref 88)))] [] σ1 (lwA (fun q' σ2 => q' = a ∧ lwZ σ2)) := fun σ1 a f1 hc => by
    have I1 : lwI σ1 := lwI_F hI f1 rfl
    have R1 : lkR σ1 := lkR_F hR f1 rfl
    have Y1 : sg_g σ1 88 28 = 0 ∨ lyR σ1 := by
      rw [sg_F_g f1 (by rfl)]
      exact hY.imp id (fun w => lyR_F w f1 rfl)
    have e82 : sg_g σ1 88 82 = sg_g σ 88 82 := sg_F_g f1 (by rfl)
    have e28 : sg_g σ1 88 28 = sg_g σ 88 28 := sg_F_g f1 (by rfl)
    have e27 : sg_g σ1 88 27 = sg_g σ 88 27 := sg_F_g f1 (by rfl)
    -- what the end keeps
    have fin : ∀ σ2, sg_F rfL σ1 σ2 → sg_g σ1 0 12 = sg_g σ2 88 82 → (0 ≤ sg_g σ2 88 82 ∧ sg_g σ2 88 82 ≤ 20) → (0 ≤ sg_g σ2 88 77 ∧ sg_g σ2 88 77 ≤ 80000) → lwZ σ2 := fun σ2 f g1 b1 b2 => by
      obtain ⟨a1, c2, c3, c4, c5, c6, a7, a8, a9, a10⟩ := I1
      have e37 : sg_gl σ2 37 = sg_gl σ1 37 := funext fun x => sg_F_gal f rfl
      refine ⟨⟨by rw [sg_F_g f (by rfl)]; exact a1, by rw [sg_F_g f (by rfl), sg_F_g f (by rfl)]; exact c2, fun p z1 z2 => ?_, by rw [e37]; exact c4, ?_, rfR_F c6 f rfl rfl rfl rfl rfl, by rw [sg_F_g f (by rfl)]; exact a7, b1, by rw [sg_F_g f (by rfl)]; exact a9, b2⟩, lkR_F R1 f rfl, ⟨by rw [sg_F_g f (a := 0) (k := 11) (by rfl), sg_F_g f (a := 88) (k := 52) (by rfl), sg_F_g f1 (a := 0) (k := 11) (by rfl), sg_F_g f1 (a := 88) (k := 52) (by rfl)]; exact hC11, by rw [sg_F_g f (a := 0) (k := 12) (by rfl)]; exact g1⟩, ?_⟩
      · rw [sg_F_g f (by rfl)] at z2
        rw [sg_F_ga f rfl, c3 p z1 z2]
        unfold tb
        rw [sg_F_ga f rfl]
      · rw [sg_F_g f (by rfl)]
        rcases c5 with q | ⟨q1, q2⟩
        · exact Or.inl q
        · exact Or.inr ⟨q1, flR_F q2 f rfl⟩
      · rw [sg_F_g f (by rfl)]
        exact Y1.imp id (fun w => lyR_F w f rfl)
    have b77 := I1.2.2.2.2.2.2.2.2.2
    rcases hc with ⟨h28, rfl, h12⟩ | ⟨h28, h20, rfl, h12⟩ | ⟨h28, h20, h12, A, D, k, O, hX, hk, hr, hfr, hO, hG, rfl⟩
    · refine wk_post (w_flat z σ1 (fun q' σ2 => q' = -4 ∧ lwZ σ2) ?_) (by rintro v σ' ⟨q, e, r, -, w⟩; exact ⟨q, e, r, w⟩)
      unfold V_flat
      intro σ2 e2
      refine ⟨fun q => absurd (e28.trans h28) q, fun _ => ⟨rfl, ?_⟩⟩
      have f2 : sg_F [1088] σ1 σ2 := by rw [e2]; exact sg_F_w (sg_F_r _ _) rfl _
      exact fin σ2 (sg_F_m f2 rfl) (by rw [h12, hC, ← e82, sg_F_g f2 (by rfl)]) (by rw [sg_F_g f2 (by rfl), e82]; exact h82) (by rw [sg_F_g f2 (by rfl)]; exact b77)
    · refine wk_post (w_flat z σ1 (fun q' σ2 => q' = -3 ∧ lwZ σ2) ?_) (by rintro v σ' ⟨q, e, r, -, w⟩; exact ⟨q, e, r, w⟩)
      unfold V_flat
      intro σ2 e2
      refine ⟨fun _ => ⟨fun q => absurd (e82.trans h20) q, fun _ => ⟨rfl, ?_⟩⟩, fun q => absurd (e28.symm.trans q) h28⟩
      have f2 : sg_F [1088] σ1 σ2 := by rw [e2]; exact sg_F_w (sg_F_r _ _) rfl _
      exact fin σ2 (sg_F_m f2 rfl) (by rw [h12, hC, ← e82, sg_F_g f2 (by rfl)]) (by rw [sg_F_g f2 (by rfl), e82]; exact h82) (by rw [sg_F_g f2 (by rfl)]; exact b77)
    · have hX1 : pgX σ1 A D (sg_g σ 101) (sg_g σ 102) := pgX_F f1 rfl hX
      refine wk_post (w_flat z σ1 (fun q' σ2 => q' = fRe (fxA A D (sg_g σ 101) (sg_g σ 102) O k) ∧ lwZ σ2) (xq_flat (c := sg_g σ 116) hX1 (e27.trans hk) hr hfr hO hG (fun y => sg_F_ga f1 rfl) (fun q => h28 (e28.symm.trans q)) ⟨by rw [e82]; exact h82.1, by rw [e82]; have := h82.2; omega⟩ (fun σ2 f2 g82 g77 _ _ => ⟨rfl, ?_⟩))) (by rintro v σ' ⟨q, e, r, -, w⟩; exact ⟨q, e, r, w⟩)
      exact fin σ2 (sg_F_m f2 rfl) (by rw [h12, hC, g82, e82]) (by rw [g82, e82]; have := h82.1; have := h82.2; exact ⟨by omega, by omega⟩) g77
  -- the class's run
  have rD : sg_R (sg_g σ 0 12) := sg_Rg _ _ _
  refine wk_post (w_cFlat z σ (fun q σ1 => sg_F cfL σ σ1 → wx z 6 231 0 [(0, .inr (.inr (.ref 88)))] [] σ1 (lwA (fun q' σ2 => q' = q ∧ lwZ σ2))) ?_) (by rintro v σ' ⟨q, e, r, f9, w⟩; exact ⟨q, e, r, w f9⟩)
  unfold V_cFlat
  have e10 := hR.1
  refine ⟨fun h10 => ⟨fun h12 => ⟨⟨by have := rD.1; omega, by omega⟩, fun σ4 e4 => ?_⟩, fun h12 f1 => ?_⟩, fun h10 f1 => ?_⟩
  · have h28 : ¬ sg_g σ 88 28 = 0 := by rw [← e10]; exact h10
    obtain ⟨A, D, k, a1, a2, a3, a4, ⟨B0, a5⟩, a6⟩ := hY.resolve_left h28
    have f4 : sg_F [13000] σ σ4 := by rw [e4]; exact sg_F_w (sg_F_r _ _) rfl _
    have c4 := clR_F a1 f4 rfl
    have kr := a4.2.1
    have hA := a2.2.2.2.2.1
    have e35 : sg_g σ 35 4 = k := a1.2.2.2.2.2.2.2.2.2
    have e6 : sx_at σ 6 200 (sg_g σ 35 4) = sg_g σ4 6 k := by rw [e35, xa_in ⟨kr.1, by omega⟩, sg_F_ga f4 rfl]
    rw [e6]
    obtain ⟨O, o1, o2⟩ := O_ex A (sg_g σ 102) (sg_g σ 116)
    have e101 : sg_g σ4 101 = sg_g σ 101 := funext fun x => sg_F_ga f4 rfl
    have e102 : sg_g σ4 102 = sg_g σ 102 := funext fun x => sg_F_ga f4 rfl
    have n12 : sg_g σ4 0 12 = sg_g σ 0 12 + 1 := by rw [e4, sg_gw_e _ _ _ _ ⟨by have := rD.1; omega, by omega⟩]
    refine cF9 (O := O) (B0 := B0) c4 (by rw [e101, e102]; exact pgX_F f4 rfl a2) (fun x z1 z2 => by rw [e102]; exact a5 x z1 z2) (fun n z1 z2 => by rw [e101, sg_F_ga f4 rfl]; exact a6 n z1 z2) (by rw [e102]; exact o1) (fun σ8 => ?_)
    rw [e101, e102]
    intro _ f9 f1
    exact ref σ8 _ f1 (Or.inr (Or.inr ⟨h28, by omega, by rw [sg_F_g f9 (by rfl)]; exact n12, A, D, k, O, a2, a3, a4, a1.2.2.1, o1, o2, rfl⟩))
  · have h28 : ¬ sg_g σ 88 28 = 0 := by rw [← e10]; exact h10
    exact ref σ (-3) f1 (Or.inr (Or.inl ⟨h28, by omega, rfl, rfl⟩))
  · have h28 : sg_g σ 88 28 = 0 := by rw [← e10]; exact h10
    exact ref σ (-4) f1 (Or.inl ⟨h28, rfl, rfl⟩)
