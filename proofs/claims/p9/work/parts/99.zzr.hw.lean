/-! BIG STEPS: fork, turn, join. -/
/-- what a branch leaves: the wanted slots anew for m lanes, the old ones saved -/
def bB (σ σ8 σ' : sg_S) (n sv m : Int) (W : List Int) : Prop := W.Nodup ∧ yEx σ8 σ' ∧ (∀ s ∈ W, yV σ' (sg_g σ 34 s).toNat (sg_g σ' 62 s) m) ∧ (∀ s, s ∉ W → sg_g σ' 62 s = sg_g σ8 62 s) ∧ (∀ i, sg_g σ' 64 i = sg_g σ8 64 i ∧ sg_g σ' 63 i = sg_g σ8 63 i ∧ sg_g σ' 69 i = sg_g σ8 69 i) ∧ (∀ i, ¬ i = n → sg_g σ' 70 i = sg_g σ8 70 i ∧ sg_g σ' 71 i = sg_g σ8 71 i) ∧ sg_g σ' 71 n = sv ∧ (∀ (i : Nat) (x : Int), W[i]? = some x → sg_g σ' 72 (sv + i) = x ∧ sg_g σ' 73 (sv + i) = sg_g σ8 62 x) ∧ ∀ i, i < sv → sg_g σ' 72 i = sg_g σ8 72 i ∧ sg_g σ' 73 i = sg_g σ8 73 i
def hTs (σ σ8 : sg_S) (P : Int → Prop) (N : Int) : Prop := ∀ s, P s → (0 ≤ s ∧ s < 272) ∧ kIn (sg_g σ 34 s) ∧ yV σ8 (sg_g σ 34 s).toNat (sg_g σ8 62 s) N
theorem hTs_u {σ σ8 σ1 : sg_S} {P P' : Int → Prop} {N : Int} (f : sg_F bRL σ σ1) (h : hTs σ σ8 P N) (hP : ∀ s, P' s → P s) (e : yEx σ8 σ1) (h62 : ∀ s, sg_g σ1 62 s = sg_g σ8 62 s) : ∀ s, P' s → (0 ≤ s ∧ s < 272) ∧ ∃ d : Nat, d ≤ 3 ∧ sg_g σ1 34 s = d ∧ yV σ1 d (sg_g σ1 62 s) N := fun s hs => by
  obtain ⟨a1, a2, a3⟩ := h s (hP s hs)
  unfold kIn at a2
  refine ⟨a1, (sg_g σ 34 s).toNat, by omega, by rw [sg_F_ga f rfl]; omega, ?_⟩
  rw [h62 s]
  exact yV_up e a3
section BIF
variable {σ : sg_S} {σ8 : sg_S} {m : Nat} {t sv N c p n : Int} {C : List (Int × Int)}
theorem cn_e {σ1 σ2 : sg_S} (g : yG σ1) (g' : yG σ2) (h : yEx σ1 σ2) {ch w n : Int} (hc : yRw σ1 ch n) : cnF σ2 ch w n.toNat = cnF σ1 ch w n.toNat := cn_up g g' h hc (by have := hc.2.2.1; omega)
theorem zs_fork {x lo hi bd : Int} (h : bP σ σ8 (t + 1) sv N c p) (hc : 4 ≤ c) (ht : t < 400 ∧ 0 ≤ t) (hp : pl σ p ((7, n) :: C)) (hn : 0 ≤ n ∧ n < 200) (hx : 0 ≤ x ∧ x < 200) (h2 : v_tSecond σ n = x) (h11 : sg_g σ 11 x = lo) (h12 : sg_g σ 12 x = hi) (hl : 0 ≤ lo ∧ hi < 200) (h16 : sg_g σ 16 n = bd) (h69 : sg_g σ8 69 n = N) (hch : yRw σ8 (sg_g σ8 64 t) N) (hs0 : sv ≤ 2400 ∧ sv + (hi - lo + 1) ≤ 2400) (hT : hTs σ σ8 (wnt σ lo hi bd) N) (k : ∀ σ' m' W, m' ≤ m → bP σ σ' t (sv + W.length) (cnF σ8 (sg_g σ8 64 t) 1 N.toNat) c (p + 1) → (∀ s, s ∈ W ↔ wnt σ lo hi bd s) → ((W.length : Int) ≤ hi - lo + 1 ∨ W = []) → bB σ σ8 σ' n sv (cnF σ8 (sg_g σ8 64 t) 1 N.toNat) W → sg_g σ' 70 n = sg_g σ8 64 t → Rr σ m' σ') : Rr σ m σ8 := by
  cases m with
  | zero => exact True.intro
  | succ m =>
    obtain ⟨p0, p1, p2, p3⟩ := pl_c hp
    refine rr_7 (p := p) (k := n) h.2.2.1.2.2.2 p0 p1 p2 (fun σ32 e32 => ?_)
    obtain ⟨h32, f32⟩ := bP_32 h ⟨p0.2, p0.1⟩ e32
    obtain ⟨a1, a2, ⟨a3, a4, a5, a6⟩, a7, a8, a9, a10⟩ := id h32
    have e8 : yEx σ8 σ32 := yEx_F f32 rfl
    have e64 : sg_g σ32 64 t = sg_g σ8 64 t := sg_F_ga f32 rfl
    have wF : ∀ s, wnt σ32 lo hi bd s ↔ wnt σ lo hi bd s := fun s => wnt_F a1 rfl
    refine f_fork (a := n) (x := x) (lo := lo) (hi := hi) (bd := bd) (n := N) (sv := sv) (c := c) (t := t) hn hx ?_ a2 hc a3 ⟨ht.2, ht.1⟩ (by rw [sg_F_ga a1 rfl]; exact h11) (by rw [sg_F_ga a1 rfl]; exact h12) hl (by rw [sg_F_ga a1 rfl]; exact h16) (by rw [sg_F_ga f32 rfl]; exact h69) a7 (by rw [e64]; exact yRw_up e8 hch) a4 ⟨a9, hs0.1, hs0.2⟩ (hTs_u a1 hT (fun s => (wF s).mp) e8 (fun s => sg_F_ga f32 rfl)) (fun σ' _ z _ => rr_s z) (fun σ' W f' w1 w2 w3 w4 w5 w6 w7 _ => ?_)
    · rw [← h2]
      unfold v_tSecond
      rw [xa_in (a := 7) hn, xa_in (a := 7) hn, sg_F_ga a1 rfl]
      unfold sx_at
      split
      · exact sg_F_ga a1 rfl
      · rfl
    · obtain ⟨⟨n1, n2, n3, n4⟩, b1, b2, b3, b4, b5, b6⟩ := w4
      rw [e64] at b1 w6 n3
      have ce : cnF σ32 (sg_g σ8 64 t) 1 N.toNat = cnF σ8 (sg_g σ8 64 t) 1 N.toNat := cn_F f32 rfl _ _ _
      rw [ce] at b1 n3
      have cb := cnF_b σ8 (sg_g σ8 64 t) 1 N.toNat
      refine k σ' m W (by omega) ⟨sg_F_t a1 (sg_F_m f' rfl), n1, ⟨w5, b2, b1, by rw [sg_F_g f' (by rfl)]; exact a6⟩, ⟨by omega, by omega⟩, ht.2, by omega, a10⟩ (fun s => (w2 s).trans (wF s)) w3 ⟨w1, yEx_t e8 n2, fun s hs => ?_, fun s hs => by rw [n4 s hs, sg_F_ga f32 rfl], fun i => ⟨by rw [sg_F_ga f' rfl, sg_F_ga f32 rfl], by rw [sg_F_ga f' rfl, sg_F_ga f32 rfl], by rw [sg_F_ga f' rfl, sg_F_ga f32 rfl]⟩, fun i hi => ⟨by rw [w7 i hi, sg_F_ga f32 rfl], by rw [b4 i hi, sg_F_ga f32 rfl]⟩, b3, fun i x hx => ?_, fun i hi => ?_⟩ w6
      · have q := hT s ((wF s).mp ((w2 s).mp hs))
        have kk := q.2.1
        unfold kIn at kk
        exact n3 s hs _ (by rw [sg_F_ga a1 rfl]; omega)
      · obtain ⟨c1, c2⟩ := b5 i x hx
        exact ⟨c1, by rw [c2, sg_F_ga f32 rfl]⟩
      · obtain ⟨c1, c2⟩ := b6 i hi
        exact ⟨by rw [c1, sg_F_ga f32 rfl], by rw [c2, sg_F_ga f32 rfl]⟩
/-- slots as they were before the branch -/
def rsW (σ8 σ2 : sg_S) (sv : Int) (W : List Int) : Prop := sg_F [62, 9061, 23061] σ8 σ2 ∧ (∀ (i : Nat) (x : Int), W[i]? = some x → sg_g σ2 62 x = sg_g σ8 73 (sv + i)) ∧ ∀ x, x ∉ W → sg_g σ2 62 x = sg_g σ8 62 x
theorem zs_turn {x lo hi bd ch m0 : Int} {W1 : List Int} (h : bP σ σ8 t (sv + W1.length) m0 c p) (h0 : 0 ≤ sv) (hc : 4 ≤ c) (hp : pl σ p ((8, n) :: C)) (hn : 0 ≤ n ∧ n < 200) (hx : 0 ≤ x ∧ x < 200) (h8' : sg_g σ 8 n = x) (h11 : sg_g σ 11 x = lo) (h12 : sg_g σ 12 x = hi) (hl : 0 ≤ lo ∧ hi < 200) (h16 : sg_g σ 16 n = bd) (h69 : sg_g σ8 69 n = N) (hN : 0 ≤ N ∧ N ≤ 6000) (h70 : sg_g σ8 70 n = ch) (hch : yRw σ8 ch N) (h71 : sg_g σ8 71 n = sv) (hs0 : sv ≤ 2400 ∧ sv + (hi - lo + 1) ≤ 2400 ∧ sv + W1.length ≤ 2400) (hN1 : W1.Nodup) (hW1 : ∀ x ∈ W1, 0 ≤ x ∧ x < 272) (h72 : ∀ (i : Nat) (x : Int), W1[i]? = some x → sg_g σ8 72 (sv + i) = x) (hT : ∀ σ2, rsW σ8 σ2 sv W1 → hTs σ σ2 (wnt σ lo hi bd) N) (k : ∀ σ2 σ' m' W, m' ≤ m → rsW σ8 σ2 sv W1 → bP σ σ' t (sv + W.length) (cnF σ8 ch 0 N.toNat) c (p + 1) → (∀ s, s ∈ W ↔ wnt σ lo hi bd s) → ((W.length : Int) ≤ hi - lo + 1 ∨ W = []) → bB σ σ2 σ' n sv (cnF σ8 ch 0 N.toNat) W → sg_g σ' 70 n = ch → Rr σ m' σ') : Rr σ m σ8 := by
  cases m with
  | zero => exact True.intro
  | succ m =>
    obtain ⟨p0, p1, p2, p3⟩ := pl_c hp
    refine rr_8 (p := p) (k := n) h.2.2.1.2.2.2 p0 p1 p2 (fun σ32 e32 => ?_)
    obtain ⟨h32, f32⟩ := bP_32 h ⟨p0.2, p0.1⟩ e32
    obtain ⟨a1, a2, ⟨a3, a4, a5, a6⟩, a7, a8, a9, a10⟩ := id h32
    have e8 : yEx σ8 σ32 := yEx_F f32 rfl
    have wF : ∀ s, wnt σ32 lo hi bd s ↔ wnt σ lo hi bd s := fun s => wnt_F a1 rfl
    have rs : ∀ σ2, sg_F [62, 23061] σ32 σ2 → (∀ (i : Nat) (x : Int), W1[i]? = some x → sg_g σ2 62 x = sg_g σ32 73 (sv + i)) → (∀ x, x ∉ W1 → sg_g σ2 62 x = sg_g σ32 62 x) → rsW σ8 σ2 sv W1 := fun σ2 g1 g2 g3 => ⟨sg_F_t (sg_F_m f32 rfl) (sg_F_m g1 rfl), fun i x hx => by rw [g2 i x hx, sg_F_ga f32 rfl], fun x hx => by rw [g3 x hx, sg_F_ga f32 rfl]⟩
    refine f_turn (W1 := W1) (a := n) (x := x) (lo := lo) (hi := hi) (bd := bd) (n := N) (sv := sv) (c := c) (ch := ch) hn hx (by rw [sg_F_ga a1 rfl]; exact h8') a2 hc (by rw [sg_F_ga a1 rfl]; exact h11) (by rw [sg_F_ga a1 rfl]; exact h12) hl (by rw [sg_F_ga a1 rfl]; exact h16) (by rw [sg_F_ga f32 rfl]; exact h69) hN (by rw [sg_F_ga f32 rfl]; exact h70) (yRw_up e8 hch) (by rw [sg_F_ga f32 rfl]; exact h71) a4 ⟨h0, hs0⟩ hN1 hW1 (fun i x hx => by rw [sg_F_ga f32 rfl]; exact h72 i x hx) (fun σ2 g1 g2 g3 s hs => ?_) (fun σ' _ z _ => rr_s z) (fun σ2 σ' W f' g1 g2 g3 w1 w2 w3 w4 _ => ?_)
    · obtain ⟨q1, q2, q3⟩ := hT σ2 (rs σ2 g1 g2 g3) s ((wF s).mp hs)
      unfold kIn at q2
      exact ⟨q1, (sg_g σ 34 s).toNat, by omega, by rw [sg_F_ga a1 rfl]; omega, yV_up (yEx_x (sg_F_g g1 (by rfl)).symm (sg_F_g g1 (by rfl)).symm (fun v _ _ => ⟨(sg_F_ga g1 rfl).symm, (sg_F_ga g1 rfl).symm, (sg_F_ga g1 rfl).symm⟩) (fun x _ => ⟨(sg_F_ga g1 rfl).symm, (sg_F_ga g1 rfl).symm⟩)) q3⟩
    · have R2 := rs σ2 g1 g2 g3
      obtain ⟨⟨n1, n2, n3, n4⟩, b1, b2, b3, b4, b5, b6⟩ := w4
      have ce : cnF σ32 ch 0 N.toNat = cnF σ8 ch 0 N.toNat := cn_F f32 rfl _ _ _
      rw [ce] at b1 n3
      have cb := cnF_b σ8 ch 0 N.toNat
      refine k σ2 σ' m W (by omega) R2 ⟨sg_F_t a1 (sg_F_m f' rfl), n1, ⟨by rw [sg_F_g f' (by rfl)]; exact a3, b2, b1, by rw [sg_F_g f' (by rfl)]; exact a6⟩, ⟨by omega, by omega⟩, a8, by omega, a10⟩ (fun s => (w2 s).trans (wF s)) w3 ⟨w1, n2, fun s hs => ?_, n4, fun i => ⟨by rw [sg_F_ga f' rfl, sg_F_ga g1 rfl], by rw [sg_F_ga f' rfl, sg_F_ga g1 rfl], by rw [sg_F_ga f' rfl, sg_F_ga g1 rfl]⟩, fun i hi => ⟨by rw [sg_F_ga f' rfl, sg_F_ga g1 rfl], b4 i hi⟩, b3, b5, b6⟩ (by rw [sg_F_ga f' rfl, sg_F_ga f32 rfl]; exact h70)
      have q := hT σ2 R2 s ((wF s).mp ((w2 s).mp hs))
      have kk := q.2.1
      unfold kIn at kk
      exact n3 s hs _ (by rw [sg_F_ga g1 rfl, sg_F_ga a1 rfl]; omega)
theorem zs_join {ch m0 : Int} {D : Nat} {W : List Int} (h : bP σ σ8 (t + 2) (sv + W.length) m0 c p) (h0 : 0 ≤ sv) (ht : t + 2 ≤ 400 ∧ 0 ≤ t) (hc : 4 ≤ c) (hp : pl σ p ((9, n) :: C)) (hn : 0 ≤ n ∧ n < 200) (h6 : sg_g σ 6 n = D) (hD : D ≤ 3) (h69 : sg_g σ8 69 n = N) (hN : 0 ≤ N ∧ N ≤ 6000) (h70 : sg_g σ8 70 n = ch) (hch : yRw σ8 ch N) (hA : yV σ8 D (sg_g σ8 64 t) (cnF σ8 ch 1 N.toNat)) (hB : yV σ8 D (sg_g σ8 64 (t + 1)) (cnF σ8 ch 0 N.toNat)) (h71 : sg_g σ8 71 n = sv) (hs0 : sv + W.length ≤ 2400) (hN1 : W.Nodup) (hW1 : ∀ x ∈ W, 0 ≤ x ∧ x < 272) (h72 : ∀ (i : Nat) (x : Int), W[i]? = some x → sg_g σ8 72 (sv + i) = x) (k : ∀ σ' m', m' ≤ m → bP σ σ' (t + 1) sv N c (p + 1) → yEx σ8 σ' → yV σ' D (sg_g σ' 64 t) N → (∀ i, i < t → sg_g σ' 64 i = sg_g σ8 64 i) → (∀ (i : Nat) (x : Int), W[i]? = some x → sg_g σ' 62 x = sg_g σ8 73 (sv + i)) → (∀ x, x ∉ W → sg_g σ' 62 x = sg_g σ8 62 x) → (∀ i, sg_g σ' 63 i = sg_g σ8 63 i ∧ sg_g σ' 69 i = sg_g σ8 69 i ∧ sg_g σ' 70 i = sg_g σ8 70 i ∧ sg_g σ' 71 i = sg_g σ8 71 i ∧ sg_g σ' 72 i = sg_g σ8 72 i ∧ sg_g σ' 73 i = sg_g σ8 73 i) → Rr σ m' σ') : Rr σ m σ8 := by
  cases m with
  | zero => exact True.intro
  | succ m =>
    obtain ⟨p0, p1, p2, p3⟩ := pl_c hp
    refine rr_9 (p := p) (k := n) h.2.2.1.2.2.2 p0 p1 p2 (fun σ32 e32 => ?_)
    obtain ⟨h32, f32⟩ := bP_32 h ⟨p0.2, p0.1⟩ e32
    obtain ⟨a1, a2, ⟨a3, a4, a5, a6⟩, a7, a8, a9, a10⟩ := id h32
    have e8 : yEx σ8 σ32 := yEx_F f32 rfl
    refine f_join (W := W) (a := n) (sb := sv) (n := N) (t := t) (c := c) (ch := ch) (D := D) hn a2 hc hD (by rw [sg_F_ga a1 rfl]; exact h6) (by rw [sg_F_ga f32 rfl]; exact h69) hN (by rw [sg_F_ga f32 rfl]; exact h70) (yRw_up e8 hch) a3 ⟨ht.2, ht.1⟩ (by rw [sg_F_ga f32 rfl, cn_F f32 rfl]; exact yV_up e8 hA) (by rw [sg_F_ga f32 rfl, cn_F f32 rfl]; exact yV_up e8 hB) (by rw [sg_F_ga f32 rfl]; exact h71) a4 ⟨h0, hs0⟩ hN1 hW1 (fun i x hx => by rw [sg_F_ga f32 rfl]; exact h72 i x hx) (fun σ' f' r' _ => ?_)
    rcases r' with z | ⟨z1, z2, z3, z4, z5, z6, z7, z8, z9⟩
    · exact rr_s z
    · refine k σ' m (by omega) ⟨sg_F_t a1 (sg_F_m f' rfl), z1, ⟨z5, z4, z3, by rw [sg_F_g f' (by rfl)]; exact a6⟩, hN, by omega, h0, a10⟩ (yEx_t e8 z2) z6 (fun i hi => by rw [z7 i hi, sg_F_ga f32 rfl]) (fun i x hx => by rw [z8 i x hx, sg_F_ga f32 rfl]) (fun x hx => by rw [z9 x hx, sg_F_ga f32 rfl]) (fun i => ⟨by rw [sg_F_ga f' rfl, sg_F_ga f32 rfl], by rw [sg_F_ga f' rfl, sg_F_ga f32 rfl], by rw [sg_F_ga f' rfl, sg_F_ga f32 rfl], by rw [sg_F_ga f' rfl, sg_F_ga f32 rfl], by rw [sg_F_ga f' rfl, sg_F_ga f32 rfl], by rw [sg_F_ga f' rfl, sg_F_ga f32 rfl]⟩)
end BIF
