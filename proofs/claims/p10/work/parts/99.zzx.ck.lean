/-! COUNTS: no value of a run counts more than the work that a run may do. -/
theorem cn_nm0 : ∀ d, cnvF d (nmF 0) = 0
  | 0 => rfl
  | d + 1 => by
    have e : itF (nmF 0) = [] := by simp [itF, nmF]
    simp only [cnvF, e]
    rfl
theorem sum_in {d : Nat} {l : List vaF} {u : vaF} (h : u ∈ l) : cnvF d u ≤ sumF (l.map (cnvF d)) := by
  induction l with
  | nil => cases h
  | cons x r ih =>
    simp only [List.map_cons, sumF]
    have a := cnF_0 d x
    have b := sum_0 d r
    rcases List.mem_cons.mp h with q | q
    · rw [q]; omega
    · have := ih q; omega
theorem it_cn {d : Nat} {v : vaF} {i : Nat} (h : cnvF (d + 1) v ≤ 3000) : cnvF d ((itF v).getD i (nmF 0)) ≤ 3000 := by
  rcases Nat.lt_or_ge i (itF v).length with q | q
  · rw [List.getD_eq_getElem?_getD, List.getElem?_eq_getElem q, Option.getD_some]
    have := sum_in (d := d) (List.getElem_mem q)
    simp only [cnvF] at h
    omega
  · rw [List.getD_eq_getElem?_getD, List.getElem?_eq_none q, Option.getD_none, cn_nm0]; decide
section CNJ
variable {A : aT} {D : List aDf} {T B : Int → Int} {call : Int → eV → Int → eR}
/-- all that is bound counts little -/
def jB (A : aT) (D : List aDf) (T : Int → Int) (ρ : eV) : Prop := ∀ b, cnvF (bTy A D T b).toNat (ρ b) ≤ 3000
theorem jB_0 : jB A D T (fun _ => nmF 0) := fun b => by rw [cn_nm0]; decide
theorem jB_up {ρ : eV} {b : Int} {v : vaF} (h : jB A D T ρ) (hv : cnvF (bTy A D T b).toNat v ≤ 3000) : jB A D T (eUp ρ b v) := fun x => by
  unfold eUp
  by_cases e : x = b
  · rw [if_pos e, e]; exact hv
  · rw [if_neg e]; exact h x
theorem jB_us {b : Int} : ∀ (vs : List vaF) (j : Nat) (ρ : eV), jB A D T ρ → (∀ (i : Nat) (v : vaF), vs[i]? = some v → cnvF (bTy A D T (b + ((j + i : Nat) : Int))).toNat v ≤ 3000) → jB A D T (eUs ρ b j vs)
  | [], j, ρ, h, _ => h
  | v :: r, j, ρ, h, hv => by
    simp only [eUs]
    refine jB_us r (j + 1) _ (jB_up h (hv 0 v rfl)) (fun i u hu => ?_)
    have := hv (i + 1) u (by rw [List.getElem?_cons_succ]; exact hu)
    rw [show j + 1 + i = j + (i + 1) by omega]
    exact this
theorem eS_J {go : Int → eV → Int → eR} {P : Int → Prop} (hg : gB go) (hgo : ∀ x, P x → ∀ ρ w v w' s' ρ', 0 ≤ w → w ≤ 3000 → jB A D T ρ → go x ρ w = .inr (v, w', s', ρ') → cnvF (T x).toNat v ≤ 3000 ∧ jB A D T ρ') : ∀ (R : List Int) (ρ : eV) (w : Int) (vs : List vaF) (w' s' : Int) (ρ' : eV), (∀ x ∈ R, P x) → 0 ≤ w → w ≤ 3000 → jB A D T ρ → eS go R ρ w = .inr (vs, w', s', ρ') → vs.length = R.length ∧ (∀ (i : Nat) (v : vaF) (x : Int), vs[i]? = some v → R[i]? = some x → cnvF (T x).toNat v ≤ 3000) ∧ jB A D T ρ'
  | [], ρ, w, vs, w', s', ρ', hP, h0, hw, hj, h => by
    simp only [eS, Sum.inr.injEq, Prod.mk.injEq] at h
    obtain ⟨rfl, rfl, rfl, rfl⟩ := h
    exact ⟨rfl, fun i v x hv => by simp at hv, hj⟩
  | x :: r, ρ, w, vs, w', s', ρ', hP, h0, hw, hj, h => by
    simp only [eS] at h
    split at h
    · cases h
    · rename_i v1 w1 s1 ρ1 e1
      have a := hg _ _ _ _ _ _ _ hw e1
      obtain ⟨b1, b2⟩ := hgo x (hP x (by simp)) ρ w v1 w1 s1 ρ1 h0 hw hj e1
      split at h
      · cases h
      · rename_i vs2 w2 s2 ρ2 e2
        obtain ⟨c1, c2, c3⟩ := eS_J hg hgo r ρ1 w1 vs2 w2 s2 ρ2 (fun y hy => hP y (by simp [hy])) (by omega) a.2.1 b2 e2
        simp only [Sum.inr.injEq, Prod.mk.injEq] at h
        obtain ⟨rfl, rfl, rfl, rfl⟩ := h
        refine ⟨by simp only [List.length_cons]; omega, fun i v y hv hy => ?_, c3⟩
        cases i with
        | zero =>
          simp only [List.getElem?_cons_zero, Option.some.injEq] at hv hy
          rw [← hv, ← hy]; exact b1
        | succ i => exact c2 i v y (by simpa using hv) (by simpa using hy)
theorem evT_J {go : Int → eV → Int → eR} (hg : gB go) {gd : List Int} {bd : Int} (hgo : ∀ x ∈ gd ++ [bd], ∀ ρ w v w' s' ρ', 0 ≤ w → w ≤ 3000 → jB A D T ρ → go x ρ w = .inr (v, w', s', ρ') → jB A D T ρ') {ρ : eV} {w : Int} {vs : List vaF} {w' s' : Int} {ρ' : eV} (h0 : 0 ≤ w) (hw : w ≤ 3000) (hj : jB A D T ρ) (h : evT go gd bd ρ w = .inr (vs, w', s', ρ')) : jB A D T ρ' := by
  cases gd with
  | nil =>
    simp only [evT] at h
    split at h
    · cases h
    · rename_i v1 w1 s1 ρ1 e1
      simp only [Sum.inr.injEq, Prod.mk.injEq] at h
      obtain ⟨-, -, -, rfl⟩ := h
      exact hgo bd (by simp) _ _ _ _ _ _ h0 hw hj e1
  | cons g r =>
    simp only [evT] at h
    split at h
    · cases h
    · rename_i v1 w1 s1 ρ1 e1
      have a := hg _ _ _ _ _ _ _ hw e1
      have b := hgo g (by simp) _ _ _ _ _ _ h0 hw hj e1
      split at h
      · simp only [Sum.inr.injEq, Prod.mk.injEq] at h
        obtain ⟨-, -, -, rfl⟩ := h
        exact b
      · split at h
        · cases h
        · rename_i v2 w2 s2 ρ2 e2
          simp only [Sum.inr.injEq, Prod.mk.injEq] at h
          obtain ⟨-, -, -, rfl⟩ := h
          exact hgo bd (by simp) _ _ _ _ _ _ (by omega) a.2.1 b e2
theorem eP_J {one : Nat → eV → Int → eRs} (ho : ∀ i ρ w vs w' s' ρ', 0 ≤ w → w ≤ 3000 → jB A D T ρ → one i ρ w = .inr (vs, w', s', ρ') → (w ≤ w' ∧ w' ≤ 3000) ∧ jB A D T ρ') : ∀ (k i : Nat) (ρ : eV) (w bs : Int) (acc vs : List vaF) (w' bs' : Int) (ρ' : eV), 0 ≤ w → w ≤ 3000 → jB A D T ρ → eP one k i ρ w bs acc = .inr (vs, w', bs', ρ') → (w ≤ w' ∧ w' ≤ 3000) ∧ jB A D T ρ'
  | 0, i, ρ, w, bs, acc, vs, w', bs', ρ', h0, hw, hj, h => by
    simp only [eP, Sum.inr.injEq, Prod.mk.injEq] at h
    obtain ⟨rfl, rfl, rfl, rfl⟩ := h
    exact ⟨⟨Int.le_refl _, hw⟩, hj⟩
  | k + 1, i, ρ, w, bs, acc, vs, w', bs', ρ', h0, hw, hj, h => by
    simp only [eP] at h
    split at h
    · cases h
    · rename_i vs1 w1 s1 ρ1 e1
      obtain ⟨a1, a2⟩ := ho _ _ _ _ _ _ _ h0 hw hj e1
      obtain ⟨b1, b2⟩ := eP_J ho k (i + 1) ρ1 w1 _ _ vs w' bs' ρ' (by omega) a1.2 a2 h
      exact ⟨⟨by omega, b1.2⟩, b2⟩
theorem ePay_i {r : Int ⊕ (vaF × Int)} {w s : Int} {ρ : eV} {v : vaF} {w' s' : Int} {ρ' : eV} (h : ePay r w s ρ = .inr (v, w', s', ρ')) : ∃ c, r = .inr (v, c) ∧ w + c ≤ 3000 ∧ ρ' = ρ := by
  match r, h with
  | .inl e, h => simp only [ePay] at h; cases h
  | .inr (u, c), h =>
    simp only [ePay] at h
    split at h
    · rename_i hc
      simp only [Sum.inr.injEq, Prod.mk.injEq] at h
      obtain ⟨rfl, -, -, rfl⟩ := h
      exact ⟨c, rfl, hc, rfl⟩
    · cases h
theorem eO_14 {ty x : Int} {vs : List vaF} : eO 14 ty x vs = .inr (mkF vs, cnL (ty - 1).toNat vs) := by
  unfold eO
  simp only
  rw [if_neg (by decide), if_neg (by decide), if_neg (by decide), if_neg (by decide), if_pos trivial]
theorem eO_12 {ty x c : Int} {vs : List vaF} {v : vaF} (h : eO 12 ty x vs = .inr (v, c)) : v = (itF (vs.getD 0 (nmF 0))).getD (vs.getD 1 (nmF 0) []).toNat (nmF 0) := by
  unfold eO at h
  simp only at h
  rw [if_neg (by decide), if_neg (by decide), if_neg (by decide), if_pos trivial] at h
  split at h
  · simp only [Sum.inr.injEq, Prod.mk.injEq] at h
    exact h.1.symm
  · cases h
set_option maxRecDepth 10000 in
theorem evN_J {jd : Nat} (hA : A.1 ≤ 200) (hP6 : ∀ (j : Nat) (x : aDf), D[j]? = some x → x.2.2.1.length ≤ 6) (hc : gB call) (hC : ∀ (q : Nat) (x : aDf), q < jd → D[q]? = some x → ∀ ρ w v w' s' ρ', 0 ≤ w → w ≤ 3000 → jB A D T ρ → call q ρ w = .inr (v, w', s', ρ') → cnvF (T x.2.2.2).toNat v ≤ 3000 ∧ jB A D T ρ') : ∀ (f : Nat) (n : Int) (sc : List (Int × Int)), tyN A (kDl (D.take jd) []) T B f sc n → (∀ p ∈ sc, p.2 = bTy A D T p.1) → ∀ ρ w v w' s' ρ', 0 ≤ w → w ≤ 3000 → jB A D T ρ → evN A T B call f n ρ w = .inr (v, w', s', ρ') → cnvF (T n).toNat v ≤ 3000 ∧ jB A D T ρ'
  | 0, n, sc, hty, hsc, ρ, w, v, w', s', ρ', h0, hw, hj, h => hty.elim
  | f + 1, n, sc, hty, hsc, ρ, w, v, w', s', ρ', h0, hw, hj, h => by
    have ih := evN_J hA hP6 hc hC f
    have gb := eN_b (A := A) (T := T) (B := B) hc f
    have hty0 := hty
    obtain ⟨t1, t2, t3, t4, t5, t6, t7, t8, t9⟩ := hty
    obtain ⟨n1, n2, n3, n4, n5, n6, n7, n8⟩ := id t1
    simp only [evN] at h
    split at h
    rotate_left
    · cases h
    rename_i hw1
    split at h
    · rename_i c1
      simp only [Sum.inr.injEq, Prod.mk.injEq] at h
      obtain ⟨rfl, -, -, rfl⟩ := h
      have e : T n = bTy A D T (B n) := hsc _ (t4 c1)
      exact ⟨by rw [e]; exact hj (B n), hj⟩
    rename_i c1
    have g := t5 c1
    split at h
    · rename_i c2
      obtain ⟨a, b, hk⟩ := kid2 (n3 (Or.inl c2))
      obtain ⟨ta, tb⟩ := t7 c2 a b hk
      rw [show (A.2.2.2.2.1 n).getD 0 0 = a by rw [hk]; rfl, show (A.2.2.2.2.1 n).getD 1 0 = b by rw [hk]; rfl] at h
      rw [kTy_2 c2, hk] at g
      have g' : T b = T n := Option.some.inj g
      split at h
      · cases h
      · rename_i v1 w1 s1 ρ1 e1
        have a1 := gb _ _ _ _ _ _ _ hw1 e1
        obtain ⟨b1, b2⟩ := ih a sc ta hsc _ _ _ _ _ _ (by omega) hw1 hj e1
        split at h
        · cases h
        · rename_i v2 w2 s2 ρ2 e2
          have hb : bTy A D T n = T a := bTy_l hk (by omega)
          obtain ⟨d1, d2⟩ := ih b ((n, T a) :: sc) tb (fun p hp => by
            rcases List.mem_cons.mp hp with q | q
            · rw [q]; exact hb.symm
            · exact hsc p q) _ _ _ _ _ _ (by omega) a1.2.1 (jB_up b2 (by rw [hb]; exact b1)) e2
          simp only [Sum.inr.injEq, Prod.mk.injEq] at h
          obtain ⟨rfl, -, -, rfl⟩ := h
          exact ⟨by rw [← g']; exact d1, d2⟩
    rename_i c2
    split at h
    · rename_i c3
      obtain ⟨a, b, d, hk⟩ : ∃ a b d, A.2.2.2.2.1 n = [a, b, d] := by
        have l3 := n4 c3
        match hh : A.2.2.2.2.1 n with
        | [a, b, d] => exact ⟨a, b, d, rfl⟩
        | [] => rw [hh] at l3; simp at l3
        | [_] => rw [hh] at l3; simp at l3
        | [_, _] => rw [hh] at l3; simp at l3
        | _ :: _ :: _ :: _ :: _ => rw [hh] at l3; simp at l3
      rw [kTy_3 c3, hk] at g
      obtain ⟨g1, g2, g3⟩ := kIs_in g
      simp only [Bool.and_eq_true, decide_eq_true_eq] at g3
      have gb1 : T n = T b := g1
      have gd1 : T b = T d := g3.2
      have tk : ∀ x ∈ [a, b, d], tyN A (kDl (D.take jd) []) T B f sc x := fun x hx => t9 c2 (by omega) x (by rw [hk]; exact hx)
      rw [show (A.2.2.2.2.1 n).getD 0 0 = a by rw [hk]; rfl] at h
      split at h
      · cases h
      · rename_i v1 w1 s1 ρ1 e1
        have a1 := gb _ _ _ _ _ _ _ hw1 e1
        obtain ⟨b1, b2⟩ := ih a sc (tk a (by simp)) hsc _ _ _ _ _ _ (by omega) hw1 hj e1
        split at h
        · cases h
        · rename_i v2 w2 s2 ρ2 e2
          simp only [Sum.inr.injEq, Prod.mk.injEq] at h
          obtain ⟨rfl, -, -, rfl⟩ := h
          by_cases z : v1 [] = 0
          · rw [if_pos z, show (A.2.2.2.2.1 n).getD 2 0 = d by rw [hk]; rfl] at e2
            obtain ⟨d1, d2⟩ := ih d sc (tk d (by simp)) hsc _ _ _ _ _ _ (by omega) a1.2.1 b2 e2
            exact ⟨by rw [gb1, gd1]; exact d1, d2⟩
          · rw [if_neg z, show (A.2.2.2.2.1 n).getD 1 0 = b by rw [hk]; rfl] at e2
            obtain ⟨d1, d2⟩ := ih b sc (tk b (by simp)) hsc _ _ _ _ _ _ (by omega) a1.2.1 b2 e2
            exact ⟨by rw [gb1]; exact d1, d2⟩
    rename_i c3
    split at h
    · rename_i c13
      have tk : ∀ x ∈ A.2.2.2.2.1 n, tyN A (kDl (D.take jd) []) T B f sc x := fun x hx => t9 c2 (by omega) x hx
      obtain ⟨y1, y2, y, y3, y4, y5⟩ := ty_cl hty0 c13
      obtain ⟨q, eq⟩ : ∃ q : Nat, B n = (q : Int) := ⟨(B n).toNat, by omega⟩
      rw [eq] at h y2
      rw [eq, Int.toNat_natCast] at y3
      split at h
      · cases h
      · rename_i vs w1 s1 ρ1 e1
        have a1 := (eS_b gb _ _ _ _ _ _ _ hw1 e1).1
        obtain ⟨b1, b2, b3⟩ := eS_J (P := fun x => tyN A (kDl (D.take jd) []) T B f sc x) gb (fun x hx => ih x sc hx hsc) _ _ _ _ _ _ _ tk (by omega) hw1 hj e1
        split at h
        · cases h
        · rename_i v2 w2 s2 ρ2 e2
          have hj2 : jB A D T (eUs ρ1 (1100 + 6 * (q : Int)) 0 vs) := jB_us vs 0 ρ1 b3 (fun i u hu => by
            have hi := gE_l hu
            have l1 := congrArg List.length y4
            rw [List.length_map, List.length_map] at l1
            have p6 := hP6 q y y3
            obtain ⟨x, hx⟩ : ∃ x, (A.2.2.2.2.1 n)[i]? = some x := ⟨(A.2.2.2.2.1 n)[i]'(by omega), List.getElem?_eq_getElem _⟩
            obtain ⟨p, hp⟩ : ∃ p, y.2.2.1[i]? = some p := ⟨y.2.2.1[i]'(by omega), List.getElem?_eq_getElem _⟩
            have m := congrArg (fun l : List Int => l[i]?) y4
            simp only [List.getElem?_map, hx, hp, Option.map_some, Option.some.injEq] at m
            rw [Nat.zero_add, bTy_p y3 hp (by omega), ← m]
            exact b2 i u x hu hx)
          obtain ⟨d1, d2⟩ := hC q y (by omega) y3 _ _ _ _ _ _ (by omega) a1.2.1 hj2 e2
          simp only [Sum.inr.injEq, Prod.mk.injEq] at h
          obtain ⟨rfl, -, -, rfl⟩ := h
          exact ⟨by rw [y5]; exact d1, d2⟩
    rename_i c13
    split at h
    · rename_i c15
      have l7 := n7 c15
      obtain ⟨bd, tl, hk⟩ : ∃ bd tl, A.2.2.2.2.1 n = bd :: tl := by
        match hh : A.2.2.2.2.1 n with
        | bd :: tl => exact ⟨bd, tl, rfl⟩
        | [] => rw [hh] at l7; simp only [List.length_nil] at l7; omega
      obtain ⟨u1, u2⟩ := t8 c15 bd tl hk
      have eg : kGs A n = tl.take (A.2.2.2.2.2 n).length := by unfold kGs; rw [hk]; rfl
      have ed : (A.2.2.2.2.1 n).drop (1 + (A.2.2.2.2.2 n).length) = tl.drop (A.2.2.2.2.2 n).length := by rw [hk, Nat.add_comm, List.drop_succ_cons]
      rw [eg, ed, show (A.2.2.2.2.1 n).getD 0 0 = bd by rw [hk]; rfl] at h
      rw [kTy_15 c15, hk] at g
      obtain ⟨g1, g2, g3⟩ := kIs_in g
      have gn : T n = T bd + 1 := g1
      have tbd : 0 ≤ T bd := by
        have tb := u2 bd (by simp)
        cases f with
        | zero => exact tb.elim
        | succ f => exact tb.2.2.1.1
      split at h
      · cases h
      · rename_i vs w1 s1 ρ1 e1
        have a1 := (eS_b gb _ _ _ _ _ _ _ hw1 e1).1
        obtain ⟨b1, b2, b3⟩ := eS_J (P := fun x => tyN A (kDl (D.take jd) []) T B f sc x) gb (fun x hx => ih x sc hx hsc) _ _ _ _ _ _ _ (fun x hx => (u1 x hx).1) (by omega) hw1 hj e1
        have sc2 : ∀ p ∈ gsc n T 0 (tl.take (A.2.2.2.2.2 n).length) ++ sc, p.2 = bTy A D T p.1 := fun p hp => by
          rcases List.mem_append.mp hp with z | z
          · have key : ∀ (xs : List Int) (j : Nat), (∀ (i : Nat) (x : Int), xs[i]? = some x → tl[j + i]? = some x ∧ j + i < 4) → ∀ p ∈ gsc n T j xs, p.2 = bTy A D T p.1 := fun xs => by
              induction xs with
              | nil => exact fun j _ p hp => by cases hp
              | cons x r ihr =>
                intro j hx p hp
                simp only [gsc] at hp
                rcases List.mem_cons.mp hp with w | w
                · obtain ⟨v1, v2⟩ := hx 0 x rfl
                  rw [w]
                  exact (bTy_g hk v1 (by omega) (by omega)).symm
                · exact ihr (j + 1) (fun i y hy => by
                    have := hx (i + 1) y (by rw [List.getElem?_cons_succ]; exact hy)
                    rw [show j + 1 + i = j + (i + 1) by omega]
                    exact this) p w
            refine key _ 0 (fun i x hx => ?_) p z
            have hi := gE_l hx
            rw [List.length_take] at hi
            rw [List.getElem?_take, if_pos (by omega)] at hx
            rw [Nat.zero_add]
            exact ⟨hx, by omega⟩
          · exact hsc p z
        split at h
        · cases h
        split at h
        · cases h
        · rename_i acc w2 bs ρ2 e2
          obtain ⟨d1, d2⟩ := eP_J (fun i ρ w vs' w' s' ρ' z0 zw zj ze => by
            refine ⟨⟨(evT_b gb zw ze).1.1, (evT_b gb zw ze).1.2.1⟩, evT_J gb (fun x hx ρ w v w' s' ρ' y0 yw yj ye => (ih x _ (u2 x hx) sc2 ρ w v w' s' ρ' y0 yw yj ye).2) z0 zw ?_ ze⟩
            refine jB_us _ 0 ρ zj (fun j u hu => ?_)
            rw [List.getElem?_map] at hu
            obtain ⟨v0, hv0⟩ : ∃ v0, vs[j]? = some v0 := by
              cases hv : vs[j]? with
              | none => rw [hv] at hu; cases hu
              | some v0 => exact ⟨v0, rfl⟩
            rw [hv0, Option.map_some] at hu
            have hu' := (Option.some.inj hu).symm
            have hj' := gE_l hv0
            rw [b1] at hj'
            obtain ⟨x, hx⟩ : ∃ x, (tl.take (A.2.2.2.2.2 n).length)[j]? = some x := ⟨_, List.getElem?_eq_getElem hj'⟩
            have bx := b2 j v0 x hv0 hx
            have px := (u1 x (List.mem_of_getElem? hx)).2
            rw [List.length_take] at hj'
            rw [List.getElem?_take, if_pos (by omega)] at hx
            rw [Nat.zero_add, bTy_g hk hx (by omega) (by omega), hu']
            refine it_cn ?_
            rw [show (T x - 1).toNat + 1 = (T x).toNat by omega]
            exact bx) _ _ _ _ _ _ _ _ _ _ (by omega) a1.2.1 b3 e2
          obtain ⟨c, p1, p2, p3⟩ := ePay_i h
          simp only [Sum.inr.injEq, Prod.mk.injEq] at p1
          obtain ⟨rfl, rfl⟩ := p1
          refine ⟨?_, by rw [p3]; exact d2⟩
          rw [show (T n).toNat = (T n - 1).toNat + 1 by omega, cnF_mk]
          omega
    rename_i c15
    split at h
    · cases h
    · rename_i vs w1 s1 ρ1 e1
      have tk : ∀ x ∈ A.2.2.2.2.1 n, tyN A (kDl (D.take jd) []) T B f sc x := fun x hx => t9 c2 c15 x hx
      have a1 := (eS_b gb _ _ _ _ _ _ _ hw1 e1).1
      obtain ⟨b1, b2, b3⟩ := eS_J (P := fun x => tyN A (kDl (D.take jd) []) T B f sc x) gb (fun x hx => ih x sc hx hsc) _ _ _ _ _ _ _ tk (by omega) hw1 hj e1
      obtain ⟨c, p1, p2, p3⟩ := ePay_i h
      refine ⟨?_, by rw [p3]; exact b3⟩
      have z0 : T n = 0 → cnvF (T n).toNat v ≤ 3000 := fun z => by
        rw [z]
        show (0 : Int) ≤ 3000
        decide
      by_cases c0 : A.2.1 n = 0
      · rw [kTy_0 c0] at g
        exact z0 (Option.some.inj g).symm
      by_cases c14 : A.2.1 n = 14
      · rw [kTy_14 c14] at g
        obtain ⟨g1, g2, g3⟩ := kIs_in g
        have pos : 0 ≤ ((A.2.2.2.2.1 n).map T).getD 0 0 := by
          cases hh : A.2.2.2.2.1 n with
          | nil => exact Int.le_refl _
          | cons x r =>
            have tx := tk x (by rw [hh]; simp)
            cases f with
            | zero => exact tx.elim
            | succ f => exact tx.2.2.1.1
        rw [c14, eO_14] at p1
        simp only [Sum.inr.injEq, Prod.mk.injEq] at p1
        obtain ⟨rfl, rfl⟩ := p1
        rw [show (T n).toNat = (T n - 1).toNat + 1 by omega, cnF_mk]
        omega
      have tt := kTy_o (A := A) (ds := kDl (D.take jd) []) (T := T) (n := n) (ty := T n) (ts := (A.2.2.2.2.1 n).map T) (by rw [List.length_map]; exact t1) g (by omega) c13 c14 c15 (fun x hx => by
        obtain ⟨y, hy, rfl⟩ := List.mem_map.mp hx
        have ty := tk y hy
        cases f with
        | zero => exact ty.elim
        | succ f => exact ty.2.2.1.1)
      by_cases c12 : A.2.1 n = 12
      · have l2 := n3 (Or.inr (Or.inr c12))
        obtain ⟨a, b, hk⟩ := kid2 l2
        rw [c12] at p1
        have ev := eO_12 p1
        rw [hk] at b1 b2 tt
        obtain ⟨v0, hv0⟩ : ∃ v0, vs[0]? = some v0 := ⟨vs[0]'(by rw [b1]; simp), List.getElem?_eq_getElem _⟩
        have bv := b2 0 v0 a hv0 rfl
        have tn : T n = T a - 1 ∧ 0 < T a := by
          rcases tt with ⟨q, -⟩ | ⟨-, q⟩
          · simp at q
          · unfold op2 at q
            have e0 : ([a, b].map T).getD 0 0 = T a := rfl
            rw [e0] at q
            omega
        have e0 : vs.getD 0 (nmF 0) = v0 := by rw [List.getD_eq_getElem?_getD, hv0, Option.getD_some]
        rw [ev, e0]
        refine it_cn ?_
        rw [show (T n).toNat + 1 = (T a).toNat by omega]
        exact bv
      have tn : T n = 0 ∨ (16 ≤ A.2.1 n ∧ ¬ (A.2.1 n = 18 ∨ A.2.1 n = 19 ∨ A.2.1 n = 20) ∧ 1 ≤ T n ∧ (A.2.1 n = 16 ∨ A.2.1 n = 21 → T n = 1)) := by
        have t0 := t3.1
        rcases tt with ⟨-, q⟩ | ⟨-, q⟩
        · unfold op1 at q
          omega
        · unfold op2 at q
          have p0 : 0 ≤ ((A.2.2.2.2.1 n).map T).getD 0 0 := by
            cases hh : A.2.2.2.2.1 n with
            | nil => exact Int.le_refl _
            | cons x r =>
              have tx := tk x (by rw [hh]; simp)
              cases f with
              | zero => exact tx.elim
              | succ f => exact tx.2.2.1.1
          omega
      rcases tn with z | ⟨z1, z2, z3, z4⟩
      · exact z0 z
      · rcases eO_g (A.2.1 n) (T n) (sg_n (A.2.2.2.1 n)) vs with ⟨e, q1, q2⟩ | ⟨u, c', q1, q2, q3⟩
        · rw [q1] at p1; cases p1
        · rw [q1] at p1
          simp only [Sum.inr.injEq, Prod.mk.injEq] at p1
          obtain ⟨rfl, rfl⟩ := p1
          rw [← q3 z1 z2 z3 z4]
          omega
set_option maxRecDepth 10000 in
theorem eC_J (hA : A.1 ≤ 200) (hP6 : ∀ (j : Nat) (x : aDf), D[j]? = some x → x.2.2.1.length ≤ 6) (hD : ∀ (j : Nat) (x : aDf), D[j]? = some x → tyN A (kDl (D.take j) []) T B 201 (scZ (kPe x) (kPb j 0 x.2.2.1 [])) x.2.2.2) : ∀ (q k : Nat) (x : aDf), q < k → D[q]? = some x → ∀ ρ w v w' s' ρ', 0 ≤ w → w ≤ 3000 → jB A D T ρ → eC A D T B k q ρ w = .inr (v, w', s', ρ') → cnvF (T x.2.2.2).toNat v ≤ 3000 ∧ jB A D T ρ' := by
  intro q
  induction q using Nat.strongRecOn with
  | ind q ih =>
    intro k x hqk hx ρ w v w' s' ρ' h0 hw hj h
    rw [eC_e A D T B k q hqk, List.getD_eq_getElem?_getD, hx, Option.getD_some] at h
    refine evN_J (jd := q) hA hP6 (eC_b A D T B q) (fun q' x' hq' hx' => ih q' hq' q x' hq' hx') 201 x.2.2.2 _ (hD q x hx) (fun p hp => ?_) ρ w v w' s' ρ' h0 hw hj h
    have hp' : p ∈ scZ (x.2.2.1.reverse.map (fun p => (p.1, p.2.2)) ++ []) (kPb (q : Int) 0 x.2.2.1 []) := by rw [List.append_nil]; exact hp
    rcases scZ_p x.2.2.1 0 [] [] p hp' with ⟨j, y, hy, rfl⟩ | z
    · have l6 := hP6 q x hx
      have hl := gE_l hy
      simp only [Nat.zero_add]
      exact (bTy_p hx hy (by clear h; omega)).symm
    · simp [scZ] at z
/-- what a PROGRAM comes to counts little -/
theorem ev_J (hA : A.1 ≤ 200) (hP6 : ∀ (j : Nat) (x : aDf), D[j]? = some x → x.2.2.1.length ≤ 6) (hD : ∀ (j : Nat) (x : aDf), D[j]? = some x → tyN A (kDl (D.take j) []) T B 201 (scZ (kPe x) (kPb j 0 x.2.2.1 [])) x.2.2.2) {r : Int} (hr : tyN A (kDl D []) T B 201 [] r) {v : vaF} {w' s' : Int} {ρ' : eV} (h : evN A T B (eC A D T B D.length) 201 r (fun _ => nmF 0) 0 = .inr (v, w', s', ρ')) : cnvF (T r).toNat v ≤ 3000 := by
  have hr' : tyN A (kDl (D.take D.length) []) T B 201 [] r := by rw [List.take_of_length_le (Nat.le_refl _)]; exact hr
  exact (evN_J (jd := D.length) hA hP6 (eC_b A D T B D.length) (fun q x hq hx => eC_J hA hP6 hD q D.length x hq hx) 201 r [] hr' (fun p hp => by cases hp) (fun _ => nmF 0) 0 v w' s' ρ' (by decide) (by decide) jB_0 h).1
end CNJ
/-! NUMBERS: what a NUMBER's node tells is what stands at its place, in the tree. -/
def zA (G : Int → Int) (A : aT) : Prop := 0 ≤ A.1 ∧ ∀ n, 0 ≤ n → n < A.1 → A.2.1 n = 0 → A.2.2.2.1 n = G (A.2.2.1 n)
def zT (G : Int → Int) (t : aK) : Prop := ∀ i, t.1 i = 1 → t.2.1 i = G (t.2.2 i)
def zF (G : Int → Int) (F : aF) : Prop := ∀ i A i' A' q, F i A = some (i', A', q) → zA G A → zA G A'
theorem zA_new {G : Int → Int} {A : aT} {kd p w : Int} (h : zA G A) (hk : kd = 0 → w = G p) : zA G (aNew A kd p w) := by
  obtain ⟨h0, h⟩ := h
  refine ⟨by simp only [aNew]; omega, fun n a b z => ?_⟩
  by_cases e : n = A.1
  · subst e
    simp only [aNew, aU, if_true] at z ⊢
    exact hk z
  · simp only [aNew] at b
    simp only [aNew, aU_n _ _ e] at z ⊢
    exact h n a (by omega) z
theorem zA_kid {G : Int → Int} {A : aT} {n q : Int} (h : zA G A) : zA G (aKid A n q) := h
theorem zA_gn {G : Int → Int} {A : aT} {n w p : Int} (h : zA G A) : zA G (aGn A n w p) := h
theorem zA_wd {G : Int → Int} {A : aT} {n w : Int} (h : zA G A) (hn : ¬ A.2.1 n = 0) : zA G (aWd A n w) := by
  refine ⟨h.1, fun k a b z => ?_⟩
  by_cases e : k = n
  · subst e
    exact absurd z hn
  · simp only [aWd, aU_n _ _ e]
    exact h.2 k a b z
section ZRF
variable {t : aK} {G : Int → Int}
theorem mk_k {i : Nat} {A : aT} {kd : Int} {A1 : aT} {n : Int} (hm : aMk t i A kd = some (A1, n)) : A1.2.1 n = kd := by
  obtain ⟨e, -⟩ := mk_s hm
  cases e
  simp [aNew, aU]
theorem mk_z (hV : zT G t) {i : Nat} {A : aT} {kd : Int} {A1 : aT} {n : Int} (hm : aMk t i A kd = some (A1, n)) (h : zA G A) (hk : kd = 0 → t.2.1 i = G (t.2.2 i)) : zA G A1 := by
  obtain ⟨e, -⟩ := mk_s hm
  cases e
  exact zA_new h hk
theorem zF_n : zF G (fun _ _ => none) := fun _ _ _ _ _ h _ => by cases h
theorem zF_btw (hV : zT G t) {kd : Int} {S : aF} (hT : zF G S) (hk : 4 ≤ kd ∧ kd ≤ 10) {l : Int} {i : Nat} {A : aT} {i' : Nat} {A' : aT} {q : Int} (h : aBtw t kd S l i A = some (i', A', q)) (h0 : zA G A) : zA G A' := by
  unfold aBtw at h
  split at h
  · cases h
  · rename_i A1 n hm
    have a1 := mk_z hV hm h0 (fun z => by omega)
    split at h
    · cases h
    · rename_i i2 A2 r he
      cases h
      exact zA_kid (hT _ _ _ _ _ he (zA_kid a1))
theorem zF_let (hV : zT G t) {E : aF} (hT : zF G E) {i : Nat} {A : aT} {i' : Nat} {A' : aT} {q : Int} (h : aLet t E i A = some (i', A', q)) (h0 : zA G A) : zA G A' := by
  unfold aLet at h
  split at h
  · cases h
  · rename_i A1 n hm
    have a1 := mk_z hV hm h0 (fun z => by omega)
    split at h
    · rename_i hnm
      split at h
      · split at h
        · cases h
        · rename_i i2 A2 a he
          have a2 := hT _ _ _ _ _ he (zA_wd a1 (by rw [mk_k hm]; decide))
          split at h
          · split at h
            · cases h
            · rename_i i3 A3 b hf
              cases h
              exact zA_kid (hT _ _ _ _ _ hf (zA_kid a2))
          · cases h
      · cases h
    · cases h
theorem zF_if (hV : zT G t) {E : aF} (hT : zF G E) : zF G (aIf t E) := by
  intro i A i' A' q h h0
  unfold aIf at h
  split at h
  · cases h
  · rename_i A1 n hm
    have a1 := mk_z hV hm h0 (fun z => by omega)
    split at h
    · cases h
    · rename_i i2 A2 a he
      have a2 := hT _ _ _ _ _ he a1
      split at h
      · split at h
        · cases h
        · rename_i i3 A3 b hf
          have a3 := hT _ _ _ _ _ hf (zA_kid a2)
          split at h
          · split at h
            · cases h
            · rename_i i4 A4 c hg
              cases h
              exact zA_kid (hT _ _ _ _ _ hg (zA_kid a3))
          · cases h
      · cases h
theorem zF_cmp (hV : zT G t) {S : aF} (hT : zF G S) : zF G (aCmp t S) := by
  intro i A i' A' q h h0
  unfold aCmp at h
  split at h
  · cases h
  · rename_i i1 A1 l he
    have a1 := hT _ _ _ _ _ he h0
    unfold aCmpR at h
    split at h
    · cases h; exact a1
    · rename_i kd hq
      exact zF_btw hV hT (qF_C _ _ hq) h a1
theorem zF_rowL (hV : zT G t) {q0 : Nat → Option Int} (hq0 : qF q0) {S : aF} (hT : zF G S) : ∀ (m : Nat) (l : Int) (i : Nat) (A : aT) (i' : Nat) (A' : aT) (q : Int), aRowL t q0 S m l i A = some (i', A', q) → zA G A → zA G A'
  | 0, l, i, A, i', A', q, h, h0 => by
    unfold aRowL at h
    cases h
    exact h0
  | m + 1, l, i, A, i', A', q, h, h0 => by
    unfold aRowL at h
    split at h
    · cases h
      exact h0
    · rename_i kd hq
      split at h
      · cases h
      · rename_i i2 A2 n hb2
        exact zF_rowL hV hq0 hT m _ _ _ _ _ _ h (zF_btw hV hT (hq0 _ _ hq) hb2 h0)
theorem zF_row (hV : zT G t) {q0 : Nat → Option Int} (hq : qF q0) {S : aF} (hT : zF G S) : zF G (aRow t q0 S) := by
  intro i A i' A' q h h0
  unfold aRow at h
  split at h
  · cases h
  · rename_i i1 A1 l he
    unfold aRowR at h
    exact zF_rowL hV hq hT _ _ _ _ _ _ _ h (hT _ _ _ _ _ he h0)
theorem zF_behL (hV : zT G t) {w : Bool} {E : aF} (hT : zF G E) : ∀ (m : Nat) (l : Int) (i : Nat) (A : aT) (i' : Nat) (A' : aT) (q : Int), aBehL t w E m l i A = some (i', A', q) → zA G A → zA G A'
  | 0, l, i, A, i', A', q, h, h0 => by
    unfold aBehL at h
    cases h
    exact h0
  | m + 1, l, i, A, i', A', q, h, h0 => by
    unfold aBehL at h
    split at h
    · split at h
      · split at h
        · cases h
        · rename_i i2 A2 n hb2
          refine zF_behL hV hT m _ _ _ _ _ _ h ?_
          unfold aIdx at hb2
          split at hb2
          · cases hb2
          · rename_i A1 n1 hm
            have a1 := mk_z hV hm h0 (fun z => by omega)
            split at hb2
            · cases hb2
            · rename_i i3 A3 r he
              split at hb2
              · cases hb2
                exact zA_kid (hT _ _ _ _ _ he (zA_kid a1))
              · cases hb2
      · cases h
    · cases h
      exact h0
theorem zF_lstL {E : aF} (hT : zF G E) {n ch : Int} : ∀ (m : Nat) (i : Nat) (A : aT) (i' : Nat) (A' : aT), aLstL t E n ch m i A = some (i', A') → zA G A → zA G A'
  | 0, i, A, i', A', h, _ => by unfold aLstL at h; cases h
  | m + 1, i, A, i', A', h, h0 => by
    unfold aLstL at h
    split at h
    · cases h
    · rename_i i1 A1 r he
      have a1 := hT _ _ _ _ _ he h0
      split at h
      · exact zF_lstL hT m _ _ _ _ h (zA_kid a1)
      · split at h
        · cases h
          exact zA_kid a1
        · cases h
theorem zF_lst {E : aF} (hT : zF G E) {n ch : Int} {i : Nat} {A : aT} {i' : Nat} {A' : aT} {q : Int} (h : aLst t E n ch i A = some (i', A', q)) (h0 : zA G A) : zA G A' := by
  unfold aLst at h
  split at h
  · cases h
  · rename_i i1 A1 he
    cases h
    exact zF_lstL hT _ _ _ _ _ he h0
theorem zF_args {E : aF} (hT : zF G E) {n : Int} {i : Nat} {A : aT} {i' : Nat} {A' : aT} {q : Int} (h : aArgs t E n i A = some (i', A', q)) (h0 : zA G A) : zA G A' := by
  unfold aArgs at h
  split at h
  · cases h
    exact h0
  · exact zF_lst hT h h0
theorem zF_wrd (hV : zT G t) {w : Bool} {E : aF} (hT : zF G E) : zF G (aWrd t w E) := by
  intro i A i' A' q h h0
  unfold aWrd at h
  split at h
  · split at h
    · rename_i hnm
      split at h
      · split at h
        · cases h
        · rename_i A1 n hm
          have a1 := mk_z hV hm h0 (fun z => by omega)
          split at h
          · exact zF_args hT h a1
          · cases h
      · split at h
        · cases h
        · rename_i A1 n hm
          have a1 := mk_z hV hm h0 (fun z => by omega)
          cases h
          exact a1
    · cases h
  · rename_i ha
    split at h
    · cases h
    · rename_i A1 n hm
      have k := act_k ha
      have a1 := mk_z hV hm h0 (fun z => by omega)
      split at h
      · split at h
        · exact zF_args hT h a1
        · cases h
      · cases h
theorem zF_genL (hV : zT G t) {E : aF} (hT : zF G E) {n : Int} : ∀ (m : Nat) (i : Nat) (A : aT) (i' : Nat) (A' : aT), aGenL t E n m i A = some (i', A') → zA G A → zA G A'
  | 0, i, A, i', A', h, _ => by unfold aGenL at h; cases h
  | m + 1, i, A, i', A', h, h0 => by
    unfold aGenL at h
    split at h
    · rename_i hnm
      split at h
      · split at h
        · cases h
        · rename_i i1 A1 r he
          have a1 := hT _ _ _ _ _ he (zA_gn h0)
          split at h
          · exact zF_genL hV hT m _ _ _ _ h (zA_kid a1)
          · cases h
            exact zA_kid a1
      · cases h
    · cases h
theorem zF_grd {E : aF} (hT : zF G E) {n : Int} {i : Nat} {A : aT} {i' : Nat} {A' : aT} {q : Int} (h : aGrd t E n i A = some (i', A', q)) (h0 : zA G A) : zA G A' := by
  unfold aGrd aEnd at h
  split at h
  · split at h
    · cases h
    · rename_i i1 A1 r he
      have a1 := hT _ _ _ _ _ he h0
      split at h
      · cases h
        exact zA_kid a1
      · cases h
  · split at h
    · cases h
      exact h0
    · cases h
theorem zF_each (hV : zT G t) {E : aF} (hT : zF G E) : zF G (aEach t E) := by
  intro i A i' A' q h h0
  unfold aEach at h
  split at h
  · cases h
  · rename_i A1 n hm
    have a1 := mk_z hV hm h0 (fun z => by omega)
    split at h
    · cases h
    · rename_i i2 A2 b he
      have a2 := hT _ _ _ _ _ he a1
      split at h
      · unfold aGens at h
        split at h
        · cases h
        · rename_i i3 A3 hg
          exact zF_grd hT h (zF_genL hV hT _ _ _ _ _ hg (zA_kid a2))
      · cases h
theorem zF_atm (hV : zT G t) {w : Bool} {E : aF} (hT : zF G E) : zF G (aAtm t w E) := by
  intro i A i' A' q h h0
  unfold aAtm at h
  split at h
  · rename_i h1
    split at h
    · cases h
    · rename_i A1 n hm
      have a1 := mk_z hV hm h0 (fun _ => hV _ h1)
      cases h
      exact a1
  · split at h
    · exact zF_wrd hV hT _ _ _ _ _ h h0
    · split at h
      · split at h
        · unfold aPar at h
          split at h
          · cases h
          · rename_i i1 A1 r he
            split at h
            · cases h
              exact hT _ _ _ _ _ he h0
            · cases h
        · cases h
      · split at h
        · split at h
          · unfold aRw at h
            split at h
            · cases h
            · rename_i A1 n hm
              exact zF_lst hT h (mk_z hV hm h0 (fun z => by omega))
          · cases h
        · split at h
          · split at h
            · exact zF_each hV hT _ _ _ _ _ h h0
            · cases h
          · cases h
theorem zF_un (hV : zT G t) {w : Bool} {E U : aF} (hT : zF G E) (hU : zF G U) : zF G (aUn t w E U) := by
  intro i A i' A' q h h0
  unfold aUn at h
  split at h
  · split at h
    · split at h
      · cases h
      · rename_i A1 n hm
        have a1 := mk_z hV hm h0 (fun z => by omega)
        split at h
        · cases h
        · rename_i i2 A2 r he
          cases h
          exact zA_kid (hU _ _ _ _ _ he a1)
    · cases h
  · unfold aItm at h
    split at h
    · cases h
    · rename_i i1 A1 l he
      unfold aBeh at h
      exact zF_behL hV hT _ _ _ _ _ _ _ h (zF_atm hV hT _ _ _ _ _ he h0)
theorem zF_ex (hV : zT G t) {w : Bool} {E U : aF} (hT : zF G E) (hU : zF G U) : zF G (aEx t w E U) := by
  intro i A i' A' q h h0
  unfold aEx at h
  split at h
  · rename_i hw
    split at h
    · exact zF_let hV hT h h0
    · cases h
  · split at h
    · split at h
      · exact zF_if hV hT _ _ _ _ _ h h0
      · cases h
    · exact zF_cmp hV (zF_row hV qF_S (zF_row hV qF_P (zF_un hV hT hU))) _ _ _ _ _ h h0
theorem zF_lv (hV : zT G t) : ∀ f, zF G (aLv t f).1 ∧ zF G (aLv t f).2
  | 0 => ⟨zF_ex hV zF_n zF_n, zF_un hV zF_n zF_n⟩
  | f + 1 => ⟨zF_ex hV (zF_lv hV f).1 (zF_lv hV f).2, zF_un hV (zF_lv hV f).1 (zF_lv hV f).2⟩
theorem z_df1 (hV : zT G t) {N i i' : Nat} {A A' : aT} {x : aDf} (h : aDf1 t N i A = some (i', A', x)) (h0 : zA G A) : zA G A' := by
  unfold aDf1 at h
  split at h
  · split at h
    · split at h
      · cases h
      · split at h
        · split at h
          · split at h
            · cases h
            · rename_i i2 A2 q he
              have a2 := (zF_lv hV 12).1 _ _ _ _ _ he h0
              split at h
              · cases h
                exact a2
              · cases h
          · cases h
        · cases h
    · cases h
  · cases h
theorem z_dfs (hV : zT G t) {N : Nat} : ∀ (m : Nat) (D : List aDf) (i : Nat) (A : aT) (i' : Nat) (A' : aT) (D' : List aDf), aDfs t N m D i A = some (i', A', D') → zA G A → zA G A'
  | 0, D, i, A, i', A', D', h, h0 => by
    unfold aDfs at h
    split at h
    · cases h
    · cases h
      exact h0
  | m + 1, D, i, A, i', A', D', h, h0 => by
    unfold aDfs at h
    split at h
    · split at h
      · cases h
      · rename_i i1 A1 x he
        exact z_dfs hV m _ _ _ _ _ _ h (z_df1 hV he h0)
    · cases h
      exact h0
theorem z_pg (hV : zT G t) {N : Nat} {A A' : aT} {D : List aDf} {q : Int} (h : aPg t N A = some (A', D, q)) (h0 : zA G A) : zA G A' := by
  unfold aPg at h
  split at h
  · cases h
  · rename_i i1 A1 D1 hd
    have c1 := z_dfs hV _ _ _ _ _ _ _ hd h0
    split at h
    · cases h
    · rename_i i2 A2 r he
      have a2 := (zF_lv hV 12).1 _ _ _ _ _ he c1
      split at h
      · cases h
        exact a2
      · cases h
end ZRF
/-! NUMBERS: what a NUMBER's node tells is what stands at its place, in the class's rows. -/
/-- the number at a place of the tape -/
def gNm (c : tkC) (p : Int) : Int := lx_dec c.1 p (lx_end c.1 c.2.1 lx_d p - p).toNat
theorem lx_dn {B : Int → Int} {q : Int} : ∀ n : Nat, n ≤ 9 → (∀ t, q ≤ t → t < q + n → lx_d (B t) = true) → lx_nv B q n = lx_dec B q n
  | 0, _, _ => rfl
  | n + 1, hn, h => by
    have ih := lx_dn n (by omega) (fun t a b => h t a (by omega))
    have b := lx_dec_b (n + 1) h
    have p : (10 : Int) ^ (n + 1) ≤ 1000000000 := by
      rcases (show n = 0 ∨ n = 1 ∨ n = 2 ∨ n = 3 ∨ n = 4 ∨ n = 5 ∨ n = 6 ∨ n = 7 ∨ n = 8 by omega) with h | h | h | h | h | h | h | h | h <;> subst h <;> decide
    simp only [lx_nv]
    rw [ih, show lx_dec B q n * 10 + (B (q + n) - 48) = lx_dec B q (n + 1) by simp only [lx_dec]; omega]
    exact sg_id ⟨by omega, by omega⟩
/-- a NUMBER's token -/
theorem tK_n {c : tkC} {i : Nat} (h : tK c i = 257) : (tPl c i < c.2.1 ∧ lx_d (c.1 (tPl c i)) = true) ∧ lx_end c.1 c.2.1 lx_d (tPl c i) - tPl c i ≤ 9 := by
  unfold tK lx_kind at h
  by_cases a : c.2.1 ≤ tPl c i
  · rw [if_pos a] at h; omega
  · rw [if_neg a] at h
    by_cases b : lx_d (c.1 (tPl c i)) = true
    · rw [if_pos b] at h
      by_cases e : lx_end c.1 c.2.1 lx_d (tPl c i) - tPl c i > 9
      · rw [if_pos e] at h; omega
      · exact ⟨⟨by omega, b⟩, by omega⟩
    · rw [if_neg b] at h
      by_cases d : lx_l (c.1 (tPl c i)) = true
      · rw [if_pos d] at h
        split at h
        · omega
        · have := lx_fi_r c.2.2.1 (lx_pk c.1 (tPl c i) (lx_end c.1 c.2.1 lx_a (tPl c i) - tPl c i).toNat) 18 0 (by omega) (by omega)
          omega
      · rw [if_neg d] at h
        split at h
        · rename_i e
          unfold lx_s at e
          have := of_decide_eq_true e
          omega
        · omega
theorem tN_g {c : tkC} {i : Nat} (h : tK c i = 257) : tN c i = gNm c (tPl c i) := by
  obtain ⟨h1, h2⟩ := tK_n h
  have e : ∀ w, lx_num c.1 c.2.1 (tPl c i) w = gNm c (tPl c i) := fun w => by
    unfold lx_num gNm
    rw [if_pos h1]
    have sp := lx_end_spec c.1 c.2.1 lx_d (tPl c i)
    refine lx_dn _ (by omega) (fun t a b => ?_)
    exact (sp.2.1 t a (by omega)).2
  cases i with
  | zero => exact e _
  | succ i => exact e _
/-- the rows of a NUMBER's node -/
def zQ (c : tkC) (τ : sg_S) : Prop := 0 ≤ sg_g τ 2 16 ∧ ∀ k, 0 ≤ k → k < sg_g τ 2 16 → sg_g τ 3 k = 257 → sg_g τ 5 k = gNm c (sg_g τ 4 k)
def r5 (τ τ' : sg_S) : Prop := sg_g τ' 2 16 = sg_g τ 2 16 ∧ ∀ k, (sg_g τ' 3 k = sg_g τ 3 k ∨ ¬ sg_g τ' 3 k = 257) ∧ sg_g τ' 4 k = sg_g τ 4 k ∧ sg_g τ' 5 k = sg_g τ 5 k
theorem r5_r (τ : sg_S) : r5 τ τ := ⟨rfl, fun _ => ⟨Or.inl rfl, rfl, rfl⟩⟩
theorem r5_t {τ τ1 τ2 : sg_S} (h : r5 τ τ1) (g : r5 τ1 τ2) : r5 τ τ2 := ⟨g.1.trans h.1, fun k => by
  obtain ⟨a1, a2, a3⟩ := h.2 k
  obtain ⟨b1, b2, b3⟩ := g.2 k
  refine ⟨?_, b2.trans a2, b3.trans a3⟩
  rcases b1 with b | b
  · rcases a1 with a | a
    · exact Or.inl (b.trans a)
    · exact Or.inr (by rw [b]; exact a)
  · exact Or.inr b⟩
theorem zQ_e {c : tkC} {τ τ' : sg_S} (h : zQ c τ) (g : r5 τ τ') : zQ c τ' := by
  refine ⟨by rw [g.1]; exact h.1, fun k a b z => ?_⟩
  obtain ⟨a1, a2, a3⟩ := g.2 k
  rw [g.1] at b
  rw [a2, a3]
  rcases a1 with q | q
  · exact h.2 k a b (by rw [← q]; exact z)
  · exact absurd z q
theorem r5_p (τ : sg_S) (a : Nat) (n i x : Int) (h : 2 ≠ a ∧ 3 ≠ a ∧ 4 ≠ a ∧ 5 ≠ a) : r5 τ (sx_put τ a n i x) := ⟨sx_put_c _ _ _ _ _ _ _ h.1, fun k => ⟨Or.inl (sx_put_c _ _ _ _ _ _ _ h.2.1), sx_put_c _ _ _ _ _ _ _ h.2.2.1, sx_put_c _ _ _ _ _ _ _ h.2.2.2⟩⟩
theorem r5_pl (τ : sg_S) (a : Nat) (n i x : Int) : r5 τ (sx_putl τ a n i x) := by
  have e : ∀ b j, sg_g (sx_putl τ a n i x) b j = sg_g τ b j := fun b j => by
    unfold sx_putl
    split
    · exact sg_gwl' _ _ _ _ _ _
    · rfl
  exact ⟨e _ _, fun k => ⟨Or.inl (e _ _), e _ _, e _ _⟩⟩
theorem r5_w (τ : sg_S) (a : Nat) (i x : Int) (h : 2 ≠ a ∧ 3 ≠ a ∧ 4 ≠ a ∧ 5 ≠ a) : r5 τ (sg_w τ a i x) := ⟨sg_gw_c _ _ _ _ _ _ h.1, fun k => ⟨Or.inl (sg_gw_c _ _ _ _ _ _ h.2.1), sg_gw_c _ _ _ _ _ _ h.2.2.1, sg_gw_c _ _ _ _ _ _ h.2.2.2⟩⟩
theorem r5_3 (τ : sg_S) (i x : Int) (hx : sg_R x ∧ ¬ x = 257) : r5 τ (sx_put τ 3 200 i x) := by
  refine ⟨sx_put_c _ _ _ _ _ _ _ (by decide), fun k => ⟨?_, sx_put_c _ _ _ _ _ _ _ (by decide), sx_put_c _ _ _ _ _ _ _ (by decide)⟩⟩
  unfold sx_put
  split
  · by_cases e : k = i
    · right
      rw [e, sg_gw_e _ _ _ _ hx.1]
      exact hx.2
    · left
      exact sg_gw_k _ _ _ _ _ _ e
  · exact Or.inl rfl
theorem r5_att (τ : sg_S) (k p : Int) : r5 τ (pAttach τ k p) := by
  unfold pAttach
  split
  · exact r5_r τ
  · unfold pAtt2 pAtt1
    split
    · exact r5_t (r5_p _ _ _ _ _ (by decide)) (r5_t (r5_p _ _ _ _ _ (by decide)) (r5_p _ _ _ _ _ (by decide)))
    · exact r5_t (r5_p _ _ _ _ _ (by decide)) (r5_t (r5_p _ _ _ _ _ (by decide)) (r5_p _ _ _ _ _ (by decide)))
theorem r5_cls (τ : sg_S) (k f : Int) : r5 τ (pClose τ k f) := by
  unfold pClose
  exact r5_t (r5_p _ _ _ _ _ (by decide)) (r5_p _ _ _ _ _ (by decide))
theorem r5_both (τ : sg_S) (k l r : Int) : r5 τ (pBoth τ k l r) := by
  unfold pBoth
  exact r5_t (r5_att _ _ _) (r5_t (r5_att _ _ _) (r5_cls _ _ _))
def zP (c : tkC) (P : pF) : Prop := ∀ i τ i' τ' q, P i τ = some (i', τ', q) → zQ c τ → zQ c τ'
section ZPF
variable {c : tkC}
theorem zP_cr (hc : tkOK c) : zP c (pCreate c) := by
  intro i τ i' τ' q h h0
  unfold pCreate at h
  split at h
  · cases h
  · rename_i hs
    cases h
    obtain ⟨h1, h2⟩ := h0
    have hk : 0 ≤ sg_g τ 2 16 ∧ sg_g τ 2 16 < 200 := ⟨h1, by omega⟩
    have hK := tK_r hc i
    have hP := tPl_r hc i
    have hc2 := hc.2.1
    have hkr : sg_R (tK c i) := ⟨by omega, by omega⟩
    have hpr : sg_R (tPl c i) := ⟨by omega, by omega⟩
    obtain ⟨s, es⟩ : ∃ s, s = sg_g τ 2 16 := ⟨_, rfl⟩
    rw [← es] at hk h1 h2 ⊢
    unfold pAdd
    rw [← es]
    simp only [xp_in hk]
    refine zQ_e (τ := sg_w (sg_w (sg_w (sg_w τ 2 16 (s + 1)) 3 s (tK c i)) 4 s (tPl c i)) 5 s (tN c i)) ⟨?_, fun k a b z => ?_⟩ ?_
    · rw [sg_gw_c _ _ _ _ _ _ (by decide), sg_gw_c _ _ _ _ _ _ (by decide), sg_gw_c _ _ _ _ _ _ (by decide), sg_gw_e _ _ _ _ ⟨by omega, by omega⟩]; omega
    · rw [sg_gw_c _ _ _ _ _ _ (by decide), sg_gw_c _ _ _ _ _ _ (by decide), sg_gw_c _ _ _ _ _ _ (by decide), sg_gw_e _ _ _ _ ⟨by omega, by omega⟩] at b
      by_cases e : k = s
      · rw [e, sg_gw_c _ _ _ _ _ _ (by decide), sg_gw_c _ _ _ _ _ _ (by decide), sg_gw_e _ _ _ _ hkr] at z
        have g := tN_g z
        have bn : sg_R (tN c i) := by
          rw [g]
          obtain ⟨t1, t2⟩ := tK_n z
          have sp := lx_end_spec c.1 c.2.1 lx_d (tPl c i)
          have bb := lx_dec_b (B := c.1) (q := tPl c i) (lx_end c.1 c.2.1 lx_d (tPl c i) - tPl c i).toNat (fun t a b => (sp.2.1 t a (by omega)).2)
          have p9 : (10 : Int) ^ (lx_end c.1 c.2.1 lx_d (tPl c i) - tPl c i).toNat ≤ 1000000000 := by
            have : (lx_end c.1 c.2.1 lx_d (tPl c i) - tPl c i).toNat ≤ 9 := by omega
            generalize (lx_end c.1 c.2.1 lx_d (tPl c i) - tPl c i).toNat = n at this
            rcases (show n = 0 ∨ n = 1 ∨ n = 2 ∨ n = 3 ∨ n = 4 ∨ n = 5 ∨ n = 6 ∨ n = 7 ∨ n = 8 ∨ n = 9 by omega) with h | h | h | h | h | h | h | h | h | h <;> subst h <;> decide
          unfold gNm
          exact ⟨by omega, by omega⟩
        rw [e, sg_gw_e _ _ _ _ bn, sg_gw_c _ _ _ _ _ _ (by decide), sg_gw_e _ _ _ _ hpr]
        exact g
      · rw [sg_gw_c _ _ _ _ _ _ (by decide), sg_gw_c _ _ _ _ _ _ (by decide), sg_gw_k _ _ _ _ _ _ e, sg_gw_c _ _ _ _ _ _ (by decide)] at z
        rw [sg_gw_k _ _ _ _ _ _ e, sg_gw_c _ _ _ _ _ _ (by decide), sg_gw_c _ _ _ _ _ _ (by decide), sg_gw_c _ _ _ _ _ _ (by decide), sg_gw_c _ _ _ _ _ _ (by decide), sg_gw_k _ _ _ _ _ _ e, sg_gw_c _ _ _ _ _ _ (by decide), sg_gw_c _ _ _ _ _ _ (by decide)]
        exact h2 k a (by omega) z
    · refine r5_t ?_ (r5_pl _ _ _ _ _)
      refine ⟨?_, fun k => ⟨Or.inl ?_, ?_, ?_⟩⟩ <;> simp [sg_gw]
theorem zP_n : zP c (fun _ _ => none) := fun _ _ _ _ _ h _ => by cases h
theorem zP_let (hc : tkOK c) {E : pF} (hE : zP c E) : zP c (pLet c E) := by
  intro i τ i' τ' q h h0
  unfold pLet at h
  split at h
  · cases h
  · rename_i i1 τ1 k hm
    have a1 := zP_cr hc _ _ _ _ _ hm h0
    split at h
    · split at h
      · split at h
        · cases h
        · rename_i i2 τ2 a he
          have a2 := hE _ _ _ _ _ he (zQ_e a1 (r5_pl _ _ _ _ _))
          split at h
          · split at h
            · cases h
            · rename_i i3 τ3 b hf
              cases h
              exact zQ_e (hE _ _ _ _ _ hf (zQ_e a2 (r5_att _ _ _))) (r5_t (r5_att _ _ _) (r5_cls _ _ _))
          · cases h
      · cases h
    · cases h
theorem zP_if (hc : tkOK c) {E : pF} (hE : zP c E) : zP c (pIf c E) := by
  intro i τ i' τ' q h h0
  unfold pIf at h
  split at h
  · cases h
  · rename_i i1 τ1 k hm
    have a1 := zP_cr hc _ _ _ _ _ hm h0
    split at h
    · cases h
    · rename_i i2 τ2 a he
      have a2 := hE _ _ _ _ _ he a1
      split at h
      · split at h
        · cases h
        · rename_i i3 τ3 b hf
          have a3 := hE _ _ _ _ _ hf (zQ_e a2 (r5_att _ _ _))
          split at h
          · split at h
            · cases h
            · rename_i i4 τ4 e hg
              cases h
              exact zQ_e (hE _ _ _ _ _ hg (zQ_e a3 (r5_att _ _ _))) (r5_t (r5_att _ _ _) (r5_cls _ _ _))
          · cases h
      · cases h
theorem zP_cmp (hc : tkOK c) {S : pF} (hS : zP c S) : zP c (pCmp c S) := by
  intro i τ i' τ' q h h0
  unfold pCmp at h
  split at h
  · cases h
  · rename_i i1 τ1 l he
    have a1 := hS _ _ _ _ _ he h0
    split at h
    · split at h
      · cases h
      · rename_i i2 τ2 k hm
        have a2 := zP_cr hc _ _ _ _ _ hm a1
        split at h
        · cases h
        · rename_i i3 τ3 r hf
          cases h
          exact zQ_e (hS _ _ _ _ _ hf a2) (r5_both _ _ _ _)
    · cases h
      exact a1
theorem zP_rowL (hc : tkOK c) {q0 : Int → Bool} {P : pF} (hP : zP c P) : ∀ (m : Nat) (l : Int) (i : Nat) (τ : sg_S) (i' : Nat) (τ' : sg_S) (q : Int), pRowL c q0 P m l i τ = some (i', τ', q) → zQ c τ → zQ c τ'
  | 0, l, i, τ, i', τ', q, h, h0 => by
    unfold pRowL at h
    cases h
    exact h0
  | m + 1, l, i, τ, i', τ', q, h, h0 => by
    unfold pRowL at h
    split at h
    · split at h
      · cases h
      · rename_i i1 τ1 k hm
        have a1 := zP_cr hc _ _ _ _ _ hm h0
        split at h
        · cases h
        · rename_i i2 τ2 r hf
          exact zP_rowL hc hP m _ _ _ _ _ _ h (zQ_e (hP _ _ _ _ _ hf a1) (r5_both _ _ _ _))
    · cases h
      exact h0
theorem zP_row (hc : tkOK c) {q0 : Int → Bool} {P : pF} (hP : zP c P) : zP c (pRow c q0 P) := by
  intro i τ i' τ' q h h0
  unfold pRow at h
  split at h
  · cases h
  · rename_i i1 τ1 l he
    exact zP_rowL hc hP _ _ _ _ _ _ _ h (hP _ _ _ _ _ he h0)
theorem zP_un (hc : tkOK c) {w : Bool} {U I : pF} (hU : zP c U) (hI : zP c I) : zP c (pUn c w U I) := by
  intro i τ i' τ' q h h0
  unfold pUn at h
  split at h
  · split at h
    · split at h
      · cases h
      · rename_i i1 τ1 k hm
        have a1 := zP_cr hc _ _ _ _ _ hm h0
        split at h
        · cases h
        · rename_i i2 τ2 r hf
          cases h
          exact zQ_e (hU _ _ _ _ _ hf a1) (r5_t (r5_att _ _ _) (r5_cls _ _ _))
    · cases h
  · exact hI _ _ _ _ _ h h0
theorem zP_itL (hc : tkOK c) {w : Bool} {E : pF} (hE : zP c E) : ∀ (m : Nat) (l : Int) (i : Nat) (τ : sg_S) (i' : Nat) (τ' : sg_S) (q : Int), pItL c w E m l i τ = some (i', τ', q) → zQ c τ → zQ c τ'
  | 0, l, i, τ, i', τ', q, h, h0 => by
    unfold pItL at h
    cases h
    exact h0
  | m + 1, l, i, τ, i', τ', q, h, h0 => by
    unfold pItL at h
    split at h
    · split at h
      · split at h
        · cases h
        · rename_i i1 τ1 k hm
          have a1 := zP_cr hc _ _ _ _ _ hm h0
          split at h
          · cases h
          · rename_i i2 τ2 r hf
            split at h
            · exact zP_itL hc hE m _ _ _ _ _ _ h (zQ_e (hE _ _ _ _ _ hf a1) (r5_both _ _ _ _))
            · cases h
      · cases h
    · cases h
      exact h0
theorem zP_item (hc : tkOK c) {w : Bool} {E A : pF} (hE : zP c E) (hA : zP c A) : zP c (pItem c w E A) := by
  intro i τ i' τ' q h h0
  unfold pItem at h
  split at h
  · cases h
  · rename_i i1 τ1 l he
    exact zP_itL hc hE _ _ _ _ _ _ _ h (hA _ _ _ _ _ he h0)
theorem zP_lstL {E : pF} (hE : zP c E) {k : Int} : ∀ (m : Nat) (i : Nat) (τ : sg_S) (i' : Nat) (τ' : sg_S), pListL c E k m i τ = some (i', τ') → zQ c τ → zQ c τ'
  | 0, i, τ, i', τ', h, h0 => by
    unfold pListL at h
    cases h
    exact h0
  | m + 1, i, τ, i', τ', h, h0 => by
    unfold pListL at h
    split at h
    · cases h
    · rename_i i1 τ1 r he
      have a1 := zQ_e (hE _ _ _ _ _ he h0) (r5_att τ1 k r)
      split at h
      · exact zP_lstL hE m _ _ _ _ h a1
      · cases h
        exact a1
theorem zP_genL {E : pF} (hE : zP c E) {k : Int} : ∀ (m : Nat) (i : Nat) (τ : sg_S) (i' : Nat) (τ' : sg_S), pGenL c E k m i τ = some (i', τ') → zQ c τ → zQ c τ'
  | 0, i, τ, i', τ', h, h0 => by
    unfold pGenL at h
    cases h
    exact h0
  | m + 1, i, τ, i', τ', h, h0 => by
    unfold pGenL at h
    split at h
    · split at h
      · split at h
        · cases h
        · rename_i i1 τ1 r he
          have a1 : zQ c (sx_put (pAttach (sx_put (sx_putl τ1 18 200 r (tW c i)) 15 200 r (tPl c i)) k r) 13 200 k (5 - m)) := zQ_e (hE _ _ _ _ _ he h0) (r5_t (r5_pl _ _ _ _ _) (r5_t (r5_p _ _ _ _ _ (by decide)) (r5_t (r5_att _ _ _) (r5_p _ _ _ _ _ (by decide)))))
          split at h
          · exact zP_genL hE m _ _ _ _ h a1
          · cases h
            exact a1
      · cases h
    · cases h
theorem zP_wordE {E : pF} (hE : zP c E) {k : Int} : zP c (pWordE c E k) := by
  intro i τ i' τ' q h h0
  unfold pWordE at h
  split at h
  · cases h
  · rename_i i1 τ1 he
    have a1 : zQ c τ1 := by
      split at he
      · cases he
        exact h0
      · exact zP_lstL hE _ _ _ _ _ he h0
    split at h
    · cases h
      exact zQ_e a1 (r5_cls _ _ _)
    · cases h
theorem zP_word (hc : tkOK c) {w : Bool} {E : pF} (hE : zP c E) : zP c (pWord c w E) := by
  intro i τ i' τ' q h h0
  unfold pWord at h
  split at h
  · cases h
  · rename_i i1 τ1 k hm
    have a1 := zP_cr hc _ _ _ _ _ hm h0
    split at h
    · cases h
      exact a1
    · split at h
      · split at h
        · refine zP_wordE hE _ _ _ _ _ h ?_
          split
          · exact zQ_e a1 (r5_3 _ _ _ (by decide))
          · exact a1
        · cases h
      · cases h
theorem zP_rw (hc : tkOK c) {E : pF} (hE : zP c E) : zP c (pRw c E) := by
  intro i τ i' τ' q h h0
  unfold pRw at h
  split at h
  · cases h
  · rename_i i1 τ1 k hm
    have a1 := zP_cr hc _ _ _ _ _ hm h0
    split at h
    · cases h
    · rename_i i2 τ2 he
      have a2 := zP_lstL hE _ _ _ _ _ he (zQ_e a1 (r5_3 _ _ _ (by decide)))
      split at h
      · cases h
        exact zQ_e a2 (r5_cls _ _ _)
      · cases h
theorem zP_eachE {k b : Int} : zP c (pEachE c k b) := by
  intro i τ i' τ' q h h0
  unfold pEachE at h
  split at h
  · cases h
    exact zQ_e h0 (r5_t (r5_att _ _ _) (r5_cls _ _ _))
  · cases h
theorem zP_each (hc : tkOK c) {E : pF} (hE : zP c E) : zP c (pEach c E) := by
  intro i τ i' τ' q h h0
  unfold pEach at h
  split at h
  · cases h
  · rename_i i1 τ1 k hm
    have a1 := zP_cr hc _ _ _ _ _ hm h0
    split at h
    · cases h
    · rename_i i2 τ2 b he
      have a2 := hE _ _ _ _ _ he a1
      split at h
      · split at h
        · cases h
        · rename_i i3 τ3 hg
          have a3 := zP_genL hE _ _ _ _ _ hg a2
          split at h
          · split at h
            · cases h
            · rename_i i4 τ4 g hf
              exact zP_eachE _ _ _ _ _ h (zQ_e (hE _ _ _ _ _ hf a3) (r5_t (r5_att _ _ _) (r5_p _ _ _ _ _ (by decide))))
          · exact zP_eachE _ _ _ _ _ h a3
      · cases h
theorem zP_par {E : pF} (hE : zP c E) : zP c (pPar c E) := by
  intro i τ i' τ' q h h0
  unfold pPar at h
  split at h
  · cases h
  · rename_i i1 τ1 r he
    split at h
    · cases h
      exact hE _ _ _ _ _ he h0
    · cases h
theorem zP_atom (hc : tkOK c) {w : Bool} {E : pF} (hE : zP c E) : zP c (pAtom c w E) := by
  intro i τ i' τ' q h h0
  unfold pAtom at h
  split at h
  · exact zP_cr hc _ _ _ _ _ h h0
  · split at h
    · exact zP_word hc hE _ _ _ _ _ h h0
    · split at h
      · split at h
        · exact zP_par hE _ _ _ _ _ h h0
        · split at h
          · exact zP_rw hc hE _ _ _ _ _ h h0
          · split at h
            · exact zP_each hc hE _ _ _ _ _ h h0
            · cases h
      · cases h
theorem zP_expr (hc : tkOK c) {w : Bool} {E C : pF} (hE : zP c E) (hC : zP c C) : zP c (pExpr c w E C) := by
  intro i τ i' τ' q h h0
  unfold pExpr at h
  split at h
  · split at h
    · exact zP_let hc hE _ _ _ _ _ h h0
    · cases h
  · split at h
    · split at h
      · exact zP_if hc hE _ _ _ _ _ h h0
      · cases h
    · exact hC _ _ _ _ _ h h0
theorem zP_unL (hc : tkOK c) {w : Bool} {E U : pF} (hE : zP c E) (hU : zP c U) : zP c (pUnL c w E U) := zP_un hc hU (zP_item hc hE (zP_atom hc hE))
theorem zP_cmL (hc : tkOK c) {w : Bool} {E U : pF} (hE : zP c E) (hU : zP c U) : zP c (pCmL c w E U) := zP_cmp hc (zP_row hc (zP_row hc (zP_unL hc hE hU)))
theorem zP_lv (hc : tkOK c) : ∀ f, zP c (pLv c f).1 ∧ zP c (pLv c f).2
  | 0 => ⟨zP_expr hc zP_n (zP_cmL hc zP_n zP_n), zP_unL hc zP_n zP_n⟩
  | f + 1 => ⟨zP_expr hc (zP_lv hc f).1 (zP_cmL hc (zP_lv hc f).1 (zP_lv hc f).2), zP_unL hc (zP_lv hc f).1 (zP_lv hc f).2⟩
theorem z_parL {d : Int} : ∀ (m : Nat) (i : Nat) (τ : sg_S) (i' : Nat) (τ' : sg_S), pParL c d m i τ = some (i', τ') → r5 τ τ'
  | 0, i, τ, i', τ', h => by
    unfold pParL at h
    cases h
    exact r5_r τ
  | m + 1, i, τ, i', τ', h => by
    unfold pParL at h
    split at h
    · split at h
      · split at h
        · cases h
        · rename_i i1 dp he
          have a1 : r5 τ (sx_put (pDPar τ d (tW c i) (tPl c i)) 27 72 (d * 6 + (6 - m)) dp) := by
            unfold pDPar
            exact r5_t (r5_pl _ _ _ _ _) (r5_t (r5_p _ _ _ _ _ (by decide)) (r5_t (r5_p _ _ _ _ _ (by decide)) (r5_p _ _ _ _ _ (by decide))))
          split at h
          · exact r5_t a1 (z_parL m _ _ _ _ h)
          · cases h
            exact a1
      · cases h
    · cases h
theorem z_pdefs {E : pF} (hE : zP c E) : ∀ (m : Nat) (i : Nat) (τ : sg_S) (i' : Nat) (τ' : sg_S), pDefs c E m i τ = some (i', τ') → zQ c τ → zQ c τ'
  | 0, i, τ, i', τ', h, h0 => by
    unfold pDefs at h
    cases h
    exact h0
  | m + 1, i, τ, i', τ', h, h0 => by
    unfold pDefs at h
    split at h
    · split at h
      · cases h
      · rename_i i1 τ1 h1
        have a1 : zQ c τ1 := by
          unfold pTitle at h1
          split at h1
          · cases h1
          · split at h1
            · split at h1
              · cases h1
                unfold pDAdd
                exact zQ_e h0 (r5_t (r5_pl _ _ _ _ _) (r5_t (r5_p _ _ _ _ _ (by decide)) (r5_t (r5_p _ _ _ _ _ (by decide)) (r5_w _ _ _ _ (by decide)))))
              · cases h1
            · cases h1
        split at h
        · cases h
        · rename_i i2 τ2 h2
          have a2 : zQ c τ2 := by
            unfold pPars pParE at h2
            split at h2
            · cases h2
            · rename_i i3 τ3 h3
              have a3 : zQ c τ3 := by
                split at h3
                · cases h3
                  exact a1
                · exact zQ_e a1 (z_parL _ _ _ _ _ h3)
              split at h2
              · cases h2
                exact a3
              · cases h2
          split at h
          · cases h
          · rename_i i3 τ3 h3
            have a3 : zQ c τ3 := by
              unfold pMean at h3
              split at h3
              · split at h3
                · cases h3
                · rename_i i4 τ4 r he
                  split at h3
                  · cases h3
                    exact zQ_e (hE _ _ _ _ _ he a2) (r5_p _ _ _ _ _ (by decide))
                  · cases h3
              · cases h3
            exact z_pdefs hE m _ _ _ _ h a3
    · cases h
      exact h0
theorem z_parse (hc : tkOK c) {τ τ' : sg_S} {q : Int} (h : pParse c (pLv c 12).1 τ = some (τ', q)) : zQ c τ' := by
  have hE := (zP_lv hc 12).1
  unfold pParse pRest at h
  split at h
  · cases h
  · rename_i i1 τ1 hd
    have e0 : sg_g (sg_w (sg_w τ 2 16 0) 19 8 0) 2 16 = 0 := by rw [sg_gw_c _ _ _ _ _ _ (by decide), sg_gw_e _ _ _ _ (by decide)]
    have a1 := z_pdefs hE _ _ _ _ _ hd ⟨by rw [e0]; decide, fun k a b => by rw [e0] at b; omega⟩
    split at h
    · cases h
    · rename_i i2 τ2 r he
      split at h
      · cases h
        exact hE _ _ _ _ _ he a1
      · cases h
end ZPF
/-- tokens tell their number -/
theorem zT_B {c : tkC} {t : aK} {N : Nat} (hB : tkB c t N) : zT (gNm c) t := fun i h1 => by
  have hN : i < N := by
    rcases Nat.lt_or_ge i N with q | q
    · exact q
    · by_cases e : i = N
      · rw [e] at h1
        rcases hB.2.2.2.2.1 with z | z <;> omega
      · have := hB.2.2.2.2.2 i (by omega)
        omega
  have k := (b_s hB (Nat.le_of_lt hN)).2.1.mp h1
  obtain ⟨t1, t2⟩ := tK_n k
  rw [hB.2.2.1.2 i hN, (hB.2.2.1.1 i (Nat.le_of_lt hN)).2]
  unfold rW gNm
  rw [if_neg (by omega), if_pos t1.2]
theorem nm_ok {c : tkC} {t : aK} {N : Nat} {τ τ' : sg_S} {A : aT} {D : List aDf} {q k : Int} {R : List Int} (hB : tkB c t N) (h1 : pParse c (pLv c 12).1 τ = some (τ', q)) (h2 : aPg t N aE0 = some (A, D, k)) (h3 : cS τ' A 0 R) : nmR τ' A := fun k a b z => by
  obtain ⟨z1, z2⟩ := z_parse hB.1 h1
  have zA' := z_pg (zT_B hB) h2 ⟨by decide, fun n a b => by simp only [aE0] at b; omega⟩
  obtain ⟨c1, c2, c3, c4⟩ := h3
  have n3 := (c3 k a b).1.1
  have n4 := (c3 k a b).1.2.1
  rw [z] at n3
  have e := z2 k a (by rw [c1]; exact b) n3
  rw [e, n4, zA'.2 k a b z, ← n4, ← e]
  exact (sg_id (sg_Rg _ _ _)).symm
/-! The tree depends on the tokens alone: two ways of telling them give the same PROGRAM. -/
def tq (t t' : aK) : Prop := (∀ i, t.1 i = t'.1 i) ∧ ∀ i, 1 ≤ t.1 i → t.1 i ≤ 3 → t.2.1 i = t'.2.1 i ∧ t.2.2 i = t'.2.2 i
section TQ
variable {t t' : aK}
theorem tq_sg (h : tq t t') (i : Nat) (ch : Int) : aSg t i ch = aSg t' i ch := by
  unfold aSg
  by_cases c : t.1 i = 3
  · rw [← h.1 i, (h.2 i (by omega) (by omega)).1]
  · rw [decide_eq_false (fun z => c z.1), decide_eq_false (fun z => c ((h.1 i).trans z.1))]
theorem tq_wo (h : tq t t') (i : Nat) (w : Int) : aWo t i w = aWo t' i w := by
  unfold aWo
  by_cases c : t.1 i = 2
  · rw [← h.1 i, (h.2 i (by omega) (by omega)).1]
  · rw [decide_eq_false (fun z => c z.1), decide_eq_false (fun z => c ((h.1 i).trans z.1))]
theorem tq_nm (h : tq t t') (i : Nat) : aNm t i = aNm t' i := by
  unfold aNm
  by_cases c : t.1 i = 2
  · rw [← h.1 i, (h.2 i (by omega) (by omega)).1]
  · rw [decide_eq_false (fun z => c z.1), decide_eq_false (fun z => c ((h.1 i).trans z.1))]
abbrev tin (t : aK) (i : Nat) : Prop := 1 ≤ t.1 i ∧ t.1 i ≤ 3
theorem in_sg (h : tq t t') {i : Nat} {ch : Int} (c : aSg t' i ch = true) : tin t i := by
  unfold aSg at c
  have := (of_decide_eq_true c).1
  have e := h.1 i
  exact ⟨by omega, by omega⟩
theorem in_nm (h : tq t t') {i : Nat} (c : aNm t' i = true) : tin t i := by
  unfold aNm at c
  have := (of_decide_eq_true c).1
  have e := h.1 i
  exact ⟨by omega, by omega⟩
theorem in_wo (h : tq t t') {i : Nat} {w : Int} (c : aWo t' i w = true) : tin t i := by
  unfold aWo at c
  have := (of_decide_eq_true c).1
  have e := h.1 i
  exact ⟨by omega, by omega⟩
theorem tq_mk (h : tq t t') {i : Nat} (g : tin t i) (A : aT) (kd : Int) : aMk t i A kd = aMk t' i A kd := by
  unfold aMk
  rw [(h.2 i g.1 g.2).1, (h.2 i g.1 g.2).2]
theorem tq_let (h : tq t t') {E : aF} {i : Nat} {A : aT} (g : tin t i) : aLet t E i A = aLet t' E i A := by
  unfold aLet
  rw [tq_mk h g]
  simp only [tq_sg h, tq_wo h, tq_nm h]
  by_cases c : aNm t' (i + 1) = true
  · rw [(h.2 (i + 1) (in_nm h c).1 (in_nm h c).2).1]
  · simp only [if_neg c]
theorem tq_if (h : tq t t') {E : aF} {i : Nat} {A : aT} (g : tin t i) : aIf t E i A = aIf t' E i A := by
  unfold aIf
  rw [tq_mk h g]
  simp only [tq_wo h]
theorem tq_qC (h : tq t t') : aqC t = aqC t' := funext fun i => by unfold aqC; simp only [tq_sg h]
theorem tq_qS (h : tq t t') : aqS t = aqS t' := funext fun i => by unfold aqS; simp only [tq_sg h]
theorem tq_qP (h : tq t t') : aqP t = aqP t' := funext fun i => by unfold aqP; simp only [tq_sg h]
theorem in_qC (h : tq t t') {i : Nat} {kd : Int} (c : aqC t' i = some kd) : tin t i := by
  unfold aqC at c
  split at c
  · exact in_sg h (by assumption)
  · split at c
    · exact in_sg h (by assumption)
    · cases c
theorem in_qS (h : tq t t') {i : Nat} {kd : Int} (c : aqS t' i = some kd) : tin t i := by
  unfold aqS at c
  split at c
  · exact in_sg h (by assumption)
  · split at c
    · exact in_sg h (by assumption)
    · cases c
theorem in_qP (h : tq t t') {i : Nat} {kd : Int} (c : aqP t' i = some kd) : tin t i := by
  unfold aqP at c
  split at c
  · exact in_sg h (by assumption)
  · split at c
    · exact in_sg h (by assumption)
    · split at c
      · exact in_sg h (by assumption)
      · cases c
theorem tq_btw (h : tq t t') {kd : Int} {S : aF} {l : Int} {i : Nat} {A : aT} (g : tin t i) : aBtw t kd S l i A = aBtw t' kd S l i A := by
  unfold aBtw
  rw [tq_mk h g]
theorem tq_cmp (h : tq t t') {S : aF} : aCmp t S = aCmp t' S := funext fun i => funext fun A => by
  unfold aCmp
  cases S i A with
  | none => rfl
  | some x =>
    obtain ⟨i1, A1, l⟩ := x
    show aCmpR t S l i1 A1 = aCmpR t' S l i1 A1
    unfold aCmpR
    rw [tq_qC h]
    cases hq : aqC t' i1 with
    | none => rfl
    | some kd => exact tq_btw h (in_qC h hq)
theorem tq_rowL (h : tq t t') {q : Nat → Option Int} {P : aF} (hq : ∀ i kd, q i = some kd → tin t i) : ∀ (m : Nat) (l : Int) (i : Nat) (A : aT), aRowL t q P m l i A = aRowL t' q P m l i A
  | 0, l, i, A => rfl
  | m + 1, l, i, A => by
    unfold aRowL
    cases c : q i with
    | none => rfl
    | some kd =>
      dsimp only
      rw [tq_btw h (hq i kd c)]
      cases aBtw t' kd P l i A with
      | none => rfl
      | some x => exact tq_rowL h hq m _ _ _
theorem tq_row (h : tq t t') {q : Nat → Option Int} {P : aF} (hq : ∀ i kd, q i = some kd → tin t i) : aRow t q P = aRow t' q P := funext fun i => funext fun A => by
  unfold aRow
  cases P i A with
  | none => rfl
  | some x => exact tq_rowL h hq _ _ _ _
theorem tq_idx (h : tq t t') {E : aF} {l : Int} {i : Nat} {A : aT} (g : tin t i) : aIdx t E l i A = aIdx t' E l i A := by
  unfold aIdx
  rw [tq_mk h g]
  simp only [tq_sg h]
theorem tq_behL (h : tq t t') {w : Bool} {E : aF} : ∀ (m : Nat) (l : Int) (i : Nat) (A : aT), aBehL t w E m l i A = aBehL t' w E m l i A
  | 0, l, i, A => rfl
  | m + 1, l, i, A => by
    unfold aBehL
    rw [tq_sg h]
    by_cases c : aSg t' i 91 = true
    · rw [if_pos c, if_pos c]
      by_cases d : w = true
      · rw [if_pos d, if_pos d, tq_idx h (in_sg h c)]
        cases aIdx t' E l i A with
        | none => rfl
        | some x => exact tq_behL h m _ _ _
      · rw [if_neg d, if_neg d]
    · rw [if_neg c, if_neg c]
theorem tq_lstL (h : tq t t') {E : aF} {n ch : Int} : ∀ (m : Nat) (i : Nat) (A : aT), aLstL t E n ch m i A = aLstL t' E n ch m i A
  | 0, i, A => rfl
  | m + 1, i, A => by
    unfold aLstL
    cases E i A with
    | none => rfl
    | some x =>
      obtain ⟨i1, A1, r⟩ := x
      dsimp only
      rw [tq_sg h i1 44, tq_sg h i1 ch]
      by_cases c : aSg t' i1 44 = true
      · rw [if_pos c, if_pos c]
        exact tq_lstL h m _ _
      · rw [if_neg c, if_neg c]
theorem tq_lst (h : tq t t') (E : aF) (n ch : Int) (i : Nat) (A : aT) : aLst t E n ch i A = aLst t' E n ch i A := by
  unfold aLst
  rw [tq_lstL h]
theorem tq_args (h : tq t t') (E : aF) (n : Int) (i : Nat) (A : aT) : aArgs t E n i A = aArgs t' E n i A := by
  unfold aArgs
  rw [tq_sg h, tq_lst h]
theorem tq_wrd (h : tq t t') {w : Bool} {E : aF} {i : Nat} {A : aT} (g : tin t i) : aWrd t w E i A = aWrd t' w E i A := by
  unfold aWrd
  simp only [(h.2 i g.1 g.2).1, tq_nm h, tq_sg h, tq_mk h g, tq_args h]
theorem tq_genL (h : tq t t') {E : aF} {n : Int} : ∀ (m : Nat) (i : Nat) (A : aT), aGenL t E n m i A = aGenL t' E n m i A
  | 0, i, A => rfl
  | m + 1, i, A => by
    unfold aGenL
    rw [tq_nm h, tq_wo h]
    by_cases c : aNm t' i = true
    · have g := in_nm h c
      rw [if_pos c, if_pos c, (h.2 i g.1 g.2).1, (h.2 i g.1 g.2).2]
      by_cases d : aWo t' (i + 1) 374 = true
      · rw [if_pos d, if_pos d]
        cases E (i + 2) (aGn A n (t'.2.1 i) (t'.2.2 i)) with
        | none => rfl
        | some x =>
          obtain ⟨i1, A1, r⟩ := x
          dsimp only
          rw [tq_sg h i1 44]
          by_cases e : aSg t' i1 44 = true ∧ ((aKid A1 n r).2.2.2.2.1 n).length = 1 + ((aKid A1 n r).2.2.2.2.2 n).length
          · rw [if_pos e, if_pos e]
            exact tq_genL h m _ _
          · rw [if_neg e, if_neg e]
      · rw [if_neg d, if_neg d]
    · rw [if_neg c, if_neg c]
theorem tq_end (h : tq t t') (n : Int) (i : Nat) (A : aT) : aEnd t n i A = aEnd t' n i A := by
  unfold aEnd
  rw [tq_sg h]
theorem tq_grd (h : tq t t') (E : aF) (n : Int) (i : Nat) (A : aT) : aGrd t E n i A = aGrd t' E n i A := by
  unfold aGrd
  simp only [tq_sg h, tq_end h]
theorem tq_gens (h : tq t t') (E : aF) (n : Int) (i : Nat) (A : aT) : aGens t E n i A = aGens t' E n i A := by
  unfold aGens
  rw [tq_genL h]
  simp only [tq_grd h]
theorem tq_each (h : tq t t') {E : aF} {i : Nat} {A : aT} (g : tin t i) : aEach t E i A = aEach t' E i A := by
  unfold aEach
  rw [tq_mk h g]
  simp only [tq_sg h, tq_gens h]
theorem tq_par (h : tq t t') {E : aF} {i : Nat} {A : aT} : aPar t E i A = aPar t' E i A := by
  unfold aPar
  simp only [tq_sg h]
theorem tq_rw (h : tq t t') {E : aF} {i : Nat} {A : aT} (g : tin t i) : aRw t E i A = aRw t' E i A := by
  unfold aRw
  rw [tq_mk h g]
  simp only [tq_lst h]
theorem tq_atm (h : tq t t') (w : Bool) (E : aF) (i : Nat) (A : aT) : aAtm t w E i A = aAtm t' w E i A := by
  unfold aAtm
  rw [tq_sg h, tq_sg h, tq_sg h, tq_par h]
  have e := h.1 i
  by_cases c1 : t.1 i = 1
  · rw [if_pos c1, if_pos (e.symm.trans c1), tq_mk h ⟨by omega, by omega⟩]
  · rw [if_neg c1, if_neg (fun z => c1 (e.trans z))]
    by_cases c2 : t.1 i = 2
    · rw [if_pos c2, if_pos (e.symm.trans c2), tq_wrd h ⟨by omega, by omega⟩]
    · rw [if_neg c2, if_neg (fun z => c2 (e.trans z))]
      by_cases c3 : aSg t' i 40 = true
      · rw [if_pos c3, if_pos c3]
      · rw [if_neg c3, if_neg c3]
        by_cases c4 : aSg t' i 91 = true
        · rw [if_pos c4, if_pos c4, tq_rw h (in_sg h c4)]
        · rw [if_neg c4, if_neg c4]
          by_cases c5 : aSg t' i 123 = true
          · rw [if_pos c5, if_pos c5, tq_each h (in_sg h c5)]
          · rw [if_neg c5, if_neg c5]
theorem tq_itm (h : tq t t') (w : Bool) (E : aF) (i : Nat) (A : aT) : aItm t w E i A = aItm t' w E i A := by
  unfold aItm aBeh
  rw [tq_atm h]
  simp only [tq_behL h]
theorem tq_un (h : tq t t') {w : Bool} {E U : aF} : aUn t w E U = aUn t' w E U := funext fun i => funext fun A => by
  unfold aUn
  rw [tq_sg h, tq_itm h]
  by_cases c : aSg t' i 35 = true
  · rw [if_pos c, if_pos c, tq_mk h (in_sg h c)]
  · rw [if_neg c, if_neg c]
theorem tq_cm (h : tq t t') {w : Bool} {E U : aF} : aCm t w E U = aCm t' w E U := by
  unfold aCm aSm aPr
  rw [tq_cmp h, tq_qS h, tq_qP h, tq_un h, tq_row h (q := aqP t') (fun i kd c => in_qP h c), tq_row h (q := aqS t') (fun i kd c => in_qS h c)]
theorem tq_ex (h : tq t t') {w : Bool} {E U : aF} : aEx t w E U = aEx t' w E U := funext fun i => funext fun A => by
  unfold aEx
  rw [tq_wo h, tq_wo h, tq_cm h]
  by_cases c : aWo t' i 19420 = true
  · rw [if_pos c, if_pos c, tq_let h (in_wo h c)]
  · rw [if_neg c, if_neg c]
    by_cases d : aWo t' i 366 = true
    · rw [if_pos d, if_pos d, tq_if h (in_wo h d)]
    · rw [if_neg d, if_neg d]
theorem tq_lv (h : tq t t') : ∀ f, aLv t f = aLv t' f
  | 0 => by unfold aLv; rw [tq_ex h, tq_un h]
  | f + 1 => by unfold aLv; rw [tq_lv h f, tq_ex h, tq_un h]
theorem tq_tyL (h : tq t t') : ∀ (m : Nat) (n : Int) (i : Nat), aTyL t m n i = aTyL t' m n i
  | 0, n, i => rfl
  | m + 1, n, i => by
    unfold aTyL
    rw [tq_sg h, tq_tyL h m]
theorem tq_tyR (h : tq t t') : ∀ (m : Nat) (i : Nat), aTyR t m i = aTyR t' m i
  | 0, i => rfl
  | m + 1, i => by
    unfold aTyR
    rw [tq_sg h, tq_tyR h m]
theorem tq_ty (h : tq t t') (N i : Nat) : aTy t N i = aTy t' N i := by
  unfold aTy
  rw [tq_tyL h, tq_wo h, tq_tyR h]
theorem tq_paL (h : tq t t') (N : Nat) : ∀ (m : Nat) (ps : List (Int × Int × Int)) (i : Nat), aPaL t N m ps i = aPaL t' N m ps i
  | 0, ps, i => rfl
  | m + 1, ps, i => by
    unfold aPaL
    rw [tq_nm h, tq_sg h (i + 1), tq_ty h]
    by_cases c : aNm t' i = true
    · have g := in_nm h c
      rw [if_pos c, if_pos c, (h.2 i g.1 g.2).1, (h.2 i g.1 g.2).2]
      by_cases d : aSg t' (i + 1) 58 = true
      · rw [if_pos d, if_pos d]
        cases aTy t' N (i + 2) with
        | none => rfl
        | some x =>
          obtain ⟨i1, ty⟩ := x
          dsimp only
          rw [tq_sg h i1 44]
          by_cases e : aSg t' i1 44 = true
          · rw [if_pos e, if_pos e]
            exact tq_paL h N m _ _
          · rw [if_neg e, if_neg e]
      · rw [if_neg d, if_neg d]
    · rw [if_neg c, if_neg c]
theorem tq_df1 (h : tq t t') (N i : Nat) (A : aT) : aDf1 t N i A = aDf1 t' N i A := by
  unfold aDf1 aPas
  simp only [tq_nm h, tq_sg h, tq_paL h, tq_lv h]
  by_cases c : aNm t' (i + 1) = true
  · have g := in_nm h c
    rw [(h.2 (i + 1) g.1 g.2).1, (h.2 (i + 1) g.1 g.2).2]
  · rw [if_neg c, if_neg c]
theorem tq_dfs (h : tq t t') (N : Nat) : ∀ (m : Nat) (D : List aDf) (i : Nat) (A : aT), aDfs t N m D i A = aDfs t' N m D i A
  | 0, D, i, A => by unfold aDfs; rw [tq_wo h]
  | m + 1, D, i, A => by
    unfold aDfs
    rw [tq_wo h, tq_df1 h]
    by_cases c : aWo t' i 6606 = true
    · rw [if_pos c, if_pos c]
      cases aDf1 t' N i A with
      | none => rfl
      | some x => exact tq_dfs h N m _ _ _
    · rw [if_neg c, if_neg c]
theorem tq_pg (h : tq t t') (N : Nat) (A : aT) : aPg t N A = aPg t' N A := by
  unfold aPg
  rw [tq_dfs h, tq_lv h]
  cases aDfs t' N 12 [] 0 A with
  | none => rfl
  | some x =>
    obtain ⟨i, A1, D⟩ := x
    dsimp only
    cases (aLv t' 12).1 i A1 with
    | none => rfl
    | some y =>
      obtain ⟨i2, A2, q⟩ := y
      dsimp only
      rw [h.1 i2]
theorem tq_of {c : tkC} {N N' : Nat} (hB : tkB c t N) (hB' : tkB c t' N') : N = N' ∧ tq t t' := by
  obtain ⟨-, -, ⟨a1, a2⟩, a3, a4, a5⟩ := hB
  obtain ⟨-, -, ⟨b1, b2⟩, b3, b4, b5⟩ := hB'
  have eN : N = N' := by
    rcases Nat.lt_trichotomy N N' with q | q | q
    · have x := b3 N q
      rw [(b1 N (Nat.le_of_lt q)).1, ← (a1 N (Nat.le_refl _)).1] at x
      omega
    · exact q
    · have x := a3 N' q
      rw [(a1 N' (Nat.le_of_lt q)).1, ← (b1 N' (Nat.le_refl _)).1] at x
      omega
  subst eN
  refine ⟨rfl, fun i => ?_, fun i i1 i2 => ?_⟩
  · rcases Nat.lt_or_ge N i with q | q
    · rw [a5 i q, b5 i q]
    · rw [(a1 i q).1, (b1 i q).1]
  · have hi : i < N := by
      rcases Nat.lt_trichotomy i N with q | q | q
      · exact q
      · rw [q] at i1 i2; omega
      · rw [a5 i q] at i1; omega
    exact ⟨by rw [a2 i hi, b2 i hi], by rw [(a1 i (Nat.le_of_lt hi)).2, (b1 i (Nat.le_of_lt hi)).2]⟩
theorem pg_same {c : tkC} {N N' : Nat} (hB : tkB c t N) (hB' : tkB c t' N') (A : aT) : aPg t N A = aPg t' N' A := by
  obtain ⟨e, h⟩ := tq_of hB hB'
  rw [← e]
  exact tq_pg h N A
end TQ
/-! read of the class, once more: NAMES, jumps and numbers. -/
theorem prs_ok3 (z : Value) (σ : sg_S) (b : Int) {c : tkC} {t : aK} {N : Nat} (hB : tkB c t N) (hb : tb σ = c.1) (hg : sg_gl σ 37 = c.2.2.1) (hn : b = c.2.1) (h7 : (sg_gl σ 36 7, sg_g σ 36 6) = c.2.2.2) : wx z 894 183 0 [(0, .inr (.inr (.ref 35))), (1, .inl b)] [] σ (fun v σ' => ∃ q, v = some (.inl q) ∧ sg_F pL2 σ σ' ∧ ((∃ τ' A D k Rs, aPg t N aE0 = some (A, D, k) ∧ q = -1 ∧ te σ' τ' ∧ sg_g σ' 35 4 = k ∧ cS τ' A 0 (k :: Rs) ∧ cD2 τ' D ∧ nmR τ' A) ∨ (0 ≤ q ∧ sg_R q))) := by
  have hE := (px_lv c hB.1 12 (Nat.le_refl _)).1
  refine wk_post (px_prs z σ b c hB.1 884 (pLv c 12).1 hE σ (fun _ _ _ => ⟨rfl, rfl⟩) hb hg hn h7) ?_
  rintro v σ' ⟨q, rfl, hF, hq⟩
  refine ⟨q, rfl, hF, ?_⟩
  rcases pg_ok hB σ with ⟨x1, x2⟩ | ⟨τ', A, D, k, Rs, x1, x2, x3, x4, x5⟩
  · rcases hq with ⟨τ', k, y1, -⟩ | ⟨-, y2⟩
    · rw [x1] at y1; cases y1
    · exact Or.inr y2
  · rcases hq with ⟨τ2, k2, y1, y2, y3, y4, y5⟩ | ⟨y1, -⟩
    · rw [x1] at y1; cases y1
      exact Or.inl ⟨τ', A, D, k, Rs, x2, y3, y4, y5, x3, x4, nm_ok hB x1 x2 x3⟩
    · rw [x1] at y1; cases y1
theorem c_readV {σ : sg_S} {c : tkC} {t : aK} {N : Nat} {Q : Int → sg_S → Prop} (hB : tkB c t N) (hV : wT t) (hb : tb σ = c.1) (hg : sg_gl σ 37 = c.2.2.1) (hn : sg_g σ 0 8 = c.2.1) (h7 : (sg_gl σ 36 7, sg_g σ 36 6) = c.2.2.2) (k1 : ∀ q σ', sg_g σ' 0 10 = 0 → Q q σ') (k2 : ∀ q σ' A D k, aPg t N aE0 = some (A, D, k) → (ckA3 σ' A D k ∨ ¬ sg_g σ' 38 13 = 0) → nmR σ' A → sg_g σ' 0 10 = 1 → Q q σ') : V_cRead σ Q := by
  unfold V_cRead
  intro σ1 e1
  unfold V_cForget45
  intro σ5 e5 f5
  unfold V_cForget61
  intro σ11 e11 f11
  have F11 : sg_F [11000, 12045, 12061] σ σ11 := by rw [e11, e5, e1]; exact sg_F_w (sg_F_w (sg_F_w (sg_F_r _ _) rfl _) rfl _) rfl _
  have p11 : sg_g σ11 0 10 = 0 := by rw [e11, sg_gw_c _ _ _ _ _ _ (by decide), e5, sg_gw_c _ _ _ _ _ _ (by decide), e1, sg_gw_e _ _ _ _ (by decide)]
  unfold V_cParse
  intro z
  refine wk_post (prs_ok3 z σ11 (sg_g σ 0 8) hB (by rw [← hb]; exact tb_eq (fun q => sg_F_ga F11 rfl)) (by rw [← hg]; exact funext (fun q => sg_F_gal F11 rfl)) hn (by rw [← h7]; exact Prod.ext (sg_F_gal F11 rfl) (sg_F_ga F11 rfl))) ?_
  rintro v σ17 ⟨q, rfl, hF, hq⟩
  refine ⟨q, rfl, ?_, sg_F_m hF rfl, ?_⟩
  · rcases hq with ⟨-, -, -, -, -, -, h1, -⟩ | ⟨-, h1⟩
    · rw [h1]; decide
    · exact h1
  intro rq f17 v24 e24 r24 σ27 e27
  have s27 : ∀ σ33, sg_F [6, 16, 24, 29, 30, 31, 32, 33, 34, 39, 40, 41, 42, 43, 44, 7028, 10000, 10038, 11038, 12038, 13038, 14038] σ27 σ33 → sg_g σ33 0 10 = 0 := fun σ33 f33 => by
    rw [sg_F_g f33 (by rfl), e27, sg_gw_k _ _ _ _ _ _ (by decide), sg_F_g f17 (by rfl)]; exact p11
  rcases hq with ⟨τ', A, D, k, Rs, x1, x2, x3, x4, x5, x6, x7⟩ | ⟨x2, x3⟩
  · have hc := w_pg hV x1 wA_0
    have hp := t_pg x1 ⟨Int.le_refl _, by decide⟩
    have hp2 := t_pg2 x1 ⟨Int.le_refl _, by decide⟩ rfl
    have f27 : sg_F [10000] σ17 σ27 := by rw [e27]; exact sg_F_w (sg_F_r _ _) rfl _
    have W27 := ckW_F (te_W x3 x5 hc.1) f27 rfl
    have D27 := cD2_F (te_D x3 x6) f27 rfl
    have n27 : nmR σ27 A := fun j z0 z1 z => by
      have e5 : sg_g σ17 5 j = sg_g τ' 5 j := ag_g x3 rfl j
      rw [sg_F_ga f27 rfl, e5]
      exact x7 j z0 z1 z
    refine ⟨fun v σ33 => (ckA3 σ33 A D k ∨ ¬ sg_g σ33 38 13 = 0) ∧ sg_F [6, 16, 24, 29, 30, 31, 32, 33, 34, 39, 40, 41, 42, 43, 44, 7028, 10000, 10038, 11038, 12038, 13038, 14038] σ27 σ33, ⟨fun h => absurd h (by omega), fun _ => ?_⟩, ?_⟩
    · rw [x4]
      refine d3_check W27 D27 hp.1 hc.2 hp2 (fun p σ' y1 rp f' σ51 e51 => ?_) (fun p σ' y1 y2 y3 rp f' σ51 e51 => ?_)
      · have f51 : sg_F [10000] σ' σ51 := by rw [e51]; exact sg_F_w (sg_F_r _ _) rfl _
        exact ⟨Or.inr (by rw [sg_F_g f51 (by rfl)]; exact y1), sg_F_t (sg_F_m f' rfl) (sg_F_m f51 rfl)⟩
      · have f51 : sg_F [10000] σ' σ51 := by rw [e51]; exact sg_F_w (sg_F_r _ _) rfl _
        exact ⟨Or.inl (ckA3_F y2 f51 rfl), sg_F_t (sg_F_m f' rfl) (sg_F_m f51 rfl)⟩
    · intro v35 σ33 r35 f33 h33
      have u1 := s27 σ33 f33
      refine ⟨fun h => ?_, fun h => k1 _ σ33 u1⟩
      intro σ39 e39 σ42 e42
      have f42 : sg_F [9000, 11000] σ33 σ42 := by rw [e42, e39]; exact sg_F_w (sg_F_w (sg_F_r _ _) rfl _) rfl _
      have F42 : sg_F [6, 16, 24, 29, 30, 31, 32, 33, 34, 39, 40, 41, 42, 43, 44, 7028, 9000, 10000, 10038, 11000, 11038, 12038, 13038, 14038] σ27 σ42 := sg_F_t (sg_F_m f33 rfl) (sg_F_m f42 rfl)
      refine k2 _ σ42 A D k x1 ?_ (fun j z0 z1 z => by rw [sg_F_ga F42 rfl]; exact n27 j z0 z1 z) ?_
      · rcases h33.1 with y | y
        · exact Or.inl (ckA3_F y f42 rfl)
        · exact Or.inr (by rw [sg_F_g f42 (by rfl)]; exact y)
      · rw [e42, sg_gw_k _ _ _ _ _ _ (by decide), e39, sg_gw_e _ _ _ _ (by decide)]
  · refine ⟨fun v σ33 => 0 ≤ v, ⟨fun _ => x2, fun h => absurd h (by omega)⟩, ?_⟩
    intro v35 σ33 r35 f33 h33
    exact ⟨fun h => absurd h (by omega), fun _ => k1 _ σ33 (s27 σ33 f33)⟩
/-- what is laid out depends on what the rows hold -/
theorem ckA3_H {σ1 σ2 : sg_S} {A : aT} {D : List aDf} {r : Int} (h : ckA3 σ1 A D r) (hfr : frA A (aRt D ++ [r])) (e : sg_H am_Sh0 σ1 = sg_H am_Sh0 σ2) : ckA3 σ2 A D r := by
  obtain ⟨LA, f1, f2, f3, -⟩ := hfr
  have row : ∀ r' ∈ aRt D ++ [r], ∃ L, fT A [r'] L ∧ ∀ y ∈ L, 0 ≤ y := fun r' hr => by
    obtain ⟨Lr, a1, a2⟩ := fT_kid f1 hr
    exact ⟨Lr, a1, fun y hy => (f3 y (a2 y hy)).1⟩
  have go : ∀ (ds : kD) (es : kE) (r' p : Int), r' ∈ aRt D ++ [r] → rsN σ1 A ds 201 es r' → jpN σ1 A 201 r' p → rsN σ2 A ds 201 es r' ∧ jpN σ2 A 201 r' p := fun ds es r' p hr h1 h2 => by
    obtain ⟨L, g1, g2⟩ := row r' hr
    exact ⟨rsN_st 201 _ _ L g1 (fun y hy => (sgH_row (a := 16) rfl e y (g2 y hy)).symm) h1, jpN_st 201 _ _ L g1 (fun y hy => ⟨(sgH_row (a := 32) rfl e y (g2 y hy)).symm, (sgH_row (a := 33) rfl e y (g2 y hy)).symm⟩) h2⟩
  refine ⟨fun j x hx => ?_, ?_⟩
  · obtain ⟨r1, r2⟩ := h.1 j x hx
    have e24 : sg_g σ2 24 j = sg_g σ1 24 j := (sgH_row (a := 24) rfl e j (Int.natCast_nonneg _)).symm
    have e31 : sg_g σ2 31 j = sg_g σ1 31 j := (sgH_row (a := 31) rfl e j (Int.natCast_nonneg _)).symm
    unfold dR3
    rw [e24, e31]
    exact go _ _ _ _ (List.mem_append_left _ (by unfold aRt; exact List.mem_map.mpr ⟨x, List.mem_of_getElem? hx, rfl⟩)) r1 r2
  · have e31 : sg_g σ2 31 12 = sg_g σ1 31 12 := (sgH_row (a := 31) rfl e 12 (by decide)).symm
    rw [e31]
    exact go _ _ _ _ (List.mem_append_right _ (by simp)) h.2.1 h.2.2
/-- a PROGRAM of the class stands, ready for both runs -/
def clR (σ : sg_S) (A : aT) (D : List aDf) (k : Int) : Prop := ckW σ A ∧ cD2 σ D ∧ frA A (aRt D ++ [k]) ∧ (∀ x ∈ D, ∀ p ∈ x.2.2.1, 0 ≤ p.2.2) ∧ (∃ T Tf, kPg A D k T = some Tf ∧ ∀ x, 0 ≤ x → sg_g σ 6 x = Tf x) ∧ ckA σ A D.length k ∧ jPg σ A D k ∧ ckA3 σ A D k ∧ nmR σ A ∧ sg_g σ 35 4 = k
theorem clR_fl {σ : sg_S} {A : aT} {D : List aDf} {k : Int} (h : clR σ A D k) : flR σ := by
  obtain ⟨b2, b3, b4, b5, ⟨T, Tf, t1, t2⟩, b6, b7, b8, b9, b10⟩ := h
  refine ⟨A, D, k, b2, b3, b4, ?_, b6, b7, b10⟩
  obtain ⟨L, f1, f2, f3, -⟩ := id b4
  have h := tyP (T2 := sg_g σ 6) (B2 := kBo A (kDl D []) 201 [] k (kDB A D [] 0 (fun _ => 0))) D [] 0 T Tf (fun _ => 0) L f1 f2 f3 (fun d hd => by simp at hd) (fun c hc => by simp at hc) b5 t1 (fun x hx => t2 x (f3 x hx).1) (fun _ _ => rfl) (fun c hc => by simp at hc)
  exact ⟨fun j x hx => ⟨_, _, _, (h.1 j x hx).1⟩, _, _, _, h.2⟩
def okP8 (L : List Nat) : Bool := okP2 L && (sg_ca L 5 && sg_ca L 32 && sg_ca L 33)
theorem clR_F {L : List Nat} {σ σ' : sg_S} {A : aT} {D : List aDf} {k : Int} (h : clR σ A D k) (f : sg_F L σ σ') (hL : okP8 L = true) : clR σ' A D k := by
  unfold okP8 okP2 at hL
  simp only [Bool.and_eq_true, Bool.not_eq_true'] at hL
  obtain ⟨⟨⟨⟨l1, l2⟩, l3⟩, ⟨l4, l5⟩, l6⟩, ⟨l7, l8⟩, l9⟩ := hL
  obtain ⟨a1, a2, a3, a4, ⟨T, Tf, t1, t2⟩, a5, a6, a7, a8, a9⟩ := h
  obtain ⟨⟨⟨⟨⟨⟨⟨⟨⟨m1, m2⟩, m3⟩, m4⟩, m5⟩, m6⟩, m7⟩, m8⟩, m9⟩, m10⟩ := id l3
  refine ⟨ckW_F a1 f l1, cD2_F a2 f (by simp only [Bool.and_eq_true, Bool.not_eq_true']; exact l2), a3, a4, ⟨T, Tf, t1, fun x hx => by rw [sg_F_ga f m1]; exact t2 x hx⟩, ckA_F a5 f (by simp only [Bool.and_eq_true]; exact l3), jPg_e a6 (fun j => ⟨sg_F_ga f l4, sg_F_ga f l5⟩), ckA3_F a7 f (by simp only [Bool.and_eq_true]; exact ⟨⟨⟨⟨m2, m5⟩, m9⟩, l8⟩, l9⟩), fun j z0 z1 z => by rw [sg_F_ga f l7]; exact a8 j z0 z1 z, by rw [sg_F_g f l6]; exact a9⟩
/-- read of the class -/
def rd8 (t : aK) (N : Nat) (σ σ' : sg_S) : Prop := (¬ accP t N ∧ sg_g σ' 0 10 = 0 ∧ sg_g σ' 0 8 = sg_g σ 0 8) ∨ (accP t N ∧ sg_g σ' 0 10 = 1 ∧ sg_g σ' 0 8 = 0 ∧ ∃ A D k, aPg t N aE0 = some (A, D, k) ∧ clR σ' A D k)
theorem cr8 (z : Value) (σ : sg_S) {c : tkC} {t : aK} {N : Nat} (hB : tkB c t N) (hV : wT t) (hb : tb σ = c.1) (hg : sg_gl σ 37 = c.2.2.1) (hn : sg_g σ 0 8 = c.2.1) (h7 : (sg_gl σ 36 7, sg_g σ 36 6) = c.2.2.2) : wx z 895 23 0 [(0, .inr (.inr (.ref 0)))] [] σ (fun v σ' => (∃ q, v = some (.inl q) ∧ sg_R q ∧ sg_F [3, 4, 5, 6, 7, 8, 9, 10, 11, 12, 13, 14, 15, 16, 17, 18, 20, 21, 22, 23, 24, 25, 26, 27, 29, 30, 31, 32, 33, 34, 39, 40, 41, 42, 43, 44, 3036, 4035, 4036, 5035, 5036, 6036, 7028, 7036, 8036, 9000, 9019, 10000, 10038, 11000, 11038, 12038, 12045, 12061, 13038, 14038, 17002] σ σ' ∧ rd8 t N σ σ') ∧ ∀ t' N', tkB c t' N' → wT t' → (sg_g σ' 0 10 = 0 ∨ lnk t' N' σ')) := by
  have r1 := w_cRead z σ (fun _ σ' => (¬ accP t N ∧ sg_g σ' 0 10 = 0 ∧ sg_g σ' 0 8 = sg_g σ 0 8) ∨ (accP t N ∧ sg_g σ' 0 10 = 1 ∧ sg_g σ' 0 8 = 0 ∧ sg_g σ' 38 13 = 0 ∧ ∃ A D k T, aPg t N aE0 = some (A, D, k) ∧ kPg A D k T = some (sg_g σ' 6))) (c_readT hB hV hb hg hn h7 (fun q σ' a b d => Or.inl ⟨a, b, d⟩) (fun q σ' A D k T a b d e f g => Or.inr ⟨e, f, g, d, A, D, k, T, a, b⟩))
  have r2 := w_cRead z σ (fun _ σ' => sg_g σ' 0 10 = 0 ∨ (sg_g σ' 0 10 = 1 ∧ ∃ A D k, aPg t N aE0 = some (A, D, k) ∧ ckW σ' A ∧ cD2 σ' D ∧ frA A (aRt D ++ [k]) ∧ (∀ x ∈ D, ∀ p ∈ x.2.2.1, 0 ≤ p.2.2) ∧ (ckA σ' A D.length k ∨ ¬ sg_g σ' 38 13 = 0) ∧ jPg σ' A D k ∧ sg_g σ' 35 4 = k)) (c_readS hB hV hb hg hn h7 (fun q σ' a => Or.inl a) (fun q σ' A D k a b d e f g i j l => Or.inr ⟨l, A, D, k, a, b, d, e, f, g, i, j⟩))
  have r3 := w_cRead z σ (fun _ σ' => sg_g σ' 0 10 = 0 ∨ (sg_g σ' 0 10 = 1 ∧ ∃ A D k, aPg t N aE0 = some (A, D, k) ∧ (ckA3 σ' A D k ∨ ¬ sg_g σ' 38 13 = 0) ∧ nmR σ' A)) (c_readV hB hV hb hg hn h7 (fun q σ' a => Or.inl a) (fun q σ' A D k a b d l => Or.inr ⟨l, A, D, k, a, b, d⟩))
  refine wk_post (wk_and (cr_lnk z σ hB hV hb hg hn h7) (wk_and r1 (wk_and r3 r2))) ?_
  rintro v σ' ⟨⟨⟨⟨q, e1, e2, e3, q2⟩, v3, σ3, ⟨_, _, _, _, q3⟩, H3⟩, v1, σ1, ⟨_, _, _, _, q1⟩, H1⟩, v0, σ0, ⟨⟨_, _, _, _, -⟩, L0⟩, H0⟩
  have h10 : sg_g σ1 0 10 = sg_g σ' 0 10 := sgH_fd (a := 0) (k := 10) rfl rfl H1
  have h8 : sg_g σ1 0 8 = sg_g σ' 0 8 := sgH_fd (a := 0) (k := 8) rfl rfl H1
  have h38 : sg_g σ1 38 13 = sg_g σ' 38 13 := sgH_fd (a := 38) (k := 13) rfl rfl H1
  have h10b : sg_g σ3 0 10 = sg_g σ' 0 10 := sgH_fd (a := 0) (k := 10) rfl rfl H3
  have h38b : sg_g σ3 38 13 = sg_g σ' 38 13 := sgH_fd (a := 38) (k := 13) rfl rfl H3
  have h10c : sg_g σ0 0 10 = sg_g σ' 0 10 := sgH_fd (a := 0) (k := 10) rfl rfl H0
  refine ⟨⟨q, e1, e2, e3, ?_⟩, fun t' N' b1 b2 => ?_⟩
  · rcases q1 with ⟨a1, a2, a3⟩ | ⟨a1, a2, a3, a4, A, D, k, T, a5, a6⟩
    · exact Or.inl ⟨a1, by rw [← h10]; exact a2, by rw [← h8]; exact a3⟩
    · right
      rw [h10] at a2
      rw [h8] at a3
      rw [h38] at a4
      refine ⟨a1, a2, a3, A, D, k, a5, ?_⟩
      rcases q2 with y | ⟨-, A', D', k', b1, b2, b3, b4, b5, b6, b7, b8⟩
      · rw [y] at a2; cases a2
      · rw [a5] at b1
        cases b1
        rcases q3 with y | ⟨-, A', D', k', c1, c2, c3⟩
        · rw [h10b] at y
          rw [y] at a2; cases a2
        · rw [a5] at c1
          cases c1
          refine ⟨b2, b3, b4, b5, ⟨T, sg_g σ1 6, a6, fun x hx => (sgH_row (a := 6) rfl H1 x hx).symm⟩, b6.resolve_right (fun y => y a4), b7, ?_, fun n n0 n1 z => ?_, b8⟩
          · exact ckA3_H (c2.resolve_right (fun y => y (by rw [h38b]; exact a4))) b4 H3
          · rw [← sgH_row (a := 5) rfl H3 n n0]; exact c3 n n0 n1 z
  · rcases L0 t' N' b1 b2 with y | y
    · exact Or.inl (by rw [← h10c]; exact y)
    · exact Or.inr (lnk_H y H0)
/-! THE LAW'S STATE, third: the same PROGRAM, ready for nested runs of both sides; as many runs on both sides. -/
def lyR (σ : sg_S) : Prop := ∃ A D k, clR σ A D k ∧ pgX σ A D (sg_g σ 101) (sg_g σ 102) ∧ sg_g σ 88 27 = k ∧ tyN A (kDl D []) (sg_g σ 101) (sg_g σ 102) 201 [] k ∧ (∃ B0, ∀ x, 0 ≤ x → x < A.1 → sg_g σ 102 x = kPB A D k B0 x) ∧ ∀ n, 0 ≤ n → n < A.1 → sg_g σ 6 n = sg_g σ 101 n
def okY (L : List Nat) : Bool := okP8 L && okX L && (sg_ca L 6 && sg_ca L 101 && sg_ca L 102 && !sg_cv L 88 27)
theorem lyR_F {L : List Nat} {σ σ' : sg_S} (h : lyR σ) (f : sg_F L σ σ') (hL : okY L = true) : lyR σ' := by
  unfold okY at hL
  simp only [Bool.and_eq_true, Bool.not_eq_true'] at hL
  obtain ⟨⟨l1, l2⟩, ⟨⟨l3, l4⟩, l5⟩, l6⟩ := hL
  obtain ⟨A, D, k, a1, a2, a3, a4, ⟨B0, a5⟩, a6⟩ := h
  have e101 : sg_g σ' 101 = sg_g σ 101 := funext fun x => sg_F_ga f l4
  have e102 : sg_g σ' 102 = sg_g σ 102 := funext fun x => sg_F_ga f l5
  refine ⟨A, D, k, clR_F a1 f l1, by rw [e101, e102]; exact pgX_F f l2 a2, by rw [sg_F_g f l6]; exact a3, by rw [e101, e102]; exact a4, ⟨B0, fun x z1 z2 => by rw [e102]; exact a5 x z1 z2⟩, fun n z1 z2 => ?_⟩
  rw [e101, sg_F_ga f l3]
  exact a6 n z1 z2
def lkK (σ : sg_S) : Prop := lkR σ ∧ sg_g σ 0 11 = sg_g σ 88 52 ∧ (sg_g σ 88 28 = 0 ∨ lyR σ)
def okK8 (L : List Nat) : Bool := okK L && okY L && (!sg_cv L 0 11 && !sg_cv L 88 52 && !sg_cv L 88 28)
theorem lkK_F {L : List Nat} {σ σ' : sg_S} (h : lkK σ) (f : sg_F L σ σ') (hL : okK8 L = true) : lkK σ' := by
  unfold okK8 at hL
  simp only [Bool.and_eq_true, Bool.not_eq_true'] at hL
  obtain ⟨⟨l1, l2⟩, ⟨l3, l4⟩, l5⟩ := hL
  obtain ⟨a1, a2, a3⟩ := h
  refine ⟨lkR_F a1 f l1, by rw [sg_F_g f l3, sg_F_g f l4]; exact a2, ?_⟩
  rw [sg_F_g f l5]
  exact a3.imp id (fun w => lyR_F w f l2)
def lwK (σ : sg_S) : Prop := lwI σ ∧ lkK σ
