/-! cameAt of a whole tree: how many names are known where a binder stands. -/
theorem kCg_k {n : Int} : ∀ (g m : Nat) (C : Int → Int) (b : Int), (∀ j : Nat, j < g → ¬ b = 210 + 4 * n + (j : Int)) → kCg n g m C b = C b
  | 0, m, C, b, h => rfl
  | g + 1, m, C, b, h => by
    simp only [kCg, aU]
    rw [if_neg (h g (by omega))]
    exact kCg_k g m C b (fun j hj => h j (by omega))
theorem kCg_e {n : Int} : ∀ (g m : Nat) (C : Int → Int) (j : Nat), j < g → kCg n g m C (210 + 4 * n + (j : Int)) = ((m + j : Nat) : Int)
  | 0, m, C, j, h => by omega
  | g + 1, m, C, j, h => by
    simp only [kCg, aU]
    by_cases c : j = g
    · subst c
      rw [if_pos rfl]
    · rw [if_neg (by omega)]
      exact kCg_e g m C j (by omega)
theorem kCp_k {d : Int} : ∀ (k : Nat) (C : Int → Int) (b : Int), b < 1100 + 6 * d → kCp d k C b = C b
  | 0, C, b, h => rfl
  | k + 1, C, b, h => by
    simp only [kCp, aU]
    rw [if_neg (by omega)]
    exact kCp_k k C b h
theorem kCp_e {d : Int} : ∀ (k : Nat) (C : Int → Int) (j : Nat), j < k → kCp d k C (1100 + 6 * d + (j : Int)) = (j : Int)
  | 0, C, j, h => by omega
  | k + 1, C, j, h => by
    simp only [kCp, aU]
    by_cases c : j = k
    · subst c
      rw [if_pos rfl]
    · rw [if_neg (by omega)]
      exact kCp_e k C j (by omega)
theorem insL_2 {L L' : List Int} {b : Int} (h : insL L b) (hd : ∀ y ∈ L, y ∉ L') : ¬ insL L' b := fun g => by
  rcases h with ⟨a1, a2⟩ | ⟨a1, a2, a3⟩
  · rcases g with ⟨c1, c2⟩ | ⟨c1, c2, c3⟩
    · exact hd _ a2 c2
    · omega
  · rcases g with ⟨c1, c2⟩ | ⟨c1, c2, c3⟩
    · omega
    · exact hd _ a3 c3
/-- cameAt is right for n and all below it, m names being known -/
def k4N (A : aT) (C : Int → Int) : Nat → Nat → Int → Prop
  | 0, _, _ => True
  | f + 1, m, n => (A.2.1 n = 2 → ∀ a b, A.2.2.2.2.1 n = [a, b] → C n = (m : Int) ∧ k4N A C f m a ∧ k4N A C f (m + 1) b) ∧ (A.2.1 n = 15 → ∀ bd tl, A.2.2.2.2.1 n = bd :: tl → (∀ j : Nat, j < (A.2.2.2.2.2 n).length → C (210 + 4 * n + (j : Int)) = ((m + j : Nat) : Int)) ∧ (∀ x ∈ tl.take (A.2.2.2.2.2 n).length, k4N A C f m x) ∧ ∀ x ∈ tl.drop (A.2.2.2.2.2 n).length ++ [bd], k4N A C f (m + (A.2.2.2.2.2 n).length) x) ∧ (¬ A.2.1 n = 2 → ¬ A.2.1 n = 15 → ∀ x ∈ A.2.2.2.2.1 n, k4N A C f m x)
section ZKC
variable {A : aT}
theorem k4N_F {C C' : Int → Int} : ∀ (f m : Nat) (n : Int) (L : List Int), fT A [n] L → (∀ x ∈ L, 0 ≤ x ∧ x < 200) → (∀ b, insL L b → C' b = C b) → k4N A C f m n → k4N A C' f m n
  | 0, m, n, L, hf, hr, he, h => trivial
  | f + 1, m, n, L, hf, hr, he, h => by
    obtain ⟨L1, L2, e1, w1, w2, w3⟩ := fT_inv hf
    have nL : n ∈ L := by rw [e1]; simp
    have kd : ∀ x ∈ A.2.2.2.2.1 n, ∀ m', k4N A C f m' x → k4N A C' f m' x := fun x hx m' g => by
      obtain ⟨Lx, a1, a2⟩ := fT_kid w2 hx
      have s : ∀ y ∈ Lx, y ∈ L := fun y hy => by rw [e1]; exact List.mem_cons_of_mem _ (List.mem_append_left _ (a2 y hy))
      exact k4N_F f m' x Lx a1 (fun y hy => hr y (s y hy)) (fun b hb => he b (insL_s s hb)) g
    obtain ⟨n1, n2, n3, n4, n5, n6, n7, n8⟩ := w1
    have rn := hr n nL
    obtain ⟨h1, h2, h3⟩ := h
    refine ⟨fun k2 a b hk => ?_, fun k15 bd tl hk => ?_, fun c2 c15 x hx => kd x hx m (h3 c2 c15 x hx)⟩
    · obtain ⟨g1, g2, g3⟩ := h1 k2 a b hk
      exact ⟨by rw [he n (Or.inl ⟨by omega, nL⟩)]; exact g1, kd a (by rw [hk]; simp) m g2, kd b (by rw [hk]; simp) (m + 1) g3⟩
    · obtain ⟨g1, g2, g3⟩ := h2 k15 bd tl hk
      have l7 := n7 k15
      refine ⟨fun j hj => ?_, fun x hx => kd x (by rw [hk]; exact List.mem_cons_of_mem _ (List.mem_of_mem_take hx)) m (g2 x hx), fun x hx => kd x ?_ _ (g3 x hx)⟩
      · rw [he (210 + 4 * n + (j : Int)) (Or.inr ⟨by omega, by omega, ?_⟩)]
        · exact g1 j hj
        · rw [show (210 + 4 * n + (j : Int) - 210) / 4 = n by omega]
          exact nL
      · rw [hk]
        rcases List.mem_append.mp hx with q | q
        · exact List.mem_cons_of_mem _ (List.mem_of_mem_drop q)
        · have e : x = bd := by simpa using q
          rw [e]; simp
/-- a row of nodes, one after another -/
theorem coR_k {f : Nat} (ih : ∀ (m : Nat) (n : Int) (L : List Int) (C : Int → Int) (b : Int), fT A [n] L → (∀ x ∈ L, 0 ≤ x ∧ x < 200) → ¬ insL L b → kCo A f m n C b = C b) : ∀ (R L : List Int) (m : Nat) (C : Int → Int) (b : Int), fT A R L → (∀ x ∈ L, 0 ≤ x ∧ x < 200) → ¬ insL L b → kCoR (kCo A f) m R C b = C b
  | [], L, m, C, b, hf, hr, hb => rfl
  | x :: R, L, m, C, b, hf, hr, hb => by
    obtain ⟨L1, L2, e1, w1, w2, w3⟩ := fT_inv hf
    subst e1
    have s1 : ∀ y ∈ x :: L1, y ∈ x :: (L1 ++ L2) := fun y hy => by
      rcases List.mem_cons.mp hy with q | q
      · rw [q]; simp
      · exact List.mem_cons_of_mem _ (List.mem_append_left _ q)
    have s2 : ∀ y ∈ L2, y ∈ x :: (L1 ++ L2) := fun y hy => List.mem_cons_of_mem _ (List.mem_append_right _ hy)
    simp only [kCoR]
    rw [coR_k ih R L2 m _ b w3 (fun y hy => hr y (s2 y hy)) (fun q => hb (insL_s s2 q))]
    exact ih m x (x :: L1) C b (fT_one w1 w2) (fun y hy => hr y (s1 y hy)) (fun q => hb (insL_s s1 q))
theorem co_k : ∀ (f m : Nat) (n : Int) (L : List Int) (C : Int → Int) (b : Int), fT A [n] L → (∀ x ∈ L, 0 ≤ x ∧ x < 200) → ¬ insL L b → kCo A f m n C b = C b
  | 0, m, n, L, C, b, hf, hr, hb => rfl
  | f + 1, m, n, L, C, b, hf, hr, hb => by
    obtain ⟨L1, L2, e1, w1, w2, w3⟩ := fT_inv hf
    have e2 := fT_nil w3
    subst e2
    rw [List.append_nil] at e1
    subst e1
    have rn := hr n (by simp)
    have s1 : ∀ y ∈ L1, y ∈ n :: L1 := fun y hy => List.mem_cons_of_mem _ hy
    have hr1 : ∀ x ∈ L1, 0 ≤ x ∧ x < 200 := fun x hx => hr x (s1 x hx)
    have hb1 : ¬ insL L1 b := fun q => hb (insL_s s1 q)
    have row := coR_k (A := A) (f := f) (fun m n L C b => co_k f m n L C b)
    obtain ⟨n1, n2, n3, n4, n5, n6, n7, n8⟩ := w1
    by_cases c2 : A.2.1 n = 2
    · obtain ⟨a, d, hk⟩ := kid2 (n3 (Or.inl c2))
      rw [hk] at w2
      obtain ⟨La, Ld, e3, f1, f2⟩ := fT_spl [a] [d] L1 w2
      have sa : ∀ y ∈ La, y ∈ L1 := fun y hy => by rw [e3]; exact List.mem_append_left _ hy
      have sd : ∀ y ∈ Ld, y ∈ L1 := fun y hy => by rw [e3]; exact List.mem_append_right _ hy
      simp only [kCo, c2, if_true, hk]
      rw [row [d] Ld (m + 1) _ b f2 (fun y hy => hr1 y (sd y hy)) (fun q => hb1 (insL_s sd q))]
      simp only [aU]
      rw [if_neg (fun w => hb (Or.inl ⟨by omega, by rw [w]; simp⟩))]
      exact co_k f m a La C b f1 (fun y hy => hr1 y (sa y hy)) (fun q => hb1 (insL_s sa q))
    · by_cases c15 : A.2.1 n = 15
      · have l7 := n7 c15
        obtain ⟨bd, tl, hk⟩ : ∃ bd tl, A.2.2.2.2.1 n = bd :: tl := by
          match hh : A.2.2.2.2.1 n with
          | bd :: tl => exact ⟨bd, tl, rfl⟩
          | [] => rw [hh] at l7; simp only [List.length_nil] at l7; omega
        rw [hk] at w2
        obtain ⟨Lb, Lr, e3, f1, f2⟩ := fT_spl [bd] tl L1 w2
        rw [← List.take_append_drop (A.2.2.2.2.2 n).length tl] at f2
        obtain ⟨Lg, Lt, e4, f3, f4⟩ := fT_spl _ _ Lr f2
        have sb : ∀ y ∈ Lt ++ Lb, y ∈ L1 := fun y hy => by
          rw [e3, e4]
          rcases List.mem_append.mp hy with q | q
          · exact List.mem_append_right _ (List.mem_append_right _ q)
          · exact List.mem_append_left _ q
        have sg : ∀ y ∈ Lg, y ∈ L1 := fun y hy => by rw [e3, e4]; exact List.mem_append_right _ (List.mem_append_left _ hy)
        have k3 : kCo A (f + 1) m n C = kCoR (kCo A f) (m + (A.2.2.2.2.2 n).length) (tl.drop (A.2.2.2.2.2 n).length ++ [bd]) (kCg n (A.2.2.2.2.2 n).length m (kCoR (kCo A f) m (tl.take (A.2.2.2.2.2 n).length) C)) := by
          simp only [kCo, c15, if_true, hk]
          rw [if_neg (by decide)]
        rw [k3, row _ (Lt ++ Lb) _ _ b (fT_app f4 f1) (fun y hy => hr1 y (sb y hy)) (fun q => hb1 (insL_s sb q))]
        rw [kCg_k _ _ _ _ (fun j hj w => hb (Or.inr ⟨by omega, by omega, by rw [w, show (210 + 4 * n + (j : Int) - 210) / 4 = n by omega]; simp⟩))]
        exact row _ Lg m C b f3 (fun y hy => hr1 y (sg y hy)) (fun q => hb1 (insL_s sg q))
      · simp only [kCo, c2, c15, if_false]
        exact row _ L1 m C b w2 hr1 hb1
theorem coR_ok {f : Nat} (ih : ∀ (m : Nat) (n : Int) (L : List Int) (C : Int → Int), fT A [n] L → L.Nodup → (∀ x ∈ L, 0 ≤ x ∧ x < 200) → k4N A (kCo A f m n C) f m n) : ∀ (R L : List Int) (m : Nat) (C : Int → Int), fT A R L → L.Nodup → (∀ x ∈ L, 0 ≤ x ∧ x < 200) → ∀ x ∈ R, k4N A (kCoR (kCo A f) m R C) f m x
  | [], L, m, C, hf, hN, hr, x, hx => by cases hx
  | y :: R, L, m, C, hf, hN, hr, x, hx => by
    obtain ⟨L1, L2, e1, w1, w2, w3⟩ := fT_inv hf
    subst e1
    have s1 : ∀ z ∈ y :: L1, z ∈ y :: (L1 ++ L2) := fun z hz => by
      rcases List.mem_cons.mp hz with q | q
      · rw [q]; simp
      · exact List.mem_cons_of_mem _ (List.mem_append_left _ q)
    have s2 : ∀ z ∈ L2, z ∈ y :: (L1 ++ L2) := fun z hz => List.mem_cons_of_mem _ (List.mem_append_right _ hz)
    rw [← List.cons_append] at hN
    obtain ⟨N1, N2, N3⟩ := List.nodup_append.mp hN
    simp only [kCoR]
    rcases List.mem_cons.mp hx with q | q
    · rw [q]
      refine k4N_F f m y (y :: L1) (fT_one w1 w2) (fun z hz => hr z (s1 z hz)) (fun b hb => ?_) (ih m y (y :: L1) C (fT_one w1 w2) N1 (fun z hz => hr z (s1 z hz)))
      exact coR_k (fun m n L C b => co_k f m n L C b) R L2 m _ b w3 (fun z hz => hr z (s2 z hz)) (insL_2 hb (fun z h1 h2 => N3 z h1 z h2 rfl))
    · exact coR_ok ih R L2 m _ w3 N2 (fun z hz => hr z (s2 z hz)) x q
theorem co_ok : ∀ (f m : Nat) (n : Int) (L : List Int) (C : Int → Int), fT A [n] L → L.Nodup → (∀ x ∈ L, 0 ≤ x ∧ x < 200) → k4N A (kCo A f m n C) f m n
  | 0, m, n, L, C, hf, hN, hr => trivial
  | f + 1, m, n, L, C, hf, hN, hr => by
    obtain ⟨L1, L2, e1, w1, w2, w3⟩ := fT_inv hf
    have e2 := fT_nil w3
    subst e2
    rw [List.append_nil] at e1
    subst e1
    have rn := hr n (by simp)
    obtain ⟨nn, hN1⟩ := List.nodup_cons.mp hN
    have hr1 : ∀ x ∈ L1, 0 ≤ x ∧ x < 200 := fun x hx => hr x (List.mem_cons_of_mem _ hx)
    have rk := coR_k (A := A) (f := f) (fun m n L C b => co_k f m n L C b)
    have ro := coR_ok (A := A) (f := f) (fun m n L C => co_ok f m n L C)
    obtain ⟨n1, n2, n3, n4, n5, n6, n7, n8⟩ := w1
    refine ⟨fun c2 a d hk => ?_, fun c15 bd tl hk => ?_, fun c2 c15 x hx => ?_⟩
    · rw [hk] at w2
      obtain ⟨La, Ld, e3, f1, f2⟩ := fT_spl [a] [d] L1 w2
      have sa : ∀ y ∈ La, y ∈ L1 := fun y hy => by rw [e3]; exact List.mem_append_left _ hy
      have sd : ∀ y ∈ Ld, y ∈ L1 := fun y hy => by rw [e3]; exact List.mem_append_right _ hy
      rw [e3] at hN1
      obtain ⟨N1, N2, N3⟩ := List.nodup_append.mp hN1
      have k3 : kCo A (f + 1) m n C = kCoR (kCo A f) (m + 1) [d] (aU (kCo A f m a C) n (m : Int)) := by
        simp only [kCo, c2, if_true, hk]
      rw [k3]
      refine ⟨?_, ?_, ro [d] Ld (m + 1) _ f2 N2 (fun y hy => hr1 y (sd y hy)) d (by simp)⟩
      · rw [rk [d] Ld (m + 1) _ n f2 (fun y hy => hr1 y (sd y hy)) (fun q => ?_)]
        · simp only [aU, if_true]
        · rcases q with ⟨q1, q2⟩ | ⟨q1, -⟩
          · exact nn (sd n q2)
          · omega
      · refine k4N_F f m a La f1 (fun y hy => hr1 y (sa y hy)) (fun b hb => ?_) (co_ok f m a La C f1 N1 (fun y hy => hr1 y (sa y hy)))
        rw [rk [d] Ld (m + 1) _ b f2 (fun y hy => hr1 y (sd y hy)) (insL_2 hb (fun z h1 h2 => N3 z h1 z h2 rfl))]
        simp only [aU]
        rw [if_neg]
        intro w
        rw [w] at hb
        rcases hb with ⟨q1, q2⟩ | ⟨q1, -⟩
        · exact nn (sa n q2)
        · omega
    · have l7 := n7 c15
      rw [hk] at w2
      obtain ⟨Lb, Lr, e3, f1, f2⟩ := fT_spl [bd] tl L1 w2
      rw [← List.take_append_drop (A.2.2.2.2.2 n).length tl] at f2
      obtain ⟨Lg, Lt, e4, f3, f4⟩ := fT_spl _ _ Lr f2
      rw [e4] at e3
      have sb : ∀ y ∈ Lt ++ Lb, y ∈ L1 := fun y hy => by
        rw [e3]
        rcases List.mem_append.mp hy with q | q
        · exact List.mem_append_right _ (List.mem_append_right _ q)
        · exact List.mem_append_left _ q
      have sg : ∀ y ∈ Lg, y ∈ L1 := fun y hy => by rw [e3]; exact List.mem_append_right _ (List.mem_append_left _ hy)
      rw [e3] at hN1
      obtain ⟨N1, N2, N3⟩ := List.nodup_append.mp hN1
      obtain ⟨N4, N5, N6⟩ := List.nodup_append.mp N2
      have N7 : (Lt ++ Lb).Nodup := List.nodup_append.mpr ⟨N5, N1, fun u hu v hv e => N3 v hv u (List.mem_append_right _ hu) e.symm⟩
      have N8 : ∀ z ∈ Lg, z ∉ Lt ++ Lb := fun z h1 h2 => by
        rcases List.mem_append.mp h2 with q | q
        · exact N6 z h1 z q rfl
        · exact N3 z q z (List.mem_append_left _ h1) rfl
      have k3 : kCo A (f + 1) m n C = kCoR (kCo A f) (m + (A.2.2.2.2.2 n).length) (tl.drop (A.2.2.2.2.2 n).length ++ [bd]) (kCg n (A.2.2.2.2.2 n).length m (kCoR (kCo A f) m (tl.take (A.2.2.2.2.2 n).length) C)) := by
        simp only [kCo, c15, if_true, hk]
        rw [if_neg (by decide)]
      rw [k3]
      have fb := fT_app f4 f1
      have rb : ∀ y ∈ Lt ++ Lb, 0 ≤ y ∧ y < 200 := fun y hy => hr1 y (sb y hy)
      refine ⟨fun j hj => ?_, fun x hx => ?_, ro _ (Lt ++ Lb) _ _ fb N7 rb⟩
      · rw [rk _ (Lt ++ Lb) _ _ _ fb rb (fun q => ?_)]
        · exact kCg_e _ _ _ j hj
        · rcases q with ⟨q1, -⟩ | ⟨q1, q2, q3⟩
          · omega
          · rw [show (210 + 4 * n + (j : Int) - 210) / 4 = n by omega] at q3
            exact nn (sb n q3)
      · obtain ⟨Lx, a1, a2⟩ := fT_kid f3 hx
        refine k4N_F f m x Lx a1 (fun y hy => hr1 y (sg y (a2 y hy))) (fun b hb => ?_) (ro _ Lg m C f3 N4 (fun y hy => hr1 y (sg y hy)) x hx)
        rw [rk _ (Lt ++ Lb) _ _ b fb rb (insL_2 hb (fun z h1 h2 => N8 z (a2 z h1) h2))]
        refine kCg_k _ _ _ _ (fun j hj w => ?_)
        rw [w] at hb
        rcases hb with ⟨q1, -⟩ | ⟨q1, q2, q3⟩
        · omega
        · rw [show (210 + 4 * n + (j : Int) - 210) / 4 = n by omega] at q3
          exact nn (sg n (a2 n q3))
    · have k3 : kCo A (f + 1) m n C = kCoR (kCo A f) m (A.2.2.2.2.1 n) C := by
        simp only [kCo, c2, c15, if_false]
      rw [k3]
      exact ro _ L1 m C w2 hN1 hr1 x hx
/-- DEFS -/
theorem dC_k : ∀ (D : List aDf) (L : List Int) (d : Nat) (C : Int → Int) (b : Int), fT A (aRt D) L → (∀ x ∈ L, 0 ≤ x ∧ x < 200) → ¬ insL L b → b < 1100 + 6 * (d : Int) → kDC A D d C b = C b
  | [], L, d, C, b, hf, hr, hb, h => rfl
  | x :: D, L, d, C, b, hf, hr, hb, h => by
    have hf' : fT A (x.2.2.2 :: aRt D) L := hf
    obtain ⟨L1, L2, e1, w1, w2, w3⟩ := fT_inv hf'
    subst e1
    have s1 : ∀ z ∈ x.2.2.2 :: L1, z ∈ x.2.2.2 :: (L1 ++ L2) := fun z hz => by
      rcases List.mem_cons.mp hz with q | q
      · rw [q]; simp
      · exact List.mem_cons_of_mem _ (List.mem_append_left _ q)
    have s2 : ∀ z ∈ L2, z ∈ x.2.2.2 :: (L1 ++ L2) := fun z hz => List.mem_cons_of_mem _ (List.mem_append_right _ hz)
    simp only [kDC]
    rw [dC_k D L2 (d + 1) _ b w3 (fun y hy => hr y (s2 y hy)) (fun q => hb (insL_s s2 q)) (by omega)]
    rw [co_k 201 _ _ (x.2.2.2 :: L1) _ b (fT_one w1 w2) (fun y hy => hr y (s1 y hy)) (fun q => hb (insL_s s1 q))]
    exact kCp_k _ C b h
theorem dC_ok : ∀ (D : List aDf) (L : List Int) (d : Nat) (C : Int → Int), fT A (aRt D) L → L.Nodup → (∀ x ∈ L, 0 ≤ x ∧ x < 200) → (∀ x ∈ D, x.2.2.1.length ≤ 6) → ∀ (j : Nat) (x : aDf), D[j]? = some x → k4N A (kDC A D d C) 201 x.2.2.1.length x.2.2.2 ∧ ∀ i : Nat, i < x.2.2.1.length → kDC A D d C (1100 + 6 * ((d + j : Nat) : Int) + (i : Int)) = (i : Int)
  | [], L, d, C, hf, hN, hr, hp, j, x, hx => by cases hx
  | y :: D, L, d, C, hf, hN, hr, hp, j, x, hx => by
    have hf' : fT A (y.2.2.2 :: aRt D) L := hf
    obtain ⟨L1, L2, e1, w1, w2, w3⟩ := fT_inv hf'
    subst e1
    have s1 : ∀ z ∈ y.2.2.2 :: L1, z ∈ y.2.2.2 :: (L1 ++ L2) := fun z hz => by
      rcases List.mem_cons.mp hz with q | q
      · rw [q]; simp
      · exact List.mem_cons_of_mem _ (List.mem_append_left _ q)
    have s2 : ∀ z ∈ L2, z ∈ y.2.2.2 :: (L1 ++ L2) := fun z hz => List.mem_cons_of_mem _ (List.mem_append_right _ hz)
    have hr1 : ∀ z ∈ y.2.2.2 :: L1, 0 ≤ z ∧ z < 200 := fun z hz => hr z (s1 z hz)
    have hr2 : ∀ z ∈ L2, 0 ≤ z ∧ z < 200 := fun z hz => hr z (s2 z hz)
    rw [← List.cons_append] at hN
    obtain ⟨N1, N2, N3⟩ := List.nodup_append.mp hN
    have hp0 := hp y (by simp)
    simp only [kDC]
    cases j with
    | zero =>
      have e : y = x := by simpa using hx
      subst e
      refine ⟨k4N_F 201 _ _ (y.2.2.2 :: L1) (fT_one w1 w2) hr1 (fun b hb => ?_) (co_ok 201 _ _ (y.2.2.2 :: L1) (kCp d y.2.2.1.length C) (fT_one w1 w2) N1 hr1), fun i hi => ?_⟩
      · have b1 : b < 1100 := by
          rcases hb with ⟨q, -⟩ | ⟨-, q, -⟩ <;> omega
        exact dC_k D L2 (d + 1) _ b w3 hr2 (insL_2 hb (fun z h1 h2 => N3 z h1 z h2 rfl)) (by omega)
      · have nb : ∀ M : List Int, ¬ insL M (1100 + 6 * ((d + 0 : Nat) : Int) + (i : Int)) := fun M q => by
          rcases q with ⟨q, -⟩ | ⟨-, q, -⟩ <;> omega
        rw [dC_k D L2 (d + 1) _ _ w3 hr2 (nb _) (by omega), co_k 201 _ _ (y.2.2.2 :: L1) _ _ (fT_one w1 w2) hr1 (nb _)]
        exact kCp_e _ C i hi
    | succ j =>
      have hx' : D[j]? = some x := by simpa using hx
      obtain ⟨g1, g2⟩ := dC_ok D L2 (d + 1) (kCo A 201 y.2.2.1.length y.2.2.2 (kCp d y.2.2.1.length C)) w3 N2 hr2 (fun z hz => hp z (by simp [hz])) j x hx'
      refine ⟨g1, fun i hi => ?_⟩
      have := g2 i hi
      rw [show d + 1 + j = d + (j + 1) by omega] at this
      exact this
/-- the whole PROGRAM -/
theorem pC_ok {D : List aDf} {q : Int} {C : Int → Int} {LA : List Int} (hf : fT A (aRt D ++ [q]) LA) (hN : LA.Nodup) (hr : ∀ x ∈ LA, 0 ≤ x ∧ x < 200) (hp : ∀ x ∈ D, x.2.2.1.length ≤ 6) (hd : D.length ≤ 12) : k4N A (kPC A D q C) 201 0 q ∧ ∀ (j : Nat) (x : aDf), D[j]? = some x → k4N A (kPC A D q C) 201 x.2.2.1.length x.2.2.2 ∧ ∀ i : Nat, i < x.2.2.1.length → kPC A D q C (1100 + 6 * (j : Int) + (i : Int)) = (i : Int) := by
  obtain ⟨L1, L2, e1, f1, f2⟩ := fT_spl _ _ LA hf
  subst e1
  obtain ⟨N1, N2, N3⟩ := List.nodup_append.mp hN
  have r1 : ∀ x ∈ L1, 0 ≤ x ∧ x < 200 := fun x hx => hr x (List.mem_append_left _ hx)
  have r2 : ∀ x ∈ L2, 0 ≤ x ∧ x < 200 := fun x hx => hr x (List.mem_append_right _ hx)
  unfold kPC
  refine ⟨co_ok 201 0 q L2 _ f2 N2 r2, fun j x hx => ?_⟩
  obtain ⟨g1, g2⟩ := dC_ok D L1 0 C f1 N1 r1 hp j x hx
  obtain ⟨Lx, a1, a2⟩ := fT_kid f1 (r := x.2.2.2) (by unfold aRt; exact List.mem_map.mpr ⟨x, List.mem_of_getElem? hx, rfl⟩)
  refine ⟨k4N_F 201 _ _ Lx a1 (fun y hy => r1 y (a2 y hy)) (fun b hb => co_k 201 0 q L2 _ b f2 r2 (insL_2 hb (fun z h1 h2 => N3 z (a2 z h1) z h2 rfl))) g1, fun i hi => ?_⟩
  rw [co_k 201 0 q L2 _ _ f2 r2 (fun q => by rcases q with ⟨q, -⟩ | ⟨-, q, -⟩ <;> omega)]
  have := g2 i hi
  rw [Nat.zero_add] at this
  exact this
end ZKC
/-! what came first has the lower slot: both sides carry variables along in the same order. -/
/-- names of a scope: cameAt below m, slots below b, both rise alike -/
def k4R (C sl : Int → Int) (m b : Int) (sc : List (Int × Int)) : Prop := (∀ p ∈ sc, C p.1 < m ∧ sl p.1 < b) ∧ ∀ p ∈ sc, ∀ q ∈ sc, (C p.1 = C q.1 → p.1 = q.1) ∧ (C p.1 < C q.1 → sl p.1 < sl q.1)
theorem k4R_m {C sl : Int → Int} {m b b1 : Int} {sc : List (Int × Int)} (h : k4R C sl m b sc) (hb : b ≤ b1) : k4R C sl m b1 sc := ⟨fun p hp => ⟨(h.1 p hp).1, by have := (h.1 p hp).2; omega⟩, h.2⟩
theorem k4R_a {C sl : Int → Int} {m m' b b' : Int} {sc sn : List (Int × Int)} (h : k4R C sl m b sc) (hn : ∀ p ∈ sn, (m ≤ C p.1 ∧ C p.1 < m') ∧ (b ≤ sl p.1 ∧ sl p.1 < b')) (h2 : ∀ p ∈ sn, ∀ q ∈ sn, (C p.1 = C q.1 → p.1 = q.1) ∧ (C p.1 < C q.1 → sl p.1 < sl q.1)) (hm : m ≤ m') (hb : b ≤ b') : k4R C sl m' b' (sn ++ sc) := by
  refine ⟨fun p hp => ?_, fun p hp q hq => ?_⟩
  · rcases List.mem_append.mp hp with e | e
    · exact ⟨(hn p e).1.2, (hn p e).2.2⟩
    · have := h.1 p e
      exact ⟨by omega, by omega⟩
  · rcases List.mem_append.mp hp with e | e
    · rcases List.mem_append.mp hq with e2 | e2
      · exact h2 p e q e2
      · have a := hn p e
        have c := h.1 q e2
        exact ⟨fun w => by omega, fun w => by omega⟩
    · rcases List.mem_append.mp hq with e2 | e2
      · have a := hn q e2
        have c := h.1 p e
        exact ⟨fun w => by omega, fun w => by omega⟩
      · exact h.2 p e q e2
/-- of the variables carried along -/
def k4P (A : aT) (B C sl : Int → Int) (L : List Int) (but : Int) : Prop := ∀ u ∈ L, ∀ v ∈ L, A.2.1 u = 1 → A.2.1 v = 1 → ¬ insL L (B u) → ¬ insL L (B v) → ¬ isG but (B u) → ¬ isG but (B v) → (C (B u) = C (B v) → B u = B v) ∧ (C (B u) < C (B v) → sl (B u) < sl (B v))
def k4G (A : aT) (B C sl : Int → Int) (x : Int) : Prop := (A.2.1 x = 3 → ∀ (st : Nat) (y : Int) (L : List Int), (st = 1 ∨ st = 2) → (A.2.2.2.2.1 x)[st]? = some y → fT A [y] L → k4P A B C sl L (-1)) ∧ (A.2.1 x = 15 → ∀ (bd : Int) (tl Lb Lt : List Int), A.2.2.2.2.1 x = bd :: tl → fT A [bd] Lb → fT A (tl.drop (A.2.2.2.2.2 x).length) Lt → k4P A B C sl (Lb ++ Lt) x ∧ k4P A B C sl Lb (-1))
section ZKD
variable {A : aT} {ds : kD} {T B C : Int → Int} {σ : sg_S} {dix : Int}
theorem bIn_i {L : List Int} {b : Int} (hr : ∀ x ∈ L, 0 ≤ x ∧ x < 200) (hw : ∀ x ∈ L, A.2.1 x = 15 → (A.2.2.2.2.2 x).length ≤ 4) (h : bIn A L b) : insL L b := by
  rcases h with ⟨a, -⟩ | ⟨n, a, k, j, hj, e⟩
  · have := hr b a
    exact Or.inl ⟨by omega, a⟩
  · have := hr n a
    have := hw n a k
    refine Or.inr ⟨by omega, by omega, ?_⟩
    rw [e, show (210 + 4 * n + (j : Int) - 210) / 4 = n by omega]
    exact a
theorem fT_w4 {R L : List Int} (h : fT A R L) : ∀ x ∈ L, A.2.1 x = 15 → (A.2.2.2.2.2 x).length ≤ 4 := fun x hx k => by
  obtain ⟨Lx, u1, -⟩ := fT_nod L.length R L (Nat.le_refl _) h hx
  obtain ⟨L1, L2, -, w1, -, -⟩ := fT_inv u1
  exact (w1.2.2.2.2.2.2.1 k).2
/-- a row of nodes and its slots -/
theorem scS_k {f : Nat} {n : Int} : ∀ (R : List Int) (s : Nat) (es : List Int) (b b' : Int), scS σ A (scN σ A dix f) n s es b R b' → ∀ x ∈ R, ∃ es' b1 b2, scN σ A dix f es' x b1 b2 ∧ bA A n s b ≤ b1
  | [], s, es, b, b', h, x, hx => by cases hx
  | y :: R, s, es, b, b', h, x, hx => by
    simp only [scS] at h
    obtain ⟨-, b2, h2, h3⟩ := h
    rcases List.mem_cons.mp hx with q | q
    · rw [q]
      exact ⟨_, _, _, h2, Int.le_refl _⟩
    · obtain ⟨es', b1, b3, g1, g2⟩ := scS_k R (s + 1) _ b2 b' h3 x q
      have := scN_le _ _ _ _ _ h2
      have := bA_le A n (s + 1) b2
      exact ⟨es', b1, b3, g1, by omega⟩
/-- every part of a node has its scope -/
theorem k4_kd (hA : A.1 ≤ 200) {f m : Nat} {n b b' : Int} {L1 es : List Int} {sc : List (Int × Int)} (hw : nW A n) (ht : tyN A ds T B (f + 1) sc n) (hs : scN σ A dix (f + 1) es n b b') (hc : k4N A C (f + 1) m n) (hR : k4R C (slF σ) m b sc) : ∀ x ∈ A.2.2.2.2.1 n, ∃ sc' es' b1 b2 m', tyN A ds T B f sc' x ∧ scN σ A dix f es' x b1 b2 ∧ k4N A C f m' x ∧ k4R C (slF σ) m' b1 sc' ∧ (A.2.1 n = 3 → sc' = sc) := by
  obtain ⟨a1, a2, a3, a4, a5, a6, a7, a8, a9⟩ := ht
  obtain ⟨-, -, -, hs⟩ := hs
  obtain ⟨n1, n2, n3, n4, n5, n6, n7, n8⟩ := hw
  obtain ⟨c1, c2', c3⟩ := hc
  intro x hx
  by_cases c2 : A.2.1 n = 2
  · obtain ⟨a, d, hk⟩ := kid2 (n3 (Or.inl c2))
    have ho : kOrd A n = [a, d] := by unfold kOrd; rw [if_neg (by omega), hk]
    rw [ho] at hs
    simp only [scS] at hs
    obtain ⟨-, b1, q1, ⟨q2, -⟩, b3, q3, q4⟩ := hs
    obtain ⟨q5, q6⟩ := q2 c2 (by rfl)
    have es0 := esA_no (A := A) (n := n) (s := 0) ⟨by omega, by omega⟩ es b
    rw [es0.1, es0.2] at q1
    rw [es0.1] at q3
    have ba1 : bA A n (0 + 1) b1 = b1 + 1 := by unfold bA; rw [if_pos ⟨c2, rfl⟩]
    rw [ba1] at q3
    obtain ⟨ta, td⟩ := a7 c2 a d hk
    obtain ⟨g1, g2, g3⟩ := c1 c2 a d hk
    have le := scN_le _ _ _ _ _ q1
    rw [hk] at hx
    rcases List.mem_cons.mp hx with e | e
    · rw [e]
      exact ⟨sc, _, _, _, m, ta, q1, g2, hR, fun _ => rfl⟩
    · have e' : x = d := by simpa using e
      rw [e']
      refine ⟨(n, T a) :: sc, _, _, _, m + 1, td, q3, g3, ?_, fun w => by omega⟩
      have sln : slF σ n = b1 := by rw [sl_let (by omega)]; exact q5
      have := k4R_a (sn := [(n, T a)]) (m' := ((m + 1 : Nat) : Int)) (b' := b1 + 1) (k4R_m hR le) (fun p hp => by
        have ep : p = (n, T a) := by simpa using hp
        rw [ep]
        simp only
        rw [g1, sln]
        exact ⟨⟨by omega, by omega⟩, by omega, by omega⟩) (fun p hp q hq => by
        have ep : p = (n, T a) := by simpa using hp
        have eq : q = (n, T a) := by simpa using hq
        rw [ep, eq]
        exact ⟨fun _ => rfl, fun w => by omega⟩) (by omega) (by omega)
      exact this
  · by_cases c15 : A.2.1 n = 15
    · have l7 := n7 c15
      obtain ⟨bd, tl, hk⟩ : ∃ bd tl, A.2.2.2.2.1 n = bd :: tl := by
        match hh : A.2.2.2.2.1 n with
        | bd :: tl => exact ⟨bd, tl, rfl⟩
        | [] => rw [hh] at l7; simp only [List.length_nil] at l7; omega
      have g1' := n8.2 c15
      rw [hk, List.length_cons] at l7
      have hlt : (tl.take (A.2.2.2.2.2 n).length).length = (A.2.2.2.2.2 n).length := by rw [List.length_take]; omega
      have ho : kOrd A n = tl.take (A.2.2.2.2.2 n).length ++ (tl.drop (A.2.2.2.2.2 n).length ++ [bd]) := by
        unfold kOrd
        rw [if_pos c15, hk, ← List.append_assoc, List.take_append_drop]
        rfl
      rw [ho] at hs
      obtain ⟨b1, s1, s2⟩ := scS_app _ _ 0 b b' (fun j _ hj => ⟨by omega, fun w => by have := w.2; omega⟩) hs
      rw [hlt, Nat.zero_add] at s2
      obtain ⟨t1, t2⟩ := a8 c15 bd tl hk
      obtain ⟨g1, g2, g3⟩ := c2' c15 bd tl hk
      have le := scS_le (fun es x b b' => scN_le f es x b b') _ _ _ _ _ s1
      have h16 : sg_g σ 16 n = b1 := by
        cases hd : tl.drop (A.2.2.2.2.2 n).length ++ [bd] with
        | nil => simp at hd
        | cons y r =>
          rw [hd] at s2
          simp only [scS] at s2
          exact (s2.1.2 c15 rfl).1
      have ba : bA A n (A.2.2.2.2.2 n).length b1 = b1 + (A.2.2.2.2.2 n).length := by unfold bA; rw [if_neg (by omega), if_pos ⟨c15, rfl⟩]
      have hm : ∀ p ∈ gsc n T 0 (tl.take (A.2.2.2.2.2 n).length), ∃ i : Nat, i < (A.2.2.2.2.2 n).length ∧ p.1 = 210 + 4 * n + (i : Int) := fun p hp => by
        obtain ⟨i, u, hi, ep⟩ := gscF_m hp
        have := gE_l hi
        exact ⟨i, by omega, by rw [ep, Nat.zero_add]⟩
      have gv : ∀ i : Nat, i < (A.2.2.2.2.2 n).length → C (210 + 4 * n + (i : Int)) = (m : Int) + i ∧ slF σ (210 + 4 * n + (i : Int)) = b1 + i := fun i hi => by
        refine ⟨by rw [g1 i hi]; omega, ?_⟩
        rw [sl_gen ⟨a2.1, by omega⟩ (by omega), h16]
      have R1 : k4R C (slF σ) ((m + (A.2.2.2.2.2 n).length : Nat) : Int) (b1 + (A.2.2.2.2.2 n).length) (gsc n T 0 (tl.take (A.2.2.2.2.2 n).length) ++ sc) := by
        refine k4R_a (k4R_m hR le) (fun p hp => ?_) (fun p hp q hq => ?_) (by omega) (by omega)
        · obtain ⟨i, hi, ep⟩ := hm p hp
          obtain ⟨v1, v2⟩ := gv i hi
          rw [ep, v1, v2]
          exact ⟨⟨by omega, by omega⟩, by omega, by omega⟩
        · obtain ⟨i, hi, ep⟩ := hm p hp
          obtain ⟨j, hj, eq⟩ := hm q hq
          obtain ⟨v1, v2⟩ := gv i hi
          obtain ⟨u1, u2⟩ := gv j hj
          rw [ep, eq, v1, v2, u1, u2]
          exact ⟨fun w => by omega, fun w => by omega⟩
      have rest : ∀ y ∈ tl.drop (A.2.2.2.2.2 n).length ++ [bd], ∃ sc' es' b1 b2 m', tyN A ds T B f sc' y ∧ scN σ A dix f es' y b1 b2 ∧ k4N A C f m' y ∧ k4R C (slF σ) m' b1 sc' ∧ (A.2.1 n = 3 → sc' = sc) := fun y hy => by
        obtain ⟨es', b3, b4, k1, k2⟩ := scS_k _ _ _ _ _ s2 y hy
        rw [ba] at k2
        exact ⟨_, es', b3, b4, _, t2 y hy, k1, g3 y hy, k4R_m R1 k2, fun w => by omega⟩
      rw [hk] at hx
      rcases List.mem_cons.mp hx with e | e
      · rw [e]
        exact rest bd (by simp)
      · rw [← List.take_append_drop (A.2.2.2.2.2 n).length tl] at e
        rcases List.mem_append.mp e with e | e
        · obtain ⟨es', b3, b4, k1, k2⟩ := scS_k _ _ _ _ _ s1 x e
          have := bA_le A n 0 b
          exact ⟨sc, es', b3, b4, m, (t1 x e).1, k1, g2 x e, k4R_m hR (by omega), fun _ => rfl⟩
        · exact rest x (List.mem_append_left _ e)
    · have ho : kOrd A n = A.2.2.2.2.1 n := by unfold kOrd; rw [if_neg c15]
      rw [ho] at hs
      obtain ⟨es', b3, b4, k1, k2⟩ := scS_k _ _ _ _ _ hs x hx
      have := bA_le A n 0 b
      exact ⟨sc, es', b3, b4, m, a9 c2 c15 x hx, k1, c3 c2 c15 x hx, k4R_m hR (by omega), fun _ => rfl⟩
/-- the names of a part that are bound outside of it -/
theorem k4_pt (hA : A.1 ≤ 200) {f : Nat} {x : Int} {L : List Int} {sc : List (Int × Int)} (ht : tyN A ds T B f sc x) (hf : fT A [x] L) (hr : ∀ y ∈ L, 0 ≤ y ∧ y < 200) : ∀ u ∈ L, A.2.1 u = 1 → ¬ insL L (B u) → ∃ p ∈ sc, p.1 = B u := fun u hu k ni => by
  rcases tyN_b hA f sc x L ht hf u hu k with q | q
  · exact ⟨_, q, rfl⟩
  · exact absurd (bIn_i hr (fT_w4 hf) q) ni
theorem k4_all (hA : A.1 ≤ 200) : ∀ (f : Nat) (n : Int) (L : List Int) (sc : List (Int × Int)) (es : List Int) (b b' : Int) (m : Nat), tyN A ds T B f sc n → scN σ A dix f es n b b' → k4N A C f m n → fT A [n] L → (∀ x ∈ L, 0 ≤ x ∧ x < 200) → k4R C (slF σ) m b sc → ∀ x ∈ L, k4G A B C (slF σ) x
  | 0, n, L, sc, es, b, b', m, ht, hs, hc, hf, hr, hR, x, hx => by cases ht
  | f + 1, n, L, sc, es, b, b', m, ht, hs, hc, hf, hr, hR, x, hx => by
    obtain ⟨L1, L2, e1, w1, w2, w3⟩ := fT_inv hf
    have e2 := fT_nil w3
    subst e2
    rw [List.append_nil] at e1
    subst e1
    have kd := k4_kd (L1 := L1) hA w1 ht hs hc hR
    have hr1 : ∀ y ∈ L1, 0 ≤ y ∧ y < 200 := fun y hy => hr y (List.mem_cons_of_mem _ hy)
    rcases List.mem_cons.mp hx with q | q
    · rw [q]
      refine ⟨fun k3 st y Ly hst hy hL => ?_, fun k15 bd tl Lb Lt hk hb ht' => ?_⟩
      · have ym := List.mem_of_getElem? hy
        obtain ⟨sc', es', b1, b2, m', g1, g2, g3, g4, g5⟩ := kd y ym
        obtain ⟨Ly', u1, u2⟩ := fT_kid w2 ym
        have eL := fT_det hL u1
        have pt := k4_pt hA g1 hL (fun z hz => hr1 z (u2 z (by rw [← eL]; exact hz)))
        intro u hu v hv ku kv nu nv _ _
        obtain ⟨p, p1, p2⟩ := pt u hu ku nu
        obtain ⟨p', p3, p4⟩ := pt v hv kv nv
        rw [← p2, ← p4]
        exact g4.2 p p1 p' p3
      · have l7 := w1.2.2.2.2.2.2.1 k15
        obtain ⟨a1, a2, a3, a4, a5, a6, a7, a8, a9⟩ := id ht
        obtain ⟨t1, t2⟩ := a8 k15 bd tl hk
        obtain ⟨scb, esb, b1, b2, mb, g1, g2, g3, g4, -⟩ := kd bd (by rw [hk]; simp)
        rw [hk] at w2
        obtain ⟨Lb', Lr, e3, f1, f2⟩ := fT_spl [bd] tl L1 w2
        rw [← List.take_append_drop (A.2.2.2.2.2 n).length tl] at f2
        obtain ⟨Lg, Lt', e4, f3, f4⟩ := fT_spl _ _ Lr f2
        have eb := fT_det hb f1
        have et := fT_det ht' f4
        have sb : ∀ y ∈ Lb, y ∈ L1 := fun y hy => by rw [e3, ← eb]; exact List.mem_append_left _ hy
        have st : ∀ y ∈ Lt, y ∈ L1 := fun y hy => by rw [e3, e4, ← et]; exact List.mem_append_right _ (List.mem_append_right _ hy)
        have own : ∀ p ∈ gsc n T 0 (tl.take (A.2.2.2.2.2 n).length) ++ sc, ¬ isG n p.1 → p ∈ sc := fun p hp ni => by
          rcases List.mem_append.mp hp with e | e
          · obtain ⟨i, u, hi, ep⟩ := gscF_m e
            have := gE_l hi
            rw [List.length_take] at this
            refine absurd ⟨a2.1, ?_, ?_, ?_⟩ ni
            · rw [ep]; simp only; omega
            · rw [ep]; simp only; omega
            · rw [ep]; simp only; omega
          · exact e
        have ptS : ∀ u ∈ Lb ++ Lt, A.2.1 u = 1 → ¬ insL (Lb ++ Lt) (B u) → ¬ isG n (B u) → ∃ p ∈ sc, p.1 = B u := fun u hu ku nu ng => by
          have key : ∃ p ∈ gsc n T 0 (tl.take (A.2.2.2.2.2 n).length) ++ sc, p.1 = B u := by
            rcases List.mem_append.mp hu with e | e
            · exact k4_pt hA (t2 bd (by simp)) hb (fun z hz => hr1 z (sb z hz)) u e ku (fun w => nu (insL_s (fun y hy => List.mem_append_left _ hy) w))
            · obtain ⟨z, hz, Lz, v1, v2, v3⟩ := fT_in ht' u e
              exact k4_pt hA (t2 z (List.mem_append_left _ hz)) v1 (fun y hy => hr1 y (st y (v3 y hy))) u v2 ku (fun w => nu (insL_s (fun y hy => List.mem_append_right _ (v3 y hy)) w))
          obtain ⟨p, p1, p2⟩ := key
          exact ⟨p, own p p1 (by rw [p2]; exact ng), p2⟩
        refine ⟨fun u hu v hv ku kv nu nv gu gv => ?_, fun u hu v hv ku kv nu nv _ _ => ?_⟩
        · obtain ⟨p, p1, p2⟩ := ptS u hu ku nu gu
          obtain ⟨p', p3, p4⟩ := ptS v hv kv nv gv
          rw [← p2, ← p4]
          exact hR.2 p p1 p' p3
        · have pt := k4_pt hA g1 hb (fun z hz => hr1 z (sb z hz))
          obtain ⟨p, p1, p2⟩ := pt u hu ku nu
          obtain ⟨p', p3, p4⟩ := pt v hv kv nv
          rw [← p2, ← p4]
          exact g4.2 p p1 p' p3
    · obtain ⟨r, hrm, Lr, u1, u2, u3⟩ := fT_in w2 x q
      obtain ⟨sc', es', b1, b2, m', g1, g2, g3, g4, -⟩ := kd r hrm
      exact k4_all hA f r Lr sc' es' b1 b2 m' g1 g2 g3 u1 (fun y hy => hr1 y (u3 y hy)) g4 x u2
end ZKD
/-! sorted lists -/
theorem poO_a {c : Int → Int} {b : Int} {O : List Int} : ∀ (n i : Nat), poO c b O n ≤ i → i < n → c b < c (O.getD i 0)
  | 0, i, h, hi => by omega
  | n + 1, i, h, hi => by
    simp only [poO] at h
    by_cases w : c b < c (O.getD n 0)
    · rw [if_pos w] at h
      by_cases e : i = n
      · rw [e]; exact w
      · exact poO_a n i h (by omega)
    · rw [if_neg w] at h
      omega
theorem poO_b {c : Int → Int} {b : Int} {O : List Int} : ∀ n : Nat, poO c b O n = 0 ∨ ∃ p, poO c b O n = p + 1 ∧ ¬ c b < c (O.getD p 0)
  | 0 => Or.inl rfl
  | n + 1 => by
    simp only [poO]
    by_cases w : c b < c (O.getD n 0)
    · rw [if_pos w]; exact poO_b n
    · rw [if_neg w]; exact Or.inr ⟨n, rfl, w⟩
theorem insO_p {c : Int → Int} {b : Int} {O : List Int} (h : O.Pairwise (fun x y => c x < c y)) (hd : ∀ z ∈ O, c b = c z → b = z) : (insO c b O).Pairwise (fun x y => c x < c y) := by
  unfold insO
  by_cases hb : b ∈ O
  · rw [if_pos hb]; exact h
  rw [if_neg hb]
  have pl := poO_l c b O O.length
  have pa := poO_a (c := c) (b := b) (O := O) O.length
  have pb := poO_b (c := c) (b := b) (O := O) O.length
  generalize poO c b O O.length = p at *
  have lt : ∀ a ∈ O.take p, c a < c b := fun a ha => by
    rcases pb with e | ⟨r, e, nl⟩
    · rw [e] at ha; simp at ha
    · subst e
      have hr : r < O.length := by omega
      have hg : O.getD r 0 = O[r] := by rw [List.getD_eq_getElem?_getD, List.getElem?_eq_getElem hr, Option.getD_some]
      rw [hg] at nl
      have ne : ¬ c b = c O[r] := fun w => hb (by rw [hd O[r] (List.getElem_mem hr) w]; exact List.getElem_mem hr)
      have ht : O.take (r + 1) = O.take r ++ [O[r]] := (List.take_append_getElem hr).symm
      have hp : (O.take (r + 1)).Pairwise (fun x y => c x < c y) := h.sublist (List.take_sublist _ _)
      rw [ht] at ha hp
      rcases List.mem_append.mp ha with q | q
      · have := (List.pairwise_append.mp hp).2.2 a q O[r] (by simp)
        omega
      · have e2 : a = O[r] := by simpa using q
        rw [e2]; omega
  have gt : ∀ a ∈ O.drop p, c b < c a := fun a ha => by
    obtain ⟨i, hi⟩ := List.getElem?_of_mem ha
    rw [List.getElem?_drop] at hi
    have hl := gE_l hi
    have := pa (p + i) (by omega) hl
    rw [List.getD_eq_getElem?_getD, hi, Option.getD_some] at this
    exact this
  rw [List.pairwise_append, List.pairwise_cons]
  refine ⟨h.sublist (List.take_sublist _ _), ⟨gt, h.sublist (List.drop_sublist _ _)⟩, fun a ha x hx => ?_⟩
  rcases List.mem_cons.mp hx with e | e
  · rw [e]; exact lt a ha
  · have := lt a ha
    have := gt x e
    omega
theorem gaO_p {A : aT} {B c sl : Int → Int} {L : List Int} {but : Int} (h : k4P A B c sl L but) : ∀ v : Nat, (gaO A B c L but v).Pairwise (fun x y => c x < c y)
  | 0 => List.Pairwise.nil
  | v + 1 => by
    have ih := gaO_p h v
    simp only [gaO]
    split
    · rename_i hc
      refine insO_p ih (fun z hz e => ?_)
      obtain ⟨y, y1, y2, y3, y4, y5, y6⟩ := (gaO_m v z).mp hz
      rw [← y4] at e y5 y6 ⊢
      exact (h _ hc.1 y y2 hc.2.1 y3 hc.2.2.1 y5 hc.2.2.2 y6).1 e
    · exact ih
theorem gaO_s {A : aT} {B c sl : Int → Int} {L : List Int} {but : Int} (h : k4P A B c sl L but) (v : Nat) : (gaO A B c L but v).Pairwise (fun x y => sl x < sl y) := by
  refine List.Pairwise.imp_of_mem (fun {a b} ha hb w => ?_) (gaO_p h v)
  obtain ⟨y, y1, y2, y3, y4, y5, y6⟩ := (gaO_m v a).mp ha
  obtain ⟨z, z1, z2, z3, z4, z5, z6⟩ := (gaO_m v b).mp hb
  rw [← y4] at w y5 y6 ⊢
  rw [← z4] at w z5 z6 ⊢
  exact (h y y2 z z2 y3 z3 y5 z5 y6 z6).2 w
/-- two lists that rise alike and hold the same are the same -/
theorem srt_q {sl : Int → Int} : ∀ {l m : List Int}, l.Pairwise (fun x y => sl x < sl y) → m.Pairwise (fun x y => sl x < sl y) → (∀ x, x ∈ l ↔ x ∈ m) → l = m
  | [], [], _, _, _ => rfl
  | [], y :: m, _, _, h => by
    have := (h y).mpr (by simp)
    cases this
  | x :: l, [], _, _, h => by
    have := (h x).mp (by simp)
    cases this
  | x :: l, y :: m, hl, hm, h => by
    obtain ⟨l1, l2⟩ := List.pairwise_cons.mp hl
    obtain ⟨m1, m2⟩ := List.pairwise_cons.mp hm
    have e : x = y := by
      rcases List.mem_cons.mp ((h x).mp (by simp)) with a | a
      · exact a
      · rcases List.mem_cons.mp ((h y).mpr (by simp)) with b | b
        · exact b.symm
        · have := m1 x a
          have := l1 y b
          omega
    subst e
    have t : ∀ z, z ∈ l ↔ z ∈ m := fun z => by
      refine ⟨fun w => ?_, fun w => ?_⟩
      · rcases List.mem_cons.mp ((h z).mp (List.mem_cons_of_mem _ w)) with a | a
        · have := l1 z w
          rw [a] at this
          omega
        · exact a
      · rcases List.mem_cons.mp ((h z).mpr (List.mem_cons_of_mem _ w)) with a | a
        · have := m1 z w
          rw [a] at this
          omega
        · exact a
    rw [srt_q l2 m2 t]
/-- both sides carry the same along in the same order -/
theorem oEq_ok {A : aT} {D : List aDf} {T T' B B' c : Int → Int} {O O' : Int → Nat → List Int} {x : Int} {Lx : List Int} {σ : sg_S} (hf : fT A [x] Lx) (hr : ∀ y ∈ Lx, 0 ≤ y ∧ y < A.1) (hG : k4G A B c (slF σ) x) (hO : okO A B O) (hO' : okO A B' O') (hg : gaH A B c O) (hs : ∀ n st, ((O' n st).map (slF σ)).Pairwise (· < ·)) (hB : ∀ y ∈ Lx, B' y = B y) (hT : ∀ y ∈ Lx, A.2.1 y = 1 → bTy A D T (B y) = bTy A D T' (B y)) : oEq A D T T' O' O x := by
  obtain ⟨L1, L2, e1, w1, w2, w3⟩ := fT_inv hf
  have s1 : ∀ y ∈ L1, y ∈ Lx := fun y hy => by rw [e1]; exact List.mem_cons_of_mem _ (List.mem_append_left _ hy)
  have srt : ∀ n st, (O' n st).Pairwise (fun x y => slF σ x < slF σ y) := fun n st => List.pairwise_map.mp (hs n st)
  have key : ∀ (l l' S : List Int) (P : Int → Prop), l.Pairwise (fun x y => slF σ x < slF σ y) → l'.Pairwise (fun x y => slF σ x < slF σ y) → (∀ y ∈ S, y ∈ Lx) → (∀ z, z ∈ l ↔ ∃ y ∈ S, A.2.1 y = 1 ∧ B' y = z ∧ P z) → (∀ z, z ∈ l' ↔ ∃ y ∈ S, A.2.1 y = 1 ∧ B y = z ∧ P z) → gEq (bTy A D T) (bTy A D T') l l' := fun l l' S P n1 n2 hS m1 m2 => by
    refine ⟨srt_q n1 n2 (fun z => ?_), fun z hz => ?_⟩
    · rw [m1, m2]
      exact ⟨fun ⟨y, a, b, c, d⟩ => ⟨y, a, b, by rw [← hB y (hS y a)]; exact c, d⟩, fun ⟨y, a, b, c, d⟩ => ⟨y, a, b, by rw [hB y (hS y a)]; exact c, d⟩⟩
    · obtain ⟨y, a, b, c, d⟩ := (m1 z).mp hz
      rw [← c, hB y (hS y a)]
      exact hT y (hS y a) b
  refine ⟨fun k3 => ?_, fun k15 => ?_⟩
  · have l := w1.2.2.2.1 k3
    have one : ∀ st : Nat, (st = 1 ∨ st = 2) → gEq (bTy A D T) (bTy A D T') (O' x st) (O x st) := fun st hst => by
      have hl : st < (A.2.2.2.2.1 x).length := by omega
      have hx : (A.2.2.2.2.1 x)[st]? = some (A.2.2.2.2.1 x)[st] := List.getElem?_eq_getElem hl
      obtain ⟨Lc, a1, a2⟩ := fT_kid w2 (List.getElem_mem hl)
      have sc : ∀ y ∈ Lc, y ∈ Lx := fun y hy => s1 y (a2 y hy)
      refine key _ _ Lc (fun z => ¬ insL Lc z) (srt x st) ?_ sc ((hO' x).2.1 k3 st _ Lc hst hx a1) ((hO x).2.1 k3 st _ Lc hst hx a1)
      rw [(hg x).1 k3 st _ Lc hst hx a1 (fun y hy => hr y (sc y hy))]
      exact gaO_s (hG.1 k3 st _ Lc hst hx a1) _
    exact ⟨one 1 (Or.inl rfl), one 2 (Or.inr rfl)⟩
  · have l7 := w1.2.2.2.2.2.2.1 k15
    obtain ⟨bd, tl, ea⟩ : ∃ bd tl, A.2.2.2.2.1 x = bd :: tl := by
      cases e : A.2.2.2.2.1 x with
      | nil => rw [e] at l7; simp at l7; omega
      | cons p q => exact ⟨p, q, rfl⟩
    rw [ea] at w2
    obtain ⟨Lb, Lr, e2, f1, f2⟩ := fT_spl [bd] tl L1 w2
    rw [← List.take_append_drop (A.2.2.2.2.2 x).length tl] at f2
    obtain ⟨Lg, Lt, e3, f3, f4⟩ := fT_spl _ _ Lr f2
    obtain ⟨p1, p2⟩ := (hO' x).2.2 k15 bd tl Lb Lt ea f1 f4
    obtain ⟨q1, q2⟩ := (hO x).2.2 k15 bd tl Lb Lt ea f1 f4
    have sb : ∀ y ∈ Lb, y ∈ Lx := fun y hy => s1 y (by rw [e2]; simp [hy])
    have st : ∀ y ∈ Lt, y ∈ Lx := fun y hy => s1 y (by rw [e2, e3]; simp [hy])
    have sbt : ∀ y ∈ Lb ++ Lt, y ∈ Lx := fun y hy => (List.mem_append.mp hy).elim (sb y) (st y)
    obtain ⟨g1, g2⟩ := (hg x).2 k15 bd tl Lb Lt ea f1 f4 (fun y hy => hr y (sbt y hy))
    obtain ⟨h1, h2⟩ := hG.2 k15 bd tl Lb Lt ea f1 f4
    exact ⟨key _ _ (Lb ++ Lt) (fun z => ¬ insL (Lb ++ Lt) z ∧ ¬ isG x z) (srt x 0) (by rw [g1]; exact gaO_s h1 _) sbt p1 q1, key _ _ Lb (fun z => ¬ insL Lb z) (srt x 1) (by rw [g2]; exact gaO_s h2 _) sb p2 q2⟩
/-! THE LAW'S STATE, sixth: the same meters; names came in the order of their slots. -/
def lyX (σ : sg_S) : Prop := ∃ A D k, clR σ A D k ∧ pgX σ A D (sg_g σ 101) (sg_g σ 102) ∧ sg_g σ 88 27 = k ∧ tyN A (kDl D []) (sg_g σ 101) (sg_g σ 102) 201 [] k ∧ (∃ B0, ∀ x, 0 ≤ x → x < A.1 → sg_g σ 102 x = kPB A D k B0 x) ∧ (∀ n, 0 ≤ n → n < A.1 → sg_g σ 6 n = sg_g σ 101 n) ∧ ∃ C0, ∀ x, 0 ≤ x → sg_g σ 116 x = kPC A D k C0 x
theorem lyX_F {L : List Nat} {σ σ' : sg_S} (h : lyX σ) (f : sg_F L σ σ') (hL : (okY L && sg_ca L 116) = true) : lyX σ' := by
  unfold okY at hL
  simp only [Bool.and_eq_true, Bool.not_eq_true'] at hL
  obtain ⟨⟨⟨l1, l2⟩, ⟨⟨l3, l4⟩, l5⟩, l6⟩, l7⟩ := hL
  obtain ⟨A, D, k, a1, a2, a3, a4, ⟨B0, a5⟩, a6, C0, a7⟩ := h
  have e101 : sg_g σ' 101 = sg_g σ 101 := funext fun x => sg_F_ga f l4
  have e102 : sg_g σ' 102 = sg_g σ 102 := funext fun x => sg_F_ga f l5
  refine ⟨A, D, k, clR_F a1 f l1, by rw [e101, e102]; exact pgX_F f l2 a2, by rw [sg_F_g f l6]; exact a3, by rw [e101, e102]; exact a4, ⟨B0, fun x z1 z2 => by rw [e102]; exact a5 x z1 z2⟩, fun n z1 z2 => ?_, C0, fun x hx => by rw [sg_F_ga f l7]; exact a7 x hx⟩
  rw [e101, sg_F_ga f l3]
  exact a6 n z1 z2
def lkX (σ : sg_S) : Prop := lkR σ ∧ (sg_g σ 0 11 = sg_g σ 88 52 ∧ sg_g σ 0 12 = sg_g σ 88 82) ∧ (sg_g σ 88 28 = 0 ∨ lyX σ)
def okX8 (L : List Nat) : Bool := okK L && (okY L && sg_ca L 116) && (!sg_cv L 0 11 && !sg_cv L 88 52 && !sg_cv L 88 28 && !sg_cv L 0 12 && !sg_cv L 88 82)
theorem lkX_F {L : List Nat} {σ σ' : sg_S} (h : lkX σ) (f : sg_F L σ σ') (hL : okX8 L = true) : lkX σ' := by
  unfold okX8 at hL
  rw [Bool.and_eq_true, Bool.and_eq_true] at hL
  obtain ⟨⟨l1, l2⟩, l3⟩ := hL
  simp only [Bool.and_eq_true, Bool.not_eq_true'] at l3
  obtain ⟨⟨⟨⟨m1, m2⟩, m3⟩, m4⟩, m5⟩ := l3
  obtain ⟨a1, ⟨a2, a3⟩, a4⟩ := h
  refine ⟨lkR_F a1 f l1, ⟨by rw [sg_F_g f m1, sg_F_g f m2]; exact a2, by rw [sg_F_g f m4, sg_F_g f m5]; exact a3⟩, ?_⟩
  rw [sg_F_g f m3]
  exact a4.imp id (fun w => lyX_F w f l2)
def rmN (σ : sg_S) : Prop := sg_g σ 45 11 = sg_g σ 88 51 ∧ (sg_g σ 88 51 = 0 ∨ (sg_g σ 45 10 = sg_g σ 88 53 ∧ sg_g σ 45 22 = sg_g σ 88 54 ∧ (sg_g σ 88 53 = 0 → sg_g σ 45 23 = sg_g σ 88 55)))
def rmF (σ : sg_S) : Prop := sg_g σ 61 11 = sg_g σ 88 81 ∧ (sg_g σ 88 81 = 0 ∨ (sg_g σ 77 17 = sg_g σ 88 84 ∧ sg_g σ 77 16 = sg_g σ 88 85 ∧ sg_g σ 61 24 = sg_g σ 88 86))
def okN1 (L : List Nat) : Bool := !sg_cv L 45 11 && !sg_cv L 88 51 && !sg_cv L 45 10 && !sg_cv L 88 53 && !sg_cv L 45 22 && !sg_cv L 88 54 && !sg_cv L 45 23 && !sg_cv L 88 55
def okF1 (L : List Nat) : Bool := !sg_cv L 61 11 && !sg_cv L 88 81 && !sg_cv L 77 17 && !sg_cv L 88 84 && !sg_cv L 77 16 && !sg_cv L 88 85 && !sg_cv L 61 24 && !sg_cv L 88 86
theorem rmN_G {L : List Nat} {σ σ' : sg_S} (h : rmN σ) (f : sg_F L σ σ') (hL : okN1 L = true) : rmN σ' := by
  unfold okN1 at hL
  simp only [Bool.and_eq_true, Bool.not_eq_true'] at hL
  obtain ⟨⟨⟨⟨⟨⟨⟨l1, l2⟩, l3⟩, l4⟩, l5⟩, l6⟩, l7⟩, l8⟩ := hL
  unfold rmN
  rw [sg_F_g f l1, sg_F_g f l2, sg_F_g f l3, sg_F_g f l4, sg_F_g f l5, sg_F_g f l6, sg_F_g f l7, sg_F_g f l8]
  exact h
theorem rmF_G {L : List Nat} {σ σ' : sg_S} (h : rmF σ) (f : sg_F L σ σ') (hL : okF1 L = true) : rmF σ' := by
  unfold okF1 at hL
  simp only [Bool.and_eq_true, Bool.not_eq_true'] at hL
  obtain ⟨⟨⟨⟨⟨⟨⟨l1, l2⟩, l3⟩, l4⟩, l5⟩, l6⟩, l7⟩, l8⟩ := hL
  unfold rmF
  rw [sg_F_g f l1, sg_F_g f l2, sg_F_g f l3, sg_F_g f l4, sg_F_g f l5, sg_F_g f l6, sg_F_g f l7, sg_F_g f l8]
  exact h
def lkM (σ : sg_S) : Prop := lkX σ ∧ rmN σ ∧ rmF σ
def okM8 (L : List Nat) : Bool := okX8 L && (okN1 L && okF1 L)
theorem lkM_F {L : List Nat} {σ σ' : sg_S} (h : lkM σ) (f : sg_F L σ σ') (hL : okM8 L = true) : lkM σ' := by
  unfold okM8 at hL
  rw [Bool.and_eq_true, Bool.and_eq_true] at hL
  obtain ⟨l1, l2, l3⟩ := hL
  exact ⟨lkX_F h.1 f l1, rmN_G h.2.1 f l2, rmF_G h.2.2 f l3⟩
def lwM (σ : sg_S) : Prop := lwI σ ∧ lkM σ
/-- no run -/
theorem rm_0 {σ : sg_S} (h1 : sg_g σ 45 11 = 0) (h2 : sg_g σ 61 11 = 0) (h3 : sg_g σ 88 51 = 0) (h4 : sg_g σ 88 81 = 0) : rmN σ ∧ rmF σ := ⟨⟨by rw [h1, h3], Or.inl h3⟩, ⟨by rw [h2, h4], Or.inl h4⟩⟩
/-! The small calls of both sides keep the sixth state. -/
section LMC
variable {σ : sg_S}
theorem lm_c_fault (z : Value) (h : lwM σ) : wx z 0 13 0 [(0, .inr (.inr (.ref 0)))] [] σ (lwA (fun _ σ' => lwM σ')) := wk_post (w_cFault z σ) (by rintro v σ' ⟨rfl, rfl⟩; exact ⟨_, rfl, sg_Rg _ _ _, h⟩)
theorem lm_r_fault (z : Value) (h : lwM σ) : wx z 0 228 0 [(0, .inr (.inr (.ref 88)))] [] σ (lwA (fun _ σ' => lwM σ')) := by
  have hK := h.2
  replace h := h.1
  exact wk_post (w_fault z σ (fun _ σ' => lwI σ') (by
    unfold V_fault
    intro σ1 e1
    exact lwI_F h (L := [1088]) (by rw [e1]; exact sg_F_w (sg_F_r _ _) rfl _) rfl)) (by rintro v σ' ⟨q, e, r, f9, w⟩; exact ⟨q, e, r, w, lkM_F hK f9 rfl⟩)
theorem lm_v {j : Nat} {d : Nat} {ls : bm_L} {x : Int} (z : Value) (h : lwM σ) (w : wx z d j 0 ls [] σ (fun v σ' => v = some (.inl x) ∧ σ' = σ)) : wx z d j 0 ls [] σ (lwA (fun _ σ' => lwM σ')) := wk_rg (wk_post w (by rintro v σ' ⟨rfl, rfl⟩; exact ⟨⟨_, rfl⟩, h⟩))
theorem lm_c_about (z : Value) {a : Int} (ra : sg_R a) (h : lwM σ) : wx z 1 2 0 [(0, .inr (.inr (.ref 0))), (1, .inl (a))] [] σ (lwA (fun _ σ' => lwM σ')) := lm_v z h (w_cAbout z σ a ra)
theorem lm_c_node (z : Value) {a b : Int} (ra : sg_R a) (rb : sg_R b) (h : lwM σ) : wx z 1 20 0 [(0, .inr (.inr (.ref 0))), (1, .inl (a)), (2, .inl (b))] [] σ (lwA (fun _ σ' => lwM σ')) := lm_v z h (w_cNode z σ a b ra rb)
theorem lm_c_meter (z : Value) {a : Int} (ra : sg_R a) (h : lwM σ) : wx z 0 18 0 [(0, .inr (.inr (.ref 0))), (1, .inl (a))] [] σ (lwA (fun _ σ' => lwM σ')) := lm_v z h (w_cMeter z σ a ra)
theorem lm_c_shown (z : Value) {a : Int} (ra : sg_R a) (h : lwM σ) : wx z 0 24 0 [(0, .inr (.inr (.ref 0))), (1, .inl (a))] [] σ (lwA (fun _ σ' => lwM σ')) := lm_v z h (w_cShown z σ a ra)
theorem lm_r_about (z : Value) {a : Int} (ra : sg_R a) (h : lwM σ) : wx z 1 209 0 [(0, .inr (.inr (.ref 88))), (1, .inl a)] [] σ (lwA (fun _ σ' => lwM σ')) := by
  have hK := h.2
  replace h := h.1
  exact wk_post (w_about z σ a (fun _ σ' => lwI σ') ra (by
    unfold V_about
    intro σ1 e1
    have h1 := lw_1088 h e1
    exact ⟨fun _ => ⟨fun _ => ⟨fun y => ⟨fun _ => ⟨fun _ => ⟨(lw_root h.2.2.2.2.2.1 y).1, h1⟩, fun _ => h1⟩, fun _ => h1⟩, fun _ => h1⟩, fun _ => h1⟩, fun _ => h1⟩)) (by rintro v σ' ⟨q, e, r, f9, w⟩; exact ⟨q, e, r, w, lkM_F hK f9 rfl⟩)
theorem lm_r_node (z : Value) {a b : Int} (ra : sg_R a) (rb : sg_R b) (h : lwM σ) : wx z 1 295 0 [(0, .inr (.inr (.ref 88))), (1, .inl a), (2, .inl b)] [] σ (lwA (fun _ σ' => lwM σ')) := by
  have hK := h.2
  replace h := h.1
  exact wk_post (w_node z σ a b (fun _ σ' => lwI σ') ra rb (by
    unfold V_node
    intro σ1 e1
    have h1 := lw_1088 h e1
    refine ⟨fun y => ?_, fun _ => h1⟩
    have r := lw_root h.2.2.2.2.2.1 y
    have ii : ¬ v_in a 0 (sg_g σ 88 8 - 1) = 0 → 0 ≤ a ∧ a < 210 := fun w => by
      unfold v_in at w
      split at w
      · exact absurd rfl w
      · split at w
        · exact absurd rfl w
        · omega
    exact ⟨⟨by omega, by omega⟩, fun w => ⟨fun _ => ⟨fun _ => h1, fun _ => ⟨ii w, h1⟩⟩, fun _ => ⟨ii w, h1⟩⟩, fun _ => h1⟩)) (by rintro v σ' ⟨q, e, r, f9, w⟩; exact ⟨q, e, r, w, lkM_F hK f9 rfl⟩)
theorem lm_r_meter (z : Value) {a : Int} (ra : sg_R a) (h : lwM σ) : wx z 1 291 0 [(0, .inr (.inr (.ref 88))), (1, .inl a)] [] σ (lwA (fun _ σ' => lwM σ')) := by
  have hK := h.2
  replace h := h.1
  exact wk_post (w_meter z σ a (fun _ σ' => lwI σ') ra (by
    unfold V_meter
    intro σ1 e1
    have h1 := lw_1088 h e1
    exact ⟨fun _ => ⟨fun _ => ⟨fun _ => ⟨fun _ => ⟨fun _ => h1, fun _ => h1⟩, fun _ => h1⟩, fun _ => h1⟩, fun _ => ⟨fun _ => h1, fun _ => ⟨fun _ => ⟨fun _ => h1, fun _ => h1⟩, fun _ => ⟨fun _ => ⟨fun _ => h1, fun _ => h1⟩, fun _ => h1⟩⟩⟩⟩, fun _ => h1⟩)) (by rintro v σ' ⟨q, e, r, f9, w⟩; exact ⟨q, e, r, w, lkM_F hK f9 rfl⟩)
theorem lm_r_shown (z : Value) {a : Int} (ra : sg_R a) (h : lwM σ) : wx z 1 328 0 [(0, .inr (.inr (.ref 88))), (1, .inl a)] [] σ (lwA (fun _ σ' => lwM σ')) := by
  have hK := h.2
  replace h := h.1
  exact wk_post (w_shown z σ a (fun _ σ' => lwI σ') ra (by
    unfold V_shown
    intro σ1 e1
    have h1 := lw_1088 h e1
    exact ⟨fun _ => ⟨fun _ => h1, fun _ => h1⟩, fun _ => h1⟩)) (by rintro v σ' ⟨q, e, r, f9, w⟩; exact ⟨q, e, r, w, lkM_F hK f9 rfl⟩)
theorem lm_r_byteAt (z : Value) {a b : Int} (ra : sg_R a) (rb : sg_R b) (h : lwM σ) : wx z 1 215 0 [(0, .inr (.inr (.ref 88))), (1, .inl a), (2, .inl b)] [] σ (lwA (fun _ σ' => lwM σ')) := by
  have hK := h.2
  replace h := h.1
  exact wk_post (w_byteAt z σ a b (fun _ σ' => lwI σ') ra rb (by
    unfold V_byteAt
    intro σ1 e1
    have h1 := lw_1088 h e1
    have h76 := h.2.2.2.2.2.2.2.2.1
    have h77 := h.2.2.2.2.2.2.2.2.2
    refine ⟨fun _ v7 e7 r7 => ?_, fun _ => h1⟩
    have b7 : 0 ≤ v7 ∧ v7 ≤ 80000 := by rw [e7]; split <;> assumption
    refine ⟨⟨by omega, by omega⟩, fun _ => h1, fun w => ⟨fun _ => h1, fun w2 v15 e15 r15 => ?_⟩⟩
    have b0 : 0 ≤ b := by
      unfold v_in at w
      split at w
      · exact absurd rfl w
      · omega
    have b15 : v15 = 0 ∨ v15 = 80000 := by rw [e15]; split <;> simp
    exact ⟨⟨by omega, by omega⟩, ⟨by omega, by omega⟩, h1⟩)) (by rintro v σ' ⟨q, e, r, f9, w⟩; exact ⟨q, e, r, w, lkM_F hK f9 rfl⟩)
theorem lm_r_alike (z : Value) (h : lwM σ) : wx z 0 213 0 [(0, .inr (.inr (.ref 88)))] [] σ (lwA (fun _ σ' => lwM σ')) := by
  have hK := h.2
  replace h := h.1
  exact wk_post (w_alike z σ (fun _ σ' => lwI σ') (by
    unfold V_alike
    intro σ1 e1
    have h1 := lw_1088 h e1
    have h76 := h.2.2.2.2.2.2.2.2.1
    refine ⟨fun _ => h1, fun _ => ⟨fun _ => h1, fun _ => ⟨fun _ => h1, fun _ => ⟨fun _ => ⟨fun _ => ⟨fun _ => h1, fun _ => ⟨fun _ => h1, fun _ => h1⟩⟩, fun _ => ⟨fun _ v14 e14 r14 => ?_, fun _ => ⟨fun _ => h1, fun _ => ⟨fun _ => h1, fun _ => h1⟩⟩⟩⟩, fun _ => h1⟩⟩⟩⟩
    refine ⟨fun m v w => m = (80000 - w).toNat ∧ 0 ≤ w ∧ w ≤ 80000, fun _ => True, ⟨_, rfl, by omega, by omega⟩, ?_, fun v17 r17 _ => ⟨fun _ => h1, fun _ => h1⟩⟩
    rintro m v w rv rw' ⟨em, w1, w2⟩
    exact ⟨fun _ => trivial, fun y => ⟨fun _ => trivial, fun _ => ⟨⟨by omega, by omega⟩, ⟨by omega, by omega⟩, ⟨by omega, by omega⟩, fun v42 _ _ => ⟨⟨by omega, by omega⟩, _, by omega, rfl, by omega, by omega⟩⟩⟩⟩)) (by rintro v σ' ⟨q, e, r, f9, w⟩; exact ⟨q, e, r, w, lkM_F hK f9 rfl⟩)
theorem lm_c_byteAt (z : Value) {a b : Int} (ra : sg_R a) (rb : sg_R b) (h : lwM σ) : wx z 1 8 0 [(0, .inr (.inr (.ref 0))), (1, .inl a), (2, .inl b)] [] σ (lwA (fun _ σ' => lwM σ')) := by
  have hK := h.2
  replace h := h.1
  exact wk_post (w_cByteAt z σ a b (fun _ σ' => lwI σ') ra rb (by
    unfold V_cByteAt
    have p1 : p_cAt51 σ b := ⟨fun _ => trivial, fun y => ⟨fun _ => trivial, fun y2 => ⟨⟨y, y2⟩, trivial⟩⟩⟩
    have p2 : p_cAt67 σ b := ⟨fun _ => trivial, fun y => ⟨fun _ => trivial, fun y2 => ⟨⟨y, y2⟩, trivial⟩⟩⟩
    exact ⟨fun _ => ⟨fun _ => h, fun _ => ⟨fun _ => ⟨fun _ => h, fun _ v5 _ _ => ⟨fun _ => ⟨p1, h⟩, fun _ => h⟩⟩, fun _ => h⟩⟩, fun _ => ⟨fun _ => h, fun _ => ⟨fun _ => ⟨fun _ => h, fun _ v5 _ _ => ⟨fun _ => ⟨p2, h⟩, fun _ => h⟩⟩, fun _ => h⟩⟩⟩)) (by rintro v σ' ⟨q, e, r, f9, w⟩; exact ⟨q, e, r, w, by rw [← f9]; exact hK⟩)
theorem lm_c_alike (z : Value) (h : lwM σ) : wx z 2 3 0 [(0, .inr (.inr (.ref 0)))] [] σ (lwA (fun _ σ' => lwM σ')) := by
  have hK := h.2
  replace h := h.1
  exact wk_post (w_cAlike z σ (fun _ σ' => lwI σ') (by
    have sm : ∀ R : Int → sg_S → Prop, R 0 σ → R 1 σ → V_iSame4965 σ R := fun R r0 r1 => by
      unfold V_iSame4965
      have r := sg_Rg σ 49 2
      refine ⟨fun _ => ⟨fun m v => m = (2147483647 - v).toNat ∧ 0 ≤ v, True, ⟨_, rfl, by omega⟩, ?_, fun _ => r1⟩, fun _ => r0⟩
      rintro m v rv ⟨em, v0⟩
      exact ⟨fun _ => trivial, fun y => ⟨fun _ => ⟨⟨by omega, by have := r.2; omega⟩, _, by have := r.2; omega, rfl, by omega⟩, fun _ => r0⟩⟩
    unfold V_cAlike
    have s1 : ∀ (P : Prop), V_iSame4965 σ (fun q8 _ => (q8 = 0 ∨ q8 = 1) → ((q8 = 0 → lwI σ) ∧ (¬ q8 = 0 → lwI σ))) := fun _ => sm _ (fun _ => ⟨fun _ => h, fun _ => h⟩) (fun _ => ⟨fun _ => h, fun _ => h⟩)
    exact ⟨fun _ => h, fun _ => ⟨fun _ => h, fun _ => ⟨fun _ => h, fun _ => ⟨fun _ => ⟨fun _ => ⟨fun _ => h, fun _ => ⟨fun _ => s1 True, fun _ => h⟩⟩, fun _ => ⟨fun _ => ⟨fun _ => h, fun _ => ⟨fun _ => s1 True, fun _ => h⟩⟩, fun _ => h⟩⟩, fun _ => h⟩⟩⟩⟩)) (by rintro v σ' ⟨q, e, r, f9, w⟩; exact ⟨q, e, r, w, by rw [← f9]; exact hK⟩)
end LMC
/-! feed, cut, read of both sides keep the sixth state. -/
abbrev lwP6 (z : Value) (d1 j1 : Nat) (l1 : bm_L) (d2 j2 : Nat) (l2 : bm_L) (σ : sg_S) (R : Int → Int → Prop) : Prop := wx z d1 j1 0 l1 [] σ (lwA (fun q σ1 => wx z d2 j2 0 l2 [] σ1 (lwA (fun q' σ2 => R q q' ∧ lwM σ2))))
theorem lm_feed (z : Value) {σ : sg_S} {a : Int} (ra : sg_RL a) (h : lwM σ) : lwP6 z 1 14 [(0, .inr (.inr (.ref 0))), (1, .inr (.inl a))] 0 229 [(0, .inr (.inr (.ref 88))), (1, .inr (.inl a))] σ (fun q q' => q' = q) := by
  have hK := h.2
  replace h := h.1
  obtain ⟨n, hn, h1, h2⟩ := bt_n a
  obtain ⟨a1, a2, a3, -⟩ := id h
  refine wk_post (w_cFeed z σ a (fun q σ1 => wx z 0 229 0 [(0, .inr (.inr (.ref 88))), (1, .inr (.inl a))] [] σ1 (lwA (fun q' σ2 => q' = q ∧ lwM σ2))) ra (c_feed hn h1 h2 a1 (fun hb => ?_) (fun hb σ1 f1 e8 o1 o2 => ?_))) (by rintro v σ' ⟨q, e, r, -, w⟩; exact ⟨q, e, r, w⟩)
  · refine wk_post (w_feed z σ a (fun q' σ2 => q' = -3 ∧ lwI σ2) ra (q_feed hn h1 h2 (by rw [a2]; exact a1) (fun _ σ2 f => ⟨rfl, lwI_F h f rfl⟩) (fun hc => absurd hc (by rw [a2]; omega)))) (by rintro v σ' ⟨q, e, r, f9, w⟩; exact ⟨q, e, r, w.1, w.2, lkM_F hK f9 rfl⟩)
  · have e2 : sg_g σ1 88 2 = sg_g σ 0 8 := by rw [sg_F_g f1 (by rfl)]; exact a2
    refine wk_post (w_feed z σ1 a (fun q' σ2 => q' = sg_g σ 0 8 + n ∧ lwI σ2) ra (q_feed hn h1 h2 (by rw [e2]; exact a1) (fun hc => absurd hc (by rw [e2]; omega)) (fun _ σ2 f2 g1 g2 g3 => ⟨by rw [e2], ?_⟩))) (by rintro v σ' ⟨q, e, r, f9, w⟩; exact ⟨q, e, r, w.1, w.2, lkM_F (lkM_F hK f1 rfl) f9 rfl⟩)
    have F : sg_F [1, 89, 9000, 1088, 3088] σ σ2 := sg_F_t (sg_F_m f1 rfl) (sg_F_m f2 rfl)
    have e8' : sg_g σ2 0 8 = sg_g σ 0 8 + n := by rw [sg_F_g f2 (by rfl)]; exact e8
    have tt : ∀ p, tb σ2 p = tb σ1 p := fun p => by unfold tb; rw [sg_F_ga f2 rfl]
    refine lw_tape h F rfl rfl rfl ⟨by omega, by omega⟩ (by rw [g1, e2, e8']) (fun p p0 p1 => ?_)
    rw [tt]
    by_cases c : p < sg_g σ 0 8
    · rw [g2 p (by rw [e2]; exact c), sg_F_ga f1 rfl, o1 p c]
      exact a3 p p0 c
    · obtain ⟨k, ek⟩ : ∃ k : Nat, p = sg_g σ 0 8 + k := ⟨(p - sg_g σ 0 8).toNat, by omega⟩
      have kn : k < n := by omega
      have u := g3 k kn
      rw [e2, ← ek] at u
      rw [u, ek, o2 k kn]
theorem lm_cut (z : Value) {σ : sg_S} {a : Int} (ra : sg_R a) (h : lwM σ) : lwP6 z 0 11 [(0, .inr (.inr (.ref 0))), (1, .inl a)] 1 219 [(0, .inr (.inr (.ref 88))), (1, .inl a)] σ (fun q q' => q' = q) := by
  have hK := h.2
  replace h := h.1
  obtain ⟨a1, a2, a3, -⟩ := id h
  have no : v_in a 0 (sg_g σ 88 2) = 0 → wx z 1 219 0 [(0, .inr (.inr (.ref 88))), (1, .inl a)] [] σ (lwA (fun q' σ2 => q' = -2 ∧ lwM σ2)) := fun hv => by
    refine wk_post (w_cut z σ a (fun q' σ2 => q' = -2 ∧ lwI σ2) ra ?_) (by rintro v σ' ⟨q, e, r, f9, w⟩; exact ⟨q, e, r, w.1, w.2, lkM_F hK f9 rfl⟩)
    unfold V_cut
    intro σ1 e1
    exact ⟨fun y => absurd hv y, fun _ => ⟨rfl, lw_1088 h e1⟩⟩
  refine wk_post (w_cCut z σ a (fun q σ1 => wx z 1 219 0 [(0, .inr (.inr (.ref 88))), (1, .inl a)] [] σ1 (lwA (fun q' σ2 => q' = q ∧ lwM σ2))) ra ?_) (by rintro v σ' ⟨q, e, r, -, w⟩; exact ⟨q, e, r, w⟩)
  unfold V_cCut
  refine ⟨fun y => no (by unfold v_in; rw [if_pos y]), fun y => ⟨fun y2 => ⟨⟨by omega, by omega⟩, fun σ4 e4 => ?_⟩, fun y2 => no (by unfold v_in; rw [if_neg (by omega), if_pos (by omega)])⟩⟩
  have f4 : sg_F [9000] σ σ4 := by rw [e4]; exact sg_F_w (sg_F_r _ _) rfl _
  have g2 : sg_g σ4 88 2 = sg_g σ 0 8 := by rw [sg_F_g f4 (by rfl)]; exact a2
  have g8 : sg_g σ4 0 8 = a := by rw [e4, sg_gw_e _ _ _ _ ra]
  refine wk_post (w_cut z σ4 a (fun q' σ2 => q' = sg_g σ 0 8 - a ∧ lwI σ2) ra ?_) (by rintro v σ' ⟨q, e, r, f9, w⟩; exact ⟨q, e, r, w.1, w.2, lkM_F (lkM_F hK f4 rfl) f9 rfl⟩)
  unfold V_cut
  rw [g2]
  refine fun σ1 e1 => ⟨fun _ => ⟨⟨by omega, by omega⟩, fun σ6 e6 => ⟨rfl, ?_⟩⟩, fun y3 => absurd y3 (by unfold v_in; rw [if_neg (by omega), if_neg (by omega)]; decide)⟩
  have f6 : sg_F [1088, 3088] σ4 σ6 := by rw [e6, e1]; exact sg_F_w (sg_F_w (sg_F_r _ _) rfl _) rfl _
  have F : sg_F [9000, 1088, 3088] σ σ6 := sg_F_t (sg_F_m f4 rfl) (sg_F_m f6 rfl)
  have k8 : sg_g σ6 0 8 = a := by rw [sg_F_g f6 (by rfl)]; exact g8
  refine lw_tape h F rfl rfl rfl ⟨by omega, by omega⟩ (by rw [e6, sg_gw_e _ _ _ _ ra, ← e6, k8]) (fun p p0 p1 => ?_)
  have t1 : tb σ6 p = tb σ p := by unfold tb; rw [sg_F_ga F rfl]
  rw [t1, sg_F_ga F rfl]
  exact a3 p p0 (by omega)
theorem lm_of (z : Value) {σ : sg_S} {d1 j1 d2 j2 : Nat} {l1 l2 : bm_L} (h1 : wx z d1 j1 0 l1 [] σ (lwA (fun _ σ' => lwM σ'))) (h2 : ∀ σ1, lwM σ1 → wx z d2 j2 0 l2 [] σ1 (lwA (fun _ σ' => lwM σ'))) : lwP6 z d1 j1 l1 d2 j2 l2 σ (fun _ _ => True) :=
  wk_post h1 (by rintro v σ' ⟨q, e, r, w⟩; exact ⟨q, e, r, wk_post (h2 σ' w) (by rintro v2 σ2 ⟨q2, e2, r2, w2⟩; exact ⟨q2, e2, r2, trivial, w2⟩)⟩)
theorem lm_read (z : Value) {σ : sg_S} (h : lwM σ) : lwP6 z 895 23 [(0, .inr (.inr (.ref 0)))] 10 310 [(0, .inr (.inr (.ref 88)))] σ (fun _ _ => True) := by
  obtain ⟨a1, a2, a3, a4, a5, a6, a7, a8, a9, a10⟩ := h.1
  have hC := h.2.1.2.1
  obtain ⟨c, ec⟩ : ∃ c : tkC, c = (tb σ, sg_g σ 0 8, sg_gl σ 37, (sg_gl σ 36 7, sg_g σ 36 6)) := ⟨_, rfl⟩
  have c1 : tb σ = c.1 := by rw [ec]
  have c2 : sg_g σ 0 8 = c.2.1 := by rw [ec]
  have c3 : sg_gl σ 37 = c.2.2.1 := by rw [ec]
  have c4 : (sg_gl σ 36 7, sg_g σ 36 6) = c.2.2.2 := by rw [ec]
  have hok : tkOK c := ⟨by rw [← c2]; exact a1.1, by rw [← c2]; exact a1.2, fun p => by rw [← c1]; exact tb_r σ p⟩
  have hb : bY c σ := ⟨hok, by rw [← c2]; exact a2, fun p p0 p1 => by rw [← c1]; exact a3 p p0 (by rw [c2]; exact p1)⟩
  have hr : rsv c.2.2.1 := by rw [← c3]; exact a4
  obtain ⟨t, N, hB, hV⟩ := tk_ex hb hr
  have r4 := w_cRead z σ (fun _ σ' => sg_g σ' 45 11 = 0 ∧ sg_g σ' 61 11 = 0) (c_readR hB hV c1 c3 c2 c4 (fun _ _ a b => ⟨a, b⟩))
  refine wk_post (wk_and r4 (cr8 z σ hB hV c1 c3 c2 c4)) ?_
  rintro v σ1 ⟨⟨⟨q, e, rq, f1, hR⟩, hLk⟩, v4, σ4, ⟨_, _, _, _, u45, u61⟩, H4⟩
  refine ⟨q, e, rq, ?_⟩
  have w45 : sg_g σ4 45 ((11 : Nat) : Int) = sg_g σ1 45 ((11 : Nat) : Int) := sgH_fd (a := 45) (k := 11) rfl rfl H4
  have w61 : sg_g σ4 61 ((11 : Nat) : Int) = sg_g σ1 61 ((11 : Nat) : Int) := sgH_fd (a := 61) (k := 11) rfl rfl H4
  rw [show ((11 : Nat) : Int) = 11 from rfl] at w45 w61
  rw [w45] at u45
  rw [w61] at u61
  have b1 : bY c σ1 := ⟨hok, by rw [sg_F_g f1 (by rfl)]; exact hb.2.1, fun p p0 p1 => by rw [sg_F_ga f1 rfl]; exact hb.2.2 p p0 p1⟩
  have rC := w_readW z σ1 (fun _ σ2 => ¬ accP t N ∨ ∃ t' N' A D r C, tkB c t' N' ∧ aPg t' N' aE0 = some (A, D, r) ∧ sg_g σ2 116 = kPC A D r C) (q_readC b1 hr (fun t' N' q' σ2 hB' hV' na _ _ => Or.inl (fun y => na ((accP_eq hB hV hB' hV' c1 c3 c2 c4).mp y))) (fun t' N' A D r q' σ2 hB' _ _ hp _ _ _ hk _ _ => by
    obtain ⟨T, C, -, hC⟩ := hk
    exact Or.inr ⟨t', N', A, D, r, C, hB', hp, hC⟩))
  refine wk_post (wk_and rC (w_readW z σ1 (fun _ σ2 => ((¬ accP t N ∧ sg_g σ2 88 28 = 0 ∧ sg_g σ2 88 2 = sg_g σ1 88 2) ∨ (accP t N ∧ sg_g σ2 88 2 = 0 ∧ rfR σ2 ∧ lkS8 c σ2)) ∧ (sg_g σ2 88 51 = 0 ∧ sg_g σ2 88 81 = 0)) (q_readR b1 hr ?_ ?_))) ?_
  · intro t' N' q' σ2 hB' hV' na g28 g2 gr
    exact ⟨Or.inl ⟨fun y => na ((accP_eq hB hV hB' hV' c1 c3 c2 c4).mp y), g28, g2⟩, gr⟩
  · rintro t' N' A D r q' σ2 hB' hV' ya hp tr df g27 ⟨T, B, hk, hBo⟩ g28 g2 gr
    have p1 := t_pg hp ⟨Int.le_refl _, by decide⟩
    have p2 := t_pg2 hp ⟨Int.le_refl _, by decide⟩ rfl
    obtain ⟨L, x1, x2, x3, -⟩ := id p2
    have ty := tyP (T2 := sg_g σ2 101) (B2 := sg_g σ2 102) D [] 0 T (sg_g σ2 101) B L x1 x2 x3 (fun d hd => by simp at hd) (fun c hc => by simp at hc) (fun x hx => (p1.1 x hx).2.1) hk (fun _ _ => rfl) (fun x _ => congrFun hBo x) (fun c hc => by simp at hc)
    have hX : pgX σ2 A D (sg_g σ2 101) (sg_g σ2 102) := ⟨tr, df, fun _ => rfl, fun _ => rfl, p1.2.2.2.2, fun j x hj => by
      have w := (ty.1 j x hj).1
      rw [Nat.zero_add] at w
      exact w⟩
    exact ⟨Or.inr ⟨(accP_eq hB hV hB' hV' c1 c3 c2 c4).mpr ya, g2, Or.inr ⟨g28, A, D, r, hX, g27, ty.2, p2⟩, t', N', A, D, r, T, B, hB', hV', hp, tr, df, g27, hk, g28, hBo, hX, ty.2⟩, gr⟩
  · rintro v' σ2 ⟨⟨q', e', rq', f2, hQ, gr⟩, vC, σC, ⟨_, _, _, _, w116⟩, HC⟩
    refine ⟨q', e', rq', trivial, ?_⟩
    have rs2 : rmN σ2 ∧ rmF σ2 := rm_0 (by rw [sg_F_g f2 (by rfl)]; exact u45) (by rw [sg_F_g f2 (by rfl)]; exact u61) gr.1 gr.2
    have e37 : sg_gl σ2 37 = sg_gl σ 37 := funext fun x => by rw [sg_F_gal f2 rfl, sg_F_gal f1 rfl]
    have k8 : sg_g σ2 0 8 = sg_g σ1 0 8 := sg_F_g f2 (by rfl)
    have k10 : sg_g σ2 0 10 = sg_g σ1 0 10 := sg_F_g f2 (by rfl)
    have rest : ((0 ≤ sg_g σ2 88 52 ∧ sg_g σ2 88 52 ≤ 20) ∧ (0 ≤ sg_g σ2 88 82 ∧ sg_g σ2 88 82 ≤ 20) ∧ (0 ≤ sg_g σ2 88 76 ∧ sg_g σ2 88 76 ≤ 80000) ∧ (0 ≤ sg_g σ2 88 77 ∧ sg_g σ2 88 77 ≤ 80000)) := by
      rw [sg_F_g f2 (a := 88) (k := 52) (by rfl), sg_F_g f2 (a := 88) (k := 82) (by rfl), sg_F_g f2 (a := 88) (k := 76) (by rfl), sg_F_g f2 (a := 88) (k := 77) (by rfl), sg_F_g f1 (a := 88) (k := 52) (by rfl), sg_F_g f1 (a := 88) (k := 82) (by rfl), sg_F_g f1 (a := 88) (k := 76) (by rfl), sg_F_g f1 (a := 88) (k := 77) (by rfl)]
      exact ⟨a7, a8, a9, a10⟩
    have hC2 : sg_g σ2 0 11 = sg_g σ2 88 52 ∧ sg_g σ2 0 12 = sg_g σ2 88 82 := by
      rw [sg_F_g f2 (a := 0) (k := 11) (by rfl), sg_F_g f2 (a := 88) (k := 52) (by rfl), sg_F_g f1 (a := 0) (k := 11) (by rfl), sg_F_g f1 (a := 88) (k := 52) (by rfl), sg_F_g f2 (a := 0) (k := 12) (by rfl), sg_F_g f2 (a := 88) (k := 82) (by rfl), sg_F_g f1 (a := 0) (k := 12) (by rfl), sg_F_g f1 (a := 88) (k := 82) (by rfl)]
      exact hC
    rcases hR with ⟨n1, n2, n3⟩ | ⟨n1, n2, n3, A1, D1, q1, n4, n5⟩
    · rcases hQ with ⟨-, m2, m3⟩ | ⟨m1, -, -, -⟩
      · refine ⟨?_, ⟨⟨by rw [k10, n2, m2], Or.inl m2⟩, hC2, Or.inl m2⟩, rs2⟩
        refine ⟨by rw [k8, n3]; exact a1, by rw [m3, k8, n3, sg_F_g f1 (by rfl)]; exact a2, fun p p0 p1 => ?_, by rw [e37]; exact a4, Or.inl (by rw [k10]; exact n2), Or.inl m2, rest⟩
        rw [k8, n3] at p1
        have t1 : tb σ2 p = tb σ p := by unfold tb; rw [sg_F_ga f2 rfl, sg_F_ga f1 rfl]
        rw [t1, sg_F_ga f2 rfl, sg_F_ga f1 rfl]
        exact a3 p p0 p1
      · exact absurd m1 n1
    · rcases hQ with ⟨m1, -⟩ | ⟨-, m2, m3, m4⟩
      · exact absurd n1 m1
      · have n10 : ¬ sg_g σ1 0 10 = 0 := by rw [n2]; decide
        refine ⟨?_, ⟨lkS_of (lkS8_lk m4) f2 n2 (fun t' N' b1 b2 => (hLk t' N' b1 b2).resolve_left n10), hC2, Or.inr ?_⟩, rs2⟩
        rotate_left
        · obtain ⟨t2, N2, A, D, r, T, B, s1, s2, s3, s4, s5, s6, s7, s8, s9, s10, s11⟩ := m4
          have e := pg_same hB s1 aE0
          rw [n4, s3] at e
          cases e
          obtain ⟨t3, N3, A3, D3, r3, C3, p1, p2, p3⟩ := w116.resolve_left (fun w => w n1)
          have e3 := pg_same hB p1 aE0
          rw [n4, p2] at e3
          cases e3
          have C2 := clR_F n5 f2 rfl
          refine ⟨_, _, _, C2, s10, s6, s11, ⟨B, fun x _ _ => congrFun s9 x⟩, fun n z1 z2 => ?_, C3, fun x hx => (sgH_row (a := 116) rfl HC x hx).symm.trans (congrFun p3 x)⟩
          obtain ⟨-, -, ⟨L, x1, x2, x3, x4⟩, -, ⟨T1, Tf, u1, u2⟩, -⟩ := C2
          rw [u2 n z1]
          exact kPg_e2 x1 u1 s7 n (x4 n z1 z2)
        refine ⟨by rw [k8, n3]; decide, by rw [m2, k8, n3], fun p p0 p1 => ?_, by rw [e37]; exact a4, Or.inr ⟨by rw [k10]; exact n2, flR_F (clR_fl n5) f2 rfl⟩, m3, rest⟩
        rw [k8, n3] at p1
        omega
/-! nested of both sides, with its meters. -/
/-- WORK and SPAN of a nested run -/
def k4W : eR → Int
  | .inl (_, w) => w
  | .inr (_, w, _) => w
def k4S : eR → Int
  | .inl _ => 0
  | .inr (_, _, s, _) => s
set_option maxRecDepth 10000 in
/-- the class's run -/
theorem cN10 {σ : sg_S} {A : aT} {D : List aDf} {k : Int} {B B0 : Int → Int} {Q : Int → sg_S → Prop} (h : clR σ A D k) (hB : ∀ x, 0 ≤ x → x < A.1 → B x = kPB A D k B0 x) (kk : ∀ σ', sg_g σ' 45 11 = 1 → sg_g σ' 45 10 = ansF (evN A (sg_g σ 6) B (eC A D (sg_g σ 6) B D.length) 201 k (fun _ => nmF 0) 0) → sg_g σ' 45 22 = k4W (evN A (sg_g σ 6) B (eC A D (sg_g σ 6) B D.length) 201 k (fun _ => nmF 0) 0) → (ansF (evN A (sg_g σ 6) B (eC A D (sg_g σ 6) B D.length) 201 k (fun _ => nmF 0) 0) = 0 → sg_g σ' 45 23 = k4S (evN A (sg_g σ 6) B (eC A D (sg_g σ 6) B D.length) 201 k (fun _ => nmF 0) 0)) → Q (ansF (evN A (sg_g σ 6) B (eC A D (sg_g σ 6) B D.length) 201 k (fun _ => nmF 0) 0)) σ') : V_mnRun σ (sg_g σ 6 k) Q := by
  obtain ⟨b2, b3, b4, b5, ⟨T, Tf, t1, t2⟩, b6, b7, b8, b9, b10⟩ := h
  obtain ⟨a1, a2, a3, a4⟩ := asm8 b2 b3 b4 b5 t1 t2 b6 b7 b8 b9 hB
  have ht : 0 ≤ sg_g σ 6 k ∧ sg_g σ 6 k ≤ 3 := by
    obtain ⟨L, ds, sc, -, -, -, -, ty, -⟩ := a2
    exact ty.2.2.1
  refine n_run (B := B) b2 a4 (fun b hb => hb) a1 a2 a3 ?_
  rw [Int.toNat_natCast]
  generalize evN A (sg_g σ 6) B (eC A D (sg_g σ 6) B D.length) 201 k (fun _ => nmF 0) 0 = r at kk
  match r, kk with
  | .inl (e, w'), kk =>
    intro σ8 _ e10 e0 e22
    refine n_concE (fun z => e0 (e10.symm.trans z)) (fun σ23 f23 g11 _ => ?_)
    rw [e10]
    exact kk σ23 g11 (by rw [sg_F_g f23 (by rfl)]; exact e10) (by rw [sg_F_g f23 (by rfl)]; exact e22) (fun q => absurd q e0)
  | .inr (v, w', s', ρ'), kk =>
    rintro σ8 _ ⟨e10, e22, e23, e7⟩ e20 hv
    have hl : (imF (sg_g σ 6 k).toNat v).length ≤ 3001 := by
      have c := imF_c (sg_g σ 6 k).toNat v
      have c3 : cnvF (sg_g σ 6 k).toNat v ≤ 3000 := by
        generalize (sg_g σ 6 k).toNat = d at hv
        cases d with
        | zero => simp only [cnvF]; decide
        | succ d => exact hv.2.2.1
      omega
    refine n_concX (K := (sg_g σ 6 k).toNat) (v := v) (by omega) (by omega) e10 e7 e20.2 hv hl (fun σ23 f23 g11 gs _ => ?_)
    rw [e10]
    exact kk σ23 g11 (by rw [sg_F_g f23 (by rfl)]; exact e10) (by rw [sg_F_g f23 (by rfl)]; exact e22) (fun _ => by rw [sg_F_g f23 (by rfl)]; exact e23)
set_option maxRecDepth 10000 in
theorem lm_nested (z : Value) {σ : sg_S} (h : lwM σ) : lwP6 z 9 19 [(0, .inr (.inr (.ref 0)))] 6 292 [(0, .inr (.inr (.ref 88)))] σ (fun q q' => q' = q) := by
  obtain ⟨hI, ⟨hR, ⟨hC, hC12⟩, hY⟩, hN, hF⟩ := id h
  have h52 := hI.2.2.2.2.2.2.1
  -- the reference's run, once the class has run
  have ref : ∀ (σ1 : sg_S) (a : Int), sg_F nqL σ σ1 → ((sg_g σ 88 28 = 0 ∧ a = -4 ∧ σ1 = σ) ∨ (¬ sg_g σ 88 28 = 0 ∧ sg_g σ 88 52 = 20 ∧ a = -3 ∧ σ1 = σ) ∨ (¬ sg_g σ 88 28 = 0 ∧ ¬ sg_g σ 88 52 = 20 ∧ sg_g σ1 0 11 = sg_g σ 0 11 + 1 ∧ ∃ A D k, pgX σ A D (sg_g σ 101) (sg_g σ 102) ∧ sg_g σ 88 27 = k ∧ tyN A (kDl D []) (sg_g σ 101) (sg_g σ 102) 201 [] k ∧ a = ansF (evN A (sg_g σ 101) (sg_g σ 102) (eC A D (sg_g σ 101) (sg_g σ 102) D.length) 201 k (fun _ => nmF 0) 0) ∧ sg_g σ1 45 11 = 1 ∧ sg_g σ1 45 10 = a ∧ sg_g σ1 45 22 = k4W (evN A (sg_g σ 101) (sg_g σ 102) (eC A D (sg_g σ 101) (sg_g σ 102) D.length) 201 k (fun _ => nmF 0) 0) ∧ (a = 0 → sg_g σ1 45 23 = k4S (evN A (sg_g σ 101) (sg_g σ 102) (eC A D (sg_g σ 101) (sg_g σ 102) D.length) 201 k (fun _ => nmF 0) 0)))) → wx z 6 292 0 [(0, .inr (.inr (.ref 88)))] [] σ1 (lwA (fun q' σ2 => q' = a ∧ lwM σ2)) := fun σ1 a f1 hc => by
    have I1 : lwI σ1 := lwI_F hI f1 rfl
    have R1 : lkR σ1 := lkR_F hR f1 rfl
    have F1 : rmF σ1 := rmF_G hF f1 rfl
    have Y1 : sg_g σ1 88 28 = 0 ∨ lyX σ1 := by
      rw [sg_F_g f1 (by rfl)]
      exact hY.imp id (fun w => lyX_F w f1 rfl)
    have e52 : sg_g σ1 88 52 = sg_g σ 88 52 := sg_F_g f1 (by rfl)
    have e28 : sg_g σ1 88 28 = sg_g σ 88 28 := sg_F_g f1 (by rfl)
    have e27 : sg_g σ1 88 27 = sg_g σ 88 27 := sg_F_g f1 (by rfl)
    have e101 : sg_g σ1 101 = sg_g σ 101 := funext fun x => sg_F_ga f1 rfl
    -- what the end keeps
    have fin : ∀ σ2, sg_F nwL σ1 σ2 → sg_g σ1 0 11 = sg_g σ2 88 52 → (0 ≤ sg_g σ2 88 52 ∧ sg_g σ2 88 52 ≤ 20) → (0 ≤ sg_g σ2 88 76 ∧ sg_g σ2 88 76 ≤ 80000) → rmN σ2 → lwM σ2 := fun σ2 f g1 b1 b2 gN => by
      obtain ⟨a1, c2, c3, c4, c5, c6, a7, a8, a9, a10⟩ := I1
      have e37 : sg_gl σ2 37 = sg_gl σ1 37 := funext fun x => sg_F_gal f rfl
      refine ⟨⟨by rw [sg_F_g f (by rfl)]; exact a1, by rw [sg_F_g f (by rfl), sg_F_g f (by rfl)]; exact c2, fun p z1 z2 => ?_, by rw [e37]; exact c4, ?_, rfR_F c6 f rfl rfl rfl rfl rfl, b1, by rw [sg_F_g f (by rfl)]; exact a8, b2, by rw [sg_F_g f (by rfl)]; exact a10⟩, ⟨lkR_F R1 f rfl, ⟨by rw [sg_F_g f (by rfl)]; exact g1, by rw [sg_F_g f (a := 0) (k := 12) (by rfl), sg_F_g f (a := 88) (k := 82) (by rfl), sg_F_g f1 (a := 0) (k := 12) (by rfl), sg_F_g f1 (a := 88) (k := 82) (by rfl)]; exact hC12⟩, ?_⟩, gN, rmF_G F1 f rfl⟩
      · rw [sg_F_g f (by rfl)] at z2
        rw [sg_F_ga f rfl, c3 p z1 z2]
        unfold tb
        rw [sg_F_ga f rfl]
      · rw [sg_F_g f (by rfl)]
        rcases c5 with q | ⟨q1, q2⟩
        · exact Or.inl q
        · exact Or.inr ⟨q1, flR_F q2 f rfl⟩
      · rw [sg_F_g f (by rfl)]
        exact Y1.imp id (fun w => lyX_F w f rfl)
    have b76 := I1.2.2.2.2.2.2.2.2.1
    rcases hc with ⟨h28, rfl, es⟩ | ⟨h28, h20, rfl, es⟩ | ⟨h28, h20, h11, A, D, k, hX, hk, hr, rfl, g11, g10, g22, g23⟩
    · rw [es]
      refine wk_post (w_nested z σ (fun q' σ2 => q' = -4 ∧ lwM σ2) (x_nested (A := aE0) (D := []) (T := fun _ => 0) (B := fun _ => 0) (r := 0) (fun _ σ2 e2 => ⟨rfl, ?_⟩) (fun q => absurd h28 q) (fun q => absurd h28 q) h52 (fun q => absurd h28 q))) (by rintro v σ' ⟨q, e, r, -, w⟩; exact ⟨q, e, r, w⟩)
      have f2 : sg_F [1088] σ σ2 := by rw [e2]; exact sg_F_w (sg_F_r _ _) rfl _
      exact ⟨lwI_F hI f2 rfl, lkM_F h.2 f2 rfl⟩
    · rw [es]
      obtain ⟨A, D, k, y1, y2, y3, y4, y5, y6, -⟩ := hY.resolve_left h28
      refine wk_post (w_nested z σ (fun q' σ2 => q' = -3 ∧ lwM σ2) (x_nested (A := A) (D := D) (T := sg_g σ 101) (B := sg_g σ 102) (r := k) (fun q => absurd q h28) (fun _ _ σ2 e2 => ⟨rfl, ?_⟩) (fun _ => ⟨y2, y3, y4⟩) h52 (fun _ q => absurd h20 q))) (by rintro v σ' ⟨q, e, r, -, w⟩; exact ⟨q, e, r, w⟩)
      have f2 : sg_F [1088] σ σ2 := by rw [e2]; exact sg_F_w (sg_F_r _ _) rfl _
      exact ⟨lwI_F hI f2 rfl, lkM_F h.2 f2 rfl⟩
    · have hX1 : pgX σ1 A D (sg_g σ 101) (sg_g σ 102) := pgX_F f1 rfl hX
      refine wk_post (w_nested z σ1 (fun q' σ2 => q' = ansF (evN A (sg_g σ 101) (sg_g σ 102) (eC A D (sg_g σ 101) (sg_g σ 102) D.length) 201 k (fun _ => nmF 0) 0) ∧ lwM σ2) (x_nested (A := A) (D := D) (T := sg_g σ 101) (B := sg_g σ 102) (r := k) (fun q => absurd (e28.symm.trans q) h28) (fun _ q => absurd (e52.symm.trans q) h20) (fun _ => ⟨hX1, e27.trans hk, hr⟩) (by rw [e52]; exact h52) (fun _ _ => ?_))) (by rintro v σ' ⟨q, e, r, -, w⟩; exact ⟨q, e, r, w⟩)
      have kin := hr.2.2.1
      have kr := hr.2.1
      have hA := hX.2.2.2.2.1
      have s50 : ∀ σ37 σ50 σ54, sg_F nsL σ1 σ37 → σ50 = sg_w σ37 88 53 (sg_g σ37 88 73) → sg_F shL σ50 σ54 → sg_g σ37 88 52 = sg_g σ1 88 52 + 1 → (0 ≤ sg_g σ54 88 76 ∧ sg_g σ54 88 76 ≤ 80000) → rmN σ54 → lwM σ54 := fun σ37 σ50 σ54 f37 e50 f54 g52 b gN => by
        have f50 : sg_F [54088] σ37 σ50 := by rw [e50]; exact sg_F_w (sg_F_r _ _) rfl _
        have F : sg_F nwL σ1 σ54 := sg_F_t (sg_F_m f37 rfl) (sg_F_t (sg_F_m f50 rfl) (sg_F_m f54 rfl))
        have e : sg_g σ54 88 52 = sg_g σ 88 52 + 1 := by rw [sg_F_g f54 (by rfl), sg_F_g f50 (by rfl), g52, e52]
        exact fin σ54 F (by rw [h11, hC, e]) (by rw [e]; omega) b gN
      have hJ : ∀ v w' s' ρ', evN A (sg_g σ 101) (sg_g σ 102) (eC A D (sg_g σ 101) (sg_g σ 102) D.length) 201 k (fun _ => nmF 0) 0 = .inr (v, w', s', ρ') → cnvF (sg_g σ 101 k).toNat v ≤ 3000 := fun v w' s' ρ' e => ev_J hX.2.2.2.2.1 (fun j x hx => (hX.2.1.2.2 j x hx).2.2.2.2.1) hX.2.2.2.2.2 hr e
      generalize evN A (sg_g σ 101) (sg_g σ 102) (eC A D (sg_g σ 101) (sg_g σ 102) D.length) 201 k (fun _ => nmF 0) 0 = r at g10 g22 g23 hJ
      match r, g10, g22, g23, hJ with
      | .inl (e, w'), g10, g22, _, _ =>
        intro σ37 σ50 f37 g73 g0 g54 g52 g51 e50
        have f50 : sg_F [54088] σ37 σ50 := by rw [e50]; exact sg_F_w (sg_F_r _ _) rfl _
        have e53 : sg_g σ50 88 53 = e := by rw [e50, sg_gw_e _ _ _ _ (sg_Rg _ _ _)]; exact g73
        refine m_showZX (by rw [e53]; exact g0) (fun σ54 b f54 f136 f54' => ⟨g73, s50 σ37 σ50 σ54 f37 e50 f54' g52 b ?_⟩)
        have c53 : sg_g σ54 88 53 = e := by rw [sg_F_g f54 (by rfl)]; exact e53
        have c51 : sg_g σ54 88 51 = 1 := by rw [sg_F_g f54 (by rfl), sg_F_g f50 (by rfl)]; exact g51
        refine ⟨?_, Or.inr ⟨?_, ?_, fun w => absurd (c53.symm.trans w) g0⟩⟩
        · rw [c51, sg_F_g f54 (by rfl), sg_F_g f50 (by rfl), sg_F_g f37 (by rfl)]; exact g11
        · rw [c53, sg_F_g f54 (by rfl), sg_F_g f50 (by rfl), sg_F_g f37 (by rfl)]; exact g10
        · rw [sg_F_g f54 (a := 45) (k := 22) (by rfl), sg_F_g f50 (a := 45) (k := 22) (by rfl), sg_F_g f37 (a := 45) (k := 22) (by rfl), sg_F_g f54 (a := 88) (k := 54) (by rfl), sg_F_g f50 (a := 88) (k := 54) (by rfl), g54]
          exact g22
      | .inr (v, w', s', ρ'), g10, g22, g23, hJ =>
        intro σ37 σ50 f37 g73 g54 g55 g52 g51 g56 gv e50
        have f50 : sg_F [54088] σ37 σ50 := by rw [e50]; exact sg_F_w (sg_F_r _ _) rfl _
        have g27 : sg_g σ50 88 27 = k := by rw [sg_F_g f50 (by rfl), sg_F_g f37 (by rfl), e27]; exact hk
        have e53 : sg_g σ50 88 53 = 0 := by rw [e50, sg_gw_e _ _ _ _ (sg_Rg _ _ _)]; exact g73
        have tl := tx_b (sg_g σ 101 k).toNat v
        have ic := imF_c (sg_g σ 101 k).toNat v
        have cJ := hJ v w' s' ρ' rfl
        have k1 := kin.1
        have k2 := kin.2
        have t101 : sg_g σ50 101 k = sg_g σ 101 k := by rw [sg_F_ga f50 rfl, sg_F_ga f37 rfl, e101]
        refine m_showVX (K := (sg_g σ 101 k).toNat) (v := v) e53 (by rw [g27]; omega) (by rw [g27, t101]; omega) (by omega) (by rw [sg_F_g f50 (a := 88) (k := 56) (by rfl), sg_F_g f50 (a := 88) (k := 60) (by rfl)]; exact g56) (by rw [sg_F_ga f50 rfl]; exact rvF_F gv f50 rfl) (by omega) (fun σ54 y1 y2 y3 f54 f54' => ⟨g73, s50 σ37 σ50 σ54 f37 e50 f54' g52 (by rw [y1]; omega) ?_⟩)
        have c53 : sg_g σ54 88 53 = 0 := by rw [sg_F_g f54 (by rfl)]; exact e53
        have c51 : sg_g σ54 88 51 = 1 := by rw [sg_F_g f54 (by rfl), sg_F_g f50 (by rfl)]; exact g51
        have FF : sg_F nwL σ1 σ54 := sg_F_t (sg_F_m f37 rfl) (sg_F_t (sg_F_m f50 rfl) (sg_F_m f54 rfl))
        refine ⟨?_, Or.inr ⟨?_, ?_, fun _ => ?_⟩⟩
        · rw [c51, sg_F_g FF (by rfl)]; exact g11
        · rw [c53, sg_F_g FF (by rfl)]; exact g10
        · rw [sg_F_g FF (a := 45) (k := 22) (by rfl), sg_F_g f54 (a := 88) (k := 54) (by rfl), sg_F_g f50 (a := 88) (k := 54) (by rfl), g54]
          exact g22
        · rw [sg_F_g FF (a := 45) (k := 23) (by rfl), sg_F_g f54 (a := 88) (k := 55) (by rfl), sg_F_g f50 (a := 88) (k := 55) (by rfl), g55]
          exact g23 rfl
  -- the class's run
  have rD : sg_R (sg_g σ 0 11) := sg_Rg _ _ _
  refine wk_post (w_cNested z σ (fun q σ1 => sg_F nqL σ σ1 → wx z 6 292 0 [(0, .inr (.inr (.ref 88)))] [] σ1 (lwA (fun q' σ2 => q' = q ∧ lwM σ2))) ?_) (by rintro v σ' ⟨q, e, r, f9, w⟩; exact ⟨q, e, r, w f9⟩)
  unfold V_cNested
  have e10 := hR.1
  refine ⟨fun h10 => ⟨fun h11 => ⟨⟨by have := rD.1; omega, by omega⟩, fun σ4 e4 => ?_⟩, fun h11 f1 => ?_⟩, fun h10 f1 => ?_⟩
  · have h28 : ¬ sg_g σ 88 28 = 0 := by rw [← e10]; exact h10
    obtain ⟨A, D, k, a1, a2, a3, a4, ⟨B0, a5⟩, a6, -⟩ := hY.resolve_left h28
    have f4 : sg_F [12000] σ σ4 := by rw [e4]; exact sg_F_w (sg_F_r _ _) rfl _
    have c4 := clR_F a1 f4 rfl
    have kr := a4.2.1
    have hA := a2.2.2.2.2.1
    have e35 : sg_g σ 35 4 = k := a1.2.2.2.2.2.2.2.2.2
    have e6 : sx_at σ 6 200 (sg_g σ 35 4) = sg_g σ4 6 k := by rw [e35, xa_in ⟨kr.1, by omega⟩, sg_F_ga f4 rfl]
    rw [e6]
    obtain ⟨L, x1, x2, x3, x4⟩ := a1.2.2.1
    have eT : evN A (sg_g σ4 6) (sg_g σ 102) (eC A D (sg_g σ4 6) (sg_g σ 102) D.length) 201 k = evN A (sg_g σ 101) (sg_g σ 102) (eC A D (sg_g σ 101) (sg_g σ 102) D.length) 201 k := ev_T x1 (fun x hx => by rw [sg_F_ga f4 rfl]; exact a6 x (x3 x hx).1 (x3 x hx).2)
    have e6k : sg_g σ4 6 k = sg_g σ 101 k := by rw [sg_F_ga f4 rfl]; exact a6 k kr.1 kr.2
    unfold V_nRun
    intro z'
    refine wk_post (w_mnRun z' σ4 (sg_g σ4 6 k) (fun q σ8 => q = ansF (evN A (sg_g σ 101) (sg_g σ 102) (eC A D (sg_g σ 101) (sg_g σ 102) D.length) 201 k (fun _ => nmF 0) 0) ∧ sg_g σ8 45 11 = 1 ∧ sg_g σ8 45 10 = ansF (evN A (sg_g σ 101) (sg_g σ 102) (eC A D (sg_g σ 101) (sg_g σ 102) D.length) 201 k (fun _ => nmF 0) 0) ∧ sg_g σ8 45 22 = k4W (evN A (sg_g σ 101) (sg_g σ 102) (eC A D (sg_g σ 101) (sg_g σ 102) D.length) 201 k (fun _ => nmF 0) 0) ∧ (ansF (evN A (sg_g σ 101) (sg_g σ 102) (eC A D (sg_g σ 101) (sg_g σ 102) D.length) 201 k (fun _ => nmF 0) 0) = 0 → sg_g σ8 45 23 = k4S (evN A (sg_g σ 101) (sg_g σ 102) (eC A D (sg_g σ 101) (sg_g σ 102) D.length) 201 k (fun _ => nmF 0) 0))) (sg_Rg _ _ _) (cN10 (B := sg_g σ 102) c4 a5 (fun σ' u1 u2 u3 u4 => by rw [eT] at u2 u3 u4 ⊢; exact ⟨rfl, u1, u2, u3, u4⟩))) ?_
    rintro v σ8 ⟨q, rfl, rq, f8, hq, u1, u2, u3, u4⟩
    refine ⟨q, rfl, rq, sg_F_m f8 rfl, fun _ f9 f1 => ?_⟩
    rw [hq]
    refine ref σ8 _ f1 (Or.inr (Or.inr ⟨h28, by omega, ?_, A, D, k, a2, a3, a4, rfl, u1, u2, u3, u4⟩))
    rw [sg_F_g f9 (by rfl), e4, sg_gw_e _ _ _ _ ⟨by have := rD.1; omega, by omega⟩]
  · have h28 : ¬ sg_g σ 88 28 = 0 := by rw [← e10]; exact h10
    exact ref σ (-3) f1 (Or.inr (Or.inl ⟨h28, by omega, rfl, rfl⟩))
  · have h28 : sg_g σ 88 28 = 0 := by rw [← e10]; exact h10
    exact ref σ (-4) f1 (Or.inl ⟨h28, rfl, rfl⟩)
