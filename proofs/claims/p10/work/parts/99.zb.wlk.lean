/-! THE WALK of look, turn by turn over a pile, told over lists. -/
def kOrd (A : aT) (n : Int) : List Int := if A.2.1 n = 15 then (A.2.2.2.2.1 n).drop 1 ++ (A.2.2.2.2.1 n).take 1 else A.2.2.2.2.1 n
def kGs (A : aT) (n : Int) : List Int := ((A.2.2.2.2.1 n).drop 1).take (A.2.2.2.2.2 n).length
/-- names known from stage s of n on -/
def kBd (A : aT) (T : Int → Int) (e : kE) (n : Int) (s : Nat) : kE := if A.2.1 n = 2 ∧ s = 1 then (A.2.2.2.1 n, T ((A.2.2.2.2.1 n).getD 0 0)) :: e else if A.2.1 n = 15 ∧ s = (A.2.2.2.2.2 n).length then kBind T (A.2.2.2.2.2 n) (kGs A n) e else e
/-- binders of the names known from stage s of n on -/
def kBb (A : aT) (eb : kE) (n : Int) (s : Nat) : kE := if A.2.1 n = 2 ∧ s = 1 then (A.2.2.2.1 n, n) :: eb else if A.2.1 n = 15 ∧ s = (A.2.2.2.2.2 n).length then kGb n 0 (A.2.2.2.2.2 n) eb else eb
def kBn (A : aT) (n : Int) : Nat := if A.2.1 n = 2 then 1 else if A.2.1 n = 15 then (A.2.2.2.2.2 n).length else 0
def kIn (t : Int) : Prop := 0 ≤ t ∧ t ≤ 3
def kDi (ds : kD) (T : Int → Int) : Prop := ∀ d ∈ ds, kIn (T d.2.2)
def kNd (A : aT) (T : Int → Int) (n : Int) (s : Nat) : Prop := (0 ≤ n ∧ n < A.1) ∧ nW A n ∧ s ≤ (kOrd A n).length ∧ ∀ x ∈ (kOrd A n).take s, kIn (T x)
/-- the walk stands: all is done, or a fault -/
def kSt (A : aT) (ds : kD) (r : Option ((Int → Int) × (Int → Int))) (cm c : Nat) (p : List (Int × Int)) (e : kE) (T : Int → Int) (eb : kE) (B : Int → Int) : Prop := (p = [] ∧ c ≤ cm ∧ r = some (T, B)) ∨ ∃ (n : Int) (s : Nat) (p' : List (Int × Int)), p = (n, (s : Int)) :: p' ∧ kNd A T n s ∧ e.length ≤ 250 ∧ p'.length ≤ 400 ∧ ((A.2.1 n = 15 ∧ s = (A.2.2.2.2.2 n).length ∧ kGens T (A.2.2.2.2.2 n) (kGs A n) = false ∧ (kBd A T e n s).length + c ≤ 272 + e.length ∧ r = none) ∨ (s = (kOrd A n).length ∧ kBn A n ≤ e.length ∧ ((∀ q ∈ e.drop (kBn A n), kIn q.2) ∧ kDi ds T) ∧ kTy A ds T (e.drop (kBn A n)) n ((A.2.2.2.2.1 n).map T) = none ∧ r = none))
/-- one turn of it; c: how many names were bound so far -/
def kSp (A : aT) (ds : kD) (go : Nat → List (Int × Int) → kE → (Int → Int) → kE → (Int → Int) → Prop) (c : Nat) (p : List (Int × Int)) (e : kE) (T : Int → Int) (eb : kE) (B : Int → Int) : Prop := ∃ (n : Int) (s : Nat) (p' : List (Int × Int)), p = (n, (s : Int)) :: p' ∧ kNd A T n s ∧ e.length ≤ 250 ∧ p'.length ≤ 400 ∧ ((∃ x, (A.2.1 n = 15 → s = (A.2.2.2.2.2 n).length → kGens T (A.2.2.2.2.2 n) (kGs A n) = true) ∧ (kOrd A n)[s]? = some x ∧ ¬ x = n ∧ (∀ y ∈ p', ¬ y.1 = x) ∧ e.length ≤ (kBd A T e n s).length ∧ (kBd A T e n s).length + c ≤ 272 + e.length ∧ go (c + ((kBd A T e n s).length - e.length)) ((x, 0) :: (n, ((s + 1 : Nat) : Int)) :: p') (kBd A T e n s) T (kBb A eb n s) B) ∨ (∃ ty, s = (kOrd A n).length ∧ kBn A n ≤ e.length ∧ ((∀ q ∈ e.drop (kBn A n), kIn q.2) ∧ kDi ds T) ∧ kTy A ds T (e.drop (kBn A n)) n ((A.2.2.2.2.1 n).map T) = some ty ∧ go c p' (e.drop (kBn A n)) (aU T n ty) (eb.drop (kBn A n)) (kUp A ds (eb.drop (kBn A n)) n B)))
def kRun (A : aT) (ds : kD) (r : Option ((Int → Int) × (Int → Int))) (cm : Nat) : Nat → Nat → List (Int × Int) → kE → (Int → Int) → kE → (Int → Int) → Prop
  | 0, c, p, e, T, eb, B => kSt A ds r cm c p e T eb B
  | m + 1, c, p, e, T, eb, B => kSt A ds r cm c p e T eb B ∨ kSp A ds (kRun A ds r cm m) c p e T eb B
theorem kRun_s {A : aT} {ds : kD} {r : Option ((Int → Int) × (Int → Int))} {cm c : Nat} {p : List (Int × Int)} {e : kE} {T : Int → Int} {eb : kE} {B : Int → Int} (h : kSt A ds r cm c p e T eb B) : ∀ m, kRun A ds r cm m c p e T eb B
  | 0 => h
  | _ + 1 => Or.inl h
theorem kRun_nil {A : aT} {ds : kD} {r : Option ((Int → Int) × (Int → Int))} {cm : Nat} (m c : Nat) (e : kE) (T : Int → Int) (eb : kE) (B : Int → Int) (a : c ≤ cm) (b : r = some (T, B)) : kRun A ds r cm m c [] e T eb B := kRun_s (Or.inl ⟨rfl, a, b⟩) m
theorem kRun_gen {A : aT} {ds : kD} {r : Option ((Int → Int) × (Int → Int))} {cm : Nat} (m c : Nat) (n : Int) (s : Nat) (p : List (Int × Int)) (e : kE) (T : Int → Int) (eb : kE) (B : Int → Int) (h1 : kNd A T n s) (h2 : e.length ≤ 250) (h3 : p.length ≤ 400) (h4 : A.2.1 n = 15) (h5 : s = (A.2.2.2.2.2 n).length) (h6 : kGens T (A.2.2.2.2.2 n) (kGs A n) = false) (h7 : (kBd A T e n s).length + c ≤ 272 + e.length) (h8 : r = none) : kRun A ds r cm m c ((n, (s : Int)) :: p) e T eb B := kRun_s (Or.inr ⟨n, s, p, rfl, h1, h2, h3, Or.inl ⟨h4, h5, h6, h7, h8⟩⟩) m
theorem kRun_psh {A : aT} {ds : kD} {r : Option ((Int → Int) × (Int → Int))} {cm : Nat} (m c : Nat) (n : Int) (s : Nat) (p : List (Int × Int)) (e : kE) (T : Int → Int) (eb : kE) (B : Int → Int) (x : Int) (h1 : kNd A T n s) (h2 : e.length ≤ 250) (h3 : p.length ≤ 400) (h4 : A.2.1 n = 15 → s = (A.2.2.2.2.2 n).length → kGens T (A.2.2.2.2.2 n) (kGs A n) = true) (h5 : (kOrd A n)[s]? = some x) (h6 : ¬ x = n) (h7 : ∀ y ∈ p, ¬ y.1 = x) (h8 : e.length ≤ (kBd A T e n s).length) (h9 : (kBd A T e n s).length + c ≤ 272 + e.length) (h : kRun A ds r cm m (c + ((kBd A T e n s).length - e.length)) ((x, 0) :: (n, ((s + 1 : Nat) : Int)) :: p) (kBd A T e n s) T (kBb A eb n s) B) : kRun A ds r cm (m + 1) c ((n, (s : Int)) :: p) e T eb B := Or.inr ⟨n, s, p, rfl, h1, h2, h3, Or.inl ⟨x, h4, h5, h6, h7, h8, h9, h⟩⟩
theorem kRun_bad {A : aT} {ds : kD} {r : Option ((Int → Int) × (Int → Int))} {cm : Nat} (m c : Nat) (n : Int) (s : Nat) (p : List (Int × Int)) (e : kE) (T : Int → Int) (eb : kE) (B : Int → Int) (h1 : kNd A T n s) (h2 : e.length ≤ 250) (h3 : p.length ≤ 400) (h4 : s = (kOrd A n).length) (h5 : kBn A n ≤ e.length) (h6 : (∀ q ∈ e.drop (kBn A n), kIn q.2) ∧ kDi ds T) (h7 : kTy A ds T (e.drop (kBn A n)) n ((A.2.2.2.2.1 n).map T) = none) (h8 : r = none) : kRun A ds r cm m c ((n, (s : Int)) :: p) e T eb B := kRun_s (Or.inr ⟨n, s, p, rfl, h1, h2, h3, Or.inr ⟨h4, h5, h6, h7, h8⟩⟩) m
theorem kRun_pop {A : aT} {ds : kD} {r : Option ((Int → Int) × (Int → Int))} {cm : Nat} (m c : Nat) (n : Int) (s : Nat) (p : List (Int × Int)) (e : kE) (T : Int → Int) (eb : kE) (B : Int → Int) (ty : Int) (h1 : kNd A T n s) (h2 : e.length ≤ 250) (h3 : p.length ≤ 400) (h4 : s = (kOrd A n).length) (h5 : kBn A n ≤ e.length) (h6 : (∀ q ∈ e.drop (kBn A n), kIn q.2) ∧ kDi ds T) (h7 : kTy A ds T (e.drop (kBn A n)) n ((A.2.2.2.2.1 n).map T) = some ty) (h : kRun A ds r cm m c p (e.drop (kBn A n)) (aU T n ty) (eb.drop (kBn A n)) (kUp A ds (eb.drop (kBn A n)) n B)) : kRun A ds r cm (m + 1) c ((n, (s : Int)) :: p) e T eb B := Or.inr ⟨n, s, p, rfl, h1, h2, h3, Or.inr ⟨ty, h4, h5, h6, h7, h⟩⟩
/-- forests -/
theorem fT_inv {A : aT} {n : Int} {ns L : List Int} (h : fT A (n :: ns) L) : ∃ L1 L2, L = n :: (L1 ++ L2) ∧ nW A n ∧ fT A (A.2.2.2.2.1 n) L1 ∧ fT A ns L2 := by
  have k := fT_ind (A := A) (M := fun R L => ∀ n ns, R = n :: ns → ∃ L1 L2, L = n :: (L1 ++ L2) ∧ nW A n ∧ fT A (A.2.2.2.2.1 n) L1 ∧ fT A ns L2) (fun _ _ e => by cases e) (fun n ns L1 L2 hw h1 h2 _ _ n' ns' e => by cases e; exact ⟨L1, L2, rfl, hw, h1, h2⟩) h
  exact k n ns rfl
theorem fT_nil {A : aT} {L : List Int} (h : fT A [] L) : L = [] := by
  have k := fT_ind (A := A) (M := fun R L => R = [] → L = []) (fun _ => rfl) (fun n ns L1 L2 _ _ _ _ _ e => by cases e) h
  exact k rfl
theorem fT_spl {A : aT} : ∀ (R1 R2 L : List Int), fT A (R1 ++ R2) L → ∃ La Lb, L = La ++ Lb ∧ fT A R1 La ∧ fT A R2 Lb
  | [], R2, L, h => ⟨[], L, rfl, fT_z A, h⟩
  | x :: R1, R2, L, h => by
    obtain ⟨L1, L2, e, a, b, c⟩ := fT_inv h
    obtain ⟨La, Lb, e2, a2, b2⟩ := fT_spl R1 R2 L2 c
    exact ⟨x :: (L1 ++ La), Lb, by rw [e, e2]; simp, fT_c a b a2, b2⟩
theorem fT_len {A : aT} {R L : List Int} (h : fT A R L) : R.length ≤ L.length :=
  fT_ind (A := A) (M := fun R L => R.length ≤ L.length) (Nat.le_refl _) (fun n ns L1 L2 _ _ _ _ ih => by simp only [List.length_cons, List.length_append]; omega) h
theorem fT_sub {A : aT} {R L : List Int} (h : fT A R L) : ∀ x ∈ R, x ∈ L := by
  refine fT_ind (A := A) (M := fun R L => ∀ x ∈ R, x ∈ L) (fun _ h => h) (fun n ns L1 L2 _ _ _ _ ih => ?_) h
  intro x hx
  rcases List.mem_cons.mp hx with e | e
  · simp [e]
  · simp [ih x e]
/-- types stay within 0 .. 3 -/
def kRg (go : kE → Int → (Int → Int) → Option (Int → Int)) (P : (Int → Int) → Prop) : Prop := ∀ e n T T1, P T → (∀ p ∈ e, kIn p.2) → go e n T = some T1 → kIn (T1 n) ∧ ∀ x, kIn (T x) → kIn (T1 x)
theorem kRow_rg {go : kE → Int → (Int → Int) → Option (Int → Int)} {ds : kD} (hg : kRg go (kDi ds)) (e : kE) (he : ∀ p ∈ e, kIn p.2) : ∀ (l : List Int) (T T1 : Int → Int), kDi ds T → kRow go e l T = some T1 → (∀ x ∈ l, kIn (T1 x)) ∧ ∀ x, kIn (T x) → kIn (T1 x)
  | [], T, T1, _, h => by cases h; exact ⟨by simp, fun _ h => h⟩
  | y :: r, T, T1, hd, h => by
    unfold kRow at h
    split at h
    · cases h
    · rename_i T2 h2
      obtain ⟨a, b⟩ := hg e y T T2 hd he h2
      obtain ⟨c, d⟩ := kRow_rg hg e he r T2 T1 (fun x hx => b _ (hd x hx)) h
      refine ⟨fun x hx => ?_, fun x hx => d x (b x hx)⟩
      rcases List.mem_cons.mp hx with e | e
      · subst e; exact d _ a
      · exact c x e
theorem kBind_in {T : Int → Int} : ∀ (gs : List (Int × Int)) (xs : List Int) (e : kE), (∀ x ∈ xs, kIn (T x)) → (xs.all (fun x => decide (0 < T x))) = true → (∀ p ∈ e, kIn p.2) → ∀ p ∈ kBind T gs xs e, kIn p.2
  | [], _, e, _, _, he => by simp only [kBind]; exact he
  | _ :: _, [], e, _, _, he => by simp only [kBind]; exact he
  | g :: gs, x :: xs, e, hx, hp, he => by
    simp only [kBind]
    simp only [List.all_cons, Bool.and_eq_true, decide_eq_true_eq] at hp
    refine kBind_in gs xs _ (fun y hy => hx y (by simp [hy])) hp.2 (fun p hq => ?_)
    rcases List.mem_cons.mp hq with e | e
    · have := hx x (by simp)
      have h1 := hp.1
      rw [e]
      unfold kIn at this ⊢
      omega
    · exact he p e
theorem kFind_in {e : kE} {w t : Int} (he : ∀ p ∈ e, kIn p.2) (h : kFind e w = some t) : kIn t := by
  induction e with
  | nil => cases h
  | cons x r ih =>
    unfold kFind at h
    split at h
    · cases h; exact he x (by simp)
    · exact ih (fun p hp => he p (by simp [hp])) h
theorem kIs_in {b : Bool} {t ty : Int} (h : kIs b t = some ty) : ty = t ∧ t ≤ 3 ∧ b = true := by
  unfold kIs at h
  split at h
  · rename_i c; cases h; exact ⟨rfl, c.2, c.1⟩
  · cases h
theorem kTy_in {A : aT} {ds : kD} {T : Int → Int} {e : kE} {n : Int} {ts : List Int} {ty : Int} (hd : kDi ds T) (he : ∀ p ∈ e, kIn p.2) (ht : ∀ x ∈ ts, kIn x) (h : kTy A ds T e n ts = some ty) : kIn ty := by
  have hg : ∀ j, 0 ≤ ts.getD j 0 ∧ ts.getD j 0 ≤ 3 := fun j => by
    rw [List.getD_eq_getElem?_getD]
    cases e : ts[j]? with
    | none => simp
    | some y => exact ht y (List.mem_of_getElem? e)
  have g0 := hg 0
  have g1 := hg 1
  unfold kTy at h
  simp only at h
  split at h
  · cases h; exact ⟨by omega, by omega⟩
  · split at h
    · exact kFind_in he h
    · split at h
      · cases h; exact g1
      · split at h
        · obtain ⟨a, b, c⟩ := kIs_in h; subst a; exact g1
        · split at h
          · obtain ⟨a, b, c⟩ := kIs_in h; subst a; exact ⟨by omega, by omega⟩
          · split at h
            · obtain ⟨a, b, c⟩ := kIs_in h; subst a; exact ⟨by omega, by omega⟩
            · split at h
              · obtain ⟨a, b, c⟩ := kIs_in h
                simp only [Bool.and_eq_true, decide_eq_true_eq] at c
                subst a; exact ⟨by omega, by omega⟩
              · split at h
                · split at h
                  · cases h
                  · rename_i ps r hdd
                    obtain ⟨a, b, c⟩ := kIs_in h
                    obtain ⟨d, d1, d2⟩ := kDef_in hdd
                    subst a
                    rw [← d2]; exact hd d d1
                · split at h
                  · obtain ⟨a, b, c⟩ := kIs_in h; subst a; exact ⟨by omega, by omega⟩
                  · split at h
                    · obtain ⟨a, b, c⟩ := kIs_in h; subst a; exact ⟨by omega, by omega⟩
                    · unfold kAct at h
                      simp only at h
                      repeat' split at h
                      all_goals (obtain ⟨a, b, c⟩ := kIs_in h; simp only [Bool.and_eq_true, decide_eq_true_eq] at c; subst a; exact ⟨by omega, by omega⟩)
theorem kParts_rg {A : aT} {go : kE → Int → (Int → Int) → Option (Int → Int)} {ds : kD} (hg : kRg go (kDi ds)) {e : kE} {n : Int} {T T1 : Int → Int} (hd : kDi ds T) (he : ∀ p ∈ e, kIn p.2) (h : kParts A go e n T = some T1) : (∀ x ∈ A.2.2.2.2.1 n, kIn (T1 x)) ∧ ∀ x, kIn (T x) → kIn (T1 x) := by
  unfold kParts at h
  simp only at h
  split at h
  · cases hk : A.2.2.2.2.1 n with
    | nil => rw [hk] at h; cases h; exact ⟨by simp, fun _ h => h⟩
    | cons a r =>
      rw [hk] at h
      simp only at h
      split at h
      · cases h
      · rename_i T2 h2
        obtain ⟨b1, b2⟩ := hg e a T T2 hd he h2
        obtain ⟨c1, c2⟩ := kRow_rg hg _ (fun p hp => by
          rcases List.mem_cons.mp hp with e | e
          · rw [e]; exact b1
          · exact he p e) r T2 T1 (fun d hx => b2 _ (hd d hx)) h
        refine ⟨fun x hx => ?_, fun x hx => c2 x (b2 x hx)⟩
        rcases List.mem_cons.mp hx with e | e
        · subst e; exact c2 _ b1
        · exact c1 x e
  · split at h
    · cases hk : A.2.2.2.2.1 n with
      | nil => rw [hk] at h; cases h; exact ⟨by simp, fun _ h => h⟩
      | cons a r =>
        rw [hk] at h
        simp only at h
        split at h
        · cases h
        · rename_i T2 h2
          obtain ⟨b1, b2⟩ := kRow_rg hg e he _ T T2 hd h2
          split at h
          · rename_i hG
            unfold kGens at hG
            rw [Bool.and_eq_true] at hG
            obtain ⟨c1, c2⟩ := kRow_rg hg _ (kBind_in _ _ e b1 hG.2 he) _ T2 T1 (fun d hx => b2 _ (hd d hx)) h
            refine ⟨fun x hx => ?_, fun x hx => c2 x (b2 x hx)⟩
            rcases List.mem_cons.mp hx with e | e
            · subst e; exact c1 _ (by simp)
            · rw [← List.take_append_drop (A.2.2.2.2.2 n).length r] at e
              rcases List.mem_append.mp e with e | e
              · exact c2 _ (b1 _ e)
              · exact c1 _ (List.mem_append_left _ e)
          · cases h
    · exact kRow_rg hg e he _ T T1 hd h
theorem kGo_rg (A : aT) (ds : kD) : ∀ f, kRg (kGo A ds f) (kDi ds)
  | 0 => fun _ _ _ _ _ _ h => by cases h
  | f + 1 => fun e n T T1 hd he h => by
    unfold kGo at h
    split at h
    · cases h
    · rename_i T2 h2
      obtain ⟨a, b⟩ := kParts_rg (kGo_rg A ds f) hd he h2
      split at h
      · cases h
      · rename_i ty hty
        have c := kTy_in (fun d hx => b _ (hd d hx)) he (fun x hx => by
          obtain ⟨y, hy, rfl⟩ := List.mem_map.mp hx
          exact a y hy) hty
        cases h
        refine ⟨by simp only [aU, if_true]; exact c, fun x hx => ?_⟩
        by_cases e : x = n
        · simp only [aU, e, if_true]; exact c
        · simp only [aU, e, if_false]; exact b x hx
