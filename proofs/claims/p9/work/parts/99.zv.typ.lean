/-! WHAT look leaves: each node has its type, each name its binder. -/
theorem kRow_fr {go : kE → Int → (Int → Int) → Option (Int → Int)} {A : aT} (hg : ∀ e n T T1 L, fT A [n] L → go e n T = some T1 → ∀ x, x ∉ L → T1 x = T x) (e : kE) : ∀ (R L : List Int) (T T1 : Int → Int), fT A R L → kRow go e R T = some T1 → ∀ x, x ∉ L → T1 x = T x
  | [], L, T, T1, hf, h, x, hx => by cases h; rfl
  | y :: R, L, T, T1, hf, h, x, hx => by
    obtain ⟨L1, L2, e1, w1, w2, w3⟩ := fT_inv hf
    subst e1
    unfold kRow at h
    split at h
    · cases h
    · rename_i T2 h2
      rw [kRow_fr hg e R L2 T2 T1 w3 h x (fun z => hx (by simp [z])), hg e y T T2 (y :: L1) (fT_one w1 w2) h2 x (fun z => hx (by rcases List.mem_cons.mp z with q | q <;> simp [q]))]
theorem kGo_fr (A : aT) (ds : kD) : ∀ f e n T T1 L, fT A [n] L → kGo A ds f e n T = some T1 → ∀ x, x ∉ L → T1 x = T x
  | 0, e, n, T, T1, L, hf, h, x, hx => by cases h
  | f + 1, e, n, T, T1, L, hf, h, x, hx => by
    obtain ⟨L1, L2, e1, w1, w2, w3⟩ := fT_inv hf
    have e2 := fT_nil w3
    subst e2
    rw [List.append_nil] at e1
    subst e1
    have hxn : ¬ x = n := fun z => hx (by simp [z])
    have hx1 : x ∉ L1 := fun z => hx (by simp [z])
    have hg := kGo_fr A ds f
    unfold kGo at h
    split at h
    · cases h
    · rename_i T2 h2
      split at h
      · cases h
      · rename_i ty hty
        cases h
        simp only [aU, hxn, if_false]
        unfold kParts at h2
        simp only at h2
        split at h2
        · cases hk : A.2.2.2.2.1 n with
          | nil => rw [hk] at h2; cases h2; rfl
          | cons a r =>
            rw [hk] at h2 w2
            simp only at h2
            split at h2
            · cases h2
            · rename_i T3 h3
              obtain ⟨La, Lb, e3, fa, fb⟩ := fT_spl [a] r L1 w2
              rw [e3] at hx1
              rw [kRow_fr hg _ r Lb T3 T2 fb h2 x (fun z => hx1 (by simp [z])), hg e a T T3 La fa h3 x (fun z => hx1 (by simp [z]))]
        · split at h2
          · cases hk : A.2.2.2.2.1 n with
            | nil => rw [hk] at h2; cases h2; rfl
            | cons a r =>
              rw [hk] at h2 w2
              simp only at h2
              split at h2
              · cases h2
              · rename_i T3 h3
                obtain ⟨Lb, Lt, e3, fb, ft⟩ := fT_spl [a] r L1 w2
                rw [← List.take_append_drop (A.2.2.2.2.2 n).length r] at ft
                obtain ⟨La, Ld, e4, fa, fd⟩ := fT_spl _ _ Lt ft
                rw [e3, e4] at hx1
                split at h2
                · rw [kRow_fr hg _ _ (Ld ++ Lb) T3 T2 (fT_app fd fb) h2 x (fun z => hx1 (by rcases List.mem_append.mp z with q | q <;> simp [q])), kRow_fr hg e _ La T T3 fa h3 x (fun z => hx1 (by simp [z]))]
                · cases h2
          · exact kRow_fr hg e _ L1 T T2 w2 h2 x hx1
theorem kBoR_fr {go : kE → Int → (Int → Int) → (Int → Int)} {A : aT} (hg : ∀ eb n B L, fT A [n] L → ∀ x, x ∉ L → go eb n B x = B x) (eb : kE) : ∀ (R L : List Int) (B : Int → Int), fT A R L → ∀ x, x ∉ L → kBoR go eb R B x = B x
  | [], L, B, hf, x, hx => rfl
  | y :: R, L, B, hf, x, hx => by
    obtain ⟨L1, L2, e1, w1, w2, w3⟩ := fT_inv hf
    subst e1
    unfold kBoR
    rw [kBoR_fr hg eb R L2 _ w3 x (fun z => hx (by simp [z])), hg eb y B (y :: L1) (fT_one w1 w2) x (fun z => hx (by rcases List.mem_cons.mp z with q | q <;> simp [q]))]
theorem kUp_fr {A : aT} {ds : kD} {eb : kE} {n x : Int} {B : Int → Int} (h : ¬ x = n) : kUp A ds eb n B x = B x := by
  unfold kUp
  by_cases c1 : A.2.1 n = 1
  · rw [if_pos c1]
    cases kFind eb (A.2.2.2.1 n) with
    | none => rfl
    | some b => simp only [aU, h, if_false]
  · rw [if_neg c1]
    by_cases c2 : A.2.1 n = 13
    · rw [if_pos c2]
      cases kDx ds (A.2.2.2.1 n) with
      | none => rfl
      | some b => simp only [aU, h, if_false]
    · rw [if_neg c2]
theorem kBo_fr (A : aT) (ds : kD) : ∀ f eb n B L, fT A [n] L → ∀ x, x ∉ L → kBo A ds f eb n B x = B x
  | 0, eb, n, B, L, hf, x, hx => rfl
  | f + 1, eb, n, B, L, hf, x, hx => by
    obtain ⟨L1, L2, e1, w1, w2, w3⟩ := fT_inv hf
    have e2 := fT_nil w3
    subst e2
    rw [List.append_nil] at e1
    subst e1
    have hxn : ¬ x = n := fun z => hx (by simp [z])
    have hx1 : x ∉ L1 := fun z => hx (by simp [z])
    have hg := kBo_fr A ds f
    unfold kBo
    rw [kUp_fr hxn]
    split
    · cases hk : A.2.2.2.2.1 n with
      | nil => rfl
      | cons a r =>
        rw [hk] at w2
        simp only
        obtain ⟨La, Lb, e3, fa, fb⟩ := fT_spl [a] r L1 w2
        rw [e3] at hx1
        rw [kBoR_fr hg _ r Lb _ fb x (fun z => hx1 (by simp [z])), hg eb a B La fa x (fun z => hx1 (by simp [z]))]
    · split
      · cases hk : A.2.2.2.2.1 n with
        | nil => rfl
        | cons a r =>
          rw [hk] at w2
          simp only
          obtain ⟨Lb, Lt, e3, fb, ft⟩ := fT_spl [a] r L1 w2
          rw [← List.take_append_drop (A.2.2.2.2.2 n).length r] at ft
          obtain ⟨La, Ld, e4, fa, fd⟩ := fT_spl _ _ Lt ft
          rw [e3, e4] at hx1
          rw [kBoR_fr hg _ _ (Ld ++ Lb) _ (fT_app fd fb) x (fun z => hx1 (by rcases List.mem_append.mp z with q | q <;> simp [q])), kBoR_fr hg eb _ La B fa x (fun z => hx1 (by simp [z]))]
      · exact kBoR_fr hg eb _ L1 B w2 x hx1
/-- binders in scope, with types -/
def scZ (e eb : kE) : List (Int × Int) := List.zipWith (fun a b => (b.2, a.2)) e eb
def gsc (n : Int) (T : Int → Int) : Nat → List Int → List (Int × Int)
  | _, [] => []
  | j, x :: xs => (210 + 4 * n + j, T x - 1) :: gsc n T (j + 1) xs
/-- node n and all below it have types T and binders B, under binders sc -/
def tyN (A : aT) (ds : kD) (T B : Int → Int) : Nat → List (Int × Int) → Int → Prop
  | 0, _, _ => False
  | f + 1, sc, n => nW A n ∧ (0 ≤ n ∧ n < A.1) ∧ kIn (T n) ∧ (A.2.1 n = 1 → (B n, T n) ∈ sc) ∧ (¬ A.2.1 n = 1 → kTy A ds T [] n ((A.2.2.2.2.1 n).map T) = some (T n)) ∧ (A.2.1 n = 13 → kDx ds (A.2.2.2.1 n) = some (B n)) ∧ (A.2.1 n = 2 → ∀ a b, A.2.2.2.2.1 n = [a, b] → tyN A ds T B f sc a ∧ tyN A ds T B f ((n, T a) :: sc) b) ∧ (A.2.1 n = 15 → ∀ bd tl, A.2.2.2.2.1 n = bd :: tl → (∀ x ∈ tl.take (A.2.2.2.2.2 n).length, tyN A ds T B f sc x ∧ 0 < T x) ∧ ∀ x ∈ tl.drop (A.2.2.2.2.2 n).length ++ [bd], tyN A ds T B f (gsc n T 0 (tl.take (A.2.2.2.2.2 n).length) ++ sc) x) ∧ (¬ A.2.1 n = 2 → ¬ A.2.1 n = 15 → ∀ x ∈ A.2.2.2.2.1 n, tyN A ds T B f sc x)
theorem tyN_m (A : aT) (ds : kD) (T B : Int → Int) : ∀ f sc sc' n, (∀ p ∈ sc, p ∈ sc') → tyN A ds T B f sc n → tyN A ds T B f sc' n
  | 0, sc, sc', n, hs, h => h
  | f + 1, sc, sc', n, hs, h => by
    obtain ⟨a1, a2, a3, a4, a5, a6, a7, a8, a9⟩ := h
    have ih := tyN_m A ds T B f
    refine ⟨a1, a2, a3, fun z => hs _ (a4 z), a5, a6, fun z a b hk => ⟨ih _ _ _ hs (a7 z a b hk).1, ih _ _ _ (fun p hp => ?_) (a7 z a b hk).2⟩, fun z bd tl hk => ⟨fun x hx => ⟨ih _ _ _ hs ((a8 z bd tl hk).1 x hx).1, ((a8 z bd tl hk).1 x hx).2⟩, fun x hx => ih _ _ _ (fun p hp => ?_) ((a8 z bd tl hk).2 x hx)⟩, fun z1 z2 x hx => ih _ _ _ hs (a9 z1 z2 x hx)⟩
    · rcases List.mem_cons.mp hp with q | q
      · simp [q]
      · exact List.mem_cons_of_mem _ (hs p q)
    · rcases List.mem_append.mp hp with q | q
      · exact List.mem_append_left _ q
      · exact List.mem_append_right _ (hs p q)
theorem kFind_z {w : Int} : ∀ {e eb : kE} {ty : Int}, e.map (·.1) = eb.map (·.1) → kFind e w = some ty → ∃ b, kFind eb w = some b ∧ (b, ty) ∈ scZ e eb
  | [], eb, ty, _, h => by cases h
  | x :: e, [], ty, hm, h => by simp at hm
  | x :: e, y :: eb, ty, hm, h => by
    simp only [List.map_cons, List.cons.injEq] at hm
    unfold kFind at h
    by_cases c : x.1 = w
    · rw [if_pos c] at h
      cases h
      refine ⟨y.2, ?_, by simp [scZ]⟩
      unfold kFind
      rw [if_pos (by rw [← hm.1]; exact c)]
    · rw [if_neg c] at h
      obtain ⟨b, b1, b2⟩ := kFind_z hm.2 h
      refine ⟨b, ?_, by simp only [scZ, List.zipWith_cons_cons]; exact List.mem_cons_of_mem _ b2⟩
      unfold kFind
      rw [if_neg (by rw [← hm.1]; exact c)]
      exact b1
theorem gsc_z {n : Int} {T : Int → Int} : ∀ (gs : List (Int × Int)) (xs : List Int) (j : Nat) (e eb : kE), gs.length = xs.length → e.map (·.1) = eb.map (·.1) → (kBind T gs xs e).map (·.1) = (kGb n j gs eb).map (·.1) ∧ ∀ p ∈ scZ (kBind T gs xs e) (kGb n j gs eb), p ∈ gsc n T j xs ++ scZ e eb
  | [], [], j, e, eb, _, hm => by simp only [kBind, kGb, gsc, List.nil_append]; exact ⟨hm, fun p hp => hp⟩
  | [], _ :: _, j, e, eb, h, _ => by simp at h
  | _ :: _, [], j, e, eb, h, _ => by simp at h
  | g :: gs, x :: xs, j, e, eb, h, hm => by
    simp only [kBind, kGb, gsc]
    obtain ⟨a, b⟩ := gsc_z gs xs (j + 1) ((g.1, T x - 1) :: e) ((g.1, 210 + 4 * n + j) :: eb) (by simpa using h) (by simp [hm])
    refine ⟨a, fun p hp => ?_⟩
    have := b p hp
    rcases List.mem_append.mp this with q | q
    · exact List.mem_append_left _ (List.mem_cons_of_mem _ q)
    · simp only [scZ, List.zipWith_cons_cons] at q
      rcases List.mem_cons.mp q with q | q
      · rw [q]; simp
      · exact List.mem_append_right _ q
theorem kTy_e {A : aT} {ds : kD} {T : Int → Int} {e e' : kE} {n : Int} {ts : List Int} (h : ¬ A.2.1 n = 1) : kTy A ds T e n ts = kTy A ds T e' n ts := by
  unfold kTy
  simp only [if_neg h]
/-- what is to be shown at fuel f -/
def tyL (A : aT) (ds : kD) (f : Nat) : Prop := ∀ (e eb : kE) (n : Int) (T T1 B : Int → Int) (L : List Int), fT A [n] L → L.Nodup → (∀ x ∈ L, 0 ≤ x ∧ x < A.1) → e.map (·.1) = eb.map (·.1) → (∀ p ∈ e, kIn p.2) → kDi ds T → (∀ d ∈ ds, d.2.2 ∉ L) → kGo A ds f e n T = some T1 → ∀ T2 B2, (∀ x ∈ L, T2 x = T1 x) → (∀ x ∈ L, B2 x = kBo A ds f eb n B x) → (∀ d ∈ ds, T2 d.2.2 = T1 d.2.2) → tyN A ds T2 B2 f (scZ e eb) n
theorem tyR {A : aT} {ds : kD} {f : Nat} (N : tyL A ds f) {e eb : kE} (hm : e.map (·.1) = eb.map (·.1)) (he : ∀ p ∈ e, kIn p.2) {T2 B2 : Int → Int} : ∀ (R L : List Int) (T T1 B : Int → Int), fT A R L → L.Nodup → (∀ x ∈ L, 0 ≤ x ∧ x < A.1) → kDi ds T → (∀ d ∈ ds, d.2.2 ∉ L) → kRow (kGo A ds f) e R T = some T1 → (∀ x ∈ L, T2 x = T1 x) → (∀ x ∈ L, B2 x = kBoR (kBo A ds f) eb R B x) → (∀ d ∈ ds, T2 d.2.2 = T1 d.2.2) → ∀ x ∈ R, tyN A ds T2 B2 f (scZ e eb) x
  | [], L, T, T1, B, hf, hN, hL, hd, hr, h, hT, hB, hD, x, hx => by cases hx
  | y :: R, L, T, T1, B, hf, hN, hL, hd, hr, h, hT, hB, hD, x, hx => by
    obtain ⟨L1, L2, e1, w1, w2, w3⟩ := fT_inv hf
    subst e1
    rw [← List.cons_append] at hN hL hr hT hB
    have hN2 := List.nodup_append.mp hN
    unfold kRow at h
    split at h
    · cases h
    · rename_i T3 h3
      have dis : ∀ z, z ∈ y :: L1 → z ∉ L2 := fun z a b => hN2.2.2 z a z b rfl
      rcases List.mem_cons.mp hx with q | q
      · subst q
        refine N e eb x T T3 B (x :: L1) (fT_one w1 w2) hN2.1 (fun z hz => hL z (List.mem_append_left _ hz)) hm he hd (fun d hd' z => hr d hd' (List.mem_append_left _ z)) h3 T2 B2 (fun z hz => ?_) (fun z hz => ?_) (fun d hd' => ?_)
        · rw [hT z (List.mem_append_left _ hz)]
          exact kRow_fr (kGo_fr A ds f) e R L2 T3 T1 w3 h z (dis z hz)
        · rw [hB z (List.mem_append_left _ hz)]
          exact kBoR_fr (kBo_fr A ds f) eb R L2 _ w3 z (dis z hz)
        · rw [hD d hd']
          exact kRow_fr (kGo_fr A ds f) e R L2 T3 T1 w3 h _ (fun z => hr d hd' (List.mem_append_right _ z))
      · exact tyR N hm he R L2 T3 T1 _ w3 hN2.2.1 (fun z hz => hL z (List.mem_append_right _ hz)) (kDi_up hd he h3) (fun d hd' z => hr d hd' (List.mem_append_right _ z)) h (fun z hz => hT z (List.mem_append_right _ hz)) (fun z hz => hB z (List.mem_append_right _ hz)) hD x q
theorem kDef_x {ds : kD} {w : Int} : (kDef ds w = none ↔ kDx ds w = none) := by
  induction ds with
  | nil => exact ⟨fun _ => rfl, fun _ => rfl⟩
  | cons x l ih =>
    unfold kDef kDx
    by_cases c : x.1 = w
    · rw [if_pos c, if_pos c]
      exact ⟨fun h => (by cases h), fun h => (by cases h)⟩
    · rw [if_neg c, if_neg c]; exact ih
theorem kTy_T {A : aT} {ds : kD} {T T' : Int → Int} {e : kE} {n : Int} {ts : List Int} (h : ∀ d ∈ ds, T d.2.2 = T' d.2.2) : kTy A ds T e n ts = kTy A ds T' e n ts := kTy_ag h e n ts
theorem tyL_all (A : aT) (ds : kD) : ∀ f, tyL A ds f
  | 0 => fun e eb n T T1 B L hf hN hL hm he hd hr h => by cases h
  | f + 1 => fun e eb n T T1 B L hf hN hL hm he hd hr h T2 B2 hT hB hD => by
    have N := tyL_all A ds f
    obtain ⟨L1, L2, e1, w1, w2, w3⟩ := fT_inv hf
    have e2 := fT_nil w3
    subst e2
    rw [List.append_nil] at e1
    subst e1
    have hnn := hL n (by simp)
    have hnL : n ∉ L1 := (List.nodup_cons.mp hN).1
    have hN1 : L1.Nodup := (List.nodup_cons.mp hN).2
    have hL1 : ∀ x ∈ L1, 0 ≤ x ∧ x < A.1 := fun x hx => hL x (by simp [hx])
    have hr1 : ∀ d ∈ ds, d.2.2 ∉ L1 := fun d hd' z => hr d hd' (by simp [z])
    have hrn : ∀ d ∈ ds, ¬ d.2.2 = n := fun d hd' z => hr d hd' (by simp [z])
    have rgn := kGo_rg A ds (f + 1) e n T T1 hd he h
    unfold kGo at h
    split at h
    · cases h
    rename_i T3 h3
    split at h
    · cases h
    rename_i ty hty
    cases h
    have rg3 := kParts_rg (kGo_rg A ds f) hd he h3
    have T2n : T2 n = ty := by rw [hT n (by simp)]; simp only [aU, if_true]
    have T23 : ∀ x ∈ L1, T2 x = T3 x := fun x hx => by
      rw [hT x (by simp [hx])]
      simp only [aU, show ¬ x = n from fun z => hnL (by rw [← z]; exact hx), if_false]
    have D23 : ∀ d ∈ ds, T2 d.2.2 = T3 d.2.2 := fun d hd' => by
      rw [hD d hd']
      simp only [aU, hrn d hd', if_false]
    have B23 : ∀ x ∈ L1, B2 x = (kBo A ds (f + 1) eb n B) x := fun x hx => hB x (by simp [hx])
    have km : (A.2.2.2.2.1 n).map T2 = (A.2.2.2.2.1 n).map T3 := List.map_congr_left (fun x hx => T23 x (fT_sub w2 x hx))
    have tyn : ¬ A.2.1 n = 1 → kTy A ds T2 [] n ((A.2.2.2.2.1 n).map T2) = some (T2 n) := fun c => by
      rw [km, kTy_T D23, kTy_e (e' := e) c, T2n]; exact hty
    have bn : B2 n = kBo A ds (f + 1) eb n B n := hB n (by simp)
    have part : ∀ B', B' = (if A.2.1 n = 2 then (match A.2.2.2.2.1 n with
      | a :: r => kBoR (kBo A ds f) ((A.2.2.2.1 n, n) :: eb) r (kBo A ds f eb a B)
      | [] => B)
      else if A.2.1 n = 15 then (match A.2.2.2.2.1 n with
      | body :: r => kBoR (kBo A ds f) (kGb n 0 (A.2.2.2.2.2 n) eb) (r.drop (A.2.2.2.2.2 n).length ++ [body]) (kBoR (kBo A ds f) eb (r.take (A.2.2.2.2.2 n).length) B)
      | [] => B)
      else kBoR (kBo A ds f) eb (A.2.2.2.2.1 n) B) → kBo A ds (f + 1) eb n B = kUp A ds eb n B' := fun B' hB' => by subst hB'; rfl
    have B2p : ∀ B', kBo A ds (f + 1) eb n B = kUp A ds eb n B' → ∀ x ∈ L1, B2 x = B' x := fun B' hB' x hx => by
      rw [B23 x hx, hB', kUp_fr (fun z => hnL (by rw [← z]; exact hx))]
    have kin : kIn (T2 n) := by rw [hT n (by simp)]; exact rgn.1
    obtain ⟨n1, n2, n3, n4, n5, n6, n7, n8⟩ := id w1
    refine ⟨w1, hnn, kin, fun c => ?_, tyn, fun c => ?_, fun c a b hk => ?_, fun c bd tl hk => ?_, fun c1 c2 => ?_⟩
    · rw [kTy_1 c] at hty
      obtain ⟨b, b1, b2⟩ := kFind_z hm hty
      rw [bn, part _ rfl, T2n]
      unfold kUp
      rw [if_pos c, b1]
      simp only [aU, if_true]
      exact b2
    · have hdn : ¬ kDef ds (A.2.2.2.1 n) = none := fun z => by rw [kTy_13 c z] at hty; cases hty
      cases hx : kDx ds (A.2.2.2.1 n) with
      | none => exact absurd (kDef_x.mpr hx) hdn
      | some d =>
        rw [bn, part _ rfl]
        unfold kUp
        rw [if_neg (by omega), if_pos c, hx]
        simp only [aU, if_true]
    · have hp := part _ (by rw [if_pos c, hk])
      have hBx := B2p _ hp
      unfold kParts at h3
      simp only [c, if_true, hk] at h3
      rw [hk] at w2
      obtain ⟨La, Lb, e3, fa, fb⟩ := fT_spl [a] [b] L1 w2
      subst e3
      have nd := List.nodup_append.mp hN1
      split at h3
      · cases h3
      rename_i Ta ha
      have dis : ∀ z, z ∈ La → z ∉ Lb := fun z x y => nd.2.2 z x z y rfl
      have rga := kGo_rg A ds f e a T Ta hd he ha
      have a2 : T2 a = Ta a := by
        rw [T23 a (List.mem_append_left _ (fT_sub fa a (by simp)))]
        exact kRow_fr (kGo_fr A ds f) _ [b] Lb Ta T3 fb h3 a (dis a (fT_sub fa a (by simp)))
      refine ⟨N e eb a T Ta B La fa nd.1 (fun z hz => hL1 z (List.mem_append_left _ hz)) hm he hd (fun d hd' z => hr1 d hd' (List.mem_append_left _ z)) ha T2 B2 (fun z hz => ?_) (fun z hz => ?_) (fun d hd' => ?_), ?_⟩
      · rw [T23 z (List.mem_append_left _ hz)]
        exact kRow_fr (kGo_fr A ds f) _ [b] Lb Ta T3 fb h3 z (dis z hz)
      · rw [hBx z (List.mem_append_left _ hz)]
        exact kBoR_fr (kBo_fr A ds f) _ [b] Lb _ fb z (dis z hz)
      · rw [D23 d hd']
        exact kRow_fr (kGo_fr A ds f) _ [b] Lb Ta T3 fb h3 _ (fun z => hr1 d hd' (List.mem_append_right _ z))
      · rw [a2]
        refine tyR N (e := (A.2.2.2.1 n, Ta a) :: e) (eb := (A.2.2.2.1 n, n) :: eb) (by simp [hm]) (fun p hp' => ?_) [b] Lb Ta T3 _ fb nd.2.1 (fun z hz => hL1 z (List.mem_append_right _ hz)) (kDi_up hd he ha) (fun d hd' z => hr1 d hd' (List.mem_append_right _ z)) h3 (fun z hz => T23 z (List.mem_append_right _ hz)) (fun z hz => hBx z (List.mem_append_right _ hz)) D23 b (by simp)
        rcases List.mem_cons.mp hp' with q | q
        · rw [q]; exact rga.1
        · exact he p q
    · have hp := part _ (by rw [if_neg (show ¬ A.2.1 n = 2 by omega), if_pos c, hk])
      have hBx := B2p _ hp
      have l7 := n7 c
      rw [hk] at l7
      simp only [List.length_cons] at l7
      unfold kParts at h3
      simp only [c, hk] at h3
      rw [if_neg (by decide), if_pos trivial] at h3
      rw [hk] at w2
      obtain ⟨Lb, Lt, e3, fb, ft⟩ := fT_spl [bd] tl L1 w2
      rw [← List.take_append_drop (A.2.2.2.2.2 n).length tl] at ft
      obtain ⟨La, Ld, e4, fa, fd⟩ := fT_spl _ _ Lt ft
      subst e4
      subst e3
      have fdb := fT_app fd fb
      have nd := List.nodup_append.mp hN1
      have nd2 := List.nodup_append.mp nd.2.1
      have ndb : (Ld ++ Lb).Nodup := by
        rw [List.nodup_append]
        exact ⟨nd2.2.1, nd.1, fun x hx y hy z => nd.2.2 y hy x (List.mem_append_right _ hx) z.symm⟩
      have ia : ∀ x, x ∈ La → x ∈ Lb ++ (La ++ Ld) := fun x hx => by simp [hx]
      have ib : ∀ x, x ∈ Ld ++ Lb → x ∈ Lb ++ (La ++ Ld) := fun x hx => by
        rcases List.mem_append.mp hx with z | z <;> simp [z]
      have dis : ∀ z, z ∈ La → z ∉ Ld ++ Lb := fun z x y => by
        rcases List.mem_append.mp y with w | w
        · exact nd2.2.2 z x z w rfl
        · exact nd.2.2 z w z (List.mem_append_left _ x) rfl
      split at h3
      · cases h3
      rename_i Ta ha
      split at h3
      rotate_left
      · cases h3
      rename_i hG
      have hG2 := hG
      unfold kGens at hG2
      rw [Bool.and_eq_true] at hG2
      have rga := kRow_rg (kGo_rg A ds f) e he _ T Ta hd ha
      have a2 : ∀ x ∈ La, T2 x = Ta x := fun x hx => by
        rw [T23 x (ia x hx)]
        exact kRow_fr (kGo_fr A ds f) _ _ (Ld ++ Lb) Ta T3 fdb h3 x (dis x hx)
      have lt : (tl.take (A.2.2.2.2.2 n).length).length = (A.2.2.2.2.2 n).length := by rw [List.length_take]; omega
      have gz := gsc_z (n := n) (T := Ta) (A.2.2.2.2.2 n) (tl.take (A.2.2.2.2.2 n).length) 0 e eb lt.symm hm
      have ge : ∀ (j : Nat) (xs : List Int), (∀ x ∈ xs, T2 x = Ta x) → gsc n T2 j xs = gsc n Ta j xs := by
        intro j xs
        induction xs generalizing j with
        | nil => intro _; rfl
        | cons y ys ih => intro hh; simp only [gsc]; rw [hh y (by simp), ih (j + 1) (fun x hx => hh x (by simp [hx]))]
      refine ⟨fun x hx => ⟨?_, ?_⟩, fun x hx => ?_⟩
      · refine tyR N hm he _ La T Ta B fa nd2.1 (fun z hz => hL1 z (ia z hz)) hd (fun d hd' z => hr1 d hd' (ia _ z)) ha a2 (fun z hz => ?_) (fun d hd' => ?_) x hx
        · rw [hBx z (ia z hz)]
          exact kBoR_fr (kBo_fr A ds f) _ _ (Ld ++ Lb) _ fdb z (dis z hz)
        · rw [D23 d hd']
          exact kRow_fr (kGo_fr A ds f) _ _ (Ld ++ Lb) Ta T3 fdb h3 _ (fun z => hr1 d hd' (ib _ z))
      · rw [a2 x (fT_sub fa x hx)]
        exact of_decide_eq_true (List.all_eq_true.mp hG2.2 x hx)
      · rw [ge 0 _ (fun y hy => a2 y (fT_sub fa y hy))]
        exact tyN_m A ds T2 B2 f _ _ x gz.2 (tyR N gz.1 (kBind_in _ _ e rga.1 hG2.2 he) _ (Ld ++ Lb) Ta T3 _ fdb ndb (fun z hz => hL1 z (ib z hz)) (fun d hd' => rga.2 _ (hd d hd')) (fun d hd' z => hr1 d hd' (ib _ z)) h3 (fun z hz => T23 z (ib z hz)) (fun z hz => hBx z (ib z hz)) D23 x hx)
    · have hp := part _ (by rw [if_neg c1, if_neg c2])
      have hBx := B2p _ hp
      unfold kParts at h3
      simp only [c1, c2, if_false] at h3
      exact tyR N hm he _ L1 T T3 B w2 hN1 hL1 hd hr1 h3 T23 hBx D23
