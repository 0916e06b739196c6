/-! lookAt of the reference is kTy: all kinds. -/
theorem rg_two (σ : sg_S) (n q ty : Int) : sg_g (sg_w (sg_w σ 102 n q) 101 n ty) 101 = sg_g (sg_w σ 101 n ty) 101 := by
  funext j
  rw [sg_gw, sg_gw_c σ 102 101 n j q (by decide), sg_gw]
theorem kDx_r {ds : kD} {w q : Int} (h : kDx ds w = some q) : 0 ≤ q ∧ q < ds.length := by
  induction ds with
  | nil => cases h
  | cons x l ih =>
    unfold kDx at h
    split at h
    · cases h; simp only [List.length_cons]; omega
    · have := ih h; simp only [List.length_cons]; omega
theorem q_lookAt {σ : sg_S} {A : aT} {ds : kD} {e eb : kE} {n : Int} {Q : sg_S → Prop} (h : trT σ A) (hn : 0 ≤ n ∧ n < A.1) (ht : ∀ y ∈ kTs σ A n, 0 ≤ y ∧ y ≤ 3) (he : kPs σ e eb) (hel : e.length ≤ 300) (hd : dsR σ (sg_g σ 88 45) ds) (hl : ds.length ≤ 12) (hr : ∀ d ∈ ds, 0 ≤ d.2.2 ∧ d.2.2 < A.1) (h3 : A.2.1 n = 3 → (A.2.2.2.2.1 n).length = 3) (h0 : 0 ≤ A.2.1 n) (k1 : ∀ σ', kTy A ds (sg_g σ 101) e n (kTs σ A n) = none → ¬ sg_g σ' 88 29 = 0 → sg_F [101, 102, 30088, 31088] σ σ' → Q σ') (k2 : ∀ σ' ty, kTy A ds (sg_g σ 101) e n (kTs σ A n) = some ty → sg_R ty → sg_g σ' 101 = sg_g (sg_w σ 101 n ty) 101 → sg_g σ' 102 = kUp A ds eb n (sg_g σ 102) → sg_F [101, 102] σ σ' → Q σ') : V_lookAt σ n Q := by
  have h200 := h.1.2.2.1
  obtain ⟨a1, a2, a3, a4, a5, a6, a7⟩ := h.1.2.2.2 n hn.1 hn.2
  have hlen : (kTs σ A n).length = (A.2.2.2.2.1 n).length := List.length_map _
  have hn2 : 0 ≤ n ∧ n < 210 := by omega
  have hg : ∀ j, 0 ≤ (kTs σ A n).getD j 0 ∧ (kTs σ A n).getD j 0 ≤ 3 := fun j => by
    rw [List.getD_eq_getElem?_getD]
    cases e : (kTs σ A n)[j]? with
    | none => simp
    | some y => exact ht y (List.mem_of_getElem? e)
  unfold V_lookAt
  refine ⟨hn2, ⟨fun _ => trivial, fun x => ⟨(trT_kid h hn (j := 0) (by omega)).1, trivial⟩⟩, fun va ea _ => ⟨⟨fun _ => trivial, fun x => ⟨(trT_kid h hn (j := 1) (by omega)).1, trivial⟩⟩, fun vb ebv _ => ?_⟩⟩
  have ea := ea.trans (trT_a h hn 0)
  have ebv := ebv.trans (trT_a h hn 1)
  have g0 := hg 0
  have g1 := hg 1
  have j1 : ∀ σ', kTy A ds (sg_g σ 101) e n (kTs σ A n) = none → ¬ sg_g σ' 88 29 = 0 → sg_F [101, 30088, 31088] σ σ' → Q σ' := fun σ' x1 x2 x3 => k1 σ' x1 x2 (sg_F_m x3 rfl)
  have u0 : ¬ A.2.1 n = 1 → ¬ A.2.1 n = 13 → ∀ ty, sg_g (sg_w σ 101 n ty) 102 = kUp A ds eb n (sg_g σ 102) := fun z1 z2 ty => by
    unfold kUp
    rw [if_neg z1, if_neg z2]
    exact funext fun _ => sg_gw_c _ _ _ _ _ _ (by decide)
  have j2 : ¬ A.2.1 n = 1 → ¬ A.2.1 n = 13 → ∀ ty, kTy A ds (sg_g σ 101) e n (kTs σ A n) = some ty → sg_R ty → Q (sg_w σ 101 n ty) := fun z1 z2 ty x1 x2 => k2 _ ty x1 x2 rfl (u0 z1 z2 ty) (sg_F_w (sg_F_r _ _) rfl _)
  have key : ¬ A.2.1 n = 1 → ¬ A.2.1 n = 13 → ∀ (b : Bool) (is ty : Int), sg_R ty → kTy A ds (sg_g σ 101) e n (kTs σ A n) = kIs b ty → (is = 0 ↔ ¬ b = true) → V_typed σ n is ty (fun σ' => sg_F [101, 30088, 31088] σ σ' → Q σ') := fun z1 z2 b is ty x0 x1 x2 => q_ti hn2 x2 (fun σ' y1 y2 y3 => j1 σ' (x1.trans y1) y2 y3) (fun y => j2 z1 z2 ty (x1.trans y) x0)
  rw [a1]
  refine ⟨fun c => ?_, fun c0 => ⟨fun c => ?_, fun c1 => ⟨fun c => ?_, fun c2 => ⟨fun c => ?_, fun c3 => ⟨fun c => ?_, fun c11 => ⟨fun c => ?_, fun c12 => ⟨fun c => ?_, fun c13 => ⟨fun c => ?_, fun c14 => ⟨fun c => ?_, fun c15 => ?_⟩⟩⟩⟩⟩⟩⟩⟩⟩
  · unfold V_lookAt_0
    exact ⟨hn2, fun σ2 e2 => by rw [e2]; exact j2 (by omega) (by omega) 0 (by simp [kTy, c]) (by decide)⟩
  · have hk : kTy A ds (sg_g σ 101) e n (kTs σ A n) = kFind e (A.2.2.2.1 n) := by simp [kTy, c]
    unfold V_lookAt_1
    rw [a3]
    refine ⟨hn2, q_knownAt he hel (fun x _ _ => ⟨fun y => absurd y (by decide), fun _ => q_wrong (by decide) (fun σ' y1 y2 _ => j1 σ' (hk.trans x) y1 (sg_F_m y2 rfl))⟩) (fun j x xb y z _ => ⟨fun _ => ⟨⟨y, by omega⟩, fun σ10 e10 σ13 e13 => ?_⟩, fun w => absurd w (by omega)⟩)⟩
    refine k2 σ13 _ (hk.trans x) (sg_Rg _ _ _) ?_ ?_ ?_
    · rw [e13, e10]; exact rg_two _ _ _ _
    · unfold kUp
      rw [if_pos c, xb, e13, e10]
      funext m
      rw [sg_gw_c _ _ _ _ _ _ (by decide)]
      by_cases cm : m = n
      · rw [cm, sg_gw_e _ _ _ _ (sg_Rg _ _ _)]; simp only [aU, if_true]
      · rw [sg_gw_k _ _ _ _ _ _ cm]; simp only [aU, cm, if_false]
    · rw [e13, e10]; exact sg_F_w (sg_F_w (sg_F_r _ _) rfl _) rfl _
  · unfold V_lookAt_2
    exact ⟨hn2, fun σ2 e2 => by rw [e2, ebv]; exact j2 (by omega) (by omega) _ (by simp [kTy, c]) ⟨by omega, by omega⟩⟩
  · have t := trT_kid h hn (j := 2) (by have := h3 c; omega)
    have t2 : (kTs σ A n).getD 2 0 = v_kidType σ n 2 := by rw [List.getD_eq_getElem?_getD, t.2]; rfl
    unfold V_lookAt_3
    refine ⟨⟨fun _ => trivial, fun _ => ⟨t.1, fun _ => trivial, fun _ => trivial⟩⟩, fun v3 e3 _ => key (by omega) (by omega) (decide (va = 0) && decide (vb = v_kidType σ n 2)) _ _ ⟨by omega, by omega⟩ (by rw [ea, ebv, ← t2]; simp [kTy, c]) (by rw [e3]; grind)⟩
  · unfold V_lookAt_11
    exact fun v3 e3 _ => key (by omega) (by omega) (decide (0 < va)) _ _ (by decide) (by rw [ea]; simp [kTy, c]) (by rw [e3]; grind)
  · unfold V_lookAt_12
    exact fun v3 e3 _ => ⟨⟨by omega, by omega⟩, key (by omega) (by omega) (decide (0 < va) && decide (vb = 0)) _ _ ⟨by omega, by omega⟩ (by rw [ea, ebv]; simp [kTy, c]) (by rw [e3]; grind)⟩
  · have hk : kTy A ds (sg_g σ 101) e n (kTs σ A n) = (match kDef ds (A.2.2.2.1 n) with
      | none => none
      | some (ps, r) => kIs (decide (kTs σ A n = ps)) (sg_g σ 101 r)) := by simp only [kTy, c]; rfl
    unfold V_lookAt_13
    refine q_lookCall h hn hd hl hr (fun σ' x1 x2 x3 _ => k1 σ' ?_ x2 x3) (fun q ps r x1 xq x2 _ => k2 (sg_w (sg_w σ 102 n q) 101 n (sg_g σ 101 r)) (sg_g σ 101 r) ?_ (sg_Rg σ 101 r) ?_ ?_ ?_)
    · rw [hk]
      rcases x1 with x1 | ⟨ps, r, x1, x4⟩
      · rw [x1]
      · rw [x1]; exact x4
    · rw [hk, x1]; exact x2
    · exact rg_two _ _ _ _
    · have qr := kDx_r xq
      have := h.1.2.2.1
      unfold kUp
      rw [if_neg (by omega), if_pos c, xq]
      funext m
      rw [sg_gw_c _ _ _ _ _ _ (by decide)]
      by_cases cm : m = n
      · rw [cm, sg_gw_e _ _ _ _ ⟨by omega, by omega⟩]; simp only [aU, if_true]
      · rw [sg_gw_k _ _ _ _ _ _ cm]; simp only [aU, cm, if_false]
    · exact sg_F_w (sg_F_w (sg_F_r _ _) rfl _) rfl _
  · have hk : kTy A ds (sg_g σ 101) e n (kTs σ A n) = kIs ((kTs σ A n).all (fun x => decide (x = va))) (va + 1) := by rw [ea]; simp only [kTy, c]; rfl
    exact q_row h hn ea (by omega) (fun σ' x1 x2 x3 => j1 σ' (hk.trans x1) x2 x3) (fun x => j2 (by omega) (by omega) _ (hk.trans x) ⟨by omega, by omega⟩)
  · have hk : kTy A ds (sg_g σ 101) e n (kTs σ A n) = kIs (decide ((kTs σ A n).length ≠ 2 + (A.2.2.2.2.2 n).length) || decide ((kTs σ A n).getD ((kTs σ A n).length - 1) 0 = 0)) (va + 1) := by rw [ea]; simp only [kTy, c]; rfl
    exact q_each h hn (by omega) (fun σ' x1 x2 x3 => j1 σ' (hk.trans x1) x2 x3) (fun x => j2 (by omega) (by omega) _ (hk.trans x) ⟨by omega, by omega⟩)
  · unfold V_lookAt_d
    rw [a1]
    refine ⟨hn2, fun c => ?_, fun c v11 e11 _ => key (by omega) (by omega) (decide (va = 0) && decide (vb = 0)) _ _ (by decide) (by rw [ea, ebv]; simp only [kTy, c0, c1, c2, c3, c, if_false, if_true]) (by rw [e11]; grind)⟩
    have hk : kTy A ds (sg_g σ 101) e n (kTs σ A n) = kAct (A.2.1 n) (kTs σ A n) := by simp only [kTy, c0, c1, c2, c3, c11, c12, c13, c14, c15, show ¬ A.2.1 n < 11 by omega, if_false]
    refine q_lookAct h hn ht (fun σ' x1 x2 x3 _ => j1 σ' (hk.trans x1) x2 x3) (fun ty x _ => k2 _ ty (hk.trans x) ?_ rfl (u0 (by omega) (by omega) ty) (sg_F_w (sg_F_r _ _) rfl _))
    have kI : ∀ b t, kIs b t = some ty → ty = t := fun b t y => by
      unfold kIs at y
      split at y
      · exact (Option.some.inj y).symm
      · cases y
    simp only [kAct] at x
    repeat' split at x
    all_goals (have := kI _ _ x; exact ⟨by omega, by omega⟩)
/-! THE TREE IS A FOREST: each node stands once, with as many parts as its kind has. -/
def nWk (k : Int) (m g : Nat) : Prop := (0 ≤ k ∧ k ≤ 27) ∧ (k ≤ 1 → m = 0) ∧ (k = 2 ∨ (4 ≤ k ∧ k ≤ 10) ∨ k = 12 → m = 2) ∧ (k = 3 → m = 3) ∧ (k = 11 → m = 1) ∧ (k = 14 → 1 ≤ m) ∧ (k = 15 → (m = 1 + g ∨ m = 2 + g) ∧ g ≤ 4) ∧ ((¬ k = 15 → g = 0) ∧ (k = 15 → 1 ≤ g))
def nW (A : aT) (n : Int) : Prop := nWk (A.2.1 n) (A.2.2.2.2.1 n).length (A.2.2.2.2.2 n).length
def fT (A : aT) (R L : List Int) : Prop := ∀ P : List Int → List Int → Prop, P [] [] → (∀ n ns L1 L2, nW A n → P (A.2.2.2.2.1 n) L1 → P ns L2 → P (n :: ns) (n :: (L1 ++ L2))) → P R L
theorem fT_z (A : aT) : fT A [] [] := fun _ a _ => a
theorem fT_c {A : aT} {n : Int} {ns L1 L2 : List Int} (hw : nW A n) (h1 : fT A (A.2.2.2.2.1 n) L1) (h2 : fT A ns L2) : fT A (n :: ns) (n :: (L1 ++ L2)) := fun P a b => b n ns L1 L2 hw (h1 P a b) (h2 P a b)
theorem fT_ind {A : aT} {M : List Int → List Int → Prop} (z : M [] []) (c : ∀ n ns L1 L2, nW A n → fT A (A.2.2.2.2.1 n) L1 → fT A ns L2 → M (A.2.2.2.2.1 n) L1 → M ns L2 → M (n :: ns) (n :: (L1 ++ L2))) {R L : List Int} (h : fT A R L) : M R L :=
  (h (fun R L => fT A R L ∧ M R L) ⟨fT_z A, z⟩ (fun n ns L1 L2 hw p q => ⟨fT_c hw p.1 q.1, c n ns L1 L2 hw p.1 q.1 p.2 q.2⟩)).2
theorem fT_e {A A' : aT} {R L : List Int} (h : fT A R L) : (∀ x ∈ L, A'.2.1 x = A.2.1 x ∧ A'.2.2.2.2.1 x = A.2.2.2.2.1 x ∧ A'.2.2.2.2.2 x = A.2.2.2.2.2 x) → fT A' R L := by
  refine fT_ind (M := fun R L => (∀ x ∈ L, A'.2.1 x = A.2.1 x ∧ A'.2.2.2.2.1 x = A.2.2.2.2.1 x ∧ A'.2.2.2.2.2 x = A.2.2.2.2.2 x) → fT A' R L) (fun _ => fT_z A') (fun n ns L1 L2 hw h1 h2 ih1 ih2 => ?_) h
  intro k
  obtain ⟨a1, a2, a3⟩ := k n (by simp)
  refine fT_c ?_ ?_ (ih2 (fun x hx => k x (by simp [hx])))
  · unfold nW; rw [a1, a2, a3]; exact hw
  · rw [a2]; exact ih1 (fun x hx => k x (by simp [hx]))
theorem fT_app {A : aT} {R L R' L' : List Int} (h : fT A R L) (h' : fT A R' L') : fT A (R ++ R') (L ++ L') := by
  refine fT_ind (M := fun R L => fT A (R ++ R') (L ++ L')) h' (fun n ns L1 L2 hw h1 h2 ih1 ih2 => ?_) h
  simp only [List.cons_append, List.append_assoc]
  exact fT_c hw h1 ih2
theorem fT_one {A : aT} {n : Int} {L : List Int} (hw : nW A n) (h : fT A (A.2.2.2.2.1 n) L) : fT A [n] (n :: L) := by
  have := fT_c (L2 := []) hw h (fT_z A)
  rwa [List.append_nil] at this
/-- node q with all below it, from b on -/
def cT (A : aT) (b q : Int) : Prop := ∃ L, fT A [q] L ∧ L.Nodup ∧ ∀ x ∈ L, b ≤ x ∧ x < A.1
/-- the same, and no other node from b on -/
def cTc (A : aT) (b q : Int) : Prop := ∃ L, fT A [q] L ∧ L.Nodup ∧ (∀ x ∈ L, b ≤ x ∧ x < A.1) ∧ ∀ x, b ≤ x → x < A.1 → x ∈ L
theorem cTc_t {A : aT} {b q : Int} (h : cTc A b q) : cT A b q := by
  obtain ⟨L, a, b, c, -⟩ := h
  exact ⟨L, a, b, c⟩
/-- node n of kind kd is open: its parts so far -/
def oT (A : aT) (b n kd : Int) (ks : List Int) (g : Nat) : Prop := (b ≤ n ∧ n < A.1) ∧ A.2.1 n = kd ∧ A.2.2.2.2.1 n = ks ∧ (A.2.2.2.2.2 n).length = g ∧ ∃ L, fT A ks L ∧ L.Nodup ∧ (∀ x ∈ L, (b ≤ x ∧ x < A.1) ∧ ¬ x = n) ∧ ∀ x, b ≤ x → x < A.1 → x ∈ L ∨ x = n
theorem cT_g {A A' : aT} {b q : Int} (h : cT A b q) (g : gr A A') : cT A' b q := by
  obtain ⟨L, h1, h2, h3⟩ := h
  refine ⟨L, fT_e h1 (fun x hx => ?_), h2, fun x hx => ⟨(h3 x hx).1, by have := (h3 x hx).2; have := g.1; omega⟩⟩
  obtain ⟨a1, a2, a3, a4, a5⟩ := g.2 x (h3 x hx).2
  exact ⟨a1, a4, a5⟩
theorem cT_b {A : aT} {b b' q : Int} (h : cT A b q) (hb : b' ≤ b) : cT A b' q := by
  obtain ⟨L, h1, h2, h3⟩ := h
  exact ⟨L, h1, h2, fun x hx => ⟨by have := (h3 x hx).1; omega, (h3 x hx).2⟩⟩
theorem oT_mk (A : aT) (kd p w : Int) : oT (aNew A kd p w) A.1 A.1 kd [] 0 := by
  refine ⟨⟨Int.le_refl _, by simp only [aNew_1]; omega⟩, ?_, ?_, ?_, [], fT_z _, List.nodup_nil, by simp, fun x a b => Or.inr (by simp only [aNew_1] at b; omega)⟩ <;> simp [aNew, aU]
theorem oT_x {A A' : aT} {b n kd : Int} {ks ks' : List Int} {g g' : Nat} (h : oT A b n kd ks g) (h1 : A'.1 = A.1) (hx : ∀ x, ¬ x = n → A'.2.1 x = A.2.1 x ∧ A'.2.2.2.2.1 x = A.2.2.2.2.1 x ∧ A'.2.2.2.2.2 x = A.2.2.2.2.2 x) (hk : A'.2.1 n = kd) (hs : A'.2.2.2.2.1 n = ks') (hg : (A'.2.2.2.2.2 n).length = g') (hn : ∃ L, fT A ks' L ∧ L.Nodup ∧ (∀ x ∈ L, (b ≤ x ∧ x < A.1) ∧ ¬ x = n) ∧ ∀ x, b ≤ x → x < A.1 → x ∈ L ∨ x = n) : oT A' b n kd ks' g' := by
  obtain ⟨L, a1, a2, a3, a4⟩ := hn
  refine ⟨by rw [h1]; exact h.1, hk, hs, hg, L, fT_e a1 (fun x m => hx x (a3 x m).2), a2, by rw [h1]; exact a3, by rw [h1]; exact a4⟩
theorem oT_add {A A' : aT} {b n kd q : Int} {ks : List Int} {g : Nat} (h : oT A b n kd ks g) (hg : gr A A') (hq : cTc A' A.1 q) : oT (aKid A' n q) b n kd (ks ++ [q]) g := by
  obtain ⟨⟨h1, h2⟩, h3, h4, h5, L, l1, l2, l3, l4⟩ := h
  obtain ⟨M, m1, m2, m3, m4⟩ := hq
  obtain ⟨a1, a2, a3, a4, a5⟩ := hg.2 n h2
  have hl := hg.1
  have lf : fT A' ks L := fT_e l1 (fun x hx => ⟨(hg.2 x (l3 x hx).1.2).1, (hg.2 x (l3 x hx).1.2).2.2.2.1, (hg.2 x (l3 x hx).1.2).2.2.2.2⟩)
  have e : ∀ x, ¬ x = n → (aKid A' n q).2.1 x = A'.2.1 x ∧ (aKid A' n q).2.2.2.2.1 x = A'.2.2.2.2.1 x ∧ (aKid A' n q).2.2.2.2.2 x = A'.2.2.2.2.2 x := fun x hx => by simp only [aKid, aU_n _ _ hx, and_self]
  refine ⟨⟨h1, by simp only [aKid_1]; omega⟩, a1.trans h3, ?_, ?_, L ++ M, fT_e (fT_app lf m1) (fun x hx => e x ?_), ?_, ?_, ?_⟩
  · simp [aKid, aU, a4, h4]
  · simp only [aKid, a5]; exact h5
  · rcases List.mem_append.mp hx with z | z
    · exact (l3 x z).2
    · have := (m3 x z).1
      omega
  · rw [List.nodup_append]
    refine ⟨l2, m2, fun x hx y hy => ?_⟩
    have := (l3 x hx).1.2
    have := (m3 y hy).1
    omega
  · intro x hx
    rcases List.mem_append.mp hx with e | e
    · exact ⟨⟨(l3 x e).1.1, by have := (l3 x e).1.2; simp only [aKid_1]; omega⟩, (l3 x e).2⟩
    · have := m3 x e
      exact ⟨⟨by omega, by simp only [aKid_1]; omega⟩, by omega⟩
  · intro x y z
    simp only [aKid_1] at z
    by_cases c : x < A.1
    · rcases l4 x y c with w | w
      · exact Or.inl (List.mem_append_left _ w)
      · exact Or.inr w
    · exact Or.inl (List.mem_append_right _ (m4 x (by omega) z))
theorem oT_wd {A : aT} {b n kd w : Int} {ks : List Int} {g : Nat} (h : oT A b n kd ks g) : oT (aWd A n w) b n kd ks g := oT_x h rfl (fun _ _ => ⟨rfl, rfl, rfl⟩) h.2.1 h.2.2.1 h.2.2.2.1 h.2.2.2.2
theorem oT_gn {A : aT} {b n kd w p : Int} {ks : List Int} {g : Nat} (h : oT A b n kd ks g) : oT (aGn A n w p) b n kd ks (g + 1) := oT_x h rfl (fun x hx => by simp only [aGn, aU_n _ _ hx, and_self]) h.2.1 h.2.2.1 (by simp [aGn, aU, h.2.2.2.1]) h.2.2.2.2
theorem oT_c {A : aT} {b n kd : Int} {ks : List Int} {g : Nat} (h : oT A b n kd ks g) {m : Nat} (hm : ks.length = m) (hw : nWk kd m g) : cTc A b n := by
  subst hm
  obtain ⟨⟨h1, h2⟩, h3, h4, h5, L, l1, l2, l3, l4⟩ := h
  refine ⟨n :: L, fT_one (by unfold nW; rw [h3, h4, h5]; exact hw) (by rw [h4]; exact l1), ?_, ?_, ?_⟩
  · exact List.nodup_cons.mpr ⟨fun x => (l3 n x).2 rfl, l2⟩
  · intro x hx
    rcases List.mem_cons.mp hx with e | e
    · subst e; exact ⟨h1, h2⟩
    · exact (l3 x e).1
  · intro x y z
    rcases l4 x y z with w | w
    · exact List.mem_cons_of_mem _ w
    · rw [w]; simp
/-- a new node whose first part stands already -/
theorem oT_mkl {A : aT} {b l : Int} (kd p w : Int) (h : cTc A b l) (hb : b ≤ A.1) : oT (aKid (aNew A kd p w) A.1 l) b A.1 kd [l] 0 := by
  obtain ⟨M, m1, m2, m3, m4⟩ := h
  have e : ∀ x, ¬ x = A.1 → (aKid (aNew A kd p w) A.1 l).2.1 x = A.2.1 x ∧ (aKid (aNew A kd p w) A.1 l).2.2.2.2.1 x = A.2.2.2.2.1 x ∧ (aKid (aNew A kd p w) A.1 l).2.2.2.2.2 x = A.2.2.2.2.2 x := fun x hx => by simp [aKid, aNew, aU, hx]
  refine ⟨⟨hb, by simp only [aKid_1, aNew_1]; omega⟩, ?_, ?_, ?_, M, fT_e m1 (fun x hx => e x (by have := (m3 x hx).2; omega)), m2, fun x hx => ?_, fun x y z => ?_⟩
  · simp [aKid, aNew, aU]
  · simp [aKid, aNew, aU]
  · simp [aKid, aNew, aU]
  · have := m3 x hx
    exact ⟨⟨this.1, by simp only [aKid_1, aNew_1]; omega⟩, by omega⟩
  · simp only [aKid_1, aNew_1] at z
    by_cases c : x < A.1
    · exact Or.inl (m4 x y c)
    · exact Or.inr (by omega)
def tF (F : aF) : Prop := ∀ i A i' A' q, F i A = some (i', A', q) → 0 ≤ A.1 ∧ A.1 ≤ 200 → cTc A' A.1 q
def tL (G : Int → aF) : Prop := ∀ l i A i' A' q, G l i A = some (i', A', q) → 0 ≤ A.1 ∧ A.1 ≤ 200 → ∀ b, b ≤ A.1 → cTc A b l → cTc A' b q
def qF (q0 : Nat → Option Int) : Prop := ∀ i kd, q0 i = some kd → 4 ≤ kd ∧ kd ≤ 10
section FRS
variable {t : aK}
theorem qF_C : qF (aqC t) := fun i kd h => by
  unfold aqC at h
  repeat' split at h
  all_goals cases h
  all_goals omega
theorem qF_S : qF (aqS t) := fun i kd h => by
  unfold aqS at h
  repeat' split at h
  all_goals cases h
  all_goals omega
theorem qF_P : qF (aqP t) := fun i kd h => by
  unfold aqP at h
  repeat' split at h
  all_goals cases h
  all_goals omega
theorem tF_n : tF (fun _ _ => none) := fun _ _ _ _ _ h _ => by cases h
theorem t_btw {kd : Int} {S : aF} (hS : gF S) (hT : tF S) (hk : 4 ≤ kd ∧ kd ≤ 10) {l : Int} {i : Nat} {A : aT} {i' : Nat} {A' : aT} {q : Int} (h : aBtw t kd S l i A = some (i', A', q)) (h0 : 0 ≤ A.1 ∧ A.1 ≤ 200) {b : Int} (hb : b ≤ A.1) (hl : cTc A b l) : cTc A' b q := by
  unfold aBtw at h
  split at h
  · cases h
  · rename_i A1 n hm
    obtain ⟨e, hn⟩ := mk_s hm
    cases e
    split at h
    · cases h
    · rename_i i2 A2 r he
      cases h
      have z : 0 ≤ (aKid (aNew A kd (t.2.2 i) (t.2.1 i)) A.1 l).1 ∧ (aKid (aNew A kd (t.2.2 i) (t.2.1 i)) A.1 l).1 ≤ 200 := by simp only [aKid_1, aNew_1]; omega
      exact oT_c (oT_add (oT_mkl kd _ _ hl hb) (hS _ _ _ _ _ he z).1 (hT _ _ _ _ _ he z)) (m := 2) rfl ⟨by omega, by omega, by omega, by omega, by omega, by omega, fun _ => by omega, by omega⟩
theorem tF_let {E : aF} (hE : gF E) (hT : tF E) : tF (aLet t E) := by
  intro i A i' A' q h h0
  unfold aLet at h
  split at h
  · cases h
  · rename_i A1 n hm
    obtain ⟨e, hn⟩ := mk_s hm
    cases e
    split at h
    · split at h
      · split at h
        · cases h
        · rename_i i2 A2 a he
          have z1 : 0 ≤ (aWd (aNew A 2 (t.2.2 i) (t.2.1 i)) A.1 (t.2.1 (i + 1))).1 ∧ (aWd (aNew A 2 (t.2.2 i) (t.2.1 i)) A.1 (t.2.1 (i + 1))).1 ≤ 200 := by simp only [aWd_1, aNew_1]; omega
          obtain ⟨g1, g2, g3, g4⟩ := hE _ _ _ _ _ he z1
          have g5 := g1.1
          have o := oT_add (oT_wd (oT_mk A 2 _ _)) g1 (hT _ _ _ _ _ he z1)
          split at h
          · split at h
            · cases h
            · rename_i i3 A3 b hf
              cases h
              have z2 : 0 ≤ (aKid A2 A.1 a).1 ∧ (aKid A2 A.1 a).1 ≤ 200 := by simp only [aKid_1]; omega
              exact oT_c (oT_add o (hE _ _ _ _ _ hf z2).1 (hT _ _ _ _ _ hf z2)) (m := 2) rfl ⟨by omega, by omega, by omega, by omega, by omega, by omega, fun _ => by omega, by omega⟩
          · cases h
      · cases h
    · cases h
theorem tF_if {E : aF} (hE : gF E) (hT : tF E) : tF (aIf t E) := by
  intro i A i' A' q h h0
  unfold aIf at h
  split at h
  · cases h
  · rename_i A1 n hm
    obtain ⟨e, hn⟩ := mk_s hm
    cases e
    split at h
    · cases h
    · rename_i i2 A2 a he
      have z1 : 0 ≤ (aNew A 3 (t.2.2 i) (t.2.1 i)).1 ∧ (aNew A 3 (t.2.2 i) (t.2.1 i)).1 ≤ 200 := by simp only [aNew_1]; omega
      obtain ⟨g1, g2, g3, g4⟩ := hE _ _ _ _ _ he z1
      have g5 := g1.1
      have o := oT_add (oT_mk A 3 _ _) g1 (hT _ _ _ _ _ he z1)
      split at h
      · split at h
        · cases h
        · rename_i i3 A3 b hf
          have z2 : 0 ≤ (aKid A2 A.1 a).1 ∧ (aKid A2 A.1 a).1 ≤ 200 := by simp only [aKid_1]; omega
          obtain ⟨k1, k2, k3, k4⟩ := hE _ _ _ _ _ hf z2
          have k5 := k1.1
          have o2 := oT_add o k1 (hT _ _ _ _ _ hf z2)
          simp only [aKid_1] at k5
          split at h
          · split at h
            · cases h
            · rename_i i4 A4 c hg
              cases h
              have z3 : 0 ≤ (aKid A3 A.1 b).1 ∧ (aKid A3 A.1 b).1 ≤ 200 := by simp only [aKid_1]; omega
              exact oT_c (oT_add o2 (hE _ _ _ _ _ hg z3).1 (hT _ _ _ _ _ hg z3)) (m := 3) rfl ⟨by omega, by omega, by omega, by omega, by omega, by omega, fun _ => by omega, by omega⟩
          · cases h
      · cases h
theorem tL_cmp {S : aF} (hS : gF S) (hT : tF S) : tL (aCmpR t S) := by
  intro l i A i' A' q h h0 b hb hl
  unfold aCmpR at h
  split at h
  · cases h
    exact hl
  · rename_i kd hq
    exact t_btw hS hT (qF_C _ _ hq) h h0 hb hl
theorem tL_rowL {q0 : Nat → Option Int} (hq0 : qF q0) {S : aF} (hS : gF S) (hT : tF S) : ∀ m, tL (aRowL t q0 S m)
  | 0 => by
    intro l i A i' A' q h h0 b hb hl
    unfold aRowL at h
    cases h
    exact hl
  | m + 1 => by
    intro l i A i' A' q h h0 b hb hl
    unfold aRowL at h
    split at h
    · cases h
      exact hl
    · rename_i kd hq
      split at h
      · cases h
      · rename_i i2 A2 n hb2
        obtain ⟨g1, g2, g3, g4, g5⟩ := gF_btw hS hb2 h0
        exact tL_rowL hq0 hS hT m _ _ _ _ _ _ h (by omega) b (by omega) (t_btw hS hT (hq0 _ _ hq) hb2 h0 hb hl)
theorem tF_after {S : aF} {G : Int → aF} (hS : gF S) (hT : tF S) (hG : tL G) {i : Nat} {A : aT} {i1 : Nat} {A1 : aT} {l : Int} (h1 : S i A = some (i1, A1, l)) {i' : Nat} {A' : aT} {q : Int} (h2 : G l i1 A1 = some (i', A', q)) (h0 : 0 ≤ A.1 ∧ A.1 ≤ 200) : cTc A' A.1 q := by
  obtain ⟨g1, g2, g3, g4⟩ := hS _ _ _ _ _ h1 h0
  have g5 := g1.1
  exact hG _ _ _ _ _ _ h2 (by omega) _ g5 (hT _ _ _ _ _ h1 h0)
theorem tF_cmp {S : aF} (hS : gF S) (hT : tF S) : tF (aCmp t S) := by
  intro i A i' A' q h h0
  unfold aCmp at h
  split at h
  · cases h
  · rename_i i1 A1 l he
    exact tF_after hS hT (tL_cmp hS hT) he h h0
theorem tF_row {q0 : Nat → Option Int} (hq : qF q0) {S : aF} (hS : gF S) (hT : tF S) : tF (aRow t q0 S) := by
  intro i A i' A' q h h0
  unfold aRow at h
  split at h
  · cases h
  · rename_i i1 A1 l he
    unfold aRowR at h
    exact tF_after hS hT (tL_rowL hq hS hT _) he h h0
theorem t_idx {E : aF} (hE : gF E) (hT : tF E) {l : Int} {i : Nat} {A : aT} {i' : Nat} {A' : aT} {q : Int} (h : aIdx t E l i A = some (i', A', q)) (h0 : 0 ≤ A.1 ∧ A.1 ≤ 200) {b : Int} (hb : b ≤ A.1) (hl : cTc A b l) : cTc A' b q := by
  unfold aIdx at h
  split at h
  · cases h
  · rename_i A1 n hm
    obtain ⟨e, hn⟩ := mk_s hm
    cases e
    split at h
    · cases h
    · rename_i i2 A2 r he
      split at h
      · cases h
        have z : 0 ≤ (aKid (aNew A 12 (t.2.2 i) (t.2.1 i)) A.1 l).1 ∧ (aKid (aNew A 12 (t.2.2 i) (t.2.1 i)) A.1 l).1 ≤ 200 := by simp only [aKid_1, aNew_1]; omega
        exact oT_c (oT_add (oT_mkl 12 _ _ hl hb) (hE _ _ _ _ _ he z).1 (hT _ _ _ _ _ he z)) (m := 2) rfl ⟨by omega, by omega, by omega, by omega, by omega, by omega, fun _ => by omega, by omega⟩
      · cases h
theorem tL_behL {w : Bool} {E : aF} (hE : gF E) (hT : tF E) : ∀ m, tL (aBehL t w E m)
  | 0 => by
    intro l i A i' A' q h h0 b hb hl
    unfold aBehL at h
    cases h
    exact hl
  | m + 1 => by
    intro l i A i' A' q h h0 b hb hl
    unfold aBehL at h
    split at h
    · split at h
      · split at h
        · cases h
        · rename_i i2 A2 n hb2
          obtain ⟨g1, g2, g3, g4, g5⟩ := gF_idx hE hb2 h0
          exact tL_behL hE hT m _ _ _ _ _ _ h (by omega) b (by omega) (t_idx hE hT hb2 h0 hb hl)
      · cases h
    · cases h
      exact hl
theorem t_lstL {E : aF} (hE : gF E) (hT : tF E) {b n kd ch : Int} : ∀ (m : Nat) (i : Nat) (A : aT) (i' : Nat) (A' : aT) (ks : List Int), aLstL t E n ch m i A = some (i', A') → oT A b n kd ks 0 → 0 ≤ A.1 ∧ A.1 ≤ 200 → ∃ ks', oT A' b n kd ks' 0 ∧ 1 ≤ ks'.length
  | 0, i, A, i', A', ks, h, _, _ => by unfold aLstL at h; cases h
  | m + 1, i, A, i', A', ks, h, ho, h0 => by
    unfold aLstL at h
    split at h
    · cases h
    · rename_i i1 A1 r he
      obtain ⟨g1, g2, g3, g4⟩ := hE _ _ _ _ _ he h0
      have g5 := g1.1
      have o := oT_add ho g1 (hT _ _ _ _ _ he h0)
      split at h
      · exact t_lstL hE hT m _ _ _ _ _ h o (by simp only [aKid_1]; omega)
      · split at h
        · cases h
          exact ⟨_, o, by simp⟩
        · cases h
theorem t_lst {E : aF} (hE : gF E) (hT : tF E) {b n kd ch : Int} {i : Nat} {A : aT} {i' : Nat} {A' : aT} {q : Int} (h : aLst t E n ch i A = some (i', A', q)) (ho : oT A b n kd [] 0) (h0 : 0 ≤ A.1 ∧ A.1 ≤ 200) (hk : kd = 13 ∨ kd = 14 ∨ 16 ≤ kd ∧ kd ≤ 27) : cTc A' b q := by
  unfold aLst at h
  split at h
  · cases h
  · rename_i i1 A1 he
    cases h
    obtain ⟨ks, o, hl⟩ := t_lstL hE hT _ _ _ _ _ _ he ho h0
    exact oT_c o rfl ⟨by omega, by omega, by omega, by omega, by omega, by omega, fun _ => by omega, by omega⟩
theorem t_args {E : aF} (hE : gF E) (hT : tF E) {b n kd : Int} {i : Nat} {A : aT} {i' : Nat} {A' : aT} {q : Int} (h : aArgs t E n i A = some (i', A', q)) (ho : oT A b n kd [] 0) (h0 : 0 ≤ A.1 ∧ A.1 ≤ 200) (hk : kd = 13 ∨ 16 ≤ kd ∧ kd ≤ 27) : cTc A' b q := by
  unfold aArgs at h
  split at h
  · cases h
    exact oT_c ho (m := 0) rfl ⟨by omega, by omega, by omega, by omega, by omega, by omega, fun _ => by omega, by omega⟩
  · exact t_lst hE hT h ho h0 (by omega)
theorem act_i {w k v : Int} (hk : 16 ≤ k ∧ k ≤ 27) (h : v = 0 ∨ 16 ≤ v ∧ v ≤ 27) (c : Prop) [Decidable c] : (if ¬ c then v else k) = 0 ∨ 16 ≤ (if ¬ c then v else k) ∧ (if ¬ c then v else k) ≤ 27 := by
  by_cases e : c
  · rw [if_neg (fun x => x e)]; exact Or.inr hk
  · rw [if_pos e]; exact h
theorem act_k {w : Int} (h : ¬ v_actOf w = 0) : 16 ≤ v_actOf w ∧ v_actOf w ≤ 27 := by
  have k : v_actOf w = 0 ∨ 16 ≤ v_actOf w ∧ v_actOf w ≤ 27 := by
    unfold v_actOf
    iterate 12 refine act_i (w := w) (by decide) ?_ _
    exact Or.inl rfl
  rcases k with k | k
  · exact absurd k h
  · exact k
theorem tF_wrd {w : Bool} {E : aF} (hE : gF E) (hT : tF E) : tF (aWrd t w E) := by
  intro i A i' A' q h h0
  unfold aWrd at h
  split at h
  · split at h
    · split at h
      · split at h
        · cases h
        · rename_i A1 n hm
          obtain ⟨e, hn⟩ := mk_s hm
          cases e
          split at h
          · exact t_args hE hT h (oT_mk A 13 _ _) (by simp only [aNew_1]; omega) (by omega)
          · cases h
      · split at h
        · cases h
        · rename_i A1 n hm
          obtain ⟨e, hn⟩ := mk_s hm
          cases e
          cases h
          exact oT_c (oT_mk A 1 _ _) (m := 0) rfl ⟨by omega, by omega, by omega, by omega, by omega, by omega, fun _ => by omega, by omega⟩
    · cases h
  · rename_i ha
    split at h
    · cases h
    · rename_i A1 n hm
      obtain ⟨e, hn⟩ := mk_s hm
      cases e
      split at h
      · split at h
        · exact t_args hE hT h (oT_mk A _ _ _) (by simp only [aNew_1]; omega) (Or.inr (act_k ha))
        · cases h
      · cases h
theorem t_genL {E : aF} (hE : gF E) (hT : tF E) {b n kd : Int} : ∀ (m : Nat) (i : Nat) (A : aT) (i' : Nat) (A' : aT) (ks : List Int) (g : Nat), aGenL t E n m i A = some (i', A') → oT A b n kd ks g → ks.length = 1 + g → g + m = 4 → 0 ≤ A.1 ∧ A.1 ≤ 200 → (0 ≤ A'.1 ∧ A'.1 ≤ 200) ∧ ∃ ks' g', oT A' b n kd ks' g' ∧ ks'.length = 1 + g' ∧ 1 ≤ g' ∧ g' ≤ 4
  | 0, i, A, i', A', ks, g, h, _, _, _, _ => by unfold aGenL at h; cases h
  | m + 1, i, A, i', A', ks, g, h, ho, hl, hm, h0 => by
    unfold aGenL at h
    split at h
    · split at h
      · split at h
        · cases h
        · rename_i i1 A1 r he
          have z : 0 ≤ (aGn A n (t.2.1 i) (t.2.2 i)).1 ∧ (aGn A n (t.2.1 i) (t.2.2 i)).1 ≤ 200 := h0
          obtain ⟨g1, g2, g3, g4⟩ := hE _ _ _ _ _ he z
          have g5 := g1.1
          simp only [aGn_1] at g5
          have o := oT_add (oT_gn ho) g1 (hT _ _ _ _ _ he z)
          split at h
          · exact t_genL hE hT m _ _ _ _ _ _ h o (by simp only [List.length_append, List.length_cons, List.length_nil]; omega) (by omega) (by simp only [aKid_1]; omega)
          · cases h
            exact ⟨by simp only [aKid_1]; omega, _, _, o, by simp only [List.length_append, List.length_cons, List.length_nil]; omega, by omega, by omega⟩
      · cases h
    · cases h
theorem t_grd {E : aF} (hE : gF E) (hT : tF E) {b n : Int} {i : Nat} {A : aT} {i' : Nat} {A' : aT} {q : Int} {ks : List Int} {g : Nat} (h : aGrd t E n i A = some (i', A', q)) (ho : oT A b n 15 ks g) (hl : ks.length = 1 + g) (hg : 1 ≤ g ∧ g ≤ 4) (h0 : 0 ≤ A.1 ∧ A.1 ≤ 200) : cTc A' b q := by
  unfold aGrd aEnd at h
  split at h
  · split at h
    · cases h
    · rename_i i1 A1 r he
      obtain ⟨g1, g2, g3, g4⟩ := hE _ _ _ _ _ he h0
      have o := oT_add ho g1 (hT _ _ _ _ _ he h0)
      split at h
      · cases h
        exact oT_c o (m := 2 + g) (by simp only [List.length_append, List.length_cons, List.length_nil]; omega) ⟨by omega, by omega, by omega, by omega, by omega, by omega, fun _ => by omega, by omega⟩
      · cases h
  · split at h
    · cases h
      exact oT_c ho rfl ⟨by omega, by omega, by omega, by omega, by omega, by omega, fun _ => by omega, by omega⟩
    · cases h
theorem tF_each {E : aF} (hE : gF E) (hT : tF E) : tF (aEach t E) := by
  intro i A i' A' q h h0
  unfold aEach at h
  split at h
  · cases h
  · rename_i A1 n hm
    obtain ⟨e, hn⟩ := mk_s hm
    cases e
    split at h
    · cases h
    · rename_i i2 A2 b he
      have z : 0 ≤ (aNew A 15 (t.2.2 i) (t.2.1 i)).1 ∧ (aNew A 15 (t.2.2 i) (t.2.1 i)).1 ≤ 200 := by simp only [aNew_1]; omega
      obtain ⟨g1, g2, g3, g4⟩ := hE _ _ _ _ _ he z
      have g5 := g1.1
      simp only [aNew_1] at g5
      have o := oT_add (oT_mk A 15 _ _) g1 (hT _ _ _ _ _ he z)
      split at h
      · unfold aGens at h
        have og := o.2.2.2.1
        split at h
        · cases h
        · rename_i i3 A3 hg
          rw [og] at hg
          obtain ⟨x1, ks, g, x2, x3, x4⟩ := t_genL hE hT _ _ _ _ _ _ _ hg o (by simp) (by omega) (by simp only [aKid_1]; omega)
          exact t_grd hE hT h x2 x3 x4 x1
      · cases h
theorem tF_atm {w : Bool} {E : aF} (hE : gF E) (hT : tF E) : tF (aAtm t w E) := by
  intro i A i' A' q h h0
  unfold aAtm at h
  split at h
  · split at h
    · cases h
    · rename_i A1 n hm
      obtain ⟨e, hn⟩ := mk_s hm
      cases e
      cases h
      exact oT_c (oT_mk A 0 _ _) (m := 0) rfl ⟨by omega, by omega, by omega, by omega, by omega, by omega, fun _ => by omega, by omega⟩
  · split at h
    · exact tF_wrd hE hT _ _ _ _ _ h h0
    · split at h
      · split at h
        · unfold aPar at h
          split at h
          · cases h
          · rename_i i1 A1 r he
            split at h
            · cases h
              exact hT _ _ _ _ _ he h0
            · cases h
        · cases h
      · split at h
        · split at h
          · unfold aRw at h
            split at h
            · cases h
            · rename_i A1 n hm
              obtain ⟨e, hn⟩ := mk_s hm
              cases e
              exact t_lst hE hT h (oT_mk A 14 _ _) (by simp only [aNew_1]; omega) (by omega)
          · cases h
        · split at h
          · split at h
            · exact tF_each hE hT _ _ _ _ _ h h0
            · cases h
          · cases h
theorem tF_un {w : Bool} {E U : aF} (hE : gF E) (hU : gF U) (hT : tF E) (hV : tF U) : tF (aUn t w E U) := by
  intro i A i' A' q h h0
  unfold aUn at h
  split at h
  · split at h
    · split at h
      · cases h
      · rename_i A1 n hm
        obtain ⟨e, hn⟩ := mk_s hm
        cases e
        split at h
        · cases h
        · rename_i i2 A2 r he
          cases h
          have z : 0 ≤ (aNew A 11 (t.2.2 i) (t.2.1 i)).1 ∧ (aNew A 11 (t.2.2 i) (t.2.1 i)).1 ≤ 200 := by simp only [aNew_1]; omega
          exact oT_c (oT_add (oT_mk A 11 _ _) (hU _ _ _ _ _ he z).1 (hV _ _ _ _ _ he z)) (m := 1) rfl ⟨by omega, by omega, by omega, by omega, by omega, by omega, fun _ => by omega, by omega⟩
    · cases h
  · unfold aItm at h
    split at h
    · cases h
    · rename_i i1 A1 l he
      unfold aBeh at h
      exact tF_after (gF_atm hE) (tF_atm hE hT) (tL_behL hE hT _) he h h0
theorem tF_ex {w : Bool} {E U : aF} (hE : gF E) (hU : gF U) (hT : tF E) (hV : tF U) : tF (aEx t w E U) := by
  intro i A i' A' q h h0
  unfold aEx at h
  split at h
  · split at h
    · exact tF_let hE hT _ _ _ _ _ h h0
    · cases h
  · split at h
    · split at h
      · exact tF_if hE hT _ _ _ _ _ h h0
      · cases h
    · exact tF_cmp (gF_row (gF_row (gF_un hE hU))) (tF_row qF_S (gF_row (gF_un hE hU)) (tF_row qF_P (gF_un hE hU) (tF_un hE hU hT hV))) _ _ _ _ _ h h0
theorem tF_lv : ∀ f, tF (aLv t f).1 ∧ tF (aLv t f).2
  | 0 => ⟨tF_ex gF_n gF_n tF_n tF_n, tF_un gF_n gF_n tF_n tF_n⟩
  | f + 1 => ⟨tF_ex (gF_lv f).1 (gF_lv f).2 (tF_lv f).1 (tF_lv f).2, tF_un (gF_lv f).1 (gF_lv f).2 (tF_lv f).1 (tF_lv f).2⟩
/-- a PROGRAM's trees -/
theorem t_ty {N i i' : Nat} {ty : Int} (h : aTy t N i = some (i', ty)) : 0 ≤ ty := by
  have k : ∀ (m : Nat) (n : Int) (i : Nat), 0 ≤ n → 0 ≤ (aTyL t m n i).2 := by
    intro m
    induction m with
    | zero => intro n i h; exact h
    | succ m ih =>
      intro n i h
      unfold aTyL
      split
      · exact ih _ _ (by omega)
      · exact h
  unfold aTy at h
  split at h
  · split at h
    · cases h
    · cases h
      exact k _ _ _ (by omega)
  · cases h
theorem t_paL {N : Nat} : ∀ (m : Nat) (ps : List (Int × Int × Int)) (i i' : Nat) (ps' : List (Int × Int × Int)), aPaL t N m ps i = some (i', ps') → (∀ p ∈ ps, 0 ≤ p.2.2) → ps.length + m = 6 → (∀ p ∈ ps', 0 ≤ p.2.2) ∧ ps'.length ≤ 6
  | 0, ps, i, i', ps', h, _, _ => by unfold aPaL at h; cases h
  | m + 1, ps, i, i', ps', h, hp, hm => by
    unfold aPaL at h
    split at h
    · split at h
      · split at h
        · cases h
        · rename_i i1 ty ht
          have h1 := t_ty ht
          have h2 : ∀ p ∈ ps ++ [(t.2.1 i, t.2.2 i, ty)], 0 ≤ p.2.2 := by
            intro p hp2
            rcases List.mem_append.mp hp2 with e | e
            · exact hp p e
            · rcases List.mem_singleton.mp e with rfl
              exact h1
          split at h
          · exact t_paL m _ _ _ _ h h2 (by simp only [List.length_append, List.length_cons, List.length_nil]; omega)
          · cases h
            exact ⟨h2, by simp only [List.length_append, List.length_cons, List.length_nil]; omega⟩
      · cases h
    · cases h
/-- a DEF as it is read: its PARAMS, its tree -/
def dW (A : aT) (x : aDf) : Prop := cT A 0 x.2.2.2 ∧ (∀ p ∈ x.2.2.1, 0 ≤ p.2.2) ∧ x.2.2.1.length ≤ 6
theorem dW_g {A A' : aT} {x : aDf} (h : dW A x) (g : gr A A') : dW A' x := ⟨cT_g h.1 g, h.2⟩
theorem t_df1 {N i i' : Nat} {A A' : aT} {x : aDf} (h : aDf1 t N i A = some (i', A', x)) (h0 : 0 ≤ A.1 ∧ A.1 ≤ 200) : dW A' x ∧ gr A A' ∧ A'.1 ≤ 200 := by
  unfold aDf1 at h
  split at h
  · split at h
    · split at h
      · cases h
      · rename_i i1 ps hp
        split at h
        · split at h
          · split at h
            · cases h
            · rename_i i2 A2 q he
              obtain ⟨g1, g2, g3, g4⟩ := (gF_lv 12).1 _ _ _ _ _ he h0
              have c := (tF_lv 12).1 _ _ _ _ _ he h0
              split at h
              · cases h
                refine ⟨⟨cT_b (cTc_t c) h0.1, ?_⟩, g1, g4⟩
                unfold aPas at hp
                split at hp
                · cases hp
                  simp
                · exact t_paL _ _ _ _ _ hp (by simp) rfl
              · cases h
          · cases h
        · cases h
    · cases h
  · cases h
theorem t_dfs {N : Nat} : ∀ (m : Nat) (D : List aDf) (i : Nat) (A : aT) (i' : Nat) (A' : aT) (D' : List aDf), aDfs t N m D i A = some (i', A', D') → 0 ≤ A.1 ∧ A.1 ≤ 200 → (∀ x ∈ D, dW A x) → D.length + m = 12 → (∀ x ∈ D', dW A' x) ∧ D'.length ≤ 12 ∧ (0 ≤ A'.1 ∧ A'.1 ≤ 200)
  | 0, D, i, A, i', A', D', h, h0, hD, hm => by
    unfold aDfs at h
    split at h
    · cases h
    · cases h
      exact ⟨hD, by omega, h0⟩
  | m + 1, D, i, A, i', A', D', h, h0, hD, hm => by
    unfold aDfs at h
    split at h
    · split at h
      · cases h
      · rename_i i1 A1 x he
        obtain ⟨c1, c2, c3⟩ := t_df1 he h0
        have c4 := c2.1
        refine t_dfs m _ _ _ _ _ _ h (by omega) (fun y hy => ?_) (by simp only [List.length_append, List.length_cons, List.length_nil]; omega)
        rcases List.mem_append.mp hy with e | e
        · exact dW_g (hD y e) c2
        · rcases List.mem_singleton.mp e with rfl
          exact c1
    · cases h
      exact ⟨hD, by omega, h0⟩
theorem t_pg {N : Nat} {A A' : aT} {D : List aDf} {q : Int} (h : aPg t N A = some (A', D, q)) (h0 : 0 ≤ A.1 ∧ A.1 ≤ 200) : (∀ x ∈ D, dW A' x) ∧ D.length ≤ 12 ∧ cT A' 0 q ∧ (0 ≤ A'.1 ∧ A'.1 ≤ 200) := by
  unfold aPg at h
  split at h
  · cases h
  · rename_i i1 A1 D1 hd
    obtain ⟨c1, c2, c3⟩ := t_dfs _ _ _ _ _ _ _ hd h0 (by simp) rfl
    split at h
    · cases h
    · rename_i i2 A2 r he
      obtain ⟨g1, g2, g3, g4⟩ := (gF_lv 12).1 _ _ _ _ _ he c3
      have g5 := g1.1
      have c := (tF_lv 12).1 _ _ _ _ _ he c3
      split at h
      · cases h
        exact ⟨fun x hx => dW_g (c1 x hx) g1, c2, cT_b (cTc_t c) c3.1, by omega⟩
      · cases h
end FRS
