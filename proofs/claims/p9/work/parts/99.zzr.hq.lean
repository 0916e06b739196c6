/-! THE RUN of the class, turn by turn. -/
def mStp (σ σ8 σ32 : sg_S) (P35 : sg_S → Prop) : Prop := (((sx_at σ 29 1013 ((sg_g σ8 61 8))) = 0 → V_fBegin σ32 ((sx_at σ 30 1013 ((sg_g σ8 61 8)))) (fun σ45 => sg_F [69, 11061, 18077, 19077, 25061] σ32 σ45 → P35 σ45)) ∧ (¬ (sx_at σ 29 1013 ((sg_g σ8 61 8))) = 0 → (((sx_at σ 29 1013 ((sg_g σ8 61 8))) = 1 → V_mFinish σ32 ((sx_at σ 30 1013 ((sg_g σ8 61 8)))) (fun σ53 => sg_F [62, 64, 78, 79, 80, 81, 82, 83, 85, 86, 87, 8061, 10061, 11061, 11077, 12077, 13077, 14077, 15077, 16077, 17077, 18077, 19077, 23061, 24061] σ32 σ53 → P35 σ53)) ∧ (¬ (sx_at σ 29 1013 ((sg_g σ8 61 8))) = 1 → (((sx_at σ 29 1013 ((sg_g σ8 61 8))) = 2 → V_mFinishOne σ32 ((sx_at σ 30 1013 ((sg_g σ8 61 8)))) (fun σ61 => sg_F [64, 78, 79, 80, 81, 82, 83, 84, 85, 86, 87, 8061, 10061, 11061, 11077, 12077, 13077, 14077, 15077, 16077, 17077, 18077, 19077] σ32 σ61 → P35 σ61)) ∧ (¬ (sx_at σ 29 1013 ((sg_g σ8 61 8))) = 2 → (((sx_at σ 29 1013 ((sg_g σ8 61 8))) = 3 → V_mFinishTwo σ32 ((sx_at σ 30 1013 ((sg_g σ8 61 8)))) (fun σ69 => sg_F [64, 75, 76, 78, 79, 80, 81, 82, 83, 84, 85, 86, 87, 8061, 10061, 11061, 11077, 12077, 13077, 14077, 15077, 16077, 17077, 18077, 19077] σ32 σ69 → P35 σ69)) ∧ (¬ (sx_at σ 29 1013 ((sg_g σ8 61 8))) = 3 → (((sx_at σ 29 1013 ((sg_g σ8 61 8))) = 4 → V_mPop σ32  (fun q76 σ77 => sg_R q76 → sg_F [8061] σ32 σ77 → ∀ σ82, σ82 = (sx_put σ77 62 272 ((sx_at σ 16 200 ((sx_at σ 30 1013 ((sg_g σ8 61 8)))))) (q76)) → P35 σ82)) ∧ (¬ (sx_at σ 29 1013 ((sg_g σ8 61 8))) = 4 → (((sx_at σ 29 1013 ((sg_g σ8 61 8))) = 5 → V_mEnter σ32 ((sx_at σ 16 200 ((sx_at σ 30 1013 ((sg_g σ8 61 8)))))) (fun σ88 => sg_F [62, 63, 8061, 9061] σ32 σ88 → P35 σ88)) ∧ (¬ (sx_at σ 29 1013 ((sg_g σ8 61 8))) = 5 → (((sx_at σ 29 1013 ((sg_g σ8 61 8))) = 6 → ∀ σ95, σ95 = (sg_w σ32 61 8 ((sx_at σ8 63 13 ((sx_at σ 30 1013 ((sg_g σ8 61 8))))))) → P35 σ95) ∧ (¬ (sx_at σ 29 1013 ((sg_g σ8 61 8))) = 6 → (((sx_at σ 29 1013 ((sg_g σ8 61 8))) = 7 → V_fFork σ32 ((sx_at σ 30 1013 ((sg_g σ8 61 8)))) (fun σ101 => sg_F [62, 70, 71, 72, 73, 74, 78, 79, 80, 81, 82, 85, 86, 87, 8061, 11061, 11077, 12077, 13077, 14077, 15077, 16077, 17077, 18077, 19077, 22061, 23061, 24061] σ32 σ101 → P35 σ101)) ∧ (¬ (sx_at σ 29 1013 ((sg_g σ8 61 8))) = 7 → (((sx_at σ 29 1013 ((sg_g σ8 61 8))) = 8 → V_fTurn σ32 ((sx_at σ 30 1013 ((sg_g σ8 61 8)))) (fun σ109 => sg_F [62, 71, 72, 73, 74, 78, 79, 80, 81, 82, 85, 86, 87, 11061, 11077, 12077, 13077, 14077, 15077, 16077, 17077, 18077, 19077, 22061, 23061, 24061] σ32 σ109 → P35 σ109)) ∧ (¬ (sx_at σ 29 1013 ((sg_g σ8 61 8))) = 8 → (((sx_at σ 29 1013 ((sg_g σ8 61 8))) = 9 → V_fJoin σ32 ((sx_at σ 30 1013 ((sg_g σ8 61 8)))) (fun σ117 => sg_F [62, 64, 78, 79, 80, 81, 82, 85, 86, 87, 8061, 10061, 11061, 11077, 12077, 13077, 14077, 15077, 16077, 17077, 18077, 19077, 23061, 24061] σ32 σ117 → P35 σ117)) ∧ (¬ (sx_at σ 29 1013 ((sg_g σ8 61 8))) = 9 → (((sx_at σ 29 1013 ((sg_g σ8 61 8))) = 10 → V_fOpen σ32 ((sx_at σ 30 1013 ((sg_g σ8 61 8)))) (fun σ125 => sg_F [62, 70, 71, 72, 73, 74, 78, 79, 80, 81, 82, 85, 86, 87, 8061, 11061, 11077, 12077, 13077, 14077, 15077, 16077, 17077, 18077, 19077, 22061, 23061, 24061] σ32 σ125 → P35 σ125)) ∧ (¬ (sx_at σ 29 1013 ((sg_g σ8 61 8))) = 10 → (((sx_at σ 29 1013 ((sg_g σ8 61 8))) = 11 → V_fSift σ32 ((sx_at σ 30 1013 ((sg_g σ8 61 8)))) (fun σ133 => sg_F [62, 70, 74, 78, 79, 80, 81, 82, 83, 85, 86, 87, 8061, 11061, 11077, 12077, 13077, 14077, 15077, 16077, 17077, 18077, 19077, 22061, 24061] σ32 σ133 → P35 σ133)) ∧ (¬ (sx_at σ 29 1013 ((sg_g σ8 61 8))) = 11 → V_fNext σ32 ((sx_at σ 30 1013 ((sg_g σ8 61 8)))) (fun σ139 => sg_F [] σ32 σ139 → P35 σ139)))))))))))))))))))))))))
def Rr (σ : sg_S) : Nat → sg_S → Prop
  | 0, _ => True
  | n + 1, σ8 => 0 ≤ sg_g σ8 61 8 → sg_g σ8 61 10 = 0 → sg_R (sg_g σ8 61 8 + 1) ∧ ∀ σ32, σ32 = (sg_w σ8 61 8 (((sg_g σ8 61 8) + 1))) → mStp σ σ8 σ32 (Rr σ n)
theorem rr_0 {σ σ8 : sg_S} {m : Nat} {p k : Int} (hp : sg_g σ8 61 8 = p) (h0 : 0 ≤ p ∧ p < 1013) (h29 : sg_g σ 29 p = 0) (h30 : sg_g σ 30 p = k) (h : ∀ σ32, σ32 = sg_w σ8 61 8 (p + 1) → V_fBegin σ32 (k) (fun σ45 => sg_F [69, 11061, 18077, 19077, 25061] σ32 σ45 → (Rr σ m) σ45)) : Rr σ (m + 1) σ8 := by
  intro _ _
  refine ⟨⟨by omega, by omega⟩, fun σ32 e32 => ?_⟩
  unfold mStp
  rw [hp] at e32 ⊢
  rw [xa_in (a := 29) h0, xa_in (a := 30) h0, h29, h30]
  exact ⟨fun _ => h σ32 e32, fun z => absurd rfl z⟩
theorem rr_1 {σ σ8 : sg_S} {m : Nat} {p k : Int} (hp : sg_g σ8 61 8 = p) (h0 : 0 ≤ p ∧ p < 1013) (h29 : sg_g σ 29 p = 1) (h30 : sg_g σ 30 p = k) (h : ∀ σ32, σ32 = sg_w σ8 61 8 (p + 1) → V_mFinish σ32 (k) (fun σ53 => sg_F [62, 64, 78, 79, 80, 81, 82, 83, 85, 86, 87, 8061, 10061, 11061, 11077, 12077, 13077, 14077, 15077, 16077, 17077, 18077, 19077, 23061, 24061] σ32 σ53 → (Rr σ m) σ53)) : Rr σ (m + 1) σ8 := by
  intro _ _
  refine ⟨⟨by omega, by omega⟩, fun σ32 e32 => ?_⟩
  unfold mStp
  rw [hp] at e32 ⊢
  rw [xa_in (a := 29) h0, xa_in (a := 30) h0, h29, h30]
  exact ⟨fun z => absurd z (by decide), fun _ => ⟨fun _ => h σ32 e32, fun z => absurd rfl z⟩⟩
theorem rr_2 {σ σ8 : sg_S} {m : Nat} {p k : Int} (hp : sg_g σ8 61 8 = p) (h0 : 0 ≤ p ∧ p < 1013) (h29 : sg_g σ 29 p = 2) (h30 : sg_g σ 30 p = k) (h : ∀ σ32, σ32 = sg_w σ8 61 8 (p + 1) → V_mFinishOne σ32 (k) (fun σ61 => sg_F [64, 78, 79, 80, 81, 82, 83, 84, 85, 86, 87, 8061, 10061, 11061, 11077, 12077, 13077, 14077, 15077, 16077, 17077, 18077, 19077] σ32 σ61 → (Rr σ m) σ61)) : Rr σ (m + 1) σ8 := by
  intro _ _
  refine ⟨⟨by omega, by omega⟩, fun σ32 e32 => ?_⟩
  unfold mStp
  rw [hp] at e32 ⊢
  rw [xa_in (a := 29) h0, xa_in (a := 30) h0, h29, h30]
  exact ⟨fun z => absurd z (by decide), fun _ => ⟨fun z => absurd z (by decide), fun _ => ⟨fun _ => h σ32 e32, fun z => absurd rfl z⟩⟩⟩
theorem rr_3 {σ σ8 : sg_S} {m : Nat} {p k : Int} (hp : sg_g σ8 61 8 = p) (h0 : 0 ≤ p ∧ p < 1013) (h29 : sg_g σ 29 p = 3) (h30 : sg_g σ 30 p = k) (h : ∀ σ32, σ32 = sg_w σ8 61 8 (p + 1) → V_mFinishTwo σ32 (k) (fun σ69 => sg_F [64, 75, 76, 78, 79, 80, 81, 82, 83, 84, 85, 86, 87, 8061, 10061, 11061, 11077, 12077, 13077, 14077, 15077, 16077, 17077, 18077, 19077] σ32 σ69 → (Rr σ m) σ69)) : Rr σ (m + 1) σ8 := by
  intro _ _
  refine ⟨⟨by omega, by omega⟩, fun σ32 e32 => ?_⟩
  unfold mStp
  rw [hp] at e32 ⊢
  rw [xa_in (a := 29) h0, xa_in (a := 30) h0, h29, h30]
  exact ⟨fun z => absurd z (by decide), fun _ => ⟨fun z => absurd z (by decide), fun _ => ⟨fun z => absurd z (by decide), fun _ => ⟨fun _ => h σ32 e32, fun z => absurd rfl z⟩⟩⟩⟩
theorem rr_4 {σ σ8 : sg_S} {m : Nat} {p k : Int} (hp : sg_g σ8 61 8 = p) (h0 : 0 ≤ p ∧ p < 1013) (h29 : sg_g σ 29 p = 4) (h30 : sg_g σ 30 p = k) (h : ∀ σ32, σ32 = sg_w σ8 61 8 (p + 1) → V_mPop σ32  (fun q76 σ77 => sg_R q76 → sg_F [8061] σ32 σ77 → ∀ σ82, σ82 = (sx_put σ77 62 272 ((sx_at σ 16 200 (k))) (q76)) → (Rr σ m) σ82)) : Rr σ (m + 1) σ8 := by
  intro _ _
  refine ⟨⟨by omega, by omega⟩, fun σ32 e32 => ?_⟩
  unfold mStp
  rw [hp] at e32 ⊢
  rw [xa_in (a := 29) h0, xa_in (a := 30) h0, h29, h30]
  exact ⟨fun z => absurd z (by decide), fun _ => ⟨fun z => absurd z (by decide), fun _ => ⟨fun z => absurd z (by decide), fun _ => ⟨fun z => absurd z (by decide), fun _ => ⟨fun _ => h σ32 e32, fun z => absurd rfl z⟩⟩⟩⟩⟩
theorem rr_5 {σ σ8 : sg_S} {m : Nat} {p k : Int} (hp : sg_g σ8 61 8 = p) (h0 : 0 ≤ p ∧ p < 1013) (h29 : sg_g σ 29 p = 5) (h30 : sg_g σ 30 p = k) (h : ∀ σ32, σ32 = sg_w σ8 61 8 (p + 1) → V_mEnter σ32 ((sx_at σ 16 200 (k))) (fun σ88 => sg_F [62, 63, 8061, 9061] σ32 σ88 → (Rr σ m) σ88)) : Rr σ (m + 1) σ8 := by
  intro _ _
  refine ⟨⟨by omega, by omega⟩, fun σ32 e32 => ?_⟩
  unfold mStp
  rw [hp] at e32 ⊢
  rw [xa_in (a := 29) h0, xa_in (a := 30) h0, h29, h30]
  exact ⟨fun z => absurd z (by decide), fun _ => ⟨fun z => absurd z (by decide), fun _ => ⟨fun z => absurd z (by decide), fun _ => ⟨fun z => absurd z (by decide), fun _ => ⟨fun z => absurd z (by decide), fun _ => ⟨fun _ => h σ32 e32, fun z => absurd rfl z⟩⟩⟩⟩⟩⟩
theorem rr_6 {σ σ8 : sg_S} {m : Nat} {p k : Int} (hp : sg_g σ8 61 8 = p) (h0 : 0 ≤ p ∧ p < 1013) (h29 : sg_g σ 29 p = 6) (h30 : sg_g σ 30 p = k) (h : ∀ σ32, σ32 = sg_w σ8 61 8 (p + 1) → ∀ σ95, σ95 = (sg_w σ32 61 8 ((sx_at σ8 63 13 (k)))) → (Rr σ m) σ95) : Rr σ (m + 1) σ8 := by
  intro _ _
  refine ⟨⟨by omega, by omega⟩, fun σ32 e32 => ?_⟩
  unfold mStp
  rw [hp] at e32 ⊢
  rw [xa_in (a := 29) h0, xa_in (a := 30) h0, h29, h30]
  exact ⟨fun z => absurd z (by decide), fun _ => ⟨fun z => absurd z (by decide), fun _ => ⟨fun z => absurd z (by decide), fun _ => ⟨fun z => absurd z (by decide), fun _ => ⟨fun z => absurd z (by decide), fun _ => ⟨fun z => absurd z (by decide), fun _ => ⟨fun _ => h σ32 e32, fun z => absurd rfl z⟩⟩⟩⟩⟩⟩⟩
theorem rr_7 {σ σ8 : sg_S} {m : Nat} {p k : Int} (hp : sg_g σ8 61 8 = p) (h0 : 0 ≤ p ∧ p < 1013) (h29 : sg_g σ 29 p = 7) (h30 : sg_g σ 30 p = k) (h : ∀ σ32, σ32 = sg_w σ8 61 8 (p + 1) → V_fFork σ32 (k) (fun σ101 => sg_F [62, 70, 71, 72, 73, 74, 78, 79, 80, 81, 82, 85, 86, 87, 8061, 11061, 11077, 12077, 13077, 14077, 15077, 16077, 17077, 18077, 19077, 22061, 23061, 24061] σ32 σ101 → (Rr σ m) σ101)) : Rr σ (m + 1) σ8 := by
  intro _ _
  refine ⟨⟨by omega, by omega⟩, fun σ32 e32 => ?_⟩
  unfold mStp
  rw [hp] at e32 ⊢
  rw [xa_in (a := 29) h0, xa_in (a := 30) h0, h29, h30]
  exact ⟨fun z => absurd z (by decide), fun _ => ⟨fun z => absurd z (by decide), fun _ => ⟨fun z => absurd z (by decide), fun _ => ⟨fun z => absurd z (by decide), fun _ => ⟨fun z => absurd z (by decide), fun _ => ⟨fun z => absurd z (by decide), fun _ => ⟨fun z => absurd z (by decide), fun _ => ⟨fun _ => h σ32 e32, fun z => absurd rfl z⟩⟩⟩⟩⟩⟩⟩⟩
theorem rr_8 {σ σ8 : sg_S} {m : Nat} {p k : Int} (hp : sg_g σ8 61 8 = p) (h0 : 0 ≤ p ∧ p < 1013) (h29 : sg_g σ 29 p = 8) (h30 : sg_g σ 30 p = k) (h : ∀ σ32, σ32 = sg_w σ8 61 8 (p + 1) → V_fTurn σ32 (k) (fun σ109 => sg_F [62, 71, 72, 73, 74, 78, 79, 80, 81, 82, 85, 86, 87, 11061, 11077, 12077, 13077, 14077, 15077, 16077, 17077, 18077, 19077, 22061, 23061, 24061] σ32 σ109 → (Rr σ m) σ109)) : Rr σ (m + 1) σ8 := by
  intro _ _
  refine ⟨⟨by omega, by omega⟩, fun σ32 e32 => ?_⟩
  unfold mStp
  rw [hp] at e32 ⊢
  rw [xa_in (a := 29) h0, xa_in (a := 30) h0, h29, h30]
  exact ⟨fun z => absurd z (by decide), fun _ => ⟨fun z => absurd z (by decide), fun _ => ⟨fun z => absurd z (by decide), fun _ => ⟨fun z => absurd z (by decide), fun _ => ⟨fun z => absurd z (by decide), fun _ => ⟨fun z => absurd z (by decide), fun _ => ⟨fun z => absurd z (by decide), fun _ => ⟨fun z => absurd z (by decide), fun _ => ⟨fun _ => h σ32 e32, fun z => absurd rfl z⟩⟩⟩⟩⟩⟩⟩⟩⟩
theorem rr_9 {σ σ8 : sg_S} {m : Nat} {p k : Int} (hp : sg_g σ8 61 8 = p) (h0 : 0 ≤ p ∧ p < 1013) (h29 : sg_g σ 29 p = 9) (h30 : sg_g σ 30 p = k) (h : ∀ σ32, σ32 = sg_w σ8 61 8 (p + 1) → V_fJoin σ32 (k) (fun σ117 => sg_F [62, 64, 78, 79, 80, 81, 82, 85, 86, 87, 8061, 10061, 11061, 11077, 12077, 13077, 14077, 15077, 16077, 17077, 18077, 19077, 23061, 24061] σ32 σ117 → (Rr σ m) σ117)) : Rr σ (m + 1) σ8 := by
  intro _ _
  refine ⟨⟨by omega, by omega⟩, fun σ32 e32 => ?_⟩
  unfold mStp
  rw [hp] at e32 ⊢
  rw [xa_in (a := 29) h0, xa_in (a := 30) h0, h29, h30]
  exact ⟨fun z => absurd z (by decide), fun _ => ⟨fun z => absurd z (by decide), fun _ => ⟨fun z => absurd z (by decide), fun _ => ⟨fun z => absurd z (by decide), fun _ => ⟨fun z => absurd z (by decide), fun _ => ⟨fun z => absurd z (by decide), fun _ => ⟨fun z => absurd z (by decide), fun _ => ⟨fun z => absurd z (by decide), fun _ => ⟨fun z => absurd z (by decide), fun _ => ⟨fun _ => h σ32 e32, fun z => absurd rfl z⟩⟩⟩⟩⟩⟩⟩⟩⟩⟩
theorem rr_10 {σ σ8 : sg_S} {m : Nat} {p k : Int} (hp : sg_g σ8 61 8 = p) (h0 : 0 ≤ p ∧ p < 1013) (h29 : sg_g σ 29 p = 10) (h30 : sg_g σ 30 p = k) (h : ∀ σ32, σ32 = sg_w σ8 61 8 (p + 1) → V_fOpen σ32 (k) (fun σ125 => sg_F [62, 70, 71, 72, 73, 74, 78, 79, 80, 81, 82, 85, 86, 87, 8061, 11061, 11077, 12077, 13077, 14077, 15077, 16077, 17077, 18077, 19077, 22061, 23061, 24061] σ32 σ125 → (Rr σ m) σ125)) : Rr σ (m + 1) σ8 := by
  intro _ _
  refine ⟨⟨by omega, by omega⟩, fun σ32 e32 => ?_⟩
  unfold mStp
  rw [hp] at e32 ⊢
  rw [xa_in (a := 29) h0, xa_in (a := 30) h0, h29, h30]
  exact ⟨fun z => absurd z (by decide), fun _ => ⟨fun z => absurd z (by decide), fun _ => ⟨fun z => absurd z (by decide), fun _ => ⟨fun z => absurd z (by decide), fun _ => ⟨fun z => absurd z (by decide), fun _ => ⟨fun z => absurd z (by decide), fun _ => ⟨fun z => absurd z (by decide), fun _ => ⟨fun z => absurd z (by decide), fun _ => ⟨fun z => absurd z (by decide), fun _ => ⟨fun z => absurd z (by decide), fun _ => ⟨fun _ => h σ32 e32, fun z => absurd rfl z⟩⟩⟩⟩⟩⟩⟩⟩⟩⟩⟩
theorem rr_11 {σ σ8 : sg_S} {m : Nat} {p k : Int} (hp : sg_g σ8 61 8 = p) (h0 : 0 ≤ p ∧ p < 1013) (h29 : sg_g σ 29 p = 11) (h30 : sg_g σ 30 p = k) (h : ∀ σ32, σ32 = sg_w σ8 61 8 (p + 1) → V_fSift σ32 (k) (fun σ133 => sg_F [62, 70, 74, 78, 79, 80, 81, 82, 83, 85, 86, 87, 8061, 11061, 11077, 12077, 13077, 14077, 15077, 16077, 17077, 18077, 19077, 22061, 24061] σ32 σ133 → (Rr σ m) σ133)) : Rr σ (m + 1) σ8 := by
  intro _ _
  refine ⟨⟨by omega, by omega⟩, fun σ32 e32 => ?_⟩
  unfold mStp
  rw [hp] at e32 ⊢
  rw [xa_in (a := 29) h0, xa_in (a := 30) h0, h29, h30]
  exact ⟨fun z => absurd z (by decide), fun _ => ⟨fun z => absurd z (by decide), fun _ => ⟨fun z => absurd z (by decide), fun _ => ⟨fun z => absurd z (by decide), fun _ => ⟨fun z => absurd z (by decide), fun _ => ⟨fun z => absurd z (by decide), fun _ => ⟨fun z => absurd z (by decide), fun _ => ⟨fun z => absurd z (by decide), fun _ => ⟨fun z => absurd z (by decide), fun _ => ⟨fun z => absurd z (by decide), fun _ => ⟨fun z => absurd z (by decide), fun _ => ⟨fun _ => h σ32 e32, fun z => absurd rfl z⟩⟩⟩⟩⟩⟩⟩⟩⟩⟩⟩⟩
theorem rr_12 {σ σ8 : sg_S} {m : Nat} {p k : Int} (hp : sg_g σ8 61 8 = p) (h0 : 0 ≤ p ∧ p < 1013) (h29 : sg_g σ 29 p = 12) (h30 : sg_g σ 30 p = k) (h : ∀ σ32, σ32 = sg_w σ8 61 8 (p + 1) → V_fNext σ32 (k) (fun σ139 => sg_F [] σ32 σ139 → (Rr σ m) σ139)) : Rr σ (m + 1) σ8 := by
  intro _ _
  refine ⟨⟨by omega, by omega⟩, fun σ32 e32 => ?_⟩
  unfold mStp
  rw [hp] at e32 ⊢
  rw [xa_in (a := 29) h0, xa_in (a := 30) h0, h29, h30]
  exact ⟨fun z => absurd z (by decide), fun _ => ⟨fun z => absurd z (by decide), fun _ => ⟨fun z => absurd z (by decide), fun _ => ⟨fun z => absurd z (by decide), fun _ => ⟨fun z => absurd z (by decide), fun _ => ⟨fun z => absurd z (by decide), fun _ => ⟨fun z => absurd z (by decide), fun _ => ⟨fun z => absurd z (by decide), fun _ => ⟨fun z => absurd z (by decide), fun _ => ⟨fun z => absurd z (by decide), fun _ => ⟨fun z => absurd z (by decide), fun _ => ⟨fun z => absurd z (by decide), fun _ => h σ32 e32⟩⟩⟩⟩⟩⟩⟩⟩⟩⟩⟩⟩
