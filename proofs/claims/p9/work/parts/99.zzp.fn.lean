/-! flat ops: items of lanes listed, with what they hold in each row. -/
/-- N lanes are listed, below L; they hold G l in row l of R -/
def lG (σb σ : sg_S) (R : List (Int × Int)) (N L : Int) (G : Nat → Int) : Prop := lO σ N L ∧ (∀ y, sg_g σ 142 y = sg_g σb 142 y) ∧ ∀ l, gsum σ R l N.toNat = G l
theorem bg_e {σ σ' : sg_S} {R : List (Int × Int)} (h : ∀ y, sg_g σ' 142 y = sg_g σ 142 y) : ∀ (r : Nat) (i : Int), bg σ' R r i = bg σ R r i
  | 0, i => rfl
  | r + 1, i => by
    simp only [bg]
    rw [bg_e h r i]
    exact cs_e (fun j _ => h _)
theorem gsum_e {σ σ' : sg_S} {R : List (Int × Int)} (h : ∀ y, sg_g σ' 142 y = sg_g σ 142 y) (l : Nat) : ∀ n : Nat, (∀ j : Nat, j < n → sg_g σ' 143 j = sg_g σ 143 j) → gsum σ' R l n = gsum σ R l n
  | 0, _ => rfl
  | n + 1, hk => by
    simp only [gsum]
    rw [gsum_e h l n (fun j x => hk j (by omega))]
    unfold gd
    rw [hk n (by omega), bg_e h, bg_e h]
theorem lG_F {l : List Nat} {σb σ σ' : sg_S} {R : List (Int × Int)} {N L : Int} {G : Nat → Int} (F : sg_F l σ σ') (hl : (!sg_cv l 88 93 && sg_ca l 143 && sg_ca l 142) = true) (h : lG σb σ R N L G) : lG σb σ' R N L G := by
  simp only [Bool.and_eq_true] at hl
  obtain ⟨h1, h2, h3⟩ := h
  refine ⟨lO_F F (by simp only [Bool.and_eq_true]; exact hl.1) h1, fun y => by rw [sg_F_ga F hl.2]; exact h2 y, fun r => ?_⟩
  rw [gsum_F F hl.2 hl.1.2]
  exact h3 r
theorem lG_0 {σb σ σ' : sg_S} {R : List (Int × Int)} {L : Int} (e : σ' = sg_w σ 88 93 0) (h : ∀ y, sg_g σ 142 y = sg_g σb 142 y) : lG σb σ' R 0 L (fun _ => 0) := ⟨lO_0 e, fun y => by rw [e, sg_gw_c _ _ _ _ _ _ (by decide)]; exact h y, fun l => rfl⟩
theorem m_listG {σb σ : sg_S} {R : List (Int × Int)} {N L x : Int} {G : Nat → Int} {Q : sg_S → Prop} (h : lG σb σ R N L G) (hN : N < 13000) (hx : sg_R x) (x0 : 0 ≤ x) (hl : x < L) (k : ∀ σ', lG σb σ' R (N + 1) L (fun l => G l + (bg σb R l (x + 1) - bg σb R l x)) → Q σ') : V_list σ x Q := by
  obtain ⟨⟨h1, h2, h3⟩, h4, h5⟩ := h
  unfold V_list
  refine ⟨⟨by omega, by omega⟩, fun σ2 e2 => ⟨⟨by omega, by omega⟩, fun σ6 e6 => ?_⟩⟩
  have ce : sg_g σ6 143 N = x := by rw [e6, sg_gw_c _ _ _ _ _ _ (by decide), e2, h1, sg_gw_e _ _ _ _ hx]
  have co : ∀ j, ¬ j = N → sg_g σ6 143 j = sg_g σ 143 j := fun j hj => by rw [e6, sg_gw_c _ _ _ _ _ _ (by decide), e2, h1, sg_gw_k _ _ _ _ _ _ hj]
  have cc : ∀ y, sg_g σ6 142 y = sg_g σ 142 y := fun y => by rw [e6, sg_gw_c _ _ _ _ _ _ (by decide), e2, sg_gw_c _ _ _ _ _ _ (by decide)]
  have cb : ∀ y, sg_g σ6 142 y = sg_g σb 142 y := fun y => (cc y).trans (h4 y)
  refine k σ6 ⟨⟨?_, by omega, fun j x y => ?_⟩, cb, fun l => ?_⟩
  · rw [e6, sg_gw_e _ _ _ _ ⟨by omega, by omega⟩]; omega
  · by_cases e : j = N
    · rw [e, ce]; exact hl
    · rw [co j e]; exact h3 j x (by omega)
  · rw [show (N + 1).toNat = N.toNat + 1 by omega]
    simp only [gsum]
    rw [gsum_e cc l N.toNat (fun j hj => co j (by omega)), h5 l]
    unfold gd
    rw [show ((N.toNat : Nat) : Int) = N by omega, ce, if_neg (by omega), bg_e cb, bg_e cb]
theorem lG_c {σb σ : sg_S} {R : List (Int × Int)} {N N' L : Int} {G G' : Nat → Int} (h : lG σb σ R N L G) (e : N' = N) (g : ∀ l, G' l = G l) : lG σb σ R N' L G' := by
  have : G' = G := funext g
  rw [e, this]; exact h
/-- lanes not left out: what their items hold in row l -/
def oG (σ : sg_S) (R : List (Int × Int)) (p : Int) (l : Nat) : Nat → Int
  | 0 => 0
  | i + 1 => oG σ R p l i + (if 0 ≤ sg_g σ 150 i then bg σ R l (cs σ p (i + 1)) - bg σ R l (cs σ p i) else 0)
theorem oG_s {σ : sg_S} {R : List (Int × Int)} {p x : Int} {l : Nat} (h : 0 ≤ x) : oG σ R p l (x + 1).toNat = oG σ R p l x.toNat + (if 0 ≤ sg_g σ 150 x then bg σ R l (cs σ p (x + 1).toNat) - bg σ R l (cs σ p x.toNat) else 0) := by
  rw [show (x + 1).toNat = x.toNat + 1 by omega]
  simp only [oG]
  rw [show ((x.toNat : Nat) : Int) = x by omega]
section FN
variable {σ : sg_S} {M : Int}
theorem oG_0 {R : List (Int × Int)} {r r' : Int × Int} {L : Int} (h : fLn σ r) (e : r'.2 = cs σ r.1 L.toNat) (eL : r.2 = L) : ∀ n : Nat, (n : Int) ≤ L → 0 ≤ oG σ R r.1 0 n ∧ oG σ R r.1 0 n ≤ cs σ r.1 n
  | 0, _ => ⟨Int.le_refl _, Int.le_refl _⟩
  | n + 1, hn => by
    have a := oG_0 (R := R) h e eL n (by omega)
    obtain ⟨b1, b2, b3, b4⟩ := ln_b h e eL (i := n) ⟨by omega, by omega⟩
    rw [show ((n : Int) + 1).toNat = n + 1 by omega, show (n : Int).toNat = n by omega] at b3
    simp only [oG, bg]
    split <;> omega
theorem m_listItems {v L : Int} {r r' : Int × Int} {R : List (Int × Int)} {Q : sg_S → Prop} (hv : fV σ 6000 v (r :: r' :: R)) (rL : r.2 = L) (hL : 0 ≤ L ∧ L ≤ 6000) (hc : sg_g σ 88 91 ≤ 60000 ∧ sg_g σ 88 87 ≤ 30000) (h0 : sg_g σ 88 93 = 0) (k : ∀ σ', lG σ σ' (r' :: R) (oG σ (r' :: R) r.1 0 L.toNat) r'.2 (fun l => oG σ (r' :: R) r.1 l L.toNat) → Q σ') : V_listItems σ v L Q := by
  obtain ⟨wa, ⟨ln, e1⟩, wb, -⟩ := hv.2.2.2.2
  rw [rL] at e1
  obtain ⟨wb1, wb2, wb3, wb4⟩ := wb
  unfold V_listItems
  have st : lG σ σ (r' :: R) 0 r'.2 (fun l => oG σ (r' :: R) r.1 l 0) := ⟨⟨h0, Int.le_refl _, fun j x y => by omega⟩, fun y => rfl, fun l => rfl⟩
  refine ⟨fun m at_ x σ3 => m = (L - x).toNat ∧ (0 ≤ x ∧ x ≤ L) ∧ at_ = cs σ r.1 x.toNat ∧ lG σ σ3 (r' :: R) (oG σ (r' :: R) r.1 0 x.toNat) r'.2 (fun l => oG σ (r' :: R) r.1 l x.toNat), fun σ3 => lG σ σ3 (r' :: R) (oG σ (r' :: R) r.1 0 L.toNat) r'.2 (fun l => oG σ (r' :: R) r.1 l L.toNat), ⟨_, rfl, ⟨by omega, by omega⟩, rfl, st⟩, ?_, fun σ3 f3 h3 => k σ3 h3⟩
  rintro m at_ x σ3 ra rx f3 ⟨en, hx, ea, h3⟩
  refine ⟨fun z => by rw [show L = x by omega]; exact h3, fun z => ?_⟩
  obtain ⟨pa, va⟩ := pR hv hc (i := x) ⟨by omega, by omega⟩
  obtain ⟨n1, n2, n3, n4⟩ := ln_b ln e1 rL (i := x) ⟨by omega, by omega⟩
  rw [va]
  obtain ⟨len, hlen⟩ : ∃ len, len = sg_g σ 142 (r.1 + x) := ⟨_, rfl⟩
  rw [← hlen] at n1 n3 ⊢
  have o0 := oG_0 (R := r' :: R) ln e1 rL x.toNat (by omega)
  refine ⟨fun m y σ4 => m = (len - y).toNat ∧ (0 ≤ y ∧ y ≤ len) ∧ (0 ≤ sg_g σ 150 x → lG σ σ4 (r' :: R) (oG σ (r' :: R) r.1 0 x.toNat + y) r'.2 (fun l => oG σ (r' :: R) r.1 l x.toNat + (bg σ (r' :: R) l (at_ + y) - bg σ (r' :: R) l at_))) ∧ (sg_g σ 150 x < 0 → lG σ σ4 (r' :: R) (oG σ (r' :: R) r.1 0 x.toNat) r'.2 (fun l => oG σ (r' :: R) r.1 l x.toNat)), fun σ4 => lG σ σ4 (r' :: R) (oG σ (r' :: R) r.1 0 (x + 1).toNat) r'.2 (fun l => oG σ (r' :: R) r.1 l (x + 1).toNat), ⟨_, rfl, ⟨by omega, by omega⟩, fun _ => ?_, fun _ => h3⟩, ?_, ?_⟩
  · exact lG_c h3 (Int.add_zero _) (fun l => by rw [Int.add_zero]; omega)
  · rintro m' y σ4 ry f4 ⟨en', hy, h4, h4'⟩
    refine ⟨pa, fun c => ?_, fun c => ⟨⟨by omega, by omega⟩, fun σ5 => (0 ≤ sg_g σ 150 x → lG σ σ5 (r' :: R) (oG σ (r' :: R) r.1 0 x.toNat + (y + 1)) r'.2 (fun l => oG σ (r' :: R) r.1 l x.toNat + (bg σ (r' :: R) l (at_ + (y + 1)) - bg σ (r' :: R) l at_))) ∧ (sg_g σ 150 x < 0 → lG σ σ5 (r' :: R) (oG σ (r' :: R) r.1 0 x.toNat) r'.2 (fun l => oG σ (r' :: R) r.1 l x.toNat)), ⟨fun c2 => ⟨fun c3 => by omega, h4'⟩, fun c2 => ⟨⟨by omega, by omega⟩, m_listG (h4 c2) (by omega) ⟨by omega, by omega⟩ (by omega) (by omega) (fun σ6 h6 f6 => ⟨fun _ => ?_, fun c3 => by omega⟩)⟩⟩, fun σ5 f5 h5 => ⟨⟨by omega, by omega⟩, _, by omega, rfl, ⟨by omega, by omega⟩, h5⟩⟩⟩
    · have e : y = len := by omega
      subst e
      by_cases c2 : 0 ≤ sg_g σ 150 x
      · refine lG_c (h4 c2) ?_ (fun l => ?_)
        · rw [oG_s hx.1, if_pos c2]
          simp only [bg]
          omega
        · skip
          rw [oG_s hx.1, if_pos c2, n3, ← ea]
      · refine lG_c (h4' (by omega)) ?_ (fun l => ?_)
        · rw [oG_s hx.1, if_neg c2, Int.add_zero]
        · skip
          rw [oG_s hx.1, if_neg c2, Int.add_zero]
    · refine lG_c h6 (by omega) (fun l => ?_)
      rw [show at_ + (y + 1) = at_ + y + 1 by omega]
      omega
  · intro σ4 f4 h4
    exact ⟨pa, ⟨by omega, by omega⟩, ⟨by omega, by omega⟩, _, by omega, rfl, ⟨by omega, by omega⟩, by omega, h4⟩
end FN
