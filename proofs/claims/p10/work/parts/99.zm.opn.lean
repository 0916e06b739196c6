/-! open, ahead, enter of the class. -/
theorem kmp_q {k : Int} (h : 0 ≤ k ∧ k ≤ 27) : (kmp k = 262 ↔ k = 2) ∧ (kmp k = 264 ↔ k = 3) ∧ (kmp k = 123 ↔ k = 15) ∧ (kmp k = 258 ↔ k = 1) ∧ (kmp k = 280 ↔ k = 13) := by
  have c : k = 0 ∨ k = 1 ∨ k = 2 ∨ k = 3 ∨ k = 4 ∨ k = 5 ∨ k = 6 ∨ k = 7 ∨ k = 8 ∨ k = 9 ∨ k = 10 ∨ k = 11 ∨ k = 12 ∨ k = 13 ∨ k = 14 ∨ k = 15 ∨ 16 ≤ k := by omega
  rcases c with c | c | c | c | c | c | c | c | c | c | c | c | c | c | c | c | c
  all_goals first | (subst c; decide) | skip
  unfold kmp
  rw [if_neg (by omega), if_neg (by omega), if_neg (by omega), if_neg (by omega), if_neg (by omega), if_neg (by omega), if_neg (by omega), if_neg (by omega), if_neg (by omega), if_neg (by omega), if_neg (by omega), if_neg (by omega), if_neg (by omega), if_neg (by omega), if_neg (by omega), if_neg (by omega)]
  refine ⟨?_, ?_, ?_, ?_, ?_⟩ <;> omega
section OPN
variable {σ : sg_S} {A : aT} {e : kE} {n : Int} {c : Nat} {Q : sg_S → Prop}
theorem c_open (h : ckW σ A) (hn : 0 ≤ n ∧ n < A.1) (hw : nW A n) (hk : A.2.1 n = 15) (hF : cZ σ) (ht : ∀ x ∈ kGs A n, kIn (sg_g σ 6 x)) (he : ckE σ (sg_g σ 38 9) e) (hel : e.length ≤ 250) (hc : sg_g σ 38 10 = c) (hc2 : c + (A.2.2.2.2.2 n).length ≤ 272) (k1 : ∀ σ', kGens (sg_g σ 6) (A.2.2.2.2.2 n) (kGs A n) = false → cF σ' → sg_F [16, 29, 30, 32, 33, 34, 39, 40, 7028, 10038, 11038, 13038, 14038] σ σ' → Q σ') (k2 : ∀ σ', kGens (sg_g σ 6) (A.2.2.2.2.2 n) (kGs A n) = true → cZ σ' → ckE σ' (sg_g σ' 38 9) (kBind (sg_g σ 6) (A.2.2.2.2.2 n) (kGs A n) e) → sg_g σ' 38 10 = (c + (A.2.2.2.2.2 n).length : Nat) → sg_F [16, 29, 30, 32, 33, 34, 39, 40, 7028, 10038, 11038, 13038, 14038] σ σ' → Q σ') : V_kOpen σ n Q := by
  obtain ⟨p0, p1, p2, p3, p4, p5, p6⟩ := ckW_p h hn
  obtain ⟨n1, n2, n3, n4, n5, n6, n7, n8⟩ := id hw
  have hl := n7 hk
  have hkl := kOrd_len A n
  obtain ⟨e1, e2, e3⟩ := (h.2.2 n hn.1 hn.2).1.2.2.2.2 hk
  have hwn := (h.2.1 n)
  have en := ckE_n he
  have hpl : sg_g σ 4 n = A.2.2.1 n := (h.2.2 n hn.1 hn.2).1.2.1
  generalize hgs : A.2.2.2.2.2 n = gs at *
  generalize hxs : kGs A n = xs at *
  have hxl : xs.length = gs.length := by
    rw [← hxs]; unfold kGs; rw [hgs, List.length_take, List.length_drop]; omega
  have hxo : ∀ j : Nat, j < gs.length → (kOrd A n)[j]? = xs[j]? := fun j hj => by
    rw [← hxs]; unfold kOrd kGs; rw [if_pos hk, hgs, List.getElem?_take, if_pos hj, List.getElem?_append_left (by rw [List.length_drop]; omega)]
  have hxk : ∀ (j : Nat) (x : Int), xs[j]? = some x → (A.2.2.2.2.1 n)[1 + j]? = some x := fun j x hj => by
    rw [← hxs] at hj
    unfold kGs at hj
    rw [List.getElem?_take] at hj
    split at hj
    · rw [List.getElem?_drop] at hj; exact hj
    · cases hj
  have hwl : (gs.map (·.1)).length = gs.length := List.length_map _
  have hwj : ∀ (j : Nat) (y : Int × Int), gs[j]? = some y → (gs.map (·.1))[j]? = some y.1 := fun j y hy => by rw [List.getElem?_map, hy]; rfl
  generalize hws : gs.map (·.1) = ws at *
  unfold V_kOpen
  intro σ1 es1
  have f1 : sg_F [16] σ σ1 := by rw [es1]; exact xF_p (sg_F_r _ _) rfl _ _ _
  rw [p1 13 200 rfl, e1, p1 7 200 rfl]
  refine ⟨fun m v4 v5 v6 σ7 => ∃ (i : Nat) (ev : kE), v6 = i ∧ m = gs.length - i ∧ i ≤ gs.length ∧ (∀ x, (kOrd A n)[i]? = some x → v5 = x) ∧ ((v4 = 1 ∧ ∀ (j : Nat) (x : Int), j < i → xs[j]? = some x → 0 < sg_g σ 6 x) ∨ (v4 = 0 ∧ ∃ x ∈ xs, ¬ 0 < sg_g σ 6 x)) ∧ ((cZ σ7 ∧ (ws.take i).Nodup) ∨ (cF σ7 ∧ ¬ ws.Nodup)) ∧ ckE σ7 (sg_g σ7 38 9) ev ∧ ev.length = e.length + i ∧ kBind (sg_g σ 6) (gs.drop i) (xs.drop i) ev = kBind (sg_g σ 6) gs xs e ∧ sg_g σ7 38 10 = (c + i : Nat) ∧ ∀ (j : Nat) (y : Int × Int), j < i → gs[j]? = some y → sg_gl σ7 39 ((e.length : Int) + j) = uv y.1, fun v4 σ7 => ((v4 = 1 ∧ ∀ x ∈ xs, 0 < sg_g σ 6 x) ∨ (v4 = 0 ∧ ∃ x ∈ xs, ¬ 0 < sg_g σ 6 x)) ∧ ((cZ σ7 ∧ ws.Nodup) ∨ (cF σ7 ∧ ¬ ws.Nodup)) ∧ ckE σ7 (sg_g σ7 38 9) (kBind (sg_g σ 6) gs xs e) ∧ sg_g σ7 38 10 = (c + gs.length : Nat), ⟨_, 0, e, rfl, rfl, Nat.zero_le _, fun x hx => p3 x hx, Or.inl ⟨rfl, fun j x hj => by omega⟩, Or.inl ⟨cZ_F hF f1 rfl, by simp⟩, by rw [sg_F_g f1 (by rfl)]; exact ckE_F he f1 rfl, rfl, rfl, by rw [sg_F_g f1 (by rfl)]; exact hc, fun j y hj => by omega⟩, ?_, ?_⟩
  · rintro m v4 v5 v6 σ7 r4 r5 r6 fr ⟨i, ev, rfl, em, hi, hv5, hv4, hnd, hce, hevl, hkb, hsl, hnm⟩
    have en7 := ckE_n hce
    have fin : gs.length ≤ i → ((v4 = 1 ∧ ∀ x ∈ xs, 0 < sg_g σ 6 x) ∨ (v4 = 0 ∧ ∃ x ∈ xs, ¬ 0 < sg_g σ 6 x)) ∧ ((cZ σ7 ∧ ws.Nodup) ∨ (cF σ7 ∧ ¬ ws.Nodup)) ∧ ckE σ7 (sg_g σ7 38 9) (kBind (sg_g σ 6) gs xs e) ∧ sg_g σ7 38 10 = (c + gs.length : Nat) := fun hgi => by
      have : i = gs.length := by omega
      subst this
      refine ⟨?_, ?_, ?_, hsl⟩
      · rcases hv4 with ⟨a, b⟩ | b
        · refine Or.inl ⟨a, fun x hx => ?_⟩
          obtain ⟨j, hj⟩ := List.getElem?_of_mem hx
          have hj2 : j < xs.length := by
            rcases Nat.lt_or_ge j xs.length with q | q
            · exact q
            · rw [List.getElem?_eq_none q] at hj; cases hj
          exact b j x (by omega) hj
        · exact Or.inr b
      · rw [List.take_of_length_le (by omega)] at hnd; exact hnd
      · rw [List.drop_eq_nil_of_le (Nat.le_refl _)] at hkb
        simp only [kBind] at hkb
        rw [← hkb]; exact hce
    refine ⟨fun d => fin (by omega), fun d => ⟨fun d2 => fin (by omega), fun d2 => ?_⟩⟩
    obtain ⟨x, hx⟩ : ∃ x, xs[i]? = some x := ⟨_, List.getElem?_eq_getElem (by omega)⟩
    obtain ⟨y, hy⟩ : ∃ y, gs[i]? = some y := ⟨_, List.getElem?_eq_getElem (by omega)⟩
    have hxo' : (kOrd A n)[i]? = some x := by rw [hxo i (by omega)]; exact hx
    have ex := hv5 x hxo'
    subst ex
    have xr := p6 v5 (List.mem_of_getElem? hxo')
    obtain ⟨g1, g2⟩ := e3 i y v5 hy (hxk i v5 hx)
    have wy := hwn.2.1 y (List.mem_of_getElem? hy)
    have tx := ht v5 (List.mem_of_getElem? hx)
    have tx1 := tx.1
    have tx2 := tx.2
    have hwi := hwj i y hy
    rw [xl_in xr, g1, xa_in (a := 15) xr, g2, xa_in (a := 6) xr, xa_in (a := 9) xr]
    refine ⟨fun m' v43 σ44 => ∃ j : Nat, v43 = (e.length : Int) + j ∧ m' = i - j ∧ j ≤ i ∧ ((cZ σ44 ∧ (ws.take i).Nodup ∧ ∀ k : Nat, k < j → ¬ ws[k]? = some y.1) ∨ (cF σ44 ∧ ¬ ws.Nodup)), fun σ44 => (cZ σ44 ∧ (ws.take (i + 1)).Nodup) ∨ (cF σ44 ∧ ¬ ws.Nodup), ⟨_, 0, by omega, rfl, Nat.zero_le _, ?_⟩, ?_, ?_⟩
    · rcases hnd with ⟨a, b⟩ | a
      · exact Or.inl ⟨a, b, fun k hk => by omega⟩
      · exact Or.inr a
    · rintro m' v43 σ44 r43 fr44 ⟨j, rfl, em', hj, hi3⟩
      have fin2 : i ≤ j → (cZ σ44 ∧ (ws.take (i + 1)).Nodup) ∨ (cF σ44 ∧ ¬ ws.Nodup) := fun hij => by
        rcases hi3 with ⟨a, b, b2⟩ | a
        · exact Or.inl ⟨a, (nd_take hwi).mpr ⟨b, fun k hk => b2 k (by omega)⟩⟩
        · exact Or.inr a
      refine ⟨fun c2 => fin2 (by omega), fun c2 => ⟨fun c3 => fin2 (by omega), fun c3 => ?_⟩⟩
      obtain ⟨u, hu⟩ : ∃ u, gs[j]? = some u := ⟨_, List.getElem?_eq_getElem (by omega)⟩
      have wu := hwn.2.1 u (List.mem_of_getElem? hu)
      rw [xl_in ⟨by omega, by omega⟩, hnm j u (by omega) hu]
      refine ⟨fun hne => ⟨⟨by omega, by omega⟩, i - (j + 1), by omega, j + 1, by omega, rfl, by omega, ?_⟩, fun heq => c_blame (fun z => ?_) (by decide) ⟨wy.2, by rw [← g2]; exact sg_Rg _ _ _⟩ (fun σ4 t1 t2 _ => ⟨⟨by omega, by omega⟩, i - (j + 1), by omega, j + 1, by omega, rfl, by omega, Or.inr ⟨t1, ?_⟩⟩)⟩
      · rcases hi3 with ⟨a, b, b2⟩ | a
        · refine Or.inl ⟨a, b, fun k hk => ?_⟩
          by_cases e5 : k = j
          · subst e5
            rw [hwj k u hu]
            exact fun z => hne (by rw [Option.some.inj z])
          · exact b2 k (by omega)
        · exact Or.inr a
      · rcases hi3 with ⟨a, -⟩ | a
        · exact absurd a.1 z
        · exact a.1.2
      · have huy := uv_inj wu.1 wy.1 heq
        refine nd_sub (v := i + 1) (fun z => ((nd_take hwi).mp z).2 j (by omega) ?_)
        rw [hwj j u hu, huy]
    · intro σ44 fr44 h44
      refine ⟨⟨fun _ => trivial, fun _ => ⟨fun _ => trivial, fun _ => trivial⟩⟩, fun v60 e60 r60 => ⟨⟨by omega, by omega⟩, ?_⟩⟩
      have ce44 : ckE σ44 (sg_g σ44 38 9) ev := by rw [sg_F_g fr44 (by rfl)]; exact ckE_F hce fr44 rfl
      have k44 : sg_g σ44 38 9 = (e.length + i : Nat) := by rw [sg_F_g fr44 (by rfl), en7, hevl]
      refine c_bind ce44 (by rw [sg_F_g fr44 (by rfl)]; exact hsl) (by omega) (by omega) wy.1 (by rw [← g1]; exact sg_Rgl _ _ _) ⟨by omega, by omega⟩ (fun σ65 b1 b2 b3 b4 _ _ => ⟨⟨by clear hv4; omega, by clear hv4; omega⟩, gs.length - (i + 1), by clear hv4; omega, i + 1, (y.1, sg_g σ 6 v5 - 1) :: ev, by clear hv4; omega, rfl, by clear hv4; omega, fun z hz => p5 i _ z hxo' hz, ?_, ?_, b1, by simp only [List.length_cons]; clear hv4; omega, ?_, by rw [b2]; rfl, fun j u hj hu => ?_⟩)
      · rcases hv4 with ⟨a, b⟩ | ⟨a, b⟩
        · rw [if_neg (by omega)] at e60
          by_cases c5 : sg_g σ 6 v5 ≤ 0
          · rw [if_pos c5] at e60
            exact Or.inr ⟨e60, v5, List.mem_of_getElem? hx, by omega⟩
          · rw [if_neg c5] at e60
            refine Or.inl ⟨e60, fun j z hj hz => ?_⟩
            by_cases e5 : j = i
            · subst e5; rw [hx] at hz; cases hz; omega
            · exact b j z (by omega) hz
        · rw [if_pos a] at e60
          exact Or.inr ⟨e60, b⟩
      · rcases h44 with ⟨a, b⟩ | ⟨a, b⟩
        · exact Or.inl ⟨cZ_F a b4 rfl, b⟩
        · exact Or.inr ⟨cF_F a b4 rfl, b⟩
      · have dx : xs.drop i = v5 :: xs.drop (i + 1) := by
          have hl2 : i < xs.length := by omega
          rw [List.drop_eq_getElem_cons hl2]
          rw [List.getElem?_eq_getElem hl2] at hx
          rw [Option.some.inj hx]
        have dy : gs.drop i = y :: gs.drop (i + 1) := by
          have hl2 : i < gs.length := by omega
          rw [List.drop_eq_getElem_cons hl2]
          rw [List.getElem?_eq_getElem hl2] at hy
          rw [Option.some.inj hy]
        rw [dx, dy] at hkb
        simp only [kBind] at hkb
        exact hkb
      · by_cases e5 : j = i
        · subst e5
          rw [hy] at hu
          cases hu
          have n65 := ckE_n b1
          simp only [List.length_cons] at n65
          have := b1.2.1
          rw [show sg_g σ65 38 9 - 1 = (e.length : Int) + j by omega] at this
          exact this
        · rw [b3 _ (by omega)]
          have : sg_gl σ44 39 ((e.length : Int) + j) = sg_gl σ7 39 ((e.length : Int) + j) := sg_F_gal fr44 rfl
          rw [this]
          exact hnm j u (by omega) hu
  · rintro v4 σ7 r4 fr ⟨hv4, hnd, hce, hsl⟩
    have f7 : sg_F [16, 29, 30, 32, 33, 34, 39, 40, 7028, 10038, 11038, 13038, 14038] σ σ7 := sg_F_t (sg_F_m f1 rfl) (sg_F_m fr rfl)
    have gf : (¬ ws.Nodup ∨ ∃ x ∈ xs, ¬ 0 < sg_g σ 6 x) → kGens (sg_g σ 6) gs xs = false := fun z => by
      unfold kGens
      rw [hws, Bool.and_eq_false_iff]
      rcases z with z | ⟨x, z1, z2⟩
      · exact Or.inl (decide_eq_false z)
      · right
        rw [List.all_eq_false]
        exact ⟨x, z1, by simpa using z2⟩
    refine ⟨fun σ26 => (cZ σ26 ∧ kGens (sg_g σ 6) gs xs = true ∧ ckE σ26 (sg_g σ26 38 9) (kBind (sg_g σ 6) gs xs e) ∧ sg_g σ26 38 10 = (c + gs.length : Nat)) ∨ (cF σ26 ∧ kGens (sg_g σ 6) gs xs = false), ⟨fun d => ?_, fun d => ?_⟩, ?_⟩
    · rcases hv4 with ⟨a, b⟩ | ⟨a, b⟩
      · rcases hnd with ⟨a2, b2⟩ | ⟨a2, b2⟩
        · refine Or.inl ⟨a2, ?_, hce, hsl⟩
          unfold kGens
          rw [hws, decide_eq_true b2, Bool.true_and, List.all_eq_true]
          exact fun x hx => decide_eq_true (b x hx)
        · exact Or.inr ⟨a2, gf (Or.inl b2)⟩
      · exact absurd a d
    · rcases hv4 with ⟨a, b⟩ | ⟨a, b⟩
      · omega
      · refine c_blame (fun z => ?_) (by decide) ?_ (fun σ4 t1 t2 _ => Or.inr ⟨t1, gf (Or.inr b)⟩)
        · rcases hnd with ⟨a2, b2⟩ | ⟨a2, b2⟩
          · exact absurd a2.1 z
          · exact a2.2
        · rw [p1 4 200 rfl, hpl]
          exact ⟨hwn.2.2, by rw [← hpl]; exact sg_Rg _ _ _⟩
    · intro σ26 fr26 h26
      refine c_add (fun σ30 f30 _ => ?_)
      have F30 : sg_F [16, 29, 30, 32, 33, 34, 39, 40, 7028, 10038, 11038, 13038, 14038] σ σ30 := sg_F_t (sg_F_t f7 (sg_F_m fr26 rfl)) (sg_F_m f30 rfl)
      rcases h26 with ⟨a, b, b2, b3⟩ | ⟨a, b⟩
      · refine k2 σ30 b ?_ ?_ ?_ F30
        · exact cZ_F a f30 rfl
        · rw [sg_F_g f30 (by rfl)]; exact ckE_F b2 f30 rfl
        · rw [sg_F_g f30 (by rfl)]; exact b3
      · refine k1 σ30 b ?_ F30
        unfold cF at a ⊢
        rw [sg_F_g f30 (by rfl), sg_F_g f30 (by rfl)]; exact a
end OPN
/-! ahead, enter, resolve, leave of the class. -/
section LEV
variable {σ : sg_S} {A : aT} {ds : kD} {e : kE} {n : Int} {c s : Nat} {Q : sg_S → Prop}
theorem c_ahead (h : ckW σ A) (hn : 0 ≤ n ∧ n < A.1) (hw : nW A n) (hs : s < (kOrd A n).length) (hF : cZ σ) (ht : ∀ x ∈ (kOrd A n).take s, kIn (sg_g σ 6 x)) (he : ckE σ (sg_g σ 38 9) e) (hel : e.length ≤ 250) (hc : sg_g σ 38 10 = c) (hc2 : (kBd A (sg_g σ 6) e n s).length + c ≤ 272 + e.length) (k1 : ∀ σ', (A.2.1 n = 15 ∧ s = (A.2.2.2.2.2 n).length ∧ kGens (sg_g σ 6) (A.2.2.2.2.2 n) (kGs A n) = false) → cF σ' → sg_F [16, 29, 30, 32, 33, 34, 39, 40, 7028, 10038, 11038, 13038, 14038] σ σ' → Q σ') (k2 : ∀ σ', ¬ (A.2.1 n = 15 ∧ s = (A.2.2.2.2.2 n).length ∧ kGens (sg_g σ 6) (A.2.2.2.2.2 n) (kGs A n) = false) → cZ σ' → ckE σ' (sg_g σ' 38 9) (kBd A (sg_g σ 6) e n s) → sg_g σ' 38 10 = (c + ((kBd A (sg_g σ 6) e n s).length - e.length) : Nat) → sg_F [16, 29, 30, 32, 33, 34, 39, 40, 7028, 10038, 11038, 13038, 14038] σ σ' → Q σ') : V_kAhead σ n s Q := by
  obtain ⟨p0, p1, p2, p3, p4, p5, p6⟩ := ckW_p h hn
  obtain ⟨n1, n2, n3, n4, n5, n6, n7, n8⟩ := id hw
  have hkl := kOrd_len A n
  obtain ⟨q2, q3, q15, q1, q13⟩ := kmp_q n1
  have hkd : sx_at σ 3 200 n = kmp (A.2.1 n) := by rw [p1 3 200 rfl]; exact (h.2.2 n hn.1 hn.2).1.1
  have no : kNo A n s → ¬ (A.2.1 n = 15 ∧ s = (A.2.2.2.2.2 n).length ∧ kGens (sg_g σ 6) (A.2.2.2.2.2 n) (kGs A n) = false) := fun z y => z.2 ⟨y.1, y.2.1⟩
  have stay : kNo A n s → ∀ σ', sg_F [29, 30, 32, 33, 7028] σ σ' → Q σ' := fun z σ' f => by
    have kb := kBd_no z (sg_g σ 6) e
    refine k2 σ' (no z) ?_ ?_ ?_ (sg_F_m f rfl)
    · exact cZ_F hF f rfl
    · rw [kb, sg_F_g f (by rfl)]; exact ckE_F he f rfl
    · rw [kb, sg_F_g f (by rfl), hc, Nat.sub_self]; rfl
  have stay0 : kNo A n s → Q σ := fun z => stay z σ (sg_F_r _ _)
  unfold V_kAhead
  rw [hkd, p1 13 200 rfl]
  by_cases c2 : A.2.1 n = 2
  · have m2 := q2.mpr c2
    rw [m2]
    refine ⟨fun z => absurd rfl z, fun _ => ⟨fun z => ?_, fun z => ?_⟩⟩
    · have kn : kNo A n s := ⟨fun y => z (by omega), fun y => by omega⟩
      exact ⟨fun _ => ⟨fun _ => ⟨fun _ => stay0 kn, fun y => absurd y (by decide)⟩, fun y => absurd y (by decide)⟩, fun y => absurd y (by decide)⟩
    · have l2 := n3 (Or.inl c2)
      have s1 : s = 1 := by omega
      obtain ⟨x, hx⟩ : ∃ x, (kOrd A n)[0]? = some x := ⟨_, List.getElem?_eq_getElem (by omega)⟩
      have x7 := p3 x hx
      have xm : x ∈ (kOrd A n).take s := by
        rw [s1, List.mem_take_iff_getElem]
        have h0 : 0 < (kOrd A n).length := by omega
        refine ⟨0, by omega, ?_⟩
        rw [List.getElem?_eq_getElem h0] at hx
        exact Option.some.inj hx
      have tx := ht x xm
      have hx2 : (A.2.2.2.2.1 n).getD 0 0 = x := by
        have : kOrd A n = A.2.2.2.2.1 n := by unfold kOrd; rw [if_neg (by omega)]
        rw [this] at hx
        rw [List.getD_eq_getElem?_getD, hx]; rfl
      have kb : kBd A (sg_g σ 6) e n s = (A.2.2.2.1 n, sg_g σ 6 x) :: e := by
        unfold kBd; rw [if_pos ⟨c2, s1⟩, hx2]
      have hnm : sg_gl σ 17 n = uv (A.2.2.2.1 n) := (h.2.2 n hn.1 hn.2).1.2.2.1 (Or.inr (Or.inl c2))
      have hA := h.1.2
      rw [xl_in ⟨hn.1, by omega⟩, hnm, p1 7 200 rfl, x7, xa_in (p6 x (List.mem_of_getElem? hx))]
      rw [kb] at hc2 k2
      simp only [List.length_cons] at hc2 k2
      have tx1 := tx.1
      have tx2 := tx.2
      refine c_bind he hc (by omega) (by omega) ((h.2.1 n).1 (Or.inr (Or.inl c2))) (by rw [← hnm]; exact sg_Rgl _ _ _) ⟨by omega, by omega⟩ (fun σ' b1 b2 b3 b4 _ _ σ131 e131 => c_add (fun σ135 f135 _ => ?_))
      have f131 : sg_F [16] σ' σ131 := by rw [e131]; exact xF_p (sg_F_r _ _) rfl _ _ _
      have ff : sg_F [16, 29, 30, 32, 33, 7028] σ' σ135 := sg_F_t (sg_F_m f131 rfl) (sg_F_m f135 rfl)
      refine k2 σ135 (fun y => by omega) ?_ ?_ ?_ (sg_F_t (sg_F_m b4 rfl) (sg_F_m ff rfl))
      · exact cZ_F (cZ_F hF b4 rfl) ff rfl
      · rw [sg_F_g ff (by rfl)]; exact ckE_F b1 ff rfl
      · rw [sg_F_g ff (by rfl), b2]; omega
  · have m2 : ¬ kmp (A.2.1 n) = 262 := fun z => c2 (q2.mp z)
    refine ⟨fun _ => ?_, fun z => absurd z m2⟩
    by_cases c3 : A.2.1 n = 3
    · have m3 := q3.mpr c3
      rw [m3]
      have kn : kNo A n s := ⟨fun y => by omega, fun y => by omega⟩
      refine ⟨fun z => absurd rfl z, fun _ => ⟨fun _ => ⟨fun _ => ⟨fun _ => stay0 kn, fun y => absurd y (by decide)⟩, fun y => absurd y (by decide)⟩, fun _ v54 _ _ => c_add (fun σ' f _ => stay kn σ' f)⟩⟩
    · have m3 : ¬ kmp (A.2.1 n) = 264 := fun z => c3 (q3.mp z)
      refine ⟨fun _ => ?_, fun z => absurd z m3⟩
      by_cases c15 : A.2.1 n = 15
      · have m15 := q15.mpr c15
        obtain ⟨e1, e2, e3⟩ := (h.2.2 n hn.1 hn.2).1.2.2.2.2 c15
        have l7 := n7 c15
        rw [m15, e1]
        refine ⟨fun z => absurd rfl z, fun _ => ⟨fun z => ?_, fun z => ?_⟩⟩
        · have kn : kNo A n s := ⟨fun y => by omega, fun y => z (by omega)⟩
          exact ⟨fun y => absurd rfl y, fun _ => ⟨fun _ => stay0 kn, fun _ => c_add (fun σ' f _ => stay kn σ' f)⟩⟩
        · have sg : s = (A.2.2.2.2.2 n).length := by omega
          have kb : kBd A (sg_g σ 6) e n s = kBind (sg_g σ 6) (A.2.2.2.2.2 n) (kGs A n) e := by
            unfold kBd; rw [if_neg (fun y => c2 y.1), if_pos ⟨c15, sg⟩]
          have hgl : (kGs A n).length = (A.2.2.2.2.2 n).length := by unfold kGs; rw [List.length_take, List.length_drop]; omega
          have bl := (kBind_len (T := sg_g σ 6) (A.2.2.2.2.2 n) (kGs A n) e hgl.symm).1
          rw [kb] at hc2 k2
          rw [bl] at hc2 k2
          have hgx : ∀ x ∈ kGs A n, x ∈ (kOrd A n).take s := fun x hx => by
            unfold kGs at hx
            unfold kOrd
            rw [if_pos c15, List.take_append_of_le_length (by rw [List.length_drop]; omega), sg]
            exact hx
          refine c_open h hn hw c15 hF (fun x hx => ht x (hgx x hx)) he hel hc (by omega) (fun σ' x1 x2 x3 _ => k1 σ' ⟨c15, sg, x1⟩ x2 x3) (fun σ' x1 x2 x3 x4 x5 _ => k2 σ' (fun y => by rw [x1] at y; cases y.2.2) x2 x3 ?_ x5)
          rw [x4]; omega
      · have m15 : ¬ kmp (A.2.1 n) = 123 := fun z => c15 (q15.mp z)
        have kn : kNo A n s := ⟨fun y => c2 y.1, fun y => c15 y.1⟩
        exact ⟨fun _ => ⟨fun _ => stay0 kn, fun y => absurd y m15⟩, fun y => absurd y m15⟩
/-- what enter writes -/
def enR (σ σ' : sg_S) (n : Int) : Prop := sg_g σ' 43 n = sg_g σ 7 n ∧ sg_g σ' 44 n = 0 ∧ sg_g σ' 41 n = sg_g σ 38 9 ∧ ∀ j, ¬ j = n → sg_g σ' 43 j = sg_g σ 43 j ∧ sg_g σ' 44 j = sg_g σ 44 j ∧ sg_g σ' 41 j = sg_g σ 41 j
theorem c_enter (hn : 0 ≤ n ∧ n < 200) (hF : cZ σ) (k : ∀ σ', enR σ σ' n → sg_F [16, 29, 30, 32, 33, 41, 43, 44, 7028] σ σ' → Q σ') : V_kEnter σ n Q := by
  unfold V_kEnter
  refine ⟨fun _ => c_add (fun σ3 f3 _ σ8 e8 σ11 e11 σ14 e14 σ17 e17 => ?_), fun z => absurd hF.1 z⟩
  rw [xp_in hn, xa_in hn] at e8
  rw [xp_in hn] at e11 e14 e17
  refine k σ17 ⟨?_, ?_, ?_, fun j hj => ⟨?_, ?_, ?_⟩⟩ ?_
  · rw [e17, sg_gw_c _ _ _ _ _ _ (by decide), e14, sg_gw_c _ _ _ _ _ _ (by decide), e11, sg_gw_c _ _ _ _ _ _ (by decide), e8, sg_gw_e _ _ _ _ (sg_Rg _ _ _)]
  · rw [e17, sg_gw_c _ _ _ _ _ _ (by decide), e14, sg_gw_c _ _ _ _ _ _ (by decide), e11, sg_gw_e _ _ _ _ (by decide)]
  · rw [e17, sg_gw_c _ _ _ _ _ _ (by decide), e14, sg_gw_e _ _ _ _ (sg_Rg _ _ _)]
  · rw [e17, sg_gw_c _ _ _ _ _ _ (by decide), e14, sg_gw_c _ _ _ _ _ _ (by decide), e11, sg_gw_c _ _ _ _ _ _ (by decide), e8, sg_gw_k _ _ _ _ _ _ hj, sg_F_ga f3 rfl]
  · rw [e17, sg_gw_c _ _ _ _ _ _ (by decide), e14, sg_gw_c _ _ _ _ _ _ (by decide), e11, sg_gw_k _ _ _ _ _ _ hj, e8, sg_gw_c _ _ _ _ _ _ (by decide), sg_F_ga f3 rfl]
  · rw [e17, sg_gw_c _ _ _ _ _ _ (by decide), e14, sg_gw_k _ _ _ _ _ _ hj, e11, sg_gw_c _ _ _ _ _ _ (by decide), e8, sg_gw_c _ _ _ _ _ _ (by decide), sg_F_ga f3 rfl]
  · rw [e17, e14, e11, e8]
    exact sg_F_w (sg_F_w (sg_F_w (sg_F_w (sg_F_m f3 rfl) rfl _) rfl _) rfl _) rfl _
/-- a NAME or a call's name is looked up -/
def rsC (σ : sg_S) (A : aT) (ds : kD) (e : kE) (n : Int) : Prop := (A.2.1 n = 1 → ∃ s, sg_g σ 16 n = s ∧ (0 ≤ s ∧ s < 272) ∧ kFind e (A.2.2.2.1 n) = some (sg_g σ 34 s)) ∧ (A.2.1 n = 13 → ∃ q ps r, sg_g σ 16 n = q ∧ (0 ≤ q ∧ q < 12) ∧ kDef ds (A.2.2.2.1 n) = some (ps, r) ∧ dcQ σ q (ps, r))
theorem dcQ_F {L : List Nat} {σ σ' : sg_S} {q : Int} {x : List Int × Int} (h : dcQ σ q x) (f : sg_F L σ σ') (hL : (sg_ca L 22 && sg_ca L 23 && sg_ca L 27) = true) : dcQ σ' q x := by
  simp only [Bool.and_eq_true] at hL
  obtain ⟨⟨l1, l2⟩, l3⟩ := hL
  exact ⟨by rw [sg_F_ga f l2]; exact h.1, fun j y hy => by rw [sg_F_ga f l3]; exact h.2.1 j y hy, by rw [sg_F_ga f l1]; exact h.2.2.1, h.2.2.2⟩
theorem c_resolve (h : ckW σ A) (hn : 0 ≤ n ∧ n < A.1) (hk : A.2.1 n = 1 ∨ A.2.1 n = 13) (hF : cZ σ) (he : ckE σ (sg_g σ 38 9) e) (hel : e.length ≤ 250) (hc : sg_g σ 38 10 ≤ 272) (hd : dsC σ (sg_g σ 38 11) ds) (hl : ds.length ≤ 12) (k1 : ∀ σ', ((A.2.1 n = 1 ∧ kFind e (A.2.2.2.1 n) = none) ∨ (A.2.1 n = 13 ∧ kDef ds (A.2.2.2.1 n) = none)) → cF σ' → sg_F [16, 13038, 14038] σ σ' → Q σ') (k2 : ∀ σ', rsC σ' A ds e n → cZ σ' → sg_F [16, 13038, 14038] σ σ' → Q σ') : V_kResolve σ n (kmp (A.2.1 n)) Q := by
  obtain ⟨p0, p1, p2, p3, p4, p5, p6⟩ := ckW_p h hn
  have hA := h.1.2
  have hnm : sg_gl σ 17 n = uv (A.2.2.2.1 n) := (h.2.2 n hn.1 hn.2).1.2.2.1 (by rcases hk with z | z; exact Or.inl z; exact Or.inr (Or.inr z))
  have hwv := (h.2.1 n).1 (by rcases hk with z | z; exact Or.inl z; exact Or.inr (Or.inr z))
  have hpl : sg_g σ 4 n = A.2.2.1 n := (h.2.2 n hn.1 hn.2).1.2.1
  have n200 : 0 ≤ n ∧ n < 200 := by omega
  unfold V_kResolve
  rw [xl_in n200, hnm]
  refine ⟨fun v => (v = -1 ∧ ((A.2.1 n = 1 ∧ kFind e (A.2.2.2.1 n) = none) ∨ (A.2.1 n = 13 ∧ kDef ds (A.2.2.2.1 n) = none))) ∨ (0 ≤ v ∧ (A.2.1 n = 1 → (0 ≤ v ∧ v < 272) ∧ kFind e (A.2.2.2.1 n) = some (sg_g σ 34 v)) ∧ (A.2.1 n = 13 → ∃ ps r, (0 ≤ v ∧ v < 12) ∧ kDef ds (A.2.2.2.1 n) = some (ps, r) ∧ dcQ σ v (ps, r))), ⟨fun z => ?_, fun z => ?_⟩, fun v rv hv => ?_⟩
  · have k13 : A.2.1 n = 13 := by
      rcases hk with y | y
      · rw [y] at z; exact absurd rfl z
      · exact y
    exact c_dfind hd hl hwv (fun y _ => Or.inl ⟨rfl, Or.inr ⟨k13, y⟩⟩) (fun q x y1 y2 y3 y4 _ => Or.inr ⟨y2, fun y => by omega, fun _ => ⟨x.1, x.2, ⟨y2, y3⟩, y1, y4⟩⟩)
  · have k1' : A.2.1 n = 1 := by
      rcases hk with y | y
      · exact y
      · rw [y] at z; exact absurd z (by decide)
    exact c_find he (by omega) hc hwv (fun y _ => Or.inl ⟨rfl, Or.inl ⟨k1', y⟩⟩) (fun q y1 y2 y3 _ => Or.inr ⟨y2, fun _ => ⟨⟨y2, y3⟩, y1⟩, fun y => by omega⟩)
  · have pl : 0 ≤ sx_at σ 4 200 n ∧ sg_R (sx_at σ 4 200 n) := by
      rw [p1 4 200 rfl]
      exact ⟨by rw [hpl]; exact (h.2.1 n).2.2, sg_Rg _ _ _⟩
    refine ⟨fun σ12 => (cF σ12 ∧ ((A.2.1 n = 1 ∧ kFind e (A.2.2.2.1 n) = none) ∨ (A.2.1 n = 13 ∧ kDef ds (A.2.2.2.1 n) = none))) ∨ (σ12 = σ ∧ 0 ≤ v), ⟨fun z => Or.inr ⟨rfl, z⟩, fun z => c_blame (fun y => absurd hF.1 y) (by decide) pl (fun σ' t1 t2 _ => Or.inl ⟨t1, ?_⟩)⟩, fun σ12 f12 h12 σ15 e15 => ?_⟩
    · rcases hv with ⟨-, y⟩ | ⟨y, -⟩
      · exact y
      · omega
    · have f15 : sg_F [16] σ12 σ15 := by rw [e15]; exact xF_p (sg_F_r _ _) rfl _ _ _
      rcases h12 with ⟨a, b⟩ | ⟨a, b⟩
      · refine k1 σ15 b ?_ (sg_F_t (sg_F_m f12 rfl) (sg_F_m f15 rfl))
        unfold cF at a ⊢
        rw [sg_F_g f15 (by rfl), sg_F_g f15 (by rfl)]; exact a
      · subst a
        rcases hv with ⟨y, -⟩ | ⟨y1, y2, y3⟩
        · omega
        · have g16 : sg_g σ15 16 n = v := by rw [e15, xp_in n200, sg_gw_e _ _ _ _ rv]
          have f15' : sg_F [16, 13038, 14038] σ12 σ15 := sg_F_m f15 rfl
          refine k2 σ15 ⟨fun z => ⟨v, g16, (y2 z).1, ?_⟩, fun z => ?_⟩ (cZ_F hF f15 rfl) f15'
          · rw [show sg_g σ15 34 v = sg_g σ12 34 v from sg_F_ga f15 rfl]; exact (y2 z).2
          · obtain ⟨ps, r, w1, w2, w3⟩ := y3 z
            exact ⟨v, ps, r, g16, w1, w2, dcQ_F w3 f15 rfl⟩
theorem c_conclude {a b : Int} (k : ∀ σ', sg_F [29, 30, 32, 33, 7028] σ σ' → Q σ') : V_kConclude σ a b Q := by
  have k0 : Q σ := k σ (sg_F_r _ _)
  have k1 : ∀ o, V_kpAdd σ o a (fun σ2 => sg_F [29, 30, 32, 33, 7028] σ σ2 → Q σ2) := fun o => c_add (fun σ' f _ => k σ' f)
  unfold V_kConclude
  refine ⟨fun _ => ?_, fun _ => ⟨fun _ => ?_, fun _ => ⟨fun _ => ?_, fun _ => ⟨fun _ => ?_, fun _ => ⟨fun _ => ?_, fun _ => ⟨fun _ => ?_, fun _ => ⟨fun _ => ?_, fun _ => ?_⟩⟩⟩⟩⟩⟩⟩
  · unfold V_kConclude_123
    exact c_add (fun σ' f _ => c_add (fun σ2 f2 _ => k σ2 (sg_F_t f f2)))
  · unfold V_kConclude_257; exact k1 _
  · unfold V_kConclude_257; exact k1 _
  · unfold V_kConclude_262; exact k0
  · unfold V_kConclude_264; exact k1 _
  · unfold V_kConclude_257; exact k1 _
  · unfold V_kConclude_280; exact k1 _
  · unfold V_kConclude_d
    exact fun v _ _ => c_add (fun σ' f _ => k σ' f)
end LEV
/-! leave, walk of the class. -/
theorem kTy_1 {A : aT} {ds : kD} {T : Int → Int} {e : kE} {n : Int} {ts : List Int} (hk : A.2.1 n = 1) : kTy A ds T e n ts = kFind e (A.2.2.2.1 n) := by simp only [kTy, hk]; rfl
theorem kTy_13 {A : aT} {ds : kD} {T : Int → Int} {e : kE} {n : Int} {ts : List Int} (hk : A.2.1 n = 13) (hd : kDef ds (A.2.2.2.1 n) = none) : kTy A ds T e n ts = none := by simp only [kTy, hk, hd]; rfl
section LEV
variable {σ : sg_S} {A : aT} {ds : kD} {e : kE} {n : Int} {c s : Nat} {Q : sg_S → Prop}
theorem c_leave (h : ckW σ A) (hn : 0 ≤ n ∧ n < A.1) (hw : nW A n) (ht : ∀ x ∈ A.2.2.2.2.1 n, kIn (sg_g σ 6 x)) (hF : cZ σ) (he : ckE σ (sg_g σ 38 9) e) (hel : e.length ≤ 250) (hc : sg_g σ 38 10 ≤ 272) (hd : dsC σ (sg_g σ 38 11) ds) (hl : ds.length ≤ 12) (hr : ∀ d ∈ ds, 0 ≤ d.2.2 ∧ d.2.2 < A.1) (hb : kBn A n ≤ e.length) (hkb : sg_g σ 41 n + (kBn A n : Nat) = e.length) (hei : ∀ q ∈ e.drop (kBn A n), kIn q.2) (hdi : kDi ds (sg_g σ 6)) (k1 : ∀ σ', kTy A ds (sg_g σ 6) (e.drop (kBn A n)) n ((A.2.2.2.2.1 n).map (sg_g σ 6)) = none → cF σ' → sg_F [6, 16, 29, 30, 32, 33, 7028, 10038, 13038, 14038] σ σ' → Q σ') (k2 : ∀ σ' ty, kTy A ds (sg_g σ 6) (e.drop (kBn A n)) n ((A.2.2.2.2.1 n).map (sg_g σ 6)) = some ty → cZ σ' → sg_g σ' 6 = aU (sg_g σ 6) n ty → ckE σ' (sg_g σ' 38 9) (e.drop (kBn A n)) → sg_F [6, 16, 29, 30, 32, 33, 7028, 10038, 13038, 14038] σ σ' → Q σ') : V_kLeave σ n Q := by
  obtain ⟨p0, p1, p2, p3, p4, p5, p6⟩ := ckW_p h hn
  have hA := h.1.2
  have n200 : 0 ≤ n ∧ n < 200 := by omega
  have en := ckE_n he
  obtain ⟨q2, q3, q15, q1, q13⟩ := kmp_q hw.1
  have hkd : sx_at σ 3 200 n = kmp (A.2.1 n) := by rw [p1 3 200 rfl]; exact (h.2.2 n hn.1 hn.2).1.1
  have hpl : sg_g σ 4 n = A.2.2.1 n := (h.2.2 n hn.1 hn.2).1.2.1
  have pl : 0 ≤ sx_at σ 4 200 n ∧ sg_R (sx_at σ 4 200 n) := by
    rw [p1 4 200 rfl]
    exact ⟨by rw [hpl]; exact (h.2.1 n).2.2, sg_Rg _ _ _⟩
  unfold V_kLeave
  intro σ1 e1
  rw [p1 41 200 rfl] at e1
  have f1 : sg_F [10038] σ σ1 := by rw [e1]; exact sg_F_w (sg_F_r _ _) rfl _
  have kn1 : sg_g σ1 38 9 = sg_g σ 38 9 - (kBn A n : Nat) := by rw [e1, sg_gw_e _ _ _ _ (sg_Rg _ _ _)]; omega
  have h1 := ckW_F h f1 rfl
  have F1 : cZ σ1 := cZ_F hF f1 rfl
  have he1 : ckE σ1 (sg_g σ1 38 9) (e.drop (kBn A n)) := by
    rw [kn1]; exact ckE_d (kBn A n) (ckE_F he f1 rfl) hb
  generalize e.drop (kBn A n) = e' at *
  have hel' : e'.length ≤ 250 := by have := ckE_n he1; omega
  have T1 : sg_g σ1 6 = sg_g σ 6 := funext fun _ => sg_F_ga f1 rfl
  have D1 : dsC σ1 (sg_g σ1 38 11) ds := by
    rw [sg_F_g f1 (by rfl)]
    exact dsC_F f1 rfl hd
  rw [hkd]
  have rs : ∀ P : sg_S → Prop, (A.2.1 n = 1 ∨ A.2.1 n = 13) → (∀ σ', (cF σ' ∧ kTy A ds (sg_g σ 6) e' n ((A.2.2.2.2.1 n).map (sg_g σ 6)) = none) ∨ (cZ σ' ∧ rsC σ' A ds e' n) → P σ') → V_kResolve σ1 n (kmp (A.2.1 n)) (fun σ46 => sg_F [16, 13038, 14038] σ1 σ46 → P σ46) := fun P hk hP => by
    refine c_resolve h1 hn hk F1 he1 hel' (by rw [sg_F_g f1 (by rfl)]; exact hc) D1 hl (fun σ' x1 x2 x3 _ => hP σ' (Or.inl ⟨x2, ?_⟩)) (fun σ' x1 x2 x3 _ => hP σ' (Or.inr ⟨x2, x1⟩))
    rcases x1 with ⟨a, b⟩ | ⟨a, b⟩
    · rw [kTy_1 a]; exact b
    · exact kTy_13 a b
  refine ⟨fun σ7 => (cF σ7 ∧ kTy A ds (sg_g σ 6) e' n ((A.2.2.2.2.1 n).map (sg_g σ 6)) = none) ∨ (cZ σ7 ∧ rsC σ7 A ds e' n), ⟨fun z => rs _ (Or.inl (q1.mp z)) (fun σ' x => x), fun z => ⟨fun z2 => Or.inr ⟨F1, fun y => absurd (q1.mpr y) z, fun y => absurd (q13.mpr y) z2⟩, fun z2 => rs _ (Or.inr (q13.mp z2)) (fun σ' x => x)⟩⟩, ?_⟩
  intro σ7 fr7 h7
  have f7 : sg_F [16, 10038, 13038, 14038] σ σ7 := sg_F_t (sg_F_m f1 rfl) (sg_F_m fr7 rfl)
  have F7 : sg_F [6, 16, 29, 30, 32, 33, 7028, 10038, 13038, 14038] σ σ7 := sg_F_m f7 rfl
  refine ⟨fun z => ?_, fun z => ?_⟩
  rotate_left
  · rcases h7 with ⟨a, b⟩ | ⟨a, -⟩
    · exact k1 σ7 b a F7
    · exact absurd a.1 z
  rcases h7 with ⟨a, -⟩ | ⟨zz, r1, r2⟩
  · exact absurd z a.1
  have T7 : sg_g σ7 6 = sg_g σ 6 := funext fun _ => sg_F_ga f7 rfl
  have he7 : ckE σ7 (sg_g σ7 38 9) e' := by rw [sg_F_g fr7 (by rfl)]; exact ckE_F he1 fr7 rfl
  refine c_depth (ds := ds) (e := e') (ckW_F h f7 rfl) hn hw (by rw [T7]; exact ht) (fun y => ?_) (fun y => ?_) (fun q hq rq => ?_)
  · obtain ⟨s, s1, s2, s3⟩ := r1 y
    exact ⟨s, s1, s2, s3, kFind_in hei s3⟩
  · obtain ⟨q, ps, r, s1, s2, s3, s4⟩ := r2 y
    obtain ⟨d, d1, d2⟩ := kDef_in s3
    have := hr d d1
    refine ⟨q, ps, r, s1, s2, s3, s4, by omega, ?_⟩
    rw [T7, ← d2]; exact hdi d d1
  · rw [T7] at hq
    have fault : (kTy A ds (sg_g σ 6) e' n ((A.2.2.2.2.1 n).map (sg_g σ 6)) = none) → ∀ P : sg_S → Prop, (∀ σ', cF σ' → sg_F [13038, 14038] σ7 σ' → P σ') → V_kBlame σ7 3 (sx_at σ 4 200 n) (fun σ33 => sg_F [13038, 14038] σ7 σ33 → P σ33) := fun _ P hP => c_blame (fun y => absurd z y) (by decide) pl (fun σ' t1 t2 _ => hP σ' t1 t2)
    refine ⟨fun σ20 => (cF σ20 ∧ kTy A ds (sg_g σ 6) e' n ((A.2.2.2.2.1 n).map (sg_g σ 6)) = none) ∨ (σ20 = σ7 ∧ kTy A ds (sg_g σ 6) e' n ((A.2.2.2.2.1 n).map (sg_g σ 6)) = some q), ⟨fun y => ?_, fun y => ⟨fun y2 => ?_, fun y2 => ?_⟩⟩, fun σ20 f20 h20 σ23 e23 => c_conclude (fun σ27 f27 _ => ?_)⟩
    · rcases hq with ⟨a, -⟩ | ⟨-, a, -⟩
      · exact fault a _ (fun σ' t1 _ => Or.inl ⟨t1, a⟩)
      · omega
    · rcases hq with ⟨-, a⟩ | ⟨a, -⟩
      · omega
      · exact Or.inr ⟨rfl, a⟩
    · rcases hq with ⟨a, -⟩ | ⟨-, -, a⟩
      · exact fault a _ (fun σ' t1 _ => Or.inl ⟨t1, a⟩)
      · omega
    · have f23 : sg_F [6] σ20 σ23 := by rw [e23]; exact xF_p (sg_F_r _ _) rfl _ _ _
      have f27' : sg_F [6, 29, 30, 32, 33, 7028] σ20 σ27 := sg_F_t (sg_F_m f23 rfl) (sg_F_m f27 rfl)
      have FF : sg_F [6, 16, 29, 30, 32, 33, 7028, 10038, 13038, 14038] σ σ27 := sg_F_t (sg_F_t F7 (sg_F_m f20 rfl)) (sg_F_m f27' rfl)
      rcases h20 with ⟨a, b⟩ | ⟨a, b⟩
      · refine k1 σ27 b ?_ FF
        unfold cF at a ⊢
        rw [sg_F_g f27' (by rfl), sg_F_g f27' (by rfl)]; exact a
      · subst a
        refine k2 σ27 q b ?_ ?_ ?_ FF
        · exact cZ_F zz f27' rfl
        · rw [show sg_g σ27 6 = sg_g σ23 6 from funext fun _ => sg_F_ga f27 rfl, e23, xp_in n200]
          funext j
          by_cases y : j = n
          · rw [y, sg_gw_e _ _ _ _ rq]; simp only [aU, if_true]
          · rw [sg_gw_k _ _ _ _ _ _ y, T7]; simp only [aU, y, if_false]
        · rw [sg_F_g f27' (by rfl)]; exact ckE_F he7 f27' rfl
end LEV
/-! walk of the class comes to kGo. -/
/-- names bound at n, stage s being the next -/
def kBs (A : aT) (n s : Int) : Int := if A.2.1 n = 2 ∧ 2 ≤ s then 1 else if A.2.1 n = 15 ∧ ((A.2.2.2.2.2 n).length : Int) < s then ((A.2.2.2.2.2 n).length : Int) else 0
/-- the walk's links: from node k up to the root; l: names known now -/
def cCh (σ : sg_S) (A : aT) : Int → List (Int × Int) → Int → Prop
  | k, [], _ => k = -1
  | k, y :: r, l => k = y.1 ∧ (0 ≤ y.1 ∧ y.1 < 200) ∧ sg_g σ 44 y.1 = y.2 ∧ (∀ x, (kOrd A y.1)[y.2.toNat]? = some x → sg_g σ 43 y.1 = x) ∧ sg_g σ 41 y.1 + kBs A y.1 y.2 = l ∧ cCh σ A (sg_g σ 42 y.1) r (sg_g σ 41 y.1)
theorem cCh_e {σ σ' : sg_S} {A : aT} : ∀ {k : Int} {p : List (Int × Int)} {l : Int}, cCh σ A k p l → (∀ y ∈ p, sg_g σ' 41 y.1 = sg_g σ 41 y.1 ∧ sg_g σ' 42 y.1 = sg_g σ 42 y.1 ∧ sg_g σ' 43 y.1 = sg_g σ 43 y.1 ∧ sg_g σ' 44 y.1 = sg_g σ 44 y.1) → cCh σ' A k p l
  | k, [], l, h, _ => h
  | k, y :: r, l, h, hq => by
    obtain ⟨a1, a2, a3, a4, a5, a6⟩ := h
    obtain ⟨b1, b2, b3, b4⟩ := hq y (by simp)
    refine ⟨a1, a2, by rw [b4]; exact a3, fun x hx => by rw [b3]; exact a4 x hx, by rw [b1]; exact a5, ?_⟩
    rw [b1, b2]
    exact cCh_e a6 (fun z hz => hq z (by simp [hz]))
theorem kBs_2 {A : aT} {n s : Int} (h : A.2.1 n = 2) : kBs A n s = if 2 ≤ s then 1 else 0 := by
  unfold kBs
  by_cases c : 2 ≤ s
  · rw [if_pos ⟨h, c⟩, if_pos c]
  · rw [if_neg (show ¬ (A.2.1 n = 2 ∧ 2 ≤ s) from fun z => c z.2), if_neg (show ¬ (A.2.1 n = 15 ∧ ((A.2.2.2.2.2 n).length : Int) < s) from fun z => by omega), if_neg c]
theorem kBs_15 {A : aT} {n s : Int} (h : A.2.1 n = 15) : kBs A n s = if ((A.2.2.2.2.2 n).length : Int) < s then ((A.2.2.2.2.2 n).length : Int) else 0 := by
  unfold kBs
  rw [if_neg (show ¬ (A.2.1 n = 2 ∧ 2 ≤ s) from fun z => by omega)]
  by_cases c : ((A.2.2.2.2.2 n).length : Int) < s
  · rw [if_pos ⟨h, c⟩, if_pos c]
  · rw [if_neg (show ¬ (A.2.1 n = 15 ∧ ((A.2.2.2.2.2 n).length : Int) < s) from fun z => c z.2), if_neg c]
theorem kBs_o {A : aT} {n s : Int} (h2 : ¬ A.2.1 n = 2) (h15 : ¬ A.2.1 n = 15) : kBs A n s = 0 := by
  unfold kBs
  rw [if_neg (show ¬ (A.2.1 n = 2 ∧ 2 ≤ s) from fun z => h2 z.1), if_neg (show ¬ (A.2.1 n = 15 ∧ ((A.2.2.2.2.2 n).length : Int) < s) from fun z => h15 z.1)]
theorem kBs_up {A : aT} {T : Int → Int} {e : kE} {n : Int} {s : Nat} (hw : nW A n) (hs : s < (kOrd A n).length) (hl : e.length ≤ (kBd A T e n s).length) : kBs A n ((s + 1 : Nat) : Int) = kBs A n s + (((kBd A T e n s).length : Int) - e.length) := by
  obtain ⟨n1, n2, n3, n4, n5, n6, n7, n8⟩ := hw
  have hkl := kOrd_len A n
  by_cases c2 : A.2.1 n = 2
  · have l2 := n3 (Or.inl c2)
    rw [kBs_2 c2, kBs_2 c2]
    by_cases c1 : s = 1
    · have kb : (kBd A T e n s).length = e.length + 1 := by unfold kBd; rw [if_pos ⟨c2, c1⟩]; rfl
      rw [kb, if_pos (by omega), if_neg (by omega)]; omega
    · have kb := kBd_no (A := A) (n := n) (s := s) ⟨fun z => c1 z.2, fun z => by omega⟩ T e
      rw [kb, if_neg (by omega), if_neg (by omega)]; omega
  · by_cases c15 : A.2.1 n = 15
    · have l7 := n7 c15
      rw [kBs_15 c15, kBs_15 c15]
      by_cases c1 : s = (A.2.2.2.2.2 n).length
      · have hgl : (kGs A n).length = (A.2.2.2.2.2 n).length := by unfold kGs; rw [List.length_take, List.length_drop]; omega
        have kb : (kBd A T e n s).length = e.length + (A.2.2.2.2.2 n).length := by
          unfold kBd; rw [if_neg (fun z => c2 z.1), if_pos ⟨c15, c1⟩]
          exact (kBind_len (A.2.2.2.2.2 n) (kGs A n) e hgl.symm).1
        rw [kb, if_pos (by omega), if_neg (by omega)]; omega
      · have kb := kBd_no (A := A) (n := n) (s := s) ⟨fun z => c2 z.1, fun z => c1 z.2⟩ T e
        rw [kb]
        by_cases c3 : (A.2.2.2.2.2 n).length < s
        · rw [if_pos (by omega), if_pos (by omega)]; omega
        · rw [if_neg (by omega), if_neg (by omega)]; omega
    · have kb := kBd_no (A := A) (n := n) (s := s) ⟨fun z => c2 z.1, fun z => c15 z.1⟩ T e
      rw [kb, kBs_o c2 c15, kBs_o c2 c15]; omega
theorem kBs_end {A : aT} {n : Int} {s : Nat} (hw : nW A n) (hs : s = (kOrd A n).length) : kBs A n s = (kBn A n : Nat) := by
  obtain ⟨n1, n2, n3, n4, n5, n6, n7, n8⟩ := hw
  have hkl := kOrd_len A n
  unfold kBn
  by_cases c2 : A.2.1 n = 2
  · have l2 := n3 (Or.inl c2)
    rw [kBs_2 c2, if_pos (by omega), if_pos c2]; rfl
  · by_cases c15 : A.2.1 n = 15
    · have l7 := n7 c15
      rw [kBs_15 c15, if_pos (by omega), if_neg c2, if_pos c15]
    · rw [kBs_o c2 c15, if_neg c2, if_neg c15]; rfl
theorem kBs_0 (A : aT) (n : Int) : kBs A n 0 = 0 := by
  by_cases c2 : A.2.1 n = 2
  · rw [kBs_2 c2]; rfl
  · by_cases c15 : A.2.1 n = 15
    · rw [kBs_15 c15, if_neg (by omega)]
    · exact kBs_o c2 c15
/-- the cells of the class's walk -/
def ckI (A : aT) (ds : kD) (r : Option ((Int → Int) × (Int → Int))) (cm : Nat) (i : Nat) (k t : Int) (σ : sg_S) : Prop := (cZ σ ∧ 0 ≤ t ∧ ∃ m c p e eb B, i = m + 1 ∧ t + m ≤ 400 ∧ (p.map (·.1)).Nodup ∧ cCh σ A k p ((e.length : Nat) : Int) ∧ ckE σ (sg_g σ 38 9) e ∧ sg_g σ 38 10 = (c : Nat) ∧ c ≤ 272 ∧ kRun A ds r cm m c p e (sg_g σ 6) eb B) ∨ (cF σ ∧ r = none ∧ 0 ≤ t ∧ t ≤ 401)
section WLK
variable {σ : sg_S} {A : aT} {ds : kD} {e : kE} {n : Int} {c : Nat} {Q : sg_S → Prop}
theorem c_walk {d : Int} {L : List Int} (h : ckW σ A) (hL1 : fT A [n] L) (hL2 : L.Nodup) (hL3 : ∀ x ∈ L, 0 ≤ x ∧ x < A.1) (hLl : L.length ≤ 200) (hF : cZ σ) (he : ckE σ (sg_g σ 38 9) e) (hel : e.length ≤ 50) (hei : ∀ q ∈ e, kIn q.2) (hdi : kDi ds (sg_g σ 6)) (hc : sg_g σ 38 10 = c) (hc2 : c + L.length ≤ 272) (hd : dsC σ (sg_g σ 38 11) ds) (hl : ds.length ≤ 12) (hr : ∀ d ∈ ds, 0 ≤ d.2.2 ∧ d.2.2 < A.1) (k1 : ∀ σ', kGo A ds 201 e n (sg_g σ 6) = none → cF σ' → sg_F [6, 16, 29, 30, 31, 32, 33, 34, 39, 40, 41, 42, 43, 44, 7028, 10038, 11038, 13038, 14038] σ σ' → Q σ') (k2 : ∀ σ', kGo A ds 201 e n (sg_g σ 6) = some (sg_g σ' 6) → cZ σ' → (∃ c' : Nat, sg_g σ' 38 10 = c' ∧ c' ≤ c + L.length) → sg_F [6, 16, 29, 30, 31, 32, 33, 34, 39, 40, 41, 42, 43, 44, 7028, 10038, 11038, 13038, 14038] σ σ' → Q σ') : V_kWalk σ d n Q := by
  have hA := h.1.2
  have hnn : 0 ≤ n ∧ n < A.1 := hL3 n (fT_sub hL1 n (by simp))
  obtain ⟨r, hr1, hr2, hr3⟩ : ∃ r : Option ((Int → Int) × (Int → Int)), (kGo A ds 201 e n (sg_g σ 6) = none → r = none) ∧ (∀ T1, kGo A ds 201 e n (sg_g σ 6) = some T1 → r = some (T1, kBo A ds 201 [] n (fun _ => 0))) ∧ (r = none → kGo A ds 201 e n (sg_g σ 6) = none) := by
    cases kGo A ds 201 e n (sg_g σ 6) with
    | none => exact ⟨none, fun _ => rfl, fun T1 z => (by cases z), fun _ => rfl⟩
    | some T1 => exact ⟨some (T1, kBo A ds 201 [] n (fun _ => 0)), fun z => (by cases z), fun T2 z => (by cases z; rfl), fun z => (by cases z)⟩
  have run0 : kRun A ds r (c + L.length) (0 + (2 * L.length - 1)) c [(n, 0)] e (sg_g σ 6) [] (fun _ => 0) := kNL_all A ds 201 _ (c + L.length) 0 c n L [] e (sg_g σ 6) [] (fun _ => 0) hL1 hL3 hL2 (by simp) (by omega) (by omega) (by simp only [List.length_nil]; omega) hc2 hdi hei hr1 (fun T1 c' x _ _ => kRun_nil 0 c' e T1 [] _ (by omega) (hr2 T1 x))
  have k1' : ∀ σ', r = none → cF σ' → sg_F [6, 16, 29, 30, 31, 32, 33, 34, 39, 40, 41, 42, 43, 44, 7028, 10038, 11038, 13038, 14038] σ σ' → Q σ' := fun σ' z => k1 σ' (hr3 z)
  have k2' : ∀ σ' B, r = some (sg_g σ' 6, B) → cZ σ' → (∃ c' : Nat, sg_g σ' 38 10 = c' ∧ c' ≤ c + L.length) → sg_F [6, 16, 29, 30, 31, 32, 33, 34, 39, 40, 41, 42, 43, 44, 7028, 10038, 11038, 13038, 14038] σ σ' → Q σ' := fun σ' B z => by
    cases hg : kGo A ds 201 e n (sg_g σ 6) with
    | none => rw [hr1 hg] at z; cases z
    | some T1 =>
      have z2 := hr2 T1 hg
      rw [z] at z2
      have z3 := Prod.mk.inj (Option.some.inj z2)
      exact k2 σ' (by rw [hg, z3.1])
  clear k1 k2 hr1 hr2 hr3
  have hll := fT_len hL1
  simp only [List.length_cons, List.length_nil] at hll
  have n200 : 0 ≤ n ∧ n < 200 := by omega
  unfold V_kWalk
  intro σ1 e1 σ4 e4
  rw [xp_in n200] at e4
  have f4 : sg_F [31, 42] σ σ4 := by rw [e4, e1]; exact sg_F_w (xF_p (sg_F_r _ _) rfl _ _ _) rfl _
  have F4 : cZ σ4 := cZ_F hF f4 rfl
  refine c_enter n200 F4 (fun σ8 en8 f8 _ => ?_)
  have f8' : sg_F [16, 29, 30, 31, 32, 33, 41, 42, 43, 44, 7028] σ σ8 := sg_F_t (sg_F_m f4 rfl) (sg_F_m f8 rfl)
  have T8 : sg_g σ8 6 = sg_g σ 6 := funext fun _ => sg_F_ga f8' rfl
  have he8 : ckE σ8 (sg_g σ8 38 9) e := by rw [sg_F_g f8' (by rfl)]; exact ckE_F he f8' rfl
  have en := ckE_n he
  obtain ⟨q1, q2, q3, q4⟩ := en8
  refine ⟨ckI A ds r (c + L.length), fun σ15 => (cZ σ15 ∧ (∃ B, r = some (sg_g σ15 6, B)) ∧ ∃ c' : Nat, sg_g σ15 38 10 = c' ∧ c' ≤ c + L.length) ∨ (cF σ15 ∧ r = none), ⟨(0 + (2 * L.length - 1)) + 1, Or.inl ⟨?_, Int.le_refl _, 0 + (2 * L.length - 1), c, [(n, 0)], e, [], (fun _ => 0), rfl, by omega, by simp, ⟨rfl, n200, q2, fun x hx => ?_, ?_, ?_⟩, he8, ?_, by omega, ?_⟩⟩, ?_, ?_⟩
  · exact cZ_F hF f8' rfl
  · rw [q1, sg_F_ga f4 rfl]
    obtain ⟨p0, p1, p2, p3, p4, p5, p6⟩ := ckW_p h hnn
    exact p3 x hx
  · rw [kBs_0, q3, sg_F_g f4 (by rfl), en]; omega
  · show sg_g σ8 42 n = -1
    rw [sg_F_ga f8 rfl, e4, sg_gw_e _ _ _ _ (by decide)]
  · rw [sg_F_g f8' (by rfl)]; exact hc
  · rw [T8]; exact run0
  · rintro i k t σ15 rk rt fr hI
    have f15 : sg_F [6, 16, 29, 30, 31, 32, 33, 34, 39, 40, 41, 42, 43, 44, 7028, 10038, 11038, 13038, 14038] σ σ15 := sg_F_t (sg_F_m f8' rfl) (sg_F_m fr rfl)
    refine ⟨fun c0 => ?_, fun c0 => ⟨fun c1 => ?_, fun c1 => ⟨fun c3 => ?_, fun c3 => ?_⟩⟩⟩
    · rcases hI with ⟨-, -, m, c', p, e', eb', B', -, i2, -⟩ | ⟨i1, i2, -⟩
      · omega
      · exact Or.inr ⟨i1, i2⟩
    · rcases hI with ⟨i0, -, m, c', p, e', eb', B', -, i2, i3, i4, i5, i6, i7, i8⟩ | ⟨i1, i2, -⟩
      · cases p with
        | nil => exact Or.inl ⟨i0, ⟨B', (kRun_0 i8).1⟩, c', i6, (kRun_0 i8).2⟩
        | cons y p => have := i4.1; have := i4.2.1; omega
      · exact Or.inr ⟨i1, i2⟩
    · rcases hI with ⟨i0, -⟩ | ⟨i1, i2, -⟩
      · exact absurd i0.1 c3
      · exact Or.inr ⟨i1, i2⟩
    · rcases hI with ⟨z15, it, m, c', p0, e', eb', B', rfl, i2, i3, i4, i5, i6, i7, i8⟩ | ⟨i1, -⟩
      rotate_left
      · exact absurd c3 i1.1
      cases p0 with
      | nil => have := i4; simp only [cCh] at this; omega
      | cons y p =>
        obtain ⟨q, s'⟩ := y
        obtain ⟨s, rfl, hnd, b1, b2, g1, g2⟩ := kRun_inv i8
        obtain ⟨hq, hw, hso, hst⟩ := hnd
        obtain ⟨a1, a2, a3, a4, a5, a6⟩ := i4
        simp only at a1 a2 a3 a4 a5 a6
        subst a1
        rw [Int.toNat_natCast] at a4
        have h15 := ckW_F h f15 rfl
        obtain ⟨p0, p1, p2, p3, p4, p5, p6⟩ := ckW_p h hq
        have hkl := kOrd_len A k
        have k200 : 0 ≤ k ∧ k < 200 := a2
        have rl := sg_Rg σ 10 k
        rw [p2] at rl
        have en15 := ckE_n i5
        have kp : k ∉ p.map (·.1) := (List.nodup_cons.mp i3).1
        have pnd : (p.map (·.1)).Nodup := (List.nodup_cons.mp i3).2
        rw [xa_in (a := 44) k200, a3, p1 10 200 rfl, p2, xa_in (a := 43) k200, xa_in (a := 42) k200]
        refine ⟨fun k' σ42 => ckI A ds r (c + L.length) m k' (t + 1) σ42 ∨ (cF σ42 ∧ r = none), ⟨fun c4 => ?_, fun c4 => ?_⟩, ?_⟩
        · -- one more part
          have hs : s < (kOrd A k).length := by omega
          obtain ⟨x, hx⟩ : ∃ x, (kOrd A k)[s]? = some x := ⟨_, List.getElem?_eq_getElem hs⟩
          have x43 := a4 x hx
          rw [x43]
          have xr200 := p6 x (List.mem_of_getElem? hx)
          have kbl : (kBd A (sg_g σ15 6) e' k s).length + c' ≤ 272 + e'.length := by
            by_cases gg : (A.2.1 k = 15 ∧ s = (A.2.2.2.2.2 k).length ∧ kGens (sg_g σ15 6) (A.2.2.2.2.2 k) (kGs A k) = false)
            · exact (g1 gg).2
            · rcases g2 gg with ⟨x', m', -, -, -, -, -, x5, -⟩ | ⟨x1, -⟩
              · exact x5
              · omega
          refine c_ahead h15 hq hw hs z15 hst i5 b1 i6 kbl (fun σ50 x1 x2 x3 _ => ⟨⟨by omega, by omega⟩, fun σ56 e56 σ59 e59 σ62 e62 => ?_⟩) (fun σ50 x1 x2 x3 x4 x5 _ => ⟨⟨by omega, by omega⟩, fun σ56 e56 σ59 e59 σ62 e62 => ?_⟩)
          · have f62 : sg_F [42, 43, 44] σ50 σ62 := by rw [e62, e59, e56]; exact xF_p (xF_p (xF_p (sg_F_r _ _) rfl _ _ _) rfl _ _ _) rfl _ _ _
            have F62 : cF σ62 := by
              unfold cF at x2 ⊢
              rw [sg_F_g f62 (by rfl), sg_F_g f62 (by rfl)]; exact x2
            unfold V_kEnter
            exact ⟨fun z => absurd z F62.1, fun _ _ => Or.inr ⟨F62, (g1 x1).1⟩⟩
          · rcases g2 x1 with ⟨x', m', em', hx', nx, np, le1, le2, hrun⟩ | ⟨y1, -⟩
            rotate_left
            · omega
            rw [hx] at hx'
            cases hx'
            rw [xp_in k200] at e56 e59
            rw [xp_in xr200] at e62
            have f62 : sg_F [42, 43, 44] σ50 σ62 := by rw [e62, e59, e56]; exact sg_F_w (sg_F_w (sg_F_w (sg_F_r _ _) rfl _) rfl _) rfl _
            have F62 : cZ σ62 := cZ_F x2 f62 rfl
            refine c_enter xr200 F62 (fun σ66 en66 f66 _ => Or.inl (Or.inl ⟨?_, by omega, m', c' + ((kBd A (sg_g σ15 6) e' k s).length - e'.length), (x, 0) :: (k, ((s + 1 : Nat) : Int)) :: p, kBd A (sg_g σ15 6) e' k s, kBb A eb' k s, B', em', by omega, ?_, ?_, ?_, ?_, by omega, ?_⟩))
            · exact cZ_F F62 f66 rfl
            · simp only [List.map_cons]
              refine List.nodup_cons.mpr ⟨fun z => ?_, i3⟩
              rcases List.mem_cons.mp z with z | z
              · exact nx z
              · obtain ⟨y, y1, y2⟩ := List.mem_map.mp z
                exact np y y1 y2
            · obtain ⟨w1, w2, w3, w4⟩ := en66
              have xA : 0 ≤ x ∧ x < A.1 := by
                have : x ∈ A.2.2.2.2.1 k := by
                  have := List.mem_of_getElem? hx
                  unfold kOrd at this
                  split at this
                  · rcases List.mem_append.mp this with z | z
                    · exact List.mem_of_mem_drop z
                    · exact List.mem_of_mem_take z
                  · exact this
                exact (h.2.2 k hq.1 hq.2).2 x this
              have h62 : sg_F [6, 16, 29, 30, 31, 32, 33, 34, 39, 40, 41, 42, 43, 44, 7028, 10038, 11038, 13038, 14038] σ σ62 := sg_F_t (sg_F_t f15 (sg_F_m x5 rfl)) (sg_F_m f62 rfl)
              have kn62 : sg_g σ62 38 9 = ((kBd A (sg_g σ15 6) e' k s).length : Nat) := by rw [sg_F_g f62 (by rfl)]; exact ckE_n x3
              have nk := w4 k (fun z => nx z.symm)
              have e41 : ∀ j, sg_g σ62 41 j = sg_g σ15 41 j := fun j => by rw [sg_F_ga f62 rfl, sg_F_ga x5 rfl]
              have e42 : ∀ j, ¬ j = x → sg_g σ66 42 j = sg_g σ15 42 j := fun j hj => by rw [sg_F_ga f66 rfl, e62, sg_gw_k _ _ _ _ _ _ hj, e59, sg_gw_c _ _ _ _ _ _ (by decide), e56, sg_gw_c _ _ _ _ _ _ (by decide), sg_F_ga x5 rfl]
              have e43 : ∀ j, ¬ j = k → sg_g σ62 43 j = sg_g σ15 43 j := fun j hj => by rw [e62, sg_gw_c _ _ _ _ _ _ (by decide), e59, sg_gw_k _ _ _ _ _ _ hj, e56, sg_gw_c _ _ _ _ _ _ (by decide), sg_F_ga x5 rfl]
              have e44 : ∀ j, ¬ j = k → sg_g σ62 44 j = sg_g σ15 44 j := fun j hj => by rw [e62, sg_gw_c _ _ _ _ _ _ (by decide), e59, sg_gw_c _ _ _ _ _ _ (by decide), e56, sg_gw_k _ _ _ _ _ _ hj, sg_F_ga x5 rfl]
              have up := kBs_up (T := sg_g σ15 6) (e := e') hw hs le1
              refine ⟨rfl, xr200, w2, fun y hy => ?_, ?_, ?_⟩
              · rw [w1, sg_F_ga h62 rfl]
                exact (ckW_p h xA).2.2.2.1 y hy
              · simp only
                rw [kBs_0, w3, kn62]; omega
              · simp only
                rw [w3, kn62, show sg_g σ66 42 x = k from by rw [sg_F_ga f66 rfl, e62, sg_gw_e _ _ _ _ rk]]
                refine ⟨rfl, k200, ?_, fun y hy => ?_, ?_, ?_⟩
                · simp only
                  rw [nk.2.1, e62, sg_gw_c _ _ _ _ _ _ (by decide), e59, sg_gw_c _ _ _ _ _ _ (by decide), e56, sg_gw_e _ _ _ _ ⟨by omega, by omega⟩]; omega
                · simp only [Int.toNat_natCast] at hy
                  simp only
                  rw [nk.1, e62, sg_gw_c _ _ _ _ _ _ (by decide), e59, sg_gw_e _ _ _ _ (sx_R ..), xa_in xr200]
                  exact p5 s x y hx hy
                · simp only
                  rw [nk.2.2, e41, up]; omega
                · simp only
                  rw [e42 k (fun z => nx z.symm), nk.2.2, e41]
                  refine cCh_e a6 (fun y hy => ?_)
                  have yx := np y hy
                  have yk : ¬ y.1 = k := fun z => kp (List.mem_map.mpr ⟨y, hy, z⟩)
                  have wy := w4 y.1 yx
                  exact ⟨by rw [wy.2.2, e41], e42 _ yx, by rw [wy.1, e43 _ yk], by rw [wy.2.1, e44 _ yk]⟩
            · rw [sg_F_g f66 (by rfl), sg_F_g f62 (by rfl)]
              exact ckE_F (ckE_F x3 f62 rfl) f66 rfl
            · rw [sg_F_g f66 (by rfl), sg_F_g f62 (by rfl)]; exact x4
            · rw [show sg_g σ66 6 = sg_g σ15 6 from funext fun _ => by rw [sg_F_ga f66 rfl, sg_F_ga f62 rfl, sg_F_ga x5 rfl]]
              exact hrun
        · -- all parts are done
          have hs : s = (kOrd A k).length := by omega
          have ng : ¬ (A.2.1 k = 15 ∧ s = (A.2.2.2.2.2 k).length ∧ kGens (sg_g σ15 6) (A.2.2.2.2.2 k) (kGs A k) = false) := fun z => by
            obtain ⟨n1, n2, n3, n4, n5, n6, n7, n8⟩ := hw
            have := n7 z.1
            have := z.2.1
            omega
          rcases g2 ng with ⟨x', m', -, hx', -⟩ | ⟨-, kb, ⟨hei', hdi'⟩, hty⟩
          · rw [hs, List.getElem?_eq_none (Nat.le_refl _)] at hx'; cases hx'
          have kend := kBs_end hw hs
          refine c_leave h15 hq hw (fun z hz => hst z (by rw [hs, List.take_length]; exact kOrd_mem hz)) z15 i5 b1 (by rw [i6]; omega) (by rw [sg_F_g f15 (by rfl)]; exact dsC_F f15 rfl hd) hl hr kb (by rw [← kend]; exact a5) hei' hdi' (fun σ72 x1 x2 x3 _ => ?_) (fun σ72 ty x1 x2 x3 x4 x5 _ => ?_)
          · right
            refine ⟨x2, ?_⟩
            rcases hty with ⟨-, z⟩ | ⟨ty, m', -, z, -⟩
            · exact z
            · rw [x1] at z; cases z
          · rcases hty with ⟨z, -⟩ | ⟨ty', m', em', z, hrun⟩
            · rw [x1] at z; cases z
            · rw [x1] at z
              cases z
              left
              refine Or.inl ⟨x2, by omega, m', c', p, e'.drop (kBn A k), eb'.drop (kBn A k), kUp A ds (eb'.drop (kBn A k)) k B', em', by omega, pnd, ?_, x4, ?_, i7, by rw [x3]; exact hrun⟩
              · rw [List.length_drop, show (((e'.length - kBn A k : Nat)) : Int) = sg_g σ15 41 k from by rw [kend] at a5; omega]
                exact cCh_e a6 (fun y hy => ⟨sg_F_ga x5 rfl, sg_F_ga x5 rfl, sg_F_ga x5 rfl, sg_F_ga x5 rfl⟩)
              · rw [sg_F_g x5 (by rfl)]; exact i6
        · rintro k' σ42 rk' f42 (hz | ⟨hz1, hz2⟩)
          · exact ⟨⟨by omega, by omega⟩, m, by omega, hz⟩
          · exact ⟨⟨by omega, by omega⟩, 0, by omega, Or.inr ⟨hz1, hz2, by omega, by omega⟩⟩
  · rintro σ15 fr h15
    have f15 : sg_F [6, 16, 29, 30, 31, 32, 33, 34, 39, 40, 41, 42, 43, 44, 7028, 10038, 11038, 13038, 14038] σ σ15 := sg_F_t (sg_F_m f8' rfl) (sg_F_m fr rfl)
    refine c_add (fun σ31 f31 _ => ?_)
    have F31 : sg_F [6, 16, 29, 30, 31, 32, 33, 34, 39, 40, 41, 42, 43, 44, 7028, 10038, 11038, 13038, 14038] σ σ31 := sg_F_t f15 (sg_F_m f31 rfl)
    rcases h15 with ⟨x1, ⟨B', x2⟩, c', x3, x4⟩ | ⟨x1, x2⟩
    · refine k2' σ31 B' ?_ ?_ ⟨c', ?_, x4⟩ F31
      · rw [x2, show sg_g σ31 6 = sg_g σ15 6 from funext fun _ => sg_F_ga f31 rfl]
      · exact cZ_F x1 f31 rfl
      · rw [sg_F_g f31 (by rfl)]; exact x3
    · refine k1' σ31 x2 ?_ F31
      unfold cF at x1 ⊢
      rw [sg_F_g f31 (by rfl), sg_F_g f31 (by rfl)]; exact x1
end WLK
/-! definition, check of the class: kDf, kPg. -/
theorem kFind_no {w : Int} : ∀ {e : kE}, kFind e w = none ↔ ∀ p ∈ e, ¬ p.1 = w
  | [] => ⟨fun _ p hp => by simp at hp, fun _ => rfl⟩
  | x :: r => by
    unfold kFind
    by_cases c : x.1 = w
    · rw [if_pos c]
      exact ⟨fun h => (by cases h), fun h => absurd c (h x (by simp))⟩
    · rw [if_neg c, kFind_no]
      refine ⟨fun h p hp => ?_, fun h p hp => h p (by simp [hp])⟩
      rcases List.mem_cons.mp hp with q | q
      · rw [q]; exact c
      · exact h p q
section DFN
variable {σ : sg_S} {A : aT} {ds : kD} {c : Nat} {Q : sg_S → Prop}
theorem c_definition {D : List aDf} {d : Nat} {x : aDf} {L : List Int} (h : ckW σ A) (hD : cD2 σ D) (hx : D[d]? = some x) (hW : dW A x) (hV : wD x) (hL1 : fT A [x.2.2.2] L) (hL2 : L.Nodup) (hL3 : ∀ x ∈ L, 0 ≤ x ∧ x < A.1) (hLl : L.length ≤ 200) (hd : dsC σ (d : Int) ds) (hF : cZ σ) (hdi : kDi ds (sg_g σ 6)) (hr : ∀ d ∈ ds, 0 ≤ d.2.2 ∧ d.2.2 < A.1) (hc : sg_g σ 38 10 = c) (hc2 : c + x.2.2.1.length + L.length ≤ 272) (k1 : ∀ σ', kDf A ds x (sg_g σ 6) = none → cF σ' → Q σ') (k2 : ∀ σ', kDf A ds x (sg_g σ 6) = some (sg_g σ' 6, (x.1, x.2.2.1.map (·.2.2), x.2.2.2) :: ds) → cZ σ' → (∃ c' : Nat, sg_g σ' 38 10 = c' ∧ c' ≤ c + x.2.2.1.length + L.length) → Q σ') : V_kDefinition σ d Q := by
  have hd12 : d < 12 := by
    have := hD.2.1
    rcases Nat.lt_or_ge d D.length with q | q
    · omega
    · rw [List.getElem?_eq_none q] at hx; cases hx
  have d12 : (0 : Int) ≤ (d : Int) ∧ (d : Int) < 12 := by omega
  have hdl := dsC_n hd
  obtain ⟨y1, y2, y3, y4, y5, y6⟩ := hD.2.2 d x hx
  obtain ⟨w1, w2, w3⟩ := hW
  obtain ⟨⟨v1, v2⟩, v3⟩ := hV
  have hkd : kDf A ds x (sg_g σ 6) = (if kDef ds x.1 = none ∧ (x.2.2.1.map (·.1)).Nodup ∧ (∀ p ∈ x.2.2.1, p.2.2 ≤ 3) then (match kGo A ds 201 (kPe x) x.2.2.2 (sg_g σ 6) with
    | none => none
    | some T1 => some (T1, (x.1, x.2.2.1.map (·.2.2), x.2.2.2) :: ds)) else none) := rfl
  have hpw : ∀ (j : Nat) (y : Int × Int × Int), x.2.2.1[j]? = some y → (x.2.2.1.map (·.1))[j]? = some y.1 := fun j y hy => by rw [List.getElem?_map, hy]; rfl
  generalize hps : x.2.2.1 = ps at *
  have hwl : (ps.map (·.1)).length = ps.length := List.length_map _
  generalize hws : ps.map (·.1) = ws at *
  obtain ⟨ok, hbad, hkt, hkf⟩ : ∃ ok : Prop, (ok ↔ (kDef ds x.1 = none ∧ ws.Nodup ∧ (∀ p ∈ ps, p.2.2 ≤ 3))) ∧ (ok → kDf A ds x (sg_g σ 6) = (match kGo A ds 201 (kPe x) x.2.2.2 (sg_g σ 6) with
    | none => none
    | some T1 => some (T1, (x.1, ps.map (·.2.2), x.2.2.2) :: ds))) ∧ (¬ ok → kDf A ds x (sg_g σ 6) = none) := ⟨_, Iff.rfl, fun z => by rw [hkd, if_pos z], fun z => by rw [hkd, if_neg z]⟩
  unfold V_kDefinition
  intro σ1 e1 σ4 e4
  have f4 : sg_F [10038, 12038] σ σ4 := by rw [e4, e1]; exact sg_F_w (sg_F_w (sg_F_r _ _) rfl _) rfl _
  have z4 : cZ σ4 := cZ_F hF f4 rfl
  have k4 : sg_g σ4 38 9 = 0 := by rw [e4, sg_gw_k _ _ _ _ _ _ (by decide), e1, sg_gw_e _ _ _ _ (by decide)]
  have d4 : sg_g σ4 38 11 = d := by rw [e4, sg_gw_e _ _ _ _ ⟨by omega, by omega⟩]
  rw [xl_in (a := 20) d12, y1, xa_in (a := 21) d12, y2, xa_in (a := 23) d12, y4, xa_in (a := 22) d12, y3]
  have main : ∀ σ16, sg_F [13038, 14038] σ4 σ16 → ((cZ σ16 ∧ kDef ds x.1 = none) ∨ (cF σ16 ∧ ¬ kDef ds x.1 = none)) → ∀ σ19, σ19 = sx_put σ16 24 12 d (sg_g σ 38 10) → (∃ (I25 : Nat → Int → sg_S → Prop) (X27 : sg_S → Prop), (∃ n, I25 n 0 σ19) ∧ (∀ (n35 : Nat) (v22 : Int) (σ23 : sg_S), sg_R v22 → sg_F [34, 39, 40, 10038, 11038, 13038, 14038] σ19 σ23 → I25 n35 v22 σ23 → (((ps.length : Int) ≤ v22 → X27 σ23) ∧ (v22 < (ps.length : Int) → ((6 ≤ v22 → X27 σ23) ∧ (v22 < 6 → sg_R ((d : Int) * 6) ∧ sg_R (((d : Int) * 6) + v22) ∧ V_kFind σ23 ((sx_atl σ 25 72 ((((d : Int) * 6) + v22)))) (fun q48 _ => sg_R q48 → (∃ P56 : sg_S → Prop, ((q48 < 0 → P56 σ23) ∧ (0 ≤ q48 → V_kBlame σ23 (2) ((sx_at σ 26 72 ((((d : Int) * 6) + v22)))) (fun σ81 => sg_F [13038, 14038] σ23 σ81 → P56 σ81))) ∧ (∀ (σ57 : sg_S), sg_F [13038, 14038] σ23 σ57 → P56 σ57 → (∃ P62 : sg_S → Prop, (((sx_at σ 27 72 ((((d : Int) * 6) + v22))) ≤ 3 → P62 σ57) ∧ (3 < (sx_at σ 27 72 ((((d : Int) * 6) + v22))) → V_kBlame σ57 (3) ((sx_at σ 26 72 ((((d : Int) * 6) + v22)))) (fun σ75 => sg_F [13038, 14038] σ57 σ75 → P62 σ75))) ∧ (∀ (σ63 : sg_S), sg_F [13038, 14038] σ57 σ63 → P62 σ63 → V_kBind σ63 ((sx_atl σ 25 72 ((((d : Int) * 6) + v22)))) ((sx_at σ 27 72 ((((d : Int) * 6) + v22)))) (fun q66 σ67 => sg_R q66 → sg_F [34, 39, 40, 10038, 11038] σ63 σ67 → sg_R (v22 + 1) ∧ (∃ m, m < n35 ∧ I25 m ((v22 + 1)) σ67)))))))))))) ∧ (∀ (σ23 : sg_S), sg_F [34, 39, 40, 10038, 11038, 13038, 14038] σ19 σ23 → X27 σ23 → ((¬ (sg_g σ23 38 13) = 0 → Q σ23) ∧ ((sg_g σ23 38 13) = 0 → V_kWalk σ23 (d : Int) x.2.2.2 (fun σ39 => sg_F [6, 16, 29, 30, 31, 32, 33, 34, 39, 40, 41, 42, 43, 44, 7028, 10038, 11038, 13038, 14038] σ23 σ39 → Q σ39))))) := by
    intro σ16 f16 h16 σ19 e19
    have f19 : sg_F [24] σ16 σ19 := by rw [e19]; exact xF_p (sg_F_r _ _) rfl _ _ _
    have F19 : sg_F [24, 10038, 12038, 13038, 14038] σ σ19 := sg_F_t (sg_F_t (sg_F_m f4 rfl) (sg_F_m f16 rfl)) (sg_F_m f19 rfl)
    have k19 : sg_g σ19 38 9 = 0 := by rw [sg_F_g f19 (by rfl), sg_F_g f16 (by rfl)]; exact k4
    have c19 : sg_g σ19 38 10 = c := by rw [sg_F_g F19 (by rfl)]; exact hc
    refine ⟨fun m v σ23 => ∃ j : Nat, v = j ∧ m = ps.length - j ∧ j ≤ ps.length ∧ ((cZ σ23 ∧ kDef ds x.1 = none ∧ (ws.take j).Nodup ∧ ∀ (i : Nat) (p : Int × Int × Int), i < j → ps[i]? = some p → p.2.2 ≤ 3) ∨ (cF σ23 ∧ ¬ ok)) ∧ ckE σ23 (sg_g σ23 38 9) ((ps.take j).reverse.map (fun p => (p.1, p.2.2))) ∧ sg_g σ23 38 10 = (c + j : Nat), fun σ23 => ((cZ σ23 ∧ ok) ∨ (cF σ23 ∧ ¬ ok)) ∧ ckE σ23 (sg_g σ23 38 9) (kPe x) ∧ sg_g σ23 38 10 = (c + ps.length : Nat), ⟨_, 0, rfl, rfl, Nat.zero_le _, ?_, k19, c19⟩, ?_, ?_⟩
    · rcases h16 with ⟨a, b⟩ | ⟨a, b⟩
      · exact Or.inl ⟨cZ_F a f19 rfl, b, by simp, fun i p hi => by omega⟩
      · exact Or.inr ⟨cF_F a f19 rfl, fun z => b (hbad.mp z).1⟩
    · rintro m v σ23 rv fr ⟨j, rfl, em, hj, hi, hce, hsl⟩
      have fin : ps.length ≤ j → ((cZ σ23 ∧ ok) ∨ (cF σ23 ∧ ¬ ok)) ∧ ckE σ23 (sg_g σ23 38 9) (kPe x) ∧ sg_g σ23 38 10 = (c + ps.length : Nat) := fun hpj => by
        have : j = ps.length := by omega
        subst this
        rw [List.take_of_length_le (Nat.le_refl _)] at hce
        rw [List.take_of_length_le (by omega)] at hi
        refine ⟨?_, by unfold kPe; rw [hps]; exact hce, hsl⟩
        rcases hi with ⟨a, b1, b2, b3⟩ | a
        · refine Or.inl ⟨a, hbad.mpr ⟨b1, b2, fun p hp => ?_⟩⟩
          obtain ⟨i, hi⟩ := List.getElem?_of_mem hp
          have hi2 : i < ps.length := by
            rcases Nat.lt_or_ge i ps.length with q | q
            · exact q
            · rw [List.getElem?_eq_none q] at hi; cases hi
          exact b3 i p hi2 hi
        · exact Or.inr a
      refine ⟨fun c1 => fin (by omega), fun c1 => ⟨fun c2 => fin (by omega), fun c2 => ⟨⟨by omega, by omega⟩, ⟨by omega, by omega⟩, ?_⟩⟩⟩
      obtain ⟨y, hy⟩ : ∃ y, ps[j]? = some y := ⟨_, List.getElem?_eq_getElem (by omega)⟩
      obtain ⟨u1, u2, u3⟩ := y6 j y hy
      have vy := v3 y (List.mem_of_getElem? hy)
      have wy := w2 y (List.mem_of_getElem? hy)
      have hwi := hpw j y hy
      have ev := ckE_n hce
      have evl : ((ps.take j).reverse.map (fun p => (p.1, p.2.2))).length = j := by rw [List.length_map, List.length_reverse, List.length_take]; omega
      have i72 : (0 : Int) ≤ (d : Int) * 6 + j ∧ (d : Int) * 6 + j < 72 := by omega
      have ei : (d : Int) * 6 + (j : Int) = 6 * (d : Int) + j := by omega
      rw [xl_in (a := 25) i72, xa_in (a := 26) i72, xa_in (a := 27) i72, ei, u1, u2, u3]
      have fnd : kFind ((ps.take j).reverse.map (fun p => (p.1, p.2.2))) y.1 = none ↔ ∀ i : Nat, i < j → ¬ ws[i]? = some y.1 := by
        rw [kFind_no]
        constructor
        · intro hh i hi he
          rw [← hws, List.getElem?_map] at he
          cases hp : ps[i]? with
          | none => rw [hp] at he; cases he
          | some p =>
            rw [hp] at he
            refine hh (p.1, p.2.2) (List.mem_map.mpr ⟨p, List.mem_reverse.mpr ?_, rfl⟩) (Option.some.inj he)
            rw [List.mem_take_iff_getElem]
            have hil : i < ps.length := by omega
            refine ⟨i, by omega, ?_⟩
            rw [List.getElem?_eq_getElem hil] at hp
            exact Option.some.inj hp
        · intro hh p hp he
          obtain ⟨p', hp', rfl⟩ := List.mem_map.mp hp
          have hp2 := List.mem_reverse.mp hp'
          rw [List.mem_take_iff_getElem] at hp2
          obtain ⟨i, hi, e⟩ := hp2
          refine hh i (by omega) ?_
          rw [← hws, List.getElem?_map, List.getElem?_eq_getElem (by omega), e]
          exact congrArg some he
      have key : ∀ q48, ((q48 < 0 ∧ kFind ((ps.take j).reverse.map (fun p => (p.1, p.2.2))) y.1 = none) ∨ (0 ≤ q48 ∧ ¬ kFind ((ps.take j).reverse.map (fun p => (p.1, p.2.2))) y.1 = none)) → sg_R q48 → (∃ P56 : sg_S → Prop, ((q48 < 0 → P56 σ23) ∧ (0 ≤ q48 → V_kBlame σ23 (2) y.2.1 (fun σ81 => sg_F [13038, 14038] σ23 σ81 → P56 σ81))) ∧ (∀ (σ57 : sg_S), sg_F [13038, 14038] σ23 σ57 → P56 σ57 → (∃ P62 : sg_S → Prop, ((y.2.2 ≤ 3 → P62 σ57) ∧ (3 < y.2.2 → V_kBlame σ57 (3) y.2.1 (fun σ75 => sg_F [13038, 14038] σ57 σ75 → P62 σ75))) ∧ (∀ (σ63 : sg_S), sg_F [13038, 14038] σ57 σ63 → P62 σ63 → V_kBind σ63 (uv y.1) y.2.2 (fun q66 σ67 => sg_R q66 → sg_F [34, 39, 40, 10038, 11038] σ63 σ67 → sg_R ((j : Int) + 1) ∧ (∃ m', m' < m ∧ ∃ i : Nat, (j : Int) + 1 = i ∧ m' = ps.length - i ∧ i ≤ ps.length ∧ ((cZ σ67 ∧ kDef ds x.1 = none ∧ (ws.take i).Nodup ∧ ∀ (i2 : Nat) (p : Int × Int × Int), i2 < i → ps[i2]? = some p → p.2.2 ≤ 3) ∨ (cF σ67 ∧ ¬ ok)) ∧ ckE σ67 (sg_g σ67 38 9) ((ps.take i).reverse.map (fun p => (p.1, p.2.2))) ∧ sg_g σ67 38 10 = (c + i : Nat))))))) := by
        intro q48 hq _
        have pr : 0 ≤ y.2.1 ∧ sg_R y.2.1 := ⟨vy.2, by rw [← u2]; exact sg_Rg _ _ _⟩
        refine ⟨fun σ57 => (cZ σ57 ∧ kDef ds x.1 = none ∧ (ws.take (j + 1)).Nodup ∧ ∀ (i : Nat) (p : Int × Int × Int), i < j → ps[i]? = some p → p.2.2 ≤ 3) ∨ (cF σ57 ∧ ¬ ok), ⟨fun q0 => ?_, fun q0 => c_blame (fun z => ?_) (by decide) pr (fun σ' t1 t2 _ => Or.inr ⟨t1, fun z => ?_⟩)⟩, ?_⟩
        · rcases hi with ⟨a, b1, b2, b3⟩ | a
          · refine Or.inl ⟨a, b1, (nd_take hwi).mpr ⟨b2, ?_⟩, b3⟩
            rcases hq with ⟨-, z⟩ | ⟨z, -⟩
            · exact fnd.mp z
            · omega
          · exact Or.inr a
        · rcases hi with ⟨a, -⟩ | a
          · exact absurd a.1 z
          · exact a.1.2
        · rcases hq with ⟨z2, -⟩ | ⟨-, z2⟩
          · omega
          · refine z2 (fnd.mpr (fun i hi2 he => ?_))
            exact ((nd_take hwi).mp (List.Nodup.sublist (List.take_sublist _ _) (hbad.mp z).2.1)).2 i hi2 he
        · intro σ57 f57 h57
          refine ⟨fun σ63 => (cZ σ63 ∧ kDef ds x.1 = none ∧ (ws.take (j + 1)).Nodup ∧ ∀ (i : Nat) (p : Int × Int × Int), i < j + 1 → ps[i]? = some p → p.2.2 ≤ 3) ∨ (cF σ63 ∧ ¬ ok), ⟨fun t3 => ?_, fun t3 => c_blame (fun z => ?_) (by decide) pr (fun σ' t1 t2 _ => Or.inr ⟨t1, fun z => ?_⟩)⟩, ?_⟩
          · rcases h57 with ⟨a, b1, b2, b3⟩ | a
            · refine Or.inl ⟨a, b1, b2, fun i p hi2 hp => ?_⟩
              by_cases e5 : i = j
              · subst e5; rw [hy] at hp; cases hp; exact t3
              · exact b3 i p (by omega) hp
            · exact Or.inr a
          · rcases h57 with ⟨a, -⟩ | a
            · exact absurd a.1 z
            · exact a.1.2
          · have := (hbad.mp z).2.2 y (List.mem_of_getElem? hy)
            omega
          · intro σ63 f63 h63
            have f63' := sg_F_t f57 f63
            have ce63 : ckE σ63 (sg_g σ63 38 9) ((ps.take j).reverse.map (fun p => (p.1, p.2.2))) := by
              rw [sg_F_g f63' (by rfl)]; exact ckE_F hce f63' rfl
            refine c_bind (c := c + j) ce63 (by rw [sg_F_g f63' (by rfl)]; exact hsl) (by omega) (by rw [evl]; omega) vy.1 (by rw [← u1]; exact sg_Rgl _ _ _) (by rw [← u3]; exact sg_Rg _ _ _) (fun σ67 t1 t2 t3 t4 _ _ => ⟨⟨by omega, by omega⟩, ps.length - (j + 1), by omega, j + 1, by omega, rfl, by omega, ?_, ?_, t2⟩)
            · rcases h63 with ⟨a, b⟩ | ⟨a, b⟩
              · exact Or.inl ⟨cZ_F a t4 rfl, b⟩
              · exact Or.inr ⟨cF_F a t4 rfl, b⟩
            · rw [List.take_add_one, hy, List.reverse_append]
              exact t1
      refine c_find hce (by rw [evl]; omega) (by rw [hsl]; omega) vy.1 (fun z => key _ (Or.inl ⟨by decide, z⟩)) (fun s z z1 z2 => key _ (Or.inr ⟨z1, by rw [z]; exact fun q => by cases q⟩))
    · rintro σ23 fr ⟨h23, ce23, c23⟩
      have F23 : sg_F [24, 34, 39, 40, 10038, 11038, 12038, 13038, 14038] σ σ23 := sg_F_t (sg_F_m F19 rfl) (sg_F_m fr rfl)
      have T23 : sg_g σ23 6 = sg_g σ 6 := funext fun _ => sg_F_ga F23 rfl
      refine ⟨fun z => ?_, fun z => ?_⟩
      · rcases h23 with ⟨a, -⟩ | ⟨a, b⟩
        · exact absurd a.1 z
        · exact k1 σ23 (hkf b) a
      · rcases h23 with ⟨a, b⟩ | ⟨a, -⟩
        rotate_left
        · exact absurd z a.1
        have pin : ∀ q ∈ kPe x, kIn q.2 := fun q hq => by
          unfold kPe at hq
          obtain ⟨p, hp, rfl⟩ := List.mem_map.mp hq
          rw [hps] at hp
          have hp2 := List.mem_reverse.mp hp
          exact ⟨w2 p hp2, (hbad.mp b).2.2 p hp2⟩
        have pel : (kPe x).length = ps.length := by unfold kPe; rw [List.length_map, List.length_reverse, hps]
        have k11 : sg_g σ23 38 11 = d := by rw [sg_F_g fr (by rfl), sg_F_g f19 (by rfl), sg_F_g f16 (by rfl)]; exact d4
        refine c_walk (c := c + ps.length) (ckW_F h F23 rfl) hL1 hL2 hL3 hLl a ce23 (by omega) pin (by rw [T23]; exact hdi) c23 (by omega) (by rw [k11]; exact dsC_F F23 rfl hd) (by omega) hr (fun σ' t1 t2 t3 _ => k1 σ' ?_ t2) (fun σ' t1 t2 t3 t4 _ => k2 σ' ?_ t2 t3)
        · rw [hkt b]; rw [T23] at t1; rw [t1]
        · rw [hkt b]; rw [T23] at t1; rw [t1]
  refine c_dfind (dsC_F f4 rfl hd) (by omega) v1 (fun q _ => ?_) (fun q y hq q0 q12 qd _ => ?_)
  · refine ⟨fun σ16 => (cZ σ16 ∧ kDef ds x.1 = none) ∨ (cF σ16 ∧ ¬ kDef ds x.1 = none), ⟨fun _ => Or.inl ⟨z4, q⟩, fun z => absurd z (by decide)⟩, fun σ16 f16 h16 σ19 e19 => main σ16 f16 h16 σ19 e19⟩
  · refine ⟨fun σ16 => (cZ σ16 ∧ kDef ds x.1 = none) ∨ (cF σ16 ∧ ¬ kDef ds x.1 = none), ⟨fun z => absurd z (by omega), fun _ => c_blame (fun z => absurd z4.1 z) (by decide) ⟨v2, by rw [← y2]; exact sg_Rg _ _ _⟩ (fun σ' t1 t2 _ => Or.inr ⟨t1, by rw [hq]; exact fun z => by cases z⟩)⟩, fun σ16 f16 h16 σ19 e19 => main σ16 f16 h16 σ19 e19⟩
end DFN
/-! check of the class: kPg. -/
theorem cD2_F {L : List Nat} {σ σ' : sg_S} {D : List aDf} (h : cD2 σ D) (f : sg_F L σ σ') (hL : (!sg_cv L 19 8 && sg_ca L 20 && sg_ca L 21 && sg_ca L 22 && sg_ca L 23 && sg_ca L 25 && sg_ca L 26 && sg_ca L 27) = true) : cD2 σ' D := by
  simp only [Bool.and_eq_true, Bool.not_eq_true'] at hL
  obtain ⟨⟨⟨⟨⟨⟨⟨l0, l1⟩, l2⟩, l3⟩, l4⟩, l5⟩, l6⟩, l7⟩ := hL
  refine ⟨by rw [sg_F_g f l0]; exact h.1, h.2.1, fun d x hx => ?_⟩
  obtain ⟨a1, a2, a3, a4, a5, a6⟩ := h.2.2 d x hx
  refine ⟨by rw [sg_F_gal f l1]; exact a1, by rw [sg_F_ga f l2]; exact a2, by rw [sg_F_ga f l3]; exact a3, by rw [sg_F_ga f l4]; exact a4, a5, fun j y hy => ?_⟩
  rw [sg_F_gal f l5, sg_F_ga f l6, sg_F_ga f l7]; exact a6 j y hy
theorem kDf_s {A : aT} {ds ds1 : kD} {x : aDf} {T T1 : Int → Int} (h : kDf A ds x T = some (T1, ds1)) : kDef ds x.1 = none ∧ (∀ p ∈ x.2.2.1, p.2.2 ≤ 3) ∧ kGo A ds 201 (x.2.2.1.reverse.map (fun p => (p.1, p.2.2))) x.2.2.2 T = some T1 := by
  unfold kDf at h
  split at h
  · rename_i hc
    split at h
    · cases h
    · rename_i T2 hg
      cases h
      exact ⟨hc.1, hc.2.2, hg⟩
  · cases h
section CHK
variable {σ : sg_S} {A : aT} {D : List aDf} {q : Int} {Q : Int → sg_S → Prop}
theorem c_check (h : ckW σ A) (hD : cD2 σ D) (hW : ∀ x ∈ D, dW A x) (hV : ∀ x ∈ D, wD x) (hfr : frA A (aRt D ++ [q])) (k1 : ∀ p σ', kPg A D q (sg_g σ 6) = none → 0 ≤ p → cF σ' → Q p σ') (k2 : ∀ σ', kPg A D q (sg_g σ 6) = some (sg_g σ' 6) → cZ σ' → Q (-1) σ') : V_kCheck σ q Q := by
  obtain ⟨y1, y2, y3⟩ := id hD
  have hA := h.1.2
  have hkp : ∀ x, kDs A D [] (sg_g σ 6) = x → kPg A D q (sg_g σ 6) = (match x with
    | none => none
    | some (T1, ds) => kGo A ds 201 [] q T1) := fun x hx => by subst hx; rfl
  obtain ⟨LA, hf1, hf2, hf3, -⟩ := hfr
  have hLA : LA.length ≤ 200 := ndl 200 LA hf2 (fun x hx => by have := hf3 x hx; omega)
  have hrl : (aRt D).length = D.length := by unfold aRt; rw [List.length_map]
  unfold V_kCheck
  intro σ1 e1 σ4 e4 σ7 e7 σ10 e10
  have f10 : sg_F [7028, 11038, 13038, 14038] σ σ10 := by
    rw [e10, e7, e4, e1]; exact sg_F_w (sg_F_w (sg_F_w (sg_F_w (sg_F_r _ _) rfl _) rfl _) rfl _) rfl _
  have z10 : cZ σ10 := ⟨by rw [e10, sg_gw_k _ _ _ _ _ _ (by decide), e7, sg_gw_e _ _ _ _ (by decide)], by rw [e10, sg_gw_e _ _ _ _ (by decide)]⟩
  have c10 : sg_g σ10 38 10 = (0 : Nat) := by rw [e10, sg_gw_k _ _ _ _ _ _ (by decide), e7, sg_gw_k _ _ _ _ _ _ (by decide), e4, sg_gw_e _ _ _ _ (by decide)]; rfl
  have T10 : sg_g σ10 6 = sg_g σ 6 := funext fun _ => sg_F_ga f10 rfl
  generalize hz : kDs A D [] (sg_g σ 6) = z at *
  rw [y1]
  refine ⟨fun m v σ14 => ∃ d : Nat, v = d ∧ m = D.length - d ∧ d ≤ D.length ∧ ((cZ σ14 ∧ ∃ (ds : kD) (c : Nat) (L : List Int), dsC σ14 (d : Int) ds ∧ kDs A (D.drop d) ds (sg_g σ14 6) = z ∧ kDi ds (sg_g σ14 6) ∧ (∀ d ∈ ds, 0 ≤ d.2.2 ∧ d.2.2 < A.1) ∧ sg_g σ14 38 10 = c ∧ fT A ((aRt D ++ [q]).drop d) L ∧ L.Nodup ∧ (∀ x ∈ L, 0 ≤ x ∧ x < A.1) ∧ c + 6 * (D.length - d) + L.length ≤ 272) ∨ (cF σ14 ∧ z = none)), fun σ14 => ((cZ σ14 ∧ ∃ (ds : kD) (c : Nat) (L : List Int), dsC σ14 (D.length : Int) ds ∧ some (sg_g σ14 6, ds) = z ∧ kDi ds (sg_g σ14 6) ∧ (∀ d ∈ ds, 0 ≤ d.2.2 ∧ d.2.2 < A.1) ∧ sg_g σ14 38 10 = c ∧ fT A [q] L ∧ L.Nodup ∧ (∀ x ∈ L, 0 ≤ x ∧ x < A.1) ∧ c + L.length ≤ 272) ∨ (cF σ14 ∧ z = none)), ⟨_, 0, rfl, rfl, Nat.zero_le _, Or.inl ⟨z10, [], 0, LA, rfl, ?_, fun d hd => (by simp at hd), fun d hd => (by simp at hd), c10, hf1, hf2, hf3, by omega⟩⟩, ?_, ?_⟩
  · rw [T10]; exact hz
  · rintro m v σ14 rv fr ⟨d, rfl, em, hd, hi⟩
    have fin : D.length ≤ d → ((cZ σ14 ∧ ∃ (ds : kD) (c : Nat) (L : List Int), dsC σ14 (D.length : Int) ds ∧ some (sg_g σ14 6, ds) = z ∧ kDi ds (sg_g σ14 6) ∧ (∀ d ∈ ds, 0 ≤ d.2.2 ∧ d.2.2 < A.1) ∧ sg_g σ14 38 10 = c ∧ fT A [q] L ∧ L.Nodup ∧ (∀ x ∈ L, 0 ≤ x ∧ x < A.1) ∧ c + L.length ≤ 272) ∨ (cF σ14 ∧ z = none)) := fun hdd => by
      have : d = D.length := by omega
      subst this
      rcases hi with ⟨a, ds, c, L, b1, b2, b3, b4, b5, b6, b7, b8, b9⟩ | a
      · rw [List.drop_length] at b2
        rw [← hrl, List.drop_left] at b6
        exact Or.inl ⟨a, ds, c, L, b1, b2, b3, b4, b5, b6, b7, b8, by omega⟩
      · exact Or.inr a
    refine ⟨fun c1 => fin (by omega), fun c1 => ⟨fun c2 => fin (by omega), fun c2 => ⟨fun c3 => ?_, fun c3 => ?_⟩⟩⟩
    · rcases hi with ⟨a, -⟩ | a
      · exact absurd a.1 c3
      · exact Or.inr a
    · rcases hi with ⟨a, ds, c, L, b1, b2, b3, b4, b5, b6, b7, b8, b9⟩ | ⟨a, -⟩
      rotate_left
      · exact absurd c3 a.1
      have hd2 : d < D.length := by omega
      have hx : D[d]? = some D[d] := List.getElem?_eq_getElem hd2
      have hwx := hW D[d] (List.getElem_mem hd2)
      have hvx := hV D[d] (List.getElem_mem hd2)
      have f14 : sg_F [6, 16, 24, 29, 30, 31, 32, 33, 34, 39, 40, 41, 42, 43, 44, 7028, 10038, 11038, 12038, 13038, 14038] σ σ14 := sg_F_t (sg_F_m f10 rfl) fr
      have D14 : cD2 σ14 D := cD2_F hD f14 rfl
      rw [List.drop_eq_getElem_cons hd2] at b2
      have hdr : (aRt D ++ [q]).drop d = [D[d].2.2.2] ++ (aRt D ++ [q]).drop (d + 1) := by
        have hl : d < (aRt D ++ [q]).length := by rw [List.length_append, hrl]; simp only [List.length_cons, List.length_nil]; omega
        rw [List.drop_eq_getElem_cons hl, List.getElem_append_left (by rw [hrl]; exact hd2)]
        simp only [aRt, List.getElem_map, List.singleton_append]
      rw [hdr] at b6
      obtain ⟨La, Lb, eL, fa, fb⟩ := fT_spl _ _ _ b6
      rw [eL] at b7 b8 b9
      rw [List.length_append] at b9
      have hp6 := hwx.2.2
      have nda := (List.nodup_append.mp b7).1
      have ndb := (List.nodup_append.mp b7).2.1
      have hLa : La.length ≤ 200 := ndl 200 La nda (fun x hx => by have := b8 x (List.mem_append_left _ hx); omega)
      refine c_definition (c := c) (ckW_F h f14 rfl) D14 hx hwx hvx fa nda (fun x hx => b8 x (List.mem_append_left _ hx)) hLa b1 a b3 b4 b5 (by omega) (fun σ' t1 t2 fr' => ⟨⟨by omega, by omega⟩, D.length - (d + 1), by omega, d + 1, by omega, rfl, by omega, Or.inr ⟨t2, ?_⟩⟩) (fun σ' t1 t2 t3 fr' => ?_)
      · rw [← b2]; unfold kDs; rw [t1]
      · obtain ⟨c', t4, t5⟩ := t3
        obtain ⟨s1, s2, s3⟩ := kDf_s t1
        obtain ⟨r1, r2⟩ := kGo_rg A ds 201 _ _ _ _ b3 (fun p hp => by
          obtain ⟨p', hp', rfl⟩ := List.mem_map.mp hp
          have hp2 := List.mem_reverse.mp hp'
          exact ⟨hwx.2.1 p' hp2, s2 p' hp2⟩) s3
        refine ⟨⟨by omega, by omega⟩, D.length - (d + 1), by omega, d + 1, by omega, rfl, by omega, Or.inl ⟨t2, (D[d].1, D[d].2.2.1.map (·.2.2), D[d].2.2.2) :: ds, c', Lb, ?_, ?_, ?_, ?_, t4, fb, ndb, fun x hx => b8 x (List.mem_append_right _ hx), by omega⟩⟩
        · obtain ⟨a1, a2, a3, a4, a5, a6⟩ := D14.2.2 d D[d] hx
          have e0 : ((d + 1 : Nat) : Int) - 1 = d := by omega
          refine ⟨by omega, ?_, hvx.1.1, ⟨?_, ?_, ?_, ?_⟩, s1, ?_⟩
          · rw [e0, sg_F_gal fr' rfl]; exact a1
          · rw [e0, sg_F_ga fr' rfl, a4]; simp only [List.length_map]
          · intro j y hy
            rw [List.getElem?_map] at hy
            cases hj : D[d].2.2.1[j]? with
            | none => rw [hj] at hy; cases hy
            | some p =>
              rw [hj] at hy
              rw [e0, sg_F_ga fr' rfl, (a6 j p hj).2.2]
              exact Option.some.inj hy
          · rw [e0, sg_F_ga fr' rfl]; exact a3
          · simp only [List.length_map]; exact a5
          · rw [e0]; exact dsC_F fr' rfl b1
        · rw [← b2]
          simp only [kDs]
          rw [t1]
        · intro y hy
          rcases List.mem_cons.mp hy with e2 | e2
          · subst e2; exact r1
          · exact r2 _ (b3 y e2)
        · intro y hy
          rcases List.mem_cons.mp hy with e2 | e2
          · subst e2; exact cT_r hwx.1
          · exact b4 y e2
  · intro σ14 fr h14
    have f14 : sg_F [6, 16, 24, 29, 30, 31, 32, 33, 34, 39, 40, 41, 42, 43, 44, 7028, 10038, 11038, 12038, 13038, 14038] σ σ14 := sg_F_t (sg_F_m f10 rfl) fr
    refine ⟨fun c3 => ?_, fun c3 σ29 e29 σ32 e32 => ?_⟩
    · rcases h14 with ⟨a, -⟩ | ⟨a, b⟩
      · exact absurd a.1 c3
      · refine k1 _ σ14 ?_ a.2 a
        rw [hkp z rfl, b]
    · rcases h14 with ⟨a, ds, c, L, b1, b2, b3, b4, b5, b6, b7, b8, b9⟩ | ⟨a, -⟩
      rotate_left
      · exact absurd c3 a.1
      have f32 : sg_F [10038, 12038] σ14 σ32 := by rw [e32, e29]; exact sg_F_w (sg_F_w (sg_F_r _ _) rfl _) rfl _
      have F32 : sg_F [6, 16, 24, 29, 30, 31, 32, 33, 34, 39, 40, 41, 42, 43, 44, 7028, 10038, 11038, 12038, 13038, 14038] σ σ32 := sg_F_t f14 (sg_F_m f32 rfl)
      have T32 : sg_g σ32 6 = sg_g σ14 6 := funext fun _ => sg_F_ga f32 rfl
      have hdl := dsC_n b1
      have hkz : kPg A D q (sg_g σ 6) = kGo A ds 201 [] q (sg_g σ32 6) := by rw [hkp z rfl, ← b2, T32]
      have kn : sg_g σ32 38 9 = 0 := by rw [e32, sg_gw_k _ _ _ _ _ _ (by decide), e29, sg_gw_e _ _ _ _ (by decide)]
      have cl : sg_g σ32 38 11 = (D.length : Int) := by rw [e32, sg_gw_e _ _ _ _ ⟨by omega, by omega⟩]
      have hLl : L.length ≤ 200 := ndl 200 L b7 (fun x hx => by have := b8 x hx; omega)
      refine c_walk (e := []) (c := c) (ckW_F h F32 rfl) b6 b7 b8 hLl (cZ_F a f32 rfl) kn (by simp) (fun p hp => by simp at hp) (by rw [T32]; exact b3) (by rw [sg_F_g f32 (by rfl)]; exact b5) b9 (by rw [cl]; exact dsC_F f32 rfl b1) (by omega) b4 (fun σ' t1 t2 t3 _ => k1 _ σ' (hkz.trans t1) t2.2 t2) (fun σ' t1 t2 t3 t4 _ => ?_)
      rw [t2.2]
      exact k2 σ' (hkz.trans t1) t2
end CHK
/-! read of the class accepts just what is read and looked through without a fault. -/
def accP (t : aK) (N : Nat) : Prop := ∃ A D k, aPg t N aE0 = some (A, D, k) ∧ ¬ kPg A D k (fun _ => 0) = none
theorem wA_0 : wA aE0 := fun _ => ⟨fun h => absurd h (by simp only [aE0]; omega), fun g hg => absurd hg (by simp [aE0]), Int.le_refl _⟩
theorem te_W {σ τ : sg_S} {A : aT} {R : List Int} (h : te σ τ) (hc : cS τ A 0 R) (hw : wA A) : ckW σ A := by
  have g : ∀ a, tec a = true → sg_g σ a = sg_g τ a := fun a ha => funext fun k => ag_g h ha k
  have gl : ∀ a, tec a = true → sg_gl σ a = sg_gl τ a := fun a ha => funext fun k => ag_gl h ha k
  refine ⟨⟨hc.2.1.2.1, hc.2.1.2.2⟩, hw, fun k a b => ?_⟩
  obtain ⟨⟨c1, c2, c3, ⟨c4, c5, c6, c7, c8⟩, c9⟩, d⟩ := hc.2.2.1 k a b
  refine ⟨⟨by rw [g 3 rfl]; exact c1, by rw [g 4 rfl]; exact c2, fun z => by rw [gl 17 rfl]; exact c3 z, ⟨by rw [g 10 rfl]; exact c4, by rw [g 9 rfl, g 7 rfl]; exact c5, fun z hz => by rw [g 8 rfl]; exact c6 z hz, c7, c8⟩, fun z => ?_⟩, fun x hx => (d x hx).1⟩
  obtain ⟨e1, e2, e3⟩ := c9 z
  exact ⟨by rw [g 13 rfl]; exact e1, by rw [g 14 rfl]; exact e2, fun j x y h1 h2 => by rw [gl 18 rfl, g 15 rfl]; exact e3 j x y h1 h2⟩
theorem te_D {σ τ : sg_S} {D : List aDf} (h : te σ τ) (hc : cD2 τ D) : cD2 σ D := by
  have g : ∀ a, tec a = true → sg_g σ a = sg_g τ a := fun a ha => funext fun k => ag_g h ha k
  have gl : ∀ a, tec a = true → sg_gl σ a = sg_gl τ a := fun a ha => funext fun k => ag_gl h ha k
  refine ⟨by rw [g 19 rfl]; exact hc.1, hc.2.1, fun d x hx => ?_⟩
  obtain ⟨a1, a2, a3, a4, a5, a6⟩ := hc.2.2 d x hx
  refine ⟨by rw [gl 20 rfl]; exact a1, by rw [g 21 rfl]; exact a2, by rw [g 22 rfl]; exact a3, by rw [g 23 rfl]; exact a4, a5, fun j y hy => ?_⟩
  rw [gl 25 rfl, g 26 rfl, g 27 rfl]; exact a6 j y hy
theorem kPg_bad {A : aT} {D : List aDf} {k : Int} {T : Int → Int} (h : badD D) : kPg A D k T = none := by
  obtain ⟨x, hx, y, hy, h12⟩ := h
  unfold kPg
  rw [kDs_bad D [] T ⟨x, hx, y, hy, by omega⟩]
theorem c_read {σ : sg_S} {c : tkC} {t : aK} {N : Nat} {Q : Int → sg_S → Prop} (hB : tkB c t N) (hV : wT t) (hb : tb σ = c.1) (hg : sg_gl σ 37 = c.2.2.1) (hn : sg_g σ 0 8 = c.2.1) (h7 : (sg_gl σ 36 7, sg_g σ 36 6) = c.2.2.2) (k1 : ∀ q σ', ¬ accP t N → sg_g σ' 0 10 = 0 → sg_g σ' 0 8 = sg_g σ 0 8 → Q q σ') (k2 : ∀ q σ' A D k, aPg t N aE0 = some (A, D, k) → ¬ kPg A D k (fun _ => 0) = none → accP t N → sg_g σ' 0 10 = 1 → sg_g σ' 0 8 = 0 → Q q σ') : V_cRead σ Q := by
  unfold V_cRead
  intro σ1 e1
  unfold V_cForget45
  intro σ5 e5 f5
  unfold V_cForget61
  intro σ11 e11 f11
  have F11 : sg_F [11000, 12045, 12061] σ σ11 := by rw [e11, e5, e1]; exact sg_F_w (sg_F_w (sg_F_w (sg_F_r _ _) rfl _) rfl _) rfl _
  have p11 : sg_g σ11 0 10 = 0 := by rw [e11, sg_gw_c _ _ _ _ _ _ (by decide), e5, sg_gw_c _ _ _ _ _ _ (by decide), e1, sg_gw_e _ _ _ _ (by decide)]
  have s11 : sg_g σ11 0 8 = sg_g σ 0 8 := sg_F_g F11 rfl
  unfold V_cParse
  intro z
  refine wk_post (prs_ok z σ11 (sg_g σ 0 8) hB (by rw [← hb]; exact tb_eq (fun q => sg_F_ga F11 rfl)) (by rw [← hg]; exact funext (fun q => sg_F_gal F11 rfl)) hn (by rw [← h7]; exact Prod.ext (sg_F_gal F11 rfl) (sg_F_ga F11 rfl))) ?_
  rintro v σ17 ⟨q, rfl, hF, hq⟩
  refine ⟨q, rfl, ?_, sg_F_m hF rfl, ?_⟩
  · rcases hq with ⟨-, -, -, -, -, -, h1, -⟩ | ⟨-, -, h1⟩
    · rw [h1]; decide
    · exact h1
  intro rq f17 v24 e24 r24 σ27 e27
  have s27 : ∀ σ33, sg_F [6, 16, 24, 29, 30, 31, 32, 33, 34, 39, 40, 41, 42, 43, 44, 7028, 10000, 10038, 11038, 12038, 13038, 14038] σ27 σ33 → sg_g σ33 0 10 = 0 ∧ sg_g σ33 0 8 = sg_g σ 0 8 := fun σ33 f33 => by
    constructor
    · rw [sg_F_g f33 (by rfl), e27, sg_gw_k _ _ _ _ _ _ (by decide), sg_F_g f17 (by rfl)]; exact p11
    · rw [sg_F_g f33 (by rfl), e27, sg_gw_k _ _ _ _ _ _ (by decide), sg_F_g f17 (by rfl)]; exact s11
  rcases hq with ⟨τ', A, D, k, Rs, x1, x2, x3, x4, x5, x6, x7⟩ | ⟨x1, x2, x3⟩
  · have hc := w_pg hV x1 wA_0
    have hp := t_pg x1 ⟨Int.le_refl _, by decide⟩
    have hp2 := t_pg2 x1 ⟨Int.le_refl _, by decide⟩ rfl
    have f27 : sg_F [10000] σ17 σ27 := by rw [e27]; exact sg_F_w (sg_F_r _ _) rfl _
    refine ⟨fun v σ33 => (v < 0 ∧ ¬ kPg A D k (fun _ => 0) = none) ∨ (0 ≤ v ∧ kPg A D k (fun _ => 0) = none), ⟨fun h => absurd h (by omega), fun _ => ?_⟩, ?_⟩
    · rw [x4]
      refine c_check (ckW_F (te_W x3 x5 hc.1) f27 rfl) (cD2_F (te_D x3 x6) f27 rfl) hp.1 hc.2 hp2 (fun p σ' y1 y2 y3 rp f' σ51 e51 => Or.inr ⟨y2, ?_⟩) (fun σ' y1 y2 rp f' σ51 e51 => Or.inl ⟨by decide, ?_⟩)
      · exact (kPg_ag A D k _ _).mp y1
      · intro h
        have := (kPg_ag A D k _ (sg_g σ27 6)).mp h
        rw [this] at y1; cases y1
    · intro v35 σ33 r35 f33 h33
      obtain ⟨u1, u2⟩ := s27 σ33 f33
      refine ⟨fun h => ?_, fun h => ?_⟩
      · intro σ39 e39 σ42 e42
        rcases h33 with ⟨-, y⟩ | ⟨y, -⟩
        · refine k2 _ σ42 A D k x1 y ⟨A, D, k, x1, y⟩ ?_ ?_
          · rw [e42, sg_gw_k _ _ _ _ _ _ (by decide), e39, sg_gw_e _ _ _ _ (by decide)]
          · rw [e42, sg_gw_e _ _ _ _ (by decide)]
        · omega
      · rcases h33 with ⟨y, -⟩ | ⟨-, y⟩
        · omega
        · refine k1 _ σ33 ?_ u1 u2
          rintro ⟨A', D', k', z1, z2⟩
          rw [x1] at z1
          cases z1
          exact z2 y
  · refine ⟨fun v σ33 => 0 ≤ v, ⟨fun _ => x2, fun h => absurd h (by omega)⟩, ?_⟩
    intro v35 σ33 r35 f33 h33
    obtain ⟨u1, u2⟩ := s27 σ33 f33
    refine ⟨fun h => absurd h (by omega), fun _ => k1 _ σ33 ?_ u1 u2⟩
    rintro ⟨A', D', k', z1, z2⟩
    rcases x1 with y | ⟨A, D, k, y1, y2⟩
    · rw [y] at z1; cases z1
    · rw [y1] at z1
      cases z1
      exact z2 (kPg_bad y2)
/-! Runs of one method from one state end alike; read of the reference. -/
theorem wk_det {E : am_E} {T : List am_M} {Sh : List sg_Sh} {d j pc : Nat} {ls : bm_L} {st : List bm_V} {σ : sg_S} {Q1 Q2 : Option bm_V → sg_S → Prop} (h1 : wk E T Sh d j pc ls st σ Q1) (h2 : wk E T Sh d j pc ls st σ Q2) : ∃ v1 σ1 v2 σ2, Q1 v1 σ1 ∧ Q2 v2 σ2 ∧ sg_H Sh σ1 = sg_H Sh σ2 := by
  obtain ⟨v1, σ1, ⟨n1, r1⟩, q1⟩ := h1
  obtain ⟨v2, σ2, ⟨n2, r2⟩, q2⟩ := h2
  have a := am_ex_same (n' := max n1 n2) (d' := d) (Nat.le_max_left ..) (Nat.le_refl _) r1
  have b := am_ex_same (n' := max n1 n2) (d' := d) (Nat.le_max_right ..) (Nat.le_refl _) r2
  rw [a] at b
  have e := Option.some.inj b
  exact ⟨v1, σ1, v2, σ2, q1, q2, (Prod.mk.inj e).2⟩
theorem sgH_p {σ1 σ2 : sg_S} (h : sg_H am_Sh0 σ1 = sg_H am_Sh0 σ2) : sg_g σ1 0 10 = sg_g σ2 0 10 := by
  have e : ∀ σ : sg_S, (sg_H am_Sh0 σ)[0]? = some (sg_cell σ 0 (.inr (10, [.ref 1, .ref 2, .ref 19, .ref 28, .ref 35, .ref 38, .ref 45, .ref 61, .int 0, .int 0, .int 0, .int 0, .int 0]))) := fun σ => sg_at rfl
  have q := (e σ1).symm.trans ((congrArg (fun (H : am_H) => H[0]?) h).trans (e σ2))
  have q2 := Option.some.inj q
  simp only [sg_cell] at q2
  have q3 := Sum.inr.inj (Sum.inr.inj q2)
  have q4 := (Prod.mk.inj q3).2
  have q5 := congrArg (fun l : List Value => l[10]?) q4
  have f : ∀ σ : sg_S, (List.mapIdx (fun k v => sg_fd σ 0 k v) [Value.ref 1, .ref 2, .ref 19, .ref 28, .ref 35, .ref 38, .ref 45, .ref 61, .int 0, .int 0, .int 0, .int 0, .int 0])[10]? = some (.int (σ.1 0 10)) := fun σ => by
    rw [List.getElem?_mapIdx]; rfl
  have q6 := (f σ1).symm.trans (q5.trans (f σ2))
  have q7 := Value.int.inj (Option.some.inj q6)
  unfold sg_g
  rw [q7]
theorem accP_eq {σ : sg_S} {c : tkC} {t1 t2 : aK} {N1 N2 : Nat} (hB1 : tkB c t1 N1) (hV1 : wT t1) (hB2 : tkB c t2 N2) (hV2 : wT t2) (hb : tb σ = c.1) (hg : sg_gl σ 37 = c.2.2.1) (hn : sg_g σ 0 8 = c.2.1) (h7 : (sg_gl σ 36 7, sg_g σ 36 6) = c.2.2.2) : accP t1 N1 ↔ accP t2 N2 := by
  have r1 := w_cRead (.int 0) σ (fun _ σ' => (sg_g σ' 0 10 = 1 ∧ accP t1 N1) ∨ (sg_g σ' 0 10 = 0 ∧ ¬ accP t1 N1)) (c_read hB1 hV1 hb hg hn h7 (fun q σ' a b c => Or.inr ⟨b, a⟩) (fun q σ' A D k a b c d e => Or.inl ⟨d, c⟩))
  have r2 := w_cRead (.int 0) σ (fun _ σ' => (sg_g σ' 0 10 = 1 ∧ accP t2 N2) ∨ (sg_g σ' 0 10 = 0 ∧ ¬ accP t2 N2)) (c_read hB2 hV2 hb hg hn h7 (fun q σ' a b c => Or.inr ⟨b, a⟩) (fun q σ' A D k a b c d e => Or.inl ⟨d, c⟩))
  obtain ⟨v1, σ1, v2, σ2, ⟨_, _, _, _, q1⟩, ⟨_, _, _, _, q2⟩, e⟩ := wk_det r1 r2
  have e2 := sgH_p e
  rcases q1 with ⟨a1, a2⟩ | ⟨a1, a2⟩
  · rcases q2 with ⟨b1, b2⟩ | ⟨b1, b2⟩
    · exact ⟨fun _ => b2, fun _ => a2⟩
    · rw [e2, b1] at a1; cases a1
  · rcases q2 with ⟨b1, b2⟩ | ⟨b1, b2⟩
    · rw [e2, b1] at a1; cases a1
    · exact ⟨fun x => absurd x a2, fun x => absurd x b2⟩
/-- the tokens, and nothing behind them -/
def tkU (t : aK) (N : Nat) : aK := (fun i => if i ≤ N then t.1 i else 0, fun i => if i ≤ N then t.2.1 i else 0, fun i => if i ≤ N then t.2.2 i else 0)
theorem tkU_R {t : aK} {N : Nat} {s p w : Int → Int} (h : tkR t N s p w) : tkR (tkU t N) N s p w := by
  obtain ⟨h1, h2, h3, h4, h5⟩ := h
  refine ⟨h1, fun i hi => ?_, fun i hi => ?_, ?_, fun i hi => ?_⟩
  · simp only [tkU, if_pos hi]; exact h2 i hi
  · simp only [tkU, if_pos (Nat.le_of_lt hi)]; exact h3 i hi
  · simp only [tkU, if_pos (Nat.le_refl N)]; exact h4
  · simp only [tkU, if_pos hi]; exact h5 i hi
theorem tkU_B {c : tkC} {t : aK} {N : Nat} {s p w : Int → Int} (hc : tkOK c) (hr : rsv c.2.2.1) (h : tkR t N s p w) (hT : tkT c t N) : tkB c (tkU t N) N ∧ wT (tkU t N) := by
  have hR := tkU_R h
  have hT2 : tkT c (tkU t N) N := by
    refine ⟨fun i hi => ?_, fun i hi => ?_⟩
    · simp only [tkU, if_pos hi]; exact hT.1 i hi
    · simp only [tkU, if_pos (Nat.le_of_lt hi)]; exact hT.2 i hi
  refine ⟨⟨hc, hr, hT2, hR.2.2.1, hR.2.2.2.1, fun i hi => by simp only [tkU, if_neg (show ¬ i ≤ N by omega)]⟩, fun i hi => ?_, fun i => ?_⟩
  · by_cases hN : i ≤ N
    · have hlt : i < N := by
        rcases Nat.lt_or_ge i N with q | q
        · exact q
        · have : i = N := by omega
          subst this
          rcases hR.2.2.2.1 with z | z <;> (rw [hi] at z; cases z)
      have e1 := (hT2.1 i hN).1
      rw [hi] at e1
      have hk : tK c i = 258 ∨ 261 ≤ tK c i := by
        unfold rS at e1
        repeat' split at e1
        all_goals first | assumption | (exfalso; revert e1; decide)
      obtain ⟨n, n8, na, nw, -⟩ := tok_w hc hT2 hlt hk
      have b := lx_cd_b n na
      rw [nw]
      refine ⟨b.1, Int.lt_of_lt_of_le b.2 ?_⟩
      have n9 : n = 0 ∨ n = 1 ∨ n = 2 ∨ n = 3 ∨ n = 4 ∨ n = 5 ∨ n = 6 ∨ n = 7 ∨ n = 8 := by omega
      rcases n9 with z | z | z | z | z | z | z | z | z <;> (rw [z]; decide)
    · simp only [tkU, if_neg hN] at hi
      cases hi
  · by_cases hN : i ≤ N
    · exact (hR.2.2.2.2 i hN).1
    · simp only [tkU, if_neg hN]; exact Int.le_refl _
theorem tk_ex {c : tkC} {σ : sg_S} (hb : bY c σ) (hr : rsv c.2.2.1) : ∃ t N, tkB c t N ∧ wT t := by
  have h := w_cutTokens (.int 0) σ (fun _ => ∃ t N, tkB c t N ∧ wT t) (s_cut hb (fun t N σ' h1 h2 => ⟨tkU t N, N, tkU_B hb.1 hr h1 h2⟩))
  obtain ⟨v, σ', -, -, -, q⟩ := h
  exact q
/-! read of the reference accepts just what is read and looked through without a fault. -/
theorem q_read {σ : sg_S} {c : tkC} {Q : Int → sg_S → Prop} (hb : bY c σ) (hr : rsv c.2.2.1) (k1 : ∀ t N q σ', tkB c t N → wT t → ¬ accP t N → sg_g σ' 88 28 = 0 → sg_g σ' 88 2 = sg_g σ 88 2 → Q q σ') (k2 : ∀ t N A D r q σ', tkB c t N → wT t → accP t N → aPg t N aE0 = some (A, D, r) → trT σ' A → dfR σ' D → sg_g σ' 88 27 = r → (∃ T B, kPg A D r T = some (sg_g σ' 101) ∧ sg_g σ' 102 = kPB A D r B) → sg_g σ' 88 28 = 1 → sg_g σ' 88 2 = 0 → Q q σ') : V_readW σ Q := by
  unfold V_readW
  intro σ1 e1 σ4 e4 σ7 e7 σ10 e10 σ13 e13 σ16 e16 σ19 e19 σ22 e22
  have F22 : sg_F [1088, 8088, 9088, 20088, 29088, 30088, 52088, 82088] σ σ22 := by
    rw [e22, e19, e16, e13, e10, e7, e4, e1]
    exact sg_F_w (sg_F_w (sg_F_w (sg_F_w (sg_F_w (sg_F_w (sg_F_w (sg_F_w (sg_F_r _ _) rfl _) rfl _) rfl _) rfl _) rfl _) rfl _) rfl _) rfl _
  have b22 : bY c σ22 := ⟨hb.1, by rw [sg_F_g F22 (by rfl)]; exact hb.2.1, fun p a b => by rw [sg_F_ga F22 rfl]; exact hb.2.2 p a b⟩
  have g28 : sg_g σ22 88 28 = 0 := by
    rw [e22, sg_gw_k _ _ _ _ _ _ (by decide), e19, sg_gw_k _ _ _ _ _ _ (by decide), e16, sg_gw_k _ _ _ _ _ _ (by decide), e13, sg_gw_k _ _ _ _ _ _ (by decide), e10, sg_gw_k _ _ _ _ _ _ (by decide), e7, sg_gw_k _ _ _ _ _ _ (by decide), e4, sg_gw_e _ _ _ _ (by decide)]
  have g29 : sg_g σ22 88 29 = 0 := by
    rw [e22, sg_gw_k _ _ _ _ _ _ (by decide), e19, sg_gw_k _ _ _ _ _ _ (by decide), e16, sg_gw_k _ _ _ _ _ _ (by decide), e13, sg_gw_e _ _ _ _ (by decide)]
  have g8 : sg_g σ22 88 8 = 0 := by
    rw [e22, sg_gw_k _ _ _ _ _ _ (by decide), e19, sg_gw_k _ _ _ _ _ _ (by decide), e16, sg_gw_e _ _ _ _ (by decide)]
  have g19 : sg_g σ22 88 19 = 0 := by
    rw [e22, sg_gw_k _ _ _ _ _ _ (by decide), e19, sg_gw_e _ _ _ _ (by decide)]
  have g7 : sg_g σ22 88 7 = 0 := by rw [e22, sg_gw_e _ _ _ _ (by decide)]
  refine s_cut b22 (fun t0 N σ26 hR0 hT0 f26 => ?_)
  obtain ⟨hB, hV⟩ := tkU_B hb.1 hr hR0 hT0
  have hR := tkU_R hR0
  obtain ⟨t, ht⟩ : ∃ t, t = tkU t0 N := ⟨_, rfl⟩
  rw [← ht] at hB hV hR
  have hN0 := hB.2.2.2.2.1
  have R0 : Rq t N σ26 0 0 aE0 := by
    refine ⟨hR, by rw [sg_F_g f26 (by rfl)]; exact g29, by rw [sg_F_g f26 (by rfl)]; exact g7, Nat.zero_le _, ⟨by rw [sg_F_g f26 (by rfl)]; exact g8, Int.le_refl _, by decide, fun k a b => ?_⟩, fun k a b => ?_, sg_Rg _ _ _⟩
    · exact absurd b (by simp only [aE0]; omega)
    · exact absurd b (by simp only [aE0]; omega)
  have D0 : dfR σ26 [] := ⟨by rw [sg_F_g f26 (by rfl)]; exact g19, by decide, fun d x hx => by cases hx⟩
  have dn : p_told 6579558 := Or.inl rfl
  have dv : v_told 6579558 = 6606 := by decide
  generalize hz : aDfs t N 12 [] 0 aE0 = z
  refine ⟨fun k σ31 => (∃ i A D m, k = m + 1 ∧ D.length + m = 12 ∧ Rq t N σ31 0 i A ∧ dfR σ31 D ∧ aDfs t N m D i A = z) ∨ (¬ sg_g σ31 88 29 = 0 ∧ z = none), fun σ31 => (∃ i A D, Rq t N σ31 0 i A ∧ dfR σ31 D ∧ z = some (i, A, D)) ∨ (¬ sg_g σ31 88 29 = 0 ∧ z = none), ⟨13, Or.inl ⟨0, aE0, [], 12, rfl, rfl, R0, D0, hz⟩⟩, ?_, ?_⟩
  · rintro k σ31 fr hI
    refine ⟨fun d => ?_, fun d => ?_⟩
    · rcases hI with ⟨i, A, D, m, -, -, h1, -⟩ | h
      · exact absurd h1.2.1 d
      · exact Or.inr h
    · rcases hI with ⟨i, A, D, m, em, hm, h1, h2, h3⟩ | ⟨h, -⟩
      rotate_left
      · exact absurd d h
      have vw := vq_wo h1 6579558 6606 dv
      refine ⟨pq_wo h1 dn, fun y => ?_, fun y => ?_⟩
      · have wo : ¬ aWo t i 6606 = true := fun w => by rw [vw, if_pos w] at y; cases y
        left
        refine ⟨i, A, D, h1, h2, ?_⟩
        rw [← h3]
        cases m with
        | zero => unfold aDfs; rw [if_neg wo]
        | succ m => unfold aDfs; rw [if_neg wo]
      · have wo : aWo t i 6606 = true := by
          refine Decidable.byContradiction (fun w => y ?_)
          rw [vw, if_neg w]
        have hi : i < N := by
          have h4 := h1.2.2.2.1
          rcases Nat.lt_or_ge i N with q | q
          · exact q
          · have : i = N := by omega
            subst this
            have w2 := wo_2 wo
            rcases hN0 with w | w <;> (rw [w2] at w; cases w)
        refine s_def h1 h2 hi (fun i' A' x l12 hd hx σ' r' d' _ => ?_) (fun hno σ' f' _ _ => ⟨0, by omega, Or.inr ⟨f', ?_⟩⟩)
        · obtain ⟨m', rfl⟩ : ∃ m', m = m' + 1 := ⟨m - 1, by omega⟩
          refine ⟨m' + 1, by omega, Or.inl ⟨i', A', D ++ [x], m', rfl, by rw [List.length_append]; simp only [List.length_cons, List.length_nil]; omega, r', d', ?_⟩⟩
          rw [← h3]
          conv => rhs; unfold aDfs
          rw [if_pos wo, hd]
        · rw [← h3]
          cases m with
          | zero => unfold aDfs; rw [if_pos wo]
          | succ m =>
            unfold aDfs
            rw [if_pos wo]
            rcases hno with w | w
            · omega
            · rw [w]
  · intro σ31 fr31 h31
    have hpg : ∀ y, z = y → aPg t N aE0 = (match y with
      | none => none
      | some (i, A1, D) => match (aLv t 12).1 i A1 with
        | none => none
        | some (i2, A2, q) => if t.1 i2 = 0 then some (A2, D, q) else none) := fun y hy => by
      subst hy
      unfold aPg
      rw [hz]
      cases z with
      | none => rfl
      | some v =>
        obtain ⟨i, A1, D⟩ := v
        simp only
        cases (aLv t 12).1 i A1 with
        | none => rfl
        | some w => rfl
    refine ⟨fun σ47 => (∃ i A D q, Rq t N σ47 0 i A ∧ dfR σ47 D ∧ sg_g σ47 88 27 = q ∧ aPg t N aE0 = (if t.1 i = 0 then some (A, D, q) else none)) ∨ (¬ sg_g σ47 88 29 = 0 ∧ aPg t N aE0 = none), ⟨fun d => ?_, fun d => ?_⟩, ?_⟩
    · rcases h31 with ⟨i, A, D, h1, -⟩ | ⟨h, h2⟩
      · exact absurd h1.2.1 d
      · exact Or.inr ⟨h, hpg _ h2⟩
    · rcases h31 with ⟨i, A, D, h1, h2, h3⟩ | ⟨h, -⟩
      rotate_left
      · exact absurd d h
      refine s_whole (i := i) (A := A) h1 (fun i' A' q hq σ85 r85 hqr rq f85 σ90 e90 => ?_) (fun hq σ85 f85 _ rq f85' σ90 e90 => ?_)
      · left
        have f90 : sg_F [28088] σ85 σ90 := by rw [e90]; exact sg_F_w (sg_F_r _ _) rfl _
        have D85 : dfR σ85 D := by
          refine ⟨by rw [sg_F_g f85 (by rfl)]; exact h2.1, h2.2.1, fun j x hj => ?_⟩
          obtain ⟨a1, a2, a3, a4, a5, a6⟩ := h2.2.2 j x hj
          refine ⟨by rw [sg_F_gal f85 rfl]; exact a1, by rw [sg_F_ga f85 rfl]; exact a2, by rw [sg_F_ga f85 rfl]; exact a3, by rw [sg_F_ga f85 rfl]; exact a4, a5, fun i y hy => ?_⟩
          rw [sg_F_gal f85 rfl, sg_F_ga f85 rfl, sg_F_ga f85 rfl]; exact a6 i y hy
        have D90 : dfR σ90 D := by
          refine ⟨by rw [sg_F_g f90 (by rfl)]; exact D85.1, D85.2.1, fun j x hj => ?_⟩
          obtain ⟨a1, a2, a3, a4, a5, a6⟩ := D85.2.2 j x hj
          refine ⟨by rw [sg_F_gal f90 rfl]; exact a1, by rw [sg_F_ga f90 rfl]; exact a2, by rw [sg_F_ga f90 rfl]; exact a3, by rw [sg_F_ga f90 rfl]; exact a4, a5, fun i y hy => ?_⟩
          rw [sg_F_gal f90 rfl, sg_F_ga f90 rfl, sg_F_ga f90 rfl]; exact a6 i y hy
        refine ⟨i', A', D, q, ?_, D90, by rw [e90, sg_gw_e _ _ _ _ rq], ?_⟩
        · obtain ⟨r1, r2, r3, r4, r5, r6, r7⟩ := r85
          refine ⟨?_, by rw [sg_F_g f90 (by rfl)]; exact r2, by rw [sg_F_g f90 (by rfl)]; exact r3, r4, ?_, r6, sg_Rg _ _ _⟩
          · rw [show sg_g σ90 90 = sg_g σ85 90 from funext fun _ => sg_F_ga f90 rfl, show sg_g σ90 91 = sg_g σ85 91 from funext fun _ => sg_F_ga f90 rfl, show sg_gl σ90 92 = sg_gl σ85 92 from funext fun _ => sg_F_gal f90 rfl]
            exact r1
          · have tt : trT σ85 A' ∨ True := Or.inr trivial
            rw [sg_F_g f90 (by rfl), show sg_g σ90 93 = sg_g σ85 93 from funext fun _ => sg_F_ga f90 rfl, show sg_g σ90 94 = sg_g σ85 94 from funext fun _ => sg_F_ga f90 rfl, show sg_gl σ90 95 = sg_gl σ85 95 from funext fun _ => sg_F_gal f90 rfl, show sg_g σ90 96 = sg_g σ85 96 from funext fun _ => sg_F_ga f90 rfl, show sg_g σ90 97 = sg_g σ85 97 from funext fun _ => sg_F_ga f90 rfl, show sg_g σ90 98 = sg_g σ85 98 from funext fun _ => sg_F_ga f90 rfl, show sg_gl σ90 99 = sg_gl σ85 99 from funext fun _ => sg_F_gal f90 rfl, show sg_g σ90 100 = sg_g σ85 100 from funext fun _ => sg_F_ga f90 rfl]
            exact r5
        · rw [hpg _ h3]
          simp only
          rw [hq]
      · right
        refine ⟨by rw [e90, sg_gw_k _ _ _ _ _ _ (by decide)]; exact f85, ?_⟩
        rw [hpg _ h3]
        simp only
        rw [hq]
    · intro σ47 f47 h47
      refine ⟨fun σ53 => (sg_g σ53 88 29 = 0 ∧ ∃ i A D q, Rq t N σ53 0 i A ∧ dfR σ53 D ∧ sg_g σ53 88 27 = q ∧ aPg t N aE0 = some (A, D, q)) ∨ (¬ sg_g σ53 88 29 = 0 ∧ aPg t N aE0 = none), ⟨fun d => ?_, fun d => ?_⟩, ?_⟩
      · rcases h47 with ⟨i, A, D, q, h1, -⟩ | h
        · exact absurd h1.2.1 d
        · exact Or.inr h
      · rcases h47 with ⟨i, A, D, q, h1, h2, h3, h4⟩ | ⟨h, -⟩
        rotate_left
        · exact absurd d h
        obtain ⟨q1, q2, q3, q4, q5, q6, q7⟩ := Rq_t h1
        have e90 : sg_g σ26 90 (sg_g σ47 88 7) = t.1 i := by
          rw [h1.2.2.1]; exact (hR.2.1 i h1.2.2.2.1).1
        rw [e90]
        refine ⟨⟨q4, q5⟩, fun y => Or.inl ⟨d, i, A, D, q, h1, h2, h3, by rw [h4, if_pos y]⟩, fun y => q_wrong (by decide) (fun σ' w1 w2 _ => Or.inr ⟨w1, by rw [h4, if_neg y]⟩)⟩
      · intro σ53 f53 h53
        have base : ∀ σ59, sg_F [101, 102, 113, 114, 115, 116, 117, 118, 30088, 31088, 38088, 43088, 46088] σ53 σ59 → sg_g σ59 88 28 = 0 ∧ sg_g σ59 88 2 = sg_g σ 88 2 := fun σ59 f59 => by
          constructor
          · rw [sg_F_g f59 (by rfl), sg_F_g f53 (by rfl), sg_F_g f47 (by rfl), sg_F_g fr31 (by rfl), sg_F_g f26 (by rfl)]; exact g28
          · rw [sg_F_g f59 (by rfl), sg_F_g f53 (by rfl), sg_F_g f47 (by rfl), sg_F_g fr31 (by rfl), sg_F_g f26 (by rfl), sg_F_g F22 (by rfl)]
        refine ⟨fun σ59 => (sg_g σ59 88 29 = 0 ∧ ∃ A D q, trT σ59 A ∧ dfR σ59 D ∧ sg_g σ59 88 27 = q ∧ aPg t N aE0 = some (A, D, q) ∧ (∃ T B, kPg A D q T = some (sg_g σ59 101) ∧ sg_g σ59 102 = kPB A D q B) ∧ accP t N) ∨ (¬ sg_g σ59 88 29 = 0 ∧ ¬ accP t N), ⟨fun d => ?_, fun d => ?_⟩, ?_⟩
        · rcases h53 with ⟨h, -⟩ | ⟨h, h2⟩
          · exact absurd h d
          · refine Or.inr ⟨h, ?_⟩
            rintro ⟨A', D', k', z1, z2⟩
            rw [h2] at z1; cases z1
        · rcases h53 with ⟨-, i, A, D, q, h1, h2, h3, h4⟩ | ⟨h, -⟩
          rotate_left
          · exact absurd d h
          have hp := t_pg h4 ⟨Int.le_refl _, by decide⟩
          have hp2 := t_pg2 h4 ⟨Int.le_refl _, by decide⟩ rfl
          have tr : trT σ53 A := ⟨h1.2.2.2.2.1, frA_k hp2⟩
          refine q_look tr (fun L a b => ndl 200 L a (fun x hx => by have := b x hx; have := hp.2.2.2; omega)) h2 hp.1 hp.2.2.1 h3 d (fun σ' y1 y2 f' => Or.inr ⟨y2, ?_⟩) (fun σ' y1 yB y2 f' => Or.inl ⟨y2, A, D, q, trT_F tr f' rfl, ?_, by rw [sg_F_g f' (by rfl)]; exact h3, h4, ⟨_, _, y1, yB⟩, A, D, q, h4, fun y => ?_⟩)
          · rintro ⟨A', D', k', z1, z2⟩
            rw [h4] at z1
            cases z1
            exact z2 ((kPg_ag A D q _ _).mp y1)
          · refine ⟨by rw [sg_F_g f' (by rfl)]; exact h2.1, h2.2.1, fun j x hj => ?_⟩
            obtain ⟨a1, a2, a3, a4, a5, a6⟩ := h2.2.2 j x hj
            refine ⟨by rw [sg_F_gal f' rfl]; exact a1, by rw [sg_F_ga f' rfl]; exact a2, by rw [sg_F_ga f' rfl]; exact a3, by rw [sg_F_ga f' rfl]; exact a4, a5, fun i y hy => ?_⟩
            rw [sg_F_gal f' rfl, sg_F_ga f' rfl, sg_F_ga f' rfl]; exact a6 i y hy
          · have := (kPg_ag A D q _ (sg_g σ53 101)).mp y
            rw [this] at y1; cases y1
        · intro σ59 f59 h59
          obtain ⟨u1, u2⟩ := base σ59 f59
          refine ⟨fun d σ63 e63 σ66 e66 => ?_, fun d => ?_⟩
          · rcases h59 with ⟨-, A, D, q, w1, w2, w3, w4, w5, w6⟩ | ⟨h, -⟩
            rotate_left
            · exact absurd d h
            have f66 : sg_F [29088, 3088] σ59 σ66 := by rw [e66, e63]; exact sg_F_w (sg_F_w (sg_F_r _ _) rfl _) rfl _
            refine k2 t N A D q _ σ66 hB hV w6 w4 (trT_F w1 f66 rfl) ?_ (by rw [sg_F_g f66 (by rfl)]; exact w3) ?_ ?_ ?_
            · refine ⟨by rw [sg_F_g f66 (by rfl)]; exact w2.1, w2.2.1, fun j x hj => ?_⟩
              obtain ⟨a1, a2, a3, a4, a5, a6⟩ := w2.2.2 j x hj
              refine ⟨by rw [sg_F_gal f66 rfl]; exact a1, by rw [sg_F_ga f66 rfl]; exact a2, by rw [sg_F_ga f66 rfl]; exact a3, by rw [sg_F_ga f66 rfl]; exact a4, a5, fun i y hy => ?_⟩
              rw [sg_F_gal f66 rfl, sg_F_ga f66 rfl, sg_F_ga f66 rfl]; exact a6 i y hy
            · rw [show sg_g σ66 101 = sg_g σ59 101 from funext fun _ => sg_F_ga f66 rfl, show sg_g σ66 102 = sg_g σ59 102 from funext fun _ => sg_F_ga f66 rfl]; exact w5
            · rw [e66, sg_gw_k _ _ _ _ _ _ (by decide), e63, sg_gw_e _ _ _ _ (by decide)]
            · rw [e66, sg_gw_e _ _ _ _ (by decide)]
          · rcases h59 with ⟨h, -⟩ | ⟨-, h⟩
            · exact absurd h d
            · exact k1 t N _ σ59 hB hV h u1 u2
/-! WHAT look leaves: each node has its type, each name its binder. -/
theorem kRow_fr {go : kE → Int → (Int → Int) → Option (Int → Int)} {A : aT} (hg : ∀ e n T T1 L, fT A [n] L → go e n T = some T1 → ∀ x, x ∉ L → T1 x = T x) (e : kE) : ∀ (R L : List Int) (T T1 : Int → Int), fT A R L → kRow go e R T = some T1 → ∀ x, x ∉ L → T1 x = T x
  | [], L, T, T1, hf, h, x, hx => by cases h; rfl
  | y :: R, L, T, T1, hf, h, x, hx => by
    obtain ⟨L1, L2, e1, w1, w2, w3⟩ := fT_inv hf
    subst e1
    unfold kRow at h
    split at h
    · cases h
    · rename_i T2 h2
      rw [kRow_fr hg e R L2 T2 T1 w3 h x (fun z => hx (by simp [z])), hg e y T T2 (y :: L1) (fT_one w1 w2) h2 x (fun z => hx (by rcases List.mem_cons.mp z with q | q <;> simp [q]))]
theorem kGo_fr (A : aT) (ds : kD) : ∀ f e n T T1 L, fT A [n] L → kGo A ds f e n T = some T1 → ∀ x, x ∉ L → T1 x = T x
  | 0, e, n, T, T1, L, hf, h, x, hx => by cases h
  | f + 1, e, n, T, T1, L, hf, h, x, hx => by
    obtain ⟨L1, L2, e1, w1, w2, w3⟩ := fT_inv hf
    have e2 := fT_nil w3
    subst e2
    rw [List.append_nil] at e1
    subst e1
    have hxn : ¬ x = n := fun z => hx (by simp [z])
    have hx1 : x ∉ L1 := fun z => hx (by simp [z])
    have hg := kGo_fr A ds f
    unfold kGo at h
    split at h
    · cases h
    · rename_i T2 h2
      split at h
      · cases h
      · rename_i ty hty
        cases h
        simp only [aU, hxn, if_false]
        unfold kParts at h2
        simp only at h2
        split at h2
        · cases hk : A.2.2.2.2.1 n with
          | nil => rw [hk] at h2; cases h2; rfl
          | cons a r =>
            rw [hk] at h2 w2
            simp only at h2
            split at h2
            · cases h2
            · rename_i T3 h3
              obtain ⟨La, Lb, e3, fa, fb⟩ := fT_spl [a] r L1 w2
              rw [e3] at hx1
              rw [kRow_fr hg _ r Lb T3 T2 fb h2 x (fun z => hx1 (by simp [z])), hg e a T T3 La fa h3 x (fun z => hx1 (by simp [z]))]
        · split at h2
          · cases hk : A.2.2.2.2.1 n with
            | nil => rw [hk] at h2; cases h2; rfl
            | cons a r =>
              rw [hk] at h2 w2
              simp only at h2
              split at h2
              · cases h2
              · rename_i T3 h3
                obtain ⟨Lb, Lt, e3, fb, ft⟩ := fT_spl [a] r L1 w2
                rw [← List.take_append_drop (A.2.2.2.2.2 n).length r] at ft
                obtain ⟨La, Ld, e4, fa, fd⟩ := fT_spl _ _ Lt ft
                rw [e3, e4] at hx1
                split at h2
                · rw [kRow_fr hg _ _ (Ld ++ Lb) T3 T2 (fT_app fd fb) h2 x (fun z => hx1 (by rcases List.mem_append.mp z with q | q <;> simp [q])), kRow_fr hg e _ La T T3 fa h3 x (fun z => hx1 (by simp [z]))]
                · cases h2
          · exact kRow_fr hg e _ L1 T T2 w2 h2 x hx1
theorem kBoR_fr {go : kE → Int → (Int → Int) → (Int → Int)} {A : aT} (hg : ∀ eb n B L, fT A [n] L → ∀ x, x ∉ L → go eb n B x = B x) (eb : kE) : ∀ (R L : List Int) (B : Int → Int), fT A R L → ∀ x, x ∉ L → kBoR go eb R B x = B x
  | [], L, B, hf, x, hx => rfl
  | y :: R, L, B, hf, x, hx => by
    obtain ⟨L1, L2, e1, w1, w2, w3⟩ := fT_inv hf
    subst e1
    unfold kBoR
    rw [kBoR_fr hg eb R L2 _ w3 x (fun z => hx (by simp [z])), hg eb y B (y :: L1) (fT_one w1 w2) x (fun z => hx (by rcases List.mem_cons.mp z with q | q <;> simp [q]))]
theorem kUp_fr {A : aT} {ds : kD} {eb : kE} {n x : Int} {B : Int → Int} (h : ¬ x = n) : kUp A ds eb n B x = B x := by
  unfold kUp
  by_cases c1 : A.2.1 n = 1
  · rw [if_pos c1]
    cases kFind eb (A.2.2.2.1 n) with
    | none => rfl
    | some b => simp only [aU, h, if_false]
  · rw [if_neg c1]
    by_cases c2 : A.2.1 n = 13
    · rw [if_pos c2]
      cases kDx ds (A.2.2.2.1 n) with
      | none => rfl
      | some b => simp only [aU, h, if_false]
    · rw [if_neg c2]
theorem kBo_fr (A : aT) (ds : kD) : ∀ f eb n B L, fT A [n] L → ∀ x, x ∉ L → kBo A ds f eb n B x = B x
  | 0, eb, n, B, L, hf, x, hx => rfl
  | f + 1, eb, n, B, L, hf, x, hx => by
    obtain ⟨L1, L2, e1, w1, w2, w3⟩ := fT_inv hf
    have e2 := fT_nil w3
    subst e2
    rw [List.append_nil] at e1
    subst e1
    have hxn : ¬ x = n := fun z => hx (by simp [z])
    have hx1 : x ∉ L1 := fun z => hx (by simp [z])
    have hg := kBo_fr A ds f
    unfold kBo
    rw [kUp_fr hxn]
    split
    · cases hk : A.2.2.2.2.1 n with
      | nil => rfl
      | cons a r =>
        rw [hk] at w2
        simp only
        obtain ⟨La, Lb, e3, fa, fb⟩ := fT_spl [a] r L1 w2
        rw [e3] at hx1
        rw [kBoR_fr hg _ r Lb _ fb x (fun z => hx1 (by simp [z])), hg eb a B La fa x (fun z => hx1 (by simp [z]))]
    · split
      · cases hk : A.2.2.2.2.1 n with
        | nil => rfl
        | cons a r =>
          rw [hk] at w2
          simp only
          obtain ⟨Lb, Lt, e3, fb, ft⟩ := fT_spl [a] r L1 w2
          rw [← List.take_append_drop (A.2.2.2.2.2 n).length r] at ft
          obtain ⟨La, Ld, e4, fa, fd⟩ := fT_spl _ _ Lt ft
          rw [e3, e4] at hx1
          rw [kBoR_fr hg _ _ (Ld ++ Lb) _ (fT_app fd fb) x (fun z => hx1 (by rcases List.mem_append.mp z with q | q <;> simp [q])), kBoR_fr hg eb _ La B fa x (fun z => hx1 (by simp [z]))]
      · exact kBoR_fr hg eb _ L1 B w2 x hx1
/-- binders in scope, with types -/
def scZ (e eb : kE) : List (Int × Int) := List.zipWith (fun a b => (b.2, a.2)) e eb
def gsc (n : Int) (T : Int → Int) : Nat → List Int → List (Int × Int)
  | _, [] => []
  | j, x :: xs => (210 + 4 * n + j, T x - 1) :: gsc n T (j + 1) xs
/-- node n and all below it have types T and binders B, under binders sc -/
def tyN (A : aT) (ds : kD) (T B : Int → Int) : Nat → List (Int × Int) → Int → Prop
  | 0, _, _ => False
  | f + 1, sc, n => nW A n ∧ (0 ≤ n ∧ n < A.1) ∧ kIn (T n) ∧ (A.2.1 n = 1 → (B n, T n) ∈ sc) ∧ (¬ A.2.1 n = 1 → kTy A ds T [] n ((A.2.2.2.2.1 n).map T) = some (T n)) ∧ (A.2.1 n = 13 → kDx ds (A.2.2.2.1 n) = some (B n)) ∧ (A.2.1 n = 2 → ∀ a b, A.2.2.2.2.1 n = [a, b] → tyN A ds T B f sc a ∧ tyN A ds T B f ((n, T a) :: sc) b) ∧ (A.2.1 n = 15 → ∀ bd tl, A.2.2.2.2.1 n = bd :: tl → (∀ x ∈ tl.take (A.2.2.2.2.2 n).length, tyN A ds T B f sc x ∧ 0 < T x) ∧ ∀ x ∈ tl.drop (A.2.2.2.2.2 n).length ++ [bd], tyN A ds T B f (gsc n T 0 (tl.take (A.2.2.2.2.2 n).length) ++ sc) x) ∧ (¬ A.2.1 n = 2 → ¬ A.2.1 n = 15 → ∀ x ∈ A.2.2.2.2.1 n, tyN A ds T B f sc x)
theorem tyN_m (A : aT) (ds : kD) (T B : Int → Int) : ∀ f sc sc' n, (∀ p ∈ sc, p ∈ sc') → tyN A ds T B f sc n → tyN A ds T B f sc' n
  | 0, sc, sc', n, hs, h => h
  | f + 1, sc, sc', n, hs, h => by
    obtain ⟨a1, a2, a3, a4, a5, a6, a7, a8, a9⟩ := h
    have ih := tyN_m A ds T B f
    refine ⟨a1, a2, a3, fun z => hs _ (a4 z), a5, a6, fun z a b hk => ⟨ih _ _ _ hs (a7 z a b hk).1, ih _ _ _ (fun p hp => ?_) (a7 z a b hk).2⟩, fun z bd tl hk => ⟨fun x hx => ⟨ih _ _ _ hs ((a8 z bd tl hk).1 x hx).1, ((a8 z bd tl hk).1 x hx).2⟩, fun x hx => ih _ _ _ (fun p hp => ?_) ((a8 z bd tl hk).2 x hx)⟩, fun z1 z2 x hx => ih _ _ _ hs (a9 z1 z2 x hx)⟩
    · rcases List.mem_cons.mp hp with q | q
      · simp [q]
      · exact List.mem_cons_of_mem _ (hs p q)
    · rcases List.mem_append.mp hp with q | q
      · exact List.mem_append_left _ q
      · exact List.mem_append_right _ (hs p q)
theorem kFind_z {w : Int} : ∀ {e eb : kE} {ty : Int}, e.map (·.1) = eb.map (·.1) → kFind e w = some ty → ∃ b, kFind eb w = some b ∧ (b, ty) ∈ scZ e eb
  | [], eb, ty, _, h => by cases h
  | x :: e, [], ty, hm, h => by simp at hm
  | x :: e, y :: eb, ty, hm, h => by
    simp only [List.map_cons, List.cons.injEq] at hm
    unfold kFind at h
    by_cases c : x.1 = w
    · rw [if_pos c] at h
      cases h
      refine ⟨y.2, ?_, by simp [scZ]⟩
      unfold kFind
      rw [if_pos (by rw [← hm.1]; exact c)]
    · rw [if_neg c] at h
      obtain ⟨b, b1, b2⟩ := kFind_z hm.2 h
      refine ⟨b, ?_, by simp only [scZ, List.zipWith_cons_cons]; exact List.mem_cons_of_mem _ b2⟩
      unfold kFind
      rw [if_neg (by rw [← hm.1]; exact c)]
      exact b1
theorem gsc_z {n : Int} {T : Int → Int} : ∀ (gs : List (Int × Int)) (xs : List Int) (j : Nat) (e eb : kE), gs.length = xs.length → e.map (·.1) = eb.map (·.1) → (kBind T gs xs e).map (·.1) = (kGb n j gs eb).map (·.1) ∧ ∀ p ∈ scZ (kBind T gs xs e) (kGb n j gs eb), p ∈ gsc n T j xs ++ scZ e eb
  | [], [], j, e, eb, _, hm => by simp only [kBind, kGb, gsc, List.nil_append]; exact ⟨hm, fun p hp => hp⟩
  | [], _ :: _, j, e, eb, h, _ => by simp at h
  | _ :: _, [], j, e, eb, h, _ => by simp at h
  | g :: gs, x :: xs, j, e, eb, h, hm => by
    simp only [kBind, kGb, gsc]
    obtain ⟨a, b⟩ := gsc_z gs xs (j + 1) ((g.1, T x - 1) :: e) ((g.1, 210 + 4 * n + j) :: eb) (by simpa using h) (by simp [hm])
    refine ⟨a, fun p hp => ?_⟩
    have := b p hp
    rcases List.mem_append.mp this with q | q
    · exact List.mem_append_left _ (List.mem_cons_of_mem _ q)
    · simp only [scZ, List.zipWith_cons_cons] at q
      rcases List.mem_cons.mp q with q | q
      · rw [q]; simp
      · exact List.mem_append_right _ q
theorem kTy_e {A : aT} {ds : kD} {T : Int → Int} {e e' : kE} {n : Int} {ts : List Int} (h : ¬ A.2.1 n = 1) : kTy A ds T e n ts = kTy A ds T e' n ts := by
  unfold kTy
  simp only [if_neg h]
/-- what is to be shown at fuel f -/
def tyL (A : aT) (ds : kD) (f : Nat) : Prop := ∀ (e eb : kE) (n : Int) (T T1 B : Int → Int) (L : List Int), fT A [n] L → L.Nodup → (∀ x ∈ L, 0 ≤ x ∧ x < A.1) → e.map (·.1) = eb.map (·.1) → (∀ p ∈ e, kIn p.2) → kDi ds T → (∀ d ∈ ds, d.2.2 ∉ L) → kGo A ds f e n T = some T1 → ∀ T2 B2, (∀ x ∈ L, T2 x = T1 x) → (∀ x ∈ L, B2 x = kBo A ds f eb n B x) → (∀ d ∈ ds, T2 d.2.2 = T1 d.2.2) → tyN A ds T2 B2 f (scZ e eb) n
theorem tyR {A : aT} {ds : kD} {f : Nat} (N : tyL A ds f) {e eb : kE} (hm : e.map (·.1) = eb.map (·.1)) (he : ∀ p ∈ e, kIn p.2) {T2 B2 : Int → Int} : ∀ (R L : List Int) (T T1 B : Int → Int), fT A R L → L.Nodup → (∀ x ∈ L, 0 ≤ x ∧ x < A.1) → kDi ds T → (∀ d ∈ ds, d.2.2 ∉ L) → kRow (kGo A ds f) e R T = some T1 → (∀ x ∈ L, T2 x = T1 x) → (∀ x ∈ L, B2 x = kBoR (kBo A ds f) eb R B x) → (∀ d ∈ ds, T2 d.2.2 = T1 d.2.2) → ∀ x ∈ R, tyN A ds T2 B2 f (scZ e eb) x
  | [], L, T, T1, B, hf, hN, hL, hd, hr, h, hT, hB, hD, x, hx => by cases hx
  | y :: R, L, T, T1, B, hf, hN, hL, hd, hr, h, hT, hB, hD, x, hx => by
    obtain ⟨L1, L2, e1, w1, w2, w3⟩ := fT_inv hf
    subst e1
    rw [← List.cons_append] at hN hL hr hT hB
    have hN2 := List.nodup_append.mp hN
    unfold kRow at h
    split at h
    · cases h
    · rename_i T3 h3
      have dis : ∀ z, z ∈ y :: L1 → z ∉ L2 := fun z a b => hN2.2.2 z a z b rfl
      rcases List.mem_cons.mp hx with q | q
      · subst q
        refine N e eb x T T3 B (x :: L1) (fT_one w1 w2) hN2.1 (fun z hz => hL z (List.mem_append_left _ hz)) hm he hd (fun d hd' z => hr d hd' (List.mem_append_left _ z)) h3 T2 B2 (fun z hz => ?_) (fun z hz => ?_) (fun d hd' => ?_)
        · rw [hT z (List.mem_append_left _ hz)]
          exact kRow_fr (kGo_fr A ds f) e R L2 T3 T1 w3 h z (dis z hz)
        · rw [hB z (List.mem_append_left _ hz)]
          exact kBoR_fr (kBo_fr A ds f) eb R L2 _ w3 z (dis z hz)
        · rw [hD d hd']
          exact kRow_fr (kGo_fr A ds f) e R L2 T3 T1 w3 h _ (fun z => hr d hd' (List.mem_append_right _ z))
      · exact tyR N hm he R L2 T3 T1 _ w3 hN2.2.1 (fun z hz => hL z (List.mem_append_right _ hz)) (kDi_up hd he h3) (fun d hd' z => hr d hd' (List.mem_append_right _ z)) h (fun z hz => hT z (List.mem_append_right _ hz)) (fun z hz => hB z (List.mem_append_right _ hz)) hD x q
theorem kDef_x {ds : kD} {w : Int} : (kDef ds w = none ↔ kDx ds w = none) := by
  induction ds with
  | nil => exact ⟨fun _ => rfl, fun _ => rfl⟩
  | cons x l ih =>
    unfold kDef kDx
    by_cases c : x.1 = w
    · rw [if_pos c, if_pos c]
      exact ⟨fun h => (by cases h), fun h => (by cases h)⟩
    · rw [if_neg c, if_neg c]; exact ih
theorem kTy_T {A : aT} {ds : kD} {T T' : Int → Int} {e : kE} {n : Int} {ts : List Int} (h : ∀ d ∈ ds, T d.2.2 = T' d.2.2) : kTy A ds T e n ts = kTy A ds T' e n ts := kTy_ag h e n ts
theorem tyL_all (A : aT) (ds : kD) : ∀ f, tyL A ds f
  | 0 => fun e eb n T T1 B L hf hN hL hm he hd hr h => by cases h
  | f + 1 => fun e eb n T T1 B L hf hN hL hm he hd hr h T2 B2 hT hB hD => by
    have N := tyL_all A ds f
    obtain ⟨L1, L2, e1, w1, w2, w3⟩ := fT_inv hf
    have e2 := fT_nil w3
    subst e2
    rw [List.append_nil] at e1
    subst e1
    have hnn := hL n (by simp)
    have hnL : n ∉ L1 := (List.nodup_cons.mp hN).1
    have hN1 : L1.Nodup := (List.nodup_cons.mp hN).2
    have hL1 : ∀ x ∈ L1, 0 ≤ x ∧ x < A.1 := fun x hx => hL x (by simp [hx])
    have hr1 : ∀ d ∈ ds, d.2.2 ∉ L1 := fun d hd' z => hr d hd' (by simp [z])
    have hrn : ∀ d ∈ ds, ¬ d.2.2 = n := fun d hd' z => hr d hd' (by simp [z])
    have rgn := kGo_rg A ds (f + 1) e n T T1 hd he h
    unfold kGo at h
    split at h
    · cases h
    rename_i T3 h3
    split at h
    · cases h
    rename_i ty hty
    cases h
    have rg3 := kParts_rg (kGo_rg A ds f) hd he h3
    have T2n : T2 n = ty := by rw [hT n (by simp)]; simp only [aU, if_true]
    have T23 : ∀ x ∈ L1, T2 x = T3 x := fun x hx => by
      rw [hT x (by simp [hx])]
      simp only [aU, show ¬ x = n from fun z => hnL (by rw [← z]; exact hx), if_false]
    have D23 : ∀ d ∈ ds, T2 d.2.2 = T3 d.2.2 := fun d hd' => by
      rw [hD d hd']
      simp only [aU, hrn d hd', if_false]
    have B23 : ∀ x ∈ L1, B2 x = (kBo A ds (f + 1) eb n B) x := fun x hx => hB x (by simp [hx])
    have km : (A.2.2.2.2.1 n).map T2 = (A.2.2.2.2.1 n).map T3 := List.map_congr_left (fun x hx => T23 x (fT_sub w2 x hx))
    have tyn : ¬ A.2.1 n = 1 → kTy A ds T2 [] n ((A.2.2.2.2.1 n).map T2) = some (T2 n) := fun c => by
      rw [km, kTy_T D23, kTy_e (e' := e) c, T2n]; exact hty
    have bn : B2 n = kBo A ds (f + 1) eb n B n := hB n (by simp)
    have part : ∀ B', B' = (if A.2.1 n = 2 then (match A.2.2.2.2.1 n with
      | a :: r => kBoR (kBo A ds f) ((A.2.2.2.1 n, n) :: eb) r (kBo A ds f eb a B)
      | [] => B)
      else if A.2.1 n = 15 then (match A.2.2.2.2.1 n with
      | body :: r => kBoR (kBo A ds f) (kGb n 0 (A.2.2.2.2.2 n) eb) (r.drop (A.2.2.2.2.2 n).length ++ [body]) (kBoR (kBo A ds f) eb (r.take (A.2.2.2.2.2 n).length) B)
      | [] => B)
      else kBoR (kBo A ds f) eb (A.2.2.2.2.1 n) B) → kBo A ds (f + 1) eb n B = kUp A ds eb n B' := fun B' hB' => by subst hB'; rfl
    have B2p : ∀ B', kBo A ds (f + 1) eb n B = kUp A ds eb n B' → ∀ x ∈ L1, B2 x = B' x := fun B' hB' x hx => by
      rw [B23 x hx, hB', kUp_fr (fun z => hnL (by rw [← z]; exact hx))]
    have kin : kIn (T2 n) := by rw [hT n (by simp)]; exact rgn.1
    obtain ⟨n1, n2, n3, n4, n5, n6, n7, n8⟩ := id w1
    refine ⟨w1, hnn, kin, fun c => ?_, tyn, fun c => ?_, fun c a b hk => ?_, fun c bd tl hk => ?_, fun c1 c2 => ?_⟩
    · rw [kTy_1 c] at hty
      obtain ⟨b, b1, b2⟩ := kFind_z hm hty
      rw [bn, part _ rfl, T2n]
      unfold kUp
      rw [if_pos c, b1]
      simp only [aU, if_true]
      exact b2
    · have hdn : ¬ kDef ds (A.2.2.2.1 n) = none := fun z => by rw [kTy_13 c z] at hty; cases hty
      cases hx : kDx ds (A.2.2.2.1 n) with
      | none => exact absurd (kDef_x.mpr hx) hdn
      | some d =>
        rw [bn, part _ rfl]
        unfold kUp
        rw [if_neg (by omega), if_pos c, hx]
        simp only [aU, if_true]
    · have hp := part _ (by rw [if_pos c, hk])
      have hBx := B2p _ hp
      unfold kParts at h3
      simp only [c, if_true, hk] at h3
      rw [hk] at w2
      obtain ⟨La, Lb, e3, fa, fb⟩ := fT_spl [a] [b] L1 w2
      subst e3
      have nd := List.nodup_append.mp hN1
      split at h3
      · cases h3
      rename_i Ta ha
      have dis : ∀ z, z ∈ La → z ∉ Lb := fun z x y => nd.2.2 z x z y rfl
      have rga := kGo_rg A ds f e a T Ta hd he ha
      have a2 : T2 a = Ta a := by
        rw [T23 a (List.mem_append_left _ (fT_sub fa a (by simp)))]
        exact kRow_fr (kGo_fr A ds f) _ [b] Lb Ta T3 fb h3 a (dis a (fT_sub fa a (by simp)))
      refine ⟨N e eb a T Ta B La fa nd.1 (fun z hz => hL1 z (List.mem_append_left _ hz)) hm he hd (fun d hd' z => hr1 d hd' (List.mem_append_left _ z)) ha T2 B2 (fun z hz => ?_) (fun z hz => ?_) (fun d hd' => ?_), ?_⟩
      · rw [T23 z (List.mem_append_left _ hz)]
        exact kRow_fr (kGo_fr A ds f) _ [b] Lb Ta T3 fb h3 z (dis z hz)
      · rw [hBx z (List.mem_append_left _ hz)]
        exact kBoR_fr (kBo_fr A ds f) _ [b] Lb _ fb z (dis z hz)
      · rw [D23 d hd']
        exact kRow_fr (kGo_fr A ds f) _ [b] Lb Ta T3 fb h3 _ (fun z => hr1 d hd' (List.mem_append_right _ z))
      · rw [a2]
        refine tyR N (e := (A.2.2.2.1 n, Ta a) :: e) (eb := (A.2.2.2.1 n, n) :: eb) (by simp [hm]) (fun p hp' => ?_) [b] Lb Ta T3 _ fb nd.2.1 (fun z hz => hL1 z (List.mem_append_right _ hz)) (kDi_up hd he ha) (fun d hd' z => hr1 d hd' (List.mem_append_right _ z)) h3 (fun z hz => T23 z (List.mem_append_right _ hz)) (fun z hz => hBx z (List.mem_append_right _ hz)) D23 b (by simp)
        rcases List.mem_cons.mp hp' with q | q
        · rw [q]; exact rga.1
        · exact he p q
    · have hp := part _ (by rw [if_neg (show ¬ A.2.1 n = 2 by omega), if_pos c, hk])
      have hBx := B2p _ hp
      have l7 := n7 c
      rw [hk] at l7
      simp only [List.length_cons] at l7
      unfold kParts at h3
      simp only [c, hk] at h3
      rw [if_neg (by decide), if_pos trivial] at h3
      rw [hk] at w2
      obtain ⟨Lb, Lt, e3, fb, ft⟩ := fT_spl [bd] tl L1 w2
      rw [← List.take_append_drop (A.2.2.2.2.2 n).length tl] at ft
      obtain ⟨La, Ld, e4, fa, fd⟩ := fT_spl _ _ Lt ft
      subst e4
      subst e3
      have fdb := fT_app fd fb
      have nd := List.nodup_append.mp hN1
      have nd2 := List.nodup_append.mp nd.2.1
      have ndb : (Ld ++ Lb).Nodup := by
        rw [List.nodup_append]
        exact ⟨nd2.2.1, nd.1, fun x hx y hy z => nd.2.2 y hy x (List.mem_append_right _ hx) z.symm⟩
      have ia : ∀ x, x ∈ La → x ∈ Lb ++ (La ++ Ld) := fun x hx => by simp [hx]
      have ib : ∀ x, x ∈ Ld ++ Lb → x ∈ Lb ++ (La ++ Ld) := fun x hx => by
        rcases List.mem_append.mp hx with z | z <;> simp [z]
      have dis : ∀ z, z ∈ La → z ∉ Ld ++ Lb := fun z x y => by
        rcases List.mem_append.mp y with w | w
        · exact nd2.2.2 z x z w rfl
        · exact nd.2.2 z w z (List.mem_append_left _ x) rfl
      split at h3
      · cases h3
      rename_i Ta ha
      split at h3
      rotate_left
      · cases h3
      rename_i hG
      have hG2 := hG
      unfold kGens at hG2
      rw [Bool.and_eq_true] at hG2
      have rga := kRow_rg (kGo_rg A ds f) e he _ T Ta hd ha
      have a2 : ∀ x ∈ La, T2 x = Ta x := fun x hx => by
        rw [T23 x (ia x hx)]
        exact kRow_fr (kGo_fr A ds f) _ _ (Ld ++ Lb) Ta T3 fdb h3 x (dis x hx)
      have lt : (tl.take (A.2.2.2.2.2 n).length).length = (A.2.2.2.2.2 n).length := by rw [List.length_take]; omega
      have gz := gsc_z (n := n) (T := Ta) (A.2.2.2.2.2 n) (tl.take (A.2.2.2.2.2 n).length) 0 e eb lt.symm hm
      have ge : ∀ (j : Nat) (xs : List Int), (∀ x ∈ xs, T2 x = Ta x) → gsc n T2 j xs = gsc n Ta j xs := by
        intro j xs
        induction xs generalizing j with
        | nil => intro _; rfl
        | cons y ys ih => intro hh; simp only [gsc]; rw [hh y (by simp), ih (j + 1) (fun x hx => hh x (by simp [hx]))]
      refine ⟨fun x hx => ⟨?_, ?_⟩, fun x hx => ?_⟩
      · refine tyR N hm he _ La T Ta B fa nd2.1 (fun z hz => hL1 z (ia z hz)) hd (fun d hd' z => hr1 d hd' (ia _ z)) ha a2 (fun z hz => ?_) (fun d hd' => ?_) x hx
        · rw [hBx z (ia z hz)]
          exact kBoR_fr (kBo_fr A ds f) _ _ (Ld ++ Lb) _ fdb z (dis z hz)
        · rw [D23 d hd']
          exact kRow_fr (kGo_fr A ds f) _ _ (Ld ++ Lb) Ta T3 fdb h3 _ (fun z => hr1 d hd' (ib _ z))
      · rw [a2 x (fT_sub fa x hx)]
        exact of_decide_eq_true (List.all_eq_true.mp hG2.2 x hx)
      · rw [ge 0 _ (fun y hy => a2 y (fT_sub fa y hy))]
        exact tyN_m A ds T2 B2 f _ _ x gz.2 (tyR N gz.1 (kBind_in _ _ e rga.1 hG2.2 he) _ (Ld ++ Lb) Ta T3 _ fdb ndb (fun z hz => hL1 z (ib z hz)) (fun d hd' => rga.2 _ (hd d hd')) (fun d hd' z => hr1 d hd' (ib _ z)) h3 (fun z hz => T23 z (ib z hz)) (fun z hz => hBx z (ib z hz)) D23 x hx)
    · have hp := part _ (by rw [if_neg c1, if_neg c2])
      have hBx := B2p _ hp
      unfold kParts at h3
      simp only [c1, c2, if_false] at h3
      exact tyR N hm he _ L1 T T3 B w2 hN1 hL1 hd hr1 h3 T23 hBx D23
/-! The same of a whole PROGRAM. -/
def kFl (A : aT) (q : Int) (D : List aDf) (ds : kD) (T : Int → Int) : Option (Int → Int) := match kDs A D ds T with
  | none => none
  | some (T1, dsf) => kGo A dsf 201 [] q T1
theorem kDs_l {A : aT} : ∀ (D : List aDf) (ds dsf : kD) (T T1 : Int → Int), kDs A D ds T = some (T1, dsf) → dsf = kDl D ds
  | [], ds, dsf, T, T1, h => by cases h; rfl
  | x :: r, ds, dsf, T, T1, h => by
    unfold kDs at h
    split at h
    · cases h
    · rename_i T2 ds1 h2
      have hd : ds1 = (x.1, x.2.2.1.map (·.2.2), x.2.2.2) :: ds := by
        unfold kDf at h2
        split at h2
        · split at h2
          · cases h2
          · cases h2; rfl
        · cases h2
      rw [kDs_l r ds1 dsf T2 T1 h, hd]; rfl
theorem kFl_fr {A : aT} {q : Int} : ∀ (D : List aDf) (ds : kD) (T Tf : Int → Int) (L : List Int), fT A (aRt D ++ [q]) L → kFl A q D ds T = some Tf → ∀ x, x ∉ L → Tf x = T x
  | [], ds, T, Tf, L, hf, h, x, hx => by
    unfold kFl at h
    simp only [kDs] at h
    exact kGo_fr A ds 201 [] q T Tf L hf h x hx
  | y :: r, ds, T, Tf, L, hf, h, x, hx => by
    obtain ⟨La, Lr, e3, fa, fr⟩ := fT_spl [y.2.2.2] (aRt r ++ [q]) L hf
    subst e3
    unfold kFl at h
    simp only [kDs] at h
    cases hd : kDf A ds y T with
    | none => rw [hd] at h; cases h
    | some v =>
      obtain ⟨Ta, ds1⟩ := v
      rw [hd] at h
      obtain ⟨s1, s2, s3⟩ := kDf_s hd
      rw [kFl_fr r ds1 Ta Tf Lr fr h x (fun z => hx (List.mem_append_right _ z)), kGo_fr A ds 201 _ _ T Ta La fa s3 x (fun z => hx (List.mem_append_left _ z))]
theorem kFlB_fr {A : aT} {q : Int} : ∀ (D : List aDf) (ds : kD) (d : Nat) (B : Int → Int) (L : List Int), fT A (aRt D ++ [q]) L → ∀ x, x ∉ L → kBo A (kDl D ds) 201 [] q (kDB A D ds d B) x = B x
  | [], ds, d, B, L, hf, x, hx => kBo_fr A ds 201 [] q B L hf x hx
  | y :: r, ds, d, B, L, hf, x, hx => by
    obtain ⟨La, Lr, e3, fa, fr⟩ := fT_spl [y.2.2.2] (aRt r ++ [q]) L hf
    subst e3
    simp only [kDl, kDB]
    rw [kFlB_fr r _ (d + 1) _ Lr fr x (fun z => hx (List.mem_append_right _ z)), kBo_fr A ds 201 _ _ B La fa x (fun z => hx (List.mem_append_left _ z))]
theorem kPb_m {d : Int} : ∀ (ps : List (Int × Int × Int)) (j : Nat) (eb : kE), (kPb d j ps eb).map (·.1) = (ps.map (·.1)).reverse ++ eb.map (·.1)
  | [], j, eb => by simp [kPb]
  | p :: ps, j, eb => by
    simp only [kPb]
    rw [kPb_m ps (j + 1)]
    simp
theorem tyP {A : aT} {q : Int} {T2 B2 : Int → Int} : ∀ (D : List aDf) (ds : kD) (d : Nat) (T Tf B : Int → Int) (L : List Int), fT A (aRt D ++ [q]) L → L.Nodup → (∀ x ∈ L, 0 ≤ x ∧ x < A.1) → kDi ds T → (∀ c ∈ ds, c.2.2 ∉ L) → (∀ x ∈ D, ∀ p ∈ x.2.2.1, 0 ≤ p.2.2) → kFl A q D ds T = some Tf → (∀ x ∈ L, T2 x = Tf x) → (∀ x ∈ L, B2 x = kBo A (kDl D ds) 201 [] q (kDB A D ds d B) x) → (∀ c ∈ ds, T2 c.2.2 = T c.2.2) → (∀ (j : Nat) (x : aDf), D[j]? = some x → tyN A (kDl (D.take j) ds) T2 B2 201 (scZ (kPe x) (kPb ((d + j : Nat) : Int) 0 x.2.2.1 [])) x.2.2.2 ∧ ∀ p ∈ x.2.2.1, kIn p.2.2) ∧ tyN A (kDl D ds) T2 B2 201 [] q
  | [], ds, d, T, Tf, B, L, hf, hN, hL, hd, hr, hp, h, hT, hB, hD => by
    unfold kFl at h
    simp only [kDs] at h
    refine ⟨fun j x hj => (by cases hj), ?_⟩
    exact tyL_all A ds 201 [] [] q T Tf B L hf hN hL rfl (fun p hp => by cases hp) hd hr h T2 B2 hT hB (fun c hc => by rw [hD c hc]; exact (kGo_fr A ds 201 [] q T Tf L hf h _ (hr c hc)).symm)
  | y :: r, ds, d, T, Tf, B, L, hf, hN, hL, hd, hr, hp, h, hT, hB, hD => by
    obtain ⟨La, Lr, e3, fa, fr⟩ := fT_spl [y.2.2.2] (aRt r ++ [q]) L hf
    subst e3
    have nd := List.nodup_append.mp hN
    have dis : ∀ z, z ∈ La → z ∉ Lr := fun z a b => nd.2.2 z a z b rfl
    unfold kFl at h
    simp only [kDs] at h
    cases hdf : kDf A ds y T with
    | none => rw [hdf] at h; cases h
    | some v =>
      obtain ⟨Ta, ds1⟩ := v
      rw [hdf] at h
      have hds1 : ds1 = (y.1, y.2.2.1.map (·.2.2), y.2.2.2) :: ds := by
        have h2 := hdf
        unfold kDf at h2
        split at h2
        · split at h2
          · cases h2
          · cases h2; rfl
        · cases h2
      subst hds1
      obtain ⟨s1, s2, s3⟩ := kDf_s hdf
      have pin : ∀ p ∈ y.2.2.1, kIn p.2.2 := fun p hp' => ⟨hp y (by simp) p hp', s2 p hp'⟩
      have ein : ∀ p ∈ y.2.2.1.reverse.map (fun p => (p.1, p.2.2)), kIn p.2 := fun p hp' => by
        obtain ⟨p', hp2, rfl⟩ := List.mem_map.mp hp'
        exact pin p' (List.mem_reverse.mp hp2)
      have rga := kGo_rg A ds 201 _ _ T Ta hd ein s3
      have rt : y.2.2.2 ∈ La := fT_sub fa _ (by simp)
      have Tfa : ∀ x, x ∉ Lr → Tf x = Ta x := fun x hx => kFl_fr r _ Ta Tf Lr fr h x hx
      have Taf : ∀ x, x ∉ La → Ta x = T x := fun x hx => kGo_fr A ds 201 _ _ T Ta La fa s3 x hx
      simp only [kDl, kDB] at hB
      have main : tyN A ds T2 B2 201 (scZ (kPe y) (kPb (d : Int) 0 y.2.2.1 [])) y.2.2.2 := by
        refine tyL_all A ds 201 (kPe y) (kPb (d : Int) 0 y.2.2.1 []) y.2.2.2 T Ta B La fa nd.1 (fun z hz => hL z (List.mem_append_left _ hz)) ?_ ein hd (fun c hc z => hr c hc (List.mem_append_left _ z)) s3 T2 B2 (fun z hz => ?_) (fun z hz => ?_) (fun c hc => ?_)
        · rw [kPb_m]
          unfold kPe
          simp [List.map_reverse]
        · rw [hT z (List.mem_append_left _ hz)]; exact Tfa z (dis z hz)
        · rw [hB z (List.mem_append_left _ hz)]; exact kFlB_fr r _ (d + 1) _ Lr fr z (dis z hz)
        · rw [hD c hc]; exact (Taf _ (fun z => hr c hc (List.mem_append_left _ z))).symm
      have ih := tyP r ((y.1, y.2.2.1.map (·.2.2), y.2.2.2) :: ds) (d + 1) Ta Tf (kBo A ds 201 (kPb (d : Int) 0 y.2.2.1 []) y.2.2.2 B) Lr fr nd.2.1 (fun z hz => hL z (List.mem_append_right _ hz)) (fun c hc => by
          rcases List.mem_cons.mp hc with e | e
          · subst e; exact rga.1
          · exact rga.2 _ (hd c e)) (fun c hc => by
          rcases List.mem_cons.mp hc with e | e
          · subst e; exact dis _ rt
          · exact fun z => hr c e (List.mem_append_right _ z)) (fun x hx => hp x (by simp [hx])) h (fun z hz => hT z (List.mem_append_right _ hz)) (fun z hz => hB z (List.mem_append_right _ hz)) (fun c hc => by
          rcases List.mem_cons.mp hc with e | e
          · subst e
            rw [hT _ (List.mem_append_left _ rt)]
            exact Tfa _ (dis _ rt)
          · rw [hD c e]; exact (Taf _ (fun z => hr c e (List.mem_append_left _ z))).symm)
      refine ⟨fun j x hj => ?_, ih.2⟩
      cases j with
      | zero =>
        simp only [List.getElem?_cons_zero, Option.some.injEq] at hj
        subst hj
        exact ⟨main, pin⟩
      | succ j =>
        have := ih.1 j x hj
        rw [show (d + 1 + j : Nat) = d + (j + 1) by omega] at this
        exact this
