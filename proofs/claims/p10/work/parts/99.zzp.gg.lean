/-! flatEach: its GENS are done. -/
section GG
variable {A : aT} {D : List aDf} {T B : Int → Int} {lev : Int → Nat} {r : Int}
theorem m_eB {σ : sg_S} {m : Nat} {tys : List (Int × Int × Int)} {Q : sg_S → Prop} (hX : pgX σ A D T B) (hN : fN σ) (h : fTop A D T B lev r σ m tys) (e0 : sg_g σ 88 73 = 0) (k15 : A.2.1 (sg_g σ 126 m) = 15) (hst : sg_g σ 127 m = (A.2.2.2.2.2 (sg_g σ 126 m)).length) (k : ∀ σ', fQ A D T B lev r σ σ' → Q σ') : V_flatEach σ m Q := by
  have hN' := hN
  obtain ⟨hI, hB, n1, n2, n3⟩ := hN
  have hI' := hI
  obtain ⟨i1, i2, i3, i4, i5⟩ := hI
  obtain ⟨fm, j, f, L, sc, X, h1, h2, h3, h4, h5, h6, h7, h8⟩ := h
  obtain ⟨hP, hD, eT, eB, hA, hdt⟩ := id hX
  obtain ⟨w1, w2, w3, w4, w5, w6⟩ := stN_w h4
  obtain ⟨t1, t2, t3, t4, t5⟩ := tr_k hP w2
  have g4 := (w1.2.2.2.2.2.2.1 k15).2
  have gk := (w1.2.2.2.2.2.2.1 k15).1
  have g1 := w1.2.2.2.2.2.2.2.2 k15
  rw [fK_15 k15] at h7
  obtain ⟨bd, tl, ea, q⟩ := h7
  rw [ea] at gk
  simp only [List.length_cons] at gk
  rcases q with ⟨i, q1, q2, q3, q4, q5⟩ | ⟨ts, q1, -⟩ | ⟨mm, q1, -⟩
  rotate_left
  · omega
  · omega
  have sea := stN_each hA h4 k15 ea
  obtain ⟨G, hG⟩ : ∃ G, G = (A.2.2.2.2.2 (sg_g σ 126 m)).length := ⟨_, rfl⟩
  rw [← hG] at g4 g1 gk hst sea
  have iG : i = G := by omega
  subst iG
  have tk : (tl.take i).length = i := by rw [List.length_take]; omega
  subst q4
  simp only [List.length_map] at h2
  have nL : sg_g σ 126 m ∈ L := fT_sub h4.2.1 _ (by simp)
  have gen : ∀ jj : Nat, jj < i → ∃ x, tl[jj]? = some x ∧ 0 < T x ∧ kIn (T x) ∧ fLx σ ((T x).toNat - 1 + 1) (sg_g σ 145 m) (sg_g σ 88 85 + X) (sg_g σ 133 (sg_g σ 128 m + jj)) := fun jj hj => by
    obtain ⟨x, hx⟩ : ∃ x, tl[jj]? = some x := ⟨_, List.getElem?_eq_getElem (by omega)⟩
    have xm : x ∈ tl.take i := by
      rw [List.mem_iff_getElem?]
      exact ⟨jj, by rw [List.getElem?_take_of_lt hj]; exact hx⟩
    obtain ⟨⟨f', L', a1, -⟩, a2⟩ := sea.1 x xm
    refine ⟨x, hx, a2, (stN_w a1).2.2.1, ?_⟩
    have := h3 jj (T x, sg_g σ 145 m, X) (by rw [List.getElem?_map, List.getElem?_take_of_lt hj, hx]; rfl)
    rwa [show (T x).toNat - 1 + 1 = (T x).toNat by omega]
  obtain ⟨m1, hm1⟩ : ∃ m1, m1 = csT σ (sg_g σ 128 m) (sg_g σ 145 m) := ⟨_, rfl⟩
  obtain ⟨x0, hx0, T0, -, v0x⟩ := gen 0 (by omega)
  rw [show sg_g σ 128 m + ((0 : Nat) : Int) = sg_g σ 128 m by omega] at v0x
  have v0 := fLx_L v0x
  have lX : sg_g σ 145 m ≤ sg_g σ 88 85 + X := by
    obtain ⟨R0, u1, u2, u3, u4⟩ := v0x
    cases R0 with
    | nil => simp at u2
    | cons x y =>
      have := (eX_b (fCh_drop 1 u1.2.2.2.2)).1
      simp only [List.drop_succ_cons, List.drop_zero] at this
      simp only [List.getD_cons_zero] at u3
      simp only [eX] at u4
      omega
  obtain ⟨rr, r', Rr, c1, c2, c3, c4, c5, c6, c7, c8⟩ := csT_l v0
  rw [← hm1] at c7
  have m1b : 0 ≤ m1 ∧ m1 ≤ 6000 := by rw [← c7]; exact ⟨c6.2.1, c6.2.2.1⟩
  have csr : m1 = cs σ rr.1 (sg_g σ 145 m).toNat := by rw [hm1]; unfold csT; rw [c8]
  obtain ⟨fb, Lb, hb1, hb2, hb3⟩ := sea.2 bd (by simp)
  have tz := t4 0 bd (by rw [ea]; rfl)
  rw [show 200 * sg_g σ 126 m + ((0 : Nat) : Int) = 200 * sg_g σ 126 m by omega] at tz
  unfold V_flatEach
  have tlk : sg_g σ 96 (sg_g σ 126 m) = tl.length + 1 := by rw [t2, ea]; rfl
  rw [t5, ← hG, tz, tlk]
  have ht : v_hasTest σ (sg_g σ 126 m) = (if tl.length = 1 + i then 1 else 0) := by
    unfold v_hasTest
    rw [tlk, t5, ← hG]
    by_cases c : tl.length = 1 + i
    · rw [if_neg (fun z => z (by omega)), if_pos c]
    · rw [if_pos (by omega), if_neg c]
  have pt : p_hasTest σ (sg_g σ 126 m) := by
    unfold p_hasTest
    rw [tlk, t5, ← hG]
    exact ⟨⟨by omega, by omega⟩, ⟨by omega, by omega⟩, fun _ => trivial, fun _ => trivial⟩
  rw [ht]
  refine ⟨⟨by omega, by omega⟩, ⟨by omega, by omega⟩, ⟨by omega, by omega⟩, fun σ4 e4 => ⟨fun _ => ⟨⟨by omega, by omega⟩, ⟨by omega, by omega⟩, ⟨by omega, by omega⟩, ⟨by omega, by omega⟩, ⟨by omega, by omega⟩, fun z => absurd hst z, fun _ => ?_⟩, fun z => by omega⟩⟩
  have f4 : sg_F [127] σ σ4 := by rw [e4]; exact sg_F_w (sg_F_r _ _) rfl _
  have row : ∀ jj : Nat, jj < i → ∃ q R, fV σ 6000 (sg_g σ 133 (sg_g σ 128 m + jj)) (q :: R) ∧ q.2 = sg_g σ 145 m ∧ sg_g σ 140 (4 * sg_g σ 133 (sg_g σ 128 m + jj)) = q.1 := fun jj hj => by
    obtain ⟨x, -, -, -, hx⟩ := gen jj hj
    obtain ⟨q, R, y1, y2, y3⟩ := fL_c (fLx_L hx)
    exact ⟨q, R, y1, y3, (fV_0 y1).1⟩
  let E : Int → Nat → Prop := fun x jj => ∀ y, 0 ≤ y → y < x → sg_g σ 142 (sg_g σ 140 (4 * sg_g σ 133 (sg_g σ 128 m + jj)) + y) = sg_g σ 142 (rr.1 + y)
  refine ⟨fun p x σ5 => p = (sg_g σ 145 m - x).toNat ∧ (0 ≤ x ∧ x ≤ sg_g σ 145 m) ∧ σ5 = σ4 ∧ ∀ jj : Nat, jj < i → E x jj, fun σ5 => σ5 = σ4 ∧ ∀ jj : Nat, jj < i → E (sg_g σ 145 m) jj, ⟨_, rfl, ⟨by omega, by omega⟩, rfl, fun jj _ y a b => by omega⟩, ?_, ?_⟩
  · rintro p x σ5 rx f5 ⟨ep, hx, e5, hE⟩
    refine ⟨fun z => ⟨e5, by rw [show sg_g σ 145 m = x by omega]; exact hE⟩, fun z => ?_⟩
    refine ⟨fun p' v σ6 => p' = ((i : Int) - v).toNat ∧ (1 ≤ v ∧ v ≤ i) ∧ σ6 = σ4 ∧ ∀ jj : Nat, (jj : Int) < v → E (x + 1) jj, fun σ6 => σ6 = σ4 ∧ ∀ jj : Nat, jj < i → E (x + 1) jj, ⟨_, rfl, ⟨by omega, by omega⟩, e5, fun jj hj y a b => ?_⟩, ?_, ?_⟩
    · rw [show jj = 0 by omega, show sg_g σ 128 m + ((0 : Nat) : Int) = sg_g σ 128 m by omega, c8]
    · rintro p' v σ6 rv f6 ⟨ep', hv, e6, hE6⟩
      refine ⟨fun c => ⟨e6, fun jj hj => hE6 jj (by omega)⟩, fun c => ?_⟩
      obtain ⟨q, R, y1, y2, y3⟩ := row v.toNat (by omega)
      rw [show ((v.toNat : Nat) : Int) = v by omega] at y1 y3
      obtain ⟨pa, va⟩ := pR c1 ⟨by omega, by omega⟩ (i := x) ⟨by omega, by omega⟩
      obtain ⟨pb, vb⟩ := pR y1 ⟨by omega, by omega⟩ (i := x) ⟨by omega, by omega⟩
      rw [va, vb]
      refine ⟨⟨h1, by omega⟩, pa, ⟨by omega, by omega⟩, ⟨by omega, by omega⟩, pb, fun ce => ⟨⟨by omega, by omega⟩, _, by omega, rfl, ⟨by omega, by omega⟩, e6, fun jj hj => ?_⟩, fun _ => m_ends ⟨by decide, by decide⟩ (fun σ' u1 u2 _ => k σ' (Or.inl u1))⟩
      by_cases cj : (jj : Int) = v
      · intro y a b
        by_cases cy : y = x
        · rw [cj, y3, cy]; exact ce.symm
        · exact hE jj (by omega) y a (by omega)
      · exact hE6 jj (by omega)
    · rintro σ6 f6 ⟨e6, hE6⟩
      exact ⟨⟨by omega, by omega⟩, _, by omega, rfl, ⟨by omega, by omega⟩, e6, hE6⟩
  · rintro σ5 f5 ⟨e5, hE⟩
    subst e5
    have P4 := trT_X f4 rfl hX
    obtain ⟨M, z, fz, Lz, z1, z2, z3, M1, M2, M3, M4, M5, zk⟩ : ∃ (M : List Int) (z : Int) (fz : Nat) (Lz : List Int), stN A D T B lev j fz Lz (gsc (sg_g σ 126 m) T 0 (tl.take i) ++ sc) z ∧ (∀ y ∈ Lz, y ∈ L) ∧ sg_g σ 126 m ∉ Lz ∧ (∀ y ∈ Lz, y ∈ M) ∧ (∀ y ∈ Lb, y ∈ M) ∧ (∀ y ∈ M, y ∈ L) ∧ (∀ y ∈ M, A.2.1 y = 1 → rb A (B y) ∧ ((B y, T y) ∈ gsc (sg_g σ 126 m) T 0 (tl.take i) ++ sc ∨ insL M (B y))) ∧ (((tl.length = 1 + i) ∧ M = Lb ++ Lz ∧ tl.drop i = [z] ∧ sg_g σ 97 (200 * sg_g σ 126 m + (tl.length + 1) - 1) = z) ∨ ((tl.length = i) ∧ M = Lb ∧ z = bd ∧ Lz = Lb)) ∧ True := by
      have vb := rb_L hA hb1
      by_cases c : tl.length = 1 + i
      · obtain ⟨ts, hts⟩ : ∃ ts, tl[i]? = some ts := ⟨_, List.getElem?_eq_getElem (by omega)⟩
        have dr : tl.drop i = [ts] := by
          rw [List.drop_eq_getElem_cons (by omega)]
          rw [List.drop_of_length_le (by omega)]
          rw [List.getElem?_eq_getElem (by omega)] at hts
          cases hts; rfl
        obtain ⟨ft, Lt, ht1, ht2, ht3⟩ := sea.2 ts (by rw [dr]; simp)
        have vt := rb_L hA ht1
        refine ⟨Lb ++ Lt, ts, ft, Lt, ht1, ht2, ht3, fun y hy => by simp [hy], fun y hy => by simp [hy], fun y hy => ?_, fun y hy ky => ?_, Or.inl ⟨c, rfl, dr, ?_⟩, trivial⟩
        · rcases List.mem_append.mp hy with w | w
          · exact hb2 y w
          · exact ht2 y w
        · rcases List.mem_append.mp hy with w | w
          · refine ⟨vb y w ky, ?_⟩
            rcases stN_v hA hb1 w ky with ⟨u, -⟩ | u
            · exact Or.inl u
            · exact Or.inr (insL_s (fun y hy => by simp [hy]) u)
          · refine ⟨vt y w ky, ?_⟩
            rcases stN_v hA ht1 w ky with ⟨u, -⟩ | u
            · exact Or.inl u
            · exact Or.inr (insL_s (fun y hy => by simp [hy]) u)
        · have := t4 (i + 1) ts (by rw [ea, List.getElem?_cons_succ]; exact hts)
          rw [← this]
          congr 1
          omega
      · refine ⟨Lb, bd, fb, Lb, hb1, hb2, hb3, fun y hy => hy, fun y hy => hy, hb2, fun y hy ky => ⟨vb y hy ky, ?_⟩, Or.inr ⟨by omega, rfl, rfl, rfl⟩, trivial⟩
        rcases stN_v hA hb1 hy ky with ⟨u, -⟩ | u
        · exact Or.inl u
        · exact Or.inr u
    refine m_clear P4.1.1.1 ⟨P4.1.1.2.1, hA⟩ (fun σ7 m7 o7 f7 _ => ?_)
    have F7 : sg_F [120, 127, 47088] σ σ7 := sg_F_t (sg_F_m f4 rfl) (sg_F_m f7 rfl)
    refine m_mark (trT_X F7 rfl hX).1 hA m7 hb1.2.1 hb1.2.2.1 (fun y hy => (hb1.2.2.2.1 y hy).1) (fun σ8 m8 f8 _ => ⟨pt, fun σ9 => iM σ9 A M, ?_, fun σ9 f9 m9 => ?_⟩)
    · rw [List.nil_append] at m8
      have F8 : sg_F [120, 121, 127, 47088, 50088] σ σ8 := sg_F_t (sg_F_m F7 rfl) (sg_F_m f8 rfl)
      rcases M5 with ⟨c, eM, ed, e97⟩ | ⟨c, eM, ez, eLz⟩
      · rw [if_pos c, e97]
        refine ⟨fun w => absurd w (by decide), fun _ => m_mark (trT_X F8 rfl hX).1 hA m8 z1.2.1 z1.2.2.1 (fun y hy => (z1.2.2.2.1 y hy).1) (fun σ9 m9 f9 _ => ?_)⟩
        rw [eM]; exact m9
      · have np : ¬ tl.length = 1 + i := by omega
        rw [if_neg np]
        exact ⟨fun _ => by rw [eM]; exact m8, fun w => absurd rfl w⟩
    have F9 : sg_F [120, 121, 127, 47088, 50088] σ σ9 := sg_F_t (sg_F_m F7 rfl) (sg_F_t (sg_F_m f8 rfl) (sg_F_m f9 rfl))
    have P9 := trT_X F9 rfl hX
    refine m_gatherO P9.1 P9.2 hA (by rw [sg_F_g f9 (by rfl), sg_F_g f8 (by rfl)]; exact o7) m9 (fun y hy ky => (M4 y hy ky).1) (fun σ10 O o1 o2 o3 f10 _ σ11 e11 => ?_)
    have f11 : sg_F [94088] σ10 σ11 := by rw [e11]; exact sg_F_w (sg_F_r _ _) rfl _
    have F11 : sg_F [119, 120, 121, 127, 47088, 50088, 94088] σ σ11 := sg_F_t (sg_F_m F9 rfl) (sg_F_t (sg_F_m f10 rfl) (sg_F_m f11 rfl))
    obtain ⟨gr1, gr2, gr3, gr4⟩ := c1.2.2.2.2.1
    have lnb : ∀ x, 0 ≤ x → x < sg_g σ 145 m → (0 ≤ sg_g σ 142 (rr.1 + x) ∧ sg_g σ 142 (rr.1 + x) ≤ 200) ∧ 0 ≤ cs σ rr.1 x.toNat ∧ cs σ rr.1 (x + 1).toNat = cs σ rr.1 x.toNat + sg_g σ 142 (rr.1 + x) ∧ cs σ rr.1 (x + 1).toNat ≤ m1 := fun x a b => by
      rw [← c7]
      exact ln_b c4 (by rw [c7]; exact csr) c3 ⟨a, b⟩
    refine ⟨fun p x σ12 => p = (sg_g σ 145 m - x).toNat ∧ (0 ≤ x ∧ x ≤ sg_g σ 145 m) ∧ lO σ12 (cs σ rr.1 x.toNat) (sg_g σ 145 m), fun σ12 => lO σ12 m1 (sg_g σ 145 m), ⟨_, rfl, ⟨by omega, by omega⟩, lO_0 e11⟩, ?_, ?_⟩
    · rintro p x σ12 rx f12 ⟨ep, hx, hl⟩
      refine ⟨fun w => by rw [csr, show sg_g σ 145 m = x by omega]; rw [show sg_g σ 145 m = x by omega] at hl; exact hl, fun w => ?_⟩
      obtain ⟨l1, l2, l3, l4⟩ := lnb x hx.1 w
      obtain ⟨pa, va⟩ := pR c1 ⟨by omega, by omega⟩ (i := x) ⟨by omega, by omega⟩
      rw [va]
      refine ⟨fun p y σ13 => p = (sg_g σ 142 (rr.1 + x) - y).toNat ∧ (0 ≤ y ∧ y ≤ sg_g σ 142 (rr.1 + x)) ∧ lO σ13 (cs σ rr.1 x.toNat + y) (sg_g σ 145 m), fun σ13 => lO σ13 (cs σ rr.1 (x + 1).toNat) (sg_g σ 145 m), ⟨_, rfl, ⟨by omega, by omega⟩, by rw [Int.add_zero]; exact hl⟩, ?_, fun σ13 f13 h13 => ⟨⟨by omega, by omega⟩, _, by omega, rfl, ⟨by omega, by omega⟩, h13⟩⟩
      rintro p' y σ13 ry f13 ⟨ep', hy, hl13⟩
      refine ⟨⟨h1, by omega⟩, pa, fun c => ?_, fun c => m_list hl13 (by omega) rx w (fun σ14 h14 f14 => ⟨⟨by omega, by omega⟩, _, by omega, rfl, ⟨by omega, by omega⟩, by rw [← Int.add_assoc]; exact h14⟩)⟩
      rw [l3, show sg_g σ 142 (rr.1 + x) = y by omega]; exact hl13
    · intro σ12 f12 l12
      have F12 : sg_F [119, 120, 121, 127, 143, 47088, 50088, 94088] σ σ12 := sg_F_t (sg_F_m F11 rfl) (sg_F_m f12 rfl)
      have ex12 := fEx_F F12 (by rfl)
      have I12 : fI σ12 := by
        unfold fI
        rw [sg_F_g (k := 84) F12 (by rfl), sg_F_g (k := 85) F12 (by rfl), sg_F_g (k := 91) F12 (by rfl), sg_F_g (k := 87) F12 (by rfl), sg_F_g (k := 99) F12 (by rfl), sg_F_g (k := 62) F12 (by rfl)]
        exact hI'
      have s12 : sg_g σ12 88 99 = sg_g σ 88 99 := sg_F_g F12 (by rfl)
      have k12 : sg_g σ12 88 84 = sg_g σ 88 84 := sg_F_g F12 (by rfl)
      have B12 : sB σ12 := fun i x y => by rw [sg_F_ga F12 rfl]; exact hB i x (by omega)
      have oR12 : oR σ12 O := ⟨by rw [sg_F_g f12 (by rfl), sg_F_g f11 (by rfl)]; exact o1.1, fun i x hx => by rw [sg_F_ga f12 rfl, sg_F_ga f11 rfl]; exact o1.2.1 i x hx, o1.2.2⟩
      have h93 := l12.1
      rw [h93]
      have bnd : ∀ p ∈ sc, fL σ12 p.2.toNat (sg_g σ 145 m) (sg_g σ12 134 p.1) := fun p hp => by
        have := fL_up ex12 (fLx_L (q5 p hp).2)
        rw [← q3, und_top] at this
        rw [sg_F_ga (a := 134) F12 rfl]; exact this
      have out1 : ∀ b ∈ O, ∃ p ∈ sc, p.1 = b := fun b hb => by
        obtain ⟨y, y1, y2, y3, y4, y5, y6⟩ := (o2 b).mp hb
        rcases (M4 y y2 y3).2 with u | u
        · rcases List.mem_append.mp u with u | u
          · obtain ⟨i', w, hw, ep⟩ := gsc_m _ _ _ u
            have hi' := lt_of_get hw
            rw [tk] at hi'
            have : B y = 210 + 4 * sg_g σ 126 m + i' := by
              have := congrArg (·.1) ep
              simp only at this
              omega
            exact absurd ⟨by omega, by omega, by omega, by omega⟩ y6
          · exact ⟨_, u, y4⟩
        · rw [y4] at u; exact absurd u y5
      have scn : ∀ p ∈ sc, ¬ insL L p.1 := fun p hp u => (h4.2.2.2.2 p hp).2 (Or.inl u)
      have scg : ∀ p ∈ sc, ¬ isG (sg_g σ 126 m) p.1 := fun p hp u => scn p hp (Or.inr ⟨u.2.1, u.2.2.1, by rw [u.2.2.2]; exact nL⟩)
      have out2 : ∀ y ∈ M, A.2.1 y = 1 → ∀ p ∈ sc, p.1 = B y → p.1 ∈ O := fun y hy ky p hp e => (o2 p.1).mpr ⟨y, (h4.2.2.2.1 y (M3 y hy)).1, hy, ky, e.symm, fun u => scn p hp (insL_s M3 u), scg p hp⟩
      refine m_car (S := sc) I12 B12 oR12 o3 bnd out1 l12 (by omega) (fun σ' e _ _ => ⟨fun w => absurd rfl w, fun _ => k σ' (Or.inl e)⟩) (fun σ13 I13 B13 ex13 S13 x13 u13 s13 k13 e13 f13 _ _ => ⟨fun _ => ?_, fun w => by omega⟩)
      have F13 : sg_F [119, 120, 121, 127, 134, 139, 140, 141, 142, 143, 144, 148, 149, 47088, 50088, 85088, 86088, 88088, 92088, 94088, 100088] σ σ13 := sg_F_t (sg_F_m F12 rfl) (sg_F_m f13 rfl)
      have ex013 : fEx σ σ13 := fEx_t ex12 ex13
      obtain ⟨p1, p2, p3, p4, p5⟩ := id I13
      have j62 : sg_g σ13 88 62 = sg_g σ 88 62 := sg_F_g F13 (by rfl)
      have kk1 := k13.1
      have kk2 := k13.2
      have k85 : sg_g σ12 88 85 = sg_g σ 88 85 := sg_F_g F12 (by rfl)
      refine ⟨fun p v σ14 => p = ((i : Int) - v).toNat ∧ (0 ≤ v ∧ v ≤ i) ∧ fEx σ13 σ14 ∧ sg_g σ14 88 87 = sg_g σ13 88 87 + v ∧ (∀ (jj : Nat) (x : Int), (jj : Int) < v → tl[jj]? = some x → fLx σ14 (T x - 1).toNat m1 (sg_g σ 88 85 + (X - sg_g σ 145 m)) (sg_g σ14 134 (210 + 4 * sg_g σ 126 m + jj))) ∧ ∀ u : Int, ¬ (210 ≤ u ∧ u < 1100 ∧ (u - 210) / 4 = sg_g σ 126 m) → sg_g σ14 134 u = sg_g σ13 134 u, fun σ14 => fEx σ13 σ14 ∧ sg_g σ14 88 87 = sg_g σ13 88 87 + i ∧ (∀ (jj : Nat) (x : Int), jj < i → tl[jj]? = some x → fLx σ14 (T x - 1).toNat m1 (sg_g σ 88 85 + (X - sg_g σ 145 m)) (sg_g σ14 134 (210 + 4 * sg_g σ 126 m + jj))) ∧ ∀ u : Int, ¬ (210 ≤ u ∧ u < 1100 ∧ (u - 210) / 4 = sg_g σ 126 m) → sg_g σ14 134 u = sg_g σ13 134 u, ⟨_, rfl, ⟨by omega, by omega⟩, fEx_r _, by omega, fun jj x hj _ => by omega, fun u _ => rfl⟩, ?_, ?_⟩
      · rintro p v σ14 rv f14 ⟨ep, hv, ex14, e87, hg14, ho14⟩
        refine ⟨fun w => ⟨ex14, by omega, fun jj x hj => hg14 jj x (by omega), ho14⟩, fun w => ?_⟩
        have vo : v_ofGen (sg_g σ 126 m) v = 210 + 4 * sg_g σ 126 m + v := rfl
        obtain ⟨x, hx, Tx, kx, fx⟩ := gen v.toNat (by omega)
        rw [show ((v.toNat : Nat) : Int) = v by omega] at fx
        obtain ⟨rx', rx2, Rx, y1, y2, y3, y4, y5, y6, y7, y8⟩ := csT_l (fLx_L fx)
        have fxX : eX (rx2 :: Rx) ≤ sg_g σ 88 85 + (X - sg_g σ 145 m) := by
          obtain ⟨R0, u1, u2, u3, u4⟩ := fx
          have eR : R0 = rx' :: rx2 :: Rx := by
            refine List.ext_getElem? (fun l => ?_)
            rcases Nat.lt_or_ge l R0.length with c | c
            · obtain ⟨p, hp⟩ : ∃ p, R0[l]? = some p := ⟨_, List.getElem?_eq_getElem c⟩
              have l2 : l < (rx' :: rx2 :: Rx).length := by simp only [List.length_cons]; omega
              obtain ⟨p', hp'⟩ : ∃ p, (rx' :: rx2 :: Rx)[l]? = some p := ⟨_, List.getElem?_eq_getElem l2⟩
              have a1 := u1.2.2.2.1 l p hp
              have a2 := y1.2.2.2.1 l p' hp'
              rw [hp, hp']
              congr 1
              exact Prod.ext (a1.1.symm.trans a2.1) (a1.2.symm.trans a2.2)
            · rw [List.getElem?_eq_none c, List.getElem?_eq_none (by simp only [List.length_cons]; omega)]
          rw [eR] at u4
          simp only [eX] at u4 ⊢
          omega
        have csx : csT σ (sg_g σ 128 m + v) (sg_g σ 145 m) = m1 := by
          unfold csT
          rw [csr]
          refine cs_sh (fun t t0 t1 => ?_)
          have := hE v.toNat (by omega) t t0 (by omega)
          rwa [show ((v.toNat : Nat) : Int) = v by omega] at this
        have exx : fEx σ σ14 := fEx_t ex013 ex14
        refine ⟨⟨⟨by omega, by omega⟩, ⟨by omega, by omega⟩, ⟨by omega, by omega⟩, trivial⟩, ⟨by omega, by omega⟩, ⟨by omega, by omega⟩, m_inner ⟨by omega, by omega⟩ (fV_up exx y1) (by simp) (fun w' σ15 ew ex15 fv15 e87' f15 rw' _ => ⟨by rw [vo]; omega, fun σ16 e16 => ⟨⟨by omega, by omega⟩, _, by omega, rfl, ⟨by omega, by omega⟩, ?_, ?_, fun jj x' hj hx' => ?_, fun u hu => ?_⟩⟩)⟩
        all_goals rw [vo] at e16
        all_goals have f16 : sg_F [134] σ15 σ16 := by rw [e16]; exact sg_F_w (sg_F_r _ _) rfl _
        · exact fEx_t ex14 (fEx_t ex15 (fEx_F f16 rfl))
        · rw [sg_F_g f16 (by rfl)]; omega
        · by_cases cj : (jj : Int) = v
          · have ej : jj = v.toNat := by omega
            rw [ej, hx] at hx'
            cases hx'
            rw [cj, e16, sg_gw_e _ _ _ _ rw']
            refine ⟨_, fV_up (by rw [← e16]; exact fEx_F f16 rfl) fv15, ?_, ?_, fxX⟩
            · simp only [List.length_cons]; omega
            · simp only [List.getD_cons_zero]
              rw [y7]; exact csx
          · rw [e16, sg_gw_k _ _ _ _ _ _ (by omega), sg_F_ga f15 rfl]
            exact fLx_up (by rw [← e16]; exact fEx_t ex15 (fEx_F f16 rfl)) (Int.le_refl _) (hg14 jj x' (by omega) hx')
        · rw [e16, sg_gw_k _ _ _ _ _ _ (by omega), sg_F_ga f15 rfl]; exact ho14 u hu
      · rintro σ14 f14 ⟨ex14, e87, hg14, ho14⟩
        refine ⟨pt, ⟨fun _ => ⟨⟨by omega, by omega⟩, trivial⟩, fun _ => ⟨⟨by omega, by omega⟩, trivial⟩⟩, fun v246 e246 r246 σ15 e15 => ⟨pt, fun v255 e255 r255 => ?_⟩⟩
        have f15 : sg_F [127] σ14 σ15 := by rw [e15]; exact sg_F_w (sg_F_r _ _) rfl _
        have F1315 : sg_F [127, 134, 139, 140, 141, 88088] σ13 σ15 := sg_F_t (sg_F_m f14 rfl) (sg_F_m f15 rfl)
        have F15 : sg_F [119, 120, 121, 127, 134, 139, 140, 141, 142, 143, 144, 148, 149, 47088, 50088, 85088, 86088, 88088, 92088, 94088, 100088] σ σ15 := sg_F_t F13 (sg_F_m F1315 rfl)
        have ex1315 : fEx σ13 σ15 := fEx_t ex14 (fEx_F f15 rfl)
        have exs : fEx σ σ15 := fEx_t ex013 ex1315
        have c134 : ∀ u, sg_g σ15 134 u = sg_g σ14 134 u := fun u => sg_F_ga f15 rfl
        have q84 : sg_g σ15 88 84 = sg_g σ13 88 84 := sg_F_g F1315 (by rfl)
        have q85 : sg_g σ15 88 85 = sg_g σ13 88 85 := sg_F_g F1315 (by rfl)
        have q91 : sg_g σ15 88 91 = sg_g σ13 88 91 := sg_F_g F1315 (by rfl)
        have q87 : sg_g σ15 88 87 = sg_g σ13 88 87 + i := by rw [sg_F_g f15 (by rfl)]; exact e87
        have q99 : sg_g σ15 88 99 = sg_g σ13 88 99 := sg_F_g F1315 (by rfl)
        have q62 : sg_g σ15 88 62 = sg_g σ 88 62 := sg_F_g F15 (by rfl)
        have q70 : sg_g σ15 88 70 = sg_g σ 88 70 := sg_F_g F15 (by rfl)
        have N15 : fNw σ15 := ⟨⟨⟨by omega, by omega⟩, ⟨by omega, by omega⟩, ⟨by omega, by omega⟩, ⟨by omega, by omega, by omega⟩, by omega, by omega⟩, fun i x y => by rw [sg_F_ga F1315 rfl]; exact B13 i x (by omega), by omega, by omega, by omega⟩
        have unw : ∀ s' u, s' ≤ sg_g σ 88 99 → ¬ ow lev j L u → und σ15 s' u = und σ s' u := fun s' u hs hu => by
          have a1 : und σ15 s' u = und σ13 s' u := und_w (b0 := 0) F1315 rfl (by
            rw [c134]
            exact ho14 u (fun w => hu (Or.inl (Or.inr ⟨w.1, w.2.1, by rw [w.2.2]; exact nL⟩))))
          rw [a1, u13 s' u (by omega)]
          exact und_F F12 rfl s' u
        have sub : ∀ (fz' : Nat) (Lz' : List Int) (z' : Int), stN A D T B lev j fz' Lz' (gsc (sg_g σ 126 m) T 0 (tl.take i) ++ sc) z' → (∀ y ∈ Lz', y ∈ M) → stN A D T B lev j fz' Lz' (gsc (sg_g σ 126 m) T 0 (tl.take i) ++ sc.filter (fun p => decide (p.1 ∈ O))) z' := fun fz' Lz' z' hz' hs' => stN_res hz' (fun y hy ky p hp e => List.mem_filter.mpr ⟨hp, decide_eq_true (out2 y (hs' y hy) ky p hp e)⟩) (fun p hp => (List.mem_filter.mp hp).1)
        have scp : ∀ p ∈ gsc (sg_g σ 126 m) T 0 (tl.take i) ++ sc.filter (fun p => decide (p.1 ∈ O)), fLx σ15 p.2.toNat m1 (sg_g σ15 88 85 + (X - sg_g σ 145 m)) (sg_g σ15 134 p.1) := fun p hp => by
          rcases List.mem_append.mp hp with u | u
          · obtain ⟨i', w, hw, ep⟩ := gsc_m _ _ _ u
            have hi' := lt_of_get hw
            rw [tk] at hi'
            rw [List.getElem?_take_of_lt hi'] at hw
            have e1 : p.1 = 210 + 4 * sg_g σ 126 m + i' := by rw [ep]; simp only; omega
            have e2 : p.2 = T w - 1 := by rw [ep]
            rw [e1, e2, c134]
            exact fLx_up (fEx_F f15 rfl) (by omega) (hg14 i' w hi' hw)
          · obtain ⟨b1, b2⟩ := List.mem_filter.mp u
            have : sg_g σ15 134 p.1 = sg_g σ13 134 p.1 := by
              rw [c134]
              exact ho14 p.1 (fun w => scn p b1 (Or.inr ⟨w.1, w.2.1, by rw [w.2.2]; exact nL⟩))
            rw [this]
            exact fLx_up ex1315 (by omega) (S13 p b1 (of_decide_eq_true b2))
        have cs15 : csT σ15 (sg_g σ 128 m) (sg_g σ 145 m) = m1 := by
          rw [hm1]
          unfold csT
          rw [sg_F_ga (a := 133) F15 rfl]
          exact (fL_row v0 exs).2
        have hfk : fK A D T B lev σ15 (sg_g σ 126 m) v246 (sg_g σ 128 m) (sg_g σ 145 m) X (sg_g σ 146 m) (sg_g σ15 88 99) (sg_g σ15 147 m) j L sc (ow lev j Lz) ((tl.take i).map (fun x => (T x, sg_g σ 145 m, X)) ++ [(T z, m1, X - sg_g σ 145 m)]) ∧ v255 = z := by
          rw [fK_15 k15, ← hG]
          rcases M5 with ⟨c, eM, ed, e97⟩ | ⟨c, eM, ez, eLz⟩
          · rw [if_pos c, if_neg (by decide)] at e246 e255
            refine ⟨⟨bd, tl, ea, Or.inr (Or.inl ⟨z, e246, ed, by rw [cs15], fb, Lb, _, sub fb Lb bd hb1 M2, hb2, fun p hp => ⟨?_, ?_⟩⟩)⟩, e255.trans e97⟩
            · refine (z1.2.2.2.2 p ?_).2
              rcases List.mem_append.mp hp with u | u
              · exact List.mem_append_left _ u
              · exact List.mem_append_right _ (List.mem_filter.mp u).1
            · rw [cs15, und_top]; exact scp p hp
          · have np : ¬ tl.length = 1 + i := by omega
            rw [if_neg np, if_pos rfl] at e246 e255
            refine ⟨⟨bd, tl, ea, Or.inr (Or.inr ⟨m1, e246, by rw [ez], Or.inr ⟨c, cs15.symm⟩⟩)⟩, by rw [ez]; exact e255⟩
        obtain ⟨hfk, e255'⟩ := hfk
        rw [e255']
        refine ev_next (σ := σ) (m := m) (X' := X - sg_g σ 145 m) (tys' := (tl.take i).map (fun x => (T x, sg_g σ 145 m, X))) (st' := v246) F15 rfl exs N15 e0 fm (fun i' hi' => ?_) (fun i' _ => sg_F_ga F15 rfl) (by rw [e15, sg_gw_e _ _ _ _ r246]) h1 (by simp only [List.length_map]; omega) (fun x _ _ => sg_F_ga F15 rfl) (vW_up exs (by omega) (fun x _ _ => sg_F_ga F15 rfl) h3) h4 h5 ⟨h6.1, by omega⟩ h8 (fun s' u hs hu => unw s' u (by omega) hu) (sub fz Lz z z1 M1) (fun u hu => ow_s z2 hu) (fun p hp => ⟨fun w => w, ?_⟩) ⟨m1b.1, m1b.2, by omega⟩ hA hfk (by omega) (by omega) (fun σ' hq _ => k σ' hq)
        · rw [e15, sg_gw_k _ _ _ _ _ _ (by omega), sg_F_ga f14 rfl, sg_F_ga f13 rfl, sg_F_ga f12 rfl, sg_F_ga f11 rfl, sg_F_ga f10 rfl, sg_F_ga f9 rfl, sg_F_ga f8 rfl, sg_F_ga f7 rfl, e4, sg_gw_k _ _ _ _ _ _ (by omega)]
        · rw [und_top]; exact scp p hp
end GG
