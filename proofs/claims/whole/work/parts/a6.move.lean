/-! ===== move, train ===== -/
def RemP (D I I' : PF) : Prop := I' 136 4 = (I 136 4 + 1) % 20 ∧ I' 136 5 = min 20 (I 136 5 + 1) ∧ I' 142 (I 136 4) = I 136 1 ∧ StC D I (143 + 8 * I 136 4) I' ∧ FR (reC (I 136 4)) I I'
def KepP (I I' : PF) : Prop := I' 306 77 = (I 306 77 + 1) % 20 ∧ I' 306 76 = min 20 (I 306 76 + 1) ∧ (∀ y, 0 ≤ y → y < 154 → I' 354 (154 * ((I 306 77 + 1) % 20) + y) = I 348 y) ∧ FR (keM ((I 306 77 + 1) % 20)) I I'
def cA (p o x y : Int) : Prop := scC p o x y ∨ (111 ≤ x ∧ x ≤ 118) ∨ (138 ≤ x ∧ x ≤ 140) ∨ (x = 136 ∧ y = 1) ∨ (x = 303 ∧ y = 0)
def cB (x y : Int) : Prop := scM x y ∨ x = 348 ∨ (x = 306 ∧ y = 78)
theorem Sim.two {I Ia I1 Ib J R R' D : PF} {p o : Int} (h : Sim I R) (hp : Plc R p o) (hT : Tld D p I) (r : RemP D I Ia) (fa : FR (cA p o) Ia I1) (k : KepP I1 Ib) (fb : FR cB Ib J) (fR : FR scR R R') (h5 : bd (I1 131 5)) (hsd : J 303 0 = J 306 78 ∧ sdR (J 306 78)) (hS : StC D J 111 J) (hK : KG D J) (hPa : PaL J (J 136 1) J) (j1 : I 136 1 ≤ J 136 1) (jw : ∀ w j, 0 ≤ w → w < 3 → j < I 136 1 → J (138 + w) j = I (138 + w) j) : Sim J R' := by
  have hpp := hp.2.2
  obtain ⟨r1, r2, r3, r4, r5⟩ := r
  obtain ⟨k1, k2, k3, k4⟩ := k
  obtain ⟨-, -, -, -, -, -, s7, s8, s9⟩ := h.2.2.2.1
  obtain ⟨t1, t2, t3, t4, t5, t6, t7, t8, -⟩ := id hT
  have hn := t1.2.1
  have e1 : ∀ x y, ¬ cA p o x y → I1 x y = Ia x y := fa
  have e0 : ∀ x y, ¬ reC (I 136 4) x y → Ia x y = I x y := r5
  have m20 := mod20 (I 136 4 + 1)
  have m77 := mod20 (I 306 77 + 1)
  have i77 : I1 306 77 = I 306 77 := (e1 _ _ (fun c => by unfold cA scC at c; omega)).trans (e0 _ _ (fun c => by unfold reC stC at c; omega))
  have i76 : I1 306 76 = I 306 76 := (e1 _ _ (fun c => by unfold cA scC at c; omega)).trans (e0 _ _ (fun c => by unfold reC stC at c; omega))
  have i8 : ∀ y, I1 348 y = I 348 y := fun y => (e1 _ _ (fun c => by unfold cA scC at c; omega)).trans (e0 _ _ (fun c => by unfold reC stC at c; omega))
  rw [i77] at k1 k3 k4
  rw [i76] at k2
  have e2 : ∀ x y, ¬ keM ((I 306 77 + 1) % 20) x y → Ib x y = I1 x y := k4
  have e3 : ∀ x y, ¬ cB x y → J x y = Ib x y := fb
  have f : FR (acA p o) I J := (((r5.mono (fun x y c => by unfold reC stC at c; unfold acA; omega)).tr (fa.mono (fun x y c => by
    unfold cA at c; unfold acA
    rcases c with c | c | c | c | c
    · exact Or.inl c
    · exact Or.inr (Or.inr (Or.inr (Or.inl c)))
    · exact Or.inr (Or.inr (Or.inr (Or.inr (Or.inl ⟨by omega, by omega⟩))))
    · exact Or.inr (Or.inr (Or.inr (Or.inr (Or.inl ⟨by omega, by omega⟩))))
    · exact Or.inr (Or.inr (Or.inr (Or.inr (Or.inr (Or.inr (Or.inr c)))))) ))).tr (k4.mono (fun x y c => by unfold keM at c; unfold acA; omega))).tr (fb.mono (fun x y c => by
    unfold cB at c; unfold acA
    rcases c with c | c | c
    · exact Or.inr (Or.inl c)
    · exact Or.inr (Or.inr (Or.inl c))
    · exact Or.inr (Or.inr (Or.inr (Or.inr (Or.inr (Or.inr (Or.inl ⟨c.1, Or.inr (Or.inr c.2)⟩)))))) ))
  -- cells of the class's past
  have lo : ∀ x y, (142 ≤ x ∧ x ≤ 302) ∨ (x = 136 ∧ (y = 4 ∨ y = 5)) → J x y = Ia x y := fun x y c =>
    ((e3 x y (fun d => by unfold cB scM at d; omega)).trans (e2 x y (fun d => by unfold keM at d; omega))).trans (e1 x y (fun d => by unfold cA scC at d; omega))
  have j4 : J 136 4 = (I 136 4 + 1) % 20 := (lo _ _ (Or.inr ⟨rfl, Or.inl rfl⟩)).trans r1
  have j77 : J 306 77 = (I 306 77 + 1) % 20 := (e3 _ _ (fun d => by unfold cB scM at d; omega)).trans k1
  have hR : Rng D J := Rng.push (I := I) ⟨t8.2.1, t8.2.2.1, t8.2.2.2.1, t8.2.2.2.2.1, t8.2.2.2.2.2⟩ ⟨by omega, by omega⟩ j4 ((lo _ _ (Or.inr ⟨rfl, Or.inr rfl⟩)).trans r2) ((lo _ _ (Or.inl ⟨by decide, by decide⟩)).trans r3)
    (fun j c => (lo _ _ (Or.inl ⟨by decide, by decide⟩)).trans (e0 _ _ (fun d => by unfold reC stC at d; omega)))
    (r4.fr ⟨by omega, by omega⟩ (fun x y c => lo x y (by unfold stC at c; omega)))
    (fun x y x0 x1 c => (lo x y (by omega)).trans (e0 _ _ (fun d => by
      unfold reC at d
      rcases d with d | d | d
      · exact c d
      · omega
      · omega)))
    j77 ((e3 _ _ (fun d => by unfold cB scM at d; omega)).trans k2)
    (fun y y0 y1 => ((e3 _ _ (fun d => by unfold cB scM at d; omega)).trans (k3 y y0 y1)).trans (i8 y))
    (fun y c => ((e3 _ _ (fun d => by unfold cB scM at d; omega)).trans (e2 _ _ (fun d => by unfold keM at d; omega))).trans ((e1 _ _ (fun d => by unfold cA scC at d; omega)).trans (e0 _ _ (fun d => by unfold reC stC at d; omega))))
    (fun y hy => ((e3 _ _ (fun d => by unfold cB scM at d; omega)).trans (e2 _ _ (fun d => by unfold keM at d; omega))).trans ((e1 _ _ (fun d => by unfold cA scC at d; omega)).trans (e0 _ _ (fun d => by unfold reC stC at d; omega))))
    j1 jw t8.1 t6 s7 ⟨s8, s9⟩
  have h5' : bd (J 131 5) := by
    rw [e3 131 5 (fun d => by unfold cB scM at d; omega), e2 131 5 (fun d => by unfold keM at d; omega)]; exact h5
  exact h.act hp hT f fR h5' hsd (by rw [j4]; exact m20) (by rw [j77]; exact m77) hS hK ⟨hPa, hR⟩
theorem PaL.c2 {K K' : PF} {len : Int} {I I' : PF} (h : PaL K len I) (h8 : ∀ y, y = 0 ∨ (33 ≤ y ∧ y < 154) → K' 348 y = K 348 y) (hI : ∀ w j, 0 ≤ w → w < 3 → j < len → I' (138 + w) j = I (138 + w) j) : PaL K' len I' := by
  obtain ⟨a1, a2, a3, a4⟩ := h
  refine ⟨a1, by rw [h8 _ (by decide)]; exact a2, by rw [h8 _ (by decide)]; exact a3, fun k w k0 k1 w0 w1 => ?_⟩
  rw [h8 _ (by omega), hI _ _ w0 w1 (by omega)]
  exact a4 k w k0 k1 w0 w1
/-- the state of one person is new -/
theorem StC.one {D I J : PF} {q : Int} (h : StC D I 111 I) (h0 : ∀ y, 0 ≤ y → y ≤ 3 → J 111 y = I 111 y) (k0 : ∀ y, y < 3 → J 348 y = I 348 y) (h1 : ∀ r y, 0 ≤ r → r < D 339 1 → r ≠ q → 0 ≤ y → y < 8 → J (113 + r) y = I (113 + r) y) (k1 : ∀ r y, 0 ≤ r → r < D 339 1 → r ≠ q → 0 ≤ y → y < 5 → J 348 (3 + 5 * r + y) = I 348 (3 + 5 * r + y)) (k2 : ∀ y, 24 ≤ y → J 342 y = I 342 y)
    (hq : J (113 + q) 0 = J 348 (3 + 5 * q) ∧ J (113 + q) 1 = J 348 (3 + 5 * q + 1) ∧ J (113 + q) 2 = J 342 (24 + 4 * q) ∧ J (113 + q) 3 = J 342 (25 + 4 * q) ∧ J (113 + q) 4 = J 342 (26 + 4 * q) ∧ J (113 + q) 5 = J 348 (3 + 5 * q + 2) ∧ J (113 + q) 6 = J 348 (3 + 5 * q + 3) ∧ J (113 + q) 7 = J 348 (3 + 5 * q + 4)) : StC D J 111 J := by
  obtain ⟨⟨a1, a2, a3, a4⟩, a5⟩ := h
  refine ⟨⟨?_, ?_, ?_, ?_⟩, fun r r0 r1 => ?_⟩
  · rw [h0 _ (by decide) (by decide), k0 _ (by decide)]; exact a1
  · rw [h0 _ (by decide) (by decide), k0 _ (by decide)]; exact a2
  · rw [h0 _ (by decide) (by decide), k0 _ (by decide)]; exact a3
  · rw [h0 _ (by decide) (by decide)]; exact a4
  · rw [show (111 : Int) + 2 + r = 113 + r by omega]
    by_cases c : r = q
    · rw [c]; exact hq
    · have := a5 r r0 r1
      rw [show (111 : Int) + 2 + r = 113 + r by omega] at this
      have z := k1 r 0 r0 r1 c (by decide) (by decide)
      rw [Int.add_zero] at z
      rw [h1 r 0 r0 r1 c (by decide) (by decide), h1 r 1 r0 r1 c (by decide) (by decide), h1 r 2 r0 r1 c (by decide) (by decide), h1 r 3 r0 r1 c (by decide) (by decide), h1 r 4 r0 r1 c (by decide) (by decide), h1 r 5 r0 r1 c (by decide) (by decide), h1 r 6 r0 r1 c (by decide) (by decide), h1 r 7 r0 r1 c (by decide) (by decide), z, k1 r 1 r0 r1 c (by decide) (by decide), k1 r 2 r0 r1 c (by decide) (by decide), k1 r 3 r0 r1 c (by decide) (by decide), k1 r 4 r0 r1 c (by decide) (by decide), k2 _ (by omega), k2 _ (by omega), k2 _ (by omega)]
      exact this
theorem KG.ex {D I J : PF} (h : KG D I) (h2 : J 342 = I 342) (h8 : J 348 = I 348) (hG : GD D) : KG D J := by
  have hD := hG.2.1
  exact h.cg ⟨by omega, by omega⟩ (fun y _ _ => by rw [h8]) (fun y _ => by rw [h2])
noncomputable def mvO (D K : PF) (q x y : Int) : Prop := (0 ≤ q ∧ q < D 339 1) ∧ inQ D (x, y) ∧ ¬ wlT D x y ∧ whoK K (D 339 1) x y = -1
theorem whoK_r (K : PF) {n : Int} (hn : 0 ≤ n ∧ n ≤ 6) (x y : Int) : -1 ≤ whoK K n x y ∧ whoK K n x y < 6 := by
  unfold whoK
  rcases fI_fst (fun p => K 348 (3 + 5 * p) = x ∧ K 348 (3 + 5 * p + 1) = y) n with ⟨a1, -⟩ | ⟨a1, a2, -⟩ <;> omega
theorem plaV_no {D K : PF} {x y : Int} (hG : GD D) (hin : inQ D (x, y)) : plaV D K x y = -1 ↔ ¬ wlT D x y ∧ whoK K (D 339 1) x y = -1 := by
  unfold plaV
  rw [cif_t hin]
  by_cases c : wlT D x y
  · rw [cif_t c]; exact ⟨fun k => absurd k (by decide), fun k => absurd c k.1⟩
  · rw [cif_f c]; exact ⟨fun k => ⟨c, k⟩, fun k => k.2⟩
theorem plaV_r {D K : PF} {x y : Int} (hG : GD D) : inR (plaV D K x y) := by
  have hD := hG.2.1
  have w := whoK_r K (n := D 339 1) ⟨by omega, by omega⟩ x y
  unfold plaV inR
  by_cases c : inQ D (x, y)
  · rw [cif_t c]
    by_cases c2 : wlT D x y
    · rw [cif_t c2]; omega
    · rw [cif_f c2]; omega
  · rw [cif_f c]; omega
theorem c_xmove {X : CX} {I R D : PF} {p o q x y : Int} (h : Sim I R) (hp : Plc R p o) (hT : Tld D p I) (hq : inR q) (hx : inR x) (hy : inR y) :
    CN X 3 mX10_move [(2, 64), (0, q), (0, x), (0, y)] I R (fun v I' R' => (mvO D I q x y → v.2 = 1 ∧ ∃ Ia, RemP D I Ia ∧ I' = u2 (u2 Ia (111 + 2 + q) 0 x) (111 + 2 + q) 1 y) ∧ (¬ mvO D I q x y → v.2 = 0 ∧ I' = u2 I 66 2 (I 66 2 + 1)) ∧ R' = R) := by
  have hs := h.1
  have sm := h.2.2.2.1
  have kp := (plc_k hp).1
  refine callee_b (by decide +kernel) (Nat.le_of_ble_eq_true rfl) rfl ?_
  obtain ⟨hG, hW, hQ, hL, hST, hK, hS, hP, -⟩ := id hT
  have hD := hG.2.1
  have e3 : I 111 3 = D 339 1 := hS.1.2.2.2
  have no : ¬ mvO D I q x y → PN X 3 mX10_move 33 [(2, 64)] [] I R (fun v I' R' => (mvO D I q x y → v.2 = 1 ∧ ∃ Ia, RemP D I Ia ∧ I' = u2 (u2 Ia (111 + 2 + q) 0 x) (111 + 2 + q) 1 y) ∧ (¬ mvO D I q x y → v.2 = 0 ∧ I' = u2 I 66 2 (I 66 2 + 1)) ∧ R' = R) := fun c => S_X10_move_33 hs ⟨fun k => absurd k c, fun _ => ⟨rfl, rfl⟩, rfl⟩
  refine S_X10_move_0 (d1 := 0) hs (by omega) (c_knows kM111 hq (by unfold inR; omega)) (fun z I1 R1 r => ?_)
  obtain ⟨(hz : z = _), rfl, rfl⟩ := r
  have b := bi_r (0 ≤ q ∧ q < I1 111 3)
  refine S_X10_move_8 (by omega) (fun g => no (fun c => bi_0 (hz.symm.trans g) (by rw [e3]; exact c.1))) (fun g => ?_)
  have c1 := bi_1 (c := 0 ≤ q ∧ q < I1 111 3) (by rw [← hz]; exact g)
  rw [e3] at c1
  refine S_X10_move_11 (d1 := 2) (by omega) (c_xplace hs hp hQ hS hG hK hx hy) (fun z2 I2 R2 r => ?_)
  obtain ⟨(hz2 : z2 = _), rfl, rfl⟩ := r
  have pr : inR (plaV D I2 x y) := plaV_r hG
  rw [hz2]
  refine S_X10_move_17 pr (fun g2 => no (fun c => g2 ((plaV_no hG c.2.1).mpr c.2.2))) (fun g2 => ?_)
  refine S_X10_move_21 (d1 := 0) hp.1 (by omega) (c_within' kp hG hQ hx hy) kp (fun z3 I3 R3 r => ?_)
  obtain ⟨(hz3 : z3 = _), rfl, rfl⟩ := r
  have b3 := bi_r (inQ D (x, y))
  refine S_X10_move_30 (by omega) (fun g3 => ?_) (fun g3 => no (fun c => bi_0 (hz3.symm.trans g3) c.2.1))
  have c3 := bi_1 (c := inQ D (x, y)) (by rw [← hz3]; exact g3)
  have ok : mvO D I3 q x y := ⟨c1, c3, (plaV_no hG c3).mp g2⟩
  have h5 := hP.2.1
  have h51 := hP.2.2.1
  have h52 := hP.2.2.2.1
  refine S_X10_move_45 (d1 := 2) hs (by omega) (c_remember hs hG hS sm.2.2.2.2.2.2.1 (by omega)) (fun z4 Ia R4 r => ?_)
  obtain ⟨r1, r2, r3, r4, r5, rfl⟩ := r
  exact S_X10_move_56 (d1 := 0) hs (by omega) (callee_b (by decide +kernel) (Nat.le_of_ble_eq_true rfl) rfl (S_X8_put_0 hs kM111 ⟨c1.1, by omega⟩ (Q := fun _ I' R' => I' = u2 (u2 Ia (111 + 2 + q) 0 x) (111 + 2 + q) 1 y ∧ R' = R4) ⟨rfl, rfl⟩)) (fun z5 I5 R5 r => by
    obtain ⟨rfl, rfl⟩ := r
    exact S_X10_move_66 ⟨fun _ => ⟨rfl, Ia, ⟨r1, r2, r3, r4, r5⟩, rfl⟩, fun c => absurd ok c, rfl⟩)
theorem c_mmove {X : CX} {I J R D : PF} {q x y : Int} (hs : Shp R) (hT : ST D J) (h2 : J 342 = I 342) (h8 : J 348 = I 348) (hG : GD D) (hK : KG D I) (h77 : 0 ≤ J 306 77 ∧ J 306 77 < 20) (h76 : 0 ≤ J 306 76 ∧ J 306 76 ≤ 20) (hq : inR q) (hx : inR x) (hy : inR y) :
    CN X 3 mX11_move [(2, 306), (0, q), (0, x), (0, y)] J R (fun v I' R' => (mvO D I q x y → v.2 = 1 ∧ ∃ Ib, KepP J Ib ∧ I' = u2 (u2 Ib 348 (3 + 5 * q) x) 348 (3 + 5 * q + 1) y) ∧ (¬ mvO D I q x y → v.2 = 0 ∧ I' = u2 J 308 2 (J 308 2 + 1)) ∧ R' = R) := by
  refine callee_b (by decide +kernel) (Nat.le_of_ble_eq_true rfl) rfl ?_
  have hD := hG.2.1
  have e4 : J 339 4 = D 339 1 := hT.sq.2.2.2.1
  have hKJ : KG D J := hK.ex h2 h8 hG
  have no : ¬ mvO D I q x y → PN X 3 mX11_move 36 [(2, 306)] [] J R (fun v I' R' => (mvO D I q x y → v.2 = 1 ∧ ∃ Ib, KepP J Ib ∧ I' = u2 (u2 Ib 348 (3 + 5 * q) x) 348 (3 + 5 * q + 1) y) ∧ (¬ mvO D I q x y → v.2 = 0 ∧ I' = u2 J 308 2 (J 308 2 + 1)) ∧ R' = R) := fun c => S_X11_move_36 hs ⟨fun k => absurd k c, fun _ => ⟨rfl, rfl⟩, rfl⟩
  refine S_X11_move_0 (d1 := 2) (by omega) (c_isPerson hs hq (by omega)) (fun z I1 R1 r => ?_)
  obtain ⟨(hz : z = _), rfl, rfl⟩ := r
  have b := bi_r (0 ≤ q ∧ q < I1 339 4)
  refine S_X11_move_5 (by omega) (fun g => no (fun c => bi_0 (hz.symm.trans g) (by rw [e4]; exact c.1))) (fun g => ?_)
  have c1 := bi_1 (c := 0 ≤ q ∧ q < I1 339 4) (by rw [← hz]; exact g)
  rw [e4] at c1
  refine S_X11_move_8 (d1 := 2) (by omega) (c_isInside hs hT.sq hG hx hy) (fun z2 I2 R2 r => ?_)
  obtain ⟨(hz2 : z2 = _), rfl, rfl⟩ := r
  have b := bi_r (inQ D (x, y))
  refine S_X11_move_14 (by omega) (fun g => no (fun c => bi_0 (hz2.symm.trans g) c.2.1)) (fun g => ?_)
  have c2 := bi_1 (c := inQ D (x, y)) (by rw [← hz2]; exact g)
  refine S_X11_move_17 (d1 := 0) (by omega) (c_isWall hs hT.sq hG hx hy) (fun z3 I3 R3 r => ?_)
  obtain ⟨(hz3 : z3 = _), rfl, rfl⟩ := r
  have b := bi_r (wlT D x y)
  refine S_X11_move_23 (by omega) (fun g => no (fun c => c.2.2.1 (bi_1 (c := wlT D x y) (by rw [← hz3]; exact g)))) (fun g => ?_)
  have c3 := bi_0 (c := wlT D x y) (hz3.symm.trans g)
  refine S_X11_move_26 (d1 := 1) (by omega) (c_standsAtM hs hx hy (by omega) (by rw [e4]; exact hKJ.pr hG)) (fun z4 I4 R4 r => ?_)
  obtain ⟨(hz4 : z4 = _), rfl, rfl⟩ := r
  have hz' : z4 = whoK I (D 339 1) x y := by rw [hz4, e4]; unfold whoK; rw [h8]
  have wr := whoK_r I (n := D 339 1) ⟨by omega, by omega⟩ x y
  refine S_X11_move_32 (by omega) (fun g => ?_) (fun g => no (fun c => g (hz'.trans c.2.2.2)))
  have ok : mvO D I q x y := ⟨c1, c2, c3, hz'.symm.trans g⟩
  refine S_X11_move_48 (d1 := 0) (by omega) (c_keeps hs h77 h76) (fun z5 Ib R5 r => ?_)
  obtain ⟨k1, k2, k3, k4, rfl⟩ := r
  exact S_X11_move_52 hs (by omega) (by omega) ⟨fun _ => ⟨rfl, Ib, ⟨k1, k2, k3, k4⟩, rfl⟩, fun c => absurd ok c, rfl⟩
theorem c_xmove0 {X : CX} {I R : PF} {q x y : Int} (hs : Shp R) (hq : inR q) (h3 : inR (I 111 3)) (hc : ¬ (0 ≤ q ∧ q < I 111 3)) : CN X 3 mX10_move [(2, 64), (0, q), (0, x), (0, y)] I R (fun v I' R' => v.2 = 0 ∧ I' = u2 I 66 2 (I 66 2 + 1) ∧ R' = R) := by
  refine callee_b (by decide +kernel) (Nat.le_of_ble_eq_true rfl) rfl ?_
  refine S_X10_move_0 (d1 := 0) hs (by omega) (c_knows kM111 hq h3) (fun z I1 R1 r => ?_)
  obtain ⟨(hz : z = _), rfl, rfl⟩ := r
  rw [bi_f hc] at hz
  exact S_X10_move_8 (by omega) (fun _ => S_X10_move_33 hs ⟨rfl, rfl, rfl⟩) (fun g => absurd hz g)
theorem c_mmove0 {X : CX} {I R : PF} {q x y : Int} (hs : Shp R) (hq : inR q) (hn : 0 ≤ I 339 4 ∧ I 339 4 ≤ 6) (hc : ¬ (0 ≤ q ∧ q < I 339 4)) : CN X 3 mX11_move [(2, 306), (0, q), (0, x), (0, y)] I R (fun v I' R' => v.2 = 0 ∧ I' = u2 I 308 2 (I 308 2 + 1) ∧ R' = R) := by
  refine callee_b (by decide +kernel) (Nat.le_of_ble_eq_true rfl) rfl ?_
  refine S_X11_move_0 (d1 := 2) (by omega) (c_isPerson hs hq hn) (fun z I1 R1 r => ?_)
  obtain ⟨(hz : z = _), rfl, rfl⟩ := r
  rw [bi_f hc] at hz
  exact S_X11_move_5 (by omega) (fun _ => S_X11_move_36 hs ⟨rfl, rfl, rfl⟩) (fun g => absurd hz g)
theorem b_move {X : CX} {I R : PF} {q x y : Int} (h : Sim I R) (hq : inR q) (hx : inR x) (hy : inR y) : Both X 3 3 mX10_move mX11_move [(0, q), (0, x), (0, y)] I R := by
  obtain ⟨hs, -, -, hm, p, o, hp, hT⟩ := id h
  have hv := h.vw hp
  have b4 := hv.2.1.2.2.2
  have rr := hv.2.2.2.2.2.2.1
  rcases hT with hT | ⟨D, hT⟩
  · have n0 := hT.2.2.2.1.2.1
    exact Both.rfs h (u := 0) (k := 2) (c_xmove0 hs hq (by unfold inR; omega) (by omega)) (fun J e => c_mmove0 hs hq (by rw [e _ _ (by decide)]; omega) (by rw [e _ _ (by decide)]; omega))
  obtain ⟨hG, hW, hQ, hL, hST, hK, hS, hP, hE⟩ := id hT
  have hD := hG.2.1
  have h76 := hP.2.2.1
  have h762 := hP.2.2.2.1
  have h77 : 0 ≤ I 306 77 ∧ I 306 77 < 20 := ⟨hm.2.2.2.2.2.2.2.1, hm.2.2.2.2.2.2.2.2⟩
  by_cases ok : mvO D I q x y
  · refine Callee.mono (c_xmove h hp hT hq hx hy) (fun v I1 R1 r => ?_)
    obtain ⟨r1, -, rfl⟩ := r
    obtain ⟨v1, Ia, ra, e1⟩ := r1 ok
    have fa : FR (fun a b => a = 113 + q ∧ (b = 0 ∨ b = 1)) Ia I1 := by
      rw [e1]
      exact (FR_u2 ⟨by omega, Or.inl rfl⟩).tr (FR_u2 ⟨by omega, Or.inr rfl⟩)
    have f1 : FR (fun a b => reC (I 136 4) a b ∨ (a = 113 + q ∧ (b = 0 ∨ b = 1))) I I1 := (ra.2.2.2.2.mono (fun x y c => Or.inl c)).tr (fa.mono (fun x y c => Or.inr c))
    have c4 := hm.2.2.2.2.2.2.1
    have q0 := ok.1
    have n : ∀ a b, (303 ≤ a ∨ a ≤ 112) → I1 a b = I a b := fun a b c => f1 a b (fun d => by unfold reC stC at d; omega)
    refine Callee.mono (c_mmove (I := I) hs (hST.cg hG (fun y c => n _ _ (by decide)) (fun y c => n _ _ (by decide)) (fun y c => n _ _ (by decide)) (fun y c => n _ _ (by decide)) (fun y c => n _ _ (by decide)) (fun y c => n _ _ (by decide)) (fun x y c c2 => n _ _ (by omega)) (fun y c => n _ _ (by decide))) (funext fun y => n _ _ (by decide)) (funext fun y => n _ _ (by decide)) hG hK (by rw [n _ _ (by decide)]; exact h77) (by rw [n _ _ (by decide)]; exact ⟨h76, h762⟩) hq hx hy) (fun v' J R2 r => ?_)
    obtain ⟨r2, -, rfl⟩ := r
    obtain ⟨v2, Ib, kb, e2⟩ := r2 ok
    refine ⟨v2.trans v1.symm, ?_⟩
    have fb : FR (fun a b => a = 348 ∧ (b = 3 + 5 * q ∨ b = 3 + 5 * q + 1)) Ib J := by
      rw [e2]
      exact (FR_u2 ⟨rfl, Or.inl rfl⟩).tr (FR_u2 ⟨rfl, Or.inr rfl⟩)
    have fk : FR (fun a b => (a = 306 ∧ (b = 76 ∨ b = 77)) ∨ a = 354) I1 Ib := kb.2.2.2.mono (fun x y c => by unfold keM at c; omega)
    have g : ∀ a b, ¬ (reC (I 136 4) a b ∨ (a = 113 + q ∧ (b = 0 ∨ b = 1)) ∨ (a = 306 ∧ (b = 76 ∨ b = 77)) ∨ a = 354 ∨ (a = 348 ∧ (b = 3 + 5 * q ∨ b = 3 + 5 * q + 1))) → J a b = I a b := fun a b c =>
      ((fb a b (fun d => c (Or.inr (Or.inr (Or.inr (Or.inr d)))))).trans (fk a b (fun d => c (by rcases d with d | d; exact Or.inr (Or.inr (Or.inl d)); exact Or.inr (Or.inr (Or.inr (Or.inl d))))))).trans (f1 a b (fun d => c (by rcases d with d | d; exact Or.inl d; exact Or.inr (Or.inl d))))
    have j8 : ∀ b, b ≠ 3 + 5 * q → b ≠ 3 + 5 * q + 1 → J 348 b = I 348 b := fun b c1 c2 => g _ _ (fun d => by unfold reC stC at d; omega)
    have j8x : J 348 (3 + 5 * q) = x := by rw [e2, u2_j (by omega), u2_at]
    have j8y : J 348 (3 + 5 * q + 1) = y := by rw [e2, u2_at]
    have jx : J (113 + q) 0 = x := by
      rw [fb _ _ (by omega), fk _ _ (by omega), e1, u2_j (by decide), show (111 : Int) + 2 + q = 113 + q by omega, u2_at]
    have jy : J (113 + q) 1 = y := by
      rw [fb _ _ (by omega), fk _ _ (by omega), e1, show (111 : Int) + 2 + q = 113 + q by omega, u2_at]
    have j111 : ∀ a b, 111 ≤ a → a ≤ 118 → ¬ (a = 113 + q ∧ (b = 0 ∨ b = 1)) → J a b = I a b := fun a b a0 a1 c => g a b (fun d => by unfold reC stC at d; omega)
    have j342 : ∀ b, J 342 b = I 342 b := fun b => g _ _ (fun d => by unfold reC stC at d; omega)
    have jK : KG D J := (hK.pt hG ok.1 ⟨ok.2.1, ok.2.2.1, Or.inl ok.2.2.2⟩).cg ⟨by omega, by omega⟩ (fun b b0 b1 => by
      by_cases c : b = 3 + 5 * q
      · rw [c, j8x, ptK_x]
      · by_cases c2 : b = 3 + 5 * q + 1
        · rw [c2, j8y, ptK_y]
        · rw [j8 b c c2, ptK_o c c2]) (fun b hb => by rw [ptK_2]; exact j342 b)
    have hq8 := hS.2 q q0.1 q0.2
    rw [show (111 : Int) + 2 + q = 113 + q by omega] at hq8
    have h136 : J 136 1 = I 136 1 := g _ _ (fun d => by unfold reC stC at d; omega)
    have j138 : ∀ w j, 0 ≤ w → w < 3 → J (138 + w) j = I (138 + w) j := fun w j w0 w1 => g _ _ (fun d => by unfold reC stC at d; omega)
    refine h.two hp hT ra (fa.mono (fun a b c => Or.inr (Or.inl (by omega)))) kb (fb.mono (fun a b c => Or.inr (Or.inl c.1))) FR.rf ?_ ?_ ?_ jK ?_ (by omega) (fun w j w0 w1 _ => j138 w j w0 w1)
    · rw [f1 131 5 (fun d => by unfold reC stC at d; omega)]; exact hm.2.2.2.2.2.1
    · rw [g 303 0 (fun d => by unfold reC stC at d; omega), g 306 78 (fun d => by unfold reC stC at d; omega)]; exact hm.2.2.1
    · refine hS.one (q := q) (fun y y0 y1 => j111 _ _ (by decide) (by decide) (by omega)) (fun y hy => j8 _ (by omega) (by omega)) (fun r y r0 r1 c y0 y1 => j111 _ _ (by omega) (by omega) (by omega)) (fun r y r0 r1 c y0 y1 => j8 _ (by omega) (by omega)) (fun y _ => j342 y) ?_
      rw [jx, jy, j8x, j8y, j111 _ 2 (by omega) (by omega) (by omega), j111 _ 3 (by omega) (by omega) (by omega), j111 _ 4 (by omega) (by omega) (by omega), j111 _ 5 (by omega) (by omega) (by omega), j111 _ 6 (by omega) (by omega) (by omega), j111 _ 7 (by omega) (by omega) (by omega), j342, j342, j342, j8 _ (by omega) (by omega), j8 _ (by omega) (by omega), j8 _ (by omega) (by omega)]
      exact ⟨rfl, rfl, hq8.2.2⟩
    · rw [h136]
      exact hP.1.c2 (fun y c => j8 y (by omega) (by omega)) (fun w j w0 w1 _ => j138 w j w0 w1)
  · refine Both.rfs h (u := 0) (k := 2) (Callee.mono (c_xmove h hp hT hq hx hy) (fun v I1 R1 r => ?_)) (fun J e => Callee.mono (c_mmove (I := I) hs (hST.cg hG (fun y c => e _ _ (by decide)) (fun y c => e _ _ (by decide)) (fun y c => e _ _ (by decide)) (fun y c => e _ _ (by decide)) (fun y c => e _ _ (by decide)) (fun y c => e _ _ (by decide)) (fun x y c c2 => e _ _ (by omega)) (fun y c => e _ _ (by decide))) (funext fun y => e _ _ (by decide)) (funext fun y => e _ _ (by decide)) hG hK (by rw [e _ _ (by decide)]; exact h77) (by rw [e _ _ (by decide)]; exact ⟨h76, h762⟩) hq hx hy) (fun v' J2 R2 r => ?_))
    · exact ⟨(r.2.1 ok).1, (r.2.1 ok).2, r.2.2⟩
    · exact ⟨(r.2.1 ok).1, (r.2.1 ok).2, r.2.2⟩
