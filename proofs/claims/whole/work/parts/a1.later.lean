/-! ===== later, lasts, hatless ===== -/
noncomputable def latV (D K : PF) (n w : Int) : Int := if w = 0 then thK D K n.toNat 348 1 else if w = 1 then thK D K n.toNat 348 2 else lwO (thK D K n.toNat) (thK D K n.toNat 348 1)
theorem Tld.p0 {D : PF} {p : Int} {I : PF} (h : Tld D p I) : 0 < I p 0 ∧ I p 0 ≤ 9 := by
  have hd := h.1.1
  have := h.2.2.1.1.1
  omega
theorem Tld.k33 {D : PF} {p : Int} {I : PF} (h : Tld D p I) : 0 ≤ I 348 33 ∧ I 348 33 ≤ 40 := by
  obtain ⟨-, -, -, -, -, -, -, ⟨⟨l1, l2, l3, -⟩, -⟩, -⟩ := h
  omega
theorem c_xlater {X : CX} {I R D : PF} {p o n w : Int} (hs : Shp R) (hp : Plc R p o) (hT : Tld D p I) (h5 : bd (I 131 5)) (hn : 0 ≤ n ∧ n ≤ 60 ∧ I 348 0 + n ≤ 999) (hw : 0 ≤ w ∧ w ≤ 2) :
    CN X 7 mX10_later [(2, 64), (0, n), (0, w)] I R (fun v I' R' => v.2 = latV D I n w ∧ bd (I' 131 5) ∧ FR (mRy p) I I' ∧ FR scR R R') := by
  refine callee_b (by decide +kernel) (Nat.le_of_ble_eq_true rfl) rfl ?_
  have p0 := hT.p0
  have h33 := hT.k33
  obtain ⟨hG, hW, hQ, hL, hST, hK, hS, -⟩ := id hT
  have k1 := hK.1
  have e0 : I 111 0 = I 348 0 := hS.1.1
  refine S_X10_later_0 (d1 := 1) (by omega) (c_isAheadX hs hp (by unfold inR; omega) (by unfold inR; omega) (by omega)) (fun z I1 R1 q => ?_)
  obtain ⟨(hz : z = _), rfl, rfl⟩ := q
  rw [bi_t (by omega)] at hz
  refine S_X10_later_5 (by omega) (fun g => by omega) (fun _ => ?_)
  refine S_X10_later_8 (by omega) (fun g => by omega) (fun _ => S_X10_later_12 (by omega) (fun _ => ?_) (fun g => by omega))
  refine S_X10_later_19 (d1 := 1) hs (by omega) (c_other hs hp hT h5) (fun z3 I3 R3 q => ?_)
  obtain ⟨hA3, f3, rfl⟩ := q
  refine S_X10_later_30 ?_
  have lp : ∀ (m k : Nat) (J S : PF), n.toNat - k < m → (k : Int) ≤ n → AhC D (thK D I1 k) p J → FR (mRy p) I1 J → Shp S → Plc S p o → FR scR R3 S → PN X 7 mX10_later 32 [(2, 64), (0, n), (0, w), (0, (k : Int))] [] J S (fun v I' R' => v.2 = latV D I1 n w ∧ bd (I' 131 5) ∧ FR (mRy p) I1 I' ∧ FR scR R3 R') := by
    intro m
    induction m with
    | zero => intro k J S h; exact absurd h (Nat.not_lt_zero _)
    | succ m ih =>
      intro k J S hm hk hA hf hsS hpS hfS
      obtain ⟨t1, t2, t3, t4⟩ := thK_ok hG hK h33 k (by omega)
      refine S_X10_later_32 (by omega) (by omega) (fun g => ?_) (fun g => ?_)
      · have e : n.toNat = k := by omega
        have fin : ∀ v, v = latV D I1 n w → (v = latV D I1 n w ∧ bd (J 131 5) ∧ FR (mRy p) I1 J ∧ FR scR R3 S) := fun v hv => ⟨hv, hA.2.2.2, hf, hfS⟩
        unfold latV at fin ⊢
        rw [e] at fin ⊢
        refine S_X10_later_59 (by omega) (fun g2 => ?_) (fun g2 => ?_) (fun g2 g3 => ?_)
        · exact S_X10_later_88 hsS (fin _ (by rw [if_pos g2]; exact hA.2.2.1.1.2.1))
        · exact S_X10_later_96 hsS (fin _ (by rw [if_neg (by omega), if_pos g2]; exact hA.2.2.1.1.2.2.1))
        · refine S_X10_later_104 (d1 := 2) hsS (by omega) (c_lawInForce hsS (Or.inr rfl) hG t1 hA.2.2.1) (fun z4 I4 R4 q => ?_)
          obtain ⟨(hz4 : z4 = _), rfl, rfl⟩ := q
          exact S_X10_later_111 (fin _ (by rw [if_neg g2, if_neg g3]; exact hz4))
      · refine S_X10_later_37 (d1 := 6) hsS hpS.1 (by omega) (c_ahead hsS hpS hG hW t1 t3.1 (by omega) hA) (fun z4 J4 S4 q => ?_)
        obtain ⟨q1, q2, q3, q4, q5⟩ := q
        rw [← thK_1] at q1
        have := ih (k + 1) J4 S4 (by omega) (by omega) q1 (hf.tr q2) q3 q4 (hfS.tr q5)
        rw [show ((k + 1 : Nat) : Int) = (k : Int) + 1 by omega] at this
        exact S_X10_later_53 this
  exact lp (n.toNat + 1) 0 I3 R3 (by omega) (by omega) hA3 f3 hs hp FR.rf
theorem c_xlater0 {X : CX} {I R : PF} {p o n w : Int} (hs : Shp R) (hp : Plc R p o) (h0 : inR (I p 0)) (hn : inR n) (hw : inR w) (hno : 0 ≤ I 111 0 ∧ I 111 0 ≤ 999) (hc : ¬ ((0 < I p 0 ∧ 0 ≤ n ∧ n ≤ 60 ∧ I 111 0 + n ≤ 999) ∧ 0 ≤ w ∧ w ≤ 2)) :
    CN X 7 mX10_later [(2, 64), (0, n), (0, w)] I R (fun v I' R' => v.2 = -1 ∧ I' = I ∧ R' = R) := by
  refine callee_b (by decide +kernel) (Nat.le_of_ble_eq_true rfl) rfl ?_
  have no : PN X 7 mX10_later 17 [] [] I R (fun v I' R' => v.2 = -1 ∧ I' = I ∧ R' = R) := S_X10_later_17 ⟨rfl, rfl, rfl⟩
  refine S_X10_later_0 (d1 := 1) (by omega) (c_isAheadX hs hp h0 hn hno) (fun z I1 R1 q => ?_)
  obtain ⟨(hz : z = _), rfl, rfl⟩ := q
  have b := bi_r (0 < I1 p 0 ∧ 0 ≤ n ∧ n ≤ 60 ∧ I1 111 0 + n ≤ 999)
  refine S_X10_later_5 (by omega) (fun _ => no) (fun g => ?_)
  have c := bi_1 (c := 0 < I1 p 0 ∧ 0 ≤ n ∧ n ≤ 60 ∧ I1 111 0 + n ≤ 999) (by rw [← hz]; exact g)
  exact S_X10_later_8 hw (fun _ => no) (fun g1 => S_X10_later_12 hw (fun g2 => absurd ⟨c, g1, g2⟩ hc) (fun _ => no))
theorem c_noonsGo {X : CX} {I R D K I0 : PF} {n : Int} (hs : Shp R) (hG : GD D) (hW : WD D) (hK : KG D K) (h33 : 0 ≤ K 348 33 ∧ K 348 33 ≤ 40) (hn : 0 ≤ n ∧ n ≤ 60 ∧ K 348 0 + n ≤ 999) (hA : AhM D K I0 0 I) : CN X 7 mX11_noonsGo [(2, 306), (0, n)] I R (fun _ I' R' => AhM D K I0 n.toNat I' ∧ R' = R) := by
  refine callee_b (by decide +kernel) (Nat.le_of_ble_eq_true rfl) rfl ?_
  have lp : ∀ (m k : Nat) (J : PF), n.toNat - k < m → (k : Int) ≤ n → AhM D K I0 k J → PN X 7 mX11_noonsGo 2 [(2, 306), (0, n), (0, (k : Int))] [] J R (fun _ I' R' => AhM D K I0 n.toNat I' ∧ R' = R) := by
    intro m
    induction m with
    | zero => intro k J h; exact absurd h (Nat.not_lt_zero _)
    | succ m ih =>
      intro k J hm hk hA
      refine S_X11_noonsGo_2 (by omega) (by omega) (fun g => ?_) (fun g => ?_)
      · rw [show n.toNat = k by omega]; exact S_X11_noonsGo_18 ⟨hA, rfl⟩
      · refine S_X11_noonsGo_7 (d1 := 6) (by omega) (c_mahead hs hG hW hK h33 (by omega) hA) (fun z J1 S1 q => ?_)
        obtain ⟨q1, rfl⟩ := q
        have := ih (k + 1) J1 (by omega) (by omega) q1
        rw [show ((k + 1 : Nat) : Int) = (k : Int) + 1 by omega] at this
        exact S_X11_noonsGo_12 this
  exact S_X11_noonsGo_0 (lp (n.toNat + 1) 0 I (by omega) (by omega) hA)
/-- the model has put aside -/
theorem AhM.ini {D K I0 I : PF} (h1 : ST D I0) (h2 : I0 342 = K 342) (h8 : I0 348 = K 348) (hs : sdR (I0 306 78)) (q1 : I 306 72 = 1) (q2 : ∀ j, 0 ≤ j → j < 33 → I 349 j = I0 348 j) (q3 : FR (fun x y => (x = 306 ∧ y = 72) ∨ x = 349) I0 I) : AhM D K I0 0 I := by
  have e8 : I 348 = I0 348 := funext fun y => q3 _ _ (fun c => by omega)
  have e2 : I 342 = I0 342 := funext fun y => q3 _ _ (fun c => by omega)
  have e78 : I 306 78 = I0 306 78 := q3 _ _ (fun c => by omega)
  have n : ∀ x y, x ≠ 349 → ¬ (x = 306 ∧ y = 72) → I x y = I0 x y := fun x y a b => q3 x y (fun c => by omega)
  refine ⟨?_, e2.trans h2, e8.trans h8, q1, e78, by rw [e78]; exact hs, fun j j0 j1 => by rw [q2 j j0 j1, h8], q3.mono (fun x y c => Or.inr c)⟩
  obtain ⟨a1, a2, a3, a4, a5, a6, a7, a8, a9⟩ := h1
  refine ⟨by rw [n _ _ (by decide) (by decide)]; exact a1, fun j j0 j1 => by rw [n _ _ (by decide) (by omega)]; exact a2 j j0 j1, fun j j0 j1 => by rw [n _ _ (by decide) (by omega)]; exact a3 j j0 j1, fun j j0 j1 => by rw [n _ _ (by decide) (by omega)]; exact a4 j j0 j1, fun j j0 j1 => by rw [n _ _ (by decide) (by omega)]; exact a5 j j0 j1, fun j j0 j1 => by rw [n _ _ (by decide) (by omega)]; exact a6 j j0 j1, by rw [n _ _ (by decide) (by decide)]; exact a7, fun j j0 j1 => by rw [n _ _ (by decide) (by omega), n 346 _ (by decide) (by omega)]; exact a8 j j0 j1, fun j j0 j1 => by rw [n _ _ (by decide) (by omega)]; exact a9 j j0 j1⟩
theorem c_mlater {X : CX} {I R D K : PF} {n w : Int} (hs : Shp R) (hT : ST D I) (h2 : I 342 = K 342) (h8 : I 348 = K 348) (hG : GD D) (hW : WD D) (hK : KG D K) (h33 : 0 ≤ K 348 33 ∧ K 348 33 ≤ 40) (hsd : sdR (I 306 78)) (h72 : I 306 72 = 0) (hn : 0 ≤ n ∧ n ≤ 60 ∧ K 348 0 + n ≤ 999) (hw : 0 ≤ w ∧ w ≤ 2) :
    CN X 8 mX11_later [(2, 306), (0, n), (0, w)] I R (fun v I' R' => v.2 = latV D K n w ∧ FR scM I I' ∧ R' = R) := by
  refine callee_b (by decide +kernel) (Nat.le_of_ble_eq_true rfl) rfl ?_
  have k1 := hK.1
  have hD := hG.2.1
  have e0 : I 348 0 = K 348 0 := by rw [h8]
  refine S_X11_later_0 (by rw [hT.1]; decide) (fun g => absurd (hT.1.symm.trans g) (by decide)) (fun _ => ?_)
  refine S_X11_later_7 (d1 := 2) (by omega) (c_isAheadM hs (by unfold inR; omega) (by decide) (by decide) (by decide) (by decide) (by omega)) (fun z I1 R1 q => ?_)
  obtain ⟨(hz : z = _), rfl, rfl⟩ := q
  rw [bi_t (by omega)] at hz
  refine S_X11_later_15 (by omega) (fun g => by omega) (fun _ => ?_)
  refine S_X11_later_18 (d1 := 1) (by omega) (by omega) (c_isIn (by unfold inR; omega) (by decide) (by decide)) (fun z2 I2 R2 q => ?_)
  obtain ⟨(hz2 : z2 = _), rfl, rfl⟩ := q
  rw [bi_t (by omega)] at hz2
  refine S_X11_later_27 (by omega) (fun _ => ?_) (fun g => by omega)
  refine S_X11_later_32 (d1 := 0) (by omega) (c_putsAside hs) (fun z3 I3 R3 q => ?_)
  obtain ⟨q1, q2, q3, rfl⟩ := q
  have hA3 : AhM D K I2 0 I3 := AhM.ini hT h2 h8 hsd q1 q2 q3
  refine S_X11_later_36 (d1 := 7) (by omega) (c_noonsGo hs hG hW hK h33 hn hA3) (fun z4 I4 R4 q => ?_)
  obtain ⟨hA, rfl⟩ := q
  obtain ⟨t1, t2, t3, t4⟩ := thK_ok hG hK h33 n.toNat (by omega)
  have k2 := t1.2.1
  have e1 : I4 348 1 = thK D K n.toNat 348 1 := by rw [hA.2.2.1]
  have fin : ∀ v, v = latV D K n w → PN X 8 mX11_later 78 [(2, 306)] [(0, v)] I4 R4 (fun v I' R' => v.2 = latV D K n w ∧ FR scM I2 I' ∧ R' = R4) := fun v hv => by
    refine S_X11_later_78 (d1 := 0) (by omega) (c_takesBack hs) (fun z5 I5 R5 q => ?_)
    obtain ⟨w1, w2, w3, rfl⟩ := q
    exact S_X11_later_83 ⟨hv, hA.back hG h8 h72 w1 w2 w3, rfl⟩
  unfold latV at fin ⊢
  refine S_X11_later_41 (by omega) (fun g => S_X11_later_54 (by omega) (fun g2 => ?_) (fun g2 => ?_)) (fun g => ?_)
  · refine S_X11_later_68 (d1 := 0) hs (by omega) (c_mlawOf hs (by omega)) (fun z5 I5 R5 q => ?_)
    obtain ⟨(hz5 : z5 = _), rfl, rfl⟩ := q
    refine fin _ ?_
    rw [if_neg g, if_neg g2, hz5, e1]
    unfold lwO
    rw [hA.2.1, t4]
  · exact S_X11_later_59 hs (fin _ (by rw [if_neg g, if_pos g2, hA.2.2.1]))
  · exact S_X11_later_45 hs (fin _ (by rw [if_pos g, hA.2.2.1]))
theorem c_mlater0 {X : CX} {I R : PF} {n w : Int} (hs : Shp R) (hn : inR n) (hw : inR w) (h55 : I 306 55 = 0 ∨ I 306 55 = 1) (hno : 0 ≤ I 348 0 ∧ I 348 0 ≤ 999) (hc : ¬ ((I 306 55 = 1 ∧ 0 ≤ n ∧ n ≤ 60 ∧ I 348 0 + n ≤ 999) ∧ 0 ≤ w ∧ w ≤ 2)) :
    CN X 8 mX11_later [(2, 306), (0, n), (0, w)] I R (fun v I' R' => v.2 = -1 ∧ I' = I ∧ R' = R) := by
  refine callee_b (by decide +kernel) (Nat.le_of_ble_eq_true rfl) rfl ?_
  have no : PN X 8 mX11_later 30 [] [] I R (fun v I' R' => v.2 = -1 ∧ I' = I ∧ R' = R) := S_X11_later_30 ⟨rfl, rfl, rfl⟩
  refine S_X11_later_0 (by omega) (fun _ => no) (fun g0 => ?_)
  refine S_X11_later_7 (d1 := 2) (by omega) (c_isAheadM hs hn (by decide) (by decide) (by decide) (by decide) (by omega)) (fun z I1 R1 q => ?_)
  obtain ⟨(hz : z = _), rfl, rfl⟩ := q
  have b := bi_r (0 ≤ n ∧ n ≤ 60 ∧ I1 348 0 + n ≤ 999)
  refine S_X11_later_15 (by omega) (fun _ => no) (fun g => ?_)
  have c := bi_1 (c := 0 ≤ n ∧ n ≤ 60 ∧ I1 348 0 + n ≤ 999) (by rw [← hz]; exact g)
  refine S_X11_later_18 (d1 := 1) hw (by omega) (c_isIn hw (by decide) (by decide)) (fun z2 I2 R2 q => ?_)
  obtain ⟨(hz2 : z2 = _), rfl, rfl⟩ := q
  have b2 := bi_r (0 ≤ w ∧ w ≤ 2)
  refine S_X11_later_27 (by omega) (fun g2 => ?_) (fun _ => no)
  have c2 := bi_1 (c := 0 ≤ w ∧ w ≤ 2) (by rw [← hz2]; exact g2)
  exact absurd ⟨⟨by omega, c⟩, c2⟩ hc
theorem mRy_8 {p : Int} (hp : p = 72 ∨ p = 91) {I J : PF} (f : FR (mRy p) I J) : (∀ y, J 348 y = I 348 y) ∧ ∀ y, J 342 y = I 342 y := ⟨fun y => mRy_n hp f _ _ (Or.inl rfl) (by decide), fun y => mRy_n hp f _ _ (Or.inr (Or.inl rfl)) (by decide)⟩
theorem b_later {X : CX} {I R : PF} {n w : Int} (h : Sim I R) (hn : inR n) (hw : inR w) : Both X 7 8 mX10_later mX11_later [(0, n), (0, w)] I R := by
  obtain ⟨hs, -, -, hm, p, o, hp, hT⟩ := id h
  have hv := h.vw hp
  have v6 := hv.2.2.2.2.2.1
  have b1 := hv.2.1.1
  have r := hv.2.2.2.2.2.2.1
  by_cases hc : (I 306 55 = 1 ∧ 0 ≤ n ∧ n ≤ 60 ∧ I 348 0 + n ≤ 999) ∧ 0 ≤ w ∧ w ≤ 2
  · rcases hT with hT | ⟨D, hT⟩
    · exact absurd (hT.2.1.symm.trans hc.1.1) (by decide)
    have hpp := sq_o (plc_k hp).1
    refine Both.fly (D := D) (u := latV D I n w) h hp (Callee.mono (c_xlater hs hp hT hm.2.2.2.2.2.1 hc.1.2 hc.2) (fun v I' R' q => ?_)) hT (fun J S s1 s2 s3 s4 s5 s6 s7 => c_mlater (K := I) s1 s2 s3 s4 hT.1 hT.2.1 hT.2.2.2.2.2.1 hT.k33 s5 s6 hc.1.2 hc.2)
    obtain ⟨q1, q2, q3, q4⟩ := q
    exact ⟨q1, q2, mRy_sc q3, (mRy_8 hpp q3).1, (mRy_8 hpp q3).2, q4⟩
  · exact Both.same h (c_xlater0 hs hp (by unfold inR; omega) hn hw (by omega) (by omega)) (c_mlater0 hs hn hw (by omega) (by omega) hc)
/-! lasts -/
noncomputable def lasV (D K : PF) (l n : Int) : Int := cnt (fun j => lwO (thK D K (j.toNat + 1)) (thK D K (j.toNat + 1) 348 1) = l) n.toNat
theorem c_xlasts {X : CX} {I R D : PF} {p o l n : Int} (hs : Shp R) (hp : Plc R p o) (hT : Tld D p I) (h5 : bd (I 131 5)) (hl : 0 ≤ l ∧ l < D 339 0) (hn : 1 ≤ n ∧ n ≤ 60 ∧ I 348 0 + n ≤ 999) :
    CN X 7 mX10_lasts [(2, 64), (0, l), (0, n)] I R (fun v I' R' => v.2 = lasV D I l n ∧ bd (I' 131 5) ∧ FR (mRy p) I I' ∧ FR scR R R') := by
  refine callee_b (by decide +kernel) (Nat.le_of_ble_eq_true rfl) rfl ?_
  have p0 := hT.p0
  have h33 := hT.k33
  have kp := (plc_k hp).1
  obtain ⟨hG, hW, hQ, hL, hST, hK, hS, -⟩ := id hT
  have hD := hG.2.1
  have k1 := hK.1
  have e0 : I 111 0 = I 348 0 := hS.1.1
  have e5 : I p 5 = D 339 0 := hQ.2.1.1
  refine S_X10_lasts_0 (by omega) (fun g => by omega) (fun _ => S_X10_lasts_4 hp.1 kp (by omega) (by omega) (fun g => by omega) (fun _ => S_X10_lasts_15 (by omega) (fun g => by omega) (fun _ => ?_)))
  refine S_X10_lasts_20 (d1 := 1) (by omega) (c_isAheadX hs hp (by unfold inR; omega) (by unfold inR; omega) (by omega)) (fun z I1 R1 q => ?_)
  obtain ⟨(hz : z = _), rfl, rfl⟩ := q
  rw [bi_t (by omega)] at hz
  refine S_X10_lasts_25 (by omega) (fun _ => ?_) (fun g => by omega)
  refine S_X10_lasts_30 (d1 := 1) hs (by omega) (c_other hs hp hT h5) (fun z3 I3 R3 q => ?_)
  obtain ⟨hA3, f3, rfl⟩ := q
  refine S_X10_lasts_41 ?_
  have lp : ∀ (m k : Nat) (J S : PF), n.toNat - k < m → (k : Int) ≤ n → AhC D (thK D I1 k) p J → FR (mRy p) I1 J → Shp S → Plc S p o → FR scR R3 S → PN X 7 mX10_lasts 46 [(2, 64), (0, l), (0, n), (0, cnt (fun j => lwO (thK D I1 (j.toNat + 1)) (thK D I1 (j.toNat + 1) 348 1) = l) k), (0, (k : Int))] [] J S (fun v I' R' => v.2 = lasV D I1 l n ∧ bd (I' 131 5) ∧ FR (mRy p) I1 I' ∧ FR scR R3 R') := by
    intro m
    induction m with
    | zero => intro k J S h; exact absurd h (Nat.not_lt_zero _)
    | succ m ih =>
      intro k J S hm hk hA hf hsS hpS hfS
      obtain ⟨t1, t2, t3, t4⟩ := thK_ok hG hK h33 k (by omega)
      have cr := cnt_r (fun j => lwO (thK D I1 (j.toNat + 1)) (thK D I1 (j.toNat + 1) 348 1) = l) k
      refine S_X10_lasts_46 (by omega) (by omega) (fun g => ?_) (fun g => ?_)
      · refine S_X10_lasts_88 ⟨?_, hA.2.2.2, hf, hfS⟩
        unfold lasV; rw [show n.toNat = k by omega]
      · refine S_X10_lasts_52 (d1 := 6) hsS hpS.1 (by omega) (c_ahead hsS hpS hG hW t1 t3.1 (by omega) hA) (fun z4 J4 S4 q => ?_)
        obtain ⟨q1, q2, q3, q4, q5⟩ := q
        rw [← thK_1] at q1
        obtain ⟨u1, u2', u3, u4⟩ := thK_ok hG hK h33 (k + 1) (by omega)
        have nx := ih (k + 1) J4 S4 (by omega) (by omega) q1 (hf.tr q2) q3 q4 (hfS.tr q5)
        rw [show ((k + 1 : Nat) : Int) = (k : Int) + 1 by omega] at nx
        refine S_X10_lasts_68 (d1 := 2) q3 (by omega) (c_lawInForce q3 (Or.inr rfl) hG u1 q1.2.2.1) (fun z5 J5 S5 q => ?_)
        obtain ⟨(hz5 : z5 = _), rfl, rfl⟩ := q
        have zr : -1 ≤ z5 ∧ z5 ≤ 6 := by
          rw [hz5]; unfold lwO
          by_cases c : thK D I1 (k + 1) 348 1 = -1
          · rw [if_pos c]; decide
          · rw [if_neg c]
            have := (u1.2.2.2.2.2 _ (by have := u1.2.1; omega) u1.2.1.2).2.2.1
            omega
        have ek : ((k : Int).toNat + 1) = k + 1 := by omega
        refine S_X10_lasts_75 (by omega) (by omega) (fun g2 => ?_) (fun g2 => ?_)
        · rw [cnt, cif_f (by rw [ek]; exact fun c => g2 (hz5.trans c))] at nx
          exact S_X10_lasts_82 nx
        · rw [cnt, cif_t (by rw [ek]; exact hz5.symm.trans g2)] at nx
          exact S_X10_lasts_79 (S_X10_lasts_82 nx)
  exact lp (n.toNat + 1) 0 I3 R3 (by omega) (by omega) hA3 f3 hs hp FR.rf
theorem c_xlasts0 {X : CX} {I R : PF} {p o l n : Int} (hs : Shp R) (hp : Plc R p o) (h0 : inR (I p 0)) (h5 : inR (I p 5)) (hl : inR l) (hn : inR n) (hno : 0 ≤ I 111 0 ∧ I 111 0 ≤ 999) (hc : ¬ ((0 ≤ l ∧ l < I p 5) ∧ 0 < I p 0 ∧ 1 ≤ n ∧ n ≤ 60 ∧ I 111 0 + n ≤ 999)) :
    CN X 7 mX10_lasts [(2, 64), (0, l), (0, n)] I R (fun v I' R' => v.2 = -1 ∧ I' = I ∧ R' = R) := by
  refine callee_b (by decide +kernel) (Nat.le_of_ble_eq_true rfl) rfl ?_
  have kp := (plc_k hp).1
  have no : PN X 7 mX10_lasts 28 [] [] I R (fun v I' R' => v.2 = -1 ∧ I' = I ∧ R' = R) := S_X10_lasts_28 ⟨rfl, rfl, rfl⟩
  refine S_X10_lasts_0 hl (fun g => no) (fun g1 => S_X10_lasts_4 hp.1 kp hl h5 (fun g => no) (fun g2 => S_X10_lasts_15 hn (fun g => no) (fun g3 => ?_)))
  refine S_X10_lasts_20 (d1 := 1) (by omega) (c_isAheadX hs hp h0 hn hno) (fun z I1 R1 q => ?_)
  obtain ⟨(hz : z = _), rfl, rfl⟩ := q
  have b := bi_r (0 < I1 p 0 ∧ 0 ≤ n ∧ n ≤ 60 ∧ I1 111 0 + n ≤ 999)
  refine S_X10_lasts_25 (by omega) (fun g => ?_) (fun _ => no)
  have c := bi_1 (c := 0 < I1 p 0 ∧ 0 ≤ n ∧ n ≤ 60 ∧ I1 111 0 + n ≤ 999) (by rw [← hz]; exact g)
  exact absurd ⟨⟨g1, g2⟩, c.1, g3, c.2.2⟩ hc
theorem c_mlasts {X : CX} {I R D K : PF} {l n : Int} (hs : Shp R) (hT : ST D I) (h2 : I 342 = K 342) (h8 : I 348 = K 348) (hG : GD D) (hW : WD D) (hK : KG D K) (h33 : 0 ≤ K 348 33 ∧ K 348 33 ≤ 40) (hsd : sdR (I 306 78)) (h72 : I 306 72 = 0) (hl : 0 ≤ l ∧ l < D 339 0) (hn : 1 ≤ n ∧ n ≤ 60 ∧ K 348 0 + n ≤ 999) :
    CN X 7 mX11_lasts [(2, 306), (0, l), (0, n)] I R (fun v I' R' => v.2 = lasV D K l n ∧ FR scM I I' ∧ R' = R) := by
  refine callee_b (by decide +kernel) (Nat.le_of_ble_eq_true rfl) rfl ?_
  have k1 := hK.1
  have hD := hG.2.1
  have e0 : I 348 0 = K 348 0 := by rw [h8]
  have e3 : I 339 3 = D 339 0 := hT.2.1 0 (by decide) (by decide)
  refine S_X11_lasts_0 (d1 := 0) (by omega) (by omega) (Q1 := fun v I' R' => v.2 = D 339 0 ∧ I' = I ∧ R' = R) (callee_b (by decide +kernel) (Nat.le_of_ble_eq_true rfl) rfl (S_X11_lawMany_0 hs ⟨e3, rfl, rfl⟩)) (fun z0 I0 R0 q => ?_)
  obtain ⟨(hz0 : z0 = _), rfl, rfl⟩ := q
  refine S_X11_lasts_7 (d1 := 1) (by omega) (by omega) (c_isIn (by unfold inR; omega) (by decide) (by unfold inR; omega)) (fun z I1 R1 q => ?_)
  obtain ⟨(hz : z = _), rfl, rfl⟩ := q
  rw [bi_t (by omega)] at hz
  refine S_X11_lasts_13 (by omega) (fun g => by omega) (fun _ => ?_)
  refine S_X11_lasts_16 (d1 := 2) (by omega) (c_isAheadM hs (by unfold inR; omega) (by decide) (by decide) (by decide) (by decide) (by omega)) (fun z2 I2 R2 q => ?_)
  obtain ⟨(hz2 : z2 = _), rfl, rfl⟩ := q
  rw [bi_t (by omega)] at hz2
  refine S_X11_lasts_24 (by omega) (fun _ => ?_) (fun g => by omega)
  refine S_X11_lasts_29 (d1 := 0) (by omega) (c_putsAside hs) (fun z3 I3 R3 q => ?_)
  obtain ⟨q1, q2, q3, rfl⟩ := q
  have hA3 : AhM D K I2 0 I3 := AhM.ini hT h2 h8 hsd q1 q2 q3
  refine S_X11_lasts_35 ?_
  have lp : ∀ (m k : Nat) (J : PF), n.toNat - k < m → (k : Int) ≤ n → AhM D K I2 k J → PN X 7 mX11_lasts 38 [(2, 306), (0, l), (0, n), (0, cnt (fun j => lwO (thK D K (j.toNat + 1)) (thK D K (j.toNat + 1) 348 1) = l) k), (0, (k : Int))] [] J R3 (fun v I' R' => v.2 = lasV D K l n ∧ FR scM I2 I' ∧ R' = R3) := by
    intro m
    induction m with
    | zero => intro k J h; exact absurd h (Nat.not_lt_zero _)
    | succ m ih =>
      intro k J hm hk hA
      have cr := cnt_r (fun j => lwO (thK D K (j.toNat + 1)) (thK D K (j.toNat + 1) 348 1) = l) k
      refine S_X11_lasts_38 (by omega) (by omega) (fun g => ?_) (fun g => ?_)
      · refine S_X11_lasts_72 (d1 := 0) (by omega) (c_takesBack hs) (fun z5 I5 R5 q => ?_)
        obtain ⟨w1, w2, w3, rfl⟩ := q
        refine S_X11_lasts_76 ⟨?_, hA.back hG h8 h72 w1 w2 w3, rfl⟩
        unfold lasV; rw [show n.toNat = k by omega]
      · refine S_X11_lasts_44 (d1 := 6) (by omega) (c_mahead hs hG hW hK h33 (by omega) hA) (fun z4 J4 S4 q => ?_)
        obtain ⟨hA4, rfl⟩ := q
        obtain ⟨u1, u2', u3, u4⟩ := thK_ok hG hK h33 (k + 1) (by omega)
        have ub := u1.2.1
        have e1 : J4 348 1 = thK D K (k + 1) 348 1 := by rw [hA4.2.2.1]
        have nx := ih (k + 1) J4 (by omega) (by omega) hA4
        rw [show ((k + 1 : Nat) : Int) = (k : Int) + 1 by omega] at nx
        refine S_X11_lasts_49 (d1 := 0) hs (by omega) (c_mlawOf hs (by omega)) (fun z5 J5 S5 q => ?_)
        obtain ⟨(hz5 : z5 = _), rfl, rfl⟩ := q
        have hz6 : z5 = lwO (thK D K (k + 1)) (thK D K (k + 1) 348 1) := by
          rw [hz5, e1]; unfold lwO; rw [hA4.2.1, u4]
        have zr : -1 ≤ z5 ∧ z5 ≤ 6 := by
          rw [hz6]; unfold lwO
          by_cases c : thK D K (k + 1) 348 1 = -1
          · rw [if_pos c]; decide
          · rw [if_neg c]
            have := (u1.2.2.2.2.2 _ (by omega) ub.2).2.2.1
            omega
        have ek : ((k : Int).toNat + 1) = k + 1 := by omega
        refine S_X11_lasts_59 (by omega) (by omega) (fun g2 => ?_) (fun g2 => ?_)
        · rw [cnt, cif_f (by rw [ek]; exact fun c => g2 (hz6.trans c))] at nx
          exact S_X11_lasts_66 nx
        · rw [cnt, cif_t (by rw [ek]; exact hz6.symm.trans g2)] at nx
          exact S_X11_lasts_63 (S_X11_lasts_66 nx)
  exact lp (n.toNat + 1) 0 I3 (by omega) (by omega) hA3
theorem c_mlasts0 {X : CX} {I R : PF} {l n : Int} (hs : Shp R) (hl : inR l) (hn : inR n) (hno : 0 ≤ I 348 0 ∧ I 348 0 ≤ 999) (h3 : 0 ≤ I 339 3 ∧ I 339 3 ≤ 6) (hc : ¬ ((0 ≤ l ∧ l < I 339 3) ∧ 1 ≤ n ∧ n ≤ 60 ∧ I 348 0 + n ≤ 999)) :
    CN X 7 mX11_lasts [(2, 306), (0, l), (0, n)] I R (fun v I' R' => v.2 = -1 ∧ I' = I ∧ R' = R) := by
  refine callee_b (by decide +kernel) (Nat.le_of_ble_eq_true rfl) rfl ?_
  have no : PN X 7 mX11_lasts 27 [] [] I R (fun v I' R' => v.2 = -1 ∧ I' = I ∧ R' = R) := S_X11_lasts_27 ⟨rfl, rfl, rfl⟩
  refine S_X11_lasts_0 (d1 := 0) hl (by omega) (Q1 := fun v I' R' => v.2 = I 339 3 ∧ I' = I ∧ R' = R) (callee_b (by decide +kernel) (Nat.le_of_ble_eq_true rfl) rfl (S_X11_lawMany_0 hs ⟨rfl, rfl, rfl⟩)) (fun z0 I0 R0 q => ?_)
  obtain ⟨(hz0 : z0 = _), rfl, rfl⟩ := q
  refine S_X11_lasts_7 (d1 := 1) (by omega) (by omega) (c_isIn hl (by decide) (by unfold inR; omega)) (fun z I1 R1 q => ?_)
  obtain ⟨(hz : z = _), rfl, rfl⟩ := q
  have b := bi_r (0 ≤ l ∧ l ≤ z0 - 1)
  refine S_X11_lasts_13 (by omega) (fun _ => no) (fun g => ?_)
  have c := bi_1 (c := 0 ≤ l ∧ l ≤ z0 - 1) (by rw [← hz]; exact g)
  refine S_X11_lasts_16 (d1 := 2) (by omega) (c_isAheadM hs hn (by decide) (by decide) (by decide) (by decide) (by omega)) (fun z2 I2 R2 q => ?_)
  obtain ⟨(hz2 : z2 = _), rfl, rfl⟩ := q
  have b2 := bi_r (1 ≤ n ∧ n ≤ 60 ∧ I2 348 0 + n ≤ 999)
  refine S_X11_lasts_24 (by omega) (fun g2 => ?_) (fun _ => no)
  have c2 := bi_1 (c := 1 ≤ n ∧ n ≤ 60 ∧ I2 348 0 + n ≤ 999) (by rw [← hz2]; exact g2)
  exact absurd ⟨⟨c.1, by omega⟩, c2⟩ hc
theorem b_lasts {X : CX} {I R : PF} {l n : Int} (h : Sim I R) (hl : inR l) (hn : inR n) : Both X 7 7 mX10_lasts mX11_lasts [(0, l), (0, n)] I R := by
  obtain ⟨hs, -, -, hm, p, o, hp, hT⟩ := id h
  have hv := h.vw hp
  have v6 := hv.2.2.2.2.2.1
  have v1 := hv.1.2.2.1
  have b1 := hv.2.1.1
  have r := hv.2.2.2.2.2.2.1
  by_cases hc : (0 ≤ l ∧ l < I 339 3) ∧ 1 ≤ n ∧ n ≤ 60 ∧ I 348 0 + n ≤ 999
  · rcases hT with hT | ⟨D, hT⟩
    · have := hT.2.2.2.1.1; omega
    have hpp := sq_o (plc_k hp).1
    have e3 : I 339 3 = D 339 0 := hT.2.2.2.2.1.2.1 0 (by decide) (by decide)
    refine Both.fly (D := D) (u := lasV D I l n) h hp (Callee.mono (c_xlasts hs hp hT hm.2.2.2.2.2.1 ⟨hc.1.1, by omega⟩ hc.2) (fun v I' R' q => ?_)) hT (fun J S s1 s2 s3 s4 s5 s6 s7 => c_mlasts (K := I) s1 s2 s3 s4 hT.1 hT.2.1 hT.2.2.2.2.2.1 hT.k33 s5 s6 ⟨hc.1.1, by omega⟩ hc.2)
    obtain ⟨q1, q2, q3, q4⟩ := q
    exact ⟨q1, q2, mRy_sc q3, (mRy_8 hpp q3).1, (mRy_8 hpp q3).2, q4⟩
  · exact Both.same h (c_xlasts0 hs hp (by unfold inR; omega) (by unfold inR; omega) hl hn (by omega) (by omega)) (c_mlasts0 hs hl hn (by omega) (by omega) hc)
