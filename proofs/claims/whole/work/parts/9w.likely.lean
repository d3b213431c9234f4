/-! ===== likely, change ===== -/
/-- who gets throw t at noon -/
noncomputable def whT (D K : PF) (noon t : Int) : Int := whoA D K noon (lnd D t)
/-- the class made ready for throws at a noon, by its people -/
theorem c_ready {X : CX} {I R D : PF} {p o noon : Int} (hs : Shp R) (hp : Plc R p o) (hT : Tld D p I) (h5 : bd (I 131 5)) : CN X 2 mX1_prepare [(2, 127), (2, p), (2, 111), (0, noon), (2, 0)] I R (fun _ I' R' => ClF D I noon p 111 I' ∧ WhF D I noon I' ∧ FR mPr I I' ∧ Shp R' ∧ R' 127 0 = p ∧ R' 127 1 = 111 ∧ R' 127 2 = 0 ∧ FR scR R R' ∧ Plc R' p o) := by
  have kp := (plc_k hp).1
  obtain ⟨hG, hW, hQ, hL, hST, hK, hS, -⟩ := hT
  refine Callee.mono (c_prepare hs) (fun v I' R' q => ?_)
  obtain ⟨q1, q2, q3, q4, q5, rfl⟩ := q
  obtain ⟨r0, r1, r2⟩ := pR_v R p 111 0
  have hd := hG.1
  refine ⟨prep_F kp (Or.inl rfl) hG hQ hL hS h5 q1 q2 q3 q5, fun x y hq => Or.inl (q4 _ ?_ ?_), q5, pR_s hs p 111 0, r0, r1, r2, pR_scR _ _ _ _, hp.sc (pR_scR _ _ _ _)⟩
  · obtain ⟨c1, c2, c3, c4⟩ := hq
    simp only at c1 c2 c3 c4
    omega
  · obtain ⟨c1, c2, c3, c4⟩ := hq
    simp only at c1 c2 c3 c4
    omega
theorem c_firstGot2 {X : CX} {I R D K : PF} {noon o s p : Int} (hs : Shp R) (ho : R 127 0 = o) (hk : kd MF o = 6) (hr1 : R 127 1 = s) (hr2 : R 127 2 = 0) (hss : s = 111 ∨ s = 119) (hG : GD D) (hW : WD D) (hK : KG D K) (hn : bd noon) (hF : ClF D K noon o s I) (hN : WhF D K noon I) (hp : inR p) :
    CN X 7 mX1_firstGot [(2, 127), (0, p)] I R (fun v I' R' => v.2 = fI (fun k => whoA D K noon (lnd D k) = p) 33 ∧ ClF D K noon o s I' ∧ FR (mGt o) I I' ∧ R' = R) := by
  refine callee_b (by decide +kernel) (Nat.le_of_ble_eq_true rfl) rfl ?_
  exact S_X1_firstGot_0 (fgot_loop (I0 := I) (K := K) (noon := noon) (s := s) hs (Nat.le_refl _) ho hk hr1 hr2 hss hG hW hK hn hp (fun I' a b c => ⟨rfl, a, c, rfl⟩) _ 0 I (Nat.lt_succ_self _) (Int.le_refl _) (by decide) hF hN FR.rf (fun j j0 j1 => by omega))
noncomputable def likV (D K : PF) (q w : Int) : Int := if w = 0 then fI (fun t => whT D K (K 348 0) t = q) 33 else cnt (fun t => whT D K (K 348 0) t = q) 33
theorem c_xlikely {X : CX} {I R D : PF} {p o q w : Int} (hs : Shp R) (hp : Plc R p o) (hT : Tld D p I) (h5 : bd (I 131 5)) (hq : 0 ≤ q ∧ q < D 339 1) (hw : 0 ≤ w ∧ w ≤ 1) :
    CN X 8 mX10_likely [(2, 64), (0, q), (0, w)] I R (fun v I' R' => v.2 = likV D I q w ∧ bd (I' 131 5) ∧ FR (mQy p) I I' ∧ FR scR R R') := by
  refine callee_b (by decide +kernel) (Nat.le_of_ble_eq_true rfl) rfl ?_
  have kp := (plc_k hp).1
  obtain ⟨hG, hW, hQ, hL, hST, hK, hS, -⟩ := id hT
  have hD := hG.2.1
  have k1 := hK.1
  have e0 : I 111 0 = I 348 0 := hS.1.1
  have e3 : I 111 3 = D 339 1 := hS.1.2.2.2
  refine S_X10_likely_0 (d1 := 0) hs (by omega) (c_knows kM111 (by unfold inR; omega) (by unfold inR; omega)) (fun z I1 R1 r => ?_)
  obtain ⟨(hz : z = _), rfl, rfl⟩ := r
  rw [bi_t (by omega)] at hz
  refine S_X10_likely_8 (by omega) (fun g => by omega) (fun _ => ?_)
  refine S_X10_likely_11 (by omega) (fun g => by omega) (fun _ => S_X10_likely_15 (by omega) (fun _ => ?_) (fun g => by omega))
  refine S_X10_likely_22 (d1 := 2) hs hp.1 (by omega) (c_ready hs hp hT h5) (fun z3 I3 R3 r => ?_)
  obtain ⟨hF, hN, f3, hs3, r0, r1, r2, fR, hp3⟩ := r
  rw [e0] at hF hN
  have hbn : bd (I1 348 0) := by unfold bd; omega
  refine S_X10_likely_45 (by omega) (fun g => ?_) (fun g => ?_)
  · refine S_X10_likely_60 (d1 := 7) hs3 (by omega) (c_countGot (K := I1) (noon := I1 348 0) (s := 111) hs3 r0 kp r1 r2 (Or.inl rfl) hG hW hK hbn hF hN (by unfold inR; omega)) (fun z4 I4 R4 r => ?_)
    obtain ⟨(hz4 : z4 = _), hF4, f4, rfl⟩ := r
    refine S_X10_likely_68 ⟨?_, hF4.2.2.2.1.2, (mPr_Qy f3).tr (mGt_Qy f4), fR⟩
    show z4 = likV D I1 q w
    unfold likV; rw [if_neg g]; exact hz4
  · refine S_X10_likely_49 (d1 := 7) hs3 (by omega) (c_firstGot2 (K := I1) (noon := I1 348 0) (s := 111) hs3 r0 kp r1 r2 (Or.inl rfl) hG hW hK hbn hF hN (by unfold inR; omega)) (fun z4 I4 R4 r => ?_)
    obtain ⟨(hz4 : z4 = _), hF4, f4, rfl⟩ := r
    refine S_X10_likely_57 (S_X10_likely_68 ⟨?_, hF4.2.2.2.1.2, (mPr_Qy f3).tr (mGt_Qy f4), fR⟩)
    show z4 = likV D I1 q w
    unfold likV; rw [if_pos g]; exact hz4
theorem c_xlikely0 {X : CX} {I R : PF} {q w : Int} (hs : Shp R) (hq : inR q) (hw : inR w) (h3 : inR (I 111 3)) (hc : ¬ ((0 ≤ q ∧ q < I 111 3) ∧ 0 ≤ w ∧ w ≤ 1)) : CN X 8 mX10_likely [(2, 64), (0, q), (0, w)] I R (fun v I' R' => v.2 = -1 ∧ I' = I ∧ R' = R) := by
  refine callee_b (by decide +kernel) (Nat.le_of_ble_eq_true rfl) rfl ?_
  have no : PN X 8 mX10_likely 20 [] [] I R (fun v I' R' => v.2 = -1 ∧ I' = I ∧ R' = R) := S_X10_likely_20 ⟨rfl, rfl, rfl⟩
  refine S_X10_likely_0 (d1 := 0) hs (by omega) (c_knows kM111 hq h3) (fun z I1 R1 r => ?_)
  obtain ⟨(hz : z = _), rfl, rfl⟩ := r
  have b := bi_r (0 ≤ q ∧ q < I1 111 3)
  refine S_X10_likely_8 (by omega) (fun _ => no) (fun g => ?_)
  have c := bi_1 (by rw [← hz]; exact g)
  exact S_X10_likely_11 hw (fun _ => no) (fun g1 => S_X10_likely_15 hw (fun g2 => absurd ⟨c, g1, g2⟩ hc) (fun _ => no))
/-- the model amid throws -/
def MdK (D K J0 J : PF) : Prop := ST D J ∧ J 342 = K 342 ∧ J 348 = K 348 ∧ FR scM J0 J ∧ sdR (J 306 78)
theorem MdK.st {D K J0 J J' : PF} (h : MdK D K J0 J) (f : FR mGo J J') (h78 : J' 306 78 = J 306 78) : MdK D K J0 J' := by
  obtain ⟨h1, h2, h3, h4, h5⟩ := h
  obtain ⟨e8, e2⟩ := mGo_8 f
  exact ⟨h1.go (f.mono (fun x y c => Or.inl c)), e2.trans h2, e8.trans h3, h4.tr (mGo_M f h78), by rw [h78]; exact h5⟩
theorem c_mlikely {X : CX} {I R D K : PF} {q w : Int} (hs : Shp R) (hT : ST D I) (h2 : I 342 = K 342) (h8 : I 348 = K 348) (hG : GD D) (hW : WD D) (hK : KG D K) (hsd : sdR (I 306 78)) (hq : 0 ≤ q ∧ q < D 339 1) (hw : 0 ≤ w ∧ w ≤ 1) :
    CN X 7 mX11_likely [(2, 306), (0, q), (0, w)] I R (fun v I' R' => v.2 = likV D K q w ∧ FR scM I I' ∧ R' = R) := by
  refine callee_b (by decide +kernel) (Nat.le_of_ble_eq_true rfl) rfl ?_
  have hD := hG.2.1
  have k1 := hK.1
  have e4 : I 339 4 = D 339 1 := hT.sq.2.2.2.1
  refine S_X11_likely_0 (d1 := 2) (by omega) (c_isPerson hs (by unfold inR; omega) (by omega)) (fun z I1 R1 r => ?_)
  obtain ⟨(hz : z = _), rfl, rfl⟩ := r
  rw [bi_t (by omega)] at hz
  refine S_X11_likely_5 (by omega) (fun g => by omega) (fun _ => ?_)
  refine S_X11_likely_8 (d1 := 1) (by omega) (by omega) (c_isIn (by unfold inR; omega) (by decide) (by decide)) (fun z2 I2 R2 r => ?_)
  obtain ⟨(hz2 : z2 = _), rfl, rfl⟩ := r
  rw [bi_t (by omega)] at hz2
  refine S_X11_likely_15 (by omega) (fun _ => ?_) (fun g => by omega)
  have lp : ∀ (m k : Nat) (J : PF) (x3 : Int), 33 - k < m → k ≤ 33 → MdK D K I2 J → Fst (fun t => whT D K (K 348 0) t = q) k x3 → PN X 7 mX11_likely 28 [(2, 306), (0, q), (0, w), (0, x3), (0, cnt (fun t => whT D K (K 348 0) t = q) k), (0, (k : Int))] [] J R2 (fun v I' R' => v.2 = likV D K q w ∧ FR scM I2 I' ∧ R' = R2) := by
    intro m
    induction m with
    | zero => intro k J x3 h; exact absurd h (Nat.not_lt_zero _)
    | succ m ih =>
      intro k J x3 hm hk hM hf
      have cr := cnt_r (fun t => whT D K (K 348 0) t = q) k
      have x3r : -1 ≤ x3 ∧ x3 < 33 := by rcases hf with ⟨c, -⟩ | ⟨c, c2, -⟩ <;> omega
      refine S_X11_likely_28 (by omega) (fun g => ?_) (fun g => ?_)
      · obtain rfl : k = 33 := by omega
        refine S_X11_likely_83 (by omega) (fun g2 => ?_) (fun g2 => ?_)
        · exact S_X11_likely_91 (S_X11_likely_93 ⟨by unfold likV; rw [if_neg g2], hM.2.2.2.1, rfl⟩)
        · refine S_X11_likely_87 (S_X11_likely_93 ⟨?_, hM.2.2.2.1, rfl⟩)
          unfold likV; rw [if_pos g2]; exact hf.fI
      have ht : 0 ≤ (k : Int) ∧ (k : Int) < 33 := by omega
      refine S_X11_likely_35 (d1 := 0) (by omega) (c_mwayOf ht) (fun a J1 S1 r => ?_)
      obtain ⟨(ha : a = _), rfl, rfl⟩ := r
      refine S_X11_likely_41 (d1 := 0) (by omega) (c_mforceOf ht) (fun b J1 S1 r => ?_)
      obtain ⟨(hb : b = _), rfl, rfl⟩ := r
      rw [ha, hb]
      refine S_X11_likely_46 (d1 := 6) hs (by omega) (by rw [hM.2.2.1]; exact c_tossT (K := K) hs hM.1 hM.2.1 hM.2.2.1 hG hW hK (by unfold bd; omega) ht hM.2.2.2.2) (fun c J2 S2 r => ?_)
      obtain ⟨r1, r2, r3, rfl⟩ := r
      have hM2 := hM.st r3 r2
      have wr := whoA_r (K := K) (noon := K 348 0) hG (lnd D k)
      have nx := fun x3 hf => ih (k + 1) J2 x3 (by omega) (by omega) hM2 hf
      rw [show ((k + 1 : Nat) : Int) = (k : Int) + 1 by omega] at nx
      refine S_X11_likely_55 (by rw [r1]; omega) (by omega) (fun g2 => ?_) (fun g2 => ?_)
      · have y : whT D K (K 348 0) k = q := r1.symm.trans g2
        rw [cnt, cif_t y] at nx
        refine S_X11_likely_66 (by omega) (fun g3 => S_X11_likely_74 (S_X11_likely_77 (nx x3 ?_))) (fun g3 => S_X11_likely_71 (S_X11_likely_74 (S_X11_likely_77 (nx k ?_))))
        · rcases hf with ⟨c, -⟩ | ⟨c, c2, c3, c4⟩
          · exact absurd c g3
          · exact Or.inr ⟨c, by omega, c3, c4⟩
        · rcases hf with ⟨-, c2⟩ | ⟨c, -⟩
          · exact Or.inr ⟨by omega, by omega, y, c2⟩
          · omega
      · have y : ¬ whT D K (K 348 0) k = q := fun c => g2 (r1.trans c)
        rw [cnt, cif_f y] at nx
        refine S_X11_likely_63 (S_X11_likely_77 (nx x3 ?_))
        rcases hf with ⟨c, c2⟩ | ⟨c, c2, c3, c4⟩
        · refine Or.inl ⟨c, fun i i0 i1 => ?_⟩
          by_cases e : i = k
          · rw [e]; exact y
          · exact c2 i i0 (by omega)
        · exact Or.inr ⟨c, by omega, c3, c4⟩
  exact S_X11_likely_20 (lp 34 0 I2 (-1) (by decide) (by decide) ⟨hT, h2, h8, FR.rf, hsd⟩ (Or.inl ⟨rfl, fun i i0 i1 => by omega⟩))
theorem c_mlikely0 {X : CX} {I R : PF} {q w : Int} (hs : Shp R) (hq : inR q) (hw : inR w) (hn : 0 ≤ I 339 4 ∧ I 339 4 ≤ 6) (hc : ¬ ((0 ≤ q ∧ q < I 339 4) ∧ 0 ≤ w ∧ w ≤ 1)) : CN X 7 mX11_likely [(2, 306), (0, q), (0, w)] I R (fun v I' R' => v.2 = -1 ∧ I' = I ∧ R' = R) := by
  refine callee_b (by decide +kernel) (Nat.le_of_ble_eq_true rfl) rfl ?_
  have no : PN X 7 mX11_likely 18 [] [] I R (fun v I' R' => v.2 = -1 ∧ I' = I ∧ R' = R) := S_X11_likely_18 ⟨rfl, rfl, rfl⟩
  refine S_X11_likely_0 (d1 := 2) (by omega) (c_isPerson hs hq hn) (fun z I1 R1 r => ?_)
  obtain ⟨(hz : z = _), rfl, rfl⟩ := r
  have b := bi_r (0 ≤ q ∧ q < I1 339 4)
  refine S_X11_likely_5 (by omega) (fun _ => no) (fun g => ?_)
  have c := bi_1 (by rw [← hz]; exact g)
  refine S_X11_likely_8 (d1 := 1) hw (by omega) (c_isIn hw (by decide) (by decide)) (fun z2 I2 R2 r => ?_)
  obtain ⟨(hz2 : z2 = _), rfl, rfl⟩ := r
  have b2 := bi_r (0 ≤ w ∧ w ≤ 1)
  refine S_X11_likely_15 (by omega) (fun g2 => ?_) (fun _ => no)
  exact absurd ⟨c, bi_1 (by rw [← hz2]; exact g2)⟩ hc
theorem b_likely {X : CX} {I R : PF} {q w : Int} (h : Sim I R) (hq : inR q) (hw : inR w) : Both X 8 7 mX10_likely mX11_likely [(0, q), (0, w)] I R := by
  obtain ⟨hs, -, -, hm, p, o, hp, hT⟩ := id h
  have hv := h.vw hp
  have b4 := hv.2.1.2.2.2
  have r := hv.2.2.2.2.2.2.1
  by_cases hc : (0 ≤ q ∧ q < I 339 4) ∧ 0 ≤ w ∧ w ≤ 1
  · rcases hT with hT | ⟨D, hT⟩
    · have := hT.2.2.2.1.2.1; omega
    have e4 : I 339 4 = D 339 1 := hT.2.2.2.2.1.sq.2.2.2.1
    have hpp : p = 72 ∨ p = 91 := by rcases hp.2.2 with ⟨c, -⟩ | ⟨c, -⟩ <;> omega
    refine Both.fly (D := D) (u := likV D I q w) h hp (Callee.mono (c_xlikely hs hp hT hm.2.2.2.2.2.1 ⟨hc.1.1, by omega⟩ hc.2) (fun v I' R' q => ?_)) hT (fun J S s1 s2 s3 s4 s5 s6 s7 => c_mlikely (K := I) s1 s2 s3 s4 hT.1 hT.2.1 hT.2.2.2.2.2.1 s5 ⟨hc.1.1, by omega⟩ hc.2)
    obtain ⟨q1, q2, q3, q4⟩ := q
    exact ⟨q1, q2, mQy_sc q3, (mQy_8 hpp q3).1, (mQy_8 hpp q3).2, q4⟩
  · exact Both.same h (c_xlikely0 hs hq hw (by unfold inR; omega) (by omega)) (c_mlikely0 hs hq hw (by omega) hc)
