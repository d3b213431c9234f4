/-! ===== toss, likely ===== -/
def twD (D : PF) : Int × Int := (D 341 2, D 341 3)
theorem c_tosses {X : CX} {I R D K : PF} {noon way fce : Int} (hs : Shp R) (hT : ST D I) (h2 : I 342 = K 342) (h8 : I 348 = K 348) (hG : GD D) (hW : WD D) (hK : KG D K) (hn : bd noon) (hw : 0 ≤ way ∧ way < 9) (hfc : 0 ≤ fce ∧ fce ≤ 3) (hsd : sdR (I 306 78)) :
    CN X 6 mX11_tosses [(2, 306), (0, way), (0, fce), (0, noon)] I R (fun _ I' R' => I' 306 69 = (flyR D K noon 0 (D 341 4).toNat (bit D way fce.toNat (twD D)) (P0 K) 0 0 0).1 ∧ I' 306 70 = (flyR D K noon 0 (D 341 4).toNat (bit D way fce.toNat (twD D)) (P0 K) 0 0 0).2.1 ∧ I' 306 64 = (flyR D K noon 0 (D 341 4).toNat (bit D way fce.toNat (twD D)) (P0 K) 0 0 0).2.2.1.1 ∧ I' 306 65 = (flyR D K noon 0 (D 341 4).toNat (bit D way fce.toNat (twD D)) (P0 K) 0 0 0).2.2.1.2 ∧ I' 306 78 = I 306 78 ∧ FR mGo I I' ∧ R' = R) := by
  refine callee_b (by decide +kernel) (Nat.le_of_ble_eq_true rfl) rfl ?_
  have e341 : ∀ j, 0 ≤ j → j < 5 → I 341 (5 + j) = D 341 j := hT.2.2.2.1
  refine S_X11_tosses_0 (d1 := 5) (by omega) (c_goes (K := K) hs (hT.fl h2 h8) ⟨e341 2 (by decide) (by decide), e341 3 (by decide) (by decide), e341 4 (by decide) (by decide)⟩ hT.2.2.2.2.2.2.1 hG hW (hK.kb hG) hK.2.2.2.1 hn (by decide) hw hfc hsd) (fun z I1 R1 q => ?_)
  obtain ⟨⟨e1, e2, e3, e4, e5, e6⟩, f, rfl⟩ := q
  rw [flyR_0] at e1 e2 e3 e4 e5
  exact S_X11_tosses_8 ⟨e1, e2, e3, e4, e5, f, rfl⟩
theorem c_mwayOf {X : CX} {I R : PF} {t : Int} (h : 0 ≤ t ∧ t < 33) : CN X 0 mX11_wayOf [(0, t)] I R (fun v I' R' => v.2 = wayT t ∧ I' = I ∧ R' = R) := by
  refine callee_b (by decide +kernel) (Nat.le_of_ble_eq_true rfl) rfl (S_X11_wayOf_0 (by omega) ⟨?_, rfl, rfl⟩)
  show (t + 3).tdiv 4 = _
  rw [Int.tdiv_eq_ediv_of_nonneg (by omega)]
  unfold wayT; split <;> omega
theorem c_mforceOf {X : CX} {I R : PF} {t : Int} (h : 0 ≤ t ∧ t < 33) : CN X 0 mX11_forceOf [(0, t)] I R (fun v I' R' => v.2 = fceT t ∧ I' = I ∧ R' = R) := by
  refine callee_b (by decide +kernel) (Nat.le_of_ble_eq_true rfl) rfl (S_X11_forceOf_0 (by omega) (fun g => S_X11_forceOf_8 (by omega) (S_X11_forceOf_13 ⟨?_, rfl, rfl⟩)) (fun g => S_X11_forceOf_4 (S_X11_forceOf_13 ⟨?_, rfl, rfl⟩)))
  · show (t + 3).tmod 4 = _
    rw [Int.tmod_eq_emod_of_nonneg (by omega)]
    unfold fceT; rw [if_neg g]
  · unfold fceT; rw [if_pos g]
/-- the model throws t of the 33 -/
theorem c_tossT {X : CX} {I R D K : PF} {noon t : Int} (hs : Shp R) (hT : ST D I) (h2 : I 342 = K 342) (h8 : I 348 = K 348) (hG : GD D) (hW : WD D) (hK : KG D K) (hn : bd noon) (ht : 0 ≤ t ∧ t < 33) (hsd : sdR (I 306 78)) :
    CN X 6 mX11_tosses [(2, 306), (0, wayT t), (0, fceT t), (0, noon)] I R (fun _ I' R' => I' 306 69 = whoA D K noon (lnd D t) ∧ I' 306 78 = I 306 78 ∧ FR mGo I I' ∧ R' = R) := by
  obtain ⟨w0, w1, f0, f1⟩ := wf_r ht
  refine Callee.mono (c_tosses (K := K) hs hT h2 h8 hG hW hK hn ⟨w0, w1⟩ ⟨f0, f1⟩ hsd) (fun v I' R' q => ?_)
  obtain ⟨q1, -, -, -, q5, q6, q7⟩ := q
  exact ⟨q1, q5, q6, q7⟩
theorem whoA_r {D K : PF} {noon : Int} (hG : GD D) (h : Int × Int) : -1 ≤ whoA D K noon h ∧ whoA D K noon h < D 339 1 := (flyR_r (by have := hG.2.1; omega) _ _ _ _ _ _).1
theorem mGo_8 {I J : PF} (f : FR mGo I J) : J 348 = I 348 ∧ J 342 = I 342 := ⟨funext fun y => f _ _ (fun c => by unfold mGo mFl at c; omega), funext fun y => f _ _ (fun c => by unfold mGo mFl at c; omega)⟩
theorem mGo_scM {x y : Int} (k : mGo x y) (e : ¬ (x = 306 ∧ y = 78)) : scM x y := by
  unfold mGo mFl at k
  rcases k with (rfl | rfl | rfl | ⟨rfl, k⟩) | ⟨rfl, rfl⟩
  · exact Or.inr (Or.inr (Or.inr (Or.inr (Or.inl rfl))))
  · exact Or.inr (Or.inl ⟨by decide, by decide⟩)
  · exact Or.inr (Or.inl ⟨by decide, by decide⟩)
  · refine Or.inl ⟨rfl, ?_⟩
    rcases k with rfl | rfl | rfl | rfl | rfl | rfl | rfl | rfl | rfl | rfl
    · decide
    · decide
    · decide
    · decide
    · decide
    · decide
    · decide
    · decide
    · decide
    · exact absurd ⟨rfl, rfl⟩ e
  · exact Or.inl ⟨rfl, by decide⟩
theorem mGo_M {I J : PF} (f : FR mGo I J) (h78 : J 306 78 = I 306 78) : FR scM I J := fun x y c => by
  by_cases e : x = 306 ∧ y = 78
  · rw [e.1, e.2]; exact h78
  · exact f x y (fun k => c (mGo_scM k e))
theorem c_isToldX {X : CX} {I R : PF} {p o : Int} (hp : Plc R p o) (h0 : inR (I p 0)) : CN X 0 mX10_isTold [(2, 64)] I R (fun v I' R' => v.2 = bi (0 < I p 0) ∧ I' = I ∧ R' = R) := by
  refine callee_b (by decide +kernel) (Nat.le_of_ble_eq_true rfl) rfl ?_
  have kp := (plc_k hp).1
  refine S_X10_isTold_0 hp.1 kp h0 (fun g => S_X10_isTold_14 (S_X10_isTold_15 (by decide) ⟨(bi_f (by omega)).symm, rfl, rfl⟩)) (fun g => S_X10_isTold_10 (S_X10_isTold_15 (by decide) ⟨(bi_t g).symm, rfl, rfl⟩))
theorem c_isThrow {X : CX} {I R : PF} {w f : Int} (hw : inR w) (hf : inR f) : CN X 0 mX10_isThrow [(0, w), (0, f)] I R (fun v I' R' => v.2 = bi (0 ≤ w ∧ w < 9 ∧ 0 ≤ f ∧ f ≤ 3) ∧ I' = I ∧ R' = R) := by
  refine callee_b (by decide +kernel) (Nat.le_of_ble_eq_true rfl) rfl ?_
  have no : ¬ (0 ≤ w ∧ w < 9 ∧ 0 ≤ f ∧ f ≤ 3) → PN X 0 mX10_isThrow 23 [] [] I R (fun v I' R' => v.2 = bi (0 ≤ w ∧ w < 9 ∧ 0 ≤ f ∧ f ≤ 3) ∧ I' = I ∧ R' = R) := fun c => S_X10_isThrow_23 (S_X10_isThrow_24 (by decide) ⟨(bi_f c).symm, rfl, rfl⟩)
  refine S_X10_isThrow_0 hw (fun g => no (by omega)) (fun g1 => S_X10_isThrow_4 hw (fun g => no (by omega)) (fun g2 => S_X10_isThrow_10 hf (fun g => no (by omega)) (fun g3 => S_X10_isThrow_14 hf (fun g => no (by omega)) (fun g4 => ?_))))
  exact S_X10_isThrow_19 (S_X10_isThrow_24 (by decide) ⟨(bi_t ⟨g1, g2, g3, g4⟩).symm, rfl, rfl⟩)
/-- the cells that throws from the square p change -/
def mQy (p x y : Int) : Prop := mFy p 0 x y ∨ mPr x y
theorem mQy_scC {p o x y : Int} (c : mQy p x y) : scC p o x y := by
  unfold mQy mFy mSt1 mWd mCa mPr at c
  rcases c with (c | (c | c | c) | (c | c | c | c) | (c | c | c)) | (c | c | c | c)
  · exact Or.inl c.1
  · exact (Or.inr (Or.inl c))
  · exact (Or.inr (Or.inr (Or.inl c)))
  · exact (Or.inr (Or.inr (Or.inr (Or.inl c))))
  · exact absurd c.2.1 (by decide)
  · exact (Or.inr (Or.inr (Or.inr (Or.inr (Or.inl c.1)))))
  · exact (Or.inr (Or.inr (Or.inr (Or.inr (Or.inr (Or.inl c))))))
  · exact (Or.inr (Or.inr (Or.inr (Or.inr (Or.inr (Or.inr (Or.inr (Or.inr (Or.inr (Or.inr (Or.inl c)))))))))))
  · exact (Or.inr (Or.inr (Or.inr (Or.inr (Or.inl c.1)))))
  · exact (Or.inr (Or.inr (Or.inr (Or.inr (Or.inr (Or.inr (Or.inl c)))))))
  · exact (Or.inr (Or.inr (Or.inr (Or.inr (Or.inr (Or.inr (Or.inr (Or.inr (Or.inr (Or.inr (Or.inr (Or.inl c))))))))))))
  · exact (Or.inr (Or.inr (Or.inr (Or.inr (Or.inl c.1)))))
  · exact (Or.inr (Or.inr (Or.inr (Or.inr (Or.inr (Or.inl c))))))
  · exact (Or.inr (Or.inr (Or.inr (Or.inr (Or.inr (Or.inr (Or.inl c)))))))
  · exact (Or.inr (Or.inr (Or.inr (Or.inr (Or.inr (Or.inr (Or.inr (Or.inl c))))))))
theorem mQy_sc {p o : Int} {I J : PF} (f : FR (mQy p) I J) : FR (fun x y => scC p o x y ∨ scM x y) I J := f.mono (fun x y c => Or.inl (mQy_scC c))
theorem mGt_Qy {p : Int} {I J : PF} (f : FR (mGt p) I J) : FR (mQy p) I J := f.mono (fun x y c => by
  rcases c with c | c
  · exact Or.inl c
  · exact Or.inr (Or.inr (Or.inr (Or.inr c))))
theorem mPr_Qy {p : Int} {I J : PF} (f : FR mPr I J) : FR (mQy p) I J := f.mono (fun x y c => Or.inr c)
theorem pR_scR (R : PF) (a b c : Int) : FR scR R (pR R a b c) := (pR_fr R a b c).mono (fun x y k => by unfold scR; omega)
def tosV (r : Int × Int × (Int × Int) × Int × Int) (w : Int) : Int := if w = 0 then r.1 else if w = 1 then r.2.1 else if w = 2 then r.2.2.1.1 else r.2.2.1.2
theorem c_xtoss {X : CX} {I R D : PF} {p o w f a : Int} (hs : Shp R) (hp : Plc R p o) (hT : Tld D p I) (h5 : bd (I 131 5)) (hw : 0 ≤ w ∧ w < 9) (hf : 0 ≤ f ∧ f ≤ 3) (ha : 0 ≤ a ∧ a ≤ 3) :
    CN X 6 mX10_toss [(2, 64), (0, w), (0, f), (0, a)] I R (fun v I' R' => v.2 = tosV (flyR D I (I 348 0) 0 (D 341 4).toNat (bit D w f.toNat (twD D)) (P0 I) 0 0 0) a ∧ bd (I' 131 5) ∧ FR (mQy p) I I' ∧ FR scR R R') := by
  refine callee_b (by decide +kernel) (Nat.le_of_ble_eq_true rfl) rfl ?_
  have kp := (plc_k hp).1
  obtain ⟨hG, hW, hQ, hL, hST, hK, hS, -⟩ := hT
  have hd := hG.1
  have k1 := hK.1
  have q0 := hQ.1.1
  have e0 : I 111 0 = I 348 0 := hS.1.1
  refine S_X10_toss_0 (d1 := 0) (by omega) (c_isToldX hp (by unfold inR; omega)) (fun z I1 R1 q => ?_)
  obtain ⟨(hz : z = _), rfl, rfl⟩ := q
  rw [bi_t (by omega)] at hz
  refine S_X10_toss_4 (by omega) (fun g => by omega) (fun _ => ?_)
  refine S_X10_toss_7 (d1 := 0) (by omega) (c_isThrow (by unfold inR; omega) (by unfold inR; omega)) (fun z2 I2 R2 q => ?_)
  obtain ⟨(hz2 : z2 = _), rfl, rfl⟩ := q
  rw [bi_t ⟨hw.1, hw.2, hf.1, hf.2⟩] at hz2
  refine S_X10_toss_12 (by omega) (fun g => by omega) (fun _ => ?_)
  refine S_X10_toss_15 (by omega) (fun g => by omega) (fun _ => S_X10_toss_19 (by omega) (fun _ => ?_) (fun g => by omega))
  refine S_X10_toss_26 (d1 := 2) hs hp.1 (by omega) (c_prepare hs) (fun z3 I3 R3 q => ?_)
  obtain ⟨q1, q2, q3, q4, q5, rfl⟩ := q
  rw [e0] at q1
  have hF := prep_F kp (Or.inl rfl) hG hQ hL hS h5 q1 q2 q3 q5
  have hs' := pR_s hs p 111 0
  obtain ⟨r0, r1, r2⟩ := pR_v R2 p 111 0
  have r8 : pR R2 p 111 0 64 8 = p := by rw [pR_fr R2 p 111 0 64 8 (fun c => by omega)]; exact hp.1
  refine S_X10_toss_49 (d1 := 0) hs' r8 kp (by omega) (c_throwNumber hw) (fun z4 I4 R4 q => ?_)
  obtain ⟨(hz4 : z4 = _), rfl, rfl⟩ := q
  have tr := tnO_r hw hf
  have hl := hF.2.1 _ tr.1 tr.2
  rw [lnd_tn hG hw hf] at hl
  rw [hz4]
  have hq : inQ D (bit D w f.toNat (twD D)) := bit_in hG (inQ_t hG) _
  refine S_X10_toss_65 (d1 := 5) (sq4 kp) (by have := sq4n kp; omega) (by have := sq4n kp; omega) (by omega) (by
    rw [hl]
    exact c_fly (K := I2) (s := 111) (sd := 0) (gm := 0) (dr := 0) (dz := 0) hs' r0 kp r1 r2 (Or.inl ⟨rfl, rfl⟩) (Or.inl rfl) hG hW hK (by unfold bd; omega) hF hq (fun c => absurd c (by decide))) (fun z5 I5 R5 q => ?_)
  obtain ⟨hF5, ⟨e1, e2, e3, e4, -⟩, f5, rfl⟩ := q
  have ff : FR (mQy p) I2 I5 := (mPr_Qy q5).tr (f5.mono (fun x y c => Or.inl c))
  have h5' := hF5.2.2.2.1.2
  unfold tosV
  refine S_X10_toss_69 (by omega) (fun g => ?_) (fun g => ?_) (fun g => ?_) (fun g => ?_)
  · exact S_X10_toss_96 hs' ⟨by rw [if_pos g]; exact e1, h5', ff, pR_scR _ _ _ _⟩
  · exact S_X10_toss_104 hs' ⟨by rw [if_neg (by omega), if_pos g]; exact e2, h5', ff, pR_scR _ _ _ _⟩
  · exact S_X10_toss_112 hs' ⟨by rw [if_neg (by omega), if_neg (by omega), if_pos g]; exact e3, h5', ff, pR_scR _ _ _ _⟩
  · exact S_X10_toss_120 hs' ⟨by rw [if_neg (by omega), if_neg (by omega), if_neg (by omega)]; exact e4, h5', ff, pR_scR _ _ _ _⟩
theorem c_xtoss0 {X : CX} {I R : PF} {p o w f a : Int} (hp : Plc R p o) (h0 : inR (I p 0)) (hw : inR w) (hf : inR f) (ha : inR a) (hc : ¬ (0 < I p 0 ∧ (0 ≤ w ∧ w < 9 ∧ 0 ≤ f ∧ f ≤ 3) ∧ 0 ≤ a ∧ a ≤ 3)) :
    CN X 6 mX10_toss [(2, 64), (0, w), (0, f), (0, a)] I R (fun v I' R' => v.2 = -1 ∧ I' = I ∧ R' = R) := by
  refine callee_b (by decide +kernel) (Nat.le_of_ble_eq_true rfl) rfl ?_
  have no : PN X 6 mX10_toss 24 [] [] I R (fun v I' R' => v.2 = -1 ∧ I' = I ∧ R' = R) := S_X10_toss_24 ⟨rfl, rfl, rfl⟩
  refine S_X10_toss_0 (d1 := 0) (by omega) (c_isToldX hp h0) (fun z I1 R1 q => ?_)
  obtain ⟨(hz : z = _), rfl, rfl⟩ := q
  have b := bi_r (0 < I1 p 0)
  refine S_X10_toss_4 (by omega) (fun _ => no) (fun g => ?_)
  have c1 := bi_1 (by rw [← hz]; exact g)
  refine S_X10_toss_7 (d1 := 0) (by omega) (c_isThrow hw hf) (fun z2 I2 R2 q => ?_)
  obtain ⟨(hz2 : z2 = _), rfl, rfl⟩ := q
  have b2 := bi_r (0 ≤ w ∧ w < 9 ∧ 0 ≤ f ∧ f ≤ 3)
  refine S_X10_toss_12 (by omega) (fun _ => no) (fun g2 => ?_)
  have c2 := bi_1 (by rw [← hz2]; exact g2)
  exact S_X10_toss_15 ha (fun _ => no) (fun g3 => S_X10_toss_19 ha (fun g4 => absurd ⟨c1, c2, g3, g4⟩ hc) (fun _ => no))
theorem c_mtoss {X : CX} {I R D K : PF} {w f a : Int} (hs : Shp R) (hT : ST D I) (h2 : I 342 = K 342) (h8 : I 348 = K 348) (hG : GD D) (hW : WD D) (hK : KG D K) (hsd : sdR (I 306 78)) (hw : 0 ≤ w ∧ w < 9) (hf : 0 ≤ f ∧ f ≤ 3) (ha : 0 ≤ a ∧ a ≤ 3) :
    CN X 7 mX11_toss [(2, 306), (0, w), (0, f), (0, a)] I R (fun v I' R' => v.2 = tosV (flyR D K (K 348 0) 0 (D 341 4).toNat (bit D w f.toNat (twD D)) (P0 K) 0 0 0) a ∧ I' 306 78 = I 306 78 ∧ FR mGo I I' ∧ R' = R) := by
  refine callee_b (by decide +kernel) (Nat.le_of_ble_eq_true rfl) rfl ?_
  have k1 := hK.1
  refine S_X11_toss_0 (by rw [hT.1]; decide) (fun g => absurd (hT.1.symm.trans g) (by decide)) (fun _ => ?_)
  refine S_X11_toss_7 (d1 := 1) (by omega) (by omega) (c_isIn (by unfold inR; omega) (by decide) (by decide)) (fun z I1 R1 q => ?_)
  obtain ⟨(hz : z = _), rfl, rfl⟩ := q
  rw [bi_t (by omega)] at hz
  refine S_X11_toss_16 (by omega) (fun g => by omega) (fun _ => ?_)
  refine S_X11_toss_19 (d1 := 1) (by omega) (by omega) (c_isIn (by unfold inR; omega) (by decide) (by decide)) (fun z2 I2 R2 q => ?_)
  obtain ⟨(hz2 : z2 = _), rfl, rfl⟩ := q
  rw [bi_t (by omega)] at hz2
  refine S_X11_toss_28 (by omega) (fun g => by omega) (fun _ => ?_)
  refine S_X11_toss_31 (d1 := 1) (by omega) (by omega) (c_isIn (by unfold inR; omega) (by decide) (by decide)) (fun z3 I3 R3 q => ?_)
  obtain ⟨(hz3 : z3 = _), rfl, rfl⟩ := q
  rw [bi_t (by omega)] at hz3
  refine S_X11_toss_40 (by omega) (fun _ => ?_) (fun g => by omega)
  refine S_X11_toss_45 (d1 := 6) hs (by omega) (by rw [h8]; exact c_tosses (K := K) hs hT h2 h8 hG hW hK (by unfold bd; omega) hw hf hsd) (fun z4 I4 R4 q => ?_)
  obtain ⟨e1, e2, e3, e4, e5, e6, rfl⟩ := q
  unfold tosV
  refine S_X11_toss_57 (by omega) (fun g1 => S_X11_toss_68 (by omega) (fun g2 => S_X11_toss_80 (by omega) (fun g3 => ?_) (fun g3 => ?_)) (fun g2 => ?_)) (fun g1 => ?_)
  · exact S_X11_toss_92 (S_X11_toss_96 ⟨by rw [if_neg g1, if_neg g2, if_neg g3]; exact e4, e5, e6, rfl⟩)
  · exact S_X11_toss_85 (S_X11_toss_96 ⟨by rw [if_neg g1, if_neg g2, if_pos g3]; exact e3, e5, e6, rfl⟩)
  · exact S_X11_toss_73 (S_X11_toss_96 ⟨by rw [if_neg g1, if_pos g2]; exact e2, e5, e6, rfl⟩)
  · exact S_X11_toss_61 (S_X11_toss_96 ⟨by rw [if_pos g1]; exact e1, e5, e6, rfl⟩)
theorem c_mtoss0 {X : CX} {I R : PF} {w f a : Int} (hw : inR w) (hf : inR f) (ha : inR a) (h55 : I 306 55 = 0 ∨ I 306 55 = 1) (hc : ¬ (I 306 55 = 1 ∧ (0 ≤ w ∧ w < 9 ∧ 0 ≤ f ∧ f ≤ 3) ∧ 0 ≤ a ∧ a ≤ 3)) :
    CN X 7 mX11_toss [(2, 306), (0, w), (0, f), (0, a)] I R (fun v I' R' => v.2 = -1 ∧ I' = I ∧ R' = R) := by
  refine callee_b (by decide +kernel) (Nat.le_of_ble_eq_true rfl) rfl ?_
  have no : PN X 7 mX11_toss 43 [] [] I R (fun v I' R' => v.2 = -1 ∧ I' = I ∧ R' = R) := S_X11_toss_43 ⟨rfl, rfl, rfl⟩
  refine S_X11_toss_0 (by omega) (fun _ => no) (fun g0 => ?_)
  refine S_X11_toss_7 (d1 := 1) hw (by omega) (c_isIn hw (by decide) (by decide)) (fun z I1 R1 q => ?_)
  obtain ⟨(hz : z = _), rfl, rfl⟩ := q
  have b := bi_r (0 ≤ w ∧ w ≤ 8)
  refine S_X11_toss_16 (by omega) (fun _ => no) (fun g => ?_)
  have c1 := bi_1 (by rw [← hz]; exact g)
  refine S_X11_toss_19 (d1 := 1) hf (by omega) (c_isIn hf (by decide) (by decide)) (fun z2 I2 R2 q => ?_)
  obtain ⟨(hz2 : z2 = _), rfl, rfl⟩ := q
  have b2 := bi_r (0 ≤ f ∧ f ≤ 3)
  refine S_X11_toss_28 (by omega) (fun _ => no) (fun g2 => ?_)
  have c2 := bi_1 (by rw [← hz2]; exact g2)
  refine S_X11_toss_31 (d1 := 1) ha (by omega) (c_isIn ha (by decide) (by decide)) (fun z3 I3 R3 q => ?_)
  obtain ⟨(hz3 : z3 = _), rfl, rfl⟩ := q
  have b3 := bi_r (0 ≤ a ∧ a ≤ 3)
  refine S_X11_toss_40 (by omega) (fun g3 => ?_) (fun _ => no)
  have c3 := bi_1 (by rw [← hz3]; exact g3)
  exact absurd ⟨by omega, ⟨c1.1, by omega, c2.1, c2.2⟩, c3.1, c3.2⟩ hc
/-- a call that throws, told: the class's course, then the model's -/
theorem Both.fly {X : CX} {dx dm : Nat} {mx mm : MD} {A : List PV} {I R : PF} {p o u : Int} {D : PF} (h : Sim I R) (hp : Plc R p o) (hx : CN X dx mx ((2, 64) :: A) I R (fun v I' R' => v.2 = u ∧ bd (I' 131 5) ∧ FR (fun x y => scC p o x y ∨ scM x y) I I' ∧ (∀ y, I' 348 y = I 348 y) ∧ (∀ y, I' 342 y = I 342 y) ∧ FR scR R R'))
    (hT : Tld D p I) (hm : ∀ J S, Shp S → ST D J → J 342 = I 342 → J 348 = I 348 → sdR (J 306 78) → J 306 72 = 0 → Seen D J → CN X dm mm ((2, 306) :: A) J S (fun v I' R' => v.2 = u ∧ FR scM J I' ∧ R' = S)) : Both X dx dm mx mm A I R :=
  Callee.mono hx (fun v I1 R1 q => by
    obtain ⟨q1, q2, q3, q4, q5, q6⟩ := q
    have S1 : Sim I1 R1 := h.sc hp q3 q6 q2
    have T1 := hT.sc hp.2.2 q3
    refine Callee.mono (hm I1 R1 S1.1 T1.2.2.2.2.1 (funext q5) (funext q4) S1.2.2.2.1.2.2.1.2 S1.2.2.2.1.2.2.2.2.1 T1.2.2.2.2.2.2.2.2) (fun v2 I2 R2 q => ?_)
    obtain ⟨w1, w2, rfl⟩ := q
    refine ⟨w1.trans q1.symm, S1.sc (hp.sc q6) (w2.mono (fun x y c => Or.inr c)) FR.rf ?_⟩
    rw [w2 _ _ (fun c => by unfold scM at c; omega)]; exact q2)
theorem mQy_8 {p : Int} (hp : p = 72 ∨ p = 91) {I J : PF} (f : FR (mQy p) I J) : (∀ y, J 348 y = I 348 y) ∧ ∀ y, J 342 y = I 342 y := by
  have n : ∀ x y, (x = 348 ∨ x = 342) → ¬ mQy p x y := fun x y hx c => by
    unfold mQy mFy mSt1 mWd mCa mPr at c
    omega
  exact ⟨fun y => f _ _ (n _ _ (Or.inl rfl)), fun y => f _ _ (n _ _ (Or.inr rfl))⟩
theorem b_toss {X : CX} {I R : PF} {w f a : Int} (h : Sim I R) (hw : inR w) (hf : inR f) (ha : inR a) : Both X 6 7 mX10_toss mX11_toss [(0, w), (0, f), (0, a)] I R := by
  obtain ⟨hs, -, -, hm, p, o, hp, hT⟩ := id h
  have hv := h.vw hp
  have v6 := hv.2.2.2.2.2.1
  have r := hv.2.2.2.2.2.2.1
  by_cases hc : I 306 55 = 1 ∧ (0 ≤ w ∧ w < 9 ∧ 0 ≤ f ∧ f ≤ 3) ∧ 0 ≤ a ∧ a ≤ 3
  · rcases hT with hT | ⟨D, hT⟩
    · exact absurd (hT.2.1.symm.trans hc.1) (by decide)
    have hpp : p = 72 ∨ p = 91 := by rcases hp.2.2 with ⟨c, -⟩ | ⟨c, -⟩ <;> omega
    refine Both.fly (D := D) (u := tosV (flyR D I (I 348 0) 0 (D 341 4).toNat (bit D w f.toNat (twD D)) (P0 I) 0 0 0) a) h hp (Callee.mono (c_xtoss hs hp hT hm.2.2.2.2.2.1 ⟨hc.2.1.1, hc.2.1.2.1⟩ hc.2.1.2.2 hc.2.2) (fun v I' R' q => ?_)) hT (fun J S s1 s2 s3 s4 s5 s6 s7 => Callee.mono (c_mtoss (K := I) s1 s2 s3 s4 hT.1 hT.2.1 hT.2.2.2.2.2.1 s5 ⟨hc.2.1.1, hc.2.1.2.1⟩ hc.2.1.2.2 hc.2.2) (fun v I' R' q => ?_))
    · obtain ⟨q1, q2, q3, q4⟩ := q
      exact ⟨q1, q2, mQy_sc q3, (mQy_8 hpp q3).1, (mQy_8 hpp q3).2, q4⟩
    · obtain ⟨q1, q2, q3, q4⟩ := q
      exact ⟨q1, mGo_M q3 q2, q4⟩
  · exact Both.same h (c_xtoss0 hp (by unfold inR; omega) hw hf ha (by omega)) (c_mtoss0 hw hf ha (by omega) hc)
