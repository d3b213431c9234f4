/-! ===== the class plays a noon ===== -/
theorem c_wayNow {X : CX} {I R : PF} {D K : PF} {s : Int} (hs : Shp R) (hss : s = 111 ∨ s = 119) (hG : GD D) (hK : KG D K) (hS : StC D K s I) : CN X 1 mX8_wayNow [(2, s)] I R (fun v I' R' => v.2 = wyK K ∧ I' = I ∧ R' = R) := by
  refine callee_b (by decide +kernel) (Nat.le_of_ble_eq_true rfl) rfl ?_
  have hD := hG.2.1
  have k2 := hK.2.1
  have ks : kd MF s = 8 := by rcases hss with rfl | rfl <;> decide +kernel
  obtain ⟨⟨s0, s1, s2, s3⟩, sp⟩ := hS
  refine S_X8_wayNow_0 (d1 := 0) ks (by omega) (c_knows ks (by unfold inR; omega) (by unfold inR; omega)) (fun z I1 R1 q => ?_)
  obtain ⟨(hz : z = _), rfl, rfl⟩ := q
  have br := bi_r (0 ≤ I1 s 1 ∧ I1 s 1 < I1 s 3)
  refine S_X8_wayNow_8 (by omega) (fun g => ?_) (fun g => ?_)
  · have c := bi_0 (hz.symm.trans g)
    refine S_X8_wayNow_25 (S_X8_wayNow_26 ⟨?_, rfl, rfl⟩)
    unfold wyK; rw [if_pos (by omega)]
  · have c := bi_1 (by rw [← hz]; exact g)
    refine S_X8_wayNow_11 hs ks (by omega) (S_X8_wayNow_26 ⟨?_, rfl, rfl⟩)
    unfold wyK; rw [if_neg (by omega)]
    show I1 (s + 2 + I1 s 1) 5 = _
    rw [s1]; exact (sp _ (by omega) (by omega)).2.2.2.2.2.1
theorem c_forceNow {X : CX} {I R : PF} {D K : PF} {s : Int} (hs : Shp R) (hss : s = 111 ∨ s = 119) (hG : GD D) (hK : KG D K) (hS : StC D K s I) : CN X 1 mX8_forceNow [(2, s)] I R (fun v I' R' => v.2 = fcK K ∧ I' = I ∧ R' = R) := by
  refine callee_b (by decide +kernel) (Nat.le_of_ble_eq_true rfl) rfl ?_
  have hD := hG.2.1
  have k2 := hK.2.1
  have ks : kd MF s = 8 := by rcases hss with rfl | rfl <;> decide +kernel
  obtain ⟨⟨s0, s1, s2, s3⟩, sp⟩ := hS
  refine S_X8_forceNow_0 (d1 := 0) ks (by omega) (c_knows ks (by unfold inR; omega) (by unfold inR; omega)) (fun z I1 R1 q => ?_)
  obtain ⟨(hz : z = _), rfl, rfl⟩ := q
  have br := bi_r (0 ≤ I1 s 1 ∧ I1 s 1 < I1 s 3)
  refine S_X8_forceNow_8 (by omega) (fun g => ?_) (fun g => ?_)
  · have c := bi_0 (hz.symm.trans g)
    refine S_X8_forceNow_26 (S_X8_forceNow_27 ⟨?_, rfl, rfl⟩)
    unfold fcK; rw [if_pos (by omega)]
  · have c := bi_1 (by rw [← hz]; exact g)
    refine S_X8_forceNow_11 hs ks (by omega) (S_X8_forceNow_27 ⟨?_, rfl, rfl⟩)
    unfold fcK; rw [if_neg (by omega)]
    show I1 (s + 2 + I1 s 1) 6 = _
    rw [s1]; exact (sp _ (by omega) (by omega)).2.2.2.2.2.2.1
/-- the law of one, -1 for none -/
def lwO (K : PF) (w : Int) : Int := if w = -1 then -1 else K 342 (26 + 4 * w)
theorem c_lawOf {X : CX} {I R : PF} {D K : PF} {s w : Int} (hs : Shp R) (hss : s = 111 ∨ s = 119) (hG : GD D) (hS : StC D K s I) (hw : -1 ≤ w ∧ w < D 339 1) : CN X 1 mX8_lawOf [(2, s), (0, w)] I R (fun v I' R' => v.2 = lwO K w ∧ I' = I ∧ R' = R) := by
  refine callee_b (by decide +kernel) (Nat.le_of_ble_eq_true rfl) rfl ?_
  have hD := hG.2.1
  have ks : kd MF s = 8 := by rcases hss with rfl | rfl <;> decide +kernel
  obtain ⟨⟨s0, s1, s2, s3⟩, sp⟩ := hS
  refine S_X8_lawOf_0 (d1 := 0) (by omega) (c_knows ks (by unfold inR; omega) (by unfold inR; omega)) ks (fun z I1 R1 q => ?_)
  obtain ⟨(hz : z = _), rfl, rfl⟩ := q
  have br := bi_r (0 ≤ w ∧ w < I1 s 3)
  refine S_X8_lawOf_5 (by omega) (fun g => ?_) (fun g => ?_)
  · have c := bi_0 (hz.symm.trans g)
    refine S_X8_lawOf_19 (S_X8_lawOf_20 ⟨?_, rfl, rfl⟩)
    unfold lwO; rw [if_pos (by omega)]
  · have c := bi_1 (by rw [← hz]; exact g)
    refine S_X8_lawOf_8 hs ks (by omega) (S_X8_lawOf_20 ⟨?_, rfl, rfl⟩)
    unfold lwO; rw [if_neg (by omega)]
    exact (sp _ (by omega) (by omega)).2.2.2.2.1
theorem c_lawInForce {X : CX} {I R : PF} {D K : PF} {s : Int} (hs : Shp R) (hss : s = 111 ∨ s = 119) (hG : GD D) (hK : KG D K) (hS : StC D K s I) : CN X 2 mX8_lawInForce [(2, s)] I R (fun v I' R' => v.2 = lwO K (K 348 1) ∧ I' = I ∧ R' = R) := by
  refine callee_b (by decide +kernel) (Nat.le_of_ble_eq_true rfl) rfl ?_
  have k2 := hK.2.1
  have ks : kd MF s = 8 := by rcases hss with rfl | rfl <;> decide +kernel
  have s1 := hS.1.2.1
  refine S_X8_lawInForce_0 (d1 := 1) ks (by omega) (by rw [s1]; exact c_lawOf hs hss hG hS k2) (fun z I1 R1 q => ?_)
  obtain ⟨(hz : z = _), rfl, rfl⟩ := q
  exact S_X8_lawInForce_8 ⟨hz, rfl, rfl⟩
def tnO (w f : Int) : Int := if w = 0 then 0 else 4 * w - 3 + f
theorem c_throwNumber {X : CX} {I R : PF} {w f : Int} (hw : 0 ≤ w ∧ w < 9) : CN X 0 mX10_throwNumber [(0, w), (0, f)] I R (fun v I' R' => v.2 = tnO w f ∧ I' = I ∧ R' = R) := by
  refine callee_b (by decide +kernel) (Nat.le_of_ble_eq_true rfl) rfl ?_
  refine S_X10_throwNumber_0 (by omega) (fun g => ?_) (fun g => ?_)
  · exact S_X10_throwNumber_8 (S_X10_throwNumber_15 ⟨by unfold tnO; rw [if_neg g], rfl, rfl⟩)
  · exact S_X10_throwNumber_4 (S_X10_throwNumber_15 ⟨by unfold tnO; rw [if_pos g], rfl, rfl⟩)
theorem tnO_r {w f : Int} (hw : 0 ≤ w ∧ w < 9) (hf : 0 ≤ f ∧ f ≤ 3) : 0 ≤ tnO w f ∧ tnO w f < 33 := by unfold tnO; split <;> omega
theorem lnd_tn {D : PF} {w f : Int} (hG : GD D) (hw : 0 ≤ w ∧ w < 9) (hf : 0 ≤ f ∧ f ≤ 3) : lnd D (tnO w f) = bit D w f.toNat (D 341 2, D 341 3) := by
  unfold lnd tnO
  by_cases c : w = 0
  · subst c
    rw [if_pos rfl, show wayT 0 = 0 by decide, bit_0 (inQ_t hG), bit_0 (inQ_t hG)]
  · rw [if_neg c]
    have e1 : wayT (4 * w - 3 + f) = w := by unfold wayT; rw [if_neg (by omega)]; omega
    have e2 : fceT (4 * w - 3 + f) = f := by unfold fceT; rw [if_neg (by omega)]; omega
    rw [e1, e2]
theorem KG.wf {D K : PF} (h : KG D K) : (0 ≤ wyK K ∧ wyK K < 9) ∧ 0 ≤ fcK K ∧ fcK K ≤ 3 := by
  obtain ⟨-, h2, -, -, -, h6⟩ := h
  unfold wyK fcK
  by_cases c : K 348 1 = -1
  · rw [if_pos c, if_pos c]; decide
  · rw [if_neg c, if_neg c]
    obtain ⟨-, -, -, a4, a5, -⟩ := h6 (K 348 1) (by omega) (by omega)
    omega
def mPy (o s dz x y : Int) : Prop := mFy o dz x y ∨ mPr x y ∨ stC s x y
theorem c_playNoon {X : CX} {I R : PF} {kp : Bool} {D K : PF} {o s dz dr sd gm : Int} (hs : Shp R) (hk : kd MF o = 6) (hdz : dr = 0 ∧ dz = 0 ∨ dr = 1 ∧ dz = 303) (hss : s = 111 ∨ s = 119) (hG : GD D) (hW : WD D) (hK : KG D K) (h33 : 0 ≤ K 348 33) (hn : K 348 0 < 999) (hQ : QR D o I) (hL : LR D o I) (hS : StC D K s I) (h5 : bd (I 131 5)) (h6 : dz = 303 → I 303 0 = sd ∧ sdR sd ∧ I 303 1 = gm) :
    CN X 6 mX1_playNoon [(2, 127), (2, o), (2, s), (2, dz)] I R (fun _ I' R' => StC D (nxK kp K (nnR D K dr sd gm).1 (nnR D K dr sd gm).2.1) s I' ∧ QR D o I' ∧ LR D o I' ∧ bd (I' 131 5) ∧ I' 127 6 = (nnR D K dr sd gm).2.1 ∧ (dz = 303 → I' 303 0 = (nnR D K dr sd gm).2.2.2.1 ∧ I' 303 1 = (nnR D K dr sd gm).2.2.2.2) ∧ FR (mPy o s dz) I I' ∧ R' = pR R o s dz) := by
  refine callee_b (by decide +kernel) (Nat.le_of_ble_eq_true rfl) rfl ?_
  have hD := hG.2.1
  have hko := sq_o hk
  have ks : kd MF s = 8 := by rcases hss with rfl | rfl <;> decide +kernel
  have k1 := hK.1
  have hbn : bd (K 348 0) := by unfold bd; omega
  refine S_X1_playNoon_0 (d1 := 2) ks (by omega) (c_prepare hs) (fun z I1 R1 q => ?_)
  obtain ⟨q1, q2, q3, q4, q5, rfl⟩ := q
  rw [hS.1.1] at q1
  have hF := prep_F hk hss hG hQ hL hS h5 q1 q2 q3 q5
  have hs' := pR_s hs o s dz
  obtain ⟨r0, r1, r2⟩ := pR_v R o s dz
  obtain ⟨⟨w0, w1⟩, f0, f1⟩ := hK.wf
  refine S_X1_playNoon_11 (d1 := 1) hs' hk (by omega) (c_wayNow hs' hss hG hK hF.2.2.1) ks (fun z2 I2 R2 q => ?_)
  obtain ⟨(hz2 : z2 = _), rfl, rfl⟩ := q
  refine S_X1_playNoon_20 (d1 := 1) (by omega) (c_forceNow hs' hss hG hK hF.2.2.1) ks (fun z3 I2 R2 q => ?_)
  obtain ⟨(hz3 : z3 = _), rfl, rfl⟩ := q
  rw [hz2, hz3]
  refine S_X1_playNoon_24 (d1 := 0) (by omega) (c_throwNumber ⟨w0, w1⟩) (fun z4 I2 R2 q => ?_)
  obtain ⟨(hz4 : z4 = _), rfl, rfl⟩ := q
  have tr := tnO_r ⟨w0, w1⟩ ⟨f0, f1⟩
  have hl := hF.2.1 _ tr.1 tr.2
  rw [lnd_tn hG ⟨w0, w1⟩ ⟨f0, f1⟩] at hl
  rw [hz4]
  have q303 : ∀ y, I2 303 y = I 303 y := fun y => q5 _ _ (fun c => by unfold mPr at c; omega)
  have hq : inQ D (bit D (wyK K) (fcK K).toNat (D 341 2, D 341 3)) := bit_in hG (inQ_t hG) _
  refine S_X1_playNoon_27 (d1 := 5) (sq4 hk) (by have := sq4n hk; omega) (by have := sq4n hk; omega) (by omega) (by
    rw [hl]
    exact c_fly (K := K) (s := s) (sd := sd) (gm := gm) (dr := dr) (dz := dz) hs' r0 hk r1 r2 hdz hss hG hW hK hbn hF hq (fun c => by rw [q303, q303]; exact h6 c)) (fun z5 I3 R3 q => ?_)
  obtain ⟨hF3, hE, f3, rfl⟩ := q
  have wr := (flyR_r (D := D) (K := K) (noon := K 348 0) (dr := dr) (by omega) (D 341 4).toNat (bit D (wyK K) (fcK K).toNat (D 341 2, D 341 3)) (P0 K) sd gm 0).1
  obtain ⟨e1, e2, e3, e4, e5⟩ := hE
  refine S_X1_playNoon_31 (d1 := 1) (by omega) (by rw [e1]; exact c_wear (kp := kp) (b := (nnR D K dr sd gm).2.1) hs' hss hG hK h33 hF3.2.2.1 wr hn) ks (fun z6 I4 R4 q => ?_)
  obtain ⟨hS4, f4, rfl⟩ := q
  have st : ∀ x y, ¬ stC s x y → I4 x y = I3 x y := f4
  refine S_X1_playNoon_39 ⟨hS4, hF3.1.fr (fun x x0 x1 => funext fun y => st x y (fun c => by unfold stC at c; omega)) hG, fun k k0 k1 => ?_, ?_, ?_, fun c => ?_, ((q5.mono (fun x y c => Or.inr (Or.inl c))).tr (f3.mono (fun x y c => Or.inl c))).tr (f4.mono (fun x y c => Or.inr (Or.inr c))), rfl⟩
  · rw [st _ _ (fun c => by unfold stC at c; omega)]; exact hF3.2.1 k k0 k1
  · rw [st _ _ (fun c => by unfold stC at c; omega)]; exact hF3.2.2.2.1.2
  · rw [st _ _ (fun c => by unfold stC at c; omega)]; exact e2
  · rw [st _ _ (fun c => by unfold stC at c; omega), st _ _ (fun c => by unfold stC at c; omega)]; exact e5 c
