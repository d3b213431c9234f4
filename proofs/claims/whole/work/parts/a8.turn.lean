/-! ===== noons, chance ===== -/
theorem nxK_hi {K : PF} {who b y : Int} (hw : who < 6) (hy : 33 ≤ y) : nxK true K who b 348 y = (if K 348 33 = 40 then (if 34 ≤ y ∧ y < 151 then K 348 (y + 3) else if y = 151 then K 348 0 else if y = 152 then (if who = -1 then 255 else who) else if y = 153 then b else K 348 y)
      else (if y = 33 then K 348 33 + 1 else if y = 34 + 3 * K 348 33 then K 348 0 else if y = 34 + 3 * K 348 33 + 1 then (if who = -1 then 255 else who) else if y = 34 + 3 * K 348 33 + 2 then b else K 348 y)) := by
  have w : ∀ z, 33 ≤ z → wnK K who 348 z = K 348 z := fun z hz => by unfold wnK; rw [if_pos rfl, if_neg (by omega), if_neg (by omega), if_neg (by omega)]
  have w0 : wnK K who 348 0 = K 348 0 := by unfold wnK; rw [if_pos rfl, if_neg (by decide), if_neg (by decide), if_neg (by omega)]
  show inK (kpK (wnK K who) b) 348 y = _
  unfold inK
  rw [u2_j (by omega)]
  unfold kpK
  rw [if_pos rfl, w 33 (by decide), w0, wnK_1, w y hy, w (y + 3) (by omega)]
theorem PaL.kp {K : PF} {len who b : Int} {I I' K' : PF} (h : PaL K len I) (hw : -1 ≤ who ∧ who < 6) (e8 : K' 348 = nxK true K who b 348) (h0 : I' 138 len = K 348 0) (h1 : I' 139 len = if who = -1 then 255 else who) (h2 : I' 140 len = b) (hI : ∀ w j, 0 ≤ w → w < 3 → j < len → I' (138 + w) j = I (138 + w) j) : PaL K' (len + 1) I' := by
  obtain ⟨a1, a2, a3, a4⟩ := h
  have e : ∀ y, K' 348 y = nxK true K who b 348 y := fun y => by rw [e8]
  refine ⟨by omega, ?_, ?_, fun k w k0 k1 w0 w1 => ?_⟩
  · rw [e, nxK_0 (by omega) hw]; omega
  · rw [e, nxK_hi hw.2 (by decide)]
    by_cases c : K 348 33 = 40
    · rw [if_pos c, if_neg (by decide), if_neg (by decide), if_neg (by decide), if_neg (by decide)]; omega
    · rw [if_neg c, if_pos rfl]; omega
  · rw [e, nxK_hi hw.2 (by omega)]
    have w3 : w = 0 ∨ w = 1 ∨ w = 2 := by omega
    by_cases c : K 348 33 = 40
    · rw [if_pos c]
      by_cases ck : k = 39
      · have p : len + 1 - min (len + 1) 40 + k = len := by omega
        rw [p, ck, if_neg (by omega)]
        rcases w3 with rfl | rfl | rfl
        · rw [if_pos (by decide)]; exact h0.symm
        · rw [if_neg (by decide), if_pos (by decide)]; exact h1.symm
        · rw [if_neg (by decide), if_neg (by decide), if_pos (by decide)]; exact h2.symm
      · rw [if_pos (by omega), hI w _ w0 w1 (by omega), show 34 + 3 * k + w + 3 = 34 + 3 * (k + 1) + w by omega, a4 (k + 1) w (by omega) (by omega) w0 w1]
        exact congrArg (I (138 + w)) (by omega)
    · rw [if_neg c, if_neg (by omega)]
      by_cases ck : k = len
      · have p : len + 1 - min (len + 1) 40 + k = len := by omega
        rw [p, ck]
        rcases w3 with rfl | rfl | rfl
        · rw [if_pos (by omega)]; exact h0.symm
        · rw [if_neg (by omega), if_pos (by omega)]; exact h1.symm
        · rw [if_neg (by omega), if_neg (by omega), if_pos (by omega)]; exact h2.symm
      · rw [if_neg (by omega), if_neg (by omega), if_neg (by omega), hI w _ w0 w1 (by omega), a4 k w k0 (by omega) w0 w1]
        exact congrArg (I (138 + w)) (by omega)
def kee (I : PF) (len a w b : Int) : PF := u2 (u2 (u2 (u2 I 138 len a) 139 len (if w = -1 then 255 else w)) 140 len b) 136 1 (len + 1)
theorem c_keep {X : CX} {I R : PF} {len a w b : Int} (hs : Shp R) (hl : I 136 1 = len) (hr : 0 ≤ len ∧ len < 999) (hw : inR w) : CN X 0 mX4_keep [(2, 136), (0, a), (0, w), (0, b)] I R (fun _ I' R' => I' = kee I len a w b ∧ R' = R) := by
  refine callee_b (by decide +kernel) (Nat.le_of_ble_eq_true rfl) rfl ?_
  have e1 : ∀ J : PF, (u2 J 138 len a) 136 1 = J 136 1 := fun J => u2_o (by decide)
  have go : ∀ v, PN X 0 mX4_keep 44 [(2, 136), (9, 0), (9, 0), (0, b)] [(0, v), (0, (u2 I 138 (I 136 1) a) 136 1), (2, 139)] (u2 I 138 (I 136 1) a) R (fun _ I' R' => I' = u2 (u2 (u2 (u2 I 138 len a) 139 len v) 140 len b) 136 1 (len + 1) ∧ R' = R) := fun v => by
    rw [hl, e1, hl]
    have e2 : (u2 (u2 I 138 len a) 139 len v) 136 1 = len := by rw [u2_o (by decide), u2_o (by decide)]; exact hl
    have e3 : (u2 (u2 (u2 I 138 len a) 139 len v) 140 len b) 136 1 = len := by rw [u2_o (by decide)]; exact e2
    refine S_X4_keep_44 (t1 := 140) hs kM139 (by rw [nM139]; exact hr) (by rw [nM139]; decide) (rM137_2 hs) kM140 (by rw [e2, nM140]; exact hr) (by rw [nM140]; decide) ?_
    rw [e2, e3]
    exact S_X4_keep_67 ⟨rfl, rfl⟩
  refine S_X4_keep_0 (by omega) (fun g => by omega) (fun _ => S_X4_keep_10 (t1 := 138) (t2 := 139) hs (rM137_0 hs) kM138 (by rw [hl, nM138]; exact hr) (by rw [nM138]; decide) (rM137_1 hs) hw (fun g => S_X4_keep_43 ?_) (fun g => S_X4_keep_37 ?_))
  · unfold kee; rw [if_neg g]; exact go w
  · unfold kee; rw [if_pos g]; exact go 255
theorem c_canTurn {X : CX} {I R : PF} {p o n : Int} (hs : Shp R) (hp : Plc R p o) (h0 : inR (I p 0)) (hn : inR n) (hno : 0 ≤ I 111 0 ∧ I 111 0 ≤ 999) : CN X 1 mX10_canTurn [(2, 64), (0, n)] I R (fun v I' R' => v.2 = bi (0 < I p 0 ∧ 1 ≤ n ∧ n ≤ 100 ∧ I 111 0 + n ≤ 999) ∧ I' = I ∧ R' = R) := by
  refine callee_b (by decide +kernel) (Nat.le_of_ble_eq_true rfl) rfl ?_
  have no : ¬ (0 < I p 0 ∧ 1 ≤ n ∧ n ≤ 100 ∧ I 111 0 + n ≤ 999) → PN X 1 mX10_canTurn 37 [] [] I R (fun v I' R' => v.2 = bi (0 < I p 0 ∧ 1 ≤ n ∧ n ≤ 100 ∧ I 111 0 + n ≤ 999) ∧ I' = I ∧ R' = R) := fun c => S_X10_canTurn_37 (S_X10_canTurn_38 (by decide) ⟨(bi_f c).symm, rfl, rfl⟩)
  refine S_X10_canTurn_0 (d1 := 0) (by omega) (c_isToldX hp h0) (fun z I1 R1 q => ?_)
  obtain ⟨(hz : z = _), rfl, rfl⟩ := q
  have b := bi_r (0 < I1 p 0)
  refine S_X10_canTurn_4 (by omega) (fun g => no (fun c => bi_0 (hz.symm.trans g) c.1)) (fun g => ?_)
  have c := bi_1 (c := 0 < I1 p 0) (by rw [← hz]; exact g)
  refine S_X10_canTurn_7 hn (fun g1 => no (fun c => by omega)) (fun g1 => S_X10_canTurn_12 hn (fun g2 => no (fun c => by omega)) (fun g2 => ?_))
  exact S_X10_canTurn_18 hs (by omega) (fun g3 => no (fun c => by omega)) (fun g3 => S_X10_canTurn_33 (S_X10_canTurn_38 (by decide) ⟨(bi_t ⟨c, g1, g2, g3⟩).symm, rfl, rfl⟩))
def tuC (p dz x y : Int) : Prop := mPy p 111 dz x y ∨ (138 ≤ x ∧ x ≤ 140) ∨ (x = 136 ∧ y = 1)
/-- noons gone, in the class -/
def TuC (D : PF) (S : PF × Int × Int) (p dz : Int) (I Ia : PF) (k : Int) (J : PF) : Prop := StC D S.1 111 J ∧ QR D p J ∧ LR D p J ∧ bd (J 131 5) ∧ (dz = 303 → J 303 0 = S.2.1 ∧ J 303 1 = S.2.2) ∧ PaL S.1 (I 136 1 + k) J ∧ J 136 1 = I 136 1 + k ∧ (∀ w j, 0 ≤ w → w < 3 → j < I 136 1 → J (138 + w) j = I (138 + w) j) ∧ FR (tuC p dz) Ia J
noncomputable def wcF (D K : PF) (dr sd gm : Int) (n : Nat) : Int := cnt (fun j => ¬ (sqF true D dr (j.toNat + 1) (K, sd, gm)).1 348 1 = -1) n
theorem c_turn {X : CX} {I R D : PF} {p o n dz dr sd gm : Int} (h : Sim I R) (hp : Plc R p o) (hT : Tld D p I) (hn : 1 ≤ n ∧ n ≤ 100 ∧ I 348 0 + n ≤ 999) (hdz : dr = 0 ∧ dz = 0 ∨ dr = 1 ∧ dz = 303) (hsd : sdR sd) (h6 : dz = 303 → I 303 0 = sd ∧ I 303 1 = gm) :
    CN X 7 mX10_turn [(2, 64), (0, n), (2, dz)] I R (fun v I' R' => v.2 = wcF D I dr sd gm n.toNat ∧ (∃ Ia, RemP D I Ia ∧ TuC D (sqF true D dr n.toNat (I, sd, gm)) p dz I Ia n I') ∧ FR scR R R') := by
  have hs := h.1
  have sm := h.2.2.2.1
  refine callee_b (by decide +kernel) (Nat.le_of_ble_eq_true rfl) rfl ?_
  have k33 := hT.k33
  obtain ⟨hG, hW, hQ, hL, hST, hK, hS, hP, -⟩ := id hT
  have hD := hG.2.1
  have hpp := sq_o (plc_k hp).1
  have h5 := hP.2.1
  have h51 := hP.2.2.1
  have h52 := hP.2.2.2.1
  have c4 := sm.2.2.2.2.2.2.1
  have a1 := hP.1.1
  have a2 := hP.1.2.1
  refine S_X10_turn_0 (d1 := 2) hs (by omega) (c_remember hs hG hS sm.2.2.2.2.2.2.1 (by omega)) (fun z4 Ia R4 r => ?_)
  obtain ⟨r1, r2, r3, r4, r5, rfl⟩ := r
  have e0 : ∀ x y, ¬ reC (I 136 4) x y → Ia x y = I x y := r5
  have lp : ∀ (f k : Nat) (J S : PF), n.toNat - k < f → k ≤ n.toNat → Shp S → Plc S p o → FR scR R4 S → TuC D (sqF true D dr k (I, sd, gm)) p dz I Ia k J →
      PN X 7 mX10_turn 16 [(2, 64), (0, n), (2, dz), (0, wcF D I dr sd gm k), (0, (k : Int))] [] J S (fun v I' R' => v.2 = wcF D I dr sd gm n.toNat ∧ (∃ Ia, RemP D I Ia ∧ TuC D (sqF true D dr n.toNat (I, sd, gm)) p dz I Ia n I') ∧ FR scR R4 R') := by
    intro f
    induction f with
    | zero => intro k J S h; exact absurd h (Nat.not_lt_zero _)
    | succ f ih =>
      intro k J S hf hk hsS hpS hfS hJ
      have kp := (plc_k hpS).1
      refine S_X10_turn_16 (by omega) (by omega) (fun g => ?_) (fun g => ?_)
      · obtain rfl : k = n.toNat := by omega
        rw [show ((n.toNat : Nat) : Int) = n by omega] at hJ
        exact S_X10_turn_90 ⟨rfl, ⟨Ia, ⟨r1, r2, r3, r4, r5⟩, hJ⟩, hfS⟩
      obtain ⟨t1, t2, t3, t4, t5⟩ := sq_ok (kp := true) (dr := dr) (gm := gm) hG hK k33 hsd k (by omega)
      obtain ⟨u1, u2', u3, u4, u5⟩ := sq_ok (kp := true) (dr := dr) (gm := gm) hG hK k33 hsd (k + 1) (by omega)
      obtain ⟨b1, b2, b3, b4, b5, b6, b7, b8, b9⟩ := hJ
      have e0J : J 111 0 = I 348 0 + k := b1.1.1.trans t2
      refine S_X10_turn_22 (d1 := 6) (t1 := p) hsS hpS.1 (by omega) (c_playNoon (kp := true) (K := (sqF true D dr k (I, sd, gm)).1) (dr := dr) (sd := (sqF true D dr k (I, sd, gm)).2.1) (gm := (sqF true D dr k (I, sd, gm)).2.2) hsS kp hdz (Or.inl rfl) hG hW t1 t3.1 (by omega) b2 b3 b1 b4 (fun c => ⟨(b5 c).1, t4, (b5 c).2⟩)) (fun z1 J1 S1 r => ?_)
      obtain ⟨q1, q2, q3, q4, q5, q6, q7, rfl⟩ := r
      have hs1 := pR_s hsS p 111 dz
      have hp1 : Plc (pR S p 111 dz) p o := hpS.sc (pR_scR _ _ _ _)
      have nw : ∀ x y, (136 ≤ x ∧ x ≤ 142) → J1 x y = J x y := fun x y c => q7 x y (fun d => by unfold mPy mFy mSt1 mWd mCa mPr stC at d; omega)
      have wr := nnR_r (K := (sqF true D dr k (I, sd, gm)).1) (dr := dr) (sd := (sqF true D dr k (I, sd, gm)).2.1) (gm := (sqF true D dr k (I, sd, gm)).2.2) hG
      have k1 : J1 111 1 = (nnR D (sqF true D dr k (I, sd, gm)).1 dr (sqF true D dr k (I, sd, gm)).2.1 (sqF true D dr k (I, sd, gm)).2.2).1 := q1.1.2.1.trans (by rw [nxK_lo t3.1 (by omega) (by decide) (by decide), wnK_1])
      refine S_X10_turn_47 (d1 := 0) hs1 (by omega) (c_keep (len := I 136 1 + k) hs1 ((nw _ _ ⟨by decide, by decide⟩).trans b7) ⟨by omega, by omega⟩ (by unfold inR; omega)) (fun z2 J2 S2 r => ?_)
      obtain ⟨rfl, rfl⟩ := r
      have fk : FR (fun x y => (138 ≤ x ∧ x ≤ 140 ∧ y = I 136 1 + k) ∨ (x = 136 ∧ y = 1)) J1 (kee J1 (I 136 1 + k) (J 111 0) (J1 111 1) (J1 127 6)) := (((FR_u2 (Or.inl ⟨by decide, by decide, rfl⟩)).tr (FR_u2 (Or.inl ⟨by decide, by decide, rfl⟩))).tr (FR_u2 (Or.inl ⟨by decide, by decide, rfl⟩))).tr (FR_u2 (Or.inr ⟨rfl, rfl⟩))
      have v138 : kee J1 (I 136 1 + k) (J 111 0) (J1 111 1) (J1 127 6) 138 (I 136 1 + k) = J 111 0 := by unfold kee; rw [u2_o (by decide), u2_o (by decide), u2_o (by decide), u2_at]
      have v139 : kee J1 (I 136 1 + k) (J 111 0) (J1 111 1) (J1 127 6) 139 (I 136 1 + k) = if J1 111 1 = -1 then 255 else J1 111 1 := by unfold kee; rw [u2_o (by decide), u2_o (by decide), u2_at]
      have v140 : kee J1 (I 136 1 + k) (J 111 0) (J1 111 1) (J1 127 6) 140 (I 136 1 + k) = J1 127 6 := by unfold kee; rw [u2_o (by decide), u2_at]
      have v136 : kee J1 (I 136 1 + k) (J 111 0) (J1 111 1) (J1 127 6) 136 1 = I 136 1 + k + 1 := by unfold kee; rw [u2_at]
      generalize hJ2 : kee J1 (I 136 1 + k) (J 111 0) (J1 111 1) (J1 127 6) = J2 at *
      have nk : ∀ x y, ¬ ((138 ≤ x ∧ x ≤ 140 ∧ y = I 136 1 + k) ∨ (x = 136 ∧ y = 1)) → J2 x y = J1 x y := fk
      have hS2 : StC D (sqF true D dr (k + 1) (I, sd, gm)).1 111 J2 := q1.fr ⟨by omega, by omega⟩ (fun x y c => nk _ _ (by unfold stC at c; omega))
      have hJ' : TuC D (sqF true D dr (k + 1) (I, sd, gm)) p dz I Ia (k + 1) J2 := by
        refine ⟨hS2, q2.f2 (fun x x0 x1 _ _ => funext fun y => nk _ _ (by omega)) hG, fun j j0 j1 => by rw [nk _ _ (by omega)]; exact q3 j j0 j1, by rw [nk _ _ (by omega)]; exact q4, fun c => ?_, ?_, by rw [v136]; omega, fun w j w0 w1 hj => ?_, b9.tr ?_⟩
        · rw [nk _ _ (by omega), nk _ _ (by omega)]; exact q6 c
        · rw [show I 136 1 + ((k : Int) + 1) = I 136 1 + k + 1 by omega]
          refine b6.kp (who := J1 111 1) (b := J1 127 6) (by omega) ?_ (v138.trans b1.1.1) v139 v140 (fun w j w0 w1 hj => (nk _ _ (by omega)).trans (nw _ _ (by omega)))
          rw [k1, q5]; rfl
        · rw [nk _ _ (by omega), nw _ _ (by omega)]; exact b8 w j w0 w1 hj
        · exact (q7.mono (fun x y c => Or.inl c)).tr (fk.mono (fun x y c => Or.inr (by omega)))
      have nx := ih (k + 1) J2 (pR S p 111 dz) (by omega) (by omega) hs1 hp1 (hfS.tr (pR_scR _ _ _ _)) (by rw [show ((k + 1 : Nat) : Int) = (k : Int) + 1 by omega]; exact hJ')
      rw [show ((k + 1 : Nat) : Int) = (k : Int) + 1 by omega] at nx
      have e1 : J2 111 1 = (sqF true D dr (k + 1) (I, sd, gm)).1 348 1 := hS2.1.2.1
      have ub := u1.2.1
      have wc : wcF D I dr sd gm (k + 1) = cif (¬ (sqF true D dr (k + 1) (I, sd, gm)).1 348 1 = -1) (wcF D I dr sd gm k + 1) (wcF D I dr sd gm k) := by
        unfold wcF; rw [cnt]; simp only [Int.toNat_natCast]
      refine S_X10_turn_70 hs1 (by omega) (fun g3 => S_X10_turn_84 ?_) (fun g3 => S_X10_turn_81 (S_X10_turn_84 ?_))
      · rw [wc, cif_f (fun c => c (e1.symm.trans g3))] at nx; exact nx
      · rw [wc, cif_t (fun c => g3 (e1.trans c))] at nx; exact nx
  refine S_X10_turn_11 (lp (n.toNat + 1) 0 Ia R4 (by omega) (by omega) hs hp FR.rf ?_)
  have en : ∀ x y, (x ≤ 135 ∨ (138 ≤ x ∧ x ≤ 140) ∨ (x = 136 ∧ y = 1) ∨ 303 ≤ x) → Ia x y = I x y := fun x y c => e0 x y (fun d => by unfold reC stC at d; omega)
  refine ⟨hS.fr ⟨by omega, by omega⟩ (fun x y c => en x y (by unfold stC at c; omega)), hQ.f2 (fun x x0 x1 _ _ => funext fun y => en _ _ (by omega)) hG, fun j j0 j1 => by rw [en _ _ (by omega)]; exact hL j j0 j1, by rw [en _ _ (by omega)]; exact sm.2.2.2.2.2.1, fun c => ?_, ?_, ?_, fun w j w0 w1 _ => en _ _ (by omega), FR.rf⟩
  · rw [en _ _ (by omega), en _ _ (by omega)]; exact h6 c
  · show PaL I (I 136 1 + ((0 : Nat) : Int)) Ia
    rw [show I 136 1 + ((0 : Nat) : Int) = I 136 1 by omega]
    exact hP.1.cg (fun y _ _ => rfl) (fun w j w0 w1 _ => en _ _ (by omega))
  · rw [en _ _ (by omega)]; omega
