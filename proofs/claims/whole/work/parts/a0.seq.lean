/-! ===== noons one after another ===== -/
noncomputable def sqF (kp : Bool) (D : PF) (dr : Int) : Nat → PF × Int × Int → PF × Int × Int
  | 0, s => s
  | k + 1, s => (nxK kp (sqF kp D dr k s).1 (nnR D (sqF kp D dr k s).1 dr (sqF kp D dr k s).2.1 (sqF kp D dr k s).2.2).1 (nnR D (sqF kp D dr k s).1 dr (sqF kp D dr k s).2.1 (sqF kp D dr k s).2.2).2.1,
      (nnR D (sqF kp D dr k s).1 dr (sqF kp D dr k s).2.1 (sqF kp D dr k s).2.2).2.2.2.1, (nnR D (sqF kp D dr k s).1 dr (sqF kp D dr k s).2.1 (sqF kp D dr k s).2.2).2.2.2.2)
theorem nnR_r {D K : PF} {dr sd gm : Int} (hG : GD D) : -1 ≤ (nnR D K dr sd gm).1 ∧ (nnR D K dr sd gm).1 < D 339 1 := (flyR_r (by have := hG.2.1; omega) _ _ _ _ _ _).1
theorem nnR_b {D K : PF} {dr sd gm : Int} (hG : GD D) : 0 ≤ (nnR D K dr sd gm).2.1 ∧ (nnR D K dr sd gm).2.1 ≤ 9 := by
  have h := (flyR_r (D := D) (K := K) (noon := K 348 0) (dr := dr) (by have := hG.2.1; omega) (D 341 4).toNat (bit D (wyK K) (fcK K).toNat (D 341 2, D 341 3)) (P0 K) sd gm 0).2
  have hd := hG.1
  unfold nnR
  omega
theorem nnR_s {D K : PF} {dr sd gm : Int} (h : sdR sd) : sdR (nnR D K dr sd gm).2.2.2.1 := (flyR_s _ _ _ _ _ _ h).1
theorem nxK_342 {kp : Bool} {K : PF} {w b : Int} : nxK kp K w b 342 = K 342 := funext fun y => nxK_x (by decide) y
theorem sq_ok {kp : Bool} {D K : PF} {dr sd gm : Int} (hG : GD D) (hK : KG D K) (h33 : 0 ≤ K 348 33 ∧ K 348 33 ≤ 40) (hs : sdR sd) : ∀ k : Nat, K 348 0 + k ≤ 999 → KG D (sqF kp D dr k (K, sd, gm)).1 ∧ (sqF kp D dr k (K, sd, gm)).1 348 0 = K 348 0 + k ∧ (0 ≤ (sqF kp D dr k (K, sd, gm)).1 348 33 ∧ (sqF kp D dr k (K, sd, gm)).1 348 33 ≤ 40) ∧ sdR (sqF kp D dr k (K, sd, gm)).2.1 ∧ (sqF kp D dr k (K, sd, gm)).1 342 = K 342
  | 0, _ => ⟨hK, by show K 348 0 = K 348 0 + ((0 : Nat) : Int); omega, h33, hs, rfl⟩
  | k + 1, hk => by
    obtain ⟨i1, i2, i3, i4, i5⟩ := sq_ok (kp := kp) (dr := dr) (gm := gm) hG hK h33 hs k (by omega)
    have hD := hG.2.1
    unfold sqF
    generalize sqF kp D dr k (K, sd, gm) = s at *
    have r := nnR_r (K := s.1) (dr := dr) (sd := s.2.1) (gm := s.2.2) hG
    refine ⟨i1.nx hG i3.1 r (by omega), ?_, nxK_33 i3 (by omega), nnR_s i4, ?_⟩
    · show nxK kp s.1 (nnR D s.1 dr s.2.1 s.2.2).1 (nnR D s.1 dr s.2.1 s.2.2).2.1 348 0 = _
      rw [nxK_0 i3.1 (by omega), i2]; omega
    · show nxK kp s.1 (nnR D s.1 dr s.2.1 s.2.2).1 (nnR D s.1 dr s.2.1 s.2.2).2.1 342 = _
      rw [nxK_342]; exact i5
/-- thought noons leave what is kept -/
theorem sq_hi {D K : PF} {dr sd gm : Int} (hG : GD D) {y : Int} (hy : y < 0 ∨ 33 ≤ y) : ∀ k : Nat, (sqF false D dr k (K, sd, gm)).1 348 y = K 348 y
  | 0 => rfl
  | k + 1 => by
    have hD := hG.2.1
    have i := sq_hi (K := K) (dr := dr) (sd := sd) (gm := gm) hG hy k
    unfold sqF
    generalize sqF false D dr k (K, sd, gm) = s at *
    have r := nnR_r (K := s.1) (dr := dr) (sd := s.2.1) (gm := s.2.2) hG
    rw [← i]
    show inK (wnK s.1 _) 348 y = _
    unfold inK wnK
    rw [u2_j (by omega), if_pos rfl, if_neg (by omega), if_neg (by omega), if_neg (by omega)]
/-- without draws the seed stays -/
theorem nnR_0 {D K : PF} {sd gm : Int} : nnR D K 0 sd gm = ((nnR D K 0 0 0).1, (nnR D K 0 0 0).2.1, (nnR D K 0 0 0).2.2.1, sd, gm) := by
  unfold nnR; rw [flyR_0]
theorem sq_0 {kp : Bool} {D K : PF} {sd gm : Int} : ∀ k : Nat, sqF kp D 0 k (K, sd, gm) = ((sqF kp D 0 k (K, 0, 0)).1, sd, gm)
  | 0 => rfl
  | k + 1 => by
    have i := sq_0 (kp := kp) (D := D) (K := K) (sd := sd) (gm := gm) k
    have i0 := sq_0 (kp := kp) (D := D) (K := K) (sd := 0) (gm := 0) k
    have e : ∀ s g, nnR D (sqF kp D 0 k (K, 0, 0)).1 0 s g = ((nnR D (sqF kp D 0 k (K, 0, 0)).1 0 0 0).1, (nnR D (sqF kp D 0 k (K, 0, 0)).1 0 0 0).2.1, (nnR D (sqF kp D 0 k (K, 0, 0)).1 0 0 0).2.2.1, s, g) := fun s g => nnR_0
    unfold sqF
    rw [i]
    simp only
    rw [e sd gm, e (sqF kp D 0 k (K, 0, 0)).2.1 (sqF kp D 0 k (K, 0, 0)).2.2]
/-- how all stands k thought noons ahead -/
noncomputable def thK (D K : PF) (k : Nat) : PF := (sqF false D 0 k (K, 0, 0)).1
theorem thK_1 (D K : PF) (k : Nat) : thK D K (k + 1) = nxK false (thK D K k) (nnR D (thK D K k) 0 0 0).1 (nnR D (thK D K k) 0 0 0).2.1 := by
  have e : ∀ s g, nnR D (sqF false D 0 k (K, 0, 0)).1 0 s g = ((nnR D (sqF false D 0 k (K, 0, 0)).1 0 0 0).1, (nnR D (sqF false D 0 k (K, 0, 0)).1 0 0 0).2.1, (nnR D (sqF false D 0 k (K, 0, 0)).1 0 0 0).2.2.1, s, g) := fun s g => nnR_0
  unfold thK
  rw [sqF]
  simp only
  rw [e (sqF false D 0 k (K, 0, 0)).2.1 (sqF false D 0 k (K, 0, 0)).2.2]
theorem thK_ok {D K : PF} (hG : GD D) (hK : KG D K) (h33 : 0 ≤ K 348 33 ∧ K 348 33 ≤ 40) (k : Nat) (hk : K 348 0 + k ≤ 999) : KG D (thK D K k) ∧ thK D K k 348 0 = K 348 0 + k ∧ (0 ≤ thK D K k 348 33 ∧ thK D K k 348 33 ≤ 40) ∧ thK D K k 342 = K 342 := by
  obtain ⟨a, b, c, d, e⟩ := sq_ok (kp := false) (dr := 0) (sd := 0) (gm := 0) hG hK h33 (by unfold sdR; omega) k hk
  exact ⟨a, b, c, e⟩
/-- the cells that noons ahead change in the class -/
def mRy (p x y : Int) : Prop := mQy p x y ∨ stC 119 x y
theorem mRy_sc {p o : Int} {I J : PF} (f : FR (mRy p) I J) : FR (fun x y => scC p o x y ∨ scM x y) I J := f.mono (fun x y c => by
  rcases c with c | c
  · exact Or.inl (mQy_scC c)
  · have c2 : 119 ≤ x ∧ x ≤ 126 := by unfold stC at c; omega
    exact Or.inl (Or.inr (Or.inr (Or.inr (Or.inr (Or.inr (Or.inr (Or.inr (Or.inr (Or.inr (Or.inr (Or.inr (Or.inr (Or.inr (Or.inl c2)))))))))))))))
theorem mRy_n {p : Int} (hp : p = 72 ∨ p = 91) {I J : PF} (f : FR (mRy p) I J) : ∀ x y, (x = 348 ∨ x = 342 ∨ (x = 131 ∧ y = 10) ∨ x = 111 ∨ (112 ≤ x ∧ x ≤ 118)) → x ≠ 131 → J x y = I x y := fun x y hx h1 => f x y (fun c => by
  rcases c with c | c
  · unfold mQy mFy mSt1 mWd mCa mPr at c; omega
  · unfold stC at c; omega)
theorem mPy_Ry {p : Int} {I J : PF} (f : FR (mPy p 119 0) I J) : FR (mRy p) I J := f.mono (fun x y c => by
  rcases c with c | c | c
  · exact Or.inl (Or.inl c)
  · exact Or.inl (Or.inr c)
  · exact Or.inr c)
/-- the class amid noons ahead: other stands as K tells -/
def AhC (D K : PF) (p : Int) (I : PF) : Prop := QR D p I ∧ LR D p I ∧ StC D K 119 I ∧ bd (I 131 5)
theorem c_ahead {X : CX} {I R D K : PF} {p o : Int} (hs : Shp R) (hp : Plc R p o) (hG : GD D) (hW : WD D) (hK : KG D K) (h33 : 0 ≤ K 348 33) (hn : K 348 0 < 999) (hA : AhC D K p I) :
    CN X 6 mX1_playNoon [(2, 127), (2, p), (2, 119), (2, 0)] I R (fun _ I' R' => AhC D (nxK false K (nnR D K 0 0 0).1 (nnR D K 0 0 0).2.1) p I' ∧ FR (mRy p) I I' ∧ Shp R' ∧ Plc R' p o ∧ FR scR R R') := by
  have kp := (plc_k hp).1
  obtain ⟨hQ, hL, hS, h5⟩ := hA
  refine Callee.mono (c_playNoon (kp := false) (K := K) (s := 119) (dz := 0) (dr := 0) (sd := 0) (gm := 0) hs kp (Or.inl ⟨rfl, rfl⟩) (Or.inr rfl) hG hW hK h33 hn hQ hL hS h5 (fun c => absurd c (by decide))) (fun v I' R' q => ?_)
  obtain ⟨q1, q2, q3, q4, -, -, q7, rfl⟩ := q
  exact ⟨⟨q2, q3, q1, q4⟩, mPy_Ry q7, pR_s hs _ _ _, hp.sc (pR_scR _ _ _ _), pR_scR _ _ _ _⟩
/-- other as now -/
theorem c_other {X : CX} {I R D : PF} {p o : Int} (hs : Shp R) (hp : Plc R p o) (hT : Tld D p I) (h5 : bd (I 131 5)) : CN X 1 mX8_copyFrom [(2, 119), (2, 111)] I R (fun _ I' R' => AhC D I p I' ∧ FR (mRy p) I I' ∧ R' = R) := by
  have kp := (plc_k hp).1
  have hpp := sq_o kp
  obtain ⟨hG, hW, hQ, hL, hST, hK, hS, -⟩ := hT
  have hD := hG.2.1
  have e3 := hS.1.2.2.2
  refine Callee.mono (c_copyFrom hs kM119 kM111 (by decide) (by omega)) (fun v I3 R3 r => ?_)
  obtain ⟨x0, x1, x2, x3, x4, x5, rfl⟩ := r
  have n119 : ∀ x y, (x ≤ 118 ∨ 127 ≤ x) → I3 x y = I x y := fun x y c => x5 x y (fun k => by unfold stC at k; omega)
  refine ⟨⟨hQ.fr (fun x a b => funext fun y => n119 x y (by omega)) hG, fun k k0 k1' => by rw [n119 _ _ (by omega)]; exact hL k k0 k1', ⟨⟨x0.trans hS.1.1, x1.trans hS.1.2.1, x2.trans hS.1.2.2.1, x3.trans hS.1.2.2.2⟩, fun r r0 r1 => ?_⟩, by rw [n119 _ _ (by omega)]; exact h5⟩, x5.mono (fun x y c => Or.inr c), rfl⟩
  rw [x4 r 0 r0 (by omega) (by decide) (by decide), x4 r 1 r0 (by omega) (by decide) (by decide), x4 r 2 r0 (by omega) (by decide) (by decide), x4 r 3 r0 (by omega) (by decide) (by decide), x4 r 4 r0 (by omega) (by decide) (by decide), x4 r 5 r0 (by omega) (by decide) (by decide), x4 r 6 r0 (by omega) (by decide) (by decide), x4 r 7 r0 (by omega) (by decide) (by decide)]
  exact hS.2 r r0 r1
theorem c_isAheadX {X : CX} {I R : PF} {p o n : Int} (hs : Shp R) (hp : Plc R p o) (h0 : inR (I p 0)) (hn : inR n) (hno : 0 ≤ I 111 0 ∧ I 111 0 ≤ 999) : CN X 1 mX10_isAhead [(2, 64), (0, n)] I R (fun v I' R' => v.2 = bi (0 < I p 0 ∧ 0 ≤ n ∧ n ≤ 60 ∧ I 111 0 + n ≤ 999) ∧ I' = I ∧ R' = R) := by
  refine callee_b (by decide +kernel) (Nat.le_of_ble_eq_true rfl) rfl ?_
  have no : ¬ (0 < I p 0 ∧ 0 ≤ n ∧ n ≤ 60 ∧ I 111 0 + n ≤ 999) → PN X 1 mX10_isAhead 36 [] [] I R (fun v I' R' => v.2 = bi (0 < I p 0 ∧ 0 ≤ n ∧ n ≤ 60 ∧ I 111 0 + n ≤ 999) ∧ I' = I ∧ R' = R) := fun c => S_X10_isAhead_36 (S_X10_isAhead_37 (by decide) ⟨(bi_f c).symm, rfl, rfl⟩)
  refine S_X10_isAhead_0 (d1 := 0) (by omega) (c_isToldX hp h0) (fun z I1 R1 q => ?_)
  obtain ⟨(hz : z = _), rfl, rfl⟩ := q
  have b := bi_r (0 < I1 p 0)
  refine S_X10_isAhead_4 (by omega) (fun g => no (fun c => bi_0 (hz.symm.trans g) c.1)) (fun g => ?_)
  have c1 := bi_1 (c := 0 < I1 p 0) (by rw [← hz]; exact g)
  refine S_X10_isAhead_7 hn (fun g => no (by omega)) (fun g2 => S_X10_isAhead_11 hn (fun g => no (by omega)) (fun g3 => S_X10_isAhead_17 hs (by omega) (fun g => no (by omega)) (fun g4 => ?_)))
  exact S_X10_isAhead_32 (S_X10_isAhead_37 (by decide) ⟨(bi_t ⟨c1, g2, g3, g4⟩).symm, rfl, rfl⟩)
theorem c_isAheadM {X : CX} {I R : PF} {n a b : Int} (hs : Shp R) (hn : inR n) (ha : inR a) (hb : inR b) (hb9 : b ≤ 100) (ha0 : 0 ≤ a) (hno : 0 ≤ I 348 0 ∧ I 348 0 ≤ 999) : CN X 2 mX11_isAhead [(2, 306), (0, n), (0, a), (0, b)] I R (fun v I' R' => v.2 = bi (a ≤ n ∧ n ≤ b ∧ I 348 0 + n ≤ 999) ∧ I' = I ∧ R' = R) := by
  refine callee_b (by decide +kernel) (Nat.le_of_ble_eq_true rfl) rfl ?_
  have no : ¬ (a ≤ n ∧ n ≤ b ∧ I 348 0 + n ≤ 999) → PN X 2 mX11_isAhead 30 [] [] I R (fun v I' R' => v.2 = bi (a ≤ n ∧ n ≤ b ∧ I 348 0 + n ≤ 999) ∧ I' = I ∧ R' = R) := fun c => S_X11_isAhead_30 (S_X11_isAhead_31 (by decide) ⟨(bi_f c).symm, rfl, rfl⟩)
  refine S_X11_isAhead_0 (d1 := 1) hn ha hb (by omega) (c_isIn hn ha hb) (fun z I1 R1 q => ?_)
  obtain ⟨(hz : z = _), rfl, rfl⟩ := q
  have br := bi_r (a ≤ n ∧ n ≤ b)
  refine S_X11_isAhead_9 (by omega) (fun g => no (fun c => bi_0 (hz.symm.trans g) ⟨c.1, c.2.1⟩)) (fun g => ?_)
  have c1 := bi_1 (c := a ≤ n ∧ n ≤ b) (by rw [← hz]; exact g)
  refine S_X11_isAhead_12 hs (by omega) (fun g => no (by omega)) (fun g4 => ?_)
  exact S_X11_isAhead_26 (S_X11_isAhead_31 (by decide) ⟨(bi_t ⟨c1.1, c1.2, g4⟩).symm, rfl, rfl⟩)
/-! the model puts aside and takes back -/
theorem c_putsAside {X : CX} {I R : PF} (hs : Shp R) : CN X 0 mX11_putsAside [(2, 306)] I R (fun _ I' R' => I' 306 72 = 1 ∧ (∀ j, 0 ≤ j → j < 33 → I' 349 j = I 348 j) ∧ FR (fun x y => (x = 306 ∧ y = 72) ∨ x = 349) I I' ∧ R' = R) := by
  refine callee_b (by decide +kernel) (Nat.le_of_ble_eq_true rfl) rfl ?_
  have lp : ∀ (m : Nat) (k : Int) (J : PF), (33 - k).toNat < m → 0 ≤ k → k ≤ 33 → J 306 72 = 1 → (∀ j, 0 ≤ j → j < k → J 349 j = I 348 j) → FR (fun x y => (x = 306 ∧ y = 72) ∨ x = 349) I J → PN X 0 mX11_putsAside 7 [(2, 306), (0, k)] [] J R (fun _ I' R' => I' 306 72 = 1 ∧ (∀ j, 0 ≤ j → j < 33 → I' 349 j = I 348 j) ∧ FR (fun x y => (x = 306 ∧ y = 72) ∨ x = 349) I I' ∧ R' = R) := by
    intro m
    induction m with
    | zero => intro k J h; exact absurd h (Nat.not_lt_zero _)
    | succ m ih =>
      intro k J hm k0 k1 h72 hj hf
      refine S_X11_putsAside_7 (by omega) (fun g => S_X11_putsAside_31 ⟨h72, fun j j0 j1 => hj j j0 (by omega), hf, rfl⟩) (fun g => ?_)
      refine S_X11_putsAside_13 hs (by omega) (by omega) (ih (k + 1) _ (by omega) (by omega) (by omega) ?_ (fun j j0 j1 => ?_) (hf.tr (FR_u2 (Or.inr rfl))))
      · rw [u2_o (by decide)]; exact h72
      · by_cases e : j = k
        · rw [e, u2_at]; exact hf 348 k (fun c => by omega)
        · rw [u2_j e]; exact hj j j0 (by omega)
  exact S_X11_putsAside_0 (lp _ 0 _ (Nat.lt_succ_self _) (by decide) (by decide) u2_at (fun j j0 j1 => by omega) (FR_u2 (Or.inl ⟨rfl, rfl⟩)))
theorem c_takesBack {X : CX} {I R : PF} (hs : Shp R) : CN X 0 mX11_takesBack [(2, 306)] I R (fun _ I' R' => I' 306 72 = 0 ∧ (∀ j, 0 ≤ j → j < 33 → I' 348 j = I 349 j) ∧ FR (fun x y => (x = 306 ∧ y = 72) ∨ (x = 348 ∧ 0 ≤ y ∧ y < 33)) I I' ∧ R' = R) := by
  refine callee_b (by decide +kernel) (Nat.le_of_ble_eq_true rfl) rfl ?_
  have lp : ∀ (m : Nat) (k : Int) (J : PF), (33 - k).toNat < m → 0 ≤ k → k ≤ 33 → (∀ j, 0 ≤ j → j < k → J 348 j = I 349 j) → FR (fun x y => (x = 306 ∧ y = 72) ∨ (x = 348 ∧ 0 ≤ y ∧ y < 33)) I J → PN X 0 mX11_takesBack 2 [(2, 306), (0, k)] [] J R (fun _ I' R' => I' 306 72 = 0 ∧ (∀ j, 0 ≤ j → j < 33 → I' 348 j = I 349 j) ∧ FR (fun x y => (x = 306 ∧ y = 72) ∨ (x = 348 ∧ 0 ≤ y ∧ y < 33)) I I' ∧ R' = R) := by
    intro m
    induction m with
    | zero => intro k J h; exact absurd h (Nat.not_lt_zero _)
    | succ m ih =>
      intro k J hm k0 k1 hj hf
      refine S_X11_takesBack_2 (by omega) (fun g => S_X11_takesBack_26 ⟨u2_at, fun j j0 j1 => ?_, hf.tr (FR_u2 (Or.inl ⟨rfl, rfl⟩)), rfl⟩) (fun g => ?_)
      · rw [u2_o (by decide)]; exact hj j j0 (by omega)
      refine S_X11_takesBack_8 hs (by omega) (by omega) (ih (k + 1) _ (by omega) (by omega) (by omega) (fun j j0 j1 => ?_) (hf.tr (FR_u2 (Or.inr ⟨rfl, k0, g⟩))))
      by_cases e : j = k
      · rw [e, u2_at]; exact hf 349 k (fun c => by omega)
      · rw [u2_j e]; exact hj j j0 (by omega)
  exact S_X11_takesBack_0 (lp _ 0 I (Nat.lt_succ_self _) (by decide) (by decide) (fun j j0 j1 => by omega) FR.rf)
/-- the model amid noons ahead, k of them -/
def AhM (D K I0 : PF) (k : Nat) (I : PF) : Prop := ST D I ∧ I 342 = K 342 ∧ I 348 = thK D K k 348 ∧ I 306 72 = 1 ∧ I 306 78 = I0 306 78 ∧ sdR (I 306 78) ∧ (∀ j, 0 ≤ j → j < 33 → I 349 j = K 348 j) ∧ FR (fun x y => mNo x y ∨ (x = 306 ∧ y = 72) ∨ x = 349) I0 I
theorem c_mahead {X : CX} {I R D K I0 : PF} {k : Nat} (hs : Shp R) (hG : GD D) (hW : WD D) (hK : KG D K) (h33 : 0 ≤ K 348 33 ∧ K 348 33 ≤ 40) (hk : K 348 0 + k < 999) (hA : AhM D K I0 k I) : CN X 6 mX11_noonGoes [(2, 306), (0, 0)] I R (fun _ I' R' => AhM D K I0 (k + 1) I' ∧ R' = R) := by
  obtain ⟨a1, a2, a3, a4, a5, a6, a7, a8⟩ := hA
  obtain ⟨t1, t2, t3, t4⟩ := thK_ok hG hK h33 k (by omega)
  refine Callee.mono (c_noonGoes (kp := false) (K := thK D K k) (dr := 0) hs a1 (by rw [t4]; exact a2) a3 (by rw [a4]; rfl) (Or.inl rfl) hG hW t1 t3 rfl a6 rfl) (fun v I' R' q => ?_)
  obtain ⟨q1, q2, q3, q4, q5⟩ := q
  have e : nnR D (thK D K k) 0 (I 306 78) (I 306 71) = ((nnR D (thK D K k) 0 0 0).1, (nnR D (thK D K k) 0 0 0).2.1, (nnR D (thK D K k) 0 0 0).2.2.1, I 306 78, I 306 71) := nnR_0
  rw [e] at q1 q2
  refine ⟨⟨a1.go q4, ?_, by rw [thK_1]; exact q1, ?_, q2.trans a5, by rw [q2]; exact a6, fun j j0 j1 => ?_, a8.tr (q4.mono (fun x y c => Or.inl c))⟩, q5⟩
  · rw [← a2]; funext y; exact q4 _ _ (fun c => by unfold mNo mGo mFl at c; omega)
  · rw [q4 _ _ (fun c => by unfold mNo mGo mFl at c; omega)]; exact a4
  · rw [q4 _ _ (fun c => by unfold mNo mGo mFl at c; omega)]; exact a7 j j0 j1
/-- taken back, nothing is left of it -/
theorem AhM.back {D K I0 I I' : PF} {k : Nat} (hG : GD D) (h : AhM D K I0 k I) (h0 : I0 348 = K 348) (h72 : I0 306 72 = 0) (q1 : I' 306 72 = 0) (q2 : ∀ j, 0 ≤ j → j < 33 → I' 348 j = I 349 j) (q3 : FR (fun x y => (x = 306 ∧ y = 72) ∨ (x = 348 ∧ 0 ≤ y ∧ y < 33)) I I') : FR scM I0 I' := fun x y c => by
  obtain ⟨a1, a2, a3, a4, a5, a6, a7, a8⟩ := h
  by_cases e : x = 348
  · subst e
    by_cases e2 : 0 ≤ y ∧ y < 33
    · rw [q2 y e2.1 e2.2, a7 y e2.1 e2.2, h0]
    · rw [q3 _ _ (fun k => by omega), a3, h0]
      exact sq_hi hG (by omega) k
  · by_cases e2 : x = 306 ∧ y = 72
    · rw [e2.1, e2.2, q1, h72]
    · rw [q3 x y (fun k => by omega)]
      by_cases e3 : x = 306 ∧ y = 78
      · rw [e3.1, e3.2]; exact a5
      · refine a8 x y (fun k => ?_)
        rcases k with (k | k) | k | k
        · exact c (mGo_scM k e3)
        · exact e k
        · exact e2 k
        · exact c (Or.inr (Or.inl (by omega)))
