/-! ===== wears, asked ===== -/
def bcF (x0 : Int) : Int := ((Int32.ofInt ((((Int32.ofInt ((((Int32.ofInt (x0 - ((Int32.ofInt (ushr32 x0 1) &&& Int32.ofInt 1431655765).toInt)) &&& Int32.ofInt 858993459).toInt) + ((Int32.ofInt (ushr32 (x0 - ((Int32.ofInt (ushr32 x0 1) &&& Int32.ofInt 1431655765).toInt)) 2) &&& Int32.ofInt 858993459).toInt)) + (ushr32 (((Int32.ofInt (x0 - ((Int32.ofInt (ushr32 x0 1) &&& Int32.ofInt 1431655765).toInt)) &&& Int32.ofInt 858993459).toInt) + ((Int32.ofInt (ushr32 (x0 - ((Int32.ofInt (ushr32 x0 1) &&& Int32.ofInt 1431655765).toInt)) 2) &&& Int32.ofInt 858993459).toInt)) 4)) &&& Int32.ofInt 252645135).toInt) + (ushr32 ((Int32.ofInt ((((Int32.ofInt (x0 - ((Int32.ofInt (ushr32 x0 1) &&& Int32.ofInt 1431655765).toInt)) &&& Int32.ofInt 858993459).toInt) + ((Int32.ofInt (ushr32 (x0 - ((Int32.ofInt (ushr32 x0 1) &&& Int32.ofInt 1431655765).toInt)) 2) &&& Int32.ofInt 858993459).toInt)) + (ushr32 (((Int32.ofInt (x0 - ((Int32.ofInt (ushr32 x0 1) &&& Int32.ofInt 1431655765).toInt)) &&& Int32.ofInt 858993459).toInt) + ((Int32.ofInt (ushr32 (x0 - ((Int32.ofInt (ushr32 x0 1) &&& Int32.ofInt 1431655765).toInt)) 2) &&& Int32.ofInt 858993459).toInt)) 4)) &&& Int32.ofInt 252645135).toInt) 8)) + (ushr32 (((Int32.ofInt ((((Int32.ofInt (x0 - ((Int32.ofInt (ushr32 x0 1) &&& Int32.ofInt 1431655765).toInt)) &&& Int32.ofInt 858993459).toInt) + ((Int32.ofInt (ushr32 (x0 - ((Int32.ofInt (ushr32 x0 1) &&& Int32.ofInt 1431655765).toInt)) 2) &&& Int32.ofInt 858993459).toInt)) + (ushr32 (((Int32.ofInt (x0 - ((Int32.ofInt (ushr32 x0 1) &&& Int32.ofInt 1431655765).toInt)) &&& Int32.ofInt 858993459).toInt) + ((Int32.ofInt (ushr32 (x0 - ((Int32.ofInt (ushr32 x0 1) &&& Int32.ofInt 1431655765).toInt)) 2) &&& Int32.ofInt 858993459).toInt)) 4)) &&& Int32.ofInt 252645135).toInt) + (ushr32 ((Int32.ofInt ((((Int32.ofInt (x0 - ((Int32.ofInt (ushr32 x0 1) &&& Int32.ofInt 1431655765).toInt)) &&& Int32.ofInt 858993459).toInt) + ((Int32.ofInt (ushr32 (x0 - ((Int32.ofInt (ushr32 x0 1) &&& Int32.ofInt 1431655765).toInt)) 2) &&& Int32.ofInt 858993459).toInt)) + (ushr32 (((Int32.ofInt (x0 - ((Int32.ofInt (ushr32 x0 1) &&& Int32.ofInt 1431655765).toInt)) &&& Int32.ofInt 858993459).toInt) + ((Int32.ofInt (ushr32 (x0 - ((Int32.ofInt (ushr32 x0 1) &&& Int32.ofInt 1431655765).toInt)) 2) &&& Int32.ofInt 858993459).toInt)) 4)) &&& Int32.ofInt 252645135).toInt) 8)) 16)) &&& Int32.ofInt 63).toInt)
def orI (a b : Int) : Int := (Int32.ofInt a ||| Int32.ofInt b).toInt
def andI (a b : Int) : Int := (Int32.ofInt a &&& Int32.ofInt b).toInt
def wtB (w : Int) : Int := if w = -1 then 64 else shl32 1 w
def bkF : Nat → Int → Int
  | 0, _ => 0
  | f + 1, y => if y = 0 then 0 else 1 + bkF f (andI y (y - 1))
def bkO : Nat → Int → Bool
  | 0, y => y == 0
  | f + 1, y => y == 0 || ((decide (0 ≤ y) && decide (y < 128)) && bkO f (andI y (y - 1)))
theorem bk_t : ∀ x : Fin 128, bkO 8 (x.val : Int) = true ∧ bkF 8 (x.val : Int) = bcF (x.val : Int) ∧ 0 ≤ bcF (x.val : Int) ∧ bcF (x.val : Int) ≤ 7 := by decide +kernel
theorem or_t : ∀ x : Fin 128, ∀ w : Fin 7, 0 ≤ orI (x.val : Int) (wtB ((w.val : Int) - 1)) ∧ orI (x.val : Int) (wtB ((w.val : Int) - 1)) < 128 := by decide +kernel
theorem or_r {x w : Int} (hx : 0 ≤ x ∧ x < 128) (hw : -1 ≤ w ∧ w < 6) : 0 ≤ orI x (wtB w) ∧ orI x (wtB w) < 128 := by
  have := or_t ⟨x.toNat, by omega⟩ ⟨(w + 1).toNat, by omega⟩
  rw [show (((⟨x.toNat, by omega⟩ : Fin 128).val : Int)) = x from by show ((x.toNat : Nat) : Int) = x; omega, show (((⟨(w + 1).toNat, by omega⟩ : Fin 7).val : Int) - 1) = w from by show (((w + 1).toNat : Nat) : Int) - 1 = w; omega] at this
  exact this
theorem bk_r {x : Int} (hx : 0 ≤ x ∧ x < 128) : bkO 8 x = true ∧ bkF 8 x = bcF x ∧ 0 ≤ bcF x ∧ bcF x ≤ 7 := by
  have := bk_t ⟨x.toNat, by omega⟩
  rw [show (((⟨x.toNat, by omega⟩ : Fin 128).val : Int)) = x from by show ((x.toNat : Nat) : Int) = x; omega] at this
  exact this
theorem bits_loop {X : CX} {I R : PF} {Q : PV → PF → PF → Prop} : ∀ (f : Nat) (n y : Int), bkO f y = true → Q (0, n + bkF f y) I R → PN X 0 mX11_bits 4 [(9, 0), (0, n), (0, y)] [] I R Q := by
  intro f
  induction f with
  | zero =>
    intro n y h q
    have y0 : y = 0 := by unfold bkO at h; exact of_decide_eq_true h
    refine S_X11_bits_4 (by omega) (fun _ => S_X11_bits_20 ?_) (fun g => absurd y0 g)
    rw [show n = n + bkF 0 y from by unfold bkF; omega]; exact q
  | succ f ih =>
    intro n y h q
    unfold bkO at h
    unfold bkF at q
    rw [Bool.or_eq_true, Bool.and_eq_true, Bool.and_eq_true] at h
    have h' : y = 0 ∨ (0 ≤ y ∧ y < 128) ∧ bkO f (andI y (y - 1)) = true := by
      rcases h with h | h
      · exact Or.inl (of_decide_eq_true h)
      · exact Or.inr ⟨⟨of_decide_eq_true h.1.1, of_decide_eq_true h.1.2⟩, h.2⟩
    refine S_X11_bits_4 (by omega) (fun g => S_X11_bits_20 ?_) (fun g => ?_)
    · rw [if_pos g] at q
      rw [show n = n + 0 from by omega]; exact q
    · rcases h' with h' | h'
      · exact absurd h' g
      rw [if_neg g] at q
      refine S_X11_bits_8 (ih (n + 1) _ h'.2 ?_)
      show Q (0, n + 1 + bkF f (andI y (y - 1))) I R
      rw [show n + 1 + bkF f (andI y (y - 1)) = n + (1 + bkF f (andI y (y - 1))) from by omega]; exact q
theorem c_mbits {X : CX} {I R : PF} {x : Int} (hx : 0 ≤ x ∧ x < 128) : CN X 0 mX11_bits [(0, x)] I R (fun v I' R' => v.2 = bcF x ∧ I' = I ∧ R' = R) := by
  refine callee_b (by decide +kernel) (Nat.le_of_ble_eq_true rfl) rfl (S_X11_bits_0 (bits_loop 8 0 x (bk_r hx).1 ⟨?_, rfl, rfl⟩))
  show 0 + bkF 8 x = bcF x
  rw [(bk_r hx).2.1]; omega
theorem c_bitCount {X : CX} {I R : PF} {x : Int} : CN X 0 mJ6_bitCount_0f7a4 [(0, x)] I R (fun v I' R' => v.2 = bcF x ∧ I' = I ∧ R' = R) :=
  callee_f (by decide +kernel) (Nat.le_of_ble_eq_true rfl) rfl (S_J6_bitCount_0f7a4_0 ⟨rfl, rfl, rfl⟩)
/-- who the people are that get throws of a noon with the law seen -/
noncomputable def weB (D K : PF) (noon l : Int) : Nat → Int
  | 0 => 0
  | t + 1 => cif (lwO K (whT D K noon t) = if l = 255 then -1 else l) (orI (weB D K noon l t) (wtB (whT D K noon t))) (weB D K noon l t)
theorem whT_r {D K : PF} {noon t : Int} (hG : GD D) : -1 ≤ whT D K noon t ∧ whT D K noon t < D 339 1 := whoA_r hG _
theorem weB_r {D K : PF} {noon l : Int} (hG : GD D) : ∀ t : Nat, 0 ≤ weB D K noon l t ∧ weB D K noon l t < 128
  | 0 => by unfold weB; decide
  | t + 1 => by
    have h := weB_r (K := K) (noon := noon) (l := l) hG t
    have w := whT_r (K := K) (noon := noon) (t := t) hG
    have := hG.2.1
    unfold weB
    by_cases c : lwO K (whT D K noon t) = if l = 255 then -1 else l
    · rw [cif_t c]; exact or_r h (by omega)
    · rw [cif_f c]; exact h
theorem lwO_r {D K : PF} {w : Int} (hG : GD D) (hK : KG D K) (hw : -1 ≤ w ∧ w < D 339 1) : (w = -1 ∧ lwO K w = -1) ∨ (0 ≤ w ∧ 0 ≤ lwO K w ∧ lwO K w < D 339 0) := by
  unfold lwO
  by_cases c : w = -1
  · rw [if_pos c]; exact Or.inl ⟨c, rfl⟩
  · rw [if_neg c]; exact Or.inr ⟨by omega, (hK.2.2.2.2.2 w (by omega) hw.2).2.2.1⟩
def JQ (D K : PF) (p : Int) (I : PF) : Prop := QR D p I ∧ LR D p I ∧ StC D K 111 I ∧ bd (I 131 5)
theorem mQy_n {p : Int} (hp : p = 72 ∨ p = 91) {I J : PF} (f : FR (mQy p) I J) : ∀ x y, (x = 64 ∨ x = 304 ∨ x = 353 ∨ x = 348 ∨ x = 342 ∨ x = 306 ∨ (x = p ∧ y < 6)) → J x y = I x y := fun x y hx => f x y (fun c => by
  unfold mQy mFy mSt1 mWd mCa mPr at c
  omega)
theorem c_xwearsK {X : CX} {I R D K : PF} {p o k m l : Int} (hs : Shp R) (hp : Plc R p o) (hG : GD D) (hW : WD D) (hK : KG D K) (hJ : JQ D K p I) (h17 : I 64 17 = m) (hm : m ≤ 7) (hk : 0 ≤ k ∧ k < m) (hl : I 304 k = l) (hlr : l = 255 ∨ 0 ≤ l ∧ l < D 339 0) :
    CN X 7 mX10_wears [(2, 64), (0, k)] I R (fun v I' R' => v.2 = weB D K (K 348 0 + k) l 33 ∧ JQ D K p I' ∧ FR (mQy p) I I' ∧ FR scR R R' ∧ Shp R' ∧ Plc R' p o) := by
  refine callee_b (by decide +kernel) (Nat.le_of_ble_eq_true rfl) rfl ?_
  have kp := (plc_k hp).1
  have hpp := sq_o kp
  have hD := hG.2.1
  have k1 := hK.1
  obtain ⟨hQ, hL, hS, h5⟩ := hJ
  have e0 : I 111 0 = K 348 0 := hS.1.1
  refine S_X10_wears_0 (by omega) (fun g => by omega) (fun _ => S_X10_wears_4 (by omega) (by omega) (fun _ => ?_) (fun g => by omega))
  refine S_X10_wears_14 (d1 := 2) hs hp.1 (by omega) (c_prepare hs) (fun z3 I3 R3 r => ?_)
  obtain ⟨q1, q2, q3, q4, q5, rfl⟩ := r
  obtain ⟨r0, r1, r2⟩ := pR_v R p 111 0
  have hs3 := pR_s hs p 111 0
  have hp3 : Plc (pR R p 111 0) p o := hp.sc (pR_scR _ _ _ _)
  have hF : ClF D K (K 348 0 + k) p 111 I3 := prep_F kp (Or.inl rfl) hG hQ hL hS h5 (by rw [q1, e0]) q2 q3 q5
  have hN : WhF D K (K 348 0 + k) I3 := fun x y hq => Or.inl (q4 _ (by
    obtain ⟨c1, c2, c3, c4⟩ := hq
    have hd := hG.1
    simp only at c1 c2 c3 c4
    omega) (by
    obtain ⟨c1, c2, c3, c4⟩ := hq
    have hd := hG.1
    simp only at c1 c2 c3 c4
    omega))
  have hbn : bd (K 348 0 + k) := by unfold bd; omega
  have f3 : FR (mQy p) I I3 := mPr_Qy q5
  have l3 : I3 304 k = l := (mQy_n hpp f3 _ _ (by omega)).trans hl
  have lp : ∀ (m t : Nat) (J : PF), 33 - t < m → t ≤ 33 → ClF D K (K 348 0 + k) p 111 J → WhF D K (K 348 0 + k) J → FR (mQy p) I J → PN X 7 mX10_wears 67 [(2, 64), (9, 0), (0, if l = 255 then -1 else l), (0, weB D K (K 348 0 + k) l t), (0, (t : Int))] [] J (pR R p 111 0) (fun v I' R' => v.2 = weB D K (K 348 0 + k) l 33 ∧ JQ D K p I' ∧ FR (mQy p) I I' ∧ FR scR R R' ∧ Shp R' ∧ Plc R' p o) := by
    intro m
    induction m with
    | zero => intro t J h; exact absurd h (Nat.not_lt_zero _)
    | succ m ih =>
      intro t J hm ht hF hN f
      refine S_X10_wears_67 (by omega) (fun g => ?_) (fun g => ?_)
      · obtain rfl : t = 33 := by omega
        exact S_X10_wears_122 ⟨rfl, ⟨hF.1, hF.2.1, hF.2.2.1, hF.2.2.2.1.2⟩, f, pR_scR _ _ _ _, hs3, hp3⟩
      refine S_X10_wears_74 (d1 := 6) hs3 (by omega) (c_got (K := K) (noon := K 348 0 + k) (s := 111) hs3 r0 kp r1 r2 (Or.inl rfl) hG hW hK hbn hF hN ⟨by omega, by omega⟩) (fun z4 I4 R4 r => ?_)
      obtain ⟨(hz4 : z4 = _), hF4, hN4, f4, rfl⟩ := r
      have hz4' : z4 = whT D K (K 348 0 + k) t := hz4
      have wr := whT_r (K := K) (noon := K 348 0 + k) (t := t) hG
      have lr := lwO_r hG hK wr
      rw [hz4']
      refine S_X10_wears_83 (d1 := 1) hs3 (by omega) (c_lawOf hs3 (Or.inl rfl) hG hF4.2.2.1 wr) (fun z5 I5 R5 r => ?_)
      obtain ⟨(hz5 : z5 = _), rfl, rfl⟩ := r
      have nx := ih (t + 1) I5 (by omega) (by omega) hF4 hN4 (f.tr (mGt_Qy f4))
      rw [show ((t + 1 : Nat) : Int) = (t : Int) + 1 by omega] at nx
      have lawr : -1 ≤ (if l = 255 then (-1 : Int) else l) ∧ (if l = 255 then (-1 : Int) else l) ≤ 6 := by split <;> omega
      rw [hz5]
      refine S_X10_wears_94 (by omega) (by omega) (fun g2 => ?_) (fun g2 => ?_)
      · rw [weB, cif_f g2] at nx
        exact S_X10_wears_116 nx
      · rw [weB, cif_t g2] at nx
        refine S_X10_wears_98 (by omega) (fun g3 => S_X10_wears_110 (S_X10_wears_114 (S_X10_wears_116 ?_))) (fun g3 => S_X10_wears_105 (S_X10_wears_114 (S_X10_wears_116 ?_)))
        · unfold wtB orI at nx; rw [if_neg g3] at nx; exact nx
        · unfold wtB orI at nx; rw [if_pos g3] at nx; exact nx
  have go := lp 34 0 I3 (by decide) (by decide) hF hN f3
  refine S_X10_wears_39 hs3 ⟨hk.1, by omega⟩ (by rw [l3]; omega) (fun g => S_X10_wears_55 hs3 ⟨hk.1, by omega⟩ (S_X10_wears_61 ?_)) (fun g => S_X10_wears_51 (S_X10_wears_61 ?_))
  · rw [l3] at g ⊢
    rw [if_neg g] at go; exact go
  · rw [l3] at g
    rw [if_pos g] at go; exact go
theorem c_wearers {X : CX} {I R D K : PF} {k l : Int} (hs : Shp R) (hT : ST D I) (h2 : I 342 = K 342) (h8 : I 348 = K 348) (hG : GD D) (hW : WD D) (hK : KG D K) (hsd : sdR (I 306 78)) (hk : 0 ≤ k ∧ k < 7) (hl : I 353 k = l) (hlr : l = 255 ∨ 0 ≤ l ∧ l < D 339 0) :
    CN X 7 mX11_wearers [(2, 306), (0, k)] I R (fun v I' R' => v.2 = weB D K (K 348 0 + k) l 33 ∧ MdK D K I I' ∧ R' = R) := by
  refine callee_b (by decide +kernel) (Nat.le_of_ble_eq_true rfl) rfl ?_
  have hD := hG.2.1
  have k1 := hK.1
  refine S_X11_wearers_0 ?_
  have lp : ∀ (m t : Nat) (J : PF), 33 - t < m → t ≤ 33 → MdK D K I J → PN X 7 mX11_wearers 4 [(2, 306), (0, k), (0, weB D K (K 348 0 + k) l t), (0, (t : Int))] [] J R (fun v I' R' => v.2 = weB D K (K 348 0 + k) l 33 ∧ MdK D K I I' ∧ R' = R) := by
    intro m
    induction m with
    | zero => intro t J h; exact absurd h (Nat.not_lt_zero _)
    | succ m ih =>
      intro t J hm ht hM
      refine S_X11_wearers_4 (by omega) (fun g => ?_) (fun g => ?_)
      · obtain rfl : t = 33 := by omega
        exact S_X11_wearers_95 ⟨rfl, hM, rfl⟩
      have t33 : 0 ≤ (t : Int) ∧ (t : Int) < 33 := by omega
      refine S_X11_wearers_10 (d1 := 0) (by omega) (c_mwayOf t33) (fun a J1 S1 r => ?_)
      obtain ⟨(ha : a = _), rfl, rfl⟩ := r
      refine S_X11_wearers_15 (d1 := 0) (by omega) (c_mforceOf t33) (fun b J1 S1 r => ?_)
      obtain ⟨(hb : b = _), rfl, rfl⟩ := r
      rw [ha, hb]
      refine S_X11_wearers_19 (d1 := 6) hs (by omega) (by rw [hM.2.2.1]; exact c_tossT (K := K) hs hM.1 hM.2.1 hM.2.2.1 hG hW hK (by unfold bd; omega) t33 hM.2.2.2.2) (fun c J2 S2 r => ?_)
      obtain ⟨r1, r2, r3, rfl⟩ := r
      have hM2 := hM.st r3 r2
      have wr := whT_r (K := K) (noon := K 348 0 + k) (t := t) hG
      have lr := lwO_r hG hK wr
      have r1' : J2 306 69 = whT D K (K 348 0 + k) t := r1
      have l2 : J2 353 k = l := (hM2.2.2.2.1 _ _ (fun c => by unfold scM at c; omega)).trans hl
      have nx := ih (t + 1) J2 (by omega) (by omega) hM2
      rw [show ((t + 1 : Nat) : Int) = (t : Int) + 1 by omega] at nx
      have lwE : ∀ w, lwO J2 w = lwO K w := fun w => by unfold lwO; rw [hM2.2.1]
      -- none gets it
      refine S_X11_wearers_30 (by rw [r1']; omega) (fun g2 => ?_) (fun g2 => ?_)
      · refine S_X11_wearers_55 (by rw [r1']; omega) (fun g3 => absurd g3 g2) (fun _ => ?_)
        rw [r1'] at g2
        refine S_X11_wearers_63 (d1 := 0) (by omega) (by rw [r1']; exact c_mlawOf hs (by omega)) (fun z5 J5 S5 r => ?_)
        obtain ⟨(hz5 : z5 = _), rfl, rfl⟩ := r
        rw [lwE] at hz5
        refine S_X11_wearers_71 hs hk (by omega) (by rw [l2]; omega) (fun g4 => ?_) (fun g4 => ?_)
        · rw [l2] at g4
          rw [weB, cif_f (by split <;> omega)] at nx
          exact S_X11_wearers_89 nx
        · rw [l2] at g4
          rw [weB, cif_t (by split <;> omega)] at nx
          refine S_X11_wearers_80 (S_X11_wearers_89 ?_)
          rw [r1']
          unfold wtB orI at nx; rw [if_neg g2] at nx; exact nx
      · refine S_X11_wearers_38 hs hk (by rw [l2]; omega) (fun g3 => ?_) (fun g3 => ?_)
        · rw [l2] at g3
          rw [r1'] at g2
          rw [weB, cif_f (by rw [if_neg g3]; omega)] at nx
          exact S_X11_wearers_55 (by rw [r1']; omega) (fun _ => S_X11_wearers_89 nx) (fun c => absurd (r1'.trans g2) c)
        · rw [l2] at g3
          rw [r1'] at g2
          rw [weB, cif_t (by rw [if_pos g3]; omega)] at nx
          refine S_X11_wearers_50 (S_X11_wearers_55 (by rw [r1']; omega) (fun _ => S_X11_wearers_89 ?_) (fun c => absurd (r1'.trans g2) c))
          unfold wtB orI at nx; rw [if_pos g2] at nx; exact nx
  exact lp 34 0 I (by decide) (by decide) ⟨hT, h2, h8, FR.rf, hsd⟩
theorem Both.fly2 {X : CX} {dx dm : Nat} {mx mm : MD} {A : List PV} {I R : PF} {p o u : Int} {D : PF} (h : Sim I R) (hp : Plc R p o) (hx : CN X dx mx ((2, 64) :: A) I R (fun v I' R' => v.2 = u ∧ bd (I' 131 5) ∧ FR (fun x y => scC p o x y ∨ scM x y) I I' ∧ (∀ y, I' 348 y = I 348 y) ∧ (∀ y, I' 342 y = I 342 y) ∧ FR scR R R'))
    (hT : Tld D p I) (hm : ∀ J S, Shp S → ST D J → J 342 = I 342 → J 348 = I 348 → sdR (J 306 78) → J 306 72 = 0 → Seen D J → (∀ y, J 353 y = I 353 y) → J 306 73 = I 306 73 → CN X dm mm ((2, 306) :: A) J S (fun v I' R' => v.2 = u ∧ FR scM J I' ∧ R' = S)) : Both X dx dm mx mm A I R :=
  Callee.mono hx (fun v I1 R1 q => by
    obtain ⟨q1, q2, q3, q4, q5, q6⟩ := q
    have S1 : Sim I1 R1 := h.sc hp q3 q6 q2
    have T1 : Tld D p I1 := hT.sc hp.2.2 q3
    have p1 : Plc R1 p o := hp.sc q6
    have m1 := S1.2.2.2.1
    have hpp : p = 72 ∧ o = 91 ∨ p = 91 ∧ o = 72 := hp.2.2
    exact Callee.mono (hm I1 R1 S1.1 T1.2.2.2.2.1 (funext q5) (funext q4) m1.2.2.1.2 m1.2.2.2.2.1 T1.2.2.2.2.2.2.2.2 (fun y => q3 _ _ (fun c => by unfold scC scM at c; omega)) (q3 _ _ (fun c => by unfold scC scM at c; omega))) (fun v2 I2 R2 q => by
      obtain ⟨w1, w2, rfl⟩ := q
      refine ⟨w1.trans q1.symm, S1.sc p1 (w2.mono (fun x y c => Or.inr c)) FR.rf ?_⟩
      rw [w2 _ _ (fun c => by unfold scM at c; omega)]
      exact q2))
theorem c_xwears0 {X : CX} {I R : PF} {k : Int} (hk : inR k) (h17 : 0 ≤ I 64 17 ∧ I 64 17 ≤ 7) (hc : ¬ (0 ≤ k ∧ k < I 64 17)) : CN X 7 mX10_wears [(2, 64), (0, k)] I R (fun v I' R' => v.2 = -1 ∧ I' = I ∧ R' = R) := by
  refine callee_b (by decide +kernel) (Nat.le_of_ble_eq_true rfl) rfl ?_
  exact S_X10_wears_0 hk (fun _ => S_X10_wears_12 ⟨rfl, rfl, rfl⟩) (fun g => S_X10_wears_4 hk (by omega) (fun g2 => absurd ⟨g, g2⟩ hc) (fun _ => S_X10_wears_12 ⟨rfl, rfl, rfl⟩))
theorem c_mwears0 {X : CX} {I R : PF} {k : Int} (hk : inR k) (h73 : 0 ≤ I 306 73 ∧ I 306 73 ≤ 7) (hc : ¬ (0 ≤ k ∧ k < I 306 73)) : CN X 8 mX11_wears [(2, 306), (0, k)] I R (fun v I' R' => v.2 = -1 ∧ I' = I ∧ R' = R) := by
  refine callee_b (by decide +kernel) (Nat.le_of_ble_eq_true rfl) rfl ?_
  refine S_X11_wears_0 (d1 := 1) hk (by omega) (by omega) (c_isIn hk (by decide) (by unfold inR; omega)) (fun z I1 R1 r => ?_)
  obtain ⟨(hz : z = _), rfl, rfl⟩ := r
  have b := bi_r (0 ≤ k ∧ k ≤ I1 306 73 - 1)
  refine S_X11_wears_13 (by omega) (fun _ => S_X11_wears_24 (S_X11_wears_25 ⟨rfl, rfl, rfl⟩)) (fun g => absurd (bi_1 (c := 0 ≤ k ∧ k ≤ I1 306 73 - 1) (by rw [← hz]; exact g)) (by omega))
theorem c_mwearsK {X : CX} {I R D K : PF} {k l : Int} (hs : Shp R) (hT : ST D I) (h2 : I 342 = K 342) (h8 : I 348 = K 348) (hG : GD D) (hW : WD D) (hK : KG D K) (hsd : sdR (I 306 78)) (h73 : I 306 73 ≤ 7) (hk : 0 ≤ k ∧ k < I 306 73) (hl : I 353 k = l) (hlr : l = 255 ∨ 0 ≤ l ∧ l < D 339 0) :
    CN X 8 mX11_wears [(2, 306), (0, k)] I R (fun v I' R' => v.2 = weB D K (K 348 0 + k) l 33 ∧ FR scM I I' ∧ R' = R) := by
  refine callee_b (by decide +kernel) (Nat.le_of_ble_eq_true rfl) rfl ?_
  refine S_X11_wears_0 (d1 := 1) (by omega) (by omega) (by omega) (c_isIn (by unfold inR; omega) (by decide) (by unfold inR; omega)) (fun z I1 R1 r => ?_)
  obtain ⟨(hz : z = _), rfl, rfl⟩ := r
  rw [bi_t (by omega)] at hz
  refine S_X11_wears_13 (by omega) (fun g => by omega) (fun _ => ?_)
  refine S_X11_wears_16 (d1 := 7) (by omega) (c_wearers hs hT h2 h8 hG hW hK hsd ⟨hk.1, by omega⟩ hl hlr) (fun z2 I2 R2 r => ?_)
  obtain ⟨(hz2 : z2 = _), hM, rfl⟩ := r
  exact S_X11_wears_21 (S_X11_wears_25 ⟨hz2, hM.2.2.2.1, rfl⟩)
theorem b_wears {X : CX} {I R : PF} {k : Int} (h : Sim I R) (hk : inR k) : Both X 7 8 mX10_wears mX11_wears [(0, k)] I R := by
  obtain ⟨hs, -, -, hm, p, o, hp, hT⟩ := id h
  have hv := h.vw hp
  have hpp := sq_o (plc_k hp).1
  have v5 := hv.2.2.2.2.1
  by_cases hc : 0 ≤ k ∧ k < I 306 73
  · rcases hT with hT | ⟨D, hT⟩
    · have := hT.2.2.2.2.2.2.2.2.1; omega
    obtain ⟨s1, s2, s3, s4⟩ := hT.2.2.2.2.2.2.2.2
    obtain ⟨t1, t2⟩ := s4 k hc.1 hc.2
    refine Both.fly2 (D := D) (u := weB D I (I 348 0 + k) (I 353 k) 33) h hp (Callee.mono (c_xwearsK (K := I) hs hp hT.1 hT.2.1 hT.2.2.2.2.2.1 ⟨hT.2.2.1, hT.2.2.2.1, hT.2.2.2.2.2.2.1, hm.2.2.2.2.2.1⟩ s1 s3 hc t1 t2) (fun v I' R' q => ?_)) hT (fun J S z1 z2 z3 z4 z5 z6 z7 z8 z9 => c_mwearsK (K := I) z1 z2 z3 z4 hT.1 hT.2.1 hT.2.2.2.2.2.1 z5 (by omega) (by omega) (z8 k) t2)
    obtain ⟨q1, q2, q3, q4, -⟩ := q
    exact ⟨q1, q2.2.2.2, mQy_sc q3, (mQy_8 hpp q3).1, (mQy_8 hpp q3).2, q4⟩
  · exact Both.same h (c_xwears0 hk (by omega) (by omega)) (c_mwears0 hk (by omega) hc)
/-- the noon that most of the people get -/
noncomputable def aF (D K : PF) (sl : Int → Int) : Nat → Int × Int
  | 0 => (-1, -1)
  | k + 1 => if (aF D K sl k).2 < bcF (weB D K (K 348 0 + k) (sl k) 33) then ((k : Int), bcF (weB D K (K 348 0 + k) (sl k) 33)) else aF D K sl k
theorem aF_r {D K : PF} {sl : Int → Int} (hG : GD D) : ∀ k : Nat, -1 ≤ (aF D K sl k).2 ∧ (aF D K sl k).2 ≤ 7 ∧ (0 < k → 0 ≤ (aF D K sl k).2)
  | 0 => by unfold aF; decide
  | k + 1 => by
    have h := aF_r (K := K) (sl := sl) hG k
    have b := bk_r (weB_r (D := D) (K := K) (noon := K 348 0 + k) (l := sl k) hG 33)
    unfold aF
    split
    · simp only; omega
    · omega
noncomputable def askV (D K : PF) (sl : Int → Int) (m : Nat) (w : Int) : Int := if w = 0 then (aF D K sl m).1 else (aF D K sl m).2
theorem c_xaskedK {X : CX} {I R D K : PF} {p o m w : Int} {sl : Int → Int} (hs : Shp R) (hp : Plc R p o) (hG : GD D) (hW : WD D) (hK : KG D K) (hJ : JQ D K p I) (h17 : I 64 17 = m) (hm : 1 ≤ m ∧ m ≤ 7) (hw : 0 ≤ w ∧ w ≤ 1) (hl : ∀ k, 0 ≤ k → k < m → I 304 k = sl k ∧ (sl k = 255 ∨ 0 ≤ sl k ∧ sl k < D 339 0)) :
    CN X 8 mX10_asked [(2, 64), (0, w)] I R (fun v I' R' => v.2 = askV D K sl m.toNat w ∧ bd (I' 131 5) ∧ FR (mQy p) I I' ∧ FR scR R R') := by
  refine callee_b (by decide +kernel) (Nat.le_of_ble_eq_true rfl) rfl ?_
  have hpp := sq_o (plc_k hp).1
  refine S_X10_asked_0 (by omega) (fun g => by omega) (fun _ => S_X10_asked_7 (by omega) (fun g => by omega) (fun _ => S_X10_asked_11 (by omega) (fun _ => S_X10_asked_18 ?_) (fun g => by omega)))
  have lp : ∀ (f t : Nat) (b : Int) (J S : PF), m.toNat - t < f → t ≤ m.toNat → (t = 0 ∨ b = (aF D K sl t).1) → Shp S → Plc S p o → JQ D K p J → FR (mQy p) I J → FR scR R S → PN X 8 mX10_asked 25 [(2, 64), (0, w), (0, b), (0, (aF D K sl t).2), (0, (t : Int))] [] J S (fun v I' R' => v.2 = askV D K sl m.toNat w ∧ bd (I' 131 5) ∧ FR (mQy p) I I' ∧ FR scR R R') := by
    intro f
    induction f with
    | zero => intro t b J S h; exact absurd h (Nat.not_lt_zero _)
    | succ f ih =>
      intro t b J S hf ht hb hsS hpS hJ fI fR
      have n := mQy_n hpp fI
      have e17 : J 64 17 = m := (n _ _ (Or.inl rfl)).trans h17
      refine S_X10_asked_25 (by omega) (by omega) (fun g => ?_) (fun g => ?_)
      · obtain rfl : t = m.toNat := by omega
        have hb' : b = (aF D K sl m.toNat).1 := by rcases hb with c | c; omega; exact c
        refine S_X10_asked_63 (by omega) (fun g2 => S_X10_asked_71 (S_X10_asked_72 ⟨?_, hJ.2.2.2, fI, fR⟩)) (fun g2 => S_X10_asked_67 (S_X10_asked_72 ⟨?_, hJ.2.2.2, fI, fR⟩))
        · unfold askV; rw [if_neg g2]
        · unfold askV; rw [if_pos g2]; exact hb'
      rw [e17] at g
      obtain ⟨l1, l2⟩ := hl t (by omega) g
      have ar := aF_r (K := K) (sl := sl) hG t
      refine S_X10_asked_34 (d1 := 7) (by omega) (c_xwearsK (K := K) hsS hpS hG hW hK hJ e17 hm.2 ⟨by omega, g⟩ ((n _ _ (Or.inr (Or.inl rfl))).trans l1) l2) (fun z3 I3 R3 r => ?_)
      obtain ⟨(hz3 : z3 = _), hJ3, f3, fR3, hs3, hp3⟩ := r
      rw [hz3]
      refine S_X10_asked_40 (d1 := 0) (by omega) c_bitCount (fun z4 I4 R4 r => ?_)
      obtain ⟨(hz4 : z4 = _), rfl, rfl⟩ := r
      have br := bk_r (weB_r (D := D) (K := K) (noon := K 348 0 + t) (l := sl t) hG 33)
      have nx := fun b hb => ih (t + 1) b I4 R4 (by omega) (by omega) hb hs3 hp3 hJ3 (fI.tr f3) (fR.tr fR3)
      rw [show ((t + 1 : Nat) : Int) = (t : Int) + 1 by omega] at nx
      rw [hz4]
      refine S_X10_asked_43 (by omega) (by omega) (fun g2 => ?_) (fun g2 => ?_)
      · have e : aF D K sl (t + 1) = aF D K sl t := by rw [aF, if_neg (by omega)]
        have n2 := nx b (Or.inr (by
          rw [e]
          rcases hb with c | c
          · subst c
            have : (aF D K sl 0).2 = -1 := by unfold aF; rfl
            omega
          · exact c))
        rw [e] at n2
        exact S_X10_asked_57 n2
      · have e : aF D K sl (t + 1) = ((t : Int), bcF (weB D K (K 348 0 + t) (sl t) 33)) := by rw [aF, if_pos g2]
        have n2 := nx t (Or.inr (by rw [e]))
        rw [e] at n2
        exact S_X10_asked_51 (S_X10_asked_57 n2)
  exact lp 9 0 0 I R (by omega) (by omega) (Or.inl rfl) hs hp hJ FR.rf FR.rf
theorem c_xasked0 {X : CX} {I R : PF} {w : Int} (hw : inR w) (h17 : 0 ≤ I 64 17 ∧ I 64 17 ≤ 7) (hc : ¬ (0 < I 64 17 ∧ 0 ≤ w ∧ w ≤ 1)) : CN X 8 mX10_asked [(2, 64), (0, w)] I R (fun v I' R' => v.2 = -1 ∧ I' = I ∧ R' = R) := by
  refine callee_b (by decide +kernel) (Nat.le_of_ble_eq_true rfl) rfl ?_
  exact S_X10_asked_0 (by omega) (fun _ => S_X10_asked_16 ⟨rfl, rfl, rfl⟩) (fun g => S_X10_asked_7 hw (fun _ => S_X10_asked_16 ⟨rfl, rfl, rfl⟩) (fun g2 => S_X10_asked_11 hw (fun g3 => absurd ⟨by omega, g2, g3⟩ hc) (fun _ => S_X10_asked_16 ⟨rfl, rfl, rfl⟩)))
theorem c_masked0 {X : CX} {I R : PF} {w : Int} (hw : inR w) (h73 : 0 ≤ I 306 73 ∧ I 306 73 ≤ 7) (hc : ¬ (0 < I 306 73 ∧ 0 ≤ w ∧ w ≤ 1)) : CN X 8 mX11_asked [(2, 306), (0, w)] I R (fun v I' R' => v.2 = -1 ∧ I' = I ∧ R' = R) := by
  refine callee_b (by decide +kernel) (Nat.le_of_ble_eq_true rfl) rfl ?_
  refine S_X11_asked_0 (d1 := 1) hw (by omega) (c_isIn hw (by decide) (by decide)) (fun z I1 R1 r => ?_)
  obtain ⟨(hz : z = _), rfl, rfl⟩ := r
  have b := bi_r (0 ≤ w ∧ w ≤ 1)
  refine S_X11_asked_7 (by omega) (fun g => ?_) (fun _ => S_X11_asked_10 ⟨rfl, rfl, rfl⟩)
  have c := bi_1 (c := 0 ≤ w ∧ w ≤ 1) (by rw [← hz]; exact g)
  refine S_X11_asked_12 (S_X11_asked_19 (by decide) (by omega) (fun _ => ?_) (fun g2 => absurd ⟨g2, c⟩ hc))
  exact S_X11_asked_60 (by omega) (fun _ => S_X11_asked_68 (S_X11_asked_69 ⟨rfl, rfl, rfl⟩)) (fun _ => S_X11_asked_64 (S_X11_asked_69 ⟨rfl, rfl, rfl⟩))
theorem c_maskedK {X : CX} {I R D K : PF} {m w : Int} {sl : Int → Int} (hs : Shp R) (hT : ST D I) (h2 : I 342 = K 342) (h8 : I 348 = K 348) (hG : GD D) (hW : WD D) (hK : KG D K) (hsd : sdR (I 306 78)) (h73 : I 306 73 = m) (hm : 1 ≤ m ∧ m ≤ 7) (hw : 0 ≤ w ∧ w ≤ 1) (hl : ∀ k, 0 ≤ k → k < m → I 353 k = sl k ∧ (sl k = 255 ∨ 0 ≤ sl k ∧ sl k < D 339 0)) :
    CN X 8 mX11_asked [(2, 306), (0, w)] I R (fun v I' R' => v.2 = askV D K sl m.toNat w ∧ FR scM I I' ∧ R' = R) := by
  refine callee_b (by decide +kernel) (Nat.le_of_ble_eq_true rfl) rfl ?_
  refine S_X11_asked_0 (d1 := 1) (by omega) (by omega) (c_isIn (by unfold inR; omega) (by decide) (by decide)) (fun z I1 R1 r => ?_)
  obtain ⟨(hz : z = _), rfl, rfl⟩ := r
  rw [bi_t (by omega)] at hz
  refine S_X11_asked_7 (by omega) (fun _ => S_X11_asked_12 ?_) (fun g => by omega)
  have lp : ∀ (f t : Nat) (J : PF), m.toNat - t < f → t ≤ m.toNat → MdK D K I1 J → PN X 8 mX11_asked 19 [(2, 306), (0, w), (0, (aF D K sl t).1), (0, (aF D K sl t).2), (0, (t : Int))] [] J R1 (fun v I' R' => v.2 = askV D K sl m.toNat w ∧ FR scM I1 I' ∧ R' = R1) := by
    intro f
    induction f with
    | zero => intro t J h; exact absurd h (Nat.not_lt_zero _)
    | succ f ih =>
      intro t J hf ht hM
      have n : ∀ x y, (x = 306 ∧ y = 73) ∨ x = 353 → J x y = I1 x y := fun x y c => hM.2.2.2.1 x y (fun d => by unfold scM at d; omega)
      have e73 : J 306 73 = m := (n _ _ (Or.inl ⟨rfl, rfl⟩)).trans h73
      refine S_X11_asked_19 (by omega) (by omega) (fun g => ?_) (fun g => ?_)
      · obtain rfl : t = m.toNat := by omega
        refine S_X11_asked_60 (by omega) (fun g2 => S_X11_asked_68 (S_X11_asked_69 ⟨?_, hM.2.2.2.1, rfl⟩)) (fun g2 => S_X11_asked_64 (S_X11_asked_69 ⟨?_, hM.2.2.2.1, rfl⟩))
        · unfold askV; rw [if_neg g2]
        · unfold askV; rw [if_pos g2]
      rw [e73] at g
      obtain ⟨l1, l2⟩ := hl t (by omega) g
      have ar := aF_r (K := K) (sl := sl) hG t
      refine S_X11_asked_28 (d1 := 7) (by omega) (c_wearers hs hM.1 hM.2.1 hM.2.2.1 hG hW hK hM.2.2.2.2 ⟨by omega, by omega⟩ ((n _ _ (Or.inr rfl)).trans l1) l2) (fun z3 I3 R3 r => ?_)
      obtain ⟨(hz3 : z3 = _), hM3, rfl⟩ := r
      rw [hz3]
      have wr := weB_r (D := D) (K := K) (noon := K 348 0 + t) (l := sl t) hG 33
      have br := bk_r wr
      refine S_X11_asked_34 (d1 := 0) (by omega) (c_mbits wr) (fun z4 I4 R4 r => ?_)
      obtain ⟨(hz4 : z4 = _), rfl, rfl⟩ := r
      have nx := ih (t + 1) I4 (by omega) (by omega) ⟨hM3.1, hM3.2.1, hM3.2.2.1, hM.2.2.2.1.tr hM3.2.2.2.1, hM3.2.2.2.2⟩
      rw [show ((t + 1 : Nat) : Int) = (t : Int) + 1 by omega] at nx
      rw [hz4]
      refine S_X11_asked_37 (by omega) (by omega) (fun g2 => ?_) (fun g2 => ?_)
      · have e : aF D K sl (t + 1) = ((t : Int), bcF (weB D K (K 348 0 + t) (sl t) 33)) := by rw [aF, if_pos g2]
        rw [e] at nx
        exact S_X11_asked_48 (S_X11_asked_54 nx)
      · have e : aF D K sl (t + 1) = aF D K sl t := by rw [aF, if_neg (by omega)]
        rw [e] at nx
        exact S_X11_asked_45 (S_X11_asked_54 nx)
  exact lp 9 0 I1 (by omega) (by omega) ⟨hT, h2, h8, FR.rf, hsd⟩
theorem b_asked {X : CX} {I R : PF} {w : Int} (h : Sim I R) (hw : inR w) : Both X 8 8 mX10_asked mX11_asked [(0, w)] I R := by
  obtain ⟨hs, -, -, hm, p, o, hp, hT⟩ := id h
  have hv := h.vw hp
  have hpp := sq_o (plc_k hp).1
  have v5 := hv.2.2.2.2.1
  by_cases hc : 0 < I 306 73 ∧ 0 ≤ w ∧ w ≤ 1
  · rcases hT with hT | ⟨D, hT⟩
    · have := hT.2.2.2.2.2.2.2.2.1; omega
    obtain ⟨s1, s2, s3, s4⟩ := hT.2.2.2.2.2.2.2.2
    refine Both.fly2 (D := D) (u := askV D I (I 353) (I 306 73).toNat w) h hp (Callee.mono (c_xaskedK (K := I) (sl := I 353) hs hp hT.1 hT.2.1 hT.2.2.2.2.2.1 ⟨hT.2.2.1, hT.2.2.2.1, hT.2.2.2.2.2.2.1, hm.2.2.2.2.2.1⟩ s1 ⟨by omega, s3⟩ hc.2 s4) (fun v I' R' q => ?_)) hT (fun J S z1 z2 z3 z4 z5 z6 z7 z8 z9 => c_maskedK (K := I) (sl := I 353) z1 z2 z3 z4 hT.1 hT.2.1 hT.2.2.2.2.2.1 z5 z9 ⟨by omega, s3⟩ hc.2 (fun k k0 k1 => ⟨z8 k, (s4 k k0 k1).2⟩))
    obtain ⟨q1, q2, q3, q4⟩ := q
    exact ⟨q1, q2, mQy_sc q3, (mQy_8 hpp q3).1, (mQy_8 hpp q3).2, q4⟩
  · exact Both.same h (c_xasked0 hw (by omega) (by omega)) (c_masked0 hw (by omega) hc)
