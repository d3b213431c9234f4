/-! ===== has, letter, person, place, kept ===== -/
theorem c_lawV {X : CX} {I R : PF} {p w : Int} (hs : Shp R) (hv : Vw p I) (hw : -1 ≤ w ∧ w < I 339 4) : CN X 1 mX8_lawOf [(2, 111), (0, w)] I R (fun v I' R' => v.2 = lwO I w ∧ I' = I ∧ R' = R) := by
  refine callee_b (by decide +kernel) (Nat.le_of_ble_eq_true rfl) rfl ?_
  obtain ⟨-, ⟨s0, s1, s2, s3⟩, -, -, -, -, r, sp, -⟩ := hv
  have ks : kd MF 111 = 8 := kM111
  refine S_X8_lawOf_0 (d1 := 0) (by omega) (c_knows ks (by unfold inR; omega) (by unfold inR; omega)) ks (fun z I1 R1 q => ?_)
  obtain ⟨(hz : z = _), rfl, rfl⟩ := q
  have br := bi_r (0 ≤ w ∧ w < I1 111 3)
  refine S_X8_lawOf_5 (by omega) (fun g => ?_) (fun g => ?_)
  · have c := bi_0 (hz.symm.trans g)
    refine S_X8_lawOf_19 (S_X8_lawOf_20 ⟨?_, rfl, rfl⟩)
    unfold lwO; rw [if_pos (by omega)]
  · have c := bi_1 (by rw [← hz]; exact g)
    refine S_X8_lawOf_8 hs ks (by omega) (S_X8_lawOf_20 ⟨?_, rfl, rfl⟩)
    unfold lwO; rw [if_neg (by omega)]
    exact (sp _ (by omega) (by omega)).2.2.2.2.1
theorem c_lawFV {X : CX} {I R : PF} {p : Int} (hs : Shp R) (hv : Vw p I) : CN X 2 mX8_lawInForce [(2, 111)] I R (fun v I' R' => v.2 = lwO I (I 348 1) ∧ I' = I ∧ R' = R) := by
  refine callee_b (by decide +kernel) (Nat.le_of_ble_eq_true rfl) rfl ?_
  have s1 := hv.2.1.2.1
  have r := hv.2.2.2.2.2.2.1
  refine S_X8_lawInForce_0 (d1 := 1) kM111 (by omega) (by rw [s1]; exact c_lawV hs hv (by omega)) (fun z I1 R1 q => ?_)
  obtain ⟨(hz : z = _), rfl, rfl⟩ := q
  exact S_X8_lawInForce_8 ⟨hz, rfl, rfl⟩
theorem c_told {X : CX} {I R : PF} (h : inR (I 136 1)) : CN X 1 mX4_told [(2, 136)] I R (fun v I' R' => v.2 = min (I 136 1) 40 ∧ I' = I ∧ R' = R) := by
  refine callee_b (by decide +kernel) (Nat.le_of_ble_eq_true rfl) rfl ?_
  refine S_X4_told_0 (d1 := 0) (by omega) (c_min h (by decide)) (fun z I1 R1 q => ?_)
  obtain ⟨(hz : z = _), rfl, rfl⟩ := q
  exact S_X4_told_9 ⟨hz, rfl, rfl⟩
def hasV (I : PF) (w : Int) : Int := if w = 0 then I 341 5 else if w = 1 then I 341 6 else if w = 2 then I 339 3 else if w = 3 then I 339 4 else if w = 4 then I 339 5 else if w = 5 then I 348 0 else if w = 6 then I 348 1 else if w = 7 then lwO I (I 348 1) else if w = 8 then I 348 2 else if w = 9 then I 348 33 else if w = 10 then I 306 73 else if w = 11 then I 306 76 else -1
theorem c_mhas {X : CX} {I R : PF} {w : Int} (hs : Shp R) (hw : inR w) (h1 : -1 ≤ I 348 1 ∧ I 348 1 < 6) : CN X 1 mX11_has [(2, 306), (0, w)] I R (fun v I' R' => v.2 = hasV I w ∧ I' = I ∧ R' = R) := by
  refine callee_b (by decide +kernel) (Nat.le_of_ble_eq_true rfl) rfl ?_
  refine S_X11_has_0 hw (fun g => ?_) (fun g => ?_) (fun g => ?_) (fun g => ?_) (fun g => ?_) (fun g => ?_) (fun g => ?_) (fun g => ?_) (fun g => ?_) (fun g => ?_) (fun g => ?_) (fun g => ?_) (fun g => ?_)
  · subst g; exact S_X11_has_64 hs (by decide) ⟨rfl, rfl, rfl⟩
  · subst g; exact S_X11_has_64 hs (by decide) ⟨rfl, rfl, rfl⟩
  · subst g; exact S_X11_has_73 hs (by decide) ⟨rfl, rfl, rfl⟩
  · subst g; exact S_X11_has_73 hs (by decide) ⟨rfl, rfl, rfl⟩
  · subst g; exact S_X11_has_73 hs (by decide) ⟨rfl, rfl, rfl⟩
  · subst g; exact S_X11_has_84 hs ⟨rfl, rfl, rfl⟩
  · subst g; exact S_X11_has_91 hs ⟨rfl, rfl, rfl⟩
  · subst g
    refine S_X11_has_98 (d1 := 0) hs (by omega) (c_mlawOf hs h1) (fun z I1 R1 q => ?_)
    obtain ⟨(hz : z = _), rfl, rfl⟩ := q
    exact S_X11_has_108 ⟨hz, rfl, rfl⟩
  · subst g; exact S_X11_has_109 hs ⟨rfl, rfl, rfl⟩
  · subst g; exact S_X11_has_116 hs ⟨rfl, rfl, rfl⟩
  · subst g; exact S_X11_has_124 ⟨rfl, rfl, rfl⟩
  · subst g; exact S_X11_has_129 ⟨rfl, rfl, rfl⟩
  · refine S_X11_has_134 ⟨?_, rfl, rfl⟩
    unfold hasV
    rw [if_neg (by omega), if_neg (by omega), if_neg (by omega), if_neg (by omega), if_neg (by omega), if_neg (by omega), if_neg (by omega), if_neg (by omega), if_neg (by omega), if_neg (by omega), if_neg (by omega), if_neg (by omega)]
theorem plc_k {R : PF} {p o : Int} (h : Plc R p o) : kd MF p = 6 ∧ kd MF o = 6 := by
  obtain ⟨-, -, h⟩ := h
  rcases h with ⟨rfl, rfl⟩ | ⟨rfl, rfl⟩
  · exact ⟨kM72, kM91⟩
  · exact ⟨kM91, kM72⟩
theorem c_xhas {X : CX} {I R : PF} {p o w : Int} (hs : Shp R) (hp : Plc R p o) (hv : Vw p I) (hw : inR w) : CN X 3 mX10_has [(2, 64), (0, w)] I R (fun v I' R' => v.2 = hasV I w ∧ I' = I ∧ R' = R) := by
  refine callee_b (by decide +kernel) (Nat.le_of_ble_eq_true rfl) rfl ?_
  have kp := (plc_k hp).1
  have r8 := hp.1
  obtain ⟨⟨a1, a2, a3, a4⟩, ⟨b1, b2, b3, b4⟩, ⟨c1, c2, c3⟩, ⟨d1', d2, d3⟩, ⟨e1, e2, e3⟩, -⟩ := id hv
  refine S_X10_has_0 hw (fun g => ?_) (fun g => ?_) (fun g => ?_) (fun g => ?_) (fun g => ?_) (fun g => ?_) (fun g => ?_) (fun g => ?_) (fun g => ?_) (fun g => ?_) (fun g => ?_) (fun g => ?_) (fun g => ?_)
  · subst g; exact S_X10_has_64 r8 kp ⟨a1, rfl, rfl⟩
  · subst g; exact S_X10_has_72 r8 kp ⟨a2, rfl, rfl⟩
  · subst g; exact S_X10_has_80 r8 kp ⟨a3, rfl, rfl⟩
  · subst g; exact S_X10_has_88 hs ⟨b4, rfl, rfl⟩
  · subst g; exact S_X10_has_96 r8 kp ⟨a4, rfl, rfl⟩
  · subst g; exact S_X10_has_104 hs ⟨b1, rfl, rfl⟩
  · subst g; exact S_X10_has_112 hs ⟨b2, rfl, rfl⟩
  · subst g
    refine S_X10_has_120 (d1 := 2) hs (by omega) (c_lawFV hs hv) (fun z I1 R1 q => ?_)
    obtain ⟨(hz : z = _), rfl, rfl⟩ := q
    exact S_X10_has_127 ⟨hz, rfl, rfl⟩
  · subst g; exact S_X10_has_128 hs ⟨b3, rfl, rfl⟩
  · subst g
    refine S_X10_has_136 (d1 := 1) hs (by omega) (c_told (by unfold inR; omega)) (fun z I1 R1 q => ?_)
    obtain ⟨(hz : z = _), rfl, rfl⟩ := q
    exact S_X10_has_143 ⟨hz.trans c1, rfl, rfl⟩
  · subst g; exact S_X10_has_144 ⟨e1, rfl, rfl⟩
  · subst g; exact S_X10_has_149 hs ⟨d1', rfl, rfl⟩
  · refine S_X10_has_157 ⟨?_, rfl, rfl⟩
    unfold hasV
    rw [if_neg (by omega), if_neg (by omega), if_neg (by omega), if_neg (by omega), if_neg (by omega), if_neg (by omega), if_neg (by omega), if_neg (by omega), if_neg (by omega), if_neg (by omega), if_neg (by omega), if_neg (by omega)]
/-- two calls that change nothing and answer alike -/
theorem Both.same {X : CX} {dx dm : Nat} {mx mm : MD} {A : List PV} {I R : PF} {u : Int} (h : Sim I R) (hx : CN X dx mx ((2, 64) :: A) I R (fun v I' R' => v.2 = u ∧ I' = I ∧ R' = R)) (hm : CN X dm mm ((2, 306) :: A) I R (fun v I' R' => v.2 = u ∧ I' = I ∧ R' = R)) : Both X dx dm mx mm A I R :=
  Callee.mono hx (fun v I1 R1 q => by
    obtain ⟨q1, rfl, rfl⟩ := q
    exact Callee.mono hm (fun v2 I2 R2 q => by
      obtain ⟨q2, rfl, rfl⟩ := q
      exact ⟨q2.trans q1.symm, h⟩))
theorem b_has {X : CX} {I R : PF} {w : Int} (h : Sim I R) (hw : inR w) : Both X 3 1 mX10_has mX11_has [(0, w)] I R := by
  obtain ⟨p, o, hp⟩ := h.plc
  have hv := h.vw hp
  have r := hv.2.2.2.2.2.2.1
  exact Both.same h (c_xhas h.1 hp hv hw) (c_mhas h.1 hw (by omega))
/-! person -/
def perV (I : PF) (p w : Int) : Int := if ¬ (0 ≤ p ∧ p < I 339 4) then -1 else if w = 0 then I 348 (3 + 5 * p) else if w = 1 then I 348 (3 + 5 * p + 1) else if w = 2 then I 342 (24 + 4 * p) else if w = 3 then I 342 (25 + 4 * p) else if w = 4 then I 342 (26 + 4 * p) else if w = 5 then I 348 (3 + 5 * p + 2) else if w = 6 then I 348 (3 + 5 * p + 3) else if w = 7 then I 348 (3 + 5 * p + 4) else -1
theorem c_mperson {X : CX} {I R : PF} {p w : Int} (hs : Shp R) (hp : inR p) (hw : inR w) (hn : 0 ≤ I 339 4 ∧ I 339 4 ≤ 6) : CN X 3 mX11_person [(2, 306), (0, p), (0, w)] I R (fun v I' R' => v.2 = perV I p w ∧ I' = I ∧ R' = R) := by
  refine callee_b (by decide +kernel) (Nat.le_of_ble_eq_true rfl) rfl ?_
  refine S_X11_person_0 (d1 := 2) (by omega) (c_isPerson hs hp hn) (fun z I1 R1 q => ?_)
  obtain ⟨(hz : z = _), rfl, rfl⟩ := q
  have b := bi_r (0 ≤ p ∧ p < I1 339 4)
  refine S_X11_person_5 (by omega) (fun g => ?_) (fun g => ?_)
  · have c := bi_1 (by rw [← hz]; exact g)
    unfold perV
    rw [if_neg (fun k => k c)]
    refine S_X11_person_10 hw (fun g => ?_) (fun g => ?_) (fun g => ?_) (fun g => ?_) (fun g => ?_) (fun g => ?_) (fun g => ?_) (fun g => ?_) (fun g => ?_)
    · subst g; exact S_X11_person_56 hs (by omega) ⟨by show I1 348 (3 + 5 * p + 0) = _; rw [Int.add_zero]; rfl, rfl, rfl⟩
    · subst g; exact S_X11_person_56 hs (by omega) ⟨rfl, rfl, rfl⟩
    · subst g; exact S_X11_person_69 hs (by omega) ⟨by show I1 342 (24 + 4 * p + 2 - 2) = _; rw [show 24 + 4 * p + 2 - 2 = 24 + 4 * p by omega]; rfl, rfl, rfl⟩
    · subst g; exact S_X11_person_69 hs (by omega) ⟨by show I1 342 (24 + 4 * p + 3 - 2) = _; rw [show 24 + 4 * p + 3 - 2 = 25 + 4 * p by omega]; rfl, rfl, rfl⟩
    · subst g; exact S_X11_person_69 hs (by omega) ⟨by show I1 342 (24 + 4 * p + 4 - 2) = _; rw [show 24 + 4 * p + 4 - 2 = 26 + 4 * p by omega]; rfl, rfl, rfl⟩
    · subst g; exact S_X11_person_85 hs (by omega) ⟨by show I1 348 (3 + 5 * p + 5 - 3) = _; rw [show 3 + 5 * p + 5 - 3 = 3 + 5 * p + 2 by omega]; rfl, rfl, rfl⟩
    · subst g; exact S_X11_person_85 hs (by omega) ⟨by show I1 348 (3 + 5 * p + 6 - 3) = _; rw [show 3 + 5 * p + 6 - 3 = 3 + 5 * p + 3 by omega]; rfl, rfl, rfl⟩
    · subst g; exact S_X11_person_85 hs (by omega) ⟨by show I1 348 (3 + 5 * p + 7 - 3) = _; rw [show 3 + 5 * p + 7 - 3 = 3 + 5 * p + 4 by omega]; rfl, rfl, rfl⟩
    · exact S_X11_person_100 ⟨by rw [if_neg (by omega), if_neg (by omega), if_neg (by omega), if_neg (by omega), if_neg (by omega), if_neg (by omega), if_neg (by omega), if_neg (by omega)], rfl, rfl⟩
  · have c := bi_0 (hz.symm.trans g)
    exact S_X11_person_8 ⟨by unfold perV; rw [if_pos c], rfl, rfl⟩
theorem c_xperson {X : CX} {I R : PF} {p o q w : Int} (hs : Shp R) (hv : Vw p I) (hq : inR q) (hw : inR w) : CN X 1 mX10_person [(2, 64), (0, q), (0, w)] I R (fun v I' R' => v.2 = perV I q w ∧ I' = I ∧ R' = R) := by
  refine callee_b (by decide +kernel) (Nat.le_of_ble_eq_true rfl) rfl ?_
  have b4 := hv.2.1.2.2.2
  have r := hv.2.2.2.2.2.2.1
  have sp := hv.2.2.2.2.2.2.2.1
  refine S_X10_person_0 (d1 := 0) hs (by omega) (c_knows kM111 hq (by unfold inR; omega)) (fun z I1 R1 q1 => ?_)
  obtain ⟨(hz : z = _), rfl, rfl⟩ := q1
  have b := bi_r (0 ≤ q ∧ q < I1 111 3)
  refine S_X10_person_8 (by omega) (fun g => ?_) (fun g => ?_)
  · have c := bi_0 (hz.symm.trans g)
    exact S_X10_person_21 ⟨by unfold perV; rw [if_pos (by omega)], rfl, rfl⟩
  · have c := bi_1 (by rw [← hz]; exact g)
    have c' : 0 ≤ q ∧ q < I1 339 4 := by omega
    obtain ⟨s0, s1, s2, s3, s4, s5, s6, s7⟩ := sp q c'.1 c'.2
    unfold perV
    rw [if_neg (fun k => k c')]
    have no : ¬ (0 ≤ w ∧ w < 8) → PN X 1 mX10_person 21 [] [] I1 R1 (fun v I' R' => v.2 = (if w = 0 then I1 348 (3 + 5 * q) else if w = 1 then I1 348 (3 + 5 * q + 1) else if w = 2 then I1 342 (24 + 4 * q) else if w = 3 then I1 342 (25 + 4 * q) else if w = 4 then I1 342 (26 + 4 * q) else if w = 5 then I1 348 (3 + 5 * q + 2) else if w = 6 then I1 348 (3 + 5 * q + 3) else if w = 7 then I1 348 (3 + 5 * q + 4) else -1) ∧ I' = I1 ∧ R' = R1) := fun k =>
      S_X10_person_21 ⟨by rw [if_neg (by omega), if_neg (by omega), if_neg (by omega), if_neg (by omega), if_neg (by omega), if_neg (by omega), if_neg (by omega), if_neg (by omega)], rfl, rfl⟩
    refine S_X10_person_11 hw (fun g1 => no (by omega)) (fun g1 => S_X10_person_15 hw (fun g2 => ?_) (fun g2 => no (by omega)))
    refine S_X10_person_23 hs (by omega) ⟨g1, g2⟩ ⟨?_, rfl, rfl⟩
    show I1 (111 + 2 + q) w = _
    rw [show 111 + 2 + q = 113 + q by omega]
    rcases (show w = 0 ∨ w = 1 ∨ w = 2 ∨ w = 3 ∨ w = 4 ∨ w = 5 ∨ w = 6 ∨ w = 7 by omega) with rfl | rfl | rfl | rfl | rfl | rfl | rfl | rfl
    · exact s0
    · exact s1
    · exact s2
    · exact s3
    · exact s4
    · exact s5
    · exact s6
    · exact s7
theorem b_person {X : CX} {I R : PF} {q w : Int} (h : Sim I R) (hq : inR q) (hw : inR w) : Both X 1 3 mX10_person mX11_person [(0, q), (0, w)] I R := by
  obtain ⟨p, o, hp⟩ := h.plc
  have hv := h.vw hp
  have r := hv.2.2.2.2.2.2.1
  exact Both.same h (c_xperson (o := o) h.1 hv hq hw) (c_mperson h.1 hq hw (by omega))
/-! kept -/
def kepV (I : PF) (k w : Int) : Int := if 0 ≤ k ∧ k < I 348 33 ∧ 0 ≤ w ∧ w < 3 then I 348 (34 + 3 * k + w) else -1
theorem c_mkept {X : CX} {I R : PF} {k w : Int} (hs : Shp R) (hk : inR k) (hw : inR w) (hn : 0 ≤ I 348 33 ∧ I 348 33 ≤ 40) : CN X 2 mX11_kept [(2, 306), (0, k), (0, w)] I R (fun v I' R' => v.2 = kepV I k w ∧ I' = I ∧ R' = R) := by
  refine callee_b (by decide +kernel) (Nat.le_of_ble_eq_true rfl) rfl ?_
  refine S_X11_kept_0 (d1 := 1) hs hk (by omega) (by omega) (c_isIn hk (by decide) (by unfold inR; omega)) (fun z I1 R1 q => ?_)
  obtain ⟨(hz : z = _), rfl, rfl⟩ := q
  have b := bi_r (0 ≤ k ∧ k ≤ I1 348 33 - 1)
  have no : ¬ (0 ≤ k ∧ k < I1 348 33 ∧ 0 ≤ w ∧ w < 3) → PN X 2 mX11_kept 47 [] [] I1 R1 (fun v I' R' => v.2 = kepV I1 k w ∧ I' = I1 ∧ R' = R1) := fun c => S_X11_kept_47 (S_X11_kept_48 ⟨by unfold kepV; rw [if_neg c], rfl, rfl⟩)
  refine S_X11_kept_16 (by omega) (fun g => no (by have c := bi_0 (hz.symm.trans g); omega)) (fun g => ?_)
  have c := bi_1 (by rw [← hz]; exact g)
  refine S_X11_kept_19 (d1 := 1) hw (by omega) (c_isIn hw (by decide) (by decide)) (fun z2 I2 R2 q => ?_)
  obtain ⟨(hz2 : z2 = _), rfl, rfl⟩ := q
  have b2 := bi_r (0 ≤ w ∧ w ≤ 2)
  refine S_X11_kept_28 (by omega) (fun g2 => no (by have c := bi_0 (hz2.symm.trans g2); omega)) (fun g2 => ?_)
  have c2 := bi_1 (by rw [← hz2]; exact g2)
  exact S_X11_kept_31 hs (by omega) (S_X11_kept_48 ⟨by unfold kepV; rw [if_pos (by omega)], rfl, rfl⟩)
theorem c_toldOf {X : CX} {I R : PF} {p k w : Int} (hs : Shp R) (hv : Vw p I) (hk : inR k) (hw : inR w) : CN X 2 mX4_toldOf [(2, 136), (0, k), (0, w)] I R (fun v I' R' => v.2 = kepV I k w ∧ I' = I ∧ R' = R) := by
  refine callee_b (by decide +kernel) (Nat.le_of_ble_eq_true rfl) rfl ?_
  have c0 := hv.2.2.1
  have pa := hv.2.2.2.2.2.2.2.2.2.2
  have no : ¬ (0 ≤ k ∧ k < I 348 33 ∧ 0 ≤ w ∧ w < 3) → PN X 2 mX4_toldOf 21 [] [] I R (fun v I' R' => v.2 = kepV I k w ∧ I' = I ∧ R' = R) := fun c => S_X4_toldOf_21 ⟨by unfold kepV; rw [if_neg c], rfl, rfl⟩
  refine S_X4_toldOf_0 hk (fun g => no (by omega)) (fun g => ?_)
  refine S_X4_toldOf_4 (d1 := 1) (by omega) (c_told (by unfold inR; omega)) (fun z I1 R1 q => ?_)
  obtain ⟨(hz : z = _), rfl, rfl⟩ := q
  refine S_X4_toldOf_9 hk (by omega) (fun g2 => no (by omega)) (fun g2 => ?_)
  refine S_X4_toldOf_12 hw (fun g3 => no (by omega)) (fun g3 => S_X4_toldOf_16 hw (fun g4 => ?_) (fun g4 => no (by omega)))
  have e := pa k w g (by omega) g3 (by omega)
  have r137 : R1 137 w = 138 + w := by
    rcases (show w = 0 ∨ w = 1 ∨ w = 2 by omega) with rfl | rfl | rfl
    · exact rM137_0 hs
    · exact rM137_1 hs
    · exact rM137_2 hs
  have k138 : kd MF (138 + w) = 12 ∧ (ln MF (138 + w) : Int) = 999 := by
    rcases (show w = 0 ∨ w = 1 ∨ w = 2 by omega) with rfl | rfl | rfl
    · exact ⟨kM138, nM138⟩
    · exact ⟨kM139, nM139⟩
    · exact ⟨kM140, nM140⟩
  refine S_X4_toldOf_23 (d1 := 1) hs (by omega) r137 (by omega) (c_told (by unfold inR; omega)) (fun z2 I2 R2 q => ?_)
  obtain ⟨(hz2 : z2 = _), rfl, rfl⟩ := q
  refine S_X4_toldOf_37 k138.1 (by omega) (by omega) ⟨?_, rfl, rfl⟩
  show I2 (138 + w) (I2 136 1 - z2 + k) = _
  unfold kepV
  rw [if_pos (by omega), e, hz2]
theorem b_kept {X : CX} {I R : PF} {k w : Int} (h : Sim I R) (hk : inR k) (hw : inR w) : Both X 3 2 mX10_kept mX11_kept [(0, k), (0, w)] I R := by
  obtain ⟨p, o, hp⟩ := h.plc
  have hv := h.vw hp
  have c0 := hv.2.2.1
  refine Both.same h ?_ (c_mkept h.1 hk hw (by omega))
  refine callee_b (by decide +kernel) (Nat.le_of_ble_eq_true rfl) rfl ?_
  refine S_X10_kept_0 (d1 := 2) h.1 (by omega) (c_toldOf h.1 hv hk hw) (fun z I1 R1 q => ?_)
  obtain ⟨(hz : z = _), rfl, rfl⟩ := q
  exact S_X10_kept_9 ⟨hz, rfl, rfl⟩
