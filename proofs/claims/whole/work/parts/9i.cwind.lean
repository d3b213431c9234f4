/-! ===== the class draws; its wind ===== -/
theorem land31 {a : Int} (h0 : 0 ≤ a) (h1 : a < 9223372036854775808) : (Int64.ofInt a &&& Int64.ofInt 2147483647).toInt = a % 2147483648 := by
  obtain ⟨n, rfl⟩ := Int.eq_ofNat_of_zero_le h0
  have e1 : (Int64.ofInt (n : Int)).toBitVec = BitVec.ofNat 64 n := BitVec.ofInt_natCast 64 n
  have e2 : (Int64.ofInt 2147483647).toBitVec = BitVec.ofNat 64 2147483647 := by decide
  have e3 : (BitVec.ofNat 64 n &&& BitVec.ofNat 64 2147483647).toNat = n % 2147483648 := by
    rw [BitVec.toNat_and, BitVec.toNat_ofNat, BitVec.toNat_ofNat, Nat.mod_eq_of_lt (show n < 2 ^ 64 by omega), show 2147483647 % 2 ^ 64 = 2 ^ 31 - 1 by decide, Nat.and_two_pow_sub_one_eq_mod]
  show ((Int64.ofInt (n : Int)).toBitVec &&& (Int64.ofInt 2147483647).toBitVec).toInt = _
  rw [e1, e2, BitVec.toInt_eq_toNat_of_lt (by rw [e3]; omega), e3]
  omega
theorem c_draw {X : CX} {I R : PF} {n s : Int} (hs : I 303 0 = s) (hr : sdR s) (hn : 0 < n ∧ inR n) : CN X 0 mX0_draw [(2, 303), (0, n)] I R (fun v I' R' => v.2 = drw n s ∧ I' 303 0 = nx s ∧ FR (fun x y => x = 303 ∧ y = 0) I I' ∧ R' = R) := by
  refine callee_b (by decide +kernel) (Nat.le_of_ble_eq_true rfl) rfl ?_
  obtain ⟨h0, h1⟩ := hr
  obtain ⟨n0, n1⟩ := hn
  have em : (Int64.ofInt (1103515245 * I 303 0 + 12345) &&& Int64.ofInt 2147483647).toInt = nx s := by rw [hs, land31 (by omega) (by omega)]; rfl
  have er := nx_r s
  unfold sdR at er
  have ed : (nx s).tdiv 64 = nx s / 64 := Int.tdiv_eq_ediv_of_nonneg er.1
  have eq : (nx s / 64).tmod n = drw n s := Int.tmod_eq_emod_of_nonneg (by omega)
  refine S_X0_draw_0 n1 (fun _ => ?_) (fun g => by omega)
  rw [em]
  have e0 : u2 I 303 0 (nx s) 303 0 = nx s := u2_at
  have n2 := n1
  refine S_X0_draw_29 (by omega) n1 (by omega) (by rw [e0, ed]; omega) (by omega) (S_X0_draw_41 ⟨?_, e0, FR_u2 ⟨rfl, rfl⟩, rfl⟩)
  show ((u2 I 303 0 (nx s) 303 0).tdiv 64).tmod n = _
  rw [e0, ed, eq]
/-- the square's cells but the stacks of its formulas -/
theorem QR.f2 {D : PF} {o : Int} {I I' : PF} (h : QR D o I) (g : ∀ x, o ≤ x → x ≤ o + 18 → x ≠ o + 7 → x ≠ o + 10 → I' x = I x) (hD : GD D) : QR D o I' := by
  obtain ⟨⟨a1, a2, a3, a4, a5⟩, ⟨b1, b2, b3, b4⟩, c1, c2, c3, c4, c5, c6⟩ := h
  obtain ⟨-, ⟨-, -, -, r4, -⟩, -⟩ := hD
  have e : ∀ x y, o ≤ x → x ≤ o + 18 → x ≠ o + 7 → x ≠ o + 10 → I' x y = I x y := fun x y h1 h2 h3 h4 => by rw [g x h1 h2 h3 h4]
  refine ⟨⟨(e _ _ (by omega) (by omega) (by omega) (by omega)).trans a1, (e _ _ (by omega) (by omega) (by omega) (by omega)).trans a2, (e _ _ (by omega) (by omega) (by omega) (by omega)).trans a3, (e _ _ (by omega) (by omega) (by omega) (by omega)).trans a4, (e _ _ (by omega) (by omega) (by omega) (by omega)).trans a5⟩, ⟨(e _ _ (by omega) (by omega) (by omega) (by omega)).trans b1, (e _ _ (by omega) (by omega) (by omega) (by omega)).trans b2, (e _ _ (by omega) (by omega) (by omega) (by omega)).trans b3, (e _ _ (by omega) (by omega) (by omega) (by omega)).trans b4⟩, ?_, ?_, ?_, ?_, ?_, ?_⟩
  · intro k k0 k1; rw [e _ _ (by omega) (by omega) (by omega) (by omega)]; exact c1 k k0 k1
  · intro k k0 k1; rw [e _ _ (by omega) (by omega) (by omega) (by omega)]; exact c2 k k0 k1
  · intro j j0 j1; rw [e _ _ (by omega) (by omega) (by omega) (by omega)]; exact c3 j j0 j1
  · intro x y x0 x1 y0 y1; rw [e _ _ (by omega) (by omega) (by omega) (by omega)]; exact c4 x y x0 x1 y0 y1
  · intro p p0 p1
    rw [g (o + 11 + 2 + p) (by omega) (by omega) (by omega) (by omega)]
    exact c5 p p0 p1
  · intro w hw
    obtain ⟨d1, d2⟩ := c6 w hw
    rw [g (o + 5 + 3 * w) (by omega) (by omega) (by omega) (by omega), g (o + 5 + 3 * w + 1) (by omega) (by omega) (by omega) (by omega)]
    exact ⟨d1, d2⟩
/-- the class amid throws of one noon: square o, people s, what winds and may have said -/
def ClF (D K : PF) (noon o s : Int) (I : PF) : Prop := QR D o I ∧ LR D o I ∧ StC D K s I ∧ (I 131 10 = noon ∧ bd (I 131 5)) ∧ (∀ h, 0 ≤ h → h < 10 → I 132 h = -2 ∨ I 132 h = wndV D noon h) ∧ ∀ p h, 0 ≤ p → p < D 339 1 → 0 ≤ h → h < 10 → I 133 (10 * p + h) = -2 ∨ I 133 (10 * p + h) = bi (mayV D K noon h p)
/-- cells that a flight changes, the notes on winds and may aside -/
def mCf (o x y : Int) : Prop := (x = 127 ∧ 3 ≤ y ∧ y ≤ 7) ∨ x = 128 ∨ x = 129 ∨ x = 130 ∨ (x = 131 ∧ y ≠ 10) ∨ x = o + 7 ∨ x = o + 10 ∨ (x = 303 ∧ (y = 0 ∨ y = 1)) ∨ x = 134 ∨ x = 135
theorem ClF.fr {D K : PF} {noon o s : Int} {I I' : PF} (h : ClF D K noon o s I) (hk : kd MF o = 6) (hss : s = 111 ∨ s = 119) (hG : GD D) (f : FR (mCf o) I I') (h5' : bd (I' 131 5)) : ClF D K noon o s I' := by
  obtain ⟨h1, h2, h3, h4, h5, h6⟩ := h
  have ho := sq_o hk
  have hD := hG.2.1
  have e : ∀ x y, ¬ mCf o x y → I' x y = I x y := f
  refine ⟨h1.f2 (fun x x0 x1 x2 x3 => funext fun y => e x y (fun c => by unfold mCf at c; omega)) hG, fun k k0 k1 => ?_, h3.fr ⟨by omega, by omega⟩ (fun x y c => e x y (fun k => by unfold mCf at k; unfold stC at c; omega)), ?_, fun k k0 k1 => ?_, fun p k p0 p1 k0 k1 => ?_⟩
  · rw [e _ _ (fun c => by unfold mCf at c; omega)]; exact h2 k k0 k1
  · rw [e _ _ (fun c => by unfold mCf at c; omega)]; exact ⟨h4.1, h5'⟩
  · rw [e _ _ (fun c => by unfold mCf at c; omega)]; exact h5 k k0 k1
  · rw [e _ _ (fun c => by unfold mCf at c; omega)]; exact h6 p k p0 p1 k0 k1
/-- cells that the wind changes -/
def mWd (o dz x y : Int) : Prop := (x = 303 ∧ dz = 303 ∧ (y = 0 ∨ y = 1)) ∨ (x = 131 ∧ y ≠ 10) ∨ x = 132 ∨ x = o + 7
theorem cods_CA {D I : PF} {o w : Int} (hQ : QR D o I) (hW : WD D) (hw : w = 0 ∨ w = 1) (hn : D 345 w ≠ -1) : I (o + 5 + 3 * w) 2 = (cods D w).length ∧ CA (I (o + 5 + 3 * w + 1)) 0 (cods D w) := by
  obtain ⟨-, -, -, -, -, -, -, c6⟩ := hQ
  obtain ⟨d1, d2⟩ := (c6 w hw).2 hn
  obtain ⟨a1, a2, a3, -⟩ := hW.2 w hw hn
  have hl : (cods D w).length = (D 346 w - D 345 w).toNat := by unfold cods; rw [List.length_map, List.length_range]
  refine ⟨by omega, fun j hj => ?_⟩
  rw [Int.zero_add, d2 j (by omega) (by omega)]
  unfold cods
  rw [List.getD_eq_getElem?_getD, List.getElem?_map, List.getElem?_range (by omega)]
  rfl
theorem o32 {a : Int} (h : inR a) : (Int32.ofInt a).toInt = a := Int32.toInt_ofInt_of_le (by unfold inR at h; omega) (by unfold inR at h; omega)
theorem x32 {a b : Int} (ha : inR a) (hb : inR b) : ((Int32.ofInt a ^^^ Int32.ofInt b).toInt < 0) ↔ ((a < 0) ↔ ¬ (b < 0)) := by
  have h : (Int32.ofInt a ^^^ Int32.ofInt b).toBitVec.msb = ((Int32.ofInt a).toBitVec.msb ^^ (Int32.ofInt b).toBitVec.msb) := by rw [Int32.toBitVec_xor, BitVec.msb_xor]
  rw [BitVec.msb_eq_toInt, BitVec.msb_eq_toInt, BitVec.msb_eq_toInt, Int32.toInt_toBitVec, Int32.toInt_toBitVec, Int32.toInt_toBitVec, o32 ha, o32 hb] at h
  by_cases c1 : a < 0 <;> by_cases c2 : b < 0 <;> simp [c1, c2] at h ⊢ <;> omega
theorem c_floorMod9 {X : CX} {I R : PF} {v : Int} (hv : bd v) : CN X 0 mJ9_floorMod_7cf53 [(0, v), (0, 9)] I R (fun u I' R' => u.2 = v % 9 ∧ I' = I ∧ R' = R) := by
  refine callee_f (by decide +kernel) (Nat.le_of_ble_eq_true rfl) rfl ?_
  unfold bd at hv
  have hx := x32 (a := v) (b := 9) (by unfold inR; omega) (by decide)
  have h9 := tm9 v
  refine S_J9_floorMod_7cf53_0 (by decide) (by omega) (by decide) ⟨Int32.minValue_le_toInt _, Int32.toInt_lt _⟩ (fun g => ?_) (fun g => ?_)
  · refine S_J9_floorMod_7cf53_18 ⟨?_, rfl, rfl⟩
    show v.tmod 9 = _
    have : ¬ (v < 0) := fun c => by have := hx.mpr (by omega); omega
    rw [h9, if_pos (by omega)]
  · have hn : v < 0 := by have := hx.mp g; omega
    rw [if_neg (by omega)] at h9
    refine S_J9_floorMod_7cf53_10 (by omega) (fun g1 => S_J9_floorMod_7cf53_18 ⟨?_, rfl, rfl⟩) (fun g1 => S_J9_floorMod_7cf53_14 ⟨?_, rfl, rfl⟩)
    · show v.tmod 9 = _; omega
    · show v.tmod 9 + 9 = _; omega
theorem ev_s {z : Int} {e : Int → Int} {s s' : Int} (hz : z ≠ 2) : ∀ (w st : List Int), Run z e s w st → ev e s' w st = ev e s w st
  | [], st, _ => rfl
  | c :: w, st, h => by
    have h1 : ev1 e s' c st = ev1 e s c st := by
      unfold ev1
      by_cases c1 : 1000 ≤ c
      · rw [if_pos c1, if_pos c1]
      · have c2 : ¬ 60 ≤ c := fun k => by
          rcases h.1.2 with a | a | a | a | a | a | a
          · omega
          · exact hz a.2.1
          · omega
          · omega
          · have := a.1; omega
          · omega
          · have := a.1; omega
        rw [if_neg c1, if_neg c1, if_neg c2, if_neg c2]
    show ev e s' w (ev1 e s' c st) = ev e s w (ev1 e s c st)
    rw [h1]
    exact ev_s hz w _ h.2
theorem c_value0 {X : CX} {I R : PF} {f a : Int} (kf : kd MF f = 2) (h : I f 2 = 0) : CN X 2 mX2_valueBy [(2, f), (2, a)] I R (fun u I' R' => u.2 = 0 ∧ I' = I ∧ R' = R) :=
  callee_b (by decide +kernel) (Nat.le_of_ble_eq_true rfl) rfl (S_X2_valueBy_0 (S_X2_valueBy_4 kf (by decide) (by omega) (fun _ => S_X2_valueBy_211 (by decide) (fun _ => S_X2_valueBy_226 (S_X2_valueBy_227 ⟨rfl, rfl, rfl⟩)) (fun g => absurd g (by decide))) (fun g => by omega)))
theorem eW_bd {noon hg : Int} (hn : bd noon) (hgr : 0 ≤ hg ∧ hg < 10) : ∀ k, bd (eW noon hg k) := fun k => by
  unfold eW
  by_cases k0 : k = 0
  · rw [if_pos k0]; exact hn
  · rw [if_neg k0]
    by_cases k1 : k = 1
    · rw [if_pos k1]; unfold bd; omega
    · rw [if_neg k1]; unfold bd; omega
theorem c_windV {X : CX} {J R : PF} {D : PF} {noon o hg : Int} (hs : Shp R) (hk : kd MF o = 6) (hQ : QR D o J) (hG : GD D) (hW : WD D) (hn : bd noon) (hgr : 0 ≤ hg ∧ hg < 10) (e10 : J 131 10 = noon) (e11 : J 131 11 = hg) (e5 : bd (J 131 5)) :
    CN X 2 mX2_valueBy [(2, o + 5), (2, 131)] J R (fun u I' R' => bd u.2 ∧ u.2 % 9 = wndV D noon hg ∧ FR (fun x y => x = o + 7 ∧ 0 ≤ y ∧ y < 64) J I' ∧ R' = R) := by
  have hko := sq_o hk
  have ko5 : kd MF (o + 5) = 2 := by rcases hko with rfl | rfl <;> decide +kernel
  have hbe := eW_bd hn hgr
  by_cases c : D 345 0 = -1
  · have z := (hQ.2.2.2.2.2.2.2 0 (Or.inl rfl)).1 c
    rw [show o + 5 + 3 * 0 = o + 5 by omega] at z
    refine Callee.mono (c_value0 ko5 z) (fun v I' R' q => ?_)
    obtain ⟨q1, rfl, rfl⟩ := q
    refine ⟨by rw [q1]; unfold bd; omega, ?_, FR.rf, rfl⟩
    unfold wndV; rw [if_pos c, q1]; rfl
  · obtain ⟨c1, c2⟩ := cods_CA hQ hW (Or.inl rfl) c
    rw [show o + 5 + 3 * 0 = o + 5 by omega] at c1 c2
    obtain ⟨b1, b2, b3, b4⟩ := hW.2 0 (Or.inl rfl) c
    have b53 := hG.2.2.2.2.2.2.2.2.2.1
    have hl : (cods D 0).length = (D 346 0 - D 345 0).toNat := by unfold cods; rw [List.length_map, List.length_range]
    have run := (b4 (eW noon hg) 0 [] hbe (fun v h => absurd h List.not_mem_nil) (Nat.le_refl _)).1
    have es := ev_s (s' := J 131 5) (by decide) _ _ run
    refine Callee.mono (c_valueBy (z := 0) (e := eW noon hg) (s := J 131 5) (B := bW 0) (w := cods D 0) hs ko5 (by decide +kernel) (by decide +kernel) (by omega) ⟨fun k k0 k1 hk => ?_, rfl⟩ hbe e5 c1 (by omega) c2 b4 (fun v h => bW_bd h)) (fun v I' R' q => ?_)
    · unfold al at hk
      rw [if_pos rfl] at hk
      rcases (show k = 0 ∨ k = 1 by omega) with rfl | rfl
      · exact e10
      · exact e11
    · obtain ⟨q1, q2, rfl⟩ := q
      rw [es] at q1
      refine ⟨by rw [q1]; exact bW_bd (ev_bW b4 hbe), ?_, q2.mono (fun x y k => by omega), rfl⟩
      unfold wndV; rw [if_neg c, q1]
theorem wd49 {X : CX} {d : Nat} {I R : PF} {Q : PV → PF → PF → Prop} {D K : PF} {noon o s hg dz : Int} (hs : Shp R) (hd : 3 ≤ d) (ho : R 127 0 = o) (hk : kd MF o = 6) (hss : s = 111 ∨ s = 119) (hF : ClF D K noon o s I) (hG : GD D) (hW : WD D) (hn : bd noon) (hh : I 127 5 = hg) (hgr : 0 ≤ hg ∧ hg < 10)
    (hQ : ∀ I', ClF D K noon o s I' → FR (mWd o dz) I I' → (∀ y, I' 303 y = I 303 y) → Q (0, wndV D noon hg) I' R) : PN X d mX1_wind 49 [(2, 127)] [] I R Q := by
  have hko := sq_o hk
  have hD := hG.2.1
  have wr := wndV_r D noon hg
  obtain ⟨f1, f2, f3, ⟨f4, f4'⟩, f5, f6⟩ := id hF
  have v5 := f5 hg hgr.1 hgr.2
  refine S_X1_wind_49 hs (by omega) (by rw [hh]; rcases v5 with c | c <;> omega) (fun g => ?_) (fun g => ?_)
  · have := hQ I hF FR.rf (fun _ => rfl)
    rw [hh] at g
    have e : I 132 hg = wndV D noon hg := v5.resolve_left g
    refine S_X1_wind_102 hs (by omega) ?_
    rw [hh, e]; exact this
  have g0 : FR (fun x y => x = 131 ∧ y = 11) I (u2 I 131 11 (I 127 5)) := FR_u2 ⟨rfl, rfl⟩
  have e11 : (u2 I 131 11 (I 127 5)) 131 11 = hg := by rw [u2_at]; exact hh
  have f1' : QR D o (u2 I 131 11 (I 127 5)) := f1.fr (fun x x0 x1 => funext fun y => g0 x y (fun c => by omega)) hG
  have e10 : (u2 I 131 11 (I 127 5)) 131 10 = noon := by rw [g0 _ _ (fun c => by omega)]; exact f4
  have e5' : bd ((u2 I 131 11 (I 127 5)) 131 5) := by rw [g0 _ _ (fun c => by omega)]; exact f4'
  have e5 : (u2 I 131 11 (I 127 5)) 127 5 = hg := by rw [g0 _ _ (fun c => by omega)]; exact hh
  refine S_X1_wind_63 (d1 := 2) hs ho hk (by omega) (c_windV hs hk f1' hG hW hn hgr e10 e11 e5') (fun z I1 R1 q => ?_)
  obtain ⟨(q1 : bd z), (q2 : z % 9 = _), q3, rfl⟩ := q
  rw [e5]
  refine S_X1_wind_96 (d1 := 0) (by omega) (c_floorMod9 q1) (fun z2 I2 R2 q => ?_)
  obtain ⟨(q4 : z2 = _), rfl, rfl⟩ := q
  rw [q4, q2]
  have g1 : FR (fun x y => (x = 131 ∧ y = 11) ∨ (x = o + 7 ∧ 0 ≤ y ∧ y < 64) ∨ (x = 132 ∧ y = hg)) I (u2 I2 132 hg (wndV D noon hg)) := (g0.mono (fun x y c => Or.inl c)).tr ((q3.mono (fun x y c => Or.inr (Or.inl c))).tr (FR_u2 (Or.inr (Or.inr ⟨rfl, rfl⟩))))
  have e13 : (u2 I2 132 hg (wndV D noon hg)) 132 hg = wndV D noon hg := u2_at
  refine S_X1_wind_101 (by omega) ?_
  generalize u2 I2 132 hg (wndV D noon hg) = J at g1 e13
  have e127 : J 127 5 = hg := by rw [g1 _ _ (fun c => by omega)]; exact hh
  refine S_X1_wind_102 hs (by omega) ?_
  rw [e127, e13]
  refine hQ J ⟨f1.f2 (fun x x0 x1 x2 x3 => funext fun y => g1 x y (fun c => by omega)) hG, fun k k0 k1 => ?_, f3.fr ⟨by omega, by omega⟩ (fun x y c => g1 x y (fun k => by unfold stC at c; omega)), ⟨?_, ?_⟩, fun k k0 k1 => ?_, fun p k p0 p1 k0 k1 => ?_⟩ (g1.mono (fun x y c => by unfold mWd; omega)) (fun y => g1 303 y (fun c => by omega))
  · rw [g1 _ _ (fun c => by omega)]; exact f2 k k0 k1
  · rw [g1 _ _ (fun c => by omega)]; exact f4
  · rw [g1 _ _ (fun c => by omega)]; exact f4'
  · by_cases e : k = hg
    · rw [e]; exact Or.inr e13
    · rw [g1 _ _ (fun c => by omega)]; exact f5 k k0 k1
  · rw [g1 _ _ (fun c => by omega)]; exact f6 p k p0 p1 k0 k1
theorem c_wind {X : CX} {I R : PF} {D K : PF} {noon o s hg dz dr sd gm : Int} (hs : Shp R) (ho : R 127 0 = o) (hk : kd MF o = 6) (hr2 : R 127 2 = dz) (hdz : dr = 0 ∧ dz = 0 ∨ dr = 1 ∧ dz = 303) (hss : s = 111 ∨ s = 119) (hF : ClF D K noon o s I) (hG : GD D) (hW : WD D) (hn : bd noon) (hh : I 127 5 = hg) (hgr : 0 ≤ hg ∧ hg < 10) (hsd : dz = 303 → I 303 0 = sd ∧ sdR sd ∧ I 303 1 = gm) :
    CN X 4 mX1_wind [(2, 127)] I R (fun v I' R' => v.2 = fWd D noon dr hg sd ∧ (dz = 303 → I' 303 0 = fSd D dr sd ∧ I' 303 1 = fGm D dr sd gm) ∧ ClF D K noon o s I' ∧ FR (mWd o dz) I I' ∧ R' = R) := by
  refine callee_b (by decide +kernel) (Nat.le_of_ble_eq_true rfl) rfl ?_
  have hko := sq_o hk
  have h48 := hG.2.2.2.2.2.2.2.2.1
  refine S_X1_wind_0 hr2 (fun g => ?_) (fun g => ?_)
  · obtain ⟨rfl, -⟩ : dr = 0 ∧ dz = 0 := by omega
    have nh : ¬ hitD D 0 sd := fun c => c.1 rfl
    refine wd49 (K := K) (s := s) (dz := dz) hs (by omega) ho hk hss hF hG hW hn hh hgr (fun I' a b _ => ⟨?_, fun c => by omega, a, b, rfl⟩)
    unfold fWd; rw [cif_f nh]
  obtain ⟨rfl, rfl⟩ : dr = 1 ∧ dz = 303 := by omega
  obtain ⟨s1, s2, s3⟩ := hsd rfl
  refine S_X1_wind_7 (d1 := 0) hr2 (by omega) (c_draw s1 s2 (by decide)) (by decide +kernel) (fun z I1 R1 q => ?_)
  obtain ⟨(hz : z = _), q1, q2, rfl⟩ := q
  have dr1 := drw_r sd (show (0 : Int) < 100 by decide)
  have e7 : I1 o 7 = D 306 48 := by rw [q2 _ _ (fun c => by omega)]; exact hF.1.2.1.2.2.1
  have hF1 : ClF D K noon o s I1 := hF.fr hk hss hG (q2.mono (fun x y c => by unfold mCf; omega)) (by rw [q2 _ _ (fun c => by omega)]; exact hF.2.2.2.1.2)
  have fW : FR (mWd o 303) I I1 := q2.mono (fun x y c => by unfold mWd; omega)
  refine S_X1_wind_16 ho hk (by omega) (by omega) (fun g2 => ?_) (fun g2 => ?_)
  · have nh : ¬ hitD D 1 sd := fun c => by have := c.2; omega
    refine wd49 (K := K) (s := s) (dz := 303) hs (by omega) ho hk hss hF1 hG hW hn (by rw [q2 _ _ (fun c => by omega)]; exact hh) hgr (fun I' a b b' => ⟨?_, fun c => ⟨?_, ?_⟩, a, fW.tr b, rfl⟩)
    · unfold fWd; rw [cif_f nh]
    · unfold fSd; rw [b', if_neg (by decide), cif_f nh]; exact q1
    · unfold fGm; rw [b', cif_f nh, q2 _ _ (fun c => by omega)]; exact s3
  · have nh : hitD D 1 sd := ⟨by decide, by omega⟩
    have e1 : I1 303 1 = gm := by rw [q2 _ _ (fun c => by omega)]; exact s3
    have g1 : FR (fun x y => x = 303 ∧ y = 1) I1 (u2 I1 303 1 (I1 303 1 + 1)) := FR_u2 ⟨rfl, rfl⟩
    have w1 : (u2 I1 303 1 (I1 303 1 + 1)) 303 1 = gm + 1 := by rw [u2_at, e1]
    have w0 : (u2 I1 303 1 (I1 303 1 + 1)) 303 0 = nx sd := by rw [u2_j (by decide)]; exact q1
    refine S_X1_wind_26 (d1 := 0) hr2 (by decide +kernel) (by omega) (c_draw w0 (nx_r sd) (by decide)) (fun z2 I2 R2 q => ?_)
    obtain ⟨(hz2 : z2 = _), q4, q5, rfl⟩ := q
    have ff : FR (fun x y => x = 303 ∧ (y = 0 ∨ y = 1)) I I2 := (q2.mono (fun x y c => ⟨c.1, Or.inl c.2⟩)).tr ((g1.mono (fun x y c => ⟨c.1, Or.inr c.2⟩)).tr (q5.mono (fun x y c => ⟨c.1, Or.inl c.2⟩)))
    refine S_X1_wind_48 ⟨?_, fun _ => ⟨?_, ?_⟩, hF.fr hk hss hG (ff.mono (fun x y c => by unfold mCf; omega)) (by rw [ff _ _ (fun c => by omega)]; exact hF.2.2.2.1.2), ff.mono (fun x y c => Or.inl ⟨c.1, rfl, c.2⟩), rfl⟩
    · show z2 = _
      unfold fWd; rw [cif_t nh]; exact hz2
    · unfold fSd; rw [if_neg (by decide), cif_t nh]; exact q4
    · unfold fGm; rw [cif_t nh, q5 _ _ (fun c => by omega)]; exact w1
