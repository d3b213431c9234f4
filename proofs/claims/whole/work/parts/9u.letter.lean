/-! ===== letter, place ===== -/
def dgF : Nat → Int → Int
  | 0, _ => 0
  | f + 1, y => if y ≤ 0 then 0 else 1 + dgF f (y / 27)
def dvF : Nat → Int → Int
  | 0, y => y
  | f + 1, y => dvF f (y / 27)
theorem dgF_r : ∀ (f : Nat) (y : Int), 0 ≤ dgF f y ∧ dgF f y ≤ f
  | 0, y => by unfold dgF; omega
  | f + 1, y => by
    have := dgF_r f (y / 27)
    unfold dgF
    by_cases c : y ≤ 0
    · rw [if_pos c]; omega
    · rw [if_neg c]; omega
theorem dg_loop {X : CX} {d : Nat} {I R : PF} {Q : PV → PF → PF → Prop} {k v : Int} : ∀ (f : Nat) (n y : Int), 0 ≤ y → y < 27 ^ f → y < 9223372036854775808 → (PN X d mX11_letter 88 [(9, 0), (9, 0), (9, 0), (0, k), (1, v), (9, 0), (0, n + dgF (f + 1) y)] [] I R Q) → PN X d mX11_letter 67 [(9, 0), (9, 0), (9, 0), (0, k), (1, v), (9, 0), (0, n), (1, y)] [] I R Q
  | 0, n, y, h0, h1, h2, hQ => by
    have e : y = 0 := by simp at h1; omega
    subst e
    refine S_X11_letter_67 (by decide) (fun _ => ?_) (fun g => absurd g (by decide))
    have : n + dgF (0 + 1) 0 = n := by unfold dgF; rw [if_pos (by decide)]; omega
    rw [this] at hQ
    exact hQ
  | f + 1, n, y, h0, h1, h2, hQ => by
    refine S_X11_letter_67 (by omega) (fun g => ?_) (fun g => ?_)
    · have : n + dgF (f + 1 + 1) y = n := by unfold dgF; rw [if_pos g]; omega
      rw [this] at hQ
      exact hQ
    · have e : y.tdiv 27 = y / 27 := Int.tdiv_eq_ediv_of_nonneg h0
      refine S_X11_letter_74 (by omega) ?_
      rw [e]
      refine dg_loop f (n + 1) (y / 27) (by omega) ?_ (by omega) ?_
      · rw [Int.pow_succ] at h1
        generalize (27 : Int) ^ f = w at h1 ⊢
        omega
      · have : n + dgF (f + 1 + 1) y = n + 1 + dgF (f + 1) (y / 27) := by
          rw [dgF, if_neg (by omega)]; omega
        rw [this] at hQ
        exact hQ
theorem dv_loop {X : CX} {d : Nat} {I R : PF} {Q : PV → PF → PF → Prop} {k : Int} (hk : 0 ≤ k ∧ k < 6) : ∀ (f : Nat) (q y : Int), q = k + f → q < 100 → 0 ≤ y → y < 9223372036854775808 → Q (0, (dvF f y) % 27) I R → PN X d mX11_letter 102 [(9, 0), (9, 0), (9, 0), (0, k), (1, y), (9, 0), (9, 0), (0, q)] [] I R Q
  | 0, q, y, hq, hq9, h0, h2, hQ => by
    refine S_X11_letter_102 (by omega) (by omega) (fun _ => ?_) (fun g => by omega)
    refine S_X11_letter_122 (by omega) ?_
    rw [Int.tmod_eq_emod_of_nonneg h0]
    exact hQ
  | f + 1, q, y, hq, hq9, h0, h2, hQ => by
    refine S_X11_letter_102 (by omega) (by omega) (fun g => by omega) (fun _ => ?_)
    refine S_X11_letter_108 (by omega) ?_
    rw [Int.tdiv_eq_ediv_of_nonneg h0]
    exact dv_loop hk f (q + -1) (y / 27) (by omega) (by omega) (by omega) (by omega) hQ
def letW (v k : Int) : Int := if dgF 7 v ≤ k then 0 else dvF (dgF 7 v - 1 - k).toNat v % 27
def letV (I : PF) (a w k : Int) : Int := if (a = 0 ∨ a = 1) ∧ (0 ≤ w ∧ w < I 339 (3 + a)) ∧ 0 ≤ k ∧ k < 6 then letW (I 340 (12 + 6 * a + w)) k else -1
theorem dg_1 {v : Int} (h0 : 0 < v) {f : Nat} : dgF (f + 1) v = 1 + dgF f (v / 27) := by rw [dgF, if_neg (by omega)]
theorem dg_0 {v : Int} (h0 : v ≤ 0) {f : Nat} : dgF (f + 1) v = 0 := by rw [dgF, if_pos h0]
theorem letW_pad {v k : Int} (hv : okW v) (hk : 0 ≤ k ∧ k < 6) : (pad v / ((sT 39).getD k.toNat 0)) % 27 = letW v k := by
  obtain ⟨h1, h2, -⟩ := hv
  have fin : ∀ n : Int, dgF 7 v = n → (n = 1 ∧ v < 27 ∨ n = 2 ∧ 27 ≤ v ∧ v < 729 ∨ n = 3 ∧ 729 ≤ v ∧ v < 19683 ∨ n = 4 ∧ 19683 ≤ v ∧ v < 531441 ∨ n = 5 ∧ 531441 ≤ v ∧ v < 14348907 ∨ n = 6 ∧ 14348907 ≤ v) → (pad v / ((sT 39).getD k.toNat 0)) % 27 = letW v k := fun n hn hc => by
    unfold letW
    rw [hn]
    unfold pad
    have P0' : (sT 39).getD (Int.toNat 0) 0 = 14348907 := by decide
    have P1' : (sT 39).getD (Int.toNat 1) 0 = 531441 := by decide
    have P2' : (sT 39).getD (Int.toNat 2) 0 = 19683 := by decide
    have P3' : (sT 39).getD (Int.toNat 3) 0 = 729 := by decide
    have P4' : (sT 39).getD (Int.toNat 4) 0 = 27 := by decide
    have P5' : (sT 39).getD (Int.toNat 5) 0 = 1 := by decide
    rcases (show k = 0 ∨ k = 1 ∨ k = 2 ∨ k = 3 ∨ k = 4 ∨ k = 5 by omega) with rfl | rfl | rfl | rfl | rfl | rfl
    · rw [P0']; rcases hc with ⟨rfl, c⟩ | ⟨rfl, c, c2⟩ | ⟨rfl, c, c2⟩ | ⟨rfl, c, c2⟩ | ⟨rfl, c, c2⟩ | ⟨rfl, c⟩ <;> simp [dvF] <;> (repeat' split) <;> omega
    · rw [P1']; rcases hc with ⟨rfl, c⟩ | ⟨rfl, c, c2⟩ | ⟨rfl, c, c2⟩ | ⟨rfl, c, c2⟩ | ⟨rfl, c, c2⟩ | ⟨rfl, c⟩ <;> simp [dvF] <;> (repeat' split) <;> omega
    · rw [P2']; rcases hc with ⟨rfl, c⟩ | ⟨rfl, c, c2⟩ | ⟨rfl, c, c2⟩ | ⟨rfl, c, c2⟩ | ⟨rfl, c, c2⟩ | ⟨rfl, c⟩ <;> simp [dvF] <;> (repeat' split) <;> omega
    · rw [P3']; rcases hc with ⟨rfl, c⟩ | ⟨rfl, c, c2⟩ | ⟨rfl, c, c2⟩ | ⟨rfl, c, c2⟩ | ⟨rfl, c, c2⟩ | ⟨rfl, c⟩ <;> simp [dvF] <;> (repeat' split) <;> omega
    · rw [P4']; rcases hc with ⟨rfl, c⟩ | ⟨rfl, c, c2⟩ | ⟨rfl, c, c2⟩ | ⟨rfl, c, c2⟩ | ⟨rfl, c, c2⟩ | ⟨rfl, c⟩ <;> simp [dvF] <;> (repeat' split) <;> omega
    · rw [P5']; rcases hc with ⟨rfl, c⟩ | ⟨rfl, c, c2⟩ | ⟨rfl, c, c2⟩ | ⟨rfl, c, c2⟩ | ⟨rfl, c, c2⟩ | ⟨rfl, c⟩ <;> simp [dvF] <;> (repeat' split) <;> omega
  by_cases c1 : v < 27
  · exact fin 1 (by rw [dg_1 (by omega), dg_0 (by omega)]; rfl) (Or.inl ⟨rfl, c1⟩)
  by_cases c2 : v < 729
  · exact fin 2 (by rw [dg_1 (by omega), dg_1 (by omega), dg_0 (by omega)]; rfl) (by omega)
  by_cases c3 : v < 19683
  · exact fin 3 (by rw [dg_1 (by omega), dg_1 (by omega), dg_1 (by omega), dg_0 (by omega)]; rfl) (by omega)
  by_cases c4 : v < 531441
  · exact fin 4 (by rw [dg_1 (by omega), dg_1 (by omega), dg_1 (by omega), dg_1 (by omega), dg_0 (by omega)]; rfl) (by omega)
  by_cases c5 : v < 14348907
  · exact fin 5 (by rw [dg_1 (by omega), dg_1 (by omega), dg_1 (by omega), dg_1 (by omega), dg_1 (by omega), dg_0 (by omega)]; rfl) (by omega)
  · exact fin 6 (by rw [dg_1 (by omega), dg_1 (by omega), dg_1 (by omega), dg_1 (by omega), dg_1 (by omega), dg_1 (by omega), dg_0 (by omega)]; rfl) (by omega)
theorem c_letterOf {X : CX} {I R : PF} {v k : Int} (hv : okW v) (hk : 0 ≤ k ∧ k < 6) : CN X 0 mX9_letterOf [(0, pad v), (0, k)] I R (fun u I' R' => u.2 = letW v k ∧ I' = I ∧ R' = R) := by
  refine callee_b (by decide +kernel) (Nat.le_of_ble_eq_true rfl) rfl ?_
  have pr := pad_r hv
  have sp : ∀ j < 6, 1 ≤ (sT 39).getD j 0 ∧ (sT 39).getD j 0 ≤ 14348907 := by decide +kernel
  have s := sp k.toNat (by omega)
  have hw := letW_pad hv hk
  generalize hP : (sT 39).getD k.toNat 0 = P at s hw
  have e1 : (pad v).tdiv P = pad v / P := Int.tdiv_eq_ediv_of_nonneg pr.1
  have e2 : 0 ≤ pad v / P := Int.ediv_nonneg pr.1 (by omega)
  have e3 : pad v / P ≤ pad v := Int.ediv_le_self _ pr.1
  refine S_X9_letterOf_0 (by omega) (fun g => by omega) (fun _ => ?_)
  refine S_X9_letterOf_4 (by omega) (by decide) (fun _ => ?_) (fun g => absurd g (by rw [show ((sT 39).length : Int) = 6 by decide]; omega))
  refine S_X9_letterOf_16 hk (by rw [hP]; omega) (by omega) (by rw [hP]; omega) (by rw [hP, e1]; omega) (S_X9_letterOf_26 ⟨?_, rfl, rfl⟩)
  show ((pad v).tdiv ((sT 39).getD k.toNat 0)).tmod 27 = _
  rw [hP, e1, Int.tmod_eq_emod_of_nonneg e2]
  exact hw
theorem c_mletter {X : CX} {I R : PF} {a w k : Int} (hs : Shp R) (ha : inR a) (hw : inR w) (hk : inR k) (hn : 0 ≤ I 339 3 ∧ I 339 3 ≤ 6 ∧ 0 ≤ I 339 4 ∧ I 339 4 ≤ 6) (h3 : ∀ k, 0 ≤ k → k < I 339 3 → okW (I 340 (12 + k))) (h4 : ∀ k, 0 ≤ k → k < I 339 4 → okW (I 340 (18 + k))) :
    CN X 2 mX11_letter [(2, 306), (0, a), (0, w), (0, k)] I R (fun v I' R' => v.2 = letV I a w k ∧ I' = I ∧ R' = R) := by
  refine callee_b (by decide +kernel) (Nat.le_of_ble_eq_true rfl) rfl ?_
  have no : ¬ ((a = 0 ∨ a = 1) ∧ (0 ≤ w ∧ w < I 339 (3 + a)) ∧ 0 ≤ k ∧ k < 6) → PN X 2 mX11_letter 42 [] [] I R (fun v I' R' => v.2 = letV I a w k ∧ I' = I ∧ R' = R) := fun c => S_X11_letter_42 ⟨by unfold letV; rw [if_neg c], rfl, rfl⟩
  refine S_X11_letter_0 (d1 := 1) ha (by omega) (c_isIn ha (by decide) (by decide)) (fun z I1 R1 q => ?_)
  obtain ⟨(hz : z = _), rfl, rfl⟩ := q
  have b := bi_r (0 ≤ a ∧ a ≤ 1)
  refine S_X11_letter_7 (by omega) (fun g => no (by have c := bi_0 (hz.symm.trans g); omega)) (fun g => ?_)
  have ca := bi_1 (by rw [← hz]; exact g)
  have m6 : 0 ≤ I1 339 (3 + a) ∧ I1 339 (3 + a) ≤ 6 := by
    rcases (show a = 0 ∨ a = 1 by omega) with rfl | rfl
    · exact ⟨hn.1, hn.2.1⟩
    · exact hn.2.2
  refine S_X11_letter_10 (d1 := 1) hs hw (by omega) (by omega) (by omega) (c_isIn hw (by decide) (by unfold inR; omega)) (fun z2 I2 R2 q => ?_)
  obtain ⟨(hz2 : z2 = _), rfl, rfl⟩ := q
  have b2 := bi_r (0 ≤ w ∧ w ≤ I2 339 (3 + a) - 1)
  refine S_X11_letter_27 (by omega) (fun g2 => no (by have c := bi_0 (hz2.symm.trans g2); omega)) (fun g2 => ?_)
  have cw := bi_1 (by rw [← hz2]; exact g2)
  refine S_X11_letter_30 (d1 := 1) hk (by omega) (c_isIn hk (by decide) (by decide)) (fun z3 I3 R3 q => ?_)
  obtain ⟨(hz3 : z3 = _), rfl, rfl⟩ := q
  have b3 := bi_r (0 ≤ k ∧ k ≤ 5)
  refine S_X11_letter_39 (by omega) (fun g3 => ?_) (fun g3 => no (by have c := bi_0 (hz3.symm.trans g3); omega))
  have ck := bi_1 (by rw [← hz3]; exact g3)
  have ok : okW (I3 340 (12 + 6 * a + w)) := by
    rcases (show a = 0 ∨ a = 1 by omega) with rfl | rfl
    · rw [show 12 + 6 * 0 + w = 12 + w by omega]; exact h3 w cw.1 (by rw [show (3 : Int) + 0 = 3 by decide] at cw; omega)
    · rw [show 12 + 6 * 1 + w = 18 + w by omega]; exact h4 w cw.1 (by rw [show (3 : Int) + 1 = 4 by decide] at cw; omega)
  have hV : letV I3 a w k = letW (I3 340 (12 + 6 * a + w)) k := by unfold letV; rw [if_pos (by omega)]
  rw [hV]
  obtain ⟨o1, o2, -⟩ := ok
  refine S_X11_letter_44 hs (by omega) ?_
  generalize I3 340 (12 + 6 * a + w) = v at o1 o2
  have dr := dgF_r 7 v
  refine dg_loop 6 0 v (by omega) (by omega) (by omega) ?_
  rw [Int.zero_add, show dgF (6 + 1) v = dgF 7 v from rfl]
  refine S_X11_letter_88 (by omega) (by omega) (fun g4 => S_X11_letter_96 ?_) (fun g4 => ?_)
  · refine dv_loop ⟨by omega, by omega⟩ (dgF 7 v - 1 - k).toNat (dgF 7 v - 1) v (by omega) (by omega) (by omega) (by omega) ⟨?_, rfl, rfl⟩
    show dvF _ _ % 27 = letW v k
    unfold letW; rw [if_neg (by omega)]
  · refine S_X11_letter_94 ⟨?_, rfl, rfl⟩
    show 0 = letW v k
    unfold letW; rw [if_pos g4]
theorem c_xletter {X : CX} {I R : PF} {p o a w k : Int} (hs : Shp R) (hp : Plc R p o) (hv : Vw p I) (ha : inR a) (hw : inR w) (hk : inR k) : CN X 1 mX10_letter [(2, 64), (0, a), (0, w), (0, k)] I R (fun v I' R' => v.2 = letV I a w k ∧ I' = I ∧ R' = R) := by
  refine callee_b (by decide +kernel) (Nat.le_of_ble_eq_true rfl) rfl ?_
  have kp := (plc_k hp).1
  obtain ⟨⟨-, -, a5, -⟩, ⟨-, -, -, b4⟩, -, -, -, -, r, -, n3, n4, -⟩ := hv
  have no : ∀ pc, (pc = 14 ∨ pc = 75) → ¬ ((a = 0 ∨ a = 1) ∧ (0 ≤ w ∧ w < I 339 (3 + a)) ∧ 0 ≤ k ∧ k < 6) → PN X 1 mX10_letter pc [] [] I R (fun v I' R' => v.2 = letV I a w k ∧ I' = I ∧ R' = R) := fun pc h c => by
    rcases h with rfl | rfl
    · exact S_X10_letter_14 ⟨by unfold letV; rw [if_neg c], rfl, rfl⟩
    · exact S_X10_letter_75 ⟨by unfold letV; rw [if_neg c], rfl, rfl⟩
  refine S_X10_letter_0 hk (fun g => no 14 (Or.inl rfl) (by omega)) (fun g1 => ?_)
  refine S_X10_letter_4 hk (fun g => no 14 (Or.inl rfl) (by omega)) (fun g2 => ?_)
  refine S_X10_letter_10 hw (fun g3 => ?_) (fun g => no 14 (Or.inl rfl) (by omega))
  have t45 : a ≠ 0 ∨ ¬ (w < I 339 3) → PN X 1 mX10_letter 45 [(2, 64), (0, a), (0, w), (0, k)] [] I R (fun v I' R' => v.2 = letV I a w k ∧ I' = I ∧ R' = R) := fun c => by
    have no0 : ¬ (a = 1 ∧ w < I 339 4) → ¬ ((a = 0 ∨ a = 1) ∧ (0 ≤ w ∧ w < I 339 (3 + a)) ∧ 0 ≤ k ∧ k < 6) := fun d e => by
      obtain ⟨e1, e2, -⟩ := e
      rcases e1 with rfl | rfl
      · rw [show (3 : Int) + 0 = 3 by decide] at e2; omega
      · rw [show (3 : Int) + 1 = 4 by decide] at e2; omega
    refine S_X10_letter_45 ha (fun g => no 75 (Or.inr rfl) (no0 (by omega))) (fun g4 => ?_)
    subst g4
    refine S_X10_letter_50 hs hw (by omega) (fun g => no 75 (Or.inr rfl) (no0 (by omega))) (fun g5 => ?_)
    obtain ⟨e1, e2⟩ := n4 w g3 (by omega)
    refine S_X10_letter_61 (d1 := 0) hs hp.1 kp (by omega) (by omega) (by rw [e1]; exact c_letterOf e2 ⟨g1, g2⟩) (fun z I1 R1 q => ?_)
    obtain ⟨(hz : z = _), rfl, rfl⟩ := q
    refine S_X10_letter_74 ⟨?_, rfl, rfl⟩
    show z = _
    unfold letV; rw [if_pos ⟨Or.inr rfl, ⟨g3, by show w < I1 339 4; omega⟩, g1, g2⟩, hz, show 12 + 6 * 1 + w = 18 + w by omega]
  refine S_X10_letter_16 ha (fun g4 => t45 (Or.inl g4)) (fun g4 => ?_)
  subst g4
  refine S_X10_letter_20 hp.1 kp hw (by omega) (fun g5 => t45 (Or.inr (by omega))) (fun g5 => ?_)
  obtain ⟨e1, e2⟩ := n3 w g3 (by omega)
  refine S_X10_letter_31 (d1 := 0) hs hp.1 kp (by omega) (by omega) (by rw [e1]; exact c_letterOf e2 ⟨g1, g2⟩) (fun z I1 R1 q => ?_)
  obtain ⟨(hz : z = _), rfl, rfl⟩ := q
  refine S_X10_letter_44 ⟨?_, rfl, rfl⟩
  show z = _
  unfold letV; rw [if_pos ⟨Or.inl rfl, ⟨g3, by show w < I1 339 3; omega⟩, g1, g2⟩, hz, show 12 + 6 * 0 + w = 12 + w by omega]
theorem b_letter {X : CX} {I R : PF} {a w k : Int} (h : Sim I R) (ha : inR a) (hw : inR w) (hk : inR k) : Both X 1 2 mX10_letter mX11_letter [(0, a), (0, w), (0, k)] I R := by
  obtain ⟨p, o, hp⟩ := h.plc
  have hv := h.vw hp
  have r := hv.2.2.2.2.2.2.1
  exact Both.same h (c_xletter h.1 hp hv ha hw hk) (c_mletter h.1 ha hw hk (by omega) (fun k k0 k1 => (hv.2.2.2.2.2.2.2.2.1 k k0 k1).2) (fun k k0 k1 => (hv.2.2.2.2.2.2.2.2.2.1 k k0 k1).2))
/-! place -/
theorem c_standsAtM {X : CX} {I R : PF} {x y : Int} (hs : Shp R) (hx : inR x) (hy : inR y) (hn : 0 ≤ I 339 4 ∧ I 339 4 ≤ 6) (hc : ∀ p, 0 ≤ p → p < I 339 4 → inR (I 348 (3 + 5 * p)) ∧ inR (I 348 (3 + 5 * p + 1))) :
    CN X 1 mX11_standsAt [(2, 306), (0, x), (0, y)] I R (fun v I' R' => v.2 = fI (fun p => I 348 (3 + 5 * p) = x ∧ I 348 (3 + 5 * p + 1) = y) (I 339 4) ∧ I' = I ∧ R' = R) := by
  refine callee_b (by decide +kernel) (Nat.le_of_ble_eq_true rfl) rfl ?_
  have lp : ∀ (m : Nat) (k : Int), (I 339 4 - k).toNat < m → 0 ≤ k → k ≤ I 339 4 → (∀ j, 0 ≤ j → j < k → ¬ (I 348 (3 + 5 * j) = x ∧ I 348 (3 + 5 * j + 1) = y)) → PN X 1 mX11_standsAt 2 [(2, 306), (0, x), (0, y), (0, k)] [] I R (fun v I' R' => v.2 = fI (fun p => I 348 (3 + 5 * p) = x ∧ I 348 (3 + 5 * p + 1) = y) (I 339 4) ∧ I' = I ∧ R' = R) := by
    intro m
    induction m with
    | zero => intro k h; exact absurd h (Nat.not_lt_zero _)
    | succ m ih =>
      intro k hm k0 k1 hj
      refine S_X11_standsAt_2 (d1 := 0) (by omega) (c_personMany hs) (fun z I1 R1 q => ?_)
      obtain ⟨(hz : z = _), rfl, rfl⟩ := q
      refine S_X11_standsAt_7 (by omega) (by omega) (fun g => ?_) (fun g => ?_)
      · exact S_X11_standsAt_36 ⟨Fst.fI (Or.inl ⟨rfl, fun i i0 i1 => hj i i0 (by omega)⟩), rfl, rfl⟩
      obtain ⟨c1, c2⟩ := hc k k0 (by omega)
      have next : ¬ (I1 348 (3 + 5 * k) = x ∧ I1 348 (3 + 5 * k + 1) = y) → PN X 1 mX11_standsAt 30 [(2, 306), (0, x), (0, y), (0, k)] [] I1 R1 (fun v I' R' => v.2 = fI (fun p => I1 348 (3 + 5 * p) = x ∧ I1 348 (3 + 5 * p + 1) = y) (I1 339 4) ∧ I' = I1 ∧ R' = R1) := fun c => by
        refine S_X11_standsAt_30 (ih (k + 1) (by omega) (by omega) (by omega) (fun j j0 j1 => ?_))
        by_cases e : j = k
        · rw [e]; exact c
        · exact hj j j0 (by omega)
      refine S_X11_standsAt_10 (d1 := 0) (by omega) (callee_b (Q := fun v I' R' => v.2 = I1 348 (3 + 5 * k) ∧ I' = I1 ∧ R' = R1) (by decide +kernel) (Nat.le_of_ble_eq_true rfl) rfl (S_X11_columnOf_0 hs (by omega) ⟨rfl, rfl, rfl⟩)) (fun z2 I2 R2 q => ?_)
      obtain ⟨(hz2 : z2 = _), rfl, rfl⟩ := q
      refine S_X11_standsAt_15 (by omega) hx (fun g2 => next (fun c => g2 (hz2.trans c.1))) (fun g2 => ?_)
      refine S_X11_standsAt_19 (d1 := 0) (by omega) (callee_b (Q := fun v I' R' => v.2 = I2 348 (3 + 5 * k + 1) ∧ I' = I2 ∧ R' = R2) (by decide +kernel) (Nat.le_of_ble_eq_true rfl) rfl (S_X11_rowOf_0 hs (by omega) ⟨rfl, rfl, rfl⟩)) (fun z3 I3 R3 q => ?_)
      obtain ⟨(hz3 : z3 = _), rfl, rfl⟩ := q
      refine S_X11_standsAt_24 (by omega) hy (fun g3 => next (fun c => g3 (hz3.trans c.2))) (fun g3 => ?_)
      exact S_X11_standsAt_28 ⟨Fst.fI (Or.inr ⟨k0, by omega, ⟨hz2.symm.trans g2, hz3.symm.trans g3⟩, hj⟩), rfl, rfl⟩
  exact S_X11_standsAt_0 (lp _ 0 (Nat.lt_succ_self _) (Int.le_refl _) hn.1 (fun j j0 j1 => by omega))
/-- who stands at a place -/
noncomputable def whoK (K : PF) (n x y : Int) : Int := fI (fun p => K 348 (3 + 5 * p) = x ∧ K 348 (3 + 5 * p + 1) = y) n
/-- what place() answers of a told square -/
noncomputable def plaV (D K : PF) (x y : Int) : Int := cif (inQ D (x, y)) (cif (wlT D x y) 100 (whoK K (D 339 1) x y)) (-1)
theorem KG.pr {D K : PF} (h : KG D K) (hG : GD D) : ∀ p, 0 ≤ p → p < D 339 1 → inR (K 348 (3 + 5 * p)) ∧ inR (K 348 (3 + 5 * p + 1)) := fun p p0 p1 => by
  obtain ⟨a1, a2, a3, a4⟩ := h.2.2.2.1 p p0 p1
  have hd := hG.1
  have e1 : (P0 K p).1 = K 348 (3 + 5 * p) := rfl
  have e2 : (P0 K p).2 = K 348 (3 + 5 * p + 1) := rfl
  unfold inR; omega
theorem c_mplace {X : CX} {I R : PF} {D : PF} {x y : Int} (hs : Shp R) (hT : ST D I) (hG : GD D) (hK : KG D I) (hx : inR x) (hy : inR y) : CN X 3 mX11_place [(2, 306), (0, x), (0, y)] I R (fun v I' R' => v.2 = plaV D I x y ∧ I' = I ∧ R' = R) := by
  refine callee_b (by decide +kernel) (Nat.le_of_ble_eq_true rfl) rfl ?_
  have hD := hG.2.1
  have e4 : I 339 4 = D 339 1 := hT.sq.2.2.2.1
  refine S_X11_place_0 (by rw [hT.1]; decide) (fun g => absurd (hT.1.symm.trans g) (by decide)) (fun _ => ?_)
  refine S_X11_place_7 (d1 := 2) (by omega) (c_isInside hs hT.sq hG hx hy) (fun z I1 R1 q => ?_)
  obtain ⟨(hz : z = _), rfl, rfl⟩ := q
  have b := bi_r (inQ D (x, y))
  refine S_X11_place_13 (by omega) (fun g => ?_) (fun g => ?_)
  · have c := bi_1 (by rw [← hz]; exact g)
    refine S_X11_place_20 (d1 := 0) (by omega) (c_isWall hs hT.sq hG hx hy) (fun z2 I2 R2 q => ?_)
    obtain ⟨(hz2 : z2 = _), rfl, rfl⟩ := q
    have b2 := bi_r (wlT D x y)
    refine S_X11_place_26 (by omega) (fun g2 => ?_) (fun g2 => ?_)
    · have c2 := bi_0 (hz2.symm.trans g2)
      refine S_X11_place_34 (d1 := 1) (by omega) (c_standsAtM hs hx hy (by omega) (by rw [e4]; exact hK.pr hG)) (fun z3 I3 R3 q => ?_)
      obtain ⟨(hz3 : z3 = _), rfl, rfl⟩ := q
      refine S_X11_place_40 ⟨?_, rfl, rfl⟩
      unfold plaV; rw [cif_t c, cif_f c2, ← e4]; exact hz3
    · have c2 := bi_1 (by rw [← hz2]; exact g2)
      refine S_X11_place_29 (S_X11_place_40 ⟨?_, rfl, rfl⟩)
      unfold plaV; rw [cif_t c, cif_t c2]
  · have c := bi_0 (hz.symm.trans g)
    refine S_X11_place_16 (S_X11_place_40 ⟨?_, rfl, rfl⟩)
    unfold plaV; rw [cif_f c]
theorem c_whoK {X : CX} {I R : PF} {D K : PF} {s x y : Int} (hs : Shp R) (hss : s = 111 ∨ s = 119) (hG : GD D) (hK : KG D K) (hS : StC D K s I) (hx : inR x) (hy : inR y) : CN X 1 mX8_whoStands [(2, s), (0, x), (0, y)] I R (fun v I' R' => v.2 = whoK K (D 339 1) x y ∧ I' = I ∧ R' = R) := by
  have hD := hG.2.1
  have ks : kd MF s = 8 := by rcases hss with rfl | rfl <;> decide +kernel
  have e3 := hS.1.2.2.2
  have e : ∀ p, 0 ≤ p → p < D 339 1 → I (s + 2 + p) 0 = K 348 (3 + 5 * p) ∧ I (s + 2 + p) 1 = K 348 (3 + 5 * p + 1) := fun p p0 p1 => ⟨(hS.2 p p0 p1).1, (hS.2 p p0 p1).2.1⟩
  refine Callee.mono (c_whoStands hs ks (by omega) (fun p p0 p1 => ?_) hx hy) (fun v I' R' q => ?_)
  · rw [e3] at p1
    rw [(e p p0 p1).1, (e p p0 p1).2]; exact hK.pr hG p p0 p1
  · obtain ⟨q1, q2, q3⟩ := q
    refine ⟨q1.trans ?_, q2, q3⟩
    rw [e3]
    exact fI_congr (fun p p0 p1 => by rw [(e p p0 p1).1, (e p p0 p1).2])
theorem c_within' {X : CX} {I R : PF} {D : PF} {p x y : Int} (hk : kd MF p = 6) (hG : GD D) (hQ : QR D p I) (hx : inR x) (hy : inR y) : CN X 0 mX6_within [(2, p), (0, x), (0, y)] I R (fun v I' R' => v.2 = bi (inQ D (x, y)) ∧ I' = I ∧ R' = R) := by
  have hd := hG.1
  have h0 := hQ.1.1
  have h1 := hQ.1.2.1
  refine Callee.mono (c_within hk hx hy (by unfold inR; omega) (by unfold inR; omega)) (fun v I' R' q => ?_)
  obtain ⟨q1, q2, q3⟩ := q
  refine ⟨q1.trans (bi_congr ?_), q2, q3⟩
  rw [h0, h1]
  exact Iff.rfl
theorem c_walled' {X : CX} {I R : PF} {D : PF} {p x y : Int} (hs : Shp R) (hk : kd MF p = 6) (hG : GD D) (hQ : QR D p I) (hx : inR x) (hy : inR y) : CN X 1 mX6_walled [(2, p), (0, x), (0, y)] I R (fun v I' R' => v.2 = bi (inQ D (x, y) ∧ wlT D x y) ∧ I' = I ∧ R' = R) := by
  have hd := hG.1
  have h0 := hQ.1.1
  have h1 := hQ.1.2.1
  obtain ⟨-, -, -, -, q5, q6, -⟩ := hQ
  refine Callee.mono (c_walled hs hk hx hy (by omega) (by omega) (fun j j0 j1 => by have := q5 j j0 j1; unfold inR; omega)) (fun v I' R' q => ?_)
  obtain ⟨q1, q2, q3⟩ := q
  refine ⟨q1.trans (bi_congr ?_), q2, q3⟩
  rw [h0, h1]
  refine ⟨fun c => ⟨c.1, (q6 x y (by omega) (by omega) (by omega) (by omega)).mp c.2⟩, fun c => ⟨c.1, ?_⟩⟩
  have c1 : 0 ≤ x ∧ x < D 341 0 ∧ 0 ≤ y ∧ y < D 341 1 := c.1
  exact (q6 x y (by omega) (by omega) (by omega) (by omega)).mpr c.2
theorem c_xplace {X : CX} {I R : PF} {D : PF} {p o x y : Int} (hs : Shp R) (hp : Plc R p o) (hQ : QR D p I) (hS : StC D I 111 I) (hG : GD D) (hK : KG D I) (hx : inR x) (hy : inR y) : CN X 2 mX10_place [(2, 64), (0, x), (0, y)] I R (fun v I' R' => v.2 = plaV D I x y ∧ I' = I ∧ R' = R) := by
  refine callee_b (by decide +kernel) (Nat.le_of_ble_eq_true rfl) rfl ?_
  have kp := (plc_k hp).1
  refine S_X10_place_0 (d1 := 0) hp.1 (by omega) (c_within' kp hG hQ hx hy) kp (fun z I1 R1 q => ?_)
  obtain ⟨(hz : z = _), rfl, rfl⟩ := q
  have b := bi_r (inQ D (x, y))
  refine S_X10_place_9 (by omega) (fun g => ?_) (fun g => ?_)
  · have c := bi_1 (by rw [← hz]; exact g)
    refine S_X10_place_14 (d1 := 1) hp.1 (by omega) (c_walled' hs kp hG hQ hx hy) kp (fun z2 I2 R2 q => ?_)
    obtain ⟨(hz2 : z2 = _), rfl, rfl⟩ := q
    have b2 := bi_r (inQ D (x, y) ∧ wlT D x y)
    refine S_X10_place_23 (by omega) (fun g2 => ?_) (fun g2 => ?_)
    · have c2 := bi_0 (hz2.symm.trans g2)
      refine S_X10_place_31 (d1 := 1) hs (by omega) (c_whoK hs (Or.inl rfl) hG hK hS hx hy) (fun z3 I3 R3 q => ?_)
      obtain ⟨(hz3 : z3 = _), rfl, rfl⟩ := q
      refine S_X10_place_40 ⟨?_, rfl, rfl⟩
      unfold plaV; rw [cif_t c, cif_f (fun k => c2 ⟨c, k⟩)]; exact hz3
    · have c2 := bi_1 (by rw [← hz2]; exact g2)
      refine S_X10_place_26 (S_X10_place_40 ⟨?_, rfl, rfl⟩)
      unfold plaV; rw [cif_t c, cif_t c2.2]
  · have c := bi_0 (hz.symm.trans g)
    refine S_X10_place_12 ⟨?_, rfl, rfl⟩
    unfold plaV; rw [cif_f c]
theorem c_xplace0 {X : CX} {I R : PF} {p o x y : Int} (hp : Plc R p o) (hN : Non p I) (hx : inR x) (hy : inR y) : CN X 2 mX10_place [(2, 64), (0, x), (0, y)] I R (fun v I' R' => v.2 = -1 ∧ I' = I ∧ R' = R) := by
  refine callee_b (by decide +kernel) (Nat.le_of_ble_eq_true rfl) rfl ?_
  have kp := (plc_k hp).1
  obtain ⟨⟨a1, a2, -⟩, -⟩ := hN
  refine S_X10_place_0 (d1 := 0) hp.1 (by omega) (c_within kp hx hy (by rw [a1]; decide) (by rw [a2]; decide)) kp (fun z I1 R1 q => ?_)
  obtain ⟨(hz : z = _), rfl, rfl⟩ := q
  rw [bi_f (by omega)] at hz
  exact S_X10_place_9 (by omega) (fun g => absurd hz g) (fun _ => S_X10_place_12 ⟨rfl, rfl, rfl⟩)
theorem b_place {X : CX} {I R : PF} {x y : Int} (h : Sim I R) (hx : inR x) (hy : inR y) : Both X 2 3 mX10_place mX11_place [(0, x), (0, y)] I R := by
  obtain ⟨hs, -, -, -, p, o, hp, hn | ⟨D, hG, hW, hQ, hL, hT, hK, hS, -⟩⟩ := id h
  · refine Both.same h (c_xplace0 hp hn hx hy) ?_
    refine callee_b (by decide +kernel) (Nat.le_of_ble_eq_true rfl) rfl ?_
    exact S_X11_place_0 (by rw [hn.2.1]; decide) (fun _ => S_X11_place_16 (S_X11_place_40 ⟨rfl, rfl, rfl⟩)) (fun g => absurd hn.2.1 g)
  · exact Both.same h (c_xplace hs hp hQ hS hG hK hx hy) (c_mplace hs hT hG hK hx hy)
