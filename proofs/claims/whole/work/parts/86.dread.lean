/-! ===== the class's square: cleared, aimed, read ===== -/
theorem fill_loop {X : CX} {d : Nat} {R : PF} {Q : PV → PF → PF → Prop} {a v : Int} {I0 : PF} (hk : kd MF a = 12) (hn : (ln MF a : Int) < 2147483648) : ∀ (k : Nat) (x : Int) (I : PF), ((ln MF a : Int) - x).toNat < k → 0 ≤ x → x ≤ (ln MF a : Int) → (∀ j, 0 ≤ j → j < x → I a j = v) → FR (fun b j => b = a ∧ 0 ≤ j ∧ j < (ln MF a : Int)) I0 I →
    (∀ I', (∀ j, 0 ≤ j → j < (ln MF a : Int) → I' a j = v) → FR (fun b j => b = a ∧ 0 ≤ j ∧ j < (ln MF a : Int)) I0 I' → Q (9, 0) I' R) → PN X d mJ7_fill_53178 5 [(2, a), (0, v), (0, x), (0, (ln MF a : Int))] [] I R Q := by
  intro k
  induction k with
  | zero => intro x4 I h; exact absurd h (Nat.not_lt_zero _)
  | succ k ih =>
    intro x I h h0 h1 hj hf hQ
    refine S_J7_fill_53178_5 (by omega) (by omega) (fun g => ?_) (fun g => ?_)
    · exact S_J7_fill_53178_20 (hQ I (fun j j0 j1 => hj j j0 (by omega)) hf)
    · refine S_J7_fill_53178_10 hk (by omega) hn (ih (x + 1) _ (by omega) (by omega) (by omega) (fun j j0 j1 => ?_) (hf.tr (FR_u2 ⟨rfl, by omega, by omega⟩)) hQ)
      by_cases c : j = x
      · rw [c, u2_at]
      · rw [u2_j c]; exact hj j j0 (by omega)
theorem c_fill {X : CX} {I R : PF} {a v : Int} (hk : kd MF a = 12) (hn : (ln MF a : Int) < 2147483648) : CN X 0 mJ7_fill_53178 [(2, a), (0, v)] I R (fun _ I' R' => (∀ j, 0 ≤ j → j < (ln MF a : Int) → I' a j = v) ∧ FR (fun b j => b = a ∧ 0 ≤ j ∧ j < (ln MF a : Int)) I I' ∧ R' = R) := by
  refine callee_f (by decide +kernel) (Nat.le_of_ble_eq_true rfl) rfl ?_
  exact S_J7_fill_53178_0 hk hn (fill_loop (I0 := I) hk hn _ 0 I (Nat.lt_succ_self _) (Int.le_refl _) (by omega) (fun j j0 j1 => by omega) FR.rf (fun I' h1 h2 => ⟨h1, h2, rfl⟩))
theorem c_max {X : CX} {I R : PF} {x y : Int} (hx : inR x) (hy : inR y) : CN X 0 mJ9_max_7cf53 [(0, x), (0, y)] I R (fun v I' R' => v.2 = max x y ∧ I' = I ∧ R' = R) := by
  refine callee_f (by decide +kernel) (Nat.le_of_ble_eq_true rfl) rfl ?_
  refine S_J9_max_7cf53_0 hx hy (fun g => ?_) (fun g => ?_)
  · exact S_J9_max_7cf53_9 (S_J9_max_7cf53_10 ⟨by show y = max x y; omega, rfl, rfl⟩)
  · exact S_J9_max_7cf53_5 (S_J9_max_7cf53_10 ⟨by show x = max x y; omega, rfl, rfl⟩)
theorem c_clearF {X : CX} {I R : PF} {f : Int} (hf : kd MF f = 2) : CN X 0 mX2_clear [(2, f)] I R (fun _ I' R' => I' = u2 I f 2 0 ∧ R' = R) := by
  refine callee_b (by decide +kernel) (Nat.le_of_ble_eq_true rfl) rfl ?_
  exact S_X2_clear_0 hf ⟨rfl, rfl⟩
theorem c_clearS {X : CX} {I R : PF} {o : Int} (ho : kd MF o = 8) : CN X 0 mX8_clear [(2, o)] I R (fun _ I' R' => I' = u2 (u2 (u2 (u2 I o 0 0) o 1 (-1)) o 2 0) o 3 0 ∧ R' = R) := by
  refine callee_b (by decide +kernel) (Nat.le_of_ble_eq_true rfl) rfl ?_
  exact S_X8_clear_0 ho ⟨rfl, rfl⟩
/-- the cells that reading a square changes -/
def sqC (o x y : Int) : Prop := (o ≤ x ∧ x ≤ o + 10) ∨ (x = o + 11 ∧ 0 ≤ y ∧ y ≤ 3) ∨ (o + 13 ≤ x ∧ x ≤ o + 18 ∧ 0 ≤ y ∧ y ≤ 6)
theorem c_clearQ {X : CX} {I R : PF} {o : Int} (hs : Shp R) (hk : kd MF o = 6) : CN X 1 mX6_clear [(2, o)] I R (fun _ I' R' => CL o I' ∧ I' (o + 11) 0 = 0 ∧ I' (o + 11) 1 = -1 ∧ I' (o + 11) 2 = 0 ∧ FR (sqC o) I I' ∧ R' = R) := by
  refine callee_b (by decide +kernel) (Nat.le_of_ble_eq_true rfl) rfl ?_
  have ho := sq_o hk
  have k3 := sq3 hk
  have n3 := sq3n hk
  have f0 : FR (sqC o) I (u2 (u2 (u2 (u2 (u2 I o 0 0) o 1 0) o 5 0) o 6 0) o 7 0) := FR.tr (FR.tr (FR.tr (FR.tr (FR_u2 (Or.inl ⟨by omega, by omega⟩)) (FR_u2 (Or.inl ⟨by omega, by omega⟩))) (FR_u2 (Or.inl ⟨by omega, by omega⟩))) (FR_u2 (Or.inl ⟨by omega, by omega⟩))) (FR_u2 (Or.inl ⟨by omega, by omega⟩))
  have a5 : (u2 (u2 (u2 (u2 (u2 I o 0 0) o 1 0) o 5 0) o 6 0) o 7 0) o 5 = 0 := by rw [u2_j (by decide), u2_j (by decide), u2_at]
  have a6 : (u2 (u2 (u2 (u2 (u2 I o 0 0) o 1 0) o 5 0) o 6 0) o 7 0) o 6 = 0 := by rw [u2_j (by decide), u2_at]
  have a7 : (u2 (u2 (u2 (u2 (u2 I o 0 0) o 1 0) o 5 0) o 6 0) o 7 0) o 7 = 0 := u2_at
  refine S_X6_clear_0 (d1 := 0) hs hk (by omega) (c_fill k3 (by omega)) (fun z I1 R1 p => ?_)
  obtain ⟨p1, p2, rfl⟩ := p
  generalize u2 (u2 (u2 (u2 (u2 I o 0 0) o 1 0) o 5 0) o 6 0) o 7 0 = J at f0 a5 a6 a7 p2
  refine S_X6_clear_33 (d1 := 0) hs hk (by omega) (c_clearF (sq5 hk)) (fun z I2 R2 p => ?_)
  obtain ⟨rfl, rfl⟩ := p
  refine S_X6_clear_40 (d1 := 0) hs hk (by omega) (c_clearF (sq8 hk)) (fun z I3 R3 p => ?_)
  obtain ⟨rfl, rfl⟩ := p
  refine S_X6_clear_47 (d1 := 0) hs hk (by omega) (c_clearS (sq11 hk)) (fun z I4 R4 p => ?_)
  obtain ⟨rfl, rfl⟩ := p
  have ff : FR (fun x y => (x = o + 5 ∧ y = 2) ∨ (x = o + 8 ∧ y = 2) ∨ (x = o + 11 ∧ 0 ≤ y ∧ y ≤ 3)) I1 (u2 (u2 (u2 (u2 (u2 (u2 I1 (o + 5) 2 0) (o + 8) 2 0) (o + 11) 0 0) (o + 11) 1 (-1)) (o + 11) 2 0) (o + 11) 3 0) :=
    FR.tr (FR.tr (FR.tr (FR.tr (FR.tr (FR_u2 (Or.inl ⟨rfl, rfl⟩)) (FR_u2 (Or.inr (Or.inl ⟨rfl, rfl⟩)))) (FR_u2 (Or.inr (Or.inr ⟨rfl, by decide, by decide⟩)))) (FR_u2 (Or.inr (Or.inr ⟨rfl, by decide, by decide⟩)))) (FR_u2 (Or.inr (Or.inr ⟨rfl, by decide, by decide⟩)))) (FR_u2 (Or.inr (Or.inr ⟨rfl, by decide, by decide⟩)))
  have e : ∀ x y, (o ≤ x ∧ x ≤ o + 3) → u2 (u2 (u2 (u2 (u2 (u2 I1 (o + 5) 2 0) (o + 8) 2 0) (o + 11) 0 0) (o + 11) 1 (-1)) (o + 11) 2 0) (o + 11) 3 0 x y = I1 x y := fun x y h => ff x y (fun c => by omega)
  refine S_X6_clear_54 ⟨⟨?_, ?_, ?_, u2_at, fun j j0 j1 => ?_, ?_, ?_⟩, ?_, ?_, ?_, ?_, rfl⟩
  · rw [e o 5 (by omega), p2 o 5 (by omega)]; exact a5
  · rw [e o 6 (by omega), p2 o 6 (by omega)]; exact a6
  · rw [e o 7 (by omega), p2 o 7 (by omega)]; exact a7
  · rw [e _ j (by omega)]; exact p1 j j0 (by omega)
  · rw [u2_o (by omega), u2_o (by omega), u2_o (by omega), u2_o (by omega), u2_o (by omega), u2_at]
  · rw [u2_o (by omega), u2_o (by omega), u2_o (by omega), u2_o (by omega), u2_at]
  · rw [u2_j (by decide), u2_j (by decide), u2_j (by decide), u2_at]
  · rw [u2_j (by decide), u2_j (by decide), u2_at]
  · rw [u2_j (by decide), u2_at]
  · exact (f0.tr (p2.mono (fun x y c => Or.inl ⟨by omega, by omega⟩))).tr (ff.mono (fun x y c => by unfold sqC; omega))
/-! where a hat goes -/
def stX (w : Int) : Int := (sT 40).getD w.toNat 0
def stY (w : Int) : Int := (sT 41).getD w.toNat 0
theorem stp_r : ∀ w < 9, -1 ≤ stX ((w : Nat) : Int) ∧ stX ((w : Nat) : Int) ≤ 1 ∧ -1 ≤ stY ((w : Nat) : Int) ∧ stY ((w : Nat) : Int) ≤ 1 := by decide +kernel
theorem stp_r' {w : Int} (h : 0 ≤ w ∧ w < 9) : -1 ≤ stX w ∧ stX w ≤ 1 ∧ -1 ≤ stY w ∧ stY w ≤ 1 := by
  obtain ⟨k, rfl⟩ : ∃ k : Nat, w = k := ⟨w.toNat, by omega⟩
  exact stp_r k (by omega)
def bex (D : PF) (x w : Int) : Int := max 0 (min (D 341 0 - 1) (x + stX w))
def bey (D : PF) (y w : Int) : Int := max 0 (min (D 341 1 - 1) (y + stY w))
noncomputable def bes (D : PF) (w : Int) (p : Int × Int) : Int × Int := cif (wlT D (bex D p.1 w) (bey D p.2 w)) p (bex D p.1 w, bey D p.2 w)
def inQ (D : PF) (p : Int × Int) : Prop := 0 ≤ p.1 ∧ p.1 < D 341 0 ∧ 0 ≤ p.2 ∧ p.2 < D 341 1
theorem bes_in {D : PF} {w : Int} {p : Int × Int} (hD : GD D) (h : inQ D p) : inQ D (bes D w p) := by
  have := hD.1
  unfold bes
  by_cases c : wlT D (bex D p.1 w) (bey D p.2 w)
  · rw [cif_t c]; exact h
  · rw [cif_f c]; unfold inQ bex bey; simp only; omega
theorem c_beyond {X : CX} {I R : PF} {o w : Int} {p : Int × Int} {D : PF} (hs : Shp R) (hk : kd MF o = 6) (hQ : QR D o I) (hD : GD D) (hp : inQ D p) (hw : 0 ≤ w ∧ w < 9) :
    CN X 2 mX6_beyond [(2, o), (0, p.1), (0, p.2), (0, w)] I R (fun v I' R' => v.2 = 9 * (bes D w p).2 + (bes D w p).1 ∧ I' = I ∧ R' = R) := by
  refine callee_b (by decide +kernel) (Nat.le_of_ble_eq_true rfl) rfl ?_
  obtain ⟨g1, g2, g3, g4, -⟩ := hD.1
  have hQ' := hQ
  obtain ⟨⟨a1, a2, -⟩, -, -, -, c3, c4, -⟩ := hQ'
  obtain ⟨h1, h2, h3, h4⟩ := hp
  obtain ⟨s1, s2, s3, s4⟩ := stp_r' hw
  refine S_X6_beyond_0 (d1 := 0) (by omega) (c_within hk (by omega) (by omega) (by omega) (by omega)) hk (fun z I1 R1 q => ?_)
  obtain ⟨(hz : z = _), rfl, rfl⟩ := q
  have z1 : z = 1 := hz.trans (bi_t ⟨h1, by omega, h3, by omega⟩)
  refine S_X6_beyond_6 (by omega) (fun g => by omega) (fun _ => ?_)
  refine S_X6_beyond_9 (by omega) (fun g => by omega) (fun _ => ?_)
  refine S_X6_beyond_13 (by omega) (fun _ => ?_) (fun g => by omega)
  refine S_X6_beyond_21 (d1 := 0) hk (by omega) (by omega) (c_min (by omega) (by show inR (p.1 + stX w); omega)) (fun x I2 R2 q => ?_)
  obtain ⟨(hx : x = _), rfl, rfl⟩ := q
  have hx : x = min (I2 o 0 - 1) (p.1 + stX w) := hx
  refine S_X6_beyond_38 (d1 := 0) (by omega) (c_max (by decide) (by omega)) (fun x' I3 R3 q => ?_)
  obtain ⟨(hx' : x' = _), rfl, rfl⟩ := q
  refine S_X6_beyond_41 (d1 := 0) hk (by omega) (by omega) (c_min (by omega) (by show inR (p.2 + stY w); omega)) (fun y I4 R4 q => ?_)
  obtain ⟨(hy : y = _), rfl, rfl⟩ := q
  have hy : y = min (I4 o 1 - 1) (p.2 + stY w) := hy
  refine S_X6_beyond_60 (d1 := 0) (by omega) (c_max (by decide) (by omega)) (fun y' I5 R5 q => ?_)
  obtain ⟨(hy' : y' = _), rfl, rfl⟩ := q
  have ex : x' = bex D p.1 w := by unfold bex; omega
  have ey : y' = bey D p.2 w := by unfold bey; omega
  refine S_X6_beyond_63 (d1 := 1) (by omega) (c_walled hs hk (by omega) (by omega) (by omega) (by omega) (fun j j0 j1 => by have := c3 j j0 j1; omega)) hk (fun z I6 R6 q => ?_)
  obtain ⟨(hz : z = _), rfl, rfl⟩ := q
  have br := bi_r ((0 ≤ x' ∧ x' < I6 o 0 ∧ 0 ≤ y' ∧ y' < I6 o 1) ∧ I6 (o + 3) (9 * y' + x') ≠ 0)
  have cw := c4 x' y' (by omega) (by omega) (by omega) (by omega)
  refine S_X6_beyond_73 (by omega) (fun g => ?_) (fun g => ?_)
  · have c := bi_0 (hz.symm.trans g)
    have nw : ¬ wlT D (bex D p.1 w) (bey D p.2 w) := fun d => c ⟨by omega, cw.mpr (by rw [ex, ey]; exact d)⟩
    refine S_X6_beyond_83 ⟨?_, rfl, rfl⟩
    unfold bes; rw [cif_f nw]; show 9 * y' + x' = _; rw [ex, ey]
  · have c := bi_1 (by rw [← hz]; exact g)
    have nw : wlT D (bex D p.1 w) (bey D p.2 w) := by rw [← ex, ← ey]; exact cw.mp c.2
    refine S_X6_beyond_76 ⟨?_, rfl, rfl⟩
    unfold bes; rw [cif_t nw]
def wayT (k : Int) : Int := if k = 0 then 0 else (k + 3) / 4
def fceT (k : Int) : Int := if k = 0 then 0 else (k + 3) % 4
theorem c_wayOf {X : CX} {I R : PF} {k : Int} (h : 0 ≤ k ∧ k < 33) : CN X 0 mX10_wayOf [(0, k)] I R (fun v I' R' => v.2 = wayT k ∧ I' = I ∧ R' = R) := by
  refine callee_b (by decide +kernel) (Nat.le_of_ble_eq_true rfl) rfl ?_
  refine S_X10_wayOf_0 (by omega) (fun g => ?_) (fun g => ?_)
  · refine S_X10_wayOf_8 (by omega) (S_X10_wayOf_13 ⟨?_, rfl, rfl⟩)
    show (k + 3).tdiv 4 = wayT k
    unfold wayT; rw [if_neg g, Int.tdiv_eq_ediv_of_nonneg (by omega)]
  · refine S_X10_wayOf_4 (S_X10_wayOf_13 ⟨?_, rfl, rfl⟩)
    unfold wayT; rw [if_pos g]
theorem c_forceOf {X : CX} {I R : PF} {k : Int} (h : 0 ≤ k ∧ k < 33) : CN X 0 mX10_forceOf [(0, k)] I R (fun v I' R' => v.2 = fceT k ∧ I' = I ∧ R' = R) := by
  refine callee_b (by decide +kernel) (Nat.le_of_ble_eq_true rfl) rfl ?_
  refine S_X10_forceOf_0 (by omega) (fun g => ?_) (fun g => ?_)
  · refine S_X10_forceOf_8 (by omega) (S_X10_forceOf_13 ⟨?_, rfl, rfl⟩)
    show (k + 3).tmod 4 = fceT k
    unfold fceT; rw [if_neg g, Int.tmod_eq_emod_of_nonneg (by omega)]
  · refine S_X10_forceOf_4 (S_X10_forceOf_13 ⟨?_, rfl, rfl⟩)
    unfold fceT; rw [if_pos g]
theorem wf_r {k : Int} (h : 0 ≤ k ∧ k < 33) : 0 ≤ wayT k ∧ wayT k < 9 ∧ 0 ≤ fceT k ∧ fceT k ≤ 3 := by
  unfold wayT fceT
  by_cases c : k = 0
  · rw [if_pos c, if_pos c]; omega
  · rw [if_neg c, if_neg c]; omega
/-- j steps by a way -/
noncomputable def bit (D : PF) (w : Int) : Nat → Int × Int → Int × Int
  | 0, p => p
  | j + 1, p => bes D w (bit D w j p)
theorem bit_in {D : PF} {w : Int} {p : Int × Int} (hD : GD D) (h : inQ D p) : ∀ j : Nat, inQ D (bit D w j p)
  | 0 => h
  | j + 1 => bes_in hD (bit_in hD h j)
/-- where each throw comes to -/
noncomputable def lnd (D : PF) (k : Int) : Int × Int := bit D (wayT k) (fceT k).toNat (D 341 2, D 341 3)
def LR (D : PF) (o : Int) (I : PF) : Prop := ∀ k, 0 ≤ k → k < 33 → I (o + 4) k = 9 * (lnd D k).2 + (lnd D k).1
theorem inQ_t {D : PF} (hD : GD D) : inQ D (D 341 2, D 341 3) := by
  have := hD.1
  unfold inQ; simp only; omega
theorem aim_in {X : CX} {d : Nat} {R : PF} {Q : PV → PF → PF → Prop} {o k : Int} {D I : PF} (hs : Shp R) (hd : 3 ≤ d) (hk : kd MF o = 6) (hQ : QR D o I) (hD : GD D) (h : 0 ≤ k ∧ k < 33) (hq : PN X d mX6_aim 54 [(2, o), (0, k), (0, 9 * (lnd D k).2 + (lnd D k).1)] [] I R Q) :
    ∀ (m j : Nat) (x2 : Int), (fceT k).toNat - j < m → (j : Int) ≤ fceT k → x2 = 9 * (bit D (wayT k) j (D 341 2, D 341 3)).2 + (bit D (wayT k) j (D 341 2, D 341 3)).1 → PN X d mX6_aim 23 [(2, o), (0, k), (0, x2), (0, (j : Int))] [] I R Q := by
  intro m
  induction m with
  | zero => intro j x2 h; exact absurd h (Nat.not_lt_zero _)
  | succ m ih =>
    intro j x2 hm hj hx
    obtain ⟨w1, w2, w3, w4⟩ := wf_r h
    refine S_X6_aim_23 (d1 := 0) (by omega) (c_forceOf h) (fun z I1 R1 p => ?_)
    obtain ⟨(hz : z = _), rfl, rfl⟩ := p
    have hin := bit_in (w := wayT k) hD (inQ_t hD) j
    have hb := hD.1
    unfold inQ at hin
    refine S_X6_aim_28 (by omega) (by omega) (fun g => ?_) (fun g => ?_)
    · have e : (fceT k).toNat = j := by omega
      have : x2 = 9 * (lnd D k).2 + (lnd D k).1 := by unfold lnd; rw [e]; exact hx
      rw [this]; exact hq
    · refine S_X6_aim_31 (d1 := 0) (by omega) (by omega) (c_wayOf h) (fun z2 I2 R2 p => ?_)
      obtain ⟨(hz2 : z2 = _), rfl, rfl⟩ := p
      have e1 : x2.tmod 9 = (bit D (wayT k) j (D 341 2, D 341 3)).1 := by rw [Int.tmod_eq_emod_of_nonneg (by omega)]; omega
      have e2 : x2.tdiv 9 = (bit D (wayT k) j (D 341 2, D 341 3)).2 := by rw [Int.tdiv_eq_ediv_of_nonneg (by omega)]; omega
      rw [e1, e2, hz2]
      refine S_X6_aim_44 (d1 := 2) (by omega) (c_beyond hs hk hQ hD hin ⟨w1, w2⟩) hk (fun z3 I3 R3 p => ?_)
      obtain ⟨(hz3 : z3 = _), rfl, rfl⟩ := p
      have := ih (j + 1) z3 (by omega) (by omega) hz3
      rw [show ((j + 1 : Nat) : Int) = (j : Int) + 1 by omega] at this
      exact S_X6_aim_47 this
theorem QR.l4 {D I I' : PF} {o : Int} (ho : o = 72 ∨ o = 91) (h : QR D o I) (hD : GD D) (f : FR (fun a b => a = o + 4) I I') : QR D o I' := by
  obtain ⟨⟨a1, a2, a3, a4, a5⟩, ⟨b1, b2, b3, b4⟩, c1, c2, c3, c4, c5, c6⟩ := h
  have hr := hD.r.2
  have e : ∀ x y, x ≠ o + 4 → I' x y = I x y := fun x y h => f x y h
  refine ⟨⟨(e _ _ (by omega)).trans a1, (e _ _ (by omega)).trans a2, (e _ _ (by omega)).trans a3, (e _ _ (by omega)).trans a4, (e _ _ (by omega)).trans a5⟩, ⟨(e _ _ (by omega)).trans b1, (e _ _ (by omega)).trans b2, (e _ _ (by omega)).trans b3, (e _ _ (by omega)).trans b4⟩, ?_, ?_, ?_, ?_, ?_, ?_⟩
  · intro k k0 k1; rw [e _ _ (by omega)]; exact c1 k k0 k1
  · intro k k0 k1; rw [e _ _ (by omega)]; exact c2 k k0 k1
  · intro j j0 j1; rw [e _ _ (by omega)]; exact c3 j j0 j1
  · intro x y x0 x1 y0 y1; rw [e _ _ (by omega)]; exact c4 x y x0 x1 y0 y1
  · intro p p0 p1
    have g : ∀ y, I' (o + 11 + 2 + p) y = I (o + 11 + 2 + p) y := fun y => e _ y (by omega)
    simp only [g]; exact c5 p p0 p1
  · intro w hw
    have g : ∀ y, I' (o + 5 + 3 * w) y = I (o + 5 + 3 * w) y := fun y => e _ y (by omega)
    have g' : ∀ y, I' (o + 5 + 3 * w + 1) y = I (o + 5 + 3 * w + 1) y := fun y => e _ y (by omega)
    simp only [g, g']; exact c6 w hw
theorem aim_loop {X : CX} {d : Nat} {R : PF} {Q : PV → PF → PF → Prop} {o : Int} {D I0 : PF} (hs : Shp R) (hd : 3 ≤ d) (hk : kd MF o = 6) (hD : GD D) : ∀ (m : Nat) (k : Int) (I : PF), (33 - k).toNat < m → 0 ≤ k → k ≤ 33 → QR D o I → (∀ j, 0 ≤ j → j < k → I (o + 4) j = 9 * (lnd D j).2 + (lnd D j).1) → FR (fun a b => a = o + 4) I0 I →
    (∀ I', QR D o I' → LR D o I' → FR (fun a b => a = o + 4) I0 I' → Q (9, 0) I' R) → PN X d mX6_aim 2 [(2, o), (0, k)] [] I R Q := by
  intro m
  induction m with
  | zero => intro k I h; exact absurd h (Nat.not_lt_zero _)
  | succ m ih =>
    intro k I h h0 h1 hQ hj hf hq
    have ho := sq_o hk
    refine S_X6_aim_2 (by omega) (fun g => ?_) (fun g => ?_)
    · exact S_X6_aim_67 (hq I hQ (fun j j0 j1 => hj j j0 (by omega)) hf)
    · have wf := wf_r (k := k) ⟨h0, g⟩
      refine S_X6_aim_8 hk (aim_in (D := D) hs hd hk hQ hD ⟨h0, g⟩ ?_ ((fceT k).toNat + 1) 0 _ (by omega) (by omega) (by rw [hQ.1.2.2.1, hQ.1.2.2.2.1]; rfl))
      refine S_X6_aim_54 hs hk (by omega) (ih (k + 1) _ (by omega) (by omega) (by omega) (hQ.l4 ho hD (FR_u2 rfl)) (fun j j0 j1 => ?_) (hf.tr (FR_u2 rfl)) hq)
      by_cases c : j = k
      · rw [c, u2_at]
      · rw [u2_j c]; exact hj j j0 (by omega)
theorem c_aim {X : CX} {I R : PF} {o : Int} {D : PF} (hs : Shp R) (hk : kd MF o = 6) (hQ : QR D o I) (hD : GD D) : CN X 3 mX6_aim [(2, o)] I R (fun _ I' R' => QR D o I' ∧ LR D o I' ∧ FR (fun a b => a = o + 4) I I' ∧ R' = R) := by
  refine callee_b (by decide +kernel) (Nat.le_of_ble_eq_true rfl) rfl ?_
  exact S_X6_aim_0 (aim_loop (I0 := I) hs (by decide) hk hD 34 0 I (by decide) (by decide) (by decide) hQ (fun j j0 j1 => by omega) FR.rf (fun I' a b c => ⟨a, b, c, rfl⟩))
