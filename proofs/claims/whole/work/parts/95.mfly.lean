/-! ===== the model's hat and places ===== -/
/-- the standing square's cells tell D -/
def SqM (D I : PF) : Prop := I 341 5 = D 341 0 ∧ I 341 6 = D 341 1 ∧ I 339 5 = D 339 2 ∧ I 339 4 = D 339 1 ∧ ∀ j, 0 ≤ j → j < 20 → I 344 (20 + j) = D 344 j
theorem ST.sq {D I : PF} (h : ST D I) : SqM D I := by
  obtain ⟨-, h1, -, h2, -, h3, -⟩ := h
  exact ⟨h2 0 (by decide) (by decide), h2 1 (by decide) (by decide), h1 2 (by decide) (by decide), h1 1 (by decide) (by decide), h3⟩
theorem SqM.fr {D I I' : PF} (h : SqM D I) (g : ∀ x y, x = 341 ∨ x = 339 ∨ x = 344 → I' x y = I x y) : SqM D I' := by
  obtain ⟨h1, h2, h3, h4, h5⟩ := h
  exact ⟨(g _ _ (by omega)).trans h1, (g _ _ (by omega)).trans h2, (g _ _ (by omega)).trans h3, (g _ _ (by omega)).trans h4, fun j j0 j1 => (g _ _ (by omega)).trans (h5 j j0 j1)⟩
theorem c_across {X : CX} {I R : PF} {w : Int} (h : 0 ≤ w ∧ w < 9) : CN X 0 mX11_across [(0, w)] I R (fun v I' R' => v.2 = stX w ∧ I' = I ∧ R' = R) := by
  refine callee_b (by decide +kernel) (Nat.le_of_ble_eq_true rfl) rfl ?_
  have t : ∀ v, v = stX w → PN X 0 mX11_across 42 [] [(0, v)] I R (fun v I' R' => v.2 = stX w ∧ I' = I ∧ R' = R) := fun v hv => S_X11_across_42 ⟨hv, rfl, rfl⟩
  refine S_X11_across_0 (by omega) (fun g => S_X11_across_15 (t 1 (by rw [g]; decide))) (fun n2 => ?_)
  refine S_X11_across_5 (by omega) (fun g => S_X11_across_15 (t 1 (by rw [g]; decide))) (fun n3 => ?_)
  refine S_X11_across_10 (by omega) (fun n4 => ?_) (fun g => S_X11_across_15 (t 1 (by rw [g]; decide)))
  refine S_X11_across_19 (by omega) (fun g => S_X11_across_37 (t (-1) (by rw [g]; decide))) (fun n6 => ?_)
  refine S_X11_across_25 (by omega) (fun g => S_X11_across_37 (t (-1) (by rw [g]; decide))) (fun n7 => ?_)
  refine S_X11_across_31 (by omega) (fun n8 => S_X11_across_41 (t 0 ?_)) (fun g => S_X11_across_37 (t (-1) (by rw [g]; decide)))
  rcases (show w = 0 ∨ w = 1 ∨ w = 5 by omega) with rfl | rfl | rfl <;> decide
theorem c_down {X : CX} {I R : PF} {w : Int} (h : 0 ≤ w ∧ w < 9) : CN X 0 mX11_down [(0, w)] I R (fun v I' R' => v.2 = stY w ∧ I' = I ∧ R' = R) := by
  refine callee_b (by decide +kernel) (Nat.le_of_ble_eq_true rfl) rfl ?_
  have t : ∀ v, v = stY w → PN X 0 mX11_down 41 [] [(0, v)] I R (fun v I' R' => v.2 = stY w ∧ I' = I ∧ R' = R) := fun v hv => S_X11_down_41 ⟨hv, rfl, rfl⟩
  refine S_X11_down_0 (by omega) (fun g => S_X11_down_16 (t 1 (by rw [g]; decide))) (fun n2 => ?_)
  refine S_X11_down_5 (by omega) (fun g => S_X11_down_16 (t 1 (by rw [g]; decide))) (fun n3 => ?_)
  refine S_X11_down_10 (by omega) (fun n4 => ?_) (fun g => S_X11_down_16 (t 1 (by rw [g]; decide)))
  refine S_X11_down_20 (by omega) (fun g => S_X11_down_36 (t (-1) (by rw [g]; decide))) (fun n6 => ?_)
  refine S_X11_down_25 (by omega) (fun g => S_X11_down_36 (t (-1) (by rw [g]; decide))) (fun n7 => ?_)
  refine S_X11_down_30 (by omega) (fun n8 => S_X11_down_40 (t 0 ?_)) (fun g => S_X11_down_36 (t (-1) (by rw [g]; decide)))
  rcases (show w = 0 ∨ w = 3 ∨ w = 7 by omega) with rfl | rfl | rfl <;> decide
theorem c_cut {X : CX} {I R : PF} {v m : Int} (hv : inR v) (hm : 0 ≤ m ∧ inR m) : CN X 0 mX11_cut [(0, v), (0, m)] I R (fun u I' R' => u.2 = max 0 (min m v) ∧ I' = I ∧ R' = R) := by
  refine callee_b (by decide +kernel) (Nat.le_of_ble_eq_true rfl) rfl ?_
  have hm2 := hm.2
  refine S_X11_cut_0 hv (fun g => ?_) (fun g => ?_)
  · refine S_X11_cut_8 hv hm.2 (fun g1 => ?_) (fun g1 => ?_)
    · exact S_X11_cut_17 (S_X11_cut_18 ⟨by show v = max 0 (min m v); omega, rfl, rfl⟩)
    · exact S_X11_cut_13 (S_X11_cut_18 ⟨by show m = max 0 (min m v); omega, rfl, rfl⟩)
  · exact S_X11_cut_4 (S_X11_cut_18 ⟨by show 0 = max 0 (min m v); omega, rfl, rfl⟩)
theorem wall_loop {X : CX} {d : Nat} {I R : PF} {Q : PV → PF → PF → Prop} {x y : Int} {D : PF} (hs : Shp R) (hS : SqM D I) (hD : GD D) (hx : inR x) (hy : inR y) (hT : wlT D x y → Q (0, 1) I R) (hF : ¬ wlT D x y → Q (0, 0) I R) : ∀ (k : Nat) (x3 : Int), (D 339 2 - x3).toNat < k → 0 ≤ x3 → x3 ≤ D 339 2 → (∀ j, 0 ≤ j → j < x3 → ¬ (D 344 (2 * j) = x ∧ D 344 (2 * j + 1) = y)) →
    PN X d mX11_isWall 2 [(2, 306), (0, x), (0, y), (0, x3)] [] I R Q := by
  intro k
  obtain ⟨-, -, hS3, -, hS5⟩ := hS
  obtain ⟨⟨a1, a2, a3, a4, -⟩, ⟨-, -, -, -, r5, r6⟩, -, -, -, -, -, hw, -⟩ := hD
  have h9 : ∀ k, 0 ≤ k → k < D 339 2 → inR (D 344 (2 * k)) ∧ inR (D 344 (2 * k + 1)) := fun k k0 k1 => by
    have := hw k k0 k1
    unfold inR; omega
  induction k with
  | zero => intro x4 h; exact absurd h (Nat.not_lt_zero _)
  | succ k ih =>
    intro x3 h h0 h1 hj
    refine S_X11_isWall_2 hs (by omega) (by omega) (fun g => ?_) (fun g => ?_)
    · exact S_X11_isWall_50 (hF (fun ⟨j, j0, j1, j2, j3⟩ => hj j j0 (by omega) ⟨j2, j3⟩))
    have e1 : I 344 (20 + 2 * x3) = D 344 (2 * x3) := hS5 _ (by omega) (by omega)
    have e2 : I 344 (21 + 2 * x3) = D 344 (2 * x3 + 1) := by rw [show 21 + 2 * x3 = 20 + (2 * x3 + 1) by omega]; exact hS5 _ (by omega) (by omega)
    have hck := h9 x3 h0 (by omega)
    have next : ¬ (D 344 (2 * x3) = x ∧ D 344 (2 * x3 + 1) = y) → PN X d mX11_isWall 44 [(2, 306), (0, x), (0, y), (0, x3)] [] I R Q := fun c => by
      refine S_X11_isWall_44 (ih (x3 + 1) (by omega) (by omega) (by omega) (fun j j0 j1 => ?_))
      by_cases e : j = x3
      · rw [e]; exact c
      · exact hj j j0 (by omega)
    refine S_X11_isWall_12 hs (by omega) (by rw [e1]; exact hck.1) hx (fun g2 => next (fun c => g2 (e1.trans c.1))) (fun g2 => ?_)
    refine S_X11_isWall_27 hs (by omega) (by rw [e2]; exact hck.2) hy (fun g3 => next (fun c => g3 (e2.trans c.2))) (fun g3 => ?_)
    exact S_X11_isWall_42 (hT ⟨x3, h0, by omega, e1.symm.trans g2, e2.symm.trans g3⟩)
theorem c_isWall {X : CX} {I R : PF} {x y : Int} {D : PF} (hs : Shp R) (hS : SqM D I) (hD : GD D) (hx : inR x) (hy : inR y) :
    CN X 0 mX11_isWall [(2, 306), (0, x), (0, y)] I R (fun v I' R' => v.2 = bi (wlT D x y) ∧ I' = I ∧ R' = R) := by
  refine callee_b (by decide +kernel) (Nat.le_of_ble_eq_true rfl) rfl ?_
  have := hD.2.1
  exact S_X11_isWall_0 (wall_loop hs hS hD hx hy (fun c => ⟨(bi_t c).symm, rfl, rfl⟩) (fun c => ⟨(bi_f c).symm, rfl, rfl⟩) _ 0 (Nat.lt_succ_self _) (Int.le_refl _) (by omega) (fun j j0 j1 => by omega))
theorem c_isInside {X : CX} {I R : PF} {x y : Int} {D : PF} (hs : Shp R) (hS : SqM D I) (hD : GD D) (hx : inR x) (hy : inR y) :
    CN X 2 mX11_isInside [(2, 306), (0, x), (0, y)] I R (fun v I' R' => v.2 = bi (inQ D (x, y)) ∧ I' = I ∧ R' = R) := by
  refine callee_b (by decide +kernel) (Nat.le_of_ble_eq_true rfl) rfl ?_
  obtain ⟨h1, h2, -⟩ := hS
  have hd := hD.1
  refine S_X11_isInside_0 (d1 := 1) hs hx (by omega) (by omega) (c_isIn hx (by decide) (by omega)) (fun z I1 R1 p => ?_)
  obtain ⟨(hz : z = _), rfl, rfl⟩ := p
  have br := bi_r (0 ≤ x ∧ x ≤ I1 341 5 - 1)
  refine S_X11_isInside_15 (by omega) (fun g => ?_) (fun g => ?_)
  · have c := bi_0 (hz.symm.trans g)
    refine S_X11_isInside_41 (S_X11_isInside_42 (Or.inl rfl) ⟨(bi_f (fun q => c ?_)).symm, rfl, rfl⟩)
    unfold inQ at q; simp only at q; omega
  · have c := bi_1 (by rw [← hz]; exact g)
    refine S_X11_isInside_18 (d1 := 1) hs hy (by omega) (by omega) (c_isIn hy (by decide) (by omega)) (fun z2 I1 R1 p => ?_)
    obtain ⟨(hz2 : z2 = _), rfl, rfl⟩ := p
    have br2 := bi_r (0 ≤ y ∧ y ≤ I1 341 6 - 1)
    refine S_X11_isInside_34 (by omega) (fun g2 => ?_) (fun g2 => ?_)
    · have c2 := bi_0 (hz2.symm.trans g2)
      refine S_X11_isInside_41 (S_X11_isInside_42 (Or.inl rfl) ⟨(bi_f (fun q => c2 ?_)).symm, rfl, rfl⟩)
      unfold inQ at q; simp only at q; omega
    · have c2 := bi_1 (by rw [← hz2]; exact g2)
      refine S_X11_isInside_37 (S_X11_isInside_42 (Or.inr rfl) ⟨(bi_t ?_).symm, rfl, rfl⟩)
      unfold inQ; simp only; omega
/-- how far a place is from the hat's -/
def far (h p : Int × Int) : Int := max (max (p.1 - h.1) (h.1 - p.1)) (max (p.2 - h.2) (h.2 - p.2))
theorem c_farFrom {X : CX} {I R : PF} {h : Int × Int} {x y : Int} (h1 : I 306 64 = h.1) (h2 : I 306 65 = h.2) (hr : -100 ≤ h.1 ∧ h.1 ≤ 100 ∧ -100 ≤ h.2 ∧ h.2 ≤ 100) (hx : -100 ≤ x ∧ x ≤ 100) (hy : -100 ≤ y ∧ y ≤ 100) :
    CN X 0 mX11_farFrom [(2, 306), (0, x), (0, y)] I R (fun v I' R' => v.2 = far h (x, y) ∧ I' = I ∧ R' = R) := by
  refine callee_b (by decide +kernel) (Nat.le_of_ble_eq_true rfl) rfl ?_
  have fin : ∀ a b, a = max (x - h.1) (h.1 - x) → b = max (y - h.2) (h.2 - y) → PN X 0 mX11_farFrom 47 [(9, 0), (9, 0), (9, 0), (0, a)] [(0, b)] I R (fun v I' R' => v.2 = far h (x, y) ∧ I' = I ∧ R' = R) := fun a b ha hb => by
    refine S_X11_farFrom_47 (by omega) (by omega) (fun g => ?_) (fun g => ?_)
    · exact S_X11_farFrom_59 (S_X11_farFrom_61 ⟨by show b = max (max (x - h.1) (h.1 - x)) (max (y - h.2) (h.2 - y)); omega, rfl, rfl⟩)
    · exact S_X11_farFrom_55 (S_X11_farFrom_61 ⟨by show a = max (max (x - h.1) (h.1 - x)) (max (y - h.2) (h.2 - y)); omega, rfl, rfl⟩)
  have mid : ∀ a, a = max (x - h.1) (h.1 - x) → PN X 0 mX11_farFrom 23 [(2, 306), (9, 0), (0, y)] [(0, a)] I R (fun v I' R' => v.2 = far h (x, y) ∧ I' = I ∧ R' = R) := fun a ha => by
    refine S_X11_farFrom_23 (by omega) (by omega) (fun g => ?_) (fun g => ?_)
    · exact S_X11_farFrom_41 (fin a _ ha (by omega))
    · exact S_X11_farFrom_32 (fin a _ ha (by omega))
  refine S_X11_farFrom_0 (by omega) (by omega) (fun g => ?_) (fun g => ?_)
  · exact S_X11_farFrom_17 (mid _ (by omega))
  · exact S_X11_farFrom_8 (mid _ (by omega))
theorem c_drifts {X : CX} {I R : PF} {w : Int} {p : Int × Int} {D : PF} (hs : Shp R) (hS : SqM D I) (hD : GD D) (hp : inQ D p) (h1 : I 306 64 = p.1) (h2 : I 306 65 = p.2) (hw : 0 ≤ w ∧ w < 9) :
    CN X 1 mX11_drifts [(2, 306), (0, w)] I R (fun _ I' R' => I' 306 64 = (bes D w p).1 ∧ I' 306 65 = (bes D w p).2 ∧ FR (fun x y => x = 306 ∧ (y = 64 ∨ y = 65)) I I' ∧ R' = R) := by
  refine callee_b (by decide +kernel) (Nat.le_of_ble_eq_true rfl) rfl ?_
  have hd := hD.1
  obtain ⟨q1, q2, q3, q4⟩ := hp
  obtain ⟨s1, s2, s3, s4⟩ := stp_r' hw
  have hS' := hS
  obtain ⟨a1, a2, -⟩ := hS'
  refine S_X11_drifts_0 (d1 := 0) (by omega) (c_across hw) (fun z I1 R1 r => ?_)
  obtain ⟨(hz : z = _), rfl, rfl⟩ := r
  refine S_X11_drifts_8 (d1 := 0) hs (by omega) (c_cut (by unfold inR; omega) (by unfold inR; omega)) (fun x I2 R2 r => ?_)
  obtain ⟨(hx : x = _), rfl, rfl⟩ := r
  refine S_X11_drifts_20 (d1 := 0) (by omega) (c_down hw) (fun z2 I2 R2 r => ?_)
  obtain ⟨(hz2 : z2 = _), rfl, rfl⟩ := r
  refine S_X11_drifts_29 (d1 := 0) hs (by omega) (c_cut (by unfold inR; omega) (by unfold inR; omega)) (fun y I2 R2 r => ?_)
  obtain ⟨(hy : y = _), rfl, rfl⟩ := r
  have ex : x = bex D p.1 w := by unfold bex; rw [hx, hz, h1, a1]
  have ey : y = bey D p.2 w := by unfold bey; rw [hy, hz2, h2, a2]
  have br : (0 ≤ bex D p.1 w ∧ bex D p.1 w < D 341 0) ∧ 0 ≤ bey D p.2 w ∧ bey D p.2 w < D 341 1 := by unfold bex bey; omega
  refine S_X11_drifts_42 (d1 := 0) (by omega) (c_isWall hs hS hD (by unfold inR; omega) (by unfold inR; omega)) (fun z3 I2 R2 r => ?_)
  obtain ⟨(hz3 : z3 = _), rfl, rfl⟩ := r
  have b3 := bi_r (wlT D x y)
  refine S_X11_drifts_49 (by omega) (fun g => ?_) (fun g => ?_)
  · have c := bi_0 (hz3.symm.trans g)
    rw [ex, ey] at c
    have eb : bes D w p = (x, y) := by unfold bes; rw [cif_f c, ex, ey]
    refine S_X11_drifts_53 ⟨?_, ?_, (FR_u2 ⟨rfl, Or.inl rfl⟩).tr (FR_u2 ⟨rfl, Or.inr rfl⟩), rfl⟩
    · rw [u2_j (by decide), u2_at, eb]
    · rw [u2_at, eb]
  · have c := bi_1 (by rw [← hz3]; exact g)
    rw [ex, ey] at c
    have eb : bes D w p = p := by unfold bes; rw [cif_t c]
    exact S_X11_drifts_52 ⟨by rw [eb]; exact h1, by rw [eb]; exact h2, FR.rf, rfl⟩
