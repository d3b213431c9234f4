/-! ===== the class's square: what it answers ===== -/
theorem sq_o {o : Int} (h : kd MF o = 6) : o = 72 ∨ o = 91 := by
  obtain ⟨k, rfl, hk, hM⟩ := kd_in h (by decide)
  have hall : (List.range MF.length).all (fun k => match MF[k]? with | some q => q.1 != 6 || k == 8 || k == 27 | none => true) = true := by decide +kernel
  have h1 := List.all_eq_true.mp hall k (List.mem_range.mpr hk)
  rw [hM] at h1
  simp only [bne_self_eq_false, Bool.false_or, Bool.or_eq_true, beq_iff_eq] at h1
  omega
theorem st_o {o : Int} (h : kd MF o = 8) : 64 ≤ o := by
  obtain ⟨k, rfl, hk, hM⟩ := kd_in h (by decide)
  omega
theorem c_within {X : CX} {I R : PF} {o x y : Int} (hk : kd MF o = 6) (hx : inR x) (hy : inR y) (h0 : inR (I o 0)) (h1 : inR (I o 1)) :
    CN X 0 mX6_within [(2, o), (0, x), (0, y)] I R (fun v I' R' => v.2 = bi (0 ≤ x ∧ x < I o 0 ∧ 0 ≤ y ∧ y < I o 1) ∧ I' = I ∧ R' = R) := by
  refine callee_b (by decide +kernel) (Nat.le_of_ble_eq_true rfl) rfl ?_
  have no : ¬ (0 ≤ x ∧ x < I o 0 ∧ 0 ≤ y ∧ y < I o 1) → PN X 0 mX6_within 28 [] [] I R (fun v I' R' => v.2 = bi (0 ≤ x ∧ x < I o 0 ∧ 0 ≤ y ∧ y < I o 1) ∧ I' = I ∧ R' = R) := fun c =>
    S_X6_within_28 (S_X6_within_29 (by decide) ⟨(bi_f c).symm, rfl, rfl⟩)
  refine S_X6_within_0 hx (fun g => no (by omega)) (fun g => ?_)
  refine S_X6_within_4 hk hx h0 (fun g2 => no (by omega)) (fun g2 => ?_)
  refine S_X6_within_12 hy (fun g3 => no (by omega)) (fun g3 => ?_)
  refine S_X6_within_16 hk hy h1 (fun g4 => no (by omega)) (fun g4 => ?_)
  exact S_X6_within_24 (S_X6_within_29 (by decide) ⟨(bi_t ⟨g, g2, g3, g4⟩).symm, rfl, rfl⟩)
theorem c_walled {X : CX} {I R : PF} {o x y : Int} (hs : Shp R) (hk : kd MF o = 6) (hx : inR x) (hy : inR y) (h0 : 0 ≤ I o 0 ∧ I o 0 ≤ 9) (h1 : 0 ≤ I o 1 ∧ I o 1 ≤ 9) (hw : ∀ j, 0 ≤ j → j < 81 → inR (I (o + 3) j)) :
    CN X 1 mX6_walled [(2, o), (0, x), (0, y)] I R (fun v I' R' => v.2 = bi ((0 ≤ x ∧ x < I o 0 ∧ 0 ≤ y ∧ y < I o 1) ∧ I (o + 3) (9 * y + x) ≠ 0) ∧ I' = I ∧ R' = R) := by
  refine callee_b (by decide +kernel) (Nat.le_of_ble_eq_true rfl) rfl ?_
  have no : ¬ ((0 ≤ x ∧ x < I o 0 ∧ 0 ≤ y ∧ y < I o 1) ∧ I (o + 3) (9 * y + x) ≠ 0) → PN X 1 mX6_walled 27 [] [] I R (fun v I' R' => v.2 = bi ((0 ≤ x ∧ x < I o 0 ∧ 0 ≤ y ∧ y < I o 1) ∧ I (o + 3) (9 * y + x) ≠ 0) ∧ I' = I ∧ R' = R) := fun c =>
    S_X6_walled_27 (S_X6_walled_28 (by decide) ⟨(bi_f c).symm, rfl, rfl⟩)
  refine S_X6_walled_0 (d1 := 0) (by omega) (c_within hk hx hy (by omega) (by omega)) hk (fun z I2 R2 p => ?_)
  obtain ⟨(hz : z = _), rfl, rfl⟩ := p
  have br := bi_r (0 ≤ x ∧ x < I2 o 0 ∧ 0 ≤ y ∧ y < I2 o 1)
  refine S_X6_walled_6 (by omega) (fun g => no (fun c => bi_0 (hz.symm.trans g) c.1)) (fun g => ?_)
  have c := bi_1 (by rw [← hz]; exact g)
  refine S_X6_walled_9 hs hk (by omega) (hw _ (by omega) (by omega)) (fun g2 => no (fun c => c.2 g2)) (fun g2 => ?_)
  exact S_X6_walled_23 (S_X6_walled_28 (by decide) ⟨(bi_t ⟨c, g2⟩).symm, rfl, rfl⟩)
theorem c_hasTowerAt {X : CX} {I R : PF} {o x y : Int} (hk : kd MF o = 6) (hx : inR x) (hy : inR y) (h0 : inR (I o 2)) (h1 : inR (I o 3)) :
    CN X 0 mX6_hasTowerAt [(2, o), (0, x), (0, y)] I R (fun v I' R' => v.2 = bi (x = I o 2 ∧ y = I o 3) ∧ I' = I ∧ R' = R) := by
  refine callee_b (by decide +kernel) (Nat.le_of_ble_eq_true rfl) rfl ?_
  refine S_X6_hasTowerAt_0 hk hx h0 (fun g => ?_) (fun g => ?_)
  · exact S_X6_hasTowerAt_20 (S_X6_hasTowerAt_21 (by decide) ⟨(bi_f (fun c => g c.1)).symm, rfl, rfl⟩)
  · refine S_X6_hasTowerAt_8 hk hy h1 (fun g2 => ?_) (fun g2 => ?_)
    · exact S_X6_hasTowerAt_20 (S_X6_hasTowerAt_21 (by decide) ⟨(bi_f (fun c => g2 c.2)).symm, rfl, rfl⟩)
    · exact S_X6_hasTowerAt_16 (S_X6_hasTowerAt_21 (by decide) ⟨(bi_t ⟨g, g2⟩).symm, rfl, rfl⟩)
theorem lwn_loop {X : CX} {d : Nat} {I R : PF} {Q : PV → PF → PF → Prop} {o x1 : Int} (hs : Shp R) (hk : kd MF o = 6) (hm : 0 ≤ I o 5 ∧ I o 5 ≤ 6) (hc : ∀ k, 0 ≤ k → k < I o 5 → inR (I (o + 1) k)) (hx : inR x1) : ∀ (k : Nat) (x2 : Int), (I o 5 - x2).toNat < k → 0 ≤ x2 → x2 ≤ I o 5 → (∀ j, 0 ≤ j → j < x2 → I (o + 1) j ≠ x1) →
    (∀ r, Fst (fun k => I (o + 1) k = x1) (I o 5) r → Q (0, r) I R) → PN X d mX6_lawNamed 2 [(2, o), (0, x1), (0, x2)] [] I R Q := by
  intro k
  induction k with
  | zero => intro x4 h; exact absurd h (Nat.not_lt_zero _)
  | succ k ih =>
    intro x2 h h0 h1 hj hQ
    refine S_X6_lawNamed_2 hk (by omega) (by omega) (fun g => ?_) (fun g => ?_)
    · exact S_X6_lawNamed_28 (hQ _ (Or.inl ⟨rfl, fun i i0 i1 => hj i i0 (by omega)⟩))
    · refine S_X6_lawNamed_10 hs hk (by omega) (hc x2 h0 g) hx (fun g2 => ?_) (fun g2 => ?_)
      · refine S_X6_lawNamed_22 (ih (x2 + 1) (by omega) (by omega) (by omega) (fun j j0 j1 => ?_) hQ)
        by_cases e : j = x2
        · rw [e]; exact g2
        · exact hj j j0 (by omega)
      · exact S_X6_lawNamed_20 (hQ _ (Or.inr ⟨h0, g, g2, hj⟩))
theorem c_lawNamed {X : CX} {I R : PF} {o x1 : Int} (hs : Shp R) (hk : kd MF o = 6) (hm : 0 ≤ I o 5 ∧ I o 5 ≤ 6) (hc : ∀ k, 0 ≤ k → k < I o 5 → inR (I (o + 1) k)) (hx : inR x1) :
    CN X 0 mX6_lawNamed [(2, o), (0, x1)] I R (fun v I' R' => v.2 = fI (fun k => I (o + 1) k = x1) (I o 5) ∧ I' = I ∧ R' = R) := by
  refine callee_b (by decide +kernel) (Nat.le_of_ble_eq_true rfl) rfl ?_
  exact S_X6_lawNamed_0 (lwn_loop hs hk hm hc hx _ 0 (Nat.lt_succ_self _) (Int.le_refl _) hm.1 (fun j j0 j1 => by omega) (fun r hr => ⟨hr.fI, rfl, rfl⟩))
theorem kno_loop {X : CX} {d : Nat} {I R : PF} {Q : PV → PF → PF → Prop} {o x1 : Int} (hs : Shp R) (hk : kd MF o = 6) (hm : 0 ≤ I (o + 11) 3 ∧ I (o + 11) 3 ≤ 6) (hc : ∀ k, 0 ≤ k → k < I (o + 11) 3 → inR (I (o + 2) k)) (hx : inR x1)
    (hT : (∃ k, 0 ≤ k ∧ k < I (o + 11) 3 ∧ I (o + 2) k = x1) → Q (0, 1) I R) (hF : (∀ k, 0 ≤ k → k < I (o + 11) 3 → I (o + 2) k ≠ x1) → PN X d mX6_knowsName 31 [(2, o), (0, x1)] [] I R Q) : ∀ (k : Nat) (x2 : Int), (I (o + 11) 3 - x2).toNat < k → 0 ≤ x2 → x2 ≤ I (o + 11) 3 → (∀ j, 0 ≤ j → j < x2 → I (o + 2) j ≠ x1) →
    PN X d mX6_knowsName 2 [(2, o), (0, x1), (0, x2)] [] I R Q := by
  intro k
  induction k with
  | zero => intro x4 h; exact absurd h (Nat.not_lt_zero _)
  | succ k ih =>
    intro x2 h h0 h1 hj
    refine S_X6_knowsName_2 hs hk (by omega) (by omega) (fun g => ?_) (fun g => ?_)
    · exact hF (fun i i0 i1 => hj i i0 (by omega))
    · refine S_X6_knowsName_13 hs hk (by omega) (hc x2 h0 g) hx (fun g2 => ?_) (fun g2 => ?_)
      · refine S_X6_knowsName_25 (ih (x2 + 1) (by omega) (by omega) (by omega) (fun j j0 j1 => ?_))
        by_cases e : j = x2
        · rw [e]; exact g2
        · exact hj j j0 (by omega)
      · exact S_X6_knowsName_23 (hT ⟨x2, h0, g, g2⟩)
theorem c_knowsName {X : CX} {I R : PF} {o x1 : Int} (hs : Shp R) (hk : kd MF o = 6) (hl : 0 ≤ I o 5 ∧ I o 5 ≤ 6) (hlc : ∀ k, 0 ≤ k → k < I o 5 → inR (I (o + 1) k)) (hm : 0 ≤ I (o + 11) 3 ∧ I (o + 11) 3 ≤ 6) (hc : ∀ k, 0 ≤ k → k < I (o + 11) 3 → inR (I (o + 2) k)) (hx : inR x1) :
    CN X 1 mX6_knowsName [(2, o), (0, x1)] I R (fun v I' R' => v.2 = bi ((∃ k, 0 ≤ k ∧ k < I o 5 ∧ I (o + 1) k = x1) ∨ (∃ k, 0 ≤ k ∧ k < I (o + 11) 3 ∧ I (o + 2) k = x1)) ∧ I' = I ∧ R' = R) := by
  refine callee_b (by decide +kernel) (Nat.le_of_ble_eq_true rfl) rfl ?_
  refine S_X6_knowsName_0 (kno_loop hs hk hm hc hx (fun c => ⟨(bi_t (Or.inr c)).symm, rfl, rfl⟩) (fun hn => ?_) _ 0 (Nat.lt_succ_self _) (Int.le_refl _) hm.1 (fun j j0 j1 => by omega))
  refine S_X6_knowsName_31 (d1 := 0) (by omega) (c_lawNamed hs hk hl hlc hx) hk (fun z I2 R2 p => ?_)
  obtain ⟨(hz : z = _), rfl, rfl⟩ := p
  have F := fI_fst (fun k => I2 (o + 1) k = x1) (I2 o 5)
  rw [← hz] at F
  have zr : -1 ≤ z ∧ z < 6 := by rcases F with ⟨e, -⟩ | ⟨e1, e2, -⟩ <;> omega
  refine S_X6_knowsName_36 (by omega) (fun g => ?_) (fun g => ?_)
  · refine S_X6_knowsName_44 (S_X6_knowsName_45 (by decide) ⟨(bi_f ?_).symm, rfl, rfl⟩)
    rintro (⟨k, k0, k1, k2⟩ | ⟨k, k0, k1, k2⟩)
    · rcases F with ⟨-, e⟩ | ⟨e1, -⟩
      · exact e k k0 k1 k2
      · omega
    · exact hn k k0 k1 k2
  · refine S_X6_knowsName_40 (S_X6_knowsName_45 (by decide) ⟨(bi_t (Or.inl ?_)).symm, rfl, rfl⟩)
    rcases F with ⟨e, -⟩ | ⟨e1, e2, e3, -⟩
    · exact absurd e g
    · exact ⟨z, e1, e2, e3⟩
theorem c_standsAt {X : CX} {I R : PF} {o p x y : Int} (hs : Shp R) (hk : kd MF o = 8) (hp : 0 ≤ p ∧ p < 6) (h0 : inR (I (o + 2 + p) 0)) (h1 : inR (I (o + 2 + p) 1)) (hx : inR x) (hy : inR y) :
    CN X 0 mX8_standsAt [(2, o), (0, p), (0, x), (0, y)] I R (fun v I' R' => v.2 = bi (I (o + 2 + p) 0 = x ∧ I (o + 2 + p) 1 = y) ∧ I' = I ∧ R' = R) := by
  refine callee_b (by decide +kernel) (Nat.le_of_ble_eq_true rfl) rfl ?_
  refine S_X8_standsAt_0 hs hk hp h0 hx (fun g => ?_) (fun g => ?_)
  · exact S_X8_standsAt_28 (S_X8_standsAt_29 (by decide) ⟨(bi_f (fun c => g c.1)).symm, rfl, rfl⟩)
  · refine S_X8_standsAt_12 hs hk hp h1 hy (fun g2 => ?_) (fun g2 => ?_)
    · exact S_X8_standsAt_28 (S_X8_standsAt_29 (by decide) ⟨(bi_f (fun c => g2 c.2)).symm, rfl, rfl⟩)
    · exact S_X8_standsAt_24 (S_X8_standsAt_29 (by decide) ⟨(bi_t ⟨g, g2⟩).symm, rfl, rfl⟩)
theorem who_loop {X : CX} {d : Nat} {I R : PF} {Q : PV → PF → PF → Prop} {o x y : Int} (hs : Shp R) (hd : 1 ≤ d) (hk : kd MF o = 8) (hm : 0 ≤ I o 3 ∧ I o 3 ≤ 6) (hc : ∀ p, 0 ≤ p → p < I o 3 → inR (I (o + 2 + p) 0) ∧ inR (I (o + 2 + p) 1)) (hx : inR x) (hy : inR y) : ∀ (k : Nat) (x3 : Int), (I o 3 - x3).toNat < k → 0 ≤ x3 → x3 ≤ I o 3 → (∀ j, 0 ≤ j → j < x3 → ¬ (I (o + 2 + j) 0 = x ∧ I (o + 2 + j) 1 = y)) →
    (∀ r, Fst (fun p => I (o + 2 + p) 0 = x ∧ I (o + 2 + p) 1 = y) (I o 3) r → Q (0, r) I R) → PN X d mX8_whoStands 2 [(2, o), (0, x), (0, y), (0, x3)] [] I R Q := by
  intro k
  induction k with
  | zero => intro x4 h; exact absurd h (Nat.not_lt_zero _)
  | succ k ih =>
    intro x3 h h0 h1 hj hQ
    refine S_X8_whoStands_2 hk (by omega) (by omega) (fun g => ?_) (fun g => ?_)
    · exact S_X8_whoStands_28 (hQ _ (Or.inl ⟨rfl, fun i i0 i1 => hj i i0 (by omega)⟩))
    · have hcp := hc x3 h0 g
      refine S_X8_whoStands_10 (d1 := 0) (by omega) (c_standsAt hs hk (by omega) hcp.1 hcp.2 hx hy) hk (fun z I2 R2 p => ?_)
      obtain ⟨(hz : z = _), rfl, rfl⟩ := p
      have br := bi_r (I2 (o + 2 + x3) 0 = x ∧ I2 (o + 2 + x3) 1 = y)
      refine S_X8_whoStands_17 (by omega) (fun g2 => ?_) (fun g2 => ?_)
      · have c := bi_0 (hz.symm.trans g2)
        refine S_X8_whoStands_22 (ih (x3 + 1) (by omega) (by omega) (by omega) (fun j j0 j1 => ?_) hQ)
        by_cases e : j = x3
        · rw [e]; exact c
        · exact hj j j0 (by omega)
      · exact S_X8_whoStands_20 (hQ _ (Or.inr ⟨h0, g, bi_1 (by rw [← hz]; exact g2), hj⟩))
theorem c_whoStands {X : CX} {I R : PF} {o x y : Int} (hs : Shp R) (hk : kd MF o = 8) (hm : 0 ≤ I o 3 ∧ I o 3 ≤ 6) (hc : ∀ p, 0 ≤ p → p < I o 3 → inR (I (o + 2 + p) 0) ∧ inR (I (o + 2 + p) 1)) (hx : inR x) (hy : inR y) :
    CN X 1 mX8_whoStands [(2, o), (0, x), (0, y)] I R (fun v I' R' => v.2 = fI (fun p => I (o + 2 + p) 0 = x ∧ I (o + 2 + p) 1 = y) (I o 3) ∧ I' = I ∧ R' = R) := by
  refine callee_b (by decide +kernel) (Nat.le_of_ble_eq_true rfl) rfl ?_
  exact S_X8_whoStands_0 (who_loop hs (by omega) hk hm hc hx hy _ 0 (Nat.lt_succ_self _) (Int.le_refl _) hm.1 (fun j j0 j1 => by omega) (fun r hr => ⟨hr.fI, rfl, rfl⟩))
theorem c_knows {X : CX} {I R : PF} {o p : Int} (hk : kd MF o = 8) (hp : inR p) (hm : inR (I o 3)) : CN X 0 mX8_knows [(2, o), (0, p)] I R (fun v I' R' => v.2 = bi (0 ≤ p ∧ p < I o 3) ∧ I' = I ∧ R' = R) := by
  refine callee_b (by decide +kernel) (Nat.le_of_ble_eq_true rfl) rfl ?_
  refine S_X8_knows_0 hp (fun g => ?_) (fun g => ?_)
  · exact S_X8_knows_16 (S_X8_knows_17 (by decide) ⟨(bi_f (fun c => by omega)).symm, rfl, rfl⟩)
  · refine S_X8_knows_4 hk hp hm (fun g2 => ?_) (fun g2 => ?_)
    · exact S_X8_knows_16 (S_X8_knows_17 (by decide) ⟨(bi_f (fun c => by omega)).symm, rfl, rfl⟩)
    · exact S_X8_knows_12 (S_X8_knows_17 (by decide) ⟨(bi_t ⟨g, g2⟩).symm, rfl, rfl⟩)
theorem c_isToldF {X : CX} {I R : PF} {f : Int} (hk : kd MF f = 2) (hm : inR (I f 2)) : CN X 0 mX2_isTold [(2, f)] I R (fun v I' R' => v.2 = bi (0 < I f 2) ∧ I' = I ∧ R' = R) := by
  refine callee_b (by decide +kernel) (Nat.le_of_ble_eq_true rfl) rfl ?_
  refine S_X2_isTold_0 hk hm (fun g => ?_) (fun g => ?_)
  · exact S_X2_isTold_11 (S_X2_isTold_12 (by decide) ⟨(bi_f (fun c => by omega)).symm, rfl, rfl⟩)
  · exact S_X2_isTold_7 (S_X2_isTold_12 (by decide) ⟨(bi_t g).symm, rfl, rfl⟩)
