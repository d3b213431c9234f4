/-! ===== what the calls that only tell need ===== -/
def Vw (p : Int) (I : PF) : Prop := (I p 0 = I 341 5 ∧ I p 1 = I 341 6 ∧ I p 5 = I 339 3 ∧ I p 6 = I 339 5) ∧ (I 111 0 = I 348 0 ∧ I 111 1 = I 348 1 ∧ I 111 2 = I 348 2 ∧ I 111 3 = I 339 4) ∧
  (min (I 136 1) 40 = I 348 33 ∧ 0 ≤ I 136 1 ∧ I 136 1 ≤ 999) ∧ (I 136 5 = I 306 76 ∧ 0 ≤ I 306 76 ∧ I 306 76 ≤ 20) ∧ (I 64 17 = I 306 73 ∧ 0 ≤ I 306 73 ∧ I 306 73 ≤ 7) ∧
  ((I 306 55 = 0 ∧ I p 0 = 0) ∨ (I 306 55 = 1 ∧ 0 < I p 0)) ∧ (0 ≤ I 339 3 ∧ I 339 3 ≤ 6 ∧ 0 ≤ I 339 4 ∧ I 339 4 ≤ 6 ∧ 0 ≤ I p 0 ∧ I p 0 ≤ 9 ∧ 0 ≤ I p 1 ∧ I p 1 ≤ 9 ∧ -1 ≤ I 348 1 ∧ I 348 1 < I 339 4 ∧ 0 ≤ I 348 0 ∧ I 348 0 ≤ 999 ∧ 0 ≤ I 348 2 ∧ I 348 2 ≤ 99 ∧ 0 ≤ I 339 5 ∧ I 339 5 ≤ 10) ∧
  (∀ q, 0 ≤ q → q < I 339 4 → I (113 + q) 0 = I 348 (3 + 5 * q) ∧ I (113 + q) 1 = I 348 (3 + 5 * q + 1) ∧ I (113 + q) 2 = I 342 (24 + 4 * q) ∧ I (113 + q) 3 = I 342 (25 + 4 * q) ∧ I (113 + q) 4 = I 342 (26 + 4 * q) ∧ I (113 + q) 5 = I 348 (3 + 5 * q + 2) ∧ I (113 + q) 6 = I 348 (3 + 5 * q + 3) ∧ I (113 + q) 7 = I 348 (3 + 5 * q + 4)) ∧
  (∀ k, 0 ≤ k → k < I 339 3 → I (p + 1) k = pad (I 340 (12 + k)) ∧ okW (I 340 (12 + k))) ∧ (∀ k, 0 ≤ k → k < I 339 4 → I (p + 2) k = pad (I 340 (18 + k)) ∧ okW (I 340 (18 + k))) ∧
  ∀ k w, 0 ≤ k → k < min (I 136 1) 40 → 0 ≤ w → w < 3 → I 348 (34 + 3 * k + w) = I (138 + w) (I 136 1 - min (I 136 1) 40 + k)
theorem Sim.vw {I R : PF} {p o : Int} (h : Sim I R) (hp : Plc R p o) : Vw p I := by
  obtain ⟨-, -, -, -, p', o', h6, h7⟩ := h
  obtain rfl : p' = p := h6.1.symm.trans hp.1
  rcases h7 with h7 | ⟨D, h7⟩
  · obtain ⟨⟨a1, a2, a3, a4⟩, a5, ⟨a6, a7⟩, ⟨a8, a9, aa⟩, ⟨b1, b2, b3, b4⟩, ⟨b5, b6, b7, b8⟩, ⟨b9, c1⟩, c2, c3, c4⟩ := h7
    refine ⟨by omega, by omega, ⟨by omega, by omega, by omega⟩, by omega, by omega, Or.inl ⟨a5, a1⟩, by omega, fun q q0 q1 => by omega, fun q q0 q1 => by omega, fun q q0 q1 => by omega, fun k w k0 k1 => by omega⟩
  · obtain ⟨g1, g2, g3, g4, g5, g6, g7, g8, g9⟩ := h7
    obtain ⟨⟨q1, q2, q3, q4, q5⟩, ⟨q6, q7, q8, q9⟩, qa, qb, -⟩ := g3
    obtain ⟨s1, s2, s3, s4, -⟩ := g5
    obtain ⟨⟨m0, m1, m2, m3⟩, mp⟩ := g7
    obtain ⟨⟨l1, l2, l3, l4⟩, l5, l6, l7, -⟩ := g8
    obtain ⟨k1, k2, k3, -⟩ := g6
    obtain ⟨z1, z2, z3, -⟩ := g9
    obtain ⟨d1, d2, d3, d4, -⟩ := g1
    have e0 := s2 0 (by decide) (by decide)
    have e1 := s2 1 (by decide) (by decide)
    have e2 := s2 2 (by decide) (by decide)
    have f0 := s4 0 (by decide) (by decide)
    have f1 := s4 1 (by decide) (by decide)
    rw [show (3 : Int) + 0 = 3 by decide] at e0
    rw [show (3 : Int) + 1 = 4 by decide] at e1
    rw [show (3 : Int) + 2 = 5 by decide] at e2
    rw [show (5 : Int) + 0 = 5 by decide] at f0
    rw [show (5 : Int) + 1 = 6 by decide] at f1
    refine ⟨by omega, by omega, ⟨by omega, by omega, by omega⟩, by omega, by omega, Or.inr ⟨s1, by omega⟩, by omega, fun q q0 q1' => ?_, fun q q0 q1' => ?_, fun q q0 q1' => ?_, l4⟩
    · exact mp q q0 (by omega)
    · rw [s3 q q0 (by omega)]; exact ⟨qa q q0 (by omega), d3 q q0 (by omega)⟩
    · have := s3 (6 + q) (by omega) (by omega)
      rw [show 12 + (6 + q) = 18 + q by omega] at this
      rw [this]; exact ⟨qb q q0 (by omega), d4 q q0 (by omega)⟩
theorem c_personMany {X : CX} {I R : PF} (hs : Shp R) : CN X 0 mX11_personMany [(2, 306)] I R (fun v I' R' => v.2 = I 339 4 ∧ I' = I ∧ R' = R) := callee_b (by decide +kernel) (Nat.le_of_ble_eq_true rfl) rfl (S_X11_personMany_0 hs ⟨rfl, rfl, rfl⟩)
theorem c_isPerson {X : CX} {I R : PF} {p : Int} (hs : Shp R) (hp : inR p) (hn : 0 ≤ I 339 4 ∧ I 339 4 ≤ 6) : CN X 2 mX11_isPerson [(2, 306), (0, p)] I R (fun v I' R' => v.2 = bi (0 ≤ p ∧ p < I 339 4) ∧ I' = I ∧ R' = R) := by
  refine callee_b (by decide +kernel) (Nat.le_of_ble_eq_true rfl) rfl ?_
  refine S_X11_isPerson_0 (d1 := 0) hp (by omega) (c_personMany hs) (fun z I1 R1 q => ?_)
  obtain ⟨(hz : z = _), rfl, rfl⟩ := q
  refine S_X11_isPerson_7 (d1 := 1) (by omega) (by omega) (c_isIn hp (by decide) (by unfold inR; omega)) (fun z2 I2 R2 q => ?_)
  obtain ⟨(hz2 : z2 = _), rfl, rfl⟩ := q
  have b := bi_01 (0 ≤ p ∧ p ≤ z - 1)
  exact S_X11_isPerson_13 (by rcases b with c | c <;> omega) ⟨hz2.trans (bi_congr (by omega)), rfl, rfl⟩
theorem c_mlawOf {X : CX} {I R : PF} {w : Int} (hs : Shp R) (hw : -1 ≤ w ∧ w < 6) : CN X 0 mX11_lawOf [(2, 306), (0, w)] I R (fun v I' R' => v.2 = lwO I w ∧ I' = I ∧ R' = R) := by
  refine callee_b (by decide +kernel) (Nat.le_of_ble_eq_true rfl) rfl ?_
  refine S_X11_lawOf_0 (by omega) (fun g => S_X11_lawOf_9 hs (by omega) (S_X11_lawOf_20 ⟨?_, rfl, rfl⟩)) (fun g => S_X11_lawOf_5 (S_X11_lawOf_20 ⟨?_, rfl, rfl⟩))
  · unfold lwO; rw [if_neg g]
  · unfold lwO; rw [if_pos g]
theorem b_end {X : CX} {I R : PF} {n : Int} (h : Sim I R) (hn : inR n) : Both X 0 0 mX10_end mX11_end [(0, n)] I R := by
  have hs := h.1
  obtain ⟨t1, t2, t3, t4, t5⟩ := h.2.2.1
  by_cases g : 0 ≤ n ∧ n ≤ I 306 1
  · refine callee_b (by decide +kernel) (Nat.le_of_ble_eq_true rfl) rfl ?_
    refine S_X10_end_0 hn (fun g2 => by omega) (fun _ => S_X10_end_4 hn (by omega) (fun _ => S_X10_end_24 ?_) (fun g2 => by omega))
    refine callee_b (by decide +kernel) (Nat.le_of_ble_eq_true rfl) rfl ?_
    have e1 : u2 I 64 1 n 306 1 = I 306 1 := u2_o (by decide)
    refine S_X11_end_0 hn (fun g2 => by omega) (fun _ => S_X11_end_4 hn (by omega) (fun _ => S_X11_end_24 ⟨rfl, ?_⟩) (fun g2 => by omega))
    obtain ⟨p, o, hp⟩ := h.plc
    have f : FR (fun x y => (x = 64 ∨ x = 306) ∧ y = 1) I (u2 (u2 I 64 1 n) 306 1 n) := (FR_u2 ⟨Or.inl rfl, rfl⟩).tr (FR_u2 ⟨Or.inr rfl, rfl⟩)
    have v1 : u2 (u2 I 64 1 n) 306 1 n 306 1 = n := u2_at
    have v2 : u2 (u2 I 64 1 n) 306 1 n 64 1 = n := by rw [u2_o (by decide), u2_at]
    generalize u2 (u2 I 64 1 n) 306 1 n = J at f v1 v2
    have e7 : J 307 = I 307 := funext fun y => f _ _ (fun d => by omega)
    have e65 : J 65 = I 65 := funext fun y => f _ _ (fun d => by omega)
    refine h.up hp (f.mono (fun x y c => by unfold scA smC; omega)) FR.rf ⟨by rw [e65, e7]; exact t1, by rw [v1, v2], by omega, by omega, by rw [e7]; exact t5⟩ (h.2.2.2.1.cg (f.mono (fun x y c => by omega)) (fun j => ?_))
    rw [f 66 j (fun d => by omega), f 308 j (fun d => by omega)]; exact h.2.2.2.1.1 j
  · have r1 : PN X 0 mX10_end 12 [(2, 64)] [] I R (fun v I1 R1 => CN X 0 mX11_end [(2, 306), (0, n)] I1 R1 (fun v' I2 R2 => v'.2 = v.2 ∧ Sim I2 R2)) := by
      refine S_X10_end_12 hs ?_
      refine callee_b (by decide +kernel) (Nat.le_of_ble_eq_true rfl) rfl ?_
      have e1 : u2 I 66 0 (I 66 0 + 1) 306 1 = I 306 1 := u2_o (by decide)
      have r2 := S_X11_end_12 (X := X) (d := 0) (Q := fun v' I2 R2 => v'.2 = 0 ∧ Sim I2 R2) (I := u2 I 66 0 (I 66 0 + 1)) hs ⟨rfl, h.rf 0⟩
      exact S_X11_end_0 hn (fun _ => r2) (fun _ => S_X11_end_4 hn (by omega) (fun g2 => by omega) (fun _ => r2))
    refine callee_b (by decide +kernel) (Nat.le_of_ble_eq_true rfl) rfl ?_
    exact S_X10_end_0 hn (fun _ => r1) (fun _ => S_X10_end_4 hn (by omega) (fun g2 => by omega) (fun _ => r1))
theorem b_fault {X : CX} {I R : PF} {w : Int} (h : Sim I R) (hw : inR w) : Both X 0 0 mX10_fault mX11_fault [(0, w)] I R := by
  have hs := h.1
  obtain ⟨-, ⟨f1, f2⟩, -⟩ := h.2.2.2.1
  refine callee_b (by decide +kernel) (Nat.le_of_ble_eq_true rfl) rfl ?_
  refine S_X10_fault_0 hw (fun g => ?_) (fun g => ?_)
  · refine S_X10_fault_9 hw (fun g2 => ?_) (fun g2 => ?_)
    · refine S_X10_fault_21 (S_X10_fault_22 ?_)
      exact callee_b (by decide +kernel) (Nat.le_of_ble_eq_true rfl) rfl (S_X11_fault_0 hw (fun _ => S_X11_fault_11 hw (fun _ => S_X11_fault_23 (S_X11_fault_24 ⟨rfl, h⟩)) (fun c => absurd c g2)) (fun c => absurd c g))
    · refine S_X10_fault_14 (S_X10_fault_22 ?_)
      exact callee_b (by decide +kernel) (Nat.le_of_ble_eq_true rfl) rfl (S_X11_fault_0 hw (fun _ => S_X11_fault_11 hw (fun c => absurd g2 c) (fun _ => S_X11_fault_16 (S_X11_fault_24 ⟨f2.symm, h⟩))) (fun c => absurd c g))
  · refine S_X10_fault_4 ?_
    exact callee_b (by decide +kernel) (Nat.le_of_ble_eq_true rfl) rfl (S_X11_fault_0 hw (fun c => absurd g c) (fun _ => S_X11_fault_4 (S_X11_fault_24 ⟨f1.symm, h⟩)))
theorem b_octet {X : CX} {I R : PF} {k : Int} (h : Sim I R) (hk : inR k) : Both X 0 0 mX10_octet mX11_octet [(0, k)] I R := by
  have hs := h.1
  obtain ⟨-, -, -, ⟨a1, a2, a3, a4⟩, -⟩ := h.2.2.2.1
  refine callee_b (by decide +kernel) (Nat.le_of_ble_eq_true rfl) rfl ?_
  by_cases g : 0 ≤ k ∧ k < I 306 114
  · refine S_X10_octet_0 hk (fun c => by omega) (fun _ => S_X10_octet_4 hk (by omega) (fun _ => S_X10_octet_16 hs (by omega) (S_X10_octet_22 ?_)) (fun c => by omega))
    exact callee_b (by decide +kernel) (Nat.le_of_ble_eq_true rfl) rfl (S_X11_octet_0 hk (fun c => by omega) (fun _ => S_X11_octet_4 hk (by omega) (fun c => by omega) (fun _ => S_X11_octet_12 hs (by omega) (S_X11_octet_22 ⟨(a4 k g.1 g.2).symm, h⟩))))
  · have r2 : PN X 0 mX11_octet 21 [] [] I R (fun v' I2 R2 => v'.2 = -1 ∧ Sim I2 R2) := S_X11_octet_21 (S_X11_octet_22 ⟨rfl, h⟩)
    have r1 : PN X 0 mX10_octet 12 [] [] I R (fun v I1 R1 => CN X 0 mX11_octet [(2, 306), (0, k)] I1 R1 (fun v' I2 R2 => v'.2 = v.2 ∧ Sim I2 R2)) :=
      S_X10_octet_12 (S_X10_octet_22 (callee_b (by decide +kernel) (Nat.le_of_ble_eq_true rfl) rfl (S_X11_octet_0 hk (fun _ => r2) (fun _ => S_X11_octet_4 hk (by omega) (fun _ => r2) (fun c => by omega)))))
    exact S_X10_octet_0 hk (fun _ => r1) (fun _ => S_X10_octet_4 hk (by omega) (fun c => by omega) (fun _ => r1))
theorem b_status {X : CX} {I R : PF} {k : Int} (h : Sim I R) (hk : inR k) : Both X 0 2 mX10_status mX11_status [(0, k)] I R := by
  have hs := h.1
  have a1 := h.2.2.2.1.1
  have m : ∀ v, v = (if 0 ≤ k ∧ k ≤ 5 then I 308 k else -1) → CN X 2 mX11_status [(2, 306), (0, k)] I R (fun v' I2 R2 => v'.2 = v ∧ Sim I2 R2) := fun v hv => by
    refine callee_b (by decide +kernel) (Nat.le_of_ble_eq_true rfl) rfl ?_
    refine S_X11_status_0 (d1 := 1) hk (by omega) (c_isIn hk (by decide) (by decide)) (fun z I1 R1 q => ?_)
    obtain ⟨(hz : z = _), rfl, rfl⟩ := q
    have b := bi_r (0 ≤ k ∧ k ≤ 5)
    refine S_X11_status_9 (by omega) (fun g => ?_) (fun g => ?_)
    · have c := bi_0 (hz.symm.trans g)
      rw [if_neg c] at hv
      exact S_X11_status_21 (S_X11_status_22 ⟨hv.symm, h⟩)
    · have c := bi_1 (by rw [← hz]; exact g)
      rw [if_pos c] at hv
      exact S_X11_status_12 hs (by omega) (S_X11_status_22 ⟨hv.symm, h⟩)
  refine callee_b (by decide +kernel) (Nat.le_of_ble_eq_true rfl) rfl ?_
  refine S_X10_status_0 hk (fun g => S_X10_status_13 (S_X10_status_23 (m _ (by rw [if_neg (by omega)])))) (fun g => ?_)
  refine S_X10_status_4 hs hk (fun g2 => S_X10_status_17 hs ⟨g, g2⟩ (S_X10_status_23 (m _ (by rw [if_pos (by omega)]; exact a1 k)))) (fun g2 => S_X10_status_13 (S_X10_status_23 (m _ (by rw [if_neg (by omega)]))))
theorem b_seed {X : CX} {I R : PF} {s : Int} (h : Sim I R) (hk : inR s) : Both X 0 0 mX10_seed mX11_seed [(0, s)] I R := by
  have hs := h.1
  refine callee_b (by decide +kernel) (Nat.le_of_ble_eq_true rfl) rfl ?_
  refine S_X10_seed_0 hk (fun g => ?_) (fun g => ?_)
  · refine S_X10_seed_16 hs hk ?_
    refine callee_b (by decide +kernel) (Nat.le_of_ble_eq_true rfl) rfl ?_
    refine S_X11_seed_0 hk (fun _ => S_X11_seed_16 hk ⟨rfl, ?_⟩) (fun c => by omega)
    obtain ⟨p, o, hp⟩ := h.plc
    have f : FR (fun x y => (x = 303 ∧ y = 0) ∨ (x = 306 ∧ y = 78)) I (u2 (u2 I 303 0 s) 306 78 s) := (FR_u2 (Or.inl ⟨rfl, rfl⟩)).tr (FR_u2 (Or.inr ⟨rfl, rfl⟩))
    have v1 : u2 (u2 I 303 0 s) 306 78 s 306 78 = s := u2_at
    have v2 : u2 (u2 I 303 0 s) 306 78 s 303 0 = s := by rw [u2_o (by decide), u2_at]
    generalize u2 (u2 I 303 0 s) 306 78 s = J at f v1 v2
    obtain ⟨a1, a2, a3, a4, a5, a6, a7⟩ := h.2.2.2.1
    refine h.up hp (f.mono (fun x y c => by unfold scA smC; omega)) FR.rf (h.2.2.1.cg (fun x y c => f x y (fun d => by omega))) ⟨fun j => ?_, ?_, ⟨by rw [v1, v2], by rw [v1]; unfold sdR; unfold inR at hk; omega⟩, ?_, ?_, ?_, ?_⟩
    · rw [f 66 j (fun d => by omega), f 308 j (fun d => by omega)]; exact a1 j
    · rw [f 64 3 (fun c => by omega), f 64 4 (fun c => by omega), f 306 7 (fun c => by omega), f 306 8 (fun c => by omega)]; exact a2
    · rw [f 64 19 (fun c => by omega), f 306 114 (fun c => by omega)]
      refine ⟨a4.1, a4.2.1, a4.2.2.1, fun k k0 k1 => ?_⟩
      rw [f 305 k (fun c => by omega), f 382 k (fun c => by omega)]; exact a4.2.2.2 k k0 k1
    · rw [f 306 72 (fun c => by omega)]; exact a5
    · rw [f 131 5 (fun c => by omega)]; exact a6
    · rw [f 136 4 (fun c => by omega), f 306 77 (fun c => by omega)]; exact a7
  · refine S_X10_seed_4 hs ?_
    exact callee_b (by decide +kernel) (Nat.le_of_ble_eq_true rfl) rfl (S_X11_seed_0 hk (fun c => by omega) (fun _ => S_X11_seed_4 hs ⟨rfl, h.rf 5⟩))
