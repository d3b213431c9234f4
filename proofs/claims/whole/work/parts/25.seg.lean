theorem S_X10_see_0 {X : CX} {d d1 : Nat} {I R : PF} {Q Q1 : PV → PF → PF → Prop} (e1 : d1 + 1 ≤ d) (hc : CN X d1 mX10_takeTape [(2, 64)] I R Q1) (h : ∀ z I2 R2, Q1 (0, z) I2 R2 → PN X d mX10_see 4 [(2, 64)] [(0, z)] I2 R2 Q) : PN X d mX10_see 0 [(2, 64)] [] I R Q := by
  refine P_aload_n (n := 0) (q := 1) rfl rfl (by decide +kernel) ?_
  refine P_invV (As := []) (q := 4) oX10_takeTape rfl kM64 kX10_119 e1 hMF (Nat.le_of_ble_eq_true rfl) hc rfl (by decide +kernel) (fun z I2 R2 hq => ?_)
  exact (h z I2 R2 hq)
theorem S_X10_see_4 {X : CX} {d d1 : Nat} {o0 : Int} {I R : PF} {Q Q1 : PV → PF → PF → Prop} (e1 : d1 + 1 ≤ d) (hc : CN X d1 mX10_isTold [(2, 64)] I R Q1) (h : ∀ z I2 R2, Q1 (0, z) I2 R2 → PN X d mX10_see 9 [(2, 64), (0, o0)] [(0, z)] I2 R2 Q) : PN X d mX10_see 4 [(2, 64)] [(0, o0)] I R Q := by
  refine P_istore_n (n := 1) (by decide) (q := 5) rfl (by decide +kernel) ?_
  refine P_aload_n (n := 0) (q := 6) rfl rfl (by decide +kernel) ?_
  refine P_invV (As := []) (q := 9) oX10_isTold rfl kM64 kX10_208 e1 hMF (Nat.le_of_ble_eq_true rfl) hc rfl (by decide +kernel) (fun z I2 R2 hq => ?_)
  exact (h z I2 R2 hq)
theorem S_X10_see_9 {X : CX} {d : Nat} {x1 o0 : Int} {I R : PF} {Q : PV → PF → PF → Prop} (c1 : -2147483648 ≤ o0 ∧ o0 < 2147483648) (h1 : o0 = 0 → PN X d mX10_see 35 [(2, 64)] [] I R Q) (h2 : o0 ≠ 0 → PN X d mX10_see 12 [(2, 64), (0, x1)] [] I R Q) : PN X d mX10_see 9 [(2, 64), (0, x1)] [(0, o0)] I R Q := by
  refine B_if_eq (off := 26) (t := 35) (q := 12) c1 (by decide) rfl (by decide +kernel) ?_ ?_
  · exact fun g9 => (PW_sub (ls' := [(2, 64)]) ⟨Or.inr rfl, trivial⟩ (h1 g9))
  · exact fun g9 => (h2 g9)
theorem S_X10_see_12 {X : CX} {d d1 : Nat} {x1 : Int} {I R : PF} {Q Q1 : PV → PF → PF → Prop} (e1 : d1 + 1 ≤ d) (hc : CN X d1 mX10_areLaws [(2, 64), (0, x1)] I R Q1) (h : ∀ z I2 R2, Q1 (0, z) I2 R2 → PN X d mX10_see 17 [(2, 64), (0, x1)] [(0, z)] I2 R2 Q) : PN X d mX10_see 12 [(2, 64), (0, x1)] [] I R Q := by
  refine P_aload_n (n := 0) (q := 13) rfl rfl (by decide +kernel) ?_
  refine P_iload_n (n := 1) (q := 14) rfl rfl (by decide +kernel) ?_
  refine P_invV (As := [(0, x1)]) (q := 17) oX10_areLaws rfl kM64 kX10_291 e1 hMF (Nat.le_of_ble_eq_true rfl) hc rfl (by decide +kernel) (fun z I2 R2 hq => ?_)
  exact (h z I2 R2 hq)
theorem S_X10_see_17 {X : CX} {d : Nat} {x1 o0 : Int} {I R : PF} {Q : PV → PF → PF → Prop} (c1 : -2147483648 ≤ o0 ∧ o0 < 2147483648) (h1 : o0 = 0 → PN X d mX10_see 35 [(2, 64)] [] I R Q) (h2 : o0 ≠ 0 → PN X d mX10_see 20 [(2, 64), (0, x1)] [] I R Q) : PN X d mX10_see 17 [(2, 64), (0, x1)] [(0, o0)] I R Q := by
  refine B_if_eq (off := 18) (t := 35) (q := 20) c1 (by decide) rfl (by decide +kernel) ?_ ?_
  · exact fun g9 => (PW_sub (ls' := [(2, 64)]) ⟨Or.inr rfl, trivial⟩ (h1 g9))
  · exact fun g9 => (h2 g9)
theorem S_X10_see_20 {X : CX} {d : Nat} {x1 : Int} {I R : PF} {Q : PV → PF → PF → Prop} (hs : Shp R) (c1 : -2147483648 ≤ ((I 111 0) + x1) ∧ ((I 111 0) + x1) < 2147483648) (h1 : ((I 111 0) + x1) ≤ 999 → PN X d mX10_see 47 [(2, 64), (0, x1)] [] I R Q) (h2 : 999 < ((I 111 0) + x1) → PN X d mX10_see 35 [(2, 64)] [] I R Q) : PN X d mX10_see 20 [(2, 64), (0, x1)] [] I R Q := by
  refine P_aload_n (n := 0) (q := 21) rfl rfl (by decide +kernel) ?_
  refine B_getfR (q := 24) fX10_73 kM64 (rM64_11 hs) rfl (by decide +kernel) ?_
  refine P_getf (q := 27) fX10_157 kM111 rfl (by decide +kernel) ?_
  refine P_iload_n (n := 1) (q := 28) rfl rfl (by decide +kernel) ?_
  refine P_iadd (q := 29) rfl (by decide +kernel) ?_
  refine P_sipush (n := 999) (q := 32) rfl rfl (by decide +kernel) ?_
  refine B_icmp_le (off := 15) (t := 47) (q := 35) c1 ⟨by decide, by decide⟩ (by decide) rfl (by decide +kernel) ?_ ?_
  · exact fun g9 => (h1 g9)
  · exact fun g9 => (PW_sub (ls' := [(2, 64)]) ⟨Or.inr rfl, trivial⟩ (h2 g9))
theorem S_X10_see_35 {X : CX} {d : Nat} {I R : PF} {Q : PV → PF → PF → Prop} (hs : Shp R) (h : Q (0, (-1)) (u2 I 66 1 ((I 66 1) + 1)) R) : PN X d mX10_see 35 [(2, 64)] [] I R Q := by
  refine P_aload_n (n := 0) (q := 36) rfl rfl (by decide +kernel) ?_
  refine B_getfR (q := 39) fX10_17 kM64 (rM64_2 hs) rfl (by decide +kernel) ?_
  refine P_iconst (n := 1) (q := 40) rfl (by decide +kernel) ?_
  refine P_dup2 (q := 41) (Nat.ne_of_beq_eq_false rfl) (Nat.ne_of_beq_eq_false rfl) rfl (by decide +kernel) ?_
  refine B_iaload (q := 42) kM66 nM66 (by decide) ⟨by decide, by decide⟩ rfl (by decide +kernel) ?_
  refine P_iconst (n := 1) (q := 43) rfl (by decide +kernel) ?_
  refine P_iadd (q := 44) rfl (by decide +kernel) ?_
  refine B_iastore (q := 45) kM66 nM66 (by decide) ⟨by decide, by decide⟩ rfl (by decide +kernel) ?_
  refine P_iconst (n := (-1)) (q := 46) rfl (by decide +kernel) ?_
  refine P_iret rfl (by decide +kernel) h
theorem S_X10_see_47 {X : CX} {d : Nat} {x1 : Int} {I R : PF} {Q : PV → PF → PF → Prop} (hs : Shp R) (b1 : 0 ≤ (0 : Int) ∧ 0 ≤ (0 : Int) ∧ 0 ≤ (x1 : Int) ∧ (0 : Int) + (x1 : Int) ≤ 1600 ∧ (0 : Int) + (x1 : Int) ≤ 7) (e1 : 1 ≤ d) (h : Q (0, x1) (u2 (fun x j => if x = 304 ∧ 0 ≤ j ∧ j < 0 + x1 then I 65 (0 + (j - 0)) else I x j) 64 17 x1) R) : PN X d mX10_see 47 [(2, 64), (0, x1)] [] I R Q := by
  refine P_aload_n (n := 0) (q := 48) rfl rfl (by decide +kernel) ?_
  refine B_getfR (q := 51) fX10_9 kM64 (rM64_0 hs) rfl (by decide +kernel) ?_
  refine P_iconst (n := 0) (q := 52) rfl (by decide +kernel) ?_
  refine P_aload_n (n := 0) (q := 53) rfl rfl (by decide +kernel) ?_
  refine B_getfR (q := 56) fX10_103 kM64 (rM64_16 hs) rfl (by decide +kernel) ?_
  refine P_iconst (n := 0) (q := 57) rfl (by decide +kernel) ?_
  refine P_iload_n (n := 1) (q := 58) rfl rfl (by decide +kernel) ?_
  refine B_copy (q := 61) kM65 kM304 nM65 nM304 (by decide) (by decide) b1 (tGp5 11 rfl rfl) (tGp4 6 rfl rfl) (tGp4 5 rfl rfl) (tGp1 16 rfl rfl) e1 (Nat.le_of_ble_eq_true rfl) rfl (by decide +kernel) ?_
  refine P_aload_n (n := 0) (q := 62) rfl rfl (by decide +kernel) ?_
  refine P_iload_n (n := 1) (q := 63) rfl rfl (by decide +kernel) ?_
  refine P_putI (q := 66) wX10_106 (fun h => by cases h) kM64 rfl (by decide +kernel) ?_
  refine P_iload_n (n := 1) (q := 67) rfl rfl (by decide +kernel) ?_
  refine P_iret rfl (by decide +kernel) h
theorem S_X10_seed_0 {X : CX} {d : Nat} {x1 : Int} {I R : PF} {Q : PV → PF → PF → Prop} (c1 : -2147483648 ≤ x1 ∧ x1 < 2147483648) (h1 : 0 ≤ x1 → PN X d mX10_seed 16 [(2, 64), (0, x1)] [] I R Q) (h2 : x1 < 0 → PN X d mX10_seed 4 [(2, 64)] [] I R Q) : PN X d mX10_seed 0 [(2, 64), (0, x1)] [] I R Q := by
  refine P_iload_n (n := 1) (q := 1) rfl rfl (by decide +kernel) ?_
  refine B_if_ge (off := 15) (t := 16) (q := 4) c1 (by decide) rfl (by decide +kernel) ?_ ?_
  · exact fun g9 => (h1 g9)
  · exact fun g9 => (PW_sub (ls' := [(2, 64)]) ⟨Or.inr rfl, trivial⟩ (h2 g9))
theorem S_X10_seed_4 {X : CX} {d : Nat} {I R : PF} {Q : PV → PF → PF → Prop} (hs : Shp R) (h : Q (0, 0) (u2 I 66 5 ((I 66 5) + 1)) R) : PN X d mX10_seed 4 [(2, 64)] [] I R Q := by
  refine P_aload_n (n := 0) (q := 5) rfl rfl (by decide +kernel) ?_
  refine B_getfR (q := 8) fX10_17 kM64 (rM64_2 hs) rfl (by decide +kernel) ?_
  refine P_iconst (n := 5) (q := 9) rfl (by decide +kernel) ?_
  refine P_dup2 (q := 10) (Nat.ne_of_beq_eq_false rfl) (Nat.ne_of_beq_eq_false rfl) rfl (by decide +kernel) ?_
  refine B_iaload (q := 11) kM66 nM66 (by decide) ⟨by decide, by decide⟩ rfl (by decide +kernel) ?_
  refine P_iconst (n := 1) (q := 12) rfl (by decide +kernel) ?_
  refine P_iadd (q := 13) rfl (by decide +kernel) ?_
  refine B_iastore (q := 14) kM66 nM66 (by decide) ⟨by decide, by decide⟩ rfl (by decide +kernel) ?_
  refine P_iconst (n := 0) (q := 15) rfl (by decide +kernel) ?_
  refine P_zret rfl (Or.inl rfl) (by decide +kernel) h
theorem S_X10_seed_16 {X : CX} {d : Nat} {x1 : Int} {I R : PF} {Q : PV → PF → PF → Prop} (hs : Shp R) (c1 : -2147483648 ≤ x1 ∧ x1 < 2147483648) (h : Q (0, 1) (u2 I 303 0 x1) R) : PN X d mX10_seed 16 [(2, 64), (0, x1)] [] I R Q := by
  refine P_aload_n (n := 0) (q := 17) rfl rfl (by decide +kernel) ?_
  refine B_getfR (q := 20) fX10_99 kM64 (rM64_15 hs) rfl (by decide +kernel) ?_
  refine P_iload_n (n := 1) (q := 21) rfl rfl (by decide +kernel) ?_
  refine B_i2l (q := 22) c1 rfl (by decide +kernel) ?_
  refine P_putL (q := 25) wX10_337 (fun h => by cases h) kM303 rfl (by decide +kernel) ?_
  refine P_iconst (n := 1) (q := 26) rfl (by decide +kernel) ?_
  refine P_zret rfl (Or.inr rfl) (by decide +kernel) h
theorem S_X10_square_0 {X : CX} {d d1 : Nat} {I R : PF} {Q Q1 : PV → PF → PF → Prop} (hs : Shp R) (e1 : d1 + 1 ≤ d) (hc : CN X d1 mX10_takeTape [(2, 64)] I R Q1) (h : ∀ z I2 R2, Q1 (0, z) I2 R2 → PN X d mX10_square 8 [(2, 64)] [(0, z), (2, 110)] I2 R2 Q) : PN X d mX10_square 0 [(2, 64)] [] I R Q := by
  refine P_aload_n (n := 0) (q := 1) rfl rfl (by decide +kernel) ?_
  refine B_getfR (q := 4) fX10_66 kM64 (rM64_10 hs) rfl (by decide +kernel) ?_
  refine P_aload_n (n := 0) (q := 5) rfl rfl (by decide +kernel) ?_
  refine P_invV (As := []) (q := 8) oX10_takeTape rfl kM64 kX10_119 e1 hMF (Nat.le_of_ble_eq_true rfl) hc rfl (by decide +kernel) (fun z I2 R2 hq => ?_)
  exact (h z I2 R2 hq)
theorem S_X10_square_8 {X : CX} {d d1 : Nat} {o1 t1 : Int} {I R : PF} {Q Q1 : PV → PF → PF → Prop} (r1 : R 64 9 = t1) (e1 : d1 + 1 ≤ d) (hc : CN X d1 mX7_read [(2, 110), (0, o1), (2, t1)] I R Q1) (h : ∀ z I2 R2, Q1 (0, z) I2 R2 → PN X d mX10_square 15 [(2, 64)] [(0, z)] I2 R2 Q) : PN X d mX10_square 8 [(2, 64)] [(0, o1), (2, 110)] I R Q := by
  refine P_aload_n (n := 0) (q := 9) rfl rfl (by decide +kernel) ?_
  refine B_getfR (q := 12) fX10_58 kM64 r1 rfl (by decide +kernel) ?_
  refine P_invV (As := [(0, o1), (2, t1)]) (q := 15) oX7_read rfl kM110 kX10_123 e1 hMF (Nat.le_of_ble_eq_true rfl) hc rfl (by decide +kernel) (fun z I2 R2 hq => ?_)
  exact (h z I2 R2 hq)
theorem S_X10_square_15 {X : CX} {d d1 : Nat} {o0 : Int} {I R : PF} {Q Q1 : PV → PF → PF → Prop} (e1 : d1 + 1 ≤ d) (hc : CN X d1 mX10_keepFault [(2, 64)] I R Q1) (h : ∀ z I2 R2, Q1 (9, z) I2 R2 → PN X d mX10_square 20 [(2, 64), (0, o0)] [] I2 R2 Q) : PN X d mX10_square 15 [(2, 64)] [(0, o0)] I R Q := by
  refine P_istore_n (n := 1) (by decide) (q := 16) rfl (by decide +kernel) ?_
  refine P_aload_n (n := 0) (q := 17) rfl rfl (by decide +kernel) ?_
  refine P_invV (As := []) (q := 20) oX10_keepFault rfl kM64 kX10_127 e1 hMF (Nat.le_of_ble_eq_true rfl) hc rfl (by decide +kernel) (fun z I2 R2 hq => ?_)
  exact (h z I2 R2 hq)
theorem S_X10_square_20 {X : CX} {d : Nat} {x1 : Int} {I R : PF} {Q : PV → PF → PF → Prop} (c1 : -2147483648 ≤ x1 ∧ x1 < 2147483648) (h1 : x1 ≠ (-1) → PN X d mX10_square 37 [(2, 64), (0, x1)] [] I R Q) (h2 : x1 = (-1) → PN X d mX10_square 25 [(2, 64)] [] I R Q) : PN X d mX10_square 20 [(2, 64), (0, x1)] [] I R Q := by
  refine P_iload_n (n := 1) (q := 21) rfl rfl (by decide +kernel) ?_
  refine P_iconst (n := (-1)) (q := 22) rfl (by decide +kernel) ?_
  refine B_icmp_ne (off := 15) (t := 37) (q := 25) c1 ⟨by decide, by decide⟩ (by decide) rfl (by decide +kernel) ?_ ?_
  · exact fun g9 => (h1 g9)
  · exact fun g9 => (PW_sub (ls' := [(2, 64)]) ⟨Or.inr rfl, trivial⟩ (h2 g9))
theorem S_X10_square_25 {X : CX} {d : Nat} {I R : PF} {Q : PV → PF → PF → Prop} (hs : Shp R) (h : Q (0, (-1)) (u2 I 66 1 ((I 66 1) + 1)) R) : PN X d mX10_square 25 [(2, 64)] [] I R Q := by
  refine P_aload_n (n := 0) (q := 26) rfl rfl (by decide +kernel) ?_
  refine B_getfR (q := 29) fX10_17 kM64 (rM64_2 hs) rfl (by decide +kernel) ?_
  refine P_iconst (n := 1) (q := 30) rfl (by decide +kernel) ?_
  refine P_dup2 (q := 31) (Nat.ne_of_beq_eq_false rfl) (Nat.ne_of_beq_eq_false rfl) rfl (by decide +kernel) ?_
  refine B_iaload (q := 32) kM66 nM66 (by decide) ⟨by decide, by decide⟩ rfl (by decide +kernel) ?_
  refine P_iconst (n := 1) (q := 33) rfl (by decide +kernel) ?_
  refine P_iadd (q := 34) rfl (by decide +kernel) ?_
  refine B_iastore (q := 35) kM66 nM66 (by decide) ⟨by decide, by decide⟩ rfl (by decide +kernel) ?_
  refine P_iconst (n := (-1)) (q := 36) rfl (by decide +kernel) ?_
  refine P_iret rfl (by decide +kernel) h
theorem S_X10_square_37 {X : CX} {d d1 : Nat} {x1 t1 t2 t3 t4 t5 : Int} {I R : PF} {Q Q1 : PV → PF → PF → Prop} (r1 : R 64 8 = t1) (r2 : R 64 9 = t2) (r3 : (u2 (u2 R 64 8 t2) 64 9 t1) 64 11 = t3) (r4 : (u2 (u2 R 64 8 t2) 64 9 t1) 64 8 = t4) (k1 : kd MF t4 = 6) (r5 : (u2 (u2 R 64 8 t2) 64 9 t1) t4 14 = t5) (e1 : d1 + 1 ≤ d) (hc : CN X d1 mX8_copyFrom [(2, t3), (2, t5)] I (u2 (u2 R 64 8 t2) 64 9 t1) Q1) (k2 : kd MF t3 = 8) (h : ∀ z I2 R2, Q1 (9, z) I2 R2 → PN X d mX10_square 69 [(2, 64), (0, x1)] [] I2 R2 Q) : PN X d mX10_square 37 [(2, 64), (0, x1)] [] I R Q := by
  refine P_aload_n (n := 0) (q := 38) rfl rfl (by decide +kernel) ?_
  refine B_getfR (q := 41) fX10_54 kM64 r1 rfl (by decide +kernel) ?_
  refine P_astore_n (n := 2) (by decide) (q := 42) rfl (by decide +kernel) ?_
  refine P_aload_n (n := 0) (q := 43) rfl rfl (by decide +kernel) ?_
  refine P_aload_n (n := 0) (q := 44) rfl rfl (by decide +kernel) ?_
  refine B_getfR (q := 47) fX10_58 kM64 r2 rfl (by decide +kernel) ?_
  refine P_putR (q := 50) wX10_54 rfl (fun h => by cases h) kM64 rfl (by decide +kernel) ?_
  refine P_aload_n (n := 0) (q := 51) rfl rfl (by decide +kernel) ?_
  refine P_aload_n (n := 2) (q := 52) rfl rfl (by decide +kernel) ?_
  refine P_putR (q := 55) wX10_58 rfl (fun h => by cases h) kM64 rfl (by decide +kernel) ?_
  refine P_aload_n (n := 0) (q := 56) rfl rfl (by decide +kernel) ?_
  refine B_getfR (q := 59) fX10_73 kM64 r3 rfl (by decide +kernel) ?_
  refine P_aload_n (n := 0) (q := 60) rfl rfl (by decide +kernel) ?_
  refine B_getfR (q := 63) fX10_54 kM64 r4 rfl (by decide +kernel) ?_
  refine B_getfR (q := 66) fX10_130 k1 r5 rfl (by decide +kernel) ?_
  refine P_invV (As := [(2, t5)]) (q := 69) oX8_copyFrom rfl k2 kX10_133 e1 hMF (Nat.le_of_ble_eq_true rfl) hc rfl (by decide +kernel) (fun z I2 R2 hq => ?_)
  exact (PW_sub (ls' := [(2, 64), (0, x1)]) ⟨Or.inr rfl, Or.inr rfl, trivial⟩ (h z I2 R2 hq))
theorem S_X10_square_69 {X : CX} {d d1 : Nat} {x1 : Int} {I R : PF} {Q Q1 : PV → PF → PF → Prop} (hs : Shp R) (e1 : d1 + 1 ≤ d) (hc : CN X d1 mX4_forget [(2, 136)] I R Q1) (h : ∀ z I2 R2, Q1 (9, z) I2 R2 → PN X d mX10_square 76 [(2, 64), (0, x1)] [] I2 R2 Q) : PN X d mX10_square 69 [(2, 64), (0, x1)] [] I R Q := by
  refine P_aload_n (n := 0) (q := 70) rfl rfl (by decide +kernel) ?_
  refine B_getfR (q := 73) fX10_92 kM64 (rM64_14 hs) rfl (by decide +kernel) ?_
  refine P_invV (As := []) (q := 76) oX4_forget rfl kM136 kX10_137 e1 hMF (Nat.le_of_ble_eq_true rfl) hc rfl (by decide +kernel) (fun z I2 R2 hq => ?_)
  exact (PW_sub (ls' := [(2, 64), (0, x1)]) ⟨Or.inr rfl, Or.inr rfl, trivial⟩ (h z I2 R2 hq))
theorem S_X10_square_76 {X : CX} {d : Nat} {x1 : Int} {I R : PF} {Q : PV → PF → PF → Prop} (h : Q (0, x1) (u2 I 64 17 0) R) : PN X d mX10_square 76 [(2, 64), (0, x1)] [] I R Q := by
  refine P_aload_n (n := 0) (q := 77) rfl rfl (by decide +kernel) ?_
  refine P_iconst (n := 0) (q := 78) rfl (by decide +kernel) ?_
  refine P_putI (q := 81) wX10_106 (fun h => by cases h) kM64 rfl (by decide +kernel) ?_
  refine P_iload_n (n := 1) (q := 82) rfl rfl (by decide +kernel) ?_
  refine P_iret rfl (by decide +kernel) h
theorem S_X10_stand_0 {X : CX} {d d1 : Nat} {x1 x2 : Int} {I R : PF} {Q Q1 : PV → PF → PF → Prop} (hs : Shp R) (e1 : d1 + 1 ≤ d) (hc : CN X d1 mX8_knows [(2, 111), (0, x1)] I R Q1) (h : ∀ z I2 R2, Q1 (0, z) I2 R2 → PN X d mX10_stand 8 [(2, 64), (0, x1), (0, x2)] [(0, z)] I2 R2 Q) : PN X d mX10_stand 0 [(2, 64), (0, x1), (0, x2)] [] I R Q := by
  refine P_aload_n (n := 0) (q := 1) rfl rfl (by decide +kernel) ?_
  refine B_getfR (q := 4) fX10_73 kM64 (rM64_11 hs) rfl (by decide +kernel) ?_
  refine P_iload_n (n := 1) (q := 5) rfl rfl (by decide +kernel) ?_
  refine P_invV (As := [(0, x1)]) (q := 8) oX8_knows rfl kM111 kX10_187 e1 hMF (Nat.le_of_ble_eq_true rfl) hc rfl (by decide +kernel) (fun z I2 R2 hq => ?_)
  exact (h z I2 R2 hq)
theorem S_X10_stand_8 {X : CX} {d : Nat} {x1 x2 o0 : Int} {I R : PF} {Q : PV → PF → PF → Prop} (c1 : -2147483648 ≤ o0 ∧ o0 < 2147483648) (h1 : o0 = 0 → PN X d mX10_stand 20 [] [] I R Q) (h2 : o0 ≠ 0 → PN X d mX10_stand 11 [(2, 64), (0, x1), (0, x2)] [] I R Q) : PN X d mX10_stand 8 [(2, 64), (0, x1), (0, x2)] [(0, o0)] I R Q := by
  refine B_if_eq (off := 12) (t := 20) (q := 11) c1 (by decide) rfl (by decide +kernel) ?_ ?_
  · exact fun g9 => (PW_sub (ls' := []) trivial (h1 g9))
  · exact fun g9 => (h2 g9)
theorem S_X10_stand_11 {X : CX} {d : Nat} {x1 x2 : Int} {I R : PF} {Q : PV → PF → PF → Prop} (c1 : -2147483648 ≤ x2 ∧ x2 < 2147483648) (h1 : x2 < 0 → PN X d mX10_stand 20 [] [] I R Q) (h2 : 0 ≤ x2 → PN X d mX10_stand 15 [(2, 64), (0, x1), (0, x2)] [] I R Q) : PN X d mX10_stand 11 [(2, 64), (0, x1), (0, x2)] [] I R Q := by
  refine P_iload_n (n := 2) (q := 12) rfl rfl (by decide +kernel) ?_
  refine B_if_lt (off := 8) (t := 20) (q := 15) c1 (by decide) rfl (by decide +kernel) ?_ ?_
  · exact fun g9 => (PW_sub (ls' := []) trivial (h1 g9))
  · exact fun g9 => (h2 g9)
theorem S_X10_stand_15 {X : CX} {d : Nat} {x1 x2 : Int} {I R : PF} {Q : PV → PF → PF → Prop} (c1 : -2147483648 ≤ x2 ∧ x2 < 2147483648) (h1 : x2 ≤ 2 → PN X d mX10_stand 22 [(2, 64), (0, x1), (0, x2)] [] I R Q) (h2 : 2 < x2 → PN X d mX10_stand 20 [] [] I R Q) : PN X d mX10_stand 15 [(2, 64), (0, x1), (0, x2)] [] I R Q := by
  refine P_iload_n (n := 2) (q := 16) rfl rfl (by decide +kernel) ?_
  refine P_iconst (n := 2) (q := 17) rfl (by decide +kernel) ?_
  refine B_icmp_le (off := 5) (t := 22) (q := 20) c1 ⟨by decide, by decide⟩ (by decide) rfl (by decide +kernel) ?_ ?_
  · exact fun g9 => (h1 g9)
  · exact fun g9 => (PW_sub (ls' := []) trivial (h2 g9))
theorem S_X10_stand_20 {X : CX} {d : Nat} {I R : PF} {Q : PV → PF → PF → Prop} (h : Q (0, (-1)) I R) : PN X d mX10_stand 20 [] [] I R Q := by
  refine P_iconst (n := (-1)) (q := 21) rfl (by decide +kernel) ?_
  refine P_iret rfl (by decide +kernel) h
theorem S_X10_stand_22 {X : CX} {d d1 : Nat} {x1 x2 : Int} {I R : PF} {Q Q1 : PV → PF → PF → Prop} (hs : Shp R) (e1 : d1 + 1 ≤ d) (hc : CN X d1 mX8_copyFrom [(2, 119), (2, 111)] I R Q1) (h : ∀ z I2 R2, Q1 (9, z) I2 R2 → PN X d mX10_stand 33 [(2, 64), (0, x1), (0, x2)] [] I2 R2 Q) : PN X d mX10_stand 22 [(2, 64), (0, x1), (0, x2)] [] I R Q := by
  refine P_aload_n (n := 0) (q := 23) rfl rfl (by decide +kernel) ?_
  refine B_getfR (q := 26) fX10_77 kM64 (rM64_12 hs) rfl (by decide +kernel) ?_
  refine P_aload_n (n := 0) (q := 27) rfl rfl (by decide +kernel) ?_
  refine B_getfR (q := 30) fX10_73 kM64 (rM64_11 hs) rfl (by decide +kernel) ?_
  refine P_invV (As := [(2, 111)]) (q := 33) oX8_copyFrom rfl kM119 kX10_133 e1 hMF (Nat.le_of_ble_eq_true rfl) hc rfl (by decide +kernel) (fun z I2 R2 hq => ?_)
  exact (h z I2 R2 hq)
theorem S_X10_stand_33 {X : CX} {d d1 : Nat} {x1 x2 t1 : Int} {I R : PF} {Q Q1 : PV → PF → PF → Prop} (hs : Shp R) (r1 : R 64 8 = t1) (e1 : d1 + 1 ≤ d) (hc : CN X d1 mX1_prepare [(2, 127), (2, t1), (2, 119), (0, (I 111 0)), (2, 0)] I R Q1) (h : ∀ z I2 R2, Q1 (9, z) I2 R2 → PN X d mX10_stand 56 [(2, 64), (0, x1), (0, x2)] [] I2 R2 Q) : PN X d mX10_stand 33 [(2, 64), (0, x1), (0, x2)] [] I R Q := by
  refine P_aload_n (n := 0) (q := 34) rfl rfl (by decide +kernel) ?_
  refine B_getfR (q := 37) fX10_85 kM64 (rM64_13 hs) rfl (by decide +kernel) ?_
  refine P_aload_n (n := 0) (q := 38) rfl rfl (by decide +kernel) ?_
  refine B_getfR (q := 41) fX10_54 kM64 r1 rfl (by decide +kernel) ?_
  refine P_aload_n (n := 0) (q := 42) rfl rfl (by decide +kernel) ?_
  refine B_getfR (q := 45) fX10_77 kM64 (rM64_12 hs) rfl (by decide +kernel) ?_
  refine P_aload_n (n := 0) (q := 46) rfl rfl (by decide +kernel) ?_
  refine B_getfR (q := 49) fX10_73 kM64 (rM64_11 hs) rfl (by decide +kernel) ?_
  refine P_getf (q := 52) fX10_157 kM111 rfl (by decide +kernel) ?_
  refine P_anull (q := 53) rfl (by decide +kernel) ?_
  refine P_invV (As := [(2, t1), (2, 119), (0, (I 111 0)), (2, 0)]) (q := 56) oX1_prepare rfl kM127 kX10_215 e1 hMF (Nat.le_of_ble_eq_true rfl) hc rfl (by decide +kernel) (fun z I2 R2 hq => ?_)
  exact (h z I2 R2 hq)
theorem S_X10_stand_56 {X : CX} {d : Nat} {x1 x2 : Int} {I R : PF} {Q : PV → PF → PF → Prop} (h : PN X d mX10_stand 64 [(2, 64), (0, x1), (0, x2), (0, (-1)), (0, 0), (0, 0)] [] I R Q) : PN X d mX10_stand 56 [(2, 64), (0, x1), (0, x2)] [] I R Q := by
  refine P_iconst (n := (-1)) (q := 57) rfl (by decide +kernel) ?_
  refine P_istore_n (n := 3) (by decide) (q := 58) rfl (by decide +kernel) ?_
  refine P_iconst (n := 0) (q := 59) rfl (by decide +kernel) ?_
  refine P_istore (n := 4) (by decide) (q := 61) rfl (by decide +kernel) ?_
  refine P_iconst (n := 0) (q := 62) rfl (by decide +kernel) ?_
  refine P_istore (n := 5) (by decide) (q := 64) rfl (by decide +kernel) ?_
  exact h
theorem S_X10_stand_64 {X : CX} {d : Nat} {x1 x2 x3 x4 x5 : Int} {I R : PF} {Q : PV → PF → PF → Prop} (c1 : -2147483648 ≤ x5 ∧ x5 < 2147483648) (h1 : 81 ≤ x5 → PN X d mX10_stand 145 [(9, 0), (9, 0), (0, x2), (0, x3), (0, x4)] [] I R Q) (h2 : x5 < 81 → PN X d mX10_stand 71 [(2, 64), (0, x1), (0, x2), (0, x3), (0, x4), (0, x5)] [] I R Q) : PN X d mX10_stand 64 [(2, 64), (0, x1), (0, x2), (0, x3), (0, x4), (0, x5)] [] I R Q := by
  refine P_iload (n := 5) (q := 66) rfl rfl (by decide +kernel) ?_
  refine P_bipush (n := 81) (q := 68) rfl rfl (by decide +kernel) ?_
  refine B_icmp_ge (off := 77) (t := 145) (q := 71) c1 ⟨by decide, by decide⟩ (by decide) rfl (by decide +kernel) ?_ ?_
  · exact fun g9 => (PW_sub (ls' := [(9, 0), (9, 0), (0, x2), (0, x3), (0, x4)]) ⟨Or.inl rfl, Or.inl rfl, Or.inr rfl, Or.inr rfl, Or.inr rfl, trivial⟩ (h1 g9))
  · exact fun g9 => (h2 g9)
theorem S_X10_stand_71 {X : CX} {d d1 : Nat} {x1 x2 x3 x4 x5 : Int} {I R : PF} {Q Q1 : PV → PF → PF → Prop} (c1 : -2147483648 ≤ x5 ∧ x5 < 2147483648) (e1 : d1 + 1 ≤ d) (hc : CN X d1 mX10_canStand [(2, 64), (0, x1), (0, (x5.tmod 9)), (0, (x5.tdiv 9))] I R Q1) (h : ∀ z I2 R2, Q1 (0, z) I2 R2 → PN X d mX10_stand 94 [(2, 64), (0, x1), (0, x2), (0, x3), (0, x4), (0, x5), (0, (x5.tmod 9)), (0, (x5.tdiv 9))] [(0, z)] I2 R2 Q) : PN X d mX10_stand 71 [(2, 64), (0, x1), (0, x2), (0, x3), (0, x4), (0, x5)] [] I R Q := by
  refine P_iload (n := 5) (q := 73) rfl rfl (by decide +kernel) ?_
  refine P_bipush (n := 9) (q := 75) rfl rfl (by decide +kernel) ?_
  refine B_irem (q := 76) c1 ⟨by decide, by decide⟩ (by decide) rfl (by decide +kernel) ?_
  refine P_istore (n := 6) (by decide) (q := 78) rfl (by decide +kernel) ?_
  refine P_iload (n := 5) (q := 80) rfl rfl (by decide +kernel) ?_
  refine P_bipush (n := 9) (q := 82) rfl rfl (by decide +kernel) ?_
  refine B_idiv (q := 83) c1 ⟨by decide, by decide⟩ (by decide) rfl (by decide +kernel) ?_
  refine P_istore (n := 7) (by decide) (q := 85) rfl (by decide +kernel) ?_
  refine P_aload_n (n := 0) (q := 86) rfl rfl (by decide +kernel) ?_
  refine P_iload_n (n := 1) (q := 87) rfl rfl (by decide +kernel) ?_
  refine P_iload (n := 6) (q := 89) rfl rfl (by decide +kernel) ?_
  refine P_iload (n := 7) (q := 91) rfl rfl (by decide +kernel) ?_
  refine P_invV (As := [(0, x1), (0, (x5.tmod 9)), (0, (x5.tdiv 9))]) (q := 94) oX10_canStand rfl kM64 kX10_247 e1 hMF (Nat.le_of_ble_eq_true rfl) hc rfl (by decide +kernel) (fun z I2 R2 hq => ?_)
  exact (h z I2 R2 hq)
theorem S_X10_stand_94 {X : CX} {d : Nat} {x1 x2 x3 x4 x5 x6 x7 o0 : Int} {I R : PF} {Q : PV → PF → PF → Prop} (c1 : -2147483648 ≤ o0 ∧ o0 < 2147483648) (h1 : o0 = 0 → PN X d mX10_stand 139 [(2, 64), (0, x1), (0, x2), (0, x3), (0, x4), (0, x5)] [] I R Q) (h2 : o0 ≠ 0 → PN X d mX10_stand 97 [(2, 64), (0, x1), (0, x2), (0, x3), (0, x4), (0, x5), (0, x6), (0, x7)] [] I R Q) : PN X d mX10_stand 94 [(2, 64), (0, x1), (0, x2), (0, x3), (0, x4), (0, x5), (0, x6), (0, x7)] [(0, o0)] I R Q := by
  refine B_if_eq (off := 45) (t := 139) (q := 97) c1 (by decide) rfl (by decide +kernel) ?_ ?_
  · exact fun g9 => (PW_sub (ls' := [(2, 64), (0, x1), (0, x2), (0, x3), (0, x4), (0, x5)]) ⟨Or.inr rfl, Or.inr rfl, Or.inr rfl, Or.inr rfl, Or.inr rfl, Or.inr rfl, trivial⟩ (h1 g9))
  · exact fun g9 => (h2 g9)
theorem S_X10_stand_97 {X : CX} {d d1 : Nat} {x1 x2 x3 x4 x5 x6 x7 : Int} {I R : PF} {Q Q1 : PV → PF → PF → Prop} (hs : Shp R) (e1 : d1 + 1 ≤ d) (hc : CN X d1 mX8_put [(2, 119), (0, x1), (0, x6), (0, x7)] I R Q1) (h : ∀ z I2 R2, Q1 (9, z) I2 R2 → PN X d mX10_stand 109 [(2, 64), (0, x1), (0, x2), (0, x3), (0, x4), (0, x5)] [] I2 R2 Q) : PN X d mX10_stand 97 [(2, 64), (0, x1), (0, x2), (0, x3), (0, x4), (0, x5), (0, x6), (0, x7)] [] I R Q := by
  refine P_aload_n (n := 0) (q := 98) rfl rfl (by decide +kernel) ?_
  refine B_getfR (q := 101) fX10_77 kM64 (rM64_12 hs) rfl (by decide +kernel) ?_
  refine P_iload_n (n := 1) (q := 102) rfl rfl (by decide +kernel) ?_
  refine P_iload (n := 6) (q := 104) rfl rfl (by decide +kernel) ?_
  refine P_iload (n := 7) (q := 106) rfl rfl (by decide +kernel) ?_
  refine P_invV (As := [(0, x1), (0, x6), (0, x7)]) (q := 109) oX8_put rfl kM119 kX10_251 e1 hMF (Nat.le_of_ble_eq_true rfl) hc rfl (by decide +kernel) (fun z I2 R2 hq => ?_)
  exact (PW_sub (ls' := [(2, 64), (0, x1), (0, x2), (0, x3), (0, x4), (0, x5)]) ⟨Or.inr rfl, Or.inr rfl, Or.inr rfl, Or.inr rfl, Or.inr rfl, Or.inr rfl, trivial⟩ (h z I2 R2 hq))
theorem S_X10_stand_109 {X : CX} {d d1 : Nat} {x1 x2 x3 x4 x5 : Int} {I R : PF} {Q Q1 : PV → PF → PF → Prop} (hs : Shp R) (e1 : d1 + 1 ≤ d) (hc : CN X d1 mX1_forgetFlights [(2, 127)] I R Q1) (h : ∀ z I2 R2, Q1 (9, z) I2 R2 → PN X d mX10_stand 116 [(2, 64), (0, x1), (0, x2), (0, x3), (0, x4), (0, x5)] [] I2 R2 Q) : PN X d mX10_stand 109 [(2, 64), (0, x1), (0, x2), (0, x3), (0, x4), (0, x5)] [] I R Q := by
  refine P_aload_n (n := 0) (q := 110) rfl rfl (by decide +kernel) ?_
  refine B_getfR (q := 113) fX10_85 kM64 (rM64_13 hs) rfl (by decide +kernel) ?_
  refine P_invV (As := []) (q := 116) oX1_forgetFlights rfl kM127 kX10_255 e1 hMF (Nat.le_of_ble_eq_true rfl) hc rfl (by decide +kernel) (fun z I2 R2 hq => ?_)
  exact (PW_sub (ls' := [(2, 64), (0, x1), (0, x2), (0, x3), (0, x4), (0, x5)]) ⟨Or.inr rfl, Or.inr rfl, Or.inr rfl, Or.inr rfl, Or.inr rfl, Or.inr rfl, trivial⟩ (h z I2 R2 hq))
theorem S_X10_stand_116 {X : CX} {d d1 : Nat} {x1 x2 x3 x4 x5 : Int} {I R : PF} {Q Q1 : PV → PF → PF → Prop} (hs : Shp R) (e1 : d1 + 1 ≤ d) (hc : CN X d1 mX1_countGot [(2, 127), (0, x1)] I R Q1) (h : ∀ z I2 R2, Q1 (0, z) I2 R2 → PN X d mX10_stand 124 [(2, 64), (0, x1), (0, x2), (0, x3), (0, x4), (0, x5)] [(0, z)] I2 R2 Q) : PN X d mX10_stand 116 [(2, 64), (0, x1), (0, x2), (0, x3), (0, x4), (0, x5)] [] I R Q := by
  refine P_aload_n (n := 0) (q := 117) rfl rfl (by decide +kernel) ?_
  refine B_getfR (q := 120) fX10_85 kM64 (rM64_13 hs) rfl (by decide +kernel) ?_
  refine P_iload_n (n := 1) (q := 121) rfl rfl (by decide +kernel) ?_
  refine P_invV (As := [(0, x1)]) (q := 124) oX1_countGot rfl kM127 kX10_244 e1 hMF (Nat.le_of_ble_eq_true rfl) hc rfl (by decide +kernel) (fun z I2 R2 hq => ?_)
  exact (PW_sub (ls' := [(2, 64), (0, x1), (0, x2), (0, x3), (0, x4), (0, x5)]) ⟨Or.inr rfl, Or.inr rfl, Or.inr rfl, Or.inr rfl, Or.inr rfl, Or.inr rfl, trivial⟩ (h z I2 R2 hq))
theorem S_X10_stand_124 {X : CX} {d : Nat} {x1 x2 x3 x4 x5 o0 : Int} {I R : PF} {Q : PV → PF → PF → Prop} (c1 : -2147483648 ≤ o0 ∧ o0 < 2147483648) (c2 : -2147483648 ≤ x3 ∧ x3 < 2147483648) (h1 : o0 ≤ x3 → PN X d mX10_stand 139 [(2, 64), (0, x1), (0, x2), (0, x3), (0, x4), (0, x5)] [] I R Q) (h2 : x3 < o0 → PN X d mX10_stand 132 [(2, 64), (0, x1), (0, x2), (9, 0), (9, 0), (0, x5), (9, 0), (9, 0), (0, o0)] [] I R Q) : PN X d mX10_stand 124 [(2, 64), (0, x1), (0, x2), (0, x3), (0, x4), (0, x5)] [(0, o0)] I R Q := by
  refine P_istore (n := 8) (by decide) (q := 126) rfl (by decide +kernel) ?_
  refine P_iload (n := 8) (q := 128) rfl rfl (by decide +kernel) ?_
  refine P_iload_n (n := 3) (q := 129) rfl rfl (by decide +kernel) ?_
  refine B_icmp_le (off := 10) (t := 139) (q := 132) c1 c2 (by decide) rfl (by decide +kernel) ?_ ?_
  · exact fun g9 => (PW_sub (ls' := [(2, 64), (0, x1), (0, x2), (0, x3), (0, x4), (0, x5)]) ⟨Or.inr rfl, Or.inr rfl, Or.inr rfl, Or.inr rfl, Or.inr rfl, Or.inr rfl, trivial⟩ (h1 g9))
  · exact fun g9 => (PW_sub (ls' := [(2, 64), (0, x1), (0, x2), (9, 0), (9, 0), (0, x5), (9, 0), (9, 0), (0, o0)]) ⟨Or.inr rfl, Or.inr rfl, Or.inr rfl, Or.inl rfl, Or.inl rfl, Or.inr rfl, Or.inl rfl, Or.inl rfl, Or.inr rfl, trivial⟩ (h2 g9))
theorem S_X10_stand_132 {X : CX} {d : Nat} {x1 x2 x5 x8 : Int} {I R : PF} {Q : PV → PF → PF → Prop} (h : PN X d mX10_stand 139 [(2, 64), (0, x1), (0, x2), (0, x8), (0, x5), (0, x5)] [] I R Q) : PN X d mX10_stand 132 [(2, 64), (0, x1), (0, x2), (9, 0), (9, 0), (0, x5), (9, 0), (9, 0), (0, x8)] [] I R Q := by
  refine P_iload (n := 8) (q := 134) rfl rfl (by decide +kernel) ?_
  refine P_istore_n (n := 3) (by decide) (q := 135) rfl (by decide +kernel) ?_
  refine P_iload (n := 5) (q := 137) rfl rfl (by decide +kernel) ?_
  refine P_istore (n := 4) (by decide) (q := 139) rfl (by decide +kernel) ?_
  exact (PW_sub (ls' := [(2, 64), (0, x1), (0, x2), (0, x8), (0, x5), (0, x5)]) ⟨Or.inr rfl, Or.inr rfl, Or.inr rfl, Or.inr rfl, Or.inr rfl, Or.inr rfl, trivial⟩ h)
theorem S_X10_stand_139 {X : CX} {d : Nat} {x1 x2 x3 x4 x5 : Int} {I R : PF} {Q : PV → PF → PF → Prop} (h : PN X d mX10_stand 64 [(2, 64), (0, x1), (0, x2), (0, x3), (0, x4), (0, (x5 + 1))] [] I R Q) : PN X d mX10_stand 139 [(2, 64), (0, x1), (0, x2), (0, x3), (0, x4), (0, x5)] [] I R Q := by
  refine P_iinc (n := 5) (a := 1) (by decide) rfl (q := 142) rfl (by decide +kernel) ?_
  refine P_goto (off := (-78)) (t := 64) (by decide) (by decide +kernel) ?_
  exact (PW_sub (ls' := [(2, 64), (0, x1), (0, x2), (0, x3), (0, x4), (0, (x5 + 1))]) ⟨Or.inr rfl, Or.inr rfl, Or.inr rfl, Or.inr rfl, Or.inr rfl, Or.inr rfl, trivial⟩ h)
theorem S_X10_stand_145 {X : CX} {d : Nat} {x2 x3 x4 : Int} {I R : PF} {Q : PV → PF → PF → Prop} (c1 : -2147483648 ≤ x2 ∧ x2 < 2147483648) (h1 : x2 ≠ 2 → PN X d mX10_stand 152 [(9, 0), (9, 0), (0, x2), (9, 0), (0, x4)] [] I R Q) (h2 : x2 = 2 → PN X d mX10_stand 150 [(9, 0), (9, 0), (9, 0), (0, x3)] [] I R Q) : PN X d mX10_stand 145 [(9, 0), (9, 0), (0, x2), (0, x3), (0, x4)] [] I R Q := by
  refine P_iload_n (n := 2) (q := 146) rfl rfl (by decide +kernel) ?_
  refine P_iconst (n := 2) (q := 147) rfl (by decide +kernel) ?_
  refine B_icmp_ne (off := 5) (t := 152) (q := 150) c1 ⟨by decide, by decide⟩ (by decide) rfl (by decide +kernel) ?_ ?_
  · exact fun g9 => (PW_sub (ls' := [(9, 0), (9, 0), (0, x2), (9, 0), (0, x4)]) ⟨Or.inl rfl, Or.inl rfl, Or.inr rfl, Or.inl rfl, Or.inr rfl, trivial⟩ (h1 g9))
  · exact fun g9 => (PW_sub (ls' := [(9, 0), (9, 0), (9, 0), (0, x3)]) ⟨Or.inl rfl, Or.inl rfl, Or.inl rfl, Or.inr rfl, trivial⟩ (h2 g9))
theorem S_X10_stand_150 {X : CX} {d : Nat} {x3 : Int} {I R : PF} {Q : PV → PF → PF → Prop} (h : Q (0, x3) I R) : PN X d mX10_stand 150 [(9, 0), (9, 0), (9, 0), (0, x3)] [] I R Q := by
  refine P_iload_n (n := 3) (q := 151) rfl rfl (by decide +kernel) ?_
  refine P_iret rfl (by decide +kernel) h
theorem S_X10_stand_152 {X : CX} {d : Nat} {x2 x4 : Int} {I R : PF} {Q : PV → PF → PF → Prop} (c1 : -2147483648 ≤ x2 ∧ x2 < 2147483648) (h1 : x2 ≠ 0 → PN X d mX10_stand 164 [(9, 0), (9, 0), (9, 0), (9, 0), (0, x4)] [] I R Q) (h2 : x2 = 0 → PN X d mX10_stand 156 [(9, 0), (9, 0), (9, 0), (9, 0), (0, x4)] [] I R Q) : PN X d mX10_stand 152 [(9, 0), (9, 0), (0, x2), (9, 0), (0, x4)] [] I R Q := by
  refine P_iload_n (n := 2) (q := 153) rfl rfl (by decide +kernel) ?_
  refine B_if_ne (off := 11) (t := 164) (q := 156) c1 (by decide) rfl (by decide +kernel) ?_ ?_
  · exact fun g9 => (PW_sub (ls' := [(9, 0), (9, 0), (9, 0), (9, 0), (0, x4)]) ⟨Or.inl rfl, Or.inl rfl, Or.inl rfl, Or.inl rfl, Or.inr rfl, trivial⟩ (h1 g9))
  · exact fun g9 => (PW_sub (ls' := [(9, 0), (9, 0), (9, 0), (9, 0), (0, x4)]) ⟨Or.inl rfl, Or.inl rfl, Or.inl rfl, Or.inl rfl, Or.inr rfl, trivial⟩ (h2 g9))
theorem S_X10_stand_156 {X : CX} {d : Nat} {x4 : Int} {I R : PF} {Q : PV → PF → PF → Prop} (c1 : -2147483648 ≤ x4 ∧ x4 < 2147483648) (h : PN X d mX10_stand 169 [] [(0, (x4.tmod 9))] I R Q) : PN X d mX10_stand 156 [(9, 0), (9, 0), (9, 0), (9, 0), (0, x4)] [] I R Q := by
  refine P_iload (n := 4) (q := 158) rfl rfl (by decide +kernel) ?_
  refine P_bipush (n := 9) (q := 160) rfl rfl (by decide +kernel) ?_
  refine B_irem (q := 161) c1 ⟨by decide, by decide⟩ (by decide) rfl (by decide +kernel) ?_
  refine P_goto (off := 8) (t := 169) (by decide) (by decide +kernel) ?_
  exact (PW_sub (ls' := []) trivial h)
theorem S_X10_stand_164 {X : CX} {d : Nat} {x4 : Int} {I R : PF} {Q : PV → PF → PF → Prop} (c1 : -2147483648 ≤ x4 ∧ x4 < 2147483648) (h : PN X d mX10_stand 169 [] [(0, (x4.tdiv 9))] I R Q) : PN X d mX10_stand 164 [(9, 0), (9, 0), (9, 0), (9, 0), (0, x4)] [] I R Q := by
  refine P_iload (n := 4) (q := 166) rfl rfl (by decide +kernel) ?_
  refine P_bipush (n := 9) (q := 168) rfl rfl (by decide +kernel) ?_
  refine B_idiv (q := 169) c1 ⟨by decide, by decide⟩ (by decide) rfl (by decide +kernel) ?_
  exact (PW_sub (ls' := []) trivial h)
theorem S_X10_stand_169 {X : CX} {d : Nat} {o0 : Int} {I R : PF} {Q : PV → PF → PF → Prop} (h : Q (0, o0) I R) : PN X d mX10_stand 169 [] [(0, o0)] I R Q := by
  refine P_iret rfl (by decide +kernel) h
theorem S_X10_status_0 {X : CX} {d : Nat} {x1 : Int} {I R : PF} {Q : PV → PF → PF → Prop} (c1 : -2147483648 ≤ x1 ∧ x1 < 2147483648) (h1 : x1 < 0 → PN X d mX10_status 13 [] [] I R Q) (h2 : 0 ≤ x1 → PN X d mX10_status 4 [(2, 64), (0, x1)] [] I R Q) : PN X d mX10_status 0 [(2, 64), (0, x1)] [] I R Q := by
  refine P_iload_n (n := 1) (q := 1) rfl rfl (by decide +kernel) ?_
  refine B_if_lt (off := 12) (t := 13) (q := 4) c1 (by decide) rfl (by decide +kernel) ?_ ?_
  · exact fun g9 => (PW_sub (ls' := []) trivial (h1 g9))
  · exact fun g9 => (h2 g9)
theorem S_X10_status_4 {X : CX} {d : Nat} {x1 : Int} {I R : PF} {Q : PV → PF → PF → Prop} (hs : Shp R) (c1 : -2147483648 ≤ x1 ∧ x1 < 2147483648) (h1 : x1 < 6 → PN X d mX10_status 17 [(2, 64), (0, x1)] [] I R Q) (h2 : 6 ≤ x1 → PN X d mX10_status 13 [] [] I R Q) : PN X d mX10_status 4 [(2, 64), (0, x1)] [] I R Q := by
  refine P_iload_n (n := 1) (q := 5) rfl rfl (by decide +kernel) ?_
  refine P_aload_n (n := 0) (q := 6) rfl rfl (by decide +kernel) ?_
  refine B_getfR (q := 9) fX10_17 kM64 (rM64_2 hs) rfl (by decide +kernel) ?_
  refine B_alen (q := 10) kM66 nM66 (by decide) (by decide) rfl (by decide +kernel) ?_
  refine B_icmp_lt (off := 7) (t := 17) (q := 13) c1 ⟨by decide, by decide⟩ (by decide) rfl (by decide +kernel) ?_ ?_
  · exact fun g9 => (h1 g9)
  · exact fun g9 => (PW_sub (ls' := []) trivial (h2 g9))
theorem S_X10_status_13 {X : CX} {d : Nat} {I R : PF} {Q : PV → PF → PF → Prop} (h : PN X d mX10_status 23 [] [(0, (-1))] I R Q) : PN X d mX10_status 13 [] [] I R Q := by
  refine P_iconst (n := (-1)) (q := 14) rfl (by decide +kernel) ?_
  refine P_goto (off := 9) (t := 23) (by decide) (by decide +kernel) ?_
  exact (PW_sub (ls' := []) trivial h)
theorem S_X10_status_17 {X : CX} {d : Nat} {x1 : Int} {I R : PF} {Q : PV → PF → PF → Prop} (hs : Shp R) (b1 : (0 : Int) ≤ x1 ∧ x1 < 6) (h : PN X d mX10_status 23 [] [(0, (I 66 x1))] I R Q) : PN X d mX10_status 17 [(2, 64), (0, x1)] [] I R Q := by
  refine P_aload_n (n := 0) (q := 18) rfl rfl (by decide +kernel) ?_
  refine B_getfR (q := 21) fX10_17 kM64 (rM64_2 hs) rfl (by decide +kernel) ?_
  refine P_iload_n (n := 1) (q := 22) rfl rfl (by decide +kernel) ?_
  refine B_iaload (q := 23) kM66 nM66 (by decide) b1 rfl (by decide +kernel) ?_
  exact (PW_sub (ls' := []) trivial h)
theorem S_X10_status_23 {X : CX} {d : Nat} {o0 : Int} {I R : PF} {Q : PV → PF → PF → Prop} (h : Q (0, o0) I R) : PN X d mX10_status 23 [] [(0, o0)] I R Q := by
  refine P_iret rfl (by decide +kernel) h
theorem S_X10_takeTape_0 {X : CX} {d : Nat} {I R : PF} {Q : PV → PF → PF → Prop} (h : Q (0, (I 64 1)) (u2 I 64 1 0) R) : PN X d mX10_takeTape 0 [(2, 64)] [] I R Q := by
  refine P_aload_n (n := 0) (q := 1) rfl rfl (by decide +kernel) ?_
  refine P_getf (q := 4) fX10_13 kM64 rfl (by decide +kernel) ?_
  refine P_istore_n (n := 1) (by decide) (q := 5) rfl (by decide +kernel) ?_
  refine P_aload_n (n := 0) (q := 6) rfl rfl (by decide +kernel) ?_
  refine P_iconst (n := 0) (q := 7) rfl (by decide +kernel) ?_
  refine P_putI (q := 10) wX10_13 (fun h => by cases h) kM64 rfl (by decide +kernel) ?_
  refine P_iload_n (n := 1) (q := 11) rfl rfl (by decide +kernel) ?_
  refine P_iret rfl (by decide +kernel) h
theorem S_X10_throwNumber_0 {X : CX} {d : Nat} {x0 x1 : Int} {I R : PF} {Q : PV → PF → PF → Prop} (c1 : -2147483648 ≤ x0 ∧ x0 < 2147483648) (h1 : x0 ≠ 0 → PN X d mX10_throwNumber 8 [(0, x0), (0, x1)] [] I R Q) (h2 : x0 = 0 → PN X d mX10_throwNumber 4 [] [] I R Q) : PN X d mX10_throwNumber 0 [(0, x0), (0, x1)] [] I R Q := by
  refine P_iload_n (n := 0) (q := 1) rfl rfl (by decide +kernel) ?_
  refine B_if_ne (off := 7) (t := 8) (q := 4) c1 (by decide) rfl (by decide +kernel) ?_ ?_
  · exact fun g9 => (h1 g9)
  · exact fun g9 => (PW_sub (ls' := []) trivial (h2 g9))
theorem S_X10_throwNumber_4 {X : CX} {d : Nat} {I R : PF} {Q : PV → PF → PF → Prop} (h : PN X d mX10_throwNumber 15 [] [(0, 0)] I R Q) : PN X d mX10_throwNumber 4 [] [] I R Q := by
  refine P_iconst (n := 0) (q := 5) rfl (by decide +kernel) ?_
  refine P_goto (off := 10) (t := 15) (by decide) (by decide +kernel) ?_
  exact (PW_sub (ls' := []) trivial h)
theorem S_X10_throwNumber_8 {X : CX} {d : Nat} {x0 x1 : Int} {I R : PF} {Q : PV → PF → PF → Prop} (h : PN X d mX10_throwNumber 15 [] [(0, (((4 * x0) - 3) + x1))] I R Q) : PN X d mX10_throwNumber 8 [(0, x0), (0, x1)] [] I R Q := by
  refine P_iconst (n := 4) (q := 9) rfl (by decide +kernel) ?_
  refine P_iload_n (n := 0) (q := 10) rfl rfl (by decide +kernel) ?_
  refine P_imul (q := 11) rfl (by decide +kernel) ?_
  refine P_iconst (n := 3) (q := 12) rfl (by decide +kernel) ?_
  refine P_isub (q := 13) rfl (by decide +kernel) ?_
  refine P_iload_n (n := 1) (q := 14) rfl rfl (by decide +kernel) ?_
  refine P_iadd (q := 15) rfl (by decide +kernel) ?_
  exact (PW_sub (ls' := []) trivial h)
theorem S_X10_throwNumber_15 {X : CX} {d : Nat} {o0 : Int} {I R : PF} {Q : PV → PF → PF → Prop} (h : Q (0, o0) I R) : PN X d mX10_throwNumber 15 [] [(0, o0)] I R Q := by
  refine P_iret rfl (by decide +kernel) h
theorem S_X10_toss_0 {X : CX} {d d1 : Nat} {x1 x2 x3 : Int} {I R : PF} {Q Q1 : PV → PF → PF → Prop} (e1 : d1 + 1 ≤ d) (hc : CN X d1 mX10_isTold [(2, 64)] I R Q1) (h : ∀ z I2 R2, Q1 (0, z) I2 R2 → PN X d mX10_toss 4 [(2, 64), (0, x1), (0, x2), (0, x3)] [(0, z)] I2 R2 Q) : PN X d mX10_toss 0 [(2, 64), (0, x1), (0, x2), (0, x3)] [] I R Q := by
  refine P_aload_n (n := 0) (q := 1) rfl rfl (by decide +kernel) ?_
  refine P_invV (As := []) (q := 4) oX10_isTold rfl kM64 kX10_208 e1 hMF (Nat.le_of_ble_eq_true rfl) hc rfl (by decide +kernel) (fun z I2 R2 hq => ?_)
  exact (h z I2 R2 hq)
theorem S_X10_toss_4 {X : CX} {d : Nat} {x1 x2 x3 o0 : Int} {I R : PF} {Q : PV → PF → PF → Prop} (c1 : -2147483648 ≤ o0 ∧ o0 < 2147483648) (h1 : o0 = 0 → PN X d mX10_toss 24 [] [] I R Q) (h2 : o0 ≠ 0 → PN X d mX10_toss 7 [(2, 64), (0, x1), (0, x2), (0, x3)] [] I R Q) : PN X d mX10_toss 4 [(2, 64), (0, x1), (0, x2), (0, x3)] [(0, o0)] I R Q := by
  refine B_if_eq (off := 20) (t := 24) (q := 7) c1 (by decide) rfl (by decide +kernel) ?_ ?_
  · exact fun g9 => (PW_sub (ls' := []) trivial (h1 g9))
  · exact fun g9 => (h2 g9)
theorem S_X10_toss_7 {X : CX} {d d1 : Nat} {x1 x2 x3 : Int} {I R : PF} {Q Q1 : PV → PF → PF → Prop} (e1 : d1 + 1 ≤ d) (hc : CN X d1 mX10_isThrow [(0, x1), (0, x2)] I R Q1) (h : ∀ z I2 R2, Q1 (0, z) I2 R2 → PN X d mX10_toss 12 [(2, 64), (0, x1), (0, x2), (0, x3)] [(0, z)] I2 R2 Q) : PN X d mX10_toss 7 [(2, 64), (0, x1), (0, x2), (0, x3)] [] I R Q := by
  refine P_iload_n (n := 1) (q := 8) rfl rfl (by decide +kernel) ?_
  refine P_iload_n (n := 2) (q := 9) rfl rfl (by decide +kernel) ?_
  refine P_invS (As := [(0, x1), (0, x2)]) (q := 12) oX10_isThrow rfl (Or.inl kX10_212) e1 hMF (Nat.le_of_ble_eq_true rfl) hc rfl (by decide +kernel) (fun z I2 R2 hq => ?_)
  exact (h z I2 R2 hq)
theorem S_X10_toss_12 {X : CX} {d : Nat} {x1 x2 x3 o0 : Int} {I R : PF} {Q : PV → PF → PF → Prop} (c1 : -2147483648 ≤ o0 ∧ o0 < 2147483648) (h1 : o0 = 0 → PN X d mX10_toss 24 [] [] I R Q) (h2 : o0 ≠ 0 → PN X d mX10_toss 15 [(2, 64), (0, x1), (0, x2), (0, x3)] [] I R Q) : PN X d mX10_toss 12 [(2, 64), (0, x1), (0, x2), (0, x3)] [(0, o0)] I R Q := by
  refine B_if_eq (off := 12) (t := 24) (q := 15) c1 (by decide) rfl (by decide +kernel) ?_ ?_
  · exact fun g9 => (PW_sub (ls' := []) trivial (h1 g9))
  · exact fun g9 => (h2 g9)
theorem S_X10_toss_15 {X : CX} {d : Nat} {x1 x2 x3 : Int} {I R : PF} {Q : PV → PF → PF → Prop} (c1 : -2147483648 ≤ x3 ∧ x3 < 2147483648) (h1 : x3 < 0 → PN X d mX10_toss 24 [] [] I R Q) (h2 : 0 ≤ x3 → PN X d mX10_toss 19 [(2, 64), (0, x1), (0, x2), (0, x3)] [] I R Q) : PN X d mX10_toss 15 [(2, 64), (0, x1), (0, x2), (0, x3)] [] I R Q := by
  refine P_iload_n (n := 3) (q := 16) rfl rfl (by decide +kernel) ?_
  refine B_if_lt (off := 8) (t := 24) (q := 19) c1 (by decide) rfl (by decide +kernel) ?_ ?_
  · exact fun g9 => (PW_sub (ls' := []) trivial (h1 g9))
  · exact fun g9 => (h2 g9)
theorem S_X10_toss_19 {X : CX} {d : Nat} {x1 x2 x3 : Int} {I R : PF} {Q : PV → PF → PF → Prop} (c1 : -2147483648 ≤ x3 ∧ x3 < 2147483648) (h1 : x3 ≤ 3 → PN X d mX10_toss 26 [(2, 64), (0, x1), (0, x2), (0, x3)] [] I R Q) (h2 : 3 < x3 → PN X d mX10_toss 24 [] [] I R Q) : PN X d mX10_toss 19 [(2, 64), (0, x1), (0, x2), (0, x3)] [] I R Q := by
  refine P_iload_n (n := 3) (q := 20) rfl rfl (by decide +kernel) ?_
  refine P_iconst (n := 3) (q := 21) rfl (by decide +kernel) ?_
  refine B_icmp_le (off := 5) (t := 26) (q := 24) c1 ⟨by decide, by decide⟩ (by decide) rfl (by decide +kernel) ?_ ?_
  · exact fun g9 => (h1 g9)
  · exact fun g9 => (PW_sub (ls' := []) trivial (h2 g9))
theorem S_X10_toss_24 {X : CX} {d : Nat} {I R : PF} {Q : PV → PF → PF → Prop} (h : Q (0, (-1)) I R) : PN X d mX10_toss 24 [] [] I R Q := by
  refine P_iconst (n := (-1)) (q := 25) rfl (by decide +kernel) ?_
  refine P_iret rfl (by decide +kernel) h
theorem S_X10_toss_26 {X : CX} {d d1 : Nat} {x1 x2 x3 t1 : Int} {I R : PF} {Q Q1 : PV → PF → PF → Prop} (hs : Shp R) (r1 : R 64 8 = t1) (e1 : d1 + 1 ≤ d) (hc : CN X d1 mX1_prepare [(2, 127), (2, t1), (2, 111), (0, (I 111 0)), (2, 0)] I R Q1) (h : ∀ z I2 R2, Q1 (9, z) I2 R2 → PN X d mX10_toss 49 [(2, 64), (0, x1), (0, x2), (0, x3)] [] I2 R2 Q) : PN X d mX10_toss 26 [(2, 64), (0, x1), (0, x2), (0, x3)] [] I R Q := by
  refine P_aload_n (n := 0) (q := 27) rfl rfl (by decide +kernel) ?_
  refine B_getfR (q := 30) fX10_85 kM64 (rM64_13 hs) rfl (by decide +kernel) ?_
  refine P_aload_n (n := 0) (q := 31) rfl rfl (by decide +kernel) ?_
  refine B_getfR (q := 34) fX10_54 kM64 r1 rfl (by decide +kernel) ?_
  refine P_aload_n (n := 0) (q := 35) rfl rfl (by decide +kernel) ?_
  refine B_getfR (q := 38) fX10_73 kM64 (rM64_11 hs) rfl (by decide +kernel) ?_
  refine P_aload_n (n := 0) (q := 39) rfl rfl (by decide +kernel) ?_
  refine B_getfR (q := 42) fX10_73 kM64 (rM64_11 hs) rfl (by decide +kernel) ?_
  refine P_getf (q := 45) fX10_157 kM111 rfl (by decide +kernel) ?_
  refine P_anull (q := 46) rfl (by decide +kernel) ?_
  refine P_invV (As := [(2, t1), (2, 111), (0, (I 111 0)), (2, 0)]) (q := 49) oX1_prepare rfl kM127 kX10_215 e1 hMF (Nat.le_of_ble_eq_true rfl) hc rfl (by decide +kernel) (fun z I2 R2 hq => ?_)
  exact (h z I2 R2 hq)
theorem S_X10_toss_49 {X : CX} {d d1 : Nat} {x1 x2 x3 t1 : Int} {I R : PF} {Q Q1 : PV → PF → PF → Prop} (hs : Shp R) (r1 : R 64 8 = t1) (k1 : kd MF t1 = 6) (e1 : d1 + 1 ≤ d) (hc : CN X d1 mX10_throwNumber [(0, x1), (0, x2)] I R Q1) (h : ∀ z I2 R2, Q1 (0, z) I2 R2 → PN X d mX10_toss 65 [(2, 64), (9, 0), (9, 0), (0, x3)] [(0, z), (2, (t1 + 4)), (2, 127)] I2 R2 Q) : PN X d mX10_toss 49 [(2, 64), (0, x1), (0, x2), (0, x3)] [] I R Q := by
  refine P_aload_n (n := 0) (q := 50) rfl rfl (by decide +kernel) ?_
  refine B_getfR (q := 53) fX10_85 kM64 (rM64_13 hs) rfl (by decide +kernel) ?_
  refine P_aload_n (n := 0) (q := 54) rfl rfl (by decide +kernel) ?_
  refine B_getfR (q := 57) fX10_54 kM64 r1 rfl (by decide +kernel) ?_
  refine B_getfR (q := 60) fX10_219 k1 (sh6_11 hs k1) rfl (by decide +kernel) ?_
  refine P_iload_n (n := 1) (q := 61) rfl rfl (by decide +kernel) ?_
  refine P_iload_n (n := 2) (q := 62) rfl rfl (by decide +kernel) ?_
  refine P_invS (As := [(0, x1), (0, x2)]) (q := 65) oX10_throwNumber rfl (Or.inl kX10_222) e1 hMF (Nat.le_of_ble_eq_true rfl) hc rfl (by decide +kernel) (fun z I2 R2 hq => ?_)
  exact (PW_sub (ls' := [(2, 64), (9, 0), (9, 0), (0, x3)]) ⟨Or.inr rfl, Or.inl rfl, Or.inl rfl, Or.inr rfl, trivial⟩ (h z I2 R2 hq))
theorem S_X10_toss_65 {X : CX} {d d1 : Nat} {x3 s1 o2 : Int} {I R : PF} {Q Q1 : PV → PF → PF → Prop} (k1 : kd MF s1 = 12) (b1 : (0 : Int) ≤ o2 ∧ o2 < (ln MF s1 : Int)) (n1 : (ln MF s1 : Int) < 2147483648) (e1 : d1 + 1 ≤ d) (hc : CN X d1 mX1_fly [(2, 127), (0, (I s1 o2))] I R Q1) (h : ∀ z I2 R2, Q1 (9, z) I2 R2 → PN X d mX10_toss 69 [(2, 64), (9, 0), (9, 0), (0, x3)] [] I2 R2 Q) : PN X d mX10_toss 65 [(2, 64), (9, 0), (9, 0), (0, x3)] [(0, o2), (2, s1), (2, 127)] I R Q := by
  refine B_iaload (q := 66) k1 rfl n1 b1 rfl (by decide +kernel) ?_
  refine P_invV (As := [(0, (I s1 o2))]) (q := 69) oX1_fly rfl kM127 kX10_225 e1 hMF (Nat.le_of_ble_eq_true rfl) hc rfl (by decide +kernel) (fun z I2 R2 hq => ?_)
  exact (h z I2 R2 hq)
theorem S_X10_toss_69 {X : CX} {d : Nat} {x3 : Int} {I R : PF} {Q : PV → PF → PF → Prop} (c1 : -2147483648 ≤ x3 ∧ x3 < 2147483648) (h0 : x3 = 0 → PN X d mX10_toss 96 [(2, 64)] [] I R Q) (h1 : x3 = 1 → PN X d mX10_toss 104 [(2, 64)] [] I R Q) (h2 : x3 = 2 → PN X d mX10_toss 112 [(2, 64)] [] I R Q) (hd : x3 < 0 ∨ 2 < x3 → PN X d mX10_toss 120 [(2, 64)] [] I R Q) : PN X d mX10_toss 69 [(2, 64), (9, 0), (9, 0), (0, x3)] [] I R Q := by
  refine P_iload_n (n := 3) (q := 70) rfl rfl (by decide +kernel) ?_
  rcases tab_cases (lo := 0) (n := 3) x3 with e9 | ⟨k9, hk9, e9⟩
  · exact P_tableOut (dflt := 50) (lo := 0) (hi := 2) (offs := #[26, 34, 42]) (len := 26) (t := 120) (by decide +kernel) (by rw [w_of c1]; exact e9) (by decide) (PW_sub (ls' := [(2, 64)]) ⟨Or.inr rfl, trivial⟩ (hd e9))
  · match k9, hk9, e9 with
    | 0, _, e9 => exact P_tableIn (dflt := 50) (lo := 0) (hi := 2) (offs := #[26, 34, 42]) (len := 26) (off := 26) (t := 96) (by decide +kernel) (by rw [w_of c1, e9]; decide) (by rw [w_of c1, e9]; decide) (by rw [w_of c1, e9]; rfl) (by decide) (PW_sub (ls' := [(2, 64)]) ⟨Or.inr rfl, trivial⟩ (h0 (e9.trans (by decide))))
    | 1, _, e9 => exact P_tableIn (dflt := 50) (lo := 0) (hi := 2) (offs := #[26, 34, 42]) (len := 26) (off := 34) (t := 104) (by decide +kernel) (by rw [w_of c1, e9]; decide) (by rw [w_of c1, e9]; decide) (by rw [w_of c1, e9]; rfl) (by decide) (PW_sub (ls' := [(2, 64)]) ⟨Or.inr rfl, trivial⟩ (h1 (e9.trans (by decide))))
    | 2, _, e9 => exact P_tableIn (dflt := 50) (lo := 0) (hi := 2) (offs := #[26, 34, 42]) (len := 26) (off := 42) (t := 112) (by decide +kernel) (by rw [w_of c1, e9]; decide) (by rw [w_of c1, e9]; decide) (by rw [w_of c1, e9]; rfl) (by decide) (PW_sub (ls' := [(2, 64)]) ⟨Or.inr rfl, trivial⟩ (h2 (e9.trans (by decide))))
theorem S_X10_toss_96 {X : CX} {d : Nat} {I R : PF} {Q : PV → PF → PF → Prop} (hs : Shp R) (h : Q (0, (I 127 7)) I R) : PN X d mX10_toss 96 [(2, 64)] [] I R Q := by
  refine P_aload_n (n := 0) (q := 97) rfl rfl (by decide +kernel) ?_
  refine B_getfR (q := 100) fX10_85 kM64 (rM64_13 hs) rfl (by decide +kernel) ?_
  refine P_getf (q := 103) fX10_228 kM127 rfl (by decide +kernel) ?_
  refine P_iret rfl (by decide +kernel) h
theorem S_X10_toss_104 {X : CX} {d : Nat} {I R : PF} {Q : PV → PF → PF → Prop} (hs : Shp R) (h : Q (0, (I 127 6)) I R) : PN X d mX10_toss 104 [(2, 64)] [] I R Q := by
  refine P_aload_n (n := 0) (q := 105) rfl rfl (by decide +kernel) ?_
  refine B_getfR (q := 108) fX10_85 kM64 (rM64_13 hs) rfl (by decide +kernel) ?_
  refine P_getf (q := 111) fX10_231 kM127 rfl (by decide +kernel) ?_
  refine P_iret rfl (by decide +kernel) h
theorem S_X10_toss_112 {X : CX} {d : Nat} {I R : PF} {Q : PV → PF → PF → Prop} (hs : Shp R) (h : Q (0, (I 127 3)) I R) : PN X d mX10_toss 112 [(2, 64)] [] I R Q := by
  refine P_aload_n (n := 0) (q := 113) rfl rfl (by decide +kernel) ?_
  refine B_getfR (q := 116) fX10_85 kM64 (rM64_13 hs) rfl (by decide +kernel) ?_
  refine P_getf (q := 119) fX10_234 kM127 rfl (by decide +kernel) ?_
  refine P_iret rfl (by decide +kernel) h
theorem S_X10_toss_120 {X : CX} {d : Nat} {I R : PF} {Q : PV → PF → PF → Prop} (hs : Shp R) (h : Q (0, (I 127 4)) I R) : PN X d mX10_toss 120 [(2, 64)] [] I R Q := by
  refine P_aload_n (n := 0) (q := 121) rfl rfl (by decide +kernel) ?_
  refine B_getfR (q := 124) fX10_85 kM64 (rM64_13 hs) rfl (by decide +kernel) ?_
  refine P_getf (q := 127) fX10_237 kM127 rfl (by decide +kernel) ?_
  refine P_iret rfl (by decide +kernel) h
theorem S_X10_train_0 {X : CX} {d d1 : Nat} {x1 x2 x3 : Int} {I R : PF} {Q Q1 : PV → PF → PF → Prop} (hs : Shp R) (e1 : d1 + 1 ≤ d) (hc : CN X d1 mX8_knows [(2, 111), (0, x1)] I R Q1) (h : ∀ z I2 R2, Q1 (0, z) I2 R2 → PN X d mX10_train 8 [(2, 64), (0, x1), (0, x2), (0, x3)] [(0, z)] I2 R2 Q) : PN X d mX10_train 0 [(2, 64), (0, x1), (0, x2), (0, x3)] [] I R Q := by
  refine P_aload_n (n := 0) (q := 1) rfl rfl (by decide +kernel) ?_
  refine B_getfR (q := 4) fX10_73 kM64 (rM64_11 hs) rfl (by decide +kernel) ?_
  refine P_iload_n (n := 1) (q := 5) rfl rfl (by decide +kernel) ?_
  refine P_invV (As := [(0, x1)]) (q := 8) oX8_knows rfl kM111 kX10_187 e1 hMF (Nat.le_of_ble_eq_true rfl) hc rfl (by decide +kernel) (fun z I2 R2 hq => ?_)
  exact (h z I2 R2 hq)
theorem S_X10_train_8 {X : CX} {d : Nat} {x1 x2 x3 o0 : Int} {I R : PF} {Q : PV → PF → PF → Prop} (c1 : -2147483648 ≤ o0 ∧ o0 < 2147483648) (h1 : o0 = 0 → PN X d mX10_train 32 [(2, 64)] [] I R Q) (h2 : o0 ≠ 0 → PN X d mX10_train 11 [(2, 64), (0, x1), (0, x2), (0, x3)] [] I R Q) : PN X d mX10_train 8 [(2, 64), (0, x1), (0, x2), (0, x3)] [(0, o0)] I R Q := by
  refine B_if_eq (off := 24) (t := 32) (q := 11) c1 (by decide) rfl (by decide +kernel) ?_ ?_
  · exact fun g9 => (PW_sub (ls' := [(2, 64)]) ⟨Or.inr rfl, trivial⟩ (h1 g9))
  · exact fun g9 => (h2 g9)
theorem S_X10_train_11 {X : CX} {d d1 : Nat} {x1 x2 x3 : Int} {I R : PF} {Q Q1 : PV → PF → PF → Prop} (e1 : d1 + 1 ≤ d) (hc : CN X d1 mX10_isThrow [(0, x2), (0, x3)] I R Q1) (h : ∀ z I2 R2, Q1 (0, z) I2 R2 → PN X d mX10_train 16 [(2, 64), (0, x1), (0, x2), (0, x3)] [(0, z)] I2 R2 Q) : PN X d mX10_train 11 [(2, 64), (0, x1), (0, x2), (0, x3)] [] I R Q := by
  refine P_iload_n (n := 2) (q := 12) rfl rfl (by decide +kernel) ?_
  refine P_iload_n (n := 3) (q := 13) rfl rfl (by decide +kernel) ?_
  refine P_invS (As := [(0, x2), (0, x3)]) (q := 16) oX10_isThrow rfl (Or.inl kX10_212) e1 hMF (Nat.le_of_ble_eq_true rfl) hc rfl (by decide +kernel) (fun z I2 R2 hq => ?_)
  exact (h z I2 R2 hq)
theorem S_X10_train_16 {X : CX} {d : Nat} {x1 x2 x3 o0 : Int} {I R : PF} {Q : PV → PF → PF → Prop} (c1 : -2147483648 ≤ o0 ∧ o0 < 2147483648) (h1 : o0 = 0 → PN X d mX10_train 32 [(2, 64)] [] I R Q) (h2 : o0 ≠ 0 → PN X d mX10_train 19 [(2, 64), (0, x1), (0, x2), (0, x3)] [] I R Q) : PN X d mX10_train 16 [(2, 64), (0, x1), (0, x2), (0, x3)] [(0, o0)] I R Q := by
  refine B_if_eq (off := 16) (t := 32) (q := 19) c1 (by decide) rfl (by decide +kernel) ?_ ?_
  · exact fun g9 => (PW_sub (ls' := [(2, 64)]) ⟨Or.inr rfl, trivial⟩ (h1 g9))
  · exact fun g9 => (h2 g9)
theorem S_X10_train_19 {X : CX} {d d1 : Nat} {x1 x2 x3 : Int} {I R : PF} {Q Q1 : PV → PF → PF → Prop} (hs : Shp R) (e1 : d1 + 1 ≤ d) (hc : CN X d1 mX8_throwsSo [(2, 111), (0, x1), (0, x2), (0, x3)] I R Q1) (h : ∀ z I2 R2, Q1 (0, z) I2 R2 → PN X d mX10_train 29 [(2, 64), (0, x1), (0, x2), (0, x3)] [(0, z)] I2 R2 Q) : PN X d mX10_train 19 [(2, 64), (0, x1), (0, x2), (0, x3)] [] I R Q := by
  refine P_aload_n (n := 0) (q := 20) rfl rfl (by decide +kernel) ?_
  refine B_getfR (q := 23) fX10_73 kM64 (rM64_11 hs) rfl (by decide +kernel) ?_
  refine P_iload_n (n := 1) (q := 24) rfl rfl (by decide +kernel) ?_
  refine P_iload_n (n := 2) (q := 25) rfl rfl (by decide +kernel) ?_
  refine P_iload_n (n := 3) (q := 26) rfl rfl (by decide +kernel) ?_
  refine P_invV (As := [(0, x1), (0, x2), (0, x3)]) (q := 29) oX8_throwsSo rfl kM111 kX10_317 e1 hMF (Nat.le_of_ble_eq_true rfl) hc rfl (by decide +kernel) (fun z I2 R2 hq => ?_)
  exact (h z I2 R2 hq)
theorem S_X10_train_29 {X : CX} {d : Nat} {x1 x2 x3 o0 : Int} {I R : PF} {Q : PV → PF → PF → Prop} (c1 : -2147483648 ≤ o0 ∧ o0 < 2147483648) (h1 : o0 = 0 → PN X d mX10_train 44 [(2, 64), (0, x1), (0, x2), (0, x3)] [] I R Q) (h2 : o0 ≠ 0 → PN X d mX10_train 32 [(2, 64)] [] I R Q) : PN X d mX10_train 29 [(2, 64), (0, x1), (0, x2), (0, x3)] [(0, o0)] I R Q := by
  refine B_if_eq (off := 15) (t := 44) (q := 32) c1 (by decide) rfl (by decide +kernel) ?_ ?_
  · exact fun g9 => (h1 g9)
  · exact fun g9 => (PW_sub (ls' := [(2, 64)]) ⟨Or.inr rfl, trivial⟩ (h2 g9))
theorem S_X10_train_32 {X : CX} {d : Nat} {I R : PF} {Q : PV → PF → PF → Prop} (hs : Shp R) (h : Q (0, 0) (u2 I 66 2 ((I 66 2) + 1)) R) : PN X d mX10_train 32 [(2, 64)] [] I R Q := by
  refine P_aload_n (n := 0) (q := 33) rfl rfl (by decide +kernel) ?_
  refine B_getfR (q := 36) fX10_17 kM64 (rM64_2 hs) rfl (by decide +kernel) ?_
  refine P_iconst (n := 2) (q := 37) rfl (by decide +kernel) ?_
  refine P_dup2 (q := 38) (Nat.ne_of_beq_eq_false rfl) (Nat.ne_of_beq_eq_false rfl) rfl (by decide +kernel) ?_
  refine B_iaload (q := 39) kM66 nM66 (by decide) ⟨by decide, by decide⟩ rfl (by decide +kernel) ?_
  refine P_iconst (n := 1) (q := 40) rfl (by decide +kernel) ?_
  refine P_iadd (q := 41) rfl (by decide +kernel) ?_
  refine B_iastore (q := 42) kM66 nM66 (by decide) ⟨by decide, by decide⟩ rfl (by decide +kernel) ?_
  refine P_iconst (n := 0) (q := 43) rfl (by decide +kernel) ?_
  refine P_zret rfl (Or.inl rfl) (by decide +kernel) h
theorem S_X10_train_44 {X : CX} {d d1 : Nat} {x1 x2 x3 : Int} {I R : PF} {Q Q1 : PV → PF → PF → Prop} (hs : Shp R) (e1 : d1 + 1 ≤ d) (hc : CN X d1 mX4_remember [(2, 136), (2, 111)] I R Q1) (h : ∀ z I2 R2, Q1 (9, z) I2 R2 → PN X d mX10_train 55 [(2, 64), (0, x1), (0, x2), (0, x3)] [] I2 R2 Q) : PN X d mX10_train 44 [(2, 64), (0, x1), (0, x2), (0, x3)] [] I R Q := by
  refine P_aload_n (n := 0) (q := 45) rfl rfl (by decide +kernel) ?_
  refine B_getfR (q := 48) fX10_92 kM64 (rM64_14 hs) rfl (by decide +kernel) ?_
  refine P_aload_n (n := 0) (q := 49) rfl rfl (by decide +kernel) ?_
  refine B_getfR (q := 52) fX10_73 kM64 (rM64_11 hs) rfl (by decide +kernel) ?_
  refine P_invV (As := [(2, 111)]) (q := 55) oX4_remember rfl kM136 kX10_314 e1 hMF (Nat.le_of_ble_eq_true rfl) hc rfl (by decide +kernel) (fun z I2 R2 hq => ?_)
  exact (h z I2 R2 hq)
theorem S_X10_train_55 {X : CX} {d : Nat} {x1 x2 x3 : Int} {I R : PF} {Q : PV → PF → PF → Prop} (hs : Shp R) (b1 : (0 : Int) ≤ x1 ∧ x1 < 6) (h : Q (0, 1) (u2 (u2 I (111 + 2 + x1) 5 x2) (111 + 2 + x1) 6 x3) R) : PN X d mX10_train 55 [(2, 64), (0, x1), (0, x2), (0, x3)] [] I R Q := by
  refine P_aload_n (n := 0) (q := 56) rfl rfl (by decide +kernel) ?_
  refine B_getfR (q := 59) fX10_73 kM64 (rM64_11 hs) rfl (by decide +kernel) ?_
  refine B_getfR (q := 62) fX10_191 kM111 (show R 111 4 = 112 from sh8_4 hs kM111) rfl (by decide +kernel) ?_
  refine P_iload_n (n := 1) (q := 63) rfl rfl (by decide +kernel) ?_
  refine B_aaloadI (q := 64) kM112 nM112 (by decide) b1 (sh8_r hs kM111 b1.1 b1.2) rfl (by decide +kernel) ?_
  refine P_iconst (n := 5) (q := 65) rfl (by decide +kernel) ?_
  refine P_iload_n (n := 2) (q := 66) rfl rfl (by decide +kernel) ?_
  refine B_iastore (q := 67) (stR kM111 b1.1 b1.2).1 (stR kM111 b1.1 b1.2).2 (by decide) ⟨by decide, by decide⟩ rfl (by decide +kernel) ?_
  refine P_aload_n (n := 0) (q := 68) rfl rfl (by decide +kernel) ?_
  refine B_getfR (q := 71) fX10_73 kM64 (rM64_11 hs) rfl (by decide +kernel) ?_
  refine B_getfR (q := 74) fX10_191 kM111 (show R 111 4 = 112 from sh8_4 hs kM111) rfl (by decide +kernel) ?_
  refine P_iload_n (n := 1) (q := 75) rfl rfl (by decide +kernel) ?_
  refine B_aaloadI (q := 76) kM112 nM112 (by decide) b1 (sh8_r hs kM111 b1.1 b1.2) rfl (by decide +kernel) ?_
  refine P_bipush (n := 6) (q := 78) rfl rfl (by decide +kernel) ?_
  refine P_iload_n (n := 3) (q := 79) rfl rfl (by decide +kernel) ?_
  refine B_iastore (q := 80) (stR kM111 b1.1 b1.2).1 (stR kM111 b1.1 b1.2).2 (by decide) ⟨by decide, by decide⟩ rfl (by decide +kernel) ?_
  refine P_iconst (n := 1) (q := 81) rfl (by decide +kernel) ?_
  refine P_zret rfl (Or.inr rfl) (by decide +kernel) h
theorem S_X10_turn_0 {X : CX} {d d1 : Nat} {x1 a2 : Int} {I R : PF} {Q Q1 : PV → PF → PF → Prop} (hs : Shp R) (e1 : d1 + 1 ≤ d) (hc : CN X d1 mX4_remember [(2, 136), (2, 111)] I R Q1) (h : ∀ z I2 R2, Q1 (9, z) I2 R2 → PN X d mX10_turn 11 [(2, 64), (0, x1), (2, a2)] [] I2 R2 Q) : PN X d mX10_turn 0 [(2, 64), (0, x1), (2, a2)] [] I R Q := by
  refine P_aload_n (n := 0) (q := 1) rfl rfl (by decide +kernel) ?_
  refine B_getfR (q := 4) fX10_92 kM64 (rM64_14 hs) rfl (by decide +kernel) ?_
  refine P_aload_n (n := 0) (q := 5) rfl rfl (by decide +kernel) ?_
  refine B_getfR (q := 8) fX10_73 kM64 (rM64_11 hs) rfl (by decide +kernel) ?_
  refine P_invV (As := [(2, 111)]) (q := 11) oX4_remember rfl kM136 kX10_314 e1 hMF (Nat.le_of_ble_eq_true rfl) hc rfl (by decide +kernel) (fun z I2 R2 hq => ?_)
  exact (h z I2 R2 hq)
theorem S_X10_turn_11 {X : CX} {d : Nat} {x1 a2 : Int} {I R : PF} {Q : PV → PF → PF → Prop} (h : PN X d mX10_turn 16 [(2, 64), (0, x1), (2, a2), (0, 0), (0, 0)] [] I R Q) : PN X d mX10_turn 11 [(2, 64), (0, x1), (2, a2)] [] I R Q := by
  refine P_iconst (n := 0) (q := 12) rfl (by decide +kernel) ?_
  refine P_istore_n (n := 3) (by decide) (q := 13) rfl (by decide +kernel) ?_
  refine P_iconst (n := 0) (q := 14) rfl (by decide +kernel) ?_
  refine P_istore (n := 4) (by decide) (q := 16) rfl (by decide +kernel) ?_
  exact h
theorem S_X10_turn_16 {X : CX} {d : Nat} {x1 a2 x3 x4 : Int} {I R : PF} {Q : PV → PF → PF → Prop} (c1 : -2147483648 ≤ x4 ∧ x4 < 2147483648) (c2 : -2147483648 ≤ x1 ∧ x1 < 2147483648) (h1 : x1 ≤ x4 → PN X d mX10_turn 90 [(9, 0), (9, 0), (9, 0), (0, x3)] [] I R Q) (h2 : x4 < x1 → PN X d mX10_turn 22 [(2, 64), (0, x1), (2, a2), (0, x3), (0, x4)] [] I R Q) : PN X d mX10_turn 16 [(2, 64), (0, x1), (2, a2), (0, x3), (0, x4)] [] I R Q := by
  refine P_iload (n := 4) (q := 18) rfl rfl (by decide +kernel) ?_
  refine P_iload_n (n := 1) (q := 19) rfl rfl (by decide +kernel) ?_
  refine B_icmp_ge (off := 71) (t := 90) (q := 22) c1 c2 (by decide) rfl (by decide +kernel) ?_ ?_
  · exact fun g9 => (PW_sub (ls' := [(9, 0), (9, 0), (9, 0), (0, x3)]) ⟨Or.inl rfl, Or.inl rfl, Or.inl rfl, Or.inr rfl, trivial⟩ (h1 g9))
  · exact fun g9 => (h2 g9)
theorem S_X10_turn_22 {X : CX} {d d1 : Nat} {x1 a2 x3 x4 t1 : Int} {I R : PF} {Q Q1 : PV → PF → PF → Prop} (hs : Shp R) (r1 : R 64 8 = t1) (e1 : d1 + 1 ≤ d) (hc : CN X d1 mX1_playNoon [(2, 127), (2, t1), (2, 111), (2, a2)] I R Q1) (h : ∀ z I2 R2, Q1 (9, z) I2 R2 → PN X d mX10_turn 47 [(2, 64), (0, x1), (2, a2), (0, x3), (0, x4), (0, (I 111 0))] [] I2 R2 Q) : PN X d mX10_turn 22 [(2, 64), (0, x1), (2, a2), (0, x3), (0, x4)] [] I R Q := by
  refine P_aload_n (n := 0) (q := 23) rfl rfl (by decide +kernel) ?_
  refine B_getfR (q := 26) fX10_73 kM64 (rM64_11 hs) rfl (by decide +kernel) ?_
  refine P_getf (q := 29) fX10_157 kM111 rfl (by decide +kernel) ?_
  refine P_istore (n := 5) (by decide) (q := 31) rfl (by decide +kernel) ?_
  refine P_aload_n (n := 0) (q := 32) rfl rfl (by decide +kernel) ?_
  refine B_getfR (q := 35) fX10_85 kM64 (rM64_13 hs) rfl (by decide +kernel) ?_
  refine P_aload_n (n := 0) (q := 36) rfl rfl (by decide +kernel) ?_
  refine B_getfR (q := 39) fX10_54 kM64 r1 rfl (by decide +kernel) ?_
  refine P_aload_n (n := 0) (q := 40) rfl rfl (by decide +kernel) ?_
  refine B_getfR (q := 43) fX10_73 kM64 (rM64_11 hs) rfl (by decide +kernel) ?_
  refine P_aload_n (n := 2) (q := 44) rfl rfl (by decide +kernel) ?_
  refine P_invV (As := [(2, t1), (2, 111), (2, a2)]) (q := 47) oX1_playNoon rfl kM127 kX10_287 e1 hMF (Nat.le_of_ble_eq_true rfl) hc rfl (by decide +kernel) (fun z I2 R2 hq => ?_)
  exact (h z I2 R2 hq)
theorem S_X10_turn_47 {X : CX} {d d1 : Nat} {x1 a2 x3 x4 x5 : Int} {I R : PF} {Q Q1 : PV → PF → PF → Prop} (hs : Shp R) (e1 : d1 + 1 ≤ d) (hc : CN X d1 mX4_keep [(2, 136), (0, x5), (0, (I 111 1)), (0, (I 127 6))] I R Q1) (h : ∀ z I2 R2, Q1 (9, z) I2 R2 → PN X d mX10_turn 70 [(2, 64), (0, x1), (2, a2), (0, x3), (0, x4)] [] I2 R2 Q) : PN X d mX10_turn 47 [(2, 64), (0, x1), (2, a2), (0, x3), (0, x4), (0, x5)] [] I R Q := by
  refine P_aload_n (n := 0) (q := 48) rfl rfl (by decide +kernel) ?_
  refine B_getfR (q := 51) fX10_92 kM64 (rM64_14 hs) rfl (by decide +kernel) ?_
  refine P_iload (n := 5) (q := 53) rfl rfl (by decide +kernel) ?_
  refine P_aload_n (n := 0) (q := 54) rfl rfl (by decide +kernel) ?_
  refine B_getfR (q := 57) fX10_73 kM64 (rM64_11 hs) rfl (by decide +kernel) ?_
  refine P_getf (q := 60) fX10_160 kM111 rfl (by decide +kernel) ?_
  refine P_aload_n (n := 0) (q := 61) rfl rfl (by decide +kernel) ?_
  refine B_getfR (q := 64) fX10_85 kM64 (rM64_13 hs) rfl (by decide +kernel) ?_
  refine P_getf (q := 67) fX10_231 kM127 rfl (by decide +kernel) ?_
  refine P_invV (As := [(0, x5), (0, (I 111 1)), (0, (I 127 6))]) (q := 70) oX4_keep rfl kM136 kX10_330 e1 hMF (Nat.le_of_ble_eq_true rfl) hc rfl (by decide +kernel) (fun z I2 R2 hq => ?_)
  exact (PW_sub (ls' := [(2, 64), (0, x1), (2, a2), (0, x3), (0, x4)]) ⟨Or.inr rfl, Or.inr rfl, Or.inr rfl, Or.inr rfl, Or.inr rfl, trivial⟩ (h z I2 R2 hq))
theorem S_X10_turn_70 {X : CX} {d : Nat} {x1 a2 x3 x4 : Int} {I R : PF} {Q : PV → PF → PF → Prop} (hs : Shp R) (c1 : -2147483648 ≤ (I 111 1) ∧ (I 111 1) < 2147483648) (h1 : (I 111 1) = (-1) → PN X d mX10_turn 84 [(2, 64), (0, x1), (2, a2), (0, x3), (0, x4)] [] I R Q) (h2 : (I 111 1) ≠ (-1) → PN X d mX10_turn 81 [(2, 64), (0, x1), (2, a2), (0, x3), (0, x4)] [] I R Q) : PN X d mX10_turn 70 [(2, 64), (0, x1), (2, a2), (0, x3), (0, x4)] [] I R Q := by
  refine P_aload_n (n := 0) (q := 71) rfl rfl (by decide +kernel) ?_
  refine B_getfR (q := 74) fX10_73 kM64 (rM64_11 hs) rfl (by decide +kernel) ?_
  refine P_getf (q := 77) fX10_160 kM111 rfl (by decide +kernel) ?_
  refine P_iconst (n := (-1)) (q := 78) rfl (by decide +kernel) ?_
  refine B_icmp_eq (off := 6) (t := 84) (q := 81) c1 ⟨by decide, by decide⟩ (by decide) rfl (by decide +kernel) ?_ ?_
  · exact fun g9 => (PW_sub (ls' := [(2, 64), (0, x1), (2, a2), (0, x3), (0, x4)]) ⟨Or.inr rfl, Or.inr rfl, Or.inr rfl, Or.inr rfl, Or.inr rfl, trivial⟩ (h1 g9))
  · exact fun g9 => (PW_sub (ls' := [(2, 64), (0, x1), (2, a2), (0, x3), (0, x4)]) ⟨Or.inr rfl, Or.inr rfl, Or.inr rfl, Or.inr rfl, Or.inr rfl, trivial⟩ (h2 g9))
theorem S_X10_turn_81 {X : CX} {d : Nat} {x1 a2 x3 x4 : Int} {I R : PF} {Q : PV → PF → PF → Prop} (h : PN X d mX10_turn 84 [(2, 64), (0, x1), (2, a2), (0, (x3 + 1)), (0, x4)] [] I R Q) : PN X d mX10_turn 81 [(2, 64), (0, x1), (2, a2), (0, x3), (0, x4)] [] I R Q := by
  refine P_iinc (n := 3) (a := 1) (by decide) rfl (q := 84) rfl (by decide +kernel) ?_
  exact (PW_sub (ls' := [(2, 64), (0, x1), (2, a2), (0, (x3 + 1)), (0, x4)]) ⟨Or.inr rfl, Or.inr rfl, Or.inr rfl, Or.inr rfl, Or.inr rfl, trivial⟩ h)
theorem S_X10_turn_84 {X : CX} {d : Nat} {x1 a2 x3 x4 : Int} {I R : PF} {Q : PV → PF → PF → Prop} (h : PN X d mX10_turn 16 [(2, 64), (0, x1), (2, a2), (0, x3), (0, (x4 + 1))] [] I R Q) : PN X d mX10_turn 84 [(2, 64), (0, x1), (2, a2), (0, x3), (0, x4)] [] I R Q := by
  refine P_iinc (n := 4) (a := 1) (by decide) rfl (q := 87) rfl (by decide +kernel) ?_
  refine P_goto (off := (-71)) (t := 16) (by decide) (by decide +kernel) ?_
  exact (PW_sub (ls' := [(2, 64), (0, x1), (2, a2), (0, x3), (0, (x4 + 1))]) ⟨Or.inr rfl, Or.inr rfl, Or.inr rfl, Or.inr rfl, Or.inr rfl, trivial⟩ h)
theorem S_X10_turn_90 {X : CX} {d : Nat} {x3 : Int} {I R : PF} {Q : PV → PF → PF → Prop} (h : Q (0, x3) I R) : PN X d mX10_turn 90 [(9, 0), (9, 0), (9, 0), (0, x3)] [] I R Q := by
  refine P_iload_n (n := 3) (q := 91) rfl rfl (by decide +kernel) ?_
  refine P_iret rfl (by decide +kernel) h
theorem S_X10_undo_0 {X : CX} {d d1 : Nat} {I R : PF} {Q Q1 : PV → PF → PF → Prop} (hs : Shp R) (e1 : d1 + 1 ≤ d) (hc : CN X d1 mX4_restore [(2, 136), (2, 111)] I R Q1) (h : ∀ z I2 R2, Q1 (0, z) I2 R2 → PN X d mX10_undo 11 [(2, 64)] [(0, z)] I2 R2 Q) : PN X d mX10_undo 0 [(2, 64)] [] I R Q := by
  refine P_aload_n (n := 0) (q := 1) rfl rfl (by decide +kernel) ?_
  refine B_getfR (q := 4) fX10_92 kM64 (rM64_14 hs) rfl (by decide +kernel) ?_
  refine P_aload_n (n := 0) (q := 5) rfl rfl (by decide +kernel) ?_
  refine B_getfR (q := 8) fX10_73 kM64 (rM64_11 hs) rfl (by decide +kernel) ?_
  refine P_invV (As := [(2, 111)]) (q := 11) oX4_restore rfl kM136 kX10_333 e1 hMF (Nat.le_of_ble_eq_true rfl) hc rfl (by decide +kernel) (fun z I2 R2 hq => ?_)
  exact (h z I2 R2 hq)
theorem S_X10_undo_11 {X : CX} {d : Nat} {o0 : Int} {I R : PF} {Q : PV → PF → PF → Prop} (c1 : -2147483648 ≤ o0 ∧ o0 < 2147483648) (h1 : o0 ≠ 0 → PN X d mX10_undo 26 [] [] I R Q) (h2 : o0 = 0 → PN X d mX10_undo 14 [(2, 64)] [] I R Q) : PN X d mX10_undo 11 [(2, 64)] [(0, o0)] I R Q := by
  refine B_if_ne (off := 15) (t := 26) (q := 14) c1 (by decide) rfl (by decide +kernel) ?_ ?_
  · exact fun g9 => (PW_sub (ls' := []) trivial (h1 g9))
  · exact fun g9 => (h2 g9)
theorem S_X10_undo_14 {X : CX} {d : Nat} {I R : PF} {Q : PV → PF → PF → Prop} (hs : Shp R) (h : Q (0, 0) (u2 I 66 4 ((I 66 4) + 1)) R) : PN X d mX10_undo 14 [(2, 64)] [] I R Q := by
  refine P_aload_n (n := 0) (q := 15) rfl rfl (by decide +kernel) ?_
  refine B_getfR (q := 18) fX10_17 kM64 (rM64_2 hs) rfl (by decide +kernel) ?_
  refine P_iconst (n := 4) (q := 19) rfl (by decide +kernel) ?_
  refine P_dup2 (q := 20) (Nat.ne_of_beq_eq_false rfl) (Nat.ne_of_beq_eq_false rfl) rfl (by decide +kernel) ?_
  refine B_iaload (q := 21) kM66 nM66 (by decide) ⟨by decide, by decide⟩ rfl (by decide +kernel) ?_
  refine P_iconst (n := 1) (q := 22) rfl (by decide +kernel) ?_
  refine P_iadd (q := 23) rfl (by decide +kernel) ?_
  refine B_iastore (q := 24) kM66 nM66 (by decide) ⟨by decide, by decide⟩ rfl (by decide +kernel) ?_
  refine P_iconst (n := 0) (q := 25) rfl (by decide +kernel) ?_
  refine P_zret rfl (Or.inl rfl) (by decide +kernel) h
theorem S_X10_undo_26 {X : CX} {d : Nat} {I R : PF} {Q : PV → PF → PF → Prop} (h : Q (0, 1) I R) : PN X d mX10_undo 26 [] [] I R Q := by
  refine P_iconst (n := 1) (q := 27) rfl (by decide +kernel) ?_
  refine P_zret rfl (Or.inr rfl) (by decide +kernel) h
theorem S_X10_wayOf_0 {X : CX} {d : Nat} {x0 : Int} {I R : PF} {Q : PV → PF → PF → Prop} (c1 : -2147483648 ≤ x0 ∧ x0 < 2147483648) (h1 : x0 ≠ 0 → PN X d mX10_wayOf 8 [(0, x0)] [] I R Q) (h2 : x0 = 0 → PN X d mX10_wayOf 4 [] [] I R Q) : PN X d mX10_wayOf 0 [(0, x0)] [] I R Q := by
  refine P_iload_n (n := 0) (q := 1) rfl rfl (by decide +kernel) ?_
  refine B_if_ne (off := 7) (t := 8) (q := 4) c1 (by decide) rfl (by decide +kernel) ?_ ?_
  · exact fun g9 => (h1 g9)
  · exact fun g9 => (PW_sub (ls' := []) trivial (h2 g9))
theorem S_X10_wayOf_4 {X : CX} {d : Nat} {I R : PF} {Q : PV → PF → PF → Prop} (h : PN X d mX10_wayOf 13 [] [(0, 0)] I R Q) : PN X d mX10_wayOf 4 [] [] I R Q := by
  refine P_iconst (n := 0) (q := 5) rfl (by decide +kernel) ?_
  refine P_goto (off := 8) (t := 13) (by decide) (by decide +kernel) ?_
  exact (PW_sub (ls' := []) trivial h)
theorem S_X10_wayOf_8 {X : CX} {d : Nat} {x0 : Int} {I R : PF} {Q : PV → PF → PF → Prop} (c1 : -2147483648 ≤ (x0 + 3) ∧ (x0 + 3) < 2147483648) (h : PN X d mX10_wayOf 13 [] [(0, ((x0 + 3).tdiv 4))] I R Q) : PN X d mX10_wayOf 8 [(0, x0)] [] I R Q := by
  refine P_iload_n (n := 0) (q := 9) rfl rfl (by decide +kernel) ?_
  refine P_iconst (n := 3) (q := 10) rfl (by decide +kernel) ?_
  refine P_iadd (q := 11) rfl (by decide +kernel) ?_
  refine P_iconst (n := 4) (q := 12) rfl (by decide +kernel) ?_
  refine B_idiv (q := 13) c1 ⟨by decide, by decide⟩ (by decide) rfl (by decide +kernel) ?_
  exact (PW_sub (ls' := []) trivial h)
theorem S_X10_wayOf_13 {X : CX} {d : Nat} {o0 : Int} {I R : PF} {Q : PV → PF → PF → Prop} (h : Q (0, o0) I R) : PN X d mX10_wayOf 13 [] [(0, o0)] I R Q := by
  refine P_iret rfl (by decide +kernel) h
theorem S_X10_wears_0 {X : CX} {d : Nat} {x1 : Int} {I R : PF} {Q : PV → PF → PF → Prop} (c1 : -2147483648 ≤ x1 ∧ x1 < 2147483648) (h1 : x1 < 0 → PN X d mX10_wears 12 [] [] I R Q) (h2 : 0 ≤ x1 → PN X d mX10_wears 4 [(2, 64), (0, x1)] [] I R Q) : PN X d mX10_wears 0 [(2, 64), (0, x1)] [] I R Q := by
  refine P_iload_n (n := 1) (q := 1) rfl rfl (by decide +kernel) ?_
  refine B_if_lt (off := 11) (t := 12) (q := 4) c1 (by decide) rfl (by decide +kernel) ?_ ?_
  · exact fun g9 => (PW_sub (ls' := []) trivial (h1 g9))
  · exact fun g9 => (h2 g9)
theorem S_X10_wears_4 {X : CX} {d : Nat} {x1 : Int} {I R : PF} {Q : PV → PF → PF → Prop} (c1 : -2147483648 ≤ x1 ∧ x1 < 2147483648) (c2 : -2147483648 ≤ (I 64 17) ∧ (I 64 17) < 2147483648) (h1 : x1 < (I 64 17) → PN X d mX10_wears 14 [(2, 64), (0, x1)] [] I R Q) (h2 : (I 64 17) ≤ x1 → PN X d mX10_wears 12 [] [] I R Q) : PN X d mX10_wears 4 [(2, 64), (0, x1)] [] I R Q := by
  refine P_iload_n (n := 1) (q := 5) rfl rfl (by decide +kernel) ?_
  refine P_aload_n (n := 0) (q := 6) rfl rfl (by decide +kernel) ?_
  refine P_getf (q := 9) fX10_106 kM64 rfl (by decide +kernel) ?_
  refine B_icmp_lt (off := 5) (t := 14) (q := 12) c1 c2 (by decide) rfl (by decide +kernel) ?_ ?_
  · exact fun g9 => (h1 g9)
  · exact fun g9 => (PW_sub (ls' := []) trivial (h2 g9))
theorem S_X10_wears_12 {X : CX} {d : Nat} {I R : PF} {Q : PV → PF → PF → Prop} (h : Q (0, (-1)) I R) : PN X d mX10_wears 12 [] [] I R Q := by
  refine P_iconst (n := (-1)) (q := 13) rfl (by decide +kernel) ?_
  refine P_iret rfl (by decide +kernel) h
theorem S_X10_wears_14 {X : CX} {d d1 : Nat} {x1 t1 : Int} {I R : PF} {Q Q1 : PV → PF → PF → Prop} (hs : Shp R) (r1 : R 64 8 = t1) (e1 : d1 + 1 ≤ d) (hc : CN X d1 mX1_prepare [(2, 127), (2, t1), (2, 111), (0, ((I 111 0) + x1)), (2, 0)] I R Q1) (h : ∀ z I2 R2, Q1 (9, z) I2 R2 → PN X d mX10_wears 39 [(2, 64), (0, x1)] [] I2 R2 Q) : PN X d mX10_wears 14 [(2, 64), (0, x1)] [] I R Q := by
  refine P_aload_n (n := 0) (q := 15) rfl rfl (by decide +kernel) ?_
  refine B_getfR (q := 18) fX10_85 kM64 (rM64_13 hs) rfl (by decide +kernel) ?_
  refine P_aload_n (n := 0) (q := 19) rfl rfl (by decide +kernel) ?_
  refine B_getfR (q := 22) fX10_54 kM64 r1 rfl (by decide +kernel) ?_
  refine P_aload_n (n := 0) (q := 23) rfl rfl (by decide +kernel) ?_
  refine B_getfR (q := 26) fX10_73 kM64 (rM64_11 hs) rfl (by decide +kernel) ?_
  refine P_aload_n (n := 0) (q := 27) rfl rfl (by decide +kernel) ?_
  refine B_getfR (q := 30) fX10_73 kM64 (rM64_11 hs) rfl (by decide +kernel) ?_
  refine P_getf (q := 33) fX10_157 kM111 rfl (by decide +kernel) ?_
  refine P_iload_n (n := 1) (q := 34) rfl rfl (by decide +kernel) ?_
  refine P_iadd (q := 35) rfl (by decide +kernel) ?_
  refine P_anull (q := 36) rfl (by decide +kernel) ?_
  refine P_invV (As := [(2, t1), (2, 111), (0, ((I 111 0) + x1)), (2, 0)]) (q := 39) oX1_prepare rfl kM127 kX10_215 e1 hMF (Nat.le_of_ble_eq_true rfl) hc rfl (by decide +kernel) (fun z I2 R2 hq => ?_)
  exact (h z I2 R2 hq)
theorem S_X10_wears_39 {X : CX} {d : Nat} {x1 : Int} {I R : PF} {Q : PV → PF → PF → Prop} (hs : Shp R) (b1 : (0 : Int) ≤ x1 ∧ x1 < 7) (c1 : -2147483648 ≤ (I 304 x1) ∧ (I 304 x1) < 2147483648) (h1 : (I 304 x1) ≠ 255 → PN X d mX10_wears 55 [(2, 64), (0, x1)] [] I R Q) (h2 : (I 304 x1) = 255 → PN X d mX10_wears 51 [(2, 64)] [] I R Q) : PN X d mX10_wears 39 [(2, 64), (0, x1)] [] I R Q := by
  refine P_aload_n (n := 0) (q := 40) rfl rfl (by decide +kernel) ?_
  refine B_getfR (q := 43) fX10_103 kM64 (rM64_16 hs) rfl (by decide +kernel) ?_
  refine P_iload_n (n := 1) (q := 44) rfl rfl (by decide +kernel) ?_
  refine B_iaload (q := 45) kM304 nM304 (by decide) b1 rfl (by decide +kernel) ?_
  refine P_sipush (n := 255) (q := 48) rfl rfl (by decide +kernel) ?_
  refine B_icmp_ne (off := 7) (t := 55) (q := 51) c1 ⟨by decide, by decide⟩ (by decide) rfl (by decide +kernel) ?_ ?_
  · exact fun g9 => (h1 g9)
  · exact fun g9 => (PW_sub (ls' := [(2, 64)]) ⟨Or.inr rfl, trivial⟩ (h2 g9))
theorem S_X10_wears_51 {X : CX} {d : Nat} {I R : PF} {Q : PV → PF → PF → Prop} (h : PN X d mX10_wears 61 [(2, 64)] [(0, (-1))] I R Q) : PN X d mX10_wears 51 [(2, 64)] [] I R Q := by
  refine P_iconst (n := (-1)) (q := 52) rfl (by decide +kernel) ?_
  refine P_goto (off := 9) (t := 61) (by decide) (by decide +kernel) ?_
  exact (PW_sub (ls' := [(2, 64)]) ⟨Or.inr rfl, trivial⟩ h)
theorem S_X10_wears_55 {X : CX} {d : Nat} {x1 : Int} {I R : PF} {Q : PV → PF → PF → Prop} (hs : Shp R) (b1 : (0 : Int) ≤ x1 ∧ x1 < 7) (h : PN X d mX10_wears 61 [(2, 64)] [(0, (I 304 x1))] I R Q) : PN X d mX10_wears 55 [(2, 64), (0, x1)] [] I R Q := by
  refine P_aload_n (n := 0) (q := 56) rfl rfl (by decide +kernel) ?_
  refine B_getfR (q := 59) fX10_103 kM64 (rM64_16 hs) rfl (by decide +kernel) ?_
  refine P_iload_n (n := 1) (q := 60) rfl rfl (by decide +kernel) ?_
  refine B_iaload (q := 61) kM304 nM304 (by decide) b1 rfl (by decide +kernel) ?_
  exact (PW_sub (ls' := [(2, 64)]) ⟨Or.inr rfl, trivial⟩ h)
theorem S_X10_wears_61 {X : CX} {d : Nat} {o0 : Int} {I R : PF} {Q : PV → PF → PF → Prop} (h : PN X d mX10_wears 67 [(2, 64), (9, 0), (0, o0), (0, 0), (0, 0)] [] I R Q) : PN X d mX10_wears 61 [(2, 64)] [(0, o0)] I R Q := by
  refine P_istore_n (n := 2) (by decide) (q := 62) rfl (by decide +kernel) ?_
  refine P_iconst (n := 0) (q := 63) rfl (by decide +kernel) ?_
  refine P_istore_n (n := 3) (by decide) (q := 64) rfl (by decide +kernel) ?_
  refine P_iconst (n := 0) (q := 65) rfl (by decide +kernel) ?_
  refine P_istore (n := 4) (by decide) (q := 67) rfl (by decide +kernel) ?_
  exact h
theorem S_X10_wears_67 {X : CX} {d : Nat} {x2 x3 x4 : Int} {I R : PF} {Q : PV → PF → PF → Prop} (c1 : -2147483648 ≤ x4 ∧ x4 < 2147483648) (h1 : 33 ≤ x4 → PN X d mX10_wears 122 [(9, 0), (9, 0), (9, 0), (0, x3)] [] I R Q) (h2 : x4 < 33 → PN X d mX10_wears 74 [(2, 64), (9, 0), (0, x2), (0, x3), (0, x4)] [] I R Q) : PN X d mX10_wears 67 [(2, 64), (9, 0), (0, x2), (0, x3), (0, x4)] [] I R Q := by
  refine P_iload (n := 4) (q := 69) rfl rfl (by decide +kernel) ?_
  refine P_bipush (n := 33) (q := 71) rfl rfl (by decide +kernel) ?_
  refine B_icmp_ge (off := 51) (t := 122) (q := 74) c1 ⟨by decide, by decide⟩ (by decide) rfl (by decide +kernel) ?_ ?_
  · exact fun g9 => (PW_sub (ls' := [(9, 0), (9, 0), (9, 0), (0, x3)]) ⟨Or.inl rfl, Or.inl rfl, Or.inl rfl, Or.inr rfl, trivial⟩ (h1 g9))
  · exact fun g9 => (h2 g9)
theorem S_X10_wears_74 {X : CX} {d d1 : Nat} {x2 x3 x4 : Int} {I R : PF} {Q Q1 : PV → PF → PF → Prop} (hs : Shp R) (e1 : d1 + 1 ≤ d) (hc : CN X d1 mX1_got [(2, 127), (0, x4)] I R Q1) (h : ∀ z I2 R2, Q1 (0, z) I2 R2 → PN X d mX10_wears 83 [(2, 64), (9, 0), (0, x2), (0, x3), (0, x4)] [(0, z)] I2 R2 Q) : PN X d mX10_wears 74 [(2, 64), (9, 0), (0, x2), (0, x3), (0, x4)] [] I R Q := by
  refine P_aload_n (n := 0) (q := 75) rfl rfl (by decide +kernel) ?_
  refine B_getfR (q := 78) fX10_85 kM64 (rM64_13 hs) rfl (by decide +kernel) ?_
  refine P_iload (n := 4) (q := 80) rfl rfl (by decide +kernel) ?_
  refine P_invV (As := [(0, x4)]) (q := 83) oX1_got rfl kM127 kX10_261 e1 hMF (Nat.le_of_ble_eq_true rfl) hc rfl (by decide +kernel) (fun z I2 R2 hq => ?_)
  exact (h z I2 R2 hq)
theorem S_X10_wears_83 {X : CX} {d d1 : Nat} {x2 x3 x4 o0 : Int} {I R : PF} {Q Q1 : PV → PF → PF → Prop} (hs : Shp R) (e1 : d1 + 1 ≤ d) (hc : CN X d1 mX8_lawOf [(2, 111), (0, o0)] I R Q1) (h : ∀ z I2 R2, Q1 (0, z) I2 R2 → PN X d mX10_wears 94 [(2, 64), (9, 0), (0, x2), (0, x3), (0, x4), (0, o0)] [(0, z)] I2 R2 Q) : PN X d mX10_wears 83 [(2, 64), (9, 0), (0, x2), (0, x3), (0, x4)] [(0, o0)] I R Q := by
  refine P_istore (n := 5) (by decide) (q := 85) rfl (by decide +kernel) ?_
  refine P_aload_n (n := 0) (q := 86) rfl rfl (by decide +kernel) ?_
  refine B_getfR (q := 89) fX10_73 kM64 (rM64_11 hs) rfl (by decide +kernel) ?_
  refine P_iload (n := 5) (q := 91) rfl rfl (by decide +kernel) ?_
  refine P_invV (As := [(0, o0)]) (q := 94) oX8_lawOf rfl kM111 kX10_300 e1 hMF (Nat.le_of_ble_eq_true rfl) hc rfl (by decide +kernel) (fun z I2 R2 hq => ?_)
  exact (h z I2 R2 hq)
theorem S_X10_wears_94 {X : CX} {d : Nat} {x2 x3 x4 x5 o0 : Int} {I R : PF} {Q : PV → PF → PF → Prop} (c1 : -2147483648 ≤ o0 ∧ o0 < 2147483648) (c2 : -2147483648 ≤ x2 ∧ x2 < 2147483648) (h1 : o0 ≠ x2 → PN X d mX10_wears 116 [(2, 64), (9, 0), (0, x2), (0, x3), (0, x4)] [] I R Q) (h2 : o0 = x2 → PN X d mX10_wears 98 [(2, 64), (9, 0), (0, x2), (0, x3), (0, x4), (0, x5)] [] I R Q) : PN X d mX10_wears 94 [(2, 64), (9, 0), (0, x2), (0, x3), (0, x4), (0, x5)] [(0, o0)] I R Q := by
  refine P_iload_n (n := 2) (q := 95) rfl rfl (by decide +kernel) ?_
  refine B_icmp_ne (off := 21) (t := 116) (q := 98) c1 c2 (by decide) rfl (by decide +kernel) ?_ ?_
  · exact fun g9 => (PW_sub (ls' := [(2, 64), (9, 0), (0, x2), (0, x3), (0, x4)]) ⟨Or.inr rfl, Or.inl rfl, Or.inr rfl, Or.inr rfl, Or.inr rfl, trivial⟩ (h1 g9))
  · exact fun g9 => (h2 g9)
theorem S_X10_wears_98 {X : CX} {d : Nat} {x2 x3 x4 x5 : Int} {I R : PF} {Q : PV → PF → PF → Prop} (c1 : -2147483648 ≤ x5 ∧ x5 < 2147483648) (h1 : x5 ≠ (-1) → PN X d mX10_wears 110 [(2, 64), (9, 0), (0, x2), (9, 0), (0, x4), (0, x5)] [(0, x3)] I R Q) (h2 : x5 = (-1) → PN X d mX10_wears 105 [(2, 64), (9, 0), (0, x2), (9, 0), (0, x4)] [(0, x3)] I R Q) : PN X d mX10_wears 98 [(2, 64), (9, 0), (0, x2), (0, x3), (0, x4), (0, x5)] [] I R Q := by
  refine P_iload_n (n := 3) (q := 99) rfl rfl (by decide +kernel) ?_
  refine P_iload (n := 5) (q := 101) rfl rfl (by decide +kernel) ?_
  refine P_iconst (n := (-1)) (q := 102) rfl (by decide +kernel) ?_
  refine B_icmp_ne (off := 8) (t := 110) (q := 105) c1 ⟨by decide, by decide⟩ (by decide) rfl (by decide +kernel) ?_ ?_
  · exact fun g9 => (PW_sub (ls' := [(2, 64), (9, 0), (0, x2), (9, 0), (0, x4), (0, x5)]) ⟨Or.inr rfl, Or.inl rfl, Or.inr rfl, Or.inl rfl, Or.inr rfl, Or.inr rfl, trivial⟩ (h1 g9))
  · exact fun g9 => (PW_sub (ls' := [(2, 64), (9, 0), (0, x2), (9, 0), (0, x4)]) ⟨Or.inr rfl, Or.inl rfl, Or.inr rfl, Or.inl rfl, Or.inr rfl, trivial⟩ (h2 g9))
theorem S_X10_wears_105 {X : CX} {d : Nat} {x2 x4 o0 : Int} {I R : PF} {Q : PV → PF → PF → Prop} (h : PN X d mX10_wears 114 [(2, 64), (9, 0), (0, x2), (9, 0), (0, x4)] [(0, 64), (0, o0)] I R Q) : PN X d mX10_wears 105 [(2, 64), (9, 0), (0, x2), (9, 0), (0, x4)] [(0, o0)] I R Q := by
  refine P_bipush (n := 64) (q := 107) rfl rfl (by decide +kernel) ?_
  refine P_goto (off := 7) (t := 114) (by decide) (by decide +kernel) ?_
  exact (PW_sub (ls' := [(2, 64), (9, 0), (0, x2), (9, 0), (0, x4)]) ⟨Or.inr rfl, Or.inl rfl, Or.inr rfl, Or.inl rfl, Or.inr rfl, trivial⟩ h)
theorem S_X10_wears_110 {X : CX} {d : Nat} {x2 x4 x5 o0 : Int} {I R : PF} {Q : PV → PF → PF → Prop} (h : PN X d mX10_wears 114 [(2, 64), (9, 0), (0, x2), (9, 0), (0, x4)] [(0, (shl32 1 x5)), (0, o0)] I R Q) : PN X d mX10_wears 110 [(2, 64), (9, 0), (0, x2), (9, 0), (0, x4), (0, x5)] [(0, o0)] I R Q := by
  refine P_iconst (n := 1) (q := 111) rfl (by decide +kernel) ?_
  refine P_iload (n := 5) (q := 113) rfl rfl (by decide +kernel) ?_
  refine P_ishl (q := 114) rfl (by decide +kernel) ?_
  exact (PW_sub (ls' := [(2, 64), (9, 0), (0, x2), (9, 0), (0, x4)]) ⟨Or.inr rfl, Or.inl rfl, Or.inr rfl, Or.inl rfl, Or.inr rfl, trivial⟩ h)
theorem S_X10_wears_114 {X : CX} {d : Nat} {x2 x4 o0 o1 : Int} {I R : PF} {Q : PV → PF → PF → Prop} (h : PN X d mX10_wears 116 [(2, 64), (9, 0), (0, x2), (0, ((Int32.ofInt o0 ||| Int32.ofInt o1).toInt)), (0, x4)] [] I R Q) : PN X d mX10_wears 114 [(2, 64), (9, 0), (0, x2), (9, 0), (0, x4)] [(0, o1), (0, o0)] I R Q := by
  refine P_ior (q := 115) rfl (by decide +kernel) ?_
  refine P_istore_n (n := 3) (by decide) (q := 116) rfl (by decide +kernel) ?_
  exact (PW_sub (ls' := [(2, 64), (9, 0), (0, x2), (0, ((Int32.ofInt o0 ||| Int32.ofInt o1).toInt)), (0, x4)]) ⟨Or.inr rfl, Or.inl rfl, Or.inr rfl, Or.inr rfl, Or.inr rfl, trivial⟩ h)
theorem S_X10_wears_116 {X : CX} {d : Nat} {x2 x3 x4 : Int} {I R : PF} {Q : PV → PF → PF → Prop} (h : PN X d mX10_wears 67 [(2, 64), (9, 0), (0, x2), (0, x3), (0, (x4 + 1))] [] I R Q) : PN X d mX10_wears 116 [(2, 64), (9, 0), (0, x2), (0, x3), (0, x4)] [] I R Q := by
  refine P_iinc (n := 4) (a := 1) (by decide) rfl (q := 119) rfl (by decide +kernel) ?_
  refine P_goto (off := (-52)) (t := 67) (by decide) (by decide +kernel) ?_
  exact (PW_sub (ls' := [(2, 64), (9, 0), (0, x2), (0, x3), (0, (x4 + 1))]) ⟨Or.inr rfl, Or.inl rfl, Or.inr rfl, Or.inr rfl, Or.inr rfl, trivial⟩ h)
theorem S_X10_wears_122 {X : CX} {d : Nat} {x3 : Int} {I R : PF} {Q : PV → PF → PF → Prop} (h : Q (0, x3) I R) : PN X d mX10_wears 122 [(9, 0), (9, 0), (9, 0), (0, x3)] [] I R Q := by
  refine P_iload_n (n := 3) (q := 123) rfl rfl (by decide +kernel) ?_
  refine P_iret rfl (by decide +kernel) h
theorem S_X11_across_0 {X : CX} {d : Nat} {x0 : Int} {I R : PF} {Q : PV → PF → PF → Prop} (c1 : -2147483648 ≤ x0 ∧ x0 < 2147483648) (h1 : x0 = 2 → PN X d mX11_across 15 [] [] I R Q) (h2 : x0 ≠ 2 → PN X d mX11_across 5 [(0, x0)] [] I R Q) : PN X d mX11_across 0 [(0, x0)] [] I R Q := by
  refine P_iload_n (n := 0) (q := 1) rfl rfl (by decide +kernel) ?_
  refine P_iconst (n := 2) (q := 2) rfl (by decide +kernel) ?_
  refine B_icmp_eq (off := 13) (t := 15) (q := 5) c1 ⟨by decide, by decide⟩ (by decide) rfl (by decide +kernel) ?_ ?_
  · exact fun g9 => (PW_sub (ls' := []) trivial (h1 g9))
  · exact fun g9 => (h2 g9)
theorem S_X11_across_5 {X : CX} {d : Nat} {x0 : Int} {I R : PF} {Q : PV → PF → PF → Prop} (c1 : -2147483648 ≤ x0 ∧ x0 < 2147483648) (h1 : x0 = 3 → PN X d mX11_across 15 [] [] I R Q) (h2 : x0 ≠ 3 → PN X d mX11_across 10 [(0, x0)] [] I R Q) : PN X d mX11_across 5 [(0, x0)] [] I R Q := by
  refine P_iload_n (n := 0) (q := 6) rfl rfl (by decide +kernel) ?_
  refine P_iconst (n := 3) (q := 7) rfl (by decide +kernel) ?_
  refine B_icmp_eq (off := 8) (t := 15) (q := 10) c1 ⟨by decide, by decide⟩ (by decide) rfl (by decide +kernel) ?_ ?_
  · exact fun g9 => (PW_sub (ls' := []) trivial (h1 g9))
  · exact fun g9 => (h2 g9)
theorem S_X11_across_10 {X : CX} {d : Nat} {x0 : Int} {I R : PF} {Q : PV → PF → PF → Prop} (c1 : -2147483648 ≤ x0 ∧ x0 < 2147483648) (h1 : x0 ≠ 4 → PN X d mX11_across 19 [(0, x0)] [] I R Q) (h2 : x0 = 4 → PN X d mX11_across 15 [] [] I R Q) : PN X d mX11_across 10 [(0, x0)] [] I R Q := by
  refine P_iload_n (n := 0) (q := 11) rfl rfl (by decide +kernel) ?_
  refine P_iconst (n := 4) (q := 12) rfl (by decide +kernel) ?_
  refine B_icmp_ne (off := 7) (t := 19) (q := 15) c1 ⟨by decide, by decide⟩ (by decide) rfl (by decide +kernel) ?_ ?_
  · exact fun g9 => (h1 g9)
  · exact fun g9 => (PW_sub (ls' := []) trivial (h2 g9))
theorem S_X11_across_15 {X : CX} {d : Nat} {I R : PF} {Q : PV → PF → PF → Prop} (h : PN X d mX11_across 42 [] [(0, 1)] I R Q) : PN X d mX11_across 15 [] [] I R Q := by
  refine P_iconst (n := 1) (q := 16) rfl (by decide +kernel) ?_
  refine P_goto (off := 26) (t := 42) (by decide) (by decide +kernel) ?_
  exact (PW_sub (ls' := []) trivial h)
theorem S_X11_across_19 {X : CX} {d : Nat} {x0 : Int} {I R : PF} {Q : PV → PF → PF → Prop} (c1 : -2147483648 ≤ x0 ∧ x0 < 2147483648) (h1 : x0 = 6 → PN X d mX11_across 37 [] [] I R Q) (h2 : x0 ≠ 6 → PN X d mX11_across 25 [(0, x0)] [] I R Q) : PN X d mX11_across 19 [(0, x0)] [] I R Q := by
  refine P_iload_n (n := 0) (q := 20) rfl rfl (by decide +kernel) ?_
  refine P_bipush (n := 6) (q := 22) rfl rfl (by decide +kernel) ?_
  refine B_icmp_eq (off := 15) (t := 37) (q := 25) c1 ⟨by decide, by decide⟩ (by decide) rfl (by decide +kernel) ?_ ?_
  · exact fun g9 => (PW_sub (ls' := []) trivial (h1 g9))
  · exact fun g9 => (h2 g9)
theorem S_X11_across_25 {X : CX} {d : Nat} {x0 : Int} {I R : PF} {Q : PV → PF → PF → Prop} (c1 : -2147483648 ≤ x0 ∧ x0 < 2147483648) (h1 : x0 = 7 → PN X d mX11_across 37 [] [] I R Q) (h2 : x0 ≠ 7 → PN X d mX11_across 31 [(0, x0)] [] I R Q) : PN X d mX11_across 25 [(0, x0)] [] I R Q := by
  refine P_iload_n (n := 0) (q := 26) rfl rfl (by decide +kernel) ?_
  refine P_bipush (n := 7) (q := 28) rfl rfl (by decide +kernel) ?_
  refine B_icmp_eq (off := 9) (t := 37) (q := 31) c1 ⟨by decide, by decide⟩ (by decide) rfl (by decide +kernel) ?_ ?_
  · exact fun g9 => (PW_sub (ls' := []) trivial (h1 g9))
  · exact fun g9 => (h2 g9)
theorem S_X11_across_31 {X : CX} {d : Nat} {x0 : Int} {I R : PF} {Q : PV → PF → PF → Prop} (c1 : -2147483648 ≤ x0 ∧ x0 < 2147483648) (h1 : x0 ≠ 8 → PN X d mX11_across 41 [] [] I R Q) (h2 : x0 = 8 → PN X d mX11_across 37 [] [] I R Q) : PN X d mX11_across 31 [(0, x0)] [] I R Q := by
  refine P_iload_n (n := 0) (q := 32) rfl rfl (by decide +kernel) ?_
  refine P_bipush (n := 8) (q := 34) rfl rfl (by decide +kernel) ?_
  refine B_icmp_ne (off := 7) (t := 41) (q := 37) c1 ⟨by decide, by decide⟩ (by decide) rfl (by decide +kernel) ?_ ?_
  · exact fun g9 => (PW_sub (ls' := []) trivial (h1 g9))
  · exact fun g9 => (PW_sub (ls' := []) trivial (h2 g9))
theorem S_X11_across_37 {X : CX} {d : Nat} {I R : PF} {Q : PV → PF → PF → Prop} (h : PN X d mX11_across 42 [] [(0, (-1))] I R Q) : PN X d mX11_across 37 [] [] I R Q := by
  refine P_iconst (n := (-1)) (q := 38) rfl (by decide +kernel) ?_
  refine P_goto (off := 4) (t := 42) (by decide) (by decide +kernel) ?_
  exact (PW_sub (ls' := []) trivial h)
theorem S_X11_across_41 {X : CX} {d : Nat} {I R : PF} {Q : PV → PF → PF → Prop} (h : PN X d mX11_across 42 [] [(0, 0)] I R Q) : PN X d mX11_across 41 [] [] I R Q := by
  refine P_iconst (n := 0) (q := 42) rfl (by decide +kernel) ?_
  exact (PW_sub (ls' := []) trivial h)
theorem S_X11_across_42 {X : CX} {d : Nat} {o0 : Int} {I R : PF} {Q : PV → PF → PF → Prop} (h : Q (0, o0) I R) : PN X d mX11_across 42 [] [(0, o0)] I R Q := by
  refine P_iret rfl (by decide +kernel) h
theorem S_X11_ask_0 {X : CX} {d : Nat} {I R : PF} {Q : PV → PF → PF → Prop} (c1 : -2147483648 ≤ (I 306 55) ∧ (I 306 55) < 2147483648) (h1 : (I 306 55) ≠ 0 → PN X d mX11_ask 16 [(2, 306)] [] I R Q) (h2 : (I 306 55) = 0 → PN X d mX11_ask 7 [(2, 306)] [] I R Q) : PN X d mX11_ask 0 [(2, 306)] [] I R Q := by
  refine P_aload_n (n := 0) (q := 1) rfl rfl (by decide +kernel) ?_
  refine P_getf (q := 4) fX11_296 kM306 rfl (by decide +kernel) ?_
  refine B_if_ne (off := 12) (t := 16) (q := 7) c1 (by decide) rfl (by decide +kernel) ?_ ?_
  · exact fun g9 => (h1 g9)
  · exact fun g9 => (h2 g9)
theorem S_X11_ask_7 {X : CX} {d : Nat} {I R : PF} {Q : PV → PF → PF → Prop} (h : Q (1, (-1000000000000000)) (u2 I 306 1 0) R) : PN X d mX11_ask 7 [(2, 306)] [] I R Q := by
  refine P_aload_n (n := 0) (q := 8) rfl rfl (by decide +kernel) ?_
  refine P_iconst (n := 0) (q := 9) rfl (by decide +kernel) ?_
  refine P_putI (q := 12) wX11_1 (fun h => by cases h) kM306 rfl (by decide +kernel) ?_
  refine P_ldc2 (ix := 686) (v := (-1000000000000000)) (x := (-1000000000000000)) (q := 15) rfl (tGp9 21 rfl rfl) rfl (by decide +kernel) ?_
  refine P_lret rfl (by decide +kernel) h
theorem S_X11_ask_16 {X : CX} {d d1 : Nat} {I R : PF} {Q Q1 : PV → PF → PF → Prop} (e1 : d1 + 1 ≤ d) (hc : CN X d1 mX11_qKind [(2, 306)] (u2 (u2 (u2 (u2 (u2 (u2 (u2 (u2 (u2 (u2 (u2 I 306 3 (I 306 1)) 306 1 0) 306 2 0) 306 4 (-1)) 306 5 0) 306 6 (-1)) 306 56 2) 306 104 0) 306 106 0) 306 107 0) 306 108 0) R Q1) (h : ∀ z I2 R2, Q1 (0, z) I2 R2 → PN X d mX11_ask 78 [(2, 306)] [(0, z)] I2 R2 Q) : PN X d mX11_ask 16 [(2, 306)] [] I R Q := by
  refine P_aload_n (n := 0) (q := 17) rfl rfl (by decide +kernel) ?_
  refine P_aload_n (n := 0) (q := 18) rfl rfl (by decide +kernel) ?_
  refine P_getf (q := 21) fX11_1 kM306 rfl (by decide +kernel) ?_
  refine P_putI (q := 24) wX11_23 (fun h => by cases h) kM306 rfl (by decide +kernel) ?_
  refine P_aload_n (n := 0) (q := 25) rfl rfl (by decide +kernel) ?_
  refine P_iconst (n := 0) (q := 26) rfl (by decide +kernel) ?_
  refine P_putI (q := 29) wX11_1 (fun h => by cases h) kM306 rfl (by decide +kernel) ?_
  refine P_aload_n (n := 0) (q := 30) rfl rfl (by decide +kernel) ?_
  refine P_iconst (n := 0) (q := 31) rfl (by decide +kernel) ?_
  refine P_putI (q := 34) wX11_20 (fun h => by cases h) kM306 rfl (by decide +kernel) ?_
  refine P_aload_n (n := 0) (q := 35) rfl rfl (by decide +kernel) ?_
  refine P_iconst (n := (-1)) (q := 36) rfl (by decide +kernel) ?_
  refine P_putI (q := 39) wX11_34 (fun h => by cases h) kM306 rfl (by decide +kernel) ?_
  refine P_aload_n (n := 0) (q := 40) rfl rfl (by decide +kernel) ?_
  refine P_iconst (n := 0) (q := 41) rfl (by decide +kernel) ?_
  refine P_putI (q := 44) wX11_14 (fun h => by cases h) kM306 rfl (by decide +kernel) ?_
  refine P_aload_n (n := 0) (q := 45) rfl rfl (by decide +kernel) ?_
  refine P_iconst (n := (-1)) (q := 46) rfl (by decide +kernel) ?_
  refine P_putI (q := 49) wX11_17 (fun h => by cases h) kM306 rfl (by decide +kernel) ?_
  refine P_aload_n (n := 0) (q := 50) rfl rfl (by decide +kernel) ?_
  refine P_iconst (n := 2) (q := 51) rfl (by decide +kernel) ?_
  refine P_putI (q := 54) wX11_163 (fun h => by cases h) kM306 rfl (by decide +kernel) ?_
  refine P_aload_n (n := 0) (q := 55) rfl rfl (by decide +kernel) ?_
  refine P_iconst (n := 0) (q := 56) rfl (by decide +kernel) ?_
  refine P_putI (q := 59) wX11_232 (fun h => by cases h) kM306 rfl (by decide +kernel) ?_
  refine P_aload_n (n := 0) (q := 60) rfl rfl (by decide +kernel) ?_
  refine P_iconst (n := 0) (q := 61) rfl (by decide +kernel) ?_
  refine P_putI (q := 64) wX11_235 (fun h => by cases h) kM306 rfl (by decide +kernel) ?_
  refine P_aload_n (n := 0) (q := 65) rfl rfl (by decide +kernel) ?_
  refine P_iconst (n := 0) (q := 66) rfl (by decide +kernel) ?_
  refine P_putI (q := 69) wX11_238 (fun h => by cases h) kM306 rfl (by decide +kernel) ?_
  refine P_aload_n (n := 0) (q := 70) rfl rfl (by decide +kernel) ?_
  refine P_iconst (n := 0) (q := 71) rfl (by decide +kernel) ?_
  refine P_putI (q := 74) wX11_241 (fun h => by cases h) kM306 rfl (by decide +kernel) ?_
  refine P_aload_n (n := 0) (q := 75) rfl rfl (by decide +kernel) ?_
  refine P_invV (As := []) (q := 78) oX11_qKind rfl kM306 kX11_688 e1 hMF (Nat.le_of_ble_eq_true rfl) hc rfl (by decide +kernel) (fun z I2 R2 hq => ?_)
  exact (h z I2 R2 hq)
theorem S_X11_ask_78 {X : CX} {d : Nat} {o0 : Int} {I R : PF} {Q : PV → PF → PF → Prop} (c1 : -2147483648 ≤ (I 306 5) ∧ (I 306 5) < 2147483648) (h1 : (I 306 5) ≠ 0 → PN X d mX11_ask 98 [(2, 306), (0, o0)] [] I R Q) (h2 : (I 306 5) = 0 → PN X d mX11_ask 86 [(2, 306), (0, o0)] [] I R Q) : PN X d mX11_ask 78 [(2, 306)] [(0, o0)] I R Q := by
  refine P_istore_n (n := 1) (by decide) (q := 79) rfl (by decide +kernel) ?_
  refine P_aload_n (n := 0) (q := 80) rfl rfl (by decide +kernel) ?_
  refine P_getf (q := 83) fX11_14 kM306 rfl (by decide +kernel) ?_
  refine B_if_ne (off := 15) (t := 98) (q := 86) c1 (by decide) rfl (by decide +kernel) ?_ ?_
  · exact fun g9 => (h1 g9)
  · exact fun g9 => (h2 g9)
theorem S_X11_ask_86 {X : CX} {d : Nat} {x1 : Int} {I R : PF} {Q : PV → PF → PF → Prop} (c1 : -2147483648 ≤ x1 ∧ x1 < 2147483648) (h1 : 3 ≤ x1 → PN X d mX11_ask 98 [(2, 306), (0, x1)] [] I R Q) (h2 : x1 < 3 → PN X d mX11_ask 91 [(2, 306), (0, x1)] [] I R Q) : PN X d mX11_ask 86 [(2, 306), (0, x1)] [] I R Q := by
  refine P_iload_n (n := 1) (q := 87) rfl rfl (by decide +kernel) ?_
  refine P_iconst (n := 3) (q := 88) rfl (by decide +kernel) ?_
  refine B_icmp_ge (off := 10) (t := 98) (q := 91) c1 ⟨by decide, by decide⟩ (by decide) rfl (by decide +kernel) ?_ ?_
  · exact fun g9 => (h1 g9)
  · exact fun g9 => (h2 g9)
theorem S_X11_ask_91 {X : CX} {d d1 : Nat} {x1 : Int} {I R : PF} {Q Q1 : PV → PF → PF → Prop} (e1 : d1 + 1 ≤ d) (hc : CN X d1 mX11_qTest [(2, 306)] I R Q1) (h : ∀ z I2 R2, Q1 (9, z) I2 R2 → PN X d mX11_ask 95 [(2, 306), (0, x1)] [] I2 R2 Q) : PN X d mX11_ask 91 [(2, 306), (0, x1)] [] I R Q := by
  refine P_aload_n (n := 0) (q := 92) rfl rfl (by decide +kernel) ?_
  refine P_invV (As := []) (q := 95) oX11_qTest rfl kM306 kX11_244 e1 hMF (Nat.le_of_ble_eq_true rfl) hc rfl (by decide +kernel) (fun z I2 R2 hq => ?_)
  exact (h z I2 R2 hq)
theorem S_X11_ask_95 {X : CX} {d : Nat} {x1 : Int} {I R : PF} {Q : PV → PF → PF → Prop} (h : PN X d mX11_ask 109 [(2, 306), (0, x1)] [] I R Q) : PN X d mX11_ask 95 [(2, 306), (0, x1)] [] I R Q := by
  refine P_goto (off := 14) (t := 109) (by decide) (by decide +kernel) ?_
  exact h
theorem S_X11_ask_98 {X : CX} {d : Nat} {x1 : Int} {I R : PF} {Q : PV → PF → PF → Prop} (c1 : -2147483648 ≤ (I 306 5) ∧ (I 306 5) < 2147483648) (h1 : (I 306 5) ≠ 0 → PN X d mX11_ask 109 [(2, 306), (0, x1)] [] I R Q) (h2 : (I 306 5) = 0 → PN X d mX11_ask 105 [(2, 306), (0, x1)] [] I R Q) : PN X d mX11_ask 98 [(2, 306), (0, x1)] [] I R Q := by
  refine P_aload_n (n := 0) (q := 99) rfl rfl (by decide +kernel) ?_
  refine P_getf (q := 102) fX11_14 kM306 rfl (by decide +kernel) ?_
  refine B_if_ne (off := 7) (t := 109) (q := 105) c1 (by decide) rfl (by decide +kernel) ?_ ?_
  · exact fun g9 => (h1 g9)
  · exact fun g9 => (h2 g9)
theorem S_X11_ask_105 {X : CX} {d d1 : Nat} {x1 : Int} {I R : PF} {Q Q1 : PV → PF → PF → Prop} (e1 : d1 + 1 ≤ d) (hc : CN X d1 mX11_qSums [(2, 306)] I R Q1) (h : ∀ z I2 R2, Q1 (9, z) I2 R2 → PN X d mX11_ask 109 [(2, 306), (0, x1)] [] I2 R2 Q) : PN X d mX11_ask 105 [(2, 306), (0, x1)] [] I R Q := by
  refine P_aload_n (n := 0) (q := 106) rfl rfl (by decide +kernel) ?_
  refine P_invV (As := []) (q := 109) oX11_qSums rfl kM306 kX11_248 e1 hMF (Nat.le_of_ble_eq_true rfl) hc rfl (by decide +kernel) (fun z I2 R2 hq => ?_)
  exact (h z I2 R2 hq)
theorem S_X11_ask_109 {X : CX} {d : Nat} {x1 : Int} {I R : PF} {Q : PV → PF → PF → Prop} (c1 : -2147483648 ≤ (I 306 5) ∧ (I 306 5) < 2147483648) (h1 : (I 306 5) ≠ 0 → PN X d mX11_ask 133 [(2, 306), (0, x1)] [] I R Q) (h2 : (I 306 5) = 0 → PN X d mX11_ask 116 [(2, 306), (0, x1)] [] I R Q) : PN X d mX11_ask 109 [(2, 306), (0, x1)] [] I R Q := by
  refine P_aload_n (n := 0) (q := 110) rfl rfl (by decide +kernel) ?_
  refine P_getf (q := 113) fX11_14 kM306 rfl (by decide +kernel) ?_
  refine B_if_ne (off := 20) (t := 133) (q := 116) c1 (by decide) rfl (by decide +kernel) ?_ ?_
  · exact fun g9 => (h1 g9)
  · exact fun g9 => (h2 g9)
theorem S_X11_ask_116 {X : CX} {d d1 : Nat} {x1 : Int} {I R : PF} {Q Q1 : PV → PF → PF → Prop} (e1 : d1 + 1 ≤ d) (hc : CN X d1 mX11_look [(2, 306)] I R Q1) (h : ∀ z I2 R2, Q1 (0, z) I2 R2 → PN X d mX11_ask 120 [(2, 306), (0, x1)] [(0, z)] I2 R2 Q) : PN X d mX11_ask 116 [(2, 306), (0, x1)] [] I R Q := by
  refine P_aload_n (n := 0) (q := 117) rfl rfl (by decide +kernel) ?_
  refine P_invV (As := []) (q := 120) oX11_look rfl kM306 kX11_26 e1 hMF (Nat.le_of_ble_eq_true rfl) hc rfl (by decide +kernel) (fun z I2 R2 hq => ?_)
  exact (h z I2 R2 hq)
theorem S_X11_ask_120 {X : CX} {d : Nat} {x1 o0 : Int} {I R : PF} {Q : PV → PF → PF → Prop} (c1 : -2147483648 ≤ o0 ∧ o0 < 2147483648) (h1 : o0 = (-1) → PN X d mX11_ask 133 [(2, 306), (0, x1)] [] I R Q) (h2 : o0 ≠ (-1) → PN X d mX11_ask 124 [(2, 306), (0, x1)] [] I R Q) : PN X d mX11_ask 120 [(2, 306), (0, x1)] [(0, o0)] I R Q := by
  refine P_iconst (n := (-1)) (q := 121) rfl (by decide +kernel) ?_
  refine B_icmp_eq (off := 12) (t := 133) (q := 124) c1 ⟨by decide, by decide⟩ (by decide) rfl (by decide +kernel) ?_ ?_
  · exact fun g9 => (h1 g9)
  · exact fun g9 => (h2 g9)
theorem S_X11_ask_124 {X : CX} {d d1 : Nat} {x1 : Int} {I R : PF} {Q Q1 : PV → PF → PF → Prop} (e1 : d1 + 1 ≤ d) (hc : CN X d1 mX11_fail [(2, 306), (0, 1), (0, (I 306 2))] I R Q1) (h : ∀ z I2 R2, Q1 (9, z) I2 R2 → PN X d mX11_ask 133 [(2, 306), (0, x1)] [] I2 R2 Q) : PN X d mX11_ask 124 [(2, 306), (0, x1)] [] I R Q := by
  refine P_aload_n (n := 0) (q := 125) rfl rfl (by decide +kernel) ?_
  refine P_iconst (n := 1) (q := 126) rfl (by decide +kernel) ?_
  refine P_aload_n (n := 0) (q := 127) rfl rfl (by decide +kernel) ?_
  refine P_getf (q := 130) fX11_20 kM306 rfl (by decide +kernel) ?_
  refine P_invV (As := [(0, 1), (0, (I 306 2))]) (q := 133) oX11_fail rfl kM306 kX11_44 e1 hMF (Nat.le_of_ble_eq_true rfl) hc rfl (by decide +kernel) (fun z I2 R2 hq => ?_)
  exact (h z I2 R2 hq)
theorem S_X11_ask_133 {X : CX} {d : Nat} {x1 : Int} {I R : PF} {Q : PV → PF → PF → Prop} (c1 : -2147483648 ≤ ((u2 (u2 I 306 7 (I 306 5)) 306 8 ((u2 I 306 7 (I 306 5)) 306 6)) 306 5) ∧ ((u2 (u2 I 306 7 (I 306 5)) 306 8 ((u2 I 306 7 (I 306 5)) 306 6)) 306 5) < 2147483648) (h1 : ((u2 (u2 I 306 7 (I 306 5)) 306 8 ((u2 I 306 7 (I 306 5)) 306 6)) 306 5) = 0 → PN X d mX11_ask 160 [(2, 306), (0, x1)] [] (u2 (u2 I 306 7 (I 306 5)) 306 8 ((u2 I 306 7 (I 306 5)) 306 6)) R Q) (h2 : ((u2 (u2 I 306 7 (I 306 5)) 306 8 ((u2 I 306 7 (I 306 5)) 306 6)) 306 5) ≠ 0 → PN X d mX11_ask 156 [] [] (u2 (u2 I 306 7 (I 306 5)) 306 8 ((u2 I 306 7 (I 306 5)) 306 6)) R Q) : PN X d mX11_ask 133 [(2, 306), (0, x1)] [] I R Q := by
  refine P_aload_n (n := 0) (q := 134) rfl rfl (by decide +kernel) ?_
  refine P_aload_n (n := 0) (q := 135) rfl rfl (by decide +kernel) ?_
  refine P_getf (q := 138) fX11_14 kM306 rfl (by decide +kernel) ?_
  refine P_putI (q := 141) wX11_287 (fun h => by cases h) kM306 rfl (by decide +kernel) ?_
  refine P_aload_n (n := 0) (q := 142) rfl rfl (by decide +kernel) ?_
  refine P_aload_n (n := 0) (q := 143) rfl rfl (by decide +kernel) ?_
  refine P_getf (q := 146) fX11_17 kM306 rfl (by decide +kernel) ?_
  refine P_putI (q := 149) wX11_290 (fun h => by cases h) kM306 rfl (by decide +kernel) ?_
  refine P_aload_n (n := 0) (q := 150) rfl rfl (by decide +kernel) ?_
  refine P_getf (q := 153) fX11_14 kM306 rfl (by decide +kernel) ?_
  refine B_if_eq (off := 7) (t := 160) (q := 156) c1 (by decide) rfl (by decide +kernel) ?_ ?_
  · exact fun g9 => (h1 g9)
  · exact fun g9 => (PW_sub (ls' := []) trivial (h2 g9))
theorem S_X11_ask_156 {X : CX} {d : Nat} {I R : PF} {Q : PV → PF → PF → Prop} (h : Q (1, (-1000000000000000)) I R) : PN X d mX11_ask 156 [] [] I R Q := by
  refine P_ldc2 (ix := 686) (v := (-1000000000000000)) (x := (-1000000000000000)) (q := 159) rfl (tGp9 21 rfl rfl) rfl (by decide +kernel) ?_
  refine P_lret rfl (by decide +kernel) h
theorem S_X11_ask_160 {X : CX} {d : Nat} {x1 : Int} {I R : PF} {Q : PV → PF → PF → Prop} (c1 : -2147483648 ≤ x1 ∧ x1 < 2147483648) (h1 : 2 ≤ x1 → PN X d mX11_ask 172 [(2, 306), (0, x1)] [(2, 306)] I R Q) (h2 : x1 < 2 → PN X d mX11_ask 166 [(2, 306), (0, x1)] [(2, 306)] I R Q) : PN X d mX11_ask 160 [(2, 306), (0, x1)] [] I R Q := by
  refine P_aload_n (n := 0) (q := 161) rfl rfl (by decide +kernel) ?_
  refine P_iload_n (n := 1) (q := 162) rfl rfl (by decide +kernel) ?_
  refine P_iconst (n := 2) (q := 163) rfl (by decide +kernel) ?_
  refine B_icmp_ge (off := 9) (t := 172) (q := 166) c1 ⟨by decide, by decide⟩ (by decide) rfl (by decide +kernel) ?_ ?_
  · exact fun g9 => (h1 g9)
  · exact fun g9 => (h2 g9)
theorem S_X11_ask_166 {X : CX} {d : Nat} {x1 : Int} {I R : PF} {Q : PV → PF → PF → Prop} (h : PN X d mX11_ask 173 [(2, 306), (0, x1)] [(1, (-1)), (2, 306)] I R Q) : PN X d mX11_ask 166 [(2, 306), (0, x1)] [(2, 306)] I R Q := by
  refine P_ldc2 (ix := 681) (v := (-1)) (x := (-1)) (q := 169) rfl (tGp9 26 rfl rfl) rfl (by decide +kernel) ?_
  refine P_goto (off := 4) (t := 173) (by decide) (by decide +kernel) ?_
  exact h
theorem S_X11_ask_172 {X : CX} {d : Nat} {x1 : Int} {I R : PF} {Q : PV → PF → PF → Prop} (h : PN X d mX11_ask 173 [(2, 306), (0, x1)] [(1, 0), (2, 306)] I R Q) : PN X d mX11_ask 172 [(2, 306), (0, x1)] [(2, 306)] I R Q := by
  refine P_lconst (n := 0) (x := 0) (q := 173) rfl rfl (by decide +kernel) ?_
  exact h
theorem S_X11_ask_173 {X : CX} {d : Nat} {x1 v1 : Int} {I R : PF} {Q : PV → PF → PF → Prop} (h : PN X d mX11_ask 183 [(2, 306), (0, x1), (0, 0)] [] (u2 (u2 I 306 111 v1) 306 112 1) R Q) : PN X d mX11_ask 173 [(2, 306), (0, x1)] [(1, v1), (2, 306)] I R Q := by
  refine P_putL (q := 176) wX11_678 (fun h => by cases h) kM306 rfl (by decide +kernel) ?_
  refine P_aload_n (n := 0) (q := 177) rfl rfl (by decide +kernel) ?_
  refine P_iconst (n := 1) (q := 178) rfl (by decide +kernel) ?_
  refine P_putZ (q := 181) wX11_683 (fun h => by cases h) (Or.inr rfl) kM306 rfl (by decide +kernel) ?_
  refine P_iconst (n := 0) (q := 182) rfl (by decide +kernel) ?_
  refine P_istore_n (n := 2) (by decide) (q := 183) rfl (by decide +kernel) ?_
  exact h
theorem S_X11_ask_183 {X : CX} {d d1 : Nat} {x1 x2 : Int} {I R : PF} {Q Q1 : PV → PF → PF → Prop} (e1 : d1 + 1 ≤ d) (hc : CN X d1 mX11_personMany [(2, 306)] I R Q1) (h : ∀ z I2 R2, Q1 (0, z) I2 R2 → PN X d mX11_ask 188 [(2, 306), (0, x1), (0, x2)] [(0, z), (0, x2)] I2 R2 Q) : PN X d mX11_ask 183 [(2, 306), (0, x1), (0, x2)] [] I R Q := by
  refine P_iload_n (n := 2) (q := 184) rfl rfl (by decide +kernel) ?_
  refine P_aload_n (n := 0) (q := 185) rfl rfl (by decide +kernel) ?_
  refine P_invV (As := []) (q := 188) oX11_personMany rfl kM306 kX11_420 e1 hMF (Nat.le_of_ble_eq_true rfl) hc rfl (by decide +kernel) (fun z I2 R2 hq => ?_)
  exact (h z I2 R2 hq)
theorem S_X11_ask_188 {X : CX} {d : Nat} {x1 x2 o0 o1 : Int} {I R : PF} {Q : PV → PF → PF → Prop} (c1 : -2147483648 ≤ o0 ∧ o0 < 2147483648) (c2 : -2147483648 ≤ o1 ∧ o1 < 2147483648) (h1 : o1 ≤ o0 → PN X d mX11_ask 204 [(2, 306), (0, x1)] [] I R Q) (h2 : o0 < o1 → PN X d mX11_ask 191 [(2, 306), (0, x1), (0, x2)] [] I R Q) : PN X d mX11_ask 188 [(2, 306), (0, x1), (0, x2)] [(0, o1), (0, o0)] I R Q := by
  refine B_icmp_ge (off := 16) (t := 204) (q := 191) c1 c2 (by decide) rfl (by decide +kernel) ?_ ?_
  · exact fun g9 => (PW_sub (ls' := [(2, 306), (0, x1)]) ⟨Or.inr rfl, Or.inr rfl, trivial⟩ (h1 g9))
  · exact fun g9 => (h2 g9)
theorem S_X11_ask_191 {X : CX} {d : Nat} {x1 x2 : Int} {I R : PF} {Q : PV → PF → PF → Prop} (hs : Shp R) (b1 : (0 : Int) ≤ x2 ∧ x2 < 6) (h : PN X d mX11_ask 183 [(2, 306), (0, x1), (0, (x2 + 1))] [] (u2 I 350 x2 0) R Q) : PN X d mX11_ask 191 [(2, 306), (0, x1), (0, x2)] [] I R Q := by
  refine P_aload_n (n := 0) (q := 192) rfl rfl (by decide +kernel) ?_
  refine B_getfR (q := 195) fX11_320 kM306 (rM306_63 hs) rfl (by decide +kernel) ?_
  refine P_iload_n (n := 2) (q := 196) rfl rfl (by decide +kernel) ?_
  refine P_iconst (n := 0) (q := 197) rfl (by decide +kernel) ?_
  refine B_iastore (q := 198) kM350 nM350 (by decide) b1 rfl (by decide +kernel) ?_
  refine P_iinc (n := 2) (a := 1) (by decide) rfl (q := 201) rfl (by decide +kernel) ?_
  refine P_goto (off := (-18)) (t := 183) (by decide) (by decide +kernel) ?_
  exact h
theorem S_X11_ask_204 {X : CX} {d : Nat} {x1 : Int} {I R : PF} {Q : PV → PF → PF → Prop} (h : PN X d mX11_ask 206 [(2, 306), (0, x1), (0, 0)] [] I R Q) : PN X d mX11_ask 204 [(2, 306), (0, x1)] [] I R Q := by
  refine P_iconst (n := 0) (q := 205) rfl (by decide +kernel) ?_
  refine P_istore_n (n := 2) (by decide) (q := 206) rfl (by decide +kernel) ?_
  exact h
theorem S_X11_ask_206 {X : CX} {d : Nat} {x1 x2 : Int} {I R : PF} {Q : PV → PF → PF → Prop} (c1 : -2147483648 ≤ x2 ∧ x2 < 2147483648) (h1 : 33 ≤ x2 → PN X d mX11_ask 257 [(2, 306), (0, x1)] [] I R Q) (h2 : x2 < 33 → PN X d mX11_ask 212 [(2, 306), (0, x1), (0, x2)] [] I R Q) : PN X d mX11_ask 206 [(2, 306), (0, x1), (0, x2)] [] I R Q := by
  refine P_iload_n (n := 2) (q := 207) rfl rfl (by decide +kernel) ?_
  refine P_bipush (n := 33) (q := 209) rfl rfl (by decide +kernel) ?_
  refine B_icmp_ge (off := 48) (t := 257) (q := 212) c1 ⟨by decide, by decide⟩ (by decide) rfl (by decide +kernel) ?_ ?_
  · exact fun g9 => (PW_sub (ls' := [(2, 306), (0, x1)]) ⟨Or.inr rfl, Or.inr rfl, trivial⟩ (h1 g9))
  · exact fun g9 => (h2 g9)
theorem S_X11_ask_212 {X : CX} {d d1 : Nat} {x1 x2 : Int} {I R : PF} {Q Q1 : PV → PF → PF → Prop} (e1 : d1 + 1 ≤ d) (hc : CN X d1 mX11_wayOf [(0, x2)] I R Q1) (h : ∀ z I2 R2, Q1 (0, z) I2 R2 → PN X d mX11_ask 217 [(2, 306), (0, x1), (0, x2)] [(0, z), (2, 306)] I2 R2 Q) : PN X d mX11_ask 212 [(2, 306), (0, x1), (0, x2)] [] I R Q := by
  refine P_aload_n (n := 0) (q := 213) rfl rfl (by decide +kernel) ?_
  refine P_iload_n (n := 2) (q := 214) rfl rfl (by decide +kernel) ?_
  refine P_invS (As := [(0, x2)]) (q := 217) oX11_wayOf rfl (Or.inl kX11_549) e1 hMF (Nat.le_of_ble_eq_true rfl) hc rfl (by decide +kernel) (fun z I2 R2 hq => ?_)
  exact (h z I2 R2 hq)
theorem S_X11_ask_217 {X : CX} {d d1 : Nat} {x1 x2 o1 : Int} {I R : PF} {Q Q1 : PV → PF → PF → Prop} (e1 : d1 + 1 ≤ d) (hc : CN X d1 mX11_forceOf [(0, x2)] I R Q1) (h : ∀ z I2 R2, Q1 (0, z) I2 R2 → PN X d mX11_ask 221 [(2, 306), (0, x1), (0, x2)] [(0, z), (0, o1), (2, 306)] I2 R2 Q) : PN X d mX11_ask 217 [(2, 306), (0, x1), (0, x2)] [(0, o1), (2, 306)] I R Q := by
  refine P_iload_n (n := 2) (q := 218) rfl rfl (by decide +kernel) ?_
  refine P_invS (As := [(0, x2)]) (q := 221) oX11_forceOf rfl (Or.inl kX11_552) e1 hMF (Nat.le_of_ble_eq_true rfl) hc rfl (by decide +kernel) (fun z I2 R2 hq => ?_)
  exact (h z I2 R2 hq)
theorem S_X11_ask_221 {X : CX} {d d1 : Nat} {x1 x2 o1 o2 : Int} {I R : PF} {Q Q1 : PV → PF → PF → Prop} (hs : Shp R) (e1 : d1 + 1 ≤ d) (hc : CN X d1 mX11_tosses [(2, 306), (0, o1), (0, o2), (0, (I 348 0))] I R Q1) (h : ∀ z I2 R2, Q1 (9, z) I2 R2 → PN X d mX11_ask 230 [(2, 306), (0, x1), (0, x2)] [] I2 R2 Q) : PN X d mX11_ask 221 [(2, 306), (0, x1), (0, x2)] [(0, o2), (0, o1), (2, 306)] I R Q := by
  refine P_aload_n (n := 0) (q := 222) rfl rfl (by decide +kernel) ?_
  refine B_getfR (q := 225) fX11_303 kM306 (rM306_59 hs) rfl (by decide +kernel) ?_
  refine P_iconst (n := 0) (q := 226) rfl (by decide +kernel) ?_
  refine B_iaload (q := 227) kM348 nM348 (by decide) ⟨by decide, by decide⟩ rfl (by decide +kernel) ?_
  refine P_invV (As := [(0, o1), (0, o2), (0, (I 348 0))]) (q := 230) oX11_tosses rfl kM306 kX11_545 e1 hMF (Nat.le_of_ble_eq_true rfl) hc rfl (by decide +kernel) (fun z I2 R2 hq => ?_)
  exact (h z I2 R2 hq)
theorem S_X11_ask_230 {X : CX} {d : Nat} {x1 x2 : Int} {I R : PF} {Q : PV → PF → PF → Prop} (c1 : -2147483648 ≤ (I 306 69) ∧ (I 306 69) < 2147483648) (h1 : (I 306 69) = (-1) → PN X d mX11_ask 251 [(2, 306), (0, x1), (0, x2)] [] I R Q) (h2 : (I 306 69) ≠ (-1) → PN X d mX11_ask 238 [(2, 306), (0, x1), (0, x2)] [] I R Q) : PN X d mX11_ask 230 [(2, 306), (0, x1), (0, x2)] [] I R Q := by
  refine P_aload_n (n := 0) (q := 231) rfl rfl (by decide +kernel) ?_
  refine P_getf (q := 234) fX11_485 kM306 rfl (by decide +kernel) ?_
  refine P_iconst (n := (-1)) (q := 235) rfl (by decide +kernel) ?_
  refine B_icmp_eq (off := 16) (t := 251) (q := 238) c1 ⟨by decide, by decide⟩ (by decide) rfl (by decide +kernel) ?_ ?_
  · exact fun g9 => (h1 g9)
  · exact fun g9 => (h2 g9)
theorem S_X11_ask_238 {X : CX} {d : Nat} {x1 x2 : Int} {I R : PF} {Q : PV → PF → PF → Prop} (hs : Shp R) (b1 : (0 : Int) ≤ (I 306 69) ∧ (I 306 69) < 6) (h : PN X d mX11_ask 251 [(2, 306), (0, x1), (0, x2)] [] (u2 I 350 (I 306 69) ((I 350 (I 306 69)) + 1)) R Q) : PN X d mX11_ask 238 [(2, 306), (0, x1), (0, x2)] [] I R Q := by
  refine P_aload_n (n := 0) (q := 239) rfl rfl (by decide +kernel) ?_
  refine B_getfR (q := 242) fX11_320 kM306 (rM306_63 hs) rfl (by decide +kernel) ?_
  refine P_aload_n (n := 0) (q := 243) rfl rfl (by decide +kernel) ?_
  refine P_getf (q := 246) fX11_485 kM306 rfl (by decide +kernel) ?_
  refine P_dup2 (q := 247) (Nat.ne_of_beq_eq_false rfl) (Nat.ne_of_beq_eq_false rfl) rfl (by decide +kernel) ?_
  refine B_iaload (q := 248) kM350 nM350 (by decide) b1 rfl (by decide +kernel) ?_
  refine P_iconst (n := 1) (q := 249) rfl (by decide +kernel) ?_
  refine P_iadd (q := 250) rfl (by decide +kernel) ?_
  refine B_iastore (q := 251) kM350 nM350 (by decide) b1 rfl (by decide +kernel) ?_
  exact h
theorem S_X11_ask_251 {X : CX} {d : Nat} {x1 x2 : Int} {I R : PF} {Q : PV → PF → PF → Prop} (h : PN X d mX11_ask 206 [(2, 306), (0, x1), (0, (x2 + 1))] [] I R Q) : PN X d mX11_ask 251 [(2, 306), (0, x1), (0, x2)] [] I R Q := by
  refine P_iinc (n := 2) (a := 1) (by decide) rfl (q := 254) rfl (by decide +kernel) ?_
  refine P_goto (off := (-48)) (t := 206) (by decide) (by decide +kernel) ?_
  exact h
theorem S_X11_ask_257 {X : CX} {d : Nat} {x1 : Int} {I R : PF} {Q : PV → PF → PF → Prop} (hs : Shp R) (h : PN X d mX11_ask 274 [(2, 306), (0, x1), (0, 0)] [] (u2 (u2 I 306 61 (I 348 0)) 306 56 2) R Q) : PN X d mX11_ask 257 [(2, 306), (0, x1)] [] I R Q := by
  refine P_aload_n (n := 0) (q := 258) rfl rfl (by decide +kernel) ?_
  refine P_aload_n (n := 0) (q := 259) rfl rfl (by decide +kernel) ?_
  refine B_getfR (q := 262) fX11_303 kM306 (rM306_59 hs) rfl (by decide +kernel) ?_
  refine P_iconst (n := 0) (q := 263) rfl (by decide +kernel) ?_
  refine B_iaload (q := 264) kM348 nM348 (by decide) ⟨by decide, by decide⟩ rfl (by decide +kernel) ?_
  refine P_putI (q := 267) wX11_482 (fun h => by cases h) kM306 rfl (by decide +kernel) ?_
  refine P_aload_n (n := 0) (q := 268) rfl rfl (by decide +kernel) ?_
  refine P_iconst (n := 2) (q := 269) rfl (by decide +kernel) ?_
  refine P_putI (q := 272) wX11_163 (fun h => by cases h) kM306 rfl (by decide +kernel) ?_
  refine P_iconst (n := 0) (q := 273) rfl (by decide +kernel) ?_
  refine P_istore_n (n := 2) (by decide) (q := 274) rfl (by decide +kernel) ?_
  exact h
theorem S_X11_ask_274 {X : CX} {d d1 : Nat} {x1 x2 : Int} {I R : PF} {Q Q1 : PV → PF → PF → Prop} (e1 : d1 + 1 ≤ d) (hc : CN X d1 mX11_personMany [(2, 306)] I R Q1) (h : ∀ z I2 R2, Q1 (0, z) I2 R2 → PN X d mX11_ask 279 [(2, 306), (0, x1), (0, x2)] [(0, z), (0, x2)] I2 R2 Q) : PN X d mX11_ask 274 [(2, 306), (0, x1), (0, x2)] [] I R Q := by
  refine P_iload_n (n := 2) (q := 275) rfl rfl (by decide +kernel) ?_
  refine P_aload_n (n := 0) (q := 276) rfl rfl (by decide +kernel) ?_
  refine P_invV (As := []) (q := 279) oX11_personMany rfl kM306 kX11_420 e1 hMF (Nat.le_of_ble_eq_true rfl) hc rfl (by decide +kernel) (fun z I2 R2 hq => ?_)
  exact (h z I2 R2 hq)
theorem S_X11_ask_279 {X : CX} {d : Nat} {x1 x2 o0 o1 : Int} {I R : PF} {Q : PV → PF → PF → Prop} (c1 : -2147483648 ≤ o0 ∧ o0 < 2147483648) (c2 : -2147483648 ≤ o1 ∧ o1 < 2147483648) (h1 : o1 ≤ o0 → PN X d mX11_ask 299 [(2, 306)] [] I R Q) (h2 : o0 < o1 → PN X d mX11_ask 282 [(2, 306), (0, x1), (0, x2)] [] I R Q) : PN X d mX11_ask 279 [(2, 306), (0, x1), (0, x2)] [(0, o1), (0, o0)] I R Q := by
  refine B_icmp_ge (off := 20) (t := 299) (q := 282) c1 c2 (by decide) rfl (by decide +kernel) ?_ ?_
  · exact fun g9 => (PW_sub (ls' := [(2, 306)]) ⟨Or.inr rfl, trivial⟩ (h1 g9))
  · exact fun g9 => (h2 g9)
theorem S_X11_ask_282 {X : CX} {d d1 : Nat} {x1 x2 : Int} {I R : PF} {Q Q1 : PV → PF → PF → Prop} (e1 : d1 + 1 ≤ d) (hc : CN X d1 mX11_qTold [(2, 306), (0, x2)] I R Q1) (h : ∀ z I2 R2, Q1 (1, z) I2 R2 → PN X d mX11_ask 289 [(2, 306), (0, x1), (0, x2)] [(1, z), (0, x1), (2, 306)] I2 R2 Q) : PN X d mX11_ask 282 [(2, 306), (0, x1), (0, x2)] [] I R Q := by
  refine P_aload_n (n := 0) (q := 283) rfl rfl (by decide +kernel) ?_
  refine P_iload_n (n := 1) (q := 284) rfl rfl (by decide +kernel) ?_
  refine P_aload_n (n := 0) (q := 285) rfl rfl (by decide +kernel) ?_
  refine P_iload_n (n := 2) (q := 286) rfl rfl (by decide +kernel) ?_
  refine P_invV (As := [(0, x2)]) (q := 289) oX11_qTold rfl kM306 kX11_691 e1 hMF (Nat.le_of_ble_eq_true rfl) hc rfl (by decide +kernel) (fun z I2 R2 hq => ?_)
  exact (h z I2 R2 hq)
theorem S_X11_ask_289 {X : CX} {d d1 : Nat} {x1 x2 o1 v2 : Int} {I R : PF} {Q Q1 : PV → PF → PF → Prop} (e1 : d1 + 1 ≤ d) (hc : CN X d1 mX11_qTakes [(2, 306), (0, o1), (1, v2), (0, x2)] I R Q1) (h : ∀ z I2 R2, Q1 (9, z) I2 R2 → PN X d mX11_ask 293 [(2, 306), (0, x1), (0, x2)] [] I2 R2 Q) : PN X d mX11_ask 289 [(2, 306), (0, x1), (0, x2)] [(1, v2), (0, o1), (2, 306)] I R Q := by
  refine P_iload_n (n := 2) (q := 290) rfl rfl (by decide +kernel) ?_
  refine P_invV (As := [(0, o1), (1, v2), (0, x2)]) (q := 293) oX11_qTakes rfl kM306 kX11_695 e1 hMF (Nat.le_of_ble_eq_true rfl) hc rfl (by decide +kernel) (fun z I2 R2 hq => ?_)
  exact (h z I2 R2 hq)
theorem S_X11_ask_293 {X : CX} {d : Nat} {x1 x2 : Int} {I R : PF} {Q : PV → PF → PF → Prop} (h : PN X d mX11_ask 274 [(2, 306), (0, x1), (0, (x2 + 1))] [] I R Q) : PN X d mX11_ask 293 [(2, 306), (0, x1), (0, x2)] [] I R Q := by
  refine P_iinc (n := 2) (a := 1) (by decide) rfl (q := 296) rfl (by decide +kernel) ?_
  refine P_goto (off := (-22)) (t := 274) (by decide) (by decide +kernel) ?_
  exact h
theorem S_X11_ask_299 {X : CX} {d : Nat} {I R : PF} {Q : PV → PF → PF → Prop} (h : Q (1, (I 306 111)) I R) : PN X d mX11_ask 299 [(2, 306)] [] I R Q := by
  refine P_aload_n (n := 0) (q := 300) rfl rfl (by decide +kernel) ?_
  refine P_getf (q := 303) fX11_678 kM306 rfl (by decide +kernel) ?_
  refine P_lret rfl (by decide +kernel) h
theorem S_X11_asked_0 {X : CX} {d d1 : Nat} {x1 : Int} {I R : PF} {Q Q1 : PV → PF → PF → Prop} (c1 : -2147483648 ≤ x1 ∧ x1 < 2147483648) (e1 : d1 + 1 ≤ d) (hc : CN X d1 mX11_isIn [(1, x1), (1, 0), (1, 1)] I R Q1) (h : ∀ z I2 R2, Q1 (0, z) I2 R2 → PN X d mX11_asked 7 [(2, 306), (0, x1)] [(0, z)] I2 R2 Q) : PN X d mX11_asked 0 [(2, 306), (0, x1)] [] I R Q := by
  refine P_iload_n (n := 1) (q := 1) rfl rfl (by decide +kernel) ?_
  refine B_i2l (q := 2) c1 rfl (by decide +kernel) ?_
  refine P_lconst (n := 0) (x := 0) (q := 3) rfl rfl (by decide +kernel) ?_
  refine P_lconst (n := 1) (x := 1) (q := 4) rfl rfl (by decide +kernel) ?_
  refine P_invS (As := [(1, x1), (1, 0), (1, 1)]) (q := 7) oX11_isIn rfl (Or.inl kX11_57) e1 hMF (Nat.le_of_ble_eq_true rfl) hc rfl (by decide +kernel) (fun z I2 R2 hq => ?_)
  exact (h z I2 R2 hq)
theorem S_X11_asked_7 {X : CX} {d : Nat} {x1 o0 : Int} {I R : PF} {Q : PV → PF → PF → Prop} (c1 : -2147483648 ≤ o0 ∧ o0 < 2147483648) (h1 : o0 ≠ 0 → PN X d mX11_asked 12 [(2, 306), (0, x1)] [] I R Q) (h2 : o0 = 0 → PN X d mX11_asked 10 [] [] I R Q) : PN X d mX11_asked 7 [(2, 306), (0, x1)] [(0, o0)] I R Q := by
  refine B_if_ne (off := 5) (t := 12) (q := 10) c1 (by decide) rfl (by decide +kernel) ?_ ?_
  · exact fun g9 => (h1 g9)
  · exact fun g9 => (PW_sub (ls' := []) trivial (h2 g9))
theorem S_X11_asked_10 {X : CX} {d : Nat} {I R : PF} {Q : PV → PF → PF → Prop} (h : Q (0, (-1)) I R) : PN X d mX11_asked 10 [] [] I R Q := by
  refine P_iconst (n := (-1)) (q := 11) rfl (by decide +kernel) ?_
  refine P_iret rfl (by decide +kernel) h
theorem S_X11_asked_12 {X : CX} {d : Nat} {x1 : Int} {I R : PF} {Q : PV → PF → PF → Prop} (h : PN X d mX11_asked 19 [(2, 306), (0, x1), (0, (-1)), (0, (-1)), (0, 0)] [] I R Q) : PN X d mX11_asked 12 [(2, 306), (0, x1)] [] I R Q := by
  refine P_iconst (n := (-1)) (q := 13) rfl (by decide +kernel) ?_
  refine P_istore_n (n := 2) (by decide) (q := 14) rfl (by decide +kernel) ?_
  refine P_iconst (n := (-1)) (q := 15) rfl (by decide +kernel) ?_
  refine P_istore_n (n := 3) (by decide) (q := 16) rfl (by decide +kernel) ?_
  refine P_iconst (n := 0) (q := 17) rfl (by decide +kernel) ?_
  refine P_istore (n := 4) (by decide) (q := 19) rfl (by decide +kernel) ?_
  exact h
theorem S_X11_asked_19 {X : CX} {d : Nat} {x1 x2 x3 x4 : Int} {I R : PF} {Q : PV → PF → PF → Prop} (c1 : -2147483648 ≤ x4 ∧ x4 < 2147483648) (c2 : -2147483648 ≤ (I 306 73) ∧ (I 306 73) < 2147483648) (h1 : (I 306 73) ≤ x4 → PN X d mX11_asked 60 [(9, 0), (0, x1), (0, x2), (0, x3)] [] I R Q) (h2 : x4 < (I 306 73) → PN X d mX11_asked 28 [(2, 306), (0, x1), (0, x2), (0, x3), (0, x4)] [] I R Q) : PN X d mX11_asked 19 [(2, 306), (0, x1), (0, x2), (0, x3), (0, x4)] [] I R Q := by
  refine P_iload (n := 4) (q := 21) rfl rfl (by decide +kernel) ?_
  refine P_aload_n (n := 0) (q := 22) rfl rfl (by decide +kernel) ?_
  refine P_getf (q := 25) fX11_309 kM306 rfl (by decide +kernel) ?_
  refine B_icmp_ge (off := 35) (t := 60) (q := 28) c1 c2 (by decide) rfl (by decide +kernel) ?_ ?_
  · exact fun g9 => (PW_sub (ls' := [(9, 0), (0, x1), (0, x2), (0, x3)]) ⟨Or.inl rfl, Or.inr rfl, Or.inr rfl, Or.inr rfl, trivial⟩ (h1 g9))
  · exact fun g9 => (h2 g9)
theorem S_X11_asked_28 {X : CX} {d d1 : Nat} {x1 x2 x3 x4 : Int} {I R : PF} {Q Q1 : PV → PF → PF → Prop} (e1 : d1 + 1 ≤ d) (hc : CN X d1 mX11_wearers [(2, 306), (0, x4)] I R Q1) (h : ∀ z I2 R2, Q1 (0, z) I2 R2 → PN X d mX11_asked 34 [(2, 306), (0, x1), (0, x2), (0, x3), (0, x4)] [(0, z)] I2 R2 Q) : PN X d mX11_asked 28 [(2, 306), (0, x1), (0, x2), (0, x3), (0, x4)] [] I R Q := by
  refine P_aload_n (n := 0) (q := 29) rfl rfl (by decide +kernel) ?_
  refine P_iload (n := 4) (q := 31) rfl rfl (by decide +kernel) ?_
  refine P_invV (As := [(0, x4)]) (q := 34) oX11_wearers rfl kM306 kX11_582 e1 hMF (Nat.le_of_ble_eq_true rfl) hc rfl (by decide +kernel) (fun z I2 R2 hq => ?_)
  exact (h z I2 R2 hq)
theorem S_X11_asked_34 {X : CX} {d d1 : Nat} {x1 x2 x3 x4 o0 : Int} {I R : PF} {Q Q1 : PV → PF → PF → Prop} (e1 : d1 + 1 ≤ d) (hc : CN X d1 mX11_bits [(0, o0)] I R Q1) (h : ∀ z I2 R2, Q1 (0, z) I2 R2 → PN X d mX11_asked 37 [(2, 306), (0, x1), (0, x2), (0, x3), (0, x4)] [(0, z)] I2 R2 Q) : PN X d mX11_asked 34 [(2, 306), (0, x1), (0, x2), (0, x3), (0, x4)] [(0, o0)] I R Q := by
  refine P_invS (As := [(0, o0)]) (q := 37) oX11_bits rfl (Or.inl kX11_585) e1 hMF (Nat.le_of_ble_eq_true rfl) hc rfl (by decide +kernel) (fun z I2 R2 hq => ?_)
  exact (h z I2 R2 hq)
theorem S_X11_asked_37 {X : CX} {d : Nat} {x1 x2 x3 x4 o0 : Int} {I R : PF} {Q : PV → PF → PF → Prop} (c1 : -2147483648 ≤ o0 ∧ o0 < 2147483648) (c2 : -2147483648 ≤ x3 ∧ x3 < 2147483648) (h1 : x3 < o0 → PN X d mX11_asked 48 [(2, 306), (0, x1), (9, 0), (9, 0), (0, x4), (0, o0)] [] I R Q) (h2 : o0 ≤ x3 → PN X d mX11_asked 45 [(2, 306), (0, x1), (0, x2), (0, x3), (0, x4)] [] I R Q) : PN X d mX11_asked 37 [(2, 306), (0, x1), (0, x2), (0, x3), (0, x4)] [(0, o0)] I R Q := by
  refine P_istore (n := 5) (by decide) (q := 39) rfl (by decide +kernel) ?_
  refine P_iload (n := 5) (q := 41) rfl rfl (by decide +kernel) ?_
  refine P_iload_n (n := 3) (q := 42) rfl rfl (by decide +kernel) ?_
  refine B_icmp_gt (off := 6) (t := 48) (q := 45) c1 c2 (by decide) rfl (by decide +kernel) ?_ ?_
  · exact fun g9 => (PW_sub (ls' := [(2, 306), (0, x1), (9, 0), (9, 0), (0, x4), (0, o0)]) ⟨Or.inr rfl, Or.inr rfl, Or.inl rfl, Or.inl rfl, Or.inr rfl, Or.inr rfl, trivial⟩ (h1 g9))
  · exact fun g9 => (PW_sub (ls' := [(2, 306), (0, x1), (0, x2), (0, x3), (0, x4)]) ⟨Or.inr rfl, Or.inr rfl, Or.inr rfl, Or.inr rfl, Or.inr rfl, trivial⟩ (h2 g9))
theorem S_X11_asked_45 {X : CX} {d : Nat} {x1 x2 x3 x4 : Int} {I R : PF} {Q : PV → PF → PF → Prop} (h : PN X d mX11_asked 54 [(2, 306), (0, x1), (0, x2), (0, x3), (0, x4)] [] I R Q) : PN X d mX11_asked 45 [(2, 306), (0, x1), (0, x2), (0, x3), (0, x4)] [] I R Q := by
  refine P_goto (off := 9) (t := 54) (by decide) (by decide +kernel) ?_
  exact (PW_sub (ls' := [(2, 306), (0, x1), (0, x2), (0, x3), (0, x4)]) ⟨Or.inr rfl, Or.inr rfl, Or.inr rfl, Or.inr rfl, Or.inr rfl, trivial⟩ h)
theorem S_X11_asked_48 {X : CX} {d : Nat} {x1 x4 x5 : Int} {I R : PF} {Q : PV → PF → PF → Prop} (h : PN X d mX11_asked 54 [(2, 306), (0, x1), (0, x4), (0, x5), (0, x4)] [] I R Q) : PN X d mX11_asked 48 [(2, 306), (0, x1), (9, 0), (9, 0), (0, x4), (0, x5)] [] I R Q := by
  refine P_iload (n := 4) (q := 50) rfl rfl (by decide +kernel) ?_
  refine P_istore_n (n := 2) (by decide) (q := 51) rfl (by decide +kernel) ?_
  refine P_iload (n := 5) (q := 53) rfl rfl (by decide +kernel) ?_
  refine P_istore_n (n := 3) (by decide) (q := 54) rfl (by decide +kernel) ?_
  exact (PW_sub (ls' := [(2, 306), (0, x1), (0, x4), (0, x5), (0, x4)]) ⟨Or.inr rfl, Or.inr rfl, Or.inr rfl, Or.inr rfl, Or.inr rfl, trivial⟩ h)
theorem S_X11_asked_54 {X : CX} {d : Nat} {x1 x2 x3 x4 : Int} {I R : PF} {Q : PV → PF → PF → Prop} (h : PN X d mX11_asked 19 [(2, 306), (0, x1), (0, x2), (0, x3), (0, (x4 + 1))] [] I R Q) : PN X d mX11_asked 54 [(2, 306), (0, x1), (0, x2), (0, x3), (0, x4)] [] I R Q := by
  refine P_iinc (n := 4) (a := 1) (by decide) rfl (q := 57) rfl (by decide +kernel) ?_
  refine P_goto (off := (-38)) (t := 19) (by decide) (by decide +kernel) ?_
  exact (PW_sub (ls' := [(2, 306), (0, x1), (0, x2), (0, x3), (0, (x4 + 1))]) ⟨Or.inr rfl, Or.inr rfl, Or.inr rfl, Or.inr rfl, Or.inr rfl, trivial⟩ h)
theorem S_X11_asked_60 {X : CX} {d : Nat} {x1 x2 x3 : Int} {I R : PF} {Q : PV → PF → PF → Prop} (c1 : -2147483648 ≤ x1 ∧ x1 < 2147483648) (h1 : x1 ≠ 0 → PN X d mX11_asked 68 [(9, 0), (9, 0), (9, 0), (0, x3)] [] I R Q) (h2 : x1 = 0 → PN X d mX11_asked 64 [(9, 0), (9, 0), (0, x2)] [] I R Q) : PN X d mX11_asked 60 [(9, 0), (0, x1), (0, x2), (0, x3)] [] I R Q := by
  refine P_iload_n (n := 1) (q := 61) rfl rfl (by decide +kernel) ?_
  refine B_if_ne (off := 7) (t := 68) (q := 64) c1 (by decide) rfl (by decide +kernel) ?_ ?_
  · exact fun g9 => (PW_sub (ls' := [(9, 0), (9, 0), (9, 0), (0, x3)]) ⟨Or.inl rfl, Or.inl rfl, Or.inl rfl, Or.inr rfl, trivial⟩ (h1 g9))
  · exact fun g9 => (PW_sub (ls' := [(9, 0), (9, 0), (0, x2)]) ⟨Or.inl rfl, Or.inl rfl, Or.inr rfl, trivial⟩ (h2 g9))
theorem S_X11_asked_64 {X : CX} {d : Nat} {x2 : Int} {I R : PF} {Q : PV → PF → PF → Prop} (h : PN X d mX11_asked 69 [] [(0, x2)] I R Q) : PN X d mX11_asked 64 [(9, 0), (9, 0), (0, x2)] [] I R Q := by
  refine P_iload_n (n := 2) (q := 65) rfl rfl (by decide +kernel) ?_
  refine P_goto (off := 4) (t := 69) (by decide) (by decide +kernel) ?_
  exact (PW_sub (ls' := []) trivial h)
theorem S_X11_asked_68 {X : CX} {d : Nat} {x3 : Int} {I R : PF} {Q : PV → PF → PF → Prop} (h : PN X d mX11_asked 69 [] [(0, x3)] I R Q) : PN X d mX11_asked 68 [(9, 0), (9, 0), (9, 0), (0, x3)] [] I R Q := by
  refine P_iload_n (n := 3) (q := 69) rfl rfl (by decide +kernel) ?_
  exact (PW_sub (ls' := []) trivial h)
theorem S_X11_asked_69 {X : CX} {d : Nat} {o0 : Int} {I R : PF} {Q : PV → PF → PF → Prop} (h : Q (0, o0) I R) : PN X d mX11_asked 69 [] [(0, o0)] I R Q := by
  refine P_iret rfl (by decide +kernel) h
theorem S_X11_asks_0 {X : CX} {d : Nat} {a1 : Int} {I R : PF} {Q : PV → PF → PF → Prop} (c1 : -2147483648 ≤ (I 306 5) ∧ (I 306 5) < 2147483648) (h1 : (I 306 5) ≠ 0 → PN X d mX11_asks 24 [] [] I R Q) (h2 : (I 306 5) = 0 → PN X d mX11_asks 7 [(2, 306), (2, a1)] [] I R Q) : PN X d mX11_asks 0 [(2, 306), (2, a1)] [] I R Q := by
  refine P_aload_n (n := 0) (q := 1) rfl rfl (by decide +kernel) ?_
  refine P_getf (q := 4) fX11_14 kM306 rfl (by decide +kernel) ?_
  refine B_if_ne (off := 20) (t := 24) (q := 7) c1 (by decide) rfl (by decide +kernel) ?_ ?_
  · exact fun g9 => (PW_sub (ls' := []) trivial (h1 g9))
  · exact fun g9 => (h2 g9)
theorem S_X11_asks_7 {X : CX} {d d1 : Nat} {a1 : Int} {I R : PF} {Q Q1 : PV → PF → PF → Prop} (e1 : d1 + 1 ≤ d) (hc : CN X d1 mX11_takes [(2, 306), (2, a1)] I R Q1) (h : ∀ z I2 R2, Q1 (0, z) I2 R2 → PN X d mX11_asks 12 [(2, 306)] [(0, z)] I2 R2 Q) : PN X d mX11_asks 7 [(2, 306), (2, a1)] [] I R Q := by
  refine P_aload_n (n := 0) (q := 8) rfl rfl (by decide +kernel) ?_
  refine P_aload_n (n := 1) (q := 9) rfl rfl (by decide +kernel) ?_
  refine P_invV (As := [(2, a1)]) (q := 12) oX11_takes rfl kM306 kX11_41 e1 hMF (Nat.le_of_ble_eq_true rfl) hc rfl (by decide +kernel) (fun z I2 R2 hq => ?_)
  exact (PW_sub (ls' := [(2, 306)]) ⟨Or.inr rfl, trivial⟩ (h z I2 R2 hq))
theorem S_X11_asks_12 {X : CX} {d : Nat} {o0 : Int} {I R : PF} {Q : PV → PF → PF → Prop} (c1 : -2147483648 ≤ o0 ∧ o0 < 2147483648) (h1 : o0 ≠ 0 → PN X d mX11_asks 24 [] [] I R Q) (h2 : o0 = 0 → PN X d mX11_asks 15 [(2, 306)] [] I R Q) : PN X d mX11_asks 12 [(2, 306)] [(0, o0)] I R Q := by
  refine B_if_ne (off := 12) (t := 24) (q := 15) c1 (by decide) rfl (by decide +kernel) ?_ ?_
  · exact fun g9 => (PW_sub (ls' := []) trivial (h1 g9))
  · exact fun g9 => (PW_sub (ls' := [(2, 306)]) ⟨Or.inr rfl, trivial⟩ (h2 g9))
theorem S_X11_asks_15 {X : CX} {d d1 : Nat} {I R : PF} {Q Q1 : PV → PF → PF → Prop} (e1 : d1 + 1 ≤ d) (hc : CN X d1 mX11_fail [(2, 306), (0, 1), (0, (I 306 2))] I R Q1) (h : ∀ z I2 R2, Q1 (9, z) I2 R2 → PN X d mX11_asks 24 [] [] I2 R2 Q) : PN X d mX11_asks 15 [(2, 306)] [] I R Q := by
  refine P_aload_n (n := 0) (q := 16) rfl rfl (by decide +kernel) ?_
  refine P_iconst (n := 1) (q := 17) rfl (by decide +kernel) ?_
  refine P_aload_n (n := 0) (q := 18) rfl rfl (by decide +kernel) ?_
  refine P_getf (q := 21) fX11_20 kM306 rfl (by decide +kernel) ?_
  refine P_invV (As := [(0, 1), (0, (I 306 2))]) (q := 24) oX11_fail rfl kM306 kX11_44 e1 hMF (Nat.le_of_ble_eq_true rfl) hc rfl (by decide +kernel) (fun z I2 R2 hq => ?_)
  exact (PW_sub (ls' := []) trivial (h z I2 R2 hq))
theorem S_X11_asks_24 {X : CX} {d : Nat} {I R : PF} {Q : PV → PF → PF → Prop} (h : Q (9, 0) I R) : PN X d mX11_asks 24 [] [] I R Q := by
  refine P_vret rfl (by decide +kernel) h
theorem S_X11_asksSign_0 {X : CX} {d : Nat} {x1 : Int} {I R : PF} {Q : PV → PF → PF → Prop} (c1 : -2147483648 ≤ (I 306 5) ∧ (I 306 5) < 2147483648) (h1 : (I 306 5) ≠ 0 → PN X d mX11_asksSign 24 [] [] I R Q) (h2 : (I 306 5) = 0 → PN X d mX11_asksSign 7 [(2, 306), (0, x1)] [] I R Q) : PN X d mX11_asksSign 0 [(2, 306), (0, x1)] [] I R Q := by
  refine P_aload_n (n := 0) (q := 1) rfl rfl (by decide +kernel) ?_
  refine P_getf (q := 4) fX11_14 kM306 rfl (by decide +kernel) ?_
  refine B_if_ne (off := 20) (t := 24) (q := 7) c1 (by decide) rfl (by decide +kernel) ?_ ?_
  · exact fun g9 => (PW_sub (ls' := []) trivial (h1 g9))
  · exact fun g9 => (h2 g9)
theorem S_X11_asksSign_7 {X : CX} {d d1 : Nat} {x1 : Int} {I R : PF} {Q Q1 : PV → PF → PF → Prop} (e1 : d1 + 1 ≤ d) (hc : CN X d1 mX11_takesSign [(2, 306), (0, x1)] I R Q1) (h : ∀ z I2 R2, Q1 (0, z) I2 R2 → PN X d mX11_asksSign 12 [(2, 306)] [(0, z)] I2 R2 Q) : PN X d mX11_asksSign 7 [(2, 306), (0, x1)] [] I R Q := by
  refine P_aload_n (n := 0) (q := 8) rfl rfl (by decide +kernel) ?_
  refine P_iload_n (n := 1) (q := 9) rfl rfl (by decide +kernel) ?_
  refine P_invV (As := [(0, x1)]) (q := 12) oX11_takesSign rfl kM306 kX11_48 e1 hMF (Nat.le_of_ble_eq_true rfl) hc rfl (by decide +kernel) (fun z I2 R2 hq => ?_)
  exact (PW_sub (ls' := [(2, 306)]) ⟨Or.inr rfl, trivial⟩ (h z I2 R2 hq))
theorem S_X11_asksSign_12 {X : CX} {d : Nat} {o0 : Int} {I R : PF} {Q : PV → PF → PF → Prop} (c1 : -2147483648 ≤ o0 ∧ o0 < 2147483648) (h1 : o0 ≠ 0 → PN X d mX11_asksSign 24 [] [] I R Q) (h2 : o0 = 0 → PN X d mX11_asksSign 15 [(2, 306)] [] I R Q) : PN X d mX11_asksSign 12 [(2, 306)] [(0, o0)] I R Q := by
  refine B_if_ne (off := 12) (t := 24) (q := 15) c1 (by decide) rfl (by decide +kernel) ?_ ?_
  · exact fun g9 => (PW_sub (ls' := []) trivial (h1 g9))
  · exact fun g9 => (PW_sub (ls' := [(2, 306)]) ⟨Or.inr rfl, trivial⟩ (h2 g9))
theorem S_X11_asksSign_15 {X : CX} {d d1 : Nat} {I R : PF} {Q Q1 : PV → PF → PF → Prop} (e1 : d1 + 1 ≤ d) (hc : CN X d1 mX11_fail [(2, 306), (0, 1), (0, (I 306 2))] I R Q1) (h : ∀ z I2 R2, Q1 (9, z) I2 R2 → PN X d mX11_asksSign 24 [] [] I2 R2 Q) : PN X d mX11_asksSign 15 [(2, 306)] [] I R Q := by
  refine P_aload_n (n := 0) (q := 16) rfl rfl (by decide +kernel) ?_
  refine P_iconst (n := 1) (q := 17) rfl (by decide +kernel) ?_
  refine P_aload_n (n := 0) (q := 18) rfl rfl (by decide +kernel) ?_
  refine P_getf (q := 21) fX11_20 kM306 rfl (by decide +kernel) ?_
  refine P_invV (As := [(0, 1), (0, (I 306 2))]) (q := 24) oX11_fail rfl kM306 kX11_44 e1 hMF (Nat.le_of_ble_eq_true rfl) hc rfl (by decide +kernel) (fun z I2 R2 hq => ?_)
  exact (PW_sub (ls' := []) trivial (h z I2 R2 hq))
theorem S_X11_asksSign_24 {X : CX} {d : Nat} {I R : PF} {Q : PV → PF → PF → Prop} (h : Q (9, 0) I R) : PN X d mX11_asksSign 24 [] [] I R Q := by
  refine P_vret rfl (by decide +kernel) h
theorem S_X11_bits_0 {X : CX} {d : Nat} {x0 : Int} {I R : PF} {Q : PV → PF → PF → Prop} (h : PN X d mX11_bits 4 [(9, 0), (0, 0), (0, x0)] [] I R Q) : PN X d mX11_bits 0 [(0, x0)] [] I R Q := by
  refine P_iconst (n := 0) (q := 1) rfl (by decide +kernel) ?_
  refine P_istore_n (n := 1) (by decide) (q := 2) rfl (by decide +kernel) ?_
  refine P_iload_n (n := 0) (q := 3) rfl rfl (by decide +kernel) ?_
  refine P_istore_n (n := 2) (by decide) (q := 4) rfl (by decide +kernel) ?_
  exact (PW_sub (ls' := [(9, 0), (0, 0), (0, x0)]) ⟨Or.inl rfl, Or.inr rfl, Or.inr rfl, trivial⟩ h)
theorem S_X11_bits_4 {X : CX} {d : Nat} {x1 x2 : Int} {I R : PF} {Q : PV → PF → PF → Prop} (c1 : -2147483648 ≤ x2 ∧ x2 < 2147483648) (h1 : x2 = 0 → PN X d mX11_bits 20 [(9, 0), (0, x1)] [] I R Q) (h2 : x2 ≠ 0 → PN X d mX11_bits 8 [(9, 0), (0, x1), (0, x2)] [] I R Q) : PN X d mX11_bits 4 [(9, 0), (0, x1), (0, x2)] [] I R Q := by
  refine P_iload_n (n := 2) (q := 5) rfl rfl (by decide +kernel) ?_
  refine B_if_eq (off := 15) (t := 20) (q := 8) c1 (by decide) rfl (by decide +kernel) ?_ ?_
  · exact fun g9 => (PW_sub (ls' := [(9, 0), (0, x1)]) ⟨Or.inl rfl, Or.inr rfl, trivial⟩ (h1 g9))
  · exact fun g9 => (h2 g9)
theorem S_X11_bits_8 {X : CX} {d : Nat} {x1 x2 : Int} {I R : PF} {Q : PV → PF → PF → Prop} (h : PN X d mX11_bits 4 [(9, 0), (0, (x1 + 1)), (0, ((Int32.ofInt x2 &&& Int32.ofInt (x2 - 1)).toInt))] [] I R Q) : PN X d mX11_bits 8 [(9, 0), (0, x1), (0, x2)] [] I R Q := by
  refine P_iinc (n := 1) (a := 1) (by decide) rfl (q := 11) rfl (by decide +kernel) ?_
  refine P_iload_n (n := 2) (q := 12) rfl rfl (by decide +kernel) ?_
  refine P_iload_n (n := 2) (q := 13) rfl rfl (by decide +kernel) ?_
  refine P_iconst (n := 1) (q := 14) rfl (by decide +kernel) ?_
  refine P_isub (q := 15) rfl (by decide +kernel) ?_
  refine P_iand (q := 16) rfl (by decide +kernel) ?_
  refine P_istore_n (n := 2) (by decide) (q := 17) rfl (by decide +kernel) ?_
  refine P_goto (off := (-13)) (t := 4) (by decide) (by decide +kernel) ?_
  exact h
theorem S_X11_bits_20 {X : CX} {d : Nat} {x1 : Int} {I R : PF} {Q : PV → PF → PF → Prop} (h : Q (0, x1) I R) : PN X d mX11_bits 20 [(9, 0), (0, x1)] [] I R Q := by
  refine P_iload_n (n := 1) (q := 21) rfl rfl (by decide +kernel) ?_
  refine P_iret rfl (by decide +kernel) h
theorem S_X11_canGet_0 {X : CX} {d d1 : Nat} {x1 : Int} {I R : PF} {Q Q1 : PV → PF → PF → Prop} (hs : Shp R) (b1 : (0 : Int) ≤ x1 ∧ x1 < 6) (e1 : d1 + 1 ≤ d) (hc : CN X d1 mX11_farFrom [(2, 306), (0, (I 351 x1)), (0, (I 352 x1))] I R Q1) (h : ∀ z I2 R2, Q1 (0, z) I2 R2 → PN X d mX11_canGet 16 [(2, 306), (0, x1)] [(0, z)] I2 R2 Q) : PN X d mX11_canGet 0 [(2, 306), (0, x1)] [] I R Q := by
  refine P_aload_n (n := 0) (q := 1) rfl rfl (by decide +kernel) ?_
  refine P_aload_n (n := 0) (q := 2) rfl rfl (by decide +kernel) ?_
  refine B_getfR (q := 5) fX11_323 kM306 (rM306_67 hs) rfl (by decide +kernel) ?_
  refine P_iload_n (n := 1) (q := 6) rfl rfl (by decide +kernel) ?_
  refine B_iaload (q := 7) kM351 nM351 (by decide) b1 rfl (by decide +kernel) ?_
  refine P_aload_n (n := 0) (q := 8) rfl rfl (by decide +kernel) ?_
  refine B_getfR (q := 11) fX11_326 kM306 (rM306_68 hs) rfl (by decide +kernel) ?_
  refine P_iload_n (n := 1) (q := 12) rfl rfl (by decide +kernel) ?_
  refine B_iaload (q := 13) kM352 nM352 (by decide) b1 rfl (by decide +kernel) ?_
  refine P_invV (As := [(0, (I 351 x1)), (0, (I 352 x1))]) (q := 16) oX11_farFrom rfl kM306 kX11_473 e1 hMF (Nat.le_of_ble_eq_true rfl) hc rfl (by decide +kernel) (fun z I2 R2 hq => ?_)
  exact (h z I2 R2 hq)
theorem S_X11_canGet_16 {X : CX} {d : Nat} {x1 o0 : Int} {I R : PF} {Q : PV → PF → PF → Prop} (c1 : -2147483648 ≤ o0 ∧ o0 < 2147483648) (h1 : 1 < o0 → PN X d mX11_canGet 32 [] [] I R Q) (h2 : o0 ≤ 1 → PN X d mX11_canGet 20 [(2, 306), (0, x1)] [] I R Q) : PN X d mX11_canGet 16 [(2, 306), (0, x1)] [(0, o0)] I R Q := by
  refine P_iconst (n := 1) (q := 17) rfl (by decide +kernel) ?_
  refine B_icmp_gt (off := 15) (t := 32) (q := 20) c1 ⟨by decide, by decide⟩ (by decide) rfl (by decide +kernel) ?_ ?_
  · exact fun g9 => (PW_sub (ls' := []) trivial (h1 g9))
  · exact fun g9 => (h2 g9)
theorem S_X11_canGet_20 {X : CX} {d d1 : Nat} {x1 : Int} {I R : PF} {Q Q1 : PV → PF → PF → Prop} (e1 : d1 + 1 ≤ d) (hc : CN X d1 mX11_tallOf [(2, 306), (0, x1)] I R Q1) (h : ∀ z I2 R2, Q1 (0, z) I2 R2 → PN X d mX11_canGet 25 [(2, 306), (0, x1)] [(0, z)] I2 R2 Q) : PN X d mX11_canGet 20 [(2, 306), (0, x1)] [] I R Q := by
  refine P_aload_n (n := 0) (q := 21) rfl rfl (by decide +kernel) ?_
  refine P_iload_n (n := 1) (q := 22) rfl rfl (by decide +kernel) ?_
  refine P_invV (As := [(0, x1)]) (q := 25) oX11_tallOf rfl kM306 kX11_476 e1 hMF (Nat.le_of_ble_eq_true rfl) hc rfl (by decide +kernel) (fun z I2 R2 hq => ?_)
  exact (h z I2 R2 hq)
theorem S_X11_canGet_25 {X : CX} {d : Nat} {x1 o0 : Int} {I R : PF} {Q : PV → PF → PF → Prop} (c1 : -2147483648 ≤ o0 ∧ o0 < 2147483648) (c2 : -2147483648 ≤ (I 306 66) ∧ (I 306 66) < 2147483648) (h1 : (I 306 66) ≤ o0 → PN X d mX11_canGet 34 [(2, 306), (0, x1)] [] I R Q) (h2 : o0 < (I 306 66) → PN X d mX11_canGet 32 [] [] I R Q) : PN X d mX11_canGet 25 [(2, 306), (0, x1)] [(0, o0)] I R Q := by
  refine P_aload_n (n := 0) (q := 26) rfl rfl (by decide +kernel) ?_
  refine P_getf (q := 29) fX11_456 kM306 rfl (by decide +kernel) ?_
  refine B_icmp_ge (off := 5) (t := 34) (q := 32) c1 c2 (by decide) rfl (by decide +kernel) ?_ ?_
  · exact fun g9 => (h1 g9)
  · exact fun g9 => (PW_sub (ls' := []) trivial (h2 g9))
theorem S_X11_canGet_32 {X : CX} {d : Nat} {I R : PF} {Q : PV → PF → PF → Prop} (h : Q (0, 0) I R) : PN X d mX11_canGet 32 [] [] I R Q := by
  refine P_iconst (n := 0) (q := 33) rfl (by decide +kernel) ?_
  refine P_zret rfl (Or.inl rfl) (by decide +kernel) h
theorem S_X11_canGet_34 {X : CX} {d : Nat} {x1 : Int} {I R : PF} {Q : PV → PF → PF → Prop} (hs : Shp R) (c1 : -2147483648 ≤ ((u2 I 306 62 (I 306 66)) 345 3) ∧ ((u2 I 306 62 (I 306 66)) 345 3) < 2147483648) (h1 : ((u2 I 306 62 (I 306 66)) 345 3) = (-1) → PN X d mX11_canGet 63 [] [] (u2 I 306 62 (I 306 66)) R Q) (h2 : ((u2 I 306 62 (I 306 66)) 345 3) ≠ (-1) → PN X d mX11_canGet 52 [(2, 306), (0, x1)] [] (u2 I 306 62 (I 306 66)) R Q) : PN X d mX11_canGet 34 [(2, 306), (0, x1)] [] I R Q := by
  refine P_aload_n (n := 0) (q := 35) rfl rfl (by decide +kernel) ?_
  refine P_aload_n (n := 0) (q := 36) rfl rfl (by decide +kernel) ?_
  refine P_getf (q := 39) fX11_456 kM306 rfl (by decide +kernel) ?_
  refine P_putI (q := 42) wX11_459 (fun h => by cases h) kM306 rfl (by decide +kernel) ?_
  refine P_aload_n (n := 0) (q := 43) rfl rfl (by decide +kernel) ?_
  refine B_getfR (q := 46) fX11_229 kM306 (rM306_50 hs) rfl (by decide +kernel) ?_
  refine P_iconst (n := 3) (q := 47) rfl (by decide +kernel) ?_
  refine B_iaload (q := 48) kM345 nM345 (by decide) ⟨by decide, by decide⟩ rfl (by decide +kernel) ?_
  refine P_iconst (n := (-1)) (q := 49) rfl (by decide +kernel) ?_
  refine B_icmp_eq (off := 14) (t := 63) (q := 52) c1 ⟨by decide, by decide⟩ (by decide) rfl (by decide +kernel) ?_ ?_
  · exact fun g9 => (PW_sub (ls' := []) trivial (h1 g9))
  · exact fun g9 => (h2 g9)
theorem S_X11_canGet_52 {X : CX} {d d1 : Nat} {x1 : Int} {I R : PF} {Q Q1 : PV → PF → PF → Prop} (e1 : d1 + 1 ≤ d) (hc : CN X d1 mX11_codesTell [(2, 306), (0, 1), (0, x1)] I R Q1) (h : ∀ z I2 R2, Q1 (1, z) I2 R2 → PN X d mX11_canGet 58 [] [(1, z)] I2 R2 Q) : PN X d mX11_canGet 52 [(2, 306), (0, x1)] [] I R Q := by
  refine P_aload_n (n := 0) (q := 53) rfl rfl (by decide +kernel) ?_
  refine P_iconst (n := 1) (q := 54) rfl (by decide +kernel) ?_
  refine P_iload_n (n := 1) (q := 55) rfl rfl (by decide +kernel) ?_
  refine P_invV (As := [(0, 1), (0, x1)]) (q := 58) oX11_codesTell rfl kM306 kX11_462 e1 hMF (Nat.le_of_ble_eq_true rfl) hc rfl (by decide +kernel) (fun z I2 R2 hq => ?_)
  exact (PW_sub (ls' := []) trivial (h z I2 R2 hq))
theorem S_X11_canGet_58 {X : CX} {d : Nat} {v0 : Int} {I R : PF} {Q : PV → PF → PF → Prop} (c1 : -9223372036854775808 ≤ v0 ∧ v0 < 9223372036854775808) (h1 : v0 ≠ 1 → PN X d mX11_canGet 67 [] [] I R Q) (h2 : v0 = 1 → PN X d mX11_canGet 63 [] [] I R Q) : PN X d mX11_canGet 58 [] [(1, v0)] I R Q := by
  refine P_lconst (n := 1) (x := 1) (q := 59) rfl rfl (by decide +kernel) ?_
  refine B_lif_ne (off := 7) (t := 67) (q1 := 60) (q := 63) c1 ⟨by decide, by decide⟩ rfl (by decide +kernel) (by decide) rfl (by decide +kernel) ?_ ?_
  · exact fun g9 => (PW_sub (ls' := []) trivial (h1 g9))
  · exact fun g9 => (PW_sub (ls' := []) trivial (h2 g9))
theorem S_X11_canGet_63 {X : CX} {d : Nat} {I R : PF} {Q : PV → PF → PF → Prop} (h : PN X d mX11_canGet 68 [] [(0, 1)] I R Q) : PN X d mX11_canGet 63 [] [] I R Q := by
  refine P_iconst (n := 1) (q := 64) rfl (by decide +kernel) ?_
  refine P_goto (off := 4) (t := 68) (by decide) (by decide +kernel) ?_
  exact (PW_sub (ls' := []) trivial h)
theorem S_X11_canGet_67 {X : CX} {d : Nat} {I R : PF} {Q : PV → PF → PF → Prop} (h : PN X d mX11_canGet 68 [] [(0, 0)] I R Q) : PN X d mX11_canGet 67 [] [] I R Q := by
  refine P_iconst (n := 0) (q := 68) rfl (by decide +kernel) ?_
  exact (PW_sub (ls' := []) trivial h)
theorem S_X11_canGet_68 {X : CX} {d : Nat} {o0 : Int} {I R : PF} {Q : PV → PF → PF → Prop} (z1 : o0 = 0 ∨ o0 = 1) (h : Q (0, o0) I R) : PN X d mX11_canGet 68 [] [(0, o0)] I R Q := by
  refine P_zret rfl z1 (by decide +kernel) h
theorem S_X11_chance_0 {X : CX} {d : Nat} {x1 : Int} {I R : PF} {Q : PV → PF → PF → Prop} (c1 : -2147483648 ≤ (I 306 55) ∧ (I 306 55) < 2147483648) (h1 : (I 306 55) = 0 → PN X d mX11_chance 18 [(2, 306)] [] I R Q) (h2 : (I 306 55) ≠ 0 → PN X d mX11_chance 7 [(2, 306), (0, x1)] [] I R Q) : PN X d mX11_chance 0 [(2, 306), (0, x1)] [] I R Q := by
  refine P_aload_n (n := 0) (q := 1) rfl rfl (by decide +kernel) ?_
  refine P_getf (q := 4) fX11_296 kM306 rfl (by decide +kernel) ?_
  refine B_if_eq (off := 14) (t := 18) (q := 7) c1 (by decide) rfl (by decide +kernel) ?_ ?_
  · exact fun g9 => (PW_sub (ls' := [(2, 306)]) ⟨Or.inr rfl, trivial⟩ (h1 g9))
  · exact fun g9 => (h2 g9)
theorem S_X11_chance_7 {X : CX} {d d1 : Nat} {x1 : Int} {I R : PF} {Q Q1 : PV → PF → PF → Prop} (e1 : d1 + 1 ≤ d) (hc : CN X d1 mX11_isAhead [(2, 306), (0, x1), (0, 1), (0, 100)] I R Q1) (h : ∀ z I2 R2, Q1 (0, z) I2 R2 → PN X d mX11_chance 15 [(2, 306), (0, x1)] [(0, z)] I2 R2 Q) : PN X d mX11_chance 7 [(2, 306), (0, x1)] [] I R Q := by
  refine P_aload_n (n := 0) (q := 8) rfl rfl (by decide +kernel) ?_
  refine P_iload_n (n := 1) (q := 9) rfl rfl (by decide +kernel) ?_
  refine P_iconst (n := 1) (q := 10) rfl (by decide +kernel) ?_
  refine P_bipush (n := 100) (q := 12) rfl rfl (by decide +kernel) ?_
  refine P_invV (As := [(0, x1), (0, 1), (0, 100)]) (q := 15) oX11_isAhead rfl kM306 kX11_565 e1 hMF (Nat.le_of_ble_eq_true rfl) hc rfl (by decide +kernel) (fun z I2 R2 hq => ?_)
  exact (h z I2 R2 hq)
theorem S_X11_chance_15 {X : CX} {d : Nat} {x1 o0 : Int} {I R : PF} {Q : PV → PF → PF → Prop} (c1 : -2147483648 ≤ o0 ∧ o0 < 2147483648) (h1 : o0 ≠ 0 → PN X d mX11_chance 24 [(2, 306), (0, x1)] [] I R Q) (h2 : o0 = 0 → PN X d mX11_chance 18 [(2, 306)] [] I R Q) : PN X d mX11_chance 15 [(2, 306), (0, x1)] [(0, o0)] I R Q := by
  refine B_if_ne (off := 9) (t := 24) (q := 18) c1 (by decide) rfl (by decide +kernel) ?_ ?_
  · exact fun g9 => (h1 g9)
  · exact fun g9 => (PW_sub (ls' := [(2, 306)]) ⟨Or.inr rfl, trivial⟩ (h2 g9))
theorem S_X11_chance_18 {X : CX} {d d1 : Nat} {I R : PF} {Q Q1 : PV → PF → PF → Prop} (e1 : d1 + 1 ≤ d) (hc : CN X d1 mX11_refuses [(2, 306), (0, 3)] I R Q1) (h : ∀ z I2 R2, Q1 (0, z) I2 R2 → PN X d mX11_chance 23 [] [(0, z)] I2 R2 Q) : PN X d mX11_chance 18 [(2, 306)] [] I R Q := by
  refine P_aload_n (n := 0) (q := 19) rfl rfl (by decide +kernel) ?_
  refine P_iconst (n := 3) (q := 20) rfl (by decide +kernel) ?_
  refine P_invV (As := [(0, 3)]) (q := 23) oX11_refuses rfl kM306 kX11_594 e1 hMF (Nat.le_of_ble_eq_true rfl) hc rfl (by decide +kernel) (fun z I2 R2 hq => ?_)
  exact (PW_sub (ls' := []) trivial (h z I2 R2 hq))
theorem S_X11_chance_23 {X : CX} {d : Nat} {o0 : Int} {I R : PF} {Q : PV → PF → PF → Prop} (h : Q (0, o0) I R) : PN X d mX11_chance 23 [] [(0, o0)] I R Q := by
  refine P_iret rfl (by decide +kernel) h
theorem S_X11_chance_24 {X : CX} {d d1 : Nat} {x1 : Int} {I R : PF} {Q Q1 : PV → PF → PF → Prop} (e1 : d1 + 1 ≤ d) (hc : CN X d1 mX11_keeps [(2, 306)] I R Q1) (h : ∀ z I2 R2, Q1 (9, z) I2 R2 → PN X d mX11_chance 28 [(2, 306), (0, x1)] [] I2 R2 Q) : PN X d mX11_chance 24 [(2, 306), (0, x1)] [] I R Q := by
  refine P_aload_n (n := 0) (q := 25) rfl rfl (by decide +kernel) ?_
  refine P_invV (As := []) (q := 28) oX11_keeps rfl kM306 kX11_591 e1 hMF (Nat.le_of_ble_eq_true rfl) hc rfl (by decide +kernel) (fun z I2 R2 hq => ?_)
  exact (h z I2 R2 hq)
theorem S_X11_chance_28 {X : CX} {d : Nat} {x1 : Int} {I R : PF} {Q : PV → PF → PF → Prop} (h : PN X d mX11_chance 35 [(2, 306), (0, x1), (0, 0)] [] (u2 I 306 71 0) R Q) : PN X d mX11_chance 28 [(2, 306), (0, x1)] [] I R Q := by
  refine P_aload_n (n := 0) (q := 29) rfl rfl (by decide +kernel) ?_
  refine P_iconst (n := 0) (q := 30) rfl (by decide +kernel) ?_
  refine P_putI (q := 33) wX11_506 (fun h => by cases h) kM306 rfl (by decide +kernel) ?_
  refine P_iconst (n := 0) (q := 34) rfl (by decide +kernel) ?_
  refine P_istore_n (n := 2) (by decide) (q := 35) rfl (by decide +kernel) ?_
  exact h
theorem S_X11_chance_35 {X : CX} {d : Nat} {x1 x2 : Int} {I R : PF} {Q : PV → PF → PF → Prop} (c1 : -2147483648 ≤ x2 ∧ x2 < 2147483648) (c2 : -2147483648 ≤ x1 ∧ x1 < 2147483648) (h1 : x1 ≤ x2 → PN X d mX11_chance 51 [(2, 306)] [] I R Q) (h2 : x2 < x1 → PN X d mX11_chance 40 [(2, 306), (0, x1), (0, x2)] [] I R Q) : PN X d mX11_chance 35 [(2, 306), (0, x1), (0, x2)] [] I R Q := by
  refine P_iload_n (n := 2) (q := 36) rfl rfl (by decide +kernel) ?_
  refine P_iload_n (n := 1) (q := 37) rfl rfl (by decide +kernel) ?_
  refine B_icmp_ge (off := 14) (t := 51) (q := 40) c1 c2 (by decide) rfl (by decide +kernel) ?_ ?_
  · exact fun g9 => (PW_sub (ls' := [(2, 306)]) ⟨Or.inr rfl, trivial⟩ (h1 g9))
  · exact fun g9 => (h2 g9)
theorem S_X11_chance_40 {X : CX} {d d1 : Nat} {x1 x2 : Int} {I R : PF} {Q Q1 : PV → PF → PF → Prop} (e1 : d1 + 1 ≤ d) (hc : CN X d1 mX11_noonGoes [(2, 306), (0, 1)] I R Q1) (h : ∀ z I2 R2, Q1 (9, z) I2 R2 → PN X d mX11_chance 45 [(2, 306), (0, x1), (0, x2)] [] I2 R2 Q) : PN X d mX11_chance 40 [(2, 306), (0, x1), (0, x2)] [] I R Q := by
  refine P_aload_n (n := 0) (q := 41) rfl rfl (by decide +kernel) ?_
  refine P_iconst (n := 1) (q := 42) rfl (by decide +kernel) ?_
  refine P_invV (As := [(0, 1)]) (q := 45) oX11_noonGoes rfl kM306 kX11_562 e1 hMF (Nat.le_of_ble_eq_true rfl) hc rfl (by decide +kernel) (fun z I2 R2 hq => ?_)
  exact (h z I2 R2 hq)
theorem S_X11_chance_45 {X : CX} {d : Nat} {x1 x2 : Int} {I R : PF} {Q : PV → PF → PF → Prop} (h : PN X d mX11_chance 35 [(2, 306), (0, x1), (0, (x2 + 1))] [] I R Q) : PN X d mX11_chance 45 [(2, 306), (0, x1), (0, x2)] [] I R Q := by
  refine P_iinc (n := 2) (a := 1) (by decide) rfl (q := 48) rfl (by decide +kernel) ?_
  refine P_goto (off := (-13)) (t := 35) (by decide) (by decide +kernel) ?_
  exact h
theorem S_X11_chance_51 {X : CX} {d : Nat} {I R : PF} {Q : PV → PF → PF → Prop} (h : Q (0, (I 306 71)) I R) : PN X d mX11_chance 51 [(2, 306)] [] I R Q := by
  refine P_aload_n (n := 0) (q := 52) rfl rfl (by decide +kernel) ?_
  refine P_getf (q := 55) fX11_506 kM306 rfl (by decide +kernel) ?_
  refine P_iret rfl (by decide +kernel) h
theorem S_X11_change_0 {X : CX} {d d1 : Nat} {x1 x2 : Int} {I R : PF} {Q Q1 : PV → PF → PF → Prop} (e1 : d1 + 1 ≤ d) (hc : CN X d1 mX11_isPerson [(2, 306), (0, x1)] I R Q1) (h : ∀ z I2 R2, Q1 (0, z) I2 R2 → PN X d mX11_change 5 [(2, 306), (0, x1), (0, x2)] [(0, z)] I2 R2 Q) : PN X d mX11_change 0 [(2, 306), (0, x1), (0, x2)] [] I R Q := by
  refine P_aload_n (n := 0) (q := 1) rfl rfl (by decide +kernel) ?_
  refine P_iload_n (n := 1) (q := 2) rfl rfl (by decide +kernel) ?_
  refine P_invV (As := [(0, x1)]) (q := 5) oX11_isPerson rfl kM306 kX11_533 e1 hMF (Nat.le_of_ble_eq_true rfl) hc rfl (by decide +kernel) (fun z I2 R2 hq => ?_)
  exact (h z I2 R2 hq)
theorem S_X11_change_5 {X : CX} {d : Nat} {x1 x2 o0 : Int} {I R : PF} {Q : PV → PF → PF → Prop} (c1 : -2147483648 ≤ o0 ∧ o0 < 2147483648) (h1 : o0 = 0 → PN X d mX11_change 20 [] [] I R Q) (h2 : o0 ≠ 0 → PN X d mX11_change 8 [(2, 306), (0, x1), (0, x2)] [] I R Q) : PN X d mX11_change 5 [(2, 306), (0, x1), (0, x2)] [(0, o0)] I R Q := by
  refine B_if_eq (off := 15) (t := 20) (q := 8) c1 (by decide) rfl (by decide +kernel) ?_ ?_
  · exact fun g9 => (PW_sub (ls' := []) trivial (h1 g9))
  · exact fun g9 => (h2 g9)
theorem S_X11_change_8 {X : CX} {d d1 : Nat} {x1 x2 : Int} {I R : PF} {Q Q1 : PV → PF → PF → Prop} (c1 : -2147483648 ≤ x2 ∧ x2 < 2147483648) (e1 : d1 + 1 ≤ d) (hc : CN X d1 mX11_isIn [(1, x2), (1, 0), (1, 2)] I R Q1) (h : ∀ z I2 R2, Q1 (0, z) I2 R2 → PN X d mX11_change 17 [(2, 306), (0, x1), (0, x2)] [(0, z)] I2 R2 Q) : PN X d mX11_change 8 [(2, 306), (0, x1), (0, x2)] [] I R Q := by
  refine P_iload_n (n := 2) (q := 9) rfl rfl (by decide +kernel) ?_
  refine B_i2l (q := 10) c1 rfl (by decide +kernel) ?_
  refine P_lconst (n := 0) (x := 0) (q := 11) rfl rfl (by decide +kernel) ?_
  refine P_ldc2 (ix := 539) (v := 2) (x := 2) (q := 14) rfl (tGp8 43 rfl rfl) rfl (by decide +kernel) ?_
  refine P_invS (As := [(1, x2), (1, 0), (1, 2)]) (q := 17) oX11_isIn rfl (Or.inl kX11_57) e1 hMF (Nat.le_of_ble_eq_true rfl) hc rfl (by decide +kernel) (fun z I2 R2 hq => ?_)
  exact (h z I2 R2 hq)
theorem S_X11_change_17 {X : CX} {d : Nat} {x1 x2 o0 : Int} {I R : PF} {Q : PV → PF → PF → Prop} (c1 : -2147483648 ≤ o0 ∧ o0 < 2147483648) (h1 : o0 ≠ 0 → PN X d mX11_change 22 [(2, 306), (0, x1), (0, x2)] [] I R Q) (h2 : o0 = 0 → PN X d mX11_change 20 [] [] I R Q) : PN X d mX11_change 17 [(2, 306), (0, x1), (0, x2)] [(0, o0)] I R Q := by
  refine B_if_ne (off := 5) (t := 22) (q := 20) c1 (by decide) rfl (by decide +kernel) ?_ ?_
  · exact fun g9 => (h1 g9)
  · exact fun g9 => (PW_sub (ls' := []) trivial (h2 g9))
theorem S_X11_change_20 {X : CX} {d : Nat} {I R : PF} {Q : PV → PF → PF → Prop} (h : Q (0, (-1)) I R) : PN X d mX11_change 20 [] [] I R Q := by
  refine P_iconst (n := (-1)) (q := 21) rfl (by decide +kernel) ?_
  refine P_iret rfl (by decide +kernel) h
theorem S_X11_change_22 {X : CX} {d : Nat} {x1 x2 : Int} {I R : PF} {Q : PV → PF → PF → Prop} (hs : Shp R) (c1 : -2147483648 ≤ (I 348 1) ∧ (I 348 1) < 2147483648) (h1 : (I 348 1) ≠ (-1) → PN X d mX11_change 36 [(2, 306), (0, x1), (0, x2)] [] I R Q) (h2 : (I 348 1) = (-1) → PN X d mX11_change 32 [(2, 306), (0, x1), (0, x2)] [] I R Q) : PN X d mX11_change 22 [(2, 306), (0, x1), (0, x2)] [] I R Q := by
  refine P_aload_n (n := 0) (q := 23) rfl rfl (by decide +kernel) ?_
  refine B_getfR (q := 26) fX11_303 kM306 (rM306_59 hs) rfl (by decide +kernel) ?_
  refine P_iconst (n := 1) (q := 27) rfl (by decide +kernel) ?_
  refine B_iaload (q := 28) kM348 nM348 (by decide) ⟨by decide, by decide⟩ rfl (by decide +kernel) ?_
  refine P_iconst (n := (-1)) (q := 29) rfl (by decide +kernel) ?_
  refine B_icmp_ne (off := 7) (t := 36) (q := 32) c1 ⟨by decide, by decide⟩ (by decide) rfl (by decide +kernel) ?_ ?_
  · exact fun g9 => (h1 g9)
  · exact fun g9 => (h2 g9)
theorem S_X11_change_32 {X : CX} {d : Nat} {x1 x2 : Int} {I R : PF} {Q : PV → PF → PF → Prop} (h : PN X d mX11_change 53 [(2, 306), (0, x1), (0, x2)] [(0, 0)] I R Q) : PN X d mX11_change 32 [(2, 306), (0, x1), (0, x2)] [] I R Q := by
  refine P_iconst (n := 0) (q := 33) rfl (by decide +kernel) ?_
  refine P_goto (off := 20) (t := 53) (by decide) (by decide +kernel) ?_
  exact h
theorem S_X11_change_36 {X : CX} {d : Nat} {x1 x2 : Int} {I R : PF} {Q : PV → PF → PF → Prop} (hs : Shp R) (b1 : (0 : Int) ≤ ((3 + (5 * (I 348 1))) + 2) ∧ ((3 + (5 * (I 348 1))) + 2) < 154) (h : PN X d mX11_change 53 [(2, 306), (0, x1), (0, x2)] [(0, (I 348 ((3 + (5 * (I 348 1))) + 2)))] I R Q) : PN X d mX11_change 36 [(2, 306), (0, x1), (0, x2)] [] I R Q := by
  refine P_aload_n (n := 0) (q := 37) rfl rfl (by decide +kernel) ?_
  refine B_getfR (q := 40) fX11_303 kM306 (rM306_59 hs) rfl (by decide +kernel) ?_
  refine P_iconst (n := 3) (q := 41) rfl (by decide +kernel) ?_
  refine P_iconst (n := 5) (q := 42) rfl (by decide +kernel) ?_
  refine P_aload_n (n := 0) (q := 43) rfl rfl (by decide +kernel) ?_
  refine B_getfR (q := 46) fX11_303 kM306 (rM306_59 hs) rfl (by decide +kernel) ?_
  refine P_iconst (n := 1) (q := 47) rfl (by decide +kernel) ?_
  refine B_iaload (q := 48) kM348 nM348 (by decide) ⟨by decide, by decide⟩ rfl (by decide +kernel) ?_
  refine P_imul (q := 49) rfl (by decide +kernel) ?_
  refine P_iadd (q := 50) rfl (by decide +kernel) ?_
  refine P_iconst (n := 2) (q := 51) rfl (by decide +kernel) ?_
  refine P_iadd (q := 52) rfl (by decide +kernel) ?_
  refine B_iaload (q := 53) kM348 nM348 (by decide) b1 rfl (by decide +kernel) ?_
  exact h
theorem S_X11_change_53 {X : CX} {d : Nat} {x1 x2 o0 : Int} {I R : PF} {Q : PV → PF → PF → Prop} (hs : Shp R) (c1 : -2147483648 ≤ (I 348 1) ∧ (I 348 1) < 2147483648) (h1 : (I 348 1) ≠ (-1) → PN X d mX11_change 68 [(2, 306), (0, x1), (0, x2), (0, o0)] [] I R Q) (h2 : (I 348 1) = (-1) → PN X d mX11_change 64 [(2, 306), (0, x1), (0, x2), (0, o0)] [] I R Q) : PN X d mX11_change 53 [(2, 306), (0, x1), (0, x2)] [(0, o0)] I R Q := by
  refine P_istore_n (n := 3) (by decide) (q := 54) rfl (by decide +kernel) ?_
  refine P_aload_n (n := 0) (q := 55) rfl rfl (by decide +kernel) ?_
  refine B_getfR (q := 58) fX11_303 kM306 (rM306_59 hs) rfl (by decide +kernel) ?_
  refine P_iconst (n := 1) (q := 59) rfl (by decide +kernel) ?_
  refine B_iaload (q := 60) kM348 nM348 (by decide) ⟨by decide, by decide⟩ rfl (by decide +kernel) ?_
  refine P_iconst (n := (-1)) (q := 61) rfl (by decide +kernel) ?_
  refine B_icmp_ne (off := 7) (t := 68) (q := 64) c1 ⟨by decide, by decide⟩ (by decide) rfl (by decide +kernel) ?_ ?_
  · exact fun g9 => (h1 g9)
  · exact fun g9 => (h2 g9)
theorem S_X11_change_64 {X : CX} {d : Nat} {x1 x2 x3 : Int} {I R : PF} {Q : PV → PF → PF → Prop} (h : PN X d mX11_change 85 [(2, 306), (0, x1), (0, x2), (0, x3)] [(0, 0)] I R Q) : PN X d mX11_change 64 [(2, 306), (0, x1), (0, x2), (0, x3)] [] I R Q := by
  refine P_iconst (n := 0) (q := 65) rfl (by decide +kernel) ?_
  refine P_goto (off := 20) (t := 85) (by decide) (by decide +kernel) ?_
  exact h
theorem S_X11_change_68 {X : CX} {d : Nat} {x1 x2 x3 : Int} {I R : PF} {Q : PV → PF → PF → Prop} (hs : Shp R) (b1 : (0 : Int) ≤ ((3 + (5 * (I 348 1))) + 3) ∧ ((3 + (5 * (I 348 1))) + 3) < 154) (h : PN X d mX11_change 85 [(2, 306), (0, x1), (0, x2), (0, x3)] [(0, (I 348 ((3 + (5 * (I 348 1))) + 3)))] I R Q) : PN X d mX11_change 68 [(2, 306), (0, x1), (0, x2), (0, x3)] [] I R Q := by
  refine P_aload_n (n := 0) (q := 69) rfl rfl (by decide +kernel) ?_
  refine B_getfR (q := 72) fX11_303 kM306 (rM306_59 hs) rfl (by decide +kernel) ?_
  refine P_iconst (n := 3) (q := 73) rfl (by decide +kernel) ?_
  refine P_iconst (n := 5) (q := 74) rfl (by decide +kernel) ?_
  refine P_aload_n (n := 0) (q := 75) rfl rfl (by decide +kernel) ?_
  refine B_getfR (q := 78) fX11_303 kM306 (rM306_59 hs) rfl (by decide +kernel) ?_
  refine P_iconst (n := 1) (q := 79) rfl (by decide +kernel) ?_
  refine B_iaload (q := 80) kM348 nM348 (by decide) ⟨by decide, by decide⟩ rfl (by decide +kernel) ?_
  refine P_imul (q := 81) rfl (by decide +kernel) ?_
  refine P_iadd (q := 82) rfl (by decide +kernel) ?_
  refine P_iconst (n := 3) (q := 83) rfl (by decide +kernel) ?_
  refine P_iadd (q := 84) rfl (by decide +kernel) ?_
  refine B_iaload (q := 85) kM348 nM348 (by decide) b1 rfl (by decide +kernel) ?_
  exact h
theorem S_X11_change_85 {X : CX} {d : Nat} {x1 x2 x3 o0 : Int} {I R : PF} {Q : PV → PF → PF → Prop} (h : PN X d mX11_change 96 [(2, 306), (0, x1), (0, x2), (0, x3), (0, o0), (0, (-1)), (0, 0), (0, 0)] [] I R Q) : PN X d mX11_change 85 [(2, 306), (0, x1), (0, x2), (0, x3)] [(0, o0)] I R Q := by
  refine P_istore (n := 4) (by decide) (q := 87) rfl (by decide +kernel) ?_
  refine P_iconst (n := (-1)) (q := 88) rfl (by decide +kernel) ?_
  refine P_istore (n := 5) (by decide) (q := 90) rfl (by decide +kernel) ?_
  refine P_iconst (n := 0) (q := 91) rfl (by decide +kernel) ?_
  refine P_istore (n := 6) (by decide) (q := 93) rfl (by decide +kernel) ?_
  refine P_iconst (n := 0) (q := 94) rfl (by decide +kernel) ?_
  refine P_istore (n := 7) (by decide) (q := 96) rfl (by decide +kernel) ?_
  exact h
theorem S_X11_change_96 {X : CX} {d : Nat} {x1 x2 x3 x4 x5 x6 x7 : Int} {I R : PF} {Q : PV → PF → PF → Prop} (c1 : -2147483648 ≤ x7 ∧ x7 < 2147483648) (h1 : 33 ≤ x7 → PN X d mX11_change 173 [(9, 0), (9, 0), (0, x2), (9, 0), (9, 0), (0, x5), (0, x6)] [] I R Q) (h2 : x7 < 33 → PN X d mX11_change 103 [(2, 306), (0, x1), (0, x2), (0, x3), (0, x4), (0, x5), (0, x6), (0, x7)] [] I R Q) : PN X d mX11_change 96 [(2, 306), (0, x1), (0, x2), (0, x3), (0, x4), (0, x5), (0, x6), (0, x7)] [] I R Q := by
  refine P_iload (n := 7) (q := 98) rfl rfl (by decide +kernel) ?_
  refine P_bipush (n := 33) (q := 100) rfl rfl (by decide +kernel) ?_
  refine B_icmp_ge (off := 73) (t := 173) (q := 103) c1 ⟨by decide, by decide⟩ (by decide) rfl (by decide +kernel) ?_ ?_
  · exact fun g9 => (PW_sub (ls' := [(9, 0), (9, 0), (0, x2), (9, 0), (9, 0), (0, x5), (0, x6)]) ⟨Or.inl rfl, Or.inl rfl, Or.inr rfl, Or.inl rfl, Or.inl rfl, Or.inr rfl, Or.inr rfl, trivial⟩ (h1 g9))
  · exact fun g9 => (h2 g9)
theorem S_X11_change_103 {X : CX} {d d1 : Nat} {x1 x2 x3 x4 x5 x6 x7 : Int} {I R : PF} {Q Q1 : PV → PF → PF → Prop} (e1 : d1 + 1 ≤ d) (hc : CN X d1 mX11_wayOf [(0, x7)] I R Q1) (h : ∀ z I2 R2, Q1 (0, z) I2 R2 → PN X d mX11_change 109 [(2, 306), (0, x1), (0, x2), (0, x3), (0, x4), (0, x5), (0, x6), (0, x7)] [(0, z), (2, 306)] I2 R2 Q) : PN X d mX11_change 103 [(2, 306), (0, x1), (0, x2), (0, x3), (0, x4), (0, x5), (0, x6), (0, x7)] [] I R Q := by
  refine P_aload_n (n := 0) (q := 104) rfl rfl (by decide +kernel) ?_
  refine P_iload (n := 7) (q := 106) rfl rfl (by decide +kernel) ?_
  refine P_invS (As := [(0, x7)]) (q := 109) oX11_wayOf rfl (Or.inl kX11_549) e1 hMF (Nat.le_of_ble_eq_true rfl) hc rfl (by decide +kernel) (fun z I2 R2 hq => ?_)
  exact (h z I2 R2 hq)
theorem S_X11_change_109 {X : CX} {d d1 : Nat} {x1 x2 x3 x4 x5 x6 x7 o1 : Int} {I R : PF} {Q Q1 : PV → PF → PF → Prop} (e1 : d1 + 1 ≤ d) (hc : CN X d1 mX11_forceOf [(0, x7)] I R Q1) (h : ∀ z I2 R2, Q1 (0, z) I2 R2 → PN X d mX11_change 114 [(2, 306), (0, x1), (0, x2), (0, x3), (0, x4), (0, x5), (0, x6), (0, x7)] [(0, z), (0, o1), (2, 306)] I2 R2 Q) : PN X d mX11_change 109 [(2, 306), (0, x1), (0, x2), (0, x3), (0, x4), (0, x5), (0, x6), (0, x7)] [(0, o1), (2, 306)] I R Q := by
  refine P_iload (n := 7) (q := 111) rfl rfl (by decide +kernel) ?_
  refine P_invS (As := [(0, x7)]) (q := 114) oX11_forceOf rfl (Or.inl kX11_552) e1 hMF (Nat.le_of_ble_eq_true rfl) hc rfl (by decide +kernel) (fun z I2 R2 hq => ?_)
  exact (h z I2 R2 hq)
theorem S_X11_change_114 {X : CX} {d d1 : Nat} {x1 x2 x3 x4 x5 x6 x7 o1 o2 : Int} {I R : PF} {Q Q1 : PV → PF → PF → Prop} (hs : Shp R) (e1 : d1 + 1 ≤ d) (hc : CN X d1 mX11_tosses [(2, 306), (0, o1), (0, o2), (0, (I 348 0))] I R Q1) (h : ∀ z I2 R2, Q1 (9, z) I2 R2 → PN X d mX11_change 123 [(2, 306), (0, x1), (0, x2), (0, x3), (0, x4), (0, x5), (0, x6), (0, x7)] [] I2 R2 Q) : PN X d mX11_change 114 [(2, 306), (0, x1), (0, x2), (0, x3), (0, x4), (0, x5), (0, x6), (0, x7)] [(0, o2), (0, o1), (2, 306)] I R Q := by
  refine P_aload_n (n := 0) (q := 115) rfl rfl (by decide +kernel) ?_
  refine B_getfR (q := 118) fX11_303 kM306 (rM306_59 hs) rfl (by decide +kernel) ?_
  refine P_iconst (n := 0) (q := 119) rfl (by decide +kernel) ?_
  refine B_iaload (q := 120) kM348 nM348 (by decide) ⟨by decide, by decide⟩ rfl (by decide +kernel) ?_
  refine P_invV (As := [(0, o1), (0, o2), (0, (I 348 0))]) (q := 123) oX11_tosses rfl kM306 kX11_545 e1 hMF (Nat.le_of_ble_eq_true rfl) hc rfl (by decide +kernel) (fun z I2 R2 hq => ?_)
  exact (h z I2 R2 hq)
theorem S_X11_change_123 {X : CX} {d : Nat} {x1 x2 x3 x4 x5 x6 x7 : Int} {I R : PF} {Q : PV → PF → PF → Prop} (c1 : -2147483648 ≤ (I 306 69) ∧ (I 306 69) < 2147483648) (c2 : -2147483648 ≤ x1 ∧ x1 < 2147483648) (h1 : (I 306 69) ≠ x1 → PN X d mX11_change 167 [(2, 306), (0, x1), (0, x2), (0, x3), (0, x4), (0, x5), (0, x6), (0, x7)] [] I R Q) (h2 : (I 306 69) = x1 → PN X d mX11_change 131 [(2, 306), (0, x1), (0, x2), (0, x3), (0, x4), (0, x5), (0, x6), (0, x7)] [] I R Q) : PN X d mX11_change 123 [(2, 306), (0, x1), (0, x2), (0, x3), (0, x4), (0, x5), (0, x6), (0, x7)] [] I R Q := by
  refine P_aload_n (n := 0) (q := 124) rfl rfl (by decide +kernel) ?_
  refine P_getf (q := 127) fX11_485 kM306 rfl (by decide +kernel) ?_
  refine P_iload_n (n := 1) (q := 128) rfl rfl (by decide +kernel) ?_
  refine B_icmp_ne (off := 39) (t := 167) (q := 131) c1 c2 (by decide) rfl (by decide +kernel) ?_ ?_
  · exact fun g9 => (h1 g9)
  · exact fun g9 => (h2 g9)
theorem S_X11_change_131 {X : CX} {d : Nat} {x1 x2 x3 x4 x5 x6 x7 : Int} {I R : PF} {Q : PV → PF → PF → Prop} (c1 : -2147483648 ≤ x5 ∧ x5 < 2147483648) (h1 : x5 = (-1) → PN X d mX11_change 153 [(2, 306), (0, x1), (0, x2), (0, x3), (0, x4), (9, 0), (9, 0), (0, x7)] [] I R Q) (h2 : x5 ≠ (-1) → PN X d mX11_change 137 [(2, 306), (0, x1), (0, x2), (0, x3), (0, x4), (0, x5), (0, x6), (0, x7)] [] I R Q) : PN X d mX11_change 131 [(2, 306), (0, x1), (0, x2), (0, x3), (0, x4), (0, x5), (0, x6), (0, x7)] [] I R Q := by
  refine P_iload (n := 5) (q := 133) rfl rfl (by decide +kernel) ?_
  refine P_iconst (n := (-1)) (q := 134) rfl (by decide +kernel) ?_
  refine B_icmp_eq (off := 19) (t := 153) (q := 137) c1 ⟨by decide, by decide⟩ (by decide) rfl (by decide +kernel) ?_ ?_
  · exact fun g9 => (PW_sub (ls' := [(2, 306), (0, x1), (0, x2), (0, x3), (0, x4), (9, 0), (9, 0), (0, x7)]) ⟨Or.inr rfl, Or.inr rfl, Or.inr rfl, Or.inr rfl, Or.inr rfl, Or.inl rfl, Or.inl rfl, Or.inr rfl, trivial⟩ (h1 g9))
  · exact fun g9 => (h2 g9)
theorem S_X11_change_137 {X : CX} {d d1 : Nat} {x1 x2 x3 x4 x5 x6 x7 : Int} {I R : PF} {Q Q1 : PV → PF → PF → Prop} (e1 : d1 + 1 ≤ d) (hc : CN X d1 mX11_off [(0, x3), (0, x4), (0, x7)] I R Q1) (h : ∀ z I2 R2, Q1 (0, z) I2 R2 → PN X d mX11_change 145 [(2, 306), (0, x1), (0, x2), (0, x3), (0, x4), (0, x5), (0, x6), (0, x7)] [(0, z)] I2 R2 Q) : PN X d mX11_change 137 [(2, 306), (0, x1), (0, x2), (0, x3), (0, x4), (0, x5), (0, x6), (0, x7)] [] I R Q := by
  refine P_iload_n (n := 3) (q := 138) rfl rfl (by decide +kernel) ?_
  refine P_iload (n := 4) (q := 140) rfl rfl (by decide +kernel) ?_
  refine P_iload (n := 7) (q := 142) rfl rfl (by decide +kernel) ?_
  refine P_invS (As := [(0, x3), (0, x4), (0, x7)]) (q := 145) oX11_off rfl (Or.inl kX11_558) e1 hMF (Nat.le_of_ble_eq_true rfl) hc rfl (by decide +kernel) (fun z I2 R2 hq => ?_)
  exact (h z I2 R2 hq)
theorem S_X11_change_145 {X : CX} {d : Nat} {x1 x2 x3 x4 x5 x6 x7 o0 : Int} {I R : PF} {Q : PV → PF → PF → Prop} (c1 : -2147483648 ≤ o0 ∧ o0 < 2147483648) (c2 : -2147483648 ≤ x6 ∧ x6 < 2147483648) (h1 : o0 < x6 → PN X d mX11_change 153 [(2, 306), (0, x1), (0, x2), (0, x3), (0, x4), (9, 0), (9, 0), (0, x7)] [] I R Q) (h2 : x6 ≤ o0 → PN X d mX11_change 150 [(2, 306), (0, x1), (0, x2), (0, x3), (0, x4), (0, x5), (0, x6), (0, x7)] [] I R Q) : PN X d mX11_change 145 [(2, 306), (0, x1), (0, x2), (0, x3), (0, x4), (0, x5), (0, x6), (0, x7)] [(0, o0)] I R Q := by
  refine P_iload (n := 6) (q := 147) rfl rfl (by decide +kernel) ?_
  refine B_icmp_lt (off := 6) (t := 153) (q := 150) c1 c2 (by decide) rfl (by decide +kernel) ?_ ?_
  · exact fun g9 => (PW_sub (ls' := [(2, 306), (0, x1), (0, x2), (0, x3), (0, x4), (9, 0), (9, 0), (0, x7)]) ⟨Or.inr rfl, Or.inr rfl, Or.inr rfl, Or.inr rfl, Or.inr rfl, Or.inl rfl, Or.inl rfl, Or.inr rfl, trivial⟩ (h1 g9))
  · exact fun g9 => (h2 g9)
theorem S_X11_change_150 {X : CX} {d : Nat} {x1 x2 x3 x4 x5 x6 x7 : Int} {I R : PF} {Q : PV → PF → PF → Prop} (h : PN X d mX11_change 167 [(2, 306), (0, x1), (0, x2), (0, x3), (0, x4), (0, x5), (0, x6), (0, x7)] [] I R Q) : PN X d mX11_change 150 [(2, 306), (0, x1), (0, x2), (0, x3), (0, x4), (0, x5), (0, x6), (0, x7)] [] I R Q := by
  refine P_goto (off := 17) (t := 167) (by decide) (by decide +kernel) ?_
  exact h
theorem S_X11_change_153 {X : CX} {d d1 : Nat} {x1 x2 x3 x4 x7 : Int} {I R : PF} {Q Q1 : PV → PF → PF → Prop} (e1 : d1 + 1 ≤ d) (hc : CN X d1 mX11_off [(0, x3), (0, x4), (0, x7)] I R Q1) (h : ∀ z I2 R2, Q1 (0, z) I2 R2 → PN X d mX11_change 165 [(2, 306), (0, x1), (0, x2), (0, x3), (0, x4), (0, x7), (9, 0), (0, x7)] [(0, z)] I2 R2 Q) : PN X d mX11_change 153 [(2, 306), (0, x1), (0, x2), (0, x3), (0, x4), (9, 0), (9, 0), (0, x7)] [] I R Q := by
  refine P_iload (n := 7) (q := 155) rfl rfl (by decide +kernel) ?_
  refine P_istore (n := 5) (by decide) (q := 157) rfl (by decide +kernel) ?_
  refine P_iload_n (n := 3) (q := 158) rfl rfl (by decide +kernel) ?_
  refine P_iload (n := 4) (q := 160) rfl rfl (by decide +kernel) ?_
  refine P_iload (n := 7) (q := 162) rfl rfl (by decide +kernel) ?_
  refine P_invS (As := [(0, x3), (0, x4), (0, x7)]) (q := 165) oX11_off rfl (Or.inl kX11_558) e1 hMF (Nat.le_of_ble_eq_true rfl) hc rfl (by decide +kernel) (fun z I2 R2 hq => ?_)
  exact (h z I2 R2 hq)
theorem S_X11_change_165 {X : CX} {d : Nat} {x1 x2 x3 x4 x5 x7 o0 : Int} {I R : PF} {Q : PV → PF → PF → Prop} (h : PN X d mX11_change 167 [(2, 306), (0, x1), (0, x2), (0, x3), (0, x4), (0, x5), (0, o0), (0, x7)] [] I R Q) : PN X d mX11_change 165 [(2, 306), (0, x1), (0, x2), (0, x3), (0, x4), (0, x5), (9, 0), (0, x7)] [(0, o0)] I R Q := by
  refine P_istore (n := 6) (by decide) (q := 167) rfl (by decide +kernel) ?_
  exact h
theorem S_X11_change_167 {X : CX} {d : Nat} {x1 x2 x3 x4 x5 x6 x7 : Int} {I R : PF} {Q : PV → PF → PF → Prop} (h : PN X d mX11_change 96 [(2, 306), (0, x1), (0, x2), (0, x3), (0, x4), (0, x5), (0, x6), (0, (x7 + 1))] [] I R Q) : PN X d mX11_change 167 [(2, 306), (0, x1), (0, x2), (0, x3), (0, x4), (0, x5), (0, x6), (0, x7)] [] I R Q := by
  refine P_iinc (n := 7) (a := 1) (by decide) rfl (q := 170) rfl (by decide +kernel) ?_
  refine P_goto (off := (-74)) (t := 96) (by decide) (by decide +kernel) ?_
  exact h
theorem S_X11_change_173 {X : CX} {d : Nat} {x2 x5 x6 : Int} {I R : PF} {Q : PV → PF → PF → Prop} (c1 : -2147483648 ≤ x5 ∧ x5 < 2147483648) (h1 : x5 ≠ (-1) → PN X d mX11_change 183 [(9, 0), (9, 0), (0, x2), (9, 0), (9, 0), (0, x5), (0, x6)] [] I R Q) (h2 : x5 = (-1) → PN X d mX11_change 179 [] [] I R Q) : PN X d mX11_change 173 [(9, 0), (9, 0), (0, x2), (9, 0), (9, 0), (0, x5), (0, x6)] [] I R Q := by
  refine P_iload (n := 5) (q := 175) rfl rfl (by decide +kernel) ?_
  refine P_iconst (n := (-1)) (q := 176) rfl (by decide +kernel) ?_
  refine B_icmp_ne (off := 7) (t := 183) (q := 179) c1 ⟨by decide, by decide⟩ (by decide) rfl (by decide +kernel) ?_ ?_
  · exact fun g9 => (PW_sub (ls' := [(9, 0), (9, 0), (0, x2), (9, 0), (9, 0), (0, x5), (0, x6)]) ⟨Or.inl rfl, Or.inl rfl, Or.inr rfl, Or.inl rfl, Or.inl rfl, Or.inr rfl, Or.inr rfl, trivial⟩ (h1 g9))
  · exact fun g9 => (PW_sub (ls' := []) trivial (h2 g9))
theorem S_X11_change_179 {X : CX} {d : Nat} {I R : PF} {Q : PV → PF → PF → Prop} (h : PN X d mX11_change 210 [] [(0, (-1))] I R Q) : PN X d mX11_change 179 [] [] I R Q := by
  refine P_iconst (n := (-1)) (q := 180) rfl (by decide +kernel) ?_
  refine P_goto (off := 30) (t := 210) (by decide) (by decide +kernel) ?_
  exact (PW_sub (ls' := []) trivial h)
theorem S_X11_change_183 {X : CX} {d : Nat} {x2 x5 x6 : Int} {I R : PF} {Q : PV → PF → PF → Prop} (c1 : -2147483648 ≤ x2 ∧ x2 < 2147483648) (h1 : x2 ≠ 0 → PN X d mX11_change 195 [(9, 0), (9, 0), (0, x2), (9, 0), (9, 0), (0, x5), (0, x6)] [] I R Q) (h2 : x2 = 0 → PN X d mX11_change 187 [(9, 0), (9, 0), (9, 0), (9, 0), (9, 0), (0, x5)] [] I R Q) : PN X d mX11_change 183 [(9, 0), (9, 0), (0, x2), (9, 0), (9, 0), (0, x5), (0, x6)] [] I R Q := by
  refine P_iload_n (n := 2) (q := 184) rfl rfl (by decide +kernel) ?_
  refine B_if_ne (off := 11) (t := 195) (q := 187) c1 (by decide) rfl (by decide +kernel) ?_ ?_
  · exact fun g9 => (PW_sub (ls' := [(9, 0), (9, 0), (0, x2), (9, 0), (9, 0), (0, x5), (0, x6)]) ⟨Or.inl rfl, Or.inl rfl, Or.inr rfl, Or.inl rfl, Or.inl rfl, Or.inr rfl, Or.inr rfl, trivial⟩ (h1 g9))
  · exact fun g9 => (PW_sub (ls' := [(9, 0), (9, 0), (9, 0), (9, 0), (9, 0), (0, x5)]) ⟨Or.inl rfl, Or.inl rfl, Or.inl rfl, Or.inl rfl, Or.inl rfl, Or.inr rfl, trivial⟩ (h2 g9))
theorem S_X11_change_187 {X : CX} {d d1 : Nat} {x5 : Int} {I R : PF} {Q Q1 : PV → PF → PF → Prop} (e1 : d1 + 1 ≤ d) (hc : CN X d1 mX11_wayOf [(0, x5)] I R Q1) (h : ∀ z I2 R2, Q1 (0, z) I2 R2 → PN X d mX11_change 192 [] [(0, z)] I2 R2 Q) : PN X d mX11_change 187 [(9, 0), (9, 0), (9, 0), (9, 0), (9, 0), (0, x5)] [] I R Q := by
  refine P_iload (n := 5) (q := 189) rfl rfl (by decide +kernel) ?_
  refine P_invS (As := [(0, x5)]) (q := 192) oX11_wayOf rfl (Or.inl kX11_549) e1 hMF (Nat.le_of_ble_eq_true rfl) hc rfl (by decide +kernel) (fun z I2 R2 hq => ?_)
  exact (PW_sub (ls' := []) trivial (h z I2 R2 hq))
theorem S_X11_change_192 {X : CX} {d : Nat} {o0 : Int} {I R : PF} {Q : PV → PF → PF → Prop} (h : PN X d mX11_change 210 [] [(0, o0)] I R Q) : PN X d mX11_change 192 [] [(0, o0)] I R Q := by
  refine P_goto (off := 18) (t := 210) (by decide) (by decide +kernel) ?_
  exact (PW_sub (ls' := []) trivial h)
theorem S_X11_change_195 {X : CX} {d : Nat} {x2 x5 x6 : Int} {I R : PF} {Q : PV → PF → PF → Prop} (c1 : -2147483648 ≤ x2 ∧ x2 < 2147483648) (h1 : x2 ≠ 1 → PN X d mX11_change 208 [(9, 0), (9, 0), (9, 0), (9, 0), (9, 0), (9, 0), (0, x6)] [] I R Q) (h2 : x2 = 1 → PN X d mX11_change 200 [(9, 0), (9, 0), (9, 0), (9, 0), (9, 0), (0, x5)] [] I R Q) : PN X d mX11_change 195 [(9, 0), (9, 0), (0, x2), (9, 0), (9, 0), (0, x5), (0, x6)] [] I R Q := by
  refine P_iload_n (n := 2) (q := 196) rfl rfl (by decide +kernel) ?_
  refine P_iconst (n := 1) (q := 197) rfl (by decide +kernel) ?_
  refine B_icmp_ne (off := 11) (t := 208) (q := 200) c1 ⟨by decide, by decide⟩ (by decide) rfl (by decide +kernel) ?_ ?_
  · exact fun g9 => (PW_sub (ls' := [(9, 0), (9, 0), (9, 0), (9, 0), (9, 0), (9, 0), (0, x6)]) ⟨Or.inl rfl, Or.inl rfl, Or.inl rfl, Or.inl rfl, Or.inl rfl, Or.inl rfl, Or.inr rfl, trivial⟩ (h1 g9))
  · exact fun g9 => (PW_sub (ls' := [(9, 0), (9, 0), (9, 0), (9, 0), (9, 0), (0, x5)]) ⟨Or.inl rfl, Or.inl rfl, Or.inl rfl, Or.inl rfl, Or.inl rfl, Or.inr rfl, trivial⟩ (h2 g9))
theorem S_X11_change_200 {X : CX} {d d1 : Nat} {x5 : Int} {I R : PF} {Q Q1 : PV → PF → PF → Prop} (e1 : d1 + 1 ≤ d) (hc : CN X d1 mX11_forceOf [(0, x5)] I R Q1) (h : ∀ z I2 R2, Q1 (0, z) I2 R2 → PN X d mX11_change 205 [] [(0, z)] I2 R2 Q) : PN X d mX11_change 200 [(9, 0), (9, 0), (9, 0), (9, 0), (9, 0), (0, x5)] [] I R Q := by
  refine P_iload (n := 5) (q := 202) rfl rfl (by decide +kernel) ?_
  refine P_invS (As := [(0, x5)]) (q := 205) oX11_forceOf rfl (Or.inl kX11_552) e1 hMF (Nat.le_of_ble_eq_true rfl) hc rfl (by decide +kernel) (fun z I2 R2 hq => ?_)
  exact (PW_sub (ls' := []) trivial (h z I2 R2 hq))
theorem S_X11_change_205 {X : CX} {d : Nat} {o0 : Int} {I R : PF} {Q : PV → PF → PF → Prop} (h : PN X d mX11_change 210 [] [(0, o0)] I R Q) : PN X d mX11_change 205 [] [(0, o0)] I R Q := by
  refine P_goto (off := 5) (t := 210) (by decide) (by decide +kernel) ?_
  exact (PW_sub (ls' := []) trivial h)
theorem S_X11_change_208 {X : CX} {d : Nat} {x6 : Int} {I R : PF} {Q : PV → PF → PF → Prop} (h : PN X d mX11_change 210 [] [(0, x6)] I R Q) : PN X d mX11_change 208 [(9, 0), (9, 0), (9, 0), (9, 0), (9, 0), (9, 0), (0, x6)] [] I R Q := by
  refine P_iload (n := 6) (q := 210) rfl rfl (by decide +kernel) ?_
  exact (PW_sub (ls' := []) trivial h)
theorem S_X11_change_210 {X : CX} {d : Nat} {o0 : Int} {I R : PF} {Q : PV → PF → PF → Prop} (h : Q (0, o0) I R) : PN X d mX11_change 210 [] [(0, o0)] I R Q := by
  refine P_iret rfl (by decide +kernel) h
theorem S_X11_checked_0 {X : CX} {d : Nat} {a0 x1 : Int} {I R : PF} {Q : PV → PF → PF → Prop} (h : PN X d mX11_checked 5 [(2, a0), (0, x1), (0, 47), (0, 0)] [] I R Q) : PN X d mX11_checked 0 [(2, a0), (0, x1)] [] I R Q := by
  refine P_bipush (n := 47) (q := 2) rfl rfl (by decide +kernel) ?_
  refine P_istore_n (n := 2) (by decide) (q := 3) rfl (by decide +kernel) ?_
  refine P_iconst (n := 0) (q := 4) rfl (by decide +kernel) ?_
  refine P_istore_n (n := 3) (by decide) (q := 5) rfl (by decide +kernel) ?_
  exact h
theorem S_X11_checked_5 {X : CX} {d : Nat} {a0 x1 x2 x3 : Int} {I R : PF} {Q : PV → PF → PF → Prop} (c1 : -2147483648 ≤ x3 ∧ x3 < 2147483648) (c2 : -2147483648 ≤ x1 ∧ x1 < 2147483648) (h1 : x1 ≤ x3 → PN X d mX11_checked 28 [(9, 0), (9, 0), (0, x2)] [] I R Q) (h2 : x3 < x1 → PN X d mX11_checked 10 [(2, a0), (0, x1), (0, x2), (0, x3)] [] I R Q) : PN X d mX11_checked 5 [(2, a0), (0, x1), (0, x2), (0, x3)] [] I R Q := by
  refine P_iload_n (n := 3) (q := 6) rfl rfl (by decide +kernel) ?_
  refine P_iload_n (n := 1) (q := 7) rfl rfl (by decide +kernel) ?_
  refine B_icmp_ge (off := 21) (t := 28) (q := 10) c1 c2 (by decide) rfl (by decide +kernel) ?_ ?_
  · exact fun g9 => (PW_sub (ls' := [(9, 0), (9, 0), (0, x2)]) ⟨Or.inl rfl, Or.inl rfl, Or.inr rfl, trivial⟩ (h1 g9))
  · exact fun g9 => (h2 g9)
theorem S_X11_checked_10 {X : CX} {d : Nat} {a0 x1 x2 x3 : Int} {I R : PF} {Q : PV → PF → PF → Prop} (k1 : kd MF a0 = 12) (b1 : (0 : Int) ≤ x3 ∧ x3 < (ln MF a0 : Int)) (n1 : (ln MF a0 : Int) < 2147483648) (c1 : -2147483648 ≤ ((3 * x2) + (I a0 x3)) ∧ ((3 * x2) + (I a0 x3)) < 2147483648) (h : PN X d mX11_checked 5 [(2, a0), (0, x1), (0, (((3 * x2) + (I a0 x3)).tmod 251)), (0, (x3 + 1))] [] I R Q) : PN X d mX11_checked 10 [(2, a0), (0, x1), (0, x2), (0, x3)] [] I R Q := by
  refine P_iconst (n := 3) (q := 11) rfl (by decide +kernel) ?_
  refine P_iload_n (n := 2) (q := 12) rfl rfl (by decide +kernel) ?_
  refine P_imul (q := 13) rfl (by decide +kernel) ?_
  refine P_aload_n (n := 0) (q := 14) rfl rfl (by decide +kernel) ?_
  refine P_iload_n (n := 3) (q := 15) rfl rfl (by decide +kernel) ?_
  refine B_iaload (q := 16) k1 rfl n1 b1 rfl (by decide +kernel) ?_
  refine P_iadd (q := 17) rfl (by decide +kernel) ?_
  refine P_sipush (n := 251) (q := 20) rfl rfl (by decide +kernel) ?_
  refine B_irem (q := 21) c1 ⟨by decide, by decide⟩ (by decide) rfl (by decide +kernel) ?_
  refine P_istore_n (n := 2) (by decide) (q := 22) rfl (by decide +kernel) ?_
  refine P_iinc (n := 3) (a := 1) (by decide) rfl (q := 25) rfl (by decide +kernel) ?_
  refine P_goto (off := (-20)) (t := 5) (by decide) (by decide +kernel) ?_
  exact h
theorem S_X11_checked_28 {X : CX} {d : Nat} {x2 : Int} {I R : PF} {Q : PV → PF → PF → Prop} (h : Q (0, x2) I R) : PN X d mX11_checked 28 [(9, 0), (9, 0), (0, x2)] [] I R Q := by
  refine P_iload_n (n := 2) (q := 29) rfl rfl (by decide +kernel) ?_
  refine P_iret rfl (by decide +kernel) h
theorem S_X11_codesTell_0 {X : CX} {d : Nat} {x1 x2 : Int} {I R : PF} {Q : PV → PF → PF → Prop} (hs : Shp R) (b1 : (0 : Int) ≤ (2 + x1) ∧ (2 + x1) < 4) (h : PN X d mX11_codesTell 19 [(2, 306), (0, x1), (0, x2), (0, ((u2 (u2 I 306 56 x1) 306 110 0) 345 (2 + x1)))] [] (u2 (u2 I 306 56 x1) 306 110 0) R Q) : PN X d mX11_codesTell 0 [(2, 306), (0, x1), (0, x2)] [] I R Q := by
  refine P_aload_n (n := 0) (q := 1) rfl rfl (by decide +kernel) ?_
  refine P_iload_n (n := 1) (q := 2) rfl rfl (by decide +kernel) ?_
  refine P_putI (q := 5) wX11_163 (fun h => by cases h) kM306 rfl (by decide +kernel) ?_
  refine P_aload_n (n := 0) (q := 6) rfl rfl (by decide +kernel) ?_
  refine P_iconst (n := 0) (q := 7) rfl (by decide +kernel) ?_
  refine P_putI (q := 10) wX11_423 (fun h => by cases h) kM306 rfl (by decide +kernel) ?_
  refine P_aload_n (n := 0) (q := 11) rfl rfl (by decide +kernel) ?_
  refine B_getfR (q := 14) fX11_229 kM306 (rM306_50 hs) rfl (by decide +kernel) ?_
  refine P_iconst (n := 2) (q := 15) rfl (by decide +kernel) ?_
  refine P_iload_n (n := 1) (q := 16) rfl rfl (by decide +kernel) ?_
  refine P_iadd (q := 17) rfl (by decide +kernel) ?_
  refine B_iaload (q := 18) kM345 nM345 (by decide) b1 rfl (by decide +kernel) ?_
  refine P_istore_n (n := 3) (by decide) (q := 19) rfl (by decide +kernel) ?_
  exact h
theorem S_X11_codesTell_19 {X : CX} {d : Nat} {x1 x2 x3 : Int} {I R : PF} {Q : PV → PF → PF → Prop} (hs : Shp R) (b1 : (0 : Int) ≤ (2 + x1) ∧ (2 + x1) < 4) (c1 : -2147483648 ≤ x3 ∧ x3 < 2147483648) (c2 : -2147483648 ≤ (I 346 (2 + x1)) ∧ (I 346 (2 + x1)) < 2147483648) (h1 : (I 346 (2 + x1)) ≤ x3 → PN X d mX11_codesTell 150 [(2, 306)] [] I R Q) (h2 : x3 < (I 346 (2 + x1)) → PN X d mX11_codesTell 31 [(2, 306), (0, x1), (0, x2), (0, x3)] [] I R Q) : PN X d mX11_codesTell 19 [(2, 306), (0, x1), (0, x2), (0, x3)] [] I R Q := by
  refine P_iload_n (n := 3) (q := 20) rfl rfl (by decide +kernel) ?_
  refine P_aload_n (n := 0) (q := 21) rfl rfl (by decide +kernel) ?_
  refine B_getfR (q := 24) fX11_260 kM306 (rM306_51 hs) rfl (by decide +kernel) ?_
  refine P_iconst (n := 2) (q := 25) rfl (by decide +kernel) ?_
  refine P_iload_n (n := 1) (q := 26) rfl rfl (by decide +kernel) ?_
  refine P_iadd (q := 27) rfl (by decide +kernel) ?_
  refine B_iaload (q := 28) kM346 nM346 (by decide) b1 rfl (by decide +kernel) ?_
  refine B_icmp_ge (off := 122) (t := 150) (q := 31) c1 c2 (by decide) rfl (by decide +kernel) ?_ ?_
  · exact fun g9 => (PW_sub (ls' := [(2, 306)]) ⟨Or.inr rfl, trivial⟩ (h1 g9))
  · exact fun g9 => (h2 g9)
theorem S_X11_codesTell_31 {X : CX} {d : Nat} {x1 x2 x3 : Int} {I R : PF} {Q : PV → PF → PF → Prop} (hs : Shp R) (b1 : (0 : Int) ≤ (1600 + x3) ∧ (1600 + x3) < 3200) (c1 : -2147483648 ≤ (I 347 (1600 + x3)) ∧ (I 347 (1600 + x3)) < 2147483648) (h1 : (I 347 (1600 + x3)) < 1000 → PN X d mX11_codesTell 65 [(2, 306), (0, x1), (0, x2), (0, x3), (0, (I 347 (1600 + x3)))] [] I R Q) (h2 : 1000 ≤ (I 347 (1600 + x3)) → PN X d mX11_codesTell 51 [(2, 306), (0, x1), (0, x2), (0, x3), (0, (I 347 (1600 + x3)))] [] I R Q) : PN X d mX11_codesTell 31 [(2, 306), (0, x1), (0, x2), (0, x3)] [] I R Q := by
  refine P_aload_n (n := 0) (q := 32) rfl rfl (by decide +kernel) ?_
  refine B_getfR (q := 35) fX11_254 kM306 (rM306_52 hs) rfl (by decide +kernel) ?_
  refine P_sipush (n := 1600) (q := 38) rfl rfl (by decide +kernel) ?_
  refine P_iload_n (n := 3) (q := 39) rfl rfl (by decide +kernel) ?_
  refine P_iadd (q := 40) rfl (by decide +kernel) ?_
  refine B_iaload (q := 41) kM347 nM347 (by decide) b1 rfl (by decide +kernel) ?_
  refine P_istore (n := 4) (by decide) (q := 43) rfl (by decide +kernel) ?_
  refine P_iload (n := 4) (q := 45) rfl rfl (by decide +kernel) ?_
  refine P_sipush (n := 1000) (q := 48) rfl rfl (by decide +kernel) ?_
  refine B_icmp_lt (off := 17) (t := 65) (q := 51) c1 ⟨by decide, by decide⟩ (by decide) rfl (by decide +kernel) ?_ ?_
  · exact fun g9 => (h1 g9)
  · exact fun g9 => (h2 g9)
theorem S_X11_codesTell_51 {X : CX} {d d1 : Nat} {x1 x2 x3 x4 : Int} {I R : PF} {Q Q1 : PV → PF → PF → Prop} (c1 : -2147483648 ≤ (x4 - 1000) ∧ (x4 - 1000) < 2147483648) (e1 : d1 + 1 ≤ d) (hc : CN X d1 mX11_qPuts [(2, 306), (1, (x4 - 1000))] I R Q1) (h : ∀ z I2 R2, Q1 (9, z) I2 R2 → PN X d mX11_codesTell 62 [(2, 306), (0, x1), (0, x2), (0, x3)] [] I2 R2 Q) : PN X d mX11_codesTell 51 [(2, 306), (0, x1), (0, x2), (0, x3), (0, x4)] [] I R Q := by
  refine P_aload_n (n := 0) (q := 52) rfl rfl (by decide +kernel) ?_
  refine P_iload (n := 4) (q := 54) rfl rfl (by decide +kernel) ?_
  refine P_sipush (n := 1000) (q := 57) rfl rfl (by decide +kernel) ?_
  refine P_isub (q := 58) rfl (by decide +kernel) ?_
  refine B_i2l (q := 59) c1 rfl (by decide +kernel) ?_
  refine P_invV (As := [(1, (x4 - 1000))]) (q := 62) oX11_qPuts rfl kM306 kX11_426 e1 hMF (Nat.le_of_ble_eq_true rfl) hc rfl (by decide +kernel) (fun z I2 R2 hq => ?_)
  exact (PW_sub (ls' := [(2, 306), (0, x1), (0, x2), (0, x3)]) ⟨Or.inr rfl, Or.inr rfl, Or.inr rfl, Or.inr rfl, trivial⟩ (h z I2 R2 hq))
theorem S_X11_codesTell_62 {X : CX} {d : Nat} {x1 x2 x3 : Int} {I R : PF} {Q : PV → PF → PF → Prop} (h : PN X d mX11_codesTell 144 [(2, 306), (0, x1), (0, x2), (0, x3)] [] I R Q) : PN X d mX11_codesTell 62 [(2, 306), (0, x1), (0, x2), (0, x3)] [] I R Q := by
  refine P_goto (off := 82) (t := 144) (by decide) (by decide +kernel) ?_
  exact (PW_sub (ls' := [(2, 306), (0, x1), (0, x2), (0, x3)]) ⟨Or.inr rfl, Or.inr rfl, Or.inr rfl, Or.inr rfl, trivial⟩ h)
theorem S_X11_codesTell_65 {X : CX} {d : Nat} {x1 x2 x3 x4 : Int} {I R : PF} {Q : PV → PF → PF → Prop} (c1 : -2147483648 ≤ x4 ∧ x4 < 2147483648) (h1 : x4 < 40 → PN X d mX11_codesTell 89 [(2, 306), (0, x1), (0, x2), (0, x3), (0, x4)] [] I R Q) (h2 : 40 ≤ x4 → PN X d mX11_codesTell 72 [(2, 306), (0, x1), (0, x2), (0, x3), (0, x4)] [] I R Q) : PN X d mX11_codesTell 65 [(2, 306), (0, x1), (0, x2), (0, x3), (0, x4)] [] I R Q := by
  refine P_iload (n := 4) (q := 67) rfl rfl (by decide +kernel) ?_
  refine P_bipush (n := 40) (q := 69) rfl rfl (by decide +kernel) ?_
  refine B_icmp_lt (off := 20) (t := 89) (q := 72) c1 ⟨by decide, by decide⟩ (by decide) rfl (by decide +kernel) ?_ ?_
  · exact fun g9 => (h1 g9)
  · exact fun g9 => (h2 g9)
theorem S_X11_codesTell_72 {X : CX} {d d1 : Nat} {x1 x2 x3 x4 : Int} {I R : PF} {Q Q1 : PV → PF → PF → Prop} (e1 : d1 + 1 ≤ d) (hc : CN X d1 mX11_qPartOf [(2, 306), (0, (x4 - 40)), (0, x2)] I R Q1) (h : ∀ z I2 R2, Q1 (1, z) I2 R2 → PN X d mX11_codesTell 83 [(2, 306), (0, x1), (0, x2), (0, x3)] [(1, z), (2, 306)] I2 R2 Q) : PN X d mX11_codesTell 72 [(2, 306), (0, x1), (0, x2), (0, x3), (0, x4)] [] I R Q := by
  refine P_aload_n (n := 0) (q := 73) rfl rfl (by decide +kernel) ?_
  refine P_aload_n (n := 0) (q := 74) rfl rfl (by decide +kernel) ?_
  refine P_iload (n := 4) (q := 76) rfl rfl (by decide +kernel) ?_
  refine P_bipush (n := 40) (q := 78) rfl rfl (by decide +kernel) ?_
  refine P_isub (q := 79) rfl (by decide +kernel) ?_
  refine P_iload_n (n := 2) (q := 80) rfl rfl (by decide +kernel) ?_
  refine P_invV (As := [(0, (x4 - 40)), (0, x2)]) (q := 83) oX11_qPartOf rfl kM306 kX11_430 e1 hMF (Nat.le_of_ble_eq_true rfl) hc rfl (by decide +kernel) (fun z I2 R2 hq => ?_)
  exact (PW_sub (ls' := [(2, 306), (0, x1), (0, x2), (0, x3)]) ⟨Or.inr rfl, Or.inr rfl, Or.inr rfl, Or.inr rfl, trivial⟩ (h z I2 R2 hq))
theorem S_X11_codesTell_83 {X : CX} {d d1 : Nat} {x1 x2 x3 v1 : Int} {I R : PF} {Q Q1 : PV → PF → PF → Prop} (e1 : d1 + 1 ≤ d) (hc : CN X d1 mX11_qPuts [(2, 306), (1, v1)] I R Q1) (h : ∀ z I2 R2, Q1 (9, z) I2 R2 → PN X d mX11_codesTell 86 [(2, 306), (0, x1), (0, x2), (0, x3)] [] I2 R2 Q) : PN X d mX11_codesTell 83 [(2, 306), (0, x1), (0, x2), (0, x3)] [(1, v1), (2, 306)] I R Q := by
  refine P_invV (As := [(1, v1)]) (q := 86) oX11_qPuts rfl kM306 kX11_426 e1 hMF (Nat.le_of_ble_eq_true rfl) hc rfl (by decide +kernel) (fun z I2 R2 hq => ?_)
  exact (PW_sub (ls' := [(2, 306), (0, x1), (0, x2), (0, x3)]) ⟨Or.inr rfl, Or.inr rfl, Or.inr rfl, Or.inr rfl, trivial⟩ (h z I2 R2 hq))
theorem S_X11_codesTell_86 {X : CX} {d : Nat} {x1 x2 x3 : Int} {I R : PF} {Q : PV → PF → PF → Prop} (h : PN X d mX11_codesTell 144 [(2, 306), (0, x1), (0, x2), (0, x3)] [] I R Q) : PN X d mX11_codesTell 86 [(2, 306), (0, x1), (0, x2), (0, x3)] [] I R Q := by
  refine P_goto (off := 58) (t := 144) (by decide) (by decide +kernel) ?_
  exact (PW_sub (ls' := [(2, 306), (0, x1), (0, x2), (0, x3)]) ⟨Or.inr rfl, Or.inr rfl, Or.inr rfl, Or.inr rfl, trivial⟩ h)
theorem S_X11_codesTell_89 {X : CX} {d : Nat} {x1 x2 x3 x4 : Int} {I R : PF} {Q : PV → PF → PF → Prop} (c1 : -2147483648 ≤ x4 ∧ x4 < 2147483648) (h1 : x4 ≠ 13 → PN X d mX11_codesTell 104 [(2, 306), (0, x1), (0, x2), (0, x3), (0, x4)] [] I R Q) (h2 : x4 = 13 → PN X d mX11_codesTell 96 [(2, 306), (0, x1), (0, x2), (0, x3)] [] I R Q) : PN X d mX11_codesTell 89 [(2, 306), (0, x1), (0, x2), (0, x3), (0, x4)] [] I R Q := by
  refine P_iload (n := 4) (q := 91) rfl rfl (by decide +kernel) ?_
  refine P_bipush (n := 13) (q := 93) rfl rfl (by decide +kernel) ?_
  refine B_icmp_ne (off := 11) (t := 104) (q := 96) c1 ⟨by decide, by decide⟩ (by decide) rfl (by decide +kernel) ?_ ?_
  · exact fun g9 => (h1 g9)
  · exact fun g9 => (PW_sub (ls' := [(2, 306), (0, x1), (0, x2), (0, x3)]) ⟨Or.inr rfl, Or.inr rfl, Or.inr rfl, Or.inr rfl, trivial⟩ (h2 g9))
theorem S_X11_codesTell_96 {X : CX} {d d1 : Nat} {x1 x2 x3 : Int} {I R : PF} {Q Q1 : PV → PF → PF → Prop} (e1 : d1 + 1 ≤ d) (hc : CN X d1 mX11_qPuts [(2, 306), (1, 1)] I R Q1) (h : ∀ z I2 R2, Q1 (9, z) I2 R2 → PN X d mX11_codesTell 101 [(2, 306), (0, x1), (0, x2), (0, x3)] [] I2 R2 Q) : PN X d mX11_codesTell 96 [(2, 306), (0, x1), (0, x2), (0, x3)] [] I R Q := by
  refine P_aload_n (n := 0) (q := 97) rfl rfl (by decide +kernel) ?_
  refine P_lconst (n := 1) (x := 1) (q := 98) rfl rfl (by decide +kernel) ?_
  refine P_invV (As := [(1, 1)]) (q := 101) oX11_qPuts rfl kM306 kX11_426 e1 hMF (Nat.le_of_ble_eq_true rfl) hc rfl (by decide +kernel) (fun z I2 R2 hq => ?_)
  exact (PW_sub (ls' := [(2, 306), (0, x1), (0, x2), (0, x3)]) ⟨Or.inr rfl, Or.inr rfl, Or.inr rfl, Or.inr rfl, trivial⟩ (h z I2 R2 hq))
theorem S_X11_codesTell_101 {X : CX} {d : Nat} {x1 x2 x3 : Int} {I R : PF} {Q : PV → PF → PF → Prop} (h : PN X d mX11_codesTell 144 [(2, 306), (0, x1), (0, x2), (0, x3)] [] I R Q) : PN X d mX11_codesTell 101 [(2, 306), (0, x1), (0, x2), (0, x3)] [] I R Q := by
  refine P_goto (off := 43) (t := 144) (by decide) (by decide +kernel) ?_
  exact (PW_sub (ls' := [(2, 306), (0, x1), (0, x2), (0, x3)]) ⟨Or.inr rfl, Or.inr rfl, Or.inr rfl, Or.inr rfl, trivial⟩ h)
theorem S_X11_codesTell_104 {X : CX} {d : Nat} {x1 x2 x3 x4 : Int} {I R : PF} {Q : PV → PF → PF → Prop} (c1 : -2147483648 ≤ x4 ∧ x4 < 2147483648) (h1 : x4 ≠ 12 → PN X d mX11_codesTell 138 [(2, 306), (0, x1), (0, x2), (0, x3), (0, x4)] [] I R Q) (h2 : x4 = 12 → PN X d mX11_codesTell 111 [(2, 306), (0, x1), (0, x2), (0, x3)] [] I R Q) : PN X d mX11_codesTell 104 [(2, 306), (0, x1), (0, x2), (0, x3), (0, x4)] [] I R Q := by
  refine P_iload (n := 4) (q := 106) rfl rfl (by decide +kernel) ?_
  refine P_bipush (n := 12) (q := 108) rfl rfl (by decide +kernel) ?_
  refine B_icmp_ne (off := 30) (t := 138) (q := 111) c1 ⟨by decide, by decide⟩ (by decide) rfl (by decide +kernel) ?_ ?_
  · exact fun g9 => (h1 g9)
  · exact fun g9 => (PW_sub (ls' := [(2, 306), (0, x1), (0, x2), (0, x3)]) ⟨Or.inr rfl, Or.inr rfl, Or.inr rfl, Or.inr rfl, trivial⟩ (h2 g9))
theorem S_X11_codesTell_111 {X : CX} {d : Nat} {x1 x2 x3 : Int} {I R : PF} {Q : PV → PF → PF → Prop} (hs : Shp R) (b1 : (0 : Int) ≤ ((I 306 110) - 1) ∧ ((I 306 110) - 1) < 1700) (h : PN X d mX11_codesTell 144 [(2, 306), (0, x1), (0, x2), (0, x3)] [] (u2 I 381 ((I 306 110) - 1) (1 - (I 381 ((I 306 110) - 1)))) R Q) : PN X d mX11_codesTell 111 [(2, 306), (0, x1), (0, x2), (0, x3)] [] I R Q := by
  refine P_aload_n (n := 0) (q := 112) rfl rfl (by decide +kernel) ?_
  refine B_getfR (q := 115) fX11_414 kM306 (rM306_109 hs) rfl (by decide +kernel) ?_
  refine P_aload_n (n := 0) (q := 116) rfl rfl (by decide +kernel) ?_
  refine P_getf (q := 119) fX11_423 kM306 rfl (by decide +kernel) ?_
  refine P_iconst (n := 1) (q := 120) rfl (by decide +kernel) ?_
  refine P_isub (q := 121) rfl (by decide +kernel) ?_
  refine P_lconst (n := 1) (x := 1) (q := 122) rfl rfl (by decide +kernel) ?_
  refine P_aload_n (n := 0) (q := 123) rfl rfl (by decide +kernel) ?_
  refine B_getfR (q := 126) fX11_414 kM306 (rM306_109 hs) rfl (by decide +kernel) ?_
  refine P_aload_n (n := 0) (q := 127) rfl rfl (by decide +kernel) ?_
  refine P_getf (q := 130) fX11_423 kM306 rfl (by decide +kernel) ?_
  refine P_iconst (n := 1) (q := 131) rfl (by decide +kernel) ?_
  refine P_isub (q := 132) rfl (by decide +kernel) ?_
  refine B_laload (q := 133) kM381 nM381 (by decide) b1 rfl (by decide +kernel) ?_
  refine P_lsub (q := 134) rfl (by decide +kernel) ?_
  refine B_lastore (q := 135) kM381 nM381 (by decide) b1 rfl (by decide +kernel) ?_
  refine P_goto (off := 9) (t := 144) (by decide) (by decide +kernel) ?_
  exact (PW_sub (ls' := [(2, 306), (0, x1), (0, x2), (0, x3)]) ⟨Or.inr rfl, Or.inr rfl, Or.inr rfl, Or.inr rfl, trivial⟩ h)
theorem S_X11_codesTell_138 {X : CX} {d d1 : Nat} {x1 x2 x3 x4 : Int} {I R : PF} {Q Q1 : PV → PF → PF → Prop} (e1 : d1 + 1 ≤ d) (hc : CN X d1 mX11_qJoins [(2, 306), (0, x4)] I R Q1) (h : ∀ z I2 R2, Q1 (9, z) I2 R2 → PN X d mX11_codesTell 144 [(2, 306), (0, x1), (0, x2), (0, x3)] [] I2 R2 Q) : PN X d mX11_codesTell 138 [(2, 306), (0, x1), (0, x2), (0, x3), (0, x4)] [] I R Q := by
  refine P_aload_n (n := 0) (q := 139) rfl rfl (by decide +kernel) ?_
  refine P_iload (n := 4) (q := 141) rfl rfl (by decide +kernel) ?_
  refine P_invV (As := [(0, x4)]) (q := 144) oX11_qJoins rfl kM306 kX11_434 e1 hMF (Nat.le_of_ble_eq_true rfl) hc rfl (by decide +kernel) (fun z I2 R2 hq => ?_)
  exact (PW_sub (ls' := [(2, 306), (0, x1), (0, x2), (0, x3)]) ⟨Or.inr rfl, Or.inr rfl, Or.inr rfl, Or.inr rfl, trivial⟩ (h z I2 R2 hq))
theorem S_X11_codesTell_144 {X : CX} {d : Nat} {x1 x2 x3 : Int} {I R : PF} {Q : PV → PF → PF → Prop} (h : PN X d mX11_codesTell 19 [(2, 306), (0, x1), (0, x2), (0, (x3 + 1))] [] I R Q) : PN X d mX11_codesTell 144 [(2, 306), (0, x1), (0, x2), (0, x3)] [] I R Q := by
  refine P_iinc (n := 3) (a := 1) (by decide) rfl (q := 147) rfl (by decide +kernel) ?_
  refine P_goto (off := (-128)) (t := 19) (by decide) (by decide +kernel) ?_
  exact (PW_sub (ls' := [(2, 306), (0, x1), (0, x2), (0, (x3 + 1))]) ⟨Or.inr rfl, Or.inr rfl, Or.inr rfl, Or.inr rfl, trivial⟩ h)
theorem S_X11_codesTell_150 {X : CX} {d : Nat} {I R : PF} {Q : PV → PF → PF → Prop} (hs : Shp R) (h : Q (1, (I 381 0)) I R) : PN X d mX11_codesTell 150 [(2, 306)] [] I R Q := by
  refine P_aload_n (n := 0) (q := 151) rfl rfl (by decide +kernel) ?_
  refine B_getfR (q := 154) fX11_414 kM306 (rM306_109 hs) rfl (by decide +kernel) ?_
  refine P_iconst (n := 0) (q := 155) rfl (by decide +kernel) ?_
  refine B_laload (q := 156) kM381 nM381 (by decide) ⟨by decide, by decide⟩ rfl (by decide +kernel) ?_
  refine P_lret rfl (by decide +kernel) h
