theorem S_X3_both_0 {X : CX} {d d1 : Nat} {I R : PF} {Q Q1 : PV → PF → PF → Prop} (e1 : d1 + 1 ≤ d) (hc : CN X d1 mX3_fact [(2, 71)] I R Q1) (h : ∀ z I2 R2, Q1 (0, z) I2 R2 → PN X d mX3_both 4 [(2, 71)] [(0, z)] I2 R2 Q) : PN X d mX3_both 0 [(2, 71)] [] I R Q := by
  refine P_aload_n (n := 0) (q := 1) rfl rfl (by decide +kernel) ?_
  refine P_invV (As := []) (q := 4) oX3_fact rfl kM71 kX3_105 e1 hMF (Nat.le_of_ble_eq_true rfl) hc rfl (by decide +kernel) (fun z I2 R2 hq => ?_)
  exact (h z I2 R2 hq)
theorem S_X3_both_4 {X : CX} {d : Nat} {o0 : Int} {I R : PF} {Q : PV → PF → PF → Prop} (c1 : -2147483648 ≤ o0 ∧ o0 < 2147483648) (h1 : o0 ≠ 0 → PN X d mX3_both 9 [(2, 71)] [] I R Q) (h2 : o0 = 0 → PN X d mX3_both 7 [] [] I R Q) : PN X d mX3_both 4 [(2, 71)] [(0, o0)] I R Q := by
  refine B_if_ne (off := 5) (t := 9) (q := 7) c1 (by decide) rfl (by decide +kernel) ?_ ?_
  · exact fun g9 => (h1 g9)
  · exact fun g9 => (PW_sub (ls' := []) trivial (h2 g9))
theorem S_X3_both_7 {X : CX} {d : Nat} {I R : PF} {Q : PV → PF → PF → Prop} (h : Q (0, 0) I R) : PN X d mX3_both 7 [] [] I R Q := by
  refine P_iconst (n := 0) (q := 8) rfl (by decide +kernel) ?_
  refine P_zret rfl (Or.inl rfl) (by decide +kernel) h
theorem S_X3_both_9 {X : CX} {d : Nat} {I R : PF} {Q : PV → PF → PF → Prop} (h : PN X d mX3_both 11 [(2, 71), (0, 0)] [] I R Q) : PN X d mX3_both 9 [(2, 71)] [] I R Q := by
  refine P_iconst (n := 0) (q := 10) rfl (by decide +kernel) ?_
  refine P_istore_n (n := 1) (by decide) (q := 11) rfl (by decide +kernel) ?_
  exact h
theorem S_X3_both_11 {X : CX} {d : Nat} {x1 : Int} {I R : PF} {Q : PV → PF → PF → Prop} (c1 : -2147483648 ≤ x1 ∧ x1 < 2147483648) (h1 : 1600 ≤ x1 → PN X d mX3_both 62 [] [] I R Q) (h2 : x1 < 1600 → PN X d mX3_both 18 [(2, 71), (0, x1)] [] I R Q) : PN X d mX3_both 11 [(2, 71), (0, x1)] [] I R Q := by
  refine P_iload_n (n := 1) (q := 12) rfl rfl (by decide +kernel) ?_
  refine P_sipush (n := 1600) (q := 15) rfl rfl (by decide +kernel) ?_
  refine B_icmp_ge (off := 47) (t := 62) (q := 18) c1 ⟨by decide, by decide⟩ (by decide) rfl (by decide +kernel) ?_ ?_
  · exact fun g9 => (PW_sub (ls' := []) trivial (h1 g9))
  · exact fun g9 => (h2 g9)
theorem S_X3_both_18 {X : CX} {d d1 : Nat} {x1 : Int} {I R : PF} {Q Q1 : PV → PF → PF → Prop} (hs : Shp R) (e1 : d1 + 1 ≤ d) (hc : CN X d1 mX5_isWord [(2, 67), (2, 27)] I R Q1) (h : ∀ z I2 R2, Q1 (0, z) I2 R2 → PN X d mX3_both 28 [(2, 71), (0, x1)] [(0, z)] I2 R2 Q) : PN X d mX3_both 18 [(2, 71), (0, x1)] [] I R Q := by
  refine P_aload_n (n := 0) (q := 19) rfl rfl (by decide +kernel) ?_
  refine B_getfR (q := 22) fX3_18 kM71 (rM71_0 hs) rfl (by decide +kernel) ?_
  refine P_gets (o := 27) (q := 25) (fun _ _ h => zW (i := 26) (by decide) h) ⟨by decide, by decide⟩ gX3_108 rfl (by decide +kernel) ?_
  refine P_invV (As := [(2, 27)]) (q := 28) oX5_isWord rfl kM67 kX3_98 e1 hMF (Nat.le_of_ble_eq_true rfl) hc rfl (by decide +kernel) (fun z I2 R2 hq => ?_)
  exact (h z I2 R2 hq)
theorem S_X3_both_28 {X : CX} {d : Nat} {x1 o0 : Int} {I R : PF} {Q : PV → PF → PF → Prop} (c1 : -2147483648 ≤ o0 ∧ o0 < 2147483648) (h1 : o0 = 0 → PN X d mX3_both 62 [] [] I R Q) (h2 : o0 ≠ 0 → PN X d mX3_both 31 [(2, 71), (0, x1)] [] I R Q) : PN X d mX3_both 28 [(2, 71), (0, x1)] [(0, o0)] I R Q := by
  refine B_if_eq (off := 34) (t := 62) (q := 31) c1 (by decide) rfl (by decide +kernel) ?_ ?_
  · exact fun g9 => (PW_sub (ls' := []) trivial (h1 g9))
  · exact fun g9 => (h2 g9)
theorem S_X3_both_31 {X : CX} {d d1 : Nat} {x1 : Int} {I R : PF} {Q Q1 : PV → PF → PF → Prop} (hs : Shp R) (e1 : d1 + 1 ≤ d) (hc : CN X d1 mX5_advance [(2, 67)] I R Q1) (h : ∀ z I2 R2, Q1 (9, z) I2 R2 → PN X d mX3_both 38 [(2, 71), (0, x1)] [] I2 R2 Q) : PN X d mX3_both 31 [(2, 71), (0, x1)] [] I R Q := by
  refine P_aload_n (n := 0) (q := 32) rfl rfl (by decide +kernel) ?_
  refine B_getfR (q := 35) fX3_18 kM71 (rM71_0 hs) rfl (by decide +kernel) ?_
  refine P_invV (As := []) (q := 38) oX5_advance rfl kM67 kX3_79 e1 hMF (Nat.le_of_ble_eq_true rfl) hc rfl (by decide +kernel) (fun z I2 R2 hq => ?_)
  exact (h z I2 R2 hq)
theorem S_X3_both_38 {X : CX} {d d1 : Nat} {x1 : Int} {I R : PF} {Q Q1 : PV → PF → PF → Prop} (e1 : d1 + 1 ≤ d) (hc : CN X d1 mX3_fact [(2, 71)] I R Q1) (h : ∀ z I2 R2, Q1 (0, z) I2 R2 → PN X d mX3_both 42 [(2, 71), (0, x1)] [(0, z)] I2 R2 Q) : PN X d mX3_both 38 [(2, 71), (0, x1)] [] I R Q := by
  refine P_aload_n (n := 0) (q := 39) rfl rfl (by decide +kernel) ?_
  refine P_invV (As := []) (q := 42) oX3_fact rfl kM71 kX3_105 e1 hMF (Nat.le_of_ble_eq_true rfl) hc rfl (by decide +kernel) (fun z I2 R2 hq => ?_)
  exact (h z I2 R2 hq)
theorem S_X3_both_42 {X : CX} {d : Nat} {x1 o0 : Int} {I R : PF} {Q : PV → PF → PF → Prop} (c1 : -2147483648 ≤ o0 ∧ o0 < 2147483648) (h1 : o0 ≠ 0 → PN X d mX3_both 47 [(2, 71), (0, x1)] [] I R Q) (h2 : o0 = 0 → PN X d mX3_both 45 [] [] I R Q) : PN X d mX3_both 42 [(2, 71), (0, x1)] [(0, o0)] I R Q := by
  refine B_if_ne (off := 5) (t := 47) (q := 45) c1 (by decide) rfl (by decide +kernel) ?_ ?_
  · exact fun g9 => (h1 g9)
  · exact fun g9 => (PW_sub (ls' := []) trivial (h2 g9))
theorem S_X3_both_45 {X : CX} {d : Nat} {I R : PF} {Q : PV → PF → PF → Prop} (h : Q (0, 0) I R) : PN X d mX3_both 45 [] [] I R Q := by
  refine P_iconst (n := 0) (q := 46) rfl (by decide +kernel) ?_
  refine P_zret rfl (Or.inl rfl) (by decide +kernel) h
theorem S_X3_both_47 {X : CX} {d d1 : Nat} {x1 t1 : Int} {I R : PF} {Q Q1 : PV → PF → PF → Prop} (r1 : R 71 1 = t1) (e1 : d1 + 1 ≤ d) (hc : CN X d1 mX2_add [(2, t1), (0, (-29))] I R Q1) (k1 : kd MF t1 = 2) (h : ∀ z I2 R2, Q1 (9, z) I2 R2 → PN X d mX3_both 56 [(2, 71), (0, x1)] [] I2 R2 Q) : PN X d mX3_both 47 [(2, 71), (0, x1)] [] I R Q := by
  refine P_aload_n (n := 0) (q := 48) rfl rfl (by decide +kernel) ?_
  refine B_getfR (q := 51) fX3_22 kM71 r1 rfl (by decide +kernel) ?_
  refine P_bipush (n := (-29)) (q := 53) rfl rfl (by decide +kernel) ?_
  refine P_invV (As := [(0, (-29))]) (q := 56) oX2_add rfl k1 kX3_102 e1 hMF (Nat.le_of_ble_eq_true rfl) hc rfl (by decide +kernel) (fun z I2 R2 hq => ?_)
  exact (h z I2 R2 hq)
theorem S_X3_both_56 {X : CX} {d : Nat} {x1 : Int} {I R : PF} {Q : PV → PF → PF → Prop} (h : PN X d mX3_both 11 [(2, 71), (0, (x1 + 1))] [] I R Q) : PN X d mX3_both 56 [(2, 71), (0, x1)] [] I R Q := by
  refine P_iinc (n := 1) (a := 1) (by decide) rfl (q := 59) rfl (by decide +kernel) ?_
  refine P_goto (off := (-48)) (t := 11) (by decide) (by decide +kernel) ?_
  exact h
theorem S_X3_both_62 {X : CX} {d : Nat} {I R : PF} {Q : PV → PF → PF → Prop} (h : Q (0, 1) I R) : PN X d mX3_both 62 [] [] I R Q := by
  refine P_iconst (n := 1) (q := 63) rfl (by decide +kernel) ?_
  refine P_zret rfl (Or.inr rfl) (by decide +kernel) h
theorem S_X3_closes_0 {X : CX} {d d1 : Nat} {x1 : Int} {I R : PF} {Q Q1 : PV → PF → PF → Prop} (hs : Shp R) (e1 : d1 + 1 ≤ d) (hc : CN X d1 mX5_isSign [(2, 67), (0, x1)] I R Q1) (h : ∀ z I2 R2, Q1 (0, z) I2 R2 → PN X d mX3_closes 8 [(2, 71)] [(0, z)] I2 R2 Q) : PN X d mX3_closes 0 [(2, 71), (0, x1)] [] I R Q := by
  refine P_aload_n (n := 0) (q := 1) rfl rfl (by decide +kernel) ?_
  refine B_getfR (q := 4) fX3_18 kM71 (rM71_0 hs) rfl (by decide +kernel) ?_
  refine P_iload_n (n := 1) (q := 5) rfl rfl (by decide +kernel) ?_
  refine P_invV (As := [(0, x1)]) (q := 8) oX5_isSign rfl kM67 kX3_117 e1 hMF (Nat.le_of_ble_eq_true rfl) hc rfl (by decide +kernel) (fun z I2 R2 hq => ?_)
  exact (PW_sub (ls' := [(2, 71)]) ⟨Or.inr rfl, trivial⟩ (h z I2 R2 hq))
theorem S_X3_closes_8 {X : CX} {d : Nat} {o0 : Int} {I R : PF} {Q : PV → PF → PF → Prop} (c1 : -2147483648 ≤ o0 ∧ o0 < 2147483648) (h1 : o0 ≠ 0 → PN X d mX3_closes 27 [(2, 71)] [] I R Q) (h2 : o0 = 0 → PN X d mX3_closes 11 [(2, 71)] [] I R Q) : PN X d mX3_closes 8 [(2, 71)] [(0, o0)] I R Q := by
  refine B_if_ne (off := 19) (t := 27) (q := 11) c1 (by decide) rfl (by decide +kernel) ?_ ?_
  · exact fun g9 => (PW_sub (ls' := [(2, 71)]) ⟨Or.inr rfl, trivial⟩ (h1 g9))
  · exact fun g9 => (PW_sub (ls' := [(2, 71)]) ⟨Or.inr rfl, trivial⟩ (h2 g9))
theorem S_X3_closes_11 {X : CX} {d d1 : Nat} {I R : PF} {Q Q1 : PV → PF → PF → Prop} (hs : Shp R) (e1 : d1 + 1 ≤ d) (hc : CN X d1 mX5_refuse [(2, 67), (0, 1), (0, (I 67 3))] I R Q1) (h : ∀ z I2 R2, Q1 (0, z) I2 R2 → PN X d mX3_closes 26 [] [(0, z)] I2 R2 Q) : PN X d mX3_closes 11 [(2, 71)] [] I R Q := by
  refine P_aload_n (n := 0) (q := 12) rfl rfl (by decide +kernel) ?_
  refine B_getfR (q := 15) fX3_18 kM71 (rM71_0 hs) rfl (by decide +kernel) ?_
  refine P_iconst (n := 1) (q := 16) rfl (by decide +kernel) ?_
  refine P_aload_n (n := 0) (q := 17) rfl rfl (by decide +kernel) ?_
  refine B_getfR (q := 20) fX3_18 kM71 (rM71_0 hs) rfl (by decide +kernel) ?_
  refine P_getf (q := 23) fX3_72 kM67 rfl (by decide +kernel) ?_
  refine P_invV (As := [(0, 1), (0, (I 67 3))]) (q := 26) oX5_refuse rfl kM67 kX3_75 e1 hMF (Nat.le_of_ble_eq_true rfl) hc rfl (by decide +kernel) (fun z I2 R2 hq => ?_)
  exact (PW_sub (ls' := []) trivial (h z I2 R2 hq))
theorem S_X3_closes_26 {X : CX} {d : Nat} {o0 : Int} {I R : PF} {Q : PV → PF → PF → Prop} (z1 : o0 = 0 ∨ o0 = 1) (h : Q (0, o0) I R) : PN X d mX3_closes 26 [] [(0, o0)] I R Q := by
  refine P_zret rfl z1 (by decide +kernel) h
theorem S_X3_closes_27 {X : CX} {d d1 : Nat} {I R : PF} {Q Q1 : PV → PF → PF → Prop} (hs : Shp R) (e1 : d1 + 1 ≤ d) (hc : CN X d1 mX5_advance [(2, 67)] (u2 I 71 3 ((I 71 3) - 1)) R Q1) (h : ∀ z I2 R2, Q1 (9, z) I2 R2 → PN X d mX3_closes 44 [] [] I2 R2 Q) : PN X d mX3_closes 27 [(2, 71)] [] I R Q := by
  refine P_aload_n (n := 0) (q := 28) rfl rfl (by decide +kernel) ?_
  refine P_dup (q := 29) (Nat.ne_of_beq_eq_false rfl) rfl (by decide +kernel) ?_
  refine P_getf (q := 32) fX3_15 kM71 rfl (by decide +kernel) ?_
  refine P_iconst (n := 1) (q := 33) rfl (by decide +kernel) ?_
  refine P_isub (q := 34) rfl (by decide +kernel) ?_
  refine P_putI (q := 37) wX3_15 (fun h => by cases h) kM71 rfl (by decide +kernel) ?_
  refine P_aload_n (n := 0) (q := 38) rfl rfl (by decide +kernel) ?_
  refine B_getfR (q := 41) fX3_18 kM71 (rM71_0 hs) rfl (by decide +kernel) ?_
  refine P_invV (As := []) (q := 44) oX5_advance rfl kM67 kX3_79 e1 hMF (Nat.le_of_ble_eq_true rfl) hc rfl (by decide +kernel) (fun z I2 R2 hq => ?_)
  exact (PW_sub (ls' := []) trivial (h z I2 R2 hq))
theorem S_X3_closes_44 {X : CX} {d : Nat} {I R : PF} {Q : PV → PF → PF → Prop} (h : Q (0, 1) I R) : PN X d mX3_closes 44 [] [] I R Q := by
  refine P_iconst (n := 1) (q := 45) rfl (by decide +kernel) ?_
  refine P_zret rfl (Or.inr rfl) (by decide +kernel) h
theorem S_X3_comparing_0 {X : CX} {d d1 : Nat} {I R : PF} {Q Q1 : PV → PF → PF → Prop} (hs : Shp R) (e1 : d1 + 1 ≤ d) (hc : CN X d1 mX5_isSign [(2, 67), (0, 60)] I R Q1) (h : ∀ z I2 R2, Q1 (0, z) I2 R2 → PN X d mX3_comparing 9 [(2, 71)] [(0, z)] I2 R2 Q) : PN X d mX3_comparing 0 [(2, 71)] [] I R Q := by
  refine P_aload_n (n := 0) (q := 1) rfl rfl (by decide +kernel) ?_
  refine B_getfR (q := 4) fX3_18 kM71 (rM71_0 hs) rfl (by decide +kernel) ?_
  refine P_bipush (n := 60) (q := 6) rfl rfl (by decide +kernel) ?_
  refine P_invV (As := [(0, 60)]) (q := 9) oX5_isSign rfl kM67 kX3_117 e1 hMF (Nat.le_of_ble_eq_true rfl) hc rfl (by decide +kernel) (fun z I2 R2 hq => ?_)
  exact (h z I2 R2 hq)
theorem S_X3_comparing_9 {X : CX} {d : Nat} {o0 : Int} {I R : PF} {Q : PV → PF → PF → Prop} (c1 : -2147483648 ≤ o0 ∧ o0 < 2147483648) (h1 : o0 = 0 → PN X d mX3_comparing 15 [(2, 71)] [] I R Q) (h2 : o0 ≠ 0 → PN X d mX3_comparing 12 [] [] I R Q) : PN X d mX3_comparing 9 [(2, 71)] [(0, o0)] I R Q := by
  refine B_if_eq (off := 6) (t := 15) (q := 12) c1 (by decide) rfl (by decide +kernel) ?_ ?_
  · exact fun g9 => (h1 g9)
  · exact fun g9 => (PW_sub (ls' := []) trivial (h2 g9))
theorem S_X3_comparing_12 {X : CX} {d : Nat} {I R : PF} {Q : PV → PF → PF → Prop} (h : Q (0, (-26)) I R) : PN X d mX3_comparing 12 [] [] I R Q := by
  refine P_bipush (n := (-26)) (q := 14) rfl rfl (by decide +kernel) ?_
  refine P_iret rfl (by decide +kernel) h
theorem S_X3_comparing_15 {X : CX} {d d1 : Nat} {I R : PF} {Q Q1 : PV → PF → PF → Prop} (hs : Shp R) (e1 : d1 + 1 ≤ d) (hc : CN X d1 mX5_isSign [(2, 67), (0, 62)] I R Q1) (h : ∀ z I2 R2, Q1 (0, z) I2 R2 → PN X d mX3_comparing 24 [(2, 71)] [(0, z)] I2 R2 Q) : PN X d mX3_comparing 15 [(2, 71)] [] I R Q := by
  refine P_aload_n (n := 0) (q := 16) rfl rfl (by decide +kernel) ?_
  refine B_getfR (q := 19) fX3_18 kM71 (rM71_0 hs) rfl (by decide +kernel) ?_
  refine P_bipush (n := 62) (q := 21) rfl rfl (by decide +kernel) ?_
  refine P_invV (As := [(0, 62)]) (q := 24) oX5_isSign rfl kM67 kX3_117 e1 hMF (Nat.le_of_ble_eq_true rfl) hc rfl (by decide +kernel) (fun z I2 R2 hq => ?_)
  exact (h z I2 R2 hq)
theorem S_X3_comparing_24 {X : CX} {d : Nat} {o0 : Int} {I R : PF} {Q : PV → PF → PF → Prop} (c1 : -2147483648 ≤ o0 ∧ o0 < 2147483648) (h1 : o0 = 0 → PN X d mX3_comparing 30 [(2, 71)] [] I R Q) (h2 : o0 ≠ 0 → PN X d mX3_comparing 27 [] [] I R Q) : PN X d mX3_comparing 24 [(2, 71)] [(0, o0)] I R Q := by
  refine B_if_eq (off := 6) (t := 30) (q := 27) c1 (by decide) rfl (by decide +kernel) ?_ ?_
  · exact fun g9 => (h1 g9)
  · exact fun g9 => (PW_sub (ls' := []) trivial (h2 g9))
theorem S_X3_comparing_27 {X : CX} {d : Nat} {I R : PF} {Q : PV → PF → PF → Prop} (h : Q (0, (-27)) I R) : PN X d mX3_comparing 27 [] [] I R Q := by
  refine P_bipush (n := (-27)) (q := 29) rfl rfl (by decide +kernel) ?_
  refine P_iret rfl (by decide +kernel) h
theorem S_X3_comparing_30 {X : CX} {d d1 : Nat} {I R : PF} {Q Q1 : PV → PF → PF → Prop} (hs : Shp R) (e1 : d1 + 1 ≤ d) (hc : CN X d1 mX5_isSign [(2, 67), (0, 61)] I R Q1) (h : ∀ z I2 R2, Q1 (0, z) I2 R2 → PN X d mX3_comparing 39 [] [(0, z)] I2 R2 Q) : PN X d mX3_comparing 30 [(2, 71)] [] I R Q := by
  refine P_aload_n (n := 0) (q := 31) rfl rfl (by decide +kernel) ?_
  refine B_getfR (q := 34) fX3_18 kM71 (rM71_0 hs) rfl (by decide +kernel) ?_
  refine P_bipush (n := 61) (q := 36) rfl rfl (by decide +kernel) ?_
  refine P_invV (As := [(0, 61)]) (q := 39) oX5_isSign rfl kM67 kX3_117 e1 hMF (Nat.le_of_ble_eq_true rfl) hc rfl (by decide +kernel) (fun z I2 R2 hq => ?_)
  exact (PW_sub (ls' := []) trivial (h z I2 R2 hq))
theorem S_X3_comparing_39 {X : CX} {d : Nat} {o0 : Int} {I R : PF} {Q : PV → PF → PF → Prop} (c1 : -2147483648 ≤ o0 ∧ o0 < 2147483648) (h1 : o0 = 0 → PN X d mX3_comparing 47 [] [] I R Q) (h2 : o0 ≠ 0 → PN X d mX3_comparing 42 [] [] I R Q) : PN X d mX3_comparing 39 [] [(0, o0)] I R Q := by
  refine B_if_eq (off := 8) (t := 47) (q := 42) c1 (by decide) rfl (by decide +kernel) ?_ ?_
  · exact fun g9 => (PW_sub (ls' := []) trivial (h1 g9))
  · exact fun g9 => (PW_sub (ls' := []) trivial (h2 g9))
theorem S_X3_comparing_42 {X : CX} {d : Nat} {I R : PF} {Q : PV → PF → PF → Prop} (h : PN X d mX3_comparing 48 [] [(0, (-28))] I R Q) : PN X d mX3_comparing 42 [] [] I R Q := by
  refine P_bipush (n := (-28)) (q := 44) rfl rfl (by decide +kernel) ?_
  refine P_goto (off := 4) (t := 48) (by decide) (by decide +kernel) ?_
  exact (PW_sub (ls' := []) trivial h)
theorem S_X3_comparing_47 {X : CX} {d : Nat} {I R : PF} {Q : PV → PF → PF → Prop} (h : PN X d mX3_comparing 48 [] [(0, (-1))] I R Q) : PN X d mX3_comparing 47 [] [] I R Q := by
  refine P_iconst (n := (-1)) (q := 48) rfl (by decide +kernel) ?_
  exact (PW_sub (ls' := []) trivial h)
theorem S_X3_comparing_48 {X : CX} {d : Nat} {o0 : Int} {I R : PF} {Q : PV → PF → PF → Prop} (h : Q (0, o0) I R) : PN X d mX3_comparing 48 [] [(0, o0)] I R Q := by
  refine P_iret rfl (by decide +kernel) h
theorem S_X3_fact_0 {X : CX} {d d1 : Nat} {I R : PF} {Q Q1 : PV → PF → PF → Prop} (hs : Shp R) (e1 : d1 + 1 ≤ d) (hc : CN X d1 mX5_isWord [(2, 67), (2, 28)] I R Q1) (h : ∀ z I2 R2, Q1 (0, z) I2 R2 → PN X d mX3_fact 10 [(2, 71)] [(0, z)] I2 R2 Q) : PN X d mX3_fact 0 [(2, 71)] [] I R Q := by
  refine P_aload_n (n := 0) (q := 1) rfl rfl (by decide +kernel) ?_
  refine B_getfR (q := 4) fX3_18 kM71 (rM71_0 hs) rfl (by decide +kernel) ?_
  refine P_gets (o := 28) (q := 7) (fun _ _ h => zW (i := 27) (by decide) h) ⟨by decide, by decide⟩ gX3_111 rfl (by decide +kernel) ?_
  refine P_invV (As := [(2, 28)]) (q := 10) oX5_isWord rfl kM67 kX3_98 e1 hMF (Nat.le_of_ble_eq_true rfl) hc rfl (by decide +kernel) (fun z I2 R2 hq => ?_)
  exact (h z I2 R2 hq)
theorem S_X3_fact_10 {X : CX} {d : Nat} {o0 : Int} {I R : PF} {Q : PV → PF → PF → Prop} (c1 : -2147483648 ≤ o0 ∧ o0 < 2147483648) (h1 : o0 = 0 → PN X d mX3_fact 50 [(2, 71)] [] I R Q) (h2 : o0 ≠ 0 → PN X d mX3_fact 13 [(2, 71)] [] I R Q) : PN X d mX3_fact 10 [(2, 71)] [(0, o0)] I R Q := by
  refine B_if_eq (off := 40) (t := 50) (q := 13) c1 (by decide) rfl (by decide +kernel) ?_ ?_
  · exact fun g9 => (h1 g9)
  · exact fun g9 => (h2 g9)
theorem S_X3_fact_13 {X : CX} {d d1 : Nat} {I R : PF} {Q Q1 : PV → PF → PF → Prop} (e1 : d1 + 1 ≤ d) (hc : CN X d1 mX3_opens [(2, 71)] I R Q1) (h : ∀ z I2 R2, Q1 (0, z) I2 R2 → PN X d mX3_fact 17 [(2, 71)] [(0, z)] I2 R2 Q) : PN X d mX3_fact 13 [(2, 71)] [] I R Q := by
  refine P_aload_n (n := 0) (q := 14) rfl rfl (by decide +kernel) ?_
  refine P_invV (As := []) (q := 17) oX3_opens rfl kM71 kX3_114 e1 hMF (Nat.le_of_ble_eq_true rfl) hc rfl (by decide +kernel) (fun z I2 R2 hq => ?_)
  exact (h z I2 R2 hq)
theorem S_X3_fact_17 {X : CX} {d : Nat} {o0 : Int} {I R : PF} {Q : PV → PF → PF → Prop} (c1 : -2147483648 ≤ o0 ∧ o0 < 2147483648) (h1 : o0 = 0 → PN X d mX3_fact 27 [] [] I R Q) (h2 : o0 ≠ 0 → PN X d mX3_fact 20 [(2, 71)] [] I R Q) : PN X d mX3_fact 17 [(2, 71)] [(0, o0)] I R Q := by
  refine B_if_eq (off := 10) (t := 27) (q := 20) c1 (by decide) rfl (by decide +kernel) ?_ ?_
  · exact fun g9 => (PW_sub (ls' := []) trivial (h1 g9))
  · exact fun g9 => (h2 g9)
theorem S_X3_fact_20 {X : CX} {d d1 : Nat} {I R : PF} {Q Q1 : PV → PF → PF → Prop} (e1 : d1 + 1 ≤ d) (hc : CN X d1 mX3_fact [(2, 71)] I R Q1) (h : ∀ z I2 R2, Q1 (0, z) I2 R2 → PN X d mX3_fact 24 [(2, 71)] [(0, z)] I2 R2 Q) : PN X d mX3_fact 20 [(2, 71)] [] I R Q := by
  refine P_aload_n (n := 0) (q := 21) rfl rfl (by decide +kernel) ?_
  refine P_invV (As := []) (q := 24) oX3_fact rfl kM71 kX3_105 e1 hMF (Nat.le_of_ble_eq_true rfl) hc rfl (by decide +kernel) (fun z I2 R2 hq => ?_)
  exact (h z I2 R2 hq)
theorem S_X3_fact_24 {X : CX} {d : Nat} {o0 : Int} {I R : PF} {Q : PV → PF → PF → Prop} (c1 : -2147483648 ≤ o0 ∧ o0 < 2147483648) (h1 : o0 ≠ 0 → PN X d mX3_fact 29 [(2, 71)] [] I R Q) (h2 : o0 = 0 → PN X d mX3_fact 27 [] [] I R Q) : PN X d mX3_fact 24 [(2, 71)] [(0, o0)] I R Q := by
  refine B_if_ne (off := 5) (t := 29) (q := 27) c1 (by decide) rfl (by decide +kernel) ?_ ?_
  · exact fun g9 => (h1 g9)
  · exact fun g9 => (PW_sub (ls' := []) trivial (h2 g9))
theorem S_X3_fact_27 {X : CX} {d : Nat} {I R : PF} {Q : PV → PF → PF → Prop} (h : Q (0, 0) I R) : PN X d mX3_fact 27 [] [] I R Q := by
  refine P_iconst (n := 0) (q := 28) rfl (by decide +kernel) ?_
  refine P_zret rfl (Or.inl rfl) (by decide +kernel) h
theorem S_X3_fact_29 {X : CX} {d d1 : Nat} {t1 : Int} {I R : PF} {Q Q1 : PV → PF → PF → Prop} (r1 : R 71 1 = t1) (e1 : d1 + 1 ≤ d) (hc : CN X d1 mX2_add [(2, t1), (0, (-31))] (u2 I 71 3 ((I 71 3) - 1)) R Q1) (k1 : kd MF t1 = 2) (h : ∀ z I2 R2, Q1 (9, z) I2 R2 → PN X d mX3_fact 48 [] [] I2 R2 Q) : PN X d mX3_fact 29 [(2, 71)] [] I R Q := by
  refine P_aload_n (n := 0) (q := 30) rfl rfl (by decide +kernel) ?_
  refine P_dup (q := 31) (Nat.ne_of_beq_eq_false rfl) rfl (by decide +kernel) ?_
  refine P_getf (q := 34) fX3_15 kM71 rfl (by decide +kernel) ?_
  refine P_iconst (n := 1) (q := 35) rfl (by decide +kernel) ?_
  refine P_isub (q := 36) rfl (by decide +kernel) ?_
  refine P_putI (q := 39) wX3_15 (fun h => by cases h) kM71 rfl (by decide +kernel) ?_
  refine P_aload_n (n := 0) (q := 40) rfl rfl (by decide +kernel) ?_
  refine B_getfR (q := 43) fX3_22 kM71 r1 rfl (by decide +kernel) ?_
  refine P_bipush (n := (-31)) (q := 45) rfl rfl (by decide +kernel) ?_
  refine P_invV (As := [(0, (-31))]) (q := 48) oX2_add rfl k1 kX3_102 e1 hMF (Nat.le_of_ble_eq_true rfl) hc rfl (by decide +kernel) (fun z I2 R2 hq => ?_)
  exact (PW_sub (ls' := []) trivial (h z I2 R2 hq))
theorem S_X3_fact_48 {X : CX} {d : Nat} {I R : PF} {Q : PV → PF → PF → Prop} (h : Q (0, 1) I R) : PN X d mX3_fact 48 [] [] I R Q := by
  refine P_iconst (n := 1) (q := 49) rfl (by decide +kernel) ?_
  refine P_zret rfl (Or.inr rfl) (by decide +kernel) h
theorem S_X3_fact_50 {X : CX} {d d1 : Nat} {I R : PF} {Q Q1 : PV → PF → PF → Prop} (hs : Shp R) (e1 : d1 + 1 ≤ d) (hc : CN X d1 mX5_isSign [(2, 67), (0, 91)] I R Q1) (h : ∀ z I2 R2, Q1 (0, z) I2 R2 → PN X d mX3_fact 59 [(2, 71)] [(0, z)] I2 R2 Q) : PN X d mX3_fact 50 [(2, 71)] [] I R Q := by
  refine P_aload_n (n := 0) (q := 51) rfl rfl (by decide +kernel) ?_
  refine B_getfR (q := 54) fX3_18 kM71 (rM71_0 hs) rfl (by decide +kernel) ?_
  refine P_bipush (n := 91) (q := 56) rfl rfl (by decide +kernel) ?_
  refine P_invV (As := [(0, 91)]) (q := 59) oX5_isSign rfl kM67 kX3_117 e1 hMF (Nat.le_of_ble_eq_true rfl) hc rfl (by decide +kernel) (fun z I2 R2 hq => ?_)
  exact (h z I2 R2 hq)
theorem S_X3_fact_59 {X : CX} {d : Nat} {o0 : Int} {I R : PF} {Q : PV → PF → PF → Prop} (c1 : -2147483648 ≤ o0 ∧ o0 < 2147483648) (h1 : o0 = 0 → PN X d mX3_fact 91 [(2, 71)] [] I R Q) (h2 : o0 ≠ 0 → PN X d mX3_fact 62 [(2, 71)] [] I R Q) : PN X d mX3_fact 59 [(2, 71)] [(0, o0)] I R Q := by
  refine B_if_eq (off := 32) (t := 91) (q := 62) c1 (by decide) rfl (by decide +kernel) ?_ ?_
  · exact fun g9 => (h1 g9)
  · exact fun g9 => (h2 g9)
theorem S_X3_fact_62 {X : CX} {d d1 : Nat} {I R : PF} {Q Q1 : PV → PF → PF → Prop} (e1 : d1 + 1 ≤ d) (hc : CN X d1 mX3_opens [(2, 71)] I R Q1) (h : ∀ z I2 R2, Q1 (0, z) I2 R2 → PN X d mX3_fact 66 [(2, 71)] [(0, z)] I2 R2 Q) : PN X d mX3_fact 62 [(2, 71)] [] I R Q := by
  refine P_aload_n (n := 0) (q := 63) rfl rfl (by decide +kernel) ?_
  refine P_invV (As := []) (q := 66) oX3_opens rfl kM71 kX3_114 e1 hMF (Nat.le_of_ble_eq_true rfl) hc rfl (by decide +kernel) (fun z I2 R2 hq => ?_)
  exact (h z I2 R2 hq)
theorem S_X3_fact_66 {X : CX} {d : Nat} {o0 : Int} {I R : PF} {Q : PV → PF → PF → Prop} (c1 : -2147483648 ≤ o0 ∧ o0 < 2147483648) (h1 : o0 = 0 → PN X d mX3_fact 89 [] [] I R Q) (h2 : o0 ≠ 0 → PN X d mX3_fact 69 [(2, 71)] [] I R Q) : PN X d mX3_fact 66 [(2, 71)] [(0, o0)] I R Q := by
  refine B_if_eq (off := 23) (t := 89) (q := 69) c1 (by decide) rfl (by decide +kernel) ?_ ?_
  · exact fun g9 => (PW_sub (ls' := []) trivial (h1 g9))
  · exact fun g9 => (h2 g9)
theorem S_X3_fact_69 {X : CX} {d d1 : Nat} {I R : PF} {Q Q1 : PV → PF → PF → Prop} (e1 : d1 + 1 ≤ d) (hc : CN X d1 mX3_test [(2, 71)] I R Q1) (h : ∀ z I2 R2, Q1 (0, z) I2 R2 → PN X d mX3_fact 73 [(2, 71)] [(0, z)] I2 R2 Q) : PN X d mX3_fact 69 [(2, 71)] [] I R Q := by
  refine P_aload_n (n := 0) (q := 70) rfl rfl (by decide +kernel) ?_
  refine P_invV (As := []) (q := 73) oX3_test rfl kM71 kX3_34 e1 hMF (Nat.le_of_ble_eq_true rfl) hc rfl (by decide +kernel) (fun z I2 R2 hq => ?_)
  exact (h z I2 R2 hq)
theorem S_X3_fact_73 {X : CX} {d : Nat} {o0 : Int} {I R : PF} {Q : PV → PF → PF → Prop} (c1 : -2147483648 ≤ o0 ∧ o0 < 2147483648) (h1 : o0 = 0 → PN X d mX3_fact 89 [] [] I R Q) (h2 : o0 ≠ 0 → PN X d mX3_fact 76 [(2, 71)] [] I R Q) : PN X d mX3_fact 73 [(2, 71)] [(0, o0)] I R Q := by
  refine B_if_eq (off := 16) (t := 89) (q := 76) c1 (by decide) rfl (by decide +kernel) ?_ ?_
  · exact fun g9 => (PW_sub (ls' := []) trivial (h1 g9))
  · exact fun g9 => (h2 g9)
theorem S_X3_fact_76 {X : CX} {d d1 : Nat} {I R : PF} {Q Q1 : PV → PF → PF → Prop} (e1 : d1 + 1 ≤ d) (hc : CN X d1 mX3_closes [(2, 71), (0, 93)] I R Q1) (h : ∀ z I2 R2, Q1 (0, z) I2 R2 → PN X d mX3_fact 82 [] [(0, z)] I2 R2 Q) : PN X d mX3_fact 76 [(2, 71)] [] I R Q := by
  refine P_aload_n (n := 0) (q := 77) rfl rfl (by decide +kernel) ?_
  refine P_bipush (n := 93) (q := 79) rfl rfl (by decide +kernel) ?_
  refine P_invV (As := [(0, 93)]) (q := 82) oX3_closes rfl kM71 kX3_121 e1 hMF (Nat.le_of_ble_eq_true rfl) hc rfl (by decide +kernel) (fun z I2 R2 hq => ?_)
  exact (PW_sub (ls' := []) trivial (h z I2 R2 hq))
theorem S_X3_fact_82 {X : CX} {d : Nat} {o0 : Int} {I R : PF} {Q : PV → PF → PF → Prop} (c1 : -2147483648 ≤ o0 ∧ o0 < 2147483648) (h1 : o0 = 0 → PN X d mX3_fact 89 [] [] I R Q) (h2 : o0 ≠ 0 → PN X d mX3_fact 85 [] [] I R Q) : PN X d mX3_fact 82 [] [(0, o0)] I R Q := by
  refine B_if_eq (off := 7) (t := 89) (q := 85) c1 (by decide) rfl (by decide +kernel) ?_ ?_
  · exact fun g9 => (PW_sub (ls' := []) trivial (h1 g9))
  · exact fun g9 => (PW_sub (ls' := []) trivial (h2 g9))
theorem S_X3_fact_85 {X : CX} {d : Nat} {I R : PF} {Q : PV → PF → PF → Prop} (h : PN X d mX3_fact 90 [] [(0, 1)] I R Q) : PN X d mX3_fact 85 [] [] I R Q := by
  refine P_iconst (n := 1) (q := 86) rfl (by decide +kernel) ?_
  refine P_goto (off := 4) (t := 90) (by decide) (by decide +kernel) ?_
  exact (PW_sub (ls' := []) trivial h)
theorem S_X3_fact_89 {X : CX} {d : Nat} {I R : PF} {Q : PV → PF → PF → Prop} (h : PN X d mX3_fact 90 [] [(0, 0)] I R Q) : PN X d mX3_fact 89 [] [] I R Q := by
  refine P_iconst (n := 0) (q := 90) rfl (by decide +kernel) ?_
  exact (PW_sub (ls' := []) trivial h)
theorem S_X3_fact_90 {X : CX} {d : Nat} {o0 : Int} {I R : PF} {Q : PV → PF → PF → Prop} (z1 : o0 = 0 ∨ o0 = 1) (h : Q (0, o0) I R) : PN X d mX3_fact 90 [] [(0, o0)] I R Q := by
  refine P_zret rfl z1 (by decide +kernel) h
theorem S_X3_fact_91 {X : CX} {d d1 : Nat} {I R : PF} {Q Q1 : PV → PF → PF → Prop} (hs : Shp R) (e1 : d1 + 1 ≤ d) (hc : CN X d1 mX5_isWord [(2, 67), (2, 29)] I R Q1) (h : ∀ z I2 R2, Q1 (0, z) I2 R2 → PN X d mX3_fact 101 [(2, 71)] [(0, z)] I2 R2 Q) : PN X d mX3_fact 91 [(2, 71)] [] I R Q := by
  refine P_aload_n (n := 0) (q := 92) rfl rfl (by decide +kernel) ?_
  refine B_getfR (q := 95) fX3_18 kM71 (rM71_0 hs) rfl (by decide +kernel) ?_
  refine P_gets (o := 29) (q := 98) (fun _ _ h => zW (i := 28) (by decide) h) ⟨by decide, by decide⟩ gX3_124 rfl (by decide +kernel) ?_
  refine P_invV (As := [(2, 29)]) (q := 101) oX5_isWord rfl kM67 kX3_98 e1 hMF (Nat.le_of_ble_eq_true rfl) hc rfl (by decide +kernel) (fun z I2 R2 hq => ?_)
  exact (h z I2 R2 hq)
theorem S_X3_fact_101 {X : CX} {d : Nat} {o0 : Int} {I R : PF} {Q : PV → PF → PF → Prop} (c1 : -2147483648 ≤ o0 ∧ o0 < 2147483648) (h1 : o0 = 0 → PN X d mX3_fact 121 [(2, 71)] [] I R Q) (h2 : o0 ≠ 0 → PN X d mX3_fact 104 [(2, 71)] [] I R Q) : PN X d mX3_fact 101 [(2, 71)] [(0, o0)] I R Q := by
  refine B_if_eq (off := 20) (t := 121) (q := 104) c1 (by decide) rfl (by decide +kernel) ?_ ?_
  · exact fun g9 => (h1 g9)
  · exact fun g9 => (h2 g9)
theorem S_X3_fact_104 {X : CX} {d d1 : Nat} {I R : PF} {Q Q1 : PV → PF → PF → Prop} (hs : Shp R) (e1 : d1 + 1 ≤ d) (hc : CN X d1 mX5_advance [(2, 67)] I R Q1) (h : ∀ z I2 R2, Q1 (9, z) I2 R2 → PN X d mX3_fact 111 [(2, 71)] [] I2 R2 Q) : PN X d mX3_fact 104 [(2, 71)] [] I R Q := by
  refine P_aload_n (n := 0) (q := 105) rfl rfl (by decide +kernel) ?_
  refine B_getfR (q := 108) fX3_18 kM71 (rM71_0 hs) rfl (by decide +kernel) ?_
  refine P_invV (As := []) (q := 111) oX5_advance rfl kM67 kX3_79 e1 hMF (Nat.le_of_ble_eq_true rfl) hc rfl (by decide +kernel) (fun z I2 R2 hq => ?_)
  exact (h z I2 R2 hq)
theorem S_X3_fact_111 {X : CX} {d d1 : Nat} {t1 : Int} {I R : PF} {Q Q1 : PV → PF → PF → Prop} (r1 : R 71 1 = t1) (e1 : d1 + 1 ≤ d) (hc : CN X d1 mX2_add [(2, t1), (0, 1)] I R Q1) (k1 : kd MF t1 = 2) (h : ∀ z I2 R2, Q1 (9, z) I2 R2 → PN X d mX3_fact 119 [] [] I2 R2 Q) : PN X d mX3_fact 111 [(2, 71)] [] I R Q := by
  refine P_aload_n (n := 0) (q := 112) rfl rfl (by decide +kernel) ?_
  refine B_getfR (q := 115) fX3_22 kM71 r1 rfl (by decide +kernel) ?_
  refine P_iconst (n := 1) (q := 116) rfl (by decide +kernel) ?_
  refine P_invV (As := [(0, 1)]) (q := 119) oX2_add rfl k1 kX3_102 e1 hMF (Nat.le_of_ble_eq_true rfl) hc rfl (by decide +kernel) (fun z I2 R2 hq => ?_)
  exact (PW_sub (ls' := []) trivial (h z I2 R2 hq))
theorem S_X3_fact_119 {X : CX} {d : Nat} {I R : PF} {Q : PV → PF → PF → Prop} (h : Q (0, 1) I R) : PN X d mX3_fact 119 [] [] I R Q := by
  refine P_iconst (n := 1) (q := 120) rfl (by decide +kernel) ?_
  refine P_zret rfl (Or.inr rfl) (by decide +kernel) h
theorem S_X3_fact_121 {X : CX} {d d1 : Nat} {I R : PF} {Q Q1 : PV → PF → PF → Prop} (e1 : d1 + 1 ≤ d) (hc : CN X d1 mX3_sum [(2, 71)] I R Q1) (h : ∀ z I2 R2, Q1 (0, z) I2 R2 → PN X d mX3_fact 125 [(2, 71)] [(0, z)] I2 R2 Q) : PN X d mX3_fact 121 [(2, 71)] [] I R Q := by
  refine P_aload_n (n := 0) (q := 122) rfl rfl (by decide +kernel) ?_
  refine P_invV (As := []) (q := 125) oX3_sum rfl kM71 kX3_30 e1 hMF (Nat.le_of_ble_eq_true rfl) hc rfl (by decide +kernel) (fun z I2 R2 hq => ?_)
  exact (h z I2 R2 hq)
theorem S_X3_fact_125 {X : CX} {d : Nat} {o0 : Int} {I R : PF} {Q : PV → PF → PF → Prop} (c1 : -2147483648 ≤ o0 ∧ o0 < 2147483648) (h1 : o0 ≠ 0 → PN X d mX3_fact 130 [(2, 71)] [] I R Q) (h2 : o0 = 0 → PN X d mX3_fact 128 [] [] I R Q) : PN X d mX3_fact 125 [(2, 71)] [(0, o0)] I R Q := by
  refine B_if_ne (off := 5) (t := 130) (q := 128) c1 (by decide) rfl (by decide +kernel) ?_ ?_
  · exact fun g9 => (h1 g9)
  · exact fun g9 => (PW_sub (ls' := []) trivial (h2 g9))
theorem S_X3_fact_128 {X : CX} {d : Nat} {I R : PF} {Q : PV → PF → PF → Prop} (h : Q (0, 0) I R) : PN X d mX3_fact 128 [] [] I R Q := by
  refine P_iconst (n := 0) (q := 129) rfl (by decide +kernel) ?_
  refine P_zret rfl (Or.inl rfl) (by decide +kernel) h
theorem S_X3_fact_130 {X : CX} {d d1 : Nat} {I R : PF} {Q Q1 : PV → PF → PF → Prop} (e1 : d1 + 1 ≤ d) (hc : CN X d1 mX3_comparing [(2, 71)] I R Q1) (h : ∀ z I2 R2, Q1 (0, z) I2 R2 → PN X d mX3_fact 134 [(2, 71)] [(0, z)] I2 R2 Q) : PN X d mX3_fact 130 [(2, 71)] [] I R Q := by
  refine P_aload_n (n := 0) (q := 131) rfl rfl (by decide +kernel) ?_
  refine P_invV (As := []) (q := 134) oX3_comparing rfl kM71 kX3_127 e1 hMF (Nat.le_of_ble_eq_true rfl) hc rfl (by decide +kernel) (fun z I2 R2 hq => ?_)
  exact (h z I2 R2 hq)
theorem S_X3_fact_134 {X : CX} {d : Nat} {o0 : Int} {I R : PF} {Q : PV → PF → PF → Prop} (c1 : -2147483648 ≤ o0 ∧ o0 < 2147483648) (h1 : o0 ≠ (-1) → PN X d mX3_fact 156 [(2, 71), (0, o0)] [] I R Q) (h2 : o0 = (-1) → PN X d mX3_fact 140 [(2, 71)] [] I R Q) : PN X d mX3_fact 134 [(2, 71)] [(0, o0)] I R Q := by
  refine P_istore_n (n := 1) (by decide) (q := 135) rfl (by decide +kernel) ?_
  refine P_iload_n (n := 1) (q := 136) rfl rfl (by decide +kernel) ?_
  refine P_iconst (n := (-1)) (q := 137) rfl (by decide +kernel) ?_
  refine B_icmp_ne (off := 19) (t := 156) (q := 140) c1 ⟨by decide, by decide⟩ (by decide) rfl (by decide +kernel) ?_ ?_
  · exact fun g9 => (h1 g9)
  · exact fun g9 => (PW_sub (ls' := [(2, 71)]) ⟨Or.inr rfl, trivial⟩ (h2 g9))
theorem S_X3_fact_140 {X : CX} {d d1 : Nat} {I R : PF} {Q Q1 : PV → PF → PF → Prop} (hs : Shp R) (e1 : d1 + 1 ≤ d) (hc : CN X d1 mX5_refuse [(2, 67), (0, 1), (0, (I 67 3))] I R Q1) (h : ∀ z I2 R2, Q1 (0, z) I2 R2 → PN X d mX3_fact 155 [] [(0, z)] I2 R2 Q) : PN X d mX3_fact 140 [(2, 71)] [] I R Q := by
  refine P_aload_n (n := 0) (q := 141) rfl rfl (by decide +kernel) ?_
  refine B_getfR (q := 144) fX3_18 kM71 (rM71_0 hs) rfl (by decide +kernel) ?_
  refine P_iconst (n := 1) (q := 145) rfl (by decide +kernel) ?_
  refine P_aload_n (n := 0) (q := 146) rfl rfl (by decide +kernel) ?_
  refine B_getfR (q := 149) fX3_18 kM71 (rM71_0 hs) rfl (by decide +kernel) ?_
  refine P_getf (q := 152) fX3_72 kM67 rfl (by decide +kernel) ?_
  refine P_invV (As := [(0, 1), (0, (I 67 3))]) (q := 155) oX5_refuse rfl kM67 kX3_75 e1 hMF (Nat.le_of_ble_eq_true rfl) hc rfl (by decide +kernel) (fun z I2 R2 hq => ?_)
  exact (PW_sub (ls' := []) trivial (h z I2 R2 hq))
theorem S_X3_fact_155 {X : CX} {d : Nat} {o0 : Int} {I R : PF} {Q : PV → PF → PF → Prop} (z1 : o0 = 0 ∨ o0 = 1) (h : Q (0, o0) I R) : PN X d mX3_fact 155 [] [(0, o0)] I R Q := by
  refine P_zret rfl z1 (by decide +kernel) h
theorem S_X3_fact_156 {X : CX} {d d1 : Nat} {x1 : Int} {I R : PF} {Q Q1 : PV → PF → PF → Prop} (hs : Shp R) (e1 : d1 + 1 ≤ d) (hc : CN X d1 mX5_advance [(2, 67)] I R Q1) (h : ∀ z I2 R2, Q1 (9, z) I2 R2 → PN X d mX3_fact 163 [(2, 71), (0, x1)] [] I2 R2 Q) : PN X d mX3_fact 156 [(2, 71), (0, x1)] [] I R Q := by
  refine P_aload_n (n := 0) (q := 157) rfl rfl (by decide +kernel) ?_
  refine B_getfR (q := 160) fX3_18 kM71 (rM71_0 hs) rfl (by decide +kernel) ?_
  refine P_invV (As := []) (q := 163) oX5_advance rfl kM67 kX3_79 e1 hMF (Nat.le_of_ble_eq_true rfl) hc rfl (by decide +kernel) (fun z I2 R2 hq => ?_)
  exact (h z I2 R2 hq)
theorem S_X3_fact_163 {X : CX} {d d1 : Nat} {x1 : Int} {I R : PF} {Q Q1 : PV → PF → PF → Prop} (e1 : d1 + 1 ≤ d) (hc : CN X d1 mX3_sum [(2, 71)] I R Q1) (h : ∀ z I2 R2, Q1 (0, z) I2 R2 → PN X d mX3_fact 167 [(2, 71), (0, x1)] [(0, z)] I2 R2 Q) : PN X d mX3_fact 163 [(2, 71), (0, x1)] [] I R Q := by
  refine P_aload_n (n := 0) (q := 164) rfl rfl (by decide +kernel) ?_
  refine P_invV (As := []) (q := 167) oX3_sum rfl kM71 kX3_30 e1 hMF (Nat.le_of_ble_eq_true rfl) hc rfl (by decide +kernel) (fun z I2 R2 hq => ?_)
  exact (h z I2 R2 hq)
theorem S_X3_fact_167 {X : CX} {d : Nat} {x1 o0 : Int} {I R : PF} {Q : PV → PF → PF → Prop} (c1 : -2147483648 ≤ o0 ∧ o0 < 2147483648) (h1 : o0 ≠ 0 → PN X d mX3_fact 172 [(2, 71), (0, x1)] [] I R Q) (h2 : o0 = 0 → PN X d mX3_fact 170 [] [] I R Q) : PN X d mX3_fact 167 [(2, 71), (0, x1)] [(0, o0)] I R Q := by
  refine B_if_ne (off := 5) (t := 172) (q := 170) c1 (by decide) rfl (by decide +kernel) ?_ ?_
  · exact fun g9 => (h1 g9)
  · exact fun g9 => (PW_sub (ls' := []) trivial (h2 g9))
theorem S_X3_fact_170 {X : CX} {d : Nat} {I R : PF} {Q : PV → PF → PF → Prop} (h : Q (0, 0) I R) : PN X d mX3_fact 170 [] [] I R Q := by
  refine P_iconst (n := 0) (q := 171) rfl (by decide +kernel) ?_
  refine P_zret rfl (Or.inl rfl) (by decide +kernel) h
theorem S_X3_fact_172 {X : CX} {d d1 : Nat} {x1 t1 : Int} {I R : PF} {Q Q1 : PV → PF → PF → Prop} (r1 : R 71 1 = t1) (e1 : d1 + 1 ≤ d) (hc : CN X d1 mX2_add [(2, t1), (0, x1)] I R Q1) (k1 : kd MF t1 = 2) (h : ∀ z I2 R2, Q1 (9, z) I2 R2 → PN X d mX3_fact 180 [] [] I2 R2 Q) : PN X d mX3_fact 172 [(2, 71), (0, x1)] [] I R Q := by
  refine P_aload_n (n := 0) (q := 173) rfl rfl (by decide +kernel) ?_
  refine B_getfR (q := 176) fX3_22 kM71 r1 rfl (by decide +kernel) ?_
  refine P_iload_n (n := 1) (q := 177) rfl rfl (by decide +kernel) ?_
  refine P_invV (As := [(0, x1)]) (q := 180) oX2_add rfl k1 kX3_102 e1 hMF (Nat.le_of_ble_eq_true rfl) hc rfl (by decide +kernel) (fun z I2 R2 hq => ?_)
  exact (PW_sub (ls' := []) trivial (h z I2 R2 hq))
theorem S_X3_fact_180 {X : CX} {d : Nat} {I R : PF} {Q : PV → PF → PF → Prop} (h : Q (0, 1) I R) : PN X d mX3_fact 180 [] [] I R Q := by
  refine P_iconst (n := 1) (q := 181) rfl (by decide +kernel) ?_
  refine P_zret rfl (Or.inr rfl) (by decide +kernel) h
theorem S_X3_opens_0 {X : CX} {d : Nat} {I R : PF} {Q : PV → PF → PF → Prop} (c1 : -2147483648 ≤ (I 71 3) ∧ (I 71 3) < 2147483648) (h1 : (I 71 3) < 6 → PN X d mX3_opens 25 [(2, 71)] [] I R Q) (h2 : 6 ≤ (I 71 3) → PN X d mX3_opens 9 [(2, 71)] [] I R Q) : PN X d mX3_opens 0 [(2, 71)] [] I R Q := by
  refine P_aload_n (n := 0) (q := 1) rfl rfl (by decide +kernel) ?_
  refine P_getf (q := 4) fX3_15 kM71 rfl (by decide +kernel) ?_
  refine P_bipush (n := 6) (q := 6) rfl rfl (by decide +kernel) ?_
  refine B_icmp_lt (off := 19) (t := 25) (q := 9) c1 ⟨by decide, by decide⟩ (by decide) rfl (by decide +kernel) ?_ ?_
  · exact fun g9 => (h1 g9)
  · exact fun g9 => (h2 g9)
theorem S_X3_opens_9 {X : CX} {d d1 : Nat} {I R : PF} {Q Q1 : PV → PF → PF → Prop} (hs : Shp R) (e1 : d1 + 1 ≤ d) (hc : CN X d1 mX5_refuse [(2, 67), (0, 4), (0, (I 67 3))] I R Q1) (h : ∀ z I2 R2, Q1 (0, z) I2 R2 → PN X d mX3_opens 24 [] [(0, z)] I2 R2 Q) : PN X d mX3_opens 9 [(2, 71)] [] I R Q := by
  refine P_aload_n (n := 0) (q := 10) rfl rfl (by decide +kernel) ?_
  refine B_getfR (q := 13) fX3_18 kM71 (rM71_0 hs) rfl (by decide +kernel) ?_
  refine P_iconst (n := 4) (q := 14) rfl (by decide +kernel) ?_
  refine P_aload_n (n := 0) (q := 15) rfl rfl (by decide +kernel) ?_
  refine B_getfR (q := 18) fX3_18 kM71 (rM71_0 hs) rfl (by decide +kernel) ?_
  refine P_getf (q := 21) fX3_72 kM67 rfl (by decide +kernel) ?_
  refine P_invV (As := [(0, 4), (0, (I 67 3))]) (q := 24) oX5_refuse rfl kM67 kX3_75 e1 hMF (Nat.le_of_ble_eq_true rfl) hc rfl (by decide +kernel) (fun z I2 R2 hq => ?_)
  exact (PW_sub (ls' := []) trivial (h z I2 R2 hq))
theorem S_X3_opens_24 {X : CX} {d : Nat} {o0 : Int} {I R : PF} {Q : PV → PF → PF → Prop} (z1 : o0 = 0 ∨ o0 = 1) (h : Q (0, o0) I R) : PN X d mX3_opens 24 [] [(0, o0)] I R Q := by
  refine P_zret rfl z1 (by decide +kernel) h
theorem S_X3_opens_25 {X : CX} {d d1 : Nat} {I R : PF} {Q Q1 : PV → PF → PF → Prop} (hs : Shp R) (e1 : d1 + 1 ≤ d) (hc : CN X d1 mX5_advance [(2, 67)] (u2 I 71 3 ((I 71 3) + 1)) R Q1) (h : ∀ z I2 R2, Q1 (9, z) I2 R2 → PN X d mX3_opens 42 [] [] I2 R2 Q) : PN X d mX3_opens 25 [(2, 71)] [] I R Q := by
  refine P_aload_n (n := 0) (q := 26) rfl rfl (by decide +kernel) ?_
  refine P_dup (q := 27) (Nat.ne_of_beq_eq_false rfl) rfl (by decide +kernel) ?_
  refine P_getf (q := 30) fX3_15 kM71 rfl (by decide +kernel) ?_
  refine P_iconst (n := 1) (q := 31) rfl (by decide +kernel) ?_
  refine P_iadd (q := 32) rfl (by decide +kernel) ?_
  refine P_putI (q := 35) wX3_15 (fun h => by cases h) kM71 rfl (by decide +kernel) ?_
  refine P_aload_n (n := 0) (q := 36) rfl rfl (by decide +kernel) ?_
  refine B_getfR (q := 39) fX3_18 kM71 (rM71_0 hs) rfl (by decide +kernel) ?_
  refine P_invV (As := []) (q := 42) oX5_advance rfl kM67 kX3_79 e1 hMF (Nat.le_of_ble_eq_true rfl) hc rfl (by decide +kernel) (fun z I2 R2 hq => ?_)
  exact (PW_sub (ls' := []) trivial (h z I2 R2 hq))
theorem S_X3_opens_42 {X : CX} {d : Nat} {I R : PF} {Q : PV → PF → PF → Prop} (h : Q (0, 1) I R) : PN X d mX3_opens 42 [] [] I R Q := by
  refine P_iconst (n := 1) (q := 43) rfl (by decide +kernel) ?_
  refine P_zret rfl (Or.inr rfl) (by decide +kernel) h
theorem S_X3_pair_0 {X : CX} {d d1 : Nat} {x1 : Int} {I R : PF} {Q Q1 : PV → PF → PF → Prop} (hs : Shp R) (e1 : d1 + 1 ≤ d) (hc : CN X d1 mX5_advance [(2, 67)] I R Q1) (h : ∀ z I2 R2, Q1 (9, z) I2 R2 → PN X d mX3_pair 7 [(2, 71), (0, x1)] [] I2 R2 Q) : PN X d mX3_pair 0 [(2, 71), (0, x1)] [] I R Q := by
  refine P_aload_n (n := 0) (q := 1) rfl rfl (by decide +kernel) ?_
  refine B_getfR (q := 4) fX3_18 kM71 (rM71_0 hs) rfl (by decide +kernel) ?_
  refine P_invV (As := []) (q := 7) oX5_advance rfl kM67 kX3_79 e1 hMF (Nat.le_of_ble_eq_true rfl) hc rfl (by decide +kernel) (fun z I2 R2 hq => ?_)
  exact (h z I2 R2 hq)
theorem S_X3_pair_7 {X : CX} {d d1 : Nat} {x1 : Int} {I R : PF} {Q Q1 : PV → PF → PF → Prop} (hs : Shp R) (e1 : d1 + 1 ≤ d) (hc : CN X d1 mX5_isSign [(2, 67), (0, 40)] I R Q1) (h : ∀ z I2 R2, Q1 (0, z) I2 R2 → PN X d mX3_pair 16 [(2, 71), (0, x1)] [(0, z)] I2 R2 Q) : PN X d mX3_pair 7 [(2, 71), (0, x1)] [] I R Q := by
  refine P_aload_n (n := 0) (q := 8) rfl rfl (by decide +kernel) ?_
  refine B_getfR (q := 11) fX3_18 kM71 (rM71_0 hs) rfl (by decide +kernel) ?_
  refine P_bipush (n := 40) (q := 13) rfl rfl (by decide +kernel) ?_
  refine P_invV (As := [(0, 40)]) (q := 16) oX5_isSign rfl kM67 kX3_117 e1 hMF (Nat.le_of_ble_eq_true rfl) hc rfl (by decide +kernel) (fun z I2 R2 hq => ?_)
  exact (h z I2 R2 hq)
theorem S_X3_pair_16 {X : CX} {d : Nat} {x1 o0 : Int} {I R : PF} {Q : PV → PF → PF → Prop} (c1 : -2147483648 ≤ o0 ∧ o0 < 2147483648) (h1 : o0 ≠ 0 → PN X d mX3_pair 35 [(2, 71), (0, x1)] [] I R Q) (h2 : o0 = 0 → PN X d mX3_pair 19 [(2, 71)] [] I R Q) : PN X d mX3_pair 16 [(2, 71), (0, x1)] [(0, o0)] I R Q := by
  refine B_if_ne (off := 19) (t := 35) (q := 19) c1 (by decide) rfl (by decide +kernel) ?_ ?_
  · exact fun g9 => (h1 g9)
  · exact fun g9 => (PW_sub (ls' := [(2, 71)]) ⟨Or.inr rfl, trivial⟩ (h2 g9))
theorem S_X3_pair_19 {X : CX} {d d1 : Nat} {I R : PF} {Q Q1 : PV → PF → PF → Prop} (hs : Shp R) (e1 : d1 + 1 ≤ d) (hc : CN X d1 mX5_refuse [(2, 67), (0, 1), (0, (I 67 3))] I R Q1) (h : ∀ z I2 R2, Q1 (0, z) I2 R2 → PN X d mX3_pair 34 [] [(0, z)] I2 R2 Q) : PN X d mX3_pair 19 [(2, 71)] [] I R Q := by
  refine P_aload_n (n := 0) (q := 20) rfl rfl (by decide +kernel) ?_
  refine B_getfR (q := 23) fX3_18 kM71 (rM71_0 hs) rfl (by decide +kernel) ?_
  refine P_iconst (n := 1) (q := 24) rfl (by decide +kernel) ?_
  refine P_aload_n (n := 0) (q := 25) rfl rfl (by decide +kernel) ?_
  refine B_getfR (q := 28) fX3_18 kM71 (rM71_0 hs) rfl (by decide +kernel) ?_
  refine P_getf (q := 31) fX3_72 kM67 rfl (by decide +kernel) ?_
  refine P_invV (As := [(0, 1), (0, (I 67 3))]) (q := 34) oX5_refuse rfl kM67 kX3_75 e1 hMF (Nat.le_of_ble_eq_true rfl) hc rfl (by decide +kernel) (fun z I2 R2 hq => ?_)
  exact (PW_sub (ls' := []) trivial (h z I2 R2 hq))
theorem S_X3_pair_34 {X : CX} {d : Nat} {o0 : Int} {I R : PF} {Q : PV → PF → PF → Prop} (z1 : o0 = 0 ∨ o0 = 1) (h : Q (0, o0) I R) : PN X d mX3_pair 34 [] [(0, o0)] I R Q := by
  refine P_zret rfl z1 (by decide +kernel) h
theorem S_X3_pair_35 {X : CX} {d d1 : Nat} {x1 : Int} {I R : PF} {Q Q1 : PV → PF → PF → Prop} (e1 : d1 + 1 ≤ d) (hc : CN X d1 mX3_opens [(2, 71)] I R Q1) (h : ∀ z I2 R2, Q1 (0, z) I2 R2 → PN X d mX3_pair 39 [(2, 71), (0, x1)] [(0, z)] I2 R2 Q) : PN X d mX3_pair 35 [(2, 71), (0, x1)] [] I R Q := by
  refine P_aload_n (n := 0) (q := 36) rfl rfl (by decide +kernel) ?_
  refine P_invV (As := []) (q := 39) oX3_opens rfl kM71 kX3_114 e1 hMF (Nat.le_of_ble_eq_true rfl) hc rfl (by decide +kernel) (fun z I2 R2 hq => ?_)
  exact (h z I2 R2 hq)
theorem S_X3_pair_39 {X : CX} {d : Nat} {x1 o0 : Int} {I R : PF} {Q : PV → PF → PF → Prop} (c1 : -2147483648 ≤ o0 ∧ o0 < 2147483648) (h1 : o0 = 0 → PN X d mX3_pair 77 [] [] I R Q) (h2 : o0 ≠ 0 → PN X d mX3_pair 42 [(2, 71), (0, x1)] [] I R Q) : PN X d mX3_pair 39 [(2, 71), (0, x1)] [(0, o0)] I R Q := by
  refine B_if_eq (off := 38) (t := 77) (q := 42) c1 (by decide) rfl (by decide +kernel) ?_ ?_
  · exact fun g9 => (PW_sub (ls' := []) trivial (h1 g9))
  · exact fun g9 => (h2 g9)
theorem S_X3_pair_42 {X : CX} {d d1 : Nat} {x1 : Int} {I R : PF} {Q Q1 : PV → PF → PF → Prop} (e1 : d1 + 1 ≤ d) (hc : CN X d1 mX3_sum [(2, 71)] I R Q1) (h : ∀ z I2 R2, Q1 (0, z) I2 R2 → PN X d mX3_pair 46 [(2, 71), (0, x1)] [(0, z)] I2 R2 Q) : PN X d mX3_pair 42 [(2, 71), (0, x1)] [] I R Q := by
  refine P_aload_n (n := 0) (q := 43) rfl rfl (by decide +kernel) ?_
  refine P_invV (As := []) (q := 46) oX3_sum rfl kM71 kX3_30 e1 hMF (Nat.le_of_ble_eq_true rfl) hc rfl (by decide +kernel) (fun z I2 R2 hq => ?_)
  exact (h z I2 R2 hq)
theorem S_X3_pair_46 {X : CX} {d : Nat} {x1 o0 : Int} {I R : PF} {Q : PV → PF → PF → Prop} (c1 : -2147483648 ≤ o0 ∧ o0 < 2147483648) (h1 : o0 = 0 → PN X d mX3_pair 77 [] [] I R Q) (h2 : o0 ≠ 0 → PN X d mX3_pair 49 [(2, 71), (0, x1)] [] I R Q) : PN X d mX3_pair 46 [(2, 71), (0, x1)] [(0, o0)] I R Q := by
  refine B_if_eq (off := 31) (t := 77) (q := 49) c1 (by decide) rfl (by decide +kernel) ?_ ?_
  · exact fun g9 => (PW_sub (ls' := []) trivial (h1 g9))
  · exact fun g9 => (h2 g9)
theorem S_X3_pair_49 {X : CX} {d d1 : Nat} {x1 : Int} {I R : PF} {Q Q1 : PV → PF → PF → Prop} (hs : Shp R) (e1 : d1 + 1 ≤ d) (hc : CN X d1 mX5_takeSign [(2, 67), (0, 44)] I R Q1) (h : ∀ z I2 R2, Q1 (0, z) I2 R2 → PN X d mX3_pair 58 [(2, 71), (0, x1)] [(0, z)] I2 R2 Q) : PN X d mX3_pair 49 [(2, 71), (0, x1)] [] I R Q := by
  refine P_aload_n (n := 0) (q := 50) rfl rfl (by decide +kernel) ?_
  refine B_getfR (q := 53) fX3_18 kM71 (rM71_0 hs) rfl (by decide +kernel) ?_
  refine P_bipush (n := 44) (q := 55) rfl rfl (by decide +kernel) ?_
  refine P_invV (As := [(0, 44)]) (q := 58) oX5_takeSign rfl kM67 kX3_162 e1 hMF (Nat.le_of_ble_eq_true rfl) hc rfl (by decide +kernel) (fun z I2 R2 hq => ?_)
  exact (h z I2 R2 hq)
theorem S_X3_pair_58 {X : CX} {d : Nat} {x1 o0 : Int} {I R : PF} {Q : PV → PF → PF → Prop} (c1 : -2147483648 ≤ o0 ∧ o0 < 2147483648) (h1 : o0 = 0 → PN X d mX3_pair 77 [] [] I R Q) (h2 : o0 ≠ 0 → PN X d mX3_pair 61 [(2, 71), (0, x1)] [] I R Q) : PN X d mX3_pair 58 [(2, 71), (0, x1)] [(0, o0)] I R Q := by
  refine B_if_eq (off := 19) (t := 77) (q := 61) c1 (by decide) rfl (by decide +kernel) ?_ ?_
  · exact fun g9 => (PW_sub (ls' := []) trivial (h1 g9))
  · exact fun g9 => (h2 g9)
theorem S_X3_pair_61 {X : CX} {d d1 : Nat} {x1 : Int} {I R : PF} {Q Q1 : PV → PF → PF → Prop} (e1 : d1 + 1 ≤ d) (hc : CN X d1 mX3_sum [(2, 71)] I R Q1) (h : ∀ z I2 R2, Q1 (0, z) I2 R2 → PN X d mX3_pair 65 [(2, 71), (0, x1)] [(0, z)] I2 R2 Q) : PN X d mX3_pair 61 [(2, 71), (0, x1)] [] I R Q := by
  refine P_aload_n (n := 0) (q := 62) rfl rfl (by decide +kernel) ?_
  refine P_invV (As := []) (q := 65) oX3_sum rfl kM71 kX3_30 e1 hMF (Nat.le_of_ble_eq_true rfl) hc rfl (by decide +kernel) (fun z I2 R2 hq => ?_)
  exact (h z I2 R2 hq)
theorem S_X3_pair_65 {X : CX} {d : Nat} {x1 o0 : Int} {I R : PF} {Q : PV → PF → PF → Prop} (c1 : -2147483648 ≤ o0 ∧ o0 < 2147483648) (h1 : o0 = 0 → PN X d mX3_pair 77 [] [] I R Q) (h2 : o0 ≠ 0 → PN X d mX3_pair 68 [(2, 71), (0, x1)] [] I R Q) : PN X d mX3_pair 65 [(2, 71), (0, x1)] [(0, o0)] I R Q := by
  refine B_if_eq (off := 12) (t := 77) (q := 68) c1 (by decide) rfl (by decide +kernel) ?_ ?_
  · exact fun g9 => (PW_sub (ls' := []) trivial (h1 g9))
  · exact fun g9 => (h2 g9)
theorem S_X3_pair_68 {X : CX} {d d1 : Nat} {x1 : Int} {I R : PF} {Q Q1 : PV → PF → PF → Prop} (e1 : d1 + 1 ≤ d) (hc : CN X d1 mX3_closes [(2, 71), (0, 41)] I R Q1) (h : ∀ z I2 R2, Q1 (0, z) I2 R2 → PN X d mX3_pair 74 [(2, 71), (0, x1)] [(0, z)] I2 R2 Q) : PN X d mX3_pair 68 [(2, 71), (0, x1)] [] I R Q := by
  refine P_aload_n (n := 0) (q := 69) rfl rfl (by decide +kernel) ?_
  refine P_bipush (n := 41) (q := 71) rfl rfl (by decide +kernel) ?_
  refine P_invV (As := [(0, 41)]) (q := 74) oX3_closes rfl kM71 kX3_121 e1 hMF (Nat.le_of_ble_eq_true rfl) hc rfl (by decide +kernel) (fun z I2 R2 hq => ?_)
  exact (h z I2 R2 hq)
theorem S_X3_pair_74 {X : CX} {d : Nat} {x1 o0 : Int} {I R : PF} {Q : PV → PF → PF → Prop} (c1 : -2147483648 ≤ o0 ∧ o0 < 2147483648) (h1 : o0 ≠ 0 → PN X d mX3_pair 79 [(2, 71), (0, x1)] [] I R Q) (h2 : o0 = 0 → PN X d mX3_pair 77 [] [] I R Q) : PN X d mX3_pair 74 [(2, 71), (0, x1)] [(0, o0)] I R Q := by
  refine B_if_ne (off := 5) (t := 79) (q := 77) c1 (by decide) rfl (by decide +kernel) ?_ ?_
  · exact fun g9 => (h1 g9)
  · exact fun g9 => (PW_sub (ls' := []) trivial (h2 g9))
theorem S_X3_pair_77 {X : CX} {d : Nat} {I R : PF} {Q : PV → PF → PF → Prop} (h : Q (0, 0) I R) : PN X d mX3_pair 77 [] [] I R Q := by
  refine P_iconst (n := 0) (q := 78) rfl (by decide +kernel) ?_
  refine P_zret rfl (Or.inl rfl) (by decide +kernel) h
theorem S_X3_pair_79 {X : CX} {d d1 : Nat} {x1 t1 : Int} {I R : PF} {Q Q1 : PV → PF → PF → Prop} (r1 : R 71 1 = t1) (e1 : d1 + 1 ≤ d) (hc : CN X d1 mX2_add [(2, t1), (0, x1)] I R Q1) (k1 : kd MF t1 = 2) (h : ∀ z I2 R2, Q1 (9, z) I2 R2 → PN X d mX3_pair 87 [] [] I2 R2 Q) : PN X d mX3_pair 79 [(2, 71), (0, x1)] [] I R Q := by
  refine P_aload_n (n := 0) (q := 80) rfl rfl (by decide +kernel) ?_
  refine B_getfR (q := 83) fX3_22 kM71 r1 rfl (by decide +kernel) ?_
  refine P_iload_n (n := 1) (q := 84) rfl rfl (by decide +kernel) ?_
  refine P_invV (As := [(0, x1)]) (q := 87) oX2_add rfl k1 kX3_102 e1 hMF (Nat.le_of_ble_eq_true rfl) hc rfl (by decide +kernel) (fun z I2 R2 hq => ?_)
  exact (PW_sub (ls' := []) trivial (h z I2 R2 hq))
theorem S_X3_pair_87 {X : CX} {d : Nat} {I R : PF} {Q : PV → PF → PF → Prop} (h : Q (0, 1) I R) : PN X d mX3_pair 87 [] [] I R Q := by
  refine P_iconst (n := 1) (q := 88) rfl (by decide +kernel) ?_
  refine P_zret rfl (Or.inr rfl) (by decide +kernel) h
theorem S_X3_part_0 {X : CX} {d d1 : Nat} {I R : PF} {Q Q1 : PV → PF → PF → Prop} (hs : Shp R) (e1 : d1 + 1 ≤ d) (hc : CN X d1 mX5_isNumber [(2, 67)] I R Q1) (h : ∀ z I2 R2, Q1 (0, z) I2 R2 → PN X d mX3_part 7 [(2, 71)] [(0, z)] I2 R2 Q) : PN X d mX3_part 0 [(2, 71)] [] I R Q := by
  refine P_aload_n (n := 0) (q := 1) rfl rfl (by decide +kernel) ?_
  refine B_getfR (q := 4) fX3_18 kM71 (rM71_0 hs) rfl (by decide +kernel) ?_
  refine P_invV (As := []) (q := 7) oX5_isNumber rfl kM67 kX3_137 e1 hMF (Nat.le_of_ble_eq_true rfl) hc rfl (by decide +kernel) (fun z I2 R2 hq => ?_)
  exact (h z I2 R2 hq)
theorem S_X3_part_7 {X : CX} {d : Nat} {o0 : Int} {I R : PF} {Q : PV → PF → PF → Prop} (c1 : -2147483648 ≤ o0 ∧ o0 < 2147483648) (h1 : o0 = 0 → PN X d mX3_part 41 [(2, 71)] [] I R Q) (h2 : o0 ≠ 0 → PN X d mX3_part 10 [(2, 71)] [] I R Q) : PN X d mX3_part 7 [(2, 71)] [(0, o0)] I R Q := by
  refine B_if_eq (off := 34) (t := 41) (q := 10) c1 (by decide) rfl (by decide +kernel) ?_ ?_
  · exact fun g9 => (h1 g9)
  · exact fun g9 => (h2 g9)
theorem S_X3_part_10 {X : CX} {d d1 : Nat} {I R : PF} {Q Q1 : PV → PF → PF → Prop} (hs : Shp R) (e1 : d1 + 1 ≤ d) (hc : CN X d1 mX5_takeNumber [(2, 67), (0, 0), (0, 9999)] I R Q1) (h : ∀ z I2 R2, Q1 (0, z) I2 R2 → PN X d mX3_part 21 [(2, 71)] [(0, z)] I2 R2 Q) : PN X d mX3_part 10 [(2, 71)] [] I R Q := by
  refine P_aload_n (n := 0) (q := 11) rfl rfl (by decide +kernel) ?_
  refine B_getfR (q := 14) fX3_18 kM71 (rM71_0 hs) rfl (by decide +kernel) ?_
  refine P_iconst (n := 0) (q := 15) rfl (by decide +kernel) ?_
  refine P_sipush (n := 9999) (q := 18) rfl rfl (by decide +kernel) ?_
  refine P_invV (As := [(0, 0), (0, 9999)]) (q := 21) oX5_takeNumber rfl kM67 kX3_140 e1 hMF (Nat.le_of_ble_eq_true rfl) hc rfl (by decide +kernel) (fun z I2 R2 hq => ?_)
  exact (h z I2 R2 hq)
theorem S_X3_part_21 {X : CX} {d d1 : Nat} {o0 t1 : Int} {I R : PF} {Q Q1 : PV → PF → PF → Prop} (r1 : R 71 1 = t1) (e1 : d1 + 1 ≤ d) (hc : CN X d1 mX2_add [(2, t1), (0, o0)] I R Q1) (k1 : kd MF t1 = 2) (h : ∀ z I2 R2, Q1 (9, z) I2 R2 → PN X d mX3_part 30 [(9, 0), (0, o0)] [] I2 R2 Q) : PN X d mX3_part 21 [(2, 71)] [(0, o0)] I R Q := by
  refine P_istore_n (n := 1) (by decide) (q := 22) rfl (by decide +kernel) ?_
  refine P_aload_n (n := 0) (q := 23) rfl rfl (by decide +kernel) ?_
  refine B_getfR (q := 26) fX3_22 kM71 r1 rfl (by decide +kernel) ?_
  refine P_iload_n (n := 1) (q := 27) rfl rfl (by decide +kernel) ?_
  refine P_invV (As := [(0, o0)]) (q := 30) oX2_add rfl k1 kX3_102 e1 hMF (Nat.le_of_ble_eq_true rfl) hc rfl (by decide +kernel) (fun z I2 R2 hq => ?_)
  exact (PW_sub (ls' := [(9, 0), (0, o0)]) ⟨Or.inl rfl, Or.inr rfl, trivial⟩ (h z I2 R2 hq))
theorem S_X3_part_30 {X : CX} {d : Nat} {x1 : Int} {I R : PF} {Q : PV → PF → PF → Prop} (c1 : -2147483648 ≤ x1 ∧ x1 < 2147483648) (h1 : x1 = (-1) → PN X d mX3_part 39 [] [] I R Q) (h2 : x1 ≠ (-1) → PN X d mX3_part 35 [] [] I R Q) : PN X d mX3_part 30 [(9, 0), (0, x1)] [] I R Q := by
  refine P_iload_n (n := 1) (q := 31) rfl rfl (by decide +kernel) ?_
  refine P_iconst (n := (-1)) (q := 32) rfl (by decide +kernel) ?_
  refine B_icmp_eq (off := 7) (t := 39) (q := 35) c1 ⟨by decide, by decide⟩ (by decide) rfl (by decide +kernel) ?_ ?_
  · exact fun g9 => (PW_sub (ls' := []) trivial (h1 g9))
  · exact fun g9 => (PW_sub (ls' := []) trivial (h2 g9))
theorem S_X3_part_35 {X : CX} {d : Nat} {I R : PF} {Q : PV → PF → PF → Prop} (h : PN X d mX3_part 40 [] [(0, 1)] I R Q) : PN X d mX3_part 35 [] [] I R Q := by
  refine P_iconst (n := 1) (q := 36) rfl (by decide +kernel) ?_
  refine P_goto (off := 4) (t := 40) (by decide) (by decide +kernel) ?_
  exact (PW_sub (ls' := []) trivial h)
theorem S_X3_part_39 {X : CX} {d : Nat} {I R : PF} {Q : PV → PF → PF → Prop} (h : PN X d mX3_part 40 [] [(0, 0)] I R Q) : PN X d mX3_part 39 [] [] I R Q := by
  refine P_iconst (n := 0) (q := 40) rfl (by decide +kernel) ?_
  exact (PW_sub (ls' := []) trivial h)
theorem S_X3_part_40 {X : CX} {d : Nat} {o0 : Int} {I R : PF} {Q : PV → PF → PF → Prop} (z1 : o0 = 0 ∨ o0 = 1) (h : Q (0, o0) I R) : PN X d mX3_part 40 [] [(0, o0)] I R Q := by
  refine P_zret rfl z1 (by decide +kernel) h
theorem S_X3_part_41 {X : CX} {d d1 : Nat} {I R : PF} {Q Q1 : PV → PF → PF → Prop} (hs : Shp R) (e1 : d1 + 1 ≤ d) (hc : CN X d1 mX5_isSign [(2, 67), (0, 40)] I R Q1) (h : ∀ z I2 R2, Q1 (0, z) I2 R2 → PN X d mX3_part 50 [(2, 71)] [(0, z)] I2 R2 Q) : PN X d mX3_part 41 [(2, 71)] [] I R Q := by
  refine P_aload_n (n := 0) (q := 42) rfl rfl (by decide +kernel) ?_
  refine B_getfR (q := 45) fX3_18 kM71 (rM71_0 hs) rfl (by decide +kernel) ?_
  refine P_bipush (n := 40) (q := 47) rfl rfl (by decide +kernel) ?_
  refine P_invV (As := [(0, 40)]) (q := 50) oX5_isSign rfl kM67 kX3_117 e1 hMF (Nat.le_of_ble_eq_true rfl) hc rfl (by decide +kernel) (fun z I2 R2 hq => ?_)
  exact (h z I2 R2 hq)
theorem S_X3_part_50 {X : CX} {d : Nat} {o0 : Int} {I R : PF} {Q : PV → PF → PF → Prop} (c1 : -2147483648 ≤ o0 ∧ o0 < 2147483648) (h1 : o0 = 0 → PN X d mX3_part 82 [(2, 71)] [] I R Q) (h2 : o0 ≠ 0 → PN X d mX3_part 53 [(2, 71)] [] I R Q) : PN X d mX3_part 50 [(2, 71)] [(0, o0)] I R Q := by
  refine B_if_eq (off := 32) (t := 82) (q := 53) c1 (by decide) rfl (by decide +kernel) ?_ ?_
  · exact fun g9 => (h1 g9)
  · exact fun g9 => (h2 g9)
theorem S_X3_part_53 {X : CX} {d d1 : Nat} {I R : PF} {Q Q1 : PV → PF → PF → Prop} (e1 : d1 + 1 ≤ d) (hc : CN X d1 mX3_opens [(2, 71)] I R Q1) (h : ∀ z I2 R2, Q1 (0, z) I2 R2 → PN X d mX3_part 57 [(2, 71)] [(0, z)] I2 R2 Q) : PN X d mX3_part 53 [(2, 71)] [] I R Q := by
  refine P_aload_n (n := 0) (q := 54) rfl rfl (by decide +kernel) ?_
  refine P_invV (As := []) (q := 57) oX3_opens rfl kM71 kX3_114 e1 hMF (Nat.le_of_ble_eq_true rfl) hc rfl (by decide +kernel) (fun z I2 R2 hq => ?_)
  exact (h z I2 R2 hq)
theorem S_X3_part_57 {X : CX} {d : Nat} {o0 : Int} {I R : PF} {Q : PV → PF → PF → Prop} (c1 : -2147483648 ≤ o0 ∧ o0 < 2147483648) (h1 : o0 = 0 → PN X d mX3_part 80 [] [] I R Q) (h2 : o0 ≠ 0 → PN X d mX3_part 60 [(2, 71)] [] I R Q) : PN X d mX3_part 57 [(2, 71)] [(0, o0)] I R Q := by
  refine B_if_eq (off := 23) (t := 80) (q := 60) c1 (by decide) rfl (by decide +kernel) ?_ ?_
  · exact fun g9 => (PW_sub (ls' := []) trivial (h1 g9))
  · exact fun g9 => (h2 g9)
theorem S_X3_part_60 {X : CX} {d d1 : Nat} {I R : PF} {Q Q1 : PV → PF → PF → Prop} (e1 : d1 + 1 ≤ d) (hc : CN X d1 mX3_sum [(2, 71)] I R Q1) (h : ∀ z I2 R2, Q1 (0, z) I2 R2 → PN X d mX3_part 64 [(2, 71)] [(0, z)] I2 R2 Q) : PN X d mX3_part 60 [(2, 71)] [] I R Q := by
  refine P_aload_n (n := 0) (q := 61) rfl rfl (by decide +kernel) ?_
  refine P_invV (As := []) (q := 64) oX3_sum rfl kM71 kX3_30 e1 hMF (Nat.le_of_ble_eq_true rfl) hc rfl (by decide +kernel) (fun z I2 R2 hq => ?_)
  exact (h z I2 R2 hq)
theorem S_X3_part_64 {X : CX} {d : Nat} {o0 : Int} {I R : PF} {Q : PV → PF → PF → Prop} (c1 : -2147483648 ≤ o0 ∧ o0 < 2147483648) (h1 : o0 = 0 → PN X d mX3_part 80 [] [] I R Q) (h2 : o0 ≠ 0 → PN X d mX3_part 67 [(2, 71)] [] I R Q) : PN X d mX3_part 64 [(2, 71)] [(0, o0)] I R Q := by
  refine B_if_eq (off := 16) (t := 80) (q := 67) c1 (by decide) rfl (by decide +kernel) ?_ ?_
  · exact fun g9 => (PW_sub (ls' := []) trivial (h1 g9))
  · exact fun g9 => (h2 g9)
theorem S_X3_part_67 {X : CX} {d d1 : Nat} {I R : PF} {Q Q1 : PV → PF → PF → Prop} (e1 : d1 + 1 ≤ d) (hc : CN X d1 mX3_closes [(2, 71), (0, 41)] I R Q1) (h : ∀ z I2 R2, Q1 (0, z) I2 R2 → PN X d mX3_part 73 [] [(0, z)] I2 R2 Q) : PN X d mX3_part 67 [(2, 71)] [] I R Q := by
  refine P_aload_n (n := 0) (q := 68) rfl rfl (by decide +kernel) ?_
  refine P_bipush (n := 41) (q := 70) rfl rfl (by decide +kernel) ?_
  refine P_invV (As := [(0, 41)]) (q := 73) oX3_closes rfl kM71 kX3_121 e1 hMF (Nat.le_of_ble_eq_true rfl) hc rfl (by decide +kernel) (fun z I2 R2 hq => ?_)
  exact (PW_sub (ls' := []) trivial (h z I2 R2 hq))
theorem S_X3_part_73 {X : CX} {d : Nat} {o0 : Int} {I R : PF} {Q : PV → PF → PF → Prop} (c1 : -2147483648 ≤ o0 ∧ o0 < 2147483648) (h1 : o0 = 0 → PN X d mX3_part 80 [] [] I R Q) (h2 : o0 ≠ 0 → PN X d mX3_part 76 [] [] I R Q) : PN X d mX3_part 73 [] [(0, o0)] I R Q := by
  refine B_if_eq (off := 7) (t := 80) (q := 76) c1 (by decide) rfl (by decide +kernel) ?_ ?_
  · exact fun g9 => (PW_sub (ls' := []) trivial (h1 g9))
  · exact fun g9 => (PW_sub (ls' := []) trivial (h2 g9))
theorem S_X3_part_76 {X : CX} {d : Nat} {I R : PF} {Q : PV → PF → PF → Prop} (h : PN X d mX3_part 81 [] [(0, 1)] I R Q) : PN X d mX3_part 76 [] [] I R Q := by
  refine P_iconst (n := 1) (q := 77) rfl (by decide +kernel) ?_
  refine P_goto (off := 4) (t := 81) (by decide) (by decide +kernel) ?_
  exact (PW_sub (ls' := []) trivial h)
theorem S_X3_part_80 {X : CX} {d : Nat} {I R : PF} {Q : PV → PF → PF → Prop} (h : PN X d mX3_part 81 [] [(0, 0)] I R Q) : PN X d mX3_part 80 [] [] I R Q := by
  refine P_iconst (n := 0) (q := 81) rfl (by decide +kernel) ?_
  exact (PW_sub (ls' := []) trivial h)
theorem S_X3_part_81 {X : CX} {d : Nat} {o0 : Int} {I R : PF} {Q : PV → PF → PF → Prop} (z1 : o0 = 0 ∨ o0 = 1) (h : Q (0, o0) I R) : PN X d mX3_part 81 [] [(0, o0)] I R Q := by
  refine P_zret rfl z1 (by decide +kernel) h
theorem S_X3_part_82 {X : CX} {d d1 : Nat} {I R : PF} {Q Q1 : PV → PF → PF → Prop} (hs : Shp R) (e1 : d1 + 1 ≤ d) (hc : CN X d1 mX5_isWord [(2, 67), (2, 30)] I R Q1) (h : ∀ z I2 R2, Q1 (0, z) I2 R2 → PN X d mX3_part 92 [(2, 71)] [(0, z)] I2 R2 Q) : PN X d mX3_part 82 [(2, 71)] [] I R Q := by
  refine P_aload_n (n := 0) (q := 83) rfl rfl (by decide +kernel) ?_
  refine B_getfR (q := 86) fX3_18 kM71 (rM71_0 hs) rfl (by decide +kernel) ?_
  refine P_gets (o := 30) (q := 89) (fun _ _ h => zW (i := 29) (by decide) h) ⟨by decide, by decide⟩ gX3_144 rfl (by decide +kernel) ?_
  refine P_invV (As := [(2, 30)]) (q := 92) oX5_isWord rfl kM67 kX3_98 e1 hMF (Nat.le_of_ble_eq_true rfl) hc rfl (by decide +kernel) (fun z I2 R2 hq => ?_)
  exact (h z I2 R2 hq)
theorem S_X3_part_92 {X : CX} {d : Nat} {o0 : Int} {I R : PF} {Q : PV → PF → PF → Prop} (c1 : -2147483648 ≤ o0 ∧ o0 < 2147483648) (h1 : o0 ≠ 0 → PN X d mX3_part 108 [(2, 71)] [] I R Q) (h2 : o0 = 0 → PN X d mX3_part 95 [(2, 71)] [] I R Q) : PN X d mX3_part 92 [(2, 71)] [(0, o0)] I R Q := by
  refine B_if_ne (off := 16) (t := 108) (q := 95) c1 (by decide) rfl (by decide +kernel) ?_ ?_
  · exact fun g9 => (h1 g9)
  · exact fun g9 => (h2 g9)
theorem S_X3_part_95 {X : CX} {d d1 : Nat} {I R : PF} {Q Q1 : PV → PF → PF → Prop} (hs : Shp R) (e1 : d1 + 1 ≤ d) (hc : CN X d1 mX5_isWord [(2, 67), (2, 31)] I R Q1) (h : ∀ z I2 R2, Q1 (0, z) I2 R2 → PN X d mX3_part 105 [(2, 71)] [(0, z)] I2 R2 Q) : PN X d mX3_part 95 [(2, 71)] [] I R Q := by
  refine P_aload_n (n := 0) (q := 96) rfl rfl (by decide +kernel) ?_
  refine B_getfR (q := 99) fX3_18 kM71 (rM71_0 hs) rfl (by decide +kernel) ?_
  refine P_gets (o := 31) (q := 102) (fun _ _ h => zW (i := 30) (by decide) h) ⟨by decide, by decide⟩ gX3_147 rfl (by decide +kernel) ?_
  refine P_invV (As := [(2, 31)]) (q := 105) oX5_isWord rfl kM67 kX3_98 e1 hMF (Nat.le_of_ble_eq_true rfl) hc rfl (by decide +kernel) (fun z I2 R2 hq => ?_)
  exact (h z I2 R2 hq)
theorem S_X3_part_105 {X : CX} {d : Nat} {o0 : Int} {I R : PF} {Q : PV → PF → PF → Prop} (c1 : -2147483648 ≤ o0 ∧ o0 < 2147483648) (h1 : o0 = 0 → PN X d mX3_part 133 [(2, 71)] [] I R Q) (h2 : o0 ≠ 0 → PN X d mX3_part 108 [(2, 71)] [] I R Q) : PN X d mX3_part 105 [(2, 71)] [(0, o0)] I R Q := by
  refine B_if_eq (off := 28) (t := 133) (q := 108) c1 (by decide) rfl (by decide +kernel) ?_ ?_
  · exact fun g9 => (h1 g9)
  · exact fun g9 => (h2 g9)
theorem S_X3_part_108 {X : CX} {d d1 : Nat} {I R : PF} {Q Q1 : PV → PF → PF → Prop} (hs : Shp R) (e1 : d1 + 1 ≤ d) (hc : CN X d1 mX5_isWord [(2, 67), (2, 30)] I R Q1) (h : ∀ z I2 R2, Q1 (0, z) I2 R2 → PN X d mX3_part 119 [] [(0, z), (2, 71)] I2 R2 Q) : PN X d mX3_part 108 [(2, 71)] [] I R Q := by
  refine P_aload_n (n := 0) (q := 109) rfl rfl (by decide +kernel) ?_
  refine P_aload_n (n := 0) (q := 110) rfl rfl (by decide +kernel) ?_
  refine B_getfR (q := 113) fX3_18 kM71 (rM71_0 hs) rfl (by decide +kernel) ?_
  refine P_gets (o := 30) (q := 116) (fun _ _ h => zW (i := 29) (by decide) h) ⟨by decide, by decide⟩ gX3_144 rfl (by decide +kernel) ?_
  refine P_invV (As := [(2, 30)]) (q := 119) oX5_isWord rfl kM67 kX3_98 e1 hMF (Nat.le_of_ble_eq_true rfl) hc rfl (by decide +kernel) (fun z I2 R2 hq => ?_)
  exact (PW_sub (ls' := []) trivial (h z I2 R2 hq))
theorem S_X3_part_119 {X : CX} {d : Nat} {o1 : Int} {I R : PF} {Q : PV → PF → PF → Prop} (c1 : -2147483648 ≤ o1 ∧ o1 < 2147483648) (h1 : o1 = 0 → PN X d mX3_part 127 [] [(2, 71)] I R Q) (h2 : o1 ≠ 0 → PN X d mX3_part 122 [] [(2, 71)] I R Q) : PN X d mX3_part 119 [] [(0, o1), (2, 71)] I R Q := by
  refine B_if_eq (off := 8) (t := 127) (q := 122) c1 (by decide) rfl (by decide +kernel) ?_ ?_
  · exact fun g9 => (PW_sub (ls' := []) trivial (h1 g9))
  · exact fun g9 => (PW_sub (ls' := []) trivial (h2 g9))
theorem S_X3_part_122 {X : CX} {d : Nat} {I R : PF} {Q : PV → PF → PF → Prop} (h : PN X d mX3_part 129 [] [(0, (-24)), (2, 71)] I R Q) : PN X d mX3_part 122 [] [(2, 71)] I R Q := by
  refine P_bipush (n := (-24)) (q := 124) rfl rfl (by decide +kernel) ?_
  refine P_goto (off := 5) (t := 129) (by decide) (by decide +kernel) ?_
  exact (PW_sub (ls' := []) trivial h)
theorem S_X3_part_127 {X : CX} {d : Nat} {I R : PF} {Q : PV → PF → PF → Prop} (h : PN X d mX3_part 129 [] [(0, (-25)), (2, 71)] I R Q) : PN X d mX3_part 127 [] [(2, 71)] I R Q := by
  refine P_bipush (n := (-25)) (q := 129) rfl rfl (by decide +kernel) ?_
  exact (PW_sub (ls' := []) trivial h)
theorem S_X3_part_129 {X : CX} {d d1 : Nat} {o1 : Int} {I R : PF} {Q Q1 : PV → PF → PF → Prop} (e1 : d1 + 1 ≤ d) (hc : CN X d1 mX3_pair [(2, 71), (0, o1)] I R Q1) (h : ∀ z I2 R2, Q1 (0, z) I2 R2 → PN X d mX3_part 132 [] [(0, z)] I2 R2 Q) : PN X d mX3_part 129 [] [(0, o1), (2, 71)] I R Q := by
  refine P_invV (As := [(0, o1)]) (q := 132) oX3_pair rfl kM71 kX3_150 e1 hMF (Nat.le_of_ble_eq_true rfl) hc rfl (by decide +kernel) (fun z I2 R2 hq => ?_)
  exact (PW_sub (ls' := []) trivial (h z I2 R2 hq))
theorem S_X3_part_132 {X : CX} {d : Nat} {o0 : Int} {I R : PF} {Q : PV → PF → PF → Prop} (z1 : o0 = 0 ∨ o0 = 1) (h : Q (0, o0) I R) : PN X d mX3_part 132 [] [(0, o0)] I R Q := by
  refine P_zret rfl z1 (by decide +kernel) h
theorem S_X3_part_133 {X : CX} {d d1 : Nat} {I R : PF} {Q Q1 : PV → PF → PF → Prop} (hs : Shp R) (e1 : d1 + 1 ≤ d) (hc : CN X d1 mX5_isWord [(2, 67), (2, 12)] I R Q1) (h : ∀ z I2 R2, Q1 (0, z) I2 R2 → PN X d mX3_part 143 [(2, 71)] [(0, z)] I2 R2 Q) : PN X d mX3_part 133 [(2, 71)] [] I R Q := by
  refine P_aload_n (n := 0) (q := 134) rfl rfl (by decide +kernel) ?_
  refine B_getfR (q := 137) fX3_18 kM71 (rM71_0 hs) rfl (by decide +kernel) ?_
  refine P_gets (o := 12) (q := 140) (fun _ _ h => zW (i := 11) (by decide) h) ⟨by decide, by decide⟩ gX3_153 rfl (by decide +kernel) ?_
  refine P_invV (As := [(2, 12)]) (q := 143) oX5_isWord rfl kM67 kX3_98 e1 hMF (Nat.le_of_ble_eq_true rfl) hc rfl (by decide +kernel) (fun z I2 R2 hq => ?_)
  exact (h z I2 R2 hq)
theorem S_X3_part_143 {X : CX} {d : Nat} {o0 : Int} {I R : PF} {Q : PV → PF → PF → Prop} (c1 : -2147483648 ≤ o0 ∧ o0 < 2147483648) (h1 : o0 = 0 → PN X d mX3_part 191 [(2, 71)] [] I R Q) (h2 : o0 ≠ 0 → PN X d mX3_part 146 [(2, 71)] [] I R Q) : PN X d mX3_part 143 [(2, 71)] [(0, o0)] I R Q := by
  refine B_if_eq (off := 48) (t := 191) (q := 146) c1 (by decide) rfl (by decide +kernel) ?_ ?_
  · exact fun g9 => (h1 g9)
  · exact fun g9 => (h2 g9)
theorem S_X3_part_146 {X : CX} {d : Nat} {I R : PF} {Q : PV → PF → PF → Prop} (c1 : -2147483648 ≤ (I 71 2) ∧ (I 71 2) < 2147483648) (h1 : (I 71 2) ≠ 4 → PN X d mX3_part 191 [(2, 71)] [] I R Q) (h2 : (I 71 2) = 4 → PN X d mX3_part 154 [(2, 71)] [] I R Q) : PN X d mX3_part 146 [(2, 71)] [] I R Q := by
  refine P_aload_n (n := 0) (q := 147) rfl rfl (by decide +kernel) ?_
  refine P_getf (q := 150) fX3_9 kM71 rfl (by decide +kernel) ?_
  refine P_iconst (n := 4) (q := 151) rfl (by decide +kernel) ?_
  refine B_icmp_ne (off := 40) (t := 191) (q := 154) c1 ⟨by decide, by decide⟩ (by decide) rfl (by decide +kernel) ?_ ?_
  · exact fun g9 => (h1 g9)
  · exact fun g9 => (h2 g9)
theorem S_X3_part_154 {X : CX} {d d1 : Nat} {I R : PF} {Q Q1 : PV → PF → PF → Prop} (e1 : d1 + 1 ≤ d) (hc : CN X d1 mX3_opens [(2, 71)] I R Q1) (h : ∀ z I2 R2, Q1 (0, z) I2 R2 → PN X d mX3_part 158 [(2, 71)] [(0, z)] I2 R2 Q) : PN X d mX3_part 154 [(2, 71)] [] I R Q := by
  refine P_aload_n (n := 0) (q := 155) rfl rfl (by decide +kernel) ?_
  refine P_invV (As := []) (q := 158) oX3_opens rfl kM71 kX3_114 e1 hMF (Nat.le_of_ble_eq_true rfl) hc rfl (by decide +kernel) (fun z I2 R2 hq => ?_)
  exact (h z I2 R2 hq)
theorem S_X3_part_158 {X : CX} {d : Nat} {o0 : Int} {I R : PF} {Q : PV → PF → PF → Prop} (c1 : -2147483648 ≤ o0 ∧ o0 < 2147483648) (h1 : o0 = 0 → PN X d mX3_part 168 [] [] I R Q) (h2 : o0 ≠ 0 → PN X d mX3_part 161 [(2, 71)] [] I R Q) : PN X d mX3_part 158 [(2, 71)] [(0, o0)] I R Q := by
  refine B_if_eq (off := 10) (t := 168) (q := 161) c1 (by decide) rfl (by decide +kernel) ?_ ?_
  · exact fun g9 => (PW_sub (ls' := []) trivial (h1 g9))
  · exact fun g9 => (h2 g9)
theorem S_X3_part_161 {X : CX} {d d1 : Nat} {I R : PF} {Q Q1 : PV → PF → PF → Prop} (e1 : d1 + 1 ≤ d) (hc : CN X d1 mX3_part [(2, 71)] I R Q1) (h : ∀ z I2 R2, Q1 (0, z) I2 R2 → PN X d mX3_part 165 [(2, 71)] [(0, z)] I2 R2 Q) : PN X d mX3_part 161 [(2, 71)] [] I R Q := by
  refine P_aload_n (n := 0) (q := 162) rfl rfl (by decide +kernel) ?_
  refine P_invV (As := []) (q := 165) oX3_part rfl kM71 kX3_134 e1 hMF (Nat.le_of_ble_eq_true rfl) hc rfl (by decide +kernel) (fun z I2 R2 hq => ?_)
  exact (h z I2 R2 hq)
theorem S_X3_part_165 {X : CX} {d : Nat} {o0 : Int} {I R : PF} {Q : PV → PF → PF → Prop} (c1 : -2147483648 ≤ o0 ∧ o0 < 2147483648) (h1 : o0 ≠ 0 → PN X d mX3_part 170 [(2, 71)] [] I R Q) (h2 : o0 = 0 → PN X d mX3_part 168 [] [] I R Q) : PN X d mX3_part 165 [(2, 71)] [(0, o0)] I R Q := by
  refine B_if_ne (off := 5) (t := 170) (q := 168) c1 (by decide) rfl (by decide +kernel) ?_ ?_
  · exact fun g9 => (h1 g9)
  · exact fun g9 => (PW_sub (ls' := []) trivial (h2 g9))
theorem S_X3_part_168 {X : CX} {d : Nat} {I R : PF} {Q : PV → PF → PF → Prop} (h : Q (0, 0) I R) : PN X d mX3_part 168 [] [] I R Q := by
  refine P_iconst (n := 0) (q := 169) rfl (by decide +kernel) ?_
  refine P_zret rfl (Or.inl rfl) (by decide +kernel) h
theorem S_X3_part_170 {X : CX} {d d1 : Nat} {t1 : Int} {I R : PF} {Q Q1 : PV → PF → PF → Prop} (r1 : R 71 1 = t1) (e1 : d1 + 1 ≤ d) (hc : CN X d1 mX2_add [(2, t1), (0, (-32))] (u2 I 71 3 ((I 71 3) - 1)) R Q1) (k1 : kd MF t1 = 2) (h : ∀ z I2 R2, Q1 (9, z) I2 R2 → PN X d mX3_part 189 [] [] I2 R2 Q) : PN X d mX3_part 170 [(2, 71)] [] I R Q := by
  refine P_aload_n (n := 0) (q := 171) rfl rfl (by decide +kernel) ?_
  refine P_dup (q := 172) (Nat.ne_of_beq_eq_false rfl) rfl (by decide +kernel) ?_
  refine P_getf (q := 175) fX3_15 kM71 rfl (by decide +kernel) ?_
  refine P_iconst (n := 1) (q := 176) rfl (by decide +kernel) ?_
  refine P_isub (q := 177) rfl (by decide +kernel) ?_
  refine P_putI (q := 180) wX3_15 (fun h => by cases h) kM71 rfl (by decide +kernel) ?_
  refine P_aload_n (n := 0) (q := 181) rfl rfl (by decide +kernel) ?_
  refine B_getfR (q := 184) fX3_22 kM71 r1 rfl (by decide +kernel) ?_
  refine P_bipush (n := (-32)) (q := 186) rfl rfl (by decide +kernel) ?_
  refine P_invV (As := [(0, (-32))]) (q := 189) oX2_add rfl k1 kX3_102 e1 hMF (Nat.le_of_ble_eq_true rfl) hc rfl (by decide +kernel) (fun z I2 R2 hq => ?_)
  exact (PW_sub (ls' := []) trivial (h z I2 R2 hq))
theorem S_X3_part_189 {X : CX} {d : Nat} {I R : PF} {Q : PV → PF → PF → Prop} (h : Q (0, 1) I R) : PN X d mX3_part 189 [] [] I R Q := by
  refine P_iconst (n := 1) (q := 190) rfl (by decide +kernel) ?_
  refine P_zret rfl (Or.inr rfl) (by decide +kernel) h
theorem S_X3_part_191 {X : CX} {d d1 : Nat} {t1 : Int} {I R : PF} {Q Q1 : PV → PF → PF → Prop} (hs : Shp R) (r1 : R 67 6 = t1) (e1 : d1 + 1 ≤ d) (hc : CN X d1 mX5_isWord [(2, 67), (2, t1)] I R Q1) (h : ∀ z I2 R2, Q1 (0, z) I2 R2 → PN X d mX3_part 207 [(2, 71), (2, t1)] [(0, z)] I2 R2 Q) : PN X d mX3_part 191 [(2, 71)] [] I R Q := by
  refine P_aload_n (n := 0) (q := 192) rfl rfl (by decide +kernel) ?_
  refine B_getfR (q := 195) fX3_18 kM71 (rM71_0 hs) rfl (by decide +kernel) ?_
  refine B_getfR (q := 198) fX3_48 kM67 r1 rfl (by decide +kernel) ?_
  refine P_astore_n (n := 1) (by decide) (q := 199) rfl (by decide +kernel) ?_
  refine P_aload_n (n := 0) (q := 200) rfl rfl (by decide +kernel) ?_
  refine B_getfR (q := 203) fX3_18 kM71 (rM71_0 hs) rfl (by decide +kernel) ?_
  refine P_aload_n (n := 1) (q := 204) rfl rfl (by decide +kernel) ?_
  refine P_invV (As := [(2, t1)]) (q := 207) oX5_isWord rfl kM67 kX3_98 e1 hMF (Nat.le_of_ble_eq_true rfl) hc rfl (by decide +kernel) (fun z I2 R2 hq => ?_)
  exact (h z I2 R2 hq)
theorem S_X3_part_207 {X : CX} {d : Nat} {a1 o0 : Int} {I R : PF} {Q : PV → PF → PF → Prop} (c1 : -2147483648 ≤ o0 ∧ o0 < 2147483648) (h1 : o0 = 0 → PN X d mX3_part 222 [(2, 71)] [] I R Q) (h2 : o0 ≠ 0 → PN X d mX3_part 210 [(2, 71), (2, a1)] [] I R Q) : PN X d mX3_part 207 [(2, 71), (2, a1)] [(0, o0)] I R Q := by
  refine B_if_eq (off := 15) (t := 222) (q := 210) c1 (by decide) rfl (by decide +kernel) ?_ ?_
  · exact fun g9 => (PW_sub (ls' := [(2, 71)]) ⟨Or.inr rfl, trivial⟩ (h1 g9))
  · exact fun g9 => (h2 g9)
theorem S_X3_part_210 {X : CX} {d : Nat} {a1 : Int} {I R : PF} {Q : PV → PF → PF → Prop} (c1 : 1 ≤ a1 ∧ a1 ≤ 37) (c2 : -2147483648 ≤ ((Int32.ofInt (sW 3 a1) &&& Int32.ofInt (I 71 2)).toInt) ∧ ((Int32.ofInt (sW 3 a1) &&& Int32.ofInt (I 71 2)).toInt) < 2147483648) (h1 : ((Int32.ofInt (sW 3 a1) &&& Int32.ofInt (I 71 2)).toInt) ≠ 0 → PN X d mX3_part 238 [(2, 71), (2, a1)] [] I R Q) (h2 : ((Int32.ofInt (sW 3 a1) &&& Int32.ofInt (I 71 2)).toInt) = 0 → PN X d mX3_part 222 [(2, 71)] [] I R Q) : PN X d mX3_part 210 [(2, 71), (2, a1)] [] I R Q := by
  refine P_aload_n (n := 1) (q := 211) rfl rfl (by decide +kernel) ?_
  refine P_getE (q := 214) eX3_156 c1 rfl (by decide +kernel) ?_
  refine P_aload_n (n := 0) (q := 215) rfl rfl (by decide +kernel) ?_
  refine P_getf (q := 218) fX3_9 kM71 rfl (by decide +kernel) ?_
  refine P_iand (q := 219) rfl (by decide +kernel) ?_
  refine B_if_ne (off := 19) (t := 238) (q := 222) c2 (by decide) rfl (by decide +kernel) ?_ ?_
  · exact fun g9 => (h1 g9)
  · exact fun g9 => (PW_sub (ls' := [(2, 71)]) ⟨Or.inr rfl, trivial⟩ (h2 g9))
theorem S_X3_part_222 {X : CX} {d d1 : Nat} {I R : PF} {Q Q1 : PV → PF → PF → Prop} (hs : Shp R) (e1 : d1 + 1 ≤ d) (hc : CN X d1 mX5_refuse [(2, 67), (0, 1), (0, (I 67 3))] I R Q1) (h : ∀ z I2 R2, Q1 (0, z) I2 R2 → PN X d mX3_part 237 [] [(0, z)] I2 R2 Q) : PN X d mX3_part 222 [(2, 71)] [] I R Q := by
  refine P_aload_n (n := 0) (q := 223) rfl rfl (by decide +kernel) ?_
  refine B_getfR (q := 226) fX3_18 kM71 (rM71_0 hs) rfl (by decide +kernel) ?_
  refine P_iconst (n := 1) (q := 227) rfl (by decide +kernel) ?_
  refine P_aload_n (n := 0) (q := 228) rfl rfl (by decide +kernel) ?_
  refine B_getfR (q := 231) fX3_18 kM71 (rM71_0 hs) rfl (by decide +kernel) ?_
  refine P_getf (q := 234) fX3_72 kM67 rfl (by decide +kernel) ?_
  refine P_invV (As := [(0, 1), (0, (I 67 3))]) (q := 237) oX5_refuse rfl kM67 kX3_75 e1 hMF (Nat.le_of_ble_eq_true rfl) hc rfl (by decide +kernel) (fun z I2 R2 hq => ?_)
  exact (PW_sub (ls' := []) trivial (h z I2 R2 hq))
theorem S_X3_part_237 {X : CX} {d : Nat} {o0 : Int} {I R : PF} {Q : PV → PF → PF → Prop} (z1 : o0 = 0 ∨ o0 = 1) (h : Q (0, o0) I R) : PN X d mX3_part 237 [] [(0, o0)] I R Q := by
  refine P_zret rfl z1 (by decide +kernel) h
theorem S_X3_part_238 {X : CX} {d d1 : Nat} {a1 : Int} {I R : PF} {Q Q1 : PV → PF → PF → Prop} (hs : Shp R) (e1 : d1 + 1 ≤ d) (hc : CN X d1 mX5_advance [(2, 67)] I R Q1) (h : ∀ z I2 R2, Q1 (9, z) I2 R2 → PN X d mX3_part 245 [(2, 71), (2, a1)] [] I2 R2 Q) : PN X d mX3_part 238 [(2, 71), (2, a1)] [] I R Q := by
  refine P_aload_n (n := 0) (q := 239) rfl rfl (by decide +kernel) ?_
  refine B_getfR (q := 242) fX3_18 kM71 (rM71_0 hs) rfl (by decide +kernel) ?_
  refine P_invV (As := []) (q := 245) oX5_advance rfl kM67 kX3_79 e1 hMF (Nat.le_of_ble_eq_true rfl) hc rfl (by decide +kernel) (fun z I2 R2 hq => ?_)
  exact (h z I2 R2 hq)
theorem S_X3_part_245 {X : CX} {d d1 : Nat} {a1 t1 : Int} {I R : PF} {Q Q1 : PV → PF → PF → Prop} (r1 : R 71 1 = t1) (c1 : 1 ≤ a1 ∧ a1 ≤ 37) (e1 : d1 + 1 ≤ d) (hc : CN X d1 mX2_addFact [(2, t1), (0, (sW 2 a1))] I R Q1) (k1 : kd MF t1 = 2) (h : ∀ z I2 R2, Q1 (9, z) I2 R2 → PN X d mX3_part 256 [] [] I2 R2 Q) : PN X d mX3_part 245 [(2, 71), (2, a1)] [] I R Q := by
  refine P_aload_n (n := 0) (q := 246) rfl rfl (by decide +kernel) ?_
  refine B_getfR (q := 249) fX3_22 kM71 r1 rfl (by decide +kernel) ?_
  refine P_aload_n (n := 1) (q := 250) rfl rfl (by decide +kernel) ?_
  refine P_getE (q := 253) eX3_157 c1 rfl (by decide +kernel) ?_
  refine P_invV (As := [(0, (sW 2 a1))]) (q := 256) oX2_addFact rfl k1 kX3_159 e1 hMF (Nat.le_of_ble_eq_true rfl) hc rfl (by decide +kernel) (fun z I2 R2 hq => ?_)
  exact (PW_sub (ls' := []) trivial (h z I2 R2 hq))
theorem S_X3_part_256 {X : CX} {d : Nat} {I R : PF} {Q : PV → PF → PF → Prop} (h : Q (0, 1) I R) : PN X d mX3_part 256 [] [] I R Q := by
  refine P_iconst (n := 1) (q := 257) rfl (by decide +kernel) ?_
  refine P_zret rfl (Or.inr rfl) (by decide +kernel) h
theorem S_X3_product_0 {X : CX} {d d1 : Nat} {I R : PF} {Q Q1 : PV → PF → PF → Prop} (e1 : d1 + 1 ≤ d) (hc : CN X d1 mX3_part [(2, 71)] I R Q1) (h : ∀ z I2 R2, Q1 (0, z) I2 R2 → PN X d mX3_product 4 [(2, 71)] [(0, z)] I2 R2 Q) : PN X d mX3_product 0 [(2, 71)] [] I R Q := by
  refine P_aload_n (n := 0) (q := 1) rfl rfl (by decide +kernel) ?_
  refine P_invV (As := []) (q := 4) oX3_part rfl kM71 kX3_134 e1 hMF (Nat.le_of_ble_eq_true rfl) hc rfl (by decide +kernel) (fun z I2 R2 hq => ?_)
  exact (h z I2 R2 hq)
theorem S_X3_product_4 {X : CX} {d : Nat} {o0 : Int} {I R : PF} {Q : PV → PF → PF → Prop} (c1 : -2147483648 ≤ o0 ∧ o0 < 2147483648) (h1 : o0 ≠ 0 → PN X d mX3_product 9 [(2, 71)] [] I R Q) (h2 : o0 = 0 → PN X d mX3_product 7 [] [] I R Q) : PN X d mX3_product 4 [(2, 71)] [(0, o0)] I R Q := by
  refine B_if_ne (off := 5) (t := 9) (q := 7) c1 (by decide) rfl (by decide +kernel) ?_ ?_
  · exact fun g9 => (h1 g9)
  · exact fun g9 => (PW_sub (ls' := []) trivial (h2 g9))
theorem S_X3_product_7 {X : CX} {d : Nat} {I R : PF} {Q : PV → PF → PF → Prop} (h : Q (0, 0) I R) : PN X d mX3_product 7 [] [] I R Q := by
  refine P_iconst (n := 0) (q := 8) rfl (by decide +kernel) ?_
  refine P_zret rfl (Or.inl rfl) (by decide +kernel) h
theorem S_X3_product_9 {X : CX} {d : Nat} {I R : PF} {Q : PV → PF → PF → Prop} (h : PN X d mX3_product 11 [(2, 71), (0, 0)] [] I R Q) : PN X d mX3_product 9 [(2, 71)] [] I R Q := by
  refine P_iconst (n := 0) (q := 10) rfl (by decide +kernel) ?_
  refine P_istore_n (n := 1) (by decide) (q := 11) rfl (by decide +kernel) ?_
  exact h
theorem S_X3_product_11 {X : CX} {d : Nat} {x1 : Int} {I R : PF} {Q : PV → PF → PF → Prop} (c1 : -2147483648 ≤ x1 ∧ x1 < 2147483648) (h1 : 1600 ≤ x1 → PN X d mX3_product 92 [] [] I R Q) (h2 : x1 < 1600 → PN X d mX3_product 18 [(2, 71), (0, x1)] [] I R Q) : PN X d mX3_product 11 [(2, 71), (0, x1)] [] I R Q := by
  refine P_iload_n (n := 1) (q := 12) rfl rfl (by decide +kernel) ?_
  refine P_sipush (n := 1600) (q := 15) rfl rfl (by decide +kernel) ?_
  refine B_icmp_ge (off := 77) (t := 92) (q := 18) c1 ⟨by decide, by decide⟩ (by decide) rfl (by decide +kernel) ?_ ?_
  · exact fun g9 => (PW_sub (ls' := []) trivial (h1 g9))
  · exact fun g9 => (h2 g9)
theorem S_X3_product_18 {X : CX} {d d1 : Nat} {x1 : Int} {I R : PF} {Q Q1 : PV → PF → PF → Prop} (hs : Shp R) (e1 : d1 + 1 ≤ d) (hc : CN X d1 mX5_isSign [(2, 67), (0, 42)] I R Q1) (h : ∀ z I2 R2, Q1 (0, z) I2 R2 → PN X d mX3_product 27 [(2, 71), (0, x1)] [(0, z)] I2 R2 Q) : PN X d mX3_product 18 [(2, 71), (0, x1)] [] I R Q := by
  refine P_aload_n (n := 0) (q := 19) rfl rfl (by decide +kernel) ?_
  refine B_getfR (q := 22) fX3_18 kM71 (rM71_0 hs) rfl (by decide +kernel) ?_
  refine P_bipush (n := 42) (q := 24) rfl rfl (by decide +kernel) ?_
  refine P_invV (As := [(0, 42)]) (q := 27) oX5_isSign rfl kM67 kX3_117 e1 hMF (Nat.le_of_ble_eq_true rfl) hc rfl (by decide +kernel) (fun z I2 R2 hq => ?_)
  exact (h z I2 R2 hq)
theorem S_X3_product_27 {X : CX} {d : Nat} {x1 o0 : Int} {I R : PF} {Q : PV → PF → PF → Prop} (c1 : -2147483648 ≤ o0 ∧ o0 < 2147483648) (h1 : o0 ≠ 0 → PN X d mX3_product 42 [(2, 71), (0, x1)] [] I R Q) (h2 : o0 = 0 → PN X d mX3_product 30 [(2, 71), (0, x1)] [] I R Q) : PN X d mX3_product 27 [(2, 71), (0, x1)] [(0, o0)] I R Q := by
  refine B_if_ne (off := 15) (t := 42) (q := 30) c1 (by decide) rfl (by decide +kernel) ?_ ?_
  · exact fun g9 => (h1 g9)
  · exact fun g9 => (h2 g9)
theorem S_X3_product_30 {X : CX} {d d1 : Nat} {x1 : Int} {I R : PF} {Q Q1 : PV → PF → PF → Prop} (hs : Shp R) (e1 : d1 + 1 ≤ d) (hc : CN X d1 mX5_isSign [(2, 67), (0, 47)] I R Q1) (h : ∀ z I2 R2, Q1 (0, z) I2 R2 → PN X d mX3_product 39 [(2, 71), (0, x1)] [(0, z)] I2 R2 Q) : PN X d mX3_product 30 [(2, 71), (0, x1)] [] I R Q := by
  refine P_aload_n (n := 0) (q := 31) rfl rfl (by decide +kernel) ?_
  refine B_getfR (q := 34) fX3_18 kM71 (rM71_0 hs) rfl (by decide +kernel) ?_
  refine P_bipush (n := 47) (q := 36) rfl rfl (by decide +kernel) ?_
  refine P_invV (As := [(0, 47)]) (q := 39) oX5_isSign rfl kM67 kX3_117 e1 hMF (Nat.le_of_ble_eq_true rfl) hc rfl (by decide +kernel) (fun z I2 R2 hq => ?_)
  exact (h z I2 R2 hq)
theorem S_X3_product_39 {X : CX} {d : Nat} {x1 o0 : Int} {I R : PF} {Q : PV → PF → PF → Prop} (c1 : -2147483648 ≤ o0 ∧ o0 < 2147483648) (h1 : o0 = 0 → PN X d mX3_product 92 [] [] I R Q) (h2 : o0 ≠ 0 → PN X d mX3_product 42 [(2, 71), (0, x1)] [] I R Q) : PN X d mX3_product 39 [(2, 71), (0, x1)] [(0, o0)] I R Q := by
  refine B_if_eq (off := 53) (t := 92) (q := 42) c1 (by decide) rfl (by decide +kernel) ?_ ?_
  · exact fun g9 => (PW_sub (ls' := []) trivial (h1 g9))
  · exact fun g9 => (h2 g9)
theorem S_X3_product_42 {X : CX} {d d1 : Nat} {x1 : Int} {I R : PF} {Q Q1 : PV → PF → PF → Prop} (hs : Shp R) (e1 : d1 + 1 ≤ d) (hc : CN X d1 mX5_isSign [(2, 67), (0, 42)] I R Q1) (h : ∀ z I2 R2, Q1 (0, z) I2 R2 → PN X d mX3_product 51 [(2, 71), (0, x1)] [(0, z)] I2 R2 Q) : PN X d mX3_product 42 [(2, 71), (0, x1)] [] I R Q := by
  refine P_aload_n (n := 0) (q := 43) rfl rfl (by decide +kernel) ?_
  refine B_getfR (q := 46) fX3_18 kM71 (rM71_0 hs) rfl (by decide +kernel) ?_
  refine P_bipush (n := 42) (q := 48) rfl rfl (by decide +kernel) ?_
  refine P_invV (As := [(0, 42)]) (q := 51) oX5_isSign rfl kM67 kX3_117 e1 hMF (Nat.le_of_ble_eq_true rfl) hc rfl (by decide +kernel) (fun z I2 R2 hq => ?_)
  exact (h z I2 R2 hq)
theorem S_X3_product_51 {X : CX} {d : Nat} {x1 o0 : Int} {I R : PF} {Q : PV → PF → PF → Prop} (c1 : -2147483648 ≤ o0 ∧ o0 < 2147483648) (h1 : o0 = 0 → PN X d mX3_product 59 [(2, 71), (0, x1)] [] I R Q) (h2 : o0 ≠ 0 → PN X d mX3_product 54 [(2, 71), (0, x1)] [] I R Q) : PN X d mX3_product 51 [(2, 71), (0, x1)] [(0, o0)] I R Q := by
  refine B_if_eq (off := 8) (t := 59) (q := 54) c1 (by decide) rfl (by decide +kernel) ?_ ?_
  · exact fun g9 => (h1 g9)
  · exact fun g9 => (h2 g9)
theorem S_X3_product_54 {X : CX} {d : Nat} {x1 : Int} {I R : PF} {Q : PV → PF → PF → Prop} (h : PN X d mX3_product 61 [(2, 71), (0, x1)] [(0, (-22))] I R Q) : PN X d mX3_product 54 [(2, 71), (0, x1)] [] I R Q := by
  refine P_bipush (n := (-22)) (q := 56) rfl rfl (by decide +kernel) ?_
  refine P_goto (off := 5) (t := 61) (by decide) (by decide +kernel) ?_
  exact h
theorem S_X3_product_59 {X : CX} {d : Nat} {x1 : Int} {I R : PF} {Q : PV → PF → PF → Prop} (h : PN X d mX3_product 61 [(2, 71), (0, x1)] [(0, (-23))] I R Q) : PN X d mX3_product 59 [(2, 71), (0, x1)] [] I R Q := by
  refine P_bipush (n := (-23)) (q := 61) rfl rfl (by decide +kernel) ?_
  exact h
theorem S_X3_product_61 {X : CX} {d d1 : Nat} {x1 o0 : Int} {I R : PF} {Q Q1 : PV → PF → PF → Prop} (hs : Shp R) (e1 : d1 + 1 ≤ d) (hc : CN X d1 mX5_advance [(2, 67)] I R Q1) (h : ∀ z I2 R2, Q1 (9, z) I2 R2 → PN X d mX3_product 69 [(2, 71), (0, x1), (0, o0)] [] I2 R2 Q) : PN X d mX3_product 61 [(2, 71), (0, x1)] [(0, o0)] I R Q := by
  refine P_istore_n (n := 2) (by decide) (q := 62) rfl (by decide +kernel) ?_
  refine P_aload_n (n := 0) (q := 63) rfl rfl (by decide +kernel) ?_
  refine B_getfR (q := 66) fX3_18 kM71 (rM71_0 hs) rfl (by decide +kernel) ?_
  refine P_invV (As := []) (q := 69) oX5_advance rfl kM67 kX3_79 e1 hMF (Nat.le_of_ble_eq_true rfl) hc rfl (by decide +kernel) (fun z I2 R2 hq => ?_)
  exact (h z I2 R2 hq)
theorem S_X3_product_69 {X : CX} {d d1 : Nat} {x1 x2 : Int} {I R : PF} {Q Q1 : PV → PF → PF → Prop} (e1 : d1 + 1 ≤ d) (hc : CN X d1 mX3_part [(2, 71)] I R Q1) (h : ∀ z I2 R2, Q1 (0, z) I2 R2 → PN X d mX3_product 73 [(2, 71), (0, x1), (0, x2)] [(0, z)] I2 R2 Q) : PN X d mX3_product 69 [(2, 71), (0, x1), (0, x2)] [] I R Q := by
  refine P_aload_n (n := 0) (q := 70) rfl rfl (by decide +kernel) ?_
  refine P_invV (As := []) (q := 73) oX3_part rfl kM71 kX3_134 e1 hMF (Nat.le_of_ble_eq_true rfl) hc rfl (by decide +kernel) (fun z I2 R2 hq => ?_)
  exact (h z I2 R2 hq)
theorem S_X3_product_73 {X : CX} {d : Nat} {x1 x2 o0 : Int} {I R : PF} {Q : PV → PF → PF → Prop} (c1 : -2147483648 ≤ o0 ∧ o0 < 2147483648) (h1 : o0 ≠ 0 → PN X d mX3_product 78 [(2, 71), (0, x1), (0, x2)] [] I R Q) (h2 : o0 = 0 → PN X d mX3_product 76 [] [] I R Q) : PN X d mX3_product 73 [(2, 71), (0, x1), (0, x2)] [(0, o0)] I R Q := by
  refine B_if_ne (off := 5) (t := 78) (q := 76) c1 (by decide) rfl (by decide +kernel) ?_ ?_
  · exact fun g9 => (h1 g9)
  · exact fun g9 => (PW_sub (ls' := []) trivial (h2 g9))
theorem S_X3_product_76 {X : CX} {d : Nat} {I R : PF} {Q : PV → PF → PF → Prop} (h : Q (0, 0) I R) : PN X d mX3_product 76 [] [] I R Q := by
  refine P_iconst (n := 0) (q := 77) rfl (by decide +kernel) ?_
  refine P_zret rfl (Or.inl rfl) (by decide +kernel) h
theorem S_X3_product_78 {X : CX} {d d1 : Nat} {x1 x2 t1 : Int} {I R : PF} {Q Q1 : PV → PF → PF → Prop} (r1 : R 71 1 = t1) (e1 : d1 + 1 ≤ d) (hc : CN X d1 mX2_add [(2, t1), (0, x2)] I R Q1) (k1 : kd MF t1 = 2) (h : ∀ z I2 R2, Q1 (9, z) I2 R2 → PN X d mX3_product 86 [(2, 71), (0, x1)] [] I2 R2 Q) : PN X d mX3_product 78 [(2, 71), (0, x1), (0, x2)] [] I R Q := by
  refine P_aload_n (n := 0) (q := 79) rfl rfl (by decide +kernel) ?_
  refine B_getfR (q := 82) fX3_22 kM71 r1 rfl (by decide +kernel) ?_
  refine P_iload_n (n := 2) (q := 83) rfl rfl (by decide +kernel) ?_
  refine P_invV (As := [(0, x2)]) (q := 86) oX2_add rfl k1 kX3_102 e1 hMF (Nat.le_of_ble_eq_true rfl) hc rfl (by decide +kernel) (fun z I2 R2 hq => ?_)
  exact (PW_sub (ls' := [(2, 71), (0, x1)]) ⟨Or.inr rfl, Or.inr rfl, trivial⟩ (h z I2 R2 hq))
theorem S_X3_product_86 {X : CX} {d : Nat} {x1 : Int} {I R : PF} {Q : PV → PF → PF → Prop} (h : PN X d mX3_product 11 [(2, 71), (0, (x1 + 1))] [] I R Q) : PN X d mX3_product 86 [(2, 71), (0, x1)] [] I R Q := by
  refine P_iinc (n := 1) (a := 1) (by decide) rfl (q := 89) rfl (by decide +kernel) ?_
  refine P_goto (off := (-78)) (t := 11) (by decide) (by decide +kernel) ?_
  exact (PW_sub (ls' := [(2, 71), (0, (x1 + 1))]) ⟨Or.inr rfl, Or.inr rfl, trivial⟩ h)
theorem S_X3_product_92 {X : CX} {d : Nat} {I R : PF} {Q : PV → PF → PF → Prop} (h : Q (0, 1) I R) : PN X d mX3_product 92 [] [] I R Q := by
  refine P_iconst (n := 1) (q := 93) rfl (by decide +kernel) ?_
  refine P_zret rfl (Or.inr rfl) (by decide +kernel) h
theorem S_X3_readQuestion_0 {X : CX} {d d1 : Nat} {x1 a2 : Int} {I R : PF} {Q Q1 : PV → PF → PF → Prop} (hs : Shp R) (e1 : d1 + 1 ≤ d) (hc : CN X d1 mX5_start [(2, 67), (0, x1)] I R Q1) (h : ∀ z I2 R2, Q1 (9, z) I2 R2 → PN X d mX3_readQuestion 8 [(2, 71), (9, 0), (2, a2)] [] I2 R2 Q) : PN X d mX3_readQuestion 0 [(2, 71), (0, x1), (2, a2)] [] I R Q := by
  refine P_aload_n (n := 0) (q := 1) rfl rfl (by decide +kernel) ?_
  refine B_getfR (q := 4) fX3_18 kM71 (rM71_0 hs) rfl (by decide +kernel) ?_
  refine P_iload_n (n := 1) (q := 5) rfl rfl (by decide +kernel) ?_
  refine P_invV (As := [(0, x1)]) (q := 8) oX5_start rfl kM67 kX3_42 e1 hMF (Nat.le_of_ble_eq_true rfl) hc rfl (by decide +kernel) (fun z I2 R2 hq => ?_)
  exact (PW_sub (ls' := [(2, 71), (9, 0), (2, a2)]) ⟨Or.inr rfl, Or.inl rfl, Or.inr rfl, trivial⟩ (h z I2 R2 hq))
theorem S_X3_readQuestion_8 {X : CX} {d : Nat} {a2 t1 : Int} {I R : PF} {Q : PV → PF → PF → Prop} (hs : Shp R) (r1 : R 67 6 = t1) (c1 : 0 ≤ t1 ∧ t1 ≤ 37) (h1 : t1 = 32 → PN X d mX3_readQuestion 37 [(2, 71), (9, 0), (2, a2), (2, t1)] [] I R Q) (h2 : t1 ≠ 32 → PN X d mX3_readQuestion 23 [(2, 71), (9, 0), (2, a2), (2, t1)] [] I R Q) : PN X d mX3_readQuestion 8 [(2, 71), (9, 0), (2, a2)] [] I R Q := by
  refine P_aload_n (n := 0) (q := 9) rfl rfl (by decide +kernel) ?_
  refine B_getfR (q := 12) fX3_18 kM71 (rM71_0 hs) rfl (by decide +kernel) ?_
  refine B_getfR (q := 15) fX3_48 kM67 r1 rfl (by decide +kernel) ?_
  refine P_astore_n (n := 3) (by decide) (q := 16) rfl (by decide +kernel) ?_
  refine P_aload_n (n := 3) (q := 17) rfl rfl (by decide +kernel) ?_
  refine P_gets (o := 32) (q := 20) (fun _ _ h => zW (i := 31) (by decide) h) ⟨by decide, by decide⟩ gX3_52 rfl (by decide +kernel) ?_
  refine P_acmp_eq (off := 17) (t := 37) (q := 23) c1 ⟨by decide, by decide⟩ (by decide) rfl (by decide +kernel) ?_ ?_
  · exact fun g9 => (h1 g9)
  · exact fun g9 => (h2 g9)
theorem S_X3_readQuestion_23 {X : CX} {d : Nat} {a2 a3 : Int} {I R : PF} {Q : PV → PF → PF → Prop} (c1 : 0 ≤ a3 ∧ a3 ≤ 37) (h1 : a3 = 33 → PN X d mX3_readQuestion 37 [(2, 71), (9, 0), (2, a2), (2, a3)] [] I R Q) (h2 : a3 ≠ 33 → PN X d mX3_readQuestion 30 [(2, 71), (9, 0), (2, a2), (2, a3)] [] I R Q) : PN X d mX3_readQuestion 23 [(2, 71), (9, 0), (2, a2), (2, a3)] [] I R Q := by
  refine P_aload_n (n := 3) (q := 24) rfl rfl (by decide +kernel) ?_
  refine P_gets (o := 33) (q := 27) (fun _ _ h => zW (i := 32) (by decide) h) ⟨by decide, by decide⟩ gX3_57 rfl (by decide +kernel) ?_
  refine P_acmp_eq (off := 10) (t := 37) (q := 30) c1 ⟨by decide, by decide⟩ (by decide) rfl (by decide +kernel) ?_ ?_
  · exact fun g9 => (h1 g9)
  · exact fun g9 => (h2 g9)
theorem S_X3_readQuestion_30 {X : CX} {d : Nat} {a2 a3 : Int} {I R : PF} {Q : PV → PF → PF → Prop} (c1 : 0 ≤ a3 ∧ a3 ≤ 37) (h1 : a3 ≠ 34 → PN X d mX3_readQuestion 41 [(2, 71), (9, 0), (2, a2), (2, a3)] [] I R Q) (h2 : a3 = 34 → PN X d mX3_readQuestion 37 [(2, 71), (9, 0), (2, a2), (2, a3)] [] I R Q) : PN X d mX3_readQuestion 30 [(2, 71), (9, 0), (2, a2), (2, a3)] [] I R Q := by
  refine P_aload_n (n := 3) (q := 31) rfl rfl (by decide +kernel) ?_
  refine P_gets (o := 34) (q := 34) (fun _ _ h => zW (i := 33) (by decide) h) ⟨by decide, by decide⟩ gX3_60 rfl (by decide +kernel) ?_
  refine P_acmp_ne (off := 7) (t := 41) (q := 37) c1 ⟨by decide, by decide⟩ (by decide) rfl (by decide +kernel) ?_ ?_
  · exact fun g9 => (h1 g9)
  · exact fun g9 => (h2 g9)
theorem S_X3_readQuestion_37 {X : CX} {d : Nat} {a2 a3 : Int} {I R : PF} {Q : PV → PF → PF → Prop} (h : PN X d mX3_readQuestion 42 [(2, 71), (9, 0), (2, a2), (2, a3)] [(0, 1)] I R Q) : PN X d mX3_readQuestion 37 [(2, 71), (9, 0), (2, a2), (2, a3)] [] I R Q := by
  refine P_iconst (n := 1) (q := 38) rfl (by decide +kernel) ?_
  refine P_goto (off := 4) (t := 42) (by decide) (by decide +kernel) ?_
  exact h
theorem S_X3_readQuestion_41 {X : CX} {d : Nat} {a2 a3 : Int} {I R : PF} {Q : PV → PF → PF → Prop} (h : PN X d mX3_readQuestion 42 [(2, 71), (9, 0), (2, a2), (2, a3)] [(0, 0)] I R Q) : PN X d mX3_readQuestion 41 [(2, 71), (9, 0), (2, a2), (2, a3)] [] I R Q := by
  refine P_iconst (n := 0) (q := 42) rfl (by decide +kernel) ?_
  exact h
theorem S_X3_readQuestion_42 {X : CX} {d : Nat} {a2 a3 o0 : Int} {I R : PF} {Q : PV → PF → PF → Prop} (c1 : 0 ≤ a3 ∧ a3 ≤ 37) (h1 : a3 = 35 → PN X d mX3_readQuestion 65 [(2, 71), (9, 0), (2, a2), (2, a3), (0, o0)] [] I R Q) (h2 : a3 ≠ 35 → PN X d mX3_readQuestion 51 [(2, 71), (9, 0), (2, a2), (2, a3), (0, o0)] [] I R Q) : PN X d mX3_readQuestion 42 [(2, 71), (9, 0), (2, a2), (2, a3)] [(0, o0)] I R Q := by
  refine P_istore (n := 4) (by decide) (q := 44) rfl (by decide +kernel) ?_
  refine P_aload_n (n := 3) (q := 45) rfl rfl (by decide +kernel) ?_
  refine P_gets (o := 35) (q := 48) (fun _ _ h => zW (i := 34) (by decide) h) ⟨by decide, by decide⟩ gX3_63 rfl (by decide +kernel) ?_
  refine P_acmp_eq (off := 17) (t := 65) (q := 51) c1 ⟨by decide, by decide⟩ (by decide) rfl (by decide +kernel) ?_ ?_
  · exact fun g9 => (h1 g9)
  · exact fun g9 => (h2 g9)
theorem S_X3_readQuestion_51 {X : CX} {d : Nat} {a2 a3 x4 : Int} {I R : PF} {Q : PV → PF → PF → Prop} (c1 : 0 ≤ a3 ∧ a3 ≤ 37) (h1 : a3 = 36 → PN X d mX3_readQuestion 65 [(2, 71), (9, 0), (2, a2), (2, a3), (0, x4)] [] I R Q) (h2 : a3 ≠ 36 → PN X d mX3_readQuestion 58 [(2, 71), (9, 0), (2, a2), (2, a3), (0, x4)] [] I R Q) : PN X d mX3_readQuestion 51 [(2, 71), (9, 0), (2, a2), (2, a3), (0, x4)] [] I R Q := by
  refine P_aload_n (n := 3) (q := 52) rfl rfl (by decide +kernel) ?_
  refine P_gets (o := 36) (q := 55) (fun _ _ h => zW (i := 35) (by decide) h) ⟨by decide, by decide⟩ gX3_66 rfl (by decide +kernel) ?_
  refine P_acmp_eq (off := 10) (t := 65) (q := 58) c1 ⟨by decide, by decide⟩ (by decide) rfl (by decide +kernel) ?_ ?_
  · exact fun g9 => (h1 g9)
  · exact fun g9 => (h2 g9)
theorem S_X3_readQuestion_58 {X : CX} {d : Nat} {a2 a3 x4 : Int} {I R : PF} {Q : PV → PF → PF → Prop} (c1 : 0 ≤ a3 ∧ a3 ≤ 37) (h1 : a3 ≠ 37 → PN X d mX3_readQuestion 69 [(2, 71), (9, 0), (2, a2), (2, a3), (0, x4)] [] I R Q) (h2 : a3 = 37 → PN X d mX3_readQuestion 65 [(2, 71), (9, 0), (2, a2), (2, a3), (0, x4)] [] I R Q) : PN X d mX3_readQuestion 58 [(2, 71), (9, 0), (2, a2), (2, a3), (0, x4)] [] I R Q := by
  refine P_aload_n (n := 3) (q := 59) rfl rfl (by decide +kernel) ?_
  refine P_gets (o := 37) (q := 62) (fun _ _ h => zW (i := 36) (by decide) h) ⟨by decide, by decide⟩ gX3_69 rfl (by decide +kernel) ?_
  refine P_acmp_ne (off := 7) (t := 69) (q := 65) c1 ⟨by decide, by decide⟩ (by decide) rfl (by decide +kernel) ?_ ?_
  · exact fun g9 => (h1 g9)
  · exact fun g9 => (h2 g9)
theorem S_X3_readQuestion_65 {X : CX} {d : Nat} {a2 a3 x4 : Int} {I R : PF} {Q : PV → PF → PF → Prop} (h : PN X d mX3_readQuestion 70 [(2, 71), (9, 0), (2, a2), (2, a3), (0, x4)] [(0, 1)] I R Q) : PN X d mX3_readQuestion 65 [(2, 71), (9, 0), (2, a2), (2, a3), (0, x4)] [] I R Q := by
  refine P_iconst (n := 1) (q := 66) rfl (by decide +kernel) ?_
  refine P_goto (off := 4) (t := 70) (by decide) (by decide +kernel) ?_
  exact h
theorem S_X3_readQuestion_69 {X : CX} {d : Nat} {a2 a3 x4 : Int} {I R : PF} {Q : PV → PF → PF → Prop} (h : PN X d mX3_readQuestion 70 [(2, 71), (9, 0), (2, a2), (2, a3), (0, x4)] [(0, 0)] I R Q) : PN X d mX3_readQuestion 69 [(2, 71), (9, 0), (2, a2), (2, a3), (0, x4)] [] I R Q := by
  refine P_iconst (n := 0) (q := 70) rfl (by decide +kernel) ?_
  exact h
theorem S_X3_readQuestion_70 {X : CX} {d : Nat} {a2 a3 x4 o0 : Int} {I R : PF} {Q : PV → PF → PF → Prop} (c1 : -2147483648 ≤ x4 ∧ x4 < 2147483648) (h1 : x4 ≠ 0 → PN X d mX3_readQuestion 100 [(2, 71), (9, 0), (2, a2), (2, a3), (0, x4)] [] I R Q) (h2 : x4 = 0 → PN X d mX3_readQuestion 77 [(2, 71), (9, 0), (2, a2), (2, a3), (0, x4), (0, o0)] [] I R Q) : PN X d mX3_readQuestion 70 [(2, 71), (9, 0), (2, a2), (2, a3), (0, x4)] [(0, o0)] I R Q := by
  refine P_istore (n := 5) (by decide) (q := 72) rfl (by decide +kernel) ?_
  refine P_iload (n := 4) (q := 74) rfl rfl (by decide +kernel) ?_
  refine B_if_ne (off := 26) (t := 100) (q := 77) c1 (by decide) rfl (by decide +kernel) ?_ ?_
  · exact fun g9 => (PW_sub (ls' := [(2, 71), (9, 0), (2, a2), (2, a3), (0, x4)]) ⟨Or.inr rfl, Or.inl rfl, Or.inr rfl, Or.inr rfl, Or.inr rfl, trivial⟩ (h1 g9))
  · exact fun g9 => (h2 g9)
theorem S_X3_readQuestion_77 {X : CX} {d : Nat} {a2 a3 x4 x5 : Int} {I R : PF} {Q : PV → PF → PF → Prop} (c1 : -2147483648 ≤ x5 ∧ x5 < 2147483648) (h1 : x5 ≠ 0 → PN X d mX3_readQuestion 100 [(2, 71), (9, 0), (2, a2), (2, a3), (0, x4)] [] I R Q) (h2 : x5 = 0 → PN X d mX3_readQuestion 82 [(2, 71), (9, 0), (9, 0), (2, a3)] [] I R Q) : PN X d mX3_readQuestion 77 [(2, 71), (9, 0), (2, a2), (2, a3), (0, x4), (0, x5)] [] I R Q := by
  refine P_iload (n := 5) (q := 79) rfl rfl (by decide +kernel) ?_
  refine B_if_ne (off := 21) (t := 100) (q := 82) c1 (by decide) rfl (by decide +kernel) ?_ ?_
  · exact fun g9 => (PW_sub (ls' := [(2, 71), (9, 0), (2, a2), (2, a3), (0, x4)]) ⟨Or.inr rfl, Or.inl rfl, Or.inr rfl, Or.inr rfl, Or.inr rfl, trivial⟩ (h1 g9))
  · exact fun g9 => (PW_sub (ls' := [(2, 71), (9, 0), (9, 0), (2, a3)]) ⟨Or.inr rfl, Or.inl rfl, Or.inl rfl, Or.inr rfl, trivial⟩ (h2 g9))
theorem S_X3_readQuestion_82 {X : CX} {d d1 : Nat} {a3 : Int} {I R : PF} {Q Q1 : PV → PF → PF → Prop} (hs : Shp R) (e1 : d1 + 1 ≤ d) (hc : CN X d1 mX5_refuse [(2, 67), (0, 1), (0, (I 67 3))] I R Q1) (h : ∀ z I2 R2, Q1 (0, z) I2 R2 → PN X d mX3_readQuestion 97 [(9, 0), (9, 0), (9, 0), (2, a3)] [(0, z)] I2 R2 Q) : PN X d mX3_readQuestion 82 [(2, 71), (9, 0), (9, 0), (2, a3)] [] I R Q := by
  refine P_aload_n (n := 0) (q := 83) rfl rfl (by decide +kernel) ?_
  refine B_getfR (q := 86) fX3_18 kM71 (rM71_0 hs) rfl (by decide +kernel) ?_
  refine P_iconst (n := 1) (q := 87) rfl (by decide +kernel) ?_
  refine P_aload_n (n := 0) (q := 88) rfl rfl (by decide +kernel) ?_
  refine B_getfR (q := 91) fX3_18 kM71 (rM71_0 hs) rfl (by decide +kernel) ?_
  refine P_getf (q := 94) fX3_72 kM67 rfl (by decide +kernel) ?_
  refine P_invV (As := [(0, 1), (0, (I 67 3))]) (q := 97) oX5_refuse rfl kM67 kX3_75 e1 hMF (Nat.le_of_ble_eq_true rfl) hc rfl (by decide +kernel) (fun z I2 R2 hq => ?_)
  exact (PW_sub (ls' := [(9, 0), (9, 0), (9, 0), (2, a3)]) ⟨Or.inl rfl, Or.inl rfl, Or.inl rfl, Or.inr rfl, trivial⟩ (h z I2 R2 hq))
theorem S_X3_readQuestion_97 {X : CX} {d : Nat} {a3 o0 : Int} {I R : PF} {Q : PV → PF → PF → Prop} (z1 : a3 ≠ 0) (h : Q (2, a3) I R) : PN X d mX3_readQuestion 97 [(9, 0), (9, 0), (9, 0), (2, a3)] [(0, o0)] I R Q := by
  refine P_pop (q := 98) (Nat.ne_of_beq_eq_false rfl) rfl (by decide +kernel) ?_
  refine P_aload_n (n := 3) (q := 99) rfl rfl (by decide +kernel) ?_
  refine P_aret rfl z1 (by decide +kernel) h
theorem S_X3_readQuestion_100 {X : CX} {d d1 : Nat} {a2 a3 x4 : Int} {I R : PF} {Q Q1 : PV → PF → PF → Prop} (hs : Shp R) (e1 : d1 + 1 ≤ d) (hc : CN X d1 mX5_advance [(2, 67)] I R Q1) (h : ∀ z I2 R2, Q1 (9, z) I2 R2 → PN X d mX3_readQuestion 107 [(2, 71), (9, 0), (2, a2), (2, a3), (0, x4)] [] I2 R2 Q) : PN X d mX3_readQuestion 100 [(2, 71), (9, 0), (2, a2), (2, a3), (0, x4)] [] I R Q := by
  refine P_aload_n (n := 0) (q := 101) rfl rfl (by decide +kernel) ?_
  refine B_getfR (q := 104) fX3_18 kM71 (rM71_0 hs) rfl (by decide +kernel) ?_
  refine P_invV (As := []) (q := 107) oX5_advance rfl kM67 kX3_79 e1 hMF (Nat.le_of_ble_eq_true rfl) hc rfl (by decide +kernel) (fun z I2 R2 hq => ?_)
  exact (PW_sub (ls' := [(2, 71), (9, 0), (2, a2), (2, a3), (0, x4)]) ⟨Or.inr rfl, Or.inl rfl, Or.inr rfl, Or.inr rfl, Or.inr rfl, trivial⟩ (h z I2 R2 hq))
theorem S_X3_readQuestion_107 {X : CX} {d : Nat} {a2 a3 x4 : Int} {I R : PF} {Q : PV → PF → PF → Prop} (c1 : -2147483648 ≤ x4 ∧ x4 < 2147483648) (h1 : x4 = 0 → PN X d mX3_readQuestion 121 [(2, 71), (9, 0), (2, a2), (2, a3)] [] I R Q) (h2 : x4 ≠ 0 → PN X d mX3_readQuestion 112 [(2, 71), (9, 0), (2, a2), (2, a3)] [] I R Q) : PN X d mX3_readQuestion 107 [(2, 71), (9, 0), (2, a2), (2, a3), (0, x4)] [] I R Q := by
  refine P_iload (n := 4) (q := 109) rfl rfl (by decide +kernel) ?_
  refine B_if_eq (off := 12) (t := 121) (q := 112) c1 (by decide) rfl (by decide +kernel) ?_ ?_
  · exact fun g9 => (PW_sub (ls' := [(2, 71), (9, 0), (2, a2), (2, a3)]) ⟨Or.inr rfl, Or.inl rfl, Or.inr rfl, Or.inr rfl, trivial⟩ (h1 g9))
  · exact fun g9 => (PW_sub (ls' := [(2, 71), (9, 0), (2, a2), (2, a3)]) ⟨Or.inr rfl, Or.inl rfl, Or.inr rfl, Or.inr rfl, trivial⟩ (h2 g9))
theorem S_X3_readQuestion_112 {X : CX} {d d1 : Nat} {a2 a3 : Int} {I R : PF} {Q Q1 : PV → PF → PF → Prop} (e1 : d1 + 1 ≤ d) (hc : CN X d1 mX3_readTest [(2, 71), (2, a2), (0, 4)] I R Q1) (h : ∀ z I2 R2, Q1 (0, z) I2 R2 → PN X d mX3_readQuestion 118 [(2, 71), (9, 0), (9, 0), (2, a3)] [(0, z)] I2 R2 Q) : PN X d mX3_readQuestion 112 [(2, 71), (9, 0), (2, a2), (2, a3)] [] I R Q := by
  refine P_aload_n (n := 0) (q := 113) rfl rfl (by decide +kernel) ?_
  refine P_aload_n (n := 2) (q := 114) rfl rfl (by decide +kernel) ?_
  refine P_iconst (n := 4) (q := 115) rfl (by decide +kernel) ?_
  refine P_invV (As := [(2, a2), (0, 4)]) (q := 118) oX3_readTest rfl kM71 kX3_82 e1 hMF (Nat.le_of_ble_eq_true rfl) hc rfl (by decide +kernel) (fun z I2 R2 hq => ?_)
  exact (PW_sub (ls' := [(2, 71), (9, 0), (9, 0), (2, a3)]) ⟨Or.inr rfl, Or.inl rfl, Or.inl rfl, Or.inr rfl, trivial⟩ (h z I2 R2 hq))
theorem S_X3_readQuestion_118 {X : CX} {d : Nat} {a3 o0 : Int} {I R : PF} {Q : PV → PF → PF → Prop} (h : PN X d mX3_readQuestion 127 [(2, 71), (9, 0), (9, 0), (2, a3)] [(0, o0)] I R Q) : PN X d mX3_readQuestion 118 [(2, 71), (9, 0), (9, 0), (2, a3)] [(0, o0)] I R Q := by
  refine P_goto (off := 9) (t := 127) (by decide) (by decide +kernel) ?_
  exact (PW_sub (ls' := [(2, 71), (9, 0), (9, 0), (2, a3)]) ⟨Or.inr rfl, Or.inl rfl, Or.inl rfl, Or.inr rfl, trivial⟩ h)
theorem S_X3_readQuestion_121 {X : CX} {d d1 : Nat} {a2 a3 : Int} {I R : PF} {Q Q1 : PV → PF → PF → Prop} (e1 : d1 + 1 ≤ d) (hc : CN X d1 mX3_readSum [(2, 71), (2, a2), (0, 4)] I R Q1) (h : ∀ z I2 R2, Q1 (0, z) I2 R2 → PN X d mX3_readQuestion 127 [(2, 71), (9, 0), (9, 0), (2, a3)] [(0, z)] I2 R2 Q) : PN X d mX3_readQuestion 121 [(2, 71), (9, 0), (2, a2), (2, a3)] [] I R Q := by
  refine P_aload_n (n := 0) (q := 122) rfl rfl (by decide +kernel) ?_
  refine P_aload_n (n := 2) (q := 123) rfl rfl (by decide +kernel) ?_
  refine P_iconst (n := 4) (q := 124) rfl (by decide +kernel) ?_
  refine P_invV (As := [(2, a2), (0, 4)]) (q := 127) oX3_readSum rfl kM71 kX3_86 e1 hMF (Nat.le_of_ble_eq_true rfl) hc rfl (by decide +kernel) (fun z I2 R2 hq => ?_)
  exact (PW_sub (ls' := [(2, 71), (9, 0), (9, 0), (2, a3)]) ⟨Or.inr rfl, Or.inl rfl, Or.inl rfl, Or.inr rfl, trivial⟩ (h z I2 R2 hq))
theorem S_X3_readQuestion_127 {X : CX} {d : Nat} {a3 o0 : Int} {I R : PF} {Q : PV → PF → PF → Prop} (c1 : -2147483648 ≤ o0 ∧ o0 < 2147483648) (h1 : o0 = 0 → PN X d mX3_readQuestion 160 [(9, 0), (9, 0), (9, 0), (2, a3)] [] I R Q) (h2 : o0 ≠ 0 → PN X d mX3_readQuestion 134 [(2, 71), (9, 0), (9, 0), (2, a3)] [] I R Q) : PN X d mX3_readQuestion 127 [(2, 71), (9, 0), (9, 0), (2, a3)] [(0, o0)] I R Q := by
  refine P_istore (n := 6) (by decide) (q := 129) rfl (by decide +kernel) ?_
  refine P_iload (n := 6) (q := 131) rfl rfl (by decide +kernel) ?_
  refine B_if_eq (off := 29) (t := 160) (q := 134) c1 (by decide) rfl (by decide +kernel) ?_ ?_
  · exact fun g9 => (PW_sub (ls' := [(9, 0), (9, 0), (9, 0), (2, a3)]) ⟨Or.inl rfl, Or.inl rfl, Or.inl rfl, Or.inr rfl, trivial⟩ (h1 g9))
  · exact fun g9 => (PW_sub (ls' := [(2, 71), (9, 0), (9, 0), (2, a3)]) ⟨Or.inr rfl, Or.inl rfl, Or.inl rfl, Or.inr rfl, trivial⟩ (h2 g9))
theorem S_X3_readQuestion_134 {X : CX} {d d1 : Nat} {a3 : Int} {I R : PF} {Q Q1 : PV → PF → PF → Prop} (hs : Shp R) (e1 : d1 + 1 ≤ d) (hc : CN X d1 mX5_isAtEnd [(2, 67)] I R Q1) (h : ∀ z I2 R2, Q1 (0, z) I2 R2 → PN X d mX3_readQuestion 141 [(2, 71), (9, 0), (9, 0), (2, a3)] [(0, z)] I2 R2 Q) : PN X d mX3_readQuestion 134 [(2, 71), (9, 0), (9, 0), (2, a3)] [] I R Q := by
  refine P_aload_n (n := 0) (q := 135) rfl rfl (by decide +kernel) ?_
  refine B_getfR (q := 138) fX3_18 kM71 (rM71_0 hs) rfl (by decide +kernel) ?_
  refine P_invV (As := []) (q := 141) oX5_isAtEnd rfl kM67 kX3_89 e1 hMF (Nat.le_of_ble_eq_true rfl) hc rfl (by decide +kernel) (fun z I2 R2 hq => ?_)
  exact (PW_sub (ls' := [(2, 71), (9, 0), (9, 0), (2, a3)]) ⟨Or.inr rfl, Or.inl rfl, Or.inl rfl, Or.inr rfl, trivial⟩ (h z I2 R2 hq))
theorem S_X3_readQuestion_141 {X : CX} {d : Nat} {a3 o0 : Int} {I R : PF} {Q : PV → PF → PF → Prop} (c1 : -2147483648 ≤ o0 ∧ o0 < 2147483648) (h1 : o0 ≠ 0 → PN X d mX3_readQuestion 160 [(9, 0), (9, 0), (9, 0), (2, a3)] [] I R Q) (h2 : o0 = 0 → PN X d mX3_readQuestion 144 [(2, 71), (9, 0), (9, 0), (2, a3)] [] I R Q) : PN X d mX3_readQuestion 141 [(2, 71), (9, 0), (9, 0), (2, a3)] [(0, o0)] I R Q := by
  refine B_if_ne (off := 19) (t := 160) (q := 144) c1 (by decide) rfl (by decide +kernel) ?_ ?_
  · exact fun g9 => (PW_sub (ls' := [(9, 0), (9, 0), (9, 0), (2, a3)]) ⟨Or.inl rfl, Or.inl rfl, Or.inl rfl, Or.inr rfl, trivial⟩ (h1 g9))
  · exact fun g9 => (PW_sub (ls' := [(2, 71), (9, 0), (9, 0), (2, a3)]) ⟨Or.inr rfl, Or.inl rfl, Or.inl rfl, Or.inr rfl, trivial⟩ (h2 g9))
theorem S_X3_readQuestion_144 {X : CX} {d d1 : Nat} {a3 : Int} {I R : PF} {Q Q1 : PV → PF → PF → Prop} (hs : Shp R) (e1 : d1 + 1 ≤ d) (hc : CN X d1 mX5_refuse [(2, 67), (0, 1), (0, (I 67 3))] I R Q1) (h : ∀ z I2 R2, Q1 (0, z) I2 R2 → PN X d mX3_readQuestion 159 [(9, 0), (9, 0), (9, 0), (2, a3)] [(0, z)] I2 R2 Q) : PN X d mX3_readQuestion 144 [(2, 71), (9, 0), (9, 0), (2, a3)] [] I R Q := by
  refine P_aload_n (n := 0) (q := 145) rfl rfl (by decide +kernel) ?_
  refine B_getfR (q := 148) fX3_18 kM71 (rM71_0 hs) rfl (by decide +kernel) ?_
  refine P_iconst (n := 1) (q := 149) rfl (by decide +kernel) ?_
  refine P_aload_n (n := 0) (q := 150) rfl rfl (by decide +kernel) ?_
  refine B_getfR (q := 153) fX3_18 kM71 (rM71_0 hs) rfl (by decide +kernel) ?_
  refine P_getf (q := 156) fX3_72 kM67 rfl (by decide +kernel) ?_
  refine P_invV (As := [(0, 1), (0, (I 67 3))]) (q := 159) oX5_refuse rfl kM67 kX3_75 e1 hMF (Nat.le_of_ble_eq_true rfl) hc rfl (by decide +kernel) (fun z I2 R2 hq => ?_)
  exact (PW_sub (ls' := [(9, 0), (9, 0), (9, 0), (2, a3)]) ⟨Or.inl rfl, Or.inl rfl, Or.inl rfl, Or.inr rfl, trivial⟩ (h z I2 R2 hq))
theorem S_X3_readQuestion_159 {X : CX} {d : Nat} {a3 o0 : Int} {I R : PF} {Q : PV → PF → PF → Prop} (h : PN X d mX3_readQuestion 160 [(9, 0), (9, 0), (9, 0), (2, a3)] [] I R Q) : PN X d mX3_readQuestion 159 [(9, 0), (9, 0), (9, 0), (2, a3)] [(0, o0)] I R Q := by
  refine P_pop (q := 160) (Nat.ne_of_beq_eq_false rfl) rfl (by decide +kernel) ?_
  exact (PW_sub (ls' := [(9, 0), (9, 0), (9, 0), (2, a3)]) ⟨Or.inl rfl, Or.inl rfl, Or.inl rfl, Or.inr rfl, trivial⟩ h)
theorem S_X3_readQuestion_160 {X : CX} {d : Nat} {a3 : Int} {I R : PF} {Q : PV → PF → PF → Prop} (z1 : a3 ≠ 0) (h : Q (2, a3) I R) : PN X d mX3_readQuestion 160 [(9, 0), (9, 0), (9, 0), (2, a3)] [] I R Q := by
  refine P_aload_n (n := 3) (q := 161) rfl rfl (by decide +kernel) ?_
  refine P_aret rfl z1 (by decide +kernel) h
theorem S_X3_readSum_0 {X : CX} {d d1 : Nat} {a1 x2 : Int} {I R : PF} {Q Q1 : PV → PF → PF → Prop} (e1 : d1 + 1 ≤ d) (hc : CN X d1 mX3_startAt [(2, 71), (2, a1), (0, x2)] I R Q1) (h : ∀ z I2 R2, Q1 (9, z) I2 R2 → PN X d mX3_readSum 6 [(2, 71)] [] I2 R2 Q) : PN X d mX3_readSum 0 [(2, 71), (2, a1), (0, x2)] [] I R Q := by
  refine P_aload_n (n := 0) (q := 1) rfl rfl (by decide +kernel) ?_
  refine P_aload_n (n := 1) (q := 2) rfl rfl (by decide +kernel) ?_
  refine P_iload_n (n := 2) (q := 3) rfl rfl (by decide +kernel) ?_
  refine P_invV (As := [(2, a1), (0, x2)]) (q := 6) oX3_startAt rfl kM71 kX3_26 e1 hMF (Nat.le_of_ble_eq_true rfl) hc rfl (by decide +kernel) (fun z I2 R2 hq => ?_)
  exact (PW_sub (ls' := [(2, 71)]) ⟨Or.inr rfl, trivial⟩ (h z I2 R2 hq))
theorem S_X3_readSum_6 {X : CX} {d d1 : Nat} {I R : PF} {Q Q1 : PV → PF → PF → Prop} (e1 : d1 + 1 ≤ d) (hc : CN X d1 mX3_sum [(2, 71)] I R Q1) (h : ∀ z I2 R2, Q1 (0, z) I2 R2 → PN X d mX3_readSum 10 [] [(0, z)] I2 R2 Q) : PN X d mX3_readSum 6 [(2, 71)] [] I R Q := by
  refine P_aload_n (n := 0) (q := 7) rfl rfl (by decide +kernel) ?_
  refine P_invV (As := []) (q := 10) oX3_sum rfl kM71 kX3_30 e1 hMF (Nat.le_of_ble_eq_true rfl) hc rfl (by decide +kernel) (fun z I2 R2 hq => ?_)
  exact (PW_sub (ls' := []) trivial (h z I2 R2 hq))
theorem S_X3_readSum_10 {X : CX} {d : Nat} {o0 : Int} {I R : PF} {Q : PV → PF → PF → Prop} (z1 : o0 = 0 ∨ o0 = 1) (h : Q (0, o0) I R) : PN X d mX3_readSum 10 [] [(0, o0)] I R Q := by
  refine P_zret rfl z1 (by decide +kernel) h
theorem S_X3_readTest_0 {X : CX} {d d1 : Nat} {a1 x2 : Int} {I R : PF} {Q Q1 : PV → PF → PF → Prop} (e1 : d1 + 1 ≤ d) (hc : CN X d1 mX3_startAt [(2, 71), (2, a1), (0, x2)] I R Q1) (h : ∀ z I2 R2, Q1 (9, z) I2 R2 → PN X d mX3_readTest 6 [(2, 71)] [] I2 R2 Q) : PN X d mX3_readTest 0 [(2, 71), (2, a1), (0, x2)] [] I R Q := by
  refine P_aload_n (n := 0) (q := 1) rfl rfl (by decide +kernel) ?_
  refine P_aload_n (n := 1) (q := 2) rfl rfl (by decide +kernel) ?_
  refine P_iload_n (n := 2) (q := 3) rfl rfl (by decide +kernel) ?_
  refine P_invV (As := [(2, a1), (0, x2)]) (q := 6) oX3_startAt rfl kM71 kX3_26 e1 hMF (Nat.le_of_ble_eq_true rfl) hc rfl (by decide +kernel) (fun z I2 R2 hq => ?_)
  exact (PW_sub (ls' := [(2, 71)]) ⟨Or.inr rfl, trivial⟩ (h z I2 R2 hq))
theorem S_X3_readTest_6 {X : CX} {d d1 : Nat} {I R : PF} {Q Q1 : PV → PF → PF → Prop} (e1 : d1 + 1 ≤ d) (hc : CN X d1 mX3_test [(2, 71)] I R Q1) (h : ∀ z I2 R2, Q1 (0, z) I2 R2 → PN X d mX3_readTest 10 [] [(0, z)] I2 R2 Q) : PN X d mX3_readTest 6 [(2, 71)] [] I R Q := by
  refine P_aload_n (n := 0) (q := 7) rfl rfl (by decide +kernel) ?_
  refine P_invV (As := []) (q := 10) oX3_test rfl kM71 kX3_34 e1 hMF (Nat.le_of_ble_eq_true rfl) hc rfl (by decide +kernel) (fun z I2 R2 hq => ?_)
  exact (PW_sub (ls' := []) trivial (h z I2 R2 hq))
theorem S_X3_readTest_10 {X : CX} {d : Nat} {o0 : Int} {I R : PF} {Q : PV → PF → PF → Prop} (z1 : o0 = 0 ∨ o0 = 1) (h : Q (0, o0) I R) : PN X d mX3_readTest 10 [] [(0, o0)] I R Q := by
  refine P_zret rfl z1 (by decide +kernel) h
theorem S_X3_startAt_0 {X : CX} {d d1 : Nat} {a1 x2 t1 : Int} {I R : PF} {Q Q1 : PV → PF → PF → Prop} (r1 : (u2 R 71 1 a1) 71 1 = t1) (e1 : d1 + 1 ≤ d) (hc : CN X d1 mX2_clear [(2, t1)] I (u2 R 71 1 a1) Q1) (k1 : kd MF t1 = 2) (h : ∀ z I2 R2, Q1 (9, z) I2 R2 → PN X d mX3_startAt 12 [(2, 71), (9, 0), (0, x2)] [] I2 R2 Q) : PN X d mX3_startAt 0 [(2, 71), (2, a1), (0, x2)] [] I R Q := by
  refine P_aload_n (n := 0) (q := 1) rfl rfl (by decide +kernel) ?_
  refine P_aload_n (n := 1) (q := 2) rfl rfl (by decide +kernel) ?_
  refine P_putR (q := 5) wX3_22 rfl (fun h => by cases h) kM71 rfl (by decide +kernel) ?_
  refine P_aload_n (n := 0) (q := 6) rfl rfl (by decide +kernel) ?_
  refine B_getfR (q := 9) fX3_22 kM71 r1 rfl (by decide +kernel) ?_
  refine P_invV (As := []) (q := 12) oX2_clear rfl k1 kX3_37 e1 hMF (Nat.le_of_ble_eq_true rfl) hc rfl (by decide +kernel) (fun z I2 R2 hq => ?_)
  exact (PW_sub (ls' := [(2, 71), (9, 0), (0, x2)]) ⟨Or.inr rfl, Or.inl rfl, Or.inr rfl, trivial⟩ (h z I2 R2 hq))
theorem S_X3_startAt_12 {X : CX} {d : Nat} {x2 : Int} {I R : PF} {Q : PV → PF → PF → Prop} (h : Q (9, 0) (u2 (u2 I 71 2 x2) 71 3 0) R) : PN X d mX3_startAt 12 [(2, 71), (9, 0), (0, x2)] [] I R Q := by
  refine P_aload_n (n := 0) (q := 13) rfl rfl (by decide +kernel) ?_
  refine P_iload_n (n := 2) (q := 14) rfl rfl (by decide +kernel) ?_
  refine P_putI (q := 17) wX3_9 (fun h => by cases h) kM71 rfl (by decide +kernel) ?_
  refine P_aload_n (n := 0) (q := 18) rfl rfl (by decide +kernel) ?_
  refine P_iconst (n := 0) (q := 19) rfl (by decide +kernel) ?_
  refine P_putI (q := 22) wX3_15 (fun h => by cases h) kM71 rfl (by decide +kernel) ?_
  refine P_vret rfl (by decide +kernel) h
theorem S_X3_sum_0 {X : CX} {d d1 : Nat} {I R : PF} {Q Q1 : PV → PF → PF → Prop} (e1 : d1 + 1 ≤ d) (hc : CN X d1 mX3_product [(2, 71)] I R Q1) (h : ∀ z I2 R2, Q1 (0, z) I2 R2 → PN X d mX3_sum 4 [(2, 71)] [(0, z)] I2 R2 Q) : PN X d mX3_sum 0 [(2, 71)] [] I R Q := by
  refine P_aload_n (n := 0) (q := 1) rfl rfl (by decide +kernel) ?_
  refine P_invV (As := []) (q := 4) oX3_product rfl kM71 kX3_131 e1 hMF (Nat.le_of_ble_eq_true rfl) hc rfl (by decide +kernel) (fun z I2 R2 hq => ?_)
  exact (h z I2 R2 hq)
theorem S_X3_sum_4 {X : CX} {d : Nat} {o0 : Int} {I R : PF} {Q : PV → PF → PF → Prop} (c1 : -2147483648 ≤ o0 ∧ o0 < 2147483648) (h1 : o0 ≠ 0 → PN X d mX3_sum 9 [(2, 71)] [] I R Q) (h2 : o0 = 0 → PN X d mX3_sum 7 [] [] I R Q) : PN X d mX3_sum 4 [(2, 71)] [(0, o0)] I R Q := by
  refine B_if_ne (off := 5) (t := 9) (q := 7) c1 (by decide) rfl (by decide +kernel) ?_ ?_
  · exact fun g9 => (h1 g9)
  · exact fun g9 => (PW_sub (ls' := []) trivial (h2 g9))
theorem S_X3_sum_7 {X : CX} {d : Nat} {I R : PF} {Q : PV → PF → PF → Prop} (h : Q (0, 0) I R) : PN X d mX3_sum 7 [] [] I R Q := by
  refine P_iconst (n := 0) (q := 8) rfl (by decide +kernel) ?_
  refine P_zret rfl (Or.inl rfl) (by decide +kernel) h
theorem S_X3_sum_9 {X : CX} {d : Nat} {I R : PF} {Q : PV → PF → PF → Prop} (h : PN X d mX3_sum 11 [(2, 71), (0, 0)] [] I R Q) : PN X d mX3_sum 9 [(2, 71)] [] I R Q := by
  refine P_iconst (n := 0) (q := 10) rfl (by decide +kernel) ?_
  refine P_istore_n (n := 1) (by decide) (q := 11) rfl (by decide +kernel) ?_
  exact h
theorem S_X3_sum_11 {X : CX} {d : Nat} {x1 : Int} {I R : PF} {Q : PV → PF → PF → Prop} (c1 : -2147483648 ≤ x1 ∧ x1 < 2147483648) (h1 : 1600 ≤ x1 → PN X d mX3_sum 92 [] [] I R Q) (h2 : x1 < 1600 → PN X d mX3_sum 18 [(2, 71), (0, x1)] [] I R Q) : PN X d mX3_sum 11 [(2, 71), (0, x1)] [] I R Q := by
  refine P_iload_n (n := 1) (q := 12) rfl rfl (by decide +kernel) ?_
  refine P_sipush (n := 1600) (q := 15) rfl rfl (by decide +kernel) ?_
  refine B_icmp_ge (off := 77) (t := 92) (q := 18) c1 ⟨by decide, by decide⟩ (by decide) rfl (by decide +kernel) ?_ ?_
  · exact fun g9 => (PW_sub (ls' := []) trivial (h1 g9))
  · exact fun g9 => (h2 g9)
theorem S_X3_sum_18 {X : CX} {d d1 : Nat} {x1 : Int} {I R : PF} {Q Q1 : PV → PF → PF → Prop} (hs : Shp R) (e1 : d1 + 1 ≤ d) (hc : CN X d1 mX5_isSign [(2, 67), (0, 43)] I R Q1) (h : ∀ z I2 R2, Q1 (0, z) I2 R2 → PN X d mX3_sum 27 [(2, 71), (0, x1)] [(0, z)] I2 R2 Q) : PN X d mX3_sum 18 [(2, 71), (0, x1)] [] I R Q := by
  refine P_aload_n (n := 0) (q := 19) rfl rfl (by decide +kernel) ?_
  refine B_getfR (q := 22) fX3_18 kM71 (rM71_0 hs) rfl (by decide +kernel) ?_
  refine P_bipush (n := 43) (q := 24) rfl rfl (by decide +kernel) ?_
  refine P_invV (As := [(0, 43)]) (q := 27) oX5_isSign rfl kM67 kX3_117 e1 hMF (Nat.le_of_ble_eq_true rfl) hc rfl (by decide +kernel) (fun z I2 R2 hq => ?_)
  exact (h z I2 R2 hq)
theorem S_X3_sum_27 {X : CX} {d : Nat} {x1 o0 : Int} {I R : PF} {Q : PV → PF → PF → Prop} (c1 : -2147483648 ≤ o0 ∧ o0 < 2147483648) (h1 : o0 ≠ 0 → PN X d mX3_sum 42 [(2, 71), (0, x1)] [] I R Q) (h2 : o0 = 0 → PN X d mX3_sum 30 [(2, 71), (0, x1)] [] I R Q) : PN X d mX3_sum 27 [(2, 71), (0, x1)] [(0, o0)] I R Q := by
  refine B_if_ne (off := 15) (t := 42) (q := 30) c1 (by decide) rfl (by decide +kernel) ?_ ?_
  · exact fun g9 => (h1 g9)
  · exact fun g9 => (h2 g9)
theorem S_X3_sum_30 {X : CX} {d d1 : Nat} {x1 : Int} {I R : PF} {Q Q1 : PV → PF → PF → Prop} (hs : Shp R) (e1 : d1 + 1 ≤ d) (hc : CN X d1 mX5_isSign [(2, 67), (0, 45)] I R Q1) (h : ∀ z I2 R2, Q1 (0, z) I2 R2 → PN X d mX3_sum 39 [(2, 71), (0, x1)] [(0, z)] I2 R2 Q) : PN X d mX3_sum 30 [(2, 71), (0, x1)] [] I R Q := by
  refine P_aload_n (n := 0) (q := 31) rfl rfl (by decide +kernel) ?_
  refine B_getfR (q := 34) fX3_18 kM71 (rM71_0 hs) rfl (by decide +kernel) ?_
  refine P_bipush (n := 45) (q := 36) rfl rfl (by decide +kernel) ?_
  refine P_invV (As := [(0, 45)]) (q := 39) oX5_isSign rfl kM67 kX3_117 e1 hMF (Nat.le_of_ble_eq_true rfl) hc rfl (by decide +kernel) (fun z I2 R2 hq => ?_)
  exact (h z I2 R2 hq)
theorem S_X3_sum_39 {X : CX} {d : Nat} {x1 o0 : Int} {I R : PF} {Q : PV → PF → PF → Prop} (c1 : -2147483648 ≤ o0 ∧ o0 < 2147483648) (h1 : o0 = 0 → PN X d mX3_sum 92 [] [] I R Q) (h2 : o0 ≠ 0 → PN X d mX3_sum 42 [(2, 71), (0, x1)] [] I R Q) : PN X d mX3_sum 39 [(2, 71), (0, x1)] [(0, o0)] I R Q := by
  refine B_if_eq (off := 53) (t := 92) (q := 42) c1 (by decide) rfl (by decide +kernel) ?_ ?_
  · exact fun g9 => (PW_sub (ls' := []) trivial (h1 g9))
  · exact fun g9 => (h2 g9)
theorem S_X3_sum_42 {X : CX} {d d1 : Nat} {x1 : Int} {I R : PF} {Q Q1 : PV → PF → PF → Prop} (hs : Shp R) (e1 : d1 + 1 ≤ d) (hc : CN X d1 mX5_isSign [(2, 67), (0, 43)] I R Q1) (h : ∀ z I2 R2, Q1 (0, z) I2 R2 → PN X d mX3_sum 51 [(2, 71), (0, x1)] [(0, z)] I2 R2 Q) : PN X d mX3_sum 42 [(2, 71), (0, x1)] [] I R Q := by
  refine P_aload_n (n := 0) (q := 43) rfl rfl (by decide +kernel) ?_
  refine B_getfR (q := 46) fX3_18 kM71 (rM71_0 hs) rfl (by decide +kernel) ?_
  refine P_bipush (n := 43) (q := 48) rfl rfl (by decide +kernel) ?_
  refine P_invV (As := [(0, 43)]) (q := 51) oX5_isSign rfl kM67 kX3_117 e1 hMF (Nat.le_of_ble_eq_true rfl) hc rfl (by decide +kernel) (fun z I2 R2 hq => ?_)
  exact (h z I2 R2 hq)
theorem S_X3_sum_51 {X : CX} {d : Nat} {x1 o0 : Int} {I R : PF} {Q : PV → PF → PF → Prop} (c1 : -2147483648 ≤ o0 ∧ o0 < 2147483648) (h1 : o0 = 0 → PN X d mX3_sum 59 [(2, 71), (0, x1)] [] I R Q) (h2 : o0 ≠ 0 → PN X d mX3_sum 54 [(2, 71), (0, x1)] [] I R Q) : PN X d mX3_sum 51 [(2, 71), (0, x1)] [(0, o0)] I R Q := by
  refine B_if_eq (off := 8) (t := 59) (q := 54) c1 (by decide) rfl (by decide +kernel) ?_ ?_
  · exact fun g9 => (h1 g9)
  · exact fun g9 => (h2 g9)
theorem S_X3_sum_54 {X : CX} {d : Nat} {x1 : Int} {I R : PF} {Q : PV → PF → PF → Prop} (h : PN X d mX3_sum 61 [(2, 71), (0, x1)] [(0, (-20))] I R Q) : PN X d mX3_sum 54 [(2, 71), (0, x1)] [] I R Q := by
  refine P_bipush (n := (-20)) (q := 56) rfl rfl (by decide +kernel) ?_
  refine P_goto (off := 5) (t := 61) (by decide) (by decide +kernel) ?_
  exact h
theorem S_X3_sum_59 {X : CX} {d : Nat} {x1 : Int} {I R : PF} {Q : PV → PF → PF → Prop} (h : PN X d mX3_sum 61 [(2, 71), (0, x1)] [(0, (-21))] I R Q) : PN X d mX3_sum 59 [(2, 71), (0, x1)] [] I R Q := by
  refine P_bipush (n := (-21)) (q := 61) rfl rfl (by decide +kernel) ?_
  exact h
theorem S_X3_sum_61 {X : CX} {d d1 : Nat} {x1 o0 : Int} {I R : PF} {Q Q1 : PV → PF → PF → Prop} (hs : Shp R) (e1 : d1 + 1 ≤ d) (hc : CN X d1 mX5_advance [(2, 67)] I R Q1) (h : ∀ z I2 R2, Q1 (9, z) I2 R2 → PN X d mX3_sum 69 [(2, 71), (0, x1), (0, o0)] [] I2 R2 Q) : PN X d mX3_sum 61 [(2, 71), (0, x1)] [(0, o0)] I R Q := by
  refine P_istore_n (n := 2) (by decide) (q := 62) rfl (by decide +kernel) ?_
  refine P_aload_n (n := 0) (q := 63) rfl rfl (by decide +kernel) ?_
  refine B_getfR (q := 66) fX3_18 kM71 (rM71_0 hs) rfl (by decide +kernel) ?_
  refine P_invV (As := []) (q := 69) oX5_advance rfl kM67 kX3_79 e1 hMF (Nat.le_of_ble_eq_true rfl) hc rfl (by decide +kernel) (fun z I2 R2 hq => ?_)
  exact (h z I2 R2 hq)
theorem S_X3_sum_69 {X : CX} {d d1 : Nat} {x1 x2 : Int} {I R : PF} {Q Q1 : PV → PF → PF → Prop} (e1 : d1 + 1 ≤ d) (hc : CN X d1 mX3_product [(2, 71)] I R Q1) (h : ∀ z I2 R2, Q1 (0, z) I2 R2 → PN X d mX3_sum 73 [(2, 71), (0, x1), (0, x2)] [(0, z)] I2 R2 Q) : PN X d mX3_sum 69 [(2, 71), (0, x1), (0, x2)] [] I R Q := by
  refine P_aload_n (n := 0) (q := 70) rfl rfl (by decide +kernel) ?_
  refine P_invV (As := []) (q := 73) oX3_product rfl kM71 kX3_131 e1 hMF (Nat.le_of_ble_eq_true rfl) hc rfl (by decide +kernel) (fun z I2 R2 hq => ?_)
  exact (h z I2 R2 hq)
theorem S_X3_sum_73 {X : CX} {d : Nat} {x1 x2 o0 : Int} {I R : PF} {Q : PV → PF → PF → Prop} (c1 : -2147483648 ≤ o0 ∧ o0 < 2147483648) (h1 : o0 ≠ 0 → PN X d mX3_sum 78 [(2, 71), (0, x1), (0, x2)] [] I R Q) (h2 : o0 = 0 → PN X d mX3_sum 76 [] [] I R Q) : PN X d mX3_sum 73 [(2, 71), (0, x1), (0, x2)] [(0, o0)] I R Q := by
  refine B_if_ne (off := 5) (t := 78) (q := 76) c1 (by decide) rfl (by decide +kernel) ?_ ?_
  · exact fun g9 => (h1 g9)
  · exact fun g9 => (PW_sub (ls' := []) trivial (h2 g9))
theorem S_X3_sum_76 {X : CX} {d : Nat} {I R : PF} {Q : PV → PF → PF → Prop} (h : Q (0, 0) I R) : PN X d mX3_sum 76 [] [] I R Q := by
  refine P_iconst (n := 0) (q := 77) rfl (by decide +kernel) ?_
  refine P_zret rfl (Or.inl rfl) (by decide +kernel) h
theorem S_X3_sum_78 {X : CX} {d d1 : Nat} {x1 x2 t1 : Int} {I R : PF} {Q Q1 : PV → PF → PF → Prop} (r1 : R 71 1 = t1) (e1 : d1 + 1 ≤ d) (hc : CN X d1 mX2_add [(2, t1), (0, x2)] I R Q1) (k1 : kd MF t1 = 2) (h : ∀ z I2 R2, Q1 (9, z) I2 R2 → PN X d mX3_sum 86 [(2, 71), (0, x1)] [] I2 R2 Q) : PN X d mX3_sum 78 [(2, 71), (0, x1), (0, x2)] [] I R Q := by
  refine P_aload_n (n := 0) (q := 79) rfl rfl (by decide +kernel) ?_
  refine B_getfR (q := 82) fX3_22 kM71 r1 rfl (by decide +kernel) ?_
  refine P_iload_n (n := 2) (q := 83) rfl rfl (by decide +kernel) ?_
  refine P_invV (As := [(0, x2)]) (q := 86) oX2_add rfl k1 kX3_102 e1 hMF (Nat.le_of_ble_eq_true rfl) hc rfl (by decide +kernel) (fun z I2 R2 hq => ?_)
  exact (PW_sub (ls' := [(2, 71), (0, x1)]) ⟨Or.inr rfl, Or.inr rfl, trivial⟩ (h z I2 R2 hq))
theorem S_X3_sum_86 {X : CX} {d : Nat} {x1 : Int} {I R : PF} {Q : PV → PF → PF → Prop} (h : PN X d mX3_sum 11 [(2, 71), (0, (x1 + 1))] [] I R Q) : PN X d mX3_sum 86 [(2, 71), (0, x1)] [] I R Q := by
  refine P_iinc (n := 1) (a := 1) (by decide) rfl (q := 89) rfl (by decide +kernel) ?_
  refine P_goto (off := (-78)) (t := 11) (by decide) (by decide +kernel) ?_
  exact (PW_sub (ls' := [(2, 71), (0, (x1 + 1))]) ⟨Or.inr rfl, Or.inr rfl, trivial⟩ h)
theorem S_X3_sum_92 {X : CX} {d : Nat} {I R : PF} {Q : PV → PF → PF → Prop} (h : Q (0, 1) I R) : PN X d mX3_sum 92 [] [] I R Q := by
  refine P_iconst (n := 1) (q := 93) rfl (by decide +kernel) ?_
  refine P_zret rfl (Or.inr rfl) (by decide +kernel) h
theorem S_X3_test_0 {X : CX} {d d1 : Nat} {I R : PF} {Q Q1 : PV → PF → PF → Prop} (e1 : d1 + 1 ≤ d) (hc : CN X d1 mX3_both [(2, 71)] I R Q1) (h : ∀ z I2 R2, Q1 (0, z) I2 R2 → PN X d mX3_test 4 [(2, 71)] [(0, z)] I2 R2 Q) : PN X d mX3_test 0 [(2, 71)] [] I R Q := by
  refine P_aload_n (n := 0) (q := 1) rfl rfl (by decide +kernel) ?_
  refine P_invV (As := []) (q := 4) oX3_both rfl kM71 kX3_92 e1 hMF (Nat.le_of_ble_eq_true rfl) hc rfl (by decide +kernel) (fun z I2 R2 hq => ?_)
  exact (h z I2 R2 hq)
theorem S_X3_test_4 {X : CX} {d : Nat} {o0 : Int} {I R : PF} {Q : PV → PF → PF → Prop} (c1 : -2147483648 ≤ o0 ∧ o0 < 2147483648) (h1 : o0 ≠ 0 → PN X d mX3_test 9 [(2, 71)] [] I R Q) (h2 : o0 = 0 → PN X d mX3_test 7 [] [] I R Q) : PN X d mX3_test 4 [(2, 71)] [(0, o0)] I R Q := by
  refine B_if_ne (off := 5) (t := 9) (q := 7) c1 (by decide) rfl (by decide +kernel) ?_ ?_
  · exact fun g9 => (h1 g9)
  · exact fun g9 => (PW_sub (ls' := []) trivial (h2 g9))
theorem S_X3_test_7 {X : CX} {d : Nat} {I R : PF} {Q : PV → PF → PF → Prop} (h : Q (0, 0) I R) : PN X d mX3_test 7 [] [] I R Q := by
  refine P_iconst (n := 0) (q := 8) rfl (by decide +kernel) ?_
  refine P_zret rfl (Or.inl rfl) (by decide +kernel) h
theorem S_X3_test_9 {X : CX} {d : Nat} {I R : PF} {Q : PV → PF → PF → Prop} (h : PN X d mX3_test 11 [(2, 71), (0, 0)] [] I R Q) : PN X d mX3_test 9 [(2, 71)] [] I R Q := by
  refine P_iconst (n := 0) (q := 10) rfl (by decide +kernel) ?_
  refine P_istore_n (n := 1) (by decide) (q := 11) rfl (by decide +kernel) ?_
  exact h
theorem S_X3_test_11 {X : CX} {d : Nat} {x1 : Int} {I R : PF} {Q : PV → PF → PF → Prop} (c1 : -2147483648 ≤ x1 ∧ x1 < 2147483648) (h1 : 1600 ≤ x1 → PN X d mX3_test 62 [] [] I R Q) (h2 : x1 < 1600 → PN X d mX3_test 18 [(2, 71), (0, x1)] [] I R Q) : PN X d mX3_test 11 [(2, 71), (0, x1)] [] I R Q := by
  refine P_iload_n (n := 1) (q := 12) rfl rfl (by decide +kernel) ?_
  refine P_sipush (n := 1600) (q := 15) rfl rfl (by decide +kernel) ?_
  refine B_icmp_ge (off := 47) (t := 62) (q := 18) c1 ⟨by decide, by decide⟩ (by decide) rfl (by decide +kernel) ?_ ?_
  · exact fun g9 => (PW_sub (ls' := []) trivial (h1 g9))
  · exact fun g9 => (h2 g9)
theorem S_X3_test_18 {X : CX} {d d1 : Nat} {x1 : Int} {I R : PF} {Q Q1 : PV → PF → PF → Prop} (hs : Shp R) (e1 : d1 + 1 ≤ d) (hc : CN X d1 mX5_isWord [(2, 67), (2, 26)] I R Q1) (h : ∀ z I2 R2, Q1 (0, z) I2 R2 → PN X d mX3_test 28 [(2, 71), (0, x1)] [(0, z)] I2 R2 Q) : PN X d mX3_test 18 [(2, 71), (0, x1)] [] I R Q := by
  refine P_aload_n (n := 0) (q := 19) rfl rfl (by decide +kernel) ?_
  refine B_getfR (q := 22) fX3_18 kM71 (rM71_0 hs) rfl (by decide +kernel) ?_
  refine P_gets (o := 26) (q := 25) (fun _ _ h => zW (i := 25) (by decide) h) ⟨by decide, by decide⟩ gX3_95 rfl (by decide +kernel) ?_
  refine P_invV (As := [(2, 26)]) (q := 28) oX5_isWord rfl kM67 kX3_98 e1 hMF (Nat.le_of_ble_eq_true rfl) hc rfl (by decide +kernel) (fun z I2 R2 hq => ?_)
  exact (h z I2 R2 hq)
theorem S_X3_test_28 {X : CX} {d : Nat} {x1 o0 : Int} {I R : PF} {Q : PV → PF → PF → Prop} (c1 : -2147483648 ≤ o0 ∧ o0 < 2147483648) (h1 : o0 = 0 → PN X d mX3_test 62 [] [] I R Q) (h2 : o0 ≠ 0 → PN X d mX3_test 31 [(2, 71), (0, x1)] [] I R Q) : PN X d mX3_test 28 [(2, 71), (0, x1)] [(0, o0)] I R Q := by
  refine B_if_eq (off := 34) (t := 62) (q := 31) c1 (by decide) rfl (by decide +kernel) ?_ ?_
  · exact fun g9 => (PW_sub (ls' := []) trivial (h1 g9))
  · exact fun g9 => (h2 g9)
theorem S_X3_test_31 {X : CX} {d d1 : Nat} {x1 : Int} {I R : PF} {Q Q1 : PV → PF → PF → Prop} (hs : Shp R) (e1 : d1 + 1 ≤ d) (hc : CN X d1 mX5_advance [(2, 67)] I R Q1) (h : ∀ z I2 R2, Q1 (9, z) I2 R2 → PN X d mX3_test 38 [(2, 71), (0, x1)] [] I2 R2 Q) : PN X d mX3_test 31 [(2, 71), (0, x1)] [] I R Q := by
  refine P_aload_n (n := 0) (q := 32) rfl rfl (by decide +kernel) ?_
  refine B_getfR (q := 35) fX3_18 kM71 (rM71_0 hs) rfl (by decide +kernel) ?_
  refine P_invV (As := []) (q := 38) oX5_advance rfl kM67 kX3_79 e1 hMF (Nat.le_of_ble_eq_true rfl) hc rfl (by decide +kernel) (fun z I2 R2 hq => ?_)
  exact (h z I2 R2 hq)
theorem S_X3_test_38 {X : CX} {d d1 : Nat} {x1 : Int} {I R : PF} {Q Q1 : PV → PF → PF → Prop} (e1 : d1 + 1 ≤ d) (hc : CN X d1 mX3_both [(2, 71)] I R Q1) (h : ∀ z I2 R2, Q1 (0, z) I2 R2 → PN X d mX3_test 42 [(2, 71), (0, x1)] [(0, z)] I2 R2 Q) : PN X d mX3_test 38 [(2, 71), (0, x1)] [] I R Q := by
  refine P_aload_n (n := 0) (q := 39) rfl rfl (by decide +kernel) ?_
  refine P_invV (As := []) (q := 42) oX3_both rfl kM71 kX3_92 e1 hMF (Nat.le_of_ble_eq_true rfl) hc rfl (by decide +kernel) (fun z I2 R2 hq => ?_)
  exact (h z I2 R2 hq)
theorem S_X3_test_42 {X : CX} {d : Nat} {x1 o0 : Int} {I R : PF} {Q : PV → PF → PF → Prop} (c1 : -2147483648 ≤ o0 ∧ o0 < 2147483648) (h1 : o0 ≠ 0 → PN X d mX3_test 47 [(2, 71), (0, x1)] [] I R Q) (h2 : o0 = 0 → PN X d mX3_test 45 [] [] I R Q) : PN X d mX3_test 42 [(2, 71), (0, x1)] [(0, o0)] I R Q := by
  refine B_if_ne (off := 5) (t := 47) (q := 45) c1 (by decide) rfl (by decide +kernel) ?_ ?_
  · exact fun g9 => (h1 g9)
  · exact fun g9 => (PW_sub (ls' := []) trivial (h2 g9))
theorem S_X3_test_45 {X : CX} {d : Nat} {I R : PF} {Q : PV → PF → PF → Prop} (h : Q (0, 0) I R) : PN X d mX3_test 45 [] [] I R Q := by
  refine P_iconst (n := 0) (q := 46) rfl (by decide +kernel) ?_
  refine P_zret rfl (Or.inl rfl) (by decide +kernel) h
theorem S_X3_test_47 {X : CX} {d d1 : Nat} {x1 t1 : Int} {I R : PF} {Q Q1 : PV → PF → PF → Prop} (r1 : R 71 1 = t1) (e1 : d1 + 1 ≤ d) (hc : CN X d1 mX2_add [(2, t1), (0, (-30))] I R Q1) (k1 : kd MF t1 = 2) (h : ∀ z I2 R2, Q1 (9, z) I2 R2 → PN X d mX3_test 56 [(2, 71), (0, x1)] [] I2 R2 Q) : PN X d mX3_test 47 [(2, 71), (0, x1)] [] I R Q := by
  refine P_aload_n (n := 0) (q := 48) rfl rfl (by decide +kernel) ?_
  refine B_getfR (q := 51) fX3_22 kM71 r1 rfl (by decide +kernel) ?_
  refine P_bipush (n := (-30)) (q := 53) rfl rfl (by decide +kernel) ?_
  refine P_invV (As := [(0, (-30))]) (q := 56) oX2_add rfl k1 kX3_102 e1 hMF (Nat.le_of_ble_eq_true rfl) hc rfl (by decide +kernel) (fun z I2 R2 hq => ?_)
  exact (h z I2 R2 hq)
theorem S_X3_test_56 {X : CX} {d : Nat} {x1 : Int} {I R : PF} {Q : PV → PF → PF → Prop} (h : PN X d mX3_test 11 [(2, 71), (0, (x1 + 1))] [] I R Q) : PN X d mX3_test 56 [(2, 71), (0, x1)] [] I R Q := by
  refine P_iinc (n := 1) (a := 1) (by decide) rfl (q := 59) rfl (by decide +kernel) ?_
  refine P_goto (off := (-48)) (t := 11) (by decide) (by decide +kernel) ?_
  exact h
theorem S_X3_test_62 {X : CX} {d : Nat} {I R : PF} {Q : PV → PF → PF → Prop} (h : Q (0, 1) I R) : PN X d mX3_test 62 [] [] I R Q := by
  refine P_iconst (n := 1) (q := 63) rfl (by decide +kernel) ?_
  refine P_zret rfl (Or.inr rfl) (by decide +kernel) h
theorem S_X4_forget_0 {X : CX} {d : Nat} {I R : PF} {Q : PV → PF → PF → Prop} (h : Q (9, 0) (u2 (u2 I 136 1 0) 136 5 0) R) : PN X d mX4_forget 0 [(2, 136)] [] I R Q := by
  refine P_aload_n (n := 0) (q := 1) rfl rfl (by decide +kernel) ?_
  refine P_iconst (n := 0) (q := 2) rfl (by decide +kernel) ?_
  refine P_putI (q := 5) wX4_16 (fun h => by cases h) kM136 rfl (by decide +kernel) ?_
  refine P_aload_n (n := 0) (q := 6) rfl rfl (by decide +kernel) ?_
  refine P_iconst (n := 0) (q := 7) rfl (by decide +kernel) ?_
  refine P_putI (q := 10) wX4_33 (fun h => by cases h) kM136 rfl (by decide +kernel) ?_
  refine P_vret rfl (by decide +kernel) h
theorem S_X4_keep_0 {X : CX} {d : Nat} {x1 x2 x3 : Int} {I R : PF} {Q : PV → PF → PF → Prop} (c1 : -2147483648 ≤ (I 136 1) ∧ (I 136 1) < 2147483648) (h1 : 999 ≤ (I 136 1) → PN X d mX4_keep 67 [] [] I R Q) (h2 : (I 136 1) < 999 → PN X d mX4_keep 10 [(2, 136), (0, x1), (0, x2), (0, x3)] [] I R Q) : PN X d mX4_keep 0 [(2, 136), (0, x1), (0, x2), (0, x3)] [] I R Q := by
  refine P_aload_n (n := 0) (q := 1) rfl rfl (by decide +kernel) ?_
  refine P_getf (q := 4) fX4_16 kM136 rfl (by decide +kernel) ?_
  refine P_sipush (n := 999) (q := 7) rfl rfl (by decide +kernel) ?_
  refine B_icmp_ge (off := 60) (t := 67) (q := 10) c1 ⟨by decide, by decide⟩ (by decide) rfl (by decide +kernel) ?_ ?_
  · exact fun g9 => (PW_sub (ls' := []) trivial (h1 g9))
  · exact fun g9 => (h2 g9)
theorem S_X4_keep_10 {X : CX} {d : Nat} {x1 x2 x3 t1 t2 : Int} {I R : PF} {Q : PV → PF → PF → Prop} (hs : Shp R) (r1 : R 137 0 = t1) (k1 : kd MF t1 = 12) (b1 : (0 : Int) ≤ (I 136 1) ∧ (I 136 1) < (ln MF t1 : Int)) (n1 : (ln MF t1 : Int) < 2147483648) (r2 : R 137 1 = t2) (c1 : -2147483648 ≤ x2 ∧ x2 < 2147483648) (h1 : x2 ≠ (-1) → PN X d mX4_keep 43 [(2, 136), (9, 0), (0, x2), (0, x3)] [(0, ((u2 I t1 (I 136 1) x1) 136 1)), (2, t2)] (u2 I t1 (I 136 1) x1) R Q) (h2 : x2 = (-1) → PN X d mX4_keep 37 [(2, 136), (9, 0), (9, 0), (0, x3)] [(0, ((u2 I t1 (I 136 1) x1) 136 1)), (2, t2)] (u2 I t1 (I 136 1) x1) R Q) : PN X d mX4_keep 10 [(2, 136), (0, x1), (0, x2), (0, x3)] [] I R Q := by
  refine P_aload_n (n := 0) (q := 11) rfl rfl (by decide +kernel) ?_
  refine B_getfR (q := 14) fX4_11 kM136 (rM136_0 hs) rfl (by decide +kernel) ?_
  refine P_iconst (n := 0) (q := 15) rfl (by decide +kernel) ?_
  refine B_aaloadI (q := 16) kM137 nM137 (by decide) ⟨by decide, by decide⟩ r1 rfl (by decide +kernel) ?_
  refine P_aload_n (n := 0) (q := 17) rfl rfl (by decide +kernel) ?_
  refine P_getf (q := 20) fX4_16 kM136 rfl (by decide +kernel) ?_
  refine P_iload_n (n := 1) (q := 21) rfl rfl (by decide +kernel) ?_
  refine B_iastore (q := 22) k1 rfl n1 b1 rfl (by decide +kernel) ?_
  refine P_aload_n (n := 0) (q := 23) rfl rfl (by decide +kernel) ?_
  refine B_getfR (q := 26) fX4_11 kM136 (rM136_0 hs) rfl (by decide +kernel) ?_
  refine P_iconst (n := 1) (q := 27) rfl (by decide +kernel) ?_
  refine B_aaloadI (q := 28) kM137 nM137 (by decide) ⟨by decide, by decide⟩ r2 rfl (by decide +kernel) ?_
  refine P_aload_n (n := 0) (q := 29) rfl rfl (by decide +kernel) ?_
  refine P_getf (q := 32) fX4_16 kM136 rfl (by decide +kernel) ?_
  refine P_iload_n (n := 2) (q := 33) rfl rfl (by decide +kernel) ?_
  refine P_iconst (n := (-1)) (q := 34) rfl (by decide +kernel) ?_
  refine B_icmp_ne (off := 9) (t := 43) (q := 37) c1 ⟨by decide, by decide⟩ (by decide) rfl (by decide +kernel) ?_ ?_
  · exact fun g9 => (PW_sub (ls' := [(2, 136), (9, 0), (0, x2), (0, x3)]) ⟨Or.inr rfl, Or.inl rfl, Or.inr rfl, Or.inr rfl, trivial⟩ (h1 g9))
  · exact fun g9 => (PW_sub (ls' := [(2, 136), (9, 0), (9, 0), (0, x3)]) ⟨Or.inr rfl, Or.inl rfl, Or.inl rfl, Or.inr rfl, trivial⟩ (h2 g9))
theorem S_X4_keep_37 {X : CX} {d : Nat} {x3 s0 o1 : Int} {I R : PF} {Q : PV → PF → PF → Prop} (h : PN X d mX4_keep 44 [(2, 136), (9, 0), (9, 0), (0, x3)] [(0, 255), (0, o1), (2, s0)] I R Q) : PN X d mX4_keep 37 [(2, 136), (9, 0), (9, 0), (0, x3)] [(0, o1), (2, s0)] I R Q := by
  refine P_sipush (n := 255) (q := 40) rfl rfl (by decide +kernel) ?_
  refine P_goto (off := 4) (t := 44) (by decide) (by decide +kernel) ?_
  exact h
theorem S_X4_keep_43 {X : CX} {d : Nat} {x2 x3 s0 o1 : Int} {I R : PF} {Q : PV → PF → PF → Prop} (h : PN X d mX4_keep 44 [(2, 136), (9, 0), (9, 0), (0, x3)] [(0, x2), (0, o1), (2, s0)] I R Q) : PN X d mX4_keep 43 [(2, 136), (9, 0), (0, x2), (0, x3)] [(0, o1), (2, s0)] I R Q := by
  refine P_iload_n (n := 2) (q := 44) rfl rfl (by decide +kernel) ?_
  exact (PW_sub (ls' := [(2, 136), (9, 0), (9, 0), (0, x3)]) ⟨Or.inr rfl, Or.inl rfl, Or.inl rfl, Or.inr rfl, trivial⟩ h)
theorem S_X4_keep_44 {X : CX} {d : Nat} {x3 s0 o1 o2 t1 : Int} {I R : PF} {Q : PV → PF → PF → Prop} (hs : Shp R) (k1 : kd MF s0 = 12) (b1 : (0 : Int) ≤ o1 ∧ o1 < (ln MF s0 : Int)) (n1 : (ln MF s0 : Int) < 2147483648) (r1 : R 137 2 = t1) (k2 : kd MF t1 = 12) (b2 : (0 : Int) ≤ ((u2 I s0 o1 o2) 136 1) ∧ ((u2 I s0 o1 o2) 136 1) < (ln MF t1 : Int)) (n2 : (ln MF t1 : Int) < 2147483648) (h : PN X d mX4_keep 67 [] [] (u2 (u2 (u2 I s0 o1 o2) t1 ((u2 I s0 o1 o2) 136 1) x3) 136 1 (((u2 (u2 I s0 o1 o2) t1 ((u2 I s0 o1 o2) 136 1) x3) 136 1) + 1)) R Q) : PN X d mX4_keep 44 [(2, 136), (9, 0), (9, 0), (0, x3)] [(0, o2), (0, o1), (2, s0)] I R Q := by
  refine B_iastore (q := 45) k1 rfl n1 b1 rfl (by decide +kernel) ?_
  refine P_aload_n (n := 0) (q := 46) rfl rfl (by decide +kernel) ?_
  refine B_getfR (q := 49) fX4_11 kM136 (rM136_0 hs) rfl (by decide +kernel) ?_
  refine P_iconst (n := 2) (q := 50) rfl (by decide +kernel) ?_
  refine B_aaloadI (q := 51) kM137 nM137 (by decide) ⟨by decide, by decide⟩ r1 rfl (by decide +kernel) ?_
  refine P_aload_n (n := 0) (q := 52) rfl rfl (by decide +kernel) ?_
  refine P_getf (q := 55) fX4_16 kM136 rfl (by decide +kernel) ?_
  refine P_iload_n (n := 3) (q := 56) rfl rfl (by decide +kernel) ?_
  refine B_iastore (q := 57) k2 rfl n2 b2 rfl (by decide +kernel) ?_
  refine P_aload_n (n := 0) (q := 58) rfl rfl (by decide +kernel) ?_
  refine P_dup (q := 59) (Nat.ne_of_beq_eq_false rfl) rfl (by decide +kernel) ?_
  refine P_getf (q := 62) fX4_16 kM136 rfl (by decide +kernel) ?_
  refine P_iconst (n := 1) (q := 63) rfl (by decide +kernel) ?_
  refine P_iadd (q := 64) rfl (by decide +kernel) ?_
  refine P_putI (q := 67) wX4_16 (fun h => by cases h) kM136 rfl (by decide +kernel) ?_
  exact (PW_sub (ls' := []) trivial h)
theorem S_X4_keep_67 {X : CX} {d : Nat} {I R : PF} {Q : PV → PF → PF → Prop} (h : Q (9, 0) I R) : PN X d mX4_keep 67 [] [] I R Q := by
  refine P_vret rfl (by decide +kernel) h
theorem S_X4_remember_0 {X : CX} {d d1 : Nat} {a1 t1 : Int} {I R : PF} {Q Q1 : PV → PF → PF → Prop} (hs : Shp R) (b1 : (0 : Int) ≤ (I 136 4) ∧ (I 136 4) < 20) (r1 : R 141 (I 136 4) = t1) (e1 : d1 + 1 ≤ d) (hc : CN X d1 mX8_copyFrom [(2, t1), (2, a1)] I R Q1) (k1 : kd MF t1 = 8) (h : ∀ z I2 R2, Q1 (9, z) I2 R2 → PN X d mX4_remember 13 [(2, 136)] [] I2 R2 Q) : PN X d mX4_remember 0 [(2, 136), (2, a1)] [] I R Q := by
  refine P_aload_n (n := 0) (q := 1) rfl rfl (by decide +kernel) ?_
  refine B_getfR (q := 4) fX4_22 kM136 (rM136_2 hs) rfl (by decide +kernel) ?_
  refine P_aload_n (n := 0) (q := 5) rfl rfl (by decide +kernel) ?_
  refine P_getf (q := 8) fX4_30 kM136 rfl (by decide +kernel) ?_
  refine B_aaload (q := 9) kM141 nM141 (by decide) b1 r1 rfl (by decide +kernel) ?_
  refine P_aload_n (n := 1) (q := 10) rfl rfl (by decide +kernel) ?_
  refine P_invV (As := [(2, a1)]) (q := 13) oX8_copyFrom rfl k1 kX4_47 e1 hMF (Nat.le_of_ble_eq_true rfl) hc rfl (by decide +kernel) (fun z I2 R2 hq => ?_)
  exact (PW_sub (ls' := [(2, 136)]) ⟨Or.inr rfl, trivial⟩ (h z I2 R2 hq))
theorem S_X4_remember_13 {X : CX} {d d1 : Nat} {I R : PF} {Q Q1 : PV → PF → PF → Prop} (hs : Shp R) (b1 : (0 : Int) ≤ (I 136 4) ∧ (I 136 4) < 20) (c1 : -2147483648 ≤ (((u2 I 142 (I 136 4) (I 136 1)) 136 4) + 1) ∧ (((u2 I 142 (I 136 4) (I 136 1)) 136 4) + 1) < 2147483648) (e1 : d1 + 1 ≤ d) (hc : CN X d1 mJ9_min_7cf53 [(0, 20), (0, (((u2 (u2 I 142 (I 136 4) (I 136 1)) 136 4 ((((u2 I 142 (I 136 4) (I 136 1)) 136 4) + 1).tmod 20)) 136 5) + 1))] (u2 (u2 I 142 (I 136 4) (I 136 1)) 136 4 ((((u2 I 142 (I 136 4) (I 136 1)) 136 4) + 1).tmod 20)) R Q1) (h : ∀ z I2 R2, Q1 (0, z) I2 R2 → PN X d mX4_remember 51 [] [(0, z), (2, 136)] I2 R2 Q) : PN X d mX4_remember 13 [(2, 136)] [] I R Q := by
  refine P_aload_n (n := 0) (q := 14) rfl rfl (by decide +kernel) ?_
  refine B_getfR (q := 17) fX4_26 kM136 (rM136_3 hs) rfl (by decide +kernel) ?_
  refine P_aload_n (n := 0) (q := 18) rfl rfl (by decide +kernel) ?_
  refine P_getf (q := 21) fX4_30 kM136 rfl (by decide +kernel) ?_
  refine P_aload_n (n := 0) (q := 22) rfl rfl (by decide +kernel) ?_
  refine P_getf (q := 25) fX4_16 kM136 rfl (by decide +kernel) ?_
  refine B_iastore (q := 26) kM142 nM142 (by decide) b1 rfl (by decide +kernel) ?_
  refine P_aload_n (n := 0) (q := 27) rfl rfl (by decide +kernel) ?_
  refine P_aload_n (n := 0) (q := 28) rfl rfl (by decide +kernel) ?_
  refine P_getf (q := 31) fX4_30 kM136 rfl (by decide +kernel) ?_
  refine P_iconst (n := 1) (q := 32) rfl (by decide +kernel) ?_
  refine P_iadd (q := 33) rfl (by decide +kernel) ?_
  refine P_bipush (n := 20) (q := 35) rfl rfl (by decide +kernel) ?_
  refine B_irem (q := 36) c1 ⟨by decide, by decide⟩ (by decide) rfl (by decide +kernel) ?_
  refine P_putI (q := 39) wX4_30 (fun h => by cases h) kM136 rfl (by decide +kernel) ?_
  refine P_aload_n (n := 0) (q := 40) rfl rfl (by decide +kernel) ?_
  refine P_bipush (n := 20) (q := 42) rfl rfl (by decide +kernel) ?_
  refine P_aload_n (n := 0) (q := 43) rfl rfl (by decide +kernel) ?_
  refine P_getf (q := 46) fX4_33 kM136 rfl (by decide +kernel) ?_
  refine P_iconst (n := 1) (q := 47) rfl (by decide +kernel) ?_
  refine P_iadd (q := 48) rfl (by decide +kernel) ?_
  refine P_invS (As := [(0, 20), (0, (((u2 (u2 I 142 (I 136 4) (I 136 1)) 136 4 ((((u2 I 142 (I 136 4) (I 136 1)) 136 4) + 1).tmod 20)) 136 5) + 1))]) (q := 51) oJ9_min_7cf53 rfl (Or.inl kX4_37) e1 hMF (Nat.le_of_ble_eq_true rfl) hc rfl (by decide +kernel) (fun z I2 R2 hq => ?_)
  exact (PW_sub (ls' := []) trivial (h z I2 R2 hq))
theorem S_X4_remember_51 {X : CX} {d : Nat} {o1 : Int} {I R : PF} {Q : PV → PF → PF → Prop} (h : Q (9, 0) (u2 I 136 5 o1) R) : PN X d mX4_remember 51 [] [(0, o1), (2, 136)] I R Q := by
  refine P_putI (q := 54) wX4_33 (fun h => by cases h) kM136 rfl (by decide +kernel) ?_
  refine P_vret rfl (by decide +kernel) h
theorem S_X4_restore_0 {X : CX} {d : Nat} {a1 : Int} {I R : PF} {Q : PV → PF → PF → Prop} (c1 : -2147483648 ≤ (I 136 5) ∧ (I 136 5) < 2147483648) (h1 : (I 136 5) ≠ 0 → PN X d mX4_restore 9 [(2, 136), (2, a1)] [] I R Q) (h2 : (I 136 5) = 0 → PN X d mX4_restore 7 [] [] I R Q) : PN X d mX4_restore 0 [(2, 136), (2, a1)] [] I R Q := by
  refine P_aload_n (n := 0) (q := 1) rfl rfl (by decide +kernel) ?_
  refine P_getf (q := 4) fX4_33 kM136 rfl (by decide +kernel) ?_
  refine B_if_ne (off := 5) (t := 9) (q := 7) c1 (by decide) rfl (by decide +kernel) ?_ ?_
  · exact fun g9 => (h1 g9)
  · exact fun g9 => (PW_sub (ls' := []) trivial (h2 g9))
theorem S_X4_restore_7 {X : CX} {d : Nat} {I R : PF} {Q : PV → PF → PF → Prop} (h : Q (0, 0) I R) : PN X d mX4_restore 7 [] [] I R Q := by
  refine P_iconst (n := 0) (q := 8) rfl (by decide +kernel) ?_
  refine P_zret rfl (Or.inl rfl) (by decide +kernel) h
theorem S_X4_restore_9 {X : CX} {d d1 : Nat} {a1 t1 : Int} {I R : PF} {Q Q1 : PV → PF → PF → Prop} (hs : Shp R) (c1 : -2147483648 ≤ ((((u2 I 136 5 ((I 136 5) - 1)) 136 4) + 20) - 1) ∧ ((((u2 I 136 5 ((I 136 5) - 1)) 136 4) + 20) - 1) < 2147483648) (b1 : (0 : Int) ≤ ((u2 (u2 I 136 5 ((I 136 5) - 1)) 136 4 (((((u2 I 136 5 ((I 136 5) - 1)) 136 4) + 20) - 1).tmod 20)) 136 4) ∧ ((u2 (u2 I 136 5 ((I 136 5) - 1)) 136 4 (((((u2 I 136 5 ((I 136 5) - 1)) 136 4) + 20) - 1).tmod 20)) 136 4) < 20) (r1 : R 141 ((u2 (u2 I 136 5 ((I 136 5) - 1)) 136 4 (((((u2 I 136 5 ((I 136 5) - 1)) 136 4) + 20) - 1).tmod 20)) 136 4) = t1) (e1 : d1 + 1 ≤ d) (hc : CN X d1 mX8_copyFrom [(2, a1), (2, t1)] (u2 (u2 I 136 5 ((I 136 5) - 1)) 136 4 (((((u2 I 136 5 ((I 136 5) - 1)) 136 4) + 20) - 1).tmod 20)) R Q1) (k1 : kd MF a1 = 8) (h : ∀ z I2 R2, Q1 (9, z) I2 R2 → PN X d mX4_restore 48 [(2, 136)] [] I2 R2 Q) : PN X d mX4_restore 9 [(2, 136), (2, a1)] [] I R Q := by
  refine P_aload_n (n := 0) (q := 10) rfl rfl (by decide +kernel) ?_
  refine P_dup (q := 11) (Nat.ne_of_beq_eq_false rfl) rfl (by decide +kernel) ?_
  refine P_getf (q := 14) fX4_33 kM136 rfl (by decide +kernel) ?_
  refine P_iconst (n := 1) (q := 15) rfl (by decide +kernel) ?_
  refine P_isub (q := 16) rfl (by decide +kernel) ?_
  refine P_putI (q := 19) wX4_33 (fun h => by cases h) kM136 rfl (by decide +kernel) ?_
  refine P_aload_n (n := 0) (q := 20) rfl rfl (by decide +kernel) ?_
  refine P_aload_n (n := 0) (q := 21) rfl rfl (by decide +kernel) ?_
  refine P_getf (q := 24) fX4_30 kM136 rfl (by decide +kernel) ?_
  refine P_bipush (n := 20) (q := 26) rfl rfl (by decide +kernel) ?_
  refine P_iadd (q := 27) rfl (by decide +kernel) ?_
  refine P_iconst (n := 1) (q := 28) rfl (by decide +kernel) ?_
  refine P_isub (q := 29) rfl (by decide +kernel) ?_
  refine P_bipush (n := 20) (q := 31) rfl rfl (by decide +kernel) ?_
  refine B_irem (q := 32) c1 ⟨by decide, by decide⟩ (by decide) rfl (by decide +kernel) ?_
  refine P_putI (q := 35) wX4_30 (fun h => by cases h) kM136 rfl (by decide +kernel) ?_
  refine P_aload_n (n := 1) (q := 36) rfl rfl (by decide +kernel) ?_
  refine P_aload_n (n := 0) (q := 37) rfl rfl (by decide +kernel) ?_
  refine B_getfR (q := 40) fX4_22 kM136 (rM136_2 hs) rfl (by decide +kernel) ?_
  refine P_aload_n (n := 0) (q := 41) rfl rfl (by decide +kernel) ?_
  refine P_getf (q := 44) fX4_30 kM136 rfl (by decide +kernel) ?_
  refine B_aaload (q := 45) kM141 nM141 (by decide) b1 r1 rfl (by decide +kernel) ?_
  refine P_invV (As := [(2, t1)]) (q := 48) oX8_copyFrom rfl k1 kX4_47 e1 hMF (Nat.le_of_ble_eq_true rfl) hc rfl (by decide +kernel) (fun z I2 R2 hq => ?_)
  exact (PW_sub (ls' := [(2, 136)]) ⟨Or.inr rfl, trivial⟩ (h z I2 R2 hq))
theorem S_X4_restore_48 {X : CX} {d : Nat} {I R : PF} {Q : PV → PF → PF → Prop} (hs : Shp R) (b1 : (0 : Int) ≤ (I 136 4) ∧ (I 136 4) < 20) (h : Q (0, 1) (u2 I 136 1 (I 142 (I 136 4))) R) : PN X d mX4_restore 48 [(2, 136)] [] I R Q := by
  refine P_aload_n (n := 0) (q := 49) rfl rfl (by decide +kernel) ?_
  refine P_aload_n (n := 0) (q := 50) rfl rfl (by decide +kernel) ?_
  refine B_getfR (q := 53) fX4_26 kM136 (rM136_3 hs) rfl (by decide +kernel) ?_
  refine P_aload_n (n := 0) (q := 54) rfl rfl (by decide +kernel) ?_
  refine P_getf (q := 57) fX4_30 kM136 rfl (by decide +kernel) ?_
  refine B_iaload (q := 58) kM142 nM142 (by decide) b1 rfl (by decide +kernel) ?_
  refine P_putI (q := 61) wX4_16 (fun h => by cases h) kM136 rfl (by decide +kernel) ?_
  refine P_iconst (n := 1) (q := 62) rfl (by decide +kernel) ?_
  refine P_zret rfl (Or.inr rfl) (by decide +kernel) h
theorem S_X4_told_0 {X : CX} {d d1 : Nat} {I R : PF} {Q Q1 : PV → PF → PF → Prop} (e1 : d1 + 1 ≤ d) (hc : CN X d1 mJ9_min_7cf53 [(0, (I 136 1)), (0, 40)] I R Q1) (h : ∀ z I2 R2, Q1 (0, z) I2 R2 → PN X d mX4_told 9 [] [(0, z)] I2 R2 Q) : PN X d mX4_told 0 [(2, 136)] [] I R Q := by
  refine P_aload_n (n := 0) (q := 1) rfl rfl (by decide +kernel) ?_
  refine P_getf (q := 4) fX4_16 kM136 rfl (by decide +kernel) ?_
  refine P_bipush (n := 40) (q := 6) rfl rfl (by decide +kernel) ?_
  refine P_invS (As := [(0, (I 136 1)), (0, 40)]) (q := 9) oJ9_min_7cf53 rfl (Or.inl kX4_37) e1 hMF (Nat.le_of_ble_eq_true rfl) hc rfl (by decide +kernel) (fun z I2 R2 hq => ?_)
  exact (PW_sub (ls' := []) trivial (h z I2 R2 hq))
theorem S_X4_told_9 {X : CX} {d : Nat} {o0 : Int} {I R : PF} {Q : PV → PF → PF → Prop} (h : Q (0, o0) I R) : PN X d mX4_told 9 [] [(0, o0)] I R Q := by
  refine P_iret rfl (by decide +kernel) h
theorem S_X4_toldOf_0 {X : CX} {d : Nat} {x1 x2 : Int} {I R : PF} {Q : PV → PF → PF → Prop} (c1 : -2147483648 ≤ x1 ∧ x1 < 2147483648) (h1 : x1 < 0 → PN X d mX4_toldOf 21 [] [] I R Q) (h2 : 0 ≤ x1 → PN X d mX4_toldOf 4 [(2, 136), (0, x1), (0, x2)] [] I R Q) : PN X d mX4_toldOf 0 [(2, 136), (0, x1), (0, x2)] [] I R Q := by
  refine P_iload_n (n := 1) (q := 1) rfl rfl (by decide +kernel) ?_
  refine B_if_lt (off := 20) (t := 21) (q := 4) c1 (by decide) rfl (by decide +kernel) ?_ ?_
  · exact fun g9 => (PW_sub (ls' := []) trivial (h1 g9))
  · exact fun g9 => (h2 g9)
theorem S_X4_toldOf_4 {X : CX} {d d1 : Nat} {x1 x2 : Int} {I R : PF} {Q Q1 : PV → PF → PF → Prop} (e1 : d1 + 1 ≤ d) (hc : CN X d1 mX4_told [(2, 136)] I R Q1) (h : ∀ z I2 R2, Q1 (0, z) I2 R2 → PN X d mX4_toldOf 9 [(2, 136), (0, x1), (0, x2)] [(0, z), (0, x1)] I2 R2 Q) : PN X d mX4_toldOf 4 [(2, 136), (0, x1), (0, x2)] [] I R Q := by
  refine P_iload_n (n := 1) (q := 5) rfl rfl (by decide +kernel) ?_
  refine P_aload_n (n := 0) (q := 6) rfl rfl (by decide +kernel) ?_
  refine P_invV (As := []) (q := 9) oX4_told rfl kM136 kX4_43 e1 hMF (Nat.le_of_ble_eq_true rfl) hc rfl (by decide +kernel) (fun z I2 R2 hq => ?_)
  exact (h z I2 R2 hq)
theorem S_X4_toldOf_9 {X : CX} {d : Nat} {x1 x2 o0 o1 : Int} {I R : PF} {Q : PV → PF → PF → Prop} (c1 : -2147483648 ≤ o0 ∧ o0 < 2147483648) (c2 : -2147483648 ≤ o1 ∧ o1 < 2147483648) (h1 : o1 ≤ o0 → PN X d mX4_toldOf 21 [] [] I R Q) (h2 : o0 < o1 → PN X d mX4_toldOf 12 [(2, 136), (0, x1), (0, x2)] [] I R Q) : PN X d mX4_toldOf 9 [(2, 136), (0, x1), (0, x2)] [(0, o1), (0, o0)] I R Q := by
  refine B_icmp_ge (off := 12) (t := 21) (q := 12) c1 c2 (by decide) rfl (by decide +kernel) ?_ ?_
  · exact fun g9 => (PW_sub (ls' := []) trivial (h1 g9))
  · exact fun g9 => (h2 g9)
theorem S_X4_toldOf_12 {X : CX} {d : Nat} {x1 x2 : Int} {I R : PF} {Q : PV → PF → PF → Prop} (c1 : -2147483648 ≤ x2 ∧ x2 < 2147483648) (h1 : x2 < 0 → PN X d mX4_toldOf 21 [] [] I R Q) (h2 : 0 ≤ x2 → PN X d mX4_toldOf 16 [(2, 136), (0, x1), (0, x2)] [] I R Q) : PN X d mX4_toldOf 12 [(2, 136), (0, x1), (0, x2)] [] I R Q := by
  refine P_iload_n (n := 2) (q := 13) rfl rfl (by decide +kernel) ?_
  refine B_if_lt (off := 8) (t := 21) (q := 16) c1 (by decide) rfl (by decide +kernel) ?_ ?_
  · exact fun g9 => (PW_sub (ls' := []) trivial (h1 g9))
  · exact fun g9 => (h2 g9)
theorem S_X4_toldOf_16 {X : CX} {d : Nat} {x1 x2 : Int} {I R : PF} {Q : PV → PF → PF → Prop} (c1 : -2147483648 ≤ x2 ∧ x2 < 2147483648) (h1 : x2 ≤ 2 → PN X d mX4_toldOf 23 [(2, 136), (0, x1), (0, x2)] [] I R Q) (h2 : 2 < x2 → PN X d mX4_toldOf 21 [] [] I R Q) : PN X d mX4_toldOf 16 [(2, 136), (0, x1), (0, x2)] [] I R Q := by
  refine P_iload_n (n := 2) (q := 17) rfl rfl (by decide +kernel) ?_
  refine P_iconst (n := 2) (q := 18) rfl (by decide +kernel) ?_
  refine B_icmp_le (off := 5) (t := 23) (q := 21) c1 ⟨by decide, by decide⟩ (by decide) rfl (by decide +kernel) ?_ ?_
  · exact fun g9 => (h1 g9)
  · exact fun g9 => (PW_sub (ls' := []) trivial (h2 g9))
theorem S_X4_toldOf_21 {X : CX} {d : Nat} {I R : PF} {Q : PV → PF → PF → Prop} (h : Q (0, (-1)) I R) : PN X d mX4_toldOf 21 [] [] I R Q := by
  refine P_iconst (n := (-1)) (q := 22) rfl (by decide +kernel) ?_
  refine P_iret rfl (by decide +kernel) h
theorem S_X4_toldOf_23 {X : CX} {d d1 : Nat} {x1 x2 t1 : Int} {I R : PF} {Q Q1 : PV → PF → PF → Prop} (hs : Shp R) (b1 : (0 : Int) ≤ x2 ∧ x2 < 3) (r1 : R 137 x2 = t1) (e1 : d1 + 1 ≤ d) (hc : CN X d1 mX4_told [(2, 136)] I R Q1) (h : ∀ z I2 R2, Q1 (0, z) I2 R2 → PN X d mX4_toldOf 37 [(9, 0), (0, x1)] [(0, z), (0, (I 136 1)), (2, t1)] I2 R2 Q) : PN X d mX4_toldOf 23 [(2, 136), (0, x1), (0, x2)] [] I R Q := by
  refine P_aload_n (n := 0) (q := 24) rfl rfl (by decide +kernel) ?_
  refine B_getfR (q := 27) fX4_11 kM136 (rM136_0 hs) rfl (by decide +kernel) ?_
  refine P_iload_n (n := 2) (q := 28) rfl rfl (by decide +kernel) ?_
  refine B_aaloadI (q := 29) kM137 nM137 (by decide) b1 r1 rfl (by decide +kernel) ?_
  refine P_aload_n (n := 0) (q := 30) rfl rfl (by decide +kernel) ?_
  refine P_getf (q := 33) fX4_16 kM136 rfl (by decide +kernel) ?_
  refine P_aload_n (n := 0) (q := 34) rfl rfl (by decide +kernel) ?_
  refine P_invV (As := []) (q := 37) oX4_told rfl kM136 kX4_43 e1 hMF (Nat.le_of_ble_eq_true rfl) hc rfl (by decide +kernel) (fun z I2 R2 hq => ?_)
  exact (PW_sub (ls' := [(9, 0), (0, x1)]) ⟨Or.inl rfl, Or.inr rfl, trivial⟩ (h z I2 R2 hq))
theorem S_X4_toldOf_37 {X : CX} {d : Nat} {x1 s0 o1 o2 : Int} {I R : PF} {Q : PV → PF → PF → Prop} (k1 : kd MF s0 = 12) (b1 : (0 : Int) ≤ ((o1 - o2) + x1) ∧ ((o1 - o2) + x1) < (ln MF s0 : Int)) (n1 : (ln MF s0 : Int) < 2147483648) (h : Q (0, (I s0 ((o1 - o2) + x1))) I R) : PN X d mX4_toldOf 37 [(9, 0), (0, x1)] [(0, o2), (0, o1), (2, s0)] I R Q := by
  refine P_isub (q := 38) rfl (by decide +kernel) ?_
  refine P_iload_n (n := 1) (q := 39) rfl rfl (by decide +kernel) ?_
  refine P_iadd (q := 40) rfl (by decide +kernel) ?_
  refine B_iaload (q := 41) k1 rfl n1 b1 rfl (by decide +kernel) ?_
  refine P_iret rfl (by decide +kernel) h
