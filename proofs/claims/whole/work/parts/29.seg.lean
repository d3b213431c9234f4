theorem S_X11_qFact_0 {X : CX} {d d1 : Nat} {I R : PF} {Q Q1 : PV → PF → PF → Prop} (hs : Shp R) (e1 : d1 + 1 ≤ d) (hc : CN X d1 mX11_takes [(2, 306), (2, 364)] I R Q1) (h : ∀ z I2 R2, Q1 (0, z) I2 R2 → PN X d mX11_qFact 8 [(2, 306)] [(0, z)] I2 R2 Q) : PN X d mX11_qFact 0 [(2, 306)] [] I R Q := by
  refine P_aload_n (n := 0) (q := 1) rfl rfl (by decide +kernel) ?_
  refine P_aload_n (n := 0) (q := 2) rfl rfl (by decide +kernel) ?_
  refine B_getfR (q := 5) fX11_366 kM306 (rM306_88 hs) rfl (by decide +kernel) ?_
  refine P_invV (As := [(2, 364)]) (q := 8) oX11_takes rfl kM306 kX11_41 e1 hMF (Nat.le_of_ble_eq_true rfl) hc rfl (by decide +kernel) (fun z I2 R2 hq => ?_)
  exact (h z I2 R2 hq)
theorem S_X11_qFact_8 {X : CX} {d : Nat} {o0 : Int} {I R : PF} {Q : PV → PF → PF → Prop} (c1 : -2147483648 ≤ o0 ∧ o0 < 2147483648) (h1 : o0 = 0 → PN X d mX11_qFact 18 [(2, 306)] [] I R Q) (h2 : o0 ≠ 0 → PN X d mX11_qFact 11 [(2, 306)] [] I R Q) : PN X d mX11_qFact 8 [(2, 306)] [(0, o0)] I R Q := by
  refine B_if_eq (off := 10) (t := 18) (q := 11) c1 (by decide) rfl (by decide +kernel) ?_ ?_
  · exact fun g9 => (h1 g9)
  · exact fun g9 => (h2 g9)
theorem S_X11_qFact_11 {X : CX} {d d1 : Nat} {I R : PF} {Q Q1 : PV → PF → PF → Prop} (e1 : d1 + 1 ≤ d) (hc : CN X d1 mX11_qCode [(2, 306), (0, 13)] I R Q1) (h : ∀ z I2 R2, Q1 (9, z) I2 R2 → PN X d mX11_qFact 17 [] [] I2 R2 Q) : PN X d mX11_qFact 11 [(2, 306)] [] I R Q := by
  refine P_aload_n (n := 0) (q := 12) rfl rfl (by decide +kernel) ?_
  refine P_bipush (n := 13) (q := 14) rfl rfl (by decide +kernel) ?_
  refine P_invV (As := [(0, 13)]) (q := 17) oX11_qCode rfl kM306 kX11_605 e1 hMF (Nat.le_of_ble_eq_true rfl) hc rfl (by decide +kernel) (fun z I2 R2 hq => ?_)
  exact (PW_sub (ls' := []) trivial (h z I2 R2 hq))
theorem S_X11_qFact_17 {X : CX} {d : Nat} {I R : PF} {Q : PV → PF → PF → Prop} (h : Q (9, 0) I R) : PN X d mX11_qFact 17 [] [] I R Q := by
  refine P_vret rfl (by decide +kernel) h
theorem S_X11_qFact_18 {X : CX} {d d1 : Nat} {I R : PF} {Q Q1 : PV → PF → PF → Prop} (e1 : d1 + 1 ≤ d) (hc : CN X d1 mX11_qSums [(2, 306)] I R Q1) (h : ∀ z I2 R2, Q1 (9, z) I2 R2 → PN X d mX11_qFact 22 [(2, 306)] [] I2 R2 Q) : PN X d mX11_qFact 18 [(2, 306)] [] I R Q := by
  refine P_aload_n (n := 0) (q := 19) rfl rfl (by decide +kernel) ?_
  refine P_invV (As := []) (q := 22) oX11_qSums rfl kM306 kX11_248 e1 hMF (Nat.le_of_ble_eq_true rfl) hc rfl (by decide +kernel) (fun z I2 R2 hq => ?_)
  exact (h z I2 R2 hq)
theorem S_X11_qFact_22 {X : CX} {d : Nat} {I R : PF} {Q : PV → PF → PF → Prop} (c1 : -2147483648 ≤ (I 306 5) ∧ (I 306 5) < 2147483648) (h1 : (I 306 5) = 0 → PN X d mX11_qFact 30 [(2, 306)] [] I R Q) (h2 : (I 306 5) ≠ 0 → PN X d mX11_qFact 29 [] [] I R Q) : PN X d mX11_qFact 22 [(2, 306)] [] I R Q := by
  refine P_aload_n (n := 0) (q := 23) rfl rfl (by decide +kernel) ?_
  refine P_getf (q := 26) fX11_14 kM306 rfl (by decide +kernel) ?_
  refine B_if_eq (off := 4) (t := 30) (q := 29) c1 (by decide) rfl (by decide +kernel) ?_ ?_
  · exact fun g9 => (h1 g9)
  · exact fun g9 => (PW_sub (ls' := []) trivial (h2 g9))
theorem S_X11_qFact_29 {X : CX} {d : Nat} {I R : PF} {Q : PV → PF → PF → Prop} (h : Q (9, 0) I R) : PN X d mX11_qFact 29 [] [] I R Q := by
  refine P_vret rfl (by decide +kernel) h
theorem S_X11_qFact_30 {X : CX} {d d1 : Nat} {I R : PF} {Q Q1 : PV → PF → PF → Prop} (e1 : d1 + 1 ≤ d) (hc : CN X d1 mX11_look [(2, 306)] I R Q1) (h : ∀ z I2 R2, Q1 (0, z) I2 R2 → PN X d mX11_qFact 34 [(2, 306)] [(0, z)] I2 R2 Q) : PN X d mX11_qFact 30 [(2, 306)] [] I R Q := by
  refine P_aload_n (n := 0) (q := 31) rfl rfl (by decide +kernel) ?_
  refine P_invV (As := []) (q := 34) oX11_look rfl kM306 kX11_26 e1 hMF (Nat.le_of_ble_eq_true rfl) hc rfl (by decide +kernel) (fun z I2 R2 hq => ?_)
  exact (h z I2 R2 hq)
theorem S_X11_qFact_34 {X : CX} {d : Nat} {o0 : Int} {I R : PF} {Q : PV → PF → PF → Prop} (c1 : -2147483648 ≤ o0 ∧ o0 < 2147483648) (h1 : o0 = 60 → PN X d mX11_qFact 63 [(2, 306), (0, o0)] [] I R Q) (h2 : o0 ≠ 60 → PN X d mX11_qFact 41 [(2, 306), (0, o0)] [] I R Q) : PN X d mX11_qFact 34 [(2, 306)] [(0, o0)] I R Q := by
  refine P_istore_n (n := 1) (by decide) (q := 35) rfl (by decide +kernel) ?_
  refine P_iload_n (n := 1) (q := 36) rfl rfl (by decide +kernel) ?_
  refine P_bipush (n := 60) (q := 38) rfl rfl (by decide +kernel) ?_
  refine B_icmp_eq (off := 25) (t := 63) (q := 41) c1 ⟨by decide, by decide⟩ (by decide) rfl (by decide +kernel) ?_ ?_
  · exact fun g9 => (h1 g9)
  · exact fun g9 => (h2 g9)
theorem S_X11_qFact_41 {X : CX} {d : Nat} {x1 : Int} {I R : PF} {Q : PV → PF → PF → Prop} (c1 : -2147483648 ≤ x1 ∧ x1 < 2147483648) (h1 : x1 = 62 → PN X d mX11_qFact 63 [(2, 306), (0, x1)] [] I R Q) (h2 : x1 ≠ 62 → PN X d mX11_qFact 47 [(2, 306), (0, x1)] [] I R Q) : PN X d mX11_qFact 41 [(2, 306), (0, x1)] [] I R Q := by
  refine P_iload_n (n := 1) (q := 42) rfl rfl (by decide +kernel) ?_
  refine P_bipush (n := 62) (q := 44) rfl rfl (by decide +kernel) ?_
  refine B_icmp_eq (off := 19) (t := 63) (q := 47) c1 ⟨by decide, by decide⟩ (by decide) rfl (by decide +kernel) ?_ ?_
  · exact fun g9 => (h1 g9)
  · exact fun g9 => (h2 g9)
theorem S_X11_qFact_47 {X : CX} {d : Nat} {x1 : Int} {I R : PF} {Q : PV → PF → PF → Prop} (c1 : -2147483648 ≤ x1 ∧ x1 < 2147483648) (h1 : x1 = 61 → PN X d mX11_qFact 63 [(2, 306), (0, x1)] [] I R Q) (h2 : x1 ≠ 61 → PN X d mX11_qFact 53 [(2, 306)] [] I R Q) : PN X d mX11_qFact 47 [(2, 306), (0, x1)] [] I R Q := by
  refine P_iload_n (n := 1) (q := 48) rfl rfl (by decide +kernel) ?_
  refine P_bipush (n := 61) (q := 50) rfl rfl (by decide +kernel) ?_
  refine B_icmp_eq (off := 13) (t := 63) (q := 53) c1 ⟨by decide, by decide⟩ (by decide) rfl (by decide +kernel) ?_ ?_
  · exact fun g9 => (h1 g9)
  · exact fun g9 => (PW_sub (ls' := [(2, 306)]) ⟨Or.inr rfl, trivial⟩ (h2 g9))
theorem S_X11_qFact_53 {X : CX} {d d1 : Nat} {I R : PF} {Q Q1 : PV → PF → PF → Prop} (e1 : d1 + 1 ≤ d) (hc : CN X d1 mX11_fail [(2, 306), (0, 1), (0, (I 306 2))] I R Q1) (h : ∀ z I2 R2, Q1 (9, z) I2 R2 → PN X d mX11_qFact 62 [] [] I2 R2 Q) : PN X d mX11_qFact 53 [(2, 306)] [] I R Q := by
  refine P_aload_n (n := 0) (q := 54) rfl rfl (by decide +kernel) ?_
  refine P_iconst (n := 1) (q := 55) rfl (by decide +kernel) ?_
  refine P_aload_n (n := 0) (q := 56) rfl rfl (by decide +kernel) ?_
  refine P_getf (q := 59) fX11_20 kM306 rfl (by decide +kernel) ?_
  refine P_invV (As := [(0, 1), (0, (I 306 2))]) (q := 62) oX11_fail rfl kM306 kX11_44 e1 hMF (Nat.le_of_ble_eq_true rfl) hc rfl (by decide +kernel) (fun z I2 R2 hq => ?_)
  exact (PW_sub (ls' := []) trivial (h z I2 R2 hq))
theorem S_X11_qFact_62 {X : CX} {d : Nat} {I R : PF} {Q : PV → PF → PF → Prop} (h : Q (9, 0) I R) : PN X d mX11_qFact 62 [] [] I R Q := by
  refine P_vret rfl (by decide +kernel) h
theorem S_X11_qFact_63 {X : CX} {d d1 : Nat} {x1 : Int} {I R : PF} {Q Q1 : PV → PF → PF → Prop} (e1 : d1 + 1 ≤ d) (hc : CN X d1 mX11_qSums [(2, 306)] (u2 I 306 2 ((I 306 2) + 1)) R Q1) (h : ∀ z I2 R2, Q1 (9, z) I2 R2 → PN X d mX11_qFact 77 [(2, 306), (0, x1)] [] I2 R2 Q) : PN X d mX11_qFact 63 [(2, 306), (0, x1)] [] I R Q := by
  refine P_aload_n (n := 0) (q := 64) rfl rfl (by decide +kernel) ?_
  refine P_dup (q := 65) (Nat.ne_of_beq_eq_false rfl) rfl (by decide +kernel) ?_
  refine P_getf (q := 68) fX11_20 kM306 rfl (by decide +kernel) ?_
  refine P_iconst (n := 1) (q := 69) rfl (by decide +kernel) ?_
  refine P_iadd (q := 70) rfl (by decide +kernel) ?_
  refine P_putI (q := 73) wX11_20 (fun h => by cases h) kM306 rfl (by decide +kernel) ?_
  refine P_aload_n (n := 0) (q := 74) rfl rfl (by decide +kernel) ?_
  refine P_invV (As := []) (q := 77) oX11_qSums rfl kM306 kX11_248 e1 hMF (Nat.le_of_ble_eq_true rfl) hc rfl (by decide +kernel) (fun z I2 R2 hq => ?_)
  exact (h z I2 R2 hq)
theorem S_X11_qFact_77 {X : CX} {d : Nat} {x1 : Int} {I R : PF} {Q : PV → PF → PF → Prop} (c1 : -2147483648 ≤ x1 ∧ x1 < 2147483648) (h1 : x1 ≠ 60 → PN X d mX11_qFact 89 [(9, 0), (0, x1)] [(2, 306)] I R Q) (h2 : x1 = 60 → PN X d mX11_qFact 84 [] [(2, 306)] I R Q) : PN X d mX11_qFact 77 [(2, 306), (0, x1)] [] I R Q := by
  refine P_aload_n (n := 0) (q := 78) rfl rfl (by decide +kernel) ?_
  refine P_iload_n (n := 1) (q := 79) rfl rfl (by decide +kernel) ?_
  refine P_bipush (n := 60) (q := 81) rfl rfl (by decide +kernel) ?_
  refine B_icmp_ne (off := 8) (t := 89) (q := 84) c1 ⟨by decide, by decide⟩ (by decide) rfl (by decide +kernel) ?_ ?_
  · exact fun g9 => (PW_sub (ls' := [(9, 0), (0, x1)]) ⟨Or.inl rfl, Or.inr rfl, trivial⟩ (h1 g9))
  · exact fun g9 => (PW_sub (ls' := []) trivial (h2 g9))
theorem S_X11_qFact_84 {X : CX} {d : Nat} {I R : PF} {Q : PV → PF → PF → Prop} (h : PN X d mX11_qFact 102 [] [(0, 7), (2, 306)] I R Q) : PN X d mX11_qFact 84 [] [(2, 306)] I R Q := by
  refine P_bipush (n := 7) (q := 86) rfl rfl (by decide +kernel) ?_
  refine P_goto (off := 16) (t := 102) (by decide) (by decide +kernel) ?_
  exact (PW_sub (ls' := []) trivial h)
theorem S_X11_qFact_89 {X : CX} {d : Nat} {x1 : Int} {I R : PF} {Q : PV → PF → PF → Prop} (c1 : -2147483648 ≤ x1 ∧ x1 < 2147483648) (h1 : x1 ≠ 62 → PN X d mX11_qFact 100 [] [(2, 306)] I R Q) (h2 : x1 = 62 → PN X d mX11_qFact 95 [] [(2, 306)] I R Q) : PN X d mX11_qFact 89 [(9, 0), (0, x1)] [(2, 306)] I R Q := by
  refine P_iload_n (n := 1) (q := 90) rfl rfl (by decide +kernel) ?_
  refine P_bipush (n := 62) (q := 92) rfl rfl (by decide +kernel) ?_
  refine B_icmp_ne (off := 8) (t := 100) (q := 95) c1 ⟨by decide, by decide⟩ (by decide) rfl (by decide +kernel) ?_ ?_
  · exact fun g9 => (PW_sub (ls' := []) trivial (h1 g9))
  · exact fun g9 => (PW_sub (ls' := []) trivial (h2 g9))
theorem S_X11_qFact_95 {X : CX} {d : Nat} {I R : PF} {Q : PV → PF → PF → Prop} (h : PN X d mX11_qFact 102 [] [(0, 8), (2, 306)] I R Q) : PN X d mX11_qFact 95 [] [(2, 306)] I R Q := by
  refine P_bipush (n := 8) (q := 97) rfl rfl (by decide +kernel) ?_
  refine P_goto (off := 5) (t := 102) (by decide) (by decide +kernel) ?_
  exact (PW_sub (ls' := []) trivial h)
theorem S_X11_qFact_100 {X : CX} {d : Nat} {I R : PF} {Q : PV → PF → PF → Prop} (h : PN X d mX11_qFact 102 [] [(0, 9), (2, 306)] I R Q) : PN X d mX11_qFact 100 [] [(2, 306)] I R Q := by
  refine P_bipush (n := 9) (q := 102) rfl rfl (by decide +kernel) ?_
  exact (PW_sub (ls' := []) trivial h)
theorem S_X11_qFact_102 {X : CX} {d d1 : Nat} {o1 : Int} {I R : PF} {Q Q1 : PV → PF → PF → Prop} (e1 : d1 + 1 ≤ d) (hc : CN X d1 mX11_qCode [(2, 306), (0, o1)] I R Q1) (h : ∀ z I2 R2, Q1 (9, z) I2 R2 → PN X d mX11_qFact 105 [] [] I2 R2 Q) : PN X d mX11_qFact 102 [] [(0, o1), (2, 306)] I R Q := by
  refine P_invV (As := [(0, o1)]) (q := 105) oX11_qCode rfl kM306 kX11_605 e1 hMF (Nat.le_of_ble_eq_true rfl) hc rfl (by decide +kernel) (fun z I2 R2 hq => ?_)
  exact (PW_sub (ls' := []) trivial (h z I2 R2 hq))
theorem S_X11_qFact_105 {X : CX} {d : Nat} {I R : PF} {Q : PV → PF → PF → Prop} (h : Q (9, 0) I R) : PN X d mX11_qFact 105 [] [] I R Q := by
  refine P_vret rfl (by decide +kernel) h
theorem S_X11_qFloor_0 {X : CX} {d : Nat} {y0 y2 : Int} {I R : PF} {Q : PV → PF → PF → Prop} (c1 : -9223372036854775808 ≤ y2 ∧ y2 < 9223372036854775808) (h1 : y2 ≠ 0 → PN X d mX11_qFloor 8 [(1, y0), (9, 0), (1, y2)] [] I R Q) (h2 : y2 = 0 → PN X d mX11_qFloor 6 [] [] I R Q) : PN X d mX11_qFloor 0 [(1, y0), (9, 0), (1, y2)] [] I R Q := by
  refine P_lload_n (n := 2) (q := 1) rfl rfl (by decide +kernel) ?_
  refine P_lconst (n := 0) (x := 0) (q := 2) rfl rfl (by decide +kernel) ?_
  refine B_lif_ne (off := 5) (t := 8) (q1 := 3) (q := 6) c1 ⟨by decide, by decide⟩ rfl (by decide +kernel) (by decide) rfl (by decide +kernel) ?_ ?_
  · exact fun g9 => (PW_sub (ls' := [(1, y0), (9, 0), (1, y2)]) ⟨Or.inr rfl, Or.inl rfl, Or.inr rfl, trivial⟩ (h1 g9))
  · exact fun g9 => (PW_sub (ls' := []) trivial (h2 g9))
theorem S_X11_qFloor_6 {X : CX} {d : Nat} {I R : PF} {Q : PV → PF → PF → Prop} (h : Q (1, 0) I R) : PN X d mX11_qFloor 6 [] [] I R Q := by
  refine P_lconst (n := 0) (x := 0) (q := 7) rfl rfl (by decide +kernel) ?_
  refine P_lret rfl (by decide +kernel) h
theorem S_X11_qFloor_8 {X : CX} {d : Nat} {y0 y2 : Int} {I R : PF} {Q : PV → PF → PF → Prop} (f1 : y2 ≠ 0) (c1 : -9223372036854775808 ≤ y0 ∧ y0 < 9223372036854775808) (c2 : -9223372036854775808 ≤ y2 ∧ y2 < 9223372036854775808) (c3 : -9223372036854775808 ≤ (y0.tmod y2) ∧ (y0.tmod y2) < 9223372036854775808) (h1 : (y0.tmod y2) = 0 → PN X d mX11_qFloor 53 [(9, 0), (9, 0), (9, 0), (9, 0), (1, (y0.tdiv y2))] [] I R Q) (h2 : (y0.tmod y2) ≠ 0 → PN X d mX11_qFloor 21 [(1, y0), (9, 0), (1, y2), (9, 0), (1, (y0.tdiv y2))] [] I R Q) : PN X d mX11_qFloor 8 [(1, y0), (9, 0), (1, y2)] [] I R Q := by
  refine P_lload_n (n := 0) (q := 9) rfl rfl (by decide +kernel) ?_
  refine P_lload_n (n := 2) (q := 10) rfl rfl (by decide +kernel) ?_
  refine B_ldiv (q := 11) c1 c2 f1 rfl (by decide +kernel) ?_
  refine P_lstore (n := 4) (by decide) (q := 13) rfl (by decide +kernel) ?_
  refine P_lload_n (n := 0) (q := 14) rfl rfl (by decide +kernel) ?_
  refine P_lload_n (n := 2) (q := 15) rfl rfl (by decide +kernel) ?_
  refine B_lrem (q := 16) c1 c2 f1 rfl (by decide +kernel) ?_
  refine P_lconst (n := 0) (x := 0) (q := 17) rfl rfl (by decide +kernel) ?_
  refine B_lif_eq (off := 35) (t := 53) (q1 := 18) (q := 21) c3 ⟨by decide, by decide⟩ rfl (by decide +kernel) (by decide) rfl (by decide +kernel) ?_ ?_
  · exact fun g9 => (PW_sub (ls' := [(9, 0), (9, 0), (9, 0), (9, 0), (1, (y0.tdiv y2))]) ⟨Or.inl rfl, Or.inl rfl, Or.inl rfl, Or.inl rfl, Or.inr rfl, trivial⟩ (h1 g9))
  · exact fun g9 => (PW_sub (ls' := [(1, y0), (9, 0), (1, y2), (9, 0), (1, (y0.tdiv y2))]) ⟨Or.inr rfl, Or.inl rfl, Or.inr rfl, Or.inl rfl, Or.inr rfl, trivial⟩ (h2 g9))
theorem S_X11_qFloor_21 {X : CX} {d : Nat} {y0 y2 y4 : Int} {I R : PF} {Q : PV → PF → PF → Prop} (c1 : -9223372036854775808 ≤ y0 ∧ y0 < 9223372036854775808) (h1 : 0 ≤ y0 → PN X d mX11_qFloor 31 [(9, 0), (9, 0), (1, y2), (9, 0), (1, y4)] [] I R Q) (h2 : y0 < 0 → PN X d mX11_qFloor 27 [(9, 0), (9, 0), (1, y2), (9, 0), (1, y4)] [] I R Q) : PN X d mX11_qFloor 21 [(1, y0), (9, 0), (1, y2), (9, 0), (1, y4)] [] I R Q := by
  refine P_lload_n (n := 0) (q := 22) rfl rfl (by decide +kernel) ?_
  refine P_lconst (n := 0) (x := 0) (q := 23) rfl rfl (by decide +kernel) ?_
  refine B_lif_ge (off := 7) (t := 31) (q1 := 24) (q := 27) c1 ⟨by decide, by decide⟩ rfl (by decide +kernel) (by decide) rfl (by decide +kernel) ?_ ?_
  · exact fun g9 => (PW_sub (ls' := [(9, 0), (9, 0), (1, y2), (9, 0), (1, y4)]) ⟨Or.inl rfl, Or.inl rfl, Or.inr rfl, Or.inl rfl, Or.inr rfl, trivial⟩ (h1 g9))
  · exact fun g9 => (PW_sub (ls' := [(9, 0), (9, 0), (1, y2), (9, 0), (1, y4)]) ⟨Or.inl rfl, Or.inl rfl, Or.inr rfl, Or.inl rfl, Or.inr rfl, trivial⟩ (h2 g9))
theorem S_X11_qFloor_27 {X : CX} {d : Nat} {y2 y4 : Int} {I R : PF} {Q : PV → PF → PF → Prop} (h : PN X d mX11_qFloor 32 [(9, 0), (9, 0), (1, y2), (9, 0), (1, y4)] [(0, 1)] I R Q) : PN X d mX11_qFloor 27 [(9, 0), (9, 0), (1, y2), (9, 0), (1, y4)] [] I R Q := by
  refine P_iconst (n := 1) (q := 28) rfl (by decide +kernel) ?_
  refine P_goto (off := 4) (t := 32) (by decide) (by decide +kernel) ?_
  exact (PW_sub (ls' := [(9, 0), (9, 0), (1, y2), (9, 0), (1, y4)]) ⟨Or.inl rfl, Or.inl rfl, Or.inr rfl, Or.inl rfl, Or.inr rfl, trivial⟩ h)
theorem S_X11_qFloor_31 {X : CX} {d : Nat} {y2 y4 : Int} {I R : PF} {Q : PV → PF → PF → Prop} (h : PN X d mX11_qFloor 32 [(9, 0), (9, 0), (1, y2), (9, 0), (1, y4)] [(0, 0)] I R Q) : PN X d mX11_qFloor 31 [(9, 0), (9, 0), (1, y2), (9, 0), (1, y4)] [] I R Q := by
  refine P_iconst (n := 0) (q := 32) rfl (by decide +kernel) ?_
  exact (PW_sub (ls' := [(9, 0), (9, 0), (1, y2), (9, 0), (1, y4)]) ⟨Or.inl rfl, Or.inl rfl, Or.inr rfl, Or.inl rfl, Or.inr rfl, trivial⟩ h)
theorem S_X11_qFloor_32 {X : CX} {d : Nat} {y2 y4 o0 : Int} {I R : PF} {Q : PV → PF → PF → Prop} (c1 : -9223372036854775808 ≤ y2 ∧ y2 < 9223372036854775808) (h1 : 0 ≤ y2 → PN X d mX11_qFloor 42 [(9, 0), (9, 0), (9, 0), (9, 0), (1, y4)] [(0, o0)] I R Q) (h2 : y2 < 0 → PN X d mX11_qFloor 38 [(9, 0), (9, 0), (9, 0), (9, 0), (1, y4)] [(0, o0)] I R Q) : PN X d mX11_qFloor 32 [(9, 0), (9, 0), (1, y2), (9, 0), (1, y4)] [(0, o0)] I R Q := by
  refine P_lload_n (n := 2) (q := 33) rfl rfl (by decide +kernel) ?_
  refine P_lconst (n := 0) (x := 0) (q := 34) rfl rfl (by decide +kernel) ?_
  refine B_lif_ge (off := 7) (t := 42) (q1 := 35) (q := 38) c1 ⟨by decide, by decide⟩ rfl (by decide +kernel) (by decide) rfl (by decide +kernel) ?_ ?_
  · exact fun g9 => (PW_sub (ls' := [(9, 0), (9, 0), (9, 0), (9, 0), (1, y4)]) ⟨Or.inl rfl, Or.inl rfl, Or.inl rfl, Or.inl rfl, Or.inr rfl, trivial⟩ (h1 g9))
  · exact fun g9 => (PW_sub (ls' := [(9, 0), (9, 0), (9, 0), (9, 0), (1, y4)]) ⟨Or.inl rfl, Or.inl rfl, Or.inl rfl, Or.inl rfl, Or.inr rfl, trivial⟩ (h2 g9))
theorem S_X11_qFloor_38 {X : CX} {d : Nat} {y4 o0 : Int} {I R : PF} {Q : PV → PF → PF → Prop} (h : PN X d mX11_qFloor 43 [(9, 0), (9, 0), (9, 0), (9, 0), (1, y4)] [(0, 1), (0, o0)] I R Q) : PN X d mX11_qFloor 38 [(9, 0), (9, 0), (9, 0), (9, 0), (1, y4)] [(0, o0)] I R Q := by
  refine P_iconst (n := 1) (q := 39) rfl (by decide +kernel) ?_
  refine P_goto (off := 4) (t := 43) (by decide) (by decide +kernel) ?_
  exact (PW_sub (ls' := [(9, 0), (9, 0), (9, 0), (9, 0), (1, y4)]) ⟨Or.inl rfl, Or.inl rfl, Or.inl rfl, Or.inl rfl, Or.inr rfl, trivial⟩ h)
theorem S_X11_qFloor_42 {X : CX} {d : Nat} {y4 o0 : Int} {I R : PF} {Q : PV → PF → PF → Prop} (h : PN X d mX11_qFloor 43 [(9, 0), (9, 0), (9, 0), (9, 0), (1, y4)] [(0, 0), (0, o0)] I R Q) : PN X d mX11_qFloor 42 [(9, 0), (9, 0), (9, 0), (9, 0), (1, y4)] [(0, o0)] I R Q := by
  refine P_iconst (n := 0) (q := 43) rfl (by decide +kernel) ?_
  exact (PW_sub (ls' := [(9, 0), (9, 0), (9, 0), (9, 0), (1, y4)]) ⟨Or.inl rfl, Or.inl rfl, Or.inl rfl, Or.inl rfl, Or.inr rfl, trivial⟩ h)
theorem S_X11_qFloor_43 {X : CX} {d : Nat} {y4 o0 o1 : Int} {I R : PF} {Q : PV → PF → PF → Prop} (c1 : -2147483648 ≤ o0 ∧ o0 < 2147483648) (c2 : -2147483648 ≤ o1 ∧ o1 < 2147483648) (h1 : o0 = o1 → PN X d mX11_qFloor 53 [(9, 0), (9, 0), (9, 0), (9, 0), (1, y4)] [] I R Q) (h2 : o0 ≠ o1 → PN X d mX11_qFloor 46 [(9, 0), (9, 0), (9, 0), (9, 0), (1, y4)] [] I R Q) : PN X d mX11_qFloor 43 [(9, 0), (9, 0), (9, 0), (9, 0), (1, y4)] [(0, o1), (0, o0)] I R Q := by
  refine B_icmp_eq (off := 10) (t := 53) (q := 46) c1 c2 (by decide) rfl (by decide +kernel) ?_ ?_
  · exact fun g9 => (PW_sub (ls' := [(9, 0), (9, 0), (9, 0), (9, 0), (1, y4)]) ⟨Or.inl rfl, Or.inl rfl, Or.inl rfl, Or.inl rfl, Or.inr rfl, trivial⟩ (h1 g9))
  · exact fun g9 => (PW_sub (ls' := [(9, 0), (9, 0), (9, 0), (9, 0), (1, y4)]) ⟨Or.inl rfl, Or.inl rfl, Or.inl rfl, Or.inl rfl, Or.inr rfl, trivial⟩ (h2 g9))
theorem S_X11_qFloor_46 {X : CX} {d : Nat} {y4 : Int} {I R : PF} {Q : PV → PF → PF → Prop} (h : PN X d mX11_qFloor 55 [] [(1, (y4 - 1))] I R Q) : PN X d mX11_qFloor 46 [(9, 0), (9, 0), (9, 0), (9, 0), (1, y4)] [] I R Q := by
  refine P_lload (n := 4) (q := 48) rfl rfl (by decide +kernel) ?_
  refine P_lconst (n := 1) (x := 1) (q := 49) rfl rfl (by decide +kernel) ?_
  refine P_lsub (q := 50) rfl (by decide +kernel) ?_
  refine P_goto (off := 5) (t := 55) (by decide) (by decide +kernel) ?_
  exact (PW_sub (ls' := []) trivial h)
theorem S_X11_qFloor_53 {X : CX} {d : Nat} {y4 : Int} {I R : PF} {Q : PV → PF → PF → Prop} (h : PN X d mX11_qFloor 55 [] [(1, y4)] I R Q) : PN X d mX11_qFloor 53 [(9, 0), (9, 0), (9, 0), (9, 0), (1, y4)] [] I R Q := by
  refine P_lload (n := 4) (q := 55) rfl rfl (by decide +kernel) ?_
  exact (PW_sub (ls' := []) trivial h)
theorem S_X11_qFloor_55 {X : CX} {d : Nat} {v0 : Int} {I R : PF} {Q : PV → PF → PF → Prop} (h : Q (1, v0) I R) : PN X d mX11_qFloor 55 [] [(1, v0)] I R Q := by
  refine P_lret rfl (by decide +kernel) h
theorem S_X11_qGoesOn_0 {X : CX} {d : Nat} {I R : PF} {Q : PV → PF → PF → Prop} (c1 : -2147483648 ≤ (I 306 5) ∧ (I 306 5) < 2147483648) (h1 : (I 306 5) ≠ 0 → PN X d mX11_qGoesOn 122 [(2, 306)] [] I R Q) (h2 : (I 306 5) = 0 → PN X d mX11_qGoesOn 7 [(2, 306)] [] I R Q) : PN X d mX11_qGoesOn 0 [(2, 306)] [] I R Q := by
  refine P_aload_n (n := 0) (q := 1) rfl rfl (by decide +kernel) ?_
  refine P_getf (q := 4) fX11_14 kM306 rfl (by decide +kernel) ?_
  refine B_if_ne (off := 118) (t := 122) (q := 7) c1 (by decide) rfl (by decide +kernel) ?_ ?_
  · exact fun g9 => (h1 g9)
  · exact fun g9 => (h2 g9)
theorem S_X11_qGoesOn_7 {X : CX} {d d1 : Nat} {I R : PF} {Q Q1 : PV → PF → PF → Prop} (e1 : d1 + 1 ≤ d) (hc : CN X d1 mX11_look [(2, 306)] I R Q1) (h : ∀ z I2 R2, Q1 (0, z) I2 R2 → PN X d mX11_qGoesOn 11 [(2, 306)] [(0, z)] I2 R2 Q) : PN X d mX11_qGoesOn 7 [(2, 306)] [] I R Q := by
  refine P_aload_n (n := 0) (q := 8) rfl rfl (by decide +kernel) ?_
  refine P_invV (As := []) (q := 11) oX11_look rfl kM306 kX11_26 e1 hMF (Nat.le_of_ble_eq_true rfl) hc rfl (by decide +kernel) (fun z I2 R2 hq => ?_)
  exact (h z I2 R2 hq)
theorem S_X11_qGoesOn_11 {X : CX} {d : Nat} {o0 : Int} {I R : PF} {Q : PV → PF → PF → Prop} (c1 : -2147483648 ≤ o0 ∧ o0 < 2147483648) (h1 : o0 ≠ 41 → PN X d mX11_qGoesOn 122 [(2, 306)] [] I R Q) (h2 : o0 = 41 → PN X d mX11_qGoesOn 16 [(2, 306)] [] I R Q) : PN X d mX11_qGoesOn 11 [(2, 306)] [(0, o0)] I R Q := by
  refine P_bipush (n := 41) (q := 13) rfl rfl (by decide +kernel) ?_
  refine B_icmp_ne (off := 109) (t := 122) (q := 16) c1 ⟨by decide, by decide⟩ (by decide) rfl (by decide +kernel) ?_ ?_
  · exact fun g9 => (h1 g9)
  · exact fun g9 => (h2 g9)
theorem S_X11_qGoesOn_16 {X : CX} {d d1 : Nat} {I R : PF} {Q Q1 : PV → PF → PF → Prop} (e1 : d1 + 1 ≤ d) (hc : CN X d1 mX11_qBracket [(2, 306)] I R Q1) (h : ∀ z I2 R2, Q1 (0, z) I2 R2 → PN X d mX11_qGoesOn 20 [(2, 306)] [(0, z)] I2 R2 Q) : PN X d mX11_qGoesOn 16 [(2, 306)] [] I R Q := by
  refine P_aload_n (n := 0) (q := 17) rfl rfl (by decide +kernel) ?_
  refine P_invV (As := []) (q := 20) oX11_qBracket rfl kM306 kX11_632 e1 hMF (Nat.le_of_ble_eq_true rfl) hc rfl (by decide +kernel) (fun z I2 R2 hq => ?_)
  exact (h z I2 R2 hq)
theorem S_X11_qGoesOn_20 {X : CX} {d : Nat} {o0 : Int} {I R : PF} {Q : PV → PF → PF → Prop} (c1 : -2147483648 ≤ o0 ∧ o0 < 2147483648) (h1 : o0 = 20 → PN X d mX11_qGoesOn 43 [(2, 306)] [] I R Q) (h2 : o0 ≠ 20 → PN X d mX11_qGoesOn 25 [(2, 306)] [] I R Q) : PN X d mX11_qGoesOn 20 [(2, 306)] [(0, o0)] I R Q := by
  refine P_bipush (n := 20) (q := 22) rfl rfl (by decide +kernel) ?_
  refine B_icmp_eq (off := 21) (t := 43) (q := 25) c1 ⟨by decide, by decide⟩ (by decide) rfl (by decide +kernel) ?_ ?_
  · exact fun g9 => (h1 g9)
  · exact fun g9 => (h2 g9)
theorem S_X11_qGoesOn_25 {X : CX} {d d1 : Nat} {I R : PF} {Q Q1 : PV → PF → PF → Prop} (e1 : d1 + 1 ≤ d) (hc : CN X d1 mX11_qBracket [(2, 306)] I R Q1) (h : ∀ z I2 R2, Q1 (0, z) I2 R2 → PN X d mX11_qGoesOn 29 [(2, 306)] [(0, z)] I2 R2 Q) : PN X d mX11_qGoesOn 25 [(2, 306)] [] I R Q := by
  refine P_aload_n (n := 0) (q := 26) rfl rfl (by decide +kernel) ?_
  refine P_invV (As := []) (q := 29) oX11_qBracket rfl kM306 kX11_632 e1 hMF (Nat.le_of_ble_eq_true rfl) hc rfl (by decide +kernel) (fun z I2 R2 hq => ?_)
  exact (h z I2 R2 hq)
theorem S_X11_qGoesOn_29 {X : CX} {d : Nat} {o0 : Int} {I R : PF} {Q : PV → PF → PF → Prop} (c1 : -2147483648 ≤ o0 ∧ o0 < 2147483648) (h1 : o0 = 23 → PN X d mX11_qGoesOn 43 [(2, 306)] [] I R Q) (h2 : o0 ≠ 23 → PN X d mX11_qGoesOn 34 [(2, 306)] [] I R Q) : PN X d mX11_qGoesOn 29 [(2, 306)] [(0, o0)] I R Q := by
  refine P_bipush (n := 23) (q := 31) rfl rfl (by decide +kernel) ?_
  refine B_icmp_eq (off := 12) (t := 43) (q := 34) c1 ⟨by decide, by decide⟩ (by decide) rfl (by decide +kernel) ?_ ?_
  · exact fun g9 => (h1 g9)
  · exact fun g9 => (h2 g9)
theorem S_X11_qGoesOn_34 {X : CX} {d d1 : Nat} {I R : PF} {Q Q1 : PV → PF → PF → Prop} (e1 : d1 + 1 ≤ d) (hc : CN X d1 mX11_qBracket [(2, 306)] I R Q1) (h : ∀ z I2 R2, Q1 (0, z) I2 R2 → PN X d mX11_qGoesOn 38 [(2, 306)] [(0, z)] I2 R2 Q) : PN X d mX11_qGoesOn 34 [(2, 306)] [] I R Q := by
  refine P_aload_n (n := 0) (q := 35) rfl rfl (by decide +kernel) ?_
  refine P_invV (As := []) (q := 38) oX11_qBracket rfl kM306 kX11_632 e1 hMF (Nat.le_of_ble_eq_true rfl) hc rfl (by decide +kernel) (fun z I2 R2 hq => ?_)
  exact (h z I2 R2 hq)
theorem S_X11_qGoesOn_38 {X : CX} {d : Nat} {o0 : Int} {I R : PF} {Q : PV → PF → PF → Prop} (c1 : -2147483648 ≤ o0 ∧ o0 < 2147483648) (h1 : o0 ≠ 24 → PN X d mX11_qGoesOn 122 [(2, 306)] [] I R Q) (h2 : o0 = 24 → PN X d mX11_qGoesOn 43 [(2, 306)] [] I R Q) : PN X d mX11_qGoesOn 38 [(2, 306)] [(0, o0)] I R Q := by
  refine P_bipush (n := 24) (q := 40) rfl rfl (by decide +kernel) ?_
  refine B_icmp_ne (off := 82) (t := 122) (q := 43) c1 ⟨by decide, by decide⟩ (by decide) rfl (by decide +kernel) ?_ ?_
  · exact fun g9 => (h1 g9)
  · exact fun g9 => (h2 g9)
theorem S_X11_qGoesOn_43 {X : CX} {d d1 : Nat} {I R : PF} {Q Q1 : PV → PF → PF → Prop} (e1 : d1 + 1 ≤ d) (hc : CN X d1 mX11_qDropsToBracket [(2, 306)] (u2 I 306 2 ((I 306 2) + 1)) R Q1) (h : ∀ z I2 R2, Q1 (9, z) I2 R2 → PN X d mX11_qGoesOn 57 [(2, 306)] [] I2 R2 Q) : PN X d mX11_qGoesOn 43 [(2, 306)] [] I R Q := by
  refine P_aload_n (n := 0) (q := 44) rfl rfl (by decide +kernel) ?_
  refine P_dup (q := 45) (Nat.ne_of_beq_eq_false rfl) rfl (by decide +kernel) ?_
  refine P_getf (q := 48) fX11_20 kM306 rfl (by decide +kernel) ?_
  refine P_iconst (n := 1) (q := 49) rfl (by decide +kernel) ?_
  refine P_iadd (q := 50) rfl (by decide +kernel) ?_
  refine P_putI (q := 53) wX11_20 (fun h => by cases h) kM306 rfl (by decide +kernel) ?_
  refine P_aload_n (n := 0) (q := 54) rfl rfl (by decide +kernel) ?_
  refine P_invV (As := []) (q := 57) oX11_qDropsToBracket rfl kM306 kX11_635 e1 hMF (Nat.le_of_ble_eq_true rfl) hc rfl (by decide +kernel) (fun z I2 R2 hq => ?_)
  exact (h z I2 R2 hq)
theorem S_X11_qGoesOn_57 {X : CX} {d : Nat} {I R : PF} {Q : PV → PF → PF → Prop} (hs : Shp R) (b1 : (0 : Int) ≤ ((u2 (u2 I 306 106 ((I 306 106) - 1)) 306 107 (((u2 I 306 106 ((I 306 106) - 1)) 306 107) - 1)) 306 106) ∧ ((u2 (u2 I 306 106 ((I 306 106) - 1)) 306 107 (((u2 I 306 106 ((I 306 106) - 1)) 306 107) - 1)) 306 106) < 1700) (c1 : -2147483648 ≤ ((u2 (u2 I 306 106 ((I 306 106) - 1)) 306 107 (((u2 I 306 106 ((I 306 106) - 1)) 306 107) - 1)) 380 ((u2 (u2 I 306 106 ((I 306 106) - 1)) 306 107 (((u2 I 306 106 ((I 306 106) - 1)) 306 107) - 1)) 306 106)) ∧ ((u2 (u2 I 306 106 ((I 306 106) - 1)) 306 107 (((u2 I 306 106 ((I 306 106) - 1)) 306 107) - 1)) 380 ((u2 (u2 I 306 106 ((I 306 106) - 1)) 306 107 (((u2 I 306 106 ((I 306 106) - 1)) 306 107) - 1)) 306 106)) < 2147483648) (h1 : ((u2 (u2 I 306 106 ((I 306 106) - 1)) 306 107 (((u2 I 306 106 ((I 306 106) - 1)) 306 107) - 1)) 380 ((u2 (u2 I 306 106 ((I 306 106) - 1)) 306 107 (((u2 I 306 106 ((I 306 106) - 1)) 306 107) - 1)) 306 106)) = 20 → PN X d mX11_qGoesOn 115 [(2, 306)] [] (u2 (u2 I 306 106 ((I 306 106) - 1)) 306 107 (((u2 I 306 106 ((I 306 106) - 1)) 306 107) - 1)) R Q) (h2 : ((u2 (u2 I 306 106 ((I 306 106) - 1)) 306 107 (((u2 I 306 106 ((I 306 106) - 1)) 306 107) - 1)) 380 ((u2 (u2 I 306 106 ((I 306 106) - 1)) 306 107 (((u2 I 306 106 ((I 306 106) - 1)) 306 107) - 1)) 306 106)) ≠ 20 → PN X d mX11_qGoesOn 91 [(2, 306)] [] (u2 (u2 I 306 106 ((I 306 106) - 1)) 306 107 (((u2 I 306 106 ((I 306 106) - 1)) 306 107) - 1)) R Q) : PN X d mX11_qGoesOn 57 [(2, 306)] [] I R Q := by
  refine P_aload_n (n := 0) (q := 58) rfl rfl (by decide +kernel) ?_
  refine P_dup (q := 59) (Nat.ne_of_beq_eq_false rfl) rfl (by decide +kernel) ?_
  refine P_getf (q := 62) fX11_235 kM306 rfl (by decide +kernel) ?_
  refine P_iconst (n := 1) (q := 63) rfl (by decide +kernel) ?_
  refine P_isub (q := 64) rfl (by decide +kernel) ?_
  refine P_putI (q := 67) wX11_235 (fun h => by cases h) kM306 rfl (by decide +kernel) ?_
  refine P_aload_n (n := 0) (q := 68) rfl rfl (by decide +kernel) ?_
  refine P_dup (q := 69) (Nat.ne_of_beq_eq_false rfl) rfl (by decide +kernel) ?_
  refine P_getf (q := 72) fX11_238 kM306 rfl (by decide +kernel) ?_
  refine P_iconst (n := 1) (q := 73) rfl (by decide +kernel) ?_
  refine P_isub (q := 74) rfl (by decide +kernel) ?_
  refine P_putI (q := 77) wX11_238 (fun h => by cases h) kM306 rfl (by decide +kernel) ?_
  refine P_aload_n (n := 0) (q := 78) rfl rfl (by decide +kernel) ?_
  refine B_getfR (q := 81) fX11_411 kM306 (rM306_105 hs) rfl (by decide +kernel) ?_
  refine P_aload_n (n := 0) (q := 82) rfl rfl (by decide +kernel) ?_
  refine P_getf (q := 85) fX11_235 kM306 rfl (by decide +kernel) ?_
  refine B_iaload (q := 86) kM380 nM380 (by decide) b1 rfl (by decide +kernel) ?_
  refine P_bipush (n := 20) (q := 88) rfl rfl (by decide +kernel) ?_
  refine B_icmp_eq (off := 27) (t := 115) (q := 91) c1 ⟨by decide, by decide⟩ (by decide) rfl (by decide +kernel) ?_ ?_
  · exact fun g9 => (h1 g9)
  · exact fun g9 => (h2 g9)
theorem S_X11_qGoesOn_91 {X : CX} {d : Nat} {I R : PF} {Q : PV → PF → PF → Prop} (hs : Shp R) (b1 : (0 : Int) ≤ (I 306 106) ∧ (I 306 106) < 1700) (c1 : -2147483648 ≤ (I 380 (I 306 106)) ∧ (I 380 (I 306 106)) < 2147483648) (h1 : (I 380 (I 306 106)) ≠ 23 → PN X d mX11_qGoesOn 110 [(2, 306)] [(2, 306)] I R Q) (h2 : (I 380 (I 306 106)) = 23 → PN X d mX11_qGoesOn 106 [(2, 306)] [(2, 306)] I R Q) : PN X d mX11_qGoesOn 91 [(2, 306)] [] I R Q := by
  refine P_aload_n (n := 0) (q := 92) rfl rfl (by decide +kernel) ?_
  refine P_aload_n (n := 0) (q := 93) rfl rfl (by decide +kernel) ?_
  refine B_getfR (q := 96) fX11_411 kM306 (rM306_105 hs) rfl (by decide +kernel) ?_
  refine P_aload_n (n := 0) (q := 97) rfl rfl (by decide +kernel) ?_
  refine P_getf (q := 100) fX11_235 kM306 rfl (by decide +kernel) ?_
  refine B_iaload (q := 101) kM380 nM380 (by decide) b1 rfl (by decide +kernel) ?_
  refine P_bipush (n := 23) (q := 103) rfl rfl (by decide +kernel) ?_
  refine B_icmp_ne (off := 7) (t := 110) (q := 106) c1 ⟨by decide, by decide⟩ (by decide) rfl (by decide +kernel) ?_ ?_
  · exact fun g9 => (h1 g9)
  · exact fun g9 => (h2 g9)
theorem S_X11_qGoesOn_106 {X : CX} {d : Nat} {I R : PF} {Q : PV → PF → PF → Prop} (h : PN X d mX11_qGoesOn 112 [(2, 306)] [(0, 5), (2, 306)] I R Q) : PN X d mX11_qGoesOn 106 [(2, 306)] [(2, 306)] I R Q := by
  refine P_iconst (n := 5) (q := 107) rfl (by decide +kernel) ?_
  refine P_goto (off := 5) (t := 112) (by decide) (by decide +kernel) ?_
  exact h
theorem S_X11_qGoesOn_110 {X : CX} {d : Nat} {I R : PF} {Q : PV → PF → PF → Prop} (h : PN X d mX11_qGoesOn 112 [(2, 306)] [(0, 6), (2, 306)] I R Q) : PN X d mX11_qGoesOn 110 [(2, 306)] [(2, 306)] I R Q := by
  refine P_bipush (n := 6) (q := 112) rfl rfl (by decide +kernel) ?_
  exact h
theorem S_X11_qGoesOn_112 {X : CX} {d d1 : Nat} {o1 : Int} {I R : PF} {Q Q1 : PV → PF → PF → Prop} (e1 : d1 + 1 ≤ d) (hc : CN X d1 mX11_qCode [(2, 306), (0, o1)] I R Q1) (h : ∀ z I2 R2, Q1 (9, z) I2 R2 → PN X d mX11_qGoesOn 115 [(2, 306)] [] I2 R2 Q) : PN X d mX11_qGoesOn 112 [(2, 306)] [(0, o1), (2, 306)] I R Q := by
  refine P_invV (As := [(0, o1)]) (q := 115) oX11_qCode rfl kM306 kX11_605 e1 hMF (Nat.le_of_ble_eq_true rfl) hc rfl (by decide +kernel) (fun z I2 R2 hq => ?_)
  exact (h z I2 R2 hq)
theorem S_X11_qGoesOn_115 {X : CX} {d d1 : Nat} {I R : PF} {Q Q1 : PV → PF → PF → Prop} (e1 : d1 + 1 ≤ d) (hc : CN X d1 mX11_qEndsPart [(2, 306)] I R Q1) (h : ∀ z I2 R2, Q1 (9, z) I2 R2 → PN X d mX11_qGoesOn 119 [(2, 306)] [] I2 R2 Q) : PN X d mX11_qGoesOn 115 [(2, 306)] [] I R Q := by
  refine P_aload_n (n := 0) (q := 116) rfl rfl (by decide +kernel) ?_
  refine P_invV (As := []) (q := 119) oX11_qEndsPart rfl kM306 kX11_629 e1 hMF (Nat.le_of_ble_eq_true rfl) hc rfl (by decide +kernel) (fun z I2 R2 hq => ?_)
  exact (h z I2 R2 hq)
theorem S_X11_qGoesOn_119 {X : CX} {d : Nat} {I R : PF} {Q : PV → PF → PF → Prop} (h : PN X d mX11_qGoesOn 0 [(2, 306)] [] I R Q) : PN X d mX11_qGoesOn 119 [(2, 306)] [] I R Q := by
  refine P_goto (off := (-119)) (t := 0) (by decide) (by decide +kernel) ?_
  exact h
theorem S_X11_qGoesOn_122 {X : CX} {d d1 : Nat} {I R : PF} {Q Q1 : PV → PF → PF → Prop} (e1 : d1 + 1 ≤ d) (hc : CN X d1 mX11_takesSign [(2, 306), (0, 42)] I R Q1) (h : ∀ z I2 R2, Q1 (0, z) I2 R2 → PN X d mX11_qGoesOn 128 [(2, 306)] [(0, z)] I2 R2 Q) : PN X d mX11_qGoesOn 122 [(2, 306)] [] I R Q := by
  refine P_aload_n (n := 0) (q := 123) rfl rfl (by decide +kernel) ?_
  refine P_bipush (n := 42) (q := 125) rfl rfl (by decide +kernel) ?_
  refine P_invV (As := [(0, 42)]) (q := 128) oX11_takesSign rfl kM306 kX11_48 e1 hMF (Nat.le_of_ble_eq_true rfl) hc rfl (by decide +kernel) (fun z I2 R2 hq => ?_)
  exact (h z I2 R2 hq)
theorem S_X11_qGoesOn_128 {X : CX} {d : Nat} {o0 : Int} {I R : PF} {Q : PV → PF → PF → Prop} (c1 : -2147483648 ≤ o0 ∧ o0 < 2147483648) (h1 : o0 ≠ 0 → PN X d mX11_qGoesOn 140 [(2, 306)] [] I R Q) (h2 : o0 = 0 → PN X d mX11_qGoesOn 131 [(2, 306)] [] I R Q) : PN X d mX11_qGoesOn 128 [(2, 306)] [(0, o0)] I R Q := by
  refine B_if_ne (off := 12) (t := 140) (q := 131) c1 (by decide) rfl (by decide +kernel) ?_ ?_
  · exact fun g9 => (h1 g9)
  · exact fun g9 => (h2 g9)
theorem S_X11_qGoesOn_131 {X : CX} {d d1 : Nat} {I R : PF} {Q Q1 : PV → PF → PF → Prop} (e1 : d1 + 1 ≤ d) (hc : CN X d1 mX11_takesSign [(2, 306), (0, 47)] I R Q1) (h : ∀ z I2 R2, Q1 (0, z) I2 R2 → PN X d mX11_qGoesOn 137 [(2, 306)] [(0, z)] I2 R2 Q) : PN X d mX11_qGoesOn 131 [(2, 306)] [] I R Q := by
  refine P_aload_n (n := 0) (q := 132) rfl rfl (by decide +kernel) ?_
  refine P_bipush (n := 47) (q := 134) rfl rfl (by decide +kernel) ?_
  refine P_invV (As := [(0, 47)]) (q := 137) oX11_takesSign rfl kM306 kX11_48 e1 hMF (Nat.le_of_ble_eq_true rfl) hc rfl (by decide +kernel) (fun z I2 R2 hq => ?_)
  exact (h z I2 R2 hq)
theorem S_X11_qGoesOn_137 {X : CX} {d : Nat} {o0 : Int} {I R : PF} {Q : PV → PF → PF → Prop} (c1 : -2147483648 ≤ o0 ∧ o0 < 2147483648) (h1 : o0 = 0 → PN X d mX11_qGoesOn 207 [(2, 306)] [] I R Q) (h2 : o0 ≠ 0 → PN X d mX11_qGoesOn 140 [(2, 306)] [] I R Q) : PN X d mX11_qGoesOn 137 [(2, 306)] [(0, o0)] I R Q := by
  refine B_if_eq (off := 70) (t := 207) (q := 140) c1 (by decide) rfl (by decide +kernel) ?_ ?_
  · exact fun g9 => (h1 g9)
  · exact fun g9 => (h2 g9)
theorem S_X11_qGoesOn_140 {X : CX} {d : Nat} {I R : PF} {Q : PV → PF → PF → Prop} (hs : Shp R) (b1 : (0 : Int) ≤ ((I 306 2) - 1) ∧ ((I 306 2) - 1) < 1600) (c1 : -2147483648 ≤ (I 307 ((I 306 2) - 1)) ∧ (I 307 ((I 306 2) - 1)) < 2147483648) (h1 : (I 307 ((I 306 2) - 1)) ≠ 42 → PN X d mX11_qGoesOn 160 [(2, 306)] [] I R Q) (h2 : (I 307 ((I 306 2) - 1)) = 42 → PN X d mX11_qGoesOn 156 [(2, 306)] [] I R Q) : PN X d mX11_qGoesOn 140 [(2, 306)] [] I R Q := by
  refine P_aload_n (n := 0) (q := 141) rfl rfl (by decide +kernel) ?_
  refine B_getfR (q := 144) fX11_11 kM306 (rM306_0 hs) rfl (by decide +kernel) ?_
  refine P_aload_n (n := 0) (q := 145) rfl rfl (by decide +kernel) ?_
  refine P_getf (q := 148) fX11_20 kM306 rfl (by decide +kernel) ?_
  refine P_iconst (n := 1) (q := 149) rfl (by decide +kernel) ?_
  refine P_isub (q := 150) rfl (by decide +kernel) ?_
  refine B_iaload (q := 151) kM307 nM307 (by decide) b1 rfl (by decide +kernel) ?_
  refine P_bipush (n := 42) (q := 153) rfl rfl (by decide +kernel) ?_
  refine B_icmp_ne (off := 7) (t := 160) (q := 156) c1 ⟨by decide, by decide⟩ (by decide) rfl (by decide +kernel) ?_ ?_
  · exact fun g9 => (h1 g9)
  · exact fun g9 => (h2 g9)
theorem S_X11_qGoesOn_156 {X : CX} {d : Nat} {I R : PF} {Q : PV → PF → PF → Prop} (h : PN X d mX11_qGoesOn 161 [(2, 306)] [(0, 3)] I R Q) : PN X d mX11_qGoesOn 156 [(2, 306)] [] I R Q := by
  refine P_iconst (n := 3) (q := 157) rfl (by decide +kernel) ?_
  refine P_goto (off := 4) (t := 161) (by decide) (by decide +kernel) ?_
  exact h
theorem S_X11_qGoesOn_160 {X : CX} {d : Nat} {I R : PF} {Q : PV → PF → PF → Prop} (h : PN X d mX11_qGoesOn 161 [(2, 306)] [(0, 4)] I R Q) : PN X d mX11_qGoesOn 160 [(2, 306)] [] I R Q := by
  refine P_iconst (n := 4) (q := 161) rfl (by decide +kernel) ?_
  exact h
theorem S_X11_qGoesOn_161 {X : CX} {d : Nat} {o0 : Int} {I R : PF} {Q : PV → PF → PF → Prop} (h : PN X d mX11_qGoesOn 162 [(2, 306), (0, o0)] [] I R Q) : PN X d mX11_qGoesOn 161 [(2, 306)] [(0, o0)] I R Q := by
  refine P_istore_n (n := 1) (by decide) (q := 162) rfl (by decide +kernel) ?_
  exact h
theorem S_X11_qGoesOn_162 {X : CX} {d d1 : Nat} {x1 : Int} {I R : PF} {Q Q1 : PV → PF → PF → Prop} (e1 : d1 + 1 ≤ d) (hc : CN X d1 mX11_qIsOn [(2, 306), (0, 3)] I R Q1) (h : ∀ z I2 R2, Q1 (0, z) I2 R2 → PN X d mX11_qGoesOn 167 [(2, 306), (0, x1)] [(0, z)] I2 R2 Q) : PN X d mX11_qGoesOn 162 [(2, 306), (0, x1)] [] I R Q := by
  refine P_aload_n (n := 0) (q := 163) rfl rfl (by decide +kernel) ?_
  refine P_iconst (n := 3) (q := 164) rfl (by decide +kernel) ?_
  refine P_invV (As := [(0, 3)]) (q := 167) oX11_qIsOn rfl kM306 kX11_638 e1 hMF (Nat.le_of_ble_eq_true rfl) hc rfl (by decide +kernel) (fun z I2 R2 hq => ?_)
  exact (h z I2 R2 hq)
theorem S_X11_qGoesOn_167 {X : CX} {d : Nat} {x1 o0 : Int} {I R : PF} {Q : PV → PF → PF → Prop} (c1 : -2147483648 ≤ o0 ∧ o0 < 2147483648) (h1 : o0 ≠ 0 → PN X d mX11_qGoesOn 178 [(2, 306), (0, x1)] [] I R Q) (h2 : o0 = 0 → PN X d mX11_qGoesOn 170 [(2, 306), (0, x1)] [] I R Q) : PN X d mX11_qGoesOn 167 [(2, 306), (0, x1)] [(0, o0)] I R Q := by
  refine B_if_ne (off := 11) (t := 178) (q := 170) c1 (by decide) rfl (by decide +kernel) ?_ ?_
  · exact fun g9 => (h1 g9)
  · exact fun g9 => (h2 g9)
theorem S_X11_qGoesOn_170 {X : CX} {d d1 : Nat} {x1 : Int} {I R : PF} {Q Q1 : PV → PF → PF → Prop} (e1 : d1 + 1 ≤ d) (hc : CN X d1 mX11_qIsOn [(2, 306), (0, 4)] I R Q1) (h : ∀ z I2 R2, Q1 (0, z) I2 R2 → PN X d mX11_qGoesOn 175 [(2, 306), (0, x1)] [(0, z)] I2 R2 Q) : PN X d mX11_qGoesOn 170 [(2, 306), (0, x1)] [] I R Q := by
  refine P_aload_n (n := 0) (q := 171) rfl rfl (by decide +kernel) ?_
  refine P_iconst (n := 4) (q := 172) rfl (by decide +kernel) ?_
  refine P_invV (As := [(0, 4)]) (q := 175) oX11_qIsOn rfl kM306 kX11_638 e1 hMF (Nat.le_of_ble_eq_true rfl) hc rfl (by decide +kernel) (fun z I2 R2 hq => ?_)
  exact (h z I2 R2 hq)
theorem S_X11_qGoesOn_175 {X : CX} {d : Nat} {x1 o0 : Int} {I R : PF} {Q : PV → PF → PF → Prop} (c1 : -2147483648 ≤ o0 ∧ o0 < 2147483648) (h1 : o0 = 0 → PN X d mX11_qGoesOn 185 [(2, 306), (0, x1)] [] I R Q) (h2 : o0 ≠ 0 → PN X d mX11_qGoesOn 178 [(2, 306), (0, x1)] [] I R Q) : PN X d mX11_qGoesOn 175 [(2, 306), (0, x1)] [(0, o0)] I R Q := by
  refine B_if_eq (off := 10) (t := 185) (q := 178) c1 (by decide) rfl (by decide +kernel) ?_ ?_
  · exact fun g9 => (h1 g9)
  · exact fun g9 => (h2 g9)
theorem S_X11_qGoesOn_178 {X : CX} {d d1 : Nat} {x1 : Int} {I R : PF} {Q Q1 : PV → PF → PF → Prop} (e1 : d1 + 1 ≤ d) (hc : CN X d1 mX11_qDrops [(2, 306)] I R Q1) (h : ∀ z I2 R2, Q1 (9, z) I2 R2 → PN X d mX11_qGoesOn 182 [(2, 306), (0, x1)] [] I2 R2 Q) : PN X d mX11_qGoesOn 178 [(2, 306), (0, x1)] [] I R Q := by
  refine P_aload_n (n := 0) (q := 179) rfl rfl (by decide +kernel) ?_
  refine P_invV (As := []) (q := 182) oX11_qDrops rfl kM306 kX11_611 e1 hMF (Nat.le_of_ble_eq_true rfl) hc rfl (by decide +kernel) (fun z I2 R2 hq => ?_)
  exact (h z I2 R2 hq)
theorem S_X11_qGoesOn_182 {X : CX} {d : Nat} {x1 : Int} {I R : PF} {Q : PV → PF → PF → Prop} (h : PN X d mX11_qGoesOn 162 [(2, 306), (0, x1)] [] I R Q) : PN X d mX11_qGoesOn 182 [(2, 306), (0, x1)] [] I R Q := by
  refine P_goto (off := (-20)) (t := 162) (by decide) (by decide +kernel) ?_
  exact h
theorem S_X11_qGoesOn_185 {X : CX} {d : Nat} {x1 : Int} {I R : PF} {Q : PV → PF → PF → Prop} (hs : Shp R) (b1 : (0 : Int) ≤ (I 306 106) ∧ (I 306 106) < 1700) (h : Q (0, 1) (u2 (u2 I 380 (I 306 106) x1) 306 106 (((u2 I 380 (I 306 106) x1) 306 106) + 1)) R) : PN X d mX11_qGoesOn 185 [(2, 306), (0, x1)] [] I R Q := by
  refine P_aload_n (n := 0) (q := 186) rfl rfl (by decide +kernel) ?_
  refine B_getfR (q := 189) fX11_411 kM306 (rM306_105 hs) rfl (by decide +kernel) ?_
  refine P_aload_n (n := 0) (q := 190) rfl rfl (by decide +kernel) ?_
  refine P_getf (q := 193) fX11_235 kM306 rfl (by decide +kernel) ?_
  refine P_iload_n (n := 1) (q := 194) rfl rfl (by decide +kernel) ?_
  refine B_iastore (q := 195) kM380 nM380 (by decide) b1 rfl (by decide +kernel) ?_
  refine P_aload_n (n := 0) (q := 196) rfl rfl (by decide +kernel) ?_
  refine P_dup (q := 197) (Nat.ne_of_beq_eq_false rfl) rfl (by decide +kernel) ?_
  refine P_getf (q := 200) fX11_235 kM306 rfl (by decide +kernel) ?_
  refine P_iconst (n := 1) (q := 201) rfl (by decide +kernel) ?_
  refine P_iadd (q := 202) rfl (by decide +kernel) ?_
  refine P_putI (q := 205) wX11_235 (fun h => by cases h) kM306 rfl (by decide +kernel) ?_
  refine P_iconst (n := 1) (q := 206) rfl (by decide +kernel) ?_
  refine P_zret rfl (Or.inr rfl) (by decide +kernel) h
theorem S_X11_qGoesOn_207 {X : CX} {d d1 : Nat} {I R : PF} {Q Q1 : PV → PF → PF → Prop} (e1 : d1 + 1 ≤ d) (hc : CN X d1 mX11_takesSign [(2, 306), (0, 43)] I R Q1) (h : ∀ z I2 R2, Q1 (0, z) I2 R2 → PN X d mX11_qGoesOn 213 [(2, 306)] [(0, z)] I2 R2 Q) : PN X d mX11_qGoesOn 207 [(2, 306)] [] I R Q := by
  refine P_aload_n (n := 0) (q := 208) rfl rfl (by decide +kernel) ?_
  refine P_bipush (n := 43) (q := 210) rfl rfl (by decide +kernel) ?_
  refine P_invV (As := [(0, 43)]) (q := 213) oX11_takesSign rfl kM306 kX11_48 e1 hMF (Nat.le_of_ble_eq_true rfl) hc rfl (by decide +kernel) (fun z I2 R2 hq => ?_)
  exact (h z I2 R2 hq)
theorem S_X11_qGoesOn_213 {X : CX} {d : Nat} {o0 : Int} {I R : PF} {Q : PV → PF → PF → Prop} (c1 : -2147483648 ≤ o0 ∧ o0 < 2147483648) (h1 : o0 ≠ 0 → PN X d mX11_qGoesOn 225 [(2, 306)] [] I R Q) (h2 : o0 = 0 → PN X d mX11_qGoesOn 216 [(2, 306)] [] I R Q) : PN X d mX11_qGoesOn 213 [(2, 306)] [(0, o0)] I R Q := by
  refine B_if_ne (off := 12) (t := 225) (q := 216) c1 (by decide) rfl (by decide +kernel) ?_ ?_
  · exact fun g9 => (h1 g9)
  · exact fun g9 => (h2 g9)
theorem S_X11_qGoesOn_216 {X : CX} {d d1 : Nat} {I R : PF} {Q Q1 : PV → PF → PF → Prop} (e1 : d1 + 1 ≤ d) (hc : CN X d1 mX11_takesSign [(2, 306), (0, 45)] I R Q1) (h : ∀ z I2 R2, Q1 (0, z) I2 R2 → PN X d mX11_qGoesOn 222 [(2, 306)] [(0, z)] I2 R2 Q) : PN X d mX11_qGoesOn 216 [(2, 306)] [] I R Q := by
  refine P_aload_n (n := 0) (q := 217) rfl rfl (by decide +kernel) ?_
  refine P_bipush (n := 45) (q := 219) rfl rfl (by decide +kernel) ?_
  refine P_invV (As := [(0, 45)]) (q := 222) oX11_takesSign rfl kM306 kX11_48 e1 hMF (Nat.le_of_ble_eq_true rfl) hc rfl (by decide +kernel) (fun z I2 R2 hq => ?_)
  exact (h z I2 R2 hq)
theorem S_X11_qGoesOn_222 {X : CX} {d : Nat} {o0 : Int} {I R : PF} {Q : PV → PF → PF → Prop} (c1 : -2147483648 ≤ o0 ∧ o0 < 2147483648) (h1 : o0 = 0 → PN X d mX11_qGoesOn 308 [(2, 306)] [] I R Q) (h2 : o0 ≠ 0 → PN X d mX11_qGoesOn 225 [(2, 306)] [] I R Q) : PN X d mX11_qGoesOn 222 [(2, 306)] [(0, o0)] I R Q := by
  refine B_if_eq (off := 86) (t := 308) (q := 225) c1 (by decide) rfl (by decide +kernel) ?_ ?_
  · exact fun g9 => (h1 g9)
  · exact fun g9 => (h2 g9)
theorem S_X11_qGoesOn_225 {X : CX} {d : Nat} {I R : PF} {Q : PV → PF → PF → Prop} (hs : Shp R) (b1 : (0 : Int) ≤ ((I 306 2) - 1) ∧ ((I 306 2) - 1) < 1600) (c1 : -2147483648 ≤ (I 307 ((I 306 2) - 1)) ∧ (I 307 ((I 306 2) - 1)) < 2147483648) (h1 : (I 307 ((I 306 2) - 1)) ≠ 43 → PN X d mX11_qGoesOn 245 [(2, 306)] [] I R Q) (h2 : (I 307 ((I 306 2) - 1)) = 43 → PN X d mX11_qGoesOn 241 [(2, 306)] [] I R Q) : PN X d mX11_qGoesOn 225 [(2, 306)] [] I R Q := by
  refine P_aload_n (n := 0) (q := 226) rfl rfl (by decide +kernel) ?_
  refine B_getfR (q := 229) fX11_11 kM306 (rM306_0 hs) rfl (by decide +kernel) ?_
  refine P_aload_n (n := 0) (q := 230) rfl rfl (by decide +kernel) ?_
  refine P_getf (q := 233) fX11_20 kM306 rfl (by decide +kernel) ?_
  refine P_iconst (n := 1) (q := 234) rfl (by decide +kernel) ?_
  refine P_isub (q := 235) rfl (by decide +kernel) ?_
  refine B_iaload (q := 236) kM307 nM307 (by decide) b1 rfl (by decide +kernel) ?_
  refine P_bipush (n := 43) (q := 238) rfl rfl (by decide +kernel) ?_
  refine B_icmp_ne (off := 7) (t := 245) (q := 241) c1 ⟨by decide, by decide⟩ (by decide) rfl (by decide +kernel) ?_ ?_
  · exact fun g9 => (h1 g9)
  · exact fun g9 => (h2 g9)
theorem S_X11_qGoesOn_241 {X : CX} {d : Nat} {I R : PF} {Q : PV → PF → PF → Prop} (h : PN X d mX11_qGoesOn 246 [(2, 306)] [(0, 1)] I R Q) : PN X d mX11_qGoesOn 241 [(2, 306)] [] I R Q := by
  refine P_iconst (n := 1) (q := 242) rfl (by decide +kernel) ?_
  refine P_goto (off := 4) (t := 246) (by decide) (by decide +kernel) ?_
  exact h
theorem S_X11_qGoesOn_245 {X : CX} {d : Nat} {I R : PF} {Q : PV → PF → PF → Prop} (h : PN X d mX11_qGoesOn 246 [(2, 306)] [(0, 2)] I R Q) : PN X d mX11_qGoesOn 245 [(2, 306)] [] I R Q := by
  refine P_iconst (n := 2) (q := 246) rfl (by decide +kernel) ?_
  exact h
theorem S_X11_qGoesOn_246 {X : CX} {d : Nat} {o0 : Int} {I R : PF} {Q : PV → PF → PF → Prop} (h : PN X d mX11_qGoesOn 247 [(2, 306), (0, o0)] [] I R Q) : PN X d mX11_qGoesOn 246 [(2, 306)] [(0, o0)] I R Q := by
  refine P_istore_n (n := 1) (by decide) (q := 247) rfl (by decide +kernel) ?_
  exact h
theorem S_X11_qGoesOn_247 {X : CX} {d d1 : Nat} {x1 : Int} {I R : PF} {Q Q1 : PV → PF → PF → Prop} (e1 : d1 + 1 ≤ d) (hc : CN X d1 mX11_qIsOn [(2, 306), (0, 3)] I R Q1) (h : ∀ z I2 R2, Q1 (0, z) I2 R2 → PN X d mX11_qGoesOn 252 [(2, 306), (0, x1)] [(0, z)] I2 R2 Q) : PN X d mX11_qGoesOn 247 [(2, 306), (0, x1)] [] I R Q := by
  refine P_aload_n (n := 0) (q := 248) rfl rfl (by decide +kernel) ?_
  refine P_iconst (n := 3) (q := 249) rfl (by decide +kernel) ?_
  refine P_invV (As := [(0, 3)]) (q := 252) oX11_qIsOn rfl kM306 kX11_638 e1 hMF (Nat.le_of_ble_eq_true rfl) hc rfl (by decide +kernel) (fun z I2 R2 hq => ?_)
  exact (h z I2 R2 hq)
theorem S_X11_qGoesOn_252 {X : CX} {d : Nat} {x1 o0 : Int} {I R : PF} {Q : PV → PF → PF → Prop} (c1 : -2147483648 ≤ o0 ∧ o0 < 2147483648) (h1 : o0 ≠ 0 → PN X d mX11_qGoesOn 279 [(2, 306), (0, x1)] [] I R Q) (h2 : o0 = 0 → PN X d mX11_qGoesOn 255 [(2, 306), (0, x1)] [] I R Q) : PN X d mX11_qGoesOn 252 [(2, 306), (0, x1)] [(0, o0)] I R Q := by
  refine B_if_ne (off := 27) (t := 279) (q := 255) c1 (by decide) rfl (by decide +kernel) ?_ ?_
  · exact fun g9 => (h1 g9)
  · exact fun g9 => (h2 g9)
theorem S_X11_qGoesOn_255 {X : CX} {d d1 : Nat} {x1 : Int} {I R : PF} {Q Q1 : PV → PF → PF → Prop} (e1 : d1 + 1 ≤ d) (hc : CN X d1 mX11_qIsOn [(2, 306), (0, 4)] I R Q1) (h : ∀ z I2 R2, Q1 (0, z) I2 R2 → PN X d mX11_qGoesOn 260 [(2, 306), (0, x1)] [(0, z)] I2 R2 Q) : PN X d mX11_qGoesOn 255 [(2, 306), (0, x1)] [] I R Q := by
  refine P_aload_n (n := 0) (q := 256) rfl rfl (by decide +kernel) ?_
  refine P_iconst (n := 4) (q := 257) rfl (by decide +kernel) ?_
  refine P_invV (As := [(0, 4)]) (q := 260) oX11_qIsOn rfl kM306 kX11_638 e1 hMF (Nat.le_of_ble_eq_true rfl) hc rfl (by decide +kernel) (fun z I2 R2 hq => ?_)
  exact (h z I2 R2 hq)
theorem S_X11_qGoesOn_260 {X : CX} {d : Nat} {x1 o0 : Int} {I R : PF} {Q : PV → PF → PF → Prop} (c1 : -2147483648 ≤ o0 ∧ o0 < 2147483648) (h1 : o0 ≠ 0 → PN X d mX11_qGoesOn 279 [(2, 306), (0, x1)] [] I R Q) (h2 : o0 = 0 → PN X d mX11_qGoesOn 263 [(2, 306), (0, x1)] [] I R Q) : PN X d mX11_qGoesOn 260 [(2, 306), (0, x1)] [(0, o0)] I R Q := by
  refine B_if_ne (off := 19) (t := 279) (q := 263) c1 (by decide) rfl (by decide +kernel) ?_ ?_
  · exact fun g9 => (h1 g9)
  · exact fun g9 => (h2 g9)
theorem S_X11_qGoesOn_263 {X : CX} {d d1 : Nat} {x1 : Int} {I R : PF} {Q Q1 : PV → PF → PF → Prop} (e1 : d1 + 1 ≤ d) (hc : CN X d1 mX11_qIsOn [(2, 306), (0, 1)] I R Q1) (h : ∀ z I2 R2, Q1 (0, z) I2 R2 → PN X d mX11_qGoesOn 268 [(2, 306), (0, x1)] [(0, z)] I2 R2 Q) : PN X d mX11_qGoesOn 263 [(2, 306), (0, x1)] [] I R Q := by
  refine P_aload_n (n := 0) (q := 264) rfl rfl (by decide +kernel) ?_
  refine P_iconst (n := 1) (q := 265) rfl (by decide +kernel) ?_
  refine P_invV (As := [(0, 1)]) (q := 268) oX11_qIsOn rfl kM306 kX11_638 e1 hMF (Nat.le_of_ble_eq_true rfl) hc rfl (by decide +kernel) (fun z I2 R2 hq => ?_)
  exact (h z I2 R2 hq)
theorem S_X11_qGoesOn_268 {X : CX} {d : Nat} {x1 o0 : Int} {I R : PF} {Q : PV → PF → PF → Prop} (c1 : -2147483648 ≤ o0 ∧ o0 < 2147483648) (h1 : o0 ≠ 0 → PN X d mX11_qGoesOn 279 [(2, 306), (0, x1)] [] I R Q) (h2 : o0 = 0 → PN X d mX11_qGoesOn 271 [(2, 306), (0, x1)] [] I R Q) : PN X d mX11_qGoesOn 268 [(2, 306), (0, x1)] [(0, o0)] I R Q := by
  refine B_if_ne (off := 11) (t := 279) (q := 271) c1 (by decide) rfl (by decide +kernel) ?_ ?_
  · exact fun g9 => (h1 g9)
  · exact fun g9 => (h2 g9)
theorem S_X11_qGoesOn_271 {X : CX} {d d1 : Nat} {x1 : Int} {I R : PF} {Q Q1 : PV → PF → PF → Prop} (e1 : d1 + 1 ≤ d) (hc : CN X d1 mX11_qIsOn [(2, 306), (0, 2)] I R Q1) (h : ∀ z I2 R2, Q1 (0, z) I2 R2 → PN X d mX11_qGoesOn 276 [(2, 306), (0, x1)] [(0, z)] I2 R2 Q) : PN X d mX11_qGoesOn 271 [(2, 306), (0, x1)] [] I R Q := by
  refine P_aload_n (n := 0) (q := 272) rfl rfl (by decide +kernel) ?_
  refine P_iconst (n := 2) (q := 273) rfl (by decide +kernel) ?_
  refine P_invV (As := [(0, 2)]) (q := 276) oX11_qIsOn rfl kM306 kX11_638 e1 hMF (Nat.le_of_ble_eq_true rfl) hc rfl (by decide +kernel) (fun z I2 R2 hq => ?_)
  exact (h z I2 R2 hq)
theorem S_X11_qGoesOn_276 {X : CX} {d : Nat} {x1 o0 : Int} {I R : PF} {Q : PV → PF → PF → Prop} (c1 : -2147483648 ≤ o0 ∧ o0 < 2147483648) (h1 : o0 = 0 → PN X d mX11_qGoesOn 286 [(2, 306), (0, x1)] [] I R Q) (h2 : o0 ≠ 0 → PN X d mX11_qGoesOn 279 [(2, 306), (0, x1)] [] I R Q) : PN X d mX11_qGoesOn 276 [(2, 306), (0, x1)] [(0, o0)] I R Q := by
  refine B_if_eq (off := 10) (t := 286) (q := 279) c1 (by decide) rfl (by decide +kernel) ?_ ?_
  · exact fun g9 => (h1 g9)
  · exact fun g9 => (h2 g9)
theorem S_X11_qGoesOn_279 {X : CX} {d d1 : Nat} {x1 : Int} {I R : PF} {Q Q1 : PV → PF → PF → Prop} (e1 : d1 + 1 ≤ d) (hc : CN X d1 mX11_qDrops [(2, 306)] I R Q1) (h : ∀ z I2 R2, Q1 (9, z) I2 R2 → PN X d mX11_qGoesOn 283 [(2, 306), (0, x1)] [] I2 R2 Q) : PN X d mX11_qGoesOn 279 [(2, 306), (0, x1)] [] I R Q := by
  refine P_aload_n (n := 0) (q := 280) rfl rfl (by decide +kernel) ?_
  refine P_invV (As := []) (q := 283) oX11_qDrops rfl kM306 kX11_611 e1 hMF (Nat.le_of_ble_eq_true rfl) hc rfl (by decide +kernel) (fun z I2 R2 hq => ?_)
  exact (h z I2 R2 hq)
theorem S_X11_qGoesOn_283 {X : CX} {d : Nat} {x1 : Int} {I R : PF} {Q : PV → PF → PF → Prop} (h : PN X d mX11_qGoesOn 247 [(2, 306), (0, x1)] [] I R Q) : PN X d mX11_qGoesOn 283 [(2, 306), (0, x1)] [] I R Q := by
  refine P_goto (off := (-36)) (t := 247) (by decide) (by decide +kernel) ?_
  exact h
theorem S_X11_qGoesOn_286 {X : CX} {d : Nat} {x1 : Int} {I R : PF} {Q : PV → PF → PF → Prop} (hs : Shp R) (b1 : (0 : Int) ≤ (I 306 106) ∧ (I 306 106) < 1700) (h : Q (0, 1) (u2 (u2 I 380 (I 306 106) x1) 306 106 (((u2 I 380 (I 306 106) x1) 306 106) + 1)) R) : PN X d mX11_qGoesOn 286 [(2, 306), (0, x1)] [] I R Q := by
  refine P_aload_n (n := 0) (q := 287) rfl rfl (by decide +kernel) ?_
  refine B_getfR (q := 290) fX11_411 kM306 (rM306_105 hs) rfl (by decide +kernel) ?_
  refine P_aload_n (n := 0) (q := 291) rfl rfl (by decide +kernel) ?_
  refine P_getf (q := 294) fX11_235 kM306 rfl (by decide +kernel) ?_
  refine P_iload_n (n := 1) (q := 295) rfl rfl (by decide +kernel) ?_
  refine B_iastore (q := 296) kM380 nM380 (by decide) b1 rfl (by decide +kernel) ?_
  refine P_aload_n (n := 0) (q := 297) rfl rfl (by decide +kernel) ?_
  refine P_dup (q := 298) (Nat.ne_of_beq_eq_false rfl) rfl (by decide +kernel) ?_
  refine P_getf (q := 301) fX11_235 kM306 rfl (by decide +kernel) ?_
  refine P_iconst (n := 1) (q := 302) rfl (by decide +kernel) ?_
  refine P_iadd (q := 303) rfl (by decide +kernel) ?_
  refine P_putI (q := 306) wX11_235 (fun h => by cases h) kM306 rfl (by decide +kernel) ?_
  refine P_iconst (n := 1) (q := 307) rfl (by decide +kernel) ?_
  refine P_zret rfl (Or.inr rfl) (by decide +kernel) h
theorem S_X11_qGoesOn_308 {X : CX} {d d1 : Nat} {I R : PF} {Q Q1 : PV → PF → PF → Prop} (e1 : d1 + 1 ≤ d) (hc : CN X d1 mX11_qBracket [(2, 306)] I R Q1) (h : ∀ z I2 R2, Q1 (0, z) I2 R2 → PN X d mX11_qGoesOn 312 [(2, 306)] [(0, z)] I2 R2 Q) : PN X d mX11_qGoesOn 308 [(2, 306)] [] I R Q := by
  refine P_aload_n (n := 0) (q := 309) rfl rfl (by decide +kernel) ?_
  refine P_invV (As := []) (q := 312) oX11_qBracket rfl kM306 kX11_632 e1 hMF (Nat.le_of_ble_eq_true rfl) hc rfl (by decide +kernel) (fun z I2 R2 hq => ?_)
  exact (h z I2 R2 hq)
theorem S_X11_qGoesOn_312 {X : CX} {d : Nat} {o0 : Int} {I R : PF} {Q : PV → PF → PF → Prop} (c1 : -2147483648 ≤ o0 ∧ o0 < 2147483648) (h1 : o0 = 21 → PN X d mX11_qGoesOn 326 [(2, 306)] [] I R Q) (h2 : o0 ≠ 21 → PN X d mX11_qGoesOn 317 [(2, 306)] [] I R Q) : PN X d mX11_qGoesOn 312 [(2, 306)] [(0, o0)] I R Q := by
  refine P_bipush (n := 21) (q := 314) rfl rfl (by decide +kernel) ?_
  refine B_icmp_eq (off := 12) (t := 326) (q := 317) c1 ⟨by decide, by decide⟩ (by decide) rfl (by decide +kernel) ?_ ?_
  · exact fun g9 => (h1 g9)
  · exact fun g9 => (h2 g9)
theorem S_X11_qGoesOn_317 {X : CX} {d d1 : Nat} {I R : PF} {Q Q1 : PV → PF → PF → Prop} (e1 : d1 + 1 ≤ d) (hc : CN X d1 mX11_qBracket [(2, 306)] I R Q1) (h : ∀ z I2 R2, Q1 (0, z) I2 R2 → PN X d mX11_qGoesOn 321 [(2, 306)] [(0, z)] I2 R2 Q) : PN X d mX11_qGoesOn 317 [(2, 306)] [] I R Q := by
  refine P_aload_n (n := 0) (q := 318) rfl rfl (by decide +kernel) ?_
  refine P_invV (As := []) (q := 321) oX11_qBracket rfl kM306 kX11_632 e1 hMF (Nat.le_of_ble_eq_true rfl) hc rfl (by decide +kernel) (fun z I2 R2 hq => ?_)
  exact (h z I2 R2 hq)
theorem S_X11_qGoesOn_321 {X : CX} {d : Nat} {o0 : Int} {I R : PF} {Q : PV → PF → PF → Prop} (c1 : -2147483648 ≤ o0 ∧ o0 < 2147483648) (h1 : o0 ≠ 22 → PN X d mX11_qGoesOn 362 [(2, 306)] [] I R Q) (h2 : o0 = 22 → PN X d mX11_qGoesOn 326 [(2, 306)] [] I R Q) : PN X d mX11_qGoesOn 321 [(2, 306)] [(0, o0)] I R Q := by
  refine P_bipush (n := 22) (q := 323) rfl rfl (by decide +kernel) ?_
  refine B_icmp_ne (off := 39) (t := 362) (q := 326) c1 ⟨by decide, by decide⟩ (by decide) rfl (by decide +kernel) ?_ ?_
  · exact fun g9 => (h1 g9)
  · exact fun g9 => (h2 g9)
theorem S_X11_qGoesOn_326 {X : CX} {d d1 : Nat} {I R : PF} {Q Q1 : PV → PF → PF → Prop} (e1 : d1 + 1 ≤ d) (hc : CN X d1 mX11_asksSign [(2, 306), (0, 44)] I R Q1) (h : ∀ z I2 R2, Q1 (9, z) I2 R2 → PN X d mX11_qGoesOn 332 [(2, 306)] [] I2 R2 Q) : PN X d mX11_qGoesOn 326 [(2, 306)] [] I R Q := by
  refine P_aload_n (n := 0) (q := 327) rfl rfl (by decide +kernel) ?_
  refine P_bipush (n := 44) (q := 329) rfl rfl (by decide +kernel) ?_
  refine P_invV (As := [(0, 44)]) (q := 332) oX11_asksSign rfl kM306 kX11_192 e1 hMF (Nat.le_of_ble_eq_true rfl) hc rfl (by decide +kernel) (fun z I2 R2 hq => ?_)
  exact (h z I2 R2 hq)
theorem S_X11_qGoesOn_332 {X : CX} {d : Nat} {I R : PF} {Q : PV → PF → PF → Prop} (c1 : -2147483648 ≤ (I 306 5) ∧ (I 306 5) < 2147483648) (h1 : (I 306 5) = 0 → PN X d mX11_qGoesOn 341 [(2, 306)] [] I R Q) (h2 : (I 306 5) ≠ 0 → PN X d mX11_qGoesOn 339 [] [] I R Q) : PN X d mX11_qGoesOn 332 [(2, 306)] [] I R Q := by
  refine P_aload_n (n := 0) (q := 333) rfl rfl (by decide +kernel) ?_
  refine P_getf (q := 336) fX11_14 kM306 rfl (by decide +kernel) ?_
  refine B_if_eq (off := 5) (t := 341) (q := 339) c1 (by decide) rfl (by decide +kernel) ?_ ?_
  · exact fun g9 => (h1 g9)
  · exact fun g9 => (PW_sub (ls' := []) trivial (h2 g9))
theorem S_X11_qGoesOn_339 {X : CX} {d : Nat} {I R : PF} {Q : PV → PF → PF → Prop} (h : Q (0, 0) I R) : PN X d mX11_qGoesOn 339 [] [] I R Q := by
  refine P_iconst (n := 0) (q := 340) rfl (by decide +kernel) ?_
  refine P_zret rfl (Or.inl rfl) (by decide +kernel) h
theorem S_X11_qGoesOn_341 {X : CX} {d d1 : Nat} {I R : PF} {Q Q1 : PV → PF → PF → Prop} (e1 : d1 + 1 ≤ d) (hc : CN X d1 mX11_qDropsToBracket [(2, 306)] I R Q1) (h : ∀ z I2 R2, Q1 (9, z) I2 R2 → PN X d mX11_qGoesOn 345 [(2, 306)] [] I2 R2 Q) : PN X d mX11_qGoesOn 341 [(2, 306)] [] I R Q := by
  refine P_aload_n (n := 0) (q := 342) rfl rfl (by decide +kernel) ?_
  refine P_invV (As := []) (q := 345) oX11_qDropsToBracket rfl kM306 kX11_635 e1 hMF (Nat.le_of_ble_eq_true rfl) hc rfl (by decide +kernel) (fun z I2 R2 hq => ?_)
  exact (h z I2 R2 hq)
theorem S_X11_qGoesOn_345 {X : CX} {d : Nat} {I R : PF} {Q : PV → PF → PF → Prop} (hs : Shp R) (b1 : (0 : Int) ≤ ((I 306 106) - 1) ∧ ((I 306 106) - 1) < 1700) (h : Q (0, 1) (u2 I 380 ((I 306 106) - 1) ((I 380 ((I 306 106) - 1)) + 2)) R) : PN X d mX11_qGoesOn 345 [(2, 306)] [] I R Q := by
  refine P_aload_n (n := 0) (q := 346) rfl rfl (by decide +kernel) ?_
  refine B_getfR (q := 349) fX11_411 kM306 (rM306_105 hs) rfl (by decide +kernel) ?_
  refine P_aload_n (n := 0) (q := 350) rfl rfl (by decide +kernel) ?_
  refine P_getf (q := 353) fX11_235 kM306 rfl (by decide +kernel) ?_
  refine P_iconst (n := 1) (q := 354) rfl (by decide +kernel) ?_
  refine P_isub (q := 355) rfl (by decide +kernel) ?_
  refine P_dup2 (q := 356) (Nat.ne_of_beq_eq_false rfl) (Nat.ne_of_beq_eq_false rfl) rfl (by decide +kernel) ?_
  refine B_iaload (q := 357) kM380 nM380 (by decide) b1 rfl (by decide +kernel) ?_
  refine P_iconst (n := 2) (q := 358) rfl (by decide +kernel) ?_
  refine P_iadd (q := 359) rfl (by decide +kernel) ?_
  refine B_iastore (q := 360) kM380 nM380 (by decide) b1 rfl (by decide +kernel) ?_
  refine P_iconst (n := 1) (q := 361) rfl (by decide +kernel) ?_
  refine P_zret rfl (Or.inr rfl) (by decide +kernel) h
theorem S_X11_qGoesOn_362 {X : CX} {d d1 : Nat} {I R : PF} {Q Q1 : PV → PF → PF → Prop} (e1 : d1 + 1 ≤ d) (hc : CN X d1 mX11_qBracket [(2, 306)] I R Q1) (h : ∀ z I2 R2, Q1 (0, z) I2 R2 → PN X d mX11_qGoesOn 366 [(2, 306)] [(0, z)] I2 R2 Q) : PN X d mX11_qGoesOn 362 [(2, 306)] [] I R Q := by
  refine P_aload_n (n := 0) (q := 363) rfl rfl (by decide +kernel) ?_
  refine P_invV (As := []) (q := 366) oX11_qBracket rfl kM306 kX11_632 e1 hMF (Nat.le_of_ble_eq_true rfl) hc rfl (by decide +kernel) (fun z I2 R2 hq => ?_)
  exact (h z I2 R2 hq)
theorem S_X11_qGoesOn_366 {X : CX} {d : Nat} {o0 : Int} {I R : PF} {Q : PV → PF → PF → Prop} (c1 : -2147483648 ≤ o0 ∧ o0 < 2147483648) (h1 : o0 = (-1) → PN X d mX11_qGoesOn 386 [] [] I R Q) (h2 : o0 ≠ (-1) → PN X d mX11_qGoesOn 370 [(2, 306)] [] I R Q) : PN X d mX11_qGoesOn 366 [(2, 306)] [(0, o0)] I R Q := by
  refine P_iconst (n := (-1)) (q := 367) rfl (by decide +kernel) ?_
  refine B_icmp_eq (off := 19) (t := 386) (q := 370) c1 ⟨by decide, by decide⟩ (by decide) rfl (by decide +kernel) ?_ ?_
  · exact fun g9 => (PW_sub (ls' := []) trivial (h1 g9))
  · exact fun g9 => (h2 g9)
theorem S_X11_qGoesOn_370 {X : CX} {d : Nat} {I R : PF} {Q : PV → PF → PF → Prop} (c1 : -2147483648 ≤ (I 306 5) ∧ (I 306 5) < 2147483648) (h1 : (I 306 5) ≠ 0 → PN X d mX11_qGoesOn 386 [] [] I R Q) (h2 : (I 306 5) = 0 → PN X d mX11_qGoesOn 377 [(2, 306)] [] I R Q) : PN X d mX11_qGoesOn 370 [(2, 306)] [] I R Q := by
  refine P_aload_n (n := 0) (q := 371) rfl rfl (by decide +kernel) ?_
  refine P_getf (q := 374) fX11_14 kM306 rfl (by decide +kernel) ?_
  refine B_if_ne (off := 12) (t := 386) (q := 377) c1 (by decide) rfl (by decide +kernel) ?_ ?_
  · exact fun g9 => (PW_sub (ls' := []) trivial (h1 g9))
  · exact fun g9 => (h2 g9)
theorem S_X11_qGoesOn_377 {X : CX} {d d1 : Nat} {I R : PF} {Q Q1 : PV → PF → PF → Prop} (e1 : d1 + 1 ≤ d) (hc : CN X d1 mX11_fail [(2, 306), (0, 1), (0, (I 306 2))] I R Q1) (h : ∀ z I2 R2, Q1 (9, z) I2 R2 → PN X d mX11_qGoesOn 386 [] [] I2 R2 Q) : PN X d mX11_qGoesOn 377 [(2, 306)] [] I R Q := by
  refine P_aload_n (n := 0) (q := 378) rfl rfl (by decide +kernel) ?_
  refine P_iconst (n := 1) (q := 379) rfl (by decide +kernel) ?_
  refine P_aload_n (n := 0) (q := 380) rfl rfl (by decide +kernel) ?_
  refine P_getf (q := 383) fX11_20 kM306 rfl (by decide +kernel) ?_
  refine P_invV (As := [(0, 1), (0, (I 306 2))]) (q := 386) oX11_fail rfl kM306 kX11_44 e1 hMF (Nat.le_of_ble_eq_true rfl) hc rfl (by decide +kernel) (fun z I2 R2 hq => ?_)
  exact (PW_sub (ls' := []) trivial (h z I2 R2 hq))
theorem S_X11_qGoesOn_386 {X : CX} {d : Nat} {I R : PF} {Q : PV → PF → PF → Prop} (h : Q (0, 0) I R) : PN X d mX11_qGoesOn 386 [] [] I R Q := by
  refine P_iconst (n := 0) (q := 387) rfl (by decide +kernel) ?_
  refine P_zret rfl (Or.inl rfl) (by decide +kernel) h
theorem S_X11_qGoesOnTest_0 {X : CX} {d : Nat} {I R : PF} {Q : PV → PF → PF → Prop} (c1 : -2147483648 ≤ (I 306 5) ∧ (I 306 5) < 2147483648) (h1 : (I 306 5) ≠ 0 → PN X d mX11_qGoesOnTest 76 [(2, 306)] [] I R Q) (h2 : (I 306 5) = 0 → PN X d mX11_qGoesOnTest 7 [(2, 306)] [] I R Q) : PN X d mX11_qGoesOnTest 0 [(2, 306)] [] I R Q := by
  refine P_aload_n (n := 0) (q := 1) rfl rfl (by decide +kernel) ?_
  refine P_getf (q := 4) fX11_14 kM306 rfl (by decide +kernel) ?_
  refine B_if_ne (off := 72) (t := 76) (q := 7) c1 (by decide) rfl (by decide +kernel) ?_ ?_
  · exact fun g9 => (h1 g9)
  · exact fun g9 => (h2 g9)
theorem S_X11_qGoesOnTest_7 {X : CX} {d d1 : Nat} {I R : PF} {Q Q1 : PV → PF → PF → Prop} (e1 : d1 + 1 ≤ d) (hc : CN X d1 mX11_look [(2, 306)] I R Q1) (h : ∀ z I2 R2, Q1 (0, z) I2 R2 → PN X d mX11_qGoesOnTest 11 [(2, 306)] [(0, z)] I2 R2 Q) : PN X d mX11_qGoesOnTest 7 [(2, 306)] [] I R Q := by
  refine P_aload_n (n := 0) (q := 8) rfl rfl (by decide +kernel) ?_
  refine P_invV (As := []) (q := 11) oX11_look rfl kM306 kX11_26 e1 hMF (Nat.le_of_ble_eq_true rfl) hc rfl (by decide +kernel) (fun z I2 R2 hq => ?_)
  exact (h z I2 R2 hq)
theorem S_X11_qGoesOnTest_11 {X : CX} {d : Nat} {o0 : Int} {I R : PF} {Q : PV → PF → PF → Prop} (c1 : -2147483648 ≤ o0 ∧ o0 < 2147483648) (h1 : o0 ≠ 93 → PN X d mX11_qGoesOnTest 76 [(2, 306)] [] I R Q) (h2 : o0 = 93 → PN X d mX11_qGoesOnTest 16 [(2, 306)] [] I R Q) : PN X d mX11_qGoesOnTest 11 [(2, 306)] [(0, o0)] I R Q := by
  refine P_bipush (n := 93) (q := 13) rfl rfl (by decide +kernel) ?_
  refine B_icmp_ne (off := 63) (t := 76) (q := 16) c1 ⟨by decide, by decide⟩ (by decide) rfl (by decide +kernel) ?_ ?_
  · exact fun g9 => (h1 g9)
  · exact fun g9 => (h2 g9)
theorem S_X11_qGoesOnTest_16 {X : CX} {d d1 : Nat} {I R : PF} {Q Q1 : PV → PF → PF → Prop} (e1 : d1 + 1 ≤ d) (hc : CN X d1 mX11_qHasSquare [(2, 306)] I R Q1) (h : ∀ z I2 R2, Q1 (0, z) I2 R2 → PN X d mX11_qGoesOnTest 20 [(2, 306)] [(0, z)] I2 R2 Q) : PN X d mX11_qGoesOnTest 16 [(2, 306)] [] I R Q := by
  refine P_aload_n (n := 0) (q := 17) rfl rfl (by decide +kernel) ?_
  refine P_invV (As := []) (q := 20) oX11_qHasSquare rfl kM306 kX11_656 e1 hMF (Nat.le_of_ble_eq_true rfl) hc rfl (by decide +kernel) (fun z I2 R2 hq => ?_)
  exact (h z I2 R2 hq)
theorem S_X11_qGoesOnTest_20 {X : CX} {d : Nat} {o0 : Int} {I R : PF} {Q : PV → PF → PF → Prop} (c1 : -2147483648 ≤ o0 ∧ o0 < 2147483648) (h1 : o0 = 0 → PN X d mX11_qGoesOnTest 76 [(2, 306)] [] I R Q) (h2 : o0 ≠ 0 → PN X d mX11_qGoesOnTest 23 [(2, 306)] [] I R Q) : PN X d mX11_qGoesOnTest 20 [(2, 306)] [(0, o0)] I R Q := by
  refine B_if_eq (off := 56) (t := 76) (q := 23) c1 (by decide) rfl (by decide +kernel) ?_ ?_
  · exact fun g9 => (h1 g9)
  · exact fun g9 => (h2 g9)
theorem S_X11_qGoesOnTest_23 {X : CX} {d : Nat} {I R : PF} {Q : PV → PF → PF → Prop} (h : PN X d mX11_qGoesOnTest 33 [(2, 306)] [] (u2 I 306 2 ((I 306 2) + 1)) R Q) : PN X d mX11_qGoesOnTest 23 [(2, 306)] [] I R Q := by
  refine P_aload_n (n := 0) (q := 24) rfl rfl (by decide +kernel) ?_
  refine P_dup (q := 25) (Nat.ne_of_beq_eq_false rfl) rfl (by decide +kernel) ?_
  refine P_getf (q := 28) fX11_20 kM306 rfl (by decide +kernel) ?_
  refine P_iconst (n := 1) (q := 29) rfl (by decide +kernel) ?_
  refine P_iadd (q := 30) rfl (by decide +kernel) ?_
  refine P_putI (q := 33) wX11_20 (fun h => by cases h) kM306 rfl (by decide +kernel) ?_
  exact h
theorem S_X11_qGoesOnTest_33 {X : CX} {d d1 : Nat} {I R : PF} {Q Q1 : PV → PF → PF → Prop} (e1 : d1 + 1 ≤ d) (hc : CN X d1 mX11_qIsOn [(2, 306), (0, 25)] I R Q1) (h : ∀ z I2 R2, Q1 (0, z) I2 R2 → PN X d mX11_qGoesOnTest 39 [(2, 306)] [(0, z)] I2 R2 Q) : PN X d mX11_qGoesOnTest 33 [(2, 306)] [] I R Q := by
  refine P_aload_n (n := 0) (q := 34) rfl rfl (by decide +kernel) ?_
  refine P_bipush (n := 25) (q := 36) rfl rfl (by decide +kernel) ?_
  refine P_invV (As := [(0, 25)]) (q := 39) oX11_qIsOn rfl kM306 kX11_638 e1 hMF (Nat.le_of_ble_eq_true rfl) hc rfl (by decide +kernel) (fun z I2 R2 hq => ?_)
  exact (h z I2 R2 hq)
theorem S_X11_qGoesOnTest_39 {X : CX} {d : Nat} {o0 : Int} {I R : PF} {Q : PV → PF → PF → Prop} (c1 : -2147483648 ≤ o0 ∧ o0 < 2147483648) (h1 : o0 ≠ 0 → PN X d mX11_qGoesOnTest 49 [(2, 306)] [] I R Q) (h2 : o0 = 0 → PN X d mX11_qGoesOnTest 42 [(2, 306)] [] I R Q) : PN X d mX11_qGoesOnTest 39 [(2, 306)] [(0, o0)] I R Q := by
  refine B_if_ne (off := 10) (t := 49) (q := 42) c1 (by decide) rfl (by decide +kernel) ?_ ?_
  · exact fun g9 => (h1 g9)
  · exact fun g9 => (h2 g9)
theorem S_X11_qGoesOnTest_42 {X : CX} {d d1 : Nat} {I R : PF} {Q Q1 : PV → PF → PF → Prop} (e1 : d1 + 1 ≤ d) (hc : CN X d1 mX11_qDrops [(2, 306)] I R Q1) (h : ∀ z I2 R2, Q1 (9, z) I2 R2 → PN X d mX11_qGoesOnTest 46 [(2, 306)] [] I2 R2 Q) : PN X d mX11_qGoesOnTest 42 [(2, 306)] [] I R Q := by
  refine P_aload_n (n := 0) (q := 43) rfl rfl (by decide +kernel) ?_
  refine P_invV (As := []) (q := 46) oX11_qDrops rfl kM306 kX11_611 e1 hMF (Nat.le_of_ble_eq_true rfl) hc rfl (by decide +kernel) (fun z I2 R2 hq => ?_)
  exact (h z I2 R2 hq)
theorem S_X11_qGoesOnTest_46 {X : CX} {d : Nat} {I R : PF} {Q : PV → PF → PF → Prop} (h : PN X d mX11_qGoesOnTest 33 [(2, 306)] [] I R Q) : PN X d mX11_qGoesOnTest 46 [(2, 306)] [] I R Q := by
  refine P_goto (off := (-13)) (t := 33) (by decide) (by decide +kernel) ?_
  exact h
theorem S_X11_qGoesOnTest_49 {X : CX} {d d1 : Nat} {I R : PF} {Q Q1 : PV → PF → PF → Prop} (e1 : d1 + 1 ≤ d) (hc : CN X d1 mX11_qDropsNots [(2, 306)] (u2 (u2 I 306 106 ((I 306 106) - 1)) 306 107 (((u2 I 306 106 ((I 306 106) - 1)) 306 107) - 1)) R Q1) (h : ∀ z I2 R2, Q1 (9, z) I2 R2 → PN X d mX11_qGoesOnTest 73 [(2, 306)] [] I2 R2 Q) : PN X d mX11_qGoesOnTest 49 [(2, 306)] [] I R Q := by
  refine P_aload_n (n := 0) (q := 50) rfl rfl (by decide +kernel) ?_
  refine P_dup (q := 51) (Nat.ne_of_beq_eq_false rfl) rfl (by decide +kernel) ?_
  refine P_getf (q := 54) fX11_235 kM306 rfl (by decide +kernel) ?_
  refine P_iconst (n := 1) (q := 55) rfl (by decide +kernel) ?_
  refine P_isub (q := 56) rfl (by decide +kernel) ?_
  refine P_putI (q := 59) wX11_235 (fun h => by cases h) kM306 rfl (by decide +kernel) ?_
  refine P_aload_n (n := 0) (q := 60) rfl rfl (by decide +kernel) ?_
  refine P_dup (q := 61) (Nat.ne_of_beq_eq_false rfl) rfl (by decide +kernel) ?_
  refine P_getf (q := 64) fX11_238 kM306 rfl (by decide +kernel) ?_
  refine P_iconst (n := 1) (q := 65) rfl (by decide +kernel) ?_
  refine P_isub (q := 66) rfl (by decide +kernel) ?_
  refine P_putI (q := 69) wX11_238 (fun h => by cases h) kM306 rfl (by decide +kernel) ?_
  refine P_aload_n (n := 0) (q := 70) rfl rfl (by decide +kernel) ?_
  refine P_invV (As := []) (q := 73) oX11_qDropsNots rfl kM306 kX11_650 e1 hMF (Nat.le_of_ble_eq_true rfl) hc rfl (by decide +kernel) (fun z I2 R2 hq => ?_)
  exact (h z I2 R2 hq)
theorem S_X11_qGoesOnTest_73 {X : CX} {d : Nat} {I R : PF} {Q : PV → PF → PF → Prop} (h : PN X d mX11_qGoesOnTest 0 [(2, 306)] [] I R Q) : PN X d mX11_qGoesOnTest 73 [(2, 306)] [] I R Q := by
  refine P_goto (off := (-73)) (t := 0) (by decide) (by decide +kernel) ?_
  exact h
theorem S_X11_qGoesOnTest_76 {X : CX} {d d1 : Nat} {I R : PF} {Q Q1 : PV → PF → PF → Prop} (hs : Shp R) (e1 : d1 + 1 ≤ d) (hc : CN X d1 mX11_takes [(2, 306), (2, 362)] I R Q1) (h : ∀ z I2 R2, Q1 (0, z) I2 R2 → PN X d mX11_qGoesOnTest 84 [(2, 306)] [(0, z)] I2 R2 Q) : PN X d mX11_qGoesOnTest 76 [(2, 306)] [] I R Q := by
  refine P_aload_n (n := 0) (q := 77) rfl rfl (by decide +kernel) ?_
  refine P_aload_n (n := 0) (q := 78) rfl rfl (by decide +kernel) ?_
  refine B_getfR (q := 81) fX11_360 kM306 (rM306_86 hs) rfl (by decide +kernel) ?_
  refine P_invV (As := [(2, 362)]) (q := 84) oX11_takes rfl kM306 kX11_41 e1 hMF (Nat.le_of_ble_eq_true rfl) hc rfl (by decide +kernel) (fun z I2 R2 hq => ?_)
  exact (h z I2 R2 hq)
theorem S_X11_qGoesOnTest_84 {X : CX} {d : Nat} {o0 : Int} {I R : PF} {Q : PV → PF → PF → Prop} (c1 : -2147483648 ≤ o0 ∧ o0 < 2147483648) (h1 : o0 = 0 → PN X d mX11_qGoesOnTest 126 [(2, 306)] [] I R Q) (h2 : o0 ≠ 0 → PN X d mX11_qGoesOnTest 87 [(2, 306)] [] I R Q) : PN X d mX11_qGoesOnTest 84 [(2, 306)] [(0, o0)] I R Q := by
  refine B_if_eq (off := 42) (t := 126) (q := 87) c1 (by decide) rfl (by decide +kernel) ?_ ?_
  · exact fun g9 => (h1 g9)
  · exact fun g9 => (h2 g9)
theorem S_X11_qGoesOnTest_87 {X : CX} {d d1 : Nat} {I R : PF} {Q Q1 : PV → PF → PF → Prop} (e1 : d1 + 1 ≤ d) (hc : CN X d1 mX11_qIsOn [(2, 306), (0, 10)] I R Q1) (h : ∀ z I2 R2, Q1 (0, z) I2 R2 → PN X d mX11_qGoesOnTest 93 [(2, 306)] [(0, z)] I2 R2 Q) : PN X d mX11_qGoesOnTest 87 [(2, 306)] [] I R Q := by
  refine P_aload_n (n := 0) (q := 88) rfl rfl (by decide +kernel) ?_
  refine P_bipush (n := 10) (q := 90) rfl rfl (by decide +kernel) ?_
  refine P_invV (As := [(0, 10)]) (q := 93) oX11_qIsOn rfl kM306 kX11_638 e1 hMF (Nat.le_of_ble_eq_true rfl) hc rfl (by decide +kernel) (fun z I2 R2 hq => ?_)
  exact (h z I2 R2 hq)
theorem S_X11_qGoesOnTest_93 {X : CX} {d : Nat} {o0 : Int} {I R : PF} {Q : PV → PF → PF → Prop} (c1 : -2147483648 ≤ o0 ∧ o0 < 2147483648) (h1 : o0 = 0 → PN X d mX11_qGoesOnTest 103 [(2, 306)] [] I R Q) (h2 : o0 ≠ 0 → PN X d mX11_qGoesOnTest 96 [(2, 306)] [] I R Q) : PN X d mX11_qGoesOnTest 93 [(2, 306)] [(0, o0)] I R Q := by
  refine B_if_eq (off := 10) (t := 103) (q := 96) c1 (by decide) rfl (by decide +kernel) ?_ ?_
  · exact fun g9 => (h1 g9)
  · exact fun g9 => (h2 g9)
theorem S_X11_qGoesOnTest_96 {X : CX} {d d1 : Nat} {I R : PF} {Q Q1 : PV → PF → PF → Prop} (e1 : d1 + 1 ≤ d) (hc : CN X d1 mX11_qDrops [(2, 306)] I R Q1) (h : ∀ z I2 R2, Q1 (9, z) I2 R2 → PN X d mX11_qGoesOnTest 100 [(2, 306)] [] I2 R2 Q) : PN X d mX11_qGoesOnTest 96 [(2, 306)] [] I R Q := by
  refine P_aload_n (n := 0) (q := 97) rfl rfl (by decide +kernel) ?_
  refine P_invV (As := []) (q := 100) oX11_qDrops rfl kM306 kX11_611 e1 hMF (Nat.le_of_ble_eq_true rfl) hc rfl (by decide +kernel) (fun z I2 R2 hq => ?_)
  exact (h z I2 R2 hq)
theorem S_X11_qGoesOnTest_100 {X : CX} {d : Nat} {I R : PF} {Q : PV → PF → PF → Prop} (h : PN X d mX11_qGoesOnTest 87 [(2, 306)] [] I R Q) : PN X d mX11_qGoesOnTest 100 [(2, 306)] [] I R Q := by
  refine P_goto (off := (-13)) (t := 87) (by decide) (by decide +kernel) ?_
  exact h
theorem S_X11_qGoesOnTest_103 {X : CX} {d : Nat} {I R : PF} {Q : PV → PF → PF → Prop} (hs : Shp R) (b1 : (0 : Int) ≤ (I 306 106) ∧ (I 306 106) < 1700) (h : Q (0, 1) (u2 (u2 I 380 (I 306 106) 10) 306 106 (((u2 I 380 (I 306 106) 10) 306 106) + 1)) R) : PN X d mX11_qGoesOnTest 103 [(2, 306)] [] I R Q := by
  refine P_aload_n (n := 0) (q := 104) rfl rfl (by decide +kernel) ?_
  refine B_getfR (q := 107) fX11_411 kM306 (rM306_105 hs) rfl (by decide +kernel) ?_
  refine P_aload_n (n := 0) (q := 108) rfl rfl (by decide +kernel) ?_
  refine P_getf (q := 111) fX11_235 kM306 rfl (by decide +kernel) ?_
  refine P_bipush (n := 10) (q := 113) rfl rfl (by decide +kernel) ?_
  refine B_iastore (q := 114) kM380 nM380 (by decide) b1 rfl (by decide +kernel) ?_
  refine P_aload_n (n := 0) (q := 115) rfl rfl (by decide +kernel) ?_
  refine P_dup (q := 116) (Nat.ne_of_beq_eq_false rfl) rfl (by decide +kernel) ?_
  refine P_getf (q := 119) fX11_235 kM306 rfl (by decide +kernel) ?_
  refine P_iconst (n := 1) (q := 120) rfl (by decide +kernel) ?_
  refine P_iadd (q := 121) rfl (by decide +kernel) ?_
  refine P_putI (q := 124) wX11_235 (fun h => by cases h) kM306 rfl (by decide +kernel) ?_
  refine P_iconst (n := 1) (q := 125) rfl (by decide +kernel) ?_
  refine P_zret rfl (Or.inr rfl) (by decide +kernel) h
theorem S_X11_qGoesOnTest_126 {X : CX} {d d1 : Nat} {I R : PF} {Q Q1 : PV → PF → PF → Prop} (hs : Shp R) (e1 : d1 + 1 ≤ d) (hc : CN X d1 mX11_takes [(2, 306), (2, 363)] I R Q1) (h : ∀ z I2 R2, Q1 (0, z) I2 R2 → PN X d mX11_qGoesOnTest 134 [(2, 306)] [(0, z)] I2 R2 Q) : PN X d mX11_qGoesOnTest 126 [(2, 306)] [] I R Q := by
  refine P_aload_n (n := 0) (q := 127) rfl rfl (by decide +kernel) ?_
  refine P_aload_n (n := 0) (q := 128) rfl rfl (by decide +kernel) ?_
  refine B_getfR (q := 131) fX11_363 kM306 (rM306_87 hs) rfl (by decide +kernel) ?_
  refine P_invV (As := [(2, 363)]) (q := 134) oX11_takes rfl kM306 kX11_41 e1 hMF (Nat.le_of_ble_eq_true rfl) hc rfl (by decide +kernel) (fun z I2 R2 hq => ?_)
  exact (h z I2 R2 hq)
theorem S_X11_qGoesOnTest_134 {X : CX} {d : Nat} {o0 : Int} {I R : PF} {Q : PV → PF → PF → Prop} (c1 : -2147483648 ≤ o0 ∧ o0 < 2147483648) (h1 : o0 = 0 → PN X d mX11_qGoesOnTest 185 [(2, 306)] [] I R Q) (h2 : o0 ≠ 0 → PN X d mX11_qGoesOnTest 137 [(2, 306)] [] I R Q) : PN X d mX11_qGoesOnTest 134 [(2, 306)] [(0, o0)] I R Q := by
  refine B_if_eq (off := 51) (t := 185) (q := 137) c1 (by decide) rfl (by decide +kernel) ?_ ?_
  · exact fun g9 => (h1 g9)
  · exact fun g9 => (h2 g9)
theorem S_X11_qGoesOnTest_137 {X : CX} {d d1 : Nat} {I R : PF} {Q Q1 : PV → PF → PF → Prop} (e1 : d1 + 1 ≤ d) (hc : CN X d1 mX11_qIsOn [(2, 306), (0, 10)] I R Q1) (h : ∀ z I2 R2, Q1 (0, z) I2 R2 → PN X d mX11_qGoesOnTest 143 [(2, 306)] [(0, z)] I2 R2 Q) : PN X d mX11_qGoesOnTest 137 [(2, 306)] [] I R Q := by
  refine P_aload_n (n := 0) (q := 138) rfl rfl (by decide +kernel) ?_
  refine P_bipush (n := 10) (q := 140) rfl rfl (by decide +kernel) ?_
  refine P_invV (As := [(0, 10)]) (q := 143) oX11_qIsOn rfl kM306 kX11_638 e1 hMF (Nat.le_of_ble_eq_true rfl) hc rfl (by decide +kernel) (fun z I2 R2 hq => ?_)
  exact (h z I2 R2 hq)
theorem S_X11_qGoesOnTest_143 {X : CX} {d : Nat} {o0 : Int} {I R : PF} {Q : PV → PF → PF → Prop} (c1 : -2147483648 ≤ o0 ∧ o0 < 2147483648) (h1 : o0 ≠ 0 → PN X d mX11_qGoesOnTest 155 [(2, 306)] [] I R Q) (h2 : o0 = 0 → PN X d mX11_qGoesOnTest 146 [(2, 306)] [] I R Q) : PN X d mX11_qGoesOnTest 143 [(2, 306)] [(0, o0)] I R Q := by
  refine B_if_ne (off := 12) (t := 155) (q := 146) c1 (by decide) rfl (by decide +kernel) ?_ ?_
  · exact fun g9 => (h1 g9)
  · exact fun g9 => (h2 g9)
theorem S_X11_qGoesOnTest_146 {X : CX} {d d1 : Nat} {I R : PF} {Q Q1 : PV → PF → PF → Prop} (e1 : d1 + 1 ≤ d) (hc : CN X d1 mX11_qIsOn [(2, 306), (0, 11)] I R Q1) (h : ∀ z I2 R2, Q1 (0, z) I2 R2 → PN X d mX11_qGoesOnTest 152 [(2, 306)] [(0, z)] I2 R2 Q) : PN X d mX11_qGoesOnTest 146 [(2, 306)] [] I R Q := by
  refine P_aload_n (n := 0) (q := 147) rfl rfl (by decide +kernel) ?_
  refine P_bipush (n := 11) (q := 149) rfl rfl (by decide +kernel) ?_
  refine P_invV (As := [(0, 11)]) (q := 152) oX11_qIsOn rfl kM306 kX11_638 e1 hMF (Nat.le_of_ble_eq_true rfl) hc rfl (by decide +kernel) (fun z I2 R2 hq => ?_)
  exact (h z I2 R2 hq)
theorem S_X11_qGoesOnTest_152 {X : CX} {d : Nat} {o0 : Int} {I R : PF} {Q : PV → PF → PF → Prop} (c1 : -2147483648 ≤ o0 ∧ o0 < 2147483648) (h1 : o0 = 0 → PN X d mX11_qGoesOnTest 162 [(2, 306)] [] I R Q) (h2 : o0 ≠ 0 → PN X d mX11_qGoesOnTest 155 [(2, 306)] [] I R Q) : PN X d mX11_qGoesOnTest 152 [(2, 306)] [(0, o0)] I R Q := by
  refine B_if_eq (off := 10) (t := 162) (q := 155) c1 (by decide) rfl (by decide +kernel) ?_ ?_
  · exact fun g9 => (h1 g9)
  · exact fun g9 => (h2 g9)
theorem S_X11_qGoesOnTest_155 {X : CX} {d d1 : Nat} {I R : PF} {Q Q1 : PV → PF → PF → Prop} (e1 : d1 + 1 ≤ d) (hc : CN X d1 mX11_qDrops [(2, 306)] I R Q1) (h : ∀ z I2 R2, Q1 (9, z) I2 R2 → PN X d mX11_qGoesOnTest 159 [(2, 306)] [] I2 R2 Q) : PN X d mX11_qGoesOnTest 155 [(2, 306)] [] I R Q := by
  refine P_aload_n (n := 0) (q := 156) rfl rfl (by decide +kernel) ?_
  refine P_invV (As := []) (q := 159) oX11_qDrops rfl kM306 kX11_611 e1 hMF (Nat.le_of_ble_eq_true rfl) hc rfl (by decide +kernel) (fun z I2 R2 hq => ?_)
  exact (h z I2 R2 hq)
theorem S_X11_qGoesOnTest_159 {X : CX} {d : Nat} {I R : PF} {Q : PV → PF → PF → Prop} (h : PN X d mX11_qGoesOnTest 137 [(2, 306)] [] I R Q) : PN X d mX11_qGoesOnTest 159 [(2, 306)] [] I R Q := by
  refine P_goto (off := (-22)) (t := 137) (by decide) (by decide +kernel) ?_
  exact h
theorem S_X11_qGoesOnTest_162 {X : CX} {d : Nat} {I R : PF} {Q : PV → PF → PF → Prop} (hs : Shp R) (b1 : (0 : Int) ≤ (I 306 106) ∧ (I 306 106) < 1700) (h : Q (0, 1) (u2 (u2 I 380 (I 306 106) 11) 306 106 (((u2 I 380 (I 306 106) 11) 306 106) + 1)) R) : PN X d mX11_qGoesOnTest 162 [(2, 306)] [] I R Q := by
  refine P_aload_n (n := 0) (q := 163) rfl rfl (by decide +kernel) ?_
  refine B_getfR (q := 166) fX11_411 kM306 (rM306_105 hs) rfl (by decide +kernel) ?_
  refine P_aload_n (n := 0) (q := 167) rfl rfl (by decide +kernel) ?_
  refine P_getf (q := 170) fX11_235 kM306 rfl (by decide +kernel) ?_
  refine P_bipush (n := 11) (q := 172) rfl rfl (by decide +kernel) ?_
  refine B_iastore (q := 173) kM380 nM380 (by decide) b1 rfl (by decide +kernel) ?_
  refine P_aload_n (n := 0) (q := 174) rfl rfl (by decide +kernel) ?_
  refine P_dup (q := 175) (Nat.ne_of_beq_eq_false rfl) rfl (by decide +kernel) ?_
  refine P_getf (q := 178) fX11_235 kM306 rfl (by decide +kernel) ?_
  refine P_iconst (n := 1) (q := 179) rfl (by decide +kernel) ?_
  refine P_iadd (q := 180) rfl (by decide +kernel) ?_
  refine P_putI (q := 183) wX11_235 (fun h => by cases h) kM306 rfl (by decide +kernel) ?_
  refine P_iconst (n := 1) (q := 184) rfl (by decide +kernel) ?_
  refine P_zret rfl (Or.inr rfl) (by decide +kernel) h
theorem S_X11_qGoesOnTest_185 {X : CX} {d : Nat} {I R : PF} {Q : PV → PF → PF → Prop} (c1 : -2147483648 ≤ (I 306 5) ∧ (I 306 5) < 2147483648) (h1 : (I 306 5) ≠ 0 → PN X d mX11_qGoesOnTest 208 [] [] I R Q) (h2 : (I 306 5) = 0 → PN X d mX11_qGoesOnTest 192 [(2, 306)] [] I R Q) : PN X d mX11_qGoesOnTest 185 [(2, 306)] [] I R Q := by
  refine P_aload_n (n := 0) (q := 186) rfl rfl (by decide +kernel) ?_
  refine P_getf (q := 189) fX11_14 kM306 rfl (by decide +kernel) ?_
  refine B_if_ne (off := 19) (t := 208) (q := 192) c1 (by decide) rfl (by decide +kernel) ?_ ?_
  · exact fun g9 => (PW_sub (ls' := []) trivial (h1 g9))
  · exact fun g9 => (h2 g9)
theorem S_X11_qGoesOnTest_192 {X : CX} {d d1 : Nat} {I R : PF} {Q Q1 : PV → PF → PF → Prop} (e1 : d1 + 1 ≤ d) (hc : CN X d1 mX11_qHasSquare [(2, 306)] I R Q1) (h : ∀ z I2 R2, Q1 (0, z) I2 R2 → PN X d mX11_qGoesOnTest 196 [(2, 306)] [(0, z)] I2 R2 Q) : PN X d mX11_qGoesOnTest 192 [(2, 306)] [] I R Q := by
  refine P_aload_n (n := 0) (q := 193) rfl rfl (by decide +kernel) ?_
  refine P_invV (As := []) (q := 196) oX11_qHasSquare rfl kM306 kX11_656 e1 hMF (Nat.le_of_ble_eq_true rfl) hc rfl (by decide +kernel) (fun z I2 R2 hq => ?_)
  exact (h z I2 R2 hq)
theorem S_X11_qGoesOnTest_196 {X : CX} {d : Nat} {o0 : Int} {I R : PF} {Q : PV → PF → PF → Prop} (c1 : -2147483648 ≤ o0 ∧ o0 < 2147483648) (h1 : o0 = 0 → PN X d mX11_qGoesOnTest 208 [] [] I R Q) (h2 : o0 ≠ 0 → PN X d mX11_qGoesOnTest 199 [(2, 306)] [] I R Q) : PN X d mX11_qGoesOnTest 196 [(2, 306)] [(0, o0)] I R Q := by
  refine B_if_eq (off := 12) (t := 208) (q := 199) c1 (by decide) rfl (by decide +kernel) ?_ ?_
  · exact fun g9 => (PW_sub (ls' := []) trivial (h1 g9))
  · exact fun g9 => (h2 g9)
theorem S_X11_qGoesOnTest_199 {X : CX} {d d1 : Nat} {I R : PF} {Q Q1 : PV → PF → PF → Prop} (e1 : d1 + 1 ≤ d) (hc : CN X d1 mX11_fail [(2, 306), (0, 1), (0, (I 306 2))] I R Q1) (h : ∀ z I2 R2, Q1 (9, z) I2 R2 → PN X d mX11_qGoesOnTest 208 [] [] I2 R2 Q) : PN X d mX11_qGoesOnTest 199 [(2, 306)] [] I R Q := by
  refine P_aload_n (n := 0) (q := 200) rfl rfl (by decide +kernel) ?_
  refine P_iconst (n := 1) (q := 201) rfl (by decide +kernel) ?_
  refine P_aload_n (n := 0) (q := 202) rfl rfl (by decide +kernel) ?_
  refine P_getf (q := 205) fX11_20 kM306 rfl (by decide +kernel) ?_
  refine P_invV (As := [(0, 1), (0, (I 306 2))]) (q := 208) oX11_fail rfl kM306 kX11_44 e1 hMF (Nat.le_of_ble_eq_true rfl) hc rfl (by decide +kernel) (fun z I2 R2 hq => ?_)
  exact (PW_sub (ls' := []) trivial (h z I2 R2 hq))
theorem S_X11_qGoesOnTest_208 {X : CX} {d : Nat} {I R : PF} {Q : PV → PF → PF → Prop} (h : Q (0, 0) I R) : PN X d mX11_qGoesOnTest 208 [] [] I R Q := by
  refine P_iconst (n := 0) (q := 209) rfl (by decide +kernel) ?_
  refine P_zret rfl (Or.inl rfl) (by decide +kernel) h
theorem S_X11_qHasSquare_0 {X : CX} {d : Nat} {I R : PF} {Q : PV → PF → PF → Prop} (h : PN X d mX11_qHasSquare 2 [(2, 306), (0, 0)] [] I R Q) : PN X d mX11_qHasSquare 0 [(2, 306)] [] I R Q := by
  refine P_iconst (n := 0) (q := 1) rfl (by decide +kernel) ?_
  refine P_istore_n (n := 1) (by decide) (q := 2) rfl (by decide +kernel) ?_
  exact h
theorem S_X11_qHasSquare_2 {X : CX} {d : Nat} {x1 : Int} {I R : PF} {Q : PV → PF → PF → Prop} (c1 : -2147483648 ≤ x1 ∧ x1 < 2147483648) (c2 : -2147483648 ≤ (I 306 106) ∧ (I 306 106) < 2147483648) (h1 : (I 306 106) ≤ x1 → PN X d mX11_qHasSquare 29 [] [] I R Q) (h2 : x1 < (I 306 106) → PN X d mX11_qHasSquare 10 [(2, 306), (0, x1)] [] I R Q) : PN X d mX11_qHasSquare 2 [(2, 306), (0, x1)] [] I R Q := by
  refine P_iload_n (n := 1) (q := 3) rfl rfl (by decide +kernel) ?_
  refine P_aload_n (n := 0) (q := 4) rfl rfl (by decide +kernel) ?_
  refine P_getf (q := 7) fX11_235 kM306 rfl (by decide +kernel) ?_
  refine B_icmp_ge (off := 22) (t := 29) (q := 10) c1 c2 (by decide) rfl (by decide +kernel) ?_ ?_
  · exact fun g9 => (PW_sub (ls' := []) trivial (h1 g9))
  · exact fun g9 => (h2 g9)
theorem S_X11_qHasSquare_10 {X : CX} {d : Nat} {x1 : Int} {I R : PF} {Q : PV → PF → PF → Prop} (hs : Shp R) (b1 : (0 : Int) ≤ x1 ∧ x1 < 1700) (c1 : -2147483648 ≤ (I 380 x1) ∧ (I 380 x1) < 2147483648) (h1 : (I 380 x1) ≠ 25 → PN X d mX11_qHasSquare 23 [(2, 306), (0, x1)] [] I R Q) (h2 : (I 380 x1) = 25 → PN X d mX11_qHasSquare 21 [] [] I R Q) : PN X d mX11_qHasSquare 10 [(2, 306), (0, x1)] [] I R Q := by
  refine P_aload_n (n := 0) (q := 11) rfl rfl (by decide +kernel) ?_
  refine B_getfR (q := 14) fX11_411 kM306 (rM306_105 hs) rfl (by decide +kernel) ?_
  refine P_iload_n (n := 1) (q := 15) rfl rfl (by decide +kernel) ?_
  refine B_iaload (q := 16) kM380 nM380 (by decide) b1 rfl (by decide +kernel) ?_
  refine P_bipush (n := 25) (q := 18) rfl rfl (by decide +kernel) ?_
  refine B_icmp_ne (off := 5) (t := 23) (q := 21) c1 ⟨by decide, by decide⟩ (by decide) rfl (by decide +kernel) ?_ ?_
  · exact fun g9 => (h1 g9)
  · exact fun g9 => (PW_sub (ls' := []) trivial (h2 g9))
theorem S_X11_qHasSquare_21 {X : CX} {d : Nat} {I R : PF} {Q : PV → PF → PF → Prop} (h : Q (0, 1) I R) : PN X d mX11_qHasSquare 21 [] [] I R Q := by
  refine P_iconst (n := 1) (q := 22) rfl (by decide +kernel) ?_
  refine P_zret rfl (Or.inr rfl) (by decide +kernel) h
theorem S_X11_qHasSquare_23 {X : CX} {d : Nat} {x1 : Int} {I R : PF} {Q : PV → PF → PF → Prop} (h : PN X d mX11_qHasSquare 2 [(2, 306), (0, (x1 + 1))] [] I R Q) : PN X d mX11_qHasSquare 23 [(2, 306), (0, x1)] [] I R Q := by
  refine P_iinc (n := 1) (a := 1) (by decide) rfl (q := 26) rfl (by decide +kernel) ?_
  refine P_goto (off := (-24)) (t := 2) (by decide) (by decide +kernel) ?_
  exact h
theorem S_X11_qHasSquare_29 {X : CX} {d : Nat} {I R : PF} {Q : PV → PF → PF → Prop} (h : Q (0, 0) I R) : PN X d mX11_qHasSquare 29 [] [] I R Q := by
  refine P_iconst (n := 0) (q := 30) rfl (by decide +kernel) ?_
  refine P_zret rfl (Or.inl rfl) (by decide +kernel) h
theorem S_X11_qIsBracket_0 {X : CX} {d : Nat} {x0 : Int} {I R : PF} {Q : PV → PF → PF → Prop} (c1 : -2147483648 ≤ x0 ∧ x0 < 2147483648) (h1 : x0 < 20 → PN X d mX11_qIsBracket 16 [] [] I R Q) (h2 : 20 ≤ x0 → PN X d mX11_qIsBracket 6 [(0, x0)] [] I R Q) : PN X d mX11_qIsBracket 0 [(0, x0)] [] I R Q := by
  refine P_iload_n (n := 0) (q := 1) rfl rfl (by decide +kernel) ?_
  refine P_bipush (n := 20) (q := 3) rfl rfl (by decide +kernel) ?_
  refine B_icmp_lt (off := 13) (t := 16) (q := 6) c1 ⟨by decide, by decide⟩ (by decide) rfl (by decide +kernel) ?_ ?_
  · exact fun g9 => (PW_sub (ls' := []) trivial (h1 g9))
  · exact fun g9 => (h2 g9)
theorem S_X11_qIsBracket_6 {X : CX} {d : Nat} {x0 : Int} {I R : PF} {Q : PV → PF → PF → Prop} (c1 : -2147483648 ≤ x0 ∧ x0 < 2147483648) (h1 : 24 < x0 → PN X d mX11_qIsBracket 16 [] [] I R Q) (h2 : x0 ≤ 24 → PN X d mX11_qIsBracket 12 [] [] I R Q) : PN X d mX11_qIsBracket 6 [(0, x0)] [] I R Q := by
  refine P_iload_n (n := 0) (q := 7) rfl rfl (by decide +kernel) ?_
  refine P_bipush (n := 24) (q := 9) rfl rfl (by decide +kernel) ?_
  refine B_icmp_gt (off := 7) (t := 16) (q := 12) c1 ⟨by decide, by decide⟩ (by decide) rfl (by decide +kernel) ?_ ?_
  · exact fun g9 => (PW_sub (ls' := []) trivial (h1 g9))
  · exact fun g9 => (PW_sub (ls' := []) trivial (h2 g9))
theorem S_X11_qIsBracket_12 {X : CX} {d : Nat} {I R : PF} {Q : PV → PF → PF → Prop} (h : PN X d mX11_qIsBracket 17 [] [(0, 1)] I R Q) : PN X d mX11_qIsBracket 12 [] [] I R Q := by
  refine P_iconst (n := 1) (q := 13) rfl (by decide +kernel) ?_
  refine P_goto (off := 4) (t := 17) (by decide) (by decide +kernel) ?_
  exact (PW_sub (ls' := []) trivial h)
theorem S_X11_qIsBracket_16 {X : CX} {d : Nat} {I R : PF} {Q : PV → PF → PF → Prop} (h : PN X d mX11_qIsBracket 17 [] [(0, 0)] I R Q) : PN X d mX11_qIsBracket 16 [] [] I R Q := by
  refine P_iconst (n := 0) (q := 17) rfl (by decide +kernel) ?_
  exact (PW_sub (ls' := []) trivial h)
theorem S_X11_qIsBracket_17 {X : CX} {d : Nat} {o0 : Int} {I R : PF} {Q : PV → PF → PF → Prop} (z1 : o0 = 0 ∨ o0 = 1) (h : Q (0, o0) I R) : PN X d mX11_qIsBracket 17 [] [(0, o0)] I R Q := by
  refine P_zret rfl z1 (by decide +kernel) h
theorem S_X11_qIsOn_0 {X : CX} {d : Nat} {x1 : Int} {I R : PF} {Q : PV → PF → PF → Prop} (c1 : -2147483648 ≤ (I 306 106) ∧ (I 306 106) < 2147483648) (h1 : (I 306 106) ≤ 0 → PN X d mX11_qIsOn 26 [] [] I R Q) (h2 : 0 < (I 306 106) → PN X d mX11_qIsOn 7 [(2, 306), (0, x1)] [] I R Q) : PN X d mX11_qIsOn 0 [(2, 306), (0, x1)] [] I R Q := by
  refine P_aload_n (n := 0) (q := 1) rfl rfl (by decide +kernel) ?_
  refine P_getf (q := 4) fX11_235 kM306 rfl (by decide +kernel) ?_
  refine B_if_le (off := 22) (t := 26) (q := 7) c1 (by decide) rfl (by decide +kernel) ?_ ?_
  · exact fun g9 => (PW_sub (ls' := []) trivial (h1 g9))
  · exact fun g9 => (h2 g9)
theorem S_X11_qIsOn_7 {X : CX} {d : Nat} {x1 : Int} {I R : PF} {Q : PV → PF → PF → Prop} (hs : Shp R) (b1 : (0 : Int) ≤ ((I 306 106) - 1) ∧ ((I 306 106) - 1) < 1700) (c1 : -2147483648 ≤ (I 380 ((I 306 106) - 1)) ∧ (I 380 ((I 306 106) - 1)) < 2147483648) (c2 : -2147483648 ≤ x1 ∧ x1 < 2147483648) (h1 : (I 380 ((I 306 106) - 1)) ≠ x1 → PN X d mX11_qIsOn 26 [] [] I R Q) (h2 : (I 380 ((I 306 106) - 1)) = x1 → PN X d mX11_qIsOn 22 [] [] I R Q) : PN X d mX11_qIsOn 7 [(2, 306), (0, x1)] [] I R Q := by
  refine P_aload_n (n := 0) (q := 8) rfl rfl (by decide +kernel) ?_
  refine B_getfR (q := 11) fX11_411 kM306 (rM306_105 hs) rfl (by decide +kernel) ?_
  refine P_aload_n (n := 0) (q := 12) rfl rfl (by decide +kernel) ?_
  refine P_getf (q := 15) fX11_235 kM306 rfl (by decide +kernel) ?_
  refine P_iconst (n := 1) (q := 16) rfl (by decide +kernel) ?_
  refine P_isub (q := 17) rfl (by decide +kernel) ?_
  refine B_iaload (q := 18) kM380 nM380 (by decide) b1 rfl (by decide +kernel) ?_
  refine P_iload_n (n := 1) (q := 19) rfl rfl (by decide +kernel) ?_
  refine B_icmp_ne (off := 7) (t := 26) (q := 22) c1 c2 (by decide) rfl (by decide +kernel) ?_ ?_
  · exact fun g9 => (PW_sub (ls' := []) trivial (h1 g9))
  · exact fun g9 => (PW_sub (ls' := []) trivial (h2 g9))
theorem S_X11_qIsOn_22 {X : CX} {d : Nat} {I R : PF} {Q : PV → PF → PF → Prop} (h : PN X d mX11_qIsOn 27 [] [(0, 1)] I R Q) : PN X d mX11_qIsOn 22 [] [] I R Q := by
  refine P_iconst (n := 1) (q := 23) rfl (by decide +kernel) ?_
  refine P_goto (off := 4) (t := 27) (by decide) (by decide +kernel) ?_
  exact (PW_sub (ls' := []) trivial h)
theorem S_X11_qIsOn_26 {X : CX} {d : Nat} {I R : PF} {Q : PV → PF → PF → Prop} (h : PN X d mX11_qIsOn 27 [] [(0, 0)] I R Q) : PN X d mX11_qIsOn 26 [] [] I R Q := by
  refine P_iconst (n := 0) (q := 27) rfl (by decide +kernel) ?_
  exact (PW_sub (ls' := []) trivial h)
theorem S_X11_qIsOn_27 {X : CX} {d : Nat} {o0 : Int} {I R : PF} {Q : PV → PF → PF → Prop} (z1 : o0 = 0 ∨ o0 = 1) (h : Q (0, o0) I R) : PN X d mX11_qIsOn 27 [] [(0, o0)] I R Q := by
  refine P_zret rfl z1 (by decide +kernel) h
theorem S_X11_qJoins_0 {X : CX} {d : Nat} {x1 : Int} {I R : PF} {Q : PV → PF → PF → Prop} (hs : Shp R) (b1 : (0 : Int) ≤ ((I 306 110) - 1) ∧ ((I 306 110) - 1) < 1700) (b2 : (0 : Int) ≤ ((I 306 110) - 2) ∧ ((I 306 110) - 2) < 1700) (c1 : -2147483648 ≤ x1 ∧ x1 < 2147483648) (h0 : x1 = 1 → PN X d mX11_qJoins 92 [(2, 306), (9, 0), (1, (I 381 ((I 306 110) - 1))), (9, 0), (1, (I 381 ((I 306 110) - 2)))] [] (u2 I 306 110 ((I 306 110) - 2)) R Q) (h1 : x1 = 2 → PN X d mX11_qJoins 106 [(2, 306), (9, 0), (1, (I 381 ((I 306 110) - 1))), (9, 0), (1, (I 381 ((I 306 110) - 2)))] [] (u2 I 306 110 ((I 306 110) - 2)) R Q) (h2 : x1 = 3 → PN X d mX11_qJoins 120 [(2, 306), (9, 0), (1, (I 381 ((I 306 110) - 1))), (9, 0), (1, (I 381 ((I 306 110) - 2)))] [] (u2 I 306 110 ((I 306 110) - 2)) R Q) (h3 : x1 = 4 → PN X d mX11_qJoins 134 [(2, 306), (9, 0), (1, (I 381 ((I 306 110) - 1))), (9, 0), (1, (I 381 ((I 306 110) - 2)))] [] (u2 I 306 110 ((I 306 110) - 2)) R Q) (h4 : x1 = 5 → PN X d mX11_qJoins 147 [(2, 306), (9, 0), (1, (I 381 ((I 306 110) - 1))), (9, 0), (1, (I 381 ((I 306 110) - 2)))] [] (u2 I 306 110 ((I 306 110) - 2)) R Q) (h5 : x1 = 6 → PN X d mX11_qJoins 167 [(2, 306), (9, 0), (1, (I 381 ((I 306 110) - 1))), (9, 0), (1, (I 381 ((I 306 110) - 2)))] [] (u2 I 306 110 ((I 306 110) - 2)) R Q) (h6 : x1 = 7 → PN X d mX11_qJoins 187 [(2, 306), (9, 0), (1, (I 381 ((I 306 110) - 1))), (9, 0), (1, (I 381 ((I 306 110) - 2)))] [] (u2 I 306 110 ((I 306 110) - 2)) R Q) (h7 : x1 = 8 → PN X d mX11_qJoins 206 [(2, 306), (9, 0), (1, (I 381 ((I 306 110) - 1))), (9, 0), (1, (I 381 ((I 306 110) - 2)))] [] (u2 I 306 110 ((I 306 110) - 2)) R Q) (h8 : x1 = 9 → PN X d mX11_qJoins 225 [(2, 306), (9, 0), (1, (I 381 ((I 306 110) - 1))), (9, 0), (1, (I 381 ((I 306 110) - 2)))] [] (u2 I 306 110 ((I 306 110) - 2)) R Q) (h9 : x1 = 10 → PN X d mX11_qJoins 244 [(2, 306), (9, 0), (1, (I 381 ((I 306 110) - 1))), (9, 0), (1, (I 381 ((I 306 110) - 2)))] [] (u2 I 306 110 ((I 306 110) - 2)) R Q) (hd : x1 < 1 ∨ 10 < x1 → PN X d mX11_qJoins 255 [(2, 306), (9, 0), (1, (I 381 ((I 306 110) - 1))), (9, 0), (1, (I 381 ((I 306 110) - 2)))] [] (u2 I 306 110 ((I 306 110) - 2)) R Q) : PN X d mX11_qJoins 0 [(2, 306), (0, x1)] [] I R Q := by
  refine P_aload_n (n := 0) (q := 1) rfl rfl (by decide +kernel) ?_
  refine B_getfR (q := 4) fX11_414 kM306 (rM306_109 hs) rfl (by decide +kernel) ?_
  refine P_aload_n (n := 0) (q := 5) rfl rfl (by decide +kernel) ?_
  refine P_getf (q := 8) fX11_423 kM306 rfl (by decide +kernel) ?_
  refine P_iconst (n := 1) (q := 9) rfl (by decide +kernel) ?_
  refine P_isub (q := 10) rfl (by decide +kernel) ?_
  refine B_laload (q := 11) kM381 nM381 (by decide) b1 rfl (by decide +kernel) ?_
  refine P_lstore_n (n := 2) (by decide) (q := 12) rfl (by decide +kernel) ?_
  refine P_aload_n (n := 0) (q := 13) rfl rfl (by decide +kernel) ?_
  refine B_getfR (q := 16) fX11_414 kM306 (rM306_109 hs) rfl (by decide +kernel) ?_
  refine P_aload_n (n := 0) (q := 17) rfl rfl (by decide +kernel) ?_
  refine P_getf (q := 20) fX11_423 kM306 rfl (by decide +kernel) ?_
  refine P_iconst (n := 2) (q := 21) rfl (by decide +kernel) ?_
  refine P_isub (q := 22) rfl (by decide +kernel) ?_
  refine B_laload (q := 23) kM381 nM381 (by decide) b2 rfl (by decide +kernel) ?_
  refine P_lstore (n := 4) (by decide) (q := 25) rfl (by decide +kernel) ?_
  refine P_aload_n (n := 0) (q := 26) rfl rfl (by decide +kernel) ?_
  refine P_dup (q := 27) (Nat.ne_of_beq_eq_false rfl) rfl (by decide +kernel) ?_
  refine P_getf (q := 30) fX11_423 kM306 rfl (by decide +kernel) ?_
  refine P_iconst (n := 2) (q := 31) rfl (by decide +kernel) ?_
  refine P_isub (q := 32) rfl (by decide +kernel) ?_
  refine P_putI (q := 35) wX11_423 (fun h => by cases h) kM306 rfl (by decide +kernel) ?_
  refine P_iload_n (n := 1) (q := 36) rfl rfl (by decide +kernel) ?_
  rcases tab_cases (lo := 1) (n := 10) x1 with e9 | ⟨k9, hk9, e9⟩
  · exact P_tableOut (dflt := 219) (lo := 1) (hi := 10) (offs := #[56, 70, 84, 98, 111, 131, 151, 170, 189, 208]) (len := 56) (t := 255) (by decide +kernel) (by rw [w_of c1]; exact e9) (by decide) (PW_sub (ls' := [(2, 306), (9, 0), (1, (I 381 ((I 306 110) - 1))), (9, 0), (1, (I 381 ((I 306 110) - 2)))]) ⟨Or.inr rfl, Or.inl rfl, Or.inr rfl, Or.inl rfl, Or.inr rfl, trivial⟩ (hd e9))
  · match k9, hk9, e9 with
    | 0, _, e9 => exact P_tableIn (dflt := 219) (lo := 1) (hi := 10) (offs := #[56, 70, 84, 98, 111, 131, 151, 170, 189, 208]) (len := 56) (off := 56) (t := 92) (by decide +kernel) (by rw [w_of c1, e9]; decide) (by rw [w_of c1, e9]; decide) (by rw [w_of c1, e9]; rfl) (by decide) (PW_sub (ls' := [(2, 306), (9, 0), (1, (I 381 ((I 306 110) - 1))), (9, 0), (1, (I 381 ((I 306 110) - 2)))]) ⟨Or.inr rfl, Or.inl rfl, Or.inr rfl, Or.inl rfl, Or.inr rfl, trivial⟩ (h0 (e9.trans (by decide))))
    | 1, _, e9 => exact P_tableIn (dflt := 219) (lo := 1) (hi := 10) (offs := #[56, 70, 84, 98, 111, 131, 151, 170, 189, 208]) (len := 56) (off := 70) (t := 106) (by decide +kernel) (by rw [w_of c1, e9]; decide) (by rw [w_of c1, e9]; decide) (by rw [w_of c1, e9]; rfl) (by decide) (PW_sub (ls' := [(2, 306), (9, 0), (1, (I 381 ((I 306 110) - 1))), (9, 0), (1, (I 381 ((I 306 110) - 2)))]) ⟨Or.inr rfl, Or.inl rfl, Or.inr rfl, Or.inl rfl, Or.inr rfl, trivial⟩ (h1 (e9.trans (by decide))))
    | 2, _, e9 => exact P_tableIn (dflt := 219) (lo := 1) (hi := 10) (offs := #[56, 70, 84, 98, 111, 131, 151, 170, 189, 208]) (len := 56) (off := 84) (t := 120) (by decide +kernel) (by rw [w_of c1, e9]; decide) (by rw [w_of c1, e9]; decide) (by rw [w_of c1, e9]; rfl) (by decide) (PW_sub (ls' := [(2, 306), (9, 0), (1, (I 381 ((I 306 110) - 1))), (9, 0), (1, (I 381 ((I 306 110) - 2)))]) ⟨Or.inr rfl, Or.inl rfl, Or.inr rfl, Or.inl rfl, Or.inr rfl, trivial⟩ (h2 (e9.trans (by decide))))
    | 3, _, e9 => exact P_tableIn (dflt := 219) (lo := 1) (hi := 10) (offs := #[56, 70, 84, 98, 111, 131, 151, 170, 189, 208]) (len := 56) (off := 98) (t := 134) (by decide +kernel) (by rw [w_of c1, e9]; decide) (by rw [w_of c1, e9]; decide) (by rw [w_of c1, e9]; rfl) (by decide) (PW_sub (ls' := [(2, 306), (9, 0), (1, (I 381 ((I 306 110) - 1))), (9, 0), (1, (I 381 ((I 306 110) - 2)))]) ⟨Or.inr rfl, Or.inl rfl, Or.inr rfl, Or.inl rfl, Or.inr rfl, trivial⟩ (h3 (e9.trans (by decide))))
    | 4, _, e9 => exact P_tableIn (dflt := 219) (lo := 1) (hi := 10) (offs := #[56, 70, 84, 98, 111, 131, 151, 170, 189, 208]) (len := 56) (off := 111) (t := 147) (by decide +kernel) (by rw [w_of c1, e9]; decide) (by rw [w_of c1, e9]; decide) (by rw [w_of c1, e9]; rfl) (by decide) (PW_sub (ls' := [(2, 306), (9, 0), (1, (I 381 ((I 306 110) - 1))), (9, 0), (1, (I 381 ((I 306 110) - 2)))]) ⟨Or.inr rfl, Or.inl rfl, Or.inr rfl, Or.inl rfl, Or.inr rfl, trivial⟩ (h4 (e9.trans (by decide))))
    | 5, _, e9 => exact P_tableIn (dflt := 219) (lo := 1) (hi := 10) (offs := #[56, 70, 84, 98, 111, 131, 151, 170, 189, 208]) (len := 56) (off := 131) (t := 167) (by decide +kernel) (by rw [w_of c1, e9]; decide) (by rw [w_of c1, e9]; decide) (by rw [w_of c1, e9]; rfl) (by decide) (PW_sub (ls' := [(2, 306), (9, 0), (1, (I 381 ((I 306 110) - 1))), (9, 0), (1, (I 381 ((I 306 110) - 2)))]) ⟨Or.inr rfl, Or.inl rfl, Or.inr rfl, Or.inl rfl, Or.inr rfl, trivial⟩ (h5 (e9.trans (by decide))))
    | 6, _, e9 => exact P_tableIn (dflt := 219) (lo := 1) (hi := 10) (offs := #[56, 70, 84, 98, 111, 131, 151, 170, 189, 208]) (len := 56) (off := 151) (t := 187) (by decide +kernel) (by rw [w_of c1, e9]; decide) (by rw [w_of c1, e9]; decide) (by rw [w_of c1, e9]; rfl) (by decide) (PW_sub (ls' := [(2, 306), (9, 0), (1, (I 381 ((I 306 110) - 1))), (9, 0), (1, (I 381 ((I 306 110) - 2)))]) ⟨Or.inr rfl, Or.inl rfl, Or.inr rfl, Or.inl rfl, Or.inr rfl, trivial⟩ (h6 (e9.trans (by decide))))
    | 7, _, e9 => exact P_tableIn (dflt := 219) (lo := 1) (hi := 10) (offs := #[56, 70, 84, 98, 111, 131, 151, 170, 189, 208]) (len := 56) (off := 170) (t := 206) (by decide +kernel) (by rw [w_of c1, e9]; decide) (by rw [w_of c1, e9]; decide) (by rw [w_of c1, e9]; rfl) (by decide) (PW_sub (ls' := [(2, 306), (9, 0), (1, (I 381 ((I 306 110) - 1))), (9, 0), (1, (I 381 ((I 306 110) - 2)))]) ⟨Or.inr rfl, Or.inl rfl, Or.inr rfl, Or.inl rfl, Or.inr rfl, trivial⟩ (h7 (e9.trans (by decide))))
    | 8, _, e9 => exact P_tableIn (dflt := 219) (lo := 1) (hi := 10) (offs := #[56, 70, 84, 98, 111, 131, 151, 170, 189, 208]) (len := 56) (off := 189) (t := 225) (by decide +kernel) (by rw [w_of c1, e9]; decide) (by rw [w_of c1, e9]; decide) (by rw [w_of c1, e9]; rfl) (by decide) (PW_sub (ls' := [(2, 306), (9, 0), (1, (I 381 ((I 306 110) - 1))), (9, 0), (1, (I 381 ((I 306 110) - 2)))]) ⟨Or.inr rfl, Or.inl rfl, Or.inr rfl, Or.inl rfl, Or.inr rfl, trivial⟩ (h8 (e9.trans (by decide))))
    | 9, _, e9 => exact P_tableIn (dflt := 219) (lo := 1) (hi := 10) (offs := #[56, 70, 84, 98, 111, 131, 151, 170, 189, 208]) (len := 56) (off := 208) (t := 244) (by decide +kernel) (by rw [w_of c1, e9]; decide) (by rw [w_of c1, e9]; decide) (by rw [w_of c1, e9]; rfl) (by decide) (PW_sub (ls' := [(2, 306), (9, 0), (1, (I 381 ((I 306 110) - 1))), (9, 0), (1, (I 381 ((I 306 110) - 2)))]) ⟨Or.inr rfl, Or.inl rfl, Or.inr rfl, Or.inl rfl, Or.inr rfl, trivial⟩ (h9 (e9.trans (by decide))))
theorem S_X11_qJoins_92 {X : CX} {d d1 : Nat} {y2 y4 : Int} {I R : PF} {Q Q1 : PV → PF → PF → Prop} (e1 : d1 + 1 ≤ d) (hc : CN X d1 mX11_qClip [(1, (y4 + y2))] I R Q1) (h : ∀ z I2 R2, Q1 (1, z) I2 R2 → PN X d mX11_qJoins 100 [] [(1, z), (2, 306)] I2 R2 Q) : PN X d mX11_qJoins 92 [(2, 306), (9, 0), (1, y2), (9, 0), (1, y4)] [] I R Q := by
  refine P_aload_n (n := 0) (q := 93) rfl rfl (by decide +kernel) ?_
  refine P_lload (n := 4) (q := 95) rfl rfl (by decide +kernel) ?_
  refine P_lload_n (n := 2) (q := 96) rfl rfl (by decide +kernel) ?_
  refine P_ladd (q := 97) rfl (by decide +kernel) ?_
  refine P_invS (As := [(1, (y4 + y2))]) (q := 100) oX11_qClip rfl (Or.inl kX11_663) e1 hMF (Nat.le_of_ble_eq_true rfl) hc rfl (by decide +kernel) (fun z I2 R2 hq => ?_)
  exact (PW_sub (ls' := []) trivial (h z I2 R2 hq))
theorem S_X11_qJoins_100 {X : CX} {d d1 : Nat} {v1 : Int} {I R : PF} {Q Q1 : PV → PF → PF → Prop} (e1 : d1 + 1 ≤ d) (hc : CN X d1 mX11_qPuts [(2, 306), (1, v1)] I R Q1) (h : ∀ z I2 R2, Q1 (9, z) I2 R2 → PN X d mX11_qJoins 103 [] [] I2 R2 Q) : PN X d mX11_qJoins 100 [] [(1, v1), (2, 306)] I R Q := by
  refine P_invV (As := [(1, v1)]) (q := 103) oX11_qPuts rfl kM306 kX11_426 e1 hMF (Nat.le_of_ble_eq_true rfl) hc rfl (by decide +kernel) (fun z I2 R2 hq => ?_)
  exact (PW_sub (ls' := []) trivial (h z I2 R2 hq))
theorem S_X11_qJoins_103 {X : CX} {d : Nat} {I R : PF} {Q : PV → PF → PF → Prop} (h : PN X d mX11_qJoins 273 [] [] I R Q) : PN X d mX11_qJoins 103 [] [] I R Q := by
  refine P_goto (off := 170) (t := 273) (by decide) (by decide +kernel) ?_
  exact (PW_sub (ls' := []) trivial h)
theorem S_X11_qJoins_106 {X : CX} {d d1 : Nat} {y2 y4 : Int} {I R : PF} {Q Q1 : PV → PF → PF → Prop} (e1 : d1 + 1 ≤ d) (hc : CN X d1 mX11_qClip [(1, (y4 - y2))] I R Q1) (h : ∀ z I2 R2, Q1 (1, z) I2 R2 → PN X d mX11_qJoins 114 [] [(1, z), (2, 306)] I2 R2 Q) : PN X d mX11_qJoins 106 [(2, 306), (9, 0), (1, y2), (9, 0), (1, y4)] [] I R Q := by
  refine P_aload_n (n := 0) (q := 107) rfl rfl (by decide +kernel) ?_
  refine P_lload (n := 4) (q := 109) rfl rfl (by decide +kernel) ?_
  refine P_lload_n (n := 2) (q := 110) rfl rfl (by decide +kernel) ?_
  refine P_lsub (q := 111) rfl (by decide +kernel) ?_
  refine P_invS (As := [(1, (y4 - y2))]) (q := 114) oX11_qClip rfl (Or.inl kX11_663) e1 hMF (Nat.le_of_ble_eq_true rfl) hc rfl (by decide +kernel) (fun z I2 R2 hq => ?_)
  exact (PW_sub (ls' := []) trivial (h z I2 R2 hq))
theorem S_X11_qJoins_114 {X : CX} {d d1 : Nat} {v1 : Int} {I R : PF} {Q Q1 : PV → PF → PF → Prop} (e1 : d1 + 1 ≤ d) (hc : CN X d1 mX11_qPuts [(2, 306), (1, v1)] I R Q1) (h : ∀ z I2 R2, Q1 (9, z) I2 R2 → PN X d mX11_qJoins 117 [] [] I2 R2 Q) : PN X d mX11_qJoins 114 [] [(1, v1), (2, 306)] I R Q := by
  refine P_invV (As := [(1, v1)]) (q := 117) oX11_qPuts rfl kM306 kX11_426 e1 hMF (Nat.le_of_ble_eq_true rfl) hc rfl (by decide +kernel) (fun z I2 R2 hq => ?_)
  exact (PW_sub (ls' := []) trivial (h z I2 R2 hq))
theorem S_X11_qJoins_117 {X : CX} {d : Nat} {I R : PF} {Q : PV → PF → PF → Prop} (h : PN X d mX11_qJoins 273 [] [] I R Q) : PN X d mX11_qJoins 117 [] [] I R Q := by
  refine P_goto (off := 156) (t := 273) (by decide) (by decide +kernel) ?_
  exact (PW_sub (ls' := []) trivial h)
theorem S_X11_qJoins_120 {X : CX} {d d1 : Nat} {y2 y4 : Int} {I R : PF} {Q Q1 : PV → PF → PF → Prop} (e1 : d1 + 1 ≤ d) (hc : CN X d1 mX11_qClip [(1, (y4 * y2))] I R Q1) (h : ∀ z I2 R2, Q1 (1, z) I2 R2 → PN X d mX11_qJoins 128 [] [(1, z), (2, 306)] I2 R2 Q) : PN X d mX11_qJoins 120 [(2, 306), (9, 0), (1, y2), (9, 0), (1, y4)] [] I R Q := by
  refine P_aload_n (n := 0) (q := 121) rfl rfl (by decide +kernel) ?_
  refine P_lload (n := 4) (q := 123) rfl rfl (by decide +kernel) ?_
  refine P_lload_n (n := 2) (q := 124) rfl rfl (by decide +kernel) ?_
  refine P_lmul (q := 125) rfl (by decide +kernel) ?_
  refine P_invS (As := [(1, (y4 * y2))]) (q := 128) oX11_qClip rfl (Or.inl kX11_663) e1 hMF (Nat.le_of_ble_eq_true rfl) hc rfl (by decide +kernel) (fun z I2 R2 hq => ?_)
  exact (PW_sub (ls' := []) trivial (h z I2 R2 hq))
theorem S_X11_qJoins_128 {X : CX} {d d1 : Nat} {v1 : Int} {I R : PF} {Q Q1 : PV → PF → PF → Prop} (e1 : d1 + 1 ≤ d) (hc : CN X d1 mX11_qPuts [(2, 306), (1, v1)] I R Q1) (h : ∀ z I2 R2, Q1 (9, z) I2 R2 → PN X d mX11_qJoins 131 [] [] I2 R2 Q) : PN X d mX11_qJoins 128 [] [(1, v1), (2, 306)] I R Q := by
  refine P_invV (As := [(1, v1)]) (q := 131) oX11_qPuts rfl kM306 kX11_426 e1 hMF (Nat.le_of_ble_eq_true rfl) hc rfl (by decide +kernel) (fun z I2 R2 hq => ?_)
  exact (PW_sub (ls' := []) trivial (h z I2 R2 hq))
theorem S_X11_qJoins_131 {X : CX} {d : Nat} {I R : PF} {Q : PV → PF → PF → Prop} (h : PN X d mX11_qJoins 273 [] [] I R Q) : PN X d mX11_qJoins 131 [] [] I R Q := by
  refine P_goto (off := 142) (t := 273) (by decide) (by decide +kernel) ?_
  exact (PW_sub (ls' := []) trivial h)
theorem S_X11_qJoins_134 {X : CX} {d d1 : Nat} {y2 y4 : Int} {I R : PF} {Q Q1 : PV → PF → PF → Prop} (e1 : d1 + 1 ≤ d) (hc : CN X d1 mX11_qFloor [(1, y4), (1, y2)] I R Q1) (h : ∀ z I2 R2, Q1 (1, z) I2 R2 → PN X d mX11_qJoins 141 [] [(1, z), (2, 306)] I2 R2 Q) : PN X d mX11_qJoins 134 [(2, 306), (9, 0), (1, y2), (9, 0), (1, y4)] [] I R Q := by
  refine P_aload_n (n := 0) (q := 135) rfl rfl (by decide +kernel) ?_
  refine P_lload (n := 4) (q := 137) rfl rfl (by decide +kernel) ?_
  refine P_lload_n (n := 2) (q := 138) rfl rfl (by decide +kernel) ?_
  refine P_invS (As := [(1, y4), (1, y2)]) (q := 141) oX11_qFloor rfl (Or.inl kX11_667) e1 hMF (Nat.le_of_ble_eq_true rfl) hc rfl (by decide +kernel) (fun z I2 R2 hq => ?_)
  exact (PW_sub (ls' := []) trivial (h z I2 R2 hq))
theorem S_X11_qJoins_141 {X : CX} {d d1 : Nat} {v1 : Int} {I R : PF} {Q Q1 : PV → PF → PF → Prop} (e1 : d1 + 1 ≤ d) (hc : CN X d1 mX11_qPuts [(2, 306), (1, v1)] I R Q1) (h : ∀ z I2 R2, Q1 (9, z) I2 R2 → PN X d mX11_qJoins 144 [] [] I2 R2 Q) : PN X d mX11_qJoins 141 [] [(1, v1), (2, 306)] I R Q := by
  refine P_invV (As := [(1, v1)]) (q := 144) oX11_qPuts rfl kM306 kX11_426 e1 hMF (Nat.le_of_ble_eq_true rfl) hc rfl (by decide +kernel) (fun z I2 R2 hq => ?_)
  exact (PW_sub (ls' := []) trivial (h z I2 R2 hq))
theorem S_X11_qJoins_144 {X : CX} {d : Nat} {I R : PF} {Q : PV → PF → PF → Prop} (h : PN X d mX11_qJoins 273 [] [] I R Q) : PN X d mX11_qJoins 144 [] [] I R Q := by
  refine P_goto (off := 129) (t := 273) (by decide) (by decide +kernel) ?_
  exact (PW_sub (ls' := []) trivial h)
theorem S_X11_qJoins_147 {X : CX} {d : Nat} {y2 y4 : Int} {I R : PF} {Q : PV → PF → PF → Prop} (c1 : -9223372036854775808 ≤ y4 ∧ y4 < 9223372036854775808) (c2 : -9223372036854775808 ≤ y2 ∧ y2 < 9223372036854775808) (h1 : y2 ≤ y4 → PN X d mX11_qJoins 160 [(9, 0), (9, 0), (1, y2)] [(2, 306)] I R Q) (h2 : y4 < y2 → PN X d mX11_qJoins 155 [(9, 0), (9, 0), (9, 0), (9, 0), (1, y4)] [(2, 306)] I R Q) : PN X d mX11_qJoins 147 [(2, 306), (9, 0), (1, y2), (9, 0), (1, y4)] [] I R Q := by
  refine P_aload_n (n := 0) (q := 148) rfl rfl (by decide +kernel) ?_
  refine P_lload (n := 4) (q := 150) rfl rfl (by decide +kernel) ?_
  refine P_lload_n (n := 2) (q := 151) rfl rfl (by decide +kernel) ?_
  refine B_lif_ge (off := 8) (t := 160) (q1 := 152) (q := 155) c1 c2 rfl (by decide +kernel) (by decide) rfl (by decide +kernel) ?_ ?_
  · exact fun g9 => (PW_sub (ls' := [(9, 0), (9, 0), (1, y2)]) ⟨Or.inl rfl, Or.inl rfl, Or.inr rfl, trivial⟩ (h1 g9))
  · exact fun g9 => (PW_sub (ls' := [(9, 0), (9, 0), (9, 0), (9, 0), (1, y4)]) ⟨Or.inl rfl, Or.inl rfl, Or.inl rfl, Or.inl rfl, Or.inr rfl, trivial⟩ (h2 g9))
theorem S_X11_qJoins_155 {X : CX} {d : Nat} {y4 : Int} {I R : PF} {Q : PV → PF → PF → Prop} (h : PN X d mX11_qJoins 161 [] [(1, y4), (2, 306)] I R Q) : PN X d mX11_qJoins 155 [(9, 0), (9, 0), (9, 0), (9, 0), (1, y4)] [(2, 306)] I R Q := by
  refine P_lload (n := 4) (q := 157) rfl rfl (by decide +kernel) ?_
  refine P_goto (off := 4) (t := 161) (by decide) (by decide +kernel) ?_
  exact (PW_sub (ls' := []) trivial h)
theorem S_X11_qJoins_160 {X : CX} {d : Nat} {y2 : Int} {I R : PF} {Q : PV → PF → PF → Prop} (h : PN X d mX11_qJoins 161 [] [(1, y2), (2, 306)] I R Q) : PN X d mX11_qJoins 160 [(9, 0), (9, 0), (1, y2)] [(2, 306)] I R Q := by
  refine P_lload_n (n := 2) (q := 161) rfl rfl (by decide +kernel) ?_
  exact (PW_sub (ls' := []) trivial h)
theorem S_X11_qJoins_161 {X : CX} {d d1 : Nat} {v1 : Int} {I R : PF} {Q Q1 : PV → PF → PF → Prop} (e1 : d1 + 1 ≤ d) (hc : CN X d1 mX11_qPuts [(2, 306), (1, v1)] I R Q1) (h : ∀ z I2 R2, Q1 (9, z) I2 R2 → PN X d mX11_qJoins 164 [] [] I2 R2 Q) : PN X d mX11_qJoins 161 [] [(1, v1), (2, 306)] I R Q := by
  refine P_invV (As := [(1, v1)]) (q := 164) oX11_qPuts rfl kM306 kX11_426 e1 hMF (Nat.le_of_ble_eq_true rfl) hc rfl (by decide +kernel) (fun z I2 R2 hq => ?_)
  exact (PW_sub (ls' := []) trivial (h z I2 R2 hq))
theorem S_X11_qJoins_164 {X : CX} {d : Nat} {I R : PF} {Q : PV → PF → PF → Prop} (h : PN X d mX11_qJoins 273 [] [] I R Q) : PN X d mX11_qJoins 164 [] [] I R Q := by
  refine P_goto (off := 109) (t := 273) (by decide) (by decide +kernel) ?_
  exact (PW_sub (ls' := []) trivial h)
theorem S_X11_qJoins_167 {X : CX} {d : Nat} {y2 y4 : Int} {I R : PF} {Q : PV → PF → PF → Prop} (c1 : -9223372036854775808 ≤ y4 ∧ y4 < 9223372036854775808) (c2 : -9223372036854775808 ≤ y2 ∧ y2 < 9223372036854775808) (h1 : y4 ≤ y2 → PN X d mX11_qJoins 180 [(9, 0), (9, 0), (1, y2)] [(2, 306)] I R Q) (h2 : y2 < y4 → PN X d mX11_qJoins 175 [(9, 0), (9, 0), (9, 0), (9, 0), (1, y4)] [(2, 306)] I R Q) : PN X d mX11_qJoins 167 [(2, 306), (9, 0), (1, y2), (9, 0), (1, y4)] [] I R Q := by
  refine P_aload_n (n := 0) (q := 168) rfl rfl (by decide +kernel) ?_
  refine P_lload (n := 4) (q := 170) rfl rfl (by decide +kernel) ?_
  refine P_lload_n (n := 2) (q := 171) rfl rfl (by decide +kernel) ?_
  refine B_lif_le (off := 8) (t := 180) (q1 := 172) (q := 175) c1 c2 rfl (by decide +kernel) (by decide) rfl (by decide +kernel) ?_ ?_
  · exact fun g9 => (PW_sub (ls' := [(9, 0), (9, 0), (1, y2)]) ⟨Or.inl rfl, Or.inl rfl, Or.inr rfl, trivial⟩ (h1 g9))
  · exact fun g9 => (PW_sub (ls' := [(9, 0), (9, 0), (9, 0), (9, 0), (1, y4)]) ⟨Or.inl rfl, Or.inl rfl, Or.inl rfl, Or.inl rfl, Or.inr rfl, trivial⟩ (h2 g9))
theorem S_X11_qJoins_175 {X : CX} {d : Nat} {y4 : Int} {I R : PF} {Q : PV → PF → PF → Prop} (h : PN X d mX11_qJoins 181 [] [(1, y4), (2, 306)] I R Q) : PN X d mX11_qJoins 175 [(9, 0), (9, 0), (9, 0), (9, 0), (1, y4)] [(2, 306)] I R Q := by
  refine P_lload (n := 4) (q := 177) rfl rfl (by decide +kernel) ?_
  refine P_goto (off := 4) (t := 181) (by decide) (by decide +kernel) ?_
  exact (PW_sub (ls' := []) trivial h)
theorem S_X11_qJoins_180 {X : CX} {d : Nat} {y2 : Int} {I R : PF} {Q : PV → PF → PF → Prop} (h : PN X d mX11_qJoins 181 [] [(1, y2), (2, 306)] I R Q) : PN X d mX11_qJoins 180 [(9, 0), (9, 0), (1, y2)] [(2, 306)] I R Q := by
  refine P_lload_n (n := 2) (q := 181) rfl rfl (by decide +kernel) ?_
  exact (PW_sub (ls' := []) trivial h)
theorem S_X11_qJoins_181 {X : CX} {d d1 : Nat} {v1 : Int} {I R : PF} {Q Q1 : PV → PF → PF → Prop} (e1 : d1 + 1 ≤ d) (hc : CN X d1 mX11_qPuts [(2, 306), (1, v1)] I R Q1) (h : ∀ z I2 R2, Q1 (9, z) I2 R2 → PN X d mX11_qJoins 184 [] [] I2 R2 Q) : PN X d mX11_qJoins 181 [] [(1, v1), (2, 306)] I R Q := by
  refine P_invV (As := [(1, v1)]) (q := 184) oX11_qPuts rfl kM306 kX11_426 e1 hMF (Nat.le_of_ble_eq_true rfl) hc rfl (by decide +kernel) (fun z I2 R2 hq => ?_)
  exact (PW_sub (ls' := []) trivial (h z I2 R2 hq))
theorem S_X11_qJoins_184 {X : CX} {d : Nat} {I R : PF} {Q : PV → PF → PF → Prop} (h : PN X d mX11_qJoins 273 [] [] I R Q) : PN X d mX11_qJoins 184 [] [] I R Q := by
  refine P_goto (off := 89) (t := 273) (by decide) (by decide +kernel) ?_
  exact (PW_sub (ls' := []) trivial h)
theorem S_X11_qJoins_187 {X : CX} {d : Nat} {y2 y4 : Int} {I R : PF} {Q : PV → PF → PF → Prop} (c1 : -9223372036854775808 ≤ y4 ∧ y4 < 9223372036854775808) (c2 : -9223372036854775808 ≤ y2 ∧ y2 < 9223372036854775808) (h1 : y2 ≤ y4 → PN X d mX11_qJoins 199 [] [(2, 306)] I R Q) (h2 : y4 < y2 → PN X d mX11_qJoins 195 [] [(2, 306)] I R Q) : PN X d mX11_qJoins 187 [(2, 306), (9, 0), (1, y2), (9, 0), (1, y4)] [] I R Q := by
  refine P_aload_n (n := 0) (q := 188) rfl rfl (by decide +kernel) ?_
  refine P_lload (n := 4) (q := 190) rfl rfl (by decide +kernel) ?_
  refine P_lload_n (n := 2) (q := 191) rfl rfl (by decide +kernel) ?_
  refine B_lif_ge (off := 7) (t := 199) (q1 := 192) (q := 195) c1 c2 rfl (by decide +kernel) (by decide) rfl (by decide +kernel) ?_ ?_
  · exact fun g9 => (PW_sub (ls' := []) trivial (h1 g9))
  · exact fun g9 => (PW_sub (ls' := []) trivial (h2 g9))
theorem S_X11_qJoins_195 {X : CX} {d : Nat} {I R : PF} {Q : PV → PF → PF → Prop} (h : PN X d mX11_qJoins 200 [] [(1, 1), (2, 306)] I R Q) : PN X d mX11_qJoins 195 [] [(2, 306)] I R Q := by
  refine P_lconst (n := 1) (x := 1) (q := 196) rfl rfl (by decide +kernel) ?_
  refine P_goto (off := 4) (t := 200) (by decide) (by decide +kernel) ?_
  exact (PW_sub (ls' := []) trivial h)
theorem S_X11_qJoins_199 {X : CX} {d : Nat} {I R : PF} {Q : PV → PF → PF → Prop} (h : PN X d mX11_qJoins 200 [] [(1, 0), (2, 306)] I R Q) : PN X d mX11_qJoins 199 [] [(2, 306)] I R Q := by
  refine P_lconst (n := 0) (x := 0) (q := 200) rfl rfl (by decide +kernel) ?_
  exact (PW_sub (ls' := []) trivial h)
theorem S_X11_qJoins_200 {X : CX} {d d1 : Nat} {v1 : Int} {I R : PF} {Q Q1 : PV → PF → PF → Prop} (e1 : d1 + 1 ≤ d) (hc : CN X d1 mX11_qPuts [(2, 306), (1, v1)] I R Q1) (h : ∀ z I2 R2, Q1 (9, z) I2 R2 → PN X d mX11_qJoins 203 [] [] I2 R2 Q) : PN X d mX11_qJoins 200 [] [(1, v1), (2, 306)] I R Q := by
  refine P_invV (As := [(1, v1)]) (q := 203) oX11_qPuts rfl kM306 kX11_426 e1 hMF (Nat.le_of_ble_eq_true rfl) hc rfl (by decide +kernel) (fun z I2 R2 hq => ?_)
  exact (PW_sub (ls' := []) trivial (h z I2 R2 hq))
theorem S_X11_qJoins_203 {X : CX} {d : Nat} {I R : PF} {Q : PV → PF → PF → Prop} (h : PN X d mX11_qJoins 273 [] [] I R Q) : PN X d mX11_qJoins 203 [] [] I R Q := by
  refine P_goto (off := 70) (t := 273) (by decide) (by decide +kernel) ?_
  exact (PW_sub (ls' := []) trivial h)
theorem S_X11_qJoins_206 {X : CX} {d : Nat} {y2 y4 : Int} {I R : PF} {Q : PV → PF → PF → Prop} (c1 : -9223372036854775808 ≤ y4 ∧ y4 < 9223372036854775808) (c2 : -9223372036854775808 ≤ y2 ∧ y2 < 9223372036854775808) (h1 : y4 ≤ y2 → PN X d mX11_qJoins 218 [] [(2, 306)] I R Q) (h2 : y2 < y4 → PN X d mX11_qJoins 214 [] [(2, 306)] I R Q) : PN X d mX11_qJoins 206 [(2, 306), (9, 0), (1, y2), (9, 0), (1, y4)] [] I R Q := by
  refine P_aload_n (n := 0) (q := 207) rfl rfl (by decide +kernel) ?_
  refine P_lload (n := 4) (q := 209) rfl rfl (by decide +kernel) ?_
  refine P_lload_n (n := 2) (q := 210) rfl rfl (by decide +kernel) ?_
  refine B_lif_le (off := 7) (t := 218) (q1 := 211) (q := 214) c1 c2 rfl (by decide +kernel) (by decide) rfl (by decide +kernel) ?_ ?_
  · exact fun g9 => (PW_sub (ls' := []) trivial (h1 g9))
  · exact fun g9 => (PW_sub (ls' := []) trivial (h2 g9))
theorem S_X11_qJoins_214 {X : CX} {d : Nat} {I R : PF} {Q : PV → PF → PF → Prop} (h : PN X d mX11_qJoins 219 [] [(1, 1), (2, 306)] I R Q) : PN X d mX11_qJoins 214 [] [(2, 306)] I R Q := by
  refine P_lconst (n := 1) (x := 1) (q := 215) rfl rfl (by decide +kernel) ?_
  refine P_goto (off := 4) (t := 219) (by decide) (by decide +kernel) ?_
  exact (PW_sub (ls' := []) trivial h)
theorem S_X11_qJoins_218 {X : CX} {d : Nat} {I R : PF} {Q : PV → PF → PF → Prop} (h : PN X d mX11_qJoins 219 [] [(1, 0), (2, 306)] I R Q) : PN X d mX11_qJoins 218 [] [(2, 306)] I R Q := by
  refine P_lconst (n := 0) (x := 0) (q := 219) rfl rfl (by decide +kernel) ?_
  exact (PW_sub (ls' := []) trivial h)
theorem S_X11_qJoins_219 {X : CX} {d d1 : Nat} {v1 : Int} {I R : PF} {Q Q1 : PV → PF → PF → Prop} (e1 : d1 + 1 ≤ d) (hc : CN X d1 mX11_qPuts [(2, 306), (1, v1)] I R Q1) (h : ∀ z I2 R2, Q1 (9, z) I2 R2 → PN X d mX11_qJoins 222 [] [] I2 R2 Q) : PN X d mX11_qJoins 219 [] [(1, v1), (2, 306)] I R Q := by
  refine P_invV (As := [(1, v1)]) (q := 222) oX11_qPuts rfl kM306 kX11_426 e1 hMF (Nat.le_of_ble_eq_true rfl) hc rfl (by decide +kernel) (fun z I2 R2 hq => ?_)
  exact (PW_sub (ls' := []) trivial (h z I2 R2 hq))
theorem S_X11_qJoins_222 {X : CX} {d : Nat} {I R : PF} {Q : PV → PF → PF → Prop} (h : PN X d mX11_qJoins 273 [] [] I R Q) : PN X d mX11_qJoins 222 [] [] I R Q := by
  refine P_goto (off := 51) (t := 273) (by decide) (by decide +kernel) ?_
  exact (PW_sub (ls' := []) trivial h)
theorem S_X11_qJoins_225 {X : CX} {d : Nat} {y2 y4 : Int} {I R : PF} {Q : PV → PF → PF → Prop} (c1 : -9223372036854775808 ≤ y4 ∧ y4 < 9223372036854775808) (c2 : -9223372036854775808 ≤ y2 ∧ y2 < 9223372036854775808) (h1 : y4 ≠ y2 → PN X d mX11_qJoins 237 [] [(2, 306)] I R Q) (h2 : y4 = y2 → PN X d mX11_qJoins 233 [] [(2, 306)] I R Q) : PN X d mX11_qJoins 225 [(2, 306), (9, 0), (1, y2), (9, 0), (1, y4)] [] I R Q := by
  refine P_aload_n (n := 0) (q := 226) rfl rfl (by decide +kernel) ?_
  refine P_lload (n := 4) (q := 228) rfl rfl (by decide +kernel) ?_
  refine P_lload_n (n := 2) (q := 229) rfl rfl (by decide +kernel) ?_
  refine B_lif_ne (off := 7) (t := 237) (q1 := 230) (q := 233) c1 c2 rfl (by decide +kernel) (by decide) rfl (by decide +kernel) ?_ ?_
  · exact fun g9 => (PW_sub (ls' := []) trivial (h1 g9))
  · exact fun g9 => (PW_sub (ls' := []) trivial (h2 g9))
theorem S_X11_qJoins_233 {X : CX} {d : Nat} {I R : PF} {Q : PV → PF → PF → Prop} (h : PN X d mX11_qJoins 238 [] [(1, 1), (2, 306)] I R Q) : PN X d mX11_qJoins 233 [] [(2, 306)] I R Q := by
  refine P_lconst (n := 1) (x := 1) (q := 234) rfl rfl (by decide +kernel) ?_
  refine P_goto (off := 4) (t := 238) (by decide) (by decide +kernel) ?_
  exact (PW_sub (ls' := []) trivial h)
theorem S_X11_qJoins_237 {X : CX} {d : Nat} {I R : PF} {Q : PV → PF → PF → Prop} (h : PN X d mX11_qJoins 238 [] [(1, 0), (2, 306)] I R Q) : PN X d mX11_qJoins 237 [] [(2, 306)] I R Q := by
  refine P_lconst (n := 0) (x := 0) (q := 238) rfl rfl (by decide +kernel) ?_
  exact (PW_sub (ls' := []) trivial h)
theorem S_X11_qJoins_238 {X : CX} {d d1 : Nat} {v1 : Int} {I R : PF} {Q Q1 : PV → PF → PF → Prop} (e1 : d1 + 1 ≤ d) (hc : CN X d1 mX11_qPuts [(2, 306), (1, v1)] I R Q1) (h : ∀ z I2 R2, Q1 (9, z) I2 R2 → PN X d mX11_qJoins 241 [] [] I2 R2 Q) : PN X d mX11_qJoins 238 [] [(1, v1), (2, 306)] I R Q := by
  refine P_invV (As := [(1, v1)]) (q := 241) oX11_qPuts rfl kM306 kX11_426 e1 hMF (Nat.le_of_ble_eq_true rfl) hc rfl (by decide +kernel) (fun z I2 R2 hq => ?_)
  exact (PW_sub (ls' := []) trivial (h z I2 R2 hq))
theorem S_X11_qJoins_241 {X : CX} {d : Nat} {I R : PF} {Q : PV → PF → PF → Prop} (h : PN X d mX11_qJoins 273 [] [] I R Q) : PN X d mX11_qJoins 241 [] [] I R Q := by
  refine P_goto (off := 32) (t := 273) (by decide) (by decide +kernel) ?_
  exact (PW_sub (ls' := []) trivial h)
theorem S_X11_qJoins_244 {X : CX} {d d1 : Nat} {y2 y4 : Int} {I R : PF} {Q Q1 : PV → PF → PF → Prop} (e1 : d1 + 1 ≤ d) (hc : CN X d1 mX11_qPuts [(2, 306), (1, (y4 * y2))] I R Q1) (h : ∀ z I2 R2, Q1 (9, z) I2 R2 → PN X d mX11_qJoins 252 [] [] I2 R2 Q) : PN X d mX11_qJoins 244 [(2, 306), (9, 0), (1, y2), (9, 0), (1, y4)] [] I R Q := by
  refine P_aload_n (n := 0) (q := 245) rfl rfl (by decide +kernel) ?_
  refine P_lload (n := 4) (q := 247) rfl rfl (by decide +kernel) ?_
  refine P_lload_n (n := 2) (q := 248) rfl rfl (by decide +kernel) ?_
  refine P_lmul (q := 249) rfl (by decide +kernel) ?_
  refine P_invV (As := [(1, (y4 * y2))]) (q := 252) oX11_qPuts rfl kM306 kX11_426 e1 hMF (Nat.le_of_ble_eq_true rfl) hc rfl (by decide +kernel) (fun z I2 R2 hq => ?_)
  exact (PW_sub (ls' := []) trivial (h z I2 R2 hq))
theorem S_X11_qJoins_252 {X : CX} {d : Nat} {I R : PF} {Q : PV → PF → PF → Prop} (h : PN X d mX11_qJoins 273 [] [] I R Q) : PN X d mX11_qJoins 252 [] [] I R Q := by
  refine P_goto (off := 21) (t := 273) (by decide) (by decide +kernel) ?_
  exact (PW_sub (ls' := []) trivial h)
theorem S_X11_qJoins_255 {X : CX} {d : Nat} {y2 y4 : Int} {I R : PF} {Q : PV → PF → PF → Prop} (c1 : -9223372036854775808 ≤ (y4 + y2) ∧ (y4 + y2) < 9223372036854775808) (h1 : (y4 + y2) ≤ 0 → PN X d mX11_qJoins 269 [] [(2, 306)] I R Q) (h2 : 0 < (y4 + y2) → PN X d mX11_qJoins 265 [] [(2, 306)] I R Q) : PN X d mX11_qJoins 255 [(2, 306), (9, 0), (1, y2), (9, 0), (1, y4)] [] I R Q := by
  refine P_aload_n (n := 0) (q := 256) rfl rfl (by decide +kernel) ?_
  refine P_lload (n := 4) (q := 258) rfl rfl (by decide +kernel) ?_
  refine P_lload_n (n := 2) (q := 259) rfl rfl (by decide +kernel) ?_
  refine P_ladd (q := 260) rfl (by decide +kernel) ?_
  refine P_lconst (n := 0) (x := 0) (q := 261) rfl rfl (by decide +kernel) ?_
  refine B_lif_le (off := 7) (t := 269) (q1 := 262) (q := 265) c1 ⟨by decide, by decide⟩ rfl (by decide +kernel) (by decide) rfl (by decide +kernel) ?_ ?_
  · exact fun g9 => (PW_sub (ls' := []) trivial (h1 g9))
  · exact fun g9 => (PW_sub (ls' := []) trivial (h2 g9))
theorem S_X11_qJoins_265 {X : CX} {d : Nat} {I R : PF} {Q : PV → PF → PF → Prop} (h : PN X d mX11_qJoins 270 [] [(1, 1), (2, 306)] I R Q) : PN X d mX11_qJoins 265 [] [(2, 306)] I R Q := by
  refine P_lconst (n := 1) (x := 1) (q := 266) rfl rfl (by decide +kernel) ?_
  refine P_goto (off := 4) (t := 270) (by decide) (by decide +kernel) ?_
  exact (PW_sub (ls' := []) trivial h)
theorem S_X11_qJoins_269 {X : CX} {d : Nat} {I R : PF} {Q : PV → PF → PF → Prop} (h : PN X d mX11_qJoins 270 [] [(1, 0), (2, 306)] I R Q) : PN X d mX11_qJoins 269 [] [(2, 306)] I R Q := by
  refine P_lconst (n := 0) (x := 0) (q := 270) rfl rfl (by decide +kernel) ?_
  exact (PW_sub (ls' := []) trivial h)
theorem S_X11_qJoins_270 {X : CX} {d d1 : Nat} {v1 : Int} {I R : PF} {Q Q1 : PV → PF → PF → Prop} (e1 : d1 + 1 ≤ d) (hc : CN X d1 mX11_qPuts [(2, 306), (1, v1)] I R Q1) (h : ∀ z I2 R2, Q1 (9, z) I2 R2 → PN X d mX11_qJoins 273 [] [] I2 R2 Q) : PN X d mX11_qJoins 270 [] [(1, v1), (2, 306)] I R Q := by
  refine P_invV (As := [(1, v1)]) (q := 273) oX11_qPuts rfl kM306 kX11_426 e1 hMF (Nat.le_of_ble_eq_true rfl) hc rfl (by decide +kernel) (fun z I2 R2 hq => ?_)
  exact (PW_sub (ls' := []) trivial (h z I2 R2 hq))
theorem S_X11_qJoins_273 {X : CX} {d : Nat} {I R : PF} {Q : PV → PF → PF → Prop} (h : Q (9, 0) I R) : PN X d mX11_qJoins 273 [] [] I R Q := by
  refine P_vret rfl (by decide +kernel) h
theorem S_X11_qKind_0 {X : CX} {d d1 : Nat} {I R : PF} {Q Q1 : PV → PF → PF → Prop} (hs : Shp R) (e1 : d1 + 1 ≤ d) (hc : CN X d1 mX11_takes [(2, 306), (2, 355)] I R Q1) (h : ∀ z I2 R2, Q1 (0, z) I2 R2 → PN X d mX11_qKind 8 [(2, 306)] [(0, z)] I2 R2 Q) : PN X d mX11_qKind 0 [(2, 306)] [] I R Q := by
  refine P_aload_n (n := 0) (q := 1) rfl rfl (by decide +kernel) ?_
  refine P_aload_n (n := 0) (q := 2) rfl rfl (by decide +kernel) ?_
  refine B_getfR (q := 5) fX11_339 kM306 (rM306_79 hs) rfl (by decide +kernel) ?_
  refine P_invV (As := [(2, 355)]) (q := 8) oX11_takes rfl kM306 kX11_41 e1 hMF (Nat.le_of_ble_eq_true rfl) hc rfl (by decide +kernel) (fun z I2 R2 hq => ?_)
  exact (h z I2 R2 hq)
theorem S_X11_qKind_8 {X : CX} {d : Nat} {o0 : Int} {I R : PF} {Q : PV → PF → PF → Prop} (c1 : -2147483648 ≤ o0 ∧ o0 < 2147483648) (h1 : o0 = 0 → PN X d mX11_qKind 15 [(2, 306)] [] I R Q) (h2 : o0 ≠ 0 → PN X d mX11_qKind 11 [(2, 306)] [] I R Q) : PN X d mX11_qKind 8 [(2, 306)] [(0, o0)] I R Q := by
  refine B_if_eq (off := 7) (t := 15) (q := 11) c1 (by decide) rfl (by decide +kernel) ?_ ?_
  · exact fun g9 => (h1 g9)
  · exact fun g9 => (h2 g9)
theorem S_X11_qKind_11 {X : CX} {d : Nat} {I R : PF} {Q : PV → PF → PF → Prop} (h : PN X d mX11_qKind 76 [(2, 306)] [(0, 0)] I R Q) : PN X d mX11_qKind 11 [(2, 306)] [] I R Q := by
  refine P_iconst (n := 0) (q := 12) rfl (by decide +kernel) ?_
  refine P_goto (off := 64) (t := 76) (by decide) (by decide +kernel) ?_
  exact h
theorem S_X11_qKind_15 {X : CX} {d d1 : Nat} {I R : PF} {Q Q1 : PV → PF → PF → Prop} (hs : Shp R) (e1 : d1 + 1 ≤ d) (hc : CN X d1 mX11_takes [(2, 306), (2, 356)] I R Q1) (h : ∀ z I2 R2, Q1 (0, z) I2 R2 → PN X d mX11_qKind 23 [(2, 306)] [(0, z)] I2 R2 Q) : PN X d mX11_qKind 15 [(2, 306)] [] I R Q := by
  refine P_aload_n (n := 0) (q := 16) rfl rfl (by decide +kernel) ?_
  refine P_aload_n (n := 0) (q := 17) rfl rfl (by decide +kernel) ?_
  refine B_getfR (q := 20) fX11_342 kM306 (rM306_80 hs) rfl (by decide +kernel) ?_
  refine P_invV (As := [(2, 356)]) (q := 23) oX11_takes rfl kM306 kX11_41 e1 hMF (Nat.le_of_ble_eq_true rfl) hc rfl (by decide +kernel) (fun z I2 R2 hq => ?_)
  exact (h z I2 R2 hq)
theorem S_X11_qKind_23 {X : CX} {d : Nat} {o0 : Int} {I R : PF} {Q : PV → PF → PF → Prop} (c1 : -2147483648 ≤ o0 ∧ o0 < 2147483648) (h1 : o0 = 0 → PN X d mX11_qKind 30 [(2, 306)] [] I R Q) (h2 : o0 ≠ 0 → PN X d mX11_qKind 26 [(2, 306)] [] I R Q) : PN X d mX11_qKind 23 [(2, 306)] [(0, o0)] I R Q := by
  refine B_if_eq (off := 7) (t := 30) (q := 26) c1 (by decide) rfl (by decide +kernel) ?_ ?_
  · exact fun g9 => (h1 g9)
  · exact fun g9 => (h2 g9)
theorem S_X11_qKind_26 {X : CX} {d : Nat} {I R : PF} {Q : PV → PF → PF → Prop} (h : PN X d mX11_qKind 76 [(2, 306)] [(0, 1)] I R Q) : PN X d mX11_qKind 26 [(2, 306)] [] I R Q := by
  refine P_iconst (n := 1) (q := 27) rfl (by decide +kernel) ?_
  refine P_goto (off := 49) (t := 76) (by decide) (by decide +kernel) ?_
  exact h
theorem S_X11_qKind_30 {X : CX} {d d1 : Nat} {I R : PF} {Q Q1 : PV → PF → PF → Prop} (hs : Shp R) (e1 : d1 + 1 ≤ d) (hc : CN X d1 mX11_takes [(2, 306), (2, 357)] I R Q1) (h : ∀ z I2 R2, Q1 (0, z) I2 R2 → PN X d mX11_qKind 38 [(2, 306)] [(0, z)] I2 R2 Q) : PN X d mX11_qKind 30 [(2, 306)] [] I R Q := by
  refine P_aload_n (n := 0) (q := 31) rfl rfl (by decide +kernel) ?_
  refine P_aload_n (n := 0) (q := 32) rfl rfl (by decide +kernel) ?_
  refine B_getfR (q := 35) fX11_345 kM306 (rM306_81 hs) rfl (by decide +kernel) ?_
  refine P_invV (As := [(2, 357)]) (q := 38) oX11_takes rfl kM306 kX11_41 e1 hMF (Nat.le_of_ble_eq_true rfl) hc rfl (by decide +kernel) (fun z I2 R2 hq => ?_)
  exact (h z I2 R2 hq)
theorem S_X11_qKind_38 {X : CX} {d : Nat} {o0 : Int} {I R : PF} {Q : PV → PF → PF → Prop} (c1 : -2147483648 ≤ o0 ∧ o0 < 2147483648) (h1 : o0 = 0 → PN X d mX11_qKind 45 [(2, 306)] [] I R Q) (h2 : o0 ≠ 0 → PN X d mX11_qKind 41 [(2, 306)] [] I R Q) : PN X d mX11_qKind 38 [(2, 306)] [(0, o0)] I R Q := by
  refine B_if_eq (off := 7) (t := 45) (q := 41) c1 (by decide) rfl (by decide +kernel) ?_ ?_
  · exact fun g9 => (h1 g9)
  · exact fun g9 => (h2 g9)
theorem S_X11_qKind_41 {X : CX} {d : Nat} {I R : PF} {Q : PV → PF → PF → Prop} (h : PN X d mX11_qKind 76 [(2, 306)] [(0, 2)] I R Q) : PN X d mX11_qKind 41 [(2, 306)] [] I R Q := by
  refine P_iconst (n := 2) (q := 42) rfl (by decide +kernel) ?_
  refine P_goto (off := 34) (t := 76) (by decide) (by decide +kernel) ?_
  exact h
theorem S_X11_qKind_45 {X : CX} {d d1 : Nat} {I R : PF} {Q Q1 : PV → PF → PF → Prop} (hs : Shp R) (e1 : d1 + 1 ≤ d) (hc : CN X d1 mX11_takes [(2, 306), (2, 358)] I R Q1) (h : ∀ z I2 R2, Q1 (0, z) I2 R2 → PN X d mX11_qKind 53 [(2, 306)] [(0, z)] I2 R2 Q) : PN X d mX11_qKind 45 [(2, 306)] [] I R Q := by
  refine P_aload_n (n := 0) (q := 46) rfl rfl (by decide +kernel) ?_
  refine P_aload_n (n := 0) (q := 47) rfl rfl (by decide +kernel) ?_
  refine B_getfR (q := 50) fX11_348 kM306 (rM306_82 hs) rfl (by decide +kernel) ?_
  refine P_invV (As := [(2, 358)]) (q := 53) oX11_takes rfl kM306 kX11_41 e1 hMF (Nat.le_of_ble_eq_true rfl) hc rfl (by decide +kernel) (fun z I2 R2 hq => ?_)
  exact (h z I2 R2 hq)
theorem S_X11_qKind_53 {X : CX} {d : Nat} {o0 : Int} {I R : PF} {Q : PV → PF → PF → Prop} (c1 : -2147483648 ≤ o0 ∧ o0 < 2147483648) (h1 : o0 = 0 → PN X d mX11_qKind 60 [(2, 306)] [] I R Q) (h2 : o0 ≠ 0 → PN X d mX11_qKind 56 [(2, 306)] [] I R Q) : PN X d mX11_qKind 53 [(2, 306)] [(0, o0)] I R Q := by
  refine B_if_eq (off := 7) (t := 60) (q := 56) c1 (by decide) rfl (by decide +kernel) ?_ ?_
  · exact fun g9 => (h1 g9)
  · exact fun g9 => (h2 g9)
theorem S_X11_qKind_56 {X : CX} {d : Nat} {I R : PF} {Q : PV → PF → PF → Prop} (h : PN X d mX11_qKind 76 [(2, 306)] [(0, 3)] I R Q) : PN X d mX11_qKind 56 [(2, 306)] [] I R Q := by
  refine P_iconst (n := 3) (q := 57) rfl (by decide +kernel) ?_
  refine P_goto (off := 19) (t := 76) (by decide) (by decide +kernel) ?_
  exact h
theorem S_X11_qKind_60 {X : CX} {d d1 : Nat} {I R : PF} {Q Q1 : PV → PF → PF → Prop} (hs : Shp R) (e1 : d1 + 1 ≤ d) (hc : CN X d1 mX11_takes [(2, 306), (2, 359)] I R Q1) (h : ∀ z I2 R2, Q1 (0, z) I2 R2 → PN X d mX11_qKind 68 [(2, 306)] [(0, z)] I2 R2 Q) : PN X d mX11_qKind 60 [(2, 306)] [] I R Q := by
  refine P_aload_n (n := 0) (q := 61) rfl rfl (by decide +kernel) ?_
  refine P_aload_n (n := 0) (q := 62) rfl rfl (by decide +kernel) ?_
  refine B_getfR (q := 65) fX11_351 kM306 (rM306_83 hs) rfl (by decide +kernel) ?_
  refine P_invV (As := [(2, 359)]) (q := 68) oX11_takes rfl kM306 kX11_41 e1 hMF (Nat.le_of_ble_eq_true rfl) hc rfl (by decide +kernel) (fun z I2 R2 hq => ?_)
  exact (h z I2 R2 hq)
theorem S_X11_qKind_68 {X : CX} {d : Nat} {o0 : Int} {I R : PF} {Q : PV → PF → PF → Prop} (c1 : -2147483648 ≤ o0 ∧ o0 < 2147483648) (h1 : o0 = 0 → PN X d mX11_qKind 75 [(2, 306)] [] I R Q) (h2 : o0 ≠ 0 → PN X d mX11_qKind 71 [(2, 306)] [] I R Q) : PN X d mX11_qKind 68 [(2, 306)] [(0, o0)] I R Q := by
  refine B_if_eq (off := 7) (t := 75) (q := 71) c1 (by decide) rfl (by decide +kernel) ?_ ?_
  · exact fun g9 => (h1 g9)
  · exact fun g9 => (h2 g9)
theorem S_X11_qKind_71 {X : CX} {d : Nat} {I R : PF} {Q : PV → PF → PF → Prop} (h : PN X d mX11_qKind 76 [(2, 306)] [(0, 4)] I R Q) : PN X d mX11_qKind 71 [(2, 306)] [] I R Q := by
  refine P_iconst (n := 4) (q := 72) rfl (by decide +kernel) ?_
  refine P_goto (off := 4) (t := 76) (by decide) (by decide +kernel) ?_
  exact h
theorem S_X11_qKind_75 {X : CX} {d : Nat} {I R : PF} {Q : PV → PF → PF → Prop} (h : PN X d mX11_qKind 76 [(2, 306)] [(0, 5)] I R Q) : PN X d mX11_qKind 75 [(2, 306)] [] I R Q := by
  refine P_iconst (n := 5) (q := 76) rfl (by decide +kernel) ?_
  exact h
theorem S_X11_qKind_76 {X : CX} {d : Nat} {o0 : Int} {I R : PF} {Q : PV → PF → PF → Prop} (c1 : -2147483648 ≤ o0 ∧ o0 < 2147483648) (h1 : o0 ≠ 5 → PN X d mX11_qKind 90 [(9, 0), (0, o0)] [] I R Q) (h2 : o0 = 5 → PN X d mX11_qKind 82 [(2, 306), (0, o0)] [] I R Q) : PN X d mX11_qKind 76 [(2, 306)] [(0, o0)] I R Q := by
  refine P_istore_n (n := 1) (by decide) (q := 77) rfl (by decide +kernel) ?_
  refine P_iload_n (n := 1) (q := 78) rfl rfl (by decide +kernel) ?_
  refine P_iconst (n := 5) (q := 79) rfl (by decide +kernel) ?_
  refine B_icmp_ne (off := 11) (t := 90) (q := 82) c1 ⟨by decide, by decide⟩ (by decide) rfl (by decide +kernel) ?_ ?_
  · exact fun g9 => (PW_sub (ls' := [(9, 0), (0, o0)]) ⟨Or.inl rfl, Or.inr rfl, trivial⟩ (h1 g9))
  · exact fun g9 => (h2 g9)
theorem S_X11_qKind_82 {X : CX} {d d1 : Nat} {x1 : Int} {I R : PF} {Q Q1 : PV → PF → PF → Prop} (hs : Shp R) (e1 : d1 + 1 ≤ d) (hc : CN X d1 mX11_asks [(2, 306), (2, 360)] I R Q1) (h : ∀ z I2 R2, Q1 (9, z) I2 R2 → PN X d mX11_qKind 90 [(9, 0), (0, x1)] [] I2 R2 Q) : PN X d mX11_qKind 82 [(2, 306), (0, x1)] [] I R Q := by
  refine P_aload_n (n := 0) (q := 83) rfl rfl (by decide +kernel) ?_
  refine P_aload_n (n := 0) (q := 84) rfl rfl (by decide +kernel) ?_
  refine B_getfR (q := 87) fX11_354 kM306 (rM306_84 hs) rfl (by decide +kernel) ?_
  refine P_invV (As := [(2, 360)]) (q := 90) oX11_asks rfl kM306 kX11_181 e1 hMF (Nat.le_of_ble_eq_true rfl) hc rfl (by decide +kernel) (fun z I2 R2 hq => ?_)
  exact (PW_sub (ls' := [(9, 0), (0, x1)]) ⟨Or.inl rfl, Or.inr rfl, trivial⟩ (h z I2 R2 hq))
theorem S_X11_qKind_90 {X : CX} {d : Nat} {x1 : Int} {I R : PF} {Q : PV → PF → PF → Prop} (h : Q (0, x1) I R) : PN X d mX11_qKind 90 [(9, 0), (0, x1)] [] I R Q := by
  refine P_iload_n (n := 1) (q := 91) rfl rfl (by decide +kernel) ?_
  refine P_iret rfl (by decide +kernel) h
theorem S_X11_qOf_0 {X : CX} {d : Nat} {x1 y2 x4 : Int} {I R : PF} {Q : PV → PF → PF → Prop} (c1 : -2147483648 ≤ x1 ∧ x1 < 2147483648) (hd : PN X d mX11_qOf 12 [(2, 306), (9, 0), (1, y2), (9, 0), (0, x4)] [] I R Q) : PN X d mX11_qOf 0 [(2, 306), (0, x1), (1, y2), (9, 0), (0, x4)] [] I R Q := by
  refine P_iload_n (n := 1) (q := 1) rfl rfl (by decide +kernel) ?_
  exact P_lookup (dflt := 11) (ps := #[]) (len := 11) (off := 11) (t := 12) (by decide +kernel) (by decide) (by rw [w_of c1]; simp [Op.lookupswitch.offset]) (by decide) (PW_sub (ls' := [(2, 306), (9, 0), (1, y2), (9, 0), (0, x4)]) ⟨Or.inr rfl, Or.inl rfl, Or.inr rfl, Or.inl rfl, Or.inr rfl, trivial⟩ (hd ))
theorem S_X11_qOf_12 {X : CX} {d : Nat} {y2 x4 : Int} {I R : PF} {Q : PV → PF → PF → Prop} (hs : Shp R) (b1 : (0 : Int) ≤ ((3 + (5 * x4)) + 2) ∧ ((3 + (5 * x4)) + 2) < 154) (c1 : -2147483648 ≤ (I 348 ((3 + (5 * x4)) + 2)) ∧ (I 348 ((3 + (5 * x4)) + 2)) < 2147483648) (c2 : -9223372036854775808 ≤ y2 ∧ y2 < 9223372036854775808) (c3 : -9223372036854775808 ≤ (I 348 ((3 + (5 * x4)) + 2)) ∧ (I 348 ((3 + (5 * x4)) + 2)) < 9223372036854775808) (h1 : y2 ≠ (I 348 ((3 + (5 * x4)) + 2)) → PN X d mX11_qOf 35 [] [] I R Q) (h2 : y2 = (I 348 ((3 + (5 * x4)) + 2)) → PN X d mX11_qOf 31 [] [] I R Q) : PN X d mX11_qOf 12 [(2, 306), (9, 0), (1, y2), (9, 0), (0, x4)] [] I R Q := by
  refine P_lload_n (n := 2) (q := 13) rfl rfl (by decide +kernel) ?_
  refine P_aload_n (n := 0) (q := 14) rfl rfl (by decide +kernel) ?_
  refine B_getfR (q := 17) fX11_303 kM306 (rM306_59 hs) rfl (by decide +kernel) ?_
  refine P_iconst (n := 3) (q := 18) rfl (by decide +kernel) ?_
  refine P_iconst (n := 5) (q := 19) rfl (by decide +kernel) ?_
  refine P_iload (n := 4) (q := 21) rfl rfl (by decide +kernel) ?_
  refine P_imul (q := 22) rfl (by decide +kernel) ?_
  refine P_iadd (q := 23) rfl (by decide +kernel) ?_
  refine P_iconst (n := 2) (q := 24) rfl (by decide +kernel) ?_
  refine P_iadd (q := 25) rfl (by decide +kernel) ?_
  refine B_iaload (q := 26) kM348 nM348 (by decide) b1 rfl (by decide +kernel) ?_
  refine B_i2l (q := 27) c1 rfl (by decide +kernel) ?_
  refine B_lif_ne (off := 7) (t := 35) (q1 := 28) (q := 31) c2 c3 rfl (by decide +kernel) (by decide) rfl (by decide +kernel) ?_ ?_
  · exact fun g9 => (PW_sub (ls' := []) trivial (h1 g9))
  · exact fun g9 => (PW_sub (ls' := []) trivial (h2 g9))
theorem S_X11_qOf_31 {X : CX} {d : Nat} {I R : PF} {Q : PV → PF → PF → Prop} (h : PN X d mX11_qOf 36 [] [(1, 1)] I R Q) : PN X d mX11_qOf 31 [] [] I R Q := by
  refine P_lconst (n := 1) (x := 1) (q := 32) rfl rfl (by decide +kernel) ?_
  refine P_goto (off := 4) (t := 36) (by decide) (by decide +kernel) ?_
  exact (PW_sub (ls' := []) trivial h)
theorem S_X11_qOf_35 {X : CX} {d : Nat} {I R : PF} {Q : PV → PF → PF → Prop} (h : PN X d mX11_qOf 36 [] [(1, 0)] I R Q) : PN X d mX11_qOf 35 [] [] I R Q := by
  refine P_lconst (n := 0) (x := 0) (q := 36) rfl rfl (by decide +kernel) ?_
  exact (PW_sub (ls' := []) trivial h)
theorem S_X11_qOf_36 {X : CX} {d : Nat} {v0 : Int} {I R : PF} {Q : PV → PF → PF → Prop} (h : Q (1, v0) I R) : PN X d mX11_qOf 36 [] [(1, v0)] I R Q := by
  refine P_lret rfl (by decide +kernel) h
theorem S_X11_qOpens_0 {X : CX} {d : Nat} {x1 x2 : Int} {I R : PF} {Q : PV → PF → PF → Prop} (c1 : -2147483648 ≤ (I 306 5) ∧ (I 306 5) < 2147483648) (h1 : (I 306 5) = 0 → PN X d mX11_qOpens 8 [(2, 306), (0, x1), (0, x2)] [] I R Q) (h2 : (I 306 5) ≠ 0 → PN X d mX11_qOpens 7 [] [] I R Q) : PN X d mX11_qOpens 0 [(2, 306), (0, x1), (0, x2)] [] I R Q := by
  refine P_aload_n (n := 0) (q := 1) rfl rfl (by decide +kernel) ?_
  refine P_getf (q := 4) fX11_14 kM306 rfl (by decide +kernel) ?_
  refine B_if_eq (off := 4) (t := 8) (q := 7) c1 (by decide) rfl (by decide +kernel) ?_ ?_
  · exact fun g9 => (h1 g9)
  · exact fun g9 => (PW_sub (ls' := []) trivial (h2 g9))
theorem S_X11_qOpens_7 {X : CX} {d : Nat} {I R : PF} {Q : PV → PF → PF → Prop} (h : Q (9, 0) I R) : PN X d mX11_qOpens 7 [] [] I R Q := by
  refine P_vret rfl (by decide +kernel) h
theorem S_X11_qOpens_8 {X : CX} {d : Nat} {x1 x2 : Int} {I R : PF} {Q : PV → PF → PF → Prop} (c1 : -2147483648 ≤ (I 306 107) ∧ (I 306 107) < 2147483648) (h1 : (I 306 107) ≠ 6 → PN X d mX11_qOpens 24 [(2, 306), (0, x1)] [] I R Q) (h2 : (I 306 107) = 6 → PN X d mX11_qOpens 17 [(2, 306), (9, 0), (0, x2)] [] I R Q) : PN X d mX11_qOpens 8 [(2, 306), (0, x1), (0, x2)] [] I R Q := by
  refine P_aload_n (n := 0) (q := 9) rfl rfl (by decide +kernel) ?_
  refine P_getf (q := 12) fX11_238 kM306 rfl (by decide +kernel) ?_
  refine P_bipush (n := 6) (q := 14) rfl rfl (by decide +kernel) ?_
  refine B_icmp_ne (off := 10) (t := 24) (q := 17) c1 ⟨by decide, by decide⟩ (by decide) rfl (by decide +kernel) ?_ ?_
  · exact fun g9 => (PW_sub (ls' := [(2, 306), (0, x1)]) ⟨Or.inr rfl, Or.inr rfl, trivial⟩ (h1 g9))
  · exact fun g9 => (PW_sub (ls' := [(2, 306), (9, 0), (0, x2)]) ⟨Or.inr rfl, Or.inl rfl, Or.inr rfl, trivial⟩ (h2 g9))
theorem S_X11_qOpens_17 {X : CX} {d d1 : Nat} {x2 : Int} {I R : PF} {Q Q1 : PV → PF → PF → Prop} (e1 : d1 + 1 ≤ d) (hc : CN X d1 mX11_fail [(2, 306), (0, 4), (0, x2)] I R Q1) (h : ∀ z I2 R2, Q1 (9, z) I2 R2 → PN X d mX11_qOpens 23 [] [] I2 R2 Q) : PN X d mX11_qOpens 17 [(2, 306), (9, 0), (0, x2)] [] I R Q := by
  refine P_aload_n (n := 0) (q := 18) rfl rfl (by decide +kernel) ?_
  refine P_iconst (n := 4) (q := 19) rfl (by decide +kernel) ?_
  refine P_iload_n (n := 2) (q := 20) rfl rfl (by decide +kernel) ?_
  refine P_invV (As := [(0, 4), (0, x2)]) (q := 23) oX11_fail rfl kM306 kX11_44 e1 hMF (Nat.le_of_ble_eq_true rfl) hc rfl (by decide +kernel) (fun z I2 R2 hq => ?_)
  exact (PW_sub (ls' := []) trivial (h z I2 R2 hq))
theorem S_X11_qOpens_23 {X : CX} {d : Nat} {I R : PF} {Q : PV → PF → PF → Prop} (h : Q (9, 0) I R) : PN X d mX11_qOpens 23 [] [] I R Q := by
  refine P_vret rfl (by decide +kernel) h
theorem S_X11_qOpens_24 {X : CX} {d : Nat} {x1 : Int} {I R : PF} {Q : PV → PF → PF → Prop} (hs : Shp R) (b1 : (0 : Int) ≤ ((u2 I 306 107 ((I 306 107) + 1)) 306 106) ∧ ((u2 I 306 107 ((I 306 107) + 1)) 306 106) < 1700) (h : Q (9, 0) (u2 (u2 (u2 I 306 107 ((I 306 107) + 1)) 380 ((u2 I 306 107 ((I 306 107) + 1)) 306 106) x1) 306 106 (((u2 (u2 I 306 107 ((I 306 107) + 1)) 380 ((u2 I 306 107 ((I 306 107) + 1)) 306 106) x1) 306 106) + 1)) R) : PN X d mX11_qOpens 24 [(2, 306), (0, x1)] [] I R Q := by
  refine P_aload_n (n := 0) (q := 25) rfl rfl (by decide +kernel) ?_
  refine P_dup (q := 26) (Nat.ne_of_beq_eq_false rfl) rfl (by decide +kernel) ?_
  refine P_getf (q := 29) fX11_238 kM306 rfl (by decide +kernel) ?_
  refine P_iconst (n := 1) (q := 30) rfl (by decide +kernel) ?_
  refine P_iadd (q := 31) rfl (by decide +kernel) ?_
  refine P_putI (q := 34) wX11_238 (fun h => by cases h) kM306 rfl (by decide +kernel) ?_
  refine P_aload_n (n := 0) (q := 35) rfl rfl (by decide +kernel) ?_
  refine B_getfR (q := 38) fX11_411 kM306 (rM306_105 hs) rfl (by decide +kernel) ?_
  refine P_aload_n (n := 0) (q := 39) rfl rfl (by decide +kernel) ?_
  refine P_getf (q := 42) fX11_235 kM306 rfl (by decide +kernel) ?_
  refine P_iload_n (n := 1) (q := 43) rfl rfl (by decide +kernel) ?_
  refine B_iastore (q := 44) kM380 nM380 (by decide) b1 rfl (by decide +kernel) ?_
  refine P_aload_n (n := 0) (q := 45) rfl rfl (by decide +kernel) ?_
  refine P_dup (q := 46) (Nat.ne_of_beq_eq_false rfl) rfl (by decide +kernel) ?_
  refine P_getf (q := 49) fX11_235 kM306 rfl (by decide +kernel) ?_
  refine P_iconst (n := 1) (q := 50) rfl (by decide +kernel) ?_
  refine P_iadd (q := 51) rfl (by decide +kernel) ?_
  refine P_putI (q := 54) wX11_235 (fun h => by cases h) kM306 rfl (by decide +kernel) ?_
  refine P_vret rfl (by decide +kernel) h
theorem S_X11_qPartOf_0 {X : CX} {d : Nat} {x1 x2 : Int} {I R : PF} {Q : PV → PF → PF → Prop} (c1 : -2147483648 ≤ x1 ∧ x1 < 2147483648) (h0 : x1 = 0 → PN X d mX11_qPartOf 56 [(2, 306)] [] I R Q) (h1 : x1 = 1 → PN X d mX11_qPartOf 62 [(2, 306)] [] I R Q) (h2 : x1 = 2 → PN X d mX11_qPartOf 68 [(2, 306), (9, 0), (0, x2)] [] I R Q) (h3 : x1 = 3 → PN X d mX11_qPartOf 81 [(2, 306), (9, 0), (0, x2)] [] I R Q) (h4 : x1 = 4 → PN X d mX11_qPartOf 94 [(2, 306), (9, 0), (0, x2)] [] I R Q) (h5 : x1 = 5 → PN X d mX11_qPartOf 101 [(2, 306), (9, 0), (0, x2)] [] I R Q) (h6 : x1 = 6 → PN X d mX11_qPartOf 108 [(9, 0), (9, 0), (0, x2)] [] I R Q) (h7 : x1 = 7 → PN X d mX11_qPartOf 111 [(2, 306), (9, 0), (0, x2)] [] I R Q) (h8 : x1 = 8 → PN X d mX11_qPartOf 118 [(2, 306), (9, 0), (0, x2)] [] I R Q) (h9 : x1 = 9 → PN X d mX11_qPartOf 125 [(2, 306), (9, 0), (0, x2)] [] I R Q) (hd : x1 < 0 ∨ 9 < x1 → PN X d mX11_qPartOf 139 [(2, 306), (9, 0), (0, x2)] [] I R Q) : PN X d mX11_qPartOf 0 [(2, 306), (0, x1), (0, x2)] [] I R Q := by
  refine P_iload_n (n := 1) (q := 1) rfl rfl (by decide +kernel) ?_
  rcases tab_cases (lo := 0) (n := 10) x1 with e9 | ⟨k9, hk9, e9⟩
  · exact P_tableOut (dflt := 138) (lo := 0) (hi := 9) (offs := #[55, 61, 67, 80, 93, 100, 107, 110, 117, 124]) (len := 55) (t := 139) (by decide +kernel) (by rw [w_of c1]; exact e9) (by decide) (PW_sub (ls' := [(2, 306), (9, 0), (0, x2)]) ⟨Or.inr rfl, Or.inl rfl, Or.inr rfl, trivial⟩ (hd e9))
  · match k9, hk9, e9 with
    | 0, _, e9 => exact P_tableIn (dflt := 138) (lo := 0) (hi := 9) (offs := #[55, 61, 67, 80, 93, 100, 107, 110, 117, 124]) (len := 55) (off := 55) (t := 56) (by decide +kernel) (by rw [w_of c1, e9]; decide) (by rw [w_of c1, e9]; decide) (by rw [w_of c1, e9]; rfl) (by decide) (PW_sub (ls' := [(2, 306)]) ⟨Or.inr rfl, trivial⟩ (h0 (e9.trans (by decide))))
    | 1, _, e9 => exact P_tableIn (dflt := 138) (lo := 0) (hi := 9) (offs := #[55, 61, 67, 80, 93, 100, 107, 110, 117, 124]) (len := 55) (off := 61) (t := 62) (by decide +kernel) (by rw [w_of c1, e9]; decide) (by rw [w_of c1, e9]; decide) (by rw [w_of c1, e9]; rfl) (by decide) (PW_sub (ls' := [(2, 306)]) ⟨Or.inr rfl, trivial⟩ (h1 (e9.trans (by decide))))
    | 2, _, e9 => exact P_tableIn (dflt := 138) (lo := 0) (hi := 9) (offs := #[55, 61, 67, 80, 93, 100, 107, 110, 117, 124]) (len := 55) (off := 67) (t := 68) (by decide +kernel) (by rw [w_of c1, e9]; decide) (by rw [w_of c1, e9]; decide) (by rw [w_of c1, e9]; rfl) (by decide) (PW_sub (ls' := [(2, 306), (9, 0), (0, x2)]) ⟨Or.inr rfl, Or.inl rfl, Or.inr rfl, trivial⟩ (h2 (e9.trans (by decide))))
    | 3, _, e9 => exact P_tableIn (dflt := 138) (lo := 0) (hi := 9) (offs := #[55, 61, 67, 80, 93, 100, 107, 110, 117, 124]) (len := 55) (off := 80) (t := 81) (by decide +kernel) (by rw [w_of c1, e9]; decide) (by rw [w_of c1, e9]; decide) (by rw [w_of c1, e9]; rfl) (by decide) (PW_sub (ls' := [(2, 306), (9, 0), (0, x2)]) ⟨Or.inr rfl, Or.inl rfl, Or.inr rfl, trivial⟩ (h3 (e9.trans (by decide))))
    | 4, _, e9 => exact P_tableIn (dflt := 138) (lo := 0) (hi := 9) (offs := #[55, 61, 67, 80, 93, 100, 107, 110, 117, 124]) (len := 55) (off := 93) (t := 94) (by decide +kernel) (by rw [w_of c1, e9]; decide) (by rw [w_of c1, e9]; decide) (by rw [w_of c1, e9]; rfl) (by decide) (PW_sub (ls' := [(2, 306), (9, 0), (0, x2)]) ⟨Or.inr rfl, Or.inl rfl, Or.inr rfl, trivial⟩ (h4 (e9.trans (by decide))))
    | 5, _, e9 => exact P_tableIn (dflt := 138) (lo := 0) (hi := 9) (offs := #[55, 61, 67, 80, 93, 100, 107, 110, 117, 124]) (len := 55) (off := 100) (t := 101) (by decide +kernel) (by rw [w_of c1, e9]; decide) (by rw [w_of c1, e9]; decide) (by rw [w_of c1, e9]; rfl) (by decide) (PW_sub (ls' := [(2, 306), (9, 0), (0, x2)]) ⟨Or.inr rfl, Or.inl rfl, Or.inr rfl, trivial⟩ (h5 (e9.trans (by decide))))
    | 6, _, e9 => exact P_tableIn (dflt := 138) (lo := 0) (hi := 9) (offs := #[55, 61, 67, 80, 93, 100, 107, 110, 117, 124]) (len := 55) (off := 107) (t := 108) (by decide +kernel) (by rw [w_of c1, e9]; decide) (by rw [w_of c1, e9]; decide) (by rw [w_of c1, e9]; rfl) (by decide) (PW_sub (ls' := [(9, 0), (9, 0), (0, x2)]) ⟨Or.inl rfl, Or.inl rfl, Or.inr rfl, trivial⟩ (h6 (e9.trans (by decide))))
    | 7, _, e9 => exact P_tableIn (dflt := 138) (lo := 0) (hi := 9) (offs := #[55, 61, 67, 80, 93, 100, 107, 110, 117, 124]) (len := 55) (off := 110) (t := 111) (by decide +kernel) (by rw [w_of c1, e9]; decide) (by rw [w_of c1, e9]; decide) (by rw [w_of c1, e9]; rfl) (by decide) (PW_sub (ls' := [(2, 306), (9, 0), (0, x2)]) ⟨Or.inr rfl, Or.inl rfl, Or.inr rfl, trivial⟩ (h7 (e9.trans (by decide))))
    | 8, _, e9 => exact P_tableIn (dflt := 138) (lo := 0) (hi := 9) (offs := #[55, 61, 67, 80, 93, 100, 107, 110, 117, 124]) (len := 55) (off := 117) (t := 118) (by decide +kernel) (by rw [w_of c1, e9]; decide) (by rw [w_of c1, e9]; decide) (by rw [w_of c1, e9]; rfl) (by decide) (PW_sub (ls' := [(2, 306), (9, 0), (0, x2)]) ⟨Or.inr rfl, Or.inl rfl, Or.inr rfl, trivial⟩ (h8 (e9.trans (by decide))))
    | 9, _, e9 => exact P_tableIn (dflt := 138) (lo := 0) (hi := 9) (offs := #[55, 61, 67, 80, 93, 100, 107, 110, 117, 124]) (len := 55) (off := 124) (t := 125) (by decide +kernel) (by rw [w_of c1, e9]; decide) (by rw [w_of c1, e9]; decide) (by rw [w_of c1, e9]; rfl) (by decide) (PW_sub (ls' := [(2, 306), (9, 0), (0, x2)]) ⟨Or.inr rfl, Or.inl rfl, Or.inr rfl, trivial⟩ (h9 (e9.trans (by decide))))
theorem S_X11_qPartOf_56 {X : CX} {d : Nat} {I R : PF} {Q : PV → PF → PF → Prop} (c1 : -2147483648 ≤ (I 306 61) ∧ (I 306 61) < 2147483648) (h : Q (1, (I 306 61)) I R) : PN X d mX11_qPartOf 56 [(2, 306)] [] I R Q := by
  refine P_aload_n (n := 0) (q := 57) rfl rfl (by decide +kernel) ?_
  refine P_getf (q := 60) fX11_482 kM306 rfl (by decide +kernel) ?_
  refine B_i2l (q := 61) c1 rfl (by decide +kernel) ?_
  refine P_lret rfl (by decide +kernel) h
theorem S_X11_qPartOf_62 {X : CX} {d : Nat} {I R : PF} {Q : PV → PF → PF → Prop} (c1 : -2147483648 ≤ (I 306 62) ∧ (I 306 62) < 2147483648) (h : Q (1, (I 306 62)) I R) : PN X d mX11_qPartOf 62 [(2, 306)] [] I R Q := by
  refine P_aload_n (n := 0) (q := 63) rfl rfl (by decide +kernel) ?_
  refine P_getf (q := 66) fX11_459 kM306 rfl (by decide +kernel) ?_
  refine B_i2l (q := 67) c1 rfl (by decide +kernel) ?_
  refine P_lret rfl (by decide +kernel) h
theorem S_X11_qPartOf_68 {X : CX} {d : Nat} {x2 : Int} {I R : PF} {Q : PV → PF → PF → Prop} (hs : Shp R) (b1 : (0 : Int) ≤ (24 + (4 * x2)) ∧ (24 + (4 * x2)) < 48) (c1 : -2147483648 ≤ (I 342 (24 + (4 * x2))) ∧ (I 342 (24 + (4 * x2))) < 2147483648) (h : Q (1, (I 342 (24 + (4 * x2)))) I R) : PN X d mX11_qPartOf 68 [(2, 306), (9, 0), (0, x2)] [] I R Q := by
  refine P_aload_n (n := 0) (q := 69) rfl rfl (by decide +kernel) ?_
  refine B_getfR (q := 72) fX11_226 kM306 (rM306_45 hs) rfl (by decide +kernel) ?_
  refine P_bipush (n := 24) (q := 74) rfl rfl (by decide +kernel) ?_
  refine P_iconst (n := 4) (q := 75) rfl (by decide +kernel) ?_
  refine P_iload_n (n := 2) (q := 76) rfl rfl (by decide +kernel) ?_
  refine P_imul (q := 77) rfl (by decide +kernel) ?_
  refine P_iadd (q := 78) rfl (by decide +kernel) ?_
  refine B_iaload (q := 79) kM342 nM342 (by decide) b1 rfl (by decide +kernel) ?_
  refine B_i2l (q := 80) c1 rfl (by decide +kernel) ?_
  refine P_lret rfl (by decide +kernel) h
theorem S_X11_qPartOf_81 {X : CX} {d : Nat} {x2 : Int} {I R : PF} {Q : PV → PF → PF → Prop} (hs : Shp R) (b1 : (0 : Int) ≤ (25 + (4 * x2)) ∧ (25 + (4 * x2)) < 48) (c1 : -2147483648 ≤ (I 342 (25 + (4 * x2))) ∧ (I 342 (25 + (4 * x2))) < 2147483648) (h : Q (1, (I 342 (25 + (4 * x2)))) I R) : PN X d mX11_qPartOf 81 [(2, 306), (9, 0), (0, x2)] [] I R Q := by
  refine P_aload_n (n := 0) (q := 82) rfl rfl (by decide +kernel) ?_
  refine B_getfR (q := 85) fX11_226 kM306 (rM306_45 hs) rfl (by decide +kernel) ?_
  refine P_bipush (n := 25) (q := 87) rfl rfl (by decide +kernel) ?_
  refine P_iconst (n := 4) (q := 88) rfl (by decide +kernel) ?_
  refine P_iload_n (n := 2) (q := 89) rfl rfl (by decide +kernel) ?_
  refine P_imul (q := 90) rfl (by decide +kernel) ?_
  refine P_iadd (q := 91) rfl (by decide +kernel) ?_
  refine B_iaload (q := 92) kM342 nM342 (by decide) b1 rfl (by decide +kernel) ?_
  refine B_i2l (q := 93) c1 rfl (by decide +kernel) ?_
  refine P_lret rfl (by decide +kernel) h
theorem S_X11_qPartOf_94 {X : CX} {d d1 : Nat} {x2 : Int} {I R : PF} {Q Q1 : PV → PF → PF → Prop} (e1 : d1 + 1 ≤ d) (hc : CN X d1 mX11_woreBy [(2, 306), (0, x2)] I R Q1) (h : ∀ z I2 R2, Q1 (0, z) I2 R2 → PN X d mX11_qPartOf 99 [] [(0, z)] I2 R2 Q) : PN X d mX11_qPartOf 94 [(2, 306), (9, 0), (0, x2)] [] I R Q := by
  refine P_aload_n (n := 0) (q := 95) rfl rfl (by decide +kernel) ?_
  refine P_iload_n (n := 2) (q := 96) rfl rfl (by decide +kernel) ?_
  refine P_invV (As := [(0, x2)]) (q := 99) oX11_woreBy rfl kM306 kX11_519 e1 hMF (Nat.le_of_ble_eq_true rfl) hc rfl (by decide +kernel) (fun z I2 R2 hq => ?_)
  exact (PW_sub (ls' := []) trivial (h z I2 R2 hq))
theorem S_X11_qPartOf_99 {X : CX} {d : Nat} {o0 : Int} {I R : PF} {Q : PV → PF → PF → Prop} (c1 : -2147483648 ≤ o0 ∧ o0 < 2147483648) (h : Q (1, o0) I R) : PN X d mX11_qPartOf 99 [] [(0, o0)] I R Q := by
  refine B_i2l (q := 100) c1 rfl (by decide +kernel) ?_
  refine P_lret rfl (by decide +kernel) h
theorem S_X11_qPartOf_101 {X : CX} {d d1 : Nat} {x2 : Int} {I R : PF} {Q Q1 : PV → PF → PF → Prop} (e1 : d1 + 1 ≤ d) (hc : CN X d1 mX11_termsOf [(2, 306), (0, x2)] I R Q1) (h : ∀ z I2 R2, Q1 (0, z) I2 R2 → PN X d mX11_qPartOf 106 [] [(0, z)] I2 R2 Q) : PN X d mX11_qPartOf 101 [(2, 306), (9, 0), (0, x2)] [] I R Q := by
  refine P_aload_n (n := 0) (q := 102) rfl rfl (by decide +kernel) ?_
  refine P_iload_n (n := 2) (q := 103) rfl rfl (by decide +kernel) ?_
  refine P_invV (As := [(0, x2)]) (q := 106) oX11_termsOf rfl kM306 kX11_671 e1 hMF (Nat.le_of_ble_eq_true rfl) hc rfl (by decide +kernel) (fun z I2 R2 hq => ?_)
  exact (PW_sub (ls' := []) trivial (h z I2 R2 hq))
theorem S_X11_qPartOf_106 {X : CX} {d : Nat} {o0 : Int} {I R : PF} {Q : PV → PF → PF → Prop} (c1 : -2147483648 ≤ o0 ∧ o0 < 2147483648) (h : Q (1, o0) I R) : PN X d mX11_qPartOf 106 [] [(0, o0)] I R Q := by
  refine B_i2l (q := 107) c1 rfl (by decide +kernel) ?_
  refine P_lret rfl (by decide +kernel) h
theorem S_X11_qPartOf_108 {X : CX} {d : Nat} {x2 : Int} {I R : PF} {Q : PV → PF → PF → Prop} (c1 : -2147483648 ≤ x2 ∧ x2 < 2147483648) (h : Q (1, x2) I R) : PN X d mX11_qPartOf 108 [(9, 0), (9, 0), (0, x2)] [] I R Q := by
  refine P_iload_n (n := 2) (q := 109) rfl rfl (by decide +kernel) ?_
  refine B_i2l (q := 110) c1 rfl (by decide +kernel) ?_
  refine P_lret rfl (by decide +kernel) h
theorem S_X11_qPartOf_111 {X : CX} {d d1 : Nat} {x2 : Int} {I R : PF} {Q Q1 : PV → PF → PF → Prop} (e1 : d1 + 1 ≤ d) (hc : CN X d1 mX11_columnOf [(2, 306), (0, x2)] I R Q1) (h : ∀ z I2 R2, Q1 (0, z) I2 R2 → PN X d mX11_qPartOf 116 [] [(0, z)] I2 R2 Q) : PN X d mX11_qPartOf 111 [(2, 306), (9, 0), (0, x2)] [] I R Q := by
  refine P_aload_n (n := 0) (q := 112) rfl rfl (by decide +kernel) ?_
  refine P_iload_n (n := 2) (q := 113) rfl rfl (by decide +kernel) ?_
  refine P_invV (As := [(0, x2)]) (q := 116) oX11_columnOf rfl kM306 kX11_491 e1 hMF (Nat.le_of_ble_eq_true rfl) hc rfl (by decide +kernel) (fun z I2 R2 hq => ?_)
  exact (PW_sub (ls' := []) trivial (h z I2 R2 hq))
theorem S_X11_qPartOf_116 {X : CX} {d : Nat} {o0 : Int} {I R : PF} {Q : PV → PF → PF → Prop} (c1 : -2147483648 ≤ o0 ∧ o0 < 2147483648) (h : Q (1, o0) I R) : PN X d mX11_qPartOf 116 [] [(0, o0)] I R Q := by
  refine B_i2l (q := 117) c1 rfl (by decide +kernel) ?_
  refine P_lret rfl (by decide +kernel) h
theorem S_X11_qPartOf_118 {X : CX} {d d1 : Nat} {x2 : Int} {I R : PF} {Q Q1 : PV → PF → PF → Prop} (e1 : d1 + 1 ≤ d) (hc : CN X d1 mX11_rowOf [(2, 306), (0, x2)] I R Q1) (h : ∀ z I2 R2, Q1 (0, z) I2 R2 → PN X d mX11_qPartOf 123 [] [(0, z)] I2 R2 Q) : PN X d mX11_qPartOf 118 [(2, 306), (9, 0), (0, x2)] [] I R Q := by
  refine P_aload_n (n := 0) (q := 119) rfl rfl (by decide +kernel) ?_
  refine P_iload_n (n := 2) (q := 120) rfl rfl (by decide +kernel) ?_
  refine P_invV (As := [(0, x2)]) (q := 123) oX11_rowOf rfl kM306 kX11_494 e1 hMF (Nat.le_of_ble_eq_true rfl) hc rfl (by decide +kernel) (fun z I2 R2 hq => ?_)
  exact (PW_sub (ls' := []) trivial (h z I2 R2 hq))
theorem S_X11_qPartOf_123 {X : CX} {d : Nat} {o0 : Int} {I R : PF} {Q : PV → PF → PF → Prop} (c1 : -2147483648 ≤ o0 ∧ o0 < 2147483648) (h : Q (1, o0) I R) : PN X d mX11_qPartOf 123 [] [(0, o0)] I R Q := by
  refine B_i2l (q := 124) c1 rfl (by decide +kernel) ?_
  refine P_lret rfl (by decide +kernel) h
theorem S_X11_qPartOf_125 {X : CX} {d : Nat} {x2 : Int} {I R : PF} {Q : PV → PF → PF → Prop} (hs : Shp R) (b1 : (0 : Int) ≤ ((3 + (5 * x2)) + 3) ∧ ((3 + (5 * x2)) + 3) < 154) (c1 : -2147483648 ≤ (I 348 ((3 + (5 * x2)) + 3)) ∧ (I 348 ((3 + (5 * x2)) + 3)) < 2147483648) (h : Q (1, (I 348 ((3 + (5 * x2)) + 3))) I R) : PN X d mX11_qPartOf 125 [(2, 306), (9, 0), (0, x2)] [] I R Q := by
  refine P_aload_n (n := 0) (q := 126) rfl rfl (by decide +kernel) ?_
  refine B_getfR (q := 129) fX11_303 kM306 (rM306_59 hs) rfl (by decide +kernel) ?_
  refine P_iconst (n := 3) (q := 130) rfl (by decide +kernel) ?_
  refine P_iconst (n := 5) (q := 131) rfl (by decide +kernel) ?_
  refine P_iload_n (n := 2) (q := 132) rfl rfl (by decide +kernel) ?_
  refine P_imul (q := 133) rfl (by decide +kernel) ?_
  refine P_iadd (q := 134) rfl (by decide +kernel) ?_
  refine P_iconst (n := 3) (q := 135) rfl (by decide +kernel) ?_
  refine P_iadd (q := 136) rfl (by decide +kernel) ?_
  refine B_iaload (q := 137) kM348 nM348 (by decide) b1 rfl (by decide +kernel) ?_
  refine B_i2l (q := 138) c1 rfl (by decide +kernel) ?_
  refine P_lret rfl (by decide +kernel) h
theorem S_X11_qPartOf_139 {X : CX} {d : Nat} {x2 : Int} {I R : PF} {Q : PV → PF → PF → Prop} (hs : Shp R) (b1 : (0 : Int) ≤ x2 ∧ x2 < 6) (c1 : -2147483648 ≤ (I 350 x2) ∧ (I 350 x2) < 2147483648) (h : Q (1, (I 350 x2)) I R) : PN X d mX11_qPartOf 139 [(2, 306), (9, 0), (0, x2)] [] I R Q := by
  refine P_aload_n (n := 0) (q := 140) rfl rfl (by decide +kernel) ?_
  refine B_getfR (q := 143) fX11_320 kM306 (rM306_63 hs) rfl (by decide +kernel) ?_
  refine P_iload_n (n := 2) (q := 144) rfl rfl (by decide +kernel) ?_
  refine B_iaload (q := 145) kM350 nM350 (by decide) b1 rfl (by decide +kernel) ?_
  refine B_i2l (q := 146) c1 rfl (by decide +kernel) ?_
  refine P_lret rfl (by decide +kernel) h
theorem S_X11_qPartTold_0 {X : CX} {d : Nat} {I R : PF} {Q : PV → PF → PF → Prop} (h : PN X d mX11_qPartTold 2 [(2, 306), (0, 1)] [] I R Q) : PN X d mX11_qPartTold 0 [(2, 306)] [] I R Q := by
  refine P_iconst (n := 1) (q := 1) rfl (by decide +kernel) ?_
  refine P_istore_n (n := 1) (by decide) (q := 2) rfl (by decide +kernel) ?_
  exact h
theorem S_X11_qPartTold_2 {X : CX} {d : Nat} {x1 : Int} {I R : PF} {Q : PV → PF → PF → Prop} (c1 : -2147483648 ≤ x1 ∧ x1 < 2147483648) (h1 : x1 = 0 → PN X d mX11_qPartTold 186 [(2, 306)] [] I R Q) (h2 : x1 ≠ 0 → PN X d mX11_qPartTold 6 [(2, 306), (0, x1)] [] I R Q) : PN X d mX11_qPartTold 2 [(2, 306), (0, x1)] [] I R Q := by
  refine P_iload_n (n := 1) (q := 3) rfl rfl (by decide +kernel) ?_
  refine B_if_eq (off := 183) (t := 186) (q := 6) c1 (by decide) rfl (by decide +kernel) ?_ ?_
  · exact fun g9 => (PW_sub (ls' := [(2, 306)]) ⟨Or.inr rfl, trivial⟩ (h1 g9))
  · exact fun g9 => (h2 g9)
theorem S_X11_qPartTold_6 {X : CX} {d : Nat} {x1 : Int} {I R : PF} {Q : PV → PF → PF → Prop} (c1 : -2147483648 ≤ (I 306 5) ∧ (I 306 5) < 2147483648) (h1 : (I 306 5) ≠ 0 → PN X d mX11_qPartTold 186 [(2, 306)] [] I R Q) (h2 : (I 306 5) = 0 → PN X d mX11_qPartTold 13 [(2, 306), (0, x1)] [] I R Q) : PN X d mX11_qPartTold 6 [(2, 306), (0, x1)] [] I R Q := by
  refine P_aload_n (n := 0) (q := 7) rfl rfl (by decide +kernel) ?_
  refine P_getf (q := 10) fX11_14 kM306 rfl (by decide +kernel) ?_
  refine B_if_ne (off := 176) (t := 186) (q := 13) c1 (by decide) rfl (by decide +kernel) ?_ ?_
  · exact fun g9 => (PW_sub (ls' := [(2, 306)]) ⟨Or.inr rfl, trivial⟩ (h1 g9))
  · exact fun g9 => (h2 g9)
theorem S_X11_qPartTold_13 {X : CX} {d d1 : Nat} {x1 : Int} {I R : PF} {Q Q1 : PV → PF → PF → Prop} (e1 : d1 + 1 ≤ d) (hc : CN X d1 mX11_look [(2, 306)] I R Q1) (h : ∀ z I2 R2, Q1 (0, z) I2 R2 → PN X d mX11_qPartTold 17 [(2, 306), (0, x1)] [(0, z)] I2 R2 Q) : PN X d mX11_qPartTold 13 [(2, 306), (0, x1)] [] I R Q := by
  refine P_aload_n (n := 0) (q := 14) rfl rfl (by decide +kernel) ?_
  refine P_invV (As := []) (q := 17) oX11_look rfl kM306 kX11_26 e1 hMF (Nat.le_of_ble_eq_true rfl) hc rfl (by decide +kernel) (fun z I2 R2 hq => ?_)
  exact (h z I2 R2 hq)
theorem S_X11_qPartTold_17 {X : CX} {d d1 : Nat} {x1 o0 : Int} {I R : PF} {Q Q1 : PV → PF → PF → Prop} (e1 : d1 + 1 ≤ d) (hc : CN X d1 mX11_qWordOf [(2, 306), (0, 11), (0, 12)] I R Q1) (h : ∀ z I2 R2, Q1 (0, z) I2 R2 → PN X d mX11_qPartTold 26 [(2, 306), (0, x1), (0, o0)] [(0, z)] I2 R2 Q) : PN X d mX11_qPartTold 17 [(2, 306), (0, x1)] [(0, o0)] I R Q := by
  refine P_istore_n (n := 2) (by decide) (q := 18) rfl (by decide +kernel) ?_
  refine P_aload_n (n := 0) (q := 19) rfl rfl (by decide +kernel) ?_
  refine P_bipush (n := 11) (q := 21) rfl rfl (by decide +kernel) ?_
  refine P_bipush (n := 12) (q := 23) rfl rfl (by decide +kernel) ?_
  refine P_invV (As := [(0, 11), (0, 12)]) (q := 26) oX11_qWordOf rfl kM306 kX11_620 e1 hMF (Nat.le_of_ble_eq_true rfl) hc rfl (by decide +kernel) (fun z I2 R2 hq => ?_)
  exact (h z I2 R2 hq)
theorem S_X11_qPartTold_26 {X : CX} {d : Nat} {x1 x2 o0 : Int} {I R : PF} {Q : PV → PF → PF → Prop} (c1 : -2147483648 ≤ x2 ∧ x2 < 2147483648) (h1 : x2 ≠ 40 → PN X d mX11_qPartTold 56 [(2, 306), (0, x1), (9, 0), (0, o0)] [] I R Q) (h2 : x2 = 40 → PN X d mX11_qPartTold 33 [(2, 306), (0, x1)] [] I R Q) : PN X d mX11_qPartTold 26 [(2, 306), (0, x1), (0, x2)] [(0, o0)] I R Q := by
  refine P_istore_n (n := 3) (by decide) (q := 27) rfl (by decide +kernel) ?_
  refine P_iload_n (n := 2) (q := 28) rfl rfl (by decide +kernel) ?_
  refine P_bipush (n := 40) (q := 30) rfl rfl (by decide +kernel) ?_
  refine B_icmp_ne (off := 26) (t := 56) (q := 33) c1 ⟨by decide, by decide⟩ (by decide) rfl (by decide +kernel) ?_ ?_
  · exact fun g9 => (PW_sub (ls' := [(2, 306), (0, x1), (9, 0), (0, o0)]) ⟨Or.inr rfl, Or.inr rfl, Or.inl rfl, Or.inr rfl, trivial⟩ (h1 g9))
  · exact fun g9 => (PW_sub (ls' := [(2, 306), (0, x1)]) ⟨Or.inr rfl, Or.inr rfl, trivial⟩ (h2 g9))
theorem S_X11_qPartTold_33 {X : CX} {d d1 : Nat} {x1 : Int} {I R : PF} {Q Q1 : PV → PF → PF → Prop} (e1 : d1 + 1 ≤ d) (hc : CN X d1 mX11_qOpens [(2, 306), (0, 20), (0, (I 306 2))] I R Q1) (h : ∀ z I2 R2, Q1 (9, z) I2 R2 → PN X d mX11_qPartTold 43 [(2, 306), (0, x1)] [] I2 R2 Q) : PN X d mX11_qPartTold 33 [(2, 306), (0, x1)] [] I R Q := by
  refine P_aload_n (n := 0) (q := 34) rfl rfl (by decide +kernel) ?_
  refine P_bipush (n := 20) (q := 36) rfl rfl (by decide +kernel) ?_
  refine P_aload_n (n := 0) (q := 37) rfl rfl (by decide +kernel) ?_
  refine P_getf (q := 40) fX11_20 kM306 rfl (by decide +kernel) ?_
  refine P_invV (As := [(0, 20), (0, (I 306 2))]) (q := 43) oX11_qOpens rfl kM306 kX11_623 e1 hMF (Nat.le_of_ble_eq_true rfl) hc rfl (by decide +kernel) (fun z I2 R2 hq => ?_)
  exact (PW_sub (ls' := [(2, 306), (0, x1)]) ⟨Or.inr rfl, Or.inr rfl, trivial⟩ (h z I2 R2 hq))
theorem S_X11_qPartTold_43 {X : CX} {d : Nat} {x1 : Int} {I R : PF} {Q : PV → PF → PF → Prop} (h : PN X d mX11_qPartTold 183 [(2, 306), (0, x1)] [] (u2 I 306 2 ((I 306 2) + 1)) R Q) : PN X d mX11_qPartTold 43 [(2, 306), (0, x1)] [] I R Q := by
  refine P_aload_n (n := 0) (q := 44) rfl rfl (by decide +kernel) ?_
  refine P_dup (q := 45) (Nat.ne_of_beq_eq_false rfl) rfl (by decide +kernel) ?_
  refine P_getf (q := 48) fX11_20 kM306 rfl (by decide +kernel) ?_
  refine P_iconst (n := 1) (q := 49) rfl (by decide +kernel) ?_
  refine P_iadd (q := 50) rfl (by decide +kernel) ?_
  refine P_putI (q := 53) wX11_20 (fun h => by cases h) kM306 rfl (by decide +kernel) ?_
  refine P_goto (off := 130) (t := 183) (by decide) (by decide +kernel) ?_
  exact (PW_sub (ls' := [(2, 306), (0, x1)]) ⟨Or.inr rfl, Or.inr rfl, trivial⟩ h)
theorem S_X11_qPartTold_56 {X : CX} {d d1 : Nat} {x1 x3 : Int} {I R : PF} {Q Q1 : PV → PF → PF → Prop} (hs : Shp R) (e1 : d1 + 1 ≤ d) (hc : CN X d1 mX11_isHere [(2, 306), (2, 365)] I R Q1) (h : ∀ z I2 R2, Q1 (0, z) I2 R2 → PN X d mX11_qPartTold 64 [(2, 306), (0, x1), (9, 0), (0, x3)] [(0, z)] I2 R2 Q) : PN X d mX11_qPartTold 56 [(2, 306), (0, x1), (9, 0), (0, x3)] [] I R Q := by
  refine P_aload_n (n := 0) (q := 57) rfl rfl (by decide +kernel) ?_
  refine P_aload_n (n := 0) (q := 58) rfl rfl (by decide +kernel) ?_
  refine B_getfR (q := 61) fX11_369 kM306 (rM306_89 hs) rfl (by decide +kernel) ?_
  refine P_invV (As := [(2, 365)]) (q := 64) oX11_isHere rfl kM306 kX11_37 e1 hMF (Nat.le_of_ble_eq_true rfl) hc rfl (by decide +kernel) (fun z I2 R2 hq => ?_)
  exact (h z I2 R2 hq)
theorem S_X11_qPartTold_64 {X : CX} {d : Nat} {x1 x3 o0 : Int} {I R : PF} {Q : PV → PF → PF → Prop} (c1 : -2147483648 ≤ o0 ∧ o0 < 2147483648) (h1 : o0 ≠ 0 → PN X d mX11_qPartTold 78 [(2, 306), (0, x1)] [] I R Q) (h2 : o0 = 0 → PN X d mX11_qPartTold 67 [(2, 306), (0, x1), (9, 0), (0, x3)] [] I R Q) : PN X d mX11_qPartTold 64 [(2, 306), (0, x1), (9, 0), (0, x3)] [(0, o0)] I R Q := by
  refine B_if_ne (off := 14) (t := 78) (q := 67) c1 (by decide) rfl (by decide +kernel) ?_ ?_
  · exact fun g9 => (PW_sub (ls' := [(2, 306), (0, x1)]) ⟨Or.inr rfl, Or.inr rfl, trivial⟩ (h1 g9))
  · exact fun g9 => (h2 g9)
theorem S_X11_qPartTold_67 {X : CX} {d d1 : Nat} {x1 x3 : Int} {I R : PF} {Q Q1 : PV → PF → PF → Prop} (hs : Shp R) (e1 : d1 + 1 ≤ d) (hc : CN X d1 mX11_isHere [(2, 306), (2, 366)] I R Q1) (h : ∀ z I2 R2, Q1 (0, z) I2 R2 → PN X d mX11_qPartTold 75 [(2, 306), (0, x1), (9, 0), (0, x3)] [(0, z)] I2 R2 Q) : PN X d mX11_qPartTold 67 [(2, 306), (0, x1), (9, 0), (0, x3)] [] I R Q := by
  refine P_aload_n (n := 0) (q := 68) rfl rfl (by decide +kernel) ?_
  refine P_aload_n (n := 0) (q := 69) rfl rfl (by decide +kernel) ?_
  refine B_getfR (q := 72) fX11_372 kM306 (rM306_90 hs) rfl (by decide +kernel) ?_
  refine P_invV (As := [(2, 366)]) (q := 75) oX11_isHere rfl kM306 kX11_37 e1 hMF (Nat.le_of_ble_eq_true rfl) hc rfl (by decide +kernel) (fun z I2 R2 hq => ?_)
  exact (h z I2 R2 hq)
theorem S_X11_qPartTold_75 {X : CX} {d : Nat} {x1 x3 o0 : Int} {I R : PF} {Q : PV → PF → PF → Prop} (c1 : -2147483648 ≤ o0 ∧ o0 < 2147483648) (h1 : o0 = 0 → PN X d mX11_qPartTold 153 [(2, 306), (0, x1), (9, 0), (0, x3)] [] I R Q) (h2 : o0 ≠ 0 → PN X d mX11_qPartTold 78 [(2, 306), (0, x1)] [] I R Q) : PN X d mX11_qPartTold 75 [(2, 306), (0, x1), (9, 0), (0, x3)] [(0, o0)] I R Q := by
  refine B_if_eq (off := 78) (t := 153) (q := 78) c1 (by decide) rfl (by decide +kernel) ?_ ?_
  · exact fun g9 => (h1 g9)
  · exact fun g9 => (PW_sub (ls' := [(2, 306), (0, x1)]) ⟨Or.inr rfl, Or.inr rfl, trivial⟩ (h2 g9))
theorem S_X11_qPartTold_78 {X : CX} {d d1 : Nat} {x1 : Int} {I R : PF} {Q Q1 : PV → PF → PF → Prop} (hs : Shp R) (e1 : d1 + 1 ≤ d) (hc : CN X d1 mX11_takes [(2, 306), (2, 365)] I R Q1) (h : ∀ z I2 R2, Q1 (0, z) I2 R2 → PN X d mX11_qPartTold 86 [(2, 306), (0, x1)] [(0, z)] I2 R2 Q) : PN X d mX11_qPartTold 78 [(2, 306), (0, x1)] [] I R Q := by
  refine P_aload_n (n := 0) (q := 79) rfl rfl (by decide +kernel) ?_
  refine P_aload_n (n := 0) (q := 80) rfl rfl (by decide +kernel) ?_
  refine B_getfR (q := 83) fX11_369 kM306 (rM306_89 hs) rfl (by decide +kernel) ?_
  refine P_invV (As := [(2, 365)]) (q := 86) oX11_takes rfl kM306 kX11_41 e1 hMF (Nat.le_of_ble_eq_true rfl) hc rfl (by decide +kernel) (fun z I2 R2 hq => ?_)
  exact (PW_sub (ls' := [(2, 306), (0, x1)]) ⟨Or.inr rfl, Or.inr rfl, trivial⟩ (h z I2 R2 hq))
theorem S_X11_qPartTold_86 {X : CX} {d : Nat} {x1 o0 : Int} {I R : PF} {Q : PV → PF → PF → Prop} (c1 : -2147483648 ≤ o0 ∧ o0 < 2147483648) (h1 : o0 ≠ 0 → PN X d mX11_qPartTold 101 [(2, 306), (0, x1), (9, 0), (9, 0), (0, o0)] [] I R Q) (h2 : o0 = 0 → PN X d mX11_qPartTold 93 [(2, 306), (0, x1), (9, 0), (9, 0), (0, o0)] [] I R Q) : PN X d mX11_qPartTold 86 [(2, 306), (0, x1)] [(0, o0)] I R Q := by
  refine P_istore (n := 4) (by decide) (q := 88) rfl (by decide +kernel) ?_
  refine P_iload (n := 4) (q := 90) rfl rfl (by decide +kernel) ?_
  refine B_if_ne (off := 11) (t := 101) (q := 93) c1 (by decide) rfl (by decide +kernel) ?_ ?_
  · exact fun g9 => (h1 g9)
  · exact fun g9 => (h2 g9)
theorem S_X11_qPartTold_93 {X : CX} {d d1 : Nat} {x1 x4 : Int} {I R : PF} {Q Q1 : PV → PF → PF → Prop} (hs : Shp R) (e1 : d1 + 1 ≤ d) (hc : CN X d1 mX11_asks [(2, 306), (2, 366)] I R Q1) (h : ∀ z I2 R2, Q1 (9, z) I2 R2 → PN X d mX11_qPartTold 101 [(2, 306), (0, x1), (9, 0), (9, 0), (0, x4)] [] I2 R2 Q) : PN X d mX11_qPartTold 93 [(2, 306), (0, x1), (9, 0), (9, 0), (0, x4)] [] I R Q := by
  refine P_aload_n (n := 0) (q := 94) rfl rfl (by decide +kernel) ?_
  refine P_aload_n (n := 0) (q := 95) rfl rfl (by decide +kernel) ?_
  refine B_getfR (q := 98) fX11_372 kM306 (rM306_90 hs) rfl (by decide +kernel) ?_
  refine P_invV (As := [(2, 366)]) (q := 101) oX11_asks rfl kM306 kX11_181 e1 hMF (Nat.le_of_ble_eq_true rfl) hc rfl (by decide +kernel) (fun z I2 R2 hq => ?_)
  exact (h z I2 R2 hq)
theorem S_X11_qPartTold_101 {X : CX} {d d1 : Nat} {x1 x4 : Int} {I R : PF} {Q Q1 : PV → PF → PF → Prop} (e1 : d1 + 1 ≤ d) (hc : CN X d1 mX11_look [(2, 306)] I R Q1) (h : ∀ z I2 R2, Q1 (0, z) I2 R2 → PN X d mX11_qPartTold 105 [(2, 306), (0, x1), (9, 0), (9, 0), (0, x4)] [(0, z)] I2 R2 Q) : PN X d mX11_qPartTold 101 [(2, 306), (0, x1), (9, 0), (9, 0), (0, x4)] [] I R Q := by
  refine P_aload_n (n := 0) (q := 102) rfl rfl (by decide +kernel) ?_
  refine P_invV (As := []) (q := 105) oX11_look rfl kM306 kX11_26 e1 hMF (Nat.le_of_ble_eq_true rfl) hc rfl (by decide +kernel) (fun z I2 R2 hq => ?_)
  exact (h z I2 R2 hq)
theorem S_X11_qPartTold_105 {X : CX} {d : Nat} {x1 x4 o0 : Int} {I R : PF} {Q : PV → PF → PF → Prop} (c1 : -2147483648 ≤ o0 ∧ o0 < 2147483648) (h1 : o0 ≠ 40 → PN X d mX11_qPartTold 117 [(2, 306), (0, x1), (9, 0), (9, 0), (0, x4)] [] I R Q) (h2 : o0 = 40 → PN X d mX11_qPartTold 110 [(2, 306), (0, x1), (9, 0), (9, 0), (0, x4)] [] I R Q) : PN X d mX11_qPartTold 105 [(2, 306), (0, x1), (9, 0), (9, 0), (0, x4)] [(0, o0)] I R Q := by
  refine P_bipush (n := 40) (q := 107) rfl rfl (by decide +kernel) ?_
  refine B_icmp_ne (off := 10) (t := 117) (q := 110) c1 ⟨by decide, by decide⟩ (by decide) rfl (by decide +kernel) ?_ ?_
  · exact fun g9 => (h1 g9)
  · exact fun g9 => (h2 g9)
theorem S_X11_qPartTold_110 {X : CX} {d : Nat} {x1 x4 : Int} {I R : PF} {Q : PV → PF → PF → Prop} (h : PN X d mX11_qPartTold 118 [(2, 306), (0, x1), (9, 0), (9, 0), (0, x4)] [(0, (I 306 2))] I R Q) : PN X d mX11_qPartTold 110 [(2, 306), (0, x1), (9, 0), (9, 0), (0, x4)] [] I R Q := by
  refine P_aload_n (n := 0) (q := 111) rfl rfl (by decide +kernel) ?_
  refine P_getf (q := 114) fX11_20 kM306 rfl (by decide +kernel) ?_
  refine P_goto (off := 4) (t := 118) (by decide) (by decide +kernel) ?_
  exact h
theorem S_X11_qPartTold_117 {X : CX} {d : Nat} {x1 x4 : Int} {I R : PF} {Q : PV → PF → PF → Prop} (h : PN X d mX11_qPartTold 118 [(2, 306), (0, x1), (9, 0), (9, 0), (0, x4)] [(0, (-1))] I R Q) : PN X d mX11_qPartTold 117 [(2, 306), (0, x1), (9, 0), (9, 0), (0, x4)] [] I R Q := by
  refine P_iconst (n := (-1)) (q := 118) rfl (by decide +kernel) ?_
  exact h
theorem S_X11_qPartTold_118 {X : CX} {d : Nat} {x1 x4 o0 : Int} {I R : PF} {Q : PV → PF → PF → Prop} (c1 : -2147483648 ≤ o0 ∧ o0 < 2147483648) (h1 : o0 = (-1) → PN X d mX11_qPartTold 144 [(2, 306), (0, x1)] [] I R Q) (h2 : o0 ≠ (-1) → PN X d mX11_qPartTold 126 [(2, 306), (0, x1), (9, 0), (9, 0), (0, x4), (0, o0)] [] I R Q) : PN X d mX11_qPartTold 118 [(2, 306), (0, x1), (9, 0), (9, 0), (0, x4)] [(0, o0)] I R Q := by
  refine P_istore (n := 5) (by decide) (q := 120) rfl (by decide +kernel) ?_
  refine P_iload (n := 5) (q := 122) rfl rfl (by decide +kernel) ?_
  refine P_iconst (n := (-1)) (q := 123) rfl (by decide +kernel) ?_
  refine B_icmp_eq (off := 21) (t := 144) (q := 126) c1 ⟨by decide, by decide⟩ (by decide) rfl (by decide +kernel) ?_ ?_
  · exact fun g9 => (PW_sub (ls' := [(2, 306), (0, x1)]) ⟨Or.inr rfl, Or.inr rfl, trivial⟩ (h1 g9))
  · exact fun g9 => (h2 g9)
theorem S_X11_qPartTold_126 {X : CX} {d : Nat} {x1 x4 x5 : Int} {I R : PF} {Q : PV → PF → PF → Prop} (c1 : -2147483648 ≤ x4 ∧ x4 < 2147483648) (h1 : x4 = 0 → PN X d mX11_qPartTold 137 [(2, 306), (0, x1), (9, 0), (9, 0), (9, 0), (0, x5)] [(2, 306)] I R Q) (h2 : x4 ≠ 0 → PN X d mX11_qPartTold 132 [(2, 306), (0, x1), (9, 0), (9, 0), (9, 0), (0, x5)] [(2, 306)] I R Q) : PN X d mX11_qPartTold 126 [(2, 306), (0, x1), (9, 0), (9, 0), (0, x4), (0, x5)] [] I R Q := by
  refine P_aload_n (n := 0) (q := 127) rfl rfl (by decide +kernel) ?_
  refine P_iload (n := 4) (q := 129) rfl rfl (by decide +kernel) ?_
  refine B_if_eq (off := 8) (t := 137) (q := 132) c1 (by decide) rfl (by decide +kernel) ?_ ?_
  · exact fun g9 => (PW_sub (ls' := [(2, 306), (0, x1), (9, 0), (9, 0), (9, 0), (0, x5)]) ⟨Or.inr rfl, Or.inr rfl, Or.inl rfl, Or.inl rfl, Or.inl rfl, Or.inr rfl, trivial⟩ (h1 g9))
  · exact fun g9 => (PW_sub (ls' := [(2, 306), (0, x1), (9, 0), (9, 0), (9, 0), (0, x5)]) ⟨Or.inr rfl, Or.inr rfl, Or.inl rfl, Or.inl rfl, Or.inl rfl, Or.inr rfl, trivial⟩ (h2 g9))
theorem S_X11_qPartTold_132 {X : CX} {d : Nat} {x1 x5 : Int} {I R : PF} {Q : PV → PF → PF → Prop} (h : PN X d mX11_qPartTold 139 [(2, 306), (0, x1), (9, 0), (9, 0), (9, 0), (0, x5)] [(0, 21), (2, 306)] I R Q) : PN X d mX11_qPartTold 132 [(2, 306), (0, x1), (9, 0), (9, 0), (9, 0), (0, x5)] [(2, 306)] I R Q := by
  refine P_bipush (n := 21) (q := 134) rfl rfl (by decide +kernel) ?_
  refine P_goto (off := 5) (t := 139) (by decide) (by decide +kernel) ?_
  exact h
theorem S_X11_qPartTold_137 {X : CX} {d : Nat} {x1 x5 : Int} {I R : PF} {Q : PV → PF → PF → Prop} (h : PN X d mX11_qPartTold 139 [(2, 306), (0, x1), (9, 0), (9, 0), (9, 0), (0, x5)] [(0, 22), (2, 306)] I R Q) : PN X d mX11_qPartTold 137 [(2, 306), (0, x1), (9, 0), (9, 0), (9, 0), (0, x5)] [(2, 306)] I R Q := by
  refine P_bipush (n := 22) (q := 139) rfl rfl (by decide +kernel) ?_
  exact h
theorem S_X11_qPartTold_139 {X : CX} {d d1 : Nat} {x1 x5 o1 : Int} {I R : PF} {Q Q1 : PV → PF → PF → Prop} (e1 : d1 + 1 ≤ d) (hc : CN X d1 mX11_qOpens [(2, 306), (0, o1), (0, x5)] I R Q1) (h : ∀ z I2 R2, Q1 (9, z) I2 R2 → PN X d mX11_qPartTold 144 [(2, 306), (0, x1)] [] I2 R2 Q) : PN X d mX11_qPartTold 139 [(2, 306), (0, x1), (9, 0), (9, 0), (9, 0), (0, x5)] [(0, o1), (2, 306)] I R Q := by
  refine P_iload (n := 5) (q := 141) rfl rfl (by decide +kernel) ?_
  refine P_invV (As := [(0, o1), (0, x5)]) (q := 144) oX11_qOpens rfl kM306 kX11_623 e1 hMF (Nat.le_of_ble_eq_true rfl) hc rfl (by decide +kernel) (fun z I2 R2 hq => ?_)
  exact (PW_sub (ls' := [(2, 306), (0, x1)]) ⟨Or.inr rfl, Or.inr rfl, trivial⟩ (h z I2 R2 hq))
theorem S_X11_qPartTold_144 {X : CX} {d d1 : Nat} {x1 : Int} {I R : PF} {Q Q1 : PV → PF → PF → Prop} (e1 : d1 + 1 ≤ d) (hc : CN X d1 mX11_asksSign [(2, 306), (0, 40)] I R Q1) (h : ∀ z I2 R2, Q1 (9, z) I2 R2 → PN X d mX11_qPartTold 150 [(2, 306), (0, x1)] [] I2 R2 Q) : PN X d mX11_qPartTold 144 [(2, 306), (0, x1)] [] I R Q := by
  refine P_aload_n (n := 0) (q := 145) rfl rfl (by decide +kernel) ?_
  refine P_bipush (n := 40) (q := 147) rfl rfl (by decide +kernel) ?_
  refine P_invV (As := [(0, 40)]) (q := 150) oX11_asksSign rfl kM306 kX11_192 e1 hMF (Nat.le_of_ble_eq_true rfl) hc rfl (by decide +kernel) (fun z I2 R2 hq => ?_)
  exact (PW_sub (ls' := [(2, 306), (0, x1)]) ⟨Or.inr rfl, Or.inr rfl, trivial⟩ (h z I2 R2 hq))
theorem S_X11_qPartTold_150 {X : CX} {d : Nat} {x1 : Int} {I R : PF} {Q : PV → PF → PF → Prop} (h : PN X d mX11_qPartTold 183 [(2, 306), (0, x1)] [] I R Q) : PN X d mX11_qPartTold 150 [(2, 306), (0, x1)] [] I R Q := by
  refine P_goto (off := 33) (t := 183) (by decide) (by decide +kernel) ?_
  exact (PW_sub (ls' := [(2, 306), (0, x1)]) ⟨Or.inr rfl, Or.inr rfl, trivial⟩ h)
theorem S_X11_qPartTold_153 {X : CX} {d : Nat} {x1 x3 : Int} {I R : PF} {Q : PV → PF → PF → Prop} (c1 : -2147483648 ≤ x3 ∧ x3 < 2147483648) (h1 : x3 = (-1) → PN X d mX11_qPartTold 181 [(2, 306)] [] I R Q) (h2 : x3 ≠ (-1) → PN X d mX11_qPartTold 158 [(2, 306), (0, x1), (9, 0), (0, x3)] [] I R Q) : PN X d mX11_qPartTold 153 [(2, 306), (0, x1), (9, 0), (0, x3)] [] I R Q := by
  refine P_iload_n (n := 3) (q := 154) rfl rfl (by decide +kernel) ?_
  refine P_iconst (n := (-1)) (q := 155) rfl (by decide +kernel) ?_
  refine B_icmp_eq (off := 26) (t := 181) (q := 158) c1 ⟨by decide, by decide⟩ (by decide) rfl (by decide +kernel) ?_ ?_
  · exact fun g9 => (PW_sub (ls' := [(2, 306)]) ⟨Or.inr rfl, trivial⟩ (h1 g9))
  · exact fun g9 => (h2 g9)
theorem S_X11_qPartTold_158 {X : CX} {d d1 : Nat} {x1 x3 : Int} {I R : PF} {Q Q1 : PV → PF → PF → Prop} (e1 : d1 + 1 ≤ d) (hc : CN X d1 mX11_qOpens [(2, 306), (0, ((60 + x3) - 11)), (0, (I 306 2))] I R Q1) (h : ∀ z I2 R2, Q1 (9, z) I2 R2 → PN X d mX11_qPartTold 173 [(2, 306), (0, x1), (9, 0), (0, x3)] [] I2 R2 Q) : PN X d mX11_qPartTold 158 [(2, 306), (0, x1), (9, 0), (0, x3)] [] I R Q := by
  refine P_aload_n (n := 0) (q := 159) rfl rfl (by decide +kernel) ?_
  refine P_bipush (n := 60) (q := 161) rfl rfl (by decide +kernel) ?_
  refine P_iload_n (n := 3) (q := 162) rfl rfl (by decide +kernel) ?_
  refine P_iadd (q := 163) rfl (by decide +kernel) ?_
  refine P_bipush (n := 11) (q := 165) rfl rfl (by decide +kernel) ?_
  refine P_isub (q := 166) rfl (by decide +kernel) ?_
  refine P_aload_n (n := 0) (q := 167) rfl rfl (by decide +kernel) ?_
  refine P_getf (q := 170) fX11_20 kM306 rfl (by decide +kernel) ?_
  refine P_invV (As := [(0, ((60 + x3) - 11)), (0, (I 306 2))]) (q := 173) oX11_qOpens rfl kM306 kX11_623 e1 hMF (Nat.le_of_ble_eq_true rfl) hc rfl (by decide +kernel) (fun z I2 R2 hq => ?_)
  exact (h z I2 R2 hq)
theorem S_X11_qPartTold_173 {X : CX} {d d1 : Nat} {x1 x3 : Int} {I R : PF} {Q Q1 : PV → PF → PF → Prop} (e1 : d1 + 1 ≤ d) (hc : CN X d1 mX11_qAsksWord [(2, 306), (0, x3)] I R Q1) (h : ∀ z I2 R2, Q1 (9, z) I2 R2 → PN X d mX11_qPartTold 178 [(2, 306), (0, x1)] [] I2 R2 Q) : PN X d mX11_qPartTold 173 [(2, 306), (0, x1), (9, 0), (0, x3)] [] I R Q := by
  refine P_aload_n (n := 0) (q := 174) rfl rfl (by decide +kernel) ?_
  refine P_iload_n (n := 3) (q := 175) rfl rfl (by decide +kernel) ?_
  refine P_invV (As := [(0, x3)]) (q := 178) oX11_qAsksWord rfl kM306 kX11_626 e1 hMF (Nat.le_of_ble_eq_true rfl) hc rfl (by decide +kernel) (fun z I2 R2 hq => ?_)
  exact (PW_sub (ls' := [(2, 306), (0, x1)]) ⟨Or.inr rfl, Or.inr rfl, trivial⟩ (h z I2 R2 hq))
theorem S_X11_qPartTold_178 {X : CX} {d : Nat} {x1 : Int} {I R : PF} {Q : PV → PF → PF → Prop} (h : PN X d mX11_qPartTold 183 [(2, 306), (0, x1)] [] I R Q) : PN X d mX11_qPartTold 178 [(2, 306), (0, x1)] [] I R Q := by
  refine P_goto (off := 5) (t := 183) (by decide) (by decide +kernel) ?_
  exact (PW_sub (ls' := [(2, 306), (0, x1)]) ⟨Or.inr rfl, Or.inr rfl, trivial⟩ h)
theorem S_X11_qPartTold_181 {X : CX} {d : Nat} {I R : PF} {Q : PV → PF → PF → Prop} (h : PN X d mX11_qPartTold 183 [(2, 306), (0, 0)] [] I R Q) : PN X d mX11_qPartTold 181 [(2, 306)] [] I R Q := by
  refine P_iconst (n := 0) (q := 182) rfl (by decide +kernel) ?_
  refine P_istore_n (n := 1) (by decide) (q := 183) rfl (by decide +kernel) ?_
  exact (PW_sub (ls' := [(2, 306), (0, 0)]) ⟨Or.inr rfl, Or.inr rfl, trivial⟩ h)
theorem S_X11_qPartTold_183 {X : CX} {d : Nat} {x1 : Int} {I R : PF} {Q : PV → PF → PF → Prop} (h : PN X d mX11_qPartTold 2 [(2, 306), (0, x1)] [] I R Q) : PN X d mX11_qPartTold 183 [(2, 306), (0, x1)] [] I R Q := by
  refine P_goto (off := (-181)) (t := 2) (by decide) (by decide +kernel) ?_
  exact (PW_sub (ls' := [(2, 306), (0, x1)]) ⟨Or.inr rfl, Or.inr rfl, trivial⟩ h)
theorem S_X11_qPartTold_186 {X : CX} {d : Nat} {I R : PF} {Q : PV → PF → PF → Prop} (c1 : -2147483648 ≤ (I 306 5) ∧ (I 306 5) < 2147483648) (h1 : (I 306 5) = 0 → PN X d mX11_qPartTold 194 [(2, 306)] [] I R Q) (h2 : (I 306 5) ≠ 0 → PN X d mX11_qPartTold 193 [] [] I R Q) : PN X d mX11_qPartTold 186 [(2, 306)] [] I R Q := by
  refine P_aload_n (n := 0) (q := 187) rfl rfl (by decide +kernel) ?_
  refine P_getf (q := 190) fX11_14 kM306 rfl (by decide +kernel) ?_
  refine B_if_eq (off := 4) (t := 194) (q := 193) c1 (by decide) rfl (by decide +kernel) ?_ ?_
  · exact fun g9 => (PW_sub (ls' := [(2, 306)]) ⟨Or.inr rfl, trivial⟩ (h1 g9))
  · exact fun g9 => (PW_sub (ls' := []) trivial (h2 g9))
theorem S_X11_qPartTold_193 {X : CX} {d : Nat} {I R : PF} {Q : PV → PF → PF → Prop} (h : Q (9, 0) I R) : PN X d mX11_qPartTold 193 [] [] I R Q := by
  refine P_vret rfl (by decide +kernel) h
theorem S_X11_qPartTold_194 {X : CX} {d d1 : Nat} {I R : PF} {Q Q1 : PV → PF → PF → Prop} (e1 : d1 + 1 ≤ d) (hc : CN X d1 mX11_qWordOf [(2, 306), (0, 0), (0, 11)] I R Q1) (h : ∀ z I2 R2, Q1 (0, z) I2 R2 → PN X d mX11_qPartTold 201 [(2, 306)] [(0, z)] I2 R2 Q) : PN X d mX11_qPartTold 194 [(2, 306)] [] I R Q := by
  refine P_aload_n (n := 0) (q := 195) rfl rfl (by decide +kernel) ?_
  refine P_iconst (n := 0) (q := 196) rfl (by decide +kernel) ?_
  refine P_bipush (n := 11) (q := 198) rfl rfl (by decide +kernel) ?_
  refine P_invV (As := [(0, 0), (0, 11)]) (q := 201) oX11_qWordOf rfl kM306 kX11_620 e1 hMF (Nat.le_of_ble_eq_true rfl) hc rfl (by decide +kernel) (fun z I2 R2 hq => ?_)
  exact (PW_sub (ls' := [(2, 306)]) ⟨Or.inr rfl, trivial⟩ (h z I2 R2 hq))
theorem S_X11_qPartTold_201 {X : CX} {d : Nat} {o0 : Int} {I R : PF} {Q : PV → PF → PF → Prop} (c1 : -2147483648 ≤ o0 ∧ o0 < 2147483648) (h1 : o0 = (-1) → PN X d mX11_qPartTold 212 [(2, 306), (9, 0), (0, o0)] [] I R Q) (h2 : o0 ≠ (-1) → PN X d mX11_qPartTold 207 [(2, 306), (9, 0), (0, o0)] [] I R Q) : PN X d mX11_qPartTold 201 [(2, 306)] [(0, o0)] I R Q := by
  refine P_istore_n (n := 2) (by decide) (q := 202) rfl (by decide +kernel) ?_
  refine P_iload_n (n := 2) (q := 203) rfl rfl (by decide +kernel) ?_
  refine P_iconst (n := (-1)) (q := 204) rfl (by decide +kernel) ?_
  refine B_icmp_eq (off := 8) (t := 212) (q := 207) c1 ⟨by decide, by decide⟩ (by decide) rfl (by decide +kernel) ?_ ?_
  · exact fun g9 => (h1 g9)
  · exact fun g9 => (h2 g9)
theorem S_X11_qPartTold_207 {X : CX} {d d1 : Nat} {x2 : Int} {I R : PF} {Q Q1 : PV → PF → PF → Prop} (e1 : d1 + 1 ≤ d) (hc : CN X d1 mX11_qAsksWord [(2, 306), (0, x2)] I R Q1) (h : ∀ z I2 R2, Q1 (9, z) I2 R2 → PN X d mX11_qPartTold 212 [(2, 306), (9, 0), (0, x2)] [] I2 R2 Q) : PN X d mX11_qPartTold 207 [(2, 306), (9, 0), (0, x2)] [] I R Q := by
  refine P_aload_n (n := 0) (q := 208) rfl rfl (by decide +kernel) ?_
  refine P_iload_n (n := 2) (q := 209) rfl rfl (by decide +kernel) ?_
  refine P_invV (As := [(0, x2)]) (q := 212) oX11_qAsksWord rfl kM306 kX11_626 e1 hMF (Nat.le_of_ble_eq_true rfl) hc rfl (by decide +kernel) (fun z I2 R2 hq => ?_)
  exact (h z I2 R2 hq)
theorem S_X11_qPartTold_212 {X : CX} {d : Nat} {x2 : Int} {I R : PF} {Q : PV → PF → PF → Prop} (c1 : -2147483648 ≤ x2 ∧ x2 < 2147483648) (h1 : x2 = (-1) → PN X d mX11_qPartTold 225 [(2, 306)] [(2, 306)] I R Q) (h2 : x2 ≠ (-1) → PN X d mX11_qPartTold 218 [(2, 306), (9, 0), (0, x2)] [(2, 306)] I R Q) : PN X d mX11_qPartTold 212 [(2, 306), (9, 0), (0, x2)] [] I R Q := by
  refine P_aload_n (n := 0) (q := 213) rfl rfl (by decide +kernel) ?_
  refine P_iload_n (n := 2) (q := 214) rfl rfl (by decide +kernel) ?_
  refine P_iconst (n := (-1)) (q := 215) rfl (by decide +kernel) ?_
  refine B_icmp_eq (off := 10) (t := 225) (q := 218) c1 ⟨by decide, by decide⟩ (by decide) rfl (by decide +kernel) ?_ ?_
  · exact fun g9 => (PW_sub (ls' := [(2, 306)]) ⟨Or.inr rfl, trivial⟩ (h1 g9))
  · exact fun g9 => (h2 g9)
theorem S_X11_qPartTold_218 {X : CX} {d : Nat} {x2 : Int} {I R : PF} {Q : PV → PF → PF → Prop} (h : PN X d mX11_qPartTold 237 [(2, 306)] [(0, (40 + x2)), (2, 306)] I R Q) : PN X d mX11_qPartTold 218 [(2, 306), (9, 0), (0, x2)] [(2, 306)] I R Q := by
  refine P_bipush (n := 40) (q := 220) rfl rfl (by decide +kernel) ?_
  refine P_iload_n (n := 2) (q := 221) rfl rfl (by decide +kernel) ?_
  refine P_iadd (q := 222) rfl (by decide +kernel) ?_
  refine P_goto (off := 15) (t := 237) (by decide) (by decide +kernel) ?_
  exact (PW_sub (ls' := [(2, 306)]) ⟨Or.inr rfl, trivial⟩ h)
theorem S_X11_qPartTold_225 {X : CX} {d d1 : Nat} {I R : PF} {Q Q1 : PV → PF → PF → Prop} (e1 : d1 + 1 ≤ d) (hc : CN X d1 mX11_number [(2, 306), (0, 0), (0, 9999)] I R Q1) (h : ∀ z I2 R2, Q1 (0, z) I2 R2 → PN X d mX11_qPartTold 236 [(2, 306)] [(0, z), (0, 1000), (2, 306)] I2 R2 Q) : PN X d mX11_qPartTold 225 [(2, 306)] [(2, 306)] I R Q := by
  refine P_sipush (n := 1000) (q := 228) rfl rfl (by decide +kernel) ?_
  refine P_aload_n (n := 0) (q := 229) rfl rfl (by decide +kernel) ?_
  refine P_iconst (n := 0) (q := 230) rfl (by decide +kernel) ?_
  refine P_sipush (n := 9999) (q := 233) rfl rfl (by decide +kernel) ?_
  refine P_invV (As := [(0, 0), (0, 9999)]) (q := 236) oX11_number rfl kM306 kX11_188 e1 hMF (Nat.le_of_ble_eq_true rfl) hc rfl (by decide +kernel) (fun z I2 R2 hq => ?_)
  exact (PW_sub (ls' := [(2, 306)]) ⟨Or.inr rfl, trivial⟩ (h z I2 R2 hq))
theorem S_X11_qPartTold_236 {X : CX} {d : Nat} {o1 o2 : Int} {I R : PF} {Q : PV → PF → PF → Prop} (h : PN X d mX11_qPartTold 237 [(2, 306)] [(0, (o1 + o2)), (2, 306)] I R Q) : PN X d mX11_qPartTold 236 [(2, 306)] [(0, o2), (0, o1), (2, 306)] I R Q := by
  refine P_iadd (q := 237) rfl (by decide +kernel) ?_
  exact (PW_sub (ls' := [(2, 306)]) ⟨Or.inr rfl, trivial⟩ h)
theorem S_X11_qPartTold_237 {X : CX} {d d1 : Nat} {o1 : Int} {I R : PF} {Q Q1 : PV → PF → PF → Prop} (e1 : d1 + 1 ≤ d) (hc : CN X d1 mX11_qCode [(2, 306), (0, o1)] I R Q1) (h : ∀ z I2 R2, Q1 (9, z) I2 R2 → PN X d mX11_qPartTold 240 [(2, 306)] [] I2 R2 Q) : PN X d mX11_qPartTold 237 [(2, 306)] [(0, o1), (2, 306)] I R Q := by
  refine P_invV (As := [(0, o1)]) (q := 240) oX11_qCode rfl kM306 kX11_605 e1 hMF (Nat.le_of_ble_eq_true rfl) hc rfl (by decide +kernel) (fun z I2 R2 hq => ?_)
  exact (PW_sub (ls' := [(2, 306)]) ⟨Or.inr rfl, trivial⟩ (h z I2 R2 hq))
theorem S_X11_qPartTold_240 {X : CX} {d d1 : Nat} {I R : PF} {Q Q1 : PV → PF → PF → Prop} (e1 : d1 + 1 ≤ d) (hc : CN X d1 mX11_qEndsPart [(2, 306)] I R Q1) (h : ∀ z I2 R2, Q1 (9, z) I2 R2 → PN X d mX11_qPartTold 244 [] [] I2 R2 Q) : PN X d mX11_qPartTold 240 [(2, 306)] [] I R Q := by
  refine P_aload_n (n := 0) (q := 241) rfl rfl (by decide +kernel) ?_
  refine P_invV (As := []) (q := 244) oX11_qEndsPart rfl kM306 kX11_629 e1 hMF (Nat.le_of_ble_eq_true rfl) hc rfl (by decide +kernel) (fun z I2 R2 hq => ?_)
  exact (PW_sub (ls' := []) trivial (h z I2 R2 hq))
theorem S_X11_qPartTold_244 {X : CX} {d : Nat} {I R : PF} {Q : PV → PF → PF → Prop} (h : Q (9, 0) I R) : PN X d mX11_qPartTold 244 [] [] I R Q := by
  refine P_vret rfl (by decide +kernel) h
theorem S_X11_qPuts_0 {X : CX} {d : Nat} {y1 : Int} {I R : PF} {Q : PV → PF → PF → Prop} (hs : Shp R) (b1 : (0 : Int) ≤ (I 306 110) ∧ (I 306 110) < 1700) (h : Q (9, 0) (u2 (u2 I 381 (I 306 110) y1) 306 110 (((u2 I 381 (I 306 110) y1) 306 110) + 1)) R) : PN X d mX11_qPuts 0 [(2, 306), (1, y1)] [] I R Q := by
  refine P_aload_n (n := 0) (q := 1) rfl rfl (by decide +kernel) ?_
  refine B_getfR (q := 4) fX11_414 kM306 (rM306_109 hs) rfl (by decide +kernel) ?_
  refine P_aload_n (n := 0) (q := 5) rfl rfl (by decide +kernel) ?_
  refine P_getf (q := 8) fX11_423 kM306 rfl (by decide +kernel) ?_
  refine P_lload_n (n := 1) (q := 9) rfl rfl (by decide +kernel) ?_
  refine B_lastore (q := 10) kM381 nM381 (by decide) b1 rfl (by decide +kernel) ?_
  refine P_aload_n (n := 0) (q := 11) rfl rfl (by decide +kernel) ?_
  refine P_dup (q := 12) (Nat.ne_of_beq_eq_false rfl) rfl (by decide +kernel) ?_
  refine P_getf (q := 15) fX11_423 kM306 rfl (by decide +kernel) ?_
  refine P_iconst (n := 1) (q := 16) rfl (by decide +kernel) ?_
  refine P_iadd (q := 17) rfl (by decide +kernel) ?_
  refine P_putI (q := 20) wX11_423 (fun h => by cases h) kM306 rfl (by decide +kernel) ?_
  refine P_vret rfl (by decide +kernel) h
