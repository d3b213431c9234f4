theorem S_J6_bitCount_0f7a4_0 {X : CX} {d : Nat} {x0 : Int} {I R : PF} {Q : PV → PF → PF → Prop} (h : Q (0, ((Int32.ofInt ((((Int32.ofInt ((((Int32.ofInt (x0 - ((Int32.ofInt (ushr32 x0 1) &&& Int32.ofInt 1431655765).toInt)) &&& Int32.ofInt 858993459).toInt) + ((Int32.ofInt (ushr32 (x0 - ((Int32.ofInt (ushr32 x0 1) &&& Int32.ofInt 1431655765).toInt)) 2) &&& Int32.ofInt 858993459).toInt)) + (ushr32 (((Int32.ofInt (x0 - ((Int32.ofInt (ushr32 x0 1) &&& Int32.ofInt 1431655765).toInt)) &&& Int32.ofInt 858993459).toInt) + ((Int32.ofInt (ushr32 (x0 - ((Int32.ofInt (ushr32 x0 1) &&& Int32.ofInt 1431655765).toInt)) 2) &&& Int32.ofInt 858993459).toInt)) 4)) &&& Int32.ofInt 252645135).toInt) + (ushr32 ((Int32.ofInt ((((Int32.ofInt (x0 - ((Int32.ofInt (ushr32 x0 1) &&& Int32.ofInt 1431655765).toInt)) &&& Int32.ofInt 858993459).toInt) + ((Int32.ofInt (ushr32 (x0 - ((Int32.ofInt (ushr32 x0 1) &&& Int32.ofInt 1431655765).toInt)) 2) &&& Int32.ofInt 858993459).toInt)) + (ushr32 (((Int32.ofInt (x0 - ((Int32.ofInt (ushr32 x0 1) &&& Int32.ofInt 1431655765).toInt)) &&& Int32.ofInt 858993459).toInt) + ((Int32.ofInt (ushr32 (x0 - ((Int32.ofInt (ushr32 x0 1) &&& Int32.ofInt 1431655765).toInt)) 2) &&& Int32.ofInt 858993459).toInt)) 4)) &&& Int32.ofInt 252645135).toInt) 8)) + (ushr32 (((Int32.ofInt ((((Int32.ofInt (x0 - ((Int32.ofInt (ushr32 x0 1) &&& Int32.ofInt 1431655765).toInt)) &&& Int32.ofInt 858993459).toInt) + ((Int32.ofInt (ushr32 (x0 - ((Int32.ofInt (ushr32 x0 1) &&& Int32.ofInt 1431655765).toInt)) 2) &&& Int32.ofInt 858993459).toInt)) + (ushr32 (((Int32.ofInt (x0 - ((Int32.ofInt (ushr32 x0 1) &&& Int32.ofInt 1431655765).toInt)) &&& Int32.ofInt 858993459).toInt) + ((Int32.ofInt (ushr32 (x0 - ((Int32.ofInt (ushr32 x0 1) &&& Int32.ofInt 1431655765).toInt)) 2) &&& Int32.ofInt 858993459).toInt)) 4)) &&& Int32.ofInt 252645135).toInt) + (ushr32 ((Int32.ofInt ((((Int32.ofInt (x0 - ((Int32.ofInt (ushr32 x0 1) &&& Int32.ofInt 1431655765).toInt)) &&& Int32.ofInt 858993459).toInt) + ((Int32.ofInt (ushr32 (x0 - ((Int32.ofInt (ushr32 x0 1) &&& Int32.ofInt 1431655765).toInt)) 2) &&& Int32.ofInt 858993459).toInt)) + (ushr32 (((Int32.ofInt (x0 - ((Int32.ofInt (ushr32 x0 1) &&& Int32.ofInt 1431655765).toInt)) &&& Int32.ofInt 858993459).toInt) + ((Int32.ofInt (ushr32 (x0 - ((Int32.ofInt (ushr32 x0 1) &&& Int32.ofInt 1431655765).toInt)) 2) &&& Int32.ofInt 858993459).toInt)) 4)) &&& Int32.ofInt 252645135).toInt) 8)) 16)) &&& Int32.ofInt 63).toInt)) I R) : PN X d mJ6_bitCount_0f7a4 0 [(0, x0)] [] I R Q := by
  refine P_iload_n (n := 0) (q := 1) rfl rfl (by decide +kernel) ?_
  refine P_iload_n (n := 0) (q := 2) rfl rfl (by decide +kernel) ?_
  refine P_iconst (n := 1) (q := 3) rfl (by decide +kernel) ?_
  refine P_iushr (q := 4) rfl (by decide +kernel) ?_
  refine P_ldcw (ix := 265) (v := 1431655765) (x := 1431655765) (q := 7) rfl (tGp5 25 rfl rfl) rfl (by decide +kernel) ?_
  refine P_iand (q := 8) rfl (by decide +kernel) ?_
  refine P_isub (q := 9) rfl (by decide +kernel) ?_
  refine P_istore_n (n := 0) (by decide) (q := 10) rfl (by decide +kernel) ?_
  refine P_iload_n (n := 0) (q := 11) rfl rfl (by decide +kernel) ?_
  refine P_ldcw (ix := 266) (v := 858993459) (x := 858993459) (q := 14) rfl (tGp5 26 rfl rfl) rfl (by decide +kernel) ?_
  refine P_iand (q := 15) rfl (by decide +kernel) ?_
  refine P_iload_n (n := 0) (q := 16) rfl rfl (by decide +kernel) ?_
  refine P_iconst (n := 2) (q := 17) rfl (by decide +kernel) ?_
  refine P_iushr (q := 18) rfl (by decide +kernel) ?_
  refine P_ldcw (ix := 266) (v := 858993459) (x := 858993459) (q := 21) rfl (tGp5 26 rfl rfl) rfl (by decide +kernel) ?_
  refine P_iand (q := 22) rfl (by decide +kernel) ?_
  refine P_iadd (q := 23) rfl (by decide +kernel) ?_
  refine P_istore_n (n := 0) (by decide) (q := 24) rfl (by decide +kernel) ?_
  refine P_iload_n (n := 0) (q := 25) rfl rfl (by decide +kernel) ?_
  refine P_iload_n (n := 0) (q := 26) rfl rfl (by decide +kernel) ?_
  refine P_iconst (n := 4) (q := 27) rfl (by decide +kernel) ?_
  refine P_iushr (q := 28) rfl (by decide +kernel) ?_
  refine P_iadd (q := 29) rfl (by decide +kernel) ?_
  refine P_ldcw (ix := 267) (v := 252645135) (x := 252645135) (q := 32) rfl (tGp5 27 rfl rfl) rfl (by decide +kernel) ?_
  refine P_iand (q := 33) rfl (by decide +kernel) ?_
  refine P_istore_n (n := 0) (by decide) (q := 34) rfl (by decide +kernel) ?_
  refine P_iload_n (n := 0) (q := 35) rfl rfl (by decide +kernel) ?_
  refine P_iload_n (n := 0) (q := 36) rfl rfl (by decide +kernel) ?_
  refine P_bipush (n := 8) (q := 38) rfl rfl (by decide +kernel) ?_
  refine P_iushr (q := 39) rfl (by decide +kernel) ?_
  refine P_iadd (q := 40) rfl (by decide +kernel) ?_
  refine P_istore_n (n := 0) (by decide) (q := 41) rfl (by decide +kernel) ?_
  refine P_iload_n (n := 0) (q := 42) rfl rfl (by decide +kernel) ?_
  refine P_iload_n (n := 0) (q := 43) rfl rfl (by decide +kernel) ?_
  refine P_bipush (n := 16) (q := 45) rfl rfl (by decide +kernel) ?_
  refine P_iushr (q := 46) rfl (by decide +kernel) ?_
  refine P_iadd (q := 47) rfl (by decide +kernel) ?_
  refine P_istore_n (n := 0) (by decide) (q := 48) rfl (by decide +kernel) ?_
  refine P_iload_n (n := 0) (q := 49) rfl rfl (by decide +kernel) ?_
  refine P_bipush (n := 63) (q := 51) rfl rfl (by decide +kernel) ?_
  refine P_iand (q := 52) rfl (by decide +kernel) ?_
  refine P_iret rfl (by decide +kernel) h
theorem S_J9_abs_0f7a4_0 {X : CX} {d : Nat} {x0 : Int} {I R : PF} {Q : PV → PF → PF → Prop} (c1 : -2147483648 ≤ x0 ∧ x0 < 2147483648) (h1 : 0 ≤ x0 → PN X d mJ9_abs_0f7a4 9 [(0, x0)] [] I R Q) (h2 : x0 < 0 → PN X d mJ9_abs_0f7a4 4 [(0, x0)] [] I R Q) : PN X d mJ9_abs_0f7a4 0 [(0, x0)] [] I R Q := by
  refine P_iload_n (n := 0) (q := 1) rfl rfl (by decide +kernel) ?_
  refine B_if_ge (off := 8) (t := 9) (q := 4) c1 (by decide) rfl (by decide +kernel) ?_ ?_
  · exact fun g9 => (h1 g9)
  · exact fun g9 => (h2 g9)
theorem S_J9_abs_0f7a4_4 {X : CX} {d : Nat} {x0 : Int} {I R : PF} {Q : PV → PF → PF → Prop} (h : PN X d mJ9_abs_0f7a4 10 [] [(0, (-x0))] I R Q) : PN X d mJ9_abs_0f7a4 4 [(0, x0)] [] I R Q := by
  refine P_iload_n (n := 0) (q := 5) rfl rfl (by decide +kernel) ?_
  refine P_ineg (q := 6) rfl (by decide +kernel) ?_
  refine P_goto (off := 4) (t := 10) (by decide) (by decide +kernel) ?_
  exact (PW_sub (ls' := []) trivial h)
theorem S_J9_abs_0f7a4_9 {X : CX} {d : Nat} {x0 : Int} {I R : PF} {Q : PV → PF → PF → Prop} (h : PN X d mJ9_abs_0f7a4 10 [] [(0, x0)] I R Q) : PN X d mJ9_abs_0f7a4 9 [(0, x0)] [] I R Q := by
  refine P_iload_n (n := 0) (q := 10) rfl rfl (by decide +kernel) ?_
  exact (PW_sub (ls' := []) trivial h)
theorem S_J9_abs_0f7a4_10 {X : CX} {d : Nat} {o0 : Int} {I R : PF} {Q : PV → PF → PF → Prop} (h : Q (0, o0) I R) : PN X d mJ9_abs_0f7a4 10 [] [(0, o0)] I R Q := by
  refine P_iret rfl (by decide +kernel) h
theorem S_J9_floorDiv_f86c9_0 {X : CX} {d : Nat} {y0 y2 : Int} {I R : PF} {Q : PV → PF → PF → Prop} (f1 : y2 ≠ 0) (c1 : -9223372036854775808 ≤ y0 ∧ y0 < 9223372036854775808) (c2 : -9223372036854775808 ≤ y2 ∧ y2 < 9223372036854775808) (c3 : -9223372036854775808 ≤ ((Int64.ofInt y0 ^^^ Int64.ofInt y2).toInt) ∧ ((Int64.ofInt y0 ^^^ Int64.ofInt y2).toInt) < 9223372036854775808) (h1 : 0 ≤ ((Int64.ofInt y0 ^^^ Int64.ofInt y2).toInt) → PN X d mJ9_floorDiv_f86c9 27 [(9, 0), (9, 0), (9, 0), (9, 0), (1, (y0.tdiv y2))] [] I R Q) (h2 : ((Int64.ofInt y0 ^^^ Int64.ofInt y2).toInt) < 0 → PN X d mJ9_floorDiv_f86c9 13 [(1, y0), (9, 0), (1, y2), (9, 0), (1, (y0.tdiv y2))] [] I R Q) : PN X d mJ9_floorDiv_f86c9 0 [(1, y0), (9, 0), (1, y2)] [] I R Q := by
  refine P_lload_n (n := 0) (q := 1) rfl rfl (by decide +kernel) ?_
  refine P_lload_n (n := 2) (q := 2) rfl rfl (by decide +kernel) ?_
  refine B_ldiv (q := 3) c1 c2 f1 rfl (by decide +kernel) ?_
  refine P_lstore (n := 4) (by decide) (q := 5) rfl (by decide +kernel) ?_
  refine P_lload_n (n := 0) (q := 6) rfl rfl (by decide +kernel) ?_
  refine P_lload_n (n := 2) (q := 7) rfl rfl (by decide +kernel) ?_
  refine P_lxor (q := 8) rfl (by decide +kernel) ?_
  refine P_lconst (n := 0) (x := 0) (q := 9) rfl rfl (by decide +kernel) ?_
  refine B_lif_ge (off := 17) (t := 27) (q1 := 10) (q := 13) c3 ⟨by decide, by decide⟩ rfl (by decide +kernel) (by decide) rfl (by decide +kernel) ?_ ?_
  · exact fun g9 => (PW_sub (ls' := [(9, 0), (9, 0), (9, 0), (9, 0), (1, (y0.tdiv y2))]) ⟨Or.inl rfl, Or.inl rfl, Or.inl rfl, Or.inl rfl, Or.inr rfl, trivial⟩ (h1 g9))
  · exact fun g9 => (PW_sub (ls' := [(1, y0), (9, 0), (1, y2), (9, 0), (1, (y0.tdiv y2))]) ⟨Or.inr rfl, Or.inl rfl, Or.inr rfl, Or.inl rfl, Or.inr rfl, trivial⟩ (h2 g9))
theorem S_J9_floorDiv_f86c9_13 {X : CX} {d : Nat} {y0 y2 y4 : Int} {I R : PF} {Q : PV → PF → PF → Prop} (c1 : -9223372036854775808 ≤ (y4 * y2) ∧ (y4 * y2) < 9223372036854775808) (c2 : -9223372036854775808 ≤ y0 ∧ y0 < 9223372036854775808) (h1 : (y4 * y2) = y0 → PN X d mJ9_floorDiv_f86c9 27 [(9, 0), (9, 0), (9, 0), (9, 0), (1, y4)] [] I R Q) (h2 : (y4 * y2) ≠ y0 → PN X d mJ9_floorDiv_f86c9 22 [(9, 0), (9, 0), (9, 0), (9, 0), (1, y4)] [] I R Q) : PN X d mJ9_floorDiv_f86c9 13 [(1, y0), (9, 0), (1, y2), (9, 0), (1, y4)] [] I R Q := by
  refine P_lload (n := 4) (q := 15) rfl rfl (by decide +kernel) ?_
  refine P_lload_n (n := 2) (q := 16) rfl rfl (by decide +kernel) ?_
  refine P_lmul (q := 17) rfl (by decide +kernel) ?_
  refine P_lload_n (n := 0) (q := 18) rfl rfl (by decide +kernel) ?_
  refine B_lif_eq (off := 8) (t := 27) (q1 := 19) (q := 22) c1 c2 rfl (by decide +kernel) (by decide) rfl (by decide +kernel) ?_ ?_
  · exact fun g9 => (PW_sub (ls' := [(9, 0), (9, 0), (9, 0), (9, 0), (1, y4)]) ⟨Or.inl rfl, Or.inl rfl, Or.inl rfl, Or.inl rfl, Or.inr rfl, trivial⟩ (h1 g9))
  · exact fun g9 => (PW_sub (ls' := [(9, 0), (9, 0), (9, 0), (9, 0), (1, y4)]) ⟨Or.inl rfl, Or.inl rfl, Or.inl rfl, Or.inl rfl, Or.inr rfl, trivial⟩ (h2 g9))
theorem S_J9_floorDiv_f86c9_22 {X : CX} {d : Nat} {y4 : Int} {I R : PF} {Q : PV → PF → PF → Prop} (h : Q (1, (y4 - 1)) I R) : PN X d mJ9_floorDiv_f86c9 22 [(9, 0), (9, 0), (9, 0), (9, 0), (1, y4)] [] I R Q := by
  refine P_lload (n := 4) (q := 24) rfl rfl (by decide +kernel) ?_
  refine P_lconst (n := 1) (x := 1) (q := 25) rfl rfl (by decide +kernel) ?_
  refine P_lsub (q := 26) rfl (by decide +kernel) ?_
  refine P_lret rfl (by decide +kernel) h
theorem S_J9_floorDiv_f86c9_27 {X : CX} {d : Nat} {y4 : Int} {I R : PF} {Q : PV → PF → PF → Prop} (h : Q (1, y4) I R) : PN X d mJ9_floorDiv_f86c9 27 [(9, 0), (9, 0), (9, 0), (9, 0), (1, y4)] [] I R Q := by
  refine P_lload (n := 4) (q := 29) rfl rfl (by decide +kernel) ?_
  refine P_lret rfl (by decide +kernel) h
theorem S_J9_floorMod_7cf53_0 {X : CX} {d : Nat} {x0 x1 : Int} {I R : PF} {Q : PV → PF → PF → Prop} (f1 : x1 ≠ 0) (c1 : -2147483648 ≤ x0 ∧ x0 < 2147483648) (c2 : -2147483648 ≤ x1 ∧ x1 < 2147483648) (c3 : -2147483648 ≤ ((Int32.ofInt x0 ^^^ Int32.ofInt x1).toInt) ∧ ((Int32.ofInt x0 ^^^ Int32.ofInt x1).toInt) < 2147483648) (h1 : 0 ≤ ((Int32.ofInt x0 ^^^ Int32.ofInt x1).toInt) → PN X d mJ9_floorMod_7cf53 18 [(9, 0), (9, 0), (0, (x0.tmod x1))] [] I R Q) (h2 : ((Int32.ofInt x0 ^^^ Int32.ofInt x1).toInt) < 0 → PN X d mJ9_floorMod_7cf53 10 [(9, 0), (0, x1), (0, (x0.tmod x1))] [] I R Q) : PN X d mJ9_floorMod_7cf53 0 [(0, x0), (0, x1)] [] I R Q := by
  refine P_iload_n (n := 0) (q := 1) rfl rfl (by decide +kernel) ?_
  refine P_iload_n (n := 1) (q := 2) rfl rfl (by decide +kernel) ?_
  refine B_irem (q := 3) c1 c2 f1 rfl (by decide +kernel) ?_
  refine P_istore_n (n := 2) (by decide) (q := 4) rfl (by decide +kernel) ?_
  refine P_iload_n (n := 0) (q := 5) rfl rfl (by decide +kernel) ?_
  refine P_iload_n (n := 1) (q := 6) rfl rfl (by decide +kernel) ?_
  refine P_ixor (q := 7) rfl (by decide +kernel) ?_
  refine B_if_ge (off := 11) (t := 18) (q := 10) c3 (by decide) rfl (by decide +kernel) ?_ ?_
  · exact fun g9 => (PW_sub (ls' := [(9, 0), (9, 0), (0, (x0.tmod x1))]) ⟨Or.inl rfl, Or.inl rfl, Or.inr rfl, trivial⟩ (h1 g9))
  · exact fun g9 => (PW_sub (ls' := [(9, 0), (0, x1), (0, (x0.tmod x1))]) ⟨Or.inl rfl, Or.inr rfl, Or.inr rfl, trivial⟩ (h2 g9))
theorem S_J9_floorMod_7cf53_10 {X : CX} {d : Nat} {x1 x2 : Int} {I R : PF} {Q : PV → PF → PF → Prop} (c1 : -2147483648 ≤ x2 ∧ x2 < 2147483648) (h1 : x2 = 0 → PN X d mJ9_floorMod_7cf53 18 [(9, 0), (9, 0), (0, x2)] [] I R Q) (h2 : x2 ≠ 0 → PN X d mJ9_floorMod_7cf53 14 [(9, 0), (0, x1), (0, x2)] [] I R Q) : PN X d mJ9_floorMod_7cf53 10 [(9, 0), (0, x1), (0, x2)] [] I R Q := by
  refine P_iload_n (n := 2) (q := 11) rfl rfl (by decide +kernel) ?_
  refine B_if_eq (off := 7) (t := 18) (q := 14) c1 (by decide) rfl (by decide +kernel) ?_ ?_
  · exact fun g9 => (PW_sub (ls' := [(9, 0), (9, 0), (0, x2)]) ⟨Or.inl rfl, Or.inl rfl, Or.inr rfl, trivial⟩ (h1 g9))
  · exact fun g9 => (h2 g9)
theorem S_J9_floorMod_7cf53_14 {X : CX} {d : Nat} {x1 x2 : Int} {I R : PF} {Q : PV → PF → PF → Prop} (h : Q (0, (x2 + x1)) I R) : PN X d mJ9_floorMod_7cf53 14 [(9, 0), (0, x1), (0, x2)] [] I R Q := by
  refine P_iload_n (n := 2) (q := 15) rfl rfl (by decide +kernel) ?_
  refine P_iload_n (n := 1) (q := 16) rfl rfl (by decide +kernel) ?_
  refine P_iadd (q := 17) rfl (by decide +kernel) ?_
  refine P_iret rfl (by decide +kernel) h
theorem S_J9_floorMod_7cf53_18 {X : CX} {d : Nat} {x2 : Int} {I R : PF} {Q : PV → PF → PF → Prop} (h : Q (0, x2) I R) : PN X d mJ9_floorMod_7cf53 18 [(9, 0), (9, 0), (0, x2)] [] I R Q := by
  refine P_iload_n (n := 2) (q := 19) rfl rfl (by decide +kernel) ?_
  refine P_iret rfl (by decide +kernel) h
theorem S_J9_max_7cf53_0 {X : CX} {d : Nat} {x0 x1 : Int} {I R : PF} {Q : PV → PF → PF → Prop} (c1 : -2147483648 ≤ x0 ∧ x0 < 2147483648) (c2 : -2147483648 ≤ x1 ∧ x1 < 2147483648) (h1 : x0 < x1 → PN X d mJ9_max_7cf53 9 [(9, 0), (0, x1)] [] I R Q) (h2 : x1 ≤ x0 → PN X d mJ9_max_7cf53 5 [(0, x0)] [] I R Q) : PN X d mJ9_max_7cf53 0 [(0, x0), (0, x1)] [] I R Q := by
  refine P_iload_n (n := 0) (q := 1) rfl rfl (by decide +kernel) ?_
  refine P_iload_n (n := 1) (q := 2) rfl rfl (by decide +kernel) ?_
  refine B_icmp_lt (off := 7) (t := 9) (q := 5) c1 c2 (by decide) rfl (by decide +kernel) ?_ ?_
  · exact fun g9 => (PW_sub (ls' := [(9, 0), (0, x1)]) ⟨Or.inl rfl, Or.inr rfl, trivial⟩ (h1 g9))
  · exact fun g9 => (PW_sub (ls' := [(0, x0)]) ⟨Or.inr rfl, trivial⟩ (h2 g9))
theorem S_J9_max_7cf53_5 {X : CX} {d : Nat} {x0 : Int} {I R : PF} {Q : PV → PF → PF → Prop} (h : PN X d mJ9_max_7cf53 10 [] [(0, x0)] I R Q) : PN X d mJ9_max_7cf53 5 [(0, x0)] [] I R Q := by
  refine P_iload_n (n := 0) (q := 6) rfl rfl (by decide +kernel) ?_
  refine P_goto (off := 4) (t := 10) (by decide) (by decide +kernel) ?_
  exact (PW_sub (ls' := []) trivial h)
theorem S_J9_max_7cf53_9 {X : CX} {d : Nat} {x1 : Int} {I R : PF} {Q : PV → PF → PF → Prop} (h : PN X d mJ9_max_7cf53 10 [] [(0, x1)] I R Q) : PN X d mJ9_max_7cf53 9 [(9, 0), (0, x1)] [] I R Q := by
  refine P_iload_n (n := 1) (q := 10) rfl rfl (by decide +kernel) ?_
  exact (PW_sub (ls' := []) trivial h)
theorem S_J9_max_7cf53_10 {X : CX} {d : Nat} {o0 : Int} {I R : PF} {Q : PV → PF → PF → Prop} (h : Q (0, o0) I R) : PN X d mJ9_max_7cf53 10 [] [(0, o0)] I R Q := by
  refine P_iret rfl (by decide +kernel) h
theorem S_J9_max_f86c9_0 {X : CX} {d : Nat} {y0 y2 : Int} {I R : PF} {Q : PV → PF → PF → Prop} (c1 : -9223372036854775808 ≤ y0 ∧ y0 < 9223372036854775808) (c2 : -9223372036854775808 ≤ y2 ∧ y2 < 9223372036854775808) (h1 : y0 < y2 → PN X d mJ9_max_f86c9 10 [(9, 0), (9, 0), (1, y2)] [] I R Q) (h2 : y2 ≤ y0 → PN X d mJ9_max_f86c9 6 [(1, y0)] [] I R Q) : PN X d mJ9_max_f86c9 0 [(1, y0), (9, 0), (1, y2)] [] I R Q := by
  refine P_lload_n (n := 0) (q := 1) rfl rfl (by decide +kernel) ?_
  refine P_lload_n (n := 2) (q := 2) rfl rfl (by decide +kernel) ?_
  refine B_lif_lt (off := 7) (t := 10) (q1 := 3) (q := 6) c1 c2 rfl (by decide +kernel) (by decide) rfl (by decide +kernel) ?_ ?_
  · exact fun g9 => (PW_sub (ls' := [(9, 0), (9, 0), (1, y2)]) ⟨Or.inl rfl, Or.inl rfl, Or.inr rfl, trivial⟩ (h1 g9))
  · exact fun g9 => (PW_sub (ls' := [(1, y0)]) ⟨Or.inr rfl, trivial⟩ (h2 g9))
theorem S_J9_max_f86c9_6 {X : CX} {d : Nat} {y0 : Int} {I R : PF} {Q : PV → PF → PF → Prop} (h : PN X d mJ9_max_f86c9 11 [] [(1, y0)] I R Q) : PN X d mJ9_max_f86c9 6 [(1, y0)] [] I R Q := by
  refine P_lload_n (n := 0) (q := 7) rfl rfl (by decide +kernel) ?_
  refine P_goto (off := 4) (t := 11) (by decide) (by decide +kernel) ?_
  exact (PW_sub (ls' := []) trivial h)
theorem S_J9_max_f86c9_10 {X : CX} {d : Nat} {y2 : Int} {I R : PF} {Q : PV → PF → PF → Prop} (h : PN X d mJ9_max_f86c9 11 [] [(1, y2)] I R Q) : PN X d mJ9_max_f86c9 10 [(9, 0), (9, 0), (1, y2)] [] I R Q := by
  refine P_lload_n (n := 2) (q := 11) rfl rfl (by decide +kernel) ?_
  exact (PW_sub (ls' := []) trivial h)
theorem S_J9_max_f86c9_11 {X : CX} {d : Nat} {v0 : Int} {I R : PF} {Q : PV → PF → PF → Prop} (h : Q (1, v0) I R) : PN X d mJ9_max_f86c9 11 [] [(1, v0)] I R Q := by
  refine P_lret rfl (by decide +kernel) h
theorem S_J9_min_7cf53_0 {X : CX} {d : Nat} {x0 x1 : Int} {I R : PF} {Q : PV → PF → PF → Prop} (c1 : -2147483648 ≤ x0 ∧ x0 < 2147483648) (c2 : -2147483648 ≤ x1 ∧ x1 < 2147483648) (h1 : x1 < x0 → PN X d mJ9_min_7cf53 9 [(9, 0), (0, x1)] [] I R Q) (h2 : x0 ≤ x1 → PN X d mJ9_min_7cf53 5 [(0, x0)] [] I R Q) : PN X d mJ9_min_7cf53 0 [(0, x0), (0, x1)] [] I R Q := by
  refine P_iload_n (n := 0) (q := 1) rfl rfl (by decide +kernel) ?_
  refine P_iload_n (n := 1) (q := 2) rfl rfl (by decide +kernel) ?_
  refine B_icmp_gt (off := 7) (t := 9) (q := 5) c1 c2 (by decide) rfl (by decide +kernel) ?_ ?_
  · exact fun g9 => (PW_sub (ls' := [(9, 0), (0, x1)]) ⟨Or.inl rfl, Or.inr rfl, trivial⟩ (h1 g9))
  · exact fun g9 => (PW_sub (ls' := [(0, x0)]) ⟨Or.inr rfl, trivial⟩ (h2 g9))
theorem S_J9_min_7cf53_5 {X : CX} {d : Nat} {x0 : Int} {I R : PF} {Q : PV → PF → PF → Prop} (h : PN X d mJ9_min_7cf53 10 [] [(0, x0)] I R Q) : PN X d mJ9_min_7cf53 5 [(0, x0)] [] I R Q := by
  refine P_iload_n (n := 0) (q := 6) rfl rfl (by decide +kernel) ?_
  refine P_goto (off := 4) (t := 10) (by decide) (by decide +kernel) ?_
  exact (PW_sub (ls' := []) trivial h)
theorem S_J9_min_7cf53_9 {X : CX} {d : Nat} {x1 : Int} {I R : PF} {Q : PV → PF → PF → Prop} (h : PN X d mJ9_min_7cf53 10 [] [(0, x1)] I R Q) : PN X d mJ9_min_7cf53 9 [(9, 0), (0, x1)] [] I R Q := by
  refine P_iload_n (n := 1) (q := 10) rfl rfl (by decide +kernel) ?_
  exact (PW_sub (ls' := []) trivial h)
theorem S_J9_min_7cf53_10 {X : CX} {d : Nat} {o0 : Int} {I R : PF} {Q : PV → PF → PF → Prop} (h : Q (0, o0) I R) : PN X d mJ9_min_7cf53 10 [] [(0, o0)] I R Q := by
  refine P_iret rfl (by decide +kernel) h
theorem S_J9_min_f86c9_0 {X : CX} {d : Nat} {y0 y2 : Int} {I R : PF} {Q : PV → PF → PF → Prop} (c1 : -9223372036854775808 ≤ y0 ∧ y0 < 9223372036854775808) (c2 : -9223372036854775808 ≤ y2 ∧ y2 < 9223372036854775808) (h1 : y2 < y0 → PN X d mJ9_min_f86c9 10 [(9, 0), (9, 0), (1, y2)] [] I R Q) (h2 : y0 ≤ y2 → PN X d mJ9_min_f86c9 6 [(1, y0)] [] I R Q) : PN X d mJ9_min_f86c9 0 [(1, y0), (9, 0), (1, y2)] [] I R Q := by
  refine P_lload_n (n := 0) (q := 1) rfl rfl (by decide +kernel) ?_
  refine P_lload_n (n := 2) (q := 2) rfl rfl (by decide +kernel) ?_
  refine B_lif_gt (off := 7) (t := 10) (q1 := 3) (q := 6) c1 c2 rfl (by decide +kernel) (by decide) rfl (by decide +kernel) ?_ ?_
  · exact fun g9 => (PW_sub (ls' := [(9, 0), (9, 0), (1, y2)]) ⟨Or.inl rfl, Or.inl rfl, Or.inr rfl, trivial⟩ (h1 g9))
  · exact fun g9 => (PW_sub (ls' := [(1, y0)]) ⟨Or.inr rfl, trivial⟩ (h2 g9))
theorem S_J9_min_f86c9_6 {X : CX} {d : Nat} {y0 : Int} {I R : PF} {Q : PV → PF → PF → Prop} (h : PN X d mJ9_min_f86c9 11 [] [(1, y0)] I R Q) : PN X d mJ9_min_f86c9 6 [(1, y0)] [] I R Q := by
  refine P_lload_n (n := 0) (q := 7) rfl rfl (by decide +kernel) ?_
  refine P_goto (off := 4) (t := 11) (by decide) (by decide +kernel) ?_
  exact (PW_sub (ls' := []) trivial h)
theorem S_J9_min_f86c9_10 {X : CX} {d : Nat} {y2 : Int} {I R : PF} {Q : PV → PF → PF → Prop} (h : PN X d mJ9_min_f86c9 11 [] [(1, y2)] I R Q) : PN X d mJ9_min_f86c9 10 [(9, 0), (9, 0), (1, y2)] [] I R Q := by
  refine P_lload_n (n := 2) (q := 11) rfl rfl (by decide +kernel) ?_
  exact (PW_sub (ls' := []) trivial h)
theorem S_J9_min_f86c9_11 {X : CX} {d : Nat} {v0 : Int} {I R : PF} {Q : PV → PF → PF → Prop} (h : Q (1, v0) I R) : PN X d mJ9_min_f86c9 11 [] [(1, v0)] I R Q := by
  refine P_lret rfl (by decide +kernel) h
theorem S_J7_fill_53178_0 {X : CX} {d : Nat} {a0 x1 : Int} {I R : PF} {Q : PV → PF → PF → Prop} (k1 : kd MF a0 = 12) (n1 : (ln MF a0 : Int) < 2147483648) (h : PN X d mJ7_fill_53178 5 [(2, a0), (0, x1), (0, 0), (0, (ln MF a0 : Int))] [] I R Q) : PN X d mJ7_fill_53178 0 [(2, a0), (0, x1)] [] I R Q := by
  refine P_iconst (n := 0) (q := 1) rfl (by decide +kernel) ?_
  refine P_istore_n (n := 2) (by decide) (q := 2) rfl (by decide +kernel) ?_
  refine P_aload_n (n := 0) (q := 3) rfl rfl (by decide +kernel) ?_
  refine B_alen (q := 4) k1 rfl (by decide) n1 rfl (by decide +kernel) ?_
  refine P_istore_n (n := 3) (by decide) (q := 5) rfl (by decide +kernel) ?_
  exact h
theorem S_J7_fill_53178_5 {X : CX} {d : Nat} {a0 x1 x2 x3 : Int} {I R : PF} {Q : PV → PF → PF → Prop} (c1 : -2147483648 ≤ x2 ∧ x2 < 2147483648) (c2 : -2147483648 ≤ x3 ∧ x3 < 2147483648) (h1 : x3 ≤ x2 → PN X d mJ7_fill_53178 20 [] [] I R Q) (h2 : x2 < x3 → PN X d mJ7_fill_53178 10 [(2, a0), (0, x1), (0, x2), (0, x3)] [] I R Q) : PN X d mJ7_fill_53178 5 [(2, a0), (0, x1), (0, x2), (0, x3)] [] I R Q := by
  refine P_iload_n (n := 2) (q := 6) rfl rfl (by decide +kernel) ?_
  refine P_iload_n (n := 3) (q := 7) rfl rfl (by decide +kernel) ?_
  refine B_icmp_ge (off := 13) (t := 20) (q := 10) c1 c2 (by decide) rfl (by decide +kernel) ?_ ?_
  · exact fun g9 => (PW_sub (ls' := []) trivial (h1 g9))
  · exact fun g9 => (h2 g9)
theorem S_J7_fill_53178_10 {X : CX} {d : Nat} {a0 x1 x2 x3 : Int} {I R : PF} {Q : PV → PF → PF → Prop} (k1 : kd MF a0 = 12) (b1 : (0 : Int) ≤ x2 ∧ x2 < (ln MF a0 : Int)) (n1 : (ln MF a0 : Int) < 2147483648) (h : PN X d mJ7_fill_53178 5 [(2, a0), (0, x1), (0, (x2 + 1)), (0, x3)] [] (u2 I a0 x2 x1) R Q) : PN X d mJ7_fill_53178 10 [(2, a0), (0, x1), (0, x2), (0, x3)] [] I R Q := by
  refine P_aload_n (n := 0) (q := 11) rfl rfl (by decide +kernel) ?_
  refine P_iload_n (n := 2) (q := 12) rfl rfl (by decide +kernel) ?_
  refine P_iload_n (n := 1) (q := 13) rfl rfl (by decide +kernel) ?_
  refine B_iastore (q := 14) k1 rfl n1 b1 rfl (by decide +kernel) ?_
  refine P_iinc (n := 2) (a := 1) (by decide) rfl (q := 17) rfl (by decide +kernel) ?_
  refine P_goto (off := (-12)) (t := 5) (by decide) (by decide +kernel) ?_
  exact h
theorem S_J7_fill_53178_20 {X : CX} {d : Nat} {I R : PF} {Q : PV → PF → PF → Prop} (h : Q (9, 0) I R) : PN X d mJ7_fill_53178 20 [] [] I R Q := by
  refine P_vret rfl (by decide +kernel) h
theorem S_X0_draw_0 {X : CX} {d : Nat} {x1 : Int} {I R : PF} {Q : PV → PF → PF → Prop} (c1 : -2147483648 ≤ x1 ∧ x1 < 2147483648) (h1 : 1 ≤ x1 → PN X d mX0_draw 29 [(2, 303), (0, x1)] [] (u2 I 303 0 ((Int64.ofInt ((1103515245 * (I 303 0)) + 12345) &&& Int64.ofInt 2147483647).toInt)) R Q) (h2 : x1 < 1 → PN X d mX0_draw 25 [] [] (u2 I 303 0 ((Int64.ofInt ((1103515245 * (I 303 0)) + 12345) &&& Int64.ofInt 2147483647).toInt)) R Q) : PN X d mX0_draw 0 [(2, 303), (0, x1)] [] I R Q := by
  refine P_aload_n (n := 0) (q := 1) rfl rfl (by decide +kernel) ?_
  refine P_ldc2 (ix := 17) (v := 1103515245) (x := 1103515245) (q := 4) rfl (tGp4 106 rfl rfl) rfl (by decide +kernel) ?_
  refine P_aload_n (n := 0) (q := 5) rfl rfl (by decide +kernel) ?_
  refine P_getf (q := 8) fX0_7 kM303 rfl (by decide +kernel) ?_
  refine P_lmul (q := 9) rfl (by decide +kernel) ?_
  refine P_ldc2 (ix := 19) (v := 12345) (x := 12345) (q := 12) rfl (tGp4 107 rfl rfl) rfl (by decide +kernel) ?_
  refine P_ladd (q := 13) rfl (by decide +kernel) ?_
  refine P_ldc2 (ix := 21) (v := 2147483647) (x := 2147483647) (q := 16) rfl (tGp4 108 rfl rfl) rfl (by decide +kernel) ?_
  refine P_land (q := 17) rfl (by decide +kernel) ?_
  refine P_putL (q := 20) wX0_7 (fun h => by cases h) kM303 rfl (by decide +kernel) ?_
  refine P_iload_n (n := 1) (q := 21) rfl rfl (by decide +kernel) ?_
  refine P_iconst (n := 1) (q := 22) rfl (by decide +kernel) ?_
  refine B_icmp_ge (off := 7) (t := 29) (q := 25) c1 ⟨by decide, by decide⟩ (by decide) rfl (by decide +kernel) ?_ ?_
  · exact fun g9 => (h1 g9)
  · exact fun g9 => (PW_sub (ls' := []) trivial (h2 g9))
theorem S_X0_draw_25 {X : CX} {d : Nat} {I R : PF} {Q : PV → PF → PF → Prop} (h : PN X d mX0_draw 41 [] [(0, 0)] I R Q) : PN X d mX0_draw 25 [] [] I R Q := by
  refine P_iconst (n := 0) (q := 26) rfl (by decide +kernel) ?_
  refine P_goto (off := 15) (t := 41) (by decide) (by decide +kernel) ?_
  exact (PW_sub (ls' := []) trivial h)
theorem S_X0_draw_29 {X : CX} {d : Nat} {x1 : Int} {I R : PF} {Q : PV → PF → PF → Prop} (c1 : -9223372036854775808 ≤ (I 303 0) ∧ (I 303 0) < 9223372036854775808) (c2 : -2147483648 ≤ x1 ∧ x1 < 2147483648) (f1 : x1 ≠ 0) (c3 : -9223372036854775808 ≤ ((I 303 0).tdiv 64) ∧ ((I 303 0).tdiv 64) < 9223372036854775808) (c4 : -9223372036854775808 ≤ x1 ∧ x1 < 9223372036854775808) (h : PN X d mX0_draw 41 [] [(0, (((I 303 0).tdiv 64).tmod x1))] I R Q) : PN X d mX0_draw 29 [(2, 303), (0, x1)] [] I R Q := by
  refine P_aload_n (n := 0) (q := 30) rfl rfl (by decide +kernel) ?_
  refine P_getf (q := 33) fX0_7 kM303 rfl (by decide +kernel) ?_
  refine P_ldc2 (ix := 23) (v := 64) (x := 64) (q := 36) rfl (tGp4 109 rfl rfl) rfl (by decide +kernel) ?_
  refine B_ldiv (q := 37) c1 ⟨by decide, by decide⟩ (by decide) rfl (by decide +kernel) ?_
  refine P_iload_n (n := 1) (q := 38) rfl rfl (by decide +kernel) ?_
  refine B_i2l (q := 39) c2 rfl (by decide +kernel) ?_
  refine B_lrem (q := 40) c3 c4 f1 rfl (by decide +kernel) ?_
  refine P_l2i (q := 41) rfl (by decide +kernel) ?_
  exact (PW_sub (ls' := []) trivial h)
theorem S_X0_draw_41 {X : CX} {d : Nat} {o0 : Int} {I R : PF} {Q : PV → PF → PF → Prop} (h : Q (0, o0) I R) : PN X d mX0_draw 41 [] [(0, o0)] I R Q := by
  refine P_iret rfl (by decide +kernel) h
theorem S_X1_catcher_0 {X : CX} {d : Nat} {I R : PF} {Q : PV → PF → PF → Prop} (h : PN X d mX1_catcher 9 [(2, 127), (0, (-1)), (0, 0), (0, 0), (0, 0)] [] I R Q) : PN X d mX1_catcher 0 [(2, 127)] [] I R Q := by
  refine P_iconst (n := (-1)) (q := 1) rfl (by decide +kernel) ?_
  refine P_istore_n (n := 1) (by decide) (q := 2) rfl (by decide +kernel) ?_
  refine P_iconst (n := 0) (q := 3) rfl (by decide +kernel) ?_
  refine P_istore_n (n := 2) (by decide) (q := 4) rfl (by decide +kernel) ?_
  refine P_iconst (n := 0) (q := 5) rfl (by decide +kernel) ?_
  refine P_istore_n (n := 3) (by decide) (q := 6) rfl (by decide +kernel) ?_
  refine P_iconst (n := 0) (q := 7) rfl (by decide +kernel) ?_
  refine P_istore (n := 4) (by decide) (q := 9) rfl (by decide +kernel) ?_
  exact h
theorem S_X1_catcher_9 {X : CX} {d : Nat} {x1 x2 x3 x4 t1 : Int} {I R : PF} {Q : PV → PF → PF → Prop} (r1 : R 127 1 = t1) (k1 : kd MF t1 = 8) (c1 : -2147483648 ≤ x4 ∧ x4 < 2147483648) (c2 : -2147483648 ≤ (I t1 3) ∧ (I t1 3) < 2147483648) (h1 : (I t1 3) ≤ x4 → PN X d mX1_catcher 236 [(9, 0), (0, x1)] [] I R Q) (h2 : x4 < (I t1 3) → PN X d mX1_catcher 21 [(2, 127), (0, x1), (0, x2), (0, x3), (0, x4)] [] I R Q) : PN X d mX1_catcher 9 [(2, 127), (0, x1), (0, x2), (0, x3), (0, x4)] [] I R Q := by
  refine P_iload (n := 4) (q := 11) rfl rfl (by decide +kernel) ?_
  refine P_aload_n (n := 0) (q := 12) rfl rfl (by decide +kernel) ?_
  refine B_getfR (q := 15) fX1_60 kM127 r1 rfl (by decide +kernel) ?_
  refine P_getf (q := 18) fX1_136 k1 rfl (by decide +kernel) ?_
  refine B_icmp_ge (off := 218) (t := 236) (q := 21) c1 c2 (by decide) rfl (by decide +kernel) ?_ ?_
  · exact fun g9 => (PW_sub (ls' := [(9, 0), (0, x1)]) ⟨Or.inl rfl, Or.inr rfl, trivial⟩ (h1 g9))
  · exact fun g9 => (h2 g9)
theorem S_X1_catcher_21 {X : CX} {d d1 : Nat} {x1 x2 x3 x4 t1 : Int} {I R : PF} {Q Q1 : PV → PF → PF → Prop} (hs : Shp R) (r1 : R 127 1 = t1) (k1 : kd MF t1 = 8) (b1 : (0 : Int) ≤ x4 ∧ x4 < 6) (e1 : d1 + 1 ≤ d) (hc : CN X d1 mX1_farFromHat [(2, 127), (0, (I 128 x4)), (0, (I 129 x4))] I R Q1) (h : ∀ z I2 R2, Q1 (0, z) I2 R2 → PN X d mX1_catcher 53 [(2, 127), (0, x1), (0, x2), (0, x3), (0, x4), (0, (I (t1 + 2 + x4) 2))] [(0, z)] I2 R2 Q) : PN X d mX1_catcher 21 [(2, 127), (0, x1), (0, x2), (0, x3), (0, x4)] [] I R Q := by
  refine P_aload_n (n := 0) (q := 22) rfl rfl (by decide +kernel) ?_
  refine B_getfR (q := 25) fX1_60 kM127 r1 rfl (by decide +kernel) ?_
  refine B_getfR (q := 28) fX1_154 k1 (sh8_4 hs k1) rfl (by decide +kernel) ?_
  refine P_iload (n := 4) (q := 30) rfl rfl (by decide +kernel) ?_
  refine B_aaloadI (q := 31) (st1 k1) (st1n k1) (by decide) b1 (sh8_r hs k1 b1.1 b1.2) rfl (by decide +kernel) ?_
  refine P_iconst (n := 2) (q := 32) rfl (by decide +kernel) ?_
  refine B_iaload (q := 33) (stR k1 b1.1 b1.2).1 (stR k1 b1.1 b1.2).2 (by decide) ⟨by decide, by decide⟩ rfl (by decide +kernel) ?_
  refine P_istore (n := 5) (by decide) (q := 35) rfl (by decide +kernel) ?_
  refine P_aload_n (n := 0) (q := 36) rfl rfl (by decide +kernel) ?_
  refine P_aload_n (n := 0) (q := 37) rfl rfl (by decide +kernel) ?_
  refine B_getfR (q := 40) fX1_31 kM127 (rM127_8 hs) rfl (by decide +kernel) ?_
  refine P_iload (n := 4) (q := 42) rfl rfl (by decide +kernel) ?_
  refine B_iaload (q := 43) kM128 nM128 (by decide) b1 rfl (by decide +kernel) ?_
  refine P_aload_n (n := 0) (q := 44) rfl rfl (by decide +kernel) ?_
  refine B_getfR (q := 47) fX1_35 kM127 (rM127_9 hs) rfl (by decide +kernel) ?_
  refine P_iload (n := 4) (q := 49) rfl rfl (by decide +kernel) ?_
  refine B_iaload (q := 50) kM129 nM129 (by decide) b1 rfl (by decide +kernel) ?_
  refine P_invV (As := [(0, (I 128 x4)), (0, (I 129 x4))]) (q := 53) oX1_farFromHat rfl kM127 kX1_187 e1 hMF (Nat.le_of_ble_eq_true rfl) hc rfl (by decide +kernel) (fun z I2 R2 hq => ?_)
  exact (h z I2 R2 hq)
theorem S_X1_catcher_53 {X : CX} {d : Nat} {x1 x2 x3 x4 x5 o0 : Int} {I R : PF} {Q : PV → PF → PF → Prop} (c1 : -2147483648 ≤ x1 ∧ x1 < 2147483648) (h1 : x1 = (-1) → PN X d mX1_catcher 78 [(2, 127), (0, x1), (0, x2), (0, x3), (0, x4), (0, x5), (0, o0)] [] I R Q) (h2 : x1 ≠ (-1) → PN X d mX1_catcher 60 [(2, 127), (0, x1), (0, x2), (0, x3), (0, x4), (0, x5), (0, o0)] [] I R Q) : PN X d mX1_catcher 53 [(2, 127), (0, x1), (0, x2), (0, x3), (0, x4), (0, x5)] [(0, o0)] I R Q := by
  refine P_istore (n := 6) (by decide) (q := 55) rfl (by decide +kernel) ?_
  refine P_iload_n (n := 1) (q := 56) rfl rfl (by decide +kernel) ?_
  refine P_iconst (n := (-1)) (q := 57) rfl (by decide +kernel) ?_
  refine B_icmp_eq (off := 21) (t := 78) (q := 60) c1 ⟨by decide, by decide⟩ (by decide) rfl (by decide +kernel) ?_ ?_
  · exact fun g9 => (h1 g9)
  · exact fun g9 => (h2 g9)
theorem S_X1_catcher_60 {X : CX} {d : Nat} {x1 x2 x3 x4 x5 x6 : Int} {I R : PF} {Q : PV → PF → PF → Prop} (c1 : -2147483648 ≤ x5 ∧ x5 < 2147483648) (c2 : -2147483648 ≤ x2 ∧ x2 < 2147483648) (h1 : x2 < x5 → PN X d mX1_catcher 78 [(2, 127), (0, x1), (0, x2), (0, x3), (0, x4), (0, x5), (0, x6)] [] I R Q) (h2 : x5 ≤ x2 → PN X d mX1_catcher 66 [(2, 127), (0, x1), (0, x2), (0, x3), (0, x4), (0, x5), (0, x6)] [] I R Q) : PN X d mX1_catcher 60 [(2, 127), (0, x1), (0, x2), (0, x3), (0, x4), (0, x5), (0, x6)] [] I R Q := by
  refine P_iload (n := 5) (q := 62) rfl rfl (by decide +kernel) ?_
  refine P_iload_n (n := 2) (q := 63) rfl rfl (by decide +kernel) ?_
  refine B_icmp_gt (off := 15) (t := 78) (q := 66) c1 c2 (by decide) rfl (by decide +kernel) ?_ ?_
  · exact fun g9 => (h1 g9)
  · exact fun g9 => (h2 g9)
theorem S_X1_catcher_66 {X : CX} {d : Nat} {x1 x2 x3 x4 x5 x6 : Int} {I R : PF} {Q : PV → PF → PF → Prop} (c1 : -2147483648 ≤ x5 ∧ x5 < 2147483648) (c2 : -2147483648 ≤ x2 ∧ x2 < 2147483648) (h1 : x5 ≠ x2 → PN X d mX1_catcher 82 [(2, 127), (0, x1), (0, x2), (0, x3), (0, x4), (0, x5), (0, x6)] [] I R Q) (h2 : x5 = x2 → PN X d mX1_catcher 72 [(2, 127), (0, x1), (0, x2), (0, x3), (0, x4), (0, x5), (0, x6)] [] I R Q) : PN X d mX1_catcher 66 [(2, 127), (0, x1), (0, x2), (0, x3), (0, x4), (0, x5), (0, x6)] [] I R Q := by
  refine P_iload (n := 5) (q := 68) rfl rfl (by decide +kernel) ?_
  refine P_iload_n (n := 2) (q := 69) rfl rfl (by decide +kernel) ?_
  refine B_icmp_ne (off := 13) (t := 82) (q := 72) c1 c2 (by decide) rfl (by decide +kernel) ?_ ?_
  · exact fun g9 => (h1 g9)
  · exact fun g9 => (h2 g9)
theorem S_X1_catcher_72 {X : CX} {d : Nat} {x1 x2 x3 x4 x5 x6 : Int} {I R : PF} {Q : PV → PF → PF → Prop} (c1 : -2147483648 ≤ x6 ∧ x6 < 2147483648) (c2 : -2147483648 ≤ x3 ∧ x3 < 2147483648) (h1 : x3 ≤ x6 → PN X d mX1_catcher 82 [(2, 127), (0, x1), (0, x2), (0, x3), (0, x4), (0, x5), (0, x6)] [] I R Q) (h2 : x6 < x3 → PN X d mX1_catcher 78 [(2, 127), (0, x1), (0, x2), (0, x3), (0, x4), (0, x5), (0, x6)] [] I R Q) : PN X d mX1_catcher 72 [(2, 127), (0, x1), (0, x2), (0, x3), (0, x4), (0, x5), (0, x6)] [] I R Q := by
  refine P_iload (n := 6) (q := 74) rfl rfl (by decide +kernel) ?_
  refine P_iload_n (n := 3) (q := 75) rfl rfl (by decide +kernel) ?_
  refine B_icmp_ge (off := 7) (t := 82) (q := 78) c1 c2 (by decide) rfl (by decide +kernel) ?_ ?_
  · exact fun g9 => (h1 g9)
  · exact fun g9 => (h2 g9)
theorem S_X1_catcher_78 {X : CX} {d : Nat} {x1 x2 x3 x4 x5 x6 : Int} {I R : PF} {Q : PV → PF → PF → Prop} (h : PN X d mX1_catcher 83 [(2, 127), (0, x1), (0, x2), (0, x3), (0, x4), (0, x5), (0, x6)] [(0, 1)] I R Q) : PN X d mX1_catcher 78 [(2, 127), (0, x1), (0, x2), (0, x3), (0, x4), (0, x5), (0, x6)] [] I R Q := by
  refine P_iconst (n := 1) (q := 79) rfl (by decide +kernel) ?_
  refine P_goto (off := 4) (t := 83) (by decide) (by decide +kernel) ?_
  exact h
theorem S_X1_catcher_82 {X : CX} {d : Nat} {x1 x2 x3 x4 x5 x6 : Int} {I R : PF} {Q : PV → PF → PF → Prop} (h : PN X d mX1_catcher 83 [(2, 127), (0, x1), (0, x2), (0, x3), (0, x4), (0, x5), (0, x6)] [(0, 0)] I R Q) : PN X d mX1_catcher 82 [(2, 127), (0, x1), (0, x2), (0, x3), (0, x4), (0, x5), (0, x6)] [] I R Q := by
  refine P_iconst (n := 0) (q := 83) rfl (by decide +kernel) ?_
  exact h
theorem S_X1_catcher_83 {X : CX} {d : Nat} {x1 x2 x3 x4 x5 x6 o0 : Int} {I R : PF} {Q : PV → PF → PF → Prop} (c1 : -2147483648 ≤ o0 ∧ o0 < 2147483648) (h1 : o0 = 0 → PN X d mX1_catcher 191 [(2, 127), (0, x1), (0, x2), (0, x3), (0, x4), (0, x5), (0, x6), (0, o0), (0, ((10 * x4) + (I 127 5)))] [] I R Q) (h2 : o0 ≠ 0 → PN X d mX1_catcher 102 [(2, 127), (0, x1), (0, x2), (0, x3), (0, x4), (0, x5), (0, x6), (0, o0), (0, ((10 * x4) + (I 127 5)))] [] I R Q) : PN X d mX1_catcher 83 [(2, 127), (0, x1), (0, x2), (0, x3), (0, x4), (0, x5), (0, x6)] [(0, o0)] I R Q := by
  refine P_istore (n := 7) (by decide) (q := 85) rfl (by decide +kernel) ?_
  refine P_bipush (n := 10) (q := 87) rfl rfl (by decide +kernel) ?_
  refine P_iload (n := 4) (q := 89) rfl rfl (by decide +kernel) ?_
  refine P_imul (q := 90) rfl (by decide +kernel) ?_
  refine P_aload_n (n := 0) (q := 91) rfl rfl (by decide +kernel) ?_
  refine P_getf (q := 94) fX1_22 kM127 rfl (by decide +kernel) ?_
  refine P_iadd (q := 95) rfl (by decide +kernel) ?_
  refine P_istore (n := 8) (by decide) (q := 97) rfl (by decide +kernel) ?_
  refine P_iload (n := 7) (q := 99) rfl rfl (by decide +kernel) ?_
  refine B_if_eq (off := 92) (t := 191) (q := 102) c1 (by decide) rfl (by decide +kernel) ?_ ?_
  · exact fun g9 => (h1 g9)
  · exact fun g9 => (h2 g9)
theorem S_X1_catcher_102 {X : CX} {d : Nat} {x1 x2 x3 x4 x5 x6 x7 x8 : Int} {I R : PF} {Q : PV → PF → PF → Prop} (c1 : -2147483648 ≤ x6 ∧ x6 < 2147483648) (h1 : 1 < x6 → PN X d mX1_catcher 191 [(2, 127), (0, x1), (0, x2), (0, x3), (0, x4), (0, x5), (0, x6), (0, x7), (0, x8)] [] I R Q) (h2 : x6 ≤ 1 → PN X d mX1_catcher 108 [(2, 127), (0, x1), (0, x2), (0, x3), (0, x4), (0, x5), (0, x6), (0, x7), (0, x8)] [] I R Q) : PN X d mX1_catcher 102 [(2, 127), (0, x1), (0, x2), (0, x3), (0, x4), (0, x5), (0, x6), (0, x7), (0, x8)] [] I R Q := by
  refine P_iload (n := 6) (q := 104) rfl rfl (by decide +kernel) ?_
  refine P_iconst (n := 1) (q := 105) rfl (by decide +kernel) ?_
  refine B_icmp_gt (off := 86) (t := 191) (q := 108) c1 ⟨by decide, by decide⟩ (by decide) rfl (by decide +kernel) ?_ ?_
  · exact fun g9 => (h1 g9)
  · exact fun g9 => (h2 g9)
theorem S_X1_catcher_108 {X : CX} {d : Nat} {x1 x2 x3 x4 x5 x6 x7 x8 : Int} {I R : PF} {Q : PV → PF → PF → Prop} (c1 : -2147483648 ≤ x5 ∧ x5 < 2147483648) (c2 : -2147483648 ≤ (I 127 5) ∧ (I 127 5) < 2147483648) (h1 : x5 < (I 127 5) → PN X d mX1_catcher 191 [(2, 127), (0, x1), (0, x2), (0, x3), (0, x4), (0, x5), (0, x6), (0, x7), (0, x8)] [] I R Q) (h2 : (I 127 5) ≤ x5 → PN X d mX1_catcher 117 [(2, 127), (0, x1), (0, x2), (0, x3), (0, x4), (0, x5), (0, x6), (0, x7), (0, x8)] [] I R Q) : PN X d mX1_catcher 108 [(2, 127), (0, x1), (0, x2), (0, x3), (0, x4), (0, x5), (0, x6), (0, x7), (0, x8)] [] I R Q := by
  refine P_iload (n := 5) (q := 110) rfl rfl (by decide +kernel) ?_
  refine P_aload_n (n := 0) (q := 111) rfl rfl (by decide +kernel) ?_
  refine P_getf (q := 114) fX1_22 kM127 rfl (by decide +kernel) ?_
  refine B_icmp_lt (off := 77) (t := 191) (q := 117) c1 c2 (by decide) rfl (by decide +kernel) ?_ ?_
  · exact fun g9 => (h1 g9)
  · exact fun g9 => (h2 g9)
theorem S_X1_catcher_117 {X : CX} {d : Nat} {x1 x2 x3 x4 x5 x6 x7 x8 : Int} {I R : PF} {Q : PV → PF → PF → Prop} (hs : Shp R) (b1 : (0 : Int) ≤ x8 ∧ x8 < 60) (c1 : -2147483648 ≤ (I 133 x8) ∧ (I 133 x8) < 2147483648) (h1 : (I 133 x8) ≠ (-2) → PN X d mX1_catcher 191 [(2, 127), (0, x1), (0, x2), (0, x3), (0, x4), (0, x5), (0, x6), (0, x7), (0, x8)] [] I R Q) (h2 : (I 133 x8) = (-2) → PN X d mX1_catcher 129 [(2, 127), (0, x1), (0, x2), (0, x3), (0, x4), (0, x5), (0, x6), (0, x7), (0, x8)] [] I R Q) : PN X d mX1_catcher 117 [(2, 127), (0, x1), (0, x2), (0, x3), (0, x4), (0, x5), (0, x6), (0, x7), (0, x8)] [] I R Q := by
  refine P_aload_n (n := 0) (q := 118) rfl rfl (by decide +kernel) ?_
  refine B_getfR (q := 121) fX1_47 kM127 (rM127_13 hs) rfl (by decide +kernel) ?_
  refine P_iload (n := 8) (q := 123) rfl rfl (by decide +kernel) ?_
  refine B_iaload (q := 124) kM133 nM133 (by decide) b1 rfl (by decide +kernel) ?_
  refine P_bipush (n := (-2)) (q := 126) rfl rfl (by decide +kernel) ?_
  refine B_icmp_ne (off := 65) (t := 191) (q := 129) c1 ⟨by decide, by decide⟩ (by decide) rfl (by decide +kernel) ?_ ?_
  · exact fun g9 => (h1 g9)
  · exact fun g9 => (h2 g9)
theorem S_X1_catcher_129 {X : CX} {d d1 : Nat} {x1 x2 x3 x4 x5 x6 x7 x8 t1 : Int} {I R : PF} {Q Q1 : PV → PF → PF → Prop} (hs : Shp R) (r1 : R 127 1 = t1) (e1 : d1 + 1 ≤ d) (hc : CN X d1 mX8_tellFacts [(2, t1), (0, x4), (2, 131)] I R Q1) (k1 : kd MF t1 = 8) (h : ∀ z I2 R2, Q1 (9, z) I2 R2 → PN X d mX1_catcher 142 [(2, 127), (0, x1), (0, x2), (0, x3), (0, x4), (0, x5), (0, x6), (0, x7), (0, x8)] [] I2 R2 Q) : PN X d mX1_catcher 129 [(2, 127), (0, x1), (0, x2), (0, x3), (0, x4), (0, x5), (0, x6), (0, x7), (0, x8)] [] I R Q := by
  refine P_aload_n (n := 0) (q := 130) rfl rfl (by decide +kernel) ?_
  refine B_getfR (q := 133) fX1_60 kM127 r1 rfl (by decide +kernel) ?_
  refine P_iload (n := 4) (q := 135) rfl rfl (by decide +kernel) ?_
  refine P_aload_n (n := 0) (q := 136) rfl rfl (by decide +kernel) ?_
  refine B_getfR (q := 139) fX1_41 kM127 (rM127_11 hs) rfl (by decide +kernel) ?_
  refine P_invV (As := [(0, x4), (2, 131)]) (q := 142) oX8_tellFacts rfl k1 kX1_113 e1 hMF (Nat.le_of_ble_eq_true rfl) hc rfl (by decide +kernel) (fun z I2 R2 hq => ?_)
  exact (h z I2 R2 hq)
theorem S_X1_catcher_142 {X : CX} {d d1 : Nat} {x1 x2 x3 x4 x5 x6 x7 x8 t1 : Int} {I R : PF} {Q Q1 : PV → PF → PF → Prop} (hs : Shp R) (r1 : R 127 0 = t1) (k1 : kd MF t1 = 6) (e1 : d1 + 1 ≤ d) (hc : CN X d1 mX2_isTold [(2, (t1 + 8))] (u2 I 131 11 (I 127 5)) R Q1) (h : ∀ z I2 R2, Q1 (0, z) I2 R2 → PN X d mX1_catcher 169 [(2, 127), (0, x1), (0, x2), (0, x3), (0, x4), (0, x5), (0, x6), (0, x7), (0, x8)] [(0, z), (0, x8), (2, 133)] I2 R2 Q) : PN X d mX1_catcher 142 [(2, 127), (0, x1), (0, x2), (0, x3), (0, x4), (0, x5), (0, x6), (0, x7), (0, x8)] [] I R Q := by
  refine P_aload_n (n := 0) (q := 143) rfl rfl (by decide +kernel) ?_
  refine B_getfR (q := 146) fX1_41 kM127 (rM127_11 hs) rfl (by decide +kernel) ?_
  refine P_bipush (n := 11) (q := 148) rfl rfl (by decide +kernel) ?_
  refine P_aload_n (n := 0) (q := 149) rfl rfl (by decide +kernel) ?_
  refine P_getf (q := 152) fX1_22 kM127 rfl (by decide +kernel) ?_
  refine B_iastore (q := 153) kM131 nM131 (by decide) ⟨by decide, by decide⟩ rfl (by decide +kernel) ?_
  refine P_aload_n (n := 0) (q := 154) rfl rfl (by decide +kernel) ?_
  refine B_getfR (q := 157) fX1_47 kM127 (rM127_13 hs) rfl (by decide +kernel) ?_
  refine P_iload (n := 8) (q := 159) rfl rfl (by decide +kernel) ?_
  refine P_aload_n (n := 0) (q := 160) rfl rfl (by decide +kernel) ?_
  refine B_getfR (q := 163) fX1_56 kM127 r1 rfl (by decide +kernel) ?_
  refine B_getfR (q := 166) fX1_200 k1 (sh6_13 hs k1) rfl (by decide +kernel) ?_
  refine P_invV (As := []) (q := 169) oX2_isTold rfl (sq8 k1) kX1_203 e1 hMF (Nat.le_of_ble_eq_true rfl) hc rfl (by decide +kernel) (fun z I2 R2 hq => ?_)
  exact (h z I2 R2 hq)
theorem S_X1_catcher_169 {X : CX} {d : Nat} {x1 x2 x3 x4 x5 x6 x7 x8 o1 o2 : Int} {I R : PF} {Q : PV → PF → PF → Prop} (c1 : -2147483648 ≤ o2 ∧ o2 < 2147483648) (h1 : o2 = 0 → PN X d mX1_catcher 189 [(2, 127), (0, x1), (0, x2), (0, x3), (0, x4), (0, x5), (0, x6), (0, x7), (0, x8)] [(0, o1), (2, 133)] I R Q) (h2 : o2 ≠ 0 → PN X d mX1_catcher 172 [(2, 127), (0, x1), (0, x2), (0, x3), (0, x4), (0, x5), (0, x6), (0, x7), (0, x8)] [(0, o1), (2, 133)] I R Q) : PN X d mX1_catcher 169 [(2, 127), (0, x1), (0, x2), (0, x3), (0, x4), (0, x5), (0, x6), (0, x7), (0, x8)] [(0, o2), (0, o1), (2, 133)] I R Q := by
  refine B_if_eq (off := 20) (t := 189) (q := 172) c1 (by decide) rfl (by decide +kernel) ?_ ?_
  · exact fun g9 => (h1 g9)
  · exact fun g9 => (h2 g9)
theorem S_X1_catcher_172 {X : CX} {d d1 : Nat} {x1 x2 x3 x4 x5 x6 x7 x8 o1 t1 : Int} {I R : PF} {Q Q1 : PV → PF → PF → Prop} (hs : Shp R) (r1 : R 127 0 = t1) (k1 : kd MF t1 = 6) (e1 : d1 + 1 ≤ d) (hc : CN X d1 mX2_valueBy [(2, (t1 + 8)), (2, 131)] I R Q1) (h : ∀ z I2 R2, Q1 (0, z) I2 R2 → PN X d mX1_catcher 186 [(2, 127), (0, x1), (0, x2), (0, x3), (0, x4), (0, x5), (0, x6), (0, x7), (0, x8)] [(0, z), (0, o1), (2, 133)] I2 R2 Q) : PN X d mX1_catcher 172 [(2, 127), (0, x1), (0, x2), (0, x3), (0, x4), (0, x5), (0, x6), (0, x7), (0, x8)] [(0, o1), (2, 133)] I R Q := by
  refine P_aload_n (n := 0) (q := 173) rfl rfl (by decide +kernel) ?_
  refine B_getfR (q := 176) fX1_56 kM127 r1 rfl (by decide +kernel) ?_
  refine B_getfR (q := 179) fX1_200 k1 (sh6_13 hs k1) rfl (by decide +kernel) ?_
  refine P_aload_n (n := 0) (q := 180) rfl rfl (by decide +kernel) ?_
  refine B_getfR (q := 183) fX1_41 kM127 (rM127_11 hs) rfl (by decide +kernel) ?_
  refine P_invV (As := [(2, 131)]) (q := 186) oX2_valueBy rfl (sq8 k1) kX1_117 e1 hMF (Nat.le_of_ble_eq_true rfl) hc rfl (by decide +kernel) (fun z I2 R2 hq => ?_)
  exact (h z I2 R2 hq)
theorem S_X1_catcher_186 {X : CX} {d : Nat} {x1 x2 x3 x4 x5 x6 x7 x8 o1 o2 : Int} {I R : PF} {Q : PV → PF → PF → Prop} (h : PN X d mX1_catcher 190 [(2, 127), (0, x1), (0, x2), (0, x3), (0, x4), (0, x5), (0, x6), (0, x7), (0, x8)] [(0, o2), (0, o1), (2, 133)] I R Q) : PN X d mX1_catcher 186 [(2, 127), (0, x1), (0, x2), (0, x3), (0, x4), (0, x5), (0, x6), (0, x7), (0, x8)] [(0, o2), (0, o1), (2, 133)] I R Q := by
  refine P_goto (off := 4) (t := 190) (by decide) (by decide +kernel) ?_
  exact h
theorem S_X1_catcher_189 {X : CX} {d : Nat} {x1 x2 x3 x4 x5 x6 x7 x8 o1 : Int} {I R : PF} {Q : PV → PF → PF → Prop} (h : PN X d mX1_catcher 190 [(2, 127), (0, x1), (0, x2), (0, x3), (0, x4), (0, x5), (0, x6), (0, x7), (0, x8)] [(0, 1), (0, o1), (2, 133)] I R Q) : PN X d mX1_catcher 189 [(2, 127), (0, x1), (0, x2), (0, x3), (0, x4), (0, x5), (0, x6), (0, x7), (0, x8)] [(0, o1), (2, 133)] I R Q := by
  refine P_iconst (n := 1) (q := 190) rfl (by decide +kernel) ?_
  exact h
theorem S_X1_catcher_190 {X : CX} {d : Nat} {x1 x2 x3 x4 x5 x6 x7 x8 o1 o2 : Int} {I R : PF} {Q : PV → PF → PF → Prop} (b1 : (0 : Int) ≤ o1 ∧ o1 < 60) (h : PN X d mX1_catcher 191 [(2, 127), (0, x1), (0, x2), (0, x3), (0, x4), (0, x5), (0, x6), (0, x7), (0, x8)] [] (u2 I 133 o1 o2) R Q) : PN X d mX1_catcher 190 [(2, 127), (0, x1), (0, x2), (0, x3), (0, x4), (0, x5), (0, x6), (0, x7), (0, x8)] [(0, o2), (0, o1), (2, 133)] I R Q := by
  refine B_iastore (q := 191) kM133 nM133 (by decide) b1 rfl (by decide +kernel) ?_
  exact h
theorem S_X1_catcher_191 {X : CX} {d : Nat} {x1 x2 x3 x4 x5 x6 x7 x8 : Int} {I R : PF} {Q : PV → PF → PF → Prop} (c1 : -2147483648 ≤ x7 ∧ x7 < 2147483648) (h1 : x7 = 0 → PN X d mX1_catcher 230 [(2, 127), (0, x1), (0, x2), (0, x3), (0, x4)] [] I R Q) (h2 : x7 ≠ 0 → PN X d mX1_catcher 196 [(2, 127), (0, x1), (0, x2), (0, x3), (0, x4), (0, x5), (0, x6), (9, 0), (0, x8)] [] I R Q) : PN X d mX1_catcher 191 [(2, 127), (0, x1), (0, x2), (0, x3), (0, x4), (0, x5), (0, x6), (0, x7), (0, x8)] [] I R Q := by
  refine P_iload (n := 7) (q := 193) rfl rfl (by decide +kernel) ?_
  refine B_if_eq (off := 37) (t := 230) (q := 196) c1 (by decide) rfl (by decide +kernel) ?_ ?_
  · exact fun g9 => (PW_sub (ls' := [(2, 127), (0, x1), (0, x2), (0, x3), (0, x4)]) ⟨Or.inr rfl, Or.inr rfl, Or.inr rfl, Or.inr rfl, Or.inr rfl, trivial⟩ (h1 g9))
  · exact fun g9 => (PW_sub (ls' := [(2, 127), (0, x1), (0, x2), (0, x3), (0, x4), (0, x5), (0, x6), (9, 0), (0, x8)]) ⟨Or.inr rfl, Or.inr rfl, Or.inr rfl, Or.inr rfl, Or.inr rfl, Or.inr rfl, Or.inr rfl, Or.inl rfl, Or.inr rfl, trivial⟩ (h2 g9))
theorem S_X1_catcher_196 {X : CX} {d : Nat} {x1 x2 x3 x4 x5 x6 x8 : Int} {I R : PF} {Q : PV → PF → PF → Prop} (c1 : -2147483648 ≤ x6 ∧ x6 < 2147483648) (h1 : 1 < x6 → PN X d mX1_catcher 230 [(2, 127), (0, x1), (0, x2), (0, x3), (0, x4)] [] I R Q) (h2 : x6 ≤ 1 → PN X d mX1_catcher 202 [(2, 127), (0, x1), (0, x2), (0, x3), (0, x4), (0, x5), (0, x6), (9, 0), (0, x8)] [] I R Q) : PN X d mX1_catcher 196 [(2, 127), (0, x1), (0, x2), (0, x3), (0, x4), (0, x5), (0, x6), (9, 0), (0, x8)] [] I R Q := by
  refine P_iload (n := 6) (q := 198) rfl rfl (by decide +kernel) ?_
  refine P_iconst (n := 1) (q := 199) rfl (by decide +kernel) ?_
  refine B_icmp_gt (off := 31) (t := 230) (q := 202) c1 ⟨by decide, by decide⟩ (by decide) rfl (by decide +kernel) ?_ ?_
  · exact fun g9 => (PW_sub (ls' := [(2, 127), (0, x1), (0, x2), (0, x3), (0, x4)]) ⟨Or.inr rfl, Or.inr rfl, Or.inr rfl, Or.inr rfl, Or.inr rfl, trivial⟩ (h1 g9))
  · exact fun g9 => (h2 g9)
theorem S_X1_catcher_202 {X : CX} {d : Nat} {x1 x2 x3 x4 x5 x6 x8 : Int} {I R : PF} {Q : PV → PF → PF → Prop} (c1 : -2147483648 ≤ x5 ∧ x5 < 2147483648) (c2 : -2147483648 ≤ (I 127 5) ∧ (I 127 5) < 2147483648) (h1 : x5 < (I 127 5) → PN X d mX1_catcher 230 [(2, 127), (0, x1), (0, x2), (0, x3), (0, x4)] [] I R Q) (h2 : (I 127 5) ≤ x5 → PN X d mX1_catcher 211 [(2, 127), (0, x1), (0, x2), (0, x3), (0, x4), (0, x5), (0, x6), (9, 0), (0, x8)] [] I R Q) : PN X d mX1_catcher 202 [(2, 127), (0, x1), (0, x2), (0, x3), (0, x4), (0, x5), (0, x6), (9, 0), (0, x8)] [] I R Q := by
  refine P_iload (n := 5) (q := 204) rfl rfl (by decide +kernel) ?_
  refine P_aload_n (n := 0) (q := 205) rfl rfl (by decide +kernel) ?_
  refine P_getf (q := 208) fX1_22 kM127 rfl (by decide +kernel) ?_
  refine B_icmp_lt (off := 22) (t := 230) (q := 211) c1 c2 (by decide) rfl (by decide +kernel) ?_ ?_
  · exact fun g9 => (PW_sub (ls' := [(2, 127), (0, x1), (0, x2), (0, x3), (0, x4)]) ⟨Or.inr rfl, Or.inr rfl, Or.inr rfl, Or.inr rfl, Or.inr rfl, trivial⟩ (h1 g9))
  · exact fun g9 => (h2 g9)
theorem S_X1_catcher_211 {X : CX} {d : Nat} {x1 x2 x3 x4 x5 x6 x8 : Int} {I R : PF} {Q : PV → PF → PF → Prop} (hs : Shp R) (b1 : (0 : Int) ≤ x8 ∧ x8 < 60) (c1 : -2147483648 ≤ (I 133 x8) ∧ (I 133 x8) < 2147483648) (h1 : (I 133 x8) = 0 → PN X d mX1_catcher 230 [(2, 127), (0, x1), (0, x2), (0, x3), (0, x4)] [] I R Q) (h2 : (I 133 x8) ≠ 0 → PN X d mX1_catcher 221 [(2, 127), (9, 0), (9, 0), (9, 0), (0, x4), (0, x5), (0, x6)] [] I R Q) : PN X d mX1_catcher 211 [(2, 127), (0, x1), (0, x2), (0, x3), (0, x4), (0, x5), (0, x6), (9, 0), (0, x8)] [] I R Q := by
  refine P_aload_n (n := 0) (q := 212) rfl rfl (by decide +kernel) ?_
  refine B_getfR (q := 215) fX1_47 kM127 (rM127_13 hs) rfl (by decide +kernel) ?_
  refine P_iload (n := 8) (q := 217) rfl rfl (by decide +kernel) ?_
  refine B_iaload (q := 218) kM133 nM133 (by decide) b1 rfl (by decide +kernel) ?_
  refine B_if_eq (off := 12) (t := 230) (q := 221) c1 (by decide) rfl (by decide +kernel) ?_ ?_
  · exact fun g9 => (PW_sub (ls' := [(2, 127), (0, x1), (0, x2), (0, x3), (0, x4)]) ⟨Or.inr rfl, Or.inr rfl, Or.inr rfl, Or.inr rfl, Or.inr rfl, trivial⟩ (h1 g9))
  · exact fun g9 => (PW_sub (ls' := [(2, 127), (9, 0), (9, 0), (9, 0), (0, x4), (0, x5), (0, x6)]) ⟨Or.inr rfl, Or.inl rfl, Or.inl rfl, Or.inl rfl, Or.inr rfl, Or.inr rfl, Or.inr rfl, trivial⟩ (h2 g9))
theorem S_X1_catcher_221 {X : CX} {d : Nat} {x4 x5 x6 : Int} {I R : PF} {Q : PV → PF → PF → Prop} (h : PN X d mX1_catcher 230 [(2, 127), (0, x4), (0, x5), (0, x6), (0, x4)] [] I R Q) : PN X d mX1_catcher 221 [(2, 127), (9, 0), (9, 0), (9, 0), (0, x4), (0, x5), (0, x6)] [] I R Q := by
  refine P_iload (n := 4) (q := 223) rfl rfl (by decide +kernel) ?_
  refine P_istore_n (n := 1) (by decide) (q := 224) rfl (by decide +kernel) ?_
  refine P_iload (n := 5) (q := 226) rfl rfl (by decide +kernel) ?_
  refine P_istore_n (n := 2) (by decide) (q := 227) rfl (by decide +kernel) ?_
  refine P_iload (n := 6) (q := 229) rfl rfl (by decide +kernel) ?_
  refine P_istore_n (n := 3) (by decide) (q := 230) rfl (by decide +kernel) ?_
  exact (PW_sub (ls' := [(2, 127), (0, x4), (0, x5), (0, x6), (0, x4)]) ⟨Or.inr rfl, Or.inr rfl, Or.inr rfl, Or.inr rfl, Or.inr rfl, trivial⟩ h)
theorem S_X1_catcher_230 {X : CX} {d : Nat} {x1 x2 x3 x4 : Int} {I R : PF} {Q : PV → PF → PF → Prop} (h : PN X d mX1_catcher 9 [(2, 127), (0, x1), (0, x2), (0, x3), (0, (x4 + 1))] [] I R Q) : PN X d mX1_catcher 230 [(2, 127), (0, x1), (0, x2), (0, x3), (0, x4)] [] I R Q := by
  refine P_iinc (n := 4) (a := 1) (by decide) rfl (q := 233) rfl (by decide +kernel) ?_
  refine P_goto (off := (-224)) (t := 9) (by decide) (by decide +kernel) ?_
  exact (PW_sub (ls' := [(2, 127), (0, x1), (0, x2), (0, x3), (0, (x4 + 1))]) ⟨Or.inr rfl, Or.inr rfl, Or.inr rfl, Or.inr rfl, Or.inr rfl, trivial⟩ h)
theorem S_X1_catcher_236 {X : CX} {d : Nat} {x1 : Int} {I R : PF} {Q : PV → PF → PF → Prop} (h : Q (0, x1) I R) : PN X d mX1_catcher 236 [(9, 0), (0, x1)] [] I R Q := by
  refine P_iload_n (n := 1) (q := 237) rfl rfl (by decide +kernel) ?_
  refine P_iret rfl (by decide +kernel) h
theorem S_X1_countGot_0 {X : CX} {d : Nat} {x1 : Int} {I R : PF} {Q : PV → PF → PF → Prop} (h : PN X d mX1_countGot 4 [(2, 127), (0, x1), (0, 0), (0, 0)] [] I R Q) : PN X d mX1_countGot 0 [(2, 127), (0, x1)] [] I R Q := by
  refine P_iconst (n := 0) (q := 1) rfl (by decide +kernel) ?_
  refine P_istore_n (n := 2) (by decide) (q := 2) rfl (by decide +kernel) ?_
  refine P_iconst (n := 0) (q := 3) rfl (by decide +kernel) ?_
  refine P_istore_n (n := 3) (by decide) (q := 4) rfl (by decide +kernel) ?_
  exact h
theorem S_X1_countGot_4 {X : CX} {d : Nat} {x1 x2 x3 : Int} {I R : PF} {Q : PV → PF → PF → Prop} (c1 : -2147483648 ≤ x3 ∧ x3 < 2147483648) (h1 : 33 ≤ x3 → PN X d mX1_countGot 28 [(9, 0), (9, 0), (0, x2)] [] I R Q) (h2 : x3 < 33 → PN X d mX1_countGot 10 [(2, 127), (0, x1), (0, x2), (0, x3)] [] I R Q) : PN X d mX1_countGot 4 [(2, 127), (0, x1), (0, x2), (0, x3)] [] I R Q := by
  refine P_iload_n (n := 3) (q := 5) rfl rfl (by decide +kernel) ?_
  refine P_bipush (n := 33) (q := 7) rfl rfl (by decide +kernel) ?_
  refine B_icmp_ge (off := 21) (t := 28) (q := 10) c1 ⟨by decide, by decide⟩ (by decide) rfl (by decide +kernel) ?_ ?_
  · exact fun g9 => (PW_sub (ls' := [(9, 0), (9, 0), (0, x2)]) ⟨Or.inl rfl, Or.inl rfl, Or.inr rfl, trivial⟩ (h1 g9))
  · exact fun g9 => (h2 g9)
theorem S_X1_countGot_10 {X : CX} {d d1 : Nat} {x1 x2 x3 : Int} {I R : PF} {Q Q1 : PV → PF → PF → Prop} (e1 : d1 + 1 ≤ d) (hc : CN X d1 mX1_got [(2, 127), (0, x3)] I R Q1) (h : ∀ z I2 R2, Q1 (0, z) I2 R2 → PN X d mX1_countGot 15 [(2, 127), (0, x1), (0, x2), (0, x3)] [(0, z)] I2 R2 Q) : PN X d mX1_countGot 10 [(2, 127), (0, x1), (0, x2), (0, x3)] [] I R Q := by
  refine P_aload_n (n := 0) (q := 11) rfl rfl (by decide +kernel) ?_
  refine P_iload_n (n := 3) (q := 12) rfl rfl (by decide +kernel) ?_
  refine P_invV (As := [(0, x3)]) (q := 15) oX1_got rfl kM127 kX1_105 e1 hMF (Nat.le_of_ble_eq_true rfl) hc rfl (by decide +kernel) (fun z I2 R2 hq => ?_)
  exact (h z I2 R2 hq)
theorem S_X1_countGot_15 {X : CX} {d : Nat} {x1 x2 x3 o0 : Int} {I R : PF} {Q : PV → PF → PF → Prop} (c1 : -2147483648 ≤ o0 ∧ o0 < 2147483648) (c2 : -2147483648 ≤ x1 ∧ x1 < 2147483648) (h1 : o0 ≠ x1 → PN X d mX1_countGot 22 [(2, 127), (0, x1), (0, x2), (0, x3)] [] I R Q) (h2 : o0 = x1 → PN X d mX1_countGot 19 [(2, 127), (0, x1), (0, x2), (0, x3)] [] I R Q) : PN X d mX1_countGot 15 [(2, 127), (0, x1), (0, x2), (0, x3)] [(0, o0)] I R Q := by
  refine P_iload_n (n := 1) (q := 16) rfl rfl (by decide +kernel) ?_
  refine B_icmp_ne (off := 6) (t := 22) (q := 19) c1 c2 (by decide) rfl (by decide +kernel) ?_ ?_
  · exact fun g9 => (h1 g9)
  · exact fun g9 => (h2 g9)
theorem S_X1_countGot_19 {X : CX} {d : Nat} {x1 x2 x3 : Int} {I R : PF} {Q : PV → PF → PF → Prop} (h : PN X d mX1_countGot 22 [(2, 127), (0, x1), (0, (x2 + 1)), (0, x3)] [] I R Q) : PN X d mX1_countGot 19 [(2, 127), (0, x1), (0, x2), (0, x3)] [] I R Q := by
  refine P_iinc (n := 2) (a := 1) (by decide) rfl (q := 22) rfl (by decide +kernel) ?_
  exact h
theorem S_X1_countGot_22 {X : CX} {d : Nat} {x1 x2 x3 : Int} {I R : PF} {Q : PV → PF → PF → Prop} (h : PN X d mX1_countGot 4 [(2, 127), (0, x1), (0, x2), (0, (x3 + 1))] [] I R Q) : PN X d mX1_countGot 22 [(2, 127), (0, x1), (0, x2), (0, x3)] [] I R Q := by
  refine P_iinc (n := 3) (a := 1) (by decide) rfl (q := 25) rfl (by decide +kernel) ?_
  refine P_goto (off := (-21)) (t := 4) (by decide) (by decide +kernel) ?_
  exact h
theorem S_X1_countGot_28 {X : CX} {d : Nat} {x2 : Int} {I R : PF} {Q : PV → PF → PF → Prop} (h : Q (0, x2) I R) : PN X d mX1_countGot 28 [(9, 0), (9, 0), (0, x2)] [] I R Q := by
  refine P_iload_n (n := 2) (q := 29) rfl rfl (by decide +kernel) ?_
  refine P_iret rfl (by decide +kernel) h
theorem S_X1_farFromHat_0 {X : CX} {d d1 : Nat} {x1 x2 : Int} {I R : PF} {Q Q1 : PV → PF → PF → Prop} (e1 : d1 + 1 ≤ d) (hc : CN X d1 mJ9_abs_0f7a4 [(0, (x1 - (I 127 3)))] I R Q1) (h : ∀ z I2 R2, Q1 (0, z) I2 R2 → PN X d mX1_farFromHat 9 [(2, 127), (9, 0), (0, x2)] [(0, z)] I2 R2 Q) : PN X d mX1_farFromHat 0 [(2, 127), (0, x1), (0, x2)] [] I R Q := by
  refine P_iload_n (n := 1) (q := 1) rfl rfl (by decide +kernel) ?_
  refine P_aload_n (n := 0) (q := 2) rfl rfl (by decide +kernel) ?_
  refine P_getf (q := 5) fX1_15 kM127 rfl (by decide +kernel) ?_
  refine P_isub (q := 6) rfl (by decide +kernel) ?_
  refine P_invS (As := [(0, (x1 - (I 127 3)))]) (q := 9) oJ9_abs_0f7a4 rfl (Or.inl kX1_178) e1 hMF (Nat.le_of_ble_eq_true rfl) hc rfl (by decide +kernel) (fun z I2 R2 hq => ?_)
  exact (PW_sub (ls' := [(2, 127), (9, 0), (0, x2)]) ⟨Or.inr rfl, Or.inl rfl, Or.inr rfl, trivial⟩ (h z I2 R2 hq))
theorem S_X1_farFromHat_9 {X : CX} {d d1 : Nat} {x2 o0 : Int} {I R : PF} {Q Q1 : PV → PF → PF → Prop} (e1 : d1 + 1 ≤ d) (hc : CN X d1 mJ9_abs_0f7a4 [(0, (x2 - (I 127 4)))] I R Q1) (h : ∀ z I2 R2, Q1 (0, z) I2 R2 → PN X d mX1_farFromHat 18 [] [(0, z), (0, o0)] I2 R2 Q) : PN X d mX1_farFromHat 9 [(2, 127), (9, 0), (0, x2)] [(0, o0)] I R Q := by
  refine P_iload_n (n := 2) (q := 10) rfl rfl (by decide +kernel) ?_
  refine P_aload_n (n := 0) (q := 11) rfl rfl (by decide +kernel) ?_
  refine P_getf (q := 14) fX1_19 kM127 rfl (by decide +kernel) ?_
  refine P_isub (q := 15) rfl (by decide +kernel) ?_
  refine P_invS (As := [(0, (x2 - (I 127 4)))]) (q := 18) oJ9_abs_0f7a4 rfl (Or.inl kX1_178) e1 hMF (Nat.le_of_ble_eq_true rfl) hc rfl (by decide +kernel) (fun z I2 R2 hq => ?_)
  exact (PW_sub (ls' := []) trivial (h z I2 R2 hq))
theorem S_X1_farFromHat_18 {X : CX} {d d1 : Nat} {o0 o1 : Int} {I R : PF} {Q Q1 : PV → PF → PF → Prop} (e1 : d1 + 1 ≤ d) (hc : CN X d1 mJ9_max_7cf53 [(0, o0), (0, o1)] I R Q1) (h : ∀ z I2 R2, Q1 (0, z) I2 R2 → PN X d mX1_farFromHat 21 [] [(0, z)] I2 R2 Q) : PN X d mX1_farFromHat 18 [] [(0, o1), (0, o0)] I R Q := by
  refine P_invS (As := [(0, o0), (0, o1)]) (q := 21) oJ9_max_7cf53 rfl (Or.inl kX1_181) e1 hMF (Nat.le_of_ble_eq_true rfl) hc rfl (by decide +kernel) (fun z I2 R2 hq => ?_)
  exact (PW_sub (ls' := []) trivial (h z I2 R2 hq))
theorem S_X1_farFromHat_21 {X : CX} {d : Nat} {o0 : Int} {I R : PF} {Q : PV → PF → PF → Prop} (h : Q (0, o0) I R) : PN X d mX1_farFromHat 21 [] [(0, o0)] I R Q := by
  refine P_iret rfl (by decide +kernel) h
theorem S_X1_firstGot_0 {X : CX} {d : Nat} {x1 : Int} {I R : PF} {Q : PV → PF → PF → Prop} (h : PN X d mX1_firstGot 2 [(2, 127), (0, x1), (0, 0)] [] I R Q) : PN X d mX1_firstGot 0 [(2, 127), (0, x1)] [] I R Q := by
  refine P_iconst (n := 0) (q := 1) rfl (by decide +kernel) ?_
  refine P_istore_n (n := 2) (by decide) (q := 2) rfl (by decide +kernel) ?_
  exact h
theorem S_X1_firstGot_2 {X : CX} {d : Nat} {x1 x2 : Int} {I R : PF} {Q : PV → PF → PF → Prop} (c1 : -2147483648 ≤ x2 ∧ x2 < 2147483648) (h1 : 33 ≤ x2 → PN X d mX1_firstGot 25 [] [] I R Q) (h2 : x2 < 33 → PN X d mX1_firstGot 8 [(2, 127), (0, x1), (0, x2)] [] I R Q) : PN X d mX1_firstGot 2 [(2, 127), (0, x1), (0, x2)] [] I R Q := by
  refine P_iload_n (n := 2) (q := 3) rfl rfl (by decide +kernel) ?_
  refine P_bipush (n := 33) (q := 5) rfl rfl (by decide +kernel) ?_
  refine B_icmp_ge (off := 20) (t := 25) (q := 8) c1 ⟨by decide, by decide⟩ (by decide) rfl (by decide +kernel) ?_ ?_
  · exact fun g9 => (PW_sub (ls' := []) trivial (h1 g9))
  · exact fun g9 => (h2 g9)
theorem S_X1_firstGot_8 {X : CX} {d d1 : Nat} {x1 x2 : Int} {I R : PF} {Q Q1 : PV → PF → PF → Prop} (e1 : d1 + 1 ≤ d) (hc : CN X d1 mX1_got [(2, 127), (0, x2)] I R Q1) (h : ∀ z I2 R2, Q1 (0, z) I2 R2 → PN X d mX1_firstGot 13 [(2, 127), (0, x1), (0, x2)] [(0, z)] I2 R2 Q) : PN X d mX1_firstGot 8 [(2, 127), (0, x1), (0, x2)] [] I R Q := by
  refine P_aload_n (n := 0) (q := 9) rfl rfl (by decide +kernel) ?_
  refine P_iload_n (n := 2) (q := 10) rfl rfl (by decide +kernel) ?_
  refine P_invV (As := [(0, x2)]) (q := 13) oX1_got rfl kM127 kX1_105 e1 hMF (Nat.le_of_ble_eq_true rfl) hc rfl (by decide +kernel) (fun z I2 R2 hq => ?_)
  exact (h z I2 R2 hq)
theorem S_X1_firstGot_13 {X : CX} {d : Nat} {x1 x2 o0 : Int} {I R : PF} {Q : PV → PF → PF → Prop} (c1 : -2147483648 ≤ o0 ∧ o0 < 2147483648) (c2 : -2147483648 ≤ x1 ∧ x1 < 2147483648) (h1 : o0 ≠ x1 → PN X d mX1_firstGot 19 [(2, 127), (0, x1), (0, x2)] [] I R Q) (h2 : o0 = x1 → PN X d mX1_firstGot 17 [(9, 0), (9, 0), (0, x2)] [] I R Q) : PN X d mX1_firstGot 13 [(2, 127), (0, x1), (0, x2)] [(0, o0)] I R Q := by
  refine P_iload_n (n := 1) (q := 14) rfl rfl (by decide +kernel) ?_
  refine B_icmp_ne (off := 5) (t := 19) (q := 17) c1 c2 (by decide) rfl (by decide +kernel) ?_ ?_
  · exact fun g9 => (h1 g9)
  · exact fun g9 => (PW_sub (ls' := [(9, 0), (9, 0), (0, x2)]) ⟨Or.inl rfl, Or.inl rfl, Or.inr rfl, trivial⟩ (h2 g9))
theorem S_X1_firstGot_17 {X : CX} {d : Nat} {x2 : Int} {I R : PF} {Q : PV → PF → PF → Prop} (h : Q (0, x2) I R) : PN X d mX1_firstGot 17 [(9, 0), (9, 0), (0, x2)] [] I R Q := by
  refine P_iload_n (n := 2) (q := 18) rfl rfl (by decide +kernel) ?_
  refine P_iret rfl (by decide +kernel) h
theorem S_X1_firstGot_19 {X : CX} {d : Nat} {x1 x2 : Int} {I R : PF} {Q : PV → PF → PF → Prop} (h : PN X d mX1_firstGot 2 [(2, 127), (0, x1), (0, (x2 + 1))] [] I R Q) : PN X d mX1_firstGot 19 [(2, 127), (0, x1), (0, x2)] [] I R Q := by
  refine P_iinc (n := 2) (a := 1) (by decide) rfl (q := 22) rfl (by decide +kernel) ?_
  refine P_goto (off := (-20)) (t := 2) (by decide) (by decide +kernel) ?_
  exact h
theorem S_X1_firstGot_25 {X : CX} {d : Nat} {I R : PF} {Q : PV → PF → PF → Prop} (h : Q (0, (-1)) I R) : PN X d mX1_firstGot 25 [] [] I R Q := by
  refine P_iconst (n := (-1)) (q := 26) rfl (by decide +kernel) ?_
  refine P_iret rfl (by decide +kernel) h
theorem S_X1_fly_0 {X : CX} {d d1 : Nat} {x1 t1 : Int} {I R : PF} {Q Q1 : PV → PF → PF → Prop} (c1 : -2147483648 ≤ x1 ∧ x1 < 2147483648) (r1 : R 127 0 = t1) (k1 : kd MF t1 = 6) (e1 : d1 + 1 ≤ d) (hc : CN X d1 mX1_gather [(2, 127)] (u2 (u2 (u2 (u2 (u2 I 127 3 (x1.tmod 9)) 127 4 (x1.tdiv 9)) 127 5 ((u2 (u2 I 127 3 (x1.tmod 9)) 127 4 (x1.tdiv 9)) t1 4)) 127 6 0) 127 7 (-1)) R Q1) (h : ∀ z I2 R2, Q1 (9, z) I2 R2 → PN X d mX1_fly 41 [(2, 127)] [] I2 R2 Q) : PN X d mX1_fly 0 [(2, 127), (0, x1)] [] I R Q := by
  refine P_aload_n (n := 0) (q := 1) rfl rfl (by decide +kernel) ?_
  refine P_iload_n (n := 1) (q := 2) rfl rfl (by decide +kernel) ?_
  refine P_bipush (n := 9) (q := 4) rfl rfl (by decide +kernel) ?_
  refine B_irem (q := 5) c1 ⟨by decide, by decide⟩ (by decide) rfl (by decide +kernel) ?_
  refine P_putI (q := 8) wX1_15 (fun h => by cases h) kM127 rfl (by decide +kernel) ?_
  refine P_aload_n (n := 0) (q := 9) rfl rfl (by decide +kernel) ?_
  refine P_iload_n (n := 1) (q := 10) rfl rfl (by decide +kernel) ?_
  refine P_bipush (n := 9) (q := 12) rfl rfl (by decide +kernel) ?_
  refine B_idiv (q := 13) c1 ⟨by decide, by decide⟩ (by decide) rfl (by decide +kernel) ?_
  refine P_putI (q := 16) wX1_19 (fun h => by cases h) kM127 rfl (by decide +kernel) ?_
  refine P_aload_n (n := 0) (q := 17) rfl rfl (by decide +kernel) ?_
  refine P_aload_n (n := 0) (q := 18) rfl rfl (by decide +kernel) ?_
  refine B_getfR (q := 21) fX1_56 kM127 r1 rfl (by decide +kernel) ?_
  refine P_getf (q := 24) fX1_123 k1 rfl (by decide +kernel) ?_
  refine P_putI (q := 27) wX1_22 (fun h => by cases h) kM127 rfl (by decide +kernel) ?_
  refine P_aload_n (n := 0) (q := 28) rfl rfl (by decide +kernel) ?_
  refine P_iconst (n := 0) (q := 29) rfl (by decide +kernel) ?_
  refine P_putI (q := 32) wX1_25 (fun h => by cases h) kM127 rfl (by decide +kernel) ?_
  refine P_aload_n (n := 0) (q := 33) rfl rfl (by decide +kernel) ?_
  refine P_iconst (n := (-1)) (q := 34) rfl (by decide +kernel) ?_
  refine P_putI (q := 37) wX1_28 (fun h => by cases h) kM127 rfl (by decide +kernel) ?_
  refine P_aload_n (n := 0) (q := 38) rfl rfl (by decide +kernel) ?_
  refine P_invV (As := []) (q := 41) oX1_gather rfl kM127 kX1_126 e1 hMF (Nat.le_of_ble_eq_true rfl) hc rfl (by decide +kernel) (fun z I2 R2 hq => ?_)
  exact (PW_sub (ls' := [(2, 127)]) ⟨Or.inr rfl, trivial⟩ (h z I2 R2 hq))
theorem S_X1_fly_41 {X : CX} {d : Nat} {I R : PF} {Q : PV → PF → PF → Prop} (h : PN X d mX1_fly 43 [(2, 127), (9, 0), (0, 0)] [] I R Q) : PN X d mX1_fly 41 [(2, 127)] [] I R Q := by
  refine P_iconst (n := 0) (q := 42) rfl (by decide +kernel) ?_
  refine P_istore_n (n := 2) (by decide) (q := 43) rfl (by decide +kernel) ?_
  exact h
theorem S_X1_fly_43 {X : CX} {d : Nat} {x2 : Int} {I R : PF} {Q : PV → PF → PF → Prop} (c1 : -2147483648 ≤ x2 ∧ x2 < 2147483648) (h1 : 9 ≤ x2 → PN X d mX1_fly 161 [] [] I R Q) (h2 : x2 < 9 → PN X d mX1_fly 49 [(2, 127), (9, 0), (0, x2)] [] I R Q) : PN X d mX1_fly 43 [(2, 127), (9, 0), (0, x2)] [] I R Q := by
  refine P_iload_n (n := 2) (q := 44) rfl rfl (by decide +kernel) ?_
  refine P_bipush (n := 9) (q := 46) rfl rfl (by decide +kernel) ?_
  refine B_icmp_ge (off := 115) (t := 161) (q := 49) c1 ⟨by decide, by decide⟩ (by decide) rfl (by decide +kernel) ?_ ?_
  · exact fun g9 => (PW_sub (ls' := []) trivial (h1 g9))
  · exact fun g9 => (h2 g9)
theorem S_X1_fly_49 {X : CX} {d : Nat} {x2 : Int} {I R : PF} {Q : PV → PF → PF → Prop} (c1 : -2147483648 ≤ (I 127 5) ∧ (I 127 5) < 2147483648) (h1 : (I 127 5) ≤ 0 → PN X d mX1_fly 161 [] [] I R Q) (h2 : 0 < (I 127 5) → PN X d mX1_fly 56 [(2, 127), (9, 0), (0, x2)] [] I R Q) : PN X d mX1_fly 49 [(2, 127), (9, 0), (0, x2)] [] I R Q := by
  refine P_aload_n (n := 0) (q := 50) rfl rfl (by decide +kernel) ?_
  refine P_getf (q := 53) fX1_22 kM127 rfl (by decide +kernel) ?_
  refine B_if_le (off := 108) (t := 161) (q := 56) c1 (by decide) rfl (by decide +kernel) ?_ ?_
  · exact fun g9 => (PW_sub (ls' := []) trivial (h1 g9))
  · exact fun g9 => (h2 g9)
theorem S_X1_fly_56 {X : CX} {d : Nat} {x2 : Int} {I R : PF} {Q : PV → PF → PF → Prop} (c1 : -2147483648 ≤ (I 127 7) ∧ (I 127 7) < 2147483648) (h1 : (I 127 7) ≠ (-1) → PN X d mX1_fly 161 [] [] I R Q) (h2 : (I 127 7) = (-1) → PN X d mX1_fly 64 [(2, 127), (9, 0), (0, x2)] [] I R Q) : PN X d mX1_fly 56 [(2, 127), (9, 0), (0, x2)] [] I R Q := by
  refine P_aload_n (n := 0) (q := 57) rfl rfl (by decide +kernel) ?_
  refine P_getf (q := 60) fX1_28 kM127 rfl (by decide +kernel) ?_
  refine P_iconst (n := (-1)) (q := 61) rfl (by decide +kernel) ?_
  refine B_icmp_ne (off := 100) (t := 161) (q := 64) c1 ⟨by decide, by decide⟩ (by decide) rfl (by decide +kernel) ?_ ?_
  · exact fun g9 => (PW_sub (ls' := []) trivial (h1 g9))
  · exact fun g9 => (h2 g9)
theorem S_X1_fly_64 {X : CX} {d d1 : Nat} {x2 t1 : Int} {I R : PF} {Q Q1 : PV → PF → PF → Prop} (r1 : R 127 0 = t1) (e1 : d1 + 1 ≤ d) (hc : CN X d1 mX1_wind [(2, 127)] (u2 I 127 6 ((I 127 6) + 1)) R Q1) (h : ∀ z I2 R2, Q1 (0, z) I2 R2 → PN X d mX1_fly 90 [(2, 127), (9, 0), (0, x2)] [(0, z), (0, ((u2 I 127 6 ((I 127 6) + 1)) 127 4)), (0, ((u2 I 127 6 ((I 127 6) + 1)) 127 3)), (2, t1)] I2 R2 Q) : PN X d mX1_fly 64 [(2, 127), (9, 0), (0, x2)] [] I R Q := by
  refine P_aload_n (n := 0) (q := 65) rfl rfl (by decide +kernel) ?_
  refine P_dup (q := 66) (Nat.ne_of_beq_eq_false rfl) rfl (by decide +kernel) ?_
  refine P_getf (q := 69) fX1_25 kM127 rfl (by decide +kernel) ?_
  refine P_iconst (n := 1) (q := 70) rfl (by decide +kernel) ?_
  refine P_iadd (q := 71) rfl (by decide +kernel) ?_
  refine P_putI (q := 74) wX1_25 (fun h => by cases h) kM127 rfl (by decide +kernel) ?_
  refine P_aload_n (n := 0) (q := 75) rfl rfl (by decide +kernel) ?_
  refine B_getfR (q := 78) fX1_56 kM127 r1 rfl (by decide +kernel) ?_
  refine P_aload_n (n := 0) (q := 79) rfl rfl (by decide +kernel) ?_
  refine P_getf (q := 82) fX1_15 kM127 rfl (by decide +kernel) ?_
  refine P_aload_n (n := 0) (q := 83) rfl rfl (by decide +kernel) ?_
  refine P_getf (q := 86) fX1_19 kM127 rfl (by decide +kernel) ?_
  refine P_aload_n (n := 0) (q := 87) rfl rfl (by decide +kernel) ?_
  refine P_invV (As := []) (q := 90) oX1_wind rfl kM127 kX1_129 e1 hMF (Nat.le_of_ble_eq_true rfl) hc rfl (by decide +kernel) (fun z I2 R2 hq => ?_)
  exact (h z I2 R2 hq)
theorem S_X1_fly_90 {X : CX} {d d1 : Nat} {x2 s0 o1 o2 o3 : Int} {I R : PF} {Q Q1 : PV → PF → PF → Prop} (e1 : d1 + 1 ≤ d) (hc : CN X d1 mX6_beyond [(2, s0), (0, o1), (0, o2), (0, o3)] I R Q1) (k1 : kd MF s0 = 6) (h : ∀ z I2 R2, Q1 (0, z) I2 R2 → PN X d mX1_fly 93 [(2, 127), (9, 0), (0, x2)] [(0, z)] I2 R2 Q) : PN X d mX1_fly 90 [(2, 127), (9, 0), (0, x2)] [(0, o3), (0, o2), (0, o1), (2, s0)] I R Q := by
  refine P_invV (As := [(0, o1), (0, o2), (0, o3)]) (q := 93) oX6_beyond rfl k1 kX1_132 e1 hMF (Nat.le_of_ble_eq_true rfl) hc rfl (by decide +kernel) (fun z I2 R2 hq => ?_)
  exact (h z I2 R2 hq)
theorem S_X1_fly_93 {X : CX} {d : Nat} {x2 o0 : Int} {I R : PF} {Q : PV → PF → PF → Prop} (c1 : -2147483648 ≤ o0 ∧ o0 < 2147483648) (h : PN X d mX1_fly 123 [(2, 127), (9, 0), (0, x2), (9, 0), (0, 0)] [] (u2 (u2 (u2 I 127 3 (o0.tmod 9)) 127 4 (o0.tdiv 9)) 127 5 (((u2 (u2 I 127 3 (o0.tmod 9)) 127 4 (o0.tdiv 9)) 127 5) - 1)) R Q) : PN X d mX1_fly 93 [(2, 127), (9, 0), (0, x2)] [(0, o0)] I R Q := by
  refine P_istore_n (n := 3) (by decide) (q := 94) rfl (by decide +kernel) ?_
  refine P_aload_n (n := 0) (q := 95) rfl rfl (by decide +kernel) ?_
  refine P_iload_n (n := 3) (q := 96) rfl rfl (by decide +kernel) ?_
  refine P_bipush (n := 9) (q := 98) rfl rfl (by decide +kernel) ?_
  refine B_irem (q := 99) c1 ⟨by decide, by decide⟩ (by decide) rfl (by decide +kernel) ?_
  refine P_putI (q := 102) wX1_15 (fun h => by cases h) kM127 rfl (by decide +kernel) ?_
  refine P_aload_n (n := 0) (q := 103) rfl rfl (by decide +kernel) ?_
  refine P_iload_n (n := 3) (q := 104) rfl rfl (by decide +kernel) ?_
  refine P_bipush (n := 9) (q := 106) rfl rfl (by decide +kernel) ?_
  refine B_idiv (q := 107) c1 ⟨by decide, by decide⟩ (by decide) rfl (by decide +kernel) ?_
  refine P_putI (q := 110) wX1_19 (fun h => by cases h) kM127 rfl (by decide +kernel) ?_
  refine P_aload_n (n := 0) (q := 111) rfl rfl (by decide +kernel) ?_
  refine P_dup (q := 112) (Nat.ne_of_beq_eq_false rfl) rfl (by decide +kernel) ?_
  refine P_getf (q := 115) fX1_22 kM127 rfl (by decide +kernel) ?_
  refine P_iconst (n := 1) (q := 116) rfl (by decide +kernel) ?_
  refine P_isub (q := 117) rfl (by decide +kernel) ?_
  refine P_putI (q := 120) wX1_22 (fun h => by cases h) kM127 rfl (by decide +kernel) ?_
  refine P_iconst (n := 0) (q := 121) rfl (by decide +kernel) ?_
  refine P_istore (n := 4) (by decide) (q := 123) rfl (by decide +kernel) ?_
  exact (PW_sub (ls' := [(2, 127), (9, 0), (0, x2), (9, 0), (0, 0)]) ⟨Or.inr rfl, Or.inl rfl, Or.inr rfl, Or.inl rfl, Or.inr rfl, trivial⟩ h)
theorem S_X1_fly_123 {X : CX} {d : Nat} {x2 x4 t1 : Int} {I R : PF} {Q : PV → PF → PF → Prop} (r1 : R 127 1 = t1) (k1 : kd MF t1 = 8) (c1 : -2147483648 ≤ x4 ∧ x4 < 2147483648) (c2 : -2147483648 ≤ (I t1 3) ∧ (I t1 3) < 2147483648) (h1 : (I t1 3) ≤ x4 → PN X d mX1_fly 147 [(2, 127), (9, 0), (0, x2)] [] I R Q) (h2 : x4 < (I t1 3) → PN X d mX1_fly 135 [(2, 127), (9, 0), (0, x2), (9, 0), (0, x4)] [] I R Q) : PN X d mX1_fly 123 [(2, 127), (9, 0), (0, x2), (9, 0), (0, x4)] [] I R Q := by
  refine P_iload (n := 4) (q := 125) rfl rfl (by decide +kernel) ?_
  refine P_aload_n (n := 0) (q := 126) rfl rfl (by decide +kernel) ?_
  refine B_getfR (q := 129) fX1_60 kM127 r1 rfl (by decide +kernel) ?_
  refine P_getf (q := 132) fX1_136 k1 rfl (by decide +kernel) ?_
  refine B_icmp_ge (off := 15) (t := 147) (q := 135) c1 c2 (by decide) rfl (by decide +kernel) ?_ ?_
  · exact fun g9 => (PW_sub (ls' := [(2, 127), (9, 0), (0, x2)]) ⟨Or.inr rfl, Or.inl rfl, Or.inr rfl, trivial⟩ (h1 g9))
  · exact fun g9 => (h2 g9)
theorem S_X1_fly_135 {X : CX} {d d1 : Nat} {x2 x4 : Int} {I R : PF} {Q Q1 : PV → PF → PF → Prop} (e1 : d1 + 1 ≤ d) (hc : CN X d1 mX1_run [(2, 127), (0, x4)] I R Q1) (h : ∀ z I2 R2, Q1 (9, z) I2 R2 → PN X d mX1_fly 141 [(2, 127), (9, 0), (0, x2), (9, 0), (0, x4)] [] I2 R2 Q) : PN X d mX1_fly 135 [(2, 127), (9, 0), (0, x2), (9, 0), (0, x4)] [] I R Q := by
  refine P_aload_n (n := 0) (q := 136) rfl rfl (by decide +kernel) ?_
  refine P_iload (n := 4) (q := 138) rfl rfl (by decide +kernel) ?_
  refine P_invV (As := [(0, x4)]) (q := 141) oX1_run rfl kM127 kX1_139 e1 hMF (Nat.le_of_ble_eq_true rfl) hc rfl (by decide +kernel) (fun z I2 R2 hq => ?_)
  exact (h z I2 R2 hq)
theorem S_X1_fly_141 {X : CX} {d : Nat} {x2 x4 : Int} {I R : PF} {Q : PV → PF → PF → Prop} (h : PN X d mX1_fly 123 [(2, 127), (9, 0), (0, x2), (9, 0), (0, (x4 + 1))] [] I R Q) : PN X d mX1_fly 141 [(2, 127), (9, 0), (0, x2), (9, 0), (0, x4)] [] I R Q := by
  refine P_iinc (n := 4) (a := 1) (by decide) rfl (q := 144) rfl (by decide +kernel) ?_
  refine P_goto (off := (-21)) (t := 123) (by decide) (by decide +kernel) ?_
  exact h
theorem S_X1_fly_147 {X : CX} {d d1 : Nat} {x2 : Int} {I R : PF} {Q Q1 : PV → PF → PF → Prop} (e1 : d1 + 1 ≤ d) (hc : CN X d1 mX1_catcher [(2, 127)] I R Q1) (h : ∀ z I2 R2, Q1 (0, z) I2 R2 → PN X d mX1_fly 152 [(2, 127), (9, 0), (0, x2)] [(0, z), (2, 127)] I2 R2 Q) : PN X d mX1_fly 147 [(2, 127), (9, 0), (0, x2)] [] I R Q := by
  refine P_aload_n (n := 0) (q := 148) rfl rfl (by decide +kernel) ?_
  refine P_aload_n (n := 0) (q := 149) rfl rfl (by decide +kernel) ?_
  refine P_invV (As := []) (q := 152) oX1_catcher rfl kM127 kX1_142 e1 hMF (Nat.le_of_ble_eq_true rfl) hc rfl (by decide +kernel) (fun z I2 R2 hq => ?_)
  exact (PW_sub (ls' := [(2, 127), (9, 0), (0, x2)]) ⟨Or.inr rfl, Or.inl rfl, Or.inr rfl, trivial⟩ (h z I2 R2 hq))
theorem S_X1_fly_152 {X : CX} {d : Nat} {x2 o1 : Int} {I R : PF} {Q : PV → PF → PF → Prop} (h : PN X d mX1_fly 43 [(2, 127), (9, 0), (0, (x2 + 1))] [] (u2 I 127 7 o1) R Q) : PN X d mX1_fly 152 [(2, 127), (9, 0), (0, x2)] [(0, o1), (2, 127)] I R Q := by
  refine P_putI (q := 155) wX1_28 (fun h => by cases h) kM127 rfl (by decide +kernel) ?_
  refine P_iinc (n := 2) (a := 1) (by decide) rfl (q := 158) rfl (by decide +kernel) ?_
  refine P_goto (off := (-115)) (t := 43) (by decide) (by decide +kernel) ?_
  exact (PW_sub (ls' := [(2, 127), (9, 0), (0, (x2 + 1))]) ⟨Or.inr rfl, Or.inl rfl, Or.inr rfl, trivial⟩ h)
theorem S_X1_fly_161 {X : CX} {d : Nat} {I R : PF} {Q : PV → PF → PF → Prop} (h : Q (9, 0) I R) : PN X d mX1_fly 161 [] [] I R Q := by
  refine P_vret rfl (by decide +kernel) h
theorem S_X1_forgetFlights_0 {X : CX} {d d1 : Nat} {I R : PF} {Q Q1 : PV → PF → PF → Prop} (hs : Shp R) (e1 : d1 + 1 ≤ d) (hc : CN X d1 mJ7_fill_53178 [(2, 134), (0, (-2))] I R Q1) (h : ∀ z I2 R2, Q1 (9, z) I2 R2 → PN X d mX1_forgetFlights 9 [] [] I2 R2 Q) : PN X d mX1_forgetFlights 0 [(2, 127)] [] I R Q := by
  refine P_aload_n (n := 0) (q := 1) rfl rfl (by decide +kernel) ?_
  refine B_getfR (q := 4) fX1_50 kM127 (rM127_14 hs) rfl (by decide +kernel) ?_
  refine P_bipush (n := (-2)) (q := 6) rfl rfl (by decide +kernel) ?_
  refine P_invS (As := [(2, 134), (0, (-2))]) (q := 9) oJ7_fill_53178 rfl (Or.inl kX1_64) e1 hMF (Nat.le_of_ble_eq_true rfl) hc rfl (by decide +kernel) (fun z I2 R2 hq => ?_)
  exact (PW_sub (ls' := []) trivial (h z I2 R2 hq))
theorem S_X1_forgetFlights_9 {X : CX} {d : Nat} {I R : PF} {Q : PV → PF → PF → Prop} (h : Q (9, 0) I R) : PN X d mX1_forgetFlights 9 [] [] I R Q := by
  refine P_vret rfl (by decide +kernel) h
theorem S_X1_gather_0 {X : CX} {d : Nat} {t1 : Int} {I R : PF} {Q : PV → PF → PF → Prop} (hs : Shp R) (r1 : R 127 0 = t1) (k1 : kd MF t1 = 6) (b1 : 0 ≤ (0 : Int) ∧ 0 ≤ (0 : Int) ∧ 0 ≤ (81 : Int) ∧ (0 : Int) + (81 : Int) ≤ 81 ∧ (0 : Int) + (81 : Int) ≤ 81) (e1 : 1 ≤ d) (h : PN X d mX1_gather 20 [(2, 127), (0, 0)] [] (fun x j => if x = 130 ∧ 0 ≤ j ∧ j < 0 + 81 then I (t1 + 3) (0 + (j - 0)) else I x j) R Q) : PN X d mX1_gather 0 [(2, 127)] [] I R Q := by
  refine P_aload_n (n := 0) (q := 1) rfl rfl (by decide +kernel) ?_
  refine B_getfR (q := 4) fX1_56 kM127 r1 rfl (by decide +kernel) ?_
  refine B_getfR (q := 7) fX1_145 k1 (sh6_10 hs k1) rfl (by decide +kernel) ?_
  refine P_iconst (n := 0) (q := 8) rfl (by decide +kernel) ?_
  refine P_aload_n (n := 0) (q := 9) rfl rfl (by decide +kernel) ?_
  refine B_getfR (q := 12) fX1_38 kM127 (rM127_10 hs) rfl (by decide +kernel) ?_
  refine P_iconst (n := 0) (q := 13) rfl (by decide +kernel) ?_
  refine P_bipush (n := 81) (q := 15) rfl rfl (by decide +kernel) ?_
  refine B_copy (q := 18) (sq3 k1) kM130 (sq3n k1) nM130 (by decide) (by decide) b1 (tGp4 97 rfl rfl) (tGp4 6 rfl rfl) (tGp4 5 rfl rfl) (tGp1 16 rfl rfl) e1 (Nat.le_of_ble_eq_true rfl) rfl (by decide +kernel) ?_
  refine P_iconst (n := 0) (q := 19) rfl (by decide +kernel) ?_
  refine P_istore_n (n := 1) (by decide) (q := 20) rfl (by decide +kernel) ?_
  exact h
theorem S_X1_gather_20 {X : CX} {d : Nat} {x1 t1 : Int} {I R : PF} {Q : PV → PF → PF → Prop} (r1 : R 127 1 = t1) (k1 : kd MF t1 = 8) (c1 : -2147483648 ≤ x1 ∧ x1 < 2147483648) (c2 : -2147483648 ≤ (I t1 3) ∧ (I t1 3) < 2147483648) (h1 : (I t1 3) ≤ x1 → PN X d mX1_gather 93 [] [] I R Q) (h2 : x1 < (I t1 3) → PN X d mX1_gather 31 [(2, 127), (0, x1)] [] I R Q) : PN X d mX1_gather 20 [(2, 127), (0, x1)] [] I R Q := by
  refine P_iload_n (n := 1) (q := 21) rfl rfl (by decide +kernel) ?_
  refine P_aload_n (n := 0) (q := 22) rfl rfl (by decide +kernel) ?_
  refine B_getfR (q := 25) fX1_60 kM127 r1 rfl (by decide +kernel) ?_
  refine P_getf (q := 28) fX1_136 k1 rfl (by decide +kernel) ?_
  refine B_icmp_ge (off := 65) (t := 93) (q := 31) c1 c2 (by decide) rfl (by decide +kernel) ?_ ?_
  · exact fun g9 => (PW_sub (ls' := []) trivial (h1 g9))
  · exact fun g9 => (h2 g9)
theorem S_X1_gather_31 {X : CX} {d : Nat} {x1 t1 : Int} {I R : PF} {Q : PV → PF → PF → Prop} (hs : Shp R) (r1 : R 127 1 = t1) (k1 : kd MF t1 = 8) (b1 : (0 : Int) ≤ x1 ∧ x1 < 6) (b2 : (0 : Int) ≤ ((9 * ((u2 (u2 I 128 x1 (I (t1 + 2 + x1) 0)) 129 x1 ((u2 I 128 x1 (I (t1 + 2 + x1) 0)) (t1 + 2 + x1) 1)) 129 x1)) + ((u2 (u2 I 128 x1 (I (t1 + 2 + x1) 0)) 129 x1 ((u2 I 128 x1 (I (t1 + 2 + x1) 0)) (t1 + 2 + x1) 1)) 128 x1)) ∧ ((9 * ((u2 (u2 I 128 x1 (I (t1 + 2 + x1) 0)) 129 x1 ((u2 I 128 x1 (I (t1 + 2 + x1) 0)) (t1 + 2 + x1) 1)) 129 x1)) + ((u2 (u2 I 128 x1 (I (t1 + 2 + x1) 0)) 129 x1 ((u2 I 128 x1 (I (t1 + 2 + x1) 0)) (t1 + 2 + x1) 1)) 128 x1)) < 81) (h : PN X d mX1_gather 20 [(2, 127), (0, (x1 + 1))] [] (u2 (u2 (u2 I 128 x1 (I (t1 + 2 + x1) 0)) 129 x1 ((u2 I 128 x1 (I (t1 + 2 + x1) 0)) (t1 + 2 + x1) 1)) 130 ((9 * ((u2 (u2 I 128 x1 (I (t1 + 2 + x1) 0)) 129 x1 ((u2 I 128 x1 (I (t1 + 2 + x1) 0)) (t1 + 2 + x1) 1)) 129 x1)) + ((u2 (u2 I 128 x1 (I (t1 + 2 + x1) 0)) 129 x1 ((u2 I 128 x1 (I (t1 + 2 + x1) 0)) (t1 + 2 + x1) 1)) 128 x1)) 1) R Q) : PN X d mX1_gather 31 [(2, 127), (0, x1)] [] I R Q := by
  refine P_aload_n (n := 0) (q := 32) rfl rfl (by decide +kernel) ?_
  refine B_getfR (q := 35) fX1_31 kM127 (rM127_8 hs) rfl (by decide +kernel) ?_
  refine P_iload_n (n := 1) (q := 36) rfl rfl (by decide +kernel) ?_
  refine P_aload_n (n := 0) (q := 37) rfl rfl (by decide +kernel) ?_
  refine B_getfR (q := 40) fX1_60 kM127 r1 rfl (by decide +kernel) ?_
  refine B_getfR (q := 43) fX1_154 k1 (sh8_4 hs k1) rfl (by decide +kernel) ?_
  refine P_iload_n (n := 1) (q := 44) rfl rfl (by decide +kernel) ?_
  refine B_aaloadI (q := 45) (st1 k1) (st1n k1) (by decide) b1 (sh8_r hs k1 b1.1 b1.2) rfl (by decide +kernel) ?_
  refine P_iconst (n := 0) (q := 46) rfl (by decide +kernel) ?_
  refine B_iaload (q := 47) (stR k1 b1.1 b1.2).1 (stR k1 b1.1 b1.2).2 (by decide) ⟨by decide, by decide⟩ rfl (by decide +kernel) ?_
  refine B_iastore (q := 48) kM128 nM128 (by decide) b1 rfl (by decide +kernel) ?_
  refine P_aload_n (n := 0) (q := 49) rfl rfl (by decide +kernel) ?_
  refine B_getfR (q := 52) fX1_35 kM127 (rM127_9 hs) rfl (by decide +kernel) ?_
  refine P_iload_n (n := 1) (q := 53) rfl rfl (by decide +kernel) ?_
  refine P_aload_n (n := 0) (q := 54) rfl rfl (by decide +kernel) ?_
  refine B_getfR (q := 57) fX1_60 kM127 r1 rfl (by decide +kernel) ?_
  refine B_getfR (q := 60) fX1_154 k1 (sh8_4 hs k1) rfl (by decide +kernel) ?_
  refine P_iload_n (n := 1) (q := 61) rfl rfl (by decide +kernel) ?_
  refine B_aaloadI (q := 62) (st1 k1) (st1n k1) (by decide) b1 (sh8_r hs k1 b1.1 b1.2) rfl (by decide +kernel) ?_
  refine P_iconst (n := 1) (q := 63) rfl (by decide +kernel) ?_
  refine B_iaload (q := 64) (stR k1 b1.1 b1.2).1 (stR k1 b1.1 b1.2).2 (by decide) ⟨by decide, by decide⟩ rfl (by decide +kernel) ?_
  refine B_iastore (q := 65) kM129 nM129 (by decide) b1 rfl (by decide +kernel) ?_
  refine P_aload_n (n := 0) (q := 66) rfl rfl (by decide +kernel) ?_
  refine B_getfR (q := 69) fX1_38 kM127 (rM127_10 hs) rfl (by decide +kernel) ?_
  refine P_bipush (n := 9) (q := 71) rfl rfl (by decide +kernel) ?_
  refine P_aload_n (n := 0) (q := 72) rfl rfl (by decide +kernel) ?_
  refine B_getfR (q := 75) fX1_35 kM127 (rM127_9 hs) rfl (by decide +kernel) ?_
  refine P_iload_n (n := 1) (q := 76) rfl rfl (by decide +kernel) ?_
  refine B_iaload (q := 77) kM129 nM129 (by decide) b1 rfl (by decide +kernel) ?_
  refine P_imul (q := 78) rfl (by decide +kernel) ?_
  refine P_aload_n (n := 0) (q := 79) rfl rfl (by decide +kernel) ?_
  refine B_getfR (q := 82) fX1_31 kM127 (rM127_8 hs) rfl (by decide +kernel) ?_
  refine P_iload_n (n := 1) (q := 83) rfl rfl (by decide +kernel) ?_
  refine B_iaload (q := 84) kM128 nM128 (by decide) b1 rfl (by decide +kernel) ?_
  refine P_iadd (q := 85) rfl (by decide +kernel) ?_
  refine P_iconst (n := 1) (q := 86) rfl (by decide +kernel) ?_
  refine B_iastore (q := 87) kM130 nM130 (by decide) b2 rfl (by decide +kernel) ?_
  refine P_iinc (n := 1) (a := 1) (by decide) rfl (q := 90) rfl (by decide +kernel) ?_
  refine P_goto (off := (-70)) (t := 20) (by decide) (by decide +kernel) ?_
  exact h
theorem S_X1_gather_93 {X : CX} {d : Nat} {I R : PF} {Q : PV → PF → PF → Prop} (h : Q (9, 0) I R) : PN X d mX1_gather 93 [] [] I R Q := by
  refine P_vret rfl (by decide +kernel) h
theorem S_X1_got_0 {X : CX} {d : Nat} {x1 t1 : Int} {I R : PF} {Q : PV → PF → PF → Prop} (hs : Shp R) (r1 : R 127 0 = t1) (k1 : kd MF t1 = 6) (b1 : (0 : Int) ≤ x1 ∧ x1 < 33) (b2 : (0 : Int) ≤ (I (t1 + 4) x1) ∧ (I (t1 + 4) x1) < 81) (c1 : -2147483648 ≤ (I 134 (I (t1 + 4) x1)) ∧ (I 134 (I (t1 + 4) x1)) < 2147483648) (h1 : (I 134 (I (t1 + 4) x1)) ≠ (-2) → PN X d mX1_got 36 [(2, 127), (9, 0), (0, (I (t1 + 4) x1))] [] I R Q) (h2 : (I 134 (I (t1 + 4) x1)) = (-2) → PN X d mX1_got 21 [(2, 127), (9, 0), (0, (I (t1 + 4) x1))] [] I R Q) : PN X d mX1_got 0 [(2, 127), (0, x1)] [] I R Q := by
  refine P_aload_n (n := 0) (q := 1) rfl rfl (by decide +kernel) ?_
  refine B_getfR (q := 4) fX1_56 kM127 r1 rfl (by decide +kernel) ?_
  refine B_getfR (q := 7) fX1_82 k1 (sh6_11 hs k1) rfl (by decide +kernel) ?_
  refine P_iload_n (n := 1) (q := 8) rfl rfl (by decide +kernel) ?_
  refine B_iaload (q := 9) (sq4 k1) (sq4n k1) (by decide) b1 rfl (by decide +kernel) ?_
  refine P_istore_n (n := 2) (by decide) (q := 10) rfl (by decide +kernel) ?_
  refine P_aload_n (n := 0) (q := 11) rfl rfl (by decide +kernel) ?_
  refine B_getfR (q := 14) fX1_50 kM127 (rM127_14 hs) rfl (by decide +kernel) ?_
  refine P_iload_n (n := 2) (q := 15) rfl rfl (by decide +kernel) ?_
  refine B_iaload (q := 16) kM134 nM134 (by decide) b2 rfl (by decide +kernel) ?_
  refine P_bipush (n := (-2)) (q := 18) rfl rfl (by decide +kernel) ?_
  refine B_icmp_ne (off := 18) (t := 36) (q := 21) c1 ⟨by decide, by decide⟩ (by decide) rfl (by decide +kernel) ?_ ?_
  · exact fun g9 => (PW_sub (ls' := [(2, 127), (9, 0), (0, (I (t1 + 4) x1))]) ⟨Or.inr rfl, Or.inl rfl, Or.inr rfl, trivial⟩ (h1 g9))
  · exact fun g9 => (PW_sub (ls' := [(2, 127), (9, 0), (0, (I (t1 + 4) x1))]) ⟨Or.inr rfl, Or.inl rfl, Or.inr rfl, trivial⟩ (h2 g9))
theorem S_X1_got_21 {X : CX} {d d1 : Nat} {x2 : Int} {I R : PF} {Q Q1 : PV → PF → PF → Prop} (e1 : d1 + 1 ≤ d) (hc : CN X d1 mX1_fly [(2, 127), (0, x2)] I R Q1) (h : ∀ z I2 R2, Q1 (9, z) I2 R2 → PN X d mX1_got 26 [(2, 127), (9, 0), (0, x2)] [] I2 R2 Q) : PN X d mX1_got 21 [(2, 127), (9, 0), (0, x2)] [] I R Q := by
  refine P_aload_n (n := 0) (q := 22) rfl rfl (by decide +kernel) ?_
  refine P_iload_n (n := 2) (q := 23) rfl rfl (by decide +kernel) ?_
  refine P_invV (As := [(0, x2)]) (q := 26) oX1_fly rfl kM127 kX1_98 e1 hMF (Nat.le_of_ble_eq_true rfl) hc rfl (by decide +kernel) (fun z I2 R2 hq => ?_)
  exact (h z I2 R2 hq)
theorem S_X1_got_26 {X : CX} {d : Nat} {x2 : Int} {I R : PF} {Q : PV → PF → PF → Prop} (hs : Shp R) (b1 : (0 : Int) ≤ x2 ∧ x2 < 81) (h : PN X d mX1_got 36 [(2, 127), (9, 0), (0, x2)] [] (u2 I 134 x2 (I 127 7)) R Q) : PN X d mX1_got 26 [(2, 127), (9, 0), (0, x2)] [] I R Q := by
  refine P_aload_n (n := 0) (q := 27) rfl rfl (by decide +kernel) ?_
  refine B_getfR (q := 30) fX1_50 kM127 (rM127_14 hs) rfl (by decide +kernel) ?_
  refine P_iload_n (n := 2) (q := 31) rfl rfl (by decide +kernel) ?_
  refine P_aload_n (n := 0) (q := 32) rfl rfl (by decide +kernel) ?_
  refine P_getf (q := 35) fX1_28 kM127 rfl (by decide +kernel) ?_
  refine B_iastore (q := 36) kM134 nM134 (by decide) b1 rfl (by decide +kernel) ?_
  exact h
theorem S_X1_got_36 {X : CX} {d : Nat} {x2 : Int} {I R : PF} {Q : PV → PF → PF → Prop} (hs : Shp R) (b1 : (0 : Int) ≤ x2 ∧ x2 < 81) (h : Q (0, (I 134 x2)) I R) : PN X d mX1_got 36 [(2, 127), (9, 0), (0, x2)] [] I R Q := by
  refine P_aload_n (n := 0) (q := 37) rfl rfl (by decide +kernel) ?_
  refine B_getfR (q := 40) fX1_50 kM127 (rM127_14 hs) rfl (by decide +kernel) ?_
  refine P_iload_n (n := 2) (q := 41) rfl rfl (by decide +kernel) ?_
  refine B_iaload (q := 42) kM134 nM134 (by decide) b1 rfl (by decide +kernel) ?_
  refine P_iret rfl (by decide +kernel) h
theorem S_X1_playNoon_0 {X : CX} {d d1 : Nat} {a1 a2 a3 : Int} {I R : PF} {Q Q1 : PV → PF → PF → Prop} (k1 : kd MF a2 = 8) (e1 : d1 + 1 ≤ d) (hc : CN X d1 mX1_prepare [(2, 127), (2, a1), (2, a2), (0, (I a2 0)), (2, a3)] I R Q1) (h : ∀ z I2 R2, Q1 (9, z) I2 R2 → PN X d mX1_playNoon 11 [(2, 127), (2, a1), (2, a2)] [] I2 R2 Q) : PN X d mX1_playNoon 0 [(2, 127), (2, a1), (2, a2), (2, a3)] [] I R Q := by
  refine P_aload_n (n := 0) (q := 1) rfl rfl (by decide +kernel) ?_
  refine P_aload_n (n := 1) (q := 2) rfl rfl (by decide +kernel) ?_
  refine P_aload_n (n := 2) (q := 3) rfl rfl (by decide +kernel) ?_
  refine P_aload_n (n := 2) (q := 4) rfl rfl (by decide +kernel) ?_
  refine P_getf (q := 7) fX1_73 k1 rfl (by decide +kernel) ?_
  refine P_aload_n (n := 3) (q := 8) rfl rfl (by decide +kernel) ?_
  refine P_invV (As := [(2, a1), (2, a2), (0, (I a2 0)), (2, a3)]) (q := 11) oX1_prepare rfl kM127 kX1_78 e1 hMF (Nat.le_of_ble_eq_true rfl) hc rfl (by decide +kernel) (fun z I2 R2 hq => ?_)
  exact (PW_sub (ls' := [(2, 127), (2, a1), (2, a2)]) ⟨Or.inr rfl, Or.inr rfl, Or.inr rfl, trivial⟩ (h z I2 R2 hq))
theorem S_X1_playNoon_11 {X : CX} {d d1 : Nat} {a1 a2 : Int} {I R : PF} {Q Q1 : PV → PF → PF → Prop} (hs : Shp R) (k1 : kd MF a1 = 6) (e1 : d1 + 1 ≤ d) (hc : CN X d1 mX8_wayNow [(2, a2)] I R Q1) (k2 : kd MF a2 = 8) (h : ∀ z I2 R2, Q1 (0, z) I2 R2 → PN X d mX1_playNoon 20 [(2, 127), (9, 0), (2, a2)] [(0, z), (2, (a1 + 4)), (2, 127)] I2 R2 Q) : PN X d mX1_playNoon 11 [(2, 127), (2, a1), (2, a2)] [] I R Q := by
  refine P_aload_n (n := 0) (q := 12) rfl rfl (by decide +kernel) ?_
  refine P_aload_n (n := 1) (q := 13) rfl rfl (by decide +kernel) ?_
  refine B_getfR (q := 16) fX1_82 k1 (sh6_11 hs k1) rfl (by decide +kernel) ?_
  refine P_aload_n (n := 2) (q := 17) rfl rfl (by decide +kernel) ?_
  refine P_invV (As := []) (q := 20) oX8_wayNow rfl k2 kX1_87 e1 hMF (Nat.le_of_ble_eq_true rfl) hc rfl (by decide +kernel) (fun z I2 R2 hq => ?_)
  exact (PW_sub (ls' := [(2, 127), (9, 0), (2, a2)]) ⟨Or.inr rfl, Or.inl rfl, Or.inr rfl, trivial⟩ (h z I2 R2 hq))
theorem S_X1_playNoon_20 {X : CX} {d d1 : Nat} {a2 s1 o2 : Int} {I R : PF} {Q Q1 : PV → PF → PF → Prop} (e1 : d1 + 1 ≤ d) (hc : CN X d1 mX8_forceNow [(2, a2)] I R Q1) (k1 : kd MF a2 = 8) (h : ∀ z I2 R2, Q1 (0, z) I2 R2 → PN X d mX1_playNoon 24 [(2, 127), (9, 0), (2, a2)] [(0, z), (0, o2), (2, s1), (2, 127)] I2 R2 Q) : PN X d mX1_playNoon 20 [(2, 127), (9, 0), (2, a2)] [(0, o2), (2, s1), (2, 127)] I R Q := by
  refine P_aload_n (n := 2) (q := 21) rfl rfl (by decide +kernel) ?_
  refine P_invV (As := []) (q := 24) oX8_forceNow rfl k1 kX1_91 e1 hMF (Nat.le_of_ble_eq_true rfl) hc rfl (by decide +kernel) (fun z I2 R2 hq => ?_)
  exact (PW_sub (ls' := [(2, 127), (9, 0), (2, a2)]) ⟨Or.inr rfl, Or.inl rfl, Or.inr rfl, trivial⟩ (h z I2 R2 hq))
theorem S_X1_playNoon_24 {X : CX} {d d1 : Nat} {a2 s1 o2 o3 : Int} {I R : PF} {Q Q1 : PV → PF → PF → Prop} (e1 : d1 + 1 ≤ d) (hc : CN X d1 mX10_throwNumber [(0, o2), (0, o3)] I R Q1) (h : ∀ z I2 R2, Q1 (0, z) I2 R2 → PN X d mX1_playNoon 27 [(2, 127), (9, 0), (2, a2)] [(0, z), (2, s1), (2, 127)] I2 R2 Q) : PN X d mX1_playNoon 24 [(2, 127), (9, 0), (2, a2)] [(0, o3), (0, o2), (2, s1), (2, 127)] I R Q := by
  refine P_invS (As := [(0, o2), (0, o3)]) (q := 27) oX10_throwNumber rfl (Or.inr kX1_94) e1 hMF (Nat.le_of_ble_eq_true rfl) hc rfl (by decide +kernel) (fun z I2 R2 hq => ?_)
  exact (PW_sub (ls' := [(2, 127), (9, 0), (2, a2)]) ⟨Or.inr rfl, Or.inl rfl, Or.inr rfl, trivial⟩ (h z I2 R2 hq))
theorem S_X1_playNoon_27 {X : CX} {d d1 : Nat} {a2 s1 o2 : Int} {I R : PF} {Q Q1 : PV → PF → PF → Prop} (k1 : kd MF s1 = 12) (b1 : (0 : Int) ≤ o2 ∧ o2 < (ln MF s1 : Int)) (n1 : (ln MF s1 : Int) < 2147483648) (e1 : d1 + 1 ≤ d) (hc : CN X d1 mX1_fly [(2, 127), (0, (I s1 o2))] I R Q1) (h : ∀ z I2 R2, Q1 (9, z) I2 R2 → PN X d mX1_playNoon 31 [(2, 127), (9, 0), (2, a2)] [] I2 R2 Q) : PN X d mX1_playNoon 27 [(2, 127), (9, 0), (2, a2)] [(0, o2), (2, s1), (2, 127)] I R Q := by
  refine B_iaload (q := 28) k1 rfl n1 b1 rfl (by decide +kernel) ?_
  refine P_invV (As := [(0, (I s1 o2))]) (q := 31) oX1_fly rfl kM127 kX1_98 e1 hMF (Nat.le_of_ble_eq_true rfl) hc rfl (by decide +kernel) (fun z I2 R2 hq => ?_)
  exact (PW_sub (ls' := [(2, 127), (9, 0), (2, a2)]) ⟨Or.inr rfl, Or.inl rfl, Or.inr rfl, trivial⟩ (h z I2 R2 hq))
theorem S_X1_playNoon_31 {X : CX} {d d1 : Nat} {a2 : Int} {I R : PF} {Q Q1 : PV → PF → PF → Prop} (e1 : d1 + 1 ≤ d) (hc : CN X d1 mX8_wear [(2, a2), (0, (I 127 7))] I R Q1) (k1 : kd MF a2 = 8) (h : ∀ z I2 R2, Q1 (9, z) I2 R2 → PN X d mX1_playNoon 39 [] [] I2 R2 Q) : PN X d mX1_playNoon 31 [(2, 127), (9, 0), (2, a2)] [] I R Q := by
  refine P_aload_n (n := 2) (q := 32) rfl rfl (by decide +kernel) ?_
  refine P_aload_n (n := 0) (q := 33) rfl rfl (by decide +kernel) ?_
  refine P_getf (q := 36) fX1_28 kM127 rfl (by decide +kernel) ?_
  refine P_invV (As := [(0, (I 127 7))]) (q := 39) oX8_wear rfl k1 kX1_102 e1 hMF (Nat.le_of_ble_eq_true rfl) hc rfl (by decide +kernel) (fun z I2 R2 hq => ?_)
  exact (PW_sub (ls' := []) trivial (h z I2 R2 hq))
theorem S_X1_playNoon_39 {X : CX} {d : Nat} {I R : PF} {Q : PV → PF → PF → Prop} (h : Q (9, 0) I R) : PN X d mX1_playNoon 39 [] [] I R Q := by
  refine P_vret rfl (by decide +kernel) h
theorem S_X1_prepare_0 {X : CX} {d d1 : Nat} {a1 a2 x3 a4 t1 t2 : Int} {I R : PF} {Q Q1 : PV → PF → PF → Prop} (r1 : (u2 (u2 (u2 R 127 0 a1) 127 1 a2) 127 2 a4) 127 11 = t1) (k1 : kd MF t1 = 12) (b1 : (0 : Int) ≤ 10 ∧ 10 < (ln MF t1 : Int)) (n1 : (ln MF t1 : Int) < 2147483648) (r2 : (u2 (u2 (u2 R 127 0 a1) 127 1 a2) 127 2 a4) 127 12 = t2) (e1 : d1 + 1 ≤ d) (hc : CN X d1 mJ7_fill_53178 [(2, t2), (0, (-2))] (u2 I t1 10 x3) (u2 (u2 (u2 R 127 0 a1) 127 1 a2) 127 2 a4) Q1) (h : ∀ z I2 R2, Q1 (9, z) I2 R2 → PN X d mX1_prepare 33 [(2, 127)] [] I2 R2 Q) : PN X d mX1_prepare 0 [(2, 127), (2, a1), (2, a2), (0, x3), (2, a4)] [] I R Q := by
  refine P_aload_n (n := 0) (q := 1) rfl rfl (by decide +kernel) ?_
  refine P_aload_n (n := 1) (q := 2) rfl rfl (by decide +kernel) ?_
  refine P_putR (q := 5) wX1_56 rfl (fun h => by cases h) kM127 rfl (by decide +kernel) ?_
  refine P_aload_n (n := 0) (q := 6) rfl rfl (by decide +kernel) ?_
  refine P_aload_n (n := 2) (q := 7) rfl rfl (by decide +kernel) ?_
  refine P_putR (q := 10) wX1_60 rfl (fun h => by cases h) kM127 rfl (by decide +kernel) ?_
  refine P_aload_n (n := 0) (q := 11) rfl rfl (by decide +kernel) ?_
  refine P_aload (n := 4) (q := 13) rfl rfl (by decide +kernel) ?_
  refine P_putR (q := 16) wX1_9 rfl (fun h => by cases h) kM127 rfl (by decide +kernel) ?_
  refine P_aload_n (n := 0) (q := 17) rfl rfl (by decide +kernel) ?_
  refine B_getfR (q := 20) fX1_41 kM127 r1 rfl (by decide +kernel) ?_
  refine P_bipush (n := 10) (q := 22) rfl rfl (by decide +kernel) ?_
  refine P_iload_n (n := 3) (q := 23) rfl rfl (by decide +kernel) ?_
  refine B_iastore (q := 24) k1 rfl n1 b1 rfl (by decide +kernel) ?_
  refine P_aload_n (n := 0) (q := 25) rfl rfl (by decide +kernel) ?_
  refine B_getfR (q := 28) fX1_44 kM127 r2 rfl (by decide +kernel) ?_
  refine P_bipush (n := (-2)) (q := 30) rfl rfl (by decide +kernel) ?_
  refine P_invS (As := [(2, t2), (0, (-2))]) (q := 33) oJ7_fill_53178 rfl (Or.inl kX1_64) e1 hMF (Nat.le_of_ble_eq_true rfl) hc rfl (by decide +kernel) (fun z I2 R2 hq => ?_)
  exact (PW_sub (ls' := [(2, 127)]) ⟨Or.inr rfl, trivial⟩ (h z I2 R2 hq))
theorem S_X1_prepare_33 {X : CX} {d d1 : Nat} {I R : PF} {Q Q1 : PV → PF → PF → Prop} (hs : Shp R) (e1 : d1 + 1 ≤ d) (hc : CN X d1 mJ7_fill_53178 [(2, 133), (0, (-2))] I R Q1) (h : ∀ z I2 R2, Q1 (9, z) I2 R2 → PN X d mX1_prepare 42 [(2, 127)] [] I2 R2 Q) : PN X d mX1_prepare 33 [(2, 127)] [] I R Q := by
  refine P_aload_n (n := 0) (q := 34) rfl rfl (by decide +kernel) ?_
  refine B_getfR (q := 37) fX1_47 kM127 (rM127_13 hs) rfl (by decide +kernel) ?_
  refine P_bipush (n := (-2)) (q := 39) rfl rfl (by decide +kernel) ?_
  refine P_invS (As := [(2, 133), (0, (-2))]) (q := 42) oJ7_fill_53178 rfl (Or.inl kX1_64) e1 hMF (Nat.le_of_ble_eq_true rfl) hc rfl (by decide +kernel) (fun z I2 R2 hq => ?_)
  exact (PW_sub (ls' := [(2, 127)]) ⟨Or.inr rfl, trivial⟩ (h z I2 R2 hq))
theorem S_X1_prepare_42 {X : CX} {d d1 : Nat} {I R : PF} {Q Q1 : PV → PF → PF → Prop} (e1 : d1 + 1 ≤ d) (hc : CN X d1 mX1_forgetFlights [(2, 127)] I R Q1) (h : ∀ z I2 R2, Q1 (9, z) I2 R2 → PN X d mX1_prepare 46 [] [] I2 R2 Q) : PN X d mX1_prepare 42 [(2, 127)] [] I R Q := by
  refine P_aload_n (n := 0) (q := 43) rfl rfl (by decide +kernel) ?_
  refine P_invV (As := []) (q := 46) oX1_forgetFlights rfl kM127 kX1_70 e1 hMF (Nat.le_of_ble_eq_true rfl) hc rfl (by decide +kernel) (fun z I2 R2 hq => ?_)
  exact (PW_sub (ls' := []) trivial (h z I2 R2 hq))
theorem S_X1_prepare_46 {X : CX} {d : Nat} {I R : PF} {Q : PV → PF → PF → Prop} (h : Q (9, 0) I R) : PN X d mX1_prepare 46 [] [] I R Q := by
  refine P_vret rfl (by decide +kernel) h
theorem S_X1_run_0 {X : CX} {d : Nat} {x1 : Int} {I R : PF} {Q : PV → PF → PF → Prop} (h : PN X d mX1_run 2 [(2, 127), (0, x1), (0, 0)] [] I R Q) : PN X d mX1_run 0 [(2, 127), (0, x1)] [] I R Q := by
  refine P_iconst (n := 0) (q := 1) rfl (by decide +kernel) ?_
  refine P_istore_n (n := 2) (by decide) (q := 2) rfl (by decide +kernel) ?_
  exact h
theorem S_X1_run_2 {X : CX} {d : Nat} {x1 x2 t1 : Int} {I R : PF} {Q : PV → PF → PF → Prop} (hs : Shp R) (r1 : R 127 1 = t1) (k1 : kd MF t1 = 8) (b1 : (0 : Int) ≤ x1 ∧ x1 < 6) (c1 : -2147483648 ≤ x2 ∧ x2 < 2147483648) (c2 : -2147483648 ≤ (I (t1 + 2 + x1) 3) ∧ (I (t1 + 2 + x1) 3) < 2147483648) (h1 : (I (t1 + 2 + x1) 3) ≤ x2 → PN X d mX1_run 32 [] [] I R Q) (h2 : x2 < (I (t1 + 2 + x1) 3) → PN X d mX1_run 17 [(2, 127), (0, x1), (0, x2)] [] I R Q) : PN X d mX1_run 2 [(2, 127), (0, x1), (0, x2)] [] I R Q := by
  refine P_iload_n (n := 2) (q := 3) rfl rfl (by decide +kernel) ?_
  refine P_aload_n (n := 0) (q := 4) rfl rfl (by decide +kernel) ?_
  refine B_getfR (q := 7) fX1_60 kM127 r1 rfl (by decide +kernel) ?_
  refine B_getfR (q := 10) fX1_154 k1 (sh8_4 hs k1) rfl (by decide +kernel) ?_
  refine P_iload_n (n := 1) (q := 11) rfl rfl (by decide +kernel) ?_
  refine B_aaloadI (q := 12) (st1 k1) (st1n k1) (by decide) b1 (sh8_r hs k1 b1.1 b1.2) rfl (by decide +kernel) ?_
  refine P_iconst (n := 3) (q := 13) rfl (by decide +kernel) ?_
  refine B_iaload (q := 14) (stR k1 b1.1 b1.2).1 (stR k1 b1.1 b1.2).2 (by decide) ⟨by decide, by decide⟩ rfl (by decide +kernel) ?_
  refine B_icmp_ge (off := 18) (t := 32) (q := 17) c1 c2 (by decide) rfl (by decide +kernel) ?_ ?_
  · exact fun g9 => (PW_sub (ls' := []) trivial (h1 g9))
  · exact fun g9 => (h2 g9)
theorem S_X1_run_17 {X : CX} {d d1 : Nat} {x1 x2 : Int} {I R : PF} {Q Q1 : PV → PF → PF → Prop} (e1 : d1 + 1 ≤ d) (hc : CN X d1 mX1_step [(2, 127), (0, x1)] I R Q1) (h : ∀ z I2 R2, Q1 (0, z) I2 R2 → PN X d mX1_run 22 [(2, 127), (0, x1), (0, x2)] [(0, z)] I2 R2 Q) : PN X d mX1_run 17 [(2, 127), (0, x1), (0, x2)] [] I R Q := by
  refine P_aload_n (n := 0) (q := 18) rfl rfl (by decide +kernel) ?_
  refine P_iload_n (n := 1) (q := 19) rfl rfl (by decide +kernel) ?_
  refine P_invV (As := [(0, x1)]) (q := 22) oX1_step rfl kM127 kX1_184 e1 hMF (Nat.le_of_ble_eq_true rfl) hc rfl (by decide +kernel) (fun z I2 R2 hq => ?_)
  exact (h z I2 R2 hq)
theorem S_X1_run_22 {X : CX} {d : Nat} {x1 x2 o0 : Int} {I R : PF} {Q : PV → PF → PF → Prop} (c1 : -2147483648 ≤ o0 ∧ o0 < 2147483648) (h1 : o0 ≠ 0 → PN X d mX1_run 26 [(2, 127), (0, x1), (0, x2)] [] I R Q) (h2 : o0 = 0 → PN X d mX1_run 25 [] [] I R Q) : PN X d mX1_run 22 [(2, 127), (0, x1), (0, x2)] [(0, o0)] I R Q := by
  refine B_if_ne (off := 4) (t := 26) (q := 25) c1 (by decide) rfl (by decide +kernel) ?_ ?_
  · exact fun g9 => (h1 g9)
  · exact fun g9 => (PW_sub (ls' := []) trivial (h2 g9))
theorem S_X1_run_25 {X : CX} {d : Nat} {I R : PF} {Q : PV → PF → PF → Prop} (h : Q (9, 0) I R) : PN X d mX1_run 25 [] [] I R Q := by
  refine P_vret rfl (by decide +kernel) h
theorem S_X1_run_26 {X : CX} {d : Nat} {x1 x2 : Int} {I R : PF} {Q : PV → PF → PF → Prop} (h : PN X d mX1_run 2 [(2, 127), (0, x1), (0, (x2 + 1))] [] I R Q) : PN X d mX1_run 26 [(2, 127), (0, x1), (0, x2)] [] I R Q := by
  refine P_iinc (n := 2) (a := 1) (by decide) rfl (q := 29) rfl (by decide +kernel) ?_
  refine P_goto (off := (-27)) (t := 2) (by decide) (by decide +kernel) ?_
  exact h
theorem S_X1_run_32 {X : CX} {d : Nat} {I R : PF} {Q : PV → PF → PF → Prop} (h : Q (9, 0) I R) : PN X d mX1_run 32 [] [] I R Q := by
  refine P_vret rfl (by decide +kernel) h
theorem S_X1_step_0 {X : CX} {d d1 : Nat} {x1 : Int} {I R : PF} {Q Q1 : PV → PF → PF → Prop} (hs : Shp R) (b1 : (0 : Int) ≤ x1 ∧ x1 < 6) (e1 : d1 + 1 ≤ d) (hc : CN X d1 mX1_farFromHat [(2, 127), (0, (I 128 x1)), (0, (I 129 x1))] I R Q1) (h : ∀ z I2 R2, Q1 (0, z) I2 R2 → PN X d mX1_step 16 [(2, 127), (0, x1)] [(0, z)] I2 R2 Q) : PN X d mX1_step 0 [(2, 127), (0, x1)] [] I R Q := by
  refine P_aload_n (n := 0) (q := 1) rfl rfl (by decide +kernel) ?_
  refine P_aload_n (n := 0) (q := 2) rfl rfl (by decide +kernel) ?_
  refine B_getfR (q := 5) fX1_31 kM127 (rM127_8 hs) rfl (by decide +kernel) ?_
  refine P_iload_n (n := 1) (q := 6) rfl rfl (by decide +kernel) ?_
  refine B_iaload (q := 7) kM128 nM128 (by decide) b1 rfl (by decide +kernel) ?_
  refine P_aload_n (n := 0) (q := 8) rfl rfl (by decide +kernel) ?_
  refine B_getfR (q := 11) fX1_35 kM127 (rM127_9 hs) rfl (by decide +kernel) ?_
  refine P_iload_n (n := 1) (q := 12) rfl rfl (by decide +kernel) ?_
  refine B_iaload (q := 13) kM129 nM129 (by decide) b1 rfl (by decide +kernel) ?_
  refine P_invV (As := [(0, (I 128 x1)), (0, (I 129 x1))]) (q := 16) oX1_farFromHat rfl kM127 kX1_187 e1 hMF (Nat.le_of_ble_eq_true rfl) hc rfl (by decide +kernel) (fun z I2 R2 hq => ?_)
  exact (h z I2 R2 hq)
theorem S_X1_step_16 {X : CX} {d : Nat} {x1 o0 : Int} {I R : PF} {Q : PV → PF → PF → Prop} (h : PN X d mX1_step 19 [(2, 127), (0, x1), (0, o0), (0, 1)] [] I R Q) : PN X d mX1_step 16 [(2, 127), (0, x1)] [(0, o0)] I R Q := by
  refine P_istore_n (n := 2) (by decide) (q := 17) rfl (by decide +kernel) ?_
  refine P_iconst (n := 1) (q := 18) rfl (by decide +kernel) ?_
  refine P_istore_n (n := 3) (by decide) (q := 19) rfl (by decide +kernel) ?_
  exact h
theorem S_X1_step_19 {X : CX} {d : Nat} {x1 x2 x3 : Int} {I R : PF} {Q : PV → PF → PF → Prop} (c1 : -2147483648 ≤ x3 ∧ x3 < 2147483648) (h1 : 9 ≤ x3 → PN X d mX1_step 171 [] [] I R Q) (h2 : x3 < 9 → PN X d mX1_step 25 [(2, 127), (0, x1), (0, x2), (0, x3)] [] I R Q) : PN X d mX1_step 19 [(2, 127), (0, x1), (0, x2), (0, x3)] [] I R Q := by
  refine P_iload_n (n := 3) (q := 20) rfl rfl (by decide +kernel) ?_
  refine P_bipush (n := 9) (q := 22) rfl rfl (by decide +kernel) ?_
  refine B_icmp_ge (off := 149) (t := 171) (q := 25) c1 ⟨by decide, by decide⟩ (by decide) rfl (by decide +kernel) ?_ ?_
  · exact fun g9 => (PW_sub (ls' := []) trivial (h1 g9))
  · exact fun g9 => (h2 g9)
theorem S_X1_step_25 {X : CX} {d : Nat} {x1 x2 x3 : Int} {I R : PF} {Q : PV → PF → PF → Prop} (c1 : -2147483648 ≤ x2 ∧ x2 < 2147483648) (h1 : x2 ≤ 0 → PN X d mX1_step 171 [] [] I R Q) (h2 : 0 < x2 → PN X d mX1_step 29 [(2, 127), (0, x1), (0, x2), (0, x3)] [] I R Q) : PN X d mX1_step 25 [(2, 127), (0, x1), (0, x2), (0, x3)] [] I R Q := by
  refine P_iload_n (n := 2) (q := 26) rfl rfl (by decide +kernel) ?_
  refine B_if_le (off := 145) (t := 171) (q := 29) c1 (by decide) rfl (by decide +kernel) ?_ ?_
  · exact fun g9 => (PW_sub (ls' := []) trivial (h1 g9))
  · exact fun g9 => (h2 g9)
theorem S_X1_step_29 {X : CX} {d d1 : Nat} {x1 x2 x3 : Int} {I R : PF} {Q Q1 : PV → PF → PF → Prop} (hs : Shp R) (b1 : (0 : Int) ≤ x1 ∧ x1 < 6) (b2 : (0 : Int) ≤ x3 ∧ x3 < 9) (e1 : d1 + 1 ≤ d) (hc : CN X d1 mX1_farFromHat [(2, 127), (0, ((I 128 x1) + ((sT 40).getD (x3).toNat 0))), (0, ((I 129 x1) + ((sT 41).getD (x3).toNat 0)))] I R Q1) (h : ∀ z I2 R2, Q1 (0, z) I2 R2 → PN X d mX1_step 65 [(2, 127), (0, x1), (0, x2), (0, x3), (0, ((I 128 x1) + ((sT 40).getD (x3).toNat 0))), (0, ((I 129 x1) + ((sT 41).getD (x3).toNat 0)))] [(0, z)] I2 R2 Q) : PN X d mX1_step 29 [(2, 127), (0, x1), (0, x2), (0, x3)] [] I R Q := by
  refine P_aload_n (n := 0) (q := 30) rfl rfl (by decide +kernel) ?_
  refine B_getfR (q := 33) fX1_31 kM127 (rM127_8 hs) rfl (by decide +kernel) ?_
  refine P_iload_n (n := 1) (q := 34) rfl rfl (by decide +kernel) ?_
  refine B_iaload (q := 35) kM128 nM128 (by decide) b1 rfl (by decide +kernel) ?_
  refine P_gets (o := 40) (q := 38) (fun _ _ h => z40 h) ⟨by decide, by decide⟩ gX1_190 rfl (by decide +kernel) ?_
  refine P_iload_n (n := 3) (q := 39) rfl rfl (by decide +kernel) ?_
  refine B_ialoadS (q := 40) ⟨by decide, by decide⟩ (by decide) b2 rfl (by decide +kernel) ?_
  refine P_iadd (q := 41) rfl (by decide +kernel) ?_
  refine P_istore (n := 4) (by decide) (q := 43) rfl (by decide +kernel) ?_
  refine P_aload_n (n := 0) (q := 44) rfl rfl (by decide +kernel) ?_
  refine B_getfR (q := 47) fX1_35 kM127 (rM127_9 hs) rfl (by decide +kernel) ?_
  refine P_iload_n (n := 1) (q := 48) rfl rfl (by decide +kernel) ?_
  refine B_iaload (q := 49) kM129 nM129 (by decide) b1 rfl (by decide +kernel) ?_
  refine P_gets (o := 41) (q := 52) (fun _ _ h => z41 h) ⟨by decide, by decide⟩ gX1_193 rfl (by decide +kernel) ?_
  refine P_iload_n (n := 3) (q := 53) rfl rfl (by decide +kernel) ?_
  refine B_ialoadS (q := 54) ⟨by decide, by decide⟩ (by decide) b2 rfl (by decide +kernel) ?_
  refine P_iadd (q := 55) rfl (by decide +kernel) ?_
  refine P_istore (n := 5) (by decide) (q := 57) rfl (by decide +kernel) ?_
  refine P_aload_n (n := 0) (q := 58) rfl rfl (by decide +kernel) ?_
  refine P_iload (n := 4) (q := 60) rfl rfl (by decide +kernel) ?_
  refine P_iload (n := 5) (q := 62) rfl rfl (by decide +kernel) ?_
  refine P_invV (As := [(0, ((I 128 x1) + ((sT 40).getD (x3).toNat 0))), (0, ((I 129 x1) + ((sT 41).getD (x3).toNat 0)))]) (q := 65) oX1_farFromHat rfl kM127 kX1_187 e1 hMF (Nat.le_of_ble_eq_true rfl) hc rfl (by decide +kernel) (fun z I2 R2 hq => ?_)
  exact (h z I2 R2 hq)
theorem S_X1_step_65 {X : CX} {d : Nat} {x1 x2 x3 x4 x5 o0 : Int} {I R : PF} {Q : PV → PF → PF → Prop} (c1 : -2147483648 ≤ o0 ∧ o0 < 2147483648) (c2 : -2147483648 ≤ x2 ∧ x2 < 2147483648) (h1 : x2 ≤ o0 → PN X d mX1_step 87 [(2, 127), (0, x1), (0, x2), (0, x3), (0, x4), (0, x5)] [] I R Q) (h2 : o0 < x2 → PN X d mX1_step 69 [(2, 127), (0, x1), (0, x2), (0, x3), (0, x4), (0, x5)] [] I R Q) : PN X d mX1_step 65 [(2, 127), (0, x1), (0, x2), (0, x3), (0, x4), (0, x5)] [(0, o0)] I R Q := by
  refine P_iload_n (n := 2) (q := 66) rfl rfl (by decide +kernel) ?_
  refine B_icmp_ge (off := 21) (t := 87) (q := 69) c1 c2 (by decide) rfl (by decide +kernel) ?_ ?_
  · exact fun g9 => (h1 g9)
  · exact fun g9 => (h2 g9)
theorem S_X1_step_69 {X : CX} {d d1 : Nat} {x1 x2 x3 x4 x5 t1 : Int} {I R : PF} {Q Q1 : PV → PF → PF → Prop} (r1 : R 127 0 = t1) (e1 : d1 + 1 ≤ d) (hc : CN X d1 mX6_within [(2, t1), (0, x4), (0, x5)] I R Q1) (k1 : kd MF t1 = 6) (h : ∀ z I2 R2, Q1 (0, z) I2 R2 → PN X d mX1_step 80 [(2, 127), (0, x1), (0, x2), (0, x3), (0, x4), (0, x5)] [(0, z)] I2 R2 Q) : PN X d mX1_step 69 [(2, 127), (0, x1), (0, x2), (0, x3), (0, x4), (0, x5)] [] I R Q := by
  refine P_aload_n (n := 0) (q := 70) rfl rfl (by decide +kernel) ?_
  refine B_getfR (q := 73) fX1_56 kM127 r1 rfl (by decide +kernel) ?_
  refine P_iload (n := 4) (q := 75) rfl rfl (by decide +kernel) ?_
  refine P_iload (n := 5) (q := 77) rfl rfl (by decide +kernel) ?_
  refine P_invV (As := [(0, x4), (0, x5)]) (q := 80) oX6_within rfl k1 kX1_196 e1 hMF (Nat.le_of_ble_eq_true rfl) hc rfl (by decide +kernel) (fun z I2 R2 hq => ?_)
  exact (h z I2 R2 hq)
theorem S_X1_step_80 {X : CX} {d : Nat} {x1 x2 x3 x4 x5 o0 : Int} {I R : PF} {Q : PV → PF → PF → Prop} (c1 : -2147483648 ≤ o0 ∧ o0 < 2147483648) (h1 : o0 = 0 → PN X d mX1_step 87 [(2, 127), (0, x1), (0, x2), (0, x3), (0, x4), (0, x5)] [] I R Q) (h2 : o0 ≠ 0 → PN X d mX1_step 83 [(2, 127), (0, x1), (0, x2), (0, x3), (0, x4), (0, x5)] [] I R Q) : PN X d mX1_step 80 [(2, 127), (0, x1), (0, x2), (0, x3), (0, x4), (0, x5)] [(0, o0)] I R Q := by
  refine B_if_eq (off := 7) (t := 87) (q := 83) c1 (by decide) rfl (by decide +kernel) ?_ ?_
  · exact fun g9 => (h1 g9)
  · exact fun g9 => (h2 g9)
theorem S_X1_step_83 {X : CX} {d : Nat} {x1 x2 x3 x4 x5 : Int} {I R : PF} {Q : PV → PF → PF → Prop} (h : PN X d mX1_step 88 [(2, 127), (0, x1), (0, x2), (0, x3), (0, x4), (0, x5)] [(0, 1)] I R Q) : PN X d mX1_step 83 [(2, 127), (0, x1), (0, x2), (0, x3), (0, x4), (0, x5)] [] I R Q := by
  refine P_iconst (n := 1) (q := 84) rfl (by decide +kernel) ?_
  refine P_goto (off := 4) (t := 88) (by decide) (by decide +kernel) ?_
  exact h
theorem S_X1_step_87 {X : CX} {d : Nat} {x1 x2 x3 x4 x5 : Int} {I R : PF} {Q : PV → PF → PF → Prop} (h : PN X d mX1_step 88 [(2, 127), (0, x1), (0, x2), (0, x3), (0, x4), (0, x5)] [(0, 0)] I R Q) : PN X d mX1_step 87 [(2, 127), (0, x1), (0, x2), (0, x3), (0, x4), (0, x5)] [] I R Q := by
  refine P_iconst (n := 0) (q := 88) rfl (by decide +kernel) ?_
  exact h
theorem S_X1_step_88 {X : CX} {d : Nat} {x1 x2 x3 x4 x5 o0 : Int} {I R : PF} {Q : PV → PF → PF → Prop} (c1 : -2147483648 ≤ o0 ∧ o0 < 2147483648) (h1 : o0 = 0 → PN X d mX1_step 165 [(2, 127), (0, x1), (0, x2), (0, x3)] [] I R Q) (h2 : o0 ≠ 0 → PN X d mX1_step 95 [(2, 127), (0, x1), (0, x2), (0, x3), (0, x4), (0, x5)] [] I R Q) : PN X d mX1_step 88 [(2, 127), (0, x1), (0, x2), (0, x3), (0, x4), (0, x5)] [(0, o0)] I R Q := by
  refine P_istore (n := 6) (by decide) (q := 90) rfl (by decide +kernel) ?_
  refine P_iload (n := 6) (q := 92) rfl rfl (by decide +kernel) ?_
  refine B_if_eq (off := 73) (t := 165) (q := 95) c1 (by decide) rfl (by decide +kernel) ?_ ?_
  · exact fun g9 => (PW_sub (ls' := [(2, 127), (0, x1), (0, x2), (0, x3)]) ⟨Or.inr rfl, Or.inr rfl, Or.inr rfl, Or.inr rfl, trivial⟩ (h1 g9))
  · exact fun g9 => (PW_sub (ls' := [(2, 127), (0, x1), (0, x2), (0, x3), (0, x4), (0, x5)]) ⟨Or.inr rfl, Or.inr rfl, Or.inr rfl, Or.inr rfl, Or.inr rfl, Or.inr rfl, trivial⟩ (h2 g9))
theorem S_X1_step_95 {X : CX} {d : Nat} {x1 x2 x3 x4 x5 : Int} {I R : PF} {Q : PV → PF → PF → Prop} (hs : Shp R) (b1 : (0 : Int) ≤ ((9 * x5) + x4) ∧ ((9 * x5) + x4) < 81) (c1 : -2147483648 ≤ (I 130 ((9 * x5) + x4)) ∧ (I 130 ((9 * x5) + x4)) < 2147483648) (h1 : (I 130 ((9 * x5) + x4)) ≠ 0 → PN X d mX1_step 165 [(2, 127), (0, x1), (0, x2), (0, x3)] [] I R Q) (h2 : (I 130 ((9 * x5) + x4)) = 0 → PN X d mX1_step 111 [(2, 127), (0, x1), (9, 0), (9, 0), (0, x4), (0, x5)] [] I R Q) : PN X d mX1_step 95 [(2, 127), (0, x1), (0, x2), (0, x3), (0, x4), (0, x5)] [] I R Q := by
  refine P_aload_n (n := 0) (q := 96) rfl rfl (by decide +kernel) ?_
  refine B_getfR (q := 99) fX1_38 kM127 (rM127_10 hs) rfl (by decide +kernel) ?_
  refine P_bipush (n := 9) (q := 101) rfl rfl (by decide +kernel) ?_
  refine P_iload (n := 5) (q := 103) rfl rfl (by decide +kernel) ?_
  refine P_imul (q := 104) rfl (by decide +kernel) ?_
  refine P_iload (n := 4) (q := 106) rfl rfl (by decide +kernel) ?_
  refine P_iadd (q := 107) rfl (by decide +kernel) ?_
  refine B_iaload (q := 108) kM130 nM130 (by decide) b1 rfl (by decide +kernel) ?_
  refine B_if_ne (off := 57) (t := 165) (q := 111) c1 (by decide) rfl (by decide +kernel) ?_ ?_
  · exact fun g9 => (PW_sub (ls' := [(2, 127), (0, x1), (0, x2), (0, x3)]) ⟨Or.inr rfl, Or.inr rfl, Or.inr rfl, Or.inr rfl, trivial⟩ (h1 g9))
  · exact fun g9 => (PW_sub (ls' := [(2, 127), (0, x1), (9, 0), (9, 0), (0, x4), (0, x5)]) ⟨Or.inr rfl, Or.inr rfl, Or.inl rfl, Or.inl rfl, Or.inr rfl, Or.inr rfl, trivial⟩ (h2 g9))
theorem S_X1_step_111 {X : CX} {d : Nat} {x1 x4 x5 : Int} {I R : PF} {Q : PV → PF → PF → Prop} (hs : Shp R) (b1 : (0 : Int) ≤ x1 ∧ x1 < 6) (b2 : (0 : Int) ≤ ((9 * (I 129 x1)) + (I 128 x1)) ∧ ((9 * (I 129 x1)) + (I 128 x1)) < 81) (b3 : (0 : Int) ≤ ((9 * x5) + x4) ∧ ((9 * x5) + x4) < 81) (h : Q (0, 1) (u2 (u2 (u2 (u2 I 130 ((9 * (I 129 x1)) + (I 128 x1)) 0) 128 x1 x4) 129 x1 x5) 130 ((9 * x5) + x4) 1) R) : PN X d mX1_step 111 [(2, 127), (0, x1), (9, 0), (9, 0), (0, x4), (0, x5)] [] I R Q := by
  refine P_aload_n (n := 0) (q := 112) rfl rfl (by decide +kernel) ?_
  refine B_getfR (q := 115) fX1_38 kM127 (rM127_10 hs) rfl (by decide +kernel) ?_
  refine P_bipush (n := 9) (q := 117) rfl rfl (by decide +kernel) ?_
  refine P_aload_n (n := 0) (q := 118) rfl rfl (by decide +kernel) ?_
  refine B_getfR (q := 121) fX1_35 kM127 (rM127_9 hs) rfl (by decide +kernel) ?_
  refine P_iload_n (n := 1) (q := 122) rfl rfl (by decide +kernel) ?_
  refine B_iaload (q := 123) kM129 nM129 (by decide) b1 rfl (by decide +kernel) ?_
  refine P_imul (q := 124) rfl (by decide +kernel) ?_
  refine P_aload_n (n := 0) (q := 125) rfl rfl (by decide +kernel) ?_
  refine B_getfR (q := 128) fX1_31 kM127 (rM127_8 hs) rfl (by decide +kernel) ?_
  refine P_iload_n (n := 1) (q := 129) rfl rfl (by decide +kernel) ?_
  refine B_iaload (q := 130) kM128 nM128 (by decide) b1 rfl (by decide +kernel) ?_
  refine P_iadd (q := 131) rfl (by decide +kernel) ?_
  refine P_iconst (n := 0) (q := 132) rfl (by decide +kernel) ?_
  refine B_iastore (q := 133) kM130 nM130 (by decide) b2 rfl (by decide +kernel) ?_
  refine P_aload_n (n := 0) (q := 134) rfl rfl (by decide +kernel) ?_
  refine B_getfR (q := 137) fX1_31 kM127 (rM127_8 hs) rfl (by decide +kernel) ?_
  refine P_iload_n (n := 1) (q := 138) rfl rfl (by decide +kernel) ?_
  refine P_iload (n := 4) (q := 140) rfl rfl (by decide +kernel) ?_
  refine B_iastore (q := 141) kM128 nM128 (by decide) b1 rfl (by decide +kernel) ?_
  refine P_aload_n (n := 0) (q := 142) rfl rfl (by decide +kernel) ?_
  refine B_getfR (q := 145) fX1_35 kM127 (rM127_9 hs) rfl (by decide +kernel) ?_
  refine P_iload_n (n := 1) (q := 146) rfl rfl (by decide +kernel) ?_
  refine P_iload (n := 5) (q := 148) rfl rfl (by decide +kernel) ?_
  refine B_iastore (q := 149) kM129 nM129 (by decide) b1 rfl (by decide +kernel) ?_
  refine P_aload_n (n := 0) (q := 150) rfl rfl (by decide +kernel) ?_
  refine B_getfR (q := 153) fX1_38 kM127 (rM127_10 hs) rfl (by decide +kernel) ?_
  refine P_bipush (n := 9) (q := 155) rfl rfl (by decide +kernel) ?_
  refine P_iload (n := 5) (q := 157) rfl rfl (by decide +kernel) ?_
  refine P_imul (q := 158) rfl (by decide +kernel) ?_
  refine P_iload (n := 4) (q := 160) rfl rfl (by decide +kernel) ?_
  refine P_iadd (q := 161) rfl (by decide +kernel) ?_
  refine P_iconst (n := 1) (q := 162) rfl (by decide +kernel) ?_
  refine B_iastore (q := 163) kM130 nM130 (by decide) b3 rfl (by decide +kernel) ?_
  refine P_iconst (n := 1) (q := 164) rfl (by decide +kernel) ?_
  refine P_zret rfl (Or.inr rfl) (by decide +kernel) h
theorem S_X1_step_165 {X : CX} {d : Nat} {x1 x2 x3 : Int} {I R : PF} {Q : PV → PF → PF → Prop} (h : PN X d mX1_step 19 [(2, 127), (0, x1), (0, x2), (0, (x3 + 1))] [] I R Q) : PN X d mX1_step 165 [(2, 127), (0, x1), (0, x2), (0, x3)] [] I R Q := by
  refine P_iinc (n := 3) (a := 1) (by decide) rfl (q := 168) rfl (by decide +kernel) ?_
  refine P_goto (off := (-149)) (t := 19) (by decide) (by decide +kernel) ?_
  exact (PW_sub (ls' := [(2, 127), (0, x1), (0, x2), (0, (x3 + 1))]) ⟨Or.inr rfl, Or.inr rfl, Or.inr rfl, Or.inr rfl, trivial⟩ h)
theorem S_X1_step_171 {X : CX} {d : Nat} {I R : PF} {Q : PV → PF → PF → Prop} (h : Q (0, 0) I R) : PN X d mX1_step 171 [] [] I R Q := by
  refine P_iconst (n := 0) (q := 172) rfl (by decide +kernel) ?_
  refine P_zret rfl (Or.inl rfl) (by decide +kernel) h
theorem S_X1_tally_0 {X : CX} {d d1 : Nat} {I R : PF} {Q Q1 : PV → PF → PF → Prop} (hs : Shp R) (e1 : d1 + 1 ≤ d) (hc : CN X d1 mJ7_fill_53178 [(2, 135), (0, 0)] I R Q1) (h : ∀ z I2 R2, Q1 (9, z) I2 R2 → PN X d mX1_tally 8 [(2, 127)] [] I2 R2 Q) : PN X d mX1_tally 0 [(2, 127)] [] I R Q := by
  refine P_aload_n (n := 0) (q := 1) rfl rfl (by decide +kernel) ?_
  refine B_getfR (q := 4) fX1_53 kM127 (rM127_15 hs) rfl (by decide +kernel) ?_
  refine P_iconst (n := 0) (q := 5) rfl (by decide +kernel) ?_
  refine P_invS (As := [(2, 135), (0, 0)]) (q := 8) oJ7_fill_53178 rfl (Or.inl kX1_64) e1 hMF (Nat.le_of_ble_eq_true rfl) hc rfl (by decide +kernel) (fun z I2 R2 hq => ?_)
  exact (h z I2 R2 hq)
theorem S_X1_tally_8 {X : CX} {d : Nat} {I R : PF} {Q : PV → PF → PF → Prop} (h : PN X d mX1_tally 10 [(2, 127), (0, 0)] [] I R Q) : PN X d mX1_tally 8 [(2, 127)] [] I R Q := by
  refine P_iconst (n := 0) (q := 9) rfl (by decide +kernel) ?_
  refine P_istore_n (n := 1) (by decide) (q := 10) rfl (by decide +kernel) ?_
  exact h
theorem S_X1_tally_10 {X : CX} {d : Nat} {x1 : Int} {I R : PF} {Q : PV → PF → PF → Prop} (c1 : -2147483648 ≤ x1 ∧ x1 < 2147483648) (h1 : 33 ≤ x1 → PN X d mX1_tally 49 [] [] I R Q) (h2 : x1 < 33 → PN X d mX1_tally 16 [(2, 127), (0, x1)] [] I R Q) : PN X d mX1_tally 10 [(2, 127), (0, x1)] [] I R Q := by
  refine P_iload_n (n := 1) (q := 11) rfl rfl (by decide +kernel) ?_
  refine P_bipush (n := 33) (q := 13) rfl rfl (by decide +kernel) ?_
  refine B_icmp_ge (off := 36) (t := 49) (q := 16) c1 ⟨by decide, by decide⟩ (by decide) rfl (by decide +kernel) ?_ ?_
  · exact fun g9 => (PW_sub (ls' := []) trivial (h1 g9))
  · exact fun g9 => (h2 g9)
theorem S_X1_tally_16 {X : CX} {d d1 : Nat} {x1 : Int} {I R : PF} {Q Q1 : PV → PF → PF → Prop} (e1 : d1 + 1 ≤ d) (hc : CN X d1 mX1_got [(2, 127), (0, x1)] I R Q1) (h : ∀ z I2 R2, Q1 (0, z) I2 R2 → PN X d mX1_tally 21 [(2, 127), (0, x1)] [(0, z)] I2 R2 Q) : PN X d mX1_tally 16 [(2, 127), (0, x1)] [] I R Q := by
  refine P_aload_n (n := 0) (q := 17) rfl rfl (by decide +kernel) ?_
  refine P_iload_n (n := 1) (q := 18) rfl rfl (by decide +kernel) ?_
  refine P_invV (As := [(0, x1)]) (q := 21) oX1_got rfl kM127 kX1_105 e1 hMF (Nat.le_of_ble_eq_true rfl) hc rfl (by decide +kernel) (fun z I2 R2 hq => ?_)
  exact (h z I2 R2 hq)
theorem S_X1_tally_21 {X : CX} {d d1 : Nat} {x1 o0 t1 : Int} {I R : PF} {Q Q1 : PV → PF → PF → Prop} (r1 : R 127 1 = t1) (e1 : d1 + 1 ≤ d) (hc : CN X d1 mX8_knows [(2, t1), (0, o0)] I R Q1) (k1 : kd MF t1 = 8) (h : ∀ z I2 R2, Q1 (0, z) I2 R2 → PN X d mX1_tally 30 [(2, 127), (0, x1), (0, o0)] [(0, z)] I2 R2 Q) : PN X d mX1_tally 21 [(2, 127), (0, x1)] [(0, o0)] I R Q := by
  refine P_istore_n (n := 2) (by decide) (q := 22) rfl (by decide +kernel) ?_
  refine P_aload_n (n := 0) (q := 23) rfl rfl (by decide +kernel) ?_
  refine B_getfR (q := 26) fX1_60 kM127 r1 rfl (by decide +kernel) ?_
  refine P_iload_n (n := 2) (q := 27) rfl rfl (by decide +kernel) ?_
  refine P_invV (As := [(0, o0)]) (q := 30) oX8_knows rfl k1 kX1_109 e1 hMF (Nat.le_of_ble_eq_true rfl) hc rfl (by decide +kernel) (fun z I2 R2 hq => ?_)
  exact (h z I2 R2 hq)
theorem S_X1_tally_30 {X : CX} {d : Nat} {x1 x2 o0 : Int} {I R : PF} {Q : PV → PF → PF → Prop} (c1 : -2147483648 ≤ o0 ∧ o0 < 2147483648) (h1 : o0 = 0 → PN X d mX1_tally 43 [(2, 127), (0, x1)] [] I R Q) (h2 : o0 ≠ 0 → PN X d mX1_tally 33 [(2, 127), (0, x1), (0, x2)] [] I R Q) : PN X d mX1_tally 30 [(2, 127), (0, x1), (0, x2)] [(0, o0)] I R Q := by
  refine B_if_eq (off := 13) (t := 43) (q := 33) c1 (by decide) rfl (by decide +kernel) ?_ ?_
  · exact fun g9 => (PW_sub (ls' := [(2, 127), (0, x1)]) ⟨Or.inr rfl, Or.inr rfl, trivial⟩ (h1 g9))
  · exact fun g9 => (h2 g9)
theorem S_X1_tally_33 {X : CX} {d : Nat} {x1 x2 : Int} {I R : PF} {Q : PV → PF → PF → Prop} (hs : Shp R) (b1 : (0 : Int) ≤ x2 ∧ x2 < 6) (h : PN X d mX1_tally 43 [(2, 127), (0, x1)] [] (u2 I 135 x2 ((I 135 x2) + 1)) R Q) : PN X d mX1_tally 33 [(2, 127), (0, x1), (0, x2)] [] I R Q := by
  refine P_aload_n (n := 0) (q := 34) rfl rfl (by decide +kernel) ?_
  refine B_getfR (q := 37) fX1_53 kM127 (rM127_15 hs) rfl (by decide +kernel) ?_
  refine P_iload_n (n := 2) (q := 38) rfl rfl (by decide +kernel) ?_
  refine P_dup2 (q := 39) (Nat.ne_of_beq_eq_false rfl) (Nat.ne_of_beq_eq_false rfl) rfl (by decide +kernel) ?_
  refine B_iaload (q := 40) kM135 nM135 (by decide) b1 rfl (by decide +kernel) ?_
  refine P_iconst (n := 1) (q := 41) rfl (by decide +kernel) ?_
  refine P_iadd (q := 42) rfl (by decide +kernel) ?_
  refine B_iastore (q := 43) kM135 nM135 (by decide) b1 rfl (by decide +kernel) ?_
  exact (PW_sub (ls' := [(2, 127), (0, x1)]) ⟨Or.inr rfl, Or.inr rfl, trivial⟩ h)
theorem S_X1_tally_43 {X : CX} {d : Nat} {x1 : Int} {I R : PF} {Q : PV → PF → PF → Prop} (h : PN X d mX1_tally 10 [(2, 127), (0, (x1 + 1))] [] I R Q) : PN X d mX1_tally 43 [(2, 127), (0, x1)] [] I R Q := by
  refine P_iinc (n := 1) (a := 1) (by decide) rfl (q := 46) rfl (by decide +kernel) ?_
  refine P_goto (off := (-36)) (t := 10) (by decide) (by decide +kernel) ?_
  exact (PW_sub (ls' := [(2, 127), (0, (x1 + 1))]) ⟨Or.inr rfl, Or.inr rfl, trivial⟩ h)
theorem S_X1_tally_49 {X : CX} {d : Nat} {I R : PF} {Q : PV → PF → PF → Prop} (h : Q (9, 0) I R) : PN X d mX1_tally 49 [] [] I R Q := by
  refine P_vret rfl (by decide +kernel) h
theorem S_X1_valueFor_0 {X : CX} {d d1 : Nat} {x1 a2 t1 : Int} {I R : PF} {Q Q1 : PV → PF → PF → Prop} (r1 : R 127 1 = t1) (e1 : d1 + 1 ≤ d) (hc : CN X d1 mX8_knows [(2, t1), (0, x1)] I R Q1) (k1 : kd MF t1 = 8) (h : ∀ z I2 R2, Q1 (0, z) I2 R2 → PN X d mX1_valueFor 8 [(2, 127), (0, x1), (2, a2)] [(0, z)] I2 R2 Q) : PN X d mX1_valueFor 0 [(2, 127), (0, x1), (2, a2)] [] I R Q := by
  refine P_aload_n (n := 0) (q := 1) rfl rfl (by decide +kernel) ?_
  refine B_getfR (q := 4) fX1_60 kM127 r1 rfl (by decide +kernel) ?_
  refine P_iload_n (n := 1) (q := 5) rfl rfl (by decide +kernel) ?_
  refine P_invV (As := [(0, x1)]) (q := 8) oX8_knows rfl k1 kX1_109 e1 hMF (Nat.le_of_ble_eq_true rfl) hc rfl (by decide +kernel) (fun z I2 R2 hq => ?_)
  exact (h z I2 R2 hq)
theorem S_X1_valueFor_8 {X : CX} {d : Nat} {x1 a2 o0 : Int} {I R : PF} {Q : PV → PF → PF → Prop} (c1 : -2147483648 ≤ o0 ∧ o0 < 2147483648) (h1 : o0 ≠ 0 → PN X d mX1_valueFor 13 [(2, 127), (0, x1), (2, a2)] [] I R Q) (h2 : o0 = 0 → PN X d mX1_valueFor 11 [] [] I R Q) : PN X d mX1_valueFor 8 [(2, 127), (0, x1), (2, a2)] [(0, o0)] I R Q := by
  refine B_if_ne (off := 5) (t := 13) (q := 11) c1 (by decide) rfl (by decide +kernel) ?_ ?_
  · exact fun g9 => (h1 g9)
  · exact fun g9 => (PW_sub (ls' := []) trivial (h2 g9))
theorem S_X1_valueFor_11 {X : CX} {d : Nat} {I R : PF} {Q : PV → PF → PF → Prop} (h : Q (0, 0) I R) : PN X d mX1_valueFor 11 [] [] I R Q := by
  refine P_iconst (n := 0) (q := 12) rfl (by decide +kernel) ?_
  refine P_iret rfl (by decide +kernel) h
theorem S_X1_valueFor_13 {X : CX} {d d1 : Nat} {x1 a2 t1 : Int} {I R : PF} {Q Q1 : PV → PF → PF → Prop} (hs : Shp R) (r1 : R 127 1 = t1) (e1 : d1 + 1 ≤ d) (hc : CN X d1 mX8_tellFacts [(2, t1), (0, x1), (2, 131)] I R Q1) (k1 : kd MF t1 = 8) (h : ∀ z I2 R2, Q1 (9, z) I2 R2 → PN X d mX1_valueFor 25 [(2, 127), (0, x1), (2, a2)] [] I2 R2 Q) : PN X d mX1_valueFor 13 [(2, 127), (0, x1), (2, a2)] [] I R Q := by
  refine P_aload_n (n := 0) (q := 14) rfl rfl (by decide +kernel) ?_
  refine B_getfR (q := 17) fX1_60 kM127 r1 rfl (by decide +kernel) ?_
  refine P_iload_n (n := 1) (q := 18) rfl rfl (by decide +kernel) ?_
  refine P_aload_n (n := 0) (q := 19) rfl rfl (by decide +kernel) ?_
  refine B_getfR (q := 22) fX1_41 kM127 (rM127_11 hs) rfl (by decide +kernel) ?_
  refine P_invV (As := [(0, x1), (2, 131)]) (q := 25) oX8_tellFacts rfl k1 kX1_113 e1 hMF (Nat.le_of_ble_eq_true rfl) hc rfl (by decide +kernel) (fun z I2 R2 hq => ?_)
  exact (h z I2 R2 hq)
theorem S_X1_valueFor_25 {X : CX} {d d1 : Nat} {x1 a2 : Int} {I R : PF} {Q Q1 : PV → PF → PF → Prop} (hs : Shp R) (b1 : (0 : Int) ≤ x1 ∧ x1 < 6) (e1 : d1 + 1 ≤ d) (hc : CN X d1 mX2_valueBy [(2, a2), (2, 131)] (u2 I 131 12 (I 135 x1)) R Q1) (k1 : kd MF a2 = 2) (h : ∀ z I2 R2, Q1 (0, z) I2 R2 → PN X d mX1_valueFor 46 [] [(0, z)] I2 R2 Q) : PN X d mX1_valueFor 25 [(2, 127), (0, x1), (2, a2)] [] I R Q := by
  refine P_aload_n (n := 0) (q := 26) rfl rfl (by decide +kernel) ?_
  refine B_getfR (q := 29) fX1_41 kM127 (rM127_11 hs) rfl (by decide +kernel) ?_
  refine P_bipush (n := 12) (q := 31) rfl rfl (by decide +kernel) ?_
  refine P_aload_n (n := 0) (q := 32) rfl rfl (by decide +kernel) ?_
  refine B_getfR (q := 35) fX1_53 kM127 (rM127_15 hs) rfl (by decide +kernel) ?_
  refine P_iload_n (n := 1) (q := 36) rfl rfl (by decide +kernel) ?_
  refine B_iaload (q := 37) kM135 nM135 (by decide) b1 rfl (by decide +kernel) ?_
  refine B_iastore (q := 38) kM131 nM131 (by decide) ⟨by decide, by decide⟩ rfl (by decide +kernel) ?_
  refine P_aload_n (n := 2) (q := 39) rfl rfl (by decide +kernel) ?_
  refine P_aload_n (n := 0) (q := 40) rfl rfl (by decide +kernel) ?_
  refine B_getfR (q := 43) fX1_41 kM127 (rM127_11 hs) rfl (by decide +kernel) ?_
  refine P_invV (As := [(2, 131)]) (q := 46) oX2_valueBy rfl k1 kX1_117 e1 hMF (Nat.le_of_ble_eq_true rfl) hc rfl (by decide +kernel) (fun z I2 R2 hq => ?_)
  exact (PW_sub (ls' := []) trivial (h z I2 R2 hq))
theorem S_X1_valueFor_46 {X : CX} {d : Nat} {o0 : Int} {I R : PF} {Q : PV → PF → PF → Prop} (h : Q (0, o0) I R) : PN X d mX1_valueFor 46 [] [(0, o0)] I R Q := by
  refine P_iret rfl (by decide +kernel) h
theorem S_X1_wind_0 {X : CX} {d : Nat} {t1 : Int} {I R : PF} {Q : PV → PF → PF → Prop} (r1 : R 127 2 = t1) (h1 : t1 = 0 → PN X d mX1_wind 49 [(2, 127)] [] I R Q) (h2 : t1 ≠ 0 → PN X d mX1_wind 7 [(2, 127)] [] I R Q) : PN X d mX1_wind 0 [(2, 127)] [] I R Q := by
  refine P_aload_n (n := 0) (q := 1) rfl rfl (by decide +kernel) ?_
  refine B_getfR (q := 4) fX1_9 kM127 r1 rfl (by decide +kernel) ?_
  refine P_ifnull (off := 45) (t := 49) (q := 7) (by decide) rfl (by decide +kernel) ?_ ?_
  · exact fun g9 => (h1 g9)
  · exact fun g9 => (h2 g9)
theorem S_X1_wind_7 {X : CX} {d d1 : Nat} {t1 : Int} {I R : PF} {Q Q1 : PV → PF → PF → Prop} (r1 : R 127 2 = t1) (e1 : d1 + 1 ≤ d) (hc : CN X d1 mX0_draw [(2, t1), (0, 100)] I R Q1) (k1 : kd MF t1 = 0) (h : ∀ z I2 R2, Q1 (0, z) I2 R2 → PN X d mX1_wind 16 [(2, 127)] [(0, z)] I2 R2 Q) : PN X d mX1_wind 7 [(2, 127)] [] I R Q := by
  refine P_aload_n (n := 0) (q := 8) rfl rfl (by decide +kernel) ?_
  refine B_getfR (q := 11) fX1_9 kM127 r1 rfl (by decide +kernel) ?_
  refine P_bipush (n := 100) (q := 13) rfl rfl (by decide +kernel) ?_
  refine P_invV (As := [(0, 100)]) (q := 16) oX0_draw rfl k1 kX1_158 e1 hMF (Nat.le_of_ble_eq_true rfl) hc rfl (by decide +kernel) (fun z I2 R2 hq => ?_)
  exact (h z I2 R2 hq)
theorem S_X1_wind_16 {X : CX} {d : Nat} {o0 t1 : Int} {I R : PF} {Q : PV → PF → PF → Prop} (r1 : R 127 0 = t1) (k1 : kd MF t1 = 6) (c1 : -2147483648 ≤ o0 ∧ o0 < 2147483648) (c2 : -2147483648 ≤ (I t1 7) ∧ (I t1 7) < 2147483648) (h1 : (I t1 7) ≤ o0 → PN X d mX1_wind 49 [(2, 127)] [] I R Q) (h2 : o0 < (I t1 7) → PN X d mX1_wind 26 [(2, 127)] [] I R Q) : PN X d mX1_wind 16 [(2, 127)] [(0, o0)] I R Q := by
  refine P_aload_n (n := 0) (q := 17) rfl rfl (by decide +kernel) ?_
  refine B_getfR (q := 20) fX1_56 kM127 r1 rfl (by decide +kernel) ?_
  refine P_getf (q := 23) fX1_163 k1 rfl (by decide +kernel) ?_
  refine B_icmp_ge (off := 26) (t := 49) (q := 26) c1 c2 (by decide) rfl (by decide +kernel) ?_ ?_
  · exact fun g9 => (h1 g9)
  · exact fun g9 => (h2 g9)
theorem S_X1_wind_26 {X : CX} {d d1 : Nat} {t1 : Int} {I R : PF} {Q Q1 : PV → PF → PF → Prop} (r1 : R 127 2 = t1) (k1 : kd MF t1 = 0) (e1 : d1 + 1 ≤ d) (hc : CN X d1 mX0_draw [(2, t1), (0, 9)] (u2 I t1 1 ((I t1 1) + 1)) R Q1) (h : ∀ z I2 R2, Q1 (0, z) I2 R2 → PN X d mX1_wind 48 [] [(0, z)] I2 R2 Q) : PN X d mX1_wind 26 [(2, 127)] [] I R Q := by
  refine P_aload_n (n := 0) (q := 27) rfl rfl (by decide +kernel) ?_
  refine B_getfR (q := 30) fX1_9 kM127 r1 rfl (by decide +kernel) ?_
  refine P_dup (q := 31) (Nat.ne_of_beq_eq_false rfl) rfl (by decide +kernel) ?_
  refine P_getf (q := 34) fX1_166 k1 rfl (by decide +kernel) ?_
  refine P_iconst (n := 1) (q := 35) rfl (by decide +kernel) ?_
  refine P_iadd (q := 36) rfl (by decide +kernel) ?_
  refine P_putI (q := 39) wX1_166 (fun h => by cases h) k1 rfl (by decide +kernel) ?_
  refine P_aload_n (n := 0) (q := 40) rfl rfl (by decide +kernel) ?_
  refine B_getfR (q := 43) fX1_9 kM127 r1 rfl (by decide +kernel) ?_
  refine P_bipush (n := 9) (q := 45) rfl rfl (by decide +kernel) ?_
  refine P_invV (As := [(0, 9)]) (q := 48) oX0_draw rfl k1 kX1_158 e1 hMF (Nat.le_of_ble_eq_true rfl) hc rfl (by decide +kernel) (fun z I2 R2 hq => ?_)
  exact (PW_sub (ls' := []) trivial (h z I2 R2 hq))
theorem S_X1_wind_48 {X : CX} {d : Nat} {o0 : Int} {I R : PF} {Q : PV → PF → PF → Prop} (h : Q (0, o0) I R) : PN X d mX1_wind 48 [] [(0, o0)] I R Q := by
  refine P_iret rfl (by decide +kernel) h
theorem S_X1_wind_49 {X : CX} {d : Nat} {I R : PF} {Q : PV → PF → PF → Prop} (hs : Shp R) (b1 : (0 : Int) ≤ (I 127 5) ∧ (I 127 5) < 10) (c1 : -2147483648 ≤ (I 132 (I 127 5)) ∧ (I 132 (I 127 5)) < 2147483648) (h1 : (I 132 (I 127 5)) ≠ (-2) → PN X d mX1_wind 102 [(2, 127)] [] I R Q) (h2 : (I 132 (I 127 5)) = (-2) → PN X d mX1_wind 63 [(2, 127)] [] I R Q) : PN X d mX1_wind 49 [(2, 127)] [] I R Q := by
  refine P_aload_n (n := 0) (q := 50) rfl rfl (by decide +kernel) ?_
  refine B_getfR (q := 53) fX1_44 kM127 (rM127_12 hs) rfl (by decide +kernel) ?_
  refine P_aload_n (n := 0) (q := 54) rfl rfl (by decide +kernel) ?_
  refine P_getf (q := 57) fX1_22 kM127 rfl (by decide +kernel) ?_
  refine B_iaload (q := 58) kM132 nM132 (by decide) b1 rfl (by decide +kernel) ?_
  refine P_bipush (n := (-2)) (q := 60) rfl rfl (by decide +kernel) ?_
  refine B_icmp_ne (off := 42) (t := 102) (q := 63) c1 ⟨by decide, by decide⟩ (by decide) rfl (by decide +kernel) ?_ ?_
  · exact fun g9 => (h1 g9)
  · exact fun g9 => (h2 g9)
theorem S_X1_wind_63 {X : CX} {d d1 : Nat} {t1 : Int} {I R : PF} {Q Q1 : PV → PF → PF → Prop} (hs : Shp R) (r1 : R 127 0 = t1) (k1 : kd MF t1 = 6) (e1 : d1 + 1 ≤ d) (hc : CN X d1 mX2_valueBy [(2, (t1 + 5)), (2, 131)] (u2 I 131 11 (I 127 5)) R Q1) (h : ∀ z I2 R2, Q1 (0, z) I2 R2 → PN X d mX1_wind 96 [(2, 127)] [(0, z), (0, ((u2 I 131 11 (I 127 5)) 127 5)), (2, 132)] I2 R2 Q) : PN X d mX1_wind 63 [(2, 127)] [] I R Q := by
  refine P_aload_n (n := 0) (q := 64) rfl rfl (by decide +kernel) ?_
  refine B_getfR (q := 67) fX1_41 kM127 (rM127_11 hs) rfl (by decide +kernel) ?_
  refine P_bipush (n := 11) (q := 69) rfl rfl (by decide +kernel) ?_
  refine P_aload_n (n := 0) (q := 70) rfl rfl (by decide +kernel) ?_
  refine P_getf (q := 73) fX1_22 kM127 rfl (by decide +kernel) ?_
  refine B_iastore (q := 74) kM131 nM131 (by decide) ⟨by decide, by decide⟩ rfl (by decide +kernel) ?_
  refine P_aload_n (n := 0) (q := 75) rfl rfl (by decide +kernel) ?_
  refine B_getfR (q := 78) fX1_44 kM127 (rM127_12 hs) rfl (by decide +kernel) ?_
  refine P_aload_n (n := 0) (q := 79) rfl rfl (by decide +kernel) ?_
  refine P_getf (q := 82) fX1_22 kM127 rfl (by decide +kernel) ?_
  refine P_aload_n (n := 0) (q := 83) rfl rfl (by decide +kernel) ?_
  refine B_getfR (q := 86) fX1_56 kM127 r1 rfl (by decide +kernel) ?_
  refine B_getfR (q := 89) fX1_169 k1 (sh6_12 hs k1) rfl (by decide +kernel) ?_
  refine P_aload_n (n := 0) (q := 90) rfl rfl (by decide +kernel) ?_
  refine B_getfR (q := 93) fX1_41 kM127 (rM127_11 hs) rfl (by decide +kernel) ?_
  refine P_invV (As := [(2, 131)]) (q := 96) oX2_valueBy rfl (sq5 k1) kX1_117 e1 hMF (Nat.le_of_ble_eq_true rfl) hc rfl (by decide +kernel) (fun z I2 R2 hq => ?_)
  exact (h z I2 R2 hq)
theorem S_X1_wind_96 {X : CX} {d d1 : Nat} {o1 o2 : Int} {I R : PF} {Q Q1 : PV → PF → PF → Prop} (e1 : d1 + 1 ≤ d) (hc : CN X d1 mJ9_floorMod_7cf53 [(0, o2), (0, 9)] I R Q1) (h : ∀ z I2 R2, Q1 (0, z) I2 R2 → PN X d mX1_wind 101 [(2, 127)] [(0, z), (0, o1), (2, 132)] I2 R2 Q) : PN X d mX1_wind 96 [(2, 127)] [(0, o2), (0, o1), (2, 132)] I R Q := by
  refine P_bipush (n := 9) (q := 98) rfl rfl (by decide +kernel) ?_
  refine P_invS (As := [(0, o2), (0, 9)]) (q := 101) oJ9_floorMod_7cf53 rfl (Or.inl kX1_173) e1 hMF (Nat.le_of_ble_eq_true rfl) hc rfl (by decide +kernel) (fun z I2 R2 hq => ?_)
  exact (h z I2 R2 hq)
theorem S_X1_wind_101 {X : CX} {d : Nat} {o1 o2 : Int} {I R : PF} {Q : PV → PF → PF → Prop} (b1 : (0 : Int) ≤ o1 ∧ o1 < 10) (h : PN X d mX1_wind 102 [(2, 127)] [] (u2 I 132 o1 o2) R Q) : PN X d mX1_wind 101 [(2, 127)] [(0, o2), (0, o1), (2, 132)] I R Q := by
  refine B_iastore (q := 102) kM132 nM132 (by decide) b1 rfl (by decide +kernel) ?_
  exact h
theorem S_X1_wind_102 {X : CX} {d : Nat} {I R : PF} {Q : PV → PF → PF → Prop} (hs : Shp R) (b1 : (0 : Int) ≤ (I 127 5) ∧ (I 127 5) < 10) (h : Q (0, (I 132 (I 127 5))) I R) : PN X d mX1_wind 102 [(2, 127)] [] I R Q := by
  refine P_aload_n (n := 0) (q := 103) rfl rfl (by decide +kernel) ?_
  refine B_getfR (q := 106) fX1_44 kM127 (rM127_12 hs) rfl (by decide +kernel) ?_
  refine P_aload_n (n := 0) (q := 107) rfl rfl (by decide +kernel) ?_
  refine P_getf (q := 110) fX1_22 kM127 rfl (by decide +kernel) ?_
  refine B_iaload (q := 111) kM132 nM132 (by decide) b1 rfl (by decide +kernel) ?_
  refine P_iret rfl (by decide +kernel) h
theorem S_X2_add_0 {X : CX} {d : Nat} {a0 x1 : Int} {I R : PF} {Q : PV → PF → PF → Prop} (hs : Shp R) (k1 : kd MF a0 = 2) (c1 : -2147483648 ≤ (I a0 2) ∧ (I a0 2) < 2147483648) (h1 : 1600 ≤ (I a0 2) → PN X d mX2_add 32 [] [] I R Q) (h2 : (I a0 2) < 1600 → PN X d mX2_add 12 [(2, a0), (0, x1)] [] I R Q) : PN X d mX2_add 0 [(2, a0), (0, x1)] [] I R Q := by
  refine P_aload_n (n := 0) (q := 1) rfl rfl (by decide +kernel) ?_
  refine P_getf (q := 4) fX2_18 k1 rfl (by decide +kernel) ?_
  refine P_aload_n (n := 0) (q := 5) rfl rfl (by decide +kernel) ?_
  refine B_getfR (q := 8) fX2_9 k1 (sh2_0 hs k1) rfl (by decide +kernel) ?_
  refine B_alen (q := 9) (fo1 k1) (fo1n k1) (by decide) (by decide) rfl (by decide +kernel) ?_
  refine B_icmp_ge (off := 23) (t := 32) (q := 12) c1 ⟨by decide, by decide⟩ (by decide) rfl (by decide +kernel) ?_ ?_
  · exact fun g9 => (PW_sub (ls' := []) trivial (h1 g9))
  · exact fun g9 => (h2 g9)
theorem S_X2_add_12 {X : CX} {d : Nat} {a0 x1 : Int} {I R : PF} {Q : PV → PF → PF → Prop} (hs : Shp R) (k1 : kd MF a0 = 2) (b1 : (0 : Int) ≤ (I a0 2) ∧ (I a0 2) < 1600) (h : PN X d mX2_add 32 [] [] (u2 (u2 I (a0 + 1) (I a0 2) x1) a0 2 (((u2 I (a0 + 1) (I a0 2) x1) a0 2) + 1)) R Q) : PN X d mX2_add 12 [(2, a0), (0, x1)] [] I R Q := by
  refine P_aload_n (n := 0) (q := 13) rfl rfl (by decide +kernel) ?_
  refine B_getfR (q := 16) fX2_9 k1 (sh2_0 hs k1) rfl (by decide +kernel) ?_
  refine P_aload_n (n := 0) (q := 17) rfl rfl (by decide +kernel) ?_
  refine P_getf (q := 20) fX2_18 k1 rfl (by decide +kernel) ?_
  refine P_iload_n (n := 1) (q := 21) rfl rfl (by decide +kernel) ?_
  refine B_iastore (q := 22) (fo1 k1) (fo1n k1) (by decide) b1 rfl (by decide +kernel) ?_
  refine P_aload_n (n := 0) (q := 23) rfl rfl (by decide +kernel) ?_
  refine P_dup (q := 24) (Nat.ne_of_beq_eq_false rfl) rfl (by decide +kernel) ?_
  refine P_getf (q := 27) fX2_18 k1 rfl (by decide +kernel) ?_
  refine P_iconst (n := 1) (q := 28) rfl (by decide +kernel) ?_
  refine P_iadd (q := 29) rfl (by decide +kernel) ?_
  refine P_putI (q := 32) wX2_18 (fun h => by cases h) k1 rfl (by decide +kernel) ?_
  exact (PW_sub (ls' := []) trivial h)
theorem S_X2_add_32 {X : CX} {d : Nat} {I R : PF} {Q : PV → PF → PF → Prop} (h : Q (9, 0) I R) : PN X d mX2_add 32 [] [] I R Q := by
  refine P_vret rfl (by decide +kernel) h
theorem S_X2_addFact_0 {X : CX} {d d1 : Nat} {a0 x1 : Int} {I R : PF} {Q Q1 : PV → PF → PF → Prop} (e1 : d1 + 1 ≤ d) (hc : CN X d1 mX2_add [(2, a0), (0, ((-1) - x1))] I R Q1) (k1 : kd MF a0 = 2) (h : ∀ z I2 R2, Q1 (9, z) I2 R2 → PN X d mX2_addFact 7 [] [] I2 R2 Q) : PN X d mX2_addFact 0 [(2, a0), (0, x1)] [] I R Q := by
  refine P_aload_n (n := 0) (q := 1) rfl rfl (by decide +kernel) ?_
  refine P_iconst (n := (-1)) (q := 2) rfl (by decide +kernel) ?_
  refine P_iload_n (n := 1) (q := 3) rfl rfl (by decide +kernel) ?_
  refine P_isub (q := 4) rfl (by decide +kernel) ?_
  refine P_invV (As := [(0, ((-1) - x1))]) (q := 7) oX2_add rfl k1 kX2_22 e1 hMF (Nat.le_of_ble_eq_true rfl) hc rfl (by decide +kernel) (fun z I2 R2 hq => ?_)
  exact (PW_sub (ls' := []) trivial (h z I2 R2 hq))
theorem S_X2_addFact_7 {X : CX} {d : Nat} {I R : PF} {Q : PV → PF → PF → Prop} (h : Q (9, 0) I R) : PN X d mX2_addFact 7 [] [] I R Q := by
  refine P_vret rfl (by decide +kernel) h
theorem S_X2_clear_0 {X : CX} {d : Nat} {a0 : Int} {I R : PF} {Q : PV → PF → PF → Prop} (k1 : kd MF a0 = 2) (h : Q (9, 0) (u2 I a0 2 0) R) : PN X d mX2_clear 0 [(2, a0)] [] I R Q := by
  refine P_aload_n (n := 0) (q := 1) rfl rfl (by decide +kernel) ?_
  refine P_iconst (n := 0) (q := 2) rfl (by decide +kernel) ?_
  refine P_putI (q := 5) wX2_18 (fun h => by cases h) k1 rfl (by decide +kernel) ?_
  refine P_vret rfl (by decide +kernel) h
theorem S_X2_factAt_0 {X : CX} {d : Nat} {a0 x1 : Int} {I R : PF} {Q : PV → PF → PF → Prop} (c1 : -2147483648 ≤ x1 ∧ x1 < 2147483648) (h1 : x1 < 0 → PN X d mX2_factAt 16 [] [] I R Q) (h2 : 0 ≤ x1 → PN X d mX2_factAt 4 [(2, a0), (0, x1)] [] I R Q) : PN X d mX2_factAt 0 [(2, a0), (0, x1)] [] I R Q := by
  refine P_iload_n (n := 1) (q := 1) rfl rfl (by decide +kernel) ?_
  refine B_if_lt (off := 15) (t := 16) (q := 4) c1 (by decide) rfl (by decide +kernel) ?_ ?_
  · exact fun g9 => (PW_sub (ls' := []) trivial (h1 g9))
  · exact fun g9 => (h2 g9)
theorem S_X2_factAt_4 {X : CX} {d : Nat} {a0 x1 : Int} {I R : PF} {Q : PV → PF → PF → Prop} (k1 : kd MF a0 = 12) (n1 : (ln MF a0 : Int) < 2147483648) (c1 : -2147483648 ≤ x1 ∧ x1 < 2147483648) (c2 : -2147483648 ≤ (ln MF a0 : Int) ∧ (ln MF a0 : Int) < 2147483648) (h1 : (ln MF a0 : Int) ≤ x1 → PN X d mX2_factAt 16 [] [] I R Q) (h2 : x1 < (ln MF a0 : Int) → PN X d mX2_factAt 10 [(2, a0), (0, x1)] [] I R Q) : PN X d mX2_factAt 4 [(2, a0), (0, x1)] [] I R Q := by
  refine P_iload_n (n := 1) (q := 5) rfl rfl (by decide +kernel) ?_
  refine P_aload_n (n := 0) (q := 6) rfl rfl (by decide +kernel) ?_
  refine B_alen (q := 7) k1 rfl (by decide) n1 rfl (by decide +kernel) ?_
  refine B_icmp_ge (off := 9) (t := 16) (q := 10) c1 c2 (by decide) rfl (by decide +kernel) ?_ ?_
  · exact fun g9 => (PW_sub (ls' := []) trivial (h1 g9))
  · exact fun g9 => (h2 g9)
theorem S_X2_factAt_10 {X : CX} {d : Nat} {a0 x1 : Int} {I R : PF} {Q : PV → PF → PF → Prop} (k1 : kd MF a0 = 12) (b1 : (0 : Int) ≤ x1 ∧ x1 < (ln MF a0 : Int)) (n1 : (ln MF a0 : Int) < 2147483648) (h : PN X d mX2_factAt 17 [] [(0, (I a0 x1))] I R Q) : PN X d mX2_factAt 10 [(2, a0), (0, x1)] [] I R Q := by
  refine P_aload_n (n := 0) (q := 11) rfl rfl (by decide +kernel) ?_
  refine P_iload_n (n := 1) (q := 12) rfl rfl (by decide +kernel) ?_
  refine B_iaload (q := 13) k1 rfl n1 b1 rfl (by decide +kernel) ?_
  refine P_goto (off := 4) (t := 17) (by decide) (by decide +kernel) ?_
  exact (PW_sub (ls' := []) trivial h)
theorem S_X2_factAt_16 {X : CX} {d : Nat} {I R : PF} {Q : PV → PF → PF → Prop} (h : PN X d mX2_factAt 17 [] [(0, 0)] I R Q) : PN X d mX2_factAt 16 [] [] I R Q := by
  refine P_iconst (n := 0) (q := 17) rfl (by decide +kernel) ?_
  exact (PW_sub (ls' := []) trivial h)
theorem S_X2_factAt_17 {X : CX} {d : Nat} {o0 : Int} {I R : PF} {Q : PV → PF → PF → Prop} (h : Q (0, o0) I R) : PN X d mX2_factAt 17 [] [(0, o0)] I R Q := by
  refine P_iret rfl (by decide +kernel) h
theorem S_X2_isTold_0 {X : CX} {d : Nat} {a0 : Int} {I R : PF} {Q : PV → PF → PF → Prop} (k1 : kd MF a0 = 2) (c1 : -2147483648 ≤ (I a0 2) ∧ (I a0 2) < 2147483648) (h1 : (I a0 2) ≤ 0 → PN X d mX2_isTold 11 [] [] I R Q) (h2 : 0 < (I a0 2) → PN X d mX2_isTold 7 [] [] I R Q) : PN X d mX2_isTold 0 [(2, a0)] [] I R Q := by
  refine P_aload_n (n := 0) (q := 1) rfl rfl (by decide +kernel) ?_
  refine P_getf (q := 4) fX2_18 k1 rfl (by decide +kernel) ?_
  refine B_if_le (off := 7) (t := 11) (q := 7) c1 (by decide) rfl (by decide +kernel) ?_ ?_
  · exact fun g9 => (PW_sub (ls' := []) trivial (h1 g9))
  · exact fun g9 => (PW_sub (ls' := []) trivial (h2 g9))
theorem S_X2_isTold_7 {X : CX} {d : Nat} {I R : PF} {Q : PV → PF → PF → Prop} (h : PN X d mX2_isTold 12 [] [(0, 1)] I R Q) : PN X d mX2_isTold 7 [] [] I R Q := by
  refine P_iconst (n := 1) (q := 8) rfl (by decide +kernel) ?_
  refine P_goto (off := 4) (t := 12) (by decide) (by decide +kernel) ?_
  exact (PW_sub (ls' := []) trivial h)
theorem S_X2_isTold_11 {X : CX} {d : Nat} {I R : PF} {Q : PV → PF → PF → Prop} (h : PN X d mX2_isTold 12 [] [(0, 0)] I R Q) : PN X d mX2_isTold 11 [] [] I R Q := by
  refine P_iconst (n := 0) (q := 12) rfl (by decide +kernel) ?_
  exact (PW_sub (ls' := []) trivial h)
theorem S_X2_isTold_12 {X : CX} {d : Nat} {o0 : Int} {I R : PF} {Q : PV → PF → PF → Prop} (z1 : o0 = 0 ∨ o0 = 1) (h : Q (0, o0) I R) : PN X d mX2_isTold 12 [] [(0, o0)] I R Q := by
  refine P_zret rfl z1 (by decide +kernel) h
theorem S_X2_join_0 {X : CX} {d : Nat} {x0 y1 y3 : Int} {I R : PF} {Q : PV → PF → PF → Prop} (c1 : -2147483648 ≤ x0 ∧ x0 < 2147483648) (h0 : x0 = (-30) → PN X d mX2_join 140 [(9, 0), (1, y1), (9, 0), (1, y3)] [] I R Q) (h1 : x0 = (-29) → PN X d mX2_join 136 [(9, 0), (1, y1), (9, 0), (1, y3)] [] I R Q) (h2 : x0 = (-28) → PN X d mX2_join 124 [(9, 0), (1, y1), (9, 0), (1, y3)] [] I R Q) (h3 : x0 = (-27) → PN X d mX2_join 112 [(9, 0), (1, y1), (9, 0), (1, y3)] [] I R Q) (h4 : x0 = (-26) → PN X d mX2_join 100 [(9, 0), (1, y1), (9, 0), (1, y3)] [] I R Q) (h5 : x0 = (-25) → PN X d mX2_join 94 [(9, 0), (1, y1), (9, 0), (1, y3)] [] I R Q) (h6 : x0 = (-24) → PN X d mX2_join 88 [(9, 0), (1, y1), (9, 0), (1, y3)] [] I R Q) (h7 : x0 = (-23) → PN X d mX2_join 72 [(9, 0), (1, y1), (9, 0), (1, y3)] [] I R Q) (h8 : x0 = (-22) → PN X d mX2_join 68 [(9, 0), (1, y1), (9, 0), (1, y3)] [] I R Q) (h9 : x0 = (-21) → PN X d mX2_join 64 [(9, 0), (1, y1), (9, 0), (1, y3)] [] I R Q) (h10 : x0 = (-20) → PN X d mX2_join 60 [(9, 0), (1, y1), (9, 0), (1, y3)] [] I R Q) (hd : x0 < (-30) ∨ (-20) < x0 → PN X d mX2_join 144 [] [] I R Q) : PN X d mX2_join 0 [(0, x0), (1, y1), (9, 0), (1, y3)] [] I R Q := by
  refine P_iload_n (n := 0) (q := 1) rfl rfl (by decide +kernel) ?_
  rcases tab_cases (lo := (-30)) (n := 11) x0 with e9 | ⟨k9, hk9, e9⟩
  · exact P_tableOut (dflt := 143) (lo := (-30)) (hi := (-20)) (offs := #[139, 135, 123, 111, 99, 93, 87, 71, 67, 63, 59]) (len := 59) (t := 144) (by decide +kernel) (by rw [w_of c1]; exact e9) (by decide) (PW_sub (ls' := []) trivial (hd e9))
  · match k9, hk9, e9 with
    | 0, _, e9 => exact P_tableIn (dflt := 143) (lo := (-30)) (hi := (-20)) (offs := #[139, 135, 123, 111, 99, 93, 87, 71, 67, 63, 59]) (len := 59) (off := 139) (t := 140) (by decide +kernel) (by rw [w_of c1, e9]; decide) (by rw [w_of c1, e9]; decide) (by rw [w_of c1, e9]; rfl) (by decide) (PW_sub (ls' := [(9, 0), (1, y1), (9, 0), (1, y3)]) ⟨Or.inl rfl, Or.inr rfl, Or.inl rfl, Or.inr rfl, trivial⟩ (h0 (e9.trans (by decide))))
    | 1, _, e9 => exact P_tableIn (dflt := 143) (lo := (-30)) (hi := (-20)) (offs := #[139, 135, 123, 111, 99, 93, 87, 71, 67, 63, 59]) (len := 59) (off := 135) (t := 136) (by decide +kernel) (by rw [w_of c1, e9]; decide) (by rw [w_of c1, e9]; decide) (by rw [w_of c1, e9]; rfl) (by decide) (PW_sub (ls' := [(9, 0), (1, y1), (9, 0), (1, y3)]) ⟨Or.inl rfl, Or.inr rfl, Or.inl rfl, Or.inr rfl, trivial⟩ (h1 (e9.trans (by decide))))
    | 2, _, e9 => exact P_tableIn (dflt := 143) (lo := (-30)) (hi := (-20)) (offs := #[139, 135, 123, 111, 99, 93, 87, 71, 67, 63, 59]) (len := 59) (off := 123) (t := 124) (by decide +kernel) (by rw [w_of c1, e9]; decide) (by rw [w_of c1, e9]; decide) (by rw [w_of c1, e9]; rfl) (by decide) (PW_sub (ls' := [(9, 0), (1, y1), (9, 0), (1, y3)]) ⟨Or.inl rfl, Or.inr rfl, Or.inl rfl, Or.inr rfl, trivial⟩ (h2 (e9.trans (by decide))))
    | 3, _, e9 => exact P_tableIn (dflt := 143) (lo := (-30)) (hi := (-20)) (offs := #[139, 135, 123, 111, 99, 93, 87, 71, 67, 63, 59]) (len := 59) (off := 111) (t := 112) (by decide +kernel) (by rw [w_of c1, e9]; decide) (by rw [w_of c1, e9]; decide) (by rw [w_of c1, e9]; rfl) (by decide) (PW_sub (ls' := [(9, 0), (1, y1), (9, 0), (1, y3)]) ⟨Or.inl rfl, Or.inr rfl, Or.inl rfl, Or.inr rfl, trivial⟩ (h3 (e9.trans (by decide))))
    | 4, _, e9 => exact P_tableIn (dflt := 143) (lo := (-30)) (hi := (-20)) (offs := #[139, 135, 123, 111, 99, 93, 87, 71, 67, 63, 59]) (len := 59) (off := 99) (t := 100) (by decide +kernel) (by rw [w_of c1, e9]; decide) (by rw [w_of c1, e9]; decide) (by rw [w_of c1, e9]; rfl) (by decide) (PW_sub (ls' := [(9, 0), (1, y1), (9, 0), (1, y3)]) ⟨Or.inl rfl, Or.inr rfl, Or.inl rfl, Or.inr rfl, trivial⟩ (h4 (e9.trans (by decide))))
    | 5, _, e9 => exact P_tableIn (dflt := 143) (lo := (-30)) (hi := (-20)) (offs := #[139, 135, 123, 111, 99, 93, 87, 71, 67, 63, 59]) (len := 59) (off := 93) (t := 94) (by decide +kernel) (by rw [w_of c1, e9]; decide) (by rw [w_of c1, e9]; decide) (by rw [w_of c1, e9]; rfl) (by decide) (PW_sub (ls' := [(9, 0), (1, y1), (9, 0), (1, y3)]) ⟨Or.inl rfl, Or.inr rfl, Or.inl rfl, Or.inr rfl, trivial⟩ (h5 (e9.trans (by decide))))
    | 6, _, e9 => exact P_tableIn (dflt := 143) (lo := (-30)) (hi := (-20)) (offs := #[139, 135, 123, 111, 99, 93, 87, 71, 67, 63, 59]) (len := 59) (off := 87) (t := 88) (by decide +kernel) (by rw [w_of c1, e9]; decide) (by rw [w_of c1, e9]; decide) (by rw [w_of c1, e9]; rfl) (by decide) (PW_sub (ls' := [(9, 0), (1, y1), (9, 0), (1, y3)]) ⟨Or.inl rfl, Or.inr rfl, Or.inl rfl, Or.inr rfl, trivial⟩ (h6 (e9.trans (by decide))))
    | 7, _, e9 => exact P_tableIn (dflt := 143) (lo := (-30)) (hi := (-20)) (offs := #[139, 135, 123, 111, 99, 93, 87, 71, 67, 63, 59]) (len := 59) (off := 71) (t := 72) (by decide +kernel) (by rw [w_of c1, e9]; decide) (by rw [w_of c1, e9]; decide) (by rw [w_of c1, e9]; rfl) (by decide) (PW_sub (ls' := [(9, 0), (1, y1), (9, 0), (1, y3)]) ⟨Or.inl rfl, Or.inr rfl, Or.inl rfl, Or.inr rfl, trivial⟩ (h7 (e9.trans (by decide))))
    | 8, _, e9 => exact P_tableIn (dflt := 143) (lo := (-30)) (hi := (-20)) (offs := #[139, 135, 123, 111, 99, 93, 87, 71, 67, 63, 59]) (len := 59) (off := 67) (t := 68) (by decide +kernel) (by rw [w_of c1, e9]; decide) (by rw [w_of c1, e9]; decide) (by rw [w_of c1, e9]; rfl) (by decide) (PW_sub (ls' := [(9, 0), (1, y1), (9, 0), (1, y3)]) ⟨Or.inl rfl, Or.inr rfl, Or.inl rfl, Or.inr rfl, trivial⟩ (h8 (e9.trans (by decide))))
    | 9, _, e9 => exact P_tableIn (dflt := 143) (lo := (-30)) (hi := (-20)) (offs := #[139, 135, 123, 111, 99, 93, 87, 71, 67, 63, 59]) (len := 59) (off := 63) (t := 64) (by decide +kernel) (by rw [w_of c1, e9]; decide) (by rw [w_of c1, e9]; decide) (by rw [w_of c1, e9]; rfl) (by decide) (PW_sub (ls' := [(9, 0), (1, y1), (9, 0), (1, y3)]) ⟨Or.inl rfl, Or.inr rfl, Or.inl rfl, Or.inr rfl, trivial⟩ (h9 (e9.trans (by decide))))
    | 10, _, e9 => exact P_tableIn (dflt := 143) (lo := (-30)) (hi := (-20)) (offs := #[139, 135, 123, 111, 99, 93, 87, 71, 67, 63, 59]) (len := 59) (off := 59) (t := 60) (by decide +kernel) (by rw [w_of c1, e9]; decide) (by rw [w_of c1, e9]; decide) (by rw [w_of c1, e9]; rfl) (by decide) (PW_sub (ls' := [(9, 0), (1, y1), (9, 0), (1, y3)]) ⟨Or.inl rfl, Or.inr rfl, Or.inl rfl, Or.inr rfl, trivial⟩ (h10 (e9.trans (by decide))))
theorem S_X2_join_60 {X : CX} {d : Nat} {y1 y3 : Int} {I R : PF} {Q : PV → PF → PF → Prop} (h : Q (1, (y1 + y3)) I R) : PN X d mX2_join 60 [(9, 0), (1, y1), (9, 0), (1, y3)] [] I R Q := by
  refine P_lload_n (n := 1) (q := 61) rfl rfl (by decide +kernel) ?_
  refine P_lload_n (n := 3) (q := 62) rfl rfl (by decide +kernel) ?_
  refine P_ladd (q := 63) rfl (by decide +kernel) ?_
  refine P_lret rfl (by decide +kernel) h
theorem S_X2_join_64 {X : CX} {d : Nat} {y1 y3 : Int} {I R : PF} {Q : PV → PF → PF → Prop} (h : Q (1, (y1 - y3)) I R) : PN X d mX2_join 64 [(9, 0), (1, y1), (9, 0), (1, y3)] [] I R Q := by
  refine P_lload_n (n := 1) (q := 65) rfl rfl (by decide +kernel) ?_
  refine P_lload_n (n := 3) (q := 66) rfl rfl (by decide +kernel) ?_
  refine P_lsub (q := 67) rfl (by decide +kernel) ?_
  refine P_lret rfl (by decide +kernel) h
theorem S_X2_join_68 {X : CX} {d : Nat} {y1 y3 : Int} {I R : PF} {Q : PV → PF → PF → Prop} (h : Q (1, (y1 * y3)) I R) : PN X d mX2_join 68 [(9, 0), (1, y1), (9, 0), (1, y3)] [] I R Q := by
  refine P_lload_n (n := 1) (q := 69) rfl rfl (by decide +kernel) ?_
  refine P_lload_n (n := 3) (q := 70) rfl rfl (by decide +kernel) ?_
  refine P_lmul (q := 71) rfl (by decide +kernel) ?_
  refine P_lret rfl (by decide +kernel) h
theorem S_X2_join_72 {X : CX} {d : Nat} {y1 y3 : Int} {I R : PF} {Q : PV → PF → PF → Prop} (c1 : -9223372036854775808 ≤ y3 ∧ y3 < 9223372036854775808) (h1 : y3 ≠ 0 → PN X d mX2_join 82 [(9, 0), (1, y1), (9, 0), (1, y3)] [] I R Q) (h2 : y3 = 0 → PN X d mX2_join 78 [] [] I R Q) : PN X d mX2_join 72 [(9, 0), (1, y1), (9, 0), (1, y3)] [] I R Q := by
  refine P_lload_n (n := 3) (q := 73) rfl rfl (by decide +kernel) ?_
  refine P_lconst (n := 0) (x := 0) (q := 74) rfl rfl (by decide +kernel) ?_
  refine B_lif_ne (off := 7) (t := 82) (q1 := 75) (q := 78) c1 ⟨by decide, by decide⟩ rfl (by decide +kernel) (by decide) rfl (by decide +kernel) ?_ ?_
  · exact fun g9 => (PW_sub (ls' := [(9, 0), (1, y1), (9, 0), (1, y3)]) ⟨Or.inl rfl, Or.inr rfl, Or.inl rfl, Or.inr rfl, trivial⟩ (h1 g9))
  · exact fun g9 => (PW_sub (ls' := []) trivial (h2 g9))
theorem S_X2_join_78 {X : CX} {d : Nat} {I R : PF} {Q : PV → PF → PF → Prop} (h : PN X d mX2_join 87 [] [(1, 0)] I R Q) : PN X d mX2_join 78 [] [] I R Q := by
  refine P_lconst (n := 0) (x := 0) (q := 79) rfl rfl (by decide +kernel) ?_
  refine P_goto (off := 8) (t := 87) (by decide) (by decide +kernel) ?_
  exact (PW_sub (ls' := []) trivial h)
theorem S_X2_join_82 {X : CX} {d d1 : Nat} {y1 y3 : Int} {I R : PF} {Q Q1 : PV → PF → PF → Prop} (e1 : d1 + 1 ≤ d) (hc : CN X d1 mJ9_floorDiv_f86c9 [(1, y1), (1, y3)] I R Q1) (h : ∀ z I2 R2, Q1 (1, z) I2 R2 → PN X d mX2_join 87 [] [(1, z)] I2 R2 Q) : PN X d mX2_join 82 [(9, 0), (1, y1), (9, 0), (1, y3)] [] I R Q := by
  refine P_lload_n (n := 1) (q := 83) rfl rfl (by decide +kernel) ?_
  refine P_lload_n (n := 3) (q := 84) rfl rfl (by decide +kernel) ?_
  refine P_invS (As := [(1, y1), (1, y3)]) (q := 87) oJ9_floorDiv_f86c9 rfl (Or.inl kX2_47) e1 hMF (Nat.le_of_ble_eq_true rfl) hc rfl (by decide +kernel) (fun z I2 R2 hq => ?_)
  exact (PW_sub (ls' := []) trivial (h z I2 R2 hq))
theorem S_X2_join_87 {X : CX} {d : Nat} {v0 : Int} {I R : PF} {Q : PV → PF → PF → Prop} (h : Q (1, v0) I R) : PN X d mX2_join 87 [] [(1, v0)] I R Q := by
  refine P_lret rfl (by decide +kernel) h
theorem S_X2_join_88 {X : CX} {d d1 : Nat} {y1 y3 : Int} {I R : PF} {Q Q1 : PV → PF → PF → Prop} (e1 : d1 + 1 ≤ d) (hc : CN X d1 mJ9_min_f86c9 [(1, y1), (1, y3)] I R Q1) (h : ∀ z I2 R2, Q1 (1, z) I2 R2 → PN X d mX2_join 93 [] [(1, z)] I2 R2 Q) : PN X d mX2_join 88 [(9, 0), (1, y1), (9, 0), (1, y3)] [] I R Q := by
  refine P_lload_n (n := 1) (q := 89) rfl rfl (by decide +kernel) ?_
  refine P_lload_n (n := 3) (q := 90) rfl rfl (by decide +kernel) ?_
  refine P_invS (As := [(1, y1), (1, y3)]) (q := 93) oJ9_min_f86c9 rfl (Or.inl kX2_38) e1 hMF (Nat.le_of_ble_eq_true rfl) hc rfl (by decide +kernel) (fun z I2 R2 hq => ?_)
  exact (PW_sub (ls' := []) trivial (h z I2 R2 hq))
theorem S_X2_join_93 {X : CX} {d : Nat} {v0 : Int} {I R : PF} {Q : PV → PF → PF → Prop} (h : Q (1, v0) I R) : PN X d mX2_join 93 [] [(1, v0)] I R Q := by
  refine P_lret rfl (by decide +kernel) h
theorem S_X2_join_94 {X : CX} {d d1 : Nat} {y1 y3 : Int} {I R : PF} {Q Q1 : PV → PF → PF → Prop} (e1 : d1 + 1 ≤ d) (hc : CN X d1 mJ9_max_f86c9 [(1, y1), (1, y3)] I R Q1) (h : ∀ z I2 R2, Q1 (1, z) I2 R2 → PN X d mX2_join 99 [] [(1, z)] I2 R2 Q) : PN X d mX2_join 94 [(9, 0), (1, y1), (9, 0), (1, y3)] [] I R Q := by
  refine P_lload_n (n := 1) (q := 95) rfl rfl (by decide +kernel) ?_
  refine P_lload_n (n := 3) (q := 96) rfl rfl (by decide +kernel) ?_
  refine P_invS (As := [(1, y1), (1, y3)]) (q := 99) oJ9_max_f86c9 rfl (Or.inl kX2_44) e1 hMF (Nat.le_of_ble_eq_true rfl) hc rfl (by decide +kernel) (fun z I2 R2 hq => ?_)
  exact (PW_sub (ls' := []) trivial (h z I2 R2 hq))
theorem S_X2_join_99 {X : CX} {d : Nat} {v0 : Int} {I R : PF} {Q : PV → PF → PF → Prop} (h : Q (1, v0) I R) : PN X d mX2_join 99 [] [(1, v0)] I R Q := by
  refine P_lret rfl (by decide +kernel) h
theorem S_X2_join_100 {X : CX} {d : Nat} {y1 y3 : Int} {I R : PF} {Q : PV → PF → PF → Prop} (c1 : -9223372036854775808 ≤ y1 ∧ y1 < 9223372036854775808) (c2 : -9223372036854775808 ≤ y3 ∧ y3 < 9223372036854775808) (h1 : y3 ≤ y1 → PN X d mX2_join 110 [] [] I R Q) (h2 : y1 < y3 → PN X d mX2_join 106 [] [] I R Q) : PN X d mX2_join 100 [(9, 0), (1, y1), (9, 0), (1, y3)] [] I R Q := by
  refine P_lload_n (n := 1) (q := 101) rfl rfl (by decide +kernel) ?_
  refine P_lload_n (n := 3) (q := 102) rfl rfl (by decide +kernel) ?_
  refine B_lif_ge (off := 7) (t := 110) (q1 := 103) (q := 106) c1 c2 rfl (by decide +kernel) (by decide) rfl (by decide +kernel) ?_ ?_
  · exact fun g9 => (PW_sub (ls' := []) trivial (h1 g9))
  · exact fun g9 => (PW_sub (ls' := []) trivial (h2 g9))
theorem S_X2_join_106 {X : CX} {d : Nat} {I R : PF} {Q : PV → PF → PF → Prop} (h : PN X d mX2_join 111 [] [(1, 1)] I R Q) : PN X d mX2_join 106 [] [] I R Q := by
  refine P_lconst (n := 1) (x := 1) (q := 107) rfl rfl (by decide +kernel) ?_
  refine P_goto (off := 4) (t := 111) (by decide) (by decide +kernel) ?_
  exact (PW_sub (ls' := []) trivial h)
theorem S_X2_join_110 {X : CX} {d : Nat} {I R : PF} {Q : PV → PF → PF → Prop} (h : PN X d mX2_join 111 [] [(1, 0)] I R Q) : PN X d mX2_join 110 [] [] I R Q := by
  refine P_lconst (n := 0) (x := 0) (q := 111) rfl rfl (by decide +kernel) ?_
  exact (PW_sub (ls' := []) trivial h)
theorem S_X2_join_111 {X : CX} {d : Nat} {v0 : Int} {I R : PF} {Q : PV → PF → PF → Prop} (h : Q (1, v0) I R) : PN X d mX2_join 111 [] [(1, v0)] I R Q := by
  refine P_lret rfl (by decide +kernel) h
theorem S_X2_join_112 {X : CX} {d : Nat} {y1 y3 : Int} {I R : PF} {Q : PV → PF → PF → Prop} (c1 : -9223372036854775808 ≤ y1 ∧ y1 < 9223372036854775808) (c2 : -9223372036854775808 ≤ y3 ∧ y3 < 9223372036854775808) (h1 : y1 ≤ y3 → PN X d mX2_join 122 [] [] I R Q) (h2 : y3 < y1 → PN X d mX2_join 118 [] [] I R Q) : PN X d mX2_join 112 [(9, 0), (1, y1), (9, 0), (1, y3)] [] I R Q := by
  refine P_lload_n (n := 1) (q := 113) rfl rfl (by decide +kernel) ?_
  refine P_lload_n (n := 3) (q := 114) rfl rfl (by decide +kernel) ?_
  refine B_lif_le (off := 7) (t := 122) (q1 := 115) (q := 118) c1 c2 rfl (by decide +kernel) (by decide) rfl (by decide +kernel) ?_ ?_
  · exact fun g9 => (PW_sub (ls' := []) trivial (h1 g9))
  · exact fun g9 => (PW_sub (ls' := []) trivial (h2 g9))
theorem S_X2_join_118 {X : CX} {d : Nat} {I R : PF} {Q : PV → PF → PF → Prop} (h : PN X d mX2_join 123 [] [(1, 1)] I R Q) : PN X d mX2_join 118 [] [] I R Q := by
  refine P_lconst (n := 1) (x := 1) (q := 119) rfl rfl (by decide +kernel) ?_
  refine P_goto (off := 4) (t := 123) (by decide) (by decide +kernel) ?_
  exact (PW_sub (ls' := []) trivial h)
theorem S_X2_join_122 {X : CX} {d : Nat} {I R : PF} {Q : PV → PF → PF → Prop} (h : PN X d mX2_join 123 [] [(1, 0)] I R Q) : PN X d mX2_join 122 [] [] I R Q := by
  refine P_lconst (n := 0) (x := 0) (q := 123) rfl rfl (by decide +kernel) ?_
  exact (PW_sub (ls' := []) trivial h)
theorem S_X2_join_123 {X : CX} {d : Nat} {v0 : Int} {I R : PF} {Q : PV → PF → PF → Prop} (h : Q (1, v0) I R) : PN X d mX2_join 123 [] [(1, v0)] I R Q := by
  refine P_lret rfl (by decide +kernel) h
theorem S_X2_join_124 {X : CX} {d : Nat} {y1 y3 : Int} {I R : PF} {Q : PV → PF → PF → Prop} (c1 : -9223372036854775808 ≤ y1 ∧ y1 < 9223372036854775808) (c2 : -9223372036854775808 ≤ y3 ∧ y3 < 9223372036854775808) (h1 : y1 ≠ y3 → PN X d mX2_join 134 [] [] I R Q) (h2 : y1 = y3 → PN X d mX2_join 130 [] [] I R Q) : PN X d mX2_join 124 [(9, 0), (1, y1), (9, 0), (1, y3)] [] I R Q := by
  refine P_lload_n (n := 1) (q := 125) rfl rfl (by decide +kernel) ?_
  refine P_lload_n (n := 3) (q := 126) rfl rfl (by decide +kernel) ?_
  refine B_lif_ne (off := 7) (t := 134) (q1 := 127) (q := 130) c1 c2 rfl (by decide +kernel) (by decide) rfl (by decide +kernel) ?_ ?_
  · exact fun g9 => (PW_sub (ls' := []) trivial (h1 g9))
  · exact fun g9 => (PW_sub (ls' := []) trivial (h2 g9))
theorem S_X2_join_130 {X : CX} {d : Nat} {I R : PF} {Q : PV → PF → PF → Prop} (h : PN X d mX2_join 135 [] [(1, 1)] I R Q) : PN X d mX2_join 130 [] [] I R Q := by
  refine P_lconst (n := 1) (x := 1) (q := 131) rfl rfl (by decide +kernel) ?_
  refine P_goto (off := 4) (t := 135) (by decide) (by decide +kernel) ?_
  exact (PW_sub (ls' := []) trivial h)
theorem S_X2_join_134 {X : CX} {d : Nat} {I R : PF} {Q : PV → PF → PF → Prop} (h : PN X d mX2_join 135 [] [(1, 0)] I R Q) : PN X d mX2_join 134 [] [] I R Q := by
  refine P_lconst (n := 0) (x := 0) (q := 135) rfl rfl (by decide +kernel) ?_
  exact (PW_sub (ls' := []) trivial h)
theorem S_X2_join_135 {X : CX} {d : Nat} {v0 : Int} {I R : PF} {Q : PV → PF → PF → Prop} (h : Q (1, v0) I R) : PN X d mX2_join 135 [] [(1, v0)] I R Q := by
  refine P_lret rfl (by decide +kernel) h
theorem S_X2_join_136 {X : CX} {d : Nat} {y1 y3 : Int} {I R : PF} {Q : PV → PF → PF → Prop} (h : Q (1, ((Int64.ofInt y1 &&& Int64.ofInt y3).toInt)) I R) : PN X d mX2_join 136 [(9, 0), (1, y1), (9, 0), (1, y3)] [] I R Q := by
  refine P_lload_n (n := 1) (q := 137) rfl rfl (by decide +kernel) ?_
  refine P_lload_n (n := 3) (q := 138) rfl rfl (by decide +kernel) ?_
  refine P_land (q := 139) rfl (by decide +kernel) ?_
  refine P_lret rfl (by decide +kernel) h
theorem S_X2_join_140 {X : CX} {d : Nat} {y1 y3 : Int} {I R : PF} {Q : PV → PF → PF → Prop} (h : Q (1, ((Int64.ofInt y1 ||| Int64.ofInt y3).toInt)) I R) : PN X d mX2_join 140 [(9, 0), (1, y1), (9, 0), (1, y3)] [] I R Q := by
  refine P_lload_n (n := 1) (q := 141) rfl rfl (by decide +kernel) ?_
  refine P_lload_n (n := 3) (q := 142) rfl rfl (by decide +kernel) ?_
  refine P_lor (q := 143) rfl (by decide +kernel) ?_
  refine P_lret rfl (by decide +kernel) h
theorem S_X2_join_144 {X : CX} {d : Nat} {I R : PF} {Q : PV → PF → PF → Prop} (h : Q (1, 0) I R) : PN X d mX2_join 144 [] [] I R Q := by
  refine P_lconst (n := 0) (x := 0) (q := 145) rfl rfl (by decide +kernel) ?_
  refine P_lret rfl (by decide +kernel) h
theorem S_X2_reads_0 {X : CX} {d : Nat} {a0 x1 : Int} {I R : PF} {Q : PV → PF → PF → Prop} (h : PN X d mX2_reads 2 [(2, a0), (0, x1), (0, 0)] [] I R Q) : PN X d mX2_reads 0 [(2, a0), (0, x1)] [] I R Q := by
  refine P_iconst (n := 0) (q := 1) rfl (by decide +kernel) ?_
  refine P_istore_n (n := 2) (by decide) (q := 2) rfl (by decide +kernel) ?_
  exact h
theorem S_X2_reads_2 {X : CX} {d : Nat} {a0 x1 x2 : Int} {I R : PF} {Q : PV → PF → PF → Prop} (k1 : kd MF a0 = 2) (c1 : -2147483648 ≤ x2 ∧ x2 < 2147483648) (c2 : -2147483648 ≤ (I a0 2) ∧ (I a0 2) < 2147483648) (h1 : (I a0 2) ≤ x2 → PN X d mX2_reads 30 [] [] I R Q) (h2 : x2 < (I a0 2) → PN X d mX2_reads 10 [(2, a0), (0, x1), (0, x2)] [] I R Q) : PN X d mX2_reads 2 [(2, a0), (0, x1), (0, x2)] [] I R Q := by
  refine P_iload_n (n := 2) (q := 3) rfl rfl (by decide +kernel) ?_
  refine P_aload_n (n := 0) (q := 4) rfl rfl (by decide +kernel) ?_
  refine P_getf (q := 7) fX2_18 k1 rfl (by decide +kernel) ?_
  refine B_icmp_ge (off := 23) (t := 30) (q := 10) c1 c2 (by decide) rfl (by decide +kernel) ?_ ?_
  · exact fun g9 => (PW_sub (ls' := []) trivial (h1 g9))
  · exact fun g9 => (h2 g9)
theorem S_X2_reads_10 {X : CX} {d : Nat} {a0 x1 x2 : Int} {I R : PF} {Q : PV → PF → PF → Prop} (hs : Shp R) (k1 : kd MF a0 = 2) (b1 : (0 : Int) ≤ x2 ∧ x2 < 1600) (c1 : -2147483648 ≤ (I (a0 + 1) x2) ∧ (I (a0 + 1) x2) < 2147483648) (c2 : -2147483648 ≤ ((-1) - x1) ∧ ((-1) - x1) < 2147483648) (h1 : (I (a0 + 1) x2) ≠ ((-1) - x1) → PN X d mX2_reads 24 [(2, a0), (0, x1), (0, x2)] [] I R Q) (h2 : (I (a0 + 1) x2) = ((-1) - x1) → PN X d mX2_reads 22 [] [] I R Q) : PN X d mX2_reads 10 [(2, a0), (0, x1), (0, x2)] [] I R Q := by
  refine P_aload_n (n := 0) (q := 11) rfl rfl (by decide +kernel) ?_
  refine B_getfR (q := 14) fX2_9 k1 (sh2_0 hs k1) rfl (by decide +kernel) ?_
  refine P_iload_n (n := 2) (q := 15) rfl rfl (by decide +kernel) ?_
  refine B_iaload (q := 16) (fo1 k1) (fo1n k1) (by decide) b1 rfl (by decide +kernel) ?_
  refine P_iconst (n := (-1)) (q := 17) rfl (by decide +kernel) ?_
  refine P_iload_n (n := 1) (q := 18) rfl rfl (by decide +kernel) ?_
  refine P_isub (q := 19) rfl (by decide +kernel) ?_
  refine B_icmp_ne (off := 5) (t := 24) (q := 22) c1 c2 (by decide) rfl (by decide +kernel) ?_ ?_
  · exact fun g9 => (h1 g9)
  · exact fun g9 => (PW_sub (ls' := []) trivial (h2 g9))
theorem S_X2_reads_22 {X : CX} {d : Nat} {I R : PF} {Q : PV → PF → PF → Prop} (h : Q (0, 1) I R) : PN X d mX2_reads 22 [] [] I R Q := by
  refine P_iconst (n := 1) (q := 23) rfl (by decide +kernel) ?_
  refine P_zret rfl (Or.inr rfl) (by decide +kernel) h
theorem S_X2_reads_24 {X : CX} {d : Nat} {a0 x1 x2 : Int} {I R : PF} {Q : PV → PF → PF → Prop} (h : PN X d mX2_reads 2 [(2, a0), (0, x1), (0, (x2 + 1))] [] I R Q) : PN X d mX2_reads 24 [(2, a0), (0, x1), (0, x2)] [] I R Q := by
  refine P_iinc (n := 2) (a := 1) (by decide) rfl (q := 27) rfl (by decide +kernel) ?_
  refine P_goto (off := (-25)) (t := 2) (by decide) (by decide +kernel) ?_
  exact h
theorem S_X2_reads_30 {X : CX} {d : Nat} {I R : PF} {Q : PV → PF → PF → Prop} (h : Q (0, 0) I R) : PN X d mX2_reads 30 [] [] I R Q := by
  refine P_iconst (n := 0) (q := 31) rfl (by decide +kernel) ?_
  refine P_zret rfl (Or.inl rfl) (by decide +kernel) h
theorem S_X2_valueBy_0 {X : CX} {d : Nat} {a0 a1 : Int} {I R : PF} {Q : PV → PF → PF → Prop} (h : PN X d mX2_valueBy 4 [(2, a0), (2, a1), (0, 0), (0, 0)] [] I R Q) : PN X d mX2_valueBy 0 [(2, a0), (2, a1)] [] I R Q := by
  refine P_iconst (n := 0) (q := 1) rfl (by decide +kernel) ?_
  refine P_istore_n (n := 2) (by decide) (q := 2) rfl (by decide +kernel) ?_
  refine P_iconst (n := 0) (q := 3) rfl (by decide +kernel) ?_
  refine P_istore_n (n := 3) (by decide) (q := 4) rfl (by decide +kernel) ?_
  exact h
theorem S_X2_valueBy_4 {X : CX} {d : Nat} {a0 a1 x2 x3 : Int} {I R : PF} {Q : PV → PF → PF → Prop} (k1 : kd MF a0 = 2) (c1 : -2147483648 ≤ x3 ∧ x3 < 2147483648) (c2 : -2147483648 ≤ (I a0 2) ∧ (I a0 2) < 2147483648) (h1 : (I a0 2) ≤ x3 → PN X d mX2_valueBy 211 [(2, a0), (9, 0), (0, x2)] [] I R Q) (h2 : x3 < (I a0 2) → PN X d mX2_valueBy 12 [(2, a0), (2, a1), (0, x2), (0, x3)] [] I R Q) : PN X d mX2_valueBy 4 [(2, a0), (2, a1), (0, x2), (0, x3)] [] I R Q := by
  refine P_iload_n (n := 3) (q := 5) rfl rfl (by decide +kernel) ?_
  refine P_aload_n (n := 0) (q := 6) rfl rfl (by decide +kernel) ?_
  refine P_getf (q := 9) fX2_18 k1 rfl (by decide +kernel) ?_
  refine B_icmp_ge (off := 202) (t := 211) (q := 12) c1 c2 (by decide) rfl (by decide +kernel) ?_ ?_
  · exact fun g9 => (PW_sub (ls' := [(2, a0), (9, 0), (0, x2)]) ⟨Or.inr rfl, Or.inl rfl, Or.inr rfl, trivial⟩ (h1 g9))
  · exact fun g9 => (h2 g9)
theorem S_X2_valueBy_12 {X : CX} {d : Nat} {a0 a1 x2 x3 : Int} {I R : PF} {Q : PV → PF → PF → Prop} (hs : Shp R) (k1 : kd MF a0 = 2) (b1 : (0 : Int) ≤ x3 ∧ x3 < 1600) (c1 : -2147483648 ≤ (I (a0 + 1) x3) ∧ (I (a0 + 1) x3) < 2147483648) (h1 : (I (a0 + 1) x3) ≤ (-20) → PN X d mX2_valueBy 63 [(2, a0), (2, a1), (0, x2), (0, x3), (0, (I (a0 + 1) x3))] [] I R Q) (h2 : (-20) < (I (a0 + 1) x3) → PN X d mX2_valueBy 27 [(2, a0), (2, a1), (0, x2), (0, x3), (0, (I (a0 + 1) x3))] [] I R Q) : PN X d mX2_valueBy 12 [(2, a0), (2, a1), (0, x2), (0, x3)] [] I R Q := by
  refine P_aload_n (n := 0) (q := 13) rfl rfl (by decide +kernel) ?_
  refine B_getfR (q := 16) fX2_9 k1 (sh2_0 hs k1) rfl (by decide +kernel) ?_
  refine P_iload_n (n := 3) (q := 17) rfl rfl (by decide +kernel) ?_
  refine B_iaload (q := 18) (fo1 k1) (fo1n k1) (by decide) b1 rfl (by decide +kernel) ?_
  refine P_istore (n := 4) (by decide) (q := 20) rfl (by decide +kernel) ?_
  refine P_iload (n := 4) (q := 22) rfl rfl (by decide +kernel) ?_
  refine P_bipush (n := (-20)) (q := 24) rfl rfl (by decide +kernel) ?_
  refine B_icmp_le (off := 39) (t := 63) (q := 27) c1 ⟨by decide, by decide⟩ (by decide) rfl (by decide +kernel) ?_ ?_
  · exact fun g9 => (h1 g9)
  · exact fun g9 => (h2 g9)
theorem S_X2_valueBy_27 {X : CX} {d : Nat} {a0 a1 x2 x3 x4 : Int} {I R : PF} {Q : PV → PF → PF → Prop} (c1 : -2147483648 ≤ x2 ∧ x2 < 2147483648) (h1 : 64 ≤ x2 → PN X d mX2_valueBy 63 [(2, a0), (2, a1), (0, x2), (0, x3), (0, x4)] [] I R Q) (h2 : x2 < 64 → PN X d mX2_valueBy 33 [(2, a0), (2, a1), (0, x2), (0, x3), (0, x4)] [] I R Q) : PN X d mX2_valueBy 27 [(2, a0), (2, a1), (0, x2), (0, x3), (0, x4)] [] I R Q := by
  refine P_iload_n (n := 2) (q := 28) rfl rfl (by decide +kernel) ?_
  refine P_bipush (n := 64) (q := 30) rfl rfl (by decide +kernel) ?_
  refine B_icmp_ge (off := 33) (t := 63) (q := 33) c1 ⟨by decide, by decide⟩ (by decide) rfl (by decide +kernel) ?_ ?_
  · exact fun g9 => (h1 g9)
  · exact fun g9 => (h2 g9)
theorem S_X2_valueBy_33 {X : CX} {d : Nat} {a0 a1 x2 x3 x4 : Int} {I R : PF} {Q : PV → PF → PF → Prop} (hs : Shp R) (k1 : kd MF a0 = 2) (c1 : -2147483648 ≤ x4 ∧ x4 < 2147483648) (h1 : x4 < 0 → PN X d mX2_valueBy 48 [(2, a0), (2, a1), (0, x2), (0, x3), (0, x4)] [(0, x2), (2, (a0 + 2))] I R Q) (h2 : 0 ≤ x4 → PN X d mX2_valueBy 43 [(2, a0), (2, a1), (0, x2), (0, x3), (0, x4)] [(0, x2), (2, (a0 + 2))] I R Q) : PN X d mX2_valueBy 33 [(2, a0), (2, a1), (0, x2), (0, x3), (0, x4)] [] I R Q := by
  refine P_aload_n (n := 0) (q := 34) rfl rfl (by decide +kernel) ?_
  refine B_getfR (q := 37) fX2_15 k1 (sh2_1 hs k1) rfl (by decide +kernel) ?_
  refine P_iload_n (n := 2) (q := 38) rfl rfl (by decide +kernel) ?_
  refine P_iload (n := 4) (q := 40) rfl rfl (by decide +kernel) ?_
  refine B_if_lt (off := 8) (t := 48) (q := 43) c1 (by decide) rfl (by decide +kernel) ?_ ?_
  · exact fun g9 => (h1 g9)
  · exact fun g9 => (h2 g9)
theorem S_X2_valueBy_43 {X : CX} {d : Nat} {a0 a1 x2 x3 x4 s0 o1 : Int} {I R : PF} {Q : PV → PF → PF → Prop} (h : PN X d mX2_valueBy 56 [(2, a0), (2, a1), (0, x2), (0, x3)] [(0, x4), (0, o1), (2, s0)] I R Q) : PN X d mX2_valueBy 43 [(2, a0), (2, a1), (0, x2), (0, x3), (0, x4)] [(0, o1), (2, s0)] I R Q := by
  refine P_iload (n := 4) (q := 45) rfl rfl (by decide +kernel) ?_
  refine P_goto (off := 11) (t := 56) (by decide) (by decide +kernel) ?_
  exact (PW_sub (ls' := [(2, a0), (2, a1), (0, x2), (0, x3)]) ⟨Or.inr rfl, Or.inr rfl, Or.inr rfl, Or.inr rfl, trivial⟩ h)
theorem S_X2_valueBy_48 {X : CX} {d d1 : Nat} {a0 a1 x2 x3 x4 s0 o1 : Int} {I R : PF} {Q Q1 : PV → PF → PF → Prop} (e1 : d1 + 1 ≤ d) (hc : CN X d1 mX2_factAt [(2, a1), (0, ((-1) - x4))] I R Q1) (h : ∀ z I2 R2, Q1 (0, z) I2 R2 → PN X d mX2_valueBy 56 [(2, a0), (2, a1), (0, x2), (0, x3)] [(0, z), (0, o1), (2, s0)] I2 R2 Q) : PN X d mX2_valueBy 48 [(2, a0), (2, a1), (0, x2), (0, x3), (0, x4)] [(0, o1), (2, s0)] I R Q := by
  refine P_aload_n (n := 1) (q := 49) rfl rfl (by decide +kernel) ?_
  refine P_iconst (n := (-1)) (q := 50) rfl (by decide +kernel) ?_
  refine P_iload (n := 4) (q := 52) rfl rfl (by decide +kernel) ?_
  refine P_isub (q := 53) rfl (by decide +kernel) ?_
  refine P_invS (As := [(2, a1), (0, ((-1) - x4))]) (q := 56) oX2_factAt rfl (Or.inl kX2_26) e1 hMF (Nat.le_of_ble_eq_true rfl) hc rfl (by decide +kernel) (fun z I2 R2 hq => ?_)
  exact (PW_sub (ls' := [(2, a0), (2, a1), (0, x2), (0, x3)]) ⟨Or.inr rfl, Or.inr rfl, Or.inr rfl, Or.inr rfl, trivial⟩ (h z I2 R2 hq))
theorem S_X2_valueBy_56 {X : CX} {d : Nat} {a0 a1 x2 x3 s0 o1 o2 : Int} {I R : PF} {Q : PV → PF → PF → Prop} (k1 : kd MF s0 = 12) (b1 : (0 : Int) ≤ o1 ∧ o1 < (ln MF s0 : Int)) (n1 : (ln MF s0 : Int) < 2147483648) (h : PN X d mX2_valueBy 205 [(2, a0), (2, a1), (0, (x2 + 1)), (0, x3)] [] (u2 I s0 o1 o2) R Q) : PN X d mX2_valueBy 56 [(2, a0), (2, a1), (0, x2), (0, x3)] [(0, o2), (0, o1), (2, s0)] I R Q := by
  refine B_iastore (q := 57) k1 rfl n1 b1 rfl (by decide +kernel) ?_
  refine P_iinc (n := 2) (a := 1) (by decide) rfl (q := 60) rfl (by decide +kernel) ?_
  refine P_goto (off := 145) (t := 205) (by decide) (by decide +kernel) ?_
  exact (PW_sub (ls' := [(2, a0), (2, a1), (0, (x2 + 1)), (0, x3)]) ⟨Or.inr rfl, Or.inr rfl, Or.inr rfl, Or.inr rfl, trivial⟩ h)
theorem S_X2_valueBy_63 {X : CX} {d : Nat} {a0 a1 x2 x3 x4 : Int} {I R : PF} {Q : PV → PF → PF → Prop} (c1 : -2147483648 ≤ x4 ∧ x4 < 2147483648) (h1 : x4 ≠ (-31) → PN X d mX2_valueBy 101 [(2, a0), (2, a1), (0, x2), (0, x3), (0, x4)] [] I R Q) (h2 : x4 = (-31) → PN X d mX2_valueBy 70 [(2, a0), (2, a1), (0, x2), (0, x3), (0, x4)] [] I R Q) : PN X d mX2_valueBy 63 [(2, a0), (2, a1), (0, x2), (0, x3), (0, x4)] [] I R Q := by
  refine P_iload (n := 4) (q := 65) rfl rfl (by decide +kernel) ?_
  refine P_bipush (n := (-31)) (q := 67) rfl rfl (by decide +kernel) ?_
  refine B_icmp_ne (off := 34) (t := 101) (q := 70) c1 ⟨by decide, by decide⟩ (by decide) rfl (by decide +kernel) ?_ ?_
  · exact fun g9 => (h1 g9)
  · exact fun g9 => (h2 g9)
theorem S_X2_valueBy_70 {X : CX} {d : Nat} {a0 a1 x2 x3 x4 : Int} {I R : PF} {Q : PV → PF → PF → Prop} (c1 : -2147483648 ≤ x2 ∧ x2 < 2147483648) (h1 : x2 ≤ 0 → PN X d mX2_valueBy 101 [(2, a0), (2, a1), (0, x2), (0, x3), (0, x4)] [] I R Q) (h2 : 0 < x2 → PN X d mX2_valueBy 74 [(2, a0), (2, a1), (0, x2), (0, x3)] [] I R Q) : PN X d mX2_valueBy 70 [(2, a0), (2, a1), (0, x2), (0, x3), (0, x4)] [] I R Q := by
  refine P_iload_n (n := 2) (q := 71) rfl rfl (by decide +kernel) ?_
  refine B_if_le (off := 30) (t := 101) (q := 74) c1 (by decide) rfl (by decide +kernel) ?_ ?_
  · exact fun g9 => (h1 g9)
  · exact fun g9 => (PW_sub (ls' := [(2, a0), (2, a1), (0, x2), (0, x3)]) ⟨Or.inr rfl, Or.inr rfl, Or.inr rfl, Or.inr rfl, trivial⟩ (h2 g9))
theorem S_X2_valueBy_74 {X : CX} {d : Nat} {a0 a1 x2 x3 : Int} {I R : PF} {Q : PV → PF → PF → Prop} (hs : Shp R) (k1 : kd MF a0 = 2) (b1 : (0 : Int) ≤ (x2 - 1) ∧ (x2 - 1) < 64) (c1 : -2147483648 ≤ (I (a0 + 2) (x2 - 1)) ∧ (I (a0 + 2) (x2 - 1)) < 2147483648) (h1 : (I (a0 + 2) (x2 - 1)) ≠ 0 → PN X d mX2_valueBy 96 [(2, a0), (2, a1), (0, x2), (0, x3)] [(0, (x2 - 1)), (2, (a0 + 2))] I R Q) (h2 : (I (a0 + 2) (x2 - 1)) = 0 → PN X d mX2_valueBy 92 [(2, a0), (2, a1), (0, x2), (0, x3)] [(0, (x2 - 1)), (2, (a0 + 2))] I R Q) : PN X d mX2_valueBy 74 [(2, a0), (2, a1), (0, x2), (0, x3)] [] I R Q := by
  refine P_aload_n (n := 0) (q := 75) rfl rfl (by decide +kernel) ?_
  refine B_getfR (q := 78) fX2_15 k1 (sh2_1 hs k1) rfl (by decide +kernel) ?_
  refine P_iload_n (n := 2) (q := 79) rfl rfl (by decide +kernel) ?_
  refine P_iconst (n := 1) (q := 80) rfl (by decide +kernel) ?_
  refine P_isub (q := 81) rfl (by decide +kernel) ?_
  refine P_aload_n (n := 0) (q := 82) rfl rfl (by decide +kernel) ?_
  refine B_getfR (q := 85) fX2_15 k1 (sh2_1 hs k1) rfl (by decide +kernel) ?_
  refine P_iload_n (n := 2) (q := 86) rfl rfl (by decide +kernel) ?_
  refine P_iconst (n := 1) (q := 87) rfl (by decide +kernel) ?_
  refine P_isub (q := 88) rfl (by decide +kernel) ?_
  refine B_iaload (q := 89) (fo2 k1) (fo2n k1) (by decide) b1 rfl (by decide +kernel) ?_
  refine B_if_ne (off := 7) (t := 96) (q := 92) c1 (by decide) rfl (by decide +kernel) ?_ ?_
  · exact fun g9 => (PW_sub (ls' := [(2, a0), (2, a1), (0, x2), (0, x3)]) ⟨Or.inr rfl, Or.inr rfl, Or.inr rfl, Or.inr rfl, trivial⟩ (h1 g9))
  · exact fun g9 => (PW_sub (ls' := [(2, a0), (2, a1), (0, x2), (0, x3)]) ⟨Or.inr rfl, Or.inr rfl, Or.inr rfl, Or.inr rfl, trivial⟩ (h2 g9))
theorem S_X2_valueBy_92 {X : CX} {d : Nat} {a0 a1 x2 x3 s0 o1 : Int} {I R : PF} {Q : PV → PF → PF → Prop} (h : PN X d mX2_valueBy 97 [(2, a0), (2, a1), (0, x2), (0, x3)] [(0, 1), (0, o1), (2, s0)] I R Q) : PN X d mX2_valueBy 92 [(2, a0), (2, a1), (0, x2), (0, x3)] [(0, o1), (2, s0)] I R Q := by
  refine P_iconst (n := 1) (q := 93) rfl (by decide +kernel) ?_
  refine P_goto (off := 4) (t := 97) (by decide) (by decide +kernel) ?_
  exact (PW_sub (ls' := [(2, a0), (2, a1), (0, x2), (0, x3)]) ⟨Or.inr rfl, Or.inr rfl, Or.inr rfl, Or.inr rfl, trivial⟩ h)
theorem S_X2_valueBy_96 {X : CX} {d : Nat} {a0 a1 x2 x3 s0 o1 : Int} {I R : PF} {Q : PV → PF → PF → Prop} (h : PN X d mX2_valueBy 97 [(2, a0), (2, a1), (0, x2), (0, x3)] [(0, 0), (0, o1), (2, s0)] I R Q) : PN X d mX2_valueBy 96 [(2, a0), (2, a1), (0, x2), (0, x3)] [(0, o1), (2, s0)] I R Q := by
  refine P_iconst (n := 0) (q := 97) rfl (by decide +kernel) ?_
  exact (PW_sub (ls' := [(2, a0), (2, a1), (0, x2), (0, x3)]) ⟨Or.inr rfl, Or.inr rfl, Or.inr rfl, Or.inr rfl, trivial⟩ h)
theorem S_X2_valueBy_97 {X : CX} {d : Nat} {a0 a1 x2 x3 s0 o1 o2 : Int} {I R : PF} {Q : PV → PF → PF → Prop} (k1 : kd MF s0 = 12) (b1 : (0 : Int) ≤ o1 ∧ o1 < (ln MF s0 : Int)) (n1 : (ln MF s0 : Int) < 2147483648) (h : PN X d mX2_valueBy 205 [(2, a0), (2, a1), (0, x2), (0, x3)] [] (u2 I s0 o1 o2) R Q) : PN X d mX2_valueBy 97 [(2, a0), (2, a1), (0, x2), (0, x3)] [(0, o2), (0, o1), (2, s0)] I R Q := by
  refine B_iastore (q := 98) k1 rfl n1 b1 rfl (by decide +kernel) ?_
  refine P_goto (off := 107) (t := 205) (by decide) (by decide +kernel) ?_
  exact (PW_sub (ls' := [(2, a0), (2, a1), (0, x2), (0, x3)]) ⟨Or.inr rfl, Or.inr rfl, Or.inr rfl, Or.inr rfl, trivial⟩ h)
theorem S_X2_valueBy_101 {X : CX} {d : Nat} {a0 a1 x2 x3 x4 : Int} {I R : PF} {Q : PV → PF → PF → Prop} (c1 : -2147483648 ≤ x4 ∧ x4 < 2147483648) (h1 : x4 ≠ (-32) → PN X d mX2_valueBy 144 [(2, a0), (2, a1), (0, x2), (0, x3), (0, x4)] [] I R Q) (h2 : x4 = (-32) → PN X d mX2_valueBy 108 [(2, a0), (2, a1), (0, x2), (0, x3), (0, x4)] [] I R Q) : PN X d mX2_valueBy 101 [(2, a0), (2, a1), (0, x2), (0, x3), (0, x4)] [] I R Q := by
  refine P_iload (n := 4) (q := 103) rfl rfl (by decide +kernel) ?_
  refine P_bipush (n := (-32)) (q := 105) rfl rfl (by decide +kernel) ?_
  refine B_icmp_ne (off := 39) (t := 144) (q := 108) c1 ⟨by decide, by decide⟩ (by decide) rfl (by decide +kernel) ?_ ?_
  · exact fun g9 => (h1 g9)
  · exact fun g9 => (h2 g9)
theorem S_X2_valueBy_108 {X : CX} {d : Nat} {a0 a1 x2 x3 x4 : Int} {I R : PF} {Q : PV → PF → PF → Prop} (c1 : -2147483648 ≤ x2 ∧ x2 < 2147483648) (h1 : x2 ≤ 0 → PN X d mX2_valueBy 144 [(2, a0), (2, a1), (0, x2), (0, x3), (0, x4)] [] I R Q) (h2 : 0 < x2 → PN X d mX2_valueBy 112 [(2, a0), (2, a1), (0, x2), (0, x3)] [] I R Q) : PN X d mX2_valueBy 108 [(2, a0), (2, a1), (0, x2), (0, x3), (0, x4)] [] I R Q := by
  refine P_iload_n (n := 2) (q := 109) rfl rfl (by decide +kernel) ?_
  refine B_if_le (off := 35) (t := 144) (q := 112) c1 (by decide) rfl (by decide +kernel) ?_ ?_
  · exact fun g9 => (h1 g9)
  · exact fun g9 => (PW_sub (ls' := [(2, a0), (2, a1), (0, x2), (0, x3)]) ⟨Or.inr rfl, Or.inr rfl, Or.inr rfl, Or.inr rfl, trivial⟩ (h2 g9))
theorem S_X2_valueBy_112 {X : CX} {d d1 : Nat} {a0 a1 x2 x3 : Int} {I R : PF} {Q Q1 : PV → PF → PF → Prop} (hs : Shp R) (k1 : kd MF a0 = 2) (b1 : (0 : Int) ≤ (x2 - 1) ∧ (x2 - 1) < 64) (e1 : d1 + 1 ≤ d) (hc : CN X d1 mX2_factAt [(2, a1), (0, 5)] I R Q1) (h : ∀ z I2 R2, Q1 (0, z) I2 R2 → PN X d mX2_valueBy 132 [(2, a0), (2, a1), (0, x2), (0, x3)] [(0, z), (0, (I (a0 + 2) (x2 - 1))), (0, (x2 - 1)), (2, (a0 + 2))] I2 R2 Q) : PN X d mX2_valueBy 112 [(2, a0), (2, a1), (0, x2), (0, x3)] [] I R Q := by
  refine P_aload_n (n := 0) (q := 113) rfl rfl (by decide +kernel) ?_
  refine B_getfR (q := 116) fX2_15 k1 (sh2_1 hs k1) rfl (by decide +kernel) ?_
  refine P_iload_n (n := 2) (q := 117) rfl rfl (by decide +kernel) ?_
  refine P_iconst (n := 1) (q := 118) rfl (by decide +kernel) ?_
  refine P_isub (q := 119) rfl (by decide +kernel) ?_
  refine P_aload_n (n := 0) (q := 120) rfl rfl (by decide +kernel) ?_
  refine B_getfR (q := 123) fX2_15 k1 (sh2_1 hs k1) rfl (by decide +kernel) ?_
  refine P_iload_n (n := 2) (q := 124) rfl rfl (by decide +kernel) ?_
  refine P_iconst (n := 1) (q := 125) rfl (by decide +kernel) ?_
  refine P_isub (q := 126) rfl (by decide +kernel) ?_
  refine B_iaload (q := 127) (fo2 k1) (fo2n k1) (by decide) b1 rfl (by decide +kernel) ?_
  refine P_aload_n (n := 1) (q := 128) rfl rfl (by decide +kernel) ?_
  refine P_iconst (n := 5) (q := 129) rfl (by decide +kernel) ?_
  refine P_invS (As := [(2, a1), (0, 5)]) (q := 132) oX2_factAt rfl (Or.inl kX2_26) e1 hMF (Nat.le_of_ble_eq_true rfl) hc rfl (by decide +kernel) (fun z I2 R2 hq => ?_)
  exact (PW_sub (ls' := [(2, a0), (2, a1), (0, x2), (0, x3)]) ⟨Or.inr rfl, Or.inr rfl, Or.inr rfl, Or.inr rfl, trivial⟩ (h z I2 R2 hq))
theorem S_X2_valueBy_132 {X : CX} {d : Nat} {a0 a1 x2 x3 s0 o1 o2 o3 : Int} {I R : PF} {Q : PV → PF → PF → Prop} (c1 : -2147483648 ≤ o2 ∧ o2 < 2147483648) (c2 : -2147483648 ≤ o3 ∧ o3 < 2147483648) (h1 : o2 ≠ o3 → PN X d mX2_valueBy 139 [(2, a0), (2, a1), (0, x2), (0, x3)] [(0, o1), (2, s0)] I R Q) (h2 : o2 = o3 → PN X d mX2_valueBy 135 [(2, a0), (2, a1), (0, x2), (0, x3)] [(0, o1), (2, s0)] I R Q) : PN X d mX2_valueBy 132 [(2, a0), (2, a1), (0, x2), (0, x3)] [(0, o3), (0, o2), (0, o1), (2, s0)] I R Q := by
  refine B_icmp_ne (off := 7) (t := 139) (q := 135) c1 c2 (by decide) rfl (by decide +kernel) ?_ ?_
  · exact fun g9 => (PW_sub (ls' := [(2, a0), (2, a1), (0, x2), (0, x3)]) ⟨Or.inr rfl, Or.inr rfl, Or.inr rfl, Or.inr rfl, trivial⟩ (h1 g9))
  · exact fun g9 => (PW_sub (ls' := [(2, a0), (2, a1), (0, x2), (0, x3)]) ⟨Or.inr rfl, Or.inr rfl, Or.inr rfl, Or.inr rfl, trivial⟩ (h2 g9))
theorem S_X2_valueBy_135 {X : CX} {d : Nat} {a0 a1 x2 x3 s0 o1 : Int} {I R : PF} {Q : PV → PF → PF → Prop} (h : PN X d mX2_valueBy 140 [(2, a0), (2, a1), (0, x2), (0, x3)] [(0, 1), (0, o1), (2, s0)] I R Q) : PN X d mX2_valueBy 135 [(2, a0), (2, a1), (0, x2), (0, x3)] [(0, o1), (2, s0)] I R Q := by
  refine P_iconst (n := 1) (q := 136) rfl (by decide +kernel) ?_
  refine P_goto (off := 4) (t := 140) (by decide) (by decide +kernel) ?_
  exact (PW_sub (ls' := [(2, a0), (2, a1), (0, x2), (0, x3)]) ⟨Or.inr rfl, Or.inr rfl, Or.inr rfl, Or.inr rfl, trivial⟩ h)
theorem S_X2_valueBy_139 {X : CX} {d : Nat} {a0 a1 x2 x3 s0 o1 : Int} {I R : PF} {Q : PV → PF → PF → Prop} (h : PN X d mX2_valueBy 140 [(2, a0), (2, a1), (0, x2), (0, x3)] [(0, 0), (0, o1), (2, s0)] I R Q) : PN X d mX2_valueBy 139 [(2, a0), (2, a1), (0, x2), (0, x3)] [(0, o1), (2, s0)] I R Q := by
  refine P_iconst (n := 0) (q := 140) rfl (by decide +kernel) ?_
  exact (PW_sub (ls' := [(2, a0), (2, a1), (0, x2), (0, x3)]) ⟨Or.inr rfl, Or.inr rfl, Or.inr rfl, Or.inr rfl, trivial⟩ h)
theorem S_X2_valueBy_140 {X : CX} {d : Nat} {a0 a1 x2 x3 s0 o1 o2 : Int} {I R : PF} {Q : PV → PF → PF → Prop} (k1 : kd MF s0 = 12) (b1 : (0 : Int) ≤ o1 ∧ o1 < (ln MF s0 : Int)) (n1 : (ln MF s0 : Int) < 2147483648) (h : PN X d mX2_valueBy 205 [(2, a0), (2, a1), (0, x2), (0, x3)] [] (u2 I s0 o1 o2) R Q) : PN X d mX2_valueBy 140 [(2, a0), (2, a1), (0, x2), (0, x3)] [(0, o2), (0, o1), (2, s0)] I R Q := by
  refine B_iastore (q := 141) k1 rfl n1 b1 rfl (by decide +kernel) ?_
  refine P_goto (off := 64) (t := 205) (by decide) (by decide +kernel) ?_
  exact (PW_sub (ls' := [(2, a0), (2, a1), (0, x2), (0, x3)]) ⟨Or.inr rfl, Or.inr rfl, Or.inr rfl, Or.inr rfl, trivial⟩ h)
theorem S_X2_valueBy_144 {X : CX} {d : Nat} {a0 a1 x2 x3 x4 : Int} {I R : PF} {Q : PV → PF → PF → Prop} (c1 : -2147483648 ≤ x4 ∧ x4 < 2147483648) (h1 : (-20) < x4 → PN X d mX2_valueBy 205 [(2, a0), (2, a1), (0, x2), (0, x3)] [] I R Q) (h2 : x4 ≤ (-20) → PN X d mX2_valueBy 151 [(2, a0), (2, a1), (0, x2), (0, x3), (0, x4)] [] I R Q) : PN X d mX2_valueBy 144 [(2, a0), (2, a1), (0, x2), (0, x3), (0, x4)] [] I R Q := by
  refine P_iload (n := 4) (q := 146) rfl rfl (by decide +kernel) ?_
  refine P_bipush (n := (-20)) (q := 148) rfl rfl (by decide +kernel) ?_
  refine B_icmp_gt (off := 57) (t := 205) (q := 151) c1 ⟨by decide, by decide⟩ (by decide) rfl (by decide +kernel) ?_ ?_
  · exact fun g9 => (PW_sub (ls' := [(2, a0), (2, a1), (0, x2), (0, x3)]) ⟨Or.inr rfl, Or.inr rfl, Or.inr rfl, Or.inr rfl, trivial⟩ (h1 g9))
  · exact fun g9 => (h2 g9)
theorem S_X2_valueBy_151 {X : CX} {d : Nat} {a0 a1 x2 x3 x4 : Int} {I R : PF} {Q : PV → PF → PF → Prop} (c1 : -2147483648 ≤ x2 ∧ x2 < 2147483648) (h1 : x2 ≤ 1 → PN X d mX2_valueBy 205 [(2, a0), (2, a1), (0, x2), (0, x3)] [] I R Q) (h2 : 1 < x2 → PN X d mX2_valueBy 156 [(2, a0), (2, a1), (0, x2), (0, x3), (0, x4)] [] I R Q) : PN X d mX2_valueBy 151 [(2, a0), (2, a1), (0, x2), (0, x3), (0, x4)] [] I R Q := by
  refine P_iload_n (n := 2) (q := 152) rfl rfl (by decide +kernel) ?_
  refine P_iconst (n := 1) (q := 153) rfl (by decide +kernel) ?_
  refine B_icmp_le (off := 52) (t := 205) (q := 156) c1 ⟨by decide, by decide⟩ (by decide) rfl (by decide +kernel) ?_ ?_
  · exact fun g9 => (PW_sub (ls' := [(2, a0), (2, a1), (0, x2), (0, x3)]) ⟨Or.inr rfl, Or.inr rfl, Or.inr rfl, Or.inr rfl, trivial⟩ (h1 g9))
  · exact fun g9 => (h2 g9)
theorem S_X2_valueBy_156 {X : CX} {d d1 : Nat} {a0 a1 x2 x3 x4 : Int} {I R : PF} {Q Q1 : PV → PF → PF → Prop} (hs : Shp R) (k1 : kd MF a0 = 2) (b1 : (0 : Int) ≤ ((x2 + (-1)) - 1) ∧ ((x2 + (-1)) - 1) < 64) (c1 : -2147483648 ≤ (I (a0 + 2) ((x2 + (-1)) - 1)) ∧ (I (a0 + 2) ((x2 + (-1)) - 1)) < 2147483648) (b2 : (0 : Int) ≤ (x2 + (-1)) ∧ (x2 + (-1)) < 64) (c2 : -2147483648 ≤ (I (a0 + 2) (x2 + (-1))) ∧ (I (a0 + 2) (x2 + (-1))) < 2147483648) (e1 : d1 + 1 ≤ d) (hc : CN X d1 mX2_join [(0, x4), (1, (I (a0 + 2) ((x2 + (-1)) - 1))), (1, (I (a0 + 2) (x2 + (-1))))] I R Q1) (h : ∀ z I2 R2, Q1 (1, z) I2 R2 → PN X d mX2_valueBy 180 [(2, a0), (2, a1), (0, (x2 + (-1))), (0, x3)] [(1, z)] I2 R2 Q) : PN X d mX2_valueBy 156 [(2, a0), (2, a1), (0, x2), (0, x3), (0, x4)] [] I R Q := by
  refine P_iinc (n := 2) (a := (-1)) (by decide) rfl (q := 159) rfl (by decide +kernel) ?_
  refine P_iload (n := 4) (q := 161) rfl rfl (by decide +kernel) ?_
  refine P_aload_n (n := 0) (q := 162) rfl rfl (by decide +kernel) ?_
  refine B_getfR (q := 165) fX2_15 k1 (sh2_1 hs k1) rfl (by decide +kernel) ?_
  refine P_iload_n (n := 2) (q := 166) rfl rfl (by decide +kernel) ?_
  refine P_iconst (n := 1) (q := 167) rfl (by decide +kernel) ?_
  refine P_isub (q := 168) rfl (by decide +kernel) ?_
  refine B_iaload (q := 169) (fo2 k1) (fo2n k1) (by decide) b1 rfl (by decide +kernel) ?_
  refine B_i2l (q := 170) c1 rfl (by decide +kernel) ?_
  refine P_aload_n (n := 0) (q := 171) rfl rfl (by decide +kernel) ?_
  refine B_getfR (q := 174) fX2_15 k1 (sh2_1 hs k1) rfl (by decide +kernel) ?_
  refine P_iload_n (n := 2) (q := 175) rfl rfl (by decide +kernel) ?_
  refine B_iaload (q := 176) (fo2 k1) (fo2n k1) (by decide) b2 rfl (by decide +kernel) ?_
  refine B_i2l (q := 177) c2 rfl (by decide +kernel) ?_
  refine P_invS (As := [(0, x4), (1, (I (a0 + 2) ((x2 + (-1)) - 1))), (1, (I (a0 + 2) (x2 + (-1))))]) (q := 180) oX2_join rfl (Or.inl kX2_30) e1 hMF (Nat.le_of_ble_eq_true rfl) hc rfl (by decide +kernel) (fun z I2 R2 hq => ?_)
  exact (PW_sub (ls' := [(2, a0), (2, a1), (0, (x2 + (-1))), (0, x3)]) ⟨Or.inr rfl, Or.inr rfl, Or.inr rfl, Or.inr rfl, trivial⟩ (h z I2 R2 hq))
theorem S_X2_valueBy_180 {X : CX} {d d1 : Nat} {a0 a1 x2 x3 v0 : Int} {I R : PF} {Q Q1 : PV → PF → PF → Prop} (hs : Shp R) (k1 : kd MF a0 = 2) (e1 : d1 + 1 ≤ d) (hc : CN X d1 mJ9_min_f86c9 [(1, 1000000), (1, v0)] I R Q1) (h : ∀ z I2 R2, Q1 (1, z) I2 R2 → PN X d mX2_valueBy 200 [(2, a0), (2, a1), (0, x2), (0, x3)] [(1, z), (1, (-1000000)), (0, (x2 - 1)), (2, (a0 + 2))] I2 R2 Q) : PN X d mX2_valueBy 180 [(2, a0), (2, a1), (0, x2), (0, x3)] [(1, v0)] I R Q := by
  refine P_lstore (n := 5) (by decide) (q := 182) rfl (by decide +kernel) ?_
  refine P_aload_n (n := 0) (q := 183) rfl rfl (by decide +kernel) ?_
  refine B_getfR (q := 186) fX2_15 k1 (sh2_1 hs k1) rfl (by decide +kernel) ?_
  refine P_iload_n (n := 2) (q := 187) rfl rfl (by decide +kernel) ?_
  refine P_iconst (n := 1) (q := 188) rfl (by decide +kernel) ?_
  refine P_isub (q := 189) rfl (by decide +kernel) ?_
  refine P_ldc2 (ix := 34) (v := (-1000000)) (x := (-1000000)) (q := 192) rfl (tGp4 129 rfl rfl) rfl (by decide +kernel) ?_
  refine P_ldc2 (ix := 36) (v := 1000000) (x := 1000000) (q := 195) rfl (tGp4 130 rfl rfl) rfl (by decide +kernel) ?_
  refine P_lload (n := 5) (q := 197) rfl rfl (by decide +kernel) ?_
  refine P_invS (As := [(1, 1000000), (1, v0)]) (q := 200) oJ9_min_f86c9 rfl (Or.inl kX2_38) e1 hMF (Nat.le_of_ble_eq_true rfl) hc rfl (by decide +kernel) (fun z I2 R2 hq => ?_)
  exact (PW_sub (ls' := [(2, a0), (2, a1), (0, x2), (0, x3)]) ⟨Or.inr rfl, Or.inr rfl, Or.inr rfl, Or.inr rfl, trivial⟩ (h z I2 R2 hq))
theorem S_X2_valueBy_200 {X : CX} {d d1 : Nat} {a0 a1 x2 x3 s0 o1 v2 v3 : Int} {I R : PF} {Q Q1 : PV → PF → PF → Prop} (e1 : d1 + 1 ≤ d) (hc : CN X d1 mJ9_max_f86c9 [(1, v2), (1, v3)] I R Q1) (h : ∀ z I2 R2, Q1 (1, z) I2 R2 → PN X d mX2_valueBy 203 [(2, a0), (2, a1), (0, x2), (0, x3)] [(1, z), (0, o1), (2, s0)] I2 R2 Q) : PN X d mX2_valueBy 200 [(2, a0), (2, a1), (0, x2), (0, x3)] [(1, v3), (1, v2), (0, o1), (2, s0)] I R Q := by
  refine P_invS (As := [(1, v2), (1, v3)]) (q := 203) oJ9_max_f86c9 rfl (Or.inl kX2_44) e1 hMF (Nat.le_of_ble_eq_true rfl) hc rfl (by decide +kernel) (fun z I2 R2 hq => ?_)
  exact (PW_sub (ls' := [(2, a0), (2, a1), (0, x2), (0, x3)]) ⟨Or.inr rfl, Or.inr rfl, Or.inr rfl, Or.inr rfl, trivial⟩ (h z I2 R2 hq))
theorem S_X2_valueBy_203 {X : CX} {d : Nat} {a0 a1 x2 x3 s0 o1 v2 : Int} {I R : PF} {Q : PV → PF → PF → Prop} (k1 : kd MF s0 = 12) (b1 : (0 : Int) ≤ o1 ∧ o1 < (ln MF s0 : Int)) (n1 : (ln MF s0 : Int) < 2147483648) (h : PN X d mX2_valueBy 205 [(2, a0), (2, a1), (0, x2), (0, x3)] [] (u2 I s0 o1 v2) R Q) : PN X d mX2_valueBy 203 [(2, a0), (2, a1), (0, x2), (0, x3)] [(1, v2), (0, o1), (2, s0)] I R Q := by
  refine P_l2i (q := 204) rfl (by decide +kernel) ?_
  refine B_iastore (q := 205) k1 rfl n1 b1 rfl (by decide +kernel) ?_
  exact (PW_sub (ls' := [(2, a0), (2, a1), (0, x2), (0, x3)]) ⟨Or.inr rfl, Or.inr rfl, Or.inr rfl, Or.inr rfl, trivial⟩ h)
theorem S_X2_valueBy_205 {X : CX} {d : Nat} {a0 a1 x2 x3 : Int} {I R : PF} {Q : PV → PF → PF → Prop} (h : PN X d mX2_valueBy 4 [(2, a0), (2, a1), (0, x2), (0, (x3 + 1))] [] I R Q) : PN X d mX2_valueBy 205 [(2, a0), (2, a1), (0, x2), (0, x3)] [] I R Q := by
  refine P_iinc (n := 3) (a := 1) (by decide) rfl (q := 208) rfl (by decide +kernel) ?_
  refine P_goto (off := (-204)) (t := 4) (by decide) (by decide +kernel) ?_
  exact (PW_sub (ls' := [(2, a0), (2, a1), (0, x2), (0, (x3 + 1))]) ⟨Or.inr rfl, Or.inr rfl, Or.inr rfl, Or.inr rfl, trivial⟩ h)
theorem S_X2_valueBy_211 {X : CX} {d : Nat} {a0 x2 : Int} {I R : PF} {Q : PV → PF → PF → Prop} (c1 : -2147483648 ≤ x2 ∧ x2 < 2147483648) (h1 : x2 ≤ 0 → PN X d mX2_valueBy 226 [] [] I R Q) (h2 : 0 < x2 → PN X d mX2_valueBy 215 [(2, a0), (9, 0), (0, x2)] [] I R Q) : PN X d mX2_valueBy 211 [(2, a0), (9, 0), (0, x2)] [] I R Q := by
  refine P_iload_n (n := 2) (q := 212) rfl rfl (by decide +kernel) ?_
  refine B_if_le (off := 14) (t := 226) (q := 215) c1 (by decide) rfl (by decide +kernel) ?_ ?_
  · exact fun g9 => (PW_sub (ls' := []) trivial (h1 g9))
  · exact fun g9 => (PW_sub (ls' := [(2, a0), (9, 0), (0, x2)]) ⟨Or.inr rfl, Or.inl rfl, Or.inr rfl, trivial⟩ (h2 g9))
theorem S_X2_valueBy_215 {X : CX} {d : Nat} {a0 x2 : Int} {I R : PF} {Q : PV → PF → PF → Prop} (hs : Shp R) (k1 : kd MF a0 = 2) (b1 : (0 : Int) ≤ (x2 - 1) ∧ (x2 - 1) < 64) (h : PN X d mX2_valueBy 227 [] [(0, (I (a0 + 2) (x2 - 1)))] I R Q) : PN X d mX2_valueBy 215 [(2, a0), (9, 0), (0, x2)] [] I R Q := by
  refine P_aload_n (n := 0) (q := 216) rfl rfl (by decide +kernel) ?_
  refine B_getfR (q := 219) fX2_15 k1 (sh2_1 hs k1) rfl (by decide +kernel) ?_
  refine P_iload_n (n := 2) (q := 220) rfl rfl (by decide +kernel) ?_
  refine P_iconst (n := 1) (q := 221) rfl (by decide +kernel) ?_
  refine P_isub (q := 222) rfl (by decide +kernel) ?_
  refine B_iaload (q := 223) (fo2 k1) (fo2n k1) (by decide) b1 rfl (by decide +kernel) ?_
  refine P_goto (off := 4) (t := 227) (by decide) (by decide +kernel) ?_
  exact (PW_sub (ls' := []) trivial h)
theorem S_X2_valueBy_226 {X : CX} {d : Nat} {I R : PF} {Q : PV → PF → PF → Prop} (h : PN X d mX2_valueBy 227 [] [(0, 0)] I R Q) : PN X d mX2_valueBy 226 [] [] I R Q := by
  refine P_iconst (n := 0) (q := 227) rfl (by decide +kernel) ?_
  exact (PW_sub (ls' := []) trivial h)
theorem S_X2_valueBy_227 {X : CX} {d : Nat} {o0 : Int} {I R : PF} {Q : PV → PF → PF → Prop} (h : Q (0, o0) I R) : PN X d mX2_valueBy 227 [] [(0, o0)] I R Q := by
  refine P_iret rfl (by decide +kernel) h
