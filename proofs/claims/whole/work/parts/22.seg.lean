theorem S_X5_advance_0 {X : CX} {d : Nat} {I R : PF} {Q : PV → PF → PF → Prop} (c1 : -2147483648 ≤ (I 67 2) ∧ (I 67 2) < 2147483648) (h1 : (I 67 2) = 1 → PN X d mX5_advance 21 [(2, 67), (0, (I 67 4))] [] I R Q) (h2 : (I 67 2) ≠ 1 → PN X d mX5_advance 13 [(2, 67), (0, (I 67 4))] [] I R Q) : PN X d mX5_advance 0 [(2, 67)] [] I R Q := by
  refine P_aload_n (n := 0) (q := 1) rfl rfl (by decide +kernel) ?_
  refine P_getf (q := 4) fX5_21 kM67 rfl (by decide +kernel) ?_
  refine P_istore_n (n := 1) (by decide) (q := 5) rfl (by decide +kernel) ?_
  refine P_aload_n (n := 0) (q := 6) rfl rfl (by decide +kernel) ?_
  refine P_getf (q := 9) fX5_15 kM67 rfl (by decide +kernel) ?_
  refine P_iconst (n := 1) (q := 10) rfl (by decide +kernel) ?_
  refine B_icmp_eq (off := 11) (t := 21) (q := 13) c1 ⟨by decide, by decide⟩ (by decide) rfl (by decide +kernel) ?_ ?_
  · exact fun g9 => (h1 g9)
  · exact fun g9 => (h2 g9)
theorem S_X5_advance_13 {X : CX} {d : Nat} {x1 : Int} {I R : PF} {Q : PV → PF → PF → Prop} (c1 : -2147483648 ≤ (I 67 2) ∧ (I 67 2) < 2147483648) (h1 : (I 67 2) ≠ 2 → PN X d mX5_advance 25 [(2, 67), (0, x1)] [] I R Q) (h2 : (I 67 2) = 2 → PN X d mX5_advance 21 [(2, 67), (0, x1)] [] I R Q) : PN X d mX5_advance 13 [(2, 67), (0, x1)] [] I R Q := by
  refine P_aload_n (n := 0) (q := 14) rfl rfl (by decide +kernel) ?_
  refine P_getf (q := 17) fX5_15 kM67 rfl (by decide +kernel) ?_
  refine P_iconst (n := 2) (q := 18) rfl (by decide +kernel) ?_
  refine B_icmp_ne (off := 7) (t := 25) (q := 21) c1 ⟨by decide, by decide⟩ (by decide) rfl (by decide +kernel) ?_ ?_
  · exact fun g9 => (h1 g9)
  · exact fun g9 => (h2 g9)
theorem S_X5_advance_21 {X : CX} {d : Nat} {x1 : Int} {I R : PF} {Q : PV → PF → PF → Prop} (h : PN X d mX5_advance 26 [(2, 67), (0, x1)] [(0, 1)] I R Q) : PN X d mX5_advance 21 [(2, 67), (0, x1)] [] I R Q := by
  refine P_iconst (n := 1) (q := 22) rfl (by decide +kernel) ?_
  refine P_goto (off := 4) (t := 26) (by decide) (by decide +kernel) ?_
  exact h
theorem S_X5_advance_25 {X : CX} {d : Nat} {x1 : Int} {I R : PF} {Q : PV → PF → PF → Prop} (h : PN X d mX5_advance 26 [(2, 67), (0, x1)] [(0, 0)] I R Q) : PN X d mX5_advance 25 [(2, 67), (0, x1)] [] I R Q := by
  refine P_iconst (n := 0) (q := 26) rfl (by decide +kernel) ?_
  exact h
theorem S_X5_advance_26 {X : CX} {d : Nat} {x1 o0 : Int} {I R : PF} {Q : PV → PF → PF → Prop} (h : PN X d mX5_advance 43 [(2, 67), (0, x1), (0, o0)] [] (u2 (u2 I 67 7 (I 67 3)) 67 3 ((u2 I 67 7 (I 67 3)) 67 4)) R Q) : PN X d mX5_advance 26 [(2, 67), (0, x1)] [(0, o0)] I R Q := by
  refine P_istore_n (n := 2) (by decide) (q := 27) rfl (by decide +kernel) ?_
  refine P_aload_n (n := 0) (q := 28) rfl rfl (by decide +kernel) ?_
  refine P_aload_n (n := 0) (q := 29) rfl rfl (by decide +kernel) ?_
  refine P_getf (q := 32) fX5_18 kM67 rfl (by decide +kernel) ?_
  refine P_putI (q := 35) wX5_36 (fun h => by cases h) kM67 rfl (by decide +kernel) ?_
  refine P_aload_n (n := 0) (q := 36) rfl rfl (by decide +kernel) ?_
  refine P_aload_n (n := 0) (q := 37) rfl rfl (by decide +kernel) ?_
  refine P_getf (q := 40) fX5_21 kM67 rfl (by decide +kernel) ?_
  refine P_putI (q := 43) wX5_18 (fun h => by cases h) kM67 rfl (by decide +kernel) ?_
  exact h
theorem S_X5_advance_43 {X : CX} {d : Nat} {x1 x2 : Int} {I R : PF} {Q : PV → PF → PF → Prop} (c1 : -2147483648 ≤ (I 67 3) ∧ (I 67 3) < 2147483648) (c2 : -2147483648 ≤ (I 67 1) ∧ (I 67 1) < 2147483648) (h1 : (I 67 1) ≤ (I 67 3) → PN X d mX5_advance 95 [(2, 67), (0, x1), (0, x2)] [] I R Q) (h2 : (I 67 3) < (I 67 1) → PN X d mX5_advance 54 [(2, 67), (0, x1), (0, x2)] [] I R Q) : PN X d mX5_advance 43 [(2, 67), (0, x1), (0, x2)] [] I R Q := by
  refine P_aload_n (n := 0) (q := 44) rfl rfl (by decide +kernel) ?_
  refine P_getf (q := 47) fX5_18 kM67 rfl (by decide +kernel) ?_
  refine P_aload_n (n := 0) (q := 48) rfl rfl (by decide +kernel) ?_
  refine P_getf (q := 51) fX5_9 kM67 rfl (by decide +kernel) ?_
  refine B_icmp_ge (off := 44) (t := 95) (q := 54) c1 c2 (by decide) rfl (by decide +kernel) ?_ ?_
  · exact fun g9 => (h1 g9)
  · exact fun g9 => (h2 g9)
theorem S_X5_advance_54 {X : CX} {d : Nat} {x1 x2 : Int} {I R : PF} {Q : PV → PF → PF → Prop} (hs : Shp R) (b1 : (0 : Int) ≤ (I 67 3) ∧ (I 67 3) < 1600) (c1 : -2147483648 ≤ (I 65 (I 67 3)) ∧ (I 65 (I 67 3)) < 2147483648) (h1 : (I 65 (I 67 3)) = 10 → PN X d mX5_advance 82 [(2, 67), (0, x1), (0, x2)] [] I R Q) (h2 : (I 65 (I 67 3)) ≠ 10 → PN X d mX5_advance 68 [(2, 67), (0, x1), (0, x2)] [] I R Q) : PN X d mX5_advance 54 [(2, 67), (0, x1), (0, x2)] [] I R Q := by
  refine P_aload_n (n := 0) (q := 55) rfl rfl (by decide +kernel) ?_
  refine B_getfR (q := 58) fX5_45 kM67 (rM67_0 hs) rfl (by decide +kernel) ?_
  refine P_aload_n (n := 0) (q := 59) rfl rfl (by decide +kernel) ?_
  refine P_getf (q := 62) fX5_18 kM67 rfl (by decide +kernel) ?_
  refine B_iaload (q := 63) kM65 nM65 (by decide) b1 rfl (by decide +kernel) ?_
  refine P_bipush (n := 10) (q := 65) rfl rfl (by decide +kernel) ?_
  refine B_icmp_eq (off := 17) (t := 82) (q := 68) c1 ⟨by decide, by decide⟩ (by decide) rfl (by decide +kernel) ?_ ?_
  · exact fun g9 => (h1 g9)
  · exact fun g9 => (h2 g9)
theorem S_X5_advance_68 {X : CX} {d : Nat} {x1 x2 : Int} {I R : PF} {Q : PV → PF → PF → Prop} (hs : Shp R) (b1 : (0 : Int) ≤ (I 67 3) ∧ (I 67 3) < 1600) (c1 : -2147483648 ≤ (I 65 (I 67 3)) ∧ (I 65 (I 67 3)) < 2147483648) (h1 : (I 65 (I 67 3)) ≠ 32 → PN X d mX5_advance 95 [(2, 67), (0, x1), (0, x2)] [] I R Q) (h2 : (I 65 (I 67 3)) = 32 → PN X d mX5_advance 82 [(2, 67), (0, x1), (0, x2)] [] I R Q) : PN X d mX5_advance 68 [(2, 67), (0, x1), (0, x2)] [] I R Q := by
  refine P_aload_n (n := 0) (q := 69) rfl rfl (by decide +kernel) ?_
  refine B_getfR (q := 72) fX5_45 kM67 (rM67_0 hs) rfl (by decide +kernel) ?_
  refine P_aload_n (n := 0) (q := 73) rfl rfl (by decide +kernel) ?_
  refine P_getf (q := 76) fX5_18 kM67 rfl (by decide +kernel) ?_
  refine B_iaload (q := 77) kM65 nM65 (by decide) b1 rfl (by decide +kernel) ?_
  refine P_bipush (n := 32) (q := 79) rfl rfl (by decide +kernel) ?_
  refine B_icmp_ne (off := 16) (t := 95) (q := 82) c1 ⟨by decide, by decide⟩ (by decide) rfl (by decide +kernel) ?_ ?_
  · exact fun g9 => (h1 g9)
  · exact fun g9 => (h2 g9)
theorem S_X5_advance_82 {X : CX} {d : Nat} {x1 x2 : Int} {I R : PF} {Q : PV → PF → PF → Prop} (h : PN X d mX5_advance 43 [(2, 67), (0, x1), (0, x2)] [] (u2 I 67 3 ((I 67 3) + 1)) R Q) : PN X d mX5_advance 82 [(2, 67), (0, x1), (0, x2)] [] I R Q := by
  refine P_aload_n (n := 0) (q := 83) rfl rfl (by decide +kernel) ?_
  refine P_dup (q := 84) (Nat.ne_of_beq_eq_false rfl) rfl (by decide +kernel) ?_
  refine P_getf (q := 87) fX5_18 kM67 rfl (by decide +kernel) ?_
  refine P_iconst (n := 1) (q := 88) rfl (by decide +kernel) ?_
  refine P_iadd (q := 89) rfl (by decide +kernel) ?_
  refine P_putI (q := 92) wX5_18 (fun h => by cases h) kM67 rfl (by decide +kernel) ?_
  refine P_goto (off := (-49)) (t := 43) (by decide) (by decide +kernel) ?_
  exact h
theorem S_X5_advance_95 {X : CX} {d : Nat} {x1 x2 : Int} {I R : PF} {Q : PV → PF → PF → Prop} (c1 : -2147483648 ≤ (I 67 3) ∧ (I 67 3) < 2147483648) (c2 : -2147483648 ≤ (I 67 1) ∧ (I 67 1) < 2147483648) (h1 : (I 67 1) ≤ (I 67 3) → PN X d mX5_advance 118 [(2, 67), (0, x1), (0, x2)] [] I R Q) (h2 : (I 67 3) < (I 67 1) → PN X d mX5_advance 106 [(2, 67), (0, x1), (0, x2)] [] I R Q) : PN X d mX5_advance 95 [(2, 67), (0, x1), (0, x2)] [] I R Q := by
  refine P_aload_n (n := 0) (q := 96) rfl rfl (by decide +kernel) ?_
  refine P_getf (q := 99) fX5_18 kM67 rfl (by decide +kernel) ?_
  refine P_aload_n (n := 0) (q := 100) rfl rfl (by decide +kernel) ?_
  refine P_getf (q := 103) fX5_9 kM67 rfl (by decide +kernel) ?_
  refine B_icmp_ge (off := 15) (t := 118) (q := 106) c1 c2 (by decide) rfl (by decide +kernel) ?_ ?_
  · exact fun g9 => (h1 g9)
  · exact fun g9 => (h2 g9)
theorem S_X5_advance_106 {X : CX} {d : Nat} {x1 x2 : Int} {I R : PF} {Q : PV → PF → PF → Prop} (hs : Shp R) (b1 : (0 : Int) ≤ (I 67 3) ∧ (I 67 3) < 1600) (h : PN X d mX5_advance 119 [(2, 67), (0, x1), (0, x2)] [(0, (I 65 (I 67 3)))] I R Q) : PN X d mX5_advance 106 [(2, 67), (0, x1), (0, x2)] [] I R Q := by
  refine P_aload_n (n := 0) (q := 107) rfl rfl (by decide +kernel) ?_
  refine B_getfR (q := 110) fX5_45 kM67 (rM67_0 hs) rfl (by decide +kernel) ?_
  refine P_aload_n (n := 0) (q := 111) rfl rfl (by decide +kernel) ?_
  refine P_getf (q := 114) fX5_18 kM67 rfl (by decide +kernel) ?_
  refine B_iaload (q := 115) kM65 nM65 (by decide) b1 rfl (by decide +kernel) ?_
  refine P_goto (off := 4) (t := 119) (by decide) (by decide +kernel) ?_
  exact h
theorem S_X5_advance_118 {X : CX} {d : Nat} {x1 x2 : Int} {I R : PF} {Q : PV → PF → PF → Prop} (h : PN X d mX5_advance 119 [(2, 67), (0, x1), (0, x2)] [(0, (-1))] I R Q) : PN X d mX5_advance 118 [(2, 67), (0, x1), (0, x2)] [] I R Q := by
  refine P_iconst (n := (-1)) (q := 119) rfl (by decide +kernel) ?_
  exact h
theorem S_X5_advance_119 {X : CX} {d d1 : Nat} {x1 x2 o0 : Int} {I R : PF} {Q Q1 : PV → PF → PF → Prop} (e1 : d1 + 1 ≤ d) (hc : CN X d1 mJ9_min_7cf53 [(0, ((I 67 3) + 1)), (0, (I 67 1))] I R Q1) (h : ∀ z I2 R2, Q1 (0, z) I2 R2 → PN X d mX5_advance 134 [(2, 67), (0, x1), (0, x2), (0, o0)] [(0, z), (2, 67)] I2 R2 Q) : PN X d mX5_advance 119 [(2, 67), (0, x1), (0, x2)] [(0, o0)] I R Q := by
  refine P_istore_n (n := 3) (by decide) (q := 120) rfl (by decide +kernel) ?_
  refine P_aload_n (n := 0) (q := 121) rfl rfl (by decide +kernel) ?_
  refine P_aload_n (n := 0) (q := 122) rfl rfl (by decide +kernel) ?_
  refine P_getf (q := 125) fX5_18 kM67 rfl (by decide +kernel) ?_
  refine P_iconst (n := 1) (q := 126) rfl (by decide +kernel) ?_
  refine P_iadd (q := 127) rfl (by decide +kernel) ?_
  refine P_aload_n (n := 0) (q := 128) rfl rfl (by decide +kernel) ?_
  refine P_getf (q := 131) fX5_9 kM67 rfl (by decide +kernel) ?_
  refine P_invS (As := [(0, ((I 67 3) + 1)), (0, (I 67 1))]) (q := 134) oJ9_min_7cf53 rfl (Or.inl kX5_49) e1 hMF (Nat.le_of_ble_eq_true rfl) hc rfl (by decide +kernel) (fun z I2 R2 hq => ?_)
  exact (h z I2 R2 hq)
theorem S_X5_advance_134 {X : CX} {d : Nat} {x1 x2 x3 o1 : Int} {I R : PF} {Q : PV → PF → PF → Prop} (c1 : -2147483648 ≤ ((u2 I 67 4 o1) 67 3) ∧ ((u2 I 67 4 o1) 67 3) < 2147483648) (c2 : -2147483648 ≤ ((u2 I 67 4 o1) 67 1) ∧ ((u2 I 67 4 o1) 67 1) < 2147483648) (h1 : ((u2 I 67 4 o1) 67 1) ≤ ((u2 I 67 4 o1) 67 3) → PN X d mX5_advance 153 [(2, 67), (0, x1), (0, x2), (0, x3)] [(2, 67)] (u2 I 67 4 o1) R Q) (h2 : ((u2 I 67 4 o1) 67 3) < ((u2 I 67 4 o1) 67 1) → PN X d mX5_advance 149 [(2, 67), (0, x1), (0, x2), (0, x3)] [(2, 67)] (u2 I 67 4 o1) R Q) : PN X d mX5_advance 134 [(2, 67), (0, x1), (0, x2), (0, x3)] [(0, o1), (2, 67)] I R Q := by
  refine P_putI (q := 137) wX5_21 (fun h => by cases h) kM67 rfl (by decide +kernel) ?_
  refine P_aload_n (n := 0) (q := 138) rfl rfl (by decide +kernel) ?_
  refine P_aload_n (n := 0) (q := 139) rfl rfl (by decide +kernel) ?_
  refine P_getf (q := 142) fX5_18 kM67 rfl (by decide +kernel) ?_
  refine P_aload_n (n := 0) (q := 143) rfl rfl (by decide +kernel) ?_
  refine P_getf (q := 146) fX5_9 kM67 rfl (by decide +kernel) ?_
  refine B_icmp_ge (off := 7) (t := 153) (q := 149) c1 c2 (by decide) rfl (by decide +kernel) ?_ ?_
  · exact fun g9 => (h1 g9)
  · exact fun g9 => (h2 g9)
theorem S_X5_advance_149 {X : CX} {d : Nat} {x1 x2 x3 : Int} {I R : PF} {Q : PV → PF → PF → Prop} (h : PN X d mX5_advance 154 [(2, 67), (0, x1), (0, x2), (0, x3)] [(0, 3), (2, 67)] I R Q) : PN X d mX5_advance 149 [(2, 67), (0, x1), (0, x2), (0, x3)] [(2, 67)] I R Q := by
  refine P_iconst (n := 3) (q := 150) rfl (by decide +kernel) ?_
  refine P_goto (off := 4) (t := 154) (by decide) (by decide +kernel) ?_
  exact h
theorem S_X5_advance_153 {X : CX} {d : Nat} {x1 x2 x3 : Int} {I R : PF} {Q : PV → PF → PF → Prop} (h : PN X d mX5_advance 154 [(2, 67), (0, x1), (0, x2), (0, x3)] [(0, 0), (2, 67)] I R Q) : PN X d mX5_advance 153 [(2, 67), (0, x1), (0, x2), (0, x3)] [(2, 67)] I R Q := by
  refine P_iconst (n := 0) (q := 154) rfl (by decide +kernel) ?_
  exact h
theorem S_X5_advance_154 {X : CX} {d : Nat} {x1 x2 x3 o1 : Int} {I R : PF} {Q : PV → PF → PF → Prop} (c1 : -2147483648 ≤ x3 ∧ x3 < 2147483648) (h1 : x3 < 97 → PN X d mX5_advance 374 [(2, 67), (0, x1), (0, x2), (0, x3)] [] (u2 (u2 I 67 2 o1) 67 5 x3) (u2 R 67 6 1) Q) (h2 : 97 ≤ x3 → PN X d mX5_advance 175 [(2, 67), (0, x1), (0, x2), (0, x3)] [] (u2 (u2 I 67 2 o1) 67 5 x3) (u2 R 67 6 1) Q) : PN X d mX5_advance 154 [(2, 67), (0, x1), (0, x2), (0, x3)] [(0, o1), (2, 67)] I R Q := by
  refine P_putI (q := 157) wX5_15 (fun h => by cases h) kM67 rfl (by decide +kernel) ?_
  refine P_aload_n (n := 0) (q := 158) rfl rfl (by decide +kernel) ?_
  refine P_iload_n (n := 3) (q := 159) rfl rfl (by decide +kernel) ?_
  refine P_putI (q := 162) wX5_24 (fun h => by cases h) kM67 rfl (by decide +kernel) ?_
  refine P_aload_n (n := 0) (q := 163) rfl rfl (by decide +kernel) ?_
  refine P_gets (o := 1) (q := 166) (fun _ _ h => zW (i := 0) (by decide) h) ⟨by decide, by decide⟩ gX5_27 rfl (by decide +kernel) ?_
  refine P_putR (q := 169) wX5_33 rfl (fun h => by cases h) kM67 rfl (by decide +kernel) ?_
  refine P_iload_n (n := 3) (q := 170) rfl rfl (by decide +kernel) ?_
  refine P_bipush (n := 97) (q := 172) rfl rfl (by decide +kernel) ?_
  refine B_icmp_lt (off := 202) (t := 374) (q := 175) c1 ⟨by decide, by decide⟩ (by decide) rfl (by decide +kernel) ?_ ?_
  · exact fun g9 => (h1 g9)
  · exact fun g9 => (h2 g9)
theorem S_X5_advance_175 {X : CX} {d : Nat} {x1 x2 x3 : Int} {I R : PF} {Q : PV → PF → PF → Prop} (c1 : -2147483648 ≤ x3 ∧ x3 < 2147483648) (h1 : 122 < x3 → PN X d mX5_advance 374 [(2, 67), (0, x1), (0, x2), (0, x3)] [] I R Q) (h2 : x3 ≤ 122 → PN X d mX5_advance 181 [(2, 67), (0, x1), (0, x2)] [] I R Q) : PN X d mX5_advance 175 [(2, 67), (0, x1), (0, x2), (0, x3)] [] I R Q := by
  refine P_iload_n (n := 3) (q := 176) rfl rfl (by decide +kernel) ?_
  refine P_bipush (n := 122) (q := 178) rfl rfl (by decide +kernel) ?_
  refine B_icmp_gt (off := 196) (t := 374) (q := 181) c1 ⟨by decide, by decide⟩ (by decide) rfl (by decide +kernel) ?_ ?_
  · exact fun g9 => (h1 g9)
  · exact fun g9 => (PW_sub (ls' := [(2, 67), (0, x1), (0, x2)]) ⟨Or.inr rfl, Or.inr rfl, Or.inr rfl, trivial⟩ (h2 g9))
theorem S_X5_advance_181 {X : CX} {d : Nat} {x1 x2 : Int} {I R : PF} {Q : PV → PF → PF → Prop} (h : PN X d mX5_advance 186 [(2, 67), (0, x1), (0, x2)] [] (u2 I 67 2 1) R Q) : PN X d mX5_advance 181 [(2, 67), (0, x1), (0, x2)] [] I R Q := by
  refine P_aload_n (n := 0) (q := 182) rfl rfl (by decide +kernel) ?_
  refine P_iconst (n := 1) (q := 183) rfl (by decide +kernel) ?_
  refine P_putI (q := 186) wX5_15 (fun h => by cases h) kM67 rfl (by decide +kernel) ?_
  exact (PW_sub (ls' := [(2, 67), (0, x1), (0, x2)]) ⟨Or.inr rfl, Or.inr rfl, Or.inr rfl, trivial⟩ h)
theorem S_X5_advance_186 {X : CX} {d : Nat} {x1 x2 : Int} {I R : PF} {Q : PV → PF → PF → Prop} (c1 : -2147483648 ≤ (I 67 4) ∧ (I 67 4) < 2147483648) (c2 : -2147483648 ≤ (I 67 1) ∧ (I 67 1) < 2147483648) (h1 : (I 67 1) ≤ (I 67 4) → PN X d mX5_advance 238 [(2, 67), (0, x1), (0, x2)] [] I R Q) (h2 : (I 67 4) < (I 67 1) → PN X d mX5_advance 197 [(2, 67), (0, x1), (0, x2)] [] I R Q) : PN X d mX5_advance 186 [(2, 67), (0, x1), (0, x2)] [] I R Q := by
  refine P_aload_n (n := 0) (q := 187) rfl rfl (by decide +kernel) ?_
  refine P_getf (q := 190) fX5_21 kM67 rfl (by decide +kernel) ?_
  refine P_aload_n (n := 0) (q := 191) rfl rfl (by decide +kernel) ?_
  refine P_getf (q := 194) fX5_9 kM67 rfl (by decide +kernel) ?_
  refine B_icmp_ge (off := 44) (t := 238) (q := 197) c1 c2 (by decide) rfl (by decide +kernel) ?_ ?_
  · exact fun g9 => (PW_sub (ls' := [(2, 67), (0, x1), (0, x2)]) ⟨Or.inr rfl, Or.inr rfl, Or.inr rfl, trivial⟩ (h1 g9))
  · exact fun g9 => (PW_sub (ls' := [(2, 67), (0, x1), (0, x2)]) ⟨Or.inr rfl, Or.inr rfl, Or.inr rfl, trivial⟩ (h2 g9))
theorem S_X5_advance_197 {X : CX} {d : Nat} {x1 x2 : Int} {I R : PF} {Q : PV → PF → PF → Prop} (hs : Shp R) (b1 : (0 : Int) ≤ (I 67 4) ∧ (I 67 4) < 1600) (c1 : -2147483648 ≤ (I 65 (I 67 4)) ∧ (I 65 (I 67 4)) < 2147483648) (h1 : (I 65 (I 67 4)) < 97 → PN X d mX5_advance 238 [(2, 67), (0, x1), (0, x2)] [] I R Q) (h2 : 97 ≤ (I 65 (I 67 4)) → PN X d mX5_advance 211 [(2, 67), (0, x1), (0, x2)] [] I R Q) : PN X d mX5_advance 197 [(2, 67), (0, x1), (0, x2)] [] I R Q := by
  refine P_aload_n (n := 0) (q := 198) rfl rfl (by decide +kernel) ?_
  refine B_getfR (q := 201) fX5_45 kM67 (rM67_0 hs) rfl (by decide +kernel) ?_
  refine P_aload_n (n := 0) (q := 202) rfl rfl (by decide +kernel) ?_
  refine P_getf (q := 205) fX5_21 kM67 rfl (by decide +kernel) ?_
  refine B_iaload (q := 206) kM65 nM65 (by decide) b1 rfl (by decide +kernel) ?_
  refine P_bipush (n := 97) (q := 208) rfl rfl (by decide +kernel) ?_
  refine B_icmp_lt (off := 30) (t := 238) (q := 211) c1 ⟨by decide, by decide⟩ (by decide) rfl (by decide +kernel) ?_ ?_
  · exact fun g9 => (PW_sub (ls' := [(2, 67), (0, x1), (0, x2)]) ⟨Or.inr rfl, Or.inr rfl, Or.inr rfl, trivial⟩ (h1 g9))
  · exact fun g9 => (PW_sub (ls' := [(2, 67), (0, x1), (0, x2)]) ⟨Or.inr rfl, Or.inr rfl, Or.inr rfl, trivial⟩ (h2 g9))
theorem S_X5_advance_211 {X : CX} {d : Nat} {x1 x2 : Int} {I R : PF} {Q : PV → PF → PF → Prop} (hs : Shp R) (b1 : (0 : Int) ≤ (I 67 4) ∧ (I 67 4) < 1600) (c1 : -2147483648 ≤ (I 65 (I 67 4)) ∧ (I 65 (I 67 4)) < 2147483648) (h1 : 122 < (I 65 (I 67 4)) → PN X d mX5_advance 238 [(2, 67), (0, x1), (0, x2)] [] I R Q) (h2 : (I 65 (I 67 4)) ≤ 122 → PN X d mX5_advance 225 [(2, 67), (0, x1), (0, x2)] [] I R Q) : PN X d mX5_advance 211 [(2, 67), (0, x1), (0, x2)] [] I R Q := by
  refine P_aload_n (n := 0) (q := 212) rfl rfl (by decide +kernel) ?_
  refine B_getfR (q := 215) fX5_45 kM67 (rM67_0 hs) rfl (by decide +kernel) ?_
  refine P_aload_n (n := 0) (q := 216) rfl rfl (by decide +kernel) ?_
  refine P_getf (q := 219) fX5_21 kM67 rfl (by decide +kernel) ?_
  refine B_iaload (q := 220) kM65 nM65 (by decide) b1 rfl (by decide +kernel) ?_
  refine P_bipush (n := 122) (q := 222) rfl rfl (by decide +kernel) ?_
  refine B_icmp_gt (off := 16) (t := 238) (q := 225) c1 ⟨by decide, by decide⟩ (by decide) rfl (by decide +kernel) ?_ ?_
  · exact fun g9 => (PW_sub (ls' := [(2, 67), (0, x1), (0, x2)]) ⟨Or.inr rfl, Or.inr rfl, Or.inr rfl, trivial⟩ (h1 g9))
  · exact fun g9 => (PW_sub (ls' := [(2, 67), (0, x1), (0, x2)]) ⟨Or.inr rfl, Or.inr rfl, Or.inr rfl, trivial⟩ (h2 g9))
theorem S_X5_advance_225 {X : CX} {d : Nat} {x1 x2 : Int} {I R : PF} {Q : PV → PF → PF → Prop} (h : PN X d mX5_advance 186 [(2, 67), (0, x1), (0, x2)] [] (u2 I 67 4 ((I 67 4) + 1)) R Q) : PN X d mX5_advance 225 [(2, 67), (0, x1), (0, x2)] [] I R Q := by
  refine P_aload_n (n := 0) (q := 226) rfl rfl (by decide +kernel) ?_
  refine P_dup (q := 227) (Nat.ne_of_beq_eq_false rfl) rfl (by decide +kernel) ?_
  refine P_getf (q := 230) fX5_21 kM67 rfl (by decide +kernel) ?_
  refine P_iconst (n := 1) (q := 231) rfl (by decide +kernel) ?_
  refine P_iadd (q := 232) rfl (by decide +kernel) ?_
  refine P_putI (q := 235) wX5_21 (fun h => by cases h) kM67 rfl (by decide +kernel) ?_
  refine P_goto (off := (-49)) (t := 186) (by decide) (by decide +kernel) ?_
  exact (PW_sub (ls' := [(2, 67), (0, x1), (0, x2)]) ⟨Or.inr rfl, Or.inr rfl, Or.inr rfl, trivial⟩ h)
theorem S_X5_advance_238 {X : CX} {d : Nat} {x1 x2 : Int} {I R : PF} {Q : PV → PF → PF → Prop} (h : PN X d mX5_advance 246 [(2, 67), (0, x1), (0, x2), (9, 0), (0, 0)] [] (u2 I 67 5 0) R Q) : PN X d mX5_advance 238 [(2, 67), (0, x1), (0, x2)] [] I R Q := by
  refine P_aload_n (n := 0) (q := 239) rfl rfl (by decide +kernel) ?_
  refine P_iconst (n := 0) (q := 240) rfl (by decide +kernel) ?_
  refine P_putI (q := 243) wX5_24 (fun h => by cases h) kM67 rfl (by decide +kernel) ?_
  refine P_iconst (n := 0) (q := 244) rfl (by decide +kernel) ?_
  refine P_istore (n := 4) (by decide) (q := 246) rfl (by decide +kernel) ?_
  exact h
theorem S_X5_advance_246 {X : CX} {d : Nat} {x1 x2 x4 : Int} {I R : PF} {Q : PV → PF → PF → Prop} (c1 : -2147483648 ≤ x4 ∧ x4 < 2147483648) (h1 : 6 ≤ x4 → PN X d mX5_advance 306 [(2, 67), (0, x1), (0, x2)] [] I R Q) (h2 : x4 < 6 → PN X d mX5_advance 253 [(2, 67), (0, x1), (0, x2), (9, 0), (0, x4)] [] I R Q) : PN X d mX5_advance 246 [(2, 67), (0, x1), (0, x2), (9, 0), (0, x4)] [] I R Q := by
  refine P_iload (n := 4) (q := 248) rfl rfl (by decide +kernel) ?_
  refine P_bipush (n := 6) (q := 250) rfl rfl (by decide +kernel) ?_
  refine B_icmp_ge (off := 56) (t := 306) (q := 253) c1 ⟨by decide, by decide⟩ (by decide) rfl (by decide +kernel) ?_ ?_
  · exact fun g9 => (PW_sub (ls' := [(2, 67), (0, x1), (0, x2)]) ⟨Or.inr rfl, Or.inr rfl, Or.inr rfl, trivial⟩ (h1 g9))
  · exact fun g9 => (h2 g9)
theorem S_X5_advance_253 {X : CX} {d : Nat} {x1 x2 x4 : Int} {I R : PF} {Q : PV → PF → PF → Prop} (c1 : -2147483648 ≤ ((I 67 3) + x4) ∧ ((I 67 3) + x4) < 2147483648) (c2 : -2147483648 ≤ (I 67 4) ∧ (I 67 4) < 2147483648) (h1 : (I 67 4) ≤ ((I 67 3) + x4) → PN X d mX5_advance 295 [(2, 67), (0, x1), (0, x2), (9, 0), (0, x4)] [(0, (27 * (I 67 5))), (2, 67)] I R Q) (h2 : ((I 67 3) + x4) < (I 67 4) → PN X d mX5_advance 275 [(2, 67), (0, x1), (0, x2), (9, 0), (0, x4)] [(0, (27 * (I 67 5))), (2, 67)] I R Q) : PN X d mX5_advance 253 [(2, 67), (0, x1), (0, x2), (9, 0), (0, x4)] [] I R Q := by
  refine P_aload_n (n := 0) (q := 254) rfl rfl (by decide +kernel) ?_
  refine P_bipush (n := 27) (q := 256) rfl rfl (by decide +kernel) ?_
  refine P_aload_n (n := 0) (q := 257) rfl rfl (by decide +kernel) ?_
  refine P_getf (q := 260) fX5_24 kM67 rfl (by decide +kernel) ?_
  refine P_imul (q := 261) rfl (by decide +kernel) ?_
  refine P_aload_n (n := 0) (q := 262) rfl rfl (by decide +kernel) ?_
  refine P_getf (q := 265) fX5_18 kM67 rfl (by decide +kernel) ?_
  refine P_iload (n := 4) (q := 267) rfl rfl (by decide +kernel) ?_
  refine P_iadd (q := 268) rfl (by decide +kernel) ?_
  refine P_aload_n (n := 0) (q := 269) rfl rfl (by decide +kernel) ?_
  refine P_getf (q := 272) fX5_21 kM67 rfl (by decide +kernel) ?_
  refine B_icmp_ge (off := 23) (t := 295) (q := 275) c1 c2 (by decide) rfl (by decide +kernel) ?_ ?_
  · exact fun g9 => (h1 g9)
  · exact fun g9 => (h2 g9)
theorem S_X5_advance_275 {X : CX} {d : Nat} {x1 x2 x4 o1 : Int} {I R : PF} {Q : PV → PF → PF → Prop} (hs : Shp R) (b1 : (0 : Int) ≤ ((I 67 3) + x4) ∧ ((I 67 3) + x4) < 1600) (h : PN X d mX5_advance 296 [(2, 67), (0, x1), (0, x2), (9, 0), (0, x4)] [(0, (((I 65 ((I 67 3) + x4)) - 97) + 1)), (0, o1), (2, 67)] I R Q) : PN X d mX5_advance 275 [(2, 67), (0, x1), (0, x2), (9, 0), (0, x4)] [(0, o1), (2, 67)] I R Q := by
  refine P_aload_n (n := 0) (q := 276) rfl rfl (by decide +kernel) ?_
  refine B_getfR (q := 279) fX5_45 kM67 (rM67_0 hs) rfl (by decide +kernel) ?_
  refine P_aload_n (n := 0) (q := 280) rfl rfl (by decide +kernel) ?_
  refine P_getf (q := 283) fX5_18 kM67 rfl (by decide +kernel) ?_
  refine P_iload (n := 4) (q := 285) rfl rfl (by decide +kernel) ?_
  refine P_iadd (q := 286) rfl (by decide +kernel) ?_
  refine B_iaload (q := 287) kM65 nM65 (by decide) b1 rfl (by decide +kernel) ?_
  refine P_bipush (n := 97) (q := 289) rfl rfl (by decide +kernel) ?_
  refine P_isub (q := 290) rfl (by decide +kernel) ?_
  refine P_iconst (n := 1) (q := 291) rfl (by decide +kernel) ?_
  refine P_iadd (q := 292) rfl (by decide +kernel) ?_
  refine P_goto (off := 4) (t := 296) (by decide) (by decide +kernel) ?_
  exact h
theorem S_X5_advance_295 {X : CX} {d : Nat} {x1 x2 x4 o1 : Int} {I R : PF} {Q : PV → PF → PF → Prop} (h : PN X d mX5_advance 296 [(2, 67), (0, x1), (0, x2), (9, 0), (0, x4)] [(0, 0), (0, o1), (2, 67)] I R Q) : PN X d mX5_advance 295 [(2, 67), (0, x1), (0, x2), (9, 0), (0, x4)] [(0, o1), (2, 67)] I R Q := by
  refine P_iconst (n := 0) (q := 296) rfl (by decide +kernel) ?_
  exact h
theorem S_X5_advance_296 {X : CX} {d : Nat} {x1 x2 x4 o1 o2 : Int} {I R : PF} {Q : PV → PF → PF → Prop} (h : PN X d mX5_advance 246 [(2, 67), (0, x1), (0, x2), (9, 0), (0, (x4 + 1))] [] (u2 I 67 5 (o1 + o2)) R Q) : PN X d mX5_advance 296 [(2, 67), (0, x1), (0, x2), (9, 0), (0, x4)] [(0, o2), (0, o1), (2, 67)] I R Q := by
  refine P_iadd (q := 297) rfl (by decide +kernel) ?_
  refine P_putI (q := 300) wX5_24 (fun h => by cases h) kM67 rfl (by decide +kernel) ?_
  refine P_iinc (n := 4) (a := 1) (by decide) rfl (q := 303) rfl (by decide +kernel) ?_
  refine P_goto (off := (-57)) (t := 246) (by decide) (by decide +kernel) ?_
  exact h
theorem S_X5_advance_306 {X : CX} {d : Nat} {x1 x2 : Int} {I R : PF} {Q : PV → PF → PF → Prop} (h : PN X d mX5_advance 309 [(2, 67), (0, x1), (0, x2), (9, 0), (0, 0)] [] I R Q) : PN X d mX5_advance 306 [(2, 67), (0, x1), (0, x2)] [] I R Q := by
  refine P_iconst (n := 0) (q := 307) rfl (by decide +kernel) ?_
  refine P_istore (n := 4) (by decide) (q := 309) rfl (by decide +kernel) ?_
  exact h
theorem S_X5_advance_309 {X : CX} {d : Nat} {x1 x2 x4 : Int} {I R : PF} {Q : PV → PF → PF → Prop} (c1 : -2147483648 ≤ x4 ∧ x4 < 2147483648) (h1 : 37 ≤ x4 → PN X d mX5_advance 371 [(2, 67), (0, x1), (0, x2)] [] I R Q) (h2 : x4 < 37 → PN X d mX5_advance 318 [(2, 67), (0, x1), (0, x2), (9, 0), (0, x4)] [] I R Q) : PN X d mX5_advance 309 [(2, 67), (0, x1), (0, x2), (9, 0), (0, x4)] [] I R Q := by
  refine P_iload (n := 4) (q := 311) rfl rfl (by decide +kernel) ?_
  refine P_gets (o := 38) (q := 314) (fun _ _ h => z38 h) ⟨by decide, by decide⟩ gX5_58 rfl (by decide +kernel) ?_
  refine P_alenW (q := 315) rfl (by decide +kernel) ?_
  refine B_icmp_ge (off := 56) (t := 371) (q := 318) c1 ⟨by decide, by decide⟩ (by decide) rfl (by decide +kernel) ?_ ?_
  · exact fun g9 => (PW_sub (ls' := [(2, 67), (0, x1), (0, x2)]) ⟨Or.inr rfl, Or.inr rfl, Or.inr rfl, trivial⟩ (h1 g9))
  · exact fun g9 => (h2 g9)
theorem S_X5_advance_318 {X : CX} {d : Nat} {x1 x2 x4 : Int} {I R : PF} {Q : PV → PF → PF → Prop} (c1 : -2147483648 ≤ ((I 67 4) - (I 67 3)) ∧ ((I 67 4) - (I 67 3)) < 2147483648) (h1 : 6 < ((I 67 4) - (I 67 3)) → PN X d mX5_advance 371 [(2, 67), (0, x1), (0, x2)] [] I R Q) (h2 : ((I 67 4) - (I 67 3)) ≤ 6 → PN X d mX5_advance 332 [(2, 67), (0, x1), (0, x2), (9, 0), (0, x4)] [] I R Q) : PN X d mX5_advance 318 [(2, 67), (0, x1), (0, x2), (9, 0), (0, x4)] [] I R Q := by
  refine P_aload_n (n := 0) (q := 319) rfl rfl (by decide +kernel) ?_
  refine P_getf (q := 322) fX5_21 kM67 rfl (by decide +kernel) ?_
  refine P_aload_n (n := 0) (q := 323) rfl rfl (by decide +kernel) ?_
  refine P_getf (q := 326) fX5_18 kM67 rfl (by decide +kernel) ?_
  refine P_isub (q := 327) rfl (by decide +kernel) ?_
  refine P_bipush (n := 6) (q := 329) rfl rfl (by decide +kernel) ?_
  refine B_icmp_gt (off := 42) (t := 371) (q := 332) c1 ⟨by decide, by decide⟩ (by decide) rfl (by decide +kernel) ?_ ?_
  · exact fun g9 => (PW_sub (ls' := [(2, 67), (0, x1), (0, x2)]) ⟨Or.inr rfl, Or.inr rfl, Or.inr rfl, trivial⟩ (h1 g9))
  · exact fun g9 => (h2 g9)
theorem S_X5_advance_332 {X : CX} {d : Nat} {x1 x2 x4 : Int} {I R : PF} {Q : PV → PF → PF → Prop} (b1 : (0 : Int) ≤ x4 ∧ x4 < 37) (c1 : 1 ≤ (x4 + 1) ∧ (x4 + 1) ≤ 37) (c2 : -2147483648 ≤ (sW 0 (x4 + 1)) ∧ (sW 0 (x4 + 1)) < 2147483648) (c3 : -2147483648 ≤ (I 67 5) ∧ (I 67 5) < 2147483648) (h1 : (sW 0 (x4 + 1)) ≠ (I 67 5) → PN X d mX5_advance 358 [(2, 67), (0, x1), (0, x2), (9, 0), (0, x4)] [(2, 67)] I R Q) (h2 : (sW 0 (x4 + 1)) = (I 67 5) → PN X d mX5_advance 349 [(2, 67), (0, x1), (0, x2), (9, 0), (0, x4)] [(2, 67)] I R Q) : PN X d mX5_advance 332 [(2, 67), (0, x1), (0, x2), (9, 0), (0, x4)] [] I R Q := by
  refine P_aload_n (n := 0) (q := 333) rfl rfl (by decide +kernel) ?_
  refine P_gets (o := 38) (q := 336) (fun _ _ h => z38 h) ⟨by decide, by decide⟩ gX5_58 rfl (by decide +kernel) ?_
  refine P_iload (n := 4) (q := 338) rfl rfl (by decide +kernel) ?_
  refine B_aaloadW (q := 339) b1 rfl (by decide +kernel) ?_
  refine P_getE (q := 342) eX5_62 c1 rfl (by decide +kernel) ?_
  refine P_aload_n (n := 0) (q := 343) rfl rfl (by decide +kernel) ?_
  refine P_getf (q := 346) fX5_24 kM67 rfl (by decide +kernel) ?_
  refine B_icmp_ne (off := 12) (t := 358) (q := 349) c2 c3 (by decide) rfl (by decide +kernel) ?_ ?_
  · exact fun g9 => (h1 g9)
  · exact fun g9 => (h2 g9)
theorem S_X5_advance_349 {X : CX} {d : Nat} {x1 x2 x4 : Int} {I R : PF} {Q : PV → PF → PF → Prop} (b1 : (0 : Int) ≤ x4 ∧ x4 < 37) (h : PN X d mX5_advance 362 [(2, 67), (0, x1), (0, x2), (9, 0), (0, x4)] [(2, (x4 + 1)), (2, 67)] I R Q) : PN X d mX5_advance 349 [(2, 67), (0, x1), (0, x2), (9, 0), (0, x4)] [(2, 67)] I R Q := by
  refine P_gets (o := 38) (q := 352) (fun _ _ h => z38 h) ⟨by decide, by decide⟩ gX5_58 rfl (by decide +kernel) ?_
  refine P_iload (n := 4) (q := 354) rfl rfl (by decide +kernel) ?_
  refine B_aaloadW (q := 355) b1 rfl (by decide +kernel) ?_
  refine P_goto (off := 7) (t := 362) (by decide) (by decide +kernel) ?_
  exact h
theorem S_X5_advance_358 {X : CX} {d : Nat} {x1 x2 x4 t1 : Int} {I R : PF} {Q : PV → PF → PF → Prop} (r1 : R 67 6 = t1) (h : PN X d mX5_advance 362 [(2, 67), (0, x1), (0, x2), (9, 0), (0, x4)] [(2, t1), (2, 67)] I R Q) : PN X d mX5_advance 358 [(2, 67), (0, x1), (0, x2), (9, 0), (0, x4)] [(2, 67)] I R Q := by
  refine P_aload_n (n := 0) (q := 359) rfl rfl (by decide +kernel) ?_
  refine B_getfR (q := 362) fX5_33 kM67 r1 rfl (by decide +kernel) ?_
  exact h
theorem S_X5_advance_362 {X : CX} {d : Nat} {x1 x2 x4 s1 : Int} {I R : PF} {Q : PV → PF → PF → Prop} (h : PN X d mX5_advance 309 [(2, 67), (0, x1), (0, x2), (9, 0), (0, (x4 + 1))] [] I (u2 R 67 6 s1) Q) : PN X d mX5_advance 362 [(2, 67), (0, x1), (0, x2), (9, 0), (0, x4)] [(2, s1), (2, 67)] I R Q := by
  refine P_putR (q := 365) wX5_33 rfl (fun h => by cases h) kM67 rfl (by decide +kernel) ?_
  refine P_iinc (n := 4) (a := 1) (by decide) rfl (q := 368) rfl (by decide +kernel) ?_
  refine P_goto (off := (-59)) (t := 309) (by decide) (by decide +kernel) ?_
  exact h
theorem S_X5_advance_371 {X : CX} {d : Nat} {x1 x2 : Int} {I R : PF} {Q : PV → PF → PF → Prop} (h : PN X d mX5_advance 495 [(2, 67), (0, x1), (0, x2)] [] I R Q) : PN X d mX5_advance 371 [(2, 67), (0, x1), (0, x2)] [] I R Q := by
  refine P_goto (off := 124) (t := 495) (by decide) (by decide +kernel) ?_
  exact (PW_sub (ls' := [(2, 67), (0, x1), (0, x2)]) ⟨Or.inr rfl, Or.inr rfl, Or.inr rfl, trivial⟩ h)
theorem S_X5_advance_374 {X : CX} {d : Nat} {x1 x2 x3 : Int} {I R : PF} {Q : PV → PF → PF → Prop} (c1 : -2147483648 ≤ x3 ∧ x3 < 2147483648) (h1 : x3 < 48 → PN X d mX5_advance 495 [(2, 67), (0, x1), (0, x2)] [] I R Q) (h2 : 48 ≤ x3 → PN X d mX5_advance 380 [(2, 67), (0, x1), (0, x2), (0, x3)] [] I R Q) : PN X d mX5_advance 374 [(2, 67), (0, x1), (0, x2), (0, x3)] [] I R Q := by
  refine P_iload_n (n := 3) (q := 375) rfl rfl (by decide +kernel) ?_
  refine P_bipush (n := 48) (q := 377) rfl rfl (by decide +kernel) ?_
  refine B_icmp_lt (off := 118) (t := 495) (q := 380) c1 ⟨by decide, by decide⟩ (by decide) rfl (by decide +kernel) ?_ ?_
  · exact fun g9 => (PW_sub (ls' := [(2, 67), (0, x1), (0, x2)]) ⟨Or.inr rfl, Or.inr rfl, Or.inr rfl, trivial⟩ (h1 g9))
  · exact fun g9 => (h2 g9)
theorem S_X5_advance_380 {X : CX} {d : Nat} {x1 x2 x3 : Int} {I R : PF} {Q : PV → PF → PF → Prop} (c1 : -2147483648 ≤ x3 ∧ x3 < 2147483648) (h1 : 57 < x3 → PN X d mX5_advance 495 [(2, 67), (0, x1), (0, x2)] [] I R Q) (h2 : x3 ≤ 57 → PN X d mX5_advance 386 [(2, 67), (0, x1), (0, x2), (0, x3)] [] I R Q) : PN X d mX5_advance 380 [(2, 67), (0, x1), (0, x2), (0, x3)] [] I R Q := by
  refine P_iload_n (n := 3) (q := 381) rfl rfl (by decide +kernel) ?_
  refine P_bipush (n := 57) (q := 383) rfl rfl (by decide +kernel) ?_
  refine B_icmp_gt (off := 112) (t := 495) (q := 386) c1 ⟨by decide, by decide⟩ (by decide) rfl (by decide +kernel) ?_ ?_
  · exact fun g9 => (PW_sub (ls' := [(2, 67), (0, x1), (0, x2)]) ⟨Or.inr rfl, Or.inr rfl, Or.inr rfl, trivial⟩ (h1 g9))
  · exact fun g9 => (h2 g9)
theorem S_X5_advance_386 {X : CX} {d : Nat} {x1 x2 x3 : Int} {I R : PF} {Q : PV → PF → PF → Prop} (h : PN X d mX5_advance 399 [(2, 67), (0, x1), (0, x2)] [] (u2 (u2 I 67 2 2) 67 5 (x3 - 48)) R Q) : PN X d mX5_advance 386 [(2, 67), (0, x1), (0, x2), (0, x3)] [] I R Q := by
  refine P_aload_n (n := 0) (q := 387) rfl rfl (by decide +kernel) ?_
  refine P_iconst (n := 2) (q := 388) rfl (by decide +kernel) ?_
  refine P_putI (q := 391) wX5_15 (fun h => by cases h) kM67 rfl (by decide +kernel) ?_
  refine P_aload_n (n := 0) (q := 392) rfl rfl (by decide +kernel) ?_
  refine P_iload_n (n := 3) (q := 393) rfl rfl (by decide +kernel) ?_
  refine P_bipush (n := 48) (q := 395) rfl rfl (by decide +kernel) ?_
  refine P_isub (q := 396) rfl (by decide +kernel) ?_
  refine P_putI (q := 399) wX5_24 (fun h => by cases h) kM67 rfl (by decide +kernel) ?_
  exact (PW_sub (ls' := [(2, 67), (0, x1), (0, x2)]) ⟨Or.inr rfl, Or.inr rfl, Or.inr rfl, trivial⟩ h)
theorem S_X5_advance_399 {X : CX} {d : Nat} {x1 x2 : Int} {I R : PF} {Q : PV → PF → PF → Prop} (c1 : -2147483648 ≤ (I 67 4) ∧ (I 67 4) < 2147483648) (c2 : -2147483648 ≤ (I 67 1) ∧ (I 67 1) < 2147483648) (h1 : (I 67 1) ≤ (I 67 4) → PN X d mX5_advance 495 [(2, 67), (0, x1), (0, x2)] [] I R Q) (h2 : (I 67 4) < (I 67 1) → PN X d mX5_advance 410 [(2, 67), (0, x1), (0, x2)] [] I R Q) : PN X d mX5_advance 399 [(2, 67), (0, x1), (0, x2)] [] I R Q := by
  refine P_aload_n (n := 0) (q := 400) rfl rfl (by decide +kernel) ?_
  refine P_getf (q := 403) fX5_21 kM67 rfl (by decide +kernel) ?_
  refine P_aload_n (n := 0) (q := 404) rfl rfl (by decide +kernel) ?_
  refine P_getf (q := 407) fX5_9 kM67 rfl (by decide +kernel) ?_
  refine B_icmp_ge (off := 88) (t := 495) (q := 410) c1 c2 (by decide) rfl (by decide +kernel) ?_ ?_
  · exact fun g9 => (PW_sub (ls' := [(2, 67), (0, x1), (0, x2)]) ⟨Or.inr rfl, Or.inr rfl, Or.inr rfl, trivial⟩ (h1 g9))
  · exact fun g9 => (PW_sub (ls' := [(2, 67), (0, x1), (0, x2)]) ⟨Or.inr rfl, Or.inr rfl, Or.inr rfl, trivial⟩ (h2 g9))
theorem S_X5_advance_410 {X : CX} {d : Nat} {x1 x2 : Int} {I R : PF} {Q : PV → PF → PF → Prop} (hs : Shp R) (b1 : (0 : Int) ≤ (I 67 4) ∧ (I 67 4) < 1600) (c1 : -2147483648 ≤ (I 65 (I 67 4)) ∧ (I 65 (I 67 4)) < 2147483648) (h1 : (I 65 (I 67 4)) < 48 → PN X d mX5_advance 495 [(2, 67), (0, x1), (0, x2)] [] I R Q) (h2 : 48 ≤ (I 65 (I 67 4)) → PN X d mX5_advance 424 [(2, 67), (0, x1), (0, x2)] [] I R Q) : PN X d mX5_advance 410 [(2, 67), (0, x1), (0, x2)] [] I R Q := by
  refine P_aload_n (n := 0) (q := 411) rfl rfl (by decide +kernel) ?_
  refine B_getfR (q := 414) fX5_45 kM67 (rM67_0 hs) rfl (by decide +kernel) ?_
  refine P_aload_n (n := 0) (q := 415) rfl rfl (by decide +kernel) ?_
  refine P_getf (q := 418) fX5_21 kM67 rfl (by decide +kernel) ?_
  refine B_iaload (q := 419) kM65 nM65 (by decide) b1 rfl (by decide +kernel) ?_
  refine P_bipush (n := 48) (q := 421) rfl rfl (by decide +kernel) ?_
  refine B_icmp_lt (off := 74) (t := 495) (q := 424) c1 ⟨by decide, by decide⟩ (by decide) rfl (by decide +kernel) ?_ ?_
  · exact fun g9 => (PW_sub (ls' := [(2, 67), (0, x1), (0, x2)]) ⟨Or.inr rfl, Or.inr rfl, Or.inr rfl, trivial⟩ (h1 g9))
  · exact fun g9 => (PW_sub (ls' := [(2, 67), (0, x1), (0, x2)]) ⟨Or.inr rfl, Or.inr rfl, Or.inr rfl, trivial⟩ (h2 g9))
theorem S_X5_advance_424 {X : CX} {d : Nat} {x1 x2 : Int} {I R : PF} {Q : PV → PF → PF → Prop} (hs : Shp R) (b1 : (0 : Int) ≤ (I 67 4) ∧ (I 67 4) < 1600) (c1 : -2147483648 ≤ (I 65 (I 67 4)) ∧ (I 65 (I 67 4)) < 2147483648) (h1 : 57 < (I 65 (I 67 4)) → PN X d mX5_advance 495 [(2, 67), (0, x1), (0, x2)] [] I R Q) (h2 : (I 65 (I 67 4)) ≤ 57 → PN X d mX5_advance 438 [(2, 67), (0, x1), (0, x2)] [] I R Q) : PN X d mX5_advance 424 [(2, 67), (0, x1), (0, x2)] [] I R Q := by
  refine P_aload_n (n := 0) (q := 425) rfl rfl (by decide +kernel) ?_
  refine B_getfR (q := 428) fX5_45 kM67 (rM67_0 hs) rfl (by decide +kernel) ?_
  refine P_aload_n (n := 0) (q := 429) rfl rfl (by decide +kernel) ?_
  refine P_getf (q := 432) fX5_21 kM67 rfl (by decide +kernel) ?_
  refine B_iaload (q := 433) kM65 nM65 (by decide) b1 rfl (by decide +kernel) ?_
  refine P_bipush (n := 57) (q := 435) rfl rfl (by decide +kernel) ?_
  refine B_icmp_gt (off := 60) (t := 495) (q := 438) c1 ⟨by decide, by decide⟩ (by decide) rfl (by decide +kernel) ?_ ?_
  · exact fun g9 => (PW_sub (ls' := [(2, 67), (0, x1), (0, x2)]) ⟨Or.inr rfl, Or.inr rfl, Or.inr rfl, trivial⟩ (h1 g9))
  · exact fun g9 => (PW_sub (ls' := [(2, 67), (0, x1), (0, x2)]) ⟨Or.inr rfl, Or.inr rfl, Or.inr rfl, trivial⟩ (h2 g9))
theorem S_X5_advance_438 {X : CX} {d : Nat} {x1 x2 : Int} {I R : PF} {Q : PV → PF → PF → Prop} (c1 : -2147483648 ≤ ((I 67 4) - (I 67 3)) ∧ ((I 67 4) - (I 67 3)) < 2147483648) (h1 : 4 ≤ ((I 67 4) - (I 67 3)) → PN X d mX5_advance 475 [(2, 67), (0, x1), (0, x2)] [(2, 67)] I R Q) (h2 : ((I 67 4) - (I 67 3)) < 4 → PN X d mX5_advance 452 [(2, 67), (0, x1), (0, x2)] [(2, 67)] I R Q) : PN X d mX5_advance 438 [(2, 67), (0, x1), (0, x2)] [] I R Q := by
  refine P_aload_n (n := 0) (q := 439) rfl rfl (by decide +kernel) ?_
  refine P_aload_n (n := 0) (q := 440) rfl rfl (by decide +kernel) ?_
  refine P_getf (q := 443) fX5_21 kM67 rfl (by decide +kernel) ?_
  refine P_aload_n (n := 0) (q := 444) rfl rfl (by decide +kernel) ?_
  refine P_getf (q := 447) fX5_18 kM67 rfl (by decide +kernel) ?_
  refine P_isub (q := 448) rfl (by decide +kernel) ?_
  refine P_iconst (n := 4) (q := 449) rfl (by decide +kernel) ?_
  refine B_icmp_ge (off := 26) (t := 475) (q := 452) c1 ⟨by decide, by decide⟩ (by decide) rfl (by decide +kernel) ?_ ?_
  · exact fun g9 => (PW_sub (ls' := [(2, 67), (0, x1), (0, x2)]) ⟨Or.inr rfl, Or.inr rfl, Or.inr rfl, trivial⟩ (h1 g9))
  · exact fun g9 => (PW_sub (ls' := [(2, 67), (0, x1), (0, x2)]) ⟨Or.inr rfl, Or.inr rfl, Or.inr rfl, trivial⟩ (h2 g9))
theorem S_X5_advance_452 {X : CX} {d : Nat} {x1 x2 : Int} {I R : PF} {Q : PV → PF → PF → Prop} (hs : Shp R) (b1 : (0 : Int) ≤ (I 67 4) ∧ (I 67 4) < 1600) (h : PN X d mX5_advance 479 [(2, 67), (0, x1), (0, x2)] [(0, (((10 * (I 67 5)) + (I 65 (I 67 4))) - 48)), (2, 67)] I R Q) : PN X d mX5_advance 452 [(2, 67), (0, x1), (0, x2)] [(2, 67)] I R Q := by
  refine P_bipush (n := 10) (q := 454) rfl rfl (by decide +kernel) ?_
  refine P_aload_n (n := 0) (q := 455) rfl rfl (by decide +kernel) ?_
  refine P_getf (q := 458) fX5_24 kM67 rfl (by decide +kernel) ?_
  refine P_imul (q := 459) rfl (by decide +kernel) ?_
  refine P_aload_n (n := 0) (q := 460) rfl rfl (by decide +kernel) ?_
  refine B_getfR (q := 463) fX5_45 kM67 (rM67_0 hs) rfl (by decide +kernel) ?_
  refine P_aload_n (n := 0) (q := 464) rfl rfl (by decide +kernel) ?_
  refine P_getf (q := 467) fX5_21 kM67 rfl (by decide +kernel) ?_
  refine B_iaload (q := 468) kM65 nM65 (by decide) b1 rfl (by decide +kernel) ?_
  refine P_iadd (q := 469) rfl (by decide +kernel) ?_
  refine P_bipush (n := 48) (q := 471) rfl rfl (by decide +kernel) ?_
  refine P_isub (q := 472) rfl (by decide +kernel) ?_
  refine P_goto (off := 7) (t := 479) (by decide) (by decide +kernel) ?_
  exact (PW_sub (ls' := [(2, 67), (0, x1), (0, x2)]) ⟨Or.inr rfl, Or.inr rfl, Or.inr rfl, trivial⟩ h)
theorem S_X5_advance_475 {X : CX} {d : Nat} {x1 x2 : Int} {I R : PF} {Q : PV → PF → PF → Prop} (h : PN X d mX5_advance 479 [(2, 67), (0, x1), (0, x2)] [(0, (I 67 5)), (2, 67)] I R Q) : PN X d mX5_advance 475 [(2, 67), (0, x1), (0, x2)] [(2, 67)] I R Q := by
  refine P_aload_n (n := 0) (q := 476) rfl rfl (by decide +kernel) ?_
  refine P_getf (q := 479) fX5_24 kM67 rfl (by decide +kernel) ?_
  exact (PW_sub (ls' := [(2, 67), (0, x1), (0, x2)]) ⟨Or.inr rfl, Or.inr rfl, Or.inr rfl, trivial⟩ h)
theorem S_X5_advance_479 {X : CX} {d : Nat} {x1 x2 o1 : Int} {I R : PF} {Q : PV → PF → PF → Prop} (h : PN X d mX5_advance 399 [(2, 67), (0, x1), (0, x2)] [] (u2 (u2 I 67 5 o1) 67 4 (((u2 I 67 5 o1) 67 4) + 1)) R Q) : PN X d mX5_advance 479 [(2, 67), (0, x1), (0, x2)] [(0, o1), (2, 67)] I R Q := by
  refine P_putI (q := 482) wX5_24 (fun h => by cases h) kM67 rfl (by decide +kernel) ?_
  refine P_aload_n (n := 0) (q := 483) rfl rfl (by decide +kernel) ?_
  refine P_dup (q := 484) (Nat.ne_of_beq_eq_false rfl) rfl (by decide +kernel) ?_
  refine P_getf (q := 487) fX5_21 kM67 rfl (by decide +kernel) ?_
  refine P_iconst (n := 1) (q := 488) rfl (by decide +kernel) ?_
  refine P_iadd (q := 489) rfl (by decide +kernel) ?_
  refine P_putI (q := 492) wX5_21 (fun h => by cases h) kM67 rfl (by decide +kernel) ?_
  refine P_goto (off := (-93)) (t := 399) (by decide) (by decide +kernel) ?_
  exact (PW_sub (ls' := [(2, 67), (0, x1), (0, x2)]) ⟨Or.inr rfl, Or.inr rfl, Or.inr rfl, trivial⟩ h)
theorem S_X5_advance_495 {X : CX} {d : Nat} {x1 x2 : Int} {I R : PF} {Q : PV → PF → PF → Prop} (c1 : -2147483648 ≤ x2 ∧ x2 < 2147483648) (h1 : x2 = 0 → PN X d mX5_advance 528 [] [] I R Q) (h2 : x2 ≠ 0 → PN X d mX5_advance 499 [(2, 67), (0, x1)] [] I R Q) : PN X d mX5_advance 495 [(2, 67), (0, x1), (0, x2)] [] I R Q := by
  refine P_iload_n (n := 2) (q := 496) rfl rfl (by decide +kernel) ?_
  refine B_if_eq (off := 32) (t := 528) (q := 499) c1 (by decide) rfl (by decide +kernel) ?_ ?_
  · exact fun g9 => (PW_sub (ls' := []) trivial (h1 g9))
  · exact fun g9 => (PW_sub (ls' := [(2, 67), (0, x1)]) ⟨Or.inr rfl, Or.inr rfl, trivial⟩ (h2 g9))
theorem S_X5_advance_499 {X : CX} {d : Nat} {x1 : Int} {I R : PF} {Q : PV → PF → PF → Prop} (c1 : -2147483648 ≤ (I 67 3) ∧ (I 67 3) < 2147483648) (c2 : -2147483648 ≤ x1 ∧ x1 < 2147483648) (h1 : (I 67 3) ≠ x1 → PN X d mX5_advance 528 [] [] I R Q) (h2 : (I 67 3) = x1 → PN X d mX5_advance 507 [(2, 67)] [] I R Q) : PN X d mX5_advance 499 [(2, 67), (0, x1)] [] I R Q := by
  refine P_aload_n (n := 0) (q := 500) rfl rfl (by decide +kernel) ?_
  refine P_getf (q := 503) fX5_18 kM67 rfl (by decide +kernel) ?_
  refine P_iload_n (n := 1) (q := 504) rfl rfl (by decide +kernel) ?_
  refine B_icmp_ne (off := 24) (t := 528) (q := 507) c1 c2 (by decide) rfl (by decide +kernel) ?_ ?_
  · exact fun g9 => (PW_sub (ls' := []) trivial (h1 g9))
  · exact fun g9 => (PW_sub (ls' := [(2, 67)]) ⟨Or.inr rfl, trivial⟩ (h2 g9))
theorem S_X5_advance_507 {X : CX} {d : Nat} {I R : PF} {Q : PV → PF → PF → Prop} (c1 : -2147483648 ≤ (I 67 2) ∧ (I 67 2) < 2147483648) (h1 : (I 67 2) = 1 → PN X d mX5_advance 523 [(2, 67)] [] I R Q) (h2 : (I 67 2) ≠ 1 → PN X d mX5_advance 515 [(2, 67)] [] I R Q) : PN X d mX5_advance 507 [(2, 67)] [] I R Q := by
  refine P_aload_n (n := 0) (q := 508) rfl rfl (by decide +kernel) ?_
  refine P_getf (q := 511) fX5_15 kM67 rfl (by decide +kernel) ?_
  refine P_iconst (n := 1) (q := 512) rfl (by decide +kernel) ?_
  refine B_icmp_eq (off := 11) (t := 523) (q := 515) c1 ⟨by decide, by decide⟩ (by decide) rfl (by decide +kernel) ?_ ?_
  · exact fun g9 => (PW_sub (ls' := [(2, 67)]) ⟨Or.inr rfl, trivial⟩ (h1 g9))
  · exact fun g9 => (PW_sub (ls' := [(2, 67)]) ⟨Or.inr rfl, trivial⟩ (h2 g9))
theorem S_X5_advance_515 {X : CX} {d : Nat} {I R : PF} {Q : PV → PF → PF → Prop} (c1 : -2147483648 ≤ (I 67 2) ∧ (I 67 2) < 2147483648) (h1 : (I 67 2) ≠ 2 → PN X d mX5_advance 528 [] [] I R Q) (h2 : (I 67 2) = 2 → PN X d mX5_advance 523 [(2, 67)] [] I R Q) : PN X d mX5_advance 515 [(2, 67)] [] I R Q := by
  refine P_aload_n (n := 0) (q := 516) rfl rfl (by decide +kernel) ?_
  refine P_getf (q := 519) fX5_15 kM67 rfl (by decide +kernel) ?_
  refine P_iconst (n := 2) (q := 520) rfl (by decide +kernel) ?_
  refine B_icmp_ne (off := 8) (t := 528) (q := 523) c1 ⟨by decide, by decide⟩ (by decide) rfl (by decide +kernel) ?_ ?_
  · exact fun g9 => (PW_sub (ls' := []) trivial (h1 g9))
  · exact fun g9 => (PW_sub (ls' := [(2, 67)]) ⟨Or.inr rfl, trivial⟩ (h2 g9))
theorem S_X5_advance_523 {X : CX} {d : Nat} {I R : PF} {Q : PV → PF → PF → Prop} (h : PN X d mX5_advance 528 [] [] (u2 I 67 2 4) R Q) : PN X d mX5_advance 523 [(2, 67)] [] I R Q := by
  refine P_aload_n (n := 0) (q := 524) rfl rfl (by decide +kernel) ?_
  refine P_iconst (n := 4) (q := 525) rfl (by decide +kernel) ?_
  refine P_putI (q := 528) wX5_15 (fun h => by cases h) kM67 rfl (by decide +kernel) ?_
  exact (PW_sub (ls' := []) trivial h)
theorem S_X5_advance_528 {X : CX} {d : Nat} {I R : PF} {Q : PV → PF → PF → Prop} (h : Q (9, 0) I R) : PN X d mX5_advance 528 [] [] I R Q := by
  refine P_vret rfl (by decide +kernel) h
theorem S_X5_isAtEnd_0 {X : CX} {d : Nat} {I R : PF} {Q : PV → PF → PF → Prop} (c1 : -2147483648 ≤ (I 67 2) ∧ (I 67 2) < 2147483648) (h1 : (I 67 2) ≠ 0 → PN X d mX5_isAtEnd 11 [] [] I R Q) (h2 : (I 67 2) = 0 → PN X d mX5_isAtEnd 7 [] [] I R Q) : PN X d mX5_isAtEnd 0 [(2, 67)] [] I R Q := by
  refine P_aload_n (n := 0) (q := 1) rfl rfl (by decide +kernel) ?_
  refine P_getf (q := 4) fX5_15 kM67 rfl (by decide +kernel) ?_
  refine B_if_ne (off := 7) (t := 11) (q := 7) c1 (by decide) rfl (by decide +kernel) ?_ ?_
  · exact fun g9 => (PW_sub (ls' := []) trivial (h1 g9))
  · exact fun g9 => (PW_sub (ls' := []) trivial (h2 g9))
theorem S_X5_isAtEnd_7 {X : CX} {d : Nat} {I R : PF} {Q : PV → PF → PF → Prop} (h : PN X d mX5_isAtEnd 12 [] [(0, 1)] I R Q) : PN X d mX5_isAtEnd 7 [] [] I R Q := by
  refine P_iconst (n := 1) (q := 8) rfl (by decide +kernel) ?_
  refine P_goto (off := 4) (t := 12) (by decide) (by decide +kernel) ?_
  exact (PW_sub (ls' := []) trivial h)
theorem S_X5_isAtEnd_11 {X : CX} {d : Nat} {I R : PF} {Q : PV → PF → PF → Prop} (h : PN X d mX5_isAtEnd 12 [] [(0, 0)] I R Q) : PN X d mX5_isAtEnd 11 [] [] I R Q := by
  refine P_iconst (n := 0) (q := 12) rfl (by decide +kernel) ?_
  exact (PW_sub (ls' := []) trivial h)
theorem S_X5_isAtEnd_12 {X : CX} {d : Nat} {o0 : Int} {I R : PF} {Q : PV → PF → PF → Prop} (z1 : o0 = 0 ∨ o0 = 1) (h : Q (0, o0) I R) : PN X d mX5_isAtEnd 12 [] [(0, o0)] I R Q := by
  refine P_zret rfl z1 (by decide +kernel) h
theorem S_X5_isNumber_0 {X : CX} {d : Nat} {I R : PF} {Q : PV → PF → PF → Prop} (c1 : -2147483648 ≤ (I 67 2) ∧ (I 67 2) < 2147483648) (h1 : (I 67 2) ≠ 2 → PN X d mX5_isNumber 12 [] [] I R Q) (h2 : (I 67 2) = 2 → PN X d mX5_isNumber 8 [] [] I R Q) : PN X d mX5_isNumber 0 [(2, 67)] [] I R Q := by
  refine P_aload_n (n := 0) (q := 1) rfl rfl (by decide +kernel) ?_
  refine P_getf (q := 4) fX5_15 kM67 rfl (by decide +kernel) ?_
  refine P_iconst (n := 2) (q := 5) rfl (by decide +kernel) ?_
  refine B_icmp_ne (off := 7) (t := 12) (q := 8) c1 ⟨by decide, by decide⟩ (by decide) rfl (by decide +kernel) ?_ ?_
  · exact fun g9 => (PW_sub (ls' := []) trivial (h1 g9))
  · exact fun g9 => (PW_sub (ls' := []) trivial (h2 g9))
theorem S_X5_isNumber_8 {X : CX} {d : Nat} {I R : PF} {Q : PV → PF → PF → Prop} (h : PN X d mX5_isNumber 13 [] [(0, 1)] I R Q) : PN X d mX5_isNumber 8 [] [] I R Q := by
  refine P_iconst (n := 1) (q := 9) rfl (by decide +kernel) ?_
  refine P_goto (off := 4) (t := 13) (by decide) (by decide +kernel) ?_
  exact (PW_sub (ls' := []) trivial h)
theorem S_X5_isNumber_12 {X : CX} {d : Nat} {I R : PF} {Q : PV → PF → PF → Prop} (h : PN X d mX5_isNumber 13 [] [(0, 0)] I R Q) : PN X d mX5_isNumber 12 [] [] I R Q := by
  refine P_iconst (n := 0) (q := 13) rfl (by decide +kernel) ?_
  exact (PW_sub (ls' := []) trivial h)
theorem S_X5_isNumber_13 {X : CX} {d : Nat} {o0 : Int} {I R : PF} {Q : PV → PF → PF → Prop} (z1 : o0 = 0 ∨ o0 = 1) (h : Q (0, o0) I R) : PN X d mX5_isNumber 13 [] [(0, o0)] I R Q := by
  refine P_zret rfl z1 (by decide +kernel) h
theorem S_X5_isSign_0 {X : CX} {d : Nat} {x1 : Int} {I R : PF} {Q : PV → PF → PF → Prop} (c1 : -2147483648 ≤ (I 67 2) ∧ (I 67 2) < 2147483648) (h1 : (I 67 2) ≠ 3 → PN X d mX5_isSign 20 [] [] I R Q) (h2 : (I 67 2) = 3 → PN X d mX5_isSign 8 [(2, 67), (0, x1)] [] I R Q) : PN X d mX5_isSign 0 [(2, 67), (0, x1)] [] I R Q := by
  refine P_aload_n (n := 0) (q := 1) rfl rfl (by decide +kernel) ?_
  refine P_getf (q := 4) fX5_15 kM67 rfl (by decide +kernel) ?_
  refine P_iconst (n := 3) (q := 5) rfl (by decide +kernel) ?_
  refine B_icmp_ne (off := 15) (t := 20) (q := 8) c1 ⟨by decide, by decide⟩ (by decide) rfl (by decide +kernel) ?_ ?_
  · exact fun g9 => (PW_sub (ls' := []) trivial (h1 g9))
  · exact fun g9 => (h2 g9)
theorem S_X5_isSign_8 {X : CX} {d : Nat} {x1 : Int} {I R : PF} {Q : PV → PF → PF → Prop} (c1 : -2147483648 ≤ (I 67 5) ∧ (I 67 5) < 2147483648) (c2 : -2147483648 ≤ x1 ∧ x1 < 2147483648) (h1 : (I 67 5) ≠ x1 → PN X d mX5_isSign 20 [] [] I R Q) (h2 : (I 67 5) = x1 → PN X d mX5_isSign 16 [] [] I R Q) : PN X d mX5_isSign 8 [(2, 67), (0, x1)] [] I R Q := by
  refine P_aload_n (n := 0) (q := 9) rfl rfl (by decide +kernel) ?_
  refine P_getf (q := 12) fX5_24 kM67 rfl (by decide +kernel) ?_
  refine P_iload_n (n := 1) (q := 13) rfl rfl (by decide +kernel) ?_
  refine B_icmp_ne (off := 7) (t := 20) (q := 16) c1 c2 (by decide) rfl (by decide +kernel) ?_ ?_
  · exact fun g9 => (PW_sub (ls' := []) trivial (h1 g9))
  · exact fun g9 => (PW_sub (ls' := []) trivial (h2 g9))
theorem S_X5_isSign_16 {X : CX} {d : Nat} {I R : PF} {Q : PV → PF → PF → Prop} (h : PN X d mX5_isSign 21 [] [(0, 1)] I R Q) : PN X d mX5_isSign 16 [] [] I R Q := by
  refine P_iconst (n := 1) (q := 17) rfl (by decide +kernel) ?_
  refine P_goto (off := 4) (t := 21) (by decide) (by decide +kernel) ?_
  exact (PW_sub (ls' := []) trivial h)
theorem S_X5_isSign_20 {X : CX} {d : Nat} {I R : PF} {Q : PV → PF → PF → Prop} (h : PN X d mX5_isSign 21 [] [(0, 0)] I R Q) : PN X d mX5_isSign 20 [] [] I R Q := by
  refine P_iconst (n := 0) (q := 21) rfl (by decide +kernel) ?_
  exact (PW_sub (ls' := []) trivial h)
theorem S_X5_isSign_21 {X : CX} {d : Nat} {o0 : Int} {I R : PF} {Q : PV → PF → PF → Prop} (z1 : o0 = 0 ∨ o0 = 1) (h : Q (0, o0) I R) : PN X d mX5_isSign 21 [] [(0, o0)] I R Q := by
  refine P_zret rfl z1 (by decide +kernel) h
theorem S_X5_isWord_0 {X : CX} {d : Nat} {a1 : Int} {I R : PF} {Q : PV → PF → PF → Prop} (c1 : -2147483648 ≤ (I 67 2) ∧ (I 67 2) < 2147483648) (h1 : (I 67 2) ≠ 1 → PN X d mX5_isWord 20 [] [] I R Q) (h2 : (I 67 2) = 1 → PN X d mX5_isWord 8 [(2, 67), (2, a1)] [] I R Q) : PN X d mX5_isWord 0 [(2, 67), (2, a1)] [] I R Q := by
  refine P_aload_n (n := 0) (q := 1) rfl rfl (by decide +kernel) ?_
  refine P_getf (q := 4) fX5_15 kM67 rfl (by decide +kernel) ?_
  refine P_iconst (n := 1) (q := 5) rfl (by decide +kernel) ?_
  refine B_icmp_ne (off := 15) (t := 20) (q := 8) c1 ⟨by decide, by decide⟩ (by decide) rfl (by decide +kernel) ?_ ?_
  · exact fun g9 => (PW_sub (ls' := []) trivial (h1 g9))
  · exact fun g9 => (h2 g9)
theorem S_X5_isWord_8 {X : CX} {d : Nat} {a1 t1 : Int} {I R : PF} {Q : PV → PF → PF → Prop} (r1 : R 67 6 = t1) (c1 : 0 ≤ t1 ∧ t1 ≤ 37) (c2 : 0 ≤ a1 ∧ a1 ≤ 37) (h1 : t1 ≠ a1 → PN X d mX5_isWord 20 [] [] I R Q) (h2 : t1 = a1 → PN X d mX5_isWord 16 [] [] I R Q) : PN X d mX5_isWord 8 [(2, 67), (2, a1)] [] I R Q := by
  refine P_aload_n (n := 0) (q := 9) rfl rfl (by decide +kernel) ?_
  refine B_getfR (q := 12) fX5_33 kM67 r1 rfl (by decide +kernel) ?_
  refine P_aload_n (n := 1) (q := 13) rfl rfl (by decide +kernel) ?_
  refine P_acmp_ne (off := 7) (t := 20) (q := 16) c1 c2 (by decide) rfl (by decide +kernel) ?_ ?_
  · exact fun g9 => (PW_sub (ls' := []) trivial (h1 g9))
  · exact fun g9 => (PW_sub (ls' := []) trivial (h2 g9))
theorem S_X5_isWord_16 {X : CX} {d : Nat} {I R : PF} {Q : PV → PF → PF → Prop} (h : PN X d mX5_isWord 21 [] [(0, 1)] I R Q) : PN X d mX5_isWord 16 [] [] I R Q := by
  refine P_iconst (n := 1) (q := 17) rfl (by decide +kernel) ?_
  refine P_goto (off := 4) (t := 21) (by decide) (by decide +kernel) ?_
  exact (PW_sub (ls' := []) trivial h)
theorem S_X5_isWord_20 {X : CX} {d : Nat} {I R : PF} {Q : PV → PF → PF → Prop} (h : PN X d mX5_isWord 21 [] [(0, 0)] I R Q) : PN X d mX5_isWord 20 [] [] I R Q := by
  refine P_iconst (n := 0) (q := 21) rfl (by decide +kernel) ?_
  exact (PW_sub (ls' := []) trivial h)
theorem S_X5_isWord_21 {X : CX} {d : Nat} {o0 : Int} {I R : PF} {Q : PV → PF → PF → Prop} (z1 : o0 = 0 ∨ o0 = 1) (h : Q (0, o0) I R) : PN X d mX5_isWord 21 [] [(0, o0)] I R Q := by
  refine P_zret rfl z1 (by decide +kernel) h
theorem S_X5_refuse_0 {X : CX} {d : Nat} {x1 x2 : Int} {I R : PF} {Q : PV → PF → PF → Prop} (c1 : -2147483648 ≤ (I 67 8) ∧ (I 67 8) < 2147483648) (h1 : (I 67 8) ≠ 0 → PN X d mX5_refuse 17 [] [] I R Q) (h2 : (I 67 8) = 0 → PN X d mX5_refuse 7 [(2, 67), (0, x1), (0, x2)] [] I R Q) : PN X d mX5_refuse 0 [(2, 67), (0, x1), (0, x2)] [] I R Q := by
  refine P_aload_n (n := 0) (q := 1) rfl rfl (by decide +kernel) ?_
  refine P_getf (q := 4) fX5_39 kM67 rfl (by decide +kernel) ?_
  refine B_if_ne (off := 13) (t := 17) (q := 7) c1 (by decide) rfl (by decide +kernel) ?_ ?_
  · exact fun g9 => (PW_sub (ls' := []) trivial (h1 g9))
  · exact fun g9 => (h2 g9)
theorem S_X5_refuse_7 {X : CX} {d : Nat} {x1 x2 : Int} {I R : PF} {Q : PV → PF → PF → Prop} (h : PN X d mX5_refuse 17 [] [] (u2 (u2 I 67 8 x1) 67 9 x2) R Q) : PN X d mX5_refuse 7 [(2, 67), (0, x1), (0, x2)] [] I R Q := by
  refine P_aload_n (n := 0) (q := 8) rfl rfl (by decide +kernel) ?_
  refine P_iload_n (n := 1) (q := 9) rfl rfl (by decide +kernel) ?_
  refine P_putI (q := 12) wX5_39 (fun h => by cases h) kM67 rfl (by decide +kernel) ?_
  refine P_aload_n (n := 0) (q := 13) rfl rfl (by decide +kernel) ?_
  refine P_iload_n (n := 2) (q := 14) rfl rfl (by decide +kernel) ?_
  refine P_putI (q := 17) wX5_42 (fun h => by cases h) kM67 rfl (by decide +kernel) ?_
  exact (PW_sub (ls' := []) trivial h)
theorem S_X5_refuse_17 {X : CX} {d : Nat} {I R : PF} {Q : PV → PF → PF → Prop} (h : Q (0, 0) I R) : PN X d mX5_refuse 17 [] [] I R Q := by
  refine P_iconst (n := 0) (q := 18) rfl (by decide +kernel) ?_
  refine P_zret rfl (Or.inl rfl) (by decide +kernel) h
theorem S_X5_start_0 {X : CX} {d d1 : Nat} {x1 : Int} {I R : PF} {Q Q1 : PV → PF → PF → Prop} (hs : Shp R) (e1 : d1 + 1 ≤ d) (hc : CN X d1 mJ9_min_7cf53 [(0, x1), (0, 1600)] I R Q1) (h : ∀ z I2 R2, Q1 (0, z) I2 R2 → PN X d mX5_start 10 [(2, 67)] [(0, z), (2, 67)] I2 R2 Q) : PN X d mX5_start 0 [(2, 67), (0, x1)] [] I R Q := by
  refine P_aload_n (n := 0) (q := 1) rfl rfl (by decide +kernel) ?_
  refine P_iload_n (n := 1) (q := 2) rfl rfl (by decide +kernel) ?_
  refine P_aload_n (n := 0) (q := 3) rfl rfl (by decide +kernel) ?_
  refine B_getfR (q := 6) fX5_45 kM67 (rM67_0 hs) rfl (by decide +kernel) ?_
  refine B_alen (q := 7) kM65 nM65 (by decide) (by decide) rfl (by decide +kernel) ?_
  refine P_invS (As := [(0, x1), (0, 1600)]) (q := 10) oJ9_min_7cf53 rfl (Or.inl kX5_49) e1 hMF (Nat.le_of_ble_eq_true rfl) hc rfl (by decide +kernel) (fun z I2 R2 hq => ?_)
  exact (PW_sub (ls' := [(2, 67)]) ⟨Or.inr rfl, trivial⟩ (h z I2 R2 hq))
theorem S_X5_start_10 {X : CX} {d d1 : Nat} {o1 : Int} {I R : PF} {Q Q1 : PV → PF → PF → Prop} (e1 : d1 + 1 ≤ d) (hc : CN X d1 mX5_advance [(2, 67)] (u2 (u2 (u2 (u2 (u2 (u2 (u2 I 67 1 o1) 67 2 3) 67 3 0) 67 4 0) 67 7 0) 67 8 0) 67 9 (-1)) R Q1) (h : ∀ z I2 R2, Q1 (9, z) I2 R2 → PN X d mX5_start 47 [] [] I2 R2 Q) : PN X d mX5_start 10 [(2, 67)] [(0, o1), (2, 67)] I R Q := by
  refine P_putI (q := 13) wX5_9 (fun h => by cases h) kM67 rfl (by decide +kernel) ?_
  refine P_aload_n (n := 0) (q := 14) rfl rfl (by decide +kernel) ?_
  refine P_iconst (n := 3) (q := 15) rfl (by decide +kernel) ?_
  refine P_putI (q := 18) wX5_15 (fun h => by cases h) kM67 rfl (by decide +kernel) ?_
  refine P_aload_n (n := 0) (q := 19) rfl rfl (by decide +kernel) ?_
  refine P_iconst (n := 0) (q := 20) rfl (by decide +kernel) ?_
  refine P_putI (q := 23) wX5_18 (fun h => by cases h) kM67 rfl (by decide +kernel) ?_
  refine P_aload_n (n := 0) (q := 24) rfl rfl (by decide +kernel) ?_
  refine P_iconst (n := 0) (q := 25) rfl (by decide +kernel) ?_
  refine P_putI (q := 28) wX5_21 (fun h => by cases h) kM67 rfl (by decide +kernel) ?_
  refine P_aload_n (n := 0) (q := 29) rfl rfl (by decide +kernel) ?_
  refine P_iconst (n := 0) (q := 30) rfl (by decide +kernel) ?_
  refine P_putI (q := 33) wX5_36 (fun h => by cases h) kM67 rfl (by decide +kernel) ?_
  refine P_aload_n (n := 0) (q := 34) rfl rfl (by decide +kernel) ?_
  refine P_iconst (n := 0) (q := 35) rfl (by decide +kernel) ?_
  refine P_putI (q := 38) wX5_39 (fun h => by cases h) kM67 rfl (by decide +kernel) ?_
  refine P_aload_n (n := 0) (q := 39) rfl rfl (by decide +kernel) ?_
  refine P_iconst (n := (-1)) (q := 40) rfl (by decide +kernel) ?_
  refine P_putI (q := 43) wX5_42 (fun h => by cases h) kM67 rfl (by decide +kernel) ?_
  refine P_aload_n (n := 0) (q := 44) rfl rfl (by decide +kernel) ?_
  refine P_invV (As := []) (q := 47) oX5_advance rfl kM67 kX5_55 e1 hMF (Nat.le_of_ble_eq_true rfl) hc rfl (by decide +kernel) (fun z I2 R2 hq => ?_)
  exact (PW_sub (ls' := []) trivial (h z I2 R2 hq))
theorem S_X5_start_47 {X : CX} {d : Nat} {I R : PF} {Q : PV → PF → PF → Prop} (h : Q (9, 0) I R) : PN X d mX5_start 47 [] [] I R Q := by
  refine P_vret rfl (by decide +kernel) h
theorem S_X5_takeName_0 {X : CX} {d : Nat} {I R : PF} {Q : PV → PF → PF → Prop} (c1 : -2147483648 ≤ (I 67 2) ∧ (I 67 2) < 2147483648) (h1 : (I 67 2) ≠ 1 → PN X d mX5_takeName 23 [(2, 67)] [] I R Q) (h2 : (I 67 2) = 1 → PN X d mX5_takeName 13 [(2, 67), (0, (I 67 5))] [] I R Q) : PN X d mX5_takeName 0 [(2, 67)] [] I R Q := by
  refine P_aload_n (n := 0) (q := 1) rfl rfl (by decide +kernel) ?_
  refine P_getf (q := 4) fX5_24 kM67 rfl (by decide +kernel) ?_
  refine P_istore_n (n := 1) (by decide) (q := 5) rfl (by decide +kernel) ?_
  refine P_aload_n (n := 0) (q := 6) rfl rfl (by decide +kernel) ?_
  refine P_getf (q := 9) fX5_15 kM67 rfl (by decide +kernel) ?_
  refine P_iconst (n := 1) (q := 10) rfl (by decide +kernel) ?_
  refine B_icmp_ne (off := 13) (t := 23) (q := 13) c1 ⟨by decide, by decide⟩ (by decide) rfl (by decide +kernel) ?_ ?_
  · exact fun g9 => (PW_sub (ls' := [(2, 67)]) ⟨Or.inr rfl, trivial⟩ (h1 g9))
  · exact fun g9 => (h2 g9)
theorem S_X5_takeName_13 {X : CX} {d : Nat} {x1 t1 : Int} {I R : PF} {Q : PV → PF → PF → Prop} (r1 : R 67 6 = t1) (c1 : 1 ≤ t1 ∧ t1 ≤ 37) (c2 : -2147483648 ≤ (sW 1 t1) ∧ (sW 1 t1) < 2147483648) (h1 : (sW 1 t1) = 0 → PN X d mX5_takeName 35 [(2, 67), (0, x1)] [] I R Q) (h2 : (sW 1 t1) ≠ 0 → PN X d mX5_takeName 23 [(2, 67)] [] I R Q) : PN X d mX5_takeName 13 [(2, 67), (0, x1)] [] I R Q := by
  refine P_aload_n (n := 0) (q := 14) rfl rfl (by decide +kernel) ?_
  refine B_getfR (q := 17) fX5_33 kM67 r1 rfl (by decide +kernel) ?_
  refine P_getE (q := 20) eX5_77 c1 rfl (by decide +kernel) ?_
  refine B_if_eq (off := 15) (t := 35) (q := 23) c2 (by decide) rfl (by decide +kernel) ?_ ?_
  · exact fun g9 => (h1 g9)
  · exact fun g9 => (PW_sub (ls' := [(2, 67)]) ⟨Or.inr rfl, trivial⟩ (h2 g9))
theorem S_X5_takeName_23 {X : CX} {d d1 : Nat} {I R : PF} {Q Q1 : PV → PF → PF → Prop} (e1 : d1 + 1 ≤ d) (hc : CN X d1 mX5_refuse [(2, 67), (0, 1), (0, (I 67 3))] I R Q1) (h : ∀ z I2 R2, Q1 (0, z) I2 R2 → PN X d mX5_takeName 32 [] [(0, z)] I2 R2 Q) : PN X d mX5_takeName 23 [(2, 67)] [] I R Q := by
  refine P_aload_n (n := 0) (q := 24) rfl rfl (by decide +kernel) ?_
  refine P_iconst (n := 1) (q := 25) rfl (by decide +kernel) ?_
  refine P_aload_n (n := 0) (q := 26) rfl rfl (by decide +kernel) ?_
  refine P_getf (q := 29) fX5_18 kM67 rfl (by decide +kernel) ?_
  refine P_invV (As := [(0, 1), (0, (I 67 3))]) (q := 32) oX5_refuse rfl kM67 kX5_69 e1 hMF (Nat.le_of_ble_eq_true rfl) hc rfl (by decide +kernel) (fun z I2 R2 hq => ?_)
  exact (PW_sub (ls' := []) trivial (h z I2 R2 hq))
theorem S_X5_takeName_32 {X : CX} {d : Nat} {o0 : Int} {I R : PF} {Q : PV → PF → PF → Prop} (h : Q (0, (-1)) I R) : PN X d mX5_takeName 32 [] [(0, o0)] I R Q := by
  refine P_pop (q := 33) (Nat.ne_of_beq_eq_false rfl) rfl (by decide +kernel) ?_
  refine P_iconst (n := (-1)) (q := 34) rfl (by decide +kernel) ?_
  refine P_iret rfl (by decide +kernel) h
theorem S_X5_takeName_35 {X : CX} {d : Nat} {x1 : Int} {I R : PF} {Q : PV → PF → PF → Prop} (c1 : -2147483648 ≤ ((I 67 4) - (I 67 3)) ∧ ((I 67 4) - (I 67 3)) < 2147483648) (h1 : ((I 67 4) - (I 67 3)) ≤ 6 → PN X d mX5_takeName 64 [(2, 67), (0, x1)] [] I R Q) (h2 : 6 < ((I 67 4) - (I 67 3)) → PN X d mX5_takeName 49 [(2, 67)] [] I R Q) : PN X d mX5_takeName 35 [(2, 67), (0, x1)] [] I R Q := by
  refine P_aload_n (n := 0) (q := 36) rfl rfl (by decide +kernel) ?_
  refine P_getf (q := 39) fX5_21 kM67 rfl (by decide +kernel) ?_
  refine P_aload_n (n := 0) (q := 40) rfl rfl (by decide +kernel) ?_
  refine P_getf (q := 43) fX5_18 kM67 rfl (by decide +kernel) ?_
  refine P_isub (q := 44) rfl (by decide +kernel) ?_
  refine P_bipush (n := 6) (q := 46) rfl rfl (by decide +kernel) ?_
  refine B_icmp_le (off := 18) (t := 64) (q := 49) c1 ⟨by decide, by decide⟩ (by decide) rfl (by decide +kernel) ?_ ?_
  · exact fun g9 => (h1 g9)
  · exact fun g9 => (PW_sub (ls' := [(2, 67)]) ⟨Or.inr rfl, trivial⟩ (h2 g9))
theorem S_X5_takeName_49 {X : CX} {d d1 : Nat} {I R : PF} {Q Q1 : PV → PF → PF → Prop} (e1 : d1 + 1 ≤ d) (hc : CN X d1 mX5_refuse [(2, 67), (0, 1), (0, ((I 67 3) + 6))] I R Q1) (h : ∀ z I2 R2, Q1 (0, z) I2 R2 → PN X d mX5_takeName 61 [] [(0, z)] I2 R2 Q) : PN X d mX5_takeName 49 [(2, 67)] [] I R Q := by
  refine P_aload_n (n := 0) (q := 50) rfl rfl (by decide +kernel) ?_
  refine P_iconst (n := 1) (q := 51) rfl (by decide +kernel) ?_
  refine P_aload_n (n := 0) (q := 52) rfl rfl (by decide +kernel) ?_
  refine P_getf (q := 55) fX5_18 kM67 rfl (by decide +kernel) ?_
  refine P_bipush (n := 6) (q := 57) rfl rfl (by decide +kernel) ?_
  refine P_iadd (q := 58) rfl (by decide +kernel) ?_
  refine P_invV (As := [(0, 1), (0, ((I 67 3) + 6))]) (q := 61) oX5_refuse rfl kM67 kX5_69 e1 hMF (Nat.le_of_ble_eq_true rfl) hc rfl (by decide +kernel) (fun z I2 R2 hq => ?_)
  exact (PW_sub (ls' := []) trivial (h z I2 R2 hq))
theorem S_X5_takeName_61 {X : CX} {d : Nat} {o0 : Int} {I R : PF} {Q : PV → PF → PF → Prop} (h : Q (0, (-1)) I R) : PN X d mX5_takeName 61 [] [(0, o0)] I R Q := by
  refine P_pop (q := 62) (Nat.ne_of_beq_eq_false rfl) rfl (by decide +kernel) ?_
  refine P_iconst (n := (-1)) (q := 63) rfl (by decide +kernel) ?_
  refine P_iret rfl (by decide +kernel) h
theorem S_X5_takeName_64 {X : CX} {d d1 : Nat} {x1 : Int} {I R : PF} {Q Q1 : PV → PF → PF → Prop} (e1 : d1 + 1 ≤ d) (hc : CN X d1 mX5_advance [(2, 67)] I R Q1) (h : ∀ z I2 R2, Q1 (9, z) I2 R2 → PN X d mX5_takeName 68 [(9, 0), (0, x1)] [] I2 R2 Q) : PN X d mX5_takeName 64 [(2, 67), (0, x1)] [] I R Q := by
  refine P_aload_n (n := 0) (q := 65) rfl rfl (by decide +kernel) ?_
  refine P_invV (As := []) (q := 68) oX5_advance rfl kM67 kX5_55 e1 hMF (Nat.le_of_ble_eq_true rfl) hc rfl (by decide +kernel) (fun z I2 R2 hq => ?_)
  exact (PW_sub (ls' := [(9, 0), (0, x1)]) ⟨Or.inl rfl, Or.inr rfl, trivial⟩ (h z I2 R2 hq))
theorem S_X5_takeName_68 {X : CX} {d : Nat} {x1 : Int} {I R : PF} {Q : PV → PF → PF → Prop} (h : Q (0, x1) I R) : PN X d mX5_takeName 68 [(9, 0), (0, x1)] [] I R Q := by
  refine P_iload_n (n := 1) (q := 69) rfl rfl (by decide +kernel) ?_
  refine P_iret rfl (by decide +kernel) h
theorem S_X5_takeNumber_0 {X : CX} {d : Nat} {x1 x2 : Int} {I R : PF} {Q : PV → PF → PF → Prop} (c1 : -2147483648 ≤ (I 67 2) ∧ (I 67 2) < 2147483648) (h1 : (I 67 2) = 2 → PN X d mX5_takeNumber 25 [(2, 67), (0, x1), (0, x2), (0, (I 67 5))] [] I R Q) (h2 : (I 67 2) ≠ 2 → PN X d mX5_takeNumber 13 [(2, 67)] [] I R Q) : PN X d mX5_takeNumber 0 [(2, 67), (0, x1), (0, x2)] [] I R Q := by
  refine P_aload_n (n := 0) (q := 1) rfl rfl (by decide +kernel) ?_
  refine P_getf (q := 4) fX5_24 kM67 rfl (by decide +kernel) ?_
  refine P_istore_n (n := 3) (by decide) (q := 5) rfl (by decide +kernel) ?_
  refine P_aload_n (n := 0) (q := 6) rfl rfl (by decide +kernel) ?_
  refine P_getf (q := 9) fX5_15 kM67 rfl (by decide +kernel) ?_
  refine P_iconst (n := 2) (q := 10) rfl (by decide +kernel) ?_
  refine B_icmp_eq (off := 15) (t := 25) (q := 13) c1 ⟨by decide, by decide⟩ (by decide) rfl (by decide +kernel) ?_ ?_
  · exact fun g9 => (h1 g9)
  · exact fun g9 => (PW_sub (ls' := [(2, 67)]) ⟨Or.inr rfl, trivial⟩ (h2 g9))
theorem S_X5_takeNumber_13 {X : CX} {d d1 : Nat} {I R : PF} {Q Q1 : PV → PF → PF → Prop} (e1 : d1 + 1 ≤ d) (hc : CN X d1 mX5_refuse [(2, 67), (0, 1), (0, (I 67 3))] I R Q1) (h : ∀ z I2 R2, Q1 (0, z) I2 R2 → PN X d mX5_takeNumber 22 [] [(0, z)] I2 R2 Q) : PN X d mX5_takeNumber 13 [(2, 67)] [] I R Q := by
  refine P_aload_n (n := 0) (q := 14) rfl rfl (by decide +kernel) ?_
  refine P_iconst (n := 1) (q := 15) rfl (by decide +kernel) ?_
  refine P_aload_n (n := 0) (q := 16) rfl rfl (by decide +kernel) ?_
  refine P_getf (q := 19) fX5_18 kM67 rfl (by decide +kernel) ?_
  refine P_invV (As := [(0, 1), (0, (I 67 3))]) (q := 22) oX5_refuse rfl kM67 kX5_69 e1 hMF (Nat.le_of_ble_eq_true rfl) hc rfl (by decide +kernel) (fun z I2 R2 hq => ?_)
  exact (PW_sub (ls' := []) trivial (h z I2 R2 hq))
theorem S_X5_takeNumber_22 {X : CX} {d : Nat} {o0 : Int} {I R : PF} {Q : PV → PF → PF → Prop} (h : Q (0, (-1)) I R) : PN X d mX5_takeNumber 22 [] [(0, o0)] I R Q := by
  refine P_pop (q := 23) (Nat.ne_of_beq_eq_false rfl) rfl (by decide +kernel) ?_
  refine P_iconst (n := (-1)) (q := 24) rfl (by decide +kernel) ?_
  refine P_iret rfl (by decide +kernel) h
theorem S_X5_takeNumber_25 {X : CX} {d : Nat} {x1 x2 x3 : Int} {I R : PF} {Q : PV → PF → PF → Prop} (c1 : -2147483648 ≤ ((I 67 4) - (I 67 3)) ∧ ((I 67 4) - (I 67 3)) < 2147483648) (h1 : ((I 67 4) - (I 67 3)) ≤ 4 → PN X d mX5_takeNumber 52 [(2, 67), (0, x1), (0, x2), (0, x3)] [] I R Q) (h2 : 4 < ((I 67 4) - (I 67 3)) → PN X d mX5_takeNumber 38 [(2, 67)] [] I R Q) : PN X d mX5_takeNumber 25 [(2, 67), (0, x1), (0, x2), (0, x3)] [] I R Q := by
  refine P_aload_n (n := 0) (q := 26) rfl rfl (by decide +kernel) ?_
  refine P_getf (q := 29) fX5_21 kM67 rfl (by decide +kernel) ?_
  refine P_aload_n (n := 0) (q := 30) rfl rfl (by decide +kernel) ?_
  refine P_getf (q := 33) fX5_18 kM67 rfl (by decide +kernel) ?_
  refine P_isub (q := 34) rfl (by decide +kernel) ?_
  refine P_iconst (n := 4) (q := 35) rfl (by decide +kernel) ?_
  refine B_icmp_le (off := 17) (t := 52) (q := 38) c1 ⟨by decide, by decide⟩ (by decide) rfl (by decide +kernel) ?_ ?_
  · exact fun g9 => (h1 g9)
  · exact fun g9 => (PW_sub (ls' := [(2, 67)]) ⟨Or.inr rfl, trivial⟩ (h2 g9))
theorem S_X5_takeNumber_38 {X : CX} {d d1 : Nat} {I R : PF} {Q Q1 : PV → PF → PF → Prop} (e1 : d1 + 1 ≤ d) (hc : CN X d1 mX5_refuse [(2, 67), (0, 1), (0, ((I 67 3) + 4))] I R Q1) (h : ∀ z I2 R2, Q1 (0, z) I2 R2 → PN X d mX5_takeNumber 49 [] [(0, z)] I2 R2 Q) : PN X d mX5_takeNumber 38 [(2, 67)] [] I R Q := by
  refine P_aload_n (n := 0) (q := 39) rfl rfl (by decide +kernel) ?_
  refine P_iconst (n := 1) (q := 40) rfl (by decide +kernel) ?_
  refine P_aload_n (n := 0) (q := 41) rfl rfl (by decide +kernel) ?_
  refine P_getf (q := 44) fX5_18 kM67 rfl (by decide +kernel) ?_
  refine P_iconst (n := 4) (q := 45) rfl (by decide +kernel) ?_
  refine P_iadd (q := 46) rfl (by decide +kernel) ?_
  refine P_invV (As := [(0, 1), (0, ((I 67 3) + 4))]) (q := 49) oX5_refuse rfl kM67 kX5_69 e1 hMF (Nat.le_of_ble_eq_true rfl) hc rfl (by decide +kernel) (fun z I2 R2 hq => ?_)
  exact (PW_sub (ls' := []) trivial (h z I2 R2 hq))
theorem S_X5_takeNumber_49 {X : CX} {d : Nat} {o0 : Int} {I R : PF} {Q : PV → PF → PF → Prop} (h : Q (0, (-1)) I R) : PN X d mX5_takeNumber 49 [] [(0, o0)] I R Q := by
  refine P_pop (q := 50) (Nat.ne_of_beq_eq_false rfl) rfl (by decide +kernel) ?_
  refine P_iconst (n := (-1)) (q := 51) rfl (by decide +kernel) ?_
  refine P_iret rfl (by decide +kernel) h
theorem S_X5_takeNumber_52 {X : CX} {d : Nat} {x1 x2 x3 : Int} {I R : PF} {Q : PV → PF → PF → Prop} (c1 : -2147483648 ≤ x3 ∧ x3 < 2147483648) (c2 : -2147483648 ≤ x1 ∧ x1 < 2147483648) (h1 : x3 < x1 → PN X d mX5_takeNumber 62 [(2, 67)] [] I R Q) (h2 : x1 ≤ x3 → PN X d mX5_takeNumber 57 [(2, 67), (9, 0), (0, x2), (0, x3)] [] I R Q) : PN X d mX5_takeNumber 52 [(2, 67), (0, x1), (0, x2), (0, x3)] [] I R Q := by
  refine P_iload_n (n := 3) (q := 53) rfl rfl (by decide +kernel) ?_
  refine P_iload_n (n := 1) (q := 54) rfl rfl (by decide +kernel) ?_
  refine B_icmp_lt (off := 8) (t := 62) (q := 57) c1 c2 (by decide) rfl (by decide +kernel) ?_ ?_
  · exact fun g9 => (PW_sub (ls' := [(2, 67)]) ⟨Or.inr rfl, trivial⟩ (h1 g9))
  · exact fun g9 => (PW_sub (ls' := [(2, 67), (9, 0), (0, x2), (0, x3)]) ⟨Or.inr rfl, Or.inl rfl, Or.inr rfl, Or.inr rfl, trivial⟩ (h2 g9))
theorem S_X5_takeNumber_57 {X : CX} {d : Nat} {x2 x3 : Int} {I R : PF} {Q : PV → PF → PF → Prop} (c1 : -2147483648 ≤ x3 ∧ x3 < 2147483648) (c2 : -2147483648 ≤ x2 ∧ x2 < 2147483648) (h1 : x3 ≤ x2 → PN X d mX5_takeNumber 74 [(2, 67), (9, 0), (9, 0), (0, x3)] [] I R Q) (h2 : x2 < x3 → PN X d mX5_takeNumber 62 [(2, 67)] [] I R Q) : PN X d mX5_takeNumber 57 [(2, 67), (9, 0), (0, x2), (0, x3)] [] I R Q := by
  refine P_iload_n (n := 3) (q := 58) rfl rfl (by decide +kernel) ?_
  refine P_iload_n (n := 2) (q := 59) rfl rfl (by decide +kernel) ?_
  refine B_icmp_le (off := 15) (t := 74) (q := 62) c1 c2 (by decide) rfl (by decide +kernel) ?_ ?_
  · exact fun g9 => (PW_sub (ls' := [(2, 67), (9, 0), (9, 0), (0, x3)]) ⟨Or.inr rfl, Or.inl rfl, Or.inl rfl, Or.inr rfl, trivial⟩ (h1 g9))
  · exact fun g9 => (PW_sub (ls' := [(2, 67)]) ⟨Or.inr rfl, trivial⟩ (h2 g9))
theorem S_X5_takeNumber_62 {X : CX} {d d1 : Nat} {I R : PF} {Q Q1 : PV → PF → PF → Prop} (e1 : d1 + 1 ≤ d) (hc : CN X d1 mX5_refuse [(2, 67), (0, 2), (0, (I 67 3))] I R Q1) (h : ∀ z I2 R2, Q1 (0, z) I2 R2 → PN X d mX5_takeNumber 71 [] [(0, z)] I2 R2 Q) : PN X d mX5_takeNumber 62 [(2, 67)] [] I R Q := by
  refine P_aload_n (n := 0) (q := 63) rfl rfl (by decide +kernel) ?_
  refine P_iconst (n := 2) (q := 64) rfl (by decide +kernel) ?_
  refine P_aload_n (n := 0) (q := 65) rfl rfl (by decide +kernel) ?_
  refine P_getf (q := 68) fX5_18 kM67 rfl (by decide +kernel) ?_
  refine P_invV (As := [(0, 2), (0, (I 67 3))]) (q := 71) oX5_refuse rfl kM67 kX5_69 e1 hMF (Nat.le_of_ble_eq_true rfl) hc rfl (by decide +kernel) (fun z I2 R2 hq => ?_)
  exact (PW_sub (ls' := []) trivial (h z I2 R2 hq))
theorem S_X5_takeNumber_71 {X : CX} {d : Nat} {o0 : Int} {I R : PF} {Q : PV → PF → PF → Prop} (h : Q (0, (-1)) I R) : PN X d mX5_takeNumber 71 [] [(0, o0)] I R Q := by
  refine P_pop (q := 72) (Nat.ne_of_beq_eq_false rfl) rfl (by decide +kernel) ?_
  refine P_iconst (n := (-1)) (q := 73) rfl (by decide +kernel) ?_
  refine P_iret rfl (by decide +kernel) h
theorem S_X5_takeNumber_74 {X : CX} {d d1 : Nat} {x3 : Int} {I R : PF} {Q Q1 : PV → PF → PF → Prop} (e1 : d1 + 1 ≤ d) (hc : CN X d1 mX5_advance [(2, 67)] I R Q1) (h : ∀ z I2 R2, Q1 (9, z) I2 R2 → PN X d mX5_takeNumber 78 [(9, 0), (9, 0), (9, 0), (0, x3)] [] I2 R2 Q) : PN X d mX5_takeNumber 74 [(2, 67), (9, 0), (9, 0), (0, x3)] [] I R Q := by
  refine P_aload_n (n := 0) (q := 75) rfl rfl (by decide +kernel) ?_
  refine P_invV (As := []) (q := 78) oX5_advance rfl kM67 kX5_55 e1 hMF (Nat.le_of_ble_eq_true rfl) hc rfl (by decide +kernel) (fun z I2 R2 hq => ?_)
  exact (PW_sub (ls' := [(9, 0), (9, 0), (9, 0), (0, x3)]) ⟨Or.inl rfl, Or.inl rfl, Or.inl rfl, Or.inr rfl, trivial⟩ (h z I2 R2 hq))
theorem S_X5_takeNumber_78 {X : CX} {d : Nat} {x3 : Int} {I R : PF} {Q : PV → PF → PF → Prop} (h : Q (0, x3) I R) : PN X d mX5_takeNumber 78 [(9, 0), (9, 0), (9, 0), (0, x3)] [] I R Q := by
  refine P_iload_n (n := 3) (q := 79) rfl rfl (by decide +kernel) ?_
  refine P_iret rfl (by decide +kernel) h
theorem S_X5_takeSign_0 {X : CX} {d d1 : Nat} {x1 : Int} {I R : PF} {Q Q1 : PV → PF → PF → Prop} (e1 : d1 + 1 ≤ d) (hc : CN X d1 mX5_isSign [(2, 67), (0, x1)] I R Q1) (h : ∀ z I2 R2, Q1 (0, z) I2 R2 → PN X d mX5_takeSign 5 [(2, 67)] [(0, z)] I2 R2 Q) : PN X d mX5_takeSign 0 [(2, 67), (0, x1)] [] I R Q := by
  refine P_aload_n (n := 0) (q := 1) rfl rfl (by decide +kernel) ?_
  refine P_iload_n (n := 1) (q := 2) rfl rfl (by decide +kernel) ?_
  refine P_invV (As := [(0, x1)]) (q := 5) oX5_isSign rfl kM67 kX5_73 e1 hMF (Nat.le_of_ble_eq_true rfl) hc rfl (by decide +kernel) (fun z I2 R2 hq => ?_)
  exact (PW_sub (ls' := [(2, 67)]) ⟨Or.inr rfl, trivial⟩ (h z I2 R2 hq))
theorem S_X5_takeSign_5 {X : CX} {d : Nat} {o0 : Int} {I R : PF} {Q : PV → PF → PF → Prop} (c1 : -2147483648 ≤ o0 ∧ o0 < 2147483648) (h1 : o0 ≠ 0 → PN X d mX5_takeSign 18 [(2, 67)] [] I R Q) (h2 : o0 = 0 → PN X d mX5_takeSign 8 [(2, 67)] [] I R Q) : PN X d mX5_takeSign 5 [(2, 67)] [(0, o0)] I R Q := by
  refine B_if_ne (off := 13) (t := 18) (q := 8) c1 (by decide) rfl (by decide +kernel) ?_ ?_
  · exact fun g9 => (PW_sub (ls' := [(2, 67)]) ⟨Or.inr rfl, trivial⟩ (h1 g9))
  · exact fun g9 => (PW_sub (ls' := [(2, 67)]) ⟨Or.inr rfl, trivial⟩ (h2 g9))
theorem S_X5_takeSign_8 {X : CX} {d d1 : Nat} {I R : PF} {Q Q1 : PV → PF → PF → Prop} (e1 : d1 + 1 ≤ d) (hc : CN X d1 mX5_refuse [(2, 67), (0, 1), (0, (I 67 3))] I R Q1) (h : ∀ z I2 R2, Q1 (0, z) I2 R2 → PN X d mX5_takeSign 17 [] [(0, z)] I2 R2 Q) : PN X d mX5_takeSign 8 [(2, 67)] [] I R Q := by
  refine P_aload_n (n := 0) (q := 9) rfl rfl (by decide +kernel) ?_
  refine P_iconst (n := 1) (q := 10) rfl (by decide +kernel) ?_
  refine P_aload_n (n := 0) (q := 11) rfl rfl (by decide +kernel) ?_
  refine P_getf (q := 14) fX5_18 kM67 rfl (by decide +kernel) ?_
  refine P_invV (As := [(0, 1), (0, (I 67 3))]) (q := 17) oX5_refuse rfl kM67 kX5_69 e1 hMF (Nat.le_of_ble_eq_true rfl) hc rfl (by decide +kernel) (fun z I2 R2 hq => ?_)
  exact (PW_sub (ls' := []) trivial (h z I2 R2 hq))
theorem S_X5_takeSign_17 {X : CX} {d : Nat} {o0 : Int} {I R : PF} {Q : PV → PF → PF → Prop} (z1 : o0 = 0 ∨ o0 = 1) (h : Q (0, o0) I R) : PN X d mX5_takeSign 17 [] [(0, o0)] I R Q := by
  refine P_zret rfl z1 (by decide +kernel) h
theorem S_X5_takeSign_18 {X : CX} {d d1 : Nat} {I R : PF} {Q Q1 : PV → PF → PF → Prop} (e1 : d1 + 1 ≤ d) (hc : CN X d1 mX5_advance [(2, 67)] I R Q1) (h : ∀ z I2 R2, Q1 (9, z) I2 R2 → PN X d mX5_takeSign 22 [] [] I2 R2 Q) : PN X d mX5_takeSign 18 [(2, 67)] [] I R Q := by
  refine P_aload_n (n := 0) (q := 19) rfl rfl (by decide +kernel) ?_
  refine P_invV (As := []) (q := 22) oX5_advance rfl kM67 kX5_55 e1 hMF (Nat.le_of_ble_eq_true rfl) hc rfl (by decide +kernel) (fun z I2 R2 hq => ?_)
  exact (PW_sub (ls' := []) trivial (h z I2 R2 hq))
theorem S_X5_takeSign_22 {X : CX} {d : Nat} {I R : PF} {Q : PV → PF → PF → Prop} (h : Q (0, 1) I R) : PN X d mX5_takeSign 22 [] [] I R Q := by
  refine P_iconst (n := 1) (q := 23) rfl (by decide +kernel) ?_
  refine P_zret rfl (Or.inr rfl) (by decide +kernel) h
theorem S_X5_takeWord_0 {X : CX} {d d1 : Nat} {a1 : Int} {I R : PF} {Q Q1 : PV → PF → PF → Prop} (e1 : d1 + 1 ≤ d) (hc : CN X d1 mX5_isWord [(2, 67), (2, a1)] I R Q1) (h : ∀ z I2 R2, Q1 (0, z) I2 R2 → PN X d mX5_takeWord 5 [(2, 67)] [(0, z)] I2 R2 Q) : PN X d mX5_takeWord 0 [(2, 67), (2, a1)] [] I R Q := by
  refine P_aload_n (n := 0) (q := 1) rfl rfl (by decide +kernel) ?_
  refine P_aload_n (n := 1) (q := 2) rfl rfl (by decide +kernel) ?_
  refine P_invV (As := [(2, a1)]) (q := 5) oX5_isWord rfl kM67 kX5_65 e1 hMF (Nat.le_of_ble_eq_true rfl) hc rfl (by decide +kernel) (fun z I2 R2 hq => ?_)
  exact (PW_sub (ls' := [(2, 67)]) ⟨Or.inr rfl, trivial⟩ (h z I2 R2 hq))
theorem S_X5_takeWord_5 {X : CX} {d : Nat} {o0 : Int} {I R : PF} {Q : PV → PF → PF → Prop} (c1 : -2147483648 ≤ o0 ∧ o0 < 2147483648) (h1 : o0 ≠ 0 → PN X d mX5_takeWord 18 [(2, 67)] [] I R Q) (h2 : o0 = 0 → PN X d mX5_takeWord 8 [(2, 67)] [] I R Q) : PN X d mX5_takeWord 5 [(2, 67)] [(0, o0)] I R Q := by
  refine B_if_ne (off := 13) (t := 18) (q := 8) c1 (by decide) rfl (by decide +kernel) ?_ ?_
  · exact fun g9 => (PW_sub (ls' := [(2, 67)]) ⟨Or.inr rfl, trivial⟩ (h1 g9))
  · exact fun g9 => (PW_sub (ls' := [(2, 67)]) ⟨Or.inr rfl, trivial⟩ (h2 g9))
theorem S_X5_takeWord_8 {X : CX} {d d1 : Nat} {I R : PF} {Q Q1 : PV → PF → PF → Prop} (e1 : d1 + 1 ≤ d) (hc : CN X d1 mX5_refuse [(2, 67), (0, 1), (0, (I 67 3))] I R Q1) (h : ∀ z I2 R2, Q1 (0, z) I2 R2 → PN X d mX5_takeWord 17 [] [(0, z)] I2 R2 Q) : PN X d mX5_takeWord 8 [(2, 67)] [] I R Q := by
  refine P_aload_n (n := 0) (q := 9) rfl rfl (by decide +kernel) ?_
  refine P_iconst (n := 1) (q := 10) rfl (by decide +kernel) ?_
  refine P_aload_n (n := 0) (q := 11) rfl rfl (by decide +kernel) ?_
  refine P_getf (q := 14) fX5_18 kM67 rfl (by decide +kernel) ?_
  refine P_invV (As := [(0, 1), (0, (I 67 3))]) (q := 17) oX5_refuse rfl kM67 kX5_69 e1 hMF (Nat.le_of_ble_eq_true rfl) hc rfl (by decide +kernel) (fun z I2 R2 hq => ?_)
  exact (PW_sub (ls' := []) trivial (h z I2 R2 hq))
theorem S_X5_takeWord_17 {X : CX} {d : Nat} {o0 : Int} {I R : PF} {Q : PV → PF → PF → Prop} (z1 : o0 = 0 ∨ o0 = 1) (h : Q (0, o0) I R) : PN X d mX5_takeWord 17 [] [(0, o0)] I R Q := by
  refine P_zret rfl z1 (by decide +kernel) h
theorem S_X5_takeWord_18 {X : CX} {d d1 : Nat} {I R : PF} {Q Q1 : PV → PF → PF → Prop} (e1 : d1 + 1 ≤ d) (hc : CN X d1 mX5_advance [(2, 67)] I R Q1) (h : ∀ z I2 R2, Q1 (9, z) I2 R2 → PN X d mX5_takeWord 22 [] [] I2 R2 Q) : PN X d mX5_takeWord 18 [(2, 67)] [] I R Q := by
  refine P_aload_n (n := 0) (q := 19) rfl rfl (by decide +kernel) ?_
  refine P_invV (As := []) (q := 22) oX5_advance rfl kM67 kX5_55 e1 hMF (Nat.le_of_ble_eq_true rfl) hc rfl (by decide +kernel) (fun z I2 R2 hq => ?_)
  exact (PW_sub (ls' := []) trivial (h z I2 R2 hq))
theorem S_X5_takeWord_22 {X : CX} {d : Nat} {I R : PF} {Q : PV → PF → PF → Prop} (h : Q (0, 1) I R) : PN X d mX5_takeWord 22 [] [] I R Q := by
  refine P_iconst (n := 1) (q := 23) rfl (by decide +kernel) ?_
  refine P_zret rfl (Or.inr rfl) (by decide +kernel) h
theorem S_X6_aim_0 {X : CX} {d : Nat} {a0 : Int} {I R : PF} {Q : PV → PF → PF → Prop} (h : PN X d mX6_aim 2 [(2, a0), (0, 0)] [] I R Q) : PN X d mX6_aim 0 [(2, a0)] [] I R Q := by
  refine P_iconst (n := 0) (q := 1) rfl (by decide +kernel) ?_
  refine P_istore_n (n := 1) (by decide) (q := 2) rfl (by decide +kernel) ?_
  exact h
theorem S_X6_aim_2 {X : CX} {d : Nat} {a0 x1 : Int} {I R : PF} {Q : PV → PF → PF → Prop} (c1 : -2147483648 ≤ x1 ∧ x1 < 2147483648) (h1 : 33 ≤ x1 → PN X d mX6_aim 67 [] [] I R Q) (h2 : x1 < 33 → PN X d mX6_aim 8 [(2, a0), (0, x1)] [] I R Q) : PN X d mX6_aim 2 [(2, a0), (0, x1)] [] I R Q := by
  refine P_iload_n (n := 1) (q := 3) rfl rfl (by decide +kernel) ?_
  refine P_bipush (n := 33) (q := 5) rfl rfl (by decide +kernel) ?_
  refine B_icmp_ge (off := 62) (t := 67) (q := 8) c1 ⟨by decide, by decide⟩ (by decide) rfl (by decide +kernel) ?_ ?_
  · exact fun g9 => (PW_sub (ls' := []) trivial (h1 g9))
  · exact fun g9 => (h2 g9)
theorem S_X6_aim_8 {X : CX} {d : Nat} {a0 x1 : Int} {I R : PF} {Q : PV → PF → PF → Prop} (k1 : kd MF a0 = 6) (h : PN X d mX6_aim 23 [(2, a0), (0, x1), (0, ((9 * (I a0 3)) + (I a0 2))), (0, 0)] [] I R Q) : PN X d mX6_aim 8 [(2, a0), (0, x1)] [] I R Q := by
  refine P_bipush (n := 9) (q := 10) rfl rfl (by decide +kernel) ?_
  refine P_aload_n (n := 0) (q := 11) rfl rfl (by decide +kernel) ?_
  refine P_getf (q := 14) fX6_21 k1 rfl (by decide +kernel) ?_
  refine P_imul (q := 15) rfl (by decide +kernel) ?_
  refine P_aload_n (n := 0) (q := 16) rfl rfl (by decide +kernel) ?_
  refine P_getf (q := 19) fX6_18 k1 rfl (by decide +kernel) ?_
  refine P_iadd (q := 20) rfl (by decide +kernel) ?_
  refine P_istore_n (n := 2) (by decide) (q := 21) rfl (by decide +kernel) ?_
  refine P_iconst (n := 0) (q := 22) rfl (by decide +kernel) ?_
  refine P_istore_n (n := 3) (by decide) (q := 23) rfl (by decide +kernel) ?_
  exact h
theorem S_X6_aim_23 {X : CX} {d d1 : Nat} {a0 x1 x2 x3 : Int} {I R : PF} {Q Q1 : PV → PF → PF → Prop} (e1 : d1 + 1 ≤ d) (hc : CN X d1 mX10_forceOf [(0, x1)] I R Q1) (h : ∀ z I2 R2, Q1 (0, z) I2 R2 → PN X d mX6_aim 28 [(2, a0), (0, x1), (0, x2), (0, x3)] [(0, z), (0, x3)] I2 R2 Q) : PN X d mX6_aim 23 [(2, a0), (0, x1), (0, x2), (0, x3)] [] I R Q := by
  refine P_iload_n (n := 3) (q := 24) rfl rfl (by decide +kernel) ?_
  refine P_iload_n (n := 1) (q := 25) rfl rfl (by decide +kernel) ?_
  refine P_invS (As := [(0, x1)]) (q := 28) oX10_forceOf rfl (Or.inr kX6_105) e1 hMF (Nat.le_of_ble_eq_true rfl) hc rfl (by decide +kernel) (fun z I2 R2 hq => ?_)
  exact (h z I2 R2 hq)
theorem S_X6_aim_28 {X : CX} {d : Nat} {a0 x1 x2 x3 o0 o1 : Int} {I R : PF} {Q : PV → PF → PF → Prop} (c1 : -2147483648 ≤ o0 ∧ o0 < 2147483648) (c2 : -2147483648 ≤ o1 ∧ o1 < 2147483648) (h1 : o1 ≤ o0 → PN X d mX6_aim 54 [(2, a0), (0, x1), (0, x2)] [] I R Q) (h2 : o0 < o1 → PN X d mX6_aim 31 [(2, a0), (0, x1), (0, x2), (0, x3)] [] I R Q) : PN X d mX6_aim 28 [(2, a0), (0, x1), (0, x2), (0, x3)] [(0, o1), (0, o0)] I R Q := by
  refine B_icmp_ge (off := 26) (t := 54) (q := 31) c1 c2 (by decide) rfl (by decide +kernel) ?_ ?_
  · exact fun g9 => (PW_sub (ls' := [(2, a0), (0, x1), (0, x2)]) ⟨Or.inr rfl, Or.inr rfl, Or.inr rfl, trivial⟩ (h1 g9))
  · exact fun g9 => (h2 g9)
theorem S_X6_aim_31 {X : CX} {d d1 : Nat} {a0 x1 x2 x3 : Int} {I R : PF} {Q Q1 : PV → PF → PF → Prop} (c1 : -2147483648 ≤ x2 ∧ x2 < 2147483648) (e1 : d1 + 1 ≤ d) (hc : CN X d1 mX10_wayOf [(0, x1)] I R Q1) (h : ∀ z I2 R2, Q1 (0, z) I2 R2 → PN X d mX6_aim 44 [(2, a0), (0, x1), (9, 0), (0, x3)] [(0, z), (0, (x2.tdiv 9)), (0, (x2.tmod 9)), (2, a0)] I2 R2 Q) : PN X d mX6_aim 31 [(2, a0), (0, x1), (0, x2), (0, x3)] [] I R Q := by
  refine P_aload_n (n := 0) (q := 32) rfl rfl (by decide +kernel) ?_
  refine P_iload_n (n := 2) (q := 33) rfl rfl (by decide +kernel) ?_
  refine P_bipush (n := 9) (q := 35) rfl rfl (by decide +kernel) ?_
  refine B_irem (q := 36) c1 ⟨by decide, by decide⟩ (by decide) rfl (by decide +kernel) ?_
  refine P_iload_n (n := 2) (q := 37) rfl rfl (by decide +kernel) ?_
  refine P_bipush (n := 9) (q := 39) rfl rfl (by decide +kernel) ?_
  refine B_idiv (q := 40) c1 ⟨by decide, by decide⟩ (by decide) rfl (by decide +kernel) ?_
  refine P_iload_n (n := 1) (q := 41) rfl rfl (by decide +kernel) ?_
  refine P_invS (As := [(0, x1)]) (q := 44) oX10_wayOf rfl (Or.inr kX6_108) e1 hMF (Nat.le_of_ble_eq_true rfl) hc rfl (by decide +kernel) (fun z I2 R2 hq => ?_)
  exact (PW_sub (ls' := [(2, a0), (0, x1), (9, 0), (0, x3)]) ⟨Or.inr rfl, Or.inr rfl, Or.inl rfl, Or.inr rfl, trivial⟩ (h z I2 R2 hq))
theorem S_X6_aim_44 {X : CX} {d d1 : Nat} {a0 x1 x3 s0 o1 o2 o3 : Int} {I R : PF} {Q Q1 : PV → PF → PF → Prop} (e1 : d1 + 1 ≤ d) (hc : CN X d1 mX6_beyond [(2, s0), (0, o1), (0, o2), (0, o3)] I R Q1) (k1 : kd MF s0 = 6) (h : ∀ z I2 R2, Q1 (0, z) I2 R2 → PN X d mX6_aim 47 [(2, a0), (0, x1), (9, 0), (0, x3)] [(0, z)] I2 R2 Q) : PN X d mX6_aim 44 [(2, a0), (0, x1), (9, 0), (0, x3)] [(0, o3), (0, o2), (0, o1), (2, s0)] I R Q := by
  refine P_invV (As := [(0, o1), (0, o2), (0, o3)]) (q := 47) oX6_beyond rfl k1 kX6_111 e1 hMF (Nat.le_of_ble_eq_true rfl) hc rfl (by decide +kernel) (fun z I2 R2 hq => ?_)
  exact (h z I2 R2 hq)
theorem S_X6_aim_47 {X : CX} {d : Nat} {a0 x1 x3 o0 : Int} {I R : PF} {Q : PV → PF → PF → Prop} (h : PN X d mX6_aim 23 [(2, a0), (0, x1), (0, o0), (0, (x3 + 1))] [] I R Q) : PN X d mX6_aim 47 [(2, a0), (0, x1), (9, 0), (0, x3)] [(0, o0)] I R Q := by
  refine P_istore_n (n := 2) (by decide) (q := 48) rfl (by decide +kernel) ?_
  refine P_iinc (n := 3) (a := 1) (by decide) rfl (q := 51) rfl (by decide +kernel) ?_
  refine P_goto (off := (-28)) (t := 23) (by decide) (by decide +kernel) ?_
  exact h
theorem S_X6_aim_54 {X : CX} {d : Nat} {a0 x1 x2 : Int} {I R : PF} {Q : PV → PF → PF → Prop} (hs : Shp R) (k1 : kd MF a0 = 6) (b1 : (0 : Int) ≤ x1 ∧ x1 < 33) (h : PN X d mX6_aim 2 [(2, a0), (0, (x1 + 1))] [] (u2 I (a0 + 4) x1 x2) R Q) : PN X d mX6_aim 54 [(2, a0), (0, x1), (0, x2)] [] I R Q := by
  refine P_aload_n (n := 0) (q := 55) rfl rfl (by decide +kernel) ?_
  refine B_getfR (q := 58) fX6_46 k1 (sh6_11 hs k1) rfl (by decide +kernel) ?_
  refine P_iload_n (n := 1) (q := 59) rfl rfl (by decide +kernel) ?_
  refine P_iload_n (n := 2) (q := 60) rfl rfl (by decide +kernel) ?_
  refine B_iastore (q := 61) (sq4 k1) (sq4n k1) (by decide) b1 rfl (by decide +kernel) ?_
  refine P_iinc (n := 1) (a := 1) (by decide) rfl (q := 64) rfl (by decide +kernel) ?_
  refine P_goto (off := (-62)) (t := 2) (by decide) (by decide +kernel) ?_
  exact (PW_sub (ls' := [(2, a0), (0, (x1 + 1))]) ⟨Or.inr rfl, Or.inr rfl, trivial⟩ h)
theorem S_X6_aim_67 {X : CX} {d : Nat} {I R : PF} {Q : PV → PF → PF → Prop} (h : Q (9, 0) I R) : PN X d mX6_aim 67 [] [] I R Q := by
  refine P_vret rfl (by decide +kernel) h
theorem S_X6_beyond_0 {X : CX} {d d1 : Nat} {a0 x1 x2 x3 : Int} {I R : PF} {Q Q1 : PV → PF → PF → Prop} (e1 : d1 + 1 ≤ d) (hc : CN X d1 mX6_within [(2, a0), (0, x1), (0, x2)] I R Q1) (k1 : kd MF a0 = 6) (h : ∀ z I2 R2, Q1 (0, z) I2 R2 → PN X d mX6_beyond 6 [(2, a0), (0, x1), (0, x2), (0, x3)] [(0, z)] I2 R2 Q) : PN X d mX6_beyond 0 [(2, a0), (0, x1), (0, x2), (0, x3)] [] I R Q := by
  refine P_aload_n (n := 0) (q := 1) rfl rfl (by decide +kernel) ?_
  refine P_iload_n (n := 1) (q := 2) rfl rfl (by decide +kernel) ?_
  refine P_iload_n (n := 2) (q := 3) rfl rfl (by decide +kernel) ?_
  refine P_invV (As := [(0, x1), (0, x2)]) (q := 6) oX6_within rfl k1 kX6_76 e1 hMF (Nat.le_of_ble_eq_true rfl) hc rfl (by decide +kernel) (fun z I2 R2 hq => ?_)
  exact (h z I2 R2 hq)
theorem S_X6_beyond_6 {X : CX} {d : Nat} {a0 x1 x2 x3 o0 : Int} {I R : PF} {Q : PV → PF → PF → Prop} (c1 : -2147483648 ≤ o0 ∧ o0 < 2147483648) (h1 : o0 = 0 → PN X d mX6_beyond 19 [] [] I R Q) (h2 : o0 ≠ 0 → PN X d mX6_beyond 9 [(2, a0), (0, x1), (0, x2), (0, x3)] [] I R Q) : PN X d mX6_beyond 6 [(2, a0), (0, x1), (0, x2), (0, x3)] [(0, o0)] I R Q := by
  refine B_if_eq (off := 13) (t := 19) (q := 9) c1 (by decide) rfl (by decide +kernel) ?_ ?_
  · exact fun g9 => (PW_sub (ls' := []) trivial (h1 g9))
  · exact fun g9 => (h2 g9)
theorem S_X6_beyond_9 {X : CX} {d : Nat} {a0 x1 x2 x3 : Int} {I R : PF} {Q : PV → PF → PF → Prop} (c1 : -2147483648 ≤ x3 ∧ x3 < 2147483648) (h1 : x3 < 0 → PN X d mX6_beyond 19 [] [] I R Q) (h2 : 0 ≤ x3 → PN X d mX6_beyond 13 [(2, a0), (0, x1), (0, x2), (0, x3)] [] I R Q) : PN X d mX6_beyond 9 [(2, a0), (0, x1), (0, x2), (0, x3)] [] I R Q := by
  refine P_iload_n (n := 3) (q := 10) rfl rfl (by decide +kernel) ?_
  refine B_if_lt (off := 9) (t := 19) (q := 13) c1 (by decide) rfl (by decide +kernel) ?_ ?_
  · exact fun g9 => (PW_sub (ls' := []) trivial (h1 g9))
  · exact fun g9 => (h2 g9)
theorem S_X6_beyond_13 {X : CX} {d : Nat} {a0 x1 x2 x3 : Int} {I R : PF} {Q : PV → PF → PF → Prop} (c1 : -2147483648 ≤ x3 ∧ x3 < 2147483648) (h1 : x3 < 9 → PN X d mX6_beyond 21 [(2, a0), (0, x1), (0, x2), (0, x3)] [] I R Q) (h2 : 9 ≤ x3 → PN X d mX6_beyond 19 [] [] I R Q) : PN X d mX6_beyond 13 [(2, a0), (0, x1), (0, x2), (0, x3)] [] I R Q := by
  refine P_iload_n (n := 3) (q := 14) rfl rfl (by decide +kernel) ?_
  refine P_bipush (n := 9) (q := 16) rfl rfl (by decide +kernel) ?_
  refine B_icmp_lt (off := 5) (t := 21) (q := 19) c1 ⟨by decide, by decide⟩ (by decide) rfl (by decide +kernel) ?_ ?_
  · exact fun g9 => (h1 g9)
  · exact fun g9 => (PW_sub (ls' := []) trivial (h2 g9))
theorem S_X6_beyond_19 {X : CX} {d : Nat} {I R : PF} {Q : PV → PF → PF → Prop} (h : Q (0, 0) I R) : PN X d mX6_beyond 19 [] [] I R Q := by
  refine P_iconst (n := 0) (q := 20) rfl (by decide +kernel) ?_
  refine P_iret rfl (by decide +kernel) h
theorem S_X6_beyond_21 {X : CX} {d d1 : Nat} {a0 x1 x2 x3 : Int} {I R : PF} {Q Q1 : PV → PF → PF → Prop} (k1 : kd MF a0 = 6) (b1 : (0 : Int) ≤ x3 ∧ x3 < 9) (e1 : d1 + 1 ≤ d) (hc : CN X d1 mJ9_min_7cf53 [(0, ((I a0 0) - 1)), (0, (x1 + ((sT 40).getD (x3).toNat 0)))] I R Q1) (h : ∀ z I2 R2, Q1 (0, z) I2 R2 → PN X d mX6_beyond 38 [(2, a0), (0, x1), (0, x2), (0, x3)] [(0, z), (0, 0)] I2 R2 Q) : PN X d mX6_beyond 21 [(2, a0), (0, x1), (0, x2), (0, x3)] [] I R Q := by
  refine P_iconst (n := 0) (q := 22) rfl (by decide +kernel) ?_
  refine P_aload_n (n := 0) (q := 23) rfl rfl (by decide +kernel) ?_
  refine P_getf (q := 26) fX6_9 k1 rfl (by decide +kernel) ?_
  refine P_iconst (n := 1) (q := 27) rfl (by decide +kernel) ?_
  refine P_isub (q := 28) rfl (by decide +kernel) ?_
  refine P_iload_n (n := 1) (q := 29) rfl rfl (by decide +kernel) ?_
  refine P_gets (o := 40) (q := 32) (fun _ _ h => z40 h) ⟨by decide, by decide⟩ gX6_87 rfl (by decide +kernel) ?_
  refine P_iload_n (n := 3) (q := 33) rfl rfl (by decide +kernel) ?_
  refine B_ialoadS (q := 34) ⟨by decide, by decide⟩ (by decide) b1 rfl (by decide +kernel) ?_
  refine P_iadd (q := 35) rfl (by decide +kernel) ?_
  refine P_invS (As := [(0, ((I a0 0) - 1)), (0, (x1 + ((sT 40).getD (x3).toNat 0)))]) (q := 38) oJ9_min_7cf53 rfl (Or.inl kX6_90) e1 hMF (Nat.le_of_ble_eq_true rfl) hc rfl (by decide +kernel) (fun z I2 R2 hq => ?_)
  exact (h z I2 R2 hq)
theorem S_X6_beyond_38 {X : CX} {d d1 : Nat} {a0 x1 x2 x3 o0 o1 : Int} {I R : PF} {Q Q1 : PV → PF → PF → Prop} (e1 : d1 + 1 ≤ d) (hc : CN X d1 mJ9_max_7cf53 [(0, o0), (0, o1)] I R Q1) (h : ∀ z I2 R2, Q1 (0, z) I2 R2 → PN X d mX6_beyond 41 [(2, a0), (0, x1), (0, x2), (0, x3)] [(0, z)] I2 R2 Q) : PN X d mX6_beyond 38 [(2, a0), (0, x1), (0, x2), (0, x3)] [(0, o1), (0, o0)] I R Q := by
  refine P_invS (As := [(0, o0), (0, o1)]) (q := 41) oJ9_max_7cf53 rfl (Or.inl kX6_96) e1 hMF (Nat.le_of_ble_eq_true rfl) hc rfl (by decide +kernel) (fun z I2 R2 hq => ?_)
  exact (h z I2 R2 hq)
theorem S_X6_beyond_41 {X : CX} {d d1 : Nat} {a0 x1 x2 x3 o0 : Int} {I R : PF} {Q Q1 : PV → PF → PF → Prop} (k1 : kd MF a0 = 6) (b1 : (0 : Int) ≤ x3 ∧ x3 < 9) (e1 : d1 + 1 ≤ d) (hc : CN X d1 mJ9_min_7cf53 [(0, ((I a0 1) - 1)), (0, (x2 + ((sT 41).getD (x3).toNat 0)))] I R Q1) (h : ∀ z I2 R2, Q1 (0, z) I2 R2 → PN X d mX6_beyond 60 [(2, a0), (0, x1), (0, x2), (9, 0), (0, o0)] [(0, z), (0, 0)] I2 R2 Q) : PN X d mX6_beyond 41 [(2, a0), (0, x1), (0, x2), (0, x3)] [(0, o0)] I R Q := by
  refine P_istore (n := 4) (by decide) (q := 43) rfl (by decide +kernel) ?_
  refine P_iconst (n := 0) (q := 44) rfl (by decide +kernel) ?_
  refine P_aload_n (n := 0) (q := 45) rfl rfl (by decide +kernel) ?_
  refine P_getf (q := 48) fX6_15 k1 rfl (by decide +kernel) ?_
  refine P_iconst (n := 1) (q := 49) rfl (by decide +kernel) ?_
  refine P_isub (q := 50) rfl (by decide +kernel) ?_
  refine P_iload_n (n := 2) (q := 51) rfl rfl (by decide +kernel) ?_
  refine P_gets (o := 41) (q := 54) (fun _ _ h => z41 h) ⟨by decide, by decide⟩ gX6_99 rfl (by decide +kernel) ?_
  refine P_iload_n (n := 3) (q := 55) rfl rfl (by decide +kernel) ?_
  refine B_ialoadS (q := 56) ⟨by decide, by decide⟩ (by decide) b1 rfl (by decide +kernel) ?_
  refine P_iadd (q := 57) rfl (by decide +kernel) ?_
  refine P_invS (As := [(0, ((I a0 1) - 1)), (0, (x2 + ((sT 41).getD (x3).toNat 0)))]) (q := 60) oJ9_min_7cf53 rfl (Or.inl kX6_90) e1 hMF (Nat.le_of_ble_eq_true rfl) hc rfl (by decide +kernel) (fun z I2 R2 hq => ?_)
  exact (PW_sub (ls' := [(2, a0), (0, x1), (0, x2), (9, 0), (0, o0)]) ⟨Or.inr rfl, Or.inr rfl, Or.inr rfl, Or.inl rfl, Or.inr rfl, trivial⟩ (h z I2 R2 hq))
theorem S_X6_beyond_60 {X : CX} {d d1 : Nat} {a0 x1 x2 x4 o0 o1 : Int} {I R : PF} {Q Q1 : PV → PF → PF → Prop} (e1 : d1 + 1 ≤ d) (hc : CN X d1 mJ9_max_7cf53 [(0, o0), (0, o1)] I R Q1) (h : ∀ z I2 R2, Q1 (0, z) I2 R2 → PN X d mX6_beyond 63 [(2, a0), (0, x1), (0, x2), (9, 0), (0, x4)] [(0, z)] I2 R2 Q) : PN X d mX6_beyond 60 [(2, a0), (0, x1), (0, x2), (9, 0), (0, x4)] [(0, o1), (0, o0)] I R Q := by
  refine P_invS (As := [(0, o0), (0, o1)]) (q := 63) oJ9_max_7cf53 rfl (Or.inl kX6_96) e1 hMF (Nat.le_of_ble_eq_true rfl) hc rfl (by decide +kernel) (fun z I2 R2 hq => ?_)
  exact (h z I2 R2 hq)
theorem S_X6_beyond_63 {X : CX} {d d1 : Nat} {a0 x1 x2 x4 o0 : Int} {I R : PF} {Q Q1 : PV → PF → PF → Prop} (e1 : d1 + 1 ≤ d) (hc : CN X d1 mX6_walled [(2, a0), (0, x4), (0, o0)] I R Q1) (k1 : kd MF a0 = 6) (h : ∀ z I2 R2, Q1 (0, z) I2 R2 → PN X d mX6_beyond 73 [(9, 0), (0, x1), (0, x2), (9, 0), (0, x4), (0, o0)] [(0, z)] I2 R2 Q) : PN X d mX6_beyond 63 [(2, a0), (0, x1), (0, x2), (9, 0), (0, x4)] [(0, o0)] I R Q := by
  refine P_istore (n := 5) (by decide) (q := 65) rfl (by decide +kernel) ?_
  refine P_aload_n (n := 0) (q := 66) rfl rfl (by decide +kernel) ?_
  refine P_iload (n := 4) (q := 68) rfl rfl (by decide +kernel) ?_
  refine P_iload (n := 5) (q := 70) rfl rfl (by decide +kernel) ?_
  refine P_invV (As := [(0, x4), (0, o0)]) (q := 73) oX6_walled rfl k1 kX6_102 e1 hMF (Nat.le_of_ble_eq_true rfl) hc rfl (by decide +kernel) (fun z I2 R2 hq => ?_)
  exact (PW_sub (ls' := [(9, 0), (0, x1), (0, x2), (9, 0), (0, x4), (0, o0)]) ⟨Or.inl rfl, Or.inr rfl, Or.inr rfl, Or.inl rfl, Or.inr rfl, Or.inr rfl, trivial⟩ (h z I2 R2 hq))
theorem S_X6_beyond_73 {X : CX} {d : Nat} {x1 x2 x4 x5 o0 : Int} {I R : PF} {Q : PV → PF → PF → Prop} (c1 : -2147483648 ≤ o0 ∧ o0 < 2147483648) (h1 : o0 = 0 → PN X d mX6_beyond 83 [(9, 0), (9, 0), (9, 0), (9, 0), (0, x4), (0, x5)] [] I R Q) (h2 : o0 ≠ 0 → PN X d mX6_beyond 76 [(9, 0), (0, x1), (0, x2)] [] I R Q) : PN X d mX6_beyond 73 [(9, 0), (0, x1), (0, x2), (9, 0), (0, x4), (0, x5)] [(0, o0)] I R Q := by
  refine B_if_eq (off := 10) (t := 83) (q := 76) c1 (by decide) rfl (by decide +kernel) ?_ ?_
  · exact fun g9 => (PW_sub (ls' := [(9, 0), (9, 0), (9, 0), (9, 0), (0, x4), (0, x5)]) ⟨Or.inl rfl, Or.inl rfl, Or.inl rfl, Or.inl rfl, Or.inr rfl, Or.inr rfl, trivial⟩ (h1 g9))
  · exact fun g9 => (PW_sub (ls' := [(9, 0), (0, x1), (0, x2)]) ⟨Or.inl rfl, Or.inr rfl, Or.inr rfl, trivial⟩ (h2 g9))
theorem S_X6_beyond_76 {X : CX} {d : Nat} {x1 x2 : Int} {I R : PF} {Q : PV → PF → PF → Prop} (h : Q (0, ((9 * x2) + x1)) I R) : PN X d mX6_beyond 76 [(9, 0), (0, x1), (0, x2)] [] I R Q := by
  refine P_bipush (n := 9) (q := 78) rfl rfl (by decide +kernel) ?_
  refine P_iload_n (n := 2) (q := 79) rfl rfl (by decide +kernel) ?_
  refine P_imul (q := 80) rfl (by decide +kernel) ?_
  refine P_iload_n (n := 1) (q := 81) rfl rfl (by decide +kernel) ?_
  refine P_iadd (q := 82) rfl (by decide +kernel) ?_
  refine P_iret rfl (by decide +kernel) h
theorem S_X6_beyond_83 {X : CX} {d : Nat} {x4 x5 : Int} {I R : PF} {Q : PV → PF → PF → Prop} (h : Q (0, ((9 * x5) + x4)) I R) : PN X d mX6_beyond 83 [(9, 0), (9, 0), (9, 0), (9, 0), (0, x4), (0, x5)] [] I R Q := by
  refine P_bipush (n := 9) (q := 85) rfl rfl (by decide +kernel) ?_
  refine P_iload (n := 5) (q := 87) rfl rfl (by decide +kernel) ?_
  refine P_imul (q := 88) rfl (by decide +kernel) ?_
  refine P_iload (n := 4) (q := 90) rfl rfl (by decide +kernel) ?_
  refine P_iadd (q := 91) rfl (by decide +kernel) ?_
  refine P_iret rfl (by decide +kernel) h
theorem S_X6_clear_0 {X : CX} {d d1 : Nat} {a0 : Int} {I R : PF} {Q Q1 : PV → PF → PF → Prop} (hs : Shp R) (k1 : kd MF a0 = 6) (e1 : d1 + 1 ≤ d) (hc : CN X d1 mJ7_fill_53178 [(2, (a0 + 3)), (0, 0)] (u2 (u2 (u2 (u2 (u2 I a0 0 0) a0 1 0) a0 5 0) a0 6 0) a0 7 0) R Q1) (h : ∀ z I2 R2, Q1 (9, z) I2 R2 → PN X d mX6_clear 33 [(2, a0)] [] I2 R2 Q) : PN X d mX6_clear 0 [(2, a0)] [] I R Q := by
  refine P_aload_n (n := 0) (q := 1) rfl rfl (by decide +kernel) ?_
  refine P_iconst (n := 0) (q := 2) rfl (by decide +kernel) ?_
  refine P_putI (q := 5) wX6_9 (fun h => by cases h) k1 rfl (by decide +kernel) ?_
  refine P_aload_n (n := 0) (q := 6) rfl rfl (by decide +kernel) ?_
  refine P_iconst (n := 0) (q := 7) rfl (by decide +kernel) ?_
  refine P_putI (q := 10) wX6_15 (fun h => by cases h) k1 rfl (by decide +kernel) ?_
  refine P_aload_n (n := 0) (q := 11) rfl rfl (by decide +kernel) ?_
  refine P_iconst (n := 0) (q := 12) rfl (by decide +kernel) ?_
  refine P_putI (q := 15) wX6_27 (fun h => by cases h) k1 rfl (by decide +kernel) ?_
  refine P_aload_n (n := 0) (q := 16) rfl rfl (by decide +kernel) ?_
  refine P_iconst (n := 0) (q := 17) rfl (by decide +kernel) ?_
  refine P_putI (q := 20) wX6_30 (fun h => by cases h) k1 rfl (by decide +kernel) ?_
  refine P_aload_n (n := 0) (q := 21) rfl rfl (by decide +kernel) ?_
  refine P_iconst (n := 0) (q := 22) rfl (by decide +kernel) ?_
  refine P_putI (q := 25) wX6_33 (fun h => by cases h) k1 rfl (by decide +kernel) ?_
  refine P_aload_n (n := 0) (q := 26) rfl rfl (by decide +kernel) ?_
  refine B_getfR (q := 29) fX6_43 k1 (sh6_10 hs k1) rfl (by decide +kernel) ?_
  refine P_iconst (n := 0) (q := 30) rfl (by decide +kernel) ?_
  refine P_invS (As := [(2, (a0 + 3)), (0, 0)]) (q := 33) oJ7_fill_53178 rfl (Or.inl kX6_66) e1 hMF (Nat.le_of_ble_eq_true rfl) hc rfl (by decide +kernel) (fun z I2 R2 hq => ?_)
  exact (h z I2 R2 hq)
theorem S_X6_clear_33 {X : CX} {d d1 : Nat} {a0 : Int} {I R : PF} {Q Q1 : PV → PF → PF → Prop} (hs : Shp R) (k1 : kd MF a0 = 6) (e1 : d1 + 1 ≤ d) (hc : CN X d1 mX2_clear [(2, (a0 + 5))] I R Q1) (h : ∀ z I2 R2, Q1 (9, z) I2 R2 → PN X d mX6_clear 40 [(2, a0)] [] I2 R2 Q) : PN X d mX6_clear 33 [(2, a0)] [] I R Q := by
  refine P_aload_n (n := 0) (q := 34) rfl rfl (by decide +kernel) ?_
  refine B_getfR (q := 37) fX6_52 k1 (sh6_12 hs k1) rfl (by decide +kernel) ?_
  refine P_invV (As := []) (q := 40) oX2_clear rfl (sq5 k1) kX6_72 e1 hMF (Nat.le_of_ble_eq_true rfl) hc rfl (by decide +kernel) (fun z I2 R2 hq => ?_)
  exact (h z I2 R2 hq)
theorem S_X6_clear_40 {X : CX} {d d1 : Nat} {a0 : Int} {I R : PF} {Q Q1 : PV → PF → PF → Prop} (hs : Shp R) (k1 : kd MF a0 = 6) (e1 : d1 + 1 ≤ d) (hc : CN X d1 mX2_clear [(2, (a0 + 8))] I R Q1) (h : ∀ z I2 R2, Q1 (9, z) I2 R2 → PN X d mX6_clear 47 [(2, a0)] [] I2 R2 Q) : PN X d mX6_clear 40 [(2, a0)] [] I R Q := by
  refine P_aload_n (n := 0) (q := 41) rfl rfl (by decide +kernel) ?_
  refine B_getfR (q := 44) fX6_56 k1 (sh6_13 hs k1) rfl (by decide +kernel) ?_
  refine P_invV (As := []) (q := 47) oX2_clear rfl (sq8 k1) kX6_72 e1 hMF (Nat.le_of_ble_eq_true rfl) hc rfl (by decide +kernel) (fun z I2 R2 hq => ?_)
  exact (h z I2 R2 hq)
theorem S_X6_clear_47 {X : CX} {d d1 : Nat} {a0 : Int} {I R : PF} {Q Q1 : PV → PF → PF → Prop} (hs : Shp R) (k1 : kd MF a0 = 6) (e1 : d1 + 1 ≤ d) (hc : CN X d1 mX8_clear [(2, (a0 + 11))] I R Q1) (h : ∀ z I2 R2, Q1 (9, z) I2 R2 → PN X d mX6_clear 54 [] [] I2 R2 Q) : PN X d mX6_clear 47 [(2, a0)] [] I R Q := by
  refine P_aload_n (n := 0) (q := 48) rfl rfl (by decide +kernel) ?_
  refine B_getfR (q := 51) fX6_62 k1 (sh6_14 hs k1) rfl (by decide +kernel) ?_
  refine P_invV (As := []) (q := 54) oX8_clear rfl (sq11 k1) kX6_75 e1 hMF (Nat.le_of_ble_eq_true rfl) hc rfl (by decide +kernel) (fun z I2 R2 hq => ?_)
  exact (PW_sub (ls' := []) trivial (h z I2 R2 hq))
theorem S_X6_clear_54 {X : CX} {d : Nat} {I R : PF} {Q : PV → PF → PF → Prop} (h : Q (9, 0) I R) : PN X d mX6_clear 54 [] [] I R Q := by
  refine P_vret rfl (by decide +kernel) h
theorem S_X6_hasTowerAt_0 {X : CX} {d : Nat} {a0 x1 x2 : Int} {I R : PF} {Q : PV → PF → PF → Prop} (k1 : kd MF a0 = 6) (c1 : -2147483648 ≤ x1 ∧ x1 < 2147483648) (c2 : -2147483648 ≤ (I a0 2) ∧ (I a0 2) < 2147483648) (h1 : x1 ≠ (I a0 2) → PN X d mX6_hasTowerAt 20 [] [] I R Q) (h2 : x1 = (I a0 2) → PN X d mX6_hasTowerAt 8 [(2, a0), (9, 0), (0, x2)] [] I R Q) : PN X d mX6_hasTowerAt 0 [(2, a0), (0, x1), (0, x2)] [] I R Q := by
  refine P_iload_n (n := 1) (q := 1) rfl rfl (by decide +kernel) ?_
  refine P_aload_n (n := 0) (q := 2) rfl rfl (by decide +kernel) ?_
  refine P_getf (q := 5) fX6_18 k1 rfl (by decide +kernel) ?_
  refine B_icmp_ne (off := 15) (t := 20) (q := 8) c1 c2 (by decide) rfl (by decide +kernel) ?_ ?_
  · exact fun g9 => (PW_sub (ls' := []) trivial (h1 g9))
  · exact fun g9 => (PW_sub (ls' := [(2, a0), (9, 0), (0, x2)]) ⟨Or.inr rfl, Or.inl rfl, Or.inr rfl, trivial⟩ (h2 g9))
theorem S_X6_hasTowerAt_8 {X : CX} {d : Nat} {a0 x2 : Int} {I R : PF} {Q : PV → PF → PF → Prop} (k1 : kd MF a0 = 6) (c1 : -2147483648 ≤ x2 ∧ x2 < 2147483648) (c2 : -2147483648 ≤ (I a0 3) ∧ (I a0 3) < 2147483648) (h1 : x2 ≠ (I a0 3) → PN X d mX6_hasTowerAt 20 [] [] I R Q) (h2 : x2 = (I a0 3) → PN X d mX6_hasTowerAt 16 [] [] I R Q) : PN X d mX6_hasTowerAt 8 [(2, a0), (9, 0), (0, x2)] [] I R Q := by
  refine P_iload_n (n := 2) (q := 9) rfl rfl (by decide +kernel) ?_
  refine P_aload_n (n := 0) (q := 10) rfl rfl (by decide +kernel) ?_
  refine P_getf (q := 13) fX6_21 k1 rfl (by decide +kernel) ?_
  refine B_icmp_ne (off := 7) (t := 20) (q := 16) c1 c2 (by decide) rfl (by decide +kernel) ?_ ?_
  · exact fun g9 => (PW_sub (ls' := []) trivial (h1 g9))
  · exact fun g9 => (PW_sub (ls' := []) trivial (h2 g9))
theorem S_X6_hasTowerAt_16 {X : CX} {d : Nat} {I R : PF} {Q : PV → PF → PF → Prop} (h : PN X d mX6_hasTowerAt 21 [] [(0, 1)] I R Q) : PN X d mX6_hasTowerAt 16 [] [] I R Q := by
  refine P_iconst (n := 1) (q := 17) rfl (by decide +kernel) ?_
  refine P_goto (off := 4) (t := 21) (by decide) (by decide +kernel) ?_
  exact (PW_sub (ls' := []) trivial h)
theorem S_X6_hasTowerAt_20 {X : CX} {d : Nat} {I R : PF} {Q : PV → PF → PF → Prop} (h : PN X d mX6_hasTowerAt 21 [] [(0, 0)] I R Q) : PN X d mX6_hasTowerAt 20 [] [] I R Q := by
  refine P_iconst (n := 0) (q := 21) rfl (by decide +kernel) ?_
  exact (PW_sub (ls' := []) trivial h)
theorem S_X6_hasTowerAt_21 {X : CX} {d : Nat} {o0 : Int} {I R : PF} {Q : PV → PF → PF → Prop} (z1 : o0 = 0 ∨ o0 = 1) (h : Q (0, o0) I R) : PN X d mX6_hasTowerAt 21 [] [(0, o0)] I R Q := by
  refine P_zret rfl z1 (by decide +kernel) h
theorem S_X6_knowsName_0 {X : CX} {d : Nat} {a0 x1 : Int} {I R : PF} {Q : PV → PF → PF → Prop} (h : PN X d mX6_knowsName 2 [(2, a0), (0, x1), (0, 0)] [] I R Q) : PN X d mX6_knowsName 0 [(2, a0), (0, x1)] [] I R Q := by
  refine P_iconst (n := 0) (q := 1) rfl (by decide +kernel) ?_
  refine P_istore_n (n := 2) (by decide) (q := 2) rfl (by decide +kernel) ?_
  exact h
theorem S_X6_knowsName_2 {X : CX} {d : Nat} {a0 x1 x2 : Int} {I R : PF} {Q : PV → PF → PF → Prop} (hs : Shp R) (k1 : kd MF a0 = 6) (c1 : -2147483648 ≤ x2 ∧ x2 < 2147483648) (c2 : -2147483648 ≤ (I (a0 + 11) 3) ∧ (I (a0 + 11) 3) < 2147483648) (h1 : (I (a0 + 11) 3) ≤ x2 → PN X d mX6_knowsName 31 [(2, a0), (0, x1)] [] I R Q) (h2 : x2 < (I (a0 + 11) 3) → PN X d mX6_knowsName 13 [(2, a0), (0, x1), (0, x2)] [] I R Q) : PN X d mX6_knowsName 2 [(2, a0), (0, x1), (0, x2)] [] I R Q := by
  refine P_iload_n (n := 2) (q := 3) rfl rfl (by decide +kernel) ?_
  refine P_aload_n (n := 0) (q := 4) rfl rfl (by decide +kernel) ?_
  refine B_getfR (q := 7) fX6_62 k1 (sh6_14 hs k1) rfl (by decide +kernel) ?_
  refine P_getf (q := 10) fX6_80 (sq11 k1) rfl (by decide +kernel) ?_
  refine B_icmp_ge (off := 21) (t := 31) (q := 13) c1 c2 (by decide) rfl (by decide +kernel) ?_ ?_
  · exact fun g9 => (PW_sub (ls' := [(2, a0), (0, x1)]) ⟨Or.inr rfl, Or.inr rfl, trivial⟩ (h1 g9))
  · exact fun g9 => (h2 g9)
theorem S_X6_knowsName_13 {X : CX} {d : Nat} {a0 x1 x2 : Int} {I R : PF} {Q : PV → PF → PF → Prop} (hs : Shp R) (k1 : kd MF a0 = 6) (b1 : (0 : Int) ≤ x2 ∧ x2 < 6) (c1 : -2147483648 ≤ (I (a0 + 2) x2) ∧ (I (a0 + 2) x2) < 2147483648) (c2 : -2147483648 ≤ x1 ∧ x1 < 2147483648) (h1 : (I (a0 + 2) x2) ≠ x1 → PN X d mX6_knowsName 25 [(2, a0), (0, x1), (0, x2)] [] I R Q) (h2 : (I (a0 + 2) x2) = x1 → PN X d mX6_knowsName 23 [] [] I R Q) : PN X d mX6_knowsName 13 [(2, a0), (0, x1), (0, x2)] [] I R Q := by
  refine P_aload_n (n := 0) (q := 14) rfl rfl (by decide +kernel) ?_
  refine B_getfR (q := 17) fX6_40 k1 (sh6_9 hs k1) rfl (by decide +kernel) ?_
  refine P_iload_n (n := 2) (q := 18) rfl rfl (by decide +kernel) ?_
  refine B_iaload (q := 19) (sq2 k1) (sq2n k1) (by decide) b1 rfl (by decide +kernel) ?_
  refine P_iload_n (n := 1) (q := 20) rfl rfl (by decide +kernel) ?_
  refine B_icmp_ne (off := 5) (t := 25) (q := 23) c1 c2 (by decide) rfl (by decide +kernel) ?_ ?_
  · exact fun g9 => (h1 g9)
  · exact fun g9 => (PW_sub (ls' := []) trivial (h2 g9))
theorem S_X6_knowsName_23 {X : CX} {d : Nat} {I R : PF} {Q : PV → PF → PF → Prop} (h : Q (0, 1) I R) : PN X d mX6_knowsName 23 [] [] I R Q := by
  refine P_iconst (n := 1) (q := 24) rfl (by decide +kernel) ?_
  refine P_zret rfl (Or.inr rfl) (by decide +kernel) h
theorem S_X6_knowsName_25 {X : CX} {d : Nat} {a0 x1 x2 : Int} {I R : PF} {Q : PV → PF → PF → Prop} (h : PN X d mX6_knowsName 2 [(2, a0), (0, x1), (0, (x2 + 1))] [] I R Q) : PN X d mX6_knowsName 25 [(2, a0), (0, x1), (0, x2)] [] I R Q := by
  refine P_iinc (n := 2) (a := 1) (by decide) rfl (q := 28) rfl (by decide +kernel) ?_
  refine P_goto (off := (-26)) (t := 2) (by decide) (by decide +kernel) ?_
  exact h
theorem S_X6_knowsName_31 {X : CX} {d d1 : Nat} {a0 x1 : Int} {I R : PF} {Q Q1 : PV → PF → PF → Prop} (e1 : d1 + 1 ≤ d) (hc : CN X d1 mX6_lawNamed [(2, a0), (0, x1)] I R Q1) (k1 : kd MF a0 = 6) (h : ∀ z I2 R2, Q1 (0, z) I2 R2 → PN X d mX6_knowsName 36 [] [(0, z)] I2 R2 Q) : PN X d mX6_knowsName 31 [(2, a0), (0, x1)] [] I R Q := by
  refine P_aload_n (n := 0) (q := 32) rfl rfl (by decide +kernel) ?_
  refine P_iload_n (n := 1) (q := 33) rfl rfl (by decide +kernel) ?_
  refine P_invV (As := [(0, x1)]) (q := 36) oX6_lawNamed rfl k1 kX6_83 e1 hMF (Nat.le_of_ble_eq_true rfl) hc rfl (by decide +kernel) (fun z I2 R2 hq => ?_)
  exact (PW_sub (ls' := []) trivial (h z I2 R2 hq))
theorem S_X6_knowsName_36 {X : CX} {d : Nat} {o0 : Int} {I R : PF} {Q : PV → PF → PF → Prop} (c1 : -2147483648 ≤ o0 ∧ o0 < 2147483648) (h1 : o0 = (-1) → PN X d mX6_knowsName 44 [] [] I R Q) (h2 : o0 ≠ (-1) → PN X d mX6_knowsName 40 [] [] I R Q) : PN X d mX6_knowsName 36 [] [(0, o0)] I R Q := by
  refine P_iconst (n := (-1)) (q := 37) rfl (by decide +kernel) ?_
  refine B_icmp_eq (off := 7) (t := 44) (q := 40) c1 ⟨by decide, by decide⟩ (by decide) rfl (by decide +kernel) ?_ ?_
  · exact fun g9 => (PW_sub (ls' := []) trivial (h1 g9))
  · exact fun g9 => (PW_sub (ls' := []) trivial (h2 g9))
theorem S_X6_knowsName_40 {X : CX} {d : Nat} {I R : PF} {Q : PV → PF → PF → Prop} (h : PN X d mX6_knowsName 45 [] [(0, 1)] I R Q) : PN X d mX6_knowsName 40 [] [] I R Q := by
  refine P_iconst (n := 1) (q := 41) rfl (by decide +kernel) ?_
  refine P_goto (off := 4) (t := 45) (by decide) (by decide +kernel) ?_
  exact (PW_sub (ls' := []) trivial h)
theorem S_X6_knowsName_44 {X : CX} {d : Nat} {I R : PF} {Q : PV → PF → PF → Prop} (h : PN X d mX6_knowsName 45 [] [(0, 0)] I R Q) : PN X d mX6_knowsName 44 [] [] I R Q := by
  refine P_iconst (n := 0) (q := 45) rfl (by decide +kernel) ?_
  exact (PW_sub (ls' := []) trivial h)
theorem S_X6_knowsName_45 {X : CX} {d : Nat} {o0 : Int} {I R : PF} {Q : PV → PF → PF → Prop} (z1 : o0 = 0 ∨ o0 = 1) (h : Q (0, o0) I R) : PN X d mX6_knowsName 45 [] [(0, o0)] I R Q := by
  refine P_zret rfl z1 (by decide +kernel) h
theorem S_X6_lawNamed_0 {X : CX} {d : Nat} {a0 x1 : Int} {I R : PF} {Q : PV → PF → PF → Prop} (h : PN X d mX6_lawNamed 2 [(2, a0), (0, x1), (0, 0)] [] I R Q) : PN X d mX6_lawNamed 0 [(2, a0), (0, x1)] [] I R Q := by
  refine P_iconst (n := 0) (q := 1) rfl (by decide +kernel) ?_
  refine P_istore_n (n := 2) (by decide) (q := 2) rfl (by decide +kernel) ?_
  exact h
theorem S_X6_lawNamed_2 {X : CX} {d : Nat} {a0 x1 x2 : Int} {I R : PF} {Q : PV → PF → PF → Prop} (k1 : kd MF a0 = 6) (c1 : -2147483648 ≤ x2 ∧ x2 < 2147483648) (c2 : -2147483648 ≤ (I a0 5) ∧ (I a0 5) < 2147483648) (h1 : (I a0 5) ≤ x2 → PN X d mX6_lawNamed 28 [] [] I R Q) (h2 : x2 < (I a0 5) → PN X d mX6_lawNamed 10 [(2, a0), (0, x1), (0, x2)] [] I R Q) : PN X d mX6_lawNamed 2 [(2, a0), (0, x1), (0, x2)] [] I R Q := by
  refine P_iload_n (n := 2) (q := 3) rfl rfl (by decide +kernel) ?_
  refine P_aload_n (n := 0) (q := 4) rfl rfl (by decide +kernel) ?_
  refine P_getf (q := 7) fX6_27 k1 rfl (by decide +kernel) ?_
  refine B_icmp_ge (off := 21) (t := 28) (q := 10) c1 c2 (by decide) rfl (by decide +kernel) ?_ ?_
  · exact fun g9 => (PW_sub (ls' := []) trivial (h1 g9))
  · exact fun g9 => (h2 g9)
theorem S_X6_lawNamed_10 {X : CX} {d : Nat} {a0 x1 x2 : Int} {I R : PF} {Q : PV → PF → PF → Prop} (hs : Shp R) (k1 : kd MF a0 = 6) (b1 : (0 : Int) ≤ x2 ∧ x2 < 6) (c1 : -2147483648 ≤ (I (a0 + 1) x2) ∧ (I (a0 + 1) x2) < 2147483648) (c2 : -2147483648 ≤ x1 ∧ x1 < 2147483648) (h1 : (I (a0 + 1) x2) ≠ x1 → PN X d mX6_lawNamed 22 [(2, a0), (0, x1), (0, x2)] [] I R Q) (h2 : (I (a0 + 1) x2) = x1 → PN X d mX6_lawNamed 20 [(9, 0), (9, 0), (0, x2)] [] I R Q) : PN X d mX6_lawNamed 10 [(2, a0), (0, x1), (0, x2)] [] I R Q := by
  refine P_aload_n (n := 0) (q := 11) rfl rfl (by decide +kernel) ?_
  refine B_getfR (q := 14) fX6_36 k1 (sh6_8 hs k1) rfl (by decide +kernel) ?_
  refine P_iload_n (n := 2) (q := 15) rfl rfl (by decide +kernel) ?_
  refine B_iaload (q := 16) (sq1 k1) (sq1n k1) (by decide) b1 rfl (by decide +kernel) ?_
  refine P_iload_n (n := 1) (q := 17) rfl rfl (by decide +kernel) ?_
  refine B_icmp_ne (off := 5) (t := 22) (q := 20) c1 c2 (by decide) rfl (by decide +kernel) ?_ ?_
  · exact fun g9 => (h1 g9)
  · exact fun g9 => (PW_sub (ls' := [(9, 0), (9, 0), (0, x2)]) ⟨Or.inl rfl, Or.inl rfl, Or.inr rfl, trivial⟩ (h2 g9))
theorem S_X6_lawNamed_20 {X : CX} {d : Nat} {x2 : Int} {I R : PF} {Q : PV → PF → PF → Prop} (h : Q (0, x2) I R) : PN X d mX6_lawNamed 20 [(9, 0), (9, 0), (0, x2)] [] I R Q := by
  refine P_iload_n (n := 2) (q := 21) rfl rfl (by decide +kernel) ?_
  refine P_iret rfl (by decide +kernel) h
theorem S_X6_lawNamed_22 {X : CX} {d : Nat} {a0 x1 x2 : Int} {I R : PF} {Q : PV → PF → PF → Prop} (h : PN X d mX6_lawNamed 2 [(2, a0), (0, x1), (0, (x2 + 1))] [] I R Q) : PN X d mX6_lawNamed 22 [(2, a0), (0, x1), (0, x2)] [] I R Q := by
  refine P_iinc (n := 2) (a := 1) (by decide) rfl (q := 25) rfl (by decide +kernel) ?_
  refine P_goto (off := (-23)) (t := 2) (by decide) (by decide +kernel) ?_
  exact h
theorem S_X6_lawNamed_28 {X : CX} {d : Nat} {I R : PF} {Q : PV → PF → PF → Prop} (h : Q (0, (-1)) I R) : PN X d mX6_lawNamed 28 [] [] I R Q := by
  refine P_iconst (n := (-1)) (q := 29) rfl (by decide +kernel) ?_
  refine P_iret rfl (by decide +kernel) h
theorem S_X6_walled_0 {X : CX} {d d1 : Nat} {a0 x1 x2 : Int} {I R : PF} {Q Q1 : PV → PF → PF → Prop} (e1 : d1 + 1 ≤ d) (hc : CN X d1 mX6_within [(2, a0), (0, x1), (0, x2)] I R Q1) (k1 : kd MF a0 = 6) (h : ∀ z I2 R2, Q1 (0, z) I2 R2 → PN X d mX6_walled 6 [(2, a0), (0, x1), (0, x2)] [(0, z)] I2 R2 Q) : PN X d mX6_walled 0 [(2, a0), (0, x1), (0, x2)] [] I R Q := by
  refine P_aload_n (n := 0) (q := 1) rfl rfl (by decide +kernel) ?_
  refine P_iload_n (n := 1) (q := 2) rfl rfl (by decide +kernel) ?_
  refine P_iload_n (n := 2) (q := 3) rfl rfl (by decide +kernel) ?_
  refine P_invV (As := [(0, x1), (0, x2)]) (q := 6) oX6_within rfl k1 kX6_76 e1 hMF (Nat.le_of_ble_eq_true rfl) hc rfl (by decide +kernel) (fun z I2 R2 hq => ?_)
  exact (h z I2 R2 hq)
theorem S_X6_walled_6 {X : CX} {d : Nat} {a0 x1 x2 o0 : Int} {I R : PF} {Q : PV → PF → PF → Prop} (c1 : -2147483648 ≤ o0 ∧ o0 < 2147483648) (h1 : o0 = 0 → PN X d mX6_walled 27 [] [] I R Q) (h2 : o0 ≠ 0 → PN X d mX6_walled 9 [(2, a0), (0, x1), (0, x2)] [] I R Q) : PN X d mX6_walled 6 [(2, a0), (0, x1), (0, x2)] [(0, o0)] I R Q := by
  refine B_if_eq (off := 21) (t := 27) (q := 9) c1 (by decide) rfl (by decide +kernel) ?_ ?_
  · exact fun g9 => (PW_sub (ls' := []) trivial (h1 g9))
  · exact fun g9 => (h2 g9)
theorem S_X6_walled_9 {X : CX} {d : Nat} {a0 x1 x2 : Int} {I R : PF} {Q : PV → PF → PF → Prop} (hs : Shp R) (k1 : kd MF a0 = 6) (b1 : (0 : Int) ≤ ((9 * x2) + x1) ∧ ((9 * x2) + x1) < 81) (c1 : -2147483648 ≤ (I (a0 + 3) ((9 * x2) + x1)) ∧ (I (a0 + 3) ((9 * x2) + x1)) < 2147483648) (h1 : (I (a0 + 3) ((9 * x2) + x1)) = 0 → PN X d mX6_walled 27 [] [] I R Q) (h2 : (I (a0 + 3) ((9 * x2) + x1)) ≠ 0 → PN X d mX6_walled 23 [] [] I R Q) : PN X d mX6_walled 9 [(2, a0), (0, x1), (0, x2)] [] I R Q := by
  refine P_aload_n (n := 0) (q := 10) rfl rfl (by decide +kernel) ?_
  refine B_getfR (q := 13) fX6_43 k1 (sh6_10 hs k1) rfl (by decide +kernel) ?_
  refine P_bipush (n := 9) (q := 15) rfl rfl (by decide +kernel) ?_
  refine P_iload_n (n := 2) (q := 16) rfl rfl (by decide +kernel) ?_
  refine P_imul (q := 17) rfl (by decide +kernel) ?_
  refine P_iload_n (n := 1) (q := 18) rfl rfl (by decide +kernel) ?_
  refine P_iadd (q := 19) rfl (by decide +kernel) ?_
  refine B_iaload (q := 20) (sq3 k1) (sq3n k1) (by decide) b1 rfl (by decide +kernel) ?_
  refine B_if_eq (off := 7) (t := 27) (q := 23) c1 (by decide) rfl (by decide +kernel) ?_ ?_
  · exact fun g9 => (PW_sub (ls' := []) trivial (h1 g9))
  · exact fun g9 => (PW_sub (ls' := []) trivial (h2 g9))
theorem S_X6_walled_23 {X : CX} {d : Nat} {I R : PF} {Q : PV → PF → PF → Prop} (h : PN X d mX6_walled 28 [] [(0, 1)] I R Q) : PN X d mX6_walled 23 [] [] I R Q := by
  refine P_iconst (n := 1) (q := 24) rfl (by decide +kernel) ?_
  refine P_goto (off := 4) (t := 28) (by decide) (by decide +kernel) ?_
  exact (PW_sub (ls' := []) trivial h)
theorem S_X6_walled_27 {X : CX} {d : Nat} {I R : PF} {Q : PV → PF → PF → Prop} (h : PN X d mX6_walled 28 [] [(0, 0)] I R Q) : PN X d mX6_walled 27 [] [] I R Q := by
  refine P_iconst (n := 0) (q := 28) rfl (by decide +kernel) ?_
  exact (PW_sub (ls' := []) trivial h)
theorem S_X6_walled_28 {X : CX} {d : Nat} {o0 : Int} {I R : PF} {Q : PV → PF → PF → Prop} (z1 : o0 = 0 ∨ o0 = 1) (h : Q (0, o0) I R) : PN X d mX6_walled 28 [] [(0, o0)] I R Q := by
  refine P_zret rfl z1 (by decide +kernel) h
theorem S_X6_within_0 {X : CX} {d : Nat} {a0 x1 x2 : Int} {I R : PF} {Q : PV → PF → PF → Prop} (c1 : -2147483648 ≤ x1 ∧ x1 < 2147483648) (h1 : x1 < 0 → PN X d mX6_within 28 [] [] I R Q) (h2 : 0 ≤ x1 → PN X d mX6_within 4 [(2, a0), (0, x1), (0, x2)] [] I R Q) : PN X d mX6_within 0 [(2, a0), (0, x1), (0, x2)] [] I R Q := by
  refine P_iload_n (n := 1) (q := 1) rfl rfl (by decide +kernel) ?_
  refine B_if_lt (off := 27) (t := 28) (q := 4) c1 (by decide) rfl (by decide +kernel) ?_ ?_
  · exact fun g9 => (PW_sub (ls' := []) trivial (h1 g9))
  · exact fun g9 => (h2 g9)
theorem S_X6_within_4 {X : CX} {d : Nat} {a0 x1 x2 : Int} {I R : PF} {Q : PV → PF → PF → Prop} (k1 : kd MF a0 = 6) (c1 : -2147483648 ≤ x1 ∧ x1 < 2147483648) (c2 : -2147483648 ≤ (I a0 0) ∧ (I a0 0) < 2147483648) (h1 : (I a0 0) ≤ x1 → PN X d mX6_within 28 [] [] I R Q) (h2 : x1 < (I a0 0) → PN X d mX6_within 12 [(2, a0), (9, 0), (0, x2)] [] I R Q) : PN X d mX6_within 4 [(2, a0), (0, x1), (0, x2)] [] I R Q := by
  refine P_iload_n (n := 1) (q := 5) rfl rfl (by decide +kernel) ?_
  refine P_aload_n (n := 0) (q := 6) rfl rfl (by decide +kernel) ?_
  refine P_getf (q := 9) fX6_9 k1 rfl (by decide +kernel) ?_
  refine B_icmp_ge (off := 19) (t := 28) (q := 12) c1 c2 (by decide) rfl (by decide +kernel) ?_ ?_
  · exact fun g9 => (PW_sub (ls' := []) trivial (h1 g9))
  · exact fun g9 => (PW_sub (ls' := [(2, a0), (9, 0), (0, x2)]) ⟨Or.inr rfl, Or.inl rfl, Or.inr rfl, trivial⟩ (h2 g9))
theorem S_X6_within_12 {X : CX} {d : Nat} {a0 x2 : Int} {I R : PF} {Q : PV → PF → PF → Prop} (c1 : -2147483648 ≤ x2 ∧ x2 < 2147483648) (h1 : x2 < 0 → PN X d mX6_within 28 [] [] I R Q) (h2 : 0 ≤ x2 → PN X d mX6_within 16 [(2, a0), (9, 0), (0, x2)] [] I R Q) : PN X d mX6_within 12 [(2, a0), (9, 0), (0, x2)] [] I R Q := by
  refine P_iload_n (n := 2) (q := 13) rfl rfl (by decide +kernel) ?_
  refine B_if_lt (off := 15) (t := 28) (q := 16) c1 (by decide) rfl (by decide +kernel) ?_ ?_
  · exact fun g9 => (PW_sub (ls' := []) trivial (h1 g9))
  · exact fun g9 => (h2 g9)
theorem S_X6_within_16 {X : CX} {d : Nat} {a0 x2 : Int} {I R : PF} {Q : PV → PF → PF → Prop} (k1 : kd MF a0 = 6) (c1 : -2147483648 ≤ x2 ∧ x2 < 2147483648) (c2 : -2147483648 ≤ (I a0 1) ∧ (I a0 1) < 2147483648) (h1 : (I a0 1) ≤ x2 → PN X d mX6_within 28 [] [] I R Q) (h2 : x2 < (I a0 1) → PN X d mX6_within 24 [] [] I R Q) : PN X d mX6_within 16 [(2, a0), (9, 0), (0, x2)] [] I R Q := by
  refine P_iload_n (n := 2) (q := 17) rfl rfl (by decide +kernel) ?_
  refine P_aload_n (n := 0) (q := 18) rfl rfl (by decide +kernel) ?_
  refine P_getf (q := 21) fX6_15 k1 rfl (by decide +kernel) ?_
  refine B_icmp_ge (off := 7) (t := 28) (q := 24) c1 c2 (by decide) rfl (by decide +kernel) ?_ ?_
  · exact fun g9 => (PW_sub (ls' := []) trivial (h1 g9))
  · exact fun g9 => (PW_sub (ls' := []) trivial (h2 g9))
theorem S_X6_within_24 {X : CX} {d : Nat} {I R : PF} {Q : PV → PF → PF → Prop} (h : PN X d mX6_within 29 [] [(0, 1)] I R Q) : PN X d mX6_within 24 [] [] I R Q := by
  refine P_iconst (n := 1) (q := 25) rfl (by decide +kernel) ?_
  refine P_goto (off := 4) (t := 29) (by decide) (by decide +kernel) ?_
  exact (PW_sub (ls' := []) trivial h)
theorem S_X6_within_28 {X : CX} {d : Nat} {I R : PF} {Q : PV → PF → PF → Prop} (h : PN X d mX6_within 29 [] [(0, 0)] I R Q) : PN X d mX6_within 28 [] [] I R Q := by
  refine P_iconst (n := 0) (q := 29) rfl (by decide +kernel) ?_
  exact (PW_sub (ls' := []) trivial h)
theorem S_X6_within_29 {X : CX} {d : Nat} {o0 : Int} {I R : PF} {Q : PV → PF → PF → Prop} (z1 : o0 = 0 ∨ o0 = 1) (h : Q (0, o0) I R) : PN X d mX6_within 29 [] [(0, o0)] I R Q := by
  refine P_zret rfl z1 (by decide +kernel) h
theorem S_X7_read_0 {X : CX} {d d1 : Nat} {x1 a2 t1 : Int} {I R : PF} {Q Q1 : PV → PF → PF → Prop} (r1 : (u2 R 110 2 a2) 110 2 = t1) (e1 : d1 + 1 ≤ d) (hc : CN X d1 mX6_clear [(2, t1)] I (u2 R 110 2 a2) Q1) (k1 : kd MF t1 = 6) (h : ∀ z I2 R2, Q1 (9, z) I2 R2 → PN X d mX7_read 12 [(2, 110), (0, x1)] [] I2 R2 Q) : PN X d mX7_read 0 [(2, 110), (0, x1), (2, a2)] [] I R Q := by
  refine P_aload_n (n := 0) (q := 1) rfl rfl (by decide +kernel) ?_
  refine P_aload_n (n := 2) (q := 2) rfl rfl (by decide +kernel) ?_
  refine P_putR (q := 5) wX7_19 rfl (fun h => by cases h) kM110 rfl (by decide +kernel) ?_
  refine P_aload_n (n := 0) (q := 6) rfl rfl (by decide +kernel) ?_
  refine B_getfR (q := 9) fX7_19 kM110 r1 rfl (by decide +kernel) ?_
  refine P_invV (As := []) (q := 12) oX6_clear rfl k1 kX7_23 e1 hMF (Nat.le_of_ble_eq_true rfl) hc rfl (by decide +kernel) (fun z I2 R2 hq => ?_)
  exact (PW_sub (ls' := [(2, 110), (0, x1)]) ⟨Or.inr rfl, Or.inr rfl, trivial⟩ (h z I2 R2 hq))
theorem S_X7_read_12 {X : CX} {d d1 : Nat} {x1 : Int} {I R : PF} {Q Q1 : PV → PF → PF → Prop} (hs : Shp R) (e1 : d1 + 1 ≤ d) (hc : CN X d1 mX5_start [(2, 67), (0, x1)] I R Q1) (h : ∀ z I2 R2, Q1 (9, z) I2 R2 → PN X d mX7_read 20 [(2, 110)] [] I2 R2 Q) : PN X d mX7_read 12 [(2, 110), (0, x1)] [] I R Q := by
  refine P_aload_n (n := 0) (q := 13) rfl rfl (by decide +kernel) ?_
  refine B_getfR (q := 16) fX7_9 kM110 (rM110_0 hs) rfl (by decide +kernel) ?_
  refine P_iload_n (n := 1) (q := 17) rfl rfl (by decide +kernel) ?_
  refine P_invV (As := [(0, x1)]) (q := 20) oX5_start rfl kM67 kX7_28 e1 hMF (Nat.le_of_ble_eq_true rfl) hc rfl (by decide +kernel) (fun z I2 R2 hq => ?_)
  exact (PW_sub (ls' := [(2, 110)]) ⟨Or.inr rfl, trivial⟩ (h z I2 R2 hq))
theorem S_X7_read_20 {X : CX} {d d1 : Nat} {I R : PF} {Q Q1 : PV → PF → PF → Prop} (e1 : d1 + 1 ≤ d) (hc : CN X d1 mX7_readSquare [(2, 110)] I R Q1) (h : ∀ z I2 R2, Q1 (0, z) I2 R2 → PN X d mX7_read 24 [(2, 110)] [(0, z)] I2 R2 Q) : PN X d mX7_read 20 [(2, 110)] [] I R Q := by
  refine P_aload_n (n := 0) (q := 21) rfl rfl (by decide +kernel) ?_
  refine P_invV (As := []) (q := 24) oX7_readSquare rfl kM110 kX7_34 e1 hMF (Nat.le_of_ble_eq_true rfl) hc rfl (by decide +kernel) (fun z I2 R2 hq => ?_)
  exact (PW_sub (ls' := [(2, 110)]) ⟨Or.inr rfl, trivial⟩ (h z I2 R2 hq))
theorem S_X7_read_24 {X : CX} {d : Nat} {o0 : Int} {I R : PF} {Q : PV → PF → PF → Prop} (c1 : -2147483648 ≤ o0 ∧ o0 < 2147483648) (h1 : o0 ≠ 0 → PN X d mX7_read 29 [(2, 110)] [] I R Q) (h2 : o0 = 0 → PN X d mX7_read 27 [] [] I R Q) : PN X d mX7_read 24 [(2, 110)] [(0, o0)] I R Q := by
  refine B_if_ne (off := 5) (t := 29) (q := 27) c1 (by decide) rfl (by decide +kernel) ?_ ?_
  · exact fun g9 => (PW_sub (ls' := [(2, 110)]) ⟨Or.inr rfl, trivial⟩ (h1 g9))
  · exact fun g9 => (PW_sub (ls' := []) trivial (h2 g9))
theorem S_X7_read_27 {X : CX} {d : Nat} {I R : PF} {Q : PV → PF → PF → Prop} (h : Q (0, (-1)) I R) : PN X d mX7_read 27 [] [] I R Q := by
  refine P_iconst (n := (-1)) (q := 28) rfl (by decide +kernel) ?_
  refine P_iret rfl (by decide +kernel) h
theorem S_X7_read_29 {X : CX} {d : Nat} {I R : PF} {Q : PV → PF → PF → Prop} (h : PN X d mX7_read 34 [(2, 110), (9, 0), (9, 0), (0, 1), (0, 1)] [] I R Q) : PN X d mX7_read 29 [(2, 110)] [] I R Q := by
  refine P_iconst (n := 1) (q := 30) rfl (by decide +kernel) ?_
  refine P_istore_n (n := 3) (by decide) (q := 31) rfl (by decide +kernel) ?_
  refine P_iconst (n := 1) (q := 32) rfl (by decide +kernel) ?_
  refine P_istore (n := 4) (by decide) (q := 34) rfl (by decide +kernel) ?_
  exact h
theorem S_X7_read_34 {X : CX} {d : Nat} {x3 x4 : Int} {I R : PF} {Q : PV → PF → PF → Prop} (c1 : -2147483648 ≤ x4 ∧ x4 < 2147483648) (h1 : 60 ≤ x4 → PN X d mX7_read 69 [(2, 110), (9, 0), (9, 0), (0, x3)] [] I R Q) (h2 : x4 < 60 → PN X d mX7_read 41 [(2, 110), (9, 0), (9, 0), (0, x3), (0, x4)] [] I R Q) : PN X d mX7_read 34 [(2, 110), (9, 0), (9, 0), (0, x3), (0, x4)] [] I R Q := by
  refine P_iload (n := 4) (q := 36) rfl rfl (by decide +kernel) ?_
  refine P_bipush (n := 60) (q := 38) rfl rfl (by decide +kernel) ?_
  refine B_icmp_ge (off := 31) (t := 69) (q := 41) c1 ⟨by decide, by decide⟩ (by decide) rfl (by decide +kernel) ?_ ?_
  · exact fun g9 => (PW_sub (ls' := [(2, 110), (9, 0), (9, 0), (0, x3)]) ⟨Or.inr rfl, Or.inl rfl, Or.inl rfl, Or.inr rfl, trivial⟩ (h1 g9))
  · exact fun g9 => (h2 g9)
theorem S_X7_read_41 {X : CX} {d d1 : Nat} {x3 x4 : Int} {I R : PF} {Q Q1 : PV → PF → PF → Prop} (hs : Shp R) (e1 : d1 + 1 ≤ d) (hc : CN X d1 mX5_isAtEnd [(2, 67)] I R Q1) (h : ∀ z I2 R2, Q1 (0, z) I2 R2 → PN X d mX7_read 48 [(2, 110), (9, 0), (9, 0), (0, x3), (0, x4)] [(0, z)] I2 R2 Q) : PN X d mX7_read 41 [(2, 110), (9, 0), (9, 0), (0, x3), (0, x4)] [] I R Q := by
  refine P_aload_n (n := 0) (q := 42) rfl rfl (by decide +kernel) ?_
  refine B_getfR (q := 45) fX7_9 kM110 (rM110_0 hs) rfl (by decide +kernel) ?_
  refine P_invV (As := []) (q := 48) oX5_isAtEnd rfl kM67 kX7_38 e1 hMF (Nat.le_of_ble_eq_true rfl) hc rfl (by decide +kernel) (fun z I2 R2 hq => ?_)
  exact (h z I2 R2 hq)
theorem S_X7_read_48 {X : CX} {d : Nat} {x3 x4 o0 : Int} {I R : PF} {Q : PV → PF → PF → Prop} (c1 : -2147483648 ≤ o0 ∧ o0 < 2147483648) (h1 : o0 ≠ 0 → PN X d mX7_read 69 [(2, 110), (9, 0), (9, 0), (0, x3)] [] I R Q) (h2 : o0 = 0 → PN X d mX7_read 51 [(2, 110), (9, 0), (9, 0), (0, x3), (0, x4)] [] I R Q) : PN X d mX7_read 48 [(2, 110), (9, 0), (9, 0), (0, x3), (0, x4)] [(0, o0)] I R Q := by
  refine B_if_ne (off := 21) (t := 69) (q := 51) c1 (by decide) rfl (by decide +kernel) ?_ ?_
  · exact fun g9 => (PW_sub (ls' := [(2, 110), (9, 0), (9, 0), (0, x3)]) ⟨Or.inr rfl, Or.inl rfl, Or.inl rfl, Or.inr rfl, trivial⟩ (h1 g9))
  · exact fun g9 => (h2 g9)
theorem S_X7_read_51 {X : CX} {d d1 : Nat} {x3 x4 : Int} {I R : PF} {Q Q1 : PV → PF → PF → Prop} (e1 : d1 + 1 ≤ d) (hc : CN X d1 mX7_readStatement [(2, 110)] I R Q1) (h : ∀ z I2 R2, Q1 (0, z) I2 R2 → PN X d mX7_read 55 [(2, 110), (9, 0), (9, 0), (0, x3), (0, x4)] [(0, z)] I2 R2 Q) : PN X d mX7_read 51 [(2, 110), (9, 0), (9, 0), (0, x3), (0, x4)] [] I R Q := by
  refine P_aload_n (n := 0) (q := 52) rfl rfl (by decide +kernel) ?_
  refine P_invV (As := []) (q := 55) oX7_readStatement rfl kM110 kX7_41 e1 hMF (Nat.le_of_ble_eq_true rfl) hc rfl (by decide +kernel) (fun z I2 R2 hq => ?_)
  exact (h z I2 R2 hq)
theorem S_X7_read_55 {X : CX} {d : Nat} {x3 x4 o0 : Int} {I R : PF} {Q : PV → PF → PF → Prop} (c1 : -2147483648 ≤ o0 ∧ o0 < 2147483648) (h1 : o0 ≠ 0 → PN X d mX7_read 60 [(2, 110), (9, 0), (9, 0), (0, x3), (0, x4)] [] I R Q) (h2 : o0 = 0 → PN X d mX7_read 58 [] [] I R Q) : PN X d mX7_read 55 [(2, 110), (9, 0), (9, 0), (0, x3), (0, x4)] [(0, o0)] I R Q := by
  refine B_if_ne (off := 5) (t := 60) (q := 58) c1 (by decide) rfl (by decide +kernel) ?_ ?_
  · exact fun g9 => (h1 g9)
  · exact fun g9 => (PW_sub (ls' := []) trivial (h2 g9))
theorem S_X7_read_58 {X : CX} {d : Nat} {I R : PF} {Q : PV → PF → PF → Prop} (h : Q (0, (-1)) I R) : PN X d mX7_read 58 [] [] I R Q := by
  refine P_iconst (n := (-1)) (q := 59) rfl (by decide +kernel) ?_
  refine P_iret rfl (by decide +kernel) h
theorem S_X7_read_60 {X : CX} {d : Nat} {x3 x4 : Int} {I R : PF} {Q : PV → PF → PF → Prop} (h : PN X d mX7_read 34 [(2, 110), (9, 0), (9, 0), (0, (x3 + 1)), (0, (x4 + 1))] [] I R Q) : PN X d mX7_read 60 [(2, 110), (9, 0), (9, 0), (0, x3), (0, x4)] [] I R Q := by
  refine P_iinc (n := 3) (a := 1) (by decide) rfl (q := 63) rfl (by decide +kernel) ?_
  refine P_iinc (n := 4) (a := 1) (by decide) rfl (q := 66) rfl (by decide +kernel) ?_
  refine P_goto (off := (-32)) (t := 34) (by decide) (by decide +kernel) ?_
  exact h
theorem S_X7_read_69 {X : CX} {d d1 : Nat} {x3 : Int} {I R : PF} {Q Q1 : PV → PF → PF → Prop} (hs : Shp R) (e1 : d1 + 1 ≤ d) (hc : CN X d1 mX5_isAtEnd [(2, 67)] I R Q1) (h : ∀ z I2 R2, Q1 (0, z) I2 R2 → PN X d mX7_read 76 [(2, 110), (9, 0), (9, 0), (0, x3)] [(0, z)] I2 R2 Q) : PN X d mX7_read 69 [(2, 110), (9, 0), (9, 0), (0, x3)] [] I R Q := by
  refine P_aload_n (n := 0) (q := 70) rfl rfl (by decide +kernel) ?_
  refine B_getfR (q := 73) fX7_9 kM110 (rM110_0 hs) rfl (by decide +kernel) ?_
  refine P_invV (As := []) (q := 76) oX5_isAtEnd rfl kM67 kX7_38 e1 hMF (Nat.le_of_ble_eq_true rfl) hc rfl (by decide +kernel) (fun z I2 R2 hq => ?_)
  exact (PW_sub (ls' := [(2, 110), (9, 0), (9, 0), (0, x3)]) ⟨Or.inr rfl, Or.inl rfl, Or.inl rfl, Or.inr rfl, trivial⟩ (h z I2 R2 hq))
theorem S_X7_read_76 {X : CX} {d : Nat} {x3 o0 : Int} {I R : PF} {Q : PV → PF → PF → Prop} (c1 : -2147483648 ≤ o0 ∧ o0 < 2147483648) (h1 : o0 ≠ 0 → PN X d mX7_read 97 [(2, 110), (9, 0), (9, 0), (0, x3)] [] I R Q) (h2 : o0 = 0 → PN X d mX7_read 79 [(2, 110)] [] I R Q) : PN X d mX7_read 76 [(2, 110), (9, 0), (9, 0), (0, x3)] [(0, o0)] I R Q := by
  refine B_if_ne (off := 21) (t := 97) (q := 79) c1 (by decide) rfl (by decide +kernel) ?_ ?_
  · exact fun g9 => (PW_sub (ls' := [(2, 110), (9, 0), (9, 0), (0, x3)]) ⟨Or.inr rfl, Or.inl rfl, Or.inl rfl, Or.inr rfl, trivial⟩ (h1 g9))
  · exact fun g9 => (PW_sub (ls' := [(2, 110)]) ⟨Or.inr rfl, trivial⟩ (h2 g9))
theorem S_X7_read_79 {X : CX} {d d1 : Nat} {I R : PF} {Q Q1 : PV → PF → PF → Prop} (hs : Shp R) (e1 : d1 + 1 ≤ d) (hc : CN X d1 mX5_refuse [(2, 67), (0, 5), (0, (I 67 3))] I R Q1) (h : ∀ z I2 R2, Q1 (0, z) I2 R2 → PN X d mX7_read 94 [] [(0, z)] I2 R2 Q) : PN X d mX7_read 79 [(2, 110)] [] I R Q := by
  refine P_aload_n (n := 0) (q := 80) rfl rfl (by decide +kernel) ?_
  refine B_getfR (q := 83) fX7_9 kM110 (rM110_0 hs) rfl (by decide +kernel) ?_
  refine P_iconst (n := 5) (q := 84) rfl (by decide +kernel) ?_
  refine P_aload_n (n := 0) (q := 85) rfl rfl (by decide +kernel) ?_
  refine B_getfR (q := 88) fX7_9 kM110 (rM110_0 hs) rfl (by decide +kernel) ?_
  refine P_getf (q := 91) fX7_44 kM67 rfl (by decide +kernel) ?_
  refine P_invV (As := [(0, 5), (0, (I 67 3))]) (q := 94) oX5_refuse rfl kM67 kX7_48 e1 hMF (Nat.le_of_ble_eq_true rfl) hc rfl (by decide +kernel) (fun z I2 R2 hq => ?_)
  exact (PW_sub (ls' := []) trivial (h z I2 R2 hq))
theorem S_X7_read_94 {X : CX} {d : Nat} {o0 : Int} {I R : PF} {Q : PV → PF → PF → Prop} (h : Q (0, (-1)) I R) : PN X d mX7_read 94 [] [(0, o0)] I R Q := by
  refine P_pop (q := 95) (Nat.ne_of_beq_eq_false rfl) rfl (by decide +kernel) ?_
  refine P_iconst (n := (-1)) (q := 96) rfl (by decide +kernel) ?_
  refine P_iret rfl (by decide +kernel) h
theorem S_X7_read_97 {X : CX} {d d1 : Nat} {x3 t1 : Int} {I R : PF} {Q Q1 : PV → PF → PF → Prop} (r1 : R 110 2 = t1) (e1 : d1 + 1 ≤ d) (hc : CN X d1 mX6_aim [(2, t1)] I R Q1) (k1 : kd MF t1 = 6) (h : ∀ z I2 R2, Q1 (9, z) I2 R2 → PN X d mX7_read 104 [(9, 0), (9, 0), (9, 0), (0, x3)] [] I2 R2 Q) : PN X d mX7_read 97 [(2, 110), (9, 0), (9, 0), (0, x3)] [] I R Q := by
  refine P_aload_n (n := 0) (q := 98) rfl rfl (by decide +kernel) ?_
  refine B_getfR (q := 101) fX7_19 kM110 r1 rfl (by decide +kernel) ?_
  refine P_invV (As := []) (q := 104) oX6_aim rfl k1 kX7_52 e1 hMF (Nat.le_of_ble_eq_true rfl) hc rfl (by decide +kernel) (fun z I2 R2 hq => ?_)
  exact (PW_sub (ls' := [(9, 0), (9, 0), (9, 0), (0, x3)]) ⟨Or.inl rfl, Or.inl rfl, Or.inl rfl, Or.inr rfl, trivial⟩ (h z I2 R2 hq))
theorem S_X7_read_104 {X : CX} {d : Nat} {x3 : Int} {I R : PF} {Q : PV → PF → PF → Prop} (h : Q (0, x3) I R) : PN X d mX7_read 104 [(9, 0), (9, 0), (9, 0), (0, x3)] [] I R Q := by
  refine P_iload_n (n := 3) (q := 105) rfl rfl (by decide +kernel) ?_
  refine P_iret rfl (by decide +kernel) h
theorem S_X7_readGust_0 {X : CX} {d d1 : Nat} {I R : PF} {Q Q1 : PV → PF → PF → Prop} (hs : Shp R) (e1 : d1 + 1 ≤ d) (hc : CN X d1 mX5_advance [(2, 67)] I R Q1) (h : ∀ z I2 R2, Q1 (9, z) I2 R2 → PN X d mX7_readGust 7 [(2, 110)] [] I2 R2 Q) : PN X d mX7_readGust 0 [(2, 110)] [] I R Q := by
  refine P_aload_n (n := 0) (q := 1) rfl rfl (by decide +kernel) ?_
  refine B_getfR (q := 4) fX7_9 kM110 (rM110_0 hs) rfl (by decide +kernel) ?_
  refine P_invV (As := []) (q := 7) oX5_advance rfl kM67 kX7_150 e1 hMF (Nat.le_of_ble_eq_true rfl) hc rfl (by decide +kernel) (fun z I2 R2 hq => ?_)
  exact (h z I2 R2 hq)
theorem S_X7_readGust_7 {X : CX} {d d1 : Nat} {t1 : Int} {I R : PF} {Q Q1 : PV → PF → PF → Prop} (hs : Shp R) (r1 : R 110 2 = t1) (e1 : d1 + 1 ≤ d) (hc : CN X d1 mX5_takeNumber [(2, 67), (0, 0), (0, 100)] I R Q1) (h : ∀ z I2 R2, Q1 (0, z) I2 R2 → PN X d mX7_readGust 21 [(2, 110)] [(0, z), (2, t1)] I2 R2 Q) : PN X d mX7_readGust 7 [(2, 110)] [] I R Q := by
  refine P_aload_n (n := 0) (q := 8) rfl rfl (by decide +kernel) ?_
  refine B_getfR (q := 11) fX7_19 kM110 r1 rfl (by decide +kernel) ?_
  refine P_aload_n (n := 0) (q := 12) rfl rfl (by decide +kernel) ?_
  refine B_getfR (q := 15) fX7_9 kM110 (rM110_0 hs) rfl (by decide +kernel) ?_
  refine P_iconst (n := 0) (q := 16) rfl (by decide +kernel) ?_
  refine P_bipush (n := 100) (q := 18) rfl rfl (by decide +kernel) ?_
  refine P_invV (As := [(0, 0), (0, 100)]) (q := 21) oX5_takeNumber rfl kM67 kX7_65 e1 hMF (Nat.le_of_ble_eq_true rfl) hc rfl (by decide +kernel) (fun z I2 R2 hq => ?_)
  exact (h z I2 R2 hq)
theorem S_X7_readGust_21 {X : CX} {d : Nat} {s0 o1 t1 : Int} {I R : PF} {Q : PV → PF → PF → Prop} (k1 : kd MF s0 = 6) (r1 : R 110 2 = t1) (k2 : kd MF t1 = 6) (c1 : -2147483648 ≤ ((u2 I s0 7 o1) t1 7) ∧ ((u2 I s0 7 o1) t1 7) < 2147483648) (h1 : ((u2 I s0 7 o1) t1 7) = (-1) → PN X d mX7_readGust 39 [] [] (u2 I s0 7 o1) R Q) (h2 : ((u2 I s0 7 o1) t1 7) ≠ (-1) → PN X d mX7_readGust 35 [] [] (u2 I s0 7 o1) R Q) : PN X d mX7_readGust 21 [(2, 110)] [(0, o1), (2, s0)] I R Q := by
  refine P_putI (q := 24) wX7_244 (fun h => by cases h) k1 rfl (by decide +kernel) ?_
  refine P_aload_n (n := 0) (q := 25) rfl rfl (by decide +kernel) ?_
  refine B_getfR (q := 28) fX7_19 kM110 r1 rfl (by decide +kernel) ?_
  refine P_getf (q := 31) fX7_244 k2 rfl (by decide +kernel) ?_
  refine P_iconst (n := (-1)) (q := 32) rfl (by decide +kernel) ?_
  refine B_icmp_eq (off := 7) (t := 39) (q := 35) c1 ⟨by decide, by decide⟩ (by decide) rfl (by decide +kernel) ?_ ?_
  · exact fun g9 => (PW_sub (ls' := []) trivial (h1 g9))
  · exact fun g9 => (PW_sub (ls' := []) trivial (h2 g9))
theorem S_X7_readGust_35 {X : CX} {d : Nat} {I R : PF} {Q : PV → PF → PF → Prop} (h : PN X d mX7_readGust 40 [] [(0, 1)] I R Q) : PN X d mX7_readGust 35 [] [] I R Q := by
  refine P_iconst (n := 1) (q := 36) rfl (by decide +kernel) ?_
  refine P_goto (off := 4) (t := 40) (by decide) (by decide +kernel) ?_
  exact (PW_sub (ls' := []) trivial h)
theorem S_X7_readGust_39 {X : CX} {d : Nat} {I R : PF} {Q : PV → PF → PF → Prop} (h : PN X d mX7_readGust 40 [] [(0, 0)] I R Q) : PN X d mX7_readGust 39 [] [] I R Q := by
  refine P_iconst (n := 0) (q := 40) rfl (by decide +kernel) ?_
  exact (PW_sub (ls' := []) trivial h)
theorem S_X7_readGust_40 {X : CX} {d : Nat} {o0 : Int} {I R : PF} {Q : PV → PF → PF → Prop} (z1 : o0 = 0 ∨ o0 = 1) (h : Q (0, o0) I R) : PN X d mX7_readGust 40 [] [(0, o0)] I R Q := by
  refine P_zret rfl z1 (by decide +kernel) h
theorem S_X7_readLaw_0 {X : CX} {d d1 : Nat} {t1 : Int} {I R : PF} {Q Q1 : PV → PF → PF → Prop} (r1 : R 110 2 = t1) (k1 : kd MF t1 = 6) (e1 : d1 + 1 ≤ d) (hc : CN X d1 mX7_takeKind [(2, 110), (0, (I t1 5)), (0, 6)] I R Q1) (h : ∀ z I2 R2, Q1 (0, z) I2 R2 → PN X d mX7_readLaw 13 [(2, 110)] [(0, z)] I2 R2 Q) : PN X d mX7_readLaw 0 [(2, 110)] [] I R Q := by
  refine P_aload_n (n := 0) (q := 1) rfl rfl (by decide +kernel) ?_
  refine P_aload_n (n := 0) (q := 2) rfl rfl (by decide +kernel) ?_
  refine B_getfR (q := 5) fX7_19 kM110 r1 rfl (by decide +kernel) ?_
  refine P_getf (q := 8) fX7_161 k1 rfl (by decide +kernel) ?_
  refine P_bipush (n := 6) (q := 10) rfl rfl (by decide +kernel) ?_
  refine P_invV (As := [(0, (I t1 5)), (0, 6)]) (q := 13) oX7_takeKind rfl kM110 kX7_158 e1 hMF (Nat.le_of_ble_eq_true rfl) hc rfl (by decide +kernel) (fun z I2 R2 hq => ?_)
  exact (h z I2 R2 hq)
theorem S_X7_readLaw_13 {X : CX} {d : Nat} {o0 : Int} {I R : PF} {Q : PV → PF → PF → Prop} (c1 : -2147483648 ≤ o0 ∧ o0 < 2147483648) (h1 : o0 ≠ 0 → PN X d mX7_readLaw 18 [(2, 110)] [] I R Q) (h2 : o0 = 0 → PN X d mX7_readLaw 16 [] [] I R Q) : PN X d mX7_readLaw 13 [(2, 110)] [(0, o0)] I R Q := by
  refine B_if_ne (off := 5) (t := 18) (q := 16) c1 (by decide) rfl (by decide +kernel) ?_ ?_
  · exact fun g9 => (h1 g9)
  · exact fun g9 => (PW_sub (ls' := []) trivial (h2 g9))
theorem S_X7_readLaw_16 {X : CX} {d : Nat} {I R : PF} {Q : PV → PF → PF → Prop} (h : Q (0, 0) I R) : PN X d mX7_readLaw 16 [] [] I R Q := by
  refine P_iconst (n := 0) (q := 17) rfl (by decide +kernel) ?_
  refine P_zret rfl (Or.inl rfl) (by decide +kernel) h
theorem S_X7_readLaw_18 {X : CX} {d d1 : Nat} {I R : PF} {Q Q1 : PV → PF → PF → Prop} (e1 : d1 + 1 ≤ d) (hc : CN X d1 mX7_takeNewName [(2, 110)] I R Q1) (h : ∀ z I2 R2, Q1 (0, z) I2 R2 → PN X d mX7_readLaw 22 [(2, 110)] [(0, z)] I2 R2 Q) : PN X d mX7_readLaw 18 [(2, 110)] [] I R Q := by
  refine P_aload_n (n := 0) (q := 19) rfl rfl (by decide +kernel) ?_
  refine P_invV (As := []) (q := 22) oX7_takeNewName rfl kM110 kX7_164 e1 hMF (Nat.le_of_ble_eq_true rfl) hc rfl (by decide +kernel) (fun z I2 R2 hq => ?_)
  exact (h z I2 R2 hq)
theorem S_X7_readLaw_22 {X : CX} {d : Nat} {o0 : Int} {I R : PF} {Q : PV → PF → PF → Prop} (c1 : -2147483648 ≤ o0 ∧ o0 < 2147483648) (h1 : o0 ≠ (-1) → PN X d mX7_readLaw 30 [(2, 110), (0, o0)] [] I R Q) (h2 : o0 = (-1) → PN X d mX7_readLaw 28 [] [] I R Q) : PN X d mX7_readLaw 22 [(2, 110)] [(0, o0)] I R Q := by
  refine P_istore_n (n := 1) (by decide) (q := 23) rfl (by decide +kernel) ?_
  refine P_iload_n (n := 1) (q := 24) rfl rfl (by decide +kernel) ?_
  refine P_iconst (n := (-1)) (q := 25) rfl (by decide +kernel) ?_
  refine B_icmp_ne (off := 5) (t := 30) (q := 28) c1 ⟨by decide, by decide⟩ (by decide) rfl (by decide +kernel) ?_ ?_
  · exact fun g9 => (h1 g9)
  · exact fun g9 => (PW_sub (ls' := []) trivial (h2 g9))
theorem S_X7_readLaw_28 {X : CX} {d : Nat} {I R : PF} {Q : PV → PF → PF → Prop} (h : Q (0, 0) I R) : PN X d mX7_readLaw 28 [] [] I R Q := by
  refine P_iconst (n := 0) (q := 29) rfl (by decide +kernel) ?_
  refine P_zret rfl (Or.inl rfl) (by decide +kernel) h
theorem S_X7_readLaw_30 {X : CX} {d : Nat} {x1 t1 : Int} {I R : PF} {Q : PV → PF → PF → Prop} (hs : Shp R) (r1 : R 110 2 = t1) (k1 : kd MF t1 = 6) (b1 : (0 : Int) ≤ (I t1 5) ∧ (I t1 5) < 6) (h : Q (0, 1) (u2 (u2 I (t1 + 1) (I t1 5) x1) t1 5 (((u2 I (t1 + 1) (I t1 5) x1) t1 5) + 1)) R) : PN X d mX7_readLaw 30 [(2, 110), (0, x1)] [] I R Q := by
  refine P_aload_n (n := 0) (q := 31) rfl rfl (by decide +kernel) ?_
  refine B_getfR (q := 34) fX7_19 kM110 r1 rfl (by decide +kernel) ?_
  refine B_getfR (q := 37) fX7_168 k1 (sh6_8 hs k1) rfl (by decide +kernel) ?_
  refine P_aload_n (n := 0) (q := 38) rfl rfl (by decide +kernel) ?_
  refine B_getfR (q := 41) fX7_19 kM110 r1 rfl (by decide +kernel) ?_
  refine P_getf (q := 44) fX7_161 k1 rfl (by decide +kernel) ?_
  refine P_iload_n (n := 1) (q := 45) rfl rfl (by decide +kernel) ?_
  refine B_iastore (q := 46) (sq1 k1) (sq1n k1) (by decide) b1 rfl (by decide +kernel) ?_
  refine P_aload_n (n := 0) (q := 47) rfl rfl (by decide +kernel) ?_
  refine B_getfR (q := 50) fX7_19 kM110 r1 rfl (by decide +kernel) ?_
  refine P_dup (q := 51) (Nat.ne_of_beq_eq_false rfl) rfl (by decide +kernel) ?_
  refine P_getf (q := 54) fX7_161 k1 rfl (by decide +kernel) ?_
  refine P_iconst (n := 1) (q := 55) rfl (by decide +kernel) ?_
  refine P_iadd (q := 56) rfl (by decide +kernel) ?_
  refine P_putI (q := 59) wX7_161 (fun h => by cases h) k1 rfl (by decide +kernel) ?_
  refine P_iconst (n := 1) (q := 60) rfl (by decide +kernel) ?_
  refine P_zret rfl (Or.inr rfl) (by decide +kernel) h
theorem S_X7_readPerson_0 {X : CX} {d d1 : Nat} {t1 : Int} {I R : PF} {Q Q1 : PV → PF → PF → Prop} (hs : Shp R) (r1 : R 110 2 = t1) (k1 : kd MF t1 = 6) (e1 : d1 + 1 ≤ d) (hc : CN X d1 mX7_takeKind [(2, 110), (0, (I (t1 + 11) 3)), (0, 6)] I R Q1) (h : ∀ z I2 R2, Q1 (0, z) I2 R2 → PN X d mX7_readPerson 16 [(2, 110)] [(0, z)] I2 R2 Q) : PN X d mX7_readPerson 0 [(2, 110)] [] I R Q := by
  refine P_aload_n (n := 0) (q := 1) rfl rfl (by decide +kernel) ?_
  refine P_aload_n (n := 0) (q := 2) rfl rfl (by decide +kernel) ?_
  refine B_getfR (q := 5) fX7_19 kM110 r1 rfl (by decide +kernel) ?_
  refine B_getfR (q := 8) fX7_181 k1 (sh6_14 hs k1) rfl (by decide +kernel) ?_
  refine P_getf (q := 11) fX7_184 (sq11 k1) rfl (by decide +kernel) ?_
  refine P_bipush (n := 6) (q := 13) rfl rfl (by decide +kernel) ?_
  refine P_invV (As := [(0, (I (t1 + 11) 3)), (0, 6)]) (q := 16) oX7_takeKind rfl kM110 kX7_158 e1 hMF (Nat.le_of_ble_eq_true rfl) hc rfl (by decide +kernel) (fun z I2 R2 hq => ?_)
  exact (h z I2 R2 hq)
theorem S_X7_readPerson_16 {X : CX} {d : Nat} {o0 : Int} {I R : PF} {Q : PV → PF → PF → Prop} (c1 : -2147483648 ≤ o0 ∧ o0 < 2147483648) (h1 : o0 ≠ 0 → PN X d mX7_readPerson 21 [(2, 110)] [] I R Q) (h2 : o0 = 0 → PN X d mX7_readPerson 19 [] [] I R Q) : PN X d mX7_readPerson 16 [(2, 110)] [(0, o0)] I R Q := by
  refine B_if_ne (off := 5) (t := 21) (q := 19) c1 (by decide) rfl (by decide +kernel) ?_ ?_
  · exact fun g9 => (h1 g9)
  · exact fun g9 => (PW_sub (ls' := []) trivial (h2 g9))
theorem S_X7_readPerson_19 {X : CX} {d : Nat} {I R : PF} {Q : PV → PF → PF → Prop} (h : Q (0, 0) I R) : PN X d mX7_readPerson 19 [] [] I R Q := by
  refine P_iconst (n := 0) (q := 20) rfl (by decide +kernel) ?_
  refine P_zret rfl (Or.inl rfl) (by decide +kernel) h
theorem S_X7_readPerson_21 {X : CX} {d d1 : Nat} {I R : PF} {Q Q1 : PV → PF → PF → Prop} (e1 : d1 + 1 ≤ d) (hc : CN X d1 mX7_takeNewName [(2, 110)] I R Q1) (h : ∀ z I2 R2, Q1 (0, z) I2 R2 → PN X d mX7_readPerson 25 [(2, 110)] [(0, z)] I2 R2 Q) : PN X d mX7_readPerson 21 [(2, 110)] [] I R Q := by
  refine P_aload_n (n := 0) (q := 22) rfl rfl (by decide +kernel) ?_
  refine P_invV (As := []) (q := 25) oX7_takeNewName rfl kM110 kX7_164 e1 hMF (Nat.le_of_ble_eq_true rfl) hc rfl (by decide +kernel) (fun z I2 R2 hq => ?_)
  exact (h z I2 R2 hq)
theorem S_X7_readPerson_25 {X : CX} {d : Nat} {o0 : Int} {I R : PF} {Q : PV → PF → PF → Prop} (c1 : -2147483648 ≤ o0 ∧ o0 < 2147483648) (h1 : o0 = (-1) → PN X d mX7_readPerson 44 [] [] I R Q) (h2 : o0 ≠ (-1) → PN X d mX7_readPerson 31 [(2, 110), (0, o0)] [] I R Q) : PN X d mX7_readPerson 25 [(2, 110)] [(0, o0)] I R Q := by
  refine P_istore_n (n := 1) (by decide) (q := 26) rfl (by decide +kernel) ?_
  refine P_iload_n (n := 1) (q := 27) rfl rfl (by decide +kernel) ?_
  refine P_iconst (n := (-1)) (q := 28) rfl (by decide +kernel) ?_
  refine B_icmp_eq (off := 16) (t := 44) (q := 31) c1 ⟨by decide, by decide⟩ (by decide) rfl (by decide +kernel) ?_ ?_
  · exact fun g9 => (PW_sub (ls' := []) trivial (h1 g9))
  · exact fun g9 => (h2 g9)
theorem S_X7_readPerson_31 {X : CX} {d d1 : Nat} {x1 : Int} {I R : PF} {Q Q1 : PV → PF → PF → Prop} (hs : Shp R) (e1 : d1 + 1 ≤ d) (hc : CN X d1 mX5_takeWord [(2, 67), (2, 8)] I R Q1) (h : ∀ z I2 R2, Q1 (0, z) I2 R2 → PN X d mX7_readPerson 41 [(2, 110), (0, x1)] [(0, z)] I2 R2 Q) : PN X d mX7_readPerson 31 [(2, 110), (0, x1)] [] I R Q := by
  refine P_aload_n (n := 0) (q := 32) rfl rfl (by decide +kernel) ?_
  refine B_getfR (q := 35) fX7_9 kM110 (rM110_0 hs) rfl (by decide +kernel) ?_
  refine P_gets (o := 8) (q := 38) (fun _ _ h => zW (i := 7) (by decide) h) ⟨by decide, by decide⟩ gX7_189 rfl (by decide +kernel) ?_
  refine P_invV (As := [(2, 8)]) (q := 41) oX5_takeWord rfl kM67 kX7_61 e1 hMF (Nat.le_of_ble_eq_true rfl) hc rfl (by decide +kernel) (fun z I2 R2 hq => ?_)
  exact (h z I2 R2 hq)
theorem S_X7_readPerson_41 {X : CX} {d : Nat} {x1 o0 : Int} {I R : PF} {Q : PV → PF → PF → Prop} (c1 : -2147483648 ≤ o0 ∧ o0 < 2147483648) (h1 : o0 ≠ 0 → PN X d mX7_readPerson 46 [(2, 110), (0, x1)] [] I R Q) (h2 : o0 = 0 → PN X d mX7_readPerson 44 [] [] I R Q) : PN X d mX7_readPerson 41 [(2, 110), (0, x1)] [(0, o0)] I R Q := by
  refine B_if_ne (off := 5) (t := 46) (q := 44) c1 (by decide) rfl (by decide +kernel) ?_ ?_
  · exact fun g9 => (h1 g9)
  · exact fun g9 => (PW_sub (ls' := []) trivial (h2 g9))
theorem S_X7_readPerson_44 {X : CX} {d : Nat} {I R : PF} {Q : PV → PF → PF → Prop} (h : Q (0, 0) I R) : PN X d mX7_readPerson 44 [] [] I R Q := by
  refine P_iconst (n := 0) (q := 45) rfl (by decide +kernel) ?_
  refine P_zret rfl (Or.inl rfl) (by decide +kernel) h
theorem S_X7_readPerson_46 {X : CX} {d d1 : Nat} {x1 : Int} {I R : PF} {Q Q1 : PV → PF → PF → Prop} (e1 : d1 + 1 ≤ d) (hc : CN X d1 mX7_takePlace [(2, 110), (0, 0)] I R Q1) (h : ∀ z I2 R2, Q1 (0, z) I2 R2 → PN X d mX7_readPerson 51 [(2, 110), (0, x1)] [(0, z)] I2 R2 Q) : PN X d mX7_readPerson 46 [(2, 110), (0, x1)] [] I R Q := by
  refine P_aload_n (n := 0) (q := 47) rfl rfl (by decide +kernel) ?_
  refine P_iconst (n := 0) (q := 48) rfl (by decide +kernel) ?_
  refine P_invV (As := [(0, 0)]) (q := 51) oX7_takePlace rfl kM110 kX7_192 e1 hMF (Nat.le_of_ble_eq_true rfl) hc rfl (by decide +kernel) (fun z I2 R2 hq => ?_)
  exact (h z I2 R2 hq)
theorem S_X7_readPerson_51 {X : CX} {d : Nat} {x1 o0 : Int} {I R : PF} {Q : PV → PF → PF → Prop} (c1 : -2147483648 ≤ o0 ∧ o0 < 2147483648) (h1 : o0 = (-1) → PN X d mX7_readPerson 70 [] [] I R Q) (h2 : o0 ≠ (-1) → PN X d mX7_readPerson 57 [(2, 110), (0, x1), (0, o0)] [] I R Q) : PN X d mX7_readPerson 51 [(2, 110), (0, x1)] [(0, o0)] I R Q := by
  refine P_istore_n (n := 2) (by decide) (q := 52) rfl (by decide +kernel) ?_
  refine P_iload_n (n := 2) (q := 53) rfl rfl (by decide +kernel) ?_
  refine P_iconst (n := (-1)) (q := 54) rfl (by decide +kernel) ?_
  refine B_icmp_eq (off := 16) (t := 70) (q := 57) c1 ⟨by decide, by decide⟩ (by decide) rfl (by decide +kernel) ?_ ?_
  · exact fun g9 => (PW_sub (ls' := []) trivial (h1 g9))
  · exact fun g9 => (h2 g9)
theorem S_X7_readPerson_57 {X : CX} {d d1 : Nat} {x1 x2 : Int} {I R : PF} {Q Q1 : PV → PF → PF → Prop} (hs : Shp R) (e1 : d1 + 1 ≤ d) (hc : CN X d1 mX5_takeWord [(2, 67), (2, 9)] I R Q1) (h : ∀ z I2 R2, Q1 (0, z) I2 R2 → PN X d mX7_readPerson 67 [(2, 110), (0, x1), (0, x2)] [(0, z)] I2 R2 Q) : PN X d mX7_readPerson 57 [(2, 110), (0, x1), (0, x2)] [] I R Q := by
  refine P_aload_n (n := 0) (q := 58) rfl rfl (by decide +kernel) ?_
  refine B_getfR (q := 61) fX7_9 kM110 (rM110_0 hs) rfl (by decide +kernel) ?_
  refine P_gets (o := 9) (q := 64) (fun _ _ h => zW (i := 8) (by decide) h) ⟨by decide, by decide⟩ gX7_196 rfl (by decide +kernel) ?_
  refine P_invV (As := [(2, 9)]) (q := 67) oX5_takeWord rfl kM67 kX7_61 e1 hMF (Nat.le_of_ble_eq_true rfl) hc rfl (by decide +kernel) (fun z I2 R2 hq => ?_)
  exact (h z I2 R2 hq)
theorem S_X7_readPerson_67 {X : CX} {d : Nat} {x1 x2 o0 : Int} {I R : PF} {Q : PV → PF → PF → Prop} (c1 : -2147483648 ≤ o0 ∧ o0 < 2147483648) (h1 : o0 ≠ 0 → PN X d mX7_readPerson 72 [(2, 110), (0, x1), (0, x2)] [] I R Q) (h2 : o0 = 0 → PN X d mX7_readPerson 70 [] [] I R Q) : PN X d mX7_readPerson 67 [(2, 110), (0, x1), (0, x2)] [(0, o0)] I R Q := by
  refine B_if_ne (off := 5) (t := 72) (q := 70) c1 (by decide) rfl (by decide +kernel) ?_ ?_
  · exact fun g9 => (h1 g9)
  · exact fun g9 => (PW_sub (ls' := []) trivial (h2 g9))
theorem S_X7_readPerson_70 {X : CX} {d : Nat} {I R : PF} {Q : PV → PF → PF → Prop} (h : Q (0, 0) I R) : PN X d mX7_readPerson 70 [] [] I R Q := by
  refine P_iconst (n := 0) (q := 71) rfl (by decide +kernel) ?_
  refine P_zret rfl (Or.inl rfl) (by decide +kernel) h
theorem S_X7_readPerson_72 {X : CX} {d d1 : Nat} {x1 x2 : Int} {I R : PF} {Q Q1 : PV → PF → PF → Prop} (hs : Shp R) (e1 : d1 + 1 ≤ d) (hc : CN X d1 mX5_takeNumber [(2, 67), (0, 0), (0, 9)] I R Q1) (h : ∀ z I2 R2, Q1 (0, z) I2 R2 → PN X d mX7_readPerson 82 [(2, 110), (0, x1), (0, x2)] [(0, z)] I2 R2 Q) : PN X d mX7_readPerson 72 [(2, 110), (0, x1), (0, x2)] [] I R Q := by
  refine P_aload_n (n := 0) (q := 73) rfl rfl (by decide +kernel) ?_
  refine B_getfR (q := 76) fX7_9 kM110 (rM110_0 hs) rfl (by decide +kernel) ?_
  refine P_iconst (n := 0) (q := 77) rfl (by decide +kernel) ?_
  refine P_bipush (n := 9) (q := 79) rfl rfl (by decide +kernel) ?_
  refine P_invV (As := [(0, 0), (0, 9)]) (q := 82) oX5_takeNumber rfl kM67 kX7_65 e1 hMF (Nat.le_of_ble_eq_true rfl) hc rfl (by decide +kernel) (fun z I2 R2 hq => ?_)
  exact (h z I2 R2 hq)
theorem S_X7_readPerson_82 {X : CX} {d : Nat} {x1 x2 o0 : Int} {I R : PF} {Q : PV → PF → PF → Prop} (c1 : -2147483648 ≤ o0 ∧ o0 < 2147483648) (h1 : o0 = (-1) → PN X d mX7_readPerson 101 [] [] I R Q) (h2 : o0 ≠ (-1) → PN X d mX7_readPerson 88 [(2, 110), (0, x1), (0, x2), (0, o0)] [] I R Q) : PN X d mX7_readPerson 82 [(2, 110), (0, x1), (0, x2)] [(0, o0)] I R Q := by
  refine P_istore_n (n := 3) (by decide) (q := 83) rfl (by decide +kernel) ?_
  refine P_iload_n (n := 3) (q := 84) rfl rfl (by decide +kernel) ?_
  refine P_iconst (n := (-1)) (q := 85) rfl (by decide +kernel) ?_
  refine B_icmp_eq (off := 16) (t := 101) (q := 88) c1 ⟨by decide, by decide⟩ (by decide) rfl (by decide +kernel) ?_ ?_
  · exact fun g9 => (PW_sub (ls' := []) trivial (h1 g9))
  · exact fun g9 => (h2 g9)
theorem S_X7_readPerson_88 {X : CX} {d d1 : Nat} {x1 x2 x3 : Int} {I R : PF} {Q Q1 : PV → PF → PF → Prop} (hs : Shp R) (e1 : d1 + 1 ≤ d) (hc : CN X d1 mX5_takeWord [(2, 67), (2, 10)] I R Q1) (h : ∀ z I2 R2, Q1 (0, z) I2 R2 → PN X d mX7_readPerson 98 [(2, 110), (0, x1), (0, x2), (0, x3)] [(0, z)] I2 R2 Q) : PN X d mX7_readPerson 88 [(2, 110), (0, x1), (0, x2), (0, x3)] [] I R Q := by
  refine P_aload_n (n := 0) (q := 89) rfl rfl (by decide +kernel) ?_
  refine B_getfR (q := 92) fX7_9 kM110 (rM110_0 hs) rfl (by decide +kernel) ?_
  refine P_gets (o := 10) (q := 95) (fun _ _ h => zW (i := 9) (by decide) h) ⟨by decide, by decide⟩ gX7_199 rfl (by decide +kernel) ?_
  refine P_invV (As := [(2, 10)]) (q := 98) oX5_takeWord rfl kM67 kX7_61 e1 hMF (Nat.le_of_ble_eq_true rfl) hc rfl (by decide +kernel) (fun z I2 R2 hq => ?_)
  exact (h z I2 R2 hq)
theorem S_X7_readPerson_98 {X : CX} {d : Nat} {x1 x2 x3 o0 : Int} {I R : PF} {Q : PV → PF → PF → Prop} (c1 : -2147483648 ≤ o0 ∧ o0 < 2147483648) (h1 : o0 ≠ 0 → PN X d mX7_readPerson 103 [(2, 110), (0, x1), (0, x2), (0, x3)] [] I R Q) (h2 : o0 = 0 → PN X d mX7_readPerson 101 [] [] I R Q) : PN X d mX7_readPerson 98 [(2, 110), (0, x1), (0, x2), (0, x3)] [(0, o0)] I R Q := by
  refine B_if_ne (off := 5) (t := 103) (q := 101) c1 (by decide) rfl (by decide +kernel) ?_ ?_
  · exact fun g9 => (h1 g9)
  · exact fun g9 => (PW_sub (ls' := []) trivial (h2 g9))
theorem S_X7_readPerson_101 {X : CX} {d : Nat} {I R : PF} {Q : PV → PF → PF → Prop} (h : Q (0, 0) I R) : PN X d mX7_readPerson 101 [] [] I R Q := by
  refine P_iconst (n := 0) (q := 102) rfl (by decide +kernel) ?_
  refine P_zret rfl (Or.inl rfl) (by decide +kernel) h
theorem S_X7_readPerson_103 {X : CX} {d d1 : Nat} {x1 x2 x3 : Int} {I R : PF} {Q Q1 : PV → PF → PF → Prop} (hs : Shp R) (e1 : d1 + 1 ≤ d) (hc : CN X d1 mX5_takeNumber [(2, 67), (0, 0), (0, 2)] I R Q1) (h : ∀ z I2 R2, Q1 (0, z) I2 R2 → PN X d mX7_readPerson 112 [(2, 110), (0, x1), (0, x2), (0, x3)] [(0, z)] I2 R2 Q) : PN X d mX7_readPerson 103 [(2, 110), (0, x1), (0, x2), (0, x3)] [] I R Q := by
  refine P_aload_n (n := 0) (q := 104) rfl rfl (by decide +kernel) ?_
  refine B_getfR (q := 107) fX7_9 kM110 (rM110_0 hs) rfl (by decide +kernel) ?_
  refine P_iconst (n := 0) (q := 108) rfl (by decide +kernel) ?_
  refine P_iconst (n := 2) (q := 109) rfl (by decide +kernel) ?_
  refine P_invV (As := [(0, 0), (0, 2)]) (q := 112) oX5_takeNumber rfl kM67 kX7_65 e1 hMF (Nat.le_of_ble_eq_true rfl) hc rfl (by decide +kernel) (fun z I2 R2 hq => ?_)
  exact (h z I2 R2 hq)
theorem S_X7_readPerson_112 {X : CX} {d : Nat} {x1 x2 x3 o0 : Int} {I R : PF} {Q : PV → PF → PF → Prop} (c1 : -2147483648 ≤ o0 ∧ o0 < 2147483648) (h1 : o0 = (-1) → PN X d mX7_readPerson 133 [] [] I R Q) (h2 : o0 ≠ (-1) → PN X d mX7_readPerson 120 [(2, 110), (0, x1), (0, x2), (0, x3), (0, o0)] [] I R Q) : PN X d mX7_readPerson 112 [(2, 110), (0, x1), (0, x2), (0, x3)] [(0, o0)] I R Q := by
  refine P_istore (n := 4) (by decide) (q := 114) rfl (by decide +kernel) ?_
  refine P_iload (n := 4) (q := 116) rfl rfl (by decide +kernel) ?_
  refine P_iconst (n := (-1)) (q := 117) rfl (by decide +kernel) ?_
  refine B_icmp_eq (off := 16) (t := 133) (q := 120) c1 ⟨by decide, by decide⟩ (by decide) rfl (by decide +kernel) ?_ ?_
  · exact fun g9 => (PW_sub (ls' := []) trivial (h1 g9))
  · exact fun g9 => (h2 g9)
theorem S_X7_readPerson_120 {X : CX} {d d1 : Nat} {x1 x2 x3 x4 : Int} {I R : PF} {Q Q1 : PV → PF → PF → Prop} (hs : Shp R) (e1 : d1 + 1 ≤ d) (hc : CN X d1 mX5_takeWord [(2, 67), (2, 11)] I R Q1) (h : ∀ z I2 R2, Q1 (0, z) I2 R2 → PN X d mX7_readPerson 130 [(2, 110), (0, x1), (0, x2), (0, x3), (0, x4)] [(0, z)] I2 R2 Q) : PN X d mX7_readPerson 120 [(2, 110), (0, x1), (0, x2), (0, x3), (0, x4)] [] I R Q := by
  refine P_aload_n (n := 0) (q := 121) rfl rfl (by decide +kernel) ?_
  refine B_getfR (q := 124) fX7_9 kM110 (rM110_0 hs) rfl (by decide +kernel) ?_
  refine P_gets (o := 11) (q := 127) (fun _ _ h => zW (i := 10) (by decide) h) ⟨by decide, by decide⟩ gX7_202 rfl (by decide +kernel) ?_
  refine P_invV (As := [(2, 11)]) (q := 130) oX5_takeWord rfl kM67 kX7_61 e1 hMF (Nat.le_of_ble_eq_true rfl) hc rfl (by decide +kernel) (fun z I2 R2 hq => ?_)
  exact (h z I2 R2 hq)
theorem S_X7_readPerson_130 {X : CX} {d : Nat} {x1 x2 x3 x4 o0 : Int} {I R : PF} {Q : PV → PF → PF → Prop} (c1 : -2147483648 ≤ o0 ∧ o0 < 2147483648) (h1 : o0 ≠ 0 → PN X d mX7_readPerson 135 [(2, 110), (0, x1), (0, x2), (0, x3), (0, x4)] [] I R Q) (h2 : o0 = 0 → PN X d mX7_readPerson 133 [] [] I R Q) : PN X d mX7_readPerson 130 [(2, 110), (0, x1), (0, x2), (0, x3), (0, x4)] [(0, o0)] I R Q := by
  refine B_if_ne (off := 5) (t := 135) (q := 133) c1 (by decide) rfl (by decide +kernel) ?_ ?_
  · exact fun g9 => (h1 g9)
  · exact fun g9 => (PW_sub (ls' := []) trivial (h2 g9))
theorem S_X7_readPerson_133 {X : CX} {d : Nat} {I R : PF} {Q : PV → PF → PF → Prop} (h : Q (0, 0) I R) : PN X d mX7_readPerson 133 [] [] I R Q := by
  refine P_iconst (n := 0) (q := 134) rfl (by decide +kernel) ?_
  refine P_zret rfl (Or.inl rfl) (by decide +kernel) h
theorem S_X7_readPerson_135 {X : CX} {d d1 : Nat} {x1 x2 x3 x4 : Int} {I R : PF} {Q Q1 : PV → PF → PF → Prop} (e1 : d1 + 1 ≤ d) (hc : CN X d1 mX7_takeLaw [(2, 110)] I R Q1) (h : ∀ z I2 R2, Q1 (0, z) I2 R2 → PN X d mX7_readPerson 139 [(2, 110), (0, x1), (0, x2), (0, x3), (0, x4)] [(0, z)] I2 R2 Q) : PN X d mX7_readPerson 135 [(2, 110), (0, x1), (0, x2), (0, x3), (0, x4)] [] I R Q := by
  refine P_aload_n (n := 0) (q := 136) rfl rfl (by decide +kernel) ?_
  refine P_invV (As := []) (q := 139) oX7_takeLaw rfl kM110 kX7_205 e1 hMF (Nat.le_of_ble_eq_true rfl) hc rfl (by decide +kernel) (fun z I2 R2 hq => ?_)
  exact (h z I2 R2 hq)
theorem S_X7_readPerson_139 {X : CX} {d : Nat} {x1 x2 x3 x4 o0 : Int} {I R : PF} {Q : PV → PF → PF → Prop} (c1 : -2147483648 ≤ o0 ∧ o0 < 2147483648) (h1 : o0 ≠ (-1) → PN X d mX7_readPerson 149 [(2, 110), (0, x1), (0, x2), (0, x3), (0, x4), (0, o0)] [] I R Q) (h2 : o0 = (-1) → PN X d mX7_readPerson 147 [] [] I R Q) : PN X d mX7_readPerson 139 [(2, 110), (0, x1), (0, x2), (0, x3), (0, x4)] [(0, o0)] I R Q := by
  refine P_istore (n := 5) (by decide) (q := 141) rfl (by decide +kernel) ?_
  refine P_iload (n := 5) (q := 143) rfl rfl (by decide +kernel) ?_
  refine P_iconst (n := (-1)) (q := 144) rfl (by decide +kernel) ?_
  refine B_icmp_ne (off := 5) (t := 149) (q := 147) c1 ⟨by decide, by decide⟩ (by decide) rfl (by decide +kernel) ?_ ?_
  · exact fun g9 => (h1 g9)
  · exact fun g9 => (PW_sub (ls' := []) trivial (h2 g9))
theorem S_X7_readPerson_147 {X : CX} {d : Nat} {I R : PF} {Q : PV → PF → PF → Prop} (h : Q (0, 0) I R) : PN X d mX7_readPerson 147 [] [] I R Q := by
  refine P_iconst (n := 0) (q := 148) rfl (by decide +kernel) ?_
  refine P_zret rfl (Or.inl rfl) (by decide +kernel) h
theorem S_X7_readPerson_149 {X : CX} {d d1 : Nat} {x1 x2 x3 x4 x5 t1 t2 : Int} {I R : PF} {Q Q1 : PV → PF → PF → Prop} (hs : Shp R) (r1 : R 110 2 = t1) (k1 : kd MF t1 = 6) (b1 : (0 : Int) ≤ (I (t1 + 11) 3) ∧ (I (t1 + 11) 3) < 6) (k2 : kd MF ((t1 + 11) + 1) = 15) (b2 : (0 : Int) ≤ ((u2 I (t1 + 2) (I (t1 + 11) 3) x1) (t1 + 11) 3) ∧ ((u2 I (t1 + 2) (I (t1 + 11) 3) x1) (t1 + 11) 3) < (ln MF ((t1 + 11) + 1) : Int)) (r2 : R ((t1 + 11) + 1) ((u2 I (t1 + 2) (I (t1 + 11) 3) x1) (t1 + 11) 3) = t2) (n1 : (ln MF ((t1 + 11) + 1) : Int) < 2147483648) (c1 : -2147483648 ≤ x2 ∧ x2 < 2147483648) (k3 : kd MF t2 = 12) (b3 : (0 : Int) ≤ 0 ∧ 0 < (ln MF t2 : Int)) (n2 : (ln MF t2 : Int) < 2147483648) (b4 : (0 : Int) ≤ 1 ∧ 1 < (ln MF t2 : Int)) (b5 : (0 : Int) ≤ 2 ∧ 2 < (ln MF t2 : Int)) (b6 : (0 : Int) ≤ 3 ∧ 3 < (ln MF t2 : Int)) (b7 : (0 : Int) ≤ 4 ∧ 4 < (ln MF t2 : Int)) (e1 : d1 + 1 ≤ d) (hc : CN X d1 mX7_readThrow [(2, 110), (2, t2)] (u2 (u2 (u2 (u2 (u2 (u2 I (t1 + 2) (I (t1 + 11) 3) x1) t2 0 (x2.tmod 9)) t2 1 (x2.tdiv 9)) t2 2 x3) t2 3 x4) t2 4 x5) R Q1) (h : ∀ z I2 R2, Q1 (0, z) I2 R2 → PN X d mX7_readPerson 230 [] [(0, z)] I2 R2 Q) : PN X d mX7_readPerson 149 [(2, 110), (0, x1), (0, x2), (0, x3), (0, x4), (0, x5)] [] I R Q := by
  refine P_aload_n (n := 0) (q := 150) rfl rfl (by decide +kernel) ?_
  refine B_getfR (q := 153) fX7_19 kM110 r1 rfl (by decide +kernel) ?_
  refine B_getfR (q := 156) fX7_208 k1 (sh6_9 hs k1) rfl (by decide +kernel) ?_
  refine P_aload_n (n := 0) (q := 157) rfl rfl (by decide +kernel) ?_
  refine B_getfR (q := 160) fX7_19 kM110 r1 rfl (by decide +kernel) ?_
  refine B_getfR (q := 163) fX7_181 k1 (sh6_14 hs k1) rfl (by decide +kernel) ?_
  refine P_getf (q := 166) fX7_184 (sq11 k1) rfl (by decide +kernel) ?_
  refine P_iload_n (n := 1) (q := 167) rfl rfl (by decide +kernel) ?_
  refine B_iastore (q := 168) (sq2 k1) (sq2n k1) (by decide) b1 rfl (by decide +kernel) ?_
  refine P_aload_n (n := 0) (q := 169) rfl rfl (by decide +kernel) ?_
  refine B_getfR (q := 172) fX7_19 kM110 r1 rfl (by decide +kernel) ?_
  refine B_getfR (q := 175) fX7_181 k1 (sh6_14 hs k1) rfl (by decide +kernel) ?_
  refine B_getfR (q := 178) fX7_211 (sq11 k1) (sh8_4 hs (sq11 k1)) rfl (by decide +kernel) ?_
  refine P_aload_n (n := 0) (q := 179) rfl rfl (by decide +kernel) ?_
  refine B_getfR (q := 182) fX7_19 kM110 r1 rfl (by decide +kernel) ?_
  refine B_getfR (q := 185) fX7_181 k1 (sh6_14 hs k1) rfl (by decide +kernel) ?_
  refine P_getf (q := 188) fX7_184 (sq11 k1) rfl (by decide +kernel) ?_
  refine B_aaloadI (q := 189) k2 rfl n1 b2 r2 rfl (by decide +kernel) ?_
  refine P_astore (n := 6) (by decide) (q := 191) rfl (by decide +kernel) ?_
  refine P_aload (n := 6) (q := 193) rfl rfl (by decide +kernel) ?_
  refine P_iconst (n := 0) (q := 194) rfl (by decide +kernel) ?_
  refine P_iload_n (n := 2) (q := 195) rfl rfl (by decide +kernel) ?_
  refine P_bipush (n := 9) (q := 197) rfl rfl (by decide +kernel) ?_
  refine B_irem (q := 198) c1 ⟨by decide, by decide⟩ (by decide) rfl (by decide +kernel) ?_
  refine B_iastore (q := 199) k3 rfl n2 b3 rfl (by decide +kernel) ?_
  refine P_aload (n := 6) (q := 201) rfl rfl (by decide +kernel) ?_
  refine P_iconst (n := 1) (q := 202) rfl (by decide +kernel) ?_
  refine P_iload_n (n := 2) (q := 203) rfl rfl (by decide +kernel) ?_
  refine P_bipush (n := 9) (q := 205) rfl rfl (by decide +kernel) ?_
  refine B_idiv (q := 206) c1 ⟨by decide, by decide⟩ (by decide) rfl (by decide +kernel) ?_
  refine B_iastore (q := 207) k3 rfl n2 b4 rfl (by decide +kernel) ?_
  refine P_aload (n := 6) (q := 209) rfl rfl (by decide +kernel) ?_
  refine P_iconst (n := 2) (q := 210) rfl (by decide +kernel) ?_
  refine P_iload_n (n := 3) (q := 211) rfl rfl (by decide +kernel) ?_
  refine B_iastore (q := 212) k3 rfl n2 b5 rfl (by decide +kernel) ?_
  refine P_aload (n := 6) (q := 214) rfl rfl (by decide +kernel) ?_
  refine P_iconst (n := 3) (q := 215) rfl (by decide +kernel) ?_
  refine P_iload (n := 4) (q := 217) rfl rfl (by decide +kernel) ?_
  refine B_iastore (q := 218) k3 rfl n2 b6 rfl (by decide +kernel) ?_
  refine P_aload (n := 6) (q := 220) rfl rfl (by decide +kernel) ?_
  refine P_iconst (n := 4) (q := 221) rfl (by decide +kernel) ?_
  refine P_iload (n := 5) (q := 223) rfl rfl (by decide +kernel) ?_
  refine B_iastore (q := 224) k3 rfl n2 b7 rfl (by decide +kernel) ?_
  refine P_aload_n (n := 0) (q := 225) rfl rfl (by decide +kernel) ?_
  refine P_aload (n := 6) (q := 227) rfl rfl (by decide +kernel) ?_
  refine P_invV (As := [(2, t2)]) (q := 230) oX7_readThrow rfl kM110 kX7_215 e1 hMF (Nat.le_of_ble_eq_true rfl) hc rfl (by decide +kernel) (fun z I2 R2 hq => ?_)
  exact (PW_sub (ls' := []) trivial (h z I2 R2 hq))
theorem S_X7_readPerson_230 {X : CX} {d : Nat} {o0 : Int} {I R : PF} {Q : PV → PF → PF → Prop} (z1 : o0 = 0 ∨ o0 = 1) (h : Q (0, o0) I R) : PN X d mX7_readPerson 230 [] [(0, o0)] I R Q := by
  refine P_zret rfl z1 (by decide +kernel) h
theorem S_X7_readSquare_0 {X : CX} {d d1 : Nat} {I R : PF} {Q Q1 : PV → PF → PF → Prop} (hs : Shp R) (e1 : d1 + 1 ≤ d) (hc : CN X d1 mX5_takeWord [(2, 67), (2, 2)] I R Q1) (h : ∀ z I2 R2, Q1 (0, z) I2 R2 → PN X d mX7_readSquare 10 [(2, 110)] [(0, z)] I2 R2 Q) : PN X d mX7_readSquare 0 [(2, 110)] [] I R Q := by
  refine P_aload_n (n := 0) (q := 1) rfl rfl (by decide +kernel) ?_
  refine B_getfR (q := 4) fX7_9 kM110 (rM110_0 hs) rfl (by decide +kernel) ?_
  refine P_gets (o := 2) (q := 7) (fun _ _ h => zW (i := 1) (by decide) h) ⟨by decide, by decide⟩ gX7_55 rfl (by decide +kernel) ?_
  refine P_invV (As := [(2, 2)]) (q := 10) oX5_takeWord rfl kM67 kX7_61 e1 hMF (Nat.le_of_ble_eq_true rfl) hc rfl (by decide +kernel) (fun z I2 R2 hq => ?_)
  exact (h z I2 R2 hq)
theorem S_X7_readSquare_10 {X : CX} {d : Nat} {o0 : Int} {I R : PF} {Q : PV → PF → PF → Prop} (c1 : -2147483648 ≤ o0 ∧ o0 < 2147483648) (h1 : o0 ≠ 0 → PN X d mX7_readSquare 15 [(2, 110)] [] I R Q) (h2 : o0 = 0 → PN X d mX7_readSquare 13 [] [] I R Q) : PN X d mX7_readSquare 10 [(2, 110)] [(0, o0)] I R Q := by
  refine B_if_ne (off := 5) (t := 15) (q := 13) c1 (by decide) rfl (by decide +kernel) ?_ ?_
  · exact fun g9 => (h1 g9)
  · exact fun g9 => (PW_sub (ls' := []) trivial (h2 g9))
theorem S_X7_readSquare_13 {X : CX} {d : Nat} {I R : PF} {Q : PV → PF → PF → Prop} (h : Q (0, 0) I R) : PN X d mX7_readSquare 13 [] [] I R Q := by
  refine P_iconst (n := 0) (q := 14) rfl (by decide +kernel) ?_
  refine P_zret rfl (Or.inl rfl) (by decide +kernel) h
theorem S_X7_readSquare_15 {X : CX} {d d1 : Nat} {t1 : Int} {I R : PF} {Q Q1 : PV → PF → PF → Prop} (hs : Shp R) (r1 : R 110 2 = t1) (e1 : d1 + 1 ≤ d) (hc : CN X d1 mX5_takeNumber [(2, 67), (0, 2), (0, 9)] I R Q1) (h : ∀ z I2 R2, Q1 (0, z) I2 R2 → PN X d mX7_readSquare 29 [(2, 110)] [(0, z), (2, t1)] I2 R2 Q) : PN X d mX7_readSquare 15 [(2, 110)] [] I R Q := by
  refine P_aload_n (n := 0) (q := 16) rfl rfl (by decide +kernel) ?_
  refine B_getfR (q := 19) fX7_19 kM110 r1 rfl (by decide +kernel) ?_
  refine P_aload_n (n := 0) (q := 20) rfl rfl (by decide +kernel) ?_
  refine B_getfR (q := 23) fX7_9 kM110 (rM110_0 hs) rfl (by decide +kernel) ?_
  refine P_iconst (n := 2) (q := 24) rfl (by decide +kernel) ?_
  refine P_bipush (n := 9) (q := 26) rfl rfl (by decide +kernel) ?_
  refine P_invV (As := [(0, 2), (0, 9)]) (q := 29) oX5_takeNumber rfl kM67 kX7_65 e1 hMF (Nat.le_of_ble_eq_true rfl) hc rfl (by decide +kernel) (fun z I2 R2 hq => ?_)
  exact (h z I2 R2 hq)
theorem S_X7_readSquare_29 {X : CX} {d : Nat} {s0 o1 t1 : Int} {I R : PF} {Q : PV → PF → PF → Prop} (k1 : kd MF s0 = 6) (r1 : R 110 2 = t1) (k2 : kd MF t1 = 6) (c1 : -2147483648 ≤ ((u2 I s0 0 o1) t1 0) ∧ ((u2 I s0 0 o1) t1 0) < 2147483648) (h1 : ((u2 I s0 0 o1) t1 0) = (-1) → PN X d mX7_readSquare 56 [] [] (u2 I s0 0 o1) R Q) (h2 : ((u2 I s0 0 o1) t1 0) ≠ (-1) → PN X d mX7_readSquare 43 [(2, 110)] [] (u2 I s0 0 o1) R Q) : PN X d mX7_readSquare 29 [(2, 110)] [(0, o1), (2, s0)] I R Q := by
  refine P_putI (q := 32) wX7_69 (fun h => by cases h) k1 rfl (by decide +kernel) ?_
  refine P_aload_n (n := 0) (q := 33) rfl rfl (by decide +kernel) ?_
  refine B_getfR (q := 36) fX7_19 kM110 r1 rfl (by decide +kernel) ?_
  refine P_getf (q := 39) fX7_69 k2 rfl (by decide +kernel) ?_
  refine P_iconst (n := (-1)) (q := 40) rfl (by decide +kernel) ?_
  refine B_icmp_eq (off := 16) (t := 56) (q := 43) c1 ⟨by decide, by decide⟩ (by decide) rfl (by decide +kernel) ?_ ?_
  · exact fun g9 => (PW_sub (ls' := []) trivial (h1 g9))
  · exact fun g9 => (h2 g9)
theorem S_X7_readSquare_43 {X : CX} {d d1 : Nat} {I R : PF} {Q Q1 : PV → PF → PF → Prop} (hs : Shp R) (e1 : d1 + 1 ≤ d) (hc : CN X d1 mX5_takeWord [(2, 67), (2, 3)] I R Q1) (h : ∀ z I2 R2, Q1 (0, z) I2 R2 → PN X d mX7_readSquare 53 [(2, 110)] [(0, z)] I2 R2 Q) : PN X d mX7_readSquare 43 [(2, 110)] [] I R Q := by
  refine P_aload_n (n := 0) (q := 44) rfl rfl (by decide +kernel) ?_
  refine B_getfR (q := 47) fX7_9 kM110 (rM110_0 hs) rfl (by decide +kernel) ?_
  refine P_gets (o := 3) (q := 50) (fun _ _ h => zW (i := 2) (by decide) h) ⟨by decide, by decide⟩ gX7_72 rfl (by decide +kernel) ?_
  refine P_invV (As := [(2, 3)]) (q := 53) oX5_takeWord rfl kM67 kX7_61 e1 hMF (Nat.le_of_ble_eq_true rfl) hc rfl (by decide +kernel) (fun z I2 R2 hq => ?_)
  exact (h z I2 R2 hq)
theorem S_X7_readSquare_53 {X : CX} {d : Nat} {o0 : Int} {I R : PF} {Q : PV → PF → PF → Prop} (c1 : -2147483648 ≤ o0 ∧ o0 < 2147483648) (h1 : o0 ≠ 0 → PN X d mX7_readSquare 58 [(2, 110)] [] I R Q) (h2 : o0 = 0 → PN X d mX7_readSquare 56 [] [] I R Q) : PN X d mX7_readSquare 53 [(2, 110)] [(0, o0)] I R Q := by
  refine B_if_ne (off := 5) (t := 58) (q := 56) c1 (by decide) rfl (by decide +kernel) ?_ ?_
  · exact fun g9 => (h1 g9)
  · exact fun g9 => (PW_sub (ls' := []) trivial (h2 g9))
theorem S_X7_readSquare_56 {X : CX} {d : Nat} {I R : PF} {Q : PV → PF → PF → Prop} (h : Q (0, 0) I R) : PN X d mX7_readSquare 56 [] [] I R Q := by
  refine P_iconst (n := 0) (q := 57) rfl (by decide +kernel) ?_
  refine P_zret rfl (Or.inl rfl) (by decide +kernel) h
theorem S_X7_readSquare_58 {X : CX} {d d1 : Nat} {t1 : Int} {I R : PF} {Q Q1 : PV → PF → PF → Prop} (hs : Shp R) (r1 : R 110 2 = t1) (e1 : d1 + 1 ≤ d) (hc : CN X d1 mX5_takeNumber [(2, 67), (0, 2), (0, 9)] I R Q1) (h : ∀ z I2 R2, Q1 (0, z) I2 R2 → PN X d mX7_readSquare 72 [(2, 110)] [(0, z), (2, t1)] I2 R2 Q) : PN X d mX7_readSquare 58 [(2, 110)] [] I R Q := by
  refine P_aload_n (n := 0) (q := 59) rfl rfl (by decide +kernel) ?_
  refine B_getfR (q := 62) fX7_19 kM110 r1 rfl (by decide +kernel) ?_
  refine P_aload_n (n := 0) (q := 63) rfl rfl (by decide +kernel) ?_
  refine B_getfR (q := 66) fX7_9 kM110 (rM110_0 hs) rfl (by decide +kernel) ?_
  refine P_iconst (n := 2) (q := 67) rfl (by decide +kernel) ?_
  refine P_bipush (n := 9) (q := 69) rfl rfl (by decide +kernel) ?_
  refine P_invV (As := [(0, 2), (0, 9)]) (q := 72) oX5_takeNumber rfl kM67 kX7_65 e1 hMF (Nat.le_of_ble_eq_true rfl) hc rfl (by decide +kernel) (fun z I2 R2 hq => ?_)
  exact (h z I2 R2 hq)
theorem S_X7_readSquare_72 {X : CX} {d : Nat} {s0 o1 t1 : Int} {I R : PF} {Q : PV → PF → PF → Prop} (k1 : kd MF s0 = 6) (r1 : R 110 2 = t1) (k2 : kd MF t1 = 6) (c1 : -2147483648 ≤ ((u2 I s0 1 o1) t1 1) ∧ ((u2 I s0 1 o1) t1 1) < 2147483648) (h1 : ((u2 I s0 1 o1) t1 1) = (-1) → PN X d mX7_readSquare 99 [] [] (u2 I s0 1 o1) R Q) (h2 : ((u2 I s0 1 o1) t1 1) ≠ (-1) → PN X d mX7_readSquare 86 [(2, 110)] [] (u2 I s0 1 o1) R Q) : PN X d mX7_readSquare 72 [(2, 110)] [(0, o1), (2, s0)] I R Q := by
  refine P_putI (q := 75) wX7_75 (fun h => by cases h) k1 rfl (by decide +kernel) ?_
  refine P_aload_n (n := 0) (q := 76) rfl rfl (by decide +kernel) ?_
  refine B_getfR (q := 79) fX7_19 kM110 r1 rfl (by decide +kernel) ?_
  refine P_getf (q := 82) fX7_75 k2 rfl (by decide +kernel) ?_
  refine P_iconst (n := (-1)) (q := 83) rfl (by decide +kernel) ?_
  refine B_icmp_eq (off := 16) (t := 99) (q := 86) c1 ⟨by decide, by decide⟩ (by decide) rfl (by decide +kernel) ?_ ?_
  · exact fun g9 => (PW_sub (ls' := []) trivial (h1 g9))
  · exact fun g9 => (h2 g9)
theorem S_X7_readSquare_86 {X : CX} {d d1 : Nat} {I R : PF} {Q Q1 : PV → PF → PF → Prop} (hs : Shp R) (e1 : d1 + 1 ≤ d) (hc : CN X d1 mX5_takeWord [(2, 67), (2, 4)] I R Q1) (h : ∀ z I2 R2, Q1 (0, z) I2 R2 → PN X d mX7_readSquare 96 [(2, 110)] [(0, z)] I2 R2 Q) : PN X d mX7_readSquare 86 [(2, 110)] [] I R Q := by
  refine P_aload_n (n := 0) (q := 87) rfl rfl (by decide +kernel) ?_
  refine B_getfR (q := 90) fX7_9 kM110 (rM110_0 hs) rfl (by decide +kernel) ?_
  refine P_gets (o := 4) (q := 93) (fun _ _ h => zW (i := 3) (by decide) h) ⟨by decide, by decide⟩ gX7_78 rfl (by decide +kernel) ?_
  refine P_invV (As := [(2, 4)]) (q := 96) oX5_takeWord rfl kM67 kX7_61 e1 hMF (Nat.le_of_ble_eq_true rfl) hc rfl (by decide +kernel) (fun z I2 R2 hq => ?_)
  exact (h z I2 R2 hq)
theorem S_X7_readSquare_96 {X : CX} {d : Nat} {o0 : Int} {I R : PF} {Q : PV → PF → PF → Prop} (c1 : -2147483648 ≤ o0 ∧ o0 < 2147483648) (h1 : o0 ≠ 0 → PN X d mX7_readSquare 101 [(2, 110)] [] I R Q) (h2 : o0 = 0 → PN X d mX7_readSquare 99 [] [] I R Q) : PN X d mX7_readSquare 96 [(2, 110)] [(0, o0)] I R Q := by
  refine B_if_ne (off := 5) (t := 101) (q := 99) c1 (by decide) rfl (by decide +kernel) ?_ ?_
  · exact fun g9 => (h1 g9)
  · exact fun g9 => (PW_sub (ls' := []) trivial (h2 g9))
theorem S_X7_readSquare_99 {X : CX} {d : Nat} {I R : PF} {Q : PV → PF → PF → Prop} (h : Q (0, 0) I R) : PN X d mX7_readSquare 99 [] [] I R Q := by
  refine P_iconst (n := 0) (q := 100) rfl (by decide +kernel) ?_
  refine P_zret rfl (Or.inl rfl) (by decide +kernel) h
theorem S_X7_readSquare_101 {X : CX} {d d1 : Nat} {t1 : Int} {I R : PF} {Q Q1 : PV → PF → PF → Prop} (hs : Shp R) (r1 : R 110 2 = t1) (k1 : kd MF t1 = 6) (e1 : d1 + 1 ≤ d) (hc : CN X d1 mX5_takeNumber [(2, 67), (0, 0), (0, ((I t1 0) - 1))] I R Q1) (h : ∀ z I2 R2, Q1 (0, z) I2 R2 → PN X d mX7_readSquare 122 [(2, 110)] [(0, z), (2, t1)] I2 R2 Q) : PN X d mX7_readSquare 101 [(2, 110)] [] I R Q := by
  refine P_aload_n (n := 0) (q := 102) rfl rfl (by decide +kernel) ?_
  refine B_getfR (q := 105) fX7_19 kM110 r1 rfl (by decide +kernel) ?_
  refine P_aload_n (n := 0) (q := 106) rfl rfl (by decide +kernel) ?_
  refine B_getfR (q := 109) fX7_9 kM110 (rM110_0 hs) rfl (by decide +kernel) ?_
  refine P_iconst (n := 0) (q := 110) rfl (by decide +kernel) ?_
  refine P_aload_n (n := 0) (q := 111) rfl rfl (by decide +kernel) ?_
  refine B_getfR (q := 114) fX7_19 kM110 r1 rfl (by decide +kernel) ?_
  refine P_getf (q := 117) fX7_69 k1 rfl (by decide +kernel) ?_
  refine P_iconst (n := 1) (q := 118) rfl (by decide +kernel) ?_
  refine P_isub (q := 119) rfl (by decide +kernel) ?_
  refine P_invV (As := [(0, 0), (0, ((I t1 0) - 1))]) (q := 122) oX5_takeNumber rfl kM67 kX7_65 e1 hMF (Nat.le_of_ble_eq_true rfl) hc rfl (by decide +kernel) (fun z I2 R2 hq => ?_)
  exact (h z I2 R2 hq)
theorem S_X7_readSquare_122 {X : CX} {d : Nat} {s0 o1 t1 : Int} {I R : PF} {Q : PV → PF → PF → Prop} (k1 : kd MF s0 = 6) (r1 : R 110 2 = t1) (k2 : kd MF t1 = 6) (c1 : -2147483648 ≤ ((u2 I s0 2 o1) t1 2) ∧ ((u2 I s0 2 o1) t1 2) < 2147483648) (h1 : ((u2 I s0 2 o1) t1 2) ≠ (-1) → PN X d mX7_readSquare 138 [(2, 110)] [] (u2 I s0 2 o1) R Q) (h2 : ((u2 I s0 2 o1) t1 2) = (-1) → PN X d mX7_readSquare 136 [] [] (u2 I s0 2 o1) R Q) : PN X d mX7_readSquare 122 [(2, 110)] [(0, o1), (2, s0)] I R Q := by
  refine P_putI (q := 125) wX7_81 (fun h => by cases h) k1 rfl (by decide +kernel) ?_
  refine P_aload_n (n := 0) (q := 126) rfl rfl (by decide +kernel) ?_
  refine B_getfR (q := 129) fX7_19 kM110 r1 rfl (by decide +kernel) ?_
  refine P_getf (q := 132) fX7_81 k2 rfl (by decide +kernel) ?_
  refine P_iconst (n := (-1)) (q := 133) rfl (by decide +kernel) ?_
  refine B_icmp_ne (off := 5) (t := 138) (q := 136) c1 ⟨by decide, by decide⟩ (by decide) rfl (by decide +kernel) ?_ ?_
  · exact fun g9 => (h1 g9)
  · exact fun g9 => (PW_sub (ls' := []) trivial (h2 g9))
theorem S_X7_readSquare_136 {X : CX} {d : Nat} {I R : PF} {Q : PV → PF → PF → Prop} (h : Q (0, 0) I R) : PN X d mX7_readSquare 136 [] [] I R Q := by
  refine P_iconst (n := 0) (q := 137) rfl (by decide +kernel) ?_
  refine P_zret rfl (Or.inl rfl) (by decide +kernel) h
theorem S_X7_readSquare_138 {X : CX} {d d1 : Nat} {t1 : Int} {I R : PF} {Q Q1 : PV → PF → PF → Prop} (hs : Shp R) (r1 : R 110 2 = t1) (k1 : kd MF t1 = 6) (e1 : d1 + 1 ≤ d) (hc : CN X d1 mX5_takeNumber [(2, 67), (0, 0), (0, ((I t1 1) - 1))] I R Q1) (h : ∀ z I2 R2, Q1 (0, z) I2 R2 → PN X d mX7_readSquare 159 [(2, 110)] [(0, z), (2, t1)] I2 R2 Q) : PN X d mX7_readSquare 138 [(2, 110)] [] I R Q := by
  refine P_aload_n (n := 0) (q := 139) rfl rfl (by decide +kernel) ?_
  refine B_getfR (q := 142) fX7_19 kM110 r1 rfl (by decide +kernel) ?_
  refine P_aload_n (n := 0) (q := 143) rfl rfl (by decide +kernel) ?_
  refine B_getfR (q := 146) fX7_9 kM110 (rM110_0 hs) rfl (by decide +kernel) ?_
  refine P_iconst (n := 0) (q := 147) rfl (by decide +kernel) ?_
  refine P_aload_n (n := 0) (q := 148) rfl rfl (by decide +kernel) ?_
  refine B_getfR (q := 151) fX7_19 kM110 r1 rfl (by decide +kernel) ?_
  refine P_getf (q := 154) fX7_75 k1 rfl (by decide +kernel) ?_
  refine P_iconst (n := 1) (q := 155) rfl (by decide +kernel) ?_
  refine P_isub (q := 156) rfl (by decide +kernel) ?_
  refine P_invV (As := [(0, 0), (0, ((I t1 1) - 1))]) (q := 159) oX5_takeNumber rfl kM67 kX7_65 e1 hMF (Nat.le_of_ble_eq_true rfl) hc rfl (by decide +kernel) (fun z I2 R2 hq => ?_)
  exact (h z I2 R2 hq)
theorem S_X7_readSquare_159 {X : CX} {d : Nat} {s0 o1 t1 : Int} {I R : PF} {Q : PV → PF → PF → Prop} (k1 : kd MF s0 = 6) (r1 : R 110 2 = t1) (k2 : kd MF t1 = 6) (c1 : -2147483648 ≤ ((u2 I s0 3 o1) t1 3) ∧ ((u2 I s0 3 o1) t1 3) < 2147483648) (h1 : ((u2 I s0 3 o1) t1 3) = (-1) → PN X d mX7_readSquare 186 [] [] (u2 I s0 3 o1) R Q) (h2 : ((u2 I s0 3 o1) t1 3) ≠ (-1) → PN X d mX7_readSquare 173 [(2, 110)] [] (u2 I s0 3 o1) R Q) : PN X d mX7_readSquare 159 [(2, 110)] [(0, o1), (2, s0)] I R Q := by
  refine P_putI (q := 162) wX7_84 (fun h => by cases h) k1 rfl (by decide +kernel) ?_
  refine P_aload_n (n := 0) (q := 163) rfl rfl (by decide +kernel) ?_
  refine B_getfR (q := 166) fX7_19 kM110 r1 rfl (by decide +kernel) ?_
  refine P_getf (q := 169) fX7_84 k2 rfl (by decide +kernel) ?_
  refine P_iconst (n := (-1)) (q := 170) rfl (by decide +kernel) ?_
  refine B_icmp_eq (off := 16) (t := 186) (q := 173) c1 ⟨by decide, by decide⟩ (by decide) rfl (by decide +kernel) ?_ ?_
  · exact fun g9 => (PW_sub (ls' := []) trivial (h1 g9))
  · exact fun g9 => (h2 g9)
theorem S_X7_readSquare_173 {X : CX} {d d1 : Nat} {I R : PF} {Q Q1 : PV → PF → PF → Prop} (hs : Shp R) (e1 : d1 + 1 ≤ d) (hc : CN X d1 mX5_takeWord [(2, 67), (2, 5)] I R Q1) (h : ∀ z I2 R2, Q1 (0, z) I2 R2 → PN X d mX7_readSquare 183 [(2, 110)] [(0, z)] I2 R2 Q) : PN X d mX7_readSquare 173 [(2, 110)] [] I R Q := by
  refine P_aload_n (n := 0) (q := 174) rfl rfl (by decide +kernel) ?_
  refine B_getfR (q := 177) fX7_9 kM110 (rM110_0 hs) rfl (by decide +kernel) ?_
  refine P_gets (o := 5) (q := 180) (fun _ _ h => zW (i := 4) (by decide) h) ⟨by decide, by decide⟩ gX7_87 rfl (by decide +kernel) ?_
  refine P_invV (As := [(2, 5)]) (q := 183) oX5_takeWord rfl kM67 kX7_61 e1 hMF (Nat.le_of_ble_eq_true rfl) hc rfl (by decide +kernel) (fun z I2 R2 hq => ?_)
  exact (h z I2 R2 hq)
theorem S_X7_readSquare_183 {X : CX} {d : Nat} {o0 : Int} {I R : PF} {Q : PV → PF → PF → Prop} (c1 : -2147483648 ≤ o0 ∧ o0 < 2147483648) (h1 : o0 ≠ 0 → PN X d mX7_readSquare 188 [(2, 110)] [] I R Q) (h2 : o0 = 0 → PN X d mX7_readSquare 186 [] [] I R Q) : PN X d mX7_readSquare 183 [(2, 110)] [(0, o0)] I R Q := by
  refine B_if_ne (off := 5) (t := 188) (q := 186) c1 (by decide) rfl (by decide +kernel) ?_ ?_
  · exact fun g9 => (h1 g9)
  · exact fun g9 => (PW_sub (ls' := []) trivial (h2 g9))
theorem S_X7_readSquare_186 {X : CX} {d : Nat} {I R : PF} {Q : PV → PF → PF → Prop} (h : Q (0, 0) I R) : PN X d mX7_readSquare 186 [] [] I R Q := by
  refine P_iconst (n := 0) (q := 187) rfl (by decide +kernel) ?_
  refine P_zret rfl (Or.inl rfl) (by decide +kernel) h
theorem S_X7_readSquare_188 {X : CX} {d d1 : Nat} {t1 : Int} {I R : PF} {Q Q1 : PV → PF → PF → Prop} (hs : Shp R) (r1 : R 110 2 = t1) (e1 : d1 + 1 ≤ d) (hc : CN X d1 mX5_takeNumber [(2, 67), (0, 1), (0, 9)] I R Q1) (h : ∀ z I2 R2, Q1 (0, z) I2 R2 → PN X d mX7_readSquare 202 [(2, 110)] [(0, z), (2, t1)] I2 R2 Q) : PN X d mX7_readSquare 188 [(2, 110)] [] I R Q := by
  refine P_aload_n (n := 0) (q := 189) rfl rfl (by decide +kernel) ?_
  refine B_getfR (q := 192) fX7_19 kM110 r1 rfl (by decide +kernel) ?_
  refine P_aload_n (n := 0) (q := 193) rfl rfl (by decide +kernel) ?_
  refine B_getfR (q := 196) fX7_9 kM110 (rM110_0 hs) rfl (by decide +kernel) ?_
  refine P_iconst (n := 1) (q := 197) rfl (by decide +kernel) ?_
  refine P_bipush (n := 9) (q := 199) rfl rfl (by decide +kernel) ?_
  refine P_invV (As := [(0, 1), (0, 9)]) (q := 202) oX5_takeNumber rfl kM67 kX7_65 e1 hMF (Nat.le_of_ble_eq_true rfl) hc rfl (by decide +kernel) (fun z I2 R2 hq => ?_)
  exact (h z I2 R2 hq)
theorem S_X7_readSquare_202 {X : CX} {d : Nat} {s0 o1 t1 : Int} {I R : PF} {Q : PV → PF → PF → Prop} (k1 : kd MF s0 = 6) (r1 : R 110 2 = t1) (k2 : kd MF t1 = 6) (c1 : -2147483648 ≤ ((u2 I s0 4 o1) t1 4) ∧ ((u2 I s0 4 o1) t1 4) < 2147483648) (h1 : ((u2 I s0 4 o1) t1 4) = (-1) → PN X d mX7_readSquare 232 [] [] (u2 I s0 4 o1) R Q) (h2 : ((u2 I s0 4 o1) t1 4) ≠ (-1) → PN X d mX7_readSquare 216 [(2, 110)] [] (u2 I s0 4 o1) R Q) : PN X d mX7_readSquare 202 [(2, 110)] [(0, o1), (2, s0)] I R Q := by
  refine P_putI (q := 205) wX7_90 (fun h => by cases h) k1 rfl (by decide +kernel) ?_
  refine P_aload_n (n := 0) (q := 206) rfl rfl (by decide +kernel) ?_
  refine B_getfR (q := 209) fX7_19 kM110 r1 rfl (by decide +kernel) ?_
  refine P_getf (q := 212) fX7_90 k2 rfl (by decide +kernel) ?_
  refine P_iconst (n := (-1)) (q := 213) rfl (by decide +kernel) ?_
  refine B_icmp_eq (off := 19) (t := 232) (q := 216) c1 ⟨by decide, by decide⟩ (by decide) rfl (by decide +kernel) ?_ ?_
  · exact fun g9 => (PW_sub (ls' := []) trivial (h1 g9))
  · exact fun g9 => (h2 g9)
theorem S_X7_readSquare_216 {X : CX} {d d1 : Nat} {I R : PF} {Q Q1 : PV → PF → PF → Prop} (hs : Shp R) (e1 : d1 + 1 ≤ d) (hc : CN X d1 mX5_takeSign [(2, 67), (0, 59)] I R Q1) (h : ∀ z I2 R2, Q1 (0, z) I2 R2 → PN X d mX7_readSquare 225 [] [(0, z)] I2 R2 Q) : PN X d mX7_readSquare 216 [(2, 110)] [] I R Q := by
  refine P_aload_n (n := 0) (q := 217) rfl rfl (by decide +kernel) ?_
  refine B_getfR (q := 220) fX7_9 kM110 (rM110_0 hs) rfl (by decide +kernel) ?_
  refine P_bipush (n := 59) (q := 222) rfl rfl (by decide +kernel) ?_
  refine P_invV (As := [(0, 59)]) (q := 225) oX5_takeSign rfl kM67 kX7_93 e1 hMF (Nat.le_of_ble_eq_true rfl) hc rfl (by decide +kernel) (fun z I2 R2 hq => ?_)
  exact (PW_sub (ls' := []) trivial (h z I2 R2 hq))
theorem S_X7_readSquare_225 {X : CX} {d : Nat} {o0 : Int} {I R : PF} {Q : PV → PF → PF → Prop} (c1 : -2147483648 ≤ o0 ∧ o0 < 2147483648) (h1 : o0 = 0 → PN X d mX7_readSquare 232 [] [] I R Q) (h2 : o0 ≠ 0 → PN X d mX7_readSquare 228 [] [] I R Q) : PN X d mX7_readSquare 225 [] [(0, o0)] I R Q := by
  refine B_if_eq (off := 7) (t := 232) (q := 228) c1 (by decide) rfl (by decide +kernel) ?_ ?_
  · exact fun g9 => (PW_sub (ls' := []) trivial (h1 g9))
  · exact fun g9 => (PW_sub (ls' := []) trivial (h2 g9))
theorem S_X7_readSquare_228 {X : CX} {d : Nat} {I R : PF} {Q : PV → PF → PF → Prop} (h : PN X d mX7_readSquare 233 [] [(0, 1)] I R Q) : PN X d mX7_readSquare 228 [] [] I R Q := by
  refine P_iconst (n := 1) (q := 229) rfl (by decide +kernel) ?_
  refine P_goto (off := 4) (t := 233) (by decide) (by decide +kernel) ?_
  exact (PW_sub (ls' := []) trivial h)
theorem S_X7_readSquare_232 {X : CX} {d : Nat} {I R : PF} {Q : PV → PF → PF → Prop} (h : PN X d mX7_readSquare 233 [] [(0, 0)] I R Q) : PN X d mX7_readSquare 232 [] [] I R Q := by
  refine P_iconst (n := 0) (q := 233) rfl (by decide +kernel) ?_
  exact (PW_sub (ls' := []) trivial h)
theorem S_X7_readSquare_233 {X : CX} {d : Nat} {o0 : Int} {I R : PF} {Q : PV → PF → PF → Prop} (z1 : o0 = 0 ∨ o0 = 1) (h : Q (0, o0) I R) : PN X d mX7_readSquare 233 [] [(0, o0)] I R Q := by
  refine P_zret rfl z1 (by decide +kernel) h
