theorem S_X10_change_0 {X : CX} {d d1 : Nat} {x1 x2 : Int} {I R : PF} {Q Q1 : PV → PF → PF → Prop} (hs : Shp R) (e1 : d1 + 1 ≤ d) (hc : CN X d1 mX8_knows [(2, 111), (0, x1)] I R Q1) (h : ∀ z I2 R2, Q1 (0, z) I2 R2 → PN X d mX10_change 8 [(2, 64), (0, x1), (0, x2)] [(0, z)] I2 R2 Q) : PN X d mX10_change 0 [(2, 64), (0, x1), (0, x2)] [] I R Q := by
  refine P_aload_n (n := 0) (q := 1) rfl rfl (by decide +kernel) ?_
  refine B_getfR (q := 4) fX10_73 kM64 (rM64_11 hs) rfl (by decide +kernel) ?_
  refine P_iload_n (n := 1) (q := 5) rfl rfl (by decide +kernel) ?_
  refine P_invV (As := [(0, x1)]) (q := 8) oX8_knows rfl kM111 kX10_187 e1 hMF (Nat.le_of_ble_eq_true rfl) hc rfl (by decide +kernel) (fun z I2 R2 hq => ?_)
  exact (h z I2 R2 hq)
theorem S_X10_change_8 {X : CX} {d : Nat} {x1 x2 o0 : Int} {I R : PF} {Q : PV → PF → PF → Prop} (c1 : -2147483648 ≤ o0 ∧ o0 < 2147483648) (h1 : o0 = 0 → PN X d mX10_change 20 [] [] I R Q) (h2 : o0 ≠ 0 → PN X d mX10_change 11 [(2, 64), (0, x1), (0, x2)] [] I R Q) : PN X d mX10_change 8 [(2, 64), (0, x1), (0, x2)] [(0, o0)] I R Q := by
  refine B_if_eq (off := 12) (t := 20) (q := 11) c1 (by decide) rfl (by decide +kernel) ?_ ?_
  · exact fun g9 => (PW_sub (ls' := []) trivial (h1 g9))
  · exact fun g9 => (h2 g9)
theorem S_X10_change_11 {X : CX} {d : Nat} {x1 x2 : Int} {I R : PF} {Q : PV → PF → PF → Prop} (c1 : -2147483648 ≤ x2 ∧ x2 < 2147483648) (h1 : x2 < 0 → PN X d mX10_change 20 [] [] I R Q) (h2 : 0 ≤ x2 → PN X d mX10_change 15 [(2, 64), (0, x1), (0, x2)] [] I R Q) : PN X d mX10_change 11 [(2, 64), (0, x1), (0, x2)] [] I R Q := by
  refine P_iload_n (n := 2) (q := 12) rfl rfl (by decide +kernel) ?_
  refine B_if_lt (off := 8) (t := 20) (q := 15) c1 (by decide) rfl (by decide +kernel) ?_ ?_
  · exact fun g9 => (PW_sub (ls' := []) trivial (h1 g9))
  · exact fun g9 => (h2 g9)
theorem S_X10_change_15 {X : CX} {d : Nat} {x1 x2 : Int} {I R : PF} {Q : PV → PF → PF → Prop} (c1 : -2147483648 ≤ x2 ∧ x2 < 2147483648) (h1 : x2 ≤ 2 → PN X d mX10_change 22 [(2, 64), (0, x1), (0, x2)] [] I R Q) (h2 : 2 < x2 → PN X d mX10_change 20 [] [] I R Q) : PN X d mX10_change 15 [(2, 64), (0, x1), (0, x2)] [] I R Q := by
  refine P_iload_n (n := 2) (q := 16) rfl rfl (by decide +kernel) ?_
  refine P_iconst (n := 2) (q := 17) rfl (by decide +kernel) ?_
  refine B_icmp_le (off := 5) (t := 22) (q := 20) c1 ⟨by decide, by decide⟩ (by decide) rfl (by decide +kernel) ?_ ?_
  · exact fun g9 => (h1 g9)
  · exact fun g9 => (PW_sub (ls' := []) trivial (h2 g9))
theorem S_X10_change_20 {X : CX} {d : Nat} {I R : PF} {Q : PV → PF → PF → Prop} (h : Q (0, (-1)) I R) : PN X d mX10_change 20 [] [] I R Q := by
  refine P_iconst (n := (-1)) (q := 21) rfl (by decide +kernel) ?_
  refine P_iret rfl (by decide +kernel) h
theorem S_X10_change_22 {X : CX} {d d1 : Nat} {x1 x2 t1 : Int} {I R : PF} {Q Q1 : PV → PF → PF → Prop} (hs : Shp R) (r1 : R 64 8 = t1) (e1 : d1 + 1 ≤ d) (hc : CN X d1 mX1_prepare [(2, 127), (2, t1), (2, 111), (0, (I 111 0)), (2, 0)] I R Q1) (h : ∀ z I2 R2, Q1 (9, z) I2 R2 → PN X d mX10_change 45 [(2, 64), (0, x1), (0, x2)] [] I2 R2 Q) : PN X d mX10_change 22 [(2, 64), (0, x1), (0, x2)] [] I R Q := by
  refine P_aload_n (n := 0) (q := 23) rfl rfl (by decide +kernel) ?_
  refine B_getfR (q := 26) fX10_85 kM64 (rM64_13 hs) rfl (by decide +kernel) ?_
  refine P_aload_n (n := 0) (q := 27) rfl rfl (by decide +kernel) ?_
  refine B_getfR (q := 30) fX10_54 kM64 r1 rfl (by decide +kernel) ?_
  refine P_aload_n (n := 0) (q := 31) rfl rfl (by decide +kernel) ?_
  refine B_getfR (q := 34) fX10_73 kM64 (rM64_11 hs) rfl (by decide +kernel) ?_
  refine P_aload_n (n := 0) (q := 35) rfl rfl (by decide +kernel) ?_
  refine B_getfR (q := 38) fX10_73 kM64 (rM64_11 hs) rfl (by decide +kernel) ?_
  refine P_getf (q := 41) fX10_157 kM111 rfl (by decide +kernel) ?_
  refine P_anull (q := 42) rfl (by decide +kernel) ?_
  refine P_invV (As := [(2, t1), (2, 111), (0, (I 111 0)), (2, 0)]) (q := 45) oX1_prepare rfl kM127 kX10_215 e1 hMF (Nat.le_of_ble_eq_true rfl) hc rfl (by decide +kernel) (fun z I2 R2 hq => ?_)
  exact (h z I2 R2 hq)
theorem S_X10_change_45 {X : CX} {d : Nat} {x1 x2 : Int} {I R : PF} {Q : PV → PF → PF → Prop} (h : PN X d mX10_change 53 [(2, 64), (0, x1), (0, x2), (0, (-1)), (0, 0), (0, 0)] [] I R Q) : PN X d mX10_change 45 [(2, 64), (0, x1), (0, x2)] [] I R Q := by
  refine P_iconst (n := (-1)) (q := 46) rfl (by decide +kernel) ?_
  refine P_istore_n (n := 3) (by decide) (q := 47) rfl (by decide +kernel) ?_
  refine P_iconst (n := 0) (q := 48) rfl (by decide +kernel) ?_
  refine P_istore (n := 4) (by decide) (q := 50) rfl (by decide +kernel) ?_
  refine P_iconst (n := 0) (q := 51) rfl (by decide +kernel) ?_
  refine P_istore (n := 5) (by decide) (q := 53) rfl (by decide +kernel) ?_
  exact h
theorem S_X10_change_53 {X : CX} {d : Nat} {x1 x2 x3 x4 x5 : Int} {I R : PF} {Q : PV → PF → PF → Prop} (c1 : -2147483648 ≤ x5 ∧ x5 < 2147483648) (h1 : 33 ≤ x5 → PN X d mX10_change 106 [(9, 0), (9, 0), (0, x2), (0, x3), (0, x4)] [] I R Q) (h2 : x5 < 33 → PN X d mX10_change 60 [(2, 64), (0, x1), (0, x2), (0, x3), (0, x4), (0, x5)] [] I R Q) : PN X d mX10_change 53 [(2, 64), (0, x1), (0, x2), (0, x3), (0, x4), (0, x5)] [] I R Q := by
  refine P_iload (n := 5) (q := 55) rfl rfl (by decide +kernel) ?_
  refine P_bipush (n := 33) (q := 57) rfl rfl (by decide +kernel) ?_
  refine B_icmp_ge (off := 49) (t := 106) (q := 60) c1 ⟨by decide, by decide⟩ (by decide) rfl (by decide +kernel) ?_ ?_
  · exact fun g9 => (PW_sub (ls' := [(9, 0), (9, 0), (0, x2), (0, x3), (0, x4)]) ⟨Or.inl rfl, Or.inl rfl, Or.inr rfl, Or.inr rfl, Or.inr rfl, trivial⟩ (h1 g9))
  · exact fun g9 => (h2 g9)
theorem S_X10_change_60 {X : CX} {d d1 : Nat} {x1 x2 x3 x4 x5 : Int} {I R : PF} {Q Q1 : PV → PF → PF → Prop} (e1 : d1 + 1 ≤ d) (hc : CN X d1 mX10_offNow [(2, 64), (0, x5)] I R Q1) (h : ∀ z I2 R2, Q1 (0, z) I2 R2 → PN X d mX10_change 66 [(2, 64), (0, x1), (0, x2), (0, x3), (0, x4), (0, x5)] [(0, z)] I2 R2 Q) : PN X d mX10_change 60 [(2, 64), (0, x1), (0, x2), (0, x3), (0, x4), (0, x5)] [] I R Q := by
  refine P_aload_n (n := 0) (q := 61) rfl rfl (by decide +kernel) ?_
  refine P_iload (n := 5) (q := 63) rfl rfl (by decide +kernel) ?_
  refine P_invV (As := [(0, x5)]) (q := 66) oX10_offNow rfl kM64 kX10_258 e1 hMF (Nat.le_of_ble_eq_true rfl) hc rfl (by decide +kernel) (fun z I2 R2 hq => ?_)
  exact (h z I2 R2 hq)
theorem S_X10_change_66 {X : CX} {d : Nat} {x1 x2 x3 x4 x5 o0 : Int} {I R : PF} {Q : PV → PF → PF → Prop} (c1 : -2147483648 ≤ x3 ∧ x3 < 2147483648) (h1 : x3 = (-1) → PN X d mX10_change 80 [(2, 64), (0, x1), (0, x2), (0, x3), (0, x4), (0, x5), (0, o0)] [] I R Q) (h2 : x3 ≠ (-1) → PN X d mX10_change 73 [(2, 64), (0, x1), (0, x2), (0, x3), (0, x4), (0, x5), (0, o0)] [] I R Q) : PN X d mX10_change 66 [(2, 64), (0, x1), (0, x2), (0, x3), (0, x4), (0, x5)] [(0, o0)] I R Q := by
  refine P_istore (n := 6) (by decide) (q := 68) rfl (by decide +kernel) ?_
  refine P_iload_n (n := 3) (q := 69) rfl rfl (by decide +kernel) ?_
  refine P_iconst (n := (-1)) (q := 70) rfl (by decide +kernel) ?_
  refine B_icmp_eq (off := 10) (t := 80) (q := 73) c1 ⟨by decide, by decide⟩ (by decide) rfl (by decide +kernel) ?_ ?_
  · exact fun g9 => (h1 g9)
  · exact fun g9 => (h2 g9)
theorem S_X10_change_73 {X : CX} {d : Nat} {x1 x2 x3 x4 x5 x6 : Int} {I R : PF} {Q : PV → PF → PF → Prop} (c1 : -2147483648 ≤ x6 ∧ x6 < 2147483648) (c2 : -2147483648 ≤ x4 ∧ x4 < 2147483648) (h1 : x4 ≤ x6 → PN X d mX10_change 100 [(2, 64), (0, x1), (0, x2), (0, x3), (0, x4), (0, x5)] [] I R Q) (h2 : x6 < x4 → PN X d mX10_change 80 [(2, 64), (0, x1), (0, x2), (0, x3), (0, x4), (0, x5), (0, x6)] [] I R Q) : PN X d mX10_change 73 [(2, 64), (0, x1), (0, x2), (0, x3), (0, x4), (0, x5), (0, x6)] [] I R Q := by
  refine P_iload (n := 6) (q := 75) rfl rfl (by decide +kernel) ?_
  refine P_iload (n := 4) (q := 77) rfl rfl (by decide +kernel) ?_
  refine B_icmp_ge (off := 23) (t := 100) (q := 80) c1 c2 (by decide) rfl (by decide +kernel) ?_ ?_
  · exact fun g9 => (PW_sub (ls' := [(2, 64), (0, x1), (0, x2), (0, x3), (0, x4), (0, x5)]) ⟨Or.inr rfl, Or.inr rfl, Or.inr rfl, Or.inr rfl, Or.inr rfl, Or.inr rfl, trivial⟩ (h1 g9))
  · exact fun g9 => (h2 g9)
theorem S_X10_change_80 {X : CX} {d d1 : Nat} {x1 x2 x3 x4 x5 x6 : Int} {I R : PF} {Q Q1 : PV → PF → PF → Prop} (hs : Shp R) (e1 : d1 + 1 ≤ d) (hc : CN X d1 mX1_got [(2, 127), (0, x5)] I R Q1) (h : ∀ z I2 R2, Q1 (0, z) I2 R2 → PN X d mX10_change 89 [(2, 64), (0, x1), (0, x2), (0, x3), (0, x4), (0, x5), (0, x6)] [(0, z)] I2 R2 Q) : PN X d mX10_change 80 [(2, 64), (0, x1), (0, x2), (0, x3), (0, x4), (0, x5), (0, x6)] [] I R Q := by
  refine P_aload_n (n := 0) (q := 81) rfl rfl (by decide +kernel) ?_
  refine B_getfR (q := 84) fX10_85 kM64 (rM64_13 hs) rfl (by decide +kernel) ?_
  refine P_iload (n := 5) (q := 86) rfl rfl (by decide +kernel) ?_
  refine P_invV (As := [(0, x5)]) (q := 89) oX1_got rfl kM127 kX10_261 e1 hMF (Nat.le_of_ble_eq_true rfl) hc rfl (by decide +kernel) (fun z I2 R2 hq => ?_)
  exact (h z I2 R2 hq)
theorem S_X10_change_89 {X : CX} {d : Nat} {x1 x2 x3 x4 x5 x6 o0 : Int} {I R : PF} {Q : PV → PF → PF → Prop} (c1 : -2147483648 ≤ o0 ∧ o0 < 2147483648) (c2 : -2147483648 ≤ x1 ∧ x1 < 2147483648) (h1 : o0 ≠ x1 → PN X d mX10_change 100 [(2, 64), (0, x1), (0, x2), (0, x3), (0, x4), (0, x5)] [] I R Q) (h2 : o0 = x1 → PN X d mX10_change 93 [(2, 64), (0, x1), (0, x2), (9, 0), (9, 0), (0, x5), (0, x6)] [] I R Q) : PN X d mX10_change 89 [(2, 64), (0, x1), (0, x2), (0, x3), (0, x4), (0, x5), (0, x6)] [(0, o0)] I R Q := by
  refine P_iload_n (n := 1) (q := 90) rfl rfl (by decide +kernel) ?_
  refine B_icmp_ne (off := 10) (t := 100) (q := 93) c1 c2 (by decide) rfl (by decide +kernel) ?_ ?_
  · exact fun g9 => (PW_sub (ls' := [(2, 64), (0, x1), (0, x2), (0, x3), (0, x4), (0, x5)]) ⟨Or.inr rfl, Or.inr rfl, Or.inr rfl, Or.inr rfl, Or.inr rfl, Or.inr rfl, trivial⟩ (h1 g9))
  · exact fun g9 => (PW_sub (ls' := [(2, 64), (0, x1), (0, x2), (9, 0), (9, 0), (0, x5), (0, x6)]) ⟨Or.inr rfl, Or.inr rfl, Or.inr rfl, Or.inl rfl, Or.inl rfl, Or.inr rfl, Or.inr rfl, trivial⟩ (h2 g9))
theorem S_X10_change_93 {X : CX} {d : Nat} {x1 x2 x5 x6 : Int} {I R : PF} {Q : PV → PF → PF → Prop} (h : PN X d mX10_change 100 [(2, 64), (0, x1), (0, x2), (0, x5), (0, x6), (0, x5)] [] I R Q) : PN X d mX10_change 93 [(2, 64), (0, x1), (0, x2), (9, 0), (9, 0), (0, x5), (0, x6)] [] I R Q := by
  refine P_iload (n := 5) (q := 95) rfl rfl (by decide +kernel) ?_
  refine P_istore_n (n := 3) (by decide) (q := 96) rfl (by decide +kernel) ?_
  refine P_iload (n := 6) (q := 98) rfl rfl (by decide +kernel) ?_
  refine P_istore (n := 4) (by decide) (q := 100) rfl (by decide +kernel) ?_
  exact (PW_sub (ls' := [(2, 64), (0, x1), (0, x2), (0, x5), (0, x6), (0, x5)]) ⟨Or.inr rfl, Or.inr rfl, Or.inr rfl, Or.inr rfl, Or.inr rfl, Or.inr rfl, trivial⟩ h)
theorem S_X10_change_100 {X : CX} {d : Nat} {x1 x2 x3 x4 x5 : Int} {I R : PF} {Q : PV → PF → PF → Prop} (h : PN X d mX10_change 53 [(2, 64), (0, x1), (0, x2), (0, x3), (0, x4), (0, (x5 + 1))] [] I R Q) : PN X d mX10_change 100 [(2, 64), (0, x1), (0, x2), (0, x3), (0, x4), (0, x5)] [] I R Q := by
  refine P_iinc (n := 5) (a := 1) (by decide) rfl (q := 103) rfl (by decide +kernel) ?_
  refine P_goto (off := (-50)) (t := 53) (by decide) (by decide +kernel) ?_
  exact (PW_sub (ls' := [(2, 64), (0, x1), (0, x2), (0, x3), (0, x4), (0, (x5 + 1))]) ⟨Or.inr rfl, Or.inr rfl, Or.inr rfl, Or.inr rfl, Or.inr rfl, Or.inr rfl, trivial⟩ h)
theorem S_X10_change_106 {X : CX} {d : Nat} {x2 x3 x4 : Int} {I R : PF} {Q : PV → PF → PF → Prop} (c1 : -2147483648 ≤ x3 ∧ x3 < 2147483648) (h1 : x3 ≠ (-1) → PN X d mX10_change 113 [(9, 0), (9, 0), (0, x2), (0, x3), (0, x4)] [] I R Q) (h2 : x3 = (-1) → PN X d mX10_change 111 [] [] I R Q) : PN X d mX10_change 106 [(9, 0), (9, 0), (0, x2), (0, x3), (0, x4)] [] I R Q := by
  refine P_iload_n (n := 3) (q := 107) rfl rfl (by decide +kernel) ?_
  refine P_iconst (n := (-1)) (q := 108) rfl (by decide +kernel) ?_
  refine B_icmp_ne (off := 5) (t := 113) (q := 111) c1 ⟨by decide, by decide⟩ (by decide) rfl (by decide +kernel) ?_ ?_
  · exact fun g9 => (PW_sub (ls' := [(9, 0), (9, 0), (0, x2), (0, x3), (0, x4)]) ⟨Or.inl rfl, Or.inl rfl, Or.inr rfl, Or.inr rfl, Or.inr rfl, trivial⟩ (h1 g9))
  · exact fun g9 => (PW_sub (ls' := []) trivial (h2 g9))
theorem S_X10_change_111 {X : CX} {d : Nat} {I R : PF} {Q : PV → PF → PF → Prop} (h : Q (0, (-1)) I R) : PN X d mX10_change 111 [] [] I R Q := by
  refine P_iconst (n := (-1)) (q := 112) rfl (by decide +kernel) ?_
  refine P_iret rfl (by decide +kernel) h
theorem S_X10_change_113 {X : CX} {d : Nat} {x2 x3 x4 : Int} {I R : PF} {Q : PV → PF → PF → Prop} (c1 : -2147483648 ≤ x2 ∧ x2 < 2147483648) (h1 : x2 ≠ 2 → PN X d mX10_change 121 [(9, 0), (9, 0), (0, x2), (0, x3)] [] I R Q) (h2 : x2 = 2 → PN X d mX10_change 118 [(9, 0), (9, 0), (9, 0), (9, 0), (0, x4)] [] I R Q) : PN X d mX10_change 113 [(9, 0), (9, 0), (0, x2), (0, x3), (0, x4)] [] I R Q := by
  refine P_iload_n (n := 2) (q := 114) rfl rfl (by decide +kernel) ?_
  refine P_iconst (n := 2) (q := 115) rfl (by decide +kernel) ?_
  refine B_icmp_ne (off := 6) (t := 121) (q := 118) c1 ⟨by decide, by decide⟩ (by decide) rfl (by decide +kernel) ?_ ?_
  · exact fun g9 => (PW_sub (ls' := [(9, 0), (9, 0), (0, x2), (0, x3)]) ⟨Or.inl rfl, Or.inl rfl, Or.inr rfl, Or.inr rfl, trivial⟩ (h1 g9))
  · exact fun g9 => (PW_sub (ls' := [(9, 0), (9, 0), (9, 0), (9, 0), (0, x4)]) ⟨Or.inl rfl, Or.inl rfl, Or.inl rfl, Or.inl rfl, Or.inr rfl, trivial⟩ (h2 g9))
theorem S_X10_change_118 {X : CX} {d : Nat} {x4 : Int} {I R : PF} {Q : PV → PF → PF → Prop} (h : Q (0, x4) I R) : PN X d mX10_change 118 [(9, 0), (9, 0), (9, 0), (9, 0), (0, x4)] [] I R Q := by
  refine P_iload (n := 4) (q := 120) rfl rfl (by decide +kernel) ?_
  refine P_iret rfl (by decide +kernel) h
theorem S_X10_change_121 {X : CX} {d : Nat} {x2 x3 : Int} {I R : PF} {Q : PV → PF → PF → Prop} (c1 : -2147483648 ≤ x2 ∧ x2 < 2147483648) (h1 : x2 ≠ 0 → PN X d mX10_change 132 [(9, 0), (9, 0), (9, 0), (0, x3)] [] I R Q) (h2 : x2 = 0 → PN X d mX10_change 125 [(9, 0), (9, 0), (9, 0), (0, x3)] [] I R Q) : PN X d mX10_change 121 [(9, 0), (9, 0), (0, x2), (0, x3)] [] I R Q := by
  refine P_iload_n (n := 2) (q := 122) rfl rfl (by decide +kernel) ?_
  refine B_if_ne (off := 10) (t := 132) (q := 125) c1 (by decide) rfl (by decide +kernel) ?_ ?_
  · exact fun g9 => (PW_sub (ls' := [(9, 0), (9, 0), (9, 0), (0, x3)]) ⟨Or.inl rfl, Or.inl rfl, Or.inl rfl, Or.inr rfl, trivial⟩ (h1 g9))
  · exact fun g9 => (PW_sub (ls' := [(9, 0), (9, 0), (9, 0), (0, x3)]) ⟨Or.inl rfl, Or.inl rfl, Or.inl rfl, Or.inr rfl, trivial⟩ (h2 g9))
theorem S_X10_change_125 {X : CX} {d d1 : Nat} {x3 : Int} {I R : PF} {Q Q1 : PV → PF → PF → Prop} (e1 : d1 + 1 ≤ d) (hc : CN X d1 mX10_wayOf [(0, x3)] I R Q1) (h : ∀ z I2 R2, Q1 (0, z) I2 R2 → PN X d mX10_change 129 [] [(0, z)] I2 R2 Q) : PN X d mX10_change 125 [(9, 0), (9, 0), (9, 0), (0, x3)] [] I R Q := by
  refine P_iload_n (n := 3) (q := 126) rfl rfl (by decide +kernel) ?_
  refine P_invS (As := [(0, x3)]) (q := 129) oX10_wayOf rfl (Or.inl kX10_264) e1 hMF (Nat.le_of_ble_eq_true rfl) hc rfl (by decide +kernel) (fun z I2 R2 hq => ?_)
  exact (PW_sub (ls' := []) trivial (h z I2 R2 hq))
theorem S_X10_change_129 {X : CX} {d : Nat} {o0 : Int} {I R : PF} {Q : PV → PF → PF → Prop} (h : PN X d mX10_change 136 [] [(0, o0)] I R Q) : PN X d mX10_change 129 [] [(0, o0)] I R Q := by
  refine P_goto (off := 7) (t := 136) (by decide) (by decide +kernel) ?_
  exact (PW_sub (ls' := []) trivial h)
theorem S_X10_change_132 {X : CX} {d d1 : Nat} {x3 : Int} {I R : PF} {Q Q1 : PV → PF → PF → Prop} (e1 : d1 + 1 ≤ d) (hc : CN X d1 mX10_forceOf [(0, x3)] I R Q1) (h : ∀ z I2 R2, Q1 (0, z) I2 R2 → PN X d mX10_change 136 [] [(0, z)] I2 R2 Q) : PN X d mX10_change 132 [(9, 0), (9, 0), (9, 0), (0, x3)] [] I R Q := by
  refine P_iload_n (n := 3) (q := 133) rfl rfl (by decide +kernel) ?_
  refine P_invS (As := [(0, x3)]) (q := 136) oX10_forceOf rfl (Or.inl kX10_267) e1 hMF (Nat.le_of_ble_eq_true rfl) hc rfl (by decide +kernel) (fun z I2 R2 hq => ?_)
  exact (PW_sub (ls' := []) trivial (h z I2 R2 hq))
theorem S_X10_change_136 {X : CX} {d : Nat} {o0 : Int} {I R : PF} {Q : PV → PF → PF → Prop} (h : Q (0, o0) I R) : PN X d mX10_change 136 [] [(0, o0)] I R Q := by
  refine P_iret rfl (by decide +kernel) h
theorem S_X10_end_0 {X : CX} {d : Nat} {x1 : Int} {I R : PF} {Q : PV → PF → PF → Prop} (c1 : -2147483648 ≤ x1 ∧ x1 < 2147483648) (h1 : x1 < 0 → PN X d mX10_end 12 [(2, 64)] [] I R Q) (h2 : 0 ≤ x1 → PN X d mX10_end 4 [(2, 64), (0, x1)] [] I R Q) : PN X d mX10_end 0 [(2, 64), (0, x1)] [] I R Q := by
  refine P_iload_n (n := 1) (q := 1) rfl rfl (by decide +kernel) ?_
  refine B_if_lt (off := 11) (t := 12) (q := 4) c1 (by decide) rfl (by decide +kernel) ?_ ?_
  · exact fun g9 => (PW_sub (ls' := [(2, 64)]) ⟨Or.inr rfl, trivial⟩ (h1 g9))
  · exact fun g9 => (h2 g9)
theorem S_X10_end_4 {X : CX} {d : Nat} {x1 : Int} {I R : PF} {Q : PV → PF → PF → Prop} (c1 : -2147483648 ≤ x1 ∧ x1 < 2147483648) (c2 : -2147483648 ≤ (I 64 1) ∧ (I 64 1) < 2147483648) (h1 : x1 ≤ (I 64 1) → PN X d mX10_end 24 [(2, 64), (0, x1)] [] I R Q) (h2 : (I 64 1) < x1 → PN X d mX10_end 12 [(2, 64)] [] I R Q) : PN X d mX10_end 4 [(2, 64), (0, x1)] [] I R Q := by
  refine P_iload_n (n := 1) (q := 5) rfl rfl (by decide +kernel) ?_
  refine P_aload_n (n := 0) (q := 6) rfl rfl (by decide +kernel) ?_
  refine P_getf (q := 9) fX10_13 kM64 rfl (by decide +kernel) ?_
  refine B_icmp_le (off := 15) (t := 24) (q := 12) c1 c2 (by decide) rfl (by decide +kernel) ?_ ?_
  · exact fun g9 => (h1 g9)
  · exact fun g9 => (PW_sub (ls' := [(2, 64)]) ⟨Or.inr rfl, trivial⟩ (h2 g9))
theorem S_X10_end_12 {X : CX} {d : Nat} {I R : PF} {Q : PV → PF → PF → Prop} (hs : Shp R) (h : Q (0, 0) (u2 I 66 0 ((I 66 0) + 1)) R) : PN X d mX10_end 12 [(2, 64)] [] I R Q := by
  refine P_aload_n (n := 0) (q := 13) rfl rfl (by decide +kernel) ?_
  refine B_getfR (q := 16) fX10_17 kM64 (rM64_2 hs) rfl (by decide +kernel) ?_
  refine P_iconst (n := 0) (q := 17) rfl (by decide +kernel) ?_
  refine P_dup2 (q := 18) (Nat.ne_of_beq_eq_false rfl) (Nat.ne_of_beq_eq_false rfl) rfl (by decide +kernel) ?_
  refine B_iaload (q := 19) kM66 nM66 (by decide) ⟨by decide, by decide⟩ rfl (by decide +kernel) ?_
  refine P_iconst (n := 1) (q := 20) rfl (by decide +kernel) ?_
  refine P_iadd (q := 21) rfl (by decide +kernel) ?_
  refine B_iastore (q := 22) kM66 nM66 (by decide) ⟨by decide, by decide⟩ rfl (by decide +kernel) ?_
  refine P_iconst (n := 0) (q := 23) rfl (by decide +kernel) ?_
  refine P_zret rfl (Or.inl rfl) (by decide +kernel) h
theorem S_X10_end_24 {X : CX} {d : Nat} {x1 : Int} {I R : PF} {Q : PV → PF → PF → Prop} (h : Q (0, 1) (u2 I 64 1 x1) R) : PN X d mX10_end 24 [(2, 64), (0, x1)] [] I R Q := by
  refine P_aload_n (n := 0) (q := 25) rfl rfl (by decide +kernel) ?_
  refine P_iload_n (n := 1) (q := 26) rfl rfl (by decide +kernel) ?_
  refine P_putI (q := 29) wX10_13 (fun h => by cases h) kM64 rfl (by decide +kernel) ?_
  refine P_iconst (n := 1) (q := 30) rfl (by decide +kernel) ?_
  refine P_zret rfl (Or.inr rfl) (by decide +kernel) h
theorem S_X10_fault_0 {X : CX} {d : Nat} {x1 : Int} {I R : PF} {Q : PV → PF → PF → Prop} (c1 : -2147483648 ≤ x1 ∧ x1 < 2147483648) (h1 : x1 ≠ 0 → PN X d mX10_fault 9 [(2, 64), (0, x1)] [] I R Q) (h2 : x1 = 0 → PN X d mX10_fault 4 [(2, 64)] [] I R Q) : PN X d mX10_fault 0 [(2, 64), (0, x1)] [] I R Q := by
  refine P_iload_n (n := 1) (q := 1) rfl rfl (by decide +kernel) ?_
  refine B_if_ne (off := 8) (t := 9) (q := 4) c1 (by decide) rfl (by decide +kernel) ?_ ?_
  · exact fun g9 => (h1 g9)
  · exact fun g9 => (PW_sub (ls' := [(2, 64)]) ⟨Or.inr rfl, trivial⟩ (h2 g9))
theorem S_X10_fault_4 {X : CX} {d : Nat} {I R : PF} {Q : PV → PF → PF → Prop} (h : Q (0, (I 64 3)) I R) : PN X d mX10_fault 4 [(2, 64)] [] I R Q := by
  refine P_aload_n (n := 0) (q := 5) rfl rfl (by decide +kernel) ?_
  refine P_getf (q := 8) fX10_20 kM64 rfl (by decide +kernel) ?_
  refine P_iret rfl (by decide +kernel) h
theorem S_X10_fault_9 {X : CX} {d : Nat} {x1 : Int} {I R : PF} {Q : PV → PF → PF → Prop} (c1 : -2147483648 ≤ x1 ∧ x1 < 2147483648) (h1 : x1 ≠ 1 → PN X d mX10_fault 21 [] [] I R Q) (h2 : x1 = 1 → PN X d mX10_fault 14 [(2, 64)] [] I R Q) : PN X d mX10_fault 9 [(2, 64), (0, x1)] [] I R Q := by
  refine P_iload_n (n := 1) (q := 10) rfl rfl (by decide +kernel) ?_
  refine P_iconst (n := 1) (q := 11) rfl (by decide +kernel) ?_
  refine B_icmp_ne (off := 10) (t := 21) (q := 14) c1 ⟨by decide, by decide⟩ (by decide) rfl (by decide +kernel) ?_ ?_
  · exact fun g9 => (PW_sub (ls' := []) trivial (h1 g9))
  · exact fun g9 => (PW_sub (ls' := [(2, 64)]) ⟨Or.inr rfl, trivial⟩ (h2 g9))
theorem S_X10_fault_14 {X : CX} {d : Nat} {I R : PF} {Q : PV → PF → PF → Prop} (h : PN X d mX10_fault 22 [] [(0, (I 64 4))] I R Q) : PN X d mX10_fault 14 [(2, 64)] [] I R Q := by
  refine P_aload_n (n := 0) (q := 15) rfl rfl (by decide +kernel) ?_
  refine P_getf (q := 18) fX10_23 kM64 rfl (by decide +kernel) ?_
  refine P_goto (off := 4) (t := 22) (by decide) (by decide +kernel) ?_
  exact (PW_sub (ls' := []) trivial h)
theorem S_X10_fault_21 {X : CX} {d : Nat} {I R : PF} {Q : PV → PF → PF → Prop} (h : PN X d mX10_fault 22 [] [(0, (-1))] I R Q) : PN X d mX10_fault 21 [] [] I R Q := by
  refine P_iconst (n := (-1)) (q := 22) rfl (by decide +kernel) ?_
  exact (PW_sub (ls' := []) trivial h)
theorem S_X10_fault_22 {X : CX} {d : Nat} {o0 : Int} {I R : PF} {Q : PV → PF → PF → Prop} (h : Q (0, o0) I R) : PN X d mX10_fault 22 [] [(0, o0)] I R Q := by
  refine P_iret rfl (by decide +kernel) h
theorem S_X10_feed_0 {X : CX} {d : Nat} {x1 x2 x3 x4 x5 : Int} {I R : PF} {Q : PV → PF → PF → Prop} (c1 : -2147483648 ≤ ((I 64 1) + 20) ∧ ((I 64 1) + 20) < 2147483648) (h1 : ((I 64 1) + 20) ≤ 1600 → PN X d mX10_feed 25 [(2, 64), (0, x1), (0, x2), (0, x3), (0, x4), (0, x5)] [] I R Q) (h2 : 1600 < ((I 64 1) + 20) → PN X d mX10_feed 13 [(2, 64)] [] I R Q) : PN X d mX10_feed 0 [(2, 64), (0, x1), (0, x2), (0, x3), (0, x4), (0, x5)] [] I R Q := by
  refine P_aload_n (n := 0) (q := 1) rfl rfl (by decide +kernel) ?_
  refine P_getf (q := 4) fX10_13 kM64 rfl (by decide +kernel) ?_
  refine P_bipush (n := 20) (q := 6) rfl rfl (by decide +kernel) ?_
  refine P_iadd (q := 7) rfl (by decide +kernel) ?_
  refine P_sipush (n := 1600) (q := 10) rfl rfl (by decide +kernel) ?_
  refine B_icmp_le (off := 15) (t := 25) (q := 13) c1 ⟨by decide, by decide⟩ (by decide) rfl (by decide +kernel) ?_ ?_
  · exact fun g9 => (h1 g9)
  · exact fun g9 => (PW_sub (ls' := [(2, 64)]) ⟨Or.inr rfl, trivial⟩ (h2 g9))
theorem S_X10_feed_13 {X : CX} {d : Nat} {I R : PF} {Q : PV → PF → PF → Prop} (hs : Shp R) (h : Q (0, (-1)) (u2 I 66 0 ((I 66 0) + 1)) R) : PN X d mX10_feed 13 [(2, 64)] [] I R Q := by
  refine P_aload_n (n := 0) (q := 14) rfl rfl (by decide +kernel) ?_
  refine B_getfR (q := 17) fX10_17 kM64 (rM64_2 hs) rfl (by decide +kernel) ?_
  refine P_iconst (n := 0) (q := 18) rfl (by decide +kernel) ?_
  refine P_dup2 (q := 19) (Nat.ne_of_beq_eq_false rfl) (Nat.ne_of_beq_eq_false rfl) rfl (by decide +kernel) ?_
  refine B_iaload (q := 20) kM66 nM66 (by decide) ⟨by decide, by decide⟩ rfl (by decide +kernel) ?_
  refine P_iconst (n := 1) (q := 21) rfl (by decide +kernel) ?_
  refine P_iadd (q := 22) rfl (by decide +kernel) ?_
  refine B_iastore (q := 23) kM66 nM66 (by decide) ⟨by decide, by decide⟩ rfl (by decide +kernel) ?_
  refine P_iconst (n := (-1)) (q := 24) rfl (by decide +kernel) ?_
  refine P_iret rfl (by decide +kernel) h
theorem S_X10_feed_25 {X : CX} {d d1 : Nat} {x1 x2 x3 x4 x5 : Int} {I R : PF} {Q Q1 : PV → PF → PF → Prop} (e1 : d1 + 1 ≤ d) (hc : CN X d1 mX10_putNumber [(2, 64), (0, x1)] I R Q1) (h : ∀ z I2 R2, Q1 (9, z) I2 R2 → PN X d mX10_feed 30 [(2, 64), (9, 0), (0, x2), (0, x3), (0, x4), (0, x5)] [] I2 R2 Q) : PN X d mX10_feed 25 [(2, 64), (0, x1), (0, x2), (0, x3), (0, x4), (0, x5)] [] I R Q := by
  refine P_aload_n (n := 0) (q := 26) rfl rfl (by decide +kernel) ?_
  refine P_iload_n (n := 1) (q := 27) rfl rfl (by decide +kernel) ?_
  refine P_invV (As := [(0, x1)]) (q := 30) oX10_putNumber rfl kM64 kX10_115 e1 hMF (Nat.le_of_ble_eq_true rfl) hc rfl (by decide +kernel) (fun z I2 R2 hq => ?_)
  exact (PW_sub (ls' := [(2, 64), (9, 0), (0, x2), (0, x3), (0, x4), (0, x5)]) ⟨Or.inr rfl, Or.inl rfl, Or.inr rfl, Or.inr rfl, Or.inr rfl, Or.inr rfl, trivial⟩ (h z I2 R2 hq))
theorem S_X10_feed_30 {X : CX} {d d1 : Nat} {x2 x3 x4 x5 : Int} {I R : PF} {Q Q1 : PV → PF → PF → Prop} (e1 : d1 + 1 ≤ d) (hc : CN X d1 mX10_putNumber [(2, 64), (0, x2)] I R Q1) (h : ∀ z I2 R2, Q1 (9, z) I2 R2 → PN X d mX10_feed 35 [(2, 64), (9, 0), (9, 0), (0, x3), (0, x4), (0, x5)] [] I2 R2 Q) : PN X d mX10_feed 30 [(2, 64), (9, 0), (0, x2), (0, x3), (0, x4), (0, x5)] [] I R Q := by
  refine P_aload_n (n := 0) (q := 31) rfl rfl (by decide +kernel) ?_
  refine P_iload_n (n := 2) (q := 32) rfl rfl (by decide +kernel) ?_
  refine P_invV (As := [(0, x2)]) (q := 35) oX10_putNumber rfl kM64 kX10_115 e1 hMF (Nat.le_of_ble_eq_true rfl) hc rfl (by decide +kernel) (fun z I2 R2 hq => ?_)
  exact (PW_sub (ls' := [(2, 64), (9, 0), (9, 0), (0, x3), (0, x4), (0, x5)]) ⟨Or.inr rfl, Or.inl rfl, Or.inl rfl, Or.inr rfl, Or.inr rfl, Or.inr rfl, trivial⟩ (h z I2 R2 hq))
theorem S_X10_feed_35 {X : CX} {d d1 : Nat} {x3 x4 x5 : Int} {I R : PF} {Q Q1 : PV → PF → PF → Prop} (e1 : d1 + 1 ≤ d) (hc : CN X d1 mX10_putNumber [(2, 64), (0, x3)] I R Q1) (h : ∀ z I2 R2, Q1 (9, z) I2 R2 → PN X d mX10_feed 40 [(2, 64), (9, 0), (9, 0), (9, 0), (0, x4), (0, x5)] [] I2 R2 Q) : PN X d mX10_feed 35 [(2, 64), (9, 0), (9, 0), (0, x3), (0, x4), (0, x5)] [] I R Q := by
  refine P_aload_n (n := 0) (q := 36) rfl rfl (by decide +kernel) ?_
  refine P_iload_n (n := 3) (q := 37) rfl rfl (by decide +kernel) ?_
  refine P_invV (As := [(0, x3)]) (q := 40) oX10_putNumber rfl kM64 kX10_115 e1 hMF (Nat.le_of_ble_eq_true rfl) hc rfl (by decide +kernel) (fun z I2 R2 hq => ?_)
  exact (PW_sub (ls' := [(2, 64), (9, 0), (9, 0), (9, 0), (0, x4), (0, x5)]) ⟨Or.inr rfl, Or.inl rfl, Or.inl rfl, Or.inl rfl, Or.inr rfl, Or.inr rfl, trivial⟩ (h z I2 R2 hq))
theorem S_X10_feed_40 {X : CX} {d d1 : Nat} {x4 x5 : Int} {I R : PF} {Q Q1 : PV → PF → PF → Prop} (e1 : d1 + 1 ≤ d) (hc : CN X d1 mX10_putNumber [(2, 64), (0, x4)] I R Q1) (h : ∀ z I2 R2, Q1 (9, z) I2 R2 → PN X d mX10_feed 46 [(2, 64), (9, 0), (9, 0), (9, 0), (9, 0), (0, x5)] [] I2 R2 Q) : PN X d mX10_feed 40 [(2, 64), (9, 0), (9, 0), (9, 0), (0, x4), (0, x5)] [] I R Q := by
  refine P_aload_n (n := 0) (q := 41) rfl rfl (by decide +kernel) ?_
  refine P_iload (n := 4) (q := 43) rfl rfl (by decide +kernel) ?_
  refine P_invV (As := [(0, x4)]) (q := 46) oX10_putNumber rfl kM64 kX10_115 e1 hMF (Nat.le_of_ble_eq_true rfl) hc rfl (by decide +kernel) (fun z I2 R2 hq => ?_)
  exact (PW_sub (ls' := [(2, 64), (9, 0), (9, 0), (9, 0), (9, 0), (0, x5)]) ⟨Or.inr rfl, Or.inl rfl, Or.inl rfl, Or.inl rfl, Or.inl rfl, Or.inr rfl, trivial⟩ (h z I2 R2 hq))
theorem S_X10_feed_46 {X : CX} {d d1 : Nat} {x5 : Int} {I R : PF} {Q Q1 : PV → PF → PF → Prop} (e1 : d1 + 1 ≤ d) (hc : CN X d1 mX10_putNumber [(2, 64), (0, x5)] I R Q1) (h : ∀ z I2 R2, Q1 (9, z) I2 R2 → PN X d mX10_feed 52 [(2, 64)] [] I2 R2 Q) : PN X d mX10_feed 46 [(2, 64), (9, 0), (9, 0), (9, 0), (9, 0), (0, x5)] [] I R Q := by
  refine P_aload_n (n := 0) (q := 47) rfl rfl (by decide +kernel) ?_
  refine P_iload (n := 5) (q := 49) rfl rfl (by decide +kernel) ?_
  refine P_invV (As := [(0, x5)]) (q := 52) oX10_putNumber rfl kM64 kX10_115 e1 hMF (Nat.le_of_ble_eq_true rfl) hc rfl (by decide +kernel) (fun z I2 R2 hq => ?_)
  exact (PW_sub (ls' := [(2, 64)]) ⟨Or.inr rfl, trivial⟩ (h z I2 R2 hq))
theorem S_X10_feed_52 {X : CX} {d : Nat} {I R : PF} {Q : PV → PF → PF → Prop} (h : Q (0, (I 64 1)) I R) : PN X d mX10_feed 52 [(2, 64)] [] I R Q := by
  refine P_aload_n (n := 0) (q := 53) rfl rfl (by decide +kernel) ?_
  refine P_getf (q := 56) fX10_13 kM64 rfl (by decide +kernel) ?_
  refine P_iret rfl (by decide +kernel) h
theorem S_X10_forceOf_0 {X : CX} {d : Nat} {x0 : Int} {I R : PF} {Q : PV → PF → PF → Prop} (c1 : -2147483648 ≤ x0 ∧ x0 < 2147483648) (h1 : x0 ≠ 0 → PN X d mX10_forceOf 8 [(0, x0)] [] I R Q) (h2 : x0 = 0 → PN X d mX10_forceOf 4 [] [] I R Q) : PN X d mX10_forceOf 0 [(0, x0)] [] I R Q := by
  refine P_iload_n (n := 0) (q := 1) rfl rfl (by decide +kernel) ?_
  refine B_if_ne (off := 7) (t := 8) (q := 4) c1 (by decide) rfl (by decide +kernel) ?_ ?_
  · exact fun g9 => (h1 g9)
  · exact fun g9 => (PW_sub (ls' := []) trivial (h2 g9))
theorem S_X10_forceOf_4 {X : CX} {d : Nat} {I R : PF} {Q : PV → PF → PF → Prop} (h : PN X d mX10_forceOf 13 [] [(0, 0)] I R Q) : PN X d mX10_forceOf 4 [] [] I R Q := by
  refine P_iconst (n := 0) (q := 5) rfl (by decide +kernel) ?_
  refine P_goto (off := 8) (t := 13) (by decide) (by decide +kernel) ?_
  exact (PW_sub (ls' := []) trivial h)
theorem S_X10_forceOf_8 {X : CX} {d : Nat} {x0 : Int} {I R : PF} {Q : PV → PF → PF → Prop} (c1 : -2147483648 ≤ (x0 + 3) ∧ (x0 + 3) < 2147483648) (h : PN X d mX10_forceOf 13 [] [(0, ((x0 + 3).tmod 4))] I R Q) : PN X d mX10_forceOf 8 [(0, x0)] [] I R Q := by
  refine P_iload_n (n := 0) (q := 9) rfl rfl (by decide +kernel) ?_
  refine P_iconst (n := 3) (q := 10) rfl (by decide +kernel) ?_
  refine P_iadd (q := 11) rfl (by decide +kernel) ?_
  refine P_iconst (n := 4) (q := 12) rfl (by decide +kernel) ?_
  refine B_irem (q := 13) c1 ⟨by decide, by decide⟩ (by decide) rfl (by decide +kernel) ?_
  exact (PW_sub (ls' := []) trivial h)
theorem S_X10_forceOf_13 {X : CX} {d : Nat} {o0 : Int} {I R : PF} {Q : PV → PF → PF → Prop} (h : Q (0, o0) I R) : PN X d mX10_forceOf 13 [] [(0, o0)] I R Q := by
  refine P_iret rfl (by decide +kernel) h
theorem S_X10_has_0 {X : CX} {d : Nat} {x1 : Int} {I R : PF} {Q : PV → PF → PF → Prop} (c1 : -2147483648 ≤ x1 ∧ x1 < 2147483648) (h0 : x1 = 0 → PN X d mX10_has 64 [(2, 64)] [] I R Q) (h1 : x1 = 1 → PN X d mX10_has 72 [(2, 64)] [] I R Q) (h2 : x1 = 2 → PN X d mX10_has 80 [(2, 64)] [] I R Q) (h3 : x1 = 3 → PN X d mX10_has 88 [(2, 64)] [] I R Q) (h4 : x1 = 4 → PN X d mX10_has 96 [(2, 64)] [] I R Q) (h5 : x1 = 5 → PN X d mX10_has 104 [(2, 64)] [] I R Q) (h6 : x1 = 6 → PN X d mX10_has 112 [(2, 64)] [] I R Q) (h7 : x1 = 7 → PN X d mX10_has 120 [(2, 64)] [] I R Q) (h8 : x1 = 8 → PN X d mX10_has 128 [(2, 64)] [] I R Q) (h9 : x1 = 9 → PN X d mX10_has 136 [(2, 64)] [] I R Q) (h10 : x1 = 10 → PN X d mX10_has 144 [(2, 64)] [] I R Q) (h11 : x1 = 11 → PN X d mX10_has 149 [(2, 64)] [] I R Q) (hd : x1 < 0 ∨ 11 < x1 → PN X d mX10_has 157 [] [] I R Q) : PN X d mX10_has 0 [(2, 64), (0, x1)] [] I R Q := by
  refine P_iload_n (n := 1) (q := 1) rfl rfl (by decide +kernel) ?_
  rcases tab_cases (lo := 0) (n := 12) x1 with e9 | ⟨k9, hk9, e9⟩
  · exact P_tableOut (dflt := 156) (lo := 0) (hi := 11) (offs := #[63, 71, 79, 87, 95, 103, 111, 119, 127, 135, 143, 148]) (len := 63) (t := 157) (by decide +kernel) (by rw [w_of c1]; exact e9) (by decide) (PW_sub (ls' := []) trivial (hd e9))
  · match k9, hk9, e9 with
    | 0, _, e9 => exact P_tableIn (dflt := 156) (lo := 0) (hi := 11) (offs := #[63, 71, 79, 87, 95, 103, 111, 119, 127, 135, 143, 148]) (len := 63) (off := 63) (t := 64) (by decide +kernel) (by rw [w_of c1, e9]; decide) (by rw [w_of c1, e9]; decide) (by rw [w_of c1, e9]; rfl) (by decide) (PW_sub (ls' := [(2, 64)]) ⟨Or.inr rfl, trivial⟩ (h0 (e9.trans (by decide))))
    | 1, _, e9 => exact P_tableIn (dflt := 156) (lo := 0) (hi := 11) (offs := #[63, 71, 79, 87, 95, 103, 111, 119, 127, 135, 143, 148]) (len := 63) (off := 71) (t := 72) (by decide +kernel) (by rw [w_of c1, e9]; decide) (by rw [w_of c1, e9]; decide) (by rw [w_of c1, e9]; rfl) (by decide) (PW_sub (ls' := [(2, 64)]) ⟨Or.inr rfl, trivial⟩ (h1 (e9.trans (by decide))))
    | 2, _, e9 => exact P_tableIn (dflt := 156) (lo := 0) (hi := 11) (offs := #[63, 71, 79, 87, 95, 103, 111, 119, 127, 135, 143, 148]) (len := 63) (off := 79) (t := 80) (by decide +kernel) (by rw [w_of c1, e9]; decide) (by rw [w_of c1, e9]; decide) (by rw [w_of c1, e9]; rfl) (by decide) (PW_sub (ls' := [(2, 64)]) ⟨Or.inr rfl, trivial⟩ (h2 (e9.trans (by decide))))
    | 3, _, e9 => exact P_tableIn (dflt := 156) (lo := 0) (hi := 11) (offs := #[63, 71, 79, 87, 95, 103, 111, 119, 127, 135, 143, 148]) (len := 63) (off := 87) (t := 88) (by decide +kernel) (by rw [w_of c1, e9]; decide) (by rw [w_of c1, e9]; decide) (by rw [w_of c1, e9]; rfl) (by decide) (PW_sub (ls' := [(2, 64)]) ⟨Or.inr rfl, trivial⟩ (h3 (e9.trans (by decide))))
    | 4, _, e9 => exact P_tableIn (dflt := 156) (lo := 0) (hi := 11) (offs := #[63, 71, 79, 87, 95, 103, 111, 119, 127, 135, 143, 148]) (len := 63) (off := 95) (t := 96) (by decide +kernel) (by rw [w_of c1, e9]; decide) (by rw [w_of c1, e9]; decide) (by rw [w_of c1, e9]; rfl) (by decide) (PW_sub (ls' := [(2, 64)]) ⟨Or.inr rfl, trivial⟩ (h4 (e9.trans (by decide))))
    | 5, _, e9 => exact P_tableIn (dflt := 156) (lo := 0) (hi := 11) (offs := #[63, 71, 79, 87, 95, 103, 111, 119, 127, 135, 143, 148]) (len := 63) (off := 103) (t := 104) (by decide +kernel) (by rw [w_of c1, e9]; decide) (by rw [w_of c1, e9]; decide) (by rw [w_of c1, e9]; rfl) (by decide) (PW_sub (ls' := [(2, 64)]) ⟨Or.inr rfl, trivial⟩ (h5 (e9.trans (by decide))))
    | 6, _, e9 => exact P_tableIn (dflt := 156) (lo := 0) (hi := 11) (offs := #[63, 71, 79, 87, 95, 103, 111, 119, 127, 135, 143, 148]) (len := 63) (off := 111) (t := 112) (by decide +kernel) (by rw [w_of c1, e9]; decide) (by rw [w_of c1, e9]; decide) (by rw [w_of c1, e9]; rfl) (by decide) (PW_sub (ls' := [(2, 64)]) ⟨Or.inr rfl, trivial⟩ (h6 (e9.trans (by decide))))
    | 7, _, e9 => exact P_tableIn (dflt := 156) (lo := 0) (hi := 11) (offs := #[63, 71, 79, 87, 95, 103, 111, 119, 127, 135, 143, 148]) (len := 63) (off := 119) (t := 120) (by decide +kernel) (by rw [w_of c1, e9]; decide) (by rw [w_of c1, e9]; decide) (by rw [w_of c1, e9]; rfl) (by decide) (PW_sub (ls' := [(2, 64)]) ⟨Or.inr rfl, trivial⟩ (h7 (e9.trans (by decide))))
    | 8, _, e9 => exact P_tableIn (dflt := 156) (lo := 0) (hi := 11) (offs := #[63, 71, 79, 87, 95, 103, 111, 119, 127, 135, 143, 148]) (len := 63) (off := 127) (t := 128) (by decide +kernel) (by rw [w_of c1, e9]; decide) (by rw [w_of c1, e9]; decide) (by rw [w_of c1, e9]; rfl) (by decide) (PW_sub (ls' := [(2, 64)]) ⟨Or.inr rfl, trivial⟩ (h8 (e9.trans (by decide))))
    | 9, _, e9 => exact P_tableIn (dflt := 156) (lo := 0) (hi := 11) (offs := #[63, 71, 79, 87, 95, 103, 111, 119, 127, 135, 143, 148]) (len := 63) (off := 135) (t := 136) (by decide +kernel) (by rw [w_of c1, e9]; decide) (by rw [w_of c1, e9]; decide) (by rw [w_of c1, e9]; rfl) (by decide) (PW_sub (ls' := [(2, 64)]) ⟨Or.inr rfl, trivial⟩ (h9 (e9.trans (by decide))))
    | 10, _, e9 => exact P_tableIn (dflt := 156) (lo := 0) (hi := 11) (offs := #[63, 71, 79, 87, 95, 103, 111, 119, 127, 135, 143, 148]) (len := 63) (off := 143) (t := 144) (by decide +kernel) (by rw [w_of c1, e9]; decide) (by rw [w_of c1, e9]; decide) (by rw [w_of c1, e9]; rfl) (by decide) (PW_sub (ls' := [(2, 64)]) ⟨Or.inr rfl, trivial⟩ (h10 (e9.trans (by decide))))
    | 11, _, e9 => exact P_tableIn (dflt := 156) (lo := 0) (hi := 11) (offs := #[63, 71, 79, 87, 95, 103, 111, 119, 127, 135, 143, 148]) (len := 63) (off := 148) (t := 149) (by decide +kernel) (by rw [w_of c1, e9]; decide) (by rw [w_of c1, e9]; decide) (by rw [w_of c1, e9]; rfl) (by decide) (PW_sub (ls' := [(2, 64)]) ⟨Or.inr rfl, trivial⟩ (h11 (e9.trans (by decide))))
theorem S_X10_has_64 {X : CX} {d : Nat} {t1 : Int} {I R : PF} {Q : PV → PF → PF → Prop} (r1 : R 64 8 = t1) (k1 : kd MF t1 = 6) (h : Q (0, (I t1 0)) I R) : PN X d mX10_has 64 [(2, 64)] [] I R Q := by
  refine P_aload_n (n := 0) (q := 65) rfl rfl (by decide +kernel) ?_
  refine B_getfR (q := 68) fX10_54 kM64 r1 rfl (by decide +kernel) ?_
  refine P_getf (q := 71) fX10_142 k1 rfl (by decide +kernel) ?_
  refine P_iret rfl (by decide +kernel) h
theorem S_X10_has_72 {X : CX} {d : Nat} {t1 : Int} {I R : PF} {Q : PV → PF → PF → Prop} (r1 : R 64 8 = t1) (k1 : kd MF t1 = 6) (h : Q (0, (I t1 1)) I R) : PN X d mX10_has 72 [(2, 64)] [] I R Q := by
  refine P_aload_n (n := 0) (q := 73) rfl rfl (by decide +kernel) ?_
  refine B_getfR (q := 76) fX10_54 kM64 r1 rfl (by decide +kernel) ?_
  refine P_getf (q := 79) fX10_145 k1 rfl (by decide +kernel) ?_
  refine P_iret rfl (by decide +kernel) h
theorem S_X10_has_80 {X : CX} {d : Nat} {t1 : Int} {I R : PF} {Q : PV → PF → PF → Prop} (r1 : R 64 8 = t1) (k1 : kd MF t1 = 6) (h : Q (0, (I t1 5)) I R) : PN X d mX10_has 80 [(2, 64)] [] I R Q := by
  refine P_aload_n (n := 0) (q := 81) rfl rfl (by decide +kernel) ?_
  refine B_getfR (q := 84) fX10_54 kM64 r1 rfl (by decide +kernel) ?_
  refine P_getf (q := 87) fX10_148 k1 rfl (by decide +kernel) ?_
  refine P_iret rfl (by decide +kernel) h
theorem S_X10_has_88 {X : CX} {d : Nat} {I R : PF} {Q : PV → PF → PF → Prop} (hs : Shp R) (h : Q (0, (I 111 3)) I R) : PN X d mX10_has 88 [(2, 64)] [] I R Q := by
  refine P_aload_n (n := 0) (q := 89) rfl rfl (by decide +kernel) ?_
  refine B_getfR (q := 92) fX10_73 kM64 (rM64_11 hs) rfl (by decide +kernel) ?_
  refine P_getf (q := 95) fX10_151 kM111 rfl (by decide +kernel) ?_
  refine P_iret rfl (by decide +kernel) h
theorem S_X10_has_96 {X : CX} {d : Nat} {t1 : Int} {I R : PF} {Q : PV → PF → PF → Prop} (r1 : R 64 8 = t1) (k1 : kd MF t1 = 6) (h : Q (0, (I t1 6)) I R) : PN X d mX10_has 96 [(2, 64)] [] I R Q := by
  refine P_aload_n (n := 0) (q := 97) rfl rfl (by decide +kernel) ?_
  refine B_getfR (q := 100) fX10_54 kM64 r1 rfl (by decide +kernel) ?_
  refine P_getf (q := 103) fX10_154 k1 rfl (by decide +kernel) ?_
  refine P_iret rfl (by decide +kernel) h
theorem S_X10_has_104 {X : CX} {d : Nat} {I R : PF} {Q : PV → PF → PF → Prop} (hs : Shp R) (h : Q (0, (I 111 0)) I R) : PN X d mX10_has 104 [(2, 64)] [] I R Q := by
  refine P_aload_n (n := 0) (q := 105) rfl rfl (by decide +kernel) ?_
  refine B_getfR (q := 108) fX10_73 kM64 (rM64_11 hs) rfl (by decide +kernel) ?_
  refine P_getf (q := 111) fX10_157 kM111 rfl (by decide +kernel) ?_
  refine P_iret rfl (by decide +kernel) h
theorem S_X10_has_112 {X : CX} {d : Nat} {I R : PF} {Q : PV → PF → PF → Prop} (hs : Shp R) (h : Q (0, (I 111 1)) I R) : PN X d mX10_has 112 [(2, 64)] [] I R Q := by
  refine P_aload_n (n := 0) (q := 113) rfl rfl (by decide +kernel) ?_
  refine B_getfR (q := 116) fX10_73 kM64 (rM64_11 hs) rfl (by decide +kernel) ?_
  refine P_getf (q := 119) fX10_160 kM111 rfl (by decide +kernel) ?_
  refine P_iret rfl (by decide +kernel) h
theorem S_X10_has_120 {X : CX} {d d1 : Nat} {I R : PF} {Q Q1 : PV → PF → PF → Prop} (hs : Shp R) (e1 : d1 + 1 ≤ d) (hc : CN X d1 mX8_lawInForce [(2, 111)] I R Q1) (h : ∀ z I2 R2, Q1 (0, z) I2 R2 → PN X d mX10_has 127 [] [(0, z)] I2 R2 Q) : PN X d mX10_has 120 [(2, 64)] [] I R Q := by
  refine P_aload_n (n := 0) (q := 121) rfl rfl (by decide +kernel) ?_
  refine B_getfR (q := 124) fX10_73 kM64 (rM64_11 hs) rfl (by decide +kernel) ?_
  refine P_invV (As := []) (q := 127) oX8_lawInForce rfl kM111 kX10_163 e1 hMF (Nat.le_of_ble_eq_true rfl) hc rfl (by decide +kernel) (fun z I2 R2 hq => ?_)
  exact (PW_sub (ls' := []) trivial (h z I2 R2 hq))
theorem S_X10_has_127 {X : CX} {d : Nat} {o0 : Int} {I R : PF} {Q : PV → PF → PF → Prop} (h : Q (0, o0) I R) : PN X d mX10_has 127 [] [(0, o0)] I R Q := by
  refine P_iret rfl (by decide +kernel) h
theorem S_X10_has_128 {X : CX} {d : Nat} {I R : PF} {Q : PV → PF → PF → Prop} (hs : Shp R) (h : Q (0, (I 111 2)) I R) : PN X d mX10_has 128 [(2, 64)] [] I R Q := by
  refine P_aload_n (n := 0) (q := 129) rfl rfl (by decide +kernel) ?_
  refine B_getfR (q := 132) fX10_73 kM64 (rM64_11 hs) rfl (by decide +kernel) ?_
  refine P_getf (q := 135) fX10_166 kM111 rfl (by decide +kernel) ?_
  refine P_iret rfl (by decide +kernel) h
theorem S_X10_has_136 {X : CX} {d d1 : Nat} {I R : PF} {Q Q1 : PV → PF → PF → Prop} (hs : Shp R) (e1 : d1 + 1 ≤ d) (hc : CN X d1 mX4_told [(2, 136)] I R Q1) (h : ∀ z I2 R2, Q1 (0, z) I2 R2 → PN X d mX10_has 143 [] [(0, z)] I2 R2 Q) : PN X d mX10_has 136 [(2, 64)] [] I R Q := by
  refine P_aload_n (n := 0) (q := 137) rfl rfl (by decide +kernel) ?_
  refine B_getfR (q := 140) fX10_92 kM64 (rM64_14 hs) rfl (by decide +kernel) ?_
  refine P_invV (As := []) (q := 143) oX4_told rfl kM136 kX10_169 e1 hMF (Nat.le_of_ble_eq_true rfl) hc rfl (by decide +kernel) (fun z I2 R2 hq => ?_)
  exact (PW_sub (ls' := []) trivial (h z I2 R2 hq))
theorem S_X10_has_143 {X : CX} {d : Nat} {o0 : Int} {I R : PF} {Q : PV → PF → PF → Prop} (h : Q (0, o0) I R) : PN X d mX10_has 143 [] [(0, o0)] I R Q := by
  refine P_iret rfl (by decide +kernel) h
theorem S_X10_has_144 {X : CX} {d : Nat} {I R : PF} {Q : PV → PF → PF → Prop} (h : Q (0, (I 64 17)) I R) : PN X d mX10_has 144 [(2, 64)] [] I R Q := by
  refine P_aload_n (n := 0) (q := 145) rfl rfl (by decide +kernel) ?_
  refine P_getf (q := 148) fX10_106 kM64 rfl (by decide +kernel) ?_
  refine P_iret rfl (by decide +kernel) h
theorem S_X10_has_149 {X : CX} {d : Nat} {I R : PF} {Q : PV → PF → PF → Prop} (hs : Shp R) (h : Q (0, (I 136 5)) I R) : PN X d mX10_has 149 [(2, 64)] [] I R Q := by
  refine P_aload_n (n := 0) (q := 150) rfl rfl (by decide +kernel) ?_
  refine B_getfR (q := 153) fX10_92 kM64 (rM64_14 hs) rfl (by decide +kernel) ?_
  refine P_getf (q := 156) fX10_172 kM136 rfl (by decide +kernel) ?_
  refine P_iret rfl (by decide +kernel) h
theorem S_X10_has_157 {X : CX} {d : Nat} {I R : PF} {Q : PV → PF → PF → Prop} (h : Q (0, (-1)) I R) : PN X d mX10_has 157 [] [] I R Q := by
  refine P_iconst (n := (-1)) (q := 158) rfl (by decide +kernel) ?_
  refine P_iret rfl (by decide +kernel) h
theorem S_X10_hatless_0 {X : CX} {d d1 : Nat} {I R : PF} {Q Q1 : PV → PF → PF → Prop} (hs : Shp R) (e1 : d1 + 1 ≤ d) (hc : CN X d1 mX8_copyFrom [(2, 119), (2, 111)] I R Q1) (h : ∀ z I2 R2, Q1 (9, z) I2 R2 → PN X d mX10_hatless 11 [(2, 64)] [] I2 R2 Q) : PN X d mX10_hatless 0 [(2, 64)] [] I R Q := by
  refine P_aload_n (n := 0) (q := 1) rfl rfl (by decide +kernel) ?_
  refine B_getfR (q := 4) fX10_77 kM64 (rM64_12 hs) rfl (by decide +kernel) ?_
  refine P_aload_n (n := 0) (q := 5) rfl rfl (by decide +kernel) ?_
  refine B_getfR (q := 8) fX10_73 kM64 (rM64_11 hs) rfl (by decide +kernel) ?_
  refine P_invV (As := [(2, 111)]) (q := 11) oX8_copyFrom rfl kM119 kX10_133 e1 hMF (Nat.le_of_ble_eq_true rfl) hc rfl (by decide +kernel) (fun z I2 R2 hq => ?_)
  exact (h z I2 R2 hq)
theorem S_X10_hatless_11 {X : CX} {d : Nat} {I R : PF} {Q : PV → PF → PF → Prop} (h : PN X d mX10_hatless 13 [(2, 64), (0, 1)] [] I R Q) : PN X d mX10_hatless 11 [(2, 64)] [] I R Q := by
  refine P_iconst (n := 1) (q := 12) rfl (by decide +kernel) ?_
  refine P_istore_n (n := 1) (by decide) (q := 13) rfl (by decide +kernel) ?_
  exact h
theorem S_X10_hatless_13 {X : CX} {d : Nat} {x1 : Int} {I R : PF} {Q : PV → PF → PF → Prop} (c1 : -2147483648 ≤ x1 ∧ x1 < 2147483648) (h1 : 60 < x1 → PN X d mX10_hatless 64 [] [] I R Q) (h2 : x1 ≤ 60 → PN X d mX10_hatless 19 [(2, 64), (0, x1)] [] I R Q) : PN X d mX10_hatless 13 [(2, 64), (0, x1)] [] I R Q := by
  refine P_iload_n (n := 1) (q := 14) rfl rfl (by decide +kernel) ?_
  refine P_bipush (n := 60) (q := 16) rfl rfl (by decide +kernel) ?_
  refine B_icmp_gt (off := 48) (t := 64) (q := 19) c1 ⟨by decide, by decide⟩ (by decide) rfl (by decide +kernel) ?_ ?_
  · exact fun g9 => (PW_sub (ls' := []) trivial (h1 g9))
  · exact fun g9 => (h2 g9)
theorem S_X10_hatless_19 {X : CX} {d d1 : Nat} {x1 : Int} {I R : PF} {Q Q1 : PV → PF → PF → Prop} (e1 : d1 + 1 ≤ d) (hc : CN X d1 mX10_isAhead [(2, 64), (0, x1)] I R Q1) (h : ∀ z I2 R2, Q1 (0, z) I2 R2 → PN X d mX10_hatless 24 [(2, 64), (0, x1)] [(0, z)] I2 R2 Q) : PN X d mX10_hatless 19 [(2, 64), (0, x1)] [] I R Q := by
  refine P_aload_n (n := 0) (q := 20) rfl rfl (by decide +kernel) ?_
  refine P_iload_n (n := 1) (q := 21) rfl rfl (by decide +kernel) ?_
  refine P_invV (As := [(0, x1)]) (q := 24) oX10_isAhead rfl kM64 kX10_284 e1 hMF (Nat.le_of_ble_eq_true rfl) hc rfl (by decide +kernel) (fun z I2 R2 hq => ?_)
  exact (h z I2 R2 hq)
theorem S_X10_hatless_24 {X : CX} {d : Nat} {x1 o0 : Int} {I R : PF} {Q : PV → PF → PF → Prop} (c1 : -2147483648 ≤ o0 ∧ o0 < 2147483648) (h1 : o0 ≠ 0 → PN X d mX10_hatless 29 [(2, 64), (0, x1)] [] I R Q) (h2 : o0 = 0 → PN X d mX10_hatless 27 [] [] I R Q) : PN X d mX10_hatless 24 [(2, 64), (0, x1)] [(0, o0)] I R Q := by
  refine B_if_ne (off := 5) (t := 29) (q := 27) c1 (by decide) rfl (by decide +kernel) ?_ ?_
  · exact fun g9 => (h1 g9)
  · exact fun g9 => (PW_sub (ls' := []) trivial (h2 g9))
theorem S_X10_hatless_27 {X : CX} {d : Nat} {I R : PF} {Q : PV → PF → PF → Prop} (h : Q (0, (-1)) I R) : PN X d mX10_hatless 27 [] [] I R Q := by
  refine P_iconst (n := (-1)) (q := 28) rfl (by decide +kernel) ?_
  refine P_iret rfl (by decide +kernel) h
theorem S_X10_hatless_29 {X : CX} {d d1 : Nat} {x1 t1 : Int} {I R : PF} {Q Q1 : PV → PF → PF → Prop} (hs : Shp R) (r1 : R 64 8 = t1) (e1 : d1 + 1 ≤ d) (hc : CN X d1 mX1_playNoon [(2, 127), (2, t1), (2, 119), (2, 0)] I R Q1) (h : ∀ z I2 R2, Q1 (9, z) I2 R2 → PN X d mX10_hatless 45 [(2, 64), (0, x1)] [] I2 R2 Q) : PN X d mX10_hatless 29 [(2, 64), (0, x1)] [] I R Q := by
  refine P_aload_n (n := 0) (q := 30) rfl rfl (by decide +kernel) ?_
  refine B_getfR (q := 33) fX10_85 kM64 (rM64_13 hs) rfl (by decide +kernel) ?_
  refine P_aload_n (n := 0) (q := 34) rfl rfl (by decide +kernel) ?_
  refine B_getfR (q := 37) fX10_54 kM64 r1 rfl (by decide +kernel) ?_
  refine P_aload_n (n := 0) (q := 38) rfl rfl (by decide +kernel) ?_
  refine B_getfR (q := 41) fX10_77 kM64 (rM64_12 hs) rfl (by decide +kernel) ?_
  refine P_anull (q := 42) rfl (by decide +kernel) ?_
  refine P_invV (As := [(2, t1), (2, 119), (2, 0)]) (q := 45) oX1_playNoon rfl kM127 kX10_287 e1 hMF (Nat.le_of_ble_eq_true rfl) hc rfl (by decide +kernel) (fun z I2 R2 hq => ?_)
  exact (h z I2 R2 hq)
theorem S_X10_hatless_45 {X : CX} {d : Nat} {x1 : Int} {I R : PF} {Q : PV → PF → PF → Prop} (hs : Shp R) (c1 : -2147483648 ≤ (I 119 1) ∧ (I 119 1) < 2147483648) (h1 : (I 119 1) ≠ (-1) → PN X d mX10_hatless 58 [(2, 64), (0, x1)] [] I R Q) (h2 : (I 119 1) = (-1) → PN X d mX10_hatless 56 [(9, 0), (0, x1)] [] I R Q) : PN X d mX10_hatless 45 [(2, 64), (0, x1)] [] I R Q := by
  refine P_aload_n (n := 0) (q := 46) rfl rfl (by decide +kernel) ?_
  refine B_getfR (q := 49) fX10_77 kM64 (rM64_12 hs) rfl (by decide +kernel) ?_
  refine P_getf (q := 52) fX10_160 kM119 rfl (by decide +kernel) ?_
  refine P_iconst (n := (-1)) (q := 53) rfl (by decide +kernel) ?_
  refine B_icmp_ne (off := 5) (t := 58) (q := 56) c1 ⟨by decide, by decide⟩ (by decide) rfl (by decide +kernel) ?_ ?_
  · exact fun g9 => (h1 g9)
  · exact fun g9 => (PW_sub (ls' := [(9, 0), (0, x1)]) ⟨Or.inl rfl, Or.inr rfl, trivial⟩ (h2 g9))
theorem S_X10_hatless_56 {X : CX} {d : Nat} {x1 : Int} {I R : PF} {Q : PV → PF → PF → Prop} (h : Q (0, x1) I R) : PN X d mX10_hatless 56 [(9, 0), (0, x1)] [] I R Q := by
  refine P_iload_n (n := 1) (q := 57) rfl rfl (by decide +kernel) ?_
  refine P_iret rfl (by decide +kernel) h
theorem S_X10_hatless_58 {X : CX} {d : Nat} {x1 : Int} {I R : PF} {Q : PV → PF → PF → Prop} (h : PN X d mX10_hatless 13 [(2, 64), (0, (x1 + 1))] [] I R Q) : PN X d mX10_hatless 58 [(2, 64), (0, x1)] [] I R Q := by
  refine P_iinc (n := 1) (a := 1) (by decide) rfl (q := 61) rfl (by decide +kernel) ?_
  refine P_goto (off := (-48)) (t := 13) (by decide) (by decide +kernel) ?_
  exact h
theorem S_X10_hatless_64 {X : CX} {d : Nat} {I R : PF} {Q : PV → PF → PF → Prop} (h : Q (0, (-1)) I R) : PN X d mX10_hatless 64 [] [] I R Q := by
  refine P_iconst (n := (-1)) (q := 65) rfl (by decide +kernel) ?_
  refine P_iret rfl (by decide +kernel) h
theorem S_X10_image_0 {X : CX} {d : Nat} {I R : PF} {Q : PV → PF → PF → Prop} (hs : Shp R) (h : PN X d mX10_image 65 [(2, 64), (0, 4), (0, 0)] [] (u2 (u2 (u2 (u2 I 305 0 (shr32 (I 111 0) 8)) 305 1 ((Int32.ofInt ((u2 I 305 0 (shr32 (I 111 0) 8)) 111 0) &&& Int32.ofInt 255).toInt)) 305 2 (((u2 (u2 I 305 0 (shr32 (I 111 0) 8)) 305 1 ((Int32.ofInt ((u2 I 305 0 (shr32 (I 111 0) 8)) 111 0) &&& Int32.ofInt 255).toInt)) 111 1) + 1)) 305 3 ((u2 (u2 (u2 I 305 0 (shr32 (I 111 0) 8)) 305 1 ((Int32.ofInt ((u2 I 305 0 (shr32 (I 111 0) 8)) 111 0) &&& Int32.ofInt 255).toInt)) 305 2 (((u2 (u2 I 305 0 (shr32 (I 111 0) 8)) 305 1 ((Int32.ofInt ((u2 I 305 0 (shr32 (I 111 0) 8)) 111 0) &&& Int32.ofInt 255).toInt)) 111 1) + 1)) 111 2)) R Q) : PN X d mX10_image 0 [(2, 64)] [] I R Q := by
  refine P_aload_n (n := 0) (q := 1) rfl rfl (by decide +kernel) ?_
  refine B_getfR (q := 4) fX10_109 kM64 (rM64_18 hs) rfl (by decide +kernel) ?_
  refine P_iconst (n := 0) (q := 5) rfl (by decide +kernel) ?_
  refine P_aload_n (n := 0) (q := 6) rfl rfl (by decide +kernel) ?_
  refine B_getfR (q := 9) fX10_73 kM64 (rM64_11 hs) rfl (by decide +kernel) ?_
  refine P_getf (q := 12) fX10_157 kM111 rfl (by decide +kernel) ?_
  refine P_bipush (n := 8) (q := 14) rfl rfl (by decide +kernel) ?_
  refine P_ishr (q := 15) rfl (by decide +kernel) ?_
  refine B_iastore (q := 16) kM305 nM305 (by decide) ⟨by decide, by decide⟩ rfl (by decide +kernel) ?_
  refine P_aload_n (n := 0) (q := 17) rfl rfl (by decide +kernel) ?_
  refine B_getfR (q := 20) fX10_109 kM64 (rM64_18 hs) rfl (by decide +kernel) ?_
  refine P_iconst (n := 1) (q := 21) rfl (by decide +kernel) ?_
  refine P_aload_n (n := 0) (q := 22) rfl rfl (by decide +kernel) ?_
  refine B_getfR (q := 25) fX10_73 kM64 (rM64_11 hs) rfl (by decide +kernel) ?_
  refine P_getf (q := 28) fX10_157 kM111 rfl (by decide +kernel) ?_
  refine P_sipush (n := 255) (q := 31) rfl rfl (by decide +kernel) ?_
  refine P_iand (q := 32) rfl (by decide +kernel) ?_
  refine B_iastore (q := 33) kM305 nM305 (by decide) ⟨by decide, by decide⟩ rfl (by decide +kernel) ?_
  refine P_aload_n (n := 0) (q := 34) rfl rfl (by decide +kernel) ?_
  refine B_getfR (q := 37) fX10_109 kM64 (rM64_18 hs) rfl (by decide +kernel) ?_
  refine P_iconst (n := 2) (q := 38) rfl (by decide +kernel) ?_
  refine P_aload_n (n := 0) (q := 39) rfl rfl (by decide +kernel) ?_
  refine B_getfR (q := 42) fX10_73 kM64 (rM64_11 hs) rfl (by decide +kernel) ?_
  refine P_getf (q := 45) fX10_160 kM111 rfl (by decide +kernel) ?_
  refine P_iconst (n := 1) (q := 46) rfl (by decide +kernel) ?_
  refine P_iadd (q := 47) rfl (by decide +kernel) ?_
  refine B_iastore (q := 48) kM305 nM305 (by decide) ⟨by decide, by decide⟩ rfl (by decide +kernel) ?_
  refine P_aload_n (n := 0) (q := 49) rfl rfl (by decide +kernel) ?_
  refine B_getfR (q := 52) fX10_109 kM64 (rM64_18 hs) rfl (by decide +kernel) ?_
  refine P_iconst (n := 3) (q := 53) rfl (by decide +kernel) ?_
  refine P_aload_n (n := 0) (q := 54) rfl rfl (by decide +kernel) ?_
  refine B_getfR (q := 57) fX10_73 kM64 (rM64_11 hs) rfl (by decide +kernel) ?_
  refine P_getf (q := 60) fX10_166 kM111 rfl (by decide +kernel) ?_
  refine B_iastore (q := 61) kM305 nM305 (by decide) ⟨by decide, by decide⟩ rfl (by decide +kernel) ?_
  refine P_iconst (n := 4) (q := 62) rfl (by decide +kernel) ?_
  refine P_istore_n (n := 1) (by decide) (q := 63) rfl (by decide +kernel) ?_
  refine P_iconst (n := 0) (q := 64) rfl (by decide +kernel) ?_
  refine P_istore_n (n := 2) (by decide) (q := 65) rfl (by decide +kernel) ?_
  exact h
theorem S_X10_image_65 {X : CX} {d : Nat} {x1 x2 : Int} {I R : PF} {Q : PV → PF → PF → Prop} (hs : Shp R) (c1 : -2147483648 ≤ x2 ∧ x2 < 2147483648) (c2 : -2147483648 ≤ (I 111 3) ∧ (I 111 3) < 2147483648) (h1 : (I 111 3) ≤ x2 → PN X d mX10_image 169 [(2, 64), (0, x1)] [] I R Q) (h2 : x2 < (I 111 3) → PN X d mX10_image 76 [(2, 64), (0, x1), (0, x2)] [] I R Q) : PN X d mX10_image 65 [(2, 64), (0, x1), (0, x2)] [] I R Q := by
  refine P_iload_n (n := 2) (q := 66) rfl rfl (by decide +kernel) ?_
  refine P_aload_n (n := 0) (q := 67) rfl rfl (by decide +kernel) ?_
  refine B_getfR (q := 70) fX10_73 kM64 (rM64_11 hs) rfl (by decide +kernel) ?_
  refine P_getf (q := 73) fX10_151 kM111 rfl (by decide +kernel) ?_
  refine B_icmp_ge (off := 96) (t := 169) (q := 76) c1 c2 (by decide) rfl (by decide +kernel) ?_ ?_
  · exact fun g9 => (PW_sub (ls' := [(2, 64), (0, x1)]) ⟨Or.inr rfl, Or.inr rfl, trivial⟩ (h1 g9))
  · exact fun g9 => (h2 g9)
theorem S_X10_image_76 {X : CX} {d : Nat} {x1 x2 : Int} {I R : PF} {Q : PV → PF → PF → Prop} (hs : Shp R) (b1 : (0 : Int) ≤ x2 ∧ x2 < 6) (b2 : (0 : Int) ≤ x1 ∧ x1 < 41) (b3 : (0 : Int) ≤ (x1 + 1) ∧ (x1 + 1) < 41) (b4 : (0 : Int) ≤ (x1 + 2) ∧ (x1 + 2) < 41) (b5 : (0 : Int) ≤ (x1 + 3) ∧ (x1 + 3) < 41) (b6 : (0 : Int) ≤ (x1 + 4) ∧ (x1 + 4) < 41) (b7 : (0 : Int) ≤ (x1 + 5) ∧ (x1 + 5) < 41) (h : PN X d mX10_image 65 [(2, 64), (0, (x1 + 6)), (0, (x2 + 1))] [] (u2 (u2 (u2 (u2 (u2 (u2 I 305 x1 (I (111 + 2 + x2) 0)) 305 (x1 + 1) ((u2 I 305 x1 (I (111 + 2 + x2) 0)) (111 + 2 + x2) 1)) 305 (x1 + 2) ((u2 (u2 I 305 x1 (I (111 + 2 + x2) 0)) 305 (x1 + 1) ((u2 I 305 x1 (I (111 + 2 + x2) 0)) (111 + 2 + x2) 1)) (111 + 2 + x2) 5)) 305 (x1 + 3) ((u2 (u2 (u2 I 305 x1 (I (111 + 2 + x2) 0)) 305 (x1 + 1) ((u2 I 305 x1 (I (111 + 2 + x2) 0)) (111 + 2 + x2) 1)) 305 (x1 + 2) ((u2 (u2 I 305 x1 (I (111 + 2 + x2) 0)) 305 (x1 + 1) ((u2 I 305 x1 (I (111 + 2 + x2) 0)) (111 + 2 + x2) 1)) (111 + 2 + x2) 5)) (111 + 2 + x2) 6)) 305 (x1 + 4) (shr32 ((u2 (u2 (u2 (u2 I 305 x1 (I (111 + 2 + x2) 0)) 305 (x1 + 1) ((u2 I 305 x1 (I (111 + 2 + x2) 0)) (111 + 2 + x2) 1)) 305 (x1 + 2) ((u2 (u2 I 305 x1 (I (111 + 2 + x2) 0)) 305 (x1 + 1) ((u2 I 305 x1 (I (111 + 2 + x2) 0)) (111 + 2 + x2) 1)) (111 + 2 + x2) 5)) 305 (x1 + 3) ((u2 (u2 (u2 I 305 x1 (I (111 + 2 + x2) 0)) 305 (x1 + 1) ((u2 I 305 x1 (I (111 + 2 + x2) 0)) (111 + 2 + x2) 1)) 305 (x1 + 2) ((u2 (u2 I 305 x1 (I (111 + 2 + x2) 0)) 305 (x1 + 1) ((u2 I 305 x1 (I (111 + 2 + x2) 0)) (111 + 2 + x2) 1)) (111 + 2 + x2) 5)) (111 + 2 + x2) 6)) (111 + 2 + x2) 7) 8)) 305 (x1 + 5) ((Int32.ofInt ((u2 (u2 (u2 (u2 (u2 I 305 x1 (I (111 + 2 + x2) 0)) 305 (x1 + 1) ((u2 I 305 x1 (I (111 + 2 + x2) 0)) (111 + 2 + x2) 1)) 305 (x1 + 2) ((u2 (u2 I 305 x1 (I (111 + 2 + x2) 0)) 305 (x1 + 1) ((u2 I 305 x1 (I (111 + 2 + x2) 0)) (111 + 2 + x2) 1)) (111 + 2 + x2) 5)) 305 (x1 + 3) ((u2 (u2 (u2 I 305 x1 (I (111 + 2 + x2) 0)) 305 (x1 + 1) ((u2 I 305 x1 (I (111 + 2 + x2) 0)) (111 + 2 + x2) 1)) 305 (x1 + 2) ((u2 (u2 I 305 x1 (I (111 + 2 + x2) 0)) 305 (x1 + 1) ((u2 I 305 x1 (I (111 + 2 + x2) 0)) (111 + 2 + x2) 1)) (111 + 2 + x2) 5)) (111 + 2 + x2) 6)) 305 (x1 + 4) (shr32 ((u2 (u2 (u2 (u2 I 305 x1 (I (111 + 2 + x2) 0)) 305 (x1 + 1) ((u2 I 305 x1 (I (111 + 2 + x2) 0)) (111 + 2 + x2) 1)) 305 (x1 + 2) ((u2 (u2 I 305 x1 (I (111 + 2 + x2) 0)) 305 (x1 + 1) ((u2 I 305 x1 (I (111 + 2 + x2) 0)) (111 + 2 + x2) 1)) (111 + 2 + x2) 5)) 305 (x1 + 3) ((u2 (u2 (u2 I 305 x1 (I (111 + 2 + x2) 0)) 305 (x1 + 1) ((u2 I 305 x1 (I (111 + 2 + x2) 0)) (111 + 2 + x2) 1)) 305 (x1 + 2) ((u2 (u2 I 305 x1 (I (111 + 2 + x2) 0)) 305 (x1 + 1) ((u2 I 305 x1 (I (111 + 2 + x2) 0)) (111 + 2 + x2) 1)) (111 + 2 + x2) 5)) (111 + 2 + x2) 6)) (111 + 2 + x2) 7) 8)) (111 + 2 + x2) 7) &&& Int32.ofInt 255).toInt)) R Q) : PN X d mX10_image 76 [(2, 64), (0, x1), (0, x2)] [] I R Q := by
  refine P_aload_n (n := 0) (q := 77) rfl rfl (by decide +kernel) ?_
  refine B_getfR (q := 80) fX10_73 kM64 (rM64_11 hs) rfl (by decide +kernel) ?_
  refine B_getfR (q := 83) fX10_191 kM111 (show R 111 4 = 112 from sh8_4 hs kM111) rfl (by decide +kernel) ?_
  refine P_iload_n (n := 2) (q := 84) rfl rfl (by decide +kernel) ?_
  refine B_aaloadI (q := 85) kM112 nM112 (by decide) b1 (sh8_r hs kM111 b1.1 b1.2) rfl (by decide +kernel) ?_
  refine P_astore_n (n := 3) (by decide) (q := 86) rfl (by decide +kernel) ?_
  refine P_aload_n (n := 0) (q := 87) rfl rfl (by decide +kernel) ?_
  refine B_getfR (q := 90) fX10_109 kM64 (rM64_18 hs) rfl (by decide +kernel) ?_
  refine P_iload_n (n := 1) (q := 91) rfl rfl (by decide +kernel) ?_
  refine P_aload_n (n := 3) (q := 92) rfl rfl (by decide +kernel) ?_
  refine P_iconst (n := 0) (q := 93) rfl (by decide +kernel) ?_
  refine B_iaload (q := 94) (stR kM111 b1.1 b1.2).1 (stR kM111 b1.1 b1.2).2 (by decide) ⟨by decide, by decide⟩ rfl (by decide +kernel) ?_
  refine B_iastore (q := 95) kM305 nM305 (by decide) b2 rfl (by decide +kernel) ?_
  refine P_aload_n (n := 0) (q := 96) rfl rfl (by decide +kernel) ?_
  refine B_getfR (q := 99) fX10_109 kM64 (rM64_18 hs) rfl (by decide +kernel) ?_
  refine P_iload_n (n := 1) (q := 100) rfl rfl (by decide +kernel) ?_
  refine P_iconst (n := 1) (q := 101) rfl (by decide +kernel) ?_
  refine P_iadd (q := 102) rfl (by decide +kernel) ?_
  refine P_aload_n (n := 3) (q := 103) rfl rfl (by decide +kernel) ?_
  refine P_iconst (n := 1) (q := 104) rfl (by decide +kernel) ?_
  refine B_iaload (q := 105) (stR kM111 b1.1 b1.2).1 (stR kM111 b1.1 b1.2).2 (by decide) ⟨by decide, by decide⟩ rfl (by decide +kernel) ?_
  refine B_iastore (q := 106) kM305 nM305 (by decide) b3 rfl (by decide +kernel) ?_
  refine P_aload_n (n := 0) (q := 107) rfl rfl (by decide +kernel) ?_
  refine B_getfR (q := 110) fX10_109 kM64 (rM64_18 hs) rfl (by decide +kernel) ?_
  refine P_iload_n (n := 1) (q := 111) rfl rfl (by decide +kernel) ?_
  refine P_iconst (n := 2) (q := 112) rfl (by decide +kernel) ?_
  refine P_iadd (q := 113) rfl (by decide +kernel) ?_
  refine P_aload_n (n := 3) (q := 114) rfl rfl (by decide +kernel) ?_
  refine P_iconst (n := 5) (q := 115) rfl (by decide +kernel) ?_
  refine B_iaload (q := 116) (stR kM111 b1.1 b1.2).1 (stR kM111 b1.1 b1.2).2 (by decide) ⟨by decide, by decide⟩ rfl (by decide +kernel) ?_
  refine B_iastore (q := 117) kM305 nM305 (by decide) b4 rfl (by decide +kernel) ?_
  refine P_aload_n (n := 0) (q := 118) rfl rfl (by decide +kernel) ?_
  refine B_getfR (q := 121) fX10_109 kM64 (rM64_18 hs) rfl (by decide +kernel) ?_
  refine P_iload_n (n := 1) (q := 122) rfl rfl (by decide +kernel) ?_
  refine P_iconst (n := 3) (q := 123) rfl (by decide +kernel) ?_
  refine P_iadd (q := 124) rfl (by decide +kernel) ?_
  refine P_aload_n (n := 3) (q := 125) rfl rfl (by decide +kernel) ?_
  refine P_bipush (n := 6) (q := 127) rfl rfl (by decide +kernel) ?_
  refine B_iaload (q := 128) (stR kM111 b1.1 b1.2).1 (stR kM111 b1.1 b1.2).2 (by decide) ⟨by decide, by decide⟩ rfl (by decide +kernel) ?_
  refine B_iastore (q := 129) kM305 nM305 (by decide) b5 rfl (by decide +kernel) ?_
  refine P_aload_n (n := 0) (q := 130) rfl rfl (by decide +kernel) ?_
  refine B_getfR (q := 133) fX10_109 kM64 (rM64_18 hs) rfl (by decide +kernel) ?_
  refine P_iload_n (n := 1) (q := 134) rfl rfl (by decide +kernel) ?_
  refine P_iconst (n := 4) (q := 135) rfl (by decide +kernel) ?_
  refine P_iadd (q := 136) rfl (by decide +kernel) ?_
  refine P_aload_n (n := 3) (q := 137) rfl rfl (by decide +kernel) ?_
  refine P_bipush (n := 7) (q := 139) rfl rfl (by decide +kernel) ?_
  refine B_iaload (q := 140) (stR kM111 b1.1 b1.2).1 (stR kM111 b1.1 b1.2).2 (by decide) ⟨by decide, by decide⟩ rfl (by decide +kernel) ?_
  refine P_bipush (n := 8) (q := 142) rfl rfl (by decide +kernel) ?_
  refine P_ishr (q := 143) rfl (by decide +kernel) ?_
  refine B_iastore (q := 144) kM305 nM305 (by decide) b6 rfl (by decide +kernel) ?_
  refine P_aload_n (n := 0) (q := 145) rfl rfl (by decide +kernel) ?_
  refine B_getfR (q := 148) fX10_109 kM64 (rM64_18 hs) rfl (by decide +kernel) ?_
  refine P_iload_n (n := 1) (q := 149) rfl rfl (by decide +kernel) ?_
  refine P_iconst (n := 5) (q := 150) rfl (by decide +kernel) ?_
  refine P_iadd (q := 151) rfl (by decide +kernel) ?_
  refine P_aload_n (n := 3) (q := 152) rfl rfl (by decide +kernel) ?_
  refine P_bipush (n := 7) (q := 154) rfl rfl (by decide +kernel) ?_
  refine B_iaload (q := 155) (stR kM111 b1.1 b1.2).1 (stR kM111 b1.1 b1.2).2 (by decide) ⟨by decide, by decide⟩ rfl (by decide +kernel) ?_
  refine P_sipush (n := 255) (q := 158) rfl rfl (by decide +kernel) ?_
  refine P_iand (q := 159) rfl (by decide +kernel) ?_
  refine B_iastore (q := 160) kM305 nM305 (by decide) b7 rfl (by decide +kernel) ?_
  refine P_iinc (n := 1) (a := 6) (by decide) rfl (q := 163) rfl (by decide +kernel) ?_
  refine P_iinc (n := 2) (a := 1) (by decide) rfl (q := 166) rfl (by decide +kernel) ?_
  refine P_goto (off := (-101)) (t := 65) (by decide) (by decide +kernel) ?_
  exact (PW_sub (ls' := [(2, 64), (0, (x1 + 6)), (0, (x2 + 1))]) ⟨Or.inr rfl, Or.inr rfl, Or.inr rfl, trivial⟩ h)
theorem S_X10_image_169 {X : CX} {d d1 : Nat} {x1 : Int} {I R : PF} {Q Q1 : PV → PF → PF → Prop} (hs : Shp R) (e1 : d1 + 1 ≤ d) (hc : CN X d1 mX10_sealOf [(2, 305), (0, x1)] I R Q1) (h : ∀ z I2 R2, Q1 (0, z) I2 R2 → PN X d mX10_image 182 [(2, 64), (0, x1)] [(0, z), (0, x1), (2, 305)] I2 R2 Q) : PN X d mX10_image 169 [(2, 64), (0, x1)] [] I R Q := by
  refine P_aload_n (n := 0) (q := 170) rfl rfl (by decide +kernel) ?_
  refine B_getfR (q := 173) fX10_109 kM64 (rM64_18 hs) rfl (by decide +kernel) ?_
  refine P_iload_n (n := 1) (q := 174) rfl rfl (by decide +kernel) ?_
  refine P_aload_n (n := 0) (q := 175) rfl rfl (by decide +kernel) ?_
  refine B_getfR (q := 178) fX10_109 kM64 (rM64_18 hs) rfl (by decide +kernel) ?_
  refine P_iload_n (n := 1) (q := 179) rfl rfl (by decide +kernel) ?_
  refine P_invS (As := [(2, 305), (0, x1)]) (q := 182) oX10_sealOf rfl (Or.inl kX10_383) e1 hMF (Nat.le_of_ble_eq_true rfl) hc rfl (by decide +kernel) (fun z I2 R2 hq => ?_)
  exact (PW_sub (ls' := [(2, 64), (0, x1)]) ⟨Or.inr rfl, Or.inr rfl, trivial⟩ (h z I2 R2 hq))
theorem S_X10_image_182 {X : CX} {d : Nat} {x1 o1 o2 : Int} {I R : PF} {Q : PV → PF → PF → Prop} (b1 : (0 : Int) ≤ o1 ∧ o1 < 41) (h : Q (0, ((u2 (u2 I 305 o1 o2) 64 19 (x1 + 1)) 64 19)) (u2 (u2 I 305 o1 o2) 64 19 (x1 + 1)) R) : PN X d mX10_image 182 [(2, 64), (0, x1)] [(0, o2), (0, o1), (2, 305)] I R Q := by
  refine B_iastore (q := 183) kM305 nM305 (by decide) b1 rfl (by decide +kernel) ?_
  refine P_aload_n (n := 0) (q := 184) rfl rfl (by decide +kernel) ?_
  refine P_iload_n (n := 1) (q := 185) rfl rfl (by decide +kernel) ?_
  refine P_iconst (n := 1) (q := 186) rfl (by decide +kernel) ?_
  refine P_iadd (q := 187) rfl (by decide +kernel) ?_
  refine P_putI (q := 190) wX10_112 (fun h => by cases h) kM64 rfl (by decide +kernel) ?_
  refine P_aload_n (n := 0) (q := 191) rfl rfl (by decide +kernel) ?_
  refine P_getf (q := 194) fX10_112 kM64 rfl (by decide +kernel) ?_
  refine P_iret rfl (by decide +kernel) h
theorem S_X10_isAhead_0 {X : CX} {d d1 : Nat} {x1 : Int} {I R : PF} {Q Q1 : PV → PF → PF → Prop} (e1 : d1 + 1 ≤ d) (hc : CN X d1 mX10_isTold [(2, 64)] I R Q1) (h : ∀ z I2 R2, Q1 (0, z) I2 R2 → PN X d mX10_isAhead 4 [(2, 64), (0, x1)] [(0, z)] I2 R2 Q) : PN X d mX10_isAhead 0 [(2, 64), (0, x1)] [] I R Q := by
  refine P_aload_n (n := 0) (q := 1) rfl rfl (by decide +kernel) ?_
  refine P_invV (As := []) (q := 4) oX10_isTold rfl kM64 kX10_208 e1 hMF (Nat.le_of_ble_eq_true rfl) hc rfl (by decide +kernel) (fun z I2 R2 hq => ?_)
  exact (h z I2 R2 hq)
theorem S_X10_isAhead_4 {X : CX} {d : Nat} {x1 o0 : Int} {I R : PF} {Q : PV → PF → PF → Prop} (c1 : -2147483648 ≤ o0 ∧ o0 < 2147483648) (h1 : o0 = 0 → PN X d mX10_isAhead 36 [] [] I R Q) (h2 : o0 ≠ 0 → PN X d mX10_isAhead 7 [(2, 64), (0, x1)] [] I R Q) : PN X d mX10_isAhead 4 [(2, 64), (0, x1)] [(0, o0)] I R Q := by
  refine B_if_eq (off := 32) (t := 36) (q := 7) c1 (by decide) rfl (by decide +kernel) ?_ ?_
  · exact fun g9 => (PW_sub (ls' := []) trivial (h1 g9))
  · exact fun g9 => (h2 g9)
theorem S_X10_isAhead_7 {X : CX} {d : Nat} {x1 : Int} {I R : PF} {Q : PV → PF → PF → Prop} (c1 : -2147483648 ≤ x1 ∧ x1 < 2147483648) (h1 : x1 < 0 → PN X d mX10_isAhead 36 [] [] I R Q) (h2 : 0 ≤ x1 → PN X d mX10_isAhead 11 [(2, 64), (0, x1)] [] I R Q) : PN X d mX10_isAhead 7 [(2, 64), (0, x1)] [] I R Q := by
  refine P_iload_n (n := 1) (q := 8) rfl rfl (by decide +kernel) ?_
  refine B_if_lt (off := 28) (t := 36) (q := 11) c1 (by decide) rfl (by decide +kernel) ?_ ?_
  · exact fun g9 => (PW_sub (ls' := []) trivial (h1 g9))
  · exact fun g9 => (h2 g9)
theorem S_X10_isAhead_11 {X : CX} {d : Nat} {x1 : Int} {I R : PF} {Q : PV → PF → PF → Prop} (c1 : -2147483648 ≤ x1 ∧ x1 < 2147483648) (h1 : 60 < x1 → PN X d mX10_isAhead 36 [] [] I R Q) (h2 : x1 ≤ 60 → PN X d mX10_isAhead 17 [(2, 64), (0, x1)] [] I R Q) : PN X d mX10_isAhead 11 [(2, 64), (0, x1)] [] I R Q := by
  refine P_iload_n (n := 1) (q := 12) rfl rfl (by decide +kernel) ?_
  refine P_bipush (n := 60) (q := 14) rfl rfl (by decide +kernel) ?_
  refine B_icmp_gt (off := 22) (t := 36) (q := 17) c1 ⟨by decide, by decide⟩ (by decide) rfl (by decide +kernel) ?_ ?_
  · exact fun g9 => (PW_sub (ls' := []) trivial (h1 g9))
  · exact fun g9 => (h2 g9)
theorem S_X10_isAhead_17 {X : CX} {d : Nat} {x1 : Int} {I R : PF} {Q : PV → PF → PF → Prop} (hs : Shp R) (c1 : -2147483648 ≤ ((I 111 0) + x1) ∧ ((I 111 0) + x1) < 2147483648) (h1 : 999 < ((I 111 0) + x1) → PN X d mX10_isAhead 36 [] [] I R Q) (h2 : ((I 111 0) + x1) ≤ 999 → PN X d mX10_isAhead 32 [] [] I R Q) : PN X d mX10_isAhead 17 [(2, 64), (0, x1)] [] I R Q := by
  refine P_aload_n (n := 0) (q := 18) rfl rfl (by decide +kernel) ?_
  refine B_getfR (q := 21) fX10_73 kM64 (rM64_11 hs) rfl (by decide +kernel) ?_
  refine P_getf (q := 24) fX10_157 kM111 rfl (by decide +kernel) ?_
  refine P_iload_n (n := 1) (q := 25) rfl rfl (by decide +kernel) ?_
  refine P_iadd (q := 26) rfl (by decide +kernel) ?_
  refine P_sipush (n := 999) (q := 29) rfl rfl (by decide +kernel) ?_
  refine B_icmp_gt (off := 7) (t := 36) (q := 32) c1 ⟨by decide, by decide⟩ (by decide) rfl (by decide +kernel) ?_ ?_
  · exact fun g9 => (PW_sub (ls' := []) trivial (h1 g9))
  · exact fun g9 => (PW_sub (ls' := []) trivial (h2 g9))
theorem S_X10_isAhead_32 {X : CX} {d : Nat} {I R : PF} {Q : PV → PF → PF → Prop} (h : PN X d mX10_isAhead 37 [] [(0, 1)] I R Q) : PN X d mX10_isAhead 32 [] [] I R Q := by
  refine P_iconst (n := 1) (q := 33) rfl (by decide +kernel) ?_
  refine P_goto (off := 4) (t := 37) (by decide) (by decide +kernel) ?_
  exact (PW_sub (ls' := []) trivial h)
theorem S_X10_isAhead_36 {X : CX} {d : Nat} {I R : PF} {Q : PV → PF → PF → Prop} (h : PN X d mX10_isAhead 37 [] [(0, 0)] I R Q) : PN X d mX10_isAhead 36 [] [] I R Q := by
  refine P_iconst (n := 0) (q := 37) rfl (by decide +kernel) ?_
  exact (PW_sub (ls' := []) trivial h)
theorem S_X10_isAhead_37 {X : CX} {d : Nat} {o0 : Int} {I R : PF} {Q : PV → PF → PF → Prop} (z1 : o0 = 0 ∨ o0 = 1) (h : Q (0, o0) I R) : PN X d mX10_isAhead 37 [] [(0, o0)] I R Q := by
  refine P_zret rfl z1 (by decide +kernel) h
theorem S_X10_isThrow_0 {X : CX} {d : Nat} {x0 x1 : Int} {I R : PF} {Q : PV → PF → PF → Prop} (c1 : -2147483648 ≤ x0 ∧ x0 < 2147483648) (h1 : x0 < 0 → PN X d mX10_isThrow 23 [] [] I R Q) (h2 : 0 ≤ x0 → PN X d mX10_isThrow 4 [(0, x0), (0, x1)] [] I R Q) : PN X d mX10_isThrow 0 [(0, x0), (0, x1)] [] I R Q := by
  refine P_iload_n (n := 0) (q := 1) rfl rfl (by decide +kernel) ?_
  refine B_if_lt (off := 22) (t := 23) (q := 4) c1 (by decide) rfl (by decide +kernel) ?_ ?_
  · exact fun g9 => (PW_sub (ls' := []) trivial (h1 g9))
  · exact fun g9 => (h2 g9)
theorem S_X10_isThrow_4 {X : CX} {d : Nat} {x0 x1 : Int} {I R : PF} {Q : PV → PF → PF → Prop} (c1 : -2147483648 ≤ x0 ∧ x0 < 2147483648) (h1 : 9 ≤ x0 → PN X d mX10_isThrow 23 [] [] I R Q) (h2 : x0 < 9 → PN X d mX10_isThrow 10 [(9, 0), (0, x1)] [] I R Q) : PN X d mX10_isThrow 4 [(0, x0), (0, x1)] [] I R Q := by
  refine P_iload_n (n := 0) (q := 5) rfl rfl (by decide +kernel) ?_
  refine P_bipush (n := 9) (q := 7) rfl rfl (by decide +kernel) ?_
  refine B_icmp_ge (off := 16) (t := 23) (q := 10) c1 ⟨by decide, by decide⟩ (by decide) rfl (by decide +kernel) ?_ ?_
  · exact fun g9 => (PW_sub (ls' := []) trivial (h1 g9))
  · exact fun g9 => (PW_sub (ls' := [(9, 0), (0, x1)]) ⟨Or.inl rfl, Or.inr rfl, trivial⟩ (h2 g9))
theorem S_X10_isThrow_10 {X : CX} {d : Nat} {x1 : Int} {I R : PF} {Q : PV → PF → PF → Prop} (c1 : -2147483648 ≤ x1 ∧ x1 < 2147483648) (h1 : x1 < 0 → PN X d mX10_isThrow 23 [] [] I R Q) (h2 : 0 ≤ x1 → PN X d mX10_isThrow 14 [(9, 0), (0, x1)] [] I R Q) : PN X d mX10_isThrow 10 [(9, 0), (0, x1)] [] I R Q := by
  refine P_iload_n (n := 1) (q := 11) rfl rfl (by decide +kernel) ?_
  refine B_if_lt (off := 12) (t := 23) (q := 14) c1 (by decide) rfl (by decide +kernel) ?_ ?_
  · exact fun g9 => (PW_sub (ls' := []) trivial (h1 g9))
  · exact fun g9 => (h2 g9)
theorem S_X10_isThrow_14 {X : CX} {d : Nat} {x1 : Int} {I R : PF} {Q : PV → PF → PF → Prop} (c1 : -2147483648 ≤ x1 ∧ x1 < 2147483648) (h1 : 3 < x1 → PN X d mX10_isThrow 23 [] [] I R Q) (h2 : x1 ≤ 3 → PN X d mX10_isThrow 19 [] [] I R Q) : PN X d mX10_isThrow 14 [(9, 0), (0, x1)] [] I R Q := by
  refine P_iload_n (n := 1) (q := 15) rfl rfl (by decide +kernel) ?_
  refine P_iconst (n := 3) (q := 16) rfl (by decide +kernel) ?_
  refine B_icmp_gt (off := 7) (t := 23) (q := 19) c1 ⟨by decide, by decide⟩ (by decide) rfl (by decide +kernel) ?_ ?_
  · exact fun g9 => (PW_sub (ls' := []) trivial (h1 g9))
  · exact fun g9 => (PW_sub (ls' := []) trivial (h2 g9))
theorem S_X10_isThrow_19 {X : CX} {d : Nat} {I R : PF} {Q : PV → PF → PF → Prop} (h : PN X d mX10_isThrow 24 [] [(0, 1)] I R Q) : PN X d mX10_isThrow 19 [] [] I R Q := by
  refine P_iconst (n := 1) (q := 20) rfl (by decide +kernel) ?_
  refine P_goto (off := 4) (t := 24) (by decide) (by decide +kernel) ?_
  exact (PW_sub (ls' := []) trivial h)
theorem S_X10_isThrow_23 {X : CX} {d : Nat} {I R : PF} {Q : PV → PF → PF → Prop} (h : PN X d mX10_isThrow 24 [] [(0, 0)] I R Q) : PN X d mX10_isThrow 23 [] [] I R Q := by
  refine P_iconst (n := 0) (q := 24) rfl (by decide +kernel) ?_
  exact (PW_sub (ls' := []) trivial h)
theorem S_X10_isThrow_24 {X : CX} {d : Nat} {o0 : Int} {I R : PF} {Q : PV → PF → PF → Prop} (z1 : o0 = 0 ∨ o0 = 1) (h : Q (0, o0) I R) : PN X d mX10_isThrow 24 [] [(0, o0)] I R Q := by
  refine P_zret rfl z1 (by decide +kernel) h
theorem S_X10_isTold_0 {X : CX} {d : Nat} {t1 : Int} {I R : PF} {Q : PV → PF → PF → Prop} (r1 : R 64 8 = t1) (k1 : kd MF t1 = 6) (c1 : -2147483648 ≤ (I t1 0) ∧ (I t1 0) < 2147483648) (h1 : (I t1 0) ≤ 0 → PN X d mX10_isTold 14 [] [] I R Q) (h2 : 0 < (I t1 0) → PN X d mX10_isTold 10 [] [] I R Q) : PN X d mX10_isTold 0 [(2, 64)] [] I R Q := by
  refine P_aload_n (n := 0) (q := 1) rfl rfl (by decide +kernel) ?_
  refine B_getfR (q := 4) fX10_54 kM64 r1 rfl (by decide +kernel) ?_
  refine P_getf (q := 7) fX10_142 k1 rfl (by decide +kernel) ?_
  refine B_if_le (off := 7) (t := 14) (q := 10) c1 (by decide) rfl (by decide +kernel) ?_ ?_
  · exact fun g9 => (PW_sub (ls' := []) trivial (h1 g9))
  · exact fun g9 => (PW_sub (ls' := []) trivial (h2 g9))
theorem S_X10_isTold_10 {X : CX} {d : Nat} {I R : PF} {Q : PV → PF → PF → Prop} (h : PN X d mX10_isTold 15 [] [(0, 1)] I R Q) : PN X d mX10_isTold 10 [] [] I R Q := by
  refine P_iconst (n := 1) (q := 11) rfl (by decide +kernel) ?_
  refine P_goto (off := 4) (t := 15) (by decide) (by decide +kernel) ?_
  exact (PW_sub (ls' := []) trivial h)
theorem S_X10_isTold_14 {X : CX} {d : Nat} {I R : PF} {Q : PV → PF → PF → Prop} (h : PN X d mX10_isTold 15 [] [(0, 0)] I R Q) : PN X d mX10_isTold 14 [] [] I R Q := by
  refine P_iconst (n := 0) (q := 15) rfl (by decide +kernel) ?_
  exact (PW_sub (ls' := []) trivial h)
theorem S_X10_isTold_15 {X : CX} {d : Nat} {o0 : Int} {I R : PF} {Q : PV → PF → PF → Prop} (z1 : o0 = 0 ∨ o0 = 1) (h : Q (0, o0) I R) : PN X d mX10_isTold 15 [] [(0, o0)] I R Q := by
  refine P_zret rfl z1 (by decide +kernel) h
theorem S_X10_keepFault_0 {X : CX} {d : Nat} {I R : PF} {Q : PV → PF → PF → Prop} (hs : Shp R) (h : Q (9, 0) (u2 (u2 I 64 3 (I 67 8)) 64 4 ((u2 I 64 3 (I 67 8)) 67 9)) R) : PN X d mX10_keepFault 0 [(2, 64)] [] I R Q := by
  refine P_aload_n (n := 0) (q := 1) rfl rfl (by decide +kernel) ?_
  refine P_aload_n (n := 0) (q := 2) rfl rfl (by decide +kernel) ?_
  refine B_getfR (q := 5) fX10_31 kM64 (rM64_5 hs) rfl (by decide +kernel) ?_
  refine P_getf (q := 8) fX10_140 kM67 rfl (by decide +kernel) ?_
  refine P_putI (q := 11) wX10_20 (fun h => by cases h) kM64 rfl (by decide +kernel) ?_
  refine P_aload_n (n := 0) (q := 12) rfl rfl (by decide +kernel) ?_
  refine P_aload_n (n := 0) (q := 13) rfl rfl (by decide +kernel) ?_
  refine B_getfR (q := 16) fX10_31 kM64 (rM64_5 hs) rfl (by decide +kernel) ?_
  refine P_getf (q := 19) fX10_141 kM67 rfl (by decide +kernel) ?_
  refine P_putI (q := 22) wX10_23 (fun h => by cases h) kM64 rfl (by decide +kernel) ?_
  refine P_vret rfl (by decide +kernel) h
theorem S_X10_kept_0 {X : CX} {d d1 : Nat} {x1 x2 : Int} {I R : PF} {Q Q1 : PV → PF → PF → Prop} (hs : Shp R) (e1 : d1 + 1 ≤ d) (hc : CN X d1 mX4_toldOf [(2, 136), (0, x1), (0, x2)] I R Q1) (h : ∀ z I2 R2, Q1 (0, z) I2 R2 → PN X d mX10_kept 9 [] [(0, z)] I2 R2 Q) : PN X d mX10_kept 0 [(2, 64), (0, x1), (0, x2)] [] I R Q := by
  refine P_aload_n (n := 0) (q := 1) rfl rfl (by decide +kernel) ?_
  refine B_getfR (q := 4) fX10_92 kM64 (rM64_14 hs) rfl (by decide +kernel) ?_
  refine P_iload_n (n := 1) (q := 5) rfl rfl (by decide +kernel) ?_
  refine P_iload_n (n := 2) (q := 6) rfl rfl (by decide +kernel) ?_
  refine P_invV (As := [(0, x1), (0, x2)]) (q := 9) oX4_toldOf rfl kM136 kX10_205 e1 hMF (Nat.le_of_ble_eq_true rfl) hc rfl (by decide +kernel) (fun z I2 R2 hq => ?_)
  exact (PW_sub (ls' := []) trivial (h z I2 R2 hq))
theorem S_X10_kept_9 {X : CX} {d : Nat} {o0 : Int} {I R : PF} {Q : PV → PF → PF → Prop} (h : Q (0, o0) I R) : PN X d mX10_kept 9 [] [(0, o0)] I R Q := by
  refine P_iret rfl (by decide +kernel) h
theorem S_X10_lasts_0 {X : CX} {d : Nat} {x1 x2 : Int} {I R : PF} {Q : PV → PF → PF → Prop} (c1 : -2147483648 ≤ x1 ∧ x1 < 2147483648) (h1 : x1 < 0 → PN X d mX10_lasts 28 [] [] I R Q) (h2 : 0 ≤ x1 → PN X d mX10_lasts 4 [(2, 64), (0, x1), (0, x2)] [] I R Q) : PN X d mX10_lasts 0 [(2, 64), (0, x1), (0, x2)] [] I R Q := by
  refine P_iload_n (n := 1) (q := 1) rfl rfl (by decide +kernel) ?_
  refine B_if_lt (off := 27) (t := 28) (q := 4) c1 (by decide) rfl (by decide +kernel) ?_ ?_
  · exact fun g9 => (PW_sub (ls' := []) trivial (h1 g9))
  · exact fun g9 => (h2 g9)
theorem S_X10_lasts_4 {X : CX} {d : Nat} {x1 x2 t1 : Int} {I R : PF} {Q : PV → PF → PF → Prop} (r1 : R 64 8 = t1) (k1 : kd MF t1 = 6) (c1 : -2147483648 ≤ x1 ∧ x1 < 2147483648) (c2 : -2147483648 ≤ (I t1 5) ∧ (I t1 5) < 2147483648) (h1 : (I t1 5) ≤ x1 → PN X d mX10_lasts 28 [] [] I R Q) (h2 : x1 < (I t1 5) → PN X d mX10_lasts 15 [(2, 64), (0, x1), (0, x2)] [] I R Q) : PN X d mX10_lasts 4 [(2, 64), (0, x1), (0, x2)] [] I R Q := by
  refine P_iload_n (n := 1) (q := 5) rfl rfl (by decide +kernel) ?_
  refine P_aload_n (n := 0) (q := 6) rfl rfl (by decide +kernel) ?_
  refine B_getfR (q := 9) fX10_54 kM64 r1 rfl (by decide +kernel) ?_
  refine P_getf (q := 12) fX10_148 k1 rfl (by decide +kernel) ?_
  refine B_icmp_ge (off := 16) (t := 28) (q := 15) c1 c2 (by decide) rfl (by decide +kernel) ?_ ?_
  · exact fun g9 => (PW_sub (ls' := []) trivial (h1 g9))
  · exact fun g9 => (h2 g9)
theorem S_X10_lasts_15 {X : CX} {d : Nat} {x1 x2 : Int} {I R : PF} {Q : PV → PF → PF → Prop} (c1 : -2147483648 ≤ x2 ∧ x2 < 2147483648) (h1 : x2 < 1 → PN X d mX10_lasts 28 [] [] I R Q) (h2 : 1 ≤ x2 → PN X d mX10_lasts 20 [(2, 64), (0, x1), (0, x2)] [] I R Q) : PN X d mX10_lasts 15 [(2, 64), (0, x1), (0, x2)] [] I R Q := by
  refine P_iload_n (n := 2) (q := 16) rfl rfl (by decide +kernel) ?_
  refine P_iconst (n := 1) (q := 17) rfl (by decide +kernel) ?_
  refine B_icmp_lt (off := 11) (t := 28) (q := 20) c1 ⟨by decide, by decide⟩ (by decide) rfl (by decide +kernel) ?_ ?_
  · exact fun g9 => (PW_sub (ls' := []) trivial (h1 g9))
  · exact fun g9 => (h2 g9)
theorem S_X10_lasts_20 {X : CX} {d d1 : Nat} {x1 x2 : Int} {I R : PF} {Q Q1 : PV → PF → PF → Prop} (e1 : d1 + 1 ≤ d) (hc : CN X d1 mX10_isAhead [(2, 64), (0, x2)] I R Q1) (h : ∀ z I2 R2, Q1 (0, z) I2 R2 → PN X d mX10_lasts 25 [(2, 64), (0, x1), (0, x2)] [(0, z)] I2 R2 Q) : PN X d mX10_lasts 20 [(2, 64), (0, x1), (0, x2)] [] I R Q := by
  refine P_aload_n (n := 0) (q := 21) rfl rfl (by decide +kernel) ?_
  refine P_iload_n (n := 2) (q := 22) rfl rfl (by decide +kernel) ?_
  refine P_invV (As := [(0, x2)]) (q := 25) oX10_isAhead rfl kM64 kX10_284 e1 hMF (Nat.le_of_ble_eq_true rfl) hc rfl (by decide +kernel) (fun z I2 R2 hq => ?_)
  exact (h z I2 R2 hq)
theorem S_X10_lasts_25 {X : CX} {d : Nat} {x1 x2 o0 : Int} {I R : PF} {Q : PV → PF → PF → Prop} (c1 : -2147483648 ≤ o0 ∧ o0 < 2147483648) (h1 : o0 ≠ 0 → PN X d mX10_lasts 30 [(2, 64), (0, x1), (0, x2)] [] I R Q) (h2 : o0 = 0 → PN X d mX10_lasts 28 [] [] I R Q) : PN X d mX10_lasts 25 [(2, 64), (0, x1), (0, x2)] [(0, o0)] I R Q := by
  refine B_if_ne (off := 5) (t := 30) (q := 28) c1 (by decide) rfl (by decide +kernel) ?_ ?_
  · exact fun g9 => (h1 g9)
  · exact fun g9 => (PW_sub (ls' := []) trivial (h2 g9))
theorem S_X10_lasts_28 {X : CX} {d : Nat} {I R : PF} {Q : PV → PF → PF → Prop} (h : Q (0, (-1)) I R) : PN X d mX10_lasts 28 [] [] I R Q := by
  refine P_iconst (n := (-1)) (q := 29) rfl (by decide +kernel) ?_
  refine P_iret rfl (by decide +kernel) h
theorem S_X10_lasts_30 {X : CX} {d d1 : Nat} {x1 x2 : Int} {I R : PF} {Q Q1 : PV → PF → PF → Prop} (hs : Shp R) (e1 : d1 + 1 ≤ d) (hc : CN X d1 mX8_copyFrom [(2, 119), (2, 111)] I R Q1) (h : ∀ z I2 R2, Q1 (9, z) I2 R2 → PN X d mX10_lasts 41 [(2, 64), (0, x1), (0, x2)] [] I2 R2 Q) : PN X d mX10_lasts 30 [(2, 64), (0, x1), (0, x2)] [] I R Q := by
  refine P_aload_n (n := 0) (q := 31) rfl rfl (by decide +kernel) ?_
  refine B_getfR (q := 34) fX10_77 kM64 (rM64_12 hs) rfl (by decide +kernel) ?_
  refine P_aload_n (n := 0) (q := 35) rfl rfl (by decide +kernel) ?_
  refine B_getfR (q := 38) fX10_73 kM64 (rM64_11 hs) rfl (by decide +kernel) ?_
  refine P_invV (As := [(2, 111)]) (q := 41) oX8_copyFrom rfl kM119 kX10_133 e1 hMF (Nat.le_of_ble_eq_true rfl) hc rfl (by decide +kernel) (fun z I2 R2 hq => ?_)
  exact (h z I2 R2 hq)
theorem S_X10_lasts_41 {X : CX} {d : Nat} {x1 x2 : Int} {I R : PF} {Q : PV → PF → PF → Prop} (h : PN X d mX10_lasts 46 [(2, 64), (0, x1), (0, x2), (0, 0), (0, 0)] [] I R Q) : PN X d mX10_lasts 41 [(2, 64), (0, x1), (0, x2)] [] I R Q := by
  refine P_iconst (n := 0) (q := 42) rfl (by decide +kernel) ?_
  refine P_istore_n (n := 3) (by decide) (q := 43) rfl (by decide +kernel) ?_
  refine P_iconst (n := 0) (q := 44) rfl (by decide +kernel) ?_
  refine P_istore (n := 4) (by decide) (q := 46) rfl (by decide +kernel) ?_
  exact h
theorem S_X10_lasts_46 {X : CX} {d : Nat} {x1 x2 x3 x4 : Int} {I R : PF} {Q : PV → PF → PF → Prop} (c1 : -2147483648 ≤ x4 ∧ x4 < 2147483648) (c2 : -2147483648 ≤ x2 ∧ x2 < 2147483648) (h1 : x2 ≤ x4 → PN X d mX10_lasts 88 [(9, 0), (9, 0), (9, 0), (0, x3)] [] I R Q) (h2 : x4 < x2 → PN X d mX10_lasts 52 [(2, 64), (0, x1), (0, x2), (0, x3), (0, x4)] [] I R Q) : PN X d mX10_lasts 46 [(2, 64), (0, x1), (0, x2), (0, x3), (0, x4)] [] I R Q := by
  refine P_iload (n := 4) (q := 48) rfl rfl (by decide +kernel) ?_
  refine P_iload_n (n := 2) (q := 49) rfl rfl (by decide +kernel) ?_
  refine B_icmp_ge (off := 39) (t := 88) (q := 52) c1 c2 (by decide) rfl (by decide +kernel) ?_ ?_
  · exact fun g9 => (PW_sub (ls' := [(9, 0), (9, 0), (9, 0), (0, x3)]) ⟨Or.inl rfl, Or.inl rfl, Or.inl rfl, Or.inr rfl, trivial⟩ (h1 g9))
  · exact fun g9 => (h2 g9)
theorem S_X10_lasts_52 {X : CX} {d d1 : Nat} {x1 x2 x3 x4 t1 : Int} {I R : PF} {Q Q1 : PV → PF → PF → Prop} (hs : Shp R) (r1 : R 64 8 = t1) (e1 : d1 + 1 ≤ d) (hc : CN X d1 mX1_playNoon [(2, 127), (2, t1), (2, 119), (2, 0)] I R Q1) (h : ∀ z I2 R2, Q1 (9, z) I2 R2 → PN X d mX10_lasts 68 [(2, 64), (0, x1), (0, x2), (0, x3), (0, x4)] [] I2 R2 Q) : PN X d mX10_lasts 52 [(2, 64), (0, x1), (0, x2), (0, x3), (0, x4)] [] I R Q := by
  refine P_aload_n (n := 0) (q := 53) rfl rfl (by decide +kernel) ?_
  refine B_getfR (q := 56) fX10_85 kM64 (rM64_13 hs) rfl (by decide +kernel) ?_
  refine P_aload_n (n := 0) (q := 57) rfl rfl (by decide +kernel) ?_
  refine B_getfR (q := 60) fX10_54 kM64 r1 rfl (by decide +kernel) ?_
  refine P_aload_n (n := 0) (q := 61) rfl rfl (by decide +kernel) ?_
  refine B_getfR (q := 64) fX10_77 kM64 (rM64_12 hs) rfl (by decide +kernel) ?_
  refine P_anull (q := 65) rfl (by decide +kernel) ?_
  refine P_invV (As := [(2, t1), (2, 119), (2, 0)]) (q := 68) oX1_playNoon rfl kM127 kX10_287 e1 hMF (Nat.le_of_ble_eq_true rfl) hc rfl (by decide +kernel) (fun z I2 R2 hq => ?_)
  exact (h z I2 R2 hq)
theorem S_X10_lasts_68 {X : CX} {d d1 : Nat} {x1 x2 x3 x4 : Int} {I R : PF} {Q Q1 : PV → PF → PF → Prop} (hs : Shp R) (e1 : d1 + 1 ≤ d) (hc : CN X d1 mX8_lawInForce [(2, 119)] I R Q1) (h : ∀ z I2 R2, Q1 (0, z) I2 R2 → PN X d mX10_lasts 75 [(2, 64), (0, x1), (0, x2), (0, x3), (0, x4)] [(0, z)] I2 R2 Q) : PN X d mX10_lasts 68 [(2, 64), (0, x1), (0, x2), (0, x3), (0, x4)] [] I R Q := by
  refine P_aload_n (n := 0) (q := 69) rfl rfl (by decide +kernel) ?_
  refine B_getfR (q := 72) fX10_77 kM64 (rM64_12 hs) rfl (by decide +kernel) ?_
  refine P_invV (As := []) (q := 75) oX8_lawInForce rfl kM119 kX10_163 e1 hMF (Nat.le_of_ble_eq_true rfl) hc rfl (by decide +kernel) (fun z I2 R2 hq => ?_)
  exact (h z I2 R2 hq)
theorem S_X10_lasts_75 {X : CX} {d : Nat} {x1 x2 x3 x4 o0 : Int} {I R : PF} {Q : PV → PF → PF → Prop} (c1 : -2147483648 ≤ o0 ∧ o0 < 2147483648) (c2 : -2147483648 ≤ x1 ∧ x1 < 2147483648) (h1 : o0 ≠ x1 → PN X d mX10_lasts 82 [(2, 64), (0, x1), (0, x2), (0, x3), (0, x4)] [] I R Q) (h2 : o0 = x1 → PN X d mX10_lasts 79 [(2, 64), (0, x1), (0, x2), (0, x3), (0, x4)] [] I R Q) : PN X d mX10_lasts 75 [(2, 64), (0, x1), (0, x2), (0, x3), (0, x4)] [(0, o0)] I R Q := by
  refine P_iload_n (n := 1) (q := 76) rfl rfl (by decide +kernel) ?_
  refine B_icmp_ne (off := 6) (t := 82) (q := 79) c1 c2 (by decide) rfl (by decide +kernel) ?_ ?_
  · exact fun g9 => (h1 g9)
  · exact fun g9 => (h2 g9)
theorem S_X10_lasts_79 {X : CX} {d : Nat} {x1 x2 x3 x4 : Int} {I R : PF} {Q : PV → PF → PF → Prop} (h : PN X d mX10_lasts 82 [(2, 64), (0, x1), (0, x2), (0, (x3 + 1)), (0, x4)] [] I R Q) : PN X d mX10_lasts 79 [(2, 64), (0, x1), (0, x2), (0, x3), (0, x4)] [] I R Q := by
  refine P_iinc (n := 3) (a := 1) (by decide) rfl (q := 82) rfl (by decide +kernel) ?_
  exact h
theorem S_X10_lasts_82 {X : CX} {d : Nat} {x1 x2 x3 x4 : Int} {I R : PF} {Q : PV → PF → PF → Prop} (h : PN X d mX10_lasts 46 [(2, 64), (0, x1), (0, x2), (0, x3), (0, (x4 + 1))] [] I R Q) : PN X d mX10_lasts 82 [(2, 64), (0, x1), (0, x2), (0, x3), (0, x4)] [] I R Q := by
  refine P_iinc (n := 4) (a := 1) (by decide) rfl (q := 85) rfl (by decide +kernel) ?_
  refine P_goto (off := (-39)) (t := 46) (by decide) (by decide +kernel) ?_
  exact h
theorem S_X10_lasts_88 {X : CX} {d : Nat} {x3 : Int} {I R : PF} {Q : PV → PF → PF → Prop} (h : Q (0, x3) I R) : PN X d mX10_lasts 88 [(9, 0), (9, 0), (9, 0), (0, x3)] [] I R Q := by
  refine P_iload_n (n := 3) (q := 89) rfl rfl (by decide +kernel) ?_
  refine P_iret rfl (by decide +kernel) h
theorem S_X10_later_0 {X : CX} {d d1 : Nat} {x1 x2 : Int} {I R : PF} {Q Q1 : PV → PF → PF → Prop} (e1 : d1 + 1 ≤ d) (hc : CN X d1 mX10_isAhead [(2, 64), (0, x1)] I R Q1) (h : ∀ z I2 R2, Q1 (0, z) I2 R2 → PN X d mX10_later 5 [(2, 64), (0, x1), (0, x2)] [(0, z)] I2 R2 Q) : PN X d mX10_later 0 [(2, 64), (0, x1), (0, x2)] [] I R Q := by
  refine P_aload_n (n := 0) (q := 1) rfl rfl (by decide +kernel) ?_
  refine P_iload_n (n := 1) (q := 2) rfl rfl (by decide +kernel) ?_
  refine P_invV (As := [(0, x1)]) (q := 5) oX10_isAhead rfl kM64 kX10_284 e1 hMF (Nat.le_of_ble_eq_true rfl) hc rfl (by decide +kernel) (fun z I2 R2 hq => ?_)
  exact (h z I2 R2 hq)
theorem S_X10_later_5 {X : CX} {d : Nat} {x1 x2 o0 : Int} {I R : PF} {Q : PV → PF → PF → Prop} (c1 : -2147483648 ≤ o0 ∧ o0 < 2147483648) (h1 : o0 = 0 → PN X d mX10_later 17 [] [] I R Q) (h2 : o0 ≠ 0 → PN X d mX10_later 8 [(2, 64), (0, x1), (0, x2)] [] I R Q) : PN X d mX10_later 5 [(2, 64), (0, x1), (0, x2)] [(0, o0)] I R Q := by
  refine B_if_eq (off := 12) (t := 17) (q := 8) c1 (by decide) rfl (by decide +kernel) ?_ ?_
  · exact fun g9 => (PW_sub (ls' := []) trivial (h1 g9))
  · exact fun g9 => (h2 g9)
theorem S_X10_later_8 {X : CX} {d : Nat} {x1 x2 : Int} {I R : PF} {Q : PV → PF → PF → Prop} (c1 : -2147483648 ≤ x2 ∧ x2 < 2147483648) (h1 : x2 < 0 → PN X d mX10_later 17 [] [] I R Q) (h2 : 0 ≤ x2 → PN X d mX10_later 12 [(2, 64), (0, x1), (0, x2)] [] I R Q) : PN X d mX10_later 8 [(2, 64), (0, x1), (0, x2)] [] I R Q := by
  refine P_iload_n (n := 2) (q := 9) rfl rfl (by decide +kernel) ?_
  refine B_if_lt (off := 8) (t := 17) (q := 12) c1 (by decide) rfl (by decide +kernel) ?_ ?_
  · exact fun g9 => (PW_sub (ls' := []) trivial (h1 g9))
  · exact fun g9 => (h2 g9)
theorem S_X10_later_12 {X : CX} {d : Nat} {x1 x2 : Int} {I R : PF} {Q : PV → PF → PF → Prop} (c1 : -2147483648 ≤ x2 ∧ x2 < 2147483648) (h1 : x2 ≤ 2 → PN X d mX10_later 19 [(2, 64), (0, x1), (0, x2)] [] I R Q) (h2 : 2 < x2 → PN X d mX10_later 17 [] [] I R Q) : PN X d mX10_later 12 [(2, 64), (0, x1), (0, x2)] [] I R Q := by
  refine P_iload_n (n := 2) (q := 13) rfl rfl (by decide +kernel) ?_
  refine P_iconst (n := 2) (q := 14) rfl (by decide +kernel) ?_
  refine B_icmp_le (off := 5) (t := 19) (q := 17) c1 ⟨by decide, by decide⟩ (by decide) rfl (by decide +kernel) ?_ ?_
  · exact fun g9 => (h1 g9)
  · exact fun g9 => (PW_sub (ls' := []) trivial (h2 g9))
theorem S_X10_later_17 {X : CX} {d : Nat} {I R : PF} {Q : PV → PF → PF → Prop} (h : Q (0, (-1)) I R) : PN X d mX10_later 17 [] [] I R Q := by
  refine P_iconst (n := (-1)) (q := 18) rfl (by decide +kernel) ?_
  refine P_iret rfl (by decide +kernel) h
theorem S_X10_later_19 {X : CX} {d d1 : Nat} {x1 x2 : Int} {I R : PF} {Q Q1 : PV → PF → PF → Prop} (hs : Shp R) (e1 : d1 + 1 ≤ d) (hc : CN X d1 mX8_copyFrom [(2, 119), (2, 111)] I R Q1) (h : ∀ z I2 R2, Q1 (9, z) I2 R2 → PN X d mX10_later 30 [(2, 64), (0, x1), (0, x2)] [] I2 R2 Q) : PN X d mX10_later 19 [(2, 64), (0, x1), (0, x2)] [] I R Q := by
  refine P_aload_n (n := 0) (q := 20) rfl rfl (by decide +kernel) ?_
  refine B_getfR (q := 23) fX10_77 kM64 (rM64_12 hs) rfl (by decide +kernel) ?_
  refine P_aload_n (n := 0) (q := 24) rfl rfl (by decide +kernel) ?_
  refine B_getfR (q := 27) fX10_73 kM64 (rM64_11 hs) rfl (by decide +kernel) ?_
  refine P_invV (As := [(2, 111)]) (q := 30) oX8_copyFrom rfl kM119 kX10_133 e1 hMF (Nat.le_of_ble_eq_true rfl) hc rfl (by decide +kernel) (fun z I2 R2 hq => ?_)
  exact (h z I2 R2 hq)
theorem S_X10_later_30 {X : CX} {d : Nat} {x1 x2 : Int} {I R : PF} {Q : PV → PF → PF → Prop} (h : PN X d mX10_later 32 [(2, 64), (0, x1), (0, x2), (0, 0)] [] I R Q) : PN X d mX10_later 30 [(2, 64), (0, x1), (0, x2)] [] I R Q := by
  refine P_iconst (n := 0) (q := 31) rfl (by decide +kernel) ?_
  refine P_istore_n (n := 3) (by decide) (q := 32) rfl (by decide +kernel) ?_
  exact h
theorem S_X10_later_32 {X : CX} {d : Nat} {x1 x2 x3 : Int} {I R : PF} {Q : PV → PF → PF → Prop} (c1 : -2147483648 ≤ x3 ∧ x3 < 2147483648) (c2 : -2147483648 ≤ x1 ∧ x1 < 2147483648) (h1 : x1 ≤ x3 → PN X d mX10_later 59 [(2, 64), (9, 0), (0, x2)] [] I R Q) (h2 : x3 < x1 → PN X d mX10_later 37 [(2, 64), (0, x1), (0, x2), (0, x3)] [] I R Q) : PN X d mX10_later 32 [(2, 64), (0, x1), (0, x2), (0, x3)] [] I R Q := by
  refine P_iload_n (n := 3) (q := 33) rfl rfl (by decide +kernel) ?_
  refine P_iload_n (n := 1) (q := 34) rfl rfl (by decide +kernel) ?_
  refine B_icmp_ge (off := 25) (t := 59) (q := 37) c1 c2 (by decide) rfl (by decide +kernel) ?_ ?_
  · exact fun g9 => (PW_sub (ls' := [(2, 64), (9, 0), (0, x2)]) ⟨Or.inr rfl, Or.inl rfl, Or.inr rfl, trivial⟩ (h1 g9))
  · exact fun g9 => (h2 g9)
theorem S_X10_later_37 {X : CX} {d d1 : Nat} {x1 x2 x3 t1 : Int} {I R : PF} {Q Q1 : PV → PF → PF → Prop} (hs : Shp R) (r1 : R 64 8 = t1) (e1 : d1 + 1 ≤ d) (hc : CN X d1 mX1_playNoon [(2, 127), (2, t1), (2, 119), (2, 0)] I R Q1) (h : ∀ z I2 R2, Q1 (9, z) I2 R2 → PN X d mX10_later 53 [(2, 64), (0, x1), (0, x2), (0, x3)] [] I2 R2 Q) : PN X d mX10_later 37 [(2, 64), (0, x1), (0, x2), (0, x3)] [] I R Q := by
  refine P_aload_n (n := 0) (q := 38) rfl rfl (by decide +kernel) ?_
  refine B_getfR (q := 41) fX10_85 kM64 (rM64_13 hs) rfl (by decide +kernel) ?_
  refine P_aload_n (n := 0) (q := 42) rfl rfl (by decide +kernel) ?_
  refine B_getfR (q := 45) fX10_54 kM64 r1 rfl (by decide +kernel) ?_
  refine P_aload_n (n := 0) (q := 46) rfl rfl (by decide +kernel) ?_
  refine B_getfR (q := 49) fX10_77 kM64 (rM64_12 hs) rfl (by decide +kernel) ?_
  refine P_anull (q := 50) rfl (by decide +kernel) ?_
  refine P_invV (As := [(2, t1), (2, 119), (2, 0)]) (q := 53) oX1_playNoon rfl kM127 kX10_287 e1 hMF (Nat.le_of_ble_eq_true rfl) hc rfl (by decide +kernel) (fun z I2 R2 hq => ?_)
  exact (h z I2 R2 hq)
theorem S_X10_later_53 {X : CX} {d : Nat} {x1 x2 x3 : Int} {I R : PF} {Q : PV → PF → PF → Prop} (h : PN X d mX10_later 32 [(2, 64), (0, x1), (0, x2), (0, (x3 + 1))] [] I R Q) : PN X d mX10_later 53 [(2, 64), (0, x1), (0, x2), (0, x3)] [] I R Q := by
  refine P_iinc (n := 3) (a := 1) (by decide) rfl (q := 56) rfl (by decide +kernel) ?_
  refine P_goto (off := (-24)) (t := 32) (by decide) (by decide +kernel) ?_
  exact h
theorem S_X10_later_59 {X : CX} {d : Nat} {x2 : Int} {I R : PF} {Q : PV → PF → PF → Prop} (c1 : -2147483648 ≤ x2 ∧ x2 < 2147483648) (h0 : x2 = 0 → PN X d mX10_later 88 [(2, 64)] [] I R Q) (h1 : x2 = 1 → PN X d mX10_later 96 [(2, 64)] [] I R Q) (hd : x2 ≠ 0 → x2 ≠ 1 → PN X d mX10_later 104 [(2, 64)] [] I R Q) : PN X d mX10_later 59 [(2, 64), (9, 0), (0, x2)] [] I R Q := by
  refine P_iload_n (n := 2) (q := 60) rfl rfl (by decide +kernel) ?_
  by_cases g0 : x2 = 0
  · exact P_lookup (dflt := 44) (ps := #[(0, 28), (1, 36)]) (len := 28) (off := 28) (t := 88) (by decide +kernel) (by decide) (by rw [w_of c1, g0]; rfl) (by decide) (PW_sub (ls' := [(2, 64)]) ⟨Or.inr rfl, trivial⟩ (h0 g0))
  by_cases g1 : x2 = 1
  · exact P_lookup (dflt := 44) (ps := #[(0, 28), (1, 36)]) (len := 28) (off := 36) (t := 96) (by decide +kernel) (by decide) (by rw [w_of c1, g1]; rfl) (by decide) (PW_sub (ls' := [(2, 64)]) ⟨Or.inr rfl, trivial⟩ (h1 g1))
  exact P_lookup (dflt := 44) (ps := #[(0, 28), (1, 36)]) (len := 28) (off := 44) (t := 104) (by decide +kernel) (by decide) (by rw [w_of c1]; simp [Op.lookupswitch.offset, Ne.symm g0, Ne.symm g1]) (by decide) (PW_sub (ls' := [(2, 64)]) ⟨Or.inr rfl, trivial⟩ (hd g0 g1))
theorem S_X10_later_88 {X : CX} {d : Nat} {I R : PF} {Q : PV → PF → PF → Prop} (hs : Shp R) (h : Q (0, (I 119 1)) I R) : PN X d mX10_later 88 [(2, 64)] [] I R Q := by
  refine P_aload_n (n := 0) (q := 89) rfl rfl (by decide +kernel) ?_
  refine B_getfR (q := 92) fX10_77 kM64 (rM64_12 hs) rfl (by decide +kernel) ?_
  refine P_getf (q := 95) fX10_160 kM119 rfl (by decide +kernel) ?_
  refine P_iret rfl (by decide +kernel) h
theorem S_X10_later_96 {X : CX} {d : Nat} {I R : PF} {Q : PV → PF → PF → Prop} (hs : Shp R) (h : Q (0, (I 119 2)) I R) : PN X d mX10_later 96 [(2, 64)] [] I R Q := by
  refine P_aload_n (n := 0) (q := 97) rfl rfl (by decide +kernel) ?_
  refine B_getfR (q := 100) fX10_77 kM64 (rM64_12 hs) rfl (by decide +kernel) ?_
  refine P_getf (q := 103) fX10_166 kM119 rfl (by decide +kernel) ?_
  refine P_iret rfl (by decide +kernel) h
theorem S_X10_later_104 {X : CX} {d d1 : Nat} {I R : PF} {Q Q1 : PV → PF → PF → Prop} (hs : Shp R) (e1 : d1 + 1 ≤ d) (hc : CN X d1 mX8_lawInForce [(2, 119)] I R Q1) (h : ∀ z I2 R2, Q1 (0, z) I2 R2 → PN X d mX10_later 111 [] [(0, z)] I2 R2 Q) : PN X d mX10_later 104 [(2, 64)] [] I R Q := by
  refine P_aload_n (n := 0) (q := 105) rfl rfl (by decide +kernel) ?_
  refine B_getfR (q := 108) fX10_77 kM64 (rM64_12 hs) rfl (by decide +kernel) ?_
  refine P_invV (As := []) (q := 111) oX8_lawInForce rfl kM119 kX10_163 e1 hMF (Nat.le_of_ble_eq_true rfl) hc rfl (by decide +kernel) (fun z I2 R2 hq => ?_)
  exact (PW_sub (ls' := []) trivial (h z I2 R2 hq))
theorem S_X10_later_111 {X : CX} {d : Nat} {o0 : Int} {I R : PF} {Q : PV → PF → PF → Prop} (h : Q (0, o0) I R) : PN X d mX10_later 111 [] [(0, o0)] I R Q := by
  refine P_iret rfl (by decide +kernel) h
theorem S_X10_letter_0 {X : CX} {d : Nat} {x1 x2 x3 : Int} {I R : PF} {Q : PV → PF → PF → Prop} (c1 : -2147483648 ≤ x3 ∧ x3 < 2147483648) (h1 : x3 < 0 → PN X d mX10_letter 14 [] [] I R Q) (h2 : 0 ≤ x3 → PN X d mX10_letter 4 [(2, 64), (0, x1), (0, x2), (0, x3)] [] I R Q) : PN X d mX10_letter 0 [(2, 64), (0, x1), (0, x2), (0, x3)] [] I R Q := by
  refine P_iload_n (n := 3) (q := 1) rfl rfl (by decide +kernel) ?_
  refine B_if_lt (off := 13) (t := 14) (q := 4) c1 (by decide) rfl (by decide +kernel) ?_ ?_
  · exact fun g9 => (PW_sub (ls' := []) trivial (h1 g9))
  · exact fun g9 => (h2 g9)
theorem S_X10_letter_4 {X : CX} {d : Nat} {x1 x2 x3 : Int} {I R : PF} {Q : PV → PF → PF → Prop} (c1 : -2147483648 ≤ x3 ∧ x3 < 2147483648) (h1 : 6 ≤ x3 → PN X d mX10_letter 14 [] [] I R Q) (h2 : x3 < 6 → PN X d mX10_letter 10 [(2, 64), (0, x1), (0, x2), (0, x3)] [] I R Q) : PN X d mX10_letter 4 [(2, 64), (0, x1), (0, x2), (0, x3)] [] I R Q := by
  refine P_iload_n (n := 3) (q := 5) rfl rfl (by decide +kernel) ?_
  refine P_bipush (n := 6) (q := 7) rfl rfl (by decide +kernel) ?_
  refine B_icmp_ge (off := 7) (t := 14) (q := 10) c1 ⟨by decide, by decide⟩ (by decide) rfl (by decide +kernel) ?_ ?_
  · exact fun g9 => (PW_sub (ls' := []) trivial (h1 g9))
  · exact fun g9 => (h2 g9)
theorem S_X10_letter_10 {X : CX} {d : Nat} {x1 x2 x3 : Int} {I R : PF} {Q : PV → PF → PF → Prop} (c1 : -2147483648 ≤ x2 ∧ x2 < 2147483648) (h1 : 0 ≤ x2 → PN X d mX10_letter 16 [(2, 64), (0, x1), (0, x2), (0, x3)] [] I R Q) (h2 : x2 < 0 → PN X d mX10_letter 14 [] [] I R Q) : PN X d mX10_letter 10 [(2, 64), (0, x1), (0, x2), (0, x3)] [] I R Q := by
  refine P_iload_n (n := 2) (q := 11) rfl rfl (by decide +kernel) ?_
  refine B_if_ge (off := 5) (t := 16) (q := 14) c1 (by decide) rfl (by decide +kernel) ?_ ?_
  · exact fun g9 => (h1 g9)
  · exact fun g9 => (PW_sub (ls' := []) trivial (h2 g9))
theorem S_X10_letter_14 {X : CX} {d : Nat} {I R : PF} {Q : PV → PF → PF → Prop} (h : Q (0, (-1)) I R) : PN X d mX10_letter 14 [] [] I R Q := by
  refine P_iconst (n := (-1)) (q := 15) rfl (by decide +kernel) ?_
  refine P_iret rfl (by decide +kernel) h
theorem S_X10_letter_16 {X : CX} {d : Nat} {x1 x2 x3 : Int} {I R : PF} {Q : PV → PF → PF → Prop} (c1 : -2147483648 ≤ x1 ∧ x1 < 2147483648) (h1 : x1 ≠ 0 → PN X d mX10_letter 45 [(2, 64), (0, x1), (0, x2), (0, x3)] [] I R Q) (h2 : x1 = 0 → PN X d mX10_letter 20 [(2, 64), (0, x1), (0, x2), (0, x3)] [] I R Q) : PN X d mX10_letter 16 [(2, 64), (0, x1), (0, x2), (0, x3)] [] I R Q := by
  refine P_iload_n (n := 1) (q := 17) rfl rfl (by decide +kernel) ?_
  refine B_if_ne (off := 28) (t := 45) (q := 20) c1 (by decide) rfl (by decide +kernel) ?_ ?_
  · exact fun g9 => (h1 g9)
  · exact fun g9 => (h2 g9)
theorem S_X10_letter_20 {X : CX} {d : Nat} {x1 x2 x3 t1 : Int} {I R : PF} {Q : PV → PF → PF → Prop} (r1 : R 64 8 = t1) (k1 : kd MF t1 = 6) (c1 : -2147483648 ≤ x2 ∧ x2 < 2147483648) (c2 : -2147483648 ≤ (I t1 5) ∧ (I t1 5) < 2147483648) (h1 : (I t1 5) ≤ x2 → PN X d mX10_letter 45 [(2, 64), (0, x1), (0, x2), (0, x3)] [] I R Q) (h2 : x2 < (I t1 5) → PN X d mX10_letter 31 [(2, 64), (9, 0), (0, x2), (0, x3)] [] I R Q) : PN X d mX10_letter 20 [(2, 64), (0, x1), (0, x2), (0, x3)] [] I R Q := by
  refine P_iload_n (n := 2) (q := 21) rfl rfl (by decide +kernel) ?_
  refine P_aload_n (n := 0) (q := 22) rfl rfl (by decide +kernel) ?_
  refine B_getfR (q := 25) fX10_54 kM64 r1 rfl (by decide +kernel) ?_
  refine P_getf (q := 28) fX10_148 k1 rfl (by decide +kernel) ?_
  refine B_icmp_ge (off := 17) (t := 45) (q := 31) c1 c2 (by decide) rfl (by decide +kernel) ?_ ?_
  · exact fun g9 => (h1 g9)
  · exact fun g9 => (PW_sub (ls' := [(2, 64), (9, 0), (0, x2), (0, x3)]) ⟨Or.inr rfl, Or.inl rfl, Or.inr rfl, Or.inr rfl, trivial⟩ (h2 g9))
theorem S_X10_letter_31 {X : CX} {d d1 : Nat} {x2 x3 t1 : Int} {I R : PF} {Q Q1 : PV → PF → PF → Prop} (hs : Shp R) (r1 : R 64 8 = t1) (k1 : kd MF t1 = 6) (b1 : (0 : Int) ≤ x2 ∧ x2 < 6) (e1 : d1 + 1 ≤ d) (hc : CN X d1 mX9_letterOf [(0, (I (t1 + 1) x2)), (0, x3)] I R Q1) (h : ∀ z I2 R2, Q1 (0, z) I2 R2 → PN X d mX10_letter 44 [] [(0, z)] I2 R2 Q) : PN X d mX10_letter 31 [(2, 64), (9, 0), (0, x2), (0, x3)] [] I R Q := by
  refine P_aload_n (n := 0) (q := 32) rfl rfl (by decide +kernel) ?_
  refine B_getfR (q := 35) fX10_54 kM64 r1 rfl (by decide +kernel) ?_
  refine B_getfR (q := 38) fX10_175 k1 (sh6_8 hs k1) rfl (by decide +kernel) ?_
  refine P_iload_n (n := 2) (q := 39) rfl rfl (by decide +kernel) ?_
  refine B_iaload (q := 40) (sq1 k1) (sq1n k1) (by decide) b1 rfl (by decide +kernel) ?_
  refine P_iload_n (n := 3) (q := 41) rfl rfl (by decide +kernel) ?_
  refine P_invS (As := [(0, (I (t1 + 1) x2)), (0, x3)]) (q := 44) oX9_letterOf rfl (Or.inl kX10_178) e1 hMF (Nat.le_of_ble_eq_true rfl) hc rfl (by decide +kernel) (fun z I2 R2 hq => ?_)
  exact (PW_sub (ls' := []) trivial (h z I2 R2 hq))
theorem S_X10_letter_44 {X : CX} {d : Nat} {o0 : Int} {I R : PF} {Q : PV → PF → PF → Prop} (h : Q (0, o0) I R) : PN X d mX10_letter 44 [] [(0, o0)] I R Q := by
  refine P_iret rfl (by decide +kernel) h
theorem S_X10_letter_45 {X : CX} {d : Nat} {x1 x2 x3 : Int} {I R : PF} {Q : PV → PF → PF → Prop} (c1 : -2147483648 ≤ x1 ∧ x1 < 2147483648) (h1 : x1 ≠ 1 → PN X d mX10_letter 75 [] [] I R Q) (h2 : x1 = 1 → PN X d mX10_letter 50 [(2, 64), (9, 0), (0, x2), (0, x3)] [] I R Q) : PN X d mX10_letter 45 [(2, 64), (0, x1), (0, x2), (0, x3)] [] I R Q := by
  refine P_iload_n (n := 1) (q := 46) rfl rfl (by decide +kernel) ?_
  refine P_iconst (n := 1) (q := 47) rfl (by decide +kernel) ?_
  refine B_icmp_ne (off := 28) (t := 75) (q := 50) c1 ⟨by decide, by decide⟩ (by decide) rfl (by decide +kernel) ?_ ?_
  · exact fun g9 => (PW_sub (ls' := []) trivial (h1 g9))
  · exact fun g9 => (PW_sub (ls' := [(2, 64), (9, 0), (0, x2), (0, x3)]) ⟨Or.inr rfl, Or.inl rfl, Or.inr rfl, Or.inr rfl, trivial⟩ (h2 g9))
theorem S_X10_letter_50 {X : CX} {d : Nat} {x2 x3 : Int} {I R : PF} {Q : PV → PF → PF → Prop} (hs : Shp R) (c1 : -2147483648 ≤ x2 ∧ x2 < 2147483648) (c2 : -2147483648 ≤ (I 111 3) ∧ (I 111 3) < 2147483648) (h1 : (I 111 3) ≤ x2 → PN X d mX10_letter 75 [] [] I R Q) (h2 : x2 < (I 111 3) → PN X d mX10_letter 61 [(2, 64), (9, 0), (0, x2), (0, x3)] [] I R Q) : PN X d mX10_letter 50 [(2, 64), (9, 0), (0, x2), (0, x3)] [] I R Q := by
  refine P_iload_n (n := 2) (q := 51) rfl rfl (by decide +kernel) ?_
  refine P_aload_n (n := 0) (q := 52) rfl rfl (by decide +kernel) ?_
  refine B_getfR (q := 55) fX10_73 kM64 (rM64_11 hs) rfl (by decide +kernel) ?_
  refine P_getf (q := 58) fX10_151 kM111 rfl (by decide +kernel) ?_
  refine B_icmp_ge (off := 17) (t := 75) (q := 61) c1 c2 (by decide) rfl (by decide +kernel) ?_ ?_
  · exact fun g9 => (PW_sub (ls' := []) trivial (h1 g9))
  · exact fun g9 => (h2 g9)
theorem S_X10_letter_61 {X : CX} {d d1 : Nat} {x2 x3 t1 : Int} {I R : PF} {Q Q1 : PV → PF → PF → Prop} (hs : Shp R) (r1 : R 64 8 = t1) (k1 : kd MF t1 = 6) (b1 : (0 : Int) ≤ x2 ∧ x2 < 6) (e1 : d1 + 1 ≤ d) (hc : CN X d1 mX9_letterOf [(0, (I (t1 + 2) x2)), (0, x3)] I R Q1) (h : ∀ z I2 R2, Q1 (0, z) I2 R2 → PN X d mX10_letter 74 [] [(0, z)] I2 R2 Q) : PN X d mX10_letter 61 [(2, 64), (9, 0), (0, x2), (0, x3)] [] I R Q := by
  refine P_aload_n (n := 0) (q := 62) rfl rfl (by decide +kernel) ?_
  refine B_getfR (q := 65) fX10_54 kM64 r1 rfl (by decide +kernel) ?_
  refine B_getfR (q := 68) fX10_184 k1 (sh6_9 hs k1) rfl (by decide +kernel) ?_
  refine P_iload_n (n := 2) (q := 69) rfl rfl (by decide +kernel) ?_
  refine B_iaload (q := 70) (sq2 k1) (sq2n k1) (by decide) b1 rfl (by decide +kernel) ?_
  refine P_iload_n (n := 3) (q := 71) rfl rfl (by decide +kernel) ?_
  refine P_invS (As := [(0, (I (t1 + 2) x2)), (0, x3)]) (q := 74) oX9_letterOf rfl (Or.inl kX10_178) e1 hMF (Nat.le_of_ble_eq_true rfl) hc rfl (by decide +kernel) (fun z I2 R2 hq => ?_)
  exact (PW_sub (ls' := []) trivial (h z I2 R2 hq))
theorem S_X10_letter_74 {X : CX} {d : Nat} {o0 : Int} {I R : PF} {Q : PV → PF → PF → Prop} (h : Q (0, o0) I R) : PN X d mX10_letter 74 [] [(0, o0)] I R Q := by
  refine P_iret rfl (by decide +kernel) h
theorem S_X10_letter_75 {X : CX} {d : Nat} {I R : PF} {Q : PV → PF → PF → Prop} (h : Q (0, (-1)) I R) : PN X d mX10_letter 75 [] [] I R Q := by
  refine P_iconst (n := (-1)) (q := 76) rfl (by decide +kernel) ?_
  refine P_iret rfl (by decide +kernel) h
theorem S_X10_likely_0 {X : CX} {d d1 : Nat} {x1 x2 : Int} {I R : PF} {Q Q1 : PV → PF → PF → Prop} (hs : Shp R) (e1 : d1 + 1 ≤ d) (hc : CN X d1 mX8_knows [(2, 111), (0, x1)] I R Q1) (h : ∀ z I2 R2, Q1 (0, z) I2 R2 → PN X d mX10_likely 8 [(2, 64), (0, x1), (0, x2)] [(0, z)] I2 R2 Q) : PN X d mX10_likely 0 [(2, 64), (0, x1), (0, x2)] [] I R Q := by
  refine P_aload_n (n := 0) (q := 1) rfl rfl (by decide +kernel) ?_
  refine B_getfR (q := 4) fX10_73 kM64 (rM64_11 hs) rfl (by decide +kernel) ?_
  refine P_iload_n (n := 1) (q := 5) rfl rfl (by decide +kernel) ?_
  refine P_invV (As := [(0, x1)]) (q := 8) oX8_knows rfl kM111 kX10_187 e1 hMF (Nat.le_of_ble_eq_true rfl) hc rfl (by decide +kernel) (fun z I2 R2 hq => ?_)
  exact (h z I2 R2 hq)
theorem S_X10_likely_8 {X : CX} {d : Nat} {x1 x2 o0 : Int} {I R : PF} {Q : PV → PF → PF → Prop} (c1 : -2147483648 ≤ o0 ∧ o0 < 2147483648) (h1 : o0 = 0 → PN X d mX10_likely 20 [] [] I R Q) (h2 : o0 ≠ 0 → PN X d mX10_likely 11 [(2, 64), (0, x1), (0, x2)] [] I R Q) : PN X d mX10_likely 8 [(2, 64), (0, x1), (0, x2)] [(0, o0)] I R Q := by
  refine B_if_eq (off := 12) (t := 20) (q := 11) c1 (by decide) rfl (by decide +kernel) ?_ ?_
  · exact fun g9 => (PW_sub (ls' := []) trivial (h1 g9))
  · exact fun g9 => (h2 g9)
theorem S_X10_likely_11 {X : CX} {d : Nat} {x1 x2 : Int} {I R : PF} {Q : PV → PF → PF → Prop} (c1 : -2147483648 ≤ x2 ∧ x2 < 2147483648) (h1 : x2 < 0 → PN X d mX10_likely 20 [] [] I R Q) (h2 : 0 ≤ x2 → PN X d mX10_likely 15 [(2, 64), (0, x1), (0, x2)] [] I R Q) : PN X d mX10_likely 11 [(2, 64), (0, x1), (0, x2)] [] I R Q := by
  refine P_iload_n (n := 2) (q := 12) rfl rfl (by decide +kernel) ?_
  refine B_if_lt (off := 8) (t := 20) (q := 15) c1 (by decide) rfl (by decide +kernel) ?_ ?_
  · exact fun g9 => (PW_sub (ls' := []) trivial (h1 g9))
  · exact fun g9 => (h2 g9)
theorem S_X10_likely_15 {X : CX} {d : Nat} {x1 x2 : Int} {I R : PF} {Q : PV → PF → PF → Prop} (c1 : -2147483648 ≤ x2 ∧ x2 < 2147483648) (h1 : x2 ≤ 1 → PN X d mX10_likely 22 [(2, 64), (0, x1), (0, x2)] [] I R Q) (h2 : 1 < x2 → PN X d mX10_likely 20 [] [] I R Q) : PN X d mX10_likely 15 [(2, 64), (0, x1), (0, x2)] [] I R Q := by
  refine P_iload_n (n := 2) (q := 16) rfl rfl (by decide +kernel) ?_
  refine P_iconst (n := 1) (q := 17) rfl (by decide +kernel) ?_
  refine B_icmp_le (off := 5) (t := 22) (q := 20) c1 ⟨by decide, by decide⟩ (by decide) rfl (by decide +kernel) ?_ ?_
  · exact fun g9 => (h1 g9)
  · exact fun g9 => (PW_sub (ls' := []) trivial (h2 g9))
theorem S_X10_likely_20 {X : CX} {d : Nat} {I R : PF} {Q : PV → PF → PF → Prop} (h : Q (0, (-1)) I R) : PN X d mX10_likely 20 [] [] I R Q := by
  refine P_iconst (n := (-1)) (q := 21) rfl (by decide +kernel) ?_
  refine P_iret rfl (by decide +kernel) h
theorem S_X10_likely_22 {X : CX} {d d1 : Nat} {x1 x2 t1 : Int} {I R : PF} {Q Q1 : PV → PF → PF → Prop} (hs : Shp R) (r1 : R 64 8 = t1) (e1 : d1 + 1 ≤ d) (hc : CN X d1 mX1_prepare [(2, 127), (2, t1), (2, 111), (0, (I 111 0)), (2, 0)] I R Q1) (h : ∀ z I2 R2, Q1 (9, z) I2 R2 → PN X d mX10_likely 45 [(2, 64), (0, x1), (0, x2)] [] I2 R2 Q) : PN X d mX10_likely 22 [(2, 64), (0, x1), (0, x2)] [] I R Q := by
  refine P_aload_n (n := 0) (q := 23) rfl rfl (by decide +kernel) ?_
  refine B_getfR (q := 26) fX10_85 kM64 (rM64_13 hs) rfl (by decide +kernel) ?_
  refine P_aload_n (n := 0) (q := 27) rfl rfl (by decide +kernel) ?_
  refine B_getfR (q := 30) fX10_54 kM64 r1 rfl (by decide +kernel) ?_
  refine P_aload_n (n := 0) (q := 31) rfl rfl (by decide +kernel) ?_
  refine B_getfR (q := 34) fX10_73 kM64 (rM64_11 hs) rfl (by decide +kernel) ?_
  refine P_aload_n (n := 0) (q := 35) rfl rfl (by decide +kernel) ?_
  refine B_getfR (q := 38) fX10_73 kM64 (rM64_11 hs) rfl (by decide +kernel) ?_
  refine P_getf (q := 41) fX10_157 kM111 rfl (by decide +kernel) ?_
  refine P_anull (q := 42) rfl (by decide +kernel) ?_
  refine P_invV (As := [(2, t1), (2, 111), (0, (I 111 0)), (2, 0)]) (q := 45) oX1_prepare rfl kM127 kX10_215 e1 hMF (Nat.le_of_ble_eq_true rfl) hc rfl (by decide +kernel) (fun z I2 R2 hq => ?_)
  exact (h z I2 R2 hq)
theorem S_X10_likely_45 {X : CX} {d : Nat} {x1 x2 : Int} {I R : PF} {Q : PV → PF → PF → Prop} (c1 : -2147483648 ≤ x2 ∧ x2 < 2147483648) (h1 : x2 ≠ 0 → PN X d mX10_likely 60 [(2, 64), (0, x1)] [] I R Q) (h2 : x2 = 0 → PN X d mX10_likely 49 [(2, 64), (0, x1)] [] I R Q) : PN X d mX10_likely 45 [(2, 64), (0, x1), (0, x2)] [] I R Q := by
  refine P_iload_n (n := 2) (q := 46) rfl rfl (by decide +kernel) ?_
  refine B_if_ne (off := 14) (t := 60) (q := 49) c1 (by decide) rfl (by decide +kernel) ?_ ?_
  · exact fun g9 => (PW_sub (ls' := [(2, 64), (0, x1)]) ⟨Or.inr rfl, Or.inr rfl, trivial⟩ (h1 g9))
  · exact fun g9 => (PW_sub (ls' := [(2, 64), (0, x1)]) ⟨Or.inr rfl, Or.inr rfl, trivial⟩ (h2 g9))
theorem S_X10_likely_49 {X : CX} {d d1 : Nat} {x1 : Int} {I R : PF} {Q Q1 : PV → PF → PF → Prop} (hs : Shp R) (e1 : d1 + 1 ≤ d) (hc : CN X d1 mX1_firstGot [(2, 127), (0, x1)] I R Q1) (h : ∀ z I2 R2, Q1 (0, z) I2 R2 → PN X d mX10_likely 57 [] [(0, z)] I2 R2 Q) : PN X d mX10_likely 49 [(2, 64), (0, x1)] [] I R Q := by
  refine P_aload_n (n := 0) (q := 50) rfl rfl (by decide +kernel) ?_
  refine B_getfR (q := 53) fX10_85 kM64 (rM64_13 hs) rfl (by decide +kernel) ?_
  refine P_iload_n (n := 1) (q := 54) rfl rfl (by decide +kernel) ?_
  refine P_invV (As := [(0, x1)]) (q := 57) oX1_firstGot rfl kM127 kX10_240 e1 hMF (Nat.le_of_ble_eq_true rfl) hc rfl (by decide +kernel) (fun z I2 R2 hq => ?_)
  exact (PW_sub (ls' := []) trivial (h z I2 R2 hq))
theorem S_X10_likely_57 {X : CX} {d : Nat} {o0 : Int} {I R : PF} {Q : PV → PF → PF → Prop} (h : PN X d mX10_likely 68 [] [(0, o0)] I R Q) : PN X d mX10_likely 57 [] [(0, o0)] I R Q := by
  refine P_goto (off := 11) (t := 68) (by decide) (by decide +kernel) ?_
  exact (PW_sub (ls' := []) trivial h)
theorem S_X10_likely_60 {X : CX} {d d1 : Nat} {x1 : Int} {I R : PF} {Q Q1 : PV → PF → PF → Prop} (hs : Shp R) (e1 : d1 + 1 ≤ d) (hc : CN X d1 mX1_countGot [(2, 127), (0, x1)] I R Q1) (h : ∀ z I2 R2, Q1 (0, z) I2 R2 → PN X d mX10_likely 68 [] [(0, z)] I2 R2 Q) : PN X d mX10_likely 60 [(2, 64), (0, x1)] [] I R Q := by
  refine P_aload_n (n := 0) (q := 61) rfl rfl (by decide +kernel) ?_
  refine B_getfR (q := 64) fX10_85 kM64 (rM64_13 hs) rfl (by decide +kernel) ?_
  refine P_iload_n (n := 1) (q := 65) rfl rfl (by decide +kernel) ?_
  refine P_invV (As := [(0, x1)]) (q := 68) oX1_countGot rfl kM127 kX10_244 e1 hMF (Nat.le_of_ble_eq_true rfl) hc rfl (by decide +kernel) (fun z I2 R2 hq => ?_)
  exact (PW_sub (ls' := []) trivial (h z I2 R2 hq))
theorem S_X10_likely_68 {X : CX} {d : Nat} {o0 : Int} {I R : PF} {Q : PV → PF → PF → Prop} (h : Q (0, o0) I R) : PN X d mX10_likely 68 [] [(0, o0)] I R Q := by
  refine P_iret rfl (by decide +kernel) h
theorem S_X10_move_0 {X : CX} {d d1 : Nat} {x1 x2 x3 : Int} {I R : PF} {Q Q1 : PV → PF → PF → Prop} (hs : Shp R) (e1 : d1 + 1 ≤ d) (hc : CN X d1 mX8_knows [(2, 111), (0, x1)] I R Q1) (h : ∀ z I2 R2, Q1 (0, z) I2 R2 → PN X d mX10_move 8 [(2, 64), (0, x1), (0, x2), (0, x3)] [(0, z)] I2 R2 Q) : PN X d mX10_move 0 [(2, 64), (0, x1), (0, x2), (0, x3)] [] I R Q := by
  refine P_aload_n (n := 0) (q := 1) rfl rfl (by decide +kernel) ?_
  refine B_getfR (q := 4) fX10_73 kM64 (rM64_11 hs) rfl (by decide +kernel) ?_
  refine P_iload_n (n := 1) (q := 5) rfl rfl (by decide +kernel) ?_
  refine P_invV (As := [(0, x1)]) (q := 8) oX8_knows rfl kM111 kX10_187 e1 hMF (Nat.le_of_ble_eq_true rfl) hc rfl (by decide +kernel) (fun z I2 R2 hq => ?_)
  exact (h z I2 R2 hq)
theorem S_X10_move_8 {X : CX} {d : Nat} {x1 x2 x3 o0 : Int} {I R : PF} {Q : PV → PF → PF → Prop} (c1 : -2147483648 ≤ o0 ∧ o0 < 2147483648) (h1 : o0 = 0 → PN X d mX10_move 33 [(2, 64)] [] I R Q) (h2 : o0 ≠ 0 → PN X d mX10_move 11 [(2, 64), (0, x1), (0, x2), (0, x3)] [] I R Q) : PN X d mX10_move 8 [(2, 64), (0, x1), (0, x2), (0, x3)] [(0, o0)] I R Q := by
  refine B_if_eq (off := 25) (t := 33) (q := 11) c1 (by decide) rfl (by decide +kernel) ?_ ?_
  · exact fun g9 => (PW_sub (ls' := [(2, 64)]) ⟨Or.inr rfl, trivial⟩ (h1 g9))
  · exact fun g9 => (h2 g9)
theorem S_X10_move_11 {X : CX} {d d1 : Nat} {x1 x2 x3 : Int} {I R : PF} {Q Q1 : PV → PF → PF → Prop} (e1 : d1 + 1 ≤ d) (hc : CN X d1 mX10_place [(2, 64), (0, x2), (0, x3)] I R Q1) (h : ∀ z I2 R2, Q1 (0, z) I2 R2 → PN X d mX10_move 17 [(2, 64), (0, x1), (0, x2), (0, x3)] [(0, z)] I2 R2 Q) : PN X d mX10_move 11 [(2, 64), (0, x1), (0, x2), (0, x3)] [] I R Q := by
  refine P_aload_n (n := 0) (q := 12) rfl rfl (by decide +kernel) ?_
  refine P_iload_n (n := 2) (q := 13) rfl rfl (by decide +kernel) ?_
  refine P_iload_n (n := 3) (q := 14) rfl rfl (by decide +kernel) ?_
  refine P_invV (As := [(0, x2), (0, x3)]) (q := 17) oX10_place rfl kM64 kX10_311 e1 hMF (Nat.le_of_ble_eq_true rfl) hc rfl (by decide +kernel) (fun z I2 R2 hq => ?_)
  exact (h z I2 R2 hq)
theorem S_X10_move_17 {X : CX} {d : Nat} {x1 x2 x3 o0 : Int} {I R : PF} {Q : PV → PF → PF → Prop} (c1 : -2147483648 ≤ o0 ∧ o0 < 2147483648) (h1 : o0 ≠ (-1) → PN X d mX10_move 33 [(2, 64)] [] I R Q) (h2 : o0 = (-1) → PN X d mX10_move 21 [(2, 64), (0, x1), (0, x2), (0, x3)] [] I R Q) : PN X d mX10_move 17 [(2, 64), (0, x1), (0, x2), (0, x3)] [(0, o0)] I R Q := by
  refine P_iconst (n := (-1)) (q := 18) rfl (by decide +kernel) ?_
  refine B_icmp_ne (off := 15) (t := 33) (q := 21) c1 ⟨by decide, by decide⟩ (by decide) rfl (by decide +kernel) ?_ ?_
  · exact fun g9 => (PW_sub (ls' := [(2, 64)]) ⟨Or.inr rfl, trivial⟩ (h1 g9))
  · exact fun g9 => (h2 g9)
theorem S_X10_move_21 {X : CX} {d d1 : Nat} {x1 x2 x3 t1 : Int} {I R : PF} {Q Q1 : PV → PF → PF → Prop} (r1 : R 64 8 = t1) (e1 : d1 + 1 ≤ d) (hc : CN X d1 mX6_within [(2, t1), (0, x2), (0, x3)] I R Q1) (k1 : kd MF t1 = 6) (h : ∀ z I2 R2, Q1 (0, z) I2 R2 → PN X d mX10_move 30 [(2, 64), (0, x1), (0, x2), (0, x3)] [(0, z)] I2 R2 Q) : PN X d mX10_move 21 [(2, 64), (0, x1), (0, x2), (0, x3)] [] I R Q := by
  refine P_aload_n (n := 0) (q := 22) rfl rfl (by decide +kernel) ?_
  refine B_getfR (q := 25) fX10_54 kM64 r1 rfl (by decide +kernel) ?_
  refine P_iload_n (n := 2) (q := 26) rfl rfl (by decide +kernel) ?_
  refine P_iload_n (n := 3) (q := 27) rfl rfl (by decide +kernel) ?_
  refine P_invV (As := [(0, x2), (0, x3)]) (q := 30) oX6_within rfl k1 kX10_195 e1 hMF (Nat.le_of_ble_eq_true rfl) hc rfl (by decide +kernel) (fun z I2 R2 hq => ?_)
  exact (h z I2 R2 hq)
theorem S_X10_move_30 {X : CX} {d : Nat} {x1 x2 x3 o0 : Int} {I R : PF} {Q : PV → PF → PF → Prop} (c1 : -2147483648 ≤ o0 ∧ o0 < 2147483648) (h1 : o0 ≠ 0 → PN X d mX10_move 45 [(2, 64), (0, x1), (0, x2), (0, x3)] [] I R Q) (h2 : o0 = 0 → PN X d mX10_move 33 [(2, 64)] [] I R Q) : PN X d mX10_move 30 [(2, 64), (0, x1), (0, x2), (0, x3)] [(0, o0)] I R Q := by
  refine B_if_ne (off := 15) (t := 45) (q := 33) c1 (by decide) rfl (by decide +kernel) ?_ ?_
  · exact fun g9 => (h1 g9)
  · exact fun g9 => (PW_sub (ls' := [(2, 64)]) ⟨Or.inr rfl, trivial⟩ (h2 g9))
theorem S_X10_move_33 {X : CX} {d : Nat} {I R : PF} {Q : PV → PF → PF → Prop} (hs : Shp R) (h : Q (0, 0) (u2 I 66 2 ((I 66 2) + 1)) R) : PN X d mX10_move 33 [(2, 64)] [] I R Q := by
  refine P_aload_n (n := 0) (q := 34) rfl rfl (by decide +kernel) ?_
  refine B_getfR (q := 37) fX10_17 kM64 (rM64_2 hs) rfl (by decide +kernel) ?_
  refine P_iconst (n := 2) (q := 38) rfl (by decide +kernel) ?_
  refine P_dup2 (q := 39) (Nat.ne_of_beq_eq_false rfl) (Nat.ne_of_beq_eq_false rfl) rfl (by decide +kernel) ?_
  refine B_iaload (q := 40) kM66 nM66 (by decide) ⟨by decide, by decide⟩ rfl (by decide +kernel) ?_
  refine P_iconst (n := 1) (q := 41) rfl (by decide +kernel) ?_
  refine P_iadd (q := 42) rfl (by decide +kernel) ?_
  refine B_iastore (q := 43) kM66 nM66 (by decide) ⟨by decide, by decide⟩ rfl (by decide +kernel) ?_
  refine P_iconst (n := 0) (q := 44) rfl (by decide +kernel) ?_
  refine P_zret rfl (Or.inl rfl) (by decide +kernel) h
theorem S_X10_move_45 {X : CX} {d d1 : Nat} {x1 x2 x3 : Int} {I R : PF} {Q Q1 : PV → PF → PF → Prop} (hs : Shp R) (e1 : d1 + 1 ≤ d) (hc : CN X d1 mX4_remember [(2, 136), (2, 111)] I R Q1) (h : ∀ z I2 R2, Q1 (9, z) I2 R2 → PN X d mX10_move 56 [(2, 64), (0, x1), (0, x2), (0, x3)] [] I2 R2 Q) : PN X d mX10_move 45 [(2, 64), (0, x1), (0, x2), (0, x3)] [] I R Q := by
  refine P_aload_n (n := 0) (q := 46) rfl rfl (by decide +kernel) ?_
  refine B_getfR (q := 49) fX10_92 kM64 (rM64_14 hs) rfl (by decide +kernel) ?_
  refine P_aload_n (n := 0) (q := 50) rfl rfl (by decide +kernel) ?_
  refine B_getfR (q := 53) fX10_73 kM64 (rM64_11 hs) rfl (by decide +kernel) ?_
  refine P_invV (As := [(2, 111)]) (q := 56) oX4_remember rfl kM136 kX10_314 e1 hMF (Nat.le_of_ble_eq_true rfl) hc rfl (by decide +kernel) (fun z I2 R2 hq => ?_)
  exact (h z I2 R2 hq)
theorem S_X10_move_56 {X : CX} {d d1 : Nat} {x1 x2 x3 : Int} {I R : PF} {Q Q1 : PV → PF → PF → Prop} (hs : Shp R) (e1 : d1 + 1 ≤ d) (hc : CN X d1 mX8_put [(2, 111), (0, x1), (0, x2), (0, x3)] I R Q1) (h : ∀ z I2 R2, Q1 (9, z) I2 R2 → PN X d mX10_move 66 [] [] I2 R2 Q) : PN X d mX10_move 56 [(2, 64), (0, x1), (0, x2), (0, x3)] [] I R Q := by
  refine P_aload_n (n := 0) (q := 57) rfl rfl (by decide +kernel) ?_
  refine B_getfR (q := 60) fX10_73 kM64 (rM64_11 hs) rfl (by decide +kernel) ?_
  refine P_iload_n (n := 1) (q := 61) rfl rfl (by decide +kernel) ?_
  refine P_iload_n (n := 2) (q := 62) rfl rfl (by decide +kernel) ?_
  refine P_iload_n (n := 3) (q := 63) rfl rfl (by decide +kernel) ?_
  refine P_invV (As := [(0, x1), (0, x2), (0, x3)]) (q := 66) oX8_put rfl kM111 kX10_251 e1 hMF (Nat.le_of_ble_eq_true rfl) hc rfl (by decide +kernel) (fun z I2 R2 hq => ?_)
  exact (PW_sub (ls' := []) trivial (h z I2 R2 hq))
theorem S_X10_move_66 {X : CX} {d : Nat} {I R : PF} {Q : PV → PF → PF → Prop} (h : Q (0, 1) I R) : PN X d mX10_move 66 [] [] I R Q := by
  refine P_iconst (n := 1) (q := 67) rfl (by decide +kernel) ?_
  refine P_zret rfl (Or.inr rfl) (by decide +kernel) h
theorem S_X10_noons_0 {X : CX} {d d1 : Nat} {x1 : Int} {I R : PF} {Q Q1 : PV → PF → PF → Prop} (e1 : d1 + 1 ≤ d) (hc : CN X d1 mX10_canTurn [(2, 64), (0, x1)] I R Q1) (h : ∀ z I2 R2, Q1 (0, z) I2 R2 → PN X d mX10_noons 5 [(2, 64), (0, x1)] [(0, z)] I2 R2 Q) : PN X d mX10_noons 0 [(2, 64), (0, x1)] [] I R Q := by
  refine P_aload_n (n := 0) (q := 1) rfl rfl (by decide +kernel) ?_
  refine P_iload_n (n := 1) (q := 2) rfl rfl (by decide +kernel) ?_
  refine P_invV (As := [(0, x1)]) (q := 5) oX10_canTurn rfl kM64 kX10_320 e1 hMF (Nat.le_of_ble_eq_true rfl) hc rfl (by decide +kernel) (fun z I2 R2 hq => ?_)
  exact (h z I2 R2 hq)
theorem S_X10_noons_5 {X : CX} {d : Nat} {x1 o0 : Int} {I R : PF} {Q : PV → PF → PF → Prop} (c1 : -2147483648 ≤ o0 ∧ o0 < 2147483648) (h1 : o0 ≠ 0 → PN X d mX10_noons 20 [(2, 64), (0, x1)] [] I R Q) (h2 : o0 = 0 → PN X d mX10_noons 8 [(2, 64)] [] I R Q) : PN X d mX10_noons 5 [(2, 64), (0, x1)] [(0, o0)] I R Q := by
  refine B_if_ne (off := 15) (t := 20) (q := 8) c1 (by decide) rfl (by decide +kernel) ?_ ?_
  · exact fun g9 => (h1 g9)
  · exact fun g9 => (PW_sub (ls' := [(2, 64)]) ⟨Or.inr rfl, trivial⟩ (h2 g9))
theorem S_X10_noons_8 {X : CX} {d : Nat} {I R : PF} {Q : PV → PF → PF → Prop} (hs : Shp R) (h : Q (0, (-1)) (u2 I 66 3 ((I 66 3) + 1)) R) : PN X d mX10_noons 8 [(2, 64)] [] I R Q := by
  refine P_aload_n (n := 0) (q := 9) rfl rfl (by decide +kernel) ?_
  refine B_getfR (q := 12) fX10_17 kM64 (rM64_2 hs) rfl (by decide +kernel) ?_
  refine P_iconst (n := 3) (q := 13) rfl (by decide +kernel) ?_
  refine P_dup2 (q := 14) (Nat.ne_of_beq_eq_false rfl) (Nat.ne_of_beq_eq_false rfl) rfl (by decide +kernel) ?_
  refine B_iaload (q := 15) kM66 nM66 (by decide) ⟨by decide, by decide⟩ rfl (by decide +kernel) ?_
  refine P_iconst (n := 1) (q := 16) rfl (by decide +kernel) ?_
  refine P_iadd (q := 17) rfl (by decide +kernel) ?_
  refine B_iastore (q := 18) kM66 nM66 (by decide) ⟨by decide, by decide⟩ rfl (by decide +kernel) ?_
  refine P_iconst (n := (-1)) (q := 19) rfl (by decide +kernel) ?_
  refine P_iret rfl (by decide +kernel) h
theorem S_X10_noons_20 {X : CX} {d d1 : Nat} {x1 : Int} {I R : PF} {Q Q1 : PV → PF → PF → Prop} (e1 : d1 + 1 ≤ d) (hc : CN X d1 mX10_turn [(2, 64), (0, x1), (2, 0)] I R Q1) (h : ∀ z I2 R2, Q1 (0, z) I2 R2 → PN X d mX10_noons 26 [] [(0, z)] I2 R2 Q) : PN X d mX10_noons 20 [(2, 64), (0, x1)] [] I R Q := by
  refine P_aload_n (n := 0) (q := 21) rfl rfl (by decide +kernel) ?_
  refine P_iload_n (n := 1) (q := 22) rfl rfl (by decide +kernel) ?_
  refine P_anull (q := 23) rfl (by decide +kernel) ?_
  refine P_invV (As := [(0, x1), (2, 0)]) (q := 26) oX10_turn rfl kM64 kX10_323 e1 hMF (Nat.le_of_ble_eq_true rfl) hc rfl (by decide +kernel) (fun z I2 R2 hq => ?_)
  exact (PW_sub (ls' := []) trivial (h z I2 R2 hq))
theorem S_X10_noons_26 {X : CX} {d : Nat} {o0 : Int} {I R : PF} {Q : PV → PF → PF → Prop} (h : Q (0, o0) I R) : PN X d mX10_noons 26 [] [(0, o0)] I R Q := by
  refine P_iret rfl (by decide +kernel) h
theorem S_X10_octet_0 {X : CX} {d : Nat} {x1 : Int} {I R : PF} {Q : PV → PF → PF → Prop} (c1 : -2147483648 ≤ x1 ∧ x1 < 2147483648) (h1 : x1 < 0 → PN X d mX10_octet 12 [] [] I R Q) (h2 : 0 ≤ x1 → PN X d mX10_octet 4 [(2, 64), (0, x1)] [] I R Q) : PN X d mX10_octet 0 [(2, 64), (0, x1)] [] I R Q := by
  refine P_iload_n (n := 1) (q := 1) rfl rfl (by decide +kernel) ?_
  refine B_if_lt (off := 11) (t := 12) (q := 4) c1 (by decide) rfl (by decide +kernel) ?_ ?_
  · exact fun g9 => (PW_sub (ls' := []) trivial (h1 g9))
  · exact fun g9 => (h2 g9)
theorem S_X10_octet_4 {X : CX} {d : Nat} {x1 : Int} {I R : PF} {Q : PV → PF → PF → Prop} (c1 : -2147483648 ≤ x1 ∧ x1 < 2147483648) (c2 : -2147483648 ≤ (I 64 19) ∧ (I 64 19) < 2147483648) (h1 : x1 < (I 64 19) → PN X d mX10_octet 16 [(2, 64), (0, x1)] [] I R Q) (h2 : (I 64 19) ≤ x1 → PN X d mX10_octet 12 [] [] I R Q) : PN X d mX10_octet 4 [(2, 64), (0, x1)] [] I R Q := by
  refine P_iload_n (n := 1) (q := 5) rfl rfl (by decide +kernel) ?_
  refine P_aload_n (n := 0) (q := 6) rfl rfl (by decide +kernel) ?_
  refine P_getf (q := 9) fX10_112 kM64 rfl (by decide +kernel) ?_
  refine B_icmp_lt (off := 7) (t := 16) (q := 12) c1 c2 (by decide) rfl (by decide +kernel) ?_ ?_
  · exact fun g9 => (h1 g9)
  · exact fun g9 => (PW_sub (ls' := []) trivial (h2 g9))
theorem S_X10_octet_12 {X : CX} {d : Nat} {I R : PF} {Q : PV → PF → PF → Prop} (h : PN X d mX10_octet 22 [] [(0, (-1))] I R Q) : PN X d mX10_octet 12 [] [] I R Q := by
  refine P_iconst (n := (-1)) (q := 13) rfl (by decide +kernel) ?_
  refine P_goto (off := 9) (t := 22) (by decide) (by decide +kernel) ?_
  exact (PW_sub (ls' := []) trivial h)
theorem S_X10_octet_16 {X : CX} {d : Nat} {x1 : Int} {I R : PF} {Q : PV → PF → PF → Prop} (hs : Shp R) (b1 : (0 : Int) ≤ x1 ∧ x1 < 41) (h : PN X d mX10_octet 22 [] [(0, (I 305 x1))] I R Q) : PN X d mX10_octet 16 [(2, 64), (0, x1)] [] I R Q := by
  refine P_aload_n (n := 0) (q := 17) rfl rfl (by decide +kernel) ?_
  refine B_getfR (q := 20) fX10_109 kM64 (rM64_18 hs) rfl (by decide +kernel) ?_
  refine P_iload_n (n := 1) (q := 21) rfl rfl (by decide +kernel) ?_
  refine B_iaload (q := 22) kM305 nM305 (by decide) b1 rfl (by decide +kernel) ?_
  exact (PW_sub (ls' := []) trivial h)
theorem S_X10_octet_22 {X : CX} {d : Nat} {o0 : Int} {I R : PF} {Q : PV → PF → PF → Prop} (h : Q (0, o0) I R) : PN X d mX10_octet 22 [] [(0, o0)] I R Q := by
  refine P_iret rfl (by decide +kernel) h
theorem S_X10_offNow_0 {X : CX} {d d1 : Nat} {x1 : Int} {I R : PF} {Q Q1 : PV → PF → PF → Prop} (hs : Shp R) (e1 : d1 + 1 ≤ d) (hc : CN X d1 mX8_wayNow [(2, 111)] I R Q1) (h : ∀ z I2 R2, Q1 (0, z) I2 R2 → PN X d mX10_offNow 7 [(2, 64), (0, x1)] [(0, z)] I2 R2 Q) : PN X d mX10_offNow 0 [(2, 64), (0, x1)] [] I R Q := by
  refine P_aload_n (n := 0) (q := 1) rfl rfl (by decide +kernel) ?_
  refine B_getfR (q := 4) fX10_73 kM64 (rM64_11 hs) rfl (by decide +kernel) ?_
  refine P_invV (As := []) (q := 7) oX8_wayNow rfl kM111 kX10_270 e1 hMF (Nat.le_of_ble_eq_true rfl) hc rfl (by decide +kernel) (fun z I2 R2 hq => ?_)
  exact (h z I2 R2 hq)
theorem S_X10_offNow_7 {X : CX} {d d1 : Nat} {x1 o0 : Int} {I R : PF} {Q Q1 : PV → PF → PF → Prop} (e1 : d1 + 1 ≤ d) (hc : CN X d1 mX10_wayOf [(0, x1)] I R Q1) (h : ∀ z I2 R2, Q1 (0, z) I2 R2 → PN X d mX10_offNow 13 [(2, 64), (0, x1), (0, o0)] [(0, z), (0, o0)] I2 R2 Q) : PN X d mX10_offNow 7 [(2, 64), (0, x1)] [(0, o0)] I R Q := by
  refine P_istore_n (n := 2) (by decide) (q := 8) rfl (by decide +kernel) ?_
  refine P_iload_n (n := 2) (q := 9) rfl rfl (by decide +kernel) ?_
  refine P_iload_n (n := 1) (q := 10) rfl rfl (by decide +kernel) ?_
  refine P_invS (As := [(0, x1)]) (q := 13) oX10_wayOf rfl (Or.inl kX10_264) e1 hMF (Nat.le_of_ble_eq_true rfl) hc rfl (by decide +kernel) (fun z I2 R2 hq => ?_)
  exact (h z I2 R2 hq)
theorem S_X10_offNow_13 {X : CX} {d d1 : Nat} {x1 x2 o0 o1 : Int} {I R : PF} {Q Q1 : PV → PF → PF → Prop} (e1 : d1 + 1 ≤ d) (hc : CN X d1 mJ9_abs_0f7a4 [(0, (o0 - o1))] I R Q1) (h : ∀ z I2 R2, Q1 (0, z) I2 R2 → PN X d mX10_offNow 17 [(2, 64), (0, x1), (0, x2)] [(0, z)] I2 R2 Q) : PN X d mX10_offNow 13 [(2, 64), (0, x1), (0, x2)] [(0, o1), (0, o0)] I R Q := by
  refine P_isub (q := 14) rfl (by decide +kernel) ?_
  refine P_invS (As := [(0, (o0 - o1))]) (q := 17) oJ9_abs_0f7a4 rfl (Or.inl kX10_273) e1 hMF (Nat.le_of_ble_eq_true rfl) hc rfl (by decide +kernel) (fun z I2 R2 hq => ?_)
  exact (h z I2 R2 hq)
theorem S_X10_offNow_17 {X : CX} {d : Nat} {x1 x2 o0 : Int} {I R : PF} {Q : PV → PF → PF → Prop} (c1 : -2147483648 ≤ x2 ∧ x2 < 2147483648) (h1 : x2 = 0 → PN X d mX10_offNow 26 [(2, 64), (0, x1), (9, 0), (0, o0)] [] I R Q) (h2 : x2 ≠ 0 → PN X d mX10_offNow 22 [(2, 64), (0, x1), (9, 0), (0, o0)] [] I R Q) : PN X d mX10_offNow 17 [(2, 64), (0, x1), (0, x2)] [(0, o0)] I R Q := by
  refine P_istore_n (n := 3) (by decide) (q := 18) rfl (by decide +kernel) ?_
  refine P_iload_n (n := 2) (q := 19) rfl rfl (by decide +kernel) ?_
  refine B_if_eq (off := 7) (t := 26) (q := 22) c1 (by decide) rfl (by decide +kernel) ?_ ?_
  · exact fun g9 => (PW_sub (ls' := [(2, 64), (0, x1), (9, 0), (0, o0)]) ⟨Or.inr rfl, Or.inr rfl, Or.inl rfl, Or.inr rfl, trivial⟩ (h1 g9))
  · exact fun g9 => (PW_sub (ls' := [(2, 64), (0, x1), (9, 0), (0, o0)]) ⟨Or.inr rfl, Or.inr rfl, Or.inl rfl, Or.inr rfl, trivial⟩ (h2 g9))
theorem S_X10_offNow_22 {X : CX} {d : Nat} {x1 x3 : Int} {I R : PF} {Q : PV → PF → PF → Prop} (c1 : -2147483648 ≤ x1 ∧ x1 < 2147483648) (h1 : x1 ≠ 0 → PN X d mX10_offNow 32 [(2, 64), (0, x1), (9, 0), (0, x3)] [] I R Q) (h2 : x1 = 0 → PN X d mX10_offNow 26 [(2, 64), (0, x1), (9, 0), (0, x3)] [] I R Q) : PN X d mX10_offNow 22 [(2, 64), (0, x1), (9, 0), (0, x3)] [] I R Q := by
  refine P_iload_n (n := 1) (q := 23) rfl rfl (by decide +kernel) ?_
  refine B_if_ne (off := 9) (t := 32) (q := 26) c1 (by decide) rfl (by decide +kernel) ?_ ?_
  · exact fun g9 => (h1 g9)
  · exact fun g9 => (h2 g9)
theorem S_X10_offNow_26 {X : CX} {d d1 : Nat} {x1 x3 : Int} {I R : PF} {Q Q1 : PV → PF → PF → Prop} (e1 : d1 + 1 ≤ d) (hc : CN X d1 mJ9_min_7cf53 [(0, x3), (0, 1)] I R Q1) (h : ∀ z I2 R2, Q1 (0, z) I2 R2 → PN X d mX10_offNow 31 [(2, 64), (0, x1)] [(0, z)] I2 R2 Q) : PN X d mX10_offNow 26 [(2, 64), (0, x1), (9, 0), (0, x3)] [] I R Q := by
  refine P_iload_n (n := 3) (q := 27) rfl rfl (by decide +kernel) ?_
  refine P_iconst (n := 1) (q := 28) rfl (by decide +kernel) ?_
  refine P_invS (As := [(0, x3), (0, 1)]) (q := 31) oJ9_min_7cf53 rfl (Or.inl kX10_278) e1 hMF (Nat.le_of_ble_eq_true rfl) hc rfl (by decide +kernel) (fun z I2 R2 hq => ?_)
  exact (PW_sub (ls' := [(2, 64), (0, x1)]) ⟨Or.inr rfl, Or.inr rfl, trivial⟩ (h z I2 R2 hq))
theorem S_X10_offNow_31 {X : CX} {d : Nat} {x1 o0 : Int} {I R : PF} {Q : PV → PF → PF → Prop} (h : PN X d mX10_offNow 32 [(2, 64), (0, x1), (9, 0), (0, o0)] [] I R Q) : PN X d mX10_offNow 31 [(2, 64), (0, x1)] [(0, o0)] I R Q := by
  refine P_istore_n (n := 3) (by decide) (q := 32) rfl (by decide +kernel) ?_
  exact h
theorem S_X10_offNow_32 {X : CX} {d d1 : Nat} {x1 x3 : Int} {I R : PF} {Q Q1 : PV → PF → PF → Prop} (e1 : d1 + 1 ≤ d) (hc : CN X d1 mJ9_min_7cf53 [(0, x3), (0, (8 - x3))] I R Q1) (h : ∀ z I2 R2, Q1 (0, z) I2 R2 → PN X d mX10_offNow 40 [(2, 64), (0, x1)] [(0, z)] I2 R2 Q) : PN X d mX10_offNow 32 [(2, 64), (0, x1), (9, 0), (0, x3)] [] I R Q := by
  refine P_iload_n (n := 3) (q := 33) rfl rfl (by decide +kernel) ?_
  refine P_bipush (n := 8) (q := 35) rfl rfl (by decide +kernel) ?_
  refine P_iload_n (n := 3) (q := 36) rfl rfl (by decide +kernel) ?_
  refine P_isub (q := 37) rfl (by decide +kernel) ?_
  refine P_invS (As := [(0, x3), (0, (8 - x3))]) (q := 40) oJ9_min_7cf53 rfl (Or.inl kX10_278) e1 hMF (Nat.le_of_ble_eq_true rfl) hc rfl (by decide +kernel) (fun z I2 R2 hq => ?_)
  exact (PW_sub (ls' := [(2, 64), (0, x1)]) ⟨Or.inr rfl, Or.inr rfl, trivial⟩ (h z I2 R2 hq))
theorem S_X10_offNow_40 {X : CX} {d d1 : Nat} {x1 o0 : Int} {I R : PF} {Q Q1 : PV → PF → PF → Prop} (hs : Shp R) (e1 : d1 + 1 ≤ d) (hc : CN X d1 mX8_forceNow [(2, 111)] I R Q1) (h : ∀ z I2 R2, Q1 (0, z) I2 R2 → PN X d mX10_offNow 47 [(9, 0), (0, x1)] [(0, z), (0, o0)] I2 R2 Q) : PN X d mX10_offNow 40 [(2, 64), (0, x1)] [(0, o0)] I R Q := by
  refine P_aload_n (n := 0) (q := 41) rfl rfl (by decide +kernel) ?_
  refine B_getfR (q := 44) fX10_73 kM64 (rM64_11 hs) rfl (by decide +kernel) ?_
  refine P_invV (As := []) (q := 47) oX8_forceNow rfl kM111 kX10_281 e1 hMF (Nat.le_of_ble_eq_true rfl) hc rfl (by decide +kernel) (fun z I2 R2 hq => ?_)
  exact (PW_sub (ls' := [(9, 0), (0, x1)]) ⟨Or.inl rfl, Or.inr rfl, trivial⟩ (h z I2 R2 hq))
theorem S_X10_offNow_47 {X : CX} {d d1 : Nat} {x1 o0 o1 : Int} {I R : PF} {Q Q1 : PV → PF → PF → Prop} (e1 : d1 + 1 ≤ d) (hc : CN X d1 mX10_forceOf [(0, x1)] I R Q1) (h : ∀ z I2 R2, Q1 (0, z) I2 R2 → PN X d mX10_offNow 51 [] [(0, z), (0, o1), (0, o0)] I2 R2 Q) : PN X d mX10_offNow 47 [(9, 0), (0, x1)] [(0, o1), (0, o0)] I R Q := by
  refine P_iload_n (n := 1) (q := 48) rfl rfl (by decide +kernel) ?_
  refine P_invS (As := [(0, x1)]) (q := 51) oX10_forceOf rfl (Or.inl kX10_267) e1 hMF (Nat.le_of_ble_eq_true rfl) hc rfl (by decide +kernel) (fun z I2 R2 hq => ?_)
  exact (PW_sub (ls' := []) trivial (h z I2 R2 hq))
theorem S_X10_offNow_51 {X : CX} {d d1 : Nat} {o0 o1 o2 : Int} {I R : PF} {Q Q1 : PV → PF → PF → Prop} (e1 : d1 + 1 ≤ d) (hc : CN X d1 mJ9_abs_0f7a4 [(0, (o1 - o2))] I R Q1) (h : ∀ z I2 R2, Q1 (0, z) I2 R2 → PN X d mX10_offNow 55 [] [(0, z), (0, o0)] I2 R2 Q) : PN X d mX10_offNow 51 [] [(0, o2), (0, o1), (0, o0)] I R Q := by
  refine P_isub (q := 52) rfl (by decide +kernel) ?_
  refine P_invS (As := [(0, (o1 - o2))]) (q := 55) oJ9_abs_0f7a4 rfl (Or.inl kX10_273) e1 hMF (Nat.le_of_ble_eq_true rfl) hc rfl (by decide +kernel) (fun z I2 R2 hq => ?_)
  exact (PW_sub (ls' := []) trivial (h z I2 R2 hq))
theorem S_X10_offNow_55 {X : CX} {d : Nat} {o0 o1 : Int} {I R : PF} {Q : PV → PF → PF → Prop} (h : Q (0, (o0 + o1)) I R) : PN X d mX10_offNow 55 [] [(0, o1), (0, o0)] I R Q := by
  refine P_iadd (q := 56) rfl (by decide +kernel) ?_
  refine P_iret rfl (by decide +kernel) h
theorem S_X10_on_0 {X : CX} {d d1 : Nat} {I R : PF} {Q Q1 : PV → PF → PF → Prop} (e1 : d1 + 1 ≤ d) (hc : CN X d1 mX10_takeTape [(2, 64)] I R Q1) (h : ∀ z I2 R2, Q1 (0, z) I2 R2 → PN X d mX10_on 4 [(2, 64)] [(0, z)] I2 R2 Q) : PN X d mX10_on 0 [(2, 64)] [] I R Q := by
  refine P_aload_n (n := 0) (q := 1) rfl rfl (by decide +kernel) ?_
  refine P_invV (As := []) (q := 4) oX10_takeTape rfl kM64 kX10_119 e1 hMF (Nat.le_of_ble_eq_true rfl) hc rfl (by decide +kernel) (fun z I2 R2 hq => ?_)
  exact (h z I2 R2 hq)
theorem S_X10_on_4 {X : CX} {d d1 : Nat} {o0 : Int} {I R : PF} {Q Q1 : PV → PF → PF → Prop} (e1 : d1 + 1 ≤ d) (hc : CN X d1 mX10_isTold [(2, 64)] I R Q1) (h : ∀ z I2 R2, Q1 (0, z) I2 R2 → PN X d mX10_on 9 [(2, 64), (0, o0)] [(0, z)] I2 R2 Q) : PN X d mX10_on 4 [(2, 64)] [(0, o0)] I R Q := by
  refine P_istore_n (n := 1) (by decide) (q := 5) rfl (by decide +kernel) ?_
  refine P_aload_n (n := 0) (q := 6) rfl rfl (by decide +kernel) ?_
  refine P_invV (As := []) (q := 9) oX10_isTold rfl kM64 kX10_208 e1 hMF (Nat.le_of_ble_eq_true rfl) hc rfl (by decide +kernel) (fun z I2 R2 hq => ?_)
  exact (h z I2 R2 hq)
theorem S_X10_on_9 {X : CX} {d : Nat} {x1 o0 : Int} {I R : PF} {Q : PV → PF → PF → Prop} (c1 : -2147483648 ≤ o0 ∧ o0 < 2147483648) (h1 : o0 = 0 → PN X d mX10_on 20 [(2, 64)] [] I R Q) (h2 : o0 ≠ 0 → PN X d mX10_on 12 [(2, 64), (0, x1)] [] I R Q) : PN X d mX10_on 9 [(2, 64), (0, x1)] [(0, o0)] I R Q := by
  refine B_if_eq (off := 11) (t := 20) (q := 12) c1 (by decide) rfl (by decide +kernel) ?_ ?_
  · exact fun g9 => (PW_sub (ls' := [(2, 64)]) ⟨Or.inr rfl, trivial⟩ (h1 g9))
  · exact fun g9 => (h2 g9)
theorem S_X10_on_12 {X : CX} {d d1 : Nat} {x1 : Int} {I R : PF} {Q Q1 : PV → PF → PF → Prop} (e1 : d1 + 1 ≤ d) (hc : CN X d1 mX10_readImage [(2, 64), (0, x1)] I R Q1) (h : ∀ z I2 R2, Q1 (0, z) I2 R2 → PN X d mX10_on 17 [(2, 64)] [(0, z)] I2 R2 Q) : PN X d mX10_on 12 [(2, 64), (0, x1)] [] I R Q := by
  refine P_aload_n (n := 0) (q := 13) rfl rfl (by decide +kernel) ?_
  refine P_iload_n (n := 1) (q := 14) rfl rfl (by decide +kernel) ?_
  refine P_invV (As := [(0, x1)]) (q := 17) oX10_readImage rfl kM64 kX10_387 e1 hMF (Nat.le_of_ble_eq_true rfl) hc rfl (by decide +kernel) (fun z I2 R2 hq => ?_)
  exact (PW_sub (ls' := [(2, 64)]) ⟨Or.inr rfl, trivial⟩ (h z I2 R2 hq))
theorem S_X10_on_17 {X : CX} {d : Nat} {o0 : Int} {I R : PF} {Q : PV → PF → PF → Prop} (c1 : -2147483648 ≤ o0 ∧ o0 < 2147483648) (h1 : o0 ≠ 0 → PN X d mX10_on 32 [(2, 64)] [] I R Q) (h2 : o0 = 0 → PN X d mX10_on 20 [(2, 64)] [] I R Q) : PN X d mX10_on 17 [(2, 64)] [(0, o0)] I R Q := by
  refine B_if_ne (off := 15) (t := 32) (q := 20) c1 (by decide) rfl (by decide +kernel) ?_ ?_
  · exact fun g9 => (PW_sub (ls' := [(2, 64)]) ⟨Or.inr rfl, trivial⟩ (h1 g9))
  · exact fun g9 => (PW_sub (ls' := [(2, 64)]) ⟨Or.inr rfl, trivial⟩ (h2 g9))
theorem S_X10_on_20 {X : CX} {d : Nat} {I R : PF} {Q : PV → PF → PF → Prop} (hs : Shp R) (h : Q (0, 0) (u2 I 66 5 ((I 66 5) + 1)) R) : PN X d mX10_on 20 [(2, 64)] [] I R Q := by
  refine P_aload_n (n := 0) (q := 21) rfl rfl (by decide +kernel) ?_
  refine B_getfR (q := 24) fX10_17 kM64 (rM64_2 hs) rfl (by decide +kernel) ?_
  refine P_iconst (n := 5) (q := 25) rfl (by decide +kernel) ?_
  refine P_dup2 (q := 26) (Nat.ne_of_beq_eq_false rfl) (Nat.ne_of_beq_eq_false rfl) rfl (by decide +kernel) ?_
  refine B_iaload (q := 27) kM66 nM66 (by decide) ⟨by decide, by decide⟩ rfl (by decide +kernel) ?_
  refine P_iconst (n := 1) (q := 28) rfl (by decide +kernel) ?_
  refine P_iadd (q := 29) rfl (by decide +kernel) ?_
  refine B_iastore (q := 30) kM66 nM66 (by decide) ⟨by decide, by decide⟩ rfl (by decide +kernel) ?_
  refine P_iconst (n := 0) (q := 31) rfl (by decide +kernel) ?_
  refine P_zret rfl (Or.inl rfl) (by decide +kernel) h
theorem S_X10_on_32 {X : CX} {d d1 : Nat} {I R : PF} {Q Q1 : PV → PF → PF → Prop} (hs : Shp R) (e1 : d1 + 1 ≤ d) (hc : CN X d1 mX8_copyFrom [(2, 111), (2, 119)] I R Q1) (h : ∀ z I2 R2, Q1 (9, z) I2 R2 → PN X d mX10_on 43 [(2, 64)] [] I2 R2 Q) : PN X d mX10_on 32 [(2, 64)] [] I R Q := by
  refine P_aload_n (n := 0) (q := 33) rfl rfl (by decide +kernel) ?_
  refine B_getfR (q := 36) fX10_73 kM64 (rM64_11 hs) rfl (by decide +kernel) ?_
  refine P_aload_n (n := 0) (q := 37) rfl rfl (by decide +kernel) ?_
  refine B_getfR (q := 40) fX10_77 kM64 (rM64_12 hs) rfl (by decide +kernel) ?_
  refine P_invV (As := [(2, 119)]) (q := 43) oX8_copyFrom rfl kM111 kX10_133 e1 hMF (Nat.le_of_ble_eq_true rfl) hc rfl (by decide +kernel) (fun z I2 R2 hq => ?_)
  exact (PW_sub (ls' := [(2, 64)]) ⟨Or.inr rfl, trivial⟩ (h z I2 R2 hq))
theorem S_X10_on_43 {X : CX} {d d1 : Nat} {I R : PF} {Q Q1 : PV → PF → PF → Prop} (hs : Shp R) (e1 : d1 + 1 ≤ d) (hc : CN X d1 mX4_forget [(2, 136)] I R Q1) (h : ∀ z I2 R2, Q1 (9, z) I2 R2 → PN X d mX10_on 50 [] [] I2 R2 Q) : PN X d mX10_on 43 [(2, 64)] [] I R Q := by
  refine P_aload_n (n := 0) (q := 44) rfl rfl (by decide +kernel) ?_
  refine B_getfR (q := 47) fX10_92 kM64 (rM64_14 hs) rfl (by decide +kernel) ?_
  refine P_invV (As := []) (q := 50) oX4_forget rfl kM136 kX10_137 e1 hMF (Nat.le_of_ble_eq_true rfl) hc rfl (by decide +kernel) (fun z I2 R2 hq => ?_)
  exact (PW_sub (ls' := []) trivial (h z I2 R2 hq))
theorem S_X10_on_50 {X : CX} {d : Nat} {I R : PF} {Q : PV → PF → PF → Prop} (h : Q (0, 1) I R) : PN X d mX10_on 50 [] [] I R Q := by
  refine P_iconst (n := 1) (q := 51) rfl (by decide +kernel) ?_
  refine P_zret rfl (Or.inr rfl) (by decide +kernel) h
theorem S_X10_person_0 {X : CX} {d d1 : Nat} {x1 x2 : Int} {I R : PF} {Q Q1 : PV → PF → PF → Prop} (hs : Shp R) (e1 : d1 + 1 ≤ d) (hc : CN X d1 mX8_knows [(2, 111), (0, x1)] I R Q1) (h : ∀ z I2 R2, Q1 (0, z) I2 R2 → PN X d mX10_person 8 [(2, 64), (0, x1), (0, x2)] [(0, z)] I2 R2 Q) : PN X d mX10_person 0 [(2, 64), (0, x1), (0, x2)] [] I R Q := by
  refine P_aload_n (n := 0) (q := 1) rfl rfl (by decide +kernel) ?_
  refine B_getfR (q := 4) fX10_73 kM64 (rM64_11 hs) rfl (by decide +kernel) ?_
  refine P_iload_n (n := 1) (q := 5) rfl rfl (by decide +kernel) ?_
  refine P_invV (As := [(0, x1)]) (q := 8) oX8_knows rfl kM111 kX10_187 e1 hMF (Nat.le_of_ble_eq_true rfl) hc rfl (by decide +kernel) (fun z I2 R2 hq => ?_)
  exact (h z I2 R2 hq)
theorem S_X10_person_8 {X : CX} {d : Nat} {x1 x2 o0 : Int} {I R : PF} {Q : PV → PF → PF → Prop} (c1 : -2147483648 ≤ o0 ∧ o0 < 2147483648) (h1 : o0 = 0 → PN X d mX10_person 21 [] [] I R Q) (h2 : o0 ≠ 0 → PN X d mX10_person 11 [(2, 64), (0, x1), (0, x2)] [] I R Q) : PN X d mX10_person 8 [(2, 64), (0, x1), (0, x2)] [(0, o0)] I R Q := by
  refine B_if_eq (off := 13) (t := 21) (q := 11) c1 (by decide) rfl (by decide +kernel) ?_ ?_
  · exact fun g9 => (PW_sub (ls' := []) trivial (h1 g9))
  · exact fun g9 => (h2 g9)
theorem S_X10_person_11 {X : CX} {d : Nat} {x1 x2 : Int} {I R : PF} {Q : PV → PF → PF → Prop} (c1 : -2147483648 ≤ x2 ∧ x2 < 2147483648) (h1 : x2 < 0 → PN X d mX10_person 21 [] [] I R Q) (h2 : 0 ≤ x2 → PN X d mX10_person 15 [(2, 64), (0, x1), (0, x2)] [] I R Q) : PN X d mX10_person 11 [(2, 64), (0, x1), (0, x2)] [] I R Q := by
  refine P_iload_n (n := 2) (q := 12) rfl rfl (by decide +kernel) ?_
  refine B_if_lt (off := 9) (t := 21) (q := 15) c1 (by decide) rfl (by decide +kernel) ?_ ?_
  · exact fun g9 => (PW_sub (ls' := []) trivial (h1 g9))
  · exact fun g9 => (h2 g9)
theorem S_X10_person_15 {X : CX} {d : Nat} {x1 x2 : Int} {I R : PF} {Q : PV → PF → PF → Prop} (c1 : -2147483648 ≤ x2 ∧ x2 < 2147483648) (h1 : x2 < 8 → PN X d mX10_person 23 [(2, 64), (0, x1), (0, x2)] [] I R Q) (h2 : 8 ≤ x2 → PN X d mX10_person 21 [] [] I R Q) : PN X d mX10_person 15 [(2, 64), (0, x1), (0, x2)] [] I R Q := by
  refine P_iload_n (n := 2) (q := 16) rfl rfl (by decide +kernel) ?_
  refine P_bipush (n := 8) (q := 18) rfl rfl (by decide +kernel) ?_
  refine B_icmp_lt (off := 5) (t := 23) (q := 21) c1 ⟨by decide, by decide⟩ (by decide) rfl (by decide +kernel) ?_ ?_
  · exact fun g9 => (h1 g9)
  · exact fun g9 => (PW_sub (ls' := []) trivial (h2 g9))
theorem S_X10_person_21 {X : CX} {d : Nat} {I R : PF} {Q : PV → PF → PF → Prop} (h : Q (0, (-1)) I R) : PN X d mX10_person 21 [] [] I R Q := by
  refine P_iconst (n := (-1)) (q := 22) rfl (by decide +kernel) ?_
  refine P_iret rfl (by decide +kernel) h
theorem S_X10_person_23 {X : CX} {d : Nat} {x1 x2 : Int} {I R : PF} {Q : PV → PF → PF → Prop} (hs : Shp R) (b1 : (0 : Int) ≤ x1 ∧ x1 < 6) (b2 : (0 : Int) ≤ x2 ∧ x2 < 8) (h : Q (0, (I (111 + 2 + x1) x2)) I R) : PN X d mX10_person 23 [(2, 64), (0, x1), (0, x2)] [] I R Q := by
  refine P_aload_n (n := 0) (q := 24) rfl rfl (by decide +kernel) ?_
  refine B_getfR (q := 27) fX10_73 kM64 (rM64_11 hs) rfl (by decide +kernel) ?_
  refine B_getfR (q := 30) fX10_191 kM111 (show R 111 4 = 112 from sh8_4 hs kM111) rfl (by decide +kernel) ?_
  refine P_iload_n (n := 1) (q := 31) rfl rfl (by decide +kernel) ?_
  refine B_aaloadI (q := 32) kM112 nM112 (by decide) b1 (sh8_r hs kM111 b1.1 b1.2) rfl (by decide +kernel) ?_
  refine P_iload_n (n := 2) (q := 33) rfl rfl (by decide +kernel) ?_
  refine B_iaload (q := 34) (stR kM111 b1.1 b1.2).1 (stR kM111 b1.1 b1.2).2 (by decide) b2 rfl (by decide +kernel) ?_
  refine P_iret rfl (by decide +kernel) h
theorem S_X10_place_0 {X : CX} {d d1 : Nat} {x1 x2 t1 : Int} {I R : PF} {Q Q1 : PV → PF → PF → Prop} (r1 : R 64 8 = t1) (e1 : d1 + 1 ≤ d) (hc : CN X d1 mX6_within [(2, t1), (0, x1), (0, x2)] I R Q1) (k1 : kd MF t1 = 6) (h : ∀ z I2 R2, Q1 (0, z) I2 R2 → PN X d mX10_place 9 [(2, 64), (0, x1), (0, x2)] [(0, z)] I2 R2 Q) : PN X d mX10_place 0 [(2, 64), (0, x1), (0, x2)] [] I R Q := by
  refine P_aload_n (n := 0) (q := 1) rfl rfl (by decide +kernel) ?_
  refine B_getfR (q := 4) fX10_54 kM64 r1 rfl (by decide +kernel) ?_
  refine P_iload_n (n := 1) (q := 5) rfl rfl (by decide +kernel) ?_
  refine P_iload_n (n := 2) (q := 6) rfl rfl (by decide +kernel) ?_
  refine P_invV (As := [(0, x1), (0, x2)]) (q := 9) oX6_within rfl k1 kX10_195 e1 hMF (Nat.le_of_ble_eq_true rfl) hc rfl (by decide +kernel) (fun z I2 R2 hq => ?_)
  exact (h z I2 R2 hq)
theorem S_X10_place_9 {X : CX} {d : Nat} {x1 x2 o0 : Int} {I R : PF} {Q : PV → PF → PF → Prop} (c1 : -2147483648 ≤ o0 ∧ o0 < 2147483648) (h1 : o0 ≠ 0 → PN X d mX10_place 14 [(2, 64), (0, x1), (0, x2)] [] I R Q) (h2 : o0 = 0 → PN X d mX10_place 12 [] [] I R Q) : PN X d mX10_place 9 [(2, 64), (0, x1), (0, x2)] [(0, o0)] I R Q := by
  refine B_if_ne (off := 5) (t := 14) (q := 12) c1 (by decide) rfl (by decide +kernel) ?_ ?_
  · exact fun g9 => (h1 g9)
  · exact fun g9 => (PW_sub (ls' := []) trivial (h2 g9))
theorem S_X10_place_12 {X : CX} {d : Nat} {I R : PF} {Q : PV → PF → PF → Prop} (h : Q (0, (-1)) I R) : PN X d mX10_place 12 [] [] I R Q := by
  refine P_iconst (n := (-1)) (q := 13) rfl (by decide +kernel) ?_
  refine P_iret rfl (by decide +kernel) h
theorem S_X10_place_14 {X : CX} {d d1 : Nat} {x1 x2 t1 : Int} {I R : PF} {Q Q1 : PV → PF → PF → Prop} (r1 : R 64 8 = t1) (e1 : d1 + 1 ≤ d) (hc : CN X d1 mX6_walled [(2, t1), (0, x1), (0, x2)] I R Q1) (k1 : kd MF t1 = 6) (h : ∀ z I2 R2, Q1 (0, z) I2 R2 → PN X d mX10_place 23 [(2, 64), (0, x1), (0, x2)] [(0, z)] I2 R2 Q) : PN X d mX10_place 14 [(2, 64), (0, x1), (0, x2)] [] I R Q := by
  refine P_aload_n (n := 0) (q := 15) rfl rfl (by decide +kernel) ?_
  refine B_getfR (q := 18) fX10_54 kM64 r1 rfl (by decide +kernel) ?_
  refine P_iload_n (n := 1) (q := 19) rfl rfl (by decide +kernel) ?_
  refine P_iload_n (n := 2) (q := 20) rfl rfl (by decide +kernel) ?_
  refine P_invV (As := [(0, x1), (0, x2)]) (q := 23) oX6_walled rfl k1 kX10_199 e1 hMF (Nat.le_of_ble_eq_true rfl) hc rfl (by decide +kernel) (fun z I2 R2 hq => ?_)
  exact (h z I2 R2 hq)
theorem S_X10_place_23 {X : CX} {d : Nat} {x1 x2 o0 : Int} {I R : PF} {Q : PV → PF → PF → Prop} (c1 : -2147483648 ≤ o0 ∧ o0 < 2147483648) (h1 : o0 = 0 → PN X d mX10_place 31 [(2, 64), (0, x1), (0, x2)] [] I R Q) (h2 : o0 ≠ 0 → PN X d mX10_place 26 [] [] I R Q) : PN X d mX10_place 23 [(2, 64), (0, x1), (0, x2)] [(0, o0)] I R Q := by
  refine B_if_eq (off := 8) (t := 31) (q := 26) c1 (by decide) rfl (by decide +kernel) ?_ ?_
  · exact fun g9 => (h1 g9)
  · exact fun g9 => (PW_sub (ls' := []) trivial (h2 g9))
theorem S_X10_place_26 {X : CX} {d : Nat} {I R : PF} {Q : PV → PF → PF → Prop} (h : PN X d mX10_place 40 [] [(0, 100)] I R Q) : PN X d mX10_place 26 [] [] I R Q := by
  refine P_bipush (n := 100) (q := 28) rfl rfl (by decide +kernel) ?_
  refine P_goto (off := 12) (t := 40) (by decide) (by decide +kernel) ?_
  exact (PW_sub (ls' := []) trivial h)
theorem S_X10_place_31 {X : CX} {d d1 : Nat} {x1 x2 : Int} {I R : PF} {Q Q1 : PV → PF → PF → Prop} (hs : Shp R) (e1 : d1 + 1 ≤ d) (hc : CN X d1 mX8_whoStands [(2, 111), (0, x1), (0, x2)] I R Q1) (h : ∀ z I2 R2, Q1 (0, z) I2 R2 → PN X d mX10_place 40 [] [(0, z)] I2 R2 Q) : PN X d mX10_place 31 [(2, 64), (0, x1), (0, x2)] [] I R Q := by
  refine P_aload_n (n := 0) (q := 32) rfl rfl (by decide +kernel) ?_
  refine B_getfR (q := 35) fX10_73 kM64 (rM64_11 hs) rfl (by decide +kernel) ?_
  refine P_iload_n (n := 1) (q := 36) rfl rfl (by decide +kernel) ?_
  refine P_iload_n (n := 2) (q := 37) rfl rfl (by decide +kernel) ?_
  refine P_invV (As := [(0, x1), (0, x2)]) (q := 40) oX8_whoStands rfl kM111 kX10_202 e1 hMF (Nat.le_of_ble_eq_true rfl) hc rfl (by decide +kernel) (fun z I2 R2 hq => ?_)
  exact (PW_sub (ls' := []) trivial (h z I2 R2 hq))
theorem S_X10_place_40 {X : CX} {d : Nat} {o0 : Int} {I R : PF} {Q : PV → PF → PF → Prop} (h : Q (0, o0) I R) : PN X d mX10_place 40 [] [(0, o0)] I R Q := by
  refine P_iret rfl (by decide +kernel) h
theorem S_X10_putNumber_0 {X : CX} {d : Nat} {x1 : Int} {I R : PF} {Q : PV → PF → PF → Prop} (h : PN X d mX10_putNumber 3 [(2, 64), (0, x1), (0, 24)] [] I R Q) : PN X d mX10_putNumber 0 [(2, 64), (0, x1)] [] I R Q := by
  refine P_bipush (n := 24) (q := 2) rfl rfl (by decide +kernel) ?_
  refine P_istore_n (n := 2) (by decide) (q := 3) rfl (by decide +kernel) ?_
  exact h
theorem S_X10_putNumber_3 {X : CX} {d : Nat} {x1 x2 : Int} {I R : PF} {Q : PV → PF → PF → Prop} (c1 : -2147483648 ≤ x2 ∧ x2 < 2147483648) (h1 : x2 < 0 → PN X d mX10_putNumber 49 [] [] I R Q) (h2 : 0 ≤ x2 → PN X d mX10_putNumber 7 [(2, 64), (0, x1), (0, x2)] [] I R Q) : PN X d mX10_putNumber 3 [(2, 64), (0, x1), (0, x2)] [] I R Q := by
  refine P_iload_n (n := 2) (q := 4) rfl rfl (by decide +kernel) ?_
  refine B_if_lt (off := 45) (t := 49) (q := 7) c1 (by decide) rfl (by decide +kernel) ?_ ?_
  · exact fun g9 => (PW_sub (ls' := []) trivial (h1 g9))
  · exact fun g9 => (h2 g9)
theorem S_X10_putNumber_7 {X : CX} {d : Nat} {x1 x2 : Int} {I R : PF} {Q : PV → PF → PF → Prop} (c1 : -2147483648 ≤ (I 64 1) ∧ (I 64 1) < 2147483648) (h1 : 1600 ≤ (I 64 1) → PN X d mX10_putNumber 43 [(2, 64), (0, x1), (0, x2)] [] I R Q) (h2 : (I 64 1) < 1600 → PN X d mX10_putNumber 17 [(2, 64), (0, x1), (0, x2)] [] I R Q) : PN X d mX10_putNumber 7 [(2, 64), (0, x1), (0, x2)] [] I R Q := by
  refine P_aload_n (n := 0) (q := 8) rfl rfl (by decide +kernel) ?_
  refine P_getf (q := 11) fX10_13 kM64 rfl (by decide +kernel) ?_
  refine P_sipush (n := 1600) (q := 14) rfl rfl (by decide +kernel) ?_
  refine B_icmp_ge (off := 29) (t := 43) (q := 17) c1 ⟨by decide, by decide⟩ (by decide) rfl (by decide +kernel) ?_ ?_
  · exact fun g9 => (h1 g9)
  · exact fun g9 => (h2 g9)
theorem S_X10_putNumber_17 {X : CX} {d : Nat} {x1 x2 : Int} {I R : PF} {Q : PV → PF → PF → Prop} (hs : Shp R) (b1 : (0 : Int) ≤ (I 64 1) ∧ (I 64 1) < 1600) (h : PN X d mX10_putNumber 43 [(2, 64), (0, x1), (0, x2)] [] (u2 (u2 I 65 (I 64 1) ((Int32.ofInt (ushr32 x1 x2) &&& Int32.ofInt 255).toInt)) 64 1 (((u2 I 65 (I 64 1) ((Int32.ofInt (ushr32 x1 x2) &&& Int32.ofInt 255).toInt)) 64 1) + 1)) R Q) : PN X d mX10_putNumber 17 [(2, 64), (0, x1), (0, x2)] [] I R Q := by
  refine P_aload_n (n := 0) (q := 18) rfl rfl (by decide +kernel) ?_
  refine B_getfR (q := 21) fX10_9 kM64 (rM64_0 hs) rfl (by decide +kernel) ?_
  refine P_aload_n (n := 0) (q := 22) rfl rfl (by decide +kernel) ?_
  refine P_getf (q := 25) fX10_13 kM64 rfl (by decide +kernel) ?_
  refine P_iload_n (n := 1) (q := 26) rfl rfl (by decide +kernel) ?_
  refine P_iload_n (n := 2) (q := 27) rfl rfl (by decide +kernel) ?_
  refine P_iushr (q := 28) rfl (by decide +kernel) ?_
  refine P_sipush (n := 255) (q := 31) rfl rfl (by decide +kernel) ?_
  refine P_iand (q := 32) rfl (by decide +kernel) ?_
  refine B_iastore (q := 33) kM65 nM65 (by decide) b1 rfl (by decide +kernel) ?_
  refine P_aload_n (n := 0) (q := 34) rfl rfl (by decide +kernel) ?_
  refine P_dup (q := 35) (Nat.ne_of_beq_eq_false rfl) rfl (by decide +kernel) ?_
  refine P_getf (q := 38) fX10_13 kM64 rfl (by decide +kernel) ?_
  refine P_iconst (n := 1) (q := 39) rfl (by decide +kernel) ?_
  refine P_iadd (q := 40) rfl (by decide +kernel) ?_
  refine P_putI (q := 43) wX10_13 (fun h => by cases h) kM64 rfl (by decide +kernel) ?_
  exact h
theorem S_X10_putNumber_43 {X : CX} {d : Nat} {x1 x2 : Int} {I R : PF} {Q : PV → PF → PF → Prop} (h : PN X d mX10_putNumber 3 [(2, 64), (0, x1), (0, (x2 + (-8)))] [] I R Q) : PN X d mX10_putNumber 43 [(2, 64), (0, x1), (0, x2)] [] I R Q := by
  refine P_iinc (n := 2) (a := (-8)) (by decide) rfl (q := 46) rfl (by decide +kernel) ?_
  refine P_goto (off := (-43)) (t := 3) (by decide) (by decide +kernel) ?_
  exact h
theorem S_X10_putNumber_49 {X : CX} {d : Nat} {I R : PF} {Q : PV → PF → PF → Prop} (h : Q (9, 0) I R) : PN X d mX10_putNumber 49 [] [] I R Q := by
  refine P_vret rfl (by decide +kernel) h
theorem S_X10_readImage_0 {X : CX} {d : Nat} {x1 : Int} {I R : PF} {Q : PV → PF → PF → Prop} (hs : Shp R) (c1 : -2147483648 ≤ x1 ∧ x1 < 2147483648) (c2 : -2147483648 ≤ (5 + (6 * (I 111 3))) ∧ (5 + (6 * (I 111 3))) < 2147483648) (h1 : x1 ≠ (5 + (6 * (I 111 3))) → PN X d mX10_readImage 37 [] [] I R Q) (h2 : x1 = (5 + (6 * (I 111 3))) → PN X d mX10_readImage 16 [(2, 64), (0, x1)] [] I R Q) : PN X d mX10_readImage 0 [(2, 64), (0, x1)] [] I R Q := by
  refine P_iload_n (n := 1) (q := 1) rfl rfl (by decide +kernel) ?_
  refine P_iconst (n := 5) (q := 2) rfl (by decide +kernel) ?_
  refine P_bipush (n := 6) (q := 4) rfl rfl (by decide +kernel) ?_
  refine P_aload_n (n := 0) (q := 5) rfl rfl (by decide +kernel) ?_
  refine B_getfR (q := 8) fX10_73 kM64 (rM64_11 hs) rfl (by decide +kernel) ?_
  refine P_getf (q := 11) fX10_151 kM111 rfl (by decide +kernel) ?_
  refine P_imul (q := 12) rfl (by decide +kernel) ?_
  refine P_iadd (q := 13) rfl (by decide +kernel) ?_
  refine B_icmp_ne (off := 24) (t := 37) (q := 16) c1 c2 (by decide) rfl (by decide +kernel) ?_ ?_
  · exact fun g9 => (PW_sub (ls' := []) trivial (h1 g9))
  · exact fun g9 => (h2 g9)
theorem S_X10_readImage_16 {X : CX} {d d1 : Nat} {x1 : Int} {I R : PF} {Q Q1 : PV → PF → PF → Prop} (hs : Shp R) (b1 : (0 : Int) ≤ (x1 - 1) ∧ (x1 - 1) < 1600) (e1 : d1 + 1 ≤ d) (hc : CN X d1 mX10_sealOf [(2, 65), (0, (x1 - 1))] I R Q1) (h : ∀ z I2 R2, Q1 (0, z) I2 R2 → PN X d mX10_readImage 34 [(2, 64)] [(0, z), (0, (I 65 (x1 - 1)))] I2 R2 Q) : PN X d mX10_readImage 16 [(2, 64), (0, x1)] [] I R Q := by
  refine P_aload_n (n := 0) (q := 17) rfl rfl (by decide +kernel) ?_
  refine B_getfR (q := 20) fX10_9 kM64 (rM64_0 hs) rfl (by decide +kernel) ?_
  refine P_iload_n (n := 1) (q := 21) rfl rfl (by decide +kernel) ?_
  refine P_iconst (n := 1) (q := 22) rfl (by decide +kernel) ?_
  refine P_isub (q := 23) rfl (by decide +kernel) ?_
  refine B_iaload (q := 24) kM65 nM65 (by decide) b1 rfl (by decide +kernel) ?_
  refine P_aload_n (n := 0) (q := 25) rfl rfl (by decide +kernel) ?_
  refine B_getfR (q := 28) fX10_9 kM64 (rM64_0 hs) rfl (by decide +kernel) ?_
  refine P_iload_n (n := 1) (q := 29) rfl rfl (by decide +kernel) ?_
  refine P_iconst (n := 1) (q := 30) rfl (by decide +kernel) ?_
  refine P_isub (q := 31) rfl (by decide +kernel) ?_
  refine P_invS (As := [(2, 65), (0, (x1 - 1))]) (q := 34) oX10_sealOf rfl (Or.inl kX10_383) e1 hMF (Nat.le_of_ble_eq_true rfl) hc rfl (by decide +kernel) (fun z I2 R2 hq => ?_)
  exact (PW_sub (ls' := [(2, 64)]) ⟨Or.inr rfl, trivial⟩ (h z I2 R2 hq))
theorem S_X10_readImage_34 {X : CX} {d : Nat} {o0 o1 : Int} {I R : PF} {Q : PV → PF → PF → Prop} (c1 : -2147483648 ≤ o0 ∧ o0 < 2147483648) (c2 : -2147483648 ≤ o1 ∧ o1 < 2147483648) (h1 : o0 = o1 → PN X d mX10_readImage 39 [(2, 64)] [] I R Q) (h2 : o0 ≠ o1 → PN X d mX10_readImage 37 [] [] I R Q) : PN X d mX10_readImage 34 [(2, 64)] [(0, o1), (0, o0)] I R Q := by
  refine B_icmp_eq (off := 5) (t := 39) (q := 37) c1 c2 (by decide) rfl (by decide +kernel) ?_ ?_
  · exact fun g9 => (PW_sub (ls' := [(2, 64)]) ⟨Or.inr rfl, trivial⟩ (h1 g9))
  · exact fun g9 => (PW_sub (ls' := []) trivial (h2 g9))
theorem S_X10_readImage_37 {X : CX} {d : Nat} {I R : PF} {Q : PV → PF → PF → Prop} (h : Q (0, 0) I R) : PN X d mX10_readImage 37 [] [] I R Q := by
  refine P_iconst (n := 0) (q := 38) rfl (by decide +kernel) ?_
  refine P_zret rfl (Or.inl rfl) (by decide +kernel) h
theorem S_X10_readImage_39 {X : CX} {d d1 : Nat} {I R : PF} {Q Q1 : PV → PF → PF → Prop} (hs : Shp R) (e1 : d1 + 1 ≤ d) (hc : CN X d1 mX8_copyFrom [(2, 119), (2, 111)] I R Q1) (h : ∀ z I2 R2, Q1 (9, z) I2 R2 → PN X d mX10_readImage 50 [(2, 64)] [] I2 R2 Q) : PN X d mX10_readImage 39 [(2, 64)] [] I R Q := by
  refine P_aload_n (n := 0) (q := 40) rfl rfl (by decide +kernel) ?_
  refine B_getfR (q := 43) fX10_77 kM64 (rM64_12 hs) rfl (by decide +kernel) ?_
  refine P_aload_n (n := 0) (q := 44) rfl rfl (by decide +kernel) ?_
  refine B_getfR (q := 47) fX10_73 kM64 (rM64_11 hs) rfl (by decide +kernel) ?_
  refine P_invV (As := [(2, 111)]) (q := 50) oX8_copyFrom rfl kM119 kX10_133 e1 hMF (Nat.le_of_ble_eq_true rfl) hc rfl (by decide +kernel) (fun z I2 R2 hq => ?_)
  exact (PW_sub (ls' := [(2, 64)]) ⟨Or.inr rfl, trivial⟩ (h z I2 R2 hq))
theorem S_X10_readImage_50 {X : CX} {d : Nat} {I R : PF} {Q : PV → PF → PF → Prop} (hs : Shp R) (c1 : -2147483648 ≤ ((u2 (u2 (u2 I 119 0 ((256 * (I 65 0)) + (I 65 1))) 119 1 (((u2 I 119 0 ((256 * (I 65 0)) + (I 65 1))) 65 2) - 1)) 119 2 ((u2 (u2 I 119 0 ((256 * (I 65 0)) + (I 65 1))) 119 1 (((u2 I 119 0 ((256 * (I 65 0)) + (I 65 1))) 65 2) - 1)) 65 3)) 119 0) ∧ ((u2 (u2 (u2 I 119 0 ((256 * (I 65 0)) + (I 65 1))) 119 1 (((u2 I 119 0 ((256 * (I 65 0)) + (I 65 1))) 65 2) - 1)) 119 2 ((u2 (u2 I 119 0 ((256 * (I 65 0)) + (I 65 1))) 119 1 (((u2 I 119 0 ((256 * (I 65 0)) + (I 65 1))) 65 2) - 1)) 65 3)) 119 0) < 2147483648) (h1 : 999 < ((u2 (u2 (u2 I 119 0 ((256 * (I 65 0)) + (I 65 1))) 119 1 (((u2 I 119 0 ((256 * (I 65 0)) + (I 65 1))) 65 2) - 1)) 119 2 ((u2 (u2 I 119 0 ((256 * (I 65 0)) + (I 65 1))) 119 1 (((u2 I 119 0 ((256 * (I 65 0)) + (I 65 1))) 65 2) - 1)) 65 3)) 119 0) → PN X d mX10_readImage 144 [] [] (u2 (u2 (u2 I 119 0 ((256 * (I 65 0)) + (I 65 1))) 119 1 (((u2 I 119 0 ((256 * (I 65 0)) + (I 65 1))) 65 2) - 1)) 119 2 ((u2 (u2 I 119 0 ((256 * (I 65 0)) + (I 65 1))) 119 1 (((u2 I 119 0 ((256 * (I 65 0)) + (I 65 1))) 65 2) - 1)) 65 3)) R Q) (h2 : ((u2 (u2 (u2 I 119 0 ((256 * (I 65 0)) + (I 65 1))) 119 1 (((u2 I 119 0 ((256 * (I 65 0)) + (I 65 1))) 65 2) - 1)) 119 2 ((u2 (u2 I 119 0 ((256 * (I 65 0)) + (I 65 1))) 119 1 (((u2 I 119 0 ((256 * (I 65 0)) + (I 65 1))) 65 2) - 1)) 65 3)) 119 0) ≤ 999 → PN X d mX10_readImage 115 [(2, 64)] [] (u2 (u2 (u2 I 119 0 ((256 * (I 65 0)) + (I 65 1))) 119 1 (((u2 I 119 0 ((256 * (I 65 0)) + (I 65 1))) 65 2) - 1)) 119 2 ((u2 (u2 I 119 0 ((256 * (I 65 0)) + (I 65 1))) 119 1 (((u2 I 119 0 ((256 * (I 65 0)) + (I 65 1))) 65 2) - 1)) 65 3)) R Q) : PN X d mX10_readImage 50 [(2, 64)] [] I R Q := by
  refine P_aload_n (n := 0) (q := 51) rfl rfl (by decide +kernel) ?_
  refine B_getfR (q := 54) fX10_77 kM64 (rM64_12 hs) rfl (by decide +kernel) ?_
  refine P_sipush (n := 256) (q := 57) rfl rfl (by decide +kernel) ?_
  refine P_aload_n (n := 0) (q := 58) rfl rfl (by decide +kernel) ?_
  refine B_getfR (q := 61) fX10_9 kM64 (rM64_0 hs) rfl (by decide +kernel) ?_
  refine P_iconst (n := 0) (q := 62) rfl (by decide +kernel) ?_
  refine B_iaload (q := 63) kM65 nM65 (by decide) ⟨by decide, by decide⟩ rfl (by decide +kernel) ?_
  refine P_imul (q := 64) rfl (by decide +kernel) ?_
  refine P_aload_n (n := 0) (q := 65) rfl rfl (by decide +kernel) ?_
  refine B_getfR (q := 68) fX10_9 kM64 (rM64_0 hs) rfl (by decide +kernel) ?_
  refine P_iconst (n := 1) (q := 69) rfl (by decide +kernel) ?_
  refine B_iaload (q := 70) kM65 nM65 (by decide) ⟨by decide, by decide⟩ rfl (by decide +kernel) ?_
  refine P_iadd (q := 71) rfl (by decide +kernel) ?_
  refine P_putI (q := 74) wX10_157 (fun h => by cases h) kM119 rfl (by decide +kernel) ?_
  refine P_aload_n (n := 0) (q := 75) rfl rfl (by decide +kernel) ?_
  refine B_getfR (q := 78) fX10_77 kM64 (rM64_12 hs) rfl (by decide +kernel) ?_
  refine P_aload_n (n := 0) (q := 79) rfl rfl (by decide +kernel) ?_
  refine B_getfR (q := 82) fX10_9 kM64 (rM64_0 hs) rfl (by decide +kernel) ?_
  refine P_iconst (n := 2) (q := 83) rfl (by decide +kernel) ?_
  refine B_iaload (q := 84) kM65 nM65 (by decide) ⟨by decide, by decide⟩ rfl (by decide +kernel) ?_
  refine P_iconst (n := 1) (q := 85) rfl (by decide +kernel) ?_
  refine P_isub (q := 86) rfl (by decide +kernel) ?_
  refine P_putI (q := 89) wX10_160 (fun h => by cases h) kM119 rfl (by decide +kernel) ?_
  refine P_aload_n (n := 0) (q := 90) rfl rfl (by decide +kernel) ?_
  refine B_getfR (q := 93) fX10_77 kM64 (rM64_12 hs) rfl (by decide +kernel) ?_
  refine P_aload_n (n := 0) (q := 94) rfl rfl (by decide +kernel) ?_
  refine B_getfR (q := 97) fX10_9 kM64 (rM64_0 hs) rfl (by decide +kernel) ?_
  refine P_iconst (n := 3) (q := 98) rfl (by decide +kernel) ?_
  refine B_iaload (q := 99) kM65 nM65 (by decide) ⟨by decide, by decide⟩ rfl (by decide +kernel) ?_
  refine P_putI (q := 102) wX10_166 (fun h => by cases h) kM119 rfl (by decide +kernel) ?_
  refine P_aload_n (n := 0) (q := 103) rfl rfl (by decide +kernel) ?_
  refine B_getfR (q := 106) fX10_77 kM64 (rM64_12 hs) rfl (by decide +kernel) ?_
  refine P_getf (q := 109) fX10_157 kM119 rfl (by decide +kernel) ?_
  refine P_sipush (n := 999) (q := 112) rfl rfl (by decide +kernel) ?_
  refine B_icmp_gt (off := 32) (t := 144) (q := 115) c1 ⟨by decide, by decide⟩ (by decide) rfl (by decide +kernel) ?_ ?_
  · exact fun g9 => (PW_sub (ls' := []) trivial (h1 g9))
  · exact fun g9 => (PW_sub (ls' := [(2, 64)]) ⟨Or.inr rfl, trivial⟩ (h2 g9))
theorem S_X10_readImage_115 {X : CX} {d : Nat} {I R : PF} {Q : PV → PF → PF → Prop} (hs : Shp R) (c1 : -2147483648 ≤ (I 119 1) ∧ (I 119 1) < 2147483648) (c2 : -2147483648 ≤ (I 119 3) ∧ (I 119 3) < 2147483648) (h1 : (I 119 3) ≤ (I 119 1) → PN X d mX10_readImage 144 [] [] I R Q) (h2 : (I 119 1) < (I 119 3) → PN X d mX10_readImage 132 [(2, 64)] [] I R Q) : PN X d mX10_readImage 115 [(2, 64)] [] I R Q := by
  refine P_aload_n (n := 0) (q := 116) rfl rfl (by decide +kernel) ?_
  refine B_getfR (q := 119) fX10_77 kM64 (rM64_12 hs) rfl (by decide +kernel) ?_
  refine P_getf (q := 122) fX10_160 kM119 rfl (by decide +kernel) ?_
  refine P_aload_n (n := 0) (q := 123) rfl rfl (by decide +kernel) ?_
  refine B_getfR (q := 126) fX10_77 kM64 (rM64_12 hs) rfl (by decide +kernel) ?_
  refine P_getf (q := 129) fX10_151 kM119 rfl (by decide +kernel) ?_
  refine B_icmp_ge (off := 15) (t := 144) (q := 132) c1 c2 (by decide) rfl (by decide +kernel) ?_ ?_
  · exact fun g9 => (PW_sub (ls' := []) trivial (h1 g9))
  · exact fun g9 => (PW_sub (ls' := [(2, 64)]) ⟨Or.inr rfl, trivial⟩ (h2 g9))
theorem S_X10_readImage_132 {X : CX} {d : Nat} {I R : PF} {Q : PV → PF → PF → Prop} (hs : Shp R) (c1 : -2147483648 ≤ (I 119 2) ∧ (I 119 2) < 2147483648) (h1 : (I 119 2) ≤ 99 → PN X d mX10_readImage 146 [(2, 64)] [] I R Q) (h2 : 99 < (I 119 2) → PN X d mX10_readImage 144 [] [] I R Q) : PN X d mX10_readImage 132 [(2, 64)] [] I R Q := by
  refine P_aload_n (n := 0) (q := 133) rfl rfl (by decide +kernel) ?_
  refine B_getfR (q := 136) fX10_77 kM64 (rM64_12 hs) rfl (by decide +kernel) ?_
  refine P_getf (q := 139) fX10_166 kM119 rfl (by decide +kernel) ?_
  refine P_bipush (n := 99) (q := 141) rfl rfl (by decide +kernel) ?_
  refine B_icmp_le (off := 5) (t := 146) (q := 144) c1 ⟨by decide, by decide⟩ (by decide) rfl (by decide +kernel) ?_ ?_
  · exact fun g9 => (PW_sub (ls' := [(2, 64)]) ⟨Or.inr rfl, trivial⟩ (h1 g9))
  · exact fun g9 => (PW_sub (ls' := []) trivial (h2 g9))
theorem S_X10_readImage_144 {X : CX} {d : Nat} {I R : PF} {Q : PV → PF → PF → Prop} (h : Q (0, 0) I R) : PN X d mX10_readImage 144 [] [] I R Q := by
  refine P_iconst (n := 0) (q := 145) rfl (by decide +kernel) ?_
  refine P_zret rfl (Or.inl rfl) (by decide +kernel) h
theorem S_X10_readImage_146 {X : CX} {d : Nat} {I R : PF} {Q : PV → PF → PF → Prop} (hs : Shp R) (c1 : -2147483648 ≤ (I 119 2) ∧ (I 119 2) < 2147483648) (h1 : (I 119 2) ≠ 0 → PN X d mX10_readImage 160 [(2, 64)] [] I R Q) (h2 : (I 119 2) = 0 → PN X d mX10_readImage 156 [(2, 64)] [] I R Q) : PN X d mX10_readImage 146 [(2, 64)] [] I R Q := by
  refine P_aload_n (n := 0) (q := 147) rfl rfl (by decide +kernel) ?_
  refine B_getfR (q := 150) fX10_77 kM64 (rM64_12 hs) rfl (by decide +kernel) ?_
  refine P_getf (q := 153) fX10_166 kM119 rfl (by decide +kernel) ?_
  refine B_if_ne (off := 7) (t := 160) (q := 156) c1 (by decide) rfl (by decide +kernel) ?_ ?_
  · exact fun g9 => (PW_sub (ls' := [(2, 64)]) ⟨Or.inr rfl, trivial⟩ (h1 g9))
  · exact fun g9 => (PW_sub (ls' := [(2, 64)]) ⟨Or.inr rfl, trivial⟩ (h2 g9))
theorem S_X10_readImage_156 {X : CX} {d : Nat} {I R : PF} {Q : PV → PF → PF → Prop} (h : PN X d mX10_readImage 161 [(2, 64)] [(0, 1)] I R Q) : PN X d mX10_readImage 156 [(2, 64)] [] I R Q := by
  refine P_iconst (n := 1) (q := 157) rfl (by decide +kernel) ?_
  refine P_goto (off := 4) (t := 161) (by decide) (by decide +kernel) ?_
  exact (PW_sub (ls' := [(2, 64)]) ⟨Or.inr rfl, trivial⟩ h)
theorem S_X10_readImage_160 {X : CX} {d : Nat} {I R : PF} {Q : PV → PF → PF → Prop} (h : PN X d mX10_readImage 161 [(2, 64)] [(0, 0)] I R Q) : PN X d mX10_readImage 160 [(2, 64)] [] I R Q := by
  refine P_iconst (n := 0) (q := 161) rfl (by decide +kernel) ?_
  exact (PW_sub (ls' := [(2, 64)]) ⟨Or.inr rfl, trivial⟩ h)
theorem S_X10_readImage_161 {X : CX} {d : Nat} {o0 : Int} {I R : PF} {Q : PV → PF → PF → Prop} (hs : Shp R) (c1 : -2147483648 ≤ (I 119 1) ∧ (I 119 1) < 2147483648) (h1 : (I 119 1) ≠ (-1) → PN X d mX10_readImage 176 [(2, 64)] [(0, o0)] I R Q) (h2 : (I 119 1) = (-1) → PN X d mX10_readImage 172 [(2, 64)] [(0, o0)] I R Q) : PN X d mX10_readImage 161 [(2, 64)] [(0, o0)] I R Q := by
  refine P_aload_n (n := 0) (q := 162) rfl rfl (by decide +kernel) ?_
  refine B_getfR (q := 165) fX10_77 kM64 (rM64_12 hs) rfl (by decide +kernel) ?_
  refine P_getf (q := 168) fX10_160 kM119 rfl (by decide +kernel) ?_
  refine P_iconst (n := (-1)) (q := 169) rfl (by decide +kernel) ?_
  refine B_icmp_ne (off := 7) (t := 176) (q := 172) c1 ⟨by decide, by decide⟩ (by decide) rfl (by decide +kernel) ?_ ?_
  · exact fun g9 => (PW_sub (ls' := [(2, 64)]) ⟨Or.inr rfl, trivial⟩ (h1 g9))
  · exact fun g9 => (PW_sub (ls' := [(2, 64)]) ⟨Or.inr rfl, trivial⟩ (h2 g9))
theorem S_X10_readImage_172 {X : CX} {d : Nat} {o0 : Int} {I R : PF} {Q : PV → PF → PF → Prop} (h : PN X d mX10_readImage 177 [(2, 64)] [(0, 1), (0, o0)] I R Q) : PN X d mX10_readImage 172 [(2, 64)] [(0, o0)] I R Q := by
  refine P_iconst (n := 1) (q := 173) rfl (by decide +kernel) ?_
  refine P_goto (off := 4) (t := 177) (by decide) (by decide +kernel) ?_
  exact (PW_sub (ls' := [(2, 64)]) ⟨Or.inr rfl, trivial⟩ h)
theorem S_X10_readImage_176 {X : CX} {d : Nat} {o0 : Int} {I R : PF} {Q : PV → PF → PF → Prop} (h : PN X d mX10_readImage 177 [(2, 64)] [(0, 0), (0, o0)] I R Q) : PN X d mX10_readImage 176 [(2, 64)] [(0, o0)] I R Q := by
  refine P_iconst (n := 0) (q := 177) rfl (by decide +kernel) ?_
  exact (PW_sub (ls' := [(2, 64)]) ⟨Or.inr rfl, trivial⟩ h)
theorem S_X10_readImage_177 {X : CX} {d : Nat} {o0 o1 : Int} {I R : PF} {Q : PV → PF → PF → Prop} (c1 : -2147483648 ≤ o0 ∧ o0 < 2147483648) (c2 : -2147483648 ≤ o1 ∧ o1 < 2147483648) (h1 : o0 = o1 → PN X d mX10_readImage 182 [(2, 64)] [] I R Q) (h2 : o0 ≠ o1 → PN X d mX10_readImage 180 [] [] I R Q) : PN X d mX10_readImage 177 [(2, 64)] [(0, o1), (0, o0)] I R Q := by
  refine B_icmp_eq (off := 5) (t := 182) (q := 180) c1 c2 (by decide) rfl (by decide +kernel) ?_ ?_
  · exact fun g9 => (PW_sub (ls' := [(2, 64)]) ⟨Or.inr rfl, trivial⟩ (h1 g9))
  · exact fun g9 => (PW_sub (ls' := []) trivial (h2 g9))
theorem S_X10_readImage_180 {X : CX} {d : Nat} {I R : PF} {Q : PV → PF → PF → Prop} (h : Q (0, 0) I R) : PN X d mX10_readImage 180 [] [] I R Q := by
  refine P_iconst (n := 0) (q := 181) rfl (by decide +kernel) ?_
  refine P_zret rfl (Or.inl rfl) (by decide +kernel) h
theorem S_X10_readImage_182 {X : CX} {d : Nat} {I R : PF} {Q : PV → PF → PF → Prop} (h : PN X d mX10_readImage 184 [(2, 64), (9, 0), (0, 0)] [] I R Q) : PN X d mX10_readImage 182 [(2, 64)] [] I R Q := by
  refine P_iconst (n := 0) (q := 183) rfl (by decide +kernel) ?_
  refine P_istore_n (n := 2) (by decide) (q := 184) rfl (by decide +kernel) ?_
  exact h
theorem S_X10_readImage_184 {X : CX} {d : Nat} {x2 : Int} {I R : PF} {Q : PV → PF → PF → Prop} (hs : Shp R) (c1 : -2147483648 ≤ x2 ∧ x2 < 2147483648) (c2 : -2147483648 ≤ (I 119 3) ∧ (I 119 3) < 2147483648) (h1 : (I 119 3) ≤ x2 → PN X d mX10_readImage 217 [] [] I R Q) (h2 : x2 < (I 119 3) → PN X d mX10_readImage 195 [(2, 64), (9, 0), (0, x2)] [] I R Q) : PN X d mX10_readImage 184 [(2, 64), (9, 0), (0, x2)] [] I R Q := by
  refine P_iload_n (n := 2) (q := 185) rfl rfl (by decide +kernel) ?_
  refine P_aload_n (n := 0) (q := 186) rfl rfl (by decide +kernel) ?_
  refine B_getfR (q := 189) fX10_77 kM64 (rM64_12 hs) rfl (by decide +kernel) ?_
  refine P_getf (q := 192) fX10_151 kM119 rfl (by decide +kernel) ?_
  refine B_icmp_ge (off := 25) (t := 217) (q := 195) c1 c2 (by decide) rfl (by decide +kernel) ?_ ?_
  · exact fun g9 => (PW_sub (ls' := []) trivial (h1 g9))
  · exact fun g9 => (h2 g9)
theorem S_X10_readImage_195 {X : CX} {d d1 : Nat} {x2 : Int} {I R : PF} {Q Q1 : PV → PF → PF → Prop} (e1 : d1 + 1 ≤ d) (hc : CN X d1 mX10_readPerson [(2, 64), (0, x2), (0, (4 + (6 * x2)))] I R Q1) (h : ∀ z I2 R2, Q1 (0, z) I2 R2 → PN X d mX10_readImage 206 [(2, 64), (9, 0), (0, x2)] [(0, z)] I2 R2 Q) : PN X d mX10_readImage 195 [(2, 64), (9, 0), (0, x2)] [] I R Q := by
  refine P_aload_n (n := 0) (q := 196) rfl rfl (by decide +kernel) ?_
  refine P_iload_n (n := 2) (q := 197) rfl rfl (by decide +kernel) ?_
  refine P_iconst (n := 4) (q := 198) rfl (by decide +kernel) ?_
  refine P_bipush (n := 6) (q := 200) rfl rfl (by decide +kernel) ?_
  refine P_iload_n (n := 2) (q := 201) rfl rfl (by decide +kernel) ?_
  refine P_imul (q := 202) rfl (by decide +kernel) ?_
  refine P_iadd (q := 203) rfl (by decide +kernel) ?_
  refine P_invV (As := [(0, x2), (0, (4 + (6 * x2)))]) (q := 206) oX10_readPerson rfl kM64 kX10_390 e1 hMF (Nat.le_of_ble_eq_true rfl) hc rfl (by decide +kernel) (fun z I2 R2 hq => ?_)
  exact (h z I2 R2 hq)
theorem S_X10_readImage_206 {X : CX} {d : Nat} {x2 o0 : Int} {I R : PF} {Q : PV → PF → PF → Prop} (c1 : -2147483648 ≤ o0 ∧ o0 < 2147483648) (h1 : o0 ≠ 0 → PN X d mX10_readImage 211 [(2, 64), (9, 0), (0, x2)] [] I R Q) (h2 : o0 = 0 → PN X d mX10_readImage 209 [] [] I R Q) : PN X d mX10_readImage 206 [(2, 64), (9, 0), (0, x2)] [(0, o0)] I R Q := by
  refine B_if_ne (off := 5) (t := 211) (q := 209) c1 (by decide) rfl (by decide +kernel) ?_ ?_
  · exact fun g9 => (h1 g9)
  · exact fun g9 => (PW_sub (ls' := []) trivial (h2 g9))
theorem S_X10_readImage_209 {X : CX} {d : Nat} {I R : PF} {Q : PV → PF → PF → Prop} (h : Q (0, 0) I R) : PN X d mX10_readImage 209 [] [] I R Q := by
  refine P_iconst (n := 0) (q := 210) rfl (by decide +kernel) ?_
  refine P_zret rfl (Or.inl rfl) (by decide +kernel) h
theorem S_X10_readImage_211 {X : CX} {d : Nat} {x2 : Int} {I R : PF} {Q : PV → PF → PF → Prop} (h : PN X d mX10_readImage 184 [(2, 64), (9, 0), (0, (x2 + 1))] [] I R Q) : PN X d mX10_readImage 211 [(2, 64), (9, 0), (0, x2)] [] I R Q := by
  refine P_iinc (n := 2) (a := 1) (by decide) rfl (q := 214) rfl (by decide +kernel) ?_
  refine P_goto (off := (-30)) (t := 184) (by decide) (by decide +kernel) ?_
  exact h
theorem S_X10_readImage_217 {X : CX} {d : Nat} {I R : PF} {Q : PV → PF → PF → Prop} (h : Q (0, 1) I R) : PN X d mX10_readImage 217 [] [] I R Q := by
  refine P_iconst (n := 1) (q := 218) rfl (by decide +kernel) ?_
  refine P_zret rfl (Or.inr rfl) (by decide +kernel) h
theorem S_X10_readPerson_0 {X : CX} {d d1 : Nat} {x1 x2 t1 : Int} {I R : PF} {Q Q1 : PV → PF → PF → Prop} (hs : Shp R) (b1 : (0 : Int) ≤ x2 ∧ x2 < 1600) (b2 : (0 : Int) ≤ (x2 + 1) ∧ (x2 + 1) < 1600) (b3 : (0 : Int) ≤ (x2 + 2) ∧ (x2 + 2) < 1600) (b4 : (0 : Int) ≤ (x2 + 3) ∧ (x2 + 3) < 1600) (b5 : (0 : Int) ≤ (x2 + 4) ∧ (x2 + 4) < 1600) (b6 : (0 : Int) ≤ (x2 + 5) ∧ (x2 + 5) < 1600) (r1 : R 64 8 = t1) (e1 : d1 + 1 ≤ d) (hc : CN X d1 mX6_within [(2, t1), (0, (I 65 x2)), (0, (I 65 (x2 + 1)))] I R Q1) (k1 : kd MF t1 = 6) (h : ∀ z I2 R2, Q1 (0, z) I2 R2 → PN X d mX10_readPerson 70 [(2, 64), (0, x1), (9, 0), (0, (I 65 x2)), (0, (I 65 (x2 + 1))), (0, (I 65 (x2 + 2))), (0, (I 65 (x2 + 3))), (0, ((256 * (I 65 (x2 + 4))) + (I 65 (x2 + 5))))] [(0, z)] I2 R2 Q) : PN X d mX10_readPerson 0 [(2, 64), (0, x1), (0, x2)] [] I R Q := by
  refine P_aload_n (n := 0) (q := 1) rfl rfl (by decide +kernel) ?_
  refine B_getfR (q := 4) fX10_9 kM64 (rM64_0 hs) rfl (by decide +kernel) ?_
  refine P_iload_n (n := 2) (q := 5) rfl rfl (by decide +kernel) ?_
  refine B_iaload (q := 6) kM65 nM65 (by decide) b1 rfl (by decide +kernel) ?_
  refine P_istore_n (n := 3) (by decide) (q := 7) rfl (by decide +kernel) ?_
  refine P_aload_n (n := 0) (q := 8) rfl rfl (by decide +kernel) ?_
  refine B_getfR (q := 11) fX10_9 kM64 (rM64_0 hs) rfl (by decide +kernel) ?_
  refine P_iload_n (n := 2) (q := 12) rfl rfl (by decide +kernel) ?_
  refine P_iconst (n := 1) (q := 13) rfl (by decide +kernel) ?_
  refine P_iadd (q := 14) rfl (by decide +kernel) ?_
  refine B_iaload (q := 15) kM65 nM65 (by decide) b2 rfl (by decide +kernel) ?_
  refine P_istore (n := 4) (by decide) (q := 17) rfl (by decide +kernel) ?_
  refine P_aload_n (n := 0) (q := 18) rfl rfl (by decide +kernel) ?_
  refine B_getfR (q := 21) fX10_9 kM64 (rM64_0 hs) rfl (by decide +kernel) ?_
  refine P_iload_n (n := 2) (q := 22) rfl rfl (by decide +kernel) ?_
  refine P_iconst (n := 2) (q := 23) rfl (by decide +kernel) ?_
  refine P_iadd (q := 24) rfl (by decide +kernel) ?_
  refine B_iaload (q := 25) kM65 nM65 (by decide) b3 rfl (by decide +kernel) ?_
  refine P_istore (n := 5) (by decide) (q := 27) rfl (by decide +kernel) ?_
  refine P_aload_n (n := 0) (q := 28) rfl rfl (by decide +kernel) ?_
  refine B_getfR (q := 31) fX10_9 kM64 (rM64_0 hs) rfl (by decide +kernel) ?_
  refine P_iload_n (n := 2) (q := 32) rfl rfl (by decide +kernel) ?_
  refine P_iconst (n := 3) (q := 33) rfl (by decide +kernel) ?_
  refine P_iadd (q := 34) rfl (by decide +kernel) ?_
  refine B_iaload (q := 35) kM65 nM65 (by decide) b4 rfl (by decide +kernel) ?_
  refine P_istore (n := 6) (by decide) (q := 37) rfl (by decide +kernel) ?_
  refine P_sipush (n := 256) (q := 40) rfl rfl (by decide +kernel) ?_
  refine P_aload_n (n := 0) (q := 41) rfl rfl (by decide +kernel) ?_
  refine B_getfR (q := 44) fX10_9 kM64 (rM64_0 hs) rfl (by decide +kernel) ?_
  refine P_iload_n (n := 2) (q := 45) rfl rfl (by decide +kernel) ?_
  refine P_iconst (n := 4) (q := 46) rfl (by decide +kernel) ?_
  refine P_iadd (q := 47) rfl (by decide +kernel) ?_
  refine B_iaload (q := 48) kM65 nM65 (by decide) b5 rfl (by decide +kernel) ?_
  refine P_imul (q := 49) rfl (by decide +kernel) ?_
  refine P_aload_n (n := 0) (q := 50) rfl rfl (by decide +kernel) ?_
  refine B_getfR (q := 53) fX10_9 kM64 (rM64_0 hs) rfl (by decide +kernel) ?_
  refine P_iload_n (n := 2) (q := 54) rfl rfl (by decide +kernel) ?_
  refine P_iconst (n := 5) (q := 55) rfl (by decide +kernel) ?_
  refine P_iadd (q := 56) rfl (by decide +kernel) ?_
  refine B_iaload (q := 57) kM65 nM65 (by decide) b6 rfl (by decide +kernel) ?_
  refine P_iadd (q := 58) rfl (by decide +kernel) ?_
  refine P_istore (n := 7) (by decide) (q := 60) rfl (by decide +kernel) ?_
  refine P_aload_n (n := 0) (q := 61) rfl rfl (by decide +kernel) ?_
  refine B_getfR (q := 64) fX10_54 kM64 r1 rfl (by decide +kernel) ?_
  refine P_iload_n (n := 3) (q := 65) rfl rfl (by decide +kernel) ?_
  refine P_iload (n := 4) (q := 67) rfl rfl (by decide +kernel) ?_
  refine P_invV (As := [(0, (I 65 x2)), (0, (I 65 (x2 + 1)))]) (q := 70) oX6_within rfl k1 kX10_195 e1 hMF (Nat.le_of_ble_eq_true rfl) hc rfl (by decide +kernel) (fun z I2 R2 hq => ?_)
  exact (PW_sub (ls' := [(2, 64), (0, x1), (9, 0), (0, (I 65 x2)), (0, (I 65 (x2 + 1))), (0, (I 65 (x2 + 2))), (0, (I 65 (x2 + 3))), (0, ((256 * (I 65 (x2 + 4))) + (I 65 (x2 + 5))))]) ⟨Or.inr rfl, Or.inr rfl, Or.inl rfl, Or.inr rfl, Or.inr rfl, Or.inr rfl, Or.inr rfl, Or.inr rfl, trivial⟩ (h z I2 R2 hq))
theorem S_X10_readPerson_70 {X : CX} {d : Nat} {x1 x3 x4 x5 x6 x7 o0 : Int} {I R : PF} {Q : PV → PF → PF → Prop} (c1 : -2147483648 ≤ o0 ∧ o0 < 2147483648) (h1 : o0 = 0 → PN X d mX10_readPerson 96 [] [] I R Q) (h2 : o0 ≠ 0 → PN X d mX10_readPerson 73 [(2, 64), (0, x1), (9, 0), (0, x3), (0, x4), (0, x5), (0, x6), (0, x7)] [] I R Q) : PN X d mX10_readPerson 70 [(2, 64), (0, x1), (9, 0), (0, x3), (0, x4), (0, x5), (0, x6), (0, x7)] [(0, o0)] I R Q := by
  refine B_if_eq (off := 26) (t := 96) (q := 73) c1 (by decide) rfl (by decide +kernel) ?_ ?_
  · exact fun g9 => (PW_sub (ls' := []) trivial (h1 g9))
  · exact fun g9 => (h2 g9)
theorem S_X10_readPerson_73 {X : CX} {d d1 : Nat} {x1 x3 x4 x5 x6 x7 t1 : Int} {I R : PF} {Q Q1 : PV → PF → PF → Prop} (r1 : R 64 8 = t1) (e1 : d1 + 1 ≤ d) (hc : CN X d1 mX6_walled [(2, t1), (0, x3), (0, x4)] I R Q1) (k1 : kd MF t1 = 6) (h : ∀ z I2 R2, Q1 (0, z) I2 R2 → PN X d mX10_readPerson 83 [(2, 64), (0, x1), (9, 0), (0, x3), (0, x4), (0, x5), (0, x6), (0, x7)] [(0, z)] I2 R2 Q) : PN X d mX10_readPerson 73 [(2, 64), (0, x1), (9, 0), (0, x3), (0, x4), (0, x5), (0, x6), (0, x7)] [] I R Q := by
  refine P_aload_n (n := 0) (q := 74) rfl rfl (by decide +kernel) ?_
  refine B_getfR (q := 77) fX10_54 kM64 r1 rfl (by decide +kernel) ?_
  refine P_iload_n (n := 3) (q := 78) rfl rfl (by decide +kernel) ?_
  refine P_iload (n := 4) (q := 80) rfl rfl (by decide +kernel) ?_
  refine P_invV (As := [(0, x3), (0, x4)]) (q := 83) oX6_walled rfl k1 kX10_199 e1 hMF (Nat.le_of_ble_eq_true rfl) hc rfl (by decide +kernel) (fun z I2 R2 hq => ?_)
  exact (h z I2 R2 hq)
theorem S_X10_readPerson_83 {X : CX} {d : Nat} {x1 x3 x4 x5 x6 x7 o0 : Int} {I R : PF} {Q : PV → PF → PF → Prop} (c1 : -2147483648 ≤ o0 ∧ o0 < 2147483648) (h1 : o0 ≠ 0 → PN X d mX10_readPerson 96 [] [] I R Q) (h2 : o0 = 0 → PN X d mX10_readPerson 86 [(2, 64), (0, x1), (9, 0), (0, x3), (0, x4), (0, x5), (0, x6), (0, x7)] [] I R Q) : PN X d mX10_readPerson 83 [(2, 64), (0, x1), (9, 0), (0, x3), (0, x4), (0, x5), (0, x6), (0, x7)] [(0, o0)] I R Q := by
  refine B_if_ne (off := 13) (t := 96) (q := 86) c1 (by decide) rfl (by decide +kernel) ?_ ?_
  · exact fun g9 => (PW_sub (ls' := []) trivial (h1 g9))
  · exact fun g9 => (h2 g9)
theorem S_X10_readPerson_86 {X : CX} {d d1 : Nat} {x1 x3 x4 x5 x6 x7 : Int} {I R : PF} {Q Q1 : PV → PF → PF → Prop} (e1 : d1 + 1 ≤ d) (hc : CN X d1 mX10_isThrow [(0, x5), (0, x6)] I R Q1) (h : ∀ z I2 R2, Q1 (0, z) I2 R2 → PN X d mX10_readPerson 93 [(2, 64), (0, x1), (9, 0), (0, x3), (0, x4), (0, x5), (0, x6), (0, x7)] [(0, z)] I2 R2 Q) : PN X d mX10_readPerson 86 [(2, 64), (0, x1), (9, 0), (0, x3), (0, x4), (0, x5), (0, x6), (0, x7)] [] I R Q := by
  refine P_iload (n := 5) (q := 88) rfl rfl (by decide +kernel) ?_
  refine P_iload (n := 6) (q := 90) rfl rfl (by decide +kernel) ?_
  refine P_invS (As := [(0, x5), (0, x6)]) (q := 93) oX10_isThrow rfl (Or.inl kX10_212) e1 hMF (Nat.le_of_ble_eq_true rfl) hc rfl (by decide +kernel) (fun z I2 R2 hq => ?_)
  exact (h z I2 R2 hq)
theorem S_X10_readPerson_93 {X : CX} {d : Nat} {x1 x3 x4 x5 x6 x7 o0 : Int} {I R : PF} {Q : PV → PF → PF → Prop} (c1 : -2147483648 ≤ o0 ∧ o0 < 2147483648) (h1 : o0 ≠ 0 → PN X d mX10_readPerson 98 [(2, 64), (0, x1), (9, 0), (0, x3), (0, x4), (0, x5), (0, x6), (0, x7)] [] I R Q) (h2 : o0 = 0 → PN X d mX10_readPerson 96 [] [] I R Q) : PN X d mX10_readPerson 93 [(2, 64), (0, x1), (9, 0), (0, x3), (0, x4), (0, x5), (0, x6), (0, x7)] [(0, o0)] I R Q := by
  refine B_if_ne (off := 5) (t := 98) (q := 96) c1 (by decide) rfl (by decide +kernel) ?_ ?_
  · exact fun g9 => (h1 g9)
  · exact fun g9 => (PW_sub (ls' := []) trivial (h2 g9))
theorem S_X10_readPerson_96 {X : CX} {d : Nat} {I R : PF} {Q : PV → PF → PF → Prop} (h : Q (0, 0) I R) : PN X d mX10_readPerson 96 [] [] I R Q := by
  refine P_iconst (n := 0) (q := 97) rfl (by decide +kernel) ?_
  refine P_zret rfl (Or.inl rfl) (by decide +kernel) h
theorem S_X10_readPerson_98 {X : CX} {d : Nat} {x1 x3 x4 x5 x6 x7 : Int} {I R : PF} {Q : PV → PF → PF → Prop} (h : PN X d mX10_readPerson 101 [(2, 64), (0, x1), (9, 0), (0, x3), (0, x4), (0, x5), (0, x6), (0, x7), (0, 0)] [] I R Q) : PN X d mX10_readPerson 98 [(2, 64), (0, x1), (9, 0), (0, x3), (0, x4), (0, x5), (0, x6), (0, x7)] [] I R Q := by
  refine P_iconst (n := 0) (q := 99) rfl (by decide +kernel) ?_
  refine P_istore (n := 8) (by decide) (q := 101) rfl (by decide +kernel) ?_
  exact h
theorem S_X10_readPerson_101 {X : CX} {d : Nat} {x1 x3 x4 x5 x6 x7 x8 : Int} {I R : PF} {Q : PV → PF → PF → Prop} (c1 : -2147483648 ≤ x8 ∧ x8 < 2147483648) (c2 : -2147483648 ≤ x1 ∧ x1 < 2147483648) (h1 : x1 ≤ x8 → PN X d mX10_readPerson 130 [(2, 64), (0, x1), (9, 0), (0, x3), (0, x4), (0, x5), (0, x6), (0, x7)] [] I R Q) (h2 : x8 < x1 → PN X d mX10_readPerson 107 [(2, 64), (0, x1), (9, 0), (0, x3), (0, x4), (0, x5), (0, x6), (0, x7), (0, x8)] [] I R Q) : PN X d mX10_readPerson 101 [(2, 64), (0, x1), (9, 0), (0, x3), (0, x4), (0, x5), (0, x6), (0, x7), (0, x8)] [] I R Q := by
  refine P_iload (n := 8) (q := 103) rfl rfl (by decide +kernel) ?_
  refine P_iload_n (n := 1) (q := 104) rfl rfl (by decide +kernel) ?_
  refine B_icmp_ge (off := 26) (t := 130) (q := 107) c1 c2 (by decide) rfl (by decide +kernel) ?_ ?_
  · exact fun g9 => (PW_sub (ls' := [(2, 64), (0, x1), (9, 0), (0, x3), (0, x4), (0, x5), (0, x6), (0, x7)]) ⟨Or.inr rfl, Or.inr rfl, Or.inl rfl, Or.inr rfl, Or.inr rfl, Or.inr rfl, Or.inr rfl, Or.inr rfl, trivial⟩ (h1 g9))
  · exact fun g9 => (h2 g9)
theorem S_X10_readPerson_107 {X : CX} {d d1 : Nat} {x1 x3 x4 x5 x6 x7 x8 : Int} {I R : PF} {Q Q1 : PV → PF → PF → Prop} (hs : Shp R) (e1 : d1 + 1 ≤ d) (hc : CN X d1 mX8_standsAt [(2, 119), (0, x8), (0, x3), (0, x4)] I R Q1) (h : ∀ z I2 R2, Q1 (0, z) I2 R2 → PN X d mX10_readPerson 119 [(2, 64), (0, x1), (9, 0), (0, x3), (0, x4), (0, x5), (0, x6), (0, x7), (0, x8)] [(0, z)] I2 R2 Q) : PN X d mX10_readPerson 107 [(2, 64), (0, x1), (9, 0), (0, x3), (0, x4), (0, x5), (0, x6), (0, x7), (0, x8)] [] I R Q := by
  refine P_aload_n (n := 0) (q := 108) rfl rfl (by decide +kernel) ?_
  refine B_getfR (q := 111) fX10_77 kM64 (rM64_12 hs) rfl (by decide +kernel) ?_
  refine P_iload (n := 8) (q := 113) rfl rfl (by decide +kernel) ?_
  refine P_iload_n (n := 3) (q := 114) rfl rfl (by decide +kernel) ?_
  refine P_iload (n := 4) (q := 116) rfl rfl (by decide +kernel) ?_
  refine P_invV (As := [(0, x8), (0, x3), (0, x4)]) (q := 119) oX8_standsAt rfl kM119 kX10_393 e1 hMF (Nat.le_of_ble_eq_true rfl) hc rfl (by decide +kernel) (fun z I2 R2 hq => ?_)
  exact (h z I2 R2 hq)
theorem S_X10_readPerson_119 {X : CX} {d : Nat} {x1 x3 x4 x5 x6 x7 x8 o0 : Int} {I R : PF} {Q : PV → PF → PF → Prop} (c1 : -2147483648 ≤ o0 ∧ o0 < 2147483648) (h1 : o0 = 0 → PN X d mX10_readPerson 124 [(2, 64), (0, x1), (9, 0), (0, x3), (0, x4), (0, x5), (0, x6), (0, x7), (0, x8)] [] I R Q) (h2 : o0 ≠ 0 → PN X d mX10_readPerson 122 [] [] I R Q) : PN X d mX10_readPerson 119 [(2, 64), (0, x1), (9, 0), (0, x3), (0, x4), (0, x5), (0, x6), (0, x7), (0, x8)] [(0, o0)] I R Q := by
  refine B_if_eq (off := 5) (t := 124) (q := 122) c1 (by decide) rfl (by decide +kernel) ?_ ?_
  · exact fun g9 => (h1 g9)
  · exact fun g9 => (PW_sub (ls' := []) trivial (h2 g9))
theorem S_X10_readPerson_122 {X : CX} {d : Nat} {I R : PF} {Q : PV → PF → PF → Prop} (h : Q (0, 0) I R) : PN X d mX10_readPerson 122 [] [] I R Q := by
  refine P_iconst (n := 0) (q := 123) rfl (by decide +kernel) ?_
  refine P_zret rfl (Or.inl rfl) (by decide +kernel) h
theorem S_X10_readPerson_124 {X : CX} {d : Nat} {x1 x3 x4 x5 x6 x7 x8 : Int} {I R : PF} {Q : PV → PF → PF → Prop} (h : PN X d mX10_readPerson 101 [(2, 64), (0, x1), (9, 0), (0, x3), (0, x4), (0, x5), (0, x6), (0, x7), (0, (x8 + 1))] [] I R Q) : PN X d mX10_readPerson 124 [(2, 64), (0, x1), (9, 0), (0, x3), (0, x4), (0, x5), (0, x6), (0, x7), (0, x8)] [] I R Q := by
  refine P_iinc (n := 8) (a := 1) (by decide) rfl (q := 127) rfl (by decide +kernel) ?_
  refine P_goto (off := (-26)) (t := 101) (by decide) (by decide +kernel) ?_
  exact h
theorem S_X10_readPerson_130 {X : CX} {d d1 : Nat} {x1 x3 x4 x5 x6 x7 : Int} {I R : PF} {Q Q1 : PV → PF → PF → Prop} (hs : Shp R) (e1 : d1 + 1 ≤ d) (hc : CN X d1 mX8_put [(2, 119), (0, x1), (0, x3), (0, x4)] I R Q1) (h : ∀ z I2 R2, Q1 (9, z) I2 R2 → PN X d mX10_readPerson 141 [(2, 64), (0, x1), (9, 0), (9, 0), (9, 0), (0, x5), (0, x6), (0, x7)] [] I2 R2 Q) : PN X d mX10_readPerson 130 [(2, 64), (0, x1), (9, 0), (0, x3), (0, x4), (0, x5), (0, x6), (0, x7)] [] I R Q := by
  refine P_aload_n (n := 0) (q := 131) rfl rfl (by decide +kernel) ?_
  refine B_getfR (q := 134) fX10_77 kM64 (rM64_12 hs) rfl (by decide +kernel) ?_
  refine P_iload_n (n := 1) (q := 135) rfl rfl (by decide +kernel) ?_
  refine P_iload_n (n := 3) (q := 136) rfl rfl (by decide +kernel) ?_
  refine P_iload (n := 4) (q := 138) rfl rfl (by decide +kernel) ?_
  refine P_invV (As := [(0, x1), (0, x3), (0, x4)]) (q := 141) oX8_put rfl kM119 kX10_251 e1 hMF (Nat.le_of_ble_eq_true rfl) hc rfl (by decide +kernel) (fun z I2 R2 hq => ?_)
  exact (PW_sub (ls' := [(2, 64), (0, x1), (9, 0), (9, 0), (9, 0), (0, x5), (0, x6), (0, x7)]) ⟨Or.inr rfl, Or.inr rfl, Or.inl rfl, Or.inl rfl, Or.inl rfl, Or.inr rfl, Or.inr rfl, Or.inr rfl, trivial⟩ (h z I2 R2 hq))
theorem S_X10_readPerson_141 {X : CX} {d : Nat} {x1 x5 x6 x7 : Int} {I R : PF} {Q : PV → PF → PF → Prop} (hs : Shp R) (b1 : (0 : Int) ≤ x1 ∧ x1 < 6) (c1 : -2147483648 ≤ x7 ∧ x7 < 2147483648) (h1 : 999 < x7 → PN X d mX10_readPerson 194 [] [] (u2 (u2 (u2 I (119 + 2 + x1) 5 x5) (119 + 2 + x1) 6 x6) (119 + 2 + x1) 7 x7) R Q) (h2 : x7 ≤ 999 → PN X d mX10_readPerson 190 [] [] (u2 (u2 (u2 I (119 + 2 + x1) 5 x5) (119 + 2 + x1) 6 x6) (119 + 2 + x1) 7 x7) R Q) : PN X d mX10_readPerson 141 [(2, 64), (0, x1), (9, 0), (9, 0), (9, 0), (0, x5), (0, x6), (0, x7)] [] I R Q := by
  refine P_aload_n (n := 0) (q := 142) rfl rfl (by decide +kernel) ?_
  refine B_getfR (q := 145) fX10_77 kM64 (rM64_12 hs) rfl (by decide +kernel) ?_
  refine B_getfR (q := 148) fX10_191 kM119 (show R 119 4 = 120 from sh8_4 hs kM119) rfl (by decide +kernel) ?_
  refine P_iload_n (n := 1) (q := 149) rfl rfl (by decide +kernel) ?_
  refine B_aaloadI (q := 150) kM120 nM120 (by decide) b1 (sh8_r hs kM119 b1.1 b1.2) rfl (by decide +kernel) ?_
  refine P_iconst (n := 5) (q := 151) rfl (by decide +kernel) ?_
  refine P_iload (n := 5) (q := 153) rfl rfl (by decide +kernel) ?_
  refine B_iastore (q := 154) (stR kM119 b1.1 b1.2).1 (stR kM119 b1.1 b1.2).2 (by decide) ⟨by decide, by decide⟩ rfl (by decide +kernel) ?_
  refine P_aload_n (n := 0) (q := 155) rfl rfl (by decide +kernel) ?_
  refine B_getfR (q := 158) fX10_77 kM64 (rM64_12 hs) rfl (by decide +kernel) ?_
  refine B_getfR (q := 161) fX10_191 kM119 (show R 119 4 = 120 from sh8_4 hs kM119) rfl (by decide +kernel) ?_
  refine P_iload_n (n := 1) (q := 162) rfl rfl (by decide +kernel) ?_
  refine B_aaloadI (q := 163) kM120 nM120 (by decide) b1 (sh8_r hs kM119 b1.1 b1.2) rfl (by decide +kernel) ?_
  refine P_bipush (n := 6) (q := 165) rfl rfl (by decide +kernel) ?_
  refine P_iload (n := 6) (q := 167) rfl rfl (by decide +kernel) ?_
  refine B_iastore (q := 168) (stR kM119 b1.1 b1.2).1 (stR kM119 b1.1 b1.2).2 (by decide) ⟨by decide, by decide⟩ rfl (by decide +kernel) ?_
  refine P_aload_n (n := 0) (q := 169) rfl rfl (by decide +kernel) ?_
  refine B_getfR (q := 172) fX10_77 kM64 (rM64_12 hs) rfl (by decide +kernel) ?_
  refine B_getfR (q := 175) fX10_191 kM119 (show R 119 4 = 120 from sh8_4 hs kM119) rfl (by decide +kernel) ?_
  refine P_iload_n (n := 1) (q := 176) rfl rfl (by decide +kernel) ?_
  refine B_aaloadI (q := 177) kM120 nM120 (by decide) b1 (sh8_r hs kM119 b1.1 b1.2) rfl (by decide +kernel) ?_
  refine P_bipush (n := 7) (q := 179) rfl rfl (by decide +kernel) ?_
  refine P_iload (n := 7) (q := 181) rfl rfl (by decide +kernel) ?_
  refine B_iastore (q := 182) (stR kM119 b1.1 b1.2).1 (stR kM119 b1.1 b1.2).2 (by decide) ⟨by decide, by decide⟩ rfl (by decide +kernel) ?_
  refine P_iload (n := 7) (q := 184) rfl rfl (by decide +kernel) ?_
  refine P_sipush (n := 999) (q := 187) rfl rfl (by decide +kernel) ?_
  refine B_icmp_gt (off := 7) (t := 194) (q := 190) c1 ⟨by decide, by decide⟩ (by decide) rfl (by decide +kernel) ?_ ?_
  · exact fun g9 => (PW_sub (ls' := []) trivial (h1 g9))
  · exact fun g9 => (PW_sub (ls' := []) trivial (h2 g9))
theorem S_X10_readPerson_190 {X : CX} {d : Nat} {I R : PF} {Q : PV → PF → PF → Prop} (h : PN X d mX10_readPerson 195 [] [(0, 1)] I R Q) : PN X d mX10_readPerson 190 [] [] I R Q := by
  refine P_iconst (n := 1) (q := 191) rfl (by decide +kernel) ?_
  refine P_goto (off := 4) (t := 195) (by decide) (by decide +kernel) ?_
  exact (PW_sub (ls' := []) trivial h)
theorem S_X10_readPerson_194 {X : CX} {d : Nat} {I R : PF} {Q : PV → PF → PF → Prop} (h : PN X d mX10_readPerson 195 [] [(0, 0)] I R Q) : PN X d mX10_readPerson 194 [] [] I R Q := by
  refine P_iconst (n := 0) (q := 195) rfl (by decide +kernel) ?_
  exact (PW_sub (ls' := []) trivial h)
theorem S_X10_readPerson_195 {X : CX} {d : Nat} {o0 : Int} {I R : PF} {Q : PV → PF → PF → Prop} (z1 : o0 = 0 ∨ o0 = 1) (h : Q (0, o0) I R) : PN X d mX10_readPerson 195 [] [(0, o0)] I R Q := by
  refine P_zret rfl z1 (by decide +kernel) h
theorem S_X10_sealOf_0 {X : CX} {d : Nat} {a0 x1 : Int} {I R : PF} {Q : PV → PF → PF → Prop} (h : PN X d mX10_sealOf 5 [(2, a0), (0, x1), (0, 47), (0, 0)] [] I R Q) : PN X d mX10_sealOf 0 [(2, a0), (0, x1)] [] I R Q := by
  refine P_bipush (n := 47) (q := 2) rfl rfl (by decide +kernel) ?_
  refine P_istore_n (n := 2) (by decide) (q := 3) rfl (by decide +kernel) ?_
  refine P_iconst (n := 0) (q := 4) rfl (by decide +kernel) ?_
  refine P_istore_n (n := 3) (by decide) (q := 5) rfl (by decide +kernel) ?_
  exact h
theorem S_X10_sealOf_5 {X : CX} {d : Nat} {a0 x1 x2 x3 : Int} {I R : PF} {Q : PV → PF → PF → Prop} (c1 : -2147483648 ≤ x3 ∧ x3 < 2147483648) (c2 : -2147483648 ≤ x1 ∧ x1 < 2147483648) (h1 : x1 ≤ x3 → PN X d mX10_sealOf 34 [(9, 0), (9, 0), (0, x2)] [] I R Q) (h2 : x3 < x1 → PN X d mX10_sealOf 10 [(2, a0), (0, x1), (0, x2), (0, x3)] [] I R Q) : PN X d mX10_sealOf 5 [(2, a0), (0, x1), (0, x2), (0, x3)] [] I R Q := by
  refine P_iload_n (n := 3) (q := 6) rfl rfl (by decide +kernel) ?_
  refine P_iload_n (n := 1) (q := 7) rfl rfl (by decide +kernel) ?_
  refine B_icmp_ge (off := 27) (t := 34) (q := 10) c1 c2 (by decide) rfl (by decide +kernel) ?_ ?_
  · exact fun g9 => (PW_sub (ls' := [(9, 0), (9, 0), (0, x2)]) ⟨Or.inl rfl, Or.inl rfl, Or.inr rfl, trivial⟩ (h1 g9))
  · exact fun g9 => (h2 g9)
theorem S_X10_sealOf_10 {X : CX} {d : Nat} {a0 x1 x2 x3 : Int} {I R : PF} {Q : PV → PF → PF → Prop} (k1 : kd MF a0 = 12) (n1 : (ln MF a0 : Int) < 2147483648) (c1 : -2147483648 ≤ x3 ∧ x3 < 2147483648) (c2 : -2147483648 ≤ (ln MF a0 : Int) ∧ (ln MF a0 : Int) < 2147483648) (h1 : (ln MF a0 : Int) ≤ x3 → PN X d mX10_sealOf 34 [(9, 0), (9, 0), (0, x2)] [] I R Q) (h2 : x3 < (ln MF a0 : Int) → PN X d mX10_sealOf 16 [(2, a0), (0, x1), (0, x2), (0, x3)] [] I R Q) : PN X d mX10_sealOf 10 [(2, a0), (0, x1), (0, x2), (0, x3)] [] I R Q := by
  refine P_iload_n (n := 3) (q := 11) rfl rfl (by decide +kernel) ?_
  refine P_aload_n (n := 0) (q := 12) rfl rfl (by decide +kernel) ?_
  refine B_alen (q := 13) k1 rfl (by decide) n1 rfl (by decide +kernel) ?_
  refine B_icmp_ge (off := 21) (t := 34) (q := 16) c1 c2 (by decide) rfl (by decide +kernel) ?_ ?_
  · exact fun g9 => (PW_sub (ls' := [(9, 0), (9, 0), (0, x2)]) ⟨Or.inl rfl, Or.inl rfl, Or.inr rfl, trivial⟩ (h1 g9))
  · exact fun g9 => (h2 g9)
theorem S_X10_sealOf_16 {X : CX} {d : Nat} {a0 x1 x2 x3 : Int} {I R : PF} {Q : PV → PF → PF → Prop} (k1 : kd MF a0 = 12) (b1 : (0 : Int) ≤ x3 ∧ x3 < (ln MF a0 : Int)) (n1 : (ln MF a0 : Int) < 2147483648) (c1 : -2147483648 ≤ ((3 * x2) + (I a0 x3)) ∧ ((3 * x2) + (I a0 x3)) < 2147483648) (h : PN X d mX10_sealOf 5 [(2, a0), (0, x1), (0, (((3 * x2) + (I a0 x3)).tmod 251)), (0, (x3 + 1))] [] I R Q) : PN X d mX10_sealOf 16 [(2, a0), (0, x1), (0, x2), (0, x3)] [] I R Q := by
  refine P_iconst (n := 3) (q := 17) rfl (by decide +kernel) ?_
  refine P_iload_n (n := 2) (q := 18) rfl rfl (by decide +kernel) ?_
  refine P_imul (q := 19) rfl (by decide +kernel) ?_
  refine P_aload_n (n := 0) (q := 20) rfl rfl (by decide +kernel) ?_
  refine P_iload_n (n := 3) (q := 21) rfl rfl (by decide +kernel) ?_
  refine B_iaload (q := 22) k1 rfl n1 b1 rfl (by decide +kernel) ?_
  refine P_iadd (q := 23) rfl (by decide +kernel) ?_
  refine P_sipush (n := 251) (q := 26) rfl rfl (by decide +kernel) ?_
  refine B_irem (q := 27) c1 ⟨by decide, by decide⟩ (by decide) rfl (by decide +kernel) ?_
  refine P_istore_n (n := 2) (by decide) (q := 28) rfl (by decide +kernel) ?_
  refine P_iinc (n := 3) (a := 1) (by decide) rfl (q := 31) rfl (by decide +kernel) ?_
  refine P_goto (off := (-26)) (t := 5) (by decide) (by decide +kernel) ?_
  exact h
theorem S_X10_sealOf_34 {X : CX} {d : Nat} {x2 : Int} {I R : PF} {Q : PV → PF → PF → Prop} (h : Q (0, x2) I R) : PN X d mX10_sealOf 34 [(9, 0), (9, 0), (0, x2)] [] I R Q := by
  refine P_iload_n (n := 2) (q := 35) rfl rfl (by decide +kernel) ?_
  refine P_iret rfl (by decide +kernel) h
