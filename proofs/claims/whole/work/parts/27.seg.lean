theorem S_X11_isIn_0 {X : CX} {d : Nat} {y0 y2 y4 : Int} {I R : PF} {Q : PV → PF → PF → Prop} (c1 : -9223372036854775808 ≤ y0 ∧ y0 < 9223372036854775808) (c2 : -9223372036854775808 ≤ y2 ∧ y2 < 9223372036854775808) (h1 : y0 < y2 → PN X d mX11_isIn 17 [] [] I R Q) (h2 : y2 ≤ y0 → PN X d mX11_isIn 6 [(1, y0), (9, 0), (9, 0), (9, 0), (1, y4)] [] I R Q) : PN X d mX11_isIn 0 [(1, y0), (9, 0), (1, y2), (9, 0), (1, y4)] [] I R Q := by
  refine P_lload_n (n := 0) (q := 1) rfl rfl (by decide +kernel) ?_
  refine P_lload_n (n := 2) (q := 2) rfl rfl (by decide +kernel) ?_
  refine B_lif_lt (off := 14) (t := 17) (q1 := 3) (q := 6) c1 c2 rfl (by decide +kernel) (by decide) rfl (by decide +kernel) ?_ ?_
  · exact fun g9 => (PW_sub (ls' := []) trivial (h1 g9))
  · exact fun g9 => (PW_sub (ls' := [(1, y0), (9, 0), (9, 0), (9, 0), (1, y4)]) ⟨Or.inr rfl, Or.inl rfl, Or.inl rfl, Or.inl rfl, Or.inr rfl, trivial⟩ (h2 g9))
theorem S_X11_isIn_6 {X : CX} {d : Nat} {y0 y4 : Int} {I R : PF} {Q : PV → PF → PF → Prop} (c1 : -9223372036854775808 ≤ y0 ∧ y0 < 9223372036854775808) (c2 : -9223372036854775808 ≤ y4 ∧ y4 < 9223372036854775808) (h1 : y4 < y0 → PN X d mX11_isIn 17 [] [] I R Q) (h2 : y0 ≤ y4 → PN X d mX11_isIn 13 [] [] I R Q) : PN X d mX11_isIn 6 [(1, y0), (9, 0), (9, 0), (9, 0), (1, y4)] [] I R Q := by
  refine P_lload_n (n := 0) (q := 7) rfl rfl (by decide +kernel) ?_
  refine P_lload (n := 4) (q := 9) rfl rfl (by decide +kernel) ?_
  refine B_lif_gt (off := 7) (t := 17) (q1 := 10) (q := 13) c1 c2 rfl (by decide +kernel) (by decide) rfl (by decide +kernel) ?_ ?_
  · exact fun g9 => (PW_sub (ls' := []) trivial (h1 g9))
  · exact fun g9 => (PW_sub (ls' := []) trivial (h2 g9))
theorem S_X11_isIn_13 {X : CX} {d : Nat} {I R : PF} {Q : PV → PF → PF → Prop} (h : PN X d mX11_isIn 18 [] [(0, 1)] I R Q) : PN X d mX11_isIn 13 [] [] I R Q := by
  refine P_iconst (n := 1) (q := 14) rfl (by decide +kernel) ?_
  refine P_goto (off := 4) (t := 18) (by decide) (by decide +kernel) ?_
  exact (PW_sub (ls' := []) trivial h)
theorem S_X11_isIn_17 {X : CX} {d : Nat} {I R : PF} {Q : PV → PF → PF → Prop} (h : PN X d mX11_isIn 18 [] [(0, 0)] I R Q) : PN X d mX11_isIn 17 [] [] I R Q := by
  refine P_iconst (n := 0) (q := 18) rfl (by decide +kernel) ?_
  exact (PW_sub (ls' := []) trivial h)
theorem S_X11_isIn_18 {X : CX} {d : Nat} {o0 : Int} {I R : PF} {Q : PV → PF → PF → Prop} (z1 : o0 = 0 ∨ o0 = 1) (h : Q (0, o0) I R) : PN X d mX11_isIn 18 [] [(0, o0)] I R Q := by
  refine P_zret rfl z1 (by decide +kernel) h
theorem S_X11_isInside_0 {X : CX} {d d1 : Nat} {x1 x2 : Int} {I R : PF} {Q Q1 : PV → PF → PF → Prop} (hs : Shp R) (c1 : -2147483648 ≤ x1 ∧ x1 < 2147483648) (c2 : -2147483648 ≤ ((I 341 5) - 1) ∧ ((I 341 5) - 1) < 2147483648) (e1 : d1 + 1 ≤ d) (hc : CN X d1 mX11_isIn [(1, x1), (1, 0), (1, ((I 341 5) - 1))] I R Q1) (h : ∀ z I2 R2, Q1 (0, z) I2 R2 → PN X d mX11_isInside 15 [(2, 306), (9, 0), (0, x2)] [(0, z)] I2 R2 Q) : PN X d mX11_isInside 0 [(2, 306), (0, x1), (0, x2)] [] I R Q := by
  refine P_iload_n (n := 1) (q := 1) rfl rfl (by decide +kernel) ?_
  refine B_i2l (q := 2) c1 rfl (by decide +kernel) ?_
  refine P_lconst (n := 0) (x := 0) (q := 3) rfl rfl (by decide +kernel) ?_
  refine P_aload_n (n := 0) (q := 4) rfl rfl (by decide +kernel) ?_
  refine B_getfR (q := 7) fX11_185 kM306 (rM306_44 hs) rfl (by decide +kernel) ?_
  refine P_iconst (n := 5) (q := 8) rfl (by decide +kernel) ?_
  refine B_iaload (q := 9) kM341 nM341 (by decide) ⟨by decide, by decide⟩ rfl (by decide +kernel) ?_
  refine P_iconst (n := 1) (q := 10) rfl (by decide +kernel) ?_
  refine P_isub (q := 11) rfl (by decide +kernel) ?_
  refine B_i2l (q := 12) c2 rfl (by decide +kernel) ?_
  refine P_invS (As := [(1, x1), (1, 0), (1, ((I 341 5) - 1))]) (q := 15) oX11_isIn rfl (Or.inl kX11_57) e1 hMF (Nat.le_of_ble_eq_true rfl) hc rfl (by decide +kernel) (fun z I2 R2 hq => ?_)
  exact (PW_sub (ls' := [(2, 306), (9, 0), (0, x2)]) ⟨Or.inr rfl, Or.inl rfl, Or.inr rfl, trivial⟩ (h z I2 R2 hq))
theorem S_X11_isInside_15 {X : CX} {d : Nat} {x2 o0 : Int} {I R : PF} {Q : PV → PF → PF → Prop} (c1 : -2147483648 ≤ o0 ∧ o0 < 2147483648) (h1 : o0 = 0 → PN X d mX11_isInside 41 [] [] I R Q) (h2 : o0 ≠ 0 → PN X d mX11_isInside 18 [(2, 306), (9, 0), (0, x2)] [] I R Q) : PN X d mX11_isInside 15 [(2, 306), (9, 0), (0, x2)] [(0, o0)] I R Q := by
  refine B_if_eq (off := 26) (t := 41) (q := 18) c1 (by decide) rfl (by decide +kernel) ?_ ?_
  · exact fun g9 => (PW_sub (ls' := []) trivial (h1 g9))
  · exact fun g9 => (h2 g9)
theorem S_X11_isInside_18 {X : CX} {d d1 : Nat} {x2 : Int} {I R : PF} {Q Q1 : PV → PF → PF → Prop} (hs : Shp R) (c1 : -2147483648 ≤ x2 ∧ x2 < 2147483648) (c2 : -2147483648 ≤ ((I 341 6) - 1) ∧ ((I 341 6) - 1) < 2147483648) (e1 : d1 + 1 ≤ d) (hc : CN X d1 mX11_isIn [(1, x2), (1, 0), (1, ((I 341 6) - 1))] I R Q1) (h : ∀ z I2 R2, Q1 (0, z) I2 R2 → PN X d mX11_isInside 34 [] [(0, z)] I2 R2 Q) : PN X d mX11_isInside 18 [(2, 306), (9, 0), (0, x2)] [] I R Q := by
  refine P_iload_n (n := 2) (q := 19) rfl rfl (by decide +kernel) ?_
  refine B_i2l (q := 20) c1 rfl (by decide +kernel) ?_
  refine P_lconst (n := 0) (x := 0) (q := 21) rfl rfl (by decide +kernel) ?_
  refine P_aload_n (n := 0) (q := 22) rfl rfl (by decide +kernel) ?_
  refine B_getfR (q := 25) fX11_185 kM306 (rM306_44 hs) rfl (by decide +kernel) ?_
  refine P_bipush (n := 6) (q := 27) rfl rfl (by decide +kernel) ?_
  refine B_iaload (q := 28) kM341 nM341 (by decide) ⟨by decide, by decide⟩ rfl (by decide +kernel) ?_
  refine P_iconst (n := 1) (q := 29) rfl (by decide +kernel) ?_
  refine P_isub (q := 30) rfl (by decide +kernel) ?_
  refine B_i2l (q := 31) c2 rfl (by decide +kernel) ?_
  refine P_invS (As := [(1, x2), (1, 0), (1, ((I 341 6) - 1))]) (q := 34) oX11_isIn rfl (Or.inl kX11_57) e1 hMF (Nat.le_of_ble_eq_true rfl) hc rfl (by decide +kernel) (fun z I2 R2 hq => ?_)
  exact (PW_sub (ls' := []) trivial (h z I2 R2 hq))
theorem S_X11_isInside_34 {X : CX} {d : Nat} {o0 : Int} {I R : PF} {Q : PV → PF → PF → Prop} (c1 : -2147483648 ≤ o0 ∧ o0 < 2147483648) (h1 : o0 = 0 → PN X d mX11_isInside 41 [] [] I R Q) (h2 : o0 ≠ 0 → PN X d mX11_isInside 37 [] [] I R Q) : PN X d mX11_isInside 34 [] [(0, o0)] I R Q := by
  refine B_if_eq (off := 7) (t := 41) (q := 37) c1 (by decide) rfl (by decide +kernel) ?_ ?_
  · exact fun g9 => (PW_sub (ls' := []) trivial (h1 g9))
  · exact fun g9 => (PW_sub (ls' := []) trivial (h2 g9))
theorem S_X11_isInside_37 {X : CX} {d : Nat} {I R : PF} {Q : PV → PF → PF → Prop} (h : PN X d mX11_isInside 42 [] [(0, 1)] I R Q) : PN X d mX11_isInside 37 [] [] I R Q := by
  refine P_iconst (n := 1) (q := 38) rfl (by decide +kernel) ?_
  refine P_goto (off := 4) (t := 42) (by decide) (by decide +kernel) ?_
  exact (PW_sub (ls' := []) trivial h)
theorem S_X11_isInside_41 {X : CX} {d : Nat} {I R : PF} {Q : PV → PF → PF → Prop} (h : PN X d mX11_isInside 42 [] [(0, 0)] I R Q) : PN X d mX11_isInside 41 [] [] I R Q := by
  refine P_iconst (n := 0) (q := 42) rfl (by decide +kernel) ?_
  exact (PW_sub (ls' := []) trivial h)
theorem S_X11_isInside_42 {X : CX} {d : Nat} {o0 : Int} {I R : PF} {Q : PV → PF → PF → Prop} (z1 : o0 = 0 ∨ o0 = 1) (h : Q (0, o0) I R) : PN X d mX11_isInside 42 [] [(0, o0)] I R Q := by
  refine P_zret rfl z1 (by decide +kernel) h
theorem S_X11_isKept_0 {X : CX} {d : Nat} {I R : PF} {Q : PV → PF → PF → Prop} (hs : Shp R) (c1 : -2147483648 ≤ (I 348 33) ∧ (I 348 33) < 2147483648) (h1 : (I 348 33) ≠ 40 → PN X d mX11_isKept 45 [(2, 306)] [] I R Q) (h2 : (I 348 33) = 40 → PN X d mX11_isKept 12 [(2, 306)] [] I R Q) : PN X d mX11_isKept 0 [(2, 306)] [] I R Q := by
  refine P_aload_n (n := 0) (q := 1) rfl rfl (by decide +kernel) ?_
  refine B_getfR (q := 4) fX11_303 kM306 (rM306_59 hs) rfl (by decide +kernel) ?_
  refine P_bipush (n := 33) (q := 6) rfl rfl (by decide +kernel) ?_
  refine B_iaload (q := 7) kM348 nM348 (by decide) ⟨by decide, by decide⟩ rfl (by decide +kernel) ?_
  refine P_bipush (n := 40) (q := 9) rfl rfl (by decide +kernel) ?_
  refine B_icmp_ne (off := 36) (t := 45) (q := 12) c1 ⟨by decide, by decide⟩ (by decide) rfl (by decide +kernel) ?_ ?_
  · exact fun g9 => (h1 g9)
  · exact fun g9 => (h2 g9)
theorem S_X11_isKept_12 {X : CX} {d : Nat} {I R : PF} {Q : PV → PF → PF → Prop} (h : PN X d mX11_isKept 15 [(2, 306), (0, 34)] [] I R Q) : PN X d mX11_isKept 12 [(2, 306)] [] I R Q := by
  refine P_bipush (n := 34) (q := 14) rfl rfl (by decide +kernel) ?_
  refine P_istore_n (n := 1) (by decide) (q := 15) rfl (by decide +kernel) ?_
  exact h
theorem S_X11_isKept_15 {X : CX} {d : Nat} {x1 : Int} {I R : PF} {Q : PV → PF → PF → Prop} (c1 : -2147483648 ≤ x1 ∧ x1 < 2147483648) (h1 : 151 ≤ x1 → PN X d mX11_isKept 42 [(2, 306)] [] I R Q) (h2 : x1 < 151 → PN X d mX11_isKept 22 [(2, 306), (0, x1)] [] I R Q) : PN X d mX11_isKept 15 [(2, 306), (0, x1)] [] I R Q := by
  refine P_iload_n (n := 1) (q := 16) rfl rfl (by decide +kernel) ?_
  refine P_sipush (n := 151) (q := 19) rfl rfl (by decide +kernel) ?_
  refine B_icmp_ge (off := 23) (t := 42) (q := 22) c1 ⟨by decide, by decide⟩ (by decide) rfl (by decide +kernel) ?_ ?_
  · exact fun g9 => (PW_sub (ls' := [(2, 306)]) ⟨Or.inr rfl, trivial⟩ (h1 g9))
  · exact fun g9 => (h2 g9)
theorem S_X11_isKept_22 {X : CX} {d : Nat} {x1 : Int} {I R : PF} {Q : PV → PF → PF → Prop} (hs : Shp R) (b1 : (0 : Int) ≤ (x1 + 3) ∧ (x1 + 3) < 154) (b2 : (0 : Int) ≤ x1 ∧ x1 < 154) (h : PN X d mX11_isKept 15 [(2, 306), (0, (x1 + 1))] [] (u2 I 348 x1 (I 348 (x1 + 3))) R Q) : PN X d mX11_isKept 22 [(2, 306), (0, x1)] [] I R Q := by
  refine P_aload_n (n := 0) (q := 23) rfl rfl (by decide +kernel) ?_
  refine B_getfR (q := 26) fX11_303 kM306 (rM306_59 hs) rfl (by decide +kernel) ?_
  refine P_iload_n (n := 1) (q := 27) rfl rfl (by decide +kernel) ?_
  refine P_aload_n (n := 0) (q := 28) rfl rfl (by decide +kernel) ?_
  refine B_getfR (q := 31) fX11_303 kM306 (rM306_59 hs) rfl (by decide +kernel) ?_
  refine P_iload_n (n := 1) (q := 32) rfl rfl (by decide +kernel) ?_
  refine P_iconst (n := 3) (q := 33) rfl (by decide +kernel) ?_
  refine P_iadd (q := 34) rfl (by decide +kernel) ?_
  refine B_iaload (q := 35) kM348 nM348 (by decide) b1 rfl (by decide +kernel) ?_
  refine B_iastore (q := 36) kM348 nM348 (by decide) b2 rfl (by decide +kernel) ?_
  refine P_iinc (n := 1) (a := 1) (by decide) rfl (q := 39) rfl (by decide +kernel) ?_
  refine P_goto (off := (-24)) (t := 15) (by decide) (by decide +kernel) ?_
  exact h
theorem S_X11_isKept_42 {X : CX} {d : Nat} {I R : PF} {Q : PV → PF → PF → Prop} (h : PN X d mX11_isKept 56 [(2, 306)] [] I R Q) : PN X d mX11_isKept 42 [(2, 306)] [] I R Q := by
  refine P_goto (off := 14) (t := 56) (by decide) (by decide +kernel) ?_
  exact (PW_sub (ls' := [(2, 306)]) ⟨Or.inr rfl, trivial⟩ h)
theorem S_X11_isKept_45 {X : CX} {d : Nat} {I R : PF} {Q : PV → PF → PF → Prop} (hs : Shp R) (h : PN X d mX11_isKept 56 [(2, 306)] [] (u2 I 348 33 ((I 348 33) + 1)) R Q) : PN X d mX11_isKept 45 [(2, 306)] [] I R Q := by
  refine P_aload_n (n := 0) (q := 46) rfl rfl (by decide +kernel) ?_
  refine B_getfR (q := 49) fX11_303 kM306 (rM306_59 hs) rfl (by decide +kernel) ?_
  refine P_bipush (n := 33) (q := 51) rfl rfl (by decide +kernel) ?_
  refine P_dup2 (q := 52) (Nat.ne_of_beq_eq_false rfl) (Nat.ne_of_beq_eq_false rfl) rfl (by decide +kernel) ?_
  refine B_iaload (q := 53) kM348 nM348 (by decide) ⟨by decide, by decide⟩ rfl (by decide +kernel) ?_
  refine P_iconst (n := 1) (q := 54) rfl (by decide +kernel) ?_
  refine P_iadd (q := 55) rfl (by decide +kernel) ?_
  refine B_iastore (q := 56) kM348 nM348 (by decide) ⟨by decide, by decide⟩ rfl (by decide +kernel) ?_
  exact h
theorem S_X11_isKept_56 {X : CX} {d : Nat} {I R : PF} {Q : PV → PF → PF → Prop} (hs : Shp R) (b1 : (0 : Int) ≤ ((34 + (3 * (I 348 33))) - 3) ∧ ((34 + (3 * (I 348 33))) - 3) < 154) (c1 : -2147483648 ≤ ((u2 I 348 ((34 + (3 * (I 348 33))) - 3) (I 348 0)) 348 1) ∧ ((u2 I 348 ((34 + (3 * (I 348 33))) - 3) (I 348 0)) 348 1) < 2147483648) (h1 : ((u2 I 348 ((34 + (3 * (I 348 33))) - 3) (I 348 0)) 348 1) ≠ (-1) → PN X d mX11_isKept 106 [(2, 306), (0, ((34 + (3 * (I 348 33))) - 3))] [(0, (((34 + (3 * (I 348 33))) - 3) + 1)), (2, 348)] (u2 I 348 ((34 + (3 * (I 348 33))) - 3) (I 348 0)) R Q) (h2 : ((u2 I 348 ((34 + (3 * (I 348 33))) - 3) (I 348 0)) 348 1) = (-1) → PN X d mX11_isKept 100 [(2, 306), (0, ((34 + (3 * (I 348 33))) - 3))] [(0, (((34 + (3 * (I 348 33))) - 3) + 1)), (2, 348)] (u2 I 348 ((34 + (3 * (I 348 33))) - 3) (I 348 0)) R Q) : PN X d mX11_isKept 56 [(2, 306)] [] I R Q := by
  refine P_bipush (n := 34) (q := 58) rfl rfl (by decide +kernel) ?_
  refine P_iconst (n := 3) (q := 59) rfl (by decide +kernel) ?_
  refine P_aload_n (n := 0) (q := 60) rfl rfl (by decide +kernel) ?_
  refine B_getfR (q := 63) fX11_303 kM306 (rM306_59 hs) rfl (by decide +kernel) ?_
  refine P_bipush (n := 33) (q := 65) rfl rfl (by decide +kernel) ?_
  refine B_iaload (q := 66) kM348 nM348 (by decide) ⟨by decide, by decide⟩ rfl (by decide +kernel) ?_
  refine P_imul (q := 67) rfl (by decide +kernel) ?_
  refine P_iadd (q := 68) rfl (by decide +kernel) ?_
  refine P_iconst (n := 3) (q := 69) rfl (by decide +kernel) ?_
  refine P_isub (q := 70) rfl (by decide +kernel) ?_
  refine P_istore_n (n := 1) (by decide) (q := 71) rfl (by decide +kernel) ?_
  refine P_aload_n (n := 0) (q := 72) rfl rfl (by decide +kernel) ?_
  refine B_getfR (q := 75) fX11_303 kM306 (rM306_59 hs) rfl (by decide +kernel) ?_
  refine P_iload_n (n := 1) (q := 76) rfl rfl (by decide +kernel) ?_
  refine P_aload_n (n := 0) (q := 77) rfl rfl (by decide +kernel) ?_
  refine B_getfR (q := 80) fX11_303 kM306 (rM306_59 hs) rfl (by decide +kernel) ?_
  refine P_iconst (n := 0) (q := 81) rfl (by decide +kernel) ?_
  refine B_iaload (q := 82) kM348 nM348 (by decide) ⟨by decide, by decide⟩ rfl (by decide +kernel) ?_
  refine B_iastore (q := 83) kM348 nM348 (by decide) b1 rfl (by decide +kernel) ?_
  refine P_aload_n (n := 0) (q := 84) rfl rfl (by decide +kernel) ?_
  refine B_getfR (q := 87) fX11_303 kM306 (rM306_59 hs) rfl (by decide +kernel) ?_
  refine P_iload_n (n := 1) (q := 88) rfl rfl (by decide +kernel) ?_
  refine P_iconst (n := 1) (q := 89) rfl (by decide +kernel) ?_
  refine P_iadd (q := 90) rfl (by decide +kernel) ?_
  refine P_aload_n (n := 0) (q := 91) rfl rfl (by decide +kernel) ?_
  refine B_getfR (q := 94) fX11_303 kM306 (rM306_59 hs) rfl (by decide +kernel) ?_
  refine P_iconst (n := 1) (q := 95) rfl (by decide +kernel) ?_
  refine B_iaload (q := 96) kM348 nM348 (by decide) ⟨by decide, by decide⟩ rfl (by decide +kernel) ?_
  refine P_iconst (n := (-1)) (q := 97) rfl (by decide +kernel) ?_
  refine B_icmp_ne (off := 9) (t := 106) (q := 100) c1 ⟨by decide, by decide⟩ (by decide) rfl (by decide +kernel) ?_ ?_
  · exact fun g9 => (h1 g9)
  · exact fun g9 => (h2 g9)
theorem S_X11_isKept_100 {X : CX} {d : Nat} {x1 o1 : Int} {I R : PF} {Q : PV → PF → PF → Prop} (h : PN X d mX11_isKept 112 [(2, 306), (0, x1)] [(0, 255), (0, o1), (2, 348)] I R Q) : PN X d mX11_isKept 100 [(2, 306), (0, x1)] [(0, o1), (2, 348)] I R Q := by
  refine P_sipush (n := 255) (q := 103) rfl rfl (by decide +kernel) ?_
  refine P_goto (off := 9) (t := 112) (by decide) (by decide +kernel) ?_
  exact h
theorem S_X11_isKept_106 {X : CX} {d : Nat} {x1 o1 : Int} {I R : PF} {Q : PV → PF → PF → Prop} (hs : Shp R) (h : PN X d mX11_isKept 112 [(2, 306), (0, x1)] [(0, (I 348 1)), (0, o1), (2, 348)] I R Q) : PN X d mX11_isKept 106 [(2, 306), (0, x1)] [(0, o1), (2, 348)] I R Q := by
  refine P_aload_n (n := 0) (q := 107) rfl rfl (by decide +kernel) ?_
  refine B_getfR (q := 110) fX11_303 kM306 (rM306_59 hs) rfl (by decide +kernel) ?_
  refine P_iconst (n := 1) (q := 111) rfl (by decide +kernel) ?_
  refine B_iaload (q := 112) kM348 nM348 (by decide) ⟨by decide, by decide⟩ rfl (by decide +kernel) ?_
  exact h
theorem S_X11_isKept_112 {X : CX} {d : Nat} {x1 o1 o2 : Int} {I R : PF} {Q : PV → PF → PF → Prop} (hs : Shp R) (b1 : (0 : Int) ≤ o1 ∧ o1 < 154) (b2 : (0 : Int) ≤ (x1 + 2) ∧ (x1 + 2) < 154) (h : Q (9, 0) (u2 (u2 I 348 o1 o2) 348 (x1 + 2) ((u2 I 348 o1 o2) 306 70)) R) : PN X d mX11_isKept 112 [(2, 306), (0, x1)] [(0, o2), (0, o1), (2, 348)] I R Q := by
  refine B_iastore (q := 113) kM348 nM348 (by decide) b1 rfl (by decide +kernel) ?_
  refine P_aload_n (n := 0) (q := 114) rfl rfl (by decide +kernel) ?_
  refine B_getfR (q := 117) fX11_303 kM306 (rM306_59 hs) rfl (by decide +kernel) ?_
  refine P_iload_n (n := 1) (q := 118) rfl rfl (by decide +kernel) ?_
  refine P_iconst (n := 2) (q := 119) rfl (by decide +kernel) ?_
  refine P_iadd (q := 120) rfl (by decide +kernel) ?_
  refine P_aload_n (n := 0) (q := 121) rfl rfl (by decide +kernel) ?_
  refine P_getf (q := 124) fX11_488 kM306 rfl (by decide +kernel) ?_
  refine B_iastore (q := 125) kM348 nM348 (by decide) b2 rfl (by decide +kernel) ?_
  refine P_vret rfl (by decide +kernel) h
theorem S_X11_isLetter_0 {X : CX} {d : Nat} {x0 : Int} {I R : PF} {Q : PV → PF → PF → Prop} (c1 : -2147483648 ≤ x0 ∧ x0 < 2147483648) (h1 : x0 < 97 → PN X d mX11_isLetter 16 [] [] I R Q) (h2 : 97 ≤ x0 → PN X d mX11_isLetter 6 [(0, x0)] [] I R Q) : PN X d mX11_isLetter 0 [(0, x0)] [] I R Q := by
  refine P_iload_n (n := 0) (q := 1) rfl rfl (by decide +kernel) ?_
  refine P_bipush (n := 97) (q := 3) rfl rfl (by decide +kernel) ?_
  refine B_icmp_lt (off := 13) (t := 16) (q := 6) c1 ⟨by decide, by decide⟩ (by decide) rfl (by decide +kernel) ?_ ?_
  · exact fun g9 => (PW_sub (ls' := []) trivial (h1 g9))
  · exact fun g9 => (h2 g9)
theorem S_X11_isLetter_6 {X : CX} {d : Nat} {x0 : Int} {I R : PF} {Q : PV → PF → PF → Prop} (c1 : -2147483648 ≤ x0 ∧ x0 < 2147483648) (h1 : 122 < x0 → PN X d mX11_isLetter 16 [] [] I R Q) (h2 : x0 ≤ 122 → PN X d mX11_isLetter 12 [] [] I R Q) : PN X d mX11_isLetter 6 [(0, x0)] [] I R Q := by
  refine P_iload_n (n := 0) (q := 7) rfl rfl (by decide +kernel) ?_
  refine P_bipush (n := 122) (q := 9) rfl rfl (by decide +kernel) ?_
  refine B_icmp_gt (off := 7) (t := 16) (q := 12) c1 ⟨by decide, by decide⟩ (by decide) rfl (by decide +kernel) ?_ ?_
  · exact fun g9 => (PW_sub (ls' := []) trivial (h1 g9))
  · exact fun g9 => (PW_sub (ls' := []) trivial (h2 g9))
theorem S_X11_isLetter_12 {X : CX} {d : Nat} {I R : PF} {Q : PV → PF → PF → Prop} (h : PN X d mX11_isLetter 17 [] [(0, 1)] I R Q) : PN X d mX11_isLetter 12 [] [] I R Q := by
  refine P_iconst (n := 1) (q := 13) rfl (by decide +kernel) ?_
  refine P_goto (off := 4) (t := 17) (by decide) (by decide +kernel) ?_
  exact (PW_sub (ls' := []) trivial h)
theorem S_X11_isLetter_16 {X : CX} {d : Nat} {I R : PF} {Q : PV → PF → PF → Prop} (h : PN X d mX11_isLetter 17 [] [(0, 0)] I R Q) : PN X d mX11_isLetter 16 [] [] I R Q := by
  refine P_iconst (n := 0) (q := 17) rfl (by decide +kernel) ?_
  exact (PW_sub (ls' := []) trivial h)
theorem S_X11_isLetter_17 {X : CX} {d : Nat} {o0 : Int} {I R : PF} {Q : PV → PF → PF → Prop} (z1 : o0 = 0 ∨ o0 = 1) (h : Q (0, o0) I R) : PN X d mX11_isLetter 17 [] [(0, o0)] I R Q := by
  refine P_zret rfl z1 (by decide +kernel) h
theorem S_X11_isOwnHere_0 {X : CX} {d d1 : Nat} {I R : PF} {Q Q1 : PV → PF → PF → Prop} (hs : Shp R) (e1 : d1 + 1 ≤ d) (hc : CN X d1 mX11_isHere [(2, 306), (2, 309)] I R Q1) (h : ∀ z I2 R2, Q1 (0, z) I2 R2 → PN X d mX11_isOwnHere 8 [(2, 306)] [(0, z)] I2 R2 Q) : PN X d mX11_isOwnHere 0 [(2, 306)] [] I R Q := by
  refine P_aload_n (n := 0) (q := 1) rfl rfl (by decide +kernel) ?_
  refine P_aload_n (n := 0) (q := 2) rfl rfl (by decide +kernel) ?_
  refine B_getfR (q := 5) fX11_61 kM306 (rM306_11 hs) rfl (by decide +kernel) ?_
  refine P_invV (As := [(2, 309)]) (q := 8) oX11_isHere rfl kM306 kX11_37 e1 hMF (Nat.le_of_ble_eq_true rfl) hc rfl (by decide +kernel) (fun z I2 R2 hq => ?_)
  exact (h z I2 R2 hq)
theorem S_X11_isOwnHere_8 {X : CX} {d : Nat} {o0 : Int} {I R : PF} {Q : PV → PF → PF → Prop} (c1 : -2147483648 ≤ o0 ∧ o0 < 2147483648) (h1 : o0 ≠ 0 → PN X d mX11_isOwnHere 66 [(2, 306)] [] I R Q) (h2 : o0 = 0 → PN X d mX11_isOwnHere 11 [(2, 306)] [] I R Q) : PN X d mX11_isOwnHere 8 [(2, 306)] [(0, o0)] I R Q := by
  refine B_if_ne (off := 58) (t := 66) (q := 11) c1 (by decide) rfl (by decide +kernel) ?_ ?_
  · exact fun g9 => (h1 g9)
  · exact fun g9 => (h2 g9)
theorem S_X11_isOwnHere_11 {X : CX} {d d1 : Nat} {I R : PF} {Q Q1 : PV → PF → PF → Prop} (hs : Shp R) (e1 : d1 + 1 ≤ d) (hc : CN X d1 mX11_isHere [(2, 306), (2, 310)] I R Q1) (h : ∀ z I2 R2, Q1 (0, z) I2 R2 → PN X d mX11_isOwnHere 19 [(2, 306)] [(0, z)] I2 R2 Q) : PN X d mX11_isOwnHere 11 [(2, 306)] [] I R Q := by
  refine P_aload_n (n := 0) (q := 12) rfl rfl (by decide +kernel) ?_
  refine P_aload_n (n := 0) (q := 13) rfl rfl (by decide +kernel) ?_
  refine B_getfR (q := 16) fX11_65 kM306 (rM306_12 hs) rfl (by decide +kernel) ?_
  refine P_invV (As := [(2, 310)]) (q := 19) oX11_isHere rfl kM306 kX11_37 e1 hMF (Nat.le_of_ble_eq_true rfl) hc rfl (by decide +kernel) (fun z I2 R2 hq => ?_)
  exact (h z I2 R2 hq)
theorem S_X11_isOwnHere_19 {X : CX} {d : Nat} {o0 : Int} {I R : PF} {Q : PV → PF → PF → Prop} (c1 : -2147483648 ≤ o0 ∧ o0 < 2147483648) (h1 : o0 ≠ 0 → PN X d mX11_isOwnHere 66 [(2, 306)] [] I R Q) (h2 : o0 = 0 → PN X d mX11_isOwnHere 22 [(2, 306)] [] I R Q) : PN X d mX11_isOwnHere 19 [(2, 306)] [(0, o0)] I R Q := by
  refine B_if_ne (off := 47) (t := 66) (q := 22) c1 (by decide) rfl (by decide +kernel) ?_ ?_
  · exact fun g9 => (h1 g9)
  · exact fun g9 => (h2 g9)
theorem S_X11_isOwnHere_22 {X : CX} {d d1 : Nat} {I R : PF} {Q Q1 : PV → PF → PF → Prop} (hs : Shp R) (e1 : d1 + 1 ≤ d) (hc : CN X d1 mX11_isHere [(2, 306), (2, 311)] I R Q1) (h : ∀ z I2 R2, Q1 (0, z) I2 R2 → PN X d mX11_isOwnHere 30 [(2, 306)] [(0, z)] I2 R2 Q) : PN X d mX11_isOwnHere 22 [(2, 306)] [] I R Q := by
  refine P_aload_n (n := 0) (q := 23) rfl rfl (by decide +kernel) ?_
  refine P_aload_n (n := 0) (q := 24) rfl rfl (by decide +kernel) ?_
  refine B_getfR (q := 27) fX11_68 kM306 (rM306_13 hs) rfl (by decide +kernel) ?_
  refine P_invV (As := [(2, 311)]) (q := 30) oX11_isHere rfl kM306 kX11_37 e1 hMF (Nat.le_of_ble_eq_true rfl) hc rfl (by decide +kernel) (fun z I2 R2 hq => ?_)
  exact (h z I2 R2 hq)
theorem S_X11_isOwnHere_30 {X : CX} {d : Nat} {o0 : Int} {I R : PF} {Q : PV → PF → PF → Prop} (c1 : -2147483648 ≤ o0 ∧ o0 < 2147483648) (h1 : o0 ≠ 0 → PN X d mX11_isOwnHere 66 [(2, 306)] [] I R Q) (h2 : o0 = 0 → PN X d mX11_isOwnHere 33 [(2, 306)] [] I R Q) : PN X d mX11_isOwnHere 30 [(2, 306)] [(0, o0)] I R Q := by
  refine B_if_ne (off := 36) (t := 66) (q := 33) c1 (by decide) rfl (by decide +kernel) ?_ ?_
  · exact fun g9 => (h1 g9)
  · exact fun g9 => (h2 g9)
theorem S_X11_isOwnHere_33 {X : CX} {d d1 : Nat} {I R : PF} {Q Q1 : PV → PF → PF → Prop} (hs : Shp R) (e1 : d1 + 1 ≤ d) (hc : CN X d1 mX11_isHere [(2, 306), (2, 312)] I R Q1) (h : ∀ z I2 R2, Q1 (0, z) I2 R2 → PN X d mX11_isOwnHere 41 [(2, 306)] [(0, z)] I2 R2 Q) : PN X d mX11_isOwnHere 33 [(2, 306)] [] I R Q := by
  refine P_aload_n (n := 0) (q := 34) rfl rfl (by decide +kernel) ?_
  refine P_aload_n (n := 0) (q := 35) rfl rfl (by decide +kernel) ?_
  refine B_getfR (q := 38) fX11_71 kM306 (rM306_14 hs) rfl (by decide +kernel) ?_
  refine P_invV (As := [(2, 312)]) (q := 41) oX11_isHere rfl kM306 kX11_37 e1 hMF (Nat.le_of_ble_eq_true rfl) hc rfl (by decide +kernel) (fun z I2 R2 hq => ?_)
  exact (h z I2 R2 hq)
theorem S_X11_isOwnHere_41 {X : CX} {d : Nat} {o0 : Int} {I R : PF} {Q : PV → PF → PF → Prop} (c1 : -2147483648 ≤ o0 ∧ o0 < 2147483648) (h1 : o0 ≠ 0 → PN X d mX11_isOwnHere 66 [(2, 306)] [] I R Q) (h2 : o0 = 0 → PN X d mX11_isOwnHere 44 [(2, 306)] [] I R Q) : PN X d mX11_isOwnHere 41 [(2, 306)] [(0, o0)] I R Q := by
  refine B_if_ne (off := 25) (t := 66) (q := 44) c1 (by decide) rfl (by decide +kernel) ?_ ?_
  · exact fun g9 => (h1 g9)
  · exact fun g9 => (h2 g9)
theorem S_X11_isOwnHere_44 {X : CX} {d d1 : Nat} {I R : PF} {Q Q1 : PV → PF → PF → Prop} (hs : Shp R) (e1 : d1 + 1 ≤ d) (hc : CN X d1 mX11_isHere [(2, 306), (2, 313)] I R Q1) (h : ∀ z I2 R2, Q1 (0, z) I2 R2 → PN X d mX11_isOwnHere 52 [(2, 306)] [(0, z)] I2 R2 Q) : PN X d mX11_isOwnHere 44 [(2, 306)] [] I R Q := by
  refine P_aload_n (n := 0) (q := 45) rfl rfl (by decide +kernel) ?_
  refine P_aload_n (n := 0) (q := 46) rfl rfl (by decide +kernel) ?_
  refine B_getfR (q := 49) fX11_74 kM306 (rM306_15 hs) rfl (by decide +kernel) ?_
  refine P_invV (As := [(2, 313)]) (q := 52) oX11_isHere rfl kM306 kX11_37 e1 hMF (Nat.le_of_ble_eq_true rfl) hc rfl (by decide +kernel) (fun z I2 R2 hq => ?_)
  exact (h z I2 R2 hq)
theorem S_X11_isOwnHere_52 {X : CX} {d : Nat} {o0 : Int} {I R : PF} {Q : PV → PF → PF → Prop} (c1 : -2147483648 ≤ o0 ∧ o0 < 2147483648) (h1 : o0 ≠ 0 → PN X d mX11_isOwnHere 66 [(2, 306)] [] I R Q) (h2 : o0 = 0 → PN X d mX11_isOwnHere 55 [(2, 306)] [] I R Q) : PN X d mX11_isOwnHere 52 [(2, 306)] [(0, o0)] I R Q := by
  refine B_if_ne (off := 14) (t := 66) (q := 55) c1 (by decide) rfl (by decide +kernel) ?_ ?_
  · exact fun g9 => (h1 g9)
  · exact fun g9 => (h2 g9)
theorem S_X11_isOwnHere_55 {X : CX} {d d1 : Nat} {I R : PF} {Q Q1 : PV → PF → PF → Prop} (hs : Shp R) (e1 : d1 + 1 ≤ d) (hc : CN X d1 mX11_isHere [(2, 306), (2, 314)] I R Q1) (h : ∀ z I2 R2, Q1 (0, z) I2 R2 → PN X d mX11_isOwnHere 63 [(2, 306)] [(0, z)] I2 R2 Q) : PN X d mX11_isOwnHere 55 [(2, 306)] [] I R Q := by
  refine P_aload_n (n := 0) (q := 56) rfl rfl (by decide +kernel) ?_
  refine P_aload_n (n := 0) (q := 57) rfl rfl (by decide +kernel) ?_
  refine B_getfR (q := 60) fX11_77 kM306 (rM306_16 hs) rfl (by decide +kernel) ?_
  refine P_invV (As := [(2, 314)]) (q := 63) oX11_isHere rfl kM306 kX11_37 e1 hMF (Nat.le_of_ble_eq_true rfl) hc rfl (by decide +kernel) (fun z I2 R2 hq => ?_)
  exact (h z I2 R2 hq)
theorem S_X11_isOwnHere_63 {X : CX} {d : Nat} {o0 : Int} {I R : PF} {Q : PV → PF → PF → Prop} (c1 : -2147483648 ≤ o0 ∧ o0 < 2147483648) (h1 : o0 = 0 → PN X d mX11_isOwnHere 70 [(2, 306)] [] I R Q) (h2 : o0 ≠ 0 → PN X d mX11_isOwnHere 66 [(2, 306)] [] I R Q) : PN X d mX11_isOwnHere 63 [(2, 306)] [(0, o0)] I R Q := by
  refine B_if_eq (off := 7) (t := 70) (q := 66) c1 (by decide) rfl (by decide +kernel) ?_ ?_
  · exact fun g9 => (h1 g9)
  · exact fun g9 => (h2 g9)
theorem S_X11_isOwnHere_66 {X : CX} {d : Nat} {I R : PF} {Q : PV → PF → PF → Prop} (h : PN X d mX11_isOwnHere 71 [(2, 306)] [(0, 1)] I R Q) : PN X d mX11_isOwnHere 66 [(2, 306)] [] I R Q := by
  refine P_iconst (n := 1) (q := 67) rfl (by decide +kernel) ?_
  refine P_goto (off := 4) (t := 71) (by decide) (by decide +kernel) ?_
  exact h
theorem S_X11_isOwnHere_70 {X : CX} {d : Nat} {I R : PF} {Q : PV → PF → PF → Prop} (h : PN X d mX11_isOwnHere 71 [(2, 306)] [(0, 0)] I R Q) : PN X d mX11_isOwnHere 70 [(2, 306)] [] I R Q := by
  refine P_iconst (n := 0) (q := 71) rfl (by decide +kernel) ?_
  exact h
theorem S_X11_isOwnHere_71 {X : CX} {d : Nat} {o0 : Int} {I R : PF} {Q : PV → PF → PF → Prop} (c1 : -2147483648 ≤ o0 ∧ o0 < 2147483648) (h1 : o0 ≠ 0 → PN X d mX11_isOwnHere 142 [(2, 306)] [] I R Q) (h2 : o0 = 0 → PN X d mX11_isOwnHere 76 [(2, 306)] [] I R Q) : PN X d mX11_isOwnHere 71 [(2, 306)] [(0, o0)] I R Q := by
  refine P_istore_n (n := 1) (by decide) (q := 72) rfl (by decide +kernel) ?_
  refine P_iload_n (n := 1) (q := 73) rfl rfl (by decide +kernel) ?_
  refine B_if_ne (off := 69) (t := 142) (q := 76) c1 (by decide) rfl (by decide +kernel) ?_ ?_
  · exact fun g9 => (PW_sub (ls' := [(2, 306)]) ⟨Or.inr rfl, trivial⟩ (h1 g9))
  · exact fun g9 => (PW_sub (ls' := [(2, 306)]) ⟨Or.inr rfl, trivial⟩ (h2 g9))
theorem S_X11_isOwnHere_76 {X : CX} {d d1 : Nat} {I R : PF} {Q Q1 : PV → PF → PF → Prop} (hs : Shp R) (e1 : d1 + 1 ≤ d) (hc : CN X d1 mX11_isHere [(2, 306), (2, 315)] I R Q1) (h : ∀ z I2 R2, Q1 (0, z) I2 R2 → PN X d mX11_isOwnHere 84 [(2, 306)] [(0, z)] I2 R2 Q) : PN X d mX11_isOwnHere 76 [(2, 306)] [] I R Q := by
  refine P_aload_n (n := 0) (q := 77) rfl rfl (by decide +kernel) ?_
  refine P_aload_n (n := 0) (q := 78) rfl rfl (by decide +kernel) ?_
  refine B_getfR (q := 81) fX11_80 kM306 (rM306_17 hs) rfl (by decide +kernel) ?_
  refine P_invV (As := [(2, 315)]) (q := 84) oX11_isHere rfl kM306 kX11_37 e1 hMF (Nat.le_of_ble_eq_true rfl) hc rfl (by decide +kernel) (fun z I2 R2 hq => ?_)
  exact (PW_sub (ls' := [(2, 306)]) ⟨Or.inr rfl, trivial⟩ (h z I2 R2 hq))
theorem S_X11_isOwnHere_84 {X : CX} {d : Nat} {o0 : Int} {I R : PF} {Q : PV → PF → PF → Prop} (c1 : -2147483648 ≤ o0 ∧ o0 < 2147483648) (h1 : o0 ≠ 0 → PN X d mX11_isOwnHere 142 [(2, 306)] [] I R Q) (h2 : o0 = 0 → PN X d mX11_isOwnHere 87 [(2, 306)] [] I R Q) : PN X d mX11_isOwnHere 84 [(2, 306)] [(0, o0)] I R Q := by
  refine B_if_ne (off := 58) (t := 142) (q := 87) c1 (by decide) rfl (by decide +kernel) ?_ ?_
  · exact fun g9 => (PW_sub (ls' := [(2, 306)]) ⟨Or.inr rfl, trivial⟩ (h1 g9))
  · exact fun g9 => (PW_sub (ls' := [(2, 306)]) ⟨Or.inr rfl, trivial⟩ (h2 g9))
theorem S_X11_isOwnHere_87 {X : CX} {d d1 : Nat} {I R : PF} {Q Q1 : PV → PF → PF → Prop} (hs : Shp R) (e1 : d1 + 1 ≤ d) (hc : CN X d1 mX11_isHere [(2, 306), (2, 316)] I R Q1) (h : ∀ z I2 R2, Q1 (0, z) I2 R2 → PN X d mX11_isOwnHere 95 [(2, 306)] [(0, z)] I2 R2 Q) : PN X d mX11_isOwnHere 87 [(2, 306)] [] I R Q := by
  refine P_aload_n (n := 0) (q := 88) rfl rfl (by decide +kernel) ?_
  refine P_aload_n (n := 0) (q := 89) rfl rfl (by decide +kernel) ?_
  refine B_getfR (q := 92) fX11_83 kM306 (rM306_18 hs) rfl (by decide +kernel) ?_
  refine P_invV (As := [(2, 316)]) (q := 95) oX11_isHere rfl kM306 kX11_37 e1 hMF (Nat.le_of_ble_eq_true rfl) hc rfl (by decide +kernel) (fun z I2 R2 hq => ?_)
  exact (PW_sub (ls' := [(2, 306)]) ⟨Or.inr rfl, trivial⟩ (h z I2 R2 hq))
theorem S_X11_isOwnHere_95 {X : CX} {d : Nat} {o0 : Int} {I R : PF} {Q : PV → PF → PF → Prop} (c1 : -2147483648 ≤ o0 ∧ o0 < 2147483648) (h1 : o0 ≠ 0 → PN X d mX11_isOwnHere 142 [(2, 306)] [] I R Q) (h2 : o0 = 0 → PN X d mX11_isOwnHere 98 [(2, 306)] [] I R Q) : PN X d mX11_isOwnHere 95 [(2, 306)] [(0, o0)] I R Q := by
  refine B_if_ne (off := 47) (t := 142) (q := 98) c1 (by decide) rfl (by decide +kernel) ?_ ?_
  · exact fun g9 => (PW_sub (ls' := [(2, 306)]) ⟨Or.inr rfl, trivial⟩ (h1 g9))
  · exact fun g9 => (PW_sub (ls' := [(2, 306)]) ⟨Or.inr rfl, trivial⟩ (h2 g9))
theorem S_X11_isOwnHere_98 {X : CX} {d d1 : Nat} {I R : PF} {Q Q1 : PV → PF → PF → Prop} (hs : Shp R) (e1 : d1 + 1 ≤ d) (hc : CN X d1 mX11_isHere [(2, 306), (2, 317)] I R Q1) (h : ∀ z I2 R2, Q1 (0, z) I2 R2 → PN X d mX11_isOwnHere 106 [(2, 306)] [(0, z)] I2 R2 Q) : PN X d mX11_isOwnHere 98 [(2, 306)] [] I R Q := by
  refine P_aload_n (n := 0) (q := 99) rfl rfl (by decide +kernel) ?_
  refine P_aload_n (n := 0) (q := 100) rfl rfl (by decide +kernel) ?_
  refine B_getfR (q := 103) fX11_86 kM306 (rM306_19 hs) rfl (by decide +kernel) ?_
  refine P_invV (As := [(2, 317)]) (q := 106) oX11_isHere rfl kM306 kX11_37 e1 hMF (Nat.le_of_ble_eq_true rfl) hc rfl (by decide +kernel) (fun z I2 R2 hq => ?_)
  exact (PW_sub (ls' := [(2, 306)]) ⟨Or.inr rfl, trivial⟩ (h z I2 R2 hq))
theorem S_X11_isOwnHere_106 {X : CX} {d : Nat} {o0 : Int} {I R : PF} {Q : PV → PF → PF → Prop} (c1 : -2147483648 ≤ o0 ∧ o0 < 2147483648) (h1 : o0 ≠ 0 → PN X d mX11_isOwnHere 142 [(2, 306)] [] I R Q) (h2 : o0 = 0 → PN X d mX11_isOwnHere 109 [(2, 306)] [] I R Q) : PN X d mX11_isOwnHere 106 [(2, 306)] [(0, o0)] I R Q := by
  refine B_if_ne (off := 36) (t := 142) (q := 109) c1 (by decide) rfl (by decide +kernel) ?_ ?_
  · exact fun g9 => (PW_sub (ls' := [(2, 306)]) ⟨Or.inr rfl, trivial⟩ (h1 g9))
  · exact fun g9 => (PW_sub (ls' := [(2, 306)]) ⟨Or.inr rfl, trivial⟩ (h2 g9))
theorem S_X11_isOwnHere_109 {X : CX} {d d1 : Nat} {I R : PF} {Q Q1 : PV → PF → PF → Prop} (hs : Shp R) (e1 : d1 + 1 ≤ d) (hc : CN X d1 mX11_isHere [(2, 306), (2, 318)] I R Q1) (h : ∀ z I2 R2, Q1 (0, z) I2 R2 → PN X d mX11_isOwnHere 117 [(2, 306)] [(0, z)] I2 R2 Q) : PN X d mX11_isOwnHere 109 [(2, 306)] [] I R Q := by
  refine P_aload_n (n := 0) (q := 110) rfl rfl (by decide +kernel) ?_
  refine P_aload_n (n := 0) (q := 111) rfl rfl (by decide +kernel) ?_
  refine B_getfR (q := 114) fX11_89 kM306 (rM306_20 hs) rfl (by decide +kernel) ?_
  refine P_invV (As := [(2, 318)]) (q := 117) oX11_isHere rfl kM306 kX11_37 e1 hMF (Nat.le_of_ble_eq_true rfl) hc rfl (by decide +kernel) (fun z I2 R2 hq => ?_)
  exact (PW_sub (ls' := [(2, 306)]) ⟨Or.inr rfl, trivial⟩ (h z I2 R2 hq))
theorem S_X11_isOwnHere_117 {X : CX} {d : Nat} {o0 : Int} {I R : PF} {Q : PV → PF → PF → Prop} (c1 : -2147483648 ≤ o0 ∧ o0 < 2147483648) (h1 : o0 ≠ 0 → PN X d mX11_isOwnHere 142 [(2, 306)] [] I R Q) (h2 : o0 = 0 → PN X d mX11_isOwnHere 120 [(2, 306)] [] I R Q) : PN X d mX11_isOwnHere 117 [(2, 306)] [(0, o0)] I R Q := by
  refine B_if_ne (off := 25) (t := 142) (q := 120) c1 (by decide) rfl (by decide +kernel) ?_ ?_
  · exact fun g9 => (PW_sub (ls' := [(2, 306)]) ⟨Or.inr rfl, trivial⟩ (h1 g9))
  · exact fun g9 => (PW_sub (ls' := [(2, 306)]) ⟨Or.inr rfl, trivial⟩ (h2 g9))
theorem S_X11_isOwnHere_120 {X : CX} {d d1 : Nat} {I R : PF} {Q Q1 : PV → PF → PF → Prop} (hs : Shp R) (e1 : d1 + 1 ≤ d) (hc : CN X d1 mX11_isHere [(2, 306), (2, 319)] I R Q1) (h : ∀ z I2 R2, Q1 (0, z) I2 R2 → PN X d mX11_isOwnHere 128 [(2, 306)] [(0, z)] I2 R2 Q) : PN X d mX11_isOwnHere 120 [(2, 306)] [] I R Q := by
  refine P_aload_n (n := 0) (q := 121) rfl rfl (by decide +kernel) ?_
  refine P_aload_n (n := 0) (q := 122) rfl rfl (by decide +kernel) ?_
  refine B_getfR (q := 125) fX11_92 kM306 (rM306_21 hs) rfl (by decide +kernel) ?_
  refine P_invV (As := [(2, 319)]) (q := 128) oX11_isHere rfl kM306 kX11_37 e1 hMF (Nat.le_of_ble_eq_true rfl) hc rfl (by decide +kernel) (fun z I2 R2 hq => ?_)
  exact (PW_sub (ls' := [(2, 306)]) ⟨Or.inr rfl, trivial⟩ (h z I2 R2 hq))
theorem S_X11_isOwnHere_128 {X : CX} {d : Nat} {o0 : Int} {I R : PF} {Q : PV → PF → PF → Prop} (c1 : -2147483648 ≤ o0 ∧ o0 < 2147483648) (h1 : o0 ≠ 0 → PN X d mX11_isOwnHere 142 [(2, 306)] [] I R Q) (h2 : o0 = 0 → PN X d mX11_isOwnHere 131 [(2, 306)] [] I R Q) : PN X d mX11_isOwnHere 128 [(2, 306)] [(0, o0)] I R Q := by
  refine B_if_ne (off := 14) (t := 142) (q := 131) c1 (by decide) rfl (by decide +kernel) ?_ ?_
  · exact fun g9 => (PW_sub (ls' := [(2, 306)]) ⟨Or.inr rfl, trivial⟩ (h1 g9))
  · exact fun g9 => (PW_sub (ls' := [(2, 306)]) ⟨Or.inr rfl, trivial⟩ (h2 g9))
theorem S_X11_isOwnHere_131 {X : CX} {d d1 : Nat} {I R : PF} {Q Q1 : PV → PF → PF → Prop} (hs : Shp R) (e1 : d1 + 1 ≤ d) (hc : CN X d1 mX11_isHere [(2, 306), (2, 320)] I R Q1) (h : ∀ z I2 R2, Q1 (0, z) I2 R2 → PN X d mX11_isOwnHere 139 [(2, 306)] [(0, z)] I2 R2 Q) : PN X d mX11_isOwnHere 131 [(2, 306)] [] I R Q := by
  refine P_aload_n (n := 0) (q := 132) rfl rfl (by decide +kernel) ?_
  refine P_aload_n (n := 0) (q := 133) rfl rfl (by decide +kernel) ?_
  refine B_getfR (q := 136) fX11_95 kM306 (rM306_22 hs) rfl (by decide +kernel) ?_
  refine P_invV (As := [(2, 320)]) (q := 139) oX11_isHere rfl kM306 kX11_37 e1 hMF (Nat.le_of_ble_eq_true rfl) hc rfl (by decide +kernel) (fun z I2 R2 hq => ?_)
  exact (PW_sub (ls' := [(2, 306)]) ⟨Or.inr rfl, trivial⟩ (h z I2 R2 hq))
theorem S_X11_isOwnHere_139 {X : CX} {d : Nat} {o0 : Int} {I R : PF} {Q : PV → PF → PF → Prop} (c1 : -2147483648 ≤ o0 ∧ o0 < 2147483648) (h1 : o0 = 0 → PN X d mX11_isOwnHere 146 [(2, 306)] [] I R Q) (h2 : o0 ≠ 0 → PN X d mX11_isOwnHere 142 [(2, 306)] [] I R Q) : PN X d mX11_isOwnHere 139 [(2, 306)] [(0, o0)] I R Q := by
  refine B_if_eq (off := 7) (t := 146) (q := 142) c1 (by decide) rfl (by decide +kernel) ?_ ?_
  · exact fun g9 => (PW_sub (ls' := [(2, 306)]) ⟨Or.inr rfl, trivial⟩ (h1 g9))
  · exact fun g9 => (PW_sub (ls' := [(2, 306)]) ⟨Or.inr rfl, trivial⟩ (h2 g9))
theorem S_X11_isOwnHere_142 {X : CX} {d : Nat} {I R : PF} {Q : PV → PF → PF → Prop} (h : PN X d mX11_isOwnHere 147 [(2, 306)] [(0, 1)] I R Q) : PN X d mX11_isOwnHere 142 [(2, 306)] [] I R Q := by
  refine P_iconst (n := 1) (q := 143) rfl (by decide +kernel) ?_
  refine P_goto (off := 4) (t := 147) (by decide) (by decide +kernel) ?_
  exact (PW_sub (ls' := [(2, 306)]) ⟨Or.inr rfl, trivial⟩ h)
theorem S_X11_isOwnHere_146 {X : CX} {d : Nat} {I R : PF} {Q : PV → PF → PF → Prop} (h : PN X d mX11_isOwnHere 147 [(2, 306)] [(0, 0)] I R Q) : PN X d mX11_isOwnHere 146 [(2, 306)] [] I R Q := by
  refine P_iconst (n := 0) (q := 147) rfl (by decide +kernel) ?_
  exact (PW_sub (ls' := [(2, 306)]) ⟨Or.inr rfl, trivial⟩ h)
theorem S_X11_isOwnHere_147 {X : CX} {d : Nat} {o0 : Int} {I R : PF} {Q : PV → PF → PF → Prop} (c1 : -2147483648 ≤ o0 ∧ o0 < 2147483648) (h1 : o0 ≠ 0 → PN X d mX11_isOwnHere 218 [(2, 306)] [] I R Q) (h2 : o0 = 0 → PN X d mX11_isOwnHere 152 [(2, 306)] [] I R Q) : PN X d mX11_isOwnHere 147 [(2, 306)] [(0, o0)] I R Q := by
  refine P_istore_n (n := 1) (by decide) (q := 148) rfl (by decide +kernel) ?_
  refine P_iload_n (n := 1) (q := 149) rfl rfl (by decide +kernel) ?_
  refine B_if_ne (off := 69) (t := 218) (q := 152) c1 (by decide) rfl (by decide +kernel) ?_ ?_
  · exact fun g9 => (PW_sub (ls' := [(2, 306)]) ⟨Or.inr rfl, trivial⟩ (h1 g9))
  · exact fun g9 => (PW_sub (ls' := [(2, 306)]) ⟨Or.inr rfl, trivial⟩ (h2 g9))
theorem S_X11_isOwnHere_152 {X : CX} {d d1 : Nat} {I R : PF} {Q Q1 : PV → PF → PF → Prop} (hs : Shp R) (e1 : d1 + 1 ≤ d) (hc : CN X d1 mX11_isHere [(2, 306), (2, 321)] I R Q1) (h : ∀ z I2 R2, Q1 (0, z) I2 R2 → PN X d mX11_isOwnHere 160 [(2, 306)] [(0, z)] I2 R2 Q) : PN X d mX11_isOwnHere 152 [(2, 306)] [] I R Q := by
  refine P_aload_n (n := 0) (q := 153) rfl rfl (by decide +kernel) ?_
  refine P_aload_n (n := 0) (q := 154) rfl rfl (by decide +kernel) ?_
  refine B_getfR (q := 157) fX11_98 kM306 (rM306_23 hs) rfl (by decide +kernel) ?_
  refine P_invV (As := [(2, 321)]) (q := 160) oX11_isHere rfl kM306 kX11_37 e1 hMF (Nat.le_of_ble_eq_true rfl) hc rfl (by decide +kernel) (fun z I2 R2 hq => ?_)
  exact (PW_sub (ls' := [(2, 306)]) ⟨Or.inr rfl, trivial⟩ (h z I2 R2 hq))
theorem S_X11_isOwnHere_160 {X : CX} {d : Nat} {o0 : Int} {I R : PF} {Q : PV → PF → PF → Prop} (c1 : -2147483648 ≤ o0 ∧ o0 < 2147483648) (h1 : o0 ≠ 0 → PN X d mX11_isOwnHere 218 [(2, 306)] [] I R Q) (h2 : o0 = 0 → PN X d mX11_isOwnHere 163 [(2, 306)] [] I R Q) : PN X d mX11_isOwnHere 160 [(2, 306)] [(0, o0)] I R Q := by
  refine B_if_ne (off := 58) (t := 218) (q := 163) c1 (by decide) rfl (by decide +kernel) ?_ ?_
  · exact fun g9 => (PW_sub (ls' := [(2, 306)]) ⟨Or.inr rfl, trivial⟩ (h1 g9))
  · exact fun g9 => (PW_sub (ls' := [(2, 306)]) ⟨Or.inr rfl, trivial⟩ (h2 g9))
theorem S_X11_isOwnHere_163 {X : CX} {d d1 : Nat} {I R : PF} {Q Q1 : PV → PF → PF → Prop} (hs : Shp R) (e1 : d1 + 1 ≤ d) (hc : CN X d1 mX11_isHere [(2, 306), (2, 322)] I R Q1) (h : ∀ z I2 R2, Q1 (0, z) I2 R2 → PN X d mX11_isOwnHere 171 [(2, 306)] [(0, z)] I2 R2 Q) : PN X d mX11_isOwnHere 163 [(2, 306)] [] I R Q := by
  refine P_aload_n (n := 0) (q := 164) rfl rfl (by decide +kernel) ?_
  refine P_aload_n (n := 0) (q := 165) rfl rfl (by decide +kernel) ?_
  refine B_getfR (q := 168) fX11_101 kM306 (rM306_24 hs) rfl (by decide +kernel) ?_
  refine P_invV (As := [(2, 322)]) (q := 171) oX11_isHere rfl kM306 kX11_37 e1 hMF (Nat.le_of_ble_eq_true rfl) hc rfl (by decide +kernel) (fun z I2 R2 hq => ?_)
  exact (PW_sub (ls' := [(2, 306)]) ⟨Or.inr rfl, trivial⟩ (h z I2 R2 hq))
theorem S_X11_isOwnHere_171 {X : CX} {d : Nat} {o0 : Int} {I R : PF} {Q : PV → PF → PF → Prop} (c1 : -2147483648 ≤ o0 ∧ o0 < 2147483648) (h1 : o0 ≠ 0 → PN X d mX11_isOwnHere 218 [(2, 306)] [] I R Q) (h2 : o0 = 0 → PN X d mX11_isOwnHere 174 [(2, 306)] [] I R Q) : PN X d mX11_isOwnHere 171 [(2, 306)] [(0, o0)] I R Q := by
  refine B_if_ne (off := 47) (t := 218) (q := 174) c1 (by decide) rfl (by decide +kernel) ?_ ?_
  · exact fun g9 => (PW_sub (ls' := [(2, 306)]) ⟨Or.inr rfl, trivial⟩ (h1 g9))
  · exact fun g9 => (PW_sub (ls' := [(2, 306)]) ⟨Or.inr rfl, trivial⟩ (h2 g9))
theorem S_X11_isOwnHere_174 {X : CX} {d d1 : Nat} {I R : PF} {Q Q1 : PV → PF → PF → Prop} (hs : Shp R) (e1 : d1 + 1 ≤ d) (hc : CN X d1 mX11_isHere [(2, 306), (2, 323)] I R Q1) (h : ∀ z I2 R2, Q1 (0, z) I2 R2 → PN X d mX11_isOwnHere 182 [(2, 306)] [(0, z)] I2 R2 Q) : PN X d mX11_isOwnHere 174 [(2, 306)] [] I R Q := by
  refine P_aload_n (n := 0) (q := 175) rfl rfl (by decide +kernel) ?_
  refine P_aload_n (n := 0) (q := 176) rfl rfl (by decide +kernel) ?_
  refine B_getfR (q := 179) fX11_104 kM306 (rM306_25 hs) rfl (by decide +kernel) ?_
  refine P_invV (As := [(2, 323)]) (q := 182) oX11_isHere rfl kM306 kX11_37 e1 hMF (Nat.le_of_ble_eq_true rfl) hc rfl (by decide +kernel) (fun z I2 R2 hq => ?_)
  exact (PW_sub (ls' := [(2, 306)]) ⟨Or.inr rfl, trivial⟩ (h z I2 R2 hq))
theorem S_X11_isOwnHere_182 {X : CX} {d : Nat} {o0 : Int} {I R : PF} {Q : PV → PF → PF → Prop} (c1 : -2147483648 ≤ o0 ∧ o0 < 2147483648) (h1 : o0 ≠ 0 → PN X d mX11_isOwnHere 218 [(2, 306)] [] I R Q) (h2 : o0 = 0 → PN X d mX11_isOwnHere 185 [(2, 306)] [] I R Q) : PN X d mX11_isOwnHere 182 [(2, 306)] [(0, o0)] I R Q := by
  refine B_if_ne (off := 36) (t := 218) (q := 185) c1 (by decide) rfl (by decide +kernel) ?_ ?_
  · exact fun g9 => (PW_sub (ls' := [(2, 306)]) ⟨Or.inr rfl, trivial⟩ (h1 g9))
  · exact fun g9 => (PW_sub (ls' := [(2, 306)]) ⟨Or.inr rfl, trivial⟩ (h2 g9))
theorem S_X11_isOwnHere_185 {X : CX} {d d1 : Nat} {I R : PF} {Q Q1 : PV → PF → PF → Prop} (hs : Shp R) (e1 : d1 + 1 ≤ d) (hc : CN X d1 mX11_isHere [(2, 306), (2, 324)] I R Q1) (h : ∀ z I2 R2, Q1 (0, z) I2 R2 → PN X d mX11_isOwnHere 193 [(2, 306)] [(0, z)] I2 R2 Q) : PN X d mX11_isOwnHere 185 [(2, 306)] [] I R Q := by
  refine P_aload_n (n := 0) (q := 186) rfl rfl (by decide +kernel) ?_
  refine P_aload_n (n := 0) (q := 187) rfl rfl (by decide +kernel) ?_
  refine B_getfR (q := 190) fX11_107 kM306 (rM306_26 hs) rfl (by decide +kernel) ?_
  refine P_invV (As := [(2, 324)]) (q := 193) oX11_isHere rfl kM306 kX11_37 e1 hMF (Nat.le_of_ble_eq_true rfl) hc rfl (by decide +kernel) (fun z I2 R2 hq => ?_)
  exact (PW_sub (ls' := [(2, 306)]) ⟨Or.inr rfl, trivial⟩ (h z I2 R2 hq))
theorem S_X11_isOwnHere_193 {X : CX} {d : Nat} {o0 : Int} {I R : PF} {Q : PV → PF → PF → Prop} (c1 : -2147483648 ≤ o0 ∧ o0 < 2147483648) (h1 : o0 ≠ 0 → PN X d mX11_isOwnHere 218 [(2, 306)] [] I R Q) (h2 : o0 = 0 → PN X d mX11_isOwnHere 196 [(2, 306)] [] I R Q) : PN X d mX11_isOwnHere 193 [(2, 306)] [(0, o0)] I R Q := by
  refine B_if_ne (off := 25) (t := 218) (q := 196) c1 (by decide) rfl (by decide +kernel) ?_ ?_
  · exact fun g9 => (PW_sub (ls' := [(2, 306)]) ⟨Or.inr rfl, trivial⟩ (h1 g9))
  · exact fun g9 => (PW_sub (ls' := [(2, 306)]) ⟨Or.inr rfl, trivial⟩ (h2 g9))
theorem S_X11_isOwnHere_196 {X : CX} {d d1 : Nat} {I R : PF} {Q Q1 : PV → PF → PF → Prop} (hs : Shp R) (e1 : d1 + 1 ≤ d) (hc : CN X d1 mX11_isHere [(2, 306), (2, 325)] I R Q1) (h : ∀ z I2 R2, Q1 (0, z) I2 R2 → PN X d mX11_isOwnHere 204 [(2, 306)] [(0, z)] I2 R2 Q) : PN X d mX11_isOwnHere 196 [(2, 306)] [] I R Q := by
  refine P_aload_n (n := 0) (q := 197) rfl rfl (by decide +kernel) ?_
  refine P_aload_n (n := 0) (q := 198) rfl rfl (by decide +kernel) ?_
  refine B_getfR (q := 201) fX11_110 kM306 (rM306_27 hs) rfl (by decide +kernel) ?_
  refine P_invV (As := [(2, 325)]) (q := 204) oX11_isHere rfl kM306 kX11_37 e1 hMF (Nat.le_of_ble_eq_true rfl) hc rfl (by decide +kernel) (fun z I2 R2 hq => ?_)
  exact (PW_sub (ls' := [(2, 306)]) ⟨Or.inr rfl, trivial⟩ (h z I2 R2 hq))
theorem S_X11_isOwnHere_204 {X : CX} {d : Nat} {o0 : Int} {I R : PF} {Q : PV → PF → PF → Prop} (c1 : -2147483648 ≤ o0 ∧ o0 < 2147483648) (h1 : o0 ≠ 0 → PN X d mX11_isOwnHere 218 [(2, 306)] [] I R Q) (h2 : o0 = 0 → PN X d mX11_isOwnHere 207 [(2, 306)] [] I R Q) : PN X d mX11_isOwnHere 204 [(2, 306)] [(0, o0)] I R Q := by
  refine B_if_ne (off := 14) (t := 218) (q := 207) c1 (by decide) rfl (by decide +kernel) ?_ ?_
  · exact fun g9 => (PW_sub (ls' := [(2, 306)]) ⟨Or.inr rfl, trivial⟩ (h1 g9))
  · exact fun g9 => (PW_sub (ls' := [(2, 306)]) ⟨Or.inr rfl, trivial⟩ (h2 g9))
theorem S_X11_isOwnHere_207 {X : CX} {d d1 : Nat} {I R : PF} {Q Q1 : PV → PF → PF → Prop} (hs : Shp R) (e1 : d1 + 1 ≤ d) (hc : CN X d1 mX11_isHere [(2, 306), (2, 326)] I R Q1) (h : ∀ z I2 R2, Q1 (0, z) I2 R2 → PN X d mX11_isOwnHere 215 [(2, 306)] [(0, z)] I2 R2 Q) : PN X d mX11_isOwnHere 207 [(2, 306)] [] I R Q := by
  refine P_aload_n (n := 0) (q := 208) rfl rfl (by decide +kernel) ?_
  refine P_aload_n (n := 0) (q := 209) rfl rfl (by decide +kernel) ?_
  refine B_getfR (q := 212) fX11_113 kM306 (rM306_28 hs) rfl (by decide +kernel) ?_
  refine P_invV (As := [(2, 326)]) (q := 215) oX11_isHere rfl kM306 kX11_37 e1 hMF (Nat.le_of_ble_eq_true rfl) hc rfl (by decide +kernel) (fun z I2 R2 hq => ?_)
  exact (PW_sub (ls' := [(2, 306)]) ⟨Or.inr rfl, trivial⟩ (h z I2 R2 hq))
theorem S_X11_isOwnHere_215 {X : CX} {d : Nat} {o0 : Int} {I R : PF} {Q : PV → PF → PF → Prop} (c1 : -2147483648 ≤ o0 ∧ o0 < 2147483648) (h1 : o0 = 0 → PN X d mX11_isOwnHere 222 [(2, 306)] [] I R Q) (h2 : o0 ≠ 0 → PN X d mX11_isOwnHere 218 [(2, 306)] [] I R Q) : PN X d mX11_isOwnHere 215 [(2, 306)] [(0, o0)] I R Q := by
  refine B_if_eq (off := 7) (t := 222) (q := 218) c1 (by decide) rfl (by decide +kernel) ?_ ?_
  · exact fun g9 => (PW_sub (ls' := [(2, 306)]) ⟨Or.inr rfl, trivial⟩ (h1 g9))
  · exact fun g9 => (PW_sub (ls' := [(2, 306)]) ⟨Or.inr rfl, trivial⟩ (h2 g9))
theorem S_X11_isOwnHere_218 {X : CX} {d : Nat} {I R : PF} {Q : PV → PF → PF → Prop} (h : PN X d mX11_isOwnHere 223 [(2, 306)] [(0, 1)] I R Q) : PN X d mX11_isOwnHere 218 [(2, 306)] [] I R Q := by
  refine P_iconst (n := 1) (q := 219) rfl (by decide +kernel) ?_
  refine P_goto (off := 4) (t := 223) (by decide) (by decide +kernel) ?_
  exact (PW_sub (ls' := [(2, 306)]) ⟨Or.inr rfl, trivial⟩ h)
theorem S_X11_isOwnHere_222 {X : CX} {d : Nat} {I R : PF} {Q : PV → PF → PF → Prop} (h : PN X d mX11_isOwnHere 223 [(2, 306)] [(0, 0)] I R Q) : PN X d mX11_isOwnHere 222 [(2, 306)] [] I R Q := by
  refine P_iconst (n := 0) (q := 223) rfl (by decide +kernel) ?_
  exact (PW_sub (ls' := [(2, 306)]) ⟨Or.inr rfl, trivial⟩ h)
theorem S_X11_isOwnHere_223 {X : CX} {d : Nat} {o0 : Int} {I R : PF} {Q : PV → PF → PF → Prop} (c1 : -2147483648 ≤ o0 ∧ o0 < 2147483648) (h1 : o0 ≠ 0 → PN X d mX11_isOwnHere 294 [(2, 306)] [] I R Q) (h2 : o0 = 0 → PN X d mX11_isOwnHere 228 [(2, 306)] [] I R Q) : PN X d mX11_isOwnHere 223 [(2, 306)] [(0, o0)] I R Q := by
  refine P_istore_n (n := 1) (by decide) (q := 224) rfl (by decide +kernel) ?_
  refine P_iload_n (n := 1) (q := 225) rfl rfl (by decide +kernel) ?_
  refine B_if_ne (off := 69) (t := 294) (q := 228) c1 (by decide) rfl (by decide +kernel) ?_ ?_
  · exact fun g9 => (PW_sub (ls' := [(2, 306)]) ⟨Or.inr rfl, trivial⟩ (h1 g9))
  · exact fun g9 => (PW_sub (ls' := [(2, 306)]) ⟨Or.inr rfl, trivial⟩ (h2 g9))
theorem S_X11_isOwnHere_228 {X : CX} {d d1 : Nat} {I R : PF} {Q Q1 : PV → PF → PF → Prop} (hs : Shp R) (e1 : d1 + 1 ≤ d) (hc : CN X d1 mX11_isHere [(2, 306), (2, 327)] I R Q1) (h : ∀ z I2 R2, Q1 (0, z) I2 R2 → PN X d mX11_isOwnHere 236 [(2, 306)] [(0, z)] I2 R2 Q) : PN X d mX11_isOwnHere 228 [(2, 306)] [] I R Q := by
  refine P_aload_n (n := 0) (q := 229) rfl rfl (by decide +kernel) ?_
  refine P_aload_n (n := 0) (q := 230) rfl rfl (by decide +kernel) ?_
  refine B_getfR (q := 233) fX11_116 kM306 (rM306_29 hs) rfl (by decide +kernel) ?_
  refine P_invV (As := [(2, 327)]) (q := 236) oX11_isHere rfl kM306 kX11_37 e1 hMF (Nat.le_of_ble_eq_true rfl) hc rfl (by decide +kernel) (fun z I2 R2 hq => ?_)
  exact (PW_sub (ls' := [(2, 306)]) ⟨Or.inr rfl, trivial⟩ (h z I2 R2 hq))
theorem S_X11_isOwnHere_236 {X : CX} {d : Nat} {o0 : Int} {I R : PF} {Q : PV → PF → PF → Prop} (c1 : -2147483648 ≤ o0 ∧ o0 < 2147483648) (h1 : o0 ≠ 0 → PN X d mX11_isOwnHere 294 [(2, 306)] [] I R Q) (h2 : o0 = 0 → PN X d mX11_isOwnHere 239 [(2, 306)] [] I R Q) : PN X d mX11_isOwnHere 236 [(2, 306)] [(0, o0)] I R Q := by
  refine B_if_ne (off := 58) (t := 294) (q := 239) c1 (by decide) rfl (by decide +kernel) ?_ ?_
  · exact fun g9 => (PW_sub (ls' := [(2, 306)]) ⟨Or.inr rfl, trivial⟩ (h1 g9))
  · exact fun g9 => (PW_sub (ls' := [(2, 306)]) ⟨Or.inr rfl, trivial⟩ (h2 g9))
theorem S_X11_isOwnHere_239 {X : CX} {d d1 : Nat} {I R : PF} {Q Q1 : PV → PF → PF → Prop} (hs : Shp R) (e1 : d1 + 1 ≤ d) (hc : CN X d1 mX11_isHere [(2, 306), (2, 328)] I R Q1) (h : ∀ z I2 R2, Q1 (0, z) I2 R2 → PN X d mX11_isOwnHere 247 [(2, 306)] [(0, z)] I2 R2 Q) : PN X d mX11_isOwnHere 239 [(2, 306)] [] I R Q := by
  refine P_aload_n (n := 0) (q := 240) rfl rfl (by decide +kernel) ?_
  refine P_aload_n (n := 0) (q := 241) rfl rfl (by decide +kernel) ?_
  refine B_getfR (q := 244) fX11_119 kM306 (rM306_30 hs) rfl (by decide +kernel) ?_
  refine P_invV (As := [(2, 328)]) (q := 247) oX11_isHere rfl kM306 kX11_37 e1 hMF (Nat.le_of_ble_eq_true rfl) hc rfl (by decide +kernel) (fun z I2 R2 hq => ?_)
  exact (PW_sub (ls' := [(2, 306)]) ⟨Or.inr rfl, trivial⟩ (h z I2 R2 hq))
theorem S_X11_isOwnHere_247 {X : CX} {d : Nat} {o0 : Int} {I R : PF} {Q : PV → PF → PF → Prop} (c1 : -2147483648 ≤ o0 ∧ o0 < 2147483648) (h1 : o0 ≠ 0 → PN X d mX11_isOwnHere 294 [(2, 306)] [] I R Q) (h2 : o0 = 0 → PN X d mX11_isOwnHere 250 [(2, 306)] [] I R Q) : PN X d mX11_isOwnHere 247 [(2, 306)] [(0, o0)] I R Q := by
  refine B_if_ne (off := 47) (t := 294) (q := 250) c1 (by decide) rfl (by decide +kernel) ?_ ?_
  · exact fun g9 => (PW_sub (ls' := [(2, 306)]) ⟨Or.inr rfl, trivial⟩ (h1 g9))
  · exact fun g9 => (PW_sub (ls' := [(2, 306)]) ⟨Or.inr rfl, trivial⟩ (h2 g9))
theorem S_X11_isOwnHere_250 {X : CX} {d d1 : Nat} {I R : PF} {Q Q1 : PV → PF → PF → Prop} (hs : Shp R) (e1 : d1 + 1 ≤ d) (hc : CN X d1 mX11_isHere [(2, 306), (2, 329)] I R Q1) (h : ∀ z I2 R2, Q1 (0, z) I2 R2 → PN X d mX11_isOwnHere 258 [(2, 306)] [(0, z)] I2 R2 Q) : PN X d mX11_isOwnHere 250 [(2, 306)] [] I R Q := by
  refine P_aload_n (n := 0) (q := 251) rfl rfl (by decide +kernel) ?_
  refine P_aload_n (n := 0) (q := 252) rfl rfl (by decide +kernel) ?_
  refine B_getfR (q := 255) fX11_122 kM306 (rM306_31 hs) rfl (by decide +kernel) ?_
  refine P_invV (As := [(2, 329)]) (q := 258) oX11_isHere rfl kM306 kX11_37 e1 hMF (Nat.le_of_ble_eq_true rfl) hc rfl (by decide +kernel) (fun z I2 R2 hq => ?_)
  exact (PW_sub (ls' := [(2, 306)]) ⟨Or.inr rfl, trivial⟩ (h z I2 R2 hq))
theorem S_X11_isOwnHere_258 {X : CX} {d : Nat} {o0 : Int} {I R : PF} {Q : PV → PF → PF → Prop} (c1 : -2147483648 ≤ o0 ∧ o0 < 2147483648) (h1 : o0 ≠ 0 → PN X d mX11_isOwnHere 294 [(2, 306)] [] I R Q) (h2 : o0 = 0 → PN X d mX11_isOwnHere 261 [(2, 306)] [] I R Q) : PN X d mX11_isOwnHere 258 [(2, 306)] [(0, o0)] I R Q := by
  refine B_if_ne (off := 36) (t := 294) (q := 261) c1 (by decide) rfl (by decide +kernel) ?_ ?_
  · exact fun g9 => (PW_sub (ls' := [(2, 306)]) ⟨Or.inr rfl, trivial⟩ (h1 g9))
  · exact fun g9 => (PW_sub (ls' := [(2, 306)]) ⟨Or.inr rfl, trivial⟩ (h2 g9))
theorem S_X11_isOwnHere_261 {X : CX} {d d1 : Nat} {I R : PF} {Q Q1 : PV → PF → PF → Prop} (hs : Shp R) (e1 : d1 + 1 ≤ d) (hc : CN X d1 mX11_isHere [(2, 306), (2, 330)] I R Q1) (h : ∀ z I2 R2, Q1 (0, z) I2 R2 → PN X d mX11_isOwnHere 269 [(2, 306)] [(0, z)] I2 R2 Q) : PN X d mX11_isOwnHere 261 [(2, 306)] [] I R Q := by
  refine P_aload_n (n := 0) (q := 262) rfl rfl (by decide +kernel) ?_
  refine P_aload_n (n := 0) (q := 263) rfl rfl (by decide +kernel) ?_
  refine B_getfR (q := 266) fX11_125 kM306 (rM306_32 hs) rfl (by decide +kernel) ?_
  refine P_invV (As := [(2, 330)]) (q := 269) oX11_isHere rfl kM306 kX11_37 e1 hMF (Nat.le_of_ble_eq_true rfl) hc rfl (by decide +kernel) (fun z I2 R2 hq => ?_)
  exact (PW_sub (ls' := [(2, 306)]) ⟨Or.inr rfl, trivial⟩ (h z I2 R2 hq))
theorem S_X11_isOwnHere_269 {X : CX} {d : Nat} {o0 : Int} {I R : PF} {Q : PV → PF → PF → Prop} (c1 : -2147483648 ≤ o0 ∧ o0 < 2147483648) (h1 : o0 ≠ 0 → PN X d mX11_isOwnHere 294 [(2, 306)] [] I R Q) (h2 : o0 = 0 → PN X d mX11_isOwnHere 272 [(2, 306)] [] I R Q) : PN X d mX11_isOwnHere 269 [(2, 306)] [(0, o0)] I R Q := by
  refine B_if_ne (off := 25) (t := 294) (q := 272) c1 (by decide) rfl (by decide +kernel) ?_ ?_
  · exact fun g9 => (PW_sub (ls' := [(2, 306)]) ⟨Or.inr rfl, trivial⟩ (h1 g9))
  · exact fun g9 => (PW_sub (ls' := [(2, 306)]) ⟨Or.inr rfl, trivial⟩ (h2 g9))
theorem S_X11_isOwnHere_272 {X : CX} {d d1 : Nat} {I R : PF} {Q Q1 : PV → PF → PF → Prop} (hs : Shp R) (e1 : d1 + 1 ≤ d) (hc : CN X d1 mX11_isHere [(2, 306), (2, 331)] I R Q1) (h : ∀ z I2 R2, Q1 (0, z) I2 R2 → PN X d mX11_isOwnHere 280 [(2, 306)] [(0, z)] I2 R2 Q) : PN X d mX11_isOwnHere 272 [(2, 306)] [] I R Q := by
  refine P_aload_n (n := 0) (q := 273) rfl rfl (by decide +kernel) ?_
  refine P_aload_n (n := 0) (q := 274) rfl rfl (by decide +kernel) ?_
  refine B_getfR (q := 277) fX11_128 kM306 (rM306_33 hs) rfl (by decide +kernel) ?_
  refine P_invV (As := [(2, 331)]) (q := 280) oX11_isHere rfl kM306 kX11_37 e1 hMF (Nat.le_of_ble_eq_true rfl) hc rfl (by decide +kernel) (fun z I2 R2 hq => ?_)
  exact (PW_sub (ls' := [(2, 306)]) ⟨Or.inr rfl, trivial⟩ (h z I2 R2 hq))
theorem S_X11_isOwnHere_280 {X : CX} {d : Nat} {o0 : Int} {I R : PF} {Q : PV → PF → PF → Prop} (c1 : -2147483648 ≤ o0 ∧ o0 < 2147483648) (h1 : o0 ≠ 0 → PN X d mX11_isOwnHere 294 [(2, 306)] [] I R Q) (h2 : o0 = 0 → PN X d mX11_isOwnHere 283 [(2, 306)] [] I R Q) : PN X d mX11_isOwnHere 280 [(2, 306)] [(0, o0)] I R Q := by
  refine B_if_ne (off := 14) (t := 294) (q := 283) c1 (by decide) rfl (by decide +kernel) ?_ ?_
  · exact fun g9 => (PW_sub (ls' := [(2, 306)]) ⟨Or.inr rfl, trivial⟩ (h1 g9))
  · exact fun g9 => (PW_sub (ls' := [(2, 306)]) ⟨Or.inr rfl, trivial⟩ (h2 g9))
theorem S_X11_isOwnHere_283 {X : CX} {d d1 : Nat} {I R : PF} {Q Q1 : PV → PF → PF → Prop} (hs : Shp R) (e1 : d1 + 1 ≤ d) (hc : CN X d1 mX11_isHere [(2, 306), (2, 332)] I R Q1) (h : ∀ z I2 R2, Q1 (0, z) I2 R2 → PN X d mX11_isOwnHere 291 [(2, 306)] [(0, z)] I2 R2 Q) : PN X d mX11_isOwnHere 283 [(2, 306)] [] I R Q := by
  refine P_aload_n (n := 0) (q := 284) rfl rfl (by decide +kernel) ?_
  refine P_aload_n (n := 0) (q := 285) rfl rfl (by decide +kernel) ?_
  refine B_getfR (q := 288) fX11_131 kM306 (rM306_34 hs) rfl (by decide +kernel) ?_
  refine P_invV (As := [(2, 332)]) (q := 291) oX11_isHere rfl kM306 kX11_37 e1 hMF (Nat.le_of_ble_eq_true rfl) hc rfl (by decide +kernel) (fun z I2 R2 hq => ?_)
  exact (PW_sub (ls' := [(2, 306)]) ⟨Or.inr rfl, trivial⟩ (h z I2 R2 hq))
theorem S_X11_isOwnHere_291 {X : CX} {d : Nat} {o0 : Int} {I R : PF} {Q : PV → PF → PF → Prop} (c1 : -2147483648 ≤ o0 ∧ o0 < 2147483648) (h1 : o0 = 0 → PN X d mX11_isOwnHere 298 [(2, 306)] [] I R Q) (h2 : o0 ≠ 0 → PN X d mX11_isOwnHere 294 [(2, 306)] [] I R Q) : PN X d mX11_isOwnHere 291 [(2, 306)] [(0, o0)] I R Q := by
  refine B_if_eq (off := 7) (t := 298) (q := 294) c1 (by decide) rfl (by decide +kernel) ?_ ?_
  · exact fun g9 => (PW_sub (ls' := [(2, 306)]) ⟨Or.inr rfl, trivial⟩ (h1 g9))
  · exact fun g9 => (PW_sub (ls' := [(2, 306)]) ⟨Or.inr rfl, trivial⟩ (h2 g9))
theorem S_X11_isOwnHere_294 {X : CX} {d : Nat} {I R : PF} {Q : PV → PF → PF → Prop} (h : PN X d mX11_isOwnHere 299 [(2, 306)] [(0, 1)] I R Q) : PN X d mX11_isOwnHere 294 [(2, 306)] [] I R Q := by
  refine P_iconst (n := 1) (q := 295) rfl (by decide +kernel) ?_
  refine P_goto (off := 4) (t := 299) (by decide) (by decide +kernel) ?_
  exact (PW_sub (ls' := [(2, 306)]) ⟨Or.inr rfl, trivial⟩ h)
theorem S_X11_isOwnHere_298 {X : CX} {d : Nat} {I R : PF} {Q : PV → PF → PF → Prop} (h : PN X d mX11_isOwnHere 299 [(2, 306)] [(0, 0)] I R Q) : PN X d mX11_isOwnHere 298 [(2, 306)] [] I R Q := by
  refine P_iconst (n := 0) (q := 299) rfl (by decide +kernel) ?_
  exact (PW_sub (ls' := [(2, 306)]) ⟨Or.inr rfl, trivial⟩ h)
theorem S_X11_isOwnHere_299 {X : CX} {d : Nat} {o0 : Int} {I R : PF} {Q : PV → PF → PF → Prop} (c1 : -2147483648 ≤ o0 ∧ o0 < 2147483648) (h1 : o0 ≠ 0 → PN X d mX11_isOwnHere 370 [] [] I R Q) (h2 : o0 = 0 → PN X d mX11_isOwnHere 304 [(2, 306)] [] I R Q) : PN X d mX11_isOwnHere 299 [(2, 306)] [(0, o0)] I R Q := by
  refine P_istore_n (n := 1) (by decide) (q := 300) rfl (by decide +kernel) ?_
  refine P_iload_n (n := 1) (q := 301) rfl rfl (by decide +kernel) ?_
  refine B_if_ne (off := 69) (t := 370) (q := 304) c1 (by decide) rfl (by decide +kernel) ?_ ?_
  · exact fun g9 => (PW_sub (ls' := []) trivial (h1 g9))
  · exact fun g9 => (PW_sub (ls' := [(2, 306)]) ⟨Or.inr rfl, trivial⟩ (h2 g9))
theorem S_X11_isOwnHere_304 {X : CX} {d d1 : Nat} {I R : PF} {Q Q1 : PV → PF → PF → Prop} (hs : Shp R) (e1 : d1 + 1 ≤ d) (hc : CN X d1 mX11_isHere [(2, 306), (2, 333)] I R Q1) (h : ∀ z I2 R2, Q1 (0, z) I2 R2 → PN X d mX11_isOwnHere 312 [(2, 306)] [(0, z)] I2 R2 Q) : PN X d mX11_isOwnHere 304 [(2, 306)] [] I R Q := by
  refine P_aload_n (n := 0) (q := 305) rfl rfl (by decide +kernel) ?_
  refine P_aload_n (n := 0) (q := 306) rfl rfl (by decide +kernel) ?_
  refine B_getfR (q := 309) fX11_134 kM306 (rM306_35 hs) rfl (by decide +kernel) ?_
  refine P_invV (As := [(2, 333)]) (q := 312) oX11_isHere rfl kM306 kX11_37 e1 hMF (Nat.le_of_ble_eq_true rfl) hc rfl (by decide +kernel) (fun z I2 R2 hq => ?_)
  exact (PW_sub (ls' := [(2, 306)]) ⟨Or.inr rfl, trivial⟩ (h z I2 R2 hq))
theorem S_X11_isOwnHere_312 {X : CX} {d : Nat} {o0 : Int} {I R : PF} {Q : PV → PF → PF → Prop} (c1 : -2147483648 ≤ o0 ∧ o0 < 2147483648) (h1 : o0 ≠ 0 → PN X d mX11_isOwnHere 370 [] [] I R Q) (h2 : o0 = 0 → PN X d mX11_isOwnHere 315 [(2, 306)] [] I R Q) : PN X d mX11_isOwnHere 312 [(2, 306)] [(0, o0)] I R Q := by
  refine B_if_ne (off := 58) (t := 370) (q := 315) c1 (by decide) rfl (by decide +kernel) ?_ ?_
  · exact fun g9 => (PW_sub (ls' := []) trivial (h1 g9))
  · exact fun g9 => (PW_sub (ls' := [(2, 306)]) ⟨Or.inr rfl, trivial⟩ (h2 g9))
theorem S_X11_isOwnHere_315 {X : CX} {d d1 : Nat} {I R : PF} {Q Q1 : PV → PF → PF → Prop} (hs : Shp R) (e1 : d1 + 1 ≤ d) (hc : CN X d1 mX11_isHere [(2, 306), (2, 334)] I R Q1) (h : ∀ z I2 R2, Q1 (0, z) I2 R2 → PN X d mX11_isOwnHere 323 [(2, 306)] [(0, z)] I2 R2 Q) : PN X d mX11_isOwnHere 315 [(2, 306)] [] I R Q := by
  refine P_aload_n (n := 0) (q := 316) rfl rfl (by decide +kernel) ?_
  refine P_aload_n (n := 0) (q := 317) rfl rfl (by decide +kernel) ?_
  refine B_getfR (q := 320) fX11_137 kM306 (rM306_36 hs) rfl (by decide +kernel) ?_
  refine P_invV (As := [(2, 334)]) (q := 323) oX11_isHere rfl kM306 kX11_37 e1 hMF (Nat.le_of_ble_eq_true rfl) hc rfl (by decide +kernel) (fun z I2 R2 hq => ?_)
  exact (PW_sub (ls' := [(2, 306)]) ⟨Or.inr rfl, trivial⟩ (h z I2 R2 hq))
theorem S_X11_isOwnHere_323 {X : CX} {d : Nat} {o0 : Int} {I R : PF} {Q : PV → PF → PF → Prop} (c1 : -2147483648 ≤ o0 ∧ o0 < 2147483648) (h1 : o0 ≠ 0 → PN X d mX11_isOwnHere 370 [] [] I R Q) (h2 : o0 = 0 → PN X d mX11_isOwnHere 326 [(2, 306)] [] I R Q) : PN X d mX11_isOwnHere 323 [(2, 306)] [(0, o0)] I R Q := by
  refine B_if_ne (off := 47) (t := 370) (q := 326) c1 (by decide) rfl (by decide +kernel) ?_ ?_
  · exact fun g9 => (PW_sub (ls' := []) trivial (h1 g9))
  · exact fun g9 => (PW_sub (ls' := [(2, 306)]) ⟨Or.inr rfl, trivial⟩ (h2 g9))
theorem S_X11_isOwnHere_326 {X : CX} {d d1 : Nat} {I R : PF} {Q Q1 : PV → PF → PF → Prop} (hs : Shp R) (e1 : d1 + 1 ≤ d) (hc : CN X d1 mX11_isHere [(2, 306), (2, 335)] I R Q1) (h : ∀ z I2 R2, Q1 (0, z) I2 R2 → PN X d mX11_isOwnHere 334 [(2, 306)] [(0, z)] I2 R2 Q) : PN X d mX11_isOwnHere 326 [(2, 306)] [] I R Q := by
  refine P_aload_n (n := 0) (q := 327) rfl rfl (by decide +kernel) ?_
  refine P_aload_n (n := 0) (q := 328) rfl rfl (by decide +kernel) ?_
  refine B_getfR (q := 331) fX11_140 kM306 (rM306_37 hs) rfl (by decide +kernel) ?_
  refine P_invV (As := [(2, 335)]) (q := 334) oX11_isHere rfl kM306 kX11_37 e1 hMF (Nat.le_of_ble_eq_true rfl) hc rfl (by decide +kernel) (fun z I2 R2 hq => ?_)
  exact (PW_sub (ls' := [(2, 306)]) ⟨Or.inr rfl, trivial⟩ (h z I2 R2 hq))
theorem S_X11_isOwnHere_334 {X : CX} {d : Nat} {o0 : Int} {I R : PF} {Q : PV → PF → PF → Prop} (c1 : -2147483648 ≤ o0 ∧ o0 < 2147483648) (h1 : o0 ≠ 0 → PN X d mX11_isOwnHere 370 [] [] I R Q) (h2 : o0 = 0 → PN X d mX11_isOwnHere 337 [(2, 306)] [] I R Q) : PN X d mX11_isOwnHere 334 [(2, 306)] [(0, o0)] I R Q := by
  refine B_if_ne (off := 36) (t := 370) (q := 337) c1 (by decide) rfl (by decide +kernel) ?_ ?_
  · exact fun g9 => (PW_sub (ls' := []) trivial (h1 g9))
  · exact fun g9 => (PW_sub (ls' := [(2, 306)]) ⟨Or.inr rfl, trivial⟩ (h2 g9))
theorem S_X11_isOwnHere_337 {X : CX} {d d1 : Nat} {I R : PF} {Q Q1 : PV → PF → PF → Prop} (hs : Shp R) (e1 : d1 + 1 ≤ d) (hc : CN X d1 mX11_isHere [(2, 306), (2, 336)] I R Q1) (h : ∀ z I2 R2, Q1 (0, z) I2 R2 → PN X d mX11_isOwnHere 345 [(2, 306)] [(0, z)] I2 R2 Q) : PN X d mX11_isOwnHere 337 [(2, 306)] [] I R Q := by
  refine P_aload_n (n := 0) (q := 338) rfl rfl (by decide +kernel) ?_
  refine P_aload_n (n := 0) (q := 339) rfl rfl (by decide +kernel) ?_
  refine B_getfR (q := 342) fX11_143 kM306 (rM306_38 hs) rfl (by decide +kernel) ?_
  refine P_invV (As := [(2, 336)]) (q := 345) oX11_isHere rfl kM306 kX11_37 e1 hMF (Nat.le_of_ble_eq_true rfl) hc rfl (by decide +kernel) (fun z I2 R2 hq => ?_)
  exact (PW_sub (ls' := [(2, 306)]) ⟨Or.inr rfl, trivial⟩ (h z I2 R2 hq))
theorem S_X11_isOwnHere_345 {X : CX} {d : Nat} {o0 : Int} {I R : PF} {Q : PV → PF → PF → Prop} (c1 : -2147483648 ≤ o0 ∧ o0 < 2147483648) (h1 : o0 ≠ 0 → PN X d mX11_isOwnHere 370 [] [] I R Q) (h2 : o0 = 0 → PN X d mX11_isOwnHere 348 [(2, 306)] [] I R Q) : PN X d mX11_isOwnHere 345 [(2, 306)] [(0, o0)] I R Q := by
  refine B_if_ne (off := 25) (t := 370) (q := 348) c1 (by decide) rfl (by decide +kernel) ?_ ?_
  · exact fun g9 => (PW_sub (ls' := []) trivial (h1 g9))
  · exact fun g9 => (PW_sub (ls' := [(2, 306)]) ⟨Or.inr rfl, trivial⟩ (h2 g9))
theorem S_X11_isOwnHere_348 {X : CX} {d d1 : Nat} {I R : PF} {Q Q1 : PV → PF → PF → Prop} (hs : Shp R) (e1 : d1 + 1 ≤ d) (hc : CN X d1 mX11_isHere [(2, 306), (2, 337)] I R Q1) (h : ∀ z I2 R2, Q1 (0, z) I2 R2 → PN X d mX11_isOwnHere 356 [(2, 306)] [(0, z)] I2 R2 Q) : PN X d mX11_isOwnHere 348 [(2, 306)] [] I R Q := by
  refine P_aload_n (n := 0) (q := 349) rfl rfl (by decide +kernel) ?_
  refine P_aload_n (n := 0) (q := 350) rfl rfl (by decide +kernel) ?_
  refine B_getfR (q := 353) fX11_146 kM306 (rM306_39 hs) rfl (by decide +kernel) ?_
  refine P_invV (As := [(2, 337)]) (q := 356) oX11_isHere rfl kM306 kX11_37 e1 hMF (Nat.le_of_ble_eq_true rfl) hc rfl (by decide +kernel) (fun z I2 R2 hq => ?_)
  exact (PW_sub (ls' := [(2, 306)]) ⟨Or.inr rfl, trivial⟩ (h z I2 R2 hq))
theorem S_X11_isOwnHere_356 {X : CX} {d : Nat} {o0 : Int} {I R : PF} {Q : PV → PF → PF → Prop} (c1 : -2147483648 ≤ o0 ∧ o0 < 2147483648) (h1 : o0 ≠ 0 → PN X d mX11_isOwnHere 370 [] [] I R Q) (h2 : o0 = 0 → PN X d mX11_isOwnHere 359 [(2, 306)] [] I R Q) : PN X d mX11_isOwnHere 356 [(2, 306)] [(0, o0)] I R Q := by
  refine B_if_ne (off := 14) (t := 370) (q := 359) c1 (by decide) rfl (by decide +kernel) ?_ ?_
  · exact fun g9 => (PW_sub (ls' := []) trivial (h1 g9))
  · exact fun g9 => (PW_sub (ls' := [(2, 306)]) ⟨Or.inr rfl, trivial⟩ (h2 g9))
theorem S_X11_isOwnHere_359 {X : CX} {d d1 : Nat} {I R : PF} {Q Q1 : PV → PF → PF → Prop} (hs : Shp R) (e1 : d1 + 1 ≤ d) (hc : CN X d1 mX11_isHere [(2, 306), (2, 338)] I R Q1) (h : ∀ z I2 R2, Q1 (0, z) I2 R2 → PN X d mX11_isOwnHere 367 [] [(0, z)] I2 R2 Q) : PN X d mX11_isOwnHere 359 [(2, 306)] [] I R Q := by
  refine P_aload_n (n := 0) (q := 360) rfl rfl (by decide +kernel) ?_
  refine P_aload_n (n := 0) (q := 361) rfl rfl (by decide +kernel) ?_
  refine B_getfR (q := 364) fX11_149 kM306 (rM306_40 hs) rfl (by decide +kernel) ?_
  refine P_invV (As := [(2, 338)]) (q := 367) oX11_isHere rfl kM306 kX11_37 e1 hMF (Nat.le_of_ble_eq_true rfl) hc rfl (by decide +kernel) (fun z I2 R2 hq => ?_)
  exact (PW_sub (ls' := []) trivial (h z I2 R2 hq))
theorem S_X11_isOwnHere_367 {X : CX} {d : Nat} {o0 : Int} {I R : PF} {Q : PV → PF → PF → Prop} (c1 : -2147483648 ≤ o0 ∧ o0 < 2147483648) (h1 : o0 = 0 → PN X d mX11_isOwnHere 374 [] [] I R Q) (h2 : o0 ≠ 0 → PN X d mX11_isOwnHere 370 [] [] I R Q) : PN X d mX11_isOwnHere 367 [] [(0, o0)] I R Q := by
  refine B_if_eq (off := 7) (t := 374) (q := 370) c1 (by decide) rfl (by decide +kernel) ?_ ?_
  · exact fun g9 => (PW_sub (ls' := []) trivial (h1 g9))
  · exact fun g9 => (PW_sub (ls' := []) trivial (h2 g9))
theorem S_X11_isOwnHere_370 {X : CX} {d : Nat} {I R : PF} {Q : PV → PF → PF → Prop} (h : PN X d mX11_isOwnHere 375 [] [(0, 1)] I R Q) : PN X d mX11_isOwnHere 370 [] [] I R Q := by
  refine P_iconst (n := 1) (q := 371) rfl (by decide +kernel) ?_
  refine P_goto (off := 4) (t := 375) (by decide) (by decide +kernel) ?_
  exact (PW_sub (ls' := []) trivial h)
theorem S_X11_isOwnHere_374 {X : CX} {d : Nat} {I R : PF} {Q : PV → PF → PF → Prop} (h : PN X d mX11_isOwnHere 375 [] [(0, 0)] I R Q) : PN X d mX11_isOwnHere 374 [] [] I R Q := by
  refine P_iconst (n := 0) (q := 375) rfl (by decide +kernel) ?_
  exact (PW_sub (ls' := []) trivial h)
theorem S_X11_isOwnHere_375 {X : CX} {d : Nat} {o0 : Int} {I R : PF} {Q : PV → PF → PF → Prop} (z1 : o0 = 0 ∨ o0 = 1) (h : Q (0, o0) I R) : PN X d mX11_isOwnHere 375 [] [(0, o0)] I R Q := by
  refine P_istore_n (n := 1) (by decide) (q := 376) rfl (by decide +kernel) ?_
  refine P_iload_n (n := 1) (q := 377) rfl rfl (by decide +kernel) ?_
  refine P_zret rfl z1 (by decide +kernel) h
theorem S_X11_isPerson_0 {X : CX} {d d1 : Nat} {x1 : Int} {I R : PF} {Q Q1 : PV → PF → PF → Prop} (c1 : -2147483648 ≤ x1 ∧ x1 < 2147483648) (e1 : d1 + 1 ≤ d) (hc : CN X d1 mX11_personMany [(2, 306)] I R Q1) (h : ∀ z I2 R2, Q1 (0, z) I2 R2 → PN X d mX11_isPerson 7 [] [(0, z), (1, 0), (1, x1)] I2 R2 Q) : PN X d mX11_isPerson 0 [(2, 306), (0, x1)] [] I R Q := by
  refine P_iload_n (n := 1) (q := 1) rfl rfl (by decide +kernel) ?_
  refine B_i2l (q := 2) c1 rfl (by decide +kernel) ?_
  refine P_lconst (n := 0) (x := 0) (q := 3) rfl rfl (by decide +kernel) ?_
  refine P_aload_n (n := 0) (q := 4) rfl rfl (by decide +kernel) ?_
  refine P_invV (As := []) (q := 7) oX11_personMany rfl kM306 kX11_420 e1 hMF (Nat.le_of_ble_eq_true rfl) hc rfl (by decide +kernel) (fun z I2 R2 hq => ?_)
  exact (PW_sub (ls' := []) trivial (h z I2 R2 hq))
theorem S_X11_isPerson_7 {X : CX} {d d1 : Nat} {v0 v1 o2 : Int} {I R : PF} {Q Q1 : PV → PF → PF → Prop} (c1 : -2147483648 ≤ (o2 - 1) ∧ (o2 - 1) < 2147483648) (e1 : d1 + 1 ≤ d) (hc : CN X d1 mX11_isIn [(1, v0), (1, v1), (1, (o2 - 1))] I R Q1) (h : ∀ z I2 R2, Q1 (0, z) I2 R2 → PN X d mX11_isPerson 13 [] [(0, z)] I2 R2 Q) : PN X d mX11_isPerson 7 [] [(0, o2), (1, v1), (1, v0)] I R Q := by
  refine P_iconst (n := 1) (q := 8) rfl (by decide +kernel) ?_
  refine P_isub (q := 9) rfl (by decide +kernel) ?_
  refine B_i2l (q := 10) c1 rfl (by decide +kernel) ?_
  refine P_invS (As := [(1, v0), (1, v1), (1, (o2 - 1))]) (q := 13) oX11_isIn rfl (Or.inl kX11_57) e1 hMF (Nat.le_of_ble_eq_true rfl) hc rfl (by decide +kernel) (fun z I2 R2 hq => ?_)
  exact (PW_sub (ls' := []) trivial (h z I2 R2 hq))
theorem S_X11_isPerson_13 {X : CX} {d : Nat} {o0 : Int} {I R : PF} {Q : PV → PF → PF → Prop} (z1 : o0 = 0 ∨ o0 = 1) (h : Q (0, o0) I R) : PN X d mX11_isPerson 13 [] [(0, o0)] I R Q := by
  refine P_zret rfl z1 (by decide +kernel) h
theorem S_X11_isPersonHere_0 {X : CX} {d d1 : Nat} {x1 : Int} {I R : PF} {Q Q1 : PV → PF → PF → Prop} (hs : Shp R) (b1 : (0 : Int) ≤ (4 + (6 * x1)) ∧ (4 + (6 * x1)) < 1600) (b2 : (0 : Int) ≤ ((4 + (6 * x1)) + 1) ∧ ((4 + (6 * x1)) + 1) < 1600) (e1 : d1 + 1 ≤ d) (hc : CN X d1 mX11_isInside [(2, 306), (0, (I 307 (4 + (6 * x1)))), (0, (I 307 ((4 + (6 * x1)) + 1)))] I R Q1) (h : ∀ z I2 R2, Q1 (0, z) I2 R2 → PN X d mX11_isPersonHere 25 [(2, 306), (9, 0), (0, (4 + (6 * x1)))] [(0, z)] I2 R2 Q) : PN X d mX11_isPersonHere 0 [(2, 306), (0, x1)] [] I R Q := by
  refine P_iconst (n := 4) (q := 1) rfl (by decide +kernel) ?_
  refine P_bipush (n := 6) (q := 3) rfl rfl (by decide +kernel) ?_
  refine P_iload_n (n := 1) (q := 4) rfl rfl (by decide +kernel) ?_
  refine P_imul (q := 5) rfl (by decide +kernel) ?_
  refine P_iadd (q := 6) rfl (by decide +kernel) ?_
  refine P_istore_n (n := 2) (by decide) (q := 7) rfl (by decide +kernel) ?_
  refine P_aload_n (n := 0) (q := 8) rfl rfl (by decide +kernel) ?_
  refine P_aload_n (n := 0) (q := 9) rfl rfl (by decide +kernel) ?_
  refine B_getfR (q := 12) fX11_11 kM306 (rM306_0 hs) rfl (by decide +kernel) ?_
  refine P_iload_n (n := 2) (q := 13) rfl rfl (by decide +kernel) ?_
  refine B_iaload (q := 14) kM307 nM307 (by decide) b1 rfl (by decide +kernel) ?_
  refine P_aload_n (n := 0) (q := 15) rfl rfl (by decide +kernel) ?_
  refine B_getfR (q := 18) fX11_11 kM306 (rM306_0 hs) rfl (by decide +kernel) ?_
  refine P_iload_n (n := 2) (q := 19) rfl rfl (by decide +kernel) ?_
  refine P_iconst (n := 1) (q := 20) rfl (by decide +kernel) ?_
  refine P_iadd (q := 21) rfl (by decide +kernel) ?_
  refine B_iaload (q := 22) kM307 nM307 (by decide) b2 rfl (by decide +kernel) ?_
  refine P_invV (As := [(0, (I 307 (4 + (6 * x1)))), (0, (I 307 ((4 + (6 * x1)) + 1)))]) (q := 25) oX11_isInside rfl kM306 kX11_467 e1 hMF (Nat.le_of_ble_eq_true rfl) hc rfl (by decide +kernel) (fun z I2 R2 hq => ?_)
  exact (PW_sub (ls' := [(2, 306), (9, 0), (0, (4 + (6 * x1)))]) ⟨Or.inr rfl, Or.inl rfl, Or.inr rfl, trivial⟩ (h z I2 R2 hq))
theorem S_X11_isPersonHere_25 {X : CX} {d : Nat} {x2 o0 : Int} {I R : PF} {Q : PV → PF → PF → Prop} (c1 : -2147483648 ≤ o0 ∧ o0 < 2147483648) (h1 : o0 = 0 → PN X d mX11_isPersonHere 101 [] [] I R Q) (h2 : o0 ≠ 0 → PN X d mX11_isPersonHere 28 [(2, 306), (9, 0), (0, x2)] [] I R Q) : PN X d mX11_isPersonHere 25 [(2, 306), (9, 0), (0, x2)] [(0, o0)] I R Q := by
  refine B_if_eq (off := 76) (t := 101) (q := 28) c1 (by decide) rfl (by decide +kernel) ?_ ?_
  · exact fun g9 => (PW_sub (ls' := []) trivial (h1 g9))
  · exact fun g9 => (h2 g9)
theorem S_X11_isPersonHere_28 {X : CX} {d d1 : Nat} {x2 : Int} {I R : PF} {Q Q1 : PV → PF → PF → Prop} (hs : Shp R) (b1 : (0 : Int) ≤ x2 ∧ x2 < 1600) (b2 : (0 : Int) ≤ (x2 + 1) ∧ (x2 + 1) < 1600) (e1 : d1 + 1 ≤ d) (hc : CN X d1 mX11_isWall [(2, 306), (0, (I 307 x2)), (0, (I 307 (x2 + 1)))] I R Q1) (h : ∀ z I2 R2, Q1 (0, z) I2 R2 → PN X d mX11_isPersonHere 46 [(2, 306), (9, 0), (0, x2)] [(0, z)] I2 R2 Q) : PN X d mX11_isPersonHere 28 [(2, 306), (9, 0), (0, x2)] [] I R Q := by
  refine P_aload_n (n := 0) (q := 29) rfl rfl (by decide +kernel) ?_
  refine P_aload_n (n := 0) (q := 30) rfl rfl (by decide +kernel) ?_
  refine B_getfR (q := 33) fX11_11 kM306 (rM306_0 hs) rfl (by decide +kernel) ?_
  refine P_iload_n (n := 2) (q := 34) rfl rfl (by decide +kernel) ?_
  refine B_iaload (q := 35) kM307 nM307 (by decide) b1 rfl (by decide +kernel) ?_
  refine P_aload_n (n := 0) (q := 36) rfl rfl (by decide +kernel) ?_
  refine B_getfR (q := 39) fX11_11 kM306 (rM306_0 hs) rfl (by decide +kernel) ?_
  refine P_iload_n (n := 2) (q := 40) rfl rfl (by decide +kernel) ?_
  refine P_iconst (n := 1) (q := 41) rfl (by decide +kernel) ?_
  refine P_iadd (q := 42) rfl (by decide +kernel) ?_
  refine B_iaload (q := 43) kM307 nM307 (by decide) b2 rfl (by decide +kernel) ?_
  refine P_invV (As := [(0, (I 307 x2)), (0, (I 307 (x2 + 1)))]) (q := 46) oX11_isWall rfl kM306 kX11_453 e1 hMF (Nat.le_of_ble_eq_true rfl) hc rfl (by decide +kernel) (fun z I2 R2 hq => ?_)
  exact (h z I2 R2 hq)
theorem S_X11_isPersonHere_46 {X : CX} {d : Nat} {x2 o0 : Int} {I R : PF} {Q : PV → PF → PF → Prop} (c1 : -2147483648 ≤ o0 ∧ o0 < 2147483648) (h1 : o0 ≠ 0 → PN X d mX11_isPersonHere 101 [] [] I R Q) (h2 : o0 = 0 → PN X d mX11_isPersonHere 49 [(2, 306), (9, 0), (0, x2)] [] I R Q) : PN X d mX11_isPersonHere 46 [(2, 306), (9, 0), (0, x2)] [(0, o0)] I R Q := by
  refine B_if_ne (off := 55) (t := 101) (q := 49) c1 (by decide) rfl (by decide +kernel) ?_ ?_
  · exact fun g9 => (PW_sub (ls' := []) trivial (h1 g9))
  · exact fun g9 => (h2 g9)
theorem S_X11_isPersonHere_49 {X : CX} {d : Nat} {x2 : Int} {I R : PF} {Q : PV → PF → PF → Prop} (hs : Shp R) (b1 : (0 : Int) ≤ (x2 + 2) ∧ (x2 + 2) < 1600) (c1 : -2147483648 ≤ (I 307 (x2 + 2)) ∧ (I 307 (x2 + 2)) < 2147483648) (h1 : 8 < (I 307 (x2 + 2)) → PN X d mX11_isPersonHere 101 [] [] I R Q) (h2 : (I 307 (x2 + 2)) ≤ 8 → PN X d mX11_isPersonHere 62 [(2, 306), (9, 0), (0, x2)] [] I R Q) : PN X d mX11_isPersonHere 49 [(2, 306), (9, 0), (0, x2)] [] I R Q := by
  refine P_aload_n (n := 0) (q := 50) rfl rfl (by decide +kernel) ?_
  refine B_getfR (q := 53) fX11_11 kM306 (rM306_0 hs) rfl (by decide +kernel) ?_
  refine P_iload_n (n := 2) (q := 54) rfl rfl (by decide +kernel) ?_
  refine P_iconst (n := 2) (q := 55) rfl (by decide +kernel) ?_
  refine P_iadd (q := 56) rfl (by decide +kernel) ?_
  refine B_iaload (q := 57) kM307 nM307 (by decide) b1 rfl (by decide +kernel) ?_
  refine P_bipush (n := 8) (q := 59) rfl rfl (by decide +kernel) ?_
  refine B_icmp_gt (off := 42) (t := 101) (q := 62) c1 ⟨by decide, by decide⟩ (by decide) rfl (by decide +kernel) ?_ ?_
  · exact fun g9 => (PW_sub (ls' := []) trivial (h1 g9))
  · exact fun g9 => (h2 g9)
theorem S_X11_isPersonHere_62 {X : CX} {d : Nat} {x2 : Int} {I R : PF} {Q : PV → PF → PF → Prop} (hs : Shp R) (b1 : (0 : Int) ≤ (x2 + 3) ∧ (x2 + 3) < 1600) (c1 : -2147483648 ≤ (I 307 (x2 + 3)) ∧ (I 307 (x2 + 3)) < 2147483648) (h1 : 3 < (I 307 (x2 + 3)) → PN X d mX11_isPersonHere 101 [] [] I R Q) (h2 : (I 307 (x2 + 3)) ≤ 3 → PN X d mX11_isPersonHere 74 [(2, 306), (9, 0), (0, x2)] [] I R Q) : PN X d mX11_isPersonHere 62 [(2, 306), (9, 0), (0, x2)] [] I R Q := by
  refine P_aload_n (n := 0) (q := 63) rfl rfl (by decide +kernel) ?_
  refine B_getfR (q := 66) fX11_11 kM306 (rM306_0 hs) rfl (by decide +kernel) ?_
  refine P_iload_n (n := 2) (q := 67) rfl rfl (by decide +kernel) ?_
  refine P_iconst (n := 3) (q := 68) rfl (by decide +kernel) ?_
  refine P_iadd (q := 69) rfl (by decide +kernel) ?_
  refine B_iaload (q := 70) kM307 nM307 (by decide) b1 rfl (by decide +kernel) ?_
  refine P_iconst (n := 3) (q := 71) rfl (by decide +kernel) ?_
  refine B_icmp_gt (off := 30) (t := 101) (q := 74) c1 ⟨by decide, by decide⟩ (by decide) rfl (by decide +kernel) ?_ ?_
  · exact fun g9 => (PW_sub (ls' := []) trivial (h1 g9))
  · exact fun g9 => (h2 g9)
theorem S_X11_isPersonHere_74 {X : CX} {d : Nat} {x2 : Int} {I R : PF} {Q : PV → PF → PF → Prop} (hs : Shp R) (b1 : (0 : Int) ≤ (x2 + 4) ∧ (x2 + 4) < 1600) (b2 : (0 : Int) ≤ (x2 + 5) ∧ (x2 + 5) < 1600) (c1 : -2147483648 ≤ ((256 * (I 307 (x2 + 4))) + (I 307 (x2 + 5))) ∧ ((256 * (I 307 (x2 + 4))) + (I 307 (x2 + 5))) < 2147483648) (h1 : ((256 * (I 307 (x2 + 4))) + (I 307 (x2 + 5))) ≤ 999 → PN X d mX11_isPersonHere 103 [(2, 306), (9, 0), (0, x2)] [] I R Q) (h2 : 999 < ((256 * (I 307 (x2 + 4))) + (I 307 (x2 + 5))) → PN X d mX11_isPersonHere 101 [] [] I R Q) : PN X d mX11_isPersonHere 74 [(2, 306), (9, 0), (0, x2)] [] I R Q := by
  refine P_sipush (n := 256) (q := 77) rfl rfl (by decide +kernel) ?_
  refine P_aload_n (n := 0) (q := 78) rfl rfl (by decide +kernel) ?_
  refine B_getfR (q := 81) fX11_11 kM306 (rM306_0 hs) rfl (by decide +kernel) ?_
  refine P_iload_n (n := 2) (q := 82) rfl rfl (by decide +kernel) ?_
  refine P_iconst (n := 4) (q := 83) rfl (by decide +kernel) ?_
  refine P_iadd (q := 84) rfl (by decide +kernel) ?_
  refine B_iaload (q := 85) kM307 nM307 (by decide) b1 rfl (by decide +kernel) ?_
  refine P_imul (q := 86) rfl (by decide +kernel) ?_
  refine P_aload_n (n := 0) (q := 87) rfl rfl (by decide +kernel) ?_
  refine B_getfR (q := 90) fX11_11 kM306 (rM306_0 hs) rfl (by decide +kernel) ?_
  refine P_iload_n (n := 2) (q := 91) rfl rfl (by decide +kernel) ?_
  refine P_iconst (n := 5) (q := 92) rfl (by decide +kernel) ?_
  refine P_iadd (q := 93) rfl (by decide +kernel) ?_
  refine B_iaload (q := 94) kM307 nM307 (by decide) b2 rfl (by decide +kernel) ?_
  refine P_iadd (q := 95) rfl (by decide +kernel) ?_
  refine P_sipush (n := 999) (q := 98) rfl rfl (by decide +kernel) ?_
  refine B_icmp_le (off := 5) (t := 103) (q := 101) c1 ⟨by decide, by decide⟩ (by decide) rfl (by decide +kernel) ?_ ?_
  · exact fun g9 => (h1 g9)
  · exact fun g9 => (PW_sub (ls' := []) trivial (h2 g9))
theorem S_X11_isPersonHere_101 {X : CX} {d : Nat} {I R : PF} {Q : PV → PF → PF → Prop} (h : Q (0, 0) I R) : PN X d mX11_isPersonHere 101 [] [] I R Q := by
  refine P_iconst (n := 0) (q := 102) rfl (by decide +kernel) ?_
  refine P_zret rfl (Or.inl rfl) (by decide +kernel) h
theorem S_X11_isPersonHere_103 {X : CX} {d : Nat} {x2 : Int} {I R : PF} {Q : PV → PF → PF → Prop} (h : PN X d mX11_isPersonHere 105 [(2, 306), (9, 0), (0, x2), (0, 4)] [] I R Q) : PN X d mX11_isPersonHere 103 [(2, 306), (9, 0), (0, x2)] [] I R Q := by
  refine P_iconst (n := 4) (q := 104) rfl (by decide +kernel) ?_
  refine P_istore_n (n := 3) (by decide) (q := 105) rfl (by decide +kernel) ?_
  exact h
theorem S_X11_isPersonHere_105 {X : CX} {d : Nat} {x2 x3 : Int} {I R : PF} {Q : PV → PF → PF → Prop} (c1 : -2147483648 ≤ x3 ∧ x3 < 2147483648) (c2 : -2147483648 ≤ x2 ∧ x2 < 2147483648) (h1 : x2 ≤ x3 → PN X d mX11_isPersonHere 152 [] [] I R Q) (h2 : x3 < x2 → PN X d mX11_isPersonHere 110 [(2, 306), (9, 0), (0, x2), (0, x3)] [] I R Q) : PN X d mX11_isPersonHere 105 [(2, 306), (9, 0), (0, x2), (0, x3)] [] I R Q := by
  refine P_iload_n (n := 3) (q := 106) rfl rfl (by decide +kernel) ?_
  refine P_iload_n (n := 2) (q := 107) rfl rfl (by decide +kernel) ?_
  refine B_icmp_ge (off := 45) (t := 152) (q := 110) c1 c2 (by decide) rfl (by decide +kernel) ?_ ?_
  · exact fun g9 => (PW_sub (ls' := []) trivial (h1 g9))
  · exact fun g9 => (h2 g9)
theorem S_X11_isPersonHere_110 {X : CX} {d : Nat} {x2 x3 : Int} {I R : PF} {Q : PV → PF → PF → Prop} (hs : Shp R) (b1 : (0 : Int) ≤ x3 ∧ x3 < 1600) (b2 : (0 : Int) ≤ x2 ∧ x2 < 1600) (c1 : -2147483648 ≤ (I 307 x3) ∧ (I 307 x3) < 2147483648) (c2 : -2147483648 ≤ (I 307 x2) ∧ (I 307 x2) < 2147483648) (h1 : (I 307 x3) ≠ (I 307 x2) → PN X d mX11_isPersonHere 146 [(2, 306), (9, 0), (0, x2), (0, x3)] [] I R Q) (h2 : (I 307 x3) = (I 307 x2) → PN X d mX11_isPersonHere 125 [(2, 306), (9, 0), (0, x2), (0, x3)] [] I R Q) : PN X d mX11_isPersonHere 110 [(2, 306), (9, 0), (0, x2), (0, x3)] [] I R Q := by
  refine P_aload_n (n := 0) (q := 111) rfl rfl (by decide +kernel) ?_
  refine B_getfR (q := 114) fX11_11 kM306 (rM306_0 hs) rfl (by decide +kernel) ?_
  refine P_iload_n (n := 3) (q := 115) rfl rfl (by decide +kernel) ?_
  refine B_iaload (q := 116) kM307 nM307 (by decide) b1 rfl (by decide +kernel) ?_
  refine P_aload_n (n := 0) (q := 117) rfl rfl (by decide +kernel) ?_
  refine B_getfR (q := 120) fX11_11 kM306 (rM306_0 hs) rfl (by decide +kernel) ?_
  refine P_iload_n (n := 2) (q := 121) rfl rfl (by decide +kernel) ?_
  refine B_iaload (q := 122) kM307 nM307 (by decide) b2 rfl (by decide +kernel) ?_
  refine B_icmp_ne (off := 24) (t := 146) (q := 125) c1 c2 (by decide) rfl (by decide +kernel) ?_ ?_
  · exact fun g9 => (h1 g9)
  · exact fun g9 => (h2 g9)
theorem S_X11_isPersonHere_125 {X : CX} {d : Nat} {x2 x3 : Int} {I R : PF} {Q : PV → PF → PF → Prop} (hs : Shp R) (b1 : (0 : Int) ≤ (x3 + 1) ∧ (x3 + 1) < 1600) (b2 : (0 : Int) ≤ (x2 + 1) ∧ (x2 + 1) < 1600) (c1 : -2147483648 ≤ (I 307 (x3 + 1)) ∧ (I 307 (x3 + 1)) < 2147483648) (c2 : -2147483648 ≤ (I 307 (x2 + 1)) ∧ (I 307 (x2 + 1)) < 2147483648) (h1 : (I 307 (x3 + 1)) ≠ (I 307 (x2 + 1)) → PN X d mX11_isPersonHere 146 [(2, 306), (9, 0), (0, x2), (0, x3)] [] I R Q) (h2 : (I 307 (x3 + 1)) = (I 307 (x2 + 1)) → PN X d mX11_isPersonHere 144 [] [] I R Q) : PN X d mX11_isPersonHere 125 [(2, 306), (9, 0), (0, x2), (0, x3)] [] I R Q := by
  refine P_aload_n (n := 0) (q := 126) rfl rfl (by decide +kernel) ?_
  refine B_getfR (q := 129) fX11_11 kM306 (rM306_0 hs) rfl (by decide +kernel) ?_
  refine P_iload_n (n := 3) (q := 130) rfl rfl (by decide +kernel) ?_
  refine P_iconst (n := 1) (q := 131) rfl (by decide +kernel) ?_
  refine P_iadd (q := 132) rfl (by decide +kernel) ?_
  refine B_iaload (q := 133) kM307 nM307 (by decide) b1 rfl (by decide +kernel) ?_
  refine P_aload_n (n := 0) (q := 134) rfl rfl (by decide +kernel) ?_
  refine B_getfR (q := 137) fX11_11 kM306 (rM306_0 hs) rfl (by decide +kernel) ?_
  refine P_iload_n (n := 2) (q := 138) rfl rfl (by decide +kernel) ?_
  refine P_iconst (n := 1) (q := 139) rfl (by decide +kernel) ?_
  refine P_iadd (q := 140) rfl (by decide +kernel) ?_
  refine B_iaload (q := 141) kM307 nM307 (by decide) b2 rfl (by decide +kernel) ?_
  refine B_icmp_ne (off := 5) (t := 146) (q := 144) c1 c2 (by decide) rfl (by decide +kernel) ?_ ?_
  · exact fun g9 => (h1 g9)
  · exact fun g9 => (PW_sub (ls' := []) trivial (h2 g9))
theorem S_X11_isPersonHere_144 {X : CX} {d : Nat} {I R : PF} {Q : PV → PF → PF → Prop} (h : Q (0, 0) I R) : PN X d mX11_isPersonHere 144 [] [] I R Q := by
  refine P_iconst (n := 0) (q := 145) rfl (by decide +kernel) ?_
  refine P_zret rfl (Or.inl rfl) (by decide +kernel) h
theorem S_X11_isPersonHere_146 {X : CX} {d : Nat} {x2 x3 : Int} {I R : PF} {Q : PV → PF → PF → Prop} (h : PN X d mX11_isPersonHere 105 [(2, 306), (9, 0), (0, x2), (0, (x3 + 6))] [] I R Q) : PN X d mX11_isPersonHere 146 [(2, 306), (9, 0), (0, x2), (0, x3)] [] I R Q := by
  refine P_iinc (n := 3) (a := 6) (by decide) rfl (q := 149) rfl (by decide +kernel) ?_
  refine P_goto (off := (-44)) (t := 105) (by decide) (by decide +kernel) ?_
  exact h
theorem S_X11_isPersonHere_152 {X : CX} {d : Nat} {I R : PF} {Q : PV → PF → PF → Prop} (h : Q (0, 1) I R) : PN X d mX11_isPersonHere 152 [] [] I R Q := by
  refine P_iconst (n := 1) (q := 153) rfl (by decide +kernel) ?_
  refine P_zret rfl (Or.inr rfl) (by decide +kernel) h
theorem S_X11_isPersonTold_0 {X : CX} {d : Nat} {x1 x2 : Int} {I R : PF} {Q : PV → PF → PF → Prop} (h : PN X d mX11_isPersonTold 2 [(2, 306), (0, x1), (0, x2), (0, 0)] [] I R Q) : PN X d mX11_isPersonTold 0 [(2, 306), (0, x1), (0, x2)] [] I R Q := by
  refine P_iconst (n := 0) (q := 1) rfl (by decide +kernel) ?_
  refine P_istore_n (n := 3) (by decide) (q := 2) rfl (by decide +kernel) ?_
  exact h
theorem S_X11_isPersonTold_2 {X : CX} {d : Nat} {x1 x2 x3 : Int} {I R : PF} {Q : PV → PF → PF → Prop} (hs : Shp R) (c1 : -2147483648 ≤ x3 ∧ x3 < 2147483648) (c2 : -2147483648 ≤ (I 339 1) ∧ (I 339 1) < 2147483648) (h1 : (I 339 1) ≤ x3 → PN X d mX11_isPersonTold 46 [] [] I R Q) (h2 : x3 < (I 339 1) → PN X d mX11_isPersonTold 12 [(2, 306), (0, x1), (0, x2), (0, x3)] [] I R Q) : PN X d mX11_isPersonTold 2 [(2, 306), (0, x1), (0, x2), (0, x3)] [] I R Q := by
  refine P_iload_n (n := 3) (q := 3) rfl rfl (by decide +kernel) ?_
  refine P_aload_n (n := 0) (q := 4) rfl rfl (by decide +kernel) ?_
  refine B_getfR (q := 7) fX11_166 kM306 (rM306_42 hs) rfl (by decide +kernel) ?_
  refine P_iconst (n := 1) (q := 8) rfl (by decide +kernel) ?_
  refine B_iaload (q := 9) kM339 nM339 (by decide) ⟨by decide, by decide⟩ rfl (by decide +kernel) ?_
  refine B_icmp_ge (off := 37) (t := 46) (q := 12) c1 c2 (by decide) rfl (by decide +kernel) ?_ ?_
  · exact fun g9 => (PW_sub (ls' := []) trivial (h1 g9))
  · exact fun g9 => (h2 g9)
theorem S_X11_isPersonTold_12 {X : CX} {d : Nat} {x1 x2 x3 : Int} {I R : PF} {Q : PV → PF → PF → Prop} (hs : Shp R) (b1 : (0 : Int) ≤ (4 * x3) ∧ (4 * x3) < 24) (c1 : -2147483648 ≤ (I 343 (4 * x3)) ∧ (I 343 (4 * x3)) < 2147483648) (c2 : -2147483648 ≤ x1 ∧ x1 < 2147483648) (h1 : (I 343 (4 * x3)) ≠ x1 → PN X d mX11_isPersonTold 40 [(2, 306), (0, x1), (0, x2), (0, x3)] [] I R Q) (h2 : (I 343 (4 * x3)) = x1 → PN X d mX11_isPersonTold 24 [(2, 306), (0, x1), (0, x2), (0, x3)] [] I R Q) : PN X d mX11_isPersonTold 12 [(2, 306), (0, x1), (0, x2), (0, x3)] [] I R Q := by
  refine P_aload_n (n := 0) (q := 13) rfl rfl (by decide +kernel) ?_
  refine B_getfR (q := 16) fX11_199 kM306 (rM306_46 hs) rfl (by decide +kernel) ?_
  refine P_iconst (n := 4) (q := 17) rfl (by decide +kernel) ?_
  refine P_iload_n (n := 3) (q := 18) rfl rfl (by decide +kernel) ?_
  refine P_imul (q := 19) rfl (by decide +kernel) ?_
  refine B_iaload (q := 20) kM343 nM343 (by decide) b1 rfl (by decide +kernel) ?_
  refine P_iload_n (n := 1) (q := 21) rfl rfl (by decide +kernel) ?_
  refine B_icmp_ne (off := 19) (t := 40) (q := 24) c1 c2 (by decide) rfl (by decide +kernel) ?_ ?_
  · exact fun g9 => (h1 g9)
  · exact fun g9 => (h2 g9)
theorem S_X11_isPersonTold_24 {X : CX} {d : Nat} {x1 x2 x3 : Int} {I R : PF} {Q : PV → PF → PF → Prop} (hs : Shp R) (b1 : (0 : Int) ≤ ((4 * x3) + 1) ∧ ((4 * x3) + 1) < 24) (c1 : -2147483648 ≤ (I 343 ((4 * x3) + 1)) ∧ (I 343 ((4 * x3) + 1)) < 2147483648) (c2 : -2147483648 ≤ x2 ∧ x2 < 2147483648) (h1 : (I 343 ((4 * x3) + 1)) ≠ x2 → PN X d mX11_isPersonTold 40 [(2, 306), (0, x1), (0, x2), (0, x3)] [] I R Q) (h2 : (I 343 ((4 * x3) + 1)) = x2 → PN X d mX11_isPersonTold 38 [] [] I R Q) : PN X d mX11_isPersonTold 24 [(2, 306), (0, x1), (0, x2), (0, x3)] [] I R Q := by
  refine P_aload_n (n := 0) (q := 25) rfl rfl (by decide +kernel) ?_
  refine B_getfR (q := 28) fX11_199 kM306 (rM306_46 hs) rfl (by decide +kernel) ?_
  refine P_iconst (n := 4) (q := 29) rfl (by decide +kernel) ?_
  refine P_iload_n (n := 3) (q := 30) rfl rfl (by decide +kernel) ?_
  refine P_imul (q := 31) rfl (by decide +kernel) ?_
  refine P_iconst (n := 1) (q := 32) rfl (by decide +kernel) ?_
  refine P_iadd (q := 33) rfl (by decide +kernel) ?_
  refine B_iaload (q := 34) kM343 nM343 (by decide) b1 rfl (by decide +kernel) ?_
  refine P_iload_n (n := 2) (q := 35) rfl rfl (by decide +kernel) ?_
  refine B_icmp_ne (off := 5) (t := 40) (q := 38) c1 c2 (by decide) rfl (by decide +kernel) ?_ ?_
  · exact fun g9 => (h1 g9)
  · exact fun g9 => (PW_sub (ls' := []) trivial (h2 g9))
theorem S_X11_isPersonTold_38 {X : CX} {d : Nat} {I R : PF} {Q : PV → PF → PF → Prop} (h : Q (0, 1) I R) : PN X d mX11_isPersonTold 38 [] [] I R Q := by
  refine P_iconst (n := 1) (q := 39) rfl (by decide +kernel) ?_
  refine P_zret rfl (Or.inr rfl) (by decide +kernel) h
theorem S_X11_isPersonTold_40 {X : CX} {d : Nat} {x1 x2 x3 : Int} {I R : PF} {Q : PV → PF → PF → Prop} (h : PN X d mX11_isPersonTold 2 [(2, 306), (0, x1), (0, x2), (0, (x3 + 1))] [] I R Q) : PN X d mX11_isPersonTold 40 [(2, 306), (0, x1), (0, x2), (0, x3)] [] I R Q := by
  refine P_iinc (n := 3) (a := 1) (by decide) rfl (q := 43) rfl (by decide +kernel) ?_
  refine P_goto (off := (-41)) (t := 2) (by decide) (by decide +kernel) ?_
  exact h
theorem S_X11_isPersonTold_46 {X : CX} {d : Nat} {I R : PF} {Q : PV → PF → PF → Prop} (h : Q (0, 0) I R) : PN X d mX11_isPersonTold 46 [] [] I R Q := by
  refine P_iconst (n := 0) (q := 47) rfl (by decide +kernel) ?_
  refine P_zret rfl (Or.inl rfl) (by decide +kernel) h
theorem S_X11_isWall_0 {X : CX} {d : Nat} {x1 x2 : Int} {I R : PF} {Q : PV → PF → PF → Prop} (h : PN X d mX11_isWall 2 [(2, 306), (0, x1), (0, x2), (0, 0)] [] I R Q) : PN X d mX11_isWall 0 [(2, 306), (0, x1), (0, x2)] [] I R Q := by
  refine P_iconst (n := 0) (q := 1) rfl (by decide +kernel) ?_
  refine P_istore_n (n := 3) (by decide) (q := 2) rfl (by decide +kernel) ?_
  exact h
theorem S_X11_isWall_2 {X : CX} {d : Nat} {x1 x2 x3 : Int} {I R : PF} {Q : PV → PF → PF → Prop} (hs : Shp R) (c1 : -2147483648 ≤ x3 ∧ x3 < 2147483648) (c2 : -2147483648 ≤ (I 339 5) ∧ (I 339 5) < 2147483648) (h1 : (I 339 5) ≤ x3 → PN X d mX11_isWall 50 [] [] I R Q) (h2 : x3 < (I 339 5) → PN X d mX11_isWall 12 [(2, 306), (0, x1), (0, x2), (0, x3)] [] I R Q) : PN X d mX11_isWall 2 [(2, 306), (0, x1), (0, x2), (0, x3)] [] I R Q := by
  refine P_iload_n (n := 3) (q := 3) rfl rfl (by decide +kernel) ?_
  refine P_aload_n (n := 0) (q := 4) rfl rfl (by decide +kernel) ?_
  refine B_getfR (q := 7) fX11_166 kM306 (rM306_42 hs) rfl (by decide +kernel) ?_
  refine P_iconst (n := 5) (q := 8) rfl (by decide +kernel) ?_
  refine B_iaload (q := 9) kM339 nM339 (by decide) ⟨by decide, by decide⟩ rfl (by decide +kernel) ?_
  refine B_icmp_ge (off := 41) (t := 50) (q := 12) c1 c2 (by decide) rfl (by decide +kernel) ?_ ?_
  · exact fun g9 => (PW_sub (ls' := []) trivial (h1 g9))
  · exact fun g9 => (h2 g9)
theorem S_X11_isWall_12 {X : CX} {d : Nat} {x1 x2 x3 : Int} {I R : PF} {Q : PV → PF → PF → Prop} (hs : Shp R) (b1 : (0 : Int) ≤ (20 + (2 * x3)) ∧ (20 + (2 * x3)) < 40) (c1 : -2147483648 ≤ (I 344 (20 + (2 * x3))) ∧ (I 344 (20 + (2 * x3))) < 2147483648) (c2 : -2147483648 ≤ x1 ∧ x1 < 2147483648) (h1 : (I 344 (20 + (2 * x3))) ≠ x1 → PN X d mX11_isWall 44 [(2, 306), (0, x1), (0, x2), (0, x3)] [] I R Q) (h2 : (I 344 (20 + (2 * x3))) = x1 → PN X d mX11_isWall 27 [(2, 306), (0, x1), (0, x2), (0, x3)] [] I R Q) : PN X d mX11_isWall 12 [(2, 306), (0, x1), (0, x2), (0, x3)] [] I R Q := by
  refine P_aload_n (n := 0) (q := 13) rfl rfl (by decide +kernel) ?_
  refine B_getfR (q := 16) fX11_196 kM306 (rM306_47 hs) rfl (by decide +kernel) ?_
  refine P_bipush (n := 20) (q := 18) rfl rfl (by decide +kernel) ?_
  refine P_iconst (n := 2) (q := 19) rfl (by decide +kernel) ?_
  refine P_iload_n (n := 3) (q := 20) rfl rfl (by decide +kernel) ?_
  refine P_imul (q := 21) rfl (by decide +kernel) ?_
  refine P_iadd (q := 22) rfl (by decide +kernel) ?_
  refine B_iaload (q := 23) kM344 nM344 (by decide) b1 rfl (by decide +kernel) ?_
  refine P_iload_n (n := 1) (q := 24) rfl rfl (by decide +kernel) ?_
  refine B_icmp_ne (off := 20) (t := 44) (q := 27) c1 c2 (by decide) rfl (by decide +kernel) ?_ ?_
  · exact fun g9 => (h1 g9)
  · exact fun g9 => (h2 g9)
theorem S_X11_isWall_27 {X : CX} {d : Nat} {x1 x2 x3 : Int} {I R : PF} {Q : PV → PF → PF → Prop} (hs : Shp R) (b1 : (0 : Int) ≤ (21 + (2 * x3)) ∧ (21 + (2 * x3)) < 40) (c1 : -2147483648 ≤ (I 344 (21 + (2 * x3))) ∧ (I 344 (21 + (2 * x3))) < 2147483648) (c2 : -2147483648 ≤ x2 ∧ x2 < 2147483648) (h1 : (I 344 (21 + (2 * x3))) ≠ x2 → PN X d mX11_isWall 44 [(2, 306), (0, x1), (0, x2), (0, x3)] [] I R Q) (h2 : (I 344 (21 + (2 * x3))) = x2 → PN X d mX11_isWall 42 [] [] I R Q) : PN X d mX11_isWall 27 [(2, 306), (0, x1), (0, x2), (0, x3)] [] I R Q := by
  refine P_aload_n (n := 0) (q := 28) rfl rfl (by decide +kernel) ?_
  refine B_getfR (q := 31) fX11_196 kM306 (rM306_47 hs) rfl (by decide +kernel) ?_
  refine P_bipush (n := 21) (q := 33) rfl rfl (by decide +kernel) ?_
  refine P_iconst (n := 2) (q := 34) rfl (by decide +kernel) ?_
  refine P_iload_n (n := 3) (q := 35) rfl rfl (by decide +kernel) ?_
  refine P_imul (q := 36) rfl (by decide +kernel) ?_
  refine P_iadd (q := 37) rfl (by decide +kernel) ?_
  refine B_iaload (q := 38) kM344 nM344 (by decide) b1 rfl (by decide +kernel) ?_
  refine P_iload_n (n := 2) (q := 39) rfl rfl (by decide +kernel) ?_
  refine B_icmp_ne (off := 5) (t := 44) (q := 42) c1 c2 (by decide) rfl (by decide +kernel) ?_ ?_
  · exact fun g9 => (h1 g9)
  · exact fun g9 => (PW_sub (ls' := []) trivial (h2 g9))
theorem S_X11_isWall_42 {X : CX} {d : Nat} {I R : PF} {Q : PV → PF → PF → Prop} (h : Q (0, 1) I R) : PN X d mX11_isWall 42 [] [] I R Q := by
  refine P_iconst (n := 1) (q := 43) rfl (by decide +kernel) ?_
  refine P_zret rfl (Or.inr rfl) (by decide +kernel) h
theorem S_X11_isWall_44 {X : CX} {d : Nat} {x1 x2 x3 : Int} {I R : PF} {Q : PV → PF → PF → Prop} (h : PN X d mX11_isWall 2 [(2, 306), (0, x1), (0, x2), (0, (x3 + 1))] [] I R Q) : PN X d mX11_isWall 44 [(2, 306), (0, x1), (0, x2), (0, x3)] [] I R Q := by
  refine P_iinc (n := 3) (a := 1) (by decide) rfl (q := 47) rfl (by decide +kernel) ?_
  refine P_goto (off := (-45)) (t := 2) (by decide) (by decide +kernel) ?_
  exact h
theorem S_X11_isWall_50 {X : CX} {d : Nat} {I R : PF} {Q : PV → PF → PF → Prop} (h : Q (0, 0) I R) : PN X d mX11_isWall 50 [] [] I R Q := by
  refine P_iconst (n := 0) (q := 51) rfl (by decide +kernel) ?_
  refine P_zret rfl (Or.inl rfl) (by decide +kernel) h
theorem S_X11_isWallTold_0 {X : CX} {d : Nat} {x1 x2 : Int} {I R : PF} {Q : PV → PF → PF → Prop} (h : PN X d mX11_isWallTold 2 [(2, 306), (0, x1), (0, x2), (0, 0)] [] I R Q) : PN X d mX11_isWallTold 0 [(2, 306), (0, x1), (0, x2)] [] I R Q := by
  refine P_iconst (n := 0) (q := 1) rfl (by decide +kernel) ?_
  refine P_istore_n (n := 3) (by decide) (q := 2) rfl (by decide +kernel) ?_
  exact h
theorem S_X11_isWallTold_2 {X : CX} {d : Nat} {x1 x2 x3 : Int} {I R : PF} {Q : PV → PF → PF → Prop} (hs : Shp R) (c1 : -2147483648 ≤ x3 ∧ x3 < 2147483648) (c2 : -2147483648 ≤ (I 339 2) ∧ (I 339 2) < 2147483648) (h1 : (I 339 2) ≤ x3 → PN X d mX11_isWallTold 46 [] [] I R Q) (h2 : x3 < (I 339 2) → PN X d mX11_isWallTold 12 [(2, 306), (0, x1), (0, x2), (0, x3)] [] I R Q) : PN X d mX11_isWallTold 2 [(2, 306), (0, x1), (0, x2), (0, x3)] [] I R Q := by
  refine P_iload_n (n := 3) (q := 3) rfl rfl (by decide +kernel) ?_
  refine P_aload_n (n := 0) (q := 4) rfl rfl (by decide +kernel) ?_
  refine B_getfR (q := 7) fX11_166 kM306 (rM306_42 hs) rfl (by decide +kernel) ?_
  refine P_iconst (n := 2) (q := 8) rfl (by decide +kernel) ?_
  refine B_iaload (q := 9) kM339 nM339 (by decide) ⟨by decide, by decide⟩ rfl (by decide +kernel) ?_
  refine B_icmp_ge (off := 37) (t := 46) (q := 12) c1 c2 (by decide) rfl (by decide +kernel) ?_ ?_
  · exact fun g9 => (PW_sub (ls' := []) trivial (h1 g9))
  · exact fun g9 => (h2 g9)
theorem S_X11_isWallTold_12 {X : CX} {d : Nat} {x1 x2 x3 : Int} {I R : PF} {Q : PV → PF → PF → Prop} (hs : Shp R) (b1 : (0 : Int) ≤ (2 * x3) ∧ (2 * x3) < 40) (c1 : -2147483648 ≤ (I 344 (2 * x3)) ∧ (I 344 (2 * x3)) < 2147483648) (c2 : -2147483648 ≤ x1 ∧ x1 < 2147483648) (h1 : (I 344 (2 * x3)) ≠ x1 → PN X d mX11_isWallTold 40 [(2, 306), (0, x1), (0, x2), (0, x3)] [] I R Q) (h2 : (I 344 (2 * x3)) = x1 → PN X d mX11_isWallTold 24 [(2, 306), (0, x1), (0, x2), (0, x3)] [] I R Q) : PN X d mX11_isWallTold 12 [(2, 306), (0, x1), (0, x2), (0, x3)] [] I R Q := by
  refine P_aload_n (n := 0) (q := 13) rfl rfl (by decide +kernel) ?_
  refine B_getfR (q := 16) fX11_196 kM306 (rM306_47 hs) rfl (by decide +kernel) ?_
  refine P_iconst (n := 2) (q := 17) rfl (by decide +kernel) ?_
  refine P_iload_n (n := 3) (q := 18) rfl rfl (by decide +kernel) ?_
  refine P_imul (q := 19) rfl (by decide +kernel) ?_
  refine B_iaload (q := 20) kM344 nM344 (by decide) b1 rfl (by decide +kernel) ?_
  refine P_iload_n (n := 1) (q := 21) rfl rfl (by decide +kernel) ?_
  refine B_icmp_ne (off := 19) (t := 40) (q := 24) c1 c2 (by decide) rfl (by decide +kernel) ?_ ?_
  · exact fun g9 => (h1 g9)
  · exact fun g9 => (h2 g9)
theorem S_X11_isWallTold_24 {X : CX} {d : Nat} {x1 x2 x3 : Int} {I R : PF} {Q : PV → PF → PF → Prop} (hs : Shp R) (b1 : (0 : Int) ≤ ((2 * x3) + 1) ∧ ((2 * x3) + 1) < 40) (c1 : -2147483648 ≤ (I 344 ((2 * x3) + 1)) ∧ (I 344 ((2 * x3) + 1)) < 2147483648) (c2 : -2147483648 ≤ x2 ∧ x2 < 2147483648) (h1 : (I 344 ((2 * x3) + 1)) ≠ x2 → PN X d mX11_isWallTold 40 [(2, 306), (0, x1), (0, x2), (0, x3)] [] I R Q) (h2 : (I 344 ((2 * x3) + 1)) = x2 → PN X d mX11_isWallTold 38 [] [] I R Q) : PN X d mX11_isWallTold 24 [(2, 306), (0, x1), (0, x2), (0, x3)] [] I R Q := by
  refine P_aload_n (n := 0) (q := 25) rfl rfl (by decide +kernel) ?_
  refine B_getfR (q := 28) fX11_196 kM306 (rM306_47 hs) rfl (by decide +kernel) ?_
  refine P_iconst (n := 2) (q := 29) rfl (by decide +kernel) ?_
  refine P_iload_n (n := 3) (q := 30) rfl rfl (by decide +kernel) ?_
  refine P_imul (q := 31) rfl (by decide +kernel) ?_
  refine P_iconst (n := 1) (q := 32) rfl (by decide +kernel) ?_
  refine P_iadd (q := 33) rfl (by decide +kernel) ?_
  refine B_iaload (q := 34) kM344 nM344 (by decide) b1 rfl (by decide +kernel) ?_
  refine P_iload_n (n := 2) (q := 35) rfl rfl (by decide +kernel) ?_
  refine B_icmp_ne (off := 5) (t := 40) (q := 38) c1 c2 (by decide) rfl (by decide +kernel) ?_ ?_
  · exact fun g9 => (h1 g9)
  · exact fun g9 => (PW_sub (ls' := []) trivial (h2 g9))
theorem S_X11_isWallTold_38 {X : CX} {d : Nat} {I R : PF} {Q : PV → PF → PF → Prop} (h : Q (0, 1) I R) : PN X d mX11_isWallTold 38 [] [] I R Q := by
  refine P_iconst (n := 1) (q := 39) rfl (by decide +kernel) ?_
  refine P_zret rfl (Or.inr rfl) (by decide +kernel) h
theorem S_X11_isWallTold_40 {X : CX} {d : Nat} {x1 x2 x3 : Int} {I R : PF} {Q : PV → PF → PF → Prop} (h : PN X d mX11_isWallTold 2 [(2, 306), (0, x1), (0, x2), (0, (x3 + 1))] [] I R Q) : PN X d mX11_isWallTold 40 [(2, 306), (0, x1), (0, x2), (0, x3)] [] I R Q := by
  refine P_iinc (n := 3) (a := 1) (by decide) rfl (q := 43) rfl (by decide +kernel) ?_
  refine P_goto (off := (-41)) (t := 2) (by decide) (by decide +kernel) ?_
  exact h
theorem S_X11_isWallTold_46 {X : CX} {d : Nat} {I R : PF} {Q : PV → PF → PF → Prop} (h : Q (0, 0) I R) : PN X d mX11_isWallTold 46 [] [] I R Q := by
  refine P_iconst (n := 0) (q := 47) rfl (by decide +kernel) ?_
  refine P_zret rfl (Or.inl rfl) (by decide +kernel) h
theorem S_X11_keeps_0 {X : CX} {d : Nat} {I R : PF} {Q : PV → PF → PF → Prop} (c1 : -2147483648 ≤ ((I 306 77) + 1) ∧ ((I 306 77) + 1) < 2147483648) (h : PN X d mX11_keeps 15 [(2, 306), (0, 0)] [] (u2 I 306 77 (((I 306 77) + 1).tmod 20)) R Q) : PN X d mX11_keeps 0 [(2, 306)] [] I R Q := by
  refine P_aload_n (n := 0) (q := 1) rfl rfl (by decide +kernel) ?_
  refine P_aload_n (n := 0) (q := 2) rfl rfl (by decide +kernel) ?_
  refine P_getf (q := 5) fX11_588 kM306 rfl (by decide +kernel) ?_
  refine P_iconst (n := 1) (q := 6) rfl (by decide +kernel) ?_
  refine P_iadd (q := 7) rfl (by decide +kernel) ?_
  refine P_bipush (n := 20) (q := 9) rfl rfl (by decide +kernel) ?_
  refine B_irem (q := 10) c1 ⟨by decide, by decide⟩ (by decide) rfl (by decide +kernel) ?_
  refine P_putI (q := 13) wX11_588 (fun h => by cases h) kM306 rfl (by decide +kernel) ?_
  refine P_iconst (n := 0) (q := 14) rfl (by decide +kernel) ?_
  refine P_istore_n (n := 1) (by decide) (q := 15) rfl (by decide +kernel) ?_
  exact h
theorem S_X11_keeps_15 {X : CX} {d : Nat} {x1 : Int} {I R : PF} {Q : PV → PF → PF → Prop} (c1 : -2147483648 ≤ x1 ∧ x1 < 2147483648) (h1 : 154 ≤ x1 → PN X d mX11_keeps 49 [(2, 306)] [] I R Q) (h2 : x1 < 154 → PN X d mX11_keeps 22 [(2, 306), (0, x1)] [] I R Q) : PN X d mX11_keeps 15 [(2, 306), (0, x1)] [] I R Q := by
  refine P_iload_n (n := 1) (q := 16) rfl rfl (by decide +kernel) ?_
  refine P_sipush (n := 154) (q := 19) rfl rfl (by decide +kernel) ?_
  refine B_icmp_ge (off := 30) (t := 49) (q := 22) c1 ⟨by decide, by decide⟩ (by decide) rfl (by decide +kernel) ?_ ?_
  · exact fun g9 => (PW_sub (ls' := [(2, 306)]) ⟨Or.inr rfl, trivial⟩ (h1 g9))
  · exact fun g9 => (h2 g9)
theorem S_X11_keeps_22 {X : CX} {d : Nat} {x1 : Int} {I R : PF} {Q : PV → PF → PF → Prop} (hs : Shp R) (b1 : (0 : Int) ≤ x1 ∧ x1 < 154) (b2 : (0 : Int) ≤ ((154 * (I 306 77)) + x1) ∧ ((154 * (I 306 77)) + x1) < 3080) (h : PN X d mX11_keeps 15 [(2, 306), (0, (x1 + 1))] [] (u2 I 354 ((154 * (I 306 77)) + x1) (I 348 x1)) R Q) : PN X d mX11_keeps 22 [(2, 306), (0, x1)] [] I R Q := by
  refine P_aload_n (n := 0) (q := 23) rfl rfl (by decide +kernel) ?_
  refine B_getfR (q := 26) fX11_332 kM306 (rM306_75 hs) rfl (by decide +kernel) ?_
  refine P_sipush (n := 154) (q := 29) rfl rfl (by decide +kernel) ?_
  refine P_aload_n (n := 0) (q := 30) rfl rfl (by decide +kernel) ?_
  refine P_getf (q := 33) fX11_588 kM306 rfl (by decide +kernel) ?_
  refine P_imul (q := 34) rfl (by decide +kernel) ?_
  refine P_iload_n (n := 1) (q := 35) rfl rfl (by decide +kernel) ?_
  refine P_iadd (q := 36) rfl (by decide +kernel) ?_
  refine P_aload_n (n := 0) (q := 37) rfl rfl (by decide +kernel) ?_
  refine B_getfR (q := 40) fX11_303 kM306 (rM306_59 hs) rfl (by decide +kernel) ?_
  refine P_iload_n (n := 1) (q := 41) rfl rfl (by decide +kernel) ?_
  refine B_iaload (q := 42) kM348 nM348 (by decide) b1 rfl (by decide +kernel) ?_
  refine B_iastore (q := 43) kM354 nM354 (by decide) b2 rfl (by decide +kernel) ?_
  refine P_iinc (n := 1) (a := 1) (by decide) rfl (q := 46) rfl (by decide +kernel) ?_
  refine P_goto (off := (-31)) (t := 15) (by decide) (by decide +kernel) ?_
  exact h
theorem S_X11_keeps_49 {X : CX} {d : Nat} {I R : PF} {Q : PV → PF → PF → Prop} (c1 : -2147483648 ≤ (I 306 76) ∧ (I 306 76) < 2147483648) (h1 : 20 ≤ (I 306 76) → PN X d mX11_keeps 68 [] [] I R Q) (h2 : (I 306 76) < 20 → PN X d mX11_keeps 58 [(2, 306)] [] I R Q) : PN X d mX11_keeps 49 [(2, 306)] [] I R Q := by
  refine P_aload_n (n := 0) (q := 50) rfl rfl (by decide +kernel) ?_
  refine P_getf (q := 53) fX11_306 kM306 rfl (by decide +kernel) ?_
  refine P_bipush (n := 20) (q := 55) rfl rfl (by decide +kernel) ?_
  refine B_icmp_ge (off := 13) (t := 68) (q := 58) c1 ⟨by decide, by decide⟩ (by decide) rfl (by decide +kernel) ?_ ?_
  · exact fun g9 => (PW_sub (ls' := []) trivial (h1 g9))
  · exact fun g9 => (PW_sub (ls' := [(2, 306)]) ⟨Or.inr rfl, trivial⟩ (h2 g9))
theorem S_X11_keeps_58 {X : CX} {d : Nat} {I R : PF} {Q : PV → PF → PF → Prop} (h : PN X d mX11_keeps 68 [] [] (u2 I 306 76 ((I 306 76) + 1)) R Q) : PN X d mX11_keeps 58 [(2, 306)] [] I R Q := by
  refine P_aload_n (n := 0) (q := 59) rfl rfl (by decide +kernel) ?_
  refine P_dup (q := 60) (Nat.ne_of_beq_eq_false rfl) rfl (by decide +kernel) ?_
  refine P_getf (q := 63) fX11_306 kM306 rfl (by decide +kernel) ?_
  refine P_iconst (n := 1) (q := 64) rfl (by decide +kernel) ?_
  refine P_iadd (q := 65) rfl (by decide +kernel) ?_
  refine P_putI (q := 68) wX11_306 (fun h => by cases h) kM306 rfl (by decide +kernel) ?_
  exact (PW_sub (ls' := []) trivial h)
theorem S_X11_keeps_68 {X : CX} {d : Nat} {I R : PF} {Q : PV → PF → PF → Prop} (h : Q (9, 0) I R) : PN X d mX11_keeps 68 [] [] I R Q := by
  refine P_vret rfl (by decide +kernel) h
theorem S_X11_kept_0 {X : CX} {d d1 : Nat} {x1 x2 : Int} {I R : PF} {Q Q1 : PV → PF → PF → Prop} (hs : Shp R) (c1 : -2147483648 ≤ x1 ∧ x1 < 2147483648) (c2 : -2147483648 ≤ ((I 348 33) - 1) ∧ ((I 348 33) - 1) < 2147483648) (e1 : d1 + 1 ≤ d) (hc : CN X d1 mX11_isIn [(1, x1), (1, 0), (1, ((I 348 33) - 1))] I R Q1) (h : ∀ z I2 R2, Q1 (0, z) I2 R2 → PN X d mX11_kept 16 [(2, 306), (0, x1), (0, x2)] [(0, z)] I2 R2 Q) : PN X d mX11_kept 0 [(2, 306), (0, x1), (0, x2)] [] I R Q := by
  refine P_iload_n (n := 1) (q := 1) rfl rfl (by decide +kernel) ?_
  refine B_i2l (q := 2) c1 rfl (by decide +kernel) ?_
  refine P_lconst (n := 0) (x := 0) (q := 3) rfl rfl (by decide +kernel) ?_
  refine P_aload_n (n := 0) (q := 4) rfl rfl (by decide +kernel) ?_
  refine B_getfR (q := 7) fX11_303 kM306 (rM306_59 hs) rfl (by decide +kernel) ?_
  refine P_bipush (n := 33) (q := 9) rfl rfl (by decide +kernel) ?_
  refine B_iaload (q := 10) kM348 nM348 (by decide) ⟨by decide, by decide⟩ rfl (by decide +kernel) ?_
  refine P_iconst (n := 1) (q := 11) rfl (by decide +kernel) ?_
  refine P_isub (q := 12) rfl (by decide +kernel) ?_
  refine B_i2l (q := 13) c2 rfl (by decide +kernel) ?_
  refine P_invS (As := [(1, x1), (1, 0), (1, ((I 348 33) - 1))]) (q := 16) oX11_isIn rfl (Or.inl kX11_57) e1 hMF (Nat.le_of_ble_eq_true rfl) hc rfl (by decide +kernel) (fun z I2 R2 hq => ?_)
  exact (h z I2 R2 hq)
theorem S_X11_kept_16 {X : CX} {d : Nat} {x1 x2 o0 : Int} {I R : PF} {Q : PV → PF → PF → Prop} (c1 : -2147483648 ≤ o0 ∧ o0 < 2147483648) (h1 : o0 = 0 → PN X d mX11_kept 47 [] [] I R Q) (h2 : o0 ≠ 0 → PN X d mX11_kept 19 [(2, 306), (0, x1), (0, x2)] [] I R Q) : PN X d mX11_kept 16 [(2, 306), (0, x1), (0, x2)] [(0, o0)] I R Q := by
  refine B_if_eq (off := 31) (t := 47) (q := 19) c1 (by decide) rfl (by decide +kernel) ?_ ?_
  · exact fun g9 => (PW_sub (ls' := []) trivial (h1 g9))
  · exact fun g9 => (h2 g9)
theorem S_X11_kept_19 {X : CX} {d d1 : Nat} {x1 x2 : Int} {I R : PF} {Q Q1 : PV → PF → PF → Prop} (c1 : -2147483648 ≤ x2 ∧ x2 < 2147483648) (e1 : d1 + 1 ≤ d) (hc : CN X d1 mX11_isIn [(1, x2), (1, 0), (1, 2)] I R Q1) (h : ∀ z I2 R2, Q1 (0, z) I2 R2 → PN X d mX11_kept 28 [(2, 306), (0, x1), (0, x2)] [(0, z)] I2 R2 Q) : PN X d mX11_kept 19 [(2, 306), (0, x1), (0, x2)] [] I R Q := by
  refine P_iload_n (n := 2) (q := 20) rfl rfl (by decide +kernel) ?_
  refine B_i2l (q := 21) c1 rfl (by decide +kernel) ?_
  refine P_lconst (n := 0) (x := 0) (q := 22) rfl rfl (by decide +kernel) ?_
  refine P_ldc2 (ix := 539) (v := 2) (x := 2) (q := 25) rfl (tGp8 43 rfl rfl) rfl (by decide +kernel) ?_
  refine P_invS (As := [(1, x2), (1, 0), (1, 2)]) (q := 28) oX11_isIn rfl (Or.inl kX11_57) e1 hMF (Nat.le_of_ble_eq_true rfl) hc rfl (by decide +kernel) (fun z I2 R2 hq => ?_)
  exact (h z I2 R2 hq)
theorem S_X11_kept_28 {X : CX} {d : Nat} {x1 x2 o0 : Int} {I R : PF} {Q : PV → PF → PF → Prop} (c1 : -2147483648 ≤ o0 ∧ o0 < 2147483648) (h1 : o0 = 0 → PN X d mX11_kept 47 [] [] I R Q) (h2 : o0 ≠ 0 → PN X d mX11_kept 31 [(2, 306), (0, x1), (0, x2)] [] I R Q) : PN X d mX11_kept 28 [(2, 306), (0, x1), (0, x2)] [(0, o0)] I R Q := by
  refine B_if_eq (off := 19) (t := 47) (q := 31) c1 (by decide) rfl (by decide +kernel) ?_ ?_
  · exact fun g9 => (PW_sub (ls' := []) trivial (h1 g9))
  · exact fun g9 => (h2 g9)
theorem S_X11_kept_31 {X : CX} {d : Nat} {x1 x2 : Int} {I R : PF} {Q : PV → PF → PF → Prop} (hs : Shp R) (b1 : (0 : Int) ≤ ((34 + (3 * x1)) + x2) ∧ ((34 + (3 * x1)) + x2) < 154) (h : PN X d mX11_kept 48 [] [(0, (I 348 ((34 + (3 * x1)) + x2)))] I R Q) : PN X d mX11_kept 31 [(2, 306), (0, x1), (0, x2)] [] I R Q := by
  refine P_aload_n (n := 0) (q := 32) rfl rfl (by decide +kernel) ?_
  refine B_getfR (q := 35) fX11_303 kM306 (rM306_59 hs) rfl (by decide +kernel) ?_
  refine P_bipush (n := 34) (q := 37) rfl rfl (by decide +kernel) ?_
  refine P_iconst (n := 3) (q := 38) rfl (by decide +kernel) ?_
  refine P_iload_n (n := 1) (q := 39) rfl rfl (by decide +kernel) ?_
  refine P_imul (q := 40) rfl (by decide +kernel) ?_
  refine P_iadd (q := 41) rfl (by decide +kernel) ?_
  refine P_iload_n (n := 2) (q := 42) rfl rfl (by decide +kernel) ?_
  refine P_iadd (q := 43) rfl (by decide +kernel) ?_
  refine B_iaload (q := 44) kM348 nM348 (by decide) b1 rfl (by decide +kernel) ?_
  refine P_goto (off := 4) (t := 48) (by decide) (by decide +kernel) ?_
  exact (PW_sub (ls' := []) trivial h)
theorem S_X11_kept_47 {X : CX} {d : Nat} {I R : PF} {Q : PV → PF → PF → Prop} (h : PN X d mX11_kept 48 [] [(0, (-1))] I R Q) : PN X d mX11_kept 47 [] [] I R Q := by
  refine P_iconst (n := (-1)) (q := 48) rfl (by decide +kernel) ?_
  exact (PW_sub (ls' := []) trivial h)
theorem S_X11_kept_48 {X : CX} {d : Nat} {o0 : Int} {I R : PF} {Q : PV → PF → PF → Prop} (h : Q (0, o0) I R) : PN X d mX11_kept 48 [] [(0, o0)] I R Q := by
  refine P_iret rfl (by decide +kernel) h
theorem S_X11_lasts_0 {X : CX} {d d1 : Nat} {x1 x2 : Int} {I R : PF} {Q Q1 : PV → PF → PF → Prop} (c1 : -2147483648 ≤ x1 ∧ x1 < 2147483648) (e1 : d1 + 1 ≤ d) (hc : CN X d1 mX11_lawMany [(2, 306)] I R Q1) (h : ∀ z I2 R2, Q1 (0, z) I2 R2 → PN X d mX11_lasts 7 [(2, 306), (0, x1), (0, x2)] [(0, z), (1, 0), (1, x1)] I2 R2 Q) : PN X d mX11_lasts 0 [(2, 306), (0, x1), (0, x2)] [] I R Q := by
  refine P_iload_n (n := 1) (q := 1) rfl rfl (by decide +kernel) ?_
  refine B_i2l (q := 2) c1 rfl (by decide +kernel) ?_
  refine P_lconst (n := 0) (x := 0) (q := 3) rfl rfl (by decide +kernel) ?_
  refine P_aload_n (n := 0) (q := 4) rfl rfl (by decide +kernel) ?_
  refine P_invV (As := []) (q := 7) oX11_lawMany rfl kM306 kX11_577 e1 hMF (Nat.le_of_ble_eq_true rfl) hc rfl (by decide +kernel) (fun z I2 R2 hq => ?_)
  exact (h z I2 R2 hq)
theorem S_X11_lasts_7 {X : CX} {d d1 : Nat} {x1 x2 v0 v1 o2 : Int} {I R : PF} {Q Q1 : PV → PF → PF → Prop} (c1 : -2147483648 ≤ (o2 - 1) ∧ (o2 - 1) < 2147483648) (e1 : d1 + 1 ≤ d) (hc : CN X d1 mX11_isIn [(1, v0), (1, v1), (1, (o2 - 1))] I R Q1) (h : ∀ z I2 R2, Q1 (0, z) I2 R2 → PN X d mX11_lasts 13 [(2, 306), (0, x1), (0, x2)] [(0, z)] I2 R2 Q) : PN X d mX11_lasts 7 [(2, 306), (0, x1), (0, x2)] [(0, o2), (1, v1), (1, v0)] I R Q := by
  refine P_iconst (n := 1) (q := 8) rfl (by decide +kernel) ?_
  refine P_isub (q := 9) rfl (by decide +kernel) ?_
  refine B_i2l (q := 10) c1 rfl (by decide +kernel) ?_
  refine P_invS (As := [(1, v0), (1, v1), (1, (o2 - 1))]) (q := 13) oX11_isIn rfl (Or.inl kX11_57) e1 hMF (Nat.le_of_ble_eq_true rfl) hc rfl (by decide +kernel) (fun z I2 R2 hq => ?_)
  exact (h z I2 R2 hq)
theorem S_X11_lasts_13 {X : CX} {d : Nat} {x1 x2 o0 : Int} {I R : PF} {Q : PV → PF → PF → Prop} (c1 : -2147483648 ≤ o0 ∧ o0 < 2147483648) (h1 : o0 = 0 → PN X d mX11_lasts 27 [] [] I R Q) (h2 : o0 ≠ 0 → PN X d mX11_lasts 16 [(2, 306), (0, x1), (0, x2)] [] I R Q) : PN X d mX11_lasts 13 [(2, 306), (0, x1), (0, x2)] [(0, o0)] I R Q := by
  refine B_if_eq (off := 14) (t := 27) (q := 16) c1 (by decide) rfl (by decide +kernel) ?_ ?_
  · exact fun g9 => (PW_sub (ls' := []) trivial (h1 g9))
  · exact fun g9 => (h2 g9)
theorem S_X11_lasts_16 {X : CX} {d d1 : Nat} {x1 x2 : Int} {I R : PF} {Q Q1 : PV → PF → PF → Prop} (e1 : d1 + 1 ≤ d) (hc : CN X d1 mX11_isAhead [(2, 306), (0, x2), (0, 1), (0, 60)] I R Q1) (h : ∀ z I2 R2, Q1 (0, z) I2 R2 → PN X d mX11_lasts 24 [(2, 306), (0, x1), (0, x2)] [(0, z)] I2 R2 Q) : PN X d mX11_lasts 16 [(2, 306), (0, x1), (0, x2)] [] I R Q := by
  refine P_aload_n (n := 0) (q := 17) rfl rfl (by decide +kernel) ?_
  refine P_iload_n (n := 2) (q := 18) rfl rfl (by decide +kernel) ?_
  refine P_iconst (n := 1) (q := 19) rfl (by decide +kernel) ?_
  refine P_bipush (n := 60) (q := 21) rfl rfl (by decide +kernel) ?_
  refine P_invV (As := [(0, x2), (0, 1), (0, 60)]) (q := 24) oX11_isAhead rfl kM306 kX11_565 e1 hMF (Nat.le_of_ble_eq_true rfl) hc rfl (by decide +kernel) (fun z I2 R2 hq => ?_)
  exact (h z I2 R2 hq)
theorem S_X11_lasts_24 {X : CX} {d : Nat} {x1 x2 o0 : Int} {I R : PF} {Q : PV → PF → PF → Prop} (c1 : -2147483648 ≤ o0 ∧ o0 < 2147483648) (h1 : o0 ≠ 0 → PN X d mX11_lasts 29 [(2, 306), (0, x1), (0, x2)] [] I R Q) (h2 : o0 = 0 → PN X d mX11_lasts 27 [] [] I R Q) : PN X d mX11_lasts 24 [(2, 306), (0, x1), (0, x2)] [(0, o0)] I R Q := by
  refine B_if_ne (off := 5) (t := 29) (q := 27) c1 (by decide) rfl (by decide +kernel) ?_ ?_
  · exact fun g9 => (h1 g9)
  · exact fun g9 => (PW_sub (ls' := []) trivial (h2 g9))
theorem S_X11_lasts_27 {X : CX} {d : Nat} {I R : PF} {Q : PV → PF → PF → Prop} (h : Q (0, (-1)) I R) : PN X d mX11_lasts 27 [] [] I R Q := by
  refine P_iconst (n := (-1)) (q := 28) rfl (by decide +kernel) ?_
  refine P_iret rfl (by decide +kernel) h
theorem S_X11_lasts_29 {X : CX} {d d1 : Nat} {x1 x2 : Int} {I R : PF} {Q Q1 : PV → PF → PF → Prop} (e1 : d1 + 1 ≤ d) (hc : CN X d1 mX11_putsAside [(2, 306)] I R Q1) (h : ∀ z I2 R2, Q1 (9, z) I2 R2 → PN X d mX11_lasts 35 [(2, 306), (0, x1), (0, x2), (0, 0)] [] I2 R2 Q) : PN X d mX11_lasts 29 [(2, 306), (0, x1), (0, x2)] [] I R Q := by
  refine P_iconst (n := 0) (q := 30) rfl (by decide +kernel) ?_
  refine P_istore_n (n := 3) (by decide) (q := 31) rfl (by decide +kernel) ?_
  refine P_aload_n (n := 0) (q := 32) rfl rfl (by decide +kernel) ?_
  refine P_invV (As := []) (q := 35) oX11_putsAside rfl kM306 kX11_568 e1 hMF (Nat.le_of_ble_eq_true rfl) hc rfl (by decide +kernel) (fun z I2 R2 hq => ?_)
  exact (h z I2 R2 hq)
theorem S_X11_lasts_35 {X : CX} {d : Nat} {x1 x2 x3 : Int} {I R : PF} {Q : PV → PF → PF → Prop} (h : PN X d mX11_lasts 38 [(2, 306), (0, x1), (0, x2), (0, x3), (0, 0)] [] I R Q) : PN X d mX11_lasts 35 [(2, 306), (0, x1), (0, x2), (0, x3)] [] I R Q := by
  refine P_iconst (n := 0) (q := 36) rfl (by decide +kernel) ?_
  refine P_istore (n := 4) (by decide) (q := 38) rfl (by decide +kernel) ?_
  exact h
theorem S_X11_lasts_38 {X : CX} {d : Nat} {x1 x2 x3 x4 : Int} {I R : PF} {Q : PV → PF → PF → Prop} (c1 : -2147483648 ≤ x4 ∧ x4 < 2147483648) (c2 : -2147483648 ≤ x2 ∧ x2 < 2147483648) (h1 : x2 ≤ x4 → PN X d mX11_lasts 72 [(2, 306), (9, 0), (9, 0), (0, x3)] [] I R Q) (h2 : x4 < x2 → PN X d mX11_lasts 44 [(2, 306), (0, x1), (0, x2), (0, x3), (0, x4)] [] I R Q) : PN X d mX11_lasts 38 [(2, 306), (0, x1), (0, x2), (0, x3), (0, x4)] [] I R Q := by
  refine P_iload (n := 4) (q := 40) rfl rfl (by decide +kernel) ?_
  refine P_iload_n (n := 2) (q := 41) rfl rfl (by decide +kernel) ?_
  refine B_icmp_ge (off := 31) (t := 72) (q := 44) c1 c2 (by decide) rfl (by decide +kernel) ?_ ?_
  · exact fun g9 => (PW_sub (ls' := [(2, 306), (9, 0), (9, 0), (0, x3)]) ⟨Or.inr rfl, Or.inl rfl, Or.inl rfl, Or.inr rfl, trivial⟩ (h1 g9))
  · exact fun g9 => (h2 g9)
theorem S_X11_lasts_44 {X : CX} {d d1 : Nat} {x1 x2 x3 x4 : Int} {I R : PF} {Q Q1 : PV → PF → PF → Prop} (e1 : d1 + 1 ≤ d) (hc : CN X d1 mX11_noonGoes [(2, 306), (0, 0)] I R Q1) (h : ∀ z I2 R2, Q1 (9, z) I2 R2 → PN X d mX11_lasts 49 [(2, 306), (0, x1), (0, x2), (0, x3), (0, x4)] [] I2 R2 Q) : PN X d mX11_lasts 44 [(2, 306), (0, x1), (0, x2), (0, x3), (0, x4)] [] I R Q := by
  refine P_aload_n (n := 0) (q := 45) rfl rfl (by decide +kernel) ?_
  refine P_iconst (n := 0) (q := 46) rfl (by decide +kernel) ?_
  refine P_invV (As := [(0, 0)]) (q := 49) oX11_noonGoes rfl kM306 kX11_562 e1 hMF (Nat.le_of_ble_eq_true rfl) hc rfl (by decide +kernel) (fun z I2 R2 hq => ?_)
  exact (h z I2 R2 hq)
theorem S_X11_lasts_49 {X : CX} {d d1 : Nat} {x1 x2 x3 x4 : Int} {I R : PF} {Q Q1 : PV → PF → PF → Prop} (hs : Shp R) (e1 : d1 + 1 ≤ d) (hc : CN X d1 mX11_lawOf [(2, 306), (0, (I 348 1))] I R Q1) (h : ∀ z I2 R2, Q1 (0, z) I2 R2 → PN X d mX11_lasts 59 [(2, 306), (0, x1), (0, x2), (0, x3), (0, x4)] [(0, z)] I2 R2 Q) : PN X d mX11_lasts 49 [(2, 306), (0, x1), (0, x2), (0, x3), (0, x4)] [] I R Q := by
  refine P_aload_n (n := 0) (q := 50) rfl rfl (by decide +kernel) ?_
  refine P_aload_n (n := 0) (q := 51) rfl rfl (by decide +kernel) ?_
  refine B_getfR (q := 54) fX11_303 kM306 (rM306_59 hs) rfl (by decide +kernel) ?_
  refine P_iconst (n := 1) (q := 55) rfl (by decide +kernel) ?_
  refine B_iaload (q := 56) kM348 nM348 (by decide) ⟨by decide, by decide⟩ rfl (by decide +kernel) ?_
  refine P_invV (As := [(0, (I 348 1))]) (q := 59) oX11_lawOf rfl kM306 kX11_528 e1 hMF (Nat.le_of_ble_eq_true rfl) hc rfl (by decide +kernel) (fun z I2 R2 hq => ?_)
  exact (h z I2 R2 hq)
theorem S_X11_lasts_59 {X : CX} {d : Nat} {x1 x2 x3 x4 o0 : Int} {I R : PF} {Q : PV → PF → PF → Prop} (c1 : -2147483648 ≤ o0 ∧ o0 < 2147483648) (c2 : -2147483648 ≤ x1 ∧ x1 < 2147483648) (h1 : o0 ≠ x1 → PN X d mX11_lasts 66 [(2, 306), (0, x1), (0, x2), (0, x3), (0, x4)] [] I R Q) (h2 : o0 = x1 → PN X d mX11_lasts 63 [(2, 306), (0, x1), (0, x2), (0, x3), (0, x4)] [] I R Q) : PN X d mX11_lasts 59 [(2, 306), (0, x1), (0, x2), (0, x3), (0, x4)] [(0, o0)] I R Q := by
  refine P_iload_n (n := 1) (q := 60) rfl rfl (by decide +kernel) ?_
  refine B_icmp_ne (off := 6) (t := 66) (q := 63) c1 c2 (by decide) rfl (by decide +kernel) ?_ ?_
  · exact fun g9 => (h1 g9)
  · exact fun g9 => (h2 g9)
theorem S_X11_lasts_63 {X : CX} {d : Nat} {x1 x2 x3 x4 : Int} {I R : PF} {Q : PV → PF → PF → Prop} (h : PN X d mX11_lasts 66 [(2, 306), (0, x1), (0, x2), (0, (x3 + 1)), (0, x4)] [] I R Q) : PN X d mX11_lasts 63 [(2, 306), (0, x1), (0, x2), (0, x3), (0, x4)] [] I R Q := by
  refine P_iinc (n := 3) (a := 1) (by decide) rfl (q := 66) rfl (by decide +kernel) ?_
  exact h
theorem S_X11_lasts_66 {X : CX} {d : Nat} {x1 x2 x3 x4 : Int} {I R : PF} {Q : PV → PF → PF → Prop} (h : PN X d mX11_lasts 38 [(2, 306), (0, x1), (0, x2), (0, x3), (0, (x4 + 1))] [] I R Q) : PN X d mX11_lasts 66 [(2, 306), (0, x1), (0, x2), (0, x3), (0, x4)] [] I R Q := by
  refine P_iinc (n := 4) (a := 1) (by decide) rfl (q := 69) rfl (by decide +kernel) ?_
  refine P_goto (off := (-31)) (t := 38) (by decide) (by decide +kernel) ?_
  exact h
theorem S_X11_lasts_72 {X : CX} {d d1 : Nat} {x3 : Int} {I R : PF} {Q Q1 : PV → PF → PF → Prop} (e1 : d1 + 1 ≤ d) (hc : CN X d1 mX11_takesBack [(2, 306)] I R Q1) (h : ∀ z I2 R2, Q1 (9, z) I2 R2 → PN X d mX11_lasts 76 [(9, 0), (9, 0), (9, 0), (0, x3)] [] I2 R2 Q) : PN X d mX11_lasts 72 [(2, 306), (9, 0), (9, 0), (0, x3)] [] I R Q := by
  refine P_aload_n (n := 0) (q := 73) rfl rfl (by decide +kernel) ?_
  refine P_invV (As := []) (q := 76) oX11_takesBack rfl kM306 kX11_574 e1 hMF (Nat.le_of_ble_eq_true rfl) hc rfl (by decide +kernel) (fun z I2 R2 hq => ?_)
  exact (PW_sub (ls' := [(9, 0), (9, 0), (9, 0), (0, x3)]) ⟨Or.inl rfl, Or.inl rfl, Or.inl rfl, Or.inr rfl, trivial⟩ (h z I2 R2 hq))
theorem S_X11_lasts_76 {X : CX} {d : Nat} {x3 : Int} {I R : PF} {Q : PV → PF → PF → Prop} (h : Q (0, x3) I R) : PN X d mX11_lasts 76 [(9, 0), (9, 0), (9, 0), (0, x3)] [] I R Q := by
  refine P_iload_n (n := 3) (q := 77) rfl rfl (by decide +kernel) ?_
  refine P_iret rfl (by decide +kernel) h
theorem S_X11_later_0 {X : CX} {d : Nat} {x1 x2 : Int} {I R : PF} {Q : PV → PF → PF → Prop} (c1 : -2147483648 ≤ (I 306 55) ∧ (I 306 55) < 2147483648) (h1 : (I 306 55) = 0 → PN X d mX11_later 30 [] [] I R Q) (h2 : (I 306 55) ≠ 0 → PN X d mX11_later 7 [(2, 306), (0, x1), (0, x2)] [] I R Q) : PN X d mX11_later 0 [(2, 306), (0, x1), (0, x2)] [] I R Q := by
  refine P_aload_n (n := 0) (q := 1) rfl rfl (by decide +kernel) ?_
  refine P_getf (q := 4) fX11_296 kM306 rfl (by decide +kernel) ?_
  refine B_if_eq (off := 26) (t := 30) (q := 7) c1 (by decide) rfl (by decide +kernel) ?_ ?_
  · exact fun g9 => (PW_sub (ls' := []) trivial (h1 g9))
  · exact fun g9 => (h2 g9)
theorem S_X11_later_7 {X : CX} {d d1 : Nat} {x1 x2 : Int} {I R : PF} {Q Q1 : PV → PF → PF → Prop} (e1 : d1 + 1 ≤ d) (hc : CN X d1 mX11_isAhead [(2, 306), (0, x1), (0, 0), (0, 60)] I R Q1) (h : ∀ z I2 R2, Q1 (0, z) I2 R2 → PN X d mX11_later 15 [(2, 306), (0, x1), (0, x2)] [(0, z)] I2 R2 Q) : PN X d mX11_later 7 [(2, 306), (0, x1), (0, x2)] [] I R Q := by
  refine P_aload_n (n := 0) (q := 8) rfl rfl (by decide +kernel) ?_
  refine P_iload_n (n := 1) (q := 9) rfl rfl (by decide +kernel) ?_
  refine P_iconst (n := 0) (q := 10) rfl (by decide +kernel) ?_
  refine P_bipush (n := 60) (q := 12) rfl rfl (by decide +kernel) ?_
  refine P_invV (As := [(0, x1), (0, 0), (0, 60)]) (q := 15) oX11_isAhead rfl kM306 kX11_565 e1 hMF (Nat.le_of_ble_eq_true rfl) hc rfl (by decide +kernel) (fun z I2 R2 hq => ?_)
  exact (h z I2 R2 hq)
theorem S_X11_later_15 {X : CX} {d : Nat} {x1 x2 o0 : Int} {I R : PF} {Q : PV → PF → PF → Prop} (c1 : -2147483648 ≤ o0 ∧ o0 < 2147483648) (h1 : o0 = 0 → PN X d mX11_later 30 [] [] I R Q) (h2 : o0 ≠ 0 → PN X d mX11_later 18 [(2, 306), (0, x1), (0, x2)] [] I R Q) : PN X d mX11_later 15 [(2, 306), (0, x1), (0, x2)] [(0, o0)] I R Q := by
  refine B_if_eq (off := 15) (t := 30) (q := 18) c1 (by decide) rfl (by decide +kernel) ?_ ?_
  · exact fun g9 => (PW_sub (ls' := []) trivial (h1 g9))
  · exact fun g9 => (h2 g9)
theorem S_X11_later_18 {X : CX} {d d1 : Nat} {x1 x2 : Int} {I R : PF} {Q Q1 : PV → PF → PF → Prop} (c1 : -2147483648 ≤ x2 ∧ x2 < 2147483648) (e1 : d1 + 1 ≤ d) (hc : CN X d1 mX11_isIn [(1, x2), (1, 0), (1, 2)] I R Q1) (h : ∀ z I2 R2, Q1 (0, z) I2 R2 → PN X d mX11_later 27 [(2, 306), (0, x1), (0, x2)] [(0, z)] I2 R2 Q) : PN X d mX11_later 18 [(2, 306), (0, x1), (0, x2)] [] I R Q := by
  refine P_iload_n (n := 2) (q := 19) rfl rfl (by decide +kernel) ?_
  refine B_i2l (q := 20) c1 rfl (by decide +kernel) ?_
  refine P_lconst (n := 0) (x := 0) (q := 21) rfl rfl (by decide +kernel) ?_
  refine P_ldc2 (ix := 539) (v := 2) (x := 2) (q := 24) rfl (tGp8 43 rfl rfl) rfl (by decide +kernel) ?_
  refine P_invS (As := [(1, x2), (1, 0), (1, 2)]) (q := 27) oX11_isIn rfl (Or.inl kX11_57) e1 hMF (Nat.le_of_ble_eq_true rfl) hc rfl (by decide +kernel) (fun z I2 R2 hq => ?_)
  exact (h z I2 R2 hq)
theorem S_X11_later_27 {X : CX} {d : Nat} {x1 x2 o0 : Int} {I R : PF} {Q : PV → PF → PF → Prop} (c1 : -2147483648 ≤ o0 ∧ o0 < 2147483648) (h1 : o0 ≠ 0 → PN X d mX11_later 32 [(2, 306), (0, x1), (0, x2)] [] I R Q) (h2 : o0 = 0 → PN X d mX11_later 30 [] [] I R Q) : PN X d mX11_later 27 [(2, 306), (0, x1), (0, x2)] [(0, o0)] I R Q := by
  refine B_if_ne (off := 5) (t := 32) (q := 30) c1 (by decide) rfl (by decide +kernel) ?_ ?_
  · exact fun g9 => (h1 g9)
  · exact fun g9 => (PW_sub (ls' := []) trivial (h2 g9))
theorem S_X11_later_30 {X : CX} {d : Nat} {I R : PF} {Q : PV → PF → PF → Prop} (h : Q (0, (-1)) I R) : PN X d mX11_later 30 [] [] I R Q := by
  refine P_iconst (n := (-1)) (q := 31) rfl (by decide +kernel) ?_
  refine P_iret rfl (by decide +kernel) h
theorem S_X11_later_32 {X : CX} {d d1 : Nat} {x1 x2 : Int} {I R : PF} {Q Q1 : PV → PF → PF → Prop} (e1 : d1 + 1 ≤ d) (hc : CN X d1 mX11_putsAside [(2, 306)] I R Q1) (h : ∀ z I2 R2, Q1 (9, z) I2 R2 → PN X d mX11_later 36 [(2, 306), (0, x1), (0, x2)] [] I2 R2 Q) : PN X d mX11_later 32 [(2, 306), (0, x1), (0, x2)] [] I R Q := by
  refine P_aload_n (n := 0) (q := 33) rfl rfl (by decide +kernel) ?_
  refine P_invV (As := []) (q := 36) oX11_putsAside rfl kM306 kX11_568 e1 hMF (Nat.le_of_ble_eq_true rfl) hc rfl (by decide +kernel) (fun z I2 R2 hq => ?_)
  exact (h z I2 R2 hq)
theorem S_X11_later_36 {X : CX} {d d1 : Nat} {x1 x2 : Int} {I R : PF} {Q Q1 : PV → PF → PF → Prop} (e1 : d1 + 1 ≤ d) (hc : CN X d1 mX11_noonsGo [(2, 306), (0, x1)] I R Q1) (h : ∀ z I2 R2, Q1 (9, z) I2 R2 → PN X d mX11_later 41 [(2, 306), (9, 0), (0, x2)] [] I2 R2 Q) : PN X d mX11_later 36 [(2, 306), (0, x1), (0, x2)] [] I R Q := by
  refine P_aload_n (n := 0) (q := 37) rfl rfl (by decide +kernel) ?_
  refine P_iload_n (n := 1) (q := 38) rfl rfl (by decide +kernel) ?_
  refine P_invV (As := [(0, x1)]) (q := 41) oX11_noonsGo rfl kM306 kX11_571 e1 hMF (Nat.le_of_ble_eq_true rfl) hc rfl (by decide +kernel) (fun z I2 R2 hq => ?_)
  exact (PW_sub (ls' := [(2, 306), (9, 0), (0, x2)]) ⟨Or.inr rfl, Or.inl rfl, Or.inr rfl, trivial⟩ (h z I2 R2 hq))
theorem S_X11_later_41 {X : CX} {d : Nat} {x2 : Int} {I R : PF} {Q : PV → PF → PF → Prop} (c1 : -2147483648 ≤ x2 ∧ x2 < 2147483648) (h1 : x2 ≠ 0 → PN X d mX11_later 54 [(2, 306), (9, 0), (0, x2)] [] I R Q) (h2 : x2 = 0 → PN X d mX11_later 45 [(2, 306)] [] I R Q) : PN X d mX11_later 41 [(2, 306), (9, 0), (0, x2)] [] I R Q := by
  refine P_iload_n (n := 2) (q := 42) rfl rfl (by decide +kernel) ?_
  refine B_if_ne (off := 12) (t := 54) (q := 45) c1 (by decide) rfl (by decide +kernel) ?_ ?_
  · exact fun g9 => (h1 g9)
  · exact fun g9 => (PW_sub (ls' := [(2, 306)]) ⟨Or.inr rfl, trivial⟩ (h2 g9))
theorem S_X11_later_45 {X : CX} {d : Nat} {I R : PF} {Q : PV → PF → PF → Prop} (hs : Shp R) (h : PN X d mX11_later 78 [(2, 306)] [(0, (I 348 1))] I R Q) : PN X d mX11_later 45 [(2, 306)] [] I R Q := by
  refine P_aload_n (n := 0) (q := 46) rfl rfl (by decide +kernel) ?_
  refine B_getfR (q := 49) fX11_303 kM306 (rM306_59 hs) rfl (by decide +kernel) ?_
  refine P_iconst (n := 1) (q := 50) rfl (by decide +kernel) ?_
  refine B_iaload (q := 51) kM348 nM348 (by decide) ⟨by decide, by decide⟩ rfl (by decide +kernel) ?_
  refine P_goto (off := 27) (t := 78) (by decide) (by decide +kernel) ?_
  exact (PW_sub (ls' := [(2, 306)]) ⟨Or.inr rfl, trivial⟩ h)
theorem S_X11_later_54 {X : CX} {d : Nat} {x2 : Int} {I R : PF} {Q : PV → PF → PF → Prop} (c1 : -2147483648 ≤ x2 ∧ x2 < 2147483648) (h1 : x2 ≠ 1 → PN X d mX11_later 68 [(2, 306)] [] I R Q) (h2 : x2 = 1 → PN X d mX11_later 59 [(2, 306)] [] I R Q) : PN X d mX11_later 54 [(2, 306), (9, 0), (0, x2)] [] I R Q := by
  refine P_iload_n (n := 2) (q := 55) rfl rfl (by decide +kernel) ?_
  refine P_iconst (n := 1) (q := 56) rfl (by decide +kernel) ?_
  refine B_icmp_ne (off := 12) (t := 68) (q := 59) c1 ⟨by decide, by decide⟩ (by decide) rfl (by decide +kernel) ?_ ?_
  · exact fun g9 => (PW_sub (ls' := [(2, 306)]) ⟨Or.inr rfl, trivial⟩ (h1 g9))
  · exact fun g9 => (PW_sub (ls' := [(2, 306)]) ⟨Or.inr rfl, trivial⟩ (h2 g9))
theorem S_X11_later_59 {X : CX} {d : Nat} {I R : PF} {Q : PV → PF → PF → Prop} (hs : Shp R) (h : PN X d mX11_later 78 [(2, 306)] [(0, (I 348 2))] I R Q) : PN X d mX11_later 59 [(2, 306)] [] I R Q := by
  refine P_aload_n (n := 0) (q := 60) rfl rfl (by decide +kernel) ?_
  refine B_getfR (q := 63) fX11_303 kM306 (rM306_59 hs) rfl (by decide +kernel) ?_
  refine P_iconst (n := 2) (q := 64) rfl (by decide +kernel) ?_
  refine B_iaload (q := 65) kM348 nM348 (by decide) ⟨by decide, by decide⟩ rfl (by decide +kernel) ?_
  refine P_goto (off := 13) (t := 78) (by decide) (by decide +kernel) ?_
  exact (PW_sub (ls' := [(2, 306)]) ⟨Or.inr rfl, trivial⟩ h)
theorem S_X11_later_68 {X : CX} {d d1 : Nat} {I R : PF} {Q Q1 : PV → PF → PF → Prop} (hs : Shp R) (e1 : d1 + 1 ≤ d) (hc : CN X d1 mX11_lawOf [(2, 306), (0, (I 348 1))] I R Q1) (h : ∀ z I2 R2, Q1 (0, z) I2 R2 → PN X d mX11_later 78 [(2, 306)] [(0, z)] I2 R2 Q) : PN X d mX11_later 68 [(2, 306)] [] I R Q := by
  refine P_aload_n (n := 0) (q := 69) rfl rfl (by decide +kernel) ?_
  refine P_aload_n (n := 0) (q := 70) rfl rfl (by decide +kernel) ?_
  refine B_getfR (q := 73) fX11_303 kM306 (rM306_59 hs) rfl (by decide +kernel) ?_
  refine P_iconst (n := 1) (q := 74) rfl (by decide +kernel) ?_
  refine B_iaload (q := 75) kM348 nM348 (by decide) ⟨by decide, by decide⟩ rfl (by decide +kernel) ?_
  refine P_invV (As := [(0, (I 348 1))]) (q := 78) oX11_lawOf rfl kM306 kX11_528 e1 hMF (Nat.le_of_ble_eq_true rfl) hc rfl (by decide +kernel) (fun z I2 R2 hq => ?_)
  exact (PW_sub (ls' := [(2, 306)]) ⟨Or.inr rfl, trivial⟩ (h z I2 R2 hq))
theorem S_X11_later_78 {X : CX} {d d1 : Nat} {o0 : Int} {I R : PF} {Q Q1 : PV → PF → PF → Prop} (e1 : d1 + 1 ≤ d) (hc : CN X d1 mX11_takesBack [(2, 306)] I R Q1) (h : ∀ z I2 R2, Q1 (9, z) I2 R2 → PN X d mX11_later 83 [(9, 0), (9, 0), (9, 0), (0, o0)] [] I2 R2 Q) : PN X d mX11_later 78 [(2, 306)] [(0, o0)] I R Q := by
  refine P_istore_n (n := 3) (by decide) (q := 79) rfl (by decide +kernel) ?_
  refine P_aload_n (n := 0) (q := 80) rfl rfl (by decide +kernel) ?_
  refine P_invV (As := []) (q := 83) oX11_takesBack rfl kM306 kX11_574 e1 hMF (Nat.le_of_ble_eq_true rfl) hc rfl (by decide +kernel) (fun z I2 R2 hq => ?_)
  exact (PW_sub (ls' := [(9, 0), (9, 0), (9, 0), (0, o0)]) ⟨Or.inl rfl, Or.inl rfl, Or.inl rfl, Or.inr rfl, trivial⟩ (h z I2 R2 hq))
theorem S_X11_later_83 {X : CX} {d : Nat} {x3 : Int} {I R : PF} {Q : PV → PF → PF → Prop} (h : Q (0, x3) I R) : PN X d mX11_later 83 [(9, 0), (9, 0), (9, 0), (0, x3)] [] I R Q := by
  refine P_iload_n (n := 3) (q := 84) rfl rfl (by decide +kernel) ?_
  refine P_iret rfl (by decide +kernel) h
theorem S_X11_lawMany_0 {X : CX} {d : Nat} {I R : PF} {Q : PV → PF → PF → Prop} (hs : Shp R) (h : Q (0, (I 339 3)) I R) : PN X d mX11_lawMany 0 [(2, 306)] [] I R Q := by
  refine P_aload_n (n := 0) (q := 1) rfl rfl (by decide +kernel) ?_
  refine B_getfR (q := 4) fX11_166 kM306 (rM306_42 hs) rfl (by decide +kernel) ?_
  refine P_iconst (n := 3) (q := 5) rfl (by decide +kernel) ?_
  refine B_iaload (q := 6) kM339 nM339 (by decide) ⟨by decide, by decide⟩ rfl (by decide +kernel) ?_
  refine P_iret rfl (by decide +kernel) h
theorem S_X11_lawOf_0 {X : CX} {d : Nat} {x1 : Int} {I R : PF} {Q : PV → PF → PF → Prop} (c1 : -2147483648 ≤ x1 ∧ x1 < 2147483648) (h1 : x1 ≠ (-1) → PN X d mX11_lawOf 9 [(2, 306), (0, x1)] [] I R Q) (h2 : x1 = (-1) → PN X d mX11_lawOf 5 [] [] I R Q) : PN X d mX11_lawOf 0 [(2, 306), (0, x1)] [] I R Q := by
  refine P_iload_n (n := 1) (q := 1) rfl rfl (by decide +kernel) ?_
  refine P_iconst (n := (-1)) (q := 2) rfl (by decide +kernel) ?_
  refine B_icmp_ne (off := 7) (t := 9) (q := 5) c1 ⟨by decide, by decide⟩ (by decide) rfl (by decide +kernel) ?_ ?_
  · exact fun g9 => (h1 g9)
  · exact fun g9 => (PW_sub (ls' := []) trivial (h2 g9))
theorem S_X11_lawOf_5 {X : CX} {d : Nat} {I R : PF} {Q : PV → PF → PF → Prop} (h : PN X d mX11_lawOf 20 [] [(0, (-1))] I R Q) : PN X d mX11_lawOf 5 [] [] I R Q := by
  refine P_iconst (n := (-1)) (q := 6) rfl (by decide +kernel) ?_
  refine P_goto (off := 14) (t := 20) (by decide) (by decide +kernel) ?_
  exact (PW_sub (ls' := []) trivial h)
theorem S_X11_lawOf_9 {X : CX} {d : Nat} {x1 : Int} {I R : PF} {Q : PV → PF → PF → Prop} (hs : Shp R) (b1 : (0 : Int) ≤ (26 + (4 * x1)) ∧ (26 + (4 * x1)) < 48) (h : PN X d mX11_lawOf 20 [] [(0, (I 342 (26 + (4 * x1))))] I R Q) : PN X d mX11_lawOf 9 [(2, 306), (0, x1)] [] I R Q := by
  refine P_aload_n (n := 0) (q := 10) rfl rfl (by decide +kernel) ?_
  refine B_getfR (q := 13) fX11_226 kM306 (rM306_45 hs) rfl (by decide +kernel) ?_
  refine P_bipush (n := 26) (q := 15) rfl rfl (by decide +kernel) ?_
  refine P_iconst (n := 4) (q := 16) rfl (by decide +kernel) ?_
  refine P_iload_n (n := 1) (q := 17) rfl rfl (by decide +kernel) ?_
  refine P_imul (q := 18) rfl (by decide +kernel) ?_
  refine P_iadd (q := 19) rfl (by decide +kernel) ?_
  refine B_iaload (q := 20) kM342 nM342 (by decide) b1 rfl (by decide +kernel) ?_
  exact (PW_sub (ls' := []) trivial h)
theorem S_X11_lawOf_20 {X : CX} {d : Nat} {o0 : Int} {I R : PF} {Q : PV → PF → PF → Prop} (h : Q (0, o0) I R) : PN X d mX11_lawOf 20 [] [(0, o0)] I R Q := by
  refine P_iret rfl (by decide +kernel) h
theorem S_X11_lawTold_0 {X : CX} {d d1 : Nat} {x1 : Int} {I R : PF} {Q Q1 : PV → PF → PF → Prop} (e1 : d1 + 1 ≤ d) (hc : CN X d1 mX11_isFull [(2, 306), (0, 0), (0, 6), (0, x1)] I R Q1) (h : ∀ z I2 R2, Q1 (0, z) I2 R2 → PN X d mX11_lawTold 8 [(2, 306)] [(0, z)] I2 R2 Q) : PN X d mX11_lawTold 0 [(2, 306), (0, x1)] [] I R Q := by
  refine P_aload_n (n := 0) (q := 1) rfl rfl (by decide +kernel) ?_
  refine P_iconst (n := 0) (q := 2) rfl (by decide +kernel) ?_
  refine P_bipush (n := 6) (q := 4) rfl rfl (by decide +kernel) ?_
  refine P_iload_n (n := 1) (q := 5) rfl rfl (by decide +kernel) ?_
  refine P_invV (As := [(0, 0), (0, 6), (0, x1)]) (q := 8) oX11_isFull rfl kM306 kX11_215 e1 hMF (Nat.le_of_ble_eq_true rfl) hc rfl (by decide +kernel) (fun z I2 R2 hq => ?_)
  exact (PW_sub (ls' := [(2, 306)]) ⟨Or.inr rfl, trivial⟩ (h z I2 R2 hq))
theorem S_X11_lawTold_8 {X : CX} {d : Nat} {o0 : Int} {I R : PF} {Q : PV → PF → PF → Prop} (c1 : -2147483648 ≤ o0 ∧ o0 < 2147483648) (h1 : o0 = 0 → PN X d mX11_lawTold 12 [(2, 306)] [] I R Q) (h2 : o0 ≠ 0 → PN X d mX11_lawTold 11 [] [] I R Q) : PN X d mX11_lawTold 8 [(2, 306)] [(0, o0)] I R Q := by
  refine B_if_eq (off := 4) (t := 12) (q := 11) c1 (by decide) rfl (by decide +kernel) ?_ ?_
  · exact fun g9 => (PW_sub (ls' := [(2, 306)]) ⟨Or.inr rfl, trivial⟩ (h1 g9))
  · exact fun g9 => (PW_sub (ls' := []) trivial (h2 g9))
theorem S_X11_lawTold_11 {X : CX} {d : Nat} {I R : PF} {Q : PV → PF → PF → Prop} (h : Q (9, 0) I R) : PN X d mX11_lawTold 11 [] [] I R Q := by
  refine P_vret rfl (by decide +kernel) h
theorem S_X11_lawTold_12 {X : CX} {d d1 : Nat} {I R : PF} {Q Q1 : PV → PF → PF → Prop} (e1 : d1 + 1 ≤ d) (hc : CN X d1 mX11_newName [(2, 306)] I R Q1) (h : ∀ z I2 R2, Q1 (1, z) I2 R2 → PN X d mX11_lawTold 16 [(2, 306)] [(1, z)] I2 R2 Q) : PN X d mX11_lawTold 12 [(2, 306)] [] I R Q := by
  refine P_aload_n (n := 0) (q := 13) rfl rfl (by decide +kernel) ?_
  refine P_invV (As := []) (q := 16) oX11_newName rfl kM306 kX11_219 e1 hMF (Nat.le_of_ble_eq_true rfl) hc rfl (by decide +kernel) (fun z I2 R2 hq => ?_)
  exact (PW_sub (ls' := [(2, 306)]) ⟨Or.inr rfl, trivial⟩ (h z I2 R2 hq))
theorem S_X11_lawTold_16 {X : CX} {d : Nat} {v0 : Int} {I R : PF} {Q : PV → PF → PF → Prop} (c1 : -2147483648 ≤ (I 306 5) ∧ (I 306 5) < 2147483648) (h1 : (I 306 5) = 0 → PN X d mX11_lawTold 25 [(2, 306), (9, 0), (1, v0)] [] I R Q) (h2 : (I 306 5) ≠ 0 → PN X d mX11_lawTold 24 [] [] I R Q) : PN X d mX11_lawTold 16 [(2, 306)] [(1, v0)] I R Q := by
  refine P_lstore_n (n := 2) (by decide) (q := 17) rfl (by decide +kernel) ?_
  refine P_aload_n (n := 0) (q := 18) rfl rfl (by decide +kernel) ?_
  refine P_getf (q := 21) fX11_14 kM306 rfl (by decide +kernel) ?_
  refine B_if_eq (off := 4) (t := 25) (q := 24) c1 (by decide) rfl (by decide +kernel) ?_ ?_
  · exact fun g9 => (PW_sub (ls' := [(2, 306), (9, 0), (1, v0)]) ⟨Or.inr rfl, Or.inl rfl, Or.inr rfl, trivial⟩ (h1 g9))
  · exact fun g9 => (PW_sub (ls' := []) trivial (h2 g9))
theorem S_X11_lawTold_24 {X : CX} {d : Nat} {I R : PF} {Q : PV → PF → PF → Prop} (h : Q (9, 0) I R) : PN X d mX11_lawTold 24 [] [] I R Q := by
  refine P_vret rfl (by decide +kernel) h
theorem S_X11_lawTold_25 {X : CX} {d : Nat} {y2 : Int} {I R : PF} {Q : PV → PF → PF → Prop} (hs : Shp R) (b1 : (0 : Int) ≤ (I 339 0) ∧ (I 339 0) < 24) (h : Q (9, 0) (u2 (u2 I 340 (I 339 0) y2) 339 0 (((u2 I 340 (I 339 0) y2) 339 0) + 1)) R) : PN X d mX11_lawTold 25 [(2, 306), (9, 0), (1, y2)] [] I R Q := by
  refine P_aload_n (n := 0) (q := 26) rfl rfl (by decide +kernel) ?_
  refine B_getfR (q := 29) fX11_169 kM306 (rM306_43 hs) rfl (by decide +kernel) ?_
  refine P_aload_n (n := 0) (q := 30) rfl rfl (by decide +kernel) ?_
  refine B_getfR (q := 33) fX11_166 kM306 (rM306_42 hs) rfl (by decide +kernel) ?_
  refine P_iconst (n := 0) (q := 34) rfl (by decide +kernel) ?_
  refine B_iaload (q := 35) kM339 nM339 (by decide) ⟨by decide, by decide⟩ rfl (by decide +kernel) ?_
  refine P_lload_n (n := 2) (q := 36) rfl rfl (by decide +kernel) ?_
  refine B_lastore (q := 37) kM340 nM340 (by decide) b1 rfl (by decide +kernel) ?_
  refine P_aload_n (n := 0) (q := 38) rfl rfl (by decide +kernel) ?_
  refine B_getfR (q := 41) fX11_166 kM306 (rM306_42 hs) rfl (by decide +kernel) ?_
  refine P_iconst (n := 0) (q := 42) rfl (by decide +kernel) ?_
  refine P_dup2 (q := 43) (Nat.ne_of_beq_eq_false rfl) (Nat.ne_of_beq_eq_false rfl) rfl (by decide +kernel) ?_
  refine B_iaload (q := 44) kM339 nM339 (by decide) ⟨by decide, by decide⟩ rfl (by decide +kernel) ?_
  refine P_iconst (n := 1) (q := 45) rfl (by decide +kernel) ?_
  refine P_iadd (q := 46) rfl (by decide +kernel) ?_
  refine B_iastore (q := 47) kM339 nM339 (by decide) ⟨by decide, by decide⟩ rfl (by decide +kernel) ?_
  refine P_vret rfl (by decide +kernel) h
theorem S_X11_letter_0 {X : CX} {d d1 : Nat} {x1 x2 x3 : Int} {I R : PF} {Q Q1 : PV → PF → PF → Prop} (c1 : -2147483648 ≤ x1 ∧ x1 < 2147483648) (e1 : d1 + 1 ≤ d) (hc : CN X d1 mX11_isIn [(1, x1), (1, 0), (1, 1)] I R Q1) (h : ∀ z I2 R2, Q1 (0, z) I2 R2 → PN X d mX11_letter 7 [(2, 306), (0, x1), (0, x2), (0, x3)] [(0, z)] I2 R2 Q) : PN X d mX11_letter 0 [(2, 306), (0, x1), (0, x2), (0, x3)] [] I R Q := by
  refine P_iload_n (n := 1) (q := 1) rfl rfl (by decide +kernel) ?_
  refine B_i2l (q := 2) c1 rfl (by decide +kernel) ?_
  refine P_lconst (n := 0) (x := 0) (q := 3) rfl rfl (by decide +kernel) ?_
  refine P_lconst (n := 1) (x := 1) (q := 4) rfl rfl (by decide +kernel) ?_
  refine P_invS (As := [(1, x1), (1, 0), (1, 1)]) (q := 7) oX11_isIn rfl (Or.inl kX11_57) e1 hMF (Nat.le_of_ble_eq_true rfl) hc rfl (by decide +kernel) (fun z I2 R2 hq => ?_)
  exact (h z I2 R2 hq)
theorem S_X11_letter_7 {X : CX} {d : Nat} {x1 x2 x3 o0 : Int} {I R : PF} {Q : PV → PF → PF → Prop} (c1 : -2147483648 ≤ o0 ∧ o0 < 2147483648) (h1 : o0 = 0 → PN X d mX11_letter 42 [] [] I R Q) (h2 : o0 ≠ 0 → PN X d mX11_letter 10 [(2, 306), (0, x1), (0, x2), (0, x3)] [] I R Q) : PN X d mX11_letter 7 [(2, 306), (0, x1), (0, x2), (0, x3)] [(0, o0)] I R Q := by
  refine B_if_eq (off := 35) (t := 42) (q := 10) c1 (by decide) rfl (by decide +kernel) ?_ ?_
  · exact fun g9 => (PW_sub (ls' := []) trivial (h1 g9))
  · exact fun g9 => (h2 g9)
theorem S_X11_letter_10 {X : CX} {d d1 : Nat} {x1 x2 x3 : Int} {I R : PF} {Q Q1 : PV → PF → PF → Prop} (hs : Shp R) (c1 : -2147483648 ≤ x2 ∧ x2 < 2147483648) (b1 : (0 : Int) ≤ (3 + x1) ∧ (3 + x1) < 6) (c2 : -2147483648 ≤ ((I 339 (3 + x1)) - 1) ∧ ((I 339 (3 + x1)) - 1) < 2147483648) (e1 : d1 + 1 ≤ d) (hc : CN X d1 mX11_isIn [(1, x2), (1, 0), (1, ((I 339 (3 + x1)) - 1))] I R Q1) (h : ∀ z I2 R2, Q1 (0, z) I2 R2 → PN X d mX11_letter 27 [(2, 306), (0, x1), (0, x2), (0, x3)] [(0, z)] I2 R2 Q) : PN X d mX11_letter 10 [(2, 306), (0, x1), (0, x2), (0, x3)] [] I R Q := by
  refine P_iload_n (n := 2) (q := 11) rfl rfl (by decide +kernel) ?_
  refine B_i2l (q := 12) c1 rfl (by decide +kernel) ?_
  refine P_lconst (n := 0) (x := 0) (q := 13) rfl rfl (by decide +kernel) ?_
  refine P_aload_n (n := 0) (q := 14) rfl rfl (by decide +kernel) ?_
  refine B_getfR (q := 17) fX11_166 kM306 (rM306_42 hs) rfl (by decide +kernel) ?_
  refine P_iconst (n := 3) (q := 18) rfl (by decide +kernel) ?_
  refine P_iload_n (n := 1) (q := 19) rfl rfl (by decide +kernel) ?_
  refine P_iadd (q := 20) rfl (by decide +kernel) ?_
  refine B_iaload (q := 21) kM339 nM339 (by decide) b1 rfl (by decide +kernel) ?_
  refine P_iconst (n := 1) (q := 22) rfl (by decide +kernel) ?_
  refine P_isub (q := 23) rfl (by decide +kernel) ?_
  refine B_i2l (q := 24) c2 rfl (by decide +kernel) ?_
  refine P_invS (As := [(1, x2), (1, 0), (1, ((I 339 (3 + x1)) - 1))]) (q := 27) oX11_isIn rfl (Or.inl kX11_57) e1 hMF (Nat.le_of_ble_eq_true rfl) hc rfl (by decide +kernel) (fun z I2 R2 hq => ?_)
  exact (h z I2 R2 hq)
theorem S_X11_letter_27 {X : CX} {d : Nat} {x1 x2 x3 o0 : Int} {I R : PF} {Q : PV → PF → PF → Prop} (c1 : -2147483648 ≤ o0 ∧ o0 < 2147483648) (h1 : o0 = 0 → PN X d mX11_letter 42 [] [] I R Q) (h2 : o0 ≠ 0 → PN X d mX11_letter 30 [(2, 306), (0, x1), (0, x2), (0, x3)] [] I R Q) : PN X d mX11_letter 27 [(2, 306), (0, x1), (0, x2), (0, x3)] [(0, o0)] I R Q := by
  refine B_if_eq (off := 15) (t := 42) (q := 30) c1 (by decide) rfl (by decide +kernel) ?_ ?_
  · exact fun g9 => (PW_sub (ls' := []) trivial (h1 g9))
  · exact fun g9 => (h2 g9)
theorem S_X11_letter_30 {X : CX} {d d1 : Nat} {x1 x2 x3 : Int} {I R : PF} {Q Q1 : PV → PF → PF → Prop} (c1 : -2147483648 ≤ x3 ∧ x3 < 2147483648) (e1 : d1 + 1 ≤ d) (hc : CN X d1 mX11_isIn [(1, x3), (1, 0), (1, 5)] I R Q1) (h : ∀ z I2 R2, Q1 (0, z) I2 R2 → PN X d mX11_letter 39 [(2, 306), (0, x1), (0, x2), (0, x3)] [(0, z)] I2 R2 Q) : PN X d mX11_letter 30 [(2, 306), (0, x1), (0, x2), (0, x3)] [] I R Q := by
  refine P_iload_n (n := 3) (q := 31) rfl rfl (by decide +kernel) ?_
  refine B_i2l (q := 32) c1 rfl (by decide +kernel) ?_
  refine P_lconst (n := 0) (x := 0) (q := 33) rfl rfl (by decide +kernel) ?_
  refine P_ldc2 (ix := 531) (v := 5) (x := 5) (q := 36) rfl (tGp8 2 rfl rfl) rfl (by decide +kernel) ?_
  refine P_invS (As := [(1, x3), (1, 0), (1, 5)]) (q := 39) oX11_isIn rfl (Or.inl kX11_57) e1 hMF (Nat.le_of_ble_eq_true rfl) hc rfl (by decide +kernel) (fun z I2 R2 hq => ?_)
  exact (h z I2 R2 hq)
theorem S_X11_letter_39 {X : CX} {d : Nat} {x1 x2 x3 o0 : Int} {I R : PF} {Q : PV → PF → PF → Prop} (c1 : -2147483648 ≤ o0 ∧ o0 < 2147483648) (h1 : o0 ≠ 0 → PN X d mX11_letter 44 [(2, 306), (0, x1), (0, x2), (0, x3)] [] I R Q) (h2 : o0 = 0 → PN X d mX11_letter 42 [] [] I R Q) : PN X d mX11_letter 39 [(2, 306), (0, x1), (0, x2), (0, x3)] [(0, o0)] I R Q := by
  refine B_if_ne (off := 5) (t := 44) (q := 42) c1 (by decide) rfl (by decide +kernel) ?_ ?_
  · exact fun g9 => (h1 g9)
  · exact fun g9 => (PW_sub (ls' := []) trivial (h2 g9))
theorem S_X11_letter_42 {X : CX} {d : Nat} {I R : PF} {Q : PV → PF → PF → Prop} (h : Q (0, (-1)) I R) : PN X d mX11_letter 42 [] [] I R Q := by
  refine P_iconst (n := (-1)) (q := 43) rfl (by decide +kernel) ?_
  refine P_iret rfl (by decide +kernel) h
theorem S_X11_letter_44 {X : CX} {d : Nat} {x1 x2 x3 : Int} {I R : PF} {Q : PV → PF → PF → Prop} (hs : Shp R) (b1 : (0 : Int) ≤ ((12 + (6 * x1)) + x2) ∧ ((12 + (6 * x1)) + x2) < 24) (h : PN X d mX11_letter 67 [(9, 0), (9, 0), (9, 0), (0, x3), (1, (I 340 ((12 + (6 * x1)) + x2))), (9, 0), (0, 0), (1, (I 340 ((12 + (6 * x1)) + x2)))] [] I R Q) : PN X d mX11_letter 44 [(2, 306), (0, x1), (0, x2), (0, x3)] [] I R Q := by
  refine P_aload_n (n := 0) (q := 45) rfl rfl (by decide +kernel) ?_
  refine B_getfR (q := 48) fX11_169 kM306 (rM306_43 hs) rfl (by decide +kernel) ?_
  refine P_bipush (n := 12) (q := 50) rfl rfl (by decide +kernel) ?_
  refine P_bipush (n := 6) (q := 52) rfl rfl (by decide +kernel) ?_
  refine P_iload_n (n := 1) (q := 53) rfl rfl (by decide +kernel) ?_
  refine P_imul (q := 54) rfl (by decide +kernel) ?_
  refine P_iadd (q := 55) rfl (by decide +kernel) ?_
  refine P_iload_n (n := 2) (q := 56) rfl rfl (by decide +kernel) ?_
  refine P_iadd (q := 57) rfl (by decide +kernel) ?_
  refine B_laload (q := 58) kM340 nM340 (by decide) b1 rfl (by decide +kernel) ?_
  refine P_lstore (n := 4) (by decide) (q := 60) rfl (by decide +kernel) ?_
  refine P_iconst (n := 0) (q := 61) rfl (by decide +kernel) ?_
  refine P_istore (n := 6) (by decide) (q := 63) rfl (by decide +kernel) ?_
  refine P_lload (n := 4) (q := 65) rfl rfl (by decide +kernel) ?_
  refine P_lstore (n := 7) (by decide) (q := 67) rfl (by decide +kernel) ?_
  exact (PW_sub (ls' := [(9, 0), (9, 0), (9, 0), (0, x3), (1, (I 340 ((12 + (6 * x1)) + x2))), (9, 0), (0, 0), (1, (I 340 ((12 + (6 * x1)) + x2)))]) ⟨Or.inl rfl, Or.inl rfl, Or.inl rfl, Or.inr rfl, Or.inr rfl, Or.inl rfl, Or.inr rfl, Or.inr rfl, trivial⟩ h)
theorem S_X11_letter_67 {X : CX} {d : Nat} {x3 y4 x6 y7 : Int} {I R : PF} {Q : PV → PF → PF → Prop} (c1 : -9223372036854775808 ≤ y7 ∧ y7 < 9223372036854775808) (h1 : y7 ≤ 0 → PN X d mX11_letter 88 [(9, 0), (9, 0), (9, 0), (0, x3), (1, y4), (9, 0), (0, x6)] [] I R Q) (h2 : 0 < y7 → PN X d mX11_letter 74 [(9, 0), (9, 0), (9, 0), (0, x3), (1, y4), (9, 0), (0, x6), (1, y7)] [] I R Q) : PN X d mX11_letter 67 [(9, 0), (9, 0), (9, 0), (0, x3), (1, y4), (9, 0), (0, x6), (1, y7)] [] I R Q := by
  refine P_lload (n := 7) (q := 69) rfl rfl (by decide +kernel) ?_
  refine P_lconst (n := 0) (x := 0) (q := 70) rfl rfl (by decide +kernel) ?_
  refine B_lif_le (off := 17) (t := 88) (q1 := 71) (q := 74) c1 ⟨by decide, by decide⟩ rfl (by decide +kernel) (by decide) rfl (by decide +kernel) ?_ ?_
  · exact fun g9 => (PW_sub (ls' := [(9, 0), (9, 0), (9, 0), (0, x3), (1, y4), (9, 0), (0, x6)]) ⟨Or.inl rfl, Or.inl rfl, Or.inl rfl, Or.inr rfl, Or.inr rfl, Or.inl rfl, Or.inr rfl, trivial⟩ (h1 g9))
  · exact fun g9 => (PW_sub (ls' := [(9, 0), (9, 0), (9, 0), (0, x3), (1, y4), (9, 0), (0, x6), (1, y7)]) ⟨Or.inl rfl, Or.inl rfl, Or.inl rfl, Or.inr rfl, Or.inr rfl, Or.inl rfl, Or.inr rfl, Or.inr rfl, trivial⟩ (h2 g9))
theorem S_X11_letter_74 {X : CX} {d : Nat} {x3 y4 x6 y7 : Int} {I R : PF} {Q : PV → PF → PF → Prop} (c1 : -9223372036854775808 ≤ y7 ∧ y7 < 9223372036854775808) (h : PN X d mX11_letter 67 [(9, 0), (9, 0), (9, 0), (0, x3), (1, y4), (9, 0), (0, (x6 + 1)), (1, (y7.tdiv 27))] [] I R Q) : PN X d mX11_letter 74 [(9, 0), (9, 0), (9, 0), (0, x3), (1, y4), (9, 0), (0, x6), (1, y7)] [] I R Q := by
  refine P_iinc (n := 6) (a := 1) (by decide) rfl (q := 77) rfl (by decide +kernel) ?_
  refine P_lload (n := 7) (q := 79) rfl rfl (by decide +kernel) ?_
  refine P_ldc2 (ix := 159) (v := 27) (x := 27) (q := 82) rfl (tGp6 0 rfl rfl) rfl (by decide +kernel) ?_
  refine B_ldiv (q := 83) c1 ⟨by decide, by decide⟩ (by decide) rfl (by decide +kernel) ?_
  refine P_lstore (n := 7) (by decide) (q := 85) rfl (by decide +kernel) ?_
  refine P_goto (off := (-18)) (t := 67) (by decide) (by decide +kernel) ?_
  exact (PW_sub (ls' := [(9, 0), (9, 0), (9, 0), (0, x3), (1, y4), (9, 0), (0, (x6 + 1)), (1, (y7.tdiv 27))]) ⟨Or.inl rfl, Or.inl rfl, Or.inl rfl, Or.inr rfl, Or.inr rfl, Or.inl rfl, Or.inr rfl, Or.inr rfl, trivial⟩ h)
theorem S_X11_letter_88 {X : CX} {d : Nat} {x3 y4 x6 : Int} {I R : PF} {Q : PV → PF → PF → Prop} (c1 : -2147483648 ≤ x3 ∧ x3 < 2147483648) (c2 : -2147483648 ≤ x6 ∧ x6 < 2147483648) (h1 : x3 < x6 → PN X d mX11_letter 96 [(9, 0), (9, 0), (9, 0), (0, x3), (1, y4), (9, 0), (0, x6)] [] I R Q) (h2 : x6 ≤ x3 → PN X d mX11_letter 94 [] [] I R Q) : PN X d mX11_letter 88 [(9, 0), (9, 0), (9, 0), (0, x3), (1, y4), (9, 0), (0, x6)] [] I R Q := by
  refine P_iload_n (n := 3) (q := 89) rfl rfl (by decide +kernel) ?_
  refine P_iload (n := 6) (q := 91) rfl rfl (by decide +kernel) ?_
  refine B_icmp_lt (off := 5) (t := 96) (q := 94) c1 c2 (by decide) rfl (by decide +kernel) ?_ ?_
  · exact fun g9 => (PW_sub (ls' := [(9, 0), (9, 0), (9, 0), (0, x3), (1, y4), (9, 0), (0, x6)]) ⟨Or.inl rfl, Or.inl rfl, Or.inl rfl, Or.inr rfl, Or.inr rfl, Or.inl rfl, Or.inr rfl, trivial⟩ (h1 g9))
  · exact fun g9 => (PW_sub (ls' := []) trivial (h2 g9))
theorem S_X11_letter_94 {X : CX} {d : Nat} {I R : PF} {Q : PV → PF → PF → Prop} (h : Q (0, 0) I R) : PN X d mX11_letter 94 [] [] I R Q := by
  refine P_iconst (n := 0) (q := 95) rfl (by decide +kernel) ?_
  refine P_iret rfl (by decide +kernel) h
theorem S_X11_letter_96 {X : CX} {d : Nat} {x3 y4 x6 : Int} {I R : PF} {Q : PV → PF → PF → Prop} (h : PN X d mX11_letter 102 [(9, 0), (9, 0), (9, 0), (0, x3), (1, y4), (9, 0), (9, 0), (0, (x6 - 1))] [] I R Q) : PN X d mX11_letter 96 [(9, 0), (9, 0), (9, 0), (0, x3), (1, y4), (9, 0), (0, x6)] [] I R Q := by
  refine P_iload (n := 6) (q := 98) rfl rfl (by decide +kernel) ?_
  refine P_iconst (n := 1) (q := 99) rfl (by decide +kernel) ?_
  refine P_isub (q := 100) rfl (by decide +kernel) ?_
  refine P_istore (n := 7) (by decide) (q := 102) rfl (by decide +kernel) ?_
  exact (PW_sub (ls' := [(9, 0), (9, 0), (9, 0), (0, x3), (1, y4), (9, 0), (9, 0), (0, (x6 - 1))]) ⟨Or.inl rfl, Or.inl rfl, Or.inl rfl, Or.inr rfl, Or.inr rfl, Or.inl rfl, Or.inl rfl, Or.inr rfl, trivial⟩ h)
theorem S_X11_letter_102 {X : CX} {d : Nat} {x3 y4 x7 : Int} {I R : PF} {Q : PV → PF → PF → Prop} (c1 : -2147483648 ≤ x7 ∧ x7 < 2147483648) (c2 : -2147483648 ≤ x3 ∧ x3 < 2147483648) (h1 : x7 ≤ x3 → PN X d mX11_letter 122 [(9, 0), (9, 0), (9, 0), (9, 0), (1, y4)] [] I R Q) (h2 : x3 < x7 → PN X d mX11_letter 108 [(9, 0), (9, 0), (9, 0), (0, x3), (1, y4), (9, 0), (9, 0), (0, x7)] [] I R Q) : PN X d mX11_letter 102 [(9, 0), (9, 0), (9, 0), (0, x3), (1, y4), (9, 0), (9, 0), (0, x7)] [] I R Q := by
  refine P_iload (n := 7) (q := 104) rfl rfl (by decide +kernel) ?_
  refine P_iload_n (n := 3) (q := 105) rfl rfl (by decide +kernel) ?_
  refine B_icmp_le (off := 17) (t := 122) (q := 108) c1 c2 (by decide) rfl (by decide +kernel) ?_ ?_
  · exact fun g9 => (PW_sub (ls' := [(9, 0), (9, 0), (9, 0), (9, 0), (1, y4)]) ⟨Or.inl rfl, Or.inl rfl, Or.inl rfl, Or.inl rfl, Or.inr rfl, trivial⟩ (h1 g9))
  · exact fun g9 => (PW_sub (ls' := [(9, 0), (9, 0), (9, 0), (0, x3), (1, y4), (9, 0), (9, 0), (0, x7)]) ⟨Or.inl rfl, Or.inl rfl, Or.inl rfl, Or.inr rfl, Or.inr rfl, Or.inl rfl, Or.inl rfl, Or.inr rfl, trivial⟩ (h2 g9))
theorem S_X11_letter_108 {X : CX} {d : Nat} {x3 y4 x7 : Int} {I R : PF} {Q : PV → PF → PF → Prop} (c1 : -9223372036854775808 ≤ y4 ∧ y4 < 9223372036854775808) (h : PN X d mX11_letter 102 [(9, 0), (9, 0), (9, 0), (0, x3), (1, (y4.tdiv 27)), (9, 0), (9, 0), (0, (x7 + (-1)))] [] I R Q) : PN X d mX11_letter 108 [(9, 0), (9, 0), (9, 0), (0, x3), (1, y4), (9, 0), (9, 0), (0, x7)] [] I R Q := by
  refine P_lload (n := 4) (q := 110) rfl rfl (by decide +kernel) ?_
  refine P_ldc2 (ix := 159) (v := 27) (x := 27) (q := 113) rfl (tGp6 0 rfl rfl) rfl (by decide +kernel) ?_
  refine B_ldiv (q := 114) c1 ⟨by decide, by decide⟩ (by decide) rfl (by decide +kernel) ?_
  refine P_lstore (n := 4) (by decide) (q := 116) rfl (by decide +kernel) ?_
  refine P_iinc (n := 7) (a := (-1)) (by decide) rfl (q := 119) rfl (by decide +kernel) ?_
  refine P_goto (off := (-17)) (t := 102) (by decide) (by decide +kernel) ?_
  exact (PW_sub (ls' := [(9, 0), (9, 0), (9, 0), (0, x3), (1, (y4.tdiv 27)), (9, 0), (9, 0), (0, (x7 + (-1)))]) ⟨Or.inl rfl, Or.inl rfl, Or.inl rfl, Or.inr rfl, Or.inr rfl, Or.inl rfl, Or.inl rfl, Or.inr rfl, trivial⟩ h)
theorem S_X11_letter_122 {X : CX} {d : Nat} {y4 : Int} {I R : PF} {Q : PV → PF → PF → Prop} (c1 : -9223372036854775808 ≤ y4 ∧ y4 < 9223372036854775808) (h : Q (0, (y4.tmod 27)) I R) : PN X d mX11_letter 122 [(9, 0), (9, 0), (9, 0), (9, 0), (1, y4)] [] I R Q := by
  refine P_lload (n := 4) (q := 124) rfl rfl (by decide +kernel) ?_
  refine P_ldc2 (ix := 159) (v := 27) (x := 27) (q := 127) rfl (tGp6 0 rfl rfl) rfl (by decide +kernel) ?_
  refine B_lrem (q := 128) c1 ⟨by decide, by decide⟩ (by decide) rfl (by decide +kernel) ?_
  refine P_l2i (q := 129) rfl (by decide +kernel) ?_
  refine P_iret rfl (by decide +kernel) h
theorem S_X11_likely_0 {X : CX} {d d1 : Nat} {x1 x2 : Int} {I R : PF} {Q Q1 : PV → PF → PF → Prop} (e1 : d1 + 1 ≤ d) (hc : CN X d1 mX11_isPerson [(2, 306), (0, x1)] I R Q1) (h : ∀ z I2 R2, Q1 (0, z) I2 R2 → PN X d mX11_likely 5 [(2, 306), (0, x1), (0, x2)] [(0, z)] I2 R2 Q) : PN X d mX11_likely 0 [(2, 306), (0, x1), (0, x2)] [] I R Q := by
  refine P_aload_n (n := 0) (q := 1) rfl rfl (by decide +kernel) ?_
  refine P_iload_n (n := 1) (q := 2) rfl rfl (by decide +kernel) ?_
  refine P_invV (As := [(0, x1)]) (q := 5) oX11_isPerson rfl kM306 kX11_533 e1 hMF (Nat.le_of_ble_eq_true rfl) hc rfl (by decide +kernel) (fun z I2 R2 hq => ?_)
  exact (h z I2 R2 hq)
theorem S_X11_likely_5 {X : CX} {d : Nat} {x1 x2 o0 : Int} {I R : PF} {Q : PV → PF → PF → Prop} (c1 : -2147483648 ≤ o0 ∧ o0 < 2147483648) (h1 : o0 = 0 → PN X d mX11_likely 18 [] [] I R Q) (h2 : o0 ≠ 0 → PN X d mX11_likely 8 [(2, 306), (0, x1), (0, x2)] [] I R Q) : PN X d mX11_likely 5 [(2, 306), (0, x1), (0, x2)] [(0, o0)] I R Q := by
  refine B_if_eq (off := 13) (t := 18) (q := 8) c1 (by decide) rfl (by decide +kernel) ?_ ?_
  · exact fun g9 => (PW_sub (ls' := []) trivial (h1 g9))
  · exact fun g9 => (h2 g9)
theorem S_X11_likely_8 {X : CX} {d d1 : Nat} {x1 x2 : Int} {I R : PF} {Q Q1 : PV → PF → PF → Prop} (c1 : -2147483648 ≤ x2 ∧ x2 < 2147483648) (e1 : d1 + 1 ≤ d) (hc : CN X d1 mX11_isIn [(1, x2), (1, 0), (1, 1)] I R Q1) (h : ∀ z I2 R2, Q1 (0, z) I2 R2 → PN X d mX11_likely 15 [(2, 306), (0, x1), (0, x2)] [(0, z)] I2 R2 Q) : PN X d mX11_likely 8 [(2, 306), (0, x1), (0, x2)] [] I R Q := by
  refine P_iload_n (n := 2) (q := 9) rfl rfl (by decide +kernel) ?_
  refine B_i2l (q := 10) c1 rfl (by decide +kernel) ?_
  refine P_lconst (n := 0) (x := 0) (q := 11) rfl rfl (by decide +kernel) ?_
  refine P_lconst (n := 1) (x := 1) (q := 12) rfl rfl (by decide +kernel) ?_
  refine P_invS (As := [(1, x2), (1, 0), (1, 1)]) (q := 15) oX11_isIn rfl (Or.inl kX11_57) e1 hMF (Nat.le_of_ble_eq_true rfl) hc rfl (by decide +kernel) (fun z I2 R2 hq => ?_)
  exact (h z I2 R2 hq)
theorem S_X11_likely_15 {X : CX} {d : Nat} {x1 x2 o0 : Int} {I R : PF} {Q : PV → PF → PF → Prop} (c1 : -2147483648 ≤ o0 ∧ o0 < 2147483648) (h1 : o0 ≠ 0 → PN X d mX11_likely 20 [(2, 306), (0, x1), (0, x2)] [] I R Q) (h2 : o0 = 0 → PN X d mX11_likely 18 [] [] I R Q) : PN X d mX11_likely 15 [(2, 306), (0, x1), (0, x2)] [(0, o0)] I R Q := by
  refine B_if_ne (off := 5) (t := 20) (q := 18) c1 (by decide) rfl (by decide +kernel) ?_ ?_
  · exact fun g9 => (h1 g9)
  · exact fun g9 => (PW_sub (ls' := []) trivial (h2 g9))
theorem S_X11_likely_18 {X : CX} {d : Nat} {I R : PF} {Q : PV → PF → PF → Prop} (h : Q (0, (-1)) I R) : PN X d mX11_likely 18 [] [] I R Q := by
  refine P_iconst (n := (-1)) (q := 19) rfl (by decide +kernel) ?_
  refine P_iret rfl (by decide +kernel) h
theorem S_X11_likely_20 {X : CX} {d : Nat} {x1 x2 : Int} {I R : PF} {Q : PV → PF → PF → Prop} (h : PN X d mX11_likely 28 [(2, 306), (0, x1), (0, x2), (0, (-1)), (0, 0), (0, 0)] [] I R Q) : PN X d mX11_likely 20 [(2, 306), (0, x1), (0, x2)] [] I R Q := by
  refine P_iconst (n := (-1)) (q := 21) rfl (by decide +kernel) ?_
  refine P_istore_n (n := 3) (by decide) (q := 22) rfl (by decide +kernel) ?_
  refine P_iconst (n := 0) (q := 23) rfl (by decide +kernel) ?_
  refine P_istore (n := 4) (by decide) (q := 25) rfl (by decide +kernel) ?_
  refine P_iconst (n := 0) (q := 26) rfl (by decide +kernel) ?_
  refine P_istore (n := 5) (by decide) (q := 28) rfl (by decide +kernel) ?_
  exact h
theorem S_X11_likely_28 {X : CX} {d : Nat} {x1 x2 x3 x4 x5 : Int} {I R : PF} {Q : PV → PF → PF → Prop} (c1 : -2147483648 ≤ x5 ∧ x5 < 2147483648) (h1 : 33 ≤ x5 → PN X d mX11_likely 83 [(9, 0), (9, 0), (0, x2), (0, x3), (0, x4)] [] I R Q) (h2 : x5 < 33 → PN X d mX11_likely 35 [(2, 306), (0, x1), (0, x2), (0, x3), (0, x4), (0, x5)] [] I R Q) : PN X d mX11_likely 28 [(2, 306), (0, x1), (0, x2), (0, x3), (0, x4), (0, x5)] [] I R Q := by
  refine P_iload (n := 5) (q := 30) rfl rfl (by decide +kernel) ?_
  refine P_bipush (n := 33) (q := 32) rfl rfl (by decide +kernel) ?_
  refine B_icmp_ge (off := 51) (t := 83) (q := 35) c1 ⟨by decide, by decide⟩ (by decide) rfl (by decide +kernel) ?_ ?_
  · exact fun g9 => (PW_sub (ls' := [(9, 0), (9, 0), (0, x2), (0, x3), (0, x4)]) ⟨Or.inl rfl, Or.inl rfl, Or.inr rfl, Or.inr rfl, Or.inr rfl, trivial⟩ (h1 g9))
  · exact fun g9 => (h2 g9)
theorem S_X11_likely_35 {X : CX} {d d1 : Nat} {x1 x2 x3 x4 x5 : Int} {I R : PF} {Q Q1 : PV → PF → PF → Prop} (e1 : d1 + 1 ≤ d) (hc : CN X d1 mX11_wayOf [(0, x5)] I R Q1) (h : ∀ z I2 R2, Q1 (0, z) I2 R2 → PN X d mX11_likely 41 [(2, 306), (0, x1), (0, x2), (0, x3), (0, x4), (0, x5)] [(0, z), (2, 306)] I2 R2 Q) : PN X d mX11_likely 35 [(2, 306), (0, x1), (0, x2), (0, x3), (0, x4), (0, x5)] [] I R Q := by
  refine P_aload_n (n := 0) (q := 36) rfl rfl (by decide +kernel) ?_
  refine P_iload (n := 5) (q := 38) rfl rfl (by decide +kernel) ?_
  refine P_invS (As := [(0, x5)]) (q := 41) oX11_wayOf rfl (Or.inl kX11_549) e1 hMF (Nat.le_of_ble_eq_true rfl) hc rfl (by decide +kernel) (fun z I2 R2 hq => ?_)
  exact (h z I2 R2 hq)
theorem S_X11_likely_41 {X : CX} {d d1 : Nat} {x1 x2 x3 x4 x5 o1 : Int} {I R : PF} {Q Q1 : PV → PF → PF → Prop} (e1 : d1 + 1 ≤ d) (hc : CN X d1 mX11_forceOf [(0, x5)] I R Q1) (h : ∀ z I2 R2, Q1 (0, z) I2 R2 → PN X d mX11_likely 46 [(2, 306), (0, x1), (0, x2), (0, x3), (0, x4), (0, x5)] [(0, z), (0, o1), (2, 306)] I2 R2 Q) : PN X d mX11_likely 41 [(2, 306), (0, x1), (0, x2), (0, x3), (0, x4), (0, x5)] [(0, o1), (2, 306)] I R Q := by
  refine P_iload (n := 5) (q := 43) rfl rfl (by decide +kernel) ?_
  refine P_invS (As := [(0, x5)]) (q := 46) oX11_forceOf rfl (Or.inl kX11_552) e1 hMF (Nat.le_of_ble_eq_true rfl) hc rfl (by decide +kernel) (fun z I2 R2 hq => ?_)
  exact (h z I2 R2 hq)
theorem S_X11_likely_46 {X : CX} {d d1 : Nat} {x1 x2 x3 x4 x5 o1 o2 : Int} {I R : PF} {Q Q1 : PV → PF → PF → Prop} (hs : Shp R) (e1 : d1 + 1 ≤ d) (hc : CN X d1 mX11_tosses [(2, 306), (0, o1), (0, o2), (0, (I 348 0))] I R Q1) (h : ∀ z I2 R2, Q1 (9, z) I2 R2 → PN X d mX11_likely 55 [(2, 306), (0, x1), (0, x2), (0, x3), (0, x4), (0, x5)] [] I2 R2 Q) : PN X d mX11_likely 46 [(2, 306), (0, x1), (0, x2), (0, x3), (0, x4), (0, x5)] [(0, o2), (0, o1), (2, 306)] I R Q := by
  refine P_aload_n (n := 0) (q := 47) rfl rfl (by decide +kernel) ?_
  refine B_getfR (q := 50) fX11_303 kM306 (rM306_59 hs) rfl (by decide +kernel) ?_
  refine P_iconst (n := 0) (q := 51) rfl (by decide +kernel) ?_
  refine B_iaload (q := 52) kM348 nM348 (by decide) ⟨by decide, by decide⟩ rfl (by decide +kernel) ?_
  refine P_invV (As := [(0, o1), (0, o2), (0, (I 348 0))]) (q := 55) oX11_tosses rfl kM306 kX11_545 e1 hMF (Nat.le_of_ble_eq_true rfl) hc rfl (by decide +kernel) (fun z I2 R2 hq => ?_)
  exact (h z I2 R2 hq)
theorem S_X11_likely_55 {X : CX} {d : Nat} {x1 x2 x3 x4 x5 : Int} {I R : PF} {Q : PV → PF → PF → Prop} (c1 : -2147483648 ≤ (I 306 69) ∧ (I 306 69) < 2147483648) (c2 : -2147483648 ≤ x1 ∧ x1 < 2147483648) (h1 : (I 306 69) = x1 → PN X d mX11_likely 66 [(2, 306), (0, x1), (0, x2), (0, x3), (0, x4), (0, x5)] [] I R Q) (h2 : (I 306 69) ≠ x1 → PN X d mX11_likely 63 [(2, 306), (0, x1), (0, x2), (0, x3), (0, x4), (0, x5)] [] I R Q) : PN X d mX11_likely 55 [(2, 306), (0, x1), (0, x2), (0, x3), (0, x4), (0, x5)] [] I R Q := by
  refine P_aload_n (n := 0) (q := 56) rfl rfl (by decide +kernel) ?_
  refine P_getf (q := 59) fX11_485 kM306 rfl (by decide +kernel) ?_
  refine P_iload_n (n := 1) (q := 60) rfl rfl (by decide +kernel) ?_
  refine B_icmp_eq (off := 6) (t := 66) (q := 63) c1 c2 (by decide) rfl (by decide +kernel) ?_ ?_
  · exact fun g9 => (h1 g9)
  · exact fun g9 => (h2 g9)
theorem S_X11_likely_63 {X : CX} {d : Nat} {x1 x2 x3 x4 x5 : Int} {I R : PF} {Q : PV → PF → PF → Prop} (h : PN X d mX11_likely 77 [(2, 306), (0, x1), (0, x2), (0, x3), (0, x4), (0, x5)] [] I R Q) : PN X d mX11_likely 63 [(2, 306), (0, x1), (0, x2), (0, x3), (0, x4), (0, x5)] [] I R Q := by
  refine P_goto (off := 14) (t := 77) (by decide) (by decide +kernel) ?_
  exact h
theorem S_X11_likely_66 {X : CX} {d : Nat} {x1 x2 x3 x4 x5 : Int} {I R : PF} {Q : PV → PF → PF → Prop} (c1 : -2147483648 ≤ x3 ∧ x3 < 2147483648) (h1 : x3 ≠ (-1) → PN X d mX11_likely 74 [(2, 306), (0, x1), (0, x2), (0, x3), (0, x4), (0, x5)] [] I R Q) (h2 : x3 = (-1) → PN X d mX11_likely 71 [(2, 306), (0, x1), (0, x2), (9, 0), (0, x4), (0, x5)] [] I R Q) : PN X d mX11_likely 66 [(2, 306), (0, x1), (0, x2), (0, x3), (0, x4), (0, x5)] [] I R Q := by
  refine P_iload_n (n := 3) (q := 67) rfl rfl (by decide +kernel) ?_
  refine P_iconst (n := (-1)) (q := 68) rfl (by decide +kernel) ?_
  refine B_icmp_ne (off := 6) (t := 74) (q := 71) c1 ⟨by decide, by decide⟩ (by decide) rfl (by decide +kernel) ?_ ?_
  · exact fun g9 => (h1 g9)
  · exact fun g9 => (PW_sub (ls' := [(2, 306), (0, x1), (0, x2), (9, 0), (0, x4), (0, x5)]) ⟨Or.inr rfl, Or.inr rfl, Or.inr rfl, Or.inl rfl, Or.inr rfl, Or.inr rfl, trivial⟩ (h2 g9))
theorem S_X11_likely_71 {X : CX} {d : Nat} {x1 x2 x4 x5 : Int} {I R : PF} {Q : PV → PF → PF → Prop} (h : PN X d mX11_likely 74 [(2, 306), (0, x1), (0, x2), (0, x5), (0, x4), (0, x5)] [] I R Q) : PN X d mX11_likely 71 [(2, 306), (0, x1), (0, x2), (9, 0), (0, x4), (0, x5)] [] I R Q := by
  refine P_iload (n := 5) (q := 73) rfl rfl (by decide +kernel) ?_
  refine P_istore_n (n := 3) (by decide) (q := 74) rfl (by decide +kernel) ?_
  exact h
theorem S_X11_likely_74 {X : CX} {d : Nat} {x1 x2 x3 x4 x5 : Int} {I R : PF} {Q : PV → PF → PF → Prop} (h : PN X d mX11_likely 77 [(2, 306), (0, x1), (0, x2), (0, x3), (0, (x4 + 1)), (0, x5)] [] I R Q) : PN X d mX11_likely 74 [(2, 306), (0, x1), (0, x2), (0, x3), (0, x4), (0, x5)] [] I R Q := by
  refine P_iinc (n := 4) (a := 1) (by decide) rfl (q := 77) rfl (by decide +kernel) ?_
  exact h
theorem S_X11_likely_77 {X : CX} {d : Nat} {x1 x2 x3 x4 x5 : Int} {I R : PF} {Q : PV → PF → PF → Prop} (h : PN X d mX11_likely 28 [(2, 306), (0, x1), (0, x2), (0, x3), (0, x4), (0, (x5 + 1))] [] I R Q) : PN X d mX11_likely 77 [(2, 306), (0, x1), (0, x2), (0, x3), (0, x4), (0, x5)] [] I R Q := by
  refine P_iinc (n := 5) (a := 1) (by decide) rfl (q := 80) rfl (by decide +kernel) ?_
  refine P_goto (off := (-52)) (t := 28) (by decide) (by decide +kernel) ?_
  exact h
theorem S_X11_likely_83 {X : CX} {d : Nat} {x2 x3 x4 : Int} {I R : PF} {Q : PV → PF → PF → Prop} (c1 : -2147483648 ≤ x2 ∧ x2 < 2147483648) (h1 : x2 ≠ 0 → PN X d mX11_likely 91 [(9, 0), (9, 0), (9, 0), (9, 0), (0, x4)] [] I R Q) (h2 : x2 = 0 → PN X d mX11_likely 87 [(9, 0), (9, 0), (9, 0), (0, x3)] [] I R Q) : PN X d mX11_likely 83 [(9, 0), (9, 0), (0, x2), (0, x3), (0, x4)] [] I R Q := by
  refine P_iload_n (n := 2) (q := 84) rfl rfl (by decide +kernel) ?_
  refine B_if_ne (off := 7) (t := 91) (q := 87) c1 (by decide) rfl (by decide +kernel) ?_ ?_
  · exact fun g9 => (PW_sub (ls' := [(9, 0), (9, 0), (9, 0), (9, 0), (0, x4)]) ⟨Or.inl rfl, Or.inl rfl, Or.inl rfl, Or.inl rfl, Or.inr rfl, trivial⟩ (h1 g9))
  · exact fun g9 => (PW_sub (ls' := [(9, 0), (9, 0), (9, 0), (0, x3)]) ⟨Or.inl rfl, Or.inl rfl, Or.inl rfl, Or.inr rfl, trivial⟩ (h2 g9))
theorem S_X11_likely_87 {X : CX} {d : Nat} {x3 : Int} {I R : PF} {Q : PV → PF → PF → Prop} (h : PN X d mX11_likely 93 [] [(0, x3)] I R Q) : PN X d mX11_likely 87 [(9, 0), (9, 0), (9, 0), (0, x3)] [] I R Q := by
  refine P_iload_n (n := 3) (q := 88) rfl rfl (by decide +kernel) ?_
  refine P_goto (off := 5) (t := 93) (by decide) (by decide +kernel) ?_
  exact (PW_sub (ls' := []) trivial h)
theorem S_X11_likely_91 {X : CX} {d : Nat} {x4 : Int} {I R : PF} {Q : PV → PF → PF → Prop} (h : PN X d mX11_likely 93 [] [(0, x4)] I R Q) : PN X d mX11_likely 91 [(9, 0), (9, 0), (9, 0), (9, 0), (0, x4)] [] I R Q := by
  refine P_iload (n := 4) (q := 93) rfl rfl (by decide +kernel) ?_
  exact (PW_sub (ls' := []) trivial h)
theorem S_X11_likely_93 {X : CX} {d : Nat} {o0 : Int} {I R : PF} {Q : PV → PF → PF → Prop} (h : Q (0, o0) I R) : PN X d mX11_likely 93 [] [(0, o0)] I R Q := by
  refine P_iret rfl (by decide +kernel) h
theorem S_X11_look_0 {X : CX} {d : Nat} {I R : PF} {Q : PV → PF → PF → Prop} (c1 : -2147483648 ≤ (I 306 2) ∧ (I 306 2) < 2147483648) (c2 : -2147483648 ≤ (I 306 3) ∧ (I 306 3) < 2147483648) (h1 : (I 306 3) ≤ (I 306 2) → PN X d mX11_look 52 [(2, 306)] [] I R Q) (h2 : (I 306 2) < (I 306 3) → PN X d mX11_look 11 [(2, 306)] [] I R Q) : PN X d mX11_look 0 [(2, 306)] [] I R Q := by
  refine P_aload_n (n := 0) (q := 1) rfl rfl (by decide +kernel) ?_
  refine P_getf (q := 4) fX11_20 kM306 rfl (by decide +kernel) ?_
  refine P_aload_n (n := 0) (q := 5) rfl rfl (by decide +kernel) ?_
  refine P_getf (q := 8) fX11_23 kM306 rfl (by decide +kernel) ?_
  refine B_icmp_ge (off := 44) (t := 52) (q := 11) c1 c2 (by decide) rfl (by decide +kernel) ?_ ?_
  · exact fun g9 => (h1 g9)
  · exact fun g9 => (h2 g9)
theorem S_X11_look_11 {X : CX} {d : Nat} {I R : PF} {Q : PV → PF → PF → Prop} (hs : Shp R) (b1 : (0 : Int) ≤ (I 306 2) ∧ (I 306 2) < 1600) (c1 : -2147483648 ≤ (I 307 (I 306 2)) ∧ (I 307 (I 306 2)) < 2147483648) (h1 : (I 307 (I 306 2)) = 10 → PN X d mX11_look 39 [(2, 306)] [] I R Q) (h2 : (I 307 (I 306 2)) ≠ 10 → PN X d mX11_look 25 [(2, 306)] [] I R Q) : PN X d mX11_look 11 [(2, 306)] [] I R Q := by
  refine P_aload_n (n := 0) (q := 12) rfl rfl (by decide +kernel) ?_
  refine B_getfR (q := 15) fX11_11 kM306 (rM306_0 hs) rfl (by decide +kernel) ?_
  refine P_aload_n (n := 0) (q := 16) rfl rfl (by decide +kernel) ?_
  refine P_getf (q := 19) fX11_20 kM306 rfl (by decide +kernel) ?_
  refine B_iaload (q := 20) kM307 nM307 (by decide) b1 rfl (by decide +kernel) ?_
  refine P_bipush (n := 10) (q := 22) rfl rfl (by decide +kernel) ?_
  refine B_icmp_eq (off := 17) (t := 39) (q := 25) c1 ⟨by decide, by decide⟩ (by decide) rfl (by decide +kernel) ?_ ?_
  · exact fun g9 => (h1 g9)
  · exact fun g9 => (h2 g9)
theorem S_X11_look_25 {X : CX} {d : Nat} {I R : PF} {Q : PV → PF → PF → Prop} (hs : Shp R) (b1 : (0 : Int) ≤ (I 306 2) ∧ (I 306 2) < 1600) (c1 : -2147483648 ≤ (I 307 (I 306 2)) ∧ (I 307 (I 306 2)) < 2147483648) (h1 : (I 307 (I 306 2)) ≠ 32 → PN X d mX11_look 52 [(2, 306)] [] I R Q) (h2 : (I 307 (I 306 2)) = 32 → PN X d mX11_look 39 [(2, 306)] [] I R Q) : PN X d mX11_look 25 [(2, 306)] [] I R Q := by
  refine P_aload_n (n := 0) (q := 26) rfl rfl (by decide +kernel) ?_
  refine B_getfR (q := 29) fX11_11 kM306 (rM306_0 hs) rfl (by decide +kernel) ?_
  refine P_aload_n (n := 0) (q := 30) rfl rfl (by decide +kernel) ?_
  refine P_getf (q := 33) fX11_20 kM306 rfl (by decide +kernel) ?_
  refine B_iaload (q := 34) kM307 nM307 (by decide) b1 rfl (by decide +kernel) ?_
  refine P_bipush (n := 32) (q := 36) rfl rfl (by decide +kernel) ?_
  refine B_icmp_ne (off := 16) (t := 52) (q := 39) c1 ⟨by decide, by decide⟩ (by decide) rfl (by decide +kernel) ?_ ?_
  · exact fun g9 => (h1 g9)
  · exact fun g9 => (h2 g9)
theorem S_X11_look_39 {X : CX} {d : Nat} {I R : PF} {Q : PV → PF → PF → Prop} (h : PN X d mX11_look 0 [(2, 306)] [] (u2 I 306 2 ((I 306 2) + 1)) R Q) : PN X d mX11_look 39 [(2, 306)] [] I R Q := by
  refine P_aload_n (n := 0) (q := 40) rfl rfl (by decide +kernel) ?_
  refine P_dup (q := 41) (Nat.ne_of_beq_eq_false rfl) rfl (by decide +kernel) ?_
  refine P_getf (q := 44) fX11_20 kM306 rfl (by decide +kernel) ?_
  refine P_iconst (n := 1) (q := 45) rfl (by decide +kernel) ?_
  refine P_iadd (q := 46) rfl (by decide +kernel) ?_
  refine P_putI (q := 49) wX11_20 (fun h => by cases h) kM306 rfl (by decide +kernel) ?_
  refine P_goto (off := (-49)) (t := 0) (by decide) (by decide +kernel) ?_
  exact h
theorem S_X11_look_52 {X : CX} {d : Nat} {I R : PF} {Q : PV → PF → PF → Prop} (c1 : -2147483648 ≤ (I 306 2) ∧ (I 306 2) < 2147483648) (c2 : -2147483648 ≤ (I 306 3) ∧ (I 306 3) < 2147483648) (h1 : (I 306 3) ≤ (I 306 2) → PN X d mX11_look 75 [] [] I R Q) (h2 : (I 306 2) < (I 306 3) → PN X d mX11_look 63 [(2, 306)] [] I R Q) : PN X d mX11_look 52 [(2, 306)] [] I R Q := by
  refine P_aload_n (n := 0) (q := 53) rfl rfl (by decide +kernel) ?_
  refine P_getf (q := 56) fX11_20 kM306 rfl (by decide +kernel) ?_
  refine P_aload_n (n := 0) (q := 57) rfl rfl (by decide +kernel) ?_
  refine P_getf (q := 60) fX11_23 kM306 rfl (by decide +kernel) ?_
  refine B_icmp_ge (off := 15) (t := 75) (q := 63) c1 c2 (by decide) rfl (by decide +kernel) ?_ ?_
  · exact fun g9 => (PW_sub (ls' := []) trivial (h1 g9))
  · exact fun g9 => (h2 g9)
theorem S_X11_look_63 {X : CX} {d : Nat} {I R : PF} {Q : PV → PF → PF → Prop} (hs : Shp R) (b1 : (0 : Int) ≤ (I 306 2) ∧ (I 306 2) < 1600) (h : PN X d mX11_look 76 [] [(0, (I 307 (I 306 2)))] I R Q) : PN X d mX11_look 63 [(2, 306)] [] I R Q := by
  refine P_aload_n (n := 0) (q := 64) rfl rfl (by decide +kernel) ?_
  refine B_getfR (q := 67) fX11_11 kM306 (rM306_0 hs) rfl (by decide +kernel) ?_
  refine P_aload_n (n := 0) (q := 68) rfl rfl (by decide +kernel) ?_
  refine P_getf (q := 71) fX11_20 kM306 rfl (by decide +kernel) ?_
  refine B_iaload (q := 72) kM307 nM307 (by decide) b1 rfl (by decide +kernel) ?_
  refine P_goto (off := 4) (t := 76) (by decide) (by decide +kernel) ?_
  exact (PW_sub (ls' := []) trivial h)
theorem S_X11_look_75 {X : CX} {d : Nat} {I R : PF} {Q : PV → PF → PF → Prop} (h : PN X d mX11_look 76 [] [(0, (-1))] I R Q) : PN X d mX11_look 75 [] [] I R Q := by
  refine P_iconst (n := (-1)) (q := 76) rfl (by decide +kernel) ?_
  exact (PW_sub (ls' := []) trivial h)
theorem S_X11_look_76 {X : CX} {d : Nat} {o0 : Int} {I R : PF} {Q : PV → PF → PF → Prop} (h : Q (0, o0) I R) : PN X d mX11_look 76 [] [(0, o0)] I R Q := by
  refine P_iret rfl (by decide +kernel) h
theorem S_X11_move_0 {X : CX} {d d1 : Nat} {x1 x2 x3 : Int} {I R : PF} {Q Q1 : PV → PF → PF → Prop} (e1 : d1 + 1 ≤ d) (hc : CN X d1 mX11_isPerson [(2, 306), (0, x1)] I R Q1) (h : ∀ z I2 R2, Q1 (0, z) I2 R2 → PN X d mX11_move 5 [(2, 306), (0, x1), (0, x2), (0, x3)] [(0, z)] I2 R2 Q) : PN X d mX11_move 0 [(2, 306), (0, x1), (0, x2), (0, x3)] [] I R Q := by
  refine P_aload_n (n := 0) (q := 1) rfl rfl (by decide +kernel) ?_
  refine P_iload_n (n := 1) (q := 2) rfl rfl (by decide +kernel) ?_
  refine P_invV (As := [(0, x1)]) (q := 5) oX11_isPerson rfl kM306 kX11_533 e1 hMF (Nat.le_of_ble_eq_true rfl) hc rfl (by decide +kernel) (fun z I2 R2 hq => ?_)
  exact (h z I2 R2 hq)
theorem S_X11_move_5 {X : CX} {d : Nat} {x1 x2 x3 o0 : Int} {I R : PF} {Q : PV → PF → PF → Prop} (c1 : -2147483648 ≤ o0 ∧ o0 < 2147483648) (h1 : o0 = 0 → PN X d mX11_move 36 [(2, 306)] [] I R Q) (h2 : o0 ≠ 0 → PN X d mX11_move 8 [(2, 306), (0, x1), (0, x2), (0, x3)] [] I R Q) : PN X d mX11_move 5 [(2, 306), (0, x1), (0, x2), (0, x3)] [(0, o0)] I R Q := by
  refine B_if_eq (off := 31) (t := 36) (q := 8) c1 (by decide) rfl (by decide +kernel) ?_ ?_
  · exact fun g9 => (PW_sub (ls' := [(2, 306)]) ⟨Or.inr rfl, trivial⟩ (h1 g9))
  · exact fun g9 => (h2 g9)
theorem S_X11_move_8 {X : CX} {d d1 : Nat} {x1 x2 x3 : Int} {I R : PF} {Q Q1 : PV → PF → PF → Prop} (e1 : d1 + 1 ≤ d) (hc : CN X d1 mX11_isInside [(2, 306), (0, x2), (0, x3)] I R Q1) (h : ∀ z I2 R2, Q1 (0, z) I2 R2 → PN X d mX11_move 14 [(2, 306), (0, x1), (0, x2), (0, x3)] [(0, z)] I2 R2 Q) : PN X d mX11_move 8 [(2, 306), (0, x1), (0, x2), (0, x3)] [] I R Q := by
  refine P_aload_n (n := 0) (q := 9) rfl rfl (by decide +kernel) ?_
  refine P_iload_n (n := 2) (q := 10) rfl rfl (by decide +kernel) ?_
  refine P_iload_n (n := 3) (q := 11) rfl rfl (by decide +kernel) ?_
  refine P_invV (As := [(0, x2), (0, x3)]) (q := 14) oX11_isInside rfl kM306 kX11_467 e1 hMF (Nat.le_of_ble_eq_true rfl) hc rfl (by decide +kernel) (fun z I2 R2 hq => ?_)
  exact (h z I2 R2 hq)
theorem S_X11_move_14 {X : CX} {d : Nat} {x1 x2 x3 o0 : Int} {I R : PF} {Q : PV → PF → PF → Prop} (c1 : -2147483648 ≤ o0 ∧ o0 < 2147483648) (h1 : o0 = 0 → PN X d mX11_move 36 [(2, 306)] [] I R Q) (h2 : o0 ≠ 0 → PN X d mX11_move 17 [(2, 306), (0, x1), (0, x2), (0, x3)] [] I R Q) : PN X d mX11_move 14 [(2, 306), (0, x1), (0, x2), (0, x3)] [(0, o0)] I R Q := by
  refine B_if_eq (off := 22) (t := 36) (q := 17) c1 (by decide) rfl (by decide +kernel) ?_ ?_
  · exact fun g9 => (PW_sub (ls' := [(2, 306)]) ⟨Or.inr rfl, trivial⟩ (h1 g9))
  · exact fun g9 => (h2 g9)
theorem S_X11_move_17 {X : CX} {d d1 : Nat} {x1 x2 x3 : Int} {I R : PF} {Q Q1 : PV → PF → PF → Prop} (e1 : d1 + 1 ≤ d) (hc : CN X d1 mX11_isWall [(2, 306), (0, x2), (0, x3)] I R Q1) (h : ∀ z I2 R2, Q1 (0, z) I2 R2 → PN X d mX11_move 23 [(2, 306), (0, x1), (0, x2), (0, x3)] [(0, z)] I2 R2 Q) : PN X d mX11_move 17 [(2, 306), (0, x1), (0, x2), (0, x3)] [] I R Q := by
  refine P_aload_n (n := 0) (q := 18) rfl rfl (by decide +kernel) ?_
  refine P_iload_n (n := 2) (q := 19) rfl rfl (by decide +kernel) ?_
  refine P_iload_n (n := 3) (q := 20) rfl rfl (by decide +kernel) ?_
  refine P_invV (As := [(0, x2), (0, x3)]) (q := 23) oX11_isWall rfl kM306 kX11_453 e1 hMF (Nat.le_of_ble_eq_true rfl) hc rfl (by decide +kernel) (fun z I2 R2 hq => ?_)
  exact (h z I2 R2 hq)
theorem S_X11_move_23 {X : CX} {d : Nat} {x1 x2 x3 o0 : Int} {I R : PF} {Q : PV → PF → PF → Prop} (c1 : -2147483648 ≤ o0 ∧ o0 < 2147483648) (h1 : o0 ≠ 0 → PN X d mX11_move 36 [(2, 306)] [] I R Q) (h2 : o0 = 0 → PN X d mX11_move 26 [(2, 306), (0, x1), (0, x2), (0, x3)] [] I R Q) : PN X d mX11_move 23 [(2, 306), (0, x1), (0, x2), (0, x3)] [(0, o0)] I R Q := by
  refine B_if_ne (off := 13) (t := 36) (q := 26) c1 (by decide) rfl (by decide +kernel) ?_ ?_
  · exact fun g9 => (PW_sub (ls' := [(2, 306)]) ⟨Or.inr rfl, trivial⟩ (h1 g9))
  · exact fun g9 => (h2 g9)
theorem S_X11_move_26 {X : CX} {d d1 : Nat} {x1 x2 x3 : Int} {I R : PF} {Q Q1 : PV → PF → PF → Prop} (e1 : d1 + 1 ≤ d) (hc : CN X d1 mX11_standsAt [(2, 306), (0, x2), (0, x3)] I R Q1) (h : ∀ z I2 R2, Q1 (0, z) I2 R2 → PN X d mX11_move 32 [(2, 306), (0, x1), (0, x2), (0, x3)] [(0, z)] I2 R2 Q) : PN X d mX11_move 26 [(2, 306), (0, x1), (0, x2), (0, x3)] [] I R Q := by
  refine P_aload_n (n := 0) (q := 27) rfl rfl (by decide +kernel) ?_
  refine P_iload_n (n := 2) (q := 28) rfl rfl (by decide +kernel) ?_
  refine P_iload_n (n := 3) (q := 29) rfl rfl (by decide +kernel) ?_
  refine P_invV (As := [(0, x2), (0, x3)]) (q := 32) oX11_standsAt rfl kM306 kX11_536 e1 hMF (Nat.le_of_ble_eq_true rfl) hc rfl (by decide +kernel) (fun z I2 R2 hq => ?_)
  exact (h z I2 R2 hq)
theorem S_X11_move_32 {X : CX} {d : Nat} {x1 x2 x3 o0 : Int} {I R : PF} {Q : PV → PF → PF → Prop} (c1 : -2147483648 ≤ o0 ∧ o0 < 2147483648) (h1 : o0 = (-1) → PN X d mX11_move 48 [(2, 306), (0, x1), (0, x2), (0, x3)] [] I R Q) (h2 : o0 ≠ (-1) → PN X d mX11_move 36 [(2, 306)] [] I R Q) : PN X d mX11_move 32 [(2, 306), (0, x1), (0, x2), (0, x3)] [(0, o0)] I R Q := by
  refine P_iconst (n := (-1)) (q := 33) rfl (by decide +kernel) ?_
  refine B_icmp_eq (off := 15) (t := 48) (q := 36) c1 ⟨by decide, by decide⟩ (by decide) rfl (by decide +kernel) ?_ ?_
  · exact fun g9 => (h1 g9)
  · exact fun g9 => (PW_sub (ls' := [(2, 306)]) ⟨Or.inr rfl, trivial⟩ (h2 g9))
theorem S_X11_move_36 {X : CX} {d : Nat} {I R : PF} {Q : PV → PF → PF → Prop} (hs : Shp R) (h : Q (0, 0) (u2 I 308 2 ((I 308 2) + 1)) R) : PN X d mX11_move 36 [(2, 306)] [] I R Q := by
  refine P_aload_n (n := 0) (q := 37) rfl rfl (by decide +kernel) ?_
  refine B_getfR (q := 40) fX11_7 kM306 (rM306_9 hs) rfl (by decide +kernel) ?_
  refine P_iconst (n := 2) (q := 41) rfl (by decide +kernel) ?_
  refine P_dup2 (q := 42) (Nat.ne_of_beq_eq_false rfl) (Nat.ne_of_beq_eq_false rfl) rfl (by decide +kernel) ?_
  refine B_iaload (q := 43) kM308 nM308 (by decide) ⟨by decide, by decide⟩ rfl (by decide +kernel) ?_
  refine P_iconst (n := 1) (q := 44) rfl (by decide +kernel) ?_
  refine P_iadd (q := 45) rfl (by decide +kernel) ?_
  refine B_iastore (q := 46) kM308 nM308 (by decide) ⟨by decide, by decide⟩ rfl (by decide +kernel) ?_
  refine P_iconst (n := 0) (q := 47) rfl (by decide +kernel) ?_
  refine P_zret rfl (Or.inl rfl) (by decide +kernel) h
theorem S_X11_move_48 {X : CX} {d d1 : Nat} {x1 x2 x3 : Int} {I R : PF} {Q Q1 : PV → PF → PF → Prop} (e1 : d1 + 1 ≤ d) (hc : CN X d1 mX11_keeps [(2, 306)] I R Q1) (h : ∀ z I2 R2, Q1 (9, z) I2 R2 → PN X d mX11_move 52 [(2, 306), (0, x1), (0, x2), (0, x3)] [] I2 R2 Q) : PN X d mX11_move 48 [(2, 306), (0, x1), (0, x2), (0, x3)] [] I R Q := by
  refine P_aload_n (n := 0) (q := 49) rfl rfl (by decide +kernel) ?_
  refine P_invV (As := []) (q := 52) oX11_keeps rfl kM306 kX11_591 e1 hMF (Nat.le_of_ble_eq_true rfl) hc rfl (by decide +kernel) (fun z I2 R2 hq => ?_)
  exact (h z I2 R2 hq)
theorem S_X11_move_52 {X : CX} {d : Nat} {x1 x2 x3 : Int} {I R : PF} {Q : PV → PF → PF → Prop} (hs : Shp R) (b1 : (0 : Int) ≤ (3 + (5 * x1)) ∧ (3 + (5 * x1)) < 154) (b2 : (0 : Int) ≤ ((3 + (5 * x1)) + 1) ∧ ((3 + (5 * x1)) + 1) < 154) (h : Q (0, 1) (u2 (u2 I 348 (3 + (5 * x1)) x2) 348 ((3 + (5 * x1)) + 1) x3) R) : PN X d mX11_move 52 [(2, 306), (0, x1), (0, x2), (0, x3)] [] I R Q := by
  refine P_aload_n (n := 0) (q := 53) rfl rfl (by decide +kernel) ?_
  refine B_getfR (q := 56) fX11_303 kM306 (rM306_59 hs) rfl (by decide +kernel) ?_
  refine P_iconst (n := 3) (q := 57) rfl (by decide +kernel) ?_
  refine P_iconst (n := 5) (q := 58) rfl (by decide +kernel) ?_
  refine P_iload_n (n := 1) (q := 59) rfl rfl (by decide +kernel) ?_
  refine P_imul (q := 60) rfl (by decide +kernel) ?_
  refine P_iadd (q := 61) rfl (by decide +kernel) ?_
  refine P_iload_n (n := 2) (q := 62) rfl rfl (by decide +kernel) ?_
  refine B_iastore (q := 63) kM348 nM348 (by decide) b1 rfl (by decide +kernel) ?_
  refine P_aload_n (n := 0) (q := 64) rfl rfl (by decide +kernel) ?_
  refine B_getfR (q := 67) fX11_303 kM306 (rM306_59 hs) rfl (by decide +kernel) ?_
  refine P_iconst (n := 3) (q := 68) rfl (by decide +kernel) ?_
  refine P_iconst (n := 5) (q := 69) rfl (by decide +kernel) ?_
  refine P_iload_n (n := 1) (q := 70) rfl rfl (by decide +kernel) ?_
  refine P_imul (q := 71) rfl (by decide +kernel) ?_
  refine P_iadd (q := 72) rfl (by decide +kernel) ?_
  refine P_iconst (n := 1) (q := 73) rfl (by decide +kernel) ?_
  refine P_iadd (q := 74) rfl (by decide +kernel) ?_
  refine P_iload_n (n := 3) (q := 75) rfl rfl (by decide +kernel) ?_
  refine B_iastore (q := 76) kM348 nM348 (by decide) b2 rfl (by decide +kernel) ?_
  refine P_iconst (n := 1) (q := 77) rfl (by decide +kernel) ?_
  refine P_zret rfl (Or.inr rfl) (by decide +kernel) h
