theorem S_X11_codesTold_0 {X : CX} {d : Nat} {x1 x2 : Int} {I R : PF} {Q : PV → PF → PF → Prop} (c1 : -2147483648 ≤ (I 306 5) ∧ (I 306 5) < 2147483648) (h1 : (I 306 5) ≠ 0 → PN X d mX11_codesTold 23 [(2, 306), (0, x1)] [] I R Q) (h2 : (I 306 5) = 0 → PN X d mX11_codesTold 7 [(2, 306), (0, x1), (0, x2)] [] I R Q) : PN X d mX11_codesTold 0 [(2, 306), (0, x1), (0, x2)] [] I R Q := by
  refine P_aload_n (n := 0) (q := 1) rfl rfl (by decide +kernel) ?_
  refine P_getf (q := 4) fX11_14 kM306 rfl (by decide +kernel) ?_
  refine B_if_ne (off := 19) (t := 23) (q := 7) c1 (by decide) rfl (by decide +kernel) ?_ ?_
  · exact fun g9 => (PW_sub (ls' := [(2, 306), (0, x1)]) ⟨Or.inr rfl, Or.inr rfl, trivial⟩ (h1 g9))
  · exact fun g9 => (h2 g9)
theorem S_X11_codesTold_7 {X : CX} {d : Nat} {x1 x2 : Int} {I R : PF} {Q : PV → PF → PF → Prop} (hs : Shp R) (b1 : (0 : Int) ≤ x1 ∧ x1 < 4) (c1 : -2147483648 ≤ (I 345 x1) ∧ (I 345 x1) < 2147483648) (h1 : (I 345 x1) = (-1) → PN X d mX11_codesTold 23 [(2, 306), (0, x1)] [] I R Q) (h2 : (I 345 x1) ≠ (-1) → PN X d mX11_codesTold 17 [(2, 306), (0, x1), (0, x2)] [] I R Q) : PN X d mX11_codesTold 7 [(2, 306), (0, x1), (0, x2)] [] I R Q := by
  refine P_aload_n (n := 0) (q := 8) rfl rfl (by decide +kernel) ?_
  refine B_getfR (q := 11) fX11_229 kM306 (rM306_50 hs) rfl (by decide +kernel) ?_
  refine P_iload_n (n := 1) (q := 12) rfl rfl (by decide +kernel) ?_
  refine B_iaload (q := 13) kM345 nM345 (by decide) b1 rfl (by decide +kernel) ?_
  refine P_iconst (n := (-1)) (q := 14) rfl (by decide +kernel) ?_
  refine B_icmp_eq (off := 9) (t := 23) (q := 17) c1 ⟨by decide, by decide⟩ (by decide) rfl (by decide +kernel) ?_ ?_
  · exact fun g9 => (PW_sub (ls' := [(2, 306), (0, x1)]) ⟨Or.inr rfl, Or.inr rfl, trivial⟩ (h1 g9))
  · exact fun g9 => (h2 g9)
theorem S_X11_codesTold_17 {X : CX} {d d1 : Nat} {x1 x2 : Int} {I R : PF} {Q Q1 : PV → PF → PF → Prop} (e1 : d1 + 1 ≤ d) (hc : CN X d1 mX11_fail [(2, 306), (0, 5), (0, x2)] I R Q1) (h : ∀ z I2 R2, Q1 (9, z) I2 R2 → PN X d mX11_codesTold 23 [(2, 306), (0, x1)] [] I2 R2 Q) : PN X d mX11_codesTold 17 [(2, 306), (0, x1), (0, x2)] [] I R Q := by
  refine P_aload_n (n := 0) (q := 18) rfl rfl (by decide +kernel) ?_
  refine P_iconst (n := 5) (q := 19) rfl (by decide +kernel) ?_
  refine P_iload_n (n := 2) (q := 20) rfl rfl (by decide +kernel) ?_
  refine P_invV (As := [(0, 5), (0, x2)]) (q := 23) oX11_fail rfl kM306 kX11_44 e1 hMF (Nat.le_of_ble_eq_true rfl) hc rfl (by decide +kernel) (fun z I2 R2 hq => ?_)
  exact (PW_sub (ls' := [(2, 306), (0, x1)]) ⟨Or.inr rfl, Or.inr rfl, trivial⟩ (h z I2 R2 hq))
theorem S_X11_codesTold_23 {X : CX} {d : Nat} {x1 : Int} {I R : PF} {Q : PV → PF → PF → Prop} (c1 : -2147483648 ≤ (I 306 5) ∧ (I 306 5) < 2147483648) (h1 : (I 306 5) = 0 → PN X d mX11_codesTold 31 [(2, 306), (0, x1)] [] I R Q) (h2 : (I 306 5) ≠ 0 → PN X d mX11_codesTold 30 [] [] I R Q) : PN X d mX11_codesTold 23 [(2, 306), (0, x1)] [] I R Q := by
  refine P_aload_n (n := 0) (q := 24) rfl rfl (by decide +kernel) ?_
  refine P_getf (q := 27) fX11_14 kM306 rfl (by decide +kernel) ?_
  refine B_if_eq (off := 4) (t := 31) (q := 30) c1 (by decide) rfl (by decide +kernel) ?_ ?_
  · exact fun g9 => (PW_sub (ls' := [(2, 306), (0, x1)]) ⟨Or.inr rfl, Or.inr rfl, trivial⟩ (h1 g9))
  · exact fun g9 => (PW_sub (ls' := []) trivial (h2 g9))
theorem S_X11_codesTold_30 {X : CX} {d : Nat} {I R : PF} {Q : PV → PF → PF → Prop} (h : Q (9, 0) I R) : PN X d mX11_codesTold 30 [] [] I R Q := by
  refine P_vret rfl (by decide +kernel) h
theorem S_X11_codesTold_31 {X : CX} {d : Nat} {x1 : Int} {I R : PF} {Q : PV → PF → PF → Prop} (c1 : -2147483648 ≤ x1 ∧ x1 < 2147483648) (h1 : x1 ≠ 1 → PN X d mX11_codesTold 68 [(2, 306), (0, x1)] [] (u2 (u2 (u2 (u2 (u2 I 306 56 x1) 306 104 0) 306 106 0) 306 107 0) 306 108 0) R Q) (h2 : x1 = 1 → PN X d mX11_codesTold 61 [(2, 306), (0, x1)] [] (u2 (u2 (u2 (u2 (u2 I 306 56 x1) 306 104 0) 306 106 0) 306 107 0) 306 108 0) R Q) : PN X d mX11_codesTold 31 [(2, 306), (0, x1)] [] I R Q := by
  refine P_aload_n (n := 0) (q := 32) rfl rfl (by decide +kernel) ?_
  refine P_iload_n (n := 1) (q := 33) rfl rfl (by decide +kernel) ?_
  refine P_putI (q := 36) wX11_163 (fun h => by cases h) kM306 rfl (by decide +kernel) ?_
  refine P_aload_n (n := 0) (q := 37) rfl rfl (by decide +kernel) ?_
  refine P_iconst (n := 0) (q := 38) rfl (by decide +kernel) ?_
  refine P_putI (q := 41) wX11_232 (fun h => by cases h) kM306 rfl (by decide +kernel) ?_
  refine P_aload_n (n := 0) (q := 42) rfl rfl (by decide +kernel) ?_
  refine P_iconst (n := 0) (q := 43) rfl (by decide +kernel) ?_
  refine P_putI (q := 46) wX11_235 (fun h => by cases h) kM306 rfl (by decide +kernel) ?_
  refine P_aload_n (n := 0) (q := 47) rfl rfl (by decide +kernel) ?_
  refine P_iconst (n := 0) (q := 48) rfl (by decide +kernel) ?_
  refine P_putI (q := 51) wX11_238 (fun h => by cases h) kM306 rfl (by decide +kernel) ?_
  refine P_aload_n (n := 0) (q := 52) rfl rfl (by decide +kernel) ?_
  refine P_iconst (n := 0) (q := 53) rfl (by decide +kernel) ?_
  refine P_putI (q := 56) wX11_241 (fun h => by cases h) kM306 rfl (by decide +kernel) ?_
  refine P_iload_n (n := 1) (q := 57) rfl rfl (by decide +kernel) ?_
  refine P_iconst (n := 1) (q := 58) rfl (by decide +kernel) ?_
  refine B_icmp_ne (off := 10) (t := 68) (q := 61) c1 ⟨by decide, by decide⟩ (by decide) rfl (by decide +kernel) ?_ ?_
  · exact fun g9 => (PW_sub (ls' := [(2, 306), (0, x1)]) ⟨Or.inr rfl, Or.inr rfl, trivial⟩ (h1 g9))
  · exact fun g9 => (PW_sub (ls' := [(2, 306), (0, x1)]) ⟨Or.inr rfl, Or.inr rfl, trivial⟩ (h2 g9))
theorem S_X11_codesTold_61 {X : CX} {d d1 : Nat} {x1 : Int} {I R : PF} {Q Q1 : PV → PF → PF → Prop} (e1 : d1 + 1 ≤ d) (hc : CN X d1 mX11_qTest [(2, 306)] I R Q1) (h : ∀ z I2 R2, Q1 (9, z) I2 R2 → PN X d mX11_codesTold 65 [(2, 306), (0, x1)] [] I2 R2 Q) : PN X d mX11_codesTold 61 [(2, 306), (0, x1)] [] I R Q := by
  refine P_aload_n (n := 0) (q := 62) rfl rfl (by decide +kernel) ?_
  refine P_invV (As := []) (q := 65) oX11_qTest rfl kM306 kX11_244 e1 hMF (Nat.le_of_ble_eq_true rfl) hc rfl (by decide +kernel) (fun z I2 R2 hq => ?_)
  exact (PW_sub (ls' := [(2, 306), (0, x1)]) ⟨Or.inr rfl, Or.inr rfl, trivial⟩ (h z I2 R2 hq))
theorem S_X11_codesTold_65 {X : CX} {d : Nat} {x1 : Int} {I R : PF} {Q : PV → PF → PF → Prop} (h : PN X d mX11_codesTold 72 [(2, 306), (0, x1)] [] I R Q) : PN X d mX11_codesTold 65 [(2, 306), (0, x1)] [] I R Q := by
  refine P_goto (off := 7) (t := 72) (by decide) (by decide +kernel) ?_
  exact (PW_sub (ls' := [(2, 306), (0, x1)]) ⟨Or.inr rfl, Or.inr rfl, trivial⟩ h)
theorem S_X11_codesTold_68 {X : CX} {d d1 : Nat} {x1 : Int} {I R : PF} {Q Q1 : PV → PF → PF → Prop} (e1 : d1 + 1 ≤ d) (hc : CN X d1 mX11_qSums [(2, 306)] I R Q1) (h : ∀ z I2 R2, Q1 (9, z) I2 R2 → PN X d mX11_codesTold 72 [(2, 306), (0, x1)] [] I2 R2 Q) : PN X d mX11_codesTold 68 [(2, 306), (0, x1)] [] I R Q := by
  refine P_aload_n (n := 0) (q := 69) rfl rfl (by decide +kernel) ?_
  refine P_invV (As := []) (q := 72) oX11_qSums rfl kM306 kX11_248 e1 hMF (Nat.le_of_ble_eq_true rfl) hc rfl (by decide +kernel) (fun z I2 R2 hq => ?_)
  exact (PW_sub (ls' := [(2, 306), (0, x1)]) ⟨Or.inr rfl, Or.inr rfl, trivial⟩ (h z I2 R2 hq))
theorem S_X11_codesTold_72 {X : CX} {d : Nat} {x1 : Int} {I R : PF} {Q : PV → PF → PF → Prop} (c1 : -2147483648 ≤ (I 306 5) ∧ (I 306 5) < 2147483648) (h1 : (I 306 5) = 0 → PN X d mX11_codesTold 80 [(2, 306), (0, x1)] [] I R Q) (h2 : (I 306 5) ≠ 0 → PN X d mX11_codesTold 79 [] [] I R Q) : PN X d mX11_codesTold 72 [(2, 306), (0, x1)] [] I R Q := by
  refine P_aload_n (n := 0) (q := 73) rfl rfl (by decide +kernel) ?_
  refine P_getf (q := 76) fX11_14 kM306 rfl (by decide +kernel) ?_
  refine B_if_eq (off := 4) (t := 80) (q := 79) c1 (by decide) rfl (by decide +kernel) ?_ ?_
  · exact fun g9 => (PW_sub (ls' := [(2, 306), (0, x1)]) ⟨Or.inr rfl, Or.inr rfl, trivial⟩ (h1 g9))
  · exact fun g9 => (PW_sub (ls' := []) trivial (h2 g9))
theorem S_X11_codesTold_79 {X : CX} {d : Nat} {I R : PF} {Q : PV → PF → PF → Prop} (h : Q (9, 0) I R) : PN X d mX11_codesTold 79 [] [] I R Q := by
  refine P_vret rfl (by decide +kernel) h
theorem S_X11_codesTold_80 {X : CX} {d : Nat} {x1 : Int} {I R : PF} {Q : PV → PF → PF → Prop} (hs : Shp R) (b1 : (0 : Int) ≤ x1 ∧ x1 < 4) (h : PN X d mX11_codesTold 92 [(2, 306), (0, x1), (9, 0), (0, 0)] [] (u2 I 345 x1 (I 306 53)) R Q) : PN X d mX11_codesTold 80 [(2, 306), (0, x1)] [] I R Q := by
  refine P_aload_n (n := 0) (q := 81) rfl rfl (by decide +kernel) ?_
  refine B_getfR (q := 84) fX11_229 kM306 (rM306_50 hs) rfl (by decide +kernel) ?_
  refine P_iload_n (n := 1) (q := 85) rfl rfl (by decide +kernel) ?_
  refine P_aload_n (n := 0) (q := 86) rfl rfl (by decide +kernel) ?_
  refine P_getf (q := 89) fX11_251 kM306 rfl (by decide +kernel) ?_
  refine B_iastore (q := 90) kM345 nM345 (by decide) b1 rfl (by decide +kernel) ?_
  refine P_iconst (n := 0) (q := 91) rfl (by decide +kernel) ?_
  refine P_istore_n (n := 3) (by decide) (q := 92) rfl (by decide +kernel) ?_
  exact h
theorem S_X11_codesTold_92 {X : CX} {d : Nat} {x1 x3 : Int} {I R : PF} {Q : PV → PF → PF → Prop} (c1 : -2147483648 ≤ x3 ∧ x3 < 2147483648) (c2 : -2147483648 ≤ (I 306 104) ∧ (I 306 104) < 2147483648) (h1 : (I 306 104) ≤ x3 → PN X d mX11_codesTold 131 [(2, 306), (0, x1)] [] I R Q) (h2 : x3 < (I 306 104) → PN X d mX11_codesTold 100 [(2, 306), (0, x1), (9, 0), (0, x3)] [] I R Q) : PN X d mX11_codesTold 92 [(2, 306), (0, x1), (9, 0), (0, x3)] [] I R Q := by
  refine P_iload_n (n := 3) (q := 93) rfl rfl (by decide +kernel) ?_
  refine P_aload_n (n := 0) (q := 94) rfl rfl (by decide +kernel) ?_
  refine P_getf (q := 97) fX11_232 kM306 rfl (by decide +kernel) ?_
  refine B_icmp_ge (off := 34) (t := 131) (q := 100) c1 c2 (by decide) rfl (by decide +kernel) ?_ ?_
  · exact fun g9 => (PW_sub (ls' := [(2, 306), (0, x1)]) ⟨Or.inr rfl, Or.inr rfl, trivial⟩ (h1 g9))
  · exact fun g9 => (h2 g9)
theorem S_X11_codesTold_100 {X : CX} {d : Nat} {x1 x3 : Int} {I R : PF} {Q : PV → PF → PF → Prop} (hs : Shp R) (b1 : (0 : Int) ≤ x3 ∧ x3 < 1700) (b2 : (0 : Int) ≤ (I 306 53) ∧ (I 306 53) < 3200) (h : PN X d mX11_codesTold 92 [(2, 306), (0, x1), (9, 0), (0, (x3 + 1))] [] (u2 (u2 I 347 (I 306 53) (I 379 x3)) 306 53 (((u2 I 347 (I 306 53) (I 379 x3)) 306 53) + 1)) R Q) : PN X d mX11_codesTold 100 [(2, 306), (0, x1), (9, 0), (0, x3)] [] I R Q := by
  refine P_aload_n (n := 0) (q := 101) rfl rfl (by decide +kernel) ?_
  refine B_getfR (q := 104) fX11_254 kM306 (rM306_52 hs) rfl (by decide +kernel) ?_
  refine P_aload_n (n := 0) (q := 105) rfl rfl (by decide +kernel) ?_
  refine P_getf (q := 108) fX11_251 kM306 rfl (by decide +kernel) ?_
  refine P_aload_n (n := 0) (q := 109) rfl rfl (by decide +kernel) ?_
  refine B_getfR (q := 112) fX11_257 kM306 (rM306_103 hs) rfl (by decide +kernel) ?_
  refine P_iload_n (n := 3) (q := 113) rfl rfl (by decide +kernel) ?_
  refine B_iaload (q := 114) kM379 nM379 (by decide) b1 rfl (by decide +kernel) ?_
  refine B_iastore (q := 115) kM347 nM347 (by decide) b2 rfl (by decide +kernel) ?_
  refine P_aload_n (n := 0) (q := 116) rfl rfl (by decide +kernel) ?_
  refine P_dup (q := 117) (Nat.ne_of_beq_eq_false rfl) rfl (by decide +kernel) ?_
  refine P_getf (q := 120) fX11_251 kM306 rfl (by decide +kernel) ?_
  refine P_iconst (n := 1) (q := 121) rfl (by decide +kernel) ?_
  refine P_iadd (q := 122) rfl (by decide +kernel) ?_
  refine P_putI (q := 125) wX11_251 (fun h => by cases h) kM306 rfl (by decide +kernel) ?_
  refine P_iinc (n := 3) (a := 1) (by decide) rfl (q := 128) rfl (by decide +kernel) ?_
  refine P_goto (off := (-36)) (t := 92) (by decide) (by decide +kernel) ?_
  exact h
theorem S_X11_codesTold_131 {X : CX} {d : Nat} {x1 : Int} {I R : PF} {Q : PV → PF → PF → Prop} (hs : Shp R) (b1 : (0 : Int) ≤ x1 ∧ x1 < 4) (h : Q (9, 0) (u2 I 346 x1 (I 306 53)) R) : PN X d mX11_codesTold 131 [(2, 306), (0, x1)] [] I R Q := by
  refine P_aload_n (n := 0) (q := 132) rfl rfl (by decide +kernel) ?_
  refine B_getfR (q := 135) fX11_260 kM306 (rM306_51 hs) rfl (by decide +kernel) ?_
  refine P_iload_n (n := 1) (q := 136) rfl rfl (by decide +kernel) ?_
  refine P_aload_n (n := 0) (q := 137) rfl rfl (by decide +kernel) ?_
  refine P_getf (q := 140) fX11_251 kM306 rfl (by decide +kernel) ?_
  refine B_iastore (q := 141) kM346 nM346 (by decide) b1 rfl (by decide +kernel) ?_
  refine P_vret rfl (by decide +kernel) h
theorem S_X11_columnOf_0 {X : CX} {d : Nat} {x1 : Int} {I R : PF} {Q : PV → PF → PF → Prop} (hs : Shp R) (b1 : (0 : Int) ≤ (3 + (5 * x1)) ∧ (3 + (5 * x1)) < 154) (h : Q (0, (I 348 (3 + (5 * x1)))) I R) : PN X d mX11_columnOf 0 [(2, 306), (0, x1)] [] I R Q := by
  refine P_aload_n (n := 0) (q := 1) rfl rfl (by decide +kernel) ?_
  refine B_getfR (q := 4) fX11_303 kM306 (rM306_59 hs) rfl (by decide +kernel) ?_
  refine P_iconst (n := 3) (q := 5) rfl (by decide +kernel) ?_
  refine P_iconst (n := 5) (q := 6) rfl (by decide +kernel) ?_
  refine P_iload_n (n := 1) (q := 7) rfl rfl (by decide +kernel) ?_
  refine P_imul (q := 8) rfl (by decide +kernel) ?_
  refine P_iadd (q := 9) rfl (by decide +kernel) ?_
  refine B_iaload (q := 10) kM348 nM348 (by decide) b1 rfl (by decide +kernel) ?_
  refine P_iret rfl (by decide +kernel) h
theorem S_X11_cut_0 {X : CX} {d : Nat} {x0 x1 : Int} {I R : PF} {Q : PV → PF → PF → Prop} (c1 : -2147483648 ≤ x0 ∧ x0 < 2147483648) (h1 : 0 ≤ x0 → PN X d mX11_cut 8 [(0, x0), (0, x1)] [] I R Q) (h2 : x0 < 0 → PN X d mX11_cut 4 [] [] I R Q) : PN X d mX11_cut 0 [(0, x0), (0, x1)] [] I R Q := by
  refine P_iload_n (n := 0) (q := 1) rfl rfl (by decide +kernel) ?_
  refine B_if_ge (off := 7) (t := 8) (q := 4) c1 (by decide) rfl (by decide +kernel) ?_ ?_
  · exact fun g9 => (h1 g9)
  · exact fun g9 => (PW_sub (ls' := []) trivial (h2 g9))
theorem S_X11_cut_4 {X : CX} {d : Nat} {I R : PF} {Q : PV → PF → PF → Prop} (h : PN X d mX11_cut 18 [] [(0, 0)] I R Q) : PN X d mX11_cut 4 [] [] I R Q := by
  refine P_iconst (n := 0) (q := 5) rfl (by decide +kernel) ?_
  refine P_goto (off := 13) (t := 18) (by decide) (by decide +kernel) ?_
  exact (PW_sub (ls' := []) trivial h)
theorem S_X11_cut_8 {X : CX} {d : Nat} {x0 x1 : Int} {I R : PF} {Q : PV → PF → PF → Prop} (c1 : -2147483648 ≤ x0 ∧ x0 < 2147483648) (c2 : -2147483648 ≤ x1 ∧ x1 < 2147483648) (h1 : x0 ≤ x1 → PN X d mX11_cut 17 [(0, x0)] [] I R Q) (h2 : x1 < x0 → PN X d mX11_cut 13 [(9, 0), (0, x1)] [] I R Q) : PN X d mX11_cut 8 [(0, x0), (0, x1)] [] I R Q := by
  refine P_iload_n (n := 0) (q := 9) rfl rfl (by decide +kernel) ?_
  refine P_iload_n (n := 1) (q := 10) rfl rfl (by decide +kernel) ?_
  refine B_icmp_le (off := 7) (t := 17) (q := 13) c1 c2 (by decide) rfl (by decide +kernel) ?_ ?_
  · exact fun g9 => (PW_sub (ls' := [(0, x0)]) ⟨Or.inr rfl, trivial⟩ (h1 g9))
  · exact fun g9 => (PW_sub (ls' := [(9, 0), (0, x1)]) ⟨Or.inl rfl, Or.inr rfl, trivial⟩ (h2 g9))
theorem S_X11_cut_13 {X : CX} {d : Nat} {x1 : Int} {I R : PF} {Q : PV → PF → PF → Prop} (h : PN X d mX11_cut 18 [] [(0, x1)] I R Q) : PN X d mX11_cut 13 [(9, 0), (0, x1)] [] I R Q := by
  refine P_iload_n (n := 1) (q := 14) rfl rfl (by decide +kernel) ?_
  refine P_goto (off := 4) (t := 18) (by decide) (by decide +kernel) ?_
  exact (PW_sub (ls' := []) trivial h)
theorem S_X11_cut_17 {X : CX} {d : Nat} {x0 : Int} {I R : PF} {Q : PV → PF → PF → Prop} (h : PN X d mX11_cut 18 [] [(0, x0)] I R Q) : PN X d mX11_cut 17 [(0, x0)] [] I R Q := by
  refine P_iload_n (n := 0) (q := 18) rfl rfl (by decide +kernel) ?_
  exact (PW_sub (ls' := []) trivial h)
theorem S_X11_cut_18 {X : CX} {d : Nat} {o0 : Int} {I R : PF} {Q : PV → PF → PF → Prop} (h : Q (0, o0) I R) : PN X d mX11_cut 18 [] [(0, o0)] I R Q := by
  refine P_iret rfl (by decide +kernel) h
theorem S_X11_down_0 {X : CX} {d : Nat} {x0 : Int} {I R : PF} {Q : PV → PF → PF → Prop} (c1 : -2147483648 ≤ x0 ∧ x0 < 2147483648) (h1 : x0 = 4 → PN X d mX11_down 16 [] [] I R Q) (h2 : x0 ≠ 4 → PN X d mX11_down 5 [(0, x0)] [] I R Q) : PN X d mX11_down 0 [(0, x0)] [] I R Q := by
  refine P_iload_n (n := 0) (q := 1) rfl rfl (by decide +kernel) ?_
  refine P_iconst (n := 4) (q := 2) rfl (by decide +kernel) ?_
  refine B_icmp_eq (off := 14) (t := 16) (q := 5) c1 ⟨by decide, by decide⟩ (by decide) rfl (by decide +kernel) ?_ ?_
  · exact fun g9 => (PW_sub (ls' := []) trivial (h1 g9))
  · exact fun g9 => (h2 g9)
theorem S_X11_down_5 {X : CX} {d : Nat} {x0 : Int} {I R : PF} {Q : PV → PF → PF → Prop} (c1 : -2147483648 ≤ x0 ∧ x0 < 2147483648) (h1 : x0 = 5 → PN X d mX11_down 16 [] [] I R Q) (h2 : x0 ≠ 5 → PN X d mX11_down 10 [(0, x0)] [] I R Q) : PN X d mX11_down 5 [(0, x0)] [] I R Q := by
  refine P_iload_n (n := 0) (q := 6) rfl rfl (by decide +kernel) ?_
  refine P_iconst (n := 5) (q := 7) rfl (by decide +kernel) ?_
  refine B_icmp_eq (off := 9) (t := 16) (q := 10) c1 ⟨by decide, by decide⟩ (by decide) rfl (by decide +kernel) ?_ ?_
  · exact fun g9 => (PW_sub (ls' := []) trivial (h1 g9))
  · exact fun g9 => (h2 g9)
theorem S_X11_down_10 {X : CX} {d : Nat} {x0 : Int} {I R : PF} {Q : PV → PF → PF → Prop} (c1 : -2147483648 ≤ x0 ∧ x0 < 2147483648) (h1 : x0 ≠ 6 → PN X d mX11_down 20 [(0, x0)] [] I R Q) (h2 : x0 = 6 → PN X d mX11_down 16 [] [] I R Q) : PN X d mX11_down 10 [(0, x0)] [] I R Q := by
  refine P_iload_n (n := 0) (q := 11) rfl rfl (by decide +kernel) ?_
  refine P_bipush (n := 6) (q := 13) rfl rfl (by decide +kernel) ?_
  refine B_icmp_ne (off := 7) (t := 20) (q := 16) c1 ⟨by decide, by decide⟩ (by decide) rfl (by decide +kernel) ?_ ?_
  · exact fun g9 => (h1 g9)
  · exact fun g9 => (PW_sub (ls' := []) trivial (h2 g9))
theorem S_X11_down_16 {X : CX} {d : Nat} {I R : PF} {Q : PV → PF → PF → Prop} (h : PN X d mX11_down 41 [] [(0, 1)] I R Q) : PN X d mX11_down 16 [] [] I R Q := by
  refine P_iconst (n := 1) (q := 17) rfl (by decide +kernel) ?_
  refine P_goto (off := 24) (t := 41) (by decide) (by decide +kernel) ?_
  exact (PW_sub (ls' := []) trivial h)
theorem S_X11_down_20 {X : CX} {d : Nat} {x0 : Int} {I R : PF} {Q : PV → PF → PF → Prop} (c1 : -2147483648 ≤ x0 ∧ x0 < 2147483648) (h1 : x0 = 1 → PN X d mX11_down 36 [] [] I R Q) (h2 : x0 ≠ 1 → PN X d mX11_down 25 [(0, x0)] [] I R Q) : PN X d mX11_down 20 [(0, x0)] [] I R Q := by
  refine P_iload_n (n := 0) (q := 21) rfl rfl (by decide +kernel) ?_
  refine P_iconst (n := 1) (q := 22) rfl (by decide +kernel) ?_
  refine B_icmp_eq (off := 14) (t := 36) (q := 25) c1 ⟨by decide, by decide⟩ (by decide) rfl (by decide +kernel) ?_ ?_
  · exact fun g9 => (PW_sub (ls' := []) trivial (h1 g9))
  · exact fun g9 => (h2 g9)
theorem S_X11_down_25 {X : CX} {d : Nat} {x0 : Int} {I R : PF} {Q : PV → PF → PF → Prop} (c1 : -2147483648 ≤ x0 ∧ x0 < 2147483648) (h1 : x0 = 2 → PN X d mX11_down 36 [] [] I R Q) (h2 : x0 ≠ 2 → PN X d mX11_down 30 [(0, x0)] [] I R Q) : PN X d mX11_down 25 [(0, x0)] [] I R Q := by
  refine P_iload_n (n := 0) (q := 26) rfl rfl (by decide +kernel) ?_
  refine P_iconst (n := 2) (q := 27) rfl (by decide +kernel) ?_
  refine B_icmp_eq (off := 9) (t := 36) (q := 30) c1 ⟨by decide, by decide⟩ (by decide) rfl (by decide +kernel) ?_ ?_
  · exact fun g9 => (PW_sub (ls' := []) trivial (h1 g9))
  · exact fun g9 => (h2 g9)
theorem S_X11_down_30 {X : CX} {d : Nat} {x0 : Int} {I R : PF} {Q : PV → PF → PF → Prop} (c1 : -2147483648 ≤ x0 ∧ x0 < 2147483648) (h1 : x0 ≠ 8 → PN X d mX11_down 40 [] [] I R Q) (h2 : x0 = 8 → PN X d mX11_down 36 [] [] I R Q) : PN X d mX11_down 30 [(0, x0)] [] I R Q := by
  refine P_iload_n (n := 0) (q := 31) rfl rfl (by decide +kernel) ?_
  refine P_bipush (n := 8) (q := 33) rfl rfl (by decide +kernel) ?_
  refine B_icmp_ne (off := 7) (t := 40) (q := 36) c1 ⟨by decide, by decide⟩ (by decide) rfl (by decide +kernel) ?_ ?_
  · exact fun g9 => (PW_sub (ls' := []) trivial (h1 g9))
  · exact fun g9 => (PW_sub (ls' := []) trivial (h2 g9))
theorem S_X11_down_36 {X : CX} {d : Nat} {I R : PF} {Q : PV → PF → PF → Prop} (h : PN X d mX11_down 41 [] [(0, (-1))] I R Q) : PN X d mX11_down 36 [] [] I R Q := by
  refine P_iconst (n := (-1)) (q := 37) rfl (by decide +kernel) ?_
  refine P_goto (off := 4) (t := 41) (by decide) (by decide +kernel) ?_
  exact (PW_sub (ls' := []) trivial h)
theorem S_X11_down_40 {X : CX} {d : Nat} {I R : PF} {Q : PV → PF → PF → Prop} (h : PN X d mX11_down 41 [] [(0, 0)] I R Q) : PN X d mX11_down 40 [] [] I R Q := by
  refine P_iconst (n := 0) (q := 41) rfl (by decide +kernel) ?_
  exact (PW_sub (ls' := []) trivial h)
theorem S_X11_down_41 {X : CX} {d : Nat} {o0 : Int} {I R : PF} {Q : PV → PF → PF → Prop} (h : Q (0, o0) I R) : PN X d mX11_down 41 [] [(0, o0)] I R Q := by
  refine P_iret rfl (by decide +kernel) h
theorem S_X11_drawOf_0 {X : CX} {d : Nat} {x1 : Int} {I R : PF} {Q : PV → PF → PF → Prop} (c1 : -9223372036854775808 ≤ ((1103515245 * (I 306 78)) + 12345) ∧ ((1103515245 * (I 306 78)) + 12345) < 9223372036854775808) (c2 : -9223372036854775808 ≤ ((u2 I 306 78 (((1103515245 * (I 306 78)) + 12345).tmod 2147483648)) 306 78) ∧ ((u2 I 306 78 (((1103515245 * (I 306 78)) + 12345).tmod 2147483648)) 306 78) < 9223372036854775808) (c3 : -2147483648 ≤ x1 ∧ x1 < 2147483648) (f1 : x1 ≠ 0) (c4 : -9223372036854775808 ≤ (((u2 I 306 78 (((1103515245 * (I 306 78)) + 12345).tmod 2147483648)) 306 78).tdiv 64) ∧ (((u2 I 306 78 (((1103515245 * (I 306 78)) + 12345).tmod 2147483648)) 306 78).tdiv 64) < 9223372036854775808) (c5 : -9223372036854775808 ≤ x1 ∧ x1 < 9223372036854775808) (h : Q (0, ((((u2 I 306 78 (((1103515245 * (I 306 78)) + 12345).tmod 2147483648)) 306 78).tdiv 64).tmod x1)) (u2 I 306 78 (((1103515245 * (I 306 78)) + 12345).tmod 2147483648)) R) : PN X d mX11_drawOf 0 [(2, 306), (0, x1)] [] I R Q := by
  refine P_aload_n (n := 0) (q := 1) rfl rfl (by decide +kernel) ?_
  refine P_ldc2 (ix := 597) (v := 1103515245) (x := 1103515245) (q := 4) rfl (tGp8 112 rfl rfl) rfl (by decide +kernel) ?_
  refine P_aload_n (n := 0) (q := 5) rfl rfl (by decide +kernel) ?_
  refine P_getf (q := 8) fX11_335 kM306 rfl (by decide +kernel) ?_
  refine P_lmul (q := 9) rfl (by decide +kernel) ?_
  refine P_ldc2 (ix := 599) (v := 12345) (x := 12345) (q := 12) rfl (tGp8 113 rfl rfl) rfl (by decide +kernel) ?_
  refine P_ladd (q := 13) rfl (by decide +kernel) ?_
  refine P_ldc2 (ix := 601) (v := 2147483648) (x := 2147483648) (q := 16) rfl (tGp8 114 rfl rfl) rfl (by decide +kernel) ?_
  refine B_lrem (q := 17) c1 ⟨by decide, by decide⟩ (by decide) rfl (by decide +kernel) ?_
  refine P_putL (q := 20) wX11_335 (fun h => by cases h) kM306 rfl (by decide +kernel) ?_
  refine P_aload_n (n := 0) (q := 21) rfl rfl (by decide +kernel) ?_
  refine P_getf (q := 24) fX11_335 kM306 rfl (by decide +kernel) ?_
  refine P_ldc2 (ix := 603) (v := 64) (x := 64) (q := 27) rfl (tGp8 115 rfl rfl) rfl (by decide +kernel) ?_
  refine B_ldiv (q := 28) c2 ⟨by decide, by decide⟩ (by decide) rfl (by decide +kernel) ?_
  refine P_iload_n (n := 1) (q := 29) rfl rfl (by decide +kernel) ?_
  refine B_i2l (q := 30) c3 rfl (by decide +kernel) ?_
  refine B_lrem (q := 31) c4 c5 f1 rfl (by decide +kernel) ?_
  refine P_l2i (q := 32) rfl (by decide +kernel) ?_
  refine P_iret rfl (by decide +kernel) h
theorem S_X11_drifts_0 {X : CX} {d d1 : Nat} {x1 : Int} {I R : PF} {Q Q1 : PV → PF → PF → Prop} (e1 : d1 + 1 ≤ d) (hc : CN X d1 mX11_across [(0, x1)] I R Q1) (h : ∀ z I2 R2, Q1 (0, z) I2 R2 → PN X d mX11_drifts 8 [(2, 306), (0, x1)] [(0, z), (0, (I 306 64))] I2 R2 Q) : PN X d mX11_drifts 0 [(2, 306), (0, x1)] [] I R Q := by
  refine P_aload_n (n := 0) (q := 1) rfl rfl (by decide +kernel) ?_
  refine P_getf (q := 4) fX11_437 kM306 rfl (by decide +kernel) ?_
  refine P_iload_n (n := 1) (q := 5) rfl rfl (by decide +kernel) ?_
  refine P_invS (As := [(0, x1)]) (q := 8) oX11_across rfl (Or.inl kX11_440) e1 hMF (Nat.le_of_ble_eq_true rfl) hc rfl (by decide +kernel) (fun z I2 R2 hq => ?_)
  exact (h z I2 R2 hq)
theorem S_X11_drifts_8 {X : CX} {d d1 : Nat} {x1 o0 o1 : Int} {I R : PF} {Q Q1 : PV → PF → PF → Prop} (hs : Shp R) (e1 : d1 + 1 ≤ d) (hc : CN X d1 mX11_cut [(0, (o0 + o1)), (0, ((I 341 5) - 1))] I R Q1) (h : ∀ z I2 R2, Q1 (0, z) I2 R2 → PN X d mX11_drifts 20 [(2, 306), (0, x1)] [(0, z)] I2 R2 Q) : PN X d mX11_drifts 8 [(2, 306), (0, x1)] [(0, o1), (0, o0)] I R Q := by
  refine P_iadd (q := 9) rfl (by decide +kernel) ?_
  refine P_aload_n (n := 0) (q := 10) rfl rfl (by decide +kernel) ?_
  refine B_getfR (q := 13) fX11_185 kM306 (rM306_44 hs) rfl (by decide +kernel) ?_
  refine P_iconst (n := 5) (q := 14) rfl (by decide +kernel) ?_
  refine B_iaload (q := 15) kM341 nM341 (by decide) ⟨by decide, by decide⟩ rfl (by decide +kernel) ?_
  refine P_iconst (n := 1) (q := 16) rfl (by decide +kernel) ?_
  refine P_isub (q := 17) rfl (by decide +kernel) ?_
  refine P_invS (As := [(0, (o0 + o1)), (0, ((I 341 5) - 1))]) (q := 20) oX11_cut rfl (Or.inl kX11_444) e1 hMF (Nat.le_of_ble_eq_true rfl) hc rfl (by decide +kernel) (fun z I2 R2 hq => ?_)
  exact (h z I2 R2 hq)
theorem S_X11_drifts_20 {X : CX} {d d1 : Nat} {x1 o0 : Int} {I R : PF} {Q Q1 : PV → PF → PF → Prop} (e1 : d1 + 1 ≤ d) (hc : CN X d1 mX11_down [(0, x1)] I R Q1) (h : ∀ z I2 R2, Q1 (0, z) I2 R2 → PN X d mX11_drifts 29 [(2, 306), (9, 0), (0, o0)] [(0, z), (0, (I 306 65))] I2 R2 Q) : PN X d mX11_drifts 20 [(2, 306), (0, x1)] [(0, o0)] I R Q := by
  refine P_istore_n (n := 2) (by decide) (q := 21) rfl (by decide +kernel) ?_
  refine P_aload_n (n := 0) (q := 22) rfl rfl (by decide +kernel) ?_
  refine P_getf (q := 25) fX11_447 kM306 rfl (by decide +kernel) ?_
  refine P_iload_n (n := 1) (q := 26) rfl rfl (by decide +kernel) ?_
  refine P_invS (As := [(0, x1)]) (q := 29) oX11_down rfl (Or.inl kX11_450) e1 hMF (Nat.le_of_ble_eq_true rfl) hc rfl (by decide +kernel) (fun z I2 R2 hq => ?_)
  exact (PW_sub (ls' := [(2, 306), (9, 0), (0, o0)]) ⟨Or.inr rfl, Or.inl rfl, Or.inr rfl, trivial⟩ (h z I2 R2 hq))
theorem S_X11_drifts_29 {X : CX} {d d1 : Nat} {x2 o0 o1 : Int} {I R : PF} {Q Q1 : PV → PF → PF → Prop} (hs : Shp R) (e1 : d1 + 1 ≤ d) (hc : CN X d1 mX11_cut [(0, (o0 + o1)), (0, ((I 341 6) - 1))] I R Q1) (h : ∀ z I2 R2, Q1 (0, z) I2 R2 → PN X d mX11_drifts 42 [(2, 306), (9, 0), (0, x2)] [(0, z)] I2 R2 Q) : PN X d mX11_drifts 29 [(2, 306), (9, 0), (0, x2)] [(0, o1), (0, o0)] I R Q := by
  refine P_iadd (q := 30) rfl (by decide +kernel) ?_
  refine P_aload_n (n := 0) (q := 31) rfl rfl (by decide +kernel) ?_
  refine B_getfR (q := 34) fX11_185 kM306 (rM306_44 hs) rfl (by decide +kernel) ?_
  refine P_bipush (n := 6) (q := 36) rfl rfl (by decide +kernel) ?_
  refine B_iaload (q := 37) kM341 nM341 (by decide) ⟨by decide, by decide⟩ rfl (by decide +kernel) ?_
  refine P_iconst (n := 1) (q := 38) rfl (by decide +kernel) ?_
  refine P_isub (q := 39) rfl (by decide +kernel) ?_
  refine P_invS (As := [(0, (o0 + o1)), (0, ((I 341 6) - 1))]) (q := 42) oX11_cut rfl (Or.inl kX11_444) e1 hMF (Nat.le_of_ble_eq_true rfl) hc rfl (by decide +kernel) (fun z I2 R2 hq => ?_)
  exact (h z I2 R2 hq)
theorem S_X11_drifts_42 {X : CX} {d d1 : Nat} {x2 o0 : Int} {I R : PF} {Q Q1 : PV → PF → PF → Prop} (e1 : d1 + 1 ≤ d) (hc : CN X d1 mX11_isWall [(2, 306), (0, x2), (0, o0)] I R Q1) (h : ∀ z I2 R2, Q1 (0, z) I2 R2 → PN X d mX11_drifts 49 [(2, 306), (9, 0), (0, x2), (0, o0)] [(0, z)] I2 R2 Q) : PN X d mX11_drifts 42 [(2, 306), (9, 0), (0, x2)] [(0, o0)] I R Q := by
  refine P_istore_n (n := 3) (by decide) (q := 43) rfl (by decide +kernel) ?_
  refine P_aload_n (n := 0) (q := 44) rfl rfl (by decide +kernel) ?_
  refine P_iload_n (n := 2) (q := 45) rfl rfl (by decide +kernel) ?_
  refine P_iload_n (n := 3) (q := 46) rfl rfl (by decide +kernel) ?_
  refine P_invV (As := [(0, x2), (0, o0)]) (q := 49) oX11_isWall rfl kM306 kX11_453 e1 hMF (Nat.le_of_ble_eq_true rfl) hc rfl (by decide +kernel) (fun z I2 R2 hq => ?_)
  exact (h z I2 R2 hq)
theorem S_X11_drifts_49 {X : CX} {d : Nat} {x2 x3 o0 : Int} {I R : PF} {Q : PV → PF → PF → Prop} (c1 : -2147483648 ≤ o0 ∧ o0 < 2147483648) (h1 : o0 = 0 → PN X d mX11_drifts 53 [(2, 306), (9, 0), (0, x2), (0, x3)] [] I R Q) (h2 : o0 ≠ 0 → PN X d mX11_drifts 52 [] [] I R Q) : PN X d mX11_drifts 49 [(2, 306), (9, 0), (0, x2), (0, x3)] [(0, o0)] I R Q := by
  refine B_if_eq (off := 4) (t := 53) (q := 52) c1 (by decide) rfl (by decide +kernel) ?_ ?_
  · exact fun g9 => (h1 g9)
  · exact fun g9 => (PW_sub (ls' := []) trivial (h2 g9))
theorem S_X11_drifts_52 {X : CX} {d : Nat} {I R : PF} {Q : PV → PF → PF → Prop} (h : Q (9, 0) I R) : PN X d mX11_drifts 52 [] [] I R Q := by
  refine P_vret rfl (by decide +kernel) h
theorem S_X11_drifts_53 {X : CX} {d : Nat} {x2 x3 : Int} {I R : PF} {Q : PV → PF → PF → Prop} (h : Q (9, 0) (u2 (u2 I 306 64 x2) 306 65 x3) R) : PN X d mX11_drifts 53 [(2, 306), (9, 0), (0, x2), (0, x3)] [] I R Q := by
  refine P_aload_n (n := 0) (q := 54) rfl rfl (by decide +kernel) ?_
  refine P_iload_n (n := 2) (q := 55) rfl rfl (by decide +kernel) ?_
  refine P_putI (q := 58) wX11_437 (fun h => by cases h) kM306 rfl (by decide +kernel) ?_
  refine P_aload_n (n := 0) (q := 59) rfl rfl (by decide +kernel) ?_
  refine P_iload_n (n := 3) (q := 60) rfl rfl (by decide +kernel) ?_
  refine P_putI (q := 63) wX11_447 (fun h => by cases h) kM306 rfl (by decide +kernel) ?_
  refine P_vret rfl (by decide +kernel) h
theorem S_X11_end_0 {X : CX} {d : Nat} {x1 : Int} {I R : PF} {Q : PV → PF → PF → Prop} (c1 : -2147483648 ≤ x1 ∧ x1 < 2147483648) (h1 : x1 < 0 → PN X d mX11_end 12 [(2, 306)] [] I R Q) (h2 : 0 ≤ x1 → PN X d mX11_end 4 [(2, 306), (0, x1)] [] I R Q) : PN X d mX11_end 0 [(2, 306), (0, x1)] [] I R Q := by
  refine P_iload_n (n := 1) (q := 1) rfl rfl (by decide +kernel) ?_
  refine B_if_lt (off := 11) (t := 12) (q := 4) c1 (by decide) rfl (by decide +kernel) ?_ ?_
  · exact fun g9 => (PW_sub (ls' := [(2, 306)]) ⟨Or.inr rfl, trivial⟩ (h1 g9))
  · exact fun g9 => (h2 g9)
theorem S_X11_end_4 {X : CX} {d : Nat} {x1 : Int} {I R : PF} {Q : PV → PF → PF → Prop} (c1 : -2147483648 ≤ x1 ∧ x1 < 2147483648) (c2 : -2147483648 ≤ (I 306 1) ∧ (I 306 1) < 2147483648) (h1 : x1 ≤ (I 306 1) → PN X d mX11_end 24 [(2, 306), (0, x1)] [] I R Q) (h2 : (I 306 1) < x1 → PN X d mX11_end 12 [(2, 306)] [] I R Q) : PN X d mX11_end 4 [(2, 306), (0, x1)] [] I R Q := by
  refine P_iload_n (n := 1) (q := 5) rfl rfl (by decide +kernel) ?_
  refine P_aload_n (n := 0) (q := 6) rfl rfl (by decide +kernel) ?_
  refine P_getf (q := 9) fX11_1 kM306 rfl (by decide +kernel) ?_
  refine B_icmp_le (off := 15) (t := 24) (q := 12) c1 c2 (by decide) rfl (by decide +kernel) ?_ ?_
  · exact fun g9 => (h1 g9)
  · exact fun g9 => (PW_sub (ls' := [(2, 306)]) ⟨Or.inr rfl, trivial⟩ (h2 g9))
theorem S_X11_end_12 {X : CX} {d : Nat} {I R : PF} {Q : PV → PF → PF → Prop} (hs : Shp R) (h : Q (0, 0) (u2 I 308 0 ((I 308 0) + 1)) R) : PN X d mX11_end 12 [(2, 306)] [] I R Q := by
  refine P_aload_n (n := 0) (q := 13) rfl rfl (by decide +kernel) ?_
  refine B_getfR (q := 16) fX11_7 kM306 (rM306_9 hs) rfl (by decide +kernel) ?_
  refine P_iconst (n := 0) (q := 17) rfl (by decide +kernel) ?_
  refine P_dup2 (q := 18) (Nat.ne_of_beq_eq_false rfl) (Nat.ne_of_beq_eq_false rfl) rfl (by decide +kernel) ?_
  refine B_iaload (q := 19) kM308 nM308 (by decide) ⟨by decide, by decide⟩ rfl (by decide +kernel) ?_
  refine P_iconst (n := 1) (q := 20) rfl (by decide +kernel) ?_
  refine P_iadd (q := 21) rfl (by decide +kernel) ?_
  refine B_iastore (q := 22) kM308 nM308 (by decide) ⟨by decide, by decide⟩ rfl (by decide +kernel) ?_
  refine P_iconst (n := 0) (q := 23) rfl (by decide +kernel) ?_
  refine P_zret rfl (Or.inl rfl) (by decide +kernel) h
theorem S_X11_end_24 {X : CX} {d : Nat} {x1 : Int} {I R : PF} {Q : PV → PF → PF → Prop} (h : Q (0, 1) (u2 I 306 1 x1) R) : PN X d mX11_end 24 [(2, 306), (0, x1)] [] I R Q := by
  refine P_aload_n (n := 0) (q := 25) rfl rfl (by decide +kernel) ?_
  refine P_iload_n (n := 1) (q := 26) rfl rfl (by decide +kernel) ?_
  refine P_putI (q := 29) wX11_1 (fun h => by cases h) kM306 rfl (by decide +kernel) ?_
  refine P_iconst (n := 1) (q := 30) rfl (by decide +kernel) ?_
  refine P_zret rfl (Or.inr rfl) (by decide +kernel) h
theorem S_X11_fail_0 {X : CX} {d : Nat} {x1 x2 : Int} {I R : PF} {Q : PV → PF → PF → Prop} (c1 : -2147483648 ≤ (I 306 5) ∧ (I 306 5) < 2147483648) (h1 : (I 306 5) = 0 → PN X d mX11_fail 8 [(2, 306), (0, x1), (0, x2)] [] I R Q) (h2 : (I 306 5) ≠ 0 → PN X d mX11_fail 7 [] [] I R Q) : PN X d mX11_fail 0 [(2, 306), (0, x1), (0, x2)] [] I R Q := by
  refine P_aload_n (n := 0) (q := 1) rfl rfl (by decide +kernel) ?_
  refine P_getf (q := 4) fX11_14 kM306 rfl (by decide +kernel) ?_
  refine B_if_eq (off := 4) (t := 8) (q := 7) c1 (by decide) rfl (by decide +kernel) ?_ ?_
  · exact fun g9 => (h1 g9)
  · exact fun g9 => (PW_sub (ls' := []) trivial (h2 g9))
theorem S_X11_fail_7 {X : CX} {d : Nat} {I R : PF} {Q : PV → PF → PF → Prop} (h : Q (9, 0) I R) : PN X d mX11_fail 7 [] [] I R Q := by
  refine P_vret rfl (by decide +kernel) h
theorem S_X11_fail_8 {X : CX} {d : Nat} {x1 x2 : Int} {I R : PF} {Q : PV → PF → PF → Prop} (h : Q (9, 0) (u2 (u2 I 306 5 x1) 306 6 x2) R) : PN X d mX11_fail 8 [(2, 306), (0, x1), (0, x2)] [] I R Q := by
  refine P_aload_n (n := 0) (q := 9) rfl rfl (by decide +kernel) ?_
  refine P_iload_n (n := 1) (q := 10) rfl rfl (by decide +kernel) ?_
  refine P_putI (q := 13) wX11_14 (fun h => by cases h) kM306 rfl (by decide +kernel) ?_
  refine P_aload_n (n := 0) (q := 14) rfl rfl (by decide +kernel) ?_
  refine P_iload_n (n := 2) (q := 15) rfl rfl (by decide +kernel) ?_
  refine P_putI (q := 18) wX11_17 (fun h => by cases h) kM306 rfl (by decide +kernel) ?_
  refine P_vret rfl (by decide +kernel) h
theorem S_X11_farFrom_0 {X : CX} {d : Nat} {x1 x2 : Int} {I R : PF} {Q : PV → PF → PF → Prop} (c1 : -2147483648 ≤ x1 ∧ x1 < 2147483648) (c2 : -2147483648 ≤ (I 306 64) ∧ (I 306 64) < 2147483648) (h1 : (I 306 64) ≤ x1 → PN X d mX11_farFrom 17 [(2, 306), (0, x1), (0, x2)] [] I R Q) (h2 : x1 < (I 306 64) → PN X d mX11_farFrom 8 [(2, 306), (0, x1), (0, x2)] [] I R Q) : PN X d mX11_farFrom 0 [(2, 306), (0, x1), (0, x2)] [] I R Q := by
  refine P_iload_n (n := 1) (q := 1) rfl rfl (by decide +kernel) ?_
  refine P_aload_n (n := 0) (q := 2) rfl rfl (by decide +kernel) ?_
  refine P_getf (q := 5) fX11_437 kM306 rfl (by decide +kernel) ?_
  refine B_icmp_ge (off := 12) (t := 17) (q := 8) c1 c2 (by decide) rfl (by decide +kernel) ?_ ?_
  · exact fun g9 => (h1 g9)
  · exact fun g9 => (h2 g9)
theorem S_X11_farFrom_8 {X : CX} {d : Nat} {x1 x2 : Int} {I R : PF} {Q : PV → PF → PF → Prop} (h : PN X d mX11_farFrom 23 [(2, 306), (9, 0), (0, x2)] [(0, ((I 306 64) - x1))] I R Q) : PN X d mX11_farFrom 8 [(2, 306), (0, x1), (0, x2)] [] I R Q := by
  refine P_aload_n (n := 0) (q := 9) rfl rfl (by decide +kernel) ?_
  refine P_getf (q := 12) fX11_437 kM306 rfl (by decide +kernel) ?_
  refine P_iload_n (n := 1) (q := 13) rfl rfl (by decide +kernel) ?_
  refine P_isub (q := 14) rfl (by decide +kernel) ?_
  refine P_goto (off := 9) (t := 23) (by decide) (by decide +kernel) ?_
  exact (PW_sub (ls' := [(2, 306), (9, 0), (0, x2)]) ⟨Or.inr rfl, Or.inl rfl, Or.inr rfl, trivial⟩ h)
theorem S_X11_farFrom_17 {X : CX} {d : Nat} {x1 x2 : Int} {I R : PF} {Q : PV → PF → PF → Prop} (h : PN X d mX11_farFrom 23 [(2, 306), (9, 0), (0, x2)] [(0, (x1 - (I 306 64)))] I R Q) : PN X d mX11_farFrom 17 [(2, 306), (0, x1), (0, x2)] [] I R Q := by
  refine P_iload_n (n := 1) (q := 18) rfl rfl (by decide +kernel) ?_
  refine P_aload_n (n := 0) (q := 19) rfl rfl (by decide +kernel) ?_
  refine P_getf (q := 22) fX11_437 kM306 rfl (by decide +kernel) ?_
  refine P_isub (q := 23) rfl (by decide +kernel) ?_
  exact (PW_sub (ls' := [(2, 306), (9, 0), (0, x2)]) ⟨Or.inr rfl, Or.inl rfl, Or.inr rfl, trivial⟩ h)
theorem S_X11_farFrom_23 {X : CX} {d : Nat} {x2 o0 : Int} {I R : PF} {Q : PV → PF → PF → Prop} (c1 : -2147483648 ≤ x2 ∧ x2 < 2147483648) (c2 : -2147483648 ≤ (I 306 65) ∧ (I 306 65) < 2147483648) (h1 : (I 306 65) ≤ x2 → PN X d mX11_farFrom 41 [(2, 306), (9, 0), (0, x2), (0, o0)] [] I R Q) (h2 : x2 < (I 306 65) → PN X d mX11_farFrom 32 [(2, 306), (9, 0), (0, x2), (0, o0)] [] I R Q) : PN X d mX11_farFrom 23 [(2, 306), (9, 0), (0, x2)] [(0, o0)] I R Q := by
  refine P_istore_n (n := 3) (by decide) (q := 24) rfl (by decide +kernel) ?_
  refine P_iload_n (n := 2) (q := 25) rfl rfl (by decide +kernel) ?_
  refine P_aload_n (n := 0) (q := 26) rfl rfl (by decide +kernel) ?_
  refine P_getf (q := 29) fX11_447 kM306 rfl (by decide +kernel) ?_
  refine B_icmp_ge (off := 12) (t := 41) (q := 32) c1 c2 (by decide) rfl (by decide +kernel) ?_ ?_
  · exact fun g9 => (h1 g9)
  · exact fun g9 => (h2 g9)
theorem S_X11_farFrom_32 {X : CX} {d : Nat} {x2 x3 : Int} {I R : PF} {Q : PV → PF → PF → Prop} (h : PN X d mX11_farFrom 47 [(9, 0), (9, 0), (9, 0), (0, x3)] [(0, ((I 306 65) - x2))] I R Q) : PN X d mX11_farFrom 32 [(2, 306), (9, 0), (0, x2), (0, x3)] [] I R Q := by
  refine P_aload_n (n := 0) (q := 33) rfl rfl (by decide +kernel) ?_
  refine P_getf (q := 36) fX11_447 kM306 rfl (by decide +kernel) ?_
  refine P_iload_n (n := 2) (q := 37) rfl rfl (by decide +kernel) ?_
  refine P_isub (q := 38) rfl (by decide +kernel) ?_
  refine P_goto (off := 9) (t := 47) (by decide) (by decide +kernel) ?_
  exact (PW_sub (ls' := [(9, 0), (9, 0), (9, 0), (0, x3)]) ⟨Or.inl rfl, Or.inl rfl, Or.inl rfl, Or.inr rfl, trivial⟩ h)
theorem S_X11_farFrom_41 {X : CX} {d : Nat} {x2 x3 : Int} {I R : PF} {Q : PV → PF → PF → Prop} (h : PN X d mX11_farFrom 47 [(9, 0), (9, 0), (9, 0), (0, x3)] [(0, (x2 - (I 306 65)))] I R Q) : PN X d mX11_farFrom 41 [(2, 306), (9, 0), (0, x2), (0, x3)] [] I R Q := by
  refine P_iload_n (n := 2) (q := 42) rfl rfl (by decide +kernel) ?_
  refine P_aload_n (n := 0) (q := 43) rfl rfl (by decide +kernel) ?_
  refine P_getf (q := 46) fX11_447 kM306 rfl (by decide +kernel) ?_
  refine P_isub (q := 47) rfl (by decide +kernel) ?_
  exact (PW_sub (ls' := [(9, 0), (9, 0), (9, 0), (0, x3)]) ⟨Or.inl rfl, Or.inl rfl, Or.inl rfl, Or.inr rfl, trivial⟩ h)
theorem S_X11_farFrom_47 {X : CX} {d : Nat} {x3 o0 : Int} {I R : PF} {Q : PV → PF → PF → Prop} (c1 : -2147483648 ≤ x3 ∧ x3 < 2147483648) (c2 : -2147483648 ≤ o0 ∧ o0 < 2147483648) (h1 : x3 ≤ o0 → PN X d mX11_farFrom 59 [(9, 0), (9, 0), (9, 0), (9, 0), (0, o0)] [] I R Q) (h2 : o0 < x3 → PN X d mX11_farFrom 55 [(9, 0), (9, 0), (9, 0), (0, x3)] [] I R Q) : PN X d mX11_farFrom 47 [(9, 0), (9, 0), (9, 0), (0, x3)] [(0, o0)] I R Q := by
  refine P_istore (n := 4) (by decide) (q := 49) rfl (by decide +kernel) ?_
  refine P_iload_n (n := 3) (q := 50) rfl rfl (by decide +kernel) ?_
  refine P_iload (n := 4) (q := 52) rfl rfl (by decide +kernel) ?_
  refine B_icmp_le (off := 7) (t := 59) (q := 55) c1 c2 (by decide) rfl (by decide +kernel) ?_ ?_
  · exact fun g9 => (PW_sub (ls' := [(9, 0), (9, 0), (9, 0), (9, 0), (0, o0)]) ⟨Or.inl rfl, Or.inl rfl, Or.inl rfl, Or.inl rfl, Or.inr rfl, trivial⟩ (h1 g9))
  · exact fun g9 => (PW_sub (ls' := [(9, 0), (9, 0), (9, 0), (0, x3)]) ⟨Or.inl rfl, Or.inl rfl, Or.inl rfl, Or.inr rfl, trivial⟩ (h2 g9))
theorem S_X11_farFrom_55 {X : CX} {d : Nat} {x3 : Int} {I R : PF} {Q : PV → PF → PF → Prop} (h : PN X d mX11_farFrom 61 [] [(0, x3)] I R Q) : PN X d mX11_farFrom 55 [(9, 0), (9, 0), (9, 0), (0, x3)] [] I R Q := by
  refine P_iload_n (n := 3) (q := 56) rfl rfl (by decide +kernel) ?_
  refine P_goto (off := 5) (t := 61) (by decide) (by decide +kernel) ?_
  exact (PW_sub (ls' := []) trivial h)
theorem S_X11_farFrom_59 {X : CX} {d : Nat} {x4 : Int} {I R : PF} {Q : PV → PF → PF → Prop} (h : PN X d mX11_farFrom 61 [] [(0, x4)] I R Q) : PN X d mX11_farFrom 59 [(9, 0), (9, 0), (9, 0), (9, 0), (0, x4)] [] I R Q := by
  refine P_iload (n := 4) (q := 61) rfl rfl (by decide +kernel) ?_
  exact (PW_sub (ls' := []) trivial h)
theorem S_X11_farFrom_61 {X : CX} {d : Nat} {o0 : Int} {I R : PF} {Q : PV → PF → PF → Prop} (h : Q (0, o0) I R) : PN X d mX11_farFrom 61 [] [(0, o0)] I R Q := by
  refine P_iret rfl (by decide +kernel) h
theorem S_X11_fault_0 {X : CX} {d : Nat} {x1 : Int} {I R : PF} {Q : PV → PF → PF → Prop} (c1 : -2147483648 ≤ x1 ∧ x1 < 2147483648) (h1 : x1 ≠ 0 → PN X d mX11_fault 11 [(2, 306), (0, x1)] [] I R Q) (h2 : x1 = 0 → PN X d mX11_fault 4 [(2, 306)] [] I R Q) : PN X d mX11_fault 0 [(2, 306), (0, x1)] [] I R Q := by
  refine P_iload_n (n := 1) (q := 1) rfl rfl (by decide +kernel) ?_
  refine B_if_ne (off := 10) (t := 11) (q := 4) c1 (by decide) rfl (by decide +kernel) ?_ ?_
  · exact fun g9 => (h1 g9)
  · exact fun g9 => (PW_sub (ls' := [(2, 306)]) ⟨Or.inr rfl, trivial⟩ (h2 g9))
theorem S_X11_fault_4 {X : CX} {d : Nat} {I R : PF} {Q : PV → PF → PF → Prop} (h : PN X d mX11_fault 24 [] [(0, (I 306 7))] I R Q) : PN X d mX11_fault 4 [(2, 306)] [] I R Q := by
  refine P_aload_n (n := 0) (q := 5) rfl rfl (by decide +kernel) ?_
  refine P_getf (q := 8) fX11_287 kM306 rfl (by decide +kernel) ?_
  refine P_goto (off := 16) (t := 24) (by decide) (by decide +kernel) ?_
  exact (PW_sub (ls' := []) trivial h)
theorem S_X11_fault_11 {X : CX} {d : Nat} {x1 : Int} {I R : PF} {Q : PV → PF → PF → Prop} (c1 : -2147483648 ≤ x1 ∧ x1 < 2147483648) (h1 : x1 ≠ 1 → PN X d mX11_fault 23 [] [] I R Q) (h2 : x1 = 1 → PN X d mX11_fault 16 [(2, 306)] [] I R Q) : PN X d mX11_fault 11 [(2, 306), (0, x1)] [] I R Q := by
  refine P_iload_n (n := 1) (q := 12) rfl rfl (by decide +kernel) ?_
  refine P_iconst (n := 1) (q := 13) rfl (by decide +kernel) ?_
  refine B_icmp_ne (off := 10) (t := 23) (q := 16) c1 ⟨by decide, by decide⟩ (by decide) rfl (by decide +kernel) ?_ ?_
  · exact fun g9 => (PW_sub (ls' := []) trivial (h1 g9))
  · exact fun g9 => (PW_sub (ls' := [(2, 306)]) ⟨Or.inr rfl, trivial⟩ (h2 g9))
theorem S_X11_fault_16 {X : CX} {d : Nat} {I R : PF} {Q : PV → PF → PF → Prop} (h : PN X d mX11_fault 24 [] [(0, (I 306 8))] I R Q) : PN X d mX11_fault 16 [(2, 306)] [] I R Q := by
  refine P_aload_n (n := 0) (q := 17) rfl rfl (by decide +kernel) ?_
  refine P_getf (q := 20) fX11_290 kM306 rfl (by decide +kernel) ?_
  refine P_goto (off := 4) (t := 24) (by decide) (by decide +kernel) ?_
  exact (PW_sub (ls' := []) trivial h)
theorem S_X11_fault_23 {X : CX} {d : Nat} {I R : PF} {Q : PV → PF → PF → Prop} (h : PN X d mX11_fault 24 [] [(0, (-1))] I R Q) : PN X d mX11_fault 23 [] [] I R Q := by
  refine P_iconst (n := (-1)) (q := 24) rfl (by decide +kernel) ?_
  exact (PW_sub (ls' := []) trivial h)
theorem S_X11_fault_24 {X : CX} {d : Nat} {o0 : Int} {I R : PF} {Q : PV → PF → PF → Prop} (h : Q (0, o0) I R) : PN X d mX11_fault 24 [] [(0, o0)] I R Q := by
  refine P_iret rfl (by decide +kernel) h
theorem S_X11_feed_0 {X : CX} {d : Nat} {x1 x2 x3 x4 x5 : Int} {I R : PF} {Q : PV → PF → PF → Prop} (c1 : -2147483648 ≤ ((I 306 1) + 20) ∧ ((I 306 1) + 20) < 2147483648) (h1 : ((I 306 1) + 20) ≤ 1600 → PN X d mX11_feed 25 [(2, 306), (0, x1), (0, x2), (0, x3), (0, x4), (0, x5)] [] I R Q) (h2 : 1600 < ((I 306 1) + 20) → PN X d mX11_feed 13 [(2, 306)] [] I R Q) : PN X d mX11_feed 0 [(2, 306), (0, x1), (0, x2), (0, x3), (0, x4), (0, x5)] [] I R Q := by
  refine P_aload_n (n := 0) (q := 1) rfl rfl (by decide +kernel) ?_
  refine P_getf (q := 4) fX11_1 kM306 rfl (by decide +kernel) ?_
  refine P_bipush (n := 20) (q := 6) rfl rfl (by decide +kernel) ?_
  refine P_iadd (q := 7) rfl (by decide +kernel) ?_
  refine P_sipush (n := 1600) (q := 10) rfl rfl (by decide +kernel) ?_
  refine B_icmp_le (off := 15) (t := 25) (q := 13) c1 ⟨by decide, by decide⟩ (by decide) rfl (by decide +kernel) ?_ ?_
  · exact fun g9 => (h1 g9)
  · exact fun g9 => (PW_sub (ls' := [(2, 306)]) ⟨Or.inr rfl, trivial⟩ (h2 g9))
theorem S_X11_feed_13 {X : CX} {d : Nat} {I R : PF} {Q : PV → PF → PF → Prop} (hs : Shp R) (h : Q (0, (-1)) (u2 I 308 0 ((I 308 0) + 1)) R) : PN X d mX11_feed 13 [(2, 306)] [] I R Q := by
  refine P_aload_n (n := 0) (q := 14) rfl rfl (by decide +kernel) ?_
  refine B_getfR (q := 17) fX11_7 kM306 (rM306_9 hs) rfl (by decide +kernel) ?_
  refine P_iconst (n := 0) (q := 18) rfl (by decide +kernel) ?_
  refine P_dup2 (q := 19) (Nat.ne_of_beq_eq_false rfl) (Nat.ne_of_beq_eq_false rfl) rfl (by decide +kernel) ?_
  refine B_iaload (q := 20) kM308 nM308 (by decide) ⟨by decide, by decide⟩ rfl (by decide +kernel) ?_
  refine P_iconst (n := 1) (q := 21) rfl (by decide +kernel) ?_
  refine P_iadd (q := 22) rfl (by decide +kernel) ?_
  refine B_iastore (q := 23) kM308 nM308 (by decide) ⟨by decide, by decide⟩ rfl (by decide +kernel) ?_
  refine P_iconst (n := (-1)) (q := 24) rfl (by decide +kernel) ?_
  refine P_iret rfl (by decide +kernel) h
theorem S_X11_feed_25 {X : CX} {d : Nat} {x1 x2 x3 x4 x5 : Int} {I R : PF} {Q : PV → PF → PF → Prop} (h : PN X d mX11_feed 28 [(2, 306), (0, x1), (0, x2), (0, x3), (0, x4), (0, x5), (0, 0)] [] I R Q) : PN X d mX11_feed 25 [(2, 306), (0, x1), (0, x2), (0, x3), (0, x4), (0, x5)] [] I R Q := by
  refine P_iconst (n := 0) (q := 26) rfl (by decide +kernel) ?_
  refine P_istore (n := 6) (by decide) (q := 28) rfl (by decide +kernel) ?_
  exact h
theorem S_X11_feed_28 {X : CX} {d : Nat} {x1 x2 x3 x4 x5 x6 : Int} {I R : PF} {Q : PV → PF → PF → Prop} (c1 : -2147483648 ≤ x6 ∧ x6 < 2147483648) (h1 : 20 ≤ x6 → PN X d mX11_feed 124 [(2, 306)] [] I R Q) (h2 : x6 < 20 → PN X d mX11_feed 35 [(2, 306), (0, x1), (0, x2), (0, x3), (0, x4), (0, x5), (0, x6)] [] I R Q) : PN X d mX11_feed 28 [(2, 306), (0, x1), (0, x2), (0, x3), (0, x4), (0, x5), (0, x6)] [] I R Q := by
  refine P_iload (n := 6) (q := 30) rfl rfl (by decide +kernel) ?_
  refine P_bipush (n := 20) (q := 32) rfl rfl (by decide +kernel) ?_
  refine B_icmp_ge (off := 92) (t := 124) (q := 35) c1 ⟨by decide, by decide⟩ (by decide) rfl (by decide +kernel) ?_ ?_
  · exact fun g9 => (PW_sub (ls' := [(2, 306)]) ⟨Or.inr rfl, trivial⟩ (h1 g9))
  · exact fun g9 => (h2 g9)
theorem S_X11_feed_35 {X : CX} {d : Nat} {x1 x2 x3 x4 x5 x6 : Int} {I R : PF} {Q : PV → PF → PF → Prop} (c1 : -2147483648 ≤ x6 ∧ x6 < 2147483648) (h1 : 4 ≤ x6 → PN X d mX11_feed 45 [(2, 306), (0, x1), (0, x2), (0, x3), (0, x4), (0, x5), (0, x6)] [] I R Q) (h2 : x6 < 4 → PN X d mX11_feed 41 [(2, 306), (0, x1), (0, x2), (0, x3), (0, x4), (0, x5), (0, x6)] [] I R Q) : PN X d mX11_feed 35 [(2, 306), (0, x1), (0, x2), (0, x3), (0, x4), (0, x5), (0, x6)] [] I R Q := by
  refine P_iload (n := 6) (q := 37) rfl rfl (by decide +kernel) ?_
  refine P_iconst (n := 4) (q := 38) rfl (by decide +kernel) ?_
  refine B_icmp_ge (off := 7) (t := 45) (q := 41) c1 ⟨by decide, by decide⟩ (by decide) rfl (by decide +kernel) ?_ ?_
  · exact fun g9 => (h1 g9)
  · exact fun g9 => (h2 g9)
theorem S_X11_feed_41 {X : CX} {d : Nat} {x1 x2 x3 x4 x5 x6 : Int} {I R : PF} {Q : PV → PF → PF → Prop} (h : PN X d mX11_feed 81 [(2, 306), (0, x1), (0, x2), (0, x3), (0, x4), (0, x5), (0, x6)] [(0, x1)] I R Q) : PN X d mX11_feed 41 [(2, 306), (0, x1), (0, x2), (0, x3), (0, x4), (0, x5), (0, x6)] [] I R Q := by
  refine P_iload_n (n := 1) (q := 42) rfl rfl (by decide +kernel) ?_
  refine P_goto (off := 39) (t := 81) (by decide) (by decide +kernel) ?_
  exact h
theorem S_X11_feed_45 {X : CX} {d : Nat} {x1 x2 x3 x4 x5 x6 : Int} {I R : PF} {Q : PV → PF → PF → Prop} (c1 : -2147483648 ≤ x6 ∧ x6 < 2147483648) (h1 : 8 ≤ x6 → PN X d mX11_feed 56 [(2, 306), (0, x1), (0, x2), (0, x3), (0, x4), (0, x5), (0, x6)] [] I R Q) (h2 : x6 < 8 → PN X d mX11_feed 52 [(2, 306), (0, x1), (0, x2), (0, x3), (0, x4), (0, x5), (0, x6)] [] I R Q) : PN X d mX11_feed 45 [(2, 306), (0, x1), (0, x2), (0, x3), (0, x4), (0, x5), (0, x6)] [] I R Q := by
  refine P_iload (n := 6) (q := 47) rfl rfl (by decide +kernel) ?_
  refine P_bipush (n := 8) (q := 49) rfl rfl (by decide +kernel) ?_
  refine B_icmp_ge (off := 7) (t := 56) (q := 52) c1 ⟨by decide, by decide⟩ (by decide) rfl (by decide +kernel) ?_ ?_
  · exact fun g9 => (h1 g9)
  · exact fun g9 => (h2 g9)
theorem S_X11_feed_52 {X : CX} {d : Nat} {x1 x2 x3 x4 x5 x6 : Int} {I R : PF} {Q : PV → PF → PF → Prop} (h : PN X d mX11_feed 81 [(2, 306), (0, x1), (0, x2), (0, x3), (0, x4), (0, x5), (0, x6)] [(0, x2)] I R Q) : PN X d mX11_feed 52 [(2, 306), (0, x1), (0, x2), (0, x3), (0, x4), (0, x5), (0, x6)] [] I R Q := by
  refine P_iload_n (n := 2) (q := 53) rfl rfl (by decide +kernel) ?_
  refine P_goto (off := 28) (t := 81) (by decide) (by decide +kernel) ?_
  exact h
theorem S_X11_feed_56 {X : CX} {d : Nat} {x1 x2 x3 x4 x5 x6 : Int} {I R : PF} {Q : PV → PF → PF → Prop} (c1 : -2147483648 ≤ x6 ∧ x6 < 2147483648) (h1 : 12 ≤ x6 → PN X d mX11_feed 67 [(2, 306), (0, x1), (0, x2), (0, x3), (0, x4), (0, x5), (0, x6)] [] I R Q) (h2 : x6 < 12 → PN X d mX11_feed 63 [(2, 306), (0, x1), (0, x2), (0, x3), (0, x4), (0, x5), (0, x6)] [] I R Q) : PN X d mX11_feed 56 [(2, 306), (0, x1), (0, x2), (0, x3), (0, x4), (0, x5), (0, x6)] [] I R Q := by
  refine P_iload (n := 6) (q := 58) rfl rfl (by decide +kernel) ?_
  refine P_bipush (n := 12) (q := 60) rfl rfl (by decide +kernel) ?_
  refine B_icmp_ge (off := 7) (t := 67) (q := 63) c1 ⟨by decide, by decide⟩ (by decide) rfl (by decide +kernel) ?_ ?_
  · exact fun g9 => (h1 g9)
  · exact fun g9 => (h2 g9)
theorem S_X11_feed_63 {X : CX} {d : Nat} {x1 x2 x3 x4 x5 x6 : Int} {I R : PF} {Q : PV → PF → PF → Prop} (h : PN X d mX11_feed 81 [(2, 306), (0, x1), (0, x2), (0, x3), (0, x4), (0, x5), (0, x6)] [(0, x3)] I R Q) : PN X d mX11_feed 63 [(2, 306), (0, x1), (0, x2), (0, x3), (0, x4), (0, x5), (0, x6)] [] I R Q := by
  refine P_iload_n (n := 3) (q := 64) rfl rfl (by decide +kernel) ?_
  refine P_goto (off := 17) (t := 81) (by decide) (by decide +kernel) ?_
  exact h
theorem S_X11_feed_67 {X : CX} {d : Nat} {x1 x2 x3 x4 x5 x6 : Int} {I R : PF} {Q : PV → PF → PF → Prop} (c1 : -2147483648 ≤ x6 ∧ x6 < 2147483648) (h1 : 16 ≤ x6 → PN X d mX11_feed 79 [(2, 306), (0, x1), (0, x2), (0, x3), (0, x4), (0, x5), (0, x6)] [] I R Q) (h2 : x6 < 16 → PN X d mX11_feed 74 [(2, 306), (0, x1), (0, x2), (0, x3), (0, x4), (0, x5), (0, x6)] [] I R Q) : PN X d mX11_feed 67 [(2, 306), (0, x1), (0, x2), (0, x3), (0, x4), (0, x5), (0, x6)] [] I R Q := by
  refine P_iload (n := 6) (q := 69) rfl rfl (by decide +kernel) ?_
  refine P_bipush (n := 16) (q := 71) rfl rfl (by decide +kernel) ?_
  refine B_icmp_ge (off := 8) (t := 79) (q := 74) c1 ⟨by decide, by decide⟩ (by decide) rfl (by decide +kernel) ?_ ?_
  · exact fun g9 => (h1 g9)
  · exact fun g9 => (h2 g9)
theorem S_X11_feed_74 {X : CX} {d : Nat} {x1 x2 x3 x4 x5 x6 : Int} {I R : PF} {Q : PV → PF → PF → Prop} (h : PN X d mX11_feed 81 [(2, 306), (0, x1), (0, x2), (0, x3), (0, x4), (0, x5), (0, x6)] [(0, x4)] I R Q) : PN X d mX11_feed 74 [(2, 306), (0, x1), (0, x2), (0, x3), (0, x4), (0, x5), (0, x6)] [] I R Q := by
  refine P_iload (n := 4) (q := 76) rfl rfl (by decide +kernel) ?_
  refine P_goto (off := 5) (t := 81) (by decide) (by decide +kernel) ?_
  exact h
theorem S_X11_feed_79 {X : CX} {d : Nat} {x1 x2 x3 x4 x5 x6 : Int} {I R : PF} {Q : PV → PF → PF → Prop} (h : PN X d mX11_feed 81 [(2, 306), (0, x1), (0, x2), (0, x3), (0, x4), (0, x5), (0, x6)] [(0, x5)] I R Q) : PN X d mX11_feed 79 [(2, 306), (0, x1), (0, x2), (0, x3), (0, x4), (0, x5), (0, x6)] [] I R Q := by
  refine P_iload (n := 5) (q := 81) rfl rfl (by decide +kernel) ?_
  exact h
theorem S_X11_feed_81 {X : CX} {d : Nat} {x1 x2 x3 x4 x5 x6 o0 : Int} {I R : PF} {Q : PV → PF → PF → Prop} (hs : Shp R) (c1 : -2147483648 ≤ x6 ∧ x6 < 2147483648) (b1 : (0 : Int) ≤ (I 306 1) ∧ (I 306 1) < 1600) (h : PN X d mX11_feed 28 [(2, 306), (0, x1), (0, x2), (0, x3), (0, x4), (0, x5), (0, (x6 + 1))] [] (u2 (u2 I 307 (I 306 1) ((Int32.ofInt (shr32 o0 (8 * (3 - (x6.tmod 4)))) &&& Int32.ofInt 255).toInt)) 306 1 (((u2 I 307 (I 306 1) ((Int32.ofInt (shr32 o0 (8 * (3 - (x6.tmod 4)))) &&& Int32.ofInt 255).toInt)) 306 1) + 1)) R Q) : PN X d mX11_feed 81 [(2, 306), (0, x1), (0, x2), (0, x3), (0, x4), (0, x5), (0, x6)] [(0, o0)] I R Q := by
  refine P_istore (n := 7) (by decide) (q := 83) rfl (by decide +kernel) ?_
  refine P_aload_n (n := 0) (q := 84) rfl rfl (by decide +kernel) ?_
  refine B_getfR (q := 87) fX11_11 kM306 (rM306_0 hs) rfl (by decide +kernel) ?_
  refine P_aload_n (n := 0) (q := 88) rfl rfl (by decide +kernel) ?_
  refine P_getf (q := 91) fX11_1 kM306 rfl (by decide +kernel) ?_
  refine P_iload (n := 7) (q := 93) rfl rfl (by decide +kernel) ?_
  refine P_bipush (n := 8) (q := 95) rfl rfl (by decide +kernel) ?_
  refine P_iconst (n := 3) (q := 96) rfl (by decide +kernel) ?_
  refine P_iload (n := 6) (q := 98) rfl rfl (by decide +kernel) ?_
  refine P_iconst (n := 4) (q := 99) rfl (by decide +kernel) ?_
  refine B_irem (q := 100) c1 ⟨by decide, by decide⟩ (by decide) rfl (by decide +kernel) ?_
  refine P_isub (q := 101) rfl (by decide +kernel) ?_
  refine P_imul (q := 102) rfl (by decide +kernel) ?_
  refine P_ishr (q := 103) rfl (by decide +kernel) ?_
  refine P_sipush (n := 255) (q := 106) rfl rfl (by decide +kernel) ?_
  refine P_iand (q := 107) rfl (by decide +kernel) ?_
  refine B_iastore (q := 108) kM307 nM307 (by decide) b1 rfl (by decide +kernel) ?_
  refine P_aload_n (n := 0) (q := 109) rfl rfl (by decide +kernel) ?_
  refine P_dup (q := 110) (Nat.ne_of_beq_eq_false rfl) rfl (by decide +kernel) ?_
  refine P_getf (q := 113) fX11_1 kM306 rfl (by decide +kernel) ?_
  refine P_iconst (n := 1) (q := 114) rfl (by decide +kernel) ?_
  refine P_iadd (q := 115) rfl (by decide +kernel) ?_
  refine P_putI (q := 118) wX11_1 (fun h => by cases h) kM306 rfl (by decide +kernel) ?_
  refine P_iinc (n := 6) (a := 1) (by decide) rfl (q := 121) rfl (by decide +kernel) ?_
  refine P_goto (off := (-93)) (t := 28) (by decide) (by decide +kernel) ?_
  exact (PW_sub (ls' := [(2, 306), (0, x1), (0, x2), (0, x3), (0, x4), (0, x5), (0, (x6 + 1))]) ⟨Or.inr rfl, Or.inr rfl, Or.inr rfl, Or.inr rfl, Or.inr rfl, Or.inr rfl, Or.inr rfl, trivial⟩ h)
theorem S_X11_feed_124 {X : CX} {d : Nat} {I R : PF} {Q : PV → PF → PF → Prop} (h : Q (0, (I 306 1)) I R) : PN X d mX11_feed 124 [(2, 306)] [] I R Q := by
  refine P_aload_n (n := 0) (q := 125) rfl rfl (by decide +kernel) ?_
  refine P_getf (q := 128) fX11_1 kM306 rfl (by decide +kernel) ?_
  refine P_iret rfl (by decide +kernel) h
theorem S_X11_forceOf_0 {X : CX} {d : Nat} {x0 : Int} {I R : PF} {Q : PV → PF → PF → Prop} (c1 : -2147483648 ≤ x0 ∧ x0 < 2147483648) (h1 : x0 ≠ 0 → PN X d mX11_forceOf 8 [(0, x0)] [] I R Q) (h2 : x0 = 0 → PN X d mX11_forceOf 4 [] [] I R Q) : PN X d mX11_forceOf 0 [(0, x0)] [] I R Q := by
  refine P_iload_n (n := 0) (q := 1) rfl rfl (by decide +kernel) ?_
  refine B_if_ne (off := 7) (t := 8) (q := 4) c1 (by decide) rfl (by decide +kernel) ?_ ?_
  · exact fun g9 => (h1 g9)
  · exact fun g9 => (PW_sub (ls' := []) trivial (h2 g9))
theorem S_X11_forceOf_4 {X : CX} {d : Nat} {I R : PF} {Q : PV → PF → PF → Prop} (h : PN X d mX11_forceOf 13 [] [(0, 0)] I R Q) : PN X d mX11_forceOf 4 [] [] I R Q := by
  refine P_iconst (n := 0) (q := 5) rfl (by decide +kernel) ?_
  refine P_goto (off := 8) (t := 13) (by decide) (by decide +kernel) ?_
  exact (PW_sub (ls' := []) trivial h)
theorem S_X11_forceOf_8 {X : CX} {d : Nat} {x0 : Int} {I R : PF} {Q : PV → PF → PF → Prop} (c1 : -2147483648 ≤ (x0 + 3) ∧ (x0 + 3) < 2147483648) (h : PN X d mX11_forceOf 13 [] [(0, ((x0 + 3).tmod 4))] I R Q) : PN X d mX11_forceOf 8 [(0, x0)] [] I R Q := by
  refine P_iload_n (n := 0) (q := 9) rfl rfl (by decide +kernel) ?_
  refine P_iconst (n := 3) (q := 10) rfl (by decide +kernel) ?_
  refine P_iadd (q := 11) rfl (by decide +kernel) ?_
  refine P_iconst (n := 4) (q := 12) rfl (by decide +kernel) ?_
  refine B_irem (q := 13) c1 ⟨by decide, by decide⟩ (by decide) rfl (by decide +kernel) ?_
  exact (PW_sub (ls' := []) trivial h)
theorem S_X11_forceOf_13 {X : CX} {d : Nat} {o0 : Int} {I R : PF} {Q : PV → PF → PF → Prop} (h : Q (0, o0) I R) : PN X d mX11_forceOf 13 [] [(0, o0)] I R Q := by
  refine P_iret rfl (by decide +kernel) h
theorem S_X11_getsMany_0 {X : CX} {d : Nat} {x1 : Int} {I R : PF} {Q : PV → PF → PF → Prop} (h : PN X d mX11_getsMany 4 [(2, 306), (0, x1), (0, 0), (0, 0)] [] I R Q) : PN X d mX11_getsMany 0 [(2, 306), (0, x1)] [] I R Q := by
  refine P_iconst (n := 0) (q := 1) rfl (by decide +kernel) ?_
  refine P_istore_n (n := 2) (by decide) (q := 2) rfl (by decide +kernel) ?_
  refine P_iconst (n := 0) (q := 3) rfl (by decide +kernel) ?_
  refine P_istore_n (n := 3) (by decide) (q := 4) rfl (by decide +kernel) ?_
  exact h
theorem S_X11_getsMany_4 {X : CX} {d : Nat} {x1 x2 x3 : Int} {I R : PF} {Q : PV → PF → PF → Prop} (c1 : -2147483648 ≤ x3 ∧ x3 < 2147483648) (h1 : 33 ≤ x3 → PN X d mX11_getsMany 45 [(9, 0), (9, 0), (0, x2)] [] I R Q) (h2 : x3 < 33 → PN X d mX11_getsMany 10 [(2, 306), (0, x1), (0, x2), (0, x3)] [] I R Q) : PN X d mX11_getsMany 4 [(2, 306), (0, x1), (0, x2), (0, x3)] [] I R Q := by
  refine P_iload_n (n := 3) (q := 5) rfl rfl (by decide +kernel) ?_
  refine P_bipush (n := 33) (q := 7) rfl rfl (by decide +kernel) ?_
  refine B_icmp_ge (off := 38) (t := 45) (q := 10) c1 ⟨by decide, by decide⟩ (by decide) rfl (by decide +kernel) ?_ ?_
  · exact fun g9 => (PW_sub (ls' := [(9, 0), (9, 0), (0, x2)]) ⟨Or.inl rfl, Or.inl rfl, Or.inr rfl, trivial⟩ (h1 g9))
  · exact fun g9 => (h2 g9)
theorem S_X11_getsMany_10 {X : CX} {d d1 : Nat} {x1 x2 x3 : Int} {I R : PF} {Q Q1 : PV → PF → PF → Prop} (e1 : d1 + 1 ≤ d) (hc : CN X d1 mX11_wayOf [(0, x3)] I R Q1) (h : ∀ z I2 R2, Q1 (0, z) I2 R2 → PN X d mX11_getsMany 15 [(2, 306), (0, x1), (0, x2), (0, x3)] [(0, z), (2, 306)] I2 R2 Q) : PN X d mX11_getsMany 10 [(2, 306), (0, x1), (0, x2), (0, x3)] [] I R Q := by
  refine P_aload_n (n := 0) (q := 11) rfl rfl (by decide +kernel) ?_
  refine P_iload_n (n := 3) (q := 12) rfl rfl (by decide +kernel) ?_
  refine P_invS (As := [(0, x3)]) (q := 15) oX11_wayOf rfl (Or.inl kX11_549) e1 hMF (Nat.le_of_ble_eq_true rfl) hc rfl (by decide +kernel) (fun z I2 R2 hq => ?_)
  exact (h z I2 R2 hq)
theorem S_X11_getsMany_15 {X : CX} {d d1 : Nat} {x1 x2 x3 o1 : Int} {I R : PF} {Q Q1 : PV → PF → PF → Prop} (e1 : d1 + 1 ≤ d) (hc : CN X d1 mX11_forceOf [(0, x3)] I R Q1) (h : ∀ z I2 R2, Q1 (0, z) I2 R2 → PN X d mX11_getsMany 19 [(2, 306), (0, x1), (0, x2), (0, x3)] [(0, z), (0, o1), (2, 306)] I2 R2 Q) : PN X d mX11_getsMany 15 [(2, 306), (0, x1), (0, x2), (0, x3)] [(0, o1), (2, 306)] I R Q := by
  refine P_iload_n (n := 3) (q := 16) rfl rfl (by decide +kernel) ?_
  refine P_invS (As := [(0, x3)]) (q := 19) oX11_forceOf rfl (Or.inl kX11_552) e1 hMF (Nat.le_of_ble_eq_true rfl) hc rfl (by decide +kernel) (fun z I2 R2 hq => ?_)
  exact (h z I2 R2 hq)
theorem S_X11_getsMany_19 {X : CX} {d d1 : Nat} {x1 x2 x3 o1 o2 : Int} {I R : PF} {Q Q1 : PV → PF → PF → Prop} (hs : Shp R) (e1 : d1 + 1 ≤ d) (hc : CN X d1 mX11_tosses [(2, 306), (0, o1), (0, o2), (0, (I 348 0))] I R Q1) (h : ∀ z I2 R2, Q1 (9, z) I2 R2 → PN X d mX11_getsMany 28 [(2, 306), (0, x1), (0, x2), (0, x3)] [] I2 R2 Q) : PN X d mX11_getsMany 19 [(2, 306), (0, x1), (0, x2), (0, x3)] [(0, o2), (0, o1), (2, 306)] I R Q := by
  refine P_aload_n (n := 0) (q := 20) rfl rfl (by decide +kernel) ?_
  refine B_getfR (q := 23) fX11_303 kM306 (rM306_59 hs) rfl (by decide +kernel) ?_
  refine P_iconst (n := 0) (q := 24) rfl (by decide +kernel) ?_
  refine B_iaload (q := 25) kM348 nM348 (by decide) ⟨by decide, by decide⟩ rfl (by decide +kernel) ?_
  refine P_invV (As := [(0, o1), (0, o2), (0, (I 348 0))]) (q := 28) oX11_tosses rfl kM306 kX11_545 e1 hMF (Nat.le_of_ble_eq_true rfl) hc rfl (by decide +kernel) (fun z I2 R2 hq => ?_)
  exact (h z I2 R2 hq)
theorem S_X11_getsMany_28 {X : CX} {d : Nat} {x1 x2 x3 : Int} {I R : PF} {Q : PV → PF → PF → Prop} (c1 : -2147483648 ≤ (I 306 69) ∧ (I 306 69) < 2147483648) (c2 : -2147483648 ≤ x1 ∧ x1 < 2147483648) (h1 : (I 306 69) ≠ x1 → PN X d mX11_getsMany 39 [(2, 306), (0, x1), (0, x2), (0, x3)] [] I R Q) (h2 : (I 306 69) = x1 → PN X d mX11_getsMany 36 [(2, 306), (0, x1), (0, x2), (0, x3)] [] I R Q) : PN X d mX11_getsMany 28 [(2, 306), (0, x1), (0, x2), (0, x3)] [] I R Q := by
  refine P_aload_n (n := 0) (q := 29) rfl rfl (by decide +kernel) ?_
  refine P_getf (q := 32) fX11_485 kM306 rfl (by decide +kernel) ?_
  refine P_iload_n (n := 1) (q := 33) rfl rfl (by decide +kernel) ?_
  refine B_icmp_ne (off := 6) (t := 39) (q := 36) c1 c2 (by decide) rfl (by decide +kernel) ?_ ?_
  · exact fun g9 => (h1 g9)
  · exact fun g9 => (h2 g9)
theorem S_X11_getsMany_36 {X : CX} {d : Nat} {x1 x2 x3 : Int} {I R : PF} {Q : PV → PF → PF → Prop} (h : PN X d mX11_getsMany 39 [(2, 306), (0, x1), (0, (x2 + 1)), (0, x3)] [] I R Q) : PN X d mX11_getsMany 36 [(2, 306), (0, x1), (0, x2), (0, x3)] [] I R Q := by
  refine P_iinc (n := 2) (a := 1) (by decide) rfl (q := 39) rfl (by decide +kernel) ?_
  exact h
theorem S_X11_getsMany_39 {X : CX} {d : Nat} {x1 x2 x3 : Int} {I R : PF} {Q : PV → PF → PF → Prop} (h : PN X d mX11_getsMany 4 [(2, 306), (0, x1), (0, x2), (0, (x3 + 1))] [] I R Q) : PN X d mX11_getsMany 39 [(2, 306), (0, x1), (0, x2), (0, x3)] [] I R Q := by
  refine P_iinc (n := 3) (a := 1) (by decide) rfl (q := 42) rfl (by decide +kernel) ?_
  refine P_goto (off := (-38)) (t := 4) (by decide) (by decide +kernel) ?_
  exact h
theorem S_X11_getsMany_45 {X : CX} {d : Nat} {x2 : Int} {I R : PF} {Q : PV → PF → PF → Prop} (h : Q (0, x2) I R) : PN X d mX11_getsMany 45 [(9, 0), (9, 0), (0, x2)] [] I R Q := by
  refine P_iload_n (n := 2) (q := 46) rfl rfl (by decide +kernel) ?_
  refine P_iret rfl (by decide +kernel) h
theorem S_X11_getter_0 {X : CX} {d : Nat} {I R : PF} {Q : PV → PF → PF → Prop} (h : PN X d mX11_getter 4 [(2, 306), (0, (-1)), (0, 0)] [] I R Q) : PN X d mX11_getter 0 [(2, 306)] [] I R Q := by
  refine P_iconst (n := (-1)) (q := 1) rfl (by decide +kernel) ?_
  refine P_istore_n (n := 1) (by decide) (q := 2) rfl (by decide +kernel) ?_
  refine P_iconst (n := 0) (q := 3) rfl (by decide +kernel) ?_
  refine P_istore_n (n := 2) (by decide) (q := 4) rfl (by decide +kernel) ?_
  exact h
theorem S_X11_getter_4 {X : CX} {d d1 : Nat} {x1 x2 : Int} {I R : PF} {Q Q1 : PV → PF → PF → Prop} (e1 : d1 + 1 ≤ d) (hc : CN X d1 mX11_personMany [(2, 306)] I R Q1) (h : ∀ z I2 R2, Q1 (0, z) I2 R2 → PN X d mX11_getter 9 [(2, 306), (0, x1), (0, x2)] [(0, z), (0, x2)] I2 R2 Q) : PN X d mX11_getter 4 [(2, 306), (0, x1), (0, x2)] [] I R Q := by
  refine P_iload_n (n := 2) (q := 5) rfl rfl (by decide +kernel) ?_
  refine P_aload_n (n := 0) (q := 6) rfl rfl (by decide +kernel) ?_
  refine P_invV (As := []) (q := 9) oX11_personMany rfl kM306 kX11_420 e1 hMF (Nat.le_of_ble_eq_true rfl) hc rfl (by decide +kernel) (fun z I2 R2 hq => ?_)
  exact (h z I2 R2 hq)
theorem S_X11_getter_9 {X : CX} {d : Nat} {x1 x2 o0 o1 : Int} {I R : PF} {Q : PV → PF → PF → Prop} (c1 : -2147483648 ≤ o0 ∧ o0 < 2147483648) (c2 : -2147483648 ≤ o1 ∧ o1 < 2147483648) (h1 : o1 ≤ o0 → PN X d mX11_getter 97 [(9, 0), (0, x1)] [] I R Q) (h2 : o0 < o1 → PN X d mX11_getter 12 [(2, 306), (0, x1), (0, x2)] [] I R Q) : PN X d mX11_getter 9 [(2, 306), (0, x1), (0, x2)] [(0, o1), (0, o0)] I R Q := by
  refine B_icmp_ge (off := 88) (t := 97) (q := 12) c1 c2 (by decide) rfl (by decide +kernel) ?_ ?_
  · exact fun g9 => (PW_sub (ls' := [(9, 0), (0, x1)]) ⟨Or.inl rfl, Or.inr rfl, trivial⟩ (h1 g9))
  · exact fun g9 => (h2 g9)
theorem S_X11_getter_12 {X : CX} {d d1 : Nat} {x1 x2 : Int} {I R : PF} {Q Q1 : PV → PF → PF → Prop} (e1 : d1 + 1 ≤ d) (hc : CN X d1 mX11_canGet [(2, 306), (0, x2)] I R Q1) (h : ∀ z I2 R2, Q1 (0, z) I2 R2 → PN X d mX11_getter 17 [(2, 306), (0, x1), (0, x2)] [(0, z)] I2 R2 Q) : PN X d mX11_getter 12 [(2, 306), (0, x1), (0, x2)] [] I R Q := by
  refine P_aload_n (n := 0) (q := 13) rfl rfl (by decide +kernel) ?_
  refine P_iload_n (n := 2) (q := 14) rfl rfl (by decide +kernel) ?_
  refine P_invV (As := [(0, x2)]) (q := 17) oX11_canGet rfl kM306 kX11_479 e1 hMF (Nat.le_of_ble_eq_true rfl) hc rfl (by decide +kernel) (fun z I2 R2 hq => ?_)
  exact (h z I2 R2 hq)
theorem S_X11_getter_17 {X : CX} {d : Nat} {x1 x2 o0 : Int} {I R : PF} {Q : PV → PF → PF → Prop} (c1 : -2147483648 ≤ o0 ∧ o0 < 2147483648) (h1 : o0 ≠ 0 → PN X d mX11_getter 23 [(2, 306), (0, x1), (0, x2)] [] I R Q) (h2 : o0 = 0 → PN X d mX11_getter 20 [(2, 306), (0, x1), (0, x2)] [] I R Q) : PN X d mX11_getter 17 [(2, 306), (0, x1), (0, x2)] [(0, o0)] I R Q := by
  refine B_if_ne (off := 6) (t := 23) (q := 20) c1 (by decide) rfl (by decide +kernel) ?_ ?_
  · exact fun g9 => (h1 g9)
  · exact fun g9 => (h2 g9)
theorem S_X11_getter_20 {X : CX} {d : Nat} {x1 x2 : Int} {I R : PF} {Q : PV → PF → PF → Prop} (h : PN X d mX11_getter 91 [(2, 306), (0, x1), (0, x2)] [] I R Q) : PN X d mX11_getter 20 [(2, 306), (0, x1), (0, x2)] [] I R Q := by
  refine P_goto (off := 71) (t := 91) (by decide) (by decide +kernel) ?_
  exact h
theorem S_X11_getter_23 {X : CX} {d : Nat} {x1 x2 : Int} {I R : PF} {Q : PV → PF → PF → Prop} (c1 : -2147483648 ≤ x1 ∧ x1 < 2147483648) (h1 : x1 = (-1) → PN X d mX11_getter 89 [(2, 306), (9, 0), (0, x2)] [] I R Q) (h2 : x1 ≠ (-1) → PN X d mX11_getter 28 [(2, 306), (0, x1), (0, x2)] [] I R Q) : PN X d mX11_getter 23 [(2, 306), (0, x1), (0, x2)] [] I R Q := by
  refine P_iload_n (n := 1) (q := 24) rfl rfl (by decide +kernel) ?_
  refine P_iconst (n := (-1)) (q := 25) rfl (by decide +kernel) ?_
  refine B_icmp_eq (off := 64) (t := 89) (q := 28) c1 ⟨by decide, by decide⟩ (by decide) rfl (by decide +kernel) ?_ ?_
  · exact fun g9 => (PW_sub (ls' := [(2, 306), (9, 0), (0, x2)]) ⟨Or.inr rfl, Or.inl rfl, Or.inr rfl, trivial⟩ (h1 g9))
  · exact fun g9 => (h2 g9)
theorem S_X11_getter_28 {X : CX} {d d1 : Nat} {x1 x2 : Int} {I R : PF} {Q Q1 : PV → PF → PF → Prop} (e1 : d1 + 1 ≤ d) (hc : CN X d1 mX11_tallOf [(2, 306), (0, x2)] I R Q1) (h : ∀ z I2 R2, Q1 (0, z) I2 R2 → PN X d mX11_getter 33 [(2, 306), (0, x1), (0, x2)] [(0, z)] I2 R2 Q) : PN X d mX11_getter 28 [(2, 306), (0, x1), (0, x2)] [] I R Q := by
  refine P_aload_n (n := 0) (q := 29) rfl rfl (by decide +kernel) ?_
  refine P_iload_n (n := 2) (q := 30) rfl rfl (by decide +kernel) ?_
  refine P_invV (As := [(0, x2)]) (q := 33) oX11_tallOf rfl kM306 kX11_476 e1 hMF (Nat.le_of_ble_eq_true rfl) hc rfl (by decide +kernel) (fun z I2 R2 hq => ?_)
  exact (h z I2 R2 hq)
theorem S_X11_getter_33 {X : CX} {d d1 : Nat} {x1 x2 o0 : Int} {I R : PF} {Q Q1 : PV → PF → PF → Prop} (e1 : d1 + 1 ≤ d) (hc : CN X d1 mX11_tallOf [(2, 306), (0, x1)] I R Q1) (h : ∀ z I2 R2, Q1 (0, z) I2 R2 → PN X d mX11_getter 38 [(2, 306), (0, x1), (0, x2)] [(0, z), (0, o0)] I2 R2 Q) : PN X d mX11_getter 33 [(2, 306), (0, x1), (0, x2)] [(0, o0)] I R Q := by
  refine P_aload_n (n := 0) (q := 34) rfl rfl (by decide +kernel) ?_
  refine P_iload_n (n := 1) (q := 35) rfl rfl (by decide +kernel) ?_
  refine P_invV (As := [(0, x1)]) (q := 38) oX11_tallOf rfl kM306 kX11_476 e1 hMF (Nat.le_of_ble_eq_true rfl) hc rfl (by decide +kernel) (fun z I2 R2 hq => ?_)
  exact (h z I2 R2 hq)
theorem S_X11_getter_38 {X : CX} {d : Nat} {x1 x2 o0 o1 : Int} {I R : PF} {Q : PV → PF → PF → Prop} (c1 : -2147483648 ≤ o0 ∧ o0 < 2147483648) (c2 : -2147483648 ≤ o1 ∧ o1 < 2147483648) (h1 : o1 < o0 → PN X d mX11_getter 89 [(2, 306), (9, 0), (0, x2)] [] I R Q) (h2 : o0 ≤ o1 → PN X d mX11_getter 41 [(2, 306), (0, x1), (0, x2)] [] I R Q) : PN X d mX11_getter 38 [(2, 306), (0, x1), (0, x2)] [(0, o1), (0, o0)] I R Q := by
  refine B_icmp_gt (off := 51) (t := 89) (q := 41) c1 c2 (by decide) rfl (by decide +kernel) ?_ ?_
  · exact fun g9 => (PW_sub (ls' := [(2, 306), (9, 0), (0, x2)]) ⟨Or.inr rfl, Or.inl rfl, Or.inr rfl, trivial⟩ (h1 g9))
  · exact fun g9 => (h2 g9)
theorem S_X11_getter_41 {X : CX} {d d1 : Nat} {x1 x2 : Int} {I R : PF} {Q Q1 : PV → PF → PF → Prop} (e1 : d1 + 1 ≤ d) (hc : CN X d1 mX11_tallOf [(2, 306), (0, x2)] I R Q1) (h : ∀ z I2 R2, Q1 (0, z) I2 R2 → PN X d mX11_getter 46 [(2, 306), (0, x1), (0, x2)] [(0, z)] I2 R2 Q) : PN X d mX11_getter 41 [(2, 306), (0, x1), (0, x2)] [] I R Q := by
  refine P_aload_n (n := 0) (q := 42) rfl rfl (by decide +kernel) ?_
  refine P_iload_n (n := 2) (q := 43) rfl rfl (by decide +kernel) ?_
  refine P_invV (As := [(0, x2)]) (q := 46) oX11_tallOf rfl kM306 kX11_476 e1 hMF (Nat.le_of_ble_eq_true rfl) hc rfl (by decide +kernel) (fun z I2 R2 hq => ?_)
  exact (h z I2 R2 hq)
theorem S_X11_getter_46 {X : CX} {d d1 : Nat} {x1 x2 o0 : Int} {I R : PF} {Q Q1 : PV → PF → PF → Prop} (e1 : d1 + 1 ≤ d) (hc : CN X d1 mX11_tallOf [(2, 306), (0, x1)] I R Q1) (h : ∀ z I2 R2, Q1 (0, z) I2 R2 → PN X d mX11_getter 51 [(2, 306), (0, x1), (0, x2)] [(0, z), (0, o0)] I2 R2 Q) : PN X d mX11_getter 46 [(2, 306), (0, x1), (0, x2)] [(0, o0)] I R Q := by
  refine P_aload_n (n := 0) (q := 47) rfl rfl (by decide +kernel) ?_
  refine P_iload_n (n := 1) (q := 48) rfl rfl (by decide +kernel) ?_
  refine P_invV (As := [(0, x1)]) (q := 51) oX11_tallOf rfl kM306 kX11_476 e1 hMF (Nat.le_of_ble_eq_true rfl) hc rfl (by decide +kernel) (fun z I2 R2 hq => ?_)
  exact (h z I2 R2 hq)
theorem S_X11_getter_51 {X : CX} {d : Nat} {x1 x2 o0 o1 : Int} {I R : PF} {Q : PV → PF → PF → Prop} (c1 : -2147483648 ≤ o0 ∧ o0 < 2147483648) (c2 : -2147483648 ≤ o1 ∧ o1 < 2147483648) (h1 : o0 ≠ o1 → PN X d mX11_getter 91 [(2, 306), (0, x1), (0, x2)] [] I R Q) (h2 : o0 = o1 → PN X d mX11_getter 54 [(2, 306), (0, x1), (0, x2)] [] I R Q) : PN X d mX11_getter 51 [(2, 306), (0, x1), (0, x2)] [(0, o1), (0, o0)] I R Q := by
  refine B_icmp_ne (off := 40) (t := 91) (q := 54) c1 c2 (by decide) rfl (by decide +kernel) ?_ ?_
  · exact fun g9 => (h1 g9)
  · exact fun g9 => (h2 g9)
theorem S_X11_getter_54 {X : CX} {d d1 : Nat} {x1 x2 : Int} {I R : PF} {Q Q1 : PV → PF → PF → Prop} (hs : Shp R) (b1 : (0 : Int) ≤ x2 ∧ x2 < 6) (e1 : d1 + 1 ≤ d) (hc : CN X d1 mX11_farFrom [(2, 306), (0, (I 351 x2)), (0, (I 352 x2))] I R Q1) (h : ∀ z I2 R2, Q1 (0, z) I2 R2 → PN X d mX11_getter 70 [(2, 306), (0, x1), (0, x2)] [(0, z)] I2 R2 Q) : PN X d mX11_getter 54 [(2, 306), (0, x1), (0, x2)] [] I R Q := by
  refine P_aload_n (n := 0) (q := 55) rfl rfl (by decide +kernel) ?_
  refine P_aload_n (n := 0) (q := 56) rfl rfl (by decide +kernel) ?_
  refine B_getfR (q := 59) fX11_323 kM306 (rM306_67 hs) rfl (by decide +kernel) ?_
  refine P_iload_n (n := 2) (q := 60) rfl rfl (by decide +kernel) ?_
  refine B_iaload (q := 61) kM351 nM351 (by decide) b1 rfl (by decide +kernel) ?_
  refine P_aload_n (n := 0) (q := 62) rfl rfl (by decide +kernel) ?_
  refine B_getfR (q := 65) fX11_326 kM306 (rM306_68 hs) rfl (by decide +kernel) ?_
  refine P_iload_n (n := 2) (q := 66) rfl rfl (by decide +kernel) ?_
  refine B_iaload (q := 67) kM352 nM352 (by decide) b1 rfl (by decide +kernel) ?_
  refine P_invV (As := [(0, (I 351 x2)), (0, (I 352 x2))]) (q := 70) oX11_farFrom rfl kM306 kX11_473 e1 hMF (Nat.le_of_ble_eq_true rfl) hc rfl (by decide +kernel) (fun z I2 R2 hq => ?_)
  exact (h z I2 R2 hq)
theorem S_X11_getter_70 {X : CX} {d d1 : Nat} {x1 x2 o0 : Int} {I R : PF} {Q Q1 : PV → PF → PF → Prop} (hs : Shp R) (b1 : (0 : Int) ≤ x1 ∧ x1 < 6) (e1 : d1 + 1 ≤ d) (hc : CN X d1 mX11_farFrom [(2, 306), (0, (I 351 x1)), (0, (I 352 x1))] I R Q1) (h : ∀ z I2 R2, Q1 (0, z) I2 R2 → PN X d mX11_getter 86 [(2, 306), (0, x1), (0, x2)] [(0, z), (0, o0)] I2 R2 Q) : PN X d mX11_getter 70 [(2, 306), (0, x1), (0, x2)] [(0, o0)] I R Q := by
  refine P_aload_n (n := 0) (q := 71) rfl rfl (by decide +kernel) ?_
  refine P_aload_n (n := 0) (q := 72) rfl rfl (by decide +kernel) ?_
  refine B_getfR (q := 75) fX11_323 kM306 (rM306_67 hs) rfl (by decide +kernel) ?_
  refine P_iload_n (n := 1) (q := 76) rfl rfl (by decide +kernel) ?_
  refine B_iaload (q := 77) kM351 nM351 (by decide) b1 rfl (by decide +kernel) ?_
  refine P_aload_n (n := 0) (q := 78) rfl rfl (by decide +kernel) ?_
  refine B_getfR (q := 81) fX11_326 kM306 (rM306_68 hs) rfl (by decide +kernel) ?_
  refine P_iload_n (n := 1) (q := 82) rfl rfl (by decide +kernel) ?_
  refine B_iaload (q := 83) kM352 nM352 (by decide) b1 rfl (by decide +kernel) ?_
  refine P_invV (As := [(0, (I 351 x1)), (0, (I 352 x1))]) (q := 86) oX11_farFrom rfl kM306 kX11_473 e1 hMF (Nat.le_of_ble_eq_true rfl) hc rfl (by decide +kernel) (fun z I2 R2 hq => ?_)
  exact (h z I2 R2 hq)
theorem S_X11_getter_86 {X : CX} {d : Nat} {x1 x2 o0 o1 : Int} {I R : PF} {Q : PV → PF → PF → Prop} (c1 : -2147483648 ≤ o0 ∧ o0 < 2147483648) (c2 : -2147483648 ≤ o1 ∧ o1 < 2147483648) (h1 : o1 ≤ o0 → PN X d mX11_getter 91 [(2, 306), (0, x1), (0, x2)] [] I R Q) (h2 : o0 < o1 → PN X d mX11_getter 89 [(2, 306), (9, 0), (0, x2)] [] I R Q) : PN X d mX11_getter 86 [(2, 306), (0, x1), (0, x2)] [(0, o1), (0, o0)] I R Q := by
  refine B_icmp_ge (off := 5) (t := 91) (q := 89) c1 c2 (by decide) rfl (by decide +kernel) ?_ ?_
  · exact fun g9 => (h1 g9)
  · exact fun g9 => (PW_sub (ls' := [(2, 306), (9, 0), (0, x2)]) ⟨Or.inr rfl, Or.inl rfl, Or.inr rfl, trivial⟩ (h2 g9))
theorem S_X11_getter_89 {X : CX} {d : Nat} {x2 : Int} {I R : PF} {Q : PV → PF → PF → Prop} (h : PN X d mX11_getter 91 [(2, 306), (0, x2), (0, x2)] [] I R Q) : PN X d mX11_getter 89 [(2, 306), (9, 0), (0, x2)] [] I R Q := by
  refine P_iload_n (n := 2) (q := 90) rfl rfl (by decide +kernel) ?_
  refine P_istore_n (n := 1) (by decide) (q := 91) rfl (by decide +kernel) ?_
  exact h
theorem S_X11_getter_91 {X : CX} {d : Nat} {x1 x2 : Int} {I R : PF} {Q : PV → PF → PF → Prop} (h : PN X d mX11_getter 4 [(2, 306), (0, x1), (0, (x2 + 1))] [] I R Q) : PN X d mX11_getter 91 [(2, 306), (0, x1), (0, x2)] [] I R Q := by
  refine P_iinc (n := 2) (a := 1) (by decide) rfl (q := 94) rfl (by decide +kernel) ?_
  refine P_goto (off := (-90)) (t := 4) (by decide) (by decide +kernel) ?_
  exact h
theorem S_X11_getter_97 {X : CX} {d : Nat} {x1 : Int} {I R : PF} {Q : PV → PF → PF → Prop} (h : Q (0, x1) I R) : PN X d mX11_getter 97 [(9, 0), (0, x1)] [] I R Q := by
  refine P_iload_n (n := 1) (q := 98) rfl rfl (by decide +kernel) ?_
  refine P_iret rfl (by decide +kernel) h
theorem S_X11_goes_0 {X : CX} {d : Nat} {x1 x2 x3 x4 : Int} {I R : PF} {Q : PV → PF → PF → Prop} (hs : Shp R) (h : PN X d mX11_goes 51 [(2, 306), (0, x1), (0, x2), (9, 0), (0, x4), (0, 0)] [] (u2 (u2 (u2 (u2 (u2 (u2 I 306 64 (I 341 7)) 306 65 ((u2 I 306 64 (I 341 7)) 341 8)) 306 66 ((u2 (u2 I 306 64 (I 341 7)) 306 65 ((u2 I 306 64 (I 341 7)) 341 8)) 341 9)) 306 61 x3) 306 69 (-1)) 306 70 0) R Q) : PN X d mX11_goes 0 [(2, 306), (0, x1), (0, x2), (0, x3), (0, x4)] [] I R Q := by
  refine P_aload_n (n := 0) (q := 1) rfl rfl (by decide +kernel) ?_
  refine P_aload_n (n := 0) (q := 2) rfl rfl (by decide +kernel) ?_
  refine B_getfR (q := 5) fX11_185 kM306 (rM306_44 hs) rfl (by decide +kernel) ?_
  refine P_bipush (n := 7) (q := 7) rfl rfl (by decide +kernel) ?_
  refine B_iaload (q := 8) kM341 nM341 (by decide) ⟨by decide, by decide⟩ rfl (by decide +kernel) ?_
  refine P_putI (q := 11) wX11_437 (fun h => by cases h) kM306 rfl (by decide +kernel) ?_
  refine P_aload_n (n := 0) (q := 12) rfl rfl (by decide +kernel) ?_
  refine P_aload_n (n := 0) (q := 13) rfl rfl (by decide +kernel) ?_
  refine B_getfR (q := 16) fX11_185 kM306 (rM306_44 hs) rfl (by decide +kernel) ?_
  refine P_bipush (n := 8) (q := 18) rfl rfl (by decide +kernel) ?_
  refine B_iaload (q := 19) kM341 nM341 (by decide) ⟨by decide, by decide⟩ rfl (by decide +kernel) ?_
  refine P_putI (q := 22) wX11_447 (fun h => by cases h) kM306 rfl (by decide +kernel) ?_
  refine P_aload_n (n := 0) (q := 23) rfl rfl (by decide +kernel) ?_
  refine P_aload_n (n := 0) (q := 24) rfl rfl (by decide +kernel) ?_
  refine B_getfR (q := 27) fX11_185 kM306 (rM306_44 hs) rfl (by decide +kernel) ?_
  refine P_bipush (n := 9) (q := 29) rfl rfl (by decide +kernel) ?_
  refine B_iaload (q := 30) kM341 nM341 (by decide) ⟨by decide, by decide⟩ rfl (by decide +kernel) ?_
  refine P_putI (q := 33) wX11_456 (fun h => by cases h) kM306 rfl (by decide +kernel) ?_
  refine P_aload_n (n := 0) (q := 34) rfl rfl (by decide +kernel) ?_
  refine P_iload_n (n := 3) (q := 35) rfl rfl (by decide +kernel) ?_
  refine P_putI (q := 38) wX11_482 (fun h => by cases h) kM306 rfl (by decide +kernel) ?_
  refine P_aload_n (n := 0) (q := 39) rfl rfl (by decide +kernel) ?_
  refine P_iconst (n := (-1)) (q := 40) rfl (by decide +kernel) ?_
  refine P_putI (q := 43) wX11_485 (fun h => by cases h) kM306 rfl (by decide +kernel) ?_
  refine P_aload_n (n := 0) (q := 44) rfl rfl (by decide +kernel) ?_
  refine P_iconst (n := 0) (q := 45) rfl (by decide +kernel) ?_
  refine P_putI (q := 48) wX11_488 (fun h => by cases h) kM306 rfl (by decide +kernel) ?_
  refine P_iconst (n := 0) (q := 49) rfl (by decide +kernel) ?_
  refine P_istore (n := 5) (by decide) (q := 51) rfl (by decide +kernel) ?_
  exact (PW_sub (ls' := [(2, 306), (0, x1), (0, x2), (9, 0), (0, x4), (0, 0)]) ⟨Or.inr rfl, Or.inr rfl, Or.inr rfl, Or.inl rfl, Or.inr rfl, Or.inr rfl, trivial⟩ h)
theorem S_X11_goes_51 {X : CX} {d d1 : Nat} {x1 x2 x4 x5 : Int} {I R : PF} {Q Q1 : PV → PF → PF → Prop} (e1 : d1 + 1 ≤ d) (hc : CN X d1 mX11_personMany [(2, 306)] I R Q1) (h : ∀ z I2 R2, Q1 (0, z) I2 R2 → PN X d mX11_goes 57 [(2, 306), (0, x1), (0, x2), (9, 0), (0, x4), (0, x5)] [(0, z), (0, x5)] I2 R2 Q) : PN X d mX11_goes 51 [(2, 306), (0, x1), (0, x2), (9, 0), (0, x4), (0, x5)] [] I R Q := by
  refine P_iload (n := 5) (q := 53) rfl rfl (by decide +kernel) ?_
  refine P_aload_n (n := 0) (q := 54) rfl rfl (by decide +kernel) ?_
  refine P_invV (As := []) (q := 57) oX11_personMany rfl kM306 kX11_420 e1 hMF (Nat.le_of_ble_eq_true rfl) hc rfl (by decide +kernel) (fun z I2 R2 hq => ?_)
  exact (h z I2 R2 hq)
theorem S_X11_goes_57 {X : CX} {d : Nat} {x1 x2 x4 x5 o0 o1 : Int} {I R : PF} {Q : PV → PF → PF → Prop} (c1 : -2147483648 ≤ o0 ∧ o0 < 2147483648) (c2 : -2147483648 ≤ o1 ∧ o1 < 2147483648) (h1 : o1 ≤ o0 → PN X d mX11_goes 92 [(2, 306), (0, x1), (0, x2), (9, 0), (0, x4)] [] I R Q) (h2 : o0 < o1 → PN X d mX11_goes 60 [(2, 306), (0, x1), (0, x2), (9, 0), (0, x4), (0, x5)] [] I R Q) : PN X d mX11_goes 57 [(2, 306), (0, x1), (0, x2), (9, 0), (0, x4), (0, x5)] [(0, o1), (0, o0)] I R Q := by
  refine B_icmp_ge (off := 35) (t := 92) (q := 60) c1 c2 (by decide) rfl (by decide +kernel) ?_ ?_
  · exact fun g9 => (PW_sub (ls' := [(2, 306), (0, x1), (0, x2), (9, 0), (0, x4)]) ⟨Or.inr rfl, Or.inr rfl, Or.inr rfl, Or.inl rfl, Or.inr rfl, trivial⟩ (h1 g9))
  · exact fun g9 => (h2 g9)
theorem S_X11_goes_60 {X : CX} {d d1 : Nat} {x1 x2 x4 x5 : Int} {I R : PF} {Q Q1 : PV → PF → PF → Prop} (hs : Shp R) (e1 : d1 + 1 ≤ d) (hc : CN X d1 mX11_columnOf [(2, 306), (0, x5)] I R Q1) (h : ∀ z I2 R2, Q1 (0, z) I2 R2 → PN X d mX11_goes 72 [(2, 306), (0, x1), (0, x2), (9, 0), (0, x4), (0, x5)] [(0, z), (0, x5), (2, 351)] I2 R2 Q) : PN X d mX11_goes 60 [(2, 306), (0, x1), (0, x2), (9, 0), (0, x4), (0, x5)] [] I R Q := by
  refine P_aload_n (n := 0) (q := 61) rfl rfl (by decide +kernel) ?_
  refine B_getfR (q := 64) fX11_323 kM306 (rM306_67 hs) rfl (by decide +kernel) ?_
  refine P_iload (n := 5) (q := 66) rfl rfl (by decide +kernel) ?_
  refine P_aload_n (n := 0) (q := 67) rfl rfl (by decide +kernel) ?_
  refine P_iload (n := 5) (q := 69) rfl rfl (by decide +kernel) ?_
  refine P_invV (As := [(0, x5)]) (q := 72) oX11_columnOf rfl kM306 kX11_491 e1 hMF (Nat.le_of_ble_eq_true rfl) hc rfl (by decide +kernel) (fun z I2 R2 hq => ?_)
  exact (h z I2 R2 hq)
theorem S_X11_goes_72 {X : CX} {d d1 : Nat} {x1 x2 x4 x5 o1 o2 : Int} {I R : PF} {Q Q1 : PV → PF → PF → Prop} (hs : Shp R) (b1 : (0 : Int) ≤ o1 ∧ o1 < 6) (e1 : d1 + 1 ≤ d) (hc : CN X d1 mX11_rowOf [(2, 306), (0, x5)] (u2 I 351 o1 o2) R Q1) (h : ∀ z I2 R2, Q1 (0, z) I2 R2 → PN X d mX11_goes 85 [(2, 306), (0, x1), (0, x2), (9, 0), (0, x4), (0, x5)] [(0, z), (0, x5), (2, 352)] I2 R2 Q) : PN X d mX11_goes 72 [(2, 306), (0, x1), (0, x2), (9, 0), (0, x4), (0, x5)] [(0, o2), (0, o1), (2, 351)] I R Q := by
  refine B_iastore (q := 73) kM351 nM351 (by decide) b1 rfl (by decide +kernel) ?_
  refine P_aload_n (n := 0) (q := 74) rfl rfl (by decide +kernel) ?_
  refine B_getfR (q := 77) fX11_326 kM306 (rM306_68 hs) rfl (by decide +kernel) ?_
  refine P_iload (n := 5) (q := 79) rfl rfl (by decide +kernel) ?_
  refine P_aload_n (n := 0) (q := 80) rfl rfl (by decide +kernel) ?_
  refine P_iload (n := 5) (q := 82) rfl rfl (by decide +kernel) ?_
  refine P_invV (As := [(0, x5)]) (q := 85) oX11_rowOf rfl kM306 kX11_494 e1 hMF (Nat.le_of_ble_eq_true rfl) hc rfl (by decide +kernel) (fun z I2 R2 hq => ?_)
  exact (h z I2 R2 hq)
theorem S_X11_goes_85 {X : CX} {d : Nat} {x1 x2 x4 x5 o1 o2 : Int} {I R : PF} {Q : PV → PF → PF → Prop} (b1 : (0 : Int) ≤ o1 ∧ o1 < 6) (h : PN X d mX11_goes 51 [(2, 306), (0, x1), (0, x2), (9, 0), (0, x4), (0, (x5 + 1))] [] (u2 I 352 o1 o2) R Q) : PN X d mX11_goes 85 [(2, 306), (0, x1), (0, x2), (9, 0), (0, x4), (0, x5)] [(0, o2), (0, o1), (2, 352)] I R Q := by
  refine B_iastore (q := 86) kM352 nM352 (by decide) b1 rfl (by decide +kernel) ?_
  refine P_iinc (n := 5) (a := 1) (by decide) rfl (q := 89) rfl (by decide +kernel) ?_
  refine P_goto (off := (-38)) (t := 51) (by decide) (by decide +kernel) ?_
  exact h
theorem S_X11_goes_92 {X : CX} {d : Nat} {x1 x2 x4 : Int} {I R : PF} {Q : PV → PF → PF → Prop} (h : PN X d mX11_goes 95 [(2, 306), (0, x1), (0, x2), (9, 0), (0, x4), (0, 0)] [] I R Q) : PN X d mX11_goes 92 [(2, 306), (0, x1), (0, x2), (9, 0), (0, x4)] [] I R Q := by
  refine P_iconst (n := 0) (q := 93) rfl (by decide +kernel) ?_
  refine P_istore (n := 5) (by decide) (q := 95) rfl (by decide +kernel) ?_
  exact h
theorem S_X11_goes_95 {X : CX} {d : Nat} {x1 x2 x4 x5 : Int} {I R : PF} {Q : PV → PF → PF → Prop} (c1 : -2147483648 ≤ x5 ∧ x5 < 2147483648) (c2 : -2147483648 ≤ x2 ∧ x2 < 2147483648) (h1 : x2 ≤ x5 → PN X d mX11_goes 116 [(2, 306), (9, 0), (9, 0), (9, 0), (0, x4)] [] I R Q) (h2 : x5 < x2 → PN X d mX11_goes 101 [(2, 306), (0, x1), (0, x2), (9, 0), (0, x4), (0, x5)] [] I R Q) : PN X d mX11_goes 95 [(2, 306), (0, x1), (0, x2), (9, 0), (0, x4), (0, x5)] [] I R Q := by
  refine P_iload (n := 5) (q := 97) rfl rfl (by decide +kernel) ?_
  refine P_iload_n (n := 2) (q := 98) rfl rfl (by decide +kernel) ?_
  refine B_icmp_ge (off := 18) (t := 116) (q := 101) c1 c2 (by decide) rfl (by decide +kernel) ?_ ?_
  · exact fun g9 => (PW_sub (ls' := [(2, 306), (9, 0), (9, 0), (9, 0), (0, x4)]) ⟨Or.inr rfl, Or.inl rfl, Or.inl rfl, Or.inl rfl, Or.inr rfl, trivial⟩ (h1 g9))
  · exact fun g9 => (h2 g9)
theorem S_X11_goes_101 {X : CX} {d : Nat} {x1 x2 x4 x5 : Int} {I R : PF} {Q : PV → PF → PF → Prop} (c1 : -2147483648 ≤ x1 ∧ x1 < 2147483648) (h1 : x1 ≤ 0 → PN X d mX11_goes 116 [(2, 306), (9, 0), (9, 0), (9, 0), (0, x4)] [] I R Q) (h2 : 0 < x1 → PN X d mX11_goes 105 [(2, 306), (0, x1), (0, x2), (9, 0), (0, x4), (0, x5)] [] I R Q) : PN X d mX11_goes 101 [(2, 306), (0, x1), (0, x2), (9, 0), (0, x4), (0, x5)] [] I R Q := by
  refine P_iload_n (n := 1) (q := 102) rfl rfl (by decide +kernel) ?_
  refine B_if_le (off := 14) (t := 116) (q := 105) c1 (by decide) rfl (by decide +kernel) ?_ ?_
  · exact fun g9 => (PW_sub (ls' := [(2, 306), (9, 0), (9, 0), (9, 0), (0, x4)]) ⟨Or.inr rfl, Or.inl rfl, Or.inl rfl, Or.inl rfl, Or.inr rfl, trivial⟩ (h1 g9))
  · exact fun g9 => (h2 g9)
theorem S_X11_goes_105 {X : CX} {d d1 : Nat} {x1 x2 x4 x5 : Int} {I R : PF} {Q Q1 : PV → PF → PF → Prop} (e1 : d1 + 1 ≤ d) (hc : CN X d1 mX11_drifts [(2, 306), (0, x1)] I R Q1) (h : ∀ z I2 R2, Q1 (9, z) I2 R2 → PN X d mX11_goes 110 [(2, 306), (0, x1), (0, x2), (9, 0), (0, x4), (0, x5)] [] I2 R2 Q) : PN X d mX11_goes 105 [(2, 306), (0, x1), (0, x2), (9, 0), (0, x4), (0, x5)] [] I R Q := by
  refine P_aload_n (n := 0) (q := 106) rfl rfl (by decide +kernel) ?_
  refine P_iload_n (n := 1) (q := 107) rfl rfl (by decide +kernel) ?_
  refine P_invV (As := [(0, x1)]) (q := 110) oX11_drifts rfl kM306 kX11_497 e1 hMF (Nat.le_of_ble_eq_true rfl) hc rfl (by decide +kernel) (fun z I2 R2 hq => ?_)
  exact (h z I2 R2 hq)
theorem S_X11_goes_110 {X : CX} {d : Nat} {x1 x2 x4 x5 : Int} {I R : PF} {Q : PV → PF → PF → Prop} (h : PN X d mX11_goes 95 [(2, 306), (0, x1), (0, x2), (9, 0), (0, x4), (0, (x5 + 1))] [] I R Q) : PN X d mX11_goes 110 [(2, 306), (0, x1), (0, x2), (9, 0), (0, x4), (0, x5)] [] I R Q := by
  refine P_iinc (n := 5) (a := 1) (by decide) rfl (q := 113) rfl (by decide +kernel) ?_
  refine P_goto (off := (-18)) (t := 95) (by decide) (by decide +kernel) ?_
  exact h
theorem S_X11_goes_116 {X : CX} {d : Nat} {x4 : Int} {I R : PF} {Q : PV → PF → PF → Prop} (c1 : -2147483648 ≤ (I 306 69) ∧ (I 306 69) < 2147483648) (h1 : (I 306 69) ≠ (-1) → PN X d mX11_goes 260 [] [] I R Q) (h2 : (I 306 69) = (-1) → PN X d mX11_goes 124 [(2, 306), (9, 0), (9, 0), (9, 0), (0, x4)] [] I R Q) : PN X d mX11_goes 116 [(2, 306), (9, 0), (9, 0), (9, 0), (0, x4)] [] I R Q := by
  refine P_aload_n (n := 0) (q := 117) rfl rfl (by decide +kernel) ?_
  refine P_getf (q := 120) fX11_485 kM306 rfl (by decide +kernel) ?_
  refine P_iconst (n := (-1)) (q := 121) rfl (by decide +kernel) ?_
  refine B_icmp_ne (off := 139) (t := 260) (q := 124) c1 ⟨by decide, by decide⟩ (by decide) rfl (by decide +kernel) ?_ ?_
  · exact fun g9 => (PW_sub (ls' := []) trivial (h1 g9))
  · exact fun g9 => (PW_sub (ls' := [(2, 306), (9, 0), (9, 0), (9, 0), (0, x4)]) ⟨Or.inr rfl, Or.inl rfl, Or.inl rfl, Or.inl rfl, Or.inr rfl, trivial⟩ (h2 g9))
theorem S_X11_goes_124 {X : CX} {d : Nat} {x4 : Int} {I R : PF} {Q : PV → PF → PF → Prop} (c1 : -2147483648 ≤ (I 306 66) ∧ (I 306 66) < 2147483648) (h1 : (I 306 66) ≤ 0 → PN X d mX11_goes 260 [] [] I R Q) (h2 : 0 < (I 306 66) → PN X d mX11_goes 131 [(2, 306), (9, 0), (9, 0), (9, 0), (0, x4)] [] I R Q) : PN X d mX11_goes 124 [(2, 306), (9, 0), (9, 0), (9, 0), (0, x4)] [] I R Q := by
  refine P_aload_n (n := 0) (q := 125) rfl rfl (by decide +kernel) ?_
  refine P_getf (q := 128) fX11_456 kM306 rfl (by decide +kernel) ?_
  refine B_if_le (off := 132) (t := 260) (q := 131) c1 (by decide) rfl (by decide +kernel) ?_ ?_
  · exact fun g9 => (PW_sub (ls' := []) trivial (h1 g9))
  · exact fun g9 => (PW_sub (ls' := [(2, 306), (9, 0), (9, 0), (9, 0), (0, x4)]) ⟨Or.inr rfl, Or.inl rfl, Or.inl rfl, Or.inl rfl, Or.inr rfl, trivial⟩ (h2 g9))
theorem S_X11_goes_131 {X : CX} {d d1 : Nat} {x4 : Int} {I R : PF} {Q Q1 : PV → PF → PF → Prop} (e1 : d1 + 1 ≤ d) (hc : CN X d1 mX11_windNow [(2, 306)] I R Q1) (h : ∀ z I2 R2, Q1 (0, z) I2 R2 → PN X d mX11_goes 135 [(2, 306), (9, 0), (9, 0), (9, 0), (0, x4)] [(0, z)] I2 R2 Q) : PN X d mX11_goes 131 [(2, 306), (9, 0), (9, 0), (9, 0), (0, x4)] [] I R Q := by
  refine P_aload_n (n := 0) (q := 132) rfl rfl (by decide +kernel) ?_
  refine P_invV (As := []) (q := 135) oX11_windNow rfl kM306 kX11_500 e1 hMF (Nat.le_of_ble_eq_true rfl) hc rfl (by decide +kernel) (fun z I2 R2 hq => ?_)
  exact (PW_sub (ls' := [(2, 306), (9, 0), (9, 0), (9, 0), (0, x4)]) ⟨Or.inr rfl, Or.inl rfl, Or.inl rfl, Or.inl rfl, Or.inr rfl, trivial⟩ (h z I2 R2 hq))
theorem S_X11_goes_135 {X : CX} {d : Nat} {x4 o0 : Int} {I R : PF} {Q : PV → PF → PF → Prop} (c1 : -2147483648 ≤ x4 ∧ x4 < 2147483648) (h1 : x4 = 0 → PN X d mX11_goes 173 [(2, 306), (9, 0), (9, 0), (9, 0), (0, x4), (0, o0)] [] I R Q) (h2 : x4 ≠ 0 → PN X d mX11_goes 142 [(2, 306), (9, 0), (9, 0), (9, 0), (0, x4), (0, o0)] [] I R Q) : PN X d mX11_goes 135 [(2, 306), (9, 0), (9, 0), (9, 0), (0, x4)] [(0, o0)] I R Q := by
  refine P_istore (n := 5) (by decide) (q := 137) rfl (by decide +kernel) ?_
  refine P_iload (n := 4) (q := 139) rfl rfl (by decide +kernel) ?_
  refine B_if_eq (off := 34) (t := 173) (q := 142) c1 (by decide) rfl (by decide +kernel) ?_ ?_
  · exact fun g9 => (h1 g9)
  · exact fun g9 => (h2 g9)
theorem S_X11_goes_142 {X : CX} {d d1 : Nat} {x4 x5 : Int} {I R : PF} {Q Q1 : PV → PF → PF → Prop} (e1 : d1 + 1 ≤ d) (hc : CN X d1 mX11_drawOf [(2, 306), (0, 100)] I R Q1) (h : ∀ z I2 R2, Q1 (0, z) I2 R2 → PN X d mX11_goes 148 [(2, 306), (9, 0), (9, 0), (9, 0), (0, x4), (0, x5)] [(0, z)] I2 R2 Q) : PN X d mX11_goes 142 [(2, 306), (9, 0), (9, 0), (9, 0), (0, x4), (0, x5)] [] I R Q := by
  refine P_aload_n (n := 0) (q := 143) rfl rfl (by decide +kernel) ?_
  refine P_bipush (n := 100) (q := 145) rfl rfl (by decide +kernel) ?_
  refine P_invV (As := [(0, 100)]) (q := 148) oX11_drawOf rfl kM306 kX11_503 e1 hMF (Nat.le_of_ble_eq_true rfl) hc rfl (by decide +kernel) (fun z I2 R2 hq => ?_)
  exact (h z I2 R2 hq)
theorem S_X11_goes_148 {X : CX} {d : Nat} {x4 x5 o0 : Int} {I R : PF} {Q : PV → PF → PF → Prop} (c1 : -2147483648 ≤ o0 ∧ o0 < 2147483648) (c2 : -2147483648 ≤ (I 306 49) ∧ (I 306 49) < 2147483648) (h1 : (I 306 49) ≤ o0 → PN X d mX11_goes 173 [(2, 306), (9, 0), (9, 0), (9, 0), (0, x4), (0, x5)] [] I R Q) (h2 : o0 < (I 306 49) → PN X d mX11_goes 155 [(2, 306), (9, 0), (9, 0), (9, 0), (0, x4)] [] I R Q) : PN X d mX11_goes 148 [(2, 306), (9, 0), (9, 0), (9, 0), (0, x4), (0, x5)] [(0, o0)] I R Q := by
  refine P_aload_n (n := 0) (q := 149) rfl rfl (by decide +kernel) ?_
  refine P_getf (q := 152) fX11_300 kM306 rfl (by decide +kernel) ?_
  refine B_icmp_ge (off := 21) (t := 173) (q := 155) c1 c2 (by decide) rfl (by decide +kernel) ?_ ?_
  · exact fun g9 => (h1 g9)
  · exact fun g9 => (PW_sub (ls' := [(2, 306), (9, 0), (9, 0), (9, 0), (0, x4)]) ⟨Or.inr rfl, Or.inl rfl, Or.inl rfl, Or.inl rfl, Or.inr rfl, trivial⟩ (h2 g9))
theorem S_X11_goes_155 {X : CX} {d d1 : Nat} {x4 : Int} {I R : PF} {Q Q1 : PV → PF → PF → Prop} (e1 : d1 + 1 ≤ d) (hc : CN X d1 mX11_drawOf [(2, 306), (0, 9)] I R Q1) (h : ∀ z I2 R2, Q1 (0, z) I2 R2 → PN X d mX11_goes 161 [(2, 306), (9, 0), (9, 0), (9, 0), (0, x4)] [(0, z)] I2 R2 Q) : PN X d mX11_goes 155 [(2, 306), (9, 0), (9, 0), (9, 0), (0, x4)] [] I R Q := by
  refine P_aload_n (n := 0) (q := 156) rfl rfl (by decide +kernel) ?_
  refine P_bipush (n := 9) (q := 158) rfl rfl (by decide +kernel) ?_
  refine P_invV (As := [(0, 9)]) (q := 161) oX11_drawOf rfl kM306 kX11_503 e1 hMF (Nat.le_of_ble_eq_true rfl) hc rfl (by decide +kernel) (fun z I2 R2 hq => ?_)
  exact (PW_sub (ls' := [(2, 306), (9, 0), (9, 0), (9, 0), (0, x4)]) ⟨Or.inr rfl, Or.inl rfl, Or.inl rfl, Or.inl rfl, Or.inr rfl, trivial⟩ (h z I2 R2 hq))
theorem S_X11_goes_161 {X : CX} {d : Nat} {x4 o0 : Int} {I R : PF} {Q : PV → PF → PF → Prop} (h : PN X d mX11_goes 173 [(2, 306), (9, 0), (9, 0), (9, 0), (0, x4), (0, o0)] [] (u2 I 306 71 ((I 306 71) + 1)) R Q) : PN X d mX11_goes 161 [(2, 306), (9, 0), (9, 0), (9, 0), (0, x4)] [(0, o0)] I R Q := by
  refine P_istore (n := 5) (by decide) (q := 163) rfl (by decide +kernel) ?_
  refine P_aload_n (n := 0) (q := 164) rfl rfl (by decide +kernel) ?_
  refine P_dup (q := 165) (Nat.ne_of_beq_eq_false rfl) rfl (by decide +kernel) ?_
  refine P_getf (q := 168) fX11_506 kM306 rfl (by decide +kernel) ?_
  refine P_iconst (n := 1) (q := 169) rfl (by decide +kernel) ?_
  refine P_iadd (q := 170) rfl (by decide +kernel) ?_
  refine P_putI (q := 173) wX11_506 (fun h => by cases h) kM306 rfl (by decide +kernel) ?_
  exact h
theorem S_X11_goes_173 {X : CX} {d d1 : Nat} {x4 x5 : Int} {I R : PF} {Q Q1 : PV → PF → PF → Prop} (e1 : d1 + 1 ≤ d) (hc : CN X d1 mX11_drifts [(2, 306), (0, x5)] I R Q1) (h : ∀ z I2 R2, Q1 (9, z) I2 R2 → PN X d mX11_goes 179 [(2, 306), (9, 0), (9, 0), (9, 0), (0, x4)] [] I2 R2 Q) : PN X d mX11_goes 173 [(2, 306), (9, 0), (9, 0), (9, 0), (0, x4), (0, x5)] [] I R Q := by
  refine P_aload_n (n := 0) (q := 174) rfl rfl (by decide +kernel) ?_
  refine P_iload (n := 5) (q := 176) rfl rfl (by decide +kernel) ?_
  refine P_invV (As := [(0, x5)]) (q := 179) oX11_drifts rfl kM306 kX11_497 e1 hMF (Nat.le_of_ble_eq_true rfl) hc rfl (by decide +kernel) (fun z I2 R2 hq => ?_)
  exact (PW_sub (ls' := [(2, 306), (9, 0), (9, 0), (9, 0), (0, x4)]) ⟨Or.inr rfl, Or.inl rfl, Or.inl rfl, Or.inl rfl, Or.inr rfl, trivial⟩ (h z I2 R2 hq))
theorem S_X11_goes_179 {X : CX} {d : Nat} {x4 : Int} {I R : PF} {Q : PV → PF → PF → Prop} (h : PN X d mX11_goes 202 [(2, 306), (9, 0), (9, 0), (9, 0), (0, x4), (9, 0), (0, 0)] [] (u2 (u2 I 306 66 ((I 306 66) - 1)) 306 70 (((u2 I 306 66 ((I 306 66) - 1)) 306 70) + 1)) R Q) : PN X d mX11_goes 179 [(2, 306), (9, 0), (9, 0), (9, 0), (0, x4)] [] I R Q := by
  refine P_aload_n (n := 0) (q := 180) rfl rfl (by decide +kernel) ?_
  refine P_dup (q := 181) (Nat.ne_of_beq_eq_false rfl) rfl (by decide +kernel) ?_
  refine P_getf (q := 184) fX11_456 kM306 rfl (by decide +kernel) ?_
  refine P_iconst (n := 1) (q := 185) rfl (by decide +kernel) ?_
  refine P_isub (q := 186) rfl (by decide +kernel) ?_
  refine P_putI (q := 189) wX11_456 (fun h => by cases h) kM306 rfl (by decide +kernel) ?_
  refine P_aload_n (n := 0) (q := 190) rfl rfl (by decide +kernel) ?_
  refine P_dup (q := 191) (Nat.ne_of_beq_eq_false rfl) rfl (by decide +kernel) ?_
  refine P_getf (q := 194) fX11_488 kM306 rfl (by decide +kernel) ?_
  refine P_iconst (n := 1) (q := 195) rfl (by decide +kernel) ?_
  refine P_iadd (q := 196) rfl (by decide +kernel) ?_
  refine P_putI (q := 199) wX11_488 (fun h => by cases h) kM306 rfl (by decide +kernel) ?_
  refine P_iconst (n := 0) (q := 200) rfl (by decide +kernel) ?_
  refine P_istore (n := 6) (by decide) (q := 202) rfl (by decide +kernel) ?_
  exact h
theorem S_X11_goes_202 {X : CX} {d d1 : Nat} {x4 x6 : Int} {I R : PF} {Q Q1 : PV → PF → PF → Prop} (e1 : d1 + 1 ≤ d) (hc : CN X d1 mX11_personMany [(2, 306)] I R Q1) (h : ∀ z I2 R2, Q1 (0, z) I2 R2 → PN X d mX11_goes 208 [(2, 306), (9, 0), (9, 0), (9, 0), (0, x4), (9, 0), (0, x6)] [(0, z), (0, x6)] I2 R2 Q) : PN X d mX11_goes 202 [(2, 306), (9, 0), (9, 0), (9, 0), (0, x4), (9, 0), (0, x6)] [] I R Q := by
  refine P_iload (n := 6) (q := 204) rfl rfl (by decide +kernel) ?_
  refine P_aload_n (n := 0) (q := 205) rfl rfl (by decide +kernel) ?_
  refine P_invV (As := []) (q := 208) oX11_personMany rfl kM306 kX11_420 e1 hMF (Nat.le_of_ble_eq_true rfl) hc rfl (by decide +kernel) (fun z I2 R2 hq => ?_)
  exact (h z I2 R2 hq)
theorem S_X11_goes_208 {X : CX} {d : Nat} {x4 x6 o0 o1 : Int} {I R : PF} {Q : PV → PF → PF → Prop} (c1 : -2147483648 ≤ o0 ∧ o0 < 2147483648) (c2 : -2147483648 ≤ o1 ∧ o1 < 2147483648) (h1 : o1 ≤ o0 → PN X d mX11_goes 249 [(2, 306), (9, 0), (9, 0), (9, 0), (0, x4)] [] I R Q) (h2 : o0 < o1 → PN X d mX11_goes 211 [(2, 306), (9, 0), (9, 0), (9, 0), (0, x4), (9, 0), (0, x6)] [] I R Q) : PN X d mX11_goes 208 [(2, 306), (9, 0), (9, 0), (9, 0), (0, x4), (9, 0), (0, x6)] [(0, o1), (0, o0)] I R Q := by
  refine B_icmp_ge (off := 41) (t := 249) (q := 211) c1 c2 (by decide) rfl (by decide +kernel) ?_ ?_
  · exact fun g9 => (PW_sub (ls' := [(2, 306), (9, 0), (9, 0), (9, 0), (0, x4)]) ⟨Or.inr rfl, Or.inl rfl, Or.inl rfl, Or.inl rfl, Or.inr rfl, trivial⟩ (h1 g9))
  · exact fun g9 => (h2 g9)
theorem S_X11_goes_211 {X : CX} {d : Nat} {x4 x6 : Int} {I R : PF} {Q : PV → PF → PF → Prop} (h : PN X d mX11_goes 214 [(2, 306), (9, 0), (9, 0), (9, 0), (0, x4), (9, 0), (0, x6), (0, 0)] [] I R Q) : PN X d mX11_goes 211 [(2, 306), (9, 0), (9, 0), (9, 0), (0, x4), (9, 0), (0, x6)] [] I R Q := by
  refine P_iconst (n := 0) (q := 212) rfl (by decide +kernel) ?_
  refine P_istore (n := 7) (by decide) (q := 214) rfl (by decide +kernel) ?_
  exact h
theorem S_X11_goes_214 {X : CX} {d : Nat} {x4 x6 x7 : Int} {I R : PF} {Q : PV → PF → PF → Prop} (hs : Shp R) (b1 : (0 : Int) ≤ (25 + (4 * x6)) ∧ (25 + (4 * x6)) < 48) (c1 : -2147483648 ≤ x7 ∧ x7 < 2147483648) (c2 : -2147483648 ≤ (I 342 (25 + (4 * x6))) ∧ (I 342 (25 + (4 * x6))) < 2147483648) (h1 : (I 342 (25 + (4 * x6))) ≤ x7 → PN X d mX11_goes 243 [(2, 306), (9, 0), (9, 0), (9, 0), (0, x4), (9, 0), (0, x6)] [] I R Q) (h2 : x7 < (I 342 (25 + (4 * x6))) → PN X d mX11_goes 231 [(2, 306), (9, 0), (9, 0), (9, 0), (0, x4), (9, 0), (0, x6), (0, x7)] [] I R Q) : PN X d mX11_goes 214 [(2, 306), (9, 0), (9, 0), (9, 0), (0, x4), (9, 0), (0, x6), (0, x7)] [] I R Q := by
  refine P_iload (n := 7) (q := 216) rfl rfl (by decide +kernel) ?_
  refine P_aload_n (n := 0) (q := 217) rfl rfl (by decide +kernel) ?_
  refine B_getfR (q := 220) fX11_226 kM306 (rM306_45 hs) rfl (by decide +kernel) ?_
  refine P_bipush (n := 25) (q := 222) rfl rfl (by decide +kernel) ?_
  refine P_iconst (n := 4) (q := 223) rfl (by decide +kernel) ?_
  refine P_iload (n := 6) (q := 225) rfl rfl (by decide +kernel) ?_
  refine P_imul (q := 226) rfl (by decide +kernel) ?_
  refine P_iadd (q := 227) rfl (by decide +kernel) ?_
  refine B_iaload (q := 228) kM342 nM342 (by decide) b1 rfl (by decide +kernel) ?_
  refine B_icmp_ge (off := 15) (t := 243) (q := 231) c1 c2 (by decide) rfl (by decide +kernel) ?_ ?_
  · exact fun g9 => (PW_sub (ls' := [(2, 306), (9, 0), (9, 0), (9, 0), (0, x4), (9, 0), (0, x6)]) ⟨Or.inr rfl, Or.inl rfl, Or.inl rfl, Or.inl rfl, Or.inr rfl, Or.inl rfl, Or.inr rfl, trivial⟩ (h1 g9))
  · exact fun g9 => (h2 g9)
theorem S_X11_goes_231 {X : CX} {d d1 : Nat} {x4 x6 x7 : Int} {I R : PF} {Q Q1 : PV → PF → PF → Prop} (e1 : d1 + 1 ≤ d) (hc : CN X d1 mX11_steps [(2, 306), (0, x6)] I R Q1) (h : ∀ z I2 R2, Q1 (9, z) I2 R2 → PN X d mX11_goes 237 [(2, 306), (9, 0), (9, 0), (9, 0), (0, x4), (9, 0), (0, x6), (0, x7)] [] I2 R2 Q) : PN X d mX11_goes 231 [(2, 306), (9, 0), (9, 0), (9, 0), (0, x4), (9, 0), (0, x6), (0, x7)] [] I R Q := by
  refine P_aload_n (n := 0) (q := 232) rfl rfl (by decide +kernel) ?_
  refine P_iload (n := 6) (q := 234) rfl rfl (by decide +kernel) ?_
  refine P_invV (As := [(0, x6)]) (q := 237) oX11_steps rfl kM306 kX11_509 e1 hMF (Nat.le_of_ble_eq_true rfl) hc rfl (by decide +kernel) (fun z I2 R2 hq => ?_)
  exact (h z I2 R2 hq)
theorem S_X11_goes_237 {X : CX} {d : Nat} {x4 x6 x7 : Int} {I R : PF} {Q : PV → PF → PF → Prop} (h : PN X d mX11_goes 214 [(2, 306), (9, 0), (9, 0), (9, 0), (0, x4), (9, 0), (0, x6), (0, (x7 + 1))] [] I R Q) : PN X d mX11_goes 237 [(2, 306), (9, 0), (9, 0), (9, 0), (0, x4), (9, 0), (0, x6), (0, x7)] [] I R Q := by
  refine P_iinc (n := 7) (a := 1) (by decide) rfl (q := 240) rfl (by decide +kernel) ?_
  refine P_goto (off := (-26)) (t := 214) (by decide) (by decide +kernel) ?_
  exact h
theorem S_X11_goes_243 {X : CX} {d : Nat} {x4 x6 : Int} {I R : PF} {Q : PV → PF → PF → Prop} (h : PN X d mX11_goes 202 [(2, 306), (9, 0), (9, 0), (9, 0), (0, x4), (9, 0), (0, (x6 + 1))] [] I R Q) : PN X d mX11_goes 243 [(2, 306), (9, 0), (9, 0), (9, 0), (0, x4), (9, 0), (0, x6)] [] I R Q := by
  refine P_iinc (n := 6) (a := 1) (by decide) rfl (q := 246) rfl (by decide +kernel) ?_
  refine P_goto (off := (-44)) (t := 202) (by decide) (by decide +kernel) ?_
  exact (PW_sub (ls' := [(2, 306), (9, 0), (9, 0), (9, 0), (0, x4), (9, 0), (0, (x6 + 1))]) ⟨Or.inr rfl, Or.inl rfl, Or.inl rfl, Or.inl rfl, Or.inr rfl, Or.inl rfl, Or.inr rfl, trivial⟩ h)
theorem S_X11_goes_249 {X : CX} {d d1 : Nat} {x4 : Int} {I R : PF} {Q Q1 : PV → PF → PF → Prop} (e1 : d1 + 1 ≤ d) (hc : CN X d1 mX11_getter [(2, 306)] I R Q1) (h : ∀ z I2 R2, Q1 (0, z) I2 R2 → PN X d mX11_goes 254 [(2, 306), (9, 0), (9, 0), (9, 0), (0, x4)] [(0, z), (2, 306)] I2 R2 Q) : PN X d mX11_goes 249 [(2, 306), (9, 0), (9, 0), (9, 0), (0, x4)] [] I R Q := by
  refine P_aload_n (n := 0) (q := 250) rfl rfl (by decide +kernel) ?_
  refine P_aload_n (n := 0) (q := 251) rfl rfl (by decide +kernel) ?_
  refine P_invV (As := []) (q := 254) oX11_getter rfl kM306 kX11_512 e1 hMF (Nat.le_of_ble_eq_true rfl) hc rfl (by decide +kernel) (fun z I2 R2 hq => ?_)
  exact (PW_sub (ls' := [(2, 306), (9, 0), (9, 0), (9, 0), (0, x4)]) ⟨Or.inr rfl, Or.inl rfl, Or.inl rfl, Or.inl rfl, Or.inr rfl, trivial⟩ (h z I2 R2 hq))
theorem S_X11_goes_254 {X : CX} {d : Nat} {x4 o1 : Int} {I R : PF} {Q : PV → PF → PF → Prop} (h : PN X d mX11_goes 116 [(2, 306), (9, 0), (9, 0), (9, 0), (0, x4)] [] (u2 I 306 69 o1) R Q) : PN X d mX11_goes 254 [(2, 306), (9, 0), (9, 0), (9, 0), (0, x4)] [(0, o1), (2, 306)] I R Q := by
  refine P_putI (q := 257) wX11_485 (fun h => by cases h) kM306 rfl (by decide +kernel) ?_
  refine P_goto (off := (-141)) (t := 116) (by decide) (by decide +kernel) ?_
  exact (PW_sub (ls' := [(2, 306), (9, 0), (9, 0), (9, 0), (0, x4)]) ⟨Or.inr rfl, Or.inl rfl, Or.inl rfl, Or.inl rfl, Or.inr rfl, trivial⟩ h)
theorem S_X11_goes_260 {X : CX} {d : Nat} {I R : PF} {Q : PV → PF → PF → Prop} (h : Q (9, 0) I R) : PN X d mX11_goes 260 [] [] I R Q := by
  refine P_vret rfl (by decide +kernel) h
theorem S_X11_has_0 {X : CX} {d : Nat} {x1 : Int} {I R : PF} {Q : PV → PF → PF → Prop} (c1 : -2147483648 ≤ x1 ∧ x1 < 2147483648) (h0 : x1 = 0 → PN X d mX11_has 64 [(2, 306), (0, x1)] [] I R Q) (h1 : x1 = 1 → PN X d mX11_has 64 [(2, 306), (0, x1)] [] I R Q) (h2 : x1 = 2 → PN X d mX11_has 73 [(2, 306), (0, x1)] [] I R Q) (h3 : x1 = 3 → PN X d mX11_has 73 [(2, 306), (0, x1)] [] I R Q) (h4 : x1 = 4 → PN X d mX11_has 73 [(2, 306), (0, x1)] [] I R Q) (h5 : x1 = 5 → PN X d mX11_has 84 [(2, 306)] [] I R Q) (h6 : x1 = 6 → PN X d mX11_has 91 [(2, 306)] [] I R Q) (h7 : x1 = 7 → PN X d mX11_has 98 [(2, 306)] [] I R Q) (h8 : x1 = 8 → PN X d mX11_has 109 [(2, 306)] [] I R Q) (h9 : x1 = 9 → PN X d mX11_has 116 [(2, 306)] [] I R Q) (h10 : x1 = 10 → PN X d mX11_has 124 [(2, 306)] [] I R Q) (h11 : x1 = 11 → PN X d mX11_has 129 [(2, 306)] [] I R Q) (hd : x1 < 0 ∨ 11 < x1 → PN X d mX11_has 134 [] [] I R Q) : PN X d mX11_has 0 [(2, 306), (0, x1)] [] I R Q := by
  refine P_iload_n (n := 1) (q := 1) rfl rfl (by decide +kernel) ?_
  rcases tab_cases (lo := 0) (n := 12) x1 with e9 | ⟨k9, hk9, e9⟩
  · exact P_tableOut (dflt := 133) (lo := 0) (hi := 11) (offs := #[63, 63, 72, 72, 72, 83, 90, 97, 108, 115, 123, 128]) (len := 63) (t := 134) (by decide +kernel) (by rw [w_of c1]; exact e9) (by decide) (PW_sub (ls' := []) trivial (hd e9))
  · match k9, hk9, e9 with
    | 0, _, e9 => exact P_tableIn (dflt := 133) (lo := 0) (hi := 11) (offs := #[63, 63, 72, 72, 72, 83, 90, 97, 108, 115, 123, 128]) (len := 63) (off := 63) (t := 64) (by decide +kernel) (by rw [w_of c1, e9]; decide) (by rw [w_of c1, e9]; decide) (by rw [w_of c1, e9]; rfl) (by decide) (h0 (e9.trans (by decide)))
    | 1, _, e9 => exact P_tableIn (dflt := 133) (lo := 0) (hi := 11) (offs := #[63, 63, 72, 72, 72, 83, 90, 97, 108, 115, 123, 128]) (len := 63) (off := 63) (t := 64) (by decide +kernel) (by rw [w_of c1, e9]; decide) (by rw [w_of c1, e9]; decide) (by rw [w_of c1, e9]; rfl) (by decide) (h1 (e9.trans (by decide)))
    | 2, _, e9 => exact P_tableIn (dflt := 133) (lo := 0) (hi := 11) (offs := #[63, 63, 72, 72, 72, 83, 90, 97, 108, 115, 123, 128]) (len := 63) (off := 72) (t := 73) (by decide +kernel) (by rw [w_of c1, e9]; decide) (by rw [w_of c1, e9]; decide) (by rw [w_of c1, e9]; rfl) (by decide) (h2 (e9.trans (by decide)))
    | 3, _, e9 => exact P_tableIn (dflt := 133) (lo := 0) (hi := 11) (offs := #[63, 63, 72, 72, 72, 83, 90, 97, 108, 115, 123, 128]) (len := 63) (off := 72) (t := 73) (by decide +kernel) (by rw [w_of c1, e9]; decide) (by rw [w_of c1, e9]; decide) (by rw [w_of c1, e9]; rfl) (by decide) (h3 (e9.trans (by decide)))
    | 4, _, e9 => exact P_tableIn (dflt := 133) (lo := 0) (hi := 11) (offs := #[63, 63, 72, 72, 72, 83, 90, 97, 108, 115, 123, 128]) (len := 63) (off := 72) (t := 73) (by decide +kernel) (by rw [w_of c1, e9]; decide) (by rw [w_of c1, e9]; decide) (by rw [w_of c1, e9]; rfl) (by decide) (h4 (e9.trans (by decide)))
    | 5, _, e9 => exact P_tableIn (dflt := 133) (lo := 0) (hi := 11) (offs := #[63, 63, 72, 72, 72, 83, 90, 97, 108, 115, 123, 128]) (len := 63) (off := 83) (t := 84) (by decide +kernel) (by rw [w_of c1, e9]; decide) (by rw [w_of c1, e9]; decide) (by rw [w_of c1, e9]; rfl) (by decide) (PW_sub (ls' := [(2, 306)]) ⟨Or.inr rfl, trivial⟩ (h5 (e9.trans (by decide))))
    | 6, _, e9 => exact P_tableIn (dflt := 133) (lo := 0) (hi := 11) (offs := #[63, 63, 72, 72, 72, 83, 90, 97, 108, 115, 123, 128]) (len := 63) (off := 90) (t := 91) (by decide +kernel) (by rw [w_of c1, e9]; decide) (by rw [w_of c1, e9]; decide) (by rw [w_of c1, e9]; rfl) (by decide) (PW_sub (ls' := [(2, 306)]) ⟨Or.inr rfl, trivial⟩ (h6 (e9.trans (by decide))))
    | 7, _, e9 => exact P_tableIn (dflt := 133) (lo := 0) (hi := 11) (offs := #[63, 63, 72, 72, 72, 83, 90, 97, 108, 115, 123, 128]) (len := 63) (off := 97) (t := 98) (by decide +kernel) (by rw [w_of c1, e9]; decide) (by rw [w_of c1, e9]; decide) (by rw [w_of c1, e9]; rfl) (by decide) (PW_sub (ls' := [(2, 306)]) ⟨Or.inr rfl, trivial⟩ (h7 (e9.trans (by decide))))
    | 8, _, e9 => exact P_tableIn (dflt := 133) (lo := 0) (hi := 11) (offs := #[63, 63, 72, 72, 72, 83, 90, 97, 108, 115, 123, 128]) (len := 63) (off := 108) (t := 109) (by decide +kernel) (by rw [w_of c1, e9]; decide) (by rw [w_of c1, e9]; decide) (by rw [w_of c1, e9]; rfl) (by decide) (PW_sub (ls' := [(2, 306)]) ⟨Or.inr rfl, trivial⟩ (h8 (e9.trans (by decide))))
    | 9, _, e9 => exact P_tableIn (dflt := 133) (lo := 0) (hi := 11) (offs := #[63, 63, 72, 72, 72, 83, 90, 97, 108, 115, 123, 128]) (len := 63) (off := 115) (t := 116) (by decide +kernel) (by rw [w_of c1, e9]; decide) (by rw [w_of c1, e9]; decide) (by rw [w_of c1, e9]; rfl) (by decide) (PW_sub (ls' := [(2, 306)]) ⟨Or.inr rfl, trivial⟩ (h9 (e9.trans (by decide))))
    | 10, _, e9 => exact P_tableIn (dflt := 133) (lo := 0) (hi := 11) (offs := #[63, 63, 72, 72, 72, 83, 90, 97, 108, 115, 123, 128]) (len := 63) (off := 123) (t := 124) (by decide +kernel) (by rw [w_of c1, e9]; decide) (by rw [w_of c1, e9]; decide) (by rw [w_of c1, e9]; rfl) (by decide) (PW_sub (ls' := [(2, 306)]) ⟨Or.inr rfl, trivial⟩ (h10 (e9.trans (by decide))))
    | 11, _, e9 => exact P_tableIn (dflt := 133) (lo := 0) (hi := 11) (offs := #[63, 63, 72, 72, 72, 83, 90, 97, 108, 115, 123, 128]) (len := 63) (off := 128) (t := 129) (by decide +kernel) (by rw [w_of c1, e9]; decide) (by rw [w_of c1, e9]; decide) (by rw [w_of c1, e9]; rfl) (by decide) (PW_sub (ls' := [(2, 306)]) ⟨Or.inr rfl, trivial⟩ (h11 (e9.trans (by decide))))
theorem S_X11_has_64 {X : CX} {d : Nat} {x1 : Int} {I R : PF} {Q : PV → PF → PF → Prop} (hs : Shp R) (b1 : (0 : Int) ≤ (5 + x1) ∧ (5 + x1) < 10) (h : Q (0, (I 341 (5 + x1))) I R) : PN X d mX11_has 64 [(2, 306), (0, x1)] [] I R Q := by
  refine P_aload_n (n := 0) (q := 65) rfl rfl (by decide +kernel) ?_
  refine B_getfR (q := 68) fX11_185 kM306 (rM306_44 hs) rfl (by decide +kernel) ?_
  refine P_iconst (n := 5) (q := 69) rfl (by decide +kernel) ?_
  refine P_iload_n (n := 1) (q := 70) rfl rfl (by decide +kernel) ?_
  refine P_iadd (q := 71) rfl (by decide +kernel) ?_
  refine B_iaload (q := 72) kM341 nM341 (by decide) b1 rfl (by decide +kernel) ?_
  refine P_iret rfl (by decide +kernel) h
theorem S_X11_has_73 {X : CX} {d : Nat} {x1 : Int} {I R : PF} {Q : PV → PF → PF → Prop} (hs : Shp R) (b1 : (0 : Int) ≤ ((3 + x1) - 2) ∧ ((3 + x1) - 2) < 6) (h : Q (0, (I 339 ((3 + x1) - 2))) I R) : PN X d mX11_has 73 [(2, 306), (0, x1)] [] I R Q := by
  refine P_aload_n (n := 0) (q := 74) rfl rfl (by decide +kernel) ?_
  refine B_getfR (q := 77) fX11_166 kM306 (rM306_42 hs) rfl (by decide +kernel) ?_
  refine P_iconst (n := 3) (q := 78) rfl (by decide +kernel) ?_
  refine P_iload_n (n := 1) (q := 79) rfl rfl (by decide +kernel) ?_
  refine P_iadd (q := 80) rfl (by decide +kernel) ?_
  refine P_iconst (n := 2) (q := 81) rfl (by decide +kernel) ?_
  refine P_isub (q := 82) rfl (by decide +kernel) ?_
  refine B_iaload (q := 83) kM339 nM339 (by decide) b1 rfl (by decide +kernel) ?_
  refine P_iret rfl (by decide +kernel) h
theorem S_X11_has_84 {X : CX} {d : Nat} {I R : PF} {Q : PV → PF → PF → Prop} (hs : Shp R) (h : Q (0, (I 348 0)) I R) : PN X d mX11_has 84 [(2, 306)] [] I R Q := by
  refine P_aload_n (n := 0) (q := 85) rfl rfl (by decide +kernel) ?_
  refine B_getfR (q := 88) fX11_303 kM306 (rM306_59 hs) rfl (by decide +kernel) ?_
  refine P_iconst (n := 0) (q := 89) rfl (by decide +kernel) ?_
  refine B_iaload (q := 90) kM348 nM348 (by decide) ⟨by decide, by decide⟩ rfl (by decide +kernel) ?_
  refine P_iret rfl (by decide +kernel) h
theorem S_X11_has_91 {X : CX} {d : Nat} {I R : PF} {Q : PV → PF → PF → Prop} (hs : Shp R) (h : Q (0, (I 348 1)) I R) : PN X d mX11_has 91 [(2, 306)] [] I R Q := by
  refine P_aload_n (n := 0) (q := 92) rfl rfl (by decide +kernel) ?_
  refine B_getfR (q := 95) fX11_303 kM306 (rM306_59 hs) rfl (by decide +kernel) ?_
  refine P_iconst (n := 1) (q := 96) rfl (by decide +kernel) ?_
  refine B_iaload (q := 97) kM348 nM348 (by decide) ⟨by decide, by decide⟩ rfl (by decide +kernel) ?_
  refine P_iret rfl (by decide +kernel) h
theorem S_X11_has_98 {X : CX} {d d1 : Nat} {I R : PF} {Q Q1 : PV → PF → PF → Prop} (hs : Shp R) (e1 : d1 + 1 ≤ d) (hc : CN X d1 mX11_lawOf [(2, 306), (0, (I 348 1))] I R Q1) (h : ∀ z I2 R2, Q1 (0, z) I2 R2 → PN X d mX11_has 108 [] [(0, z)] I2 R2 Q) : PN X d mX11_has 98 [(2, 306)] [] I R Q := by
  refine P_aload_n (n := 0) (q := 99) rfl rfl (by decide +kernel) ?_
  refine P_aload_n (n := 0) (q := 100) rfl rfl (by decide +kernel) ?_
  refine B_getfR (q := 103) fX11_303 kM306 (rM306_59 hs) rfl (by decide +kernel) ?_
  refine P_iconst (n := 1) (q := 104) rfl (by decide +kernel) ?_
  refine B_iaload (q := 105) kM348 nM348 (by decide) ⟨by decide, by decide⟩ rfl (by decide +kernel) ?_
  refine P_invV (As := [(0, (I 348 1))]) (q := 108) oX11_lawOf rfl kM306 kX11_528 e1 hMF (Nat.le_of_ble_eq_true rfl) hc rfl (by decide +kernel) (fun z I2 R2 hq => ?_)
  exact (PW_sub (ls' := []) trivial (h z I2 R2 hq))
theorem S_X11_has_108 {X : CX} {d : Nat} {o0 : Int} {I R : PF} {Q : PV → PF → PF → Prop} (h : Q (0, o0) I R) : PN X d mX11_has 108 [] [(0, o0)] I R Q := by
  refine P_iret rfl (by decide +kernel) h
theorem S_X11_has_109 {X : CX} {d : Nat} {I R : PF} {Q : PV → PF → PF → Prop} (hs : Shp R) (h : Q (0, (I 348 2)) I R) : PN X d mX11_has 109 [(2, 306)] [] I R Q := by
  refine P_aload_n (n := 0) (q := 110) rfl rfl (by decide +kernel) ?_
  refine B_getfR (q := 113) fX11_303 kM306 (rM306_59 hs) rfl (by decide +kernel) ?_
  refine P_iconst (n := 2) (q := 114) rfl (by decide +kernel) ?_
  refine B_iaload (q := 115) kM348 nM348 (by decide) ⟨by decide, by decide⟩ rfl (by decide +kernel) ?_
  refine P_iret rfl (by decide +kernel) h
theorem S_X11_has_116 {X : CX} {d : Nat} {I R : PF} {Q : PV → PF → PF → Prop} (hs : Shp R) (h : Q (0, (I 348 33)) I R) : PN X d mX11_has 116 [(2, 306)] [] I R Q := by
  refine P_aload_n (n := 0) (q := 117) rfl rfl (by decide +kernel) ?_
  refine B_getfR (q := 120) fX11_303 kM306 (rM306_59 hs) rfl (by decide +kernel) ?_
  refine P_bipush (n := 33) (q := 122) rfl rfl (by decide +kernel) ?_
  refine B_iaload (q := 123) kM348 nM348 (by decide) ⟨by decide, by decide⟩ rfl (by decide +kernel) ?_
  refine P_iret rfl (by decide +kernel) h
theorem S_X11_has_124 {X : CX} {d : Nat} {I R : PF} {Q : PV → PF → PF → Prop} (h : Q (0, (I 306 73)) I R) : PN X d mX11_has 124 [(2, 306)] [] I R Q := by
  refine P_aload_n (n := 0) (q := 125) rfl rfl (by decide +kernel) ?_
  refine P_getf (q := 128) fX11_309 kM306 rfl (by decide +kernel) ?_
  refine P_iret rfl (by decide +kernel) h
theorem S_X11_has_129 {X : CX} {d : Nat} {I R : PF} {Q : PV → PF → PF → Prop} (h : Q (0, (I 306 76)) I R) : PN X d mX11_has 129 [(2, 306)] [] I R Q := by
  refine P_aload_n (n := 0) (q := 130) rfl rfl (by decide +kernel) ?_
  refine P_getf (q := 133) fX11_306 kM306 rfl (by decide +kernel) ?_
  refine P_iret rfl (by decide +kernel) h
theorem S_X11_has_134 {X : CX} {d : Nat} {I R : PF} {Q : PV → PF → PF → Prop} (h : Q (0, (-1)) I R) : PN X d mX11_has 134 [] [] I R Q := by
  refine P_iconst (n := (-1)) (q := 135) rfl (by decide +kernel) ?_
  refine P_iret rfl (by decide +kernel) h
theorem S_X11_hatless_0 {X : CX} {d : Nat} {I R : PF} {Q : PV → PF → PF → Prop} (c1 : -2147483648 ≤ (I 306 55) ∧ (I 306 55) < 2147483648) (h1 : (I 306 55) ≠ 0 → PN X d mX11_hatless 9 [(2, 306)] [] I R Q) (h2 : (I 306 55) = 0 → PN X d mX11_hatless 7 [] [] I R Q) : PN X d mX11_hatless 0 [(2, 306)] [] I R Q := by
  refine P_aload_n (n := 0) (q := 1) rfl rfl (by decide +kernel) ?_
  refine P_getf (q := 4) fX11_296 kM306 rfl (by decide +kernel) ?_
  refine B_if_ne (off := 5) (t := 9) (q := 7) c1 (by decide) rfl (by decide +kernel) ?_ ?_
  · exact fun g9 => (h1 g9)
  · exact fun g9 => (PW_sub (ls' := []) trivial (h2 g9))
theorem S_X11_hatless_7 {X : CX} {d : Nat} {I R : PF} {Q : PV → PF → PF → Prop} (h : Q (0, (-1)) I R) : PN X d mX11_hatless 7 [] [] I R Q := by
  refine P_iconst (n := (-1)) (q := 8) rfl (by decide +kernel) ?_
  refine P_iret rfl (by decide +kernel) h
theorem S_X11_hatless_9 {X : CX} {d d1 : Nat} {I R : PF} {Q Q1 : PV → PF → PF → Prop} (e1 : d1 + 1 ≤ d) (hc : CN X d1 mX11_putsAside [(2, 306)] I R Q1) (h : ∀ z I2 R2, Q1 (9, z) I2 R2 → PN X d mX11_hatless 15 [(2, 306), (0, (-1))] [] I2 R2 Q) : PN X d mX11_hatless 9 [(2, 306)] [] I R Q := by
  refine P_iconst (n := (-1)) (q := 10) rfl (by decide +kernel) ?_
  refine P_istore_n (n := 1) (by decide) (q := 11) rfl (by decide +kernel) ?_
  refine P_aload_n (n := 0) (q := 12) rfl rfl (by decide +kernel) ?_
  refine P_invV (As := []) (q := 15) oX11_putsAside rfl kM306 kX11_568 e1 hMF (Nat.le_of_ble_eq_true rfl) hc rfl (by decide +kernel) (fun z I2 R2 hq => ?_)
  exact (h z I2 R2 hq)
theorem S_X11_hatless_15 {X : CX} {d : Nat} {x1 : Int} {I R : PF} {Q : PV → PF → PF → Prop} (h : PN X d mX11_hatless 17 [(2, 306), (0, x1), (0, 1)] [] I R Q) : PN X d mX11_hatless 15 [(2, 306), (0, x1)] [] I R Q := by
  refine P_iconst (n := 1) (q := 16) rfl (by decide +kernel) ?_
  refine P_istore_n (n := 2) (by decide) (q := 17) rfl (by decide +kernel) ?_
  exact h
theorem S_X11_hatless_17 {X : CX} {d : Nat} {x1 x2 : Int} {I R : PF} {Q : PV → PF → PF → Prop} (c1 : -2147483648 ≤ x2 ∧ x2 < 2147483648) (h1 : 60 < x2 → PN X d mX11_hatless 63 [(2, 306), (0, x1)] [] I R Q) (h2 : x2 ≤ 60 → PN X d mX11_hatless 23 [(2, 306), (0, x1), (0, x2)] [] I R Q) : PN X d mX11_hatless 17 [(2, 306), (0, x1), (0, x2)] [] I R Q := by
  refine P_iload_n (n := 2) (q := 18) rfl rfl (by decide +kernel) ?_
  refine P_bipush (n := 60) (q := 20) rfl rfl (by decide +kernel) ?_
  refine B_icmp_gt (off := 43) (t := 63) (q := 23) c1 ⟨by decide, by decide⟩ (by decide) rfl (by decide +kernel) ?_ ?_
  · exact fun g9 => (PW_sub (ls' := [(2, 306), (0, x1)]) ⟨Or.inr rfl, Or.inr rfl, trivial⟩ (h1 g9))
  · exact fun g9 => (h2 g9)
theorem S_X11_hatless_23 {X : CX} {d : Nat} {x1 x2 : Int} {I R : PF} {Q : PV → PF → PF → Prop} (c1 : -2147483648 ≤ x1 ∧ x1 < 2147483648) (h1 : x1 ≠ (-1) → PN X d mX11_hatless 63 [(2, 306), (0, x1)] [] I R Q) (h2 : x1 = (-1) → PN X d mX11_hatless 28 [(2, 306), (0, x1), (0, x2)] [] I R Q) : PN X d mX11_hatless 23 [(2, 306), (0, x1), (0, x2)] [] I R Q := by
  refine P_iload_n (n := 1) (q := 24) rfl rfl (by decide +kernel) ?_
  refine P_iconst (n := (-1)) (q := 25) rfl (by decide +kernel) ?_
  refine B_icmp_ne (off := 38) (t := 63) (q := 28) c1 ⟨by decide, by decide⟩ (by decide) rfl (by decide +kernel) ?_ ?_
  · exact fun g9 => (PW_sub (ls' := [(2, 306), (0, x1)]) ⟨Or.inr rfl, Or.inr rfl, trivial⟩ (h1 g9))
  · exact fun g9 => (h2 g9)
theorem S_X11_hatless_28 {X : CX} {d : Nat} {x1 x2 : Int} {I R : PF} {Q : PV → PF → PF → Prop} (hs : Shp R) (c1 : -2147483648 ≤ (I 348 0) ∧ (I 348 0) < 2147483648) (h1 : 999 ≤ (I 348 0) → PN X d mX11_hatless 63 [(2, 306), (0, x1)] [] I R Q) (h2 : (I 348 0) < 999 → PN X d mX11_hatless 40 [(2, 306), (0, x1), (0, x2)] [] I R Q) : PN X d mX11_hatless 28 [(2, 306), (0, x1), (0, x2)] [] I R Q := by
  refine P_aload_n (n := 0) (q := 29) rfl rfl (by decide +kernel) ?_
  refine B_getfR (q := 32) fX11_303 kM306 (rM306_59 hs) rfl (by decide +kernel) ?_
  refine P_iconst (n := 0) (q := 33) rfl (by decide +kernel) ?_
  refine B_iaload (q := 34) kM348 nM348 (by decide) ⟨by decide, by decide⟩ rfl (by decide +kernel) ?_
  refine P_sipush (n := 999) (q := 37) rfl rfl (by decide +kernel) ?_
  refine B_icmp_ge (off := 26) (t := 63) (q := 40) c1 ⟨by decide, by decide⟩ (by decide) rfl (by decide +kernel) ?_ ?_
  · exact fun g9 => (PW_sub (ls' := [(2, 306), (0, x1)]) ⟨Or.inr rfl, Or.inr rfl, trivial⟩ (h1 g9))
  · exact fun g9 => (h2 g9)
theorem S_X11_hatless_40 {X : CX} {d d1 : Nat} {x1 x2 : Int} {I R : PF} {Q Q1 : PV → PF → PF → Prop} (e1 : d1 + 1 ≤ d) (hc : CN X d1 mX11_noonGoes [(2, 306), (0, 0)] I R Q1) (h : ∀ z I2 R2, Q1 (9, z) I2 R2 → PN X d mX11_hatless 45 [(2, 306), (0, x1), (0, x2)] [] I2 R2 Q) : PN X d mX11_hatless 40 [(2, 306), (0, x1), (0, x2)] [] I R Q := by
  refine P_aload_n (n := 0) (q := 41) rfl rfl (by decide +kernel) ?_
  refine P_iconst (n := 0) (q := 42) rfl (by decide +kernel) ?_
  refine P_invV (As := [(0, 0)]) (q := 45) oX11_noonGoes rfl kM306 kX11_562 e1 hMF (Nat.le_of_ble_eq_true rfl) hc rfl (by decide +kernel) (fun z I2 R2 hq => ?_)
  exact (h z I2 R2 hq)
theorem S_X11_hatless_45 {X : CX} {d : Nat} {x1 x2 : Int} {I R : PF} {Q : PV → PF → PF → Prop} (hs : Shp R) (c1 : -2147483648 ≤ (I 348 1) ∧ (I 348 1) < 2147483648) (h1 : (I 348 1) ≠ (-1) → PN X d mX11_hatless 57 [(2, 306), (0, x1), (0, x2)] [] I R Q) (h2 : (I 348 1) = (-1) → PN X d mX11_hatless 55 [(2, 306), (9, 0), (0, x2)] [] I R Q) : PN X d mX11_hatless 45 [(2, 306), (0, x1), (0, x2)] [] I R Q := by
  refine P_aload_n (n := 0) (q := 46) rfl rfl (by decide +kernel) ?_
  refine B_getfR (q := 49) fX11_303 kM306 (rM306_59 hs) rfl (by decide +kernel) ?_
  refine P_iconst (n := 1) (q := 50) rfl (by decide +kernel) ?_
  refine B_iaload (q := 51) kM348 nM348 (by decide) ⟨by decide, by decide⟩ rfl (by decide +kernel) ?_
  refine P_iconst (n := (-1)) (q := 52) rfl (by decide +kernel) ?_
  refine B_icmp_ne (off := 5) (t := 57) (q := 55) c1 ⟨by decide, by decide⟩ (by decide) rfl (by decide +kernel) ?_ ?_
  · exact fun g9 => (h1 g9)
  · exact fun g9 => (PW_sub (ls' := [(2, 306), (9, 0), (0, x2)]) ⟨Or.inr rfl, Or.inl rfl, Or.inr rfl, trivial⟩ (h2 g9))
theorem S_X11_hatless_55 {X : CX} {d : Nat} {x2 : Int} {I R : PF} {Q : PV → PF → PF → Prop} (h : PN X d mX11_hatless 57 [(2, 306), (0, x2), (0, x2)] [] I R Q) : PN X d mX11_hatless 55 [(2, 306), (9, 0), (0, x2)] [] I R Q := by
  refine P_iload_n (n := 2) (q := 56) rfl rfl (by decide +kernel) ?_
  refine P_istore_n (n := 1) (by decide) (q := 57) rfl (by decide +kernel) ?_
  exact h
theorem S_X11_hatless_57 {X : CX} {d : Nat} {x1 x2 : Int} {I R : PF} {Q : PV → PF → PF → Prop} (h : PN X d mX11_hatless 17 [(2, 306), (0, x1), (0, (x2 + 1))] [] I R Q) : PN X d mX11_hatless 57 [(2, 306), (0, x1), (0, x2)] [] I R Q := by
  refine P_iinc (n := 2) (a := 1) (by decide) rfl (q := 60) rfl (by decide +kernel) ?_
  refine P_goto (off := (-43)) (t := 17) (by decide) (by decide +kernel) ?_
  exact h
theorem S_X11_hatless_63 {X : CX} {d d1 : Nat} {x1 : Int} {I R : PF} {Q Q1 : PV → PF → PF → Prop} (e1 : d1 + 1 ≤ d) (hc : CN X d1 mX11_takesBack [(2, 306)] I R Q1) (h : ∀ z I2 R2, Q1 (9, z) I2 R2 → PN X d mX11_hatless 67 [(9, 0), (0, x1)] [] I2 R2 Q) : PN X d mX11_hatless 63 [(2, 306), (0, x1)] [] I R Q := by
  refine P_aload_n (n := 0) (q := 64) rfl rfl (by decide +kernel) ?_
  refine P_invV (As := []) (q := 67) oX11_takesBack rfl kM306 kX11_574 e1 hMF (Nat.le_of_ble_eq_true rfl) hc rfl (by decide +kernel) (fun z I2 R2 hq => ?_)
  exact (PW_sub (ls' := [(9, 0), (0, x1)]) ⟨Or.inl rfl, Or.inr rfl, trivial⟩ (h z I2 R2 hq))
theorem S_X11_hatless_67 {X : CX} {d : Nat} {x1 : Int} {I R : PF} {Q : PV → PF → PF → Prop} (h : Q (0, x1) I R) : PN X d mX11_hatless 67 [(9, 0), (0, x1)] [] I R Q := by
  refine P_iload_n (n := 1) (q := 68) rfl rfl (by decide +kernel) ?_
  refine P_iret rfl (by decide +kernel) h
theorem S_X11_image_0 {X : CX} {d d1 : Nat} {I R : PF} {Q Q1 : PV → PF → PF → Prop} (hs : Shp R) (c1 : -2147483648 ≤ ((u2 I 306 114 0) 348 0) ∧ ((u2 I 306 114 0) 348 0) < 2147483648) (e1 : d1 + 1 ≤ d) (hc : CN X d1 mX11_writes [(2, 306), (0, (((u2 I 306 114 0) 348 0).tdiv 256))] (u2 I 306 114 0) R Q1) (h : ∀ z I2 R2, Q1 (9, z) I2 R2 → PN X d mX11_image 19 [(2, 306)] [] I2 R2 Q) : PN X d mX11_image 0 [(2, 306)] [] I R Q := by
  refine P_aload_n (n := 0) (q := 1) rfl rfl (by decide +kernel) ?_
  refine P_iconst (n := 0) (q := 2) rfl (by decide +kernel) ?_
  refine P_putI (q := 5) wX11_699 (fun h => by cases h) kM306 rfl (by decide +kernel) ?_
  refine P_aload_n (n := 0) (q := 6) rfl rfl (by decide +kernel) ?_
  refine P_aload_n (n := 0) (q := 7) rfl rfl (by decide +kernel) ?_
  refine B_getfR (q := 10) fX11_303 kM306 (rM306_59 hs) rfl (by decide +kernel) ?_
  refine P_iconst (n := 0) (q := 11) rfl (by decide +kernel) ?_
  refine B_iaload (q := 12) kM348 nM348 (by decide) ⟨by decide, by decide⟩ rfl (by decide +kernel) ?_
  refine P_sipush (n := 256) (q := 15) rfl rfl (by decide +kernel) ?_
  refine B_idiv (q := 16) c1 ⟨by decide, by decide⟩ (by decide) rfl (by decide +kernel) ?_
  refine P_invV (As := [(0, (((u2 I 306 114 0) 348 0).tdiv 256))]) (q := 19) oX11_writes rfl kM306 kX11_702 e1 hMF (Nat.le_of_ble_eq_true rfl) hc rfl (by decide +kernel) (fun z I2 R2 hq => ?_)
  exact (h z I2 R2 hq)
theorem S_X11_image_19 {X : CX} {d d1 : Nat} {I R : PF} {Q Q1 : PV → PF → PF → Prop} (hs : Shp R) (c1 : -2147483648 ≤ (I 348 0) ∧ (I 348 0) < 2147483648) (e1 : d1 + 1 ≤ d) (hc : CN X d1 mX11_writes [(2, 306), (0, ((I 348 0).tmod 256))] I R Q1) (h : ∀ z I2 R2, Q1 (9, z) I2 R2 → PN X d mX11_image 33 [(2, 306)] [] I2 R2 Q) : PN X d mX11_image 19 [(2, 306)] [] I R Q := by
  refine P_aload_n (n := 0) (q := 20) rfl rfl (by decide +kernel) ?_
  refine P_aload_n (n := 0) (q := 21) rfl rfl (by decide +kernel) ?_
  refine B_getfR (q := 24) fX11_303 kM306 (rM306_59 hs) rfl (by decide +kernel) ?_
  refine P_iconst (n := 0) (q := 25) rfl (by decide +kernel) ?_
  refine B_iaload (q := 26) kM348 nM348 (by decide) ⟨by decide, by decide⟩ rfl (by decide +kernel) ?_
  refine P_sipush (n := 256) (q := 29) rfl rfl (by decide +kernel) ?_
  refine B_irem (q := 30) c1 ⟨by decide, by decide⟩ (by decide) rfl (by decide +kernel) ?_
  refine P_invV (As := [(0, ((I 348 0).tmod 256))]) (q := 33) oX11_writes rfl kM306 kX11_702 e1 hMF (Nat.le_of_ble_eq_true rfl) hc rfl (by decide +kernel) (fun z I2 R2 hq => ?_)
  exact (h z I2 R2 hq)
theorem S_X11_image_33 {X : CX} {d d1 : Nat} {I R : PF} {Q Q1 : PV → PF → PF → Prop} (hs : Shp R) (e1 : d1 + 1 ≤ d) (hc : CN X d1 mX11_writes [(2, 306), (0, ((I 348 1) + 1))] I R Q1) (h : ∀ z I2 R2, Q1 (9, z) I2 R2 → PN X d mX11_image 45 [(2, 306)] [] I2 R2 Q) : PN X d mX11_image 33 [(2, 306)] [] I R Q := by
  refine P_aload_n (n := 0) (q := 34) rfl rfl (by decide +kernel) ?_
  refine P_aload_n (n := 0) (q := 35) rfl rfl (by decide +kernel) ?_
  refine B_getfR (q := 38) fX11_303 kM306 (rM306_59 hs) rfl (by decide +kernel) ?_
  refine P_iconst (n := 1) (q := 39) rfl (by decide +kernel) ?_
  refine B_iaload (q := 40) kM348 nM348 (by decide) ⟨by decide, by decide⟩ rfl (by decide +kernel) ?_
  refine P_iconst (n := 1) (q := 41) rfl (by decide +kernel) ?_
  refine P_iadd (q := 42) rfl (by decide +kernel) ?_
  refine P_invV (As := [(0, ((I 348 1) + 1))]) (q := 45) oX11_writes rfl kM306 kX11_702 e1 hMF (Nat.le_of_ble_eq_true rfl) hc rfl (by decide +kernel) (fun z I2 R2 hq => ?_)
  exact (h z I2 R2 hq)
theorem S_X11_image_45 {X : CX} {d d1 : Nat} {I R : PF} {Q Q1 : PV → PF → PF → Prop} (hs : Shp R) (e1 : d1 + 1 ≤ d) (hc : CN X d1 mX11_writes [(2, 306), (0, (I 348 2))] I R Q1) (h : ∀ z I2 R2, Q1 (9, z) I2 R2 → PN X d mX11_image 55 [(2, 306)] [] I2 R2 Q) : PN X d mX11_image 45 [(2, 306)] [] I R Q := by
  refine P_aload_n (n := 0) (q := 46) rfl rfl (by decide +kernel) ?_
  refine P_aload_n (n := 0) (q := 47) rfl rfl (by decide +kernel) ?_
  refine B_getfR (q := 50) fX11_303 kM306 (rM306_59 hs) rfl (by decide +kernel) ?_
  refine P_iconst (n := 2) (q := 51) rfl (by decide +kernel) ?_
  refine B_iaload (q := 52) kM348 nM348 (by decide) ⟨by decide, by decide⟩ rfl (by decide +kernel) ?_
  refine P_invV (As := [(0, (I 348 2))]) (q := 55) oX11_writes rfl kM306 kX11_702 e1 hMF (Nat.le_of_ble_eq_true rfl) hc rfl (by decide +kernel) (fun z I2 R2 hq => ?_)
  exact (h z I2 R2 hq)
theorem S_X11_image_55 {X : CX} {d : Nat} {I R : PF} {Q : PV → PF → PF → Prop} (h : PN X d mX11_image 57 [(2, 306), (0, 0)] [] I R Q) : PN X d mX11_image 55 [(2, 306)] [] I R Q := by
  refine P_iconst (n := 0) (q := 56) rfl (by decide +kernel) ?_
  refine P_istore_n (n := 1) (by decide) (q := 57) rfl (by decide +kernel) ?_
  exact h
theorem S_X11_image_57 {X : CX} {d d1 : Nat} {x1 : Int} {I R : PF} {Q Q1 : PV → PF → PF → Prop} (e1 : d1 + 1 ≤ d) (hc : CN X d1 mX11_personMany [(2, 306)] I R Q1) (h : ∀ z I2 R2, Q1 (0, z) I2 R2 → PN X d mX11_image 62 [(2, 306), (0, x1)] [(0, z), (0, x1)] I2 R2 Q) : PN X d mX11_image 57 [(2, 306), (0, x1)] [] I R Q := by
  refine P_iload_n (n := 1) (q := 58) rfl rfl (by decide +kernel) ?_
  refine P_aload_n (n := 0) (q := 59) rfl rfl (by decide +kernel) ?_
  refine P_invV (As := []) (q := 62) oX11_personMany rfl kM306 kX11_420 e1 hMF (Nat.le_of_ble_eq_true rfl) hc rfl (by decide +kernel) (fun z I2 R2 hq => ?_)
  exact (h z I2 R2 hq)
theorem S_X11_image_62 {X : CX} {d : Nat} {x1 o0 o1 : Int} {I R : PF} {Q : PV → PF → PF → Prop} (c1 : -2147483648 ≤ o0 ∧ o0 < 2147483648) (c2 : -2147483648 ≤ o1 ∧ o1 < 2147483648) (h1 : o1 ≤ o0 → PN X d mX11_image 126 [(2, 306)] [] I R Q) (h2 : o0 < o1 → PN X d mX11_image 65 [(2, 306), (0, x1)] [] I R Q) : PN X d mX11_image 62 [(2, 306), (0, x1)] [(0, o1), (0, o0)] I R Q := by
  refine B_icmp_ge (off := 64) (t := 126) (q := 65) c1 c2 (by decide) rfl (by decide +kernel) ?_ ?_
  · exact fun g9 => (PW_sub (ls' := [(2, 306)]) ⟨Or.inr rfl, trivial⟩ (h1 g9))
  · exact fun g9 => (h2 g9)
theorem S_X11_image_65 {X : CX} {d : Nat} {x1 : Int} {I R : PF} {Q : PV → PF → PF → Prop} (h : PN X d mX11_image 67 [(2, 306), (0, x1), (0, 0)] [] I R Q) : PN X d mX11_image 65 [(2, 306), (0, x1)] [] I R Q := by
  refine P_iconst (n := 0) (q := 66) rfl (by decide +kernel) ?_
  refine P_istore_n (n := 2) (by decide) (q := 67) rfl (by decide +kernel) ?_
  exact h
theorem S_X11_image_67 {X : CX} {d : Nat} {x1 x2 : Int} {I R : PF} {Q : PV → PF → PF → Prop} (c1 : -2147483648 ≤ x2 ∧ x2 < 2147483648) (h1 : 4 ≤ x2 → PN X d mX11_image 94 [(2, 306), (0, x1)] [] I R Q) (h2 : x2 < 4 → PN X d mX11_image 72 [(2, 306), (0, x1), (0, x2)] [] I R Q) : PN X d mX11_image 67 [(2, 306), (0, x1), (0, x2)] [] I R Q := by
  refine P_iload_n (n := 2) (q := 68) rfl rfl (by decide +kernel) ?_
  refine P_iconst (n := 4) (q := 69) rfl (by decide +kernel) ?_
  refine B_icmp_ge (off := 25) (t := 94) (q := 72) c1 ⟨by decide, by decide⟩ (by decide) rfl (by decide +kernel) ?_ ?_
  · exact fun g9 => (PW_sub (ls' := [(2, 306), (0, x1)]) ⟨Or.inr rfl, Or.inr rfl, trivial⟩ (h1 g9))
  · exact fun g9 => (h2 g9)
theorem S_X11_image_72 {X : CX} {d d1 : Nat} {x1 x2 : Int} {I R : PF} {Q Q1 : PV → PF → PF → Prop} (hs : Shp R) (b1 : (0 : Int) ≤ ((3 + (5 * x1)) + x2) ∧ ((3 + (5 * x1)) + x2) < 154) (e1 : d1 + 1 ≤ d) (hc : CN X d1 mX11_writes [(2, 306), (0, (I 348 ((3 + (5 * x1)) + x2)))] I R Q1) (h : ∀ z I2 R2, Q1 (9, z) I2 R2 → PN X d mX11_image 88 [(2, 306), (0, x1), (0, x2)] [] I2 R2 Q) : PN X d mX11_image 72 [(2, 306), (0, x1), (0, x2)] [] I R Q := by
  refine P_aload_n (n := 0) (q := 73) rfl rfl (by decide +kernel) ?_
  refine P_aload_n (n := 0) (q := 74) rfl rfl (by decide +kernel) ?_
  refine B_getfR (q := 77) fX11_303 kM306 (rM306_59 hs) rfl (by decide +kernel) ?_
  refine P_iconst (n := 3) (q := 78) rfl (by decide +kernel) ?_
  refine P_iconst (n := 5) (q := 79) rfl (by decide +kernel) ?_
  refine P_iload_n (n := 1) (q := 80) rfl rfl (by decide +kernel) ?_
  refine P_imul (q := 81) rfl (by decide +kernel) ?_
  refine P_iadd (q := 82) rfl (by decide +kernel) ?_
  refine P_iload_n (n := 2) (q := 83) rfl rfl (by decide +kernel) ?_
  refine P_iadd (q := 84) rfl (by decide +kernel) ?_
  refine B_iaload (q := 85) kM348 nM348 (by decide) b1 rfl (by decide +kernel) ?_
  refine P_invV (As := [(0, (I 348 ((3 + (5 * x1)) + x2)))]) (q := 88) oX11_writes rfl kM306 kX11_702 e1 hMF (Nat.le_of_ble_eq_true rfl) hc rfl (by decide +kernel) (fun z I2 R2 hq => ?_)
  exact (h z I2 R2 hq)
theorem S_X11_image_88 {X : CX} {d : Nat} {x1 x2 : Int} {I R : PF} {Q : PV → PF → PF → Prop} (h : PN X d mX11_image 67 [(2, 306), (0, x1), (0, (x2 + 1))] [] I R Q) : PN X d mX11_image 88 [(2, 306), (0, x1), (0, x2)] [] I R Q := by
  refine P_iinc (n := 2) (a := 1) (by decide) rfl (q := 91) rfl (by decide +kernel) ?_
  refine P_goto (off := (-24)) (t := 67) (by decide) (by decide +kernel) ?_
  exact h
theorem S_X11_image_94 {X : CX} {d d1 : Nat} {x1 : Int} {I R : PF} {Q Q1 : PV → PF → PF → Prop} (e1 : d1 + 1 ≤ d) (hc : CN X d1 mX11_woreBy [(2, 306), (0, x1)] I R Q1) (h : ∀ z I2 R2, Q1 (0, z) I2 R2 → PN X d mX11_image 100 [(2, 306), (0, x1)] [(0, z), (2, 306)] I2 R2 Q) : PN X d mX11_image 94 [(2, 306), (0, x1)] [] I R Q := by
  refine P_aload_n (n := 0) (q := 95) rfl rfl (by decide +kernel) ?_
  refine P_aload_n (n := 0) (q := 96) rfl rfl (by decide +kernel) ?_
  refine P_iload_n (n := 1) (q := 97) rfl rfl (by decide +kernel) ?_
  refine P_invV (As := [(0, x1)]) (q := 100) oX11_woreBy rfl kM306 kX11_519 e1 hMF (Nat.le_of_ble_eq_true rfl) hc rfl (by decide +kernel) (fun z I2 R2 hq => ?_)
  exact (PW_sub (ls' := [(2, 306), (0, x1)]) ⟨Or.inr rfl, Or.inr rfl, trivial⟩ (h z I2 R2 hq))
theorem S_X11_image_100 {X : CX} {d d1 : Nat} {x1 o1 : Int} {I R : PF} {Q Q1 : PV → PF → PF → Prop} (c1 : -2147483648 ≤ o1 ∧ o1 < 2147483648) (e1 : d1 + 1 ≤ d) (hc : CN X d1 mX11_writes [(2, 306), (0, (o1.tdiv 256))] I R Q1) (h : ∀ z I2 R2, Q1 (9, z) I2 R2 → PN X d mX11_image 107 [(2, 306), (0, x1)] [] I2 R2 Q) : PN X d mX11_image 100 [(2, 306), (0, x1)] [(0, o1), (2, 306)] I R Q := by
  refine P_sipush (n := 256) (q := 103) rfl rfl (by decide +kernel) ?_
  refine B_idiv (q := 104) c1 ⟨by decide, by decide⟩ (by decide) rfl (by decide +kernel) ?_
  refine P_invV (As := [(0, (o1.tdiv 256))]) (q := 107) oX11_writes rfl kM306 kX11_702 e1 hMF (Nat.le_of_ble_eq_true rfl) hc rfl (by decide +kernel) (fun z I2 R2 hq => ?_)
  exact (PW_sub (ls' := [(2, 306), (0, x1)]) ⟨Or.inr rfl, Or.inr rfl, trivial⟩ (h z I2 R2 hq))
theorem S_X11_image_107 {X : CX} {d d1 : Nat} {x1 : Int} {I R : PF} {Q Q1 : PV → PF → PF → Prop} (e1 : d1 + 1 ≤ d) (hc : CN X d1 mX11_woreBy [(2, 306), (0, x1)] I R Q1) (h : ∀ z I2 R2, Q1 (0, z) I2 R2 → PN X d mX11_image 113 [(2, 306), (0, x1)] [(0, z), (2, 306)] I2 R2 Q) : PN X d mX11_image 107 [(2, 306), (0, x1)] [] I R Q := by
  refine P_aload_n (n := 0) (q := 108) rfl rfl (by decide +kernel) ?_
  refine P_aload_n (n := 0) (q := 109) rfl rfl (by decide +kernel) ?_
  refine P_iload_n (n := 1) (q := 110) rfl rfl (by decide +kernel) ?_
  refine P_invV (As := [(0, x1)]) (q := 113) oX11_woreBy rfl kM306 kX11_519 e1 hMF (Nat.le_of_ble_eq_true rfl) hc rfl (by decide +kernel) (fun z I2 R2 hq => ?_)
  exact (PW_sub (ls' := [(2, 306), (0, x1)]) ⟨Or.inr rfl, Or.inr rfl, trivial⟩ (h z I2 R2 hq))
theorem S_X11_image_113 {X : CX} {d d1 : Nat} {x1 o1 : Int} {I R : PF} {Q Q1 : PV → PF → PF → Prop} (c1 : -2147483648 ≤ o1 ∧ o1 < 2147483648) (e1 : d1 + 1 ≤ d) (hc : CN X d1 mX11_writes [(2, 306), (0, (o1.tmod 256))] I R Q1) (h : ∀ z I2 R2, Q1 (9, z) I2 R2 → PN X d mX11_image 120 [(2, 306), (0, x1)] [] I2 R2 Q) : PN X d mX11_image 113 [(2, 306), (0, x1)] [(0, o1), (2, 306)] I R Q := by
  refine P_sipush (n := 256) (q := 116) rfl rfl (by decide +kernel) ?_
  refine B_irem (q := 117) c1 ⟨by decide, by decide⟩ (by decide) rfl (by decide +kernel) ?_
  refine P_invV (As := [(0, (o1.tmod 256))]) (q := 120) oX11_writes rfl kM306 kX11_702 e1 hMF (Nat.le_of_ble_eq_true rfl) hc rfl (by decide +kernel) (fun z I2 R2 hq => ?_)
  exact (PW_sub (ls' := [(2, 306), (0, x1)]) ⟨Or.inr rfl, Or.inr rfl, trivial⟩ (h z I2 R2 hq))
theorem S_X11_image_120 {X : CX} {d : Nat} {x1 : Int} {I R : PF} {Q : PV → PF → PF → Prop} (h : PN X d mX11_image 57 [(2, 306), (0, (x1 + 1))] [] I R Q) : PN X d mX11_image 120 [(2, 306), (0, x1)] [] I R Q := by
  refine P_iinc (n := 1) (a := 1) (by decide) rfl (q := 123) rfl (by decide +kernel) ?_
  refine P_goto (off := (-66)) (t := 57) (by decide) (by decide +kernel) ?_
  exact (PW_sub (ls' := [(2, 306), (0, (x1 + 1))]) ⟨Or.inr rfl, Or.inr rfl, trivial⟩ h)
theorem S_X11_image_126 {X : CX} {d d1 : Nat} {I R : PF} {Q Q1 : PV → PF → PF → Prop} (hs : Shp R) (e1 : d1 + 1 ≤ d) (hc : CN X d1 mX11_checked [(2, 382), (0, (I 306 114))] I R Q1) (h : ∀ z I2 R2, Q1 (0, z) I2 R2 → PN X d mX11_image 138 [(2, 306)] [(0, z), (2, 306)] I2 R2 Q) : PN X d mX11_image 126 [(2, 306)] [] I R Q := by
  refine P_aload_n (n := 0) (q := 127) rfl rfl (by decide +kernel) ?_
  refine P_aload_n (n := 0) (q := 128) rfl rfl (by decide +kernel) ?_
  refine B_getfR (q := 131) fX11_417 kM306 (rM306_113 hs) rfl (by decide +kernel) ?_
  refine P_aload_n (n := 0) (q := 132) rfl rfl (by decide +kernel) ?_
  refine P_getf (q := 135) fX11_699 kM306 rfl (by decide +kernel) ?_
  refine P_invS (As := [(2, 382), (0, (I 306 114))]) (q := 138) oX11_checked rfl (Or.inl kX11_705) e1 hMF (Nat.le_of_ble_eq_true rfl) hc rfl (by decide +kernel) (fun z I2 R2 hq => ?_)
  exact (PW_sub (ls' := [(2, 306)]) ⟨Or.inr rfl, trivial⟩ (h z I2 R2 hq))
theorem S_X11_image_138 {X : CX} {d d1 : Nat} {o1 : Int} {I R : PF} {Q Q1 : PV → PF → PF → Prop} (e1 : d1 + 1 ≤ d) (hc : CN X d1 mX11_writes [(2, 306), (0, o1)] I R Q1) (h : ∀ z I2 R2, Q1 (9, z) I2 R2 → PN X d mX11_image 141 [(2, 306)] [] I2 R2 Q) : PN X d mX11_image 138 [(2, 306)] [(0, o1), (2, 306)] I R Q := by
  refine P_invV (As := [(0, o1)]) (q := 141) oX11_writes rfl kM306 kX11_702 e1 hMF (Nat.le_of_ble_eq_true rfl) hc rfl (by decide +kernel) (fun z I2 R2 hq => ?_)
  exact (PW_sub (ls' := [(2, 306)]) ⟨Or.inr rfl, trivial⟩ (h z I2 R2 hq))
theorem S_X11_image_141 {X : CX} {d : Nat} {I R : PF} {Q : PV → PF → PF → Prop} (h : Q (0, (I 306 114)) I R) : PN X d mX11_image 141 [(2, 306)] [] I R Q := by
  refine P_aload_n (n := 0) (q := 142) rfl rfl (by decide +kernel) ?_
  refine P_getf (q := 145) fX11_699 kM306 rfl (by decide +kernel) ?_
  refine P_iret rfl (by decide +kernel) h
theorem S_X11_isAhead_0 {X : CX} {d d1 : Nat} {x1 x2 x3 : Int} {I R : PF} {Q Q1 : PV → PF → PF → Prop} (c1 : -2147483648 ≤ x1 ∧ x1 < 2147483648) (c2 : -2147483648 ≤ x2 ∧ x2 < 2147483648) (c3 : -2147483648 ≤ x3 ∧ x3 < 2147483648) (e1 : d1 + 1 ≤ d) (hc : CN X d1 mX11_isIn [(1, x1), (1, x2), (1, x3)] I R Q1) (h : ∀ z I2 R2, Q1 (0, z) I2 R2 → PN X d mX11_isAhead 9 [(2, 306), (0, x1)] [(0, z)] I2 R2 Q) : PN X d mX11_isAhead 0 [(2, 306), (0, x1), (0, x2), (0, x3)] [] I R Q := by
  refine P_iload_n (n := 1) (q := 1) rfl rfl (by decide +kernel) ?_
  refine B_i2l (q := 2) c1 rfl (by decide +kernel) ?_
  refine P_iload_n (n := 2) (q := 3) rfl rfl (by decide +kernel) ?_
  refine B_i2l (q := 4) c2 rfl (by decide +kernel) ?_
  refine P_iload_n (n := 3) (q := 5) rfl rfl (by decide +kernel) ?_
  refine B_i2l (q := 6) c3 rfl (by decide +kernel) ?_
  refine P_invS (As := [(1, x1), (1, x2), (1, x3)]) (q := 9) oX11_isIn rfl (Or.inl kX11_57) e1 hMF (Nat.le_of_ble_eq_true rfl) hc rfl (by decide +kernel) (fun z I2 R2 hq => ?_)
  exact (PW_sub (ls' := [(2, 306), (0, x1)]) ⟨Or.inr rfl, Or.inr rfl, trivial⟩ (h z I2 R2 hq))
theorem S_X11_isAhead_9 {X : CX} {d : Nat} {x1 o0 : Int} {I R : PF} {Q : PV → PF → PF → Prop} (c1 : -2147483648 ≤ o0 ∧ o0 < 2147483648) (h1 : o0 = 0 → PN X d mX11_isAhead 30 [] [] I R Q) (h2 : o0 ≠ 0 → PN X d mX11_isAhead 12 [(2, 306), (0, x1)] [] I R Q) : PN X d mX11_isAhead 9 [(2, 306), (0, x1)] [(0, o0)] I R Q := by
  refine B_if_eq (off := 21) (t := 30) (q := 12) c1 (by decide) rfl (by decide +kernel) ?_ ?_
  · exact fun g9 => (PW_sub (ls' := []) trivial (h1 g9))
  · exact fun g9 => (PW_sub (ls' := [(2, 306), (0, x1)]) ⟨Or.inr rfl, Or.inr rfl, trivial⟩ (h2 g9))
theorem S_X11_isAhead_12 {X : CX} {d : Nat} {x1 : Int} {I R : PF} {Q : PV → PF → PF → Prop} (hs : Shp R) (c1 : -2147483648 ≤ ((I 348 0) + x1) ∧ ((I 348 0) + x1) < 2147483648) (h1 : 999 < ((I 348 0) + x1) → PN X d mX11_isAhead 30 [] [] I R Q) (h2 : ((I 348 0) + x1) ≤ 999 → PN X d mX11_isAhead 26 [] [] I R Q) : PN X d mX11_isAhead 12 [(2, 306), (0, x1)] [] I R Q := by
  refine P_aload_n (n := 0) (q := 13) rfl rfl (by decide +kernel) ?_
  refine B_getfR (q := 16) fX11_303 kM306 (rM306_59 hs) rfl (by decide +kernel) ?_
  refine P_iconst (n := 0) (q := 17) rfl (by decide +kernel) ?_
  refine B_iaload (q := 18) kM348 nM348 (by decide) ⟨by decide, by decide⟩ rfl (by decide +kernel) ?_
  refine P_iload_n (n := 1) (q := 19) rfl rfl (by decide +kernel) ?_
  refine P_iadd (q := 20) rfl (by decide +kernel) ?_
  refine P_sipush (n := 999) (q := 23) rfl rfl (by decide +kernel) ?_
  refine B_icmp_gt (off := 7) (t := 30) (q := 26) c1 ⟨by decide, by decide⟩ (by decide) rfl (by decide +kernel) ?_ ?_
  · exact fun g9 => (PW_sub (ls' := []) trivial (h1 g9))
  · exact fun g9 => (PW_sub (ls' := []) trivial (h2 g9))
theorem S_X11_isAhead_26 {X : CX} {d : Nat} {I R : PF} {Q : PV → PF → PF → Prop} (h : PN X d mX11_isAhead 31 [] [(0, 1)] I R Q) : PN X d mX11_isAhead 26 [] [] I R Q := by
  refine P_iconst (n := 1) (q := 27) rfl (by decide +kernel) ?_
  refine P_goto (off := 4) (t := 31) (by decide) (by decide +kernel) ?_
  exact (PW_sub (ls' := []) trivial h)
theorem S_X11_isAhead_30 {X : CX} {d : Nat} {I R : PF} {Q : PV → PF → PF → Prop} (h : PN X d mX11_isAhead 31 [] [(0, 0)] I R Q) : PN X d mX11_isAhead 30 [] [] I R Q := by
  refine P_iconst (n := 0) (q := 31) rfl (by decide +kernel) ?_
  exact (PW_sub (ls' := []) trivial h)
theorem S_X11_isAhead_31 {X : CX} {d : Nat} {o0 : Int} {I R : PF} {Q : PV → PF → PF → Prop} (z1 : o0 = 0 ∨ o0 = 1) (h : Q (0, o0) I R) : PN X d mX11_isAhead 31 [] [(0, o0)] I R Q := by
  refine P_zret rfl z1 (by decide +kernel) h
theorem S_X11_isAllowed_0 {X : CX} {d : Nat} {x1 : Int} {I R : PF} {Q : PV → PF → PF → Prop} (c1 : -2147483648 ≤ (I 306 56) ∧ (I 306 56) < 2147483648) (h1 : (I 306 56) ≠ 0 → PN X d mX11_isAllowed 20 [(2, 306), (0, x1)] [] I R Q) (h2 : (I 306 56) = 0 → PN X d mX11_isAllowed 7 [(9, 0), (0, x1)] [] I R Q) : PN X d mX11_isAllowed 0 [(2, 306), (0, x1)] [] I R Q := by
  refine P_aload_n (n := 0) (q := 1) rfl rfl (by decide +kernel) ?_
  refine P_getf (q := 4) fX11_163 kM306 rfl (by decide +kernel) ?_
  refine B_if_ne (off := 16) (t := 20) (q := 7) c1 (by decide) rfl (by decide +kernel) ?_ ?_
  · exact fun g9 => (h1 g9)
  · exact fun g9 => (PW_sub (ls' := [(9, 0), (0, x1)]) ⟨Or.inl rfl, Or.inr rfl, trivial⟩ (h2 g9))
theorem S_X11_isAllowed_7 {X : CX} {d : Nat} {x1 : Int} {I R : PF} {Q : PV → PF → PF → Prop} (c1 : -2147483648 ≤ x1 ∧ x1 < 2147483648) (h1 : 2 ≤ x1 → PN X d mX11_isAllowed 16 [] [] I R Q) (h2 : x1 < 2 → PN X d mX11_isAllowed 12 [] [] I R Q) : PN X d mX11_isAllowed 7 [(9, 0), (0, x1)] [] I R Q := by
  refine P_iload_n (n := 1) (q := 8) rfl rfl (by decide +kernel) ?_
  refine P_iconst (n := 2) (q := 9) rfl (by decide +kernel) ?_
  refine B_icmp_ge (off := 7) (t := 16) (q := 12) c1 ⟨by decide, by decide⟩ (by decide) rfl (by decide +kernel) ?_ ?_
  · exact fun g9 => (PW_sub (ls' := []) trivial (h1 g9))
  · exact fun g9 => (PW_sub (ls' := []) trivial (h2 g9))
theorem S_X11_isAllowed_12 {X : CX} {d : Nat} {I R : PF} {Q : PV → PF → PF → Prop} (h : PN X d mX11_isAllowed 52 [] [(0, 1)] I R Q) : PN X d mX11_isAllowed 12 [] [] I R Q := by
  refine P_iconst (n := 1) (q := 13) rfl (by decide +kernel) ?_
  refine P_goto (off := 39) (t := 52) (by decide) (by decide +kernel) ?_
  exact (PW_sub (ls' := []) trivial h)
theorem S_X11_isAllowed_16 {X : CX} {d : Nat} {I R : PF} {Q : PV → PF → PF → Prop} (h : PN X d mX11_isAllowed 52 [] [(0, 0)] I R Q) : PN X d mX11_isAllowed 16 [] [] I R Q := by
  refine P_iconst (n := 0) (q := 17) rfl (by decide +kernel) ?_
  refine P_goto (off := 35) (t := 52) (by decide) (by decide +kernel) ?_
  exact (PW_sub (ls' := []) trivial h)
theorem S_X11_isAllowed_20 {X : CX} {d : Nat} {x1 : Int} {I R : PF} {Q : PV → PF → PF → Prop} (c1 : -2147483648 ≤ (I 306 56) ∧ (I 306 56) < 2147483648) (h1 : (I 306 56) ≠ 1 → PN X d mX11_isAllowed 42 [(9, 0), (0, x1)] [] I R Q) (h2 : (I 306 56) = 1 → PN X d mX11_isAllowed 28 [(9, 0), (0, x1)] [] I R Q) : PN X d mX11_isAllowed 20 [(2, 306), (0, x1)] [] I R Q := by
  refine P_aload_n (n := 0) (q := 21) rfl rfl (by decide +kernel) ?_
  refine P_getf (q := 24) fX11_163 kM306 rfl (by decide +kernel) ?_
  refine P_iconst (n := 1) (q := 25) rfl (by decide +kernel) ?_
  refine B_icmp_ne (off := 17) (t := 42) (q := 28) c1 ⟨by decide, by decide⟩ (by decide) rfl (by decide +kernel) ?_ ?_
  · exact fun g9 => (PW_sub (ls' := [(9, 0), (0, x1)]) ⟨Or.inl rfl, Or.inr rfl, trivial⟩ (h1 g9))
  · exact fun g9 => (PW_sub (ls' := [(9, 0), (0, x1)]) ⟨Or.inl rfl, Or.inr rfl, trivial⟩ (h2 g9))
theorem S_X11_isAllowed_28 {X : CX} {d : Nat} {x1 : Int} {I R : PF} {Q : PV → PF → PF → Prop} (c1 : -2147483648 ≤ x1 ∧ x1 < 2147483648) (h1 : 6 ≤ x1 → PN X d mX11_isAllowed 38 [] [] I R Q) (h2 : x1 < 6 → PN X d mX11_isAllowed 34 [] [] I R Q) : PN X d mX11_isAllowed 28 [(9, 0), (0, x1)] [] I R Q := by
  refine P_iload_n (n := 1) (q := 29) rfl rfl (by decide +kernel) ?_
  refine P_bipush (n := 6) (q := 31) rfl rfl (by decide +kernel) ?_
  refine B_icmp_ge (off := 7) (t := 38) (q := 34) c1 ⟨by decide, by decide⟩ (by decide) rfl (by decide +kernel) ?_ ?_
  · exact fun g9 => (PW_sub (ls' := []) trivial (h1 g9))
  · exact fun g9 => (PW_sub (ls' := []) trivial (h2 g9))
theorem S_X11_isAllowed_34 {X : CX} {d : Nat} {I R : PF} {Q : PV → PF → PF → Prop} (h : PN X d mX11_isAllowed 52 [] [(0, 1)] I R Q) : PN X d mX11_isAllowed 34 [] [] I R Q := by
  refine P_iconst (n := 1) (q := 35) rfl (by decide +kernel) ?_
  refine P_goto (off := 17) (t := 52) (by decide) (by decide +kernel) ?_
  exact (PW_sub (ls' := []) trivial h)
theorem S_X11_isAllowed_38 {X : CX} {d : Nat} {I R : PF} {Q : PV → PF → PF → Prop} (h : PN X d mX11_isAllowed 52 [] [(0, 0)] I R Q) : PN X d mX11_isAllowed 38 [] [] I R Q := by
  refine P_iconst (n := 0) (q := 39) rfl (by decide +kernel) ?_
  refine P_goto (off := 13) (t := 52) (by decide) (by decide +kernel) ?_
  exact (PW_sub (ls' := []) trivial h)
theorem S_X11_isAllowed_42 {X : CX} {d : Nat} {x1 : Int} {I R : PF} {Q : PV → PF → PF → Prop} (c1 : -2147483648 ≤ x1 ∧ x1 < 2147483648) (h1 : x1 = 1 → PN X d mX11_isAllowed 51 [] [] I R Q) (h2 : x1 ≠ 1 → PN X d mX11_isAllowed 47 [] [] I R Q) : PN X d mX11_isAllowed 42 [(9, 0), (0, x1)] [] I R Q := by
  refine P_iload_n (n := 1) (q := 43) rfl rfl (by decide +kernel) ?_
  refine P_iconst (n := 1) (q := 44) rfl (by decide +kernel) ?_
  refine B_icmp_eq (off := 7) (t := 51) (q := 47) c1 ⟨by decide, by decide⟩ (by decide) rfl (by decide +kernel) ?_ ?_
  · exact fun g9 => (PW_sub (ls' := []) trivial (h1 g9))
  · exact fun g9 => (PW_sub (ls' := []) trivial (h2 g9))
theorem S_X11_isAllowed_47 {X : CX} {d : Nat} {I R : PF} {Q : PV → PF → PF → Prop} (h : PN X d mX11_isAllowed 52 [] [(0, 1)] I R Q) : PN X d mX11_isAllowed 47 [] [] I R Q := by
  refine P_iconst (n := 1) (q := 48) rfl (by decide +kernel) ?_
  refine P_goto (off := 4) (t := 52) (by decide) (by decide +kernel) ?_
  exact (PW_sub (ls' := []) trivial h)
theorem S_X11_isAllowed_51 {X : CX} {d : Nat} {I R : PF} {Q : PV → PF → PF → Prop} (h : PN X d mX11_isAllowed 52 [] [(0, 0)] I R Q) : PN X d mX11_isAllowed 51 [] [] I R Q := by
  refine P_iconst (n := 0) (q := 52) rfl (by decide +kernel) ?_
  exact (PW_sub (ls' := []) trivial h)
theorem S_X11_isAllowed_52 {X : CX} {d : Nat} {o0 : Int} {I R : PF} {Q : PV → PF → PF → Prop} (z1 : o0 = 0 ∨ o0 = 1) (h : Q (0, o0) I R) : PN X d mX11_isAllowed 52 [] [(0, o0)] I R Q := by
  refine P_zret rfl z1 (by decide +kernel) h
theorem S_X11_isDigit_0 {X : CX} {d : Nat} {x0 : Int} {I R : PF} {Q : PV → PF → PF → Prop} (c1 : -2147483648 ≤ x0 ∧ x0 < 2147483648) (h1 : x0 < 48 → PN X d mX11_isDigit 16 [] [] I R Q) (h2 : 48 ≤ x0 → PN X d mX11_isDigit 6 [(0, x0)] [] I R Q) : PN X d mX11_isDigit 0 [(0, x0)] [] I R Q := by
  refine P_iload_n (n := 0) (q := 1) rfl rfl (by decide +kernel) ?_
  refine P_bipush (n := 48) (q := 3) rfl rfl (by decide +kernel) ?_
  refine B_icmp_lt (off := 13) (t := 16) (q := 6) c1 ⟨by decide, by decide⟩ (by decide) rfl (by decide +kernel) ?_ ?_
  · exact fun g9 => (PW_sub (ls' := []) trivial (h1 g9))
  · exact fun g9 => (h2 g9)
theorem S_X11_isDigit_6 {X : CX} {d : Nat} {x0 : Int} {I R : PF} {Q : PV → PF → PF → Prop} (c1 : -2147483648 ≤ x0 ∧ x0 < 2147483648) (h1 : 57 < x0 → PN X d mX11_isDigit 16 [] [] I R Q) (h2 : x0 ≤ 57 → PN X d mX11_isDigit 12 [] [] I R Q) : PN X d mX11_isDigit 6 [(0, x0)] [] I R Q := by
  refine P_iload_n (n := 0) (q := 7) rfl rfl (by decide +kernel) ?_
  refine P_bipush (n := 57) (q := 9) rfl rfl (by decide +kernel) ?_
  refine B_icmp_gt (off := 7) (t := 16) (q := 12) c1 ⟨by decide, by decide⟩ (by decide) rfl (by decide +kernel) ?_ ?_
  · exact fun g9 => (PW_sub (ls' := []) trivial (h1 g9))
  · exact fun g9 => (PW_sub (ls' := []) trivial (h2 g9))
theorem S_X11_isDigit_12 {X : CX} {d : Nat} {I R : PF} {Q : PV → PF → PF → Prop} (h : PN X d mX11_isDigit 17 [] [(0, 1)] I R Q) : PN X d mX11_isDigit 12 [] [] I R Q := by
  refine P_iconst (n := 1) (q := 13) rfl (by decide +kernel) ?_
  refine P_goto (off := 4) (t := 17) (by decide) (by decide +kernel) ?_
  exact (PW_sub (ls' := []) trivial h)
theorem S_X11_isDigit_16 {X : CX} {d : Nat} {I R : PF} {Q : PV → PF → PF → Prop} (h : PN X d mX11_isDigit 17 [] [(0, 0)] I R Q) : PN X d mX11_isDigit 16 [] [] I R Q := by
  refine P_iconst (n := 0) (q := 17) rfl (by decide +kernel) ?_
  exact (PW_sub (ls' := []) trivial h)
theorem S_X11_isDigit_17 {X : CX} {d : Nat} {o0 : Int} {I R : PF} {Q : PV → PF → PF → Prop} (z1 : o0 = 0 ∨ o0 = 1) (h : Q (0, o0) I R) : PN X d mX11_isDigit 17 [] [(0, o0)] I R Q := by
  refine P_zret rfl z1 (by decide +kernel) h
theorem S_X11_isFree_0 {X : CX} {d d1 : Nat} {x1 x2 x3 : Int} {I R : PF} {Q Q1 : PV → PF → PF → Prop} (e1 : d1 + 1 ≤ d) (hc : CN X d1 mX11_isInside [(2, 306), (0, x1), (0, x2)] I R Q1) (h : ∀ z I2 R2, Q1 (0, z) I2 R2 → PN X d mX11_isFree 6 [(2, 306), (0, x1), (0, x2), (0, x3)] [(0, z)] I2 R2 Q) : PN X d mX11_isFree 0 [(2, 306), (0, x1), (0, x2), (0, x3)] [] I R Q := by
  refine P_aload_n (n := 0) (q := 1) rfl rfl (by decide +kernel) ?_
  refine P_iload_n (n := 1) (q := 2) rfl rfl (by decide +kernel) ?_
  refine P_iload_n (n := 2) (q := 3) rfl rfl (by decide +kernel) ?_
  refine P_invV (As := [(0, x1), (0, x2)]) (q := 6) oX11_isInside rfl kM306 kX11_467 e1 hMF (Nat.le_of_ble_eq_true rfl) hc rfl (by decide +kernel) (fun z I2 R2 hq => ?_)
  exact (h z I2 R2 hq)
theorem S_X11_isFree_6 {X : CX} {d : Nat} {x1 x2 x3 o0 : Int} {I R : PF} {Q : PV → PF → PF → Prop} (c1 : -2147483648 ≤ o0 ∧ o0 < 2147483648) (h1 : o0 = 0 → PN X d mX11_isFree 18 [] [] I R Q) (h2 : o0 ≠ 0 → PN X d mX11_isFree 9 [(2, 306), (0, x1), (0, x2), (0, x3)] [] I R Q) : PN X d mX11_isFree 6 [(2, 306), (0, x1), (0, x2), (0, x3)] [(0, o0)] I R Q := by
  refine B_if_eq (off := 12) (t := 18) (q := 9) c1 (by decide) rfl (by decide +kernel) ?_ ?_
  · exact fun g9 => (PW_sub (ls' := []) trivial (h1 g9))
  · exact fun g9 => (h2 g9)
theorem S_X11_isFree_9 {X : CX} {d d1 : Nat} {x1 x2 x3 : Int} {I R : PF} {Q Q1 : PV → PF → PF → Prop} (e1 : d1 + 1 ≤ d) (hc : CN X d1 mX11_isWall [(2, 306), (0, x1), (0, x2)] I R Q1) (h : ∀ z I2 R2, Q1 (0, z) I2 R2 → PN X d mX11_isFree 15 [(2, 306), (0, x1), (0, x2), (0, x3)] [(0, z)] I2 R2 Q) : PN X d mX11_isFree 9 [(2, 306), (0, x1), (0, x2), (0, x3)] [] I R Q := by
  refine P_aload_n (n := 0) (q := 10) rfl rfl (by decide +kernel) ?_
  refine P_iload_n (n := 1) (q := 11) rfl rfl (by decide +kernel) ?_
  refine P_iload_n (n := 2) (q := 12) rfl rfl (by decide +kernel) ?_
  refine P_invV (As := [(0, x1), (0, x2)]) (q := 15) oX11_isWall rfl kM306 kX11_453 e1 hMF (Nat.le_of_ble_eq_true rfl) hc rfl (by decide +kernel) (fun z I2 R2 hq => ?_)
  exact (h z I2 R2 hq)
theorem S_X11_isFree_15 {X : CX} {d : Nat} {x1 x2 x3 o0 : Int} {I R : PF} {Q : PV → PF → PF → Prop} (c1 : -2147483648 ≤ o0 ∧ o0 < 2147483648) (h1 : o0 = 0 → PN X d mX11_isFree 20 [(2, 306), (0, x1), (0, x2), (0, x3)] [] I R Q) (h2 : o0 ≠ 0 → PN X d mX11_isFree 18 [] [] I R Q) : PN X d mX11_isFree 15 [(2, 306), (0, x1), (0, x2), (0, x3)] [(0, o0)] I R Q := by
  refine B_if_eq (off := 5) (t := 20) (q := 18) c1 (by decide) rfl (by decide +kernel) ?_ ?_
  · exact fun g9 => (h1 g9)
  · exact fun g9 => (PW_sub (ls' := []) trivial (h2 g9))
theorem S_X11_isFree_18 {X : CX} {d : Nat} {I R : PF} {Q : PV → PF → PF → Prop} (h : Q (0, 0) I R) : PN X d mX11_isFree 18 [] [] I R Q := by
  refine P_iconst (n := 0) (q := 19) rfl (by decide +kernel) ?_
  refine P_zret rfl (Or.inl rfl) (by decide +kernel) h
theorem S_X11_isFree_20 {X : CX} {d : Nat} {x1 x2 x3 : Int} {I R : PF} {Q : PV → PF → PF → Prop} (h : PN X d mX11_isFree 23 [(2, 306), (0, x1), (0, x2), (0, x3), (0, 0)] [] I R Q) : PN X d mX11_isFree 20 [(2, 306), (0, x1), (0, x2), (0, x3)] [] I R Q := by
  refine P_iconst (n := 0) (q := 21) rfl (by decide +kernel) ?_
  refine P_istore (n := 4) (by decide) (q := 23) rfl (by decide +kernel) ?_
  exact h
theorem S_X11_isFree_23 {X : CX} {d d1 : Nat} {x1 x2 x3 x4 : Int} {I R : PF} {Q Q1 : PV → PF → PF → Prop} (e1 : d1 + 1 ≤ d) (hc : CN X d1 mX11_personMany [(2, 306)] I R Q1) (h : ∀ z I2 R2, Q1 (0, z) I2 R2 → PN X d mX11_isFree 29 [(2, 306), (0, x1), (0, x2), (0, x3), (0, x4)] [(0, z), (0, x4)] I2 R2 Q) : PN X d mX11_isFree 23 [(2, 306), (0, x1), (0, x2), (0, x3), (0, x4)] [] I R Q := by
  refine P_iload (n := 4) (q := 25) rfl rfl (by decide +kernel) ?_
  refine P_aload_n (n := 0) (q := 26) rfl rfl (by decide +kernel) ?_
  refine P_invV (As := []) (q := 29) oX11_personMany rfl kM306 kX11_420 e1 hMF (Nat.le_of_ble_eq_true rfl) hc rfl (by decide +kernel) (fun z I2 R2 hq => ?_)
  exact (h z I2 R2 hq)
theorem S_X11_isFree_29 {X : CX} {d : Nat} {x1 x2 x3 x4 o0 o1 : Int} {I R : PF} {Q : PV → PF → PF → Prop} (c1 : -2147483648 ≤ o0 ∧ o0 < 2147483648) (c2 : -2147483648 ≤ o1 ∧ o1 < 2147483648) (h1 : o1 ≤ o0 → PN X d mX11_isFree 68 [] [] I R Q) (h2 : o0 < o1 → PN X d mX11_isFree 32 [(2, 306), (0, x1), (0, x2), (0, x3), (0, x4)] [] I R Q) : PN X d mX11_isFree 29 [(2, 306), (0, x1), (0, x2), (0, x3), (0, x4)] [(0, o1), (0, o0)] I R Q := by
  refine B_icmp_ge (off := 39) (t := 68) (q := 32) c1 c2 (by decide) rfl (by decide +kernel) ?_ ?_
  · exact fun g9 => (PW_sub (ls' := []) trivial (h1 g9))
  · exact fun g9 => (h2 g9)
theorem S_X11_isFree_32 {X : CX} {d : Nat} {x1 x2 x3 x4 : Int} {I R : PF} {Q : PV → PF → PF → Prop} (c1 : -2147483648 ≤ x4 ∧ x4 < 2147483648) (c2 : -2147483648 ≤ x3 ∧ x3 < 2147483648) (h1 : x4 = x3 → PN X d mX11_isFree 62 [(2, 306), (0, x1), (0, x2), (0, x3), (0, x4)] [] I R Q) (h2 : x4 ≠ x3 → PN X d mX11_isFree 38 [(2, 306), (0, x1), (0, x2), (0, x3), (0, x4)] [] I R Q) : PN X d mX11_isFree 32 [(2, 306), (0, x1), (0, x2), (0, x3), (0, x4)] [] I R Q := by
  refine P_iload (n := 4) (q := 34) rfl rfl (by decide +kernel) ?_
  refine P_iload_n (n := 3) (q := 35) rfl rfl (by decide +kernel) ?_
  refine B_icmp_eq (off := 27) (t := 62) (q := 38) c1 c2 (by decide) rfl (by decide +kernel) ?_ ?_
  · exact fun g9 => (h1 g9)
  · exact fun g9 => (h2 g9)
theorem S_X11_isFree_38 {X : CX} {d : Nat} {x1 x2 x3 x4 : Int} {I R : PF} {Q : PV → PF → PF → Prop} (hs : Shp R) (b1 : (0 : Int) ≤ x4 ∧ x4 < 6) (c1 : -2147483648 ≤ (I 351 x4) ∧ (I 351 x4) < 2147483648) (c2 : -2147483648 ≤ x1 ∧ x1 < 2147483648) (h1 : (I 351 x4) ≠ x1 → PN X d mX11_isFree 62 [(2, 306), (0, x1), (0, x2), (0, x3), (0, x4)] [] I R Q) (h2 : (I 351 x4) = x1 → PN X d mX11_isFree 49 [(2, 306), (0, x1), (0, x2), (0, x3), (0, x4)] [] I R Q) : PN X d mX11_isFree 38 [(2, 306), (0, x1), (0, x2), (0, x3), (0, x4)] [] I R Q := by
  refine P_aload_n (n := 0) (q := 39) rfl rfl (by decide +kernel) ?_
  refine B_getfR (q := 42) fX11_323 kM306 (rM306_67 hs) rfl (by decide +kernel) ?_
  refine P_iload (n := 4) (q := 44) rfl rfl (by decide +kernel) ?_
  refine B_iaload (q := 45) kM351 nM351 (by decide) b1 rfl (by decide +kernel) ?_
  refine P_iload_n (n := 1) (q := 46) rfl rfl (by decide +kernel) ?_
  refine B_icmp_ne (off := 16) (t := 62) (q := 49) c1 c2 (by decide) rfl (by decide +kernel) ?_ ?_
  · exact fun g9 => (h1 g9)
  · exact fun g9 => (h2 g9)
theorem S_X11_isFree_49 {X : CX} {d : Nat} {x1 x2 x3 x4 : Int} {I R : PF} {Q : PV → PF → PF → Prop} (hs : Shp R) (b1 : (0 : Int) ≤ x4 ∧ x4 < 6) (c1 : -2147483648 ≤ (I 352 x4) ∧ (I 352 x4) < 2147483648) (c2 : -2147483648 ≤ x2 ∧ x2 < 2147483648) (h1 : (I 352 x4) ≠ x2 → PN X d mX11_isFree 62 [(2, 306), (0, x1), (0, x2), (0, x3), (0, x4)] [] I R Q) (h2 : (I 352 x4) = x2 → PN X d mX11_isFree 60 [] [] I R Q) : PN X d mX11_isFree 49 [(2, 306), (0, x1), (0, x2), (0, x3), (0, x4)] [] I R Q := by
  refine P_aload_n (n := 0) (q := 50) rfl rfl (by decide +kernel) ?_
  refine B_getfR (q := 53) fX11_326 kM306 (rM306_68 hs) rfl (by decide +kernel) ?_
  refine P_iload (n := 4) (q := 55) rfl rfl (by decide +kernel) ?_
  refine B_iaload (q := 56) kM352 nM352 (by decide) b1 rfl (by decide +kernel) ?_
  refine P_iload_n (n := 2) (q := 57) rfl rfl (by decide +kernel) ?_
  refine B_icmp_ne (off := 5) (t := 62) (q := 60) c1 c2 (by decide) rfl (by decide +kernel) ?_ ?_
  · exact fun g9 => (h1 g9)
  · exact fun g9 => (PW_sub (ls' := []) trivial (h2 g9))
theorem S_X11_isFree_60 {X : CX} {d : Nat} {I R : PF} {Q : PV → PF → PF → Prop} (h : Q (0, 0) I R) : PN X d mX11_isFree 60 [] [] I R Q := by
  refine P_iconst (n := 0) (q := 61) rfl (by decide +kernel) ?_
  refine P_zret rfl (Or.inl rfl) (by decide +kernel) h
theorem S_X11_isFree_62 {X : CX} {d : Nat} {x1 x2 x3 x4 : Int} {I R : PF} {Q : PV → PF → PF → Prop} (h : PN X d mX11_isFree 23 [(2, 306), (0, x1), (0, x2), (0, x3), (0, (x4 + 1))] [] I R Q) : PN X d mX11_isFree 62 [(2, 306), (0, x1), (0, x2), (0, x3), (0, x4)] [] I R Q := by
  refine P_iinc (n := 4) (a := 1) (by decide) rfl (q := 65) rfl (by decide +kernel) ?_
  refine P_goto (off := (-42)) (t := 23) (by decide) (by decide +kernel) ?_
  exact h
theorem S_X11_isFree_68 {X : CX} {d : Nat} {I R : PF} {Q : PV → PF → PF → Prop} (h : Q (0, 1) I R) : PN X d mX11_isFree 68 [] [] I R Q := by
  refine P_iconst (n := 1) (q := 69) rfl (by decide +kernel) ?_
  refine P_zret rfl (Or.inr rfl) (by decide +kernel) h
theorem S_X11_isFull_0 {X : CX} {d : Nat} {x1 x2 x3 : Int} {I R : PF} {Q : PV → PF → PF → Prop} (c1 : -2147483648 ≤ (I 306 5) ∧ (I 306 5) < 2147483648) (h1 : (I 306 5) ≠ 0 → PN X d mX11_isFull 23 [(2, 306)] [] I R Q) (h2 : (I 306 5) = 0 → PN X d mX11_isFull 7 [(2, 306), (0, x1), (0, x2), (0, x3)] [] I R Q) : PN X d mX11_isFull 0 [(2, 306), (0, x1), (0, x2), (0, x3)] [] I R Q := by
  refine P_aload_n (n := 0) (q := 1) rfl rfl (by decide +kernel) ?_
  refine P_getf (q := 4) fX11_14 kM306 rfl (by decide +kernel) ?_
  refine B_if_ne (off := 19) (t := 23) (q := 7) c1 (by decide) rfl (by decide +kernel) ?_ ?_
  · exact fun g9 => (PW_sub (ls' := [(2, 306)]) ⟨Or.inr rfl, trivial⟩ (h1 g9))
  · exact fun g9 => (h2 g9)
theorem S_X11_isFull_7 {X : CX} {d : Nat} {x1 x2 x3 : Int} {I R : PF} {Q : PV → PF → PF → Prop} (hs : Shp R) (b1 : (0 : Int) ≤ x1 ∧ x1 < 6) (c1 : -2147483648 ≤ (I 339 x1) ∧ (I 339 x1) < 2147483648) (c2 : -2147483648 ≤ x2 ∧ x2 < 2147483648) (h1 : (I 339 x1) ≠ x2 → PN X d mX11_isFull 23 [(2, 306)] [] I R Q) (h2 : (I 339 x1) = x2 → PN X d mX11_isFull 17 [(2, 306), (9, 0), (9, 0), (0, x3)] [] I R Q) : PN X d mX11_isFull 7 [(2, 306), (0, x1), (0, x2), (0, x3)] [] I R Q := by
  refine P_aload_n (n := 0) (q := 8) rfl rfl (by decide +kernel) ?_
  refine B_getfR (q := 11) fX11_166 kM306 (rM306_42 hs) rfl (by decide +kernel) ?_
  refine P_iload_n (n := 1) (q := 12) rfl rfl (by decide +kernel) ?_
  refine B_iaload (q := 13) kM339 nM339 (by decide) b1 rfl (by decide +kernel) ?_
  refine P_iload_n (n := 2) (q := 14) rfl rfl (by decide +kernel) ?_
  refine B_icmp_ne (off := 9) (t := 23) (q := 17) c1 c2 (by decide) rfl (by decide +kernel) ?_ ?_
  · exact fun g9 => (PW_sub (ls' := [(2, 306)]) ⟨Or.inr rfl, trivial⟩ (h1 g9))
  · exact fun g9 => (PW_sub (ls' := [(2, 306), (9, 0), (9, 0), (0, x3)]) ⟨Or.inr rfl, Or.inl rfl, Or.inl rfl, Or.inr rfl, trivial⟩ (h2 g9))
theorem S_X11_isFull_17 {X : CX} {d d1 : Nat} {x3 : Int} {I R : PF} {Q Q1 : PV → PF → PF → Prop} (e1 : d1 + 1 ≤ d) (hc : CN X d1 mX11_fail [(2, 306), (0, 5), (0, x3)] I R Q1) (h : ∀ z I2 R2, Q1 (9, z) I2 R2 → PN X d mX11_isFull 23 [(2, 306)] [] I2 R2 Q) : PN X d mX11_isFull 17 [(2, 306), (9, 0), (9, 0), (0, x3)] [] I R Q := by
  refine P_aload_n (n := 0) (q := 18) rfl rfl (by decide +kernel) ?_
  refine P_iconst (n := 5) (q := 19) rfl (by decide +kernel) ?_
  refine P_iload_n (n := 3) (q := 20) rfl rfl (by decide +kernel) ?_
  refine P_invV (As := [(0, 5), (0, x3)]) (q := 23) oX11_fail rfl kM306 kX11_44 e1 hMF (Nat.le_of_ble_eq_true rfl) hc rfl (by decide +kernel) (fun z I2 R2 hq => ?_)
  exact (PW_sub (ls' := [(2, 306)]) ⟨Or.inr rfl, trivial⟩ (h z I2 R2 hq))
theorem S_X11_isFull_23 {X : CX} {d : Nat} {I R : PF} {Q : PV → PF → PF → Prop} (c1 : -2147483648 ≤ (I 306 5) ∧ (I 306 5) < 2147483648) (h1 : (I 306 5) = 0 → PN X d mX11_isFull 34 [] [] I R Q) (h2 : (I 306 5) ≠ 0 → PN X d mX11_isFull 30 [] [] I R Q) : PN X d mX11_isFull 23 [(2, 306)] [] I R Q := by
  refine P_aload_n (n := 0) (q := 24) rfl rfl (by decide +kernel) ?_
  refine P_getf (q := 27) fX11_14 kM306 rfl (by decide +kernel) ?_
  refine B_if_eq (off := 7) (t := 34) (q := 30) c1 (by decide) rfl (by decide +kernel) ?_ ?_
  · exact fun g9 => (PW_sub (ls' := []) trivial (h1 g9))
  · exact fun g9 => (PW_sub (ls' := []) trivial (h2 g9))
theorem S_X11_isFull_30 {X : CX} {d : Nat} {I R : PF} {Q : PV → PF → PF → Prop} (h : PN X d mX11_isFull 35 [] [(0, 1)] I R Q) : PN X d mX11_isFull 30 [] [] I R Q := by
  refine P_iconst (n := 1) (q := 31) rfl (by decide +kernel) ?_
  refine P_goto (off := 4) (t := 35) (by decide) (by decide +kernel) ?_
  exact (PW_sub (ls' := []) trivial h)
theorem S_X11_isFull_34 {X : CX} {d : Nat} {I R : PF} {Q : PV → PF → PF → Prop} (h : PN X d mX11_isFull 35 [] [(0, 0)] I R Q) : PN X d mX11_isFull 34 [] [] I R Q := by
  refine P_iconst (n := 0) (q := 35) rfl (by decide +kernel) ?_
  exact (PW_sub (ls' := []) trivial h)
theorem S_X11_isFull_35 {X : CX} {d : Nat} {o0 : Int} {I R : PF} {Q : PV → PF → PF → Prop} (z1 : o0 = 0 ∨ o0 = 1) (h : Q (0, o0) I R) : PN X d mX11_isFull 35 [] [(0, o0)] I R Q := by
  refine P_zret rfl z1 (by decide +kernel) h
theorem S_X11_isHere_0 {X : CX} {d : Nat} {a1 : Int} {I R : PF} {Q : PV → PF → PF → Prop} (c1 : -2147483648 ≤ (I 306 5) ∧ (I 306 5) < 2147483648) (h1 : (I 306 5) ≠ 0 → PN X d mX11_isHere 28 [] [] I R Q) (h2 : (I 306 5) = 0 → PN X d mX11_isHere 7 [(2, 306), (2, a1)] [] I R Q) : PN X d mX11_isHere 0 [(2, 306), (2, a1)] [] I R Q := by
  refine P_aload_n (n := 0) (q := 1) rfl rfl (by decide +kernel) ?_
  refine P_getf (q := 4) fX11_14 kM306 rfl (by decide +kernel) ?_
  refine B_if_ne (off := 24) (t := 28) (q := 7) c1 (by decide) rfl (by decide +kernel) ?_ ?_
  · exact fun g9 => (PW_sub (ls' := []) trivial (h1 g9))
  · exact fun g9 => (h2 g9)
theorem S_X11_isHere_7 {X : CX} {d d1 : Nat} {a1 : Int} {I R : PF} {Q Q1 : PV → PF → PF → Prop} (e1 : d1 + 1 ≤ d) (hc : CN X d1 mX11_look [(2, 306)] I R Q1) (h : ∀ z I2 R2, Q1 (0, z) I2 R2 → PN X d mX11_isHere 11 [(2, 306), (2, a1)] [(0, z)] I2 R2 Q) : PN X d mX11_isHere 7 [(2, 306), (2, a1)] [] I R Q := by
  refine P_aload_n (n := 0) (q := 8) rfl rfl (by decide +kernel) ?_
  refine P_invV (As := []) (q := 11) oX11_look rfl kM306 kX11_26 e1 hMF (Nat.le_of_ble_eq_true rfl) hc rfl (by decide +kernel) (fun z I2 R2 hq => ?_)
  exact (h z I2 R2 hq)
theorem S_X11_isHere_11 {X : CX} {d d1 : Nat} {a1 o0 : Int} {I R : PF} {Q Q1 : PV → PF → PF → Prop} (e1 : d1 + 1 ≤ d) (hc : CN X d1 mX11_isLetter [(0, o0)] I R Q1) (h : ∀ z I2 R2, Q1 (0, z) I2 R2 → PN X d mX11_isHere 14 [(2, 306), (2, a1)] [(0, z)] I2 R2 Q) : PN X d mX11_isHere 11 [(2, 306), (2, a1)] [(0, o0)] I R Q := by
  refine P_invS (As := [(0, o0)]) (q := 14) oX11_isLetter rfl (Or.inl kX11_30) e1 hMF (Nat.le_of_ble_eq_true rfl) hc rfl (by decide +kernel) (fun z I2 R2 hq => ?_)
  exact (h z I2 R2 hq)
theorem S_X11_isHere_14 {X : CX} {d : Nat} {a1 o0 : Int} {I R : PF} {Q : PV → PF → PF → Prop} (c1 : -2147483648 ≤ o0 ∧ o0 < 2147483648) (h1 : o0 = 0 → PN X d mX11_isHere 28 [] [] I R Q) (h2 : o0 ≠ 0 → PN X d mX11_isHere 17 [(2, 306), (2, a1)] [] I R Q) : PN X d mX11_isHere 14 [(2, 306), (2, a1)] [(0, o0)] I R Q := by
  refine B_if_eq (off := 14) (t := 28) (q := 17) c1 (by decide) rfl (by decide +kernel) ?_ ?_
  · exact fun g9 => (PW_sub (ls' := []) trivial (h1 g9))
  · exact fun g9 => (h2 g9)
theorem S_X11_isHere_17 {X : CX} {d : Nat} {a1 : Int} {I R : PF} {Q : PV → PF → PF → Prop} (c1 : -2147483648 ≤ (I 306 2) ∧ (I 306 2) < 2147483648) (c2 : -2147483648 ≤ (I 306 4) ∧ (I 306 4) < 2147483648) (h1 : (I 306 2) ≠ (I 306 4) → PN X d mX11_isHere 30 [(2, 306), (2, a1)] [] I R Q) (h2 : (I 306 2) = (I 306 4) → PN X d mX11_isHere 28 [] [] I R Q) : PN X d mX11_isHere 17 [(2, 306), (2, a1)] [] I R Q := by
  refine P_aload_n (n := 0) (q := 18) rfl rfl (by decide +kernel) ?_
  refine P_getf (q := 21) fX11_20 kM306 rfl (by decide +kernel) ?_
  refine P_aload_n (n := 0) (q := 22) rfl rfl (by decide +kernel) ?_
  refine P_getf (q := 25) fX11_34 kM306 rfl (by decide +kernel) ?_
  refine B_icmp_ne (off := 5) (t := 30) (q := 28) c1 c2 (by decide) rfl (by decide +kernel) ?_ ?_
  · exact fun g9 => (h1 g9)
  · exact fun g9 => (PW_sub (ls' := []) trivial (h2 g9))
theorem S_X11_isHere_28 {X : CX} {d : Nat} {I R : PF} {Q : PV → PF → PF → Prop} (h : Q (0, 0) I R) : PN X d mX11_isHere 28 [] [] I R Q := by
  refine P_iconst (n := 0) (q := 29) rfl (by decide +kernel) ?_
  refine P_zret rfl (Or.inl rfl) (by decide +kernel) h
theorem S_X11_isHere_30 {X : CX} {d : Nat} {a1 : Int} {I R : PF} {Q : PV → PF → PF → Prop} (h : PN X d mX11_isHere 35 [(2, 306), (2, a1), (0, (I 306 2))] [] I R Q) : PN X d mX11_isHere 30 [(2, 306), (2, a1)] [] I R Q := by
  refine P_aload_n (n := 0) (q := 31) rfl rfl (by decide +kernel) ?_
  refine P_getf (q := 34) fX11_20 kM306 rfl (by decide +kernel) ?_
  refine P_istore_n (n := 2) (by decide) (q := 35) rfl (by decide +kernel) ?_
  exact h
theorem S_X11_isHere_35 {X : CX} {d : Nat} {a1 x2 : Int} {I R : PF} {Q : PV → PF → PF → Prop} (c1 : -2147483648 ≤ x2 ∧ x2 < 2147483648) (c2 : -2147483648 ≤ (I 306 3) ∧ (I 306 3) < 2147483648) (h1 : (I 306 3) ≤ x2 → PN X d mX11_isHere 61 [(2, 306), (2, a1), (0, x2)] [] I R Q) (h2 : x2 < (I 306 3) → PN X d mX11_isHere 43 [(2, 306), (2, a1), (0, x2)] [] I R Q) : PN X d mX11_isHere 35 [(2, 306), (2, a1), (0, x2)] [] I R Q := by
  refine P_iload_n (n := 2) (q := 36) rfl rfl (by decide +kernel) ?_
  refine P_aload_n (n := 0) (q := 37) rfl rfl (by decide +kernel) ?_
  refine P_getf (q := 40) fX11_23 kM306 rfl (by decide +kernel) ?_
  refine B_icmp_ge (off := 21) (t := 61) (q := 43) c1 c2 (by decide) rfl (by decide +kernel) ?_ ?_
  · exact fun g9 => (h1 g9)
  · exact fun g9 => (h2 g9)
theorem S_X11_isHere_43 {X : CX} {d d1 : Nat} {a1 x2 : Int} {I R : PF} {Q Q1 : PV → PF → PF → Prop} (hs : Shp R) (b1 : (0 : Int) ≤ x2 ∧ x2 < 1600) (e1 : d1 + 1 ≤ d) (hc : CN X d1 mX11_isLetter [(0, (I 307 x2))] I R Q1) (h : ∀ z I2 R2, Q1 (0, z) I2 R2 → PN X d mX11_isHere 52 [(2, 306), (2, a1), (0, x2)] [(0, z)] I2 R2 Q) : PN X d mX11_isHere 43 [(2, 306), (2, a1), (0, x2)] [] I R Q := by
  refine P_aload_n (n := 0) (q := 44) rfl rfl (by decide +kernel) ?_
  refine B_getfR (q := 47) fX11_11 kM306 (rM306_0 hs) rfl (by decide +kernel) ?_
  refine P_iload_n (n := 2) (q := 48) rfl rfl (by decide +kernel) ?_
  refine B_iaload (q := 49) kM307 nM307 (by decide) b1 rfl (by decide +kernel) ?_
  refine P_invS (As := [(0, (I 307 x2))]) (q := 52) oX11_isLetter rfl (Or.inl kX11_30) e1 hMF (Nat.le_of_ble_eq_true rfl) hc rfl (by decide +kernel) (fun z I2 R2 hq => ?_)
  exact (h z I2 R2 hq)
theorem S_X11_isHere_52 {X : CX} {d : Nat} {a1 x2 o0 : Int} {I R : PF} {Q : PV → PF → PF → Prop} (c1 : -2147483648 ≤ o0 ∧ o0 < 2147483648) (h1 : o0 = 0 → PN X d mX11_isHere 61 [(2, 306), (2, a1), (0, x2)] [] I R Q) (h2 : o0 ≠ 0 → PN X d mX11_isHere 55 [(2, 306), (2, a1), (0, x2)] [] I R Q) : PN X d mX11_isHere 52 [(2, 306), (2, a1), (0, x2)] [(0, o0)] I R Q := by
  refine B_if_eq (off := 9) (t := 61) (q := 55) c1 (by decide) rfl (by decide +kernel) ?_ ?_
  · exact fun g9 => (h1 g9)
  · exact fun g9 => (h2 g9)
theorem S_X11_isHere_55 {X : CX} {d : Nat} {a1 x2 : Int} {I R : PF} {Q : PV → PF → PF → Prop} (h : PN X d mX11_isHere 35 [(2, 306), (2, a1), (0, (x2 + 1))] [] I R Q) : PN X d mX11_isHere 55 [(2, 306), (2, a1), (0, x2)] [] I R Q := by
  refine P_iinc (n := 2) (a := 1) (by decide) rfl (q := 58) rfl (by decide +kernel) ?_
  refine P_goto (off := (-23)) (t := 35) (by decide) (by decide +kernel) ?_
  exact h
theorem S_X11_isHere_61 {X : CX} {d : Nat} {a1 x2 : Int} {I R : PF} {Q : PV → PF → PF → Prop} (k1 : kd MF a1 = 14) (n1 : (ln MF a1 : Int) < 2147483648) (c1 : -2147483648 ≤ (x2 - (I 306 2)) ∧ (x2 - (I 306 2)) < 2147483648) (c2 : -2147483648 ≤ (ln MF a1 : Int) ∧ (ln MF a1 : Int) < 2147483648) (h1 : (x2 - (I 306 2)) = (ln MF a1 : Int) → PN X d mX11_isHere 74 [(2, 306), (2, a1)] [] I R Q) (h2 : (x2 - (I 306 2)) ≠ (ln MF a1 : Int) → PN X d mX11_isHere 72 [] [] I R Q) : PN X d mX11_isHere 61 [(2, 306), (2, a1), (0, x2)] [] I R Q := by
  refine P_iload_n (n := 2) (q := 62) rfl rfl (by decide +kernel) ?_
  refine P_aload_n (n := 0) (q := 63) rfl rfl (by decide +kernel) ?_
  refine P_getf (q := 66) fX11_20 kM306 rfl (by decide +kernel) ?_
  refine P_isub (q := 67) rfl (by decide +kernel) ?_
  refine P_aload_n (n := 1) (q := 68) rfl rfl (by decide +kernel) ?_
  refine B_alen (q := 69) k1 rfl (by decide) n1 rfl (by decide +kernel) ?_
  refine B_icmp_eq (off := 5) (t := 74) (q := 72) c1 c2 (by decide) rfl (by decide +kernel) ?_ ?_
  · exact fun g9 => (PW_sub (ls' := [(2, 306), (2, a1)]) ⟨Or.inr rfl, Or.inr rfl, trivial⟩ (h1 g9))
  · exact fun g9 => (PW_sub (ls' := []) trivial (h2 g9))
theorem S_X11_isHere_72 {X : CX} {d : Nat} {I R : PF} {Q : PV → PF → PF → Prop} (h : Q (0, 0) I R) : PN X d mX11_isHere 72 [] [] I R Q := by
  refine P_iconst (n := 0) (q := 73) rfl (by decide +kernel) ?_
  refine P_zret rfl (Or.inl rfl) (by decide +kernel) h
theorem S_X11_isHere_74 {X : CX} {d : Nat} {a1 : Int} {I R : PF} {Q : PV → PF → PF → Prop} (h : PN X d mX11_isHere 76 [(2, 306), (2, a1), (9, 0), (0, 0)] [] I R Q) : PN X d mX11_isHere 74 [(2, 306), (2, a1)] [] I R Q := by
  refine P_iconst (n := 0) (q := 75) rfl (by decide +kernel) ?_
  refine P_istore_n (n := 3) (by decide) (q := 76) rfl (by decide +kernel) ?_
  exact h
theorem S_X11_isHere_76 {X : CX} {d : Nat} {a1 x3 : Int} {I R : PF} {Q : PV → PF → PF → Prop} (k1 : kd MF a1 = 14) (n1 : (ln MF a1 : Int) < 2147483648) (c1 : -2147483648 ≤ x3 ∧ x3 < 2147483648) (c2 : -2147483648 ≤ (ln MF a1 : Int) ∧ (ln MF a1 : Int) < 2147483648) (h1 : (ln MF a1 : Int) ≤ x3 → PN X d mX11_isHere 107 [] [] I R Q) (h2 : x3 < (ln MF a1 : Int) → PN X d mX11_isHere 82 [(2, 306), (2, a1), (9, 0), (0, x3)] [] I R Q) : PN X d mX11_isHere 76 [(2, 306), (2, a1), (9, 0), (0, x3)] [] I R Q := by
  refine P_iload_n (n := 3) (q := 77) rfl rfl (by decide +kernel) ?_
  refine P_aload_n (n := 1) (q := 78) rfl rfl (by decide +kernel) ?_
  refine B_alen (q := 79) k1 rfl (by decide) n1 rfl (by decide +kernel) ?_
  refine B_icmp_ge (off := 28) (t := 107) (q := 82) c1 c2 (by decide) rfl (by decide +kernel) ?_ ?_
  · exact fun g9 => (PW_sub (ls' := []) trivial (h1 g9))
  · exact fun g9 => (h2 g9)
theorem S_X11_isHere_82 {X : CX} {d : Nat} {a1 x3 : Int} {I R : PF} {Q : PV → PF → PF → Prop} (hs : Shp R) (b1 : (0 : Int) ≤ ((I 306 2) + x3) ∧ ((I 306 2) + x3) < 1600) (k1 : kd MF a1 = 14) (b2 : (0 : Int) ≤ x3 ∧ x3 < (ln MF a1 : Int)) (n1 : (ln MF a1 : Int) < 2147483648) (c1 : -2147483648 ≤ (I 307 ((I 306 2) + x3)) ∧ (I 307 ((I 306 2) + x3)) < 2147483648) (c2 : -2147483648 ≤ (I a1 x3) ∧ (I a1 x3) < 2147483648) (h1 : (I 307 ((I 306 2) + x3)) = (I a1 x3) → PN X d mX11_isHere 101 [(2, 306), (2, a1), (9, 0), (0, x3)] [] I R Q) (h2 : (I 307 ((I 306 2) + x3)) ≠ (I a1 x3) → PN X d mX11_isHere 99 [] [] I R Q) : PN X d mX11_isHere 82 [(2, 306), (2, a1), (9, 0), (0, x3)] [] I R Q := by
  refine P_aload_n (n := 0) (q := 83) rfl rfl (by decide +kernel) ?_
  refine B_getfR (q := 86) fX11_11 kM306 (rM306_0 hs) rfl (by decide +kernel) ?_
  refine P_aload_n (n := 0) (q := 87) rfl rfl (by decide +kernel) ?_
  refine P_getf (q := 90) fX11_20 kM306 rfl (by decide +kernel) ?_
  refine P_iload_n (n := 3) (q := 91) rfl rfl (by decide +kernel) ?_
  refine P_iadd (q := 92) rfl (by decide +kernel) ?_
  refine B_iaload (q := 93) kM307 nM307 (by decide) b1 rfl (by decide +kernel) ?_
  refine P_aload_n (n := 1) (q := 94) rfl rfl (by decide +kernel) ?_
  refine P_iload_n (n := 3) (q := 95) rfl rfl (by decide +kernel) ?_
  refine B_caload (q := 96) k1 rfl n1 b2 rfl (by decide +kernel) ?_
  refine B_icmp_eq (off := 5) (t := 101) (q := 99) c1 c2 (by decide) rfl (by decide +kernel) ?_ ?_
  · exact fun g9 => (h1 g9)
  · exact fun g9 => (PW_sub (ls' := []) trivial (h2 g9))
theorem S_X11_isHere_99 {X : CX} {d : Nat} {I R : PF} {Q : PV → PF → PF → Prop} (h : Q (0, 0) I R) : PN X d mX11_isHere 99 [] [] I R Q := by
  refine P_iconst (n := 0) (q := 100) rfl (by decide +kernel) ?_
  refine P_zret rfl (Or.inl rfl) (by decide +kernel) h
theorem S_X11_isHere_101 {X : CX} {d : Nat} {a1 x3 : Int} {I R : PF} {Q : PV → PF → PF → Prop} (h : PN X d mX11_isHere 76 [(2, 306), (2, a1), (9, 0), (0, (x3 + 1))] [] I R Q) : PN X d mX11_isHere 101 [(2, 306), (2, a1), (9, 0), (0, x3)] [] I R Q := by
  refine P_iinc (n := 3) (a := 1) (by decide) rfl (q := 104) rfl (by decide +kernel) ?_
  refine P_goto (off := (-28)) (t := 76) (by decide) (by decide +kernel) ?_
  exact h
theorem S_X11_isHere_107 {X : CX} {d : Nat} {I R : PF} {Q : PV → PF → PF → Prop} (h : Q (0, 1) I R) : PN X d mX11_isHere 107 [] [] I R Q := by
  refine P_iconst (n := 1) (q := 108) rfl (by decide +kernel) ?_
  refine P_zret rfl (Or.inr rfl) (by decide +kernel) h
theorem S_X11_isImage_0 {X : CX} {d : Nat} {x1 : Int} {I R : PF} {Q : PV → PF → PF → Prop} (c1 : -2147483648 ≤ (I 306 55) ∧ (I 306 55) < 2147483648) (h1 : (I 306 55) = 0 → PN X d mX11_isImage 64 [] [] I R Q) (h2 : (I 306 55) ≠ 0 → PN X d mX11_isImage 7 [(2, 306), (0, x1)] [] I R Q) : PN X d mX11_isImage 0 [(2, 306), (0, x1)] [] I R Q := by
  refine P_aload_n (n := 0) (q := 1) rfl rfl (by decide +kernel) ?_
  refine P_getf (q := 4) fX11_296 kM306 rfl (by decide +kernel) ?_
  refine B_if_eq (off := 60) (t := 64) (q := 7) c1 (by decide) rfl (by decide +kernel) ?_ ?_
  · exact fun g9 => (PW_sub (ls' := []) trivial (h1 g9))
  · exact fun g9 => (h2 g9)
theorem S_X11_isImage_7 {X : CX} {d d1 : Nat} {x1 : Int} {I R : PF} {Q Q1 : PV → PF → PF → Prop} (e1 : d1 + 1 ≤ d) (hc : CN X d1 mX11_personMany [(2, 306)] I R Q1) (h : ∀ z I2 R2, Q1 (0, z) I2 R2 → PN X d mX11_isImage 15 [(2, 306), (0, x1)] [(0, z), (0, 6), (0, 5), (0, x1)] I2 R2 Q) : PN X d mX11_isImage 7 [(2, 306), (0, x1)] [] I R Q := by
  refine P_iload_n (n := 1) (q := 8) rfl rfl (by decide +kernel) ?_
  refine P_iconst (n := 5) (q := 9) rfl (by decide +kernel) ?_
  refine P_bipush (n := 6) (q := 11) rfl rfl (by decide +kernel) ?_
  refine P_aload_n (n := 0) (q := 12) rfl rfl (by decide +kernel) ?_
  refine P_invV (As := []) (q := 15) oX11_personMany rfl kM306 kX11_420 e1 hMF (Nat.le_of_ble_eq_true rfl) hc rfl (by decide +kernel) (fun z I2 R2 hq => ?_)
  exact (h z I2 R2 hq)
theorem S_X11_isImage_15 {X : CX} {d : Nat} {x1 o0 o1 o2 o3 : Int} {I R : PF} {Q : PV → PF → PF → Prop} (c1 : -2147483648 ≤ o0 ∧ o0 < 2147483648) (c2 : -2147483648 ≤ (o1 + (o2 * o3)) ∧ (o1 + (o2 * o3)) < 2147483648) (h1 : o0 ≠ (o1 + (o2 * o3)) → PN X d mX11_isImage 64 [] [] I R Q) (h2 : o0 = (o1 + (o2 * o3)) → PN X d mX11_isImage 20 [(2, 306), (0, x1)] [] I R Q) : PN X d mX11_isImage 15 [(2, 306), (0, x1)] [(0, o3), (0, o2), (0, o1), (0, o0)] I R Q := by
  refine P_imul (q := 16) rfl (by decide +kernel) ?_
  refine P_iadd (q := 17) rfl (by decide +kernel) ?_
  refine B_icmp_ne (off := 47) (t := 64) (q := 20) c1 c2 (by decide) rfl (by decide +kernel) ?_ ?_
  · exact fun g9 => (PW_sub (ls' := []) trivial (h1 g9))
  · exact fun g9 => (h2 g9)
theorem S_X11_isImage_20 {X : CX} {d d1 : Nat} {x1 : Int} {I R : PF} {Q Q1 : PV → PF → PF → Prop} (hs : Shp R) (b1 : (0 : Int) ≤ (x1 - 1) ∧ (x1 - 1) < 1600) (e1 : d1 + 1 ≤ d) (hc : CN X d1 mX11_checked [(2, 307), (0, (x1 - 1))] I R Q1) (h : ∀ z I2 R2, Q1 (0, z) I2 R2 → PN X d mX11_isImage 38 [(2, 306)] [(0, z), (0, (I 307 (x1 - 1)))] I2 R2 Q) : PN X d mX11_isImage 20 [(2, 306), (0, x1)] [] I R Q := by
  refine P_aload_n (n := 0) (q := 21) rfl rfl (by decide +kernel) ?_
  refine B_getfR (q := 24) fX11_11 kM306 (rM306_0 hs) rfl (by decide +kernel) ?_
  refine P_iload_n (n := 1) (q := 25) rfl rfl (by decide +kernel) ?_
  refine P_iconst (n := 1) (q := 26) rfl (by decide +kernel) ?_
  refine P_isub (q := 27) rfl (by decide +kernel) ?_
  refine B_iaload (q := 28) kM307 nM307 (by decide) b1 rfl (by decide +kernel) ?_
  refine P_aload_n (n := 0) (q := 29) rfl rfl (by decide +kernel) ?_
  refine B_getfR (q := 32) fX11_11 kM306 (rM306_0 hs) rfl (by decide +kernel) ?_
  refine P_iload_n (n := 1) (q := 33) rfl rfl (by decide +kernel) ?_
  refine P_iconst (n := 1) (q := 34) rfl (by decide +kernel) ?_
  refine P_isub (q := 35) rfl (by decide +kernel) ?_
  refine P_invS (As := [(2, 307), (0, (x1 - 1))]) (q := 38) oX11_checked rfl (Or.inl kX11_705) e1 hMF (Nat.le_of_ble_eq_true rfl) hc rfl (by decide +kernel) (fun z I2 R2 hq => ?_)
  exact (PW_sub (ls' := [(2, 306)]) ⟨Or.inr rfl, trivial⟩ (h z I2 R2 hq))
theorem S_X11_isImage_38 {X : CX} {d : Nat} {o0 o1 : Int} {I R : PF} {Q : PV → PF → PF → Prop} (c1 : -2147483648 ≤ o0 ∧ o0 < 2147483648) (c2 : -2147483648 ≤ o1 ∧ o1 < 2147483648) (h1 : o0 ≠ o1 → PN X d mX11_isImage 64 [] [] I R Q) (h2 : o0 = o1 → PN X d mX11_isImage 41 [(2, 306)] [] I R Q) : PN X d mX11_isImage 38 [(2, 306)] [(0, o1), (0, o0)] I R Q := by
  refine B_icmp_ne (off := 26) (t := 64) (q := 41) c1 c2 (by decide) rfl (by decide +kernel) ?_ ?_
  · exact fun g9 => (PW_sub (ls' := []) trivial (h1 g9))
  · exact fun g9 => (PW_sub (ls' := [(2, 306)]) ⟨Or.inr rfl, trivial⟩ (h2 g9))
theorem S_X11_isImage_41 {X : CX} {d : Nat} {I R : PF} {Q : PV → PF → PF → Prop} (hs : Shp R) (c1 : -2147483648 ≤ ((256 * (I 307 0)) + (I 307 1)) ∧ ((256 * (I 307 0)) + (I 307 1)) < 2147483648) (h1 : ((256 * (I 307 0)) + (I 307 1)) ≤ 999 → PN X d mX11_isImage 66 [(2, 306)] [] I R Q) (h2 : 999 < ((256 * (I 307 0)) + (I 307 1)) → PN X d mX11_isImage 64 [] [] I R Q) : PN X d mX11_isImage 41 [(2, 306)] [] I R Q := by
  refine P_sipush (n := 256) (q := 44) rfl rfl (by decide +kernel) ?_
  refine P_aload_n (n := 0) (q := 45) rfl rfl (by decide +kernel) ?_
  refine B_getfR (q := 48) fX11_11 kM306 (rM306_0 hs) rfl (by decide +kernel) ?_
  refine P_iconst (n := 0) (q := 49) rfl (by decide +kernel) ?_
  refine B_iaload (q := 50) kM307 nM307 (by decide) ⟨by decide, by decide⟩ rfl (by decide +kernel) ?_
  refine P_imul (q := 51) rfl (by decide +kernel) ?_
  refine P_aload_n (n := 0) (q := 52) rfl rfl (by decide +kernel) ?_
  refine B_getfR (q := 55) fX11_11 kM306 (rM306_0 hs) rfl (by decide +kernel) ?_
  refine P_iconst (n := 1) (q := 56) rfl (by decide +kernel) ?_
  refine B_iaload (q := 57) kM307 nM307 (by decide) ⟨by decide, by decide⟩ rfl (by decide +kernel) ?_
  refine P_iadd (q := 58) rfl (by decide +kernel) ?_
  refine P_sipush (n := 999) (q := 61) rfl rfl (by decide +kernel) ?_
  refine B_icmp_le (off := 5) (t := 66) (q := 64) c1 ⟨by decide, by decide⟩ (by decide) rfl (by decide +kernel) ?_ ?_
  · exact fun g9 => (PW_sub (ls' := [(2, 306)]) ⟨Or.inr rfl, trivial⟩ (h1 g9))
  · exact fun g9 => (PW_sub (ls' := []) trivial (h2 g9))
theorem S_X11_isImage_64 {X : CX} {d : Nat} {I R : PF} {Q : PV → PF → PF → Prop} (h : Q (0, 0) I R) : PN X d mX11_isImage 64 [] [] I R Q := by
  refine P_iconst (n := 0) (q := 65) rfl (by decide +kernel) ?_
  refine P_zret rfl (Or.inl rfl) (by decide +kernel) h
theorem S_X11_isImage_66 {X : CX} {d d1 : Nat} {I R : PF} {Q Q1 : PV → PF → PF → Prop} (hs : Shp R) (e1 : d1 + 1 ≤ d) (hc : CN X d1 mX11_personMany [(2, 306)] I R Q1) (h : ∀ z I2 R2, Q1 (0, z) I2 R2 → PN X d mX11_isImage 76 [(2, 306)] [(0, z), (0, (I 307 2))] I2 R2 Q) : PN X d mX11_isImage 66 [(2, 306)] [] I R Q := by
  refine P_aload_n (n := 0) (q := 67) rfl rfl (by decide +kernel) ?_
  refine B_getfR (q := 70) fX11_11 kM306 (rM306_0 hs) rfl (by decide +kernel) ?_
  refine P_iconst (n := 2) (q := 71) rfl (by decide +kernel) ?_
  refine B_iaload (q := 72) kM307 nM307 (by decide) ⟨by decide, by decide⟩ rfl (by decide +kernel) ?_
  refine P_aload_n (n := 0) (q := 73) rfl rfl (by decide +kernel) ?_
  refine P_invV (As := []) (q := 76) oX11_personMany rfl kM306 kX11_420 e1 hMF (Nat.le_of_ble_eq_true rfl) hc rfl (by decide +kernel) (fun z I2 R2 hq => ?_)
  exact (PW_sub (ls' := [(2, 306)]) ⟨Or.inr rfl, trivial⟩ (h z I2 R2 hq))
theorem S_X11_isImage_76 {X : CX} {d : Nat} {o0 o1 : Int} {I R : PF} {Q : PV → PF → PF → Prop} (c1 : -2147483648 ≤ o0 ∧ o0 < 2147483648) (c2 : -2147483648 ≤ o1 ∧ o1 < 2147483648) (h1 : o1 < o0 → PN X d mX11_isImage 121 [] [] I R Q) (h2 : o0 ≤ o1 → PN X d mX11_isImage 79 [(2, 306)] [] I R Q) : PN X d mX11_isImage 76 [(2, 306)] [(0, o1), (0, o0)] I R Q := by
  refine B_icmp_gt (off := 45) (t := 121) (q := 79) c1 c2 (by decide) rfl (by decide +kernel) ?_ ?_
  · exact fun g9 => (PW_sub (ls' := []) trivial (h1 g9))
  · exact fun g9 => (PW_sub (ls' := [(2, 306)]) ⟨Or.inr rfl, trivial⟩ (h2 g9))
theorem S_X11_isImage_79 {X : CX} {d : Nat} {I R : PF} {Q : PV → PF → PF → Prop} (hs : Shp R) (c1 : -2147483648 ≤ (I 307 3) ∧ (I 307 3) < 2147483648) (h1 : 99 < (I 307 3) → PN X d mX11_isImage 121 [] [] I R Q) (h2 : (I 307 3) ≤ 99 → PN X d mX11_isImage 90 [(2, 306)] [] I R Q) : PN X d mX11_isImage 79 [(2, 306)] [] I R Q := by
  refine P_aload_n (n := 0) (q := 80) rfl rfl (by decide +kernel) ?_
  refine B_getfR (q := 83) fX11_11 kM306 (rM306_0 hs) rfl (by decide +kernel) ?_
  refine P_iconst (n := 3) (q := 84) rfl (by decide +kernel) ?_
  refine B_iaload (q := 85) kM307 nM307 (by decide) ⟨by decide, by decide⟩ rfl (by decide +kernel) ?_
  refine P_bipush (n := 99) (q := 87) rfl rfl (by decide +kernel) ?_
  refine B_icmp_gt (off := 34) (t := 121) (q := 90) c1 ⟨by decide, by decide⟩ (by decide) rfl (by decide +kernel) ?_ ?_
  · exact fun g9 => (PW_sub (ls' := []) trivial (h1 g9))
  · exact fun g9 => (PW_sub (ls' := [(2, 306)]) ⟨Or.inr rfl, trivial⟩ (h2 g9))
theorem S_X11_isImage_90 {X : CX} {d : Nat} {I R : PF} {Q : PV → PF → PF → Prop} (hs : Shp R) (c1 : -2147483648 ≤ (I 307 2) ∧ (I 307 2) < 2147483648) (h1 : (I 307 2) ≠ 0 → PN X d mX11_isImage 103 [(2, 306)] [] I R Q) (h2 : (I 307 2) = 0 → PN X d mX11_isImage 99 [(2, 306)] [] I R Q) : PN X d mX11_isImage 90 [(2, 306)] [] I R Q := by
  refine P_aload_n (n := 0) (q := 91) rfl rfl (by decide +kernel) ?_
  refine B_getfR (q := 94) fX11_11 kM306 (rM306_0 hs) rfl (by decide +kernel) ?_
  refine P_iconst (n := 2) (q := 95) rfl (by decide +kernel) ?_
  refine B_iaload (q := 96) kM307 nM307 (by decide) ⟨by decide, by decide⟩ rfl (by decide +kernel) ?_
  refine B_if_ne (off := 7) (t := 103) (q := 99) c1 (by decide) rfl (by decide +kernel) ?_ ?_
  · exact fun g9 => (PW_sub (ls' := [(2, 306)]) ⟨Or.inr rfl, trivial⟩ (h1 g9))
  · exact fun g9 => (PW_sub (ls' := [(2, 306)]) ⟨Or.inr rfl, trivial⟩ (h2 g9))
theorem S_X11_isImage_99 {X : CX} {d : Nat} {I R : PF} {Q : PV → PF → PF → Prop} (h : PN X d mX11_isImage 104 [(2, 306)] [(0, 1)] I R Q) : PN X d mX11_isImage 99 [(2, 306)] [] I R Q := by
  refine P_iconst (n := 1) (q := 100) rfl (by decide +kernel) ?_
  refine P_goto (off := 4) (t := 104) (by decide) (by decide +kernel) ?_
  exact (PW_sub (ls' := [(2, 306)]) ⟨Or.inr rfl, trivial⟩ h)
theorem S_X11_isImage_103 {X : CX} {d : Nat} {I R : PF} {Q : PV → PF → PF → Prop} (h : PN X d mX11_isImage 104 [(2, 306)] [(0, 0)] I R Q) : PN X d mX11_isImage 103 [(2, 306)] [] I R Q := by
  refine P_iconst (n := 0) (q := 104) rfl (by decide +kernel) ?_
  exact (PW_sub (ls' := [(2, 306)]) ⟨Or.inr rfl, trivial⟩ h)
theorem S_X11_isImage_104 {X : CX} {d : Nat} {o0 : Int} {I R : PF} {Q : PV → PF → PF → Prop} (hs : Shp R) (c1 : -2147483648 ≤ (I 307 3) ∧ (I 307 3) < 2147483648) (h1 : (I 307 3) ≠ 0 → PN X d mX11_isImage 117 [(2, 306)] [(0, o0)] I R Q) (h2 : (I 307 3) = 0 → PN X d mX11_isImage 113 [(2, 306)] [(0, o0)] I R Q) : PN X d mX11_isImage 104 [(2, 306)] [(0, o0)] I R Q := by
  refine P_aload_n (n := 0) (q := 105) rfl rfl (by decide +kernel) ?_
  refine B_getfR (q := 108) fX11_11 kM306 (rM306_0 hs) rfl (by decide +kernel) ?_
  refine P_iconst (n := 3) (q := 109) rfl (by decide +kernel) ?_
  refine B_iaload (q := 110) kM307 nM307 (by decide) ⟨by decide, by decide⟩ rfl (by decide +kernel) ?_
  refine B_if_ne (off := 7) (t := 117) (q := 113) c1 (by decide) rfl (by decide +kernel) ?_ ?_
  · exact fun g9 => (PW_sub (ls' := [(2, 306)]) ⟨Or.inr rfl, trivial⟩ (h1 g9))
  · exact fun g9 => (PW_sub (ls' := [(2, 306)]) ⟨Or.inr rfl, trivial⟩ (h2 g9))
theorem S_X11_isImage_113 {X : CX} {d : Nat} {o0 : Int} {I R : PF} {Q : PV → PF → PF → Prop} (h : PN X d mX11_isImage 118 [(2, 306)] [(0, 1), (0, o0)] I R Q) : PN X d mX11_isImage 113 [(2, 306)] [(0, o0)] I R Q := by
  refine P_iconst (n := 1) (q := 114) rfl (by decide +kernel) ?_
  refine P_goto (off := 4) (t := 118) (by decide) (by decide +kernel) ?_
  exact (PW_sub (ls' := [(2, 306)]) ⟨Or.inr rfl, trivial⟩ h)
theorem S_X11_isImage_117 {X : CX} {d : Nat} {o0 : Int} {I R : PF} {Q : PV → PF → PF → Prop} (h : PN X d mX11_isImage 118 [(2, 306)] [(0, 0), (0, o0)] I R Q) : PN X d mX11_isImage 117 [(2, 306)] [(0, o0)] I R Q := by
  refine P_iconst (n := 0) (q := 118) rfl (by decide +kernel) ?_
  exact (PW_sub (ls' := [(2, 306)]) ⟨Or.inr rfl, trivial⟩ h)
theorem S_X11_isImage_118 {X : CX} {d : Nat} {o0 o1 : Int} {I R : PF} {Q : PV → PF → PF → Prop} (c1 : -2147483648 ≤ o0 ∧ o0 < 2147483648) (c2 : -2147483648 ≤ o1 ∧ o1 < 2147483648) (h1 : o0 = o1 → PN X d mX11_isImage 123 [(2, 306)] [] I R Q) (h2 : o0 ≠ o1 → PN X d mX11_isImage 121 [] [] I R Q) : PN X d mX11_isImage 118 [(2, 306)] [(0, o1), (0, o0)] I R Q := by
  refine B_icmp_eq (off := 5) (t := 123) (q := 121) c1 c2 (by decide) rfl (by decide +kernel) ?_ ?_
  · exact fun g9 => (PW_sub (ls' := [(2, 306)]) ⟨Or.inr rfl, trivial⟩ (h1 g9))
  · exact fun g9 => (PW_sub (ls' := []) trivial (h2 g9))
theorem S_X11_isImage_121 {X : CX} {d : Nat} {I R : PF} {Q : PV → PF → PF → Prop} (h : Q (0, 0) I R) : PN X d mX11_isImage 121 [] [] I R Q := by
  refine P_iconst (n := 0) (q := 122) rfl (by decide +kernel) ?_
  refine P_zret rfl (Or.inl rfl) (by decide +kernel) h
theorem S_X11_isImage_123 {X : CX} {d : Nat} {I R : PF} {Q : PV → PF → PF → Prop} (h : PN X d mX11_isImage 125 [(2, 306), (9, 0), (0, 0)] [] I R Q) : PN X d mX11_isImage 123 [(2, 306)] [] I R Q := by
  refine P_iconst (n := 0) (q := 124) rfl (by decide +kernel) ?_
  refine P_istore_n (n := 2) (by decide) (q := 125) rfl (by decide +kernel) ?_
  exact h
theorem S_X11_isImage_125 {X : CX} {d d1 : Nat} {x2 : Int} {I R : PF} {Q Q1 : PV → PF → PF → Prop} (e1 : d1 + 1 ≤ d) (hc : CN X d1 mX11_personMany [(2, 306)] I R Q1) (h : ∀ z I2 R2, Q1 (0, z) I2 R2 → PN X d mX11_isImage 130 [(2, 306), (9, 0), (0, x2)] [(0, z), (0, x2)] I2 R2 Q) : PN X d mX11_isImage 125 [(2, 306), (9, 0), (0, x2)] [] I R Q := by
  refine P_iload_n (n := 2) (q := 126) rfl rfl (by decide +kernel) ?_
  refine P_aload_n (n := 0) (q := 127) rfl rfl (by decide +kernel) ?_
  refine P_invV (As := []) (q := 130) oX11_personMany rfl kM306 kX11_420 e1 hMF (Nat.le_of_ble_eq_true rfl) hc rfl (by decide +kernel) (fun z I2 R2 hq => ?_)
  exact (h z I2 R2 hq)
theorem S_X11_isImage_130 {X : CX} {d : Nat} {x2 o0 o1 : Int} {I R : PF} {Q : PV → PF → PF → Prop} (c1 : -2147483648 ≤ o0 ∧ o0 < 2147483648) (c2 : -2147483648 ≤ o1 ∧ o1 < 2147483648) (h1 : o1 ≤ o0 → PN X d mX11_isImage 149 [] [] I R Q) (h2 : o0 < o1 → PN X d mX11_isImage 133 [(2, 306), (9, 0), (0, x2)] [] I R Q) : PN X d mX11_isImage 130 [(2, 306), (9, 0), (0, x2)] [(0, o1), (0, o0)] I R Q := by
  refine B_icmp_ge (off := 19) (t := 149) (q := 133) c1 c2 (by decide) rfl (by decide +kernel) ?_ ?_
  · exact fun g9 => (PW_sub (ls' := []) trivial (h1 g9))
  · exact fun g9 => (h2 g9)
theorem S_X11_isImage_133 {X : CX} {d d1 : Nat} {x2 : Int} {I R : PF} {Q Q1 : PV → PF → PF → Prop} (e1 : d1 + 1 ≤ d) (hc : CN X d1 mX11_isPersonHere [(2, 306), (0, x2)] I R Q1) (h : ∀ z I2 R2, Q1 (0, z) I2 R2 → PN X d mX11_isImage 138 [(2, 306), (9, 0), (0, x2)] [(0, z)] I2 R2 Q) : PN X d mX11_isImage 133 [(2, 306), (9, 0), (0, x2)] [] I R Q := by
  refine P_aload_n (n := 0) (q := 134) rfl rfl (by decide +kernel) ?_
  refine P_iload_n (n := 2) (q := 135) rfl rfl (by decide +kernel) ?_
  refine P_invV (As := [(0, x2)]) (q := 138) oX11_isPersonHere rfl kM306 kX11_709 e1 hMF (Nat.le_of_ble_eq_true rfl) hc rfl (by decide +kernel) (fun z I2 R2 hq => ?_)
  exact (h z I2 R2 hq)
theorem S_X11_isImage_138 {X : CX} {d : Nat} {x2 o0 : Int} {I R : PF} {Q : PV → PF → PF → Prop} (c1 : -2147483648 ≤ o0 ∧ o0 < 2147483648) (h1 : o0 ≠ 0 → PN X d mX11_isImage 143 [(2, 306), (9, 0), (0, x2)] [] I R Q) (h2 : o0 = 0 → PN X d mX11_isImage 141 [] [] I R Q) : PN X d mX11_isImage 138 [(2, 306), (9, 0), (0, x2)] [(0, o0)] I R Q := by
  refine B_if_ne (off := 5) (t := 143) (q := 141) c1 (by decide) rfl (by decide +kernel) ?_ ?_
  · exact fun g9 => (h1 g9)
  · exact fun g9 => (PW_sub (ls' := []) trivial (h2 g9))
theorem S_X11_isImage_141 {X : CX} {d : Nat} {I R : PF} {Q : PV → PF → PF → Prop} (h : Q (0, 0) I R) : PN X d mX11_isImage 141 [] [] I R Q := by
  refine P_iconst (n := 0) (q := 142) rfl (by decide +kernel) ?_
  refine P_zret rfl (Or.inl rfl) (by decide +kernel) h
theorem S_X11_isImage_143 {X : CX} {d : Nat} {x2 : Int} {I R : PF} {Q : PV → PF → PF → Prop} (h : PN X d mX11_isImage 125 [(2, 306), (9, 0), (0, (x2 + 1))] [] I R Q) : PN X d mX11_isImage 143 [(2, 306), (9, 0), (0, x2)] [] I R Q := by
  refine P_iinc (n := 2) (a := 1) (by decide) rfl (q := 146) rfl (by decide +kernel) ?_
  refine P_goto (off := (-21)) (t := 125) (by decide) (by decide +kernel) ?_
  exact h
theorem S_X11_isImage_149 {X : CX} {d : Nat} {I R : PF} {Q : PV → PF → PF → Prop} (h : Q (0, 1) I R) : PN X d mX11_isImage 149 [] [] I R Q := by
  refine P_iconst (n := 1) (q := 150) rfl (by decide +kernel) ?_
  refine P_zret rfl (Or.inr rfl) (by decide +kernel) h
