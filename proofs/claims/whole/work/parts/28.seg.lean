theorem S_X11_name_0 {X : CX} {d : Nat} {I R : PF} {Q : PV → PF → PF → Prop} (c1 : -2147483648 ≤ (I 306 5) ∧ (I 306 5) < 2147483648) (h1 : (I 306 5) = 0 → PN X d mX11_name 9 [(2, 306)] [] I R Q) (h2 : (I 306 5) ≠ 0 → PN X d mX11_name 7 [] [] I R Q) : PN X d mX11_name 0 [(2, 306)] [] I R Q := by
  refine P_aload_n (n := 0) (q := 1) rfl rfl (by decide +kernel) ?_
  refine P_getf (q := 4) fX11_14 kM306 rfl (by decide +kernel) ?_
  refine B_if_eq (off := 5) (t := 9) (q := 7) c1 (by decide) rfl (by decide +kernel) ?_ ?_
  · exact fun g9 => (h1 g9)
  · exact fun g9 => (PW_sub (ls' := []) trivial (h2 g9))
theorem S_X11_name_7 {X : CX} {d : Nat} {I R : PF} {Q : PV → PF → PF → Prop} (h : Q (1, 0) I R) : PN X d mX11_name 7 [] [] I R Q := by
  refine P_lconst (n := 0) (x := 0) (q := 8) rfl rfl (by decide +kernel) ?_
  refine P_lret rfl (by decide +kernel) h
theorem S_X11_name_9 {X : CX} {d d1 : Nat} {I R : PF} {Q Q1 : PV → PF → PF → Prop} (e1 : d1 + 1 ≤ d) (hc : CN X d1 mX11_look [(2, 306)] I R Q1) (h : ∀ z I2 R2, Q1 (0, z) I2 R2 → PN X d mX11_name 13 [(2, 306)] [(0, z)] I2 R2 Q) : PN X d mX11_name 9 [(2, 306)] [] I R Q := by
  refine P_aload_n (n := 0) (q := 10) rfl rfl (by decide +kernel) ?_
  refine P_invV (As := []) (q := 13) oX11_look rfl kM306 kX11_26 e1 hMF (Nat.le_of_ble_eq_true rfl) hc rfl (by decide +kernel) (fun z I2 R2 hq => ?_)
  exact (h z I2 R2 hq)
theorem S_X11_name_13 {X : CX} {d d1 : Nat} {o0 : Int} {I R : PF} {Q Q1 : PV → PF → PF → Prop} (e1 : d1 + 1 ≤ d) (hc : CN X d1 mX11_isLetter [(0, o0)] I R Q1) (h : ∀ z I2 R2, Q1 (0, z) I2 R2 → PN X d mX11_name 16 [(2, 306)] [(0, z)] I2 R2 Q) : PN X d mX11_name 13 [(2, 306)] [(0, o0)] I R Q := by
  refine P_invS (As := [(0, o0)]) (q := 16) oX11_isLetter rfl (Or.inl kX11_30) e1 hMF (Nat.le_of_ble_eq_true rfl) hc rfl (by decide +kernel) (fun z I2 R2 hq => ?_)
  exact (h z I2 R2 hq)
theorem S_X11_name_16 {X : CX} {d : Nat} {o0 : Int} {I R : PF} {Q : PV → PF → PF → Prop} (c1 : -2147483648 ≤ o0 ∧ o0 < 2147483648) (h1 : o0 = 0 → PN X d mX11_name 37 [(2, 306)] [] I R Q) (h2 : o0 ≠ 0 → PN X d mX11_name 19 [(2, 306)] [] I R Q) : PN X d mX11_name 16 [(2, 306)] [(0, o0)] I R Q := by
  refine B_if_eq (off := 21) (t := 37) (q := 19) c1 (by decide) rfl (by decide +kernel) ?_ ?_
  · exact fun g9 => (h1 g9)
  · exact fun g9 => (h2 g9)
theorem S_X11_name_19 {X : CX} {d : Nat} {I R : PF} {Q : PV → PF → PF → Prop} (c1 : -2147483648 ≤ (I 306 2) ∧ (I 306 2) < 2147483648) (c2 : -2147483648 ≤ (I 306 4) ∧ (I 306 4) < 2147483648) (h1 : (I 306 2) = (I 306 4) → PN X d mX11_name 37 [(2, 306)] [] I R Q) (h2 : (I 306 2) ≠ (I 306 4) → PN X d mX11_name 30 [(2, 306)] [] I R Q) : PN X d mX11_name 19 [(2, 306)] [] I R Q := by
  refine P_aload_n (n := 0) (q := 20) rfl rfl (by decide +kernel) ?_
  refine P_getf (q := 23) fX11_20 kM306 rfl (by decide +kernel) ?_
  refine P_aload_n (n := 0) (q := 24) rfl rfl (by decide +kernel) ?_
  refine P_getf (q := 27) fX11_34 kM306 rfl (by decide +kernel) ?_
  refine B_icmp_eq (off := 10) (t := 37) (q := 30) c1 c2 (by decide) rfl (by decide +kernel) ?_ ?_
  · exact fun g9 => (h1 g9)
  · exact fun g9 => (h2 g9)
theorem S_X11_name_30 {X : CX} {d d1 : Nat} {I R : PF} {Q Q1 : PV → PF → PF → Prop} (e1 : d1 + 1 ≤ d) (hc : CN X d1 mX11_isOwnHere [(2, 306)] I R Q1) (h : ∀ z I2 R2, Q1 (0, z) I2 R2 → PN X d mX11_name 34 [(2, 306)] [(0, z)] I2 R2 Q) : PN X d mX11_name 30 [(2, 306)] [] I R Q := by
  refine P_aload_n (n := 0) (q := 31) rfl rfl (by decide +kernel) ?_
  refine P_invV (As := []) (q := 34) oX11_isOwnHere rfl kM306 kX11_152 e1 hMF (Nat.le_of_ble_eq_true rfl) hc rfl (by decide +kernel) (fun z I2 R2 hq => ?_)
  exact (h z I2 R2 hq)
theorem S_X11_name_34 {X : CX} {d : Nat} {o0 : Int} {I R : PF} {Q : PV → PF → PF → Prop} (c1 : -2147483648 ≤ o0 ∧ o0 < 2147483648) (h1 : o0 = 0 → PN X d mX11_name 48 [(2, 306)] [] I R Q) (h2 : o0 ≠ 0 → PN X d mX11_name 37 [(2, 306)] [] I R Q) : PN X d mX11_name 34 [(2, 306)] [(0, o0)] I R Q := by
  refine B_if_eq (off := 14) (t := 48) (q := 37) c1 (by decide) rfl (by decide +kernel) ?_ ?_
  · exact fun g9 => (h1 g9)
  · exact fun g9 => (h2 g9)
theorem S_X11_name_37 {X : CX} {d d1 : Nat} {I R : PF} {Q Q1 : PV → PF → PF → Prop} (e1 : d1 + 1 ≤ d) (hc : CN X d1 mX11_fail [(2, 306), (0, 1), (0, (I 306 2))] I R Q1) (h : ∀ z I2 R2, Q1 (9, z) I2 R2 → PN X d mX11_name 46 [] [] I2 R2 Q) : PN X d mX11_name 37 [(2, 306)] [] I R Q := by
  refine P_aload_n (n := 0) (q := 38) rfl rfl (by decide +kernel) ?_
  refine P_iconst (n := 1) (q := 39) rfl (by decide +kernel) ?_
  refine P_aload_n (n := 0) (q := 40) rfl rfl (by decide +kernel) ?_
  refine P_getf (q := 43) fX11_20 kM306 rfl (by decide +kernel) ?_
  refine P_invV (As := [(0, 1), (0, (I 306 2))]) (q := 46) oX11_fail rfl kM306 kX11_44 e1 hMF (Nat.le_of_ble_eq_true rfl) hc rfl (by decide +kernel) (fun z I2 R2 hq => ?_)
  exact (PW_sub (ls' := []) trivial (h z I2 R2 hq))
theorem S_X11_name_46 {X : CX} {d : Nat} {I R : PF} {Q : PV → PF → PF → Prop} (h : Q (1, 0) I R) : PN X d mX11_name 46 [] [] I R Q := by
  refine P_lconst (n := 0) (x := 0) (q := 47) rfl rfl (by decide +kernel) ?_
  refine P_lret rfl (by decide +kernel) h
theorem S_X11_name_48 {X : CX} {d : Nat} {I R : PF} {Q : PV → PF → PF → Prop} (h : PN X d mX11_name 58 [(2, 306), (1, 0)] [] (u2 I 306 41 (I 306 2)) R Q) : PN X d mX11_name 48 [(2, 306)] [] I R Q := by
  refine P_aload_n (n := 0) (q := 49) rfl rfl (by decide +kernel) ?_
  refine P_aload_n (n := 0) (q := 50) rfl rfl (by decide +kernel) ?_
  refine P_getf (q := 53) fX11_20 kM306 rfl (by decide +kernel) ?_
  refine P_putI (q := 56) wX11_156 (fun h => by cases h) kM306 rfl (by decide +kernel) ?_
  refine P_lconst (n := 0) (x := 0) (q := 57) rfl rfl (by decide +kernel) ?_
  refine P_lstore_n (n := 1) (by decide) (q := 58) rfl (by decide +kernel) ?_
  exact (PW_sub (ls' := [(2, 306), (1, 0)]) ⟨Or.inr rfl, Or.inr rfl, trivial⟩ h)
theorem S_X11_name_58 {X : CX} {d : Nat} {y1 : Int} {I R : PF} {Q : PV → PF → PF → Prop} (c1 : -2147483648 ≤ (I 306 2) ∧ (I 306 2) < 2147483648) (c2 : -2147483648 ≤ (I 306 3) ∧ (I 306 3) < 2147483648) (h1 : (I 306 3) ≤ (I 306 2) → PN X d mX11_name 145 [(2, 306), (1, y1)] [] I R Q) (h2 : (I 306 2) < (I 306 3) → PN X d mX11_name 69 [(2, 306), (1, y1)] [] I R Q) : PN X d mX11_name 58 [(2, 306), (1, y1)] [] I R Q := by
  refine P_aload_n (n := 0) (q := 59) rfl rfl (by decide +kernel) ?_
  refine P_getf (q := 62) fX11_20 kM306 rfl (by decide +kernel) ?_
  refine P_aload_n (n := 0) (q := 63) rfl rfl (by decide +kernel) ?_
  refine P_getf (q := 66) fX11_23 kM306 rfl (by decide +kernel) ?_
  refine B_icmp_ge (off := 79) (t := 145) (q := 69) c1 c2 (by decide) rfl (by decide +kernel) ?_ ?_
  · exact fun g9 => (PW_sub (ls' := [(2, 306), (1, y1)]) ⟨Or.inr rfl, Or.inr rfl, trivial⟩ (h1 g9))
  · exact fun g9 => (PW_sub (ls' := [(2, 306), (1, y1)]) ⟨Or.inr rfl, Or.inr rfl, trivial⟩ (h2 g9))
theorem S_X11_name_69 {X : CX} {d d1 : Nat} {y1 : Int} {I R : PF} {Q Q1 : PV → PF → PF → Prop} (hs : Shp R) (b1 : (0 : Int) ≤ (I 306 2) ∧ (I 306 2) < 1600) (e1 : d1 + 1 ≤ d) (hc : CN X d1 mX11_isLetter [(0, (I 307 (I 306 2)))] I R Q1) (h : ∀ z I2 R2, Q1 (0, z) I2 R2 → PN X d mX11_name 81 [(2, 306), (1, y1)] [(0, z)] I2 R2 Q) : PN X d mX11_name 69 [(2, 306), (1, y1)] [] I R Q := by
  refine P_aload_n (n := 0) (q := 70) rfl rfl (by decide +kernel) ?_
  refine B_getfR (q := 73) fX11_11 kM306 (rM306_0 hs) rfl (by decide +kernel) ?_
  refine P_aload_n (n := 0) (q := 74) rfl rfl (by decide +kernel) ?_
  refine P_getf (q := 77) fX11_20 kM306 rfl (by decide +kernel) ?_
  refine B_iaload (q := 78) kM307 nM307 (by decide) b1 rfl (by decide +kernel) ?_
  refine P_invS (As := [(0, (I 307 (I 306 2)))]) (q := 81) oX11_isLetter rfl (Or.inl kX11_30) e1 hMF (Nat.le_of_ble_eq_true rfl) hc rfl (by decide +kernel) (fun z I2 R2 hq => ?_)
  exact (PW_sub (ls' := [(2, 306), (1, y1)]) ⟨Or.inr rfl, Or.inr rfl, trivial⟩ (h z I2 R2 hq))
theorem S_X11_name_81 {X : CX} {d : Nat} {y1 o0 : Int} {I R : PF} {Q : PV → PF → PF → Prop} (c1 : -2147483648 ≤ o0 ∧ o0 < 2147483648) (h1 : o0 = 0 → PN X d mX11_name 145 [(2, 306), (1, y1)] [] I R Q) (h2 : o0 ≠ 0 → PN X d mX11_name 84 [(2, 306), (1, y1)] [] I R Q) : PN X d mX11_name 81 [(2, 306), (1, y1)] [(0, o0)] I R Q := by
  refine B_if_eq (off := 64) (t := 145) (q := 84) c1 (by decide) rfl (by decide +kernel) ?_ ?_
  · exact fun g9 => (PW_sub (ls' := [(2, 306), (1, y1)]) ⟨Or.inr rfl, Or.inr rfl, trivial⟩ (h1 g9))
  · exact fun g9 => (PW_sub (ls' := [(2, 306), (1, y1)]) ⟨Or.inr rfl, Or.inr rfl, trivial⟩ (h2 g9))
theorem S_X11_name_84 {X : CX} {d : Nat} {y1 : Int} {I R : PF} {Q : PV → PF → PF → Prop} (c1 : -2147483648 ≤ ((I 306 2) - (I 306 41)) ∧ ((I 306 2) - (I 306 41)) < 2147483648) (h1 : ((I 306 2) - (I 306 41)) ≠ 6 → PN X d mX11_name 109 [(2, 306), (1, y1)] [] I R Q) (h2 : ((I 306 2) - (I 306 41)) = 6 → PN X d mX11_name 98 [(2, 306)] [] I R Q) : PN X d mX11_name 84 [(2, 306), (1, y1)] [] I R Q := by
  refine P_aload_n (n := 0) (q := 85) rfl rfl (by decide +kernel) ?_
  refine P_getf (q := 88) fX11_20 kM306 rfl (by decide +kernel) ?_
  refine P_aload_n (n := 0) (q := 89) rfl rfl (by decide +kernel) ?_
  refine P_getf (q := 92) fX11_156 kM306 rfl (by decide +kernel) ?_
  refine P_isub (q := 93) rfl (by decide +kernel) ?_
  refine P_bipush (n := 6) (q := 95) rfl rfl (by decide +kernel) ?_
  refine B_icmp_ne (off := 14) (t := 109) (q := 98) c1 ⟨by decide, by decide⟩ (by decide) rfl (by decide +kernel) ?_ ?_
  · exact fun g9 => (PW_sub (ls' := [(2, 306), (1, y1)]) ⟨Or.inr rfl, Or.inr rfl, trivial⟩ (h1 g9))
  · exact fun g9 => (PW_sub (ls' := [(2, 306)]) ⟨Or.inr rfl, trivial⟩ (h2 g9))
theorem S_X11_name_98 {X : CX} {d d1 : Nat} {I R : PF} {Q Q1 : PV → PF → PF → Prop} (e1 : d1 + 1 ≤ d) (hc : CN X d1 mX11_fail [(2, 306), (0, 1), (0, (I 306 2))] I R Q1) (h : ∀ z I2 R2, Q1 (9, z) I2 R2 → PN X d mX11_name 107 [] [] I2 R2 Q) : PN X d mX11_name 98 [(2, 306)] [] I R Q := by
  refine P_aload_n (n := 0) (q := 99) rfl rfl (by decide +kernel) ?_
  refine P_iconst (n := 1) (q := 100) rfl (by decide +kernel) ?_
  refine P_aload_n (n := 0) (q := 101) rfl rfl (by decide +kernel) ?_
  refine P_getf (q := 104) fX11_20 kM306 rfl (by decide +kernel) ?_
  refine P_invV (As := [(0, 1), (0, (I 306 2))]) (q := 107) oX11_fail rfl kM306 kX11_44 e1 hMF (Nat.le_of_ble_eq_true rfl) hc rfl (by decide +kernel) (fun z I2 R2 hq => ?_)
  exact (PW_sub (ls' := []) trivial (h z I2 R2 hq))
theorem S_X11_name_107 {X : CX} {d : Nat} {I R : PF} {Q : PV → PF → PF → Prop} (h : Q (1, 0) I R) : PN X d mX11_name 107 [] [] I R Q := by
  refine P_lconst (n := 0) (x := 0) (q := 108) rfl rfl (by decide +kernel) ?_
  refine P_lret rfl (by decide +kernel) h
theorem S_X11_name_109 {X : CX} {d : Nat} {y1 : Int} {I R : PF} {Q : PV → PF → PF → Prop} (hs : Shp R) (b1 : (0 : Int) ≤ (I 306 2) ∧ (I 306 2) < 1600) (c1 : -2147483648 ≤ (I 307 (I 306 2)) ∧ (I 307 (I 306 2)) < 2147483648) (h : PN X d mX11_name 58 [(2, 306), (1, ((((27 * y1) + (I 307 (I 306 2))) - 97) + 1))] [] (u2 I 306 2 ((I 306 2) + 1)) R Q) : PN X d mX11_name 109 [(2, 306), (1, y1)] [] I R Q := by
  refine P_ldc2 (ix := 159) (v := 27) (x := 27) (q := 112) rfl (tGp6 0 rfl rfl) rfl (by decide +kernel) ?_
  refine P_lload_n (n := 1) (q := 113) rfl rfl (by decide +kernel) ?_
  refine P_lmul (q := 114) rfl (by decide +kernel) ?_
  refine P_aload_n (n := 0) (q := 115) rfl rfl (by decide +kernel) ?_
  refine B_getfR (q := 118) fX11_11 kM306 (rM306_0 hs) rfl (by decide +kernel) ?_
  refine P_aload_n (n := 0) (q := 119) rfl rfl (by decide +kernel) ?_
  refine P_getf (q := 122) fX11_20 kM306 rfl (by decide +kernel) ?_
  refine B_iaload (q := 123) kM307 nM307 (by decide) b1 rfl (by decide +kernel) ?_
  refine B_i2l (q := 124) c1 rfl (by decide +kernel) ?_
  refine P_ladd (q := 125) rfl (by decide +kernel) ?_
  refine P_ldc2 (ix := 161) (v := 97) (x := 97) (q := 128) rfl (tGp6 1 rfl rfl) rfl (by decide +kernel) ?_
  refine P_lsub (q := 129) rfl (by decide +kernel) ?_
  refine P_lconst (n := 1) (x := 1) (q := 130) rfl rfl (by decide +kernel) ?_
  refine P_ladd (q := 131) rfl (by decide +kernel) ?_
  refine P_lstore_n (n := 1) (by decide) (q := 132) rfl (by decide +kernel) ?_
  refine P_aload_n (n := 0) (q := 133) rfl rfl (by decide +kernel) ?_
  refine P_dup (q := 134) (Nat.ne_of_beq_eq_false rfl) rfl (by decide +kernel) ?_
  refine P_getf (q := 137) fX11_20 kM306 rfl (by decide +kernel) ?_
  refine P_iconst (n := 1) (q := 138) rfl (by decide +kernel) ?_
  refine P_iadd (q := 139) rfl (by decide +kernel) ?_
  refine P_putI (q := 142) wX11_20 (fun h => by cases h) kM306 rfl (by decide +kernel) ?_
  refine P_goto (off := (-84)) (t := 58) (by decide) (by decide +kernel) ?_
  exact (PW_sub (ls' := [(2, 306), (1, ((((27 * y1) + (I 307 (I 306 2))) - 97) + 1))]) ⟨Or.inr rfl, Or.inr rfl, trivial⟩ h)
theorem S_X11_name_145 {X : CX} {d : Nat} {y1 : Int} {I R : PF} {Q : PV → PF → PF → Prop} (h : Q (1, y1) (u2 I 306 4 (I 306 2)) R) : PN X d mX11_name 145 [(2, 306), (1, y1)] [] I R Q := by
  refine P_aload_n (n := 0) (q := 146) rfl rfl (by decide +kernel) ?_
  refine P_aload_n (n := 0) (q := 147) rfl rfl (by decide +kernel) ?_
  refine P_getf (q := 150) fX11_20 kM306 rfl (by decide +kernel) ?_
  refine P_putI (q := 153) wX11_34 (fun h => by cases h) kM306 rfl (by decide +kernel) ?_
  refine P_lload_n (n := 1) (q := 154) rfl rfl (by decide +kernel) ?_
  refine P_lret rfl (by decide +kernel) h
theorem S_X11_nameOf_0 {X : CX} {d : Nat} {x1 y2 : Int} {I R : PF} {Q : PV → PF → PF → Prop} (h : PN X d mX11_nameOf 3 [(2, 306), (0, x1), (1, y2), (9, 0), (0, 0)] [] I R Q) : PN X d mX11_nameOf 0 [(2, 306), (0, x1), (1, y2)] [] I R Q := by
  refine P_iconst (n := 0) (q := 1) rfl (by decide +kernel) ?_
  refine P_istore (n := 4) (by decide) (q := 3) rfl (by decide +kernel) ?_
  exact h
theorem S_X11_nameOf_3 {X : CX} {d : Nat} {x1 y2 x4 : Int} {I R : PF} {Q : PV → PF → PF → Prop} (hs : Shp R) (b1 : (0 : Int) ≤ x1 ∧ x1 < 6) (c1 : -2147483648 ≤ x4 ∧ x4 < 2147483648) (c2 : -2147483648 ≤ (I 339 x1) ∧ (I 339 x1) < 2147483648) (h1 : (I 339 x1) ≤ x4 → PN X d mX11_nameOf 40 [] [] I R Q) (h2 : x4 < (I 339 x1) → PN X d mX11_nameOf 14 [(2, 306), (0, x1), (1, y2), (9, 0), (0, x4)] [] I R Q) : PN X d mX11_nameOf 3 [(2, 306), (0, x1), (1, y2), (9, 0), (0, x4)] [] I R Q := by
  refine P_iload (n := 4) (q := 5) rfl rfl (by decide +kernel) ?_
  refine P_aload_n (n := 0) (q := 6) rfl rfl (by decide +kernel) ?_
  refine B_getfR (q := 9) fX11_166 kM306 (rM306_42 hs) rfl (by decide +kernel) ?_
  refine P_iload_n (n := 1) (q := 10) rfl rfl (by decide +kernel) ?_
  refine B_iaload (q := 11) kM339 nM339 (by decide) b1 rfl (by decide +kernel) ?_
  refine B_icmp_ge (off := 29) (t := 40) (q := 14) c1 c2 (by decide) rfl (by decide +kernel) ?_ ?_
  · exact fun g9 => (PW_sub (ls' := []) trivial (h1 g9))
  · exact fun g9 => (h2 g9)
theorem S_X11_nameOf_14 {X : CX} {d : Nat} {x1 y2 x4 : Int} {I R : PF} {Q : PV → PF → PF → Prop} (hs : Shp R) (b1 : (0 : Int) ≤ ((6 * x1) + x4) ∧ ((6 * x1) + x4) < 24) (c1 : -9223372036854775808 ≤ (I 340 ((6 * x1) + x4)) ∧ (I 340 ((6 * x1) + x4)) < 9223372036854775808) (c2 : -9223372036854775808 ≤ y2 ∧ y2 < 9223372036854775808) (h1 : (I 340 ((6 * x1) + x4)) ≠ y2 → PN X d mX11_nameOf 34 [(2, 306), (0, x1), (1, y2), (9, 0), (0, x4)] [] I R Q) (h2 : (I 340 ((6 * x1) + x4)) = y2 → PN X d mX11_nameOf 31 [(9, 0), (9, 0), (9, 0), (9, 0), (0, x4)] [] I R Q) : PN X d mX11_nameOf 14 [(2, 306), (0, x1), (1, y2), (9, 0), (0, x4)] [] I R Q := by
  refine P_aload_n (n := 0) (q := 15) rfl rfl (by decide +kernel) ?_
  refine B_getfR (q := 18) fX11_169 kM306 (rM306_43 hs) rfl (by decide +kernel) ?_
  refine P_bipush (n := 6) (q := 20) rfl rfl (by decide +kernel) ?_
  refine P_iload_n (n := 1) (q := 21) rfl rfl (by decide +kernel) ?_
  refine P_imul (q := 22) rfl (by decide +kernel) ?_
  refine P_iload (n := 4) (q := 24) rfl rfl (by decide +kernel) ?_
  refine P_iadd (q := 25) rfl (by decide +kernel) ?_
  refine B_laload (q := 26) kM340 nM340 (by decide) b1 rfl (by decide +kernel) ?_
  refine P_lload_n (n := 2) (q := 27) rfl rfl (by decide +kernel) ?_
  refine B_lif_ne (off := 6) (t := 34) (q1 := 28) (q := 31) c1 c2 rfl (by decide +kernel) (by decide) rfl (by decide +kernel) ?_ ?_
  · exact fun g9 => (h1 g9)
  · exact fun g9 => (PW_sub (ls' := [(9, 0), (9, 0), (9, 0), (9, 0), (0, x4)]) ⟨Or.inl rfl, Or.inl rfl, Or.inl rfl, Or.inl rfl, Or.inr rfl, trivial⟩ (h2 g9))
theorem S_X11_nameOf_31 {X : CX} {d : Nat} {x4 : Int} {I R : PF} {Q : PV → PF → PF → Prop} (h : Q (0, x4) I R) : PN X d mX11_nameOf 31 [(9, 0), (9, 0), (9, 0), (9, 0), (0, x4)] [] I R Q := by
  refine P_iload (n := 4) (q := 33) rfl rfl (by decide +kernel) ?_
  refine P_iret rfl (by decide +kernel) h
theorem S_X11_nameOf_34 {X : CX} {d : Nat} {x1 y2 x4 : Int} {I R : PF} {Q : PV → PF → PF → Prop} (h : PN X d mX11_nameOf 3 [(2, 306), (0, x1), (1, y2), (9, 0), (0, (x4 + 1))] [] I R Q) : PN X d mX11_nameOf 34 [(2, 306), (0, x1), (1, y2), (9, 0), (0, x4)] [] I R Q := by
  refine P_iinc (n := 4) (a := 1) (by decide) rfl (q := 37) rfl (by decide +kernel) ?_
  refine P_goto (off := (-34)) (t := 3) (by decide) (by decide +kernel) ?_
  exact h
theorem S_X11_nameOf_40 {X : CX} {d : Nat} {I R : PF} {Q : PV → PF → PF → Prop} (h : Q (0, (-1)) I R) : PN X d mX11_nameOf 40 [] [] I R Q := by
  refine P_iconst (n := (-1)) (q := 41) rfl (by decide +kernel) ?_
  refine P_iret rfl (by decide +kernel) h
theorem S_X11_newName_0 {X : CX} {d d1 : Nat} {I R : PF} {Q Q1 : PV → PF → PF → Prop} (e1 : d1 + 1 ≤ d) (hc : CN X d1 mX11_name [(2, 306)] I R Q1) (h : ∀ z I2 R2, Q1 (1, z) I2 R2 → PN X d mX11_newName 4 [(2, 306)] [(1, z)] I2 R2 Q) : PN X d mX11_newName 0 [(2, 306)] [] I R Q := by
  refine P_aload_n (n := 0) (q := 1) rfl rfl (by decide +kernel) ?_
  refine P_invV (As := []) (q := 4) oX11_name rfl kM306 kX11_173 e1 hMF (Nat.le_of_ble_eq_true rfl) hc rfl (by decide +kernel) (fun z I2 R2 hq => ?_)
  exact (h z I2 R2 hq)
theorem S_X11_newName_4 {X : CX} {d : Nat} {v0 : Int} {I R : PF} {Q : PV → PF → PF → Prop} (h : PN X d mX11_newName 7 [(2, 306), (1, v0), (9, 0), (0, 0)] [] I R Q) : PN X d mX11_newName 4 [(2, 306)] [(1, v0)] I R Q := by
  refine P_lstore_n (n := 1) (by decide) (q := 5) rfl (by decide +kernel) ?_
  refine P_iconst (n := 0) (q := 6) rfl (by decide +kernel) ?_
  refine P_istore_n (n := 3) (by decide) (q := 7) rfl (by decide +kernel) ?_
  exact h
theorem S_X11_newName_7 {X : CX} {d : Nat} {y1 x3 : Int} {I R : PF} {Q : PV → PF → PF → Prop} (c1 : -2147483648 ≤ x3 ∧ x3 < 2147483648) (h1 : 2 ≤ x3 → PN X d mX11_newName 44 [(9, 0), (1, y1)] [] I R Q) (h2 : x3 < 2 → PN X d mX11_newName 12 [(2, 306), (1, y1), (9, 0), (0, x3)] [] I R Q) : PN X d mX11_newName 7 [(2, 306), (1, y1), (9, 0), (0, x3)] [] I R Q := by
  refine P_iload_n (n := 3) (q := 8) rfl rfl (by decide +kernel) ?_
  refine P_iconst (n := 2) (q := 9) rfl (by decide +kernel) ?_
  refine B_icmp_ge (off := 35) (t := 44) (q := 12) c1 ⟨by decide, by decide⟩ (by decide) rfl (by decide +kernel) ?_ ?_
  · exact fun g9 => (PW_sub (ls' := [(9, 0), (1, y1)]) ⟨Or.inl rfl, Or.inr rfl, trivial⟩ (h1 g9))
  · exact fun g9 => (h2 g9)
theorem S_X11_newName_12 {X : CX} {d : Nat} {y1 x3 : Int} {I R : PF} {Q : PV → PF → PF → Prop} (c1 : -2147483648 ≤ (I 306 5) ∧ (I 306 5) < 2147483648) (h1 : (I 306 5) ≠ 0 → PN X d mX11_newName 38 [(2, 306), (1, y1), (9, 0), (0, x3)] [] I R Q) (h2 : (I 306 5) = 0 → PN X d mX11_newName 19 [(2, 306), (1, y1), (9, 0), (0, x3)] [] I R Q) : PN X d mX11_newName 12 [(2, 306), (1, y1), (9, 0), (0, x3)] [] I R Q := by
  refine P_aload_n (n := 0) (q := 13) rfl rfl (by decide +kernel) ?_
  refine P_getf (q := 16) fX11_14 kM306 rfl (by decide +kernel) ?_
  refine B_if_ne (off := 22) (t := 38) (q := 19) c1 (by decide) rfl (by decide +kernel) ?_ ?_
  · exact fun g9 => (h1 g9)
  · exact fun g9 => (h2 g9)
theorem S_X11_newName_19 {X : CX} {d d1 : Nat} {y1 x3 : Int} {I R : PF} {Q Q1 : PV → PF → PF → Prop} (e1 : d1 + 1 ≤ d) (hc : CN X d1 mX11_nameOf [(2, 306), (0, x3), (1, y1)] I R Q1) (h : ∀ z I2 R2, Q1 (0, z) I2 R2 → PN X d mX11_newName 25 [(2, 306), (1, y1), (9, 0), (0, x3)] [(0, z)] I2 R2 Q) : PN X d mX11_newName 19 [(2, 306), (1, y1), (9, 0), (0, x3)] [] I R Q := by
  refine P_aload_n (n := 0) (q := 20) rfl rfl (by decide +kernel) ?_
  refine P_iload_n (n := 3) (q := 21) rfl rfl (by decide +kernel) ?_
  refine P_lload_n (n := 1) (q := 22) rfl rfl (by decide +kernel) ?_
  refine P_invV (As := [(0, x3), (1, y1)]) (q := 25) oX11_nameOf rfl kM306 kX11_177 e1 hMF (Nat.le_of_ble_eq_true rfl) hc rfl (by decide +kernel) (fun z I2 R2 hq => ?_)
  exact (h z I2 R2 hq)
theorem S_X11_newName_25 {X : CX} {d : Nat} {y1 x3 o0 : Int} {I R : PF} {Q : PV → PF → PF → Prop} (c1 : -2147483648 ≤ o0 ∧ o0 < 2147483648) (h1 : o0 = (-1) → PN X d mX11_newName 38 [(2, 306), (1, y1), (9, 0), (0, x3)] [] I R Q) (h2 : o0 ≠ (-1) → PN X d mX11_newName 29 [(2, 306), (1, y1), (9, 0), (0, x3)] [] I R Q) : PN X d mX11_newName 25 [(2, 306), (1, y1), (9, 0), (0, x3)] [(0, o0)] I R Q := by
  refine P_iconst (n := (-1)) (q := 26) rfl (by decide +kernel) ?_
  refine B_icmp_eq (off := 12) (t := 38) (q := 29) c1 ⟨by decide, by decide⟩ (by decide) rfl (by decide +kernel) ?_ ?_
  · exact fun g9 => (h1 g9)
  · exact fun g9 => (h2 g9)
theorem S_X11_newName_29 {X : CX} {d d1 : Nat} {y1 x3 : Int} {I R : PF} {Q Q1 : PV → PF → PF → Prop} (e1 : d1 + 1 ≤ d) (hc : CN X d1 mX11_fail [(2, 306), (0, 3), (0, (I 306 41))] I R Q1) (h : ∀ z I2 R2, Q1 (9, z) I2 R2 → PN X d mX11_newName 38 [(2, 306), (1, y1), (9, 0), (0, x3)] [] I2 R2 Q) : PN X d mX11_newName 29 [(2, 306), (1, y1), (9, 0), (0, x3)] [] I R Q := by
  refine P_aload_n (n := 0) (q := 30) rfl rfl (by decide +kernel) ?_
  refine P_iconst (n := 3) (q := 31) rfl (by decide +kernel) ?_
  refine P_aload_n (n := 0) (q := 32) rfl rfl (by decide +kernel) ?_
  refine P_getf (q := 35) fX11_156 kM306 rfl (by decide +kernel) ?_
  refine P_invV (As := [(0, 3), (0, (I 306 41))]) (q := 38) oX11_fail rfl kM306 kX11_44 e1 hMF (Nat.le_of_ble_eq_true rfl) hc rfl (by decide +kernel) (fun z I2 R2 hq => ?_)
  exact (h z I2 R2 hq)
theorem S_X11_newName_38 {X : CX} {d : Nat} {y1 x3 : Int} {I R : PF} {Q : PV → PF → PF → Prop} (h : PN X d mX11_newName 7 [(2, 306), (1, y1), (9, 0), (0, (x3 + 1))] [] I R Q) : PN X d mX11_newName 38 [(2, 306), (1, y1), (9, 0), (0, x3)] [] I R Q := by
  refine P_iinc (n := 3) (a := 1) (by decide) rfl (q := 41) rfl (by decide +kernel) ?_
  refine P_goto (off := (-34)) (t := 7) (by decide) (by decide +kernel) ?_
  exact h
theorem S_X11_newName_44 {X : CX} {d : Nat} {y1 : Int} {I R : PF} {Q : PV → PF → PF → Prop} (h : Q (1, y1) I R) : PN X d mX11_newName 44 [(9, 0), (1, y1)] [] I R Q := by
  refine P_lload_n (n := 1) (q := 45) rfl rfl (by decide +kernel) ?_
  refine P_lret rfl (by decide +kernel) h
theorem S_X11_noonGoes_0 {X : CX} {d : Nat} {x1 : Int} {I R : PF} {Q : PV → PF → PF → Prop} (hs : Shp R) (c1 : -2147483648 ≤ (I 348 1) ∧ (I 348 1) < 2147483648) (h1 : (I 348 1) ≠ (-1) → PN X d mX11_noonGoes 17 [(2, 306), (0, x1), (0, (I 348 1))] [(2, 306)] I R Q) (h2 : (I 348 1) = (-1) → PN X d mX11_noonGoes 13 [(2, 306), (0, x1), (0, (I 348 1))] [(2, 306)] I R Q) : PN X d mX11_noonGoes 0 [(2, 306), (0, x1)] [] I R Q := by
  refine P_aload_n (n := 0) (q := 1) rfl rfl (by decide +kernel) ?_
  refine B_getfR (q := 4) fX11_303 kM306 (rM306_59 hs) rfl (by decide +kernel) ?_
  refine P_iconst (n := 1) (q := 5) rfl (by decide +kernel) ?_
  refine B_iaload (q := 6) kM348 nM348 (by decide) ⟨by decide, by decide⟩ rfl (by decide +kernel) ?_
  refine P_istore_n (n := 2) (by decide) (q := 7) rfl (by decide +kernel) ?_
  refine P_aload_n (n := 0) (q := 8) rfl rfl (by decide +kernel) ?_
  refine P_iload_n (n := 2) (q := 9) rfl rfl (by decide +kernel) ?_
  refine P_iconst (n := (-1)) (q := 10) rfl (by decide +kernel) ?_
  refine B_icmp_ne (off := 7) (t := 17) (q := 13) c1 ⟨by decide, by decide⟩ (by decide) rfl (by decide +kernel) ?_ ?_
  · exact fun g9 => (h1 g9)
  · exact fun g9 => (h2 g9)
theorem S_X11_noonGoes_13 {X : CX} {d : Nat} {x1 x2 : Int} {I R : PF} {Q : PV → PF → PF → Prop} (h : PN X d mX11_noonGoes 29 [(2, 306), (0, x1), (0, x2)] [(0, 0), (2, 306)] I R Q) : PN X d mX11_noonGoes 13 [(2, 306), (0, x1), (0, x2)] [(2, 306)] I R Q := by
  refine P_iconst (n := 0) (q := 14) rfl (by decide +kernel) ?_
  refine P_goto (off := 15) (t := 29) (by decide) (by decide +kernel) ?_
  exact h
theorem S_X11_noonGoes_17 {X : CX} {d : Nat} {x1 x2 : Int} {I R : PF} {Q : PV → PF → PF → Prop} (hs : Shp R) (b1 : (0 : Int) ≤ ((3 + (5 * x2)) + 2) ∧ ((3 + (5 * x2)) + 2) < 154) (h : PN X d mX11_noonGoes 29 [(2, 306), (0, x1), (0, x2)] [(0, (I 348 ((3 + (5 * x2)) + 2))), (2, 306)] I R Q) : PN X d mX11_noonGoes 17 [(2, 306), (0, x1), (0, x2)] [(2, 306)] I R Q := by
  refine P_aload_n (n := 0) (q := 18) rfl rfl (by decide +kernel) ?_
  refine B_getfR (q := 21) fX11_303 kM306 (rM306_59 hs) rfl (by decide +kernel) ?_
  refine P_iconst (n := 3) (q := 22) rfl (by decide +kernel) ?_
  refine P_iconst (n := 5) (q := 23) rfl (by decide +kernel) ?_
  refine P_iload_n (n := 2) (q := 24) rfl rfl (by decide +kernel) ?_
  refine P_imul (q := 25) rfl (by decide +kernel) ?_
  refine P_iadd (q := 26) rfl (by decide +kernel) ?_
  refine P_iconst (n := 2) (q := 27) rfl (by decide +kernel) ?_
  refine P_iadd (q := 28) rfl (by decide +kernel) ?_
  refine B_iaload (q := 29) kM348 nM348 (by decide) b1 rfl (by decide +kernel) ?_
  exact h
theorem S_X11_noonGoes_29 {X : CX} {d : Nat} {x1 x2 o1 : Int} {I R : PF} {Q : PV → PF → PF → Prop} (c1 : -2147483648 ≤ x2 ∧ x2 < 2147483648) (h1 : x2 ≠ (-1) → PN X d mX11_noonGoes 38 [(2, 306), (0, x1), (0, x2)] [(0, o1), (2, 306)] I R Q) (h2 : x2 = (-1) → PN X d mX11_noonGoes 34 [(2, 306), (0, x1), (0, x2)] [(0, o1), (2, 306)] I R Q) : PN X d mX11_noonGoes 29 [(2, 306), (0, x1), (0, x2)] [(0, o1), (2, 306)] I R Q := by
  refine P_iload_n (n := 2) (q := 30) rfl rfl (by decide +kernel) ?_
  refine P_iconst (n := (-1)) (q := 31) rfl (by decide +kernel) ?_
  refine B_icmp_ne (off := 7) (t := 38) (q := 34) c1 ⟨by decide, by decide⟩ (by decide) rfl (by decide +kernel) ?_ ?_
  · exact fun g9 => (h1 g9)
  · exact fun g9 => (h2 g9)
theorem S_X11_noonGoes_34 {X : CX} {d : Nat} {x1 x2 o1 : Int} {I R : PF} {Q : PV → PF → PF → Prop} (h : PN X d mX11_noonGoes 50 [(2, 306), (0, x1), (0, x2)] [(0, 0), (0, o1), (2, 306)] I R Q) : PN X d mX11_noonGoes 34 [(2, 306), (0, x1), (0, x2)] [(0, o1), (2, 306)] I R Q := by
  refine P_iconst (n := 0) (q := 35) rfl (by decide +kernel) ?_
  refine P_goto (off := 15) (t := 50) (by decide) (by decide +kernel) ?_
  exact h
theorem S_X11_noonGoes_38 {X : CX} {d : Nat} {x1 x2 o1 : Int} {I R : PF} {Q : PV → PF → PF → Prop} (hs : Shp R) (b1 : (0 : Int) ≤ ((3 + (5 * x2)) + 3) ∧ ((3 + (5 * x2)) + 3) < 154) (h : PN X d mX11_noonGoes 50 [(2, 306), (0, x1), (0, x2)] [(0, (I 348 ((3 + (5 * x2)) + 3))), (0, o1), (2, 306)] I R Q) : PN X d mX11_noonGoes 38 [(2, 306), (0, x1), (0, x2)] [(0, o1), (2, 306)] I R Q := by
  refine P_aload_n (n := 0) (q := 39) rfl rfl (by decide +kernel) ?_
  refine B_getfR (q := 42) fX11_303 kM306 (rM306_59 hs) rfl (by decide +kernel) ?_
  refine P_iconst (n := 3) (q := 43) rfl (by decide +kernel) ?_
  refine P_iconst (n := 5) (q := 44) rfl (by decide +kernel) ?_
  refine P_iload_n (n := 2) (q := 45) rfl rfl (by decide +kernel) ?_
  refine P_imul (q := 46) rfl (by decide +kernel) ?_
  refine P_iadd (q := 47) rfl (by decide +kernel) ?_
  refine P_iconst (n := 3) (q := 48) rfl (by decide +kernel) ?_
  refine P_iadd (q := 49) rfl (by decide +kernel) ?_
  refine B_iaload (q := 50) kM348 nM348 (by decide) b1 rfl (by decide +kernel) ?_
  exact h
theorem S_X11_noonGoes_50 {X : CX} {d d1 : Nat} {x1 x2 o1 o2 : Int} {I R : PF} {Q Q1 : PV → PF → PF → Prop} (hs : Shp R) (e1 : d1 + 1 ≤ d) (hc : CN X d1 mX11_goes [(2, 306), (0, o1), (0, o2), (0, (I 348 0)), (0, x1)] I R Q1) (h : ∀ z I2 R2, Q1 (9, z) I2 R2 → PN X d mX11_noonGoes 60 [(2, 306), (9, 0), (0, x2)] [] I2 R2 Q) : PN X d mX11_noonGoes 50 [(2, 306), (0, x1), (0, x2)] [(0, o2), (0, o1), (2, 306)] I R Q := by
  refine P_aload_n (n := 0) (q := 51) rfl rfl (by decide +kernel) ?_
  refine B_getfR (q := 54) fX11_303 kM306 (rM306_59 hs) rfl (by decide +kernel) ?_
  refine P_iconst (n := 0) (q := 55) rfl (by decide +kernel) ?_
  refine B_iaload (q := 56) kM348 nM348 (by decide) ⟨by decide, by decide⟩ rfl (by decide +kernel) ?_
  refine P_iload_n (n := 1) (q := 57) rfl rfl (by decide +kernel) ?_
  refine P_invV (As := [(0, o1), (0, o2), (0, (I 348 0)), (0, x1)]) (q := 60) oX11_goes rfl kM306 kX11_515 e1 hMF (Nat.le_of_ble_eq_true rfl) hc rfl (by decide +kernel) (fun z I2 R2 hq => ?_)
  exact (PW_sub (ls' := [(2, 306), (9, 0), (0, x2)]) ⟨Or.inr rfl, Or.inl rfl, Or.inr rfl, trivial⟩ (h z I2 R2 hq))
theorem S_X11_noonGoes_60 {X : CX} {d : Nat} {x2 : Int} {I R : PF} {Q : PV → PF → PF → Prop} (c1 : -2147483648 ≤ (I 306 69) ∧ (I 306 69) < 2147483648) (h1 : (I 306 69) ≠ (-1) → PN X d mX11_noonGoes 78 [(2, 306), (9, 0), (0, x2)] [] I R Q) (h2 : (I 306 69) = (-1) → PN X d mX11_noonGoes 68 [(2, 306)] [] I R Q) : PN X d mX11_noonGoes 60 [(2, 306), (9, 0), (0, x2)] [] I R Q := by
  refine P_aload_n (n := 0) (q := 61) rfl rfl (by decide +kernel) ?_
  refine P_getf (q := 64) fX11_485 kM306 rfl (by decide +kernel) ?_
  refine P_iconst (n := (-1)) (q := 65) rfl (by decide +kernel) ?_
  refine B_icmp_ne (off := 13) (t := 78) (q := 68) c1 ⟨by decide, by decide⟩ (by decide) rfl (by decide +kernel) ?_ ?_
  · exact fun g9 => (h1 g9)
  · exact fun g9 => (PW_sub (ls' := [(2, 306)]) ⟨Or.inr rfl, trivial⟩ (h2 g9))
theorem S_X11_noonGoes_68 {X : CX} {d : Nat} {I R : PF} {Q : PV → PF → PF → Prop} (hs : Shp R) (h : PN X d mX11_noonGoes 153 [(2, 306)] [] (u2 I 348 2 0) R Q) : PN X d mX11_noonGoes 68 [(2, 306)] [] I R Q := by
  refine P_aload_n (n := 0) (q := 69) rfl rfl (by decide +kernel) ?_
  refine B_getfR (q := 72) fX11_303 kM306 (rM306_59 hs) rfl (by decide +kernel) ?_
  refine P_iconst (n := 2) (q := 73) rfl (by decide +kernel) ?_
  refine P_iconst (n := 0) (q := 74) rfl (by decide +kernel) ?_
  refine B_iastore (q := 75) kM348 nM348 (by decide) ⟨by decide, by decide⟩ rfl (by decide +kernel) ?_
  refine P_goto (off := 78) (t := 153) (by decide) (by decide +kernel) ?_
  exact (PW_sub (ls' := [(2, 306)]) ⟨Or.inr rfl, trivial⟩ h)
theorem S_X11_noonGoes_78 {X : CX} {d : Nat} {x2 : Int} {I R : PF} {Q : PV → PF → PF → Prop} (hs : Shp R) (c1 : -2147483648 ≤ (I 306 69) ∧ (I 306 69) < 2147483648) (c2 : -2147483648 ≤ x2 ∧ x2 < 2147483648) (h1 : (I 306 69) = x2 → PN X d mX11_noonGoes 95 [(2, 306)] [(0, 2), (2, 348)] I R Q) (h2 : (I 306 69) ≠ x2 → PN X d mX11_noonGoes 91 [(2, 306)] [(0, 2), (2, 348)] I R Q) : PN X d mX11_noonGoes 78 [(2, 306), (9, 0), (0, x2)] [] I R Q := by
  refine P_aload_n (n := 0) (q := 79) rfl rfl (by decide +kernel) ?_
  refine B_getfR (q := 82) fX11_303 kM306 (rM306_59 hs) rfl (by decide +kernel) ?_
  refine P_iconst (n := 2) (q := 83) rfl (by decide +kernel) ?_
  refine P_aload_n (n := 0) (q := 84) rfl rfl (by decide +kernel) ?_
  refine P_getf (q := 87) fX11_485 kM306 rfl (by decide +kernel) ?_
  refine P_iload_n (n := 2) (q := 88) rfl rfl (by decide +kernel) ?_
  refine B_icmp_eq (off := 7) (t := 95) (q := 91) c1 c2 (by decide) rfl (by decide +kernel) ?_ ?_
  · exact fun g9 => (PW_sub (ls' := [(2, 306)]) ⟨Or.inr rfl, trivial⟩ (h1 g9))
  · exact fun g9 => (PW_sub (ls' := [(2, 306)]) ⟨Or.inr rfl, trivial⟩ (h2 g9))
theorem S_X11_noonGoes_91 {X : CX} {d : Nat} {o1 : Int} {I R : PF} {Q : PV → PF → PF → Prop} (h : PN X d mX11_noonGoes 119 [(2, 306)] [(0, 1), (0, o1), (2, 348)] I R Q) : PN X d mX11_noonGoes 91 [(2, 306)] [(0, o1), (2, 348)] I R Q := by
  refine P_iconst (n := 1) (q := 92) rfl (by decide +kernel) ?_
  refine P_goto (off := 27) (t := 119) (by decide) (by decide +kernel) ?_
  exact (PW_sub (ls' := [(2, 306)]) ⟨Or.inr rfl, trivial⟩ h)
theorem S_X11_noonGoes_95 {X : CX} {d : Nat} {o1 : Int} {I R : PF} {Q : PV → PF → PF → Prop} (hs : Shp R) (c1 : -2147483648 ≤ (I 348 2) ∧ (I 348 2) < 2147483648) (h1 : 99 ≤ (I 348 2) → PN X d mX11_noonGoes 117 [(2, 306)] [(0, o1), (2, 348)] I R Q) (h2 : (I 348 2) < 99 → PN X d mX11_noonGoes 106 [(2, 306)] [(0, o1), (2, 348)] I R Q) : PN X d mX11_noonGoes 95 [(2, 306)] [(0, o1), (2, 348)] I R Q := by
  refine P_aload_n (n := 0) (q := 96) rfl rfl (by decide +kernel) ?_
  refine B_getfR (q := 99) fX11_303 kM306 (rM306_59 hs) rfl (by decide +kernel) ?_
  refine P_iconst (n := 2) (q := 100) rfl (by decide +kernel) ?_
  refine B_iaload (q := 101) kM348 nM348 (by decide) ⟨by decide, by decide⟩ rfl (by decide +kernel) ?_
  refine P_bipush (n := 99) (q := 103) rfl rfl (by decide +kernel) ?_
  refine B_icmp_ge (off := 14) (t := 117) (q := 106) c1 ⟨by decide, by decide⟩ (by decide) rfl (by decide +kernel) ?_ ?_
  · exact fun g9 => (PW_sub (ls' := [(2, 306)]) ⟨Or.inr rfl, trivial⟩ (h1 g9))
  · exact fun g9 => (PW_sub (ls' := [(2, 306)]) ⟨Or.inr rfl, trivial⟩ (h2 g9))
theorem S_X11_noonGoes_106 {X : CX} {d : Nat} {o1 : Int} {I R : PF} {Q : PV → PF → PF → Prop} (hs : Shp R) (h : PN X d mX11_noonGoes 119 [(2, 306)] [(0, ((I 348 2) + 1)), (0, o1), (2, 348)] I R Q) : PN X d mX11_noonGoes 106 [(2, 306)] [(0, o1), (2, 348)] I R Q := by
  refine P_aload_n (n := 0) (q := 107) rfl rfl (by decide +kernel) ?_
  refine B_getfR (q := 110) fX11_303 kM306 (rM306_59 hs) rfl (by decide +kernel) ?_
  refine P_iconst (n := 2) (q := 111) rfl (by decide +kernel) ?_
  refine B_iaload (q := 112) kM348 nM348 (by decide) ⟨by decide, by decide⟩ rfl (by decide +kernel) ?_
  refine P_iconst (n := 1) (q := 113) rfl (by decide +kernel) ?_
  refine P_iadd (q := 114) rfl (by decide +kernel) ?_
  refine P_goto (off := 5) (t := 119) (by decide) (by decide +kernel) ?_
  exact (PW_sub (ls' := [(2, 306)]) ⟨Or.inr rfl, trivial⟩ h)
theorem S_X11_noonGoes_117 {X : CX} {d : Nat} {o1 : Int} {I R : PF} {Q : PV → PF → PF → Prop} (h : PN X d mX11_noonGoes 119 [(2, 306)] [(0, 99), (0, o1), (2, 348)] I R Q) : PN X d mX11_noonGoes 117 [(2, 306)] [(0, o1), (2, 348)] I R Q := by
  refine P_bipush (n := 99) (q := 119) rfl rfl (by decide +kernel) ?_
  exact (PW_sub (ls' := [(2, 306)]) ⟨Or.inr rfl, trivial⟩ h)
theorem S_X11_noonGoes_119 {X : CX} {d d1 : Nat} {o1 o2 : Int} {I R : PF} {Q Q1 : PV → PF → PF → Prop} (b1 : (0 : Int) ≤ o1 ∧ o1 < 154) (e1 : d1 + 1 ≤ d) (hc : CN X d1 mX11_woreBy [(2, 306), (0, ((u2 I 348 o1 o2) 306 69))] (u2 I 348 o1 o2) R Q1) (h : ∀ z I2 R2, Q1 (0, z) I2 R2 → PN X d mX11_noonGoes 128 [(2, 306)] [(0, z)] I2 R2 Q) : PN X d mX11_noonGoes 119 [(2, 306)] [(0, o2), (0, o1), (2, 348)] I R Q := by
  refine B_iastore (q := 120) kM348 nM348 (by decide) b1 rfl (by decide +kernel) ?_
  refine P_aload_n (n := 0) (q := 121) rfl rfl (by decide +kernel) ?_
  refine P_aload_n (n := 0) (q := 122) rfl rfl (by decide +kernel) ?_
  refine P_getf (q := 125) fX11_485 kM306 rfl (by decide +kernel) ?_
  refine P_invV (As := [(0, ((u2 I 348 o1 o2) 306 69))]) (q := 128) oX11_woreBy rfl kM306 kX11_519 e1 hMF (Nat.le_of_ble_eq_true rfl) hc rfl (by decide +kernel) (fun z I2 R2 hq => ?_)
  exact (PW_sub (ls' := [(2, 306)]) ⟨Or.inr rfl, trivial⟩ (h z I2 R2 hq))
theorem S_X11_noonGoes_128 {X : CX} {d : Nat} {o0 : Int} {I R : PF} {Q : PV → PF → PF → Prop} (c1 : -2147483648 ≤ o0 ∧ o0 < 2147483648) (h1 : 999 ≤ o0 → PN X d mX11_noonGoes 153 [(2, 306)] [] I R Q) (h2 : o0 < 999 → PN X d mX11_noonGoes 134 [(2, 306)] [] I R Q) : PN X d mX11_noonGoes 128 [(2, 306)] [(0, o0)] I R Q := by
  refine P_sipush (n := 999) (q := 131) rfl rfl (by decide +kernel) ?_
  refine B_icmp_ge (off := 22) (t := 153) (q := 134) c1 ⟨by decide, by decide⟩ (by decide) rfl (by decide +kernel) ?_ ?_
  · exact fun g9 => (PW_sub (ls' := [(2, 306)]) ⟨Or.inr rfl, trivial⟩ (h1 g9))
  · exact fun g9 => (PW_sub (ls' := [(2, 306)]) ⟨Or.inr rfl, trivial⟩ (h2 g9))
theorem S_X11_noonGoes_134 {X : CX} {d : Nat} {I R : PF} {Q : PV → PF → PF → Prop} (hs : Shp R) (b1 : (0 : Int) ≤ ((3 + (5 * (I 306 69))) + 4) ∧ ((3 + (5 * (I 306 69))) + 4) < 154) (h : PN X d mX11_noonGoes 153 [(2, 306)] [] (u2 I 348 ((3 + (5 * (I 306 69))) + 4) ((I 348 ((3 + (5 * (I 306 69))) + 4)) + 1)) R Q) : PN X d mX11_noonGoes 134 [(2, 306)] [] I R Q := by
  refine P_aload_n (n := 0) (q := 135) rfl rfl (by decide +kernel) ?_
  refine B_getfR (q := 138) fX11_303 kM306 (rM306_59 hs) rfl (by decide +kernel) ?_
  refine P_iconst (n := 3) (q := 139) rfl (by decide +kernel) ?_
  refine P_iconst (n := 5) (q := 140) rfl (by decide +kernel) ?_
  refine P_aload_n (n := 0) (q := 141) rfl rfl (by decide +kernel) ?_
  refine P_getf (q := 144) fX11_485 kM306 rfl (by decide +kernel) ?_
  refine P_imul (q := 145) rfl (by decide +kernel) ?_
  refine P_iadd (q := 146) rfl (by decide +kernel) ?_
  refine P_iconst (n := 4) (q := 147) rfl (by decide +kernel) ?_
  refine P_iadd (q := 148) rfl (by decide +kernel) ?_
  refine P_dup2 (q := 149) (Nat.ne_of_beq_eq_false rfl) (Nat.ne_of_beq_eq_false rfl) rfl (by decide +kernel) ?_
  refine B_iaload (q := 150) kM348 nM348 (by decide) b1 rfl (by decide +kernel) ?_
  refine P_iconst (n := 1) (q := 151) rfl (by decide +kernel) ?_
  refine P_iadd (q := 152) rfl (by decide +kernel) ?_
  refine B_iastore (q := 153) kM348 nM348 (by decide) b1 rfl (by decide +kernel) ?_
  exact (PW_sub (ls' := [(2, 306)]) ⟨Or.inr rfl, trivial⟩ h)
theorem S_X11_noonGoes_153 {X : CX} {d : Nat} {I R : PF} {Q : PV → PF → PF → Prop} (hs : Shp R) (c1 : -2147483648 ≤ ((u2 I 348 1 (I 306 69)) 306 72) ∧ ((u2 I 348 1 (I 306 69)) 306 72) < 2147483648) (h1 : ((u2 I 348 1 (I 306 69)) 306 72) ≠ 0 → PN X d mX11_noonGoes 174 [(2, 306)] [] (u2 I 348 1 (I 306 69)) R Q) (h2 : ((u2 I 348 1 (I 306 69)) 306 72) = 0 → PN X d mX11_noonGoes 170 [(2, 306)] [] (u2 I 348 1 (I 306 69)) R Q) : PN X d mX11_noonGoes 153 [(2, 306)] [] I R Q := by
  refine P_aload_n (n := 0) (q := 154) rfl rfl (by decide +kernel) ?_
  refine B_getfR (q := 157) fX11_303 kM306 (rM306_59 hs) rfl (by decide +kernel) ?_
  refine P_iconst (n := 1) (q := 158) rfl (by decide +kernel) ?_
  refine P_aload_n (n := 0) (q := 159) rfl rfl (by decide +kernel) ?_
  refine P_getf (q := 162) fX11_485 kM306 rfl (by decide +kernel) ?_
  refine B_iastore (q := 163) kM348 nM348 (by decide) ⟨by decide, by decide⟩ rfl (by decide +kernel) ?_
  refine P_aload_n (n := 0) (q := 164) rfl rfl (by decide +kernel) ?_
  refine P_getf (q := 167) fX11_522 kM306 rfl (by decide +kernel) ?_
  refine B_if_ne (off := 7) (t := 174) (q := 170) c1 (by decide) rfl (by decide +kernel) ?_ ?_
  · exact fun g9 => (PW_sub (ls' := [(2, 306)]) ⟨Or.inr rfl, trivial⟩ (h1 g9))
  · exact fun g9 => (PW_sub (ls' := [(2, 306)]) ⟨Or.inr rfl, trivial⟩ (h2 g9))
theorem S_X11_noonGoes_170 {X : CX} {d d1 : Nat} {I R : PF} {Q Q1 : PV → PF → PF → Prop} (e1 : d1 + 1 ≤ d) (hc : CN X d1 mX11_isKept [(2, 306)] I R Q1) (h : ∀ z I2 R2, Q1 (9, z) I2 R2 → PN X d mX11_noonGoes 174 [(2, 306)] [] I2 R2 Q) : PN X d mX11_noonGoes 170 [(2, 306)] [] I R Q := by
  refine P_aload_n (n := 0) (q := 171) rfl rfl (by decide +kernel) ?_
  refine P_invV (As := []) (q := 174) oX11_isKept rfl kM306 kX11_525 e1 hMF (Nat.le_of_ble_eq_true rfl) hc rfl (by decide +kernel) (fun z I2 R2 hq => ?_)
  exact (PW_sub (ls' := [(2, 306)]) ⟨Or.inr rfl, trivial⟩ (h z I2 R2 hq))
theorem S_X11_noonGoes_174 {X : CX} {d : Nat} {I R : PF} {Q : PV → PF → PF → Prop} (hs : Shp R) (h : Q (9, 0) (u2 I 348 0 ((I 348 0) + 1)) R) : PN X d mX11_noonGoes 174 [(2, 306)] [] I R Q := by
  refine P_aload_n (n := 0) (q := 175) rfl rfl (by decide +kernel) ?_
  refine B_getfR (q := 178) fX11_303 kM306 (rM306_59 hs) rfl (by decide +kernel) ?_
  refine P_iconst (n := 0) (q := 179) rfl (by decide +kernel) ?_
  refine P_dup2 (q := 180) (Nat.ne_of_beq_eq_false rfl) (Nat.ne_of_beq_eq_false rfl) rfl (by decide +kernel) ?_
  refine B_iaload (q := 181) kM348 nM348 (by decide) ⟨by decide, by decide⟩ rfl (by decide +kernel) ?_
  refine P_iconst (n := 1) (q := 182) rfl (by decide +kernel) ?_
  refine P_iadd (q := 183) rfl (by decide +kernel) ?_
  refine B_iastore (q := 184) kM348 nM348 (by decide) ⟨by decide, by decide⟩ rfl (by decide +kernel) ?_
  refine P_vret rfl (by decide +kernel) h
theorem S_X11_noons_0 {X : CX} {d : Nat} {x1 : Int} {I R : PF} {Q : PV → PF → PF → Prop} (c1 : -2147483648 ≤ (I 306 55) ∧ (I 306 55) < 2147483648) (h1 : (I 306 55) = 0 → PN X d mX11_noons 18 [(2, 306)] [] I R Q) (h2 : (I 306 55) ≠ 0 → PN X d mX11_noons 7 [(2, 306), (0, x1)] [] I R Q) : PN X d mX11_noons 0 [(2, 306), (0, x1)] [] I R Q := by
  refine P_aload_n (n := 0) (q := 1) rfl rfl (by decide +kernel) ?_
  refine P_getf (q := 4) fX11_296 kM306 rfl (by decide +kernel) ?_
  refine B_if_eq (off := 14) (t := 18) (q := 7) c1 (by decide) rfl (by decide +kernel) ?_ ?_
  · exact fun g9 => (PW_sub (ls' := [(2, 306)]) ⟨Or.inr rfl, trivial⟩ (h1 g9))
  · exact fun g9 => (h2 g9)
theorem S_X11_noons_7 {X : CX} {d d1 : Nat} {x1 : Int} {I R : PF} {Q Q1 : PV → PF → PF → Prop} (e1 : d1 + 1 ≤ d) (hc : CN X d1 mX11_isAhead [(2, 306), (0, x1), (0, 1), (0, 100)] I R Q1) (h : ∀ z I2 R2, Q1 (0, z) I2 R2 → PN X d mX11_noons 15 [(2, 306), (0, x1)] [(0, z)] I2 R2 Q) : PN X d mX11_noons 7 [(2, 306), (0, x1)] [] I R Q := by
  refine P_aload_n (n := 0) (q := 8) rfl rfl (by decide +kernel) ?_
  refine P_iload_n (n := 1) (q := 9) rfl rfl (by decide +kernel) ?_
  refine P_iconst (n := 1) (q := 10) rfl (by decide +kernel) ?_
  refine P_bipush (n := 100) (q := 12) rfl rfl (by decide +kernel) ?_
  refine P_invV (As := [(0, x1), (0, 1), (0, 100)]) (q := 15) oX11_isAhead rfl kM306 kX11_565 e1 hMF (Nat.le_of_ble_eq_true rfl) hc rfl (by decide +kernel) (fun z I2 R2 hq => ?_)
  exact (h z I2 R2 hq)
theorem S_X11_noons_15 {X : CX} {d : Nat} {x1 o0 : Int} {I R : PF} {Q : PV → PF → PF → Prop} (c1 : -2147483648 ≤ o0 ∧ o0 < 2147483648) (h1 : o0 ≠ 0 → PN X d mX11_noons 24 [(2, 306), (0, x1)] [] I R Q) (h2 : o0 = 0 → PN X d mX11_noons 18 [(2, 306)] [] I R Q) : PN X d mX11_noons 15 [(2, 306), (0, x1)] [(0, o0)] I R Q := by
  refine B_if_ne (off := 9) (t := 24) (q := 18) c1 (by decide) rfl (by decide +kernel) ?_ ?_
  · exact fun g9 => (h1 g9)
  · exact fun g9 => (PW_sub (ls' := [(2, 306)]) ⟨Or.inr rfl, trivial⟩ (h2 g9))
theorem S_X11_noons_18 {X : CX} {d d1 : Nat} {I R : PF} {Q Q1 : PV → PF → PF → Prop} (e1 : d1 + 1 ≤ d) (hc : CN X d1 mX11_refuses [(2, 306), (0, 3)] I R Q1) (h : ∀ z I2 R2, Q1 (0, z) I2 R2 → PN X d mX11_noons 23 [] [(0, z)] I2 R2 Q) : PN X d mX11_noons 18 [(2, 306)] [] I R Q := by
  refine P_aload_n (n := 0) (q := 19) rfl rfl (by decide +kernel) ?_
  refine P_iconst (n := 3) (q := 20) rfl (by decide +kernel) ?_
  refine P_invV (As := [(0, 3)]) (q := 23) oX11_refuses rfl kM306 kX11_594 e1 hMF (Nat.le_of_ble_eq_true rfl) hc rfl (by decide +kernel) (fun z I2 R2 hq => ?_)
  exact (PW_sub (ls' := []) trivial (h z I2 R2 hq))
theorem S_X11_noons_23 {X : CX} {d : Nat} {o0 : Int} {I R : PF} {Q : PV → PF → PF → Prop} (h : Q (0, o0) I R) : PN X d mX11_noons 23 [] [(0, o0)] I R Q := by
  refine P_iret rfl (by decide +kernel) h
theorem S_X11_noons_24 {X : CX} {d d1 : Nat} {x1 : Int} {I R : PF} {Q Q1 : PV → PF → PF → Prop} (e1 : d1 + 1 ≤ d) (hc : CN X d1 mX11_keeps [(2, 306)] I R Q1) (h : ∀ z I2 R2, Q1 (9, z) I2 R2 → PN X d mX11_noons 28 [(2, 306), (0, x1)] [] I2 R2 Q) : PN X d mX11_noons 24 [(2, 306), (0, x1)] [] I R Q := by
  refine P_aload_n (n := 0) (q := 25) rfl rfl (by decide +kernel) ?_
  refine P_invV (As := []) (q := 28) oX11_keeps rfl kM306 kX11_591 e1 hMF (Nat.le_of_ble_eq_true rfl) hc rfl (by decide +kernel) (fun z I2 R2 hq => ?_)
  exact (h z I2 R2 hq)
theorem S_X11_noons_28 {X : CX} {d : Nat} {x1 : Int} {I R : PF} {Q : PV → PF → PF → Prop} (h : PN X d mX11_noons 32 [(2, 306), (0, x1), (0, 0), (0, 0)] [] I R Q) : PN X d mX11_noons 28 [(2, 306), (0, x1)] [] I R Q := by
  refine P_iconst (n := 0) (q := 29) rfl (by decide +kernel) ?_
  refine P_istore_n (n := 2) (by decide) (q := 30) rfl (by decide +kernel) ?_
  refine P_iconst (n := 0) (q := 31) rfl (by decide +kernel) ?_
  refine P_istore_n (n := 3) (by decide) (q := 32) rfl (by decide +kernel) ?_
  exact h
theorem S_X11_noons_32 {X : CX} {d : Nat} {x1 x2 x3 : Int} {I R : PF} {Q : PV → PF → PF → Prop} (c1 : -2147483648 ≤ x3 ∧ x3 < 2147483648) (c2 : -2147483648 ≤ x1 ∧ x1 < 2147483648) (h1 : x1 ≤ x3 → PN X d mX11_noons 61 [(9, 0), (9, 0), (0, x2)] [] I R Q) (h2 : x3 < x1 → PN X d mX11_noons 37 [(2, 306), (0, x1), (0, x2), (0, x3)] [] I R Q) : PN X d mX11_noons 32 [(2, 306), (0, x1), (0, x2), (0, x3)] [] I R Q := by
  refine P_iload_n (n := 3) (q := 33) rfl rfl (by decide +kernel) ?_
  refine P_iload_n (n := 1) (q := 34) rfl rfl (by decide +kernel) ?_
  refine B_icmp_ge (off := 27) (t := 61) (q := 37) c1 c2 (by decide) rfl (by decide +kernel) ?_ ?_
  · exact fun g9 => (PW_sub (ls' := [(9, 0), (9, 0), (0, x2)]) ⟨Or.inl rfl, Or.inl rfl, Or.inr rfl, trivial⟩ (h1 g9))
  · exact fun g9 => (h2 g9)
theorem S_X11_noons_37 {X : CX} {d d1 : Nat} {x1 x2 x3 : Int} {I R : PF} {Q Q1 : PV → PF → PF → Prop} (e1 : d1 + 1 ≤ d) (hc : CN X d1 mX11_noonGoes [(2, 306), (0, 0)] I R Q1) (h : ∀ z I2 R2, Q1 (9, z) I2 R2 → PN X d mX11_noons 42 [(2, 306), (0, x1), (0, x2), (0, x3)] [] I2 R2 Q) : PN X d mX11_noons 37 [(2, 306), (0, x1), (0, x2), (0, x3)] [] I R Q := by
  refine P_aload_n (n := 0) (q := 38) rfl rfl (by decide +kernel) ?_
  refine P_iconst (n := 0) (q := 39) rfl (by decide +kernel) ?_
  refine P_invV (As := [(0, 0)]) (q := 42) oX11_noonGoes rfl kM306 kX11_562 e1 hMF (Nat.le_of_ble_eq_true rfl) hc rfl (by decide +kernel) (fun z I2 R2 hq => ?_)
  exact (h z I2 R2 hq)
theorem S_X11_noons_42 {X : CX} {d : Nat} {x1 x2 x3 : Int} {I R : PF} {Q : PV → PF → PF → Prop} (hs : Shp R) (c1 : -2147483648 ≤ (I 348 1) ∧ (I 348 1) < 2147483648) (h1 : (I 348 1) = (-1) → PN X d mX11_noons 55 [(2, 306), (0, x1), (0, x2), (0, x3)] [] I R Q) (h2 : (I 348 1) ≠ (-1) → PN X d mX11_noons 52 [(2, 306), (0, x1), (0, x2), (0, x3)] [] I R Q) : PN X d mX11_noons 42 [(2, 306), (0, x1), (0, x2), (0, x3)] [] I R Q := by
  refine P_aload_n (n := 0) (q := 43) rfl rfl (by decide +kernel) ?_
  refine B_getfR (q := 46) fX11_303 kM306 (rM306_59 hs) rfl (by decide +kernel) ?_
  refine P_iconst (n := 1) (q := 47) rfl (by decide +kernel) ?_
  refine B_iaload (q := 48) kM348 nM348 (by decide) ⟨by decide, by decide⟩ rfl (by decide +kernel) ?_
  refine P_iconst (n := (-1)) (q := 49) rfl (by decide +kernel) ?_
  refine B_icmp_eq (off := 6) (t := 55) (q := 52) c1 ⟨by decide, by decide⟩ (by decide) rfl (by decide +kernel) ?_ ?_
  · exact fun g9 => (h1 g9)
  · exact fun g9 => (h2 g9)
theorem S_X11_noons_52 {X : CX} {d : Nat} {x1 x2 x3 : Int} {I R : PF} {Q : PV → PF → PF → Prop} (h : PN X d mX11_noons 55 [(2, 306), (0, x1), (0, (x2 + 1)), (0, x3)] [] I R Q) : PN X d mX11_noons 52 [(2, 306), (0, x1), (0, x2), (0, x3)] [] I R Q := by
  refine P_iinc (n := 2) (a := 1) (by decide) rfl (q := 55) rfl (by decide +kernel) ?_
  exact h
theorem S_X11_noons_55 {X : CX} {d : Nat} {x1 x2 x3 : Int} {I R : PF} {Q : PV → PF → PF → Prop} (h : PN X d mX11_noons 32 [(2, 306), (0, x1), (0, x2), (0, (x3 + 1))] [] I R Q) : PN X d mX11_noons 55 [(2, 306), (0, x1), (0, x2), (0, x3)] [] I R Q := by
  refine P_iinc (n := 3) (a := 1) (by decide) rfl (q := 58) rfl (by decide +kernel) ?_
  refine P_goto (off := (-26)) (t := 32) (by decide) (by decide +kernel) ?_
  exact h
theorem S_X11_noons_61 {X : CX} {d : Nat} {x2 : Int} {I R : PF} {Q : PV → PF → PF → Prop} (h : Q (0, x2) I R) : PN X d mX11_noons 61 [(9, 0), (9, 0), (0, x2)] [] I R Q := by
  refine P_iload_n (n := 2) (q := 62) rfl rfl (by decide +kernel) ?_
  refine P_iret rfl (by decide +kernel) h
theorem S_X11_noonsGo_0 {X : CX} {d : Nat} {x1 : Int} {I R : PF} {Q : PV → PF → PF → Prop} (h : PN X d mX11_noonsGo 2 [(2, 306), (0, x1), (0, 0)] [] I R Q) : PN X d mX11_noonsGo 0 [(2, 306), (0, x1)] [] I R Q := by
  refine P_iconst (n := 0) (q := 1) rfl (by decide +kernel) ?_
  refine P_istore_n (n := 2) (by decide) (q := 2) rfl (by decide +kernel) ?_
  exact h
theorem S_X11_noonsGo_2 {X : CX} {d : Nat} {x1 x2 : Int} {I R : PF} {Q : PV → PF → PF → Prop} (c1 : -2147483648 ≤ x2 ∧ x2 < 2147483648) (c2 : -2147483648 ≤ x1 ∧ x1 < 2147483648) (h1 : x1 ≤ x2 → PN X d mX11_noonsGo 18 [] [] I R Q) (h2 : x2 < x1 → PN X d mX11_noonsGo 7 [(2, 306), (0, x1), (0, x2)] [] I R Q) : PN X d mX11_noonsGo 2 [(2, 306), (0, x1), (0, x2)] [] I R Q := by
  refine P_iload_n (n := 2) (q := 3) rfl rfl (by decide +kernel) ?_
  refine P_iload_n (n := 1) (q := 4) rfl rfl (by decide +kernel) ?_
  refine B_icmp_ge (off := 14) (t := 18) (q := 7) c1 c2 (by decide) rfl (by decide +kernel) ?_ ?_
  · exact fun g9 => (PW_sub (ls' := []) trivial (h1 g9))
  · exact fun g9 => (h2 g9)
theorem S_X11_noonsGo_7 {X : CX} {d d1 : Nat} {x1 x2 : Int} {I R : PF} {Q Q1 : PV → PF → PF → Prop} (e1 : d1 + 1 ≤ d) (hc : CN X d1 mX11_noonGoes [(2, 306), (0, 0)] I R Q1) (h : ∀ z I2 R2, Q1 (9, z) I2 R2 → PN X d mX11_noonsGo 12 [(2, 306), (0, x1), (0, x2)] [] I2 R2 Q) : PN X d mX11_noonsGo 7 [(2, 306), (0, x1), (0, x2)] [] I R Q := by
  refine P_aload_n (n := 0) (q := 8) rfl rfl (by decide +kernel) ?_
  refine P_iconst (n := 0) (q := 9) rfl (by decide +kernel) ?_
  refine P_invV (As := [(0, 0)]) (q := 12) oX11_noonGoes rfl kM306 kX11_562 e1 hMF (Nat.le_of_ble_eq_true rfl) hc rfl (by decide +kernel) (fun z I2 R2 hq => ?_)
  exact (h z I2 R2 hq)
theorem S_X11_noonsGo_12 {X : CX} {d : Nat} {x1 x2 : Int} {I R : PF} {Q : PV → PF → PF → Prop} (h : PN X d mX11_noonsGo 2 [(2, 306), (0, x1), (0, (x2 + 1))] [] I R Q) : PN X d mX11_noonsGo 12 [(2, 306), (0, x1), (0, x2)] [] I R Q := by
  refine P_iinc (n := 2) (a := 1) (by decide) rfl (q := 15) rfl (by decide +kernel) ?_
  refine P_goto (off := (-13)) (t := 2) (by decide) (by decide +kernel) ?_
  exact h
theorem S_X11_noonsGo_18 {X : CX} {d : Nat} {I R : PF} {Q : PV → PF → PF → Prop} (h : Q (9, 0) I R) : PN X d mX11_noonsGo 18 [] [] I R Q := by
  refine P_vret rfl (by decide +kernel) h
theorem S_X11_number_0 {X : CX} {d : Nat} {x1 x2 : Int} {I R : PF} {Q : PV → PF → PF → Prop} (c1 : -2147483648 ≤ (I 306 5) ∧ (I 306 5) < 2147483648) (h1 : (I 306 5) = 0 → PN X d mX11_number 9 [(2, 306), (0, x1), (0, x2)] [] I R Q) (h2 : (I 306 5) ≠ 0 → PN X d mX11_number 7 [] [] I R Q) : PN X d mX11_number 0 [(2, 306), (0, x1), (0, x2)] [] I R Q := by
  refine P_aload_n (n := 0) (q := 1) rfl rfl (by decide +kernel) ?_
  refine P_getf (q := 4) fX11_14 kM306 rfl (by decide +kernel) ?_
  refine B_if_eq (off := 5) (t := 9) (q := 7) c1 (by decide) rfl (by decide +kernel) ?_ ?_
  · exact fun g9 => (h1 g9)
  · exact fun g9 => (PW_sub (ls' := []) trivial (h2 g9))
theorem S_X11_number_7 {X : CX} {d : Nat} {I R : PF} {Q : PV → PF → PF → Prop} (h : Q (0, 0) I R) : PN X d mX11_number 7 [] [] I R Q := by
  refine P_iconst (n := 0) (q := 8) rfl (by decide +kernel) ?_
  refine P_iret rfl (by decide +kernel) h
theorem S_X11_number_9 {X : CX} {d d1 : Nat} {x1 x2 : Int} {I R : PF} {Q Q1 : PV → PF → PF → Prop} (e1 : d1 + 1 ≤ d) (hc : CN X d1 mX11_look [(2, 306)] I R Q1) (h : ∀ z I2 R2, Q1 (0, z) I2 R2 → PN X d mX11_number 13 [(2, 306), (0, x1), (0, x2)] [(0, z)] I2 R2 Q) : PN X d mX11_number 9 [(2, 306), (0, x1), (0, x2)] [] I R Q := by
  refine P_aload_n (n := 0) (q := 10) rfl rfl (by decide +kernel) ?_
  refine P_invV (As := []) (q := 13) oX11_look rfl kM306 kX11_26 e1 hMF (Nat.le_of_ble_eq_true rfl) hc rfl (by decide +kernel) (fun z I2 R2 hq => ?_)
  exact (h z I2 R2 hq)
theorem S_X11_number_13 {X : CX} {d d1 : Nat} {x1 x2 o0 : Int} {I R : PF} {Q Q1 : PV → PF → PF → Prop} (e1 : d1 + 1 ≤ d) (hc : CN X d1 mX11_isDigit [(0, o0)] I R Q1) (h : ∀ z I2 R2, Q1 (0, z) I2 R2 → PN X d mX11_number 16 [(2, 306), (0, x1), (0, x2)] [(0, z)] I2 R2 Q) : PN X d mX11_number 13 [(2, 306), (0, x1), (0, x2)] [(0, o0)] I R Q := by
  refine P_invS (As := [(0, o0)]) (q := 16) oX11_isDigit rfl (Or.inl kX11_51) e1 hMF (Nat.le_of_ble_eq_true rfl) hc rfl (by decide +kernel) (fun z I2 R2 hq => ?_)
  exact (h z I2 R2 hq)
theorem S_X11_number_16 {X : CX} {d : Nat} {x1 x2 o0 : Int} {I R : PF} {Q : PV → PF → PF → Prop} (c1 : -2147483648 ≤ o0 ∧ o0 < 2147483648) (h1 : o0 = 0 → PN X d mX11_number 30 [(2, 306)] [] I R Q) (h2 : o0 ≠ 0 → PN X d mX11_number 19 [(2, 306), (0, x1), (0, x2)] [] I R Q) : PN X d mX11_number 16 [(2, 306), (0, x1), (0, x2)] [(0, o0)] I R Q := by
  refine B_if_eq (off := 14) (t := 30) (q := 19) c1 (by decide) rfl (by decide +kernel) ?_ ?_
  · exact fun g9 => (PW_sub (ls' := [(2, 306)]) ⟨Or.inr rfl, trivial⟩ (h1 g9))
  · exact fun g9 => (h2 g9)
theorem S_X11_number_19 {X : CX} {d : Nat} {x1 x2 : Int} {I R : PF} {Q : PV → PF → PF → Prop} (c1 : -2147483648 ≤ (I 306 2) ∧ (I 306 2) < 2147483648) (c2 : -2147483648 ≤ (I 306 4) ∧ (I 306 4) < 2147483648) (h1 : (I 306 2) ≠ (I 306 4) → PN X d mX11_number 41 [(2, 306), (0, x1), (0, x2)] [] I R Q) (h2 : (I 306 2) = (I 306 4) → PN X d mX11_number 30 [(2, 306)] [] I R Q) : PN X d mX11_number 19 [(2, 306), (0, x1), (0, x2)] [] I R Q := by
  refine P_aload_n (n := 0) (q := 20) rfl rfl (by decide +kernel) ?_
  refine P_getf (q := 23) fX11_20 kM306 rfl (by decide +kernel) ?_
  refine P_aload_n (n := 0) (q := 24) rfl rfl (by decide +kernel) ?_
  refine P_getf (q := 27) fX11_34 kM306 rfl (by decide +kernel) ?_
  refine B_icmp_ne (off := 14) (t := 41) (q := 30) c1 c2 (by decide) rfl (by decide +kernel) ?_ ?_
  · exact fun g9 => (h1 g9)
  · exact fun g9 => (PW_sub (ls' := [(2, 306)]) ⟨Or.inr rfl, trivial⟩ (h2 g9))
theorem S_X11_number_30 {X : CX} {d d1 : Nat} {I R : PF} {Q Q1 : PV → PF → PF → Prop} (e1 : d1 + 1 ≤ d) (hc : CN X d1 mX11_fail [(2, 306), (0, 1), (0, (I 306 2))] I R Q1) (h : ∀ z I2 R2, Q1 (9, z) I2 R2 → PN X d mX11_number 39 [] [] I2 R2 Q) : PN X d mX11_number 30 [(2, 306)] [] I R Q := by
  refine P_aload_n (n := 0) (q := 31) rfl rfl (by decide +kernel) ?_
  refine P_iconst (n := 1) (q := 32) rfl (by decide +kernel) ?_
  refine P_aload_n (n := 0) (q := 33) rfl rfl (by decide +kernel) ?_
  refine P_getf (q := 36) fX11_20 kM306 rfl (by decide +kernel) ?_
  refine P_invV (As := [(0, 1), (0, (I 306 2))]) (q := 39) oX11_fail rfl kM306 kX11_44 e1 hMF (Nat.le_of_ble_eq_true rfl) hc rfl (by decide +kernel) (fun z I2 R2 hq => ?_)
  exact (PW_sub (ls' := []) trivial (h z I2 R2 hq))
theorem S_X11_number_39 {X : CX} {d : Nat} {I R : PF} {Q : PV → PF → PF → Prop} (h : Q (0, 0) I R) : PN X d mX11_number 39 [] [] I R Q := by
  refine P_iconst (n := 0) (q := 40) rfl (by decide +kernel) ?_
  refine P_iret rfl (by decide +kernel) h
theorem S_X11_number_41 {X : CX} {d : Nat} {x1 x2 : Int} {I R : PF} {Q : PV → PF → PF → Prop} (h : PN X d mX11_number 49 [(2, 306), (0, x1), (0, x2), (0, (I 306 2)), (0, 0)] [] I R Q) : PN X d mX11_number 41 [(2, 306), (0, x1), (0, x2)] [] I R Q := by
  refine P_aload_n (n := 0) (q := 42) rfl rfl (by decide +kernel) ?_
  refine P_getf (q := 45) fX11_20 kM306 rfl (by decide +kernel) ?_
  refine P_istore_n (n := 3) (by decide) (q := 46) rfl (by decide +kernel) ?_
  refine P_iconst (n := 0) (q := 47) rfl (by decide +kernel) ?_
  refine P_istore (n := 4) (by decide) (q := 49) rfl (by decide +kernel) ?_
  exact h
theorem S_X11_number_49 {X : CX} {d : Nat} {x1 x2 x3 x4 : Int} {I R : PF} {Q : PV → PF → PF → Prop} (c1 : -2147483648 ≤ (I 306 2) ∧ (I 306 2) < 2147483648) (c2 : -2147483648 ≤ (I 306 3) ∧ (I 306 3) < 2147483648) (h1 : (I 306 3) ≤ (I 306 2) → PN X d mX11_number 129 [(2, 306), (0, x1), (0, x2), (0, x3), (0, x4)] [] I R Q) (h2 : (I 306 2) < (I 306 3) → PN X d mX11_number 60 [(2, 306), (0, x1), (0, x2), (0, x3), (0, x4)] [] I R Q) : PN X d mX11_number 49 [(2, 306), (0, x1), (0, x2), (0, x3), (0, x4)] [] I R Q := by
  refine P_aload_n (n := 0) (q := 50) rfl rfl (by decide +kernel) ?_
  refine P_getf (q := 53) fX11_20 kM306 rfl (by decide +kernel) ?_
  refine P_aload_n (n := 0) (q := 54) rfl rfl (by decide +kernel) ?_
  refine P_getf (q := 57) fX11_23 kM306 rfl (by decide +kernel) ?_
  refine B_icmp_ge (off := 72) (t := 129) (q := 60) c1 c2 (by decide) rfl (by decide +kernel) ?_ ?_
  · exact fun g9 => (h1 g9)
  · exact fun g9 => (h2 g9)
theorem S_X11_number_60 {X : CX} {d d1 : Nat} {x1 x2 x3 x4 : Int} {I R : PF} {Q Q1 : PV → PF → PF → Prop} (hs : Shp R) (b1 : (0 : Int) ≤ (I 306 2) ∧ (I 306 2) < 1600) (e1 : d1 + 1 ≤ d) (hc : CN X d1 mX11_isDigit [(0, (I 307 (I 306 2)))] I R Q1) (h : ∀ z I2 R2, Q1 (0, z) I2 R2 → PN X d mX11_number 72 [(2, 306), (0, x1), (0, x2), (0, x3), (0, x4)] [(0, z)] I2 R2 Q) : PN X d mX11_number 60 [(2, 306), (0, x1), (0, x2), (0, x3), (0, x4)] [] I R Q := by
  refine P_aload_n (n := 0) (q := 61) rfl rfl (by decide +kernel) ?_
  refine B_getfR (q := 64) fX11_11 kM306 (rM306_0 hs) rfl (by decide +kernel) ?_
  refine P_aload_n (n := 0) (q := 65) rfl rfl (by decide +kernel) ?_
  refine P_getf (q := 68) fX11_20 kM306 rfl (by decide +kernel) ?_
  refine B_iaload (q := 69) kM307 nM307 (by decide) b1 rfl (by decide +kernel) ?_
  refine P_invS (As := [(0, (I 307 (I 306 2)))]) (q := 72) oX11_isDigit rfl (Or.inl kX11_51) e1 hMF (Nat.le_of_ble_eq_true rfl) hc rfl (by decide +kernel) (fun z I2 R2 hq => ?_)
  exact (h z I2 R2 hq)
theorem S_X11_number_72 {X : CX} {d : Nat} {x1 x2 x3 x4 o0 : Int} {I R : PF} {Q : PV → PF → PF → Prop} (c1 : -2147483648 ≤ o0 ∧ o0 < 2147483648) (h1 : o0 = 0 → PN X d mX11_number 129 [(2, 306), (0, x1), (0, x2), (0, x3), (0, x4)] [] I R Q) (h2 : o0 ≠ 0 → PN X d mX11_number 75 [(2, 306), (0, x1), (0, x2), (0, x3), (0, x4)] [] I R Q) : PN X d mX11_number 72 [(2, 306), (0, x1), (0, x2), (0, x3), (0, x4)] [(0, o0)] I R Q := by
  refine B_if_eq (off := 57) (t := 129) (q := 75) c1 (by decide) rfl (by decide +kernel) ?_ ?_
  · exact fun g9 => (h1 g9)
  · exact fun g9 => (h2 g9)
theorem S_X11_number_75 {X : CX} {d : Nat} {x1 x2 x3 x4 : Int} {I R : PF} {Q : PV → PF → PF → Prop} (c1 : -2147483648 ≤ ((I 306 2) - x3) ∧ ((I 306 2) - x3) < 2147483648) (h1 : ((I 306 2) - x3) ≠ 4 → PN X d mX11_number 96 [(2, 306), (0, x1), (0, x2), (0, x3), (0, x4)] [] I R Q) (h2 : ((I 306 2) - x3) = 4 → PN X d mX11_number 85 [(2, 306)] [] I R Q) : PN X d mX11_number 75 [(2, 306), (0, x1), (0, x2), (0, x3), (0, x4)] [] I R Q := by
  refine P_aload_n (n := 0) (q := 76) rfl rfl (by decide +kernel) ?_
  refine P_getf (q := 79) fX11_20 kM306 rfl (by decide +kernel) ?_
  refine P_iload_n (n := 3) (q := 80) rfl rfl (by decide +kernel) ?_
  refine P_isub (q := 81) rfl (by decide +kernel) ?_
  refine P_iconst (n := 4) (q := 82) rfl (by decide +kernel) ?_
  refine B_icmp_ne (off := 14) (t := 96) (q := 85) c1 ⟨by decide, by decide⟩ (by decide) rfl (by decide +kernel) ?_ ?_
  · exact fun g9 => (h1 g9)
  · exact fun g9 => (PW_sub (ls' := [(2, 306)]) ⟨Or.inr rfl, trivial⟩ (h2 g9))
theorem S_X11_number_85 {X : CX} {d d1 : Nat} {I R : PF} {Q Q1 : PV → PF → PF → Prop} (e1 : d1 + 1 ≤ d) (hc : CN X d1 mX11_fail [(2, 306), (0, 1), (0, (I 306 2))] I R Q1) (h : ∀ z I2 R2, Q1 (9, z) I2 R2 → PN X d mX11_number 94 [] [] I2 R2 Q) : PN X d mX11_number 85 [(2, 306)] [] I R Q := by
  refine P_aload_n (n := 0) (q := 86) rfl rfl (by decide +kernel) ?_
  refine P_iconst (n := 1) (q := 87) rfl (by decide +kernel) ?_
  refine P_aload_n (n := 0) (q := 88) rfl rfl (by decide +kernel) ?_
  refine P_getf (q := 91) fX11_20 kM306 rfl (by decide +kernel) ?_
  refine P_invV (As := [(0, 1), (0, (I 306 2))]) (q := 94) oX11_fail rfl kM306 kX11_44 e1 hMF (Nat.le_of_ble_eq_true rfl) hc rfl (by decide +kernel) (fun z I2 R2 hq => ?_)
  exact (PW_sub (ls' := []) trivial (h z I2 R2 hq))
theorem S_X11_number_94 {X : CX} {d : Nat} {I R : PF} {Q : PV → PF → PF → Prop} (h : Q (0, 0) I R) : PN X d mX11_number 94 [] [] I R Q := by
  refine P_iconst (n := 0) (q := 95) rfl (by decide +kernel) ?_
  refine P_iret rfl (by decide +kernel) h
theorem S_X11_number_96 {X : CX} {d : Nat} {x1 x2 x3 x4 : Int} {I R : PF} {Q : PV → PF → PF → Prop} (hs : Shp R) (b1 : (0 : Int) ≤ (I 306 2) ∧ (I 306 2) < 1600) (h : PN X d mX11_number 49 [(2, 306), (0, x1), (0, x2), (0, x3), (0, (((10 * x4) + (I 307 (I 306 2))) - 48))] [] (u2 I 306 2 ((I 306 2) + 1)) R Q) : PN X d mX11_number 96 [(2, 306), (0, x1), (0, x2), (0, x3), (0, x4)] [] I R Q := by
  refine P_bipush (n := 10) (q := 98) rfl rfl (by decide +kernel) ?_
  refine P_iload (n := 4) (q := 100) rfl rfl (by decide +kernel) ?_
  refine P_imul (q := 101) rfl (by decide +kernel) ?_
  refine P_aload_n (n := 0) (q := 102) rfl rfl (by decide +kernel) ?_
  refine B_getfR (q := 105) fX11_11 kM306 (rM306_0 hs) rfl (by decide +kernel) ?_
  refine P_aload_n (n := 0) (q := 106) rfl rfl (by decide +kernel) ?_
  refine P_getf (q := 109) fX11_20 kM306 rfl (by decide +kernel) ?_
  refine B_iaload (q := 110) kM307 nM307 (by decide) b1 rfl (by decide +kernel) ?_
  refine P_iadd (q := 111) rfl (by decide +kernel) ?_
  refine P_bipush (n := 48) (q := 113) rfl rfl (by decide +kernel) ?_
  refine P_isub (q := 114) rfl (by decide +kernel) ?_
  refine P_istore (n := 4) (by decide) (q := 116) rfl (by decide +kernel) ?_
  refine P_aload_n (n := 0) (q := 117) rfl rfl (by decide +kernel) ?_
  refine P_dup (q := 118) (Nat.ne_of_beq_eq_false rfl) rfl (by decide +kernel) ?_
  refine P_getf (q := 121) fX11_20 kM306 rfl (by decide +kernel) ?_
  refine P_iconst (n := 1) (q := 122) rfl (by decide +kernel) ?_
  refine P_iadd (q := 123) rfl (by decide +kernel) ?_
  refine P_putI (q := 126) wX11_20 (fun h => by cases h) kM306 rfl (by decide +kernel) ?_
  refine P_goto (off := (-77)) (t := 49) (by decide) (by decide +kernel) ?_
  exact h
theorem S_X11_number_129 {X : CX} {d d1 : Nat} {x1 x2 x3 x4 : Int} {I R : PF} {Q Q1 : PV → PF → PF → Prop} (c1 : -2147483648 ≤ x4 ∧ x4 < 2147483648) (c2 : -2147483648 ≤ x1 ∧ x1 < 2147483648) (c3 : -2147483648 ≤ x2 ∧ x2 < 2147483648) (e1 : d1 + 1 ≤ d) (hc : CN X d1 mX11_isIn [(1, x4), (1, x1), (1, x2)] (u2 (u2 I 306 4 (I 306 2)) 306 10 x3) R Q1) (h : ∀ z I2 R2, Q1 (0, z) I2 R2 → PN X d mX11_number 152 [(2, 306), (9, 0), (9, 0), (0, x3), (0, x4)] [(0, z)] I2 R2 Q) : PN X d mX11_number 129 [(2, 306), (0, x1), (0, x2), (0, x3), (0, x4)] [] I R Q := by
  refine P_aload_n (n := 0) (q := 130) rfl rfl (by decide +kernel) ?_
  refine P_aload_n (n := 0) (q := 131) rfl rfl (by decide +kernel) ?_
  refine P_getf (q := 134) fX11_20 kM306 rfl (by decide +kernel) ?_
  refine P_putI (q := 137) wX11_34 (fun h => by cases h) kM306 rfl (by decide +kernel) ?_
  refine P_aload_n (n := 0) (q := 138) rfl rfl (by decide +kernel) ?_
  refine P_iload_n (n := 3) (q := 139) rfl rfl (by decide +kernel) ?_
  refine P_putI (q := 142) wX11_54 (fun h => by cases h) kM306 rfl (by decide +kernel) ?_
  refine P_iload (n := 4) (q := 144) rfl rfl (by decide +kernel) ?_
  refine B_i2l (q := 145) c1 rfl (by decide +kernel) ?_
  refine P_iload_n (n := 1) (q := 146) rfl rfl (by decide +kernel) ?_
  refine B_i2l (q := 147) c2 rfl (by decide +kernel) ?_
  refine P_iload_n (n := 2) (q := 148) rfl rfl (by decide +kernel) ?_
  refine B_i2l (q := 149) c3 rfl (by decide +kernel) ?_
  refine P_invS (As := [(1, x4), (1, x1), (1, x2)]) (q := 152) oX11_isIn rfl (Or.inl kX11_57) e1 hMF (Nat.le_of_ble_eq_true rfl) hc rfl (by decide +kernel) (fun z I2 R2 hq => ?_)
  exact (PW_sub (ls' := [(2, 306), (9, 0), (9, 0), (0, x3), (0, x4)]) ⟨Or.inr rfl, Or.inl rfl, Or.inl rfl, Or.inr rfl, Or.inr rfl, trivial⟩ (h z I2 R2 hq))
theorem S_X11_number_152 {X : CX} {d : Nat} {x3 x4 o0 : Int} {I R : PF} {Q : PV → PF → PF → Prop} (c1 : -2147483648 ≤ o0 ∧ o0 < 2147483648) (h1 : o0 ≠ 0 → PN X d mX11_number 161 [(9, 0), (9, 0), (9, 0), (9, 0), (0, x4)] [] I R Q) (h2 : o0 = 0 → PN X d mX11_number 155 [(2, 306), (9, 0), (9, 0), (0, x3), (0, x4)] [] I R Q) : PN X d mX11_number 152 [(2, 306), (9, 0), (9, 0), (0, x3), (0, x4)] [(0, o0)] I R Q := by
  refine B_if_ne (off := 9) (t := 161) (q := 155) c1 (by decide) rfl (by decide +kernel) ?_ ?_
  · exact fun g9 => (PW_sub (ls' := [(9, 0), (9, 0), (9, 0), (9, 0), (0, x4)]) ⟨Or.inl rfl, Or.inl rfl, Or.inl rfl, Or.inl rfl, Or.inr rfl, trivial⟩ (h1 g9))
  · exact fun g9 => (h2 g9)
theorem S_X11_number_155 {X : CX} {d d1 : Nat} {x3 x4 : Int} {I R : PF} {Q Q1 : PV → PF → PF → Prop} (e1 : d1 + 1 ≤ d) (hc : CN X d1 mX11_fail [(2, 306), (0, 2), (0, x3)] I R Q1) (h : ∀ z I2 R2, Q1 (9, z) I2 R2 → PN X d mX11_number 161 [(9, 0), (9, 0), (9, 0), (9, 0), (0, x4)] [] I2 R2 Q) : PN X d mX11_number 155 [(2, 306), (9, 0), (9, 0), (0, x3), (0, x4)] [] I R Q := by
  refine P_aload_n (n := 0) (q := 156) rfl rfl (by decide +kernel) ?_
  refine P_iconst (n := 2) (q := 157) rfl (by decide +kernel) ?_
  refine P_iload_n (n := 3) (q := 158) rfl rfl (by decide +kernel) ?_
  refine P_invV (As := [(0, 2), (0, x3)]) (q := 161) oX11_fail rfl kM306 kX11_44 e1 hMF (Nat.le_of_ble_eq_true rfl) hc rfl (by decide +kernel) (fun z I2 R2 hq => ?_)
  exact (PW_sub (ls' := [(9, 0), (9, 0), (9, 0), (9, 0), (0, x4)]) ⟨Or.inl rfl, Or.inl rfl, Or.inl rfl, Or.inl rfl, Or.inr rfl, trivial⟩ (h z I2 R2 hq))
theorem S_X11_number_161 {X : CX} {d : Nat} {x4 : Int} {I R : PF} {Q : PV → PF → PF → Prop} (h : Q (0, x4) I R) : PN X d mX11_number 161 [(9, 0), (9, 0), (9, 0), (9, 0), (0, x4)] [] I R Q := by
  refine P_iload (n := 4) (q := 163) rfl rfl (by decide +kernel) ?_
  refine P_iret rfl (by decide +kernel) h
theorem S_X11_octet_0 {X : CX} {d : Nat} {x1 : Int} {I R : PF} {Q : PV → PF → PF → Prop} (c1 : -2147483648 ≤ x1 ∧ x1 < 2147483648) (h1 : x1 < 0 → PN X d mX11_octet 21 [] [] I R Q) (h2 : 0 ≤ x1 → PN X d mX11_octet 4 [(2, 306), (0, x1)] [] I R Q) : PN X d mX11_octet 0 [(2, 306), (0, x1)] [] I R Q := by
  refine P_iload_n (n := 1) (q := 1) rfl rfl (by decide +kernel) ?_
  refine B_if_lt (off := 20) (t := 21) (q := 4) c1 (by decide) rfl (by decide +kernel) ?_ ?_
  · exact fun g9 => (PW_sub (ls' := []) trivial (h1 g9))
  · exact fun g9 => (h2 g9)
theorem S_X11_octet_4 {X : CX} {d : Nat} {x1 : Int} {I R : PF} {Q : PV → PF → PF → Prop} (c1 : -2147483648 ≤ x1 ∧ x1 < 2147483648) (c2 : -2147483648 ≤ (I 306 114) ∧ (I 306 114) < 2147483648) (h1 : (I 306 114) ≤ x1 → PN X d mX11_octet 21 [] [] I R Q) (h2 : x1 < (I 306 114) → PN X d mX11_octet 12 [(2, 306), (0, x1)] [] I R Q) : PN X d mX11_octet 4 [(2, 306), (0, x1)] [] I R Q := by
  refine P_iload_n (n := 1) (q := 5) rfl rfl (by decide +kernel) ?_
  refine P_aload_n (n := 0) (q := 6) rfl rfl (by decide +kernel) ?_
  refine P_getf (q := 9) fX11_699 kM306 rfl (by decide +kernel) ?_
  refine B_icmp_ge (off := 12) (t := 21) (q := 12) c1 c2 (by decide) rfl (by decide +kernel) ?_ ?_
  · exact fun g9 => (PW_sub (ls' := []) trivial (h1 g9))
  · exact fun g9 => (h2 g9)
theorem S_X11_octet_12 {X : CX} {d : Nat} {x1 : Int} {I R : PF} {Q : PV → PF → PF → Prop} (hs : Shp R) (b1 : (0 : Int) ≤ x1 ∧ x1 < 41) (h : PN X d mX11_octet 22 [] [(0, (I 382 x1))] I R Q) : PN X d mX11_octet 12 [(2, 306), (0, x1)] [] I R Q := by
  refine P_aload_n (n := 0) (q := 13) rfl rfl (by decide +kernel) ?_
  refine B_getfR (q := 16) fX11_417 kM306 (rM306_113 hs) rfl (by decide +kernel) ?_
  refine P_iload_n (n := 1) (q := 17) rfl rfl (by decide +kernel) ?_
  refine B_iaload (q := 18) kM382 nM382 (by decide) b1 rfl (by decide +kernel) ?_
  refine P_goto (off := 4) (t := 22) (by decide) (by decide +kernel) ?_
  exact (PW_sub (ls' := []) trivial h)
theorem S_X11_octet_21 {X : CX} {d : Nat} {I R : PF} {Q : PV → PF → PF → Prop} (h : PN X d mX11_octet 22 [] [(0, (-1))] I R Q) : PN X d mX11_octet 21 [] [] I R Q := by
  refine P_iconst (n := (-1)) (q := 22) rfl (by decide +kernel) ?_
  exact (PW_sub (ls' := []) trivial h)
theorem S_X11_octet_22 {X : CX} {d : Nat} {o0 : Int} {I R : PF} {Q : PV → PF → PF → Prop} (h : Q (0, o0) I R) : PN X d mX11_octet 22 [] [(0, o0)] I R Q := by
  refine P_iret rfl (by decide +kernel) h
theorem S_X11_off_0 {X : CX} {d d1 : Nat} {x0 x1 x2 : Int} {I R : PF} {Q Q1 : PV → PF → PF → Prop} (e1 : d1 + 1 ≤ d) (hc : CN X d1 mX11_wayOf [(0, x2)] I R Q1) (h : ∀ z I2 R2, Q1 (0, z) I2 R2 → PN X d mX11_off 4 [(0, x0), (0, x1), (0, x2)] [(0, z)] I2 R2 Q) : PN X d mX11_off 0 [(0, x0), (0, x1), (0, x2)] [] I R Q := by
  refine P_iload_n (n := 2) (q := 1) rfl rfl (by decide +kernel) ?_
  refine P_invS (As := [(0, x2)]) (q := 4) oX11_wayOf rfl (Or.inl kX11_549) e1 hMF (Nat.le_of_ble_eq_true rfl) hc rfl (by decide +kernel) (fun z I2 R2 hq => ?_)
  exact (h z I2 R2 hq)
theorem S_X11_off_4 {X : CX} {d : Nat} {x0 x1 x2 o0 : Int} {I R : PF} {Q : PV → PF → PF → Prop} (c1 : -2147483648 ≤ x0 ∧ x0 < 2147483648) (c2 : -2147483648 ≤ o0 ∧ o0 < 2147483648) (h1 : o0 ≤ x0 → PN X d mX11_off 16 [(0, x0), (0, x1), (0, x2), (0, o0)] [] I R Q) (h2 : x0 < o0 → PN X d mX11_off 10 [(0, x0), (0, x1), (0, x2), (0, o0)] [] I R Q) : PN X d mX11_off 4 [(0, x0), (0, x1), (0, x2)] [(0, o0)] I R Q := by
  refine P_istore_n (n := 3) (by decide) (q := 5) rfl (by decide +kernel) ?_
  refine P_iload_n (n := 0) (q := 6) rfl rfl (by decide +kernel) ?_
  refine P_iload_n (n := 3) (q := 7) rfl rfl (by decide +kernel) ?_
  refine B_icmp_ge (off := 9) (t := 16) (q := 10) c1 c2 (by decide) rfl (by decide +kernel) ?_ ?_
  · exact fun g9 => (h1 g9)
  · exact fun g9 => (h2 g9)
theorem S_X11_off_10 {X : CX} {d : Nat} {x0 x1 x2 x3 : Int} {I R : PF} {Q : PV → PF → PF → Prop} (h : PN X d mX11_off 19 [(0, x0), (0, x1), (0, x2), (0, x3)] [(0, (x3 - x0))] I R Q) : PN X d mX11_off 10 [(0, x0), (0, x1), (0, x2), (0, x3)] [] I R Q := by
  refine P_iload_n (n := 3) (q := 11) rfl rfl (by decide +kernel) ?_
  refine P_iload_n (n := 0) (q := 12) rfl rfl (by decide +kernel) ?_
  refine P_isub (q := 13) rfl (by decide +kernel) ?_
  refine P_goto (off := 6) (t := 19) (by decide) (by decide +kernel) ?_
  exact h
theorem S_X11_off_16 {X : CX} {d : Nat} {x0 x1 x2 x3 : Int} {I R : PF} {Q : PV → PF → PF → Prop} (h : PN X d mX11_off 19 [(0, x0), (0, x1), (0, x2), (0, x3)] [(0, (x0 - x3))] I R Q) : PN X d mX11_off 16 [(0, x0), (0, x1), (0, x2), (0, x3)] [] I R Q := by
  refine P_iload_n (n := 0) (q := 17) rfl rfl (by decide +kernel) ?_
  refine P_iload_n (n := 3) (q := 18) rfl rfl (by decide +kernel) ?_
  refine P_isub (q := 19) rfl (by decide +kernel) ?_
  exact h
theorem S_X11_off_19 {X : CX} {d : Nat} {x0 x1 x2 x3 o0 : Int} {I R : PF} {Q : PV → PF → PF → Prop} (c1 : -2147483648 ≤ x0 ∧ x0 < 2147483648) (h1 : x0 = 0 → PN X d mX11_off 29 [(0, x0), (0, x1), (0, x2), (0, x3)] [] I R Q) (h2 : x0 ≠ 0 → PN X d mX11_off 25 [(0, x0), (0, x1), (0, x2), (0, x3), (0, o0)] [] I R Q) : PN X d mX11_off 19 [(0, x0), (0, x1), (0, x2), (0, x3)] [(0, o0)] I R Q := by
  refine P_istore (n := 4) (by decide) (q := 21) rfl (by decide +kernel) ?_
  refine P_iload_n (n := 0) (q := 22) rfl rfl (by decide +kernel) ?_
  refine B_if_eq (off := 7) (t := 29) (q := 25) c1 (by decide) rfl (by decide +kernel) ?_ ?_
  · exact fun g9 => (PW_sub (ls' := [(0, x0), (0, x1), (0, x2), (0, x3)]) ⟨Or.inr rfl, Or.inr rfl, Or.inr rfl, Or.inr rfl, trivial⟩ (h1 g9))
  · exact fun g9 => (h2 g9)
theorem S_X11_off_25 {X : CX} {d : Nat} {x0 x1 x2 x3 x4 : Int} {I R : PF} {Q : PV → PF → PF → Prop} (c1 : -2147483648 ≤ x3 ∧ x3 < 2147483648) (h1 : x3 ≠ 0 → PN X d mX11_off 44 [(9, 0), (0, x1), (0, x2), (9, 0), (0, x4)] [] I R Q) (h2 : x3 = 0 → PN X d mX11_off 29 [(0, x0), (0, x1), (0, x2), (0, x3)] [] I R Q) : PN X d mX11_off 25 [(0, x0), (0, x1), (0, x2), (0, x3), (0, x4)] [] I R Q := by
  refine P_iload_n (n := 3) (q := 26) rfl rfl (by decide +kernel) ?_
  refine B_if_ne (off := 18) (t := 44) (q := 29) c1 (by decide) rfl (by decide +kernel) ?_ ?_
  · exact fun g9 => (PW_sub (ls' := [(9, 0), (0, x1), (0, x2), (9, 0), (0, x4)]) ⟨Or.inl rfl, Or.inr rfl, Or.inr rfl, Or.inl rfl, Or.inr rfl, trivial⟩ (h1 g9))
  · exact fun g9 => (PW_sub (ls' := [(0, x0), (0, x1), (0, x2), (0, x3)]) ⟨Or.inr rfl, Or.inr rfl, Or.inr rfl, Or.inr rfl, trivial⟩ (h2 g9))
theorem S_X11_off_29 {X : CX} {d : Nat} {x0 x1 x2 x3 : Int} {I R : PF} {Q : PV → PF → PF → Prop} (c1 : -2147483648 ≤ x0 ∧ x0 < 2147483648) (c2 : -2147483648 ≤ x3 ∧ x3 < 2147483648) (h1 : x0 ≠ x3 → PN X d mX11_off 38 [(9, 0), (0, x1), (0, x2)] [] I R Q) (h2 : x0 = x3 → PN X d mX11_off 34 [(9, 0), (0, x1), (0, x2)] [] I R Q) : PN X d mX11_off 29 [(0, x0), (0, x1), (0, x2), (0, x3)] [] I R Q := by
  refine P_iload_n (n := 0) (q := 30) rfl rfl (by decide +kernel) ?_
  refine P_iload_n (n := 3) (q := 31) rfl rfl (by decide +kernel) ?_
  refine B_icmp_ne (off := 7) (t := 38) (q := 34) c1 c2 (by decide) rfl (by decide +kernel) ?_ ?_
  · exact fun g9 => (PW_sub (ls' := [(9, 0), (0, x1), (0, x2)]) ⟨Or.inl rfl, Or.inr rfl, Or.inr rfl, trivial⟩ (h1 g9))
  · exact fun g9 => (PW_sub (ls' := [(9, 0), (0, x1), (0, x2)]) ⟨Or.inl rfl, Or.inr rfl, Or.inr rfl, trivial⟩ (h2 g9))
theorem S_X11_off_34 {X : CX} {d : Nat} {x1 x2 : Int} {I R : PF} {Q : PV → PF → PF → Prop} (h : PN X d mX11_off 39 [(9, 0), (0, x1), (0, x2)] [(0, 0)] I R Q) : PN X d mX11_off 34 [(9, 0), (0, x1), (0, x2)] [] I R Q := by
  refine P_iconst (n := 0) (q := 35) rfl (by decide +kernel) ?_
  refine P_goto (off := 4) (t := 39) (by decide) (by decide +kernel) ?_
  exact (PW_sub (ls' := [(9, 0), (0, x1), (0, x2)]) ⟨Or.inl rfl, Or.inr rfl, Or.inr rfl, trivial⟩ h)
theorem S_X11_off_38 {X : CX} {d : Nat} {x1 x2 : Int} {I R : PF} {Q : PV → PF → PF → Prop} (h : PN X d mX11_off 39 [(9, 0), (0, x1), (0, x2)] [(0, 1)] I R Q) : PN X d mX11_off 38 [(9, 0), (0, x1), (0, x2)] [] I R Q := by
  refine P_iconst (n := 1) (q := 39) rfl (by decide +kernel) ?_
  exact (PW_sub (ls' := [(9, 0), (0, x1), (0, x2)]) ⟨Or.inl rfl, Or.inr rfl, Or.inr rfl, trivial⟩ h)
theorem S_X11_off_39 {X : CX} {d : Nat} {x1 x2 o0 : Int} {I R : PF} {Q : PV → PF → PF → Prop} (h : PN X d mX11_off 57 [(9, 0), (0, x1), (0, x2), (9, 0), (0, o0)] [] I R Q) : PN X d mX11_off 39 [(9, 0), (0, x1), (0, x2)] [(0, o0)] I R Q := by
  refine P_istore (n := 4) (by decide) (q := 41) rfl (by decide +kernel) ?_
  refine P_goto (off := 16) (t := 57) (by decide) (by decide +kernel) ?_
  exact h
theorem S_X11_off_44 {X : CX} {d : Nat} {x1 x2 x4 : Int} {I R : PF} {Q : PV → PF → PF → Prop} (c1 : -2147483648 ≤ x4 ∧ x4 < 2147483648) (h1 : x4 ≤ 4 → PN X d mX11_off 57 [(9, 0), (0, x1), (0, x2), (9, 0), (0, x4)] [] I R Q) (h2 : 4 < x4 → PN X d mX11_off 50 [(9, 0), (0, x1), (0, x2), (9, 0), (0, x4)] [] I R Q) : PN X d mX11_off 44 [(9, 0), (0, x1), (0, x2), (9, 0), (0, x4)] [] I R Q := by
  refine P_iload (n := 4) (q := 46) rfl rfl (by decide +kernel) ?_
  refine P_iconst (n := 4) (q := 47) rfl (by decide +kernel) ?_
  refine B_icmp_le (off := 10) (t := 57) (q := 50) c1 ⟨by decide, by decide⟩ (by decide) rfl (by decide +kernel) ?_ ?_
  · exact fun g9 => (h1 g9)
  · exact fun g9 => (h2 g9)
theorem S_X11_off_50 {X : CX} {d : Nat} {x1 x2 x4 : Int} {I R : PF} {Q : PV → PF → PF → Prop} (h : PN X d mX11_off 57 [(9, 0), (0, x1), (0, x2), (9, 0), (0, (8 - x4))] [] I R Q) : PN X d mX11_off 50 [(9, 0), (0, x1), (0, x2), (9, 0), (0, x4)] [] I R Q := by
  refine P_bipush (n := 8) (q := 52) rfl rfl (by decide +kernel) ?_
  refine P_iload (n := 4) (q := 54) rfl rfl (by decide +kernel) ?_
  refine P_isub (q := 55) rfl (by decide +kernel) ?_
  refine P_istore (n := 4) (by decide) (q := 57) rfl (by decide +kernel) ?_
  exact h
theorem S_X11_off_57 {X : CX} {d d1 : Nat} {x1 x2 x4 : Int} {I R : PF} {Q Q1 : PV → PF → PF → Prop} (e1 : d1 + 1 ≤ d) (hc : CN X d1 mX11_forceOf [(0, x2)] I R Q1) (h : ∀ z I2 R2, Q1 (0, z) I2 R2 → PN X d mX11_off 62 [(9, 0), (0, x1), (0, x2), (9, 0), (0, x4)] [(0, z), (0, x1)] I2 R2 Q) : PN X d mX11_off 57 [(9, 0), (0, x1), (0, x2), (9, 0), (0, x4)] [] I R Q := by
  refine P_iload_n (n := 1) (q := 58) rfl rfl (by decide +kernel) ?_
  refine P_iload_n (n := 2) (q := 59) rfl rfl (by decide +kernel) ?_
  refine P_invS (As := [(0, x2)]) (q := 62) oX11_forceOf rfl (Or.inl kX11_552) e1 hMF (Nat.le_of_ble_eq_true rfl) hc rfl (by decide +kernel) (fun z I2 R2 hq => ?_)
  exact (h z I2 R2 hq)
theorem S_X11_off_62 {X : CX} {d : Nat} {x1 x2 x4 o0 o1 : Int} {I R : PF} {Q : PV → PF → PF → Prop} (c1 : -2147483648 ≤ o0 ∧ o0 < 2147483648) (c2 : -2147483648 ≤ o1 ∧ o1 < 2147483648) (h1 : o1 ≤ o0 → PN X d mX11_off 74 [(9, 0), (0, x1), (0, x2), (9, 0), (0, x4)] [] I R Q) (h2 : o0 < o1 → PN X d mX11_off 65 [(9, 0), (0, x1), (0, x2), (9, 0), (0, x4)] [] I R Q) : PN X d mX11_off 62 [(9, 0), (0, x1), (0, x2), (9, 0), (0, x4)] [(0, o1), (0, o0)] I R Q := by
  refine B_icmp_ge (off := 12) (t := 74) (q := 65) c1 c2 (by decide) rfl (by decide +kernel) ?_ ?_
  · exact fun g9 => (h1 g9)
  · exact fun g9 => (h2 g9)
theorem S_X11_off_65 {X : CX} {d d1 : Nat} {x1 x2 x4 : Int} {I R : PF} {Q Q1 : PV → PF → PF → Prop} (e1 : d1 + 1 ≤ d) (hc : CN X d1 mX11_forceOf [(0, x2)] I R Q1) (h : ∀ z I2 R2, Q1 (0, z) I2 R2 → PN X d mX11_off 69 [(9, 0), (0, x1), (9, 0), (9, 0), (0, x4)] [(0, z)] I2 R2 Q) : PN X d mX11_off 65 [(9, 0), (0, x1), (0, x2), (9, 0), (0, x4)] [] I R Q := by
  refine P_iload_n (n := 2) (q := 66) rfl rfl (by decide +kernel) ?_
  refine P_invS (As := [(0, x2)]) (q := 69) oX11_forceOf rfl (Or.inl kX11_552) e1 hMF (Nat.le_of_ble_eq_true rfl) hc rfl (by decide +kernel) (fun z I2 R2 hq => ?_)
  exact (PW_sub (ls' := [(9, 0), (0, x1), (9, 0), (9, 0), (0, x4)]) ⟨Or.inl rfl, Or.inr rfl, Or.inl rfl, Or.inl rfl, Or.inr rfl, trivial⟩ (h z I2 R2 hq))
theorem S_X11_off_69 {X : CX} {d : Nat} {x1 x4 o0 : Int} {I R : PF} {Q : PV → PF → PF → Prop} (h : PN X d mX11_off 80 [(9, 0), (9, 0), (9, 0), (9, 0), (0, x4)] [(0, (o0 - x1))] I R Q) : PN X d mX11_off 69 [(9, 0), (0, x1), (9, 0), (9, 0), (0, x4)] [(0, o0)] I R Q := by
  refine P_iload_n (n := 1) (q := 70) rfl rfl (by decide +kernel) ?_
  refine P_isub (q := 71) rfl (by decide +kernel) ?_
  refine P_goto (off := 9) (t := 80) (by decide) (by decide +kernel) ?_
  exact (PW_sub (ls' := [(9, 0), (9, 0), (9, 0), (9, 0), (0, x4)]) ⟨Or.inl rfl, Or.inl rfl, Or.inl rfl, Or.inl rfl, Or.inr rfl, trivial⟩ h)
theorem S_X11_off_74 {X : CX} {d d1 : Nat} {x1 x2 x4 : Int} {I R : PF} {Q Q1 : PV → PF → PF → Prop} (e1 : d1 + 1 ≤ d) (hc : CN X d1 mX11_forceOf [(0, x2)] I R Q1) (h : ∀ z I2 R2, Q1 (0, z) I2 R2 → PN X d mX11_off 79 [(9, 0), (9, 0), (9, 0), (9, 0), (0, x4)] [(0, z), (0, x1)] I2 R2 Q) : PN X d mX11_off 74 [(9, 0), (0, x1), (0, x2), (9, 0), (0, x4)] [] I R Q := by
  refine P_iload_n (n := 1) (q := 75) rfl rfl (by decide +kernel) ?_
  refine P_iload_n (n := 2) (q := 76) rfl rfl (by decide +kernel) ?_
  refine P_invS (As := [(0, x2)]) (q := 79) oX11_forceOf rfl (Or.inl kX11_552) e1 hMF (Nat.le_of_ble_eq_true rfl) hc rfl (by decide +kernel) (fun z I2 R2 hq => ?_)
  exact (PW_sub (ls' := [(9, 0), (9, 0), (9, 0), (9, 0), (0, x4)]) ⟨Or.inl rfl, Or.inl rfl, Or.inl rfl, Or.inl rfl, Or.inr rfl, trivial⟩ (h z I2 R2 hq))
theorem S_X11_off_79 {X : CX} {d : Nat} {x4 o0 o1 : Int} {I R : PF} {Q : PV → PF → PF → Prop} (h : PN X d mX11_off 80 [(9, 0), (9, 0), (9, 0), (9, 0), (0, x4)] [(0, (o0 - o1))] I R Q) : PN X d mX11_off 79 [(9, 0), (9, 0), (9, 0), (9, 0), (0, x4)] [(0, o1), (0, o0)] I R Q := by
  refine P_isub (q := 80) rfl (by decide +kernel) ?_
  exact h
theorem S_X11_off_80 {X : CX} {d : Nat} {x4 o0 : Int} {I R : PF} {Q : PV → PF → PF → Prop} (h : Q (0, (x4 + o0)) I R) : PN X d mX11_off 80 [(9, 0), (9, 0), (9, 0), (9, 0), (0, x4)] [(0, o0)] I R Q := by
  refine P_istore (n := 5) (by decide) (q := 82) rfl (by decide +kernel) ?_
  refine P_iload (n := 4) (q := 84) rfl rfl (by decide +kernel) ?_
  refine P_iload (n := 5) (q := 86) rfl rfl (by decide +kernel) ?_
  refine P_iadd (q := 87) rfl (by decide +kernel) ?_
  refine P_iret rfl (by decide +kernel) h
theorem S_X11_on_0 {X : CX} {d d1 : Nat} {I R : PF} {Q Q1 : PV → PF → PF → Prop} (e1 : d1 + 1 ≤ d) (hc : CN X d1 mX11_isImage [(2, 306), (0, (I 306 1))] (u2 I 306 1 0) R Q1) (h : ∀ z I2 R2, Q1 (0, z) I2 R2 → PN X d mX11_on 15 [(2, 306)] [(0, z)] I2 R2 Q) : PN X d mX11_on 0 [(2, 306)] [] I R Q := by
  refine P_aload_n (n := 0) (q := 1) rfl rfl (by decide +kernel) ?_
  refine P_getf (q := 4) fX11_1 kM306 rfl (by decide +kernel) ?_
  refine P_istore_n (n := 1) (by decide) (q := 5) rfl (by decide +kernel) ?_
  refine P_aload_n (n := 0) (q := 6) rfl rfl (by decide +kernel) ?_
  refine P_iconst (n := 0) (q := 7) rfl (by decide +kernel) ?_
  refine P_putI (q := 10) wX11_1 (fun h => by cases h) kM306 rfl (by decide +kernel) ?_
  refine P_aload_n (n := 0) (q := 11) rfl rfl (by decide +kernel) ?_
  refine P_iload_n (n := 1) (q := 12) rfl rfl (by decide +kernel) ?_
  refine P_invV (As := [(0, (I 306 1))]) (q := 15) oX11_isImage rfl kM306 kX11_712 e1 hMF (Nat.le_of_ble_eq_true rfl) hc rfl (by decide +kernel) (fun z I2 R2 hq => ?_)
  exact (PW_sub (ls' := [(2, 306)]) ⟨Or.inr rfl, trivial⟩ (h z I2 R2 hq))
theorem S_X11_on_15 {X : CX} {d : Nat} {o0 : Int} {I R : PF} {Q : PV → PF → PF → Prop} (c1 : -2147483648 ≤ o0 ∧ o0 < 2147483648) (h1 : o0 ≠ 0 → PN X d mX11_on 30 [(2, 306)] [] I R Q) (h2 : o0 = 0 → PN X d mX11_on 18 [(2, 306)] [] I R Q) : PN X d mX11_on 15 [(2, 306)] [(0, o0)] I R Q := by
  refine B_if_ne (off := 15) (t := 30) (q := 18) c1 (by decide) rfl (by decide +kernel) ?_ ?_
  · exact fun g9 => (PW_sub (ls' := [(2, 306)]) ⟨Or.inr rfl, trivial⟩ (h1 g9))
  · exact fun g9 => (PW_sub (ls' := [(2, 306)]) ⟨Or.inr rfl, trivial⟩ (h2 g9))
theorem S_X11_on_18 {X : CX} {d : Nat} {I R : PF} {Q : PV → PF → PF → Prop} (hs : Shp R) (h : Q (0, 0) (u2 I 308 5 ((I 308 5) + 1)) R) : PN X d mX11_on 18 [(2, 306)] [] I R Q := by
  refine P_aload_n (n := 0) (q := 19) rfl rfl (by decide +kernel) ?_
  refine B_getfR (q := 22) fX11_7 kM306 (rM306_9 hs) rfl (by decide +kernel) ?_
  refine P_iconst (n := 5) (q := 23) rfl (by decide +kernel) ?_
  refine P_dup2 (q := 24) (Nat.ne_of_beq_eq_false rfl) (Nat.ne_of_beq_eq_false rfl) rfl (by decide +kernel) ?_
  refine B_iaload (q := 25) kM308 nM308 (by decide) ⟨by decide, by decide⟩ rfl (by decide +kernel) ?_
  refine P_iconst (n := 1) (q := 26) rfl (by decide +kernel) ?_
  refine P_iadd (q := 27) rfl (by decide +kernel) ?_
  refine B_iastore (q := 28) kM308 nM308 (by decide) ⟨by decide, by decide⟩ rfl (by decide +kernel) ?_
  refine P_iconst (n := 0) (q := 29) rfl (by decide +kernel) ?_
  refine P_zret rfl (Or.inl rfl) (by decide +kernel) h
theorem S_X11_on_30 {X : CX} {d : Nat} {I R : PF} {Q : PV → PF → PF → Prop} (hs : Shp R) (h : PN X d mX11_on 81 [(2, 306), (9, 0), (0, 0)] [] (u2 (u2 (u2 I 348 0 ((256 * (I 307 0)) + (I 307 1))) 348 1 (((u2 I 348 0 ((256 * (I 307 0)) + (I 307 1))) 307 2) - 1)) 348 2 ((u2 (u2 I 348 0 ((256 * (I 307 0)) + (I 307 1))) 348 1 (((u2 I 348 0 ((256 * (I 307 0)) + (I 307 1))) 307 2) - 1)) 307 3)) R Q) : PN X d mX11_on 30 [(2, 306)] [] I R Q := by
  refine P_aload_n (n := 0) (q := 31) rfl rfl (by decide +kernel) ?_
  refine B_getfR (q := 34) fX11_303 kM306 (rM306_59 hs) rfl (by decide +kernel) ?_
  refine P_iconst (n := 0) (q := 35) rfl (by decide +kernel) ?_
  refine P_sipush (n := 256) (q := 38) rfl rfl (by decide +kernel) ?_
  refine P_aload_n (n := 0) (q := 39) rfl rfl (by decide +kernel) ?_
  refine B_getfR (q := 42) fX11_11 kM306 (rM306_0 hs) rfl (by decide +kernel) ?_
  refine P_iconst (n := 0) (q := 43) rfl (by decide +kernel) ?_
  refine B_iaload (q := 44) kM307 nM307 (by decide) ⟨by decide, by decide⟩ rfl (by decide +kernel) ?_
  refine P_imul (q := 45) rfl (by decide +kernel) ?_
  refine P_aload_n (n := 0) (q := 46) rfl rfl (by decide +kernel) ?_
  refine B_getfR (q := 49) fX11_11 kM306 (rM306_0 hs) rfl (by decide +kernel) ?_
  refine P_iconst (n := 1) (q := 50) rfl (by decide +kernel) ?_
  refine B_iaload (q := 51) kM307 nM307 (by decide) ⟨by decide, by decide⟩ rfl (by decide +kernel) ?_
  refine P_iadd (q := 52) rfl (by decide +kernel) ?_
  refine B_iastore (q := 53) kM348 nM348 (by decide) ⟨by decide, by decide⟩ rfl (by decide +kernel) ?_
  refine P_aload_n (n := 0) (q := 54) rfl rfl (by decide +kernel) ?_
  refine B_getfR (q := 57) fX11_303 kM306 (rM306_59 hs) rfl (by decide +kernel) ?_
  refine P_iconst (n := 1) (q := 58) rfl (by decide +kernel) ?_
  refine P_aload_n (n := 0) (q := 59) rfl rfl (by decide +kernel) ?_
  refine B_getfR (q := 62) fX11_11 kM306 (rM306_0 hs) rfl (by decide +kernel) ?_
  refine P_iconst (n := 2) (q := 63) rfl (by decide +kernel) ?_
  refine B_iaload (q := 64) kM307 nM307 (by decide) ⟨by decide, by decide⟩ rfl (by decide +kernel) ?_
  refine P_iconst (n := 1) (q := 65) rfl (by decide +kernel) ?_
  refine P_isub (q := 66) rfl (by decide +kernel) ?_
  refine B_iastore (q := 67) kM348 nM348 (by decide) ⟨by decide, by decide⟩ rfl (by decide +kernel) ?_
  refine P_aload_n (n := 0) (q := 68) rfl rfl (by decide +kernel) ?_
  refine B_getfR (q := 71) fX11_303 kM306 (rM306_59 hs) rfl (by decide +kernel) ?_
  refine P_iconst (n := 2) (q := 72) rfl (by decide +kernel) ?_
  refine P_aload_n (n := 0) (q := 73) rfl rfl (by decide +kernel) ?_
  refine B_getfR (q := 76) fX11_11 kM306 (rM306_0 hs) rfl (by decide +kernel) ?_
  refine P_iconst (n := 3) (q := 77) rfl (by decide +kernel) ?_
  refine B_iaload (q := 78) kM307 nM307 (by decide) ⟨by decide, by decide⟩ rfl (by decide +kernel) ?_
  refine B_iastore (q := 79) kM348 nM348 (by decide) ⟨by decide, by decide⟩ rfl (by decide +kernel) ?_
  refine P_iconst (n := 0) (q := 80) rfl (by decide +kernel) ?_
  refine P_istore_n (n := 2) (by decide) (q := 81) rfl (by decide +kernel) ?_
  exact h
theorem S_X11_on_81 {X : CX} {d d1 : Nat} {x2 : Int} {I R : PF} {Q Q1 : PV → PF → PF → Prop} (e1 : d1 + 1 ≤ d) (hc : CN X d1 mX11_personMany [(2, 306)] I R Q1) (h : ∀ z I2 R2, Q1 (0, z) I2 R2 → PN X d mX11_on 86 [(2, 306), (9, 0), (0, x2)] [(0, z), (0, x2)] I2 R2 Q) : PN X d mX11_on 81 [(2, 306), (9, 0), (0, x2)] [] I R Q := by
  refine P_iload_n (n := 2) (q := 82) rfl rfl (by decide +kernel) ?_
  refine P_aload_n (n := 0) (q := 83) rfl rfl (by decide +kernel) ?_
  refine P_invV (As := []) (q := 86) oX11_personMany rfl kM306 kX11_420 e1 hMF (Nat.le_of_ble_eq_true rfl) hc rfl (by decide +kernel) (fun z I2 R2 hq => ?_)
  exact (h z I2 R2 hq)
theorem S_X11_on_86 {X : CX} {d : Nat} {x2 o0 o1 : Int} {I R : PF} {Q : PV → PF → PF → Prop} (c1 : -2147483648 ≤ o0 ∧ o0 < 2147483648) (c2 : -2147483648 ≤ o1 ∧ o1 < 2147483648) (h1 : o1 ≤ o0 → PN X d mX11_on 174 [(2, 306)] [] I R Q) (h2 : o0 < o1 → PN X d mX11_on 89 [(2, 306), (9, 0), (0, x2)] [] I R Q) : PN X d mX11_on 86 [(2, 306), (9, 0), (0, x2)] [(0, o1), (0, o0)] I R Q := by
  refine B_icmp_ge (off := 88) (t := 174) (q := 89) c1 c2 (by decide) rfl (by decide +kernel) ?_ ?_
  · exact fun g9 => (PW_sub (ls' := [(2, 306)]) ⟨Or.inr rfl, trivial⟩ (h1 g9))
  · exact fun g9 => (h2 g9)
theorem S_X11_on_89 {X : CX} {d : Nat} {x2 : Int} {I R : PF} {Q : PV → PF → PF → Prop} (h : PN X d mX11_on 91 [(2, 306), (9, 0), (0, x2), (0, 0)] [] I R Q) : PN X d mX11_on 89 [(2, 306), (9, 0), (0, x2)] [] I R Q := by
  refine P_iconst (n := 0) (q := 90) rfl (by decide +kernel) ?_
  refine P_istore_n (n := 3) (by decide) (q := 91) rfl (by decide +kernel) ?_
  exact h
theorem S_X11_on_91 {X : CX} {d : Nat} {x2 x3 : Int} {I R : PF} {Q : PV → PF → PF → Prop} (c1 : -2147483648 ≤ x3 ∧ x3 < 2147483648) (h1 : 4 ≤ x3 → PN X d mX11_on 127 [(2, 306), (9, 0), (0, x2)] [] I R Q) (h2 : x3 < 4 → PN X d mX11_on 96 [(2, 306), (9, 0), (0, x2), (0, x3)] [] I R Q) : PN X d mX11_on 91 [(2, 306), (9, 0), (0, x2), (0, x3)] [] I R Q := by
  refine P_iload_n (n := 3) (q := 92) rfl rfl (by decide +kernel) ?_
  refine P_iconst (n := 4) (q := 93) rfl (by decide +kernel) ?_
  refine B_icmp_ge (off := 34) (t := 127) (q := 96) c1 ⟨by decide, by decide⟩ (by decide) rfl (by decide +kernel) ?_ ?_
  · exact fun g9 => (PW_sub (ls' := [(2, 306), (9, 0), (0, x2)]) ⟨Or.inr rfl, Or.inl rfl, Or.inr rfl, trivial⟩ (h1 g9))
  · exact fun g9 => (h2 g9)
theorem S_X11_on_96 {X : CX} {d : Nat} {x2 x3 : Int} {I R : PF} {Q : PV → PF → PF → Prop} (hs : Shp R) (b1 : (0 : Int) ≤ ((4 + (6 * x2)) + x3) ∧ ((4 + (6 * x2)) + x3) < 1600) (b2 : (0 : Int) ≤ ((3 + (5 * x2)) + x3) ∧ ((3 + (5 * x2)) + x3) < 154) (h : PN X d mX11_on 91 [(2, 306), (9, 0), (0, x2), (0, (x3 + 1))] [] (u2 I 348 ((3 + (5 * x2)) + x3) (I 307 ((4 + (6 * x2)) + x3))) R Q) : PN X d mX11_on 96 [(2, 306), (9, 0), (0, x2), (0, x3)] [] I R Q := by
  refine P_aload_n (n := 0) (q := 97) rfl rfl (by decide +kernel) ?_
  refine B_getfR (q := 100) fX11_303 kM306 (rM306_59 hs) rfl (by decide +kernel) ?_
  refine P_iconst (n := 3) (q := 101) rfl (by decide +kernel) ?_
  refine P_iconst (n := 5) (q := 102) rfl (by decide +kernel) ?_
  refine P_iload_n (n := 2) (q := 103) rfl rfl (by decide +kernel) ?_
  refine P_imul (q := 104) rfl (by decide +kernel) ?_
  refine P_iadd (q := 105) rfl (by decide +kernel) ?_
  refine P_iload_n (n := 3) (q := 106) rfl rfl (by decide +kernel) ?_
  refine P_iadd (q := 107) rfl (by decide +kernel) ?_
  refine P_aload_n (n := 0) (q := 108) rfl rfl (by decide +kernel) ?_
  refine B_getfR (q := 111) fX11_11 kM306 (rM306_0 hs) rfl (by decide +kernel) ?_
  refine P_iconst (n := 4) (q := 112) rfl (by decide +kernel) ?_
  refine P_bipush (n := 6) (q := 114) rfl rfl (by decide +kernel) ?_
  refine P_iload_n (n := 2) (q := 115) rfl rfl (by decide +kernel) ?_
  refine P_imul (q := 116) rfl (by decide +kernel) ?_
  refine P_iadd (q := 117) rfl (by decide +kernel) ?_
  refine P_iload_n (n := 3) (q := 118) rfl rfl (by decide +kernel) ?_
  refine P_iadd (q := 119) rfl (by decide +kernel) ?_
  refine B_iaload (q := 120) kM307 nM307 (by decide) b1 rfl (by decide +kernel) ?_
  refine B_iastore (q := 121) kM348 nM348 (by decide) b2 rfl (by decide +kernel) ?_
  refine P_iinc (n := 3) (a := 1) (by decide) rfl (q := 124) rfl (by decide +kernel) ?_
  refine P_goto (off := (-33)) (t := 91) (by decide) (by decide +kernel) ?_
  exact h
theorem S_X11_on_127 {X : CX} {d : Nat} {x2 : Int} {I R : PF} {Q : PV → PF → PF → Prop} (hs : Shp R) (b1 : (0 : Int) ≤ (8 + (6 * x2)) ∧ (8 + (6 * x2)) < 1600) (b2 : (0 : Int) ≤ (9 + (6 * x2)) ∧ (9 + (6 * x2)) < 1600) (b3 : (0 : Int) ≤ ((3 + (5 * x2)) + 4) ∧ ((3 + (5 * x2)) + 4) < 154) (h : PN X d mX11_on 81 [(2, 306), (9, 0), (0, (x2 + 1))] [] (u2 I 348 ((3 + (5 * x2)) + 4) ((256 * (I 307 (8 + (6 * x2)))) + (I 307 (9 + (6 * x2))))) R Q) : PN X d mX11_on 127 [(2, 306), (9, 0), (0, x2)] [] I R Q := by
  refine P_aload_n (n := 0) (q := 128) rfl rfl (by decide +kernel) ?_
  refine B_getfR (q := 131) fX11_303 kM306 (rM306_59 hs) rfl (by decide +kernel) ?_
  refine P_iconst (n := 3) (q := 132) rfl (by decide +kernel) ?_
  refine P_iconst (n := 5) (q := 133) rfl (by decide +kernel) ?_
  refine P_iload_n (n := 2) (q := 134) rfl rfl (by decide +kernel) ?_
  refine P_imul (q := 135) rfl (by decide +kernel) ?_
  refine P_iadd (q := 136) rfl (by decide +kernel) ?_
  refine P_iconst (n := 4) (q := 137) rfl (by decide +kernel) ?_
  refine P_iadd (q := 138) rfl (by decide +kernel) ?_
  refine P_sipush (n := 256) (q := 141) rfl rfl (by decide +kernel) ?_
  refine P_aload_n (n := 0) (q := 142) rfl rfl (by decide +kernel) ?_
  refine B_getfR (q := 145) fX11_11 kM306 (rM306_0 hs) rfl (by decide +kernel) ?_
  refine P_bipush (n := 8) (q := 147) rfl rfl (by decide +kernel) ?_
  refine P_bipush (n := 6) (q := 149) rfl rfl (by decide +kernel) ?_
  refine P_iload_n (n := 2) (q := 150) rfl rfl (by decide +kernel) ?_
  refine P_imul (q := 151) rfl (by decide +kernel) ?_
  refine P_iadd (q := 152) rfl (by decide +kernel) ?_
  refine B_iaload (q := 153) kM307 nM307 (by decide) b1 rfl (by decide +kernel) ?_
  refine P_imul (q := 154) rfl (by decide +kernel) ?_
  refine P_aload_n (n := 0) (q := 155) rfl rfl (by decide +kernel) ?_
  refine B_getfR (q := 158) fX11_11 kM306 (rM306_0 hs) rfl (by decide +kernel) ?_
  refine P_bipush (n := 9) (q := 160) rfl rfl (by decide +kernel) ?_
  refine P_bipush (n := 6) (q := 162) rfl rfl (by decide +kernel) ?_
  refine P_iload_n (n := 2) (q := 163) rfl rfl (by decide +kernel) ?_
  refine P_imul (q := 164) rfl (by decide +kernel) ?_
  refine P_iadd (q := 165) rfl (by decide +kernel) ?_
  refine B_iaload (q := 166) kM307 nM307 (by decide) b2 rfl (by decide +kernel) ?_
  refine P_iadd (q := 167) rfl (by decide +kernel) ?_
  refine B_iastore (q := 168) kM348 nM348 (by decide) b3 rfl (by decide +kernel) ?_
  refine P_iinc (n := 2) (a := 1) (by decide) rfl (q := 171) rfl (by decide +kernel) ?_
  refine P_goto (off := (-90)) (t := 81) (by decide) (by decide +kernel) ?_
  exact (PW_sub (ls' := [(2, 306), (9, 0), (0, (x2 + 1))]) ⟨Or.inr rfl, Or.inl rfl, Or.inr rfl, trivial⟩ h)
theorem S_X11_on_174 {X : CX} {d : Nat} {I R : PF} {Q : PV → PF → PF → Prop} (hs : Shp R) (h : Q (0, 1) (u2 (u2 I 348 33 0) 306 76 0) R) : PN X d mX11_on 174 [(2, 306)] [] I R Q := by
  refine P_aload_n (n := 0) (q := 175) rfl rfl (by decide +kernel) ?_
  refine B_getfR (q := 178) fX11_303 kM306 (rM306_59 hs) rfl (by decide +kernel) ?_
  refine P_bipush (n := 33) (q := 180) rfl rfl (by decide +kernel) ?_
  refine P_iconst (n := 0) (q := 181) rfl (by decide +kernel) ?_
  refine B_iastore (q := 182) kM348 nM348 (by decide) ⟨by decide, by decide⟩ rfl (by decide +kernel) ?_
  refine P_aload_n (n := 0) (q := 183) rfl rfl (by decide +kernel) ?_
  refine P_iconst (n := 0) (q := 184) rfl (by decide +kernel) ?_
  refine P_putI (q := 187) wX11_306 (fun h => by cases h) kM306 rfl (by decide +kernel) ?_
  refine P_iconst (n := 1) (q := 188) rfl (by decide +kernel) ?_
  refine P_zret rfl (Or.inr rfl) (by decide +kernel) h
theorem S_X11_person_0 {X : CX} {d d1 : Nat} {x1 x2 : Int} {I R : PF} {Q Q1 : PV → PF → PF → Prop} (e1 : d1 + 1 ≤ d) (hc : CN X d1 mX11_isPerson [(2, 306), (0, x1)] I R Q1) (h : ∀ z I2 R2, Q1 (0, z) I2 R2 → PN X d mX11_person 5 [(2, 306), (0, x1), (0, x2)] [(0, z)] I2 R2 Q) : PN X d mX11_person 0 [(2, 306), (0, x1), (0, x2)] [] I R Q := by
  refine P_aload_n (n := 0) (q := 1) rfl rfl (by decide +kernel) ?_
  refine P_iload_n (n := 1) (q := 2) rfl rfl (by decide +kernel) ?_
  refine P_invV (As := [(0, x1)]) (q := 5) oX11_isPerson rfl kM306 kX11_533 e1 hMF (Nat.le_of_ble_eq_true rfl) hc rfl (by decide +kernel) (fun z I2 R2 hq => ?_)
  exact (h z I2 R2 hq)
theorem S_X11_person_5 {X : CX} {d : Nat} {x1 x2 o0 : Int} {I R : PF} {Q : PV → PF → PF → Prop} (c1 : -2147483648 ≤ o0 ∧ o0 < 2147483648) (h1 : o0 ≠ 0 → PN X d mX11_person 10 [(2, 306), (0, x1), (0, x2)] [] I R Q) (h2 : o0 = 0 → PN X d mX11_person 8 [] [] I R Q) : PN X d mX11_person 5 [(2, 306), (0, x1), (0, x2)] [(0, o0)] I R Q := by
  refine B_if_ne (off := 5) (t := 10) (q := 8) c1 (by decide) rfl (by decide +kernel) ?_ ?_
  · exact fun g9 => (h1 g9)
  · exact fun g9 => (PW_sub (ls' := []) trivial (h2 g9))
theorem S_X11_person_8 {X : CX} {d : Nat} {I R : PF} {Q : PV → PF → PF → Prop} (h : Q (0, (-1)) I R) : PN X d mX11_person 8 [] [] I R Q := by
  refine P_iconst (n := (-1)) (q := 9) rfl (by decide +kernel) ?_
  refine P_iret rfl (by decide +kernel) h
theorem S_X11_person_10 {X : CX} {d : Nat} {x1 x2 : Int} {I R : PF} {Q : PV → PF → PF → Prop} (c1 : -2147483648 ≤ x2 ∧ x2 < 2147483648) (h0 : x2 = 0 → PN X d mX11_person 56 [(2, 306), (0, x1), (0, x2)] [] I R Q) (h1 : x2 = 1 → PN X d mX11_person 56 [(2, 306), (0, x1), (0, x2)] [] I R Q) (h2 : x2 = 2 → PN X d mX11_person 69 [(2, 306), (0, x1), (0, x2)] [] I R Q) (h3 : x2 = 3 → PN X d mX11_person 69 [(2, 306), (0, x1), (0, x2)] [] I R Q) (h4 : x2 = 4 → PN X d mX11_person 69 [(2, 306), (0, x1), (0, x2)] [] I R Q) (h5 : x2 = 5 → PN X d mX11_person 85 [(2, 306), (0, x1), (0, x2)] [] I R Q) (h6 : x2 = 6 → PN X d mX11_person 85 [(2, 306), (0, x1), (0, x2)] [] I R Q) (h7 : x2 = 7 → PN X d mX11_person 85 [(2, 306), (0, x1), (0, x2)] [] I R Q) (hd : x2 < 0 ∨ 7 < x2 → PN X d mX11_person 100 [] [] I R Q) : PN X d mX11_person 10 [(2, 306), (0, x1), (0, x2)] [] I R Q := by
  refine P_iload_n (n := 2) (q := 11) rfl rfl (by decide +kernel) ?_
  rcases tab_cases (lo := 0) (n := 8) x2 with e9 | ⟨k9, hk9, e9⟩
  · exact P_tableOut (dflt := 89) (lo := 0) (hi := 7) (offs := #[45, 45, 58, 58, 58, 74, 74, 74]) (len := 45) (t := 100) (by decide +kernel) (by rw [w_of c1]; exact e9) (by decide) (PW_sub (ls' := []) trivial (hd e9))
  · match k9, hk9, e9 with
    | 0, _, e9 => exact P_tableIn (dflt := 89) (lo := 0) (hi := 7) (offs := #[45, 45, 58, 58, 58, 74, 74, 74]) (len := 45) (off := 45) (t := 56) (by decide +kernel) (by rw [w_of c1, e9]; decide) (by rw [w_of c1, e9]; decide) (by rw [w_of c1, e9]; rfl) (by decide) (h0 (e9.trans (by decide)))
    | 1, _, e9 => exact P_tableIn (dflt := 89) (lo := 0) (hi := 7) (offs := #[45, 45, 58, 58, 58, 74, 74, 74]) (len := 45) (off := 45) (t := 56) (by decide +kernel) (by rw [w_of c1, e9]; decide) (by rw [w_of c1, e9]; decide) (by rw [w_of c1, e9]; rfl) (by decide) (h1 (e9.trans (by decide)))
    | 2, _, e9 => exact P_tableIn (dflt := 89) (lo := 0) (hi := 7) (offs := #[45, 45, 58, 58, 58, 74, 74, 74]) (len := 45) (off := 58) (t := 69) (by decide +kernel) (by rw [w_of c1, e9]; decide) (by rw [w_of c1, e9]; decide) (by rw [w_of c1, e9]; rfl) (by decide) (h2 (e9.trans (by decide)))
    | 3, _, e9 => exact P_tableIn (dflt := 89) (lo := 0) (hi := 7) (offs := #[45, 45, 58, 58, 58, 74, 74, 74]) (len := 45) (off := 58) (t := 69) (by decide +kernel) (by rw [w_of c1, e9]; decide) (by rw [w_of c1, e9]; decide) (by rw [w_of c1, e9]; rfl) (by decide) (h3 (e9.trans (by decide)))
    | 4, _, e9 => exact P_tableIn (dflt := 89) (lo := 0) (hi := 7) (offs := #[45, 45, 58, 58, 58, 74, 74, 74]) (len := 45) (off := 58) (t := 69) (by decide +kernel) (by rw [w_of c1, e9]; decide) (by rw [w_of c1, e9]; decide) (by rw [w_of c1, e9]; rfl) (by decide) (h4 (e9.trans (by decide)))
    | 5, _, e9 => exact P_tableIn (dflt := 89) (lo := 0) (hi := 7) (offs := #[45, 45, 58, 58, 58, 74, 74, 74]) (len := 45) (off := 74) (t := 85) (by decide +kernel) (by rw [w_of c1, e9]; decide) (by rw [w_of c1, e9]; decide) (by rw [w_of c1, e9]; rfl) (by decide) (h5 (e9.trans (by decide)))
    | 6, _, e9 => exact P_tableIn (dflt := 89) (lo := 0) (hi := 7) (offs := #[45, 45, 58, 58, 58, 74, 74, 74]) (len := 45) (off := 74) (t := 85) (by decide +kernel) (by rw [w_of c1, e9]; decide) (by rw [w_of c1, e9]; decide) (by rw [w_of c1, e9]; rfl) (by decide) (h6 (e9.trans (by decide)))
    | 7, _, e9 => exact P_tableIn (dflt := 89) (lo := 0) (hi := 7) (offs := #[45, 45, 58, 58, 58, 74, 74, 74]) (len := 45) (off := 74) (t := 85) (by decide +kernel) (by rw [w_of c1, e9]; decide) (by rw [w_of c1, e9]; decide) (by rw [w_of c1, e9]; rfl) (by decide) (h7 (e9.trans (by decide)))
theorem S_X11_person_56 {X : CX} {d : Nat} {x1 x2 : Int} {I R : PF} {Q : PV → PF → PF → Prop} (hs : Shp R) (b1 : (0 : Int) ≤ ((3 + (5 * x1)) + x2) ∧ ((3 + (5 * x1)) + x2) < 154) (h : Q (0, (I 348 ((3 + (5 * x1)) + x2))) I R) : PN X d mX11_person 56 [(2, 306), (0, x1), (0, x2)] [] I R Q := by
  refine P_aload_n (n := 0) (q := 57) rfl rfl (by decide +kernel) ?_
  refine B_getfR (q := 60) fX11_303 kM306 (rM306_59 hs) rfl (by decide +kernel) ?_
  refine P_iconst (n := 3) (q := 61) rfl (by decide +kernel) ?_
  refine P_iconst (n := 5) (q := 62) rfl (by decide +kernel) ?_
  refine P_iload_n (n := 1) (q := 63) rfl rfl (by decide +kernel) ?_
  refine P_imul (q := 64) rfl (by decide +kernel) ?_
  refine P_iadd (q := 65) rfl (by decide +kernel) ?_
  refine P_iload_n (n := 2) (q := 66) rfl rfl (by decide +kernel) ?_
  refine P_iadd (q := 67) rfl (by decide +kernel) ?_
  refine B_iaload (q := 68) kM348 nM348 (by decide) b1 rfl (by decide +kernel) ?_
  refine P_iret rfl (by decide +kernel) h
theorem S_X11_person_69 {X : CX} {d : Nat} {x1 x2 : Int} {I R : PF} {Q : PV → PF → PF → Prop} (hs : Shp R) (b1 : (0 : Int) ≤ (((24 + (4 * x1)) + x2) - 2) ∧ (((24 + (4 * x1)) + x2) - 2) < 48) (h : Q (0, (I 342 (((24 + (4 * x1)) + x2) - 2))) I R) : PN X d mX11_person 69 [(2, 306), (0, x1), (0, x2)] [] I R Q := by
  refine P_aload_n (n := 0) (q := 70) rfl rfl (by decide +kernel) ?_
  refine B_getfR (q := 73) fX11_226 kM306 (rM306_45 hs) rfl (by decide +kernel) ?_
  refine P_bipush (n := 24) (q := 75) rfl rfl (by decide +kernel) ?_
  refine P_iconst (n := 4) (q := 76) rfl (by decide +kernel) ?_
  refine P_iload_n (n := 1) (q := 77) rfl rfl (by decide +kernel) ?_
  refine P_imul (q := 78) rfl (by decide +kernel) ?_
  refine P_iadd (q := 79) rfl (by decide +kernel) ?_
  refine P_iload_n (n := 2) (q := 80) rfl rfl (by decide +kernel) ?_
  refine P_iadd (q := 81) rfl (by decide +kernel) ?_
  refine P_iconst (n := 2) (q := 82) rfl (by decide +kernel) ?_
  refine P_isub (q := 83) rfl (by decide +kernel) ?_
  refine B_iaload (q := 84) kM342 nM342 (by decide) b1 rfl (by decide +kernel) ?_
  refine P_iret rfl (by decide +kernel) h
theorem S_X11_person_85 {X : CX} {d : Nat} {x1 x2 : Int} {I R : PF} {Q : PV → PF → PF → Prop} (hs : Shp R) (b1 : (0 : Int) ≤ (((3 + (5 * x1)) + x2) - 3) ∧ (((3 + (5 * x1)) + x2) - 3) < 154) (h : Q (0, (I 348 (((3 + (5 * x1)) + x2) - 3))) I R) : PN X d mX11_person 85 [(2, 306), (0, x1), (0, x2)] [] I R Q := by
  refine P_aload_n (n := 0) (q := 86) rfl rfl (by decide +kernel) ?_
  refine B_getfR (q := 89) fX11_303 kM306 (rM306_59 hs) rfl (by decide +kernel) ?_
  refine P_iconst (n := 3) (q := 90) rfl (by decide +kernel) ?_
  refine P_iconst (n := 5) (q := 91) rfl (by decide +kernel) ?_
  refine P_iload_n (n := 1) (q := 92) rfl rfl (by decide +kernel) ?_
  refine P_imul (q := 93) rfl (by decide +kernel) ?_
  refine P_iadd (q := 94) rfl (by decide +kernel) ?_
  refine P_iload_n (n := 2) (q := 95) rfl rfl (by decide +kernel) ?_
  refine P_iadd (q := 96) rfl (by decide +kernel) ?_
  refine P_iconst (n := 3) (q := 97) rfl (by decide +kernel) ?_
  refine P_isub (q := 98) rfl (by decide +kernel) ?_
  refine B_iaload (q := 99) kM348 nM348 (by decide) b1 rfl (by decide +kernel) ?_
  refine P_iret rfl (by decide +kernel) h
theorem S_X11_person_100 {X : CX} {d : Nat} {I R : PF} {Q : PV → PF → PF → Prop} (h : Q (0, (-1)) I R) : PN X d mX11_person 100 [] [] I R Q := by
  refine P_iconst (n := (-1)) (q := 101) rfl (by decide +kernel) ?_
  refine P_iret rfl (by decide +kernel) h
theorem S_X11_personMany_0 {X : CX} {d : Nat} {I R : PF} {Q : PV → PF → PF → Prop} (hs : Shp R) (h : Q (0, (I 339 4)) I R) : PN X d mX11_personMany 0 [(2, 306)] [] I R Q := by
  refine P_aload_n (n := 0) (q := 1) rfl rfl (by decide +kernel) ?_
  refine B_getfR (q := 4) fX11_166 kM306 (rM306_42 hs) rfl (by decide +kernel) ?_
  refine P_iconst (n := 4) (q := 5) rfl (by decide +kernel) ?_
  refine B_iaload (q := 6) kM339 nM339 (by decide) ⟨by decide, by decide⟩ rfl (by decide +kernel) ?_
  refine P_iret rfl (by decide +kernel) h
theorem S_X11_personTold_0 {X : CX} {d d1 : Nat} {x1 : Int} {I R : PF} {Q Q1 : PV → PF → PF → Prop} (e1 : d1 + 1 ≤ d) (hc : CN X d1 mX11_isFull [(2, 306), (0, 1), (0, 6), (0, x1)] I R Q1) (h : ∀ z I2 R2, Q1 (0, z) I2 R2 → PN X d mX11_personTold 8 [(2, 306)] [(0, z)] I2 R2 Q) : PN X d mX11_personTold 0 [(2, 306), (0, x1)] [] I R Q := by
  refine P_aload_n (n := 0) (q := 1) rfl rfl (by decide +kernel) ?_
  refine P_iconst (n := 1) (q := 2) rfl (by decide +kernel) ?_
  refine P_bipush (n := 6) (q := 4) rfl rfl (by decide +kernel) ?_
  refine P_iload_n (n := 1) (q := 5) rfl rfl (by decide +kernel) ?_
  refine P_invV (As := [(0, 1), (0, 6), (0, x1)]) (q := 8) oX11_isFull rfl kM306 kX11_215 e1 hMF (Nat.le_of_ble_eq_true rfl) hc rfl (by decide +kernel) (fun z I2 R2 hq => ?_)
  exact (PW_sub (ls' := [(2, 306)]) ⟨Or.inr rfl, trivial⟩ (h z I2 R2 hq))
theorem S_X11_personTold_8 {X : CX} {d : Nat} {o0 : Int} {I R : PF} {Q : PV → PF → PF → Prop} (c1 : -2147483648 ≤ o0 ∧ o0 < 2147483648) (h1 : o0 = 0 → PN X d mX11_personTold 12 [(2, 306)] [] I R Q) (h2 : o0 ≠ 0 → PN X d mX11_personTold 11 [] [] I R Q) : PN X d mX11_personTold 8 [(2, 306)] [(0, o0)] I R Q := by
  refine B_if_eq (off := 4) (t := 12) (q := 11) c1 (by decide) rfl (by decide +kernel) ?_ ?_
  · exact fun g9 => (PW_sub (ls' := [(2, 306)]) ⟨Or.inr rfl, trivial⟩ (h1 g9))
  · exact fun g9 => (PW_sub (ls' := []) trivial (h2 g9))
theorem S_X11_personTold_11 {X : CX} {d : Nat} {I R : PF} {Q : PV → PF → PF → Prop} (h : Q (9, 0) I R) : PN X d mX11_personTold 11 [] [] I R Q := by
  refine P_vret rfl (by decide +kernel) h
theorem S_X11_personTold_12 {X : CX} {d d1 : Nat} {I R : PF} {Q Q1 : PV → PF → PF → Prop} (e1 : d1 + 1 ≤ d) (hc : CN X d1 mX11_newName [(2, 306)] I R Q1) (h : ∀ z I2 R2, Q1 (1, z) I2 R2 → PN X d mX11_personTold 16 [(2, 306)] [(1, z)] I2 R2 Q) : PN X d mX11_personTold 12 [(2, 306)] [] I R Q := by
  refine P_aload_n (n := 0) (q := 13) rfl rfl (by decide +kernel) ?_
  refine P_invV (As := []) (q := 16) oX11_newName rfl kM306 kX11_219 e1 hMF (Nat.le_of_ble_eq_true rfl) hc rfl (by decide +kernel) (fun z I2 R2 hq => ?_)
  exact (PW_sub (ls' := [(2, 306)]) ⟨Or.inr rfl, trivial⟩ (h z I2 R2 hq))
theorem S_X11_personTold_16 {X : CX} {d d1 : Nat} {v0 : Int} {I R : PF} {Q Q1 : PV → PF → PF → Prop} (hs : Shp R) (e1 : d1 + 1 ≤ d) (hc : CN X d1 mX11_asks [(2, 306), (2, 315)] I R Q1) (h : ∀ z I2 R2, Q1 (9, z) I2 R2 → PN X d mX11_personTold 25 [(2, 306), (9, 0), (1, v0)] [] I2 R2 Q) : PN X d mX11_personTold 16 [(2, 306)] [(1, v0)] I R Q := by
  refine P_lstore_n (n := 2) (by decide) (q := 17) rfl (by decide +kernel) ?_
  refine P_aload_n (n := 0) (q := 18) rfl rfl (by decide +kernel) ?_
  refine P_aload_n (n := 0) (q := 19) rfl rfl (by decide +kernel) ?_
  refine B_getfR (q := 22) fX11_80 kM306 (rM306_17 hs) rfl (by decide +kernel) ?_
  refine P_invV (As := [(2, 315)]) (q := 25) oX11_asks rfl kM306 kX11_181 e1 hMF (Nat.le_of_ble_eq_true rfl) hc rfl (by decide +kernel) (fun z I2 R2 hq => ?_)
  exact (PW_sub (ls' := [(2, 306), (9, 0), (1, v0)]) ⟨Or.inr rfl, Or.inl rfl, Or.inr rfl, trivial⟩ (h z I2 R2 hq))
theorem S_X11_personTold_25 {X : CX} {d d1 : Nat} {y2 : Int} {I R : PF} {Q Q1 : PV → PF → PF → Prop} (e1 : d1 + 1 ≤ d) (hc : CN X d1 mX11_placeTold [(2, 306), (0, 0)] I R Q1) (h : ∀ z I2 R2, Q1 (9, z) I2 R2 → PN X d mX11_personTold 30 [(2, 306), (9, 0), (1, y2)] [] I2 R2 Q) : PN X d mX11_personTold 25 [(2, 306), (9, 0), (1, y2)] [] I R Q := by
  refine P_aload_n (n := 0) (q := 26) rfl rfl (by decide +kernel) ?_
  refine P_iconst (n := 0) (q := 27) rfl (by decide +kernel) ?_
  refine P_invV (As := [(0, 0)]) (q := 30) oX11_placeTold rfl kM306 kX11_222 e1 hMF (Nat.le_of_ble_eq_true rfl) hc rfl (by decide +kernel) (fun z I2 R2 hq => ?_)
  exact (PW_sub (ls' := [(2, 306), (9, 0), (1, y2)]) ⟨Or.inr rfl, Or.inl rfl, Or.inr rfl, trivial⟩ (h z I2 R2 hq))
theorem S_X11_personTold_30 {X : CX} {d d1 : Nat} {y2 : Int} {I R : PF} {Q Q1 : PV → PF → PF → Prop} (hs : Shp R) (e1 : d1 + 1 ≤ d) (hc : CN X d1 mX11_asks [(2, 306), (2, 316)] I R Q1) (h : ∀ z I2 R2, Q1 (9, z) I2 R2 → PN X d mX11_personTold 38 [(2, 306), (9, 0), (1, y2)] [] I2 R2 Q) : PN X d mX11_personTold 30 [(2, 306), (9, 0), (1, y2)] [] I R Q := by
  refine P_aload_n (n := 0) (q := 31) rfl rfl (by decide +kernel) ?_
  refine P_aload_n (n := 0) (q := 32) rfl rfl (by decide +kernel) ?_
  refine B_getfR (q := 35) fX11_83 kM306 (rM306_18 hs) rfl (by decide +kernel) ?_
  refine P_invV (As := [(2, 316)]) (q := 38) oX11_asks rfl kM306 kX11_181 e1 hMF (Nat.le_of_ble_eq_true rfl) hc rfl (by decide +kernel) (fun z I2 R2 hq => ?_)
  exact (PW_sub (ls' := [(2, 306), (9, 0), (1, y2)]) ⟨Or.inr rfl, Or.inl rfl, Or.inr rfl, trivial⟩ (h z I2 R2 hq))
theorem S_X11_personTold_38 {X : CX} {d d1 : Nat} {y2 : Int} {I R : PF} {Q Q1 : PV → PF → PF → Prop} (e1 : d1 + 1 ≤ d) (hc : CN X d1 mX11_number [(2, 306), (0, 0), (0, 9)] I R Q1) (h : ∀ z I2 R2, Q1 (0, z) I2 R2 → PN X d mX11_personTold 45 [(2, 306), (9, 0), (1, y2)] [(0, z)] I2 R2 Q) : PN X d mX11_personTold 38 [(2, 306), (9, 0), (1, y2)] [] I R Q := by
  refine P_aload_n (n := 0) (q := 39) rfl rfl (by decide +kernel) ?_
  refine P_iconst (n := 0) (q := 40) rfl (by decide +kernel) ?_
  refine P_bipush (n := 9) (q := 42) rfl rfl (by decide +kernel) ?_
  refine P_invV (As := [(0, 0), (0, 9)]) (q := 45) oX11_number rfl kM306 kX11_188 e1 hMF (Nat.le_of_ble_eq_true rfl) hc rfl (by decide +kernel) (fun z I2 R2 hq => ?_)
  exact (PW_sub (ls' := [(2, 306), (9, 0), (1, y2)]) ⟨Or.inr rfl, Or.inl rfl, Or.inr rfl, trivial⟩ (h z I2 R2 hq))
theorem S_X11_personTold_45 {X : CX} {d d1 : Nat} {y2 o0 : Int} {I R : PF} {Q Q1 : PV → PF → PF → Prop} (hs : Shp R) (e1 : d1 + 1 ≤ d) (hc : CN X d1 mX11_asks [(2, 306), (2, 317)] I R Q1) (h : ∀ z I2 R2, Q1 (9, z) I2 R2 → PN X d mX11_personTold 55 [(2, 306), (9, 0), (1, y2), (9, 0), (0, o0)] [] I2 R2 Q) : PN X d mX11_personTold 45 [(2, 306), (9, 0), (1, y2)] [(0, o0)] I R Q := by
  refine P_istore (n := 4) (by decide) (q := 47) rfl (by decide +kernel) ?_
  refine P_aload_n (n := 0) (q := 48) rfl rfl (by decide +kernel) ?_
  refine P_aload_n (n := 0) (q := 49) rfl rfl (by decide +kernel) ?_
  refine B_getfR (q := 52) fX11_86 kM306 (rM306_19 hs) rfl (by decide +kernel) ?_
  refine P_invV (As := [(2, 317)]) (q := 55) oX11_asks rfl kM306 kX11_181 e1 hMF (Nat.le_of_ble_eq_true rfl) hc rfl (by decide +kernel) (fun z I2 R2 hq => ?_)
  exact (h z I2 R2 hq)
theorem S_X11_personTold_55 {X : CX} {d d1 : Nat} {y2 x4 : Int} {I R : PF} {Q Q1 : PV → PF → PF → Prop} (e1 : d1 + 1 ≤ d) (hc : CN X d1 mX11_number [(2, 306), (0, 0), (0, 2)] I R Q1) (h : ∀ z I2 R2, Q1 (0, z) I2 R2 → PN X d mX11_personTold 61 [(2, 306), (9, 0), (1, y2), (9, 0), (0, x4)] [(0, z)] I2 R2 Q) : PN X d mX11_personTold 55 [(2, 306), (9, 0), (1, y2), (9, 0), (0, x4)] [] I R Q := by
  refine P_aload_n (n := 0) (q := 56) rfl rfl (by decide +kernel) ?_
  refine P_iconst (n := 0) (q := 57) rfl (by decide +kernel) ?_
  refine P_iconst (n := 2) (q := 58) rfl (by decide +kernel) ?_
  refine P_invV (As := [(0, 0), (0, 2)]) (q := 61) oX11_number rfl kM306 kX11_188 e1 hMF (Nat.le_of_ble_eq_true rfl) hc rfl (by decide +kernel) (fun z I2 R2 hq => ?_)
  exact (h z I2 R2 hq)
theorem S_X11_personTold_61 {X : CX} {d d1 : Nat} {y2 x4 o0 : Int} {I R : PF} {Q Q1 : PV → PF → PF → Prop} (hs : Shp R) (e1 : d1 + 1 ≤ d) (hc : CN X d1 mX11_asks [(2, 306), (2, 318)] I R Q1) (h : ∀ z I2 R2, Q1 (9, z) I2 R2 → PN X d mX11_personTold 71 [(2, 306), (9, 0), (1, y2), (9, 0), (0, x4), (0, o0)] [] I2 R2 Q) : PN X d mX11_personTold 61 [(2, 306), (9, 0), (1, y2), (9, 0), (0, x4)] [(0, o0)] I R Q := by
  refine P_istore (n := 5) (by decide) (q := 63) rfl (by decide +kernel) ?_
  refine P_aload_n (n := 0) (q := 64) rfl rfl (by decide +kernel) ?_
  refine P_aload_n (n := 0) (q := 65) rfl rfl (by decide +kernel) ?_
  refine B_getfR (q := 68) fX11_89 kM306 (rM306_20 hs) rfl (by decide +kernel) ?_
  refine P_invV (As := [(2, 318)]) (q := 71) oX11_asks rfl kM306 kX11_181 e1 hMF (Nat.le_of_ble_eq_true rfl) hc rfl (by decide +kernel) (fun z I2 R2 hq => ?_)
  exact (h z I2 R2 hq)
theorem S_X11_personTold_71 {X : CX} {d d1 : Nat} {y2 x4 x5 : Int} {I R : PF} {Q Q1 : PV → PF → PF → Prop} (e1 : d1 + 1 ≤ d) (hc : CN X d1 mX11_name [(2, 306)] I R Q1) (h : ∀ z I2 R2, Q1 (1, z) I2 R2 → PN X d mX11_personTold 75 [(2, 306), (9, 0), (1, y2), (9, 0), (0, x4), (0, x5)] [(1, z)] I2 R2 Q) : PN X d mX11_personTold 71 [(2, 306), (9, 0), (1, y2), (9, 0), (0, x4), (0, x5)] [] I R Q := by
  refine P_aload_n (n := 0) (q := 72) rfl rfl (by decide +kernel) ?_
  refine P_invV (As := []) (q := 75) oX11_name rfl kM306 kX11_173 e1 hMF (Nat.le_of_ble_eq_true rfl) hc rfl (by decide +kernel) (fun z I2 R2 hq => ?_)
  exact (h z I2 R2 hq)
theorem S_X11_personTold_75 {X : CX} {d d1 : Nat} {y2 x4 x5 v0 : Int} {I R : PF} {Q Q1 : PV → PF → PF → Prop} (e1 : d1 + 1 ≤ d) (hc : CN X d1 mX11_nameOf [(2, 306), (0, 0), (1, v0)] I R Q1) (h : ∀ z I2 R2, Q1 (0, z) I2 R2 → PN X d mX11_personTold 84 [(2, 306), (9, 0), (1, y2), (9, 0), (0, x4), (0, x5)] [(0, z)] I2 R2 Q) : PN X d mX11_personTold 75 [(2, 306), (9, 0), (1, y2), (9, 0), (0, x4), (0, x5)] [(1, v0)] I R Q := by
  refine P_lstore (n := 6) (by decide) (q := 77) rfl (by decide +kernel) ?_
  refine P_aload_n (n := 0) (q := 78) rfl rfl (by decide +kernel) ?_
  refine P_iconst (n := 0) (q := 79) rfl (by decide +kernel) ?_
  refine P_lload (n := 6) (q := 81) rfl rfl (by decide +kernel) ?_
  refine P_invV (As := [(0, 0), (1, v0)]) (q := 84) oX11_nameOf rfl kM306 kX11_177 e1 hMF (Nat.le_of_ble_eq_true rfl) hc rfl (by decide +kernel) (fun z I2 R2 hq => ?_)
  exact (PW_sub (ls' := [(2, 306), (9, 0), (1, y2), (9, 0), (0, x4), (0, x5)]) ⟨Or.inr rfl, Or.inl rfl, Or.inr rfl, Or.inl rfl, Or.inr rfl, Or.inr rfl, trivial⟩ (h z I2 R2 hq))
theorem S_X11_personTold_84 {X : CX} {d : Nat} {y2 x4 x5 o0 : Int} {I R : PF} {Q : PV → PF → PF → Prop} (c1 : -2147483648 ≤ (I 306 5) ∧ (I 306 5) < 2147483648) (h1 : (I 306 5) ≠ 0 → PN X d mX11_personTold 108 [(2, 306), (9, 0), (1, y2), (9, 0), (0, x4), (0, x5), (9, 0), (9, 0), (0, o0)] [] I R Q) (h2 : (I 306 5) = 0 → PN X d mX11_personTold 93 [(2, 306), (9, 0), (1, y2), (9, 0), (0, x4), (0, x5), (9, 0), (9, 0), (0, o0)] [] I R Q) : PN X d mX11_personTold 84 [(2, 306), (9, 0), (1, y2), (9, 0), (0, x4), (0, x5)] [(0, o0)] I R Q := by
  refine P_istore (n := 8) (by decide) (q := 86) rfl (by decide +kernel) ?_
  refine P_aload_n (n := 0) (q := 87) rfl rfl (by decide +kernel) ?_
  refine P_getf (q := 90) fX11_14 kM306 rfl (by decide +kernel) ?_
  refine B_if_ne (off := 18) (t := 108) (q := 93) c1 (by decide) rfl (by decide +kernel) ?_ ?_
  · exact fun g9 => (h1 g9)
  · exact fun g9 => (h2 g9)
theorem S_X11_personTold_93 {X : CX} {d : Nat} {y2 x4 x5 x8 : Int} {I R : PF} {Q : PV → PF → PF → Prop} (c1 : -2147483648 ≤ x8 ∧ x8 < 2147483648) (h1 : x8 ≠ (-1) → PN X d mX11_personTold 108 [(2, 306), (9, 0), (1, y2), (9, 0), (0, x4), (0, x5), (9, 0), (9, 0), (0, x8)] [] I R Q) (h2 : x8 = (-1) → PN X d mX11_personTold 99 [(2, 306), (9, 0), (1, y2), (9, 0), (0, x4), (0, x5), (9, 0), (9, 0), (0, x8)] [] I R Q) : PN X d mX11_personTold 93 [(2, 306), (9, 0), (1, y2), (9, 0), (0, x4), (0, x5), (9, 0), (9, 0), (0, x8)] [] I R Q := by
  refine P_iload (n := 8) (q := 95) rfl rfl (by decide +kernel) ?_
  refine P_iconst (n := (-1)) (q := 96) rfl (by decide +kernel) ?_
  refine B_icmp_ne (off := 12) (t := 108) (q := 99) c1 ⟨by decide, by decide⟩ (by decide) rfl (by decide +kernel) ?_ ?_
  · exact fun g9 => (h1 g9)
  · exact fun g9 => (h2 g9)
theorem S_X11_personTold_99 {X : CX} {d d1 : Nat} {y2 x4 x5 x8 : Int} {I R : PF} {Q Q1 : PV → PF → PF → Prop} (e1 : d1 + 1 ≤ d) (hc : CN X d1 mX11_fail [(2, 306), (0, 3), (0, (I 306 41))] I R Q1) (h : ∀ z I2 R2, Q1 (9, z) I2 R2 → PN X d mX11_personTold 108 [(2, 306), (9, 0), (1, y2), (9, 0), (0, x4), (0, x5), (9, 0), (9, 0), (0, x8)] [] I2 R2 Q) : PN X d mX11_personTold 99 [(2, 306), (9, 0), (1, y2), (9, 0), (0, x4), (0, x5), (9, 0), (9, 0), (0, x8)] [] I R Q := by
  refine P_aload_n (n := 0) (q := 100) rfl rfl (by decide +kernel) ?_
  refine P_iconst (n := 3) (q := 101) rfl (by decide +kernel) ?_
  refine P_aload_n (n := 0) (q := 102) rfl rfl (by decide +kernel) ?_
  refine P_getf (q := 105) fX11_156 kM306 rfl (by decide +kernel) ?_
  refine P_invV (As := [(0, 3), (0, (I 306 41))]) (q := 108) oX11_fail rfl kM306 kX11_44 e1 hMF (Nat.le_of_ble_eq_true rfl) hc rfl (by decide +kernel) (fun z I2 R2 hq => ?_)
  exact (h z I2 R2 hq)
theorem S_X11_personTold_108 {X : CX} {d d1 : Nat} {y2 x4 x5 x8 : Int} {I R : PF} {Q Q1 : PV → PF → PF → Prop} (hs : Shp R) (e1 : d1 + 1 ≤ d) (hc : CN X d1 mX11_takes [(2, 306), (2, 319)] I R Q1) (h : ∀ z I2 R2, Q1 (0, z) I2 R2 → PN X d mX11_personTold 122 [(2, 306), (9, 0), (1, y2), (9, 0), (0, x4), (0, x5), (9, 0), (9, 0), (0, x8), (0, 0), (0, 0)] [(0, z)] I2 R2 Q) : PN X d mX11_personTold 108 [(2, 306), (9, 0), (1, y2), (9, 0), (0, x4), (0, x5), (9, 0), (9, 0), (0, x8)] [] I R Q := by
  refine P_iconst (n := 0) (q := 109) rfl (by decide +kernel) ?_
  refine P_istore (n := 9) (by decide) (q := 111) rfl (by decide +kernel) ?_
  refine P_iconst (n := 0) (q := 112) rfl (by decide +kernel) ?_
  refine P_istore (n := 10) (by decide) (q := 114) rfl (by decide +kernel) ?_
  refine P_aload_n (n := 0) (q := 115) rfl rfl (by decide +kernel) ?_
  refine P_aload_n (n := 0) (q := 116) rfl rfl (by decide +kernel) ?_
  refine B_getfR (q := 119) fX11_92 kM306 (rM306_21 hs) rfl (by decide +kernel) ?_
  refine P_invV (As := [(2, 319)]) (q := 122) oX11_takes rfl kM306 kX11_41 e1 hMF (Nat.le_of_ble_eq_true rfl) hc rfl (by decide +kernel) (fun z I2 R2 hq => ?_)
  exact (h z I2 R2 hq)
theorem S_X11_personTold_122 {X : CX} {d : Nat} {y2 x4 x5 x8 x9 x10 o0 : Int} {I R : PF} {Q : PV → PF → PF → Prop} (c1 : -2147483648 ≤ o0 ∧ o0 < 2147483648) (h1 : o0 = 0 → PN X d mX11_personTold 150 [(2, 306), (9, 0), (1, y2), (9, 0), (0, x4), (0, x5), (9, 0), (9, 0), (0, x8), (0, x9), (0, x10)] [] I R Q) (h2 : o0 ≠ 0 → PN X d mX11_personTold 125 [(2, 306), (9, 0), (1, y2), (9, 0), (0, x4), (0, x5), (9, 0), (9, 0), (0, x8)] [] I R Q) : PN X d mX11_personTold 122 [(2, 306), (9, 0), (1, y2), (9, 0), (0, x4), (0, x5), (9, 0), (9, 0), (0, x8), (0, x9), (0, x10)] [(0, o0)] I R Q := by
  refine B_if_eq (off := 28) (t := 150) (q := 125) c1 (by decide) rfl (by decide +kernel) ?_ ?_
  · exact fun g9 => (h1 g9)
  · exact fun g9 => (PW_sub (ls' := [(2, 306), (9, 0), (1, y2), (9, 0), (0, x4), (0, x5), (9, 0), (9, 0), (0, x8)]) ⟨Or.inr rfl, Or.inl rfl, Or.inr rfl, Or.inl rfl, Or.inr rfl, Or.inr rfl, Or.inl rfl, Or.inl rfl, Or.inr rfl, trivial⟩ (h2 g9))
theorem S_X11_personTold_125 {X : CX} {d d1 : Nat} {y2 x4 x5 x8 : Int} {I R : PF} {Q Q1 : PV → PF → PF → Prop} (e1 : d1 + 1 ≤ d) (hc : CN X d1 mX11_number [(2, 306), (0, 0), (0, 8)] I R Q1) (h : ∀ z I2 R2, Q1 (0, z) I2 R2 → PN X d mX11_personTold 132 [(2, 306), (9, 0), (1, y2), (9, 0), (0, x4), (0, x5), (9, 0), (9, 0), (0, x8)] [(0, z)] I2 R2 Q) : PN X d mX11_personTold 125 [(2, 306), (9, 0), (1, y2), (9, 0), (0, x4), (0, x5), (9, 0), (9, 0), (0, x8)] [] I R Q := by
  refine P_aload_n (n := 0) (q := 126) rfl rfl (by decide +kernel) ?_
  refine P_iconst (n := 0) (q := 127) rfl (by decide +kernel) ?_
  refine P_bipush (n := 8) (q := 129) rfl rfl (by decide +kernel) ?_
  refine P_invV (As := [(0, 0), (0, 8)]) (q := 132) oX11_number rfl kM306 kX11_188 e1 hMF (Nat.le_of_ble_eq_true rfl) hc rfl (by decide +kernel) (fun z I2 R2 hq => ?_)
  exact (PW_sub (ls' := [(2, 306), (9, 0), (1, y2), (9, 0), (0, x4), (0, x5), (9, 0), (9, 0), (0, x8)]) ⟨Or.inr rfl, Or.inl rfl, Or.inr rfl, Or.inl rfl, Or.inr rfl, Or.inr rfl, Or.inl rfl, Or.inl rfl, Or.inr rfl, trivial⟩ (h z I2 R2 hq))
theorem S_X11_personTold_132 {X : CX} {d d1 : Nat} {y2 x4 x5 x8 o0 : Int} {I R : PF} {Q Q1 : PV → PF → PF → Prop} (hs : Shp R) (e1 : d1 + 1 ≤ d) (hc : CN X d1 mX11_asks [(2, 306), (2, 320)] I R Q1) (h : ∀ z I2 R2, Q1 (9, z) I2 R2 → PN X d mX11_personTold 142 [(2, 306), (9, 0), (1, y2), (9, 0), (0, x4), (0, x5), (9, 0), (9, 0), (0, x8), (0, o0)] [] I2 R2 Q) : PN X d mX11_personTold 132 [(2, 306), (9, 0), (1, y2), (9, 0), (0, x4), (0, x5), (9, 0), (9, 0), (0, x8)] [(0, o0)] I R Q := by
  refine P_istore (n := 9) (by decide) (q := 134) rfl (by decide +kernel) ?_
  refine P_aload_n (n := 0) (q := 135) rfl rfl (by decide +kernel) ?_
  refine P_aload_n (n := 0) (q := 136) rfl rfl (by decide +kernel) ?_
  refine B_getfR (q := 139) fX11_95 kM306 (rM306_22 hs) rfl (by decide +kernel) ?_
  refine P_invV (As := [(2, 320)]) (q := 142) oX11_asks rfl kM306 kX11_181 e1 hMF (Nat.le_of_ble_eq_true rfl) hc rfl (by decide +kernel) (fun z I2 R2 hq => ?_)
  exact (PW_sub (ls' := [(2, 306), (9, 0), (1, y2), (9, 0), (0, x4), (0, x5), (9, 0), (9, 0), (0, x8), (0, o0)]) ⟨Or.inr rfl, Or.inl rfl, Or.inr rfl, Or.inl rfl, Or.inr rfl, Or.inr rfl, Or.inl rfl, Or.inl rfl, Or.inr rfl, Or.inr rfl, trivial⟩ (h z I2 R2 hq))
theorem S_X11_personTold_142 {X : CX} {d d1 : Nat} {y2 x4 x5 x8 x9 : Int} {I R : PF} {Q Q1 : PV → PF → PF → Prop} (e1 : d1 + 1 ≤ d) (hc : CN X d1 mX11_number [(2, 306), (0, 0), (0, 3)] I R Q1) (h : ∀ z I2 R2, Q1 (0, z) I2 R2 → PN X d mX11_personTold 148 [(2, 306), (9, 0), (1, y2), (9, 0), (0, x4), (0, x5), (9, 0), (9, 0), (0, x8), (0, x9)] [(0, z)] I2 R2 Q) : PN X d mX11_personTold 142 [(2, 306), (9, 0), (1, y2), (9, 0), (0, x4), (0, x5), (9, 0), (9, 0), (0, x8), (0, x9)] [] I R Q := by
  refine P_aload_n (n := 0) (q := 143) rfl rfl (by decide +kernel) ?_
  refine P_iconst (n := 0) (q := 144) rfl (by decide +kernel) ?_
  refine P_iconst (n := 3) (q := 145) rfl (by decide +kernel) ?_
  refine P_invV (As := [(0, 0), (0, 3)]) (q := 148) oX11_number rfl kM306 kX11_188 e1 hMF (Nat.le_of_ble_eq_true rfl) hc rfl (by decide +kernel) (fun z I2 R2 hq => ?_)
  exact (PW_sub (ls' := [(2, 306), (9, 0), (1, y2), (9, 0), (0, x4), (0, x5), (9, 0), (9, 0), (0, x8), (0, x9)]) ⟨Or.inr rfl, Or.inl rfl, Or.inr rfl, Or.inl rfl, Or.inr rfl, Or.inr rfl, Or.inl rfl, Or.inl rfl, Or.inr rfl, Or.inr rfl, trivial⟩ (h z I2 R2 hq))
theorem S_X11_personTold_148 {X : CX} {d : Nat} {y2 x4 x5 x8 x9 o0 : Int} {I R : PF} {Q : PV → PF → PF → Prop} (h : PN X d mX11_personTold 150 [(2, 306), (9, 0), (1, y2), (9, 0), (0, x4), (0, x5), (9, 0), (9, 0), (0, x8), (0, x9), (0, o0)] [] I R Q) : PN X d mX11_personTold 148 [(2, 306), (9, 0), (1, y2), (9, 0), (0, x4), (0, x5), (9, 0), (9, 0), (0, x8), (0, x9)] [(0, o0)] I R Q := by
  refine P_istore (n := 10) (by decide) (q := 150) rfl (by decide +kernel) ?_
  exact h
theorem S_X11_personTold_150 {X : CX} {d : Nat} {y2 x4 x5 x8 x9 x10 : Int} {I R : PF} {Q : PV → PF → PF → Prop} (c1 : -2147483648 ≤ (I 306 5) ∧ (I 306 5) < 2147483648) (h1 : (I 306 5) = 0 → PN X d mX11_personTold 158 [(2, 306), (9, 0), (1, y2), (9, 0), (0, x4), (0, x5), (9, 0), (9, 0), (0, x8), (0, x9), (0, x10)] [] I R Q) (h2 : (I 306 5) ≠ 0 → PN X d mX11_personTold 157 [] [] I R Q) : PN X d mX11_personTold 150 [(2, 306), (9, 0), (1, y2), (9, 0), (0, x4), (0, x5), (9, 0), (9, 0), (0, x8), (0, x9), (0, x10)] [] I R Q := by
  refine P_aload_n (n := 0) (q := 151) rfl rfl (by decide +kernel) ?_
  refine P_getf (q := 154) fX11_14 kM306 rfl (by decide +kernel) ?_
  refine B_if_eq (off := 4) (t := 158) (q := 157) c1 (by decide) rfl (by decide +kernel) ?_ ?_
  · exact fun g9 => (h1 g9)
  · exact fun g9 => (PW_sub (ls' := []) trivial (h2 g9))
theorem S_X11_personTold_157 {X : CX} {d : Nat} {I R : PF} {Q : PV → PF → PF → Prop} (h : Q (9, 0) I R) : PN X d mX11_personTold 157 [] [] I R Q := by
  refine P_vret rfl (by decide +kernel) h
theorem S_X11_personTold_158 {X : CX} {d : Nat} {y2 x4 x5 x8 x9 x10 : Int} {I R : PF} {Q : PV → PF → PF → Prop} (hs : Shp R) (b1 : (0 : Int) ≤ (6 + (I 339 1)) ∧ (6 + (I 339 1)) < 24) (b2 : (0 : Int) ≤ (4 * (I 339 1)) ∧ (4 * (I 339 1)) < 48) (b3 : (0 : Int) ≤ ((4 * (I 339 1)) + 1) ∧ ((4 * (I 339 1)) + 1) < 48) (b4 : (0 : Int) ≤ ((4 * (I 339 1)) + 2) ∧ ((4 * (I 339 1)) + 2) < 48) (b5 : (0 : Int) ≤ (4 * (I 339 1)) ∧ (4 * (I 339 1)) < 24) (b6 : (0 : Int) ≤ ((4 * (I 339 1)) + 1) ∧ ((4 * (I 339 1)) + 1) < 24) (b7 : (0 : Int) ≤ ((4 * (I 339 1)) + 2) ∧ ((4 * (I 339 1)) + 2) < 24) (b8 : (0 : Int) ≤ ((4 * (I 339 1)) + 3) ∧ ((4 * (I 339 1)) + 3) < 24) (h : Q (9, 0) (u2 (u2 (u2 (u2 (u2 (u2 (u2 (u2 (u2 I 340 (6 + (I 339 1)) y2) 342 (4 * (I 339 1)) x4) 342 ((4 * (I 339 1)) + 1) x5) 342 ((4 * (I 339 1)) + 2) x8) 343 (4 * (I 339 1)) ((u2 (u2 (u2 (u2 I 340 (6 + (I 339 1)) y2) 342 (4 * (I 339 1)) x4) 342 ((4 * (I 339 1)) + 1) x5) 342 ((4 * (I 339 1)) + 2) x8) 306 57)) 343 ((4 * (I 339 1)) + 1) ((u2 (u2 (u2 (u2 (u2 I 340 (6 + (I 339 1)) y2) 342 (4 * (I 339 1)) x4) 342 ((4 * (I 339 1)) + 1) x5) 342 ((4 * (I 339 1)) + 2) x8) 343 (4 * (I 339 1)) ((u2 (u2 (u2 (u2 I 340 (6 + (I 339 1)) y2) 342 (4 * (I 339 1)) x4) 342 ((4 * (I 339 1)) + 1) x5) 342 ((4 * (I 339 1)) + 2) x8) 306 57)) 306 58)) 343 ((4 * (I 339 1)) + 2) x9) 343 ((4 * (I 339 1)) + 3) x10) 339 1 (((u2 (u2 (u2 (u2 (u2 (u2 (u2 (u2 I 340 (6 + (I 339 1)) y2) 342 (4 * (I 339 1)) x4) 342 ((4 * (I 339 1)) + 1) x5) 342 ((4 * (I 339 1)) + 2) x8) 343 (4 * (I 339 1)) ((u2 (u2 (u2 (u2 I 340 (6 + (I 339 1)) y2) 342 (4 * (I 339 1)) x4) 342 ((4 * (I 339 1)) + 1) x5) 342 ((4 * (I 339 1)) + 2) x8) 306 57)) 343 ((4 * (I 339 1)) + 1) ((u2 (u2 (u2 (u2 (u2 I 340 (6 + (I 339 1)) y2) 342 (4 * (I 339 1)) x4) 342 ((4 * (I 339 1)) + 1) x5) 342 ((4 * (I 339 1)) + 2) x8) 343 (4 * (I 339 1)) ((u2 (u2 (u2 (u2 I 340 (6 + (I 339 1)) y2) 342 (4 * (I 339 1)) x4) 342 ((4 * (I 339 1)) + 1) x5) 342 ((4 * (I 339 1)) + 2) x8) 306 57)) 306 58)) 343 ((4 * (I 339 1)) + 2) x9) 343 ((4 * (I 339 1)) + 3) x10) 339 1) + 1)) R) : PN X d mX11_personTold 158 [(2, 306), (9, 0), (1, y2), (9, 0), (0, x4), (0, x5), (9, 0), (9, 0), (0, x8), (0, x9), (0, x10)] [] I R Q := by
  refine P_iconst (n := 4) (q := 159) rfl (by decide +kernel) ?_
  refine P_aload_n (n := 0) (q := 160) rfl rfl (by decide +kernel) ?_
  refine B_getfR (q := 163) fX11_166 kM306 (rM306_42 hs) rfl (by decide +kernel) ?_
  refine P_iconst (n := 1) (q := 164) rfl (by decide +kernel) ?_
  refine B_iaload (q := 165) kM339 nM339 (by decide) ⟨by decide, by decide⟩ rfl (by decide +kernel) ?_
  refine P_imul (q := 166) rfl (by decide +kernel) ?_
  refine P_istore (n := 11) (by decide) (q := 168) rfl (by decide +kernel) ?_
  refine P_aload_n (n := 0) (q := 169) rfl rfl (by decide +kernel) ?_
  refine B_getfR (q := 172) fX11_169 kM306 (rM306_43 hs) rfl (by decide +kernel) ?_
  refine P_bipush (n := 6) (q := 174) rfl rfl (by decide +kernel) ?_
  refine P_aload_n (n := 0) (q := 175) rfl rfl (by decide +kernel) ?_
  refine B_getfR (q := 178) fX11_166 kM306 (rM306_42 hs) rfl (by decide +kernel) ?_
  refine P_iconst (n := 1) (q := 179) rfl (by decide +kernel) ?_
  refine B_iaload (q := 180) kM339 nM339 (by decide) ⟨by decide, by decide⟩ rfl (by decide +kernel) ?_
  refine P_iadd (q := 181) rfl (by decide +kernel) ?_
  refine P_lload_n (n := 2) (q := 182) rfl rfl (by decide +kernel) ?_
  refine B_lastore (q := 183) kM340 nM340 (by decide) b1 rfl (by decide +kernel) ?_
  refine P_aload_n (n := 0) (q := 184) rfl rfl (by decide +kernel) ?_
  refine B_getfR (q := 187) fX11_226 kM306 (rM306_45 hs) rfl (by decide +kernel) ?_
  refine P_iload (n := 11) (q := 189) rfl rfl (by decide +kernel) ?_
  refine P_iload (n := 4) (q := 191) rfl rfl (by decide +kernel) ?_
  refine B_iastore (q := 192) kM342 nM342 (by decide) b2 rfl (by decide +kernel) ?_
  refine P_aload_n (n := 0) (q := 193) rfl rfl (by decide +kernel) ?_
  refine B_getfR (q := 196) fX11_226 kM306 (rM306_45 hs) rfl (by decide +kernel) ?_
  refine P_iload (n := 11) (q := 198) rfl rfl (by decide +kernel) ?_
  refine P_iconst (n := 1) (q := 199) rfl (by decide +kernel) ?_
  refine P_iadd (q := 200) rfl (by decide +kernel) ?_
  refine P_iload (n := 5) (q := 202) rfl rfl (by decide +kernel) ?_
  refine B_iastore (q := 203) kM342 nM342 (by decide) b3 rfl (by decide +kernel) ?_
  refine P_aload_n (n := 0) (q := 204) rfl rfl (by decide +kernel) ?_
  refine B_getfR (q := 207) fX11_226 kM306 (rM306_45 hs) rfl (by decide +kernel) ?_
  refine P_iload (n := 11) (q := 209) rfl rfl (by decide +kernel) ?_
  refine P_iconst (n := 2) (q := 210) rfl (by decide +kernel) ?_
  refine P_iadd (q := 211) rfl (by decide +kernel) ?_
  refine P_iload (n := 8) (q := 213) rfl rfl (by decide +kernel) ?_
  refine B_iastore (q := 214) kM342 nM342 (by decide) b4 rfl (by decide +kernel) ?_
  refine P_aload_n (n := 0) (q := 215) rfl rfl (by decide +kernel) ?_
  refine B_getfR (q := 218) fX11_199 kM306 (rM306_46 hs) rfl (by decide +kernel) ?_
  refine P_iload (n := 11) (q := 220) rfl rfl (by decide +kernel) ?_
  refine P_aload_n (n := 0) (q := 221) rfl rfl (by decide +kernel) ?_
  refine P_getf (q := 224) fX11_202 kM306 rfl (by decide +kernel) ?_
  refine B_iastore (q := 225) kM343 nM343 (by decide) b5 rfl (by decide +kernel) ?_
  refine P_aload_n (n := 0) (q := 226) rfl rfl (by decide +kernel) ?_
  refine B_getfR (q := 229) fX11_199 kM306 (rM306_46 hs) rfl (by decide +kernel) ?_
  refine P_iload (n := 11) (q := 231) rfl rfl (by decide +kernel) ?_
  refine P_iconst (n := 1) (q := 232) rfl (by decide +kernel) ?_
  refine P_iadd (q := 233) rfl (by decide +kernel) ?_
  refine P_aload_n (n := 0) (q := 234) rfl rfl (by decide +kernel) ?_
  refine P_getf (q := 237) fX11_205 kM306 rfl (by decide +kernel) ?_
  refine B_iastore (q := 238) kM343 nM343 (by decide) b6 rfl (by decide +kernel) ?_
  refine P_aload_n (n := 0) (q := 239) rfl rfl (by decide +kernel) ?_
  refine B_getfR (q := 242) fX11_199 kM306 (rM306_46 hs) rfl (by decide +kernel) ?_
  refine P_iload (n := 11) (q := 244) rfl rfl (by decide +kernel) ?_
  refine P_iconst (n := 2) (q := 245) rfl (by decide +kernel) ?_
  refine P_iadd (q := 246) rfl (by decide +kernel) ?_
  refine P_iload (n := 9) (q := 248) rfl rfl (by decide +kernel) ?_
  refine B_iastore (q := 249) kM343 nM343 (by decide) b7 rfl (by decide +kernel) ?_
  refine P_aload_n (n := 0) (q := 250) rfl rfl (by decide +kernel) ?_
  refine B_getfR (q := 253) fX11_199 kM306 (rM306_46 hs) rfl (by decide +kernel) ?_
  refine P_iload (n := 11) (q := 255) rfl rfl (by decide +kernel) ?_
  refine P_iconst (n := 3) (q := 256) rfl (by decide +kernel) ?_
  refine P_iadd (q := 257) rfl (by decide +kernel) ?_
  refine P_iload (n := 10) (q := 259) rfl rfl (by decide +kernel) ?_
  refine B_iastore (q := 260) kM343 nM343 (by decide) b8 rfl (by decide +kernel) ?_
  refine P_aload_n (n := 0) (q := 261) rfl rfl (by decide +kernel) ?_
  refine B_getfR (q := 264) fX11_166 kM306 (rM306_42 hs) rfl (by decide +kernel) ?_
  refine P_iconst (n := 1) (q := 265) rfl (by decide +kernel) ?_
  refine P_dup2 (q := 266) (Nat.ne_of_beq_eq_false rfl) (Nat.ne_of_beq_eq_false rfl) rfl (by decide +kernel) ?_
  refine B_iaload (q := 267) kM339 nM339 (by decide) ⟨by decide, by decide⟩ rfl (by decide +kernel) ?_
  refine P_iconst (n := 1) (q := 268) rfl (by decide +kernel) ?_
  refine P_iadd (q := 269) rfl (by decide +kernel) ?_
  refine B_iastore (q := 270) kM339 nM339 (by decide) ⟨by decide, by decide⟩ rfl (by decide +kernel) ?_
  refine P_vret rfl (by decide +kernel) h
theorem S_X11_place_0 {X : CX} {d : Nat} {x1 x2 : Int} {I R : PF} {Q : PV → PF → PF → Prop} (c1 : -2147483648 ≤ (I 306 55) ∧ (I 306 55) < 2147483648) (h1 : (I 306 55) = 0 → PN X d mX11_place 16 [] [] I R Q) (h2 : (I 306 55) ≠ 0 → PN X d mX11_place 7 [(2, 306), (0, x1), (0, x2)] [] I R Q) : PN X d mX11_place 0 [(2, 306), (0, x1), (0, x2)] [] I R Q := by
  refine P_aload_n (n := 0) (q := 1) rfl rfl (by decide +kernel) ?_
  refine P_getf (q := 4) fX11_296 kM306 rfl (by decide +kernel) ?_
  refine B_if_eq (off := 12) (t := 16) (q := 7) c1 (by decide) rfl (by decide +kernel) ?_ ?_
  · exact fun g9 => (PW_sub (ls' := []) trivial (h1 g9))
  · exact fun g9 => (h2 g9)
theorem S_X11_place_7 {X : CX} {d d1 : Nat} {x1 x2 : Int} {I R : PF} {Q Q1 : PV → PF → PF → Prop} (e1 : d1 + 1 ≤ d) (hc : CN X d1 mX11_isInside [(2, 306), (0, x1), (0, x2)] I R Q1) (h : ∀ z I2 R2, Q1 (0, z) I2 R2 → PN X d mX11_place 13 [(2, 306), (0, x1), (0, x2)] [(0, z)] I2 R2 Q) : PN X d mX11_place 7 [(2, 306), (0, x1), (0, x2)] [] I R Q := by
  refine P_aload_n (n := 0) (q := 8) rfl rfl (by decide +kernel) ?_
  refine P_iload_n (n := 1) (q := 9) rfl rfl (by decide +kernel) ?_
  refine P_iload_n (n := 2) (q := 10) rfl rfl (by decide +kernel) ?_
  refine P_invV (As := [(0, x1), (0, x2)]) (q := 13) oX11_isInside rfl kM306 kX11_467 e1 hMF (Nat.le_of_ble_eq_true rfl) hc rfl (by decide +kernel) (fun z I2 R2 hq => ?_)
  exact (h z I2 R2 hq)
theorem S_X11_place_13 {X : CX} {d : Nat} {x1 x2 o0 : Int} {I R : PF} {Q : PV → PF → PF → Prop} (c1 : -2147483648 ≤ o0 ∧ o0 < 2147483648) (h1 : o0 ≠ 0 → PN X d mX11_place 20 [(2, 306), (0, x1), (0, x2)] [] I R Q) (h2 : o0 = 0 → PN X d mX11_place 16 [] [] I R Q) : PN X d mX11_place 13 [(2, 306), (0, x1), (0, x2)] [(0, o0)] I R Q := by
  refine B_if_ne (off := 7) (t := 20) (q := 16) c1 (by decide) rfl (by decide +kernel) ?_ ?_
  · exact fun g9 => (h1 g9)
  · exact fun g9 => (PW_sub (ls' := []) trivial (h2 g9))
theorem S_X11_place_16 {X : CX} {d : Nat} {I R : PF} {Q : PV → PF → PF → Prop} (h : PN X d mX11_place 40 [] [(0, (-1))] I R Q) : PN X d mX11_place 16 [] [] I R Q := by
  refine P_iconst (n := (-1)) (q := 17) rfl (by decide +kernel) ?_
  refine P_goto (off := 23) (t := 40) (by decide) (by decide +kernel) ?_
  exact (PW_sub (ls' := []) trivial h)
theorem S_X11_place_20 {X : CX} {d d1 : Nat} {x1 x2 : Int} {I R : PF} {Q Q1 : PV → PF → PF → Prop} (e1 : d1 + 1 ≤ d) (hc : CN X d1 mX11_isWall [(2, 306), (0, x1), (0, x2)] I R Q1) (h : ∀ z I2 R2, Q1 (0, z) I2 R2 → PN X d mX11_place 26 [(2, 306), (0, x1), (0, x2)] [(0, z)] I2 R2 Q) : PN X d mX11_place 20 [(2, 306), (0, x1), (0, x2)] [] I R Q := by
  refine P_aload_n (n := 0) (q := 21) rfl rfl (by decide +kernel) ?_
  refine P_iload_n (n := 1) (q := 22) rfl rfl (by decide +kernel) ?_
  refine P_iload_n (n := 2) (q := 23) rfl rfl (by decide +kernel) ?_
  refine P_invV (As := [(0, x1), (0, x2)]) (q := 26) oX11_isWall rfl kM306 kX11_453 e1 hMF (Nat.le_of_ble_eq_true rfl) hc rfl (by decide +kernel) (fun z I2 R2 hq => ?_)
  exact (h z I2 R2 hq)
theorem S_X11_place_26 {X : CX} {d : Nat} {x1 x2 o0 : Int} {I R : PF} {Q : PV → PF → PF → Prop} (c1 : -2147483648 ≤ o0 ∧ o0 < 2147483648) (h1 : o0 = 0 → PN X d mX11_place 34 [(2, 306), (0, x1), (0, x2)] [] I R Q) (h2 : o0 ≠ 0 → PN X d mX11_place 29 [] [] I R Q) : PN X d mX11_place 26 [(2, 306), (0, x1), (0, x2)] [(0, o0)] I R Q := by
  refine B_if_eq (off := 8) (t := 34) (q := 29) c1 (by decide) rfl (by decide +kernel) ?_ ?_
  · exact fun g9 => (h1 g9)
  · exact fun g9 => (PW_sub (ls' := []) trivial (h2 g9))
theorem S_X11_place_29 {X : CX} {d : Nat} {I R : PF} {Q : PV → PF → PF → Prop} (h : PN X d mX11_place 40 [] [(0, 100)] I R Q) : PN X d mX11_place 29 [] [] I R Q := by
  refine P_bipush (n := 100) (q := 31) rfl rfl (by decide +kernel) ?_
  refine P_goto (off := 9) (t := 40) (by decide) (by decide +kernel) ?_
  exact (PW_sub (ls' := []) trivial h)
theorem S_X11_place_34 {X : CX} {d d1 : Nat} {x1 x2 : Int} {I R : PF} {Q Q1 : PV → PF → PF → Prop} (e1 : d1 + 1 ≤ d) (hc : CN X d1 mX11_standsAt [(2, 306), (0, x1), (0, x2)] I R Q1) (h : ∀ z I2 R2, Q1 (0, z) I2 R2 → PN X d mX11_place 40 [] [(0, z)] I2 R2 Q) : PN X d mX11_place 34 [(2, 306), (0, x1), (0, x2)] [] I R Q := by
  refine P_aload_n (n := 0) (q := 35) rfl rfl (by decide +kernel) ?_
  refine P_iload_n (n := 1) (q := 36) rfl rfl (by decide +kernel) ?_
  refine P_iload_n (n := 2) (q := 37) rfl rfl (by decide +kernel) ?_
  refine P_invV (As := [(0, x1), (0, x2)]) (q := 40) oX11_standsAt rfl kM306 kX11_536 e1 hMF (Nat.le_of_ble_eq_true rfl) hc rfl (by decide +kernel) (fun z I2 R2 hq => ?_)
  exact (PW_sub (ls' := []) trivial (h z I2 R2 hq))
theorem S_X11_place_40 {X : CX} {d : Nat} {o0 : Int} {I R : PF} {Q : PV → PF → PF → Prop} (h : Q (0, o0) I R) : PN X d mX11_place 40 [] [(0, o0)] I R Q := by
  refine P_iret rfl (by decide +kernel) h
theorem S_X11_placeTold_0 {X : CX} {d d1 : Nat} {x1 : Int} {I R : PF} {Q Q1 : PV → PF → PF → Prop} (hs : Shp R) (e1 : d1 + 1 ≤ d) (hc : CN X d1 mX11_number [(2, 306), (0, 0), (0, ((I 341 0) - 1))] I R Q1) (h : ∀ z I2 R2, Q1 (0, z) I2 R2 → PN X d mX11_placeTold 14 [(2, 306), (0, x1)] [(0, z), (2, 306)] I2 R2 Q) : PN X d mX11_placeTold 0 [(2, 306), (0, x1)] [] I R Q := by
  refine P_aload_n (n := 0) (q := 1) rfl rfl (by decide +kernel) ?_
  refine P_aload_n (n := 0) (q := 2) rfl rfl (by decide +kernel) ?_
  refine P_iconst (n := 0) (q := 3) rfl (by decide +kernel) ?_
  refine P_aload_n (n := 0) (q := 4) rfl rfl (by decide +kernel) ?_
  refine B_getfR (q := 7) fX11_185 kM306 (rM306_44 hs) rfl (by decide +kernel) ?_
  refine P_iconst (n := 0) (q := 8) rfl (by decide +kernel) ?_
  refine B_iaload (q := 9) kM341 nM341 (by decide) ⟨by decide, by decide⟩ rfl (by decide +kernel) ?_
  refine P_iconst (n := 1) (q := 10) rfl (by decide +kernel) ?_
  refine P_isub (q := 11) rfl (by decide +kernel) ?_
  refine P_invV (As := [(0, 0), (0, ((I 341 0) - 1))]) (q := 14) oX11_number rfl kM306 kX11_188 e1 hMF (Nat.le_of_ble_eq_true rfl) hc rfl (by decide +kernel) (fun z I2 R2 hq => ?_)
  exact (h z I2 R2 hq)
theorem S_X11_placeTold_14 {X : CX} {d d1 : Nat} {x1 o1 : Int} {I R : PF} {Q Q1 : PV → PF → PF → Prop} (hs : Shp R) (e1 : d1 + 1 ≤ d) (hc : CN X d1 mX11_number [(2, 306), (0, 0), (0, (((u2 I 306 57 o1) 341 1) - 1))] (u2 I 306 57 o1) R Q1) (h : ∀ z I2 R2, Q1 (0, z) I2 R2 → PN X d mX11_placeTold 31 [(2, 306), (0, x1)] [(0, z), (2, 306)] I2 R2 Q) : PN X d mX11_placeTold 14 [(2, 306), (0, x1)] [(0, o1), (2, 306)] I R Q := by
  refine P_putI (q := 17) wX11_202 (fun h => by cases h) kM306 rfl (by decide +kernel) ?_
  refine P_aload_n (n := 0) (q := 18) rfl rfl (by decide +kernel) ?_
  refine P_aload_n (n := 0) (q := 19) rfl rfl (by decide +kernel) ?_
  refine P_iconst (n := 0) (q := 20) rfl (by decide +kernel) ?_
  refine P_aload_n (n := 0) (q := 21) rfl rfl (by decide +kernel) ?_
  refine B_getfR (q := 24) fX11_185 kM306 (rM306_44 hs) rfl (by decide +kernel) ?_
  refine P_iconst (n := 1) (q := 25) rfl (by decide +kernel) ?_
  refine B_iaload (q := 26) kM341 nM341 (by decide) ⟨by decide, by decide⟩ rfl (by decide +kernel) ?_
  refine P_iconst (n := 1) (q := 27) rfl (by decide +kernel) ?_
  refine P_isub (q := 28) rfl (by decide +kernel) ?_
  refine P_invV (As := [(0, 0), (0, (((u2 I 306 57 o1) 341 1) - 1))]) (q := 31) oX11_number rfl kM306 kX11_188 e1 hMF (Nat.le_of_ble_eq_true rfl) hc rfl (by decide +kernel) (fun z I2 R2 hq => ?_)
  exact (h z I2 R2 hq)
theorem S_X11_placeTold_31 {X : CX} {d : Nat} {x1 o1 : Int} {I R : PF} {Q : PV → PF → PF → Prop} (c1 : -2147483648 ≤ ((u2 I 306 58 o1) 306 5) ∧ ((u2 I 306 58 o1) 306 5) < 2147483648) (h1 : ((u2 I 306 58 o1) 306 5) ≠ 0 → PN X d mX11_placeTold 110 [] [] (u2 I 306 58 o1) R Q) (h2 : ((u2 I 306 58 o1) 306 5) = 0 → PN X d mX11_placeTold 41 [(2, 306), (0, x1)] [] (u2 I 306 58 o1) R Q) : PN X d mX11_placeTold 31 [(2, 306), (0, x1)] [(0, o1), (2, 306)] I R Q := by
  refine P_putI (q := 34) wX11_205 (fun h => by cases h) kM306 rfl (by decide +kernel) ?_
  refine P_aload_n (n := 0) (q := 35) rfl rfl (by decide +kernel) ?_
  refine P_getf (q := 38) fX11_14 kM306 rfl (by decide +kernel) ?_
  refine B_if_ne (off := 72) (t := 110) (q := 41) c1 (by decide) rfl (by decide +kernel) ?_ ?_
  · exact fun g9 => (PW_sub (ls' := []) trivial (h1 g9))
  · exact fun g9 => (h2 g9)
theorem S_X11_placeTold_41 {X : CX} {d d1 : Nat} {x1 : Int} {I R : PF} {Q Q1 : PV → PF → PF → Prop} (e1 : d1 + 1 ≤ d) (hc : CN X d1 mX11_isWallTold [(2, 306), (0, (I 306 57)), (0, (I 306 58))] I R Q1) (h : ∀ z I2 R2, Q1 (0, z) I2 R2 → PN X d mX11_placeTold 53 [(2, 306), (0, x1)] [(0, z)] I2 R2 Q) : PN X d mX11_placeTold 41 [(2, 306), (0, x1)] [] I R Q := by
  refine P_aload_n (n := 0) (q := 42) rfl rfl (by decide +kernel) ?_
  refine P_aload_n (n := 0) (q := 43) rfl rfl (by decide +kernel) ?_
  refine P_getf (q := 46) fX11_202 kM306 rfl (by decide +kernel) ?_
  refine P_aload_n (n := 0) (q := 47) rfl rfl (by decide +kernel) ?_
  refine P_getf (q := 50) fX11_205 kM306 rfl (by decide +kernel) ?_
  refine P_invV (As := [(0, (I 306 57)), (0, (I 306 58))]) (q := 53) oX11_isWallTold rfl kM306 kX11_208 e1 hMF (Nat.le_of_ble_eq_true rfl) hc rfl (by decide +kernel) (fun z I2 R2 hq => ?_)
  exact (h z I2 R2 hq)
theorem S_X11_placeTold_53 {X : CX} {d : Nat} {x1 o0 : Int} {I R : PF} {Q : PV → PF → PF → Prop} (c1 : -2147483648 ≤ o0 ∧ o0 < 2147483648) (h1 : o0 ≠ 0 → PN X d mX11_placeTold 101 [(2, 306)] [] I R Q) (h2 : o0 = 0 → PN X d mX11_placeTold 56 [(2, 306), (0, x1)] [] I R Q) : PN X d mX11_placeTold 53 [(2, 306), (0, x1)] [(0, o0)] I R Q := by
  refine B_if_ne (off := 48) (t := 101) (q := 56) c1 (by decide) rfl (by decide +kernel) ?_ ?_
  · exact fun g9 => (PW_sub (ls' := [(2, 306)]) ⟨Or.inr rfl, trivial⟩ (h1 g9))
  · exact fun g9 => (h2 g9)
theorem S_X11_placeTold_56 {X : CX} {d d1 : Nat} {x1 : Int} {I R : PF} {Q Q1 : PV → PF → PF → Prop} (e1 : d1 + 1 ≤ d) (hc : CN X d1 mX11_isPersonTold [(2, 306), (0, (I 306 57)), (0, (I 306 58))] I R Q1) (h : ∀ z I2 R2, Q1 (0, z) I2 R2 → PN X d mX11_placeTold 68 [(2, 306), (0, x1)] [(0, z)] I2 R2 Q) : PN X d mX11_placeTold 56 [(2, 306), (0, x1)] [] I R Q := by
  refine P_aload_n (n := 0) (q := 57) rfl rfl (by decide +kernel) ?_
  refine P_aload_n (n := 0) (q := 58) rfl rfl (by decide +kernel) ?_
  refine P_getf (q := 61) fX11_202 kM306 rfl (by decide +kernel) ?_
  refine P_aload_n (n := 0) (q := 62) rfl rfl (by decide +kernel) ?_
  refine P_getf (q := 65) fX11_205 kM306 rfl (by decide +kernel) ?_
  refine P_invV (As := [(0, (I 306 57)), (0, (I 306 58))]) (q := 68) oX11_isPersonTold rfl kM306 kX11_212 e1 hMF (Nat.le_of_ble_eq_true rfl) hc rfl (by decide +kernel) (fun z I2 R2 hq => ?_)
  exact (h z I2 R2 hq)
theorem S_X11_placeTold_68 {X : CX} {d : Nat} {x1 o0 : Int} {I R : PF} {Q : PV → PF → PF → Prop} (c1 : -2147483648 ≤ o0 ∧ o0 < 2147483648) (h1 : o0 ≠ 0 → PN X d mX11_placeTold 101 [(2, 306)] [] I R Q) (h2 : o0 = 0 → PN X d mX11_placeTold 71 [(2, 306), (0, x1)] [] I R Q) : PN X d mX11_placeTold 68 [(2, 306), (0, x1)] [(0, o0)] I R Q := by
  refine B_if_ne (off := 33) (t := 101) (q := 71) c1 (by decide) rfl (by decide +kernel) ?_ ?_
  · exact fun g9 => (PW_sub (ls' := [(2, 306)]) ⟨Or.inr rfl, trivial⟩ (h1 g9))
  · exact fun g9 => (h2 g9)
theorem S_X11_placeTold_71 {X : CX} {d : Nat} {x1 : Int} {I R : PF} {Q : PV → PF → PF → Prop} (c1 : -2147483648 ≤ x1 ∧ x1 < 2147483648) (h1 : x1 = 0 → PN X d mX11_placeTold 110 [] [] I R Q) (h2 : x1 ≠ 0 → PN X d mX11_placeTold 75 [(2, 306)] [] I R Q) : PN X d mX11_placeTold 71 [(2, 306), (0, x1)] [] I R Q := by
  refine P_iload_n (n := 1) (q := 72) rfl rfl (by decide +kernel) ?_
  refine B_if_eq (off := 38) (t := 110) (q := 75) c1 (by decide) rfl (by decide +kernel) ?_ ?_
  · exact fun g9 => (PW_sub (ls' := []) trivial (h1 g9))
  · exact fun g9 => (PW_sub (ls' := [(2, 306)]) ⟨Or.inr rfl, trivial⟩ (h2 g9))
theorem S_X11_placeTold_75 {X : CX} {d : Nat} {I R : PF} {Q : PV → PF → PF → Prop} (hs : Shp R) (c1 : -2147483648 ≤ (I 306 57) ∧ (I 306 57) < 2147483648) (c2 : -2147483648 ≤ (I 341 2) ∧ (I 341 2) < 2147483648) (h1 : (I 306 57) ≠ (I 341 2) → PN X d mX11_placeTold 110 [] [] I R Q) (h2 : (I 306 57) = (I 341 2) → PN X d mX11_placeTold 88 [(2, 306)] [] I R Q) : PN X d mX11_placeTold 75 [(2, 306)] [] I R Q := by
  refine P_aload_n (n := 0) (q := 76) rfl rfl (by decide +kernel) ?_
  refine P_getf (q := 79) fX11_202 kM306 rfl (by decide +kernel) ?_
  refine P_aload_n (n := 0) (q := 80) rfl rfl (by decide +kernel) ?_
  refine B_getfR (q := 83) fX11_185 kM306 (rM306_44 hs) rfl (by decide +kernel) ?_
  refine P_iconst (n := 2) (q := 84) rfl (by decide +kernel) ?_
  refine B_iaload (q := 85) kM341 nM341 (by decide) ⟨by decide, by decide⟩ rfl (by decide +kernel) ?_
  refine B_icmp_ne (off := 25) (t := 110) (q := 88) c1 c2 (by decide) rfl (by decide +kernel) ?_ ?_
  · exact fun g9 => (PW_sub (ls' := []) trivial (h1 g9))
  · exact fun g9 => (PW_sub (ls' := [(2, 306)]) ⟨Or.inr rfl, trivial⟩ (h2 g9))
theorem S_X11_placeTold_88 {X : CX} {d : Nat} {I R : PF} {Q : PV → PF → PF → Prop} (hs : Shp R) (c1 : -2147483648 ≤ (I 306 58) ∧ (I 306 58) < 2147483648) (c2 : -2147483648 ≤ (I 341 3) ∧ (I 341 3) < 2147483648) (h1 : (I 306 58) ≠ (I 341 3) → PN X d mX11_placeTold 110 [] [] I R Q) (h2 : (I 306 58) = (I 341 3) → PN X d mX11_placeTold 101 [(2, 306)] [] I R Q) : PN X d mX11_placeTold 88 [(2, 306)] [] I R Q := by
  refine P_aload_n (n := 0) (q := 89) rfl rfl (by decide +kernel) ?_
  refine P_getf (q := 92) fX11_205 kM306 rfl (by decide +kernel) ?_
  refine P_aload_n (n := 0) (q := 93) rfl rfl (by decide +kernel) ?_
  refine B_getfR (q := 96) fX11_185 kM306 (rM306_44 hs) rfl (by decide +kernel) ?_
  refine P_iconst (n := 3) (q := 97) rfl (by decide +kernel) ?_
  refine B_iaload (q := 98) kM341 nM341 (by decide) ⟨by decide, by decide⟩ rfl (by decide +kernel) ?_
  refine B_icmp_ne (off := 12) (t := 110) (q := 101) c1 c2 (by decide) rfl (by decide +kernel) ?_ ?_
  · exact fun g9 => (PW_sub (ls' := []) trivial (h1 g9))
  · exact fun g9 => (PW_sub (ls' := [(2, 306)]) ⟨Or.inr rfl, trivial⟩ (h2 g9))
theorem S_X11_placeTold_101 {X : CX} {d d1 : Nat} {I R : PF} {Q Q1 : PV → PF → PF → Prop} (e1 : d1 + 1 ≤ d) (hc : CN X d1 mX11_fail [(2, 306), (0, 2), (0, (I 306 10))] I R Q1) (h : ∀ z I2 R2, Q1 (9, z) I2 R2 → PN X d mX11_placeTold 110 [] [] I2 R2 Q) : PN X d mX11_placeTold 101 [(2, 306)] [] I R Q := by
  refine P_aload_n (n := 0) (q := 102) rfl rfl (by decide +kernel) ?_
  refine P_iconst (n := 2) (q := 103) rfl (by decide +kernel) ?_
  refine P_aload_n (n := 0) (q := 104) rfl rfl (by decide +kernel) ?_
  refine P_getf (q := 107) fX11_54 kM306 rfl (by decide +kernel) ?_
  refine P_invV (As := [(0, 2), (0, (I 306 10))]) (q := 110) oX11_fail rfl kM306 kX11_44 e1 hMF (Nat.le_of_ble_eq_true rfl) hc rfl (by decide +kernel) (fun z I2 R2 hq => ?_)
  exact (PW_sub (ls' := []) trivial (h z I2 R2 hq))
theorem S_X11_placeTold_110 {X : CX} {d : Nat} {I R : PF} {Q : PV → PF → PF → Prop} (h : Q (9, 0) I R) : PN X d mX11_placeTold 110 [] [] I R Q := by
  refine P_vret rfl (by decide +kernel) h
theorem S_X11_putsAside_0 {X : CX} {d : Nat} {I R : PF} {Q : PV → PF → PF → Prop} (h : PN X d mX11_putsAside 7 [(2, 306), (0, 0)] [] (u2 I 306 72 1) R Q) : PN X d mX11_putsAside 0 [(2, 306)] [] I R Q := by
  refine P_aload_n (n := 0) (q := 1) rfl rfl (by decide +kernel) ?_
  refine P_iconst (n := 1) (q := 2) rfl (by decide +kernel) ?_
  refine P_putZ (q := 5) wX11_522 (fun h => by cases h) (Or.inr rfl) kM306 rfl (by decide +kernel) ?_
  refine P_iconst (n := 0) (q := 6) rfl (by decide +kernel) ?_
  refine P_istore_n (n := 1) (by decide) (q := 7) rfl (by decide +kernel) ?_
  exact h
theorem S_X11_putsAside_7 {X : CX} {d : Nat} {x1 : Int} {I R : PF} {Q : PV → PF → PF → Prop} (c1 : -2147483648 ≤ x1 ∧ x1 < 2147483648) (h1 : 33 ≤ x1 → PN X d mX11_putsAside 31 [] [] I R Q) (h2 : x1 < 33 → PN X d mX11_putsAside 13 [(2, 306), (0, x1)] [] I R Q) : PN X d mX11_putsAside 7 [(2, 306), (0, x1)] [] I R Q := by
  refine P_iload_n (n := 1) (q := 8) rfl rfl (by decide +kernel) ?_
  refine P_bipush (n := 33) (q := 10) rfl rfl (by decide +kernel) ?_
  refine B_icmp_ge (off := 21) (t := 31) (q := 13) c1 ⟨by decide, by decide⟩ (by decide) rfl (by decide +kernel) ?_ ?_
  · exact fun g9 => (PW_sub (ls' := []) trivial (h1 g9))
  · exact fun g9 => (h2 g9)
theorem S_X11_putsAside_13 {X : CX} {d : Nat} {x1 : Int} {I R : PF} {Q : PV → PF → PF → Prop} (hs : Shp R) (b1 : (0 : Int) ≤ x1 ∧ x1 < 154) (b2 : (0 : Int) ≤ x1 ∧ x1 < 33) (h : PN X d mX11_putsAside 7 [(2, 306), (0, (x1 + 1))] [] (u2 I 349 x1 (I 348 x1)) R Q) : PN X d mX11_putsAside 13 [(2, 306), (0, x1)] [] I R Q := by
  refine P_aload_n (n := 0) (q := 14) rfl rfl (by decide +kernel) ?_
  refine B_getfR (q := 17) fX11_317 kM306 (rM306_60 hs) rfl (by decide +kernel) ?_
  refine P_iload_n (n := 1) (q := 18) rfl rfl (by decide +kernel) ?_
  refine P_aload_n (n := 0) (q := 19) rfl rfl (by decide +kernel) ?_
  refine B_getfR (q := 22) fX11_303 kM306 (rM306_59 hs) rfl (by decide +kernel) ?_
  refine P_iload_n (n := 1) (q := 23) rfl rfl (by decide +kernel) ?_
  refine B_iaload (q := 24) kM348 nM348 (by decide) b1 rfl (by decide +kernel) ?_
  refine B_iastore (q := 25) kM349 nM349 (by decide) b2 rfl (by decide +kernel) ?_
  refine P_iinc (n := 1) (a := 1) (by decide) rfl (q := 28) rfl (by decide +kernel) ?_
  refine P_goto (off := (-21)) (t := 7) (by decide) (by decide +kernel) ?_
  exact h
theorem S_X11_putsAside_31 {X : CX} {d : Nat} {I R : PF} {Q : PV → PF → PF → Prop} (h : Q (9, 0) I R) : PN X d mX11_putsAside 31 [] [] I R Q := by
  refine P_vret rfl (by decide +kernel) h
theorem S_X11_qAsksWord_0 {X : CX} {d : Nat} {x1 : Int} {I R : PF} {Q : PV → PF → PF → Prop} (c1 : -2147483648 ≤ x1 ∧ x1 < 2147483648) (h0 : x1 = 0 → PN X d mX11_qAsksWord 60 [(2, 306)] [] I R Q) (h1 : x1 = 1 → PN X d mX11_qAsksWord 71 [(2, 306)] [] I R Q) (h2 : x1 = 2 → PN X d mX11_qAsksWord 82 [(2, 306)] [] I R Q) (h3 : x1 = 3 → PN X d mX11_qAsksWord 93 [(2, 306)] [] I R Q) (h4 : x1 = 4 → PN X d mX11_qAsksWord 104 [(2, 306)] [] I R Q) (h5 : x1 = 5 → PN X d mX11_qAsksWord 115 [(2, 306)] [] I R Q) (h6 : x1 = 6 → PN X d mX11_qAsksWord 126 [(2, 306)] [] I R Q) (h7 : x1 = 7 → PN X d mX11_qAsksWord 137 [(2, 306)] [] I R Q) (h8 : x1 = 8 → PN X d mX11_qAsksWord 148 [(2, 306)] [] I R Q) (h9 : x1 = 9 → PN X d mX11_qAsksWord 159 [(2, 306)] [] I R Q) (h10 : x1 = 10 → PN X d mX11_qAsksWord 170 [(2, 306)] [] I R Q) (hd : x1 < 0 ∨ 10 < x1 → PN X d mX11_qAsksWord 181 [(2, 306)] [] I R Q) : PN X d mX11_qAsksWord 0 [(2, 306), (0, x1)] [] I R Q := by
  refine P_iload_n (n := 1) (q := 1) rfl rfl (by decide +kernel) ?_
  rcases tab_cases (lo := 0) (n := 11) x1 with e9 | ⟨k9, hk9, e9⟩
  · exact P_tableOut (dflt := 180) (lo := 0) (hi := 10) (offs := #[59, 70, 81, 92, 103, 114, 125, 136, 147, 158, 169]) (len := 59) (t := 181) (by decide +kernel) (by rw [w_of c1]; exact e9) (by decide) (PW_sub (ls' := [(2, 306)]) ⟨Or.inr rfl, trivial⟩ (hd e9))
  · match k9, hk9, e9 with
    | 0, _, e9 => exact P_tableIn (dflt := 180) (lo := 0) (hi := 10) (offs := #[59, 70, 81, 92, 103, 114, 125, 136, 147, 158, 169]) (len := 59) (off := 59) (t := 60) (by decide +kernel) (by rw [w_of c1, e9]; decide) (by rw [w_of c1, e9]; decide) (by rw [w_of c1, e9]; rfl) (by decide) (PW_sub (ls' := [(2, 306)]) ⟨Or.inr rfl, trivial⟩ (h0 (e9.trans (by decide))))
    | 1, _, e9 => exact P_tableIn (dflt := 180) (lo := 0) (hi := 10) (offs := #[59, 70, 81, 92, 103, 114, 125, 136, 147, 158, 169]) (len := 59) (off := 70) (t := 71) (by decide +kernel) (by rw [w_of c1, e9]; decide) (by rw [w_of c1, e9]; decide) (by rw [w_of c1, e9]; rfl) (by decide) (PW_sub (ls' := [(2, 306)]) ⟨Or.inr rfl, trivial⟩ (h1 (e9.trans (by decide))))
    | 2, _, e9 => exact P_tableIn (dflt := 180) (lo := 0) (hi := 10) (offs := #[59, 70, 81, 92, 103, 114, 125, 136, 147, 158, 169]) (len := 59) (off := 81) (t := 82) (by decide +kernel) (by rw [w_of c1, e9]; decide) (by rw [w_of c1, e9]; decide) (by rw [w_of c1, e9]; rfl) (by decide) (PW_sub (ls' := [(2, 306)]) ⟨Or.inr rfl, trivial⟩ (h2 (e9.trans (by decide))))
    | 3, _, e9 => exact P_tableIn (dflt := 180) (lo := 0) (hi := 10) (offs := #[59, 70, 81, 92, 103, 114, 125, 136, 147, 158, 169]) (len := 59) (off := 92) (t := 93) (by decide +kernel) (by rw [w_of c1, e9]; decide) (by rw [w_of c1, e9]; decide) (by rw [w_of c1, e9]; rfl) (by decide) (PW_sub (ls' := [(2, 306)]) ⟨Or.inr rfl, trivial⟩ (h3 (e9.trans (by decide))))
    | 4, _, e9 => exact P_tableIn (dflt := 180) (lo := 0) (hi := 10) (offs := #[59, 70, 81, 92, 103, 114, 125, 136, 147, 158, 169]) (len := 59) (off := 103) (t := 104) (by decide +kernel) (by rw [w_of c1, e9]; decide) (by rw [w_of c1, e9]; decide) (by rw [w_of c1, e9]; rfl) (by decide) (PW_sub (ls' := [(2, 306)]) ⟨Or.inr rfl, trivial⟩ (h4 (e9.trans (by decide))))
    | 5, _, e9 => exact P_tableIn (dflt := 180) (lo := 0) (hi := 10) (offs := #[59, 70, 81, 92, 103, 114, 125, 136, 147, 158, 169]) (len := 59) (off := 114) (t := 115) (by decide +kernel) (by rw [w_of c1, e9]; decide) (by rw [w_of c1, e9]; decide) (by rw [w_of c1, e9]; rfl) (by decide) (PW_sub (ls' := [(2, 306)]) ⟨Or.inr rfl, trivial⟩ (h5 (e9.trans (by decide))))
    | 6, _, e9 => exact P_tableIn (dflt := 180) (lo := 0) (hi := 10) (offs := #[59, 70, 81, 92, 103, 114, 125, 136, 147, 158, 169]) (len := 59) (off := 125) (t := 126) (by decide +kernel) (by rw [w_of c1, e9]; decide) (by rw [w_of c1, e9]; decide) (by rw [w_of c1, e9]; rfl) (by decide) (PW_sub (ls' := [(2, 306)]) ⟨Or.inr rfl, trivial⟩ (h6 (e9.trans (by decide))))
    | 7, _, e9 => exact P_tableIn (dflt := 180) (lo := 0) (hi := 10) (offs := #[59, 70, 81, 92, 103, 114, 125, 136, 147, 158, 169]) (len := 59) (off := 136) (t := 137) (by decide +kernel) (by rw [w_of c1, e9]; decide) (by rw [w_of c1, e9]; decide) (by rw [w_of c1, e9]; rfl) (by decide) (PW_sub (ls' := [(2, 306)]) ⟨Or.inr rfl, trivial⟩ (h7 (e9.trans (by decide))))
    | 8, _, e9 => exact P_tableIn (dflt := 180) (lo := 0) (hi := 10) (offs := #[59, 70, 81, 92, 103, 114, 125, 136, 147, 158, 169]) (len := 59) (off := 147) (t := 148) (by decide +kernel) (by rw [w_of c1, e9]; decide) (by rw [w_of c1, e9]; decide) (by rw [w_of c1, e9]; rfl) (by decide) (PW_sub (ls' := [(2, 306)]) ⟨Or.inr rfl, trivial⟩ (h8 (e9.trans (by decide))))
    | 9, _, e9 => exact P_tableIn (dflt := 180) (lo := 0) (hi := 10) (offs := #[59, 70, 81, 92, 103, 114, 125, 136, 147, 158, 169]) (len := 59) (off := 158) (t := 159) (by decide +kernel) (by rw [w_of c1, e9]; decide) (by rw [w_of c1, e9]; decide) (by rw [w_of c1, e9]; rfl) (by decide) (PW_sub (ls' := [(2, 306)]) ⟨Or.inr rfl, trivial⟩ (h9 (e9.trans (by decide))))
    | 10, _, e9 => exact P_tableIn (dflt := 180) (lo := 0) (hi := 10) (offs := #[59, 70, 81, 92, 103, 114, 125, 136, 147, 158, 169]) (len := 59) (off := 169) (t := 170) (by decide +kernel) (by rw [w_of c1, e9]; decide) (by rw [w_of c1, e9]; decide) (by rw [w_of c1, e9]; rfl) (by decide) (PW_sub (ls' := [(2, 306)]) ⟨Or.inr rfl, trivial⟩ (h10 (e9.trans (by decide))))
theorem S_X11_qAsksWord_60 {X : CX} {d d1 : Nat} {I R : PF} {Q Q1 : PV → PF → PF → Prop} (hs : Shp R) (e1 : d1 + 1 ≤ d) (hc : CN X d1 mX11_asks [(2, 306), (2, 367)] I R Q1) (h : ∀ z I2 R2, Q1 (9, z) I2 R2 → PN X d mX11_qAsksWord 68 [] [] I2 R2 Q) : PN X d mX11_qAsksWord 60 [(2, 306)] [] I R Q := by
  refine P_aload_n (n := 0) (q := 61) rfl rfl (by decide +kernel) ?_
  refine P_aload_n (n := 0) (q := 62) rfl rfl (by decide +kernel) ?_
  refine B_getfR (q := 65) fX11_375 kM306 (rM306_91 hs) rfl (by decide +kernel) ?_
  refine P_invV (As := [(2, 367)]) (q := 68) oX11_asks rfl kM306 kX11_181 e1 hMF (Nat.le_of_ble_eq_true rfl) hc rfl (by decide +kernel) (fun z I2 R2 hq => ?_)
  exact (PW_sub (ls' := []) trivial (h z I2 R2 hq))
theorem S_X11_qAsksWord_68 {X : CX} {d : Nat} {I R : PF} {Q : PV → PF → PF → Prop} (h : PN X d mX11_qAsksWord 189 [] [] I R Q) : PN X d mX11_qAsksWord 68 [] [] I R Q := by
  refine P_goto (off := 121) (t := 189) (by decide) (by decide +kernel) ?_
  exact (PW_sub (ls' := []) trivial h)
theorem S_X11_qAsksWord_71 {X : CX} {d d1 : Nat} {I R : PF} {Q Q1 : PV → PF → PF → Prop} (hs : Shp R) (e1 : d1 + 1 ≤ d) (hc : CN X d1 mX11_asks [(2, 306), (2, 368)] I R Q1) (h : ∀ z I2 R2, Q1 (9, z) I2 R2 → PN X d mX11_qAsksWord 79 [] [] I2 R2 Q) : PN X d mX11_qAsksWord 71 [(2, 306)] [] I R Q := by
  refine P_aload_n (n := 0) (q := 72) rfl rfl (by decide +kernel) ?_
  refine P_aload_n (n := 0) (q := 73) rfl rfl (by decide +kernel) ?_
  refine B_getfR (q := 76) fX11_378 kM306 (rM306_92 hs) rfl (by decide +kernel) ?_
  refine P_invV (As := [(2, 368)]) (q := 79) oX11_asks rfl kM306 kX11_181 e1 hMF (Nat.le_of_ble_eq_true rfl) hc rfl (by decide +kernel) (fun z I2 R2 hq => ?_)
  exact (PW_sub (ls' := []) trivial (h z I2 R2 hq))
theorem S_X11_qAsksWord_79 {X : CX} {d : Nat} {I R : PF} {Q : PV → PF → PF → Prop} (h : PN X d mX11_qAsksWord 189 [] [] I R Q) : PN X d mX11_qAsksWord 79 [] [] I R Q := by
  refine P_goto (off := 110) (t := 189) (by decide) (by decide +kernel) ?_
  exact (PW_sub (ls' := []) trivial h)
theorem S_X11_qAsksWord_82 {X : CX} {d d1 : Nat} {I R : PF} {Q Q1 : PV → PF → PF → Prop} (hs : Shp R) (e1 : d1 + 1 ≤ d) (hc : CN X d1 mX11_asks [(2, 306), (2, 369)] I R Q1) (h : ∀ z I2 R2, Q1 (9, z) I2 R2 → PN X d mX11_qAsksWord 90 [] [] I2 R2 Q) : PN X d mX11_qAsksWord 82 [(2, 306)] [] I R Q := by
  refine P_aload_n (n := 0) (q := 83) rfl rfl (by decide +kernel) ?_
  refine P_aload_n (n := 0) (q := 84) rfl rfl (by decide +kernel) ?_
  refine B_getfR (q := 87) fX11_381 kM306 (rM306_93 hs) rfl (by decide +kernel) ?_
  refine P_invV (As := [(2, 369)]) (q := 90) oX11_asks rfl kM306 kX11_181 e1 hMF (Nat.le_of_ble_eq_true rfl) hc rfl (by decide +kernel) (fun z I2 R2 hq => ?_)
  exact (PW_sub (ls' := []) trivial (h z I2 R2 hq))
theorem S_X11_qAsksWord_90 {X : CX} {d : Nat} {I R : PF} {Q : PV → PF → PF → Prop} (h : PN X d mX11_qAsksWord 189 [] [] I R Q) : PN X d mX11_qAsksWord 90 [] [] I R Q := by
  refine P_goto (off := 99) (t := 189) (by decide) (by decide +kernel) ?_
  exact (PW_sub (ls' := []) trivial h)
theorem S_X11_qAsksWord_93 {X : CX} {d d1 : Nat} {I R : PF} {Q Q1 : PV → PF → PF → Prop} (hs : Shp R) (e1 : d1 + 1 ≤ d) (hc : CN X d1 mX11_asks [(2, 306), (2, 370)] I R Q1) (h : ∀ z I2 R2, Q1 (9, z) I2 R2 → PN X d mX11_qAsksWord 101 [] [] I2 R2 Q) : PN X d mX11_qAsksWord 93 [(2, 306)] [] I R Q := by
  refine P_aload_n (n := 0) (q := 94) rfl rfl (by decide +kernel) ?_
  refine P_aload_n (n := 0) (q := 95) rfl rfl (by decide +kernel) ?_
  refine B_getfR (q := 98) fX11_384 kM306 (rM306_94 hs) rfl (by decide +kernel) ?_
  refine P_invV (As := [(2, 370)]) (q := 101) oX11_asks rfl kM306 kX11_181 e1 hMF (Nat.le_of_ble_eq_true rfl) hc rfl (by decide +kernel) (fun z I2 R2 hq => ?_)
  exact (PW_sub (ls' := []) trivial (h z I2 R2 hq))
theorem S_X11_qAsksWord_101 {X : CX} {d : Nat} {I R : PF} {Q : PV → PF → PF → Prop} (h : PN X d mX11_qAsksWord 189 [] [] I R Q) : PN X d mX11_qAsksWord 101 [] [] I R Q := by
  refine P_goto (off := 88) (t := 189) (by decide) (by decide +kernel) ?_
  exact (PW_sub (ls' := []) trivial h)
theorem S_X11_qAsksWord_104 {X : CX} {d d1 : Nat} {I R : PF} {Q Q1 : PV → PF → PF → Prop} (hs : Shp R) (e1 : d1 + 1 ≤ d) (hc : CN X d1 mX11_asks [(2, 306), (2, 371)] I R Q1) (h : ∀ z I2 R2, Q1 (9, z) I2 R2 → PN X d mX11_qAsksWord 112 [] [] I2 R2 Q) : PN X d mX11_qAsksWord 104 [(2, 306)] [] I R Q := by
  refine P_aload_n (n := 0) (q := 105) rfl rfl (by decide +kernel) ?_
  refine P_aload_n (n := 0) (q := 106) rfl rfl (by decide +kernel) ?_
  refine B_getfR (q := 109) fX11_387 kM306 (rM306_95 hs) rfl (by decide +kernel) ?_
  refine P_invV (As := [(2, 371)]) (q := 112) oX11_asks rfl kM306 kX11_181 e1 hMF (Nat.le_of_ble_eq_true rfl) hc rfl (by decide +kernel) (fun z I2 R2 hq => ?_)
  exact (PW_sub (ls' := []) trivial (h z I2 R2 hq))
theorem S_X11_qAsksWord_112 {X : CX} {d : Nat} {I R : PF} {Q : PV → PF → PF → Prop} (h : PN X d mX11_qAsksWord 189 [] [] I R Q) : PN X d mX11_qAsksWord 112 [] [] I R Q := by
  refine P_goto (off := 77) (t := 189) (by decide) (by decide +kernel) ?_
  exact (PW_sub (ls' := []) trivial h)
theorem S_X11_qAsksWord_115 {X : CX} {d d1 : Nat} {I R : PF} {Q Q1 : PV → PF → PF → Prop} (hs : Shp R) (e1 : d1 + 1 ≤ d) (hc : CN X d1 mX11_asks [(2, 306), (2, 372)] I R Q1) (h : ∀ z I2 R2, Q1 (9, z) I2 R2 → PN X d mX11_qAsksWord 123 [] [] I2 R2 Q) : PN X d mX11_qAsksWord 115 [(2, 306)] [] I R Q := by
  refine P_aload_n (n := 0) (q := 116) rfl rfl (by decide +kernel) ?_
  refine P_aload_n (n := 0) (q := 117) rfl rfl (by decide +kernel) ?_
  refine B_getfR (q := 120) fX11_390 kM306 (rM306_96 hs) rfl (by decide +kernel) ?_
  refine P_invV (As := [(2, 372)]) (q := 123) oX11_asks rfl kM306 kX11_181 e1 hMF (Nat.le_of_ble_eq_true rfl) hc rfl (by decide +kernel) (fun z I2 R2 hq => ?_)
  exact (PW_sub (ls' := []) trivial (h z I2 R2 hq))
theorem S_X11_qAsksWord_123 {X : CX} {d : Nat} {I R : PF} {Q : PV → PF → PF → Prop} (h : PN X d mX11_qAsksWord 189 [] [] I R Q) : PN X d mX11_qAsksWord 123 [] [] I R Q := by
  refine P_goto (off := 66) (t := 189) (by decide) (by decide +kernel) ?_
  exact (PW_sub (ls' := []) trivial h)
theorem S_X11_qAsksWord_126 {X : CX} {d d1 : Nat} {I R : PF} {Q Q1 : PV → PF → PF → Prop} (hs : Shp R) (e1 : d1 + 1 ≤ d) (hc : CN X d1 mX11_asks [(2, 306), (2, 373)] I R Q1) (h : ∀ z I2 R2, Q1 (9, z) I2 R2 → PN X d mX11_qAsksWord 134 [] [] I2 R2 Q) : PN X d mX11_qAsksWord 126 [(2, 306)] [] I R Q := by
  refine P_aload_n (n := 0) (q := 127) rfl rfl (by decide +kernel) ?_
  refine P_aload_n (n := 0) (q := 128) rfl rfl (by decide +kernel) ?_
  refine B_getfR (q := 131) fX11_393 kM306 (rM306_97 hs) rfl (by decide +kernel) ?_
  refine P_invV (As := [(2, 373)]) (q := 134) oX11_asks rfl kM306 kX11_181 e1 hMF (Nat.le_of_ble_eq_true rfl) hc rfl (by decide +kernel) (fun z I2 R2 hq => ?_)
  exact (PW_sub (ls' := []) trivial (h z I2 R2 hq))
theorem S_X11_qAsksWord_134 {X : CX} {d : Nat} {I R : PF} {Q : PV → PF → PF → Prop} (h : PN X d mX11_qAsksWord 189 [] [] I R Q) : PN X d mX11_qAsksWord 134 [] [] I R Q := by
  refine P_goto (off := 55) (t := 189) (by decide) (by decide +kernel) ?_
  exact (PW_sub (ls' := []) trivial h)
theorem S_X11_qAsksWord_137 {X : CX} {d d1 : Nat} {I R : PF} {Q Q1 : PV → PF → PF → Prop} (hs : Shp R) (e1 : d1 + 1 ≤ d) (hc : CN X d1 mX11_asks [(2, 306), (2, 374)] I R Q1) (h : ∀ z I2 R2, Q1 (9, z) I2 R2 → PN X d mX11_qAsksWord 145 [] [] I2 R2 Q) : PN X d mX11_qAsksWord 137 [(2, 306)] [] I R Q := by
  refine P_aload_n (n := 0) (q := 138) rfl rfl (by decide +kernel) ?_
  refine P_aload_n (n := 0) (q := 139) rfl rfl (by decide +kernel) ?_
  refine B_getfR (q := 142) fX11_396 kM306 (rM306_98 hs) rfl (by decide +kernel) ?_
  refine P_invV (As := [(2, 374)]) (q := 145) oX11_asks rfl kM306 kX11_181 e1 hMF (Nat.le_of_ble_eq_true rfl) hc rfl (by decide +kernel) (fun z I2 R2 hq => ?_)
  exact (PW_sub (ls' := []) trivial (h z I2 R2 hq))
theorem S_X11_qAsksWord_145 {X : CX} {d : Nat} {I R : PF} {Q : PV → PF → PF → Prop} (h : PN X d mX11_qAsksWord 189 [] [] I R Q) : PN X d mX11_qAsksWord 145 [] [] I R Q := by
  refine P_goto (off := 44) (t := 189) (by decide) (by decide +kernel) ?_
  exact (PW_sub (ls' := []) trivial h)
theorem S_X11_qAsksWord_148 {X : CX} {d d1 : Nat} {I R : PF} {Q Q1 : PV → PF → PF → Prop} (hs : Shp R) (e1 : d1 + 1 ≤ d) (hc : CN X d1 mX11_asks [(2, 306), (2, 375)] I R Q1) (h : ∀ z I2 R2, Q1 (9, z) I2 R2 → PN X d mX11_qAsksWord 156 [] [] I2 R2 Q) : PN X d mX11_qAsksWord 148 [(2, 306)] [] I R Q := by
  refine P_aload_n (n := 0) (q := 149) rfl rfl (by decide +kernel) ?_
  refine P_aload_n (n := 0) (q := 150) rfl rfl (by decide +kernel) ?_
  refine B_getfR (q := 153) fX11_399 kM306 (rM306_99 hs) rfl (by decide +kernel) ?_
  refine P_invV (As := [(2, 375)]) (q := 156) oX11_asks rfl kM306 kX11_181 e1 hMF (Nat.le_of_ble_eq_true rfl) hc rfl (by decide +kernel) (fun z I2 R2 hq => ?_)
  exact (PW_sub (ls' := []) trivial (h z I2 R2 hq))
theorem S_X11_qAsksWord_156 {X : CX} {d : Nat} {I R : PF} {Q : PV → PF → PF → Prop} (h : PN X d mX11_qAsksWord 189 [] [] I R Q) : PN X d mX11_qAsksWord 156 [] [] I R Q := by
  refine P_goto (off := 33) (t := 189) (by decide) (by decide +kernel) ?_
  exact (PW_sub (ls' := []) trivial h)
theorem S_X11_qAsksWord_159 {X : CX} {d d1 : Nat} {I R : PF} {Q Q1 : PV → PF → PF → Prop} (hs : Shp R) (e1 : d1 + 1 ≤ d) (hc : CN X d1 mX11_asks [(2, 306), (2, 376)] I R Q1) (h : ∀ z I2 R2, Q1 (9, z) I2 R2 → PN X d mX11_qAsksWord 167 [] [] I2 R2 Q) : PN X d mX11_qAsksWord 159 [(2, 306)] [] I R Q := by
  refine P_aload_n (n := 0) (q := 160) rfl rfl (by decide +kernel) ?_
  refine P_aload_n (n := 0) (q := 161) rfl rfl (by decide +kernel) ?_
  refine B_getfR (q := 164) fX11_402 kM306 (rM306_100 hs) rfl (by decide +kernel) ?_
  refine P_invV (As := [(2, 376)]) (q := 167) oX11_asks rfl kM306 kX11_181 e1 hMF (Nat.le_of_ble_eq_true rfl) hc rfl (by decide +kernel) (fun z I2 R2 hq => ?_)
  exact (PW_sub (ls' := []) trivial (h z I2 R2 hq))
theorem S_X11_qAsksWord_167 {X : CX} {d : Nat} {I R : PF} {Q : PV → PF → PF → Prop} (h : PN X d mX11_qAsksWord 189 [] [] I R Q) : PN X d mX11_qAsksWord 167 [] [] I R Q := by
  refine P_goto (off := 22) (t := 189) (by decide) (by decide +kernel) ?_
  exact (PW_sub (ls' := []) trivial h)
theorem S_X11_qAsksWord_170 {X : CX} {d d1 : Nat} {I R : PF} {Q Q1 : PV → PF → PF → Prop} (hs : Shp R) (e1 : d1 + 1 ≤ d) (hc : CN X d1 mX11_asks [(2, 306), (2, 377)] I R Q1) (h : ∀ z I2 R2, Q1 (9, z) I2 R2 → PN X d mX11_qAsksWord 178 [] [] I2 R2 Q) : PN X d mX11_qAsksWord 170 [(2, 306)] [] I R Q := by
  refine P_aload_n (n := 0) (q := 171) rfl rfl (by decide +kernel) ?_
  refine P_aload_n (n := 0) (q := 172) rfl rfl (by decide +kernel) ?_
  refine B_getfR (q := 175) fX11_405 kM306 (rM306_101 hs) rfl (by decide +kernel) ?_
  refine P_invV (As := [(2, 377)]) (q := 178) oX11_asks rfl kM306 kX11_181 e1 hMF (Nat.le_of_ble_eq_true rfl) hc rfl (by decide +kernel) (fun z I2 R2 hq => ?_)
  exact (PW_sub (ls' := []) trivial (h z I2 R2 hq))
theorem S_X11_qAsksWord_178 {X : CX} {d : Nat} {I R : PF} {Q : PV → PF → PF → Prop} (h : PN X d mX11_qAsksWord 189 [] [] I R Q) : PN X d mX11_qAsksWord 178 [] [] I R Q := by
  refine P_goto (off := 11) (t := 189) (by decide) (by decide +kernel) ?_
  exact (PW_sub (ls' := []) trivial h)
theorem S_X11_qAsksWord_181 {X : CX} {d d1 : Nat} {I R : PF} {Q Q1 : PV → PF → PF → Prop} (hs : Shp R) (e1 : d1 + 1 ≤ d) (hc : CN X d1 mX11_asks [(2, 306), (2, 378)] I R Q1) (h : ∀ z I2 R2, Q1 (9, z) I2 R2 → PN X d mX11_qAsksWord 189 [] [] I2 R2 Q) : PN X d mX11_qAsksWord 181 [(2, 306)] [] I R Q := by
  refine P_aload_n (n := 0) (q := 182) rfl rfl (by decide +kernel) ?_
  refine P_aload_n (n := 0) (q := 183) rfl rfl (by decide +kernel) ?_
  refine B_getfR (q := 186) fX11_408 kM306 (rM306_102 hs) rfl (by decide +kernel) ?_
  refine P_invV (As := [(2, 378)]) (q := 189) oX11_asks rfl kM306 kX11_181 e1 hMF (Nat.le_of_ble_eq_true rfl) hc rfl (by decide +kernel) (fun z I2 R2 hq => ?_)
  exact (PW_sub (ls' := []) trivial (h z I2 R2 hq))
theorem S_X11_qAsksWord_189 {X : CX} {d : Nat} {I R : PF} {Q : PV → PF → PF → Prop} (h : Q (9, 0) I R) : PN X d mX11_qAsksWord 189 [] [] I R Q := by
  refine P_vret rfl (by decide +kernel) h
theorem S_X11_qBracket_0 {X : CX} {d : Nat} {I R : PF} {Q : PV → PF → PF → Prop} (h : PN X d mX11_qBracket 7 [(2, 306), (0, ((I 306 106) - 1))] [] I R Q) : PN X d mX11_qBracket 0 [(2, 306)] [] I R Q := by
  refine P_aload_n (n := 0) (q := 1) rfl rfl (by decide +kernel) ?_
  refine P_getf (q := 4) fX11_235 kM306 rfl (by decide +kernel) ?_
  refine P_iconst (n := 1) (q := 5) rfl (by decide +kernel) ?_
  refine P_isub (q := 6) rfl (by decide +kernel) ?_
  refine P_istore_n (n := 1) (by decide) (q := 7) rfl (by decide +kernel) ?_
  exact h
theorem S_X11_qBracket_7 {X : CX} {d : Nat} {x1 : Int} {I R : PF} {Q : PV → PF → PF → Prop} (c1 : -2147483648 ≤ x1 ∧ x1 < 2147483648) (c2 : -2147483648 ≤ (I 306 108) ∧ (I 306 108) < 2147483648) (h1 : x1 < (I 306 108) → PN X d mX11_qBracket 33 [(2, 306), (0, x1)] [] I R Q) (h2 : (I 306 108) ≤ x1 → PN X d mX11_qBracket 15 [(2, 306), (0, x1)] [] I R Q) : PN X d mX11_qBracket 7 [(2, 306), (0, x1)] [] I R Q := by
  refine P_iload_n (n := 1) (q := 8) rfl rfl (by decide +kernel) ?_
  refine P_aload_n (n := 0) (q := 9) rfl rfl (by decide +kernel) ?_
  refine P_getf (q := 12) fX11_241 kM306 rfl (by decide +kernel) ?_
  refine B_icmp_lt (off := 21) (t := 33) (q := 15) c1 c2 (by decide) rfl (by decide +kernel) ?_ ?_
  · exact fun g9 => (h1 g9)
  · exact fun g9 => (h2 g9)
theorem S_X11_qBracket_15 {X : CX} {d d1 : Nat} {x1 : Int} {I R : PF} {Q Q1 : PV → PF → PF → Prop} (hs : Shp R) (b1 : (0 : Int) ≤ x1 ∧ x1 < 1700) (e1 : d1 + 1 ≤ d) (hc : CN X d1 mX11_qIsBracket [(0, (I 380 x1))] I R Q1) (h : ∀ z I2 R2, Q1 (0, z) I2 R2 → PN X d mX11_qBracket 24 [(2, 306), (0, x1)] [(0, z)] I2 R2 Q) : PN X d mX11_qBracket 15 [(2, 306), (0, x1)] [] I R Q := by
  refine P_aload_n (n := 0) (q := 16) rfl rfl (by decide +kernel) ?_
  refine B_getfR (q := 19) fX11_411 kM306 (rM306_105 hs) rfl (by decide +kernel) ?_
  refine P_iload_n (n := 1) (q := 20) rfl rfl (by decide +kernel) ?_
  refine B_iaload (q := 21) kM380 nM380 (by decide) b1 rfl (by decide +kernel) ?_
  refine P_invS (As := [(0, (I 380 x1))]) (q := 24) oX11_qIsBracket rfl (Or.inl kX11_608) e1 hMF (Nat.le_of_ble_eq_true rfl) hc rfl (by decide +kernel) (fun z I2 R2 hq => ?_)
  exact (h z I2 R2 hq)
theorem S_X11_qBracket_24 {X : CX} {d : Nat} {x1 o0 : Int} {I R : PF} {Q : PV → PF → PF → Prop} (c1 : -2147483648 ≤ o0 ∧ o0 < 2147483648) (h1 : o0 ≠ 0 → PN X d mX11_qBracket 33 [(2, 306), (0, x1)] [] I R Q) (h2 : o0 = 0 → PN X d mX11_qBracket 27 [(2, 306), (0, x1)] [] I R Q) : PN X d mX11_qBracket 24 [(2, 306), (0, x1)] [(0, o0)] I R Q := by
  refine B_if_ne (off := 9) (t := 33) (q := 27) c1 (by decide) rfl (by decide +kernel) ?_ ?_
  · exact fun g9 => (h1 g9)
  · exact fun g9 => (h2 g9)
theorem S_X11_qBracket_27 {X : CX} {d : Nat} {x1 : Int} {I R : PF} {Q : PV → PF → PF → Prop} (h : PN X d mX11_qBracket 7 [(2, 306), (0, (x1 + (-1)))] [] I R Q) : PN X d mX11_qBracket 27 [(2, 306), (0, x1)] [] I R Q := by
  refine P_iinc (n := 1) (a := (-1)) (by decide) rfl (q := 30) rfl (by decide +kernel) ?_
  refine P_goto (off := (-23)) (t := 7) (by decide) (by decide +kernel) ?_
  exact h
theorem S_X11_qBracket_33 {X : CX} {d : Nat} {x1 : Int} {I R : PF} {Q : PV → PF → PF → Prop} (c1 : -2147483648 ≤ x1 ∧ x1 < 2147483648) (c2 : -2147483648 ≤ (I 306 108) ∧ (I 306 108) < 2147483648) (h1 : x1 < (I 306 108) → PN X d mX11_qBracket 50 [] [] I R Q) (h2 : (I 306 108) ≤ x1 → PN X d mX11_qBracket 41 [(2, 306), (0, x1)] [] I R Q) : PN X d mX11_qBracket 33 [(2, 306), (0, x1)] [] I R Q := by
  refine P_iload_n (n := 1) (q := 34) rfl rfl (by decide +kernel) ?_
  refine P_aload_n (n := 0) (q := 35) rfl rfl (by decide +kernel) ?_
  refine P_getf (q := 38) fX11_241 kM306 rfl (by decide +kernel) ?_
  refine B_icmp_lt (off := 12) (t := 50) (q := 41) c1 c2 (by decide) rfl (by decide +kernel) ?_ ?_
  · exact fun g9 => (PW_sub (ls' := []) trivial (h1 g9))
  · exact fun g9 => (h2 g9)
theorem S_X11_qBracket_41 {X : CX} {d : Nat} {x1 : Int} {I R : PF} {Q : PV → PF → PF → Prop} (hs : Shp R) (b1 : (0 : Int) ≤ x1 ∧ x1 < 1700) (h : PN X d mX11_qBracket 51 [] [(0, (I 380 x1))] I R Q) : PN X d mX11_qBracket 41 [(2, 306), (0, x1)] [] I R Q := by
  refine P_aload_n (n := 0) (q := 42) rfl rfl (by decide +kernel) ?_
  refine B_getfR (q := 45) fX11_411 kM306 (rM306_105 hs) rfl (by decide +kernel) ?_
  refine P_iload_n (n := 1) (q := 46) rfl rfl (by decide +kernel) ?_
  refine B_iaload (q := 47) kM380 nM380 (by decide) b1 rfl (by decide +kernel) ?_
  refine P_goto (off := 4) (t := 51) (by decide) (by decide +kernel) ?_
  exact (PW_sub (ls' := []) trivial h)
theorem S_X11_qBracket_50 {X : CX} {d : Nat} {I R : PF} {Q : PV → PF → PF → Prop} (h : PN X d mX11_qBracket 51 [] [(0, (-1))] I R Q) : PN X d mX11_qBracket 50 [] [] I R Q := by
  refine P_iconst (n := (-1)) (q := 51) rfl (by decide +kernel) ?_
  exact (PW_sub (ls' := []) trivial h)
theorem S_X11_qBracket_51 {X : CX} {d : Nat} {o0 : Int} {I R : PF} {Q : PV → PF → PF → Prop} (h : Q (0, o0) I R) : PN X d mX11_qBracket 51 [] [(0, o0)] I R Q := by
  refine P_iret rfl (by decide +kernel) h
theorem S_X11_qClip_0 {X : CX} {d : Nat} {y0 : Int} {I R : PF} {Q : PV → PF → PF → Prop} (c1 : -9223372036854775808 ≤ y0 ∧ y0 < 9223372036854775808) (h1 : y0 ≤ 1000000 → PN X d mX11_qClip 14 [(1, y0)] [] I R Q) (h2 : 1000000 < y0 → PN X d mX11_qClip 8 [] [] I R Q) : PN X d mX11_qClip 0 [(1, y0)] [] I R Q := by
  refine P_lload_n (n := 0) (q := 1) rfl rfl (by decide +kernel) ?_
  refine P_ldc2 (ix := 659) (v := 1000000) (x := 1000000) (q := 4) rfl (tGp8 102 rfl rfl) rfl (by decide +kernel) ?_
  refine B_lif_le (off := 9) (t := 14) (q1 := 5) (q := 8) c1 ⟨by decide, by decide⟩ rfl (by decide +kernel) (by decide) rfl (by decide +kernel) ?_ ?_
  · exact fun g9 => (PW_sub (ls' := [(1, y0)]) ⟨Or.inr rfl, trivial⟩ (h1 g9))
  · exact fun g9 => (PW_sub (ls' := []) trivial (h2 g9))
theorem S_X11_qClip_8 {X : CX} {d : Nat} {I R : PF} {Q : PV → PF → PF → Prop} (h : PN X d mX11_qClip 29 [] [(1, 1000000)] I R Q) : PN X d mX11_qClip 8 [] [] I R Q := by
  refine P_ldc2 (ix := 659) (v := 1000000) (x := 1000000) (q := 11) rfl (tGp8 102 rfl rfl) rfl (by decide +kernel) ?_
  refine P_goto (off := 18) (t := 29) (by decide) (by decide +kernel) ?_
  exact (PW_sub (ls' := []) trivial h)
theorem S_X11_qClip_14 {X : CX} {d : Nat} {y0 : Int} {I R : PF} {Q : PV → PF → PF → Prop} (c1 : -9223372036854775808 ≤ y0 ∧ y0 < 9223372036854775808) (h1 : (-1000000) ≤ y0 → PN X d mX11_qClip 28 [(1, y0)] [] I R Q) (h2 : y0 < (-1000000) → PN X d mX11_qClip 22 [] [] I R Q) : PN X d mX11_qClip 14 [(1, y0)] [] I R Q := by
  refine P_lload_n (n := 0) (q := 15) rfl rfl (by decide +kernel) ?_
  refine P_ldc2 (ix := 661) (v := (-1000000)) (x := (-1000000)) (q := 18) rfl (tGp8 103 rfl rfl) rfl (by decide +kernel) ?_
  refine B_lif_ge (off := 9) (t := 28) (q1 := 19) (q := 22) c1 ⟨by decide, by decide⟩ rfl (by decide +kernel) (by decide) rfl (by decide +kernel) ?_ ?_
  · exact fun g9 => (PW_sub (ls' := [(1, y0)]) ⟨Or.inr rfl, trivial⟩ (h1 g9))
  · exact fun g9 => (PW_sub (ls' := []) trivial (h2 g9))
theorem S_X11_qClip_22 {X : CX} {d : Nat} {I R : PF} {Q : PV → PF → PF → Prop} (h : PN X d mX11_qClip 29 [] [(1, (-1000000))] I R Q) : PN X d mX11_qClip 22 [] [] I R Q := by
  refine P_ldc2 (ix := 661) (v := (-1000000)) (x := (-1000000)) (q := 25) rfl (tGp8 103 rfl rfl) rfl (by decide +kernel) ?_
  refine P_goto (off := 4) (t := 29) (by decide) (by decide +kernel) ?_
  exact (PW_sub (ls' := []) trivial h)
theorem S_X11_qClip_28 {X : CX} {d : Nat} {y0 : Int} {I R : PF} {Q : PV → PF → PF → Prop} (h : PN X d mX11_qClip 29 [] [(1, y0)] I R Q) : PN X d mX11_qClip 28 [(1, y0)] [] I R Q := by
  refine P_lload_n (n := 0) (q := 29) rfl rfl (by decide +kernel) ?_
  exact (PW_sub (ls' := []) trivial h)
theorem S_X11_qClip_29 {X : CX} {d : Nat} {v0 : Int} {I R : PF} {Q : PV → PF → PF → Prop} (h : Q (1, v0) I R) : PN X d mX11_qClip 29 [] [(1, v0)] I R Q := by
  refine P_lret rfl (by decide +kernel) h
theorem S_X11_qCode_0 {X : CX} {d : Nat} {x1 : Int} {I R : PF} {Q : PV → PF → PF → Prop} (hs : Shp R) (b1 : (0 : Int) ≤ (I 306 104) ∧ (I 306 104) < 1700) (h : Q (9, 0) (u2 (u2 I 379 (I 306 104) x1) 306 104 (((u2 I 379 (I 306 104) x1) 306 104) + 1)) R) : PN X d mX11_qCode 0 [(2, 306), (0, x1)] [] I R Q := by
  refine P_aload_n (n := 0) (q := 1) rfl rfl (by decide +kernel) ?_
  refine B_getfR (q := 4) fX11_257 kM306 (rM306_103 hs) rfl (by decide +kernel) ?_
  refine P_aload_n (n := 0) (q := 5) rfl rfl (by decide +kernel) ?_
  refine P_getf (q := 8) fX11_232 kM306 rfl (by decide +kernel) ?_
  refine P_iload_n (n := 1) (q := 9) rfl rfl (by decide +kernel) ?_
  refine B_iastore (q := 10) kM379 nM379 (by decide) b1 rfl (by decide +kernel) ?_
  refine P_aload_n (n := 0) (q := 11) rfl rfl (by decide +kernel) ?_
  refine P_dup (q := 12) (Nat.ne_of_beq_eq_false rfl) rfl (by decide +kernel) ?_
  refine P_getf (q := 15) fX11_232 kM306 rfl (by decide +kernel) ?_
  refine P_iconst (n := 1) (q := 16) rfl (by decide +kernel) ?_
  refine P_iadd (q := 17) rfl (by decide +kernel) ?_
  refine P_putI (q := 20) wX11_232 (fun h => by cases h) kM306 rfl (by decide +kernel) ?_
  refine P_vret rfl (by decide +kernel) h
theorem S_X11_qDrops_0 {X : CX} {d d1 : Nat} {I R : PF} {Q Q1 : PV → PF → PF → Prop} (hs : Shp R) (b1 : (0 : Int) ≤ ((u2 I 306 106 ((I 306 106) - 1)) 306 106) ∧ ((u2 I 306 106 ((I 306 106) - 1)) 306 106) < 1700) (e1 : d1 + 1 ≤ d) (hc : CN X d1 mX11_qCode [(2, 306), (0, ((u2 I 306 106 ((I 306 106) - 1)) 380 ((u2 I 306 106 ((I 306 106) - 1)) 306 106)))] (u2 I 306 106 ((I 306 106) - 1)) R Q1) (h : ∀ z I2 R2, Q1 (9, z) I2 R2 → PN X d mX11_qDrops 23 [] [] I2 R2 Q) : PN X d mX11_qDrops 0 [(2, 306)] [] I R Q := by
  refine P_aload_n (n := 0) (q := 1) rfl rfl (by decide +kernel) ?_
  refine P_dup (q := 2) (Nat.ne_of_beq_eq_false rfl) rfl (by decide +kernel) ?_
  refine P_getf (q := 5) fX11_235 kM306 rfl (by decide +kernel) ?_
  refine P_iconst (n := 1) (q := 6) rfl (by decide +kernel) ?_
  refine P_isub (q := 7) rfl (by decide +kernel) ?_
  refine P_putI (q := 10) wX11_235 (fun h => by cases h) kM306 rfl (by decide +kernel) ?_
  refine P_aload_n (n := 0) (q := 11) rfl rfl (by decide +kernel) ?_
  refine P_aload_n (n := 0) (q := 12) rfl rfl (by decide +kernel) ?_
  refine B_getfR (q := 15) fX11_411 kM306 (rM306_105 hs) rfl (by decide +kernel) ?_
  refine P_aload_n (n := 0) (q := 16) rfl rfl (by decide +kernel) ?_
  refine P_getf (q := 19) fX11_235 kM306 rfl (by decide +kernel) ?_
  refine B_iaload (q := 20) kM380 nM380 (by decide) b1 rfl (by decide +kernel) ?_
  refine P_invV (As := [(0, ((u2 I 306 106 ((I 306 106) - 1)) 380 ((u2 I 306 106 ((I 306 106) - 1)) 306 106)))]) (q := 23) oX11_qCode rfl kM306 kX11_605 e1 hMF (Nat.le_of_ble_eq_true rfl) hc rfl (by decide +kernel) (fun z I2 R2 hq => ?_)
  exact (PW_sub (ls' := []) trivial (h z I2 R2 hq))
theorem S_X11_qDrops_23 {X : CX} {d : Nat} {I R : PF} {Q : PV → PF → PF → Prop} (h : Q (9, 0) I R) : PN X d mX11_qDrops 23 [] [] I R Q := by
  refine P_vret rfl (by decide +kernel) h
theorem S_X11_qDropsNots_0 {X : CX} {d : Nat} {I R : PF} {Q : PV → PF → PF → Prop} (c1 : -2147483648 ≤ (I 306 5) ∧ (I 306 5) < 2147483648) (h1 : (I 306 5) ≠ 0 → PN X d mX11_qDropsNots 33 [] [] I R Q) (h2 : (I 306 5) = 0 → PN X d mX11_qDropsNots 7 [(2, 306)] [] I R Q) : PN X d mX11_qDropsNots 0 [(2, 306)] [] I R Q := by
  refine P_aload_n (n := 0) (q := 1) rfl rfl (by decide +kernel) ?_
  refine P_getf (q := 4) fX11_14 kM306 rfl (by decide +kernel) ?_
  refine B_if_ne (off := 29) (t := 33) (q := 7) c1 (by decide) rfl (by decide +kernel) ?_ ?_
  · exact fun g9 => (PW_sub (ls' := []) trivial (h1 g9))
  · exact fun g9 => (h2 g9)
theorem S_X11_qDropsNots_7 {X : CX} {d d1 : Nat} {I R : PF} {Q Q1 : PV → PF → PF → Prop} (e1 : d1 + 1 ≤ d) (hc : CN X d1 mX11_qIsOn [(2, 306), (0, 12)] I R Q1) (h : ∀ z I2 R2, Q1 (0, z) I2 R2 → PN X d mX11_qDropsNots 13 [(2, 306)] [(0, z)] I2 R2 Q) : PN X d mX11_qDropsNots 7 [(2, 306)] [] I R Q := by
  refine P_aload_n (n := 0) (q := 8) rfl rfl (by decide +kernel) ?_
  refine P_bipush (n := 12) (q := 10) rfl rfl (by decide +kernel) ?_
  refine P_invV (As := [(0, 12)]) (q := 13) oX11_qIsOn rfl kM306 kX11_638 e1 hMF (Nat.le_of_ble_eq_true rfl) hc rfl (by decide +kernel) (fun z I2 R2 hq => ?_)
  exact (h z I2 R2 hq)
theorem S_X11_qDropsNots_13 {X : CX} {d : Nat} {o0 : Int} {I R : PF} {Q : PV → PF → PF → Prop} (c1 : -2147483648 ≤ o0 ∧ o0 < 2147483648) (h1 : o0 = 0 → PN X d mX11_qDropsNots 33 [] [] I R Q) (h2 : o0 ≠ 0 → PN X d mX11_qDropsNots 16 [(2, 306)] [] I R Q) : PN X d mX11_qDropsNots 13 [(2, 306)] [(0, o0)] I R Q := by
  refine B_if_eq (off := 20) (t := 33) (q := 16) c1 (by decide) rfl (by decide +kernel) ?_ ?_
  · exact fun g9 => (PW_sub (ls' := []) trivial (h1 g9))
  · exact fun g9 => (h2 g9)
theorem S_X11_qDropsNots_16 {X : CX} {d d1 : Nat} {I R : PF} {Q Q1 : PV → PF → PF → Prop} (e1 : d1 + 1 ≤ d) (hc : CN X d1 mX11_qDrops [(2, 306)] (u2 I 306 107 ((I 306 107) - 1)) R Q1) (h : ∀ z I2 R2, Q1 (9, z) I2 R2 → PN X d mX11_qDropsNots 30 [(2, 306)] [] I2 R2 Q) : PN X d mX11_qDropsNots 16 [(2, 306)] [] I R Q := by
  refine P_aload_n (n := 0) (q := 17) rfl rfl (by decide +kernel) ?_
  refine P_dup (q := 18) (Nat.ne_of_beq_eq_false rfl) rfl (by decide +kernel) ?_
  refine P_getf (q := 21) fX11_238 kM306 rfl (by decide +kernel) ?_
  refine P_iconst (n := 1) (q := 22) rfl (by decide +kernel) ?_
  refine P_isub (q := 23) rfl (by decide +kernel) ?_
  refine P_putI (q := 26) wX11_238 (fun h => by cases h) kM306 rfl (by decide +kernel) ?_
  refine P_aload_n (n := 0) (q := 27) rfl rfl (by decide +kernel) ?_
  refine P_invV (As := []) (q := 30) oX11_qDrops rfl kM306 kX11_611 e1 hMF (Nat.le_of_ble_eq_true rfl) hc rfl (by decide +kernel) (fun z I2 R2 hq => ?_)
  exact (h z I2 R2 hq)
theorem S_X11_qDropsNots_30 {X : CX} {d : Nat} {I R : PF} {Q : PV → PF → PF → Prop} (h : PN X d mX11_qDropsNots 0 [(2, 306)] [] I R Q) : PN X d mX11_qDropsNots 30 [(2, 306)] [] I R Q := by
  refine P_goto (off := (-30)) (t := 0) (by decide) (by decide +kernel) ?_
  exact h
theorem S_X11_qDropsNots_33 {X : CX} {d : Nat} {I R : PF} {Q : PV → PF → PF → Prop} (h : Q (9, 0) I R) : PN X d mX11_qDropsNots 33 [] [] I R Q := by
  refine P_vret rfl (by decide +kernel) h
theorem S_X11_qDropsToBracket_0 {X : CX} {d : Nat} {I R : PF} {Q : PV → PF → PF → Prop} (c1 : -2147483648 ≤ (I 306 106) ∧ (I 306 106) < 2147483648) (c2 : -2147483648 ≤ (I 306 108) ∧ (I 306 108) < 2147483648) (h1 : (I 306 106) ≤ (I 306 108) → PN X d mX11_qDropsToBracket 35 [] [] I R Q) (h2 : (I 306 108) < (I 306 106) → PN X d mX11_qDropsToBracket 11 [(2, 306)] [] I R Q) : PN X d mX11_qDropsToBracket 0 [(2, 306)] [] I R Q := by
  refine P_aload_n (n := 0) (q := 1) rfl rfl (by decide +kernel) ?_
  refine P_getf (q := 4) fX11_235 kM306 rfl (by decide +kernel) ?_
  refine P_aload_n (n := 0) (q := 5) rfl rfl (by decide +kernel) ?_
  refine P_getf (q := 8) fX11_241 kM306 rfl (by decide +kernel) ?_
  refine B_icmp_le (off := 27) (t := 35) (q := 11) c1 c2 (by decide) rfl (by decide +kernel) ?_ ?_
  · exact fun g9 => (PW_sub (ls' := []) trivial (h1 g9))
  · exact fun g9 => (h2 g9)
theorem S_X11_qDropsToBracket_11 {X : CX} {d d1 : Nat} {I R : PF} {Q Q1 : PV → PF → PF → Prop} (hs : Shp R) (b1 : (0 : Int) ≤ ((I 306 106) - 1) ∧ ((I 306 106) - 1) < 1700) (e1 : d1 + 1 ≤ d) (hc : CN X d1 mX11_qIsBracket [(0, (I 380 ((I 306 106) - 1)))] I R Q1) (h : ∀ z I2 R2, Q1 (0, z) I2 R2 → PN X d mX11_qDropsToBracket 25 [(2, 306)] [(0, z)] I2 R2 Q) : PN X d mX11_qDropsToBracket 11 [(2, 306)] [] I R Q := by
  refine P_aload_n (n := 0) (q := 12) rfl rfl (by decide +kernel) ?_
  refine B_getfR (q := 15) fX11_411 kM306 (rM306_105 hs) rfl (by decide +kernel) ?_
  refine P_aload_n (n := 0) (q := 16) rfl rfl (by decide +kernel) ?_
  refine P_getf (q := 19) fX11_235 kM306 rfl (by decide +kernel) ?_
  refine P_iconst (n := 1) (q := 20) rfl (by decide +kernel) ?_
  refine P_isub (q := 21) rfl (by decide +kernel) ?_
  refine B_iaload (q := 22) kM380 nM380 (by decide) b1 rfl (by decide +kernel) ?_
  refine P_invS (As := [(0, (I 380 ((I 306 106) - 1)))]) (q := 25) oX11_qIsBracket rfl (Or.inl kX11_608) e1 hMF (Nat.le_of_ble_eq_true rfl) hc rfl (by decide +kernel) (fun z I2 R2 hq => ?_)
  exact (h z I2 R2 hq)
theorem S_X11_qDropsToBracket_25 {X : CX} {d : Nat} {o0 : Int} {I R : PF} {Q : PV → PF → PF → Prop} (c1 : -2147483648 ≤ o0 ∧ o0 < 2147483648) (h1 : o0 ≠ 0 → PN X d mX11_qDropsToBracket 35 [] [] I R Q) (h2 : o0 = 0 → PN X d mX11_qDropsToBracket 28 [(2, 306)] [] I R Q) : PN X d mX11_qDropsToBracket 25 [(2, 306)] [(0, o0)] I R Q := by
  refine B_if_ne (off := 10) (t := 35) (q := 28) c1 (by decide) rfl (by decide +kernel) ?_ ?_
  · exact fun g9 => (PW_sub (ls' := []) trivial (h1 g9))
  · exact fun g9 => (h2 g9)
theorem S_X11_qDropsToBracket_28 {X : CX} {d d1 : Nat} {I R : PF} {Q Q1 : PV → PF → PF → Prop} (e1 : d1 + 1 ≤ d) (hc : CN X d1 mX11_qDrops [(2, 306)] I R Q1) (h : ∀ z I2 R2, Q1 (9, z) I2 R2 → PN X d mX11_qDropsToBracket 32 [(2, 306)] [] I2 R2 Q) : PN X d mX11_qDropsToBracket 28 [(2, 306)] [] I R Q := by
  refine P_aload_n (n := 0) (q := 29) rfl rfl (by decide +kernel) ?_
  refine P_invV (As := []) (q := 32) oX11_qDrops rfl kM306 kX11_611 e1 hMF (Nat.le_of_ble_eq_true rfl) hc rfl (by decide +kernel) (fun z I2 R2 hq => ?_)
  exact (h z I2 R2 hq)
theorem S_X11_qDropsToBracket_32 {X : CX} {d : Nat} {I R : PF} {Q : PV → PF → PF → Prop} (h : PN X d mX11_qDropsToBracket 0 [(2, 306)] [] I R Q) : PN X d mX11_qDropsToBracket 32 [(2, 306)] [] I R Q := by
  refine P_goto (off := (-32)) (t := 0) (by decide) (by decide +kernel) ?_
  exact h
theorem S_X11_qDropsToBracket_35 {X : CX} {d : Nat} {I R : PF} {Q : PV → PF → PF → Prop} (h : Q (9, 0) I R) : PN X d mX11_qDropsToBracket 35 [] [] I R Q := by
  refine P_vret rfl (by decide +kernel) h
theorem S_X11_qEndsPart_0 {X : CX} {d : Nat} {I R : PF} {Q : PV → PF → PF → Prop} (c1 : -2147483648 ≤ (I 306 5) ∧ (I 306 5) < 2147483648) (h1 : (I 306 5) ≠ 0 → PN X d mX11_qEndsPart 51 [] [] I R Q) (h2 : (I 306 5) = 0 → PN X d mX11_qEndsPart 7 [(2, 306)] [] I R Q) : PN X d mX11_qEndsPart 0 [(2, 306)] [] I R Q := by
  refine P_aload_n (n := 0) (q := 1) rfl rfl (by decide +kernel) ?_
  refine P_getf (q := 4) fX11_14 kM306 rfl (by decide +kernel) ?_
  refine B_if_ne (off := 47) (t := 51) (q := 7) c1 (by decide) rfl (by decide +kernel) ?_ ?_
  · exact fun g9 => (PW_sub (ls' := []) trivial (h1 g9))
  · exact fun g9 => (h2 g9)
theorem S_X11_qEndsPart_7 {X : CX} {d : Nat} {I R : PF} {Q : PV → PF → PF → Prop} (c1 : -2147483648 ≤ (I 306 106) ∧ (I 306 106) < 2147483648) (c2 : -2147483648 ≤ (I 306 108) ∧ (I 306 108) < 2147483648) (h1 : (I 306 106) ≤ (I 306 108) → PN X d mX11_qEndsPart 51 [] [] I R Q) (h2 : (I 306 108) < (I 306 106) → PN X d mX11_qEndsPart 18 [(2, 306)] [] I R Q) : PN X d mX11_qEndsPart 7 [(2, 306)] [] I R Q := by
  refine P_aload_n (n := 0) (q := 8) rfl rfl (by decide +kernel) ?_
  refine P_getf (q := 11) fX11_235 kM306 rfl (by decide +kernel) ?_
  refine P_aload_n (n := 0) (q := 12) rfl rfl (by decide +kernel) ?_
  refine P_getf (q := 15) fX11_241 kM306 rfl (by decide +kernel) ?_
  refine B_icmp_le (off := 36) (t := 51) (q := 18) c1 c2 (by decide) rfl (by decide +kernel) ?_ ?_
  · exact fun g9 => (PW_sub (ls' := []) trivial (h1 g9))
  · exact fun g9 => (h2 g9)
theorem S_X11_qEndsPart_18 {X : CX} {d : Nat} {I R : PF} {Q : PV → PF → PF → Prop} (hs : Shp R) (b1 : (0 : Int) ≤ ((I 306 106) - 1) ∧ ((I 306 106) - 1) < 1700) (c1 : -2147483648 ≤ (I 380 ((I 306 106) - 1)) ∧ (I 380 ((I 306 106) - 1)) < 2147483648) (h1 : (I 380 ((I 306 106) - 1)) < 60 → PN X d mX11_qEndsPart 51 [] [] I R Q) (h2 : 60 ≤ (I 380 ((I 306 106) - 1)) → PN X d mX11_qEndsPart 34 [(2, 306)] [] I R Q) : PN X d mX11_qEndsPart 18 [(2, 306)] [] I R Q := by
  refine P_aload_n (n := 0) (q := 19) rfl rfl (by decide +kernel) ?_
  refine B_getfR (q := 22) fX11_411 kM306 (rM306_105 hs) rfl (by decide +kernel) ?_
  refine P_aload_n (n := 0) (q := 23) rfl rfl (by decide +kernel) ?_
  refine P_getf (q := 26) fX11_235 kM306 rfl (by decide +kernel) ?_
  refine P_iconst (n := 1) (q := 27) rfl (by decide +kernel) ?_
  refine P_isub (q := 28) rfl (by decide +kernel) ?_
  refine B_iaload (q := 29) kM380 nM380 (by decide) b1 rfl (by decide +kernel) ?_
  refine P_bipush (n := 60) (q := 31) rfl rfl (by decide +kernel) ?_
  refine B_icmp_lt (off := 20) (t := 51) (q := 34) c1 ⟨by decide, by decide⟩ (by decide) rfl (by decide +kernel) ?_ ?_
  · exact fun g9 => (PW_sub (ls' := []) trivial (h1 g9))
  · exact fun g9 => (h2 g9)
theorem S_X11_qEndsPart_34 {X : CX} {d d1 : Nat} {I R : PF} {Q Q1 : PV → PF → PF → Prop} (e1 : d1 + 1 ≤ d) (hc : CN X d1 mX11_qDrops [(2, 306)] (u2 I 306 107 ((I 306 107) - 1)) R Q1) (h : ∀ z I2 R2, Q1 (9, z) I2 R2 → PN X d mX11_qEndsPart 48 [(2, 306)] [] I2 R2 Q) : PN X d mX11_qEndsPart 34 [(2, 306)] [] I R Q := by
  refine P_aload_n (n := 0) (q := 35) rfl rfl (by decide +kernel) ?_
  refine P_dup (q := 36) (Nat.ne_of_beq_eq_false rfl) rfl (by decide +kernel) ?_
  refine P_getf (q := 39) fX11_238 kM306 rfl (by decide +kernel) ?_
  refine P_iconst (n := 1) (q := 40) rfl (by decide +kernel) ?_
  refine P_isub (q := 41) rfl (by decide +kernel) ?_
  refine P_putI (q := 44) wX11_238 (fun h => by cases h) kM306 rfl (by decide +kernel) ?_
  refine P_aload_n (n := 0) (q := 45) rfl rfl (by decide +kernel) ?_
  refine P_invV (As := []) (q := 48) oX11_qDrops rfl kM306 kX11_611 e1 hMF (Nat.le_of_ble_eq_true rfl) hc rfl (by decide +kernel) (fun z I2 R2 hq => ?_)
  exact (h z I2 R2 hq)
theorem S_X11_qEndsPart_48 {X : CX} {d : Nat} {I R : PF} {Q : PV → PF → PF → Prop} (h : PN X d mX11_qEndsPart 0 [(2, 306)] [] I R Q) : PN X d mX11_qEndsPart 48 [(2, 306)] [] I R Q := by
  refine P_goto (off := (-48)) (t := 0) (by decide) (by decide +kernel) ?_
  exact h
theorem S_X11_qEndsPart_51 {X : CX} {d : Nat} {I R : PF} {Q : PV → PF → PF → Prop} (h : Q (9, 0) I R) : PN X d mX11_qEndsPart 51 [] [] I R Q := by
  refine P_vret rfl (by decide +kernel) h
