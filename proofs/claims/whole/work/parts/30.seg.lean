theorem S_X11_qSums_0 {X : CX} {d : Nat} {I R : PF} {Q : PV → PF → PF → Prop} (h : PN X d mX11_qSums 15 [(2, 306), (0, (I 306 108)), (0, 1)] [] (u2 I 306 108 (I 306 106)) R Q) : PN X d mX11_qSums 0 [(2, 306)] [] I R Q := by
  refine P_aload_n (n := 0) (q := 1) rfl rfl (by decide +kernel) ?_
  refine P_getf (q := 4) fX11_241 kM306 rfl (by decide +kernel) ?_
  refine P_istore_n (n := 1) (by decide) (q := 5) rfl (by decide +kernel) ?_
  refine P_aload_n (n := 0) (q := 6) rfl rfl (by decide +kernel) ?_
  refine P_aload_n (n := 0) (q := 7) rfl rfl (by decide +kernel) ?_
  refine P_getf (q := 10) fX11_235 kM306 rfl (by decide +kernel) ?_
  refine P_putI (q := 13) wX11_241 (fun h => by cases h) kM306 rfl (by decide +kernel) ?_
  refine P_iconst (n := 1) (q := 14) rfl (by decide +kernel) ?_
  refine P_istore_n (n := 2) (by decide) (q := 15) rfl (by decide +kernel) ?_
  exact h
theorem S_X11_qSums_15 {X : CX} {d : Nat} {x1 x2 : Int} {I R : PF} {Q : PV → PF → PF → Prop} (c1 : -2147483648 ≤ x2 ∧ x2 < 2147483648) (h1 : x2 = 0 → PN X d mX11_qSums 53 [(2, 306), (0, x1)] [] I R Q) (h2 : x2 ≠ 0 → PN X d mX11_qSums 19 [(2, 306), (0, x1)] [] I R Q) : PN X d mX11_qSums 15 [(2, 306), (0, x1), (0, x2)] [] I R Q := by
  refine P_iload_n (n := 2) (q := 16) rfl rfl (by decide +kernel) ?_
  refine B_if_eq (off := 37) (t := 53) (q := 19) c1 (by decide) rfl (by decide +kernel) ?_ ?_
  · exact fun g9 => (PW_sub (ls' := [(2, 306), (0, x1)]) ⟨Or.inr rfl, Or.inr rfl, trivial⟩ (h1 g9))
  · exact fun g9 => (PW_sub (ls' := [(2, 306), (0, x1)]) ⟨Or.inr rfl, Or.inr rfl, trivial⟩ (h2 g9))
theorem S_X11_qSums_19 {X : CX} {d : Nat} {x1 : Int} {I R : PF} {Q : PV → PF → PF → Prop} (c1 : -2147483648 ≤ (I 306 5) ∧ (I 306 5) < 2147483648) (h1 : (I 306 5) ≠ 0 → PN X d mX11_qSums 53 [(2, 306), (0, x1)] [] I R Q) (h2 : (I 306 5) = 0 → PN X d mX11_qSums 26 [(2, 306), (0, x1)] [] I R Q) : PN X d mX11_qSums 19 [(2, 306), (0, x1)] [] I R Q := by
  refine P_aload_n (n := 0) (q := 20) rfl rfl (by decide +kernel) ?_
  refine P_getf (q := 23) fX11_14 kM306 rfl (by decide +kernel) ?_
  refine B_if_ne (off := 30) (t := 53) (q := 26) c1 (by decide) rfl (by decide +kernel) ?_ ?_
  · exact fun g9 => (PW_sub (ls' := [(2, 306), (0, x1)]) ⟨Or.inr rfl, Or.inr rfl, trivial⟩ (h1 g9))
  · exact fun g9 => (PW_sub (ls' := [(2, 306), (0, x1)]) ⟨Or.inr rfl, Or.inr rfl, trivial⟩ (h2 g9))
theorem S_X11_qSums_26 {X : CX} {d d1 : Nat} {x1 : Int} {I R : PF} {Q Q1 : PV → PF → PF → Prop} (e1 : d1 + 1 ≤ d) (hc : CN X d1 mX11_qPartTold [(2, 306)] I R Q1) (h : ∀ z I2 R2, Q1 (9, z) I2 R2 → PN X d mX11_qSums 30 [(2, 306), (0, x1)] [] I2 R2 Q) : PN X d mX11_qSums 26 [(2, 306), (0, x1)] [] I R Q := by
  refine P_aload_n (n := 0) (q := 27) rfl rfl (by decide +kernel) ?_
  refine P_invV (As := []) (q := 30) oX11_qPartTold rfl kM306 kX11_641 e1 hMF (Nat.le_of_ble_eq_true rfl) hc rfl (by decide +kernel) (fun z I2 R2 hq => ?_)
  exact (PW_sub (ls' := [(2, 306), (0, x1)]) ⟨Or.inr rfl, Or.inr rfl, trivial⟩ (h z I2 R2 hq))
theorem S_X11_qSums_30 {X : CX} {d : Nat} {x1 : Int} {I R : PF} {Q : PV → PF → PF → Prop} (c1 : -2147483648 ≤ (I 306 5) ∧ (I 306 5) < 2147483648) (h1 : (I 306 5) ≠ 0 → PN X d mX11_qSums 48 [(2, 306), (0, x1)] [] I R Q) (h2 : (I 306 5) = 0 → PN X d mX11_qSums 37 [(2, 306), (0, x1)] [] I R Q) : PN X d mX11_qSums 30 [(2, 306), (0, x1)] [] I R Q := by
  refine P_aload_n (n := 0) (q := 31) rfl rfl (by decide +kernel) ?_
  refine P_getf (q := 34) fX11_14 kM306 rfl (by decide +kernel) ?_
  refine B_if_ne (off := 14) (t := 48) (q := 37) c1 (by decide) rfl (by decide +kernel) ?_ ?_
  · exact fun g9 => (PW_sub (ls' := [(2, 306), (0, x1)]) ⟨Or.inr rfl, Or.inr rfl, trivial⟩ (h1 g9))
  · exact fun g9 => (PW_sub (ls' := [(2, 306), (0, x1)]) ⟨Or.inr rfl, Or.inr rfl, trivial⟩ (h2 g9))
theorem S_X11_qSums_37 {X : CX} {d d1 : Nat} {x1 : Int} {I R : PF} {Q Q1 : PV → PF → PF → Prop} (e1 : d1 + 1 ≤ d) (hc : CN X d1 mX11_qGoesOn [(2, 306)] I R Q1) (h : ∀ z I2 R2, Q1 (0, z) I2 R2 → PN X d mX11_qSums 41 [(2, 306), (0, x1)] [(0, z)] I2 R2 Q) : PN X d mX11_qSums 37 [(2, 306), (0, x1)] [] I R Q := by
  refine P_aload_n (n := 0) (q := 38) rfl rfl (by decide +kernel) ?_
  refine P_invV (As := []) (q := 41) oX11_qGoesOn rfl kM306 kX11_644 e1 hMF (Nat.le_of_ble_eq_true rfl) hc rfl (by decide +kernel) (fun z I2 R2 hq => ?_)
  exact (PW_sub (ls' := [(2, 306), (0, x1)]) ⟨Or.inr rfl, Or.inr rfl, trivial⟩ (h z I2 R2 hq))
theorem S_X11_qSums_41 {X : CX} {d : Nat} {x1 o0 : Int} {I R : PF} {Q : PV → PF → PF → Prop} (c1 : -2147483648 ≤ o0 ∧ o0 < 2147483648) (h1 : o0 = 0 → PN X d mX11_qSums 48 [(2, 306), (0, x1)] [] I R Q) (h2 : o0 ≠ 0 → PN X d mX11_qSums 44 [(2, 306), (0, x1)] [] I R Q) : PN X d mX11_qSums 41 [(2, 306), (0, x1)] [(0, o0)] I R Q := by
  refine B_if_eq (off := 7) (t := 48) (q := 44) c1 (by decide) rfl (by decide +kernel) ?_ ?_
  · exact fun g9 => (PW_sub (ls' := [(2, 306), (0, x1)]) ⟨Or.inr rfl, Or.inr rfl, trivial⟩ (h1 g9))
  · exact fun g9 => (PW_sub (ls' := [(2, 306), (0, x1)]) ⟨Or.inr rfl, Or.inr rfl, trivial⟩ (h2 g9))
theorem S_X11_qSums_44 {X : CX} {d : Nat} {x1 : Int} {I R : PF} {Q : PV → PF → PF → Prop} (h : PN X d mX11_qSums 49 [(2, 306), (0, x1)] [(0, 1)] I R Q) : PN X d mX11_qSums 44 [(2, 306), (0, x1)] [] I R Q := by
  refine P_iconst (n := 1) (q := 45) rfl (by decide +kernel) ?_
  refine P_goto (off := 4) (t := 49) (by decide) (by decide +kernel) ?_
  exact (PW_sub (ls' := [(2, 306), (0, x1)]) ⟨Or.inr rfl, Or.inr rfl, trivial⟩ h)
theorem S_X11_qSums_48 {X : CX} {d : Nat} {x1 : Int} {I R : PF} {Q : PV → PF → PF → Prop} (h : PN X d mX11_qSums 49 [(2, 306), (0, x1)] [(0, 0)] I R Q) : PN X d mX11_qSums 48 [(2, 306), (0, x1)] [] I R Q := by
  refine P_iconst (n := 0) (q := 49) rfl (by decide +kernel) ?_
  exact (PW_sub (ls' := [(2, 306), (0, x1)]) ⟨Or.inr rfl, Or.inr rfl, trivial⟩ h)
theorem S_X11_qSums_49 {X : CX} {d : Nat} {x1 o0 : Int} {I R : PF} {Q : PV → PF → PF → Prop} (h : PN X d mX11_qSums 15 [(2, 306), (0, x1), (0, o0)] [] I R Q) : PN X d mX11_qSums 49 [(2, 306), (0, x1)] [(0, o0)] I R Q := by
  refine P_istore_n (n := 2) (by decide) (q := 50) rfl (by decide +kernel) ?_
  refine P_goto (off := (-35)) (t := 15) (by decide) (by decide +kernel) ?_
  exact h
theorem S_X11_qSums_53 {X : CX} {d : Nat} {x1 : Int} {I R : PF} {Q : PV → PF → PF → Prop} (c1 : -2147483648 ≤ (I 306 5) ∧ (I 306 5) < 2147483648) (h1 : (I 306 5) ≠ 0 → PN X d mX11_qSums 78 [(2, 306), (0, x1)] [] I R Q) (h2 : (I 306 5) = 0 → PN X d mX11_qSums 60 [(2, 306), (0, x1)] [] I R Q) : PN X d mX11_qSums 53 [(2, 306), (0, x1)] [] I R Q := by
  refine P_aload_n (n := 0) (q := 54) rfl rfl (by decide +kernel) ?_
  refine P_getf (q := 57) fX11_14 kM306 rfl (by decide +kernel) ?_
  refine B_if_ne (off := 21) (t := 78) (q := 60) c1 (by decide) rfl (by decide +kernel) ?_ ?_
  · exact fun g9 => (PW_sub (ls' := [(2, 306), (0, x1)]) ⟨Or.inr rfl, Or.inr rfl, trivial⟩ (h1 g9))
  · exact fun g9 => (PW_sub (ls' := [(2, 306), (0, x1)]) ⟨Or.inr rfl, Or.inr rfl, trivial⟩ (h2 g9))
theorem S_X11_qSums_60 {X : CX} {d : Nat} {x1 : Int} {I R : PF} {Q : PV → PF → PF → Prop} (c1 : -2147483648 ≤ (I 306 106) ∧ (I 306 106) < 2147483648) (c2 : -2147483648 ≤ (I 306 108) ∧ (I 306 108) < 2147483648) (h1 : (I 306 106) ≤ (I 306 108) → PN X d mX11_qSums 78 [(2, 306), (0, x1)] [] I R Q) (h2 : (I 306 108) < (I 306 106) → PN X d mX11_qSums 71 [(2, 306), (0, x1)] [] I R Q) : PN X d mX11_qSums 60 [(2, 306), (0, x1)] [] I R Q := by
  refine P_aload_n (n := 0) (q := 61) rfl rfl (by decide +kernel) ?_
  refine P_getf (q := 64) fX11_235 kM306 rfl (by decide +kernel) ?_
  refine P_aload_n (n := 0) (q := 65) rfl rfl (by decide +kernel) ?_
  refine P_getf (q := 68) fX11_241 kM306 rfl (by decide +kernel) ?_
  refine B_icmp_le (off := 10) (t := 78) (q := 71) c1 c2 (by decide) rfl (by decide +kernel) ?_ ?_
  · exact fun g9 => (PW_sub (ls' := [(2, 306), (0, x1)]) ⟨Or.inr rfl, Or.inr rfl, trivial⟩ (h1 g9))
  · exact fun g9 => (PW_sub (ls' := [(2, 306), (0, x1)]) ⟨Or.inr rfl, Or.inr rfl, trivial⟩ (h2 g9))
theorem S_X11_qSums_71 {X : CX} {d d1 : Nat} {x1 : Int} {I R : PF} {Q Q1 : PV → PF → PF → Prop} (e1 : d1 + 1 ≤ d) (hc : CN X d1 mX11_qDrops [(2, 306)] I R Q1) (h : ∀ z I2 R2, Q1 (9, z) I2 R2 → PN X d mX11_qSums 75 [(2, 306), (0, x1)] [] I2 R2 Q) : PN X d mX11_qSums 71 [(2, 306), (0, x1)] [] I R Q := by
  refine P_aload_n (n := 0) (q := 72) rfl rfl (by decide +kernel) ?_
  refine P_invV (As := []) (q := 75) oX11_qDrops rfl kM306 kX11_611 e1 hMF (Nat.le_of_ble_eq_true rfl) hc rfl (by decide +kernel) (fun z I2 R2 hq => ?_)
  exact (PW_sub (ls' := [(2, 306), (0, x1)]) ⟨Or.inr rfl, Or.inr rfl, trivial⟩ (h z I2 R2 hq))
theorem S_X11_qSums_75 {X : CX} {d : Nat} {x1 : Int} {I R : PF} {Q : PV → PF → PF → Prop} (h : PN X d mX11_qSums 53 [(2, 306), (0, x1)] [] I R Q) : PN X d mX11_qSums 75 [(2, 306), (0, x1)] [] I R Q := by
  refine P_goto (off := (-22)) (t := 53) (by decide) (by decide +kernel) ?_
  exact (PW_sub (ls' := [(2, 306), (0, x1)]) ⟨Or.inr rfl, Or.inr rfl, trivial⟩ h)
theorem S_X11_qSums_78 {X : CX} {d : Nat} {x1 : Int} {I R : PF} {Q : PV → PF → PF → Prop} (h : Q (9, 0) (u2 I 306 108 x1) R) : PN X d mX11_qSums 78 [(2, 306), (0, x1)] [] I R Q := by
  refine P_aload_n (n := 0) (q := 79) rfl rfl (by decide +kernel) ?_
  refine P_iload_n (n := 1) (q := 80) rfl rfl (by decide +kernel) ?_
  refine P_putI (q := 83) wX11_241 (fun h => by cases h) kM306 rfl (by decide +kernel) ?_
  refine P_vret rfl (by decide +kernel) h
theorem S_X11_qTakes_0 {X : CX} {d : Nat} {x1 y2 x4 : Int} {I R : PF} {Q : PV → PF → PF → Prop} (c1 : -2147483648 ≤ x1 ∧ x1 < 2147483648) (h1 : 3 ≤ x1 → PN X d mX11_qTakes 15 [(2, 306), (0, x1), (1, y2), (9, 0), (0, x4)] [] I R Q) (h2 : x1 < 3 → PN X d mX11_qTakes 5 [(2, 306), (0, x1), (1, y2), (9, 0), (0, x4)] [] I R Q) : PN X d mX11_qTakes 0 [(2, 306), (0, x1), (1, y2), (9, 0), (0, x4)] [] I R Q := by
  refine P_iload_n (n := 1) (q := 1) rfl rfl (by decide +kernel) ?_
  refine P_iconst (n := 3) (q := 2) rfl (by decide +kernel) ?_
  refine B_icmp_ge (off := 13) (t := 15) (q := 5) c1 ⟨by decide, by decide⟩ (by decide) rfl (by decide +kernel) ?_ ?_
  · exact fun g9 => (h1 g9)
  · exact fun g9 => (h2 g9)
theorem S_X11_qTakes_5 {X : CX} {d : Nat} {x1 y2 x4 : Int} {I R : PF} {Q : PV → PF → PF → Prop} (c1 : -9223372036854775808 ≤ y2 ∧ y2 < 9223372036854775808) (h1 : y2 ≠ 1 → PN X d mX11_qTakes 15 [(2, 306), (0, x1), (1, y2), (9, 0), (0, x4)] [] I R Q) (h2 : y2 = 1 → PN X d mX11_qTakes 11 [(2, 306), (0, x1), (1, y2), (9, 0), (0, x4)] [] I R Q) : PN X d mX11_qTakes 5 [(2, 306), (0, x1), (1, y2), (9, 0), (0, x4)] [] I R Q := by
  refine P_lload_n (n := 2) (q := 6) rfl rfl (by decide +kernel) ?_
  refine P_lconst (n := 1) (x := 1) (q := 7) rfl rfl (by decide +kernel) ?_
  refine B_lif_ne (off := 7) (t := 15) (q1 := 8) (q := 11) c1 ⟨by decide, by decide⟩ rfl (by decide +kernel) (by decide) rfl (by decide +kernel) ?_ ?_
  · exact fun g9 => (h1 g9)
  · exact fun g9 => (h2 g9)
theorem S_X11_qTakes_11 {X : CX} {d : Nat} {x1 y2 x4 : Int} {I R : PF} {Q : PV → PF → PF → Prop} (h : PN X d mX11_qTakes 16 [(2, 306), (0, x1), (1, y2), (9, 0), (0, x4)] [(0, 1)] I R Q) : PN X d mX11_qTakes 11 [(2, 306), (0, x1), (1, y2), (9, 0), (0, x4)] [] I R Q := by
  refine P_iconst (n := 1) (q := 12) rfl (by decide +kernel) ?_
  refine P_goto (off := 4) (t := 16) (by decide) (by decide +kernel) ?_
  exact h
theorem S_X11_qTakes_15 {X : CX} {d : Nat} {x1 y2 x4 : Int} {I R : PF} {Q : PV → PF → PF → Prop} (h : PN X d mX11_qTakes 16 [(2, 306), (0, x1), (1, y2), (9, 0), (0, x4)] [(0, 0)] I R Q) : PN X d mX11_qTakes 15 [(2, 306), (0, x1), (1, y2), (9, 0), (0, x4)] [] I R Q := by
  refine P_iconst (n := 0) (q := 16) rfl (by decide +kernel) ?_
  exact h
theorem S_X11_qTakes_16 {X : CX} {d : Nat} {x1 y2 x4 o0 : Int} {I R : PF} {Q : PV → PF → PF → Prop} (c1 : -2147483648 ≤ x1 ∧ x1 < 2147483648) (h1 : x1 ≠ 0 → PN X d mX11_qTakes 38 [(2, 306), (0, x1), (1, y2), (9, 0), (0, x4), (0, o0)] [] I R Q) (h2 : x1 = 0 → PN X d mX11_qTakes 22 [(2, 306), (0, x1), (1, y2), (9, 0), (0, x4), (0, o0)] [] I R Q) : PN X d mX11_qTakes 16 [(2, 306), (0, x1), (1, y2), (9, 0), (0, x4)] [(0, o0)] I R Q := by
  refine P_istore (n := 5) (by decide) (q := 18) rfl (by decide +kernel) ?_
  refine P_iload_n (n := 1) (q := 19) rfl rfl (by decide +kernel) ?_
  refine B_if_ne (off := 19) (t := 38) (q := 22) c1 (by decide) rfl (by decide +kernel) ?_ ?_
  · exact fun g9 => (h1 g9)
  · exact fun g9 => (h2 g9)
theorem S_X11_qTakes_22 {X : CX} {d : Nat} {x1 y2 x4 x5 : Int} {I R : PF} {Q : PV → PF → PF → Prop} (c1 : -2147483648 ≤ x5 ∧ x5 < 2147483648) (h1 : x5 = 0 → PN X d mX11_qTakes 38 [(2, 306), (0, x1), (1, y2), (9, 0), (0, x4), (0, x5)] [] I R Q) (h2 : x5 ≠ 0 → PN X d mX11_qTakes 27 [(2, 306), (0, x1), (1, y2), (9, 0), (0, x4), (0, x5)] [] I R Q) : PN X d mX11_qTakes 22 [(2, 306), (0, x1), (1, y2), (9, 0), (0, x4), (0, x5)] [] I R Q := by
  refine P_iload (n := 5) (q := 24) rfl rfl (by decide +kernel) ?_
  refine B_if_eq (off := 14) (t := 38) (q := 27) c1 (by decide) rfl (by decide +kernel) ?_ ?_
  · exact fun g9 => (h1 g9)
  · exact fun g9 => (h2 g9)
theorem S_X11_qTakes_27 {X : CX} {d : Nat} {x1 y2 x4 x5 : Int} {I R : PF} {Q : PV → PF → PF → Prop} (c1 : -9223372036854775808 ≤ (I 306 111) ∧ (I 306 111) < 9223372036854775808) (h1 : (I 306 111) = (-1) → PN X d mX11_qTakes 48 [(2, 306), (0, x1), (1, y2), (9, 0), (0, x4), (0, x5)] [] I R Q) (h2 : (I 306 111) ≠ (-1) → PN X d mX11_qTakes 38 [(2, 306), (0, x1), (1, y2), (9, 0), (0, x4), (0, x5)] [] I R Q) : PN X d mX11_qTakes 27 [(2, 306), (0, x1), (1, y2), (9, 0), (0, x4), (0, x5)] [] I R Q := by
  refine P_aload_n (n := 0) (q := 28) rfl rfl (by decide +kernel) ?_
  refine P_getf (q := 31) fX11_678 kM306 rfl (by decide +kernel) ?_
  refine P_ldc2 (ix := 681) (v := (-1)) (x := (-1)) (q := 34) rfl (tGp9 26 rfl rfl) rfl (by decide +kernel) ?_
  refine B_lif_eq (off := 13) (t := 48) (q1 := 35) (q := 38) c1 ⟨by decide, by decide⟩ rfl (by decide +kernel) (by decide) rfl (by decide +kernel) ?_ ?_
  · exact fun g9 => (h1 g9)
  · exact fun g9 => (h2 g9)
theorem S_X11_qTakes_38 {X : CX} {d : Nat} {x1 y2 x4 x5 : Int} {I R : PF} {Q : PV → PF → PF → Prop} (c1 : -2147483648 ≤ x1 ∧ x1 < 2147483648) (h1 : x1 ≠ 1 → PN X d mX11_qTakes 55 [(2, 306), (0, x1), (1, y2), (9, 0), (9, 0), (0, x5)] [] I R Q) (h2 : x1 = 1 → PN X d mX11_qTakes 43 [(2, 306), (0, x1), (1, y2), (9, 0), (0, x4), (0, x5)] [] I R Q) : PN X d mX11_qTakes 38 [(2, 306), (0, x1), (1, y2), (9, 0), (0, x4), (0, x5)] [] I R Q := by
  refine P_iload_n (n := 1) (q := 39) rfl rfl (by decide +kernel) ?_
  refine P_iconst (n := 1) (q := 40) rfl (by decide +kernel) ?_
  refine B_icmp_ne (off := 15) (t := 55) (q := 43) c1 ⟨by decide, by decide⟩ (by decide) rfl (by decide +kernel) ?_ ?_
  · exact fun g9 => (PW_sub (ls' := [(2, 306), (0, x1), (1, y2), (9, 0), (9, 0), (0, x5)]) ⟨Or.inr rfl, Or.inr rfl, Or.inr rfl, Or.inl rfl, Or.inl rfl, Or.inr rfl, trivial⟩ (h1 g9))
  · exact fun g9 => (h2 g9)
theorem S_X11_qTakes_43 {X : CX} {d : Nat} {x1 y2 x4 x5 : Int} {I R : PF} {Q : PV → PF → PF → Prop} (c1 : -2147483648 ≤ x5 ∧ x5 < 2147483648) (h1 : x5 = 0 → PN X d mX11_qTakes 55 [(2, 306), (0, x1), (1, y2), (9, 0), (9, 0), (0, x5)] [] I R Q) (h2 : x5 ≠ 0 → PN X d mX11_qTakes 48 [(2, 306), (0, x1), (1, y2), (9, 0), (0, x4), (0, x5)] [] I R Q) : PN X d mX11_qTakes 43 [(2, 306), (0, x1), (1, y2), (9, 0), (0, x4), (0, x5)] [] I R Q := by
  refine P_iload (n := 5) (q := 45) rfl rfl (by decide +kernel) ?_
  refine B_if_eq (off := 10) (t := 55) (q := 48) c1 (by decide) rfl (by decide +kernel) ?_ ?_
  · exact fun g9 => (PW_sub (ls' := [(2, 306), (0, x1), (1, y2), (9, 0), (9, 0), (0, x5)]) ⟨Or.inr rfl, Or.inr rfl, Or.inr rfl, Or.inl rfl, Or.inl rfl, Or.inr rfl, trivial⟩ (h1 g9))
  · exact fun g9 => (h2 g9)
theorem S_X11_qTakes_48 {X : CX} {d : Nat} {x1 y2 x4 x5 : Int} {I R : PF} {Q : PV → PF → PF → Prop} (c1 : -2147483648 ≤ x4 ∧ x4 < 2147483648) (h : PN X d mX11_qTakes 55 [(2, 306), (0, x1), (1, y2), (9, 0), (9, 0), (0, x5)] [] (u2 I 306 111 x4) R Q) : PN X d mX11_qTakes 48 [(2, 306), (0, x1), (1, y2), (9, 0), (0, x4), (0, x5)] [] I R Q := by
  refine P_aload_n (n := 0) (q := 49) rfl rfl (by decide +kernel) ?_
  refine P_iload (n := 4) (q := 51) rfl rfl (by decide +kernel) ?_
  refine B_i2l (q := 52) c1 rfl (by decide +kernel) ?_
  refine P_putL (q := 55) wX11_678 (fun h => by cases h) kM306 rfl (by decide +kernel) ?_
  exact (PW_sub (ls' := [(2, 306), (0, x1), (1, y2), (9, 0), (9, 0), (0, x5)]) ⟨Or.inr rfl, Or.inr rfl, Or.inr rfl, Or.inl rfl, Or.inl rfl, Or.inr rfl, trivial⟩ h)
theorem S_X11_qTakes_55 {X : CX} {d : Nat} {x1 y2 x5 : Int} {I R : PF} {Q : PV → PF → PF → Prop} (c1 : -2147483648 ≤ x1 ∧ x1 < 2147483648) (h1 : x1 ≠ 2 → PN X d mX11_qTakes 75 [(2, 306), (0, x1), (1, y2)] [] I R Q) (h2 : x1 = 2 → PN X d mX11_qTakes 60 [(2, 306), (0, x1), (1, y2), (9, 0), (9, 0), (0, x5)] [] I R Q) : PN X d mX11_qTakes 55 [(2, 306), (0, x1), (1, y2), (9, 0), (9, 0), (0, x5)] [] I R Q := by
  refine P_iload_n (n := 1) (q := 56) rfl rfl (by decide +kernel) ?_
  refine P_iconst (n := 2) (q := 57) rfl (by decide +kernel) ?_
  refine B_icmp_ne (off := 18) (t := 75) (q := 60) c1 ⟨by decide, by decide⟩ (by decide) rfl (by decide +kernel) ?_ ?_
  · exact fun g9 => (PW_sub (ls' := [(2, 306), (0, x1), (1, y2)]) ⟨Or.inr rfl, Or.inr rfl, Or.inr rfl, trivial⟩ (h1 g9))
  · exact fun g9 => (h2 g9)
theorem S_X11_qTakes_60 {X : CX} {d : Nat} {x1 y2 x5 : Int} {I R : PF} {Q : PV → PF → PF → Prop} (c1 : -2147483648 ≤ x5 ∧ x5 < 2147483648) (h1 : x5 = 0 → PN X d mX11_qTakes 75 [(2, 306), (0, x1), (1, y2)] [] I R Q) (h2 : x5 ≠ 0 → PN X d mX11_qTakes 65 [(2, 306), (0, x1), (1, y2)] [] I R Q) : PN X d mX11_qTakes 60 [(2, 306), (0, x1), (1, y2), (9, 0), (9, 0), (0, x5)] [] I R Q := by
  refine P_iload (n := 5) (q := 62) rfl rfl (by decide +kernel) ?_
  refine B_if_eq (off := 13) (t := 75) (q := 65) c1 (by decide) rfl (by decide +kernel) ?_ ?_
  · exact fun g9 => (PW_sub (ls' := [(2, 306), (0, x1), (1, y2)]) ⟨Or.inr rfl, Or.inr rfl, Or.inr rfl, trivial⟩ (h1 g9))
  · exact fun g9 => (PW_sub (ls' := [(2, 306), (0, x1), (1, y2)]) ⟨Or.inr rfl, Or.inr rfl, Or.inr rfl, trivial⟩ (h2 g9))
theorem S_X11_qTakes_65 {X : CX} {d : Nat} {x1 y2 : Int} {I R : PF} {Q : PV → PF → PF → Prop} (h : PN X d mX11_qTakes 75 [(2, 306), (0, x1), (1, y2)] [] (u2 I 306 111 ((I 306 111) + 1)) R Q) : PN X d mX11_qTakes 65 [(2, 306), (0, x1), (1, y2)] [] I R Q := by
  refine P_aload_n (n := 0) (q := 66) rfl rfl (by decide +kernel) ?_
  refine P_dup (q := 67) (Nat.ne_of_beq_eq_false rfl) rfl (by decide +kernel) ?_
  refine P_getf (q := 70) fX11_678 kM306 rfl (by decide +kernel) ?_
  refine P_lconst (n := 1) (x := 1) (q := 71) rfl rfl (by decide +kernel) ?_
  refine P_ladd (q := 72) rfl (by decide +kernel) ?_
  refine P_putL (q := 75) wX11_678 (fun h => by cases h) kM306 rfl (by decide +kernel) ?_
  exact (PW_sub (ls' := [(2, 306), (0, x1), (1, y2)]) ⟨Or.inr rfl, Or.inr rfl, Or.inr rfl, trivial⟩ h)
theorem S_X11_qTakes_75 {X : CX} {d : Nat} {x1 y2 : Int} {I R : PF} {Q : PV → PF → PF → Prop} (c1 : -2147483648 ≤ x1 ∧ x1 < 2147483648) (h1 : x1 ≠ 3 → PN X d mX11_qTakes 90 [(2, 306), (0, x1), (1, y2)] [] I R Q) (h2 : x1 = 3 → PN X d mX11_qTakes 80 [(2, 306), (0, x1), (1, y2)] [] I R Q) : PN X d mX11_qTakes 75 [(2, 306), (0, x1), (1, y2)] [] I R Q := by
  refine P_iload_n (n := 1) (q := 76) rfl rfl (by decide +kernel) ?_
  refine P_iconst (n := 3) (q := 77) rfl (by decide +kernel) ?_
  refine B_icmp_ne (off := 13) (t := 90) (q := 80) c1 ⟨by decide, by decide⟩ (by decide) rfl (by decide +kernel) ?_ ?_
  · exact fun g9 => (PW_sub (ls' := [(2, 306), (0, x1), (1, y2)]) ⟨Or.inr rfl, Or.inr rfl, Or.inr rfl, trivial⟩ (h1 g9))
  · exact fun g9 => (PW_sub (ls' := [(2, 306), (0, x1), (1, y2)]) ⟨Or.inr rfl, Or.inr rfl, Or.inr rfl, trivial⟩ (h2 g9))
theorem S_X11_qTakes_80 {X : CX} {d : Nat} {x1 y2 : Int} {I R : PF} {Q : PV → PF → PF → Prop} (h : PN X d mX11_qTakes 90 [(2, 306), (0, x1), (1, y2)] [] (u2 I 306 111 ((I 306 111) + y2)) R Q) : PN X d mX11_qTakes 80 [(2, 306), (0, x1), (1, y2)] [] I R Q := by
  refine P_aload_n (n := 0) (q := 81) rfl rfl (by decide +kernel) ?_
  refine P_dup (q := 82) (Nat.ne_of_beq_eq_false rfl) rfl (by decide +kernel) ?_
  refine P_getf (q := 85) fX11_678 kM306 rfl (by decide +kernel) ?_
  refine P_lload_n (n := 2) (q := 86) rfl rfl (by decide +kernel) ?_
  refine P_ladd (q := 87) rfl (by decide +kernel) ?_
  refine P_putL (q := 90) wX11_678 (fun h => by cases h) kM306 rfl (by decide +kernel) ?_
  exact (PW_sub (ls' := [(2, 306), (0, x1), (1, y2)]) ⟨Or.inr rfl, Or.inr rfl, Or.inr rfl, trivial⟩ h)
theorem S_X11_qTakes_90 {X : CX} {d : Nat} {x1 y2 : Int} {I R : PF} {Q : PV → PF → PF → Prop} (c1 : -2147483648 ≤ x1 ∧ x1 < 2147483648) (h1 : x1 ≤ 3 → PN X d mX11_qTakes 133 [(2, 306)] [] I R Q) (h2 : 3 < x1 → PN X d mX11_qTakes 95 [(2, 306), (0, x1), (1, y2)] [] I R Q) : PN X d mX11_qTakes 90 [(2, 306), (0, x1), (1, y2)] [] I R Q := by
  refine P_iload_n (n := 1) (q := 91) rfl rfl (by decide +kernel) ?_
  refine P_iconst (n := 3) (q := 92) rfl (by decide +kernel) ?_
  refine B_icmp_le (off := 41) (t := 133) (q := 95) c1 ⟨by decide, by decide⟩ (by decide) rfl (by decide +kernel) ?_ ?_
  · exact fun g9 => (PW_sub (ls' := [(2, 306)]) ⟨Or.inr rfl, trivial⟩ (h1 g9))
  · exact fun g9 => (PW_sub (ls' := [(2, 306), (0, x1), (1, y2)]) ⟨Or.inr rfl, Or.inr rfl, Or.inr rfl, trivial⟩ (h2 g9))
theorem S_X11_qTakes_95 {X : CX} {d : Nat} {x1 y2 : Int} {I R : PF} {Q : PV → PF → PF → Prop} (c1 : -2147483648 ≤ (I 306 112) ∧ (I 306 112) < 2147483648) (h1 : (I 306 112) ≠ 0 → PN X d mX11_qTakes 128 [(2, 306), (9, 0), (1, y2)] [] I R Q) (h2 : (I 306 112) = 0 → PN X d mX11_qTakes 102 [(2, 306), (0, x1), (1, y2)] [] I R Q) : PN X d mX11_qTakes 95 [(2, 306), (0, x1), (1, y2)] [] I R Q := by
  refine P_aload_n (n := 0) (q := 96) rfl rfl (by decide +kernel) ?_
  refine P_getf (q := 99) fX11_683 kM306 rfl (by decide +kernel) ?_
  refine B_if_ne (off := 29) (t := 128) (q := 102) c1 (by decide) rfl (by decide +kernel) ?_ ?_
  · exact fun g9 => (PW_sub (ls' := [(2, 306), (9, 0), (1, y2)]) ⟨Or.inr rfl, Or.inl rfl, Or.inr rfl, trivial⟩ (h1 g9))
  · exact fun g9 => (PW_sub (ls' := [(2, 306), (0, x1), (1, y2)]) ⟨Or.inr rfl, Or.inr rfl, Or.inr rfl, trivial⟩ (h2 g9))
theorem S_X11_qTakes_102 {X : CX} {d : Nat} {x1 y2 : Int} {I R : PF} {Q : PV → PF → PF → Prop} (c1 : -2147483648 ≤ x1 ∧ x1 < 2147483648) (h1 : x1 ≠ 4 → PN X d mX11_qTakes 119 [(2, 306), (9, 0), (1, y2)] [] I R Q) (h2 : x1 = 4 → PN X d mX11_qTakes 107 [(2, 306), (9, 0), (1, y2)] [] I R Q) : PN X d mX11_qTakes 102 [(2, 306), (0, x1), (1, y2)] [] I R Q := by
  refine P_iload_n (n := 1) (q := 103) rfl rfl (by decide +kernel) ?_
  refine P_iconst (n := 4) (q := 104) rfl (by decide +kernel) ?_
  refine B_icmp_ne (off := 15) (t := 119) (q := 107) c1 ⟨by decide, by decide⟩ (by decide) rfl (by decide +kernel) ?_ ?_
  · exact fun g9 => (PW_sub (ls' := [(2, 306), (9, 0), (1, y2)]) ⟨Or.inr rfl, Or.inl rfl, Or.inr rfl, trivial⟩ (h1 g9))
  · exact fun g9 => (PW_sub (ls' := [(2, 306), (9, 0), (1, y2)]) ⟨Or.inr rfl, Or.inl rfl, Or.inr rfl, trivial⟩ (h2 g9))
theorem S_X11_qTakes_107 {X : CX} {d : Nat} {y2 : Int} {I R : PF} {Q : PV → PF → PF → Prop} (c1 : -9223372036854775808 ≤ y2 ∧ y2 < 9223372036854775808) (c2 : -9223372036854775808 ≤ (I 306 111) ∧ (I 306 111) < 9223372036854775808) (h1 : y2 ≤ (I 306 111) → PN X d mX11_qTakes 133 [(2, 306)] [] I R Q) (h2 : (I 306 111) < y2 → PN X d mX11_qTakes 116 [(2, 306), (9, 0), (1, y2)] [] I R Q) : PN X d mX11_qTakes 107 [(2, 306), (9, 0), (1, y2)] [] I R Q := by
  refine P_lload_n (n := 2) (q := 108) rfl rfl (by decide +kernel) ?_
  refine P_aload_n (n := 0) (q := 109) rfl rfl (by decide +kernel) ?_
  refine P_getf (q := 112) fX11_678 kM306 rfl (by decide +kernel) ?_
  refine B_lif_le (off := 20) (t := 133) (q1 := 113) (q := 116) c1 c2 rfl (by decide +kernel) (by decide) rfl (by decide +kernel) ?_ ?_
  · exact fun g9 => (PW_sub (ls' := [(2, 306)]) ⟨Or.inr rfl, trivial⟩ (h1 g9))
  · exact fun g9 => (PW_sub (ls' := [(2, 306), (9, 0), (1, y2)]) ⟨Or.inr rfl, Or.inl rfl, Or.inr rfl, trivial⟩ (h2 g9))
theorem S_X11_qTakes_116 {X : CX} {d : Nat} {y2 : Int} {I R : PF} {Q : PV → PF → PF → Prop} (h : PN X d mX11_qTakes 128 [(2, 306), (9, 0), (1, y2)] [] I R Q) : PN X d mX11_qTakes 116 [(2, 306), (9, 0), (1, y2)] [] I R Q := by
  refine P_goto (off := 12) (t := 128) (by decide) (by decide +kernel) ?_
  exact (PW_sub (ls' := [(2, 306), (9, 0), (1, y2)]) ⟨Or.inr rfl, Or.inl rfl, Or.inr rfl, trivial⟩ h)
theorem S_X11_qTakes_119 {X : CX} {d : Nat} {y2 : Int} {I R : PF} {Q : PV → PF → PF → Prop} (c1 : -9223372036854775808 ≤ y2 ∧ y2 < 9223372036854775808) (c2 : -9223372036854775808 ≤ (I 306 111) ∧ (I 306 111) < 9223372036854775808) (h1 : (I 306 111) ≤ y2 → PN X d mX11_qTakes 133 [(2, 306)] [] I R Q) (h2 : y2 < (I 306 111) → PN X d mX11_qTakes 128 [(2, 306), (9, 0), (1, y2)] [] I R Q) : PN X d mX11_qTakes 119 [(2, 306), (9, 0), (1, y2)] [] I R Q := by
  refine P_lload_n (n := 2) (q := 120) rfl rfl (by decide +kernel) ?_
  refine P_aload_n (n := 0) (q := 121) rfl rfl (by decide +kernel) ?_
  refine P_getf (q := 124) fX11_678 kM306 rfl (by decide +kernel) ?_
  refine B_lif_ge (off := 8) (t := 133) (q1 := 125) (q := 128) c1 c2 rfl (by decide +kernel) (by decide) rfl (by decide +kernel) ?_ ?_
  · exact fun g9 => (PW_sub (ls' := [(2, 306)]) ⟨Or.inr rfl, trivial⟩ (h1 g9))
  · exact fun g9 => (PW_sub (ls' := [(2, 306), (9, 0), (1, y2)]) ⟨Or.inr rfl, Or.inl rfl, Or.inr rfl, trivial⟩ (h2 g9))
theorem S_X11_qTakes_128 {X : CX} {d : Nat} {y2 : Int} {I R : PF} {Q : PV → PF → PF → Prop} (h : PN X d mX11_qTakes 133 [(2, 306)] [] (u2 I 306 111 y2) R Q) : PN X d mX11_qTakes 128 [(2, 306), (9, 0), (1, y2)] [] I R Q := by
  refine P_aload_n (n := 0) (q := 129) rfl rfl (by decide +kernel) ?_
  refine P_lload_n (n := 2) (q := 130) rfl rfl (by decide +kernel) ?_
  refine P_putL (q := 133) wX11_678 (fun h => by cases h) kM306 rfl (by decide +kernel) ?_
  exact (PW_sub (ls' := [(2, 306)]) ⟨Or.inr rfl, trivial⟩ h)
theorem S_X11_qTakes_133 {X : CX} {d : Nat} {I R : PF} {Q : PV → PF → PF → Prop} (h : Q (9, 0) (u2 I 306 112 0) R) : PN X d mX11_qTakes 133 [(2, 306)] [] I R Q := by
  refine P_aload_n (n := 0) (q := 134) rfl rfl (by decide +kernel) ?_
  refine P_iconst (n := 0) (q := 135) rfl (by decide +kernel) ?_
  refine P_putZ (q := 138) wX11_683 (fun h => by cases h) (Or.inl rfl) kM306 rfl (by decide +kernel) ?_
  refine P_vret rfl (by decide +kernel) h
theorem S_X11_qTest_0 {X : CX} {d : Nat} {I R : PF} {Q : PV → PF → PF → Prop} (h : PN X d mX11_qTest 2 [(2, 306), (0, 1)] [] I R Q) : PN X d mX11_qTest 0 [(2, 306)] [] I R Q := by
  refine P_iconst (n := 1) (q := 1) rfl (by decide +kernel) ?_
  refine P_istore_n (n := 1) (by decide) (q := 2) rfl (by decide +kernel) ?_
  exact h
theorem S_X11_qTest_2 {X : CX} {d : Nat} {x1 : Int} {I R : PF} {Q : PV → PF → PF → Prop} (c1 : -2147483648 ≤ x1 ∧ x1 < 2147483648) (h1 : x1 = 0 → PN X d mX11_qTest 110 [(2, 306)] [] I R Q) (h2 : x1 ≠ 0 → PN X d mX11_qTest 6 [(2, 306), (0, x1)] [] I R Q) : PN X d mX11_qTest 2 [(2, 306), (0, x1)] [] I R Q := by
  refine P_iload_n (n := 1) (q := 3) rfl rfl (by decide +kernel) ?_
  refine B_if_eq (off := 107) (t := 110) (q := 6) c1 (by decide) rfl (by decide +kernel) ?_ ?_
  · exact fun g9 => (PW_sub (ls' := [(2, 306)]) ⟨Or.inr rfl, trivial⟩ (h1 g9))
  · exact fun g9 => (h2 g9)
theorem S_X11_qTest_6 {X : CX} {d : Nat} {x1 : Int} {I R : PF} {Q : PV → PF → PF → Prop} (c1 : -2147483648 ≤ (I 306 5) ∧ (I 306 5) < 2147483648) (h1 : (I 306 5) ≠ 0 → PN X d mX11_qTest 110 [(2, 306)] [] I R Q) (h2 : (I 306 5) = 0 → PN X d mX11_qTest 13 [(2, 306), (0, x1)] [] I R Q) : PN X d mX11_qTest 6 [(2, 306), (0, x1)] [] I R Q := by
  refine P_aload_n (n := 0) (q := 7) rfl rfl (by decide +kernel) ?_
  refine P_getf (q := 10) fX11_14 kM306 rfl (by decide +kernel) ?_
  refine B_if_ne (off := 100) (t := 110) (q := 13) c1 (by decide) rfl (by decide +kernel) ?_ ?_
  · exact fun g9 => (PW_sub (ls' := [(2, 306)]) ⟨Or.inr rfl, trivial⟩ (h1 g9))
  · exact fun g9 => (h2 g9)
theorem S_X11_qTest_13 {X : CX} {d d1 : Nat} {x1 : Int} {I R : PF} {Q Q1 : PV → PF → PF → Prop} (e1 : d1 + 1 ≤ d) (hc : CN X d1 mX11_look [(2, 306)] I R Q1) (h : ∀ z I2 R2, Q1 (0, z) I2 R2 → PN X d mX11_qTest 17 [(2, 306), (0, x1)] [(0, z)] I2 R2 Q) : PN X d mX11_qTest 13 [(2, 306), (0, x1)] [] I R Q := by
  refine P_aload_n (n := 0) (q := 14) rfl rfl (by decide +kernel) ?_
  refine P_invV (As := []) (q := 17) oX11_look rfl kM306 kX11_26 e1 hMF (Nat.le_of_ble_eq_true rfl) hc rfl (by decide +kernel) (fun z I2 R2 hq => ?_)
  exact (h z I2 R2 hq)
theorem S_X11_qTest_17 {X : CX} {d : Nat} {x1 o0 : Int} {I R : PF} {Q : PV → PF → PF → Prop} (c1 : -2147483648 ≤ o0 ∧ o0 < 2147483648) (h1 : o0 ≠ 91 → PN X d mX11_qTest 47 [(2, 306), (0, x1)] [] I R Q) (h2 : o0 = 91 → PN X d mX11_qTest 24 [(2, 306), (0, x1)] [] I R Q) : PN X d mX11_qTest 17 [(2, 306), (0, x1)] [(0, o0)] I R Q := by
  refine P_istore_n (n := 2) (by decide) (q := 18) rfl (by decide +kernel) ?_
  refine P_iload_n (n := 2) (q := 19) rfl rfl (by decide +kernel) ?_
  refine P_bipush (n := 91) (q := 21) rfl rfl (by decide +kernel) ?_
  refine B_icmp_ne (off := 26) (t := 47) (q := 24) c1 ⟨by decide, by decide⟩ (by decide) rfl (by decide +kernel) ?_ ?_
  · exact fun g9 => (PW_sub (ls' := [(2, 306), (0, x1)]) ⟨Or.inr rfl, Or.inr rfl, trivial⟩ (h1 g9))
  · exact fun g9 => (PW_sub (ls' := [(2, 306), (0, x1)]) ⟨Or.inr rfl, Or.inr rfl, trivial⟩ (h2 g9))
theorem S_X11_qTest_24 {X : CX} {d d1 : Nat} {x1 : Int} {I R : PF} {Q Q1 : PV → PF → PF → Prop} (e1 : d1 + 1 ≤ d) (hc : CN X d1 mX11_qOpens [(2, 306), (0, 25), (0, (I 306 2))] I R Q1) (h : ∀ z I2 R2, Q1 (9, z) I2 R2 → PN X d mX11_qTest 34 [(2, 306), (0, x1)] [] I2 R2 Q) : PN X d mX11_qTest 24 [(2, 306), (0, x1)] [] I R Q := by
  refine P_aload_n (n := 0) (q := 25) rfl rfl (by decide +kernel) ?_
  refine P_bipush (n := 25) (q := 27) rfl rfl (by decide +kernel) ?_
  refine P_aload_n (n := 0) (q := 28) rfl rfl (by decide +kernel) ?_
  refine P_getf (q := 31) fX11_20 kM306 rfl (by decide +kernel) ?_
  refine P_invV (As := [(0, 25), (0, (I 306 2))]) (q := 34) oX11_qOpens rfl kM306 kX11_623 e1 hMF (Nat.le_of_ble_eq_true rfl) hc rfl (by decide +kernel) (fun z I2 R2 hq => ?_)
  exact (PW_sub (ls' := [(2, 306), (0, x1)]) ⟨Or.inr rfl, Or.inr rfl, trivial⟩ (h z I2 R2 hq))
theorem S_X11_qTest_34 {X : CX} {d : Nat} {x1 : Int} {I R : PF} {Q : PV → PF → PF → Prop} (h : PN X d mX11_qTest 2 [(2, 306), (0, x1)] [] (u2 I 306 2 ((I 306 2) + 1)) R Q) : PN X d mX11_qTest 34 [(2, 306), (0, x1)] [] I R Q := by
  refine P_aload_n (n := 0) (q := 35) rfl rfl (by decide +kernel) ?_
  refine P_dup (q := 36) (Nat.ne_of_beq_eq_false rfl) rfl (by decide +kernel) ?_
  refine P_getf (q := 39) fX11_20 kM306 rfl (by decide +kernel) ?_
  refine P_iconst (n := 1) (q := 40) rfl (by decide +kernel) ?_
  refine P_iadd (q := 41) rfl (by decide +kernel) ?_
  refine P_putI (q := 44) wX11_20 (fun h => by cases h) kM306 rfl (by decide +kernel) ?_
  refine P_goto (off := (-42)) (t := 2) (by decide) (by decide +kernel) ?_
  exact (PW_sub (ls' := [(2, 306), (0, x1)]) ⟨Or.inr rfl, Or.inr rfl, trivial⟩ h)
theorem S_X11_qTest_47 {X : CX} {d d1 : Nat} {x1 : Int} {I R : PF} {Q Q1 : PV → PF → PF → Prop} (hs : Shp R) (e1 : d1 + 1 ≤ d) (hc : CN X d1 mX11_isHere [(2, 306), (2, 361)] I R Q1) (h : ∀ z I2 R2, Q1 (0, z) I2 R2 → PN X d mX11_qTest 55 [(2, 306), (0, x1)] [(0, z)] I2 R2 Q) : PN X d mX11_qTest 47 [(2, 306), (0, x1)] [] I R Q := by
  refine P_aload_n (n := 0) (q := 48) rfl rfl (by decide +kernel) ?_
  refine P_aload_n (n := 0) (q := 49) rfl rfl (by decide +kernel) ?_
  refine B_getfR (q := 52) fX11_357 kM306 (rM306_85 hs) rfl (by decide +kernel) ?_
  refine P_invV (As := [(2, 361)]) (q := 55) oX11_isHere rfl kM306 kX11_37 e1 hMF (Nat.le_of_ble_eq_true rfl) hc rfl (by decide +kernel) (fun z I2 R2 hq => ?_)
  exact (PW_sub (ls' := [(2, 306), (0, x1)]) ⟨Or.inr rfl, Or.inr rfl, trivial⟩ (h z I2 R2 hq))
theorem S_X11_qTest_55 {X : CX} {d : Nat} {x1 o0 : Int} {I R : PF} {Q : PV → PF → PF → Prop} (c1 : -2147483648 ≤ o0 ∧ o0 < 2147483648) (h1 : o0 = 0 → PN X d mX11_qTest 79 [(2, 306)] [] I R Q) (h2 : o0 ≠ 0 → PN X d mX11_qTest 58 [(2, 306), (0, x1)] [] I R Q) : PN X d mX11_qTest 55 [(2, 306), (0, x1)] [(0, o0)] I R Q := by
  refine B_if_eq (off := 24) (t := 79) (q := 58) c1 (by decide) rfl (by decide +kernel) ?_ ?_
  · exact fun g9 => (PW_sub (ls' := [(2, 306)]) ⟨Or.inr rfl, trivial⟩ (h1 g9))
  · exact fun g9 => (PW_sub (ls' := [(2, 306), (0, x1)]) ⟨Or.inr rfl, Or.inr rfl, trivial⟩ (h2 g9))
theorem S_X11_qTest_58 {X : CX} {d d1 : Nat} {x1 : Int} {I R : PF} {Q Q1 : PV → PF → PF → Prop} (e1 : d1 + 1 ≤ d) (hc : CN X d1 mX11_qOpens [(2, 306), (0, 12), (0, (I 306 2))] I R Q1) (h : ∀ z I2 R2, Q1 (9, z) I2 R2 → PN X d mX11_qTest 68 [(2, 306), (0, x1)] [] I2 R2 Q) : PN X d mX11_qTest 58 [(2, 306), (0, x1)] [] I R Q := by
  refine P_aload_n (n := 0) (q := 59) rfl rfl (by decide +kernel) ?_
  refine P_bipush (n := 12) (q := 61) rfl rfl (by decide +kernel) ?_
  refine P_aload_n (n := 0) (q := 62) rfl rfl (by decide +kernel) ?_
  refine P_getf (q := 65) fX11_20 kM306 rfl (by decide +kernel) ?_
  refine P_invV (As := [(0, 12), (0, (I 306 2))]) (q := 68) oX11_qOpens rfl kM306 kX11_623 e1 hMF (Nat.le_of_ble_eq_true rfl) hc rfl (by decide +kernel) (fun z I2 R2 hq => ?_)
  exact (PW_sub (ls' := [(2, 306), (0, x1)]) ⟨Or.inr rfl, Or.inr rfl, trivial⟩ (h z I2 R2 hq))
theorem S_X11_qTest_68 {X : CX} {d d1 : Nat} {x1 : Int} {I R : PF} {Q Q1 : PV → PF → PF → Prop} (hs : Shp R) (e1 : d1 + 1 ≤ d) (hc : CN X d1 mX11_asks [(2, 306), (2, 361)] I R Q1) (h : ∀ z I2 R2, Q1 (9, z) I2 R2 → PN X d mX11_qTest 76 [(2, 306), (0, x1)] [] I2 R2 Q) : PN X d mX11_qTest 68 [(2, 306), (0, x1)] [] I R Q := by
  refine P_aload_n (n := 0) (q := 69) rfl rfl (by decide +kernel) ?_
  refine P_aload_n (n := 0) (q := 70) rfl rfl (by decide +kernel) ?_
  refine B_getfR (q := 73) fX11_357 kM306 (rM306_85 hs) rfl (by decide +kernel) ?_
  refine P_invV (As := [(2, 361)]) (q := 76) oX11_asks rfl kM306 kX11_181 e1 hMF (Nat.le_of_ble_eq_true rfl) hc rfl (by decide +kernel) (fun z I2 R2 hq => ?_)
  exact (PW_sub (ls' := [(2, 306), (0, x1)]) ⟨Or.inr rfl, Or.inr rfl, trivial⟩ (h z I2 R2 hq))
theorem S_X11_qTest_76 {X : CX} {d : Nat} {x1 : Int} {I R : PF} {Q : PV → PF → PF → Prop} (h : PN X d mX11_qTest 2 [(2, 306), (0, x1)] [] I R Q) : PN X d mX11_qTest 76 [(2, 306), (0, x1)] [] I R Q := by
  refine P_goto (off := (-74)) (t := 2) (by decide) (by decide +kernel) ?_
  exact (PW_sub (ls' := [(2, 306), (0, x1)]) ⟨Or.inr rfl, Or.inr rfl, trivial⟩ h)
theorem S_X11_qTest_79 {X : CX} {d d1 : Nat} {I R : PF} {Q Q1 : PV → PF → PF → Prop} (e1 : d1 + 1 ≤ d) (hc : CN X d1 mX11_qFact [(2, 306)] I R Q1) (h : ∀ z I2 R2, Q1 (9, z) I2 R2 → PN X d mX11_qTest 83 [(2, 306)] [] I2 R2 Q) : PN X d mX11_qTest 79 [(2, 306)] [] I R Q := by
  refine P_aload_n (n := 0) (q := 80) rfl rfl (by decide +kernel) ?_
  refine P_invV (As := []) (q := 83) oX11_qFact rfl kM306 kX11_647 e1 hMF (Nat.le_of_ble_eq_true rfl) hc rfl (by decide +kernel) (fun z I2 R2 hq => ?_)
  exact (PW_sub (ls' := [(2, 306)]) ⟨Or.inr rfl, trivial⟩ (h z I2 R2 hq))
theorem S_X11_qTest_83 {X : CX} {d d1 : Nat} {I R : PF} {Q Q1 : PV → PF → PF → Prop} (e1 : d1 + 1 ≤ d) (hc : CN X d1 mX11_qDropsNots [(2, 306)] I R Q1) (h : ∀ z I2 R2, Q1 (9, z) I2 R2 → PN X d mX11_qTest 87 [(2, 306)] [] I2 R2 Q) : PN X d mX11_qTest 83 [(2, 306)] [] I R Q := by
  refine P_aload_n (n := 0) (q := 84) rfl rfl (by decide +kernel) ?_
  refine P_invV (As := []) (q := 87) oX11_qDropsNots rfl kM306 kX11_650 e1 hMF (Nat.le_of_ble_eq_true rfl) hc rfl (by decide +kernel) (fun z I2 R2 hq => ?_)
  exact (PW_sub (ls' := [(2, 306)]) ⟨Or.inr rfl, trivial⟩ (h z I2 R2 hq))
theorem S_X11_qTest_87 {X : CX} {d : Nat} {I R : PF} {Q : PV → PF → PF → Prop} (c1 : -2147483648 ≤ (I 306 5) ∧ (I 306 5) < 2147483648) (h1 : (I 306 5) ≠ 0 → PN X d mX11_qTest 105 [(2, 306)] [] I R Q) (h2 : (I 306 5) = 0 → PN X d mX11_qTest 94 [(2, 306)] [] I R Q) : PN X d mX11_qTest 87 [(2, 306)] [] I R Q := by
  refine P_aload_n (n := 0) (q := 88) rfl rfl (by decide +kernel) ?_
  refine P_getf (q := 91) fX11_14 kM306 rfl (by decide +kernel) ?_
  refine B_if_ne (off := 14) (t := 105) (q := 94) c1 (by decide) rfl (by decide +kernel) ?_ ?_
  · exact fun g9 => (PW_sub (ls' := [(2, 306)]) ⟨Or.inr rfl, trivial⟩ (h1 g9))
  · exact fun g9 => (PW_sub (ls' := [(2, 306)]) ⟨Or.inr rfl, trivial⟩ (h2 g9))
theorem S_X11_qTest_94 {X : CX} {d d1 : Nat} {I R : PF} {Q Q1 : PV → PF → PF → Prop} (e1 : d1 + 1 ≤ d) (hc : CN X d1 mX11_qGoesOnTest [(2, 306)] I R Q1) (h : ∀ z I2 R2, Q1 (0, z) I2 R2 → PN X d mX11_qTest 98 [(2, 306)] [(0, z)] I2 R2 Q) : PN X d mX11_qTest 94 [(2, 306)] [] I R Q := by
  refine P_aload_n (n := 0) (q := 95) rfl rfl (by decide +kernel) ?_
  refine P_invV (As := []) (q := 98) oX11_qGoesOnTest rfl kM306 kX11_653 e1 hMF (Nat.le_of_ble_eq_true rfl) hc rfl (by decide +kernel) (fun z I2 R2 hq => ?_)
  exact (PW_sub (ls' := [(2, 306)]) ⟨Or.inr rfl, trivial⟩ (h z I2 R2 hq))
theorem S_X11_qTest_98 {X : CX} {d : Nat} {o0 : Int} {I R : PF} {Q : PV → PF → PF → Prop} (c1 : -2147483648 ≤ o0 ∧ o0 < 2147483648) (h1 : o0 = 0 → PN X d mX11_qTest 105 [(2, 306)] [] I R Q) (h2 : o0 ≠ 0 → PN X d mX11_qTest 101 [(2, 306)] [] I R Q) : PN X d mX11_qTest 98 [(2, 306)] [(0, o0)] I R Q := by
  refine B_if_eq (off := 7) (t := 105) (q := 101) c1 (by decide) rfl (by decide +kernel) ?_ ?_
  · exact fun g9 => (PW_sub (ls' := [(2, 306)]) ⟨Or.inr rfl, trivial⟩ (h1 g9))
  · exact fun g9 => (PW_sub (ls' := [(2, 306)]) ⟨Or.inr rfl, trivial⟩ (h2 g9))
theorem S_X11_qTest_101 {X : CX} {d : Nat} {I R : PF} {Q : PV → PF → PF → Prop} (h : PN X d mX11_qTest 106 [(2, 306)] [(0, 1)] I R Q) : PN X d mX11_qTest 101 [(2, 306)] [] I R Q := by
  refine P_iconst (n := 1) (q := 102) rfl (by decide +kernel) ?_
  refine P_goto (off := 4) (t := 106) (by decide) (by decide +kernel) ?_
  exact (PW_sub (ls' := [(2, 306)]) ⟨Or.inr rfl, trivial⟩ h)
theorem S_X11_qTest_105 {X : CX} {d : Nat} {I R : PF} {Q : PV → PF → PF → Prop} (h : PN X d mX11_qTest 106 [(2, 306)] [(0, 0)] I R Q) : PN X d mX11_qTest 105 [(2, 306)] [] I R Q := by
  refine P_iconst (n := 0) (q := 106) rfl (by decide +kernel) ?_
  exact (PW_sub (ls' := [(2, 306)]) ⟨Or.inr rfl, trivial⟩ h)
theorem S_X11_qTest_106 {X : CX} {d : Nat} {o0 : Int} {I R : PF} {Q : PV → PF → PF → Prop} (h : PN X d mX11_qTest 2 [(2, 306), (0, o0)] [] I R Q) : PN X d mX11_qTest 106 [(2, 306)] [(0, o0)] I R Q := by
  refine P_istore_n (n := 1) (by decide) (q := 107) rfl (by decide +kernel) ?_
  refine P_goto (off := (-105)) (t := 2) (by decide) (by decide +kernel) ?_
  exact (PW_sub (ls' := [(2, 306), (0, o0)]) ⟨Or.inr rfl, Or.inr rfl, trivial⟩ h)
theorem S_X11_qTest_110 {X : CX} {d : Nat} {I R : PF} {Q : PV → PF → PF → Prop} (c1 : -2147483648 ≤ (I 306 5) ∧ (I 306 5) < 2147483648) (h1 : (I 306 5) ≠ 0 → PN X d mX11_qTest 131 [] [] I R Q) (h2 : (I 306 5) = 0 → PN X d mX11_qTest 117 [(2, 306)] [] I R Q) : PN X d mX11_qTest 110 [(2, 306)] [] I R Q := by
  refine P_aload_n (n := 0) (q := 111) rfl rfl (by decide +kernel) ?_
  refine P_getf (q := 114) fX11_14 kM306 rfl (by decide +kernel) ?_
  refine B_if_ne (off := 17) (t := 131) (q := 117) c1 (by decide) rfl (by decide +kernel) ?_ ?_
  · exact fun g9 => (PW_sub (ls' := []) trivial (h1 g9))
  · exact fun g9 => (PW_sub (ls' := [(2, 306)]) ⟨Or.inr rfl, trivial⟩ (h2 g9))
theorem S_X11_qTest_117 {X : CX} {d : Nat} {I R : PF} {Q : PV → PF → PF → Prop} (c1 : -2147483648 ≤ (I 306 106) ∧ (I 306 106) < 2147483648) (h1 : (I 306 106) ≤ 0 → PN X d mX11_qTest 131 [] [] I R Q) (h2 : 0 < (I 306 106) → PN X d mX11_qTest 124 [(2, 306)] [] I R Q) : PN X d mX11_qTest 117 [(2, 306)] [] I R Q := by
  refine P_aload_n (n := 0) (q := 118) rfl rfl (by decide +kernel) ?_
  refine P_getf (q := 121) fX11_235 kM306 rfl (by decide +kernel) ?_
  refine B_if_le (off := 10) (t := 131) (q := 124) c1 (by decide) rfl (by decide +kernel) ?_ ?_
  · exact fun g9 => (PW_sub (ls' := []) trivial (h1 g9))
  · exact fun g9 => (PW_sub (ls' := [(2, 306)]) ⟨Or.inr rfl, trivial⟩ (h2 g9))
theorem S_X11_qTest_124 {X : CX} {d d1 : Nat} {I R : PF} {Q Q1 : PV → PF → PF → Prop} (e1 : d1 + 1 ≤ d) (hc : CN X d1 mX11_qDrops [(2, 306)] I R Q1) (h : ∀ z I2 R2, Q1 (9, z) I2 R2 → PN X d mX11_qTest 128 [(2, 306)] [] I2 R2 Q) : PN X d mX11_qTest 124 [(2, 306)] [] I R Q := by
  refine P_aload_n (n := 0) (q := 125) rfl rfl (by decide +kernel) ?_
  refine P_invV (As := []) (q := 128) oX11_qDrops rfl kM306 kX11_611 e1 hMF (Nat.le_of_ble_eq_true rfl) hc rfl (by decide +kernel) (fun z I2 R2 hq => ?_)
  exact (PW_sub (ls' := [(2, 306)]) ⟨Or.inr rfl, trivial⟩ (h z I2 R2 hq))
theorem S_X11_qTest_128 {X : CX} {d : Nat} {I R : PF} {Q : PV → PF → PF → Prop} (h : PN X d mX11_qTest 110 [(2, 306)] [] I R Q) : PN X d mX11_qTest 128 [(2, 306)] [] I R Q := by
  refine P_goto (off := (-18)) (t := 110) (by decide) (by decide +kernel) ?_
  exact (PW_sub (ls' := [(2, 306)]) ⟨Or.inr rfl, trivial⟩ h)
theorem S_X11_qTest_131 {X : CX} {d : Nat} {I R : PF} {Q : PV → PF → PF → Prop} (h : Q (9, 0) I R) : PN X d mX11_qTest 131 [] [] I R Q := by
  refine P_vret rfl (by decide +kernel) h
theorem S_X11_qTold_0 {X : CX} {d : Nat} {x1 : Int} {I R : PF} {Q : PV → PF → PF → Prop} (h : PN X d mX11_qTold 7 [(2, 306), (0, x1), (0, 0)] [] (u2 I 306 110 0) R Q) : PN X d mX11_qTold 0 [(2, 306), (0, x1)] [] I R Q := by
  refine P_aload_n (n := 0) (q := 1) rfl rfl (by decide +kernel) ?_
  refine P_iconst (n := 0) (q := 2) rfl (by decide +kernel) ?_
  refine P_putI (q := 5) wX11_423 (fun h => by cases h) kM306 rfl (by decide +kernel) ?_
  refine P_iconst (n := 0) (q := 6) rfl (by decide +kernel) ?_
  refine P_istore_n (n := 2) (by decide) (q := 7) rfl (by decide +kernel) ?_
  exact h
theorem S_X11_qTold_7 {X : CX} {d : Nat} {x1 x2 : Int} {I R : PF} {Q : PV → PF → PF → Prop} (c1 : -2147483648 ≤ x2 ∧ x2 < 2147483648) (c2 : -2147483648 ≤ (I 306 104) ∧ (I 306 104) < 2147483648) (h1 : (I 306 104) ≤ x2 → PN X d mX11_qTold 168 [(2, 306)] [] I R Q) (h2 : x2 < (I 306 104) → PN X d mX11_qTold 15 [(2, 306), (0, x1), (0, x2)] [] I R Q) : PN X d mX11_qTold 7 [(2, 306), (0, x1), (0, x2)] [] I R Q := by
  refine P_iload_n (n := 2) (q := 8) rfl rfl (by decide +kernel) ?_
  refine P_aload_n (n := 0) (q := 9) rfl rfl (by decide +kernel) ?_
  refine P_getf (q := 12) fX11_232 kM306 rfl (by decide +kernel) ?_
  refine B_icmp_ge (off := 156) (t := 168) (q := 15) c1 c2 (by decide) rfl (by decide +kernel) ?_ ?_
  · exact fun g9 => (PW_sub (ls' := [(2, 306)]) ⟨Or.inr rfl, trivial⟩ (h1 g9))
  · exact fun g9 => (h2 g9)
theorem S_X11_qTold_15 {X : CX} {d : Nat} {x1 x2 : Int} {I R : PF} {Q : PV → PF → PF → Prop} (hs : Shp R) (b1 : (0 : Int) ≤ x2 ∧ x2 < 1700) (c1 : -2147483648 ≤ (I 379 x2) ∧ (I 379 x2) < 2147483648) (h1 : (I 379 x2) < 1000 → PN X d mX11_qTold 42 [(2, 306), (0, x1), (0, x2), (0, (I 379 x2))] [] I R Q) (h2 : 1000 ≤ (I 379 x2) → PN X d mX11_qTold 29 [(2, 306), (0, x1), (0, x2), (0, (I 379 x2))] [] I R Q) : PN X d mX11_qTold 15 [(2, 306), (0, x1), (0, x2)] [] I R Q := by
  refine P_aload_n (n := 0) (q := 16) rfl rfl (by decide +kernel) ?_
  refine B_getfR (q := 19) fX11_257 kM306 (rM306_103 hs) rfl (by decide +kernel) ?_
  refine P_iload_n (n := 2) (q := 20) rfl rfl (by decide +kernel) ?_
  refine B_iaload (q := 21) kM379 nM379 (by decide) b1 rfl (by decide +kernel) ?_
  refine P_istore_n (n := 3) (by decide) (q := 22) rfl (by decide +kernel) ?_
  refine P_iload_n (n := 3) (q := 23) rfl rfl (by decide +kernel) ?_
  refine P_sipush (n := 1000) (q := 26) rfl rfl (by decide +kernel) ?_
  refine B_icmp_lt (off := 16) (t := 42) (q := 29) c1 ⟨by decide, by decide⟩ (by decide) rfl (by decide +kernel) ?_ ?_
  · exact fun g9 => (h1 g9)
  · exact fun g9 => (h2 g9)
theorem S_X11_qTold_29 {X : CX} {d d1 : Nat} {x1 x2 x3 : Int} {I R : PF} {Q Q1 : PV → PF → PF → Prop} (c1 : -2147483648 ≤ (x3 - 1000) ∧ (x3 - 1000) < 2147483648) (e1 : d1 + 1 ≤ d) (hc : CN X d1 mX11_qPuts [(2, 306), (1, (x3 - 1000))] I R Q1) (h : ∀ z I2 R2, Q1 (9, z) I2 R2 → PN X d mX11_qTold 39 [(2, 306), (0, x1), (0, x2)] [] I2 R2 Q) : PN X d mX11_qTold 29 [(2, 306), (0, x1), (0, x2), (0, x3)] [] I R Q := by
  refine P_aload_n (n := 0) (q := 30) rfl rfl (by decide +kernel) ?_
  refine P_iload_n (n := 3) (q := 31) rfl rfl (by decide +kernel) ?_
  refine P_sipush (n := 1000) (q := 34) rfl rfl (by decide +kernel) ?_
  refine P_isub (q := 35) rfl (by decide +kernel) ?_
  refine B_i2l (q := 36) c1 rfl (by decide +kernel) ?_
  refine P_invV (As := [(1, (x3 - 1000))]) (q := 39) oX11_qPuts rfl kM306 kX11_426 e1 hMF (Nat.le_of_ble_eq_true rfl) hc rfl (by decide +kernel) (fun z I2 R2 hq => ?_)
  exact (PW_sub (ls' := [(2, 306), (0, x1), (0, x2)]) ⟨Or.inr rfl, Or.inr rfl, Or.inr rfl, trivial⟩ (h z I2 R2 hq))
theorem S_X11_qTold_39 {X : CX} {d : Nat} {x1 x2 : Int} {I R : PF} {Q : PV → PF → PF → Prop} (h : PN X d mX11_qTold 162 [(2, 306), (0, x1), (0, x2)] [] I R Q) : PN X d mX11_qTold 39 [(2, 306), (0, x1), (0, x2)] [] I R Q := by
  refine P_goto (off := 123) (t := 162) (by decide) (by decide +kernel) ?_
  exact (PW_sub (ls' := [(2, 306), (0, x1), (0, x2)]) ⟨Or.inr rfl, Or.inr rfl, Or.inr rfl, trivial⟩ h)
theorem S_X11_qTold_42 {X : CX} {d : Nat} {x1 x2 x3 : Int} {I R : PF} {Q : PV → PF → PF → Prop} (c1 : -2147483648 ≤ x3 ∧ x3 < 2147483648) (h1 : x3 < 60 → PN X d mX11_qTold 85 [(2, 306), (0, x1), (0, x2), (0, x3)] [] I R Q) (h2 : 60 ≤ x3 → PN X d mX11_qTold 48 [(2, 306), (0, x1), (0, x2), (0, x3)] [] I R Q) : PN X d mX11_qTold 42 [(2, 306), (0, x1), (0, x2), (0, x3)] [] I R Q := by
  refine P_iload_n (n := 3) (q := 43) rfl rfl (by decide +kernel) ?_
  refine P_bipush (n := 60) (q := 45) rfl rfl (by decide +kernel) ?_
  refine B_icmp_lt (off := 40) (t := 85) (q := 48) c1 ⟨by decide, by decide⟩ (by decide) rfl (by decide +kernel) ?_ ?_
  · exact fun g9 => (h1 g9)
  · exact fun g9 => (h2 g9)
theorem S_X11_qTold_48 {X : CX} {d d1 : Nat} {x1 x2 x3 : Int} {I R : PF} {Q Q1 : PV → PF → PF → Prop} (hs : Shp R) (b1 : (0 : Int) ≤ ((I 306 110) - 1) ∧ ((I 306 110) - 1) < 1700) (e1 : d1 + 1 ≤ d) (hc : CN X d1 mX11_qOf [(2, 306), (0, (x3 - 60)), (1, (I 381 ((I 306 110) - 1))), (0, x1)] I R Q1) (h : ∀ z I2 R2, Q1 (1, z) I2 R2 → PN X d mX11_qTold 78 [(2, 306), (0, x1), (0, x2)] [(1, z), (0, ((I 306 110) - 1)), (2, 381)] I2 R2 Q) : PN X d mX11_qTold 48 [(2, 306), (0, x1), (0, x2), (0, x3)] [] I R Q := by
  refine P_aload_n (n := 0) (q := 49) rfl rfl (by decide +kernel) ?_
  refine B_getfR (q := 52) fX11_414 kM306 (rM306_109 hs) rfl (by decide +kernel) ?_
  refine P_aload_n (n := 0) (q := 53) rfl rfl (by decide +kernel) ?_
  refine P_getf (q := 56) fX11_423 kM306 rfl (by decide +kernel) ?_
  refine P_iconst (n := 1) (q := 57) rfl (by decide +kernel) ?_
  refine P_isub (q := 58) rfl (by decide +kernel) ?_
  refine P_aload_n (n := 0) (q := 59) rfl rfl (by decide +kernel) ?_
  refine P_iload_n (n := 3) (q := 60) rfl rfl (by decide +kernel) ?_
  refine P_bipush (n := 60) (q := 62) rfl rfl (by decide +kernel) ?_
  refine P_isub (q := 63) rfl (by decide +kernel) ?_
  refine P_aload_n (n := 0) (q := 64) rfl rfl (by decide +kernel) ?_
  refine B_getfR (q := 67) fX11_414 kM306 (rM306_109 hs) rfl (by decide +kernel) ?_
  refine P_aload_n (n := 0) (q := 68) rfl rfl (by decide +kernel) ?_
  refine P_getf (q := 71) fX11_423 kM306 rfl (by decide +kernel) ?_
  refine P_iconst (n := 1) (q := 72) rfl (by decide +kernel) ?_
  refine P_isub (q := 73) rfl (by decide +kernel) ?_
  refine B_laload (q := 74) kM381 nM381 (by decide) b1 rfl (by decide +kernel) ?_
  refine P_iload_n (n := 1) (q := 75) rfl rfl (by decide +kernel) ?_
  refine P_invV (As := [(0, (x3 - 60)), (1, (I 381 ((I 306 110) - 1))), (0, x1)]) (q := 78) oX11_qOf rfl kM306 kX11_674 e1 hMF (Nat.le_of_ble_eq_true rfl) hc rfl (by decide +kernel) (fun z I2 R2 hq => ?_)
  exact (PW_sub (ls' := [(2, 306), (0, x1), (0, x2)]) ⟨Or.inr rfl, Or.inr rfl, Or.inr rfl, trivial⟩ (h z I2 R2 hq))
theorem S_X11_qTold_78 {X : CX} {d d1 : Nat} {x1 x2 o1 v2 : Int} {I R : PF} {Q Q1 : PV → PF → PF → Prop} (e1 : d1 + 1 ≤ d) (hc : CN X d1 mX11_qClip [(1, v2)] I R Q1) (h : ∀ z I2 R2, Q1 (1, z) I2 R2 → PN X d mX11_qTold 81 [(2, 306), (0, x1), (0, x2)] [(1, z), (0, o1), (2, 381)] I2 R2 Q) : PN X d mX11_qTold 78 [(2, 306), (0, x1), (0, x2)] [(1, v2), (0, o1), (2, 381)] I R Q := by
  refine P_invS (As := [(1, v2)]) (q := 81) oX11_qClip rfl (Or.inl kX11_663) e1 hMF (Nat.le_of_ble_eq_true rfl) hc rfl (by decide +kernel) (fun z I2 R2 hq => ?_)
  exact (PW_sub (ls' := [(2, 306), (0, x1), (0, x2)]) ⟨Or.inr rfl, Or.inr rfl, Or.inr rfl, trivial⟩ (h z I2 R2 hq))
theorem S_X11_qTold_81 {X : CX} {d : Nat} {x1 x2 o1 v2 : Int} {I R : PF} {Q : PV → PF → PF → Prop} (b1 : (0 : Int) ≤ o1 ∧ o1 < 1700) (h : PN X d mX11_qTold 162 [(2, 306), (0, x1), (0, x2)] [] (u2 I 381 o1 v2) R Q) : PN X d mX11_qTold 81 [(2, 306), (0, x1), (0, x2)] [(1, v2), (0, o1), (2, 381)] I R Q := by
  refine B_lastore (q := 82) kM381 nM381 (by decide) b1 rfl (by decide +kernel) ?_
  refine P_goto (off := 80) (t := 162) (by decide) (by decide +kernel) ?_
  exact (PW_sub (ls' := [(2, 306), (0, x1), (0, x2)]) ⟨Or.inr rfl, Or.inr rfl, Or.inr rfl, trivial⟩ h)
theorem S_X11_qTold_85 {X : CX} {d : Nat} {x1 x2 x3 : Int} {I R : PF} {Q : PV → PF → PF → Prop} (c1 : -2147483648 ≤ x3 ∧ x3 < 2147483648) (h1 : x3 < 40 → PN X d mX11_qTold 110 [(2, 306), (0, x1), (0, x2), (0, x3)] [] I R Q) (h2 : 40 ≤ x3 → PN X d mX11_qTold 91 [(2, 306), (0, x1), (0, x2), (0, x3)] [] I R Q) : PN X d mX11_qTold 85 [(2, 306), (0, x1), (0, x2), (0, x3)] [] I R Q := by
  refine P_iload_n (n := 3) (q := 86) rfl rfl (by decide +kernel) ?_
  refine P_bipush (n := 40) (q := 88) rfl rfl (by decide +kernel) ?_
  refine B_icmp_lt (off := 22) (t := 110) (q := 91) c1 ⟨by decide, by decide⟩ (by decide) rfl (by decide +kernel) ?_ ?_
  · exact fun g9 => (h1 g9)
  · exact fun g9 => (h2 g9)
theorem S_X11_qTold_91 {X : CX} {d d1 : Nat} {x1 x2 x3 : Int} {I R : PF} {Q Q1 : PV → PF → PF → Prop} (e1 : d1 + 1 ≤ d) (hc : CN X d1 mX11_qPartOf [(2, 306), (0, (x3 - 40)), (0, x1)] I R Q1) (h : ∀ z I2 R2, Q1 (1, z) I2 R2 → PN X d mX11_qTold 101 [(2, 306), (0, x1), (0, x2)] [(1, z), (2, 306)] I2 R2 Q) : PN X d mX11_qTold 91 [(2, 306), (0, x1), (0, x2), (0, x3)] [] I R Q := by
  refine P_aload_n (n := 0) (q := 92) rfl rfl (by decide +kernel) ?_
  refine P_aload_n (n := 0) (q := 93) rfl rfl (by decide +kernel) ?_
  refine P_iload_n (n := 3) (q := 94) rfl rfl (by decide +kernel) ?_
  refine P_bipush (n := 40) (q := 96) rfl rfl (by decide +kernel) ?_
  refine P_isub (q := 97) rfl (by decide +kernel) ?_
  refine P_iload_n (n := 1) (q := 98) rfl rfl (by decide +kernel) ?_
  refine P_invV (As := [(0, (x3 - 40)), (0, x1)]) (q := 101) oX11_qPartOf rfl kM306 kX11_430 e1 hMF (Nat.le_of_ble_eq_true rfl) hc rfl (by decide +kernel) (fun z I2 R2 hq => ?_)
  exact (PW_sub (ls' := [(2, 306), (0, x1), (0, x2)]) ⟨Or.inr rfl, Or.inr rfl, Or.inr rfl, trivial⟩ (h z I2 R2 hq))
theorem S_X11_qTold_101 {X : CX} {d d1 : Nat} {x1 x2 v1 : Int} {I R : PF} {Q Q1 : PV → PF → PF → Prop} (e1 : d1 + 1 ≤ d) (hc : CN X d1 mX11_qClip [(1, v1)] I R Q1) (h : ∀ z I2 R2, Q1 (1, z) I2 R2 → PN X d mX11_qTold 104 [(2, 306), (0, x1), (0, x2)] [(1, z), (2, 306)] I2 R2 Q) : PN X d mX11_qTold 101 [(2, 306), (0, x1), (0, x2)] [(1, v1), (2, 306)] I R Q := by
  refine P_invS (As := [(1, v1)]) (q := 104) oX11_qClip rfl (Or.inl kX11_663) e1 hMF (Nat.le_of_ble_eq_true rfl) hc rfl (by decide +kernel) (fun z I2 R2 hq => ?_)
  exact (PW_sub (ls' := [(2, 306), (0, x1), (0, x2)]) ⟨Or.inr rfl, Or.inr rfl, Or.inr rfl, trivial⟩ (h z I2 R2 hq))
theorem S_X11_qTold_104 {X : CX} {d d1 : Nat} {x1 x2 v1 : Int} {I R : PF} {Q Q1 : PV → PF → PF → Prop} (e1 : d1 + 1 ≤ d) (hc : CN X d1 mX11_qPuts [(2, 306), (1, v1)] I R Q1) (h : ∀ z I2 R2, Q1 (9, z) I2 R2 → PN X d mX11_qTold 107 [(2, 306), (0, x1), (0, x2)] [] I2 R2 Q) : PN X d mX11_qTold 104 [(2, 306), (0, x1), (0, x2)] [(1, v1), (2, 306)] I R Q := by
  refine P_invV (As := [(1, v1)]) (q := 107) oX11_qPuts rfl kM306 kX11_426 e1 hMF (Nat.le_of_ble_eq_true rfl) hc rfl (by decide +kernel) (fun z I2 R2 hq => ?_)
  exact (PW_sub (ls' := [(2, 306), (0, x1), (0, x2)]) ⟨Or.inr rfl, Or.inr rfl, Or.inr rfl, trivial⟩ (h z I2 R2 hq))
theorem S_X11_qTold_107 {X : CX} {d : Nat} {x1 x2 : Int} {I R : PF} {Q : PV → PF → PF → Prop} (h : PN X d mX11_qTold 162 [(2, 306), (0, x1), (0, x2)] [] I R Q) : PN X d mX11_qTold 107 [(2, 306), (0, x1), (0, x2)] [] I R Q := by
  refine P_goto (off := 55) (t := 162) (by decide) (by decide +kernel) ?_
  exact (PW_sub (ls' := [(2, 306), (0, x1), (0, x2)]) ⟨Or.inr rfl, Or.inr rfl, Or.inr rfl, trivial⟩ h)
theorem S_X11_qTold_110 {X : CX} {d : Nat} {x1 x2 x3 : Int} {I R : PF} {Q : PV → PF → PF → Prop} (c1 : -2147483648 ≤ x3 ∧ x3 < 2147483648) (h1 : x3 ≠ 13 → PN X d mX11_qTold 124 [(2, 306), (0, x1), (0, x2), (0, x3)] [] I R Q) (h2 : x3 = 13 → PN X d mX11_qTold 116 [(2, 306), (0, x1), (0, x2)] [] I R Q) : PN X d mX11_qTold 110 [(2, 306), (0, x1), (0, x2), (0, x3)] [] I R Q := by
  refine P_iload_n (n := 3) (q := 111) rfl rfl (by decide +kernel) ?_
  refine P_bipush (n := 13) (q := 113) rfl rfl (by decide +kernel) ?_
  refine B_icmp_ne (off := 11) (t := 124) (q := 116) c1 ⟨by decide, by decide⟩ (by decide) rfl (by decide +kernel) ?_ ?_
  · exact fun g9 => (h1 g9)
  · exact fun g9 => (PW_sub (ls' := [(2, 306), (0, x1), (0, x2)]) ⟨Or.inr rfl, Or.inr rfl, Or.inr rfl, trivial⟩ (h2 g9))
theorem S_X11_qTold_116 {X : CX} {d d1 : Nat} {x1 x2 : Int} {I R : PF} {Q Q1 : PV → PF → PF → Prop} (e1 : d1 + 1 ≤ d) (hc : CN X d1 mX11_qPuts [(2, 306), (1, 1)] I R Q1) (h : ∀ z I2 R2, Q1 (9, z) I2 R2 → PN X d mX11_qTold 121 [(2, 306), (0, x1), (0, x2)] [] I2 R2 Q) : PN X d mX11_qTold 116 [(2, 306), (0, x1), (0, x2)] [] I R Q := by
  refine P_aload_n (n := 0) (q := 117) rfl rfl (by decide +kernel) ?_
  refine P_lconst (n := 1) (x := 1) (q := 118) rfl rfl (by decide +kernel) ?_
  refine P_invV (As := [(1, 1)]) (q := 121) oX11_qPuts rfl kM306 kX11_426 e1 hMF (Nat.le_of_ble_eq_true rfl) hc rfl (by decide +kernel) (fun z I2 R2 hq => ?_)
  exact (PW_sub (ls' := [(2, 306), (0, x1), (0, x2)]) ⟨Or.inr rfl, Or.inr rfl, Or.inr rfl, trivial⟩ (h z I2 R2 hq))
theorem S_X11_qTold_121 {X : CX} {d : Nat} {x1 x2 : Int} {I R : PF} {Q : PV → PF → PF → Prop} (h : PN X d mX11_qTold 162 [(2, 306), (0, x1), (0, x2)] [] I R Q) : PN X d mX11_qTold 121 [(2, 306), (0, x1), (0, x2)] [] I R Q := by
  refine P_goto (off := 41) (t := 162) (by decide) (by decide +kernel) ?_
  exact (PW_sub (ls' := [(2, 306), (0, x1), (0, x2)]) ⟨Or.inr rfl, Or.inr rfl, Or.inr rfl, trivial⟩ h)
theorem S_X11_qTold_124 {X : CX} {d : Nat} {x1 x2 x3 : Int} {I R : PF} {Q : PV → PF → PF → Prop} (c1 : -2147483648 ≤ x3 ∧ x3 < 2147483648) (h1 : x3 ≠ 12 → PN X d mX11_qTold 157 [(2, 306), (0, x1), (0, x2), (0, x3)] [] I R Q) (h2 : x3 = 12 → PN X d mX11_qTold 130 [(2, 306), (0, x1), (0, x2)] [] I R Q) : PN X d mX11_qTold 124 [(2, 306), (0, x1), (0, x2), (0, x3)] [] I R Q := by
  refine P_iload_n (n := 3) (q := 125) rfl rfl (by decide +kernel) ?_
  refine P_bipush (n := 12) (q := 127) rfl rfl (by decide +kernel) ?_
  refine B_icmp_ne (off := 30) (t := 157) (q := 130) c1 ⟨by decide, by decide⟩ (by decide) rfl (by decide +kernel) ?_ ?_
  · exact fun g9 => (h1 g9)
  · exact fun g9 => (PW_sub (ls' := [(2, 306), (0, x1), (0, x2)]) ⟨Or.inr rfl, Or.inr rfl, Or.inr rfl, trivial⟩ (h2 g9))
theorem S_X11_qTold_130 {X : CX} {d : Nat} {x1 x2 : Int} {I R : PF} {Q : PV → PF → PF → Prop} (hs : Shp R) (b1 : (0 : Int) ≤ ((I 306 110) - 1) ∧ ((I 306 110) - 1) < 1700) (h : PN X d mX11_qTold 162 [(2, 306), (0, x1), (0, x2)] [] (u2 I 381 ((I 306 110) - 1) (1 - (I 381 ((I 306 110) - 1)))) R Q) : PN X d mX11_qTold 130 [(2, 306), (0, x1), (0, x2)] [] I R Q := by
  refine P_aload_n (n := 0) (q := 131) rfl rfl (by decide +kernel) ?_
  refine B_getfR (q := 134) fX11_414 kM306 (rM306_109 hs) rfl (by decide +kernel) ?_
  refine P_aload_n (n := 0) (q := 135) rfl rfl (by decide +kernel) ?_
  refine P_getf (q := 138) fX11_423 kM306 rfl (by decide +kernel) ?_
  refine P_iconst (n := 1) (q := 139) rfl (by decide +kernel) ?_
  refine P_isub (q := 140) rfl (by decide +kernel) ?_
  refine P_lconst (n := 1) (x := 1) (q := 141) rfl rfl (by decide +kernel) ?_
  refine P_aload_n (n := 0) (q := 142) rfl rfl (by decide +kernel) ?_
  refine B_getfR (q := 145) fX11_414 kM306 (rM306_109 hs) rfl (by decide +kernel) ?_
  refine P_aload_n (n := 0) (q := 146) rfl rfl (by decide +kernel) ?_
  refine P_getf (q := 149) fX11_423 kM306 rfl (by decide +kernel) ?_
  refine P_iconst (n := 1) (q := 150) rfl (by decide +kernel) ?_
  refine P_isub (q := 151) rfl (by decide +kernel) ?_
  refine B_laload (q := 152) kM381 nM381 (by decide) b1 rfl (by decide +kernel) ?_
  refine P_lsub (q := 153) rfl (by decide +kernel) ?_
  refine B_lastore (q := 154) kM381 nM381 (by decide) b1 rfl (by decide +kernel) ?_
  refine P_goto (off := 8) (t := 162) (by decide) (by decide +kernel) ?_
  exact (PW_sub (ls' := [(2, 306), (0, x1), (0, x2)]) ⟨Or.inr rfl, Or.inr rfl, Or.inr rfl, trivial⟩ h)
theorem S_X11_qTold_157 {X : CX} {d d1 : Nat} {x1 x2 x3 : Int} {I R : PF} {Q Q1 : PV → PF → PF → Prop} (e1 : d1 + 1 ≤ d) (hc : CN X d1 mX11_qJoins [(2, 306), (0, x3)] I R Q1) (h : ∀ z I2 R2, Q1 (9, z) I2 R2 → PN X d mX11_qTold 162 [(2, 306), (0, x1), (0, x2)] [] I2 R2 Q) : PN X d mX11_qTold 157 [(2, 306), (0, x1), (0, x2), (0, x3)] [] I R Q := by
  refine P_aload_n (n := 0) (q := 158) rfl rfl (by decide +kernel) ?_
  refine P_iload_n (n := 3) (q := 159) rfl rfl (by decide +kernel) ?_
  refine P_invV (As := [(0, x3)]) (q := 162) oX11_qJoins rfl kM306 kX11_434 e1 hMF (Nat.le_of_ble_eq_true rfl) hc rfl (by decide +kernel) (fun z I2 R2 hq => ?_)
  exact (PW_sub (ls' := [(2, 306), (0, x1), (0, x2)]) ⟨Or.inr rfl, Or.inr rfl, Or.inr rfl, trivial⟩ (h z I2 R2 hq))
theorem S_X11_qTold_162 {X : CX} {d : Nat} {x1 x2 : Int} {I R : PF} {Q : PV → PF → PF → Prop} (h : PN X d mX11_qTold 7 [(2, 306), (0, x1), (0, (x2 + 1))] [] I R Q) : PN X d mX11_qTold 162 [(2, 306), (0, x1), (0, x2)] [] I R Q := by
  refine P_iinc (n := 2) (a := 1) (by decide) rfl (q := 165) rfl (by decide +kernel) ?_
  refine P_goto (off := (-158)) (t := 7) (by decide) (by decide +kernel) ?_
  exact (PW_sub (ls' := [(2, 306), (0, x1), (0, (x2 + 1))]) ⟨Or.inr rfl, Or.inr rfl, Or.inr rfl, trivial⟩ h)
theorem S_X11_qTold_168 {X : CX} {d : Nat} {I R : PF} {Q : PV → PF → PF → Prop} (hs : Shp R) (h : Q (1, (I 381 0)) I R) : PN X d mX11_qTold 168 [(2, 306)] [] I R Q := by
  refine P_aload_n (n := 0) (q := 169) rfl rfl (by decide +kernel) ?_
  refine B_getfR (q := 172) fX11_414 kM306 (rM306_109 hs) rfl (by decide +kernel) ?_
  refine P_iconst (n := 0) (q := 173) rfl (by decide +kernel) ?_
  refine B_laload (q := 174) kM381 nM381 (by decide) ⟨by decide, by decide⟩ rfl (by decide +kernel) ?_
  refine P_lret rfl (by decide +kernel) h
theorem S_X11_qWordHere_0 {X : CX} {d d1 : Nat} {I R : PF} {Q Q1 : PV → PF → PF → Prop} (hs : Shp R) (e1 : d1 + 1 ≤ d) (hc : CN X d1 mX11_isHere [(2, 306), (2, 367)] I R Q1) (h : ∀ z I2 R2, Q1 (0, z) I2 R2 → PN X d mX11_qWordHere 8 [(2, 306)] [(0, z)] I2 R2 Q) : PN X d mX11_qWordHere 0 [(2, 306)] [] I R Q := by
  refine P_aload_n (n := 0) (q := 1) rfl rfl (by decide +kernel) ?_
  refine P_aload_n (n := 0) (q := 2) rfl rfl (by decide +kernel) ?_
  refine B_getfR (q := 5) fX11_375 kM306 (rM306_91 hs) rfl (by decide +kernel) ?_
  refine P_invV (As := [(2, 367)]) (q := 8) oX11_isHere rfl kM306 kX11_37 e1 hMF (Nat.le_of_ble_eq_true rfl) hc rfl (by decide +kernel) (fun z I2 R2 hq => ?_)
  exact (h z I2 R2 hq)
theorem S_X11_qWordHere_8 {X : CX} {d : Nat} {o0 : Int} {I R : PF} {Q : PV → PF → PF → Prop} (c1 : -2147483648 ≤ o0 ∧ o0 < 2147483648) (h1 : o0 = 0 → PN X d mX11_qWordHere 13 [(2, 306)] [] I R Q) (h2 : o0 ≠ 0 → PN X d mX11_qWordHere 11 [] [] I R Q) : PN X d mX11_qWordHere 8 [(2, 306)] [(0, o0)] I R Q := by
  refine B_if_eq (off := 5) (t := 13) (q := 11) c1 (by decide) rfl (by decide +kernel) ?_ ?_
  · exact fun g9 => (h1 g9)
  · exact fun g9 => (PW_sub (ls' := []) trivial (h2 g9))
theorem S_X11_qWordHere_11 {X : CX} {d : Nat} {I R : PF} {Q : PV → PF → PF → Prop} (h : Q (0, 0) I R) : PN X d mX11_qWordHere 11 [] [] I R Q := by
  refine P_iconst (n := 0) (q := 12) rfl (by decide +kernel) ?_
  refine P_iret rfl (by decide +kernel) h
theorem S_X11_qWordHere_13 {X : CX} {d d1 : Nat} {I R : PF} {Q Q1 : PV → PF → PF → Prop} (hs : Shp R) (e1 : d1 + 1 ≤ d) (hc : CN X d1 mX11_isHere [(2, 306), (2, 368)] I R Q1) (h : ∀ z I2 R2, Q1 (0, z) I2 R2 → PN X d mX11_qWordHere 21 [(2, 306)] [(0, z)] I2 R2 Q) : PN X d mX11_qWordHere 13 [(2, 306)] [] I R Q := by
  refine P_aload_n (n := 0) (q := 14) rfl rfl (by decide +kernel) ?_
  refine P_aload_n (n := 0) (q := 15) rfl rfl (by decide +kernel) ?_
  refine B_getfR (q := 18) fX11_378 kM306 (rM306_92 hs) rfl (by decide +kernel) ?_
  refine P_invV (As := [(2, 368)]) (q := 21) oX11_isHere rfl kM306 kX11_37 e1 hMF (Nat.le_of_ble_eq_true rfl) hc rfl (by decide +kernel) (fun z I2 R2 hq => ?_)
  exact (h z I2 R2 hq)
theorem S_X11_qWordHere_21 {X : CX} {d : Nat} {o0 : Int} {I R : PF} {Q : PV → PF → PF → Prop} (c1 : -2147483648 ≤ o0 ∧ o0 < 2147483648) (h1 : o0 = 0 → PN X d mX11_qWordHere 26 [(2, 306)] [] I R Q) (h2 : o0 ≠ 0 → PN X d mX11_qWordHere 24 [] [] I R Q) : PN X d mX11_qWordHere 21 [(2, 306)] [(0, o0)] I R Q := by
  refine B_if_eq (off := 5) (t := 26) (q := 24) c1 (by decide) rfl (by decide +kernel) ?_ ?_
  · exact fun g9 => (h1 g9)
  · exact fun g9 => (PW_sub (ls' := []) trivial (h2 g9))
theorem S_X11_qWordHere_24 {X : CX} {d : Nat} {I R : PF} {Q : PV → PF → PF → Prop} (h : Q (0, 1) I R) : PN X d mX11_qWordHere 24 [] [] I R Q := by
  refine P_iconst (n := 1) (q := 25) rfl (by decide +kernel) ?_
  refine P_iret rfl (by decide +kernel) h
theorem S_X11_qWordHere_26 {X : CX} {d d1 : Nat} {I R : PF} {Q Q1 : PV → PF → PF → Prop} (hs : Shp R) (e1 : d1 + 1 ≤ d) (hc : CN X d1 mX11_isHere [(2, 306), (2, 369)] I R Q1) (h : ∀ z I2 R2, Q1 (0, z) I2 R2 → PN X d mX11_qWordHere 34 [(2, 306)] [(0, z)] I2 R2 Q) : PN X d mX11_qWordHere 26 [(2, 306)] [] I R Q := by
  refine P_aload_n (n := 0) (q := 27) rfl rfl (by decide +kernel) ?_
  refine P_aload_n (n := 0) (q := 28) rfl rfl (by decide +kernel) ?_
  refine B_getfR (q := 31) fX11_381 kM306 (rM306_93 hs) rfl (by decide +kernel) ?_
  refine P_invV (As := [(2, 369)]) (q := 34) oX11_isHere rfl kM306 kX11_37 e1 hMF (Nat.le_of_ble_eq_true rfl) hc rfl (by decide +kernel) (fun z I2 R2 hq => ?_)
  exact (h z I2 R2 hq)
theorem S_X11_qWordHere_34 {X : CX} {d : Nat} {o0 : Int} {I R : PF} {Q : PV → PF → PF → Prop} (c1 : -2147483648 ≤ o0 ∧ o0 < 2147483648) (h1 : o0 = 0 → PN X d mX11_qWordHere 39 [(2, 306)] [] I R Q) (h2 : o0 ≠ 0 → PN X d mX11_qWordHere 37 [] [] I R Q) : PN X d mX11_qWordHere 34 [(2, 306)] [(0, o0)] I R Q := by
  refine B_if_eq (off := 5) (t := 39) (q := 37) c1 (by decide) rfl (by decide +kernel) ?_ ?_
  · exact fun g9 => (h1 g9)
  · exact fun g9 => (PW_sub (ls' := []) trivial (h2 g9))
theorem S_X11_qWordHere_37 {X : CX} {d : Nat} {I R : PF} {Q : PV → PF → PF → Prop} (h : Q (0, 2) I R) : PN X d mX11_qWordHere 37 [] [] I R Q := by
  refine P_iconst (n := 2) (q := 38) rfl (by decide +kernel) ?_
  refine P_iret rfl (by decide +kernel) h
theorem S_X11_qWordHere_39 {X : CX} {d d1 : Nat} {I R : PF} {Q Q1 : PV → PF → PF → Prop} (hs : Shp R) (e1 : d1 + 1 ≤ d) (hc : CN X d1 mX11_isHere [(2, 306), (2, 370)] I R Q1) (h : ∀ z I2 R2, Q1 (0, z) I2 R2 → PN X d mX11_qWordHere 47 [(2, 306)] [(0, z)] I2 R2 Q) : PN X d mX11_qWordHere 39 [(2, 306)] [] I R Q := by
  refine P_aload_n (n := 0) (q := 40) rfl rfl (by decide +kernel) ?_
  refine P_aload_n (n := 0) (q := 41) rfl rfl (by decide +kernel) ?_
  refine B_getfR (q := 44) fX11_384 kM306 (rM306_94 hs) rfl (by decide +kernel) ?_
  refine P_invV (As := [(2, 370)]) (q := 47) oX11_isHere rfl kM306 kX11_37 e1 hMF (Nat.le_of_ble_eq_true rfl) hc rfl (by decide +kernel) (fun z I2 R2 hq => ?_)
  exact (h z I2 R2 hq)
theorem S_X11_qWordHere_47 {X : CX} {d : Nat} {o0 : Int} {I R : PF} {Q : PV → PF → PF → Prop} (c1 : -2147483648 ≤ o0 ∧ o0 < 2147483648) (h1 : o0 = 0 → PN X d mX11_qWordHere 52 [(2, 306)] [] I R Q) (h2 : o0 ≠ 0 → PN X d mX11_qWordHere 50 [] [] I R Q) : PN X d mX11_qWordHere 47 [(2, 306)] [(0, o0)] I R Q := by
  refine B_if_eq (off := 5) (t := 52) (q := 50) c1 (by decide) rfl (by decide +kernel) ?_ ?_
  · exact fun g9 => (h1 g9)
  · exact fun g9 => (PW_sub (ls' := []) trivial (h2 g9))
theorem S_X11_qWordHere_50 {X : CX} {d : Nat} {I R : PF} {Q : PV → PF → PF → Prop} (h : Q (0, 3) I R) : PN X d mX11_qWordHere 50 [] [] I R Q := by
  refine P_iconst (n := 3) (q := 51) rfl (by decide +kernel) ?_
  refine P_iret rfl (by decide +kernel) h
theorem S_X11_qWordHere_52 {X : CX} {d d1 : Nat} {I R : PF} {Q Q1 : PV → PF → PF → Prop} (hs : Shp R) (e1 : d1 + 1 ≤ d) (hc : CN X d1 mX11_isHere [(2, 306), (2, 371)] I R Q1) (h : ∀ z I2 R2, Q1 (0, z) I2 R2 → PN X d mX11_qWordHere 60 [(2, 306)] [(0, z)] I2 R2 Q) : PN X d mX11_qWordHere 52 [(2, 306)] [] I R Q := by
  refine P_aload_n (n := 0) (q := 53) rfl rfl (by decide +kernel) ?_
  refine P_aload_n (n := 0) (q := 54) rfl rfl (by decide +kernel) ?_
  refine B_getfR (q := 57) fX11_387 kM306 (rM306_95 hs) rfl (by decide +kernel) ?_
  refine P_invV (As := [(2, 371)]) (q := 60) oX11_isHere rfl kM306 kX11_37 e1 hMF (Nat.le_of_ble_eq_true rfl) hc rfl (by decide +kernel) (fun z I2 R2 hq => ?_)
  exact (h z I2 R2 hq)
theorem S_X11_qWordHere_60 {X : CX} {d : Nat} {o0 : Int} {I R : PF} {Q : PV → PF → PF → Prop} (c1 : -2147483648 ≤ o0 ∧ o0 < 2147483648) (h1 : o0 = 0 → PN X d mX11_qWordHere 65 [(2, 306)] [] I R Q) (h2 : o0 ≠ 0 → PN X d mX11_qWordHere 63 [] [] I R Q) : PN X d mX11_qWordHere 60 [(2, 306)] [(0, o0)] I R Q := by
  refine B_if_eq (off := 5) (t := 65) (q := 63) c1 (by decide) rfl (by decide +kernel) ?_ ?_
  · exact fun g9 => (h1 g9)
  · exact fun g9 => (PW_sub (ls' := []) trivial (h2 g9))
theorem S_X11_qWordHere_63 {X : CX} {d : Nat} {I R : PF} {Q : PV → PF → PF → Prop} (h : Q (0, 4) I R) : PN X d mX11_qWordHere 63 [] [] I R Q := by
  refine P_iconst (n := 4) (q := 64) rfl (by decide +kernel) ?_
  refine P_iret rfl (by decide +kernel) h
theorem S_X11_qWordHere_65 {X : CX} {d d1 : Nat} {I R : PF} {Q Q1 : PV → PF → PF → Prop} (hs : Shp R) (e1 : d1 + 1 ≤ d) (hc : CN X d1 mX11_isHere [(2, 306), (2, 372)] I R Q1) (h : ∀ z I2 R2, Q1 (0, z) I2 R2 → PN X d mX11_qWordHere 73 [(2, 306)] [(0, z)] I2 R2 Q) : PN X d mX11_qWordHere 65 [(2, 306)] [] I R Q := by
  refine P_aload_n (n := 0) (q := 66) rfl rfl (by decide +kernel) ?_
  refine P_aload_n (n := 0) (q := 67) rfl rfl (by decide +kernel) ?_
  refine B_getfR (q := 70) fX11_390 kM306 (rM306_96 hs) rfl (by decide +kernel) ?_
  refine P_invV (As := [(2, 372)]) (q := 73) oX11_isHere rfl kM306 kX11_37 e1 hMF (Nat.le_of_ble_eq_true rfl) hc rfl (by decide +kernel) (fun z I2 R2 hq => ?_)
  exact (h z I2 R2 hq)
theorem S_X11_qWordHere_73 {X : CX} {d : Nat} {o0 : Int} {I R : PF} {Q : PV → PF → PF → Prop} (c1 : -2147483648 ≤ o0 ∧ o0 < 2147483648) (h1 : o0 = 0 → PN X d mX11_qWordHere 78 [(2, 306)] [] I R Q) (h2 : o0 ≠ 0 → PN X d mX11_qWordHere 76 [] [] I R Q) : PN X d mX11_qWordHere 73 [(2, 306)] [(0, o0)] I R Q := by
  refine B_if_eq (off := 5) (t := 78) (q := 76) c1 (by decide) rfl (by decide +kernel) ?_ ?_
  · exact fun g9 => (h1 g9)
  · exact fun g9 => (PW_sub (ls' := []) trivial (h2 g9))
theorem S_X11_qWordHere_76 {X : CX} {d : Nat} {I R : PF} {Q : PV → PF → PF → Prop} (h : Q (0, 5) I R) : PN X d mX11_qWordHere 76 [] [] I R Q := by
  refine P_iconst (n := 5) (q := 77) rfl (by decide +kernel) ?_
  refine P_iret rfl (by decide +kernel) h
theorem S_X11_qWordHere_78 {X : CX} {d d1 : Nat} {I R : PF} {Q Q1 : PV → PF → PF → Prop} (hs : Shp R) (e1 : d1 + 1 ≤ d) (hc : CN X d1 mX11_isHere [(2, 306), (2, 373)] I R Q1) (h : ∀ z I2 R2, Q1 (0, z) I2 R2 → PN X d mX11_qWordHere 86 [(2, 306)] [(0, z)] I2 R2 Q) : PN X d mX11_qWordHere 78 [(2, 306)] [] I R Q := by
  refine P_aload_n (n := 0) (q := 79) rfl rfl (by decide +kernel) ?_
  refine P_aload_n (n := 0) (q := 80) rfl rfl (by decide +kernel) ?_
  refine B_getfR (q := 83) fX11_393 kM306 (rM306_97 hs) rfl (by decide +kernel) ?_
  refine P_invV (As := [(2, 373)]) (q := 86) oX11_isHere rfl kM306 kX11_37 e1 hMF (Nat.le_of_ble_eq_true rfl) hc rfl (by decide +kernel) (fun z I2 R2 hq => ?_)
  exact (h z I2 R2 hq)
theorem S_X11_qWordHere_86 {X : CX} {d : Nat} {o0 : Int} {I R : PF} {Q : PV → PF → PF → Prop} (c1 : -2147483648 ≤ o0 ∧ o0 < 2147483648) (h1 : o0 = 0 → PN X d mX11_qWordHere 92 [(2, 306)] [] I R Q) (h2 : o0 ≠ 0 → PN X d mX11_qWordHere 89 [] [] I R Q) : PN X d mX11_qWordHere 86 [(2, 306)] [(0, o0)] I R Q := by
  refine B_if_eq (off := 6) (t := 92) (q := 89) c1 (by decide) rfl (by decide +kernel) ?_ ?_
  · exact fun g9 => (h1 g9)
  · exact fun g9 => (PW_sub (ls' := []) trivial (h2 g9))
theorem S_X11_qWordHere_89 {X : CX} {d : Nat} {I R : PF} {Q : PV → PF → PF → Prop} (h : Q (0, 6) I R) : PN X d mX11_qWordHere 89 [] [] I R Q := by
  refine P_bipush (n := 6) (q := 91) rfl rfl (by decide +kernel) ?_
  refine P_iret rfl (by decide +kernel) h
theorem S_X11_qWordHere_92 {X : CX} {d d1 : Nat} {I R : PF} {Q Q1 : PV → PF → PF → Prop} (hs : Shp R) (e1 : d1 + 1 ≤ d) (hc : CN X d1 mX11_isHere [(2, 306), (2, 374)] I R Q1) (h : ∀ z I2 R2, Q1 (0, z) I2 R2 → PN X d mX11_qWordHere 100 [(2, 306)] [(0, z)] I2 R2 Q) : PN X d mX11_qWordHere 92 [(2, 306)] [] I R Q := by
  refine P_aload_n (n := 0) (q := 93) rfl rfl (by decide +kernel) ?_
  refine P_aload_n (n := 0) (q := 94) rfl rfl (by decide +kernel) ?_
  refine B_getfR (q := 97) fX11_396 kM306 (rM306_98 hs) rfl (by decide +kernel) ?_
  refine P_invV (As := [(2, 374)]) (q := 100) oX11_isHere rfl kM306 kX11_37 e1 hMF (Nat.le_of_ble_eq_true rfl) hc rfl (by decide +kernel) (fun z I2 R2 hq => ?_)
  exact (h z I2 R2 hq)
theorem S_X11_qWordHere_100 {X : CX} {d : Nat} {o0 : Int} {I R : PF} {Q : PV → PF → PF → Prop} (c1 : -2147483648 ≤ o0 ∧ o0 < 2147483648) (h1 : o0 = 0 → PN X d mX11_qWordHere 106 [(2, 306)] [] I R Q) (h2 : o0 ≠ 0 → PN X d mX11_qWordHere 103 [] [] I R Q) : PN X d mX11_qWordHere 100 [(2, 306)] [(0, o0)] I R Q := by
  refine B_if_eq (off := 6) (t := 106) (q := 103) c1 (by decide) rfl (by decide +kernel) ?_ ?_
  · exact fun g9 => (h1 g9)
  · exact fun g9 => (PW_sub (ls' := []) trivial (h2 g9))
theorem S_X11_qWordHere_103 {X : CX} {d : Nat} {I R : PF} {Q : PV → PF → PF → Prop} (h : Q (0, 7) I R) : PN X d mX11_qWordHere 103 [] [] I R Q := by
  refine P_bipush (n := 7) (q := 105) rfl rfl (by decide +kernel) ?_
  refine P_iret rfl (by decide +kernel) h
theorem S_X11_qWordHere_106 {X : CX} {d d1 : Nat} {I R : PF} {Q Q1 : PV → PF → PF → Prop} (hs : Shp R) (e1 : d1 + 1 ≤ d) (hc : CN X d1 mX11_isHere [(2, 306), (2, 375)] I R Q1) (h : ∀ z I2 R2, Q1 (0, z) I2 R2 → PN X d mX11_qWordHere 114 [(2, 306)] [(0, z)] I2 R2 Q) : PN X d mX11_qWordHere 106 [(2, 306)] [] I R Q := by
  refine P_aload_n (n := 0) (q := 107) rfl rfl (by decide +kernel) ?_
  refine P_aload_n (n := 0) (q := 108) rfl rfl (by decide +kernel) ?_
  refine B_getfR (q := 111) fX11_399 kM306 (rM306_99 hs) rfl (by decide +kernel) ?_
  refine P_invV (As := [(2, 375)]) (q := 114) oX11_isHere rfl kM306 kX11_37 e1 hMF (Nat.le_of_ble_eq_true rfl) hc rfl (by decide +kernel) (fun z I2 R2 hq => ?_)
  exact (h z I2 R2 hq)
theorem S_X11_qWordHere_114 {X : CX} {d : Nat} {o0 : Int} {I R : PF} {Q : PV → PF → PF → Prop} (c1 : -2147483648 ≤ o0 ∧ o0 < 2147483648) (h1 : o0 = 0 → PN X d mX11_qWordHere 120 [(2, 306)] [] I R Q) (h2 : o0 ≠ 0 → PN X d mX11_qWordHere 117 [] [] I R Q) : PN X d mX11_qWordHere 114 [(2, 306)] [(0, o0)] I R Q := by
  refine B_if_eq (off := 6) (t := 120) (q := 117) c1 (by decide) rfl (by decide +kernel) ?_ ?_
  · exact fun g9 => (h1 g9)
  · exact fun g9 => (PW_sub (ls' := []) trivial (h2 g9))
theorem S_X11_qWordHere_117 {X : CX} {d : Nat} {I R : PF} {Q : PV → PF → PF → Prop} (h : Q (0, 8) I R) : PN X d mX11_qWordHere 117 [] [] I R Q := by
  refine P_bipush (n := 8) (q := 119) rfl rfl (by decide +kernel) ?_
  refine P_iret rfl (by decide +kernel) h
theorem S_X11_qWordHere_120 {X : CX} {d d1 : Nat} {I R : PF} {Q Q1 : PV → PF → PF → Prop} (hs : Shp R) (e1 : d1 + 1 ≤ d) (hc : CN X d1 mX11_isHere [(2, 306), (2, 376)] I R Q1) (h : ∀ z I2 R2, Q1 (0, z) I2 R2 → PN X d mX11_qWordHere 128 [(2, 306)] [(0, z)] I2 R2 Q) : PN X d mX11_qWordHere 120 [(2, 306)] [] I R Q := by
  refine P_aload_n (n := 0) (q := 121) rfl rfl (by decide +kernel) ?_
  refine P_aload_n (n := 0) (q := 122) rfl rfl (by decide +kernel) ?_
  refine B_getfR (q := 125) fX11_402 kM306 (rM306_100 hs) rfl (by decide +kernel) ?_
  refine P_invV (As := [(2, 376)]) (q := 128) oX11_isHere rfl kM306 kX11_37 e1 hMF (Nat.le_of_ble_eq_true rfl) hc rfl (by decide +kernel) (fun z I2 R2 hq => ?_)
  exact (h z I2 R2 hq)
theorem S_X11_qWordHere_128 {X : CX} {d : Nat} {o0 : Int} {I R : PF} {Q : PV → PF → PF → Prop} (c1 : -2147483648 ≤ o0 ∧ o0 < 2147483648) (h1 : o0 = 0 → PN X d mX11_qWordHere 134 [(2, 306)] [] I R Q) (h2 : o0 ≠ 0 → PN X d mX11_qWordHere 131 [] [] I R Q) : PN X d mX11_qWordHere 128 [(2, 306)] [(0, o0)] I R Q := by
  refine B_if_eq (off := 6) (t := 134) (q := 131) c1 (by decide) rfl (by decide +kernel) ?_ ?_
  · exact fun g9 => (h1 g9)
  · exact fun g9 => (PW_sub (ls' := []) trivial (h2 g9))
theorem S_X11_qWordHere_131 {X : CX} {d : Nat} {I R : PF} {Q : PV → PF → PF → Prop} (h : Q (0, 9) I R) : PN X d mX11_qWordHere 131 [] [] I R Q := by
  refine P_bipush (n := 9) (q := 133) rfl rfl (by decide +kernel) ?_
  refine P_iret rfl (by decide +kernel) h
theorem S_X11_qWordHere_134 {X : CX} {d d1 : Nat} {I R : PF} {Q Q1 : PV → PF → PF → Prop} (hs : Shp R) (e1 : d1 + 1 ≤ d) (hc : CN X d1 mX11_isHere [(2, 306), (2, 377)] I R Q1) (h : ∀ z I2 R2, Q1 (0, z) I2 R2 → PN X d mX11_qWordHere 142 [(2, 306)] [(0, z)] I2 R2 Q) : PN X d mX11_qWordHere 134 [(2, 306)] [] I R Q := by
  refine P_aload_n (n := 0) (q := 135) rfl rfl (by decide +kernel) ?_
  refine P_aload_n (n := 0) (q := 136) rfl rfl (by decide +kernel) ?_
  refine B_getfR (q := 139) fX11_405 kM306 (rM306_101 hs) rfl (by decide +kernel) ?_
  refine P_invV (As := [(2, 377)]) (q := 142) oX11_isHere rfl kM306 kX11_37 e1 hMF (Nat.le_of_ble_eq_true rfl) hc rfl (by decide +kernel) (fun z I2 R2 hq => ?_)
  exact (h z I2 R2 hq)
theorem S_X11_qWordHere_142 {X : CX} {d : Nat} {o0 : Int} {I R : PF} {Q : PV → PF → PF → Prop} (c1 : -2147483648 ≤ o0 ∧ o0 < 2147483648) (h1 : o0 = 0 → PN X d mX11_qWordHere 148 [(2, 306)] [] I R Q) (h2 : o0 ≠ 0 → PN X d mX11_qWordHere 145 [] [] I R Q) : PN X d mX11_qWordHere 142 [(2, 306)] [(0, o0)] I R Q := by
  refine B_if_eq (off := 6) (t := 148) (q := 145) c1 (by decide) rfl (by decide +kernel) ?_ ?_
  · exact fun g9 => (h1 g9)
  · exact fun g9 => (PW_sub (ls' := []) trivial (h2 g9))
theorem S_X11_qWordHere_145 {X : CX} {d : Nat} {I R : PF} {Q : PV → PF → PF → Prop} (h : Q (0, 10) I R) : PN X d mX11_qWordHere 145 [] [] I R Q := by
  refine P_bipush (n := 10) (q := 147) rfl rfl (by decide +kernel) ?_
  refine P_iret rfl (by decide +kernel) h
theorem S_X11_qWordHere_148 {X : CX} {d d1 : Nat} {I R : PF} {Q Q1 : PV → PF → PF → Prop} (hs : Shp R) (e1 : d1 + 1 ≤ d) (hc : CN X d1 mX11_isHere [(2, 306), (2, 378)] I R Q1) (h : ∀ z I2 R2, Q1 (0, z) I2 R2 → PN X d mX11_qWordHere 156 [] [(0, z)] I2 R2 Q) : PN X d mX11_qWordHere 148 [(2, 306)] [] I R Q := by
  refine P_aload_n (n := 0) (q := 149) rfl rfl (by decide +kernel) ?_
  refine P_aload_n (n := 0) (q := 150) rfl rfl (by decide +kernel) ?_
  refine B_getfR (q := 153) fX11_408 kM306 (rM306_102 hs) rfl (by decide +kernel) ?_
  refine P_invV (As := [(2, 378)]) (q := 156) oX11_isHere rfl kM306 kX11_37 e1 hMF (Nat.le_of_ble_eq_true rfl) hc rfl (by decide +kernel) (fun z I2 R2 hq => ?_)
  exact (PW_sub (ls' := []) trivial (h z I2 R2 hq))
theorem S_X11_qWordHere_156 {X : CX} {d : Nat} {o0 : Int} {I R : PF} {Q : PV → PF → PF → Prop} (c1 : -2147483648 ≤ o0 ∧ o0 < 2147483648) (h1 : o0 = 0 → PN X d mX11_qWordHere 162 [] [] I R Q) (h2 : o0 ≠ 0 → PN X d mX11_qWordHere 159 [] [] I R Q) : PN X d mX11_qWordHere 156 [] [(0, o0)] I R Q := by
  refine B_if_eq (off := 6) (t := 162) (q := 159) c1 (by decide) rfl (by decide +kernel) ?_ ?_
  · exact fun g9 => (PW_sub (ls' := []) trivial (h1 g9))
  · exact fun g9 => (PW_sub (ls' := []) trivial (h2 g9))
theorem S_X11_qWordHere_159 {X : CX} {d : Nat} {I R : PF} {Q : PV → PF → PF → Prop} (h : Q (0, 11) I R) : PN X d mX11_qWordHere 159 [] [] I R Q := by
  refine P_bipush (n := 11) (q := 161) rfl rfl (by decide +kernel) ?_
  refine P_iret rfl (by decide +kernel) h
theorem S_X11_qWordHere_162 {X : CX} {d : Nat} {I R : PF} {Q : PV → PF → PF → Prop} (h : Q (0, (-1)) I R) : PN X d mX11_qWordHere 162 [] [] I R Q := by
  refine P_iconst (n := (-1)) (q := 163) rfl (by decide +kernel) ?_
  refine P_iret rfl (by decide +kernel) h
theorem S_X11_qWordOf_0 {X : CX} {d d1 : Nat} {x1 x2 : Int} {I R : PF} {Q Q1 : PV → PF → PF → Prop} (e1 : d1 + 1 ≤ d) (hc : CN X d1 mX11_qWordHere [(2, 306)] I R Q1) (h : ∀ z I2 R2, Q1 (0, z) I2 R2 → PN X d mX11_qWordOf 4 [(2, 306), (0, x1), (0, x2)] [(0, z)] I2 R2 Q) : PN X d mX11_qWordOf 0 [(2, 306), (0, x1), (0, x2)] [] I R Q := by
  refine P_aload_n (n := 0) (q := 1) rfl rfl (by decide +kernel) ?_
  refine P_invV (As := []) (q := 4) oX11_qWordHere rfl kM306 kX11_614 e1 hMF (Nat.le_of_ble_eq_true rfl) hc rfl (by decide +kernel) (fun z I2 R2 hq => ?_)
  exact (h z I2 R2 hq)
theorem S_X11_qWordOf_4 {X : CX} {d : Nat} {x1 x2 o0 : Int} {I R : PF} {Q : PV → PF → PF → Prop} (c1 : -2147483648 ≤ o0 ∧ o0 < 2147483648) (c2 : -2147483648 ≤ x1 ∧ x1 < 2147483648) (h1 : o0 < x1 → PN X d mX11_qWordOf 27 [] [] I R Q) (h2 : x1 ≤ o0 → PN X d mX11_qWordOf 10 [(2, 306), (9, 0), (0, x2), (0, o0)] [] I R Q) : PN X d mX11_qWordOf 4 [(2, 306), (0, x1), (0, x2)] [(0, o0)] I R Q := by
  refine P_istore_n (n := 3) (by decide) (q := 5) rfl (by decide +kernel) ?_
  refine P_iload_n (n := 3) (q := 6) rfl rfl (by decide +kernel) ?_
  refine P_iload_n (n := 1) (q := 7) rfl rfl (by decide +kernel) ?_
  refine B_icmp_lt (off := 20) (t := 27) (q := 10) c1 c2 (by decide) rfl (by decide +kernel) ?_ ?_
  · exact fun g9 => (PW_sub (ls' := []) trivial (h1 g9))
  · exact fun g9 => (PW_sub (ls' := [(2, 306), (9, 0), (0, x2), (0, o0)]) ⟨Or.inr rfl, Or.inl rfl, Or.inr rfl, Or.inr rfl, trivial⟩ (h2 g9))
theorem S_X11_qWordOf_10 {X : CX} {d : Nat} {x2 x3 : Int} {I R : PF} {Q : PV → PF → PF → Prop} (c1 : -2147483648 ≤ x3 ∧ x3 < 2147483648) (c2 : -2147483648 ≤ x2 ∧ x2 < 2147483648) (h1 : x2 ≤ x3 → PN X d mX11_qWordOf 27 [] [] I R Q) (h2 : x3 < x2 → PN X d mX11_qWordOf 15 [(2, 306), (9, 0), (9, 0), (0, x3)] [] I R Q) : PN X d mX11_qWordOf 10 [(2, 306), (9, 0), (0, x2), (0, x3)] [] I R Q := by
  refine P_iload_n (n := 3) (q := 11) rfl rfl (by decide +kernel) ?_
  refine P_iload_n (n := 2) (q := 12) rfl rfl (by decide +kernel) ?_
  refine B_icmp_ge (off := 15) (t := 27) (q := 15) c1 c2 (by decide) rfl (by decide +kernel) ?_ ?_
  · exact fun g9 => (PW_sub (ls' := []) trivial (h1 g9))
  · exact fun g9 => (PW_sub (ls' := [(2, 306), (9, 0), (9, 0), (0, x3)]) ⟨Or.inr rfl, Or.inl rfl, Or.inl rfl, Or.inr rfl, trivial⟩ (h2 g9))
theorem S_X11_qWordOf_15 {X : CX} {d d1 : Nat} {x3 : Int} {I R : PF} {Q Q1 : PV → PF → PF → Prop} (e1 : d1 + 1 ≤ d) (hc : CN X d1 mX11_isAllowed [(2, 306), (0, x3)] I R Q1) (h : ∀ z I2 R2, Q1 (0, z) I2 R2 → PN X d mX11_qWordOf 20 [(9, 0), (9, 0), (9, 0), (0, x3)] [(0, z)] I2 R2 Q) : PN X d mX11_qWordOf 15 [(2, 306), (9, 0), (9, 0), (0, x3)] [] I R Q := by
  refine P_aload_n (n := 0) (q := 16) rfl rfl (by decide +kernel) ?_
  refine P_iload_n (n := 3) (q := 17) rfl rfl (by decide +kernel) ?_
  refine P_invV (As := [(0, x3)]) (q := 20) oX11_isAllowed rfl kM306 kX11_617 e1 hMF (Nat.le_of_ble_eq_true rfl) hc rfl (by decide +kernel) (fun z I2 R2 hq => ?_)
  exact (PW_sub (ls' := [(9, 0), (9, 0), (9, 0), (0, x3)]) ⟨Or.inl rfl, Or.inl rfl, Or.inl rfl, Or.inr rfl, trivial⟩ (h z I2 R2 hq))
theorem S_X11_qWordOf_20 {X : CX} {d : Nat} {x3 o0 : Int} {I R : PF} {Q : PV → PF → PF → Prop} (c1 : -2147483648 ≤ o0 ∧ o0 < 2147483648) (h1 : o0 = 0 → PN X d mX11_qWordOf 27 [] [] I R Q) (h2 : o0 ≠ 0 → PN X d mX11_qWordOf 23 [(9, 0), (9, 0), (9, 0), (0, x3)] [] I R Q) : PN X d mX11_qWordOf 20 [(9, 0), (9, 0), (9, 0), (0, x3)] [(0, o0)] I R Q := by
  refine B_if_eq (off := 7) (t := 27) (q := 23) c1 (by decide) rfl (by decide +kernel) ?_ ?_
  · exact fun g9 => (PW_sub (ls' := []) trivial (h1 g9))
  · exact fun g9 => (h2 g9)
theorem S_X11_qWordOf_23 {X : CX} {d : Nat} {x3 : Int} {I R : PF} {Q : PV → PF → PF → Prop} (h : PN X d mX11_qWordOf 28 [] [(0, x3)] I R Q) : PN X d mX11_qWordOf 23 [(9, 0), (9, 0), (9, 0), (0, x3)] [] I R Q := by
  refine P_iload_n (n := 3) (q := 24) rfl rfl (by decide +kernel) ?_
  refine P_goto (off := 4) (t := 28) (by decide) (by decide +kernel) ?_
  exact (PW_sub (ls' := []) trivial h)
theorem S_X11_qWordOf_27 {X : CX} {d : Nat} {I R : PF} {Q : PV → PF → PF → Prop} (h : PN X d mX11_qWordOf 28 [] [(0, (-1))] I R Q) : PN X d mX11_qWordOf 27 [] [] I R Q := by
  refine P_iconst (n := (-1)) (q := 28) rfl (by decide +kernel) ?_
  exact (PW_sub (ls' := []) trivial h)
theorem S_X11_qWordOf_28 {X : CX} {d : Nat} {o0 : Int} {I R : PF} {Q : PV → PF → PF → Prop} (h : Q (0, o0) I R) : PN X d mX11_qWordOf 28 [] [(0, o0)] I R Q := by
  refine P_iret rfl (by decide +kernel) h
theorem S_X11_refuses_0 {X : CX} {d : Nat} {x1 : Int} {I R : PF} {Q : PV → PF → PF → Prop} (hs : Shp R) (b1 : (0 : Int) ≤ x1 ∧ x1 < 6) (h : Q (0, (-1)) (u2 I 308 x1 ((I 308 x1) + 1)) R) : PN X d mX11_refuses 0 [(2, 306), (0, x1)] [] I R Q := by
  refine P_aload_n (n := 0) (q := 1) rfl rfl (by decide +kernel) ?_
  refine B_getfR (q := 4) fX11_7 kM306 (rM306_9 hs) rfl (by decide +kernel) ?_
  refine P_iload_n (n := 1) (q := 5) rfl rfl (by decide +kernel) ?_
  refine P_dup2 (q := 6) (Nat.ne_of_beq_eq_false rfl) (Nat.ne_of_beq_eq_false rfl) rfl (by decide +kernel) ?_
  refine B_iaload (q := 7) kM308 nM308 (by decide) b1 rfl (by decide +kernel) ?_
  refine P_iconst (n := 1) (q := 8) rfl (by decide +kernel) ?_
  refine P_iadd (q := 9) rfl (by decide +kernel) ?_
  refine B_iastore (q := 10) kM308 nM308 (by decide) b1 rfl (by decide +kernel) ?_
  refine P_iconst (n := (-1)) (q := 11) rfl (by decide +kernel) ?_
  refine P_iret rfl (by decide +kernel) h
theorem S_X11_rowOf_0 {X : CX} {d : Nat} {x1 : Int} {I R : PF} {Q : PV → PF → PF → Prop} (hs : Shp R) (b1 : (0 : Int) ≤ ((3 + (5 * x1)) + 1) ∧ ((3 + (5 * x1)) + 1) < 154) (h : Q (0, (I 348 ((3 + (5 * x1)) + 1))) I R) : PN X d mX11_rowOf 0 [(2, 306), (0, x1)] [] I R Q := by
  refine P_aload_n (n := 0) (q := 1) rfl rfl (by decide +kernel) ?_
  refine B_getfR (q := 4) fX11_303 kM306 (rM306_59 hs) rfl (by decide +kernel) ?_
  refine P_iconst (n := 3) (q := 5) rfl (by decide +kernel) ?_
  refine P_iconst (n := 5) (q := 6) rfl (by decide +kernel) ?_
  refine P_iload_n (n := 1) (q := 7) rfl rfl (by decide +kernel) ?_
  refine P_imul (q := 8) rfl (by decide +kernel) ?_
  refine P_iadd (q := 9) rfl (by decide +kernel) ?_
  refine P_iconst (n := 1) (q := 10) rfl (by decide +kernel) ?_
  refine P_iadd (q := 11) rfl (by decide +kernel) ?_
  refine B_iaload (q := 12) kM348 nM348 (by decide) b1 rfl (by decide +kernel) ?_
  refine P_iret rfl (by decide +kernel) h
theorem S_X11_see_0 {X : CX} {d : Nat} {I R : PF} {Q : PV → PF → PF → Prop} (c1 : -2147483648 ≤ ((u2 I 306 1 0) 306 55) ∧ ((u2 I 306 1 0) 306 55) < 2147483648) (h1 : ((u2 I 306 1 0) 306 55) = 0 → PN X d mX11_see 47 [(2, 306), (0, (I 306 1))] [] (u2 I 306 1 0) R Q) (h2 : ((u2 I 306 1 0) 306 55) ≠ 0 → PN X d mX11_see 17 [(2, 306), (0, (I 306 1))] [] (u2 I 306 1 0) R Q) : PN X d mX11_see 0 [(2, 306)] [] I R Q := by
  refine P_aload_n (n := 0) (q := 1) rfl rfl (by decide +kernel) ?_
  refine P_getf (q := 4) fX11_1 kM306 rfl (by decide +kernel) ?_
  refine P_istore_n (n := 1) (by decide) (q := 5) rfl (by decide +kernel) ?_
  refine P_aload_n (n := 0) (q := 6) rfl rfl (by decide +kernel) ?_
  refine P_iconst (n := 0) (q := 7) rfl (by decide +kernel) ?_
  refine P_putI (q := 10) wX11_1 (fun h => by cases h) kM306 rfl (by decide +kernel) ?_
  refine P_aload_n (n := 0) (q := 11) rfl rfl (by decide +kernel) ?_
  refine P_getf (q := 14) fX11_296 kM306 rfl (by decide +kernel) ?_
  refine B_if_eq (off := 33) (t := 47) (q := 17) c1 (by decide) rfl (by decide +kernel) ?_ ?_
  · exact fun g9 => (h1 g9)
  · exact fun g9 => (h2 g9)
theorem S_X11_see_17 {X : CX} {d d1 : Nat} {x1 : Int} {I R : PF} {Q Q1 : PV → PF → PF → Prop} (c1 : -2147483648 ≤ x1 ∧ x1 < 2147483648) (e1 : d1 + 1 ≤ d) (hc : CN X d1 mX11_isIn [(1, x1), (1, 1), (1, 7)] I R Q1) (h : ∀ z I2 R2, Q1 (0, z) I2 R2 → PN X d mX11_see 26 [(2, 306), (0, x1)] [(0, z)] I2 R2 Q) : PN X d mX11_see 17 [(2, 306), (0, x1)] [] I R Q := by
  refine P_iload_n (n := 1) (q := 18) rfl rfl (by decide +kernel) ?_
  refine B_i2l (q := 19) c1 rfl (by decide +kernel) ?_
  refine P_lconst (n := 1) (x := 1) (q := 20) rfl rfl (by decide +kernel) ?_
  refine P_ldc2 (ix := 580) (v := 7) (x := 7) (q := 23) rfl (tGp8 209 rfl rfl) rfl (by decide +kernel) ?_
  refine P_invS (As := [(1, x1), (1, 1), (1, 7)]) (q := 26) oX11_isIn rfl (Or.inl kX11_57) e1 hMF (Nat.le_of_ble_eq_true rfl) hc rfl (by decide +kernel) (fun z I2 R2 hq => ?_)
  exact (h z I2 R2 hq)
theorem S_X11_see_26 {X : CX} {d : Nat} {x1 o0 : Int} {I R : PF} {Q : PV → PF → PF → Prop} (c1 : -2147483648 ≤ o0 ∧ o0 < 2147483648) (h1 : o0 = 0 → PN X d mX11_see 47 [(2, 306), (0, x1)] [] I R Q) (h2 : o0 ≠ 0 → PN X d mX11_see 29 [(2, 306), (0, x1)] [] I R Q) : PN X d mX11_see 26 [(2, 306), (0, x1)] [(0, o0)] I R Q := by
  refine B_if_eq (off := 21) (t := 47) (q := 29) c1 (by decide) rfl (by decide +kernel) ?_ ?_
  · exact fun g9 => (h1 g9)
  · exact fun g9 => (h2 g9)
theorem S_X11_see_29 {X : CX} {d : Nat} {x1 : Int} {I R : PF} {Q : PV → PF → PF → Prop} (hs : Shp R) (c1 : -2147483648 ≤ ((I 348 0) + x1) ∧ ((I 348 0) + x1) < 2147483648) (h1 : 999 < ((I 348 0) + x1) → PN X d mX11_see 47 [(2, 306), (0, x1)] [] I R Q) (h2 : ((I 348 0) + x1) ≤ 999 → PN X d mX11_see 43 [(2, 306), (0, x1)] [] I R Q) : PN X d mX11_see 29 [(2, 306), (0, x1)] [] I R Q := by
  refine P_aload_n (n := 0) (q := 30) rfl rfl (by decide +kernel) ?_
  refine B_getfR (q := 33) fX11_303 kM306 (rM306_59 hs) rfl (by decide +kernel) ?_
  refine P_iconst (n := 0) (q := 34) rfl (by decide +kernel) ?_
  refine B_iaload (q := 35) kM348 nM348 (by decide) ⟨by decide, by decide⟩ rfl (by decide +kernel) ?_
  refine P_iload_n (n := 1) (q := 36) rfl rfl (by decide +kernel) ?_
  refine P_iadd (q := 37) rfl (by decide +kernel) ?_
  refine P_sipush (n := 999) (q := 40) rfl rfl (by decide +kernel) ?_
  refine B_icmp_gt (off := 7) (t := 47) (q := 43) c1 ⟨by decide, by decide⟩ (by decide) rfl (by decide +kernel) ?_ ?_
  · exact fun g9 => (h1 g9)
  · exact fun g9 => (h2 g9)
theorem S_X11_see_43 {X : CX} {d : Nat} {x1 : Int} {I R : PF} {Q : PV → PF → PF → Prop} (h : PN X d mX11_see 48 [(2, 306), (0, x1)] [(0, 1)] I R Q) : PN X d mX11_see 43 [(2, 306), (0, x1)] [] I R Q := by
  refine P_iconst (n := 1) (q := 44) rfl (by decide +kernel) ?_
  refine P_goto (off := 4) (t := 48) (by decide) (by decide +kernel) ?_
  exact h
theorem S_X11_see_47 {X : CX} {d : Nat} {x1 : Int} {I R : PF} {Q : PV → PF → PF → Prop} (h : PN X d mX11_see 48 [(2, 306), (0, x1)] [(0, 0)] I R Q) : PN X d mX11_see 47 [(2, 306), (0, x1)] [] I R Q := by
  refine P_iconst (n := 0) (q := 48) rfl (by decide +kernel) ?_
  exact h
theorem S_X11_see_48 {X : CX} {d : Nat} {x1 o0 : Int} {I R : PF} {Q : PV → PF → PF → Prop} (h : PN X d mX11_see 51 [(2, 306), (0, x1), (0, o0), (0, 0)] [] I R Q) : PN X d mX11_see 48 [(2, 306), (0, x1)] [(0, o0)] I R Q := by
  refine P_istore_n (n := 2) (by decide) (q := 49) rfl (by decide +kernel) ?_
  refine P_iconst (n := 0) (q := 50) rfl (by decide +kernel) ?_
  refine P_istore_n (n := 3) (by decide) (q := 51) rfl (by decide +kernel) ?_
  exact h
theorem S_X11_see_51 {X : CX} {d : Nat} {x1 x2 x3 : Int} {I R : PF} {Q : PV → PF → PF → Prop} (c1 : -2147483648 ≤ x3 ∧ x3 < 2147483648) (c2 : -2147483648 ≤ x1 ∧ x1 < 2147483648) (h1 : x1 ≤ x3 → PN X d mX11_see 97 [(2, 306), (0, x1), (0, x2)] [] I R Q) (h2 : x3 < x1 → PN X d mX11_see 56 [(2, 306), (0, x1), (0, x2), (0, x3)] [] I R Q) : PN X d mX11_see 51 [(2, 306), (0, x1), (0, x2), (0, x3)] [] I R Q := by
  refine P_iload_n (n := 3) (q := 52) rfl rfl (by decide +kernel) ?_
  refine P_iload_n (n := 1) (q := 53) rfl rfl (by decide +kernel) ?_
  refine B_icmp_ge (off := 44) (t := 97) (q := 56) c1 c2 (by decide) rfl (by decide +kernel) ?_ ?_
  · exact fun g9 => (PW_sub (ls' := [(2, 306), (0, x1), (0, x2)]) ⟨Or.inr rfl, Or.inr rfl, Or.inr rfl, trivial⟩ (h1 g9))
  · exact fun g9 => (h2 g9)
theorem S_X11_see_56 {X : CX} {d : Nat} {x1 x2 x3 : Int} {I R : PF} {Q : PV → PF → PF → Prop} (c1 : -2147483648 ≤ x2 ∧ x2 < 2147483648) (h1 : x2 = 0 → PN X d mX11_see 97 [(2, 306), (0, x1), (0, x2)] [] I R Q) (h2 : x2 ≠ 0 → PN X d mX11_see 60 [(2, 306), (0, x1), (9, 0), (0, x3)] [] I R Q) : PN X d mX11_see 56 [(2, 306), (0, x1), (0, x2), (0, x3)] [] I R Q := by
  refine P_iload_n (n := 2) (q := 57) rfl rfl (by decide +kernel) ?_
  refine B_if_eq (off := 40) (t := 97) (q := 60) c1 (by decide) rfl (by decide +kernel) ?_ ?_
  · exact fun g9 => (PW_sub (ls' := [(2, 306), (0, x1), (0, x2)]) ⟨Or.inr rfl, Or.inr rfl, Or.inr rfl, trivial⟩ (h1 g9))
  · exact fun g9 => (PW_sub (ls' := [(2, 306), (0, x1), (9, 0), (0, x3)]) ⟨Or.inr rfl, Or.inr rfl, Or.inl rfl, Or.inr rfl, trivial⟩ (h2 g9))
theorem S_X11_see_60 {X : CX} {d : Nat} {x1 x3 : Int} {I R : PF} {Q : PV → PF → PF → Prop} (hs : Shp R) (b1 : (0 : Int) ≤ x3 ∧ x3 < 1600) (c1 : -2147483648 ≤ (I 307 x3) ∧ (I 307 x3) < 2147483648) (h1 : (I 307 x3) = 255 → PN X d mX11_see 85 [(2, 306), (0, x1), (9, 0), (0, x3)] [] I R Q) (h2 : (I 307 x3) ≠ 255 → PN X d mX11_see 72 [(2, 306), (0, x1), (9, 0), (0, x3)] [] I R Q) : PN X d mX11_see 60 [(2, 306), (0, x1), (9, 0), (0, x3)] [] I R Q := by
  refine P_aload_n (n := 0) (q := 61) rfl rfl (by decide +kernel) ?_
  refine B_getfR (q := 64) fX11_11 kM306 (rM306_0 hs) rfl (by decide +kernel) ?_
  refine P_iload_n (n := 3) (q := 65) rfl rfl (by decide +kernel) ?_
  refine B_iaload (q := 66) kM307 nM307 (by decide) b1 rfl (by decide +kernel) ?_
  refine P_sipush (n := 255) (q := 69) rfl rfl (by decide +kernel) ?_
  refine B_icmp_eq (off := 16) (t := 85) (q := 72) c1 ⟨by decide, by decide⟩ (by decide) rfl (by decide +kernel) ?_ ?_
  · exact fun g9 => (h1 g9)
  · exact fun g9 => (h2 g9)
theorem S_X11_see_72 {X : CX} {d d1 : Nat} {x1 x3 : Int} {I R : PF} {Q Q1 : PV → PF → PF → Prop} (hs : Shp R) (b1 : (0 : Int) ≤ x3 ∧ x3 < 1600) (e1 : d1 + 1 ≤ d) (hc : CN X d1 mX11_lawMany [(2, 306)] I R Q1) (h : ∀ z I2 R2, Q1 (0, z) I2 R2 → PN X d mX11_see 82 [(2, 306), (0, x1), (9, 0), (0, x3)] [(0, z), (0, (I 307 x3))] I2 R2 Q) : PN X d mX11_see 72 [(2, 306), (0, x1), (9, 0), (0, x3)] [] I R Q := by
  refine P_aload_n (n := 0) (q := 73) rfl rfl (by decide +kernel) ?_
  refine B_getfR (q := 76) fX11_11 kM306 (rM306_0 hs) rfl (by decide +kernel) ?_
  refine P_iload_n (n := 3) (q := 77) rfl rfl (by decide +kernel) ?_
  refine B_iaload (q := 78) kM307 nM307 (by decide) b1 rfl (by decide +kernel) ?_
  refine P_aload_n (n := 0) (q := 79) rfl rfl (by decide +kernel) ?_
  refine P_invV (As := []) (q := 82) oX11_lawMany rfl kM306 kX11_577 e1 hMF (Nat.le_of_ble_eq_true rfl) hc rfl (by decide +kernel) (fun z I2 R2 hq => ?_)
  exact (h z I2 R2 hq)
theorem S_X11_see_82 {X : CX} {d : Nat} {x1 x3 o0 o1 : Int} {I R : PF} {Q : PV → PF → PF → Prop} (c1 : -2147483648 ≤ o0 ∧ o0 < 2147483648) (c2 : -2147483648 ≤ o1 ∧ o1 < 2147483648) (h1 : o1 ≤ o0 → PN X d mX11_see 89 [(2, 306), (0, x1), (9, 0), (0, x3)] [] I R Q) (h2 : o0 < o1 → PN X d mX11_see 85 [(2, 306), (0, x1), (9, 0), (0, x3)] [] I R Q) : PN X d mX11_see 82 [(2, 306), (0, x1), (9, 0), (0, x3)] [(0, o1), (0, o0)] I R Q := by
  refine B_icmp_ge (off := 7) (t := 89) (q := 85) c1 c2 (by decide) rfl (by decide +kernel) ?_ ?_
  · exact fun g9 => (h1 g9)
  · exact fun g9 => (h2 g9)
theorem S_X11_see_85 {X : CX} {d : Nat} {x1 x3 : Int} {I R : PF} {Q : PV → PF → PF → Prop} (h : PN X d mX11_see 90 [(2, 306), (0, x1), (9, 0), (0, x3)] [(0, 1)] I R Q) : PN X d mX11_see 85 [(2, 306), (0, x1), (9, 0), (0, x3)] [] I R Q := by
  refine P_iconst (n := 1) (q := 86) rfl (by decide +kernel) ?_
  refine P_goto (off := 4) (t := 90) (by decide) (by decide +kernel) ?_
  exact h
theorem S_X11_see_89 {X : CX} {d : Nat} {x1 x3 : Int} {I R : PF} {Q : PV → PF → PF → Prop} (h : PN X d mX11_see 90 [(2, 306), (0, x1), (9, 0), (0, x3)] [(0, 0)] I R Q) : PN X d mX11_see 89 [(2, 306), (0, x1), (9, 0), (0, x3)] [] I R Q := by
  refine P_iconst (n := 0) (q := 90) rfl (by decide +kernel) ?_
  exact h
theorem S_X11_see_90 {X : CX} {d : Nat} {x1 x3 o0 : Int} {I R : PF} {Q : PV → PF → PF → Prop} (h : PN X d mX11_see 51 [(2, 306), (0, x1), (0, o0), (0, (x3 + 1))] [] I R Q) : PN X d mX11_see 90 [(2, 306), (0, x1), (9, 0), (0, x3)] [(0, o0)] I R Q := by
  refine P_istore_n (n := 2) (by decide) (q := 91) rfl (by decide +kernel) ?_
  refine P_iinc (n := 3) (a := 1) (by decide) rfl (q := 94) rfl (by decide +kernel) ?_
  refine P_goto (off := (-43)) (t := 51) (by decide) (by decide +kernel) ?_
  exact h
theorem S_X11_see_97 {X : CX} {d : Nat} {x1 x2 : Int} {I R : PF} {Q : PV → PF → PF → Prop} (c1 : -2147483648 ≤ x2 ∧ x2 < 2147483648) (h1 : x2 ≠ 0 → PN X d mX11_see 113 [(2, 306), (0, x1)] [] I R Q) (h2 : x2 = 0 → PN X d mX11_see 101 [(2, 306)] [] I R Q) : PN X d mX11_see 97 [(2, 306), (0, x1), (0, x2)] [] I R Q := by
  refine P_iload_n (n := 2) (q := 98) rfl rfl (by decide +kernel) ?_
  refine B_if_ne (off := 15) (t := 113) (q := 101) c1 (by decide) rfl (by decide +kernel) ?_ ?_
  · exact fun g9 => (PW_sub (ls' := [(2, 306), (0, x1)]) ⟨Or.inr rfl, Or.inr rfl, trivial⟩ (h1 g9))
  · exact fun g9 => (PW_sub (ls' := [(2, 306)]) ⟨Or.inr rfl, trivial⟩ (h2 g9))
theorem S_X11_see_101 {X : CX} {d : Nat} {I R : PF} {Q : PV → PF → PF → Prop} (hs : Shp R) (h : Q (0, (-1)) (u2 I 308 1 ((I 308 1) + 1)) R) : PN X d mX11_see 101 [(2, 306)] [] I R Q := by
  refine P_aload_n (n := 0) (q := 102) rfl rfl (by decide +kernel) ?_
  refine B_getfR (q := 105) fX11_7 kM306 (rM306_9 hs) rfl (by decide +kernel) ?_
  refine P_iconst (n := 1) (q := 106) rfl (by decide +kernel) ?_
  refine P_dup2 (q := 107) (Nat.ne_of_beq_eq_false rfl) (Nat.ne_of_beq_eq_false rfl) rfl (by decide +kernel) ?_
  refine B_iaload (q := 108) kM308 nM308 (by decide) ⟨by decide, by decide⟩ rfl (by decide +kernel) ?_
  refine P_iconst (n := 1) (q := 109) rfl (by decide +kernel) ?_
  refine P_iadd (q := 110) rfl (by decide +kernel) ?_
  refine B_iastore (q := 111) kM308 nM308 (by decide) ⟨by decide, by decide⟩ rfl (by decide +kernel) ?_
  refine P_iconst (n := (-1)) (q := 112) rfl (by decide +kernel) ?_
  refine P_iret rfl (by decide +kernel) h
theorem S_X11_see_113 {X : CX} {d : Nat} {x1 : Int} {I R : PF} {Q : PV → PF → PF → Prop} (h : PN X d mX11_see 115 [(2, 306), (0, x1), (9, 0), (0, 0)] [] I R Q) : PN X d mX11_see 113 [(2, 306), (0, x1)] [] I R Q := by
  refine P_iconst (n := 0) (q := 114) rfl (by decide +kernel) ?_
  refine P_istore_n (n := 3) (by decide) (q := 115) rfl (by decide +kernel) ?_
  exact h
theorem S_X11_see_115 {X : CX} {d : Nat} {x1 x3 : Int} {I R : PF} {Q : PV → PF → PF → Prop} (c1 : -2147483648 ≤ x3 ∧ x3 < 2147483648) (c2 : -2147483648 ≤ x1 ∧ x1 < 2147483648) (h1 : x1 ≤ x3 → PN X d mX11_see 138 [(2, 306), (0, x1)] [] I R Q) (h2 : x3 < x1 → PN X d mX11_see 120 [(2, 306), (0, x1), (9, 0), (0, x3)] [] I R Q) : PN X d mX11_see 115 [(2, 306), (0, x1), (9, 0), (0, x3)] [] I R Q := by
  refine P_iload_n (n := 3) (q := 116) rfl rfl (by decide +kernel) ?_
  refine P_iload_n (n := 1) (q := 117) rfl rfl (by decide +kernel) ?_
  refine B_icmp_ge (off := 21) (t := 138) (q := 120) c1 c2 (by decide) rfl (by decide +kernel) ?_ ?_
  · exact fun g9 => (PW_sub (ls' := [(2, 306), (0, x1)]) ⟨Or.inr rfl, Or.inr rfl, trivial⟩ (h1 g9))
  · exact fun g9 => (h2 g9)
theorem S_X11_see_120 {X : CX} {d : Nat} {x1 x3 : Int} {I R : PF} {Q : PV → PF → PF → Prop} (hs : Shp R) (b1 : (0 : Int) ≤ x3 ∧ x3 < 1600) (b2 : (0 : Int) ≤ x3 ∧ x3 < 7) (h : PN X d mX11_see 115 [(2, 306), (0, x1), (9, 0), (0, (x3 + 1))] [] (u2 I 353 x3 (I 307 x3)) R Q) : PN X d mX11_see 120 [(2, 306), (0, x1), (9, 0), (0, x3)] [] I R Q := by
  refine P_aload_n (n := 0) (q := 121) rfl rfl (by decide +kernel) ?_
  refine B_getfR (q := 124) fX11_329 kM306 (rM306_74 hs) rfl (by decide +kernel) ?_
  refine P_iload_n (n := 3) (q := 125) rfl rfl (by decide +kernel) ?_
  refine P_aload_n (n := 0) (q := 126) rfl rfl (by decide +kernel) ?_
  refine B_getfR (q := 129) fX11_11 kM306 (rM306_0 hs) rfl (by decide +kernel) ?_
  refine P_iload_n (n := 3) (q := 130) rfl rfl (by decide +kernel) ?_
  refine B_iaload (q := 131) kM307 nM307 (by decide) b1 rfl (by decide +kernel) ?_
  refine B_iastore (q := 132) kM353 nM353 (by decide) b2 rfl (by decide +kernel) ?_
  refine P_iinc (n := 3) (a := 1) (by decide) rfl (q := 135) rfl (by decide +kernel) ?_
  refine P_goto (off := (-20)) (t := 115) (by decide) (by decide +kernel) ?_
  exact h
theorem S_X11_see_138 {X : CX} {d : Nat} {x1 : Int} {I R : PF} {Q : PV → PF → PF → Prop} (h : Q (0, x1) (u2 I 306 73 x1) R) : PN X d mX11_see 138 [(2, 306), (0, x1)] [] I R Q := by
  refine P_aload_n (n := 0) (q := 139) rfl rfl (by decide +kernel) ?_
  refine P_iload_n (n := 1) (q := 140) rfl rfl (by decide +kernel) ?_
  refine P_putI (q := 143) wX11_309 (fun h => by cases h) kM306 rfl (by decide +kernel) ?_
  refine P_iload_n (n := 1) (q := 144) rfl rfl (by decide +kernel) ?_
  refine P_iret rfl (by decide +kernel) h
theorem S_X11_seed_0 {X : CX} {d : Nat} {x1 : Int} {I R : PF} {Q : PV → PF → PF → Prop} (c1 : -2147483648 ≤ x1 ∧ x1 < 2147483648) (h1 : 0 ≤ x1 → PN X d mX11_seed 16 [(2, 306), (0, x1)] [] I R Q) (h2 : x1 < 0 → PN X d mX11_seed 4 [(2, 306)] [] I R Q) : PN X d mX11_seed 0 [(2, 306), (0, x1)] [] I R Q := by
  refine P_iload_n (n := 1) (q := 1) rfl rfl (by decide +kernel) ?_
  refine B_if_ge (off := 15) (t := 16) (q := 4) c1 (by decide) rfl (by decide +kernel) ?_ ?_
  · exact fun g9 => (h1 g9)
  · exact fun g9 => (PW_sub (ls' := [(2, 306)]) ⟨Or.inr rfl, trivial⟩ (h2 g9))
theorem S_X11_seed_4 {X : CX} {d : Nat} {I R : PF} {Q : PV → PF → PF → Prop} (hs : Shp R) (h : Q (0, 0) (u2 I 308 5 ((I 308 5) + 1)) R) : PN X d mX11_seed 4 [(2, 306)] [] I R Q := by
  refine P_aload_n (n := 0) (q := 5) rfl rfl (by decide +kernel) ?_
  refine B_getfR (q := 8) fX11_7 kM306 (rM306_9 hs) rfl (by decide +kernel) ?_
  refine P_iconst (n := 5) (q := 9) rfl (by decide +kernel) ?_
  refine P_dup2 (q := 10) (Nat.ne_of_beq_eq_false rfl) (Nat.ne_of_beq_eq_false rfl) rfl (by decide +kernel) ?_
  refine B_iaload (q := 11) kM308 nM308 (by decide) ⟨by decide, by decide⟩ rfl (by decide +kernel) ?_
  refine P_iconst (n := 1) (q := 12) rfl (by decide +kernel) ?_
  refine P_iadd (q := 13) rfl (by decide +kernel) ?_
  refine B_iastore (q := 14) kM308 nM308 (by decide) ⟨by decide, by decide⟩ rfl (by decide +kernel) ?_
  refine P_iconst (n := 0) (q := 15) rfl (by decide +kernel) ?_
  refine P_zret rfl (Or.inl rfl) (by decide +kernel) h
theorem S_X11_seed_16 {X : CX} {d : Nat} {x1 : Int} {I R : PF} {Q : PV → PF → PF → Prop} (c1 : -2147483648 ≤ x1 ∧ x1 < 2147483648) (h : Q (0, 1) (u2 I 306 78 x1) R) : PN X d mX11_seed 16 [(2, 306), (0, x1)] [] I R Q := by
  refine P_aload_n (n := 0) (q := 17) rfl rfl (by decide +kernel) ?_
  refine P_iload_n (n := 1) (q := 18) rfl rfl (by decide +kernel) ?_
  refine B_i2l (q := 19) c1 rfl (by decide +kernel) ?_
  refine P_putL (q := 22) wX11_335 (fun h => by cases h) kM306 rfl (by decide +kernel) ?_
  refine P_iconst (n := 1) (q := 23) rfl (by decide +kernel) ?_
  refine P_zret rfl (Or.inr rfl) (by decide +kernel) h
theorem S_X11_square_0 {X : CX} {d : Nat} {I R : PF} {Q : PV → PF → PF → Prop} (h : PN X d mX11_square 40 [(2, 306), (0, 0)] [] (u2 (u2 (u2 (u2 (u2 (u2 (u2 I 306 3 (I 306 1)) 306 1 0) 306 2 0) 306 4 (-1)) 306 5 0) 306 6 (-1)) 306 53 0) R Q) : PN X d mX11_square 0 [(2, 306)] [] I R Q := by
  refine P_aload_n (n := 0) (q := 1) rfl rfl (by decide +kernel) ?_
  refine P_aload_n (n := 0) (q := 2) rfl rfl (by decide +kernel) ?_
  refine P_getf (q := 5) fX11_1 kM306 rfl (by decide +kernel) ?_
  refine P_putI (q := 8) wX11_23 (fun h => by cases h) kM306 rfl (by decide +kernel) ?_
  refine P_aload_n (n := 0) (q := 9) rfl rfl (by decide +kernel) ?_
  refine P_iconst (n := 0) (q := 10) rfl (by decide +kernel) ?_
  refine P_putI (q := 13) wX11_1 (fun h => by cases h) kM306 rfl (by decide +kernel) ?_
  refine P_aload_n (n := 0) (q := 14) rfl rfl (by decide +kernel) ?_
  refine P_iconst (n := 0) (q := 15) rfl (by decide +kernel) ?_
  refine P_putI (q := 18) wX11_20 (fun h => by cases h) kM306 rfl (by decide +kernel) ?_
  refine P_aload_n (n := 0) (q := 19) rfl rfl (by decide +kernel) ?_
  refine P_iconst (n := (-1)) (q := 20) rfl (by decide +kernel) ?_
  refine P_putI (q := 23) wX11_34 (fun h => by cases h) kM306 rfl (by decide +kernel) ?_
  refine P_aload_n (n := 0) (q := 24) rfl rfl (by decide +kernel) ?_
  refine P_iconst (n := 0) (q := 25) rfl (by decide +kernel) ?_
  refine P_putI (q := 28) wX11_14 (fun h => by cases h) kM306 rfl (by decide +kernel) ?_
  refine P_aload_n (n := 0) (q := 29) rfl rfl (by decide +kernel) ?_
  refine P_iconst (n := (-1)) (q := 30) rfl (by decide +kernel) ?_
  refine P_putI (q := 33) wX11_17 (fun h => by cases h) kM306 rfl (by decide +kernel) ?_
  refine P_aload_n (n := 0) (q := 34) rfl rfl (by decide +kernel) ?_
  refine P_iconst (n := 0) (q := 35) rfl (by decide +kernel) ?_
  refine P_putI (q := 38) wX11_251 (fun h => by cases h) kM306 rfl (by decide +kernel) ?_
  refine P_iconst (n := 0) (q := 39) rfl (by decide +kernel) ?_
  refine P_istore_n (n := 1) (by decide) (q := 40) rfl (by decide +kernel) ?_
  exact h
theorem S_X11_square_40 {X : CX} {d : Nat} {x1 : Int} {I R : PF} {Q : PV → PF → PF → Prop} (c1 : -2147483648 ≤ x1 ∧ x1 < 2147483648) (h1 : 3 ≤ x1 → PN X d mX11_square 58 [(2, 306)] [] I R Q) (h2 : x1 < 3 → PN X d mX11_square 45 [(2, 306), (0, x1)] [] I R Q) : PN X d mX11_square 40 [(2, 306), (0, x1)] [] I R Q := by
  refine P_iload_n (n := 1) (q := 41) rfl rfl (by decide +kernel) ?_
  refine P_iconst (n := 3) (q := 42) rfl (by decide +kernel) ?_
  refine B_icmp_ge (off := 16) (t := 58) (q := 45) c1 ⟨by decide, by decide⟩ (by decide) rfl (by decide +kernel) ?_ ?_
  · exact fun g9 => (PW_sub (ls' := [(2, 306)]) ⟨Or.inr rfl, trivial⟩ (h1 g9))
  · exact fun g9 => (h2 g9)
theorem S_X11_square_45 {X : CX} {d : Nat} {x1 : Int} {I R : PF} {Q : PV → PF → PF → Prop} (hs : Shp R) (b1 : (0 : Int) ≤ x1 ∧ x1 < 6) (h : PN X d mX11_square 40 [(2, 306), (0, (x1 + 1))] [] (u2 I 339 x1 0) R Q) : PN X d mX11_square 45 [(2, 306), (0, x1)] [] I R Q := by
  refine P_aload_n (n := 0) (q := 46) rfl rfl (by decide +kernel) ?_
  refine B_getfR (q := 49) fX11_166 kM306 (rM306_42 hs) rfl (by decide +kernel) ?_
  refine P_iload_n (n := 1) (q := 50) rfl rfl (by decide +kernel) ?_
  refine P_iconst (n := 0) (q := 51) rfl (by decide +kernel) ?_
  refine B_iastore (q := 52) kM339 nM339 (by decide) b1 rfl (by decide +kernel) ?_
  refine P_iinc (n := 1) (a := 1) (by decide) rfl (q := 55) rfl (by decide +kernel) ?_
  refine P_goto (off := (-15)) (t := 40) (by decide) (by decide +kernel) ?_
  exact h
theorem S_X11_square_58 {X : CX} {d d1 : Nat} {I R : PF} {Q Q1 : PV → PF → PF → Prop} (hs : Shp R) (e1 : d1 + 1 ≤ d) (hc : CN X d1 mX11_squareTold [(2, 306)] (u2 (u2 (u2 I 345 0 (-1)) 345 1 (-1)) 306 48 0) R Q1) (h : ∀ z I2 R2, Q1 (9, z) I2 R2 → PN X d mX11_square 81 [(2, 306)] [] I2 R2 Q) : PN X d mX11_square 58 [(2, 306)] [] I R Q := by
  refine P_aload_n (n := 0) (q := 59) rfl rfl (by decide +kernel) ?_
  refine B_getfR (q := 62) fX11_229 kM306 (rM306_50 hs) rfl (by decide +kernel) ?_
  refine P_iconst (n := 0) (q := 63) rfl (by decide +kernel) ?_
  refine P_iconst (n := (-1)) (q := 64) rfl (by decide +kernel) ?_
  refine B_iastore (q := 65) kM345 nM345 (by decide) ⟨by decide, by decide⟩ rfl (by decide +kernel) ?_
  refine P_aload_n (n := 0) (q := 66) rfl rfl (by decide +kernel) ?_
  refine B_getfR (q := 69) fX11_229 kM306 (rM306_50 hs) rfl (by decide +kernel) ?_
  refine P_iconst (n := 1) (q := 70) rfl (by decide +kernel) ?_
  refine P_iconst (n := (-1)) (q := 71) rfl (by decide +kernel) ?_
  refine B_iastore (q := 72) kM345 nM345 (by decide) ⟨by decide, by decide⟩ rfl (by decide +kernel) ?_
  refine P_aload_n (n := 0) (q := 73) rfl rfl (by decide +kernel) ?_
  refine P_iconst (n := 0) (q := 74) rfl (by decide +kernel) ?_
  refine P_putI (q := 77) wX11_278 (fun h => by cases h) kM306 rfl (by decide +kernel) ?_
  refine P_aload_n (n := 0) (q := 78) rfl rfl (by decide +kernel) ?_
  refine P_invV (As := []) (q := 81) oX11_squareTold rfl kM306 kX11_281 e1 hMF (Nat.le_of_ble_eq_true rfl) hc rfl (by decide +kernel) (fun z I2 R2 hq => ?_)
  exact (PW_sub (ls' := [(2, 306)]) ⟨Or.inr rfl, trivial⟩ (h z I2 R2 hq))
theorem S_X11_square_81 {X : CX} {d : Nat} {I R : PF} {Q : PV → PF → PF → Prop} (h : PN X d mX11_square 86 [(2, 306)] [] (u2 I 306 54 1) R Q) : PN X d mX11_square 81 [(2, 306)] [] I R Q := by
  refine P_aload_n (n := 0) (q := 82) rfl rfl (by decide +kernel) ?_
  refine P_iconst (n := 1) (q := 83) rfl (by decide +kernel) ?_
  refine P_putI (q := 86) wX11_263 (fun h => by cases h) kM306 rfl (by decide +kernel) ?_
  exact (PW_sub (ls' := [(2, 306)]) ⟨Or.inr rfl, trivial⟩ h)
theorem S_X11_square_86 {X : CX} {d : Nat} {I R : PF} {Q : PV → PF → PF → Prop} (c1 : -2147483648 ≤ (I 306 5) ∧ (I 306 5) < 2147483648) (h1 : (I 306 5) ≠ 0 → PN X d mX11_square 108 [(2, 306)] [] I R Q) (h2 : (I 306 5) = 0 → PN X d mX11_square 93 [(2, 306)] [] I R Q) : PN X d mX11_square 86 [(2, 306)] [] I R Q := by
  refine P_aload_n (n := 0) (q := 87) rfl rfl (by decide +kernel) ?_
  refine P_getf (q := 90) fX11_14 kM306 rfl (by decide +kernel) ?_
  refine B_if_ne (off := 18) (t := 108) (q := 93) c1 (by decide) rfl (by decide +kernel) ?_ ?_
  · exact fun g9 => (PW_sub (ls' := [(2, 306)]) ⟨Or.inr rfl, trivial⟩ (h1 g9))
  · exact fun g9 => (PW_sub (ls' := [(2, 306)]) ⟨Or.inr rfl, trivial⟩ (h2 g9))
theorem S_X11_square_93 {X : CX} {d d1 : Nat} {I R : PF} {Q Q1 : PV → PF → PF → Prop} (e1 : d1 + 1 ≤ d) (hc : CN X d1 mX11_look [(2, 306)] I R Q1) (h : ∀ z I2 R2, Q1 (0, z) I2 R2 → PN X d mX11_square 97 [(2, 306)] [(0, z)] I2 R2 Q) : PN X d mX11_square 93 [(2, 306)] [] I R Q := by
  refine P_aload_n (n := 0) (q := 94) rfl rfl (by decide +kernel) ?_
  refine P_invV (As := []) (q := 97) oX11_look rfl kM306 kX11_26 e1 hMF (Nat.le_of_ble_eq_true rfl) hc rfl (by decide +kernel) (fun z I2 R2 hq => ?_)
  exact (PW_sub (ls' := [(2, 306)]) ⟨Or.inr rfl, trivial⟩ (h z I2 R2 hq))
theorem S_X11_square_97 {X : CX} {d : Nat} {o0 : Int} {I R : PF} {Q : PV → PF → PF → Prop} (c1 : -2147483648 ≤ o0 ∧ o0 < 2147483648) (h1 : o0 = (-1) → PN X d mX11_square 108 [(2, 306)] [] I R Q) (h2 : o0 ≠ (-1) → PN X d mX11_square 101 [(2, 306)] [] I R Q) : PN X d mX11_square 97 [(2, 306)] [(0, o0)] I R Q := by
  refine P_iconst (n := (-1)) (q := 98) rfl (by decide +kernel) ?_
  refine B_icmp_eq (off := 10) (t := 108) (q := 101) c1 ⟨by decide, by decide⟩ (by decide) rfl (by decide +kernel) ?_ ?_
  · exact fun g9 => (PW_sub (ls' := [(2, 306)]) ⟨Or.inr rfl, trivial⟩ (h1 g9))
  · exact fun g9 => (PW_sub (ls' := [(2, 306)]) ⟨Or.inr rfl, trivial⟩ (h2 g9))
theorem S_X11_square_101 {X : CX} {d d1 : Nat} {I R : PF} {Q Q1 : PV → PF → PF → Prop} (e1 : d1 + 1 ≤ d) (hc : CN X d1 mX11_statementTold [(2, 306)] I R Q1) (h : ∀ z I2 R2, Q1 (9, z) I2 R2 → PN X d mX11_square 105 [(2, 306)] [] I2 R2 Q) : PN X d mX11_square 101 [(2, 306)] [] I R Q := by
  refine P_aload_n (n := 0) (q := 102) rfl rfl (by decide +kernel) ?_
  refine P_invV (As := []) (q := 105) oX11_statementTold rfl kM306 kX11_284 e1 hMF (Nat.le_of_ble_eq_true rfl) hc rfl (by decide +kernel) (fun z I2 R2 hq => ?_)
  exact (PW_sub (ls' := [(2, 306)]) ⟨Or.inr rfl, trivial⟩ (h z I2 R2 hq))
theorem S_X11_square_105 {X : CX} {d : Nat} {I R : PF} {Q : PV → PF → PF → Prop} (h : PN X d mX11_square 86 [(2, 306)] [] I R Q) : PN X d mX11_square 105 [(2, 306)] [] I R Q := by
  refine P_goto (off := (-19)) (t := 86) (by decide) (by decide +kernel) ?_
  exact (PW_sub (ls' := [(2, 306)]) ⟨Or.inr rfl, trivial⟩ h)
theorem S_X11_square_108 {X : CX} {d : Nat} {I R : PF} {Q : PV → PF → PF → Prop} (c1 : -2147483648 ≤ ((u2 (u2 I 306 7 (I 306 5)) 306 8 ((u2 I 306 7 (I 306 5)) 306 6)) 306 5) ∧ ((u2 (u2 I 306 7 (I 306 5)) 306 8 ((u2 I 306 7 (I 306 5)) 306 6)) 306 5) < 2147483648) (h1 : ((u2 (u2 I 306 7 (I 306 5)) 306 8 ((u2 I 306 7 (I 306 5)) 306 6)) 306 5) = 0 → PN X d mX11_square 143 [(2, 306)] [] (u2 (u2 I 306 7 (I 306 5)) 306 8 ((u2 I 306 7 (I 306 5)) 306 6)) R Q) (h2 : ((u2 (u2 I 306 7 (I 306 5)) 306 8 ((u2 I 306 7 (I 306 5)) 306 6)) 306 5) ≠ 0 → PN X d mX11_square 131 [(2, 306)] [] (u2 (u2 I 306 7 (I 306 5)) 306 8 ((u2 I 306 7 (I 306 5)) 306 6)) R Q) : PN X d mX11_square 108 [(2, 306)] [] I R Q := by
  refine P_aload_n (n := 0) (q := 109) rfl rfl (by decide +kernel) ?_
  refine P_aload_n (n := 0) (q := 110) rfl rfl (by decide +kernel) ?_
  refine P_getf (q := 113) fX11_14 kM306 rfl (by decide +kernel) ?_
  refine P_putI (q := 116) wX11_287 (fun h => by cases h) kM306 rfl (by decide +kernel) ?_
  refine P_aload_n (n := 0) (q := 117) rfl rfl (by decide +kernel) ?_
  refine P_aload_n (n := 0) (q := 118) rfl rfl (by decide +kernel) ?_
  refine P_getf (q := 121) fX11_17 kM306 rfl (by decide +kernel) ?_
  refine P_putI (q := 124) wX11_290 (fun h => by cases h) kM306 rfl (by decide +kernel) ?_
  refine P_aload_n (n := 0) (q := 125) rfl rfl (by decide +kernel) ?_
  refine P_getf (q := 128) fX11_14 kM306 rfl (by decide +kernel) ?_
  refine B_if_eq (off := 15) (t := 143) (q := 131) c1 (by decide) rfl (by decide +kernel) ?_ ?_
  · exact fun g9 => (PW_sub (ls' := [(2, 306)]) ⟨Or.inr rfl, trivial⟩ (h1 g9))
  · exact fun g9 => (PW_sub (ls' := [(2, 306)]) ⟨Or.inr rfl, trivial⟩ (h2 g9))
theorem S_X11_square_131 {X : CX} {d : Nat} {I R : PF} {Q : PV → PF → PF → Prop} (hs : Shp R) (h : Q (0, (-1)) (u2 I 308 1 ((I 308 1) + 1)) R) : PN X d mX11_square 131 [(2, 306)] [] I R Q := by
  refine P_aload_n (n := 0) (q := 132) rfl rfl (by decide +kernel) ?_
  refine B_getfR (q := 135) fX11_7 kM306 (rM306_9 hs) rfl (by decide +kernel) ?_
  refine P_iconst (n := 1) (q := 136) rfl (by decide +kernel) ?_
  refine P_dup2 (q := 137) (Nat.ne_of_beq_eq_false rfl) (Nat.ne_of_beq_eq_false rfl) rfl (by decide +kernel) ?_
  refine B_iaload (q := 138) kM308 nM308 (by decide) ⟨by decide, by decide⟩ rfl (by decide +kernel) ?_
  refine P_iconst (n := 1) (q := 139) rfl (by decide +kernel) ?_
  refine P_iadd (q := 140) rfl (by decide +kernel) ?_
  refine B_iastore (q := 141) kM308 nM308 (by decide) ⟨by decide, by decide⟩ rfl (by decide +kernel) ?_
  refine P_iconst (n := (-1)) (q := 142) rfl (by decide +kernel) ?_
  refine P_iret rfl (by decide +kernel) h
theorem S_X11_square_143 {X : CX} {d d1 : Nat} {I R : PF} {Q Q1 : PV → PF → PF → Prop} (e1 : d1 + 1 ≤ d) (hc : CN X d1 mX11_stands [(2, 306)] I R Q1) (h : ∀ z I2 R2, Q1 (9, z) I2 R2 → PN X d mX11_square 147 [(2, 306)] [] I2 R2 Q) : PN X d mX11_square 143 [(2, 306)] [] I R Q := by
  refine P_aload_n (n := 0) (q := 144) rfl rfl (by decide +kernel) ?_
  refine P_invV (As := []) (q := 147) oX11_stands rfl kM306 kX11_293 e1 hMF (Nat.le_of_ble_eq_true rfl) hc rfl (by decide +kernel) (fun z I2 R2 hq => ?_)
  exact (PW_sub (ls' := [(2, 306)]) ⟨Or.inr rfl, trivial⟩ (h z I2 R2 hq))
theorem S_X11_square_147 {X : CX} {d : Nat} {I R : PF} {Q : PV → PF → PF → Prop} (h : Q (0, (I 306 54)) I R) : PN X d mX11_square 147 [(2, 306)] [] I R Q := by
  refine P_aload_n (n := 0) (q := 148) rfl rfl (by decide +kernel) ?_
  refine P_getf (q := 151) fX11_263 kM306 rfl (by decide +kernel) ?_
  refine P_iret rfl (by decide +kernel) h
theorem S_X11_squareTold_0 {X : CX} {d d1 : Nat} {I R : PF} {Q Q1 : PV → PF → PF → Prop} (hs : Shp R) (e1 : d1 + 1 ≤ d) (hc : CN X d1 mX11_asks [(2, 306), (2, 309)] I R Q1) (h : ∀ z I2 R2, Q1 (9, z) I2 R2 → PN X d mX11_squareTold 8 [(2, 306)] [] I2 R2 Q) : PN X d mX11_squareTold 0 [(2, 306)] [] I R Q := by
  refine P_aload_n (n := 0) (q := 1) rfl rfl (by decide +kernel) ?_
  refine P_aload_n (n := 0) (q := 2) rfl rfl (by decide +kernel) ?_
  refine B_getfR (q := 5) fX11_61 kM306 (rM306_11 hs) rfl (by decide +kernel) ?_
  refine P_invV (As := [(2, 309)]) (q := 8) oX11_asks rfl kM306 kX11_181 e1 hMF (Nat.le_of_ble_eq_true rfl) hc rfl (by decide +kernel) (fun z I2 R2 hq => ?_)
  exact (h z I2 R2 hq)
theorem S_X11_squareTold_8 {X : CX} {d d1 : Nat} {I R : PF} {Q Q1 : PV → PF → PF → Prop} (hs : Shp R) (e1 : d1 + 1 ≤ d) (hc : CN X d1 mX11_number [(2, 306), (0, 2), (0, 9)] I R Q1) (h : ∀ z I2 R2, Q1 (0, z) I2 R2 → PN X d mX11_squareTold 20 [(2, 306)] [(0, z), (0, 0), (2, 341)] I2 R2 Q) : PN X d mX11_squareTold 8 [(2, 306)] [] I R Q := by
  refine P_aload_n (n := 0) (q := 9) rfl rfl (by decide +kernel) ?_
  refine B_getfR (q := 12) fX11_185 kM306 (rM306_44 hs) rfl (by decide +kernel) ?_
  refine P_iconst (n := 0) (q := 13) rfl (by decide +kernel) ?_
  refine P_aload_n (n := 0) (q := 14) rfl rfl (by decide +kernel) ?_
  refine P_iconst (n := 2) (q := 15) rfl (by decide +kernel) ?_
  refine P_bipush (n := 9) (q := 17) rfl rfl (by decide +kernel) ?_
  refine P_invV (As := [(0, 2), (0, 9)]) (q := 20) oX11_number rfl kM306 kX11_188 e1 hMF (Nat.le_of_ble_eq_true rfl) hc rfl (by decide +kernel) (fun z I2 R2 hq => ?_)
  exact (h z I2 R2 hq)
theorem S_X11_squareTold_20 {X : CX} {d d1 : Nat} {o1 o2 : Int} {I R : PF} {Q Q1 : PV → PF → PF → Prop} (hs : Shp R) (b1 : (0 : Int) ≤ o1 ∧ o1 < 10) (e1 : d1 + 1 ≤ d) (hc : CN X d1 mX11_asks [(2, 306), (2, 310)] (u2 I 341 o1 o2) R Q1) (h : ∀ z I2 R2, Q1 (9, z) I2 R2 → PN X d mX11_squareTold 29 [(2, 306)] [] I2 R2 Q) : PN X d mX11_squareTold 20 [(2, 306)] [(0, o2), (0, o1), (2, 341)] I R Q := by
  refine B_iastore (q := 21) kM341 nM341 (by decide) b1 rfl (by decide +kernel) ?_
  refine P_aload_n (n := 0) (q := 22) rfl rfl (by decide +kernel) ?_
  refine P_aload_n (n := 0) (q := 23) rfl rfl (by decide +kernel) ?_
  refine B_getfR (q := 26) fX11_65 kM306 (rM306_12 hs) rfl (by decide +kernel) ?_
  refine P_invV (As := [(2, 310)]) (q := 29) oX11_asks rfl kM306 kX11_181 e1 hMF (Nat.le_of_ble_eq_true rfl) hc rfl (by decide +kernel) (fun z I2 R2 hq => ?_)
  exact (h z I2 R2 hq)
theorem S_X11_squareTold_29 {X : CX} {d d1 : Nat} {I R : PF} {Q Q1 : PV → PF → PF → Prop} (hs : Shp R) (e1 : d1 + 1 ≤ d) (hc : CN X d1 mX11_number [(2, 306), (0, 2), (0, 9)] I R Q1) (h : ∀ z I2 R2, Q1 (0, z) I2 R2 → PN X d mX11_squareTold 41 [(2, 306)] [(0, z), (0, 1), (2, 341)] I2 R2 Q) : PN X d mX11_squareTold 29 [(2, 306)] [] I R Q := by
  refine P_aload_n (n := 0) (q := 30) rfl rfl (by decide +kernel) ?_
  refine B_getfR (q := 33) fX11_185 kM306 (rM306_44 hs) rfl (by decide +kernel) ?_
  refine P_iconst (n := 1) (q := 34) rfl (by decide +kernel) ?_
  refine P_aload_n (n := 0) (q := 35) rfl rfl (by decide +kernel) ?_
  refine P_iconst (n := 2) (q := 36) rfl (by decide +kernel) ?_
  refine P_bipush (n := 9) (q := 38) rfl rfl (by decide +kernel) ?_
  refine P_invV (As := [(0, 2), (0, 9)]) (q := 41) oX11_number rfl kM306 kX11_188 e1 hMF (Nat.le_of_ble_eq_true rfl) hc rfl (by decide +kernel) (fun z I2 R2 hq => ?_)
  exact (h z I2 R2 hq)
theorem S_X11_squareTold_41 {X : CX} {d d1 : Nat} {o1 o2 : Int} {I R : PF} {Q Q1 : PV → PF → PF → Prop} (hs : Shp R) (b1 : (0 : Int) ≤ o1 ∧ o1 < 10) (e1 : d1 + 1 ≤ d) (hc : CN X d1 mX11_asks [(2, 306), (2, 311)] (u2 I 341 o1 o2) R Q1) (h : ∀ z I2 R2, Q1 (9, z) I2 R2 → PN X d mX11_squareTold 50 [(2, 306)] [] I2 R2 Q) : PN X d mX11_squareTold 41 [(2, 306)] [(0, o2), (0, o1), (2, 341)] I R Q := by
  refine B_iastore (q := 42) kM341 nM341 (by decide) b1 rfl (by decide +kernel) ?_
  refine P_aload_n (n := 0) (q := 43) rfl rfl (by decide +kernel) ?_
  refine P_aload_n (n := 0) (q := 44) rfl rfl (by decide +kernel) ?_
  refine B_getfR (q := 47) fX11_68 kM306 (rM306_13 hs) rfl (by decide +kernel) ?_
  refine P_invV (As := [(2, 311)]) (q := 50) oX11_asks rfl kM306 kX11_181 e1 hMF (Nat.le_of_ble_eq_true rfl) hc rfl (by decide +kernel) (fun z I2 R2 hq => ?_)
  exact (h z I2 R2 hq)
theorem S_X11_squareTold_50 {X : CX} {d d1 : Nat} {I R : PF} {Q Q1 : PV → PF → PF → Prop} (hs : Shp R) (e1 : d1 + 1 ≤ d) (hc : CN X d1 mX11_number [(2, 306), (0, 0), (0, ((I 341 0) - 1))] I R Q1) (h : ∀ z I2 R2, Q1 (0, z) I2 R2 → PN X d mX11_squareTold 68 [(2, 306)] [(0, z), (0, 2), (2, 341)] I2 R2 Q) : PN X d mX11_squareTold 50 [(2, 306)] [] I R Q := by
  refine P_aload_n (n := 0) (q := 51) rfl rfl (by decide +kernel) ?_
  refine B_getfR (q := 54) fX11_185 kM306 (rM306_44 hs) rfl (by decide +kernel) ?_
  refine P_iconst (n := 2) (q := 55) rfl (by decide +kernel) ?_
  refine P_aload_n (n := 0) (q := 56) rfl rfl (by decide +kernel) ?_
  refine P_iconst (n := 0) (q := 57) rfl (by decide +kernel) ?_
  refine P_aload_n (n := 0) (q := 58) rfl rfl (by decide +kernel) ?_
  refine B_getfR (q := 61) fX11_185 kM306 (rM306_44 hs) rfl (by decide +kernel) ?_
  refine P_iconst (n := 0) (q := 62) rfl (by decide +kernel) ?_
  refine B_iaload (q := 63) kM341 nM341 (by decide) ⟨by decide, by decide⟩ rfl (by decide +kernel) ?_
  refine P_iconst (n := 1) (q := 64) rfl (by decide +kernel) ?_
  refine P_isub (q := 65) rfl (by decide +kernel) ?_
  refine P_invV (As := [(0, 0), (0, ((I 341 0) - 1))]) (q := 68) oX11_number rfl kM306 kX11_188 e1 hMF (Nat.le_of_ble_eq_true rfl) hc rfl (by decide +kernel) (fun z I2 R2 hq => ?_)
  exact (h z I2 R2 hq)
theorem S_X11_squareTold_68 {X : CX} {d d1 : Nat} {o1 o2 : Int} {I R : PF} {Q Q1 : PV → PF → PF → Prop} (hs : Shp R) (b1 : (0 : Int) ≤ o1 ∧ o1 < 10) (e1 : d1 + 1 ≤ d) (hc : CN X d1 mX11_number [(2, 306), (0, 0), (0, (((u2 I 341 o1 o2) 341 1) - 1))] (u2 I 341 o1 o2) R Q1) (h : ∀ z I2 R2, Q1 (0, z) I2 R2 → PN X d mX11_squareTold 87 [(2, 306)] [(0, z), (0, 3), (2, 341)] I2 R2 Q) : PN X d mX11_squareTold 68 [(2, 306)] [(0, o2), (0, o1), (2, 341)] I R Q := by
  refine B_iastore (q := 69) kM341 nM341 (by decide) b1 rfl (by decide +kernel) ?_
  refine P_aload_n (n := 0) (q := 70) rfl rfl (by decide +kernel) ?_
  refine B_getfR (q := 73) fX11_185 kM306 (rM306_44 hs) rfl (by decide +kernel) ?_
  refine P_iconst (n := 3) (q := 74) rfl (by decide +kernel) ?_
  refine P_aload_n (n := 0) (q := 75) rfl rfl (by decide +kernel) ?_
  refine P_iconst (n := 0) (q := 76) rfl (by decide +kernel) ?_
  refine P_aload_n (n := 0) (q := 77) rfl rfl (by decide +kernel) ?_
  refine B_getfR (q := 80) fX11_185 kM306 (rM306_44 hs) rfl (by decide +kernel) ?_
  refine P_iconst (n := 1) (q := 81) rfl (by decide +kernel) ?_
  refine B_iaload (q := 82) kM341 nM341 (by decide) ⟨by decide, by decide⟩ rfl (by decide +kernel) ?_
  refine P_iconst (n := 1) (q := 83) rfl (by decide +kernel) ?_
  refine P_isub (q := 84) rfl (by decide +kernel) ?_
  refine P_invV (As := [(0, 0), (0, (((u2 I 341 o1 o2) 341 1) - 1))]) (q := 87) oX11_number rfl kM306 kX11_188 e1 hMF (Nat.le_of_ble_eq_true rfl) hc rfl (by decide +kernel) (fun z I2 R2 hq => ?_)
  exact (h z I2 R2 hq)
theorem S_X11_squareTold_87 {X : CX} {d d1 : Nat} {o1 o2 : Int} {I R : PF} {Q Q1 : PV → PF → PF → Prop} (hs : Shp R) (b1 : (0 : Int) ≤ o1 ∧ o1 < 10) (e1 : d1 + 1 ≤ d) (hc : CN X d1 mX11_asks [(2, 306), (2, 312)] (u2 I 341 o1 o2) R Q1) (h : ∀ z I2 R2, Q1 (9, z) I2 R2 → PN X d mX11_squareTold 96 [(2, 306)] [] I2 R2 Q) : PN X d mX11_squareTold 87 [(2, 306)] [(0, o2), (0, o1), (2, 341)] I R Q := by
  refine B_iastore (q := 88) kM341 nM341 (by decide) b1 rfl (by decide +kernel) ?_
  refine P_aload_n (n := 0) (q := 89) rfl rfl (by decide +kernel) ?_
  refine P_aload_n (n := 0) (q := 90) rfl rfl (by decide +kernel) ?_
  refine B_getfR (q := 93) fX11_71 kM306 (rM306_14 hs) rfl (by decide +kernel) ?_
  refine P_invV (As := [(2, 312)]) (q := 96) oX11_asks rfl kM306 kX11_181 e1 hMF (Nat.le_of_ble_eq_true rfl) hc rfl (by decide +kernel) (fun z I2 R2 hq => ?_)
  exact (h z I2 R2 hq)
theorem S_X11_squareTold_96 {X : CX} {d d1 : Nat} {I R : PF} {Q Q1 : PV → PF → PF → Prop} (hs : Shp R) (e1 : d1 + 1 ≤ d) (hc : CN X d1 mX11_number [(2, 306), (0, 1), (0, 9)] I R Q1) (h : ∀ z I2 R2, Q1 (0, z) I2 R2 → PN X d mX11_squareTold 108 [(2, 306)] [(0, z), (0, 4), (2, 341)] I2 R2 Q) : PN X d mX11_squareTold 96 [(2, 306)] [] I R Q := by
  refine P_aload_n (n := 0) (q := 97) rfl rfl (by decide +kernel) ?_
  refine B_getfR (q := 100) fX11_185 kM306 (rM306_44 hs) rfl (by decide +kernel) ?_
  refine P_iconst (n := 4) (q := 101) rfl (by decide +kernel) ?_
  refine P_aload_n (n := 0) (q := 102) rfl rfl (by decide +kernel) ?_
  refine P_iconst (n := 1) (q := 103) rfl (by decide +kernel) ?_
  refine P_bipush (n := 9) (q := 105) rfl rfl (by decide +kernel) ?_
  refine P_invV (As := [(0, 1), (0, 9)]) (q := 108) oX11_number rfl kM306 kX11_188 e1 hMF (Nat.le_of_ble_eq_true rfl) hc rfl (by decide +kernel) (fun z I2 R2 hq => ?_)
  exact (h z I2 R2 hq)
theorem S_X11_squareTold_108 {X : CX} {d d1 : Nat} {o1 o2 : Int} {I R : PF} {Q Q1 : PV → PF → PF → Prop} (b1 : (0 : Int) ≤ o1 ∧ o1 < 10) (e1 : d1 + 1 ≤ d) (hc : CN X d1 mX11_asksSign [(2, 306), (0, 59)] (u2 I 341 o1 o2) R Q1) (h : ∀ z I2 R2, Q1 (9, z) I2 R2 → PN X d mX11_squareTold 115 [] [] I2 R2 Q) : PN X d mX11_squareTold 108 [(2, 306)] [(0, o2), (0, o1), (2, 341)] I R Q := by
  refine B_iastore (q := 109) kM341 nM341 (by decide) b1 rfl (by decide +kernel) ?_
  refine P_aload_n (n := 0) (q := 110) rfl rfl (by decide +kernel) ?_
  refine P_bipush (n := 59) (q := 112) rfl rfl (by decide +kernel) ?_
  refine P_invV (As := [(0, 59)]) (q := 115) oX11_asksSign rfl kM306 kX11_192 e1 hMF (Nat.le_of_ble_eq_true rfl) hc rfl (by decide +kernel) (fun z I2 R2 hq => ?_)
  exact (PW_sub (ls' := []) trivial (h z I2 R2 hq))
theorem S_X11_squareTold_115 {X : CX} {d : Nat} {I R : PF} {Q : PV → PF → PF → Prop} (h : Q (9, 0) I R) : PN X d mX11_squareTold 115 [] [] I R Q := by
  refine P_vret rfl (by decide +kernel) h
theorem S_X11_stand_0 {X : CX} {d d1 : Nat} {x1 x2 : Int} {I R : PF} {Q Q1 : PV → PF → PF → Prop} (e1 : d1 + 1 ≤ d) (hc : CN X d1 mX11_isPerson [(2, 306), (0, x1)] I R Q1) (h : ∀ z I2 R2, Q1 (0, z) I2 R2 → PN X d mX11_stand 5 [(2, 306), (0, x1), (0, x2)] [(0, z)] I2 R2 Q) : PN X d mX11_stand 0 [(2, 306), (0, x1), (0, x2)] [] I R Q := by
  refine P_aload_n (n := 0) (q := 1) rfl rfl (by decide +kernel) ?_
  refine P_iload_n (n := 1) (q := 2) rfl rfl (by decide +kernel) ?_
  refine P_invV (As := [(0, x1)]) (q := 5) oX11_isPerson rfl kM306 kX11_533 e1 hMF (Nat.le_of_ble_eq_true rfl) hc rfl (by decide +kernel) (fun z I2 R2 hq => ?_)
  exact (h z I2 R2 hq)
theorem S_X11_stand_5 {X : CX} {d : Nat} {x1 x2 o0 : Int} {I R : PF} {Q : PV → PF → PF → Prop} (c1 : -2147483648 ≤ o0 ∧ o0 < 2147483648) (h1 : o0 = 0 → PN X d mX11_stand 20 [] [] I R Q) (h2 : o0 ≠ 0 → PN X d mX11_stand 8 [(2, 306), (0, x1), (0, x2)] [] I R Q) : PN X d mX11_stand 5 [(2, 306), (0, x1), (0, x2)] [(0, o0)] I R Q := by
  refine B_if_eq (off := 15) (t := 20) (q := 8) c1 (by decide) rfl (by decide +kernel) ?_ ?_
  · exact fun g9 => (PW_sub (ls' := []) trivial (h1 g9))
  · exact fun g9 => (h2 g9)
theorem S_X11_stand_8 {X : CX} {d d1 : Nat} {x1 x2 : Int} {I R : PF} {Q Q1 : PV → PF → PF → Prop} (c1 : -2147483648 ≤ x2 ∧ x2 < 2147483648) (e1 : d1 + 1 ≤ d) (hc : CN X d1 mX11_isIn [(1, x2), (1, 0), (1, 2)] I R Q1) (h : ∀ z I2 R2, Q1 (0, z) I2 R2 → PN X d mX11_stand 17 [(2, 306), (0, x1), (0, x2)] [(0, z)] I2 R2 Q) : PN X d mX11_stand 8 [(2, 306), (0, x1), (0, x2)] [] I R Q := by
  refine P_iload_n (n := 2) (q := 9) rfl rfl (by decide +kernel) ?_
  refine B_i2l (q := 10) c1 rfl (by decide +kernel) ?_
  refine P_lconst (n := 0) (x := 0) (q := 11) rfl rfl (by decide +kernel) ?_
  refine P_ldc2 (ix := 539) (v := 2) (x := 2) (q := 14) rfl (tGp8 43 rfl rfl) rfl (by decide +kernel) ?_
  refine P_invS (As := [(1, x2), (1, 0), (1, 2)]) (q := 17) oX11_isIn rfl (Or.inl kX11_57) e1 hMF (Nat.le_of_ble_eq_true rfl) hc rfl (by decide +kernel) (fun z I2 R2 hq => ?_)
  exact (h z I2 R2 hq)
theorem S_X11_stand_17 {X : CX} {d : Nat} {x1 x2 o0 : Int} {I R : PF} {Q : PV → PF → PF → Prop} (c1 : -2147483648 ≤ o0 ∧ o0 < 2147483648) (h1 : o0 ≠ 0 → PN X d mX11_stand 22 [(2, 306), (0, x1), (0, x2)] [] I R Q) (h2 : o0 = 0 → PN X d mX11_stand 20 [] [] I R Q) : PN X d mX11_stand 17 [(2, 306), (0, x1), (0, x2)] [(0, o0)] I R Q := by
  refine B_if_ne (off := 5) (t := 22) (q := 20) c1 (by decide) rfl (by decide +kernel) ?_ ?_
  · exact fun g9 => (h1 g9)
  · exact fun g9 => (PW_sub (ls' := []) trivial (h2 g9))
theorem S_X11_stand_20 {X : CX} {d : Nat} {I R : PF} {Q : PV → PF → PF → Prop} (h : Q (0, (-1)) I R) : PN X d mX11_stand 20 [] [] I R Q := by
  refine P_iconst (n := (-1)) (q := 21) rfl (by decide +kernel) ?_
  refine P_iret rfl (by decide +kernel) h
theorem S_X11_stand_22 {X : CX} {d d1 : Nat} {x1 x2 : Int} {I R : PF} {Q Q1 : PV → PF → PF → Prop} (e1 : d1 + 1 ≤ d) (hc : CN X d1 mX11_columnOf [(2, 306), (0, x1)] I R Q1) (h : ∀ z I2 R2, Q1 (0, z) I2 R2 → PN X d mX11_stand 32 [(2, 306), (0, x1), (0, x2), (0, (-1)), (0, (-1))] [(0, z)] I2 R2 Q) : PN X d mX11_stand 22 [(2, 306), (0, x1), (0, x2)] [] I R Q := by
  refine P_iconst (n := (-1)) (q := 23) rfl (by decide +kernel) ?_
  refine P_istore_n (n := 3) (by decide) (q := 24) rfl (by decide +kernel) ?_
  refine P_iconst (n := (-1)) (q := 25) rfl (by decide +kernel) ?_
  refine P_istore (n := 4) (by decide) (q := 27) rfl (by decide +kernel) ?_
  refine P_aload_n (n := 0) (q := 28) rfl rfl (by decide +kernel) ?_
  refine P_iload_n (n := 1) (q := 29) rfl rfl (by decide +kernel) ?_
  refine P_invV (As := [(0, x1)]) (q := 32) oX11_columnOf rfl kM306 kX11_491 e1 hMF (Nat.le_of_ble_eq_true rfl) hc rfl (by decide +kernel) (fun z I2 R2 hq => ?_)
  exact (h z I2 R2 hq)
theorem S_X11_stand_32 {X : CX} {d d1 : Nat} {x1 x2 x3 x4 o0 : Int} {I R : PF} {Q Q1 : PV → PF → PF → Prop} (e1 : d1 + 1 ≤ d) (hc : CN X d1 mX11_rowOf [(2, 306), (0, x1)] I R Q1) (h : ∀ z I2 R2, Q1 (0, z) I2 R2 → PN X d mX11_stand 39 [(2, 306), (0, x1), (0, x2), (0, x3), (0, x4), (0, o0)] [(0, z)] I2 R2 Q) : PN X d mX11_stand 32 [(2, 306), (0, x1), (0, x2), (0, x3), (0, x4)] [(0, o0)] I R Q := by
  refine P_istore (n := 5) (by decide) (q := 34) rfl (by decide +kernel) ?_
  refine P_aload_n (n := 0) (q := 35) rfl rfl (by decide +kernel) ?_
  refine P_iload_n (n := 1) (q := 36) rfl rfl (by decide +kernel) ?_
  refine P_invV (As := [(0, x1)]) (q := 39) oX11_rowOf rfl kM306 kX11_494 e1 hMF (Nat.le_of_ble_eq_true rfl) hc rfl (by decide +kernel) (fun z I2 R2 hq => ?_)
  exact (h z I2 R2 hq)
theorem S_X11_stand_39 {X : CX} {d : Nat} {x1 x2 x3 x4 x5 o0 : Int} {I R : PF} {Q : PV → PF → PF → Prop} (h : PN X d mX11_stand 44 [(2, 306), (0, x1), (0, x2), (0, x3), (0, x4), (0, x5), (0, o0), (0, 0)] [] I R Q) : PN X d mX11_stand 39 [(2, 306), (0, x1), (0, x2), (0, x3), (0, x4), (0, x5)] [(0, o0)] I R Q := by
  refine P_istore (n := 6) (by decide) (q := 41) rfl (by decide +kernel) ?_
  refine P_iconst (n := 0) (q := 42) rfl (by decide +kernel) ?_
  refine P_istore (n := 7) (by decide) (q := 44) rfl (by decide +kernel) ?_
  exact h
theorem S_X11_stand_44 {X : CX} {d : Nat} {x1 x2 x3 x4 x5 x6 x7 : Int} {I R : PF} {Q : PV → PF → PF → Prop} (hs : Shp R) (c1 : -2147483648 ≤ x7 ∧ x7 < 2147483648) (c2 : -2147483648 ≤ ((I 341 5) * (I 341 6)) ∧ ((I 341 5) * (I 341 6)) < 2147483648) (h1 : ((I 341 5) * (I 341 6)) ≤ x7 → PN X d mX11_stand 203 [(2, 306), (9, 0), (0, x2), (0, x3), (0, x4)] [] I R Q) (h2 : x7 < ((I 341 5) * (I 341 6)) → PN X d mX11_stand 63 [(2, 306), (0, x1), (0, x2), (0, x3), (0, x4), (0, x5), (0, x6), (0, x7)] [] I R Q) : PN X d mX11_stand 44 [(2, 306), (0, x1), (0, x2), (0, x3), (0, x4), (0, x5), (0, x6), (0, x7)] [] I R Q := by
  refine P_iload (n := 7) (q := 46) rfl rfl (by decide +kernel) ?_
  refine P_aload_n (n := 0) (q := 47) rfl rfl (by decide +kernel) ?_
  refine B_getfR (q := 50) fX11_185 kM306 (rM306_44 hs) rfl (by decide +kernel) ?_
  refine P_iconst (n := 5) (q := 51) rfl (by decide +kernel) ?_
  refine B_iaload (q := 52) kM341 nM341 (by decide) ⟨by decide, by decide⟩ rfl (by decide +kernel) ?_
  refine P_aload_n (n := 0) (q := 53) rfl rfl (by decide +kernel) ?_
  refine B_getfR (q := 56) fX11_185 kM306 (rM306_44 hs) rfl (by decide +kernel) ?_
  refine P_bipush (n := 6) (q := 58) rfl rfl (by decide +kernel) ?_
  refine B_iaload (q := 59) kM341 nM341 (by decide) ⟨by decide, by decide⟩ rfl (by decide +kernel) ?_
  refine P_imul (q := 60) rfl (by decide +kernel) ?_
  refine B_icmp_ge (off := 143) (t := 203) (q := 63) c1 c2 (by decide) rfl (by decide +kernel) ?_ ?_
  · exact fun g9 => (PW_sub (ls' := [(2, 306), (9, 0), (0, x2), (0, x3), (0, x4)]) ⟨Or.inr rfl, Or.inl rfl, Or.inr rfl, Or.inr rfl, Or.inr rfl, trivial⟩ (h1 g9))
  · exact fun g9 => (h2 g9)
theorem S_X11_stand_63 {X : CX} {d d1 : Nat} {x1 x2 x3 x4 x5 x6 x7 : Int} {I R : PF} {Q Q1 : PV → PF → PF → Prop} (hs : Shp R) (f1 : (I 341 5) ≠ 0) (c1 : -2147483648 ≤ x7 ∧ x7 < 2147483648) (c2 : -2147483648 ≤ (I 341 5) ∧ (I 341 5) < 2147483648) (e1 : d1 + 1 ≤ d) (hc : CN X d1 mX11_standsAt [(2, 306), (0, (x7.tmod (I 341 5))), (0, (x7.tdiv (I 341 5)))] I R Q1) (h : ∀ z I2 R2, Q1 (0, z) I2 R2 → PN X d mX11_stand 93 [(2, 306), (0, x1), (0, x2), (0, x3), (0, x4), (0, x5), (0, x6), (0, x7), (0, (x7.tmod (I 341 5))), (0, (x7.tdiv (I 341 5)))] [(0, z)] I2 R2 Q) : PN X d mX11_stand 63 [(2, 306), (0, x1), (0, x2), (0, x3), (0, x4), (0, x5), (0, x6), (0, x7)] [] I R Q := by
  refine P_iload (n := 7) (q := 65) rfl rfl (by decide +kernel) ?_
  refine P_aload_n (n := 0) (q := 66) rfl rfl (by decide +kernel) ?_
  refine B_getfR (q := 69) fX11_185 kM306 (rM306_44 hs) rfl (by decide +kernel) ?_
  refine P_iconst (n := 5) (q := 70) rfl (by decide +kernel) ?_
  refine B_iaload (q := 71) kM341 nM341 (by decide) ⟨by decide, by decide⟩ rfl (by decide +kernel) ?_
  refine B_irem (q := 72) c1 c2 f1 rfl (by decide +kernel) ?_
  refine P_istore (n := 8) (by decide) (q := 74) rfl (by decide +kernel) ?_
  refine P_iload (n := 7) (q := 76) rfl rfl (by decide +kernel) ?_
  refine P_aload_n (n := 0) (q := 77) rfl rfl (by decide +kernel) ?_
  refine B_getfR (q := 80) fX11_185 kM306 (rM306_44 hs) rfl (by decide +kernel) ?_
  refine P_iconst (n := 5) (q := 81) rfl (by decide +kernel) ?_
  refine B_iaload (q := 82) kM341 nM341 (by decide) ⟨by decide, by decide⟩ rfl (by decide +kernel) ?_
  refine B_idiv (q := 83) c1 c2 f1 rfl (by decide +kernel) ?_
  refine P_istore (n := 9) (by decide) (q := 85) rfl (by decide +kernel) ?_
  refine P_aload_n (n := 0) (q := 86) rfl rfl (by decide +kernel) ?_
  refine P_iload (n := 8) (q := 88) rfl rfl (by decide +kernel) ?_
  refine P_iload (n := 9) (q := 90) rfl rfl (by decide +kernel) ?_
  refine P_invV (As := [(0, (x7.tmod (I 341 5))), (0, (x7.tdiv (I 341 5)))]) (q := 93) oX11_standsAt rfl kM306 kX11_536 e1 hMF (Nat.le_of_ble_eq_true rfl) hc rfl (by decide +kernel) (fun z I2 R2 hq => ?_)
  exact (h z I2 R2 hq)
theorem S_X11_stand_93 {X : CX} {d d1 : Nat} {x1 x2 x3 x4 x5 x6 x7 x8 x9 o0 : Int} {I R : PF} {Q Q1 : PV → PF → PF → Prop} (e1 : d1 + 1 ≤ d) (hc : CN X d1 mX11_isWall [(2, 306), (0, x8), (0, x9)] I R Q1) (h : ∀ z I2 R2, Q1 (0, z) I2 R2 → PN X d mX11_stand 103 [(2, 306), (0, x1), (0, x2), (0, x3), (0, x4), (0, x5), (0, x6), (0, x7), (0, x8), (0, x9), (0, o0)] [(0, z)] I2 R2 Q) : PN X d mX11_stand 93 [(2, 306), (0, x1), (0, x2), (0, x3), (0, x4), (0, x5), (0, x6), (0, x7), (0, x8), (0, x9)] [(0, o0)] I R Q := by
  refine P_istore (n := 10) (by decide) (q := 95) rfl (by decide +kernel) ?_
  refine P_aload_n (n := 0) (q := 96) rfl rfl (by decide +kernel) ?_
  refine P_iload (n := 8) (q := 98) rfl rfl (by decide +kernel) ?_
  refine P_iload (n := 9) (q := 100) rfl rfl (by decide +kernel) ?_
  refine P_invV (As := [(0, x8), (0, x9)]) (q := 103) oX11_isWall rfl kM306 kX11_453 e1 hMF (Nat.le_of_ble_eq_true rfl) hc rfl (by decide +kernel) (fun z I2 R2 hq => ?_)
  exact (h z I2 R2 hq)
theorem S_X11_stand_103 {X : CX} {d : Nat} {x1 x2 x3 x4 x5 x6 x7 x8 x9 x10 o0 : Int} {I R : PF} {Q : PV → PF → PF → Prop} (c1 : -2147483648 ≤ o0 ∧ o0 < 2147483648) (h1 : o0 ≠ 0 → PN X d mX11_stand 197 [(2, 306), (0, x1), (0, x2), (0, x3), (0, x4), (0, x5), (0, x6), (0, x7)] [] I R Q) (h2 : o0 = 0 → PN X d mX11_stand 106 [(2, 306), (0, x1), (0, x2), (0, x3), (0, x4), (0, x5), (0, x6), (0, x7), (0, x8), (0, x9), (0, x10)] [] I R Q) : PN X d mX11_stand 103 [(2, 306), (0, x1), (0, x2), (0, x3), (0, x4), (0, x5), (0, x6), (0, x7), (0, x8), (0, x9), (0, x10)] [(0, o0)] I R Q := by
  refine B_if_ne (off := 94) (t := 197) (q := 106) c1 (by decide) rfl (by decide +kernel) ?_ ?_
  · exact fun g9 => (PW_sub (ls' := [(2, 306), (0, x1), (0, x2), (0, x3), (0, x4), (0, x5), (0, x6), (0, x7)]) ⟨Or.inr rfl, Or.inr rfl, Or.inr rfl, Or.inr rfl, Or.inr rfl, Or.inr rfl, Or.inr rfl, Or.inr rfl, trivial⟩ (h1 g9))
  · exact fun g9 => (h2 g9)
theorem S_X11_stand_106 {X : CX} {d : Nat} {x1 x2 x3 x4 x5 x6 x7 x8 x9 x10 : Int} {I R : PF} {Q : PV → PF → PF → Prop} (c1 : -2147483648 ≤ x10 ∧ x10 < 2147483648) (h1 : x10 = (-1) → PN X d mX11_stand 121 [(2, 306), (0, x1), (0, x2), (0, x3), (0, x4), (0, x5), (0, x6), (0, x7), (0, x8), (0, x9)] [] I R Q) (h2 : x10 ≠ (-1) → PN X d mX11_stand 112 [(2, 306), (0, x1), (0, x2), (0, x3), (0, x4), (0, x5), (0, x6), (0, x7), (0, x8), (0, x9), (0, x10)] [] I R Q) : PN X d mX11_stand 106 [(2, 306), (0, x1), (0, x2), (0, x3), (0, x4), (0, x5), (0, x6), (0, x7), (0, x8), (0, x9), (0, x10)] [] I R Q := by
  refine P_iload (n := 10) (q := 108) rfl rfl (by decide +kernel) ?_
  refine P_iconst (n := (-1)) (q := 109) rfl (by decide +kernel) ?_
  refine B_icmp_eq (off := 12) (t := 121) (q := 112) c1 ⟨by decide, by decide⟩ (by decide) rfl (by decide +kernel) ?_ ?_
  · exact fun g9 => (PW_sub (ls' := [(2, 306), (0, x1), (0, x2), (0, x3), (0, x4), (0, x5), (0, x6), (0, x7), (0, x8), (0, x9)]) ⟨Or.inr rfl, Or.inr rfl, Or.inr rfl, Or.inr rfl, Or.inr rfl, Or.inr rfl, Or.inr rfl, Or.inr rfl, Or.inr rfl, Or.inr rfl, trivial⟩ (h1 g9))
  · exact fun g9 => (h2 g9)
theorem S_X11_stand_112 {X : CX} {d : Nat} {x1 x2 x3 x4 x5 x6 x7 x8 x9 x10 : Int} {I R : PF} {Q : PV → PF → PF → Prop} (c1 : -2147483648 ≤ x10 ∧ x10 < 2147483648) (c2 : -2147483648 ≤ x1 ∧ x1 < 2147483648) (h1 : x10 = x1 → PN X d mX11_stand 121 [(2, 306), (0, x1), (0, x2), (0, x3), (0, x4), (0, x5), (0, x6), (0, x7), (0, x8), (0, x9)] [] I R Q) (h2 : x10 ≠ x1 → PN X d mX11_stand 118 [(2, 306), (0, x1), (0, x2), (0, x3), (0, x4), (0, x5), (0, x6), (0, x7)] [] I R Q) : PN X d mX11_stand 112 [(2, 306), (0, x1), (0, x2), (0, x3), (0, x4), (0, x5), (0, x6), (0, x7), (0, x8), (0, x9), (0, x10)] [] I R Q := by
  refine P_iload (n := 10) (q := 114) rfl rfl (by decide +kernel) ?_
  refine P_iload_n (n := 1) (q := 115) rfl rfl (by decide +kernel) ?_
  refine B_icmp_eq (off := 6) (t := 121) (q := 118) c1 c2 (by decide) rfl (by decide +kernel) ?_ ?_
  · exact fun g9 => (PW_sub (ls' := [(2, 306), (0, x1), (0, x2), (0, x3), (0, x4), (0, x5), (0, x6), (0, x7), (0, x8), (0, x9)]) ⟨Or.inr rfl, Or.inr rfl, Or.inr rfl, Or.inr rfl, Or.inr rfl, Or.inr rfl, Or.inr rfl, Or.inr rfl, Or.inr rfl, Or.inr rfl, trivial⟩ (h1 g9))
  · exact fun g9 => (PW_sub (ls' := [(2, 306), (0, x1), (0, x2), (0, x3), (0, x4), (0, x5), (0, x6), (0, x7)]) ⟨Or.inr rfl, Or.inr rfl, Or.inr rfl, Or.inr rfl, Or.inr rfl, Or.inr rfl, Or.inr rfl, Or.inr rfl, trivial⟩ (h2 g9))
theorem S_X11_stand_118 {X : CX} {d : Nat} {x1 x2 x3 x4 x5 x6 x7 : Int} {I R : PF} {Q : PV → PF → PF → Prop} (h : PN X d mX11_stand 197 [(2, 306), (0, x1), (0, x2), (0, x3), (0, x4), (0, x5), (0, x6), (0, x7)] [] I R Q) : PN X d mX11_stand 118 [(2, 306), (0, x1), (0, x2), (0, x3), (0, x4), (0, x5), (0, x6), (0, x7)] [] I R Q := by
  refine P_goto (off := 79) (t := 197) (by decide) (by decide +kernel) ?_
  exact (PW_sub (ls' := [(2, 306), (0, x1), (0, x2), (0, x3), (0, x4), (0, x5), (0, x6), (0, x7)]) ⟨Or.inr rfl, Or.inr rfl, Or.inr rfl, Or.inr rfl, Or.inr rfl, Or.inr rfl, Or.inr rfl, Or.inr rfl, trivial⟩ h)
theorem S_X11_stand_121 {X : CX} {d d1 : Nat} {x1 x2 x3 x4 x5 x6 x7 x8 x9 : Int} {I R : PF} {Q Q1 : PV → PF → PF → Prop} (hs : Shp R) (b1 : (0 : Int) ≤ (3 + (5 * x1)) ∧ (3 + (5 * x1)) < 154) (b2 : (0 : Int) ≤ ((3 + (5 * x1)) + 1) ∧ ((3 + (5 * x1)) + 1) < 154) (e1 : d1 + 1 ≤ d) (hc : CN X d1 mX11_getsMany [(2, 306), (0, x1)] (u2 (u2 I 348 (3 + (5 * x1)) x8) 348 ((3 + (5 * x1)) + 1) x9) R Q1) (h : ∀ z I2 R2, Q1 (0, z) I2 R2 → PN X d mX11_stand 152 [(2, 306), (0, x1), (0, x2), (0, x3), (0, x4), (0, x5), (0, x6), (0, x7)] [(0, z)] I2 R2 Q) : PN X d mX11_stand 121 [(2, 306), (0, x1), (0, x2), (0, x3), (0, x4), (0, x5), (0, x6), (0, x7), (0, x8), (0, x9)] [] I R Q := by
  refine P_aload_n (n := 0) (q := 122) rfl rfl (by decide +kernel) ?_
  refine B_getfR (q := 125) fX11_303 kM306 (rM306_59 hs) rfl (by decide +kernel) ?_
  refine P_iconst (n := 3) (q := 126) rfl (by decide +kernel) ?_
  refine P_iconst (n := 5) (q := 127) rfl (by decide +kernel) ?_
  refine P_iload_n (n := 1) (q := 128) rfl rfl (by decide +kernel) ?_
  refine P_imul (q := 129) rfl (by decide +kernel) ?_
  refine P_iadd (q := 130) rfl (by decide +kernel) ?_
  refine P_iload (n := 8) (q := 132) rfl rfl (by decide +kernel) ?_
  refine B_iastore (q := 133) kM348 nM348 (by decide) b1 rfl (by decide +kernel) ?_
  refine P_aload_n (n := 0) (q := 134) rfl rfl (by decide +kernel) ?_
  refine B_getfR (q := 137) fX11_303 kM306 (rM306_59 hs) rfl (by decide +kernel) ?_
  refine P_iconst (n := 3) (q := 138) rfl (by decide +kernel) ?_
  refine P_iconst (n := 5) (q := 139) rfl (by decide +kernel) ?_
  refine P_iload_n (n := 1) (q := 140) rfl rfl (by decide +kernel) ?_
  refine P_imul (q := 141) rfl (by decide +kernel) ?_
  refine P_iadd (q := 142) rfl (by decide +kernel) ?_
  refine P_iconst (n := 1) (q := 143) rfl (by decide +kernel) ?_
  refine P_iadd (q := 144) rfl (by decide +kernel) ?_
  refine P_iload (n := 9) (q := 146) rfl rfl (by decide +kernel) ?_
  refine B_iastore (q := 147) kM348 nM348 (by decide) b2 rfl (by decide +kernel) ?_
  refine P_aload_n (n := 0) (q := 148) rfl rfl (by decide +kernel) ?_
  refine P_iload_n (n := 1) (q := 149) rfl rfl (by decide +kernel) ?_
  refine P_invV (As := [(0, x1)]) (q := 152) oX11_getsMany rfl kM306 kX11_555 e1 hMF (Nat.le_of_ble_eq_true rfl) hc rfl (by decide +kernel) (fun z I2 R2 hq => ?_)
  exact (PW_sub (ls' := [(2, 306), (0, x1), (0, x2), (0, x3), (0, x4), (0, x5), (0, x6), (0, x7)]) ⟨Or.inr rfl, Or.inr rfl, Or.inr rfl, Or.inr rfl, Or.inr rfl, Or.inr rfl, Or.inr rfl, Or.inr rfl, trivial⟩ (h z I2 R2 hq))
theorem S_X11_stand_152 {X : CX} {d : Nat} {x1 x2 x3 x4 x5 x6 x7 o0 : Int} {I R : PF} {Q : PV → PF → PF → Prop} (hs : Shp R) (b1 : (0 : Int) ≤ (3 + (5 * x1)) ∧ (3 + (5 * x1)) < 154) (b2 : (0 : Int) ≤ ((3 + (5 * x1)) + 1) ∧ ((3 + (5 * x1)) + 1) < 154) (c1 : -2147483648 ≤ o0 ∧ o0 < 2147483648) (c2 : -2147483648 ≤ x4 ∧ x4 < 2147483648) (h1 : x4 < o0 → PN X d mX11_stand 190 [(2, 306), (0, x1), (0, x2), (9, 0), (9, 0), (0, x5), (0, x6), (0, x7), (9, 0), (9, 0), (9, 0), (0, o0)] [] (u2 (u2 I 348 (3 + (5 * x1)) x5) 348 ((3 + (5 * x1)) + 1) x6) R Q) (h2 : o0 ≤ x4 → PN X d mX11_stand 187 [(2, 306), (0, x1), (0, x2), (0, x3), (0, x4), (0, x5), (0, x6), (0, x7)] [] (u2 (u2 I 348 (3 + (5 * x1)) x5) 348 ((3 + (5 * x1)) + 1) x6) R Q) : PN X d mX11_stand 152 [(2, 306), (0, x1), (0, x2), (0, x3), (0, x4), (0, x5), (0, x6), (0, x7)] [(0, o0)] I R Q := by
  refine P_istore (n := 11) (by decide) (q := 154) rfl (by decide +kernel) ?_
  refine P_aload_n (n := 0) (q := 155) rfl rfl (by decide +kernel) ?_
  refine B_getfR (q := 158) fX11_303 kM306 (rM306_59 hs) rfl (by decide +kernel) ?_
  refine P_iconst (n := 3) (q := 159) rfl (by decide +kernel) ?_
  refine P_iconst (n := 5) (q := 160) rfl (by decide +kernel) ?_
  refine P_iload_n (n := 1) (q := 161) rfl rfl (by decide +kernel) ?_
  refine P_imul (q := 162) rfl (by decide +kernel) ?_
  refine P_iadd (q := 163) rfl (by decide +kernel) ?_
  refine P_iload (n := 5) (q := 165) rfl rfl (by decide +kernel) ?_
  refine B_iastore (q := 166) kM348 nM348 (by decide) b1 rfl (by decide +kernel) ?_
  refine P_aload_n (n := 0) (q := 167) rfl rfl (by decide +kernel) ?_
  refine B_getfR (q := 170) fX11_303 kM306 (rM306_59 hs) rfl (by decide +kernel) ?_
  refine P_iconst (n := 3) (q := 171) rfl (by decide +kernel) ?_
  refine P_iconst (n := 5) (q := 172) rfl (by decide +kernel) ?_
  refine P_iload_n (n := 1) (q := 173) rfl rfl (by decide +kernel) ?_
  refine P_imul (q := 174) rfl (by decide +kernel) ?_
  refine P_iadd (q := 175) rfl (by decide +kernel) ?_
  refine P_iconst (n := 1) (q := 176) rfl (by decide +kernel) ?_
  refine P_iadd (q := 177) rfl (by decide +kernel) ?_
  refine P_iload (n := 6) (q := 179) rfl rfl (by decide +kernel) ?_
  refine B_iastore (q := 180) kM348 nM348 (by decide) b2 rfl (by decide +kernel) ?_
  refine P_iload (n := 11) (q := 182) rfl rfl (by decide +kernel) ?_
  refine P_iload (n := 4) (q := 184) rfl rfl (by decide +kernel) ?_
  refine B_icmp_gt (off := 6) (t := 190) (q := 187) c1 c2 (by decide) rfl (by decide +kernel) ?_ ?_
  · exact fun g9 => (PW_sub (ls' := [(2, 306), (0, x1), (0, x2), (9, 0), (9, 0), (0, x5), (0, x6), (0, x7), (9, 0), (9, 0), (9, 0), (0, o0)]) ⟨Or.inr rfl, Or.inr rfl, Or.inr rfl, Or.inl rfl, Or.inl rfl, Or.inr rfl, Or.inr rfl, Or.inr rfl, Or.inl rfl, Or.inl rfl, Or.inl rfl, Or.inr rfl, trivial⟩ (h1 g9))
  · exact fun g9 => (PW_sub (ls' := [(2, 306), (0, x1), (0, x2), (0, x3), (0, x4), (0, x5), (0, x6), (0, x7)]) ⟨Or.inr rfl, Or.inr rfl, Or.inr rfl, Or.inr rfl, Or.inr rfl, Or.inr rfl, Or.inr rfl, Or.inr rfl, trivial⟩ (h2 g9))
theorem S_X11_stand_187 {X : CX} {d : Nat} {x1 x2 x3 x4 x5 x6 x7 : Int} {I R : PF} {Q : PV → PF → PF → Prop} (h : PN X d mX11_stand 197 [(2, 306), (0, x1), (0, x2), (0, x3), (0, x4), (0, x5), (0, x6), (0, x7)] [] I R Q) : PN X d mX11_stand 187 [(2, 306), (0, x1), (0, x2), (0, x3), (0, x4), (0, x5), (0, x6), (0, x7)] [] I R Q := by
  refine P_goto (off := 10) (t := 197) (by decide) (by decide +kernel) ?_
  exact (PW_sub (ls' := [(2, 306), (0, x1), (0, x2), (0, x3), (0, x4), (0, x5), (0, x6), (0, x7)]) ⟨Or.inr rfl, Or.inr rfl, Or.inr rfl, Or.inr rfl, Or.inr rfl, Or.inr rfl, Or.inr rfl, Or.inr rfl, trivial⟩ h)
theorem S_X11_stand_190 {X : CX} {d : Nat} {x1 x2 x5 x6 x7 x11 : Int} {I R : PF} {Q : PV → PF → PF → Prop} (h : PN X d mX11_stand 197 [(2, 306), (0, x1), (0, x2), (0, x7), (0, x11), (0, x5), (0, x6), (0, x7)] [] I R Q) : PN X d mX11_stand 190 [(2, 306), (0, x1), (0, x2), (9, 0), (9, 0), (0, x5), (0, x6), (0, x7), (9, 0), (9, 0), (9, 0), (0, x11)] [] I R Q := by
  refine P_iload (n := 7) (q := 192) rfl rfl (by decide +kernel) ?_
  refine P_istore_n (n := 3) (by decide) (q := 193) rfl (by decide +kernel) ?_
  refine P_iload (n := 11) (q := 195) rfl rfl (by decide +kernel) ?_
  refine P_istore (n := 4) (by decide) (q := 197) rfl (by decide +kernel) ?_
  exact (PW_sub (ls' := [(2, 306), (0, x1), (0, x2), (0, x7), (0, x11), (0, x5), (0, x6), (0, x7)]) ⟨Or.inr rfl, Or.inr rfl, Or.inr rfl, Or.inr rfl, Or.inr rfl, Or.inr rfl, Or.inr rfl, Or.inr rfl, trivial⟩ h)
theorem S_X11_stand_197 {X : CX} {d : Nat} {x1 x2 x3 x4 x5 x6 x7 : Int} {I R : PF} {Q : PV → PF → PF → Prop} (h : PN X d mX11_stand 44 [(2, 306), (0, x1), (0, x2), (0, x3), (0, x4), (0, x5), (0, x6), (0, (x7 + 1))] [] I R Q) : PN X d mX11_stand 197 [(2, 306), (0, x1), (0, x2), (0, x3), (0, x4), (0, x5), (0, x6), (0, x7)] [] I R Q := by
  refine P_iinc (n := 7) (a := 1) (by decide) rfl (q := 200) rfl (by decide +kernel) ?_
  refine P_goto (off := (-156)) (t := 44) (by decide) (by decide +kernel) ?_
  exact (PW_sub (ls' := [(2, 306), (0, x1), (0, x2), (0, x3), (0, x4), (0, x5), (0, x6), (0, (x7 + 1))]) ⟨Or.inr rfl, Or.inr rfl, Or.inr rfl, Or.inr rfl, Or.inr rfl, Or.inr rfl, Or.inr rfl, Or.inr rfl, trivial⟩ h)
theorem S_X11_stand_203 {X : CX} {d : Nat} {x2 x3 x4 : Int} {I R : PF} {Q : PV → PF → PF → Prop} (c1 : -2147483648 ≤ x2 ∧ x2 < 2147483648) (h1 : x2 ≠ 0 → PN X d mX11_stand 218 [(2, 306), (9, 0), (0, x2), (0, x3), (0, x4)] [] I R Q) (h2 : x2 = 0 → PN X d mX11_stand 207 [(2, 306), (9, 0), (9, 0), (0, x3)] [] I R Q) : PN X d mX11_stand 203 [(2, 306), (9, 0), (0, x2), (0, x3), (0, x4)] [] I R Q := by
  refine P_iload_n (n := 2) (q := 204) rfl rfl (by decide +kernel) ?_
  refine B_if_ne (off := 14) (t := 218) (q := 207) c1 (by decide) rfl (by decide +kernel) ?_ ?_
  · exact fun g9 => (PW_sub (ls' := [(2, 306), (9, 0), (0, x2), (0, x3), (0, x4)]) ⟨Or.inr rfl, Or.inl rfl, Or.inr rfl, Or.inr rfl, Or.inr rfl, trivial⟩ (h1 g9))
  · exact fun g9 => (PW_sub (ls' := [(2, 306), (9, 0), (9, 0), (0, x3)]) ⟨Or.inr rfl, Or.inl rfl, Or.inl rfl, Or.inr rfl, trivial⟩ (h2 g9))
theorem S_X11_stand_207 {X : CX} {d : Nat} {x3 : Int} {I R : PF} {Q : PV → PF → PF → Prop} (hs : Shp R) (f1 : (I 341 5) ≠ 0) (c1 : -2147483648 ≤ x3 ∧ x3 < 2147483648) (c2 : -2147483648 ≤ (I 341 5) ∧ (I 341 5) < 2147483648) (h : PN X d mX11_stand 236 [] [(0, (x3.tmod (I 341 5)))] I R Q) : PN X d mX11_stand 207 [(2, 306), (9, 0), (9, 0), (0, x3)] [] I R Q := by
  refine P_iload_n (n := 3) (q := 208) rfl rfl (by decide +kernel) ?_
  refine P_aload_n (n := 0) (q := 209) rfl rfl (by decide +kernel) ?_
  refine B_getfR (q := 212) fX11_185 kM306 (rM306_44 hs) rfl (by decide +kernel) ?_
  refine P_iconst (n := 5) (q := 213) rfl (by decide +kernel) ?_
  refine B_iaload (q := 214) kM341 nM341 (by decide) ⟨by decide, by decide⟩ rfl (by decide +kernel) ?_
  refine B_irem (q := 215) c1 c2 f1 rfl (by decide +kernel) ?_
  refine P_goto (off := 21) (t := 236) (by decide) (by decide +kernel) ?_
  exact (PW_sub (ls' := []) trivial h)
theorem S_X11_stand_218 {X : CX} {d : Nat} {x2 x3 x4 : Int} {I R : PF} {Q : PV → PF → PF → Prop} (c1 : -2147483648 ≤ x2 ∧ x2 < 2147483648) (h1 : x2 ≠ 1 → PN X d mX11_stand 234 [(9, 0), (9, 0), (9, 0), (9, 0), (0, x4)] [] I R Q) (h2 : x2 = 1 → PN X d mX11_stand 223 [(2, 306), (9, 0), (9, 0), (0, x3)] [] I R Q) : PN X d mX11_stand 218 [(2, 306), (9, 0), (0, x2), (0, x3), (0, x4)] [] I R Q := by
  refine P_iload_n (n := 2) (q := 219) rfl rfl (by decide +kernel) ?_
  refine P_iconst (n := 1) (q := 220) rfl (by decide +kernel) ?_
  refine B_icmp_ne (off := 14) (t := 234) (q := 223) c1 ⟨by decide, by decide⟩ (by decide) rfl (by decide +kernel) ?_ ?_
  · exact fun g9 => (PW_sub (ls' := [(9, 0), (9, 0), (9, 0), (9, 0), (0, x4)]) ⟨Or.inl rfl, Or.inl rfl, Or.inl rfl, Or.inl rfl, Or.inr rfl, trivial⟩ (h1 g9))
  · exact fun g9 => (PW_sub (ls' := [(2, 306), (9, 0), (9, 0), (0, x3)]) ⟨Or.inr rfl, Or.inl rfl, Or.inl rfl, Or.inr rfl, trivial⟩ (h2 g9))
theorem S_X11_stand_223 {X : CX} {d : Nat} {x3 : Int} {I R : PF} {Q : PV → PF → PF → Prop} (hs : Shp R) (f1 : (I 341 5) ≠ 0) (c1 : -2147483648 ≤ x3 ∧ x3 < 2147483648) (c2 : -2147483648 ≤ (I 341 5) ∧ (I 341 5) < 2147483648) (h : PN X d mX11_stand 236 [] [(0, (x3.tdiv (I 341 5)))] I R Q) : PN X d mX11_stand 223 [(2, 306), (9, 0), (9, 0), (0, x3)] [] I R Q := by
  refine P_iload_n (n := 3) (q := 224) rfl rfl (by decide +kernel) ?_
  refine P_aload_n (n := 0) (q := 225) rfl rfl (by decide +kernel) ?_
  refine B_getfR (q := 228) fX11_185 kM306 (rM306_44 hs) rfl (by decide +kernel) ?_
  refine P_iconst (n := 5) (q := 229) rfl (by decide +kernel) ?_
  refine B_iaload (q := 230) kM341 nM341 (by decide) ⟨by decide, by decide⟩ rfl (by decide +kernel) ?_
  refine B_idiv (q := 231) c1 c2 f1 rfl (by decide +kernel) ?_
  refine P_goto (off := 5) (t := 236) (by decide) (by decide +kernel) ?_
  exact (PW_sub (ls' := []) trivial h)
theorem S_X11_stand_234 {X : CX} {d : Nat} {x4 : Int} {I R : PF} {Q : PV → PF → PF → Prop} (h : PN X d mX11_stand 236 [] [(0, x4)] I R Q) : PN X d mX11_stand 234 [(9, 0), (9, 0), (9, 0), (9, 0), (0, x4)] [] I R Q := by
  refine P_iload (n := 4) (q := 236) rfl rfl (by decide +kernel) ?_
  exact (PW_sub (ls' := []) trivial h)
theorem S_X11_stand_236 {X : CX} {d : Nat} {o0 : Int} {I R : PF} {Q : PV → PF → PF → Prop} (h : Q (0, o0) I R) : PN X d mX11_stand 236 [] [(0, o0)] I R Q := by
  refine P_iret rfl (by decide +kernel) h
theorem S_X11_stands_0 {X : CX} {d : Nat} {I R : PF} {Q : PV → PF → PF → Prop} (h : PN X d mX11_stands 7 [(2, 306), (0, 0)] [] (u2 I 306 55 1) R Q) : PN X d mX11_stands 0 [(2, 306)] [] I R Q := by
  refine P_aload_n (n := 0) (q := 1) rfl rfl (by decide +kernel) ?_
  refine P_iconst (n := 1) (q := 2) rfl (by decide +kernel) ?_
  refine P_putZ (q := 5) wX11_296 (fun h => by cases h) (Or.inr rfl) kM306 rfl (by decide +kernel) ?_
  refine P_iconst (n := 0) (q := 6) rfl (by decide +kernel) ?_
  refine P_istore_n (n := 1) (by decide) (q := 7) rfl (by decide +kernel) ?_
  exact h
theorem S_X11_stands_7 {X : CX} {d : Nat} {x1 : Int} {I R : PF} {Q : PV → PF → PF → Prop} (c1 : -2147483648 ≤ x1 ∧ x1 < 2147483648) (h1 : 3 ≤ x1 → PN X d mX11_stands 32 [(2, 306)] [] I R Q) (h2 : x1 < 3 → PN X d mX11_stands 12 [(2, 306), (0, x1)] [] I R Q) : PN X d mX11_stands 7 [(2, 306), (0, x1)] [] I R Q := by
  refine P_iload_n (n := 1) (q := 8) rfl rfl (by decide +kernel) ?_
  refine P_iconst (n := 3) (q := 9) rfl (by decide +kernel) ?_
  refine B_icmp_ge (off := 23) (t := 32) (q := 12) c1 ⟨by decide, by decide⟩ (by decide) rfl (by decide +kernel) ?_ ?_
  · exact fun g9 => (PW_sub (ls' := [(2, 306)]) ⟨Or.inr rfl, trivial⟩ (h1 g9))
  · exact fun g9 => (h2 g9)
theorem S_X11_stands_12 {X : CX} {d : Nat} {x1 : Int} {I R : PF} {Q : PV → PF → PF → Prop} (hs : Shp R) (b1 : (0 : Int) ≤ x1 ∧ x1 < 6) (b2 : (0 : Int) ≤ (3 + x1) ∧ (3 + x1) < 6) (h : PN X d mX11_stands 7 [(2, 306), (0, (x1 + 1))] [] (u2 I 339 (3 + x1) (I 339 x1)) R Q) : PN X d mX11_stands 12 [(2, 306), (0, x1)] [] I R Q := by
  refine P_aload_n (n := 0) (q := 13) rfl rfl (by decide +kernel) ?_
  refine B_getfR (q := 16) fX11_166 kM306 (rM306_42 hs) rfl (by decide +kernel) ?_
  refine P_iconst (n := 3) (q := 17) rfl (by decide +kernel) ?_
  refine P_iload_n (n := 1) (q := 18) rfl rfl (by decide +kernel) ?_
  refine P_iadd (q := 19) rfl (by decide +kernel) ?_
  refine P_aload_n (n := 0) (q := 20) rfl rfl (by decide +kernel) ?_
  refine B_getfR (q := 23) fX11_166 kM306 (rM306_42 hs) rfl (by decide +kernel) ?_
  refine P_iload_n (n := 1) (q := 24) rfl rfl (by decide +kernel) ?_
  refine B_iaload (q := 25) kM339 nM339 (by decide) b1 rfl (by decide +kernel) ?_
  refine B_iastore (q := 26) kM339 nM339 (by decide) b2 rfl (by decide +kernel) ?_
  refine P_iinc (n := 1) (a := 1) (by decide) rfl (q := 29) rfl (by decide +kernel) ?_
  refine P_goto (off := (-22)) (t := 7) (by decide) (by decide +kernel) ?_
  exact h
theorem S_X11_stands_32 {X : CX} {d : Nat} {I R : PF} {Q : PV → PF → PF → Prop} (h : PN X d mX11_stands 34 [(2, 306), (0, 0)] [] I R Q) : PN X d mX11_stands 32 [(2, 306)] [] I R Q := by
  refine P_iconst (n := 0) (q := 33) rfl (by decide +kernel) ?_
  refine P_istore_n (n := 1) (by decide) (q := 34) rfl (by decide +kernel) ?_
  exact h
theorem S_X11_stands_34 {X : CX} {d : Nat} {x1 : Int} {I R : PF} {Q : PV → PF → PF → Prop} (c1 : -2147483648 ≤ x1 ∧ x1 < 2147483648) (h1 : 12 ≤ x1 → PN X d mX11_stands 61 [(2, 306)] [] I R Q) (h2 : x1 < 12 → PN X d mX11_stands 40 [(2, 306), (0, x1)] [] I R Q) : PN X d mX11_stands 34 [(2, 306), (0, x1)] [] I R Q := by
  refine P_iload_n (n := 1) (q := 35) rfl rfl (by decide +kernel) ?_
  refine P_bipush (n := 12) (q := 37) rfl rfl (by decide +kernel) ?_
  refine B_icmp_ge (off := 24) (t := 61) (q := 40) c1 ⟨by decide, by decide⟩ (by decide) rfl (by decide +kernel) ?_ ?_
  · exact fun g9 => (PW_sub (ls' := [(2, 306)]) ⟨Or.inr rfl, trivial⟩ (h1 g9))
  · exact fun g9 => (h2 g9)
theorem S_X11_stands_40 {X : CX} {d : Nat} {x1 : Int} {I R : PF} {Q : PV → PF → PF → Prop} (hs : Shp R) (b1 : (0 : Int) ≤ x1 ∧ x1 < 24) (b2 : (0 : Int) ≤ (12 + x1) ∧ (12 + x1) < 24) (h : PN X d mX11_stands 34 [(2, 306), (0, (x1 + 1))] [] (u2 I 340 (12 + x1) (I 340 x1)) R Q) : PN X d mX11_stands 40 [(2, 306), (0, x1)] [] I R Q := by
  refine P_aload_n (n := 0) (q := 41) rfl rfl (by decide +kernel) ?_
  refine B_getfR (q := 44) fX11_169 kM306 (rM306_43 hs) rfl (by decide +kernel) ?_
  refine P_bipush (n := 12) (q := 46) rfl rfl (by decide +kernel) ?_
  refine P_iload_n (n := 1) (q := 47) rfl rfl (by decide +kernel) ?_
  refine P_iadd (q := 48) rfl (by decide +kernel) ?_
  refine P_aload_n (n := 0) (q := 49) rfl rfl (by decide +kernel) ?_
  refine B_getfR (q := 52) fX11_169 kM306 (rM306_43 hs) rfl (by decide +kernel) ?_
  refine P_iload_n (n := 1) (q := 53) rfl rfl (by decide +kernel) ?_
  refine B_laload (q := 54) kM340 nM340 (by decide) b1 rfl (by decide +kernel) ?_
  refine B_lastore (q := 55) kM340 nM340 (by decide) b2 rfl (by decide +kernel) ?_
  refine P_iinc (n := 1) (a := 1) (by decide) rfl (q := 58) rfl (by decide +kernel) ?_
  refine P_goto (off := (-24)) (t := 34) (by decide) (by decide +kernel) ?_
  exact h
theorem S_X11_stands_61 {X : CX} {d : Nat} {I R : PF} {Q : PV → PF → PF → Prop} (h : PN X d mX11_stands 63 [(2, 306), (0, 0)] [] I R Q) : PN X d mX11_stands 61 [(2, 306)] [] I R Q := by
  refine P_iconst (n := 0) (q := 62) rfl (by decide +kernel) ?_
  refine P_istore_n (n := 1) (by decide) (q := 63) rfl (by decide +kernel) ?_
  exact h
theorem S_X11_stands_63 {X : CX} {d : Nat} {x1 : Int} {I R : PF} {Q : PV → PF → PF → Prop} (c1 : -2147483648 ≤ x1 ∧ x1 < 2147483648) (h1 : 5 ≤ x1 → PN X d mX11_stands 88 [(2, 306)] [] I R Q) (h2 : x1 < 5 → PN X d mX11_stands 68 [(2, 306), (0, x1)] [] I R Q) : PN X d mX11_stands 63 [(2, 306), (0, x1)] [] I R Q := by
  refine P_iload_n (n := 1) (q := 64) rfl rfl (by decide +kernel) ?_
  refine P_iconst (n := 5) (q := 65) rfl (by decide +kernel) ?_
  refine B_icmp_ge (off := 23) (t := 88) (q := 68) c1 ⟨by decide, by decide⟩ (by decide) rfl (by decide +kernel) ?_ ?_
  · exact fun g9 => (PW_sub (ls' := [(2, 306)]) ⟨Or.inr rfl, trivial⟩ (h1 g9))
  · exact fun g9 => (h2 g9)
theorem S_X11_stands_68 {X : CX} {d : Nat} {x1 : Int} {I R : PF} {Q : PV → PF → PF → Prop} (hs : Shp R) (b1 : (0 : Int) ≤ x1 ∧ x1 < 10) (b2 : (0 : Int) ≤ (5 + x1) ∧ (5 + x1) < 10) (h : PN X d mX11_stands 63 [(2, 306), (0, (x1 + 1))] [] (u2 I 341 (5 + x1) (I 341 x1)) R Q) : PN X d mX11_stands 68 [(2, 306), (0, x1)] [] I R Q := by
  refine P_aload_n (n := 0) (q := 69) rfl rfl (by decide +kernel) ?_
  refine B_getfR (q := 72) fX11_185 kM306 (rM306_44 hs) rfl (by decide +kernel) ?_
  refine P_iconst (n := 5) (q := 73) rfl (by decide +kernel) ?_
  refine P_iload_n (n := 1) (q := 74) rfl rfl (by decide +kernel) ?_
  refine P_iadd (q := 75) rfl (by decide +kernel) ?_
  refine P_aload_n (n := 0) (q := 76) rfl rfl (by decide +kernel) ?_
  refine B_getfR (q := 79) fX11_185 kM306 (rM306_44 hs) rfl (by decide +kernel) ?_
  refine P_iload_n (n := 1) (q := 80) rfl rfl (by decide +kernel) ?_
  refine B_iaload (q := 81) kM341 nM341 (by decide) b1 rfl (by decide +kernel) ?_
  refine B_iastore (q := 82) kM341 nM341 (by decide) b2 rfl (by decide +kernel) ?_
  refine P_iinc (n := 1) (a := 1) (by decide) rfl (q := 85) rfl (by decide +kernel) ?_
  refine P_goto (off := (-22)) (t := 63) (by decide) (by decide +kernel) ?_
  exact h
theorem S_X11_stands_88 {X : CX} {d : Nat} {I R : PF} {Q : PV → PF → PF → Prop} (h : PN X d mX11_stands 90 [(2, 306), (0, 0)] [] I R Q) : PN X d mX11_stands 88 [(2, 306)] [] I R Q := by
  refine P_iconst (n := 0) (q := 89) rfl (by decide +kernel) ?_
  refine P_istore_n (n := 1) (by decide) (q := 90) rfl (by decide +kernel) ?_
  exact h
theorem S_X11_stands_90 {X : CX} {d : Nat} {x1 : Int} {I R : PF} {Q : PV → PF → PF → Prop} (c1 : -2147483648 ≤ x1 ∧ x1 < 2147483648) (h1 : 24 ≤ x1 → PN X d mX11_stands 117 [(2, 306)] [] I R Q) (h2 : x1 < 24 → PN X d mX11_stands 96 [(2, 306), (0, x1)] [] I R Q) : PN X d mX11_stands 90 [(2, 306), (0, x1)] [] I R Q := by
  refine P_iload_n (n := 1) (q := 91) rfl rfl (by decide +kernel) ?_
  refine P_bipush (n := 24) (q := 93) rfl rfl (by decide +kernel) ?_
  refine B_icmp_ge (off := 24) (t := 117) (q := 96) c1 ⟨by decide, by decide⟩ (by decide) rfl (by decide +kernel) ?_ ?_
  · exact fun g9 => (PW_sub (ls' := [(2, 306)]) ⟨Or.inr rfl, trivial⟩ (h1 g9))
  · exact fun g9 => (h2 g9)
theorem S_X11_stands_96 {X : CX} {d : Nat} {x1 : Int} {I R : PF} {Q : PV → PF → PF → Prop} (hs : Shp R) (b1 : (0 : Int) ≤ x1 ∧ x1 < 48) (b2 : (0 : Int) ≤ (24 + x1) ∧ (24 + x1) < 48) (h : PN X d mX11_stands 90 [(2, 306), (0, (x1 + 1))] [] (u2 I 342 (24 + x1) (I 342 x1)) R Q) : PN X d mX11_stands 96 [(2, 306), (0, x1)] [] I R Q := by
  refine P_aload_n (n := 0) (q := 97) rfl rfl (by decide +kernel) ?_
  refine B_getfR (q := 100) fX11_226 kM306 (rM306_45 hs) rfl (by decide +kernel) ?_
  refine P_bipush (n := 24) (q := 102) rfl rfl (by decide +kernel) ?_
  refine P_iload_n (n := 1) (q := 103) rfl rfl (by decide +kernel) ?_
  refine P_iadd (q := 104) rfl (by decide +kernel) ?_
  refine P_aload_n (n := 0) (q := 105) rfl rfl (by decide +kernel) ?_
  refine B_getfR (q := 108) fX11_226 kM306 (rM306_45 hs) rfl (by decide +kernel) ?_
  refine P_iload_n (n := 1) (q := 109) rfl rfl (by decide +kernel) ?_
  refine B_iaload (q := 110) kM342 nM342 (by decide) b1 rfl (by decide +kernel) ?_
  refine B_iastore (q := 111) kM342 nM342 (by decide) b2 rfl (by decide +kernel) ?_
  refine P_iinc (n := 1) (a := 1) (by decide) rfl (q := 114) rfl (by decide +kernel) ?_
  refine P_goto (off := (-24)) (t := 90) (by decide) (by decide +kernel) ?_
  exact h
theorem S_X11_stands_117 {X : CX} {d : Nat} {I R : PF} {Q : PV → PF → PF → Prop} (h : PN X d mX11_stands 119 [(2, 306), (0, 0)] [] I R Q) : PN X d mX11_stands 117 [(2, 306)] [] I R Q := by
  refine P_iconst (n := 0) (q := 118) rfl (by decide +kernel) ?_
  refine P_istore_n (n := 1) (by decide) (q := 119) rfl (by decide +kernel) ?_
  exact h
theorem S_X11_stands_119 {X : CX} {d : Nat} {x1 : Int} {I R : PF} {Q : PV → PF → PF → Prop} (c1 : -2147483648 ≤ x1 ∧ x1 < 2147483648) (h1 : 20 ≤ x1 → PN X d mX11_stands 146 [(2, 306)] [] I R Q) (h2 : x1 < 20 → PN X d mX11_stands 125 [(2, 306), (0, x1)] [] I R Q) : PN X d mX11_stands 119 [(2, 306), (0, x1)] [] I R Q := by
  refine P_iload_n (n := 1) (q := 120) rfl rfl (by decide +kernel) ?_
  refine P_bipush (n := 20) (q := 122) rfl rfl (by decide +kernel) ?_
  refine B_icmp_ge (off := 24) (t := 146) (q := 125) c1 ⟨by decide, by decide⟩ (by decide) rfl (by decide +kernel) ?_ ?_
  · exact fun g9 => (PW_sub (ls' := [(2, 306)]) ⟨Or.inr rfl, trivial⟩ (h1 g9))
  · exact fun g9 => (h2 g9)
theorem S_X11_stands_125 {X : CX} {d : Nat} {x1 : Int} {I R : PF} {Q : PV → PF → PF → Prop} (hs : Shp R) (b1 : (0 : Int) ≤ x1 ∧ x1 < 40) (b2 : (0 : Int) ≤ (20 + x1) ∧ (20 + x1) < 40) (h : PN X d mX11_stands 119 [(2, 306), (0, (x1 + 1))] [] (u2 I 344 (20 + x1) (I 344 x1)) R Q) : PN X d mX11_stands 125 [(2, 306), (0, x1)] [] I R Q := by
  refine P_aload_n (n := 0) (q := 126) rfl rfl (by decide +kernel) ?_
  refine B_getfR (q := 129) fX11_196 kM306 (rM306_47 hs) rfl (by decide +kernel) ?_
  refine P_bipush (n := 20) (q := 131) rfl rfl (by decide +kernel) ?_
  refine P_iload_n (n := 1) (q := 132) rfl rfl (by decide +kernel) ?_
  refine P_iadd (q := 133) rfl (by decide +kernel) ?_
  refine P_aload_n (n := 0) (q := 134) rfl rfl (by decide +kernel) ?_
  refine B_getfR (q := 137) fX11_196 kM306 (rM306_47 hs) rfl (by decide +kernel) ?_
  refine P_iload_n (n := 1) (q := 138) rfl rfl (by decide +kernel) ?_
  refine B_iaload (q := 139) kM344 nM344 (by decide) b1 rfl (by decide +kernel) ?_
  refine B_iastore (q := 140) kM344 nM344 (by decide) b2 rfl (by decide +kernel) ?_
  refine P_iinc (n := 1) (a := 1) (by decide) rfl (q := 143) rfl (by decide +kernel) ?_
  refine P_goto (off := (-24)) (t := 119) (by decide) (by decide +kernel) ?_
  exact h
theorem S_X11_stands_146 {X : CX} {d : Nat} {I R : PF} {Q : PV → PF → PF → Prop} (h : PN X d mX11_stands 156 [(2, 306), (0, 0)] [] (u2 I 306 49 (I 306 48)) R Q) : PN X d mX11_stands 146 [(2, 306)] [] I R Q := by
  refine P_aload_n (n := 0) (q := 147) rfl rfl (by decide +kernel) ?_
  refine P_aload_n (n := 0) (q := 148) rfl rfl (by decide +kernel) ?_
  refine P_getf (q := 151) fX11_278 kM306 rfl (by decide +kernel) ?_
  refine P_putI (q := 154) wX11_300 (fun h => by cases h) kM306 rfl (by decide +kernel) ?_
  refine P_iconst (n := 0) (q := 155) rfl (by decide +kernel) ?_
  refine P_istore_n (n := 1) (by decide) (q := 156) rfl (by decide +kernel) ?_
  exact h
theorem S_X11_stands_156 {X : CX} {d : Nat} {x1 : Int} {I R : PF} {Q : PV → PF → PF → Prop} (c1 : -2147483648 ≤ x1 ∧ x1 < 2147483648) (h1 : 2 ≤ x1 → PN X d mX11_stands 195 [(2, 306)] [] I R Q) (h2 : x1 < 2 → PN X d mX11_stands 161 [(2, 306), (0, x1)] [] I R Q) : PN X d mX11_stands 156 [(2, 306), (0, x1)] [] I R Q := by
  refine P_iload_n (n := 1) (q := 157) rfl rfl (by decide +kernel) ?_
  refine P_iconst (n := 2) (q := 158) rfl (by decide +kernel) ?_
  refine B_icmp_ge (off := 37) (t := 195) (q := 161) c1 ⟨by decide, by decide⟩ (by decide) rfl (by decide +kernel) ?_ ?_
  · exact fun g9 => (PW_sub (ls' := [(2, 306)]) ⟨Or.inr rfl, trivial⟩ (h1 g9))
  · exact fun g9 => (h2 g9)
theorem S_X11_stands_161 {X : CX} {d : Nat} {x1 : Int} {I R : PF} {Q : PV → PF → PF → Prop} (hs : Shp R) (b1 : (0 : Int) ≤ x1 ∧ x1 < 4) (b2 : (0 : Int) ≤ (2 + x1) ∧ (2 + x1) < 4) (h : PN X d mX11_stands 156 [(2, 306), (0, (x1 + 1))] [] (u2 (u2 I 345 (2 + x1) (I 345 x1)) 346 (2 + x1) ((u2 I 345 (2 + x1) (I 345 x1)) 346 x1)) R Q) : PN X d mX11_stands 161 [(2, 306), (0, x1)] [] I R Q := by
  refine P_aload_n (n := 0) (q := 162) rfl rfl (by decide +kernel) ?_
  refine B_getfR (q := 165) fX11_229 kM306 (rM306_50 hs) rfl (by decide +kernel) ?_
  refine P_iconst (n := 2) (q := 166) rfl (by decide +kernel) ?_
  refine P_iload_n (n := 1) (q := 167) rfl rfl (by decide +kernel) ?_
  refine P_iadd (q := 168) rfl (by decide +kernel) ?_
  refine P_aload_n (n := 0) (q := 169) rfl rfl (by decide +kernel) ?_
  refine B_getfR (q := 172) fX11_229 kM306 (rM306_50 hs) rfl (by decide +kernel) ?_
  refine P_iload_n (n := 1) (q := 173) rfl rfl (by decide +kernel) ?_
  refine B_iaload (q := 174) kM345 nM345 (by decide) b1 rfl (by decide +kernel) ?_
  refine B_iastore (q := 175) kM345 nM345 (by decide) b2 rfl (by decide +kernel) ?_
  refine P_aload_n (n := 0) (q := 176) rfl rfl (by decide +kernel) ?_
  refine B_getfR (q := 179) fX11_260 kM306 (rM306_51 hs) rfl (by decide +kernel) ?_
  refine P_iconst (n := 2) (q := 180) rfl (by decide +kernel) ?_
  refine P_iload_n (n := 1) (q := 181) rfl rfl (by decide +kernel) ?_
  refine P_iadd (q := 182) rfl (by decide +kernel) ?_
  refine P_aload_n (n := 0) (q := 183) rfl rfl (by decide +kernel) ?_
  refine B_getfR (q := 186) fX11_260 kM306 (rM306_51 hs) rfl (by decide +kernel) ?_
  refine P_iload_n (n := 1) (q := 187) rfl rfl (by decide +kernel) ?_
  refine B_iaload (q := 188) kM346 nM346 (by decide) b1 rfl (by decide +kernel) ?_
  refine B_iastore (q := 189) kM346 nM346 (by decide) b2 rfl (by decide +kernel) ?_
  refine P_iinc (n := 1) (a := 1) (by decide) rfl (q := 192) rfl (by decide +kernel) ?_
  refine P_goto (off := (-36)) (t := 156) (by decide) (by decide +kernel) ?_
  exact h
theorem S_X11_stands_195 {X : CX} {d : Nat} {I R : PF} {Q : PV → PF → PF → Prop} (h : PN X d mX11_stands 197 [(2, 306), (0, 0)] [] I R Q) : PN X d mX11_stands 195 [(2, 306)] [] I R Q := by
  refine P_iconst (n := 0) (q := 196) rfl (by decide +kernel) ?_
  refine P_istore_n (n := 1) (by decide) (q := 197) rfl (by decide +kernel) ?_
  exact h
theorem S_X11_stands_197 {X : CX} {d : Nat} {x1 : Int} {I R : PF} {Q : PV → PF → PF → Prop} (c1 : -2147483648 ≤ x1 ∧ x1 < 2147483648) (c2 : -2147483648 ≤ (I 306 53) ∧ (I 306 53) < 2147483648) (h1 : (I 306 53) ≤ x1 → PN X d mX11_stands 227 [(2, 306)] [] I R Q) (h2 : x1 < (I 306 53) → PN X d mX11_stands 205 [(2, 306), (0, x1)] [] I R Q) : PN X d mX11_stands 197 [(2, 306), (0, x1)] [] I R Q := by
  refine P_iload_n (n := 1) (q := 198) rfl rfl (by decide +kernel) ?_
  refine P_aload_n (n := 0) (q := 199) rfl rfl (by decide +kernel) ?_
  refine P_getf (q := 202) fX11_251 kM306 rfl (by decide +kernel) ?_
  refine B_icmp_ge (off := 25) (t := 227) (q := 205) c1 c2 (by decide) rfl (by decide +kernel) ?_ ?_
  · exact fun g9 => (PW_sub (ls' := [(2, 306)]) ⟨Or.inr rfl, trivial⟩ (h1 g9))
  · exact fun g9 => (h2 g9)
theorem S_X11_stands_205 {X : CX} {d : Nat} {x1 : Int} {I R : PF} {Q : PV → PF → PF → Prop} (hs : Shp R) (b1 : (0 : Int) ≤ x1 ∧ x1 < 3200) (b2 : (0 : Int) ≤ (1600 + x1) ∧ (1600 + x1) < 3200) (h : PN X d mX11_stands 197 [(2, 306), (0, (x1 + 1))] [] (u2 I 347 (1600 + x1) (I 347 x1)) R Q) : PN X d mX11_stands 205 [(2, 306), (0, x1)] [] I R Q := by
  refine P_aload_n (n := 0) (q := 206) rfl rfl (by decide +kernel) ?_
  refine B_getfR (q := 209) fX11_254 kM306 (rM306_52 hs) rfl (by decide +kernel) ?_
  refine P_sipush (n := 1600) (q := 212) rfl rfl (by decide +kernel) ?_
  refine P_iload_n (n := 1) (q := 213) rfl rfl (by decide +kernel) ?_
  refine P_iadd (q := 214) rfl (by decide +kernel) ?_
  refine P_aload_n (n := 0) (q := 215) rfl rfl (by decide +kernel) ?_
  refine B_getfR (q := 218) fX11_254 kM306 (rM306_52 hs) rfl (by decide +kernel) ?_
  refine P_iload_n (n := 1) (q := 219) rfl rfl (by decide +kernel) ?_
  refine B_iaload (q := 220) kM347 nM347 (by decide) b1 rfl (by decide +kernel) ?_
  refine B_iastore (q := 221) kM347 nM347 (by decide) b2 rfl (by decide +kernel) ?_
  refine P_iinc (n := 1) (a := 1) (by decide) rfl (q := 224) rfl (by decide +kernel) ?_
  refine P_goto (off := (-27)) (t := 197) (by decide) (by decide +kernel) ?_
  exact h
theorem S_X11_stands_227 {X : CX} {d : Nat} {I R : PF} {Q : PV → PF → PF → Prop} (h : PN X d mX11_stands 229 [(2, 306), (0, 0)] [] I R Q) : PN X d mX11_stands 227 [(2, 306)] [] I R Q := by
  refine P_iconst (n := 0) (q := 228) rfl (by decide +kernel) ?_
  refine P_istore_n (n := 1) (by decide) (q := 229) rfl (by decide +kernel) ?_
  exact h
theorem S_X11_stands_229 {X : CX} {d : Nat} {x1 : Int} {I R : PF} {Q : PV → PF → PF → Prop} (c1 : -2147483648 ≤ x1 ∧ x1 < 2147483648) (h1 : 154 ≤ x1 → PN X d mX11_stands 249 [(2, 306)] [] I R Q) (h2 : x1 < 154 → PN X d mX11_stands 236 [(2, 306), (0, x1)] [] I R Q) : PN X d mX11_stands 229 [(2, 306), (0, x1)] [] I R Q := by
  refine P_iload_n (n := 1) (q := 230) rfl rfl (by decide +kernel) ?_
  refine P_sipush (n := 154) (q := 233) rfl rfl (by decide +kernel) ?_
  refine B_icmp_ge (off := 16) (t := 249) (q := 236) c1 ⟨by decide, by decide⟩ (by decide) rfl (by decide +kernel) ?_ ?_
  · exact fun g9 => (PW_sub (ls' := [(2, 306)]) ⟨Or.inr rfl, trivial⟩ (h1 g9))
  · exact fun g9 => (h2 g9)
theorem S_X11_stands_236 {X : CX} {d : Nat} {x1 : Int} {I R : PF} {Q : PV → PF → PF → Prop} (hs : Shp R) (b1 : (0 : Int) ≤ x1 ∧ x1 < 154) (h : PN X d mX11_stands 229 [(2, 306), (0, (x1 + 1))] [] (u2 I 348 x1 0) R Q) : PN X d mX11_stands 236 [(2, 306), (0, x1)] [] I R Q := by
  refine P_aload_n (n := 0) (q := 237) rfl rfl (by decide +kernel) ?_
  refine B_getfR (q := 240) fX11_303 kM306 (rM306_59 hs) rfl (by decide +kernel) ?_
  refine P_iload_n (n := 1) (q := 241) rfl rfl (by decide +kernel) ?_
  refine P_iconst (n := 0) (q := 242) rfl (by decide +kernel) ?_
  refine B_iastore (q := 243) kM348 nM348 (by decide) b1 rfl (by decide +kernel) ?_
  refine P_iinc (n := 1) (a := 1) (by decide) rfl (q := 246) rfl (by decide +kernel) ?_
  refine P_goto (off := (-17)) (t := 229) (by decide) (by decide +kernel) ?_
  exact h
theorem S_X11_stands_249 {X : CX} {d : Nat} {I R : PF} {Q : PV → PF → PF → Prop} (hs : Shp R) (h : PN X d mX11_stands 258 [(2, 306), (0, 0)] [] (u2 I 348 1 (-1)) R Q) : PN X d mX11_stands 249 [(2, 306)] [] I R Q := by
  refine P_aload_n (n := 0) (q := 250) rfl rfl (by decide +kernel) ?_
  refine B_getfR (q := 253) fX11_303 kM306 (rM306_59 hs) rfl (by decide +kernel) ?_
  refine P_iconst (n := 1) (q := 254) rfl (by decide +kernel) ?_
  refine P_iconst (n := (-1)) (q := 255) rfl (by decide +kernel) ?_
  refine B_iastore (q := 256) kM348 nM348 (by decide) ⟨by decide, by decide⟩ rfl (by decide +kernel) ?_
  refine P_iconst (n := 0) (q := 257) rfl (by decide +kernel) ?_
  refine P_istore_n (n := 1) (by decide) (q := 258) rfl (by decide +kernel) ?_
  exact h
theorem S_X11_stands_258 {X : CX} {d : Nat} {x1 : Int} {I R : PF} {Q : PV → PF → PF → Prop} (hs : Shp R) (c1 : -2147483648 ≤ x1 ∧ x1 < 2147483648) (c2 : -2147483648 ≤ (I 339 1) ∧ (I 339 1) < 2147483648) (h1 : (I 339 1) ≤ x1 → PN X d mX11_stands 309 [(2, 306)] [] I R Q) (h2 : x1 < (I 339 1) → PN X d mX11_stands 268 [(2, 306), (0, x1)] [] I R Q) : PN X d mX11_stands 258 [(2, 306), (0, x1)] [] I R Q := by
  refine P_iload_n (n := 1) (q := 259) rfl rfl (by decide +kernel) ?_
  refine P_aload_n (n := 0) (q := 260) rfl rfl (by decide +kernel) ?_
  refine B_getfR (q := 263) fX11_166 kM306 (rM306_42 hs) rfl (by decide +kernel) ?_
  refine P_iconst (n := 1) (q := 264) rfl (by decide +kernel) ?_
  refine B_iaload (q := 265) kM339 nM339 (by decide) ⟨by decide, by decide⟩ rfl (by decide +kernel) ?_
  refine B_icmp_ge (off := 44) (t := 309) (q := 268) c1 c2 (by decide) rfl (by decide +kernel) ?_ ?_
  · exact fun g9 => (PW_sub (ls' := [(2, 306)]) ⟨Or.inr rfl, trivial⟩ (h1 g9))
  · exact fun g9 => (h2 g9)
theorem S_X11_stands_268 {X : CX} {d : Nat} {x1 : Int} {I R : PF} {Q : PV → PF → PF → Prop} (h : PN X d mX11_stands 270 [(2, 306), (0, x1), (0, 0)] [] I R Q) : PN X d mX11_stands 268 [(2, 306), (0, x1)] [] I R Q := by
  refine P_iconst (n := 0) (q := 269) rfl (by decide +kernel) ?_
  refine P_istore_n (n := 2) (by decide) (q := 270) rfl (by decide +kernel) ?_
  exact h
theorem S_X11_stands_270 {X : CX} {d : Nat} {x1 x2 : Int} {I R : PF} {Q : PV → PF → PF → Prop} (c1 : -2147483648 ≤ x2 ∧ x2 < 2147483648) (h1 : 4 ≤ x2 → PN X d mX11_stands 303 [(2, 306), (0, x1)] [] I R Q) (h2 : x2 < 4 → PN X d mX11_stands 275 [(2, 306), (0, x1), (0, x2)] [] I R Q) : PN X d mX11_stands 270 [(2, 306), (0, x1), (0, x2)] [] I R Q := by
  refine P_iload_n (n := 2) (q := 271) rfl rfl (by decide +kernel) ?_
  refine P_iconst (n := 4) (q := 272) rfl (by decide +kernel) ?_
  refine B_icmp_ge (off := 31) (t := 303) (q := 275) c1 ⟨by decide, by decide⟩ (by decide) rfl (by decide +kernel) ?_ ?_
  · exact fun g9 => (PW_sub (ls' := [(2, 306), (0, x1)]) ⟨Or.inr rfl, Or.inr rfl, trivial⟩ (h1 g9))
  · exact fun g9 => (h2 g9)
theorem S_X11_stands_275 {X : CX} {d : Nat} {x1 x2 : Int} {I R : PF} {Q : PV → PF → PF → Prop} (hs : Shp R) (b1 : (0 : Int) ≤ ((4 * x1) + x2) ∧ ((4 * x1) + x2) < 24) (b2 : (0 : Int) ≤ ((3 + (5 * x1)) + x2) ∧ ((3 + (5 * x1)) + x2) < 154) (h : PN X d mX11_stands 270 [(2, 306), (0, x1), (0, (x2 + 1))] [] (u2 I 348 ((3 + (5 * x1)) + x2) (I 343 ((4 * x1) + x2))) R Q) : PN X d mX11_stands 275 [(2, 306), (0, x1), (0, x2)] [] I R Q := by
  refine P_aload_n (n := 0) (q := 276) rfl rfl (by decide +kernel) ?_
  refine B_getfR (q := 279) fX11_303 kM306 (rM306_59 hs) rfl (by decide +kernel) ?_
  refine P_iconst (n := 3) (q := 280) rfl (by decide +kernel) ?_
  refine P_iconst (n := 5) (q := 281) rfl (by decide +kernel) ?_
  refine P_iload_n (n := 1) (q := 282) rfl rfl (by decide +kernel) ?_
  refine P_imul (q := 283) rfl (by decide +kernel) ?_
  refine P_iadd (q := 284) rfl (by decide +kernel) ?_
  refine P_iload_n (n := 2) (q := 285) rfl rfl (by decide +kernel) ?_
  refine P_iadd (q := 286) rfl (by decide +kernel) ?_
  refine P_aload_n (n := 0) (q := 287) rfl rfl (by decide +kernel) ?_
  refine B_getfR (q := 290) fX11_199 kM306 (rM306_46 hs) rfl (by decide +kernel) ?_
  refine P_iconst (n := 4) (q := 291) rfl (by decide +kernel) ?_
  refine P_iload_n (n := 1) (q := 292) rfl rfl (by decide +kernel) ?_
  refine P_imul (q := 293) rfl (by decide +kernel) ?_
  refine P_iload_n (n := 2) (q := 294) rfl rfl (by decide +kernel) ?_
  refine P_iadd (q := 295) rfl (by decide +kernel) ?_
  refine B_iaload (q := 296) kM343 nM343 (by decide) b1 rfl (by decide +kernel) ?_
  refine B_iastore (q := 297) kM348 nM348 (by decide) b2 rfl (by decide +kernel) ?_
  refine P_iinc (n := 2) (a := 1) (by decide) rfl (q := 300) rfl (by decide +kernel) ?_
  refine P_goto (off := (-30)) (t := 270) (by decide) (by decide +kernel) ?_
  exact h
theorem S_X11_stands_303 {X : CX} {d : Nat} {x1 : Int} {I R : PF} {Q : PV → PF → PF → Prop} (h : PN X d mX11_stands 258 [(2, 306), (0, (x1 + 1))] [] I R Q) : PN X d mX11_stands 303 [(2, 306), (0, x1)] [] I R Q := by
  refine P_iinc (n := 1) (a := 1) (by decide) rfl (q := 306) rfl (by decide +kernel) ?_
  refine P_goto (off := (-48)) (t := 258) (by decide) (by decide +kernel) ?_
  exact (PW_sub (ls' := [(2, 306), (0, (x1 + 1))]) ⟨Or.inr rfl, Or.inr rfl, trivial⟩ h)
theorem S_X11_stands_309 {X : CX} {d : Nat} {I R : PF} {Q : PV → PF → PF → Prop} (h : Q (9, 0) (u2 (u2 I 306 76 0) 306 73 0) R) : PN X d mX11_stands 309 [(2, 306)] [] I R Q := by
  refine P_aload_n (n := 0) (q := 310) rfl rfl (by decide +kernel) ?_
  refine P_iconst (n := 0) (q := 311) rfl (by decide +kernel) ?_
  refine P_putI (q := 314) wX11_306 (fun h => by cases h) kM306 rfl (by decide +kernel) ?_
  refine P_aload_n (n := 0) (q := 315) rfl rfl (by decide +kernel) ?_
  refine P_iconst (n := 0) (q := 316) rfl (by decide +kernel) ?_
  refine P_putI (q := 319) wX11_309 (fun h => by cases h) kM306 rfl (by decide +kernel) ?_
  refine P_vret rfl (by decide +kernel) h
theorem S_X11_standsAt_0 {X : CX} {d : Nat} {x1 x2 : Int} {I R : PF} {Q : PV → PF → PF → Prop} (h : PN X d mX11_standsAt 2 [(2, 306), (0, x1), (0, x2), (0, 0)] [] I R Q) : PN X d mX11_standsAt 0 [(2, 306), (0, x1), (0, x2)] [] I R Q := by
  refine P_iconst (n := 0) (q := 1) rfl (by decide +kernel) ?_
  refine P_istore_n (n := 3) (by decide) (q := 2) rfl (by decide +kernel) ?_
  exact h
theorem S_X11_standsAt_2 {X : CX} {d d1 : Nat} {x1 x2 x3 : Int} {I R : PF} {Q Q1 : PV → PF → PF → Prop} (e1 : d1 + 1 ≤ d) (hc : CN X d1 mX11_personMany [(2, 306)] I R Q1) (h : ∀ z I2 R2, Q1 (0, z) I2 R2 → PN X d mX11_standsAt 7 [(2, 306), (0, x1), (0, x2), (0, x3)] [(0, z), (0, x3)] I2 R2 Q) : PN X d mX11_standsAt 2 [(2, 306), (0, x1), (0, x2), (0, x3)] [] I R Q := by
  refine P_iload_n (n := 3) (q := 3) rfl rfl (by decide +kernel) ?_
  refine P_aload_n (n := 0) (q := 4) rfl rfl (by decide +kernel) ?_
  refine P_invV (As := []) (q := 7) oX11_personMany rfl kM306 kX11_420 e1 hMF (Nat.le_of_ble_eq_true rfl) hc rfl (by decide +kernel) (fun z I2 R2 hq => ?_)
  exact (h z I2 R2 hq)
theorem S_X11_standsAt_7 {X : CX} {d : Nat} {x1 x2 x3 o0 o1 : Int} {I R : PF} {Q : PV → PF → PF → Prop} (c1 : -2147483648 ≤ o0 ∧ o0 < 2147483648) (c2 : -2147483648 ≤ o1 ∧ o1 < 2147483648) (h1 : o1 ≤ o0 → PN X d mX11_standsAt 36 [] [] I R Q) (h2 : o0 < o1 → PN X d mX11_standsAt 10 [(2, 306), (0, x1), (0, x2), (0, x3)] [] I R Q) : PN X d mX11_standsAt 7 [(2, 306), (0, x1), (0, x2), (0, x3)] [(0, o1), (0, o0)] I R Q := by
  refine B_icmp_ge (off := 29) (t := 36) (q := 10) c1 c2 (by decide) rfl (by decide +kernel) ?_ ?_
  · exact fun g9 => (PW_sub (ls' := []) trivial (h1 g9))
  · exact fun g9 => (h2 g9)
theorem S_X11_standsAt_10 {X : CX} {d d1 : Nat} {x1 x2 x3 : Int} {I R : PF} {Q Q1 : PV → PF → PF → Prop} (e1 : d1 + 1 ≤ d) (hc : CN X d1 mX11_columnOf [(2, 306), (0, x3)] I R Q1) (h : ∀ z I2 R2, Q1 (0, z) I2 R2 → PN X d mX11_standsAt 15 [(2, 306), (0, x1), (0, x2), (0, x3)] [(0, z)] I2 R2 Q) : PN X d mX11_standsAt 10 [(2, 306), (0, x1), (0, x2), (0, x3)] [] I R Q := by
  refine P_aload_n (n := 0) (q := 11) rfl rfl (by decide +kernel) ?_
  refine P_iload_n (n := 3) (q := 12) rfl rfl (by decide +kernel) ?_
  refine P_invV (As := [(0, x3)]) (q := 15) oX11_columnOf rfl kM306 kX11_491 e1 hMF (Nat.le_of_ble_eq_true rfl) hc rfl (by decide +kernel) (fun z I2 R2 hq => ?_)
  exact (h z I2 R2 hq)
theorem S_X11_standsAt_15 {X : CX} {d : Nat} {x1 x2 x3 o0 : Int} {I R : PF} {Q : PV → PF → PF → Prop} (c1 : -2147483648 ≤ o0 ∧ o0 < 2147483648) (c2 : -2147483648 ≤ x1 ∧ x1 < 2147483648) (h1 : o0 ≠ x1 → PN X d mX11_standsAt 30 [(2, 306), (0, x1), (0, x2), (0, x3)] [] I R Q) (h2 : o0 = x1 → PN X d mX11_standsAt 19 [(2, 306), (0, x1), (0, x2), (0, x3)] [] I R Q) : PN X d mX11_standsAt 15 [(2, 306), (0, x1), (0, x2), (0, x3)] [(0, o0)] I R Q := by
  refine P_iload_n (n := 1) (q := 16) rfl rfl (by decide +kernel) ?_
  refine B_icmp_ne (off := 14) (t := 30) (q := 19) c1 c2 (by decide) rfl (by decide +kernel) ?_ ?_
  · exact fun g9 => (h1 g9)
  · exact fun g9 => (h2 g9)
theorem S_X11_standsAt_19 {X : CX} {d d1 : Nat} {x1 x2 x3 : Int} {I R : PF} {Q Q1 : PV → PF → PF → Prop} (e1 : d1 + 1 ≤ d) (hc : CN X d1 mX11_rowOf [(2, 306), (0, x3)] I R Q1) (h : ∀ z I2 R2, Q1 (0, z) I2 R2 → PN X d mX11_standsAt 24 [(2, 306), (0, x1), (0, x2), (0, x3)] [(0, z)] I2 R2 Q) : PN X d mX11_standsAt 19 [(2, 306), (0, x1), (0, x2), (0, x3)] [] I R Q := by
  refine P_aload_n (n := 0) (q := 20) rfl rfl (by decide +kernel) ?_
  refine P_iload_n (n := 3) (q := 21) rfl rfl (by decide +kernel) ?_
  refine P_invV (As := [(0, x3)]) (q := 24) oX11_rowOf rfl kM306 kX11_494 e1 hMF (Nat.le_of_ble_eq_true rfl) hc rfl (by decide +kernel) (fun z I2 R2 hq => ?_)
  exact (h z I2 R2 hq)
theorem S_X11_standsAt_24 {X : CX} {d : Nat} {x1 x2 x3 o0 : Int} {I R : PF} {Q : PV → PF → PF → Prop} (c1 : -2147483648 ≤ o0 ∧ o0 < 2147483648) (c2 : -2147483648 ≤ x2 ∧ x2 < 2147483648) (h1 : o0 ≠ x2 → PN X d mX11_standsAt 30 [(2, 306), (0, x1), (0, x2), (0, x3)] [] I R Q) (h2 : o0 = x2 → PN X d mX11_standsAt 28 [(9, 0), (9, 0), (9, 0), (0, x3)] [] I R Q) : PN X d mX11_standsAt 24 [(2, 306), (0, x1), (0, x2), (0, x3)] [(0, o0)] I R Q := by
  refine P_iload_n (n := 2) (q := 25) rfl rfl (by decide +kernel) ?_
  refine B_icmp_ne (off := 5) (t := 30) (q := 28) c1 c2 (by decide) rfl (by decide +kernel) ?_ ?_
  · exact fun g9 => (h1 g9)
  · exact fun g9 => (PW_sub (ls' := [(9, 0), (9, 0), (9, 0), (0, x3)]) ⟨Or.inl rfl, Or.inl rfl, Or.inl rfl, Or.inr rfl, trivial⟩ (h2 g9))
theorem S_X11_standsAt_28 {X : CX} {d : Nat} {x3 : Int} {I R : PF} {Q : PV → PF → PF → Prop} (h : Q (0, x3) I R) : PN X d mX11_standsAt 28 [(9, 0), (9, 0), (9, 0), (0, x3)] [] I R Q := by
  refine P_iload_n (n := 3) (q := 29) rfl rfl (by decide +kernel) ?_
  refine P_iret rfl (by decide +kernel) h
theorem S_X11_standsAt_30 {X : CX} {d : Nat} {x1 x2 x3 : Int} {I R : PF} {Q : PV → PF → PF → Prop} (h : PN X d mX11_standsAt 2 [(2, 306), (0, x1), (0, x2), (0, (x3 + 1))] [] I R Q) : PN X d mX11_standsAt 30 [(2, 306), (0, x1), (0, x2), (0, x3)] [] I R Q := by
  refine P_iinc (n := 3) (a := 1) (by decide) rfl (q := 33) rfl (by decide +kernel) ?_
  refine P_goto (off := (-31)) (t := 2) (by decide) (by decide +kernel) ?_
  exact h
theorem S_X11_standsAt_36 {X : CX} {d : Nat} {I R : PF} {Q : PV → PF → PF → Prop} (h : Q (0, (-1)) I R) : PN X d mX11_standsAt 36 [] [] I R Q := by
  refine P_iconst (n := (-1)) (q := 37) rfl (by decide +kernel) ?_
  refine P_iret rfl (by decide +kernel) h
