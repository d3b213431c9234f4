theorem S_X11_statementTold_0 {X : CX} {d : Nat} {I R : PF} {Q : PV → PF → PF → Prop} (c1 : -2147483648 ≤ (I 306 54) ∧ (I 306 54) < 2147483648) (h1 : (I 306 54) ≠ 60 → PN X d mX11_statementTold 21 [(2, 306), (0, (I 306 2))] [] I R Q) (h2 : (I 306 54) = 60 → PN X d mX11_statementTold 14 [(2, 306), (0, (I 306 2))] [] I R Q) : PN X d mX11_statementTold 0 [(2, 306)] [] I R Q := by
  refine P_aload_n (n := 0) (q := 1) rfl rfl (by decide +kernel) ?_
  refine P_getf (q := 4) fX11_20 kM306 rfl (by decide +kernel) ?_
  refine P_istore_n (n := 1) (by decide) (q := 5) rfl (by decide +kernel) ?_
  refine P_aload_n (n := 0) (q := 6) rfl rfl (by decide +kernel) ?_
  refine P_getf (q := 9) fX11_263 kM306 rfl (by decide +kernel) ?_
  refine P_bipush (n := 60) (q := 11) rfl rfl (by decide +kernel) ?_
  refine B_icmp_ne (off := 10) (t := 21) (q := 14) c1 ⟨by decide, by decide⟩ (by decide) rfl (by decide +kernel) ?_ ?_
  · exact fun g9 => (h1 g9)
  · exact fun g9 => (h2 g9)
theorem S_X11_statementTold_14 {X : CX} {d d1 : Nat} {x1 : Int} {I R : PF} {Q Q1 : PV → PF → PF → Prop} (e1 : d1 + 1 ≤ d) (hc : CN X d1 mX11_fail [(2, 306), (0, 5), (0, x1)] I R Q1) (h : ∀ z I2 R2, Q1 (9, z) I2 R2 → PN X d mX11_statementTold 20 [] [] I2 R2 Q) : PN X d mX11_statementTold 14 [(2, 306), (0, x1)] [] I R Q := by
  refine P_aload_n (n := 0) (q := 15) rfl rfl (by decide +kernel) ?_
  refine P_iconst (n := 5) (q := 16) rfl (by decide +kernel) ?_
  refine P_iload_n (n := 1) (q := 17) rfl rfl (by decide +kernel) ?_
  refine P_invV (As := [(0, 5), (0, x1)]) (q := 20) oX11_fail rfl kM306 kX11_44 e1 hMF (Nat.le_of_ble_eq_true rfl) hc rfl (by decide +kernel) (fun z I2 R2 hq => ?_)
  exact (PW_sub (ls' := []) trivial (h z I2 R2 hq))
theorem S_X11_statementTold_20 {X : CX} {d : Nat} {I R : PF} {Q : PV → PF → PF → Prop} (h : Q (9, 0) I R) : PN X d mX11_statementTold 20 [] [] I R Q := by
  refine P_vret rfl (by decide +kernel) h
theorem S_X11_statementTold_21 {X : CX} {d d1 : Nat} {x1 : Int} {I R : PF} {Q Q1 : PV → PF → PF → Prop} (hs : Shp R) (e1 : d1 + 1 ≤ d) (hc : CN X d1 mX11_takes [(2, 306), (2, 313)] I R Q1) (h : ∀ z I2 R2, Q1 (0, z) I2 R2 → PN X d mX11_statementTold 29 [(2, 306), (0, x1)] [(0, z)] I2 R2 Q) : PN X d mX11_statementTold 21 [(2, 306), (0, x1)] [] I R Q := by
  refine P_aload_n (n := 0) (q := 22) rfl rfl (by decide +kernel) ?_
  refine P_aload_n (n := 0) (q := 23) rfl rfl (by decide +kernel) ?_
  refine B_getfR (q := 26) fX11_74 kM306 (rM306_15 hs) rfl (by decide +kernel) ?_
  refine P_invV (As := [(2, 313)]) (q := 29) oX11_takes rfl kM306 kX11_41 e1 hMF (Nat.le_of_ble_eq_true rfl) hc rfl (by decide +kernel) (fun z I2 R2 hq => ?_)
  exact (h z I2 R2 hq)
theorem S_X11_statementTold_29 {X : CX} {d : Nat} {x1 o0 : Int} {I R : PF} {Q : PV → PF → PF → Prop} (c1 : -2147483648 ≤ o0 ∧ o0 < 2147483648) (h1 : o0 = 0 → PN X d mX11_statementTold 40 [(2, 306), (0, x1)] [] I R Q) (h2 : o0 ≠ 0 → PN X d mX11_statementTold 32 [(2, 306), (0, x1)] [] I R Q) : PN X d mX11_statementTold 29 [(2, 306), (0, x1)] [(0, o0)] I R Q := by
  refine B_if_eq (off := 11) (t := 40) (q := 32) c1 (by decide) rfl (by decide +kernel) ?_ ?_
  · exact fun g9 => (h1 g9)
  · exact fun g9 => (h2 g9)
theorem S_X11_statementTold_32 {X : CX} {d d1 : Nat} {x1 : Int} {I R : PF} {Q Q1 : PV → PF → PF → Prop} (e1 : d1 + 1 ≤ d) (hc : CN X d1 mX11_lawTold [(2, 306), (0, x1)] I R Q1) (h : ∀ z I2 R2, Q1 (9, z) I2 R2 → PN X d mX11_statementTold 37 [(2, 306)] [] I2 R2 Q) : PN X d mX11_statementTold 32 [(2, 306), (0, x1)] [] I R Q := by
  refine P_aload_n (n := 0) (q := 33) rfl rfl (by decide +kernel) ?_
  refine P_iload_n (n := 1) (q := 34) rfl rfl (by decide +kernel) ?_
  refine P_invV (As := [(0, x1)]) (q := 37) oX11_lawTold rfl kM306 kX11_266 e1 hMF (Nat.le_of_ble_eq_true rfl) hc rfl (by decide +kernel) (fun z I2 R2 hq => ?_)
  exact (PW_sub (ls' := [(2, 306)]) ⟨Or.inr rfl, trivial⟩ (h z I2 R2 hq))
theorem S_X11_statementTold_37 {X : CX} {d : Nat} {I R : PF} {Q : PV → PF → PF → Prop} (h : PN X d mX11_statementTold 137 [(2, 306)] [] I R Q) : PN X d mX11_statementTold 37 [(2, 306)] [] I R Q := by
  refine P_goto (off := 100) (t := 137) (by decide) (by decide +kernel) ?_
  exact (PW_sub (ls' := [(2, 306)]) ⟨Or.inr rfl, trivial⟩ h)
theorem S_X11_statementTold_40 {X : CX} {d d1 : Nat} {x1 : Int} {I R : PF} {Q Q1 : PV → PF → PF → Prop} (hs : Shp R) (e1 : d1 + 1 ≤ d) (hc : CN X d1 mX11_takes [(2, 306), (2, 314)] I R Q1) (h : ∀ z I2 R2, Q1 (0, z) I2 R2 → PN X d mX11_statementTold 48 [(2, 306), (0, x1)] [(0, z)] I2 R2 Q) : PN X d mX11_statementTold 40 [(2, 306), (0, x1)] [] I R Q := by
  refine P_aload_n (n := 0) (q := 41) rfl rfl (by decide +kernel) ?_
  refine P_aload_n (n := 0) (q := 42) rfl rfl (by decide +kernel) ?_
  refine B_getfR (q := 45) fX11_77 kM306 (rM306_16 hs) rfl (by decide +kernel) ?_
  refine P_invV (As := [(2, 314)]) (q := 48) oX11_takes rfl kM306 kX11_41 e1 hMF (Nat.le_of_ble_eq_true rfl) hc rfl (by decide +kernel) (fun z I2 R2 hq => ?_)
  exact (h z I2 R2 hq)
theorem S_X11_statementTold_48 {X : CX} {d : Nat} {x1 o0 : Int} {I R : PF} {Q : PV → PF → PF → Prop} (c1 : -2147483648 ≤ o0 ∧ o0 < 2147483648) (h1 : o0 = 0 → PN X d mX11_statementTold 59 [(2, 306), (0, x1)] [] I R Q) (h2 : o0 ≠ 0 → PN X d mX11_statementTold 51 [(2, 306), (0, x1)] [] I R Q) : PN X d mX11_statementTold 48 [(2, 306), (0, x1)] [(0, o0)] I R Q := by
  refine B_if_eq (off := 11) (t := 59) (q := 51) c1 (by decide) rfl (by decide +kernel) ?_ ?_
  · exact fun g9 => (h1 g9)
  · exact fun g9 => (h2 g9)
theorem S_X11_statementTold_51 {X : CX} {d d1 : Nat} {x1 : Int} {I R : PF} {Q Q1 : PV → PF → PF → Prop} (e1 : d1 + 1 ≤ d) (hc : CN X d1 mX11_personTold [(2, 306), (0, x1)] I R Q1) (h : ∀ z I2 R2, Q1 (9, z) I2 R2 → PN X d mX11_statementTold 56 [(2, 306)] [] I2 R2 Q) : PN X d mX11_statementTold 51 [(2, 306), (0, x1)] [] I R Q := by
  refine P_aload_n (n := 0) (q := 52) rfl rfl (by decide +kernel) ?_
  refine P_iload_n (n := 1) (q := 53) rfl rfl (by decide +kernel) ?_
  refine P_invV (As := [(0, x1)]) (q := 56) oX11_personTold rfl kM306 kX11_269 e1 hMF (Nat.le_of_ble_eq_true rfl) hc rfl (by decide +kernel) (fun z I2 R2 hq => ?_)
  exact (PW_sub (ls' := [(2, 306)]) ⟨Or.inr rfl, trivial⟩ (h z I2 R2 hq))
theorem S_X11_statementTold_56 {X : CX} {d : Nat} {I R : PF} {Q : PV → PF → PF → Prop} (h : PN X d mX11_statementTold 137 [(2, 306)] [] I R Q) : PN X d mX11_statementTold 56 [(2, 306)] [] I R Q := by
  refine P_goto (off := 81) (t := 137) (by decide) (by decide +kernel) ?_
  exact (PW_sub (ls' := [(2, 306)]) ⟨Or.inr rfl, trivial⟩ h)
theorem S_X11_statementTold_59 {X : CX} {d d1 : Nat} {x1 : Int} {I R : PF} {Q Q1 : PV → PF → PF → Prop} (hs : Shp R) (e1 : d1 + 1 ≤ d) (hc : CN X d1 mX11_takes [(2, 306), (2, 321)] I R Q1) (h : ∀ z I2 R2, Q1 (0, z) I2 R2 → PN X d mX11_statementTold 67 [(2, 306), (0, x1)] [(0, z)] I2 R2 Q) : PN X d mX11_statementTold 59 [(2, 306), (0, x1)] [] I R Q := by
  refine P_aload_n (n := 0) (q := 60) rfl rfl (by decide +kernel) ?_
  refine P_aload_n (n := 0) (q := 61) rfl rfl (by decide +kernel) ?_
  refine B_getfR (q := 64) fX11_98 kM306 (rM306_23 hs) rfl (by decide +kernel) ?_
  refine P_invV (As := [(2, 321)]) (q := 67) oX11_takes rfl kM306 kX11_41 e1 hMF (Nat.le_of_ble_eq_true rfl) hc rfl (by decide +kernel) (fun z I2 R2 hq => ?_)
  exact (h z I2 R2 hq)
theorem S_X11_statementTold_67 {X : CX} {d : Nat} {x1 o0 : Int} {I R : PF} {Q : PV → PF → PF → Prop} (c1 : -2147483648 ≤ o0 ∧ o0 < 2147483648) (h1 : o0 = 0 → PN X d mX11_statementTold 78 [(2, 306), (0, x1)] [] I R Q) (h2 : o0 ≠ 0 → PN X d mX11_statementTold 70 [(2, 306), (0, x1)] [] I R Q) : PN X d mX11_statementTold 67 [(2, 306), (0, x1)] [(0, o0)] I R Q := by
  refine B_if_eq (off := 11) (t := 78) (q := 70) c1 (by decide) rfl (by decide +kernel) ?_ ?_
  · exact fun g9 => (h1 g9)
  · exact fun g9 => (h2 g9)
theorem S_X11_statementTold_70 {X : CX} {d d1 : Nat} {x1 : Int} {I R : PF} {Q Q1 : PV → PF → PF → Prop} (e1 : d1 + 1 ≤ d) (hc : CN X d1 mX11_wallTold [(2, 306), (0, x1)] I R Q1) (h : ∀ z I2 R2, Q1 (9, z) I2 R2 → PN X d mX11_statementTold 75 [(2, 306)] [] I2 R2 Q) : PN X d mX11_statementTold 70 [(2, 306), (0, x1)] [] I R Q := by
  refine P_aload_n (n := 0) (q := 71) rfl rfl (by decide +kernel) ?_
  refine P_iload_n (n := 1) (q := 72) rfl rfl (by decide +kernel) ?_
  refine P_invV (As := [(0, x1)]) (q := 75) oX11_wallTold rfl kM306 kX11_272 e1 hMF (Nat.le_of_ble_eq_true rfl) hc rfl (by decide +kernel) (fun z I2 R2 hq => ?_)
  exact (PW_sub (ls' := [(2, 306)]) ⟨Or.inr rfl, trivial⟩ (h z I2 R2 hq))
theorem S_X11_statementTold_75 {X : CX} {d : Nat} {I R : PF} {Q : PV → PF → PF → Prop} (h : PN X d mX11_statementTold 137 [(2, 306)] [] I R Q) : PN X d mX11_statementTold 75 [(2, 306)] [] I R Q := by
  refine P_goto (off := 62) (t := 137) (by decide) (by decide +kernel) ?_
  exact (PW_sub (ls' := [(2, 306)]) ⟨Or.inr rfl, trivial⟩ h)
theorem S_X11_statementTold_78 {X : CX} {d d1 : Nat} {x1 : Int} {I R : PF} {Q Q1 : PV → PF → PF → Prop} (hs : Shp R) (e1 : d1 + 1 ≤ d) (hc : CN X d1 mX11_takes [(2, 306), (2, 322)] I R Q1) (h : ∀ z I2 R2, Q1 (0, z) I2 R2 → PN X d mX11_statementTold 86 [(2, 306), (0, x1)] [(0, z)] I2 R2 Q) : PN X d mX11_statementTold 78 [(2, 306), (0, x1)] [] I R Q := by
  refine P_aload_n (n := 0) (q := 79) rfl rfl (by decide +kernel) ?_
  refine P_aload_n (n := 0) (q := 80) rfl rfl (by decide +kernel) ?_
  refine B_getfR (q := 83) fX11_101 kM306 (rM306_24 hs) rfl (by decide +kernel) ?_
  refine P_invV (As := [(2, 322)]) (q := 86) oX11_takes rfl kM306 kX11_41 e1 hMF (Nat.le_of_ble_eq_true rfl) hc rfl (by decide +kernel) (fun z I2 R2 hq => ?_)
  exact (h z I2 R2 hq)
theorem S_X11_statementTold_86 {X : CX} {d : Nat} {x1 o0 : Int} {I R : PF} {Q : PV → PF → PF → Prop} (c1 : -2147483648 ≤ o0 ∧ o0 < 2147483648) (h1 : o0 = 0 → PN X d mX11_statementTold 98 [(2, 306), (0, x1)] [] I R Q) (h2 : o0 ≠ 0 → PN X d mX11_statementTold 89 [(2, 306), (0, x1)] [] I R Q) : PN X d mX11_statementTold 86 [(2, 306), (0, x1)] [(0, o0)] I R Q := by
  refine B_if_eq (off := 12) (t := 98) (q := 89) c1 (by decide) rfl (by decide +kernel) ?_ ?_
  · exact fun g9 => (h1 g9)
  · exact fun g9 => (h2 g9)
theorem S_X11_statementTold_89 {X : CX} {d d1 : Nat} {x1 : Int} {I R : PF} {Q Q1 : PV → PF → PF → Prop} (e1 : d1 + 1 ≤ d) (hc : CN X d1 mX11_codesTold [(2, 306), (0, 0), (0, x1)] I R Q1) (h : ∀ z I2 R2, Q1 (9, z) I2 R2 → PN X d mX11_statementTold 95 [(2, 306)] [] I2 R2 Q) : PN X d mX11_statementTold 89 [(2, 306), (0, x1)] [] I R Q := by
  refine P_aload_n (n := 0) (q := 90) rfl rfl (by decide +kernel) ?_
  refine P_iconst (n := 0) (q := 91) rfl (by decide +kernel) ?_
  refine P_iload_n (n := 1) (q := 92) rfl rfl (by decide +kernel) ?_
  refine P_invV (As := [(0, 0), (0, x1)]) (q := 95) oX11_codesTold rfl kM306 kX11_275 e1 hMF (Nat.le_of_ble_eq_true rfl) hc rfl (by decide +kernel) (fun z I2 R2 hq => ?_)
  exact (PW_sub (ls' := [(2, 306)]) ⟨Or.inr rfl, trivial⟩ (h z I2 R2 hq))
theorem S_X11_statementTold_95 {X : CX} {d : Nat} {I R : PF} {Q : PV → PF → PF → Prop} (h : PN X d mX11_statementTold 137 [(2, 306)] [] I R Q) : PN X d mX11_statementTold 95 [(2, 306)] [] I R Q := by
  refine P_goto (off := 42) (t := 137) (by decide) (by decide +kernel) ?_
  exact (PW_sub (ls' := [(2, 306)]) ⟨Or.inr rfl, trivial⟩ h)
theorem S_X11_statementTold_98 {X : CX} {d d1 : Nat} {x1 : Int} {I R : PF} {Q Q1 : PV → PF → PF → Prop} (hs : Shp R) (e1 : d1 + 1 ≤ d) (hc : CN X d1 mX11_takes [(2, 306), (2, 323)] I R Q1) (h : ∀ z I2 R2, Q1 (0, z) I2 R2 → PN X d mX11_statementTold 106 [(2, 306), (0, x1)] [(0, z)] I2 R2 Q) : PN X d mX11_statementTold 98 [(2, 306), (0, x1)] [] I R Q := by
  refine P_aload_n (n := 0) (q := 99) rfl rfl (by decide +kernel) ?_
  refine P_aload_n (n := 0) (q := 100) rfl rfl (by decide +kernel) ?_
  refine B_getfR (q := 103) fX11_104 kM306 (rM306_25 hs) rfl (by decide +kernel) ?_
  refine P_invV (As := [(2, 323)]) (q := 106) oX11_takes rfl kM306 kX11_41 e1 hMF (Nat.le_of_ble_eq_true rfl) hc rfl (by decide +kernel) (fun z I2 R2 hq => ?_)
  exact (h z I2 R2 hq)
theorem S_X11_statementTold_106 {X : CX} {d : Nat} {x1 o0 : Int} {I R : PF} {Q : PV → PF → PF → Prop} (c1 : -2147483648 ≤ o0 ∧ o0 < 2147483648) (h1 : o0 = 0 → PN X d mX11_statementTold 118 [(2, 306)] [] I R Q) (h2 : o0 ≠ 0 → PN X d mX11_statementTold 109 [(2, 306), (0, x1)] [] I R Q) : PN X d mX11_statementTold 106 [(2, 306), (0, x1)] [(0, o0)] I R Q := by
  refine B_if_eq (off := 12) (t := 118) (q := 109) c1 (by decide) rfl (by decide +kernel) ?_ ?_
  · exact fun g9 => (PW_sub (ls' := [(2, 306)]) ⟨Or.inr rfl, trivial⟩ (h1 g9))
  · exact fun g9 => (h2 g9)
theorem S_X11_statementTold_109 {X : CX} {d d1 : Nat} {x1 : Int} {I R : PF} {Q Q1 : PV → PF → PF → Prop} (e1 : d1 + 1 ≤ d) (hc : CN X d1 mX11_codesTold [(2, 306), (0, 1), (0, x1)] I R Q1) (h : ∀ z I2 R2, Q1 (9, z) I2 R2 → PN X d mX11_statementTold 115 [(2, 306)] [] I2 R2 Q) : PN X d mX11_statementTold 109 [(2, 306), (0, x1)] [] I R Q := by
  refine P_aload_n (n := 0) (q := 110) rfl rfl (by decide +kernel) ?_
  refine P_iconst (n := 1) (q := 111) rfl (by decide +kernel) ?_
  refine P_iload_n (n := 1) (q := 112) rfl rfl (by decide +kernel) ?_
  refine P_invV (As := [(0, 1), (0, x1)]) (q := 115) oX11_codesTold rfl kM306 kX11_275 e1 hMF (Nat.le_of_ble_eq_true rfl) hc rfl (by decide +kernel) (fun z I2 R2 hq => ?_)
  exact (PW_sub (ls' := [(2, 306)]) ⟨Or.inr rfl, trivial⟩ (h z I2 R2 hq))
theorem S_X11_statementTold_115 {X : CX} {d : Nat} {I R : PF} {Q : PV → PF → PF → Prop} (h : PN X d mX11_statementTold 137 [(2, 306)] [] I R Q) : PN X d mX11_statementTold 115 [(2, 306)] [] I R Q := by
  refine P_goto (off := 22) (t := 137) (by decide) (by decide +kernel) ?_
  exact (PW_sub (ls' := [(2, 306)]) ⟨Or.inr rfl, trivial⟩ h)
theorem S_X11_statementTold_118 {X : CX} {d d1 : Nat} {I R : PF} {Q Q1 : PV → PF → PF → Prop} (hs : Shp R) (e1 : d1 + 1 ≤ d) (hc : CN X d1 mX11_asks [(2, 306), (2, 324)] I R Q1) (h : ∀ z I2 R2, Q1 (9, z) I2 R2 → PN X d mX11_statementTold 126 [(2, 306)] [] I2 R2 Q) : PN X d mX11_statementTold 118 [(2, 306)] [] I R Q := by
  refine P_aload_n (n := 0) (q := 119) rfl rfl (by decide +kernel) ?_
  refine P_aload_n (n := 0) (q := 120) rfl rfl (by decide +kernel) ?_
  refine B_getfR (q := 123) fX11_107 kM306 (rM306_26 hs) rfl (by decide +kernel) ?_
  refine P_invV (As := [(2, 324)]) (q := 126) oX11_asks rfl kM306 kX11_181 e1 hMF (Nat.le_of_ble_eq_true rfl) hc rfl (by decide +kernel) (fun z I2 R2 hq => ?_)
  exact (PW_sub (ls' := [(2, 306)]) ⟨Or.inr rfl, trivial⟩ (h z I2 R2 hq))
theorem S_X11_statementTold_126 {X : CX} {d d1 : Nat} {I R : PF} {Q Q1 : PV → PF → PF → Prop} (e1 : d1 + 1 ≤ d) (hc : CN X d1 mX11_number [(2, 306), (0, 0), (0, 100)] I R Q1) (h : ∀ z I2 R2, Q1 (0, z) I2 R2 → PN X d mX11_statementTold 134 [(2, 306)] [(0, z), (2, 306)] I2 R2 Q) : PN X d mX11_statementTold 126 [(2, 306)] [] I R Q := by
  refine P_aload_n (n := 0) (q := 127) rfl rfl (by decide +kernel) ?_
  refine P_aload_n (n := 0) (q := 128) rfl rfl (by decide +kernel) ?_
  refine P_iconst (n := 0) (q := 129) rfl (by decide +kernel) ?_
  refine P_bipush (n := 100) (q := 131) rfl rfl (by decide +kernel) ?_
  refine P_invV (As := [(0, 0), (0, 100)]) (q := 134) oX11_number rfl kM306 kX11_188 e1 hMF (Nat.le_of_ble_eq_true rfl) hc rfl (by decide +kernel) (fun z I2 R2 hq => ?_)
  exact (PW_sub (ls' := [(2, 306)]) ⟨Or.inr rfl, trivial⟩ (h z I2 R2 hq))
theorem S_X11_statementTold_134 {X : CX} {d : Nat} {o1 : Int} {I R : PF} {Q : PV → PF → PF → Prop} (h : PN X d mX11_statementTold 137 [(2, 306)] [] (u2 I 306 48 o1) R Q) : PN X d mX11_statementTold 134 [(2, 306)] [(0, o1), (2, 306)] I R Q := by
  refine P_putI (q := 137) wX11_278 (fun h => by cases h) kM306 rfl (by decide +kernel) ?_
  exact (PW_sub (ls' := [(2, 306)]) ⟨Or.inr rfl, trivial⟩ h)
theorem S_X11_statementTold_137 {X : CX} {d d1 : Nat} {I R : PF} {Q Q1 : PV → PF → PF → Prop} (e1 : d1 + 1 ≤ d) (hc : CN X d1 mX11_asksSign [(2, 306), (0, 59)] I R Q1) (h : ∀ z I2 R2, Q1 (9, z) I2 R2 → PN X d mX11_statementTold 143 [(2, 306)] [] I2 R2 Q) : PN X d mX11_statementTold 137 [(2, 306)] [] I R Q := by
  refine P_aload_n (n := 0) (q := 138) rfl rfl (by decide +kernel) ?_
  refine P_bipush (n := 59) (q := 140) rfl rfl (by decide +kernel) ?_
  refine P_invV (As := [(0, 59)]) (q := 143) oX11_asksSign rfl kM306 kX11_192 e1 hMF (Nat.le_of_ble_eq_true rfl) hc rfl (by decide +kernel) (fun z I2 R2 hq => ?_)
  exact (PW_sub (ls' := [(2, 306)]) ⟨Or.inr rfl, trivial⟩ (h z I2 R2 hq))
theorem S_X11_statementTold_143 {X : CX} {d : Nat} {I R : PF} {Q : PV → PF → PF → Prop} (h : Q (9, 0) (u2 I 306 54 ((I 306 54) + 1)) R) : PN X d mX11_statementTold 143 [(2, 306)] [] I R Q := by
  refine P_aload_n (n := 0) (q := 144) rfl rfl (by decide +kernel) ?_
  refine P_dup (q := 145) (Nat.ne_of_beq_eq_false rfl) rfl (by decide +kernel) ?_
  refine P_getf (q := 148) fX11_263 kM306 rfl (by decide +kernel) ?_
  refine P_iconst (n := 1) (q := 149) rfl (by decide +kernel) ?_
  refine P_iadd (q := 150) rfl (by decide +kernel) ?_
  refine P_putI (q := 153) wX11_263 (fun h => by cases h) kM306 rfl (by decide +kernel) ?_
  refine P_vret rfl (by decide +kernel) h
theorem S_X11_status_0 {X : CX} {d d1 : Nat} {x1 : Int} {I R : PF} {Q Q1 : PV → PF → PF → Prop} (c1 : -2147483648 ≤ x1 ∧ x1 < 2147483648) (e1 : d1 + 1 ≤ d) (hc : CN X d1 mX11_isIn [(1, x1), (1, 0), (1, 5)] I R Q1) (h : ∀ z I2 R2, Q1 (0, z) I2 R2 → PN X d mX11_status 9 [(2, 306), (0, x1)] [(0, z)] I2 R2 Q) : PN X d mX11_status 0 [(2, 306), (0, x1)] [] I R Q := by
  refine P_iload_n (n := 1) (q := 1) rfl rfl (by decide +kernel) ?_
  refine B_i2l (q := 2) c1 rfl (by decide +kernel) ?_
  refine P_lconst (n := 0) (x := 0) (q := 3) rfl rfl (by decide +kernel) ?_
  refine P_ldc2 (ix := 531) (v := 5) (x := 5) (q := 6) rfl (tGp8 2 rfl rfl) rfl (by decide +kernel) ?_
  refine P_invS (As := [(1, x1), (1, 0), (1, 5)]) (q := 9) oX11_isIn rfl (Or.inl kX11_57) e1 hMF (Nat.le_of_ble_eq_true rfl) hc rfl (by decide +kernel) (fun z I2 R2 hq => ?_)
  exact (h z I2 R2 hq)
theorem S_X11_status_9 {X : CX} {d : Nat} {x1 o0 : Int} {I R : PF} {Q : PV → PF → PF → Prop} (c1 : -2147483648 ≤ o0 ∧ o0 < 2147483648) (h1 : o0 = 0 → PN X d mX11_status 21 [] [] I R Q) (h2 : o0 ≠ 0 → PN X d mX11_status 12 [(2, 306), (0, x1)] [] I R Q) : PN X d mX11_status 9 [(2, 306), (0, x1)] [(0, o0)] I R Q := by
  refine B_if_eq (off := 12) (t := 21) (q := 12) c1 (by decide) rfl (by decide +kernel) ?_ ?_
  · exact fun g9 => (PW_sub (ls' := []) trivial (h1 g9))
  · exact fun g9 => (h2 g9)
theorem S_X11_status_12 {X : CX} {d : Nat} {x1 : Int} {I R : PF} {Q : PV → PF → PF → Prop} (hs : Shp R) (b1 : (0 : Int) ≤ x1 ∧ x1 < 6) (h : PN X d mX11_status 22 [] [(0, (I 308 x1))] I R Q) : PN X d mX11_status 12 [(2, 306), (0, x1)] [] I R Q := by
  refine P_aload_n (n := 0) (q := 13) rfl rfl (by decide +kernel) ?_
  refine B_getfR (q := 16) fX11_7 kM306 (rM306_9 hs) rfl (by decide +kernel) ?_
  refine P_iload_n (n := 1) (q := 17) rfl rfl (by decide +kernel) ?_
  refine B_iaload (q := 18) kM308 nM308 (by decide) b1 rfl (by decide +kernel) ?_
  refine P_goto (off := 4) (t := 22) (by decide) (by decide +kernel) ?_
  exact (PW_sub (ls' := []) trivial h)
theorem S_X11_status_21 {X : CX} {d : Nat} {I R : PF} {Q : PV → PF → PF → Prop} (h : PN X d mX11_status 22 [] [(0, (-1))] I R Q) : PN X d mX11_status 21 [] [] I R Q := by
  refine P_iconst (n := (-1)) (q := 22) rfl (by decide +kernel) ?_
  exact (PW_sub (ls' := []) trivial h)
theorem S_X11_status_22 {X : CX} {d : Nat} {o0 : Int} {I R : PF} {Q : PV → PF → PF → Prop} (h : Q (0, o0) I R) : PN X d mX11_status 22 [] [(0, o0)] I R Q := by
  refine P_iret rfl (by decide +kernel) h
theorem S_X11_steps_0 {X : CX} {d : Nat} {x1 : Int} {I R : PF} {Q : PV → PF → PF → Prop} (h : PN X d mX11_steps 4 [(2, 306), (0, x1), (0, 0), (0, 1)] [] I R Q) : PN X d mX11_steps 0 [(2, 306), (0, x1)] [] I R Q := by
  refine P_iconst (n := 0) (q := 1) rfl (by decide +kernel) ?_
  refine P_istore_n (n := 2) (by decide) (q := 2) rfl (by decide +kernel) ?_
  refine P_iconst (n := 1) (q := 3) rfl (by decide +kernel) ?_
  refine P_istore_n (n := 3) (by decide) (q := 4) rfl (by decide +kernel) ?_
  exact h
theorem S_X11_steps_4 {X : CX} {d : Nat} {x1 x2 x3 : Int} {I R : PF} {Q : PV → PF → PF → Prop} (c1 : -2147483648 ≤ x3 ∧ x3 < 2147483648) (h1 : 8 < x3 → PN X d mX11_steps 93 [(2, 306), (0, x1), (0, x2)] [] I R Q) (h2 : x3 ≤ 8 → PN X d mX11_steps 10 [(2, 306), (0, x1), (0, x2), (0, x3)] [] I R Q) : PN X d mX11_steps 4 [(2, 306), (0, x1), (0, x2), (0, x3)] [] I R Q := by
  refine P_iload_n (n := 3) (q := 5) rfl rfl (by decide +kernel) ?_
  refine P_bipush (n := 8) (q := 7) rfl rfl (by decide +kernel) ?_
  refine B_icmp_gt (off := 86) (t := 93) (q := 10) c1 ⟨by decide, by decide⟩ (by decide) rfl (by decide +kernel) ?_ ?_
  · exact fun g9 => (PW_sub (ls' := [(2, 306), (0, x1), (0, x2)]) ⟨Or.inr rfl, Or.inr rfl, Or.inr rfl, trivial⟩ (h1 g9))
  · exact fun g9 => (h2 g9)
theorem S_X11_steps_10 {X : CX} {d d1 : Nat} {x1 x2 x3 : Int} {I R : PF} {Q Q1 : PV → PF → PF → Prop} (hs : Shp R) (b1 : (0 : Int) ≤ x1 ∧ x1 < 6) (e1 : d1 + 1 ≤ d) (hc : CN X d1 mX11_across [(0, x3)] I R Q1) (h : ∀ z I2 R2, Q1 (0, z) I2 R2 → PN X d mX11_steps 20 [(2, 306), (0, x1), (0, x2), (0, x3)] [(0, z), (0, (I 351 x1))] I2 R2 Q) : PN X d mX11_steps 10 [(2, 306), (0, x1), (0, x2), (0, x3)] [] I R Q := by
  refine P_aload_n (n := 0) (q := 11) rfl rfl (by decide +kernel) ?_
  refine B_getfR (q := 14) fX11_323 kM306 (rM306_67 hs) rfl (by decide +kernel) ?_
  refine P_iload_n (n := 1) (q := 15) rfl rfl (by decide +kernel) ?_
  refine B_iaload (q := 16) kM351 nM351 (by decide) b1 rfl (by decide +kernel) ?_
  refine P_iload_n (n := 3) (q := 17) rfl rfl (by decide +kernel) ?_
  refine P_invS (As := [(0, x3)]) (q := 20) oX11_across rfl (Or.inl kX11_440) e1 hMF (Nat.le_of_ble_eq_true rfl) hc rfl (by decide +kernel) (fun z I2 R2 hq => ?_)
  exact (h z I2 R2 hq)
theorem S_X11_steps_20 {X : CX} {d d1 : Nat} {x1 x2 x3 o0 o1 : Int} {I R : PF} {Q Q1 : PV → PF → PF → Prop} (hs : Shp R) (b1 : (0 : Int) ≤ x1 ∧ x1 < 6) (e1 : d1 + 1 ≤ d) (hc : CN X d1 mX11_down [(0, x3)] I R Q1) (h : ∀ z I2 R2, Q1 (0, z) I2 R2 → PN X d mX11_steps 33 [(2, 306), (0, x1), (0, x2), (0, x3), (0, (o0 + o1))] [(0, z), (0, (I 352 x1))] I2 R2 Q) : PN X d mX11_steps 20 [(2, 306), (0, x1), (0, x2), (0, x3)] [(0, o1), (0, o0)] I R Q := by
  refine P_iadd (q := 21) rfl (by decide +kernel) ?_
  refine P_istore (n := 4) (by decide) (q := 23) rfl (by decide +kernel) ?_
  refine P_aload_n (n := 0) (q := 24) rfl rfl (by decide +kernel) ?_
  refine B_getfR (q := 27) fX11_326 kM306 (rM306_68 hs) rfl (by decide +kernel) ?_
  refine P_iload_n (n := 1) (q := 28) rfl rfl (by decide +kernel) ?_
  refine B_iaload (q := 29) kM352 nM352 (by decide) b1 rfl (by decide +kernel) ?_
  refine P_iload_n (n := 3) (q := 30) rfl rfl (by decide +kernel) ?_
  refine P_invS (As := [(0, x3)]) (q := 33) oX11_down rfl (Or.inl kX11_450) e1 hMF (Nat.le_of_ble_eq_true rfl) hc rfl (by decide +kernel) (fun z I2 R2 hq => ?_)
  exact (h z I2 R2 hq)
theorem S_X11_steps_33 {X : CX} {d d1 : Nat} {x1 x2 x3 x4 o0 o1 : Int} {I R : PF} {Q Q1 : PV → PF → PF → Prop} (e1 : d1 + 1 ≤ d) (hc : CN X d1 mX11_isFree [(2, 306), (0, x4), (0, (o0 + o1)), (0, x1)] I R Q1) (h : ∀ z I2 R2, Q1 (0, z) I2 R2 → PN X d mX11_steps 45 [(2, 306), (0, x1), (0, x2), (0, x3), (0, x4), (0, (o0 + o1))] [(0, z)] I2 R2 Q) : PN X d mX11_steps 33 [(2, 306), (0, x1), (0, x2), (0, x3), (0, x4)] [(0, o1), (0, o0)] I R Q := by
  refine P_iadd (q := 34) rfl (by decide +kernel) ?_
  refine P_istore (n := 5) (by decide) (q := 36) rfl (by decide +kernel) ?_
  refine P_aload_n (n := 0) (q := 37) rfl rfl (by decide +kernel) ?_
  refine P_iload (n := 4) (q := 39) rfl rfl (by decide +kernel) ?_
  refine P_iload (n := 5) (q := 41) rfl rfl (by decide +kernel) ?_
  refine P_iload_n (n := 1) (q := 42) rfl rfl (by decide +kernel) ?_
  refine P_invV (As := [(0, x4), (0, (o0 + o1)), (0, x1)]) (q := 45) oX11_isFree rfl kM306 kX11_470 e1 hMF (Nat.le_of_ble_eq_true rfl) hc rfl (by decide +kernel) (fun z I2 R2 hq => ?_)
  exact (h z I2 R2 hq)
theorem S_X11_steps_45 {X : CX} {d : Nat} {x1 x2 x3 x4 x5 o0 : Int} {I R : PF} {Q : PV → PF → PF → Prop} (c1 : -2147483648 ≤ o0 ∧ o0 < 2147483648) (h1 : o0 = 0 → PN X d mX11_steps 87 [(2, 306), (0, x1), (0, x2), (0, x3)] [] I R Q) (h2 : o0 ≠ 0 → PN X d mX11_steps 48 [(2, 306), (0, x1), (0, x2), (0, x3), (0, x4), (0, x5)] [] I R Q) : PN X d mX11_steps 45 [(2, 306), (0, x1), (0, x2), (0, x3), (0, x4), (0, x5)] [(0, o0)] I R Q := by
  refine B_if_eq (off := 42) (t := 87) (q := 48) c1 (by decide) rfl (by decide +kernel) ?_ ?_
  · exact fun g9 => (PW_sub (ls' := [(2, 306), (0, x1), (0, x2), (0, x3)]) ⟨Or.inr rfl, Or.inr rfl, Or.inr rfl, Or.inr rfl, trivial⟩ (h1 g9))
  · exact fun g9 => (h2 g9)
theorem S_X11_steps_48 {X : CX} {d d1 : Nat} {x1 x2 x3 x4 x5 : Int} {I R : PF} {Q Q1 : PV → PF → PF → Prop} (e1 : d1 + 1 ≤ d) (hc : CN X d1 mX11_farFrom [(2, 306), (0, x4), (0, x5)] I R Q1) (h : ∀ z I2 R2, Q1 (0, z) I2 R2 → PN X d mX11_steps 56 [(2, 306), (0, x1), (0, x2), (0, x3)] [(0, z)] I2 R2 Q) : PN X d mX11_steps 48 [(2, 306), (0, x1), (0, x2), (0, x3), (0, x4), (0, x5)] [] I R Q := by
  refine P_aload_n (n := 0) (q := 49) rfl rfl (by decide +kernel) ?_
  refine P_iload (n := 4) (q := 51) rfl rfl (by decide +kernel) ?_
  refine P_iload (n := 5) (q := 53) rfl rfl (by decide +kernel) ?_
  refine P_invV (As := [(0, x4), (0, x5)]) (q := 56) oX11_farFrom rfl kM306 kX11_473 e1 hMF (Nat.le_of_ble_eq_true rfl) hc rfl (by decide +kernel) (fun z I2 R2 hq => ?_)
  exact (PW_sub (ls' := [(2, 306), (0, x1), (0, x2), (0, x3)]) ⟨Or.inr rfl, Or.inr rfl, Or.inr rfl, Or.inr rfl, trivial⟩ (h z I2 R2 hq))
theorem S_X11_steps_56 {X : CX} {d d1 : Nat} {x1 x2 x3 o0 : Int} {I R : PF} {Q Q1 : PV → PF → PF → Prop} (hs : Shp R) (b1 : (0 : Int) ≤ x1 ∧ x1 < 6) (e1 : d1 + 1 ≤ d) (hc : CN X d1 mX11_across [(0, x2)] I R Q1) (h : ∀ z I2 R2, Q1 (0, z) I2 R2 → PN X d mX11_steps 67 [(2, 306), (0, x1), (0, x2), (0, x3)] [(0, z), (0, (I 351 x1)), (2, 306), (0, o0)] I2 R2 Q) : PN X d mX11_steps 56 [(2, 306), (0, x1), (0, x2), (0, x3)] [(0, o0)] I R Q := by
  refine P_aload_n (n := 0) (q := 57) rfl rfl (by decide +kernel) ?_
  refine P_aload_n (n := 0) (q := 58) rfl rfl (by decide +kernel) ?_
  refine B_getfR (q := 61) fX11_323 kM306 (rM306_67 hs) rfl (by decide +kernel) ?_
  refine P_iload_n (n := 1) (q := 62) rfl rfl (by decide +kernel) ?_
  refine B_iaload (q := 63) kM351 nM351 (by decide) b1 rfl (by decide +kernel) ?_
  refine P_iload_n (n := 2) (q := 64) rfl rfl (by decide +kernel) ?_
  refine P_invS (As := [(0, x2)]) (q := 67) oX11_across rfl (Or.inl kX11_440) e1 hMF (Nat.le_of_ble_eq_true rfl) hc rfl (by decide +kernel) (fun z I2 R2 hq => ?_)
  exact (PW_sub (ls' := [(2, 306), (0, x1), (0, x2), (0, x3)]) ⟨Or.inr rfl, Or.inr rfl, Or.inr rfl, Or.inr rfl, trivial⟩ (h z I2 R2 hq))
theorem S_X11_steps_67 {X : CX} {d d1 : Nat} {x1 x2 x3 o0 o2 o3 : Int} {I R : PF} {Q Q1 : PV → PF → PF → Prop} (hs : Shp R) (b1 : (0 : Int) ≤ x1 ∧ x1 < 6) (e1 : d1 + 1 ≤ d) (hc : CN X d1 mX11_down [(0, x2)] I R Q1) (h : ∀ z I2 R2, Q1 (0, z) I2 R2 → PN X d mX11_steps 78 [(2, 306), (0, x1), (0, x2), (0, x3)] [(0, z), (0, (I 352 x1)), (0, (o2 + o3)), (2, 306), (0, o0)] I2 R2 Q) : PN X d mX11_steps 67 [(2, 306), (0, x1), (0, x2), (0, x3)] [(0, o3), (0, o2), (2, 306), (0, o0)] I R Q := by
  refine P_iadd (q := 68) rfl (by decide +kernel) ?_
  refine P_aload_n (n := 0) (q := 69) rfl rfl (by decide +kernel) ?_
  refine B_getfR (q := 72) fX11_326 kM306 (rM306_68 hs) rfl (by decide +kernel) ?_
  refine P_iload_n (n := 1) (q := 73) rfl rfl (by decide +kernel) ?_
  refine B_iaload (q := 74) kM352 nM352 (by decide) b1 rfl (by decide +kernel) ?_
  refine P_iload_n (n := 2) (q := 75) rfl rfl (by decide +kernel) ?_
  refine P_invS (As := [(0, x2)]) (q := 78) oX11_down rfl (Or.inl kX11_450) e1 hMF (Nat.le_of_ble_eq_true rfl) hc rfl (by decide +kernel) (fun z I2 R2 hq => ?_)
  exact (PW_sub (ls' := [(2, 306), (0, x1), (0, x2), (0, x3)]) ⟨Or.inr rfl, Or.inr rfl, Or.inr rfl, Or.inr rfl, trivial⟩ (h z I2 R2 hq))
theorem S_X11_steps_78 {X : CX} {d d1 : Nat} {x1 x2 x3 o0 o2 o3 o4 : Int} {I R : PF} {Q Q1 : PV → PF → PF → Prop} (e1 : d1 + 1 ≤ d) (hc : CN X d1 mX11_farFrom [(2, 306), (0, o2), (0, (o3 + o4))] I R Q1) (h : ∀ z I2 R2, Q1 (0, z) I2 R2 → PN X d mX11_steps 82 [(2, 306), (0, x1), (0, x2), (0, x3)] [(0, z), (0, o0)] I2 R2 Q) : PN X d mX11_steps 78 [(2, 306), (0, x1), (0, x2), (0, x3)] [(0, o4), (0, o3), (0, o2), (2, 306), (0, o0)] I R Q := by
  refine P_iadd (q := 79) rfl (by decide +kernel) ?_
  refine P_invV (As := [(0, o2), (0, (o3 + o4))]) (q := 82) oX11_farFrom rfl kM306 kX11_473 e1 hMF (Nat.le_of_ble_eq_true rfl) hc rfl (by decide +kernel) (fun z I2 R2 hq => ?_)
  exact (PW_sub (ls' := [(2, 306), (0, x1), (0, x2), (0, x3)]) ⟨Or.inr rfl, Or.inr rfl, Or.inr rfl, Or.inr rfl, trivial⟩ (h z I2 R2 hq))
theorem S_X11_steps_82 {X : CX} {d : Nat} {x1 x2 x3 o0 o1 : Int} {I R : PF} {Q : PV → PF → PF → Prop} (c1 : -2147483648 ≤ o0 ∧ o0 < 2147483648) (c2 : -2147483648 ≤ o1 ∧ o1 < 2147483648) (h1 : o1 ≤ o0 → PN X d mX11_steps 87 [(2, 306), (0, x1), (0, x2), (0, x3)] [] I R Q) (h2 : o0 < o1 → PN X d mX11_steps 85 [(2, 306), (0, x1), (9, 0), (0, x3)] [] I R Q) : PN X d mX11_steps 82 [(2, 306), (0, x1), (0, x2), (0, x3)] [(0, o1), (0, o0)] I R Q := by
  refine B_icmp_ge (off := 5) (t := 87) (q := 85) c1 c2 (by decide) rfl (by decide +kernel) ?_ ?_
  · exact fun g9 => (PW_sub (ls' := [(2, 306), (0, x1), (0, x2), (0, x3)]) ⟨Or.inr rfl, Or.inr rfl, Or.inr rfl, Or.inr rfl, trivial⟩ (h1 g9))
  · exact fun g9 => (PW_sub (ls' := [(2, 306), (0, x1), (9, 0), (0, x3)]) ⟨Or.inr rfl, Or.inr rfl, Or.inl rfl, Or.inr rfl, trivial⟩ (h2 g9))
theorem S_X11_steps_85 {X : CX} {d : Nat} {x1 x3 : Int} {I R : PF} {Q : PV → PF → PF → Prop} (h : PN X d mX11_steps 87 [(2, 306), (0, x1), (0, x3), (0, x3)] [] I R Q) : PN X d mX11_steps 85 [(2, 306), (0, x1), (9, 0), (0, x3)] [] I R Q := by
  refine P_iload_n (n := 3) (q := 86) rfl rfl (by decide +kernel) ?_
  refine P_istore_n (n := 2) (by decide) (q := 87) rfl (by decide +kernel) ?_
  exact (PW_sub (ls' := [(2, 306), (0, x1), (0, x3), (0, x3)]) ⟨Or.inr rfl, Or.inr rfl, Or.inr rfl, Or.inr rfl, trivial⟩ h)
theorem S_X11_steps_87 {X : CX} {d : Nat} {x1 x2 x3 : Int} {I R : PF} {Q : PV → PF → PF → Prop} (h : PN X d mX11_steps 4 [(2, 306), (0, x1), (0, x2), (0, (x3 + 1))] [] I R Q) : PN X d mX11_steps 87 [(2, 306), (0, x1), (0, x2), (0, x3)] [] I R Q := by
  refine P_iinc (n := 3) (a := 1) (by decide) rfl (q := 90) rfl (by decide +kernel) ?_
  refine P_goto (off := (-86)) (t := 4) (by decide) (by decide +kernel) ?_
  exact (PW_sub (ls' := [(2, 306), (0, x1), (0, x2), (0, (x3 + 1))]) ⟨Or.inr rfl, Or.inr rfl, Or.inr rfl, Or.inr rfl, trivial⟩ h)
theorem S_X11_steps_93 {X : CX} {d d1 : Nat} {x1 x2 : Int} {I R : PF} {Q Q1 : PV → PF → PF → Prop} (hs : Shp R) (b1 : (0 : Int) ≤ x1 ∧ x1 < 6) (e1 : d1 + 1 ≤ d) (hc : CN X d1 mX11_across [(0, x2)] I R Q1) (h : ∀ z I2 R2, Q1 (0, z) I2 R2 → PN X d mX11_steps 104 [(2, 306), (0, x1), (0, x2)] [(0, z), (0, (I 351 x1)), (0, x1), (2, 351)] I2 R2 Q) : PN X d mX11_steps 93 [(2, 306), (0, x1), (0, x2)] [] I R Q := by
  refine P_aload_n (n := 0) (q := 94) rfl rfl (by decide +kernel) ?_
  refine B_getfR (q := 97) fX11_323 kM306 (rM306_67 hs) rfl (by decide +kernel) ?_
  refine P_iload_n (n := 1) (q := 98) rfl rfl (by decide +kernel) ?_
  refine P_dup2 (q := 99) (Nat.ne_of_beq_eq_false rfl) (Nat.ne_of_beq_eq_false rfl) rfl (by decide +kernel) ?_
  refine B_iaload (q := 100) kM351 nM351 (by decide) b1 rfl (by decide +kernel) ?_
  refine P_iload_n (n := 2) (q := 101) rfl rfl (by decide +kernel) ?_
  refine P_invS (As := [(0, x2)]) (q := 104) oX11_across rfl (Or.inl kX11_440) e1 hMF (Nat.le_of_ble_eq_true rfl) hc rfl (by decide +kernel) (fun z I2 R2 hq => ?_)
  exact (PW_sub (ls' := [(2, 306), (0, x1), (0, x2)]) ⟨Or.inr rfl, Or.inr rfl, Or.inr rfl, trivial⟩ (h z I2 R2 hq))
theorem S_X11_steps_104 {X : CX} {d d1 : Nat} {x1 x2 o1 o2 o3 : Int} {I R : PF} {Q Q1 : PV → PF → PF → Prop} (hs : Shp R) (b1 : (0 : Int) ≤ o1 ∧ o1 < 6) (b2 : (0 : Int) ≤ x1 ∧ x1 < 6) (e1 : d1 + 1 ≤ d) (hc : CN X d1 mX11_down [(0, x2)] (u2 I 351 o1 (o2 + o3)) R Q1) (h : ∀ z I2 R2, Q1 (0, z) I2 R2 → PN X d mX11_steps 117 [] [(0, z), (0, ((u2 I 351 o1 (o2 + o3)) 352 x1)), (0, x1), (2, 352)] I2 R2 Q) : PN X d mX11_steps 104 [(2, 306), (0, x1), (0, x2)] [(0, o3), (0, o2), (0, o1), (2, 351)] I R Q := by
  refine P_iadd (q := 105) rfl (by decide +kernel) ?_
  refine B_iastore (q := 106) kM351 nM351 (by decide) b1 rfl (by decide +kernel) ?_
  refine P_aload_n (n := 0) (q := 107) rfl rfl (by decide +kernel) ?_
  refine B_getfR (q := 110) fX11_326 kM306 (rM306_68 hs) rfl (by decide +kernel) ?_
  refine P_iload_n (n := 1) (q := 111) rfl rfl (by decide +kernel) ?_
  refine P_dup2 (q := 112) (Nat.ne_of_beq_eq_false rfl) (Nat.ne_of_beq_eq_false rfl) rfl (by decide +kernel) ?_
  refine B_iaload (q := 113) kM352 nM352 (by decide) b2 rfl (by decide +kernel) ?_
  refine P_iload_n (n := 2) (q := 114) rfl rfl (by decide +kernel) ?_
  refine P_invS (As := [(0, x2)]) (q := 117) oX11_down rfl (Or.inl kX11_450) e1 hMF (Nat.le_of_ble_eq_true rfl) hc rfl (by decide +kernel) (fun z I2 R2 hq => ?_)
  exact (PW_sub (ls' := []) trivial (h z I2 R2 hq))
theorem S_X11_steps_117 {X : CX} {d : Nat} {o1 o2 o3 : Int} {I R : PF} {Q : PV → PF → PF → Prop} (b1 : (0 : Int) ≤ o1 ∧ o1 < 6) (h : Q (9, 0) (u2 I 352 o1 (o2 + o3)) R) : PN X d mX11_steps 117 [] [(0, o3), (0, o2), (0, o1), (2, 352)] I R Q := by
  refine P_iadd (q := 118) rfl (by decide +kernel) ?_
  refine B_iastore (q := 119) kM352 nM352 (by decide) b1 rfl (by decide +kernel) ?_
  refine P_vret rfl (by decide +kernel) h
theorem S_X11_takes_0 {X : CX} {d d1 : Nat} {a1 : Int} {I R : PF} {Q Q1 : PV → PF → PF → Prop} (e1 : d1 + 1 ≤ d) (hc : CN X d1 mX11_isHere [(2, 306), (2, a1)] I R Q1) (h : ∀ z I2 R2, Q1 (0, z) I2 R2 → PN X d mX11_takes 5 [(2, 306), (2, a1)] [(0, z)] I2 R2 Q) : PN X d mX11_takes 0 [(2, 306), (2, a1)] [] I R Q := by
  refine P_aload_n (n := 0) (q := 1) rfl rfl (by decide +kernel) ?_
  refine P_aload_n (n := 1) (q := 2) rfl rfl (by decide +kernel) ?_
  refine P_invV (As := [(2, a1)]) (q := 5) oX11_isHere rfl kM306 kX11_37 e1 hMF (Nat.le_of_ble_eq_true rfl) hc rfl (by decide +kernel) (fun z I2 R2 hq => ?_)
  exact (h z I2 R2 hq)
theorem S_X11_takes_5 {X : CX} {d : Nat} {a1 o0 : Int} {I R : PF} {Q : PV → PF → PF → Prop} (c1 : -2147483648 ≤ o0 ∧ o0 < 2147483648) (h1 : o0 ≠ 0 → PN X d mX11_takes 10 [(2, 306), (2, a1)] [] I R Q) (h2 : o0 = 0 → PN X d mX11_takes 8 [] [] I R Q) : PN X d mX11_takes 5 [(2, 306), (2, a1)] [(0, o0)] I R Q := by
  refine B_if_ne (off := 5) (t := 10) (q := 8) c1 (by decide) rfl (by decide +kernel) ?_ ?_
  · exact fun g9 => (h1 g9)
  · exact fun g9 => (PW_sub (ls' := []) trivial (h2 g9))
theorem S_X11_takes_8 {X : CX} {d : Nat} {I R : PF} {Q : PV → PF → PF → Prop} (h : Q (0, 0) I R) : PN X d mX11_takes 8 [] [] I R Q := by
  refine P_iconst (n := 0) (q := 9) rfl (by decide +kernel) ?_
  refine P_zret rfl (Or.inl rfl) (by decide +kernel) h
theorem S_X11_takes_10 {X : CX} {d : Nat} {a1 : Int} {I R : PF} {Q : PV → PF → PF → Prop} (k1 : kd MF a1 = 14) (n1 : (ln MF a1 : Int) < 2147483648) (h : Q (0, 1) (u2 (u2 I 306 2 ((I 306 2) + (ln MF a1 : Int))) 306 4 ((u2 I 306 2 ((I 306 2) + (ln MF a1 : Int))) 306 2)) R) : PN X d mX11_takes 10 [(2, 306), (2, a1)] [] I R Q := by
  refine P_aload_n (n := 0) (q := 11) rfl rfl (by decide +kernel) ?_
  refine P_dup (q := 12) (Nat.ne_of_beq_eq_false rfl) rfl (by decide +kernel) ?_
  refine P_getf (q := 15) fX11_20 kM306 rfl (by decide +kernel) ?_
  refine P_aload_n (n := 1) (q := 16) rfl rfl (by decide +kernel) ?_
  refine B_alen (q := 17) k1 rfl (by decide) n1 rfl (by decide +kernel) ?_
  refine P_iadd (q := 18) rfl (by decide +kernel) ?_
  refine P_putI (q := 21) wX11_20 (fun h => by cases h) kM306 rfl (by decide +kernel) ?_
  refine P_aload_n (n := 0) (q := 22) rfl rfl (by decide +kernel) ?_
  refine P_aload_n (n := 0) (q := 23) rfl rfl (by decide +kernel) ?_
  refine P_getf (q := 26) fX11_20 kM306 rfl (by decide +kernel) ?_
  refine P_putI (q := 29) wX11_34 (fun h => by cases h) kM306 rfl (by decide +kernel) ?_
  refine P_iconst (n := 1) (q := 30) rfl (by decide +kernel) ?_
  refine P_zret rfl (Or.inr rfl) (by decide +kernel) h
theorem S_X11_takesBack_0 {X : CX} {d : Nat} {I R : PF} {Q : PV → PF → PF → Prop} (h : PN X d mX11_takesBack 2 [(2, 306), (0, 0)] [] I R Q) : PN X d mX11_takesBack 0 [(2, 306)] [] I R Q := by
  refine P_iconst (n := 0) (q := 1) rfl (by decide +kernel) ?_
  refine P_istore_n (n := 1) (by decide) (q := 2) rfl (by decide +kernel) ?_
  exact h
theorem S_X11_takesBack_2 {X : CX} {d : Nat} {x1 : Int} {I R : PF} {Q : PV → PF → PF → Prop} (c1 : -2147483648 ≤ x1 ∧ x1 < 2147483648) (h1 : 33 ≤ x1 → PN X d mX11_takesBack 26 [(2, 306)] [] I R Q) (h2 : x1 < 33 → PN X d mX11_takesBack 8 [(2, 306), (0, x1)] [] I R Q) : PN X d mX11_takesBack 2 [(2, 306), (0, x1)] [] I R Q := by
  refine P_iload_n (n := 1) (q := 3) rfl rfl (by decide +kernel) ?_
  refine P_bipush (n := 33) (q := 5) rfl rfl (by decide +kernel) ?_
  refine B_icmp_ge (off := 21) (t := 26) (q := 8) c1 ⟨by decide, by decide⟩ (by decide) rfl (by decide +kernel) ?_ ?_
  · exact fun g9 => (PW_sub (ls' := [(2, 306)]) ⟨Or.inr rfl, trivial⟩ (h1 g9))
  · exact fun g9 => (h2 g9)
theorem S_X11_takesBack_8 {X : CX} {d : Nat} {x1 : Int} {I R : PF} {Q : PV → PF → PF → Prop} (hs : Shp R) (b1 : (0 : Int) ≤ x1 ∧ x1 < 33) (b2 : (0 : Int) ≤ x1 ∧ x1 < 154) (h : PN X d mX11_takesBack 2 [(2, 306), (0, (x1 + 1))] [] (u2 I 348 x1 (I 349 x1)) R Q) : PN X d mX11_takesBack 8 [(2, 306), (0, x1)] [] I R Q := by
  refine P_aload_n (n := 0) (q := 9) rfl rfl (by decide +kernel) ?_
  refine B_getfR (q := 12) fX11_303 kM306 (rM306_59 hs) rfl (by decide +kernel) ?_
  refine P_iload_n (n := 1) (q := 13) rfl rfl (by decide +kernel) ?_
  refine P_aload_n (n := 0) (q := 14) rfl rfl (by decide +kernel) ?_
  refine B_getfR (q := 17) fX11_317 kM306 (rM306_60 hs) rfl (by decide +kernel) ?_
  refine P_iload_n (n := 1) (q := 18) rfl rfl (by decide +kernel) ?_
  refine B_iaload (q := 19) kM349 nM349 (by decide) b1 rfl (by decide +kernel) ?_
  refine B_iastore (q := 20) kM348 nM348 (by decide) b2 rfl (by decide +kernel) ?_
  refine P_iinc (n := 1) (a := 1) (by decide) rfl (q := 23) rfl (by decide +kernel) ?_
  refine P_goto (off := (-21)) (t := 2) (by decide) (by decide +kernel) ?_
  exact h
theorem S_X11_takesBack_26 {X : CX} {d : Nat} {I R : PF} {Q : PV → PF → PF → Prop} (h : Q (9, 0) (u2 I 306 72 0) R) : PN X d mX11_takesBack 26 [(2, 306)] [] I R Q := by
  refine P_aload_n (n := 0) (q := 27) rfl rfl (by decide +kernel) ?_
  refine P_iconst (n := 0) (q := 28) rfl (by decide +kernel) ?_
  refine P_putZ (q := 31) wX11_522 (fun h => by cases h) (Or.inl rfl) kM306 rfl (by decide +kernel) ?_
  refine P_vret rfl (by decide +kernel) h
theorem S_X11_takesSign_0 {X : CX} {d : Nat} {x1 : Int} {I R : PF} {Q : PV → PF → PF → Prop} (c1 : -2147483648 ≤ (I 306 5) ∧ (I 306 5) < 2147483648) (h1 : (I 306 5) ≠ 0 → PN X d mX11_takesSign 15 [] [] I R Q) (h2 : (I 306 5) = 0 → PN X d mX11_takesSign 7 [(2, 306), (0, x1)] [] I R Q) : PN X d mX11_takesSign 0 [(2, 306), (0, x1)] [] I R Q := by
  refine P_aload_n (n := 0) (q := 1) rfl rfl (by decide +kernel) ?_
  refine P_getf (q := 4) fX11_14 kM306 rfl (by decide +kernel) ?_
  refine B_if_ne (off := 11) (t := 15) (q := 7) c1 (by decide) rfl (by decide +kernel) ?_ ?_
  · exact fun g9 => (PW_sub (ls' := []) trivial (h1 g9))
  · exact fun g9 => (h2 g9)
theorem S_X11_takesSign_7 {X : CX} {d d1 : Nat} {x1 : Int} {I R : PF} {Q Q1 : PV → PF → PF → Prop} (e1 : d1 + 1 ≤ d) (hc : CN X d1 mX11_look [(2, 306)] I R Q1) (h : ∀ z I2 R2, Q1 (0, z) I2 R2 → PN X d mX11_takesSign 11 [(2, 306), (0, x1)] [(0, z)] I2 R2 Q) : PN X d mX11_takesSign 7 [(2, 306), (0, x1)] [] I R Q := by
  refine P_aload_n (n := 0) (q := 8) rfl rfl (by decide +kernel) ?_
  refine P_invV (As := []) (q := 11) oX11_look rfl kM306 kX11_26 e1 hMF (Nat.le_of_ble_eq_true rfl) hc rfl (by decide +kernel) (fun z I2 R2 hq => ?_)
  exact (h z I2 R2 hq)
theorem S_X11_takesSign_11 {X : CX} {d : Nat} {x1 o0 : Int} {I R : PF} {Q : PV → PF → PF → Prop} (c1 : -2147483648 ≤ o0 ∧ o0 < 2147483648) (c2 : -2147483648 ≤ x1 ∧ x1 < 2147483648) (h1 : o0 = x1 → PN X d mX11_takesSign 17 [(2, 306)] [] I R Q) (h2 : o0 ≠ x1 → PN X d mX11_takesSign 15 [] [] I R Q) : PN X d mX11_takesSign 11 [(2, 306), (0, x1)] [(0, o0)] I R Q := by
  refine P_iload_n (n := 1) (q := 12) rfl rfl (by decide +kernel) ?_
  refine B_icmp_eq (off := 5) (t := 17) (q := 15) c1 c2 (by decide) rfl (by decide +kernel) ?_ ?_
  · exact fun g9 => (PW_sub (ls' := [(2, 306)]) ⟨Or.inr rfl, trivial⟩ (h1 g9))
  · exact fun g9 => (PW_sub (ls' := []) trivial (h2 g9))
theorem S_X11_takesSign_15 {X : CX} {d : Nat} {I R : PF} {Q : PV → PF → PF → Prop} (h : Q (0, 0) I R) : PN X d mX11_takesSign 15 [] [] I R Q := by
  refine P_iconst (n := 0) (q := 16) rfl (by decide +kernel) ?_
  refine P_zret rfl (Or.inl rfl) (by decide +kernel) h
theorem S_X11_takesSign_17 {X : CX} {d : Nat} {I R : PF} {Q : PV → PF → PF → Prop} (h : Q (0, 1) (u2 I 306 2 ((I 306 2) + 1)) R) : PN X d mX11_takesSign 17 [(2, 306)] [] I R Q := by
  refine P_aload_n (n := 0) (q := 18) rfl rfl (by decide +kernel) ?_
  refine P_dup (q := 19) (Nat.ne_of_beq_eq_false rfl) rfl (by decide +kernel) ?_
  refine P_getf (q := 22) fX11_20 kM306 rfl (by decide +kernel) ?_
  refine P_iconst (n := 1) (q := 23) rfl (by decide +kernel) ?_
  refine P_iadd (q := 24) rfl (by decide +kernel) ?_
  refine P_putI (q := 27) wX11_20 (fun h => by cases h) kM306 rfl (by decide +kernel) ?_
  refine P_iconst (n := 1) (q := 28) rfl (by decide +kernel) ?_
  refine P_zret rfl (Or.inr rfl) (by decide +kernel) h
theorem S_X11_tallOf_0 {X : CX} {d : Nat} {x1 : Int} {I R : PF} {Q : PV → PF → PF → Prop} (hs : Shp R) (b1 : (0 : Int) ≤ (24 + (4 * x1)) ∧ (24 + (4 * x1)) < 48) (h : Q (0, (I 342 (24 + (4 * x1)))) I R) : PN X d mX11_tallOf 0 [(2, 306), (0, x1)] [] I R Q := by
  refine P_aload_n (n := 0) (q := 1) rfl rfl (by decide +kernel) ?_
  refine B_getfR (q := 4) fX11_226 kM306 (rM306_45 hs) rfl (by decide +kernel) ?_
  refine P_bipush (n := 24) (q := 6) rfl rfl (by decide +kernel) ?_
  refine P_iconst (n := 4) (q := 7) rfl (by decide +kernel) ?_
  refine P_iload_n (n := 1) (q := 8) rfl rfl (by decide +kernel) ?_
  refine P_imul (q := 9) rfl (by decide +kernel) ?_
  refine P_iadd (q := 10) rfl (by decide +kernel) ?_
  refine B_iaload (q := 11) kM342 nM342 (by decide) b1 rfl (by decide +kernel) ?_
  refine P_iret rfl (by decide +kernel) h
theorem S_X11_termsOf_0 {X : CX} {d : Nat} {x1 : Int} {I R : PF} {Q : PV → PF → PF → Prop} (hs : Shp R) (c1 : -2147483648 ≤ (I 348 1) ∧ (I 348 1) < 2147483648) (c2 : -2147483648 ≤ x1 ∧ x1 < 2147483648) (h1 : (I 348 1) ≠ x1 → PN X d mX11_termsOf 19 [] [] I R Q) (h2 : (I 348 1) = x1 → PN X d mX11_termsOf 10 [(2, 306)] [] I R Q) : PN X d mX11_termsOf 0 [(2, 306), (0, x1)] [] I R Q := by
  refine P_aload_n (n := 0) (q := 1) rfl rfl (by decide +kernel) ?_
  refine B_getfR (q := 4) fX11_303 kM306 (rM306_59 hs) rfl (by decide +kernel) ?_
  refine P_iconst (n := 1) (q := 5) rfl (by decide +kernel) ?_
  refine B_iaload (q := 6) kM348 nM348 (by decide) ⟨by decide, by decide⟩ rfl (by decide +kernel) ?_
  refine P_iload_n (n := 1) (q := 7) rfl rfl (by decide +kernel) ?_
  refine B_icmp_ne (off := 12) (t := 19) (q := 10) c1 c2 (by decide) rfl (by decide +kernel) ?_ ?_
  · exact fun g9 => (PW_sub (ls' := []) trivial (h1 g9))
  · exact fun g9 => (PW_sub (ls' := [(2, 306)]) ⟨Or.inr rfl, trivial⟩ (h2 g9))
theorem S_X11_termsOf_10 {X : CX} {d : Nat} {I R : PF} {Q : PV → PF → PF → Prop} (hs : Shp R) (h : PN X d mX11_termsOf 20 [] [(0, (I 348 2))] I R Q) : PN X d mX11_termsOf 10 [(2, 306)] [] I R Q := by
  refine P_aload_n (n := 0) (q := 11) rfl rfl (by decide +kernel) ?_
  refine B_getfR (q := 14) fX11_303 kM306 (rM306_59 hs) rfl (by decide +kernel) ?_
  refine P_iconst (n := 2) (q := 15) rfl (by decide +kernel) ?_
  refine B_iaload (q := 16) kM348 nM348 (by decide) ⟨by decide, by decide⟩ rfl (by decide +kernel) ?_
  refine P_goto (off := 4) (t := 20) (by decide) (by decide +kernel) ?_
  exact (PW_sub (ls' := []) trivial h)
theorem S_X11_termsOf_19 {X : CX} {d : Nat} {I R : PF} {Q : PV → PF → PF → Prop} (h : PN X d mX11_termsOf 20 [] [(0, 0)] I R Q) : PN X d mX11_termsOf 19 [] [] I R Q := by
  refine P_iconst (n := 0) (q := 20) rfl (by decide +kernel) ?_
  exact (PW_sub (ls' := []) trivial h)
theorem S_X11_termsOf_20 {X : CX} {d : Nat} {o0 : Int} {I R : PF} {Q : PV → PF → PF → Prop} (h : Q (0, o0) I R) : PN X d mX11_termsOf 20 [] [(0, o0)] I R Q := by
  refine P_iret rfl (by decide +kernel) h
theorem S_X11_toss_0 {X : CX} {d : Nat} {x1 x2 x3 : Int} {I R : PF} {Q : PV → PF → PF → Prop} (c1 : -2147483648 ≤ (I 306 55) ∧ (I 306 55) < 2147483648) (h1 : (I 306 55) = 0 → PN X d mX11_toss 43 [] [] I R Q) (h2 : (I 306 55) ≠ 0 → PN X d mX11_toss 7 [(2, 306), (0, x1), (0, x2), (0, x3)] [] I R Q) : PN X d mX11_toss 0 [(2, 306), (0, x1), (0, x2), (0, x3)] [] I R Q := by
  refine P_aload_n (n := 0) (q := 1) rfl rfl (by decide +kernel) ?_
  refine P_getf (q := 4) fX11_296 kM306 rfl (by decide +kernel) ?_
  refine B_if_eq (off := 39) (t := 43) (q := 7) c1 (by decide) rfl (by decide +kernel) ?_ ?_
  · exact fun g9 => (PW_sub (ls' := []) trivial (h1 g9))
  · exact fun g9 => (h2 g9)
theorem S_X11_toss_7 {X : CX} {d d1 : Nat} {x1 x2 x3 : Int} {I R : PF} {Q Q1 : PV → PF → PF → Prop} (c1 : -2147483648 ≤ x1 ∧ x1 < 2147483648) (e1 : d1 + 1 ≤ d) (hc : CN X d1 mX11_isIn [(1, x1), (1, 0), (1, 8)] I R Q1) (h : ∀ z I2 R2, Q1 (0, z) I2 R2 → PN X d mX11_toss 16 [(2, 306), (0, x1), (0, x2), (0, x3)] [(0, z)] I2 R2 Q) : PN X d mX11_toss 7 [(2, 306), (0, x1), (0, x2), (0, x3)] [] I R Q := by
  refine P_iload_n (n := 1) (q := 8) rfl rfl (by decide +kernel) ?_
  refine B_i2l (q := 9) c1 rfl (by decide +kernel) ?_
  refine P_lconst (n := 0) (x := 0) (q := 10) rfl rfl (by decide +kernel) ?_
  refine P_ldc2 (ix := 541) (v := 8) (x := 8) (q := 13) rfl (tGp8 48 rfl rfl) rfl (by decide +kernel) ?_
  refine P_invS (As := [(1, x1), (1, 0), (1, 8)]) (q := 16) oX11_isIn rfl (Or.inl kX11_57) e1 hMF (Nat.le_of_ble_eq_true rfl) hc rfl (by decide +kernel) (fun z I2 R2 hq => ?_)
  exact (h z I2 R2 hq)
theorem S_X11_toss_16 {X : CX} {d : Nat} {x1 x2 x3 o0 : Int} {I R : PF} {Q : PV → PF → PF → Prop} (c1 : -2147483648 ≤ o0 ∧ o0 < 2147483648) (h1 : o0 = 0 → PN X d mX11_toss 43 [] [] I R Q) (h2 : o0 ≠ 0 → PN X d mX11_toss 19 [(2, 306), (0, x1), (0, x2), (0, x3)] [] I R Q) : PN X d mX11_toss 16 [(2, 306), (0, x1), (0, x2), (0, x3)] [(0, o0)] I R Q := by
  refine B_if_eq (off := 27) (t := 43) (q := 19) c1 (by decide) rfl (by decide +kernel) ?_ ?_
  · exact fun g9 => (PW_sub (ls' := []) trivial (h1 g9))
  · exact fun g9 => (h2 g9)
theorem S_X11_toss_19 {X : CX} {d d1 : Nat} {x1 x2 x3 : Int} {I R : PF} {Q Q1 : PV → PF → PF → Prop} (c1 : -2147483648 ≤ x2 ∧ x2 < 2147483648) (e1 : d1 + 1 ≤ d) (hc : CN X d1 mX11_isIn [(1, x2), (1, 0), (1, 3)] I R Q1) (h : ∀ z I2 R2, Q1 (0, z) I2 R2 → PN X d mX11_toss 28 [(2, 306), (0, x1), (0, x2), (0, x3)] [(0, z)] I2 R2 Q) : PN X d mX11_toss 19 [(2, 306), (0, x1), (0, x2), (0, x3)] [] I R Q := by
  refine P_iload_n (n := 2) (q := 20) rfl rfl (by decide +kernel) ?_
  refine B_i2l (q := 21) c1 rfl (by decide +kernel) ?_
  refine P_lconst (n := 0) (x := 0) (q := 22) rfl rfl (by decide +kernel) ?_
  refine P_ldc2 (ix := 543) (v := 3) (x := 3) (q := 25) rfl (tGp8 49 rfl rfl) rfl (by decide +kernel) ?_
  refine P_invS (As := [(1, x2), (1, 0), (1, 3)]) (q := 28) oX11_isIn rfl (Or.inl kX11_57) e1 hMF (Nat.le_of_ble_eq_true rfl) hc rfl (by decide +kernel) (fun z I2 R2 hq => ?_)
  exact (h z I2 R2 hq)
theorem S_X11_toss_28 {X : CX} {d : Nat} {x1 x2 x3 o0 : Int} {I R : PF} {Q : PV → PF → PF → Prop} (c1 : -2147483648 ≤ o0 ∧ o0 < 2147483648) (h1 : o0 = 0 → PN X d mX11_toss 43 [] [] I R Q) (h2 : o0 ≠ 0 → PN X d mX11_toss 31 [(2, 306), (0, x1), (0, x2), (0, x3)] [] I R Q) : PN X d mX11_toss 28 [(2, 306), (0, x1), (0, x2), (0, x3)] [(0, o0)] I R Q := by
  refine B_if_eq (off := 15) (t := 43) (q := 31) c1 (by decide) rfl (by decide +kernel) ?_ ?_
  · exact fun g9 => (PW_sub (ls' := []) trivial (h1 g9))
  · exact fun g9 => (h2 g9)
theorem S_X11_toss_31 {X : CX} {d d1 : Nat} {x1 x2 x3 : Int} {I R : PF} {Q Q1 : PV → PF → PF → Prop} (c1 : -2147483648 ≤ x3 ∧ x3 < 2147483648) (e1 : d1 + 1 ≤ d) (hc : CN X d1 mX11_isIn [(1, x3), (1, 0), (1, 3)] I R Q1) (h : ∀ z I2 R2, Q1 (0, z) I2 R2 → PN X d mX11_toss 40 [(2, 306), (0, x1), (0, x2), (0, x3)] [(0, z)] I2 R2 Q) : PN X d mX11_toss 31 [(2, 306), (0, x1), (0, x2), (0, x3)] [] I R Q := by
  refine P_iload_n (n := 3) (q := 32) rfl rfl (by decide +kernel) ?_
  refine B_i2l (q := 33) c1 rfl (by decide +kernel) ?_
  refine P_lconst (n := 0) (x := 0) (q := 34) rfl rfl (by decide +kernel) ?_
  refine P_ldc2 (ix := 543) (v := 3) (x := 3) (q := 37) rfl (tGp8 49 rfl rfl) rfl (by decide +kernel) ?_
  refine P_invS (As := [(1, x3), (1, 0), (1, 3)]) (q := 40) oX11_isIn rfl (Or.inl kX11_57) e1 hMF (Nat.le_of_ble_eq_true rfl) hc rfl (by decide +kernel) (fun z I2 R2 hq => ?_)
  exact (h z I2 R2 hq)
theorem S_X11_toss_40 {X : CX} {d : Nat} {x1 x2 x3 o0 : Int} {I R : PF} {Q : PV → PF → PF → Prop} (c1 : -2147483648 ≤ o0 ∧ o0 < 2147483648) (h1 : o0 ≠ 0 → PN X d mX11_toss 45 [(2, 306), (0, x1), (0, x2), (0, x3)] [] I R Q) (h2 : o0 = 0 → PN X d mX11_toss 43 [] [] I R Q) : PN X d mX11_toss 40 [(2, 306), (0, x1), (0, x2), (0, x3)] [(0, o0)] I R Q := by
  refine B_if_ne (off := 5) (t := 45) (q := 43) c1 (by decide) rfl (by decide +kernel) ?_ ?_
  · exact fun g9 => (h1 g9)
  · exact fun g9 => (PW_sub (ls' := []) trivial (h2 g9))
theorem S_X11_toss_43 {X : CX} {d : Nat} {I R : PF} {Q : PV → PF → PF → Prop} (h : Q (0, (-1)) I R) : PN X d mX11_toss 43 [] [] I R Q := by
  refine P_iconst (n := (-1)) (q := 44) rfl (by decide +kernel) ?_
  refine P_iret rfl (by decide +kernel) h
theorem S_X11_toss_45 {X : CX} {d d1 : Nat} {x1 x2 x3 : Int} {I R : PF} {Q Q1 : PV → PF → PF → Prop} (hs : Shp R) (e1 : d1 + 1 ≤ d) (hc : CN X d1 mX11_tosses [(2, 306), (0, x1), (0, x2), (0, (I 348 0))] I R Q1) (h : ∀ z I2 R2, Q1 (9, z) I2 R2 → PN X d mX11_toss 57 [(2, 306), (9, 0), (9, 0), (0, x3)] [] I2 R2 Q) : PN X d mX11_toss 45 [(2, 306), (0, x1), (0, x2), (0, x3)] [] I R Q := by
  refine P_aload_n (n := 0) (q := 46) rfl rfl (by decide +kernel) ?_
  refine P_iload_n (n := 1) (q := 47) rfl rfl (by decide +kernel) ?_
  refine P_iload_n (n := 2) (q := 48) rfl rfl (by decide +kernel) ?_
  refine P_aload_n (n := 0) (q := 49) rfl rfl (by decide +kernel) ?_
  refine B_getfR (q := 52) fX11_303 kM306 (rM306_59 hs) rfl (by decide +kernel) ?_
  refine P_iconst (n := 0) (q := 53) rfl (by decide +kernel) ?_
  refine B_iaload (q := 54) kM348 nM348 (by decide) ⟨by decide, by decide⟩ rfl (by decide +kernel) ?_
  refine P_invV (As := [(0, x1), (0, x2), (0, (I 348 0))]) (q := 57) oX11_tosses rfl kM306 kX11_545 e1 hMF (Nat.le_of_ble_eq_true rfl) hc rfl (by decide +kernel) (fun z I2 R2 hq => ?_)
  exact (PW_sub (ls' := [(2, 306), (9, 0), (9, 0), (0, x3)]) ⟨Or.inr rfl, Or.inl rfl, Or.inl rfl, Or.inr rfl, trivial⟩ (h z I2 R2 hq))
theorem S_X11_toss_57 {X : CX} {d : Nat} {x3 : Int} {I R : PF} {Q : PV → PF → PF → Prop} (c1 : -2147483648 ≤ x3 ∧ x3 < 2147483648) (h1 : x3 ≠ 0 → PN X d mX11_toss 68 [(2, 306), (9, 0), (9, 0), (0, x3)] [] I R Q) (h2 : x3 = 0 → PN X d mX11_toss 61 [(2, 306)] [] I R Q) : PN X d mX11_toss 57 [(2, 306), (9, 0), (9, 0), (0, x3)] [] I R Q := by
  refine P_iload_n (n := 3) (q := 58) rfl rfl (by decide +kernel) ?_
  refine B_if_ne (off := 10) (t := 68) (q := 61) c1 (by decide) rfl (by decide +kernel) ?_ ?_
  · exact fun g9 => (h1 g9)
  · exact fun g9 => (PW_sub (ls' := [(2, 306)]) ⟨Or.inr rfl, trivial⟩ (h2 g9))
theorem S_X11_toss_61 {X : CX} {d : Nat} {I R : PF} {Q : PV → PF → PF → Prop} (h : PN X d mX11_toss 96 [] [(0, (I 306 69))] I R Q) : PN X d mX11_toss 61 [(2, 306)] [] I R Q := by
  refine P_aload_n (n := 0) (q := 62) rfl rfl (by decide +kernel) ?_
  refine P_getf (q := 65) fX11_485 kM306 rfl (by decide +kernel) ?_
  refine P_goto (off := 31) (t := 96) (by decide) (by decide +kernel) ?_
  exact (PW_sub (ls' := []) trivial h)
theorem S_X11_toss_68 {X : CX} {d : Nat} {x3 : Int} {I R : PF} {Q : PV → PF → PF → Prop} (c1 : -2147483648 ≤ x3 ∧ x3 < 2147483648) (h1 : x3 ≠ 1 → PN X d mX11_toss 80 [(2, 306), (9, 0), (9, 0), (0, x3)] [] I R Q) (h2 : x3 = 1 → PN X d mX11_toss 73 [(2, 306)] [] I R Q) : PN X d mX11_toss 68 [(2, 306), (9, 0), (9, 0), (0, x3)] [] I R Q := by
  refine P_iload_n (n := 3) (q := 69) rfl rfl (by decide +kernel) ?_
  refine P_iconst (n := 1) (q := 70) rfl (by decide +kernel) ?_
  refine B_icmp_ne (off := 10) (t := 80) (q := 73) c1 ⟨by decide, by decide⟩ (by decide) rfl (by decide +kernel) ?_ ?_
  · exact fun g9 => (h1 g9)
  · exact fun g9 => (PW_sub (ls' := [(2, 306)]) ⟨Or.inr rfl, trivial⟩ (h2 g9))
theorem S_X11_toss_73 {X : CX} {d : Nat} {I R : PF} {Q : PV → PF → PF → Prop} (h : PN X d mX11_toss 96 [] [(0, (I 306 70))] I R Q) : PN X d mX11_toss 73 [(2, 306)] [] I R Q := by
  refine P_aload_n (n := 0) (q := 74) rfl rfl (by decide +kernel) ?_
  refine P_getf (q := 77) fX11_488 kM306 rfl (by decide +kernel) ?_
  refine P_goto (off := 19) (t := 96) (by decide) (by decide +kernel) ?_
  exact (PW_sub (ls' := []) trivial h)
theorem S_X11_toss_80 {X : CX} {d : Nat} {x3 : Int} {I R : PF} {Q : PV → PF → PF → Prop} (c1 : -2147483648 ≤ x3 ∧ x3 < 2147483648) (h1 : x3 ≠ 2 → PN X d mX11_toss 92 [(2, 306)] [] I R Q) (h2 : x3 = 2 → PN X d mX11_toss 85 [(2, 306)] [] I R Q) : PN X d mX11_toss 80 [(2, 306), (9, 0), (9, 0), (0, x3)] [] I R Q := by
  refine P_iload_n (n := 3) (q := 81) rfl rfl (by decide +kernel) ?_
  refine P_iconst (n := 2) (q := 82) rfl (by decide +kernel) ?_
  refine B_icmp_ne (off := 10) (t := 92) (q := 85) c1 ⟨by decide, by decide⟩ (by decide) rfl (by decide +kernel) ?_ ?_
  · exact fun g9 => (PW_sub (ls' := [(2, 306)]) ⟨Or.inr rfl, trivial⟩ (h1 g9))
  · exact fun g9 => (PW_sub (ls' := [(2, 306)]) ⟨Or.inr rfl, trivial⟩ (h2 g9))
theorem S_X11_toss_85 {X : CX} {d : Nat} {I R : PF} {Q : PV → PF → PF → Prop} (h : PN X d mX11_toss 96 [] [(0, (I 306 64))] I R Q) : PN X d mX11_toss 85 [(2, 306)] [] I R Q := by
  refine P_aload_n (n := 0) (q := 86) rfl rfl (by decide +kernel) ?_
  refine P_getf (q := 89) fX11_437 kM306 rfl (by decide +kernel) ?_
  refine P_goto (off := 7) (t := 96) (by decide) (by decide +kernel) ?_
  exact (PW_sub (ls' := []) trivial h)
theorem S_X11_toss_92 {X : CX} {d : Nat} {I R : PF} {Q : PV → PF → PF → Prop} (h : PN X d mX11_toss 96 [] [(0, (I 306 65))] I R Q) : PN X d mX11_toss 92 [(2, 306)] [] I R Q := by
  refine P_aload_n (n := 0) (q := 93) rfl rfl (by decide +kernel) ?_
  refine P_getf (q := 96) fX11_447 kM306 rfl (by decide +kernel) ?_
  exact (PW_sub (ls' := []) trivial h)
theorem S_X11_toss_96 {X : CX} {d : Nat} {o0 : Int} {I R : PF} {Q : PV → PF → PF → Prop} (h : Q (0, o0) I R) : PN X d mX11_toss 96 [] [(0, o0)] I R Q := by
  refine P_iret rfl (by decide +kernel) h
theorem S_X11_tosses_0 {X : CX} {d d1 : Nat} {x1 x2 x3 : Int} {I R : PF} {Q Q1 : PV → PF → PF → Prop} (e1 : d1 + 1 ≤ d) (hc : CN X d1 mX11_goes [(2, 306), (0, x1), (0, x2), (0, x3), (0, 0)] I R Q1) (h : ∀ z I2 R2, Q1 (9, z) I2 R2 → PN X d mX11_tosses 8 [] [] I2 R2 Q) : PN X d mX11_tosses 0 [(2, 306), (0, x1), (0, x2), (0, x3)] [] I R Q := by
  refine P_aload_n (n := 0) (q := 1) rfl rfl (by decide +kernel) ?_
  refine P_iload_n (n := 1) (q := 2) rfl rfl (by decide +kernel) ?_
  refine P_iload_n (n := 2) (q := 3) rfl rfl (by decide +kernel) ?_
  refine P_iload_n (n := 3) (q := 4) rfl rfl (by decide +kernel) ?_
  refine P_iconst (n := 0) (q := 5) rfl (by decide +kernel) ?_
  refine P_invV (As := [(0, x1), (0, x2), (0, x3), (0, 0)]) (q := 8) oX11_goes rfl kM306 kX11_515 e1 hMF (Nat.le_of_ble_eq_true rfl) hc rfl (by decide +kernel) (fun z I2 R2 hq => ?_)
  exact (PW_sub (ls' := []) trivial (h z I2 R2 hq))
theorem S_X11_tosses_8 {X : CX} {d : Nat} {I R : PF} {Q : PV → PF → PF → Prop} (h : Q (9, 0) I R) : PN X d mX11_tosses 8 [] [] I R Q := by
  refine P_vret rfl (by decide +kernel) h
theorem S_X11_train_0 {X : CX} {d d1 : Nat} {x1 x2 x3 : Int} {I R : PF} {Q Q1 : PV → PF → PF → Prop} (e1 : d1 + 1 ≤ d) (hc : CN X d1 mX11_isPerson [(2, 306), (0, x1)] I R Q1) (h : ∀ z I2 R2, Q1 (0, z) I2 R2 → PN X d mX11_train 14 [(2, 306), (9, 0), (0, x2), (0, x3), (0, ((3 + (5 * x1)) + 2))] [(0, z)] I2 R2 Q) : PN X d mX11_train 0 [(2, 306), (0, x1), (0, x2), (0, x3)] [] I R Q := by
  refine P_iconst (n := 3) (q := 1) rfl (by decide +kernel) ?_
  refine P_iconst (n := 5) (q := 2) rfl (by decide +kernel) ?_
  refine P_iload_n (n := 1) (q := 3) rfl rfl (by decide +kernel) ?_
  refine P_imul (q := 4) rfl (by decide +kernel) ?_
  refine P_iadd (q := 5) rfl (by decide +kernel) ?_
  refine P_iconst (n := 2) (q := 6) rfl (by decide +kernel) ?_
  refine P_iadd (q := 7) rfl (by decide +kernel) ?_
  refine P_istore (n := 4) (by decide) (q := 9) rfl (by decide +kernel) ?_
  refine P_aload_n (n := 0) (q := 10) rfl rfl (by decide +kernel) ?_
  refine P_iload_n (n := 1) (q := 11) rfl rfl (by decide +kernel) ?_
  refine P_invV (As := [(0, x1)]) (q := 14) oX11_isPerson rfl kM306 kX11_533 e1 hMF (Nat.le_of_ble_eq_true rfl) hc rfl (by decide +kernel) (fun z I2 R2 hq => ?_)
  exact (PW_sub (ls' := [(2, 306), (9, 0), (0, x2), (0, x3), (0, ((3 + (5 * x1)) + 2))]) ⟨Or.inr rfl, Or.inl rfl, Or.inr rfl, Or.inr rfl, Or.inr rfl, trivial⟩ (h z I2 R2 hq))
theorem S_X11_train_14 {X : CX} {d : Nat} {x2 x3 x4 o0 : Int} {I R : PF} {Q : PV → PF → PF → Prop} (c1 : -2147483648 ≤ o0 ∧ o0 < 2147483648) (h1 : o0 = 0 → PN X d mX11_train 65 [(2, 306)] [] I R Q) (h2 : o0 ≠ 0 → PN X d mX11_train 17 [(2, 306), (9, 0), (0, x2), (0, x3), (0, x4)] [] I R Q) : PN X d mX11_train 14 [(2, 306), (9, 0), (0, x2), (0, x3), (0, x4)] [(0, o0)] I R Q := by
  refine B_if_eq (off := 51) (t := 65) (q := 17) c1 (by decide) rfl (by decide +kernel) ?_ ?_
  · exact fun g9 => (PW_sub (ls' := [(2, 306)]) ⟨Or.inr rfl, trivial⟩ (h1 g9))
  · exact fun g9 => (h2 g9)
theorem S_X11_train_17 {X : CX} {d d1 : Nat} {x2 x3 x4 : Int} {I R : PF} {Q Q1 : PV → PF → PF → Prop} (c1 : -2147483648 ≤ x2 ∧ x2 < 2147483648) (e1 : d1 + 1 ≤ d) (hc : CN X d1 mX11_isIn [(1, x2), (1, 0), (1, 8)] I R Q1) (h : ∀ z I2 R2, Q1 (0, z) I2 R2 → PN X d mX11_train 26 [(2, 306), (9, 0), (0, x2), (0, x3), (0, x4)] [(0, z)] I2 R2 Q) : PN X d mX11_train 17 [(2, 306), (9, 0), (0, x2), (0, x3), (0, x4)] [] I R Q := by
  refine P_iload_n (n := 2) (q := 18) rfl rfl (by decide +kernel) ?_
  refine B_i2l (q := 19) c1 rfl (by decide +kernel) ?_
  refine P_lconst (n := 0) (x := 0) (q := 20) rfl rfl (by decide +kernel) ?_
  refine P_ldc2 (ix := 541) (v := 8) (x := 8) (q := 23) rfl (tGp8 48 rfl rfl) rfl (by decide +kernel) ?_
  refine P_invS (As := [(1, x2), (1, 0), (1, 8)]) (q := 26) oX11_isIn rfl (Or.inl kX11_57) e1 hMF (Nat.le_of_ble_eq_true rfl) hc rfl (by decide +kernel) (fun z I2 R2 hq => ?_)
  exact (h z I2 R2 hq)
theorem S_X11_train_26 {X : CX} {d : Nat} {x2 x3 x4 o0 : Int} {I R : PF} {Q : PV → PF → PF → Prop} (c1 : -2147483648 ≤ o0 ∧ o0 < 2147483648) (h1 : o0 = 0 → PN X d mX11_train 65 [(2, 306)] [] I R Q) (h2 : o0 ≠ 0 → PN X d mX11_train 29 [(2, 306), (9, 0), (0, x2), (0, x3), (0, x4)] [] I R Q) : PN X d mX11_train 26 [(2, 306), (9, 0), (0, x2), (0, x3), (0, x4)] [(0, o0)] I R Q := by
  refine B_if_eq (off := 39) (t := 65) (q := 29) c1 (by decide) rfl (by decide +kernel) ?_ ?_
  · exact fun g9 => (PW_sub (ls' := [(2, 306)]) ⟨Or.inr rfl, trivial⟩ (h1 g9))
  · exact fun g9 => (h2 g9)
theorem S_X11_train_29 {X : CX} {d d1 : Nat} {x2 x3 x4 : Int} {I R : PF} {Q Q1 : PV → PF → PF → Prop} (c1 : -2147483648 ≤ x3 ∧ x3 < 2147483648) (e1 : d1 + 1 ≤ d) (hc : CN X d1 mX11_isIn [(1, x3), (1, 0), (1, 3)] I R Q1) (h : ∀ z I2 R2, Q1 (0, z) I2 R2 → PN X d mX11_train 38 [(2, 306), (9, 0), (0, x2), (0, x3), (0, x4)] [(0, z)] I2 R2 Q) : PN X d mX11_train 29 [(2, 306), (9, 0), (0, x2), (0, x3), (0, x4)] [] I R Q := by
  refine P_iload_n (n := 3) (q := 30) rfl rfl (by decide +kernel) ?_
  refine B_i2l (q := 31) c1 rfl (by decide +kernel) ?_
  refine P_lconst (n := 0) (x := 0) (q := 32) rfl rfl (by decide +kernel) ?_
  refine P_ldc2 (ix := 543) (v := 3) (x := 3) (q := 35) rfl (tGp8 49 rfl rfl) rfl (by decide +kernel) ?_
  refine P_invS (As := [(1, x3), (1, 0), (1, 3)]) (q := 38) oX11_isIn rfl (Or.inl kX11_57) e1 hMF (Nat.le_of_ble_eq_true rfl) hc rfl (by decide +kernel) (fun z I2 R2 hq => ?_)
  exact (h z I2 R2 hq)
theorem S_X11_train_38 {X : CX} {d : Nat} {x2 x3 x4 o0 : Int} {I R : PF} {Q : PV → PF → PF → Prop} (c1 : -2147483648 ≤ o0 ∧ o0 < 2147483648) (h1 : o0 = 0 → PN X d mX11_train 65 [(2, 306)] [] I R Q) (h2 : o0 ≠ 0 → PN X d mX11_train 41 [(2, 306), (9, 0), (0, x2), (0, x3), (0, x4)] [] I R Q) : PN X d mX11_train 38 [(2, 306), (9, 0), (0, x2), (0, x3), (0, x4)] [(0, o0)] I R Q := by
  refine B_if_eq (off := 27) (t := 65) (q := 41) c1 (by decide) rfl (by decide +kernel) ?_ ?_
  · exact fun g9 => (PW_sub (ls' := [(2, 306)]) ⟨Or.inr rfl, trivial⟩ (h1 g9))
  · exact fun g9 => (h2 g9)
theorem S_X11_train_41 {X : CX} {d : Nat} {x2 x3 x4 : Int} {I R : PF} {Q : PV → PF → PF → Prop} (hs : Shp R) (b1 : (0 : Int) ≤ x4 ∧ x4 < 154) (c1 : -2147483648 ≤ (I 348 x4) ∧ (I 348 x4) < 2147483648) (c2 : -2147483648 ≤ x2 ∧ x2 < 2147483648) (h1 : (I 348 x4) ≠ x2 → PN X d mX11_train 77 [(2, 306), (9, 0), (0, x2), (0, x3), (0, x4)] [] I R Q) (h2 : (I 348 x4) = x2 → PN X d mX11_train 52 [(2, 306), (9, 0), (0, x2), (0, x3), (0, x4)] [] I R Q) : PN X d mX11_train 41 [(2, 306), (9, 0), (0, x2), (0, x3), (0, x4)] [] I R Q := by
  refine P_aload_n (n := 0) (q := 42) rfl rfl (by decide +kernel) ?_
  refine B_getfR (q := 45) fX11_303 kM306 (rM306_59 hs) rfl (by decide +kernel) ?_
  refine P_iload (n := 4) (q := 47) rfl rfl (by decide +kernel) ?_
  refine B_iaload (q := 48) kM348 nM348 (by decide) b1 rfl (by decide +kernel) ?_
  refine P_iload_n (n := 2) (q := 49) rfl rfl (by decide +kernel) ?_
  refine B_icmp_ne (off := 28) (t := 77) (q := 52) c1 c2 (by decide) rfl (by decide +kernel) ?_ ?_
  · exact fun g9 => (h1 g9)
  · exact fun g9 => (h2 g9)
theorem S_X11_train_52 {X : CX} {d : Nat} {x2 x3 x4 : Int} {I R : PF} {Q : PV → PF → PF → Prop} (hs : Shp R) (b1 : (0 : Int) ≤ (x4 + 1) ∧ (x4 + 1) < 154) (c1 : -2147483648 ≤ (I 348 (x4 + 1)) ∧ (I 348 (x4 + 1)) < 2147483648) (c2 : -2147483648 ≤ x3 ∧ x3 < 2147483648) (h1 : (I 348 (x4 + 1)) ≠ x3 → PN X d mX11_train 77 [(2, 306), (9, 0), (0, x2), (0, x3), (0, x4)] [] I R Q) (h2 : (I 348 (x4 + 1)) = x3 → PN X d mX11_train 65 [(2, 306)] [] I R Q) : PN X d mX11_train 52 [(2, 306), (9, 0), (0, x2), (0, x3), (0, x4)] [] I R Q := by
  refine P_aload_n (n := 0) (q := 53) rfl rfl (by decide +kernel) ?_
  refine B_getfR (q := 56) fX11_303 kM306 (rM306_59 hs) rfl (by decide +kernel) ?_
  refine P_iload (n := 4) (q := 58) rfl rfl (by decide +kernel) ?_
  refine P_iconst (n := 1) (q := 59) rfl (by decide +kernel) ?_
  refine P_iadd (q := 60) rfl (by decide +kernel) ?_
  refine B_iaload (q := 61) kM348 nM348 (by decide) b1 rfl (by decide +kernel) ?_
  refine P_iload_n (n := 3) (q := 62) rfl rfl (by decide +kernel) ?_
  refine B_icmp_ne (off := 15) (t := 77) (q := 65) c1 c2 (by decide) rfl (by decide +kernel) ?_ ?_
  · exact fun g9 => (h1 g9)
  · exact fun g9 => (PW_sub (ls' := [(2, 306)]) ⟨Or.inr rfl, trivial⟩ (h2 g9))
theorem S_X11_train_65 {X : CX} {d : Nat} {I R : PF} {Q : PV → PF → PF → Prop} (hs : Shp R) (h : Q (0, 0) (u2 I 308 2 ((I 308 2) + 1)) R) : PN X d mX11_train 65 [(2, 306)] [] I R Q := by
  refine P_aload_n (n := 0) (q := 66) rfl rfl (by decide +kernel) ?_
  refine B_getfR (q := 69) fX11_7 kM306 (rM306_9 hs) rfl (by decide +kernel) ?_
  refine P_iconst (n := 2) (q := 70) rfl (by decide +kernel) ?_
  refine P_dup2 (q := 71) (Nat.ne_of_beq_eq_false rfl) (Nat.ne_of_beq_eq_false rfl) rfl (by decide +kernel) ?_
  refine B_iaload (q := 72) kM308 nM308 (by decide) ⟨by decide, by decide⟩ rfl (by decide +kernel) ?_
  refine P_iconst (n := 1) (q := 73) rfl (by decide +kernel) ?_
  refine P_iadd (q := 74) rfl (by decide +kernel) ?_
  refine B_iastore (q := 75) kM308 nM308 (by decide) ⟨by decide, by decide⟩ rfl (by decide +kernel) ?_
  refine P_iconst (n := 0) (q := 76) rfl (by decide +kernel) ?_
  refine P_zret rfl (Or.inl rfl) (by decide +kernel) h
theorem S_X11_train_77 {X : CX} {d d1 : Nat} {x2 x3 x4 : Int} {I R : PF} {Q Q1 : PV → PF → PF → Prop} (e1 : d1 + 1 ≤ d) (hc : CN X d1 mX11_keeps [(2, 306)] I R Q1) (h : ∀ z I2 R2, Q1 (9, z) I2 R2 → PN X d mX11_train 81 [(2, 306), (9, 0), (0, x2), (0, x3), (0, x4)] [] I2 R2 Q) : PN X d mX11_train 77 [(2, 306), (9, 0), (0, x2), (0, x3), (0, x4)] [] I R Q := by
  refine P_aload_n (n := 0) (q := 78) rfl rfl (by decide +kernel) ?_
  refine P_invV (As := []) (q := 81) oX11_keeps rfl kM306 kX11_591 e1 hMF (Nat.le_of_ble_eq_true rfl) hc rfl (by decide +kernel) (fun z I2 R2 hq => ?_)
  exact (h z I2 R2 hq)
theorem S_X11_train_81 {X : CX} {d : Nat} {x2 x3 x4 : Int} {I R : PF} {Q : PV → PF → PF → Prop} (hs : Shp R) (b1 : (0 : Int) ≤ x4 ∧ x4 < 154) (b2 : (0 : Int) ≤ (x4 + 1) ∧ (x4 + 1) < 154) (h : Q (0, 1) (u2 (u2 I 348 x4 x2) 348 (x4 + 1) x3) R) : PN X d mX11_train 81 [(2, 306), (9, 0), (0, x2), (0, x3), (0, x4)] [] I R Q := by
  refine P_aload_n (n := 0) (q := 82) rfl rfl (by decide +kernel) ?_
  refine B_getfR (q := 85) fX11_303 kM306 (rM306_59 hs) rfl (by decide +kernel) ?_
  refine P_iload (n := 4) (q := 87) rfl rfl (by decide +kernel) ?_
  refine P_iload_n (n := 2) (q := 88) rfl rfl (by decide +kernel) ?_
  refine B_iastore (q := 89) kM348 nM348 (by decide) b1 rfl (by decide +kernel) ?_
  refine P_aload_n (n := 0) (q := 90) rfl rfl (by decide +kernel) ?_
  refine B_getfR (q := 93) fX11_303 kM306 (rM306_59 hs) rfl (by decide +kernel) ?_
  refine P_iload (n := 4) (q := 95) rfl rfl (by decide +kernel) ?_
  refine P_iconst (n := 1) (q := 96) rfl (by decide +kernel) ?_
  refine P_iadd (q := 97) rfl (by decide +kernel) ?_
  refine P_iload_n (n := 3) (q := 98) rfl rfl (by decide +kernel) ?_
  refine B_iastore (q := 99) kM348 nM348 (by decide) b2 rfl (by decide +kernel) ?_
  refine P_iconst (n := 1) (q := 100) rfl (by decide +kernel) ?_
  refine P_zret rfl (Or.inr rfl) (by decide +kernel) h
theorem S_X11_undo_0 {X : CX} {d : Nat} {I R : PF} {Q : PV → PF → PF → Prop} (c1 : -2147483648 ≤ (I 306 76) ∧ (I 306 76) < 2147483648) (h1 : (I 306 76) ≠ 0 → PN X d mX11_undo 19 [(2, 306)] [] I R Q) (h2 : (I 306 76) = 0 → PN X d mX11_undo 7 [(2, 306)] [] I R Q) : PN X d mX11_undo 0 [(2, 306)] [] I R Q := by
  refine P_aload_n (n := 0) (q := 1) rfl rfl (by decide +kernel) ?_
  refine P_getf (q := 4) fX11_306 kM306 rfl (by decide +kernel) ?_
  refine B_if_ne (off := 15) (t := 19) (q := 7) c1 (by decide) rfl (by decide +kernel) ?_ ?_
  · exact fun g9 => (h1 g9)
  · exact fun g9 => (h2 g9)
theorem S_X11_undo_7 {X : CX} {d : Nat} {I R : PF} {Q : PV → PF → PF → Prop} (hs : Shp R) (h : Q (0, 0) (u2 I 308 4 ((I 308 4) + 1)) R) : PN X d mX11_undo 7 [(2, 306)] [] I R Q := by
  refine P_aload_n (n := 0) (q := 8) rfl rfl (by decide +kernel) ?_
  refine B_getfR (q := 11) fX11_7 kM306 (rM306_9 hs) rfl (by decide +kernel) ?_
  refine P_iconst (n := 4) (q := 12) rfl (by decide +kernel) ?_
  refine P_dup2 (q := 13) (Nat.ne_of_beq_eq_false rfl) (Nat.ne_of_beq_eq_false rfl) rfl (by decide +kernel) ?_
  refine B_iaload (q := 14) kM308 nM308 (by decide) ⟨by decide, by decide⟩ rfl (by decide +kernel) ?_
  refine P_iconst (n := 1) (q := 15) rfl (by decide +kernel) ?_
  refine P_iadd (q := 16) rfl (by decide +kernel) ?_
  refine B_iastore (q := 17) kM308 nM308 (by decide) ⟨by decide, by decide⟩ rfl (by decide +kernel) ?_
  refine P_iconst (n := 0) (q := 18) rfl (by decide +kernel) ?_
  refine P_zret rfl (Or.inl rfl) (by decide +kernel) h
theorem S_X11_undo_19 {X : CX} {d : Nat} {I R : PF} {Q : PV → PF → PF → Prop} (h : PN X d mX11_undo 21 [(2, 306), (0, 0)] [] I R Q) : PN X d mX11_undo 19 [(2, 306)] [] I R Q := by
  refine P_iconst (n := 0) (q := 20) rfl (by decide +kernel) ?_
  refine P_istore_n (n := 1) (by decide) (q := 21) rfl (by decide +kernel) ?_
  exact h
theorem S_X11_undo_21 {X : CX} {d : Nat} {x1 : Int} {I R : PF} {Q : PV → PF → PF → Prop} (c1 : -2147483648 ≤ x1 ∧ x1 < 2147483648) (h1 : 154 ≤ x1 → PN X d mX11_undo 55 [(2, 306)] [] I R Q) (h2 : x1 < 154 → PN X d mX11_undo 28 [(2, 306), (0, x1)] [] I R Q) : PN X d mX11_undo 21 [(2, 306), (0, x1)] [] I R Q := by
  refine P_iload_n (n := 1) (q := 22) rfl rfl (by decide +kernel) ?_
  refine P_sipush (n := 154) (q := 25) rfl rfl (by decide +kernel) ?_
  refine B_icmp_ge (off := 30) (t := 55) (q := 28) c1 ⟨by decide, by decide⟩ (by decide) rfl (by decide +kernel) ?_ ?_
  · exact fun g9 => (PW_sub (ls' := [(2, 306)]) ⟨Or.inr rfl, trivial⟩ (h1 g9))
  · exact fun g9 => (h2 g9)
theorem S_X11_undo_28 {X : CX} {d : Nat} {x1 : Int} {I R : PF} {Q : PV → PF → PF → Prop} (hs : Shp R) (b1 : (0 : Int) ≤ ((154 * (I 306 77)) + x1) ∧ ((154 * (I 306 77)) + x1) < 3080) (b2 : (0 : Int) ≤ x1 ∧ x1 < 154) (h : PN X d mX11_undo 21 [(2, 306), (0, (x1 + 1))] [] (u2 I 348 x1 (I 354 ((154 * (I 306 77)) + x1))) R Q) : PN X d mX11_undo 28 [(2, 306), (0, x1)] [] I R Q := by
  refine P_aload_n (n := 0) (q := 29) rfl rfl (by decide +kernel) ?_
  refine B_getfR (q := 32) fX11_303 kM306 (rM306_59 hs) rfl (by decide +kernel) ?_
  refine P_iload_n (n := 1) (q := 33) rfl rfl (by decide +kernel) ?_
  refine P_aload_n (n := 0) (q := 34) rfl rfl (by decide +kernel) ?_
  refine B_getfR (q := 37) fX11_332 kM306 (rM306_75 hs) rfl (by decide +kernel) ?_
  refine P_sipush (n := 154) (q := 40) rfl rfl (by decide +kernel) ?_
  refine P_aload_n (n := 0) (q := 41) rfl rfl (by decide +kernel) ?_
  refine P_getf (q := 44) fX11_588 kM306 rfl (by decide +kernel) ?_
  refine P_imul (q := 45) rfl (by decide +kernel) ?_
  refine P_iload_n (n := 1) (q := 46) rfl rfl (by decide +kernel) ?_
  refine P_iadd (q := 47) rfl (by decide +kernel) ?_
  refine B_iaload (q := 48) kM354 nM354 (by decide) b1 rfl (by decide +kernel) ?_
  refine B_iastore (q := 49) kM348 nM348 (by decide) b2 rfl (by decide +kernel) ?_
  refine P_iinc (n := 1) (a := 1) (by decide) rfl (q := 52) rfl (by decide +kernel) ?_
  refine P_goto (off := (-31)) (t := 21) (by decide) (by decide +kernel) ?_
  exact h
theorem S_X11_undo_55 {X : CX} {d : Nat} {I R : PF} {Q : PV → PF → PF → Prop} (c1 : -2147483648 ≤ (((I 306 77) + 20) - 1) ∧ (((I 306 77) + 20) - 1) < 2147483648) (h : Q (0, 1) (u2 (u2 I 306 77 ((((I 306 77) + 20) - 1).tmod 20)) 306 76 (((u2 I 306 77 ((((I 306 77) + 20) - 1).tmod 20)) 306 76) - 1)) R) : PN X d mX11_undo 55 [(2, 306)] [] I R Q := by
  refine P_aload_n (n := 0) (q := 56) rfl rfl (by decide +kernel) ?_
  refine P_aload_n (n := 0) (q := 57) rfl rfl (by decide +kernel) ?_
  refine P_getf (q := 60) fX11_588 kM306 rfl (by decide +kernel) ?_
  refine P_bipush (n := 20) (q := 62) rfl rfl (by decide +kernel) ?_
  refine P_iadd (q := 63) rfl (by decide +kernel) ?_
  refine P_iconst (n := 1) (q := 64) rfl (by decide +kernel) ?_
  refine P_isub (q := 65) rfl (by decide +kernel) ?_
  refine P_bipush (n := 20) (q := 67) rfl rfl (by decide +kernel) ?_
  refine B_irem (q := 68) c1 ⟨by decide, by decide⟩ (by decide) rfl (by decide +kernel) ?_
  refine P_putI (q := 71) wX11_588 (fun h => by cases h) kM306 rfl (by decide +kernel) ?_
  refine P_aload_n (n := 0) (q := 72) rfl rfl (by decide +kernel) ?_
  refine P_dup (q := 73) (Nat.ne_of_beq_eq_false rfl) rfl (by decide +kernel) ?_
  refine P_getf (q := 76) fX11_306 kM306 rfl (by decide +kernel) ?_
  refine P_iconst (n := 1) (q := 77) rfl (by decide +kernel) ?_
  refine P_isub (q := 78) rfl (by decide +kernel) ?_
  refine P_putI (q := 81) wX11_306 (fun h => by cases h) kM306 rfl (by decide +kernel) ?_
  refine P_iconst (n := 1) (q := 82) rfl (by decide +kernel) ?_
  refine P_zret rfl (Or.inr rfl) (by decide +kernel) h
theorem S_X11_wallTold_0 {X : CX} {d d1 : Nat} {x1 : Int} {I R : PF} {Q Q1 : PV → PF → PF → Prop} (e1 : d1 + 1 ≤ d) (hc : CN X d1 mX11_isFull [(2, 306), (0, 2), (0, 10), (0, x1)] I R Q1) (h : ∀ z I2 R2, Q1 (0, z) I2 R2 → PN X d mX11_wallTold 8 [(2, 306)] [(0, z)] I2 R2 Q) : PN X d mX11_wallTold 0 [(2, 306), (0, x1)] [] I R Q := by
  refine P_aload_n (n := 0) (q := 1) rfl rfl (by decide +kernel) ?_
  refine P_iconst (n := 2) (q := 2) rfl (by decide +kernel) ?_
  refine P_bipush (n := 10) (q := 4) rfl rfl (by decide +kernel) ?_
  refine P_iload_n (n := 1) (q := 5) rfl rfl (by decide +kernel) ?_
  refine P_invV (As := [(0, 2), (0, 10), (0, x1)]) (q := 8) oX11_isFull rfl kM306 kX11_215 e1 hMF (Nat.le_of_ble_eq_true rfl) hc rfl (by decide +kernel) (fun z I2 R2 hq => ?_)
  exact (PW_sub (ls' := [(2, 306)]) ⟨Or.inr rfl, trivial⟩ (h z I2 R2 hq))
theorem S_X11_wallTold_8 {X : CX} {d : Nat} {o0 : Int} {I R : PF} {Q : PV → PF → PF → Prop} (c1 : -2147483648 ≤ o0 ∧ o0 < 2147483648) (h1 : o0 = 0 → PN X d mX11_wallTold 12 [(2, 306)] [] I R Q) (h2 : o0 ≠ 0 → PN X d mX11_wallTold 11 [] [] I R Q) : PN X d mX11_wallTold 8 [(2, 306)] [(0, o0)] I R Q := by
  refine B_if_eq (off := 4) (t := 12) (q := 11) c1 (by decide) rfl (by decide +kernel) ?_ ?_
  · exact fun g9 => (PW_sub (ls' := [(2, 306)]) ⟨Or.inr rfl, trivial⟩ (h1 g9))
  · exact fun g9 => (PW_sub (ls' := []) trivial (h2 g9))
theorem S_X11_wallTold_11 {X : CX} {d : Nat} {I R : PF} {Q : PV → PF → PF → Prop} (h : Q (9, 0) I R) : PN X d mX11_wallTold 11 [] [] I R Q := by
  refine P_vret rfl (by decide +kernel) h
theorem S_X11_wallTold_12 {X : CX} {d d1 : Nat} {I R : PF} {Q Q1 : PV → PF → PF → Prop} (e1 : d1 + 1 ≤ d) (hc : CN X d1 mX11_placeTold [(2, 306), (0, 1)] I R Q1) (h : ∀ z I2 R2, Q1 (9, z) I2 R2 → PN X d mX11_wallTold 17 [(2, 306)] [] I2 R2 Q) : PN X d mX11_wallTold 12 [(2, 306)] [] I R Q := by
  refine P_aload_n (n := 0) (q := 13) rfl rfl (by decide +kernel) ?_
  refine P_iconst (n := 1) (q := 14) rfl (by decide +kernel) ?_
  refine P_invV (As := [(0, 1)]) (q := 17) oX11_placeTold rfl kM306 kX11_222 e1 hMF (Nat.le_of_ble_eq_true rfl) hc rfl (by decide +kernel) (fun z I2 R2 hq => ?_)
  exact (PW_sub (ls' := [(2, 306)]) ⟨Or.inr rfl, trivial⟩ (h z I2 R2 hq))
theorem S_X11_wallTold_17 {X : CX} {d : Nat} {I R : PF} {Q : PV → PF → PF → Prop} (c1 : -2147483648 ≤ (I 306 5) ∧ (I 306 5) < 2147483648) (h1 : (I 306 5) = 0 → PN X d mX11_wallTold 25 [(2, 306)] [] I R Q) (h2 : (I 306 5) ≠ 0 → PN X d mX11_wallTold 24 [] [] I R Q) : PN X d mX11_wallTold 17 [(2, 306)] [] I R Q := by
  refine P_aload_n (n := 0) (q := 18) rfl rfl (by decide +kernel) ?_
  refine P_getf (q := 21) fX11_14 kM306 rfl (by decide +kernel) ?_
  refine B_if_eq (off := 4) (t := 25) (q := 24) c1 (by decide) rfl (by decide +kernel) ?_ ?_
  · exact fun g9 => (PW_sub (ls' := [(2, 306)]) ⟨Or.inr rfl, trivial⟩ (h1 g9))
  · exact fun g9 => (PW_sub (ls' := []) trivial (h2 g9))
theorem S_X11_wallTold_24 {X : CX} {d : Nat} {I R : PF} {Q : PV → PF → PF → Prop} (h : Q (9, 0) I R) : PN X d mX11_wallTold 24 [] [] I R Q := by
  refine P_vret rfl (by decide +kernel) h
theorem S_X11_wallTold_25 {X : CX} {d : Nat} {I R : PF} {Q : PV → PF → PF → Prop} (hs : Shp R) (b1 : (0 : Int) ≤ (2 * (I 339 2)) ∧ (2 * (I 339 2)) < 40) (b2 : (0 : Int) ≤ ((2 * ((u2 I 344 (2 * (I 339 2)) (I 306 57)) 339 2)) + 1) ∧ ((2 * ((u2 I 344 (2 * (I 339 2)) (I 306 57)) 339 2)) + 1) < 40) (h : Q (9, 0) (u2 (u2 (u2 I 344 (2 * (I 339 2)) (I 306 57)) 344 ((2 * ((u2 I 344 (2 * (I 339 2)) (I 306 57)) 339 2)) + 1) ((u2 I 344 (2 * (I 339 2)) (I 306 57)) 306 58)) 339 2 (((u2 (u2 I 344 (2 * (I 339 2)) (I 306 57)) 344 ((2 * ((u2 I 344 (2 * (I 339 2)) (I 306 57)) 339 2)) + 1) ((u2 I 344 (2 * (I 339 2)) (I 306 57)) 306 58)) 339 2) + 1)) R) : PN X d mX11_wallTold 25 [(2, 306)] [] I R Q := by
  refine P_aload_n (n := 0) (q := 26) rfl rfl (by decide +kernel) ?_
  refine B_getfR (q := 29) fX11_196 kM306 (rM306_47 hs) rfl (by decide +kernel) ?_
  refine P_iconst (n := 2) (q := 30) rfl (by decide +kernel) ?_
  refine P_aload_n (n := 0) (q := 31) rfl rfl (by decide +kernel) ?_
  refine B_getfR (q := 34) fX11_166 kM306 (rM306_42 hs) rfl (by decide +kernel) ?_
  refine P_iconst (n := 2) (q := 35) rfl (by decide +kernel) ?_
  refine B_iaload (q := 36) kM339 nM339 (by decide) ⟨by decide, by decide⟩ rfl (by decide +kernel) ?_
  refine P_imul (q := 37) rfl (by decide +kernel) ?_
  refine P_aload_n (n := 0) (q := 38) rfl rfl (by decide +kernel) ?_
  refine P_getf (q := 41) fX11_202 kM306 rfl (by decide +kernel) ?_
  refine B_iastore (q := 42) kM344 nM344 (by decide) b1 rfl (by decide +kernel) ?_
  refine P_aload_n (n := 0) (q := 43) rfl rfl (by decide +kernel) ?_
  refine B_getfR (q := 46) fX11_196 kM306 (rM306_47 hs) rfl (by decide +kernel) ?_
  refine P_iconst (n := 2) (q := 47) rfl (by decide +kernel) ?_
  refine P_aload_n (n := 0) (q := 48) rfl rfl (by decide +kernel) ?_
  refine B_getfR (q := 51) fX11_166 kM306 (rM306_42 hs) rfl (by decide +kernel) ?_
  refine P_iconst (n := 2) (q := 52) rfl (by decide +kernel) ?_
  refine B_iaload (q := 53) kM339 nM339 (by decide) ⟨by decide, by decide⟩ rfl (by decide +kernel) ?_
  refine P_imul (q := 54) rfl (by decide +kernel) ?_
  refine P_iconst (n := 1) (q := 55) rfl (by decide +kernel) ?_
  refine P_iadd (q := 56) rfl (by decide +kernel) ?_
  refine P_aload_n (n := 0) (q := 57) rfl rfl (by decide +kernel) ?_
  refine P_getf (q := 60) fX11_205 kM306 rfl (by decide +kernel) ?_
  refine B_iastore (q := 61) kM344 nM344 (by decide) b2 rfl (by decide +kernel) ?_
  refine P_aload_n (n := 0) (q := 62) rfl rfl (by decide +kernel) ?_
  refine B_getfR (q := 65) fX11_166 kM306 (rM306_42 hs) rfl (by decide +kernel) ?_
  refine P_iconst (n := 2) (q := 66) rfl (by decide +kernel) ?_
  refine P_dup2 (q := 67) (Nat.ne_of_beq_eq_false rfl) (Nat.ne_of_beq_eq_false rfl) rfl (by decide +kernel) ?_
  refine B_iaload (q := 68) kM339 nM339 (by decide) ⟨by decide, by decide⟩ rfl (by decide +kernel) ?_
  refine P_iconst (n := 1) (q := 69) rfl (by decide +kernel) ?_
  refine P_iadd (q := 70) rfl (by decide +kernel) ?_
  refine B_iastore (q := 71) kM339 nM339 (by decide) ⟨by decide, by decide⟩ rfl (by decide +kernel) ?_
  refine P_vret rfl (by decide +kernel) h
theorem S_X11_wayOf_0 {X : CX} {d : Nat} {x0 : Int} {I R : PF} {Q : PV → PF → PF → Prop} (c1 : -2147483648 ≤ (x0 + 3) ∧ (x0 + 3) < 2147483648) (h : Q (0, ((x0 + 3).tdiv 4)) I R) : PN X d mX11_wayOf 0 [(0, x0)] [] I R Q := by
  refine P_iload_n (n := 0) (q := 1) rfl rfl (by decide +kernel) ?_
  refine P_iconst (n := 3) (q := 2) rfl (by decide +kernel) ?_
  refine P_iadd (q := 3) rfl (by decide +kernel) ?_
  refine P_iconst (n := 4) (q := 4) rfl (by decide +kernel) ?_
  refine B_idiv (q := 5) c1 ⟨by decide, by decide⟩ (by decide) rfl (by decide +kernel) ?_
  refine P_iret rfl (by decide +kernel) h
theorem S_X11_wearers_0 {X : CX} {d : Nat} {x1 : Int} {I R : PF} {Q : PV → PF → PF → Prop} (h : PN X d mX11_wearers 4 [(2, 306), (0, x1), (0, 0), (0, 0)] [] I R Q) : PN X d mX11_wearers 0 [(2, 306), (0, x1)] [] I R Q := by
  refine P_iconst (n := 0) (q := 1) rfl (by decide +kernel) ?_
  refine P_istore_n (n := 2) (by decide) (q := 2) rfl (by decide +kernel) ?_
  refine P_iconst (n := 0) (q := 3) rfl (by decide +kernel) ?_
  refine P_istore_n (n := 3) (by decide) (q := 4) rfl (by decide +kernel) ?_
  exact h
theorem S_X11_wearers_4 {X : CX} {d : Nat} {x1 x2 x3 : Int} {I R : PF} {Q : PV → PF → PF → Prop} (c1 : -2147483648 ≤ x3 ∧ x3 < 2147483648) (h1 : 33 ≤ x3 → PN X d mX11_wearers 95 [(9, 0), (9, 0), (0, x2)] [] I R Q) (h2 : x3 < 33 → PN X d mX11_wearers 10 [(2, 306), (0, x1), (0, x2), (0, x3)] [] I R Q) : PN X d mX11_wearers 4 [(2, 306), (0, x1), (0, x2), (0, x3)] [] I R Q := by
  refine P_iload_n (n := 3) (q := 5) rfl rfl (by decide +kernel) ?_
  refine P_bipush (n := 33) (q := 7) rfl rfl (by decide +kernel) ?_
  refine B_icmp_ge (off := 88) (t := 95) (q := 10) c1 ⟨by decide, by decide⟩ (by decide) rfl (by decide +kernel) ?_ ?_
  · exact fun g9 => (PW_sub (ls' := [(9, 0), (9, 0), (0, x2)]) ⟨Or.inl rfl, Or.inl rfl, Or.inr rfl, trivial⟩ (h1 g9))
  · exact fun g9 => (h2 g9)
theorem S_X11_wearers_10 {X : CX} {d d1 : Nat} {x1 x2 x3 : Int} {I R : PF} {Q Q1 : PV → PF → PF → Prop} (e1 : d1 + 1 ≤ d) (hc : CN X d1 mX11_wayOf [(0, x3)] I R Q1) (h : ∀ z I2 R2, Q1 (0, z) I2 R2 → PN X d mX11_wearers 15 [(2, 306), (0, x1), (0, x2), (0, x3)] [(0, z), (2, 306)] I2 R2 Q) : PN X d mX11_wearers 10 [(2, 306), (0, x1), (0, x2), (0, x3)] [] I R Q := by
  refine P_aload_n (n := 0) (q := 11) rfl rfl (by decide +kernel) ?_
  refine P_iload_n (n := 3) (q := 12) rfl rfl (by decide +kernel) ?_
  refine P_invS (As := [(0, x3)]) (q := 15) oX11_wayOf rfl (Or.inl kX11_549) e1 hMF (Nat.le_of_ble_eq_true rfl) hc rfl (by decide +kernel) (fun z I2 R2 hq => ?_)
  exact (h z I2 R2 hq)
theorem S_X11_wearers_15 {X : CX} {d d1 : Nat} {x1 x2 x3 o1 : Int} {I R : PF} {Q Q1 : PV → PF → PF → Prop} (e1 : d1 + 1 ≤ d) (hc : CN X d1 mX11_forceOf [(0, x3)] I R Q1) (h : ∀ z I2 R2, Q1 (0, z) I2 R2 → PN X d mX11_wearers 19 [(2, 306), (0, x1), (0, x2), (0, x3)] [(0, z), (0, o1), (2, 306)] I2 R2 Q) : PN X d mX11_wearers 15 [(2, 306), (0, x1), (0, x2), (0, x3)] [(0, o1), (2, 306)] I R Q := by
  refine P_iload_n (n := 3) (q := 16) rfl rfl (by decide +kernel) ?_
  refine P_invS (As := [(0, x3)]) (q := 19) oX11_forceOf rfl (Or.inl kX11_552) e1 hMF (Nat.le_of_ble_eq_true rfl) hc rfl (by decide +kernel) (fun z I2 R2 hq => ?_)
  exact (h z I2 R2 hq)
theorem S_X11_wearers_19 {X : CX} {d d1 : Nat} {x1 x2 x3 o1 o2 : Int} {I R : PF} {Q Q1 : PV → PF → PF → Prop} (hs : Shp R) (e1 : d1 + 1 ≤ d) (hc : CN X d1 mX11_tosses [(2, 306), (0, o1), (0, o2), (0, ((I 348 0) + x1))] I R Q1) (h : ∀ z I2 R2, Q1 (9, z) I2 R2 → PN X d mX11_wearers 30 [(2, 306), (0, x1), (0, x2), (0, x3)] [] I2 R2 Q) : PN X d mX11_wearers 19 [(2, 306), (0, x1), (0, x2), (0, x3)] [(0, o2), (0, o1), (2, 306)] I R Q := by
  refine P_aload_n (n := 0) (q := 20) rfl rfl (by decide +kernel) ?_
  refine B_getfR (q := 23) fX11_303 kM306 (rM306_59 hs) rfl (by decide +kernel) ?_
  refine P_iconst (n := 0) (q := 24) rfl (by decide +kernel) ?_
  refine B_iaload (q := 25) kM348 nM348 (by decide) ⟨by decide, by decide⟩ rfl (by decide +kernel) ?_
  refine P_iload_n (n := 1) (q := 26) rfl rfl (by decide +kernel) ?_
  refine P_iadd (q := 27) rfl (by decide +kernel) ?_
  refine P_invV (As := [(0, o1), (0, o2), (0, ((I 348 0) + x1))]) (q := 30) oX11_tosses rfl kM306 kX11_545 e1 hMF (Nat.le_of_ble_eq_true rfl) hc rfl (by decide +kernel) (fun z I2 R2 hq => ?_)
  exact (h z I2 R2 hq)
theorem S_X11_wearers_30 {X : CX} {d : Nat} {x1 x2 x3 : Int} {I R : PF} {Q : PV → PF → PF → Prop} (c1 : -2147483648 ≤ (I 306 69) ∧ (I 306 69) < 2147483648) (h1 : (I 306 69) ≠ (-1) → PN X d mX11_wearers 55 [(2, 306), (0, x1), (0, x2), (0, x3)] [] I R Q) (h2 : (I 306 69) = (-1) → PN X d mX11_wearers 38 [(2, 306), (0, x1), (0, x2), (0, x3)] [] I R Q) : PN X d mX11_wearers 30 [(2, 306), (0, x1), (0, x2), (0, x3)] [] I R Q := by
  refine P_aload_n (n := 0) (q := 31) rfl rfl (by decide +kernel) ?_
  refine P_getf (q := 34) fX11_485 kM306 rfl (by decide +kernel) ?_
  refine P_iconst (n := (-1)) (q := 35) rfl (by decide +kernel) ?_
  refine B_icmp_ne (off := 20) (t := 55) (q := 38) c1 ⟨by decide, by decide⟩ (by decide) rfl (by decide +kernel) ?_ ?_
  · exact fun g9 => (h1 g9)
  · exact fun g9 => (h2 g9)
theorem S_X11_wearers_38 {X : CX} {d : Nat} {x1 x2 x3 : Int} {I R : PF} {Q : PV → PF → PF → Prop} (hs : Shp R) (b1 : (0 : Int) ≤ x1 ∧ x1 < 7) (c1 : -2147483648 ≤ (I 353 x1) ∧ (I 353 x1) < 2147483648) (h1 : (I 353 x1) ≠ 255 → PN X d mX11_wearers 55 [(2, 306), (0, x1), (0, x2), (0, x3)] [] I R Q) (h2 : (I 353 x1) = 255 → PN X d mX11_wearers 50 [(2, 306), (0, x1), (0, x2), (0, x3)] [] I R Q) : PN X d mX11_wearers 38 [(2, 306), (0, x1), (0, x2), (0, x3)] [] I R Q := by
  refine P_aload_n (n := 0) (q := 39) rfl rfl (by decide +kernel) ?_
  refine B_getfR (q := 42) fX11_329 kM306 (rM306_74 hs) rfl (by decide +kernel) ?_
  refine P_iload_n (n := 1) (q := 43) rfl rfl (by decide +kernel) ?_
  refine B_iaload (q := 44) kM353 nM353 (by decide) b1 rfl (by decide +kernel) ?_
  refine P_sipush (n := 255) (q := 47) rfl rfl (by decide +kernel) ?_
  refine B_icmp_ne (off := 8) (t := 55) (q := 50) c1 ⟨by decide, by decide⟩ (by decide) rfl (by decide +kernel) ?_ ?_
  · exact fun g9 => (h1 g9)
  · exact fun g9 => (h2 g9)
theorem S_X11_wearers_50 {X : CX} {d : Nat} {x1 x2 x3 : Int} {I R : PF} {Q : PV → PF → PF → Prop} (h : PN X d mX11_wearers 55 [(2, 306), (0, x1), (0, ((Int32.ofInt x2 ||| Int32.ofInt 64).toInt)), (0, x3)] [] I R Q) : PN X d mX11_wearers 50 [(2, 306), (0, x1), (0, x2), (0, x3)] [] I R Q := by
  refine P_iload_n (n := 2) (q := 51) rfl rfl (by decide +kernel) ?_
  refine P_bipush (n := 64) (q := 53) rfl rfl (by decide +kernel) ?_
  refine P_ior (q := 54) rfl (by decide +kernel) ?_
  refine P_istore_n (n := 2) (by decide) (q := 55) rfl (by decide +kernel) ?_
  exact h
theorem S_X11_wearers_55 {X : CX} {d : Nat} {x1 x2 x3 : Int} {I R : PF} {Q : PV → PF → PF → Prop} (c1 : -2147483648 ≤ (I 306 69) ∧ (I 306 69) < 2147483648) (h1 : (I 306 69) = (-1) → PN X d mX11_wearers 89 [(2, 306), (0, x1), (0, x2), (0, x3)] [] I R Q) (h2 : (I 306 69) ≠ (-1) → PN X d mX11_wearers 63 [(2, 306), (0, x1), (0, x2), (0, x3)] [] I R Q) : PN X d mX11_wearers 55 [(2, 306), (0, x1), (0, x2), (0, x3)] [] I R Q := by
  refine P_aload_n (n := 0) (q := 56) rfl rfl (by decide +kernel) ?_
  refine P_getf (q := 59) fX11_485 kM306 rfl (by decide +kernel) ?_
  refine P_iconst (n := (-1)) (q := 60) rfl (by decide +kernel) ?_
  refine B_icmp_eq (off := 29) (t := 89) (q := 63) c1 ⟨by decide, by decide⟩ (by decide) rfl (by decide +kernel) ?_ ?_
  · exact fun g9 => (h1 g9)
  · exact fun g9 => (h2 g9)
theorem S_X11_wearers_63 {X : CX} {d d1 : Nat} {x1 x2 x3 : Int} {I R : PF} {Q Q1 : PV → PF → PF → Prop} (e1 : d1 + 1 ≤ d) (hc : CN X d1 mX11_lawOf [(2, 306), (0, (I 306 69))] I R Q1) (h : ∀ z I2 R2, Q1 (0, z) I2 R2 → PN X d mX11_wearers 71 [(2, 306), (0, x1), (0, x2), (0, x3)] [(0, z)] I2 R2 Q) : PN X d mX11_wearers 63 [(2, 306), (0, x1), (0, x2), (0, x3)] [] I R Q := by
  refine P_aload_n (n := 0) (q := 64) rfl rfl (by decide +kernel) ?_
  refine P_aload_n (n := 0) (q := 65) rfl rfl (by decide +kernel) ?_
  refine P_getf (q := 68) fX11_485 kM306 rfl (by decide +kernel) ?_
  refine P_invV (As := [(0, (I 306 69))]) (q := 71) oX11_lawOf rfl kM306 kX11_528 e1 hMF (Nat.le_of_ble_eq_true rfl) hc rfl (by decide +kernel) (fun z I2 R2 hq => ?_)
  exact (h z I2 R2 hq)
theorem S_X11_wearers_71 {X : CX} {d : Nat} {x1 x2 x3 o0 : Int} {I R : PF} {Q : PV → PF → PF → Prop} (hs : Shp R) (b1 : (0 : Int) ≤ x1 ∧ x1 < 7) (c1 : -2147483648 ≤ o0 ∧ o0 < 2147483648) (c2 : -2147483648 ≤ (I 353 x1) ∧ (I 353 x1) < 2147483648) (h1 : o0 ≠ (I 353 x1) → PN X d mX11_wearers 89 [(2, 306), (0, x1), (0, x2), (0, x3)] [] I R Q) (h2 : o0 = (I 353 x1) → PN X d mX11_wearers 80 [(2, 306), (0, x1), (0, x2), (0, x3)] [] I R Q) : PN X d mX11_wearers 71 [(2, 306), (0, x1), (0, x2), (0, x3)] [(0, o0)] I R Q := by
  refine P_aload_n (n := 0) (q := 72) rfl rfl (by decide +kernel) ?_
  refine B_getfR (q := 75) fX11_329 kM306 (rM306_74 hs) rfl (by decide +kernel) ?_
  refine P_iload_n (n := 1) (q := 76) rfl rfl (by decide +kernel) ?_
  refine B_iaload (q := 77) kM353 nM353 (by decide) b1 rfl (by decide +kernel) ?_
  refine B_icmp_ne (off := 12) (t := 89) (q := 80) c1 c2 (by decide) rfl (by decide +kernel) ?_ ?_
  · exact fun g9 => (h1 g9)
  · exact fun g9 => (h2 g9)
theorem S_X11_wearers_80 {X : CX} {d : Nat} {x1 x2 x3 : Int} {I R : PF} {Q : PV → PF → PF → Prop} (h : PN X d mX11_wearers 89 [(2, 306), (0, x1), (0, ((Int32.ofInt x2 ||| Int32.ofInt (shl32 1 (I 306 69))).toInt)), (0, x3)] [] I R Q) : PN X d mX11_wearers 80 [(2, 306), (0, x1), (0, x2), (0, x3)] [] I R Q := by
  refine P_iload_n (n := 2) (q := 81) rfl rfl (by decide +kernel) ?_
  refine P_iconst (n := 1) (q := 82) rfl (by decide +kernel) ?_
  refine P_aload_n (n := 0) (q := 83) rfl rfl (by decide +kernel) ?_
  refine P_getf (q := 86) fX11_485 kM306 rfl (by decide +kernel) ?_
  refine P_ishl (q := 87) rfl (by decide +kernel) ?_
  refine P_ior (q := 88) rfl (by decide +kernel) ?_
  refine P_istore_n (n := 2) (by decide) (q := 89) rfl (by decide +kernel) ?_
  exact h
theorem S_X11_wearers_89 {X : CX} {d : Nat} {x1 x2 x3 : Int} {I R : PF} {Q : PV → PF → PF → Prop} (h : PN X d mX11_wearers 4 [(2, 306), (0, x1), (0, x2), (0, (x3 + 1))] [] I R Q) : PN X d mX11_wearers 89 [(2, 306), (0, x1), (0, x2), (0, x3)] [] I R Q := by
  refine P_iinc (n := 3) (a := 1) (by decide) rfl (q := 92) rfl (by decide +kernel) ?_
  refine P_goto (off := (-88)) (t := 4) (by decide) (by decide +kernel) ?_
  exact h
theorem S_X11_wearers_95 {X : CX} {d : Nat} {x2 : Int} {I R : PF} {Q : PV → PF → PF → Prop} (h : Q (0, x2) I R) : PN X d mX11_wearers 95 [(9, 0), (9, 0), (0, x2)] [] I R Q := by
  refine P_iload_n (n := 2) (q := 96) rfl rfl (by decide +kernel) ?_
  refine P_iret rfl (by decide +kernel) h
theorem S_X11_wears_0 {X : CX} {d d1 : Nat} {x1 : Int} {I R : PF} {Q Q1 : PV → PF → PF → Prop} (c1 : -2147483648 ≤ x1 ∧ x1 < 2147483648) (c2 : -2147483648 ≤ ((I 306 73) - 1) ∧ ((I 306 73) - 1) < 2147483648) (e1 : d1 + 1 ≤ d) (hc : CN X d1 mX11_isIn [(1, x1), (1, 0), (1, ((I 306 73) - 1))] I R Q1) (h : ∀ z I2 R2, Q1 (0, z) I2 R2 → PN X d mX11_wears 13 [(2, 306), (0, x1)] [(0, z)] I2 R2 Q) : PN X d mX11_wears 0 [(2, 306), (0, x1)] [] I R Q := by
  refine P_iload_n (n := 1) (q := 1) rfl rfl (by decide +kernel) ?_
  refine B_i2l (q := 2) c1 rfl (by decide +kernel) ?_
  refine P_lconst (n := 0) (x := 0) (q := 3) rfl rfl (by decide +kernel) ?_
  refine P_aload_n (n := 0) (q := 4) rfl rfl (by decide +kernel) ?_
  refine P_getf (q := 7) fX11_309 kM306 rfl (by decide +kernel) ?_
  refine P_iconst (n := 1) (q := 8) rfl (by decide +kernel) ?_
  refine P_isub (q := 9) rfl (by decide +kernel) ?_
  refine B_i2l (q := 10) c2 rfl (by decide +kernel) ?_
  refine P_invS (As := [(1, x1), (1, 0), (1, ((I 306 73) - 1))]) (q := 13) oX11_isIn rfl (Or.inl kX11_57) e1 hMF (Nat.le_of_ble_eq_true rfl) hc rfl (by decide +kernel) (fun z I2 R2 hq => ?_)
  exact (h z I2 R2 hq)
theorem S_X11_wears_13 {X : CX} {d : Nat} {x1 o0 : Int} {I R : PF} {Q : PV → PF → PF → Prop} (c1 : -2147483648 ≤ o0 ∧ o0 < 2147483648) (h1 : o0 = 0 → PN X d mX11_wears 24 [] [] I R Q) (h2 : o0 ≠ 0 → PN X d mX11_wears 16 [(2, 306), (0, x1)] [] I R Q) : PN X d mX11_wears 13 [(2, 306), (0, x1)] [(0, o0)] I R Q := by
  refine B_if_eq (off := 11) (t := 24) (q := 16) c1 (by decide) rfl (by decide +kernel) ?_ ?_
  · exact fun g9 => (PW_sub (ls' := []) trivial (h1 g9))
  · exact fun g9 => (h2 g9)
theorem S_X11_wears_16 {X : CX} {d d1 : Nat} {x1 : Int} {I R : PF} {Q Q1 : PV → PF → PF → Prop} (e1 : d1 + 1 ≤ d) (hc : CN X d1 mX11_wearers [(2, 306), (0, x1)] I R Q1) (h : ∀ z I2 R2, Q1 (0, z) I2 R2 → PN X d mX11_wears 21 [] [(0, z)] I2 R2 Q) : PN X d mX11_wears 16 [(2, 306), (0, x1)] [] I R Q := by
  refine P_aload_n (n := 0) (q := 17) rfl rfl (by decide +kernel) ?_
  refine P_iload_n (n := 1) (q := 18) rfl rfl (by decide +kernel) ?_
  refine P_invV (As := [(0, x1)]) (q := 21) oX11_wearers rfl kM306 kX11_582 e1 hMF (Nat.le_of_ble_eq_true rfl) hc rfl (by decide +kernel) (fun z I2 R2 hq => ?_)
  exact (PW_sub (ls' := []) trivial (h z I2 R2 hq))
theorem S_X11_wears_21 {X : CX} {d : Nat} {o0 : Int} {I R : PF} {Q : PV → PF → PF → Prop} (h : PN X d mX11_wears 25 [] [(0, o0)] I R Q) : PN X d mX11_wears 21 [] [(0, o0)] I R Q := by
  refine P_goto (off := 4) (t := 25) (by decide) (by decide +kernel) ?_
  exact (PW_sub (ls' := []) trivial h)
theorem S_X11_wears_24 {X : CX} {d : Nat} {I R : PF} {Q : PV → PF → PF → Prop} (h : PN X d mX11_wears 25 [] [(0, (-1))] I R Q) : PN X d mX11_wears 24 [] [] I R Q := by
  refine P_iconst (n := (-1)) (q := 25) rfl (by decide +kernel) ?_
  exact (PW_sub (ls' := []) trivial h)
theorem S_X11_wears_25 {X : CX} {d : Nat} {o0 : Int} {I R : PF} {Q : PV → PF → PF → Prop} (h : Q (0, o0) I R) : PN X d mX11_wears 25 [] [(0, o0)] I R Q := by
  refine P_iret rfl (by decide +kernel) h
theorem S_X11_windNow_0 {X : CX} {d : Nat} {I R : PF} {Q : PV → PF → PF → Prop} (hs : Shp R) (c1 : -2147483648 ≤ (I 345 2) ∧ (I 345 2) < 2147483648) (h1 : (I 345 2) ≠ (-1) → PN X d mX11_windNow 12 [(2, 306)] [] I R Q) (h2 : (I 345 2) = (-1) → PN X d mX11_windNow 10 [] [] I R Q) : PN X d mX11_windNow 0 [(2, 306)] [] I R Q := by
  refine P_aload_n (n := 0) (q := 1) rfl rfl (by decide +kernel) ?_
  refine B_getfR (q := 4) fX11_229 kM306 (rM306_50 hs) rfl (by decide +kernel) ?_
  refine P_iconst (n := 2) (q := 5) rfl (by decide +kernel) ?_
  refine B_iaload (q := 6) kM345 nM345 (by decide) ⟨by decide, by decide⟩ rfl (by decide +kernel) ?_
  refine P_iconst (n := (-1)) (q := 7) rfl (by decide +kernel) ?_
  refine B_icmp_ne (off := 5) (t := 12) (q := 10) c1 ⟨by decide, by decide⟩ (by decide) rfl (by decide +kernel) ?_ ?_
  · exact fun g9 => (h1 g9)
  · exact fun g9 => (PW_sub (ls' := []) trivial (h2 g9))
theorem S_X11_windNow_10 {X : CX} {d : Nat} {I R : PF} {Q : PV → PF → PF → Prop} (h : Q (0, 0) I R) : PN X d mX11_windNow 10 [] [] I R Q := by
  refine P_iconst (n := 0) (q := 11) rfl (by decide +kernel) ?_
  refine P_iret rfl (by decide +kernel) h
theorem S_X11_windNow_12 {X : CX} {d d1 : Nat} {I R : PF} {Q Q1 : PV → PF → PF → Prop} (e1 : d1 + 1 ≤ d) (hc : CN X d1 mX11_codesTell [(2, 306), (0, 0), (0, 0)] (u2 I 306 62 (I 306 66)) R Q1) (h : ∀ z I2 R2, Q1 (1, z) I2 R2 → PN X d mX11_windNow 26 [] [(1, z)] I2 R2 Q) : PN X d mX11_windNow 12 [(2, 306)] [] I R Q := by
  refine P_aload_n (n := 0) (q := 13) rfl rfl (by decide +kernel) ?_
  refine P_aload_n (n := 0) (q := 14) rfl rfl (by decide +kernel) ?_
  refine P_getf (q := 17) fX11_456 kM306 rfl (by decide +kernel) ?_
  refine P_putI (q := 20) wX11_459 (fun h => by cases h) kM306 rfl (by decide +kernel) ?_
  refine P_aload_n (n := 0) (q := 21) rfl rfl (by decide +kernel) ?_
  refine P_iconst (n := 0) (q := 22) rfl (by decide +kernel) ?_
  refine P_iconst (n := 0) (q := 23) rfl (by decide +kernel) ?_
  refine P_invV (As := [(0, 0), (0, 0)]) (q := 26) oX11_codesTell rfl kM306 kX11_462 e1 hMF (Nat.le_of_ble_eq_true rfl) hc rfl (by decide +kernel) (fun z I2 R2 hq => ?_)
  exact (PW_sub (ls' := []) trivial (h z I2 R2 hq))
theorem S_X11_windNow_26 {X : CX} {d : Nat} {v0 : Int} {I R : PF} {Q : PV → PF → PF → Prop} (c1 : -9223372036854775808 ≤ v0 ∧ v0 < 9223372036854775808) (c2 : -2147483648 ≤ (v0.tmod 9) ∧ (v0.tmod 9) < 2147483648) (h1 : 0 ≤ (v0.tmod 9) → PN X d mX11_windNow 43 [(9, 0), (0, (v0.tmod 9))] [] I R Q) (h2 : (v0.tmod 9) < 0 → PN X d mX11_windNow 36 [(9, 0), (0, (v0.tmod 9))] [] I R Q) : PN X d mX11_windNow 26 [] [(1, v0)] I R Q := by
  refine P_ldc2 (ix := 465) (v := 9) (x := 9) (q := 29) rfl (tGp8 107 rfl rfl) rfl (by decide +kernel) ?_
  refine B_lrem (q := 30) c1 ⟨by decide, by decide⟩ (by decide) rfl (by decide +kernel) ?_
  refine P_l2i (q := 31) rfl (by decide +kernel) ?_
  refine P_istore_n (n := 1) (by decide) (q := 32) rfl (by decide +kernel) ?_
  refine P_iload_n (n := 1) (q := 33) rfl rfl (by decide +kernel) ?_
  refine B_if_ge (off := 10) (t := 43) (q := 36) c2 (by decide) rfl (by decide +kernel) ?_ ?_
  · exact fun g9 => (h1 g9)
  · exact fun g9 => (h2 g9)
theorem S_X11_windNow_36 {X : CX} {d : Nat} {x1 : Int} {I R : PF} {Q : PV → PF → PF → Prop} (h : PN X d mX11_windNow 44 [] [(0, (x1 + 9))] I R Q) : PN X d mX11_windNow 36 [(9, 0), (0, x1)] [] I R Q := by
  refine P_iload_n (n := 1) (q := 37) rfl rfl (by decide +kernel) ?_
  refine P_bipush (n := 9) (q := 39) rfl rfl (by decide +kernel) ?_
  refine P_iadd (q := 40) rfl (by decide +kernel) ?_
  refine P_goto (off := 4) (t := 44) (by decide) (by decide +kernel) ?_
  exact (PW_sub (ls' := []) trivial h)
theorem S_X11_windNow_43 {X : CX} {d : Nat} {x1 : Int} {I R : PF} {Q : PV → PF → PF → Prop} (h : PN X d mX11_windNow 44 [] [(0, x1)] I R Q) : PN X d mX11_windNow 43 [(9, 0), (0, x1)] [] I R Q := by
  refine P_iload_n (n := 1) (q := 44) rfl rfl (by decide +kernel) ?_
  exact (PW_sub (ls' := []) trivial h)
theorem S_X11_windNow_44 {X : CX} {d : Nat} {o0 : Int} {I R : PF} {Q : PV → PF → PF → Prop} (h : Q (0, o0) I R) : PN X d mX11_windNow 44 [] [(0, o0)] I R Q := by
  refine P_iret rfl (by decide +kernel) h
theorem S_X11_woreBy_0 {X : CX} {d : Nat} {x1 : Int} {I R : PF} {Q : PV → PF → PF → Prop} (hs : Shp R) (b1 : (0 : Int) ≤ ((3 + (5 * x1)) + 4) ∧ ((3 + (5 * x1)) + 4) < 154) (h : Q (0, (I 348 ((3 + (5 * x1)) + 4))) I R) : PN X d mX11_woreBy 0 [(2, 306), (0, x1)] [] I R Q := by
  refine P_aload_n (n := 0) (q := 1) rfl rfl (by decide +kernel) ?_
  refine B_getfR (q := 4) fX11_303 kM306 (rM306_59 hs) rfl (by decide +kernel) ?_
  refine P_iconst (n := 3) (q := 5) rfl (by decide +kernel) ?_
  refine P_iconst (n := 5) (q := 6) rfl (by decide +kernel) ?_
  refine P_iload_n (n := 1) (q := 7) rfl rfl (by decide +kernel) ?_
  refine P_imul (q := 8) rfl (by decide +kernel) ?_
  refine P_iadd (q := 9) rfl (by decide +kernel) ?_
  refine P_iconst (n := 4) (q := 10) rfl (by decide +kernel) ?_
  refine P_iadd (q := 11) rfl (by decide +kernel) ?_
  refine B_iaload (q := 12) kM348 nM348 (by decide) b1 rfl (by decide +kernel) ?_
  refine P_iret rfl (by decide +kernel) h
theorem S_X11_writes_0 {X : CX} {d : Nat} {x1 : Int} {I R : PF} {Q : PV → PF → PF → Prop} (hs : Shp R) (b1 : (0 : Int) ≤ (I 306 114) ∧ (I 306 114) < 41) (h : Q (9, 0) (u2 (u2 I 382 (I 306 114) x1) 306 114 (((u2 I 382 (I 306 114) x1) 306 114) + 1)) R) : PN X d mX11_writes 0 [(2, 306), (0, x1)] [] I R Q := by
  refine P_aload_n (n := 0) (q := 1) rfl rfl (by decide +kernel) ?_
  refine B_getfR (q := 4) fX11_417 kM306 (rM306_113 hs) rfl (by decide +kernel) ?_
  refine P_aload_n (n := 0) (q := 5) rfl rfl (by decide +kernel) ?_
  refine P_getf (q := 8) fX11_699 kM306 rfl (by decide +kernel) ?_
  refine P_iload_n (n := 1) (q := 9) rfl rfl (by decide +kernel) ?_
  refine B_iastore (q := 10) kM382 nM382 (by decide) b1 rfl (by decide +kernel) ?_
  refine P_aload_n (n := 0) (q := 11) rfl rfl (by decide +kernel) ?_
  refine P_dup (q := 12) (Nat.ne_of_beq_eq_false rfl) rfl (by decide +kernel) ?_
  refine P_getf (q := 15) fX11_699 kM306 rfl (by decide +kernel) ?_
  refine P_iconst (n := 1) (q := 16) rfl (by decide +kernel) ?_
  refine P_iadd (q := 17) rfl (by decide +kernel) ?_
  refine P_putI (q := 20) wX11_699 (fun h => by cases h) kM306 rfl (by decide +kernel) ?_
  refine P_vret rfl (by decide +kernel) h
